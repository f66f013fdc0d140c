-- MOST: rows of clocks, the first of the best
def updM (v : Nat) (l : List Nat) : Best → Best
  | none => some (v, l)
  | some (w, r) => if v ≤ w then some (w, r) else some (v, l)
def srchR (N : Nat) (val : List Nat → Nat) : Nat → List Nat → Best → Best
  | 0, l, b => updM (val l) l b
  | m + 1, l, b => itr (fun i b => srchR N val m (l ++ [i]) b) N 0 b
def stepR (N n : Nat) (val : List Nat → Nat) (x : Nat) (b : Best) : Best := updM (val (digs N n x)) (digs N n x) b
theorem blkR {N n : Nat} {val : List Nat → Nat} (hN : 0 < N) : ∀ (m d P : Nat) (b : Best), d + m = n → itr (stepR N n val) (N ^ m) (P * N ^ m) b = srchR N val m (digs N d P) b
  | 0, d, P, b, hd => by
    rw [Nat.pow_zero, Nat.mul_one]
    rw [Nat.add_zero] at hd
    rw [← hd]; rfl
  | m + 1, d, P, b, hd => by
    have e : itr (stepR N n val) (N ^ (m + 1)) (P * N ^ (m + 1)) b = itr (fun i b => itr (stepR N n val) (N ^ m) (P * N ^ (m + 1) + i * N ^ m) b) N 0 b := by
      have := itr_mul (f := stepR N n val) (K := N ^ m) (a := P * N ^ (m + 1)) N 0 b
      rw [Nat.zero_mul, Nat.add_zero] at this
      rw [← this, Nat.pow_succ, Nat.mul_comm N (N ^ m)]
    have a : ∀ x, P * N ^ (m + 1) + x * N ^ m = (N * P + x) * N ^ m := fun x => by rw [Nat.pow_succ, Nat.add_mul, Nat.mul_comm (N ^ m) N, ← Nat.mul_assoc, Nat.mul_comm P N]
    rw [e]
    show _ = itr (fun i b => srchR N val m (digs N d P ++ [i]) b) N 0 b
    refine itr_congr N 0 b (fun x b h1 h2 => ?_)
    rw [a x, ← digs_step (by omega)]
    exact blkR hN m (d + 1) (N * P + x) b (by omega)
theorem allR {N n : Nat} {val : List Nat → Nat} (hN : 0 < N) (b : Best) : itr (stepR N n val) (N ^ n) 0 b = srchR N val n [] b := by
  have := blkR (n := n) (val := val) hN n 0 0 b (by omega)
  rw [Nat.zero_mul] at this
  exact this
theorem updM_some (v : Nat) (l : List Nat) (b : Best) : updM v l b ≠ none := by
  unfold updM
  split
  · simp
  · split <;> simp
theorem itrR_some {N n : Nat} {val : List Nat → Nat} : ∀ (j a : Nat) (b : Best), 0 < j → itr (stepR N n val) j a b ≠ none
  | j + 1, a, b, _ => by
    show itr (stepR N n val) j (a + 1) (stepR N n val a b) ≠ none
    exact itr_keep (P := fun b => b ≠ none) (fun x b _ => updM_some _ _ b) j (a + 1) _ (updM_some _ _ b)
theorem digs_get {B : Nat} : ∀ (k i x : Nat), i < k → (digs B k x).getD i 0 = x / B ^ (k - 1 - i) % B
  | k + 1, i, x, hi => by
    show (digs B k (x / B) ++ [x % B]).getD i 0 = _
    rw [getD_snoc (by rw [digs_len]; omega), digs_len]
    by_cases h : i < k
    · rw [if_pos h, digs_get k i (x / B) h, Nat.div_div_eq_div_mul, ← Nat.pow_succ', show (k - 1 - i).succ = k + 1 - 1 - i by omega]
    · rw [if_neg h, show k + 1 - 1 - i = 0 by omega, Nat.pow_zero, Nat.div_one]
def evW (b : Bn) (g : SG) : List Nat → CS → CS
  | [], cs => cs
  | c :: l, cs => evW b g l (evening b g c cs).2
theorem evW_snoc {b : Bn} {g : SG} {i : Nat} : ∀ (l : List Nat) (cs : CS), evW b g (l ++ [i]) cs = (evening b g i (evW b g l cs)).2
  | [], _ => rfl
  | _ :: l, _ => evW_snoc l _
theorem evW_1 {b : Bn} {g : SG} : ∀ (l : List Nat) (cs : CS), (evW b g l cs).1 = cs.1 + l.length
  | [], _ => rfl
  | c :: l, cs => by
    show (evW b g l (evening b g c cs).2).1 = _
    rw [evW_1 l, evening_1, List.length_cons]; omega
def upW (b : Bn) (g : SG) (cs : CS) (l : List Nat) : Nat := upsA (evW b g l cs) g.1
theorem rowC' {F n : Nat} {g : SG} {b : Bn} {cs : CS} (hF : 100 ≤ F) (hg : g.1 ≤ 6) (hn : n ≤ 5) (ht : cs.1 ≤ 20000) : ∀ (m D : Nat) (l : List Nat) (best : Best) (h : PH), m < D → l.length + m = n → EnvC h g b → RepC h (42 + 3 * l.length) (evW b g l cs) → (∀ k, k < l.length → h.1 40 k = nI (l.getD k 0)) → BestC h best →
    ∃ h', f_X4_tryRows F D (nI l.length) (nI n) h = some ((), h') ∧ FrD l.length h h' ∧ BestC h' (srchR g.1 (upW b g cs) m l best) := by
  intro m
  induction m with
  | zero =>
    intro D l best h hD hl e r hr bc
    obtain ⟨D, rfl⟩ : ∃ m, D = m + 1 := ⟨D - 1, by omega⟩
    have hup : upW b g cs l ≤ 6 := by have := upsA_le (evW b g l cs) g.1; unfold upW; omega
    obtain ⟨h1, k1, k2, k3⟩ := keepC (F := F) (v := upW b g cs l) (l := l) (by omega) (by omega) hr
    show ∃ h', b_X4_tryRows F (f_X4_tryRows F D) (nI l.length) (nI n) h = some ((), h') ∧ FrD l.length h h' ∧ BestC h' (updM (upW b g cs l) l best)
    unfold b_X4_tryRows fL_X4_tryRows_11
    rw [if_l (by omega) (by omega), if_pos (show n ≤ l.length by omega), if_pos (inb_nI (show l.length < 7 by omega) (by decide)), ix_nI (by omega), upsC (by omega) (isCourse_at (by omega)) e r (by rw [evW_1]; omega), bnd_some]
    rw [show nI (upsA (evW b g l cs) g.1) = nI (upW b g cs l) from rfl, k1, bnd_some]
    match best, bc with
    | none, bc =>
      have bc' : h.1 38 4 = -5 := bc
      rw [bc', if_neg (show ¬ nI (upW b g cs l) ≤ (-5 : Int32) from fun z => by
        have := Int32.le_iff_toInt_le.mp z
        rw [nI_toInt (by omega), show (-5 : Int32).toInt = -5 by decide] at this
        omega)]
      exact ⟨h1, rfl, k2.down (by omega), k3⟩
    | some (v, q), bc =>
      obtain ⟨b1, b2, b3⟩ := bc
      rw [b1, if_l (by omega) (by omega)]
      show ∃ h', _ ∧ _ ∧ BestC h' (if upW b g cs l ≤ v then some (v, q) else some (upW b g cs l, l))
      by_cases hle : upW b g cs l ≤ v
      · rw [if_pos hle, if_pos hle]
        exact ⟨h, rfl, FrD.refl _ _, b1, b2, b3⟩
      · rw [if_neg hle, if_neg hle]
        exact ⟨h1, rfl, k2.down (by omega), k3⟩
  | succ m ih =>
    intro D l best h hD hl e r hr bc
    obtain ⟨D, rfl⟩ : ∃ m, D = m + 1 := ⟨D - 1, by omega⟩
    have hin6 : inb (nI l.length) 6 = true := inb_nI (by omega) (by decide)
    have hin7 : inb (nI l.length) 7 = true := inb_nI (by omega) (by decide)
    have hin7' : inb (nI (l.length + 1)) 7 = true := inb_nI (by omega) (by decide)
    have ev1 := evW_1 (b := b) (g := g) l cs
    have loop : ∀ (j i f : Nat) (best : Best) (h1 : PH), i + j = g.1 → j < f → FrD l.length h h1 → BestC h1 best → ∃ h', fL_X4_tryRows_41 F (f_X4_tryRows F D) f (nI l.length) (nI n) (nI i) h1 = some ((), h') ∧ FrD l.length h h' ∧ BestC h' (itr (fun i b' => srchR g.1 (upW b g cs) m (l ++ [i]) b') j i best) := by
      intro j
      induction j with
      | zero =>
        intro i f best h1 hi hf fr bc1
        obtain ⟨f, rfl⟩ : ∃ m, f = m + 1 := ⟨f - 1, by omega⟩
        have e1 := fr.env e
        exact ⟨h1, by rw [fL_X4_tryRows_41, e1.1, if_l (by omega) (by omega), if_pos (show g.1 ≤ i by omega)], fr, bc1⟩
      | succ j ihj =>
        intro i f best h1 hi hf fr bc1
        obtain ⟨f, rfl⟩ : ∃ m, f = m + 1 := ⟨f - 1, by omega⟩
        have e1 := fr.env e
        rw [fL_X4_tryRows_41, e1.1, if_l (by omega) (by omega), if_neg (show ¬ g.1 ≤ i by omega), if_pos hin6, lth_eq, ix_nI (by omega), nI_1, if_pos hin7', if_pos hin7, ix_nI (by omega)]
        have fr1 : FrD l.length h (wI h1 40 l.length (nI i)) := fr.trans (FrD.w40 (Nat.le_refl _))
        have r1 : RepC (wI h1 40 l.length (nI i)) (42 + 3 * l.length) (evW b g l cs) := r.eq (fr1.2.2.2.1 _ (by omega) (by omega)) (fr1.2.2.2.1 _ (by omega) (by omega)) (fr1.2.2.2.1 _ (by omega) (by omega))
        obtain ⟨h2, c1, c2, c3⟩ := copyC (F := F) (t := 42 + 3 * (l.length + 1)) (a := 42 + 3 * l.length) (by omega) (isCourse_at (by omega)) (isCourse_at (by omega)) (by omega) r1
        have fr2 : FrD l.length h h2 := fr1.trans (c2.d (by omega) (by omega))
        obtain ⟨h3, t1, t2, t3⟩ := eveningC (F := F) (k := 42 + 3 * (l.length + 1)) (c := i) (by omega) (isCourse_at (by omega)) (by omega) (fr2.env e) c3 (by omega)
        have fr3 : FrD l.length h h3 := fr2.trans (t2.d (by omega) (by omega))
        have hlen : (l ++ [i]).length = l.length + 1 := by rw [List.length_append, List.length_singleton]
        have row3 : h3.1 40 = (wI h1 40 l.length (nI i)).1 40 := by rw [t2.1 40 (by omega) (by omega) (by omega), c2.1 40 (by omega) (by omega) (by omega)]
        have bc3 : BestC h3 best := bc1.eq (by rw [t2.1 38 (by omega) (by omega) (by omega), c2.1 38 (by omega) (by omega) (by omega), rI_ne (by decide)]) (by rw [t2.1 41 (by omega) (by omega) (by omega), c2.1 41 (by omega) (by omega) (by omega), rI_ne (by decide)])
        obtain ⟨h4, g1, g2, g3⟩ := ih D (l ++ [i]) best h3 (by omega) (by omega) (fr3.env e) (by rw [hlen, evW_snoc]; exact t3) (fun k hk => by
          rw [row3, getD_snoc (by omega), rI]
          by_cases hkl : k < l.length
          · rw [if_neg (by omega), if_pos hkl, fr.2.2.1 k hkl]; exact hr k hkl
          · rw [if_pos ⟨rfl, by omega⟩, if_neg hkl]) bc3
        rw [hlen] at g1 g2
        rw [c1, bnd_some, if_pos hin7', t1, bnd_some, g1, bnd_some, nI_1]
        exact ihj (i + 1) f _ h4 (by omega) (by omega) (fr3.trans g2.up) g3
    show ∃ h', b_X4_tryRows F (f_X4_tryRows F D) (nI l.length) (nI n) h = some ((), h') ∧ FrD l.length h h' ∧ BestC h' (srchR g.1 (upW b g cs) (m + 1) l best)
    unfold b_X4_tryRows
    rw [if_l (by omega) (by omega), if_neg (show ¬ n ≤ l.length by omega), li6, if_t (by omega) (by decide), if_pos (show l.length < 6 by omega)]
    exact loop g.1 0 F best h (by omega) (by omega) (FrD.refl _ _) bc
theorem srchR_len {N n : Nat} {val : List Nat → Nat} : ∀ (m : Nat) (l : List Nat) (b : Best), l.length + m = n → BestN n b → BestN n (srchR N val m l b)
  | 0, l, b, hl, h => by
    intro v r e
    have e' : updM (val l) l b = some (v, r) := e
    unfold updM at e'
    split at e'
    · injection e' with e'
      injection e' with _ e'
      rw [← e']; omega
    · next w q =>
      split at e'
      · injection e' with e'
        injection e' with _ e'
        rw [← e']; exact h w q rfl
      · injection e' with e'
        injection e' with _ e'
        rw [← e']; omega
  | m + 1, l, b, hl, h => by
    show BestN n (itr (fun i b => srchR N val m (l ++ [i]) b) N 0 b)
    refine itr_keep (fun x b hb => ?_) N 0 b h
    exact srchR_len m (l ++ [x]) b (by rw [List.length_append, List.length_singleton]; omega) hb
/-- the answer of most -/
theorem mostC {F n : Nat} {h : PH} {g : SG} {b : Bn} {cs : CS} {x : Int32} (hF : 100 ≤ F) (e : EnvC h g b) (r : RepC h 6 cs) (ht : cs.1 ≤ 9999) (hn1 : 1 ≤ n) (hn : n ≤ 5) (h1 : 0 < g.1) (hx : ¬ wth x (-1) 4 = 0) : ∃ h', f_X9_most F (nI n) x h = some (ansS n (srchR g.1 (upW b g cs) n [] none) x, h') ∧ KC h h' ∧ (∀ a, 1 ≤ a → a ≤ 8 → h'.1 a = h.1 a) := by
  have hg := e.2.1
  have f0 : FrD 0 h (wI h 38 4 (-5)) := ⟨fun a u => rI_ne (by omega), fun i u => rI_sl u, fun i u => absurd u (by omega), fun a u v => rI_ne (by omega), rfl⟩
  have r0 : RepC (wI h 38 4 (-5)) 6 cs := r.eq (rI_ne (by decide)) (rI_ne (by decide)) (rI_ne (by decide))
  obtain ⟨h1', c1, c2, c3⟩ := copyC (F := F) (t := 42) (a := 6) (by omega) (by decide) (by decide) (by decide) r0
  have kc : ∀ h2 : PH, (∀ a, (a < 38 ∨ 63 ≤ a ∨ a = 39) → h2.1 a = h.1 a) → h2.2 = h.2 → KC h h2 := fun h2 u v => ⟨fun a ha => u a (by omega), by rw [u 31 (by omega)], v⟩
  have f1 : ∀ a, (a < 38 ∨ 63 ≤ a ∨ a = 39) → h1'.1 a = h.1 a := fun a u => (c2.1 a (by omega) (by omega) (by omega)).trans (f0.1 a u)
  have l1 : h1'.2 = h.2 := c2.2
  obtain ⟨h2, d1, d2, d3⟩ := rowC' (F := F) (n := n) (g := g) (b := b) (cs := cs) hF hg hn (by omega) n 50 [] none h1' (by omega) (by simp) (e.eq (fun a ha => f1 a (by omega)) (by rw [l1])) c3 (fun k hk => absurd hk (by simp)) (by show h1'.1 38 4 = -5; rw [c2.1 38 (by decide) (by decide) (by decide), rI_eq])
  have fo : f_X4_findRow F (nI n) h = some ((), h2) := by
    unfold f_X4_findRow
    rw [lth_eq, if_pos (show inb (0 : Int32) 7 = true by decide), show 42 + 3 * ix (0 : Int32) = 42 from rfl, c1, bnd_some]
    rw [show f_X4_tryRows F 50 (0 : Int32) (nI n) h1' = _ from d1, bnd_some]
  have f2 : ∀ a, (a < 38 ∨ 63 ≤ a ∨ a = 39) → h2.1 a = h.1 a := fun a u => (d2.1 a u).trans (f1 a u)
  have l2 : h2.2 = h.2 := d2.2.2.2.2.trans l1
  have some' : srchR g.1 (upW b g cs) n [] none ≠ none := by
    rw [← allR h1]
    exact itrR_some _ _ _ (Nat.pow_pos h1)
  have len := srchR_len (N := g.1) (n := n) (val := upW b g cs) n [] none (by simp) (fun v r q => by cases q)
  have hwn : wth (nI n) 1 5 = 1 := by
    unfold wth
    rw [li1, li5, if_t (by omega) (by decide), if_neg (by omega), if_t (by decide) (by omega), if_neg (by omega)]
  unfold f_X9_most
  rw [within_eq, bnd_some, if_neg hx, within_eq, bnd_some, hwn, if_neg (show ¬ (1 : Int32) = 0 by decide), e.1, if_neg (nI_ne0 h1 (by omega))]
  generalize hB : srchR g.1 (upW b g cs) n [] none = B at *
  match B, some', len, d3 with
  | some (v, q), _, len, d3 =>
    have hq : q.length = n := len v q rfl
    obtain ⟨b1, b2, b3⟩ := d3
    show ∃ h', _ = some ((if x < 0 then nI v else if nI n ≤ x then -5 else nI (q.getD (ix x) 0)), h') ∧ _ ∧ _
    by_cases h0 : x < 0
    · have hlt : ¬ nI n ≤ x := by
        rw [Int32.lt_iff_toInt_lt] at h0
        rw [Int32.le_iff_toInt_le, nI_toInt (by omega)]
        have e0 : (0 : Int32).toInt = 0 := by decide
        omega
      rw [if_neg hlt, fo, bnd_some, if_neg (Int32.not_le.mpr h0), b1, if_pos h0]
      exact ⟨h2, rfl, kc h2 f2 l2, fun a u v => f2 a (by omega)⟩
    · obtain ⟨k, hk, rfl⟩ := nI_of h0
      have hk4 : k ≤ 4 := by
        obtain ⟨_, h5⟩ := wth_ne hx
        exact (nI_leI hk (by decide)).mp (show nI k ≤ nI 4 from h5)
      rw [if_neg h0, if_l (by omega) (by omega), if_l (by omega) (by omega)]
      by_cases hkn : n ≤ k
      · rw [if_pos hkn, if_pos hkn]
        exact ⟨h, rfl, KC.refl h, fun _ _ _ => rfl⟩
      · rw [if_neg hkn, if_neg hkn, fo, bnd_some, if_pos (Int32.not_lt.mp h0), if_pos (inb_nI (by omega) (by decide)), ix_nI (by omega), b3 k (by omega)]
        exact ⟨h2, rfl, kc h2 f2 l2, fun a u v => f2 a (by omega)⟩
  | none, some', _, _ => exact absurd rfl some'
