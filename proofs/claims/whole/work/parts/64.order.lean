-- SOONEST: the class
def goW (b : Bn) (g : SG) (c : Nat) : Nat → Nat → CS → Nat × CS
  | 0, k, cs => (k, cs)
  | j + 1, k, cs => if cs.2.1 c = cs.1 then (k, cs) else if cs.2.2 c = true then (k, cs) else goW b g c j (k + 1) (evening b g c cs).2
theorem goW_le {b : Bn} {g : SG} {c : Nat} : ∀ (j k : Nat) (cs : CS), k ≤ (goW b g c j k cs).1 ∧ (goW b g c j k cs).1 ≤ k + j ∧ (goW b g c j k cs).2.1 ≤ cs.1 + j
  | 0, k, cs => ⟨Nat.le_refl _, Nat.le_refl _, Nat.le_refl _⟩
  | j + 1, k, cs => by
    unfold goW
    split
    · exact ⟨Nat.le_refl _, by show k ≤ _; omega, by show cs.1 ≤ _; omega⟩
    · split
      · exact ⟨Nat.le_refl _, by show k ≤ _; omega, by show cs.1 ≤ _; omega⟩
      · have h := goW_le (b := b) (g := g) (c := c) j (k + 1) (evening b g c cs).2
        rw [evening_1] at h
        omega
def runW (b : Bn) (g : SG) : List Nat → Nat × CS → Nat × CS
  | [], x => x
  | c :: l, x => runW b g l (x.1 + (goW b g c 20 0 x.2).1, (goW b g c 20 0 x.2).2)
theorem runW_snoc {b : Bn} {g : SG} {i : Nat} : ∀ (l : List Nat) (x : Nat × CS), runW b g (l ++ [i]) x = ((runW b g l x).1 + (goW b g i 20 0 (runW b g l x).2).1, (goW b g i 20 0 (runW b g l x).2).2)
  | [], _ => rfl
  | c :: l, x => runW_snoc l _
theorem runW_le {b : Bn} {g : SG} : ∀ (l : List Nat) (x : Nat × CS), (runW b g l x).1 ≤ x.1 + 20 * l.length ∧ (runW b g l x).2.1 ≤ x.2.1 + 20 * l.length
  | [], x => ⟨Nat.le_refl _, Nat.le_refl _⟩
  | c :: l, x => by
    have h := runW_le (b := b) (g := g) l (x.1 + (goW b g c 20 0 x.2).1, (goW b g c 20 0 x.2).2)
    have h2 := goW_le (b := b) (g := g) (c := c) 20 0 x.2
    have h1 : (runW b g (c :: l) x) = runW b g l (x.1 + (goW b g c 20 0 x.2).1, (goW b g c 20 0 x.2).2) := rfl
    rw [h1, List.length_cons]
    have e1 : ((x.1 + (goW b g c 20 0 x.2).1, (goW b g c 20 0 x.2).2) : Nat × CS).1 = x.1 + (goW b g c 20 0 x.2).1 := rfl
    have e2 : ((x.1 + (goW b g c 20 0 x.2).1, (goW b g c 20 0 x.2).2) : Nat × CS).2.1 = (goW b g c 20 0 x.2).2.1 := rfl
    rw [e1, e2] at h
    omega
def costW (b : Bn) (g : SG) (cs : CS) (l : List Nat) : Nat := (runW b g l (0, cs)).1
theorem costW_mono {b : Bn} {g : SG} {cs : CS} (l : List Nat) (i : Nat) : costW b g cs l ≤ costW b g cs (l ++ [i]) := by
  unfold costW
  rw [runW_snoc]
  exact Nat.le_add_right _ _
theorem turnC {F k c : Nat} {h0 : PH} {g : SG} {b : Bn} (hF : 100 ≤ F) (hk : isCourse k = true) (hc : c < g.1) (e0 : EnvC h0 g b) : ∀ (j i f : Nat) (cs : CS) (h : PH), i + j = 20 → j < f → cs.1 < 2 ^ 20 + i → FrC k h0 h → RepC h k cs →
    ∃ h', fL_X4_turn_2 F f k (nI c) (nI i) h = some (nI (goW b g c j i cs).1, h') ∧ FrC k h0 h' ∧ RepC h' k (goW b g c j i cs).2 := by
  have h6 : c < 6 := Nat.lt_of_lt_of_le hc e0.2.1
  intro j
  induction j with
  | zero =>
    intro i f cs h hi hf ht fr r
    obtain ⟨f, rfl⟩ : ∃ m, f = m + 1 := ⟨f - 1, by omega⟩
    rw [fL_X4_turn_2, show (20 : Int32) = nI 20 from rfl, if_l (by decide) (by omega), if_pos (show 20 ≤ i by omega)]
    exact ⟨h, rfl, fr, r⟩
  | succ j ih =>
    intro i f cs h hi hf ht fr r
    obtain ⟨f, rfl⟩ : ∃ m, f = m + 1 := ⟨f - 1, by omega⟩
    have hr := r.2 c h6
    rw [fL_X4_turn_2, show (20 : Int32) = nI 20 from rfl, if_l (by decide) (by omega), if_neg (show ¬ 20 ≤ i by omega), isUpC hk r h6 (by omega), bnd_some]
    unfold goW
    by_cases hu : cs.2.1 c = cs.1
    · rw [if_pos hu, if_neg (show ¬ (1 : Int32) = 0 by decide), if_pos hu]
      exact ⟨h, rfl, fr, r⟩
    · rw [if_neg hu, if_pos (show (0 : Int32) = 0 from rfl), if_neg hu, if_pos (inb_nI h6 (by decide)), ix_nI (by omega), hr.2.2]
      by_cases hb : cs.2.2 c = true
      · rw [if_pos hb, if_neg (show ¬ (1 : Int32) = 0 by decide), if_pos hb]
        exact ⟨h, rfl, fr, r⟩
      · rw [if_neg hb, if_pos (show (0 : Int32) = 0 from rfl), if_neg hb]
        obtain ⟨h1, e1, e2, e3⟩ := eveningC (F := F) (by omega) hk hc (fr.env hk e0) r (by omega)
        rw [e1, bnd_some, nI_1]
        exact ih (i + 1) f _ h1 (by omega) (by omega) (by rw [evening_1]; omega) (fr.trans e2) e3
def FrD (d : Nat) (h h' : PH) : Prop := (∀ a, (a < 38 ∨ 63 ≤ a ∨ a = 39) → h'.1 a = h.1 a) ∧ (∀ i, i ≠ 4 → h'.1 38 i = h.1 38 i) ∧ (∀ i, i < d → h'.1 40 i = h.1 40 i) ∧ (∀ a, 42 ≤ a → a < 45 + 3 * d → h'.1 a = h.1 a) ∧ h'.2 = h.2
theorem FrD.refl (d : Nat) (h : PH) : FrD d h h := ⟨fun _ _ => rfl, fun _ _ => rfl, fun _ _ => rfl, fun _ _ _ => rfl, rfl⟩
theorem FrD.trans {d : Nat} {h h1 h2 : PH} (a : FrD d h h1) (b : FrD d h1 h2) : FrD d h h2 := ⟨fun x u => (b.1 x u).trans (a.1 x u), fun i u => (b.2.1 i u).trans (a.2.1 i u), fun i u => (b.2.2.1 i u).trans (a.2.2.1 i u), fun x u v => (b.2.2.2.1 x u v).trans (a.2.2.2.1 x u v), b.2.2.2.2.trans a.2.2.2.2⟩
theorem FrD.up {d : Nat} {h h' : PH} (f : FrD (d + 1) h h') : FrD d h h' := ⟨f.1, f.2.1, fun i u => f.2.2.1 i (by omega), fun a u v => f.2.2.2.1 a u (by omega), f.2.2.2.2⟩
theorem FrD.w40 {d i : Nat} {h : PH} {x : Int32} (hi : d ≤ i) : FrD d h (wI h 40 i x) := ⟨fun a u => rI_ne (by omega), fun j _ => by rw [rI_ne (by decide)], fun j u => rI_sl (by omega), fun a u v => rI_ne (by omega), rfl⟩
theorem FrC.d {d : Nat} {h h' : PH} (hd : d ≤ 6) (h1 : 1 ≤ d) (f : FrC (42 + 3 * d) h h') : FrD (d - 1) h h' := ⟨fun a u => f.1 a (by omega) (by omega) (by omega), fun i _ => by rw [f.1 38 (by omega) (by omega) (by omega)], fun i _ => by rw [f.1 40 (by omega) (by omega) (by omega)], fun a u v => f.1 a (by omega) (by omega) (by omega), f.2⟩
theorem FrD.env {d : Nat} {h h' : PH} {g : SG} {b : Bn} (f : FrD d h h') (e : EnvC h g b) : EnvC h' g b := e.eq (fun a ha => f.1 a (by omega)) (by rw [f.2.2.2.2])
theorem isCourse_at {d : Nat} (hd : d ≤ 6) : isCourse (42 + 3 * d) = true := by
  have : d = 0 ∨ d = 1 ∨ d = 2 ∨ d = 3 ∨ d = 4 ∨ d = 5 ∨ d = 6 := by omega
  rcases this with rfl | rfl | rfl | rfl | rfl | rfl | rfl <;> rfl
def BestC (h : PH) (b : Best) : Prop := match b with | none => h.1 38 4 = -5 | some (v, r) => h.1 38 4 = nI v ∧ v < 2 ^ 20 ∧ ∀ k, k < r.length → h.1 41 k = nI (r.getD k 0)
theorem BestC.eq {h h' : PH} {b : Best} (e1 : h'.1 38 4 = h.1 38 4) (e2 : h'.1 41 = h.1 41) (u : BestC h b) : BestC h' b := by
  unfold BestC at u ⊢
  rw [e1, e2]; exact u
theorem keepC {F v : Nat} {h : PH} {l : List Nat} (hv : v < 2 ^ 20) (hl : l.length ≤ 6) (hr : ∀ k, k < l.length → h.1 40 k = nI (l.getD k 0)) : ∃ h', f_X4_keep F (nI v) h = some ((), h') ∧ FrD 7 h h' ∧ BestC h' (some (v, l)) := by
  unfold f_X4_keep
  rw [lth_eq, if_pos cell6, lth_eq, show ix (0 : Int32) = 0 from rfl, show ix (6 : Int32) = 6 from rfl]
  refine ⟨_, rfl, ⟨fun a u => by rw [rrI, if_neg (by omega), rI_ne (by omega)], fun i u => by rw [rrI, if_neg (by decide), rI_sl u], fun i _ => by rw [rrI, if_neg (by decide), rI_ne (by decide)], fun a u v => by rw [rrI, if_neg (by omega), rI_ne (by omega)], rfl⟩, ?_, hv, fun k hk => ?_⟩
  · rw [rrI, if_neg (by decide), rI_eq]
  · rw [rrI, if_pos rfl, sb_cpy0 (by omega), rI_ne (by decide)]; exact hr k hk
theorem bit_no : ∀ m, m < 64 → ∀ c, c < 6 → (((nI m >>> (nI c &&& 31)) &&& (1 : Int32)) = 0 ↔ m.testBit c = false) := by decide +kernel
theorem FrD.down {d e : Nat} {h h' : PH} (hd : d ≤ e) (f : FrD e h h') : FrD d h h' := ⟨f.1, f.2.1, fun i u => f.2.2.1 i (by omega), fun a u v => f.2.2.2.1 a u (by omega), f.2.2.2.2⟩
theorem getD_snoc {l : List Nat} {i k : Nat} (hk : k ≤ l.length) : (l ++ [i]).getD k 0 = if k < l.length then l.getD k 0 else i := by
  by_cases h1 : k < l.length
  · rw [if_pos h1]
    simp [List.getD, List.getElem?_append_left h1]
  · rw [if_neg h1]
    have h2 : k = l.length := by omega
    subst h2
    simp [List.getD]
/-- the class's search below a row -/
theorem ordC {F : Nat} {g : SG} {b : Bn} {cs : CS} (hF : 100 ≤ F) (hg : g.1 ≤ 6) (ht : cs.1 ≤ 20000) : ∀ (m D : Nat) (l : List Nat) (used : Nat) (best : Best) (h : PH), m < D → l.length + m = g.1 → used < 64 → (∀ i, i < 6 → used.testBit i = decide (i ∈ l)) → EnvC h g b → RepC h (42 + 3 * l.length) (runW b g l (0, cs)).2 → (∀ k, k < l.length → h.1 40 k = nI (l.getD k 0)) → BestC h best →
    ∃ h', f_X4_tryOrders F D (nI l.length) (nI used) (nI (costW b g cs l)) h = some ((), h') ∧ FrD l.length h h' ∧ BestC h' (srchS g.1 (costW b g cs) m l best) := by
  intro m
  induction m with
  | zero =>
    intro D l used best h hD hl hu hb e r hr bc
    obtain ⟨D, rfl⟩ : ∃ m, D = m + 1 := ⟨D - 1, by omega⟩
    have hle := runW_le (b := b) (g := g) l (0, cs)
    have hcost : costW b g cs l ≤ 120 := by unfold costW; have : (0, cs).1 = 0 := rfl; omega
    obtain ⟨h1, k1, k2, k3⟩ := keepC (F := F) (v := costW b g cs l) (l := l) (by omega) (by omega) hr
    show ∃ h', b_X4_tryOrders F (f_X4_tryOrders F D) (nI l.length) (nI used) (nI (costW b g cs l)) h = some ((), h') ∧ FrD l.length h h' ∧ BestC h' (updS (costW b g cs l) l best)
    unfold b_X4_tryOrders
    rw [e.1, if_t (by omega) (by omega), if_neg (show ¬ l.length < g.1 by omega), k1, bnd_some]
    match best, bc with
    | none, bc =>
      have bc' : h.1 38 4 = -5 := bc
      rw [bc', if_pos (show (-5 : Int32) = -5 from rfl)]
      exact ⟨h1, rfl, k2.down (by omega), k3⟩
    | some (v, q), bc =>
      obtain ⟨b1, b2, b3⟩ := bc
      have hv5 : ¬ nI v = (-5 : Int32) := fun z => nI_pos (show v < 2 ^ 31 by omega) (by rw [z]; decide)
      rw [b1, if_neg hv5, if_t (by omega) (by omega)]
      show ∃ h', _ ∧ _ ∧ BestC h' (if v ≤ costW b g cs l then some (v, q) else some (costW b g cs l, l))
      by_cases hlt : costW b g cs l < v
      · rw [if_pos hlt, if_neg (show ¬ v ≤ costW b g cs l by omega)]
        exact ⟨h1, rfl, k2.down (by omega), k3⟩
      · rw [if_neg hlt, if_pos (show v ≤ costW b g cs l by omega)]
        exact ⟨h, rfl, FrD.refl _ _, b1, b2, b3⟩
  | succ m ih =>
    intro D l used best h hD hl hu hb e r hr bc
    obtain ⟨D, rfl⟩ : ∃ m, D = m + 1 := ⟨D - 1, by omega⟩
    have hle := runW_le (b := b) (g := g) l (0, cs)
    have e00 : ((0, cs) : Nat × CS).1 = 0 := rfl
    have e01 : ((0, cs) : Nat × CS).2 = cs := rfl
    rw [e00, e01] at hle
    have hcost : costW b g cs l ≤ 120 := by unfold costW; omega
    have hin6 : inb (nI l.length) 6 = true := inb_nI (by omega) (by decide)
    have hin7 : inb (nI l.length) 7 = true := inb_nI (by omega) (by decide)
    have hin7' : inb (nI (l.length + 1)) 7 = true := inb_nI (by omega) (by decide)
    -- the loop over the next one
    have loop : ∀ (j i f : Nat) (best : Best) (h1 : PH), i + j = g.1 → j < f → FrD l.length h h1 → BestC h1 best → ∃ h', fL_X4_tryOrders_38 F (f_X4_tryOrders F D) f (nI l.length) (nI used) (nI (costW b g cs l)) (nI i) h1 = some ((), h') ∧ FrD l.length h h' ∧ BestC h' (itr (fun i b' => if i ∈ l then b' else srchS g.1 (costW b g cs) m (l ++ [i]) b') j i best) := by
      intro j
      induction j with
      | zero =>
        intro i f best h1 hi hf fr bc1
        obtain ⟨f, rfl⟩ : ∃ m, f = m + 1 := ⟨f - 1, by omega⟩
        have e1 := fr.env e
        exact ⟨h1, by rw [fL_X4_tryOrders_38, e1.1, if_l (by omega) (by omega), if_pos (show g.1 ≤ i by omega)], fr, bc1⟩
      | succ j ihj =>
        intro i f best h1 hi hf fr bc1
        obtain ⟨f, rfl⟩ : ∃ m, f = m + 1 := ⟨f - 1, by omega⟩
        have e1 := fr.env e
        have hbit := bit_no used hu i (by omega)
        rw [fL_X4_tryOrders_38, e1.1, if_l (by omega) (by omega), if_neg (show ¬ g.1 ≤ i by omega)]
        show ∃ h', _ ∧ _ ∧ BestC h' (itr _ j (i + 1) (if i ∈ l then best else srchS g.1 (costW b g cs) m (l ++ [i]) best))
        by_cases hil : i ∈ l
        · rw [if_neg (fun z => by have := hbit.mp z; rw [hb i (by omega), decide_eq_true hil] at this; exact absurd this (by decide)), if_pos hil, nI_1]
          exact ihj (i + 1) f best h1 (by omega) (by omega) fr bc1
        · rw [if_pos (hbit.mpr (by rw [hb i (by omega)]; exact decide_eq_false hil)), if_neg hil, if_pos hin6, lth_eq, ix_nI (by omega), nI_1, if_pos hin7', if_pos hin7, ix_nI (by omega)]
          -- the row, the course
          have fr1 : FrD l.length h (wI h1 40 l.length (nI i)) := fr.trans (FrD.w40 (Nat.le_refl _))
          have r1 : RepC (wI h1 40 l.length (nI i)) (42 + 3 * l.length) (runW b g l (0, cs)).2 := r.eq (fr1.2.2.2.1 _ (by omega) (by omega)) (fr1.2.2.2.1 _ (by omega) (by omega)) (fr1.2.2.2.1 _ (by omega) (by omega))
          obtain ⟨h2, c1, c2, c3⟩ := copyC (F := F) (t := 42 + 3 * (l.length + 1)) (a := 42 + 3 * l.length) (by omega) (isCourse_at (by omega)) (isCourse_at (by omega)) (by omega) r1
          have fr2 : FrD l.length h h2 := fr1.trans (c2.d (by omega) (by omega))
          obtain ⟨h3, t1, t2, t3⟩ := turnC (F := F) (k := 42 + 3 * (l.length + 1)) (c := i) hF (isCourse_at (by omega)) (by omega) (fr2.env e) 20 0 F _ h2 rfl (by omega) (by omega) (FrC.refl _ _) c3
          have fr3 : FrD l.length h h3 := fr2.trans (t2.d (by omega) (by omega))
          have t1' : f_X4_turn F (42 + 3 * (l.length + 1)) (nI i) h2 = some (nI (goW b g i 20 0 (runW b g l (0, cs)).2).1, h3) := by
            unfold f_X4_turn
            rw [if_pos (isCourse_at (by omega))]
            exact t1
          have hset := bit_set used hu i (by omega)
          have hlen : (l ++ [i]).length = l.length + 1 := by rw [List.length_append, List.length_singleton]
          have row3 : h3.1 40 = (wI h1 40 l.length (nI i)).1 40 := by rw [t2.1 40 (by omega) (by omega) (by omega), c2.1 40 (by omega) (by omega) (by omega)]
          have bc3 : BestC h3 best := bc1.eq (by rw [t2.1 38 (by omega) (by omega) (by omega), c2.1 38 (by omega) (by omega) (by omega), rI_ne (by decide)]) (by rw [t2.1 41 (by omega) (by omega) (by omega), c2.1 41 (by omega) (by omega) (by omega), rI_ne (by decide)])
          obtain ⟨h4, g1, g2, g3⟩ := ih D (l ++ [i]) (used ||| 2 ^ i) best h3 (by omega) (by omega) hset.2.1 (fun k hk => by
            rw [hset.2.2 k hk]
            by_cases hki : k = i
            · subst hki; simp
            · rw [if_neg hki, hb k hk]; simp [hki]) (fr3.env e) (by rw [hlen, runW_snoc]; exact t3) (fun k hk => by
            rw [row3, getD_snoc (by omega), rI]
            by_cases hkl : k < l.length
            · rw [if_neg (by omega), if_pos hkl, fr.2.2.1 k hkl]; exact hr k hkl
            · rw [if_pos ⟨rfl, by omega⟩, if_neg hkl]) bc3
          rw [hlen] at g1 g2
          have hcs : costW b g cs (l ++ [i]) = costW b g cs l + (goW b g i 20 0 (runW b g l (0, cs)).2).1 := by unfold costW; rw [runW_snoc]
          rw [c1, bnd_some, if_pos hin7', t1', bnd_some, hset.1, nI_add, ← hcs, g1, bnd_some, nI_1]
          exact ihj (i + 1) f _ h4 (by omega) (by omega) (fr3.trans g2.up) g3
    have inner : ∃ h', fL_X4_tryOrders_38 F (f_X4_tryOrders F D) F (nI l.length) (nI used) (nI (costW b g cs l)) (0 : Int32) h = some ((), h') ∧ FrD l.length h h' ∧ BestC h' (srchS g.1 (costW b g cs) (m + 1) l best) := loop g.1 0 F best h (by omega) (by omega) (FrD.refl _ _) bc
    show ∃ h', b_X4_tryOrders F (f_X4_tryOrders F D) (nI l.length) (nI used) (nI (costW b g cs l)) h = some ((), h') ∧ FrD l.length h h' ∧ BestC h' (srchS g.1 (costW b g cs) (m + 1) l best)
    unfold b_X4_tryOrders
    rw [e.1, if_t (by omega) (by omega), if_pos (show l.length < g.1 by omega)]
    match best, bc, inner with
    | none, bc, inner =>
      have bc' : h.1 38 4 = -5 := bc
      rw [bc', if_pos (show (-5 : Int32) = -5 from rfl)]
      exact inner
    | some (v, q), bc, inner =>
      obtain ⟨b1, b2, b3⟩ := bc
      have hv5 : ¬ nI v = (-5 : Int32) := fun z => nI_pos (show v < 2 ^ 31 by omega) (by rw [z]; decide)
      rw [b1, if_neg hv5, if_t (by omega) (by omega)]
      by_cases hlt : costW b g cs l < v
      · rw [if_pos hlt]
        exact inner
      · rw [if_neg hlt]
        refine ⟨h, rfl, FrD.refl _ _, ?_⟩
        rw [srchS_prune (fun l i => costW_mono l i) (m + 1) l (by omega)]
        exact ⟨b1, b2, b3⟩
def ansS (n : Nat) (b : Best) (x : Int32) : Int32 := match b with | none => -5 | some (v, r) => if x < 0 then nI v else if nI n ≤ x then -5 else nI (r.getD (ix x) 0)
/-- the answer of soonest -/
theorem soonC {F : Nat} {h : PH} {g : SG} {b : Bn} {cs : CS} {x : Int32} (hF : 100 ≤ F) (e : EnvC h g b) (r : RepC h 6 cs) (ht : cs.1 ≤ 9999) (hx : ¬ wth x (-1) 5 = 0) : ∃ h', f_X9_soonest F x h = some (ansS g.1 (srchS g.1 (costW b g cs) g.1 [] none) x, h') ∧ KC h h' ∧ (∀ a, 1 ≤ a → a ≤ 8 → h'.1 a = h.1 a) := by
  have hg := e.2.1
  have f0 : FrD 0 h (wI h 38 4 (-5)) := ⟨fun a u => rI_ne (by omega), fun i u => rI_sl u, fun i u => absurd u (by omega), fun a u v => rI_ne (by omega), rfl⟩
  have r0 : RepC (wI h 38 4 (-5)) 6 cs := r.eq (rI_ne (by decide)) (rI_ne (by decide)) (rI_ne (by decide))
  obtain ⟨h1, c1, c2, c3⟩ := copyC (F := F) (t := 42) (a := 6) (by omega) (by decide) (by decide) (by decide) r0
  have kc : ∀ h2 : PH, (∀ a, (a < 38 ∨ 63 ≤ a ∨ a = 39) → h2.1 a = h.1 a) → h2.2 = h.2 → KC h h2 := fun h2 u v => ⟨fun a ha => u a (by omega), by rw [u 31 (by omega)], v⟩
  have f1 : ∀ a, (a < 38 ∨ 63 ≤ a ∨ a = 39) → h1.1 a = h.1 a := fun a u => (c2.1 a (by omega) (by omega) (by omega)).trans (f0.1 a u)
  have l1 : h1.2 = h.2 := c2.2
  obtain ⟨h2, d1, d2, d3⟩ := ordC (F := F) (g := g) (b := b) (cs := cs) hF hg (by omega) g.1 50 [] 0 none h1 (by omega) (by simp) (by decide) (fun i _ => by simp) (e.eq (fun a ha => f1 a (by omega)) (by rw [l1])) c3 (fun k hk => absurd hk (by simp)) (by show h1.1 38 4 = -5; rw [c2.1 38 (by decide) (by decide) (by decide), rI_eq])
  have fo : f_X4_findOrder F h = some ((), h2) := by
    unfold f_X4_findOrder
    rw [lth_eq, if_pos (show inb (0 : Int32) 7 = true by decide), show 42 + 3 * ix (0 : Int32) = 42 from rfl, c1, bnd_some]
    rw [show f_X4_tryOrders F 50 (0 : Int32) (0 : Int32) (0 : Int32) h1 = _ from d1, bnd_some]
  have f2 : ∀ a, (a < 38 ∨ 63 ≤ a ∨ a = 39) → h2.1 a = h.1 a := fun a u => (d2.1 a u).trans (f1 a u)
  have l2 : h2.2 = h.2 := d2.2.2.2.2.trans l1
  have some' := srchS_hit (n := g.1) (cost := costW b g cs) g.1 0 none (by omega)
  have len := srchS_len (n := g.1) (cost := costW b g cs) g.1 [] none (by simp) (fun v r q => by cases q)
  rw [List.range_zero] at some'
  unfold f_X9_soonest
  rw [within_eq, bnd_some, if_neg hx, e.1]
  generalize hB : srchS g.1 (costW b g cs) g.1 [] none = B at *
  match B, some', len, d3 with
  | some (v, q), _, len, d3 =>
    have hq : q.length = g.1 := len v q rfl
    obtain ⟨b1, b2, b3⟩ := d3
    unfold ansS
    by_cases h0 : x < 0
    · have hlt : x < nI g.1 := by
        rw [Int32.lt_iff_toInt_lt] at h0 ⊢
        rw [nI_toInt (by omega)]
        have e0 : (0 : Int32).toInt = 0 := by decide
        omega
      rw [if_pos hlt, fo, bnd_some, if_neg (Int32.not_le.mpr h0), b1]
      refine ⟨h2, ?_, kc h2 f2 l2, fun a u v => f2 a (by omega)⟩
      show some (nI v, h2) = some (if x < 0 then nI v else if nI g.1 ≤ x then -5 else nI (q.getD (ix x) 0), h2)
      rw [if_pos h0]
    · obtain ⟨k, hk, rfl⟩ := nI_of h0
      have hk5 : k ≤ 5 := by
        obtain ⟨_, h5⟩ := wth_ne hx
        exact (nI_leI hk (by decide)).mp (show nI k ≤ nI 5 from h5)
      rw [if_t (by omega) (by omega)]
      show ∃ h', _ = some ((if nI k < 0 then nI v else if nI g.1 ≤ nI k then -5 else nI (q.getD (ix (nI k)) 0)), h') ∧ _ ∧ _
      rw [if_neg h0, if_l (by omega) (by omega)]
      by_cases hkn : k < g.1
      · rw [if_pos hkn, fo, bnd_some, if_pos (Int32.not_lt.mp h0), if_pos (inb_nI (by omega) (by decide)), ix_nI (by omega), b3 k (by omega), if_neg (show ¬ g.1 ≤ k by omega)]
        exact ⟨h2, rfl, kc h2 f2 l2, fun a u v => f2 a (by omega)⟩
      · rw [if_neg hkn, if_pos (show g.1 ≤ k by omega)]
        exact ⟨h, rfl, KC.refl h, fun _ _ _ => rfl⟩
  | none, some', _, _ => exact absurd rfl some'
