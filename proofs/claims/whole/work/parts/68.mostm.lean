-- MOST: the model
theorem lastM {F N n num : Nat} {o : PH} (h0 : o.1 102 0 = nI N) (hN : 0 < N) (h6 : N ≤ 6) (hn : n ≤ 5) (hnum : num < 2 ^ 20) : ∀ (j e i f : Nat), i + j = n → e + j ≤ 5 → j < f → fL_X10_most_201 F f (nI n) (nI num) (nI (N ^ e)) (nI i) o = some (nI (num / N ^ (e + j) % N), o) := by
  intro j
  induction j with
  | zero =>
    intro e i f hi he hf
    obtain ⟨f, rfl⟩ : ∃ m, f = m + 1 := ⟨f - 1, by omega⟩
    have hp : N ^ e ≤ 7776 := Nat.le_trans (Nat.pow_le_pow_left h6 e) (Nat.le_trans (Nat.pow_le_pow_right (show 0 < 6 by decide) (show e ≤ 5 by omega)) (by decide))
    have hp0 : 0 < N ^ e := Nat.pow_pos hN
    have hd : num / N ^ e ≤ num := Nat.div_le_self _ _
    rw [fL_X10_most_201, if_l (by omega) (by omega), if_pos (show n ≤ i by omega), if_neg (nI_ne0 hp0 (by omega)), h0, if_neg (nI_ne0 hN (by omega)), pk_div (by omega) hp0 (by omega), jrem_nI (by omega) hN (by omega), Nat.add_zero]
  | succ j ih =>
    intro e i f hi he hf
    obtain ⟨f, rfl⟩ : ∃ m, f = m + 1 := ⟨f - 1, by omega⟩
    rw [fL_X10_most_201, if_l (by omega) (by omega), if_neg (show ¬ n ≤ i by omega), h0, pk_mul, ← Nat.pow_succ, nI_1, show e + (j + 1) = e + 1 + j by omega]
    exact ih (e + 1) (i + 1) f (by omega) (by omega) (by omega)
theorem innerM {F n num : Nat} {K : Int32 → Int32 → Int32 → Int32 → Int32 → Int32 → PH → Option (Int32 × PH)} {g : SG} {b : BT} {cs : CS} {x all found high : Int32} {o1 : PH} (hF : 700 ≤ F) (hN : 0 < g.1) (hn : n ≤ 5) (hnum : num < 2 ^ 20) (ht : cs.1 ≤ 9999) (e1 : EnvM o1 g b) :
    ∀ (j i f : Nat) (o : PH), i + j = n → j < f → FrM o1 o → RepM o (evW (semB b) g (digs g.1 i (num / g.1 ^ j)) cs) →
    ∃ o', fL_X10_most_93 F K f (nI n) x all found high (nI num) (nI (g.1 ^ (j - 1))) (nI i) o = K (nI n) x all found high (nI num) o' ∧ FrM o1 o' ∧ RepM o' (evW (semB b) g (digs g.1 n num) cs) := by
  have h6 := e1.2.1
  intro j
  induction j with
  | zero =>
    intro i f o hi hf fr r
    obtain ⟨f, rfl⟩ : ∃ m, f = m + 1 := ⟨f - 1, by omega⟩
    rw [Nat.pow_zero, Nat.div_one, show i = n by omega] at r
    exact ⟨o, by rw [fL_X10_most_93, if_l (by omega) (by omega), if_pos (show n ≤ i by omega)], fr, r⟩
  | succ j ih =>
    intro i f o hi hf fr r
    obtain ⟨f, rfl⟩ : ∃ m, f = m + 1 := ⟨f - 1, by omega⟩
    have e := fr.env e1
    have hp : g.1 ^ j ≤ 7776 := Nat.le_trans (Nat.pow_le_pow_left h6 j) (Nat.le_trans (Nat.pow_le_pow_right (show 0 < 6 by decide) (show j ≤ 5 by omega)) (by decide))
    have hp0 : 0 < g.1 ^ j := Nat.pow_pos hN
    have hd : num / g.1 ^ j ≤ num := Nat.div_le_self _ _
    have hm := Nat.mod_lt (num / g.1 ^ j) hN
    have n0 : ¬ nI g.1 = 0 := nI_ne0 hN (by omega)
    have ev1 := evW_1 (b := semB b) (g := g) (digs g.1 i (num / g.1 ^ (j + 1))) cs
    rw [digs_len] at ev1
    obtain ⟨o2, t1, t2, t3⟩ := eveningM (F := F) (c := num / g.1 ^ j % g.1) hF hm e r (by omega)
    have e2 := t2.env e
    have r2 : RepM o2 (evW (semB b) g (digs g.1 (i + 1) (num / g.1 ^ j)) cs) := by
      show RepM o2 (evW (semB b) g (digs g.1 i (num / g.1 ^ j / g.1) ++ [num / g.1 ^ j % g.1]) cs)
      rw [evW_snoc, Nat.div_div_eq_div_mul, ← Nat.pow_succ]
      exact t3
    obtain ⟨o3, d1, d2, d3⟩ := ih (i + 1) f o2 (by omega) (by omega) (fr.trans t2) r2
    refine ⟨o3, ?_, d2, d3⟩
    rw [fL_X10_most_93, if_l (by omega) (by omega), if_neg (show ¬ n ≤ i by omega), show j + 1 - 1 = j by omega, if_neg (nI_ne0 hp0 (by omega)), e.1, if_neg n0, pk_div (by omega) hp0 (by omega), jrem_nI (by omega) hN (by omega), t1, bnd_some, li1, if_l (by omega) (by omega), e2.1, if_neg n0, nI_add]
    by_cases h1 : g.1 ^ j ≤ 1
    · have hq : g.1 ^ (j - 1) ≤ g.1 ^ j := Nat.pow_le_pow_right hN (by omega)
      have hq0 : 0 < g.1 ^ (j - 1) := Nat.pow_pos hN
      have hq1 : g.1 ^ (j - 1) = 1 := by omega
      rw [hq1] at d1
      rw [if_pos h1]
      exact d1
    · have hj : j ≠ 0 := fun z => h1 (by rw [z, Nat.pow_zero]; exact Nat.le_refl _)
      obtain ⟨k, rfl⟩ : ∃ k, j = k + 1 := ⟨j - 1, by omega⟩
      rw [if_neg h1, pk_div (by omega) hN (by omega), Nat.pow_succ, Nat.mul_div_cancel _ hN]
      exact d1
def BestK (N n : Nat) (found high : Int32) (b : Best) : Prop := match b with | none => high = -1 | some (v, l) => high = nI v ∧ v ≤ 6 ∧ ∃ num, num < 2 ^ 20 ∧ found = nI num ∧ l = digs N n num
theorem mostM_loop {F n : Nat} {g : SG} {b : BT} {cs : CS} {o1 : PH} {x : Int32} (hF : FOK F) (hx : ¬ wth x (-1) 4 = 0) (hN : 0 < g.1) (hn1 : 1 ≤ n) (hn : n ≤ 5) (ht : cs.1 ≤ 9999) (e1 : EnvM o1 g b) : ∀ (j a f : Nat) (best : Best) (found high : Int32) (o : PH), a + j = g.1 ^ n → j < f → FrQ o1 o → RepM o cs → BestK g.1 n found high best → (∃ v r, itr (stepR g.1 n (upW (semB b) g cs)) j a best = some (v, r)) →
    ∃ o2, fL_X10_most_72 F f (nI n) x (nI (g.1 ^ n)) found high (nI a) o = some (ansS n (itr (stepR g.1 n (upW (semB b) g cs)) j a best) x, wI o2 102 25 0) ∧ FrQ o1 o2 ∧ RepM o2 cs := by
  have hF' := hF
  unfold FOK at hF
  have hg := e1.2.1
  have hall : g.1 ^ n ≤ 7776 := Nat.le_trans (Nat.pow_le_pow_left hg n) (Nat.le_trans (Nat.pow_le_pow_right (show 0 < 6 by decide) hn) (by decide))
  intro j
  induction j with
  | zero =>
    intro a f best found high o ha hf fr r bm fin
    obtain ⟨f, rfl⟩ : ∃ m, f = m + 1 := ⟨f - 1, by omega⟩
    obtain ⟨v, q, hv⟩ := fin
    have hv' : best = some (v, q) := hv
    subst hv'
    obtain ⟨b1, b2, num, b3, b4, b5⟩ := bm
    have e := fr.env e1
    refine ⟨o, ?_, fr, r⟩
    rw [fL_X10_most_72, if_l (by omega) (by omega), if_pos (show g.1 ^ n ≤ a by omega), lth_eq]
    show _ = some ((if x < 0 then nI v else if nI n ≤ x then -5 else nI (q.getD (ix x) 0)), wI o 102 25 0)
    by_cases h0 : x < 0
    · rw [if_neg (Int32.not_le.mpr h0), if_pos h0, b1]
    · rw [if_pos (Int32.not_lt.mp h0), if_neg h0]
      obtain ⟨k, hk, rfl⟩ := nI_of h0
      have hk4 : k ≤ 4 := by
        obtain ⟨_, h5⟩ := wth_ne hx
        exact (nI_leI hk (by decide)).mp (show nI k ≤ nI 4 from h5)
      rw [if_t (by omega) (by omega), if_l (by omega) (by omega)]
      by_cases hkn : n ≤ k
      · rw [if_neg (show ¬ k < n by omega), if_pos hkn]
      · rw [if_pos (show k < n by omega), if_neg hkn, b4, b5, ix_nI (by omega), digs_get n k num (by omega), nI_1]
        have h0' : (wI o 102 25 0).1 102 0 = nI g.1 := by rw [rI_sl (by decide)]; exact e.1
        rw [show fL_X10_most_201 F F (nI n) (nI num) (1 : Int32) (nI (k + 1)) (wI o 102 25 0) = _ from lastM (F := F) h0' hN hg hn b3 (n - 1 - k) 0 (k + 1) F (by omega) (by omega) (by omega), Nat.zero_add]
  | succ j ih =>
    intro a f best found high o ha hf fr r bm fin
    obtain ⟨f, rfl⟩ : ∃ m, f = m + 1 := ⟨f - 1, by omega⟩
    have e := fr.env e1
    obtain ⟨o2, a1, a2, a3, a4⟩ := saveM (F := F) (by omega) r
    have e2 := a2.env e
    have hit : itr (stepR g.1 n (upW (semB b) g cs)) (j + 1) a best = itr (stepR g.1 n (upW (semB b) g cs)) j (a + 1) (stepR g.1 n (upW (semB b) g cs) a best) := rfl
    rw [hit] at fin ⊢
    have hby : nI (g.1 ^ n) / nI g.1 = nI (g.1 ^ (n - 1)) := by
      obtain ⟨k, rfl⟩ : ∃ k, n = k + 1 := ⟨n - 1, by omega⟩
      rw [pk_div (by omega) hN (by omega), Nat.pow_succ, Nat.mul_div_cancel _ hN]; rfl
    have nil : digs g.1 0 (a / g.1 ^ n) = [] := rfl
    obtain ⟨o3, c1, c2, c3⟩ := innerM (F := F) (n := n) (num := a) (K := fun (x17 : Int32) (x18 : Int32) (x19 : Int32) (x20 : Int32) (x21 : Int32) (x22 : Int32) (h23 : PH) => (bnd (f_X10_upMany F  h23) fun v24 h24 => (bnd (f_X10_putBack F  h24) fun v25 h25 => (if x21 < v24 then (fL_X10_most_72 F f x17 x18 x19 x22 v24 (x22 + (1 : Int32)) h25) else (fL_X10_most_72 F f x17 x18 x19 x20 x21 (x22 + (1 : Int32)) h25))))) (x := x) (all := nI (g.1 ^ n)) (found := found) (high := high) (by omega) hN hn (by omega) ht e2 n 0 F o2 (by omega) (by omega) (FrM.refl _) (by rw [nil]; exact a3)
    have e3 := c2.env e2
    have ev1 := evW_1 (b := semB b) (g := g) (digs g.1 n a) cs
    rw [digs_len] at ev1
    obtain ⟨o4, k1, k2, k3, k4⟩ := backM (F := F) (by omega) (a4.fr c2)
    have fr4 : FrQ o1 o4 := fr.trans (a2.trans (c2.q.trans k2.q))
    have hup : upW (semB b) g cs (digs g.1 n a) ≤ 6 := by have := upsA_le (evW (semB b) g (digs g.1 n a) cs) g.1; unfold upW; omega
    rw [fL_X10_most_72, if_l (by omega) (by omega), if_neg (show ¬ g.1 ^ n ≤ a by omega), a1, bnd_some, e2.1, if_neg (nI_ne0 hN (by omega)), hby]
    rw [show fL_X10_most_93 F (fun (x17 : Int32) (x18 : Int32) (x19 : Int32) (x20 : Int32) (x21 : Int32) (x22 : Int32) (h23 : PH) => (bnd (f_X10_upMany F  h23) fun v24 h24 => (bnd (f_X10_putBack F  h24) fun v25 h25 => (if x21 < v24 then (fL_X10_most_72 F f x17 x18 x19 x22 v24 (x22 + (1 : Int32)) h25) else (fL_X10_most_72 F f x17 x18 x19 x20 x21 (x22 + (1 : Int32)) h25))))) F (nI n) x (nI (g.1 ^ n)) found high (nI a) (nI (g.1 ^ (n - 1))) (0 : Int32) o2 = _ from c1]
    show ∃ o2, (bnd (f_X10_upMany F o3) fun v24 h24 => (bnd (f_X10_putBack F  h24) fun v25 h25 => (if high < v24 then (fL_X10_most_72 F f (nI n) x (nI (g.1 ^ n)) (nI a) v24 (nI a + (1 : Int32)) h25) else (fL_X10_most_72 F f (nI n) x (nI (g.1 ^ n)) found high (nI a + (1 : Int32)) h25)))) = _ ∧ _ ∧ _
    rw [upsM (F := F) (by omega) e3.1 hg c3 (by omega), bnd_some, k1, bnd_some, nI_1]
    rw [show nI (upsA (evW (semB b) g (digs g.1 n a) cs) g.1) = nI (upW (semB b) g cs (digs g.1 n a)) from rfl]
    have kept : BestK g.1 n (nI a) (nI (upW (semB b) g cs (digs g.1 n a))) (some (upW (semB b) g cs (digs g.1 n a), digs g.1 n a)) := ⟨rfl, hup, a, by omega, rfl, rfl⟩
    match best, bm, fin with
    | none, bm, fin =>
      have bm' : high = -1 := bm
      have hs : stepR g.1 n (upW (semB b) g cs) a none = some (upW (semB b) g cs (digs g.1 n a), digs g.1 n a) := rfl
      rw [bm', if_pos (show (-1 : Int32) < nI (upW (semB b) g cs (digs g.1 n a)) from by
        rw [Int32.lt_iff_toInt_lt, nI_toInt (by omega), show (-1 : Int32).toInt = -1 by decide]; omega)]
      rw [hs] at fin ⊢
      exact ih (a + 1) f _ _ _ o4 (by omega) (by omega) fr4 k3 kept fin
    | some (v, q), bm, fin =>
      have bm' := bm
      obtain ⟨b1, b2, b3⟩ := bm
      have hs : stepR g.1 n (upW (semB b) g cs) a (some (v, q)) = if upW (semB b) g cs (digs g.1 n a) ≤ v then some (v, q) else some (upW (semB b) g cs (digs g.1 n a), digs g.1 n a) := rfl
      rw [show high = nI v from b1, if_t (by omega) (by omega)]
      by_cases hlt : v < upW (semB b) g cs (digs g.1 n a)
      · rw [if_neg (show ¬ upW (semB b) g cs (digs g.1 n a) ≤ v by omega)] at hs
        rw [if_pos hlt]
        rw [hs] at fin ⊢
        exact ih (a + 1) f _ _ _ o4 (by omega) (by omega) fr4 k3 kept fin
      · rw [if_pos (show upW (semB b) g cs (digs g.1 n a) ≤ v by omega)] at hs
        rw [if_neg hlt]
        rw [hs] at fin ⊢
        exact ih (a + 1) f _ _ _ o4 (by omega) (by omega) fr4 k3 (by rw [← show high = nI v from b1]; exact bm') fin
theorem pow_loopR {F n N : Nat} {x : Int32} {o : PH} (h0 : o.1 102 0 = nI N) (hn : n ≤ 5) : ∀ (j i f : Nat), i + j = n → j < f → fL_X10_most_44 F f (nI n) x (nI (N ^ i)) (nI i) o = fL_X10_most_72 F F (nI n) x (nI (N ^ n)) (0 : Int32) (-1 : Int32) (0 : Int32) o := by
  intro j
  induction j with
  | zero =>
    intro i f hi hf
    obtain ⟨f, rfl⟩ : ∃ m, f = m + 1 := ⟨f - 1, by omega⟩
    rw [fL_X10_most_44, if_l (by omega) (by omega), if_pos (show n ≤ i by omega), show i = n by omega]
  | succ j ih =>
    intro i f hi hf
    obtain ⟨f, rfl⟩ : ∃ m, f = m + 1 := ⟨f - 1, by omega⟩
    rw [fL_X10_most_44, if_l (by omega) (by omega), if_neg (show ¬ n ≤ i by omega), h0, pk_mul, ← Nat.pow_succ, nI_1]
    exact ih (i + 1) f (by omega) (by omega)
theorem st_most {F : Nat} {h o : PH} {y x : Int32} (hF : FOK F) (s : Sim h o) : Step (f_X9_most F y x) (f_X10_most F y x) h o := by
  have same := s
  obtain ⟨g, b, cs, c, m, ht, r⟩ := s
  have hF' := hF
  unfold FOK at hF
  have hg := c.1.2.1
  by_cases hx : wth x (-1) 4 = 0
  · refine ⟨-1, h, o, ?_, ?_, same⟩
    · unfold f_X9_most; rw [within_eq, bnd_some, if_pos hx]
    · unfold f_X10_most; rw [in_eq, bnd_some, if_pos hx]
  by_cases hy : wth y 1 5 = 0
  · refine ⟨-2, h, o, ?_, ?_, same⟩
    · unfold f_X9_most; rw [within_eq, bnd_some, if_neg hx, within_eq, bnd_some, if_pos hy]
    · unfold f_X10_most; rw [in_eq, bnd_some, if_neg hx, in_eq, bnd_some, if_pos hy]
  by_cases hz : g.1 = 0
  · have c0 : h.1 1 0 = 0 := by rw [c.1.1, hz]; rfl
    have m0 : o.1 102 0 = 0 := by rw [m.1.1, hz]; rfl
    refine ⟨-5, h, o, ?_, ?_, same⟩
    · unfold f_X9_most
      rw [within_eq, bnd_some, if_neg hx, within_eq, bnd_some, if_neg hy, if_pos c0]
      split <;> rfl
    · unfold f_X10_most; rw [in_eq, bnd_some, if_neg hx, in_eq, bnd_some, if_neg hy, if_pos m0]
  have hN : 0 < g.1 := by omega
  obtain ⟨y1, y2⟩ := wth_ne hy
  have hy0 : ¬ y < 0 := fun z => absurd (Int32.lt_iff_toInt_lt.mp z) (by
    have := Int32.le_iff_toInt_le.mp y1
    rw [show (1 : Int32).toInt = 1 by decide] at this
    rw [show (0 : Int32).toInt = 0 by decide]; omega)
  obtain ⟨n, hn31, rfl⟩ := nI_of hy0
  have hn1 : 1 ≤ n := (nI_leI (by decide) hn31).mp (show nI 1 ≤ nI n from y1)
  have hn5 : n ≤ 5 := (nI_leI hn31 (by decide)).mp (show nI n ≤ nI 5 from y2)
  obtain ⟨h', c1, c2, c3⟩ := mostC (F := F) (by omega) c.1 c.2.1 ht hn1 hn5 hN hx
  obtain ⟨o1, l1, l2, l3, l4⟩ := layM (F := F) (by omega) ht m.1 m.2.1 m.2.2
  have hall : g.1 ^ n ≤ 7776 := Nat.le_trans (Nat.pow_le_pow_left hg n) (Nat.le_trans (Nat.pow_le_pow_right (show 0 < 6 by decide) hn5) (by decide))
  have fin : ∃ v q, itr (stepR g.1 n (upW (semB b) g cs)) (g.1 ^ n) 0 none = some (v, q) := by
    match hB : itr (stepR g.1 n (upW (semB b) g cs)) (g.1 ^ n) 0 none, itrR_some (N := g.1) (n := n) (val := upW (semB b) g cs) (g.1 ^ n) 0 none (Nat.pow_pos hN) with
    | some (v, q), _ => exact ⟨v, q, rfl⟩
  obtain ⟨o2, d1, d2, d3⟩ := mostM_loop (F := F) hF' hx hN hn1 hn5 ht l3 (g.1 ^ n) 0 F none 0 (-1) o1 (by omega) (by omega) (FrQ.refl _) l4 rfl fin
  rw [allR (n := n) hN none] at d1
  have k2 : KM o2 (wI o2 102 25 0) := ⟨fun a ha => rI_ne (by omega), fun i hi => rI_sl (by omega), rfl⟩
  refine ⟨_, h', wI o2 102 25 0, c1, ?_, g, b, cs, c.eq (fun a ha => ?_) (by rw [c2.2.2]), CoreM.done l3 d2.s d3, ht, r.keep c2 ((l2.km.trans d2.km).trans k2)⟩
  · unfold f_X10_most
    rw [in_eq, bnd_some, if_neg hx, in_eq, bnd_some, if_neg hy, m.1.1, if_neg (nI_ne0 hN (by omega)), l1, bnd_some]
    rw [show fL_X10_most_44 F F (nI n) x (1 : Int32) (0 : Int32) o1 = _ from pow_loopR (F := F) (N := g.1) (x := x) l3.1 hn5 n 0 F (by omega) (by omega)]
    exact d1
  · rcases ha with ha | ha
    · exact c3 a ha.1 ha.2
    · exact c2.1 a (by omega)
