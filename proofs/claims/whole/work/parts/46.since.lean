theorem va_up2 {A : Type} {f : Nat → A} {c : Nat} {x y : A} : va_up (va_up f c x) c y = va_up f c y := by
  funext i
  rw [va_if, va_if, va_if]
  by_cases h : i = c
  · rw [if_pos h, if_pos h]
  · rw [if_neg h, if_neg h, if_neg h]
theorem va_same {A : Type} {f : Nat → A} {c : Nat} : va_up f c (f c) = f := by
  funext i
  rw [va_if]
  by_cases h : i = c
  · rw [if_pos h, h]
  · rw [if_neg h]
theorem va_back {A : Type} {f : Nat → A} {c : Nat} {x : A} : va_up (va_up f c x) c (f c) = f := by rw [va_up2, va_same]
def fitD (b : Bn) (g : SG) (c : Nat) (cs : CS) (w : Nat → Nat × Nat × Nat) (k x : Nat) : Bool := seenA b g c (cs.1, va_up cs.2.1 c (cs.1 - x), cs.2.2) w k 0
theorem FrW.kc {h h' : PH} (f : FrW h h') : KC h h' := ⟨fun a ha => f.1 a (by omega) (by omega) (by omega) (by omega), by rw [f.1 31 (by decide) (by decide) (by decide) (by decide)], f.2⟩
theorem FrW.w {h h' o : PH} {w : Nat → Nat × Nat × Nat} {k : Nat} (f : FrW h h') (u : wOK h o w k) : wOK h' o w k := u.eq (by rw [f.1 9 (by decide) (by decide) (by decide) (by decide)]) (f.1 10 (by decide) (by decide) (by decide) (by decide)) rfl rfl rfl rfl
theorem sinceC_loop {F c k m : Nat} {h0 o0 : PH} {g : SG} {b : Bn} {cs : CS} {w : Nat → Nat × Nat × Nat} (hF : 200 ≤ F) (e0 : EnvC h0 g b) (hc : c < g.1) (r0 : RepC h0 6 cs) (ht : cs.1 ≤ 9999) (u0 : wOK h0 o0 w k) (hm : m ≤ 99) (hmt : m ≤ cs.1) (hmin : m = 99 ∨ m = cs.1) :
    ∀ (j i f : Nat) (h : PH), i + j = m + 1 → j < f → FrW h0 h → h.1 34 2 = nI (cntA (fitD b g c cs w k) i) → h.1 34 3 = lstA (fitD b g c cs w k) i →
    ∃ h', fL_X1_weighDays_17 F f (nI c) (nI cs.1) (nI i) h = some ((), h') ∧ FrW h0 h' ∧ h'.1 34 2 = nI (cntA (fitD b g c cs w k) (m + 1)) ∧ h'.1 34 3 = lstA (fitD b g c cs w k) (m + 1) := by
  intro j
  induction j with
  | zero =>
    intro i f h hi hf fr h2 h3
    obtain ⟨f, rfl⟩ : ∃ n, f = n + 1 := ⟨f - 1, by omega⟩
    have hi' : i = m + 1 := by omega
    subst hi'
    rw [fL_X1_weighDays_17, show (99 : Int32) = nI 99 from rfl, if_t (by omega) (by omega), if_t (by omega) (by omega)]
    refine ⟨h, ?_, fr, h2, h3⟩
    by_cases h9 : 99 < m + 1
    · rw [if_pos h9]
    · rw [if_neg h9, if_pos (show cs.1 < m + 1 by omega)]
  | succ j ih =>
    intro i f h hi hf fr h2 h3
    obtain ⟨f, rfl⟩ : ∃ n, f = n + 1 := ⟨f - 1, by omega⟩
    have hcl := cntA_le (fitD b g c cs w k) i
    have u := fr.w u0
    obtain ⟨h1, w1, w2, w3, w4⟩ := weighC (F := F) (c := c) (x := cs.1 - i) (k := k) (y := nI i) (h0 := h) (o0 := o0) (w := w) (by omega) (fr.env e0) hc (fr.rep r0) (by omega) ht u (t := cntA (fitD b g c cs w k) i) h2 (by omega) k 0 F h (by omega) (by have := u.1; omega) (FrW.refl _) rfl
    have w1' : f_X1_weigh F (nI c) (nI (cs.1 - i)) (nI i) h = some ((), h1) := w1
    rw [fL_X1_weighDays_17, show (99 : Int32) = nI 99 from rfl, if_t (by omega) (by omega), if_t (by omega) (by omega), if_neg (show ¬ 99 < i by omega), if_neg (show ¬ cs.1 < i by omega), pk_sub (show i ≤ cs.1 by omega), w1', bnd_some, nI_1]
    refine ih (i + 1) f h1 (by omega) (by omega) (fr.trans w2) ?_ ?_
    · rw [w3]; rfl
    · rw [w4, h3]; rfl
theorem sinceM_loop {F c k : Nat} {h0 o0 : PH} {g : SG} {b : BT} {cs : CS} {w : Nat → Nat × Nat × Nat} {q : Int32} (hF : 700 ≤ F) (hc : c < g.1) (ht : cs.1 ≤ 9999) (hcs : cs.2.1 c ≤ cs.1) (u0 : wOK h0 o0 w k) :
    ∀ (j f K y : Nat) (L : Int32) (o : PH), j ≤ cs.1 + 1 → j ≤ 100 → j < f → EnvM o g b → RepM o (cs.1, va_up cs.2.1 c y, cs.2.2) → KM o0 o →
    ∃ o', fL_X10_since_54 F f (nI c) q (nI (cs.2.1 c)) (nI K) L (nI j + (-1 : Int32)) o = some (if q = 0 then nI (K + cntA (fitD (semB b) g c cs w k) j) else (if cntA (fitD (semB b) g c cs w k) j = 0 then L else lstA (fitD (semB b) g c cs w k) j), o') ∧ FrQ o o' ∧ RepM o' cs := by
  intro j
  induction j with
  | zero =>
    intro f K y L o hj hj2 hf e r km
    obtain ⟨f, rfl⟩ : ∃ n, f = n + 1 := ⟨f - 1, by omega⟩
    have h6 : c < 6 := Nat.lt_of_lt_of_le hc e.2.1
    have rp := r.put h6 (show cs.2.1 c ≤ (cs.1, va_up cs.2.1 c y, cs.2.2).1 from hcs)
    have rp' : RepM (wI o 105 c (nI (cs.2.1 c))) cs := by
      have z : ((cs.1, va_up (va_up cs.2.1 c y) c (cs.2.1 c), cs.2.2) : CS) = cs := by rw [va_back]
      have rp2 : RepM (wI o 105 c (nI (cs.2.1 c))) (cs.1, va_up (va_up cs.2.1 c y) c (cs.2.1 c), cs.2.2) := rp
      rw [z] at rp2
      exact rp2
    rw [fL_X10_since_54, if_pos (show nI 0 + (-1 : Int32) < 0 by decide), if_pos (inb_nI h6 (by decide)), lth_eq, ix_nI (by omega)]
    refine ⟨wI o 105 c (nI (cs.2.1 c)), ?_, FrM.w5.q, rp'⟩
    by_cases hq : q = 0
    · rw [if_pos hq, if_pos hq]; rfl
    · rw [if_neg hq, if_neg hq]; rfl
  | succ j ih =>
    intro f K y L o hj hj2 hf e r km
    obtain ⟨f, rfl⟩ : ∃ n, f = n + 1 := ⟨f - 1, by omega⟩
    have h6 : c < 6 := Nat.lt_of_lt_of_le hc e.2.1
    have rp := r.put h6 (show cs.1 - j ≤ (cs.1, va_up cs.2.1 c y, cs.2.2).1 from Nat.sub_le _ _)
    have rp' : RepM (wI o 105 c (nI (cs.1 - j))) (cs.1, va_up cs.2.1 c (cs.1 - j), cs.2.2) := by
      have z : ((cs.1, va_up (va_up cs.2.1 c y) c (cs.1 - j), cs.2.2) : CS) = (cs.1, va_up cs.2.1 c (cs.1 - j), cs.2.2) := by rw [va_up2]
      rw [← z]
      exact rp
    have f1 : FrQ o (wI o 105 c (nI (cs.1 - j))) := FrM.w5.q
    have hr2 : o.1 102 2 = nI cs.1 := r.1
    have k5 := u0.1
    obtain ⟨o1, s1, s2, s3⟩ := isSeenM (F := F) hF hc (show (cs.1, va_up cs.2.1 c (cs.1 - j), cs.2.2).1 ≤ 9999 from ht) u0 k 0 F _ (by omega) (by omega) (f1.env e) rp' (km.trans f1.km)
    have s1' : f_X10_isSeen F (nI c) (wI o 105 c (nI (cs.1 - j))) = some (b2i (fitD (semB b) g c cs w k j), o1) := s1
    have f2 := f1.trans s2
    rw [fL_X10_since_54, nI_m1, if_neg (nI_pos (show j < 2 ^ 31 by omega)), if_pos (inb_nI h6 (by decide)), lth_eq, ix_nI (by omega), hr2, pk_sub (show j ≤ cs.1 by omega), s1', bnd_some, nI_1]
    unfold cntA lstA
    cases hp : fitD (semB b) g c cs w k j with
    | false =>
      rw [if_pos (show b2i false = 0 by decide)]
      obtain ⟨o', g1, g2, g3⟩ := ih f K (cs.1 - j) L o1 (by omega) (by omega) (by omega) (f2.env e) s3 (km.trans f2.km)
      refine ⟨o', ?_, f2.trans g2, g3⟩
      rw [g1]; rfl
    | true =>
      rw [if_neg (show ¬ b2i true = 0 by decide)]
      obtain ⟨o', g1, g2, g3⟩ := ih f (K + 1) (cs.1 - j) (nI j) o1 (by omega) (by omega) (by omega) (f2.env e) s3 (km.trans f2.km)
      refine ⟨o', ?_, f2.trans g2, g3⟩
      rw [g1, if_pos (show true = true from rfl), if_pos (show true = true from rfl), if_neg (show ¬ cntA (fitD (semB b) g c cs w k) j + 1 = 0 by omega), show K + 1 + cntA (fitD (semB b) g c cs w k) j = K + (cntA (fitD (semB b) g c cs w k) j + 1) by omega]
theorem st_since {F : Nat} {h o : PH} {x y : Int32} (hF : FOK F) (s : Sim h o) : Step (f_X9_since F x y) (f_X10_since F x y) h o := by
  have same := s
  obtain ⟨g, b, cs, c, m, ht, r⟩ := s
  unfold FOK at hF
  have hg := c.1.2.1
  have e1 := isClockC (F := F) (a := x) c.1.1 hg
  have e2 := isClockM (F := F) (a := x) m.1.1 hg
  unfold Step f_X9_since f_X10_since
  rw [e1, e2, bnd_some, bnd_some]
  by_cases hi : inb x g.1 = true
  · obtain ⟨a, ha, rfl⟩ := inb_lt hi (by omega)
    have hin : inb (nI a) 6 = true := inb_nI (by omega) (by decide)
    rw [if_pos hi, if_neg (show ¬ (1 : Int32) = 0 by decide), if_neg (show ¬ (1 : Int32) = 0 by decide), within_eq, in_eq, bnd_some, bnd_some]
    by_cases hy : wth y 0 1 = 0
    · exact ⟨-1, h, o, by rw [if_pos hy], by rw [if_pos hy], same⟩
    · obtain ⟨w, k, u⟩ := seen_w hg r.2.2.2.1
      rw [if_neg hy, if_neg hy, if_pos hin]
      have f0 : FrW h (wI (wI h 34 2 (0 : Int32)) 34 3 (-5 : Int32)) := FrW.w34.trans FrW.w34
      have en : f_X1_weighNothing F h = some ((), wI (wI h 34 2 (0 : Int32)) 34 3 (-5 : Int32)) := by unfold f_X1_weighNothing; rw [lth_eq, lth_eq]
      have hro := (m.2.1.2.2 a (by omega))
      have key : ∀ mm, mm ≤ 99 → mm ≤ cs.1 → (mm = 99 ∨ mm = cs.1) → ∃ v h' o', (bnd (f_X1_weighDays F (nI a) h) fun v5 h5 => (if y = 0 then (some ((h5.1 34 2), h5)) else (some ((h5.1 34 3), h5)))) = some (v, h') ∧ fL_X10_since_54 F F (nI a) y (nI (cs.2.1 a)) (0 : Int32) (-5 : Int32) (nI mm) o = some (v, o') ∧ Sim h' o' := by
        intro mm h1 h2 h3
        obtain ⟨hh, a1, a2, a3, a4⟩ := sinceC_loop (F := F) (m := mm) (by omega) (f0.env c.1) ha (f0.rep c.2.1) ht (f0.w u) h1 h2 h3 (mm + 1) 0 F _ (by omega) (by omega) (FrW.refl _) (by rw [rI_sl (by decide), rI_eq]; rfl) (by rw [rI_eq]; rfl)
        obtain ⟨oo, b1, b2, b3⟩ := sinceM_loop (F := F) (q := y) (by omega) ha ht hro.2 u (mm + 1) F 0 (cs.2.1 a) (-5) o (by omega) (by omega) (by omega) m.1 (by rw [va_same]; exact m.2.1) (KM.refl o)
        rw [nI_m1, Nat.zero_add] at b1
        have fw := f0.trans a2
        have a1' : f_X1_weighDays F (nI a) h = some ((), hh) := by
          unfold f_X1_weighDays
          rw [en, bnd_some, rI_ne (show (6 : Nat) ≠ 34 by decide), rI_ne (show (6 : Nat) ≠ 34 by decide), c.2.1.1]
          exact a1
        refine ⟨_, hh, oo, ?_, b1, g, b, cs, c.eq (fun a ha => fw.1 a (by omega) (by omega) (by omega) (by omega)) (by rw [fw.2]), m.keepQ b2 b3, ht, r.keep fw.kc b2.km⟩
        rw [a1', bnd_some, a3, a4]
        by_cases hq : y = 0
        · rw [if_pos hq, if_pos hq]
        · rw [if_neg hq, if_neg hq]
          by_cases hz : cntA (fitD (semB b) g a cs w k) (mm + 1) = 0
          · rw [if_pos hz, lstA_0 _ _ hz]
          · rw [if_neg hz]
      rw [m.2.1.1, ix_nI (by omega), hro.1, show (99 : Int32) = nI 99 from rfl, if_l (by decide) (by omega)]
      by_cases h9 : 99 ≤ cs.1
      · rw [if_pos h9]
        exact key 99 (by omega) h9 (Or.inl rfl)
      · rw [if_neg h9]
        exact key cs.1 (by omega) (by omega) (Or.inr rfl)
  · rw [if_neg hi, if_pos (show (0 : Int32) = 0 from rfl), if_pos (show (0 : Int32) = 0 from rfl)]
    exact ⟨-1, h, o, rfl, rfl, same⟩
