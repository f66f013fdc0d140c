-- what is seen
def seenA (b : Bn) (g : SG) (c : Nat) (cs : CS) (w : Nat → Nat × Nat × Nat) : Nat → Nat → Bool
  | 0, _ => true
  | j + 1, i => if (w i).1 = c then (if (evsA b g c (w i).2.2 cs).2.1 c = cs.2.1 c + (w i).2.1 then seenA b g c cs w j (i + 1) else false) else seenA b g c cs w j (i + 1)
def wOK (h o : PH) (w : Nat → Nat × Nat × Nat) (k : Nat) : Prop := k ≤ 5 ∧ h.1 9 2 = nI k ∧ o.1 102 33 = nI k ∧ ∀ i, i < k → (w i).1 < 6 ∧ (w i).2.1 ≤ 999 ∧ (w i).2.2 ≤ 20 ∧ h.1 10 (i * 3) = nI (w i).1 ∧ h.1 10 (i * 3 + 1) = nI (w i).2.1 ∧ h.1 10 (i * 3 + 2) = nI (w i).2.2 ∧ o.1 122 i = nI (w i).1 ∧ o.1 123 i = nI (w i).2.1 ∧ o.1 124 i = nI (w i).2.2
theorem seen_w {h o : PH} {n : Nat} (hn : n ≤ 6) (s : SeenS h o 9 33 122 n) : ∃ w k, wOK h o w k := by
  obtain ⟨k, k1, k2, k3, k4⟩ := s
  refine ⟨fun i => (ix (h.1 10 (i * 3)), ix (h.1 10 (i * 3 + 1)), ix (h.1 10 (i * 3 + 2))), k, k1, k2, k3, fun i hi => ?_⟩
  obtain ⟨c, m, e, d1, d2, d3, d4, d5, d6, d7, d8, d9⟩ := k4 i hi
  have d4' : h.1 10 (i * 3) = nI c := d4
  have d5' : h.1 10 (i * 3 + 1) = nI m := d5
  have d6' : h.1 10 (i * 3 + 2) = nI e := d6
  show ix (h.1 10 (i * 3)) < 6 ∧ ix (h.1 10 (i * 3 + 1)) ≤ 999 ∧ ix (h.1 10 (i * 3 + 2)) ≤ 20 ∧ h.1 10 (i * 3) = nI (ix (h.1 10 (i * 3))) ∧ h.1 10 (i * 3 + 1) = nI (ix (h.1 10 (i * 3 + 1))) ∧ h.1 10 (i * 3 + 2) = nI (ix (h.1 10 (i * 3 + 2))) ∧ o.1 122 i = nI (ix (h.1 10 (i * 3))) ∧ o.1 123 i = nI (ix (h.1 10 (i * 3 + 1))) ∧ o.1 124 i = nI (ix (h.1 10 (i * 3 + 2)))
  rw [d4', d5', d6', ix_nI (by omega), ix_nI (by omega), ix_nI (by omega)]
  exact ⟨by omega, d2, d3, rfl, rfl, rfl, d7, d8, d9⟩
theorem wOK.eq {h h' o o' : PH} {w : Nat → Nat × Nat × Nat} {k : Nat} (e1 : h'.1 9 2 = h.1 9 2) (e2 : h'.1 10 = h.1 10) (e3 : o'.1 102 33 = o.1 102 33) (e4 : o'.1 122 = o.1 122) (e5 : o'.1 123 = o.1 123) (e6 : o'.1 124 = o.1 124) (u : wOK h o w k) : wOK h' o' w k := by
  unfold wOK at u ⊢
  rw [e1, e2, e3, e4, e5, e6]; exact u
theorem sub_eq_nI {a s v : Nat} (ha : a < 2 ^ 20) (hs : s < 2 ^ 20) (hv : v < 2 ^ 20) : (nI a - nI s = nI v) ↔ a = s + v := by
  rw [← Int32.toInt_inj, pk_sub_toInt (by omega) (by omega), nI_toInt (by omega)]; omega
theorem RepC.put {h : PH} {k c x : Nat} {cs : CS} (hk : isCourse k = true) (r : RepC h k cs) (hc : c < 6) (hx : x ≤ cs.1) : RepC (wI h (k + 1) c (nI x)) k (cs.1, va_up cs.2.1 c x, cs.2.2) := by
  refine ⟨by rw [rI_ne (by omega)]; exact r.1, fun i hi => ?_⟩
  have h1 := r.2 i hi
  show (wI h (k + 1) c (nI x)).1 (k + 1) i = nI (va_up cs.2.1 c x i) ∧ va_up cs.2.1 c x i ≤ cs.1 ∧ (wI h (k + 1) c (nI x)).1 (k + 2) i = _
  rw [rI, rI_ne (by omega), va_if]
  by_cases hic : i = c
  · subst hic; rw [if_pos ⟨rfl, rfl⟩, if_pos rfl]; exact ⟨rfl, hx, h1.2.2⟩
  · rw [if_neg (fun q => hic q.2), if_neg hic]; exact h1
theorem RepM.put {h : PH} {c x : Nat} {cs : CS} (r : RepM h cs) (hc : c < 6) (hx : x ≤ cs.1) : RepM (wI h 105 c (nI x)) (cs.1, va_up cs.2.1 c x, cs.2.2) := by
  refine ⟨by rw [rI_ne (by decide)]; exact r.1, by rw [rI_ne (by decide)]; exact r.2.1, fun i hi => ?_⟩
  have h1 := r.2.2 i hi
  show (wI h 105 c (nI x)).1 105 i = nI (va_up cs.2.1 c x i) ∧ va_up cs.2.1 c x i ≤ cs.1
  rw [rI, va_if]
  by_cases hic : i = c
  · subst hic; rw [if_pos ⟨rfl, rfl⟩, if_pos rfl]; exact ⟨rfl, hx⟩
  · rw [if_neg (fun q => hic q.2), if_neg hic]; exact h1
theorem isSoC {F i c x : Nat} {h : PH} {g : SG} {b : Bn} {cs : CS} {q : Nat × Nat × Nat} (hF : 100 ≤ F) (e : EnvC h g b) (hc : c < g.1) (r : RepC h 6 cs) (hx : x ≤ cs.1) (ht : cs.1 ≤ 9999) (hi : i < 5) (q1 : q.2.1 ≤ 999) (q2 : q.2.2 ≤ 20) (h1 : h.1 10 (i * 3 + 1) = nI q.2.1) (h2 : h.1 10 (i * 3 + 2) = nI q.2.2) :
    ∃ h', f_X1_isSo F (nI i) (nI c) (nI x) h = some (if (evsA b g c q.2.2 (cs.1, va_up cs.2.1 c x, cs.2.2)).2.1 c = x + q.2.1 then 1 else 0, h') ∧ FrC 35 h h' := by
  have h6 : c < 6 := Nat.lt_of_lt_of_le hc e.2.1
  have hin : inb (nI c) 6 = true := inb_nI h6 (by decide)
  obtain ⟨ha, a1, a2, a3⟩ := beginC (F := F) (by omega) r
  have rb := a3.put (by decide) h6 hx
  have fb : FrC 35 h (wI ha (35 + 1) c (nI x)) := a2.w1
  obtain ⟨hd, d1, d2, d3⟩ := evsC (F := F) (n := q.2.2) hF rfl hc (fb.env (by decide) e) (by omega) q.2.2 0 F (cs.1, va_up cs.2.1 c x, cs.2.2) _ (by omega) (by omega) (show cs.1 < 2 ^ 20 + 0 by omega) (FrC.refl _ _) rb
  have d1' : f_X1_tellOften F (nI c) (nI q.2.2) (wI ha (35 + 1) c (nI x)) = some ((), hd) := d1
  have fd := fb.trans d2
  have hr := d3.2 c h6
  have hle : (evsA b g c q.2.2 (cs.1, va_up cs.2.1 c x, cs.2.2)).1 = cs.1 + q.2.2 := evsA_1 _ _
  have z2 : f_X6_cell F 9 (nI i) 2 (wI ha (35 + 1) c (nI x)) = some (nI q.2.2, wI ha (35 + 1) c (nI x)) := by
    have := cellC (F := F) (t := 9) (i := i) (j := 2) (h := wI ha (35 + 1) c (nI x)) rfl (by show i * 3 + 2 < 15; omega) (by decide)
    rw [li2, this, fb.1 (9 + 1) (by decide) (by decide) (by decide), show h.1 (9 + 1) (i * 3 + 2) = _ from h2]
  have z1 : f_X6_cell F 9 (nI i) 1 hd = some (nI q.2.1, hd) := by
    have := cellC (F := F) (t := 9) (i := i) (j := 1) (h := hd) rfl (by show i * 3 + 1 < 15; omega) (by decide)
    rw [li1, this, fd.1 (9 + 1) (by decide) (by decide) (by decide), show h.1 (9 + 1) (i * 3 + 1) = _ from h1]
  refine ⟨hd, ?_, fd⟩
  unfold f_X1_isSo
  rw [a1, bnd_some, if_pos hin, lth_eq, ix_nI (by omega), z2, bnd_some, d1', bnd_some, if_pos hin, z1, bnd_some, show hd.1 36 c = _ from hr.1]
  by_cases hq : (evsA b g c q.2.2 (cs.1, va_up cs.2.1 c x, cs.2.2)).2.1 c = x + q.2.1
  · rw [if_pos hq, if_pos ((sub_eq_nI (by omega) (by omega) (by omega)).mpr hq)]
  · rw [if_neg hq, if_neg (fun z => hq ((sub_eq_nI (by omega) (by omega) (by omega)).mp z))]
def FrW (h h' : PH) : Prop := (∀ a, a ≠ 34 → a ≠ 35 → a ≠ 36 → a ≠ 37 → h'.1 a = h.1 a) ∧ h'.2 = h.2
theorem FrW.refl (h : PH) : FrW h h := ⟨fun _ _ _ _ _ => rfl, rfl⟩
theorem FrW.trans {h h1 h2 : PH} (a : FrW h h1) (b : FrW h1 h2) : FrW h h2 := ⟨fun x u1 u2 u3 u4 => (b.1 x u1 u2 u3 u4).trans (a.1 x u1 u2 u3 u4), b.2.trans a.2⟩
theorem FrC.fw {h h' : PH} (f : FrC 35 h h') : FrW h h' := ⟨fun a _ u2 u3 u4 => f.1 a u2 u3 u4, f.2⟩
theorem FrW.w34 {h : PH} {i : Nat} {x : Int32} : FrW h (wI h 34 i x) := ⟨fun _ u _ _ _ => rI_ne u, rfl⟩
theorem EnvC.eq {h h' : PH} {g : SG} {b : Bn} (e : ∀ a, (1 ≤ a ∧ a ≤ 5) ∨ 66 ≤ a → h'.1 a = h.1 a) (e2 : h'.2.2 1 10 = h.2.2 1 10) (c : EnvC h g b) : EnvC h' g b := by
  obtain ⟨c1, c2, c3, c4, c5, c6, c7, c8⟩ := c
  refine ⟨by rw [e 1 (by omega)]; exact c1, c2, by rw [e 2 (by omega)]; exact c3, by rw [e 3 (by omega)]; exact c4, by rw [e 4 (by omega)]; exact c5, by rw [e 5 (by omega)]; exact c6, ?_, c8⟩
  unfold paceC at c7 ⊢
  rw [e2]
  cases hz : h.2.2 1 10 with
  | none => rw [hz] at c7; exact c7
  | some z =>
    rw [hz] at c7
    have := isBench_or c7.1
    exact ⟨c7.1, by rw [e z (by omega)]; exact c7.2⟩
theorem RepC.eq {h h' : PH} {k : Nat} {cs : CS} (e0 : h'.1 k = h.1 k) (e1 : h'.1 (k + 1) = h.1 (k + 1)) (e2 : h'.1 (k + 2) = h.1 (k + 2)) (r : RepC h k cs) : RepC h' k cs := by
  unfold RepC at r ⊢
  rw [e0, e1, e2]; exact r
theorem FrW.env {h h' : PH} {g : SG} {b : Bn} (f : FrW h h') (e : EnvC h g b) : EnvC h' g b := e.eq (fun a ha => f.1 a (by omega) (by omega) (by omega) (by omega)) (by rw [f.2])
theorem FrW.rep {h h' : PH} {cs : CS} (f : FrW h h') (r : RepC h 6 cs) : RepC h' 6 cs := r.eq (f.1 _ (by decide) (by decide) (by decide) (by decide)) (f.1 _ (by decide) (by decide) (by decide) (by decide)) (f.1 _ (by decide) (by decide) (by decide) (by decide))
/-- one number weighed: it fits, or not -/
theorem weighC {F c x k : Nat} {y : Int32} {h0 o0 : PH} {g : SG} {b : Bn} {cs : CS} {w : Nat → Nat × Nat × Nat} (hF : 100 ≤ F) (e0 : EnvC h0 g b) (hc : c < g.1) (r0 : RepC h0 6 cs) (hx : x ≤ cs.1) (ht : cs.1 ≤ 9999) (u0 : wOK h0 o0 w k) {t : Nat} (h2 : h0.1 34 2 = nI t) (htt : t < 2 ^ 20) :
    ∀ (j i f : Nat) (h : PH), i + j = k → j < f → FrW h0 h → h.1 34 = h0.1 34 → ∃ h', fL_X1_weigh_3 F f (nI c) (nI x) y (nI i) h = some ((), h') ∧ FrW h0 h' ∧
      h'.1 34 2 = nI (if seenA b g c (cs.1, va_up cs.2.1 c x, cs.2.2) w j i = true then t + 1 else t) ∧ h'.1 34 3 = (if seenA b g c (cs.1, va_up cs.2.1 c x, cs.2.2) w j i = true then (if t = 0 then y else h0.1 34 3) else h0.1 34 3) := by
  obtain ⟨k5, u1, -, u2⟩ := u0
  have hg := e0.2.1
  intro j
  induction j with
  | zero =>
    intro i f h hi hf fr h34
    obtain ⟨f, rfl⟩ : ∃ m, f = m + 1 := ⟨f - 1, by omega⟩
    have hk : h.1 9 2 = nI k := by rw [fr.1 9 (by decide) (by decide) (by decide) (by decide)]; exact u1
    rw [fL_X1_weigh_3, hk, if_l (by omega) (by omega), if_pos (by omega), h34, h2]
    unfold seenA
    rw [if_pos (show true = true from rfl), if_pos (show true = true from rfl), li0, if_e (by omega) (by decide)]
    by_cases h0 : t = 0
    · rw [if_pos h0, if_pos h0, lth_eq, lth_eq, rI_sl (by decide), h34, h2, nI_1]
      exact ⟨_, rfl, (fr.trans FrW.w34).trans FrW.w34, rI_eq _ _ _ _, by rw [rI_sl (by decide), rI_eq]⟩
    · rw [if_neg h0, if_neg h0, lth_eq, nI_1]
      exact ⟨_, rfl, fr.trans FrW.w34, rI_eq _ _ _ _, by rw [rI_sl (by decide), h34]⟩
  | succ j ih =>
    intro i f h hi hf fr h34
    obtain ⟨f, rfl⟩ : ∃ m, f = m + 1 := ⟨f - 1, by omega⟩
    have hk : h.1 9 2 = nI k := by rw [fr.1 9 (by decide) (by decide) (by decide) (by decide)]; exact u1
    obtain ⟨v1, v2, v3, v4, v5, v6, -⟩ := u2 i (by omega)
    have h10 : h.1 10 = h0.1 10 := fr.1 10 (by decide) (by decide) (by decide) (by decide)
    have a1 : f_X6_cell F 9 (nI i) 0 h = some (nI (w i).1, h) := by
      have := cellC (F := F) (t := 9) (i := i) (j := 0) (h := h) rfl (by show i * 3 + 0 < 15; omega) (by decide)
      rw [li0, this, show h.1 (9 + 1) = _ from h10, show h0.1 10 (i * 3 + 0) = _ from v4]
    rw [fL_X1_weigh_3, hk, if_l (by omega) (by omega), if_neg (by omega), a1, bnd_some, if_e (by omega) (by omega), nI_1]
    unfold seenA
    by_cases hw : (w i).1 = c
    · rw [if_pos hw, if_pos hw]
      obtain ⟨h1, s1, s2⟩ := isSoC (F := F) (i := i) (q := w i) hF (fr.env e0) hc (fr.rep r0) hx ht (by omega) v2 v3 (by rw [h10]; exact v5) (by rw [h10]; exact v6)
      rw [s1, bnd_some]
      have e34 : h1.1 34 = h0.1 34 := by rw [s2.1 34 (by decide) (by decide) (by decide)]; exact h34
      have hxx : va_up cs.2.1 c x c = x := by rw [va_if, if_pos rfl]
      have hcx : ((cs.1, va_up cs.2.1 c x, cs.2.2) : CS).2.1 c = x := hxx
      rw [hcx]
      by_cases hq : (evsA b g c (w i).2.2 (cs.1, va_up cs.2.1 c x, cs.2.2)).2.1 c = x + (w i).2.1
      · rw [if_pos hq, if_pos hq, if_neg (show ¬ (1 : Int32) = 0 by decide)]
        exact ih (i + 1) f h1 (by omega) (by omega) (fr.trans s2.fw) e34
      · rw [if_neg hq, if_neg hq, if_pos (show (0 : Int32) = 0 from rfl)]
        exact ⟨h1, rfl, fr.trans s2.fw, by rw [if_neg (show ¬ false = true by decide), e34]; exact h2, by rw [if_neg (show ¬ false = true by decide), e34]⟩
    · rw [if_neg hw, if_neg hw]
      exact ih (i + 1) f h (by omega) (by omega) fr h34
theorem isSeenM {F c k : Nat} {h0 o0 : PH} {g : SG} {b : BT} {cs : CS} {w : Nat → Nat × Nat × Nat} (hF : 700 ≤ F) (hc : c < g.1) (ht : cs.1 ≤ 9999) (u0 : wOK h0 o0 w k) :
    ∀ (j i f : Nat) (o : PH), i + j = k → j + 1 < f → EnvM o g b → RepM o cs → KM o0 o → ∃ o', fL_X10_isSeen_4 F f (nI c) 1 (nI i) o = some (b2i (seenA (semB b) g c cs w j i), o') ∧ FrQ o o' ∧ RepM o' cs := by
  obtain ⟨k5, -, u1, u2⟩ := u0
  intro j
  induction j with
  | zero =>
    intro i f o hi hf e r km
    obtain ⟨f, rfl⟩ : ∃ m, f = m + 1 := ⟨f - 1, by omega⟩
    have hk : o.1 102 33 = nI k := by rw [km.2.1 33 (by decide)]; exact u1
    rw [fL_X10_isSeen_4, hk, if_l (by omega) (by omega), if_pos (by omega)]
    exact ⟨o, rfl, FrQ.refl o, r⟩
  | succ j ih =>
    intro i f o hi hf e r km
    have hg := e.2.1
    obtain ⟨f, rfl⟩ : ∃ m, f = m + 1 := ⟨f - 1, by omega⟩
    have hk : o.1 102 33 = nI k := by rw [km.2.1 33 (by decide)]; exact u1
    obtain ⟨v1, v2, v3, -, -, -, v4, v5, v6⟩ := u2 i (by omega)
    have hin : inb (nI i) 5 = true := inb_nI (by omega) (by decide)
    have hin6 : inb (nI c) 6 = true := inb_nI (by omega) (by decide)
    rw [fL_X10_isSeen_4, hk, if_l (by omega) (by omega), if_neg (by omega), if_neg (show ¬ (1 : Int32) = 0 by decide), if_pos hin, ix_nI (by omega), km.1 122 (by omega), v4, if_e (by omega) (by omega), nI_1]
    unfold seenA
    by_cases hw : (w i).1 = c
    · rw [if_pos hw, if_pos hw]
      obtain ⟨o1, a1, a2, a3, a4⟩ := saveM (F := F) (by omega) r
      have w24 : o1.1 124 i = nI (w i).2.2 := by rw [a2.1 124 (by decide) (by decide) (by decide) (by decide), km.1 124 (by omega)]; exact v6
      obtain ⟨o2, d1, d2, d3⟩ := evsM (F := F) (n := (w i).2.2) hF hc (a2.env e) (by omega) (w i).2.2 0 F cs o1 (by omega) (by omega) (by omega) (FrM.refl _) a3
      have d1' : f_X10_goEvenings F (nI c) (nI (w i).2.2) o1 = some ((), o2) := d1
      have k2 := a4.fr d2
      obtain ⟨o3, p1, p2, p3, p4⟩ := backM (F := F) (by omega) k2
      have w23 : o2.1 123 i = nI (w i).2.1 := by rw [d2.1 123 (by decide) (by decide) (by decide), a2.1 123 (by decide) (by decide) (by decide) (by decide), km.1 123 (by omega)]; exact v5
      have hr := d3.2.2 c (by omega)
      have hkk := k2.2.2 c (by omega)
      have hle : (evsA (semB b) g c (w i).2.2 cs).1 = cs.1 + (w i).2.2 := evsA_1 _ _
      have fq : FrQ o o3 := (a2.trans d2.q).trans p2.q
      rw [a1, bnd_some, if_pos hin, w24, d1', bnd_some, if_pos hin6, if_pos hin6, if_pos hin, ix_nI (by omega), hr.1, hkk.1, w23, p1, bnd_some, bnd_some]
      by_cases hq : (evsA (semB b) g c (w i).2.2 cs).2.1 c = cs.2.1 c + (w i).2.1
      · rw [if_pos hq, if_pos ((sub_eq_nI (by omega) (by omega) (by omega)).mpr hq)]
        obtain ⟨o', g1, g2, g3⟩ := ih (i + 1) f o3 (by omega) (by omega) (fq.env e) p3 (km.trans fq.km)
        exact ⟨o', g1, fq.trans g2, g3⟩
      · rw [if_neg hq, if_neg (fun z => hq ((sub_eq_nI (by omega) (by omega) (by omega)).mp z))]
        obtain ⟨f, rfl⟩ : ∃ m, f = m + 1 := ⟨f - 1, by omega⟩
        rw [fL_X10_isSeen_4, if_pos (show (0 : Int32) = 0 from rfl)]
        refine ⟨o3, ?_, fq, p3⟩
        split <;> rfl
    · rw [if_neg hw, if_neg hw]
      exact ih (i + 1) f o (by omega) (by omega) e r km
-- how many numbers fit, and the least
def cntA (p : Nat → Bool) : Nat → Nat
  | 0 => 0
  | n + 1 => if p n = true then cntA p n + 1 else cntA p n
def lstA (p : Nat → Bool) : Nat → Int32
  | 0 => -5
  | n + 1 => if p n = true then (if cntA p n = 0 then nI n else lstA p n) else lstA p n
theorem cntA_le (p : Nat → Bool) : ∀ n, cntA p n ≤ n
  | 0 => Nat.le_refl _
  | n + 1 => by
    have := cntA_le p n
    unfold cntA
    split <;> omega
theorem lstA_0 (p : Nat → Bool) : ∀ n, cntA p n = 0 → lstA p n = -5
  | 0, _ => rfl
  | n + 1, h => by
    unfold cntA at h
    unfold lstA
    split at h
    · omega
    · next hp => rw [if_neg hp]; exact lstA_0 p n h
