-- sums of news
theorem preA_add {b : Bn} {g : SG} {c : Nat} (hb : BnOK b) : ∀ d, preA b g c (100 + d) = preA b g c 100 + preA b g c d
  | 0 => by rw [Nat.add_zero, show preA b g c 0 = 0 from rfl, Nat.add_zero]
  | d + 1 => by
    show preA b g c (100 + d) + newsA b g c (100 + d) = preA b g c 100 + (preA b g c d + newsA b g c d)
    rw [preA_add hb d, newsA_mod hb (d := 100 + d), show (100 + d) % 100 = d % 100 by omega, ← newsA_mod hb]
    omega
theorem preA_split {b : Bn} {g : SG} {c : Nat} (hb : BnOK b) (r : Nat) : ∀ q, preA b g c (100 * q + r) = q * preA b g c 100 + preA b g c r
  | 0 => by rw [Nat.mul_zero, Nat.zero_add, Nat.zero_mul, Nat.zero_add]
  | q + 1 => by
    rw [show 100 * (q + 1) + r = 100 + (100 * q + r) by omega, preA_add hb, preA_split hb r q, Nat.succ_mul]
    omega
theorem preA_mono {b : Bn} {g : SG} {c : Nat} {d e : Nat} (h : d ≤ e) : preA b g c d ≤ preA b g c e := by
  induction h with
  | refl => exact Nat.le_refl _
  | step _ ih => exact Nat.le_trans ih (Nat.le_add_right _ _)
theorem newsAheadC {F c d : Nat} {h : PH} {g : SG} {b : Bn} (e : EnvC h g b) (hc : c < g.1) (hd : d < 2 ^ 20) : f_X7_newsAhead F (nI c) (nI d) h = some (nI (preA b g c d), h) := by
  have h6 : c < 6 := Nat.lt_of_lt_of_le hc e.2.1
  have hm := Nat.mod_lt d (show 0 < 100 by decide)
  have p := e.2.2.2.2.2.1 c hc
  unfold f_X7_newsAhead
  have e1 : jrem (nI d) (100 : Int32) = nI (d % 100) := jrem_nI (by omega) (by decide) (by decide)
  have e2 : nI d / (100 : Int32) = nI (d / 100) := pk_div (by omega) (by decide) (by decide)
  have e3 : nI c * (101 : Int32) = nI (c * 101) := by rw [show (101 : Int32) = nI 101 from rfl, pk_mul]
  have e4 : nI (c * 101) + (100 : Int32) = nI (c * 101 + 100) := by rw [show (100 : Int32) = nI 100 from rfl, nI_add]
  rw [if_neg (show ¬ (100 : Int32) = 0 by decide), if_neg (show ¬ (100 : Int32) = 0 by decide), e1, e2, e3, e4, nI_add, if_pos (inb_nI (by omega) (by decide)), if_pos (inb_nI (by omega) (by decide)), ix_nI (by omega), ix_nI (by omega), p 100 (by omega), p (d % 100) (by omega), pk_mul, nI_add, ← preA_split e.2.2.2.2.2.2.2, show 100 * (d / 100) + d % 100 = d by omega]
def leftA (b : Bn) (g : SG) (c : Nat) (cs : CS) : Nat := preA b g c cs.1 - preA b g c (cs.2.1 c)
theorem leftOfC {F k c : Nat} {h : PH} {g : SG} {b : Bn} {cs : CS} (hk : isCourse k = true) (e : EnvC h g b) (hc : c < g.1) (r : RepC h k cs) (ht : cs.1 < 2 ^ 20) : f_X7_leftOf F k (nI c) h = some (nI (leftA b g c cs), h) := by
  have h6 : c < 6 := Nat.lt_of_lt_of_le hc e.2.1
  have hr := r.2 c h6
  unfold f_X7_leftOf
  rw [if_pos hk, r.1, newsAheadC e hc ht, bnd_some, if_pos (inb_nI h6 (by decide)), ix_nI (by omega), hr.1, newsAheadC e hc (by omega), bnd_some, pk_sub (preA_mono hr.2.1)]
  rfl
-- the first day minded
def firstA (b : Bn) (g : SG) (c : Nat) : Nat → Nat → Int32
  | 0, _ => -5
  | j + 1, d => if mindA b g c d = true then nI d else firstA b g c j (d + 1)
def mindedA (b : Bn) (g : SG) (c : Nat) (cs : CS) : Int32 := if cs.2.2 c = true then -5 else firstA b g c (cs.1 - cs.2.1 c) (cs.2.1 c)
theorem mindedC_loop {F c t : Nat} {h : PH} {g : SG} {b : Bn} (e : EnvC h g b) (hc : c < g.1) (ht : h.1 6 0 = nI t) (hb : t < 2 ^ 28) : ∀ (j d f : Nat), d + j = t → j < f → fL_X1_minded_31 F f (nI c) (nI d) h = some (firstA b g c j d, h) := by
  intro j
  induction j with
  | zero =>
    intro d f hd hf
    obtain ⟨f, rfl⟩ : ∃ m, f = m + 1 := ⟨f - 1, by omega⟩
    rw [fL_X1_minded_31, ht, if_l (by omega) (by omega), if_pos (by omega)]
    rfl
  | succ j ih =>
    intro d f hd hf
    obtain ⟨f, rfl⟩ : ∃ m, f = m + 1 := ⟨f - 1, by omega⟩
    rw [fL_X1_minded_31, ht, if_l (by omega) (by omega), if_neg (by omega), mindsC e hc (by omega), bnd_some, nI_1, firstA]
    by_cases hm : mindA b g c d = true
    · rw [if_pos hm, if_pos hm, if_neg (show ¬ (1 : Int32) = 0 by decide)]
    · rw [if_neg hm, if_neg hm, if_pos (show (0 : Int32) = 0 from rfl)]
      exact ih (d + 1) f (by omega) (by omega)
theorem mindedC {F c : Nat} {h : PH} {g : SG} {b : Bn} {cs : CS} (e : EnvC h g b) (hc : c < g.1) (r : RepC h 6 cs) (ht : cs.1 < F) (hF : F < 2 ^ 28) : f_X1_minded F (nI c) h = some (mindedA b g c cs, h) := by
  have h6 : c < 6 := Nat.lt_of_lt_of_le hc e.2.1
  have hi : inb (nI c) 6 = true := inb_nI h6 (by decide)
  have hr := r.2 c h6
  unfold f_X1_minded mindedA
  rw [if_pos hi, if_pos hi, ix_nI (by omega), show h.1 8 c = _ from hr.2.2, show h.1 7 c = _ from hr.1]
  by_cases hb : cs.2.2 c = true
  · rw [if_pos hb, if_pos hb, if_neg (show ¬ (1 : Int32) = 0 by decide)]
  · rw [if_neg hb, if_neg hb, if_pos (show (0 : Int32) = 0 from rfl)]
    exact mindedC_loop e hc r.1 (by omega) _ _ _ (by omega) (by omega)
-- what stays of today over an evening
theorem evA_1 {b : Bn} {g : SG} {c most : Nat} : ∀ (j days sum : Nat) (cs : CS), (evA b g c most j days sum cs).2.1 = cs.1
  | 0, _, _, _ => rfl
  | j + 1, days, sum, cs => by
    unfold evA
    split
    · split
      · rfl
      · split
        · rw [evA_1 j]
        · rfl
    · rfl
theorem evening_1 {b : Bn} {g : SG} {c : Nat} {cs : CS} : (evening b g c cs).2.1 = cs.1 + 1 := by
  show (evA b g c _ 30 0 0 cs).2.1 + 1 = _
  rw [evA_1]
def wholeA (b : Bn) (g : SG) (c : Nat) : Nat → CS → Int32
  | 0, _ => -5
  | j + 1, cs => if cs.2.1 c = cs.1 then nI (60 - j) else wholeA b g c j (evening b g c cs).2
theorem wholeC_loop {F c : Nat} {h0 : PH} {g : SG} {b : Bn} (hF : 100 ≤ F) (hc : c < g.1) (e0 : EnvC h0 g b) : ∀ (j i f : Nat) (cs : CS) (h : PH), i + j = 61 → j < f → cs.1 < 2 ^ 20 + i → FrC 35 h0 h → RepC h 35 cs → ∃ h', fL_X1_whole_6 F f (nI c) (nI i) h = some (wholeA b g c j cs, h') ∧ FrC 35 h0 h' := by
  have h6 : c < 6 := Nat.lt_of_lt_of_le hc e0.2.1
  intro j
  induction j with
  | zero =>
    intro i f cs h hi hf ht fr r
    obtain ⟨f, rfl⟩ : ∃ m, f = m + 1 := ⟨f - 1, by omega⟩
    rw [fL_X1_whole_6, show (60 : Int32) = nI 60 from rfl, if_t (by omega) (by omega), if_pos (by omega)]
    exact ⟨h, rfl, fr⟩
  | succ j ih =>
    intro i f cs h hi hf ht fr r
    obtain ⟨f, rfl⟩ : ∃ m, f = m + 1 := ⟨f - 1, by omega⟩
    rw [fL_X1_whole_6, show (60 : Int32) = nI 60 from rfl, if_t (by omega) (by omega), if_neg (by omega), isUpC (by decide) r h6 (by omega), bnd_some, wholeA]
    by_cases hu : cs.2.1 c = cs.1
    · rw [if_pos hu, if_pos hu, if_neg (show ¬ (1 : Int32) = 0 by decide), show i = 60 - j by omega]
      exact ⟨h, rfl, fr⟩
    · rw [if_neg hu, if_neg hu, if_pos (show (0 : Int32) = 0 from rfl)]
      obtain ⟨h1, e1, e2, e3⟩ := eveningC (F := F) (by omega) (show isCourse 35 = true by decide) hc (fr.env (by decide) e0) r (by omega)
      rw [e1, bnd_some, nI_1]
      exact ih (i + 1) f _ h1 (by omega) (by omega) (by rw [evening_1]; omega) (fr.trans e2) e3
-- a course copied
theorem narB {p : Bool} : vp_nar .boolean (if p = true then (1 : Int32) else 0) = (if p = true then 1 else 0) := by cases p <;> rfl
theorem copyC_loop {F t a : Nat} {h0 : PH} {cs : CS} (ht : isCourse t = true) (ha : isCourse a = true) (hd : t + 3 ≤ a ∨ a + 3 ≤ t) (r : RepC h0 a cs) : ∀ (j i f : Nat) (h : PH), i + j = 6 → j < f → FrC t h0 h → h.1 t 0 = nI cs.1 → (∀ x, x < i → h.1 (t + 1) x = nI (cs.2.1 x) ∧ h.1 (t + 2) x = (if cs.2.2 x = true then 1 else 0)) →
    ∃ h', fL_X3_copyFrom_10 F f t a (nI i) h = some ((), h') ∧ FrC t h0 h' ∧ RepC h' t cs := by
  intro j
  induction j with
  | zero =>
    intro i f h hi hf fr h1 hr
    obtain ⟨f, rfl⟩ : ∃ m, f = m + 1 := ⟨f - 1, by omega⟩
    rw [fL_X3_copyFrom_10, li6, if_l (by omega) (by omega), if_pos (by omega)]
    exact ⟨h, rfl, fr, h1, fun x hx => ⟨(hr x (by omega)).1, (r.2 x hx).2.1, (hr x (by omega)).2⟩⟩
  | succ j ih =>
    intro i f h hi hf fr h1 hr
    obtain ⟨f, rfl⟩ : ∃ m, f = m + 1 := ⟨f - 1, by omega⟩
    have hin : inb (nI i) 6 = true := inb_nI (by omega) (by decide)
    have q := r.2 i (by omega)
    have q1 : h.1 (a + 1) i = nI (cs.2.1 i) := by rw [fr.1 (a + 1) (by omega) (by omega) (by omega)]; exact q.1
    have q2 : h.1 (a + 2) i = (if cs.2.2 i = true then 1 else 0) := by rw [fr.1 (a + 2) (by omega) (by omega) (by omega)]; exact q.2.2
    rw [fL_X3_copyFrom_10, li6, if_l (by omega) (by omega), if_neg (by omega)]
    simp only [if_pos hin, lth_eq, ix_nI (show i < 2 ^ 31 by omega)]
    rw [q1, rI_ne (show a + 2 ≠ t + 1 by omega), q2, narB, nI_1]
    refine ih (i + 1) f _ (by omega) (by omega) fr.w1.w2 ?_ (fun x hx => ?_)
    · rw [rI_ne (by omega), rI_ne (by omega)]; exact h1
    · rw [rI_ne (show t + 1 ≠ t + 2 by omega), rI, rI]
      by_cases hxi : x = i
      · subst hxi
        rw [if_pos ⟨rfl, rfl⟩, if_pos ⟨rfl, rfl⟩]
        exact ⟨rfl, rfl⟩
      · rw [if_neg (fun q => hxi q.2), if_neg (fun q => hxi q.2), rI_ne (show t + 2 ≠ t + 1 by omega)]
        exact hr x (by omega)
theorem copyC {F t a : Nat} {h : PH} {cs : CS} (hF : 10 ≤ F) (ht : isCourse t = true) (ha : isCourse a = true) (hd : t + 3 ≤ a ∨ a + 3 ≤ t) (r : RepC h a cs) : ∃ h', f_X3_copyFrom F t a h = some ((), h') ∧ FrC t h h' ∧ RepC h' t cs := by
  unfold f_X3_copyFrom
  rw [if_pos ht, if_pos ha, lth_eq, r.1]
  exact copyC_loop ht ha hd r 6 0 F _ rfl (by omega) ⟨fun _ u _ _ => rI_ne u, rfl⟩ (rI_eq _ _ _ _) (fun x hx => absurd hx (by omega))
theorem beginC {F : Nat} {h : PH} {cs : CS} (hF : 10 ≤ F) (r : RepC h 6 cs) : ∃ h', f_X1_begin F h = some ((), h') ∧ FrC 35 h h' ∧ RepC h' 35 cs := by
  obtain ⟨h', e1, e2, e3⟩ := copyC (F := F) (t := 35) (a := 6) hF (by decide) (by decide) (by decide) r
  unfold f_X1_begin
  rw [e1, bnd_some]
  exact ⟨h', rfl, e2, e3⟩
theorem wholeC {F c : Nat} {h : PH} {g : SG} {b : Bn} {cs : CS} (hF : 100 ≤ F) (hc : c < g.1) (e : EnvC h g b) (r : RepC h 6 cs) (ht : cs.1 < 2 ^ 20) : ∃ h', f_X1_whole F (nI c) h = some (wholeA b g c 61 cs, h') ∧ FrC 35 h h' := by
  obtain ⟨h1, e1, e2, e3⟩ := beginC (F := F) (by omega) r
  obtain ⟨h2, e4, e5⟩ := wholeC_loop hF hc (e2.env (by decide) e) 61 0 F cs h1 rfl (by omega) (by omega) (FrC.refl _ _) e3
  unfold f_X1_whole
  rw [e1, bnd_some]
  exact ⟨h2, e4, e2.trans e5⟩
