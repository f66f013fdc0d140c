def nightsA (n : Nat) : Nat → CS → CS
  | 0, cs => cs
  | j + 1, cs => nightsA n j (nightA n cs)
theorem nightsA_1 {n : Nat} : ∀ (j : Nat) (cs : CS), (nightsA n j cs).1 = cs.1 + j
  | 0, _ => rfl
  | j + 1, cs => by
    show (nightsA n j (nightA n cs)).1 = _
    rw [nightsA_1 j]
    show cs.1 + 1 + j = _
    omega
theorem newsCallC {F : Nat} {h : PH} {g : SG} {b : Bn} {x d : Int32} (e : EnvC h g b) : f_X9_news F x d h = some (if inb x g.1 = true then (if wth d 0 9999 = 0 then -2 else nI (newsA b g (ix x) (ix d))) else -1, h) := by
  unfold f_X9_news
  rw [isClockC e.1 e.2.1, bnd_some]
  by_cases hi : inb x g.1 = true
  · obtain ⟨c, hc, rfl⟩ := inb_lt hi (by have := e.2.1; omega)
    have h6 : c < 6 := Nat.lt_of_lt_of_le hc e.2.1
    rw [if_pos hi, if_neg (show ¬ (1 : Int32) = 0 by decide), if_pos hi, within_eq, bnd_some]
    by_cases hw : wth d 0 9999 = 0
    · rw [if_pos hw, if_pos hw]
    · obtain ⟨n, hn, rfl⟩ := wth_N (m := 9999) rfl (by decide) hw
      rw [if_neg hw, if_neg hw, ix_nI (by omega), ix_nI (by omega), newsOfC e hc (by omega), bnd_some]
  · rw [if_neg hi, if_pos (show (0 : Int32) = 0 from rfl), if_neg hi]
theorem newsCallM {F : Nat} {h : PH} {g : SG} {b : BT} {x d : Int32} (hF : 700 ≤ F) (e : EnvM h g b) : ∃ h', f_X10_news F x d h = some (if inb x g.1 = true then (if wth d 0 9999 = 0 then -2 else nI (newsA (semB b) g (ix x) (ix d))) else -1, h') ∧ FrP h h' := by
  unfold f_X10_news f_X10_isDay
  rw [isClockM e.1 e.2.1, bnd_some]
  by_cases hi : inb x g.1 = true
  · obtain ⟨c, hc, rfl⟩ := inb_lt hi (by have := e.2.1; omega)
    have h6 : c < 6 := Nat.lt_of_lt_of_le hc e.2.1
    rw [if_pos hi, if_neg (show ¬ (1 : Int32) = 0 by decide), if_pos hi, in_eq, bnd_some, bnd_some, wth_and]
    by_cases hw : wth d 0 9999 = 0
    · rw [if_pos hw, if_pos hw]
      exact ⟨h, rfl, FrP.refl h⟩
    · obtain ⟨n, hn, rfl⟩ := wth_N (m := 9999) rfl (by decide) hw
      obtain ⟨h1, e1, e2⟩ := newsOfM (F := F) hF e hc (show n < 2 ^ 28 by omega)
      rw [if_neg hw, if_neg hw, ix_nI (by omega), ix_nI (by omega), e1, bnd_some]
      exact ⟨h1, rfl, e2⟩
  · rw [if_neg hi, if_pos (show (0 : Int32) = 0 from rfl), if_neg hi]
    exact ⟨h, rfl, FrP.refl h⟩
def tellA (b : Bn) (g : SG) (cs : CS) (x : Int32) : Int32 × CS := if inb x g.1 = true then (if cs.1 < 9999 then (nI (evening b g (ix x) cs).1, (evening b g (ix x) cs).2) else (-3, cs)) else (-1, cs)
theorem tellC {F : Nat} {h : PH} {g : SG} {b : Bn} {cs : CS} {x : Int32} (hF : 100 ≤ F) (e : EnvC h g b) (r : RepC h 6 cs) (ht : cs.1 ≤ 9999) :
    ∃ h', f_X9_tell F x h = some ((tellA b g cs x).1, h') ∧ FrC 6 h h' ∧ RepC h' 6 (tellA b g cs x).2 := by
  unfold f_X9_tell tellA
  rw [isClockC e.1 e.2.1, bnd_some]
  by_cases hi : inb x g.1 = true
  · obtain ⟨c, hc, rfl⟩ := inb_lt hi (by have := e.2.1; omega)
    have h6 : c < 6 := Nat.lt_of_lt_of_le hc e.2.1
    rw [if_pos hi, if_neg (show ¬ (1 : Int32) = 0 by decide), if_pos hi, show h.1 6 0 = nI cs.1 from r.1, show (9999 : Int32) = nI 9999 from rfl, if_t (by omega) (by omega), ix_nI (by omega)]
    by_cases hl : cs.1 < 9999
    · obtain ⟨h1, e1, e2, e3⟩ := eveningC (F := F) (by omega) (show isCourse 6 = true by decide) hc e r (by omega)
      rw [if_pos hl, if_pos hl, e1, bnd_some]
      exact ⟨h1, rfl, e2, e3⟩
    · rw [if_neg hl, if_neg hl]
      exact ⟨h, rfl, FrC.refl _ _, r⟩
  · rw [if_neg hi, if_pos (show (0 : Int32) = 0 from rfl), if_neg hi]
    exact ⟨h, rfl, FrC.refl _ _, r⟩
theorem tellM {F : Nat} {h : PH} {g : SG} {b : BT} {cs : CS} {x : Int32} (hF : 700 ≤ F) (e : EnvM h g b) (r : RepM h cs) (ht : cs.1 ≤ 9999) :
    ∃ h', f_X10_tell F x h = some ((tellA (semB b) g cs x).1, h') ∧ FrM h h' ∧ RepM h' (tellA (semB b) g cs x).2 := by
  unfold f_X10_tell tellA
  rw [isClockM e.1 e.2.1, bnd_some]
  by_cases hi : inb x g.1 = true
  · obtain ⟨c, hc, rfl⟩ := inb_lt hi (by have := e.2.1; omega)
    have h6 : c < 6 := Nat.lt_of_lt_of_le hc e.2.1
    rw [if_pos hi, if_neg (show ¬ (1 : Int32) = 0 by decide), if_pos hi, r.1, show (9999 : Int32) = nI 9999 from rfl, if_e (by omega) (by omega), ix_nI (by omega)]
    by_cases hl : cs.1 < 9999
    · obtain ⟨h1, e1, e2, e3⟩ := eveningM (F := F) hF hc e r (by omega)
      rw [if_pos hl, if_neg (by omega), e1, bnd_some]
      exact ⟨h1, rfl, e2, e3⟩
    · rw [if_neg hl, if_pos (by omega)]
      exact ⟨h, rfl, FrM.refl _, r⟩
  · rw [if_neg hi, if_pos (show (0 : Int32) = 0 from rfl), if_neg hi]
    exact ⟨h, rfl, FrM.refl _, r⟩
def passA (n : Nat) (cs : CS) (k : Int32) : Int32 × CS := if wth k 0 60 = 0 then (-2, cs) else if cs.1 + ix k ≤ 9999 then (nI (cs.1 + ix k), nightsA n (ix k) cs) else (-3, cs)
theorem passC {F n : Nat} {h : PH} {cs : CS} {k : Int32} (hF : 100 ≤ F) (hn : h.1 1 0 = nI n) (h6 : n ≤ 6) (r : RepC h 6 cs) (ht : cs.1 ≤ 9999) :
    ∃ h', f_X9_pass F k h = some ((passA n cs k).1, h') ∧ FrC 6 h h' ∧ RepC h' 6 (passA n cs k).2 := by
  have key : ∀ (m j i f : Nat) (c : CS) (h1 : PH), i + j = m → m ≤ 60 → j < f → c.1 + j ≤ 9999 → FrC 6 h h1 → RepC h1 6 c → ∃ h', fL_X9_pass_36 F f (nI m) (nI i) h1 = some (nI (c.1 + j), h') ∧ FrC 6 h h' ∧ RepC h' 6 (nightsA n j c) := by
    intro m j
    induction j with
    | zero =>
      intro i f c h1 hi hm hf hc fr r
      obtain ⟨f, rfl⟩ : ∃ m, f = m + 1 := ⟨f - 1, by omega⟩
      rw [fL_X9_pass_36, if_l (by omega) (by omega), if_pos (by omega), show h1.1 6 0 = nI c.1 from r.1]
      exact ⟨h1, rfl, fr, r⟩
    | succ j ih =>
      intro i f c h1 hi hm hf hc fr r
      obtain ⟨f, rfl⟩ : ∃ m, f = m + 1 := ⟨f - 1, by omega⟩
      obtain ⟨h2, e1, e2, e3⟩ := nightC (F := F) (k := 6) (by omega) (by decide) (show h1.1 1 0 = nI n by rw [fr.1 1 (by decide) (by decide) (by decide)]; exact hn) h6 r (by omega)
      rw [fL_X9_pass_36, if_l (by omega) (by omega), if_neg (by omega), e1, bnd_some, nI_1]
      obtain ⟨h3, e4, e5, e6⟩ := ih (i + 1) f _ h2 (by omega) hm (by omega) (by show c.1 + 1 + j ≤ 9999; omega) (fr.trans e2) e3
      exact ⟨h3, by rw [e4]; show some (nI (c.1 + 1 + j), h3) = _; rw [show c.1 + 1 + j = c.1 + (j + 1) by omega], e5, e6⟩
  unfold f_X9_pass passA
  rw [within_eq, bnd_some]
  by_cases hk : wth k 0 60 = 0
  · rw [if_pos hk, if_pos hk]
    exact ⟨h, rfl, FrC.refl _ _, r⟩
  · obtain ⟨m, hm, rfl⟩ := wth_N (m := 60) rfl (by decide) hk
    rw [if_neg hk, if_neg hk, show h.1 6 0 = nI cs.1 from r.1, nI_add, show (9999 : Int32) = nI 9999 from rfl, if_l (by omega) (by omega), ix_nI (by omega)]
    by_cases hl : cs.1 + m ≤ 9999
    · rw [if_pos hl, if_pos hl]
      exact key m m 0 F cs h (by omega) hm (by omega) hl (FrC.refl _ _) r
    · rw [if_neg hl, if_neg hl]
      exact ⟨h, rfl, FrC.refl _ _, r⟩
theorem passM {F n : Nat} {h : PH} {cs : CS} {k : Int32} (hF : 100 ≤ F) (hn : h.1 102 0 = nI n) (h6 : n ≤ 6) (r : RepM h cs) (ht : cs.1 ≤ 9999) :
    ∃ h', f_X10_pass F k h = some ((passA n cs k).1, h') ∧ FrM h h' ∧ RepM h' (passA n cs k).2 := by
  have key : ∀ (m j i f : Nat) (c : CS) (h1 : PH), i + j = m → m ≤ 60 → j < f → c.1 + j ≤ 9999 → FrM h h1 → RepM h1 c → ∃ h', fL_X10_pass_28 F f (nI m) (nI i) h1 = some (nI (c.1 + j), h') ∧ FrM h h' ∧ RepM h' (nightsA n j c) := by
    intro m j
    induction j with
    | zero =>
      intro i f c h1 hi hm hf hc fr r
      obtain ⟨f, rfl⟩ : ∃ m, f = m + 1 := ⟨f - 1, by omega⟩
      rw [fL_X10_pass_28, if_l (by omega) (by omega), if_pos (by omega), r.1]
      exact ⟨h1, rfl, fr, r⟩
    | succ j ih =>
      intro i f c h1 hi hm hf hc fr r
      obtain ⟨f, rfl⟩ : ∃ m, f = m + 1 := ⟨f - 1, by omega⟩
      obtain ⟨h2, e1, e2, e3⟩ := nightM (F := F) (by omega) (show h1.1 102 0 = nI n by rw [fr.2.1 0 (by decide) (by decide)]; exact hn) h6 r (by omega)
      rw [fL_X10_pass_28, if_l (by omega) (by omega), if_neg (by omega), e1, bnd_some, nI_1]
      obtain ⟨h3, e4, e5, e6⟩ := ih (i + 1) f _ h2 (by omega) hm (by omega) (by show c.1 + 1 + j ≤ 9999; omega) (fr.trans e2) e3
      exact ⟨h3, by rw [e4]; show some (nI (c.1 + 1 + j), h3) = _; rw [show c.1 + 1 + j = c.1 + (j + 1) by omega], e5, e6⟩
  unfold f_X10_pass passA f_X10_isEvenings
  rw [in_eq, bnd_some, bnd_some, wth_and]
  by_cases hk : wth k 0 60 = 0
  · rw [if_pos hk, if_pos hk]
    exact ⟨h, rfl, FrM.refl _, r⟩
  · obtain ⟨m, hm, rfl⟩ := wth_N (m := 60) rfl (by decide) hk
    rw [if_neg hk, if_neg hk, r.1, nI_add, show (9999 : Int32) = nI 9999 from rfl, if_l (by omega) (by omega), ix_nI (by omega)]
    by_cases hl : cs.1 + m ≤ 9999
    · rw [if_pos hl, if_pos hl]
      exact key m m 0 F cs h (by omega) hm (by omega) hl (FrM.refl _) r
    · rw [if_neg hl, if_neg hl]
      exact ⟨h, rfl, FrM.refl _, r⟩
