def setA (n : Nat) (cs : CS) (x d : Int32) : Int32 × CS := if inb x n = true then (if wth d 0 (nI cs.1) = 0 then (-2, cs) else (nI (cs.2.1 (ix x)), (cs.1, va_up cs.2.1 (ix x) (ix d), cs.2.2))) else (-1, cs)
theorem setC {F n : Nat} {h : PH} {cs : CS} {x d : Int32} (hn : h.1 1 0 = nI n) (h6 : n ≤ 6) (r : RepC h 6 cs) (ht : cs.1 ≤ 9999) :
    ∃ h', f_X9_set F x d h = some ((setA n cs x d).1, h') ∧ FrC 6 h h' ∧ RepC h' 6 (setA n cs x d).2 := by
  unfold f_X9_set setA
  rw [isClockC hn h6, bnd_some]
  by_cases hi : inb x n = true
  · obtain ⟨c, hc, rfl⟩ := inb_lt hi (by omega)
    have hc6 : c < 6 := by omega
    have hin : inb (nI c) 6 = true := inb_nI hc6 (by decide)
    have hr := r.2 c hc6
    rw [if_pos hi, if_neg (show ¬ (1 : Int32) = 0 by decide), if_pos hi, show h.1 6 0 = nI cs.1 from r.1, within_eq, bnd_some]
    by_cases hw : wth d 0 (nI cs.1) = 0
    · rw [if_pos hw, if_pos hw]
      exact ⟨h, rfl, FrC.refl _ _, r⟩
    · obtain ⟨e, he, rfl⟩ := wth_N (m := cs.1) rfl (by omega) hw
      rw [if_neg hw, if_neg hw, if_pos hin, if_pos hin, lth_eq, ix_nI (by omega), ix_nI (by omega), show h.1 7 c = _ from hr.1]
      refine ⟨_, rfl, ⟨fun a u v w => rI_ne v, rfl⟩, by rw [rI_ne (by decide)]; exact r.1, fun i hi2 => ?_⟩
      have h1 := r.2 i hi2
      show (wI h 7 c (nI e)).1 7 i = nI (va_up cs.2.1 c e i) ∧ va_up cs.2.1 c e i ≤ cs.1 ∧ (wI h 7 c (nI e)).1 8 i = _
      rw [rI, rI_ne (by decide), va_if]
      by_cases hic : i = c
      · subst hic; rw [if_pos ⟨rfl, rfl⟩, if_pos rfl]; exact ⟨rfl, he, h1.2.2⟩
      · rw [if_neg (fun q => hic q.2), if_neg hic]; exact h1
  · rw [if_neg hi, if_pos (show (0 : Int32) = 0 from rfl), if_neg hi]
    exact ⟨h, rfl, FrC.refl _ _, r⟩
theorem setM {F n : Nat} {h : PH} {cs : CS} {x d : Int32} (hn : h.1 102 0 = nI n) (h6 : n ≤ 6) (r : RepM h cs) (ht : cs.1 ≤ 9999) :
    ∃ h', f_X10_set F x d h = some ((setA n cs x d).1, h') ∧ FrM h h' ∧ RepM h' (setA n cs x d).2 := by
  unfold f_X10_set setA
  rw [isClockM hn h6, bnd_some]
  by_cases hi : inb x n = true
  · obtain ⟨c, hc, rfl⟩ := inb_lt hi (by omega)
    have hc6 : c < 6 := by omega
    have hin : inb (nI c) 6 = true := inb_nI hc6 (by decide)
    have hr := r.2.2 c hc6
    rw [if_pos hi, if_neg (show ¬ (1 : Int32) = 0 by decide), if_pos hi, r.1, in_eq, bnd_some]
    by_cases hw : wth d 0 (nI cs.1) = 0
    · rw [if_pos hw, if_pos hw]
      exact ⟨h, rfl, FrM.refl _, r⟩
    · obtain ⟨e, he, rfl⟩ := wth_N (m := cs.1) rfl (by omega) hw
      rw [if_neg hw, if_neg hw, if_pos hin, if_pos hin, lth_eq, ix_nI (by omega), ix_nI (by omega), hr.1]
      refine ⟨_, rfl, FrM.w5, by rw [rI_ne (by decide)]; exact r.1, by rw [rI_ne (by decide)]; exact r.2.1, fun i hi2 => ?_⟩
      have h1 := r.2.2 i hi2
      show (wI h 105 c (nI e)).1 105 i = nI (va_up cs.2.1 c e i) ∧ va_up cs.2.1 c e i ≤ cs.1
      rw [rI, va_if]
      by_cases hic : i = c
      · subst hic; rw [if_pos ⟨rfl, rfl⟩, if_pos rfl]; exact ⟨rfl, he⟩
      · rw [if_neg (fun q => hic q.2), if_neg hic]; exact h1
  · rw [if_neg hi, if_pos (show (0 : Int32) = 0 from rfl), if_neg hi]
    exact ⟨h, rfl, FrM.refl _, r⟩
def balkA (n : Nat) (cs : CS) (x : Int32) (p : Bool) : Int32 × CS := if inb x n = true then (b2i (cs.2.2 (ix x)), (cs.1, cs.2.1, va_up cs.2.2 (ix x) p)) else (-1, cs)
theorem balkCallC {F n : Nat} {h : PH} {cs : CS} {x : Int32} {p : Bool} (hn : h.1 1 0 = nI n) (h6 : n ≤ 6) (r : RepC h 6 cs) :
    ∃ h', f_X9_balk F x (b2i p) h = some ((balkA n cs x p).1, h') ∧ FrC 6 h h' ∧ RepC h' 6 (balkA n cs x p).2 := by
  unfold f_X9_balk balkA
  rw [isClockC hn h6, bnd_some]
  by_cases hi : inb x n = true
  · obtain ⟨c, hc, rfl⟩ := inb_lt hi (by omega)
    have hc6 : c < 6 := by omega
    have hin : inb (nI c) 6 = true := inb_nI hc6 (by decide)
    have hr := r.2 c hc6
    rw [if_pos hi, if_neg (show ¬ (1 : Int32) = 0 by decide), if_pos hi]
    simp only [if_pos hin, lth_eq, ix_nI (show c < 2 ^ 31 by omega)]
    rw [show h.1 8 c = _ from hr.2.2, show vp_nar .boolean (b2i p) = b2i p by cases p <;> rfl]
    refine ⟨wI h 8 c (b2i p), by cases cs.2.2 c <;> rfl, ⟨fun a u v w => rI_ne w, rfl⟩, by rw [rI_ne (by decide)]; exact r.1, fun i hi2 => ?_⟩
    have h1 := r.2 i hi2
    show (wI h 8 c (b2i p)).1 7 i = _ ∧ cs.2.1 i ≤ cs.1 ∧ (wI h 8 c (b2i p)).1 8 i = (if va_up cs.2.2 c p i = true then 1 else 0)
    rw [rI, rI, va_if, if_neg (by omega)]
    refine ⟨h1.1, h1.2.1, ?_⟩
    by_cases hic : i = c
    · subst hic; rw [if_pos ⟨rfl, rfl⟩, if_pos rfl]; rfl
    · rw [if_neg (fun q => hic q.2), if_neg hic]; exact h1.2.2
  · rw [if_neg hi, if_pos (show (0 : Int32) = 0 from rfl), if_neg hi]
    exact ⟨h, rfl, FrC.refl _ _, r⟩
theorem balksM {F c : Nat} {h : PH} {cs : CS} {p : Bool} (r : RepM h cs) (hc : c < 6) : ∃ h', f_X10_balks F (nI c) (b2i p) h = some ((), h') ∧ FrM h h' ∧ RepM h' (cs.1, cs.2.1, va_up cs.2.2 c p) := by
  cases p with
  | true => exact balkM r hc
  | false =>
    unfold f_X10_balks
    rw [if_pos (show b2i false = 0 by decide), lth_eq]
    refine ⟨_, rfl, FrM.w1, by rw [rI_sl (by decide)]; exact r.1, by rw [rI_eq]; exact mask_clear r.2.1 hc, fun i hi => ?_⟩
    rw [rI_ne (by decide)]
    exact r.2.2 i hi
theorem balkCallM {F n : Nat} {h : PH} {cs : CS} {x : Int32} {p : Bool} (hn : h.1 102 0 = nI n) (h6 : n ≤ 6) (r : RepM h cs) :
    ∃ h', f_X10_balk F x (b2i p) h = some ((balkA n cs x p).1, h') ∧ FrM h h' ∧ RepM h' (balkA n cs x p).2 := by
  unfold f_X10_balk balkA
  rw [isClockM hn h6, bnd_some]
  by_cases hi : inb x n = true
  · obtain ⟨c, hc, rfl⟩ := inb_lt hi (by omega)
    have hc6 : c < 6 := by omega
    obtain ⟨h1, e1, e2, e3⟩ := balksM (F := F) (p := p) r hc6
    rw [if_pos hi, if_neg (show ¬ (1 : Int32) = 0 by decide), if_pos hi, hasM r.2.1 hc6, bnd_some, e1, bnd_some, bnd_some, ix_nI (by omega)]
    exact ⟨h1, by cases cs.2.2 c <;> rfl, e2, e3⟩
  · rw [if_neg hi, if_pos (show (0 : Int32) = 0 from rfl), if_neg hi]
    exact ⟨h, rfl, FrM.refl _, r⟩
