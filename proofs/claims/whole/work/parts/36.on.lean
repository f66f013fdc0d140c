def onA (b : Bn) (g : SG) (cs : CS) (c : Nat) (w : Int32) : Int32 := if w = (0 : Int32) then nI (cs.2.1 c) else if w = (1 : Int32) then b2i (cs.2.2 c) else nI (leftA b g c cs)
def onAll (b : Bn) (g : SG) (cs : CS) (x k w : Int32) : Int32 := if inb x g.1 = true then (if wth w 0 2 = 0 then -1 else if wth k 0 60 = 0 then -2 else onA b g (evsA b g (ix x) (ix k) cs) (ix x) w) else -1
theorem onC {F : Nat} {h : PH} {g : SG} {b : Bn} {cs : CS} {x k w : Int32} (hF : 100 ≤ F) (e : EnvC h g b) (r : RepC h 6 cs) (ht : cs.1 < 2 ^ 16) :
    ∃ h', f_X9_on F x k w h = some (onAll b g cs x k w, h') ∧ FrC 35 h h' := by
  unfold f_X9_on onAll
  rw [isClockC e.1 e.2.1, bnd_some]
  by_cases hi : inb x g.1 = true
  · obtain ⟨c, hc, rfl⟩ := inb_lt hi (by have := e.2.1; omega)
    have h6 : c < 6 := Nat.lt_of_lt_of_le hc e.2.1
    have hin : inb (nI c) 6 = true := inb_nI h6 (by decide)
    rw [if_pos hi, if_neg (show ¬ (1 : Int32) = 0 by decide), if_pos hi, within_eq, bnd_some]
    by_cases hw : wth w 0 2 = 0
    · rw [if_pos hw, if_pos hw]
      exact ⟨h, rfl, FrC.refl _ _⟩
    · rw [if_neg hw, if_neg hw, within_eq, bnd_some]
      by_cases hk : wth k 0 60 = 0
      · rw [if_pos hk, if_pos hk]
        exact ⟨h, rfl, FrC.refl _ _⟩
      · obtain ⟨n, hn, rfl⟩ := wth_N (m := 60) rfl (by decide) hk
        rw [if_neg hk, if_neg hk, ix_nI (by omega), ix_nI (by omega)]
        obtain ⟨h1, e1, e2, e3⟩ := beginC (F := F) (by omega) r
        obtain ⟨h2, e4, e5, e6⟩ := evsC (F := F) (n := n) hF rfl hc (e2.env (by decide) e) hn n 0 F cs h1 (by omega) (by omega) (by omega) (FrC.refl _ _) e3
        have en := (e2.trans e5).env (by decide) e
        have ht2 : (evsA b g c n cs).1 < 2 ^ 20 := by rw [evsA_1]; omega
        have hr := e6.2 c h6
        have e4' : f_X1_tellOften F (nI c) (nI n) h1 = some ((), h2) := e4
        unfold f_X1_behind onA
        rw [e1, bnd_some, e4', bnd_some, leftOfC (by decide) en hc e6 ht2, bnd_some]
        simp only [if_pos hin, ix_nI (show c < 2 ^ 31 by omega)]
        rw [show h2.1 36 c = _ from hr.1, show h2.1 37 c = _ from hr.2.2]
        refine ⟨h2, ?_, e2.trans e5⟩
        by_cases w0 : w = 0
        · rw [if_pos w0, if_pos w0]; rfl
        · rw [if_neg w0, if_neg w0]
          by_cases w1 : w = 1
          · rw [if_pos w1, if_pos w1]
            cases (evsA b g c n cs).2.2 c <;> rfl
          · rw [if_neg w1, if_neg w1]; rfl
  · rw [if_neg hi, if_pos (show (0 : Int32) = 0 from rfl), if_neg hi]
    exact ⟨h, rfl, FrC.refl _ _⟩
theorem onM {F : Nat} {h : PH} {g : SG} {b : BT} {cs : CS} {x k w : Int32} (hF : 700 ≤ F) (e : EnvM h g b) (r : RepM h cs) (ht : cs.1 < 2 ^ 16) (htF : cs.1 + 60 < F) :
    ∃ h', f_X10_on F x k w h = some (onAll (semB b) g cs x k w, h') ∧ FrQ h h' ∧ RepM h' cs := by
  have nop : FrQ h h ∧ RepM h cs := ⟨FrQ.refl h, r⟩
  unfold f_X10_on onAll f_X10_isEvenings
  rw [isClockM e.1 e.2.1, bnd_some]
  by_cases hi : inb x g.1 = true
  · obtain ⟨c, hc, rfl⟩ := inb_lt hi (by have := e.2.1; omega)
    have h6 : c < 6 := Nat.lt_of_lt_of_le hc e.2.1
    have hin : inb (nI c) 6 = true := inb_nI h6 (by decide)
    rw [if_pos hi, if_neg (show ¬ (1 : Int32) = 0 by decide), if_pos hi, in_eq, bnd_some]
    by_cases hw : wth w 0 2 = 0
    · rw [if_pos hw, if_pos hw]
      exact ⟨h, rfl, nop⟩
    · rw [if_neg hw, if_neg hw, in_eq, bnd_some, bnd_some, wth_and]
      by_cases hk : wth k 0 60 = 0
      · rw [if_pos hk, if_pos hk]
        exact ⟨h, rfl, nop⟩
      · obtain ⟨n, hn, rfl⟩ := wth_N (m := 60) rfl (by decide) hk
        rw [if_neg hk, if_neg hk, ix_nI (by omega), ix_nI (by omega)]
        obtain ⟨h1, e1, e2, e3, e4⟩ := saveM (F := F) (by omega) r
        obtain ⟨h2, a1, a2, a3⟩ := evsM (F := F) (n := n) hF hc (e2.env e) hn n 0 F cs h1 (by omega) (by omega) (by omega) (FrM.refl _) e3
        have en := a2.env (e2.env e)
        have kn := e4.fr a2
        have a1' : f_X10_goEvenings F (nI c) (nI n) h1 = some ((), h2) := a1
        have ht2 : (evsA (semB b) g c n cs).1 < 2 ^ 20 := by rw [evsA_1]; omega
        have hr := a3.2.2 c h6
        obtain ⟨h3, l1, l2⟩ := leftM (F := F) hF en hc a3 (by rw [evsA_1]; omega) ht2
        obtain ⟨h4, b1, b2, b3, b4⟩ := backM (F := F) (by omega) kn
        obtain ⟨h5, c1, c2, c3, c4⟩ := backM (F := F) (by omega) (kn.fr l2.m)
        unfold onA
        rw [e1, bnd_some, a1', bnd_some, if_pos hin, hasM a3.2.1 h6, bnd_some, l1, bnd_some, c1, bnd_some, b1, bnd_some, bnd_some, bnd_some, hr.1]
        by_cases w0 : w = 0
        · rw [if_pos w0, if_pos w0]
          exact ⟨h4, rfl, (e2.trans a2.q).trans b2.q, b3⟩
        · rw [if_neg w0, if_neg w0]
          by_cases w1 : w = 1
          · rw [if_pos w1, if_pos w1]
            refine ⟨h4, ?_, (e2.trans a2.q).trans b2.q, b3⟩
            cases (evsA (semB b) g c n cs).2.2 c <;> rfl
          · rw [if_neg w1, if_neg w1]
            exact ⟨h5, rfl, ((e2.trans a2.q).trans l2.m.q).trans c2.q, c3⟩
  · rw [if_neg hi, if_pos (show (0 : Int32) = 0 from rfl), if_neg hi]
    exact ⟨h, rfl, nop⟩
