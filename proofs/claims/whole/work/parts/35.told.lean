theorem RepM.pp {h h' : PH} {cs : CS} (f : FrP h h') (r : RepM h cs) : FrQ h h' ∧ RepM h' cs := ⟨f.m.q, r.p f⟩
def toldA (b : Bn) (g : SG) (cs : CS) (a : Int32) : Int32 := if a = (0 : Int32) then nI cs.1 else if a = (1 : Int32) then nI b.1 else if a = (2 : Int32) then nI (upsA cs g.1) else if a = (3 : Int32) then nI (leftsA b g cs g.1) else -1
theorem toldC {F : Nat} {h : PH} {g : SG} {b : Bn} {cs : CS} {a : Int32} (hF : 100 ≤ F) (e : EnvC h g b) (r : RepC h 6 cs) (ht : cs.1 < 2 ^ 16) : f_X9_told F a h = some (toldA b g cs a, h) := by
  unfold f_X9_told toldA
  rw [show h.1 6 0 = nI cs.1 from r.1, paceC_eq e.2.2.2.2.2.2.1, bnd_some, upsC (by omega) (by decide) e r (by omega), bnd_some, leftsC (by omega) (by decide) e r (by omega), bnd_some]
  split
  · rfl
  · split
    · rfl
    · split
      · rfl
      · split <;> rfl
theorem toldM {F : Nat} {h : PH} {g : SG} {b : BT} {cs : CS} {a : Int32} (hF : 700 ≤ F) (e : EnvM h g b) (r : RepM h cs) (ht : cs.1 < 2 ^ 16) (htF : cs.1 < F) : ∃ h', f_X10_told F a h = some (toldA (semB b) g cs a, h') ∧ FrP h h' := by
  obtain ⟨h1, e1, e2⟩ := leftsM (F := F) hF e r htF (by omega)
  unfold f_X10_told toldA
  rw [r.1, paceMM (by omega) e.2.2.2.2.2.1, bnd_some, upsM (by omega) e.1 e.2.1 r (by omega), bnd_some, e1, bnd_some]
  split
  · exact ⟨h, rfl, FrP.refl h⟩
  · split
    · exact ⟨h, rfl, FrP.refl h⟩
    · split
      · exact ⟨h, rfl, FrP.refl h⟩
      · split
        · exact ⟨h1, rfl, e2⟩
        · exact ⟨h, rfl, FrP.refl h⟩
def ofA (b : Bn) (g : SG) (cs : CS) (c : Nat) (a : Int32) : Int32 :=
  if a = (0 : Int32) then nI (g.2.1 c) else if a = (1 : Int32) then nI (g.2.2.1 c) else if a = (2 : Int32) then nI (cs.2.1 c) else if a = (3 : Int32) then b2i (cs.2.2 c)
  else if a = (4 : Int32) then nI (leftA b g c cs) else if a = (5 : Int32) then nI (holdA b g c cs.1) else if a = (6 : Int32) then mindedA b g c cs else if a = (7 : Int32) then wholeA b g c 61 cs else -1
theorem ofC {F : Nat} {h : PH} {g : SG} {b : Bn} {cs : CS} {a x : Int32} (hF : 100 ≤ F) (hF2 : F < 2 ^ 28) (e : EnvC h g b) (r : RepC h 6 cs) (ht : cs.1 < 2 ^ 16) (htF : cs.1 < F) :
    ∃ h', f_X9_of F x a h = some (if inb x g.1 = true then ofA b g cs (ix x) a else -1, h') ∧ FrC 35 h h' := by
  unfold f_X9_of
  rw [isClockC e.1 e.2.1, bnd_some]
  by_cases hi : inb x g.1 = true
  · obtain ⟨c, hc, rfl⟩ := inb_lt hi (by have := e.2.1; omega)
    have h6 : c < 6 := Nat.lt_of_lt_of_le hc e.2.1
    have hin : inb (nI c) 6 = true := inb_nI h6 (by decide)
    have hr := r.2 c h6
    obtain ⟨h1, e1, e2⟩ := wholeC (F := F) hF hc e r (by omega)
    rw [if_pos hi, if_neg (show ¬ (1 : Int32) = 0 by decide), if_pos hi, show h.1 6 0 = nI cs.1 from r.1, leftOfC (by decide) e hc r (by omega), bnd_some, holdsC e h6 (by omega), bnd_some, mindedC e hc r htF hF2, bnd_some, e1, bnd_some, ix_nI (by omega)]
    simp only [if_pos hin]
    rw [(e.2.2.1 c h6).1, (e.2.2.2.1 c h6).1, show h.1 7 c = _ from hr.1, show h.1 8 c = _ from hr.2.2]
    unfold ofA
    split
    · exact ⟨h, rfl, FrC.refl _ _⟩
    · split
      · exact ⟨h, rfl, FrC.refl _ _⟩
      · split
        · exact ⟨h, rfl, FrC.refl _ _⟩
        · split
          · refine ⟨h, ?_, FrC.refl _ _⟩
            cases cs.2.2 c <;> rfl
          · split
            · exact ⟨h, rfl, FrC.refl _ _⟩
            · split
              · exact ⟨h, rfl, FrC.refl _ _⟩
              · split
                · exact ⟨h, rfl, FrC.refl _ _⟩
                · split
                  · exact ⟨h1, rfl, e2⟩
                  · exact ⟨h, rfl, FrC.refl _ _⟩
  · rw [if_neg hi, if_pos (show (0 : Int32) = 0 from rfl), if_neg hi]
    exact ⟨h, rfl, FrC.refl _ _⟩
theorem ofM' {F : Nat} {h : PH} {g : SG} {b : BT} {cs : CS} {a x : Int32} (hF : 700 ≤ F) (e : EnvM h g b) (r : RepM h cs) (ht : cs.1 < 2 ^ 16) (htF : cs.1 < F) :
    ∃ h', f_X10_of F x a h = some (if inb x g.1 = true then ofA (semB b) g cs (ix x) a else -1, h') ∧ FrQ h h' ∧ RepM h' cs := by
  have nop : FrQ h h ∧ RepM h cs := ⟨FrQ.refl h, r⟩
  unfold f_X10_of
  rw [isClockM e.1 e.2.1, bnd_some]
  by_cases hi : inb x g.1 = true
  · obtain ⟨c, hc, rfl⟩ := inb_lt hi (by have := e.2.1; omega)
    have h6 : c < 6 := Nat.lt_of_lt_of_le hc e.2.1
    have hin : inb (nI c) 6 = true := inb_nI h6 (by decide)
    have hr := r.2.2 c h6
    obtain ⟨h1, e1, e2, e3⟩ := wholeM (F := F) hF hc e r (by omega)
    obtain ⟨h2, m1, m2⟩ := mindedM (F := F) hF e hc r htF (by omega)
    obtain ⟨h3, l1, l2⟩ := leftM (F := F) hF e hc r htF (by omega)
    rw [if_pos hi, if_neg (show ¬ (1 : Int32) = 0 by decide), if_pos hi, hasM r.2.1 h6, bnd_some, l1, bnd_some, holdsOfM (by omega) e h6 r (by omega), bnd_some, m1, bnd_some, e1, bnd_some, ix_nI (by omega)]
    simp only [if_pos hin]
    rw [(e.2.2.1 c h6).1, (e.2.2.2.1 c h6).1, hr.1]
    unfold ofA
    split
    · exact ⟨h, rfl, nop⟩
    · split
      · exact ⟨h, rfl, nop⟩
      · split
        · exact ⟨h, rfl, nop⟩
        · split
          · refine ⟨h, ?_, nop⟩
            cases cs.2.2 c <;> rfl
          · split
            · exact ⟨h3, rfl, r.pp l2⟩
            · split
              · exact ⟨h, rfl, nop⟩
              · split
                · exact ⟨h2, rfl, r.pp m2⟩
                · split
                  · exact ⟨h1, rfl, e2, e3⟩
                  · exact ⟨h, rfl, nop⟩
  · rw [if_neg hi, if_pos (show (0 : Int32) = 0 from rfl), if_neg hi]
    exact ⟨h, rfl, nop⟩
