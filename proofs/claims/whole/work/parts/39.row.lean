def rowG (g : SG) (i v : Nat) : SG := (g.1, g.2.1, g.2.2.1, va_up g.2.2.2 i v)
theorem preA_row {b : Bn} {g : SG} {c i v : Nat} : ∀ d, preA b (rowG g i v) c d = preA b g c d
  | 0 => rfl
  | d + 1 => by
    show preA b (rowG g i v) c d + newsA b (rowG g i v) c d = preA b g c d + newsA b g c d
    rw [preA_row d]; rfl
def rowA (g : SG) (x i v : Int32) : Int32 × SG := if inb x g.1 = true then (if wth i 0 3 = 0 then (-1, g) else if wth v 0 9 = 0 then (-2, g) else if g.2.1 (ix x) = 6 then (nI (g.2.2.2 (ix x * 4 + ix i)), rowG g (ix x * 4 + ix i) (ix v)) else (-3, g)) else (-1, g)
theorem rowC {F : Nat} {h : PH} {g : SG} {b : Bn} {x i v : Int32} (e : EnvC h g b) :
    ∃ h', f_X9_row F x i v h = some ((rowA g x i v).1, h') ∧ EnvC h' (rowA g x i v).2 b ∧ (∀ a, a ≠ 4 → h'.1 a = h.1 a) ∧ h'.2 = h.2 := by
  have nop : EnvC h g b ∧ (∀ a, a ≠ 4 → h.1 a = h.1 a) ∧ h.2 = h.2 := ⟨e, fun _ _ => rfl, rfl⟩
  unfold f_X9_row rowA
  rw [isClockC e.1 e.2.1, bnd_some]
  by_cases hi : inb x g.1 = true
  · obtain ⟨c, hc, rfl⟩ := inb_lt hi (by have := e.2.1; omega)
    have h6 : c < 6 := Nat.lt_of_lt_of_le hc e.2.1
    have hin : inb (nI c) 6 = true := inb_nI h6 (by decide)
    have hk := e.2.2.1 c h6
    rw [if_pos hi, if_neg (show ¬ (1 : Int32) = 0 by decide), if_pos hi, within_eq, bnd_some]
    by_cases hw : wth i 0 3 = 0
    · rw [if_pos hw, if_pos hw]
      exact ⟨h, rfl, nop⟩
    · obtain ⟨p, hp, rfl⟩ := wth_N (m := 3) rfl (by decide) hw
      rw [if_neg hw, if_neg hw, within_eq, bnd_some]
      by_cases hv : wth v 0 9 = 0
      · rw [if_pos hv, if_pos hv]
        exact ⟨h, rfl, nop⟩
      · obtain ⟨q, hq, rfl⟩ := wth_N (m := 9) rfl (by decide) hv
        have hq4 : nI c * (4 : Int32) + nI p = nI (c * 4 + p) := by rw [li4, pk_mul, nI_add]
        have hin4 : inb (nI (c * 4 + p)) 24 = true := inb_nI (by omega) (by decide)
        rw [if_neg hv, if_neg hv, hq4, if_pos hin, if_pos hin4, if_pos hin4, ix_nI (by omega), ix_nI (by omega), ix_nI (by omega), ix_nI (by omega), hk.1, li6, if_e (by omega) (by omega), lth_eq, (e.2.2.2.2.1 (c * 4 + p) (by omega)).1]
        by_cases h7 : g.2.1 c = 6
        · rw [if_pos h7, if_pos h7]
          obtain ⟨e1, e2, e3, e4, e5, e6, e7, e8⟩ := e
          refine ⟨_, rfl, ⟨by rw [rI_ne (by decide)]; exact e1, e2, fun a ha => by rw [rI_ne (by decide)]; exact e3 a ha, fun a ha => by rw [rI_ne (by decide)]; exact e4 a ha, fun a ha => ?_, fun a ha d hd => ?_, ?_, e8⟩, fun a ha => rI_ne ha, rfl⟩
          · show (wI h 4 (c * 4 + p) (nI q)).1 4 a = nI (va_up g.2.2.2 (c * 4 + p) q a) ∧ va_up g.2.2.2 (c * 4 + p) q a ≤ 9
            rw [rI, va_if]
            by_cases hap : a = c * 4 + p
            · rw [if_pos ⟨rfl, hap⟩, if_pos hap]; exact ⟨rfl, hq⟩
            · rw [if_neg (fun z => hap z.2), if_neg hap]; exact e5 a ha
          · rw [rI_ne (by decide), preA_row]; exact e6 a ha d hd
          · unfold paceC at e7 ⊢
            show match h.2.2 1 10 with | none => b.1 = 10 | some z => isBench z = true ∧ (wI h 4 (c * 4 + p) (nI q)).1 z 0 = nI b.1
            cases hz : h.2.2 1 10 with
            | none => rw [hz] at e7; exact e7
            | some z =>
              rw [hz] at e7
              have := isBench_or e7.1
              exact ⟨e7.1, by rw [rI_ne (by omega)]; exact e7.2⟩
        · rw [if_neg h7, if_neg h7]
          exact ⟨h, rfl, nop⟩
  · rw [if_neg hi, if_pos (show (0 : Int32) = 0 from rfl), if_neg hi]
    exact ⟨h, rfl, nop⟩
theorem rowM {F : Nat} {h : PH} {g : SG} {b : BT} {x i v : Int32} (e : EnvM h g b) :
    ∃ h', f_X10_row F x i v h = some ((rowA g x i v).1, h') ∧ EnvM h' (rowA g x i v).2 b ∧ (∀ a, a ≠ 106 → h'.1 a = h.1 a) ∧ h'.2 = h.2 := by
  have nop : EnvM h g b ∧ (∀ a, a ≠ 106 → h.1 a = h.1 a) ∧ h.2 = h.2 := ⟨e, fun _ _ => rfl, rfl⟩
  unfold f_X10_row rowA
  rw [isClockM e.1 e.2.1, bnd_some]
  by_cases hi : inb x g.1 = true
  · obtain ⟨c, hc, rfl⟩ := inb_lt hi (by have := e.2.1; omega)
    have h6 : c < 6 := Nat.lt_of_lt_of_le hc e.2.1
    have hin : inb (nI c) 6 = true := inb_nI h6 (by decide)
    have hk := e.2.2.1 c h6
    rw [if_pos hi, if_neg (show ¬ (1 : Int32) = 0 by decide), if_pos hi, in_eq, bnd_some]
    by_cases hw : wth i 0 3 = 0
    · rw [if_pos hw, if_pos hw]
      exact ⟨h, rfl, nop⟩
    · obtain ⟨p, hp, rfl⟩ := wth_N (m := 3) rfl (by decide) hw
      rw [if_neg hw, if_neg hw, in_eq, bnd_some]
      by_cases hv : wth v 0 9 = 0
      · rw [if_pos hv, if_pos hv]
        exact ⟨h, rfl, nop⟩
      · obtain ⟨q, hq, rfl⟩ := wth_N (m := 9) rfl (by decide) hv
        have hq4 : (4 : Int32) * nI c + nI p = nI (c * 4 + p) := by rw [li4, pk_mul, nI_add, Nat.mul_comm]
        have hin4 : inb (nI (c * 4 + p)) 24 = true := inb_nI (by omega) (by decide)
        rw [if_neg hv, if_neg hv, hq4, if_pos hin, if_pos hin4, if_pos hin4, ix_nI (by omega), ix_nI (by omega), ix_nI (by omega), ix_nI (by omega), hk.1, li6, if_e (by omega) (by omega), lth_eq, (e.2.2.2.2.1 (c * 4 + p) (by omega)).1]
        by_cases h7 : g.2.1 c = 6
        · rw [if_pos h7, if_pos h7]
          obtain ⟨e1, e2, e3, e4, e5, e6, e7⟩ := e
          have far : ∀ a, a ≠ 106 → (wI h 106 (c * 4 + p) (nI q)).1 a = h.1 a := fun a ha => rI_ne ha
          refine ⟨_, rfl, ⟨by rw [far 102 (by decide)]; exact e1, e2, fun a ha => by rw [far 103 (by decide)]; exact e3 a ha, fun a ha => by rw [far 104 (by decide)]; exact e4 a ha, fun a ha => ?_, e6.fr (by rw [far 102 (by decide)]) (far _ (by decide)) (far _ (by decide)) (far _ (by decide)) (far _ (by decide)) (far _ (by decide)) (far _ (by decide)), ?_⟩, far, rfl⟩
          · show (wI h 106 (c * 4 + p) (nI q)).1 106 a = nI (va_up g.2.2.2 (c * 4 + p) q a) ∧ va_up g.2.2.2 (c * 4 + p) q a ≤ 9
            rw [rI, va_if]
            by_cases hap : a = c * 4 + p
            · rw [if_pos ⟨rfl, hap⟩, if_pos hap]; exact ⟨rfl, hq⟩
            · rw [if_neg (fun z => hap z.2), if_neg hap]; exact e5 a ha
          · unfold laidOK at e7 ⊢
            rw [far 102 (by decide), far 117 (by decide), far 118 (by decide)]
            exact e7
        · rw [if_neg h7, if_neg h7]
          exact ⟨h, rfl, nop⟩
  · rw [if_neg hi, if_pos (show (0 : Int32) = 0 from rfl), if_neg hi]
    exact ⟨h, rfl, nop⟩
