-- the text fed, on both sides
def TxtC (h : PH) (n : Nat) (tx : Nat → Nat) : Prop := h.1 31 1 = nI n ∧ n ≤ 100 ∧ ∀ i, i < n → h.1 32 i = nI (tx i) ∧ tx i ≤ 127
def TxtM (h : PH) (n : Nat) (tx : Nat → Nat) : Prop := h.1 102 9 = nI n ∧ n ≤ 100 ∧ ∀ i, i < n → h.1 107 i = nI (tx i) ∧ tx i ≤ 127
theorem byte_id : ∀ n, n < 128 → vp_nar .byte ((nI n).toInt8.toInt32) = nI n := by decide +kernel
def feedA (n : Nat) (tx : Nat → Nat) (x : Int32) : Int32 × Nat × (Nat → Nat) := if wth x 0 127 = 0 then (-2, n, tx) else if n < 100 then (nI (n + 1), n + 1, va_up tx n (ix x)) else (-4, n, tx)
theorem feedC {F n : Nat} {h : PH} {tx : Nat → Nat} {x : Int32} (r : TxtC h n tx) : ∃ h', f_X9_feed F x h = some ((feedA n tx x).1, h') ∧ TxtC h' (feedA n tx x).2.1 (feedA n tx x).2.2 ∧ (∀ a, a ≠ 31 → a ≠ 32 → h'.1 a = h.1 a) ∧ (∀ i, i ≠ 1 → h'.1 31 i = h.1 31 i) ∧ h'.2 = h.2 := by
  have nop : TxtC h n tx ∧ (∀ a, a ≠ 31 → a ≠ 32 → h.1 a = h.1 a) ∧ (∀ i, i ≠ 1 → h.1 31 i = h.1 31 i) ∧ h.2 = h.2 := ⟨r, fun _ _ _ => rfl, fun _ _ => rfl, rfl⟩
  unfold f_X9_feed f_X5_take feedA
  rw [within_eq, bnd_some]
  by_cases hw : wth x 0 127 = 0
  · rw [if_pos hw, if_pos hw]
    exact ⟨h, rfl, nop⟩
  · obtain ⟨q, hq, rfl⟩ := wth_N (m := 127) rfl (by decide) hw
    have hn := r.2.1
    rw [if_neg hw, if_neg hw, r.1, show (100 : Int32) = nI 100 from rfl, if_t (by omega) (by decide), byte_id q (by omega), ix_nI (by omega), ix_nI (by omega)]
    by_cases hl : n < 100
    · rw [if_pos hl, if_pos (inb_nI hl (by decide)), lth_eq, lth_eq, rI_ne (show (31 : Nat) ≠ 32 by decide), r.1, nI_1, bnd_some, if_neg (show ¬ (1 : Int32) = 0 by decide), if_pos hl, rI_eq]
      refine ⟨_, rfl, ⟨rI_eq _ _ _ _, by show n + 1 ≤ 100; omega, fun i hi => ?_⟩, fun a u v => by rw [rI_ne u, rI_ne v], fun i u => by rw [rI_sl u, rI_ne (by decide)], rfl⟩
      have hi' : i < n + 1 := hi
      show (wI (wI h 32 n (nI q)) 31 1 (nI (n + 1))).1 32 i = nI (va_up tx n q i) ∧ va_up tx n q i ≤ 127
      rw [rI_ne (by decide), rI, va_if]
      by_cases hin : i = n
      · rw [if_pos ⟨rfl, hin⟩, if_pos hin]; exact ⟨rfl, hq⟩
      · rw [if_neg (fun z => hin z.2), if_neg hin]; exact r.2.2 i (by omega)
    · rw [if_neg hl, bnd_some, if_pos (show (0 : Int32) = 0 from rfl), if_neg hl]
      exact ⟨h, rfl, nop⟩
theorem feedM {F n : Nat} {h : PH} {tx : Nat → Nat} {x : Int32} (r : TxtM h n tx) : ∃ h', f_X10_feed F x h = some ((feedA n tx x).1, h') ∧ TxtM h' (feedA n tx x).2.1 (feedA n tx x).2.2 ∧ (∀ a, a ≠ 102 → a ≠ 107 → h'.1 a = h.1 a) ∧ (∀ i, i ≠ 9 → h'.1 102 i = h.1 102 i) ∧ h'.2 = h.2 := by
  have nop : TxtM h n tx ∧ (∀ a, a ≠ 102 → a ≠ 107 → h.1 a = h.1 a) ∧ (∀ i, i ≠ 9 → h.1 102 i = h.1 102 i) ∧ h.2 = h.2 := ⟨r, fun _ _ _ => rfl, fun _ _ => rfl, rfl⟩
  unfold f_X10_feed feedA
  rw [in_eq, bnd_some]
  by_cases hw : wth x 0 127 = 0
  · rw [if_pos hw, if_pos hw]
    exact ⟨h, rfl, nop⟩
  · obtain ⟨q, hq, rfl⟩ := wth_N (m := 127) rfl (by decide) hw
    have hn := r.2.1
    rw [if_neg hw, if_neg hw, r.1, show (100 : Int32) = nI 100 from rfl, if_e (by omega) (by decide), ix_nI (by omega), ix_nI (by omega)]
    by_cases hl : n < 100
    · rw [if_neg (show ¬ n = 100 by omega), if_pos (inb_nI hl (by decide)), lth_eq, lth_eq, rI_ne (show (102 : Nat) ≠ 107 by decide), r.1, nI_1, if_pos hl, rI_eq]
      refine ⟨_, rfl, ⟨rI_eq _ _ _ _, by show n + 1 ≤ 100; omega, fun i hi => ?_⟩, fun a u v => by rw [rI_ne u, rI_ne v], fun i u => by rw [rI_sl u, rI_ne (by decide)], rfl⟩
      have hi' : i < n + 1 := hi
      show (wI (wI h 107 n (nI q)) 102 9 (nI (n + 1))).1 107 i = nI (va_up tx n q i) ∧ va_up tx n q i ≤ 127
      rw [rI_ne (by decide), rI, va_if]
      by_cases hin : i = n
      · rw [if_pos ⟨rfl, hin⟩, if_pos hin]; exact ⟨rfl, hq⟩
      · rw [if_neg (fun z => hin z.2), if_neg hin]; exact r.2.2 i (by omega)
    · rw [if_pos (show n = 100 by omega), if_neg hl]
      exact ⟨h, rfl, nop⟩
