-- the image, taken and put back
def Cp (N k d s : Nat) (h h' : PH) : Prop := ∀ i, h'.1 d i = if k ≤ i ∧ i < N then h.1 s i else h.1 d i
theorem Cp.at {N d s i : Nat} {h h' : PH} (c : Cp N 0 d s h h') (hi : i < N) : h'.1 d i = h.1 s i := by rw [c i, if_pos ⟨Nat.zero_le _, hi⟩]
theorem cp_image_214 {F : Nat} : ∀ (m k f : Nat) (h : PH), k + m = 8 → m < f → ∃ h', fL_X10_image_214 F f (nI k) h = some ((h'.1 102 0), h') ∧ h'.2 = h.2 ∧ (∀ a, a ≠ 136 → a ≠ 137 → h'.1 a = h.1 a) ∧ Cp 8 k 136 126 h h' ∧ Cp 8 k 137 127 h h' := by
  intro m
  induction m with
  | zero =>
    intro k f h hk hf
    obtain ⟨f, rfl⟩ : ∃ m, f = m + 1 := ⟨f - 1, by omega⟩
    refine ⟨h, by rw [fL_X10_image_214, show (8 : Int32) = nI 8 from rfl, if_l (by decide) (by omega), if_pos (show 8 ≤ k by omega)], rfl, fun _ _ _ => rfl, fun i => by rw [if_neg (by omega)], fun i => by rw [if_neg (by omega)]⟩
  | succ m ih =>
    intro k f h hk hf
    obtain ⟨f, rfl⟩ : ∃ m, f = m + 1 := ⟨f - 1, by omega⟩
    have hin : inb (nI k) 8 = true := inb_nI (by omega) (by decide)
    obtain ⟨h', e1, e2, e3, c0, c1⟩ := ih (k + 1) f (wI (wI h 136 k (h.1 126 k)) 137 k (h.1 127 k)) (by omega) (by omega)
    refine ⟨h', ?_, by rw [e2]; rfl, fun a u0 u1 => by rw [e3 a u0 u1, rI_ne u1, rI_ne u0], fun i => ?_, fun i => ?_⟩
    · rw [fL_X10_image_214, show (8 : Int32) = nI 8 from rfl, if_l (by decide) (by omega), if_neg (show ¬ 8 ≤ k by omega), if_pos hin, if_pos hin, lth_eq, ix_nI (show k < 2 ^ 31 by omega), if_pos hin, if_pos hin, lth_eq, rI_ne (show (127 : Nat) ≠ 136 by decide), nI_1]
      exact e1
    · rw [c0 i, rI_ne (show (126 : Nat) ≠ 137 by decide), rI_ne (show (126 : Nat) ≠ 136 by decide), rI_ne (show (136 : Nat) ≠ 137 by decide), rI]
      by_cases h1 : i = k
      · rw [if_neg (show ¬ (k + 1 ≤ i ∧ i < 8) by omega), if_pos ⟨rfl, h1⟩, if_pos (by omega), h1]
      · by_cases h2 : k + 1 ≤ i ∧ i < 8
        · rw [if_pos h2, if_pos (by omega)]
        · rw [if_neg h2, if_neg (fun z => h1 z.2), if_neg (by omega)]
    · rw [c1 i, rI_ne (show (127 : Nat) ≠ 137 by decide), rI_ne (show (127 : Nat) ≠ 136 by decide), rI, rI_ne (show (137 : Nat) ≠ 136 by decide)]
      by_cases h1 : i = k
      · rw [if_neg (show ¬ (k + 1 ≤ i ∧ i < 8) by omega), if_pos ⟨rfl, h1⟩, if_pos (by omega), h1]
      · by_cases h2 : k + 1 ≤ i ∧ i < 8
        · rw [if_pos h2, if_pos (by omega)]
        · rw [if_neg h2, if_neg (fun z => h1 z.2), if_neg (by omega)]
theorem cp_image_188 {F : Nat} : ∀ (m k f : Nat) (h : PH), k + m = 10 → m < f → ∃ h', fL_X10_image_188 F f (nI k) h = fL_X10_image_214 F F (nI 0) h' ∧ h'.2 = h.2 ∧ (∀ a, a ≠ 135 → h'.1 a = h.1 a) ∧ Cp 10 k 135 125 h h' := by
  intro m
  induction m with
  | zero =>
    intro k f h hk hf
    obtain ⟨f, rfl⟩ : ∃ m, f = m + 1 := ⟨f - 1, by omega⟩
    refine ⟨h, by rw [fL_X10_image_188, show (10 : Int32) = nI 10 from rfl, if_l (by decide) (by omega), if_pos (show 10 ≤ k by omega)]; rfl, rfl, fun _ _ => rfl, fun i => by rw [if_neg (by omega)]⟩
  | succ m ih =>
    intro k f h hk hf
    obtain ⟨f, rfl⟩ : ∃ m, f = m + 1 := ⟨f - 1, by omega⟩
    have hin : inb (nI k) 10 = true := inb_nI (by omega) (by decide)
    obtain ⟨h', e1, e2, e3, c0⟩ := ih (k + 1) f (wI h 135 k (h.1 125 k)) (by omega) (by omega)
    refine ⟨h', ?_, by rw [e2]; rfl, fun a u0 => by rw [e3 a u0, rI_ne u0], fun i => ?_⟩
    · rw [fL_X10_image_188, show (10 : Int32) = nI 10 from rfl, if_l (by decide) (by omega), if_neg (show ¬ 10 ≤ k by omega), if_pos hin, if_pos hin, lth_eq, ix_nI (show k < 2 ^ 31 by omega), nI_1]
      exact e1
    · rw [c0 i, rI_ne (show (125 : Nat) ≠ 135 by decide), rI]
      by_cases h1 : i = k
      · rw [if_neg (show ¬ (k + 1 ≤ i ∧ i < 10) by omega), if_pos ⟨rfl, h1⟩, if_pos (by omega), h1]
      · by_cases h2 : k + 1 ≤ i ∧ i < 10
        · rw [if_pos h2, if_pos (by omega)]
        · rw [if_neg h2, if_neg (fun z => h1 z.2), if_neg (by omega)]
theorem cp_image_139 {F : Nat} : ∀ (m k f : Nat) (h : PH), k + m = 5 → m < f → ∃ h', fL_X10_image_139 F f (nI k) h = fL_X10_image_188 F F (nI 0) h' ∧ h'.2 = h.2 ∧ (∀ a, a ≠ 132 → a ≠ 133 → a ≠ 134 → h'.1 a = h.1 a) ∧ Cp 5 k 132 122 h h' ∧ Cp 5 k 133 123 h h' ∧ Cp 5 k 134 124 h h' := by
  intro m
  induction m with
  | zero =>
    intro k f h hk hf
    obtain ⟨f, rfl⟩ : ∃ m, f = m + 1 := ⟨f - 1, by omega⟩
    refine ⟨h, by rw [fL_X10_image_139, show (5 : Int32) = nI 5 from rfl, if_l (by decide) (by omega), if_pos (show 5 ≤ k by omega)]; rfl, rfl, fun _ _ _ _ => rfl, fun i => by rw [if_neg (by omega)], fun i => by rw [if_neg (by omega)], fun i => by rw [if_neg (by omega)]⟩
  | succ m ih =>
    intro k f h hk hf
    obtain ⟨f, rfl⟩ : ∃ m, f = m + 1 := ⟨f - 1, by omega⟩
    have hin : inb (nI k) 5 = true := inb_nI (by omega) (by decide)
    obtain ⟨h', e1, e2, e3, c0, c1, c2⟩ := ih (k + 1) f (wI (wI (wI h 132 k (h.1 122 k)) 133 k (h.1 123 k)) 134 k (h.1 124 k)) (by omega) (by omega)
    refine ⟨h', ?_, by rw [e2]; rfl, fun a u0 u1 u2 => by rw [e3 a u0 u1 u2, rI_ne u2, rI_ne u1, rI_ne u0], fun i => ?_, fun i => ?_, fun i => ?_⟩
    · rw [fL_X10_image_139, show (5 : Int32) = nI 5 from rfl, if_l (by decide) (by omega), if_neg (show ¬ 5 ≤ k by omega), if_pos hin, if_pos hin, lth_eq, ix_nI (show k < 2 ^ 31 by omega), if_pos hin, if_pos hin, lth_eq, rI_ne (show (123 : Nat) ≠ 132 by decide), if_pos hin, if_pos hin, lth_eq, rI_ne (show (124 : Nat) ≠ 133 by decide), rI_ne (show (124 : Nat) ≠ 132 by decide), nI_1]
      exact e1
    · rw [c0 i, rI_ne (show (122 : Nat) ≠ 134 by decide), rI_ne (show (122 : Nat) ≠ 133 by decide), rI_ne (show (122 : Nat) ≠ 132 by decide), rI_ne (show (132 : Nat) ≠ 134 by decide), rI_ne (show (132 : Nat) ≠ 133 by decide), rI]
      by_cases h1 : i = k
      · rw [if_neg (show ¬ (k + 1 ≤ i ∧ i < 5) by omega), if_pos ⟨rfl, h1⟩, if_pos (by omega), h1]
      · by_cases h2 : k + 1 ≤ i ∧ i < 5
        · rw [if_pos h2, if_pos (by omega)]
        · rw [if_neg h2, if_neg (fun z => h1 z.2), if_neg (by omega)]
    · rw [c1 i, rI_ne (show (123 : Nat) ≠ 134 by decide), rI_ne (show (123 : Nat) ≠ 133 by decide), rI_ne (show (123 : Nat) ≠ 132 by decide), rI_ne (show (133 : Nat) ≠ 134 by decide), rI, rI_ne (show (133 : Nat) ≠ 132 by decide)]
      by_cases h1 : i = k
      · rw [if_neg (show ¬ (k + 1 ≤ i ∧ i < 5) by omega), if_pos ⟨rfl, h1⟩, if_pos (by omega), h1]
      · by_cases h2 : k + 1 ≤ i ∧ i < 5
        · rw [if_pos h2, if_pos (by omega)]
        · rw [if_neg h2, if_neg (fun z => h1 z.2), if_neg (by omega)]
    · rw [c2 i, rI_ne (show (124 : Nat) ≠ 134 by decide), rI_ne (show (124 : Nat) ≠ 133 by decide), rI_ne (show (124 : Nat) ≠ 132 by decide), rI, rI_ne (show (134 : Nat) ≠ 133 by decide), rI_ne (show (134 : Nat) ≠ 132 by decide)]
      by_cases h1 : i = k
      · rw [if_neg (show ¬ (k + 1 ≤ i ∧ i < 5) by omega), if_pos ⟨rfl, h1⟩, if_pos (by omega), h1]
      · by_cases h2 : k + 1 ≤ i ∧ i < 5
        · rw [if_pos h2, if_pos (by omega)]
        · rw [if_neg h2, if_neg (fun z => h1 z.2), if_neg (by omega)]
theorem cp_image_113 {F : Nat} : ∀ (m k f : Nat) (h : PH), k + m = 24 → m < f → ∃ h', fL_X10_image_113 F f (nI k) h = fL_X10_image_139 F F (nI 0) h' ∧ h'.2 = h.2 ∧ (∀ a, a ≠ 131 → h'.1 a = h.1 a) ∧ Cp 24 k 131 106 h h' := by
  intro m
  induction m with
  | zero =>
    intro k f h hk hf
    obtain ⟨f, rfl⟩ : ∃ m, f = m + 1 := ⟨f - 1, by omega⟩
    refine ⟨h, by rw [fL_X10_image_113, show (24 : Int32) = nI 24 from rfl, if_l (by decide) (by omega), if_pos (show 24 ≤ k by omega)]; rfl, rfl, fun _ _ => rfl, fun i => by rw [if_neg (by omega)]⟩
  | succ m ih =>
    intro k f h hk hf
    obtain ⟨f, rfl⟩ : ∃ m, f = m + 1 := ⟨f - 1, by omega⟩
    have hin : inb (nI k) 24 = true := inb_nI (by omega) (by decide)
    obtain ⟨h', e1, e2, e3, c0⟩ := ih (k + 1) f (wI h 131 k (h.1 106 k)) (by omega) (by omega)
    refine ⟨h', ?_, by rw [e2]; rfl, fun a u0 => by rw [e3 a u0, rI_ne u0], fun i => ?_⟩
    · rw [fL_X10_image_113, show (24 : Int32) = nI 24 from rfl, if_l (by decide) (by omega), if_neg (show ¬ 24 ≤ k by omega), if_pos hin, if_pos hin, lth_eq, ix_nI (show k < 2 ^ 31 by omega), nI_1]
      exact e1
    · rw [c0 i, rI_ne (show (106 : Nat) ≠ 131 by decide), rI]
      by_cases h1 : i = k
      · rw [if_neg (show ¬ (k + 1 ≤ i ∧ i < 24) by omega), if_pos ⟨rfl, h1⟩, if_pos (by omega), h1]
      · by_cases h2 : k + 1 ≤ i ∧ i < 24
        · rw [if_pos h2, if_pos (by omega)]
        · rw [if_neg h2, if_neg (fun z => h1 z.2), if_neg (by omega)]
theorem cp_image_63 {F : Nat} : ∀ (m k f : Nat) (h : PH), k + m = 6 → m < f → ∃ h', fL_X10_image_63 F f (nI k) h = fL_X10_image_113 F F (nI 0) h' ∧ h'.2 = h.2 ∧ (∀ a, a ≠ 128 → a ≠ 129 → a ≠ 130 → h'.1 a = h.1 a) ∧ Cp 6 k 128 103 h h' ∧ Cp 6 k 129 104 h h' ∧ Cp 6 k 130 105 h h' := by
  intro m
  induction m with
  | zero =>
    intro k f h hk hf
    obtain ⟨f, rfl⟩ : ∃ m, f = m + 1 := ⟨f - 1, by omega⟩
    refine ⟨h, by rw [fL_X10_image_63, show (6 : Int32) = nI 6 from rfl, if_l (by decide) (by omega), if_pos (show 6 ≤ k by omega)]; rfl, rfl, fun _ _ _ _ => rfl, fun i => by rw [if_neg (by omega)], fun i => by rw [if_neg (by omega)], fun i => by rw [if_neg (by omega)]⟩
  | succ m ih =>
    intro k f h hk hf
    obtain ⟨f, rfl⟩ : ∃ m, f = m + 1 := ⟨f - 1, by omega⟩
    have hin : inb (nI k) 6 = true := inb_nI (by omega) (by decide)
    obtain ⟨h', e1, e2, e3, c0, c1, c2⟩ := ih (k + 1) f (wI (wI (wI h 128 k (h.1 103 k)) 129 k (h.1 104 k)) 130 k (h.1 105 k)) (by omega) (by omega)
    refine ⟨h', ?_, by rw [e2]; rfl, fun a u0 u1 u2 => by rw [e3 a u0 u1 u2, rI_ne u2, rI_ne u1, rI_ne u0], fun i => ?_, fun i => ?_, fun i => ?_⟩
    · rw [fL_X10_image_63, show (6 : Int32) = nI 6 from rfl, if_l (by decide) (by omega), if_neg (show ¬ 6 ≤ k by omega), if_pos hin, if_pos hin, lth_eq, ix_nI (show k < 2 ^ 31 by omega), if_pos hin, if_pos hin, lth_eq, rI_ne (show (104 : Nat) ≠ 128 by decide), if_pos hin, if_pos hin, lth_eq, rI_ne (show (105 : Nat) ≠ 129 by decide), rI_ne (show (105 : Nat) ≠ 128 by decide), nI_1]
      exact e1
    · rw [c0 i, rI_ne (show (103 : Nat) ≠ 130 by decide), rI_ne (show (103 : Nat) ≠ 129 by decide), rI_ne (show (103 : Nat) ≠ 128 by decide), rI_ne (show (128 : Nat) ≠ 130 by decide), rI_ne (show (128 : Nat) ≠ 129 by decide), rI]
      by_cases h1 : i = k
      · rw [if_neg (show ¬ (k + 1 ≤ i ∧ i < 6) by omega), if_pos ⟨rfl, h1⟩, if_pos (by omega), h1]
      · by_cases h2 : k + 1 ≤ i ∧ i < 6
        · rw [if_pos h2, if_pos (by omega)]
        · rw [if_neg h2, if_neg (fun z => h1 z.2), if_neg (by omega)]
    · rw [c1 i, rI_ne (show (104 : Nat) ≠ 130 by decide), rI_ne (show (104 : Nat) ≠ 129 by decide), rI_ne (show (104 : Nat) ≠ 128 by decide), rI_ne (show (129 : Nat) ≠ 130 by decide), rI, rI_ne (show (129 : Nat) ≠ 128 by decide)]
      by_cases h1 : i = k
      · rw [if_neg (show ¬ (k + 1 ≤ i ∧ i < 6) by omega), if_pos ⟨rfl, h1⟩, if_pos (by omega), h1]
      · by_cases h2 : k + 1 ≤ i ∧ i < 6
        · rw [if_pos h2, if_pos (by omega)]
        · rw [if_neg h2, if_neg (fun z => h1 z.2), if_neg (by omega)]
    · rw [c2 i, rI_ne (show (105 : Nat) ≠ 130 by decide), rI_ne (show (105 : Nat) ≠ 129 by decide), rI_ne (show (105 : Nat) ≠ 128 by decide), rI, rI_ne (show (130 : Nat) ≠ 129 by decide), rI_ne (show (130 : Nat) ≠ 128 by decide)]
      by_cases h1 : i = k
      · rw [if_neg (show ¬ (k + 1 ≤ i ∧ i < 6) by omega), if_pos ⟨rfl, h1⟩, if_pos (by omega), h1]
      · by_cases h2 : k + 1 ≤ i ∧ i < 6
        · rw [if_pos h2, if_pos (by omega)]
        · rw [if_neg h2, if_neg (fun z => h1 z.2), if_neg (by omega)]
theorem cps_image {F : Nat} {h : PH} (hF : 100 ≤ F) : ∃ h', fL_X10_image_63 F F (nI 0) h = some ((h.1 102 0), h') ∧ h'.2 = h.2 ∧ (∀ a, ¬ (128 ≤ a ∧ a ≤ 131) → ¬ (132 ≤ a ∧ a ≤ 137) → h'.1 a = h.1 a) ∧ (∀ i, i < 6 → h'.1 128 i = h.1 103 i) ∧ (∀ i, i < 6 → h'.1 129 i = h.1 104 i) ∧ (∀ i, i < 6 → h'.1 130 i = h.1 105 i) ∧ (∀ i, i < 24 → h'.1 131 i = h.1 106 i) ∧ (∀ i, i < 5 → h'.1 132 i = h.1 122 i) ∧ (∀ i, i < 5 → h'.1 133 i = h.1 123 i) ∧ (∀ i, i < 5 → h'.1 134 i = h.1 124 i) ∧ (∀ i, i < 10 → h'.1 135 i = h.1 125 i) ∧ (∀ i, i < 8 → h'.1 136 i = h.1 126 i) ∧ (∀ i, i < 8 → h'.1 137 i = h.1 127 i) := by
  obtain ⟨h0, e0, l0, f0, c0_0, c0_1, c0_2⟩ := cp_image_63 (F := F) 6 0 F h rfl (by omega)
  obtain ⟨h1, e1, l1, f1, c1_0⟩ := cp_image_113 (F := F) 24 0 F h0 rfl (by omega)
  obtain ⟨h2, e2, l2, f2, c2_0, c2_1, c2_2⟩ := cp_image_139 (F := F) 5 0 F h1 rfl (by omega)
  obtain ⟨h3, e3, l3, f3, c3_0⟩ := cp_image_188 (F := F) 10 0 F h2 rfl (by omega)
  obtain ⟨h4, e4, l4, f4, c4_0, c4_1⟩ := cp_image_214 (F := F) 8 0 F h3 rfl (by omega)
  refine ⟨h4, ?_, by rw [l4, l3, l2, l1, l0], fun a u v => by rw [f4 a (by omega) (by omega), f3 a (by omega), f2 a (by omega) (by omega) (by omega), f1 a (by omega), f0 a (by omega) (by omega) (by omega)], fun i hi => ?_, fun i hi => ?_, fun i hi => ?_, fun i hi => ?_, fun i hi => ?_, fun i hi => ?_, fun i hi => ?_, fun i hi => ?_, fun i hi => ?_, fun i hi => ?_⟩
  · rw [e0, e1, e2, e3, e4, f4 102 (by omega) (by omega), f3 102 (by omega), f2 102 (by omega) (by omega) (by omega), f1 102 (by omega), f0 102 (by omega) (by omega) (by omega)]
  · rw [f4 128 (by omega) (by omega), f3 128 (by omega), f2 128 (by omega) (by omega) (by omega), f1 128 (by omega), c0_0.at hi]
  · rw [f4 129 (by omega) (by omega), f3 129 (by omega), f2 129 (by omega) (by omega) (by omega), f1 129 (by omega), c0_1.at hi]
  · rw [f4 130 (by omega) (by omega), f3 130 (by omega), f2 130 (by omega) (by omega) (by omega), f1 130 (by omega), c0_2.at hi]
  · rw [f4 131 (by omega) (by omega), f3 131 (by omega), f2 131 (by omega) (by omega) (by omega), c1_0.at hi, f0 106 (by omega) (by omega) (by omega)]
  · rw [f4 132 (by omega) (by omega), f3 132 (by omega), c2_0.at hi, f1 122 (by omega), f0 122 (by omega) (by omega) (by omega)]
  · rw [f4 133 (by omega) (by omega), f3 133 (by omega), c2_1.at hi, f1 123 (by omega), f0 123 (by omega) (by omega) (by omega)]
  · rw [f4 134 (by omega) (by omega), f3 134 (by omega), c2_2.at hi, f1 124 (by omega), f0 124 (by omega) (by omega) (by omega)]
  · rw [f4 135 (by omega) (by omega), c3_0.at hi, f2 125 (by omega) (by omega) (by omega), f1 125 (by omega), f0 125 (by omega) (by omega) (by omega)]
  · rw [c4_0.at hi, f3 126 (by omega), f2 126 (by omega) (by omega) (by omega), f1 126 (by omega), f0 126 (by omega) (by omega) (by omega)]
  · rw [c4_1.at hi, f3 127 (by omega), f2 127 (by omega) (by omega) (by omega), f1 127 (by omega), f0 127 (by omega) (by omega) (by omega)]
theorem cp_undo_219 {F : Nat} : ∀ (m k f : Nat) (h : PH), k + m = 8 → m < f → ∃ h', fL_X10_undo_219 F f (nI k) h = some ((h'.1 102 0), h') ∧ h'.2 = h.2 ∧ (∀ a, a ≠ 126 → a ≠ 127 → h'.1 a = h.1 a) ∧ Cp 8 k 126 136 h h' ∧ Cp 8 k 127 137 h h' := by
  intro m
  induction m with
  | zero =>
    intro k f h hk hf
    obtain ⟨f, rfl⟩ : ∃ m, f = m + 1 := ⟨f - 1, by omega⟩
    refine ⟨h, by rw [fL_X10_undo_219, show (8 : Int32) = nI 8 from rfl, if_l (by decide) (by omega), if_pos (show 8 ≤ k by omega)], rfl, fun _ _ _ => rfl, fun i => by rw [if_neg (by omega)], fun i => by rw [if_neg (by omega)]⟩
  | succ m ih =>
    intro k f h hk hf
    obtain ⟨f, rfl⟩ : ∃ m, f = m + 1 := ⟨f - 1, by omega⟩
    have hin : inb (nI k) 8 = true := inb_nI (by omega) (by decide)
    obtain ⟨h', e1, e2, e3, c0, c1⟩ := ih (k + 1) f (wI (wI h 126 k (h.1 136 k)) 127 k (h.1 137 k)) (by omega) (by omega)
    refine ⟨h', ?_, by rw [e2]; rfl, fun a u0 u1 => by rw [e3 a u0 u1, rI_ne u1, rI_ne u0], fun i => ?_, fun i => ?_⟩
    · rw [fL_X10_undo_219, show (8 : Int32) = nI 8 from rfl, if_l (by decide) (by omega), if_neg (show ¬ 8 ≤ k by omega), if_pos hin, if_pos hin, lth_eq, ix_nI (show k < 2 ^ 31 by omega), if_pos hin, if_pos hin, lth_eq, rI_ne (show (137 : Nat) ≠ 126 by decide), nI_1]
      exact e1
    · rw [c0 i, rI_ne (show (136 : Nat) ≠ 127 by decide), rI_ne (show (136 : Nat) ≠ 126 by decide), rI_ne (show (126 : Nat) ≠ 127 by decide), rI]
      by_cases h1 : i = k
      · rw [if_neg (show ¬ (k + 1 ≤ i ∧ i < 8) by omega), if_pos ⟨rfl, h1⟩, if_pos (by omega), h1]
      · by_cases h2 : k + 1 ≤ i ∧ i < 8
        · rw [if_pos h2, if_pos (by omega)]
        · rw [if_neg h2, if_neg (fun z => h1 z.2), if_neg (by omega)]
    · rw [c1 i, rI_ne (show (137 : Nat) ≠ 127 by decide), rI_ne (show (137 : Nat) ≠ 126 by decide), rI, rI_ne (show (127 : Nat) ≠ 126 by decide)]
      by_cases h1 : i = k
      · rw [if_neg (show ¬ (k + 1 ≤ i ∧ i < 8) by omega), if_pos ⟨rfl, h1⟩, if_pos (by omega), h1]
      · by_cases h2 : k + 1 ≤ i ∧ i < 8
        · rw [if_pos h2, if_pos (by omega)]
        · rw [if_neg h2, if_neg (fun z => h1 z.2), if_neg (by omega)]
theorem cp_undo_193 {F : Nat} : ∀ (m k f : Nat) (h : PH), k + m = 10 → m < f → ∃ h', fL_X10_undo_193 F f (nI k) h = fL_X10_undo_219 F F (nI 0) h' ∧ h'.2 = h.2 ∧ (∀ a, a ≠ 125 → h'.1 a = h.1 a) ∧ Cp 10 k 125 135 h h' := by
  intro m
  induction m with
  | zero =>
    intro k f h hk hf
    obtain ⟨f, rfl⟩ : ∃ m, f = m + 1 := ⟨f - 1, by omega⟩
    refine ⟨h, by rw [fL_X10_undo_193, show (10 : Int32) = nI 10 from rfl, if_l (by decide) (by omega), if_pos (show 10 ≤ k by omega)]; rfl, rfl, fun _ _ => rfl, fun i => by rw [if_neg (by omega)]⟩
  | succ m ih =>
    intro k f h hk hf
    obtain ⟨f, rfl⟩ : ∃ m, f = m + 1 := ⟨f - 1, by omega⟩
    have hin : inb (nI k) 10 = true := inb_nI (by omega) (by decide)
    obtain ⟨h', e1, e2, e3, c0⟩ := ih (k + 1) f (wI h 125 k (h.1 135 k)) (by omega) (by omega)
    refine ⟨h', ?_, by rw [e2]; rfl, fun a u0 => by rw [e3 a u0, rI_ne u0], fun i => ?_⟩
    · rw [fL_X10_undo_193, show (10 : Int32) = nI 10 from rfl, if_l (by decide) (by omega), if_neg (show ¬ 10 ≤ k by omega), if_pos hin, if_pos hin, lth_eq, ix_nI (show k < 2 ^ 31 by omega), nI_1]
      exact e1
    · rw [c0 i, rI_ne (show (135 : Nat) ≠ 125 by decide), rI]
      by_cases h1 : i = k
      · rw [if_neg (show ¬ (k + 1 ≤ i ∧ i < 10) by omega), if_pos ⟨rfl, h1⟩, if_pos (by omega), h1]
      · by_cases h2 : k + 1 ≤ i ∧ i < 10
        · rw [if_pos h2, if_pos (by omega)]
        · rw [if_neg h2, if_neg (fun z => h1 z.2), if_neg (by omega)]
theorem cp_undo_144 {F : Nat} : ∀ (m k f : Nat) (h : PH), k + m = 5 → m < f → ∃ h', fL_X10_undo_144 F f (nI k) h = fL_X10_undo_193 F F (nI 0) h' ∧ h'.2 = h.2 ∧ (∀ a, a ≠ 122 → a ≠ 123 → a ≠ 124 → h'.1 a = h.1 a) ∧ Cp 5 k 122 132 h h' ∧ Cp 5 k 123 133 h h' ∧ Cp 5 k 124 134 h h' := by
  intro m
  induction m with
  | zero =>
    intro k f h hk hf
    obtain ⟨f, rfl⟩ : ∃ m, f = m + 1 := ⟨f - 1, by omega⟩
    refine ⟨h, by rw [fL_X10_undo_144, show (5 : Int32) = nI 5 from rfl, if_l (by decide) (by omega), if_pos (show 5 ≤ k by omega)]; rfl, rfl, fun _ _ _ _ => rfl, fun i => by rw [if_neg (by omega)], fun i => by rw [if_neg (by omega)], fun i => by rw [if_neg (by omega)]⟩
  | succ m ih =>
    intro k f h hk hf
    obtain ⟨f, rfl⟩ : ∃ m, f = m + 1 := ⟨f - 1, by omega⟩
    have hin : inb (nI k) 5 = true := inb_nI (by omega) (by decide)
    obtain ⟨h', e1, e2, e3, c0, c1, c2⟩ := ih (k + 1) f (wI (wI (wI h 122 k (h.1 132 k)) 123 k (h.1 133 k)) 124 k (h.1 134 k)) (by omega) (by omega)
    refine ⟨h', ?_, by rw [e2]; rfl, fun a u0 u1 u2 => by rw [e3 a u0 u1 u2, rI_ne u2, rI_ne u1, rI_ne u0], fun i => ?_, fun i => ?_, fun i => ?_⟩
    · rw [fL_X10_undo_144, show (5 : Int32) = nI 5 from rfl, if_l (by decide) (by omega), if_neg (show ¬ 5 ≤ k by omega), if_pos hin, if_pos hin, lth_eq, ix_nI (show k < 2 ^ 31 by omega), if_pos hin, if_pos hin, lth_eq, rI_ne (show (133 : Nat) ≠ 122 by decide), if_pos hin, if_pos hin, lth_eq, rI_ne (show (134 : Nat) ≠ 123 by decide), rI_ne (show (134 : Nat) ≠ 122 by decide), nI_1]
      exact e1
    · rw [c0 i, rI_ne (show (132 : Nat) ≠ 124 by decide), rI_ne (show (132 : Nat) ≠ 123 by decide), rI_ne (show (132 : Nat) ≠ 122 by decide), rI_ne (show (122 : Nat) ≠ 124 by decide), rI_ne (show (122 : Nat) ≠ 123 by decide), rI]
      by_cases h1 : i = k
      · rw [if_neg (show ¬ (k + 1 ≤ i ∧ i < 5) by omega), if_pos ⟨rfl, h1⟩, if_pos (by omega), h1]
      · by_cases h2 : k + 1 ≤ i ∧ i < 5
        · rw [if_pos h2, if_pos (by omega)]
        · rw [if_neg h2, if_neg (fun z => h1 z.2), if_neg (by omega)]
    · rw [c1 i, rI_ne (show (133 : Nat) ≠ 124 by decide), rI_ne (show (133 : Nat) ≠ 123 by decide), rI_ne (show (133 : Nat) ≠ 122 by decide), rI_ne (show (123 : Nat) ≠ 124 by decide), rI, rI_ne (show (123 : Nat) ≠ 122 by decide)]
      by_cases h1 : i = k
      · rw [if_neg (show ¬ (k + 1 ≤ i ∧ i < 5) by omega), if_pos ⟨rfl, h1⟩, if_pos (by omega), h1]
      · by_cases h2 : k + 1 ≤ i ∧ i < 5
        · rw [if_pos h2, if_pos (by omega)]
        · rw [if_neg h2, if_neg (fun z => h1 z.2), if_neg (by omega)]
    · rw [c2 i, rI_ne (show (134 : Nat) ≠ 124 by decide), rI_ne (show (134 : Nat) ≠ 123 by decide), rI_ne (show (134 : Nat) ≠ 122 by decide), rI, rI_ne (show (124 : Nat) ≠ 123 by decide), rI_ne (show (124 : Nat) ≠ 122 by decide)]
      by_cases h1 : i = k
      · rw [if_neg (show ¬ (k + 1 ≤ i ∧ i < 5) by omega), if_pos ⟨rfl, h1⟩, if_pos (by omega), h1]
      · by_cases h2 : k + 1 ≤ i ∧ i < 5
        · rw [if_pos h2, if_pos (by omega)]
        · rw [if_neg h2, if_neg (fun z => h1 z.2), if_neg (by omega)]
theorem cp_undo_118 {F : Nat} : ∀ (m k f : Nat) (h : PH), k + m = 24 → m < f → ∃ h', fL_X10_undo_118 F f (nI k) h = fL_X10_undo_144 F F (nI 0) h' ∧ h'.2 = h.2 ∧ (∀ a, a ≠ 106 → h'.1 a = h.1 a) ∧ Cp 24 k 106 131 h h' := by
  intro m
  induction m with
  | zero =>
    intro k f h hk hf
    obtain ⟨f, rfl⟩ : ∃ m, f = m + 1 := ⟨f - 1, by omega⟩
    refine ⟨h, by rw [fL_X10_undo_118, show (24 : Int32) = nI 24 from rfl, if_l (by decide) (by omega), if_pos (show 24 ≤ k by omega)]; rfl, rfl, fun _ _ => rfl, fun i => by rw [if_neg (by omega)]⟩
  | succ m ih =>
    intro k f h hk hf
    obtain ⟨f, rfl⟩ : ∃ m, f = m + 1 := ⟨f - 1, by omega⟩
    have hin : inb (nI k) 24 = true := inb_nI (by omega) (by decide)
    obtain ⟨h', e1, e2, e3, c0⟩ := ih (k + 1) f (wI h 106 k (h.1 131 k)) (by omega) (by omega)
    refine ⟨h', ?_, by rw [e2]; rfl, fun a u0 => by rw [e3 a u0, rI_ne u0], fun i => ?_⟩
    · rw [fL_X10_undo_118, show (24 : Int32) = nI 24 from rfl, if_l (by decide) (by omega), if_neg (show ¬ 24 ≤ k by omega), if_pos hin, if_pos hin, lth_eq, ix_nI (show k < 2 ^ 31 by omega), nI_1]
      exact e1
    · rw [c0 i, rI_ne (show (131 : Nat) ≠ 106 by decide), rI]
      by_cases h1 : i = k
      · rw [if_neg (show ¬ (k + 1 ≤ i ∧ i < 24) by omega), if_pos ⟨rfl, h1⟩, if_pos (by omega), h1]
      · by_cases h2 : k + 1 ≤ i ∧ i < 24
        · rw [if_pos h2, if_pos (by omega)]
        · rw [if_neg h2, if_neg (fun z => h1 z.2), if_neg (by omega)]
theorem cp_undo_68 {F : Nat} : ∀ (m k f : Nat) (h : PH), k + m = 6 → m < f → ∃ h', fL_X10_undo_68 F f (nI k) h = fL_X10_undo_118 F F (nI 0) h' ∧ h'.2 = h.2 ∧ (∀ a, a ≠ 103 → a ≠ 104 → a ≠ 105 → h'.1 a = h.1 a) ∧ Cp 6 k 103 128 h h' ∧ Cp 6 k 104 129 h h' ∧ Cp 6 k 105 130 h h' := by
  intro m
  induction m with
  | zero =>
    intro k f h hk hf
    obtain ⟨f, rfl⟩ : ∃ m, f = m + 1 := ⟨f - 1, by omega⟩
    refine ⟨h, by rw [fL_X10_undo_68, show (6 : Int32) = nI 6 from rfl, if_l (by decide) (by omega), if_pos (show 6 ≤ k by omega)]; rfl, rfl, fun _ _ _ _ => rfl, fun i => by rw [if_neg (by omega)], fun i => by rw [if_neg (by omega)], fun i => by rw [if_neg (by omega)]⟩
  | succ m ih =>
    intro k f h hk hf
    obtain ⟨f, rfl⟩ : ∃ m, f = m + 1 := ⟨f - 1, by omega⟩
    have hin : inb (nI k) 6 = true := inb_nI (by omega) (by decide)
    obtain ⟨h', e1, e2, e3, c0, c1, c2⟩ := ih (k + 1) f (wI (wI (wI h 103 k (h.1 128 k)) 104 k (h.1 129 k)) 105 k (h.1 130 k)) (by omega) (by omega)
    refine ⟨h', ?_, by rw [e2]; rfl, fun a u0 u1 u2 => by rw [e3 a u0 u1 u2, rI_ne u2, rI_ne u1, rI_ne u0], fun i => ?_, fun i => ?_, fun i => ?_⟩
    · rw [fL_X10_undo_68, show (6 : Int32) = nI 6 from rfl, if_l (by decide) (by omega), if_neg (show ¬ 6 ≤ k by omega), if_pos hin, if_pos hin, lth_eq, ix_nI (show k < 2 ^ 31 by omega), if_pos hin, if_pos hin, lth_eq, rI_ne (show (129 : Nat) ≠ 103 by decide), if_pos hin, if_pos hin, lth_eq, rI_ne (show (130 : Nat) ≠ 104 by decide), rI_ne (show (130 : Nat) ≠ 103 by decide), nI_1]
      exact e1
    · rw [c0 i, rI_ne (show (128 : Nat) ≠ 105 by decide), rI_ne (show (128 : Nat) ≠ 104 by decide), rI_ne (show (128 : Nat) ≠ 103 by decide), rI_ne (show (103 : Nat) ≠ 105 by decide), rI_ne (show (103 : Nat) ≠ 104 by decide), rI]
      by_cases h1 : i = k
      · rw [if_neg (show ¬ (k + 1 ≤ i ∧ i < 6) by omega), if_pos ⟨rfl, h1⟩, if_pos (by omega), h1]
      · by_cases h2 : k + 1 ≤ i ∧ i < 6
        · rw [if_pos h2, if_pos (by omega)]
        · rw [if_neg h2, if_neg (fun z => h1 z.2), if_neg (by omega)]
    · rw [c1 i, rI_ne (show (129 : Nat) ≠ 105 by decide), rI_ne (show (129 : Nat) ≠ 104 by decide), rI_ne (show (129 : Nat) ≠ 103 by decide), rI_ne (show (104 : Nat) ≠ 105 by decide), rI, rI_ne (show (104 : Nat) ≠ 103 by decide)]
      by_cases h1 : i = k
      · rw [if_neg (show ¬ (k + 1 ≤ i ∧ i < 6) by omega), if_pos ⟨rfl, h1⟩, if_pos (by omega), h1]
      · by_cases h2 : k + 1 ≤ i ∧ i < 6
        · rw [if_pos h2, if_pos (by omega)]
        · rw [if_neg h2, if_neg (fun z => h1 z.2), if_neg (by omega)]
    · rw [c2 i, rI_ne (show (130 : Nat) ≠ 105 by decide), rI_ne (show (130 : Nat) ≠ 104 by decide), rI_ne (show (130 : Nat) ≠ 103 by decide), rI, rI_ne (show (105 : Nat) ≠ 104 by decide), rI_ne (show (105 : Nat) ≠ 103 by decide)]
      by_cases h1 : i = k
      · rw [if_neg (show ¬ (k + 1 ≤ i ∧ i < 6) by omega), if_pos ⟨rfl, h1⟩, if_pos (by omega), h1]
      · by_cases h2 : k + 1 ≤ i ∧ i < 6
        · rw [if_pos h2, if_pos (by omega)]
        · rw [if_neg h2, if_neg (fun z => h1 z.2), if_neg (by omega)]
theorem cps_undo {F : Nat} {h : PH} (hF : 100 ≤ F) : ∃ h', fL_X10_undo_68 F F (nI 0) h = some ((h.1 102 0), h') ∧ h'.2 = h.2 ∧ (∀ a, ¬ (103 ≤ a ∧ a ≤ 106) → ¬ (122 ≤ a ∧ a ≤ 127) → h'.1 a = h.1 a) ∧ (∀ i, i < 6 → h'.1 103 i = h.1 128 i) ∧ (∀ i, i < 6 → h'.1 104 i = h.1 129 i) ∧ (∀ i, i < 6 → h'.1 105 i = h.1 130 i) ∧ (∀ i, i < 24 → h'.1 106 i = h.1 131 i) ∧ (∀ i, i < 5 → h'.1 122 i = h.1 132 i) ∧ (∀ i, i < 5 → h'.1 123 i = h.1 133 i) ∧ (∀ i, i < 5 → h'.1 124 i = h.1 134 i) ∧ (∀ i, i < 10 → h'.1 125 i = h.1 135 i) ∧ (∀ i, i < 8 → h'.1 126 i = h.1 136 i) ∧ (∀ i, i < 8 → h'.1 127 i = h.1 137 i) := by
  obtain ⟨h0, e0, l0, f0, c0_0, c0_1, c0_2⟩ := cp_undo_68 (F := F) 6 0 F h rfl (by omega)
  obtain ⟨h1, e1, l1, f1, c1_0⟩ := cp_undo_118 (F := F) 24 0 F h0 rfl (by omega)
  obtain ⟨h2, e2, l2, f2, c2_0, c2_1, c2_2⟩ := cp_undo_144 (F := F) 5 0 F h1 rfl (by omega)
  obtain ⟨h3, e3, l3, f3, c3_0⟩ := cp_undo_193 (F := F) 10 0 F h2 rfl (by omega)
  obtain ⟨h4, e4, l4, f4, c4_0, c4_1⟩ := cp_undo_219 (F := F) 8 0 F h3 rfl (by omega)
  refine ⟨h4, ?_, by rw [l4, l3, l2, l1, l0], fun a u v => by rw [f4 a (by omega) (by omega), f3 a (by omega), f2 a (by omega) (by omega) (by omega), f1 a (by omega), f0 a (by omega) (by omega) (by omega)], fun i hi => ?_, fun i hi => ?_, fun i hi => ?_, fun i hi => ?_, fun i hi => ?_, fun i hi => ?_, fun i hi => ?_, fun i hi => ?_, fun i hi => ?_, fun i hi => ?_⟩
  · rw [e0, e1, e2, e3, e4, f4 102 (by omega) (by omega), f3 102 (by omega), f2 102 (by omega) (by omega) (by omega), f1 102 (by omega), f0 102 (by omega) (by omega) (by omega)]
  · rw [f4 103 (by omega) (by omega), f3 103 (by omega), f2 103 (by omega) (by omega) (by omega), f1 103 (by omega), c0_0.at hi]
  · rw [f4 104 (by omega) (by omega), f3 104 (by omega), f2 104 (by omega) (by omega) (by omega), f1 104 (by omega), c0_1.at hi]
  · rw [f4 105 (by omega) (by omega), f3 105 (by omega), f2 105 (by omega) (by omega) (by omega), f1 105 (by omega), c0_2.at hi]
  · rw [f4 106 (by omega) (by omega), f3 106 (by omega), f2 106 (by omega) (by omega) (by omega), c1_0.at hi, f0 131 (by omega) (by omega) (by omega)]
  · rw [f4 122 (by omega) (by omega), f3 122 (by omega), c2_0.at hi, f1 132 (by omega), f0 132 (by omega) (by omega) (by omega)]
  · rw [f4 123 (by omega) (by omega), f3 123 (by omega), c2_1.at hi, f1 133 (by omega), f0 133 (by omega) (by omega) (by omega)]
  · rw [f4 124 (by omega) (by omega), f3 124 (by omega), c2_2.at hi, f1 134 (by omega), f0 134 (by omega) (by omega) (by omega)]
  · rw [f4 125 (by omega) (by omega), c3_0.at hi, f2 135 (by omega) (by omega) (by omega), f1 135 (by omega), f0 135 (by omega) (by omega) (by omega)]
  · rw [c4_0.at hi, f3 136 (by omega), f2 136 (by omega) (by omega) (by omega), f1 136 (by omega), f0 136 (by omega) (by omega) (by omega)]
  · rw [c4_1.at hi, f3 137 (by omega), f2 137 (by omega) (by omega) (by omega), f1 137 (by omega), f0 137 (by omega) (by omega) (by omega)]
theorem imageM {F : Nat} {o : PH} (hF : 100 ≤ F) : ∃ o', f_X10_image F o = some (o.1 102 0, o') ∧ o'.2 = o.2 ∧ (∀ a, a ≠ 102 → ¬ (128 ≤ a ∧ a ≤ 137) → o'.1 a = o.1 a) ∧ (∀ i, i < 42 ∨ 49 < i → o'.1 102 i = o.1 102 i) ∧
    (o'.1 102 42 = 1 ∧ o'.1 102 43 = o.1 102 8 ∧ o'.1 102 44 = o.1 102 0 ∧ o'.1 102 45 = o.1 102 1 ∧ o'.1 102 46 = o.1 102 2 ∧ o'.1 102 47 = o.1 102 33 ∧ o'.1 102 48 = o.1 102 37 ∧ o'.1 102 49 = o.1 102 38) ∧ (∀ i, i < 6 → o'.1 128 i = o.1 103 i) ∧ (∀ i, i < 6 → o'.1 129 i = o.1 104 i) ∧ (∀ i, i < 6 → o'.1 130 i = o.1 105 i) ∧ (∀ i, i < 24 → o'.1 131 i = o.1 106 i) ∧ (∀ i, i < 5 → o'.1 132 i = o.1 122 i) ∧ (∀ i, i < 5 → o'.1 133 i = o.1 123 i) ∧ (∀ i, i < 5 → o'.1 134 i = o.1 124 i) ∧ (∀ i, i < 10 → o'.1 135 i = o.1 125 i) ∧ (∀ i, i < 8 → o'.1 136 i = o.1 126 i) ∧ (∀ i, i < 8 → o'.1 137 i = o.1 127 i) := by
  unfold f_X10_image
  simp only [lth_eq]
  rw [rI_sl (show (8 : Nat) ≠ 42 by decide), rI_sl (show (0 : Nat) ≠ 43 by decide), rI_sl (show (0 : Nat) ≠ 42 by decide), rI_sl (show (1 : Nat) ≠ 44 by decide), rI_sl (show (1 : Nat) ≠ 43 by decide), rI_sl (show (1 : Nat) ≠ 42 by decide), rI_sl (show (2 : Nat) ≠ 45 by decide), rI_sl (show (2 : Nat) ≠ 44 by decide), rI_sl (show (2 : Nat) ≠ 43 by decide), rI_sl (show (2 : Nat) ≠ 42 by decide),
    rI_sl (show (33 : Nat) ≠ 46 by decide), rI_sl (show (33 : Nat) ≠ 45 by decide), rI_sl (show (33 : Nat) ≠ 44 by decide), rI_sl (show (33 : Nat) ≠ 43 by decide), rI_sl (show (33 : Nat) ≠ 42 by decide),
    rI_sl (show (37 : Nat) ≠ 47 by decide), rI_sl (show (37 : Nat) ≠ 46 by decide), rI_sl (show (37 : Nat) ≠ 45 by decide), rI_sl (show (37 : Nat) ≠ 44 by decide), rI_sl (show (37 : Nat) ≠ 43 by decide), rI_sl (show (37 : Nat) ≠ 42 by decide),
    rI_sl (show (38 : Nat) ≠ 48 by decide), rI_sl (show (38 : Nat) ≠ 47 by decide), rI_sl (show (38 : Nat) ≠ 46 by decide), rI_sl (show (38 : Nat) ≠ 45 by decide), rI_sl (show (38 : Nat) ≠ 44 by decide), rI_sl (show (38 : Nat) ≠ 43 by decide), rI_sl (show (38 : Nat) ≠ 42 by decide)]
  generalize hh : wI (wI (wI (wI (wI (wI (wI (wI o 102 42 1) 102 43 (o.1 102 8)) 102 44 (o.1 102 0)) 102 45 (o.1 102 1)) 102 46 (o.1 102 2)) 102 47 (o.1 102 33)) 102 48 (o.1 102 37)) 102 49 (o.1 102 38) = o1
  have q : ∀ a, a ≠ 102 → o1.1 a = o.1 a := fun a u => by rw [← hh, rI_ne u, rI_ne u, rI_ne u, rI_ne u, rI_ne u, rI_ne u, rI_ne u, rI_ne u]
  have qs : ∀ i, i < 42 ∨ 49 < i → o1.1 102 i = o.1 102 i := fun i u => by rw [← hh, rI_sl (by omega), rI_sl (by omega), rI_sl (by omega), rI_sl (by omega), rI_sl (by omega), rI_sl (by omega), rI_sl (by omega), rI_sl (by omega)]
  obtain ⟨o', e1, e2, e3, e4⟩ := cps_image (F := F) (h := o1) hF
  rw [q 103 (by decide), q 104 (by decide), q 105 (by decide), q 106 (by decide), q 122 (by decide), q 123 (by decide), q 124 (by decide), q 125 (by decide), q 126 (by decide), q 127 (by decide)] at e4
  refine ⟨o', by rw [li0, e1, qs 0 (by decide)], by rw [e2, ← hh]; rfl, fun a u v => by rw [e3 a (by omega) (by omega), q a u], fun i hi => by rw [e3 102 (by omega) (by omega), qs i hi], ?_, e4⟩
  rw [e3 102 (by omega) (by omega), ← hh]
  simp [rI]
theorem undoM {F : Nat} {o : PH} (hF : 100 ≤ F) (h42 : ¬ o.1 102 42 = 0) : ∃ o', f_X10_undo F o = some (o.1 102 44, o') ∧ o'.2 = o.2 ∧ (∀ a, a ≠ 102 → ¬ (103 ≤ a ∧ a ≤ 106) → ¬ (122 ≤ a ∧ a ≤ 127) → o'.1 a = o.1 a) ∧ (∀ i, i ≠ 8 → i ≠ 0 → i ≠ 1 → i ≠ 2 → i ≠ 33 → i ≠ 37 → i ≠ 38 → o'.1 102 i = o.1 102 i) ∧
    (o'.1 102 8 = o.1 102 43 ∧ o'.1 102 0 = o.1 102 44 ∧ o'.1 102 1 = o.1 102 45 ∧ o'.1 102 2 = o.1 102 46 ∧ o'.1 102 33 = o.1 102 47 ∧ o'.1 102 37 = o.1 102 48 ∧ o'.1 102 38 = o.1 102 49) ∧ (∀ i, i < 6 → o'.1 103 i = o.1 128 i) ∧ (∀ i, i < 6 → o'.1 104 i = o.1 129 i) ∧ (∀ i, i < 6 → o'.1 105 i = o.1 130 i) ∧ (∀ i, i < 24 → o'.1 106 i = o.1 131 i) ∧ (∀ i, i < 5 → o'.1 122 i = o.1 132 i) ∧ (∀ i, i < 5 → o'.1 123 i = o.1 133 i) ∧ (∀ i, i < 5 → o'.1 124 i = o.1 134 i) ∧ (∀ i, i < 10 → o'.1 125 i = o.1 135 i) ∧ (∀ i, i < 8 → o'.1 126 i = o.1 136 i) ∧ (∀ i, i < 8 → o'.1 127 i = o.1 137 i) := by
  unfold f_X10_undo
  rw [if_neg h42]
  simp only [lth_eq]
  generalize hh : wI (wI (wI (wI (wI (wI (wI o 102 8 _) 102 0 _) 102 1 _) 102 2 _) 102 33 _) 102 37 _) 102 38 _ = o1
  have q : ∀ a, a ≠ 102 → o1.1 a = o.1 a := fun a u => by rw [← hh, rI_ne u, rI_ne u, rI_ne u, rI_ne u, rI_ne u, rI_ne u, rI_ne u]
  have qs : ∀ i, i ≠ 8 → i ≠ 0 → i ≠ 1 → i ≠ 2 → i ≠ 33 → i ≠ 37 → i ≠ 38 → o1.1 102 i = o.1 102 i := fun i u1 u2 u3 u4 u5 u6 u7 => by rw [← hh, rI_sl u7, rI_sl u6, rI_sl u5, rI_sl u4, rI_sl u3, rI_sl u2, rI_sl u1]
  have qv : o1.1 102 8 = o.1 102 43 ∧ o1.1 102 0 = o.1 102 44 ∧ o1.1 102 1 = o.1 102 45 ∧ o1.1 102 2 = o.1 102 46 ∧ o1.1 102 33 = o.1 102 47 ∧ o1.1 102 37 = o.1 102 48 ∧ o1.1 102 38 = o.1 102 49 := by
    rw [← hh]
    simp [rI]
  obtain ⟨o', e1, e2, e3, e4⟩ := cps_undo (F := F) (h := o1) hF
  rw [q 128 (by decide), q 129 (by decide), q 130 (by decide), q 131 (by decide), q 132 (by decide), q 133 (by decide), q 134 (by decide), q 135 (by decide), q 136 (by decide), q 137 (by decide)] at e4
  refine ⟨o', by rw [li0, e1, qv.2.1], by rw [e2, ← hh]; rfl, fun a u v w => by rw [e3 a v w, q a u], fun i u1 u2 u3 u4 u5 u6 u7 => by rw [e3 102 (by omega) (by omega), qs i u1 u2 u3 u4 u5 u6 u7], ?_, e4⟩
  rw [e3 102 (by omega) (by omega)]
  exact qv
