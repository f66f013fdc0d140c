-- THE TEXT read byte by byte: the class
def byA (n : Nat) (tx : Nat → Nat) (p : Nat) : Int32 := if p < n then nI (tx p) else -1
def EC (h : PH) (z n : Nat) (tx : Nat → Nat) (p s : Nat) : Prop := TxtC h n tx ∧ h.1 31 2 = nI p ∧ h.1 31 3 = byA n tx p ∧ p ≤ n ∧ h.1 31 4 = 0 ∧ h.2.2 31 5 = some z ∧ isBench z = true ∧ h.1 z 4 = nI s ∧ s ≤ p
def FC (h : PH) (z q : Nat) : Prop := h.1 31 4 = 1 ∧ h.1 31 2 = nI q ∧ h.2.2 31 5 = some z ∧ isBench z = true ∧ ∃ s, s ≤ 100 ∧ h.1 z 4 = nI s
def FrX (z s : Nat) (h h' : PH) : Prop := (∀ a, a ≠ 31 → a ≠ z → a ≠ z + 3 → h'.1 a = h.1 a) ∧ (∀ i, i ≠ 2 → i ≠ 3 → i ≠ 4 → h'.1 31 i = h.1 31 i) ∧ (∀ i, i ≠ 4 → h'.1 z i = h.1 z i) ∧ (∀ i, i < s → h'.1 (z + 3) i = h.1 (z + 3) i) ∧ h'.2 = h.2
theorem FrX.refl (z s : Nat) (h : PH) : FrX z s h h := ⟨fun _ _ _ _ => rfl, fun _ _ _ _ => rfl, fun _ _ => rfl, fun _ _ => rfl, rfl⟩
theorem FrX.trans {z s t : Nat} {h h1 h2 : PH} (hs : s ≤ t) (a : FrX z s h h1) (b : FrX z t h1 h2) : FrX z s h h2 := ⟨fun x u v w => (b.1 x u v w).trans (a.1 x u v w), fun i u v w => (b.2.1 i u v w).trans (a.2.1 i u v w), fun i u => (b.2.2.1 i u).trans (a.2.2.1 i u), fun i u => (b.2.2.2.1 i (by omega)).trans (a.2.2.2.1 i u), b.2.2.2.2.trans a.2.2.2.2⟩
theorem FrX.w31 {z s i : Nat} {h : PH} {x : Int32} (hz : isBench z = true) (hi : i = 2 ∨ i = 3 ∨ i = 4) : FrX z s h (wI h 31 i x) := by
  have := isBench_or hz
  exact ⟨fun a u _ _ => rI_ne u, fun j u v w => rI_sl (by omega), fun j _ => by rw [rI_ne (by omega)], fun j _ => by rw [rI_ne (by omega)], rfl⟩
theorem byA_lt {n p : Nat} {tx : Nat → Nat} (h : ¬ byA n tx p = -1) : p < n := by
  unfold byA at h
  by_cases hp : p < n
  · exact hp
  · rw [if_neg hp] at h; exact absurd rfl h
theorem stepC {F z n p s : Nat} {tx : Nat → Nat} {h : PH} (e : EC h z n tx p s) (hp : p < n) : ∃ h', f_X5_step F h = some ((), h') ∧ EC h' z n tx (p + 1) s ∧ FrX z s h h' := by
  obtain ⟨⟨t1, t2, t3⟩, e2, e3, e4, e5, e6, e7, e8, e9⟩ := e
  have hz := isBench_or e7
  unfold f_X5_step
  rw [lth_eq, e2, nI_1, rI_sl (by decide), rI_eq, t1, if_l (by omega) (by omega)]
  by_cases hq : n ≤ p + 1
  · rw [if_pos hq, lth_eq]
    refine ⟨_, rfl, ⟨⟨by rw [rI_sl (by decide), rI_sl (by decide)]; exact t1, t2, by rw [rI_ne (by decide), rI_ne (by decide)]; exact t3⟩, by rw [rI_sl (by decide), rI_eq], ?_, by omega, by rw [rI_sl (by decide), rI_sl (by decide)]; exact e5, e6, e7, by rw [rI_ne (by omega), rI_ne (by omega)]; exact e8, by omega⟩, (FrX.w31 e7 (by omega)).trans (Nat.le_refl _) (FrX.w31 e7 (by omega))⟩
    rw [rI_eq]; unfold byA; rw [if_neg (by omega)]
  · rw [if_neg hq, if_pos (inb_nI (by omega) (by decide)), lth_eq, ix_nI (by omega), rI_ne (show (32 : Nat) ≠ 31 by decide), (t3 (p + 1) (by omega)).1]
    refine ⟨_, rfl, ⟨⟨by rw [rI_sl (by decide), rI_sl (by decide)]; exact t1, t2, by rw [rI_ne (by decide), rI_ne (by decide)]; exact t3⟩, by rw [rI_sl (by decide), rI_eq], ?_, by omega, by rw [rI_sl (by decide), rI_sl (by decide)]; exact e5, e6, e7, by rw [rI_ne (by omega), rI_ne (by omega)]; exact e8, by omega⟩, (FrX.w31 e7 (by omega)).trans (Nat.le_refl _) (FrX.w31 e7 (by omega))⟩
    rw [rI_eq]; unfold byA; rw [if_pos (by omega)]
theorem EC.fail {z n p s : Nat} {tx : Nat → Nat} {h : PH} (e : EC h z n tx p s) : FC (wI h 31 4 1) z p ∧ FrX z s h (wI h 31 4 1) := by
  obtain ⟨⟨t1, t2, t3⟩, e2, e3, e4, e5, e6, e7, e8, e9⟩ := e
  have hz := isBench_or e7
  exact ⟨⟨rI_eq _ _ _ _, by rw [rI_sl (by decide)]; exact e2, e6, e7, s, by omega, by rw [rI_ne (by omega)]; exact e8⟩, FrX.w31 e7 (by omega)⟩
theorem FC.again {z q s : Nat} {h : PH} (f : FC h z q) : FC (wI h 31 4 1) z q ∧ FrX z s h (wI h 31 4 1) := by
  obtain ⟨f1, f2, f3, f4, t, f5, f6⟩ := f
  have hz := isBench_or f4
  exact ⟨⟨rI_eq _ _ _ _, by rw [rI_sl (by decide)]; exact f2, f3, f4, t, f5, by rw [rI_ne (by omega)]; exact f6⟩, FrX.w31 f4 (by omega)⟩
theorem needC {F z n p s : Nat} {tx : Nat → Nat} {h : PH} {a : Int32} (ha : ¬ a = -1) (e : EC h z n tx p s) : ∃ h', f_X5_need F a h = some ((), h') ∧ FrX z s h h' ∧ ((byA n tx p = a ∧ p < n ∧ EC h' z n tx (p + 1) s) ∨ (¬ byA n tx p = a ∧ FC h' z p)) := by
  unfold f_X5_need
  rw [e.2.2.2.2.1, if_pos (show (0 : Int32) = 0 from rfl), e.2.2.1]
  by_cases hb : byA n tx p = a
  · have hp : p < n := byA_lt (by rw [hb]; exact ha)
    obtain ⟨h', s1, s2, s3⟩ := stepC (F := F) e hp
    rw [if_pos hb, s1, bnd_some]
    exact ⟨h', rfl, s3, Or.inl ⟨hb, hp, s2⟩⟩
  · rw [if_neg hb, lth_eq]
    exact ⟨_, rfl, e.fail.2, Or.inr ⟨hb, e.fail.1⟩⟩
theorem needF {F z q s : Nat} {h : PH} {a : Int32} (f : FC h z q) : ∃ h', f_X5_need F a h = some ((), h') ∧ FC h' z q ∧ FrX z s h h' := by
  unfold f_X5_need
  rw [f.1, if_neg (show ¬ (1 : Int32) = 0 by decide), lth_eq]
  exact ⟨_, rfl, (f.again (s := s)).1, (f.again (s := s)).2⟩
-- letters, signs, digits
def ltrI (b : Int32) : Int32 := if (99 : Int32) = b then 0 else if (107 : Int32) = b then 1 else if (118 : Int32) = b then 2 else if (100 : Int32) = b then 3 else if (116 : Int32) = b then 4 else if (104 : Int32) = b then 5 else -1
def sgnI (b : Int32) : Int32 := if (60 : Int32) = b then 0 else if (61 : Int32) = b then 1 else if (62 : Int32) = b then 2 else -1
theorem ltrI_or (b : Int32) : ltrI b = -1 ∨ ∃ f, f < 6 ∧ ltrI b = nI f := by
  unfold ltrI
  by_cases h1 : (99 : Int32) = b
  · rw [if_pos h1]; exact Or.inr ⟨0, by decide, rfl⟩
  · rw [if_neg h1]
    by_cases h2 : (107 : Int32) = b
    · rw [if_pos h2]; exact Or.inr ⟨1, by decide, rfl⟩
    · rw [if_neg h2]
      by_cases h3 : (118 : Int32) = b
      · rw [if_pos h3]; exact Or.inr ⟨2, by decide, rfl⟩
      · rw [if_neg h3]
        by_cases h4 : (100 : Int32) = b
        · rw [if_pos h4]; exact Or.inr ⟨3, by decide, rfl⟩
        · rw [if_neg h4]
          by_cases h5 : (116 : Int32) = b
          · rw [if_pos h5]; exact Or.inr ⟨4, by decide, rfl⟩
          · rw [if_neg h5]
            by_cases h6 : (104 : Int32) = b
            · rw [if_pos h6]; exact Or.inr ⟨5, by decide, rfl⟩
            · rw [if_neg h6]; exact Or.inl rfl
theorem sgnI_or (b : Int32) : sgnI b = -1 ∨ ∃ f, f < 3 ∧ sgnI b = nI f ∧ b = nI (60 + f) := by
  unfold sgnI
  by_cases h1 : (60 : Int32) = b
  · rw [if_pos h1]; exact Or.inr ⟨0, by decide, rfl, h1.symm⟩
  · rw [if_neg h1]
    by_cases h2 : (61 : Int32) = b
    · rw [if_pos h2]; exact Or.inr ⟨1, by decide, rfl, h2.symm⟩
    · rw [if_neg h2]
      by_cases h3 : (62 : Int32) = b
      · rw [if_pos h3]; exact Or.inr ⟨2, by decide, rfl, h3.symm⟩
      · rw [if_neg h3]; exact Or.inl rfl
theorem conv_b : ∀ b, b < 128 → ((nI b).toUInt32 % 65536).toInt32 = nI b ∧ (nI b).toInt8.toInt32 = nI b ∧ ¬ (255 : Int32) < nI b := by decide +kernel
theorem ixloop3 {F m : Nat} {x : Int32} {h : PH} : fL_J1_indexOfChar_4cfef_7 F (m + 10) 3 (6 : Int32) x (0 : Int32) h = some (ltrI x, h) := by
  have e : fL_J1_indexOfChar_4cfef_7 F (m + 10) 3 (6 : Int32) x (0 : Int32) h = if (99 : Int32) = x then some (0, h) else if (107 : Int32) = x then some (1, h) else if (118 : Int32) = x then some (2, h) else if (100 : Int32) = x then some (3, h) else if (116 : Int32) = x then some (4, h) else if (104 : Int32) = x then some (5, h) else some (-1, h) := rfl
  rw [e]
  unfold ltrI
  split
  · rfl
  · split
    · rfl
    · split
      · rfl
      · split
        · rfl
        · split
          · rfl
          · split <;> rfl
theorem ixloop4 {F m : Nat} {x : Int32} {h : PH} : fL_J1_indexOfChar_4cfef_7 F (m + 10) 4 (3 : Int32) x (0 : Int32) h = some (sgnI x, h) := by
  have e : fL_J1_indexOfChar_4cfef_7 F (m + 10) 4 (3 : Int32) x (0 : Int32) h = if (60 : Int32) = x then some (0, h) else if (61 : Int32) = x then some (1, h) else if (62 : Int32) = x then some (2, h) else some (-1, h) := rfl
  rw [e]
  unfold sgnI
  split
  · rfl
  · split
    · rfl
    · split <;> rfl
theorem lat3 {F : Nat} {h : PH} : f_J0_isLatin1_aae02 F 3 h = some (1, h) := rfl
theorem len3 {F : Nat} {h : PH} : f_J0_length_8abf5 F 3 h = some (6, h) := by
  unfold f_J0_length_8abf5 f_J0_coder_7d493
  rw [if_pos (show 3 < 5 by decide), if_pos (show 3 < 5 by decide), if_neg (show ¬ (1 : Int32) = 0 by decide), bnd_some, show (Int32.ofNat (strN.getD 3 0)) >>> (((0 : Int32).toInt8.toInt32) &&& 31) = 6 by decide +kernel]
theorem indexOf3 {F b : Nat} {h : PH} (hF : 10 ≤ F) (hb : b < 128) : f_J0_indexOf_0f7a4 F 3 (((nI b).toUInt32 % 65536).toInt32) h = some (ltrI (nI b), h) := by
  obtain ⟨m, rfl⟩ : ∃ m, F = m + 10 := ⟨F - 10, by omega⟩
  obtain ⟨c1, c2, c3⟩ := conv_b b hb
  have e1 : f_J1_canEncode_9a6ad (m + 10) (nI b) h = some (1, h) := by
    unfold f_J1_canEncode_9a6ad
    rw [if_neg (nI_pos (show b < 2 ^ 31 by omega)), if_neg c3]
  have e2 : f_J1_indexOfChar_4cfef (m + 10) 3 (nI b) 0 6 h = some (ltrI (nI b), h) := by
    unfold f_J1_indexOfChar_4cfef
    rw [if_pos (show 3 < 5 by decide), c2, ixloop3]
  have e3 : f_J1_indexOf_4cfef (m + 10) 3 (nI b) 0 6 h = some (ltrI (nI b), h) := by
    unfold f_J1_indexOf_4cfef
    rw [if_pos (show 3 < 5 by decide), e1, bnd_some, if_neg (show ¬ (1 : Int32) = 0 by decide), show (if (0 : Int32) < (0 : Int32) then (0 : Int32) else (0 : Int32)) = 0 by decide, show (if (Int32.ofNat (strN.getD 3 0)) < (6 : Int32) then (Int32.ofNat (strN.getD 3 0)) else (6 : Int32)) = 6 by decide, if_pos (show (0 : Int32) < 6 by decide), e2, bnd_some]
  have e4 : f_J0_indexOf_7cf53 (m + 10) 3 (nI b) 0 h = some (ltrI (nI b), h) := by
    unfold f_J0_indexOf_7cf53
    rw [if_pos (show 3 < 5 by decide), lat3, bnd_some, if_neg (show ¬ (1 : Int32) = 0 by decide), len3, bnd_some, e3, bnd_some]
  unfold f_J0_indexOf_0f7a4
  rw [if_pos (show 3 < 5 by decide), c1, e4, bnd_some]
theorem lat4 {F : Nat} {h : PH} : f_J0_isLatin1_aae02 F 4 h = some (1, h) := rfl
theorem len4 {F : Nat} {h : PH} : f_J0_length_8abf5 F 4 h = some (3, h) := by
  unfold f_J0_length_8abf5 f_J0_coder_7d493
  rw [if_pos (show 4 < 5 by decide), if_pos (show 4 < 5 by decide), if_neg (show ¬ (1 : Int32) = 0 by decide), bnd_some, show (Int32.ofNat (strN.getD 4 0)) >>> (((0 : Int32).toInt8.toInt32) &&& 31) = 3 by decide +kernel]
theorem indexOf4 {F b : Nat} {h : PH} (hF : 10 ≤ F) (hb : b < 128) : f_J0_indexOf_0f7a4 F 4 (((nI b).toUInt32 % 65536).toInt32) h = some (sgnI (nI b), h) := by
  obtain ⟨m, rfl⟩ : ∃ m, F = m + 10 := ⟨F - 10, by omega⟩
  obtain ⟨c1, c2, c3⟩ := conv_b b hb
  have e1 : f_J1_canEncode_9a6ad (m + 10) (nI b) h = some (1, h) := by
    unfold f_J1_canEncode_9a6ad
    rw [if_neg (nI_pos (show b < 2 ^ 31 by omega)), if_neg c3]
  have e2 : f_J1_indexOfChar_4cfef (m + 10) 4 (nI b) 0 3 h = some (sgnI (nI b), h) := by
    unfold f_J1_indexOfChar_4cfef
    rw [if_pos (show 4 < 5 by decide), c2, ixloop4]
  have e3 : f_J1_indexOf_4cfef (m + 10) 4 (nI b) 0 3 h = some (sgnI (nI b), h) := by
    unfold f_J1_indexOf_4cfef
    rw [if_pos (show 4 < 5 by decide), e1, bnd_some, if_neg (show ¬ (1 : Int32) = 0 by decide), show (if (0 : Int32) < (0 : Int32) then (0 : Int32) else (0 : Int32)) = 0 by decide, show (if (Int32.ofNat (strN.getD 4 0)) < (3 : Int32) then (Int32.ofNat (strN.getD 4 0)) else (3 : Int32)) = 3 by decide, if_pos (show (0 : Int32) < 3 by decide), e2, bnd_some]
  have e4 : f_J0_indexOf_7cf53 (m + 10) 4 (nI b) 0 h = some (sgnI (nI b), h) := by
    unfold f_J0_indexOf_7cf53
    rw [if_pos (show 4 < 5 by decide), lat4, bnd_some, if_neg (show ¬ (1 : Int32) = 0 by decide), len4, bnd_some, e3, bnd_some]
  unfold f_J0_indexOf_0f7a4
  rw [if_pos (show 4 < 5 by decide), c1, e4, bnd_some]
theorem choiceC {F z n p s w : Nat} {tx : Nat → Nat} {h : PH} {fn : Int32 → Int32} (hF : 10 ≤ F) (hw : w < 5) (hi : ∀ b h, b < 128 → f_J0_indexOf_0f7a4 F w (((nI b).toUInt32 % 65536).toInt32) h = some (fn (nI b), h)) (hor : ∀ b, fn b = -1 ∨ ∃ f, f < 100 ∧ fn b = nI f) (hm1 : fn (-1) = -1) (e : EC h z n tx p s) :
    ∃ h' v, f_X5_choice F w h = some (v, h') ∧ FrX z s h h' ∧ ((fn (byA n tx p) = -1 ∧ FC h' z p) ∨ (¬ fn (byA n tx p) = -1 ∧ v = fn (byA n tx p) ∧ p < n ∧ EC h' z n tx (p + 1) s)) := by
  unfold f_X5_choice
  rw [if_pos hw, e.2.2.2.2.1, if_pos (show (0 : Int32) = 0 from rfl), e.2.2.1]
  by_cases hb : byA n tx p = -1
  · rw [if_pos hb, if_neg (show ¬ (0 : Int32) ≤ -1 by decide), lth_eq]
    exact ⟨_, 0, rfl, e.fail.2, Or.inl ⟨by rw [hb]; exact hm1, e.fail.1⟩⟩
  · have hp := byA_lt hb
    have ht := (e.1.2.2 p hp).2
    have hby : byA n tx p = nI (tx p) := by unfold byA; rw [if_pos hp]
    rw [if_neg hb, hby, hi (tx p) h (by omega), bnd_some]
    rcases hor (nI (tx p)) with h1 | ⟨f, hf, h1⟩
    · rw [h1, if_neg (show ¬ (0 : Int32) ≤ -1 by decide), lth_eq]
      exact ⟨_, 0, rfl, e.fail.2, Or.inl ⟨rfl, e.fail.1⟩⟩
    · obtain ⟨h', s1, s2, s3⟩ := stepC (F := F) e hp
      rw [h1, if_pos (nI_pos' (show f < 2 ^ 31 by omega)), s1, bnd_some]
      exact ⟨h', nI f, rfl, s3, Or.inr ⟨fun q => nI_pos (show f < 2 ^ 31 by omega) (by rw [q]; decide), rfl, hp, s2⟩⟩
theorem choiceF {F z q s w : Nat} {h : PH} (hw : w < 5) (f : FC h z q) : ∃ h', f_X5_choice F w h = some (0, h') ∧ FC h' z q ∧ FrX z s h h' := by
  unfold f_X5_choice
  rw [if_pos hw, f.1, if_neg (show ¬ (1 : Int32) = 0 by decide), if_neg (show ¬ (0 : Int32) ≤ -1 by decide), lth_eq]
  exact ⟨_, rfl, (f.again (s := s)).1, (f.again (s := s)).2⟩
def dg (n : Nat) (tx : Nat → Nat) (p : Nat) : Bool := decide (p < n ∧ 48 ≤ tx p ∧ tx p ≤ 57)
def numA (n : Nat) (tx : Nat → Nat) (p : Nat) : Nat × Nat := if dg n tx (p + 1) = true then (10 * (tx p - 48) + (tx (p + 1) - 48), p + 2) else (tx p - 48, p + 1)
theorem dg_of {n p : Nat} {tx : Nat → Nat} (h : dg n tx p = true) : p < n ∧ 48 ≤ tx p ∧ tx p ≤ 57 := by simpa [dg] using h
theorem dg_not {n p : Nat} {tx : Nat → Nat} (h : ¬ dg n tx p = true) : ¬ (p < n ∧ 48 ≤ tx p ∧ tx p ≤ 57) := by simpa [dg] using h
theorem dg_wth {n p : Nat} {tx : Nat → Nat} (ht : p < n → tx p ≤ 127) : wth (byA n tx p) 48 57 = if dg n tx p = true then 1 else 0 := by
  unfold byA
  by_cases hp : p < n
  · have := ht hp
    rw [if_pos hp]
    unfold wth
    rw [show (48 : Int32) = nI 48 from rfl, show (57 : Int32) = nI 57 from rfl, if_t (by omega) (by decide), if_t (by decide) (by omega)]
    by_cases hd : dg n tx p = true
    · have := dg_of hd
      rw [if_pos hd, if_neg (by omega), if_neg (by omega)]
    · have := dg_not hd
      rw [if_neg hd]
      by_cases h1 : tx p < 48
      · rw [if_pos h1]
      · rw [if_neg h1, if_pos (by omega)]
  · have hd : ¬ dg n tx p = true := fun q => hp (dg_of q).1
    rw [if_neg hp, if_neg hd]; rfl
theorem isDigitC {F z n p s : Nat} {tx : Nat → Nat} {h : PH} (e : EC h z n tx p s) : f_X5_isDigit F h = some (if dg n tx p = true then 1 else 0, h) := by
  have := dg_wth (n := n) (p := p) (tx := tx) (fun hp => (e.1.2.2 p hp).2)
  rw [← this]
  unfold f_X5_isDigit wth
  rw [e.2.2.1]
  split
  · rfl
  · split <;> rfl
theorem numberC {F z n p s : Nat} {tx : Nat → Nat} {h : PH} (e : EC h z n tx p s) : ∃ h' v, f_X5_number F h = some (v, h') ∧ FrX z s h h' ∧ ((dg n tx p = true ∧ v = nI (numA n tx p).1 ∧ (numA n tx p).1 ≤ 99 ∧ p < (numA n tx p).2 ∧ EC h' z n tx (numA n tx p).2 s) ∨ (¬ dg n tx p = true ∧ v = 0 ∧ FC h' z p)) := by
  unfold f_X5_number
  rw [e.2.2.2.2.1, if_pos (show (0 : Int32) = 0 from rfl), isDigitC e, bnd_some]
  by_cases hd : dg n tx p = true
  · obtain ⟨d1, d2, d3⟩ := dg_of hd
    obtain ⟨h1, s1, s2, s3⟩ := stepC (F := F) e d1
    have hby : byA n tx p = nI (tx p) := by unfold byA; rw [if_pos d1]
    rw [if_pos hd, if_neg (show ¬ (1 : Int32) = 0 by decide), s1, bnd_some, isDigitC s2, bnd_some, e.2.2.1, hby, show (48 : Int32) = nI 48 from rfl, pk_sub d2]
    unfold numA
    by_cases hd2 : dg n tx (p + 1) = true
    · obtain ⟨g1, g2, g3⟩ := dg_of hd2
      obtain ⟨h2, s4, s5, s6⟩ := stepC (F := F) s2 g1
      have hby2 : byA n tx (p + 1) = nI (tx (p + 1)) := by unfold byA; rw [if_pos g1]
      rw [if_pos hd2, if_neg (show ¬ (1 : Int32) = 0 by decide), s4, bnd_some, s2.2.2.1, hby2, show (10 : Int32) = nI 10 from rfl, pk_mul, nI_add, pk_sub (by omega), if_pos hd2]
      refine ⟨h2, _, rfl, s3.trans (Nat.le_refl _) s6, Or.inl ⟨hd, ?_, ?_, ?_, s5⟩⟩
      · show nI ((tx p - 48) * 10 + tx (p + 1) - 48) = nI (10 * (tx p - 48) + (tx (p + 1) - 48))
        congr 1; omega
      · show 10 * (tx p - 48) + (tx (p + 1) - 48) ≤ 99; omega
      · show p < p + 2; omega
    · rw [if_neg hd2, if_pos (show (0 : Int32) = 0 from rfl), if_neg hd2]
      exact ⟨h1, _, rfl, s3, Or.inl ⟨hd, rfl, by show tx p - 48 ≤ 99; omega, by show p < p + 1; omega, s2⟩⟩
  · rw [if_neg hd, if_pos (show (0 : Int32) = 0 from rfl), lth_eq]
    exact ⟨_, 0, rfl, e.fail.2, Or.inr ⟨hd, rfl, e.fail.1⟩⟩
theorem numberF {F z q s : Nat} {h : PH} (f : FC h z q) : ∃ h', f_X5_number F h = some (0, h') ∧ FC h' z q ∧ FrX z s h h' := by
  unfold f_X5_number
  rw [f.1, if_neg (show ¬ (1 : Int32) = 0 by decide), lth_eq]
  exact ⟨_, rfl, (f.again (s := s)).1, (f.again (s := s)).2⟩
-- a step added to the bench
theorem addStepC {F z n p s : Nat} {tx : Nat → Nat} {h : PH} {x : Int32} (e : EC h z n tx p s) (hs : s < p) : ∃ h', f_X2_addStep F z x h = some ((), h') ∧ EC h' z n tx p (s + 1) ∧ FrX z s h h' ∧ h'.1 (z + 3) s = x := by
  obtain ⟨⟨t1, t2, t3⟩, e2, e3, e4, e5, e6, e7, e8, e9⟩ := e
  have hz := isBench_or e7
  unfold f_X2_addStep
  rw [if_pos e7, e8, show (100 : Int32) = nI 100 from rfl, if_l (by decide) (by omega), if_neg (show ¬ 100 ≤ s by omega), if_pos (inb_nI (by omega) (by decide)), lth_eq, ix_nI (by omega), lth_eq, rI_ne (show z ≠ z + 3 by omega), e8, nI_1]
  refine ⟨_, rfl, ⟨⟨by rw [rI_ne (by omega), rI_ne (by omega)]; exact t1, t2, by rw [rI_ne (by omega), rI_ne (by omega)]; exact t3⟩, by rw [rI_ne (by omega), rI_ne (by omega)]; exact e2, by rw [rI_ne (by omega), rI_ne (by omega)]; exact e3, e4, by rw [rI_ne (by omega), rI_ne (by omega)]; exact e5, e6, e7, rI_eq _ _ _ _, by omega⟩, ⟨fun a u v w => by rw [rI_ne v, rI_ne w], fun i _ _ _ => by rw [rI_ne (by omega), rI_ne (by omega)], fun i u => by rw [rI_sl u, rI_ne (by omega)], fun i u => by rw [rI_ne (by omega), rI_sl (by omega)], rfl⟩, by rw [rI_ne (by omega), rI_eq]⟩
theorem addStepF {F z q s : Nat} {h : PH} {x : Int32} (f : FC h z q) (hs : ∃ t, s ≤ t ∧ t ≤ 100 ∧ h.1 z 4 = nI t) : ∃ h', f_X2_addStep F z x h = some ((), h') ∧ FC h' z q ∧ FrX z s h h' ∧ ∃ t, s ≤ t ∧ t ≤ 100 ∧ h'.1 z 4 = nI t := by
  obtain ⟨f1, f2, f3, f4, -⟩ := f
  obtain ⟨t, t0, t1, t2⟩ := hs
  have hz := isBench_or f4
  unfold f_X2_addStep
  rw [if_pos f4, t2, show (100 : Int32) = nI 100 from rfl, if_l (by decide) (by omega)]
  by_cases h1 : 100 ≤ t
  · rw [if_pos h1]
    exact ⟨h, rfl, ⟨f1, f2, f3, f4, t, t1, t2⟩, FrX.refl _ _ _, t, t0, t1, t2⟩
  · rw [if_neg h1, if_pos (inb_nI (by omega) (by decide)), lth_eq, ix_nI (by omega), lth_eq, rI_ne (show z ≠ z + 3 by omega), t2, nI_1]
    exact ⟨_, rfl, ⟨by rw [rI_ne (by omega), rI_ne (by omega)]; exact f1, by rw [rI_ne (by omega), rI_ne (by omega)]; exact f2, f3, f4, t + 1, by omega, rI_eq _ _ _ _⟩, ⟨fun a u v w => by rw [rI_ne v, rI_ne w], fun i _ _ _ => by rw [rI_ne (by omega), rI_ne (by omega)], fun i u => by rw [rI_sl u, rI_ne (by omega)], fun i u => by rw [rI_ne (by omega), rI_sl (by omega)], rfl⟩, t + 1, by omega, by omega, rI_eq _ _ _ _⟩
