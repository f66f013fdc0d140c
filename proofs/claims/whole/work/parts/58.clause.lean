-- words and clauses
def FrK (o o' : PH) : Prop := (∀ a, a ≠ 102 → o'.1 a = o.1 a) ∧ (∀ i, i ≠ 10 → i ≠ 11 → o'.1 102 i = o.1 102 i) ∧ o'.2 = o.2
theorem FrK.refl (o : PH) : FrK o o := ⟨fun _ _ => rfl, fun _ _ _ => rfl, rfl⟩
theorem FrK.trans {o o1 o2 : PH} (a : FrK o o1) (b : FrK o1 o2) : FrK o o2 := ⟨fun x u => (b.1 x u).trans (a.1 x u), fun i u v => (b.2.1 i u v).trans (a.2.1 i u v), b.2.2.trans a.2.2⟩
theorem FrK.w {o : PH} {x : Int32} : FrK o (wI o 102 10 x) := ⟨fun _ u => rI_ne u, fun _ u _ => rI_sl u, rfl⟩
theorem TxtM.fk {o o' : PH} {n : Nat} {tx : Nat → Nat} (f : FrK o o') (t : TxtM o n tx) : TxtM o' n tx := ⟨by rw [f.2.1 9 (by decide) (by decide)]; exact t.1, t.2.1, by rw [f.1 107 (by decide)]; exact t.2.2⟩
theorem need_z4 {F z : Nat} {h h' : PH} {a : Int32} (hz : z ≠ 31) (e : f_X5_need F a h = some ((), h')) : h'.1 z = h.1 z := by
  unfold f_X5_need f_X5_step at e
  split at e
  · split at e
    · rw [lth_eq] at e
      split at e
      · rw [lth_eq, bnd_some] at e
        injection e with e
        injection e with _ e
        rw [← e, rI_ne hz, rI_ne hz]
      · split at e
        · rw [lth_eq, bnd_some] at e
          injection e with e
          injection e with _ e
          rw [← e, rI_ne hz, rI_ne hz]
        · cases e
    · rw [lth_eq] at e
      injection e with e
      injection e with _ e
      rw [← e, rI_ne hz]
  · rw [lth_eq] at e
    injection e with e
    injection e with _ e
    rw [← e, rI_ne hz]
theorem wordF {F w z : Nat} {bs : Nat → Int32} (hw : w < 5) (hl : ∀ h, f_J0_length_8abf5 F w h = some (4, h)) (hc : ∀ i, i < 4 → ∀ h, f_J0_charAt_5068e F w (nI i) h = some (bs i, h)) : ∀ (j i q s f : Nat) (h : PH), i + j = 4 → j < f → FC h z q → ∃ h', fL_X5_word_2 F f w (nI i) h = some ((), h') ∧ FC h' z q ∧ FrX z s h h' ∧ h'.1 z = h.1 z := by
  intro j
  induction j with
  | zero =>
    intro i q s f h hi hf fc
    obtain ⟨f, rfl⟩ : ∃ m, f = m + 1 := ⟨f - 1, by omega⟩
    have hz := isBench_or fc.2.2.2.1
    obtain ⟨h1, a1, a2, a3⟩ := needF (F := F) (s := s) (a := 32) fc
    refine ⟨h1, ?_, a2, a3, need_z4 (by omega) a1⟩
    rw [fL_X5_word_2, hl, bnd_some, li4, if_l (by decide) (by omega), if_pos (show 4 ≤ i by omega), a1, bnd_some]
  | succ j ih =>
    intro i q s f h hi hf fc
    obtain ⟨f, rfl⟩ : ∃ m, f = m + 1 := ⟨f - 1, by omega⟩
    have hz := isBench_or fc.2.2.2.1
    obtain ⟨h1, a1, a2, a3⟩ := needF (F := F) (s := s) (a := bs i) fc
    obtain ⟨h2, b1, b2, b3, b4⟩ := ih (i + 1) q s f h1 (by omega) (by omega) a2
    refine ⟨h2, ?_, b2, a3.trans (Nat.le_refl _) b3, b4.trans (need_z4 (by omega) a1)⟩
    rw [fL_X5_word_2, hl, bnd_some, li4, if_l (by decide) (by omega), if_neg (show ¬ 4 ≤ i by omega), hc i (by omega), bnd_some, a1, bnd_some, nI_1]
    exact b1
theorem wordS {F w z n fr : Nat} {tx : Nat → Nat} {bs : Nat → Int32} (hw : w < 5) (hl : ∀ h, f_J0_length_8abf5 F w h = some (4, h)) (hc : ∀ i, i < 4 → ∀ h, f_J0_charAt_5068e F w (nI i) h = some (bs i, h)) (hb : ∀ i, i < 4 → lettersL.getD (fr + i) 0 = bs i) (hne : ∀ i, i < 4 → ¬ bs i = -1) (hfr : fr + 4 ≤ 12) :
    ∀ (j i p s f : Nat) (h : PH), i + j = 4 → j < f → EC h z n tx p s → ∃ (r : Bool) (q : Nat) (h' : PH), fL_X5_word_2 F f w (nI i) h = some ((), h') ∧ FrX z s h h' ∧ h'.1 z = h.1 z ∧ p ≤ q ∧ q ≤ n ∧ (r = true → EC h' z n tx q s ∧ p < q) ∧ (r = false → FC h' z q) ∧ (j = 4 - i → i < 4 → ¬ byA n tx p = bs i → r = false ∧ q = p) ∧
      ∀ (o : PH), TxtM o n tx → o.1 102 10 = nI p → (∀ i, i < 12 → o.1 115 i = lettersL.getD i 0) → ∃ o', fL_X10_takesWord_2 F f (nI fr) (4 : Int32) (nI i) o = some (b2i r, o') ∧ o'.1 102 10 = nI q ∧ FrK o o' := by
  intro j
  induction j with
  | zero =>
    intro i p s f h hi hf ec
    obtain ⟨f, rfl⟩ : ∃ m, f = m + 1 := ⟨f - 1, by omega⟩
    have hz := isBench_or ec.2.2.2.2.2.2.1
    obtain ⟨h1, a1, a2, a3⟩ := needC (F := F) (a := 32) (by decide) ec
    have head : fL_X5_word_2 F (f + 1) w (nI i) h = some ((), h1) := by
      rw [fL_X5_word_2, hl, bnd_some, li4, if_l (by decide) (by omega), if_pos (show 4 ≤ i by omega), a1, bnd_some]
    have hm : ∀ o, TxtM o n tx → o.1 102 10 = nI p → fL_X10_takesWord_2 F (f + 1) (nI fr) (4 : Int32) (nI i) o = (bnd (if byA n tx p = (32 : Int32) then some (1, wI o 102 10 (nI (p + 1))) else some (0, o)) fun v2 h2 => (some ((v2 &&& 1), h2))) := by
      intro o t h10
      rw [fL_X10_takesWord_2, li4, if_l (by decide) (by omega), if_pos (show 4 ≤ i by omega), takesM t h10 ec.2.2.2.1]
    rcases a3 with ⟨b1, b2, b3⟩ | ⟨b1, b2⟩
    · exact ⟨true, p + 1, h1, head, a2, need_z4 (by omega) a1, by omega, by omega, fun _ => ⟨b3, by omega⟩, fun q => absurd q (by decide), fun _ q => absurd q (by omega), fun o t h10 _ => ⟨wI o 102 10 (nI (p + 1)), by rw [hm o t h10, if_pos b1, bnd_some]; rfl, rI_eq _ _ _ _, FrK.w⟩⟩
    · exact ⟨false, p, h1, head, a2, need_z4 (by omega) a1, by omega, ec.2.2.2.1, fun q => absurd q (by decide), fun _ => b2, fun _ q => absurd q (by omega), fun o t h10 _ => ⟨o, by rw [hm o t h10, if_neg b1, bnd_some]; rfl, h10, FrK.refl o⟩⟩
  | succ j ih =>
    intro i p s f h hi hf ec
    obtain ⟨f, rfl⟩ : ∃ m, f = m + 1 := ⟨f - 1, by omega⟩
    have hz := isBench_or ec.2.2.2.2.2.2.1
    obtain ⟨h1, a1, a2, a3⟩ := needC (F := F) (a := bs i) (hne i (by omega)) ec
    have head : fL_X5_word_2 F (f + 1) w (nI i) h = fL_X5_word_2 F f w (nI (i + 1)) h1 := by
      rw [fL_X5_word_2, hl, bnd_some, li4, if_l (by decide) (by omega), if_neg (show ¬ 4 ≤ i by omega), hc i (by omega), bnd_some, a1, bnd_some, nI_1]
    have hm : ∀ o, TxtM o n tx → o.1 102 10 = nI p → (∀ i, i < 12 → o.1 115 i = lettersL.getD i 0) → fL_X10_takesWord_2 F (f + 1) (nI fr) (4 : Int32) (nI i) o = (bnd (if byA n tx p = bs i then some ((1 : Int32), wI o 102 10 (nI (p + 1))) else some ((0 : Int32), o)) fun v3 h3 => (if v3 = 0 then (some ((0 : Int32), h3)) else (fL_X10_takesWord_2 F f (nI fr) (4 : Int32) (nI (i + 1)) h3))) := by
      intro o t h10 hlt
      rw [fL_X10_takesWord_2, show (4 : Int32) = nI 4 from rfl, if_l (by decide) (by omega), if_neg (show ¬ 4 ≤ i by omega), nI_add, if_pos (inb_nI (by omega) (by decide)), ix_nI (by omega), hlt (fr + i) (by omega), hb i (by omega), takesM t h10 ec.2.2.2.1, nI_1]
    rcases a3 with ⟨b1, b2, b3⟩ | ⟨b1, b2⟩
    · obtain ⟨r, q, h2, c1, c2, c3, c4, c5, c6, c7, c8, c9⟩ := ih (i + 1) (p + 1) s f h1 (by omega) (by omega) b3
      refine ⟨r, q, h2, by rw [head, c1], a2.trans (Nat.le_refl _) c2, c3.trans (need_z4 (by omega) a1), by omega, c5, fun hr => ⟨(c6 hr).1, by omega⟩, c7, fun _ _ q => absurd b1 q, fun o t h10 hlt => ?_⟩
      obtain ⟨o', d1, d2, d3⟩ := c9 (wI o 102 10 (nI (p + 1))) (t.fk FrK.w) (rI_eq _ _ _ _) (fun i hi => by rw [rI_ne (by decide)]; exact hlt i hi)
      exact ⟨o', by rw [hm o t h10 hlt, if_pos b1, bnd_some, if_neg (show ¬ (1 : Int32) = 0 by decide)]; exact d1, d2, FrK.w.trans d3⟩
    · obtain ⟨h2, c1, c2, c3, c4⟩ := wordF (F := F) (z := z) hw hl hc j (i + 1) p s f h1 (by omega) (by omega) b2
      exact ⟨false, p, h2, by rw [head, c1], a2.trans (Nat.le_refl _) c3, c4.trans (need_z4 (by omega) a1), by omega, ec.2.2.2.1, fun q => absurd q (by decide), fun _ => c2, fun _ _ _ => ⟨rfl, rfl⟩, fun o t h10 hlt => ⟨o, by rw [hm o t h10 hlt, if_neg b1, bnd_some, if_pos (show (0 : Int32) = 0 from rfl)]; rfl, h10, FrK.refl o⟩⟩
def bsW (w i : Nat) : Int32 := (strL.getD w []).getD i 0
theorem lenW {F w : Nat} {h : PH} (hw : w < 3) : f_J0_length_8abf5 F w h = some (4, h) := by
  have : w = 0 ∨ w = 1 ∨ w = 2 := by omega
  unfold f_J0_length_8abf5 f_J0_coder_7d493
  rw [if_pos (show w < 5 by omega), if_pos (show w < 5 by omega), if_neg (show ¬ (1 : Int32) = 0 by decide), bnd_some]
  rcases this with rfl | rfl | rfl
  · rw [show (Int32.ofNat (strN.getD 0 0)) >>> (((0 : Int32).toInt8.toInt32) &&& 31) = 4 by decide +kernel]
  · rw [show (Int32.ofNat (strN.getD 1 0)) >>> (((0 : Int32).toInt8.toInt32) &&& 31) = 4 by decide +kernel]
  · rw [show (Int32.ofNat (strN.getD 2 0)) >>> (((0 : Int32).toInt8.toInt32) &&& 31) = 4 by decide +kernel]
theorem charV : ∀ w, w < 3 → ∀ i, i < 4 → (((((((strL.getD w []).getD i 0) &&& (255 : Int32)).toUInt32 % 65536).toInt32).toUInt32.toUInt16.toUInt32.toInt32).toUInt32.toUInt16.toUInt32.toInt32) = bsW w i ∧ ¬ bsW w i = -1 := by decide +kernel
theorem strN3 : ∀ w, w < 3 → strN.getD w 0 = 4 := by decide
theorem charW {F w i : Nat} {h : PH} (hw : w < 3) (hi : i < 4) : f_J0_charAt_5068e F w (nI i) h = some (bsW w i, h) := by
  have e2 : f_J1_charAt_3b067 F w (nI i) h = some (((((((strL.getD w []).getD i 0) &&& (255 : Int32)).toUInt32 % 65536).toInt32).toUInt32.toUInt16.toUInt32.toInt32), h) := by
    unfold f_J1_charAt_3b067 f_J0_checkIndex_df160 f_J3_checkIndex_8e157
    rw [if_pos (show w < 5 by omega), strN3 w hw, if_neg (nI_pos (show i < 2 ^ 31 by omega)), show (Int32.ofNat 4) = nI 4 from rfl, if_t (by omega) (by decide), if_pos hi, bnd_some, bnd_some, if_pos (inb_nI hi (by decide)), ix_nI (by omega)]
  have e3 : f_J0_isLatin1_aae02 F w h = some (1, h) := by
    unfold f_J0_isLatin1_aae02
    rw [if_pos (show w < 5 by omega), if_neg (show ¬ (1 : Int32) = 0 by decide), if_pos (show (0 : Int32) = 0 from rfl)]
  unfold f_J0_charAt_5068e
  rw [if_pos (show w < 5 by omega), e3, bnd_some, if_neg (show ¬ (1 : Int32) = 0 by decide), e2, bnd_some, (charV w hw i hi).1]
theorem lettersW : ∀ i, i < 4 → lettersL.getD (8 + i) 0 = bsW 0 i ∧ lettersL.getD (0 + i) 0 = bsW 1 i ∧ lettersL.getD (4 + i) 0 = bsW 2 i := by decide +kernel
/-- a word on both sides: 0 pace, 1 news, 2 hush -/
theorem words {F w z n p s fr : Nat} {tx : Nat → Nat} {h : PH} (hF : 10 ≤ F) (hw : (w = 0 ∧ fr = 8) ∨ (w = 1 ∧ fr = 0) ∨ (w = 2 ∧ fr = 4)) (ec : EC h z n tx p s) : ∃ (r : Bool) (q : Nat) (h' : PH), f_X5_word F w h = some ((), h') ∧ FrX z s h h' ∧ h'.1 z = h.1 z ∧ p ≤ q ∧ q ≤ n ∧ (r = true → EC h' z n tx q s ∧ p < q) ∧ (r = false → FC h' z q) ∧ (¬ byA n tx p = bsW w 0 → r = false ∧ q = p) ∧
      ∀ (o : PH), TxtM o n tx → o.1 102 10 = nI p → (∀ i, i < 12 → o.1 115 i = lettersL.getD i 0) → ∃ o', f_X10_takesWord F (nI fr) (4 : Int32) o = some (b2i r, o') ∧ o'.1 102 10 = nI q ∧ FrK o o' := by
  have hw3 : w < 3 := by omega
  obtain ⟨r, q, h', a1, a2, a3, a4, a5, a6, a7, a8, a9⟩ := wordS (F := F) (w := w) (z := z) (n := n) (fr := fr) (tx := tx) (bs := bsW w) (by omega) (fun h => lenW hw3) (fun i hi h => charW hw3 hi) (fun i hi => by
    have := lettersW i hi
    rcases hw with ⟨rfl, rfl⟩ | ⟨rfl, rfl⟩ | ⟨rfl, rfl⟩
    · exact this.1
    · exact this.2.1
    · exact this.2.2) (fun i hi => (charV w hw3 i hi).2) (by omega) 4 0 p s F h rfl (by omega) ec
  refine ⟨r, q, h', ?_, a2, a3, a4, a5, a6, a7, a8 rfl (by decide), a9⟩
  unfold f_X5_word
  rw [if_pos (show w < 5 by omega)]
  exact a1
theorem eitherF {F : Nat} {h : PH} (hF : 10 ≤ F) (f : h.1 31 4 = 1) : f_grp_X5_either F 50 0 (0 : Int32) h = some ((), h) := by
  obtain ⟨m, rfl⟩ : ∃ m, F = m + 1 := ⟨F - 1, by omega⟩
  have e2 : f_grp_X5_either (m + 1) 48 2 (0 : Int32) h = some ((), h) := by
    rw [f_grp_X5_either, if_neg (show ¬ (2 : Nat) = 0 by decide), if_neg (show ¬ (2 : Nat) = 1 by decide)]
    unfold b_X5_factor
    rw [f, if_neg (show ¬ (1 : Int32) = 0 by decide)]
  have e1 : f_grp_X5_either (m + 1) 49 1 (0 : Int32) h = some ((), h) := by
    rw [f_grp_X5_either, if_neg (show ¬ (1 : Nat) = 0 by decide), if_pos (show (1 : Nat) = 1 from rfl)]
    unfold b_X5_both
    rw [e2, bnd_some, fL_X5_both_7, f, if_neg (show ¬ (1 : Int32) = 0 by decide), ite_self]
  rw [f_grp_X5_either, if_pos (show (0 : Nat) = 0 from rfl)]
  unfold b_X5_either
  rw [e1, bnd_some, fL_X5_either_7, f, if_neg (show ¬ (1 : Int32) = 0 by decide), ite_self]
def FrZ (z : Nat) (h h' : PH) : Prop := (∀ a, a ≠ 31 → (a < z ∨ z + 4 ≤ a) → h'.1 a = h.1 a) ∧ (∀ i, i ≠ 2 → i ≠ 3 → i ≠ 4 → h'.1 31 i = h.1 31 i) ∧ h'.2 = h.2
theorem FrZ.refl (z : Nat) (h : PH) : FrZ z h h := ⟨fun _ _ _ => rfl, fun _ _ _ _ => rfl, rfl⟩
theorem FrZ.trans {z : Nat} {h h1 h2 : PH} (a : FrZ z h h1) (b : FrZ z h1 h2) : FrZ z h h2 := ⟨fun x u v => (b.1 x u v).trans (a.1 x u v), fun i u v w => (b.2.1 i u v w).trans (a.2.1 i u v w), b.2.2.trans a.2.2⟩
theorem FrX.z {z s : Nat} {h h' : PH} (f : FrX z s h h') : FrZ z h h' := ⟨fun a u v => f.1 a u (by omega) (by omega), fun i u v w => f.2.1 i u v w, f.2.2.2.2⟩
theorem addClauseC {F z k : Nat} {h : PH} {x : Int32} (hz : isBench z = true) (hk : h.1 z 1 = nI k) (h10 : k < 10) : ∃ h', f_X2_addClause F z x h = some ((), h') ∧ FrZ z h h' ∧ (∀ i, i ≠ 1 → h'.1 z i = h.1 z i) ∧ h'.1 z 1 = nI (k + 1) ∧ (∀ i, i ≠ k → h'.1 (z + 1) i = h.1 (z + 1) i) ∧ h'.1 (z + 1) k = x ∧ (∀ i, i ≠ k → h'.1 (z + 2) i = h.1 (z + 2) i) ∧ h'.1 (z + 2) k = h.1 z 4 ∧ h'.1 (z + 3) = h.1 (z + 3) ∧ h'.1 31 = h.1 31 := by
  have hzz := isBench_or hz
  unfold f_X2_addClause
  rw [if_pos hz, hk, show (10 : Int32) = nI 10 from rfl, if_l (by decide) (by omega), if_neg (show ¬ 10 ≤ k by omega), if_pos (inb_nI h10 (by decide)), lth_eq, ix_nI (by omega), rI_ne (show z ≠ z + 1 by omega), hk, if_pos (inb_nI h10 (by decide)), lth_eq, ix_nI (by omega), lth_eq, rI_ne (show z ≠ z + 2 by omega), rI_ne (show z ≠ z + 1 by omega), hk, nI_1]
  refine ⟨_, rfl, ⟨fun a u v => by rw [rI_ne (by omega), rI_ne (by omega), rI_ne (by omega)], fun i _ _ _ => by rw [rI_ne (by omega), rI_ne (by omega), rI_ne (by omega)], rfl⟩, fun i u => by rw [rI_sl u, rI_ne (by omega), rI_ne (by omega)], rI_eq _ _ _ _, fun i u => by rw [rI_ne (by omega), rI_ne (by omega), rI_sl u], by rw [rI_ne (by omega), rI_ne (by omega), rI_eq], fun i u => by rw [rI_ne (by omega), rI_sl u, rI_ne (by omega)], by rw [rI_ne (by omega), rI_eq], by rw [rI_ne (by omega), rI_ne (by omega), rI_ne (by omega)], by rw [rI_ne (by omega), rI_ne (by omega), rI_ne (by omega)]⟩
theorem addClauseF {F z k : Nat} {h : PH} {x : Int32} (hz : isBench z = true) (hk : h.1 z 1 = nI k) (h10 : k ≤ 10) : ∃ h', f_X2_addClause F z x h = some ((), h') ∧ FrZ z h h' ∧ h'.1 31 = h.1 31 := by
  by_cases h1 : k < 10
  · obtain ⟨h', a1, a2, a3, a4, a5, a6, a7, a8, a9, a10⟩ := addClauseC (F := F) (x := x) hz hk h1
    exact ⟨h', a1, a2, a10⟩
  · unfold f_X2_addClause
    rw [if_pos hz, hk, show (10 : Int32) = nI 10 from rfl, if_l (by decide) (by omega), if_pos (show 10 ≤ k by omega)]
    exact ⟨h, rfl, FrZ.refl _ _, rfl⟩
