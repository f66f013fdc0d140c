-- reading behind writing
theorem rI (h : PH) (k i : Nat) (x : Int32) (a b : Nat) : (wI h k i x).1 a b = if a = k ∧ b = i then x else h.1 a b := by
  by_cases ha : a = k
  · subst ha
    by_cases hb : b = i
    · simp [wI, rowI, va_up, upd, hb]
    · simp [wI, rowI, va_up, upd, hb]
  · simp [wI, rowI, va_up, ha]
theorem rI_ne {h : PH} {k i : Nat} {x : Int32} {a : Nat} (ha : a ≠ k) : (wI h k i x).1 a = h.1 a := by simp [wI, rowI, va_up, ha]
theorem rI_eq (h : PH) (k i : Nat) (x : Int32) : (wI h k i x).1 k i = x := by simp [rI]
theorem rI_sl {h : PH} {k i : Nat} {x : Int32} {b : Nat} (hb : b ≠ i) : (wI h k i x).1 k b = h.1 k b := by simp [rI, hb]
theorem rI_L (h : PH) (k i : Nat) (x : Int32) : (wI h k i x).2 = h.2 := rfl
theorem rR_1 (h : PH) (k i : Nat) (x : Option Nat) : (wR h k i x).1 = h.1 := rfl
theorem rR_2 (h : PH) (k i : Nat) (x : Option Nat) : (wR h k i x).2.1 = h.2.1 := rfl
theorem rR (h : PH) (k i : Nat) (x : Option Nat) (a b : Nat) : (wR h k i x).2.2 a b = if a = k ∧ b = i then x else h.2.2 a b := by
  by_cases ha : a = k
  · subst ha
    by_cases hb : b = i
    · simp [wR, va_up, hb]
    · simp [wR, va_up, hb]
  · simp [wR, va_up, ha]
theorem rL_1 (h : PH) (k i : Nat) (x : Int64) : (wL h k i x).1 = h.1 := rfl
theorem rL_3 (h : PH) (k i : Nat) (x : Int64) : (wL h k i x).2.2 = h.2.2 := rfl
theorem rL (h : PH) (k i : Nat) (x : Int64) (a b : Nat) : (wL h k i x).2.1 a b = if a = k ∧ b = i then x else h.2.1 a b := by
  by_cases ha : a = k
  · subst ha
    by_cases hb : b = i
    · simp [wL, rowL, va_up, vp_updL, hb]
    · simp [wL, rowL, va_up, vp_updL, hb]
  · simp [wL, rowL, va_up, ha]
theorem rrI (h : PH) (k : Nat) (f : Nat → Int32) (a : Nat) : (rowI h k f).1 a = if a = k then f else h.1 a := rfl
theorem rrL (h : PH) (k : Nat) (f : Nat → Int64) (a : Nat) : (rowL h k f).2.1 a = if a = k then f else h.2.1 a := rfl
theorem lth_eq {B : Type} (h : PH) (K : PH → Option B) : lth h K = K h := rfl
theorem omat_some {A B : Type} (z : A) (n : B) (f : A → B) : omat (some z) n f = f z := rfl
theorem omat_none {A B : Type} (n : B) (f : A → B) : omat none n f = n := rfl
-- numbers
theorem ix_nI {k : Nat} (h : k < 2 ^ 31) : ix (nI k) = k := nI_clamp h
theorem inb_nI {k n : Nat} (h : k < n) (hn : n < 2 ^ 31) : inb (nI k) n = true := by
  unfold inb
  rw [nI_toInt (by omega)]
  simp; exact h
theorem inb_lt {i : Int32} {n : Nat} (h : inb i n = true) (hn : n < 2 ^ 31) : ∃ c : Nat, c < n ∧ i = nI c := vp_in_of (inb_in h) hn
theorem inb_false {i : Int32} {n : Nat} (h : ¬ inb i n = true) : i < 0 ∨ (n : Int) ≤ i.toInt := by
  unfold inb at h
  rw [Bool.and_eq_true, decide_eq_true_eq, decide_eq_true_eq] at h
  by_cases h0 : 0 ≤ i.toInt
  · right
    exact Int.not_lt.mp (fun h1 => h ⟨h0, h1⟩)
  · left
    exact Int32.lt_iff_toInt_lt.mpr (by simpa using Int.not_le.mp h0)
/-- the range test of both sides -/
def wth (a lo hi : Int32) : Int32 := if a < lo then 0 else if hi < a then 0 else 1
theorem within_eq (F : Nat) (a lo hi : Int32) (h : PH) : f_X9_within F a lo hi h = some (wth a lo hi, h) := by
  unfold f_X9_within wth
  split
  · rfl
  · split <;> rfl
theorem in_eq (F : Nat) (a lo hi : Int32) (h : PH) : f_X10_in F a lo hi h = some (wth a lo hi, h) := by
  unfold f_X10_in wth
  split
  · rfl
  · split <;> rfl
theorem wth_01 (a lo hi : Int32) : wth a lo hi = 0 ∨ wth a lo hi = 1 := by
  unfold wth
  split
  · exact Or.inl rfl
  · split
    · exact Or.inl rfl
    · exact Or.inr rfl
theorem wth_and (a lo hi : Int32) : wth a lo hi &&& 1 = wth a lo hi := by
  rcases wth_01 a lo hi with h | h <;> rw [h] <;> decide
theorem wth_ne {a lo hi : Int32} (h : ¬ wth a lo hi = 0) : lo ≤ a ∧ a ≤ hi := by
  unfold wth at h
  by_cases h1 : a < lo
  · rw [if_pos h1] at h; exact absurd rfl h
  · rw [if_neg h1] at h
    by_cases h2 : hi < a
    · rw [if_pos h2] at h; exact absurd rfl h
    · exact ⟨Int32.not_lt.mp h1, Int32.not_lt.mp h2⟩
theorem wth_N {a : Int32} {m : Nat} {M : Int32} (hM : M = nI m) (hm : m < 2 ^ 31) (h : ¬ wth a 0 M = 0) : ∃ c : Nat, c ≤ m ∧ a = nI c := by
  obtain ⟨h1, h2⟩ := wth_ne h
  subst hM
  exact nI_of2 (M := nI m) (n := m) (nI_toInt hm) (Int32.not_lt.mpr h1) h2
theorem wth_nI {c m : Nat} (h : c ≤ m) (hm : m < 2 ^ 31) : wth (nI c) 0 (nI m) = 1 := by
  unfold wth
  rw [if_neg (nI_pos (by omega)), if_neg (nI_nlt (by omega) hm)]
/-- a range test against the number of clocks less one is the index test -/
theorem wth_pred {a : Int32} {n : Nat} (hn : n < 2 ^ 30) : wth a 0 (nI n - 1) = if inb a n = true then 1 else 0 := by
  by_cases h : inb a n = true
  · obtain ⟨c, hc, rfl⟩ := inb_lt h (by omega)
    rw [if_pos h]
    obtain ⟨k, rfl⟩ : ∃ k, n = k + 1 := ⟨n - 1, by omega⟩
    rw [nI_pred]
    exact wth_nI (by omega) (by omega)
  · rw [if_neg h]
    unfold wth
    rcases inb_false h with h1 | h1
    · rw [if_pos h1]
    · by_cases h0 : a < 0
      · rw [if_pos h0]
      · rw [if_neg h0, if_pos]
        apply Int32.lt_iff_toInt_lt.mpr
        rw [show (1 : Int32) = nI 1 from rfl, pk_sub_toInt (by omega) (by omega)]
        omega
theorem isClockC {F n : Nat} {a : Int32} {h : PH} (h0 : h.1 1 0 = nI n) (hn : n ≤ 6) : f_X9_isClock F a h = some (if inb a n = true then 1 else 0, h) := by
  unfold f_X9_isClock
  rw [h0]
  by_cases hi : inb a n = true
  · obtain ⟨c, hc, rfl⟩ := inb_lt hi (by omega)
    rw [if_neg (nI_pos (by omega)), if_neg (nI_ge hc (by omega)), if_pos hi]
  · rw [if_neg hi]
    rcases inb_false hi with h1 | h1
    · rw [if_pos h1]
    · by_cases h2 : a < 0
      · rw [if_pos h2]
      · rw [if_neg h2, if_pos]
        apply Int32.le_iff_toInt_le.mpr
        rw [nI_toInt (by omega)]; exact h1
theorem isClockM {F n : Nat} {a : Int32} {o : PH} (h0 : o.1 102 0 = nI n) (hn : n ≤ 6) : f_X10_isClock F a o = some (if inb a n = true then 1 else 0, o) := by
  unfold f_X10_isClock
  rw [in_eq, bnd_some, h0, wth_pred (by omega)]
  by_cases hi : inb a n = true
  · rw [if_pos hi]; rfl
  · rw [if_neg hi]; rfl
