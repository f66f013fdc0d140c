def worthOK (h : PH) (c k v d : Nat) : Prop := c < 6 ∧ k ≤ 6 ∧ v ≤ 9 ∧ d < 100 ∧ ∀ f, f < 6 → h.1 15 f = nI (factA f c k v d)
theorem factA_lt {f c k v d : Nat} (hc : c < 6) (hk : k ≤ 6) (hv : v ≤ 9) : factA f c k v d < 100 := by
  unfold factA
  split
  · omega
  · split
    · omega
    · split
      · omega
      · split
        · omega
        · split <;> omega
theorem passesC {F : Nat} {h : PH} {c k v d : Nat} {t : Int} (w : worthOK h c k v d) (ht : testT t) : f_X2_passes F (cT t) h = some (if tstA t.toNat c k v d = true then 1 else 0, h) := by
  obtain ⟨t0, t1, t2⟩ := ht
  obtain ⟨n, rfl⟩ : ∃ n : Nat, t = n := ⟨t.toNat, by omega⟩
  have hf : (300 * (n / 1000) + n % 1000) / 300 = n / 1000 := by omega
  have hs : (300 * (n / 1000) + n % 1000) / 100 % 3 = n / 100 % 10 := by omega
  have hn : (300 * (n / 1000) + n % 1000) % 100 = n % 100 := by omega
  have hfl := factA_lt (f := n / 1000) (d := d) w.1 w.2.1 w.2.2.1
  unfold f_X2_passes tstA
  rw [show cT (n : Int) = nI (300 * (n / 1000) + n % 1000) by unfold cT; rw [if_pos (by omega)]; rfl,
    show (300 : Int32) = nI 300 from rfl, show (100 : Int32) = nI 100 from rfl, li3, li1, li0, pk_div (by omega) (by decide) (by decide), pk_div (by omega) (by decide) (by decide), jrem_nI (by omega) (by decide) (by decide), jrem_nI (by omega) (by decide) (by decide), hf, hs, hn,
    if_neg (show ¬ nI 300 = nI 0 by decide), if_neg (show ¬ nI 100 = nI 0 by decide), if_neg (show ¬ nI 100 = nI 0 by decide), if_neg (show ¬ nI 3 = nI 0 by decide), if_pos (inb_nI (by omega) (by decide)), ix_nI (by omega), w.2.2.2.2 (n / 1000) (by omega), if_e (by omega) (by decide), if_e (by omega) (by decide), if_l (by omega) (by omega), if_e (by omega) (by omega), if_l (by omega) (by omega)]
  rw [show ((n : Int)).toNat = n from rfl]
  by_cases h0 : n / 100 % 10 = 0
  · rw [if_pos h0, if_pos h0]
    by_cases h1 : n % 100 ≤ factA (n / 1000) c k v d
    · rw [if_pos h1, if_neg (by rw [decide_eq_true_eq]; omega)]
    · rw [if_neg h1, if_pos (by rw [decide_eq_true_eq]; omega)]
  · rw [if_neg h0, if_neg h0]
    by_cases h2 : n / 100 % 10 = 1
    · rw [if_pos h2, if_pos h2]
      by_cases h1 : factA (n / 1000) c k v d = n % 100
      · rw [if_pos h1, if_pos (by rw [decide_eq_true_eq]; exact h1)]
      · rw [if_neg h1, if_neg (by rw [decide_eq_true_eq]; exact h1)]
    · rw [if_neg h2, if_neg h2]
      by_cases h1 : factA (n / 1000) c k v d ≤ n % 100
      · rw [if_pos h1, if_neg (by rw [decide_eq_true_eq]; omega)]
      · rw [if_neg h1, if_pos (by rw [decide_eq_true_eq]; omega)]
theorem cT_test {t : Int} (ht : testT t) : ¬ cT t = -1 ∧ ¬ cT t = -2 ∧ ¬ cT t = -3 := by
  obtain ⟨t0, t1, t2⟩ := ht
  have e : cT t = nI (300 * (t.toNat / 1000) + t.toNat % 1000) := by unfold cT; rw [if_pos t0]
  have p : ¬ cT t < 0 := by rw [e]; exact nI_pos (by omega)
  exact ⟨fun q => p (by rw [q]; decide), fun q => p (by rw [q]; decide), fun q => p (by rw [q]; decide)⟩
theorem isTrueC_loop {F x0 : Nat} {h : PH} {c k v d e : Nat} (w : worthOK h c k v d) (he : e ≤ 100) : ∀ (ts : List Int) (i : Nat) (st : List Bool) (f : Nat), i + ts.length = e → ts.length < f → st.length ≤ 11 → okT ts st.length 1 → atS (h.1 (x0 + 3)) cT i ts →
    fL_X2_isTrue_6 F f x0 (nI e) (nI (bitN st)) (nI i) h = some (if (ts.foldl (stepT c k v d) st).headD false = true then 1 else 0, h) := by
  intro ts
  induction ts with
  | nil =>
    intro i st f hi hf hl ok at_
    obtain ⟨f, rfl⟩ : ∃ m, f = m + 1 := ⟨f - 1, by omega⟩
    have hi' : i = e := by simpa using hi
    subst hi'
    have ok' : st.length = 1 := ok
    rw [fL_X2_isTrue_6, if_l (by omega) (by omega), if_pos (Nat.le_refl _)]
    match st, ok' with
    | [b], _ => cases b <;> rfl
  | cons t ts ih =>
    intro i st f hi hf hl ok at_
    obtain ⟨f, rfl⟩ : ∃ m, f = m + 1 := ⟨f - 1, by omega⟩
    rw [List.length_cons] at hi hf
    rw [fL_X2_isTrue_6, if_l (by omega) (by omega), if_neg (by omega), if_pos (inb_nI (by omega) (by decide)), ix_nI (by omega), at_.1, nI_1, List.foldl_cons]
    rcases ok with ⟨rfl, g, r⟩ | ⟨o, g, r⟩ | ⟨o, g, r⟩
    · rw [if_pos (show cT (-1) = (-1 : Int32) from rfl)]
      match st, g, hl, r with
      | b :: s, _, hl, r =>
        have hb := bitN_lt s
        have hp : 2 ^ s.length ≤ 2 ^ 10 := Nat.pow_le_pow_right (by decide) (by simpa using hl)
        have hx : nI (bitN (b :: s)) ^^^ (1 : Int32) = nI (bitN ((!b) :: s)) := by
          have := bit_not (bitN s) (by omega)
          cases b
          · exact this.2
          · exact this.1
        rw [hx, ih (i + 1) ((!b) :: s) f (by omega) (by omega) hl r at_.2]
        rfl
    · match st, g, hl, r with
      | b :: a :: s, _, hl, r =>
        have hb := bitN_lt s
        have hp : 2 ^ s.length ≤ 2 ^ 9 := Nat.pow_le_pow_right (by decide) (by simp at hl; omega)
        have hb1 : b.toNat ≤ 1 := by cases b <;> decide
        have ha1 : a.toNat ≤ 1 := by cases a <;> decide
        have hx : bitN (b :: a :: s) = 4 * bitN s + 2 * a.toNat + b.toNat := by show 2 * (2 * bitN s + a.toNat) + b.toNat = _; omega
        have hd : (4 * bitN s + 2 * a.toNat + b.toNat) / 4 = bitN s := by omega
        rcases o with rfl | rfl
        · rw [if_neg (show ¬ cT (-2) = (-1 : Int32) by decide), if_pos (show cT (-2) = (-2 : Int32) from rfl), hx, bit_and _ (by omega), hd]
          have hy : 2 * bitN s + (if (4 * bitN s + 2 * a.toNat + b.toNat) % 4 = 3 then 1 else 0) = bitN ((a && b) :: s) := by
            show _ = 2 * bitN s + (a && b).toNat
            cases a <;> cases b <;> simp <;> omega
          rw [hy, ih (i + 1) _ f (by omega) (by omega) (by simp at hl ⊢; omega) (by simpa using r) at_.2]
          rfl
        · rw [if_neg (show ¬ cT (-3) = (-1 : Int32) by decide), if_neg (show ¬ cT (-3) = (-2 : Int32) by decide), if_pos (show cT (-3) = (-3 : Int32) from rfl), hx, bit_or _ (by omega), hd]
          have hy : 2 * bitN s + (if (4 * bitN s + 2 * a.toNat + b.toNat) % 4 = 0 then 0 else 1) = bitN ((a || b) :: s) := by
            show _ = 2 * bitN s + (a || b).toNat
            cases a <;> cases b <;> simp <;> omega
          rw [hy, ih (i + 1) _ f (by omega) (by omega) (by simp at hl ⊢; omega) (by simpa using r) at_.2]
          rfl
    · have hb := bitN_lt st
      have hp : 2 ^ st.length ≤ 2 ^ 10 := Nat.pow_le_pow_right (by decide) (by omega)
      have hc := cT_test o
      have hst : stepT c k v d st t = tstA t.toNat c k v d :: st := by
        have := o.1
        unfold stepT
        rw [if_neg (by omega), if_neg (by omega), if_neg (by omega)]
      have hpu := bit_push (bitN st) (by omega)
      rw [if_neg hc.1, if_neg hc.2.1, if_neg hc.2.2, passesC w o, bnd_some, hst]
      cases hv : tstA t.toNat c k v d with
      | true =>
        rw [if_pos rfl, if_neg (show ¬ (1 : Int32) = 0 by decide), hpu.2]
        exact ih (i + 1) (true :: st) f (by omega) (by omega) (by simp; omega) r at_.2
      | false =>
        rw [if_neg (show ¬ false = true by decide), if_pos (show (0 : Int32) = 0 from rfl), hpu.1]
        exact ih (i + 1) (false :: st) f (by omega) (by omega) (by simp; omega) r at_.2
-- a bench by its text: the pace and the clauses, each a weight and its steps
abbrev BT : Type := Nat × List (Int × List Int)
def semB (b : BT) : Bn := (b.1, b.2.map fun q => (q.1, fun c k v d => valT q.2 c k v d))
def BTOK (b : BT) : Prop := 1 ≤ b.1 ∧ b.1 ≤ 99 ∧ b.2.length ≤ 10 ∧ ∀ q ∈ b.2, (-99 ≤ q.1 ∧ q.1 ≤ 99) ∧ okT q.2 0 1
theorem semB_ok {b : BT} (h : BTOK b) : BnOK (semB b) := by
  refine ⟨h.1, h.2.1, by show (b.2.map _).length ≤ 10; rw [List.length_map]; exact h.2.2.1, fun q hq => ?_⟩
  obtain ⟨p, hp, rfl⟩ := List.mem_map.mp hq
  exact ⟨(h.2.2.2 p hp).1, fun c k v d => valT_mod _ _ _ _ _⟩
/-- the class's clauses from number i on, their steps from s on -/
def clC (h : PH) (z : Nat) : Nat → Nat → List (Int × List Int) → Prop
  | i, s, [] => h.1 z 1 = nI i ∧ h.1 z 4 = nI s
  | i, s, q :: l => h.1 (z + 1) i = Int32.ofInt q.1 ∧ h.1 (z + 2) i = nI (s + q.2.length) ∧ s + q.2.length ≤ 100 ∧ atS (h.1 (z + 3)) cT s q.2 ∧ clC h z (i + 1) (s + q.2.length) l
def CB (h : PH) (z : Nat) (b : BT) : Prop := isBench z = true ∧ h.1 z 0 = nI b.1 ∧ clC h z 0 0 b.2
theorem clC_len {h : PH} {z : Nat} : ∀ {l : List (Int × List Int)} {i s : Nat}, clC h z i s l → h.1 z 1 = nI (i + l.length)
  | [], _, _, u => u.1
  | q :: l, i, s, u => by rw [clC_len u.2.2.2.2, List.length_cons, show i + 1 + l.length = i + (l.length + 1) by omega]
def sumA (l : List (Int × List Int)) (c k v d : Nat) : Int := (l.map fun q => if valT q.2 c k v d = true then q.1 else 0).sum
theorem ofInt_toInt {x : Int} (h : -2 ^ 31 ≤ x) (h2 : x < 2 ^ 31) : (Int32.ofInt x).toInt = x := Int32.toInt_ofInt_of_le h h2
theorem max0 {x : Int} (h : -2 ^ 20 ≤ x) (h2 : x < 2 ^ 20) : (if (0 : Int32) < Int32.ofInt x then Int32.ofInt x else (0 : Int32)) = nI x.toNat := by
  by_cases h0 : 0 < x
  · rw [if_pos (by rw [Int32.lt_iff_toInt_lt, ofInt_toInt (by omega) (by omega)]; exact h0)]
    obtain ⟨n, rfl⟩ : ∃ n : Nat, x = n := ⟨x.toNat, by omega⟩
    rfl
  · rw [if_neg (by rw [Int32.lt_iff_toInt_lt, ofInt_toInt (by omega) (by omega)]; exact h0), show x.toNat = 0 by omega]
    rfl
theorem newsByC_loop {F z n : Nat} {h : PH} {c k v d : Nat} (hF : 200 ≤ F) (hz : isBench z = true) (w : worthOK h c k v d) (hn : h.1 z 1 = nI n) (h10 : n ≤ 10) : ∀ (l : List (Int × List Int)) (i s f : Nat) (x : Int), i + l.length = n → l.length < f → s ≤ 100 → -2000 + 99 * (l.length : Int) ≤ x → x ≤ 2000 - 99 * (l.length : Int) → (∀ q ∈ l, (-99 ≤ q.1 ∧ q.1 ≤ 99) ∧ okT q.2 0 1) → clC h z i s l →
    fL_X2_newsBy_7 F f z (Int32.ofInt x) (nI s) (nI i) h = some (nI (x + sumA l c k v d).toNat, h) := by
  intro l
  induction l with
  | nil =>
    intro i s f x hi hf hs hx hx2 hq u
    obtain ⟨f, rfl⟩ : ∃ m, f = m + 1 := ⟨f - 1, by omega⟩
    have hi' : i = n := by simpa using hi
    subst hi'
    rw [fL_X2_newsBy_7, hn, if_l (by omega) (by omega), if_pos (Nat.le_refl _), max0 (by simp at hx; omega) (by simp at hx2; omega)]
    simp [sumA]
  | cons q l ih =>
    intro i s f x hi hf hs hx hx2 hq u
    obtain ⟨f, rfl⟩ : ∃ m, f = m + 1 := ⟨f - 1, by omega⟩
    obtain ⟨u1, u2, u3, u4, u5⟩ := u
    have hq1 := hq q List.mem_cons_self
    rw [List.length_cons] at hi hf hx hx2
    have hi10 : inb (nI i) 10 = true := inb_nI (by omega) (by decide)
    have ht : f_X2_isTrue F z (nI s) (nI (s + q.2.length)) h = some (if valT q.2 c k v d = true then 1 else 0, h) := by
      unfold f_X2_isTrue
      rw [if_pos hz]
      exact isTrueC_loop w u3 q.2 s [] F rfl (by omega) (by decide) hq1.2 u4
    rw [fL_X2_newsBy_7, hn, if_l (by omega) (by omega), if_neg (by omega), if_pos hi10, ix_nI (by omega), u2, ht, bnd_some, if_pos hi10, if_pos hi10, u2, u1, nI_1]
    have hs1 : sumA (q :: l) c k v d = (if valT q.2 c k v d = true then q.1 else 0) + sumA l c k v d := by simp [sumA]
    by_cases hv : valT q.2 c k v d = true
    · rw [if_pos hv, if_neg (show ¬ (1 : Int32) = 0 by decide), hs1, if_pos hv, show Int32.ofInt x + Int32.ofInt q.1 = Int32.ofInt (x + q.1) from (Int32.ofInt_add ..).symm]
      rw [if_pos hi10, ih (i + 1) _ f (x + q.1) (by omega) (by omega) u3 (by omega) (by omega) (fun p hp => hq p (List.mem_cons_of_mem _ hp)) u5, Int.add_assoc]
    · rw [if_neg hv, if_pos (show (0 : Int32) = 0 from rfl), hs1, if_neg hv, Int.zero_add]
      exact ih (i + 1) _ f x (by omega) (by omega) u3 (by omega) (by omega) (fun p hp => hq p (List.mem_cons_of_mem _ hp)) u5
