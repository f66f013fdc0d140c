-- THE LOOP
theorem lawStep {C M : PH → Option (Int32 × PH)} {K : Int32 → PH → PH → Option Int32} {y : Int32} {h o : PH} (st : Step C M h o) (ih : ∀ h' o', Sim h' o' → K y h' o' = some 1) : (bnd (C h) fun v1 h1 => (bnd (M o) fun v2 h2 => (if v1 = v2 then (K y h1 h2) else (some 0)))) = some 1 := by
  obtain ⟨v, h', o', c1, m1, s⟩ := st
  rw [c1, bnd_some, m1, bnd_some, if_pos rfl]
  exact ih h' o' s
theorem lawStepL {C M : PH → Option (Int64 × PH)} {K : Int32 → PH → PH → Option Int32} {y : Int32} {h o : PH} (st : Step C M h o) (ih : ∀ h' o', Sim h' o' → K y h' o' = some 1) : (bnd (C h) fun v1 h1 => (bnd (M o) fun v2 h2 => (if (lg_cmp v1 v2) = 0 then (K y h1 h2) else (some 0)))) = some 1 := by
  obtain ⟨v, h', o', c1, m1, s⟩ := st
  rw [c1, bnd_some, m1, bnd_some, if_pos ((lg_cmp_eq v v).mpr rfl)]
  exact ih h' o' s
theorem ite1 {c : Prop} [Decidable c] {a b : Option Int32} (ha : a = some 1) (hb : b = some 1) : (if c then a else b) = some 1 := by
  split
  · exact ha
  · exact hb
theorem tlaw_0 {F : Nat} {xs : Nat → Int32} {L : Nat} {K : Int32 → PH → PH → Option Int32} {x3 : Int32} {h o : PH} (hF : FOK F) (i1 : inb (x3 + (1 : Int32)) L = true) (i2 : inb (x3 + (2 : Int32)) L = true) (i3 : inb (x3 + (3 : Int32)) L = true) (i4 : inb (x3 + (4 : Int32)) L = true) (i5 : inb (x3 + (5 : Int32)) L = true) (s : Sim h o) (ih : ∀ h' o', Sim h' o' → K (x3 + (6 : Int32)) h' o' = some 1) : fc_law_0 F xs L K x3 h o = some 1 := by
  unfold fc_law_0
  simp only [if_pos i1, if_pos i2, if_pos i3]
  exact lawStep (st_clock hF s) ih
theorem tlaw_1 {F : Nat} {xs : Nat → Int32} {L : Nat} {K : Int32 → PH → PH → Option Int32} {x3 : Int32} {h o : PH} (hF : FOK F) (i1 : inb (x3 + (1 : Int32)) L = true) (i2 : inb (x3 + (2 : Int32)) L = true) (i3 : inb (x3 + (3 : Int32)) L = true) (i4 : inb (x3 + (4 : Int32)) L = true) (i5 : inb (x3 + (5 : Int32)) L = true) (s : Sim h o) (ih : ∀ h' o', Sim h' o' → K (x3 + (6 : Int32)) h' o' = some 1) : fc_law_1 F xs L K x3 h o = some 1 := by
  unfold fc_law_1
  simp only [if_pos i1, if_pos i2]
  exact lawStep (st_of hF s) ih
theorem tlaw_2 {F : Nat} {xs : Nat → Int32} {L : Nat} {K : Int32 → PH → PH → Option Int32} {x3 : Int32} {h o : PH} (hF : FOK F) (i1 : inb (x3 + (1 : Int32)) L = true) (i2 : inb (x3 + (2 : Int32)) L = true) (i3 : inb (x3 + (3 : Int32)) L = true) (i4 : inb (x3 + (4 : Int32)) L = true) (i5 : inb (x3 + (5 : Int32)) L = true) (s : Sim h o) (ih : ∀ h' o', Sim h' o' → K (x3 + (6 : Int32)) h' o' = some 1) : fc_law_2 F xs L K x3 h o = some 1 := by
  unfold fc_law_2
  simp only [if_pos i1, if_pos i2]
  exact lawStep (st_news hF s) ih
theorem tlaw_3 {F : Nat} {xs : Nat → Int32} {L : Nat} {K : Int32 → PH → PH → Option Int32} {x3 : Int32} {h o : PH} (hF : FOK F) (i1 : inb (x3 + (1 : Int32)) L = true) (i2 : inb (x3 + (2 : Int32)) L = true) (i3 : inb (x3 + (3 : Int32)) L = true) (i4 : inb (x3 + (4 : Int32)) L = true) (i5 : inb (x3 + (5 : Int32)) L = true) (s : Sim h o) (ih : ∀ h' o', Sim h' o' → K (x3 + (6 : Int32)) h' o' = some 1) : fc_law_3 F xs L K x3 h o = some 1 := by
  unfold fc_law_3
  simp only [if_pos i1, if_pos i2]
  exact lawStep (st_set s) ih
theorem tlaw_4 {F : Nat} {xs : Nat → Int32} {L : Nat} {K : Int32 → PH → PH → Option Int32} {x3 : Int32} {h o : PH} (hF : FOK F) (i1 : inb (x3 + (1 : Int32)) L = true) (i2 : inb (x3 + (2 : Int32)) L = true) (i3 : inb (x3 + (3 : Int32)) L = true) (i4 : inb (x3 + (4 : Int32)) L = true) (i5 : inb (x3 + (5 : Int32)) L = true) (s : Sim h o) (ih : ∀ h' o', Sim h' o' → K (x3 + (6 : Int32)) h' o' = some 1) : fc_law_4 F xs L K x3 h o = some 1 := by
  unfold fc_law_4
  simp only [if_pos i1, if_pos i2]
  by_cases q : xs (ix (x3 + (2 : Int32))) = 0
  · simp only [if_pos q]
    exact lawStep (st_balk (p := false) s) ih
  · simp only [if_neg q]
    exact lawStep (st_balk (p := true) s) ih
theorem tlaw_5 {F : Nat} {xs : Nat → Int32} {L : Nat} {K : Int32 → PH → PH → Option Int32} {x3 : Int32} {h o : PH} (hF : FOK F) (i1 : inb (x3 + (1 : Int32)) L = true) (i2 : inb (x3 + (2 : Int32)) L = true) (i3 : inb (x3 + (3 : Int32)) L = true) (i4 : inb (x3 + (4 : Int32)) L = true) (i5 : inb (x3 + (5 : Int32)) L = true) (s : Sim h o) (ih : ∀ h' o', Sim h' o' → K (x3 + (6 : Int32)) h' o' = some 1) : fc_law_5 F xs L K x3 h o = some 1 := by
  unfold fc_law_5
  simp only [if_pos i1, if_pos i2, if_pos i3]
  exact lawStep (st_row s) ih
theorem tlaw_6 {F : Nat} {xs : Nat → Int32} {L : Nat} {K : Int32 → PH → PH → Option Int32} {x3 : Int32} {h o : PH} (hF : FOK F) (i1 : inb (x3 + (1 : Int32)) L = true) (i2 : inb (x3 + (2 : Int32)) L = true) (i3 : inb (x3 + (3 : Int32)) L = true) (i4 : inb (x3 + (4 : Int32)) L = true) (i5 : inb (x3 + (5 : Int32)) L = true) (s : Sim h o) (ih : ∀ h' o', Sim h' o' → K (x3 + (6 : Int32)) h' o' = some 1) : fc_law_6 F xs L K x3 h o = some 1 := by
  unfold fc_law_6
  simp only [if_pos i1]
  exact lawStep (st_feed s) ih
theorem tlaw_7 {F : Nat} {xs : Nat → Int32} {L : Nat} {K : Int32 → PH → PH → Option Int32} {x3 : Int32} {h o : PH} (hF : FOK F) (i1 : inb (x3 + (1 : Int32)) L = true) (i2 : inb (x3 + (2 : Int32)) L = true) (i3 : inb (x3 + (3 : Int32)) L = true) (i4 : inb (x3 + (4 : Int32)) L = true) (i5 : inb (x3 + (5 : Int32)) L = true) (s : Sim h o) (ih : ∀ h' o', Sim h' o' → K (x3 + (6 : Int32)) h' o' = some 1) : fc_law_7 F xs L K x3 h o = some 1 := by
  unfold fc_law_7
  exact lawStep (st_bench hF s) ih
theorem tlaw_8 {F : Nat} {xs : Nat → Int32} {L : Nat} {K : Int32 → PH → PH → Option Int32} {x3 : Int32} {h o : PH} (hF : FOK F) (i1 : inb (x3 + (1 : Int32)) L = true) (i2 : inb (x3 + (2 : Int32)) L = true) (i3 : inb (x3 + (3 : Int32)) L = true) (i4 : inb (x3 + (4 : Int32)) L = true) (i5 : inb (x3 + (5 : Int32)) L = true) (s : Sim h o) (ih : ∀ h' o', Sim h' o' → K (x3 + (6 : Int32)) h' o' = some 1) : fc_law_8 F xs L K x3 h o = some 1 := by
  unfold fc_law_8
  simp only [if_pos i1]
  exact lawStep (st_told hF s) ih
theorem tlaw_9 {F : Nat} {xs : Nat → Int32} {L : Nat} {K : Int32 → PH → PH → Option Int32} {x3 : Int32} {h o : PH} (hF : FOK F) (i1 : inb (x3 + (1 : Int32)) L = true) (i2 : inb (x3 + (2 : Int32)) L = true) (i3 : inb (x3 + (3 : Int32)) L = true) (i4 : inb (x3 + (4 : Int32)) L = true) (i5 : inb (x3 + (5 : Int32)) L = true) (s : Sim h o) (ih : ∀ h' o', Sim h' o' → K (x3 + (6 : Int32)) h' o' = some 1) : fc_law_9 F xs L K x3 h o = some 1 := by
  unfold fc_law_9
  simp only [if_pos i1]
  exact lawStep (st_tell hF s) ih
theorem tlaw_10 {F : Nat} {xs : Nat → Int32} {L : Nat} {K : Int32 → PH → PH → Option Int32} {x3 : Int32} {h o : PH} (hF : FOK F) (i1 : inb (x3 + (1 : Int32)) L = true) (i2 : inb (x3 + (2 : Int32)) L = true) (i3 : inb (x3 + (3 : Int32)) L = true) (i4 : inb (x3 + (4 : Int32)) L = true) (i5 : inb (x3 + (5 : Int32)) L = true) (s : Sim h o) (ih : ∀ h' o', Sim h' o' → K (x3 + (6 : Int32)) h' o' = some 1) : fc_law_10 F xs L K x3 h o = some 1 := by
  unfold fc_law_10
  simp only [if_pos i1]
  exact lawStep (st_pass hF s) ih
theorem tlaw_11 {F : Nat} {xs : Nat → Int32} {L : Nat} {K : Int32 → PH → PH → Option Int32} {x3 : Int32} {h o : PH} (hF : FOK F) (i1 : inb (x3 + (1 : Int32)) L = true) (i2 : inb (x3 + (2 : Int32)) L = true) (i3 : inb (x3 + (3 : Int32)) L = true) (i4 : inb (x3 + (4 : Int32)) L = true) (i5 : inb (x3 + (5 : Int32)) L = true) (s : Sim h o) (ih : ∀ h' o', Sim h' o' → K (x3 + (6 : Int32)) h' o' = some 1) : fc_law_11 F xs L K x3 h o = some 1 := by
  unfold fc_law_11
  simp only [if_pos i1, if_pos i2, if_pos i3]
  exact lawStep (st_on hF s) ih
theorem tlaw_12 {F : Nat} {xs : Nat → Int32} {L : Nat} {K : Int32 → PH → PH → Option Int32} {x3 : Int32} {h o : PH} (hF : FOK F) (i1 : inb (x3 + (1 : Int32)) L = true) (i2 : inb (x3 + (2 : Int32)) L = true) (i3 : inb (x3 + (3 : Int32)) L = true) (i4 : inb (x3 + (4 : Int32)) L = true) (i5 : inb (x3 + (5 : Int32)) L = true) (s : Sim h o) (ih : ∀ h' o', Sim h' o' → K (x3 + (6 : Int32)) h' o' = some 1) : fc_law_12 F xs L K x3 h o = some 1 := by
  unfold fc_law_12
  simp only [if_pos i1]
  exact lawStep (st_soonest hF s) ih
theorem tlaw_13 {F : Nat} {xs : Nat → Int32} {L : Nat} {K : Int32 → PH → PH → Option Int32} {x3 : Int32} {h o : PH} (hF : FOK F) (i1 : inb (x3 + (1 : Int32)) L = true) (i2 : inb (x3 + (2 : Int32)) L = true) (i3 : inb (x3 + (3 : Int32)) L = true) (i4 : inb (x3 + (4 : Int32)) L = true) (i5 : inb (x3 + (5 : Int32)) L = true) (s : Sim h o) (ih : ∀ h' o', Sim h' o' → K (x3 + (6 : Int32)) h' o' = some 1) : fc_law_13 F xs L K x3 h o = some 1 := by
  unfold fc_law_13
  simp only [if_pos i1, if_pos i2]
  exact lawStep (st_most hF s) ih
theorem tlaw_14 {F : Nat} {xs : Nat → Int32} {L : Nat} {K : Int32 → PH → PH → Option Int32} {x3 : Int32} {h o : PH} (hF : FOK F) (i1 : inb (x3 + (1 : Int32)) L = true) (i2 : inb (x3 + (2 : Int32)) L = true) (i3 : inb (x3 + (3 : Int32)) L = true) (i4 : inb (x3 + (4 : Int32)) L = true) (i5 : inb (x3 + (5 : Int32)) L = true) (s : Sim h o) (ih : ∀ h' o', Sim h' o' → K (x3 + (6 : Int32)) h' o' = some 1) : fc_law_14 F xs L K x3 h o = some 1 := by
  unfold fc_law_14
  exact lawStep (st_next hF s) ih
theorem tlaw_15 {F : Nat} {xs : Nat → Int32} {L : Nat} {K : Int32 → PH → PH → Option Int32} {x3 : Int32} {h o : PH} (hF : FOK F) (i1 : inb (x3 + (1 : Int32)) L = true) (i2 : inb (x3 + (2 : Int32)) L = true) (i3 : inb (x3 + (3 : Int32)) L = true) (i4 : inb (x3 + (4 : Int32)) L = true) (i5 : inb (x3 + (5 : Int32)) L = true) (s : Sim h o) (ih : ∀ h' o', Sim h' o' → K (x3 + (6 : Int32)) h' o' = some 1) : fc_law_15 F xs L K x3 h o = some 1 := by
  unfold fc_law_15
  simp only [if_pos i1, if_pos i2, if_pos i3]
  exact lawStep (st_see s) ih
theorem tlaw_16 {F : Nat} {xs : Nat → Int32} {L : Nat} {K : Int32 → PH → PH → Option Int32} {x3 : Int32} {h o : PH} (hF : FOK F) (i1 : inb (x3 + (1 : Int32)) L = true) (i2 : inb (x3 + (2 : Int32)) L = true) (i3 : inb (x3 + (3 : Int32)) L = true) (i4 : inb (x3 + (4 : Int32)) L = true) (i5 : inb (x3 + (5 : Int32)) L = true) (s : Sim h o) (ih : ∀ h' o', Sim h' o' → K (x3 + (6 : Int32)) h' o' = some 1) : fc_law_16 F xs L K x3 h o = some 1 := by
  unfold fc_law_16
  simp only [if_pos i1, if_pos i2]
  exact lawStep (st_since hF s) ih
theorem tlaw_17 {F : Nat} {xs : Nat → Int32} {L : Nat} {K : Int32 → PH → PH → Option Int32} {x3 : Int32} {h o : PH} (hF : FOK F) (i1 : inb (x3 + (1 : Int32)) L = true) (i2 : inb (x3 + (2 : Int32)) L = true) (i3 : inb (x3 + (3 : Int32)) L = true) (i4 : inb (x3 + (4 : Int32)) L = true) (i5 : inb (x3 + (5 : Int32)) L = true) (s : Sim h o) (ih : ∀ h' o', Sim h' o' → K (x3 + (6 : Int32)) h' o' = some 1) : fc_law_17 F xs L K x3 h o = some 1 := by
  unfold fc_law_17
  simp only [if_pos i1, if_pos i2]
  exact lawStep (st_can hF s) ih
theorem tlaw_18 {F : Nat} {xs : Nat → Int32} {L : Nat} {K : Int32 → PH → PH → Option Int32} {x3 : Int32} {h o : PH} (hF : FOK F) (i1 : inb (x3 + (1 : Int32)) L = true) (i2 : inb (x3 + (2 : Int32)) L = true) (i3 : inb (x3 + (3 : Int32)) L = true) (i4 : inb (x3 + (4 : Int32)) L = true) (i5 : inb (x3 + (5 : Int32)) L = true) (s : Sim h o) (ih : ∀ h' o', Sim h' o' → K (x3 + (6 : Int32)) h' o' = some 1) : fc_law_18 F xs L K x3 h o = some 1 := by
  unfold fc_law_18
  simp only [if_pos i1, if_pos i2]
  exact lawStepL (st_odds hF s) ih
theorem tlaw_19 {F : Nat} {xs : Nat → Int32} {L : Nat} {K : Int32 → PH → PH → Option Int32} {x3 : Int32} {h o : PH} (hF : FOK F) (i1 : inb (x3 + (1 : Int32)) L = true) (i2 : inb (x3 + (2 : Int32)) L = true) (i3 : inb (x3 + (3 : Int32)) L = true) (i4 : inb (x3 + (4 : Int32)) L = true) (i5 : inb (x3 + (5 : Int32)) L = true) (s : Sim h o) (ih : ∀ h' o', Sim h' o' → K (x3 + (6 : Int32)) h' o' = some 1) : fc_law_19 F xs L K x3 h o = some 1 := by
  unfold fc_law_19
  simp only [if_pos i1]
  exact lawStepL (st_mean hF s) ih
theorem tlaw_20 {F : Nat} {xs : Nat → Int32} {L : Nat} {K : Int32 → PH → PH → Option Int32} {x3 : Int32} {h o : PH} (hF : FOK F) (i1 : inb (x3 + (1 : Int32)) L = true) (i2 : inb (x3 + (2 : Int32)) L = true) (i3 : inb (x3 + (3 : Int32)) L = true) (i4 : inb (x3 + (4 : Int32)) L = true) (i5 : inb (x3 + (5 : Int32)) L = true) (s : Sim h o) (ih : ∀ h' o', Sim h' o' → K (x3 + (6 : Int32)) h' o' = some 1) : fc_law_20 F xs L K x3 h o = some 1 := by
  unfold fc_law_20
  simp only [if_pos i1]
  exact lawStep (st_month s) ih
theorem tlaw_21 {F : Nat} {xs : Nat → Int32} {L : Nat} {K : Int32 → PH → PH → Option Int32} {x3 : Int32} {h o : PH} (hF : FOK F) (i1 : inb (x3 + (1 : Int32)) L = true) (i2 : inb (x3 + (2 : Int32)) L = true) (i3 : inb (x3 + (3 : Int32)) L = true) (i4 : inb (x3 + (4 : Int32)) L = true) (i5 : inb (x3 + (5 : Int32)) L = true) (s : Sim h o) (ih : ∀ h' o', Sim h' o' → K (x3 + (6 : Int32)) h' o' = some 1) : fc_law_21 F xs L K x3 h o = some 1 := by
  unfold fc_law_21
  simp only [if_pos i1]
  exact lawStep (st_ends hF s) ih
theorem tlaw_22 {F : Nat} {xs : Nat → Int32} {L : Nat} {K : Int32 → PH → PH → Option Int32} {x3 : Int32} {h o : PH} (hF : FOK F) (i1 : inb (x3 + (1 : Int32)) L = true) (i2 : inb (x3 + (2 : Int32)) L = true) (i3 : inb (x3 + (3 : Int32)) L = true) (i4 : inb (x3 + (4 : Int32)) L = true) (i5 : inb (x3 + (5 : Int32)) L = true) (s : Sim h o) (ih : ∀ h' o', Sim h' o' → K (x3 + (6 : Int32)) h' o' = some 1) : fc_law_22 F xs L K x3 h o = some 1 := by
  unfold fc_law_22
  simp only [if_pos i1, if_pos i2]
  exact lawStep (st_book s) ih
theorem tlaw_23 {F : Nat} {xs : Nat → Int32} {L : Nat} {K : Int32 → PH → PH → Option Int32} {x3 : Int32} {h o : PH} (hF : FOK F) (i1 : inb (x3 + (1 : Int32)) L = true) (i2 : inb (x3 + (2 : Int32)) L = true) (i3 : inb (x3 + (3 : Int32)) L = true) (i4 : inb (x3 + (4 : Int32)) L = true) (i5 : inb (x3 + (5 : Int32)) L = true) (s : Sim h o) (ih : ∀ h' o', Sim h' o' → K (x3 + (6 : Int32)) h' o' = some 1) : fc_law_23 F xs L K x3 h o = some 1 := by
  unfold fc_law_23
  exact lawStep (st_looked hF s) ih
theorem tlaw_24 {F : Nat} {xs : Nat → Int32} {L : Nat} {K : Int32 → PH → PH → Option Int32} {x3 : Int32} {h o : PH} (hF : FOK F) (i1 : inb (x3 + (1 : Int32)) L = true) (i2 : inb (x3 + (2 : Int32)) L = true) (i3 : inb (x3 + (3 : Int32)) L = true) (i4 : inb (x3 + (4 : Int32)) L = true) (i5 : inb (x3 + (5 : Int32)) L = true) (s : Sim h o) (ih : ∀ h' o', Sim h' o' → K (x3 + (6 : Int32)) h' o' = some 1) : fc_law_24 F xs L K x3 h o = some 1 := by
  unfold fc_law_24
  simp only [if_pos i1, if_pos i2]
  exact lawStep (st_judge hF s) ih
theorem tlaw_25 {F : Nat} {xs : Nat → Int32} {L : Nat} {K : Int32 → PH → PH → Option Int32} {x3 : Int32} {h o : PH} (hF : FOK F) (i1 : inb (x3 + (1 : Int32)) L = true) (i2 : inb (x3 + (2 : Int32)) L = true) (i3 : inb (x3 + (3 : Int32)) L = true) (i4 : inb (x3 + (4 : Int32)) L = true) (i5 : inb (x3 + (5 : Int32)) L = true) (s : Sim h o) (ih : ∀ h' o', Sim h' o' → K (x3 + (6 : Int32)) h' o' = some 1) : fc_law_25 F xs L K x3 h o = some 1 := by
  unfold fc_law_25
  exact lawStep (st_image hF s) ih
theorem tlaw_26 {F : Nat} {xs : Nat → Int32} {L : Nat} {K : Int32 → PH → PH → Option Int32} {x3 : Int32} {h o : PH} (hF : FOK F) (i1 : inb (x3 + (1 : Int32)) L = true) (i2 : inb (x3 + (2 : Int32)) L = true) (i3 : inb (x3 + (3 : Int32)) L = true) (i4 : inb (x3 + (4 : Int32)) L = true) (i5 : inb (x3 + (5 : Int32)) L = true) (s : Sim h o) (ih : ∀ h' o', Sim h' o' → K (x3 + (6 : Int32)) h' o' = some 1) : fc_law_26 F xs L K x3 h o = some 1 := by
  unfold fc_law_26
  exact lawStep (st_undo hF s) ih
theorem tlaw_27 {F : Nat} {xs : Nat → Int32} {L : Nat} {K : Int32 → PH → PH → Option Int32} {x3 : Int32} {h o : PH} (hF : FOK F) (i1 : inb (x3 + (1 : Int32)) L = true) (i2 : inb (x3 + (2 : Int32)) L = true) (i3 : inb (x3 + (3 : Int32)) L = true) (i4 : inb (x3 + (4 : Int32)) L = true) (i5 : inb (x3 + (5 : Int32)) L = true) (s : Sim h o) (ih : ∀ h' o', Sim h' o' → K (x3 + (6 : Int32)) h' o' = some 1) : fc_law_27 F xs L K x3 h o = some 1 := by
  unfold fc_law_27
  simp only [if_pos i1, if_pos i2, if_pos i3]
  exact lawStep (st_act hF s) ih
theorem tlaw_28 {F : Nat} {xs : Nat → Int32} {L : Nat} {K : Int32 → PH → PH → Option Int32} {x3 : Int32} {h o : PH} (hF : FOK F) (i1 : inb (x3 + (1 : Int32)) L = true) (i2 : inb (x3 + (2 : Int32)) L = true) (i3 : inb (x3 + (3 : Int32)) L = true) (i4 : inb (x3 + (4 : Int32)) L = true) (i5 : inb (x3 + (5 : Int32)) L = true) (s : Sim h o) (ih : ∀ h' o', Sim h' o' → K (x3 + (6 : Int32)) h' o' = some 1) : fc_law_28 F xs L K x3 h o = some 1 := by
  unfold fc_law_28
  simp only [if_pos i1]
  exact lawStep (st_trace s) ih
theorem tlaw_29 {F : Nat} {xs : Nat → Int32} {L : Nat} {K : Int32 → PH → PH → Option Int32} {x3 : Int32} {h o : PH} (hF : FOK F) (i1 : inb (x3 + (1 : Int32)) L = true) (i2 : inb (x3 + (2 : Int32)) L = true) (i3 : inb (x3 + (3 : Int32)) L = true) (i4 : inb (x3 + (4 : Int32)) L = true) (i5 : inb (x3 + (5 : Int32)) L = true) (s : Sim h o) (ih : ∀ h' o', Sim h' o' → K (x3 + (6 : Int32)) h' o' = some 1) : fc_law_29 F xs L K x3 h o = some 1 := by
  unfold fc_law_29
  simp only [if_pos i1, if_pos i2]
  exact lawStep (st_taken hF s) ih
theorem tlaw_30 {F : Nat} {xs : Nat → Int32} {L : Nat} {K : Int32 → PH → PH → Option Int32} {x3 : Int32} {h o : PH} (hF : FOK F) (i1 : inb (x3 + (1 : Int32)) L = true) (i2 : inb (x3 + (2 : Int32)) L = true) (i3 : inb (x3 + (3 : Int32)) L = true) (i4 : inb (x3 + (4 : Int32)) L = true) (i5 : inb (x3 + (5 : Int32)) L = true) (s : Sim h o) (ih : ∀ h' o', Sim h' o' → K (x3 + (6 : Int32)) h' o' = some 1) : fc_law_30 F xs L K x3 h o = some 1 := by
  unfold fc_law_30
  simp only [if_pos i1]
  exact lawStep (st_count s) ih
theorem tlaw_31 {F : Nat} {xs : Nat → Int32} {L : Nat} {K : Int32 → PH → PH → Option Int32} {x3 : Int32} {h o : PH} (hF : FOK F) (i1 : inb (x3 + (1 : Int32)) L = true) (i2 : inb (x3 + (2 : Int32)) L = true) (i3 : inb (x3 + (3 : Int32)) L = true) (i4 : inb (x3 + (4 : Int32)) L = true) (i5 : inb (x3 + (5 : Int32)) L = true) (s : Sim h o) (ih : ∀ h' o', Sim h' o' → K (x3 + (6 : Int32)) h' o' = some 1) : fc_law_31 F xs L K x3 h o = some 1 := by
  unfold fc_law_31
  simp only [if_pos i1, if_pos i2, if_pos i3]
  exact lawStep (st_tape hF s) ih
theorem tlaw_32 {F : Nat} {xs : Nat → Int32} {L : Nat} {K : Int32 → PH → PH → Option Int32} {x3 : Int32} {h o : PH} (hF : FOK F) (i1 : inb (x3 + (1 : Int32)) L = true) (i2 : inb (x3 + (2 : Int32)) L = true) (i3 : inb (x3 + (3 : Int32)) L = true) (i4 : inb (x3 + (4 : Int32)) L = true) (i5 : inb (x3 + (5 : Int32)) L = true) (s : Sim h o) (ih : ∀ h' o', Sim h' o' → K (x3 + (6 : Int32)) h' o' = some 1) : fc_law_32 F xs L K x3 h o = some 1 := by
  unfold fc_law_32
  simp only [if_pos i1, if_pos i2, if_pos i3, if_pos i4]
  exact lawStep (st_item s) ih
theorem tlaw_33 {F : Nat} {xs : Nat → Int32} {L : Nat} {K : Int32 → PH → PH → Option Int32} {x3 : Int32} {h o : PH} (hF : FOK F) (i1 : inb (x3 + (1 : Int32)) L = true) (i2 : inb (x3 + (2 : Int32)) L = true) (i3 : inb (x3 + (3 : Int32)) L = true) (i4 : inb (x3 + (4 : Int32)) L = true) (i5 : inb (x3 + (5 : Int32)) L = true) (s : Sim h o) (ih : ∀ h' o', Sim h' o' → K (x3 + (6 : Int32)) h' o' = some 1) : fc_law_33 F xs L K x3 h o = some 1 := by
  unfold fc_law_33
  simp only [if_pos i1, if_pos i2]
  exact lawStepL (st_read s) ih
theorem tlaw_34 {F : Nat} {xs : Nat → Int32} {L : Nat} {K : Int32 → PH → PH → Option Int32} {x3 : Int32} {h o : PH} (hF : FOK F) (i1 : inb (x3 + (1 : Int32)) L = true) (i2 : inb (x3 + (2 : Int32)) L = true) (i3 : inb (x3 + (3 : Int32)) L = true) (i4 : inb (x3 + (4 : Int32)) L = true) (i5 : inb (x3 + (5 : Int32)) L = true) (s : Sim h o) (ih : ∀ h' o', Sim h' o' → K (x3 + (6 : Int32)) h' o' = some 1) : fc_law_34 F xs L K x3 h o = some 1 := by
  unfold fc_law_34
  simp only [if_pos i1, if_pos i2, if_pos i3, if_pos i4, if_pos i5]
  exact lawStep (st_shift hF s) ih
theorem lawS {F L : Nat} {xs : Nat → Int32} (hF : FOK F) (hL : L ≤ 3072) : ∀ (f k : Nat) (h o : PH), Sim h o → k ≤ L → L < k + 6 * f → fL_law F xs L f (nI k) h o = some 1 := by
  intro f
  induction f with
  | zero => intro k h o s h1 h2; omega
  | succ f ih =>
    intro k h o s h1 h2
    have e6 : (nI L - (6 : Int32)).toInt = (L : Int) - 6 := by
      rw [Int32.toInt_sub, nI_toInt (by omega), show (6 : Int32).toInt = 6 by decide]
      exact Int.bmod_eq_of_le (by omega) (by omega)
    rw [fL_law, show Int32.ofNat L = nI L from rfl]
    by_cases hk : L < k + 6
    · rw [if_pos (show nI L - (6 : Int32) < nI k from by rw [Int32.lt_iff_toInt_lt, e6, nI_toInt (by omega)]; omega)]
    · rw [if_neg (show ¬ nI L - (6 : Int32) < nI k from fun z => by
        have := Int32.lt_iff_toInt_lt.mp z
        rw [e6, nI_toInt (by omega)] at this
        omega), if_pos (inb_nI (show k < L by omega) (by omega))]
      have i1 : inb (nI k + (1 : Int32)) L = true := by rw [li1, nI_add]; exact inb_nI (by omega) (by omega)
      have i2 : inb (nI k + (2 : Int32)) L = true := by rw [show (2 : Int32) = nI 2 from rfl, nI_add]; exact inb_nI (by omega) (by omega)
      have i3 : inb (nI k + (3 : Int32)) L = true := by rw [show (3 : Int32) = nI 3 from rfl, nI_add]; exact inb_nI (by omega) (by omega)
      have i4 : inb (nI k + (4 : Int32)) L = true := by rw [show (4 : Int32) = nI 4 from rfl, nI_add]; exact inb_nI (by omega) (by omega)
      have i5 : inb (nI k + (5 : Int32)) L = true := by rw [show (5 : Int32) = nI 5 from rfl, nI_add]; exact inb_nI (by omega) (by omega)
      have next : ∀ h' o', Sim h' o' → fL_law F xs L f (nI k + (6 : Int32)) h' o' = some 1 := fun h' o' s' => by
        rw [show (6 : Int32) = nI 6 from rfl, nI_add]
        exact ih (k + 6) h' o' s' (by omega) (by omega)
      refine ite1 (tlaw_0 hF i1 i2 i3 i4 i5 s next) ?_
      refine ite1 (tlaw_1 hF i1 i2 i3 i4 i5 s next) ?_
      refine ite1 (tlaw_2 hF i1 i2 i3 i4 i5 s next) ?_
      refine ite1 (tlaw_3 hF i1 i2 i3 i4 i5 s next) ?_
      refine ite1 (tlaw_4 hF i1 i2 i3 i4 i5 s next) ?_
      refine ite1 (tlaw_5 hF i1 i2 i3 i4 i5 s next) ?_
      refine ite1 (tlaw_6 hF i1 i2 i3 i4 i5 s next) ?_
      refine ite1 (tlaw_7 hF i1 i2 i3 i4 i5 s next) ?_
      refine ite1 (tlaw_8 hF i1 i2 i3 i4 i5 s next) ?_
      refine ite1 (tlaw_9 hF i1 i2 i3 i4 i5 s next) ?_
      refine ite1 (tlaw_10 hF i1 i2 i3 i4 i5 s next) ?_
      refine ite1 (tlaw_11 hF i1 i2 i3 i4 i5 s next) ?_
      refine ite1 (tlaw_12 hF i1 i2 i3 i4 i5 s next) ?_
      refine ite1 (tlaw_13 hF i1 i2 i3 i4 i5 s next) ?_
      refine ite1 (tlaw_14 hF i1 i2 i3 i4 i5 s next) ?_
      refine ite1 (tlaw_15 hF i1 i2 i3 i4 i5 s next) ?_
      refine ite1 (tlaw_16 hF i1 i2 i3 i4 i5 s next) ?_
      refine ite1 (tlaw_17 hF i1 i2 i3 i4 i5 s next) ?_
      refine ite1 (tlaw_18 hF i1 i2 i3 i4 i5 s next) ?_
      refine ite1 (tlaw_19 hF i1 i2 i3 i4 i5 s next) ?_
      refine ite1 (tlaw_20 hF i1 i2 i3 i4 i5 s next) ?_
      refine ite1 (tlaw_21 hF i1 i2 i3 i4 i5 s next) ?_
      refine ite1 (tlaw_22 hF i1 i2 i3 i4 i5 s next) ?_
      refine ite1 (tlaw_23 hF i1 i2 i3 i4 i5 s next) ?_
      refine ite1 (tlaw_24 hF i1 i2 i3 i4 i5 s next) ?_
      refine ite1 (tlaw_25 hF i1 i2 i3 i4 i5 s next) ?_
      refine ite1 (tlaw_26 hF i1 i2 i3 i4 i5 s next) ?_
      refine ite1 (tlaw_27 hF i1 i2 i3 i4 i5 s next) ?_
      refine ite1 (tlaw_28 hF i1 i2 i3 i4 i5 s next) ?_
      refine ite1 (tlaw_29 hF i1 i2 i3 i4 i5 s next) ?_
      refine ite1 (tlaw_30 hF i1 i2 i3 i4 i5 s next) ?_
      refine ite1 (tlaw_31 hF i1 i2 i3 i4 i5 s next) ?_
      refine ite1 (tlaw_32 hF i1 i2 i3 i4 i5 s next) ?_
      refine ite1 (tlaw_33 hF i1 i2 i3 i4 i5 s next) ?_
      refine ite1 (tlaw_34 hF i1 i2 i3 i4 i5 s next) ?_
      exact next h o s
