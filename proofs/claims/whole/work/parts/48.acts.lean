-- acts
def ActR (h o : PH) (r : Nat) : Prop := h.1 63 1 = nI r ∧ o.1 102 60 = nI r ∧ ∀ i, i < r → i < 20 → h.1 64 i = o.1 138 i
def FrAC (h h' : PH) : Prop := (∀ a, a ≠ 63 → a ≠ 64 → h'.1 a = h.1 a) ∧ (∀ i, i ≠ 1 → h'.1 63 i = h.1 63 i) ∧ h'.2 = h.2
def FrAM (o o' : PH) : Prop := (∀ a, a ≠ 102 → a ≠ 138 → o'.1 a = o.1 a) ∧ (∀ i, i ≠ 60 → o'.1 102 i = o.1 102 i) ∧ o'.2 = o.2
theorem FrAC.trans {h h1 h2 : PH} (a : FrAC h h1) (b : FrAC h1 h2) : FrAC h h2 := ⟨fun x u v => (b.1 x u v).trans (a.1 x u v), fun i u => (b.2.1 i u).trans (a.2.1 i u), b.2.2.trans a.2.2⟩
theorem FrAM.trans {h h1 h2 : PH} (a : FrAM h h1) (b : FrAM h1 h2) : FrAM h h2 := ⟨fun x u v => (b.1 x u v).trans (a.1 x u v), fun i u => (b.2.1 i u).trans (a.2.1 i u), b.2.2.trans a.2.2⟩
theorem notes {F r : Nat} {h o : PH} (b : Int32) (a : ActR h o r) (hr : r < 2 ^ 20) : ∃ h' o', f_X0_note F b h = some ((), h') ∧ f_X10_body F b o = some ((), o') ∧ FrAC h h' ∧ FrAM o o' ∧ ActR h' o' (r + 1) := by
  obtain ⟨a1, a2, a3⟩ := a
  unfold f_X0_note f_X10_body
  rw [a1, a2, show (20 : Int32) = nI 20 from rfl, if_l (by decide) (by omega), if_l (by decide) (by omega), nI_1]
  by_cases h20 : 20 ≤ r
  · rw [if_pos h20, if_pos h20, lth_eq, lth_eq]
    refine ⟨_, _, rfl, rfl, ⟨fun a u _ => rI_ne u, fun i u => rI_sl u, rfl⟩, ⟨fun a u _ => rI_ne u, fun i u => rI_sl u, rfl⟩, rI_eq _ _ _ _, rI_eq _ _ _ _, fun i hi hi2 => ?_⟩
    rw [rI_ne (by decide), rI_ne (by decide)]
    exact a3 i (by omega) hi2
  · rw [if_neg h20, if_neg h20, if_pos (inb_nI (by omega) (by decide)), if_pos (inb_nI (by omega) (by decide)), lth_eq, lth_eq, lth_eq, lth_eq, rI_ne (show (63 : Nat) ≠ 64 by decide), rI_ne (show (102 : Nat) ≠ 138 by decide), a1, a2, nI_1, ix_nI (by omega)]
    refine ⟨_, _, rfl, rfl, ⟨fun a u v => by rw [rI_ne u, rI_ne v], fun i u => by rw [rI_sl u, rI_ne (by decide)], rfl⟩, ⟨fun a u v => by rw [rI_ne u, rI_ne v], fun i u => by rw [rI_sl u, rI_ne (by decide)], rfl⟩, rI_eq _ _ _ _, rI_eq _ _ _ _, fun i hi hi2 => ?_⟩
    rw [rI_ne (show (64 : Nat) ≠ 63 by decide), rI_ne (show (138 : Nat) ≠ 102 by decide), rI, rI]
    by_cases hir : i = r
    · rw [if_pos ⟨rfl, hir⟩, if_pos ⟨rfl, hir⟩]
    · rw [if_neg (fun q => hir q.2), if_neg (fun q => hir q.2)]
      exact a3 i (by omega) hi2
theorem bnd_eta {A : Type} {q : Option (A × PH)} : (bnd q fun v h => some (v, h)) = q := by
  cases q with
  | none => rfl
  | some x => rfl

theorem bf_0_0 {F : Nat} {h : PH} (hF : 10 ≤ F) : f_X0_bodyFrom F (0 : Int32) (0 : Int32) h = some ((10 : Int32), h) := by
  obtain ⟨f, rfl⟩ : ∃ m, F = m + 10 := ⟨F - 10, by omega⟩
  rfl
theorem bf_0_1 {F : Nat} {h : PH} (hF : 10 ≤ F) : f_X0_bodyFrom F (0 : Int32) (1 : Int32) h = some ((11 : Int32), h) := by
  obtain ⟨f, rfl⟩ : ∃ m, F = m + 10 := ⟨F - 10, by omega⟩
  rfl
theorem bf_0_2 {F : Nat} {h : PH} (hF : 10 ≤ F) : f_X0_bodyFrom F (0 : Int32) (2 : Int32) h = some ((12 : Int32), h) := by
  obtain ⟨f, rfl⟩ : ∃ m, F = m + 10 := ⟨F - 10, by omega⟩
  rfl
theorem bf_1_0 {F : Nat} {h : PH} (hF : 10 ≤ F) : f_X0_bodyFrom F (1 : Int32) (0 : Int32) h = some ((10 : Int32), h) := by
  obtain ⟨f, rfl⟩ : ∃ m, F = m + 10 := ⟨F - 10, by omega⟩
  rfl
theorem bf_1_1 {F : Nat} {h : PH} (hF : 10 ≤ F) : f_X0_bodyFrom F (1 : Int32) (1 : Int32) h = some ((20 : Int32), h) := by
  obtain ⟨f, rfl⟩ : ∃ m, F = m + 10 := ⟨F - 10, by omega⟩
  rfl
theorem bf_1_2 {F : Nat} {h : PH} (hF : 10 ≤ F) : f_X0_bodyFrom F (1 : Int32) (2 : Int32) h = some ((12 : Int32), h) := by
  obtain ⟨f, rfl⟩ : ∃ m, F = m + 10 := ⟨F - 10, by omega⟩
  rfl
theorem bf_2_0 {F : Nat} {h : PH} (hF : 10 ≤ F) : f_X0_bodyFrom F (2 : Int32) (0 : Int32) h = some ((30 : Int32), h) := by
  obtain ⟨f, rfl⟩ : ∃ m, F = m + 10 := ⟨F - 10, by omega⟩
  rfl
theorem bf_2_1 {F : Nat} {h : PH} (hF : 10 ≤ F) : f_X0_bodyFrom F (2 : Int32) (1 : Int32) h = some ((11 : Int32), h) := by
  obtain ⟨f, rfl⟩ : ∃ m, F = m + 10 := ⟨F - 10, by omega⟩
  rfl
theorem bf_2_2 {F : Nat} {h : PH} (hF : 10 ≤ F) : f_X0_bodyFrom F (2 : Int32) (2 : Int32) h = some ((12 : Int32), h) := by
  obtain ⟨f, rfl⟩ : ∃ m, F = m + 10 := ⟨F - 10, by omega⟩
  rfl
theorem bf_3_0 {F : Nat} {h : PH} (hF : 10 ≤ F) : f_X0_bodyFrom F (3 : Int32) (0 : Int32) h = some ((10 : Int32), h) := by
  obtain ⟨f, rfl⟩ : ∃ m, F = m + 10 := ⟨F - 10, by omega⟩
  rfl
theorem bf_3_1 {F : Nat} {h : PH} (hF : 10 ≤ F) : f_X0_bodyFrom F (3 : Int32) (1 : Int32) h = some ((11 : Int32), h) := by
  obtain ⟨f, rfl⟩ : ∃ m, F = m + 10 := ⟨F - 10, by omega⟩
  rfl
theorem bf_3_2 {F : Nat} {h : PH} (hF : 10 ≤ F) : f_X0_bodyFrom F (3 : Int32) (2 : Int32) h = some ((40 : Int32), h) := by
  obtain ⟨f, rfl⟩ : ∃ m, F = m + 10 := ⟨F - 10, by omega⟩
  rfl
theorem bf_4_0 {F : Nat} {h : PH} (hF : 10 ≤ F) : f_X0_bodyFrom F (4 : Int32) (0 : Int32) h = some ((50 : Int32), h) := by
  obtain ⟨f, rfl⟩ : ∃ m, F = m + 10 := ⟨F - 10, by omega⟩
  rfl
theorem bf_4_1 {F : Nat} {h : PH} (hF : 10 ≤ F) : f_X0_bodyFrom F (4 : Int32) (1 : Int32) h = some ((51 : Int32), h) := by
  obtain ⟨f, rfl⟩ : ∃ m, F = m + 10 := ⟨F - 10, by omega⟩
  rfl
theorem bf_4_2 {F : Nat} {h : PH} (hF : 10 ≤ F) : f_X0_bodyFrom F (4 : Int32) (2 : Int32) h = some ((12 : Int32), h) := by
  obtain ⟨f, rfl⟩ : ∃ m, F = m + 10 := ⟨F - 10, by omega⟩
  rfl
theorem bf_5_0 {F : Nat} {h : PH} (hF : 10 ≤ F) : f_X0_bodyFrom F (5 : Int32) (0 : Int32) h = some ((30 : Int32), h) := by
  obtain ⟨f, rfl⟩ : ∃ m, F = m + 10 := ⟨F - 10, by omega⟩
  rfl
theorem bf_5_1 {F : Nat} {h : PH} (hF : 10 ≤ F) : f_X0_bodyFrom F (5 : Int32) (1 : Int32) h = some ((11 : Int32), h) := by
  obtain ⟨f, rfl⟩ : ∃ m, F = m + 10 := ⟨F - 10, by omega⟩
  rfl
theorem bf_5_2 {F : Nat} {h : PH} (hF : 10 ≤ F) : f_X0_bodyFrom F (5 : Int32) (2 : Int32) h = some ((60 : Int32), h) := by
  obtain ⟨f, rfl⟩ : ∃ m, F = m + 10 := ⟨F - 10, by omega⟩
  rfl
theorem bf_6_0 {F : Nat} {h : PH} (hF : 10 ≤ F) : f_X0_bodyFrom F (6 : Int32) (0 : Int32) h = some ((71 : Int32), h) := by
  obtain ⟨f, rfl⟩ : ∃ m, F = m + 10 := ⟨F - 10, by omega⟩
  rfl
theorem bf_6_1 {F : Nat} {h : PH} (hF : 10 ≤ F) : f_X0_bodyFrom F (6 : Int32) (1 : Int32) h = some ((70 : Int32), h) := by
  obtain ⟨f, rfl⟩ : ∃ m, F = m + 10 := ⟨F - 10, by omega⟩
  rfl
theorem bf_6_2 {F : Nat} {h : PH} (hF : 10 ≤ F) : f_X0_bodyFrom F (6 : Int32) (2 : Int32) h = some ((40 : Int32), h) := by
  obtain ⟨f, rfl⟩ : ∃ m, F = m + 10 := ⟨F - 10, by omega⟩
  rfl
theorem sw_10 {F d dp : Nat} {fr act x : Int32} {h h4 : PH} (hb : f_X0_bodyFrom F fr act h = some ((10 : Int32), h)) (hd : dp < 40) (hn : f_X0_note F (10 : Int32) h = some ((), h4)) : f_X0_run F (d + 1) fr act x (nI dp) h = (some (x + (h4.1 63 2), h4)) := by
  show b_X0_run F (f_X0_run F d) fr act x (nI dp) h = _
  unfold b_X0_run
  rw [hb, bnd_some, if_neg (show ¬ (10 : Int32) = 0 by decide), if_pos (show nI dp < (40 : Int32) by rw [show (40 : Int32) = nI 40 from rfl]; exact (nI_ltI (by omega) (by decide)).mpr hd), hn, bnd_some, if_neg (show ¬ (10 : Int32) = 0 by decide), if_pos (show inb ((10 : Int32) / (10 : Int32) - (1 : Int32)) 7 = true by decide), if_pos (show (10 : Int32) = (10 : Int32) from rfl)]
theorem sw_11 {F d dp : Nat} {fr act x : Int32} {h h4 : PH} (hb : f_X0_bodyFrom F fr act h = some ((11 : Int32), h)) (hd : dp < 40) (hn : f_X0_note F (11 : Int32) h = some ((), h4)) : f_X0_run F (d + 1) fr act x (nI dp) h = (bnd (f_X0_run F d (h4.1 63 3) (0 : Int32) x (nI (dp + 1)) h4) fun v6 h6 => some (v6 - (h6.1 63 4), h6)) := by
  show b_X0_run F (f_X0_run F d) fr act x (nI dp) h = _
  unfold b_X0_run
  rw [hb, bnd_some, if_neg (show ¬ (11 : Int32) = 0 by decide), if_pos (show nI dp < (40 : Int32) by rw [show (40 : Int32) = nI 40 from rfl]; exact (nI_ltI (by omega) (by decide)).mpr hd), hn, bnd_some, if_neg (show ¬ (10 : Int32) = 0 by decide), if_pos (show inb ((11 : Int32) / (10 : Int32) - (1 : Int32)) 7 = true by decide), if_neg (show ¬ (11 : Int32) = (10 : Int32) by decide), if_pos (show (11 : Int32) = (11 : Int32) from rfl), nI_1]
theorem sw_12 {F d dp : Nat} {fr act x : Int32} {h h4 : PH} (hb : f_X0_bodyFrom F fr act h = some ((12 : Int32), h)) (hd : dp < 40) (hn : f_X0_note F (12 : Int32) h = some ((), h4)) : f_X0_run F (d + 1) fr act x (nI dp) h = (bnd (f_X0_run F d (h4.1 63 3) (1 : Int32) x (nI (dp + 1)) h4) fun v6 h6 => some (v6 * (2 : Int32), h6)) := by
  show b_X0_run F (f_X0_run F d) fr act x (nI dp) h = _
  unfold b_X0_run
  rw [hb, bnd_some, if_neg (show ¬ (12 : Int32) = 0 by decide), if_pos (show nI dp < (40 : Int32) by rw [show (40 : Int32) = nI 40 from rfl]; exact (nI_ltI (by omega) (by decide)).mpr hd), hn, bnd_some, if_neg (show ¬ (10 : Int32) = 0 by decide), if_pos (show inb ((12 : Int32) / (10 : Int32) - (1 : Int32)) 7 = true by decide), if_neg (show ¬ (12 : Int32) = (10 : Int32) by decide), if_neg (show ¬ (12 : Int32) = (11 : Int32) by decide), if_pos (show (12 : Int32) = (12 : Int32) from rfl), nI_1]
theorem sw_20 {F d dp : Nat} {fr act x : Int32} {h h4 : PH} (hb : f_X0_bodyFrom F fr act h = some ((20 : Int32), h)) (hd : dp < 40) (hn : f_X0_note F (20 : Int32) h = some ((), h4)) : f_X0_run F (d + 1) fr act x (nI dp) h = (bnd (f_X0_run F d (0 : Int32) (1 : Int32) x (nI (dp + 1)) h4) fun v6 h6 => some (v6 ^^^ (6 : Int32), h6)) := by
  show b_X0_run F (f_X0_run F d) fr act x (nI dp) h = _
  unfold b_X0_run
  rw [hb, bnd_some, if_neg (show ¬ (20 : Int32) = 0 by decide), if_pos (show nI dp < (40 : Int32) by rw [show (40 : Int32) = nI 40 from rfl]; exact (nI_ltI (by omega) (by decide)).mpr hd), hn, bnd_some, if_neg (show ¬ (10 : Int32) = 0 by decide), if_pos (show inb ((20 : Int32) / (10 : Int32) - (1 : Int32)) 7 = true by decide), if_neg (show ¬ (20 : Int32) = (10 : Int32) by decide), if_neg (show ¬ (20 : Int32) = (11 : Int32) by decide), if_neg (show ¬ (20 : Int32) = (12 : Int32) by decide), if_pos (show (20 : Int32) = (20 : Int32) from rfl), nI_1]
  rfl
theorem sw_30 {F d dp : Nat} {fr act x : Int32} {h h4 : PH} (hb : f_X0_bodyFrom F fr act h = some ((30 : Int32), h)) (hd : dp < 40) (hn : f_X0_note F (30 : Int32) h = some ((), h4)) : f_X0_run F (d + 1) fr act x (nI dp) h = (bnd (f_X0_run F d (0 : Int32) (0 : Int32) (x * (3 : Int32)) (nI (dp + 1)) h4) fun v6 h6 => some (v6, h6)) := by
  show b_X0_run F (f_X0_run F d) fr act x (nI dp) h = _
  unfold b_X0_run
  rw [hb, bnd_some, if_neg (show ¬ (30 : Int32) = 0 by decide), if_pos (show nI dp < (40 : Int32) by rw [show (40 : Int32) = nI 40 from rfl]; exact (nI_ltI (by omega) (by decide)).mpr hd), hn, bnd_some, if_neg (show ¬ (10 : Int32) = 0 by decide), if_pos (show inb ((30 : Int32) / (10 : Int32) - (1 : Int32)) 7 = true by decide), if_neg (show ¬ (30 : Int32) = (10 : Int32) by decide), if_neg (show ¬ (30 : Int32) = (11 : Int32) by decide), if_neg (show ¬ (30 : Int32) = (12 : Int32) by decide), if_neg (show ¬ (30 : Int32) = (20 : Int32) by decide), if_pos (show (30 : Int32) = (30 : Int32) from rfl), nI_1]
  rfl
theorem sw_40 {F d dp : Nat} {fr act x : Int32} {h h4 : PH} (hb : f_X0_bodyFrom F fr act h = some ((40 : Int32), h)) (hd : dp < 40) (hn : f_X0_note F (40 : Int32) h = some ((), h4)) : f_X0_run F (d + 1) fr act x (nI dp) h = (bnd (f_X0_run F d (0 : Int32) (2 : Int32) x (nI (dp + 1)) h4) fun v6 h6 => bnd (f_X0_run F d (h6.1 63 3) (1 : Int32) (1 : Int32) (nI (dp + 1)) h6) fun v7 h7 => some (v6 + v7, h7)) := by
  show b_X0_run F (f_X0_run F d) fr act x (nI dp) h = _
  unfold b_X0_run
  rw [hb, bnd_some, if_neg (show ¬ (40 : Int32) = 0 by decide), if_pos (show nI dp < (40 : Int32) by rw [show (40 : Int32) = nI 40 from rfl]; exact (nI_ltI (by omega) (by decide)).mpr hd), hn, bnd_some, if_neg (show ¬ (10 : Int32) = 0 by decide), if_pos (show inb ((40 : Int32) / (10 : Int32) - (1 : Int32)) 7 = true by decide), if_neg (show ¬ (40 : Int32) = (10 : Int32) by decide), if_neg (show ¬ (40 : Int32) = (11 : Int32) by decide), if_neg (show ¬ (40 : Int32) = (12 : Int32) by decide), if_neg (show ¬ (40 : Int32) = (20 : Int32) by decide), if_neg (show ¬ (40 : Int32) = (30 : Int32) by decide), if_pos (show (40 : Int32) = (40 : Int32) from rfl), nI_1]
  rfl
theorem sw_50 {F d dp : Nat} {fr act x : Int32} {h h4 : PH} (hb : f_X0_bodyFrom F fr act h = some ((50 : Int32), h)) (hd : dp < 40) (hn : f_X0_note F (50 : Int32) h = some ((), h4)) : f_X0_run F (d + 1) fr act x (nI dp) h = (bnd (f_X0_run F d (1 : Int32) (0 : Int32) x (nI (dp + 1)) h4) fun v6 h6 => some (-v6, h6)) := by
  show b_X0_run F (f_X0_run F d) fr act x (nI dp) h = _
  unfold b_X0_run
  rw [hb, bnd_some, if_neg (show ¬ (50 : Int32) = 0 by decide), if_pos (show nI dp < (40 : Int32) by rw [show (40 : Int32) = nI 40 from rfl]; exact (nI_ltI (by omega) (by decide)).mpr hd), hn, bnd_some, if_neg (show ¬ (10 : Int32) = 0 by decide), if_pos (show inb ((50 : Int32) / (10 : Int32) - (1 : Int32)) 7 = true by decide), if_neg (show ¬ (50 : Int32) = (10 : Int32) by decide), if_neg (show ¬ (50 : Int32) = (11 : Int32) by decide), if_neg (show ¬ (50 : Int32) = (12 : Int32) by decide), if_neg (show ¬ (50 : Int32) = (20 : Int32) by decide), if_neg (show ¬ (50 : Int32) = (30 : Int32) by decide), if_neg (show ¬ (50 : Int32) = (40 : Int32) by decide), if_pos (show (50 : Int32) = (50 : Int32) from rfl), nI_1]
  rfl
theorem sw_51 {F d dp : Nat} {fr act x : Int32} {h h4 : PH} (hb : f_X0_bodyFrom F fr act h = some ((51 : Int32), h)) (hd : dp < 40) (hn : f_X0_note F (51 : Int32) h = some ((), h4)) : f_X0_run F (d + 1) fr act x (nI dp) h = (bnd (f_X0_run F d (1 : Int32) (1 : Int32) (x + (1 : Int32)) (nI (dp + 1)) h4) fun v6 h6 => some (v6, h6)) := by
  show b_X0_run F (f_X0_run F d) fr act x (nI dp) h = _
  unfold b_X0_run
  rw [hb, bnd_some, if_neg (show ¬ (51 : Int32) = 0 by decide), if_pos (show nI dp < (40 : Int32) by rw [show (40 : Int32) = nI 40 from rfl]; exact (nI_ltI (by omega) (by decide)).mpr hd), hn, bnd_some, if_neg (show ¬ (10 : Int32) = 0 by decide), if_pos (show inb ((51 : Int32) / (10 : Int32) - (1 : Int32)) 7 = true by decide), if_neg (show ¬ (51 : Int32) = (10 : Int32) by decide), if_neg (show ¬ (51 : Int32) = (11 : Int32) by decide), if_neg (show ¬ (51 : Int32) = (12 : Int32) by decide), if_neg (show ¬ (51 : Int32) = (20 : Int32) by decide), if_neg (show ¬ (51 : Int32) = (30 : Int32) by decide), if_neg (show ¬ (51 : Int32) = (40 : Int32) by decide), if_neg (show ¬ (51 : Int32) = (50 : Int32) by decide), if_pos (show (51 : Int32) = (51 : Int32) from rfl), nI_1]
  rfl
theorem sw_60 {F d dp : Nat} {fr act x : Int32} {h h4 : PH} (hb : f_X0_bodyFrom F fr act h = some ((60 : Int32), h)) (hd : dp < 40) (hn : f_X0_note F (60 : Int32) h = some ((), h4)) : f_X0_run F (d + 1) fr act x (nI dp) h = (bnd (f_X0_run F d (2 : Int32) (2 : Int32) (x - (h4.1 63 2)) (nI (dp + 1)) h4) fun v6 h6 => some (v6, h6)) := by
  show b_X0_run F (f_X0_run F d) fr act x (nI dp) h = _
  unfold b_X0_run
  rw [hb, bnd_some, if_neg (show ¬ (60 : Int32) = 0 by decide), if_pos (show nI dp < (40 : Int32) by rw [show (40 : Int32) = nI 40 from rfl]; exact (nI_ltI (by omega) (by decide)).mpr hd), hn, bnd_some, if_neg (show ¬ (10 : Int32) = 0 by decide), if_pos (show inb ((60 : Int32) / (10 : Int32) - (1 : Int32)) 7 = true by decide), if_neg (show ¬ (60 : Int32) = (10 : Int32) by decide), if_neg (show ¬ (60 : Int32) = (11 : Int32) by decide), if_neg (show ¬ (60 : Int32) = (12 : Int32) by decide), if_neg (show ¬ (60 : Int32) = (20 : Int32) by decide), if_neg (show ¬ (60 : Int32) = (30 : Int32) by decide), if_neg (show ¬ (60 : Int32) = (40 : Int32) by decide), if_neg (show ¬ (60 : Int32) = (50 : Int32) by decide), if_neg (show ¬ (60 : Int32) = (51 : Int32) by decide), if_pos (show (60 : Int32) = (60 : Int32) from rfl), nI_1]
  rfl
theorem sw_70 {F d dp : Nat} {fr act x : Int32} {h h4 : PH} (hb : f_X0_bodyFrom F fr act h = some ((70 : Int32), h)) (hd : dp < 40) (hn : f_X0_note F (70 : Int32) h = some ((), h4)) : f_X0_run F (d + 1) fr act x (nI dp) h = (bnd (f_X0_run F d (3 : Int32) (1 : Int32) x (nI (dp + 1)) h4) fun v6 h6 => bnd (f_X0_run F d (3 : Int32) (0 : Int32) (2 : Int32) (nI (dp + 1)) h6) fun v7 h7 => some (v6 + v7, h7)) := by
  show b_X0_run F (f_X0_run F d) fr act x (nI dp) h = _
  unfold b_X0_run
  rw [hb, bnd_some, if_neg (show ¬ (70 : Int32) = 0 by decide), if_pos (show nI dp < (40 : Int32) by rw [show (40 : Int32) = nI 40 from rfl]; exact (nI_ltI (by omega) (by decide)).mpr hd), hn, bnd_some, if_neg (show ¬ (10 : Int32) = 0 by decide), if_pos (show inb ((70 : Int32) / (10 : Int32) - (1 : Int32)) 7 = true by decide), if_neg (show ¬ (70 : Int32) = (10 : Int32) by decide), if_neg (show ¬ (70 : Int32) = (11 : Int32) by decide), if_neg (show ¬ (70 : Int32) = (12 : Int32) by decide), if_neg (show ¬ (70 : Int32) = (20 : Int32) by decide), if_neg (show ¬ (70 : Int32) = (30 : Int32) by decide), if_neg (show ¬ (70 : Int32) = (40 : Int32) by decide), if_neg (show ¬ (70 : Int32) = (50 : Int32) by decide), if_neg (show ¬ (70 : Int32) = (51 : Int32) by decide), if_neg (show ¬ (70 : Int32) = (60 : Int32) by decide), if_pos (show (70 : Int32) = (70 : Int32) from rfl), nI_1]
  rfl
theorem sw_71 {F d dp : Nat} {fr act x : Int32} {h h4 : PH} (hb : f_X0_bodyFrom F fr act h = some ((71 : Int32), h)) (hd : dp < 40) (hn : f_X0_note F (71 : Int32) h = some ((), h4)) : f_X0_run F (d + 1) fr act x (nI dp) h = (bnd (f_X0_run F d (3 : Int32) (0 : Int32) x (nI (dp + 1)) h4) fun v6 h6 => some (v6 ^^^ (h6.1 63 4), h6)) := by
  show b_X0_run F (f_X0_run F d) fr act x (nI dp) h = _
  unfold b_X0_run
  rw [hb, bnd_some, if_neg (show ¬ (71 : Int32) = 0 by decide), if_pos (show nI dp < (40 : Int32) by rw [show (40 : Int32) = nI 40 from rfl]; exact (nI_ltI (by omega) (by decide)).mpr hd), hn, bnd_some, if_neg (show ¬ (10 : Int32) = 0 by decide), if_pos (show inb ((71 : Int32) / (10 : Int32) - (1 : Int32)) 7 = true by decide), if_neg (show ¬ (71 : Int32) = (10 : Int32) by decide), if_neg (show ¬ (71 : Int32) = (11 : Int32) by decide), if_neg (show ¬ (71 : Int32) = (12 : Int32) by decide), if_neg (show ¬ (71 : Int32) = (20 : Int32) by decide), if_neg (show ¬ (71 : Int32) = (30 : Int32) by decide), if_neg (show ¬ (71 : Int32) = (40 : Int32) by decide), if_neg (show ¬ (71 : Int32) = (50 : Int32) by decide), if_neg (show ¬ (71 : Int32) = (51 : Int32) by decide), if_neg (show ¬ (71 : Int32) = (60 : Int32) by decide), if_neg (show ¬ (71 : Int32) = (70 : Int32) by decide), if_pos (show (71 : Int32) = (71 : Int32) from rfl), nI_1]
  rfl
def CtxC (i k v : Nat) (h : PH) : Prop := h.1 63 2 = nI i ∧ h.1 63 3 = nI k ∧ h.1 63 4 = nI v
def CtxM (i k v : Nat) (o : PH) : Prop := o.1 103 i = nI k ∧ o.1 104 i = nI v
theorem CtxC.fr {i k v : Nat} {h h' : PH} (a : FrAC h h') (c : CtxC i k v h) : CtxC i k v h' := by
  unfold CtxC at c ⊢
  rw [a.2.1 2 (by decide), a.2.1 3 (by decide), a.2.1 4 (by decide)]; exact c
theorem CtxM.fr {i k v : Nat} {o o' : PH} (b : FrAM o o') (c : CtxM i k v o) : CtxM i k v o' := by
  unfold CtxM at c ⊢
  rw [b.1 103 (by decide) (by decide), b.1 104 (by decide) (by decide)]; exact c
def JJ (i k v n : Nat) (C M : PH → Option (Int32 × PH)) : Prop := ∀ (h o : PH) (r : Nat), CtxC i k v h → CtxM i k v o → ActR h o r → r + n ≤ 40 → ∃ z h' o' r', C h = some (z, h') ∧ M o = some (z, o') ∧ FrAC h h' ∧ FrAM o o' ∧ ActR h' o' r' ∧ r' ≤ r + n
theorem JJ.le {i k v n m : Nat} {C M : PH → Option (Int32 × PH)} (hn : n ≤ m) (j : JJ i k v n C M) : JJ i k v m C M := by
  intro h o r c d a hr
  obtain ⟨z, h', o', r', j1, j2, j3, j4, j5, j6⟩ := j h o r c d a (by omega)
  exact ⟨z, h', o', r', j1, j2, j3, j4, j5, by omega⟩
theorem JJ.of {i k v n : Nat} {C M M' : PH → Option (Int32 × PH)} (hM : ∀ o, CtxM i k v o → M' o = M o) (j : JJ i k v n C M) : JJ i k v n C M' := by
  intro h o r c d a hr
  rw [hM o d]
  exact j h o r c d a hr
theorem JJ.ret {i k v F : Nat} {C M : PH → Option (Int32 × PH)} (b z : Int32)
    (hC : ∀ h h4, CtxC i k v h → CtxC i k v h4 → f_X0_note F b h = some ((), h4) → C h = some (z, h4)) (hM : ∀ o o4, CtxM i k v o → CtxM i k v o4 → f_X10_body F b o = some ((), o4) → M o = some (z, o4)) : JJ i k v 1 C M := by
  intro h o r c d a hr
  obtain ⟨h4, o4, n1, n2, n3, n4, n5⟩ := notes (F := F) b a (by omega)
  exact ⟨z, h4, o4, r + 1, hC h h4 c (c.fr n3) n1, hM o o4 d (d.fr n4) n2, n3, n4, n5, by omega⟩
theorem JJ.one {i k v n F : Nat} {C M C' M' : PH → Option (Int32 × PH)} (b : Int32) (p : Int32 → Int32) (j : JJ i k v n C' M')
    (hC : ∀ h h4 h' z, CtxC i k v h → CtxC i k v h4 → CtxC i k v h' → f_X0_note F b h = some ((), h4) → C' h4 = some (z, h') → C h = some (p z, h'))
    (hM : ∀ o o4 o' z, CtxM i k v o → CtxM i k v o4 → CtxM i k v o' → f_X10_body F b o = some ((), o4) → M' o4 = some (z, o') → M o = some (p z, o')) : JJ i k v (n + 1) C M := by
  intro h o r c d a hr
  obtain ⟨h4, o4, n1, n2, n3, n4, n5⟩ := notes (F := F) b a (by omega)
  obtain ⟨z, h', o', r', j1, j2, j3, j4, j5, j6⟩ := j h4 o4 (r + 1) (c.fr n3) (d.fr n4) n5 (by omega)
  exact ⟨p z, h', o', r', hC h h4 h' z c (c.fr n3) ((c.fr n3).fr j3) n1 j1, hM o o4 o' z d (d.fr n4) ((d.fr n4).fr j4) n2 j2, n3.trans j3, n4.trans j4, j5, by omega⟩
theorem JJ.two {i k v n m F : Nat} {C M C' M' C2 M2 : PH → Option (Int32 × PH)} (b : Int32) (j : JJ i k v n C' M') (j2 : JJ i k v m C2 M2)
    (hC : ∀ h h4 h' h2 z y, CtxC i k v h → CtxC i k v h4 → CtxC i k v h' → f_X0_note F b h = some ((), h4) → C' h4 = some (z, h') → C2 h' = some (y, h2) → C h = some (z + y, h2))
    (hM : ∀ o o4 o' o2 z y, CtxM i k v o → CtxM i k v o4 → CtxM i k v o' → f_X10_body F b o = some ((), o4) → M' o4 = some (z, o') → M2 o' = some (y, o2) → M o = some (z + y, o2)) : JJ i k v (n + m + 1) C M := by
  intro h o r c d a hr
  obtain ⟨h4, o4, n1, n2, n3, n4, n5⟩ := notes (F := F) b a (by omega)
  obtain ⟨z, h', o', r', a1, a2, a3, a4, a5, a6⟩ := j h4 o4 (r + 1) (c.fr n3) (d.fr n4) n5 (by omega)
  obtain ⟨y, h2, o2, r2, b1, b2, b3, b4, b5, b6⟩ := j2 h' o' r' ((c.fr n3).fr a3) ((d.fr n4).fr a4) a5 (by omega)
  exact ⟨z + y, h2, o2, r2, hC h h4 h' h2 z y c (c.fr n3) ((c.fr n3).fr a3) n1 a1 b1, hM o o4 o' o2 z y d (d.fr n4) ((d.fr n4).fr a4) n2 a2 b2, (n3.trans a3).trans b3, (n4.trans a4).trans b4, b5, by omega⟩
section Runs
variable {i k v F : Nat}
theorem jj10 {d dp : Nat} {fr act x : Int32} (hb : ∀ h, f_X0_bodyFrom F fr act h = some ((10 : Int32), h)) (hd : dp < 40) : JJ i k v 1 (f_X0_run F (d + 1) fr act x (nI dp)) (f_X10_clockTicks F (nI i) x) :=
  JJ.ret (F := F) 10 (x + nI i) (fun h h4 c c4 hn => by rw [sw_10 (hb h) hd hn, c4.1]) (fun o o4 c c4 hn => by unfold f_X10_clockTicks; rw [hn, bnd_some])
theorem jjT {d dp : Nat} {x : Int32} (hF : 10 ≤ F) (hi : i < 6) (hk : k ≤ 6) (hd : dp < 39) : JJ i k v 2 (f_X0_run F (d + 2) (nI k) (0 : Int32) x (nI dp)) (f_X10_ticksAct F (nI i) x) := by
  have : k = 0 ∨ k = 1 ∨ k = 2 ∨ k = 3 ∨ k = 4 ∨ k = 5 ∨ k = 6 := by omega
  rcases this with rfl | rfl | rfl | rfl | rfl | rfl | rfl
  · exact ((jj10 (d := d + 1) (fun h => bf_0_0 hF) (by omega)).le (by decide)).of (fun o d => by unfold f_X10_ticksAct; rw [if_pos (inb_nI hi (by decide)), ix_nI (by omega), d.1, if_neg (show ¬ nI 0 = (2 : Int32) by decide), if_neg (show ¬ nI 0 = (3 : Int32) by decide), if_neg (show ¬ nI 0 = (4 : Int32) by decide), if_neg (show ¬ nI 0 = (5 : Int32) by decide), if_neg (show ¬ nI 0 = (6 : Int32) by decide), bnd_eta])
  · exact ((jj10 (d := d + 1) (fun h => bf_1_0 hF) (by omega)).le (by decide)).of (fun o d => by unfold f_X10_ticksAct; rw [if_pos (inb_nI hi (by decide)), ix_nI (by omega), d.1, if_neg (show ¬ nI 1 = (2 : Int32) by decide), if_neg (show ¬ nI 1 = (3 : Int32) by decide), if_neg (show ¬ nI 1 = (4 : Int32) by decide), if_neg (show ¬ nI 1 = (5 : Int32) by decide), if_neg (show ¬ nI 1 = (6 : Int32) by decide), bnd_eta])
  · exact JJ.one (F := F) 30 (fun z => z) (jj10 (d := d) (dp := dp + 1) (fr := (0 : Int32)) (act := (0 : Int32)) (x := x * (3 : Int32)) (fun h => bf_0_0 hF) (by omega)) (fun h h4 h2 z c c4 c2 hn e => by rw [sw_30 (fr := nI 2) (bf_2_0 hF) (by omega) hn, e, bnd_some]) (fun o o4 o2 z d d4 d2 hn e => by unfold f_X10_ticksAct; rw [if_pos (inb_nI hi (by decide)), ix_nI (by omega), d.1, if_pos (show nI 2 = (2 : Int32) from rfl), hn, bnd_some, e, bnd_some])
  · exact ((jj10 (d := d + 1) (fun h => bf_3_0 hF) (by omega)).le (by decide)).of (fun o d => by unfold f_X10_ticksAct; rw [if_pos (inb_nI hi (by decide)), ix_nI (by omega), d.1, if_neg (show ¬ nI 3 = (2 : Int32) by decide), if_pos (show nI 3 = (3 : Int32) from rfl), bnd_eta])
  · exact JJ.one (F := F) 50 (fun z => -z) (jj10 (d := d) (dp := dp + 1) (fr := (1 : Int32)) (act := (0 : Int32)) (x := x) (fun h => bf_1_0 hF) (by omega)) (fun h h4 h2 z c c4 c2 hn e => by rw [sw_50 (fr := nI 4) (bf_4_0 hF) (by omega) hn, e, bnd_some]) (fun o o4 o2 z d d4 d2 hn e => by unfold f_X10_ticksAct; rw [if_pos (inb_nI hi (by decide)), ix_nI (by omega), d.1, if_neg (show ¬ nI 4 = (2 : Int32) by decide), if_neg (show ¬ nI 4 = (3 : Int32) by decide), if_pos (show nI 4 = (4 : Int32) from rfl), hn, bnd_some, e, bnd_some])
  · exact JJ.one (F := F) 30 (fun z => z) (jj10 (d := d) (dp := dp + 1) (fr := (0 : Int32)) (act := (0 : Int32)) (x := x * (3 : Int32)) (fun h => bf_0_0 hF) (by omega)) (fun h h4 h2 z c c4 c2 hn e => by rw [sw_30 (fr := nI 5) (bf_5_0 hF) (by omega) hn, e, bnd_some]) (fun o o4 o2 z d d4 d2 hn e => by unfold f_X10_ticksAct; rw [if_pos (inb_nI hi (by decide)), ix_nI (by omega), d.1, if_neg (show ¬ nI 5 = (2 : Int32) by decide), if_neg (show ¬ nI 5 = (3 : Int32) by decide), if_neg (show ¬ nI 5 = (4 : Int32) by decide), if_pos (show nI 5 = (5 : Int32) from rfl), hn, bnd_some, e, bnd_some])
  · exact JJ.one (F := F) 71 (fun z => z ^^^ nI v) (jj10 (d := d) (dp := dp + 1) (fr := (3 : Int32)) (act := (0 : Int32)) (x := x) (fun h => bf_3_0 hF) (by omega)) (fun h h4 h2 z c c4 c2 hn e => by rw [sw_71 (fr := nI 6) (bf_6_0 hF) (by omega) hn, e, bnd_some, c2.2.2]) (fun o o4 o2 z d d4 d2 hn e => by unfold f_X10_ticksAct; rw [if_pos (inb_nI hi (by decide)), ix_nI (by omega), d.1, if_neg (show ¬ nI 6 = (2 : Int32) by decide), if_neg (show ¬ nI 6 = (3 : Int32) by decide), if_neg (show ¬ nI 6 = (4 : Int32) by decide), if_neg (show ¬ nI 6 = (5 : Int32) by decide), if_pos (show nI 6 = (6 : Int32) from rfl), hn, bnd_some, e, bnd_some, if_pos (inb_nI hi (by decide)), d2.2])
theorem jj11 {d dp : Nat} {fr act x : Int32} (hF : 10 ≤ F) (hi : i < 6) (hk : k ≤ 6) (hb : ∀ h, f_X0_bodyFrom F fr act h = some ((11 : Int32), h)) (hd : dp < 38) : JJ i k v 3 (f_X0_run F (d + 3) fr act x (nI dp)) (f_X10_clockStrikes F (nI i) x) :=
  JJ.one (F := F) 11 (fun z => z - nI v) (jjT (d := d) (dp := dp + 1) (x := x) hF hi hk (by omega)) (fun h h4 h2 z c c4 c2 hn e => by rw [sw_11 (hb h) (by omega) hn, c4.2.1, e, bnd_some, c2.2.2]) (fun o o4 o2 z d d4 d2 hn e => by unfold f_X10_clockStrikes; rw [hn, bnd_some, e, bnd_some, if_pos (inb_nI hi (by decide)), ix_nI (by omega), d2.2])
theorem jj20 {d dp : Nat} {fr act x : Int32} (hF : 10 ≤ F) (hi : i < 6) (hk : k ≤ 6) (hb : ∀ h, f_X0_bodyFrom F fr act h = some ((20 : Int32), h)) (hd : dp < 37) : JJ i k v 4 (f_X0_run F (d + 4) fr act x (nI dp)) (f_X10_fastStrikes F (nI i) x) :=
  JJ.one (F := F) 20 (fun z => z ^^^ (6 : Int32)) (jj11 (d := d) (dp := dp + 1) (fr := (0 : Int32)) (act := (1 : Int32)) (x := x) hF hi hk (fun h => bf_0_1 hF) (by omega)) (fun h h4 h2 z c c4 c2 hn e => by rw [sw_20 (hb h) (by omega) hn, e, bnd_some]) (fun o o4 o2 z d d4 d2 hn e => by unfold f_X10_fastStrikes; rw [hn, bnd_some, e, bnd_some])
theorem jjS {d dp : Nat} {x : Int32} (hF : 10 ≤ F) (hi : i < 6) (hk : k ≤ 6) (hd : dp < 36) : JJ i k v 5 (f_X0_run F (d + 5) (nI k) (1 : Int32) x (nI dp)) (f_X10_strikesAct F (nI i) x) := by
  have : k = 0 ∨ k = 1 ∨ k = 2 ∨ k = 3 ∨ k = 4 ∨ k = 5 ∨ k = 6 := by omega
  rcases this with rfl | rfl | rfl | rfl | rfl | rfl | rfl
  · exact ((jj11 (d := d + 2) hF hi (by decide) (fun h => bf_0_1 hF) (by omega)).le (by decide)).of (fun o d => by unfold f_X10_strikesAct; rw [if_pos (inb_nI hi (by decide)), ix_nI (by omega), d.1, if_neg (show ¬ nI 0 = (1 : Int32) by decide), if_neg (show ¬ nI 0 = (4 : Int32) by decide), if_neg (show ¬ nI 0 = (6 : Int32) by decide), bnd_eta])
  · exact ((jj20 (d := d + 1) hF hi (by decide) (fun h => bf_1_1 hF) (by omega)).le (by decide)).of (fun o d => by unfold f_X10_strikesAct; rw [if_pos (inb_nI hi (by decide)), ix_nI (by omega), d.1, if_pos (show nI 1 = (1 : Int32) from rfl), bnd_eta])
  · exact ((jj11 (d := d + 2) hF hi (by decide) (fun h => bf_2_1 hF) (by omega)).le (by decide)).of (fun o d => by unfold f_X10_strikesAct; rw [if_pos (inb_nI hi (by decide)), ix_nI (by omega), d.1, if_neg (show ¬ nI 2 = (1 : Int32) by decide), if_neg (show ¬ nI 2 = (4 : Int32) by decide), if_neg (show ¬ nI 2 = (6 : Int32) by decide), bnd_eta])
  · exact ((jj11 (d := d + 2) hF hi (by decide) (fun h => bf_3_1 hF) (by omega)).le (by decide)).of (fun o d => by unfold f_X10_strikesAct; rw [if_pos (inb_nI hi (by decide)), ix_nI (by omega), d.1, if_neg (show ¬ nI 3 = (1 : Int32) by decide), if_neg (show ¬ nI 3 = (4 : Int32) by decide), if_neg (show ¬ nI 3 = (6 : Int32) by decide), bnd_eta])
  · exact JJ.one (F := F) 51 (fun z => z) (jj20 (d := d) (dp := dp + 1) (fr := (1 : Int32)) (act := (1 : Int32)) (x := x + (1 : Int32)) hF hi (by decide) (fun h => bf_1_1 hF) (by omega)) (fun h h4 h2 z c c4 c2 hn e => by rw [sw_51 (fr := nI 4) (bf_4_1 hF) (by omega) hn, e, bnd_some]) (fun o o4 o2 z d d4 d2 hn e => by unfold f_X10_strikesAct; rw [if_pos (inb_nI hi (by decide)), ix_nI (by omega), d.1, if_neg (show ¬ nI 4 = (1 : Int32) by decide), if_pos (show nI 4 = (4 : Int32) from rfl), hn, bnd_some, e, bnd_some])
  · exact ((jj11 (d := d + 2) hF hi (by decide) (fun h => bf_5_1 hF) (by omega)).le (by decide)).of (fun o d => by unfold f_X10_strikesAct; rw [if_pos (inb_nI hi (by decide)), ix_nI (by omega), d.1, if_neg (show ¬ nI 5 = (1 : Int32) by decide), if_neg (show ¬ nI 5 = (4 : Int32) by decide), if_neg (show ¬ nI 5 = (6 : Int32) by decide), bnd_eta])
  · exact JJ.two (F := F) 70 (jj11 (d := d + 1) (dp := dp + 1) (fr := (3 : Int32)) (act := (1 : Int32)) (x := x) hF hi (by decide) (fun h => bf_3_1 hF) (by omega)) (jj10 (d := d + 3) (dp := dp + 1) (fr := (3 : Int32)) (act := (0 : Int32)) (x := (2 : Int32)) (fun h => bf_3_0 hF) (by omega)) (fun h h4 h2 h3 z y c c4 c2 hn e e2 => by rw [sw_70 (fr := nI 6) (bf_6_1 hF) (by omega) hn, e, bnd_some, e2, bnd_some]) (fun o o4 o2 o3 z y d d4 d2 hn e e2 => by unfold f_X10_strikesAct; rw [if_pos (inb_nI hi (by decide)), ix_nI (by omega), d.1, if_neg (show ¬ nI 6 = (1 : Int32) by decide), if_neg (show ¬ nI 6 = (4 : Int32) by decide), if_pos (show nI 6 = (6 : Int32) from rfl), hn, bnd_some, e, bnd_some, e2, bnd_some])
theorem jj12 {d dp : Nat} {fr act x : Int32} (hF : 10 ≤ F) (hi : i < 6) (hk : k ≤ 6) (hb : ∀ h, f_X0_bodyFrom F fr act h = some ((12 : Int32), h)) (hd : dp < 35) : JJ i k v 6 (f_X0_run F (d + 6) fr act x (nI dp)) (f_X10_clockTells F (nI i) x) :=
  JJ.one (F := F) 12 (fun z => z * (2 : Int32)) (jjS (d := d) (dp := dp + 1) (x := x) hF hi hk (by omega)) (fun h h4 h2 z c c4 c2 hn e => by rw [sw_12 (hb h) (by omega) hn, c4.2.1, e, bnd_some]) (fun o o4 o2 z d d4 d2 hn e => by unfold f_X10_clockTells; rw [hn, bnd_some, e, bnd_some])
theorem jjL {d dp : Nat} {x : Int32} (hF : 10 ≤ F) (hi : i < 6) (hk : k ≤ 6) (hd : dp < 34) : JJ i k v 12 (f_X0_run F (d + 7) (nI k) (2 : Int32) x (nI dp)) (f_X10_tellsAct F (nI i) x) := by
  have : k = 0 ∨ k = 1 ∨ k = 2 ∨ k = 3 ∨ k = 4 ∨ k = 5 ∨ k = 6 := by omega
  rcases this with rfl | rfl | rfl | rfl | rfl | rfl | rfl
  · exact ((jj12 (d := d + 1) hF hi (by decide) (fun h => bf_0_2 hF) (by omega)).le (by decide)).of (fun o d => by unfold f_X10_tellsAct; rw [if_pos (inb_nI hi (by decide)), ix_nI (by omega), d.1, if_neg (show ¬ nI 0 = (3 : Int32) by decide), if_neg (show ¬ nI 0 = (4 : Int32) by decide), if_neg (show ¬ nI 0 = (5 : Int32) by decide), if_neg (show ¬ nI 0 = (6 : Int32) by decide), bnd_eta])
  · exact ((jj12 (d := d + 1) hF hi (by decide) (fun h => bf_1_2 hF) (by omega)).le (by decide)).of (fun o d => by unfold f_X10_tellsAct; rw [if_pos (inb_nI hi (by decide)), ix_nI (by omega), d.1, if_neg (show ¬ nI 1 = (3 : Int32) by decide), if_neg (show ¬ nI 1 = (4 : Int32) by decide), if_neg (show ¬ nI 1 = (5 : Int32) by decide), if_neg (show ¬ nI 1 = (6 : Int32) by decide), bnd_eta])
  · exact ((jj12 (d := d + 1) hF hi (by decide) (fun h => bf_2_2 hF) (by omega)).le (by decide)).of (fun o d => by unfold f_X10_tellsAct; rw [if_pos (inb_nI hi (by decide)), ix_nI (by omega), d.1, if_neg (show ¬ nI 2 = (3 : Int32) by decide), if_neg (show ¬ nI 2 = (4 : Int32) by decide), if_neg (show ¬ nI 2 = (5 : Int32) by decide), if_neg (show ¬ nI 2 = (6 : Int32) by decide), bnd_eta])
  · exact JJ.two (F := F) 40 (jj12 (d := d) (dp := dp + 1) (fr := (0 : Int32)) (act := (2 : Int32)) (x := x) hF hi (by decide) (fun h => bf_0_2 hF) (by omega)) (jjS (d := d + 1) (dp := dp + 1) (x := (1 : Int32)) hF hi (by decide) (by omega)) (fun h h4 h2 h3 z y c c4 c2 hn e e2 => by rw [sw_40 (fr := nI 3) (bf_3_2 hF) (by omega) hn, e, bnd_some, c2.2.1, e2, bnd_some]) (fun o o4 o2 o3 z y d d4 d2 hn e e2 => by unfold f_X10_tellsAct; rw [if_pos (inb_nI hi (by decide)), ix_nI (by omega), d.1, if_pos (show nI 3 = (3 : Int32) from rfl), hn, bnd_some, e, bnd_some, e2, bnd_some])
  · exact ((jj12 (d := d + 1) hF hi (by decide) (fun h => bf_4_2 hF) (by omega)).le (by decide)).of (fun o d => by unfold f_X10_tellsAct; rw [if_pos (inb_nI hi (by decide)), ix_nI (by omega), d.1, if_neg (show ¬ nI 4 = (3 : Int32) by decide), if_pos (show nI 4 = (4 : Int32) from rfl), bnd_eta])
  · exact (JJ.one (F := F) 60 (fun z => z) (jj12 (d := d) (dp := dp + 1) (fr := (2 : Int32)) (act := (2 : Int32)) (x := x - nI i) hF hi (by decide) (fun h => bf_2_2 hF) (by omega)) (fun h h4 h2 z c c4 c2 hn e => by rw [sw_60 (fr := nI 5) (bf_5_2 hF) (by omega) hn, c4.1, e, bnd_some]) (fun o o4 o2 z d d4 d2 hn e => by unfold f_X10_tellsAct; rw [if_pos (inb_nI hi (by decide)), ix_nI (by omega), d.1, if_neg (show ¬ nI 5 = (3 : Int32) by decide), if_neg (show ¬ nI 5 = (4 : Int32) by decide), if_pos (show nI 5 = (5 : Int32) from rfl), hn, bnd_some, e, bnd_some])).le (by decide)
  · exact JJ.two (F := F) 40 (jj12 (d := d) (dp := dp + 1) (fr := (0 : Int32)) (act := (2 : Int32)) (x := x) hF hi (by decide) (fun h => bf_0_2 hF) (by omega)) (jjS (d := d + 1) (dp := dp + 1) (x := (1 : Int32)) hF hi (by decide) (by omega)) (fun h h4 h2 h3 z y c c4 c2 hn e e2 => by rw [sw_40 (fr := nI 6) (bf_6_2 hF) (by omega) hn, e, bnd_some, c2.2.1, e2, bnd_some]) (fun o o4 o2 o3 z y d d4 d2 hn e e2 => by unfold f_X10_tellsAct; rw [if_pos (inb_nI hi (by decide)), ix_nI (by omega), d.1, if_neg (show ¬ nI 6 = (3 : Int32) by decide), if_neg (show ¬ nI 6 = (4 : Int32) by decide), if_neg (show ¬ nI 6 = (5 : Int32) by decide), if_pos (show nI 6 = (6 : Int32) from rfl), hn, bnd_some, e, bnd_some, e2, bnd_some])
end Runs
theorem Sim.act {h h' o o' : PH} {g : SG} {b : BT} {cs : CS} (c : CoreC h g b cs) (m : CoreM o g b cs) (ht : cs.1 ≤ 9999) (r : Rest h o g.1) (hc : ∀ a, a ≠ 63 → a ≠ 64 → h'.1 a = h.1 a) (h2 : h'.2 = h.2) (hm : ∀ a, a ≠ 102 → a ≠ 138 → o'.1 a = o.1 a) (ho : ∀ i, i ≠ 60 → o'.1 102 i = o.1 102 i) (o2 : o'.2 = o.2) (n : ActS h' o') : Sim h' o' := by
  obtain ⟨r1, r2, r3, r4, r5, r6, r7, r8, r9⟩ := r
  exact ⟨g, b, cs, c.eq (fun a ha => hc a (by omega) (by omega)) (by rw [h2]), m.eq (fun a ha => hm a (by omega) (by omega)) (fun i hi => ho i (by omega)), ht,
    r1.eq (by rw [hc 31 (by omega) (by omega)]) (hc _ (by omega) (by omega)) (ho _ (by omega)) (hm _ (by omega) (by omega)) (hm _ (by omega) (by omega)), r2.eq (by rw [hc 0 (by omega) (by omega)]) (by rw [h2]) (ho _ (by omega)) (ho _ (by omega)) (ho _ (by omega)), r3.eq (by rw [hc 9 (by omega) (by omega)]) (by rw [hc 11 (by omega) (by omega)]) (by rw [hc 13 (by omega) (by omega)]),
    r4.eq (by rw [hc 9 (by omega) (by omega)]) (hc _ (by omega) (by omega)) (ho _ (by omega)) (hm _ (by omega) (by omega)) (hm _ (by omega) (by omega)) (hm _ (by omega) (by omega)), r5.eq (by rw [hc 11 (by omega) (by omega)]) (hc _ (by omega) (by omega)) (ho _ (by omega)) (hm _ (by omega) (by omega)), r6.eq (by rw [hc 13 (by omega) (by omega)]) (hc _ (by omega) (by omega)) (ho _ (by omega)) (hm _ (by omega) (by omega)) (hm _ (by omega) (by omega)),
    r7.eq (fun a ha => hc a (by omega) (by omega)) (by rw [hc 0 (by omega) (by omega)]) (by rw [h2]) (fun a ha => hm a (by omega) (by omega)) (fun i h1 h2 => ho i (by omega)), n, r9.eq (fun t h1 h2 => hc t (by omega) (by omega)) (fun t h1 => by rw [h2]) (hm _ (by omega) (by omega)) (hm _ (by omega) (by omega)) (by rw [o2])⟩
theorem st_act {F : Nat} {h o : PH} {x y z : Int32} (hF : FOK F) (s : Sim h o) : Step (f_X9_act F x y z) (f_X10_act F x y z) h o := by
  obtain ⟨g, b, cs, c, m, ht, r⟩ := s
  unfold FOK at hF
  have hg := c.1.2.1
  have e1 := isClockC (F := F) (a := x) (h := wI h 63 1 0) (by rw [rI_ne (by decide)]; exact c.1.1) hg
  have e2 := isClockM (F := F) (a := x) (o := wI o 102 60 0) (by rw [rI_sl (by decide)]; exact m.1.1) hg
  have a0 : ActR (wI h 63 1 0) (wI o 102 60 0) 0 := ⟨rI_eq _ _ _ _, rI_eq _ _ _ _, fun i hi => absurd hi (by omega)⟩
  have s0 : Sim (wI h 63 1 0) (wI o 102 60 0) := Sim.act c m ht r (fun a u _ => rI_ne u) rfl (fun a u _ => rI_ne u) (fun i u => rI_sl u) rfl ⟨0, by decide, a0⟩
  unfold Step f_X9_act f_X10_act
  rw [lth_eq, lth_eq, e1, e2, bnd_some, bnd_some]
  by_cases hi : inb x g.1 = true
  · obtain ⟨i, hi', rfl⟩ := inb_lt hi (by omega)
    have h6 : i < 6 := by omega
    have hin : inb (nI i) 6 = true := inb_nI h6 (by decide)
    have hk := c.1.2.2.1 i h6
    have hv := c.1.2.2.2.1 i h6
    rw [if_pos hi, if_neg (show ¬ (1 : Int32) = 0 by decide), if_neg (show ¬ (1 : Int32) = 0 by decide), within_eq, in_eq, bnd_some, bnd_some]
    by_cases hy : wth y 0 2 = 0
    · exact ⟨0, _, _, by rw [if_pos hy], by rw [if_pos hy], s0⟩
    · obtain ⟨a, ha, rfl⟩ := wth_N (m := 2) rfl (by decide) hy
      rw [if_neg hy, if_neg hy, if_pos hin, if_pos hin, ix_nI (by omega), rI_ne (show (2 : Nat) ≠ 63 by decide), rI_ne (show (3 : Nat) ≠ 63 by decide), hk.1, hv.1]
      unfold f_X0_start
      rw [lth_eq, lth_eq, lth_eq, bnd_eta, bnd_eta]
      generalize hh : wI (wI (wI (wI h 63 1 0) 63 2 (nI i)) 63 3 (nI (g.2.1 i))) 63 4 (nI (g.2.2.1 i)) = h4
      have q0 : ∀ a, a ≠ 63 → h4.1 a = h.1 a := fun a u => by rw [← hh, rI_ne u, rI_ne u, rI_ne u, rI_ne u]
      have cc : CtxC i (g.2.1 i) (g.2.2.1 i) h4 := ⟨by rw [← hh, rI_sl (by decide), rI_sl (by decide), rI_eq], by rw [← hh, rI_sl (by decide), rI_eq], by rw [← hh, rI_eq]⟩
      have cm : CtxM i (g.2.1 i) (g.2.2.1 i) (wI o 102 60 0) := ⟨by rw [rI_ne (by decide)]; exact (m.1.2.2.1 i h6).1, by rw [rI_ne (by decide)]; exact (m.1.2.2.2.1 i h6).1⟩
      have a4 : ActR h4 (wI o 102 60 0) 0 := ⟨by rw [← hh, rI_sl (by decide), rI_sl (by decide), rI_sl (by decide), rI_eq]; rfl, rI_eq _ _ _ _, fun i hi => absurd hi (by omega)⟩
      have hL : h4.2 = h.2 := by rw [← hh]; rfl
      have fin : ∀ (C M : PH → Option (Int32 × PH)), JJ i (g.2.1 i) (g.2.2.1 i) 12 C M → ∃ v h' o', C h4 = some (v, h') ∧ M (wI o 102 60 0) = some (v, o') ∧ Sim h' o' := by
        intro C M j
        obtain ⟨v, h', o', r', j1, j2, j3, j4, j5, j6⟩ := j h4 (wI o 102 60 0) 0 cc cm a4 (by omega)
        exact ⟨v, h', o', j1, j2, Sim.act c m ht r (fun a u w => (j3.1 a u w).trans (q0 a u)) (by rw [j3.2.2, hL]) (fun a u w => (j4.1 a u w).trans (rI_ne u)) (fun i u => (j4.2.1 i u).trans (rI_sl u)) (by rw [j4.2.2]; rfl) ⟨r', by omega, j5⟩⟩
      have : a = 0 ∨ a = 1 ∨ a = 2 := by omega
      rcases this with rfl | rfl | rfl
      · rw [if_pos (show nI 0 = (0 : Int32) from rfl), bnd_eta]
        exact fin _ _ ((jjT (d := 48) (dp := 0) (x := z) (by omega) h6 hk.2 (by omega)).le (by decide))
      · rw [if_neg (show ¬ nI 1 = (0 : Int32) by decide), if_pos (show nI 1 = (1 : Int32) from rfl), bnd_eta]
        exact fin _ _ ((jjS (d := 45) (dp := 0) (x := z) (by omega) h6 hk.2 (by omega)).le (by decide))
      · rw [if_neg (show ¬ nI 2 = (0 : Int32) by decide), if_neg (show ¬ nI 2 = (1 : Int32) by decide), bnd_eta]
        exact fin _ _ (jjL (d := 43) (dp := 0) (x := z) (by omega) h6 hk.2 (by omega))
  · rw [if_neg hi, if_pos (show (0 : Int32) = 0 from rfl), if_pos (show (0 : Int32) = 0 from rfl)]
    exact ⟨0, _, _, rfl, rfl, s0⟩
theorem st_trace {F : Nat} {h o : PH} {x : Int32} (s : Sim h o) : Step (f_X9_trace F x) (f_X10_trace F x) h o := by
  have same := s
  obtain ⟨g, b, cs, c, m, ht, r⟩ := s
  obtain ⟨n, n1, n2, n3, n4⟩ := r.2.2.2.2.2.2.2.1
  unfold Step f_X9_trace f_X10_trace
  rw [within_eq, in_eq, bnd_some, bnd_some, n2, n3, show (20 : Int32) = nI 20 from rfl, if_t (by decide) (by omega)]
  have hp : wth x 0 ((if 20 < n then nI 20 else nI n) - (1 : Int32)) = if inb x (min n 20) = true then 1 else 0 := by
    rw [show (if 20 < n then nI 20 else nI n) = nI (min n 20) by split <;> congr 1 <;> omega]
    exact wth_pred (by omega)
  have hq : wth x 0 (19 : Int32) = if inb x 20 = true then 1 else 0 := wth_pred (n := 20) (by decide)
  rw [hp]
  by_cases h2 : inb x 20 = true
  · rw [if_pos h2] at hq
    rw [hq]
    obtain ⟨i, hi, rfl⟩ := inb_lt h2 (by decide)
    rw [if_neg (show ¬ (1 : Int32) = 0 by decide), if_l (by omega) (by omega), if_pos h2, ix_nI (by omega)]
    by_cases hin : i < n
    · rw [if_pos (inb_nI (show i < min n 20 by omega) (by omega)), if_neg (show ¬ (1 : Int32) = 0 by decide), if_neg (show ¬ n ≤ i by omega), if_pos h2, n4 i hin hi]
      exact ⟨_, _, _, rfl, rfl, same⟩
    · have h3 : ¬ inb (nI i) (min n 20) = true := by
        intro q
        obtain ⟨j, hj, e⟩ := inb_lt q (by omega)
        have := (nI_eq (by omega) (by omega)).mp e
        omega
      rw [if_neg h3, if_pos (show (0 : Int32) = 0 from rfl), if_pos (show n ≤ i by omega)]
      exact ⟨_, _, _, rfl, rfl, same⟩
  · have h3 : ¬ inb x (min n 20) = true := by
      intro q
      obtain ⟨j, hj, rfl⟩ := inb_lt q (by omega)
      exact h2 (inb_nI (by omega) (by decide))
    rw [if_neg h2] at hq
    rw [hq, if_neg h3, if_pos (show (0 : Int32) = 0 from rfl), if_pos (show (0 : Int32) = 0 from rfl)]
    exact ⟨_, _, _, rfl, rfl, same⟩
theorem st_count {F : Nat} {h o : PH} {x : Int32} (s : Sim h o) : Step (f_X9_count F x) (f_X10_count F x) h o := by
  have same := s
  obtain ⟨g, b, cs, c, m, ht, r⟩ := s
  obtain ⟨⟨n, tx, t1, t2, t3⟩, ⟨nb, b1, b2, b3, b4⟩, r3, ⟨k, k1, k2, k3, k4⟩, ⟨l, l1, l2, l3, l4⟩, ⟨p, p1, p2, p3, p4⟩, r7, ⟨q, q1, q2, q3, q4⟩, r9⟩ := r
  unfold Step f_X9_count f_X10_count
  rw [c.1.1, m.1.1, b2, b3, k2, k3, l2, l3, p2, p3, t1.1, t2.1, q2, q3]
  by_cases h0 : x = 0
  · rw [if_pos h0, if_pos h0]; exact ⟨_, _, _, rfl, rfl, same⟩
  · rw [if_neg h0, if_neg h0]
    by_cases h1 : x = 1
    · rw [if_pos h1, if_pos h1]; exact ⟨_, _, _, rfl, rfl, same⟩
    · rw [if_neg h1, if_neg h1]
      by_cases h2 : x = 2
      · rw [if_pos h2, if_pos h2]; exact ⟨_, _, _, rfl, rfl, same⟩
      · rw [if_neg h2, if_neg h2]
        by_cases h3 : x = 3
        · rw [if_pos h3, if_pos h3]; exact ⟨_, _, _, rfl, rfl, same⟩
        · rw [if_neg h3, if_neg h3]
          by_cases h4 : x = 4
          · rw [if_pos h4, if_pos h4]; exact ⟨_, _, _, rfl, rfl, same⟩
          · rw [if_neg h4, if_neg h4]
            by_cases h5 : x = 5
            · rw [if_pos h5, if_pos h5]; exact ⟨_, _, _, rfl, rfl, same⟩
            · rw [if_neg h5, if_neg h5]
              by_cases h6 : x = 6
              · rw [if_pos h6, if_pos h6]; exact ⟨_, _, _, rfl, rfl, same⟩
              · rw [if_neg h6, if_neg h6]; exact ⟨_, _, _, rfl, rfl, same⟩
theorem under_all : ∀ k, k ≤ 6 → ∀ j, j ≤ 6 → ∀ (f F : Nat) (h o : PH), ∃ v, (bnd (fL_X9_isUnder_4 F (f + 10) (nI j) (nI k) (0 : Int32) h) fun v5 h5 => (if v5 = 0 then (some ((-12 : Int32), h5)) else (some (nI k, h5)))) = some (v, h) ∧
    (if nI j = 0 then (some (nI k, o)) else (if nI k = nI j then (some (nI k, o)) else (if nI j = (1 : Int32) then (if nI k = (4 : Int32) then (some (nI k, o)) else (fL_X10_taken_51 F (nI j) (nI k) o)) else (fL_X10_taken_51 F (nI j) (nI k) o)))) = some (v, o) := by
  intro k hk j hj f F h o
  have a : k = 0 ∨ k = 1 ∨ k = 2 ∨ k = 3 ∨ k = 4 ∨ k = 5 ∨ k = 6 := by omega
  have b : j = 0 ∨ j = 1 ∨ j = 2 ∨ j = 3 ∨ j = 4 ∨ j = 5 ∨ j = 6 := by omega
  rcases a with rfl | rfl | rfl | rfl | rfl | rfl | rfl <;> rcases b with rfl | rfl | rfl | rfl | rfl | rfl | rfl <;> exact ⟨_, rfl, rfl⟩
theorem st_taken {F : Nat} {h o : PH} {x y : Int32} (hF : FOK F) (s : Sim h o) : Step (f_X9_taken F x y) (f_X10_taken F x y) h o := by
  have same := s
  obtain ⟨g, b, cs, c, m, ht, r⟩ := s
  unfold FOK at hF
  have hg := c.1.2.1
  unfold Step f_X9_taken f_X10_taken
  rw [within_eq, in_eq, bnd_some, bnd_some]
  by_cases hy : wth y 0 6 = 0
  · exact ⟨_, h, o, by rw [if_pos hy], by rw [if_pos hy], same⟩
  · obtain ⟨j, hj, rfl⟩ := wth_N (m := 6) rfl (by decide) hy
    rw [if_neg hy, if_neg hy, isClockC (a := x) c.1.1 hg, isClockM (a := x) m.1.1 hg, bnd_some, bnd_some]
    by_cases hi : inb x g.1 = true
    · obtain ⟨i, hi', rfl⟩ := inb_lt hi (by omega)
      have h6 : i < 6 := by omega
      have hin : inb (nI i) 6 = true := inb_nI h6 (by decide)
      have hk := c.1.2.2.1 i h6
      have hk2 := m.1.2.2.1 i h6
      rw [if_pos hi, if_neg (show ¬ (1 : Int32) = 0 by decide), if_neg (show ¬ (1 : Int32) = 0 by decide), if_pos hin, if_pos hin, ix_nI (by omega), hk.1, hk2.1]
      obtain ⟨f, rfl⟩ : ∃ n, F = n + 10 := ⟨F - 10, by omega⟩
      obtain ⟨v, v1, v2⟩ := under_all (g.2.1 i) hk.2 j hj f (f + 10) h o
      exact ⟨v, h, o, v1, v2, same⟩
    · rw [if_neg hi, if_pos (show (0 : Int32) = 0 from rfl), if_pos (show (0 : Int32) = 0 from rfl)]
      exact ⟨_, h, o, rfl, rfl, same⟩

