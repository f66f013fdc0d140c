theorem copyRows {F t a : Nat} {h : PH} (ht : isRows t = true) (ha : isRows a = true) (hl : lnA (t + 1) = lnA (a + 1)) (hb : lnA (t + 1) < 2 ^ 30) (h1 : a ≠ t) (h2 : a ≠ t + 1) :
    ∃ h', f_X6_copyFrom F t a h = some ((), h') ∧ (∀ x, x ≠ t → x ≠ t + 1 → h'.1 x = h.1 x) ∧ (∀ i, i ≠ 2 → h'.1 t i = h.1 t i) ∧ h'.1 t 2 = h.1 a 2 ∧ (∀ j, j < lnA (t + 1) → h'.1 (t + 1) j = h.1 (a + 1) j) ∧ h'.2 = h.2 := by
  have hc : (decide (0 ≤ (0 : Int32).toInt) && (decide (0 ≤ (0 : Int32).toInt) && (decide (0 ≤ (Int32.ofNat (lnA (t + 1))).toInt) && (decide ((0 : Int32).toInt + (Int32.ofNat (lnA (t + 1))).toInt ≤ ((lnA (a + 1)) : Nat)) && decide ((0 : Int32).toInt + (Int32.ofNat (lnA (t + 1))).toInt ≤ ((lnA (t + 1)) : Nat)))))) = true := by
    rw [show (Int32.ofNat (lnA (t + 1))).toInt = (lnA (t + 1) : Int) from nI_toInt (by omega), ← hl, show (0 : Int32).toInt = 0 by decide]
    simp only [Bool.and_eq_true, decide_eq_true_eq]
    omega
  unfold f_X6_copyFrom
  rw [if_pos ht, if_pos ha, if_pos hc, lth_eq, lth_eq, show ix (0 : Int32) = 0 from rfl, show ix (Int32.ofNat (lnA (t + 1))) = lnA (t + 1) from ix_nI (by omega), rrI, if_neg h2]
  refine ⟨_, rfl, fun x u v => by rw [rI_ne u, rrI, if_neg v], fun i u => by rw [rI_sl u, rrI, if_neg (by omega)], rI_eq _ _ _ _, fun j hj => ?_, rfl⟩
  rw [rI_ne (by omega), rrI, if_pos rfl, sb_cpy0 hj]
theorem cell6 : (decide (0 ≤ (0 : Int32).toInt) && (decide (0 ≤ (0 : Int32).toInt) && (decide (0 ≤ (6 : Int32).toInt) && (decide ((0 : Int32).toInt + (6 : Int32).toInt ≤ (6 : Nat)) && decide ((0 : Int32).toInt + (6 : Int32).toInt ≤ (6 : Nat)))))) = true := by decide
theorem cell24 : (decide (0 ≤ (0 : Int32).toInt) && (decide (0 ≤ (0 : Int32).toInt) && (decide (0 ≤ (24 : Int32).toInt) && (decide ((0 : Int32).toInt + (24 : Int32).toInt ≤ (24 : Nat)) && decide ((0 : Int32).toInt + (24 : Int32).toInt ≤ (24 : Nat)))))) = true := by decide
theorem cell606 : (decide (0 ≤ (0 : Int32).toInt) && (decide (0 ≤ (0 : Int32).toInt) && (decide (0 ≤ (606 : Int32).toInt) && (decide ((0 : Int32).toInt + (606 : Int32).toInt ≤ (606 : Nat)) && decide ((0 : Int32).toInt + (606 : Int32).toInt ≤ (606 : Nat)))))) = true := by decide
theorem copyShop {F t a : Nat} {h : PH} {cs : CS} (hF : 10 ≤ F) (q : (t = 16 ∧ a = 1) ∨ (t = 1 ∧ a = 16)) (r : RepC h (a + 5) cs) :
    ∃ h', f_X7_copyFrom F t a h = some ((), h') ∧ (∀ x, x < t ∨ t + 14 ≤ x → h'.1 x = h.1 x) ∧ h'.1 t 0 = h.1 a 0 ∧ (∀ j, j < 6 → h'.1 (t + 1) j = h.1 (a + 1) j) ∧ (∀ j, j < 6 → h'.1 (t + 2) j = h.1 (a + 2) j) ∧ (∀ j, j < 24 → h'.1 (t + 3) j = h.1 (a + 3) j) ∧ (∀ j, j < 606 → h'.1 (t + 4) j = h.1 (a + 4) j) ∧ RepC h' (t + 5) cs ∧
      (∀ i, i ≠ 2 → h'.1 (t + 8) i = h.1 (t + 8) i) ∧ h'.1 (t + 8) 2 = h.1 (a + 8) 2 ∧ (∀ j, j < 15 → h'.1 (t + 9) j = h.1 (a + 9) j) ∧
      (∀ i, i ≠ 2 → h'.1 (t + 10) i = h.1 (t + 10) i) ∧ h'.1 (t + 10) 2 = h.1 (a + 10) 2 ∧ (∀ j, j < 30 → h'.1 (t + 11) j = h.1 (a + 11) j) ∧
      (∀ i, i ≠ 2 → h'.1 (t + 12) i = h.1 (t + 12) i) ∧ h'.1 (t + 12) 2 = h.1 (a + 12) 2 ∧ (∀ j, j < 24 → h'.1 (t + 13) j = h.1 (a + 13) j) ∧
      h'.2.1 = h.2.1 ∧ h'.2.2 t 10 = h.2.2 a 10 ∧ ∀ x i, ¬ (x = t ∧ i = 10) → h'.2.2 x i = h.2.2 x i := by
  have ht : isShop t = true := by rcases q with ⟨rfl, -⟩ | ⟨rfl, -⟩ <;> rfl
  have ha : isShop a = true := by rcases q with ⟨-, rfl⟩ | ⟨-, rfl⟩ <;> rfl
  have z0 : ix (0 : Int32) = 0 := rfl
  unfold f_X7_copyFrom
  rw [if_pos ht, if_pos ha, lth_eq, if_pos cell6, lth_eq, if_pos cell6, lth_eq, if_pos cell24, lth_eq, if_pos cell606, lth_eq, z0, show ix (6 : Int32) = 6 from rfl, show ix (24 : Int32) = 24 from rfl, show ix (606 : Int32) = 606 from rfl]
  generalize hh : rowI (rowI (rowI (rowI (wI h t 0 (h.1 a 0)) (t + 1) _) (t + 2) _) (t + 3) _) (t + 4) _ = h5
  have f5 : ∀ x, x ≠ t → x ≠ t + 1 → x ≠ t + 2 → x ≠ t + 3 → x ≠ t + 4 → h5.1 x = h.1 x := fun x u0 u1 u2 u3 u4 => by rw [← hh, rrI, if_neg u4, rrI, if_neg u3, rrI, if_neg u2, rrI, if_neg u1, rI_ne u0]
  have g0 : h5.1 t 0 = h.1 a 0 := by rw [← hh, rrI, if_neg (by omega), rrI, if_neg (by omega), rrI, if_neg (by omega), rrI, if_neg (by omega), rI_eq]
  have g1 : ∀ j, j < 6 → h5.1 (t + 1) j = h.1 (a + 1) j := fun j hj => by rw [← hh, rrI, if_neg (by omega), rrI, if_neg (by omega), rrI, if_neg (by omega), rrI, if_pos rfl, sb_cpy0 hj, rI_ne (by omega)]
  have g2 : ∀ j, j < 6 → h5.1 (t + 2) j = h.1 (a + 2) j := fun j hj => by rw [← hh, rrI, if_neg (by omega), rrI, if_neg (by omega), rrI, if_pos rfl, sb_cpy0 hj, rrI, if_neg (by omega), rI_ne (by omega)]
  have g3 : ∀ j, j < 24 → h5.1 (t + 3) j = h.1 (a + 3) j := fun j hj => by rw [← hh, rrI, if_neg (by omega), rrI, if_pos rfl, sb_cpy0 hj, rrI, if_neg (by omega), rrI, if_neg (by omega), rI_ne (by omega)]
  have g4 : ∀ j, j < 606 → h5.1 (t + 4) j = h.1 (a + 4) j := fun j hj => by rw [← hh, rrI, if_pos rfl, sb_cpy0 hj, rrI, if_neg (by omega), rrI, if_neg (by omega), rrI, if_neg (by omega), rI_ne (by omega)]
  have gL : h5.2 = h.2 := by rw [← hh]; rfl
  have rr : RepC h5 (a + 5) cs := r.eq (f5 _ (by omega) (by omega) (by omega) (by omega) (by omega)) (f5 _ (by omega) (by omega) (by omega) (by omega) (by omega)) (f5 _ (by omega) (by omega) (by omega) (by omega) (by omega))
  obtain ⟨h6, k1, k2, k3⟩ := copyC (F := F) (t := t + 5) (a := a + 5) hF (by rcases q with ⟨rfl, -⟩ | ⟨rfl, -⟩ <;> rfl) (by rcases q with ⟨-, rfl⟩ | ⟨-, rfl⟩ <;> rfl) (by omega) rr
  have l9 : lnA (t + 8 + 1) = 15 := by rcases q with ⟨rfl, -⟩ | ⟨rfl, -⟩ <;> rfl
  have l11 : lnA (t + 10 + 1) = 30 := by rcases q with ⟨rfl, -⟩ | ⟨rfl, -⟩ <;> rfl
  have l13 : lnA (t + 12 + 1) = 24 := by rcases q with ⟨rfl, -⟩ | ⟨rfl, -⟩ <;> rfl
  have m9 : lnA (a + 8 + 1) = 15 := by rcases q with ⟨-, rfl⟩ | ⟨-, rfl⟩ <;> rfl
  have m11 : lnA (a + 10 + 1) = 30 := by rcases q with ⟨-, rfl⟩ | ⟨-, rfl⟩ <;> rfl
  have m13 : lnA (a + 12 + 1) = 24 := by rcases q with ⟨-, rfl⟩ | ⟨-, rfl⟩ <;> rfl
  obtain ⟨h7, a1, a2, a3, a4, a5, a6⟩ := copyRows (F := F) (t := t + 8) (a := a + 8) (h := h6) (by rcases q with ⟨rfl, -⟩ | ⟨rfl, -⟩ <;> rfl) (by rcases q with ⟨-, rfl⟩ | ⟨-, rfl⟩ <;> rfl) (by rw [l9, m9]) (by rw [l9]; decide) (by omega) (by omega)
  obtain ⟨h8, b1, b2, b3, b4, b5, b6⟩ := copyRows (F := F) (t := t + 10) (a := a + 10) (h := h7) (by rcases q with ⟨rfl, -⟩ | ⟨rfl, -⟩ <;> rfl) (by rcases q with ⟨-, rfl⟩ | ⟨-, rfl⟩ <;> rfl) (by rw [l11, m11]) (by rw [l11]; decide) (by omega) (by omega)
  obtain ⟨h9, c1, c2, c3, c4, c5, c6⟩ := copyRows (F := F) (t := t + 12) (a := a + 12) (h := h8) (by rcases q with ⟨rfl, -⟩ | ⟨rfl, -⟩ <;> rfl) (by rcases q with ⟨-, rfl⟩ | ⟨-, rfl⟩ <;> rfl) (by rw [l13, m13]) (by rw [l13]; decide) (by omega) (by omega)
  rw [l9] at a5
  rw [l11] at b5
  rw [l13] at c5
  have F6 : ∀ x, x ≠ t → x ≠ t + 1 → x ≠ t + 2 → x ≠ t + 3 → x ≠ t + 4 → x ≠ t + 5 → x ≠ t + 5 + 1 → x ≠ t + 5 + 2 → h6.1 x = h.1 x := fun x u0 u1 u2 u3 u4 u5 u6 u7 => (k2.1 x u5 u6 u7).trans (f5 x u0 u1 u2 u3 u4)
  have G : ∀ x, x ≠ t + 8 → x ≠ t + 9 → x ≠ t + 10 → x ≠ t + 11 → x ≠ t + 12 → x ≠ t + 13 → h9.1 x = h6.1 x := fun x u8 u9 u10 u11 u12 u13 => ((c2 x u12 u13).trans (b2 x u10 u11)).trans (a2 x u8 u9)
  have G5 : ∀ x, x ≠ t + 5 → x ≠ t + 6 → x ≠ t + 7 → x ≠ t + 8 → x ≠ t + 9 → x ≠ t + 10 → x ≠ t + 11 → x ≠ t + 12 → x ≠ t + 13 → h9.1 x = h5.1 x := fun x u5 u6 u7 u8 u9 u10 u11 u12 u13 => (G x u8 u9 u10 u11 u12 u13).trans (k2.1 x u5 u6 u7)
  have hL9 : h9.2 = h.2 := by rw [c6, b6, a6, k2.2, gL]
  rw [k1, bnd_some, a1, bnd_some, b1, bnd_some, c1, bnd_some, lth_eq]
  refine ⟨_, rfl, fun x u => ?_, ?_, fun j hj => ?_, fun j hj => ?_, fun j hj => ?_, fun j hj => ?_, ?_, fun i hi => ?_, ?_, fun j hj => ?_, fun i hi => ?_, ?_, fun j hj => ?_, fun i hi => ?_, ?_, fun j hj => ?_, ?_, ?_, fun x i u => ?_⟩
  · rw [rR_1, G5 x (by omega) (by omega) (by omega) (by omega) (by omega) (by omega) (by omega) (by omega) (by omega), f5 x (by omega) (by omega) (by omega) (by omega) (by omega)]
  · rw [rR_1, G5 t (by omega) (by omega) (by omega) (by omega) (by omega) (by omega) (by omega) (by omega) (by omega)]; exact g0
  · rw [rR_1, G5 _ (by omega) (by omega) (by omega) (by omega) (by omega) (by omega) (by omega) (by omega) (by omega)]; exact g1 j hj
  · rw [rR_1, G5 _ (by omega) (by omega) (by omega) (by omega) (by omega) (by omega) (by omega) (by omega) (by omega)]; exact g2 j hj
  · rw [rR_1, G5 _ (by omega) (by omega) (by omega) (by omega) (by omega) (by omega) (by omega) (by omega) (by omega)]; exact g3 j hj
  · rw [rR_1, G5 _ (by omega) (by omega) (by omega) (by omega) (by omega) (by omega) (by omega) (by omega) (by omega)]; exact g4 j hj
  · exact k3.eq (G _ (by omega) (by omega) (by omega) (by omega) (by omega) (by omega)) (G _ (by omega) (by omega) (by omega) (by omega) (by omega) (by omega)) (G _ (by omega) (by omega) (by omega) (by omega) (by omega) (by omega))
  · rw [rR_1, c2 _ (by omega) (by omega), b2 _ (by omega) (by omega), a3 i hi, F6 _ (by omega) (by omega) (by omega) (by omega) (by omega) (by omega) (by omega) (by omega)]
  · rw [rR_1, c2 _ (by omega) (by omega), b2 _ (by omega) (by omega), a4, F6 _ (by omega) (by omega) (by omega) (by omega) (by omega) (by omega) (by omega) (by omega)]
  · rw [rR_1, c2 _ (by omega) (by omega), b2 _ (by omega) (by omega), a5 j hj, F6 _ (by omega) (by omega) (by omega) (by omega) (by omega) (by omega) (by omega) (by omega)]
  · rw [rR_1, c2 _ (by omega) (by omega), b3 i hi, a2 _ (by omega) (by omega), F6 _ (by omega) (by omega) (by omega) (by omega) (by omega) (by omega) (by omega) (by omega)]
  · rw [rR_1, c2 _ (by omega) (by omega), b4, a2 _ (by omega) (by omega), F6 _ (by omega) (by omega) (by omega) (by omega) (by omega) (by omega) (by omega) (by omega)]
  · rw [rR_1, c2 _ (by omega) (by omega), b5 j hj, a2 _ (by omega) (by omega), F6 _ (by omega) (by omega) (by omega) (by omega) (by omega) (by omega) (by omega) (by omega)]
  · rw [rR_1, c3 i hi, b2 _ (by omega) (by omega), a2 _ (by omega) (by omega), F6 _ (by omega) (by omega) (by omega) (by omega) (by omega) (by omega) (by omega) (by omega)]
  · rw [rR_1, c4, b2 _ (by omega) (by omega), a2 _ (by omega) (by omega), F6 _ (by omega) (by omega) (by omega) (by omega) (by omega) (by omega) (by omega) (by omega)]
  · rw [rR_1, c5 j hj, b2 _ (by omega) (by omega), a2 _ (by omega) (by omega), F6 _ (by omega) (by omega) (by omega) (by omega) (by omega) (by omega) (by omega) (by omega)]
  · rw [rR_2, hL9]
  · rw [rR, if_pos ⟨rfl, rfl⟩, hL9]
  · rw [rR, if_neg u, hL9]
theorem SeenS.copy {h h' o o' : PH} {z z' s s' w w' n : Nat} (e1 : h'.1 z' 2 = h.1 z 2) (e2 : ∀ j, j < 15 → h'.1 (z' + 1) j = h.1 (z + 1) j) (e3 : o'.1 102 s' = o.1 102 s) (e4 : ∀ i, i < 5 → o'.1 w' i = o.1 w i) (e5 : ∀ i, i < 5 → o'.1 (w' + 1) i = o.1 (w + 1) i) (e6 : ∀ i, i < 5 → o'.1 (w' + 2) i = o.1 (w + 2) i) (r : SeenS h o z s w n) : SeenS h' o' z' s' w' n := by
  obtain ⟨k, k1, k2, k3, k4⟩ := r
  refine ⟨k, k1, by rw [e1]; exact k2, by rw [e3]; exact k3, fun i hi => ?_⟩
  obtain ⟨c, m, e, d1, d2, d3, d4, d5, d6, d7, d8, d9⟩ := k4 i hi
  exact ⟨c, m, e, d1, d2, d3, by rw [e2 _ (by omega)]; exact d4, by rw [e2 _ (by omega)]; exact d5, by rw [e2 _ (by omega)]; exact d6, by rw [e4 _ (by omega)]; exact d7, by rw [e5 _ (by omega)]; exact d8, by rw [e6 _ (by omega)]; exact d9⟩
theorem MonS.copy {h h' o o' : PH} {z z' s s' w w' n : Nat} (e1 : h'.1 z' 2 = h.1 z 2) (e2 : ∀ j, j < 30 → h'.1 (z' + 1) j = h.1 (z + 1) j) (e3 : o'.1 102 s' = o.1 102 s) (e4 : ∀ i, i < 10 → o'.1 w' i = o.1 w i) (r : MonS h o z s w n) : MonS h' o' z' s' w' n := by
  obtain ⟨k, k1, k2, k3, k4⟩ := r
  refine ⟨k, k1, by rw [e1]; exact k2, by rw [e3]; exact k3, fun i hi => ?_⟩
  obtain ⟨c, d1, d4, d7⟩ := k4 i hi
  exact ⟨c, d1, by rw [e2 _ (by omega)]; exact d4, by rw [e4 _ (by omega)]; exact d7⟩
theorem BookS.copy {h h' o o' : PH} {z z' s s' w w' n : Nat} (e1 : h'.1 z' 2 = h.1 z 2) (e2 : ∀ j, j < 24 → h'.1 (z' + 1) j = h.1 (z + 1) j) (e3 : o'.1 102 s' = o.1 102 s) (e4 : ∀ i, i < 8 → o'.1 w' i = o.1 w i) (e5 : ∀ i, i < 8 → o'.1 (w' + 1) i = o.1 (w + 1) i) (r : BookS h o z s w n) : BookS h' o' z' s' w' n := by
  obtain ⟨k, k1, k2, k3, k4⟩ := r
  refine ⟨k, k1, by rw [e1]; exact k2, by rw [e3]; exact k3, fun i hi => ?_⟩
  obtain ⟨c, m, d1, d2, d4, d5, d7, d8⟩ := k4 i hi
  exact ⟨c, m, d1, d2, by rw [e2 _ (by omega)]; exact d4, by rw [e2 _ (by omega)]; exact d5, by rw [e4 _ (by omega)]; exact d7, by rw [e5 _ (by omega)]; exact d8⟩
theorem st_image {F : Nat} {h o : PH} (hF : FOK F) (s : Sim h o) : Step (f_X9_image F) (f_X10_image F) h o := by
  obtain ⟨g, b, cs, c, m, ht, r1, r2, r3, r4, r5, r6, r7, r8, r9⟩ := s
  unfold FOK at hF
  have ok := HeldM_ok m.1.2.2.2.2.2.1
  obtain ⟨h1, a1, a2, a3, a4, a5, a6, a7, a8, a9, a10, a11, a12, a13, a14, a15, a16, a17, a18, a19, a20⟩ := copyShop (F := F) (t := 16) (a := 1) (by omega) (Or.inl ⟨rfl, rfl⟩) c.2.1
  obtain ⟨o', b1, b2, b3, b4, b5, b6⟩ := imageM (F := F) (o := o) (by omega)
  have far : ∀ x, x ≠ 0 → (x < 16 ∨ 30 ≤ x) → (wI h1 0 2 1).1 x = h.1 x := fun x u v => by rw [rI_ne u]; exact a2 x v
  have fz : ∀ x, x ≠ 0 → (wI h1 0 2 1).1 x = h1.1 x := fun x u => rI_ne u
  have c0 := c
  have m0 := m
  obtain ⟨⟨c1, c2, c3, c4, c5, c6, c7, c8⟩, cr, cb⟩ := c
  obtain ⟨⟨m1, m2, m3, m4, m5, m6, m7⟩, mr, ml⟩ := m
  refine ⟨nI g.1, wI h1 0 2 1, o', ?_, by rw [b1, m1], g, b, cs, c0.eq (fun a ha => far a (by omega) (by omega)) (a20 1 10 (by decide)), m0.eq (fun a ha => b3 a (by omega) (by omega)) (fun i hi => b4 i (by omega)), ht,
    r1.eq (by rw [far 31 (by decide) (by decide)]) (far _ (by decide) (by decide)) (b4 _ (by decide)) (b3 _ (by decide) (by decide)) (b3 _ (by decide) (by decide)), ?_, r3.eq (by rw [far 9 (by decide) (by decide)]) (by rw [far 11 (by decide) (by decide)]) (by rw [far 13 (by decide) (by decide)]),
    r4.eq (by rw [far 9 (by decide) (by decide)]) (far _ (by decide) (by decide)) (b4 _ (by decide)) (b3 _ (by decide) (by decide)) (b3 _ (by decide) (by decide)) (b3 _ (by decide) (by decide)), r5.eq (by rw [far 11 (by decide) (by decide)]) (far _ (by decide) (by decide)) (b4 _ (by decide)) (b3 _ (by decide) (by decide)), r6.eq (by rw [far 13 (by decide) (by decide)]) (far _ (by decide) (by decide)) (b4 _ (by decide)) (b3 _ (by decide) (by decide)) (b3 _ (by decide) (by decide)),
    Or.inr ⟨rI_eq _ _ _ _, b5.1, g, b, cs, ⟨?_, c2, fun i hi => ?_, fun i hi => ?_, fun i hi => ?_, fun i hi d hd => ?_, ?_, ?_⟩, ⟨?_, fun i hi => ?_, fun i hi => ?_, fun i hi => ?_, ?_, ?_, ?_, fun i hi => ?_⟩, ht, ok, ?_, ?_, ?_⟩,
    r8.eq (by rw [far 63 (by decide) (by decide)]) (far _ (by decide) (by decide)) (b4 _ (by decide)) (b3 _ (by decide) (by decide)), r9.eq (fun t u1 u2 => far t (by omega) (by omega)) (fun t u1 => by show h1.2.1 t = _; rw [a18]) (b3 _ (by decide) (by decide)) (b3 _ (by decide) (by decide)) (by rw [b2])⟩
  · unfold f_X9_image
    rw [a1, bnd_some, lth_eq, far 1 (by decide) (by decide), c1]
  · obtain ⟨nb, n1, n2, n3, n4, n5, n6, n7⟩ := r2
    exact ⟨nb, n1, by rw [rI_sl (by decide), a2 0 (by decide)]; exact n2, by rw [b4 7 (by decide)]; exact n3, by show Lc (h1.2.2 1 10) nb; rw [a20 1 10 (by decide)]; exact n4, by show Lc (h1.2.2 16 10) nb; rw [a19]; exact n4, by rw [b4 8 (by decide)]; exact n6, by rw [b5.2.1]; exact n6⟩
  · rw [fz 16 (by decide), a3]; exact c1
  · rw [fz 17 (by decide), show h1.1 17 i = _ from a4 i hi]; exact c3 i hi
  · rw [fz 18 (by decide), show h1.1 18 i = _ from a5 i hi]; exact c4 i hi
  · rw [fz 19 (by decide), show h1.1 19 i = _ from a6 i hi]; exact c5 i hi
  · rw [fz 20 (by decide), show h1.1 20 (i * 101 + d) = _ from a7 _ (by omega)]; exact c6 i hi d hd
  · exact RepC.eq (fz _ (by decide)) (fz _ (by decide)) (fz _ (by decide)) a8
  · show HeldAt (wI h1 0 2 1) (h1.2.2 16 10) b
    rw [a19]
    exact HeldAt_eq (fun a u v => far a (by omega) (by omega)) cb
  · rw [b5.2.2.1]; exact m1
  · rw [b6.1 i hi]; exact (m3 i hi).1
  · rw [b6.2.1 i hi]; exact (m4 i hi).1
  · rw [b6.2.2.2.1 i hi]; exact (m5 i hi).1
  · rw [b5.2.1]
    rcases m6 with m6 | ⟨j, u1, u2, u3⟩
    · exact Or.inl m6
    · exact Or.inr ⟨j, u1, u2, MB_eq (b3 _ (by decide) (by decide)) (b3 _ (by decide) (by decide)) (b3 _ (by decide) (by decide)) (b3 _ (by decide) (by decide)) (b3 _ (by decide) (by decide)) (b3 _ (by decide) (by decide)) u3⟩
  · rw [b5.2.2.2.2.1]; exact mr.1
  · rw [b5.2.2.2.1]; exact mr.2.1
  · rw [b6.2.2.1 i hi]; exact (mr.2.2 i hi).1
  · exact r4.copy (by rw [fz 24 (by decide)]; exact a10) (fun j hj => by rw [fz (24 + 1) (by decide)]; exact a11 j hj) b5.2.2.2.2.2.1 b6.2.2.2.2.1 b6.2.2.2.2.2.1 b6.2.2.2.2.2.2.1
  · exact r5.copy (by rw [fz 26 (by decide)]; exact a13) (fun j hj => by rw [fz (26 + 1) (by decide)]; exact a14 j hj) b5.2.2.2.2.2.2.1 b6.2.2.2.2.2.2.2.1
  · exact r6.copy (by rw [fz 28 (by decide)]; exact a16) (fun j hj => by rw [fz (28 + 1) (by decide)]; exact a17 j hj) b5.2.2.2.2.2.2.2 b6.2.2.2.2.2.2.2.2.1 b6.2.2.2.2.2.2.2.2.2
theorem st_undo {F : Nat} {h o : PH} (hF : FOK F) (s : Sim h o) : Step (f_X9_undo F) (f_X10_undo F) h o := by
  have same := s
  obtain ⟨g0, b0, cs0, c, m, ht0, r1, r2, r3, r4, r5, r6, r7, r8, r9⟩ := s
  unfold FOK at hF
  have r7' := r7
  rcases r7 with ⟨z1, z2⟩ | ⟨z1, z2, g, b, cs, ⟨i1, i2, i3, i4, i5, i6, i7, i8⟩, ⟨j1, j2, j3, j4, j5, j6, j7, j8⟩, ht, ok, s1, s2, s3⟩
  · refine ⟨-3, h, o, ?_, ?_, same⟩
    · unfold f_X9_undo; rw [z1, if_pos (show (0 : Int32) = 0 from rfl)]
    · unfold f_X10_undo; rw [z2, if_pos (show (0 : Int32) = 0 from rfl)]
  · obtain ⟨h1, a1, a2, a3, a4, a5, a6, a7, a8, a9, a10, a11, a12, a13, a14, a15, a16, a17, a18, a19, a20⟩ := copyShop (F := F) (t := 1) (a := 16) (by omega) (Or.inr ⟨rfl, rfl⟩) i7
    obtain ⟨o', b1, b2, b3, b4, b5, b6⟩ := undoM (F := F) (o := o) (by omega) (by rw [z2]; decide)
    have hb : HeldC h1 b := by
      rw [HeldC_at, a19]
      exact HeldAt_eq (fun a u v => a2 a (by omega)) i8
    have hl : o'.1 102 25 = 0 := by rw [b4 25 (by decide) (by decide) (by decide) (by decide) (by decide) (by decide) (by decide)]; exact m.2.2
    refine ⟨nI g.1, h1, o', ?_, by rw [b1, j1], g, b, cs, ⟨⟨?_, i2, fun i hi => ?_, fun i hi => ?_, fun i hi => ?_, fun i hi d hd => ?_, HeldC_pace hb, semB_ok ok⟩, a8, hb⟩, ⟨⟨?_, i2, fun i hi => ?_, fun i hi => ?_, fun i hi => ?_, ?_, Or.inl hl⟩, ⟨?_, ?_, fun i hi => ?_⟩, hl⟩, ht,
      r1.eq (by rw [a2 31 (by decide)]) (a2 _ (by decide)) (b4 _ (by decide) (by decide) (by decide) (by decide) (by decide) (by decide) (by decide)) (b3 _ (by decide) (by decide) (by decide)) (b3 _ (by decide) (by decide) (by decide)), ?_, ?_, ?_, ?_, ?_,
      r7'.eq (fun a ha => a2 a (by omega)) (by rw [a2 0 (by decide)]) (a20 16 10 (by decide)) (fun a ha => b3 a (by omega) (by omega) (by omega)) (fun i h1 h2 => b4 i (by omega) (by omega) (by omega) (by omega) (by omega) (by omega) (by omega)),
      r8.eq (by rw [a2 63 (by decide)]) (a2 _ (by decide)) (b4 _ (by decide) (by decide) (by decide) (by decide) (by decide) (by decide) (by decide)) (b3 _ (by decide) (by decide) (by decide)), r9.eq (fun t h1 h2 => a2 t (by omega)) (fun t h1 => by rw [a18]) (b3 _ (by decide) (by decide) (by decide)) (b3 _ (by decide) (by decide) (by decide)) (by rw [b2])⟩
    · unfold f_X9_undo
      rw [z1, if_neg (show ¬ (1 : Int32) = 0 by decide), a1, bnd_some, a3, i1]
    · rw [a3]; exact i1
    · rw [show h1.1 2 i = _ from a4 i hi]; exact i3 i hi
    · rw [show h1.1 3 i = _ from a5 i hi]; exact i4 i hi
    · rw [show h1.1 4 i = _ from a6 i hi]; exact i5 i hi
    · rw [show h1.1 5 (i * 101 + d) = _ from a7 _ (by omega)]; exact i6 i hi d hd
    · rw [b5.2.1]; exact j1
    · rw [b6.1 i hi]; exact ⟨j2 i hi, (i3 i hi).2⟩
    · rw [b6.2.1 i hi]; exact ⟨j3 i hi, (i4 i hi).2⟩
    · rw [b6.2.2.2.1 i hi]; exact ⟨j4 i hi, (i5 i hi).2⟩
    · unfold HeldM
      rw [b5.1]
      rcases j5 with j5 | ⟨j, u1, u2, u3⟩
      · exact Or.inl j5
      · exact Or.inr ⟨j, u1, u2, MB_eq (b3 _ (by decide) (by decide) (by decide)) (b3 _ (by decide) (by decide) (by decide)) (b3 _ (by decide) (by decide) (by decide)) (b3 _ (by decide) (by decide) (by decide)) (b3 _ (by decide) (by decide) (by decide)) (b3 _ (by decide) (by decide) (by decide)) u3⟩
    · rw [b5.2.2.2.1]; exact j6
    · rw [b5.2.2.1]; exact j7
    · rw [b6.2.2.1 i hi]; exact ⟨j8 i hi, (i7.2 i hi).2.1⟩
    · obtain ⟨nb, n1, n2, n3, n4, n5, n6, n7⟩ := r2
      exact ⟨nb, n1, by rw [a2 0 (by decide)]; exact n2, by rw [b4 7 (by decide) (by decide) (by decide) (by decide) (by decide) (by decide) (by decide)]; exact n3, by rw [a19]; exact n5, by rw [a20 16 10 (by decide)]; exact n5, by rw [b5.1]; exact n7, by rw [b4 43 (by decide) (by decide) (by decide) (by decide) (by decide) (by decide) (by decide)]; exact n7⟩
    · exact ⟨by rw [a9 0 (by decide)]; exact r3.1, by rw [a12 0 (by decide)]; exact r3.2.1, by rw [a15 0 (by decide)]; exact r3.2.2⟩
    · exact s1.copy a10 a11 b5.2.2.2.2.1 b6.2.2.2.2.1 b6.2.2.2.2.2.1 b6.2.2.2.2.2.2.1
    · exact s2.copy a13 a14 b5.2.2.2.2.2.1 b6.2.2.2.2.2.2.2.1
    · exact s3.copy a16 a17 b5.2.2.2.2.2.2 b6.2.2.2.2.2.2.2.2.1 b6.2.2.2.2.2.2.2.2.2
