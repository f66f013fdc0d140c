theorem readS {F z n fb : Nat} {tx : Nat → Nat} {h o : PH} (hF : 200 ≤ F) (hz : isBench z = true) (t : TxtC h n tx) (tm : TxtM o n tx) (lt : ∀ i, i < 12 → o.1 115 i = lettersL.getD i 0) (hfb : fb < 6) :
    ∃ (r : Bool) (q : Nat) (h' o' : PH), f_X5_readInto F z h = some (b2i r, h') ∧ f_X10_goesText F (nI fb) o = some (b2i r, o') ∧ (∀ a, a ≠ 31 → (a < z ∨ z + 4 ≤ a) → h'.1 a = h.1 a) ∧ (∀ i, i ≠ 2 → i ≠ 3 → i ≠ 4 → h'.1 31 i = h.1 31 i) ∧ h'.2.1 = h.2.1 ∧ (∀ x i, ¬ (x = 31 ∧ i = 5) → h'.2.2 x i = h.2.2 x i) ∧ FrB fb o o' ∧ h'.1 31 2 = nI q ∧ o'.1 102 10 = nI q ∧ q ≤ n ∧
      (r = true → ∃ l', EndC z h' l' ∧ clM o' (10 * fb) l' ∧ o'.1 108 fb = nI l'.length) := by
  have hzz := isBench_or hz
  obtain ⟨t1, t2, t3⟩ := t
  generalize hh : wI (wI (wI (wI (wI (wR h 31 5 (some z)) z 0 10) z 1 0) z 4 0) 31 4 0) 31 2 (-1) = h5
  have q31 : ∀ i, i ≠ 2 → i ≠ 4 → h5.1 31 i = h.1 31 i := fun i u v => by rw [← hh, rI_sl u, rI_sl v, rI_ne (by omega), rI_ne (by omega), rI_ne (by omega), rR_1]
  have qf : ∀ a, a ≠ 31 → a ≠ z → h5.1 a = h.1 a := fun a u v => by rw [← hh, rI_ne u, rI_ne u, rI_ne v, rI_ne v, rI_ne v, rR_1]
  have qz0 : h5.1 z 0 = nI 10 := by rw [← hh, rI_ne (by omega), rI_ne (by omega), rI_sl (by decide), rI_sl (by decide), rI_eq]; rfl
  have qz1 : h5.1 z 1 = nI 0 := by rw [← hh, rI_ne (by omega), rI_ne (by omega), rI_sl (by decide), rI_eq]; rfl
  have qz4 : h5.1 z 4 = nI 0 := by rw [← hh, rI_ne (by omega), rI_ne (by omega), rI_eq]; rfl
  have q2 : h5.1 31 2 = -1 := by rw [← hh, rI_eq]
  have q4 : h5.1 31 4 = 0 := by rw [← hh, rI_sl (by decide), rI_eq]
  have qr : h5.2.2 31 5 = some z := by rw [← hh]; show (wR h 31 5 (some z)).2.2 31 5 = some z; rw [rR, if_pos ⟨rfl, rfl⟩]
  have qro : ∀ x i, ¬ (x = 31 ∧ i = 5) → h5.2.2 x i = h.2.2 x i := fun x i u => by rw [← hh]; show (wR h 31 5 (some z)).2.2 x i = h.2.2 x i; rw [rR, if_neg u]
  have qL : h5.2.1 = h.2.1 := by rw [← hh]; rfl
  -- the first byte
  have step0 : ∃ h6, f_X5_step F h5 = some ((), h6) ∧ EC h6 z n tx 0 0 ∧ FrZ z h5 h6 ∧ h6.1 z = h5.1 z := by
    unfold f_X5_step
    rw [lth_eq, q2, show (-1 : Int32) + (1 : Int32) = nI 0 by decide, rI_sl (by decide), rI_eq, q31 1 (by decide) (by decide), t1, if_l (by omega) (by decide)]
    by_cases h0 : n ≤ 0
    · rw [if_pos h0, lth_eq]
      refine ⟨_, rfl, ⟨⟨by rw [rI_sl (by decide), rI_sl (by decide), q31 1 (by decide) (by decide)]; exact t1, t2, fun i hi => absurd hi (by omega)⟩, by rw [rI_sl (by decide), rI_eq], ?_, by omega, by rw [rI_sl (by decide), rI_sl (by decide)]; exact q4, qr, hz, by rw [rI_ne (by omega), rI_ne (by omega)]; exact qz4, by omega⟩, ⟨fun a u v => by rw [rI_ne u, rI_ne u], fun i u v w => by rw [rI_sl (by omega), rI_sl (by omega)], rfl⟩, by rw [rI_ne (by omega), rI_ne (by omega)]⟩
      rw [rI_eq]; unfold byA; rw [if_neg (by omega)]
    · rw [if_neg h0, if_pos (show inb (nI 0) 100 = true by decide), lth_eq, ix_nI (by decide), rI_ne (show (32 : Nat) ≠ 31 by decide), qf 32 (by decide) (by omega), (t3 0 (by omega)).1]
      refine ⟨_, rfl, ⟨⟨by rw [rI_sl (by decide), rI_sl (by decide), q31 1 (by decide) (by decide)]; exact t1, t2, by rw [rI_ne (by decide), rI_ne (by decide), qf 32 (by decide) (by omega)]; exact t3⟩, by rw [rI_sl (by decide), rI_eq], ?_, by omega, by rw [rI_sl (by decide), rI_sl (by decide)]; exact q4, qr, hz, by rw [rI_ne (by omega), rI_ne (by omega)]; exact qz4, by omega⟩, ⟨fun a u v => by rw [rI_ne u, rI_ne u], fun i u v w => by rw [rI_sl (by omega), rI_sl (by omega)], rfl⟩, by rw [rI_ne (by omega), rI_ne (by omega)]⟩
      rw [rI_eq]; unfold byA; rw [if_pos (by omega)]
  obtain ⟨h6, s1, s2, s3, s4⟩ := step0
  have sc : StC h6 z n tx 0 [] := ⟨s2, by rw [s4]; exact qz0, by rw [s4]; exact qz1, trivial, rfl, by decide, fun d hd => absurd hd List.not_mem_nil⟩
  have sm : StM (wI (wI o 102 10 0) 102 20 ((100 : Int32) * nI fb)) n tx 0 fb [] := ⟨(tm.w102 (by decide)).w102 (by decide), by rw [rI_sl (by decide), rI_eq]; rfl, by rw [rI_eq, show (100 : Int32) = nI 100 from rfl, pk_mul]; rfl, by rw [rI_ne (by decide), rI_ne (by decide)]; exact lt, trivial⟩
  obtain ⟨r, q, h', o', a1, a2, a3, a4, a5, a6, a7, a8⟩ := textS hF hfb 10 0 F [] h6 _ rfl (by decide) (by omega) sc sm
  have fr0 : FrB fb o (wI (wI o 102 10 0) 102 20 ((100 : Int32) * nI fb)) := ⟨fun a u _ => by rw [rI_ne u, rI_ne u], fun i u1 _ u3 _ _ => by rw [rI_sl u3, rI_sl u1], fun i _ => by rw [rI_ne (by decide), rI_ne (by decide)], fun i _ => ⟨by rw [rI_ne (by decide), rI_ne (by decide)], by rw [rI_ne (by decide), rI_ne (by decide)], by rw [rI_ne (by decide), rI_ne (by decide)], by rw [rI_ne (by decide), rI_ne (by decide)]⟩, fun i _ => by rw [rI_ne (by decide), rI_ne (by decide)], rfl⟩
  refine ⟨r, q, h', o', ?_, ?_, fun a u v => by rw [a3.1 a u v, s3.1 a u v, qf a u (by omega)], fun i u v w => by rw [a3.2.1 i u v w, s3.2.1 i u v w, q31 i u w], by rw [a3.2.2, s3.2.2]; exact qL, fun x i u => by rw [a3.2.2, s3.2.2]; exact qro x i u, fr0.trans a4, a5, a6, a7, a8⟩
  · unfold f_X5_readInto f_X2_clear
    rw [if_pos hz, lth_eq, rR, if_pos ⟨rfl, rfl⟩, omat_some, if_pos hz, if_pos hz, lth_eq, lth_eq, lth_eq, bnd_some, lth_eq, lth_eq, hh, s1, bnd_some]
    exact a1
  · unfold f_X10_goesText
    rw [lth_eq, lth_eq]
    exact a2
theorem holdS {F : Nat} {h0 : PH} {g : SG} {b : BT} (hF : 200 ≤ F) (hg : g.1 ≤ 6) (h1 : h0.1 1 0 = nI g.1) (hk : ∀ c, c < 6 → h0.1 2 c = nI (g.2.1 c) ∧ g.2.1 c ≤ 6) (hv : ∀ c, c < 6 → h0.1 3 c = nI (g.2.2.1 c) ∧ g.2.2.1 c ≤ 9) (ok : BTOK b) (hb : HeldC h0 b) :
    ∀ (j i f : Nat) (h : PH), i + j = g.1 → j < f → (∀ a, a ≠ 15 → a ≠ 5 → h.1 a = h0.1 a) → h.2 = h0.2 → (∀ c, c < i → ∀ d, d ≤ 100 → h.1 5 (c * 101 + d) = nI (preA (semB b) g c d)) →
    ∃ h', fL_X7_hold_7 F f (nI i) h = some ((), h') ∧ (∀ a, a ≠ 15 → a ≠ 5 → h'.1 a = h0.1 a) ∧ h'.2 = h0.2 ∧ ∀ c, c < g.1 → ∀ d, d ≤ 100 → h'.1 5 (c * 101 + d) = nI (preA (semB b) g c d) := by
  intro j
  induction j with
  | zero =>
    intro i f h hi hf fr fr2 hs
    obtain ⟨f, rfl⟩ : ∃ m, f = m + 1 := ⟨f - 1, by omega⟩
    refine ⟨h, by rw [fL_X7_hold_7, fr 1 (by decide) (by decide), h1, if_l (by omega) (by omega), if_pos (show g.1 ≤ i by omega)], fr, fr2, fun c hc d hd => hs c (by omega) d hd⟩
  | succ j ih =>
    intro i f h hi hf fr fr2 hs
    obtain ⟨f, rfl⟩ : ∃ m, f = m + 1 := ⟨f - 1, by omega⟩
    obtain ⟨h2, e1, e2, e3⟩ := learnC (F := F) (c := i) (h := h) (g := g) (b := b) hF (by omega) (by rw [fr 2 (by decide) (by decide)]; exact hk i (by omega)) (by rw [fr 3 (by decide) (by decide)]; exact hv i (by omega)) ok (HeldC_eq (fun a ha => fr a (by omega) (by omega)) (by rw [fr2]) hb)
    obtain ⟨h3, a1, a2, a3, a4⟩ := ih (i + 1) f h2 (by omega) (by omega) (fun a u v => (e2.1 a u v).trans (fr a u v)) (by rw [e2.2.2, fr2]) (fun c hc d hd => by
      by_cases hci : c = i
      · rw [hci]; exact e3 d hd
      · rw [e2.2.1 (c * 101 + d) (Or.inl (by omega))]; exact hs c (by omega) d hd)
    refine ⟨h3, ?_, a2, a3, a4⟩
    rw [fL_X7_hold_7, fr 1 (by decide) (by decide), h1, if_l (by omega) (by omega), if_neg (show ¬ g.1 ≤ i by omega), e1, bnd_some, nI_1]
    exact a1
-- what stays of the elder benches
theorem HeldAt_lt {h h' : PH} {q : Option Nat} {b : BT} {nb : Nat} (l : Lc q nb) (e : ∀ a, 66 ≤ a → a < 66 + 4 * nb → h'.1 a = h.1 a) (u : HeldAt h q b) : HeldAt h' q b := by
  rcases l with rfl | ⟨j, hj, rfl⟩
  · exact u
  · exact ⟨u.1, by rw [e (66 + 4 * j) (by omega) (by omega)]; exact u.2.1, clC_eq (e _ (by omega) (by omega)) (e _ (by omega) (by omega)) (e _ (by omega) (by omega)) (e _ (by omega) (by omega)) u.2.2⟩
theorem clM_lt {o o' : PH} {nb : Nat} (f : FrB nb o o') : ∀ {l : List MCl} {i : Nat}, i + l.length ≤ 10 * nb → clM o i l → clM o' i l
  | [], _, _, _ => trivial
  | q :: l, i, hi, u => by
    rw [List.length_cons] at hi
    have e := f.2.2.2.1 i (by omega)
    refine ⟨⟨by rw [e.1]; exact u.1.1, by rw [e.2.1]; exact u.1.2.1, fun hq => ?_⟩, clM_lt f (by omega) u.2⟩
    obtain ⟨fr, v1, v2, v3, v4⟩ := u.1.2.2 hq
    exact ⟨fr, by rw [e.2.2.1]; exact v1, by rw [e.2.2.2]; exact v2, v3, atS_eq (fun j hj => f.2.2.2.2.1 j (by omega)) v4⟩
theorem MB_lt {o o' : PH} {nb j : Nat} {b : BT} (f : FrB nb o o') (hj : j < nb) (u : MB o j b) : MB o' j b := by
  obtain ⟨l, u1, u2, u3, u4⟩ := u
  exact ⟨l, u1, by rw [f.2.2.1 j (by omega)]; exact u2, clM_lt f (by have := u1.1; omega) u3, u4⟩
theorem Lc.mono {q : Option Nat} {n m : Nat} (h : n ≤ m) (l : Lc q n) : Lc q m := by
  rcases l with l | ⟨j, h1, h2⟩
  · exact Or.inl l
  · exact Or.inr ⟨j, by omega, h2⟩
theorem Lm.mono {q : Int32} {n m : Nat} (h : n ≤ m) (l : Lm q n) : Lm q m := by
  rcases l with l | ⟨j, h1, h2⟩
  · exact Or.inl l
  · exact Or.inr ⟨j, by omega, h2⟩
theorem heldM_lt {o o' : PH} {nb s : Nat} {b : BT} (f : FrB nb o o') (hn : nb ≤ 6) (hs : o'.1 102 s = o.1 102 s) (l : Lm (o.1 102 s) nb) (u : (o.1 102 s = -1 ∧ b = (10, [])) ∨ ∃ j, j < 6 ∧ o.1 102 s = nI j ∧ MB o j b) : (o'.1 102 s = -1 ∧ b = (10, [])) ∨ ∃ j, j < 6 ∧ o'.1 102 s = nI j ∧ MB o' j b := by
  rw [hs]
  rcases u with u | ⟨j, u1, u2, u3⟩
  · exact Or.inl u
  · rcases l with l | ⟨i, l1, l2⟩
    · rw [l] at u2
      exact absurd u2.symm (fun z => nI_pos (show j < 2 ^ 31 by omega) (by rw [z]; decide))
    · rw [l2] at u2
      have hij := (nI_eq (by omega) (by omega)).mp u2
      subst hij
      exact Or.inr ⟨i, u1, l2, MB_lt f l1 u3⟩
theorem CoreC.eq2 {h h' : PH} {g : SG} {b : BT} {cs : CS} (e : ∀ a, 1 ≤ a → a ≤ 8 → h'.1 a = h.1 a) (hb' : HeldC h' b) (c : CoreC h g b cs) : CoreC h' g b cs := by
  obtain ⟨⟨e1, e22, e3, e4, e5, e6, e7, e8⟩, r, hb⟩ := c
  refine ⟨⟨by rw [e 1 (by omega) (by omega)]; exact e1, e22, by rw [e 2 (by omega) (by omega)]; exact e3, by rw [e 3 (by omega) (by omega)]; exact e4, by rw [e 4 (by omega) (by omega)]; exact e5, by rw [e 5 (by omega) (by omega)]; exact e6, HeldC_pace hb', e8⟩, r.eq (e _ (by omega) (by omega)) (e _ (by omega) (by omega)) (e _ (by omega) (by omega)), hb'⟩
theorem CoreM.eq2 {o o' : PH} {g : SG} {b b' : BT} {cs : CS} (e : ∀ a, 103 ≤ a → a ≤ 106 → o'.1 a = o.1 a) (e2 : ∀ i, i = 0 ∨ i = 1 ∨ i = 2 ∨ i = 25 → o'.1 102 i = o.1 102 i) (hb' : HeldM o' b') (c : CoreM o g b cs) : CoreM o' g b' cs := by
  obtain ⟨⟨e1, e22, e3, e4, e5, e6, e7⟩, r, hl⟩ := c
  have hl' : o'.1 102 25 = 0 := by rw [e2 25 (by omega)]; exact hl
  refine ⟨⟨by rw [e2 0 (by omega)]; exact e1, e22, by rw [e 103 (by omega) (by omega)]; exact e3, by rw [e 104 (by omega) (by omega)]; exact e4, by rw [e 106 (by omega) (by omega)]; exact e5, hb', Or.inl hl'⟩, ?_, hl'⟩
  unfold RepM at r ⊢
  rw [e 105 (by omega) (by omega), e2 1 (by omega), e2 2 (by omega)]; exact r
theorem ImgS.lt {h h' o o' : PH} (e : ∀ a, 16 ≤ a → a ≤ 29 → h'.1 a = h.1 a) (e0 : h'.1 0 2 = h.1 0 2) (eh : ∀ b, HeldAt h (h.2.2 16 10) b → HeldAt h' (h'.2.2 16 10) b) (m : ∀ a, 128 ≤ a → a ≤ 137 → o'.1 a = o.1 a) (m2 : ∀ i, 42 ≤ i → i ≤ 49 → o'.1 102 i = o.1 102 i)
    (em : ∀ b, ((o.1 102 43 = -1 ∧ b = (10, [])) ∨ ∃ j, j < 6 ∧ o.1 102 43 = nI j ∧ MB o j b) → (o'.1 102 43 = -1 ∧ b = (10, [])) ∨ ∃ j, j < 6 ∧ o'.1 102 43 = nI j ∧ MB o' j b) (r : ImgS h o) : ImgS h' o' := by
  rcases r with ⟨r1, r2⟩ | ⟨r1, r2, g, b, cs, ⟨i1, i2, i3, i4, i5, i6, i7, i8⟩, ⟨j1, j2, j3, j4, j5, j6, j7, j8⟩, ht, ok, s1, s2, s3⟩
  · exact Or.inl ⟨by rw [e0]; exact r1, by rw [m2 42 (by omega) (by omega)]; exact r2⟩
  · refine Or.inr ⟨by rw [e0]; exact r1, by rw [m2 42 (by omega) (by omega)]; exact r2, g, b, cs, ⟨by rw [e 16 (by omega) (by omega)]; exact i1, i2, by rw [e 17 (by omega) (by omega)]; exact i3, by rw [e 18 (by omega) (by omega)]; exact i4, by rw [e 19 (by omega) (by omega)]; exact i5, by rw [e 20 (by omega) (by omega)]; exact i6, i7.eq (e _ (by omega) (by omega)) (e _ (by omega) (by omega)) (e _ (by omega) (by omega)), eh b i8⟩,
      ⟨by rw [m2 44 (by omega) (by omega)]; exact j1, by rw [m 128 (by omega) (by omega)]; exact j2, by rw [m 129 (by omega) (by omega)]; exact j3, by rw [m 131 (by omega) (by omega)]; exact j4, em b j5, by rw [m2 46 (by omega) (by omega)]; exact j6, by rw [m2 45 (by omega) (by omega)]; exact j7, by rw [m 130 (by omega) (by omega)]; exact j8⟩, ht, ok, ?_, ?_, ?_⟩
    · exact s1.eq (by rw [e 24 (by omega) (by omega)]) (e _ (by omega) (by omega)) (m2 _ (by omega) (by omega)) (m _ (by omega) (by omega)) (m _ (by omega) (by omega)) (m _ (by omega) (by omega))
    · exact s2.eq (by rw [e 26 (by omega) (by omega)]) (e _ (by omega) (by omega)) (m2 _ (by omega) (by omega)) (m _ (by omega) (by omega))
    · exact s3.eq (by rw [e 28 (by omega) (by omega)]) (e _ (by omega) (by omega)) (m2 _ (by omega) (by omega)) (m _ (by omega) (by omega)) (m _ (by omega) (by omega))
theorem st_bench {F : Nat} {h o : PH} (hF : FOK F) (s : Sim h o) : Step (f_X9_bench F) (f_X10_bench F) h o := by
  have same := s
  obtain ⟨g, b, cs, c, m, ht, ⟨n, tx, t1, t2, t3⟩, ⟨nb, n1, n2, n3, n4, n5, n6, n7⟩, r3, r4, r5, r6, r7, r8, r9⟩ := s
  unfold FOK at hF
  unfold Step f_X9_bench f_X10_bench
  rw [n2, n3, li6, if_t (by omega) (by decide), if_e (by omega) (by decide)]
  by_cases h6 : nb < 6
  · have hz : isBench (66 + 4 * nb) = true := by
      have : nb = 0 ∨ nb = 1 ∨ nb = 2 ∨ nb = 3 ∨ nb = 4 ∨ nb = 5 := by omega
      rcases this with rfl | rfl | rfl | rfl | rfl | rfl <;> rfl
    obtain ⟨r, q, h1, o1, a1, a2, a3, a4, a5, a6, a7, a8, a9, a10, a11⟩ := readS (F := F) (fb := nb) (by omega) hz t1 t2 t3 h6
    have hn := t1.2.1
    rw [if_pos h6, if_neg (show ¬ nb = 6 by omega), if_pos (inb_nI h6 (by decide)), ix_nI (by omega), a1, a2, bnd_some, bnd_some, lth_eq, lth_eq]
    have heldOld : ∀ b, ((o.1 102 43 = -1 ∧ b = (10, [])) ∨ ∃ j, j < 6 ∧ o.1 102 43 = nI j ∧ MB o j b) → (o1.1 102 43 = -1 ∧ b = (10, [])) ∨ ∃ j, j < 6 ∧ o1.1 102 43 = nI j ∧ MB o1 j b := fun b u => heldM_lt a7 n1 (a7.2.1 43 (by decide) (by decide) (by decide) (by decide) (by decide)) n7 u
    have s43 : o1.1 102 43 = o.1 102 43 := a7.2.1 43 (by decide) (by decide) (by decide) (by decide) (by decide)
    have fs : ∀ i, i = 0 ∨ i = 1 ∨ i = 2 ∨ i = 7 ∨ i = 8 ∨ 23 ≤ i → o1.1 102 i = o.1 102 i := fun i hi => a7.2.1 i (by omega) (by omega) (by omega) (by omega) (by omega)
    have fm : ∀ a, a ≠ 102 → (a < 108 ∨ 114 < a) → o1.1 a = o.1 a := a7.1
    cases r with
    | false =>
      rw [if_pos (show b2i false = 0 by decide), if_pos (show b2i false = 0 by decide), rI_sl (show (2 : Nat) ≠ 1 by decide), a8, rI_sl (show (10 : Nat) ≠ 9 by decide), a9]
      have hbo : HeldC (wI h1 31 1 0) b := by
        rw [HeldC_at]
        show HeldAt (wI h1 31 1 0) (h1.2.2 1 10) b
        rw [a6 1 10 (by decide)]
        exact HeldAt_lt n4 (fun a u v => by rw [rI_ne (by omega)]; exact a3 a (by omega) (by omega)) c.2.2
      refine ⟨_, _, _, rfl, rfl, g, b, cs, c.eq2 (fun a u v => by rw [rI_ne (by omega)]; exact a3 a (by omega) (by omega)) hbo, m.eq2 (fun a u v => by rw [rI_ne (by omega)]; exact fm a (by omega) (by omega)) (fun i hi => by rw [rI_sl (by omega)]; exact fs i (by omega)) ?_, ht,
        ⟨0, tx, ⟨rI_eq _ _ _ _, by omega, fun i hi => absurd hi (by omega)⟩, ⟨rI_eq _ _ _ _, by omega, fun i hi => absurd hi (by omega)⟩, by rw [rI_ne (by decide), fm 115 (by decide) (by decide)]; exact t3⟩,
        ⟨nb, n1, by rw [rI_ne (by decide), a3 0 (by decide) (by omega)]; exact n2, by rw [rI_sl (by decide), fs 7 (by decide)]; exact n3, by show Lc (h1.2.2 1 10) nb; rw [a6 1 10 (by decide)]; exact n4, by show Lc (h1.2.2 16 10) nb; rw [a6 16 10 (by decide)]; exact n5, by rw [rI_sl (by decide), fs 8 (by decide)]; exact n6, by rw [rI_sl (by decide), fs 43 (by decide)]; exact n7⟩,
        r3.eq (by rw [rI_ne (by decide), a3 9 (by decide) (by omega)]) (by rw [rI_ne (by decide), a3 11 (by decide) (by omega)]) (by rw [rI_ne (by decide), a3 13 (by decide) (by omega)]),
        r4.eq (by rw [rI_ne (by decide), a3 9 (by decide) (by omega)]) (by rw [rI_ne (by decide), a3 _ (by decide) (by omega)]) (by rw [rI_sl (by decide), fs _ (by decide)]) (by rw [rI_ne (by decide), fm _ (by decide) (by decide)]) (by rw [rI_ne (by decide), fm _ (by decide) (by decide)]) (by rw [rI_ne (by decide), fm _ (by decide) (by decide)]),
        r5.eq (by rw [rI_ne (by decide), a3 11 (by decide) (by omega)]) (by rw [rI_ne (by decide), a3 _ (by decide) (by omega)]) (by rw [rI_sl (by decide), fs _ (by decide)]) (by rw [rI_ne (by decide), fm _ (by decide) (by decide)]),
        r6.eq (by rw [rI_ne (by decide), a3 13 (by decide) (by omega)]) (by rw [rI_ne (by decide), a3 _ (by decide) (by omega)]) (by rw [rI_sl (by decide), fs _ (by decide)]) (by rw [rI_ne (by decide), fm _ (by decide) (by decide)]) (by rw [rI_ne (by decide), fm _ (by decide) (by decide)]),
        r7.lt (fun a u v => by rw [rI_ne (by omega)]; exact a3 a (by omega) (by omega)) (by rw [rI_ne (by decide), a3 0 (by decide) (by omega)]) (fun b' u => ?_) (fun a u v => by rw [rI_ne (by omega)]; exact fm a (by omega) (by omega)) (fun i u v => by rw [rI_sl (by omega)]; exact fs i (by omega)) (fun b' u => ?_),
        r8.eq (by rw [rI_ne (by decide), a3 63 (by decide) (by omega)]) (by rw [rI_ne (by decide), a3 _ (by decide) (by omega)]) (by rw [rI_sl (by decide), fs _ (by decide)]) (by rw [rI_ne (by decide), fm _ (by decide) (by decide)]),
        r9.eq (fun t u v => by rw [rI_ne (by omega)]; exact a3 t (by omega) (by omega)) (fun t u => by show h1.2.1 t = _; rw [a5]) (by rw [rI_ne (by decide), fm _ (by decide) (by decide)]) (by rw [rI_ne (by decide), fm _ (by decide) (by decide)]) (by show o1.2.1 141 = _; rw [a7.2.2.2.2.2])⟩
      · have hm1 := heldM_lt (s := 8) a7 n1 (fs 8 (by decide)) n6 m.1.2.2.2.2.2.1
        unfold HeldM
        rw [rI_sl (by decide)]
        rcases hm1 with u | ⟨j, u1, u2, u3⟩
        · exact Or.inl u
        · exact Or.inr ⟨j, u1, u2, MB_eq (rI_ne (by decide)) (rI_ne (by decide)) (rI_ne (by decide)) (rI_ne (by decide)) (rI_ne (by decide)) (rI_ne (by decide)) u3⟩
      · show HeldAt (wI h1 31 1 0) (h1.2.2 16 10) b'
        rw [a6 16 10 (by decide)]
        exact HeldAt_lt n5 (fun a u v => by rw [rI_ne (by omega)]; exact a3 a (by omega) (by omega)) u
      · rw [rI_sl (by decide)]
        rcases heldOld b' u with u | ⟨j, u1, u2, u3⟩
        · exact Or.inl u
        · exact Or.inr ⟨j, u1, u2, MB_eq (rI_ne (by decide)) (rI_ne (by decide)) (rI_ne (by decide)) (rI_ne (by decide)) (rI_ne (by decide)) (rI_ne (by decide)) u3⟩
    | true =>
      obtain ⟨l, ⟨okl, cb⟩, e2, e3⟩ := a11 rfl
      have ok := ofM_ok okl
      have mb : MB o1 nb (ofM l) := ⟨l, okl, e3, e2, rfl⟩
      generalize hh3 : wR (wI h1 31 1 0) 1 10 (some (66 + 4 * nb)) = h3
      have c3 : ∀ a, a ≠ 31 → h3.1 a = h1.1 a := fun a u => by rw [← hh3, rR_1, rI_ne u]
      have ref3 : h3.2.2 1 10 = some (66 + 4 * nb) := by rw [← hh3, rR, if_pos ⟨rfl, rfl⟩]
      have refo : ∀ x i, ¬ (x = 1 ∧ i = 10) → h3.2.2 x i = h1.2.2 x i := fun x i u => by rw [← hh3, rR, if_neg u]; rfl
      have l3 : h3.2.1 = h1.2.1 := by rw [← hh3]; rfl
      have c3o : ∀ a, a ≠ 31 → (a < 66 + 4 * nb ∨ 66 + 4 * nb + 4 ≤ a) → h3.1 a = h.1 a := fun a u v => (c3 a u).trans (a3 a u v)
      have cb3 : CB h3 (66 + 4 * nb) (ofM l) := CB_eq2 (fun a u v => c3 a (by omega)) cb
      have hb3 : HeldC h3 (ofM l) := by rw [HeldC_at, ref3]; exact cb3
      obtain ⟨⟨e1, e22, e33, e4, e5, e6, e7, e8⟩, cr, hbb⟩ := c
      obtain ⟨h4, d1, d2, d3, d4⟩ := holdS (F := F) (h0 := h3) (g := g) (b := ofM l) (by omega) e22 (by rw [c3o 1 (by decide) (by omega)]; exact e1) (by rw [c3o 2 (by decide) (by omega)]; exact e33) (by rw [c3o 3 (by decide) (by omega)]; exact e4) ok hb3 g.1 0 F h3 (by omega) (by omega) (fun _ _ _ => rfl) rfl (fun c hc => absurd hc (by omega))
      have c4 : ∀ a, a ≠ 31 → a ≠ 15 → a ≠ 5 → (a < 66 + 4 * nb ∨ 66 + 4 * nb + 4 ≤ a) → h4.1 a = h.1 a := fun a u u2 u3 v => (d2 a u2 u3).trans (c3o a u v)
      have cb4 : CB (wI h4 0 5 (nI (nb + 1))) (66 + 4 * nb) (ofM l) := CB_eq2 (fun a u v => by rw [rI_ne (by omega)]; exact d2 a (by omega) (by omega)) cb3
      have hb4 : HeldC (wI h4 0 5 (nI (nb + 1))) (ofM l) := by
        rw [HeldC_at]
        show HeldAt (wI h4 0 5 (nI (nb + 1))) (h4.2.2 1 10) (ofM l)
        rw [d3, ref3]; exact cb4
      have hold : f_X7_hold F (66 + 4 * nb) (wI h1 31 1 0) = some ((), h4) := by
        unfold f_X7_hold
        rw [if_pos hz, lth_eq, hh3]
        exact d1
      rw [if_neg (show ¬ b2i true = 0 by decide), if_neg (show ¬ b2i true = 0 by decide), hold, bnd_some, lth_eq, lth_eq, lth_eq, rI_eq, c4 0 (by decide) (by decide) (by decide) (by omega), n2, nI_1, nI_pred, rI_sl (show (7 : Nat) ≠ 9 by decide), fs 7 (by decide), n3, rI_sl (show (7 : Nat) ≠ 8 by decide), rI_sl (show (7 : Nat) ≠ 9 by decide), fs 7 (by decide), n3, nI_1, rI_sl (show (8 : Nat) ≠ 7 by decide), rI_eq]
      generalize hho : wI (wI (wI o1 102 9 0) 102 8 (nI nb)) 102 7 (nI (nb + 1)) = o2
      have fs2 : ∀ i, i = 0 ∨ i = 1 ∨ i = 2 ∨ 23 ≤ i → o2.1 102 i = o.1 102 i := fun i hi => by rw [← hho, rI_sl (by omega), rI_sl (by omega), rI_sl (by omega)]; exact fs i (by omega)
      have fo : ∀ a, a ≠ 102 → o2.1 a = o1.1 a := fun a u => by rw [← hho, rI_ne u, rI_ne u, rI_ne u]
      have fm2 : ∀ a, a ≠ 102 → (a < 108 ∨ 114 < a) → o2.1 a = o.1 a := fun a u v => (fo a u).trans (fm a u v)
      have s8 : o2.1 102 8 = nI nb := by rw [← hho, rI_sl (by decide), rI_eq]
      have s7 : o2.1 102 7 = nI (nb + 1) := by rw [← hho, rI_eq]
      have s9 : o2.1 102 9 = nI 0 := by rw [← hho, rI_sl (by decide), rI_sl (by decide), rI_eq]; rfl
      have l2 : o2.2 = o.2 := by rw [← hho]; exact a7.2.2.2.2.2
      refine ⟨_, _, _, rfl, rfl, g, ofM l, cs, ⟨⟨?_, e22, ?_, ?_, ?_, fun i hi d hd => ?_, HeldC_pace hb4, semB_ok ok⟩, ?_, hb4⟩, m.eq2 (fun a u v => fm2 a (by omega) (by omega)) (fun i hi => fs2 i (by omega)) (Or.inr ⟨nb, h6, s8, MB_eq (fo _ (by decide)) (fo _ (by decide)) (fo _ (by decide)) (fo _ (by decide)) (fo _ (by decide)) (fo _ (by decide)) mb⟩), ht,
        ⟨0, tx, ⟨?_, by omega, fun i hi => absurd hi (by omega)⟩, ⟨s9, by omega, fun i hi => absurd hi (by omega)⟩, by rw [fm2 115 (by decide) (by decide)]; exact t3⟩,
        ⟨nb + 1, by omega, rI_eq _ _ _ _, s7, by show Lc (h4.2.2 1 10) (nb + 1); rw [d3, ref3]; exact Or.inr ⟨nb, by omega, rfl⟩, by show Lc (h4.2.2 16 10) (nb + 1); rw [d3, refo 16 10 (by decide), a6 16 10 (by decide)]; exact n5.mono (by omega), by rw [s8]; exact Or.inr ⟨nb, by omega, rfl⟩, by rw [fs2 43 (by decide)]; exact n7.mono (by omega)⟩,
        r3.eq (by rw [rI_ne (by decide), c4 9 (by decide) (by decide) (by decide) (by omega)]) (by rw [rI_ne (by decide), c4 11 (by decide) (by decide) (by decide) (by omega)]) (by rw [rI_ne (by decide), c4 13 (by decide) (by decide) (by decide) (by omega)]),
        r4.eq (by rw [rI_ne (by decide), c4 9 (by decide) (by decide) (by decide) (by omega)]) (by rw [rI_ne (by decide), c4 _ (by decide) (by decide) (by decide) (by omega)]) (fs2 _ (by decide)) (fm2 _ (by decide) (by decide)) (fm2 _ (by decide) (by decide)) (fm2 _ (by decide) (by decide)),
        r5.eq (by rw [rI_ne (by decide), c4 11 (by decide) (by decide) (by decide) (by omega)]) (by rw [rI_ne (by decide), c4 _ (by decide) (by decide) (by decide) (by omega)]) (fs2 _ (by decide)) (fm2 _ (by decide) (by decide)),
        r6.eq (by rw [rI_ne (by decide), c4 13 (by decide) (by decide) (by decide) (by omega)]) (by rw [rI_ne (by decide), c4 _ (by decide) (by decide) (by decide) (by omega)]) (fs2 _ (by decide)) (fm2 _ (by decide) (by decide)) (fm2 _ (by decide) (by decide)),
        r7.lt (fun a u v => by rw [rI_ne (by omega)]; exact c4 a (by omega) (by omega) (by omega) (by omega)) (by rw [rI_sl (by decide), c4 0 (by decide) (by decide) (by decide) (by omega)]) (fun b' u => ?_) (fun a u v => fm2 a (by omega) (by omega)) (fun i u v => fs2 i (by omega)) (fun b' u => ?_),
        r8.eq (by rw [rI_ne (by decide), c4 63 (by decide) (by decide) (by decide) (by omega)]) (by rw [rI_ne (by decide), c4 _ (by decide) (by decide) (by decide) (by omega)]) (fs2 _ (by decide)) (fm2 _ (by decide) (by decide)),
        r9.eq (fun t u v => by rw [rI_ne (by omega)]; exact c4 t (by omega) (by omega) (by omega) (by omega)) (fun t u => by show h4.2.1 t = _; rw [d3, l3, a5]) (fm2 _ (by decide) (by decide)) (fm2 _ (by decide) (by decide)) (by rw [l2])⟩
      · rw [rI_ne (by decide), c4 1 (by decide) (by decide) (by decide) (by omega)]; exact e1
      · rw [rI_ne (by decide), c4 2 (by decide) (by decide) (by decide) (by omega)]; exact e33
      · rw [rI_ne (by decide), c4 3 (by decide) (by decide) (by decide) (by omega)]; exact e4
      · rw [rI_ne (by decide), c4 4 (by decide) (by decide) (by decide) (by omega)]; exact e5
      · rw [rI_ne (by decide)]; exact d4 i hi d hd
      · exact cr.eq (by rw [rI_ne (by decide), c4 _ (by decide) (by decide) (by decide) (by omega)]) (by rw [rI_ne (by decide), c4 _ (by decide) (by decide) (by decide) (by omega)]) (by rw [rI_ne (by decide), c4 _ (by decide) (by decide) (by decide) (by omega)])
      · rw [rI_ne (by decide), d2 31 (by decide) (by decide), ← hh3, rR_1, rI_eq]; rfl
      · show HeldAt (wI h4 0 5 (nI (nb + 1))) (h4.2.2 16 10) b'
        rw [d3, refo 16 10 (by decide), a6 16 10 (by decide)]
        exact HeldAt_lt n5 (fun a u v => by rw [rI_ne (by omega)]; exact c4 a (by omega) (by omega) (by omega) (by omega)) u
      · rw [fs2 43 (by decide), ← s43]
        rcases heldOld b' u with u | ⟨j, u1, u2, u3⟩
        · exact Or.inl u
        · exact Or.inr ⟨j, u1, u2, MB_eq (fo _ (by decide)) (fo _ (by decide)) (fo _ (by decide)) (fo _ (by decide)) (fo _ (by decide)) (fo _ (by decide)) u3⟩
  · rw [if_neg h6, if_pos (show nb = 6 by omega)]
    exact ⟨_, h, o, rfl, rfl, same⟩
