def FacSpec (F D e : Nat) : Prop := ∀ (z n p s : Nat) (tx : Nat → Nat) (h : PH), EC h z n tx p s → ∃ (r : Bool) (q : Nat) (ts : List Int) (h' : PH), f_grp_X5_either F D 2 (nI e) h = some ((), h') ∧ FrX z s h h' ∧ p ≤ q ∧ q ≤ n ∧ (r = true → XOK z n tx p s h' q ts ∧ ∀ m, m ≤ 2 * e + 2 → okT ts m (m + 1)) ∧ (r = false → XNO z s h' q) ∧
  ∀ (c base sg k : Nat) (S : List Nat) (o : PH), c < 60 → MO o n tx p base sg (List.replicate k 33 ++ S) → topNo (fun b => b = 33) S → opens (List.replicate k 33 ++ S) = e →
    (r = true → ∃ K o', K ≤ q - p ∧ (∀ f, fL_X10_takesE_22 F (f + K) (nI c) 1 o = fL_X10_takesE_22 F f (nI c) 0 o') ∧ MO o' n tx q base (sg + ts.length + k) S ∧ atS (o'.1 113) mT sg (ts ++ List.replicate k (-1)) ∧ FrE c sg o o') ∧
    (r = false → ∃ K o', K ≤ q - p + 1 ∧ (∀ f, fL_X10_takesE_22 F (f + K) (nI c) 1 o = some (0, o')) ∧ o'.1 102 10 = nI q ∧ FrE c sg o o')
def ExSpec (F D w e ht : Nat) (pop : Nat → Prop) : Prop := ∀ (z n p s : Nat) (tx : Nat → Nat) (h : PH), EC h z n tx p s → ∃ (r : Bool) (q : Nat) (ts : List Int) (h' : PH), f_grp_X5_either F D w (nI e) h = some ((), h') ∧ FrX z s h h' ∧ p ≤ q ∧ q ≤ n ∧ (r = true → XOK z n tx p s h' q ts ∧ (∀ m, m ≤ ht → okT ts m (m + 1)) ∧ ∀ b, pop b → ¬ byA n tx q = nI b) ∧ (r = false → XNO z s h' q) ∧
  ∀ (c base sg : Nat) (S : List Nat) (o : PH), c < 60 → MO o n tx p base sg S → topNo (fun b => b = 33 ∨ pop b) S → opens S = e →
    (r = true → ∃ K o' P ts', K ≤ q - p ∧ (∀ f, fL_X10_takesE_22 F (f + K) (nI c) 1 o = fL_X10_takesE_22 F f (nI c) 0 o') ∧ MO o' n tx q base (sg + ts'.length) (P ++ S) ∧ (∀ b ∈ P, pop b) ∧ ts = ts' ++ P.map emT ∧ atS (o'.1 113) mT sg ts' ∧ FrE c sg o o') ∧
    (r = false → ∃ K o', K ≤ q - p + 1 ∧ (∀ f, fL_X10_takesE_22 F (f + K) (nI c) 1 o = some (0, o')) ∧ o'.1 102 10 = nI q ∧ FrE c sg o o')
theorem topNo.mono {p q : Nat → Prop} (h : ∀ b, q b → p b) : ∀ {S : List Nat}, topNo p S → topNo q S
  | [], _ => trivial
  | b :: _, u => fun z => u (h b z)
theorem FacSpec.ex {F D e : Nat} (f : FacSpec F D e) : ExSpec F D 2 e (2 * e + 2) (fun _ => False) := by
  intro z n p s tx h ec
  obtain ⟨r, q, ts, h', a1, a2, a3, a4, a5, a6, a7⟩ := f z n p s tx h ec
  refine ⟨r, q, ts, h', a1, a2, a3, a4, fun hr => ⟨(a5 hr).1, (a5 hr).2, fun b hb => hb.elim⟩, a6, fun c base sg S o hc m ht ho => ?_⟩
  obtain ⟨b1, b2⟩ := a7 c base sg 0 S o hc m (ht.mono (fun b hb => Or.inl hb)) ho
  refine ⟨fun hr => ?_, b2⟩
  obtain ⟨K, o', k1, k2, k3, k4, k5⟩ := b1 hr
  refine ⟨K, o', [], ts, k1, k2, k3, fun b hb => absurd hb List.not_mem_nil, by rw [List.map_nil, List.append_nil], ?_, k5⟩
  have : ts ++ List.replicate 0 (-1) = ts := by rw [List.replicate_zero, List.append_nil]
  rw [this] at k4
  exact k4
/-- the model meets & or | behind a part -/
theorem opM {F c n p base sg op : Nat} {tx : Nat → Nat} {P S : List Nat} {o : PH} (hF : 200 ≤ F) (hop : op = 38 ∨ op = 124) (m : MO o n tx p base sg (P ++ S)) (hP : ∀ b ∈ P, popB (nI op) b) (hS : topNo (popB (nI op)) S) (hby : byA n tx p = nI op) :
    ∃ o', (∀ f, fL_X10_takesE_22 F (f + 1) (nI c) 0 o = fL_X10_takesE_22 F f (nI c) 1 o') ∧ MO o' n tx (p + 1) base (sg + P.length) (op :: S) ∧ atS (o'.1 113) mT sg (P.map emT) ∧ FrE c sg o o' := by
  have hp : p < n := byA_lt (n := n) (tx := tx) (by rw [hby]; rcases hop with rfl | rfl <;> decide)
  have hn := m.1.2.1
  have hroom := m.2.2.2.2.2.2.2.1
  have hb5 := m.2.2.2.2.2.2.2.2
  rw [List.length_append] at hroom
  obtain ⟨o1, s1, s2, s3, s4⟩ := settleM (F := F) (c := c) hS P F sg o (by omega) hP m
  have hin : inb (nI S.length) 101 = true := inb_nI (by omega) (by decide)
  have mp := s2.push (b := op) hp (by omega) (by omega) (by omega)
  refine ⟨_, fun f => ?_, mp, ?_, s4.trans (Nat.le_refl _) FrE.push⟩
  · have e1 : fL_X10_takesE_22 F (f + 1) (nI c) 0 o = fL_X10_takesE_122 F (fun (x11 : Int32) (x12 : Int32) (h13 : PH) => (fL_X10_takesE_22 F f x11 x12 h13)) (nI c) (nI op) o := by
      rw [fL_X10_takesE_22, peekM m.1 m.2.1 m.2.2.1, bnd_some, if_pos (show (0 : Int32) = 0 from rfl), hby]
      rcases hop with rfl | rfl
      · rw [if_pos (show nI 38 = (38 : Int32) from rfl)]
      · rw [if_neg (show ¬ nI 124 = (38 : Int32) by decide), if_pos (show nI 124 = (124 : Int32) from rfl)]
    rw [e1]
    unfold fL_X10_takesE_122 f_X10_settle
    rw [s1, bnd_some, s2.2.2.2.2.2.1, if_pos hin, lth_eq, ix_nI (by omega), lth_eq, rI_ne (show (102 : Nat) ≠ 114 by decide), s2.2.2.2.2.2.1, nI_1, lth_eq, rI_sl (show (10 : Nat) ≠ 21 by decide), rI_ne (show (102 : Nat) ≠ 114 by decide), s2.2.1, nI_1]
  · rw [rI_ne (by decide), rI_ne (by decide), rI_ne (by decide)]; exact s3
theorem emT_len (P : List Nat) : (P.map emT).length = P.length := List.length_map ..
theorem okT_op {op m : Nat} (hop : op = 38 ∨ op = 124) : okT [emT op] (m + 2) (m + 1) := by
  rcases hop with rfl | rfl
  · exact Or.inr (Or.inl ⟨Or.inl rfl, by omega, rfl⟩)
  · exact Or.inr (Or.inl ⟨Or.inr rfl, by omega, rfl⟩)
theorem exLoop {F D w e ht op : Nat} {code : Int32} {pop : Nat → Prop} {LF : Nat → Int32 → Int32 → PH → Option (Unit × PH)} (hF : 200 ≤ F) (sub : ExSpec F D w e ht pop) (hop : op = 38 ∨ op = 124) (hcode : code = cT (emT op)) (hpop : ∀ b, popB (nI op) b ↔ (pop b ∨ b = op)) (hno : ∀ b, pop b → ¬ op = b) (hno33 : ¬ pop 33)
    (hLF : ∀ f x1 x2 h, LF (f + 1) x1 x2 h = (if (100 : Int32) ≤ x2 then (some ((), h)) else (if (h.1 31 4) = 0 then (if (h.1 31 3) = nI op then (bnd (f_X5_step F h) fun _ h5 => (bnd (f_grp_X5_either F D w x1 h5) fun _ h6 => (omat (h6.2.2 31 5) none fun z7 => if isBench z7 = true then (bnd (f_X2_addStep F z7 code h6) fun _ h8 => (LF f x1 (x2 + (1 : Int32)) h8)) else none))) else (some ((), h))) else (some ((), h))))) {z n : Nat} {tx : Nat → Nat} :
    ∀ (j i q1 s1 f : Nat) (h1 : PH), n ≤ q1 + j → i + 1 ≤ q1 → j + 1 < f → EC h1 z n tx q1 s1 → (∀ b, pop b → ¬ byA n tx q1 = nI b) → ∃ (r : Bool) (q : Nat) (ts2 : List Int) (h' : PH), LF f (nI e) (nI i) h1 = some ((), h') ∧ FrX z s1 h1 h' ∧ q1 ≤ q ∧ q ≤ n ∧
      (r = true → EC h' z n tx q (s1 + ts2.length) ∧ atS (h'.1 (z + 3)) cT s1 ts2 ∧ ts2.length + q1 ≤ q ∧ (∀ m, m + 1 ≤ ht → okT ts2 (m + 1) (m + 1)) ∧ (∀ b, pop b ∨ b = op → ¬ byA n tx q = nI b)) ∧ (r = false → XNO z s1 h' q) ∧
      ∀ (c base sg : Nat) (P S : List Nat) (o : PH), c < 60 → MO o n tx q1 base sg (P ++ S) → (∀ b ∈ P, pop b ∨ b = op) → topNo (fun b => b = 33 ∨ (pop b ∨ b = op)) S → opens S = e →
        (r = true → ∃ K o' P' ts', K ≤ q - q1 ∧ (∀ f, fL_X10_takesE_22 F (f + K) (nI c) 0 o = fL_X10_takesE_22 F f (nI c) 0 o') ∧ MO o' n tx q base (sg + ts'.length) (P' ++ S) ∧ (∀ b ∈ P', pop b ∨ b = op) ∧ P.map emT ++ ts2 = ts' ++ P'.map emT ∧ atS (o'.1 113) mT sg ts' ∧ FrE c sg o o') ∧
        (r = false → ∃ K o', K ≤ q - q1 + 1 ∧ (∀ f, fL_X10_takesE_22 F (f + K) (nI c) 0 o = some (0, o')) ∧ o'.1 102 10 = nI q ∧ FrE c sg o o') := by
  intro j
  induction j with
  | zero =>
    intro i q1 s1 f h1 hj hi hf ec st
    obtain ⟨f, rfl⟩ : ∃ m, f = m + 1 := ⟨f - 1, by omega⟩
    have hq := ec.2.2.2.1
    have hn := ec.1.2.1
    have hb : ¬ byA n tx q1 = nI op := by
      unfold byA
      rw [if_neg (by omega)]
      rcases hop with rfl | rfl <;> decide
    refine ⟨true, q1, [], h1, ?_, FrX.refl _ _ _, Nat.le_refl _, hq, fun _ => ⟨ec, trivial, by simp, fun m hm => rfl, fun b hb2 => ?_⟩, fun q => absurd q (by decide), fun c base sg P S o hc m hP hS ho => ⟨fun _ => ⟨0, o, P, [], by omega, fun f => rfl, m, hP, by rw [List.append_nil, List.nil_append], trivial, FrE.refl _ _ _⟩, fun q => absurd q (by decide)⟩⟩
    · rw [hLF, show (100 : Int32) = nI 100 from rfl, if_l (by decide) (by omega), if_neg (show ¬ 100 ≤ i by omega), ec.2.2.2.2.1, if_pos (show (0 : Int32) = 0 from rfl), ec.2.2.1, if_neg hb]
    · rcases hb2 with h | h
      · exact st b h
      · rw [h]; exact hb
  | succ j ih =>
    intro i q1 s1 f h1 hj hi hf ec st
    obtain ⟨f, rfl⟩ : ∃ m, f = m + 1 := ⟨f - 1, by omega⟩
    have hq := ec.2.2.2.1
    have hn := ec.1.2.1
    by_cases hb : byA n tx q1 = nI op
    · have hp : q1 < n := byA_lt (n := n) (tx := tx) (by rw [hb]; rcases hop with rfl | rfl <;> decide)
      obtain ⟨h2, a1, a2, a3⟩ := stepC (F := F) ec hp
      obtain ⟨r1, q2, tsB, h3, b1, b2, b3, b4, b5, b6, b7⟩ := sub z n (q1 + 1) s1 tx h2 a2
      have head : LF (f + 1) (nI e) (nI i) h1 = (omat (h3.2.2 31 5) none fun z7 => if isBench z7 = true then (bnd (f_X2_addStep F z7 code h3) fun _ h8 => (LF f (nI e) (nI (i + 1)) h8)) else none) := by
        rw [hLF, show (100 : Int32) = nI 100 from rfl, if_l (by decide) (by omega), if_neg (show ¬ 100 ≤ i by omega), ec.2.2.2.2.1, if_pos (show (0 : Int32) = 0 from rfl), ec.2.2.1, if_pos hb, a1, bnd_some, b1, bnd_some, nI_1]
      -- the model's pile up to the part behind
      have mid : ∀ (c base sg : Nat) (P S : List Nat) (o : PH), c < 60 → MO o n tx q1 base sg (P ++ S) → (∀ b ∈ P, pop b ∨ b = op) → topNo (fun b => b = 33 ∨ (pop b ∨ b = op)) S → opens S = e →
          ∃ o1, (∀ f, fL_X10_takesE_22 F (f + 1) (nI c) 0 o = fL_X10_takesE_22 F f (nI c) 1 o1) ∧ MO o1 n tx (q1 + 1) base (sg + P.length) (op :: S) ∧ atS (o1.1 113) mT sg (P.map emT) ∧ FrE c sg o o1 ∧ topNo (fun b => b = 33 ∨ pop b) (op :: S) ∧ opens (op :: S) = e := by
        intro c base sg P S o hc m hP hS ho
        obtain ⟨o1, k1, k2, k3, k4⟩ := opM (F := F) (c := c) hF hop m (fun b hb => (hpop b).mpr (hP b hb)) (hS.mono (fun b hb => Or.inr ((hpop b).mp hb))) hb
        refine ⟨o1, k1, k2, k3, k4, fun z => ?_, ?_⟩
        · rcases z with z | z
          · omega
          · exact hno op z rfl
        · show opens S + (if op = 33 ∨ op = 40 then 1 else 0) = e
          rw [if_neg (by omega), Nat.add_zero]; exact ho
      cases r1 with
      | true =>
        obtain ⟨⟨x1, x2, x3, x4⟩, x5, x6⟩ := b5 rfl
        have hs1 := ec.2.2.2.2.2.2.2.2
        obtain ⟨h4, l1, l2, l3, l4⟩ := addStepC (F := F) (x := code) x1 (by omega)
        obtain ⟨r, q, ts2, h5, c1, c2, c3, c4, c5, c6, c7⟩ := ih (i + 1) q2 (s1 + tsB.length + 1) f h4 (by omega) (by omega) (by omega) l2 x6
        have fX : FrX z s1 h1 h4 := (a3.trans (Nat.le_refl _) b2).trans (Nat.le_add_right _ _) l3
        refine ⟨r, q, tsB ++ (emT op :: ts2), h5, ?_, fX.trans (by omega) c2, by omega, c4, fun hr => ?_, fun hr => ?_, fun c base sg P S o hc m hP hS ho => ?_⟩
        · rw [head, x1.2.2.2.2.2.1, omat_some, if_pos x1.2.2.2.2.2.2.1, l1, bnd_some]; exact c1
        · obtain ⟨d1, d2, d3, d4, d5⟩ := c5 hr
          refine ⟨by rw [List.length_append, List.length_cons, show s1 + (tsB.length + (ts2.length + 1)) = s1 + tsB.length + 1 + ts2.length by omega]; exact d1, ?_, by rw [List.length_append, List.length_cons]; omega, fun m hm => ?_, d5⟩
          · rw [atS_app]
            refine ⟨atS_eq (fun j hj => ?_) x2, ⟨?_, d2⟩⟩
            · rw [c2.2.2.2.1 j (by omega), l3.2.2.2.1 j (by omega)]
            · rw [c2.2.2.2.1 _ (by omega), l4, hcode]
          · exact okT_app (x5 (m + 1) hm) (okT_app (a := [emT op]) (okT_op hop) (d4 m hm))
        · obtain ⟨d1, t, d2, d3⟩ := c6 hr
          exact ⟨d1, t, by omega, d3⟩
        · obtain ⟨o1, k1, k2, k3, k4, k5, k6⟩ := mid c base sg P S o hc m hP hS ho
          obtain ⟨K1, o2, P2, tsB', g1, g2, g3, g4, g5, g6, g7⟩ := (b7 c base (sg + P.length) (op :: S) o1 hc k2 k5 k6).1 rfl
          have g3' : MO o2 n tx q2 base (sg + P.length + tsB'.length) ((P2 ++ [op]) ++ S) := by
            rw [List.append_assoc]; exact g3
          obtain ⟨y1, y2⟩ := c7 c base (sg + P.length + tsB'.length) (P2 ++ [op]) S o2 hc g3' (fun b hb => by
            rcases List.mem_append.mp hb with h | h
            · exact Or.inl (g4 b h)
            · exact Or.inr (List.mem_singleton.mp h)) hS ho
          have fA : FrE c sg o o2 := k4.trans (Nat.le_add_right _ _) g7
          refine ⟨fun hr => ?_, fun hr => ?_⟩
          · obtain ⟨K2, o3, P3, ts3, u1, u2, u3, u4, u5, u6, u7⟩ := y1 hr
            refine ⟨K2 + K1 + 1, o3, P3, P.map emT ++ tsB' ++ ts3, by omega, fun f => ?_, ?_, u4, ?_, ?_, fA.trans (by omega) u7⟩
            · rw [show f + (K2 + K1 + 1) = f + K2 + K1 + 1 by omega, k1, g2, u2]
            · rw [List.length_append, List.length_append, emT_len, show sg + (P.length + tsB'.length + ts3.length) = sg + P.length + tsB'.length + ts3.length by omega]; exact u3
            · rw [g5]
              rw [List.map_append, List.map_cons, List.map_nil, List.append_assoc] at u5
              have u5' : List.map emT P2 ++ (emT op :: ts2) = ts3 ++ List.map emT P3 := u5
              simp only [List.append_assoc, List.cons_append] at u5' ⊢
              rw [u5']
            · rw [atS_app, atS_app]
              refine ⟨⟨atS_eq (f := o1.1 113) (fun j hj => ?_) k3, atS_eq (f := o2.1 113) (fun j hj => ?_) ?_⟩, ?_⟩
              · rw [emT_len] at hj
                rw [u7.2.2.2.1 j (by omega), g7.2.2.2.1 j (by omega)]
              · rw [emT_len] at hj
                rw [u7.2.2.2.1 j (by omega)]
              · rw [emT_len]; exact g6
              · rw [List.length_append, emT_len, ← Nat.add_assoc]; exact u6
          · obtain ⟨K2, o3, u1, u2, u3, u4⟩ := y2 hr
            exact ⟨K2 + K1 + 1, o3, by omega, fun f => by rw [show f + (K2 + K1 + 1) = f + K2 + K1 + 1 by omega, k1, g2, u2], u3, fA.trans (by omega) u4⟩
      | false =>
        obtain ⟨x1, x2⟩ := b6 rfl
        obtain ⟨h4, l1, l2, l3, l4⟩ := addStepF (F := F) (s := s1) (x := code) x1 x2
        obtain ⟨f, rfl⟩ : ∃ m, f = m + 1 := ⟨f - 1, by omega⟩
        refine ⟨false, q2, [], h4, ?_, (a3.trans (Nat.le_refl _) b2).trans (Nat.le_refl _) l3, by omega, b4, fun q => absurd q (by decide), fun _ => ⟨l2, l4⟩, fun c base sg P S o hc m hP hS ho => ⟨fun q => absurd q (by decide), fun _ => ?_⟩⟩
        · rw [head, x1.2.2.1, omat_some, if_pos x1.2.2.2.1, l1, bnd_some, hLF, l2.1, if_neg (show ¬ (1 : Int32) = 0 by decide), ite_self]
        · obtain ⟨o1, k1, k2, k3, k4, k5, k6⟩ := mid c base sg P S o hc m hP hS ho
          obtain ⟨K1, o2, g1, g2, g3, g4⟩ := (b7 c base (sg + P.length) (op :: S) o1 hc k2 k5 k6).2 rfl
          exact ⟨K1 + 1, o2, by omega, fun f => by rw [← Nat.add_assoc, k1, g2], g3, k4.trans (Nat.le_add_right _ _) g4⟩
    · refine ⟨true, q1, [], h1, ?_, FrX.refl _ _ _, Nat.le_refl _, hq, fun _ => ⟨ec, trivial, by simp, fun m hm => rfl, fun b hb2 => ?_⟩, fun q => absurd q (by decide), fun c base sg P S o hc m hP hS ho => ⟨fun _ => ⟨0, o, P, [], by omega, fun f => rfl, m, hP, by rw [List.append_nil, List.nil_append], trivial, FrE.refl _ _ _⟩, fun q => absurd q (by decide)⟩⟩
      · rw [hLF, show (100 : Int32) = nI 100 from rfl, if_l (by decide) (by omega), if_neg (show ¬ 100 ≤ i by omega), ec.2.2.2.2.1, if_pos (show (0 : Int32) = 0 from rfl), ec.2.2.1, if_neg hb]
      · rcases hb2 with h | h
        · exact st b h
        · rw [h]; exact hb
theorem exNew {F D w w' e ht op : Nat} {code : Int32} {pop : Nat → Prop} {LF : Nat → Int32 → Int32 → PH → Option (Unit × PH)} (hF : 200 ≤ F) (sub : ExSpec F D w e ht pop) (hop : op = 38 ∨ op = 124) (hcode : code = cT (emT op)) (hpop : ∀ b, popB (nI op) b ↔ (pop b ∨ b = op)) (hno : ∀ b, pop b → ¬ op = b) (hno33 : ¬ pop 33) (hht : 1 ≤ ht)
    (hLF : ∀ f x1 x2 h, LF (f + 1) x1 x2 h = (if (100 : Int32) ≤ x2 then (some ((), h)) else (if (h.1 31 4) = 0 then (if (h.1 31 3) = nI op then (bnd (f_X5_step F h) fun _ h5 => (bnd (f_grp_X5_either F D w x1 h5) fun _ h6 => (omat (h6.2.2 31 5) none fun z7 => if isBench z7 = true then (bnd (f_X2_addStep F z7 code h6) fun _ h8 => (LF f x1 (x2 + (1 : Int32)) h8)) else none))) else (some ((), h))) else (some ((), h)))))
    (hG : ∀ h, f_grp_X5_either F (D + 1) w' (nI e) h = (bnd (f_grp_X5_either F D w (nI e) h) fun _ h1 => LF F (nI e) (0 : Int32) h1)) : ExSpec F (D + 1) w' e (ht - 1) (fun b => pop b ∨ b = op) := by
  intro z n p s tx h ec
  have hn := ec.1.2.1
  obtain ⟨r1, q1, ts1, h1, a1, a2, a3, a4, a5, a6, a7⟩ := sub z n p s tx h ec
  cases r1 with
  | true =>
    obtain ⟨⟨x1, x2, x3, x4⟩, x5, x6⟩ := a5 rfl
    obtain ⟨r, q, ts2, h2, c1, c2, c3, c4, c5, c6, c7⟩ := exLoop (code := code) hF sub hop hcode hpop hno hno33 hLF (n - q1) 0 q1 (s + ts1.length) F h1 (by omega) (by omega) (by omega) x1 x6
    refine ⟨r, q, ts1 ++ ts2, h2, by rw [hG, a1, bnd_some]; exact c1, a2.trans (Nat.le_add_right _ _) c2, by omega, c4, fun hr => ?_, fun hr => ?_, fun c base sg S o hc m hS ho => ?_⟩
    · obtain ⟨d1, d2, d3, d4, d5⟩ := c5 hr
      refine ⟨⟨by rw [List.length_append, ← Nat.add_assoc]; exact d1, ?_, by omega, by rw [List.length_append]; omega⟩, fun m hm => okT_app (x5 m (by omega)) (d4 m (by omega)), d5⟩
      rw [atS_app]
      exact ⟨atS_eq (fun j hj => c2.2.2.2.1 j hj) x2, d2⟩
    · obtain ⟨d1, t, d2, d3⟩ := c6 hr
      exact ⟨d1, t, by omega, d3⟩
    · obtain ⟨K1, o1, P1, ts1', g1, g2, g3, g4, g5, g6, g7⟩ := (a7 c base sg S o hc m (hS.mono (fun b hb => by rcases hb with h | h; exact Or.inl h; exact Or.inr (Or.inl h))) ho).1 rfl
      obtain ⟨y1, y2⟩ := c7 c base (sg + ts1'.length) P1 S o1 hc g3 (fun b hb => Or.inl (g4 b hb)) hS ho
      refine ⟨fun hr => ?_, fun hr => ?_⟩
      · obtain ⟨K2, o3, P3, ts3, u1, u2, u3, u4, u5, u6, u7⟩ := y1 hr
        refine ⟨K2 + K1, o3, P3, ts1' ++ ts3, by omega, fun f => by rw [← Nat.add_assoc, g2, u2], by rw [List.length_append, ← Nat.add_assoc]; exact u3, u4, ?_, ?_, g7.trans (Nat.le_add_right _ _) u7⟩
        · rw [g5, List.append_assoc, u5, List.append_assoc]
        · rw [atS_app]
          exact ⟨atS_eq (fun j hj => u7.2.2.2.1 j hj) g6, u6⟩
      · obtain ⟨K2, o3, u1, u2, u3, u4⟩ := y2 hr
        exact ⟨K2 + K1, o3, by omega, fun f => by rw [← Nat.add_assoc, g2, u2], u3, g7.trans (Nat.le_add_right _ _) u4⟩
  | false =>
    obtain ⟨x1, x2⟩ := a6 rfl
    obtain ⟨f, hf⟩ : ∃ m, F = m + 1 := ⟨F - 1, by omega⟩
    refine ⟨false, q1, [], h1, ?_, a2, a3, a4, fun q => absurd q (by decide), fun _ => ⟨x1, x2⟩, fun c base sg S o hc m hS ho => ⟨fun q => absurd q (by decide), (a7 c base sg S o hc m (hS.mono (fun b hb => by rcases hb with h | h; exact Or.inl h; exact Or.inr (Or.inl h))) ho).2⟩⟩
    have e1 : LF F (nI e) (0 : Int32) h1 = some ((), h1) := by
      have : LF F = LF (f + 1) := by rw [hf]
      rw [this, hLF, x1.1, if_neg (show ¬ (1 : Int32) = 0 by decide), ite_self]
    rw [hG, a1, bnd_some, e1]
