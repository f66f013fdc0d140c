-- tests, factors and what is made of them: the class goes down, the model keeps a pile
theorem MO.push {o : PH} {n p base sg b : Nat} {tx : Nat → Nat} {S : List Nat} (m : MO o n tx p base sg S) (hp : p < n) (hb : b < 128) (h33 : b ≠ 33) (h40 : b ≠ 40) : MO (wI (wI (wI o 114 S.length (nI b)) 102 21 (nI (S.length + 1))) 102 10 (nI (p + 1))) n tx (p + 1) base sg (b :: S) := by
  obtain ⟨⟨t1, t2, t3⟩, m2, m3, m4, m5, m6, m7, m8, m9, m10⟩ := m
  refine ⟨⟨by rw [rI_sl (by decide), rI_sl (by decide), rI_ne (by decide)]; exact t1, t2, by rw [rI_ne (by decide), rI_ne (by decide), rI_ne (by decide)]; exact t3⟩, rI_eq _ _ _ _, by omega, by rw [rI_sl (by decide), rI_sl (by decide), rI_ne (by decide)]; exact m4, ⟨by rw [rI_ne (by decide), rI_ne (by decide), rI_eq], hb, stk_eq (o := wI o 114 S.length (nI b)) (by rw [rI_ne (by decide), rI_ne (by decide)]) (stk_w (Nat.le_refl _) m5)⟩, by rw [rI_sl (by decide), rI_eq, List.length_cons], ?_, by rw [List.length_cons]; omega, m9, m10⟩
  rw [rI_sl (by decide), rI_sl (by decide), rI_ne (by decide), m7]
  show nI (opens S) = nI (opens S + if b = 33 ∨ b = 40 then 1 else 0)
  rw [if_neg (by omega), Nat.add_zero]
theorem MO.pushO {o : PH} {n p base sg b : Nat} {tx : Nat → Nat} {S : List Nat} (m : MO o n tx p base sg S) (hp : p < n) (hb : b < 128) (hbo : b = 33 ∨ b = 40) : MO (wI (wI (wI (wI o 102 22 (nI (opens S + 1))) 114 S.length (nI b)) 102 21 (nI (S.length + 1))) 102 10 (nI (p + 1))) n tx (p + 1) base sg (b :: S) := by
  obtain ⟨⟨t1, t2, t3⟩, m2, m3, m4, m5, m6, m7, m8, m9, m10⟩ := m
  refine ⟨⟨by rw [rI_sl (by decide), rI_sl (by decide), rI_ne (by decide), rI_sl (by decide)]; exact t1, t2, by rw [rI_ne (by decide), rI_ne (by decide), rI_ne (by decide), rI_ne (by decide)]; exact t3⟩, rI_eq _ _ _ _, by omega, by rw [rI_sl (by decide), rI_sl (by decide), rI_ne (by decide), rI_sl (by decide)]; exact m4, ⟨by rw [rI_ne (by decide), rI_ne (by decide), rI_eq], hb, stk_eq (o := wI (wI o 102 22 (nI (opens S + 1))) 114 S.length (nI b)) (by rw [rI_ne (by decide), rI_ne (by decide)]) (stk_w (Nat.le_refl _) (stk_eq (rI_ne (by decide)) m5))⟩, by rw [rI_sl (by decide), rI_eq, List.length_cons], ?_, by rw [List.length_cons]; omega, m9, m10⟩
  rw [rI_sl (by decide), rI_sl (by decide), rI_ne (by decide), rI_eq]
  show nI (opens S + 1) = nI (opens S + if b = 33 ∨ b = 40 then 1 else 0)
  rw [if_pos hbo]
theorem FrE.push {c sg k : Nat} {o : PH} {x y z : Int32} : FrE c sg o (wI (wI (wI o 114 k x) 102 21 y) 102 10 z) := ⟨fun a u _ _ w => by rw [rI_ne u, rI_ne u, rI_ne w], fun j _ _ _ _ _ => by rw [rI_sl (by omega), rI_sl (by omega), rI_ne (by decide)], fun j _ => by rw [rI_ne (by decide), rI_ne (by decide), rI_ne (by decide)], fun j _ => by rw [rI_ne (by decide), rI_ne (by decide), rI_ne (by decide)], rfl⟩
theorem opensM {F n p base sg e b f : Nat} {tx : Nat → Nat} {S : List Nat} {o : PH} {c : Int32} (m : MO o n tx p base sg S) (he : opens S = e) (h4 : e ≤ 4) (hb : b = 33 ∨ b = 40) (hby : byA n tx p = nI b) :
    (e = 4 → fL_X10_takesE_22 F (f + 1) c 1 o = some (0, o)) ∧ (e < 4 → ∃ o', fL_X10_takesE_22 F (f + 1) c 1 o = fL_X10_takesE_22 F f c 1 o' ∧ MO o' n tx (p + 1) base sg (b :: S) ∧ ∀ i, FrE i sg o o') := by
  have hp : p < n := byA_lt (n := n) (tx := tx) (by rw [hby]; rcases hb with rfl | rfl <;> decide)
  have hn := m.1.2.1
  have hlen : S.length ≤ p := by have := m.2.2.2.2.2.2.2.1; have := m.2.2.2.2.2.2.2.2.2; omega
  have e1 : fL_X10_takesE_22 F (f + 1) c 1 o = fL_X10_takesE_43 F (fun (x32 : Int32) (x33 : Int32) (h34 : PH) => (fL_X10_takesE_22 F f x32 x33 h34)) c 1 (nI b) o := by
    rw [fL_X10_takesE_22, peekM m.1 m.2.1 m.2.2.1, bnd_some, if_neg (show ¬ (1 : Int32) = 0 by decide), hby]
    rcases hb with rfl | rfl
    · rw [if_pos (show nI 33 = (33 : Int32) from rfl)]
    · rw [if_neg (show ¬ nI 40 = (33 : Int32) by decide), if_pos (show nI 40 = (40 : Int32) from rfl)]
  constructor
  · intro h
    rw [e1]
    unfold fL_X10_takesE_43
    rw [m.2.2.2.2.2.2.1, he, h, if_pos (show nI 4 = (4 : Int32) from rfl)]
  · intro h
    have hin : inb (nI S.length) 101 = true := inb_nI (by omega) (by decide)
    refine ⟨_, ?_, m.pushO hp (by omega) hb, fun i => (FrE.w (by omega)).trans (Nat.le_refl _) FrE.push⟩
    rw [e1]
    unfold fL_X10_takesE_43
    rw [m.2.2.2.2.2.2.1, if_neg (show ¬ nI (opens S) = (4 : Int32) by rw [he, li4]; exact fun q => by have := (nI_eq (by omega) (by decide)).mp q; omega), lth_eq, nI_1, rI_sl (show (21 : Nat) ≠ 22 by decide), m.2.2.2.2.2.1, if_pos hin, lth_eq, ix_nI (by omega), lth_eq, rI_ne (show (102 : Nat) ≠ 114 by decide), rI_sl (show (21 : Nat) ≠ 22 by decide), m.2.2.2.2.2.1, nI_1, lth_eq, rI_sl (show (10 : Nat) ≠ 21 by decide), rI_ne (show (102 : Nat) ≠ 114 by decide), rI_sl (show (10 : Nat) ≠ 22 by decide), m.2.1, nI_1]
def XOK (z n : Nat) (tx : Nat → Nat) (p s : Nat) (h' : PH) (q : Nat) (ts : List Int) : Prop := EC h' z n tx q (s + ts.length) ∧ atS (h'.1 (z + 3)) cT s ts ∧ p < q ∧ ts.length + p ≤ q
def XNO (z s : Nat) (h' : PH) (q : Nat) : Prop := FC h' z q ∧ ∃ t, s ≤ t ∧ t ≤ 100 ∧ h'.1 z 4 = nI t
theorem EC.no {h h' : PH} {z n p s q : Nat} {tx : Nat → Nat} (e : EC h z n tx p s) (f : FC h' z q) (x : h'.1 z 4 = h.1 z 4) : XNO z s h' q := ⟨f, s, Nat.le_refl _, by have := e.2.2.2.1; have := e.1.2.1; have := e.2.2.2.2.2.2.2.2; omega, by rw [x]; exact e.2.2.2.2.2.2.2.1⟩
theorem testS {F : Nat} {G : Nat → Int32 → PH → Option (Unit × PH)} (hF : 200 ≤ F) {z n p s : Nat} {tx : Nat → Nat} {h : PH} (e : EC h z n tx p s) :
    ∃ (r : Bool) (q : Nat) (ts : List Int) (h' : PH), fL_X5_factor_78 F G h = some ((), h') ∧ FrX z s h h' ∧ p ≤ q ∧ q ≤ n ∧ (r = true → XOK z n tx p s h' q ts ∧ ∀ m, m ≤ 10 → okT ts m (m + 1)) ∧ (r = false → XNO z s h' q) ∧ (ltrI (byA n tx p) = -1 → r = false ∧ q = p) ∧
      ∀ (c base sg k : Nat) (S : List Nat) (o : PH), MO o n tx p base sg (List.replicate k 33 ++ S) → topNo (fun b => b = 33) S →
        (r = true → ∃ o', f_X10_takesTest F o = some (1, o') ∧ MO o' n tx q base (sg + ts.length + k) S ∧ atS (o'.1 113) mT sg (ts ++ List.replicate k (-1)) ∧ FrE c sg o o') ∧
        (r = false → ∃ o', f_X10_takesTest F o = some (0, o') ∧ o'.1 102 10 = nI q ∧ FrE c sg o o') := by
  have hz := isBench_or e.2.2.2.2.2.2.1
  have hn := e.1.2.1
  -- the class, once a part has failed
  have tailF : ∀ (h1 : PH) (q : Nat) (v4 v5 : Int32), FC h1 z q → FrX z s h h1 → h1.1 z 4 = h.1 z 4 → ∃ h', (omat (h1.2.2 31 5) none fun z6 => if isBench z6 = true then (bnd (f_X5_number F h1) fun v7 h7 => (bnd (f_X2_testStep F v4 v5 v7 h7) fun v8 h8 => (bnd (f_X2_addStep F z6 v8 h8) fun v9 h9 => (some ((), h9))))) else none) = some ((), h') ∧ FrX z s h h' ∧ XNO z s h' q := by
    intro h1 q v4 v5 f fr h4
    obtain ⟨h2, n1, n2, n3⟩ := numberF (F := F) (s := s) f
    have h24 : h2.1 z 4 = h.1 z 4 := by
      rw [← h4]
      have hu : h2 = wI h1 31 4 1 := by
        unfold f_X5_number at n1
        rw [f.1, if_neg (show ¬ (1 : Int32) = 0 by decide), lth_eq] at n1
        injection n1 with n1
        injection n1 with _ n1
        exact n1.symm
      rw [hu, rI_ne (by omega)]
    obtain ⟨h3, a1, a2, a3, a4⟩ := addStepF (F := F) (s := s) (x := v4 * (300 : Int32) + v5 * (100 : Int32) + 0) n2 ⟨s, Nat.le_refl _, by have := e.2.2.2.1; have := e.2.2.2.2.2.2.2.2; omega, by rw [h24]; exact e.2.2.2.2.2.2.2.1⟩
    refine ⟨h3, ?_, (fr.trans (Nat.le_refl _) n3).trans (Nat.le_refl _) a3, a2, a4⟩
    unfold f_X2_testStep
    rw [f.2.2.1, omat_some, if_pos f.2.2.2.1, n1, bnd_some, bnd_some, a1, bnd_some]
  obtain ⟨h1, v1, a1, a2, a3⟩ := choiceC (F := F) (w := 3) (fn := ltrI) (by omega) (by decide) (fun b h hb => indexOf3 (by omega) hb) (fun b => by
    rcases ltrI_or b with h | ⟨f, hf, h⟩
    · exact Or.inl h
    · exact Or.inr ⟨f, by omega, h⟩) (by decide) e
  unfold fL_X5_factor_78
  rw [a1, bnd_some]
  rcases a3 with ⟨b1, b2⟩ | ⟨b1, b2, b3, b4⟩
  · -- no letter
    have e34 : h1.1 z 4 = h.1 z 4 := by
      have : h1 = wI h 31 4 1 := by
        unfold f_X5_choice at a1
        rw [if_pos (show 3 < 5 by decide), e.2.2.2.2.1, if_pos (show (0 : Int32) = 0 from rfl), e.2.2.1] at a1
        by_cases hb : byA n tx p = -1
        · rw [if_pos hb, if_neg (show ¬ (0 : Int32) ≤ -1 by decide), lth_eq] at a1
          injection a1 with a1
          injection a1 with _ a1
          exact a1.symm
        · have hp := byA_lt hb
          have ht := (e.1.2.2 p hp).2
          have hby : byA n tx p = nI (tx p) := by unfold byA; rw [if_pos hp]
          rw [if_neg hb, hby, indexOf3 (by omega) (by omega), bnd_some, ← hby, b1, if_neg (show ¬ (0 : Int32) ≤ -1 by decide), lth_eq] at a1
          injection a1 with a1
          injection a1 with _ a1
          exact a1.symm
      rw [this, rI_ne (by omega)]
    obtain ⟨h2, c1, c2, c3⟩ := choiceF (F := F) (s := s) (w := 4) (by decide) b2
    have e24 : h2.1 z 4 = h.1 z 4 := by
      rw [← e34]
      have : h2 = wI h1 31 4 1 := by
        unfold f_X5_choice at c1
        rw [if_pos (show 4 < 5 by decide), b2.1, if_neg (show ¬ (1 : Int32) = 0 by decide), if_neg (show ¬ (0 : Int32) ≤ -1 by decide), lth_eq] at c1
        injection c1 with c1
        injection c1 with _ c1
        exact c1.symm
      rw [this, rI_ne (by omega)]
    obtain ⟨h3, d1, d2, d3⟩ := tailF h2 p v1 0 c2 (a2.trans (Nat.le_refl _) c3) e24
    refine ⟨false, p, [], h3, ?_, d2, Nat.le_refl _, e.2.2.2.1, fun q => absurd q (by decide), fun _ => d3, fun _ => ⟨rfl, rfl⟩, fun c base sg k S o m hS => ⟨fun q => absurd q (by decide), fun _ => ⟨o, ?_, m.2.1, FrE.refl _ _ _⟩⟩⟩
    · rw [c1, bnd_some]; exact d1
    · unfold f_X10_takesTest
      rw [peekM m.1 m.2.1 m.2.2.1, bnd_some, place_rfl, bnd_some, b1, if_neg (show ¬ (0 : Int32) ≤ -1 by decide)]
  · -- a letter
    obtain ⟨f, hf, hfe⟩ := (ltrI_or (byA n tx p)).resolve_left b1
    obtain ⟨h2, v2, c1, c2, c3⟩ := choiceC (F := F) (w := 4) (fn := sgnI) (by omega) (by decide) (fun b h hb => indexOf4 (by omega) hb) (fun b => by
      rcases sgnI_or b with h | ⟨f, hf, h, _⟩
      · exact Or.inl h
      · exact Or.inr ⟨f, by omega, h⟩) (by decide) b4
    have ma : ∀ (c base sg k : Nat) (S : List Nat) (o : PH), MO o n tx p base sg (List.replicate k 33 ++ S) → f_X10_takesTest F o = (bnd (f_X10_in F (byA n tx (p + 1)) (60 : Int32) (62 : Int32) (wI o 102 10 (nI (p + 1)))) fun v6 h6 => (if v6 = 0 then (some ((0 : Int32), h6)) else (lth (wI h6 102 10 ((h6.1 102 10) + (1 : Int32))) fun h8 => (bnd (f_X10_takesNumber F h8) fun v9 h9 => (if v9 = 0 then (some ((0 : Int32), h9)) else (bnd (f_X10_emits F ((((1000 : Int32) * nI f) + ((100 : Int32) * (byA n tx (p + 1) - (60 : Int32)))) + (h9.1 102 11)) h9) fun v11 h11 => (bnd (f_X10_whole F h11) fun v12 h12 => (some ((1 : Int32), h12))))))))) := by
      intro c base sg k S o m
      have t1 : TxtM (wI o 102 10 (nI (p + 1))) n tx := m.1.w102 (by decide)
      unfold f_X10_takesTest
      rw [peekM m.1 m.2.1 m.2.2.1, bnd_some, place_rfl, bnd_some, hfe, if_pos (nI_pos' (show f < 2 ^ 31 by omega)), lth_eq, m.2.1, nI_1, peekM t1 (rI_eq _ _ _ _) (by omega), bnd_some]
    rcases c3 with ⟨d1, d2⟩ | ⟨d1, d2, d3, d4⟩
    · have e14 : h1.1 z 4 = h.1 z 4 := by rw [b4.2.2.2.2.2.2.2.1, e.2.2.2.2.2.2.2.1]
      have e24 : h2.1 z 4 = h.1 z 4 := by
        rw [← e14]
        have : h2 = wI h1 31 4 1 := by
          unfold f_X5_choice at c1
          rw [if_pos (show 4 < 5 by decide), b4.2.2.2.2.1, if_pos (show (0 : Int32) = 0 from rfl), b4.2.2.1] at c1
          by_cases hb : byA n tx (p + 1) = -1
          · rw [if_pos hb, if_neg (show ¬ (0 : Int32) ≤ -1 by decide), lth_eq] at c1
            injection c1 with c1
            injection c1 with _ c1
            exact c1.symm
          · have hp := byA_lt hb
            have ht := (e.1.2.2 (p + 1) hp).2
            have hby : byA n tx (p + 1) = nI (tx (p + 1)) := by unfold byA; rw [if_pos hp]
            rw [if_neg hb, hby, indexOf4 (by omega) (by omega), bnd_some, ← hby, d1, if_neg (show ¬ (0 : Int32) ≤ -1 by decide), lth_eq] at c1
            injection c1 with c1
            injection c1 with _ c1
            exact c1.symm
        rw [this, rI_ne (by omega)]
      obtain ⟨h3, g1, g2, g3⟩ := tailF h2 (p + 1) v1 v2 d2 (a2.trans (Nat.le_refl _) c2) e24
      refine ⟨false, p + 1, [], h3, ?_, g2, by omega, by omega, fun q => absurd q (by decide), fun _ => g3, fun q => absurd q b1, fun c base sg k S o m hS => ⟨fun q => absurd q (by decide), fun _ => ⟨wI o 102 10 (nI (p + 1)), ?_, rI_eq _ _ _ _, FrE.w (by omega)⟩⟩⟩
      · rw [c1, bnd_some]; exact g1
      · rw [ma c base sg k S o m, in_eq, bnd_some]
        rcases signM (x := byA n tx (p + 1)) with ⟨_, hw⟩ | ⟨g, hg, hg1, hg2, hw⟩
        · rw [hw, if_pos (show (0 : Int32) = 0 from rfl)]
        · rw [d1] at hg1
          exact absurd hg1.symm (fun q => nI_pos (show g < 2 ^ 31 by omega) (by rw [q]; decide))
    · -- a sign too
      obtain ⟨g, hg, hg1, hg2, hw⟩ := (signM (x := byA n tx (p + 1))).resolve_left (fun q => d1 q.1)
      obtain ⟨h3, v3, g1, g2, g3⟩ := numberC (F := F) d4
      have mb : ∀ (c base sg k : Nat) (S : List Nat) (o : PH), MO o n tx p base sg (List.replicate k 33 ++ S) → f_X10_takesTest F o = (bnd (f_X10_takesNumber F (wI (wI o 102 10 (nI (p + 1))) 102 10 (nI (p + 1 + 1)))) fun v9 h9 => (if v9 = 0 then (some ((0 : Int32), h9)) else (bnd (f_X10_emits F ((((1000 : Int32) * nI f) + ((100 : Int32) * nI g)) + (h9.1 102 11)) h9) fun v11 h11 => (bnd (f_X10_whole F h11) fun v12 h12 => (some ((1 : Int32), h12)))))) := by
        intro c base sg k S o m
        rw [ma c base sg k S o m, in_eq, bnd_some, hw, if_neg (show ¬ (1 : Int32) = 0 by decide), lth_eq, rI_eq, nI_1, hg2, show (60 : Int32) = nI 60 from rfl, pk_sub (show 60 ≤ 60 + g by omega), Nat.add_sub_cancel_left]
      have tm : ∀ (c base sg k : Nat) (S : List Nat) (o : PH), MO o n tx p base sg (List.replicate k 33 ++ S) → TxtM (wI (wI o 102 10 (nI (p + 1))) 102 10 (nI (p + 1 + 1))) n tx := fun c base sg k S o m => (m.1.w102 (by decide)).w102 (by decide)
      rcases g3 with ⟨k1, k2, k3, k4, k5⟩ | ⟨k1, k2, k3⟩
      · -- and a number
        have ht : testT (1000 * (f : Int) + 100 * (g : Int) + ((numA n tx (p + 1 + 1)).1 : Int)) := by unfold testT; omega
        have hcT : cT (1000 * (f : Int) + 100 * (g : Int) + ((numA n tx (p + 1 + 1)).1 : Int)) = nI f * (300 : Int32) + nI g * (100 : Int32) + nI (numA n tx (p + 1 + 1)).1 := by
          unfold cT
          rw [if_pos (by omega), show (300 : Int32) = nI 300 from rfl, show (100 : Int32) = nI 100 from rfl, pk_mul, pk_mul, nI_add, nI_add]
          congr 1 <;> omega
        have hmT : mT (1000 * (f : Int) + 100 * (g : Int) + ((numA n tx (p + 1 + 1)).1 : Int)) = (1000 : Int32) * nI f + (100 : Int32) * nI g + nI (numA n tx (p + 1 + 1)).1 := by
          unfold mT
          rw [if_pos (by omega), show (1000 : Int32) = nI 1000 from rfl, show (100 : Int32) = nI 100 from rfl, pk_mul, pk_mul, nI_add, nI_add]
          congr 1 <;> omega
        have hq2 : (numA n tx (p + 1 + 1)).2 ≤ n := k5.2.2.2.1
        obtain ⟨h4, l1, l2, l3, l4⟩ := addStepC (F := F) (x := nI f * (300 : Int32) + nI g * (100 : Int32) + nI (numA n tx (p + 1 + 1)).1) k5 (by have := e.2.2.2.2.2.2.2.2; omega)
        refine ⟨true, (numA n tx (p + 1 + 1)).2, [1000 * (f : Int) + 100 * (g : Int) + ((numA n tx (p + 1 + 1)).1 : Int)], h4, ?_, ((a2.trans (Nat.le_refl _) c2).trans (Nat.le_refl _) g2).trans (Nat.le_refl _) l3, by omega, hq2, fun _ => ⟨⟨l2, ⟨by rw [l4, hcT], trivial⟩, by omega, by rw [List.length_singleton]; omega⟩, fun m hm => Or.inr (Or.inr ⟨ht, by omega, rfl⟩)⟩, fun q => absurd q (by decide), fun q => absurd q b1, fun c base sg k S o m hS => ⟨fun _ => ?_, fun q => absurd q (by decide)⟩⟩
        · rw [c1, bnd_some, d4.2.2.2.2.2.1, omat_some, if_pos d4.2.2.2.2.2.2.1, g1, bnd_some]
          unfold f_X2_testStep
          rw [bnd_some, b2, hfe, d2, hg1, k2, l1, bnd_some]
        · rcases takesNumberM (F := F) (by omega) (tm c base sg k S o m) (rI_eq _ _ _ _) (show p + 1 + 1 ≤ n by omega) with ⟨_, o2, q1, q2, q3, q4, q5, q6, q7⟩ | ⟨q1, _⟩
          · have mo2 : MO o2 n tx (numA n tx (p + 1 + 1)).2 base sg (List.replicate k 33 ++ S) := by
              obtain ⟨⟨t1, t2, t3⟩, m2, m3, m4, m5, m6, m7, m8, m9, m10⟩ := m
              refine ⟨⟨by rw [q6 9 (by decide) (by decide), rI_sl (by decide), rI_sl (by decide)]; exact t1, t2, by rw [q5 107 (by decide), rI_ne (by decide), rI_ne (by decide)]; exact t3⟩, q3, q4, by rw [q6 20 (by decide) (by decide), rI_sl (by decide), rI_sl (by decide)]; exact m4, stk_eq (by rw [q5 114 (by decide), rI_ne (by decide), rI_ne (by decide)]) m5, by rw [q6 21 (by decide) (by decide), rI_sl (by decide), rI_sl (by decide)]; exact m6, by rw [q6 22 (by decide) (by decide), rI_sl (by decide), rI_sl (by decide)]; exact m7, by omega, m9, m10⟩
            have hroom := m.2.2.2.2.2.2.2.1
            have hb5 := m.2.2.2.2.2.2.2.2.1
            have mo3 := mo2.emit (x := (1000 : Int32) * nI f + (100 : Int32) * nI g + nI (numA n tx (p + 1 + 1)).1) (by omega)
            obtain ⟨o4, w1, w2, w3, w4⟩ := wholeP (F := F) (c := c) hS k F (sg + 1) _ (by
              have hl := m.2.2.2.2.2.2.2.2.2
              rw [List.length_append, List.length_replicate] at hroom
              omega) mo3
            have fe : FrE c sg o o2 := ⟨fun a u _ _ _ => by rw [q5 a u, rI_ne u, rI_ne u], fun i u v _ _ _ => by rw [q6 i u v, rI_sl u, rI_sl u], fun i _ => by rw [q5 112 (by decide), rI_ne (by decide), rI_ne (by decide)], fun i _ => by rw [q5 113 (by decide), rI_ne (by decide), rI_ne (by decide)], by rw [q7]; rfl⟩
            refine ⟨o4, ?_, w2, ⟨?_, w3⟩, (fe.trans (Nat.le_refl _) FrE.emit).trans (by omega) w4⟩
            · rw [mb c base sg k S o m, q1, bnd_some, if_neg (show ¬ (1 : Int32) = 0 by decide), q2, emitsM mo2.2.2.2.1 (by omega), bnd_some]
              unfold f_X10_whole
              rw [w1, bnd_some]
            · rw [w4.2.2.2.1 sg (by omega), rI_ne (by decide), rI_eq, hmT]
          · exact absurd k1 q1
      · -- no number
        have e34 : h3.1 z 4 = h.1 z 4 := by
          have : h3 = wI h2 31 4 1 := by
            unfold f_X5_number at g1
            rw [d4.2.2.2.2.1, if_pos (show (0 : Int32) = 0 from rfl), isDigitC d4, bnd_some, if_neg k1, if_pos (show (0 : Int32) = 0 from rfl), lth_eq] at g1
            injection g1 with g1
            injection g1 with _ g1
            exact g1.symm
          rw [this, rI_ne (by omega), d4.2.2.2.2.2.2.2.1, e.2.2.2.2.2.2.2.1]
        obtain ⟨h4, l1, l2, l3, l4⟩ := addStepF (F := F) (s := s) (x := v1 * (300 : Int32) + v2 * (100 : Int32) + v3) k3 ⟨s, Nat.le_refl _, by have := e.2.2.2.2.2.2.2.2; omega, by rw [e34]; exact e.2.2.2.2.2.2.2.1⟩
        refine ⟨false, p + 1 + 1, [], h4, ?_, ((a2.trans (Nat.le_refl _) c2).trans (Nat.le_refl _) g2).trans (Nat.le_refl _) l3, by omega, by omega, fun q => absurd q (by decide), fun _ => ⟨l2, l4⟩, fun q => absurd q b1, fun c base sg k S o m hS => ⟨fun q => absurd q (by decide), fun _ => ?_⟩⟩
        · rw [c1, bnd_some, d4.2.2.2.2.2.1, omat_some, if_pos d4.2.2.2.2.2.2.1, g1, bnd_some]
          unfold f_X2_testStep
          rw [bnd_some, l1, bnd_some]
        · rcases takesNumberM (F := F) (by omega) (tm c base sg k S o m) (rI_eq _ _ _ _) (show p + 1 + 1 ≤ n by omega) with ⟨q1, _⟩ | ⟨_, q2⟩
          · exact absurd q1 k1
          · refine ⟨wI (wI o 102 10 (nI (p + 1))) 102 10 (nI (p + 1 + 1)), ?_, rI_eq _ _ _ _, (FrE.w (i := 10) (by decide)).trans (Nat.le_refl _) (FrE.w (i := 10) (by decide))⟩
            rw [mb c base sg k S o m, q2, bnd_some, if_pos (show (0 : Int32) = 0 from rfl)]
