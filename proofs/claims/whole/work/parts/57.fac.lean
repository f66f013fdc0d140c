/-- the model behind a whole E: what waits is emitted, and it ends, or ) takes the ( away -/
theorem closeM {F c n q base sg : Nat} {tx : Nat → Nat} {P S : List Nat} {o : PH} (hF : 200 ≤ F) (hc : c < 60) (m : MO o n tx q base sg (P ++ S)) (hP : ∀ b ∈ P, b = 38 ∨ b = 124) (hS : topNo (fun b => b = 38 ∨ b = 124) S) (h38 : ¬ byA n tx q = nI 38) (h124 : ¬ byA n tx q = nI 124) :
    ∃ o1, MO o1 n tx q base (sg + P.length) S ∧ FrE c sg o o1 ∧ atS (o1.1 113) mT sg (P.map emT) ∧ o1.1 112 c = nI (sg + P.length) ∧ (S = [] → ∀ f, fL_X10_takesE_22 F (f + 1) (nI c) 0 o = some (1, o1)) ∧ (S ≠ [] → ¬ byA n tx q = nI 41 → ∀ f, fL_X10_takesE_22 F (f + 1) (nI c) 0 o = some (0, o1)) ∧
      ∀ k T, S = 40 :: (List.replicate k 33 ++ T) → topNo (fun b => b = 33) T → byA n tx q = nI 41 → ∃ o2, (∀ f, fL_X10_takesE_22 F (f + 1) (nI c) 0 o = fL_X10_takesE_22 F f (nI c) 0 o2) ∧ MO o2 n tx (q + 1) base (sg + P.length + k) T ∧ atS (o2.1 113) mT (sg + P.length) (List.replicate k (-1)) ∧ FrE c (sg + P.length) o1 o2 := by
  have hn := m.1.2.1
  have hqn := m.2.2.1
  have hroom := m.2.2.2.2.2.2.2.1
  have hb5 := m.2.2.2.2.2.2.2.2
  rw [List.length_append] at hroom
  have hx : ∀ b, popB (nI 124) b ↔ (b = 38 ∨ b = 124) := fun b => ⟨fun z => by rcases z with z | z; exact Or.inl z; exact Or.inr z.1, fun z => by rcases z with z | z; exact Or.inl z; exact Or.inr ⟨z, by decide⟩⟩
  obtain ⟨oa, s1, s2, s3, s4⟩ := settleM (F := F) (c := c) (x := nI 124) (hS.mono (fun b hb => (hx b).mp hb)) P F sg o (by omega) (fun b hb => (hx b).mpr (hP b hb)) m
  have mw : ∀ y, MO (wI oa 112 c y) n tx q base (sg + P.length) S := by
    intro y
    obtain ⟨⟨t1, t2, t3⟩, m2, m3, m4, m5, m6, m7, m8, m9, m10⟩ := s2
    exact ⟨⟨by rw [rI_ne (by decide)]; exact t1, t2, by rw [rI_ne (by decide)]; exact t3⟩, by rw [rI_ne (by decide)]; exact m2, m3, by rw [rI_ne (by decide)]; exact m4, stk_eq (rI_ne (by decide)) m5, by rw [rI_ne (by decide)]; exact m6, by rw [rI_ne (by decide)]; exact m7, m8, m9, m10⟩
  have m1 := mw (nI (sg + P.length))
  have head : ∀ f, fL_X10_takesE_22 F (f + 1) (nI c) 0 o = (if nI S.length = 0 then (some ((1 : Int32), wI oa 112 c (nI (sg + P.length)))) else (if byA n tx q = (41 : Int32) then (lth (wI (wI oa 112 c (nI (sg + P.length))) 102 21 (nI S.length - (1 : Int32))) fun h19 => (lth (wI h19 102 22 ((h19.1 102 22) - (1 : Int32))) fun h20 => (lth (wI h20 102 10 ((h20.1 102 10) + (1 : Int32))) fun h21 => (bnd (f_X10_whole F h21) fun v22 h22 => (fL_X10_takesE_22 F f (nI c) 0 h22))))) else (some ((0 : Int32), wI oa 112 c (nI (sg + P.length)))))) := by
    intro f
    rw [fL_X10_takesE_22, peekM m.1 m.2.1 m.2.2.1, bnd_some, if_pos (show (0 : Int32) = 0 from rfl), if_neg (show ¬ byA n tx q = (38 : Int32) from h38), if_neg (show ¬ byA n tx q = (124 : Int32) from h124)]
    unfold f_X10_settle
    rw [show fL_X10_settle_0 F F (124 : Int32) o = _ from s1, bnd_some, if_pos (inb_nI hc (by decide)), lth_eq, ix_nI (by omega), s2.2.2.2.1, m1.2.2.2.2.2.1]
  refine ⟨wI oa 112 c (nI (sg + P.length)), m1, s4.trans (Nat.le_refl _) ⟨fun a _ v _ _ => rI_ne v, fun i _ _ _ _ _ => by rw [rI_ne (by decide)], fun i u => rI_sl u, fun i _ => by rw [rI_ne (by decide)], rfl⟩, by rw [rI_ne (by decide)]; exact s3, rI_eq _ _ _ _, fun h0 f => ?_, fun h0 h41 f => ?_, fun k T hST hT h41 => ?_⟩
  · rw [head, h0, if_pos (show nI ([] : List Nat).length = 0 from rfl)]
  · have : 0 < S.length := List.length_pos_iff.mpr h0
    rw [head, if_neg (nI_ne0 this (by omega)), if_neg (show ¬ byA n tx q = (41 : Int32) from h41)]
  · subst hST
    have hp : q < n := byA_lt (n := n) (tx := tx) (by rw [h41]; decide)
    generalize hU : List.replicate k 33 ++ T = U at *
    have hUl : (40 :: U).length = U.length + 1 := List.length_cons ..
    have m2 : MO (wI (wI (wI (wI oa 112 c (nI (sg + P.length))) 102 21 (nI U.length)) 102 22 (nI (opens U))) 102 10 (nI (q + 1))) n tx (q + 1) base (sg + P.length) (List.replicate k 33 ++ T) := by
      rw [hU]
      obtain ⟨⟨t1, t2, t3⟩, m2, m3, m4, m5, m6, m7, m8, m9, m10⟩ := m1
      rw [hUl] at m8
      exact ⟨⟨by rw [rI_sl (by decide), rI_sl (by decide), rI_sl (by decide)]; exact t1, t2, by rw [rI_ne (by decide), rI_ne (by decide), rI_ne (by decide)]; exact t3⟩, rI_eq _ _ _ _, by omega, by rw [rI_sl (by decide), rI_sl (by decide), rI_sl (by decide)]; exact m4, stk_eq (by rw [rI_ne (by decide), rI_ne (by decide), rI_ne (by decide)]) m5.2.2, by rw [rI_sl (by decide), rI_sl (by decide), rI_eq], by rw [rI_sl (by decide), rI_eq], by omega, m9, m10⟩
    have hk : k ≤ U.length := by rw [← hU, List.length_append, List.length_replicate]; omega
    rw [hUl] at hroom
    obtain ⟨o2, w1, w2, w3, w4⟩ := wholeP (F := F) (c := c) hT k F (sg + P.length) _ (by omega) m2
    refine ⟨o2, fun f => ?_, w2, w3, (((FrE.w (by omega)).trans (Nat.le_refl _) (FrE.w (by omega))).trans (Nat.le_refl _) (FrE.w (by omega))).trans (Nat.le_refl _) w4⟩
    have hop : (wI oa 112 c (nI (sg + P.length))).1 102 22 = nI (opens U + 1) := m1.2.2.2.2.2.2.1
    rw [head, hUl, if_neg (nI_ne0 (by omega) (by omega)), if_pos (show byA n tx q = (41 : Int32) from h41), lth_eq, lth_eq, lth_eq, nI_pred, rI_sl (show (22 : Nat) ≠ 21 by decide), hop, nI_pred, rI_sl (show (10 : Nat) ≠ 22 by decide), rI_sl (show (10 : Nat) ≠ 21 by decide), m1.2.1, nI_1]
    unfold f_X10_whole
    rw [w1, bnd_some]
def popE (b : Nat) : Prop := (False ∨ b = 38) ∨ b = 124
theorem facS {F D e : Nat} (hF : 200 ≤ F) (he : e ≤ 4) (nx : e < 4 → FacSpec F D (e + 1) ∧ ExSpec F D 0 (e + 1) (2 * (e + 1)) popE) : FacSpec F (D + 1) e := by
  intro z n p s tx h ec
  have hn := ec.1.2.1
  have hs := ec.2.2.2.2.2.2.2.2
  have hG : f_grp_X5_either F (D + 1) 2 (nI e) h = b_X5_factor F (f_grp_X5_either F D) (nI e) h := by
    rw [f_grp_X5_either, if_neg (show ¬ (2 : Nat) = 0 by decide), if_neg (show ¬ (2 : Nat) = 1 by decide)]
  -- a test
  have test : f_grp_X5_either F (D + 1) 2 (nI e) h = fL_X5_factor_78 F (f_grp_X5_either F D) h → ((byA n tx p = nI 33 ∨ byA n tx p = nI 40) → e = 4) →
      ∃ (r : Bool) (q : Nat) (ts : List Int) (h' : PH), f_grp_X5_either F (D + 1) 2 (nI e) h = some ((), h') ∧ FrX z s h h' ∧ p ≤ q ∧ q ≤ n ∧ (r = true → XOK z n tx p s h' q ts ∧ ∀ m, m ≤ 2 * e + 2 → okT ts m (m + 1)) ∧ (r = false → XNO z s h' q) ∧
        ∀ (c base sg k : Nat) (S : List Nat) (o : PH), c < 60 → MO o n tx p base sg (List.replicate k 33 ++ S) → topNo (fun b => b = 33) S → opens (List.replicate k 33 ++ S) = e →
          (r = true → ∃ K o', K ≤ q - p ∧ (∀ f, fL_X10_takesE_22 F (f + K) (nI c) 1 o = fL_X10_takesE_22 F f (nI c) 0 o') ∧ MO o' n tx q base (sg + ts.length + k) S ∧ atS (o'.1 113) mT sg (ts ++ List.replicate k (-1)) ∧ FrE c sg o o') ∧
          (r = false → ∃ K o', K ≤ q - p + 1 ∧ (∀ f, fL_X10_takesE_22 F (f + K) (nI c) 1 o = some (0, o')) ∧ o'.1 102 10 = nI q ∧ FrE c sg o o') := by
    intro hcl h4
    obtain ⟨r, q, ts, h', a1, a2, a3, a4, a5, a6, a7, a8⟩ := testS (F := F) (G := f_grp_X5_either F D) hF ec
    refine ⟨r, q, ts, h', hcl.trans a1, a2, a3, a4, fun hr => ⟨(a5 hr).1, fun m hm => (a5 hr).2 m (by omega)⟩, a6, fun c base sg k S o hc m hS ho => ?_⟩
    by_cases hb : byA n tx p = nI 33 ∨ byA n tx p = nI 40
    · obtain ⟨rf, qp⟩ := a7 (by rcases hb with hb | hb <;> rw [hb] <;> decide)
      refine ⟨fun hr => by rw [rf] at hr; exact absurd hr (by decide), fun _ => ⟨1, o, by omega, fun f => ?_, by rw [qp]; exact m.2.1, FrE.refl _ _ _⟩⟩
      rcases hb with hb | hb
      · exact (opensM (b := 33) (f := f) (c := nI c) m ho he (Or.inl rfl) hb).1 (h4 (Or.inl hb))
      · exact (opensM (b := 40) (f := f) (c := nI c) m ho he (Or.inr rfl) hb).1 (h4 (Or.inr hb))
    · have it : ∀ f, fL_X10_takesE_22 F (f + 1) (nI c) 1 o = (bnd (f_X10_takesTest F o) fun v36 h36 => (if v36 = 0 then (some ((0 : Int32), h36)) else (fL_X10_takesE_22 F f (nI c) (0 : Int32) h36))) := by
        intro f
        rw [fL_X10_takesE_22, peekM m.1 m.2.1 m.2.2.1, bnd_some, if_neg (show ¬ (1 : Int32) = 0 by decide), if_neg (show ¬ byA n tx p = (33 : Int32) from fun z => hb (Or.inl z)), if_neg (show ¬ byA n tx p = (40 : Int32) from fun z => hb (Or.inr z))]
      obtain ⟨b1, b2⟩ := a8 c base sg k S o m hS
      refine ⟨fun hr => ?_, fun hr => ?_⟩
      · obtain ⟨o', c1, c2, c3, c4⟩ := b1 hr
        have := (a5 hr).1.2.2.1
        exact ⟨1, o', by omega, fun f => by rw [it, c1, bnd_some, if_neg (show ¬ (1 : Int32) = 0 by decide)], c2, c3, c4⟩
      · obtain ⟨o', c1, c2, c3⟩ := b2 hr
        exact ⟨1, o', by omega, fun f => by rw [it, c1, bnd_some, if_pos (show (0 : Int32) = 0 from rfl)], c2, c3⟩
  by_cases h33 : byA n tx p = nI 33
  · by_cases h4 : e = 4
    · refine test ?_ (fun _ => h4)
      rw [hG]
      unfold b_X5_factor fL_X5_factor_44
      rw [ec.2.2.2.2.1, if_pos (show (0 : Int32) = 0 from rfl), ec.2.2.1, if_pos (show byA n tx p = (33 : Int32) from h33), h4, if_pos (show (4 : Int32) ≤ nI 4 by decide), if_neg (show ¬ byA n tx p = (40 : Int32) by rw [h33]; decide)]
    · have hp : p < n := byA_lt (n := n) (tx := tx) (by rw [h33]; decide)
      obtain ⟨h1, a1, a2, a3⟩ := stepC (F := F) ec hp
      obtain ⟨r, q, ts, h2, b1, b2, b3, b4, b5, b6, b7⟩ := (nx (by omega)).1 z n (p + 1) s tx h1 a2
      have head : f_grp_X5_either F (D + 1) 2 (nI e) h = (omat (h2.2.2 31 5) none fun z17 => if isBench z17 = true then (bnd (f_X2_addStep F z17 (-1 : Int32) h2) fun v18 h18 => (some ((), h18))) else none) := by
        rw [hG]
        unfold b_X5_factor
        rw [ec.2.2.2.2.1, if_pos (show (0 : Int32) = 0 from rfl), ec.2.2.1, if_pos (show byA n tx p = (33 : Int32) from h33), if_neg (show ¬ (4 : Int32) ≤ nI e by rw [li4, nI_le2 (by decide) (by omega)]; omega), a1, bnd_some, nI_1, b1, bnd_some]
      have mid : ∀ (c base sg k : Nat) (S : List Nat) (o : PH), MO o n tx p base sg (List.replicate k 33 ++ S) → opens (List.replicate k 33 ++ S) = e → ∃ o1, (∀ f, fL_X10_takesE_22 F (f + 1) (nI c) 1 o = fL_X10_takesE_22 F f (nI c) 1 o1) ∧ MO o1 n tx (p + 1) base sg (List.replicate (k + 1) 33 ++ S) ∧ (∀ i, FrE i sg o o1) ∧ opens (List.replicate (k + 1) 33 ++ S) = e + 1 := by
        intro c base sg k S o m ho
        obtain ⟨o1, k1, k2, k3⟩ := (opensM (F := F) (b := 33) (f := 0) (c := nI c) m ho he (Or.inl rfl) h33).2 (by omega)
        refine ⟨wI (wI (wI (wI o 102 22 (nI (opens (List.replicate k 33 ++ S) + 1))) 114 (List.replicate k 33 ++ S).length (nI 33)) 102 21 (nI ((List.replicate k 33 ++ S).length + 1))) 102 10 (nI (p + 1)), fun f => ?_, ?_, fun i => (FrE.w (by omega)).trans (Nat.le_refl _) FrE.push, ?_⟩
        · have hl := m.2.2.2.2.2.2.2.1
          have hb5 := m.2.2.2.2.2.2.2.2
          have hin : inb (nI (List.replicate k 33 ++ S).length) 101 = true := inb_nI (by omega) (by decide)
          rw [fL_X10_takesE_22, peekM m.1 m.2.1 m.2.2.1, bnd_some, if_neg (show ¬ (1 : Int32) = 0 by decide), if_pos (show byA n tx p = (33 : Int32) from h33)]
          unfold fL_X10_takesE_43
          rw [m.2.2.2.2.2.2.1, if_neg (show ¬ nI (opens (List.replicate k 33 ++ S)) = (4 : Int32) by rw [ho, li4]; exact fun q => by have := (nI_eq (by omega) (by decide)).mp q; omega), lth_eq, nI_1, rI_sl (show (21 : Nat) ≠ 22 by decide), m.2.2.2.2.2.1, if_pos hin, lth_eq, ix_nI (by omega), lth_eq, rI_ne (show (102 : Nat) ≠ 114 by decide), rI_sl (show (21 : Nat) ≠ 22 by decide), m.2.2.2.2.2.1, nI_1, lth_eq, rI_sl (show (10 : Nat) ≠ 21 by decide), rI_ne (show (102 : Nat) ≠ 114 by decide), rI_sl (show (10 : Nat) ≠ 22 by decide), m.2.1, nI_1, h33]
        · exact m.pushO hp (by decide) (Or.inl rfl)
        · show opens (List.replicate k 33 ++ S) + (if (33 : Nat) = 33 ∨ (33 : Nat) = 40 then 1 else 0) = e + 1
          rw [if_pos (Or.inl rfl), ho]
      cases r with
      | true =>
        obtain ⟨⟨x1, x2, x3, x4⟩, x5⟩ := b5 rfl
        obtain ⟨h4', l1, l2, l3, l4⟩ := addStepC (F := F) (x := -1) x1 (by omega)
        refine ⟨true, q, ts ++ [-1], h4', ?_, (a3.trans (Nat.le_refl _) b2).trans (Nat.le_add_right _ _) l3, by omega, b4, fun _ => ⟨⟨by rw [List.length_append, List.length_singleton, ← Nat.add_assoc]; exact l2, ?_, by omega, by rw [List.length_append, List.length_singleton]; omega⟩, fun m hm => okT_app (x5 m (by omega)) (Or.inl ⟨rfl, by omega, rfl⟩)⟩, fun q => absurd q (by decide), fun c base sg k S o hc m hS ho => ⟨fun _ => ?_, fun q => absurd q (by decide)⟩⟩
        · rw [head, x1.2.2.2.2.2.1, omat_some, if_pos x1.2.2.2.2.2.2.1, l1, bnd_some]
        · rw [atS_app]
          exact ⟨atS_eq (fun j hj => l3.2.2.2.1 j (by omega)) x2, ⟨by rw [l4]; rfl, trivial⟩⟩
        · obtain ⟨o1, k1, k2, k3, k4⟩ := mid c base sg k S o m ho
          obtain ⟨K, o2, g1, g2, g3, g4, g5⟩ := (b7 c base sg (k + 1) S o1 hc k2 hS k4).1 rfl
          refine ⟨K + 1, o2, by omega, fun f => by rw [← Nat.add_assoc, k1, g2], by rw [List.length_append, List.length_singleton, show sg + (ts.length + 1) + k = sg + ts.length + (k + 1) by omega]; exact g3, ?_, (k3 c).trans (Nat.le_refl _) g5⟩
          rw [List.append_assoc]
          exact g4
      | false =>
        obtain ⟨x1, x2⟩ := b6 rfl
        obtain ⟨h4', l1, l2, l3, l4⟩ := addStepF (F := F) (s := s) (x := -1) x1 x2
        refine ⟨false, q, [], h4', ?_, (a3.trans (Nat.le_refl _) b2).trans (Nat.le_refl _) l3, by omega, b4, fun q => absurd q (by decide), fun _ => ⟨l2, l4⟩, fun c base sg k S o hc m hS ho => ⟨fun q => absurd q (by decide), fun _ => ?_⟩⟩
        · rw [head, x1.2.2.1, omat_some, if_pos x1.2.2.2.1, l1, bnd_some]
        · obtain ⟨o1, k1, k2, k3, k4⟩ := mid c base sg k S o m ho
          obtain ⟨K, o2, g1, g2, g3, g4⟩ := (b7 c base sg (k + 1) S o1 hc k2 hS k4).2 rfl
          exact ⟨K + 1, o2, by omega, fun f => by rw [← Nat.add_assoc, k1, g2], g3, (k3 c).trans (Nat.le_refl _) g4⟩
  · by_cases h40 : byA n tx p = nI 40
    · by_cases h4 : e = 4
      · refine test ?_ (fun _ => h4)
        rw [hG]
        unfold b_X5_factor fL_X5_factor_44
        rw [ec.2.2.2.2.1, if_pos (show (0 : Int32) = 0 from rfl), ec.2.2.1, if_neg (show ¬ byA n tx p = (33 : Int32) from h33), if_pos (show byA n tx p = (40 : Int32) from h40), h4, if_pos (show (4 : Int32) ≤ nI 4 by decide)]
      · have hp : p < n := byA_lt (n := n) (tx := tx) (by rw [h40]; decide)
        obtain ⟨h1, a1, a2, a3⟩ := stepC (F := F) ec hp
        obtain ⟨r, q, ts, h2, b1, b2, b3, b4, b5, b6, b7⟩ := (nx (by omega)).2 z n (p + 1) s tx h1 a2
        have head : f_grp_X5_either F (D + 1) 2 (nI e) h = (bnd (f_X5_need F (41 : Int32) h2) fun v13 h13 => (some ((), h13))) := by
          rw [hG]
          unfold b_X5_factor fL_X5_factor_44
          rw [ec.2.2.2.2.1, if_pos (show (0 : Int32) = 0 from rfl), ec.2.2.1, if_neg (show ¬ byA n tx p = (33 : Int32) from h33), if_pos (show byA n tx p = (40 : Int32) from h40), if_neg (show ¬ (4 : Int32) ≤ nI e by rw [li4, nI_le2 (by decide) (by omega)]; omega), a1, bnd_some, nI_1, b1, bnd_some]
        have mid : ∀ (c base sg k : Nat) (S : List Nat) (o : PH), MO o n tx p base sg (List.replicate k 33 ++ S) → opens (List.replicate k 33 ++ S) = e → ∃ o1, (∀ f, fL_X10_takesE_22 F (f + 1) (nI c) 1 o = fL_X10_takesE_22 F f (nI c) 1 o1) ∧ MO o1 n tx (p + 1) base sg (40 :: (List.replicate k 33 ++ S)) ∧ (∀ i, FrE i sg o o1) ∧ opens (40 :: (List.replicate k 33 ++ S)) = e + 1 := by
          intro c base sg k S o m ho
          refine ⟨wI (wI (wI (wI o 102 22 (nI (opens (List.replicate k 33 ++ S) + 1))) 114 (List.replicate k 33 ++ S).length (nI 40)) 102 21 (nI ((List.replicate k 33 ++ S).length + 1))) 102 10 (nI (p + 1)), fun f => ?_, ?_, fun i => (FrE.w (by omega)).trans (Nat.le_refl _) FrE.push, ?_⟩
          · have hl := m.2.2.2.2.2.2.2.1
            have hb5 := m.2.2.2.2.2.2.2.2
            have hin : inb (nI (List.replicate k 33 ++ S).length) 101 = true := inb_nI (by omega) (by decide)
            rw [fL_X10_takesE_22, peekM m.1 m.2.1 m.2.2.1, bnd_some, if_neg (show ¬ (1 : Int32) = 0 by decide), if_neg (show ¬ byA n tx p = (33 : Int32) from h33), if_pos (show byA n tx p = (40 : Int32) from h40)]
            unfold fL_X10_takesE_43
            rw [m.2.2.2.2.2.2.1, if_neg (show ¬ nI (opens (List.replicate k 33 ++ S)) = (4 : Int32) by rw [ho, li4]; exact fun q => by have := (nI_eq (by omega) (by decide)).mp q; omega), lth_eq, nI_1, rI_sl (show (21 : Nat) ≠ 22 by decide), m.2.2.2.2.2.1, if_pos hin, lth_eq, ix_nI (by omega), lth_eq, rI_ne (show (102 : Nat) ≠ 114 by decide), rI_sl (show (21 : Nat) ≠ 22 by decide), m.2.2.2.2.2.1, nI_1, lth_eq, rI_sl (show (10 : Nat) ≠ 21 by decide), rI_ne (show (102 : Nat) ≠ 114 by decide), rI_sl (show (10 : Nat) ≠ 22 by decide), m.2.1, nI_1, h40]
          · exact m.pushO hp (by decide) (Or.inr rfl)
          · show opens (List.replicate k 33 ++ S) + (if (40 : Nat) = 33 ∨ (40 : Nat) = 40 then 1 else 0) = e + 1
            rw [if_pos (Or.inr rfl), ho]
        have ht40 : ∀ U, topNo (fun b => b = 33 ∨ popE b) (40 :: U) := by
          intro U z
          rcases z with z | z
          · omega
          · rcases z with (z | z) | z
            · exact z
            · omega
            · omega
        cases r with
        | true =>
          obtain ⟨⟨x1, x2, x3, x4⟩, x5, x6⟩ := b5 rfl
          have e38 : ¬ byA n tx q = nI 38 := x6 38 (Or.inl (Or.inr rfl))
          have e124 : ¬ byA n tx q = nI 124 := x6 124 (Or.inr rfl)
          obtain ⟨h3, n1, n2, n3⟩ := needC (F := F) (a := 41) (by decide) x1
          have rest : ∀ (c base sg k : Nat) (S : List Nat) (o : PH), c < 60 → MO o n tx p base sg (List.replicate k 33 ++ S) → opens (List.replicate k 33 ++ S) = e →
              ∃ (K : Nat) (o2 : PH) (P : List Nat) (ts' : List Int) (o3 : PH), K ≤ q - p ∧ (∀ f, fL_X10_takesE_22 F (f + K) (nI c) 1 o = fL_X10_takesE_22 F f (nI c) 0 o2) ∧ ts = ts' ++ P.map emT ∧ FrE c sg o o3 ∧ atS (o3.1 113) mT sg ts ∧ o3.1 102 10 = nI q ∧ (¬ byA n tx q = nI 41 → ∀ f, fL_X10_takesE_22 F (f + 1) (nI c) 0 o2 = some (0, o3)) ∧
                (topNo (fun b => b = 33) S → byA n tx q = nI 41 → ∃ o4, (∀ f, fL_X10_takesE_22 F (f + 1) (nI c) 0 o2 = fL_X10_takesE_22 F f (nI c) 0 o4) ∧ MO o4 n tx (q + 1) base (sg + ts.length + k) S ∧ atS (o4.1 113) mT sg (ts ++ List.replicate k (-1)) ∧ FrE c sg o o4) := by
            intro c base sg k S o hc m ho
            obtain ⟨o1, k1, k2, k3, k4⟩ := mid c base sg k S o m ho
            obtain ⟨K, o2, P, ts', g1, g2, g3, g4, g5, g6, g7⟩ := (b7 c base sg _ o1 hc k2 (ht40 _) k4).1 rfl
            obtain ⟨o3, y1, y2, y3, y4, y5, y6, y7⟩ := closeM (F := F) (c := c) hF hc g3 (fun b hb => by
              rcases g4 b hb with (z | z) | z
              · exact z.elim
              · exact Or.inl z
              · exact Or.inr z) (fun z => by omega) e38 e124
            have len : ts.length = ts'.length + P.length := by rw [g5, List.length_append, emT_len]
            have at3 : atS (o3.1 113) mT sg ts := by
              rw [g5, atS_app]
              exact ⟨atS_eq (fun j hj => y2.2.2.2.1 j hj) g6, y3⟩
            have fr3 : FrE c sg o o3 := ((k3 c).trans (Nat.le_refl _) g7).trans (Nat.le_add_right _ _) y2
            refine ⟨K + 1, o2, P, ts', o3, by omega, fun f => by rw [← Nat.add_assoc, k1, g2], g5, fr3, at3, y1.2.1, fun h41 => y6 (by simp) h41, fun hS h41 => ?_⟩
            obtain ⟨o4, v1, v2, v3, v4⟩ := y7 k S rfl hS h41
            refine ⟨o4, v1, by rw [len, ← Nat.add_assoc]; exact v2, ?_, fr3.trans (by omega) v4⟩
            rw [atS_app]
            refine ⟨atS_eq (fun j hj => v4.2.2.2.1 j (by omega)) at3, ?_⟩
            rw [len, ← Nat.add_assoc]; exact v3
          have fX : FrX z s h h3 := (a3.trans (Nat.le_refl _) b2).trans (Nat.le_add_right _ _) n2
          rcases n3 with ⟨w1, w2, w3⟩ | ⟨w1, w2⟩
          · refine ⟨true, q + 1, ts, h3, by rw [head, n1, bnd_some], fX, by omega, by omega, fun _ => ⟨⟨w3, atS_eq (fun j hj => n2.2.2.2.1 j hj) x2, by omega, by omega⟩, fun m hm => x5 m (by omega)⟩, fun q => absurd q (by decide), fun c base sg k S o hc m hS ho => ⟨fun _ => ?_, fun q => absurd q (by decide)⟩⟩
            obtain ⟨K, o2, P, ts', o3, r1, r2, r3, r4, r5, r6, r7, r8⟩ := rest c base sg k S o hc m ho
            obtain ⟨o4, v1, v2, v3, v4⟩ := r8 hS w1
            exact ⟨1 + K, o4, by omega, fun f => by rw [← Nat.add_assoc, r2, v1], v2, v3, v4⟩
          · refine ⟨false, q, [], h3, by rw [head, n1, bnd_some], fX, by omega, b4, fun q => absurd q (by decide), fun _ => ⟨w2, s + ts.length, by omega, by have := x1.2.2.2.2.2.2.2.2; omega, ?_⟩, fun c base sg k S o hc m hS ho => ⟨fun q => absurd q (by decide), fun _ => ?_⟩⟩
            · have : h3 = wI h2 31 4 1 := by
                unfold f_X5_need at n1
                rw [x1.2.2.2.2.1, if_pos (show (0 : Int32) = 0 from rfl), x1.2.2.1, if_neg w1, lth_eq] at n1
                injection n1 with n1
                injection n1 with _ n1
                exact n1.symm
              have hz := isBench_or ec.2.2.2.2.2.2.1
              rw [this, rI_ne (by omega)]
              exact x1.2.2.2.2.2.2.2.1
            · obtain ⟨K, o2, P, ts', o3, r1, r2, r3, r4, r5, r6, r7, r8⟩ := rest c base sg k S o hc m ho
              exact ⟨1 + K, o3, by omega, fun f => by rw [← Nat.add_assoc, r2, r7 w1], r6, r4⟩
        | false =>
          obtain ⟨x1, x2⟩ := b6 rfl
          obtain ⟨h3, n1, n2, n3⟩ := needF (F := F) (s := s) (a := 41) x1
          refine ⟨false, q, [], h3, by rw [head, n1, bnd_some], (a3.trans (Nat.le_refl _) b2).trans (Nat.le_refl _) n3, by omega, b4, fun q => absurd q (by decide), fun _ => ⟨n2, ?_⟩, fun c base sg k S o hc m hS ho => ⟨fun q => absurd q (by decide), fun _ => ?_⟩⟩
          · obtain ⟨t, t1, t2, t3⟩ := x2
            refine ⟨t, t1, t2, ?_⟩
            have : h3 = wI h2 31 4 1 := by
              unfold f_X5_need at n1
              rw [x1.1, if_neg (show ¬ (1 : Int32) = 0 by decide), lth_eq] at n1
              injection n1 with n1
              injection n1 with _ n1
              exact n1.symm
            have hz := isBench_or ec.2.2.2.2.2.2.1
            rw [this, rI_ne (by omega)]
            exact t3
          · obtain ⟨o1, k1, k2, k3, k4⟩ := mid c base sg k S o m ho
            obtain ⟨K, o2, g1, g2, g3, g4⟩ := (b7 c base sg _ o1 hc k2 (ht40 _) k4).2 rfl
            exact ⟨K + 1, o2, by omega, fun f => by rw [← Nat.add_assoc, k1, g2], g3, (k3 c).trans (Nat.le_refl _) g4⟩
    · refine test ?_ (fun z => absurd z (by rintro (z | z); exact h33 z; exact h40 z))
      rw [hG]
      unfold b_X5_factor fL_X5_factor_44
      rw [ec.2.2.2.2.1, if_pos (show (0 : Int32) = 0 from rfl), ec.2.2.1, if_neg (show ¬ byA n tx p = (33 : Int32) from h33), if_neg (show ¬ byA n tx p = (40 : Int32) from h40)]
theorem bothS {F D e : Nat} (hF : 200 ≤ F) (f : FacSpec F D e) : ExSpec F (D + 1) 1 e (2 * e + 1) (fun b => False ∨ b = 38) := by
  refine exNew (op := 38) (code := -2) (LF := fL_X5_both_7 F (f_grp_X5_either F D)) hF f.ex (Or.inl rfl) rfl (fun b => ?_) (fun b hb => hb.elim) (fun h => h) (by omega) (fun f x1 x2 h => ?_) (fun h => ?_)
  · constructor
    · intro z
      rcases z with z | ⟨_, z⟩
      · exact Or.inr z
      · exact absurd rfl z
    · intro z
      rcases z with z | z
      · exact z.elim
      · exact Or.inl z
  · rfl
  · rw [f_grp_X5_either, if_neg (show ¬ (1 : Nat) = 0 by decide), if_pos (show (1 : Nat) = 1 from rfl)]; rfl
theorem eitherS {F D e : Nat} (hF : 200 ≤ F) (f : ExSpec F D 1 e (2 * e + 1) (fun b => False ∨ b = 38)) : ExSpec F (D + 1) 0 e (2 * e) popE := by
  refine exNew (op := 124) (code := -3) (LF := fL_X5_either_7 F (f_grp_X5_either F D)) hF f (Or.inr rfl) rfl (fun b => ?_) (fun b hb => ?_) (fun h => ?_) (by omega) (fun f x1 x2 h => ?_) (fun h => ?_)
  · constructor
    · intro z
      rcases z with z | ⟨z, _⟩
      · exact Or.inl (Or.inr z)
      · exact Or.inr z
    · intro z
      rcases z with (z | z) | z
      · exact z.elim
      · exact Or.inl z
      · exact Or.inr ⟨z, by decide⟩
  · rcases hb with hb | hb
    · exact hb.elim
    · omega
  · rcases h with h | h
    · exact h
    · omega
  · rfl
  · rw [f_grp_X5_either, if_pos (show (0 : Nat) = 0 from rfl)]; rfl
theorem downAll {F : Nat} (hF : 200 ≤ F) : ∀ m e D, e + m = 4 → FacSpec F (D + 3 * m + 1) e ∧ ExSpec F (D + 3 * m + 3) 0 e (2 * e) popE := by
  intro m
  induction m with
  | zero =>
    intro e D he
    have hf : ∀ D, FacSpec F (D + 1) e := fun D => facS hF (by omega) (fun h => absurd h (by omega))
    exact ⟨hf D, eitherS hF (bothS hF (hf D))⟩
  | succ m ih =>
    intro e D he
    have hf : ∀ D, FacSpec F (D + 3 * (m + 1) + 1) e := fun D => facS hF (by omega) (fun h => ⟨by
      have := (ih (e + 1) (D + 2) (by omega)).1
      rw [show D + 3 * (m + 1) = D + 2 + 3 * m + 1 by omega]; exact this, by
      have := (ih (e + 1) D (by omega)).2
      rw [show D + 3 * (m + 1) = D + 3 * m + 3 by omega]; exact this⟩)
    exact ⟨hf D, eitherS hF (bothS hF (hf D))⟩
theorem topS {F : Nat} (hF : 200 ≤ F) : ExSpec F 50 0 0 0 popE := (downAll hF 4 0 35 rfl).2
