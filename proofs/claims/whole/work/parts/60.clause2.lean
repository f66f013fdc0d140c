theorem b2i_and (r : Bool) : b2i r &&& 1 = b2i r := by cases r <;> decide
theorem bsW0 : bsW 0 0 = nI 112 ∧ bsW 1 0 = nI 110 ∧ bsW 2 0 = nI 104 := by decide +kernel
theorem clauseM {F idx : Nat} {o : PH} : f_X10_takesClause F (nI idx) o = bnd (f_X10_takesHead F (nI idx) o) fun v1 h1 => (if v1 = 0 then (some ((0 : Int32), h1)) else (bnd (f_X10_takesNumber F h1) fun v3 h3 => (if v3 = 0 then (some ((0 : Int32), h3)) else (if inb (nI idx) 60 = true then (lth (wI h3 110 (ix (nI idx)) (h3.1 102 11)) fun h5 => (if inb (nI idx) 60 = true then (if (h5.1 109 (ix (nI idx))) = (2 : Int32) then (some ((1 : Int32), h5)) else (bnd (f_X10_takes F (32 : Int32) h5) fun v7 h7 => (if v7 = 0 then (some ((0 : Int32), h7)) else (bnd (f_X10_takesE F (nI idx) h7) fun v9 h9 => (if v9 = 0 then (some ((0 : Int32), h9)) else (some ((1 : Int32), h9))))))) else none)) else none)))) := rfl
theorem headM {F n p idx wd fr : Nat} {tx : Nat → Nat} {o o1 : PH} {r : Bool} (hidx : idx < 60) (t : TxtM o n tx) (h10 : o.1 102 10 = nI p) (hp : p ≤ n) (hw : (byA n tx p = nI 104 ∧ wd = 1 ∧ fr = 4) ∨ (byA n tx p = nI 110 ∧ wd = 0 ∧ fr = 0) ∨ (¬ byA n tx p = nI 104 ∧ ¬ byA n tx p = nI 110 ∧ wd = 2 ∧ fr = 8)) (e : f_X10_takesWord F (nI fr) (4 : Int32) (wI o 109 idx (nI wd)) = some (b2i r, o1)) : f_X10_takesHead F (nI idx) o = some (b2i r, o1) := by
  have hin : inb (nI idx) 60 = true := inb_nI hidx (by decide)
  unfold f_X10_takesHead
  rw [peekM t h10 hp, bnd_some]
  rcases hw with ⟨h1, rfl, rfl⟩ | ⟨h1, rfl, rfl⟩ | ⟨h1, h2, rfl, rfl⟩
  · rw [if_pos (show byA n tx p = (104 : Int32) from h1), if_pos hin, lth_eq, ix_nI (by omega)]
    rw [show f_X10_takesWord F (4 : Int32) (4 : Int32) (wI o 109 idx (1 : Int32)) = _ from e, bnd_some, b2i_and]
  · rw [if_neg (show ¬ byA n tx p = (104 : Int32) by rw [h1]; decide), if_pos (show byA n tx p = (110 : Int32) from h1), if_pos hin, lth_eq, ix_nI (by omega)]
    rw [show f_X10_takesWord F (0 : Int32) (4 : Int32) (wI o 109 idx (0 : Int32)) = _ from e, bnd_some, b2i_and]
  · rw [if_neg (show ¬ byA n tx p = (104 : Int32) from h1), if_neg (show ¬ byA n tx p = (110 : Int32) from h2), if_pos hin, lth_eq, ix_nI (by omega)]
    rw [show f_X10_takesWord F (8 : Int32) (4 : Int32) (wI o 109 idx (2 : Int32)) = _ from e, bnd_some, b2i_and]
def ClauseP (F z n p s k : Nat) (tx : Nat → Nat) (h : PH) : Prop := ∃ (r : Bool) (q : Nat) (c : MCl) (h' : PH), f_X5_clause F h = some ((), h') ∧ FrZ z h h' ∧ p ≤ q ∧ q ≤ n ∧ (r = true → EC h' z n tx q (s + c.2.2.length) ∧ cOKc z k s c h h') ∧ (r = false → NF h' q) ∧
    ∀ (idx base sg : Nat) (o : PH), idx < 60 → TxtM o n tx → o.1 102 10 = nI p → o.1 102 20 = nI sg → sg ≤ base + p → base ≤ 500 → base ≤ sg → (∀ i, i < 12 → o.1 115 i = lettersL.getD i 0) →
      ∃ o', f_X10_takesClause F (nI idx) o = some (b2i r, o') ∧ o'.1 102 10 = nI q ∧ FrT idx sg o o' ∧ (r = true → cOKm idx sg c o' ∧ sg + c.2.2.length ≤ base + q)
theorem maxNI {v : Nat} (hv : v ≤ 99) : (if (1 : Int32) < nI v then nI v else (1 : Int32)) = nI (max 1 v) := by
  rw [li1, if_t (by decide) (by omega)]
  by_cases h : 1 < v
  · rw [if_pos h, Nat.max_eq_right (by omega)]
  · rw [if_neg h, Nat.max_eq_left (by omega)]
theorem newsP {F z n p s k w fr : Nat} {nw : Bool} {tx : Nat → Nat} {h : PH} (hF : 200 ≤ F) (ec : EC h z n tx p s) (hk : h.1 z 1 = nI k) (h10 : k < 10) (hcl : f_X5_clause F h = fL_X5_clause_58 F (b2i nw) w h) (hw : (nw = true ∧ w = 1 ∧ fr = 0 ∧ byA n tx p = nI 110) ∨ (nw = false ∧ w = 2 ∧ fr = 4 ∧ byA n tx p = nI 104)) : ClauseP F z n p s k tx h := by
  obtain ⟨r1, q1, h1, a1, a2, a3, a4, a5, a6, a7, a8, a9⟩ := words (F := F) (w := w) (fr := fr) (by omega) (by rcases hw with ⟨_, h1, h2, _⟩ | ⟨_, h1, h2, _⟩ <;> omega) ec
  have hk1 : h1.1 z 1 = nI k := by rw [a3]; exact hk
  have hcl2 : f_X5_clause F h = tailN F nw h1 := by rw [hcl, clause58, a1, bnd_some]
  have hz := isBench_or ec.2.2.2.2.2.2.1
  have hwd : ∀ (idx : Nat) (o : PH), idx < 60 → TxtM o n tx → o.1 102 10 = nI p → (∀ i, i < 12 → o.1 115 i = lettersL.getD i 0) → ∃ o1, f_X10_takesHead F (nI idx) o = some (b2i r1, o1) ∧ o1.1 102 10 = nI q1 ∧ FrK (wI o 109 idx (nI (if nw = true then 0 else 1))) o1 := by
    intro idx o hidx t h10' hlt
    have t1 : TxtM (wI o 109 idx (nI (if nw = true then 0 else 1))) n tx := ⟨by rw [rI_ne (by decide)]; exact t.1, t.2.1, by rw [rI_ne (by decide)]; exact t.2.2⟩
    obtain ⟨o1, b1, b2, b3⟩ := a9 _ t1 (by rw [rI_ne (by decide)]; exact h10') (fun i hi => by rw [rI_ne (by decide)]; exact hlt i hi)
    refine ⟨o1, headM (wd := if nw = true then 0 else 1) (fr := fr) hidx t h10' ec.2.2.2.1 ?_ b1, b2, b3⟩
    rcases hw with ⟨h1, h2, h3, h4⟩ | ⟨h1, h2, h3, h4⟩
    · exact Or.inr (Or.inl ⟨h4, by rw [h1]; rfl, h3⟩)
    · exact Or.inl ⟨h4, by rw [h1]; rfl, h3⟩
  cases r1 with
  | true =>
    obtain ⟨e1, e2⟩ := a6 rfl
    obtain ⟨r, q, c, h2, b1, b2, b3, b4, b5, b6, b7, b8⟩ := tailNS (nw := nw) hF e1 hk1 h10
    refine ⟨r, q, c, h2, by rw [hcl2, b1], a2.z.trans b2, by omega, b4, fun hr => ?_, b7, fun idx base sg o hidx t h10' h20 hsg hb hb2 hlt => ?_⟩
    · obtain ⟨x1, y1, y2, y3, y4, y5, y6, y7, y8⟩ := b6 hr
      have ez1 : h1.1 (z + 1) = h.1 (z + 1) := a2.1 _ (by omega) (by omega) (by omega)
      have ez2 : h1.1 (z + 2) = h.1 (z + 2) := a2.1 _ (by omega) (by omega) (by omega)
      rw [ez1, ez2] at y5 y6
      refine ⟨x1, y1, y2, y3, y4, y5, ?_, fun i hi => (y7 i hi).trans (a2.2.2.2.1 i hi), y8⟩
      rw [a3] at y6
      exact y6
    · obtain ⟨o1, g1, g2, g3⟩ := hwd idx o hidx t h10' hlt
      have t1 : TxtM (wI o 109 idx (nI (if nw = true then 0 else 1))) n tx := ⟨by rw [rI_ne (by decide)]; exact t.1, t.2.1, by rw [rI_ne (by decide)]; exact t.2.2⟩
      have f1 : FrT idx sg o o1 := (FrT.w (by omega)).trans g3.t
      obtain ⟨o', d1, d2, d3, d4⟩ := b8 idx base sg o1 hidx (t1.fk g3) g2 (by rw [g3.2.1 20 (by decide) (by decide), rI_ne (by decide)]; exact h20) (by omega) hb hb2 (by rw [g3.1 109 (by decide), rI_eq, b5])
      exact ⟨o', by rw [clauseM, g1, bnd_some, if_neg (show ¬ b2i true = 0 by decide)]; exact d1, d2, f1.trans d3, d4⟩
  | false =>
    obtain ⟨h2, b1, b2, b3⟩ := tailNF (F := F) (nw := nw) (by omega) (a7 rfl) hk1 (by omega)
    refine ⟨false, q1, (0, 0, []), h2, by rw [hcl2, b1], a2.z.trans b2, a4, a5, fun q => absurd q (by decide), fun _ => b3, fun idx base sg o hidx t h10' h20 hsg hb hb2 hlt => ?_⟩
    obtain ⟨o1, g1, g2, g3⟩ := hwd idx o hidx t h10' hlt
    exact ⟨o1, by rw [clauseM, g1, bnd_some, if_pos (show b2i false = 0 by decide)]; rfl, g2, (FrT.w (by omega)).trans g3.t, fun q => absurd q (by decide)⟩
theorem clauseS {F z n p s k : Nat} {tx : Nat → Nat} {h : PH} (hF : 200 ≤ F) (ec : EC h z n tx p s) (hk : h.1 z 1 = nI k) (h10 : k < 10) : ClauseP F z n p s k tx h := by
  have hz := isBench_or ec.2.2.2.2.2.2.1
  have hn := ec.1.2.1
  by_cases h112 : byA n tx p = nI 112
  · -- pace
    obtain ⟨r1, q1, h1, a1, a2, a3, a4, a5, a6, a7, a8, a9⟩ := words (F := F) (w := 0) (fr := 8) (by omega) (Or.inl ⟨rfl, rfl⟩) ec
    have hwd : ∀ (idx : Nat) (o : PH), idx < 60 → TxtM o n tx → o.1 102 10 = nI p → (∀ i, i < 12 → o.1 115 i = lettersL.getD i 0) → ∃ o1, f_X10_takesHead F (nI idx) o = some (b2i r1, o1) ∧ o1.1 102 10 = nI q1 ∧ FrK (wI o 109 idx (nI 2)) o1 := by
      intro idx o hidx t h10' hlt
      have t1 : TxtM (wI o 109 idx (nI 2)) n tx := ⟨by rw [rI_ne (by decide)]; exact t.1, t.2.1, by rw [rI_ne (by decide)]; exact t.2.2⟩
      obtain ⟨o1, b1, b2, b3⟩ := a9 _ t1 (by rw [rI_ne (by decide)]; exact h10') (fun i hi => by rw [rI_ne (by decide)]; exact hlt i hi)
      exact ⟨o1, headM (wd := 2) (fr := 8) hidx t h10' ec.2.2.2.1 (Or.inr (Or.inr ⟨by rw [h112]; decide, by rw [h112]; decide, rfl, rfl⟩)) b1, b2, b3⟩
    have cl : f_X5_clause F h = (omat (h1.2.2 31 5) none fun z18 => if isBench z18 = true then (bnd (f_X5_number F h1) fun v19 h19 => (lth (wI h19 z18 0 (if (1 : Int32) < v19 then v19 else (1 : Int32))) fun h20 => (some ((), h20)))) else none) := by
      unfold f_X5_clause
      rw [ec.2.2.1, if_pos (show byA n tx p = (112 : Int32) from h112), a1, bnd_some]
    have href : h1.2.2 31 5 = some z := by rw [a2.2.2.2.2]; exact ec.2.2.2.2.2.1
    have wz : ∀ (x : PH) (y : Int32), FrZ z x (wI x z 0 y) := fun x y => ⟨fun a u v => rI_ne (by omega), fun i _ _ _ => by rw [rI_ne (by omega)], rfl⟩
    cases r1 with
    | true =>
      obtain ⟨e1, e2⟩ := a6 rfl
      obtain ⟨h2, v, b1, b2, b3⟩ := numberC (F := F) e1
      have cl2 : f_X5_clause F h = some ((), wI h2 z 0 (if (1 : Int32) < v then v else (1 : Int32))) := by
        rw [cl, href, omat_some, if_pos ec.2.2.2.2.2.2.1, b1, bnd_some, lth_eq]
      rcases b3 with ⟨d1, d2, d3, d4, d5⟩ | ⟨d1, d2, d3⟩
      · have fX : FrX z s h h2 := a2.trans (Nat.le_refl _) b2
        refine ⟨true, (numA n tx q1).2, (2, (numA n tx q1).1, []), _, cl2, fX.z.trans (wz _ _), by omega, d5.2.2.2.1, fun _ => ⟨?_, Nat.le_refl 2, d3, fun q => absurd q (show ¬ 2 ≤ 1 by decide), fun _ => rfl, fun _ => ⟨?_, ?_, ?_, ?_⟩, fun q => absurd q (show ¬ 2 ≤ 1 by decide), fun i hi => ?_, trivial⟩, fun q => absurd q (by decide), fun idx base sg o hidx t h10' h20 hsg hb hb2 hlt => ?_⟩
        · obtain ⟨⟨t1, t2, t3⟩, m2, m3, m4, m5, m6, m7, m8, m9⟩ := d5
          exact ⟨⟨by rw [rI_ne (by omega)]; exact t1, t2, by rw [rI_ne (by omega)]; exact t3⟩, by rw [rI_ne (by omega)]; exact m2, by rw [rI_ne (by omega)]; exact m3, m4, by rw [rI_ne (by omega)]; exact m5, m6, m7, by rw [rI_sl (by decide)]; exact m8, m9⟩
        · rw [rI_eq, d2, maxNI d3]
        · rw [rI_sl (by decide), fX.2.2.1 1 (by decide)]; exact hk
        · rw [rI_ne (by omega), fX.1 (z + 1) (by omega) (by omega) (by omega)]
        · rw [rI_ne (by omega), fX.1 (z + 2) (by omega) (by omega) (by omega)]
        · rw [rI_ne (by omega)]; exact fX.2.2.2.1 i hi
        · obtain ⟨o1, g1, g2, g3⟩ := hwd idx o hidx t h10' hlt
          have t1 : TxtM (wI o 109 idx (nI 2)) n tx := ⟨by rw [rI_ne (by decide)]; exact t.1, t.2.1, by rw [rI_ne (by decide)]; exact t.2.2⟩
          have t2 := t1.fk g3
          rcases takesNumberM (F := F) (by omega) t2 g2 e1.2.2.2.1 with ⟨_, o2, q1', q2, q3, q4, q5, q6, q7⟩ | ⟨q1', _⟩
          · have e109 : (wI o2 110 idx (nI (numA n tx q1).1)).1 109 idx = nI 2 := by rw [rI_ne (by decide), q5 109 (by decide), g3.1 109 (by decide), rI_eq]
            refine ⟨wI o2 110 idx (nI (numA n tx q1).1), ?_, by rw [rI_ne (by decide)]; exact q3, (((FrT.w (by omega)).trans g3.t).trans (FrK.t ⟨q5, q6, q7⟩)).trans (FrT.w (by omega)), fun _ => ⟨⟨e109, by rw [rI_eq], fun q => absurd q (show ¬ 2 ≤ 1 by decide), ?_⟩, ?_⟩⟩
            · rw [clauseM, g1, bnd_some, if_neg (show ¬ b2i true = 0 by decide), q1', bnd_some, if_neg (show ¬ (1 : Int32) = 0 by decide), if_pos (inb_nI hidx (by decide)), lth_eq, if_pos (inb_nI hidx (by decide)), ix_nI (by omega), q2, e109, if_pos (show nI 2 = (2 : Int32) from rfl)]; rfl
            · rw [rI_ne (by decide), q6 20 (by decide) (by decide), g3.2.1 20 (by decide) (by decide), rI_ne (by decide)]; exact h20
            · show sg + 0 ≤ base + (numA n tx q1).2; omega
          · exact absurd d1 q1'
      · refine ⟨false, q1, (2, 0, []), _, cl2, (a2.z.trans b2.z).trans (wz _ _), by omega, a5, fun q => absurd q (by decide), fun _ => ⟨by rw [rI_ne (by omega)]; exact d3.1, by rw [rI_ne (by omega)]; exact d3.2.1⟩, fun idx base sg o hidx t h10' h20 hsg hb hb2 hlt => ?_⟩
        obtain ⟨o1, g1, g2, g3⟩ := hwd idx o hidx t h10' hlt
        have t1 : TxtM (wI o 109 idx (nI 2)) n tx := ⟨by rw [rI_ne (by decide)]; exact t.1, t.2.1, by rw [rI_ne (by decide)]; exact t.2.2⟩
        rcases takesNumberM (F := F) (by omega) (t1.fk g3) g2 e1.2.2.2.1 with ⟨q1', _⟩ | ⟨_, q2⟩
        · exact absurd q1' d1
        · exact ⟨o1, by rw [clauseM, g1, bnd_some, if_neg (show ¬ b2i true = 0 by decide), q2, bnd_some, if_pos (show (0 : Int32) = 0 from rfl)]; rfl, g2, (FrT.w (by omega)).trans g3.t, fun q => absurd q (by decide)⟩
    | false =>
      obtain ⟨h2, b1, b2, b3⟩ := numberF (F := F) (s := s) (a7 rfl)
      refine ⟨false, q1, (2, 0, []), wI h2 z 0 (if (1 : Int32) < 0 then 0 else (1 : Int32)), ?_, (a2.z.trans b3.z).trans (wz _ _), a4, a5, fun q => absurd q (by decide), fun _ => ⟨by rw [rI_ne (by omega)]; exact b2.1, by rw [rI_ne (by omega)]; exact b2.2.1⟩, fun idx base sg o hidx t h10' h20 hsg hb hb2 hlt => ?_⟩
      · rw [cl, href, omat_some, if_pos ec.2.2.2.2.2.2.1, b1, bnd_some, lth_eq]
      · obtain ⟨o1, g1, g2, g3⟩ := hwd idx o hidx t h10' hlt
        exact ⟨o1, by rw [clauseM, g1, bnd_some, if_pos (show b2i false = 0 by decide)]; rfl, g2, (FrT.w (by omega)).trans g3.t, fun q => absurd q (by decide)⟩
  · by_cases h110 : byA n tx p = nI 110
    · refine newsP (w := 1) (fr := 0) (nw := true) hF ec hk h10 ?_ (Or.inl ⟨rfl, rfl, rfl, h110⟩)
      unfold f_X5_clause
      rw [ec.2.2.1, if_neg (show ¬ byA n tx p = (112 : Int32) from h112), if_pos (show byA n tx p = (110 : Int32) from h110), if_neg (show ¬ (1 : Int32) = 0 by decide)]
      rfl
    · have hcl : f_X5_clause F h = fL_X5_clause_58 F (b2i false) 2 h := by
        unfold f_X5_clause
        rw [ec.2.2.1, if_neg (show ¬ byA n tx p = (112 : Int32) from h112), if_neg (show ¬ byA n tx p = (110 : Int32) from h110), if_pos (show (0 : Int32) = 0 from rfl)]
        rfl
      by_cases h104 : byA n tx p = nI 104
      · exact newsP (w := 2) (fr := 4) (nw := false) hF ec hk h10 hcl (Or.inr ⟨rfl, rfl, rfl, h104⟩)
      · -- no word at all
        obtain ⟨r1, q1, h1, a1, a2, a3, a4, a5, a6, a7, a8, -⟩ := words (F := F) (w := 2) (fr := 4) (by omega) (Or.inr (Or.inr ⟨rfl, rfl⟩)) ec
        obtain ⟨r2, q2, h2, -, -, -, -, -, -, -, c8, c9⟩ := words (F := F) (w := 0) (fr := 8) (by omega) (Or.inl ⟨rfl, rfl⟩) ec
        obtain ⟨hr1, hq1⟩ := a8 (by rw [bsW0.2.2]; exact h104)
        obtain ⟨hr2, hq2⟩ := c8 (by rw [bsW0.1]; exact h112)
        obtain ⟨h3, b1, b2, b3⟩ := tailNF (F := F) (nw := false) (by omega) (a7 hr1) (by rw [a3]; exact hk) (show k ≤ 10 by omega)
        refine ⟨false, p, (2, 0, []), h3, by rw [hcl, clause58, a1, bnd_some, b1], a2.z.trans b2, Nat.le_refl _, ec.2.2.2.1, fun q => absurd q (by decide), fun _ => by rw [hq1] at b3; exact b3, fun idx base sg o hidx t h10' h20 hsg hb hb2 hlt => ?_⟩
        have t1 : TxtM (wI o 109 idx (nI 2)) n tx := ⟨by rw [rI_ne (by decide)]; exact t.1, t.2.1, by rw [rI_ne (by decide)]; exact t.2.2⟩
        obtain ⟨o1, g1, g2, g3⟩ := c9 _ t1 (by rw [rI_ne (by decide)]; exact h10') (fun i hi => by rw [rI_ne (by decide)]; exact hlt i hi)
        have hd := headM (wd := 2) (fr := 8) hidx t h10' ec.2.2.2.1 (Or.inr (Or.inr ⟨h104, h110, rfl, rfl⟩)) g1
        rw [hr2] at hd
        exact ⟨o1, by rw [clauseM, hd, bnd_some, if_pos (show b2i false = 0 by decide)]; rfl, by rw [g2, hq2], (FrT.w (by omega)).trans g3.t, fun q => absurd q (by decide)⟩
