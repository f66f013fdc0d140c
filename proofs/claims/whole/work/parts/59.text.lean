-- clauses on both sides
def FrT (c sg : Nat) (o o' : PH) : Prop := (∀ a, a ≠ 102 → a ≠ 109 → a ≠ 110 → a ≠ 111 → a ≠ 112 → a ≠ 113 → a ≠ 114 → o'.1 a = o.1 a) ∧ (∀ i, i ≠ 10 → i ≠ 11 → i ≠ 20 → i ≠ 21 → i ≠ 22 → o'.1 102 i = o.1 102 i) ∧ (∀ i, i ≠ c → o'.1 109 i = o.1 109 i ∧ o'.1 110 i = o.1 110 i ∧ o'.1 111 i = o.1 111 i ∧ o'.1 112 i = o.1 112 i) ∧ (∀ i, i < sg → o'.1 113 i = o.1 113 i) ∧ o'.2 = o.2
theorem FrT.refl (c sg : Nat) (o : PH) : FrT c sg o o := ⟨fun _ _ _ _ _ _ _ _ => rfl, fun _ _ _ _ _ _ => rfl, fun _ _ => ⟨rfl, rfl, rfl, rfl⟩, fun _ _ => rfl, rfl⟩
theorem FrT.trans {c s : Nat} {o o1 o2 : PH} (a : FrT c s o o1) (b : FrT c s o1 o2) : FrT c s o o2 := ⟨fun x u1 u2 u3 u4 u5 u6 u7 => (b.1 x u1 u2 u3 u4 u5 u6 u7).trans (a.1 x u1 u2 u3 u4 u5 u6 u7), fun i u1 u2 u3 u4 u5 => (b.2.1 i u1 u2 u3 u4 u5).trans (a.2.1 i u1 u2 u3 u4 u5), fun i u => ⟨(b.2.2.1 i u).1.trans (a.2.2.1 i u).1, (b.2.2.1 i u).2.1.trans (a.2.2.1 i u).2.1, (b.2.2.1 i u).2.2.1.trans (a.2.2.1 i u).2.2.1, (b.2.2.1 i u).2.2.2.trans (a.2.2.1 i u).2.2.2⟩, fun i u => (b.2.2.2.1 i u).trans (a.2.2.2.1 i u), b.2.2.2.2.trans a.2.2.2.2⟩
theorem FrE.t {c sg : Nat} {o o' : PH} (f : FrE c sg o o') : FrT c sg o o' := ⟨fun a u1 _ _ _ u5 u6 u7 => f.1 a u1 u5 u6 u7, fun i u1 u2 u3 u4 u5 => f.2.1 i u1 u2 u3 u4 u5, fun i u => ⟨by rw [f.1 109 (by decide) (by decide) (by decide) (by decide)], by rw [f.1 110 (by decide) (by decide) (by decide) (by decide)], by rw [f.1 111 (by decide) (by decide) (by decide) (by decide)], f.2.2.1 i u⟩, fun i u => f.2.2.2.1 i u, f.2.2.2.2⟩
theorem FrK.t {c sg : Nat} {o o' : PH} (f : FrK o o') : FrT c sg o o' := ⟨fun a u1 _ _ _ _ _ _ => f.1 a u1, fun i u1 u2 _ _ _ => f.2.1 i u1 u2, fun i _ => ⟨by rw [f.1 109 (by decide)], by rw [f.1 110 (by decide)], by rw [f.1 111 (by decide)], by rw [f.1 112 (by decide)]⟩, fun i _ => by rw [f.1 113 (by decide)], f.2.2⟩
theorem FrT.w {c sg a : Nat} {o : PH} {x : Int32} (ha : a = 109 ∨ a = 110 ∨ a = 111 ∨ a = 112) : FrT c sg o (wI o a c x) := ⟨fun b _ u2 u3 u4 u5 _ _ => rI_ne (by omega), fun i _ _ _ _ _ => by rw [rI_ne (by omega)], fun i u => ⟨by rw [rI, if_neg (fun q => u q.2)], by rw [rI, if_neg (fun q => u q.2)], by rw [rI, if_neg (fun q => u q.2)], by rw [rI, if_neg (fun q => u q.2)]⟩, fun i _ => by rw [rI_ne (by omega)], rfl⟩
theorem eitherTop {F z n p s : Nat} {tx : Nat → Nat} {h : PH} (hF : 200 ≤ F) (ec : EC h z n tx p s) : ∃ (r : Bool) (q : Nat) (ts : List Int) (h' : PH), f_grp_X5_either F 50 0 (0 : Int32) h = some ((), h') ∧ FrX z s h h' ∧ p ≤ q ∧ q ≤ n ∧ (r = true → XOK z n tx p s h' q ts ∧ okT ts 0 1) ∧ (r = false → XNO z s h' q) ∧
    ∀ (c base sg : Nat) (o : PH), c < 60 → TxtM o n tx → o.1 102 10 = nI p → o.1 102 20 = nI sg → sg ≤ base + p → base ≤ 500 → base ≤ sg →
      (r = true → ∃ o', f_X10_takesE F (nI c) o = some (1, o') ∧ o'.1 102 10 = nI q ∧ o'.1 102 20 = nI (sg + ts.length) ∧ sg + ts.length ≤ base + q ∧ o'.1 111 c = nI sg ∧ o'.1 112 c = nI (sg + ts.length) ∧ atS (o'.1 113) mT sg ts ∧ FrT c sg o o' ∧ o'.1 109 = o.1 109 ∧ o'.1 110 = o.1 110) ∧
      (r = false → ∃ o', f_X10_takesE F (nI c) o = some (0, o') ∧ o'.1 102 10 = nI q ∧ FrT c sg o o') := by
  obtain ⟨r, q, ts, h', a1, a2, a3, a4, a5, a6, a7⟩ := topS hF z n p s tx h ec
  have hn := ec.1.2.1
  refine ⟨r, q, ts, h', a1, a2, a3, a4, fun hr => ⟨(a5 hr).1, (a5 hr).2.1 0 (Nat.le_refl _)⟩, a6, fun c base sg o hc t h10 h20 hsg hb hb2 => ?_⟩
  have m0 : MO (wI (wI (wI o 102 21 0) 102 22 0) 111 c (nI sg)) n tx p base sg [] := ⟨⟨by rw [rI_ne (by decide), rI_sl (by decide), rI_sl (by decide)]; exact t.1, t.2.1, by rw [rI_ne (by decide), rI_ne (by decide), rI_ne (by decide)]; exact t.2.2⟩, by rw [rI_ne (by decide), rI_sl (by decide), rI_sl (by decide)]; exact h10, ec.2.2.2.1, by rw [rI_ne (by decide), rI_sl (by decide), rI_sl (by decide)]; exact h20, trivial, by rw [rI_ne (by decide), rI_sl (by decide), rI_eq]; rfl, by rw [rI_ne (by decide), rI_eq]; rfl, by simpa using hsg, hb, hb2⟩
  have f0 : FrT c sg o (wI (wI (wI o 102 21 0) 102 22 0) 111 c (nI sg)) := ((FrE.w (by omega)).trans (Nat.le_refl _) (FrE.w (by omega))).t.trans (FrT.w (by omega))
  have head : f_X10_takesE F (nI c) o = fL_X10_takesE_22 F F (nI c) 1 (wI (wI (wI o 102 21 0) 102 22 0) 111 c (nI sg)) := by
    unfold f_X10_takesE
    rw [lth_eq, lth_eq, if_pos (inb_nI hc (by decide)), lth_eq, ix_nI (by omega), rI_sl (show (20 : Nat) ≠ 22 by decide), rI_sl (show (20 : Nat) ≠ 21 by decide), h20]
  obtain ⟨b1, b2⟩ := a7 c base sg [] _ hc m0 trivial rfl
  have e109 : (wI (wI (wI o 102 21 0) 102 22 0) 111 c (nI sg)).1 109 = o.1 109 := by rw [rI_ne (by decide), rI_ne (by decide), rI_ne (by decide)]
  have e110 : (wI (wI (wI o 102 21 0) 102 22 0) 111 c (nI sg)).1 110 = o.1 110 := by rw [rI_ne (by decide), rI_ne (by decide), rI_ne (by decide)]
  have e111 : (wI (wI (wI o 102 21 0) 102 22 0) 111 c (nI sg)).1 111 c = nI sg := rI_eq _ _ _ _
  refine ⟨fun hr => ?_, fun hr => ?_⟩
  · obtain ⟨K, o2, P, ts', g1, g2, g3, g4, g5, g6, g7⟩ := b1 hr
    have st := (a5 hr).2.2
    obtain ⟨o3, y1, y2, y3, y4, y5, y6, y7⟩ := closeM (F := F) (c := c) hF hc g3 (fun b hb => by
      rcases g4 b hb with (z | z) | z
      · exact z.elim
      · exact Or.inl z
      · exact Or.inr z) trivial (st 38 (Or.inl (Or.inr rfl))) (st 124 (Or.inr rfl))
    have len : ts.length = ts'.length + P.length := by rw [g5, List.length_append, emT_len]
    have e := g2 (F - K)
    rw [Nat.sub_add_cancel (by omega)] at e
    have e2 := y5 rfl (F - K - 1)
    rw [Nat.sub_add_cancel (by omega)] at e2
    have room := y1.2.2.2.2.2.2.2.1
    refine ⟨o3, by rw [head, e, e2], y1.2.1, by rw [y1.2.2.2.1, len, Nat.add_assoc], by rw [len, ← Nat.add_assoc]; exact room, ?_, by rw [y4, len, Nat.add_assoc], ?_, (f0.trans g7.t).trans ⟨fun a u1 _ _ _ u5 u6 u7 => y2.1 a u1 u5 u6 u7, fun i u1 u2 u3 u4 u5 => y2.2.1 i u1 u2 u3 u4 u5, y2.t.2.2.1, fun i u => y2.2.2.2.1 i (by omega), y2.2.2.2.2⟩, ?_, ?_⟩
    · rw [y2.1 111 (by decide) (by decide) (by decide) (by decide), g7.1 111 (by decide) (by decide) (by decide) (by decide)]; exact e111
    · rw [g5, atS_app]
      exact ⟨atS_eq (fun j hj => y2.2.2.2.1 j hj) g6, y3⟩
    · rw [y2.1 109 (by decide) (by decide) (by decide) (by decide), g7.1 109 (by decide) (by decide) (by decide) (by decide)]; exact e109
    · rw [y2.1 110 (by decide) (by decide) (by decide) (by decide), g7.1 110 (by decide) (by decide) (by decide) (by decide)]; exact e110
  · obtain ⟨K, o2, g1, g2, g3, g4⟩ := b2 hr
    have e := g2 (F - K)
    rw [Nat.sub_add_cancel (by omega)] at e
    exact ⟨o2, by rw [head, e], g3, f0.trans g4.t⟩
-- the class behind a fault
def NF (h : PH) (q : Nat) : Prop := h.1 31 4 = 1 ∧ h.1 31 2 = nI q
def tailA (F : Nat) (v : Int32) (h8 : PH) : Option (Unit × PH) := omat (h8.2.2 31 5) none fun z9 => if isBench z9 = true then (bnd (f_X2_addClause F z9 v h8) fun _ h10 => (some ((), h10))) else none
def tailD (F : Nat) (v : Int32) (h6 : PH) : Option (Unit × PH) := bnd (f_X5_need F (32 : Int32) h6) fun _ h7 => (bnd (f_grp_X5_either F 50 0 (0 : Int32) h7) fun _ h8 => tailA F v h8)
def tailN (F : Nat) (nw : Bool) (h4 : PH) : Option (Unit × PH) := bnd (f_X5_number F h4) fun v6 h6 => tailD F (if nw = true then v6 else -v6) h6
theorem clause58 {F w : Nat} {nw : Bool} {h : PH} : fL_X5_clause_58 F (b2i nw) w h = bnd (f_X5_word F w h) fun _ h4 => tailN F nw h4 := by
  unfold fL_X5_clause_58 tailN tailD tailA
  cases nw with
  | true => rfl
  | false => rfl
theorem tailAF {F z q k : Nat} {v : Int32} {h : PH} (fc : FC h z q) (hk : h.1 z 1 = nI k) (h10 : k ≤ 10) : ∃ h', tailA F v h = some ((), h') ∧ FrZ z h h' ∧ NF h' q := by
  obtain ⟨h', a1, a2, a3⟩ := addClauseF (F := F) (x := v) fc.2.2.2.1 hk h10
  refine ⟨h', ?_, a2, by rw [a3]; exact fc.1, by rw [a3]; exact fc.2.1⟩
  unfold tailA
  rw [fc.2.2.1, omat_some, if_pos fc.2.2.2.1, a1, bnd_some]
theorem tailDF {F z q k : Nat} {v : Int32} {h : PH} (hF : 10 ≤ F) (fc : FC h z q) (hk : h.1 z 1 = nI k) (h10 : k ≤ 10) : ∃ h', tailD F v h = some ((), h') ∧ FrZ z h h' ∧ NF h' q := by
  obtain ⟨h1, b1, b2, b3⟩ := needF (F := F) (s := 0) (a := 32) fc
  obtain ⟨h', a1, a2, a3⟩ := tailAF (F := F) (v := v) b2 (by rw [b3.2.2.1 1 (by decide)]; exact hk) h10
  refine ⟨h', ?_, b3.z.trans a2, a3⟩
  unfold tailD
  rw [b1, bnd_some, eitherF hF b2.1, bnd_some, a1]
theorem tailNF {F z q k : Nat} {nw : Bool} {h : PH} (hF : 10 ≤ F) (fc : FC h z q) (hk : h.1 z 1 = nI k) (h10 : k ≤ 10) : ∃ h', tailN F nw h = some ((), h') ∧ FrZ z h h' ∧ NF h' q := by
  obtain ⟨h1, b1, b2, b3⟩ := numberF (F := F) (s := 0) fc
  obtain ⟨h', a1, a2, a3⟩ := tailDF (F := F) (v := if nw = true then 0 else -0) hF b2 (by rw [b3.2.2.1 1 (by decide)]; exact hk) h10
  refine ⟨h', ?_, b3.z.trans a2, a3⟩
  unfold tailN
  rw [b1, bnd_some, a1]
def cOKc (z k s : Nat) (c : MCl) (h h' : PH) : Prop :=
  c.1 ≤ 2 ∧ c.2.1 ≤ 99 ∧ (c.1 ≤ 1 → okT c.2.2 0 1) ∧ (c.1 = 2 → c.2.2 = []) ∧
  (c.1 = 2 → h'.1 z 0 = nI (max 1 c.2.1) ∧ h'.1 z 1 = nI k ∧ h'.1 (z + 1) = h.1 (z + 1) ∧ h'.1 (z + 2) = h.1 (z + 2)) ∧
  (c.1 ≤ 1 → h'.1 z 0 = h.1 z 0 ∧ h'.1 z 1 = nI (k + 1) ∧ (∀ i, i ≠ k → h'.1 (z + 1) i = h.1 (z + 1) i) ∧ h'.1 (z + 1) k = Int32.ofInt (if c.1 = 0 then (c.2.1 : Int) else -(c.2.1 : Int)) ∧ (∀ i, i ≠ k → h'.1 (z + 2) i = h.1 (z + 2) i) ∧ h'.1 (z + 2) k = nI (s + c.2.2.length)) ∧
  (∀ i, i < s → h'.1 (z + 3) i = h.1 (z + 3) i) ∧ atS (h'.1 (z + 3)) cT s c.2.2
def cOKm (idx sg : Nat) (c : MCl) (o' : PH) : Prop := o'.1 109 idx = nI c.1 ∧ o'.1 110 idx = nI c.2.1 ∧ (c.1 ≤ 1 → o'.1 111 idx = nI sg ∧ o'.1 112 idx = nI (sg + c.2.2.length) ∧ atS (o'.1 113) mT sg c.2.2) ∧ o'.1 102 20 = nI (sg + c.2.2.length)
/-- the class's part of a news or hush clause behind its word -/
theorem tailNS {F z n p s k : Nat} {tx : Nat → Nat} {nw : Bool} {h : PH} (hF : 200 ≤ F) (ec : EC h z n tx p s) (hk : h.1 z 1 = nI k) (h10 : k < 10) :
    ∃ (r : Bool) (q : Nat) (c : MCl) (h' : PH), tailN F nw h = some ((), h') ∧ FrZ z h h' ∧ p ≤ q ∧ q ≤ n ∧ c.1 = (if nw = true then 0 else 1) ∧ (r = true → EC h' z n tx q (s + c.2.2.length) ∧ cOKc z k s c h h') ∧ (r = false → NF h' q) ∧
      ∀ (idx base sg : Nat) (o : PH), idx < 60 → TxtM o n tx → o.1 102 10 = nI p → o.1 102 20 = nI sg → sg ≤ base + p → base ≤ 500 → base ≤ sg → o.1 109 idx = nI c.1 →
        ∃ o', (bnd (f_X10_takesNumber F o) fun v3 h3 => (if v3 = 0 then (some ((0 : Int32), h3)) else (if inb (nI idx) 60 = true then (lth (wI h3 110 (ix (nI idx)) (h3.1 102 11)) fun h5 => (if inb (nI idx) 60 = true then (if (h5.1 109 (ix (nI idx))) = (2 : Int32) then (some ((1 : Int32), h5)) else (bnd (f_X10_takes F (32 : Int32) h5) fun v7 h7 => (if v7 = 0 then (some ((0 : Int32), h7)) else (bnd (f_X10_takesE F (nI idx) h7) fun v9 h9 => (if v9 = 0 then (some ((0 : Int32), h9)) else (some ((1 : Int32), h9))))))) else none)) else none))) = some (b2i r, o') ∧ o'.1 102 10 = nI q ∧ FrT idx sg o o' ∧ (r = true → cOKm idx sg c o' ∧ sg + c.2.2.length ≤ base + q) := by
  have hz := isBench_or ec.2.2.2.2.2.2.1
  have hn := ec.1.2.1
  obtain ⟨h1, v1, a1, a2, a3⟩ := numberC (F := F) ec
  rcases a3 with ⟨d1, d2, d3, d4, d5⟩ | ⟨d1, d2, d3⟩
  · have mid : ∀ (idx base sg : Nat) (o : PH), idx < 60 → TxtM o n tx → o.1 102 10 = nI p → o.1 102 20 = nI sg → (if nw = true then 0 else 1) = (if nw = true then 0 else 1) → o.1 109 idx = nI (if nw = true then 0 else 1) →
        ∃ o2, f_X10_takesNumber F o = some (1, o2) ∧ FrT idx sg o (wI o2 110 idx (nI (numA n tx p).1)) ∧ o2.1 102 11 = nI (numA n tx p).1 ∧ (wI o2 110 idx (nI (numA n tx p).1)).1 109 idx = nI (if nw = true then 0 else 1) ∧ TxtM (wI o2 110 idx (nI (numA n tx p).1)) n tx ∧ (wI o2 110 idx (nI (numA n tx p).1)).1 102 10 = nI (numA n tx p).2 ∧ (wI o2 110 idx (nI (numA n tx p).1)).1 102 20 = nI sg := by
      intro idx base sg o hidx t h10' h20 _ h109
      rcases takesNumberM (F := F) (by omega) t h10' ec.2.2.2.1 with ⟨_, o2, q1, q2, q3, q4, q5, q6, q7⟩ | ⟨q1, _⟩
      · have fk : FrK o o2 := ⟨q5, q6, q7⟩
        have t2 := t.fk fk
        exact ⟨o2, q1, fk.t.trans (FrT.w (by omega)), q2, by rw [rI_ne (by decide), q5 109 (by decide)]; exact h109, ⟨by rw [rI_ne (by decide)]; exact t2.1, t2.2.1, by rw [rI_ne (by decide)]; exact t2.2.2⟩, by rw [rI_ne (by decide)]; exact q3, by rw [rI_ne (by decide), q6 20 (by decide) (by decide)]; exact h20⟩
      · exact absurd d1 q1
    have n2 : ¬ nI (if nw = true then 0 else 1) = (2 : Int32) := by cases nw <;> decide
    obtain ⟨h2, b1, b2, b3⟩ := needC (F := F) (a := 32) (by decide) d5
    have hk1 : h2.1 z 1 = nI k := by rw [b2.2.2.1 1 (by decide), a2.2.2.1 1 (by decide)]; exact hk
    rcases b3 with ⟨w1, w2, w3⟩ | ⟨w1, w2⟩
    · obtain ⟨r, q, ts, h3, e1, e2, e3, e4, e5, e6, e7⟩ := eitherTop hF w3
      have hk2 : h3.1 z 1 = nI k := by rw [e2.2.2.1 1 (by decide)]; exact hk1
      have hd : tailN F nw h = tailA F (if nw = true then nI (numA n tx p).1 else -(nI (numA n tx p).1)) h3 := by
        unfold tailN tailD
        rw [a1, bnd_some, d2, b1, bnd_some, e1, bnd_some]
      have fX : FrX z s h h3 := (a2.trans (Nat.le_refl _) b2).trans (Nat.le_refl _) e2
      have hmod : ∀ (idx base sg : Nat) (o : PH), idx < 60 → TxtM o n tx → o.1 102 10 = nI p → o.1 102 20 = nI sg → o.1 109 idx = nI (if nw = true then 0 else 1) → ∃ o2, (bnd (f_X10_takesNumber F o) fun v3 h3 => (if v3 = 0 then (some ((0 : Int32), h3)) else (if inb (nI idx) 60 = true then (lth (wI h3 110 (ix (nI idx)) (h3.1 102 11)) fun h5 => (if inb (nI idx) 60 = true then (if (h5.1 109 (ix (nI idx))) = (2 : Int32) then (some ((1 : Int32), h5)) else (bnd (f_X10_takes F (32 : Int32) h5) fun v7 h7 => (if v7 = 0 then (some ((0 : Int32), h7)) else (bnd (f_X10_takesE F (nI idx) h7) fun v9 h9 => (if v9 = 0 then (some ((0 : Int32), h9)) else (some ((1 : Int32), h9))))))) else none)) else none))) = (bnd (f_X10_takesE F (nI idx) o2) fun v9 h9 => (if v9 = 0 then (some ((0 : Int32), h9)) else (some ((1 : Int32), h9)))) ∧
          FrT idx sg o o2 ∧ o2.1 109 idx = nI (if nw = true then 0 else 1) ∧ o2.1 110 idx = nI (numA n tx p).1 ∧ TxtM o2 n tx ∧ o2.1 102 10 = nI ((numA n tx p).2 + 1) ∧ o2.1 102 20 = nI sg := by
        intro idx base sg o hidx t h10' h20 h109
        obtain ⟨o1, u1, u2, u3, u4, u5, u6, u7⟩ := mid idx base sg o hidx t h10' h20 rfl h109
        refine ⟨wI (wI o1 110 idx (nI (numA n tx p).1)) 102 10 (nI ((numA n tx p).2 + 1)), ?_, u2.trans FrK.w.t, by rw [rI_ne (by decide)]; exact u4, by rw [rI_ne (by decide), rI_eq], u5.w102 (by decide), rI_eq _ _ _ _, by rw [rI_sl (by decide)]; exact u7⟩
        rw [u1, bnd_some, if_neg (show ¬ (1 : Int32) = 0 by decide), if_pos (inb_nI hidx (by decide)), lth_eq, if_pos (inb_nI hidx (by decide)), ix_nI (by omega), u3, u4, if_neg n2, takesM u5 u6 d5.2.2.2.1, if_pos w1, bnd_some, if_neg (show ¬ (1 : Int32) = 0 by decide)]
      cases r with
      | true =>
        obtain ⟨⟨x1, x2, x3, x4⟩, x5⟩ := e5 rfl
        obtain ⟨h4, l1, l2, l3, l4, l5, l6, l7, l8, l9, l10⟩ := addClauseC (F := F) (x := if nw = true then nI (numA n tx p).1 else -(nI (numA n tx p).1)) ec.2.2.2.2.2.2.1 hk2 h10
        have hx1 : EC h4 z n tx q (s + ts.length) := by
          obtain ⟨⟨t1, t2, t3⟩, m2, m3, m4, m5, m6, m7, m8, m9⟩ := x1
          exact ⟨⟨by rw [l10]; exact t1, t2, by rw [l2.1 32 (by decide) (by omega)]; exact t3⟩, by rw [l10]; exact m2, by rw [l10]; exact m3, m4, by rw [l10]; exact m5, by rw [l2.2.2]; exact m6, m7, by rw [l3 4 (by decide)]; exact m8, m9⟩
        refine ⟨true, q, (if nw = true then 0 else 1, (numA n tx p).1, ts), h4, ?_, fX.z.trans l2, by omega, e4, rfl, fun _ => ⟨hx1, ?_, d3, fun _ => x5, fun q => ?_, fun q => ?_, fun _ => ⟨?_, l4, fun i hi => ?_, ?_, fun i hi => ?_, ?_⟩, fun i hi => ?_, ?_⟩, fun q => absurd q (by decide), fun idx base sg o hidx t h10' h20 hsg hb hb2 h109 => ?_⟩
        · rw [hd]
          unfold tailA
          rw [x1.2.2.2.2.2.1, omat_some, if_pos x1.2.2.2.2.2.2.1, l1, bnd_some]
        · show (if nw = true then 0 else 1) ≤ 2
          split <;> decide
        · have q' : (if nw = true then 0 else 1) = 2 := q
          cases nw <;> exact absurd q' (by decide)
        · have q' : (if nw = true then 0 else 1) = 2 := q
          cases nw <;> exact absurd q' (by decide)
        · rw [l3 0 (by decide), fX.2.2.1 0 (by decide)]
        · rw [l5 i hi, fX.1 (z + 1) (by omega) (by omega) (by omega)]
        · rw [l6]
          show (if nw = true then nI (numA n tx p).1 else -(nI (numA n tx p).1)) = Int32.ofInt (if (if nw = true then 0 else 1) = 0 then ((numA n tx p).1 : Int) else -((numA n tx p).1 : Int))
          cases nw with
          | true => rfl
          | false =>
            rw [if_neg (show ¬ false = true by decide), if_neg (show ¬ (if false = true then 0 else 1) = 0 by decide), Int32.ofInt_neg]
            rfl
        · rw [l7 i hi, fX.1 (z + 2) (by omega) (by omega) (by omega)]
        · rw [l8]; exact x1.2.2.2.2.2.2.2.1
        · rw [l9]; exact fX.2.2.2.1 i hi
        · rw [l9]; exact x2
        · obtain ⟨o2, u1, u2, u3, u4, u5, u6, u7⟩ := hmod idx base sg o hidx t h10' h20 h109
          obtain ⟨o3, g1, g2, g3, g4, g5, g6, g7, g8, g9, g10⟩ := (e7 idx base sg o2 hidx u5 u6 u7 (by omega) hb hb2).1 rfl
          refine ⟨o3, by rw [u1, g1, bnd_some, if_neg (show ¬ (1 : Int32) = 0 by decide)]; rfl, g2, u2.trans g8, fun _ => ⟨⟨by rw [g9]; exact u3, by rw [g10]; exact u4, fun _ => ⟨g5, g6, g7⟩, g3⟩, g4⟩⟩
      | false =>
        obtain ⟨x1, x2⟩ := e6 rfl
        obtain ⟨h4, l1, l2, l3⟩ := tailAF (F := F) (v := if nw = true then nI (numA n tx p).1 else -(nI (numA n tx p).1)) x1 hk2 (by omega)
        refine ⟨false, q, (if nw = true then 0 else 1, (numA n tx p).1, ts), h4, by rw [hd, l1], fX.z.trans l2, by omega, e4, rfl, fun q => absurd q (by decide), fun _ => l3, fun idx base sg o hidx t h10' h20 hsg hb hb2 h109 => ?_⟩
        obtain ⟨o2, u1, u2, u3, u4, u5, u6, u7⟩ := hmod idx base sg o hidx t h10' h20 h109
        obtain ⟨o3, g1, g2, g3⟩ := (e7 idx base sg o2 hidx u5 u6 u7 (by omega) hb hb2).2 rfl
        exact ⟨o3, by rw [u1, g1, bnd_some, if_pos (show (0 : Int32) = 0 from rfl)]; rfl, g2, u2.trans g3, fun q => absurd q (by decide)⟩
    · obtain ⟨h3, l1, l2, l3⟩ := tailAF (F := F) (v := if nw = true then nI (numA n tx p).1 else -(nI (numA n tx p).1)) w2 hk1 (by omega)
      refine ⟨false, (numA n tx p).2, (if nw = true then 0 else 1, (numA n tx p).1, []), h3, ?_, (a2.z.trans b2.z).trans l2, by omega, d5.2.2.2.1, rfl, fun q => absurd q (by decide), fun _ => l3, fun idx base sg o hidx t h10' h20 hsg hb hb2 h109 => ?_⟩
      · unfold tailN tailD
        rw [a1, bnd_some, d2, b1, bnd_some, eitherF (by omega) w2.1, bnd_some, l1]
      · obtain ⟨o1, u1, u2, u3, u4, u5, u6, u7⟩ := mid idx base sg o hidx t h10' h20 rfl h109
        refine ⟨wI o1 110 idx (nI (numA n tx p).1), ?_, u6, u2, fun q => absurd q (by decide)⟩
        rw [u1, bnd_some, if_neg (show ¬ (1 : Int32) = 0 by decide), if_pos (inb_nI hidx (by decide)), lth_eq, if_pos (inb_nI hidx (by decide)), ix_nI (by omega), u3, u4, if_neg n2, takesM u5 u6 d5.2.2.2.1, if_neg w1, bnd_some, if_pos (show (0 : Int32) = 0 from rfl)]
        rfl
  · obtain ⟨h2, l1, l2, l3⟩ := tailDF (F := F) (v := if nw = true then v1 else -v1) (by omega) d3 (by rw [a2.2.2.1 1 (by decide)]; exact hk) (by omega)
    refine ⟨false, p, (if nw = true then 0 else 1, 0, []), h2, ?_, a2.z.trans l2, by omega, ec.2.2.2.1, rfl, fun q => absurd q (by decide), fun _ => l3, fun idx base sg o hidx t h10' h20 hsg hb hb2 h109 => ?_⟩
    · unfold tailN
      rw [a1, bnd_some, l1]
    · rcases takesNumberM (F := F) (by omega) t h10' ec.2.2.2.1 with ⟨q1, _⟩ | ⟨_, q2⟩
      · exact absurd q1 d1
      · exact ⟨o, by rw [q2, bnd_some, if_pos (show (0 : Int32) = 0 from rfl)]; rfl, h10', FrT.refl _ _ _, fun q => absurd q (by decide)⟩
