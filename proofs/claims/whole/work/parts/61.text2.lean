-- the whole text
def totW : List (Int × List Int) → Nat
  | [] => 0
  | q :: l => q.2.length + totW l
def totQ : List MCl → Nat
  | [] => 0
  | q :: l => q.2.2.length + totQ l
theorem totQ_snoc (c : MCl) : ∀ l, totQ (l ++ [c]) = totQ l + c.2.2.length
  | [] => by show c.2.2.length + 0 = 0 + c.2.2.length; omega
  | q :: l => by
    show q.2.2.length + totQ (l ++ [c]) = q.2.2.length + totQ l + c.2.2.length
    rw [totQ_snoc c l]; omega
theorem totW_snoc (c : Int × List Int) : ∀ l, totW (l ++ [c]) = totW l + c.2.length
  | [] => by show c.2.length + 0 = 0 + c.2.length; omega
  | q :: l => by
    show q.2.length + totW (l ++ [c]) = q.2.length + totW l + c.2.length
    rw [totW_snoc c l]; omega
def clP (h : PH) (z : Nat) : Nat → Nat → List (Int × List Int) → Prop
  | _, _, [] => True
  | i, s, q :: l => h.1 (z + 1) i = Int32.ofInt q.1 ∧ h.1 (z + 2) i = nI (s + q.2.length) ∧ s + q.2.length ≤ 100 ∧ atS (h.1 (z + 3)) cT s q.2 ∧ clP h z (i + 1) (s + q.2.length) l
theorem clP_fin {h : PH} {z : Nat} : ∀ {l : List (Int × List Int)} {i s : Nat}, clP h z i s l → h.1 z 1 = nI (i + l.length) → h.1 z 4 = nI (s + totW l) → clC h z i s l
  | [], _, _, _, e1, e2 => ⟨e1, e2⟩
  | q :: l, i, s, u, e1, e2 => ⟨u.1, u.2.1, u.2.2.1, u.2.2.2.1, clP_fin u.2.2.2.2 (by rw [e1, List.length_cons, show i + 1 + l.length = i + (l.length + 1) by omega]) (by rw [e2]; show nI (s + (q.2.length + totW l)) = _; rw [Nat.add_assoc])⟩
theorem clP_eq {h h' : PH} {z : Nat} : ∀ {l : List (Int × List Int)} {i s : Nat}, (∀ j, j < i + l.length → h'.1 (z + 1) j = h.1 (z + 1) j ∧ h'.1 (z + 2) j = h.1 (z + 2) j) → (∀ j, j < s + totW l → h'.1 (z + 3) j = h.1 (z + 3) j) → clP h z i s l → clP h' z i s l
  | [], _, _, _, _, _ => trivial
  | q :: l, i, s, e1, e2, u => by
    have e2' : ∀ j, j < s + (q.2.length + totW l) → h'.1 (z + 3) j = h.1 (z + 3) j := e2
    rw [List.length_cons] at e1
    exact ⟨by rw [(e1 i (by omega)).1]; exact u.1, by rw [(e1 i (by omega)).2]; exact u.2.1, u.2.2.1, atS_eq (fun j hj => e2' j (by omega)) u.2.2.2.1, clP_eq (fun j hj => e1 j (by omega)) (fun j hj => e2' j (by omega)) u.2.2.2.2⟩
theorem clP_snoc {h : PH} {z : Nat} {c : Int × List Int} : ∀ {l : List (Int × List Int)} {i s : Nat}, clP h z i s l → h.1 (z + 1) (i + l.length) = Int32.ofInt c.1 → h.1 (z + 2) (i + l.length) = nI (s + totW l + c.2.length) → s + totW l + c.2.length ≤ 100 → atS (h.1 (z + 3)) cT (s + totW l) c.2 → clP h z i s (l ++ [c])
  | [], _, _, _, e1, e2, e3, e4 => ⟨e1, e2, e3, e4, trivial⟩
  | q :: l, i, s, u, e1, e2, e3, e4 => by
    have a : s + totW (q :: l) = s + q.2.length + totW l := by show s + (q.2.length + totW l) = _; omega
    rw [List.length_cons, show i + (l.length + 1) = i + 1 + l.length by omega] at e1 e2
    rw [a] at e2 e3 e4
    exact ⟨u.1, u.2.1, u.2.2.1, u.2.2.2.1, clP_snoc u.2.2.2.2 e1 e2 e3 e4⟩
def clQ (o : PH) : Nat → Nat → List MCl → Prop
  | _, _, [] => True
  | i, g, q :: l => o.1 109 i = nI q.1 ∧ o.1 110 i = nI q.2.1 ∧ (q.1 ≤ 1 → o.1 111 i = nI g ∧ o.1 112 i = nI (g + q.2.2.length) ∧ atS (o.1 113) mT g q.2.2) ∧ clQ o (i + 1) (g + q.2.2.length) l
theorem clQ_eq {o o' : PH} : ∀ {l : List MCl} {i g : Nat}, (∀ j, j < i + l.length → o'.1 109 j = o.1 109 j ∧ o'.1 110 j = o.1 110 j ∧ o'.1 111 j = o.1 111 j ∧ o'.1 112 j = o.1 112 j) → (∀ j, j < g + totQ l → o'.1 113 j = o.1 113 j) → clQ o i g l → clQ o' i g l
  | [], _, _, _, _, _ => trivial
  | q :: l, i, g, e1, e2, u => by
    have e2' : ∀ j, j < g + (q.2.2.length + totQ l) → o'.1 113 j = o.1 113 j := e2
    rw [List.length_cons] at e1
    have e := e1 i (by omega)
    refine ⟨by rw [e.1]; exact u.1, by rw [e.2.1]; exact u.2.1, fun hq => ?_, clQ_eq (fun j hj => e1 j (by omega)) (fun j hj => e2' j (by omega)) u.2.2.2⟩
    have := u.2.2.1 hq
    exact ⟨by rw [e.2.2.1]; exact this.1, by rw [e.2.2.2]; exact this.2.1, atS_eq (fun j hj => e2' j (by omega)) this.2.2⟩
theorem clQ_snoc {o : PH} {c : MCl} : ∀ {l : List MCl} {i g : Nat}, clQ o i g l → o.1 109 (i + l.length) = nI c.1 → o.1 110 (i + l.length) = nI c.2.1 → (c.1 ≤ 1 → o.1 111 (i + l.length) = nI (g + totQ l) ∧ o.1 112 (i + l.length) = nI (g + totQ l + c.2.2.length) ∧ atS (o.1 113) mT (g + totQ l) c.2.2) → clQ o i g (l ++ [c])
  | [], _, _, _, e1, e2, e3 => ⟨e1, e2, e3, trivial⟩
  | q :: l, i, g, u, e1, e2, e3 => by
    have a : g + totQ (q :: l) = g + q.2.2.length + totQ l := by show g + (q.2.2.length + totQ l) = _; omega
    rw [List.length_cons, show i + (l.length + 1) = i + 1 + l.length by omega] at e1 e2 e3
    rw [a] at e3
    exact ⟨u.1, u.2.1, u.2.2.1, clQ_snoc u.2.2.2 e1 e2 e3⟩
theorem clQ_M {o : PH} {fb : Nat} : ∀ {l : List MCl} {i g : Nat}, 10 * fb ≤ i → i + l.length ≤ 10 * fb + 10 → g + totQ l ≤ 100 * (fb + 1) → clQ o i g l → clM o i l
  | [], _, _, _, _, _, _ => trivial
  | q :: l, i, g, h1, h2, h3, u => by
    have h3' : g + (q.2.2.length + totQ l) ≤ 100 * (fb + 1) := h3
    rw [List.length_cons] at h2
    refine ⟨⟨u.1, u.2.1, fun hq => ?_⟩, clQ_M (fb := fb) (by omega) (by omega) (by omega) u.2.2.2⟩
    have := u.2.2.1 hq
    have hi : i / 10 = fb := by omega
    exact ⟨g, this.1, this.2.1, by rw [hi]; omega, this.2.2⟩
def FrB (fb : Nat) (o o' : PH) : Prop := (∀ a, a ≠ 102 → (a < 108 ∨ 114 < a) → o'.1 a = o.1 a) ∧ (∀ i, i ≠ 10 → i ≠ 11 → i ≠ 20 → i ≠ 21 → i ≠ 22 → o'.1 102 i = o.1 102 i) ∧ (∀ i, i ≠ fb → o'.1 108 i = o.1 108 i) ∧ (∀ i, i < 10 * fb → o'.1 109 i = o.1 109 i ∧ o'.1 110 i = o.1 110 i ∧ o'.1 111 i = o.1 111 i ∧ o'.1 112 i = o.1 112 i) ∧ (∀ i, i < 100 * fb → o'.1 113 i = o.1 113 i) ∧ o'.2 = o.2
theorem FrB.trans {c : Nat} {o o1 o2 : PH} (a : FrB c o o1) (b : FrB c o1 o2) : FrB c o o2 := ⟨fun x u1 u2 => (b.1 x u1 u2).trans (a.1 x u1 u2), fun i u1 u2 u3 u4 u5 => (b.2.1 i u1 u2 u3 u4 u5).trans (a.2.1 i u1 u2 u3 u4 u5), fun i u => (b.2.2.1 i u).trans (a.2.2.1 i u), fun i u => ⟨(b.2.2.2.1 i u).1.trans (a.2.2.2.1 i u).1, (b.2.2.2.1 i u).2.1.trans (a.2.2.2.1 i u).2.1, (b.2.2.2.1 i u).2.2.1.trans (a.2.2.2.1 i u).2.2.1, (b.2.2.2.1 i u).2.2.2.trans (a.2.2.2.1 i u).2.2.2⟩, fun i u => (b.2.2.2.2.1 i u).trans (a.2.2.2.2.1 i u), b.2.2.2.2.2.trans a.2.2.2.2.2⟩
theorem FrT.b {c sg fb : Nat} {o o' : PH} (hc : 10 * fb ≤ c) (hs : 100 * fb ≤ sg) (f : FrT c sg o o') : FrB fb o o' := ⟨fun a u v => f.1 a u (by omega) (by omega) (by omega) (by omega) (by omega) (by omega), f.2.1, fun i _ => by rw [f.1 108 (by decide) (by decide) (by decide) (by decide) (by decide) (by decide) (by decide)], fun i u => f.2.2.1 i (by omega), fun i u => f.2.2.2.1 i (by omega), f.2.2.2.2⟩
theorem FrB.w8 {fb : Nat} {o : PH} {x : Int32} : FrB fb o (wI o 108 fb x) := ⟨fun a u v => rI_ne (by omega), fun i _ _ _ _ _ => by rw [rI_ne (by decide)], fun i u => rI_sl u, fun i _ => ⟨by rw [rI_ne (by decide)], by rw [rI_ne (by decide)], by rw [rI_ne (by decide)], by rw [rI_ne (by decide)]⟩, fun i _ => by rw [rI_ne (by decide)], rfl⟩
theorem weiM_snoc (l : List MCl) (c : MCl) : weiM (l ++ [c]) = weiM l ++ weiM [c] := List.filterMap_append ..
theorem weiM_2 {c : MCl} (h : c.1 = 2) : weiM [c] = [] := by simp [weiM, h]
theorem weiM_0 {c : MCl} (h : c.1 = 0) : weiM [c] = [((c.2.1 : Int), c.2.2)] := by simp [weiM, h]
theorem weiM_1 {c : MCl} (h : c.1 = 1) : weiM [c] = [(-(c.2.1 : Int), c.2.2)] := by simp [weiM, h]
theorem paceM_snoc (l : List MCl) (c : MCl) : paceM 10 (l ++ [c]) = if c.1 = 2 then c.2.1 else paceM 10 l := by simp [paceM, List.foldl_append]
def StC (h : PH) (z n : Nat) (tx : Nat → Nat) (p : Nat) (l : List MCl) : Prop := EC h z n tx p (totQ l) ∧ h.1 z 0 = nI (max 1 (paceM 10 l)) ∧ h.1 z 1 = nI (weiM l).length ∧ clP h z 0 0 (weiM l) ∧ totW (weiM l) = totQ l ∧ l.length ≤ 10 ∧ ∀ q ∈ l, q.1 ≤ 2 ∧ q.2.1 ≤ 99 ∧ (q.1 ≤ 1 → okT q.2.2 0 1)
def StM (o : PH) (n : Nat) (tx : Nat → Nat) (p fb : Nat) (l : List MCl) : Prop := TxtM o n tx ∧ o.1 102 10 = nI p ∧ o.1 102 20 = nI (100 * fb + totQ l) ∧ (∀ i, i < 12 → o.1 115 i = lettersL.getD i 0) ∧ clQ o (10 * fb) (100 * fb) l
theorem StC.snoc {h h' : PH} {z n p q : Nat} {tx : Nat → Nat} {l : List MCl} {c : MCl} (u : StC h z n tx p l) (hl : l.length < 10) (ec : EC h' z n tx q (totQ l + c.2.2.length)) (ok : cOKc z (weiM l).length (totQ l) c h h') : StC h' z n tx q (l ++ [c]) := by
  obtain ⟨u1, u2, u3, u4, u5, u6, u7⟩ := u
  obtain ⟨c1, c2, c3, c4, c5, c6, c7, c8⟩ := ok
  have room : totQ l + c.2.2.length ≤ 100 := by have := ec.2.2.2.2.2.2.2.2; have := ec.2.2.2.1; have := ec.1.2.1; omega
  refine ⟨by rw [totQ_snoc]; exact ec, ?_, ?_, ?_, ?_, by rw [List.length_append, List.length_singleton]; omega, fun d hd => ?_⟩
  · rw [paceM_snoc]
    by_cases h2 : c.1 = 2
    · rw [if_pos h2]; exact (c5 h2).1
    · rw [if_neg h2, (c6 (by omega)).1]; exact u2
  · rw [weiM_snoc]
    by_cases h2 : c.1 = 2
    · rw [weiM_2 h2, List.append_nil]; exact (c5 h2).2.1
    · rw [(c6 (by omega)).2.1]
      have : c.1 = 0 ∨ c.1 = 1 := by omega
      rcases this with h0 | h0
      · rw [weiM_0 h0, List.length_append, List.length_singleton]
      · rw [weiM_1 h0, List.length_append, List.length_singleton]
  · rw [weiM_snoc]
    by_cases h2 : c.1 = 2
    · rw [weiM_2 h2, List.append_nil]
      obtain ⟨_, _, d1, d2⟩ := c5 h2
      exact clP_eq (fun j _ => ⟨by rw [d1], by rw [d2]⟩) (fun j hj => c7 j (by omega)) u4
    · obtain ⟨d0, d1, d2, d3, d4, d5⟩ := c6 (by omega)
      have old : clP h' z 0 0 (weiM l) := clP_eq (fun j hj => ⟨d2 j (by omega), d4 j (by omega)⟩) (fun j hj => c7 j (by omega)) u4
      have : c.1 = 0 ∨ c.1 = 1 := by omega
      rcases this with h0 | h0
      · rw [weiM_0 h0]
        rw [if_pos h0] at d3
        exact clP_snoc old (by rw [Nat.zero_add]; exact d3) (by rw [Nat.zero_add, Nat.zero_add, u5]; exact d5) (by rw [Nat.zero_add, u5]; exact room) (by rw [Nat.zero_add, u5]; exact c8)
      · rw [weiM_1 h0]
        rw [if_neg (by omega)] at d3
        exact clP_snoc old (by rw [Nat.zero_add]; exact d3) (by rw [Nat.zero_add, Nat.zero_add, u5]; exact d5) (by rw [Nat.zero_add, u5]; exact room) (by rw [Nat.zero_add, u5]; exact c8)
  · rw [weiM_snoc, totQ_snoc]
    by_cases h2 : c.1 = 2
    · rw [weiM_2 h2, List.append_nil, c4 h2, u5]; rfl
    · have : c.1 = 0 ∨ c.1 = 1 := by omega
      rcases this with h0 | h0
      · rw [weiM_0 h0, totW_snoc, u5]
      · rw [weiM_1 h0, totW_snoc, u5]
  · rcases List.mem_append.mp hd with hd | hd
    · exact u7 d hd
    · rw [List.mem_singleton] at hd
      subst hd
      exact ⟨c1, c2, c3⟩
theorem StM.snoc {o o' : PH} {n p q fb : Nat} {tx : Nat → Nat} {l : List MCl} {c : MCl} (u : StM o n tx p fb l) (f : FrT (10 * fb + l.length) (100 * fb + totQ l) o o') (h10 : o'.1 102 10 = nI q) (ok : cOKm (10 * fb + l.length) (100 * fb + totQ l) c o') : StM o' n tx q fb (l ++ [c]) := by
  obtain ⟨u1, u2, u3, u4, u5⟩ := u
  obtain ⟨c1, c2, c3, c4⟩ := ok
  have old : clQ o' (10 * fb) (100 * fb) l := clQ_eq (fun j hj => f.2.2.1 j (by omega)) (fun j hj => f.2.2.2.1 j hj) u5
  exact ⟨⟨by rw [f.2.1 9 (by decide) (by decide) (by decide) (by decide) (by decide)]; exact u1.1, u1.2.1, by rw [f.1 107 (by decide) (by decide) (by decide) (by decide) (by decide) (by decide) (by decide)]; exact u1.2.2⟩, h10, by rw [c4, totQ_snoc, Nat.add_assoc], by rw [f.1 115 (by decide) (by decide) (by decide) (by decide) (by decide) (by decide) (by decide)]; exact u4, clQ_snoc old c1 c2 c3⟩
def EndC (z : Nat) (h' : PH) (l : List MCl) : Prop := okM l ∧ CB h' z (ofM l)
theorem StC.fin {h : PH} {z n p : Nat} {tx : Nat → Nat} {l : List MCl} (u : StC h z n tx p l) : EndC z h l := by
  obtain ⟨u1, u2, u3, u4, u5, u6, u7⟩ := u
  exact ⟨⟨u6, u7⟩, u1.2.2.2.2.2.2.1, u2, clP_fin (l := weiM l) u4 (by rw [Nat.zero_add]; exact u3) (by rw [Nat.zero_add, u5]; exact u1.2.2.2.2.2.2.2.1)⟩
/-- from the k-th clause on -/
theorem textS {F z n fb : Nat} {tx : Nat → Nat} (hF : 200 ≤ F) (hfb : fb < 6) : ∀ (j p f : Nat) (l : List MCl) (h o : PH), l.length + j = 10 → 0 < j → j < f → StC h z n tx p l → StM o n tx p fb l →
    ∃ (r : Bool) (q : Nat) (h' o' : PH), (bnd (f_X5_clause F h) fun _ h7 => fL_X5_readInto_32 F f (nI (l.length + 1)) h7) = some (b2i r, h') ∧ fL_X10_goesText_15 F f (nI fb) (nI l.length) o = some (b2i r, o') ∧ FrZ z h h' ∧ FrB fb o o' ∧ h'.1 31 2 = nI q ∧ o'.1 102 10 = nI q ∧ q ≤ n ∧
      (r = true → ∃ l', EndC z h' l' ∧ clM o' (10 * fb) l' ∧ o'.1 108 fb = nI l'.length) := by
  intro j
  induction j with
  | zero => intro p f l h o hl h0; exact absurd h0 (by omega)
  | succ j ih =>
    intro p f l h o hl h0 hf sc sm
    obtain ⟨f, rfl⟩ : ∃ m, f = m + 1 := ⟨f - 1, by omega⟩
    have hk : (weiM l).length < 10 := Nat.lt_of_le_of_lt (List.length_filterMap_le _ _) (by omega)
    have hn := sc.1.1.2.1
    have hpn := sc.1.2.2.2.1
    have hsp := sc.1.2.2.2.2.2.2.2.2
    obtain ⟨r, q, c, h1, a1, a2, a3, a4, a5, a6, a7⟩ := clauseS (k := (weiM l).length) hF sc.1 sc.2.2.1 hk
    obtain ⟨o1, b1, b2, b3, b4⟩ := a7 (10 * fb + l.length) (100 * fb) (100 * fb + totQ l) o (by omega) sm.1 sm.2.1 sm.2.2.1 (by omega) (by omega) (by omega) sm.2.2.2.1
    have hidx : (10 : Int32) * nI fb + nI l.length = nI (10 * fb + l.length) := by rw [show (10 : Int32) = nI 10 from rfl, pk_mul, nI_add]
    cases r with
    | false =>
      have nf := a6 rfl
      refine ⟨false, q, h1, o1, ?_, ?_, a2, b3.b (by omega) (by omega), nf.2, b2, a4, fun z => absurd z (by decide)⟩
      · rw [a1, bnd_some, fL_X5_readInto_32, nf.1, if_neg (show ¬ (1 : Int32) = 0 by decide), if_neg (show ¬ (1 : Int32) = 0 by decide), ite_self]; rfl
      · rw [fL_X10_goesText_15, hidx, b1, bnd_some, if_pos (show b2i false = 0 by decide)]; rfl
    | true =>
      obtain ⟨e1, e2⟩ := a5 rfl
      have sc1 := sc.snoc (by omega) e1 e2
      obtain ⟨e3, e4⟩ := b4 rfl
      have sm1 := sm.snoc b3 b2 e3
      have len1 : (l ++ [c]).length = l.length + 1 := by rw [List.length_append, List.length_singleton]
      have fb1 : FrB fb o (wI o1 108 fb (nI (l.length + 1))) := (b3.b (by omega) (by omega)).trans FrB.w8
      have st2 : StM (wI o1 108 fb (nI (l.length + 1))) n tx q fb (l ++ [c]) := by
        obtain ⟨u1, u2, u3, u4, u5⟩ := sm1
        exact ⟨⟨by rw [rI_ne (by decide)]; exact u1.1, u1.2.1, by rw [rI_ne (by decide)]; exact u1.2.2⟩, by rw [rI_ne (by decide)]; exact u2, by rw [rI_ne (by decide)]; exact u3, by rw [rI_ne (by decide)]; exact u4, clQ_eq (fun j _ => ⟨by rw [rI_ne (by decide)], by rw [rI_ne (by decide)], by rw [rI_ne (by decide)], by rw [rI_ne (by decide)]⟩) (fun j _ => by rw [rI_ne (by decide)]) u5⟩
      have hmod : fL_X10_goesText_15 F (f + 1) (nI fb) (nI l.length) o = (if nI q = nI n then (some ((1 : Int32), wI o1 108 fb (nI (l.length + 1)))) else (if nI (l.length + 1) = (10 : Int32) then (some ((0 : Int32), wI o1 108 fb (nI (l.length + 1)))) else (bnd (f_X10_takes F (59 : Int32) (wI o1 108 fb (nI (l.length + 1)))) fun v8 h8 => (if v8 = 0 then (some ((0 : Int32), h8)) else (fL_X10_goesText_15 F f (nI fb) (nI (l.length + 1)) h8))))) := by
        rw [fL_X10_goesText_15, hidx, b1, bnd_some, if_neg (show ¬ b2i true = 0 by decide), if_pos (inb_nI hfb (by decide)), lth_eq, ix_nI (by omega), nI_1, st2.2.1, st2.1.1]
      have fin : ∀ b : Bool, (if h1.1 31 3 = (-1 : Int32) then (some ((1 : Int32), h1)) else (some ((0 : Int32), h1))) = some (b2i b, h1) → byA n tx q = (if b = true then -1 else byA n tx q) → (b = false → ¬ byA n tx q = -1) → ¬ byA n tx q = nI 59 ∨ 10 ≤ l.length + 1 → (bnd (f_X5_clause F h) fun _ h7 => fL_X5_readInto_32 F (f + 1) (nI (l.length + 1)) h7) = some (b2i b, h1) := by
        intro b hb _ _ h59
        rw [a1, bnd_some, fL_X5_readInto_32, e1.2.2.2.2.1, show (10 : Int32) = nI 10 from rfl, if_l (by decide) (by omega)]
        simp only [if_pos (show (0 : Int32) = 0 from rfl)]
        by_cases h10 : 10 ≤ l.length + 1
        · rw [if_pos h10]; exact hb
        · rw [if_neg h10, if_neg (show ¬ h1.1 31 3 = (59 : Int32) by rw [e1.2.2.1]; exact h59.resolve_right h10)]; exact hb
      by_cases hq : q = n
      · have hby : byA n tx q = -1 := by unfold byA; rw [if_neg (by omega)]
        refine ⟨true, q, h1, wI o1 108 fb (nI (l.length + 1)), fin true (by rw [e1.2.2.1, hby, if_pos rfl]; rfl) (by rw [hby]; rfl) (fun z => absurd z (by decide)) (Or.inl (by rw [hby]; decide)), by rw [hmod, hq, if_pos rfl]; rfl, a2, fb1, e1.2.1, st2.2.1, a4, fun _ => ⟨l ++ [c], sc1.fin, clQ_M (Nat.le_refl _) (by omega) (by rw [totQ_snoc]; omega) st2.2.2.2.2, by rw [rI_eq, len1]⟩⟩
      · have hlt : q < n := by omega
        have ht := (e1.1.2.2 q hlt).2
        have hby : byA n tx q = nI (tx q) := by unfold byA; rw [if_pos hlt]
        have hne : ¬ byA n tx q = -1 := by rw [hby]; exact fun z => nI_pos (show tx q < 2 ^ 31 by omega) (by rw [z]; decide)
        have hqn : ¬ nI q = nI n := fun z => hq ((nI_eq (by omega) (by omega)).mp z)
        by_cases h10 : l.length + 1 = 10
        · refine ⟨false, q, h1, wI o1 108 fb (nI (l.length + 1)), fin false (by rw [e1.2.2.1, if_neg hne]; rfl) (by rw [if_neg (by decide)]) (fun _ => hne) (Or.inr (by omega)), by rw [hmod, if_neg hqn, h10, if_pos (show nI 10 = (10 : Int32) from rfl)]; rfl, a2, fb1, e1.2.1, st2.2.1, a4, fun z => absurd z (by decide)⟩
        · have h10' : ¬ nI (l.length + 1) = (10 : Int32) := by
            rw [show (10 : Int32) = nI 10 from rfl]
            exact fun z => h10 ((nI_eq (by omega) (by decide)).mp z)
          by_cases h59 : byA n tx q = nI 59
          · obtain ⟨h2, s1, s2, s3⟩ := stepC (F := F) e1 hlt
            have hz := isBench_or sc.1.2.2.2.2.2.2.1
            have sc2 : StC h2 z n tx (q + 1) (l ++ [c]) := by
              obtain ⟨u1, u2, u3, u4, u5, u6, u7⟩ := sc1
              refine ⟨by rw [totQ_snoc]; exact s2, by rw [s3.2.2.1 0 (by decide)]; exact u2, by rw [s3.2.2.1 1 (by decide)]; exact u3, clP_eq (fun j _ => ⟨by rw [s3.1 (z + 1) (by omega) (by omega) (by omega)], by rw [s3.1 (z + 2) (by omega) (by omega) (by omega)]⟩) (fun j hj => s3.2.2.2.1 j (by rw [Nat.zero_add, u5, totQ_snoc] at hj; exact hj)) u4, u5, u6, u7⟩
            have sm2 : StM (wI (wI o1 108 fb (nI (l.length + 1))) 102 10 (nI (q + 1))) n tx (q + 1) fb (l ++ [c]) := by
              obtain ⟨u1, u2, u3, u4, u5⟩ := st2
              exact ⟨u1.w102 (by decide), rI_eq _ _ _ _, by rw [rI_sl (by decide)]; exact u3, by rw [rI_ne (by decide)]; exact u4, clQ_eq (fun j _ => ⟨by rw [rI_ne (by decide)], by rw [rI_ne (by decide)], by rw [rI_ne (by decide)], by rw [rI_ne (by decide)]⟩) (fun j _ => by rw [rI_ne (by decide)]) u5⟩
            obtain ⟨r, q2, h3, o3, d1, d2, d3, d4, d5, d6, d7, d8⟩ := ih (q + 1) f (l ++ [c]) h2 _ (by omega) (by omega) (by omega) sc2 sm2
            rw [len1] at d1 d2
            refine ⟨r, q2, h3, o3, ?_, ?_, (a2.trans s3.z).trans d3, (fb1.trans (FrT.b (c := 10 * fb) (sg := 100 * fb) (Nat.le_refl _) (Nat.le_refl _) FrK.w.t)).trans d4, d5, d6, d7, d8⟩
            · rw [a1, bnd_some, fL_X5_readInto_32, e1.2.2.2.2.1, show (10 : Int32) = nI 10 from rfl, if_l (by decide) (by omega), if_neg (show ¬ 10 ≤ l.length + 1 by omega), if_pos (show (0 : Int32) = 0 from rfl), e1.2.2.1, if_pos (show byA n tx q = (59 : Int32) from h59), s1, bnd_some, nI_1]
              exact d1
            · rw [hmod, if_neg hqn, if_neg h10', takesM st2.1 st2.2.1 a4, if_pos (show byA n tx q = (59 : Int32) from h59), bnd_some, if_neg (show ¬ (1 : Int32) = 0 by decide)]
              exact d2
          · refine ⟨false, q, h1, wI o1 108 fb (nI (l.length + 1)), fin false (by rw [e1.2.2.1, if_neg hne]; rfl) (by rw [if_neg (by decide)]) (fun _ => hne) (Or.inl h59), ?_, a2, fb1, e1.2.1, st2.2.1, a4, fun z => absurd z (by decide)⟩
            rw [hmod, if_neg hqn, if_neg h10', takesM st2.1 st2.2.1 a4, if_neg (show ¬ byA n tx q = (59 : Int32) from h59), bnd_some, if_pos (show (0 : Int32) = 0 from rfl)]
            rfl
