-- the model's clauses: word 0 plus, 1 minus, 2 pace; number; steps
abbrev MCl : Type := Nat × Nat × List Int
def clM (h : PH) : Nat → List MCl → Prop
  | _, [] => True
  | i, q :: l => (h.1 109 i = nI q.1 ∧ h.1 110 i = nI q.2.1 ∧ (q.1 ≤ 1 → ∃ fr, h.1 111 i = nI fr ∧ h.1 112 i = nI (fr + q.2.2.length) ∧ fr + q.2.2.length ≤ 100 * (i / 10 + 1) ∧ atS (h.1 113) mT fr q.2.2)) ∧ clM h (i + 1) l
def okM (l : List MCl) : Prop := l.length ≤ 10 ∧ ∀ q ∈ l, q.1 ≤ 2 ∧ q.2.1 ≤ 99 ∧ (q.1 ≤ 1 → okT q.2.2 0 1)
def paceM (p : Nat) (l : List MCl) : Nat := l.foldl (fun p q => if q.1 = 2 then q.2.1 else p) p
def weiM (l : List MCl) : List (Int × List Int) := l.filterMap fun q => if q.1 = 0 then some ((q.2.1 : Int), q.2.2) else if q.1 = 1 then some (-(q.2.1 : Int), q.2.2) else none
def ofM (l : List MCl) : BT := (max 1 (paceM 10 l), weiM l)
def MB (h : PH) (j : Nat) (b : BT) : Prop := ∃ l, okM l ∧ h.1 108 j = nI l.length ∧ clM h (10 * j) l ∧ b = ofM l
def HeldM (h : PH) (b : BT) : Prop := (h.1 102 8 = -1 ∧ b = (10, [])) ∨ ∃ j, j < 6 ∧ h.1 102 8 = nI j ∧ MB h j b
theorem clM_eq {h h' : PH} (e1 : h'.1 109 = h.1 109) (e2 : h'.1 110 = h.1 110) (e3 : h'.1 111 = h.1 111) (e4 : h'.1 112 = h.1 112) (e5 : h'.1 113 = h.1 113) : ∀ {l : List MCl} {i : Nat}, clM h i l → clM h' i l
  | [], _, _ => trivial
  | q :: l, i, u => by
    unfold clM at u ⊢
    rw [e1, e2, e3, e4, e5]
    exact ⟨u.1, clM_eq e1 e2 e3 e4 e5 u.2⟩
theorem MB_eq {h h' : PH} {j : Nat} {b : BT} (e0 : h'.1 108 = h.1 108) (e1 : h'.1 109 = h.1 109) (e2 : h'.1 110 = h.1 110) (e3 : h'.1 111 = h.1 111) (e4 : h'.1 112 = h.1 112) (e5 : h'.1 113 = h.1 113) (u : MB h j b) : MB h' j b := by
  obtain ⟨l, u1, u2, u3, u4⟩ := u
  exact ⟨l, u1, by rw [e0]; exact u2, clM_eq e1 e2 e3 e4 e5 u3, u4⟩
theorem paceM_le : ∀ {l : List MCl} {p : Nat}, p ≤ 99 → (∀ q ∈ l, q.2.1 ≤ 99) → paceM p l ≤ 99
  | [], _, hp, _ => hp
  | q :: l, p, hp, hq => by
    show paceM (if q.1 = 2 then q.2.1 else p) l ≤ 99
    have := hq q List.mem_cons_self
    exact paceM_le (by split <;> omega) (fun x hx => hq x (List.mem_cons_of_mem _ hx))
theorem ofM_ok {l : List MCl} (h : okM l) : BTOK (ofM l) := by
  have hp := paceM_le (l := l) (p := 10) (by decide) (fun q hq => (h.2 q hq).2.1)
  refine ⟨by show 1 ≤ max 1 _; omega, by show max 1 (paceM 10 l) ≤ 99; omega, Nat.le_trans (List.length_filterMap_le _ _) h.1, fun q hq => ?_⟩
  obtain ⟨p, hp1, hp2⟩ := List.mem_filterMap.mp hq
  have hh := h.2 p hp1
  by_cases h0 : p.1 = 0
  · rw [if_pos h0, Option.some.injEq] at hp2
    subst hp2
    exact ⟨by dsimp only; omega, hh.2.2 (by omega)⟩
  · rw [if_neg h0] at hp2
    by_cases h1 : p.1 = 1
    · rw [if_pos h1, Option.some.injEq] at hp2
      subst hp2
      exact ⟨by dsimp only; omega, hh.2.2 (by omega)⟩
    · rw [if_neg h1] at hp2; exact absurd hp2 (by simp)
theorem usual_ok : BTOK (10, []) := ⟨by decide, by decide, by decide, fun q hq => absurd hq List.not_mem_nil⟩
theorem HeldM_ok {h : PH} {b : BT} (u : HeldM h b) : BTOK b := by
  rcases u with ⟨_, rfl⟩ | ⟨j, _, _, l, hl, _, _, rfl⟩
  · exact usual_ok
  · exact ofM_ok hl
theorem nI_sumA {x : Int} (hx : -2 ^ 20 ≤ x) (hx2 : x < 2 ^ 20) : (if (0 : Int32) ≤ Int32.ofInt x then Int32.ofInt x else (0 : Int32)) = nI x.toNat := by
  by_cases h0 : 0 ≤ x
  · rw [if_pos (by rw [Int32.le_iff_toInt_le, ofInt_toInt (by omega) (by omega)]; exact h0)]
    obtain ⟨n, rfl⟩ : ∃ n : Nat, x = n := ⟨x.toNat, by omega⟩
    rfl
  · rw [if_neg (by rw [Int32.le_iff_toInt_le, ofInt_toInt (by omega) (by omega)]; exact h0), show x.toNat = 0 by omega]
    rfl
/-- where the clauses held end -/
theorem behindM {F j n : Nat} {h : PH} (hj : j < 6) (h8 : h.1 102 8 = nI j) (hn : h.1 108 j = nI n) : f_X10_behind F h = some (nI (10 * j + n), h) := by
  unfold f_X10_behind
  rw [h8, if_pos (show (0 : Int32) ≤ nI j by rw [li0, nI_le2 (by decide) (by omega)]; omega), if_pos (inb_nI hj (by decide)), ix_nI (by omega), hn, show (10 : Int32) = nI 10 from rfl, pk_mul, nI_add]
theorem beginM {F j : Nat} {h : PH} (hj : j < 6) (h8 : h.1 102 8 = nI j) : f_X10_begin F h = some (nI (10 * j), h) := by
  unfold f_X10_begin
  rw [h8, if_pos (show (0 : Int32) ≤ nI j by rw [li0, nI_le2 (by decide) (by omega)]; omega), show (10 : Int32) = nI 10 from rfl, pk_mul]
theorem newsM_loop {F j n c k v d : Nat} (hF : 700 ≤ F) (hj : j < 6) (hd : d < 2 ^ 30) : ∀ (l : List MCl) (i f : Nat) (x : Int) (h : PH), i + l.length = 10 * j + n → l.length < f → n ≤ 10 → -2000 + 99 * (l.length : Int) ≤ x → x ≤ 2000 - 99 * (l.length : Int) → h.1 102 8 = nI j → h.1 108 j = nI n → clM h i l → (∀ q ∈ l, q.1 ≤ 2 ∧ q.2.1 ≤ 99 ∧ (q.1 ≤ 1 → okT q.2.2 0 1)) → KV h c k v →
    ∃ h', fL_X10_newsNow_8 F f (nI c) (nI d) (Int32.ofInt x) (nI i) h = some (nI (x + sumA (weiM l) c k v d).toNat, h') ∧ FrP h h' := by
  intro l
  induction l with
  | nil =>
    intro i f x h hi hf hn hx hx2 h8 h108 u ok kv
    obtain ⟨f, rfl⟩ : ∃ m, f = m + 1 := ⟨f - 1, by omega⟩
    have hi' : i = 10 * j + n := by simpa using hi
    simp only [List.length_nil] at hx hx2
    rw [fL_X10_newsNow_8, behindM hj h8 h108, bnd_some, if_l (by omega) (by omega), if_pos (by omega)]
    refine ⟨h, ?_, FrP.refl h⟩
    have e := nI_sumA (x := x) (by omega) (by omega)
    by_cases h0 : (0 : Int32) ≤ Int32.ofInt x
    · rw [if_pos h0] at e ⊢; rw [e]; simp [weiM, sumA]
    · rw [if_neg h0] at e ⊢; rw [e]; simp [weiM, sumA]
  | cons q l ih =>
    intro i f x h hi hf hn hx hx2 h8 h108 u ok kv
    obtain ⟨f, rfl⟩ : ∃ m, f = m + 1 := ⟨f - 1, by omega⟩
    obtain ⟨⟨u1, u2, u3⟩, u4⟩ := u
    have oq := ok q List.mem_cons_self
    rw [List.length_cons] at hi hf hx hx2
    have hin : inb (nI i) 60 = true := inb_nI (by omega) (by decide)
    rw [fL_X10_newsNow_8, behindM hj h8 h108, bnd_some, if_l (by omega) (by omega), if_neg (by omega), if_pos hin, ix_nI (by omega), u1, li1, if_t (by decide) (by omega), nI_add]
    by_cases h2 : 1 < q.1
    · rw [if_pos h2]
      have hw : weiM (q :: l) = weiM l := by
        unfold weiM
        rw [List.filterMap_cons_none]
        rw [if_neg (by omega), if_neg (by omega)]
      rw [hw]
      exact ih (i + 1) f x h (by omega) (by omega) hn (by omega) (by omega) h8 h108 u4 (fun p hp => ok p (List.mem_cons_of_mem _ hp)) kv
    · rw [if_neg h2]
      obtain ⟨fr, v1, v2, v3, v4⟩ := u3 (by omega)
      obtain ⟨h1, e1, e2⟩ := holdsM_loop (F := F) (idx := i) (e := fr + q.2.2.length) (by omega) (by omega) hd q.2.2 fr [] F h rfl (by omega) (by decide) (oq.2.2 (by omega)) v2 v4 kv trivial
      have ht : f_X10_holds F (nI i) (nI c) (nI d) h = some (b2i (valT q.2.2 c k v d), h1) := by
        unfold f_X10_holds
        rw [if_pos hin, ix_nI (by omega), v1]
        exact e1
      have u1' : h1.1 109 i = nI q.1 := by rw [e2.1 109 (by decide)]; exact u1
      have u2' : h1.1 110 i = nI q.2.1 := by rw [e2.1 110 (by decide)]; exact u2
      rw [ht, bnd_some]
      have go : ∀ w : Int, -99 ≤ w → w ≤ 99 → (x + w + sumA (weiM l) c k v d = x + sumA (weiM (q :: l)) c k v d) → ∃ h', fL_X10_newsNow_8 F f (nI c) (nI d) (Int32.ofInt (x + w)) (nI (i + 1)) h1 = some (nI (x + sumA (weiM (q :: l)) c k v d).toNat, h') ∧ FrP h h' := by
        intro w hw1 hw2 hw
        obtain ⟨h', g1, g2⟩ := ih (i + 1) f (x + w) h1 (by omega) (by omega) hn (by omega) (by omega) (by rw [e2.1 102 (by decide)]; exact h8) (by rw [e2.1 108 (by decide)]; exact h108) (clM_eq (e2.1 _ (by decide)) (e2.1 _ (by decide)) (e2.1 _ (by decide)) (e2.1 _ (by decide)) (e2.1 _ (by decide)) u4) (fun p hp => ok p (List.mem_cons_of_mem _ hp)) (kv.fr e2)
        exact ⟨h', by rw [g1, hw], e2.trans g2⟩
      have h01 : q.1 = 0 ∨ q.1 = 1 := by omega
      have hw : sumA (weiM (q :: l)) c k v d = (if valT q.2.2 c k v d = true then (if q.1 = 0 then (q.2.1 : Int) else -(q.2.1 : Int)) else 0) + sumA (weiM l) c k v d := by
        unfold weiM
        rcases h01 with h01 | h01
        · rw [List.filterMap_cons_some (b := ((q.2.1 : Int), q.2.2)) (by rw [if_pos h01])]
          simp [sumA, h01]
        · rw [List.filterMap_cons_some (b := (-(q.2.1 : Int), q.2.2)) (by rw [if_neg (by omega), if_pos h01])]
          simp [sumA, h01]
      cases hv : valT q.2.2 c k v d with
      | false =>
        rw [if_pos (show b2i false = 0 by decide)]
        have := go 0 (by omega) (by omega) (by rw [hw, hv]; simp)
        rw [Int.add_zero] at this
        exact this
      | true =>
        rw [if_neg (show ¬ b2i true = 0 by decide), if_pos hin, u1', u2', li0, if_e (by omega) (by decide)]
        rcases h01 with h01 | h01
        · rw [if_pos h01, if_pos hin]
          have := go q.2.1 (by omega) (by omega) (by rw [hw, hv, if_pos rfl, if_pos h01]; omega)
          rw [Int32.ofInt_add] at this
          exact this
        · rw [if_neg (by omega), if_pos hin]
          have := go (-(q.2.1 : Int)) (by omega) (by omega) (by rw [hw, hv, if_pos rfl, if_neg (by omega)]; omega)
          rw [Int32.ofInt_add, Int32.ofInt_neg] at this
          exact this
theorem newsNowM {F c k v d : Nat} {h : PH} {b : BT} (hF : 700 ≤ F) (hd : d < 2 ^ 30) (u : HeldM h b) (kv : KV h c k v) :
    ∃ h', f_X10_newsNow F (nI c) (nI d) h = some (nI (1 + sumA b.2 c k v d).toNat, h') ∧ FrP h h' := by
  unfold f_X10_newsNow
  rcases u with ⟨h8, rfl⟩ | ⟨j, hj, h8, l, ok, hl, hc, rfl⟩
  · have hb : f_X10_begin F h = some (0, h) := by
      unfold f_X10_begin
      rw [h8, if_neg (by decide)]
    have he : f_X10_behind F h = some (0, h) := by
      unfold f_X10_behind
      rw [h8, if_neg (by decide)]
    obtain ⟨f, rfl⟩ : ∃ m, F = m + 1 := ⟨F - 1, by omega⟩
    rw [hb, bnd_some, fL_X10_newsNow_8, he, bnd_some, if_pos (by decide), if_pos (by decide)]
    exact ⟨h, rfl, FrP.refl h⟩
  · rw [beginM hj h8, bnd_some]
    exact newsM_loop (n := l.length) hF hj hd l (10 * j) F 1 h rfl (by have := ok.1; omega) ok.1 (by have := ok.1; omega) (by have := ok.1; omega) h8 hl hc ok.2 kv
theorem paceM_loop {F j n : Nat} {h : PH} (hj : j < 6) (hn : n ≤ 10) (h8 : h.1 102 8 = nI j) (h108 : h.1 108 j = nI n) : ∀ (l : List MCl) (i f p : Nat), i + l.length = 10 * j + n → l.length < f → p ≤ 99 → clM h i l → (∀ q ∈ l, q.1 ≤ 2 ∧ q.2.1 ≤ 99 ∧ (q.1 ≤ 1 → okT q.2.2 0 1)) →
    fL_X10_pace_8 F f (nI p) (nI i) h = some (nI (max 1 (paceM p l)), h) := by
  intro l
  induction l with
  | nil =>
    intro i f p hi hf hp u ok
    obtain ⟨f, rfl⟩ : ∃ m, f = m + 1 := ⟨f - 1, by omega⟩
    have hi' : i = 10 * j + n := by simpa using hi
    rw [fL_X10_pace_8, behindM hj h8 h108, bnd_some, if_l (by omega) (by omega), if_pos (by omega), li1, if_l (by decide) (by omega)]
    show _ = some (nI (max 1 p), h)
    by_cases h1 : 1 ≤ p
    · rw [if_pos h1, Nat.max_eq_right h1]
    · rw [if_neg h1, Nat.max_eq_left (by omega)]
  | cons q l ih =>
    intro i f p hi hf hp u ok
    obtain ⟨f, rfl⟩ : ∃ m, f = m + 1 := ⟨f - 1, by omega⟩
    obtain ⟨⟨u1, u2, u3⟩, u4⟩ := u
    have oq := ok q List.mem_cons_self
    rw [List.length_cons] at hi hf
    have hin : inb (nI i) 60 = true := inb_nI (by omega) (by decide)
    rw [fL_X10_pace_8, behindM hj h8 h108, bnd_some, if_l (by omega) (by omega), if_neg (by omega), if_pos hin, ix_nI (by omega), u1, li2, if_e (by omega) (by decide), if_pos hin, u2, nI_1]
    show _ = some (nI (max 1 (paceM (if q.1 = 2 then q.2.1 else p) l)), h)
    by_cases h2 : q.1 = 2
    · rw [if_pos h2, if_pos h2]
      exact ih (i + 1) f _ (by omega) (by omega) oq.2.1 u4 (fun x hx => ok x (List.mem_cons_of_mem _ hx))
    · rw [if_neg h2, if_neg h2]
      exact ih (i + 1) f _ (by omega) (by omega) hp u4 (fun x hx => ok x (List.mem_cons_of_mem _ hx))
theorem paceMM {F : Nat} {h : PH} {b : BT} (hF : 20 ≤ F) (u : HeldM h b) : f_X10_pace F h = some (nI b.1, h) := by
  unfold f_X10_pace
  rcases u with ⟨h8, rfl⟩ | ⟨j, hj, h8, l, ok, hl, hc, rfl⟩
  · have hb : f_X10_begin F h = some (0, h) := by
      unfold f_X10_begin
      rw [h8, if_neg (by decide)]
    have he : f_X10_behind F h = some (0, h) := by
      unfold f_X10_behind
      rw [h8, if_neg (by decide)]
    obtain ⟨f, rfl⟩ : ∃ m, F = m + 1 := ⟨F - 1, by omega⟩
    rw [hb, bnd_some, fL_X10_pace_8, he, bnd_some, if_pos (by decide), if_pos (by decide)]
    rfl
  · rw [beginM hj h8, bnd_some]
    exact paceM_loop (n := l.length) hj ok.1 h8 hl l (10 * j) F 10 rfl (by have := ok.1; omega) (by decide) hc ok.2
