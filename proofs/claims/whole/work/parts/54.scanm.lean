-- THE TEXT read byte by byte: the model
def stk (o : PH) : List Nat → Prop
  | [] => True
  | b :: r => o.1 114 r.length = nI b ∧ b < 128 ∧ stk o r
def opens : List Nat → Nat
  | [] => 0
  | b :: r => opens r + if b = 33 ∨ b = 40 then 1 else 0
def MO (o : PH) (n : Nat) (tx : Nat → Nat) (at_ base sg : Nat) (S : List Nat) : Prop := TxtM o n tx ∧ o.1 102 10 = nI at_ ∧ at_ ≤ n ∧ o.1 102 20 = nI sg ∧ stk o S ∧ o.1 102 21 = nI S.length ∧ o.1 102 22 = nI (opens S) ∧ sg + S.length ≤ base + at_ ∧ base ≤ 500 ∧ base ≤ sg
def FrE (c sg : Nat) (o o' : PH) : Prop := (∀ a, a ≠ 102 → a ≠ 112 → a ≠ 113 → a ≠ 114 → o'.1 a = o.1 a) ∧ (∀ i, i ≠ 10 → i ≠ 11 → i ≠ 20 → i ≠ 21 → i ≠ 22 → o'.1 102 i = o.1 102 i) ∧ (∀ i, i ≠ c → o'.1 112 i = o.1 112 i) ∧ (∀ i, i < sg → o'.1 113 i = o.1 113 i) ∧ o'.2 = o.2
theorem FrE.refl (c sg : Nat) (o : PH) : FrE c sg o o := ⟨fun _ _ _ _ _ => rfl, fun _ _ _ _ _ _ => rfl, fun _ _ => rfl, fun _ _ => rfl, rfl⟩
theorem FrE.trans {c s t : Nat} {o o1 o2 : PH} (hs : s ≤ t) (a : FrE c s o o1) (b : FrE c t o1 o2) : FrE c s o o2 := ⟨fun x u v w y => (b.1 x u v w y).trans (a.1 x u v w y), fun i u v w x y => (b.2.1 i u v w x y).trans (a.2.1 i u v w x y), fun i u => (b.2.2.1 i u).trans (a.2.2.1 i u), fun i u => (b.2.2.2.1 i (by omega)).trans (a.2.2.2.1 i u), b.2.2.2.2.trans a.2.2.2.2⟩
theorem FrE.w {c sg i : Nat} {o : PH} {x : Int32} (hi : i = 10 ∨ i = 11 ∨ i = 20 ∨ i = 21 ∨ i = 22) : FrE c sg o (wI o 102 i x) := ⟨fun a u _ _ _ => rI_ne u, fun j _ _ _ _ _ => rI_sl (by omega), fun j _ => by rw [rI_ne (by decide)], fun j _ => by rw [rI_ne (by decide)], rfl⟩
theorem stk_eq {o o' : PH} (e : o'.1 114 = o.1 114) : ∀ {S : List Nat}, stk o S → stk o' S
  | [], _ => trivial
  | b :: r, u => ⟨by rw [e]; exact u.1, u.2.1, stk_eq e u.2.2⟩
theorem stk_w {o : PH} {k : Nat} {x : Int32} : ∀ {S : List Nat}, S.length ≤ k → stk o S → stk (wI o 114 k x) S
  | [], _, _ => trivial
  | b :: r, hl, u => by
    rw [List.length_cons] at hl
    exact ⟨by rw [rI_sl (by omega)]; exact u.1, u.2.1, stk_w (by omega) u.2.2⟩
theorem TxtM.w102 {o : PH} {n i : Nat} {tx : Nat → Nat} {x : Int32} (hi : i ≠ 9) (t : TxtM o n tx) : TxtM (wI o 102 i x) n tx := ⟨by rw [rI_sl (Ne.symm hi)]; exact t.1, t.2.1, by rw [rI_ne (by decide)]; exact t.2.2⟩
theorem peekM {F n p : Nat} {tx : Nat → Nat} {o : PH} (t : TxtM o n tx) (h10 : o.1 102 10 = nI p) (hp : p ≤ n) : f_X10_peek F o = some (byA n tx p, o) := by
  have hn := t.2.1
  unfold f_X10_peek byA
  rw [t.1, h10, if_l (by omega) (by omega)]
  by_cases h1 : n ≤ p
  · rw [if_pos h1, if_neg (show ¬ p < n by omega)]
  · rw [if_neg h1, if_pos (show p < n by omega), if_pos (inb_nI (by omega) (by decide)), ix_nI (by omega), (t.2.2 p (by omega)).1]
theorem isDigitM {F n p : Nat} {tx : Nat → Nat} {o : PH} (t : TxtM o n tx) (h10 : o.1 102 10 = nI p) (hp : p ≤ n) : f_X10_isDigit F o = some (if dg n tx p = true then 1 else 0, o) := by
  unfold f_X10_isDigit
  rw [peekM t h10 hp, bnd_some, in_eq, bnd_some, wth_and, dg_wth (fun hp => (t.2.2 p hp).2)]
theorem takesM {F n p : Nat} {tx : Nat → Nat} {o : PH} {a : Int32} (t : TxtM o n tx) (h10 : o.1 102 10 = nI p) (hp : p ≤ n) : f_X10_takes F a o = if byA n tx p = a then some (1, wI o 102 10 (nI (p + 1))) else some (0, o) := by
  unfold f_X10_takes
  rw [peekM t h10 hp, bnd_some, lth_eq, h10, nI_1]
theorem takesNumberM {F n p : Nat} {tx : Nat → Nat} {o : PH} (hF : 10 ≤ F) (t : TxtM o n tx) (h10 : o.1 102 10 = nI p) (hp : p ≤ n) :
    (dg n tx p = true ∧ ∃ o', f_X10_takesNumber F o = some (1, o') ∧ o'.1 102 11 = nI (numA n tx p).1 ∧ o'.1 102 10 = nI (numA n tx p).2 ∧ (numA n tx p).2 ≤ n ∧ (∀ a, a ≠ 102 → o'.1 a = o.1 a) ∧ (∀ i, i ≠ 10 → i ≠ 11 → o'.1 102 i = o.1 102 i) ∧ o'.2 = o.2) ∨ (¬ dg n tx p = true ∧ f_X10_takesNumber F o = some (0, o)) := by
  unfold f_X10_takesNumber
  rw [isDigitM t h10 hp, bnd_some]
  by_cases hd : dg n tx p = true
  · left
    obtain ⟨d1, d2, d3⟩ := dg_of hd
    have hby : byA n tx p = nI (tx p) := by unfold byA; rw [if_pos d1]
    obtain ⟨f, hf⟩ : ∃ m, F = m + 3 := ⟨F - 3, by omega⟩
    have t1 : TxtM (wI o 102 11 0) n tx := t.w102 (by decide)
    have h1 : (wI o 102 11 0).1 102 10 = nI p := by rw [rI_sl (by decide)]; exact h10
    have t2 : TxtM (wI (wI (wI o 102 11 0) 102 11 (nI (tx p - 48))) 102 10 (nI (p + 1))) n tx := (t1.w102 (by decide)).w102 (by decide)
    have h2 : (wI (wI (wI o 102 11 0) 102 11 (nI (tx p - 48))) 102 10 (nI (p + 1))).1 102 10 = nI (p + 1) := rI_eq _ _ _ _
    refine ⟨hd, ?_⟩
    rw [if_pos hd, if_neg (show ¬ (1 : Int32) = 0 by decide), lth_eq]
    conv => enter [1, o', 1, 1, 2]; rw [hf]
    rw [fL_X10_takesNumber_16, if_neg (show ¬ (2 : Int32) ≤ 0 by decide), isDigitM t1 h1 hp, bnd_some, if_pos hd, if_neg (show ¬ (1 : Int32) = 0 by decide), peekM t1 h1 hp, bnd_some, lth_eq, lth_eq, rI_eq, hby, show ((10 : Int32) * 0 + nI (tx p) - (48 : Int32)) = nI (tx p - 48) by rw [show (10 : Int32) * 0 = nI 0 by decide, nI_add, Nat.zero_add, show (48 : Int32) = nI 48 from rfl, pk_sub d2], rI_sl (show (10 : Nat) ≠ 11 by decide), h1, nI_1]
    rw [fL_X10_takesNumber_16, if_neg (show ¬ (2 : Int32) ≤ 0 + 1 by decide), isDigitM t2 h2 (by omega), bnd_some]
    unfold numA
    by_cases hd2 : dg n tx (p + 1) = true
    · obtain ⟨g1, g2, g3⟩ := dg_of hd2
      have hby2 : byA n tx (p + 1) = nI (tx (p + 1)) := by unfold byA; rw [if_pos g1]
      rw [if_pos hd2, if_neg (show ¬ (1 : Int32) = 0 by decide), peekM t2 h2 (by omega), bnd_some, lth_eq, lth_eq, rI_sl (show (11 : Nat) ≠ 10 by decide), rI_eq, hby2, show ((10 : Int32) * nI (tx p - 48) + nI (tx (p + 1)) - (48 : Int32)) = nI (10 * (tx p - 48) + (tx (p + 1) - 48)) by rw [show (10 : Int32) = nI 10 from rfl, pk_mul, nI_add, show (48 : Int32) = nI 48 from rfl, pk_sub (by omega)]; congr 1; omega, rI_sl (show (10 : Nat) ≠ 11 by decide), rI_eq, nI_1]
      rw [fL_X10_takesNumber_16, if_pos (show (2 : Int32) ≤ 0 + 1 + 1 by decide), if_pos hd2]
      refine ⟨_, rfl, ?_, rI_eq _ _ _ _, by show p + 2 ≤ n; omega, fun a u => ?_, fun i u v => ?_, rfl⟩
      · rw [rI_sl (by decide), rI_eq]
      · rw [rI_ne u, rI_ne u, rI_ne u, rI_ne u, rI_ne u]
      · rw [rI_sl u, rI_sl v, rI_sl u, rI_sl v, rI_sl v]
    · rw [if_neg hd2, if_pos (show (0 : Int32) = 0 from rfl), if_neg hd2]
      refine ⟨_, rfl, ?_, rI_eq _ _ _ _, by show p + 1 ≤ n; omega, fun a u => ?_, fun i u v => ?_, rfl⟩
      · rw [rI_sl (by decide), rI_eq]
      · rw [rI_ne u, rI_ne u, rI_ne u]
      · rw [rI_sl u, rI_sl v, rI_sl v]
  · right
    rw [if_neg hd, if_pos (show (0 : Int32) = 0 from rfl)]
    exact ⟨hd, rfl⟩
theorem place_rfl {F : Nat} {o : PH} : ∀ x : Int32, f_X10_place F x o = some (ltrI x, o) := by
  intro x
  by_cases h1 : x = 99
  · subst h1; rfl
  by_cases h2 : x = 107
  · subst h2; rfl
  by_cases h3 : x = 118
  · subst h3; rfl
  by_cases h4 : x = 100
  · subst h4; rfl
  by_cases h5 : x = 116
  · subst h5; rfl
  by_cases h6 : x = 104
  · subst h6; rfl
  unfold f_X10_place ltrI
  rw [if_neg h1, if_neg h4, if_neg h6, if_neg h2, if_neg h5, if_neg h3, if_neg (Ne.symm h1), if_neg (Ne.symm h2), if_neg (Ne.symm h3), if_neg (Ne.symm h4), if_neg (Ne.symm h5), if_neg (Ne.symm h6)]
  simp only [ite_self]
theorem signM {x : Int32} : (sgnI x = -1 ∧ wth x 60 62 = 0) ∨ (∃ f, f < 3 ∧ sgnI x = nI f ∧ x = nI (60 + f) ∧ wth x 60 62 = 1) := by
  rcases sgnI_or x with h | ⟨f, hf, h1, h2⟩
  · left
    refine ⟨h, ?_⟩
    rcases wth_01 x 60 62 with hw | hw
    · exact hw
    · exfalso
      obtain ⟨a, b⟩ := wth_ne (show ¬ wth x 60 62 = 0 by rw [hw]; decide)
      rw [Int32.le_iff_toInt_le] at a b
      have e60 : (60 : Int32).toInt = 60 := by decide
      have e62 : (62 : Int32).toInt = 62 := by decide
      have : x.toInt = 60 ∨ x.toInt = 61 ∨ x.toInt = 62 := by omega
      unfold sgnI at h
      rcases this with q | q | q
      · rw [if_pos (Int32.toInt_inj.mp (by rw [q]; decide))] at h; exact absurd h (by decide)
      · have : (61 : Int32) = x := Int32.toInt_inj.mp (by rw [q]; decide)
        subst this
        exact absurd h (by decide)
      · have : (62 : Int32) = x := Int32.toInt_inj.mp (by rw [q]; decide)
        subst this
        exact absurd h (by decide)
  · right
    refine ⟨f, hf, h1, h2, ?_⟩
    have : f = 0 ∨ f = 1 ∨ f = 2 := by omega
    rcases this with rfl | rfl | rfl <;> rw [h2] <;> rfl
-- signs emitted, the pile
theorem emitsM {F sg : Nat} {o : PH} {x : Int32} (h20 : o.1 102 20 = nI sg) (hs : sg < 600) : f_X10_emits F x o = some ((), wI (wI o 113 sg x) 102 20 (nI (sg + 1))) := by
  unfold f_X10_emits
  rw [h20, if_pos (inb_nI hs (by decide)), lth_eq, lth_eq, ix_nI (by omega), rI_ne (show (102 : Nat) ≠ 113 by decide), h20, nI_1]
theorem MO.emit {o : PH} {n at_ base sg : Nat} {tx : Nat → Nat} {S : List Nat} {x : Int32} (m : MO o n tx at_ base sg S) (hs : sg + S.length + 1 ≤ base + at_) : MO (wI (wI o 113 sg x) 102 20 (nI (sg + 1))) n tx at_ base (sg + 1) S := by
  obtain ⟨⟨t1, t2, t3⟩, m2, m3, m4, m5, m6, m7, m8, m9, m10⟩ := m
  refine ⟨⟨by rw [rI_sl (by decide), rI_ne (by decide)]; exact t1, t2, by rw [rI_ne (by decide), rI_ne (by decide)]; exact t3⟩, by rw [rI_sl (by decide), rI_ne (by decide)]; exact m2, m3, rI_eq _ _ _ _, stk_eq (by rw [rI_ne (by decide), rI_ne (by decide)]) m5, by rw [rI_sl (by decide), rI_ne (by decide)]; exact m6, by rw [rI_sl (by decide), rI_ne (by decide)]; exact m7, by omega, m9, by omega⟩
theorem FrE.emit {c sg : Nat} {o : PH} {x y : Int32} : FrE c sg o (wI (wI o 113 sg x) 102 20 y) := ⟨fun a u _ w _ => by rw [rI_ne u, rI_ne w], fun j _ _ _ _ _ => by rw [rI_sl (by omega), rI_ne (by decide)], fun j _ => by rw [rI_ne (by decide), rI_ne (by decide)], fun j u => by rw [rI_ne (by decide), rI_sl (by omega)], rfl⟩
def emT (b : Nat) : Int := if b = 33 then -1 else if b = 38 then -2 else -3
def popB (x : Int32) (b : Nat) : Prop := b = 38 ∨ (b = 124 ∧ ¬ x = 38)
def topNo (p : Nat → Prop) : List Nat → Prop
  | [] => True
  | b :: _ => ¬ p b
theorem settleM {F c n at_ base : Nat} {tx : Nat → Nat} {S : List Nat} {x : Int32} (hS : topNo (popB x) S) : ∀ (P : List Nat) (f sg : Nat) (o : PH), P.length < f → (∀ b ∈ P, popB x b) → MO o n tx at_ base sg (P ++ S) →
    ∃ o', fL_X10_settle_0 F f x o = some ((), o') ∧ MO o' n tx at_ base (sg + P.length) S ∧ atS (o'.1 113) mT sg (P.map emT) ∧ FrE c sg o o' := by
  intro P
  induction P with
  | nil =>
    intro f sg o hf hp m
    obtain ⟨f, rfl⟩ : ∃ m, f = m + 1 := ⟨f - 1, by omega⟩
    have m' : MO o n tx at_ base sg S := m
    refine ⟨o, ?_, m', trivial, FrE.refl _ _ _⟩
    obtain ⟨m1, m2, m3, m4, m5, m6, m7, m8, m9, m10⟩ := m'
    have hn := m1.2.1
    rw [fL_X10_settle_0, m6]
    match S, hS, m5, m8 with
    | [], _, _, _ => rw [if_pos (show nI ([] : List Nat).length ≤ 0 by decide)]
    | b :: r, hS, m5, m8 =>
      rw [List.length_cons] at m8 ⊢
      have hin : inb (nI r.length) 101 = true := inb_nI (by omega) (by decide)
      have hb : ∀ k : Nat, k < 128 → (nI b = nI k ↔ b = k) := fun k hk => nI_eq (by have := m5.2.1; omega) (by omega)
      rw [if_neg (nI_nle (by omega) (by omega)), nI_pred, if_pos hin, ix_nI (by omega), m5.1]
      rw [if_neg (show ¬ nI b = (38 : Int32) from fun q => hS (Or.inl ((hb 38 (by decide)).mp q))), if_pos hin]
      by_cases h124 : nI b = (124 : Int32)
      · rw [if_pos h124]
        by_cases hx : x = 38
        · rw [if_pos hx]
        · exact absurd (Or.inr ⟨(hb 124 (by decide)).mp h124, hx⟩) hS
      · rw [if_neg h124]
  | cons b P ih =>
    intro f sg o hf hp m
    obtain ⟨f, rfl⟩ : ∃ m, f = m + 1 := ⟨f - 1, by omega⟩
    obtain ⟨m1, m2, m3, m4, m5, m6, m7, m8, m9, m10⟩ := m
    have hn := m1.2.1
    have m5' : o.1 114 (P ++ S).length = nI b ∧ b < 128 ∧ stk o (P ++ S) := m5
    have m8' : sg + ((P ++ S).length + 1) ≤ base + at_ := m8
    have hin : inb (nI (P ++ S).length) 101 = true := inb_nI (by omega) (by decide)
    have hpb := hp b List.mem_cons_self
    have hop : opens (b :: (P ++ S)) = opens (P ++ S) := by
      show opens (P ++ S) + (if b = 33 ∨ b = 40 then 1 else 0) = _
      have : ¬ (b = 33 ∨ b = 40) := by
        rcases hpb with h | h
        · omega
        · omega
      rw [if_neg this, Nat.add_zero]
    have hne : -(nI b) = mT (emT b) := by
      rcases hpb with h | ⟨h, _⟩ <;> subst h <;> decide
    -- one popped
    have ma : MO (wI o 102 21 (nI (P ++ S).length)) n tx at_ base sg (P ++ S) := by
      refine ⟨m1.w102 (by decide), by rw [rI_sl (by decide)]; exact m2, m3, by rw [rI_sl (by decide)]; exact m4, stk_eq (rI_ne (by decide)) m5'.2.2, rI_eq _ _ _ _, by rw [rI_sl (by decide), m7]; exact congrArg nI hop, by omega, m9, m10⟩
    have mb := ma.emit (x := -(nI b)) (by omega)
    obtain ⟨o', e1, e2, e3, e4⟩ := ih f (sg + 1) _ (by simp at hf; omega) (fun d hd => hp d (List.mem_cons_of_mem _ hd)) mb
    have step : fL_X10_settle_45 F (fun (x5 : Int32) (h6 : PH) => (fL_X10_settle_0 F f x5 h6)) x o = some ((), o') := by
      unfold fL_X10_settle_45
      rw [lth_eq, m6, List.cons_append, List.length_cons, nI_pred, rI_eq, if_pos hin, rI_ne (show (114 : Nat) ≠ 102 by decide), ix_nI (by omega), m5'.1, emitsM ma.2.2.2.1 (by omega), bnd_some]
      exact e1
    refine ⟨o', ?_, ?_, ⟨?_, e3⟩, ?_⟩
    · rw [fL_X10_settle_0, m6, List.cons_append, List.length_cons, if_neg (nI_nle (by omega) (by omega)), nI_pred, if_pos hin, if_pos hin, ix_nI (by omega), m5'.1, step]
      rcases hpb with h | ⟨h, hx⟩
      · subst h; rw [if_pos (show nI 38 = (38 : Int32) from rfl)]
      · subst h; rw [if_neg (show ¬ nI 124 = (38 : Int32) by decide), if_pos (show nI 124 = (124 : Int32) from rfl), if_neg hx]
    · rw [List.length_cons, show sg + (P.length + 1) = sg + 1 + P.length by omega]; exact e2
    · rw [e4.2.2.2.1 sg (by omega), rI_ne (by decide), rI_eq]; exact hne
    · exact ((FrE.w (by omega)).trans (Nat.le_refl _) FrE.emit).trans (by omega) e4
theorem wholeP {F c n at_ base : Nat} {tx : Nat → Nat} {S : List Nat} (hS : topNo (fun b => b = 33) S) : ∀ (k f sg : Nat) (o : PH), k < f → MO o n tx at_ base sg (List.replicate k 33 ++ S) →
    ∃ o', fL_X10_whole_0 F f o = some ((), o') ∧ MO o' n tx at_ base (sg + k) S ∧ atS (o'.1 113) mT sg (List.replicate k (-1)) ∧ FrE c sg o o' := by
  intro k
  induction k with
  | zero =>
    intro f sg o hf m
    obtain ⟨f, rfl⟩ : ∃ m, f = m + 1 := ⟨f - 1, by omega⟩
    have m' : MO o n tx at_ base sg S := m
    refine ⟨o, ?_, m', trivial, FrE.refl _ _ _⟩
    obtain ⟨m1, m2, m3, m4, m5, m6, m7, m8, m9, m10⟩ := m'
    have hn := m1.2.1
    rw [fL_X10_whole_0, m6]
    match S, hS, m5, m8 with
    | [], _, _, _ => rw [if_pos (show nI ([] : List Nat).length ≤ 0 by decide)]
    | b :: r, hS, m5, m8 =>
      rw [List.length_cons] at m8 ⊢
      have hin : inb (nI r.length) 101 = true := inb_nI (by omega) (by decide)
      rw [if_neg (nI_nle (by omega) (by omega)), nI_pred, if_pos hin, ix_nI (by omega), m5.1]
      rw [if_neg (show ¬ nI b = (33 : Int32) from fun q => hS ((nI_eq (by have := m5.2.1; omega) (by decide)).mp (show nI b = nI 33 from q)))]
  | succ k ih =>
    intro f sg o hf m
    obtain ⟨f, rfl⟩ : ∃ m, f = m + 1 := ⟨f - 1, by omega⟩
    rw [List.replicate_succ, List.cons_append] at m
    obtain ⟨m1, m2, m3, m4, m5, m6, m7, m8, m9, m10⟩ := m
    have hn := m1.2.1
    generalize hP : List.replicate k 33 ++ S = P at m5 m6 m7 m8
    have m5' : o.1 114 P.length = nI 33 ∧ 33 < 128 ∧ stk o P := m5
    have m7' : o.1 102 22 = nI (opens P + 1) := m7
    rw [List.length_cons] at m6 m8
    have hin : inb (nI P.length) 101 = true := inb_nI (by omega) (by decide)
    have mb : MO (wI (wI (wI (wI o 113 sg (-33)) 102 20 (nI (sg + 1))) 102 21 (nI P.length)) 102 22 (nI (opens P))) n tx at_ base (sg + 1) P := by
      refine ⟨⟨by rw [rI_sl (by decide), rI_sl (by decide), rI_sl (by decide), rI_ne (by decide)]; exact m1.1, m1.2.1, by rw [rI_ne (by decide), rI_ne (by decide), rI_ne (by decide), rI_ne (by decide)]; exact m1.2.2⟩, by rw [rI_sl (by decide), rI_sl (by decide), rI_sl (by decide), rI_ne (by decide)]; exact m2, m3, by rw [rI_sl (by decide), rI_sl (by decide), rI_eq], stk_eq (by rw [rI_ne (by decide), rI_ne (by decide), rI_ne (by decide), rI_ne (by decide)]) m5'.2.2, by rw [rI_sl (by decide), rI_eq], rI_eq _ _ _ _, by omega, m9, by omega⟩
    rw [← hP] at mb
    obtain ⟨o', e1, e2, e3, e4⟩ := ih f (sg + 1) _ (by omega) mb
    rw [hP] at e1 e4
    refine ⟨o', ?_, by rw [show sg + (k + 1) = sg + 1 + k by omega]; exact e2, ⟨?_, e3⟩, ?_⟩
    · rw [fL_X10_whole_0, m6, if_neg (nI_nle (by omega) (by omega)), nI_pred, if_pos hin, ix_nI (by omega), m5'.1, if_pos (show nI 33 = (33 : Int32) from rfl), emitsM m4 (by omega), bnd_some, lth_eq, lth_eq, rI_sl (show (21 : Nat) ≠ 20 by decide), rI_ne (show (102 : Nat) ≠ 113 by decide), m6, nI_pred, rI_sl (show (22 : Nat) ≠ 21 by decide), rI_sl (show (22 : Nat) ≠ 20 by decide), rI_ne (show (102 : Nat) ≠ 113 by decide), m7', nI_pred]
      exact e1
    · rw [e4.2.2.2.1 sg (by omega), rI_ne (by decide), rI_ne (by decide), rI_ne (by decide), rI_eq]; rfl
    · exact ((FrE.emit.trans (Nat.le_refl _) (FrE.w (by omega))).trans (Nat.le_refl _) (FrE.w (by omega))).trans (by omega) e4
