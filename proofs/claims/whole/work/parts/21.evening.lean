-- what a course, the clocks, a bench are, as numbers
abbrev CS : Type := Nat × (Nat → Nat) × (Nat → Bool)
abbrev SG : Type := Nat × (Nat → Nat) × (Nat → Nat) × (Nat → Nat)
abbrev Bn : Type := Nat × List (Int × (Nat → Nat → Nat → Nat → Bool))
def newsA (b : Bn) (g : SG) (c d : Nat) : Nat := (1 + (b.2.map fun q => if q.2 c (g.2.1 c) (g.2.2.1 c) d = true then q.1 else 0).sum).toNat
def mindA (b : Bn) (g : SG) (c d : Nat) : Bool :=
  if g.2.1 c = 2 then decide (g.2.2.1 c + 3 < newsA b g c d)
  else if g.2.1 c = 5 then (decide (d % (g.2.2.1 c + 2) ≠ 0) && decide (g.2.2.1 c + 3 < newsA b g c d))
  else false
def halfA (p : Nat) : Nat := if 1 < p / 2 then p / 2 else 1
def holdA (b : Bn) (g : SG) (c today : Nat) : Nat :=
  if g.2.1 c = 1 then 2 * b.1 else if g.2.1 c = 3 then halfA b.1 else if g.2.1 c = 4 then 2 * b.1 + g.2.2.1 c
  else if g.2.1 c = 6 then halfA b.1 + g.2.2.2 (4 * c + today % 4) else b.1
def nightA (n : Nat) (cs : CS) : CS := (cs.1 + 1, fun i => if i < n ∧ cs.2.1 i = cs.1 then cs.2.1 i + 1 else cs.2.1 i, cs.2.2)
def evA (b : Bn) (g : SG) (c most : Nat) : Nat → Nat → Nat → CS → Nat × CS
  | 0, days, _, cs => (days, cs)
  | k + 1, days, sum, cs =>
    if cs.2.1 c < cs.1 ∧ cs.2.2 c = false then
      if mindA b g c (cs.2.1 c) = true then (days, (cs.1, cs.2.1, va_up cs.2.2 c true))
      else if days = 0 ∨ sum + newsA b g c (cs.2.1 c) ≤ most then evA b g c most k (days + 1) (sum + newsA b g c (cs.2.1 c)) (cs.1, va_up cs.2.1 c (cs.2.1 c + 1), cs.2.2)
      else (days, cs)
    else (days, cs)
def evening (b : Bn) (g : SG) (c : Nat) (cs : CS) : Nat × CS := ((evA b g c (holdA b g c cs.1) 30 0 0 cs).1, nightA g.1 (evA b g c (holdA b g c cs.1) 30 0 0 cs).2)
def BnOK (b : Bn) : Prop := 1 ≤ b.1 ∧ b.1 ≤ 99 ∧ b.2.length ≤ 10 ∧ ∀ q ∈ b.2, (-99 ≤ q.1 ∧ q.1 ≤ 99) ∧ ∀ c k v d, q.2 c k v d = q.2 c k v (d % 100)
theorem sum_le (l : List Int) (n : Nat) (hl : l.length ≤ n) (h : ∀ x ∈ l, x ≤ 99) : l.sum ≤ 99 * n := by
  induction l generalizing n with
  | nil => simp; omega
  | cons a l ih =>
    obtain ⟨m, rfl⟩ : ∃ m, n = m + 1 := ⟨n - 1, by simp at hl; omega⟩
    have h1 := ih m (by simp at hl; omega) (fun x hx => h x (List.mem_cons_of_mem _ hx))
    have h2 := h a List.mem_cons_self
    rw [List.sum_cons]; omega
theorem newsA_lt {b : Bn} {g : SG} {c d : Nat} (hb : BnOK b) : newsA b g c d < 1000 := by
  have h := sum_le (b.2.map fun q => if q.2 c (g.2.1 c) (g.2.2.1 c) d = true then q.1 else 0) 10 (by rw [List.length_map]; exact hb.2.2.1) (fun x hx => by
    obtain ⟨q, hq, rfl⟩ := List.mem_map.mp hx
    have := (hb.2.2.2 q hq).1
    split <;> omega)
  unfold newsA
  omega
theorem newsA_mod {b : Bn} {g : SG} {c d : Nat} (hb : BnOK b) : newsA b g c d = newsA b g c (d % 100) := by
  unfold newsA
  congr 3
  apply List.map_congr_left
  intro q hq
  rw [(hb.2.2.2 q hq).2]
def preA (b : Bn) (g : SG) (c : Nat) : Nat → Nat
  | 0 => 0
  | d + 1 => preA b g c d + newsA b g c d
theorem preA_lt {b : Bn} {g : SG} {c : Nat} (hb : BnOK b) : ∀ d, preA b g c d ≤ 1000 * d
  | 0 => Nat.le_refl _
  | d + 1 => by
    have := preA_lt (g := g) (c := c) hb d
    have := newsA_lt (g := g) (c := c) (d := d) hb
    show preA b g c d + newsA b g c d ≤ _
    omega
-- ===== the class =====
def paceC (h : PH) (s : Nat) (p : Nat) : Prop := match h.2.2 s 10 with | none => p = 10 | some z => isBench z = true ∧ h.1 z 0 = nI p
def EnvC (h : PH) (g : SG) (b : Bn) : Prop :=
  h.1 1 0 = nI g.1 ∧ g.1 ≤ 6 ∧ (∀ c, c < 6 → h.1 2 c = nI (g.2.1 c) ∧ g.2.1 c ≤ 6) ∧ (∀ c, c < 6 → h.1 3 c = nI (g.2.2.1 c) ∧ g.2.2.1 c ≤ 9) ∧ (∀ i, i < 24 → h.1 4 i = nI (g.2.2.2 i) ∧ g.2.2.2 i ≤ 9) ∧
  (∀ c, c < g.1 → ∀ d, d ≤ 100 → h.1 5 (c * 101 + d) = nI (preA b g c d)) ∧ paceC h 1 b.1 ∧ BnOK b
def RepC (h : PH) (k : Nat) (cs : CS) : Prop := h.1 k 0 = nI cs.1 ∧ ∀ i, i < 6 → h.1 (k + 1) i = nI (cs.2.1 i) ∧ cs.2.1 i ≤ cs.1 ∧ h.1 (k + 2) i = (if cs.2.2 i = true then 1 else 0)
def FrC (k : Nat) (h h' : PH) : Prop := (∀ a, a ≠ k → a ≠ k + 1 → a ≠ k + 2 → h'.1 a = h.1 a) ∧ h'.2 = h.2
theorem FrC.refl (k : Nat) (h : PH) : FrC k h h := ⟨fun _ _ _ _ => rfl, rfl⟩
theorem FrC.trans {k : Nat} {h h1 h2 : PH} (a : FrC k h h1) (b : FrC k h1 h2) : FrC k h h2 := ⟨fun x h1 h2 h3 => (b.1 x h1 h2 h3).trans (a.1 x h1 h2 h3), b.2.trans a.2⟩
theorem FrC.env {k : Nat} {h h' : PH} {g : SG} {b : Bn} (hk : isCourse k = true) (f : FrC k h h') (e : EnvC h g b) : EnvC h' g b := by
  have far : ∀ a, (a ≤ 5 ∨ 66 ≤ a) → h'.1 a = h.1 a := by
    intro a ha
    have hk' := isCourse_or hk
    exact f.1 a (by omega) (by omega) (by omega)
  obtain ⟨e1, e2, e3, e4, e5, e6, e7, e8⟩ := e
  refine ⟨by rw [far 1 (by omega)]; exact e1, e2, fun c hc => by rw [far 2 (by omega)]; exact e3 c hc, fun c hc => by rw [far 3 (by omega)]; exact e4 c hc, fun i hi => by rw [far 4 (by omega)]; exact e5 i hi, fun c hc d hd => by rw [far 5 (by omega)]; exact e6 c hc d hd, ?_, e8⟩
  unfold paceC at e7 ⊢
  rw [f.2]
  cases hz : h.2.2 1 10 with
  | none => rw [hz] at e7; exact e7
  | some z =>
    rw [hz] at e7
    have hz' := isBench_or e7.1
    exact ⟨e7.1, by rw [far z (by omega)]; exact e7.2⟩
theorem paceC_eq {F : Nat} {h : PH} {p : Nat} (hp : paceC h 1 p) : f_X7_pace F h = some (nI p, h) := by
  unfold paceC at hp
  unfold f_X7_pace
  cases hz : h.2.2 1 10 with
  | none => rw [hz] at hp; rw [omat_none, hp]; rfl
  | some z => rw [hz] at hp; rw [omat_some, omat_some, if_pos hp.1, hp.2]
theorem jrem_nI {a d : Nat} (ha : a < 2 ^ 31) (h0 : 0 < d) (hd : d < 2 ^ 31) : jrem (nI a) (nI d) = nI (a % d) := pk_rem ha h0 hd
theorem newsOfC {F : Nat} {h : PH} {g : SG} {b : Bn} {c d : Nat} (e : EnvC h g b) (hc : c < g.1) (hd : d < 2 ^ 30) : f_X7_newsOf F (nI c) (nI d) h = some (nI (newsA b g c d), h) := by
  obtain ⟨e1, e2, e3, e4, e5, e6, e7, e8⟩ := e
  have hm : d % 100 < 100 := Nat.mod_lt _ (by decide)
  unfold f_X7_newsOf
  rw [if_neg (by decide), show (100 : Int32) = nI 100 from rfl, show (101 : Int32) = nI 101 from rfl, show (1 : Int32) = nI 1 from rfl, jrem_nI (by omega) (by decide) (by decide), pk_mul, nI_add, nI_add,
    if_pos (inb_nI (by omega) (by decide)), if_pos (inb_nI (by omega) (by decide)), ix_nI (by omega), ix_nI (by omega)]
  have h1 := e6 c hc (d % 100) (by omega)
  have h2 := e6 c hc (d % 100 + 1) (by omega)
  rw [h1, show c * 101 + d % 100 + 1 = c * 101 + (d % 100 + 1) by omega, h2]
  have h3 : preA b g c (d % 100 + 1) = preA b g c (d % 100) + newsA b g c (d % 100) := rfl
  rw [h3, pk_sub (by omega), Nat.add_sub_cancel_left, ← newsA_mod e8]
