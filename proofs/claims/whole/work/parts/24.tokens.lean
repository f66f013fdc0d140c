-- the steps of a test, last first: 0 and more a test 1000f+100s+n, -1 not, -2 and, -3 or
def bitN : List Bool → Nat
  | [] => 0
  | b :: s => 2 * bitN s + b.toNat
def factA (f c k v d : Nat) : Nat := if f = 0 then c else if f = 1 then k else if f = 2 then v else if f = 3 then d % 10 else if f = 4 then d / 10 % 10 else d % 100
def tstA (t c k v d : Nat) : Bool := if t / 100 % 10 = 0 then decide (factA (t / 1000) c k v d < t % 100) else if t / 100 % 10 = 1 then decide (factA (t / 1000) c k v d = t % 100) else decide (t % 100 < factA (t / 1000) c k v d)
def notT : List Bool → List Bool
  | a :: r => (!a) :: r
  | [] => []
def andT : List Bool → List Bool
  | b :: a :: r => (a && b) :: r
  | r => r
def orT : List Bool → List Bool
  | b :: a :: r => (a || b) :: r
  | r => r
def stepT (c k v d : Nat) (st : List Bool) (t : Int) : List Bool := if t = -1 then notT st else if t = -2 then andT st else if t = -3 then orT st else tstA t.toNat c k v d :: st
def valT (ts : List Int) (c k v d : Nat) : Bool := (ts.foldl (stepT c k v d) []).headD false
def testT (t : Int) : Prop := 0 ≤ t ∧ t < 6000 ∧ t % 1000 < 300
def okT : List Int → Nat → Nat → Prop
  | [], n, m => n = m
  | t :: ts, n, m => (t = -1 ∧ 1 ≤ n ∧ okT ts n m) ∨ ((t = -2 ∨ t = -3) ∧ 2 ≤ n ∧ okT ts (n - 1) m) ∨ (testT t ∧ n < 11 ∧ okT ts (n + 1) m)
theorem okT_app {a b : List Int} {n m l : Nat} (h1 : okT a n m) (h2 : okT b m l) : okT (a ++ b) n l := by
  induction a generalizing n with
  | nil => rw [show n = m from h1]; exact h2
  | cons t ts ih =>
    rcases h1 with ⟨e, g, r⟩ | ⟨e, g, r⟩ | ⟨e, g, r⟩
    · exact Or.inl ⟨e, g, ih r⟩
    · exact Or.inr (Or.inl ⟨e, g, ih r⟩)
    · exact Or.inr (Or.inr ⟨e, g, ih r⟩)
theorem factA_mod (f c k v d : Nat) : factA f c k v d = factA f c k v (d % 100) := by
  unfold factA
  split
  · rfl
  · split
    · rfl
    · split
      · rfl
      · split
        · omega
        · split <;> omega
theorem stepT_mod (c k v d : Nat) : stepT c k v d = stepT c k v (d % 100) := by
  funext st t
  unfold stepT tstA
  rw [factA_mod]
theorem valT_mod (ts : List Int) (c k v d : Nat) : valT ts c k v d = valT ts c k v (d % 100) := by
  unfold valT
  rw [stepT_mod]
theorem bitN_lt : ∀ st : List Bool, bitN st < 2 ^ st.length
  | [] => by decide
  | b :: s => by
    have := bitN_lt s
    have hb : b.toNat ≤ 1 := by cases b <;> decide
    show 2 * bitN s + b.toNat < 2 ^ (s.length + 1)
    omega
def atS (f : Nat → Int32) (en : Int → Int32) : Nat → List Int → Prop
  | _, [] => True
  | i, t :: ts => f i = en t ∧ atS f en (i + 1) ts
theorem atS_app {f : Nat → Int32} {en : Int → Int32} {a b : List Int} {i : Nat} : atS f en i (a ++ b) ↔ atS f en i a ∧ atS f en (i + a.length) b := by
  induction a generalizing i with
  | nil => simp [atS]
  | cons t ts ih =>
    simp only [List.cons_append, atS, ih, List.length_cons, and_assoc, show i + 1 + ts.length = i + (ts.length + 1) by omega]
theorem atS_eq {f g : Nat → Int32} {en : Int → Int32} {a : List Int} {i : Nat} (h : ∀ j, j < i + a.length → g j = f j) (u : atS f en i a) : atS g en i a := by
  induction a generalizing i with
  | nil => trivial
  | cons t ts ih => exact ⟨by rw [h i (by simp)]; exact u.1, ih (fun j hj => h j (by simp at hj ⊢; omega)) u.2⟩
def cT (t : Int) : Int32 := if 0 ≤ t then nI (300 * (t.toNat / 1000) + t.toNat % 1000) else if t = -1 then -1 else if t = -2 then -2 else -3
def mT (t : Int) : Int32 := if 0 ≤ t then nI t.toNat else if t = -1 then -33 else if t = -2 then -38 else -124
theorem bit_not : ∀ m, m < 1024 → nI (2 * m + 1) ^^^ (1 : Int32) = nI (2 * m) ∧ nI (2 * m) ^^^ (1 : Int32) = nI (2 * m + 1) := by decide +kernel
theorem bit_and : ∀ x, x < 2048 → (nI x >>> ((1 : Int32) &&& 31)) &&& (nI x ||| (-2 : Int32)) = nI (2 * (x / 4) + (if x % 4 = 3 then 1 else 0)) := by decide +kernel
theorem bit_or : ∀ x, x < 2048 → (nI x >>> ((1 : Int32) &&& 31)) ||| (nI x &&& (1 : Int32)) = nI (2 * (x / 4) + (if x % 4 = 0 then 0 else 1)) := by decide +kernel
theorem bit_push : ∀ x, x < 2048 → (nI x <<< ((1 : Int32) &&& 31)) ||| (0 : Int32) = nI (2 * x) ∧ (nI x <<< ((1 : Int32) &&& 31)) ||| (1 : Int32) = nI (2 * x + 1) := by decide +kernel
theorem bit_last : ∀ x, x < 2048 → ((nI x &&& (1 : Int32)) = (1 : Int32) ↔ x % 2 = 1) := by decide +kernel
