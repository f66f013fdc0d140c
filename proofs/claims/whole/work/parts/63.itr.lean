-- rows tried as numbers count up, and by depth first
def itr {B : Type} (f : Nat → B → B) : Nat → Nat → B → B
  | 0, _, b => b
  | j + 1, i, b => itr f j (i + 1) (f i b)
theorem itr_add {B : Type} {f : Nat → B → B} {k : Nat} : ∀ (j i : Nat) (b : B), itr f (j + k) i b = itr f k (i + j) (itr f j i b)
  | 0, i, b => by rw [Nat.zero_add, Nat.add_zero]; rfl
  | j + 1, i, b => by
    rw [show j + 1 + k = (j + k) + 1 by omega]
    show itr f (j + k) (i + 1) (f i b) = itr f k (i + (j + 1)) (itr f j (i + 1) (f i b))
    rw [itr_add j (i + 1), show i + 1 + j = i + (j + 1) by omega]
theorem itr_mul {B : Type} {f : Nat → B → B} {K a : Nat} : ∀ (j i : Nat) (b : B), itr f (j * K) (a + i * K) b = itr (fun i b => itr f K (a + i * K) b) j i b
  | 0, i, b => by rw [Nat.zero_mul]; rfl
  | j + 1, i, b => by
    rw [Nat.succ_mul, Nat.add_comm (j * K) K, itr_add K, Nat.add_assoc, ← Nat.succ_mul, itr_mul j (i + 1)]
    rfl
theorem itr_congr {B : Type} {f g : Nat → B → B} : ∀ (j i : Nat) (b : B), (∀ x b, i ≤ x → x < i + j → f x b = g x b) → itr f j i b = itr g j i b
  | 0, _, _, _ => rfl
  | j + 1, i, b, h => by
    show itr f j (i + 1) (f i b) = itr g j (i + 1) (g i b)
    rw [h i b (Nat.le_refl _) (by omega), itr_congr j (i + 1) _ (fun x b h1 h2 => h x b (by omega) (by omega))]
theorem itr_id {B : Type} {f : Nat → B → B} : ∀ (j i : Nat) (b : B), (∀ x b, i ≤ x → x < i + j → f x b = b) → itr f j i b = b
  | 0, _, _, _ => rfl
  | j + 1, i, b, h => by
    show itr f j (i + 1) (f i b) = b
    rw [h i b (Nat.le_refl _) (by omega), itr_id j (i + 1) _ (fun x b h1 h2 => h x b (by omega) (by omega))]
theorem itr_keep {B : Type} {f : Nat → B → B} {P : B → Prop} (h : ∀ x b, P b → P (f x b)) : ∀ (j i : Nat) (b : B), P b → P (itr f j i b)
  | 0, _, _, p => p
  | j + 1, i, b, p => itr_keep h j (i + 1) (f i b) (h i b p)
def digs (B : Nat) : Nat → Nat → List Nat
  | 0, _ => []
  | k + 1, x => digs B k (x / B) ++ [x % B]
theorem digs_len (B : Nat) : ∀ k x, (digs B k x).length = k
  | 0, _ => rfl
  | k + 1, x => by
    show (digs B k (x / B) ++ [x % B]).length = k + 1
    rw [List.length_append, digs_len B k, List.length_singleton]
theorem digs_step {B d P i : Nat} (hi : i < B) : digs B (d + 1) (B * P + i) = digs B d P ++ [i] := by
  show digs B d ((B * P + i) / B) ++ [(B * P + i) % B] = _
  rw [Nat.mul_add_div (by omega), Nat.div_eq_of_lt hi, Nat.add_zero, Nat.mul_add_mod, Nat.mod_eq_of_lt hi]
abbrev Best : Type := Option (Nat × List Nat)
def okL (n : Nat) : List Nat → Bool
  | [] => true
  | x :: l => okL n l && (decide (x < n) && decide (¬ x ∈ l))
theorem okL_snoc {n i : Nat} : ∀ {l : List Nat}, okL n (l ++ [i]) = (okL n l && (decide (i < n) && decide (¬ i ∈ l)))
  | [] => by simp [okL]
  | x :: l => by
    show (okL n (l ++ [i]) && (decide (x < n) && decide (¬ x ∈ l ++ [i]))) = ((okL n l && (decide (x < n) && decide (¬ x ∈ l))) && (decide (i < n) && decide (¬ i ∈ x :: l)))
    rw [okL_snoc]
    by_cases h1 : x = i
    · subst h1; simp
    · have h2 : ¬ i = x := fun q => h1 q.symm
      by_cases h3 : i ∈ l <;> by_cases h4 : x ∈ l <;> by_cases h5 : i < n <;> by_cases h6 : x < n <;> simp [h1, h2, h3, h4, h5, h6]
theorem okL_bad {n : Nat} {t : List Nat} (h : okL n t = false) : ∀ a : List Nat, okL n (a ++ t) = false
  | [] => h
  | x :: a => by
    show (okL n (a ++ t) && (decide (x < n) && decide (¬ x ∈ a ++ t))) = false
    rw [okL_bad h a]; rfl
def updS (v : Nat) (l : List Nat) : Best → Best
  | none => some (v, l)
  | some (w, r) => if w ≤ v then some (w, r) else some (v, l)
def srchS (n : Nat) (cost : List Nat → Nat) : Nat → List Nat → Best → Best
  | 0, l, b => updS (cost l) l b
  | m + 1, l, b => itr (fun i b => if i ∈ l then b else srchS n cost m (l ++ [i]) b) n 0 b
def stepS (n : Nat) (cost : List Nat → Nat) (x : Nat) (b : Best) : Best := if okL n (digs 6 n x) = true then updS (cost (digs 6 n x)) (digs 6 n x) b else b
theorem blkBad {n : Nat} {cost : List Nat → Nat} : ∀ (m d P : Nat) (b : Best), d + m = n → okL n (digs 6 d P) = false → itr (stepS n cost) (6 ^ m) (P * 6 ^ m) b = b
  | 0, d, P, b, hd, h => by
    rw [Nat.pow_zero, Nat.mul_one]
    show stepS n cost P b = b
    unfold stepS
    rw [Nat.add_zero] at hd
    rw [← hd] at h ⊢
    rw [h]; rfl
  | m + 1, d, P, b, hd, h => by
    have e : itr (stepS n cost) (6 ^ (m + 1)) (P * 6 ^ (m + 1)) b = itr (fun i b => itr (stepS n cost) (6 ^ m) (P * 6 ^ (m + 1) + i * 6 ^ m) b) 6 0 b := by
      have := itr_mul (f := stepS n cost) (K := 6 ^ m) (a := P * 6 ^ (m + 1)) 6 0 b
      rw [Nat.zero_mul, Nat.add_zero] at this
      rw [← this, Nat.pow_succ, Nat.mul_comm 6 (6 ^ m)]
    rw [e]
    refine itr_id 6 0 b (fun x b h1 h2 => ?_)
    have a : P * 6 ^ (m + 1) + x * 6 ^ m = (6 * P + x) * 6 ^ m := by rw [Nat.pow_succ, Nat.add_mul, Nat.mul_comm (6 ^ m) 6, ← Nat.mul_assoc, Nat.mul_comm P 6]
    rw [a]
    refine blkBad m (d + 1) (6 * P + x) b (by omega) ?_
    rw [digs_step (by omega), okL_snoc, h]; rfl
theorem blkS {n : Nat} {cost : List Nat → Nat} (hn : n ≤ 6) : ∀ (m d P : Nat) (b : Best), d + m = n → okL n (digs 6 d P) = true → itr (stepS n cost) (6 ^ m) (P * 6 ^ m) b = srchS n cost m (digs 6 d P) b
  | 0, d, P, b, hd, h => by
    rw [Nat.pow_zero, Nat.mul_one]
    show stepS n cost P b = updS (cost (digs 6 d P)) (digs 6 d P) b
    unfold stepS
    rw [Nat.add_zero] at hd
    rw [← hd] at h ⊢
    rw [if_pos h]
  | m + 1, d, P, b, hd, h => by
    have e : itr (stepS n cost) (6 ^ (m + 1)) (P * 6 ^ (m + 1)) b = itr (fun i b => itr (stepS n cost) (6 ^ m) (P * 6 ^ (m + 1) + i * 6 ^ m) b) 6 0 b := by
      have := itr_mul (f := stepS n cost) (K := 6 ^ m) (a := P * 6 ^ (m + 1)) 6 0 b
      rw [Nat.zero_mul, Nat.add_zero] at this
      rw [← this, Nat.pow_succ, Nat.mul_comm 6 (6 ^ m)]
    have a : ∀ x, P * 6 ^ (m + 1) + x * 6 ^ m = (6 * P + x) * 6 ^ m := fun x => by rw [Nat.pow_succ, Nat.add_mul, Nat.mul_comm (6 ^ m) 6, ← Nat.mul_assoc, Nat.mul_comm P 6]
    obtain ⟨k, hk⟩ : ∃ k, 6 = n + k := ⟨6 - n, by omega⟩
    rw [e]
    have e6 : itr (fun i b => itr (stepS n cost) (6 ^ m) (P * 6 ^ (m + 1) + i * 6 ^ m) b) (n + k) 0 b = itr (fun i b => if i ∈ digs 6 d P then b else srchS n cost m (digs 6 d P ++ [i]) b) n 0 b := by
      rw [itr_add n 0 b]
      rw [itr_id k (0 + n) _ (fun x b h1 h2 => by
        rw [a x]
        refine blkBad m (d + 1) (6 * P + x) b (by omega) ?_
        rw [digs_step (by omega), okL_snoc, show decide (x < n) = false from decide_eq_false (by omega)]
        simp)]
      refine itr_congr n 0 b (fun x b h1 h2 => ?_)
      rw [a x]
      by_cases hx : x ∈ digs 6 d P
      · rw [if_pos hx]
        refine blkBad m (d + 1) (6 * P + x) b (by omega) ?_
        rw [digs_step (by omega), okL_snoc]
        simp [hx]
      · rw [if_neg hx, ← digs_step (by omega)]
        refine blkS hn m (d + 1) (6 * P + x) b (by omega) ?_
        rw [digs_step (by omega), okL_snoc, h]
        simp [hx]; omega
    rw [← hk] at e6
    exact e6
theorem allS {n : Nat} {cost : List Nat → Nat} (hn : n ≤ 6) (b : Best) : itr (stepS n cost) (6 ^ n) 0 b = srchS n cost n [] b := by
  have := blkS (cost := cost) hn n 0 0 b (by omega) rfl
  rw [Nat.zero_mul] at this
  exact this
theorem srchS_prune {n : Nat} {cost : List Nat → Nat} (mono : ∀ l i, cost l ≤ cost (l ++ [i])) {v : Nat} {r : List Nat} : ∀ (m : Nat) (l : List Nat), v ≤ cost l → srchS n cost m l (some (v, r)) = some (v, r)
  | 0, l, h => by
    show (if v ≤ cost l then some (v, r) else some (cost l, l)) = _
    rw [if_pos h]
  | m + 1, l, h => by
    show itr (fun i b => if i ∈ l then b else srchS n cost m (l ++ [i]) b) n 0 (some (v, r)) = some (v, r)
    have : ∀ (j i : Nat) (b : Best), b = some (v, r) → itr (fun i b => if i ∈ l then b else srchS n cost m (l ++ [i]) b) j i b = some (v, r) := by
      intro j
      induction j with
      | zero => intro i b hb; exact hb
      | succ j ih =>
        intro i b hb
        refine ih (i + 1) _ ?_
        rw [hb]
        show (if i ∈ l then some (v, r) else srchS n cost m (l ++ [i]) (some (v, r))) = some (v, r)
        by_cases hi : i ∈ l
        · rw [if_pos hi]
        · rw [if_neg hi]
          exact srchS_prune mono m (l ++ [i]) (Nat.le_trans h (mono l i))
    exact this n 0 _ rfl
theorem srchS_some {n : Nat} {cost : List Nat → Nat} : ∀ (m : Nat) (l : List Nat) (b : Best), b ≠ none → srchS n cost m l b ≠ none
  | 0, l, b, h => by
    match b, h with
    | some (v, r), _ =>
      show (if v ≤ cost l then some (v, r) else some (cost l, l)) ≠ none
      split <;> simp
  | m + 1, l, b, h => by
    show itr (fun i b => if i ∈ l then b else srchS n cost m (l ++ [i]) b) n 0 b ≠ none
    refine itr_keep (P := fun b => b ≠ none) (fun x b hb => ?_) n 0 b h
    show (if x ∈ l then b else srchS n cost m (l ++ [x]) b) ≠ none
    by_cases hx : x ∈ l
    · rw [if_pos hx]; exact hb
    · rw [if_neg hx]; exact srchS_some m (l ++ [x]) b hb
theorem srchS_hit {n : Nat} {cost : List Nat → Nat} : ∀ (m d : Nat) (b : Best), d + m = n → srchS n cost m (List.range d) b ≠ none
  | 0, d, b, hd => by
    show updS (cost (List.range d)) (List.range d) b ≠ none
    unfold updS
    split
    · simp
    · split <;> simp
  | m + 1, d, b, hd => by
    show itr (fun i b => if i ∈ List.range d then b else srchS n cost m (List.range d ++ [i]) b) n 0 b ≠ none
    obtain ⟨k, hk⟩ : ∃ k, n = d + (1 + k) := ⟨n - d - 1, by omega⟩
    rw [show itr (fun i b => if i ∈ List.range d then b else srchS n cost m (List.range d ++ [i]) b) n 0 b = itr (fun i b => if i ∈ List.range d then b else srchS n cost m (List.range d ++ [i]) b) (d + (1 + k)) 0 b by rw [← hk], itr_add d 0 b, itr_add 1]
    refine itr_keep (P := fun b => b ≠ none) (fun x b hb => ?_) k _ _ ?_
    · show (if x ∈ List.range d then b else srchS n cost m (List.range d ++ [x]) b) ≠ none
      by_cases hx : x ∈ List.range d
      · rw [if_pos hx]; exact hb
      · rw [if_neg hx]; exact srchS_some m _ b hb
    · show (if (0 + d) ∈ List.range d then _ else srchS n cost m (List.range d ++ [0 + d]) _) ≠ none
      rw [Nat.zero_add, if_neg (by simp), ← List.range_succ]
      exact srchS_hit m (d + 1) _ (by omega)
/-- a row kept is whole -/
def BestN (n : Nat) (b : Best) : Prop := ∀ v r, b = some (v, r) → r.length = n
theorem srchS_len {n : Nat} {cost : List Nat → Nat} : ∀ (m : Nat) (l : List Nat) (b : Best), l.length + m = n → BestN n b → BestN n (srchS n cost m l b)
  | 0, l, b, hl, h => by
    intro v r e
    have e' : updS (cost l) l b = some (v, r) := e
    unfold updS at e'
    split at e'
    · injection e' with e'
      injection e' with _ e'
      rw [← e']; omega
    · next w q =>
      split at e'
      · injection e' with e'
        injection e' with _ e'
        rw [← e']; exact h w q rfl
      · injection e' with e'
        injection e' with _ e'
        rw [← e']; omega
  | m + 1, l, b, hl, h => by
    show BestN n (itr (fun i b => if i ∈ l then b else srchS n cost m (l ++ [i]) b) n 0 b)
    refine itr_keep (fun x b hb => ?_) n 0 b h
    show BestN n (if x ∈ l then b else srchS n cost m (l ++ [x]) b)
    by_cases hx : x ∈ l
    · rw [if_pos hx]; exact hb
    · rw [if_neg hx]; exact srchS_len m (l ++ [x]) b (by rw [List.length_append, List.length_singleton]; omega) hb
