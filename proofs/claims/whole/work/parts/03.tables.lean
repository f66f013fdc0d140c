-- the tables: the words that go down with a call, and those of nest mates
def isNest : Cond → Bool
  | .fieldLinkNest .. => true
  | .methodLinkNest .. => true
  | _ => false
def TG : List Cond := lw_tbl.filter goodWord
def TN : List Cond := lw_tbl.filter isNest
theorem inTG {wd : Cond} (i : Nat) (h : lw_tbl[i]? = some wd) (hg : goodWord wd = true) : wd ∈ TG := List.mem_filter.mpr ⟨List.mem_of_getElem? h, hg⟩
theorem inTN {wd : Cond} (i : Nat) (h : lw_tbl[i]? = some wd) (hg : isNest wd = true) : wd ∈ TN := List.mem_filter.mpr ⟨List.mem_of_getElem? h, hg⟩
theorem subTG (ws : List Cond) (ps : List Nat) (h : ws = ps.filterMap (fun i => lw_tbl[i]?)) (hg : ws.all goodWord = true) : ∀ wd ∈ ws, wd ∈ TG := by
  intro wd hw
  refine List.mem_filter.mpr ⟨?_, List.all_eq_true.mp hg wd hw⟩
  rw [h] at hw
  obtain ⟨i, -, hi⟩ := List.mem_filterMap.mp hw
  exact List.mem_of_getElem? hi
theorem TG_good : ∀ wd ∈ TG, goodWord wd = true := fun wd h => (List.mem_filter.mp h).2
theorem goodTG : ∀ wd ∈ TG, wd ∈ TG ∧ ((wd.onTables && wd.keeps) = true ∨ ∃ ty, wd = .arrayClass ty) := fun wd h => ⟨h, good_of_word (TG_good wd h)⟩
theorem TN_moved {s U : State} (hW : s.WarmedH U.vm) (h : ∀ wd ∈ TN, va_Nw wd s) : ∀ wd ∈ TN, va_Nw wd U := by
  intro wd hw
  have h1 := h wd hw
  have h2 := (List.mem_filter.mp hw).2
  cases wd <;> first | exact va_Nw.warmF hW h1 | exact va_Nw.warmM hW h1 | cases h2
def KCl (ci : Nat) (C : String) (T : u_T) (n : Nat) (ty0 : Nat → FieldType) : Prop := vwCl[ci]? = some (C, T, n) ∧ (∀ wd ∈ u_ws C T n, wd ∈ TG) ∧ (∀ k, k < n → parseFieldDescriptor (T k).2.2.1 = some (ty0 k)) ∧ (∀ a, a < n → ∀ b, b < n → a ≠ b → (T a).2.1 ≠ (T b).2.1)
/-- what a callee's tables say: an instance method, a static one, a constructor -/
def MW0 (y : MethodName) (cc : ByteArray) (nL : Nat) (ret : Option FieldType) (n : Nat) : Prop := Cond.code y cc nL ret ∈ TG ∧ Cond.initialized y.cls ∈ TG ∧ (y.cls ≠ "java/lang/invoke/MethodHandle" ∧ y.cls ≠ "java/lang/invoke/VarHandle") ∧ (parseMethodDescriptor y.desc).map (fun d => d.parameters.length) = some n
def MWV (y : MethodName) (cc : ByteArray) (nL : Nat) (ret : Option FieldType) (n : Nat) : Prop := MW0 y cc nL ret n ∧ Cond.instanceMethod y ∈ TG ∧ Cond.selects y.cls y y ∈ TG
def MWS (y : MethodName) (cc : ByteArray) (nL : Nat) (ret : Option FieldType) (n : Nat) : Prop := MW0 y cc nL ret n ∧ Cond.static y ∈ TG
def MWI (y : MethodName) (cc : ByteArray) (nL : Nat) (ret : Option FieldType) (n : Nat) : Prop := MW0 y cc nL ret n ∧ y.name = "<init>" ∧ Cond.instanceMethod y ∈ TG
