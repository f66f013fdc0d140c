-- worlds by number
def wl (b N : Nat) (G : Nat → va_E) : va_W := (List.range N).map (fun k => (b + k, G k))
theorem wl_len (b N : Nat) (G : Nat → va_E) : (wl b N G).length = N := by simp [wl]
theorem wl_get {b N : Nat} {G : Nat → va_E} {k : Nat} (h : k < N) : (wl b N G)[k]? = some (b + k, G k) := by simp [wl, h]
theorem wl_some {b N : Nat} {G : Nat → va_E} {k : Nat} {q : Nat × va_E} (h : (wl b N G)[k]? = some q) : k < N ∧ q = (b + k, G k) := by
  have hk : k < N := by have := (List.getElem?_eq_some_iff.mp h).1; rwa [wl_len] at this
  rw [wl_get hk] at h
  exact ⟨hk, (Option.some.inj h).symm⟩
theorem wl_set {b N : Nat} {G : Nat → va_E} {k : Nat} (e : va_E) (h : k < N) : (wl b N G).set k (b + k, e) = wl b N (va_up G k e) := by
  apply List.ext_getElem?
  intro i
  rw [List.getElem?_set]
  by_cases hi : i < N
  · by_cases hk : k = i
    · subst hk
      rw [if_pos rfl, wl_len, if_pos hi, wl_get hi]; simp [va_up]
    · rw [if_neg hk, wl_get hi, wl_get hi]
      simp [va_up, Ne.symm hk]
  · have h1 : (wl b N G)[i]? = none := by simp [wl_len]; omega
    have h2 : (wl b N (va_up G k e))[i]? = none := by simp [wl_len]; omega
    have h3 : k ≠ i := by omega
    rw [if_neg h3, h1, h2]
theorem wl_push {b N : Nat} {G : Nat → va_E} (e : va_E) : wl b N G ++ [(b + N, e)] = wl b (N + 1) (va_up G N e) := by
  unfold wl
  rw [List.range_succ, List.map_append]
  congr 1
  · apply List.map_congr_left
    intro k hk
    have : k ≠ N := Nat.ne_of_lt (List.mem_range.mp hk)
    simp [va_up, this]
  · simp [va_up]
theorem wl_D (b N : Nat) (G : Nat → va_E) : va_D (fun q => b ≤ q) (wl b N G) := by
  refine ⟨fun i j p q hi hj h => ?_, fun k q h => ?_⟩
  · obtain ⟨-, rfl⟩ := wl_some hi
    obtain ⟨-, rfl⟩ := wl_some hj
    simp at h; exact h
  · obtain ⟨-, rfl⟩ := wl_some h
    exact Nat.le_add_right _ _
theorem wl_P_congr {D : va_G} {cl : List vw_C} {b N : Nat} {G G' : Nat → va_E} {H : Heap} (h : ∀ k, k < N → G k = G' k) (hP : va_P D cl (wl b N G) H) : va_P D cl (wl b N G') H := by
  intro k q hq
  obtain ⟨hk, rfl⟩ := wl_some hq
  have := hP k _ (wl_get (G := G) hk)
  rw [h k hk] at this
  exact this
-- what a method's walk stands in
abbrev Ev : Type := va_G × (Nat → ClassId) × Nat × (Nat → Nat) × Bool
abbrev Cx : Type := Program × Launch × Env × Room × State × MethodId × Array Value × List Frame × Method × Code × (State → Prop)
def rf (V : Ev) (k : Nat) : Value := .ref (V.2.2.1 + k)
def sf (V : Ev) (j : Nat) : Value := .ref (V.2.2.2.1 j)
def rq (V : Ev) (o : Option Nat) : Value := match o with | none => .null | some k => rf V k
def tysOf (ac : Nat → ClassId) : List (ClassId × FieldType) := [(ac 0, .byte), (ac 1, .int), (ac 2, .long), (ac 3, .boolean), (ac 4, .object RX2), (ac 5, .object RX3), (ac 6, .object RX8)]
def aboveL : List Int32 := [-1, 0, 0, 0, 1, 2, 3]
def bodiesL : List Int32 := [10, 11, 12, 0, 20, 0, 30, 0, 0, 0, 0, 40, 50, 51, 0, 0, 0, 60, 71, 70, 0]
def strL : List (List Int32) := [[112, 97, 99, 101], [110, 101, 119, 115], [104, 117, 115, 104], [99, 107, 118, 100, 116, 104], [60, 61, 62]]
def strN : List Nat := [4, 4, 4, 6, 3]
def aboveF (j : Nat) : Int32 := aboveL.getD j 0
def bodiesF (j : Nat) : Int32 := bodiesL.getD j 0
/-- what lies in the heap from before: static arrays, String constants, statics of the JDK's -/
def XS (V : Ev) (U : State) (H : Heap) : Prop :=
  (va_Z RX9 "ABOVE" "[I" (sf V 0) (fun q => V.2.2.1 ≤ q) U H ∧ va_T .int (V.2.2.2.1 0) 7 (fun j => .int (aboveF j)) (fun q => V.2.2.1 ≤ q) U H ∧
   va_Z RX0 "BODIES" "[I" (sf V 1) (fun q => V.2.2.1 ≤ q) U H ∧ va_T .int (V.2.2.2.1 1) 21 (fun j => .int (bodiesF j)) (fun q => V.2.2.1 ≤ q) U H) ∧
  (vk_S 5 strN strL (fun i => V.2.2.2.1 (2 * i + 2)) (fun i => V.2.2.2.1 (2 * i + 3)) (fun q => V.2.2.1 ≤ q) U H ∧
   vk_R RX5 55 "pace" (V.2.2.2.1 2) U ∧ vk_R RX5 72 "news" (V.2.2.2.1 4) U ∧ vk_R RX5 74 "hush" (V.2.2.2.1 6) U ∧ vk_R RX5 96 "ckvdth" (V.2.2.2.1 8) U ∧ vk_R RX5 102 "<=>" (V.2.2.2.1 10) U) ∧
  (va_Z "java/lang/String" "COMPACT_STRINGS" "Z" (.int 1) (fun q => V.2.2.1 ≤ q) U H ∧ va_Zq "jdk/internal/util/Preconditions" "SIOOBE_FORMATTER" "Ljava/util/function/BiFunction;" (fun q => V.2.2.1 ≤ q) U H) ∧ (va_AO RX2 U ∧ va_AO RX3 U ∧ va_AO RX8 U)
def ST (V : Ev) (U : State) (H : Heap) : Prop := va_K V.1 vwCl (tysOf V.2.1) U ∧ (∀ wd ∈ TN, va_Nw wd U) ∧ XS V U H
theorem XS.kept {V : Ev} {U : State} {H H1 : Heap} (h : XS V U H) (hq : ∀ a : Nat, a < H.size → ¬ V.2.2.1 ≤ a → H1[a]? = H[a]?) : XS V U H1 := by
  obtain ⟨⟨a1, a2, a3, a4⟩, ⟨b1, b2⟩, ⟨c1, c2⟩, d⟩ := h
  exact ⟨⟨a1.kept hq, a2.kept hq, a3.kept hq, a4.kept hq⟩, ⟨b1.kept hq, b2⟩, ⟨c1.kept hq, c2.kept hq⟩, d⟩
theorem XS.warm {V : Ev} {s U : State} {H : Heap} (hW : s.WarmedH U.vm) (h : XS V s H) : XS V U H := by
  obtain ⟨⟨a1, a2, a3, a4⟩, ⟨b1, b2, b3, b4, b5, b6⟩, ⟨c1, c2⟩, d1, d2, d3⟩ := h
  exact ⟨⟨a1.moved hW.alike, a2.moved hW.alike, a3.moved hW.alike, a4.moved hW.alike⟩, ⟨b1.moved hW.alike, b2.warm hW, b3.warm hW, b4.warm hW, b5.warm hW, b6.warm hW⟩, ⟨c1.moved hW.alike, c2.moved hW.alike⟩, d1.moved hW.alike, d2.moved hW.alike, d3.moved hW.alike⟩
theorem ST.kept {V : Ev} {U : State} {H H1 : Heap} (h : ST V U H) (hq : ∀ a : Nat, a < H.size → ¬ V.2.2.1 ≤ a → H1[a]? = H[a]?) : ST V U H1 := ⟨h.1, h.2.1, h.2.2.kept hq⟩
theorem ST.warm {V : Ev} {s U : State} {H : Heap} (hW : s.WarmedH U.vm) (h : ST V s H) : ST V U H := ⟨h.1.moved hW.alike, TN_moved hW h.2.1, h.2.2.warm hW⟩
/-- while objects are made, the heap's size is known -/
def SZ (V : Ev) (N : Nat) (H : Heap) : Prop := V.2.2.2.2 = true → H.size = V.2.2.1 + N
/-- a state that holds the world G of N cells from V's base on -/
def SW (V : Ev) (N : Nat) (G : Nat → va_E) (U : State) : Prop := va_P V.1 vwCl (wl V.2.2.1 N G) U.heap ∧ SZ V N U.heap ∧ V.2.2.1 ≤ U.heap.size ∧ ST V U U.heap
def QcM (V : Ev) (N : Nat) (G : Nat → va_E) (ov : Option Value) : Array Value → State → Outcome → State → Prop := fun _ st oc t =>
  oc = .returned ov ∧ SW V N G t ∧ va_F (fun q => V.2.2.1 ≤ q) st t
def RM (k mc ms : Nat) : Room := { frames := k, cells := mc, slots := ms, locals := 64 * k }
/-- a contract -/
def Ctr (l : Launch) (V : Ev) (y : MethodName) (cc : ByteArray) (nL : Nat) (ret : Option FieldType) (k : Nat) (av : List Value) (N : Nat) (G : Nat → va_E) (N' : Nat) (G' : Nat → va_E) (ov : Option Value) (mc ms : Nat) : Prop :=
  Met l y (.code y cc nL ret :: TG) (RM k mc ms) (va_Pc av (SW V N G)) (QcM V N' G' ov) mc ms (fun q => V.2.2.1 ≤ q)
/-- the judgement at a frame: the world is G of N cells -/
def PW : Cx → Ev → Nat → Nat → Nat → (Nat → va_E) → Nat → List (Nat × Value) → List Value → Prop
  | (p, l, e, R, s, m, args, below, meth, c, Q), V, nc, ns, N, G, pc, lv, st =>
    ∀ (H : Heap) (locs : List Loc) (ls : Array Slot), va_P V.1 vwCl (wl V.2.2.1 N G) H → SZ V N H → va_S (fun q => V.2.2.1 ≤ q) s.heap H locs → lv_has ls c.maxLocals lv →
      W p l e R s m args below meth c H locs nc ns Q (F0 m pc ls st)
/-- what the walk knows of its method -/
def CX : Cx → Ev → Launch → ByteArray → String → Nat → Nat → Nat → Nat → Option FieldType → Prop
  | (p, l, e, R, s, m, args, below, meth, c, Q), V, l', cc, own, nL, k, rc, rs, ret =>
    p.tables.exec = Jvm.exec ∧ c.code = cc ∧ c.maxLocals = nL ∧ s.vm.findClass own = some m.cls ∧ (∀ wd ∈ TG, wd.before args s = true) ∧ ST V s s.heap ∧ k ≤ R.frames ∧ 64 * k ≤ R.locals ∧ V.2.2.1 ≤ s.heap.size ∧ rc ≤ R.cells ∧ rs ≤ R.slots ∧ meth.locks = false ∧ meth.sig.returnType = ret ∧ l = l'
/-- what it owes at its end -/
def RQ : Cx → Ev → Nat → (Nat → va_E) → Option Value → Nat → Nat → Prop
  | (p, l, e, R, s, m, args, below, meth, c, Q), V, N, G, ov, mc, ms => Q = MQ below (QcM V N G ov) args s mc ms (fun q => V.2.2.1 ≤ q)
def INI : Cx → Prop
  | (p, l, e, R, s, m, args, below, meth, c, Q) => meth.name = "<init>"
theorem Ctr.intro {l : Launch} {V : Ev} {y : MethodName} {cc : ByteArray} {nL : Nat} {ret : Option FieldType} {k : Nat} {av : List Value} {N N' mc ms : Nat} {G G' : Nat → va_E} {ov : Option Value} (own : String) (hpl : plainName y.cls = true) (hown : y.cls = own) (hlen : Nat.ble (lg_sl av).length nL = true) {lv : List (Nat × Value)} (hlv : lv_args 0 av = lv)
    (body : ∀ E : Cx, CX E V l cc own nL k mc ms ret → RQ E V N' G' ov mc ms → (y.name = "<init>" → INI E) → PW E V 0 0 N G 0 lv []) : Ctr l V y cc nL ret k av N G N' G' ov mc ms := by
  refine Met.ofW (cc := cc) (maxL := nL) (ret := ret) hpl rfl ?_
  intro p e s m args below meth c s₁ B hml hv
  obtain ⟨rfl, hP, hsz, hbs, hT⟩ := hv
  have hts := atoms_spec (ws := Cond.code y cc nL ret :: TG) B.pre
  have hfc : s.vm.findClass own = some m.cls := by rw [← hown]; exact findClass_of_methodNamed B.named
  have h := body (p, l, e, RM k mc ms, s, m, av.toArray, below, meth, c, MQ below (QcM V N' G' ov) av.toArray s mc ms (fun q => V.2.2.1 ≤ q))
    ⟨B.exec, B.bytes, hml, hfc, fun wd hw => hts wd (List.mem_cons_of_mem _ hw), hT, Nat.le_refl _, Nat.le_refl _, hbs, Nat.le_refl _, Nat.le_refl _, B.notSynchronized, B.returns, rfl⟩ rfl
    (fun hn => by
      show meth.name = "<init>"
      rw [← hn]; exact (name_of_methodNamed B.named B.method).1)
  have hl := lv_entry av (n := nL) (Nat.le_of_ble_eq_true hlen)
  rw [lg_entry_eq]
  rw [hlv] at hl
  refine h s.heap [] _ hP hsz va_S.rf ?_
  rw [hml]; exact hl
-- locals, by a list that stays in order
def lst (i : Nat) (v : Value) (lv : List (Nat × Value)) : List (Nat × Value) :=
  (lv.filter fun q => Nat.ble (q.1 + 1) i && !(q.1 + 1 == i && q.2.category == 2)) ++ (i, v) :: lv.filter fun q => Nat.ble (i + 1) q.1
def lst2 (i : Nat) (v : Value) (lv : List (Nat × Value)) : List (Nat × Value) :=
  (lv.filter fun q => Nat.ble (q.1 + 1) i && !(q.1 + 1 == i && q.2.category == 2)) ++ (i, v) :: lv.filter fun q => Nat.ble (i + 2) q.1
theorem lst_in {i : Nat} {v : Value} {lv : List (Nat × Value)} {q : Nat × Value} (h : q ∈ lst i v lv) : q ∈ (i, v) :: lv.filter (fun q => !(q.1 == i) && !(q.1 + 1 == i && q.2.category == 2)) := by
  unfold lst at h
  rcases List.mem_append.mp h with h | h
  · obtain ⟨h1, h2⟩ := List.mem_filter.mp h
    rw [Bool.and_eq_true] at h2
    have h3 : q.1 + 1 ≤ i := Nat.le_of_ble_eq_true h2.1
    refine List.mem_cons_of_mem _ (List.mem_filter.mpr ⟨h1, ?_⟩)
    rw [Bool.and_eq_true]
    exact ⟨by simp; omega, h2.2⟩
  · rcases List.mem_cons.mp h with h | h
    · rw [h]; exact List.mem_cons_self
    · obtain ⟨h1, h2⟩ := List.mem_filter.mp h
      have h3 : i + 1 ≤ q.1 := Nat.le_of_ble_eq_true h2
      refine List.mem_cons_of_mem _ (List.mem_filter.mpr ⟨h1, ?_⟩)
      simp; exact ⟨by omega, Or.inl (by omega)⟩
theorem lst2_in {i : Nat} {v : Value} {lv : List (Nat × Value)} {q : Nat × Value} (h : q ∈ lst2 i v lv) : q ∈ (i, v) :: lv.filter (fun q => !(q.1 == i) && (!(q.1 == i + 1) && !(q.1 + 1 == i && q.2.category == 2))) := by
  unfold lst2 at h
  rcases List.mem_append.mp h with h | h
  · obtain ⟨h1, h2⟩ := List.mem_filter.mp h
    rw [Bool.and_eq_true] at h2
    have h3 : q.1 + 1 ≤ i := Nat.le_of_ble_eq_true h2.1
    refine List.mem_cons_of_mem _ (List.mem_filter.mpr ⟨h1, ?_⟩)
    rw [Bool.and_eq_true, Bool.and_eq_true]
    exact ⟨by simp; omega, by simp; omega, h2.2⟩
  · rcases List.mem_cons.mp h with h | h
    · rw [h]; exact List.mem_cons_self
    · obtain ⟨h1, h2⟩ := List.mem_filter.mp h
      have h3 : i + 2 ≤ q.1 := Nat.le_of_ble_eq_true h2
      refine List.mem_cons_of_mem _ (List.mem_filter.mpr ⟨h1, ?_⟩)
      simp; exact ⟨by omega, by omega, Or.inl (by omega)⟩
theorem lv_less {ls : Array Slot} {n : Nat} {L L' : List (Nat × Value)} (h : lv_has ls n L) (hs : ∀ q ∈ L', q ∈ L) : lv_has ls n L' := ⟨h.1, h.2.1, fun q hq => h.2.2 q (hs q hq)⟩
/-- whether an index lies in an array of n -/
def inb (i : Int32) (n : Nat) : Bool := decide (0 ≤ i.toInt) && decide (i.toInt < n)
theorem inb_in {i : Int32} {n : Nat} (h : inb i n = true) : vp_in i n := by
  unfold inb at h
  rw [Bool.and_eq_true, decide_eq_true_eq, decide_eq_true_eq] at h
  exact vp_in_iff.mpr h
def ix (i : Int32) : Nat := i.toNatClampNeg
/-- calls in the pure text -/
def bnd {A P B : Type} (q : Option (A × P)) (K : A → P → Option B) : Option B := match q with
  | none => none
  | some x => K x.1 x.2
theorem bnd_some {A P B : Type} (x : A) (y : P) (K : A → P → Option B) : bnd (some (x, y)) K = K x y := rfl
section Rows
variable {E : Cx} {V : Ev} {l : Launch} {cc : ByteArray} {own : String} {nL kR rc rs nc ns N : Nat} {ret : Option FieldType} {G : Nat → va_E} {pc : Nat} {lv : List (Nat × Value)} {st : List Value}
theorem q_iadd (hE : CX E V l cc own nL kR rc rs ret) {x y : Int32} (hd : decode cc pc = .ok (.iadd, 1)) (kk : PW E V nc ns N G (pc + 1) lv (.int (x + y) :: st)) : PW E V nc ns N G pc lv (.int y :: .int x :: st) := by
  obtain ⟨p, l0, e, R, s, m, args, below, meth, c, Q⟩ := E
  intro H locs ls h1 h2 h3 h4
  exact lv_iadd hE.1 hE.2.1 hd (kk H locs ls h1 h2 h3 h4)
theorem q_isub (hE : CX E V l cc own nL kR rc rs ret) {x y : Int32} (hd : decode cc pc = .ok (.isub, 1)) (kk : PW E V nc ns N G (pc + 1) lv (.int (x - y) :: st)) : PW E V nc ns N G pc lv (.int y :: .int x :: st) := by
  obtain ⟨p, l0, e, R, s, m, args, below, meth, c, Q⟩ := E
  intro H locs ls h1 h2 h3 h4
  exact lv_isub hE.1 hE.2.1 hd (kk H locs ls h1 h2 h3 h4)
theorem q_imul (hE : CX E V l cc own nL kR rc rs ret) {x y : Int32} (hd : decode cc pc = .ok (.imul, 1)) (kk : PW E V nc ns N G (pc + 1) lv (.int (x * y) :: st)) : PW E V nc ns N G pc lv (.int y :: .int x :: st) := by
  obtain ⟨p, l0, e, R, s, m, args, below, meth, c, Q⟩ := E
  intro H locs ls h1 h2 h3 h4
  exact lv_imul hE.1 hE.2.1 hd (kk H locs ls h1 h2 h3 h4)
theorem q_iand (hE : CX E V l cc own nL kR rc rs ret) {x y : Int32} (hd : decode cc pc = .ok (.iand, 1)) (kk : PW E V nc ns N G (pc + 1) lv (.int (x &&& y) :: st)) : PW E V nc ns N G pc lv (.int y :: .int x :: st) := by
  obtain ⟨p, l0, e, R, s, m, args, below, meth, c, Q⟩ := E
  intro H locs ls h1 h2 h3 h4
  exact lv_iand hE.1 hE.2.1 hd (kk H locs ls h1 h2 h3 h4)
theorem q_ior (hE : CX E V l cc own nL kR rc rs ret) {x y : Int32} (hd : decode cc pc = .ok (.ior, 1)) (kk : PW E V nc ns N G (pc + 1) lv (.int (x ||| y) :: st)) : PW E V nc ns N G pc lv (.int y :: .int x :: st) := by
  obtain ⟨p, l0, e, R, s, m, args, below, meth, c, Q⟩ := E
  intro H locs ls h1 h2 h3 h4
  exact lv_ior hE.1 hE.2.1 hd (kk H locs ls h1 h2 h3 h4)
theorem q_ixor (hE : CX E V l cc own nL kR rc rs ret) {x y : Int32} (hd : decode cc pc = .ok (.ixor, 1)) (kk : PW E V nc ns N G (pc + 1) lv (.int (x ^^^ y) :: st)) : PW E V nc ns N G pc lv (.int y :: .int x :: st) := by
  obtain ⟨p, l0, e, R, s, m, args, below, meth, c, Q⟩ := E
  intro H locs ls h1 h2 h3 h4
  exact lv_ixor hE.1 hE.2.1 hd (kk H locs ls h1 h2 h3 h4)
theorem q_ishl (hE : CX E V l cc own nL kR rc rs ret) {x y : Int32} (hd : decode cc pc = .ok (.ishl, 1)) (kk : PW E V nc ns N G (pc + 1) lv (.int (x <<< (y &&& 31)) :: st)) : PW E V nc ns N G pc lv (.int y :: .int x :: st) := by
  obtain ⟨p, l0, e, R, s, m, args, below, meth, c, Q⟩ := E
  intro H locs ls h1 h2 h3 h4
  exact lv_ishl hE.1 hE.2.1 hd (kk H locs ls h1 h2 h3 h4)
theorem q_ishr (hE : CX E V l cc own nL kR rc rs ret) {x y : Int32} (hd : decode cc pc = .ok (.ishr, 1)) (kk : PW E V nc ns N G (pc + 1) lv (.int (x >>> (y &&& 31)) :: st)) : PW E V nc ns N G pc lv (.int y :: .int x :: st) := by
  obtain ⟨p, l0, e, R, s, m, args, below, meth, c, Q⟩ := E
  intro H locs ls h1 h2 h3 h4
  exact lv_ishr hE.1 hE.2.1 hd (kk H locs ls h1 h2 h3 h4)
theorem q_land (hE : CX E V l cc own nL kR rc rs ret) {x y : Int64} (hd : decode cc pc = .ok (.land, 1)) (kk : PW E V nc ns N G (pc + 1) lv (.long (x &&& y) :: st)) : PW E V nc ns N G pc lv (.long y :: .long x :: st) := by
  obtain ⟨p, l0, e, R, s, m, args, below, meth, c, Q⟩ := E
  intro H locs ls h1 h2 h3 h4
  exact lv_land hE.1 hE.2.1 hd (kk H locs ls h1 h2 h3 h4)
theorem q_lor (hE : CX E V l cc own nL kR rc rs ret) {x y : Int64} (hd : decode cc pc = .ok (.lor, 1)) (kk : PW E V nc ns N G (pc + 1) lv (.long (x ||| y) :: st)) : PW E V nc ns N G pc lv (.long y :: .long x :: st) := by
  obtain ⟨p, l0, e, R, s, m, args, below, meth, c, Q⟩ := E
  intro H locs ls h1 h2 h3 h4
  exact lv_lor hE.1 hE.2.1 hd (kk H locs ls h1 h2 h3 h4)
theorem q_lshl (hE : CX E V l cc own nL kR rc rs ret) {x : Int64} {y : Int32} (hd : decode cc pc = .ok (.lshl, 1)) (kk : PW E V nc ns N G (pc + 1) lv (.long (x <<< (y.toInt64 &&& 63)) :: st)) : PW E V nc ns N G pc lv (.int y :: .long x :: st) := by
  obtain ⟨p, l0, e, R, s, m, args, below, meth, c, Q⟩ := E
  intro H locs ls h1 h2 h3 h4
  exact lv_lshl hE.1 hE.2.1 hd rfl (kk H locs ls h1 h2 h3 h4)
theorem q_lcmp (hE : CX E V l cc own nL kR rc rs ret) {x y : Int64} (hd : decode cc pc = .ok (.lcmp, 1)) (kk : PW E V nc ns N G (pc + 1) lv (.int (lg_cmp x y) :: st)) : PW E V nc ns N G pc lv (.long y :: .long x :: st) := by
  obtain ⟨p, l0, e, R, s, m, args, below, meth, c, Q⟩ := E
  intro H locs ls h1 h2 h3 h4
  exact W.lcmp hE.1 hE.2.1 hd (kk H locs ls h1 h2 h3 h4)
theorem q_ineg (hE : CX E V l cc own nL kR rc rs ret) {x : Int32} (hd : decode cc pc = .ok (.ineg, 1)) (kk : PW E V nc ns N G (pc + 1) lv (.int (-x) :: st)) : PW E V nc ns N G pc lv (.int x :: st) := by
  obtain ⟨p, l0, e, R, s, m, args, below, meth, c, Q⟩ := E
  intro H locs ls h1 h2 h3 h4
  exact lv_ineg hE.1 hE.2.1 hd (kk H locs ls h1 h2 h3 h4)
theorem q_i2l (hE : CX E V l cc own nL kR rc rs ret) {x : Int32} (hd : decode cc pc = .ok (.i2l, 1)) (kk : PW E V nc ns N G (pc + 1) lv (.long (x.toInt64) :: st)) : PW E V nc ns N G pc lv (.int x :: st) := by
  obtain ⟨p, l0, e, R, s, m, args, below, meth, c, Q⟩ := E
  intro H locs ls h1 h2 h3 h4
  exact lv_i2l hE.1 hE.2.1 hd rfl (kk H locs ls h1 h2 h3 h4)
theorem q_l2i (hE : CX E V l cc own nL kR rc rs ret) {x : Int64} (hd : decode cc pc = .ok (.l2i, 1)) (kk : PW E V nc ns N G (pc + 1) lv (.int (x.toInt32) :: st)) : PW E V nc ns N G pc lv (.long x :: st) := by
  obtain ⟨p, l0, e, R, s, m, args, below, meth, c, Q⟩ := E
  intro H locs ls h1 h2 h3 h4
  exact lv_l2i hE.1 hE.2.1 hd rfl (kk H locs ls h1 h2 h3 h4)
theorem q_i2b (hE : CX E V l cc own nL kR rc rs ret) {x : Int32} (hd : decode cc pc = .ok (.i2b, 1)) (kk : PW E V nc ns N G (pc + 1) lv (.int (x.toInt8.toInt32) :: st)) : PW E V nc ns N G pc lv (.int x :: st) := by
  obtain ⟨p, l0, e, R, s, m, args, below, meth, c, Q⟩ := E
  intro H locs ls h1 h2 h3 h4
  exact lv_i2b hE.1 hE.2.1 hd rfl (kk H locs ls h1 h2 h3 h4)
theorem q_i2s (hE : CX E V l cc own nL kR rc rs ret) {x : Int32} (hd : decode cc pc = .ok (.i2s, 1)) (kk : PW E V nc ns N G (pc + 1) lv (.int (x.toInt16.toInt32) :: st)) : PW E V nc ns N G pc lv (.int x :: st) := by
  obtain ⟨p, l0, e, R, s, m, args, below, meth, c, Q⟩ := E
  intro H locs ls h1 h2 h3 h4
  exact lv_i2s hE.1 hE.2.1 hd rfl (kk H locs ls h1 h2 h3 h4)
theorem q_i2c (hE : CX E V l cc own nL kR rc rs ret) {x : Int32} (hd : decode cc pc = .ok (.i2c, 1)) (kk : PW E V nc ns N G (pc + 1) lv (.int ((x.toUInt32 % 65536).toInt32) :: st)) : PW E V nc ns N G pc lv (.int x :: st) := by
  obtain ⟨p, l0, e, R, s, m, args, below, meth, c, Q⟩ := E
  intro H locs ls h1 h2 h3 h4
  exact lv_i2c hE.1 hE.2.1 hd rfl (kk H locs ls h1 h2 h3 h4)
theorem q_idiv (hE : CX E V l cc own nL kR rc rs ret) {x y : Int32} {B : Type} {A : Option B} {r : B} (hd : decode cc pc = .ok (.idiv, 1)) (hm : (if y = 0 then none else A) = some r) (kk : A = some r → PW E V nc ns N G (pc + 1) lv (.int (x / y) :: st)) : PW E V nc ns N G pc lv (.int y :: .int x :: st) := by
  obtain ⟨p, l0, e, R, s, m, args, below, meth, c, Q⟩ := E
  intro H locs ls h1 h2 h3 h4
  by_cases hy : y = 0
  · rw [if_pos hy] at hm; cases hm
  · rw [if_neg hy] at hm
    exact lv_idiv hE.1 hE.2.1 hd hy (kk hm H locs ls h1 h2 h3 h4)
theorem q_irem (hE : CX E V l cc own nL kR rc rs ret) {x y : Int32} {B : Type} {A : Option B} {r : B} (hd : decode cc pc = .ok (.irem, 1)) (hm : (if y = 0 then none else A) = some r) (kk : A = some r → PW E V nc ns N G (pc + 1) lv (.int (x - x / y * y) :: st)) : PW E V nc ns N G pc lv (.int y :: .int x :: st) := by
  obtain ⟨p, l0, e, R, s, m, args, below, meth, c, Q⟩ := E
  intro H locs ls h1 h2 h3 h4
  by_cases hy : y = 0
  · rw [if_pos hy] at hm; cases hm
  · rw [if_neg hy] at hm
    exact lv_irem hE.1 hE.2.1 hd hy (kk hm H locs ls h1 h2 h3 h4)
theorem q_iconst (hE : CX E V l cc own nL kR rc rs ret) {n : Int} {v : Int32} (hd : decode cc pc = .ok (.iconst n, 1)) (hv : Int32.ofInt n = v) (kk : PW E V nc ns N G (pc + 1) lv (.int v :: st)) : PW E V nc ns N G pc lv st := by
  obtain ⟨p, l0, e, R, s, m, args, below, meth, c, Q⟩ := E
  intro H locs ls h1 h2 h3 h4
  exact lv_iconst hE.1 hE.2.1 hd hv (kk H locs ls h1 h2 h3 h4)
theorem q_bipush (hE : CX E V l cc own nL kR rc rs ret) {n : Int} {v : Int32} (hd : decode cc pc = .ok (.bipush n, 2)) (hv : (Int8.ofInt n).toInt32 = v) (kk : PW E V nc ns N G (pc + 2) lv (.int v :: st)) : PW E V nc ns N G pc lv st := by
  obtain ⟨p, l0, e, R, s, m, args, below, meth, c, Q⟩ := E
  intro H locs ls h1 h2 h3 h4
  exact lv_bipush hE.1 hE.2.1 hd hv (kk H locs ls h1 h2 h3 h4)
theorem q_sipush (hE : CX E V l cc own nL kR rc rs ret) {n : Int} {v : Int32} (hd : decode cc pc = .ok (.sipush n, 3)) (hv : (Int16.ofInt n).toInt32 = v) (kk : PW E V nc ns N G (pc + 3) lv (.int v :: st)) : PW E V nc ns N G pc lv st := by
  obtain ⟨p, l0, e, R, s, m, args, below, meth, c, Q⟩ := E
  intro H locs ls h1 h2 h3 h4
  exact lv_sipush hE.1 hE.2.1 hd hv (kk H locs ls h1 h2 h3 h4)
theorem q_lconst (hE : CX E V l cc own nL kR rc rs ret) {n : Fin 2} {v : Int64} (hd : decode cc pc = .ok (.lconst n, 1)) (hv : Int64.ofNat (n : Nat) = v) (kk : PW E V nc ns N G (pc + 1) lv (.long v :: st)) : PW E V nc ns N G pc lv st := by
  obtain ⟨p, l0, e, R, s, m, args, below, meth, c, Q⟩ := E
  intro H locs ls h1 h2 h3 h4
  exact lv_lconst hE.1 hE.2.1 hd hv (kk H locs ls h1 h2 h3 h4)
theorem q_ldc (hE : CX E V l cc own nL kR rc rs ret) {index : Nat} {v : Int32} (hd : decode cc pc = .ok (.ldc index, 2)) (hw : Cond.constant own index v ∈ TG) (kk : PW E V nc ns N G (pc + 2) lv (.int v :: st)) : PW E V nc ns N G pc lv st := by
  obtain ⟨p, l0, e, R, s, m, args, below, meth, c, Q⟩ := E
  intro H locs ls h1 h2 h3 h4
  exact lv_ldc hE.1 hE.2.1 hE.2.2.2.1 (hE.2.2.2.2.1 _ hw) hd (kk H locs ls h1 h2 h3 h4)
theorem q_ldc2 (hE : CX E V l cc own nL kR rc rs ret) {index : Nat} {v : Int64} (hd : decode cc pc = .ok (.ldc2_w index, 3)) (hw : Cond.constantLong own index v ∈ TG) (kk : PW E V nc ns N G (pc + 3) lv (.long v :: st)) : PW E V nc ns N G pc lv st := by
  obtain ⟨p, l0, e, R, s, m, args, below, meth, c, Q⟩ := E
  intro H locs ls h1 h2 h3 h4
  exact lv_ldc2 hE.1 hE.2.1 hE.2.2.2.1 (hE.2.2.2.2.1 _ hw) hd (kk H locs ls h1 h2 h3 h4)
theorem q_null (hE : CX E V l cc own nL kR rc rs ret)  (hd : decode cc pc = .ok (.aconst_null, 1)) (kk : PW E V nc ns N G (pc + 1) lv (.null :: st)) : PW E V nc ns N G pc lv st := by
  obtain ⟨p, l0, e, R, s, m, args, below, meth, c, Q⟩ := E
  intro H locs ls h1 h2 h3 h4
  exact lv_null hE.1 hE.2.1 hd (kk H locs ls h1 h2 h3 h4)
theorem q_iload_n (hE : CX E V l cc own nL kR rc rs ret) (j : Nat) {i : Fin 4} {i0 : Nat} {x : Int32} (hd : decode cc pc = .ok (.iload_n i, 1)) (hi : (i : Nat) = i0) (hl : lv[j]? = some (i0, .int x)) (kk : PW E V nc ns N G (pc + 1) lv (.int x :: st)) : PW E V nc ns N G pc lv st := by
  obtain ⟨p, l0, e, R, s, m, args, below, meth, c, Q⟩ := E
  intro H locs ls h1 h2 h3 h4
  exact lv_iload_n hE.1 hE.2.1 hd hi (lv_at h4 j hl) (kk H locs ls h1 h2 h3 h4)
theorem q_iload (hE : CX E V l cc own nL kR rc rs ret) (j : Nat) {i : Nat} {x : Int32} (hd : decode cc pc = .ok (.iload i, 2)) (hl : lv[j]? = some (i, .int x)) (kk : PW E V nc ns N G (pc + 2) lv (.int x :: st)) : PW E V nc ns N G pc lv st := by
  obtain ⟨p, l0, e, R, s, m, args, below, meth, c, Q⟩ := E
  intro H locs ls h1 h2 h3 h4
  exact lv_iload hE.1 hE.2.1 hd (lv_at h4 j hl) (kk H locs ls h1 h2 h3 h4)
theorem q_lload_n (hE : CX E V l cc own nL kR rc rs ret) (j : Nat) {i : Fin 4} {i0 : Nat} {x : Int64} (hd : decode cc pc = .ok (.lload_n i, 1)) (hi : (i : Nat) = i0) (hl : lv[j]? = some (i0, .long x)) (kk : PW E V nc ns N G (pc + 1) lv (.long x :: st)) : PW E V nc ns N G pc lv st := by
  obtain ⟨p, l0, e, R, s, m, args, below, meth, c, Q⟩ := E
  intro H locs ls h1 h2 h3 h4
  exact lv_lload_n hE.1 hE.2.1 hd hi (lv_at h4 j hl) (kk H locs ls h1 h2 h3 h4)
theorem q_lload (hE : CX E V l cc own nL kR rc rs ret) (j : Nat) {i : Nat} {x : Int64} (hd : decode cc pc = .ok (.lload i, 2)) (hl : lv[j]? = some (i, .long x)) (kk : PW E V nc ns N G (pc + 2) lv (.long x :: st)) : PW E V nc ns N G pc lv st := by
  obtain ⟨p, l0, e, R, s, m, args, below, meth, c, Q⟩ := E
  intro H locs ls h1 h2 h3 h4
  exact lv_lload hE.1 hE.2.1 hd (lv_at h4 j hl) (kk H locs ls h1 h2 h3 h4)
theorem q_aload_n (hE : CX E V l cc own nL kR rc rs ret) (j : Nat) {i : Fin 4} {i0 : Nat} {x : Nat} (hd : decode cc pc = .ok (.aload_n i, 1)) (hi : (i : Nat) = i0) (hl : lv[j]? = some (i0, rf V x)) (kk : PW E V nc ns N G (pc + 1) lv (rf V x :: st)) : PW E V nc ns N G pc lv st := by
  obtain ⟨p, l0, e, R, s, m, args, below, meth, c, Q⟩ := E
  intro H locs ls h1 h2 h3 h4
  exact lv_aload_n hE.1 hE.2.1 hd hi (lv_at h4 j hl) (kk H locs ls h1 h2 h3 h4)
theorem q_aload (hE : CX E V l cc own nL kR rc rs ret) (j : Nat) {i : Nat} {x : Nat} (hd : decode cc pc = .ok (.aload i, 2)) (hl : lv[j]? = some (i, rf V x)) (kk : PW E V nc ns N G (pc + 2) lv (rf V x :: st)) : PW E V nc ns N G pc lv st := by
  obtain ⟨p, l0, e, R, s, m, args, below, meth, c, Q⟩ := E
  intro H locs ls h1 h2 h3 h4
  exact lv_aload hE.1 hE.2.1 hd (lv_at h4 j hl) (kk H locs ls h1 h2 h3 h4)
theorem q_aload_nS (hE : CX E V l cc own nL kR rc rs ret) (j : Nat) {i : Fin 4} {i0 : Nat} {x : Nat} (hd : decode cc pc = .ok (.aload_n i, 1)) (hi : (i : Nat) = i0) (hl : lv[j]? = some (i0, sf V x)) (kk : PW E V nc ns N G (pc + 1) lv (sf V x :: st)) : PW E V nc ns N G pc lv st := by
  obtain ⟨p, l0, e, R, s, m, args, below, meth, c, Q⟩ := E
  intro H locs ls h1 h2 h3 h4
  exact lv_aload_n hE.1 hE.2.1 hd hi (lv_at h4 j hl) (kk H locs ls h1 h2 h3 h4)
theorem q_aloadS (hE : CX E V l cc own nL kR rc rs ret) (j : Nat) {i : Nat} {x : Nat} (hd : decode cc pc = .ok (.aload i, 2)) (hl : lv[j]? = some (i, sf V x)) (kk : PW E V nc ns N G (pc + 2) lv (sf V x :: st)) : PW E V nc ns N G pc lv st := by
  obtain ⟨p, l0, e, R, s, m, args, below, meth, c, Q⟩ := E
  intro H locs ls h1 h2 h3 h4
  exact lv_aload hE.1 hE.2.1 hd (lv_at h4 j hl) (kk H locs ls h1 h2 h3 h4)
theorem q_istore_n (hE : CX E V l cc own nL kR rc rs ret) (lv' : List (Nat × Value)) {i : Fin 4} {i0 : Nat} {x : Int32} (hd : decode cc pc = .ok (.istore_n i, 1)) (hi : (i : Nat) = i0) (hn : Nat.ble (i0 + 1) nL = true) (hl : lst i0 (.int x) lv = lv') (kk : PW E V nc ns N G (pc + 1) lv' st) : PW E V nc ns N G pc lv (.int x :: st) := by
  obtain ⟨p, l0, e, R, s, m, args, below, meth, c, Q⟩ := E
  intro H locs ls h1 h2 h3 h4
  refine lv_istore_n hE.1 hE.2.1 hd hi h4 (by rw [hE.2.2.1]; exact Nat.le_of_ble_eq_true hn) rfl (fun ls' h5 => ?_)
  exact kk H locs ls' h1 h2 h3 (lv_less h5 (fun q hq => lst_in (show q ∈ lst i0 (.int x) lv from by rw [hl]; exact hq)))
theorem q_istore (hE : CX E V l cc own nL kR rc rs ret) (lv' : List (Nat × Value)) {i0 : Nat} {x : Int32} (hd : decode cc pc = .ok (.istore i0, 2)) (hn : Nat.ble (i0 + 1) nL = true) (hl : lst i0 (.int x) lv = lv') (kk : PW E V nc ns N G (pc + 2) lv' st) : PW E V nc ns N G pc lv (.int x :: st) := by
  obtain ⟨p, l0, e, R, s, m, args, below, meth, c, Q⟩ := E
  intro H locs ls h1 h2 h3 h4
  refine lv_istore hE.1 hE.2.1 hd h4 (by rw [hE.2.2.1]; exact Nat.le_of_ble_eq_true hn) rfl (fun ls' h5 => ?_)
  exact kk H locs ls' h1 h2 h3 (lv_less h5 (fun q hq => lst_in (show q ∈ lst i0 (.int x) lv from by rw [hl]; exact hq)))
theorem q_astore_n (hE : CX E V l cc own nL kR rc rs ret) (lv' : List (Nat × Value)) {i : Fin 4} {i0 : Nat} {x : Nat} (hd : decode cc pc = .ok (.astore_n i, 1)) (hi : (i : Nat) = i0) (hn : Nat.ble (i0 + 1) nL = true) (hl : lst i0 (rf V x) lv = lv') (kk : PW E V nc ns N G (pc + 1) lv' st) : PW E V nc ns N G pc lv (rf V x :: st) := by
  obtain ⟨p, l0, e, R, s, m, args, below, meth, c, Q⟩ := E
  intro H locs ls h1 h2 h3 h4
  refine lv_astore_n hE.1 hE.2.1 hd hi h4 (by rw [hE.2.2.1]; exact Nat.le_of_ble_eq_true hn) rfl (fun ls' h5 => ?_)
  exact kk H locs ls' h1 h2 h3 (lv_less h5 (fun q hq => lst_in (show q ∈ lst i0 (rf V x) lv from by rw [hl]; exact hq)))
theorem q_astore (hE : CX E V l cc own nL kR rc rs ret) (lv' : List (Nat × Value)) {i0 : Nat} {x : Nat} (hd : decode cc pc = .ok (.astore i0, 2)) (hn : Nat.ble (i0 + 1) nL = true) (hl : lst i0 (rf V x) lv = lv') (kk : PW E V nc ns N G (pc + 2) lv' st) : PW E V nc ns N G pc lv (rf V x :: st) := by
  obtain ⟨p, l0, e, R, s, m, args, below, meth, c, Q⟩ := E
  intro H locs ls h1 h2 h3 h4
  refine lv_astore hE.1 hE.2.1 hd h4 (by rw [hE.2.2.1]; exact Nat.le_of_ble_eq_true hn) rfl (fun ls' h5 => ?_)
  exact kk H locs ls' h1 h2 h3 (lv_less h5 (fun q hq => lst_in (show q ∈ lst i0 (rf V x) lv from by rw [hl]; exact hq)))
theorem q_lstore_n (hE : CX E V l cc own nL kR rc rs ret) (lv' : List (Nat × Value)) {i : Fin 4} {i0 : Nat} {x : Int64} (hd : decode cc pc = .ok (.lstore_n i, 1)) (hi : (i : Nat) = i0) (hn : Nat.ble (i0 + 2) nL = true) (hl : lst2 i0 (.long x) lv = lv') (kk : PW E V nc ns N G (pc + 1) lv' st) : PW E V nc ns N G pc lv (.long x :: st) := by
  obtain ⟨p, l0, e, R, s, m, args, below, meth, c, Q⟩ := E
  intro H locs ls h1 h2 h3 h4
  refine lv_lstore_n hE.1 hE.2.1 hd hi h4 (by rw [hE.2.2.1]; exact Nat.le_of_ble_eq_true hn) rfl (fun ls' h5 => ?_)
  exact kk H locs ls' h1 h2 h3 (lv_less h5 (fun q hq => lst2_in (by rw [hl]; exact hq)))
theorem q_lstore (hE : CX E V l cc own nL kR rc rs ret) (lv' : List (Nat × Value)) {i0 : Nat} {x : Int64} (hd : decode cc pc = .ok (.lstore i0, 2)) (hn : Nat.ble (i0 + 2) nL = true) (hl : lst2 i0 (.long x) lv = lv') (kk : PW E V nc ns N G (pc + 2) lv' st) : PW E V nc ns N G pc lv (.long x :: st) := by
  obtain ⟨p, l0, e, R, s, m, args, below, meth, c, Q⟩ := E
  intro H locs ls h1 h2 h3 h4
  refine lv_lstore hE.1 hE.2.1 hd h4 (by rw [hE.2.2.1]; exact Nat.le_of_ble_eq_true hn) rfl (fun ls' h5 => ?_)
  exact kk H locs ls' h1 h2 h3 (lv_less h5 (fun q hq => lst2_in (by rw [hl]; exact hq)))
theorem q_iinc (hE : CX E V l cc own nL kR rc rs ret) (lv' : List (Nat × Value)) (j : Nat) {i0 : Nat} {n : Int} {x v : Int32} (hd : decode cc pc = .ok (.iinc i0 n, 3)) (hk : lv[j]? = some (i0, .int x)) (hv : Int32.ofInt n = v) (hn : Nat.ble (i0 + 1) nL = true) (hl : lst i0 (.int (x + v)) lv = lv') (kk : PW E V nc ns N G (pc + 3) lv' st) : PW E V nc ns N G pc lv st := by
  obtain ⟨p, l0, e, R, s, m, args, below, meth, c, Q⟩ := E
  intro H locs ls h1 h2 h3 h4
  subst hv
  refine lv_iinc hE.1 hE.2.1 hd h4 hk rfl (by rw [hE.2.2.1]; exact Nat.le_of_ble_eq_true hn) rfl (fun ls' h5 => ?_)
  exact kk H locs ls' h1 h2 h3 (lv_less h5 (fun q hq => lst_in (by rw [hl]; exact hq)))
theorem q_dup (hE : CX E V l cc own nL kR rc rs ret) {v : Value} (hd : decode cc pc = .ok (.dup, 1)) (hv : v.category = 1) (kk : PW E V nc ns N G (pc + 1) lv (v :: v :: st)) : PW E V nc ns N G pc lv (v :: st) := by
  obtain ⟨p, l0, e, R, s, m, args, below, meth, c, Q⟩ := E
  intro H locs ls h1 h2 h3 h4
  exact lv_dup hE.1 hE.2.1 hd hv (kk H locs ls h1 h2 h3 h4)
theorem q_pop (hE : CX E V l cc own nL kR rc rs ret) {v : Value} (hd : decode cc pc = .ok (.pop, 1)) (hv : v.category = 1) (kk : PW E V nc ns N G (pc + 1) lv st) : PW E V nc ns N G pc lv (v :: st) := by
  obtain ⟨p, l0, e, R, s, m, args, below, meth, c, Q⟩ := E
  intro H locs ls h1 h2 h3 h4
  exact lv_pop hE.1 hE.2.1 hd hv (kk H locs ls h1 h2 h3 h4)
theorem q_dup_x1 (hE : CX E V l cc own nL kR rc rs ret) {v u : Value} (hd : decode cc pc = .ok (.dup_x1, 1)) (hv : v.category = 1) (hu : u.category = 1) (kk : PW E V nc ns N G (pc + 1) lv (v :: u :: v :: st)) : PW E V nc ns N G pc lv (v :: u :: st) := by
  obtain ⟨p, l0, e, R, s, m, args, below, meth, c, Q⟩ := E
  intro H locs ls h1 h2 h3 h4
  exact lv_dup_x1 hE.1 hE.2.1 hd hv hu (kk H locs ls h1 h2 h3 h4)
theorem q_dup2 (hE : CX E V l cc own nL kR rc rs ret) {v u : Value} (hd : decode cc pc = .ok (.dup2, 1)) (hv : v.category = 1) (hu : u.category = 1) (kk : PW E V nc ns N G (pc + 1) lv (v :: u :: v :: u :: st)) : PW E V nc ns N G pc lv (v :: u :: st) := by
  obtain ⟨p, l0, e, R, s, m, args, below, meth, c, Q⟩ := E
  intro H locs ls h1 h2 h3 h4
  exact lv_dup2_11 hE.1 hE.2.1 hd hv hu (kk H locs ls h1 h2 h3 h4)
theorem q_if_eq (hE : CX E V l cc own nL kR rc rs ret) {x : Int32} {off : Int} {tgt : Nat} {B : Type} {A1 A2 : Option B} {r : B} (hd : decode cc pc = .ok (.ifCond .eq off, 3)) (ht : (pc : Int) + off = (tgt : Int)) (hm : (if x = 0 then A1 else A2) = some r) (kt : x = 0 → A1 = some r → PW E V nc ns N G tgt lv st) (kf : ¬ x = 0 → A2 = some r → PW E V nc ns N G (pc + 3) lv st) : PW E V nc ns N G pc lv (.int x :: st) := by
  obtain ⟨p, l0, e, R, s, m, args, below, meth, c, Q⟩ := E
  intro H locs ls h1 h2 h3 h4
  exact lv_if_eq hE.1 hE.2.1 hd ht (fun hc => by rw [if_pos hc] at hm; exact kt hc hm H locs ls h1 h2 h3 h4) (fun hc => by rw [if_neg hc] at hm; exact kf hc hm H locs ls h1 h2 h3 h4)
theorem q_icmp_eq (hE : CX E V l cc own nL kR rc rs ret) {x y : Int32} {off : Int} {tgt : Nat} {B : Type} {A1 A2 : Option B} {r : B} (hd : decode cc pc = .ok (.if_icmp .eq off, 3)) (ht : (pc : Int) + off = (tgt : Int)) (hm : (if x = y then A1 else A2) = some r) (kt : x = y → A1 = some r → PW E V nc ns N G tgt lv st) (kf : ¬ x = y → A2 = some r → PW E V nc ns N G (pc + 3) lv st) : PW E V nc ns N G pc lv (.int y :: .int x :: st) := by
  obtain ⟨p, l0, e, R, s, m, args, below, meth, c, Q⟩ := E
  intro H locs ls h1 h2 h3 h4
  exact lv_icmp_eq hE.1 hE.2.1 hd ht (fun hc => by rw [if_pos hc] at hm; exact kt hc hm H locs ls h1 h2 h3 h4) (fun hc => by rw [if_neg hc] at hm; exact kf hc hm H locs ls h1 h2 h3 h4)
theorem q_if_lt (hE : CX E V l cc own nL kR rc rs ret) {x : Int32} {off : Int} {tgt : Nat} {B : Type} {A1 A2 : Option B} {r : B} (hd : decode cc pc = .ok (.ifCond .lt off, 3)) (ht : (pc : Int) + off = (tgt : Int)) (hm : (if x < 0 then A1 else A2) = some r) (kt : x < 0 → A1 = some r → PW E V nc ns N G tgt lv st) (kf : ¬ x < 0 → A2 = some r → PW E V nc ns N G (pc + 3) lv st) : PW E V nc ns N G pc lv (.int x :: st) := by
  obtain ⟨p, l0, e, R, s, m, args, below, meth, c, Q⟩ := E
  intro H locs ls h1 h2 h3 h4
  exact lv_if_lt hE.1 hE.2.1 hd ht (fun hc => by rw [if_pos hc] at hm; exact kt hc hm H locs ls h1 h2 h3 h4) (fun hc => by rw [if_neg hc] at hm; exact kf hc hm H locs ls h1 h2 h3 h4)
theorem q_icmp_lt (hE : CX E V l cc own nL kR rc rs ret) {x y : Int32} {off : Int} {tgt : Nat} {B : Type} {A1 A2 : Option B} {r : B} (hd : decode cc pc = .ok (.if_icmp .lt off, 3)) (ht : (pc : Int) + off = (tgt : Int)) (hm : (if x < y then A1 else A2) = some r) (kt : x < y → A1 = some r → PW E V nc ns N G tgt lv st) (kf : ¬ x < y → A2 = some r → PW E V nc ns N G (pc + 3) lv st) : PW E V nc ns N G pc lv (.int y :: .int x :: st) := by
  obtain ⟨p, l0, e, R, s, m, args, below, meth, c, Q⟩ := E
  intro H locs ls h1 h2 h3 h4
  exact lv_icmp_lt hE.1 hE.2.1 hd ht (fun hc => by rw [if_pos hc] at hm; exact kt hc hm H locs ls h1 h2 h3 h4) (fun hc => by rw [if_neg hc] at hm; exact kf hc hm H locs ls h1 h2 h3 h4)
theorem q_if_ge (hE : CX E V l cc own nL kR rc rs ret) {x : Int32} {off : Int} {tgt : Nat} {B : Type} {A1 A2 : Option B} {r : B} (hd : decode cc pc = .ok (.ifCond .ge off, 3)) (ht : (pc : Int) + off = (tgt : Int)) (hm : (if 0 ≤ x then A1 else A2) = some r) (kt : 0 ≤ x → A1 = some r → PW E V nc ns N G tgt lv st) (kf : ¬ 0 ≤ x → A2 = some r → PW E V nc ns N G (pc + 3) lv st) : PW E V nc ns N G pc lv (.int x :: st) := by
  obtain ⟨p, l0, e, R, s, m, args, below, meth, c, Q⟩ := E
  intro H locs ls h1 h2 h3 h4
  exact lv_if_ge hE.1 hE.2.1 hd ht (fun hc => by rw [if_pos hc] at hm; exact kt hc hm H locs ls h1 h2 h3 h4) (fun hc => by rw [if_neg hc] at hm; exact kf hc hm H locs ls h1 h2 h3 h4)
theorem q_icmp_ge (hE : CX E V l cc own nL kR rc rs ret) {x y : Int32} {off : Int} {tgt : Nat} {B : Type} {A1 A2 : Option B} {r : B} (hd : decode cc pc = .ok (.if_icmp .ge off, 3)) (ht : (pc : Int) + off = (tgt : Int)) (hm : (if y ≤ x then A1 else A2) = some r) (kt : y ≤ x → A1 = some r → PW E V nc ns N G tgt lv st) (kf : ¬ y ≤ x → A2 = some r → PW E V nc ns N G (pc + 3) lv st) : PW E V nc ns N G pc lv (.int y :: .int x :: st) := by
  obtain ⟨p, l0, e, R, s, m, args, below, meth, c, Q⟩ := E
  intro H locs ls h1 h2 h3 h4
  exact lv_icmp_ge hE.1 hE.2.1 hd ht (fun hc => by rw [if_pos hc] at hm; exact kt hc hm H locs ls h1 h2 h3 h4) (fun hc => by rw [if_neg hc] at hm; exact kf hc hm H locs ls h1 h2 h3 h4)
theorem q_if_gt (hE : CX E V l cc own nL kR rc rs ret) {x : Int32} {off : Int} {tgt : Nat} {B : Type} {A1 A2 : Option B} {r : B} (hd : decode cc pc = .ok (.ifCond .gt off, 3)) (ht : (pc : Int) + off = (tgt : Int)) (hm : (if 0 < x then A1 else A2) = some r) (kt : 0 < x → A1 = some r → PW E V nc ns N G tgt lv st) (kf : ¬ 0 < x → A2 = some r → PW E V nc ns N G (pc + 3) lv st) : PW E V nc ns N G pc lv (.int x :: st) := by
  obtain ⟨p, l0, e, R, s, m, args, below, meth, c, Q⟩ := E
  intro H locs ls h1 h2 h3 h4
  exact lv_if_gt hE.1 hE.2.1 hd ht (fun hc => by rw [if_pos hc] at hm; exact kt hc hm H locs ls h1 h2 h3 h4) (fun hc => by rw [if_neg hc] at hm; exact kf hc hm H locs ls h1 h2 h3 h4)
theorem q_icmp_gt (hE : CX E V l cc own nL kR rc rs ret) {x y : Int32} {off : Int} {tgt : Nat} {B : Type} {A1 A2 : Option B} {r : B} (hd : decode cc pc = .ok (.if_icmp .gt off, 3)) (ht : (pc : Int) + off = (tgt : Int)) (hm : (if y < x then A1 else A2) = some r) (kt : y < x → A1 = some r → PW E V nc ns N G tgt lv st) (kf : ¬ y < x → A2 = some r → PW E V nc ns N G (pc + 3) lv st) : PW E V nc ns N G pc lv (.int y :: .int x :: st) := by
  obtain ⟨p, l0, e, R, s, m, args, below, meth, c, Q⟩ := E
  intro H locs ls h1 h2 h3 h4
  exact lv_icmp_gt hE.1 hE.2.1 hd ht (fun hc => by rw [if_pos hc] at hm; exact kt hc hm H locs ls h1 h2 h3 h4) (fun hc => by rw [if_neg hc] at hm; exact kf hc hm H locs ls h1 h2 h3 h4)
theorem q_if_le (hE : CX E V l cc own nL kR rc rs ret) {x : Int32} {off : Int} {tgt : Nat} {B : Type} {A1 A2 : Option B} {r : B} (hd : decode cc pc = .ok (.ifCond .le off, 3)) (ht : (pc : Int) + off = (tgt : Int)) (hm : (if x ≤ 0 then A1 else A2) = some r) (kt : x ≤ 0 → A1 = some r → PW E V nc ns N G tgt lv st) (kf : ¬ x ≤ 0 → A2 = some r → PW E V nc ns N G (pc + 3) lv st) : PW E V nc ns N G pc lv (.int x :: st) := by
  obtain ⟨p, l0, e, R, s, m, args, below, meth, c, Q⟩ := E
  intro H locs ls h1 h2 h3 h4
  exact lv_if_le hE.1 hE.2.1 hd ht (fun hc => by rw [if_pos hc] at hm; exact kt hc hm H locs ls h1 h2 h3 h4) (fun hc => by rw [if_neg hc] at hm; exact kf hc hm H locs ls h1 h2 h3 h4)
theorem q_icmp_le (hE : CX E V l cc own nL kR rc rs ret) {x y : Int32} {off : Int} {tgt : Nat} {B : Type} {A1 A2 : Option B} {r : B} (hd : decode cc pc = .ok (.if_icmp .le off, 3)) (ht : (pc : Int) + off = (tgt : Int)) (hm : (if x ≤ y then A1 else A2) = some r) (kt : x ≤ y → A1 = some r → PW E V nc ns N G tgt lv st) (kf : ¬ x ≤ y → A2 = some r → PW E V nc ns N G (pc + 3) lv st) : PW E V nc ns N G pc lv (.int y :: .int x :: st) := by
  obtain ⟨p, l0, e, R, s, m, args, below, meth, c, Q⟩ := E
  intro H locs ls h1 h2 h3 h4
  exact lv_icmp_le hE.1 hE.2.1 hd ht (fun hc => by rw [if_pos hc] at hm; exact kt hc hm H locs ls h1 h2 h3 h4) (fun hc => by rw [if_neg hc] at hm; exact kf hc hm H locs ls h1 h2 h3 h4)
theorem q_if_ne (hE : CX E V l cc own nL kR rc rs ret) {x : Int32} {off : Int} {tgt : Nat} {B : Type} {A1 A2 : Option B} {r : B} (hd : decode cc pc = .ok (.ifCond .ne off, 3)) (ht : (pc : Int) + off = (tgt : Int)) (hm : (if x = 0 then A1 else A2) = some r) (kf : x = 0 → A1 = some r → PW E V nc ns N G (pc + 3) lv st) (kt : ¬ x = 0 → A2 = some r → PW E V nc ns N G tgt lv st) : PW E V nc ns N G pc lv (.int x :: st) := by
  obtain ⟨p, l0, e, R, s, m, args, below, meth, c, Q⟩ := E
  intro H locs ls h1 h2 h3 h4
  exact lv_if_ne hE.1 hE.2.1 hd ht (fun hc => by rw [if_neg hc] at hm; exact kt hc hm H locs ls h1 h2 h3 h4) (fun hc => by rw [if_pos hc] at hm; exact kf hc hm H locs ls h1 h2 h3 h4)
theorem q_icmp_ne (hE : CX E V l cc own nL kR rc rs ret) {x y : Int32} {off : Int} {tgt : Nat} {B : Type} {A1 A2 : Option B} {r : B} (hd : decode cc pc = .ok (.if_icmp .ne off, 3)) (ht : (pc : Int) + off = (tgt : Int)) (hm : (if x = y then A1 else A2) = some r) (kf : x = y → A1 = some r → PW E V nc ns N G (pc + 3) lv st) (kt : ¬ x = y → A2 = some r → PW E V nc ns N G tgt lv st) : PW E V nc ns N G pc lv (.int y :: .int x :: st) := by
  obtain ⟨p, l0, e, R, s, m, args, below, meth, c, Q⟩ := E
  intro H locs ls h1 h2 h3 h4
  exact lv_icmp_ne hE.1 hE.2.1 hd ht (fun hc => by rw [if_neg hc] at hm; exact kt hc hm H locs ls h1 h2 h3 h4) (fun hc => by rw [if_pos hc] at hm; exact kf hc hm H locs ls h1 h2 h3 h4)
theorem q_goto (hE : CX E V l cc own nL kR rc rs ret) {off : Int} {tgt : Nat} (hd : decode cc pc = .ok (.goto off, 3)) (ht : (pc : Int) + off = (tgt : Int)) (kk : PW E V nc ns N G tgt lv st) : PW E V nc ns N G pc lv st := by
  obtain ⟨p, l0, e, R, s, m, args, below, meth, c, Q⟩ := E
  intro H locs ls h1 h2 h3 h4
  exact lv_goto hE.1 hE.2.1 hd ht (kk H locs ls h1 h2 h3 h4)
theorem q_ifnonnull (hE : CX E V l cc own nL kR rc rs ret) {o : Option Nat} {off : Int} {tgt : Nat} {B : Type} {A1 : Option B} {A2 : Nat → Option B} {r : B} (hd : decode cc pc = .ok (.ifnonnull off, 3)) (ht : (pc : Int) + off = (tgt : Int)) (hm : (match o with | none => A1 | some z => A2 z) = some r) (kn : o = none → A1 = some r → PW E V nc ns N G (pc + 3) lv st) (kf : ∀ z, o = some z → A2 z = some r → PW E V nc ns N G tgt lv st) : PW E V nc ns N G pc lv (rq V o :: st) := by
  obtain ⟨p, l0, e, R, s, m, args, below, meth, c, Q⟩ := E
  intro H locs ls h1 h2 h3 h4
  cases o with
  | none => 
    have k := kn rfl hm H locs ls h1 h2 h3 h4
    intro T hT X
    obtain ⟨t, a, b⟩ := k T hT X
    refine ⟨t, ?_, b⟩
    jvm_step X.here [X.here.top, hE.1, hE.2.1, hd, rq]
    exact a
  | some z => exact lv_ifnonnull hE.1 hE.2.1 hd ht (kf z rfl hm H locs ls h1 h2 h3 h4)
theorem wl_at {b N : Nat} {G : Nat → va_E} {k : Nat} {e : va_E} (h : Nat.ble (k + 1) N = true) (hG : G k = e) : (wl b N G)[k]? = some (b + k, e) := by rw [← hG]; exact wl_get (Nat.le_of_ble_eq_true h)
theorem wl_back {V : Ev} {N k : Nat} {G G' : Nat → va_E} {e : va_E} {H1 : Heap} (h : Nat.ble (k + 1) N = true) (hG' : va_up G k e = G') (hP : va_P V.1 vwCl ((wl V.2.2.1 N G).set k (V.2.2.1 + k, e)) H1) : va_P V.1 vwCl (wl V.2.2.1 N G') H1 := by
  rw [wl_set e (Nat.le_of_ble_eq_true h), hG'] at hP; exact hP
theorem SZ.off {V : Ev} {N : Nat} {H : Heap} (h : V.2.2.2.2 = false) : SZ V N H := fun q => by rw [h] at q; cases q
theorem SZ.set {V : Ev} {N : Nat} {H H1 : Heap} (h : SZ V N H) (hz : H1.size = H.size) : SZ V N H1 := fun q => hz.trans (h q)
theorem q_get (hE : CX E V l cc own nL kR rc rs ret) {idx ci i k n : Nat} {C : String} {T : u_T} {ty0 : Nat → FieldType} {fs : List Value} {v : Value} (hd : decode cc pc = .ok (.getfield idx, 3)) (hC : KCl ci C T n ty0) (hw : Cond.fieldLink own idx (T i).1 (T i).2.1 (T i).2.2.1 ∈ TG) (hG : G k = .inr (ci, fs)) (hv : fs[i]? = some v) (hkN : Nat.ble (k + 1) N = true) (hin2 : Nat.ble (i + 1) n = true) (kk : PW E V nc ns N G (pc + 3) lv (v :: st)) : PW E V nc ns N G pc lv (rf V k :: st) := by
  obtain ⟨p, l0, e, R, s, m, args, below, meth, c, Q⟩ := E
  intro H locs ls h1 h2 h3 h4
  exact va_get hE.1 hE.2.1 hE.2.2.2.2.1 hC.2.1 hE.2.2.2.1 hE.2.2.2.2.2.1.1 h1 k (wl_at hkN hG) hC.1 i (Nat.le_of_ble_eq_true hin2) (hE.2.2.2.2.1 _ hw) (fun _ h => h) hv hd (kk H locs ls h1 h2 h3 h4)
theorem q_getN (hE : CX E V l cc own nL kR rc rs ret) {idx ci i k n : Nat} {C : String} {T : u_T} {ty0 : Nat → FieldType} {fs : List Value} {v : Value} {host : String} (hd : decode cc pc = .ok (.getfield idx, 3)) (hC : KCl ci C T n ty0) (hw : Cond.fieldLinkNest own idx (T i).1 (T i).2.1 (T i).2.2.1 host ∈ TN) (hG : G k = .inr (ci, fs)) (hv : fs[i]? = some v) (hkN : Nat.ble (k + 1) N = true) (hin2 : Nat.ble (i + 1) n = true) (kk : PW E V nc ns N G (pc + 3) lv (v :: st)) : PW E V nc ns N G pc lv (rf V k :: st) := by
  obtain ⟨p, l0, e, R, s, m, args, below, meth, c, Q⟩ := E
  intro H locs ls h1 h2 h3 h4
  exact va_getN hE.1 hE.2.1 hE.2.2.2.2.1 hC.2.1 hE.2.2.2.1 hE.2.2.2.2.2.1.1 h1 k (wl_at hkN hG) hC.1 i (Nat.le_of_ble_eq_true hin2) (va_Nw.use rfl (hE.2.2.2.2.2.1.2.1 _ hw)) (fun _ h => h) hv hd (kk H locs ls h1 h2 h3 h4)
theorem q_put (hE : CX E V l cc own nL kR rc rs ret) (hfx : V.2.2.2.2 = false) {idx ci i k n : Nat} {C : String} {T : u_T} {ty0 : Nat → FieldType} {fs : List Value} {v : Value} {G' : Nat → va_E} (hd : decode cc pc = .ok (.putfield idx, 3)) (hC : KCl ci C T n ty0) (hw : Cond.fieldLink own idx (T i).1 (T i).2.1 (T i).2.2.1 ∈ TG) (hG : G k = .inr (ci, fs)) (hfin : (T i).2.2.2 = false) (hn : narrow (ty0 i) v = v) (hfit : fits (ty0 i) v = true) (hl : Nat.ble (i + 1) fs.length = true) (hkN : Nat.ble (k + 1) N = true) (hin2 : Nat.ble (i + 1) n = true) (hG' : va_up G k (.inr (ci, fs.set i v)) = G') (kk : PW E V nc ns N G' (pc + 3) lv st) : PW E V nc ns N G pc lv (v :: rf V k :: st) := by
  obtain ⟨p, l0, e, R, s, m, args, below, meth, c, Q⟩ := E
  intro H locs ls h1 h2 h3 h4
  exact va_put hE.1 hE.2.1 hE.2.2.2.2.1 hC.2.1 ty0 hC.2.2.1 hC.2.2.2 hE.2.2.2.1 hE.2.2.2.2.2.1.1 h1 (wl_D _ _ _) h3 k (wl_at hkN hG) hC.1 i (Nat.le_of_ble_eq_true hin2) (hE.2.2.2.2.1 _ hw) (fun _ h => h) hfin (hC.2.2.1 i (Nat.le_of_ble_eq_true hin2)) hn hfit (Nat.le_of_ble_eq_true hl) hd (fun H1 locs1 hP1 hD1 hS1 => kk H1 locs1 ls (wl_back hkN hG' hP1) (SZ.off hfx) hS1 h4)
theorem q_putN (hE : CX E V l cc own nL kR rc rs ret) (hfx : V.2.2.2.2 = false) {idx ci i k n : Nat} {C : String} {T : u_T} {ty0 : Nat → FieldType} {fs : List Value} {v : Value} {G' : Nat → va_E} {host : String} (hd : decode cc pc = .ok (.putfield idx, 3)) (hC : KCl ci C T n ty0) (hw : Cond.fieldLinkNest own idx (T i).1 (T i).2.1 (T i).2.2.1 host ∈ TN) (hG : G k = .inr (ci, fs)) (hfin : (T i).2.2.2 = false) (hn : narrow (ty0 i) v = v) (hfit : fits (ty0 i) v = true) (hl : Nat.ble (i + 1) fs.length = true) (hkN : Nat.ble (k + 1) N = true) (hin2 : Nat.ble (i + 1) n = true) (hG' : va_up G k (.inr (ci, fs.set i v)) = G') (kk : PW E V nc ns N G' (pc + 3) lv st) : PW E V nc ns N G pc lv (v :: rf V k :: st) := by
  obtain ⟨p, l0, e, R, s, m, args, below, meth, c, Q⟩ := E
  intro H locs ls h1 h2 h3 h4
  exact va_putN hE.1 hE.2.1 hE.2.2.2.2.1 hC.2.1 ty0 hC.2.2.1 hC.2.2.2 hE.2.2.2.1 hE.2.2.2.2.2.1.1 h1 (wl_D _ _ _) h3 k (wl_at hkN hG) hC.1 i (Nat.le_of_ble_eq_true hin2) (va_Nw.use rfl (hE.2.2.2.2.2.1.2.1 _ hw)) (fun _ h => h) hfin (hC.2.2.1 i (Nat.le_of_ble_eq_true hin2)) hn hfit (Nat.le_of_ble_eq_true hl) hd (fun H1 locs1 hP1 hD1 hS1 => kk H1 locs1 ls (wl_back hkN hG' hP1) (SZ.off hfx) hS1 h4)
theorem q_iald (hE : CX E V l cc own nL kR rc rs ret) {k n : Nat} {i : Int32} {B : Type} {A1 : Option B} {r : B} {f : Nat → Int32} (hd : decode cc pc = .ok (.iaload, 1)) (hG : G k = .inl (V.2.1 1, n, .inl f)) (hkN : Nat.ble (k + 1) N = true) (hm : (if inb i n = true then A1 else none) = some r) (kk : A1 = some r → PW E V nc ns N G (pc + 1) lv (.int (f (ix i)) :: st)) : PW E V nc ns N G pc lv (.int i :: rf V k :: st) := by
  obtain ⟨p, l0, e, R, s, m, args, below, meth, c, Q⟩ := E
  intro H locs ls h1 h2 h3 h4
  by_cases hi : inb i n = true
  · rw [if_pos hi] at hm
    exact va_iald hE.1 hE.2.1 hE.2.2.2.2.2.1.1 h1 k 1 (wl_at hkN hG) rfl (inb_in hi) hd (kk hm H locs ls h1 h2 h3 h4)
  · rw [if_neg hi] at hm; cases hm
theorem q_bald (hE : CX E V l cc own nL kR rc rs ret) {k n : Nat} {i : Int32} {B : Type} {A1 : Option B} {r : B} {f : Nat → Int32} (hd : decode cc pc = .ok (.baload, 1)) (hG : G k = .inl (V.2.1 0, n, .inl f)) (hkN : Nat.ble (k + 1) N = true) (hm : (if inb i n = true then A1 else none) = some r) (kk : A1 = some r → PW E V nc ns N G (pc + 1) lv (.int (f (ix i)) :: st)) : PW E V nc ns N G pc lv (.int i :: rf V k :: st) := by
  obtain ⟨p, l0, e, R, s, m, args, below, meth, c, Q⟩ := E
  intro H locs ls h1 h2 h3 h4
  by_cases hi : inb i n = true
  · rw [if_pos hi] at hm
    exact va_bald hE.1 hE.2.1 hE.2.2.2.2.2.1.1 h1 k 0 (wl_at hkN hG) rfl (inb_in hi) hd (kk hm H locs ls h1 h2 h3 h4)
  · rw [if_neg hi] at hm; cases hm
theorem q_zald (hE : CX E V l cc own nL kR rc rs ret) {k n : Nat} {i : Int32} {B : Type} {A1 : Option B} {r : B} {f : Nat → Int32} (hd : decode cc pc = .ok (.baload, 1)) (hG : G k = .inl (V.2.1 3, n, .inl f)) (hkN : Nat.ble (k + 1) N = true) (hm : (if inb i n = true then A1 else none) = some r) (kk : A1 = some r → PW E V nc ns N G (pc + 1) lv (.int (f (ix i)) :: st)) : PW E V nc ns N G pc lv (.int i :: rf V k :: st) := by
  obtain ⟨p, l0, e, R, s, m, args, below, meth, c, Q⟩ := E
  intro H locs ls h1 h2 h3 h4
  by_cases hi : inb i n = true
  · rw [if_pos hi] at hm
    exact va_zald hE.1 hE.2.1 hE.2.2.2.2.2.1.1 h1 k 3 (wl_at hkN hG) rfl (inb_in hi) hd (kk hm H locs ls h1 h2 h3 h4)
  · rw [if_neg hi] at hm; cases hm
theorem q_lald (hE : CX E V l cc own nL kR rc rs ret) {k n : Nat} {i : Int32} {B : Type} {A1 : Option B} {r : B} {f : Nat → Int64} (hd : decode cc pc = .ok (.laload, 1)) (hG : G k = .inl (V.2.1 2, n, .inr (.inl f))) (hkN : Nat.ble (k + 1) N = true) (hm : (if inb i n = true then A1 else none) = some r) (kk : A1 = some r → PW E V nc ns N G (pc + 1) lv (.long (f (ix i)) :: st)) : PW E V nc ns N G pc lv (.int i :: rf V k :: st) := by
  obtain ⟨p, l0, e, R, s, m, args, below, meth, c, Q⟩ := E
  intro H locs ls h1 h2 h3 h4
  by_cases hi : inb i n = true
  · rw [if_pos hi] at hm
    exact va_lald hE.1 hE.2.1 hE.2.2.2.2.2.1.1 h1 k 2 (wl_at hkN hG) rfl (inb_in hi) hd (kk hm H locs ls h1 h2 h3 h4)
  · rw [if_neg hi] at hm; cases hm
theorem q_aald (hE : CX E V l cc own nL kR rc rs ret) {k n : Nat} {i : Int32} {B : Type} {A1 : Option B} {r : B} {f : Nat → Option Nat} {C : String} (t : Nat) {z : Nat} (hd : decode cc pc = .ok (.aaload, 1)) (hG : G k = .inl (V.2.1 t, n, .inr (.inr (.inr (.inr f))))) (ht : (tysOf V.2.1)[t]? = some (V.2.1 t, .object C)) (hz : inb i n = true → f (ix i) = some (V.2.2.1 + z)) (hkN : Nat.ble (k + 1) N = true) (hm : (if inb i n = true then A1 else none) = some r) (kk : inb i n = true → A1 = some r → PW E V nc ns N G (pc + 1) lv (rf V z :: st)) : PW E V nc ns N G pc lv (.int i :: rf V k :: st) := by
  obtain ⟨p, l0, e, R, s, m, args, below, meth, c, Q⟩ := E
  intro H locs ls h1 h2 h3 h4
  by_cases hi : inb i n = true
  · rw [if_pos hi] at hm
    refine va_aldq hE.1 hE.2.1 hE.2.2.2.2.2.1.1 h1 k t (wl_at hkN hG) ht (inb_in hi) hd ?_
    rw [show f i.toNatClampNeg = _ from hz hi]
    exact kk hi hm H locs ls h1 h2 h3 h4
  · rw [if_neg hi] at hm; cases hm
theorem q_iast (hE : CX E V l cc own nL kR rc rs ret) (hfx : V.2.2.2.2 = false) {k n : Nat} {i : Int32} {B : Type} {A1 : Option B} {r : B} {f : Nat → Int32} {x : Int32} {G' : Nat → va_E} (hd : decode cc pc = .ok (.iastore, 1)) (hG : G k = .inl (V.2.1 1, n, .inl f)) (hkN : Nat.ble (k + 1) N = true) (hG' : va_up G k (.inl (V.2.1 1, n, .inl (upd f (ix i) x))) = G') (hm : (if inb i n = true then A1 else none) = some r) (kk : A1 = some r → PW E V nc ns N G' (pc + 1) lv st) : PW E V nc ns N G pc lv (.int x :: .int i :: rf V k :: st) := by
  obtain ⟨p, l0, e, R, s, m, args, below, meth, c, Q⟩ := E
  intro H locs ls h1 h2 h3 h4
  by_cases hi : inb i n = true
  · rw [if_pos hi] at hm
    exact va_iast hE.1 hE.2.1 hE.2.2.2.2.2.1.1 h1 (wl_D _ _ _) h3 k 1 (wl_at hkN hG) rfl (inb_in hi) hd (fun H1 locs1 hP1 hD1 hS1 => kk hm H1 locs1 ls (wl_back hkN hG' hP1) (SZ.off hfx) hS1 h4)
  · rw [if_neg hi] at hm; cases hm
theorem q_bast (hE : CX E V l cc own nL kR rc rs ret) (hfx : V.2.2.2.2 = false) {k n : Nat} {i : Int32} {B : Type} {A1 : Option B} {r : B} {f : Nat → Int32} {x : Int32} {G' : Nat → va_E} (hd : decode cc pc = .ok (.bastore, 1)) (hG : G k = .inl (V.2.1 0, n, .inl f)) (hkN : Nat.ble (k + 1) N = true) (hG' : va_up G k (.inl (V.2.1 0, n, .inl (upd f (ix i) (vp_nar .byte x)))) = G') (hm : (if inb i n = true then A1 else none) = some r) (kk : A1 = some r → PW E V nc ns N G' (pc + 1) lv st) : PW E V nc ns N G pc lv (.int x :: .int i :: rf V k :: st) := by
  obtain ⟨p, l0, e, R, s, m, args, below, meth, c, Q⟩ := E
  intro H locs ls h1 h2 h3 h4
  by_cases hi : inb i n = true
  · rw [if_pos hi] at hm
    exact va_bast hE.1 hE.2.1 hE.2.2.2.2.2.1.1 h1 (wl_D _ _ _) h3 k 0 (wl_at hkN hG) rfl (inb_in hi) hd (fun H1 locs1 hP1 hD1 hS1 => kk hm H1 locs1 ls (wl_back hkN hG' hP1) (SZ.off hfx) hS1 h4)
  · rw [if_neg hi] at hm; cases hm
theorem q_zast (hE : CX E V l cc own nL kR rc rs ret) (hfx : V.2.2.2.2 = false) {k n : Nat} {i : Int32} {B : Type} {A1 : Option B} {r : B} {f : Nat → Int32} {x : Int32} {G' : Nat → va_E} (hd : decode cc pc = .ok (.bastore, 1)) (hG : G k = .inl (V.2.1 3, n, .inl f)) (hkN : Nat.ble (k + 1) N = true) (hG' : va_up G k (.inl (V.2.1 3, n, .inl (upd f (ix i) (vp_nar .boolean x)))) = G') (hm : (if inb i n = true then A1 else none) = some r) (kk : A1 = some r → PW E V nc ns N G' (pc + 1) lv st) : PW E V nc ns N G pc lv (.int x :: .int i :: rf V k :: st) := by
  obtain ⟨p, l0, e, R, s, m, args, below, meth, c, Q⟩ := E
  intro H locs ls h1 h2 h3 h4
  by_cases hi : inb i n = true
  · rw [if_pos hi] at hm
    exact va_zast hE.1 hE.2.1 hE.2.2.2.2.2.1.1 h1 (wl_D _ _ _) h3 k 3 (wl_at hkN hG) rfl (inb_in hi) hd (fun H1 locs1 hP1 hD1 hS1 => kk hm H1 locs1 ls (wl_back hkN hG' hP1) (SZ.off hfx) hS1 h4)
  · rw [if_neg hi] at hm; cases hm
theorem q_last (hE : CX E V l cc own nL kR rc rs ret) (hfx : V.2.2.2.2 = false) {k n : Nat} {i : Int32} {B : Type} {A1 : Option B} {r : B} {f : Nat → Int64} {x : Int64} {G' : Nat → va_E} (hd : decode cc pc = .ok (.lastore, 1)) (hG : G k = .inl (V.2.1 2, n, .inr (.inl f))) (hkN : Nat.ble (k + 1) N = true) (hG' : va_up G k (.inl (V.2.1 2, n, .inr (.inl (vp_updL f (ix i) x)))) = G') (hm : (if inb i n = true then A1 else none) = some r) (kk : A1 = some r → PW E V nc ns N G' (pc + 1) lv st) : PW E V nc ns N G pc lv (.long x :: .int i :: rf V k :: st) := by
  obtain ⟨p, l0, e, R, s, m, args, below, meth, c, Q⟩ := E
  intro H locs ls h1 h2 h3 h4
  by_cases hi : inb i n = true
  · rw [if_pos hi] at hm
    exact va_last hE.1 hE.2.1 hE.2.2.2.2.2.1.1 h1 (wl_D _ _ _) h3 k 2 (wl_at hkN hG) rfl (inb_in hi) hd (fun H1 locs1 hP1 hD1 hS1 => kk hm H1 locs1 ls (wl_back hkN hG' hP1) (SZ.off hfx) hS1 h4)
  · rw [if_neg hi] at hm; cases hm
theorem q_alen (hE : CX E V l cc own nL kR rc rs ret) {k : Nat} {cA : ClassId} {a : vp_A} {ty : FieldType} (t : Nat) {v : Int32} (hd : decode cc pc = .ok (.arraylength, 1)) (hG : G k = .inl (cA, a)) (ht : (tysOf V.2.1)[t]? = some (cA, ty)) (hv : Int32.ofNat a.1 = v) (hkN : Nat.ble (k + 1) N = true) (kk : PW E V nc ns N G (pc + 1) lv (.int v :: st)) : PW E V nc ns N G pc lv (rf V k :: st) := by
  obtain ⟨p, l0, e, R, s, m, args, below, meth, c, Q⟩ := E
  intro H locs ls h1 h2 h3 h4
  exact va_alen hE.1 hE.2.1 hE.2.2.2.2.2.1.1 h1 k t (wl_at hkN hG) ht hv hd (kk H locs ls h1 h2 h3 h4)
theorem q_ld_above (hE : CX E V l cc own nL kR rc rs ret) {i : Int32} {B : Type} {A1 : Option B} {r : B} (hd : decode cc pc = .ok (.iaload, 1)) (hm : (if inb i 7 = true then A1 else none) = some r) (kk : A1 = some r → PW E V nc ns N G (pc + 1) lv (.int (aboveF (ix i)) :: st)) : PW E V nc ns N G pc lv (.int i :: sf V 0 :: st) := by
  obtain ⟨p, l0, e, R, s, m, args, below, meth, c, Q⟩ := E
  intro H locs ls h1 h2 h3 h4
  by_cases hi : inb i 7 = true
  · rw [if_pos hi] at hm
    exact va_ti hE.1 hE.2.1 hE.2.2.2.2.2.1.2.2.1.2.1 h3 (inb_in hi) rfl hd (kk hm H locs ls h1 h2 h3 h4)
  · rw [if_neg hi] at hm; cases hm
theorem q_gs_above (hE : CX E V l cc own nL kR rc rs ret) {idx : Nat} (hd : decode cc pc = .ok (.getstatic idx, 3)) (hw : Cond.fieldLink own idx RX9 "ABOVE" "[I" ∈ TG) (kk : PW E V nc ns N G (pc + 3) lv (sf V 0 :: st)) : PW E V nc ns N G pc lv st := by
  obtain ⟨p, l0, e, R, s, m, args, below, meth, c, Q⟩ := E
  intro H locs ls h1 h2 h3 h4
  exact va_gets hE.1 hE.2.1 hE.2.2.2.2.2.1.2.2.1.1 h3 hE.2.2.2.1 (hE.2.2.2.2.1 _ hw) (fun _ h => h) hd (kk H locs ls h1 h2 h3 h4)
theorem q_gsN_above (hE : CX E V l cc own nL kR rc rs ret) {idx : Nat} {host : String} (hd : decode cc pc = .ok (.getstatic idx, 3)) (hw : Cond.fieldLinkNest own idx RX9 "ABOVE" "[I" host ∈ TN) (kk : PW E V nc ns N G (pc + 3) lv (sf V 0 :: st)) : PW E V nc ns N G pc lv st := by
  obtain ⟨p, l0, e, R, s, m, args, below, meth, c, Q⟩ := E
  intro H locs ls h1 h2 h3 h4
  exact va_getsN hE.1 hE.2.1 hE.2.2.2.2.2.1.2.2.1.1 h3 hE.2.2.2.1 (va_Nw.use rfl (hE.2.2.2.2.2.1.2.1 _ hw)) (fun _ h => h) hd (kk H locs ls h1 h2 h3 h4)
theorem q_ld_bodies (hE : CX E V l cc own nL kR rc rs ret) {i : Int32} {B : Type} {A1 : Option B} {r : B} (hd : decode cc pc = .ok (.iaload, 1)) (hm : (if inb i 21 = true then A1 else none) = some r) (kk : A1 = some r → PW E V nc ns N G (pc + 1) lv (.int (bodiesF (ix i)) :: st)) : PW E V nc ns N G pc lv (.int i :: sf V 1 :: st) := by
  obtain ⟨p, l0, e, R, s, m, args, below, meth, c, Q⟩ := E
  intro H locs ls h1 h2 h3 h4
  by_cases hi : inb i 21 = true
  · rw [if_pos hi] at hm
    exact va_ti hE.1 hE.2.1 hE.2.2.2.2.2.1.2.2.1.2.2.2 h3 (inb_in hi) rfl hd (kk hm H locs ls h1 h2 h3 h4)
  · rw [if_neg hi] at hm; cases hm
theorem q_gs_bodies (hE : CX E V l cc own nL kR rc rs ret) {idx : Nat} (hd : decode cc pc = .ok (.getstatic idx, 3)) (hw : Cond.fieldLink own idx RX0 "BODIES" "[I" ∈ TG) (kk : PW E V nc ns N G (pc + 3) lv (sf V 1 :: st)) : PW E V nc ns N G pc lv st := by
  obtain ⟨p, l0, e, R, s, m, args, below, meth, c, Q⟩ := E
  intro H locs ls h1 h2 h3 h4
  exact va_gets hE.1 hE.2.1 hE.2.2.2.2.2.1.2.2.1.2.2.1 h3 hE.2.2.2.1 (hE.2.2.2.2.1 _ hw) (fun _ h => h) hd (kk H locs ls h1 h2 h3 h4)
theorem q_gsN_bodies (hE : CX E V l cc own nL kR rc rs ret) {idx : Nat} {host : String} (hd : decode cc pc = .ok (.getstatic idx, 3)) (hw : Cond.fieldLinkNest own idx RX0 "BODIES" "[I" host ∈ TN) (kk : PW E V nc ns N G (pc + 3) lv (sf V 1 :: st)) : PW E V nc ns N G pc lv st := by
  obtain ⟨p, l0, e, R, s, m, args, below, meth, c, Q⟩ := E
  intro H locs ls h1 h2 h3 h4
  exact va_getsN hE.1 hE.2.1 hE.2.2.2.2.2.1.2.2.1.2.2.1 h3 hE.2.2.2.1 (va_Nw.use rfl (hE.2.2.2.2.2.1.2.1 _ hw)) (fun _ h => h) hd (kk H locs ls h1 h2 h3 h4)
theorem q_ldcS (hE : CX E V l cc own nL kR rc rs ret) {idx : Nat} (j : Nat) {tx : String} (hd : decode cc pc = .ok (.ldc idx, 2)) (hR : ∀ (U : State) (Hp : Heap), XS V U Hp → vk_R own idx tx (V.2.2.2.1 j) U) (kk : PW E V nc ns N G (pc + 2) lv (sf V j :: st)) : PW E V nc ns N G pc lv st := by
  obtain ⟨p, l0, e, R, s, m, args, below, meth, c, Q⟩ := E
  intro H locs ls h1 h2 h3 h4
  exact va_ldcS hE.1 hE.2.1 hE.2.2.2.1 (hR _ _ hE.2.2.2.2.2.1.2.2) hd (kk H locs ls h1 h2 h3 h4)
theorem q_copyi (hE : CX E V l cc own nL kR rc rs ret) (hfx : V.2.2.2.2 = false) {idx k0 k1 n0 n1 : Nat} {sp dp n : Int32} {B : Type} {A1 : Option B} {r : B} {f g : Nat → Int32} {G' : Nat → va_E} (hd : decode cc pc = .ok (.invokestatic idx, 3)) (hw : Cond.methodLink own idx arraycopyName ∈ TG) (hw2 : Cond.native arraycopyName ∈ TG ∧ Cond.static arraycopyName ∈ TG ∧ Cond.initialized "java/lang/System" ∈ TG) (hG0 : G k0 = .inl (V.2.1 1, n0, .inl f)) (hG1 : G k1 = .inl (V.2.1 1, n1, .inl g)) (hk0 : Nat.ble (k0 + 1) N = true) (hk1 : Nat.ble (k1 + 1) N = true) (hkR : Nat.ble 2 kR = true) (hst : Nat.ble (st.map fun v => v.category).sum 8 = true) (hG' : va_up G k1 (.inl (V.2.1 1, n1, .inl (va_cpy f g (ix sp) (ix dp) (ix n)))) = G')
    (hm : (if decide (0 ≤ sp.toInt) && (decide (0 ≤ dp.toInt) && (decide (0 ≤ n.toInt) && (decide (sp.toInt + n.toInt ≤ n0) && decide (dp.toInt + n.toInt ≤ n1)))) then A1 else none) = some r) (kk : A1 = some r → PW E V nc ns N G' (pc + 3) lv st) : PW E V nc ns N G pc lv (.int n :: .int dp :: rf V k1 :: .int sp :: rf V k0 :: st) := by
  obtain ⟨p, l0, e, R, s, m, args, below, meth, c, Q⟩ := E
  intro H locs ls h1 h2 h3 h4
  have nn : ∀ z : Int32, 0 ≤ z.toInt → (¬ z < 0) ∧ z.toInt = (z.toNatClampNeg : Int) := by
    intro z hz
    refine ⟨fun h => ?_, ?_⟩
    · have := Int32.lt_iff_toInt_lt.mp h
      simp at this; omega
    · show z.toInt = ((z.toInt.toNat : Nat) : Int)
      omega
  by_cases hc : (decide (0 ≤ sp.toInt) && (decide (0 ≤ dp.toInt) && (decide (0 ≤ n.toInt) && (decide (sp.toInt + n.toInt ≤ n0) && decide (dp.toInt + n.toInt ≤ n1))))) = true
  · rw [if_pos hc] at hm
    simp only [Bool.and_eq_true, decide_eq_true_eq] at hc
    obtain ⟨c1, c2, c3, c4, c5⟩ := hc
    have m1 := nn sp c1
    have m2 := nn dp c2
    have m3 := nn n c3
    have hb2 := Nat.le_of_ble_eq_true hkR
    have hsum := Nat.le_of_ble_eq_true hst
    have hF : kR ≤ R.frames := hE.2.2.2.2.2.2.1
    have hL : 64 * kR ≤ R.locals := hE.2.2.2.2.2.2.2.1
    have h9 : nativeFrameWords "java/lang/System" "arraycopy" 5 + 11 ≤ 100 := by decide
    refine va_copyi hE.1 hE.2.1 h4.1.symm hE.2.2.2.1 (hE.2.2.2.2.1 _ hw) (hE.2.2.2.2.1 _ hw2.1) (hE.2.2.2.2.1 _ hw2.2.1) (hE.2.2.2.2.1 _ hw2.2.2) hE.2.2.2.2.2.1.1 h1 (wl_D _ _ _) h3 k0 k1 1 1 (wl_at hk0 hG0) (wl_at hk1 hG1) rfl rfl rfl m1.1 m2.1 m3.1 (by omega) (by omega) (fun i hi => rfl) (by omega) (by omega) hd (fun H1 locs1 hP1 hD1 hS1 => kk hm H1 locs1 ls (wl_back hk1 hG' hP1) (SZ.off hfx) hS1 h4)
  · rw [if_neg hc] at hm; cases hm
theorem q_copyl (hE : CX E V l cc own nL kR rc rs ret) (hfx : V.2.2.2.2 = false) {idx k0 k1 n0 n1 : Nat} {sp dp n : Int32} {B : Type} {A1 : Option B} {r : B} {f g : Nat → Int64} {G' : Nat → va_E} (hd : decode cc pc = .ok (.invokestatic idx, 3)) (hw : Cond.methodLink own idx arraycopyName ∈ TG) (hw2 : Cond.native arraycopyName ∈ TG ∧ Cond.static arraycopyName ∈ TG ∧ Cond.initialized "java/lang/System" ∈ TG) (hG0 : G k0 = .inl (V.2.1 2, n0, .inr (.inl f))) (hG1 : G k1 = .inl (V.2.1 2, n1, .inr (.inl g))) (hk0 : Nat.ble (k0 + 1) N = true) (hk1 : Nat.ble (k1 + 1) N = true) (hkR : Nat.ble 2 kR = true) (hst : Nat.ble (st.map fun v => v.category).sum 8 = true) (hG' : va_up G k1 (.inl (V.2.1 2, n1, .inr (.inl (va_cpy f g (ix sp) (ix dp) (ix n))))) = G')
    (hm : (if decide (0 ≤ sp.toInt) && (decide (0 ≤ dp.toInt) && (decide (0 ≤ n.toInt) && (decide (sp.toInt + n.toInt ≤ n0) && decide (dp.toInt + n.toInt ≤ n1)))) then A1 else none) = some r) (kk : A1 = some r → PW E V nc ns N G' (pc + 3) lv st) : PW E V nc ns N G pc lv (.int n :: .int dp :: rf V k1 :: .int sp :: rf V k0 :: st) := by
  obtain ⟨p, l0, e, R, s, m, args, below, meth, c, Q⟩ := E
  intro H locs ls h1 h2 h3 h4
  have nn : ∀ z : Int32, 0 ≤ z.toInt → (¬ z < 0) ∧ z.toInt = (z.toNatClampNeg : Int) := by
    intro z hz
    refine ⟨fun h => ?_, ?_⟩
    · have := Int32.lt_iff_toInt_lt.mp h
      simp at this; omega
    · show z.toInt = ((z.toInt.toNat : Nat) : Int)
      omega
  by_cases hc : (decide (0 ≤ sp.toInt) && (decide (0 ≤ dp.toInt) && (decide (0 ≤ n.toInt) && (decide (sp.toInt + n.toInt ≤ n0) && decide (dp.toInt + n.toInt ≤ n1))))) = true
  · rw [if_pos hc] at hm
    simp only [Bool.and_eq_true, decide_eq_true_eq] at hc
    obtain ⟨c1, c2, c3, c4, c5⟩ := hc
    have m1 := nn sp c1
    have m2 := nn dp c2
    have m3 := nn n c3
    have hb2 := Nat.le_of_ble_eq_true hkR
    have hsum := Nat.le_of_ble_eq_true hst
    have hF : kR ≤ R.frames := hE.2.2.2.2.2.2.1
    have hL : 64 * kR ≤ R.locals := hE.2.2.2.2.2.2.2.1
    have h9 : nativeFrameWords "java/lang/System" "arraycopy" 5 + 11 ≤ 100 := by decide
    refine va_copyl hE.1 hE.2.1 h4.1.symm hE.2.2.2.1 (hE.2.2.2.2.1 _ hw) (hE.2.2.2.2.1 _ hw2.1) (hE.2.2.2.2.1 _ hw2.2.1) (hE.2.2.2.2.1 _ hw2.2.2) hE.2.2.2.2.2.1.1 h1 (wl_D _ _ _) h3 k0 k1 2 2 (wl_at hk0 hG0) (wl_at hk1 hG1) rfl rfl rfl m1.1 m2.1 m3.1 (by omega) (by omega) (fun i hi => rfl) (by omega) (by omega) hd (fun H1 locs1 hP1 hD1 hS1 => kk hm H1 locs1 ls (wl_back hk1 hG' hP1) (SZ.off hfx) hS1 h4)
  · rw [if_neg hc] at hm; cases hm
theorem q_mmax (hE : CX E V l cc own nL kR rc rs ret) {idx : Nat} {x y : Int32} (hd : decode cc pc = .ok (.invokestatic idx, 3)) (hw : Cond.methodLink own idx Lib.Math.max.name ∈ TG) (hw2 : Cond.static Lib.Math.max.name ∈ TG ∧ Cond.initialized "java/lang/Math" ∈ TG ∧ Cond.code Lib.Math.max.name Lib.Math.max.code 2 (some .int) ∈ TG) (hkR : Nat.ble 1 kR = true) (hst : Nat.ble (st.map fun v => v.category).sum 8 = true) (hnc : nc ≤ rc) (hns : ns ≤ rs) (kk : PW E V nc ns N G (pc + 3) lv (.int (if x < y then y else x) :: st)) : PW E V nc ns N G pc lv (.int y :: .int x :: st) := by
  obtain ⟨p, l0, e, R, s, m, args, below, meth, c, Q⟩ := E
  intro H locs ls h1 h2 h3 h4
  have hb2 := Nat.le_of_ble_eq_true hkR
  have hsum := Nat.le_of_ble_eq_true hst
  have hF : kR ≤ R.frames := hE.2.2.2.2.2.2.1
  have hL : 64 * kR ≤ R.locals := hE.2.2.2.2.2.2.2.1
  have hC1 : rc ≤ R.cells := hE.2.2.2.2.2.2.2.2.2.1
  have hS1 : rs ≤ R.slots := hE.2.2.2.2.2.2.2.2.2.2.1
  exact va_mmax hE.1 hE.2.1 h4.1.symm hE.2.2.2.1 (hE.2.2.2.2.1 _ hw) (hE.2.2.2.2.1 _ hw2.1) (hE.2.2.2.2.1 _ hw2.2.1) (hE.2.2.2.2.1 _ hw2.2.2) (by omega) (by omega) (Nat.le_trans hnc hC1) (Nat.le_trans hns hS1) hd (kk H locs ls h1 h2 h3 h4)
theorem q_mmin (hE : CX E V l cc own nL kR rc rs ret) {idx : Nat} {x y : Int32} (hd : decode cc pc = .ok (.invokestatic idx, 3)) (hw : Cond.methodLink own idx Lib.Math.min.name ∈ TG) (hw2 : Cond.static Lib.Math.min.name ∈ TG ∧ Cond.initialized "java/lang/Math" ∈ TG ∧ Cond.code Lib.Math.min.name Lib.Math.min.code 2 (some .int) ∈ TG) (hkR : Nat.ble 1 kR = true) (hst : Nat.ble (st.map fun v => v.category).sum 8 = true) (hnc : nc ≤ rc) (hns : ns ≤ rs) (kk : PW E V nc ns N G (pc + 3) lv (.int (if y < x then y else x) :: st)) : PW E V nc ns N G pc lv (.int y :: .int x :: st) := by
  obtain ⟨p, l0, e, R, s, m, args, below, meth, c, Q⟩ := E
  intro H locs ls h1 h2 h3 h4
  have hb2 := Nat.le_of_ble_eq_true hkR
  have hsum := Nat.le_of_ble_eq_true hst
  have hF : kR ≤ R.frames := hE.2.2.2.2.2.2.1
  have hL : 64 * kR ≤ R.locals := hE.2.2.2.2.2.2.2.1
  have hC1 : rc ≤ R.cells := hE.2.2.2.2.2.2.2.2.2.1
  have hS1 : rs ≤ R.slots := hE.2.2.2.2.2.2.2.2.2.2.1
  exact va_mmin hE.1 hE.2.1 h4.1.symm hE.2.2.2.1 (hE.2.2.2.2.1 _ hw) (hE.2.2.2.2.1 _ hw2.1) (hE.2.2.2.2.1 _ hw2.2.1) (hE.2.2.2.2.1 _ hw2.2.2) (by omega) (by omega) (Nat.le_trans hnc hC1) (Nat.le_trans hns hS1) hd (kk H locs ls h1 h2 h3 h4)
theorem ST.same {V : Ev} {u U : State} {H : Heap} (hv : u.vm = U.vm) (h : ST V u H) : ST V U H := ST.warm (by rw [← hv]; exact State.WarmedH.refl u) h
theorem SW.blind {V : Ev} {N : Nat} {G : Nat → va_E} {av : List Value} : FrameBlind (va_Pc av (SW V N G)) := by
  intro a U g mk h
  exact ⟨h.1, h.2.1, h.2.2.1, h.2.2.2.1, ST.same (u := U) rfl h.2.2.2.2⟩
theorem SW.here {V : Ev} {N : Nat} {G : Nat → va_E} {av : List Value} {s U : State} {H : Heap} {locs : List Loc} (h1 : va_P V.1 vwCl (wl V.2.2.1 N G) H) (h2 : SZ V N H) (h3 : va_S (fun q => V.2.2.1 ≤ q) s.heap H locs) (hb : V.2.2.1 ≤ s.heap.size) (hT : ST V s s.heap) (hU : U.heap = H) (hW : s.WarmedH U.vm) : va_Pc av (SW V N G) av.toArray U := by
  refine ⟨rfl, ?_, ?_, ?_, ?_⟩
  · rw [hU]; exact h1
  · rw [hU]; exact h2
  · rw [hU]; exact Nat.le_trans hb h3.1
  · rw [hU]; exact ST.kept (ST.warm hW hT) (fun a ha hn => h3.2.1 a ha hn)
theorem run_end {p : Program} {l : Launch} {e : Env} {R : Room} {s : State} {m : MethodId} {args : Array Value} {below : List Frame} {meth : Method} {c : Code} {H : Heap} {locs : List Loc} {nc ns mc ms : Nat} {Q : State → Prop} {V : Ev} {N' : Nat} {G' : Nat → va_E} {ov : Option Value} {pc : Nat} {ls : Array Slot} {lv : List (Nat × Value)} {stk st : List Value} {a : Array Value}
    (hr : va_Run p l e R s m args below meth c H locs nc ns mc ms (F0 m pc ls stk) st (QcM V N' G' ov a) (fun q => V.2.2.1 ≤ q)) (hb : V.2.2.1 ≤ s.heap.size) (h3 : va_S (fun q => V.2.2.1 ≤ q) s.heap H locs) (h4 : lv_has ls c.maxLocals lv)
    (kk : PW (p, l, e, R, s, m, args, below, meth, c, Q) V (nc + mc) (ns + ms) N' G' (pc + 3) lv (ov.toList ++ st)) : W p l e R s m args below meth c H locs nc ns Q (F0 m pc ls stk) := by
  intro T hT X
  obtain ⟨v, st₀, t, T', L, h0, X', hL, e1, e2, ⟨hv, hSW, hz, hk⟩, sg⟩ := hr T hT X
  have hv := Outcome.returned.inj hv
  subst hv
  rw [h0] at hz hk
  obtain ⟨t2, a1, b1⟩ := kk T'.heap (locs ++ L) ls (by rw [e1]; exact hSW.1) (by rw [e1]; exact hSW.2.1) ⟨Nat.le_trans h3.1 (by rw [e1]; exact hz), fun q g1 g2 => by rw [e1, hk q (Nat.lt_of_lt_of_le g1 h3.1) g2]; exact h3.2.1 q g1 g2, fun q hq => by
      rcases List.mem_append.mp hq with h | h
      · exact h3.2.2 q h
      · exact hL q h⟩ h4 T' rfl X'
  exact ⟨t2, sg t2 a1, b1⟩
theorem mw_sig {y : MethodName} {n : Nat} (h : (parseMethodDescriptor y.desc).map (fun d => d.parameters.length) = some n) : ∀ sig, parseMethodDescriptor y.desc = some sig → n = sig.parameters.length := by
  intro sig hs
  rw [hs] at h
  exact (Option.some.inj h).symm
theorem mw_pay {args : Array Value} {s : State} {y : MethodName} {cc : ByteArray} {nL : Nat} {ret : Option FieldType} (ht : ∀ wd ∈ TG, wd.before args s = true) (hc : Cond.code y cc nL ret ∈ TG) : ∀ wd ∈ (Cond.code y cc nL ret :: TG), ∀ (a' : Array Value) (U : State), s.WarmedH U.vm → wd.before a' U = true :=
  pay_in ht (fun wd hw => by
    rcases List.mem_cons.mp hw with rfl | hw
    · exact goodTG _ hc
    · exact goodTG _ hw)
theorem q_callV (hE : CX E V l cc own nL kR rc rs ret) {idx nL' k' mc ms n : Nat} {y : MethodName} {cc' : ByteArray} {ret' : Option FieldType} {N' : Nat} {G' : Nat → va_E} {ov : Option Value} {As stk : List Value} {a : Nat} (hd : decode cc pc = .ok (.invokevirtual idx, 3)) (hc : Ctr l V y cc' nL' ret' k' (rf V a :: As) N G N' G' ov mc ms) (hM : MWV y cc' nL' ret' n) (hw : Cond.methodLink own idx y ∈ TG) (hk : Nat.ble (k' + 1) kR = true) (hL : Nat.ble nL' 44 = true) (hn : As.length = n) (hst : Nat.ble (st.map fun v => v.category).sum 8 = true) (hmc : nc + mc ≤ rc) (hms : ns + ms ≤ rs) (hstk : stk = As.reverse ++ rf V a :: st) {ci nn : Nat} {T : u_T} {ty0 : Nat → FieldType} {fs : List Value} (hC : KCl ci y.cls T nn ty0) (hG : G a = .inr (ci, fs)) (haN : Nat.ble (a + 1) N = true) (kk : PW E V (nc + mc) (ns + ms) N' G' (pc + 3) lv (ov.toList ++ st)) : PW E V nc ns N G pc lv stk := by
  obtain ⟨p, l0, e, R, s, m, args, below, meth, c, Q⟩ := E
  intro H locs ls h1 h2 h3 h4
  have hk9 := Nat.le_of_ble_eq_true hk
  have hL9 := Nat.le_of_ble_eq_true hL
  have hst9 := Nat.le_of_ble_eq_true hst
  have hF : kR ≤ R.frames := hE.2.2.2.2.2.2.1
  have hLo : 64 * kR ≤ R.locals := hE.2.2.2.2.2.2.2.1
  have hb : V.2.2.1 ≤ s.heap.size := hE.2.2.2.2.2.2.2.2.1
  have hC1 : rc ≤ R.cells := hE.2.2.2.2.2.2.2.2.2.1
  have hS1 : rs ≤ R.slots := hE.2.2.2.2.2.2.2.2.2.2.1
  have hll : l0 = l := hE.2.2.2.2.2.2.2.2.2.2.2.2.2
  subst hll
  subst hstk
  exact run_end (va_runV (C := y.cls) (As := As) (rest := st) ⟨hE.1, hE.2.1, hE.2.2.1, hE.2.2.2.1, hE.2.2.2.2.1⟩ hc ⟨⟨rfl, rfl, by show k' + 1 ≤ _; omega, by show 8 + (nL' + 11) + 64 * k' ≤ _; omega, mw_pay hE.2.2.2.2.1 hM.1.1, List.mem_cons_self, hE.2.2.2.2.1 _ hM.1.1, hE.2.2.2.2.1 _ hM.1.2.1, hM.1.2.2.1, mw_sig hM.1.2.2.2, hE.2.2.2.2.1 _ hw⟩, hE.2.2.2.2.1 _ hM.2.1, hE.2.2.2.2.1 _ hM.2.2⟩ ⟨SW.blind, va_recv hE.2.2.2.2.2.1.1 h1 hC.1 (wl_at haN hG), fun U hU hW => SW.here h1 h2 h3 hb hE.2.2.2.2.2.1 hU hW⟩ rfl hn (h4.1.trans hE.2.2.1) rfl (lv_room hst9) hd ⟨by omega, by omega⟩) hb h3 h4 kk
theorem q_callV_i (hE : CX E V l cc own nL kR rc rs ret) {idx nL' k' n : Nat} {y : MethodName} {cc' : ByteArray} {ret' : Option FieldType} {As stk : List Value} {Ph B : Type} {X : Ph → Nat → va_E} {f : Option (Int32 × Ph)} {K : Int32 → Ph → Option B} {r : B} {a : Nat} (hd : decode cc pc = .ok (.invokevirtual idx, 3)) (hM : MWV y cc' nL' ret' n) (hw : Cond.methodLink own idx y ∈ TG) (hk : Nat.ble (k' + 1) kR = true) (hL : Nat.ble nL' 44 = true) (hn : As.length = n) (hst : Nat.ble (st.map fun v => v.category).sum 8 = true) (hnc : nc ≤ rc) (hns : ns ≤ rs) (hstk : stk = As.reverse ++ rf V a :: st) {ci nn : Nat} {T : u_T} {ty0 : Nat → FieldType} {fs : List Value} (hC : KCl ci y.cls T nn ty0) (hG : G a = .inr (ci, fs)) (haN : Nat.ble (a + 1) N = true) (hc : ∀ (v : Int32) (h' : Ph), f = some (v, h') → Ctr l V y cc' nL' ret' k' (rf V a :: As) N G N (X h') (some (.int v)) 0 0) (hm : bnd f K = some r) (kk : ∀ (v : Int32) (h' : Ph), K v h' = some r → PW E V nc ns N (X h') (pc + 3) lv (.int v :: st)) : PW E V nc ns N G pc lv stk := by
  cases hf : f with
  | none => rw [hf] at hm; cases hm
  | some x =>
    rw [hf] at hm
    exact q_callV hE hd (hc x.1 x.2 hf) hM hw hk hL hn hst hnc hns hstk hC hG haN (kk x.1 x.2 hm)
theorem q_callV_l (hE : CX E V l cc own nL kR rc rs ret) {idx nL' k' n : Nat} {y : MethodName} {cc' : ByteArray} {ret' : Option FieldType} {As stk : List Value} {Ph B : Type} {X : Ph → Nat → va_E} {f : Option (Int64 × Ph)} {K : Int64 → Ph → Option B} {r : B} {a : Nat} (hd : decode cc pc = .ok (.invokevirtual idx, 3)) (hM : MWV y cc' nL' ret' n) (hw : Cond.methodLink own idx y ∈ TG) (hk : Nat.ble (k' + 1) kR = true) (hL : Nat.ble nL' 44 = true) (hn : As.length = n) (hst : Nat.ble (st.map fun v => v.category).sum 8 = true) (hnc : nc ≤ rc) (hns : ns ≤ rs) (hstk : stk = As.reverse ++ rf V a :: st) {ci nn : Nat} {T : u_T} {ty0 : Nat → FieldType} {fs : List Value} (hC : KCl ci y.cls T nn ty0) (hG : G a = .inr (ci, fs)) (haN : Nat.ble (a + 1) N = true) (hc : ∀ (v : Int64) (h' : Ph), f = some (v, h') → Ctr l V y cc' nL' ret' k' (rf V a :: As) N G N (X h') (some (.long v)) 0 0) (hm : bnd f K = some r) (kk : ∀ (v : Int64) (h' : Ph), K v h' = some r → PW E V nc ns N (X h') (pc + 3) lv (.long v :: st)) : PW E V nc ns N G pc lv stk := by
  cases hf : f with
  | none => rw [hf] at hm; cases hm
  | some x =>
    rw [hf] at hm
    exact q_callV hE hd (hc x.1 x.2 hf) hM hw hk hL hn hst hnc hns hstk hC hG haN (kk x.1 x.2 hm)
theorem q_callV_v (hE : CX E V l cc own nL kR rc rs ret) {idx nL' k' n : Nat} {y : MethodName} {cc' : ByteArray} {ret' : Option FieldType} {As stk : List Value} {Ph B : Type} {X : Ph → Nat → va_E} {f : Option (Unit × Ph)} {K : Unit → Ph → Option B} {r : B} {a : Nat} (hd : decode cc pc = .ok (.invokevirtual idx, 3)) (hM : MWV y cc' nL' ret' n) (hw : Cond.methodLink own idx y ∈ TG) (hk : Nat.ble (k' + 1) kR = true) (hL : Nat.ble nL' 44 = true) (hn : As.length = n) (hst : Nat.ble (st.map fun v => v.category).sum 8 = true) (hnc : nc ≤ rc) (hns : ns ≤ rs) (hstk : stk = As.reverse ++ rf V a :: st) {ci nn : Nat} {T : u_T} {ty0 : Nat → FieldType} {fs : List Value} (hC : KCl ci y.cls T nn ty0) (hG : G a = .inr (ci, fs)) (haN : Nat.ble (a + 1) N = true) (hc : ∀ (v : Unit) (h' : Ph), f = some (v, h') → Ctr l V y cc' nL' ret' k' (rf V a :: As) N G N (X h') (none) 0 0) (hm : bnd f K = some r) (kk : ∀ (v : Unit) (h' : Ph), K v h' = some r → PW E V nc ns N (X h') (pc + 3) lv (st)) : PW E V nc ns N G pc lv stk := by
  cases hf : f with
  | none => rw [hf] at hm; cases hm
  | some x =>
    rw [hf] at hm
    exact q_callV hE hd (hc x.1 x.2 hf) hM hw hk hL hn hst hnc hns hstk hC hG haN (kk x.1 x.2 hm)
theorem q_callVN (hE : CX E V l cc own nL kR rc rs ret) {idx nL' k' mc ms n : Nat} {y : MethodName} {cc' : ByteArray} {ret' : Option FieldType} {N' : Nat} {G' : Nat → va_E} {ov : Option Value} {As stk : List Value} {a : Nat} {host : String} (hd : decode cc pc = .ok (.invokevirtual idx, 3)) (hc : Ctr l V y cc' nL' ret' k' (rf V a :: As) N G N' G' ov mc ms) (hM : MWV y cc' nL' ret' n) (hw : Cond.methodLinkNest own idx y host ∈ TN) (hk : Nat.ble (k' + 1) kR = true) (hL : Nat.ble nL' 44 = true) (hn : As.length = n) (hst : Nat.ble (st.map fun v => v.category).sum 8 = true) (hmc : nc + mc ≤ rc) (hms : ns + ms ≤ rs) (hstk : stk = As.reverse ++ rf V a :: st) {ci nn : Nat} {T : u_T} {ty0 : Nat → FieldType} {fs : List Value} (hC : KCl ci y.cls T nn ty0) (hG : G a = .inr (ci, fs)) (haN : Nat.ble (a + 1) N = true) (kk : PW E V (nc + mc) (ns + ms) N' G' (pc + 3) lv (ov.toList ++ st)) : PW E V nc ns N G pc lv stk := by
  obtain ⟨p, l0, e, R, s, m, args, below, meth, c, Q⟩ := E
  intro H locs ls h1 h2 h3 h4
  have hk9 := Nat.le_of_ble_eq_true hk
  have hL9 := Nat.le_of_ble_eq_true hL
  have hst9 := Nat.le_of_ble_eq_true hst
  have hF : kR ≤ R.frames := hE.2.2.2.2.2.2.1
  have hLo : 64 * kR ≤ R.locals := hE.2.2.2.2.2.2.2.1
  have hb : V.2.2.1 ≤ s.heap.size := hE.2.2.2.2.2.2.2.2.1
  have hC1 : rc ≤ R.cells := hE.2.2.2.2.2.2.2.2.2.1
  have hS1 : rs ≤ R.slots := hE.2.2.2.2.2.2.2.2.2.2.1
  have hll : l0 = l := hE.2.2.2.2.2.2.2.2.2.2.2.2.2
  subst hll
  subst hstk
  exact run_end (va_runVN (C := y.cls) (As := As) (rest := st) ⟨hE.1, hE.2.1, hE.2.2.1, hE.2.2.2.1, hE.2.2.2.2.1⟩ hc ⟨⟨⟨rfl, rfl, by show k' + 1 ≤ _; omega, by show 8 + (nL' + 11) + 64 * k' ≤ _; omega, mw_pay hE.2.2.2.2.1 hM.1.1, List.mem_cons_self⟩, hE.2.2.2.2.1 _ hM.1.1, hE.2.2.2.2.1 _ hM.1.2.1, hM.1.2.2.1, mw_sig hM.1.2.2.2, va_Nw.use rfl (hE.2.2.2.2.2.1.2.1 _ hw)⟩, hE.2.2.2.2.1 _ hM.2.1, hE.2.2.2.2.1 _ hM.2.2⟩ ⟨SW.blind, va_recv hE.2.2.2.2.2.1.1 h1 hC.1 (wl_at haN hG), fun U hU hW => SW.here h1 h2 h3 hb hE.2.2.2.2.2.1 hU hW⟩ rfl hn (h4.1.trans hE.2.2.1) rfl (lv_room hst9) hd ⟨by omega, by omega⟩) hb h3 h4 kk
theorem q_callVN_i (hE : CX E V l cc own nL kR rc rs ret) {idx nL' k' n : Nat} {y : MethodName} {cc' : ByteArray} {ret' : Option FieldType} {As stk : List Value} {Ph B : Type} {X : Ph → Nat → va_E} {f : Option (Int32 × Ph)} {K : Int32 → Ph → Option B} {r : B} {a : Nat} {host : String} (hd : decode cc pc = .ok (.invokevirtual idx, 3)) (hM : MWV y cc' nL' ret' n) (hw : Cond.methodLinkNest own idx y host ∈ TN) (hk : Nat.ble (k' + 1) kR = true) (hL : Nat.ble nL' 44 = true) (hn : As.length = n) (hst : Nat.ble (st.map fun v => v.category).sum 8 = true) (hnc : nc ≤ rc) (hns : ns ≤ rs) (hstk : stk = As.reverse ++ rf V a :: st) {ci nn : Nat} {T : u_T} {ty0 : Nat → FieldType} {fs : List Value} (hC : KCl ci y.cls T nn ty0) (hG : G a = .inr (ci, fs)) (haN : Nat.ble (a + 1) N = true) (hc : ∀ (v : Int32) (h' : Ph), f = some (v, h') → Ctr l V y cc' nL' ret' k' (rf V a :: As) N G N (X h') (some (.int v)) 0 0) (hm : bnd f K = some r) (kk : ∀ (v : Int32) (h' : Ph), K v h' = some r → PW E V nc ns N (X h') (pc + 3) lv (.int v :: st)) : PW E V nc ns N G pc lv stk := by
  cases hf : f with
  | none => rw [hf] at hm; cases hm
  | some x =>
    rw [hf] at hm
    exact q_callVN hE hd (hc x.1 x.2 hf) hM hw hk hL hn hst hnc hns hstk hC hG haN (kk x.1 x.2 hm)
theorem q_callVN_l (hE : CX E V l cc own nL kR rc rs ret) {idx nL' k' n : Nat} {y : MethodName} {cc' : ByteArray} {ret' : Option FieldType} {As stk : List Value} {Ph B : Type} {X : Ph → Nat → va_E} {f : Option (Int64 × Ph)} {K : Int64 → Ph → Option B} {r : B} {a : Nat} {host : String} (hd : decode cc pc = .ok (.invokevirtual idx, 3)) (hM : MWV y cc' nL' ret' n) (hw : Cond.methodLinkNest own idx y host ∈ TN) (hk : Nat.ble (k' + 1) kR = true) (hL : Nat.ble nL' 44 = true) (hn : As.length = n) (hst : Nat.ble (st.map fun v => v.category).sum 8 = true) (hnc : nc ≤ rc) (hns : ns ≤ rs) (hstk : stk = As.reverse ++ rf V a :: st) {ci nn : Nat} {T : u_T} {ty0 : Nat → FieldType} {fs : List Value} (hC : KCl ci y.cls T nn ty0) (hG : G a = .inr (ci, fs)) (haN : Nat.ble (a + 1) N = true) (hc : ∀ (v : Int64) (h' : Ph), f = some (v, h') → Ctr l V y cc' nL' ret' k' (rf V a :: As) N G N (X h') (some (.long v)) 0 0) (hm : bnd f K = some r) (kk : ∀ (v : Int64) (h' : Ph), K v h' = some r → PW E V nc ns N (X h') (pc + 3) lv (.long v :: st)) : PW E V nc ns N G pc lv stk := by
  cases hf : f with
  | none => rw [hf] at hm; cases hm
  | some x =>
    rw [hf] at hm
    exact q_callVN hE hd (hc x.1 x.2 hf) hM hw hk hL hn hst hnc hns hstk hC hG haN (kk x.1 x.2 hm)
theorem q_callVN_v (hE : CX E V l cc own nL kR rc rs ret) {idx nL' k' n : Nat} {y : MethodName} {cc' : ByteArray} {ret' : Option FieldType} {As stk : List Value} {Ph B : Type} {X : Ph → Nat → va_E} {f : Option (Unit × Ph)} {K : Unit → Ph → Option B} {r : B} {a : Nat} {host : String} (hd : decode cc pc = .ok (.invokevirtual idx, 3)) (hM : MWV y cc' nL' ret' n) (hw : Cond.methodLinkNest own idx y host ∈ TN) (hk : Nat.ble (k' + 1) kR = true) (hL : Nat.ble nL' 44 = true) (hn : As.length = n) (hst : Nat.ble (st.map fun v => v.category).sum 8 = true) (hnc : nc ≤ rc) (hns : ns ≤ rs) (hstk : stk = As.reverse ++ rf V a :: st) {ci nn : Nat} {T : u_T} {ty0 : Nat → FieldType} {fs : List Value} (hC : KCl ci y.cls T nn ty0) (hG : G a = .inr (ci, fs)) (haN : Nat.ble (a + 1) N = true) (hc : ∀ (v : Unit) (h' : Ph), f = some (v, h') → Ctr l V y cc' nL' ret' k' (rf V a :: As) N G N (X h') (none) 0 0) (hm : bnd f K = some r) (kk : ∀ (v : Unit) (h' : Ph), K v h' = some r → PW E V nc ns N (X h') (pc + 3) lv (st)) : PW E V nc ns N G pc lv stk := by
  cases hf : f with
  | none => rw [hf] at hm; cases hm
  | some x =>
    rw [hf] at hm
    exact q_callVN hE hd (hc x.1 x.2 hf) hM hw hk hL hn hst hnc hns hstk hC hG haN (kk x.1 x.2 hm)
theorem q_callS (hE : CX E V l cc own nL kR rc rs ret) {idx nL' k' mc ms n : Nat} {y : MethodName} {cc' : ByteArray} {ret' : Option FieldType} {N' : Nat} {G' : Nat → va_E} {ov : Option Value} {As stk : List Value} (hd : decode cc pc = .ok (.invokestatic idx, 3)) (hc : Ctr l V y cc' nL' ret' k' As N G N' G' ov mc ms) (hM : MWS y cc' nL' ret' n) (hw : Cond.methodLink own idx y ∈ TG) (hk : Nat.ble (k' + 1) kR = true) (hL : Nat.ble nL' 44 = true) (hn : As.length = n) (hst : Nat.ble (st.map fun v => v.category).sum 8 = true) (hmc : nc + mc ≤ rc) (hms : ns + ms ≤ rs) (hstk : stk = As.reverse ++ st) (kk : PW E V (nc + mc) (ns + ms) N' G' (pc + 3) lv (ov.toList ++ st)) : PW E V nc ns N G pc lv stk := by
  obtain ⟨p, l0, e, R, s, m, args, below, meth, c, Q⟩ := E
  intro H locs ls h1 h2 h3 h4
  have hk9 := Nat.le_of_ble_eq_true hk
  have hL9 := Nat.le_of_ble_eq_true hL
  have hst9 := Nat.le_of_ble_eq_true hst
  have hF : kR ≤ R.frames := hE.2.2.2.2.2.2.1
  have hLo : 64 * kR ≤ R.locals := hE.2.2.2.2.2.2.2.1
  have hb : V.2.2.1 ≤ s.heap.size := hE.2.2.2.2.2.2.2.2.1
  have hC1 : rc ≤ R.cells := hE.2.2.2.2.2.2.2.2.2.1
  have hS1 : rs ≤ R.slots := hE.2.2.2.2.2.2.2.2.2.2.1
  have hll : l0 = l := hE.2.2.2.2.2.2.2.2.2.2.2.2.2
  subst hll
  subst hstk
  exact run_end (va_runS (As := As) (rest := st) ⟨hE.1, hE.2.1, hE.2.2.1, hE.2.2.2.1, hE.2.2.2.2.1⟩ hc ⟨⟨rfl, rfl, by show k' + 1 ≤ _; omega, by show 8 + (nL' + 11) + 64 * k' ≤ _; omega, mw_pay hE.2.2.2.2.1 hM.1.1, List.mem_cons_self, hE.2.2.2.2.1 _ hM.1.1, hE.2.2.2.2.1 _ hM.1.2.1, hM.1.2.2.1, mw_sig hM.1.2.2.2, hE.2.2.2.2.1 _ hw⟩, hE.2.2.2.2.1 _ hM.2⟩ ⟨SW.blind, fun U hU hW => SW.here h1 h2 h3 hb hE.2.2.2.2.2.1 hU hW⟩ rfl hn (h4.1.trans hE.2.2.1) rfl (lv_room hst9) hd ⟨by omega, by omega⟩) hb h3 h4 kk
theorem q_callS_i (hE : CX E V l cc own nL kR rc rs ret) {idx nL' k' n : Nat} {y : MethodName} {cc' : ByteArray} {ret' : Option FieldType} {As stk : List Value} {Ph B : Type} {X : Ph → Nat → va_E} {f : Option (Int32 × Ph)} {K : Int32 → Ph → Option B} {r : B} (hd : decode cc pc = .ok (.invokestatic idx, 3)) (hM : MWS y cc' nL' ret' n) (hw : Cond.methodLink own idx y ∈ TG) (hk : Nat.ble (k' + 1) kR = true) (hL : Nat.ble nL' 44 = true) (hn : As.length = n) (hst : Nat.ble (st.map fun v => v.category).sum 8 = true) (hnc : nc ≤ rc) (hns : ns ≤ rs) (hstk : stk = As.reverse ++ st) (hc : ∀ (v : Int32) (h' : Ph), f = some (v, h') → Ctr l V y cc' nL' ret' k' As N G N (X h') (some (.int v)) 0 0) (hm : bnd f K = some r) (kk : ∀ (v : Int32) (h' : Ph), K v h' = some r → PW E V nc ns N (X h') (pc + 3) lv (.int v :: st)) : PW E V nc ns N G pc lv stk := by
  cases hf : f with
  | none => rw [hf] at hm; cases hm
  | some x =>
    rw [hf] at hm
    exact q_callS hE hd (hc x.1 x.2 hf) hM hw hk hL hn hst hnc hns hstk (kk x.1 x.2 hm)
theorem q_callS_l (hE : CX E V l cc own nL kR rc rs ret) {idx nL' k' n : Nat} {y : MethodName} {cc' : ByteArray} {ret' : Option FieldType} {As stk : List Value} {Ph B : Type} {X : Ph → Nat → va_E} {f : Option (Int64 × Ph)} {K : Int64 → Ph → Option B} {r : B} (hd : decode cc pc = .ok (.invokestatic idx, 3)) (hM : MWS y cc' nL' ret' n) (hw : Cond.methodLink own idx y ∈ TG) (hk : Nat.ble (k' + 1) kR = true) (hL : Nat.ble nL' 44 = true) (hn : As.length = n) (hst : Nat.ble (st.map fun v => v.category).sum 8 = true) (hnc : nc ≤ rc) (hns : ns ≤ rs) (hstk : stk = As.reverse ++ st) (hc : ∀ (v : Int64) (h' : Ph), f = some (v, h') → Ctr l V y cc' nL' ret' k' As N G N (X h') (some (.long v)) 0 0) (hm : bnd f K = some r) (kk : ∀ (v : Int64) (h' : Ph), K v h' = some r → PW E V nc ns N (X h') (pc + 3) lv (.long v :: st)) : PW E V nc ns N G pc lv stk := by
  cases hf : f with
  | none => rw [hf] at hm; cases hm
  | some x =>
    rw [hf] at hm
    exact q_callS hE hd (hc x.1 x.2 hf) hM hw hk hL hn hst hnc hns hstk (kk x.1 x.2 hm)
theorem q_callS_v (hE : CX E V l cc own nL kR rc rs ret) {idx nL' k' n : Nat} {y : MethodName} {cc' : ByteArray} {ret' : Option FieldType} {As stk : List Value} {Ph B : Type} {X : Ph → Nat → va_E} {f : Option (Unit × Ph)} {K : Unit → Ph → Option B} {r : B} (hd : decode cc pc = .ok (.invokestatic idx, 3)) (hM : MWS y cc' nL' ret' n) (hw : Cond.methodLink own idx y ∈ TG) (hk : Nat.ble (k' + 1) kR = true) (hL : Nat.ble nL' 44 = true) (hn : As.length = n) (hst : Nat.ble (st.map fun v => v.category).sum 8 = true) (hnc : nc ≤ rc) (hns : ns ≤ rs) (hstk : stk = As.reverse ++ st) (hc : ∀ (v : Unit) (h' : Ph), f = some (v, h') → Ctr l V y cc' nL' ret' k' As N G N (X h') (none) 0 0) (hm : bnd f K = some r) (kk : ∀ (v : Unit) (h' : Ph), K v h' = some r → PW E V nc ns N (X h') (pc + 3) lv (st)) : PW E V nc ns N G pc lv stk := by
  cases hf : f with
  | none => rw [hf] at hm; cases hm
  | some x =>
    rw [hf] at hm
    exact q_callS hE hd (hc x.1 x.2 hf) hM hw hk hL hn hst hnc hns hstk (kk x.1 x.2 hm)
theorem q_callSN (hE : CX E V l cc own nL kR rc rs ret) {idx nL' k' mc ms n : Nat} {y : MethodName} {cc' : ByteArray} {ret' : Option FieldType} {N' : Nat} {G' : Nat → va_E} {ov : Option Value} {As stk : List Value} {host : String} (hd : decode cc pc = .ok (.invokestatic idx, 3)) (hc : Ctr l V y cc' nL' ret' k' As N G N' G' ov mc ms) (hM : MWS y cc' nL' ret' n) (hw : Cond.methodLinkNest own idx y host ∈ TN) (hk : Nat.ble (k' + 1) kR = true) (hL : Nat.ble nL' 44 = true) (hn : As.length = n) (hst : Nat.ble (st.map fun v => v.category).sum 8 = true) (hmc : nc + mc ≤ rc) (hms : ns + ms ≤ rs) (hstk : stk = As.reverse ++ st) (kk : PW E V (nc + mc) (ns + ms) N' G' (pc + 3) lv (ov.toList ++ st)) : PW E V nc ns N G pc lv stk := by
  obtain ⟨p, l0, e, R, s, m, args, below, meth, c, Q⟩ := E
  intro H locs ls h1 h2 h3 h4
  have hk9 := Nat.le_of_ble_eq_true hk
  have hL9 := Nat.le_of_ble_eq_true hL
  have hst9 := Nat.le_of_ble_eq_true hst
  have hF : kR ≤ R.frames := hE.2.2.2.2.2.2.1
  have hLo : 64 * kR ≤ R.locals := hE.2.2.2.2.2.2.2.1
  have hb : V.2.2.1 ≤ s.heap.size := hE.2.2.2.2.2.2.2.2.1
  have hC1 : rc ≤ R.cells := hE.2.2.2.2.2.2.2.2.2.1
  have hS1 : rs ≤ R.slots := hE.2.2.2.2.2.2.2.2.2.2.1
  have hll : l0 = l := hE.2.2.2.2.2.2.2.2.2.2.2.2.2
  subst hll
  subst hstk
  exact run_end (va_runSN (As := As) (rest := st) ⟨hE.1, hE.2.1, hE.2.2.1, hE.2.2.2.1, hE.2.2.2.2.1⟩ hc ⟨⟨⟨rfl, rfl, by show k' + 1 ≤ _; omega, by show 8 + (nL' + 11) + 64 * k' ≤ _; omega, mw_pay hE.2.2.2.2.1 hM.1.1, List.mem_cons_self⟩, hE.2.2.2.2.1 _ hM.1.1, hE.2.2.2.2.1 _ hM.1.2.1, hM.1.2.2.1, mw_sig hM.1.2.2.2, va_Nw.use rfl (hE.2.2.2.2.2.1.2.1 _ hw)⟩, hE.2.2.2.2.1 _ hM.2, trivial⟩ ⟨SW.blind, fun U hU hW => SW.here h1 h2 h3 hb hE.2.2.2.2.2.1 hU hW⟩ rfl hn (h4.1.trans hE.2.2.1) rfl (lv_room hst9) hd ⟨by omega, by omega⟩) hb h3 h4 kk
theorem q_callSN_i (hE : CX E V l cc own nL kR rc rs ret) {idx nL' k' n : Nat} {y : MethodName} {cc' : ByteArray} {ret' : Option FieldType} {As stk : List Value} {Ph B : Type} {X : Ph → Nat → va_E} {f : Option (Int32 × Ph)} {K : Int32 → Ph → Option B} {r : B} {host : String} (hd : decode cc pc = .ok (.invokestatic idx, 3)) (hM : MWS y cc' nL' ret' n) (hw : Cond.methodLinkNest own idx y host ∈ TN) (hk : Nat.ble (k' + 1) kR = true) (hL : Nat.ble nL' 44 = true) (hn : As.length = n) (hst : Nat.ble (st.map fun v => v.category).sum 8 = true) (hnc : nc ≤ rc) (hns : ns ≤ rs) (hstk : stk = As.reverse ++ st) (hc : ∀ (v : Int32) (h' : Ph), f = some (v, h') → Ctr l V y cc' nL' ret' k' As N G N (X h') (some (.int v)) 0 0) (hm : bnd f K = some r) (kk : ∀ (v : Int32) (h' : Ph), K v h' = some r → PW E V nc ns N (X h') (pc + 3) lv (.int v :: st)) : PW E V nc ns N G pc lv stk := by
  cases hf : f with
  | none => rw [hf] at hm; cases hm
  | some x =>
    rw [hf] at hm
    exact q_callSN hE hd (hc x.1 x.2 hf) hM hw hk hL hn hst hnc hns hstk (kk x.1 x.2 hm)
theorem q_callSN_l (hE : CX E V l cc own nL kR rc rs ret) {idx nL' k' n : Nat} {y : MethodName} {cc' : ByteArray} {ret' : Option FieldType} {As stk : List Value} {Ph B : Type} {X : Ph → Nat → va_E} {f : Option (Int64 × Ph)} {K : Int64 → Ph → Option B} {r : B} {host : String} (hd : decode cc pc = .ok (.invokestatic idx, 3)) (hM : MWS y cc' nL' ret' n) (hw : Cond.methodLinkNest own idx y host ∈ TN) (hk : Nat.ble (k' + 1) kR = true) (hL : Nat.ble nL' 44 = true) (hn : As.length = n) (hst : Nat.ble (st.map fun v => v.category).sum 8 = true) (hnc : nc ≤ rc) (hns : ns ≤ rs) (hstk : stk = As.reverse ++ st) (hc : ∀ (v : Int64) (h' : Ph), f = some (v, h') → Ctr l V y cc' nL' ret' k' As N G N (X h') (some (.long v)) 0 0) (hm : bnd f K = some r) (kk : ∀ (v : Int64) (h' : Ph), K v h' = some r → PW E V nc ns N (X h') (pc + 3) lv (.long v :: st)) : PW E V nc ns N G pc lv stk := by
  cases hf : f with
  | none => rw [hf] at hm; cases hm
  | some x =>
    rw [hf] at hm
    exact q_callSN hE hd (hc x.1 x.2 hf) hM hw hk hL hn hst hnc hns hstk (kk x.1 x.2 hm)
theorem q_callSN_v (hE : CX E V l cc own nL kR rc rs ret) {idx nL' k' n : Nat} {y : MethodName} {cc' : ByteArray} {ret' : Option FieldType} {As stk : List Value} {Ph B : Type} {X : Ph → Nat → va_E} {f : Option (Unit × Ph)} {K : Unit → Ph → Option B} {r : B} {host : String} (hd : decode cc pc = .ok (.invokestatic idx, 3)) (hM : MWS y cc' nL' ret' n) (hw : Cond.methodLinkNest own idx y host ∈ TN) (hk : Nat.ble (k' + 1) kR = true) (hL : Nat.ble nL' 44 = true) (hn : As.length = n) (hst : Nat.ble (st.map fun v => v.category).sum 8 = true) (hnc : nc ≤ rc) (hns : ns ≤ rs) (hstk : stk = As.reverse ++ st) (hc : ∀ (v : Unit) (h' : Ph), f = some (v, h') → Ctr l V y cc' nL' ret' k' As N G N (X h') (none) 0 0) (hm : bnd f K = some r) (kk : ∀ (v : Unit) (h' : Ph), K v h' = some r → PW E V nc ns N (X h') (pc + 3) lv (st)) : PW E V nc ns N G pc lv stk := by
  cases hf : f with
  | none => rw [hf] at hm; cases hm
  | some x =>
    rw [hf] at hm
    exact q_callSN hE hd (hc x.1 x.2 hf) hM hw hk hL hn hst hnc hns hstk (kk x.1 x.2 hm)
theorem q_callI (hE : CX E V l cc own nL kR rc rs ret) {idx nL' k' mc ms n : Nat} {y : MethodName} {cc' : ByteArray} {ret' : Option FieldType} {N' : Nat} {G' : Nat → va_E} {ov : Option Value} {As stk : List Value} {a : Nat} (hd : decode cc pc = .ok (.invokespecial idx, 3)) (hc : Ctr l V y cc' nL' ret' k' (rf V a :: As) N G N' G' ov mc ms) (hM : MWI y cc' nL' ret' n) (hw : Cond.methodLink own idx y ∈ TG) (hk : Nat.ble (k' + 1) kR = true) (hL : Nat.ble nL' 44 = true) (hn : As.length = n) (hst : Nat.ble (st.map fun v => v.category).sum 8 = true) (hmc : nc + mc ≤ rc) (hms : ns + ms ≤ rs) (hstk : stk = As.reverse ++ rf V a :: st) (hri : ret' = none) (kk : PW E V (nc + mc) (ns + ms) N' G' (pc + 3) lv (ov.toList ++ st)) : PW E V nc ns N G pc lv stk := by
  obtain ⟨p, l0, e, R, s, m, args, below, meth, c, Q⟩ := E
  intro H locs ls h1 h2 h3 h4
  have hk9 := Nat.le_of_ble_eq_true hk
  have hL9 := Nat.le_of_ble_eq_true hL
  have hst9 := Nat.le_of_ble_eq_true hst
  have hF : kR ≤ R.frames := hE.2.2.2.2.2.2.1
  have hLo : 64 * kR ≤ R.locals := hE.2.2.2.2.2.2.2.1
  have hb : V.2.2.1 ≤ s.heap.size := hE.2.2.2.2.2.2.2.2.1
  have hC1 : rc ≤ R.cells := hE.2.2.2.2.2.2.2.2.2.1
  have hS1 : rs ≤ R.slots := hE.2.2.2.2.2.2.2.2.2.2.1
  have hll : l0 = l := hE.2.2.2.2.2.2.2.2.2.2.2.2.2
  subst hll
  subst hstk
  subst hri
  exact run_end (va_runI (As := As) (rest := st) ⟨hE.1, hE.2.1, hE.2.2.1, hE.2.2.2.1, hE.2.2.2.2.1⟩ hc ⟨⟨rfl, rfl, by show k' + 1 ≤ _; omega, by show 8 + (nL' + 11) + 64 * k' ≤ _; omega, mw_pay hE.2.2.2.2.1 hM.1.1, List.mem_cons_self, hE.2.2.2.2.1 _ hM.1.1, hE.2.2.2.2.1 _ hM.1.2.1, hM.1.2.2.1, mw_sig hM.1.2.2.2, hE.2.2.2.2.1 _ hw⟩, hM.2.1, hE.2.2.2.2.1 _ hM.2.2⟩ ⟨SW.blind, fun U hU hW => SW.here h1 h2 h3 hb hE.2.2.2.2.2.1 hU hW⟩ rfl hn (h4.1.trans hE.2.2.1) rfl (lv_room hst9) hd ⟨by omega, by omega⟩) hb h3 h4 kk
theorem q_callIN (hE : CX E V l cc own nL kR rc rs ret) {idx nL' k' mc ms n : Nat} {y : MethodName} {cc' : ByteArray} {ret' : Option FieldType} {N' : Nat} {G' : Nat → va_E} {ov : Option Value} {As stk : List Value} {a : Nat} {host : String} (hd : decode cc pc = .ok (.invokespecial idx, 3)) (hc : Ctr l V y cc' nL' ret' k' (rf V a :: As) N G N' G' ov mc ms) (hM : MWI y cc' nL' ret' n) (hw : Cond.methodLinkNest own idx y host ∈ TN) (hk : Nat.ble (k' + 1) kR = true) (hL : Nat.ble nL' 44 = true) (hn : As.length = n) (hst : Nat.ble (st.map fun v => v.category).sum 8 = true) (hmc : nc + mc ≤ rc) (hms : ns + ms ≤ rs) (hstk : stk = As.reverse ++ rf V a :: st) (hri : ret' = none) (kk : PW E V (nc + mc) (ns + ms) N' G' (pc + 3) lv (ov.toList ++ st)) : PW E V nc ns N G pc lv stk := by
  obtain ⟨p, l0, e, R, s, m, args, below, meth, c, Q⟩ := E
  intro H locs ls h1 h2 h3 h4
  have hk9 := Nat.le_of_ble_eq_true hk
  have hL9 := Nat.le_of_ble_eq_true hL
  have hst9 := Nat.le_of_ble_eq_true hst
  have hF : kR ≤ R.frames := hE.2.2.2.2.2.2.1
  have hLo : 64 * kR ≤ R.locals := hE.2.2.2.2.2.2.2.1
  have hb : V.2.2.1 ≤ s.heap.size := hE.2.2.2.2.2.2.2.2.1
  have hC1 : rc ≤ R.cells := hE.2.2.2.2.2.2.2.2.2.1
  have hS1 : rs ≤ R.slots := hE.2.2.2.2.2.2.2.2.2.2.1
  have hll : l0 = l := hE.2.2.2.2.2.2.2.2.2.2.2.2.2
  subst hll
  subst hstk
  subst hri
  exact run_end (va_runIN (As := As) (rest := st) ⟨hE.1, hE.2.1, hE.2.2.1, hE.2.2.2.1, hE.2.2.2.2.1⟩ hc ⟨⟨⟨rfl, rfl, by show k' + 1 ≤ _; omega, by show 8 + (nL' + 11) + 64 * k' ≤ _; omega, mw_pay hE.2.2.2.2.1 hM.1.1, List.mem_cons_self⟩, hE.2.2.2.2.1 _ hM.1.1, hE.2.2.2.2.1 _ hM.1.2.1, hM.1.2.2.1, mw_sig hM.1.2.2.2, va_Nw.use rfl (hE.2.2.2.2.2.1.2.1 _ hw)⟩, hM.2.1, hE.2.2.2.2.1 _ hM.2.2⟩ ⟨SW.blind, fun U hU hW => SW.here h1 h2 h3 hb hE.2.2.2.2.2.1 hU hW⟩ rfl hn (h4.1.trans hE.2.2.1) rfl (lv_room hst9) hd ⟨by omega, by omega⟩) hb h3 h4 kk
theorem q_iret0 (hE : CX E V l cc own nL kR rc rs ret) {ov : Option Value} {mc ms : Nat} {v : Int32} (hd : decode cc pc = .ok (.ireturn, 1)) (hQ : RQ E V N G ov mc ms) (hnc : nc ≤ mc) (hns : ns ≤ ms) (hov : ov = some (.int v)) (hr0 : ret = some .int) : PW E V nc ns N G pc lv [.int v] := by
  obtain ⟨p, l0, e, R, s, m, args, below, meth, c, Q⟩ := E
  intro H locs ls h1 h2 h3 h4
  have hQ : Q = MQ below (QcM V N G ov) args s mc ms (fun q => V.2.2.1 ≤ q) := hQ
  subst hQ
  have hret : meth.sig.returnType = ret := hE.2.2.2.2.2.2.2.2.2.2.2.2.1
  have hlk : meth.locks = false := hE.2.2.2.2.2.2.2.2.2.2.2.1
  have hb : V.2.2.1 ≤ s.heap.size := hE.2.2.2.2.2.2.2.2.1
  refine W.widen hnc hns ?_
  refine W.iret hE.1 hE.2.1 (hret.trans hr0) (fun t ht hW => ?_) h3.2.2 hd hlk
  refine ⟨by rw [hov], ⟨by rw [ht]; exact h1, by rw [ht]; exact h2, by rw [ht]; exact Nat.le_trans hb h3.1, ?_⟩, h3.F ht⟩
  rw [ht]
  exact ST.kept (ST.warm hW hE.2.2.2.2.2.1) (fun a ha hn => h3.2.1 a ha hn)
theorem q_zret0 (hE : CX E V l cc own nL kR rc rs ret) {ov : Option Value} {mc ms : Nat} {v : Int32} {ty : FieldType} (hd : decode cc pc = .ok (.ireturn, 1)) (hQ : RQ E V N G ov mc ms) (hnc : nc ≤ mc) (hns : ns ≤ ms) (hov : ov = some (.int v)) (hr0 : ret = some ty) (hn : narrow ty (.int v) = .int v) : PW E V nc ns N G pc lv [.int v] := by
  obtain ⟨p, l0, e, R, s, m, args, below, meth, c, Q⟩ := E
  intro H locs ls h1 h2 h3 h4
  have hQ : Q = MQ below (QcM V N G ov) args s mc ms (fun q => V.2.2.1 ≤ q) := hQ
  subst hQ
  have hret : meth.sig.returnType = ret := hE.2.2.2.2.2.2.2.2.2.2.2.2.1
  have hlk : meth.locks = false := hE.2.2.2.2.2.2.2.2.2.2.2.1
  have hb : V.2.2.1 ≤ s.heap.size := hE.2.2.2.2.2.2.2.2.1
  refine W.widen hnc hns ?_
  refine W.zret hE.1 hE.2.1 (hret.trans hr0) hn (fun t ht hW => ?_) h3.2.2 hd hlk
  refine ⟨by rw [hov], ⟨by rw [ht]; exact h1, by rw [ht]; exact h2, by rw [ht]; exact Nat.le_trans hb h3.1, ?_⟩, h3.F ht⟩
  rw [ht]
  exact ST.kept (ST.warm hW hE.2.2.2.2.2.1) (fun a ha hn => h3.2.1 a ha hn)
theorem q_lret0 (hE : CX E V l cc own nL kR rc rs ret) {ov : Option Value} {mc ms : Nat} {v : Int64} (hd : decode cc pc = .ok (.lreturn, 1)) (hQ : RQ E V N G ov mc ms) (hnc : nc ≤ mc) (hns : ns ≤ ms) (hov : ov = some (.long v)) (hr0 : ret = some .long) : PW E V nc ns N G pc lv [.long v] := by
  obtain ⟨p, l0, e, R, s, m, args, below, meth, c, Q⟩ := E
  intro H locs ls h1 h2 h3 h4
  have hQ : Q = MQ below (QcM V N G ov) args s mc ms (fun q => V.2.2.1 ≤ q) := hQ
  subst hQ
  have hret : meth.sig.returnType = ret := hE.2.2.2.2.2.2.2.2.2.2.2.2.1
  have hlk : meth.locks = false := hE.2.2.2.2.2.2.2.2.2.2.2.1
  have hb : V.2.2.1 ≤ s.heap.size := hE.2.2.2.2.2.2.2.2.1
  refine W.widen hnc hns ?_
  refine W.lret hE.1 hE.2.1 (hret.trans hr0) (fun t ht hW => ?_) h3.2.2 hd hlk
  refine ⟨by rw [hov], ⟨by rw [ht]; exact h1, by rw [ht]; exact h2, by rw [ht]; exact Nat.le_trans hb h3.1, ?_⟩, h3.F ht⟩
  rw [ht]
  exact ST.kept (ST.warm hW hE.2.2.2.2.2.1) (fun a ha hn => h3.2.1 a ha hn)
theorem q_vret0 (hE : CX E V l cc own nL kR rc rs ret) {ov : Option Value} {mc ms : Nat} (hd : decode cc pc = .ok (.return_, 1)) (hQ : RQ E V N G ov mc ms) (hnc : nc ≤ mc) (hns : ns ≤ ms) (hov : ov = none) (hr0 : ret = none) : PW E V nc ns N G pc lv [] := by
  obtain ⟨p, l0, e, R, s, m, args, below, meth, c, Q⟩ := E
  intro H locs ls h1 h2 h3 h4
  have hQ : Q = MQ below (QcM V N G ov) args s mc ms (fun q => V.2.2.1 ≤ q) := hQ
  subst hQ
  have hret : meth.sig.returnType = ret := hE.2.2.2.2.2.2.2.2.2.2.2.2.1
  have hlk : meth.locks = false := hE.2.2.2.2.2.2.2.2.2.2.2.1
  have hb : V.2.2.1 ≤ s.heap.size := hE.2.2.2.2.2.2.2.2.1
  refine W.widen hnc hns ?_
  refine W.vret hE.1 hE.2.1 (hret.trans hr0) (fun t ht hW => ?_) h3.2.2 hd hlk
  refine ⟨by rw [hov], ⟨by rw [ht]; exact h1, by rw [ht]; exact h2, by rw [ht]; exact Nat.le_trans hb h3.1, ?_⟩, h3.F ht⟩
  rw [ht]
  exact ST.kept (ST.warm hW hE.2.2.2.2.2.1) (fun a ha hn => h3.2.1 a ha hn)
theorem W.zret2 {p : Program} {l : Launch} {e : Env} {R : Room} {s : State} {m : MethodId} {args : Array Value} {below : List Frame} {meth : Method} {c : Code} {H : Heap} {locs : List Loc} {cells slots : Nat} {cc : ByteArray} {Qc : Array Value → State → Outcome → State → Prop} {free : Addr → Prop} {v v' : Int32} {ty : FieldType} (hexec : p.tables.exec = Jvm.exec) (hb : c.code = cc) (hr : meth.sig.returnType = some ty) (hn : narrow ty (.int v) = .int v')
    (hq : ∀ t : State, t.heap = H → s.WarmedH t.vm → Qc args s (.returned (some (.int v'))) t) (hf : ∀ q ∈ locs, free q.base)
    {pc : Nat} {ls : Array Slot} (hdg : decode cc pc = .ok (.ireturn, 1)) (hlocks : meth.locks = false) : W p l e R s m args below meth c H locs cells slots (MQ below Qc args s cells slots free) (F0 m pc ls [.int v]) := by
  intro T hT X
  obtain ⟨fs, hret, hrun, hended, hW, hframe⟩ := X.leave (v := some (.int v')) (fun h => by rw [hr] at h; cases h)
  have hmeth' : T.vm.method? m = some meth := X.method'
  refine ⟨T.setFrames fs, ?_, .returned (some (.int v')), hrun, hended, hq _ hT hW, locs, ⟨⟨_, rfl⟩, hW, hframe⟩, hf⟩
  jvm_step X.here [X.here.top, hexec, hb, hdg, hmeth', hr, hn]
  (try refine ⟨rfl, ?_⟩); (try refine ⟨rfl, ?_⟩)
  first | (intro acts; rw [hret _ acts rfl rfl rfl]) | rw [hret _ _ rfl rfl rfl]
  exact Steps.refl _
theorem q_bret0 (hE : CX E V l cc own nL kR rc rs ret) {ov : Option Value} {mc ms : Nat} {v v' : Int32} {ty : FieldType} (hd : decode cc pc = .ok (.ireturn, 1)) (hQ : RQ E V N G ov mc ms) (hnc : nc ≤ mc) (hns : ns ≤ ms) (hov : ov = some (.int v')) (hr0 : ret = some ty) (hn : narrow ty (.int v) = .int v') : PW E V nc ns N G pc lv [.int v] := by
  obtain ⟨p, l0, e, R, s, m, args, below, meth, c, Q⟩ := E
  intro H locs ls h1 h2 h3 h4
  have hQ : Q = MQ below (QcM V N G ov) args s mc ms (fun q => V.2.2.1 ≤ q) := hQ
  subst hQ
  have hret : meth.sig.returnType = ret := hE.2.2.2.2.2.2.2.2.2.2.2.2.1
  have hlk : meth.locks = false := hE.2.2.2.2.2.2.2.2.2.2.2.1
  have hb : V.2.2.1 ≤ s.heap.size := hE.2.2.2.2.2.2.2.2.1
  refine W.widen hnc hns ?_
  refine W.zret2 hE.1 hE.2.1 (hret.trans hr0) hn (fun t ht hW => ?_) h3.2.2 hd hlk
  refine ⟨by rw [hov], ⟨by rw [ht]; exact h1, by rw [ht]; exact h2, by rw [ht]; exact Nat.le_trans hb h3.1, ?_⟩, h3.F ht⟩
  rw [ht]
  exact ST.kept (ST.warm hW hE.2.2.2.2.2.1) (fun a ha hn => h3.2.1 a ha hn)
theorem q_iret (hE : CX E V l cc own nL kR rc rs ret) {Ph : Type} {X : Ph → Nat → va_E} {v : Int32} {h : Ph} {r : Int32 × Ph} (hd : decode cc pc = .ok (.ireturn, 1)) (hm : some (v, h) = some r) (hQ : RQ E V N (X r.2) (some (.int r.1)) 0 0) (hr0 : ret = some .int) : PW E V 0 0 N (X h) pc lv [.int v] := by
  have hm := Option.some.inj hm
  subst hm
  exact q_iret0 hE hd hQ (Nat.le_refl _) (Nat.le_refl _) rfl hr0
theorem q_lret (hE : CX E V l cc own nL kR rc rs ret) {Ph : Type} {X : Ph → Nat → va_E} {v : Int64} {h : Ph} {r : Int64 × Ph} (hd : decode cc pc = .ok (.lreturn, 1)) (hm : some (v, h) = some r) (hQ : RQ E V N (X r.2) (some (.long r.1)) 0 0) (hr0 : ret = some .long) : PW E V 0 0 N (X h) pc lv [.long v] := by
  have hm := Option.some.inj hm
  subst hm
  exact q_lret0 hE hd hQ (Nat.le_refl _) (Nat.le_refl _) rfl hr0
theorem q_bret (hE : CX E V l cc own nL kR rc rs ret) {Ph : Type} {X : Ph → Nat → va_E} {v v' : Int32} {ty : FieldType} {h : Ph} {r : Int32 × Ph} (hd : decode cc pc = .ok (.ireturn, 1)) (hm : some (v', h) = some r) (hQ : RQ E V N (X r.2) (some (.int r.1)) 0 0) (hr0 : ret = some ty) (hn : narrow ty (.int v) = .int v') : PW E V 0 0 N (X h) pc lv [.int v] := by
  have hm := Option.some.inj hm
  subst hm
  exact q_bret0 hE hd hQ (Nat.le_refl _) (Nat.le_refl _) rfl hr0 hn
theorem q_vret (hE : CX E V l cc own nL kR rc rs ret) {Ph : Type} {X : Ph → Nat → va_E} {h : Ph} {r : Unit × Ph} (hd : decode cc pc = .ok (.return_, 1)) (hm : some ((), h) = some r) (hQ : RQ E V N (X r.2) none 0 0) (hr0 : ret = none) : PW E V 0 0 N (X h) pc lv [] := by
  have hm := Option.some.inj hm
  subst hm
  exact q_vret0 hE hd hQ (Nat.le_refl _) (Nat.le_refl _) rfl hr0
theorem q_sub (hE : CX E V l cc own nL kR rc rs ret) (ps : List Nat) {lv' : List (Nat × Value)} (hl : lv_pick lv ps = lv') (kk : PW E V nc ns N G pc lv' st) : PW E V nc ns N G pc lv st := by
  obtain ⟨p, l0, e, R, s, m, args, below, meth, c, Q⟩ := E
  intro H locs ls h1 h2 h3 h4
  exact kk H locs ls h1 h2 h3 (lv_sub h4 ps hl)
end Rows
theorem W_sz {p : Program} {l : Launch} {e : Env} {R : Room} {s : State} {m : MethodId} {args : Array Value} {below : List Frame} {meth : Method} {c : Code} {H : Heap} {locs : List Loc} {nc ns : Nat} {Q : State → Prop} {g : JFrame} (h : W p l e R s m args below meth c H locs nc ns Q g) : W p l e R s m args below meth c H locs nc ns Q g := h
