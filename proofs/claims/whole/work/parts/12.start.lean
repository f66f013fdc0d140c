/-! THE CLAIM OUT OF ONE WALK OF THE LAW'S BODY. Your part is whole_start (and what it stands on); all else here is the same for every law, but numbers. -/
def R_law : String := "ClocksToldLaw"
def lw_P (b : Addr) (xs : List Int32) (args : Array Value) (s : State) : Prop := args = #[.ref b] ∧ s.IntsAt b xs ∧ xs.length ≤ 3072 ∧ (Jvm.Cond.and given_1 narrow_1).before args s = true
def lw_Q (_ : Array Value) (s : State) (o : Outcome) (t : State) : Prop := o = .returned (some (.int 1)) ∧ Framed s o t [] 600000 7302250
def lw_Z (below : List Frame) (a : Array Value) (s : State) : State → Prop := fun t => ∃ o, t.status = .running ∧ Ended t below o ∧ lw_Q a s o t
/-- the law's own end, with 1 on the stack, nothing written that was there before, its room as the claim has it -/
theorem lw_ret {p : Program} {l : Launch} {e : Env} {s : State} {m : MethodId} {below : List Frame} {meth : Method} {c : Code} {b : Nat} (hx : p.tables.exec = Jvm.exec) (hb : c.code = code) (hr : meth.sig.returnType = ret) (hlocks : meth.locks = false) {pc : Nat} {H : Heap} {ls : Array Slot} (hdg : decode code pc = .ok (.ireturn, 1)) : W p l e room_1 s m #[Value.ref b] below meth c H [] 600000 7302250 (lw_Z below #[Value.ref b] s) (F0 m pc ls [.int 1]) := by
  intro T hT X
  obtain ⟨fs, hret, hrun, hended, hW, hframe⟩ := X.leave (v := some (.int 1)) (hlocks := hlocks) (fun h => by rw [hr] at h; cases h)
  have hmeth' : T.vm.method? m = some meth := X.method'
  refine ⟨T.setFrames fs, ?_, .returned (some (.int 1)), hrun, hended, rfl, ⟨_, rfl⟩, hW, hframe⟩
  jvm_step X.here [X.here.top, hx, hb, hdg, hmeth', hr, ret, narrow_b1]
  (try refine ⟨rfl, ?_⟩); (try refine ⟨rfl, ?_⟩)
  first | (intro acts; rw [hret _ acts rfl rfl rfl]) | rw [hret _ _ rfl rfl rfl]
  exact Steps.refl _
/-- what holds at the law's entry: the machine, the code, the tables' words (any of lw_tbl by 'hts w (by decide +kernel)'), the script of L ints xs at the cell b, what the Statement gives of the start (any of its parts by flat_of_before) -/
def lw_At (p : Program) (s : State) (m : MethodId) (meth : Method) (c : Code) (b L : Nat) (xs : Nat → Int32) : Prop :=
  p.tables.exec = Jvm.exec ∧ c.code = code ∧ meth.sig.returnType = ret ∧ c.maxLocals = 4 ∧ s.vm.findClass R_law = some m.cls ∧ (∀ w ∈ lw_tbl, w.before #[Value.ref b] s = true) ∧ va_X b L xs s s.heap ∧ b < s.heap.size ∧ meth.locks = false ∧ (Jvm.Cond.and given_1 narrow_1).before #[Value.ref b] s = true

def ini (k : Nat) : Nat → Int32 := if k = 6 then (fun s => if s = 0 then 100 else 0) else if k = 9 then (fun s => if s = 0 then 5 else 0) else if k = 11 then (fun s => if s = 0 then 10 else 0) else if k = 13 then (fun s => if s = 0 then 8 else 0) else if k = 21 then (fun s => if s = 0 then 100 else 0) else if k = 24 then (fun s => if s = 0 then 5 else 0) else if k = 26 then (fun s => if s = 0 then 10 else 0) else if k = 28 then (fun s => if s = 0 then 8 else 0) else if k = 31 then (fun s => if s = 3 then (-1) else 0) else if k = 34 then (fun s => if s = 3 then (-5) else 0) else if k = 35 then (fun s => if s = 0 then 100 else 0) else if k = 38 then (fun s => if s = 4 then (-5) else 0) else if k = 42 then (fun s => if s = 0 then 100 else 0) else if k = 45 then (fun s => if s = 0 then 100 else 0) else if k = 48 then (fun s => if s = 0 then 100 else 0) else if k = 51 then (fun s => if s = 0 then 100 else 0) else if k = 54 then (fun s => if s = 0 then 100 else 0) else if k = 57 then (fun s => if s = 0 then 100 else 0) else if k = 60 then (fun s => if s = 0 then 100 else 0) else if k = 66 then (fun s => if s = 0 then 10 else 0) else if k = 70 then (fun s => if s = 0 then 10 else 0) else if k = 74 then (fun s => if s = 0 then 10 else 0) else if k = 78 then (fun s => if s = 0 then 10 else 0) else if k = 82 then (fun s => if s = 0 then 10 else 0) else if k = 86 then (fun s => if s = 0 then 10 else 0) else if k = 90 then (fun s => if s = 0 then (-1) else 0) else if k = 92 then (fun s => if s = 0 then (-1) else 0) else if k = 94 then (fun s => if s = 0 then (-1) else 0) else if k = 96 then (fun s => if s = 0 then (-1) else 0) else if k = 98 then (fun s => if s = 0 then (-1) else 0) else if k = 100 then (fun s => if s = 0 then (-1) else 0) else if k = 102 then (fun s => if s = 2 then 100 else if s = 8 then (-1) else if s = 43 then (-1) else 0) else if k = 115 then (upd (upd (upd (upd (upd (upd (upd (upd (upd (upd (upd (upd (fun _ => 0) (ix 0) 110) (ix 1) 101) (ix 2) 119) (ix 3) 115) (ix 4) 104) (ix 5) 117) (ix 6) 115) (ix 7) 104) (ix 8) 112) (ix 9) 97) (ix 10) 99) (ix 11) 101) else if k = 139 then (upd (upd (upd (upd (upd (upd (fun _ => 0) (ix 0) (-1)) (ix 1) (-1)) (ix 2) (-1)) (ix 3) (-1)) (ix 4) (-1)) (ix 5) (-1)) else (fun _ => 0)
def h0 : PH := (ini, fun _ _ => 0, fun _ _ => none)
def GI_all (V : Ev) : Nat → va_E := GI_X10_init V (va_up (GI_X9_init V (va_up (fun _ => .inr (99, [])) 0 (.inr (9, [.null, .null, .int 0, .null, .null, .int 0, .null, .null, .null, .null])))) 102 (.inr (10, [.int 0, .int 0, .int 0, .null, .null, .null, .null, .int 0, .int 0, .int 0, .int 0, .int 0, .null, .null, .null, .null, .null, .null, .null, .null, .int 0, .int 0, .int 0, .null, .null, .int 0, .null, .null, .int 0, .int 0, .null, .null, .null, .int 0, .null, .null, .null, .int 0, .int 0, .null, .null, .null, .int 0, .int 0, .int 0, .int 0, .int 0, .int 0, .int 0, .int 0, .null, .null, .null, .null, .null, .null, .null, .null, .null, .null, .int 0, .null, .null, .null, .null, .null])))
theorem arrV_congr {cA : ClassId} {n : Nat} {f g : Nat → Value} (h : ∀ j, j < n → f j = g j) : arrV cA n f = arrV cA n g := by
  unfold arrV
  congr 2
  funext j
  exact h _ j.2
def EQV (V : Ev) (e e' : va_E) : Prop := e = e' ∨ ∃ (cA : ClassId) (n : Nat) (f g : Nat → Option Nat), e = .inl (cA, n, .inr (.inr (.inr (.inr f)))) ∧ e' = .inl (cA, n, .inr (.inr (.inr (.inr g)))) ∧ ∀ j, j < n → f j = g j
theorem EQV.at {V : Ev} {e e' : va_E} (h : EQV V e e') {D : va_G} {cl : List vw_C} {a : Nat} {Hp : Heap} (hv : va_at D cl (a, e) Hp) : va_at D cl (a, e') Hp := by
  rcases h with rfl | ⟨cA, n, f, g, rfl, rfl, hfg⟩
  · exact hv
  · have hv : Hp[a]? = some (vp_cell cA (n, .inr (.inr (.inr (.inr f))))) := hv
    show Hp[a]? = some (vp_cell cA (n, .inr (.inr (.inr (.inr g)))))
    rw [hv, vp_cell_q, vp_cell_q]
    rw [arrV_congr (f := fun j => va_rf (f j)) (g := fun j => va_rf (g j)) (fun j hj => by rw [hfg j hj])]
set_option maxRecDepth 20000 in
theorem w0_0 (V : Ev) : EQV V (GI_all V 0) (WG V h0 h0 0) := Or.inl rfl
set_option maxRecDepth 20000 in
theorem w0_1 (V : Ev) : EQV V (GI_all V 1) (WG V h0 h0 1) := Or.inl rfl
set_option maxRecDepth 20000 in
theorem w0_2 (V : Ev) : EQV V (GI_all V 2) (WG V h0 h0 2) := Or.inl rfl
set_option maxRecDepth 20000 in
theorem w0_3 (V : Ev) : EQV V (GI_all V 3) (WG V h0 h0 3) := Or.inl rfl
set_option maxRecDepth 20000 in
theorem w0_4 (V : Ev) : EQV V (GI_all V 4) (WG V h0 h0 4) := Or.inl rfl
set_option maxRecDepth 20000 in
theorem w0_5 (V : Ev) : EQV V (GI_all V 5) (WG V h0 h0 5) := Or.inl rfl
set_option maxRecDepth 20000 in
theorem w0_6 (V : Ev) : EQV V (GI_all V 6) (WG V h0 h0 6) := Or.inl rfl
set_option maxRecDepth 20000 in
theorem w0_7 (V : Ev) : EQV V (GI_all V 7) (WG V h0 h0 7) := Or.inl rfl
set_option maxRecDepth 20000 in
theorem w0_8 (V : Ev) : EQV V (GI_all V 8) (WG V h0 h0 8) := Or.inl rfl
set_option maxRecDepth 20000 in
theorem w0_9 (V : Ev) : EQV V (GI_all V 9) (WG V h0 h0 9) := Or.inl rfl
set_option maxRecDepth 20000 in
theorem w0_10 (V : Ev) : EQV V (GI_all V 10) (WG V h0 h0 10) := Or.inl rfl
set_option maxRecDepth 20000 in
theorem w0_11 (V : Ev) : EQV V (GI_all V 11) (WG V h0 h0 11) := Or.inl rfl
set_option maxRecDepth 20000 in
theorem w0_12 (V : Ev) : EQV V (GI_all V 12) (WG V h0 h0 12) := Or.inl rfl
set_option maxRecDepth 20000 in
theorem w0_13 (V : Ev) : EQV V (GI_all V 13) (WG V h0 h0 13) := Or.inl rfl
set_option maxRecDepth 20000 in
theorem w0_14 (V : Ev) : EQV V (GI_all V 14) (WG V h0 h0 14) := Or.inl rfl
set_option maxRecDepth 20000 in
theorem w0_15 (V : Ev) : EQV V (GI_all V 15) (WG V h0 h0 15) := Or.inl rfl
set_option maxRecDepth 20000 in
theorem w0_16 (V : Ev) : EQV V (GI_all V 16) (WG V h0 h0 16) := Or.inl rfl
set_option maxRecDepth 20000 in
theorem w0_17 (V : Ev) : EQV V (GI_all V 17) (WG V h0 h0 17) := Or.inl rfl
set_option maxRecDepth 20000 in
theorem w0_18 (V : Ev) : EQV V (GI_all V 18) (WG V h0 h0 18) := Or.inl rfl
set_option maxRecDepth 20000 in
theorem w0_19 (V : Ev) : EQV V (GI_all V 19) (WG V h0 h0 19) := Or.inl rfl
set_option maxRecDepth 20000 in
theorem w0_20 (V : Ev) : EQV V (GI_all V 20) (WG V h0 h0 20) := Or.inl rfl
set_option maxRecDepth 20000 in
theorem w0_21 (V : Ev) : EQV V (GI_all V 21) (WG V h0 h0 21) := Or.inl rfl
set_option maxRecDepth 20000 in
theorem w0_22 (V : Ev) : EQV V (GI_all V 22) (WG V h0 h0 22) := Or.inl rfl
set_option maxRecDepth 20000 in
theorem w0_23 (V : Ev) : EQV V (GI_all V 23) (WG V h0 h0 23) := Or.inl rfl
set_option maxRecDepth 20000 in
theorem w0_24 (V : Ev) : EQV V (GI_all V 24) (WG V h0 h0 24) := Or.inl rfl
set_option maxRecDepth 20000 in
theorem w0_25 (V : Ev) : EQV V (GI_all V 25) (WG V h0 h0 25) := Or.inl rfl
set_option maxRecDepth 20000 in
theorem w0_26 (V : Ev) : EQV V (GI_all V 26) (WG V h0 h0 26) := Or.inl rfl
set_option maxRecDepth 20000 in
theorem w0_27 (V : Ev) : EQV V (GI_all V 27) (WG V h0 h0 27) := Or.inl rfl
set_option maxRecDepth 20000 in
theorem w0_28 (V : Ev) : EQV V (GI_all V 28) (WG V h0 h0 28) := Or.inl rfl
set_option maxRecDepth 20000 in
theorem w0_29 (V : Ev) : EQV V (GI_all V 29) (WG V h0 h0 29) := Or.inl rfl
set_option maxRecDepth 20000 in
theorem w0_30 (V : Ev) : EQV V (GI_all V 30) (WG V h0 h0 30) := Or.inl rfl
set_option maxRecDepth 20000 in
theorem w0_31 (V : Ev) : EQV V (GI_all V 31) (WG V h0 h0 31) := Or.inl rfl
set_option maxRecDepth 20000 in
theorem w0_32 (V : Ev) : EQV V (GI_all V 32) (WG V h0 h0 32) := Or.inl rfl
set_option maxRecDepth 20000 in
theorem w0_33 (V : Ev) : EQV V (GI_all V 33) (WG V h0 h0 33) := by
  refine Or.inr ⟨_, _, _, _, rfl, rfl, fun j hj => ?_⟩
  match j, hj with
  | 0, _ => rfl
  | 1, _ => rfl
  | 2, _ => rfl
  | 3, _ => rfl
  | 4, _ => rfl
  | 5, _ => rfl
  | j + 6, hj => omega
set_option maxRecDepth 20000 in
theorem w0_34 (V : Ev) : EQV V (GI_all V 34) (WG V h0 h0 34) := Or.inl rfl
set_option maxRecDepth 20000 in
theorem w0_35 (V : Ev) : EQV V (GI_all V 35) (WG V h0 h0 35) := Or.inl rfl
set_option maxRecDepth 20000 in
theorem w0_36 (V : Ev) : EQV V (GI_all V 36) (WG V h0 h0 36) := Or.inl rfl
set_option maxRecDepth 20000 in
theorem w0_37 (V : Ev) : EQV V (GI_all V 37) (WG V h0 h0 37) := Or.inl rfl
set_option maxRecDepth 20000 in
theorem w0_38 (V : Ev) : EQV V (GI_all V 38) (WG V h0 h0 38) := Or.inl rfl
set_option maxRecDepth 20000 in
theorem w0_39 (V : Ev) : EQV V (GI_all V 39) (WG V h0 h0 39) := by
  refine Or.inr ⟨_, _, _, _, rfl, rfl, fun j hj => ?_⟩
  match j, hj with
  | 0, _ => rfl
  | 1, _ => rfl
  | 2, _ => rfl
  | 3, _ => rfl
  | 4, _ => rfl
  | 5, _ => rfl
  | 6, _ => rfl
  | j + 7, hj => omega
set_option maxRecDepth 20000 in
theorem w0_40 (V : Ev) : EQV V (GI_all V 40) (WG V h0 h0 40) := Or.inl rfl
set_option maxRecDepth 20000 in
theorem w0_41 (V : Ev) : EQV V (GI_all V 41) (WG V h0 h0 41) := Or.inl rfl
set_option maxRecDepth 20000 in
theorem w0_42 (V : Ev) : EQV V (GI_all V 42) (WG V h0 h0 42) := Or.inl rfl
set_option maxRecDepth 20000 in
theorem w0_43 (V : Ev) : EQV V (GI_all V 43) (WG V h0 h0 43) := Or.inl rfl
set_option maxRecDepth 20000 in
theorem w0_44 (V : Ev) : EQV V (GI_all V 44) (WG V h0 h0 44) := Or.inl rfl
set_option maxRecDepth 20000 in
theorem w0_45 (V : Ev) : EQV V (GI_all V 45) (WG V h0 h0 45) := Or.inl rfl
set_option maxRecDepth 20000 in
theorem w0_46 (V : Ev) : EQV V (GI_all V 46) (WG V h0 h0 46) := Or.inl rfl
set_option maxRecDepth 20000 in
theorem w0_47 (V : Ev) : EQV V (GI_all V 47) (WG V h0 h0 47) := Or.inl rfl
set_option maxRecDepth 20000 in
theorem w0_48 (V : Ev) : EQV V (GI_all V 48) (WG V h0 h0 48) := Or.inl rfl
set_option maxRecDepth 20000 in
theorem w0_49 (V : Ev) : EQV V (GI_all V 49) (WG V h0 h0 49) := Or.inl rfl
set_option maxRecDepth 20000 in
theorem w0_50 (V : Ev) : EQV V (GI_all V 50) (WG V h0 h0 50) := Or.inl rfl
set_option maxRecDepth 20000 in
theorem w0_51 (V : Ev) : EQV V (GI_all V 51) (WG V h0 h0 51) := Or.inl rfl
set_option maxRecDepth 20000 in
theorem w0_52 (V : Ev) : EQV V (GI_all V 52) (WG V h0 h0 52) := Or.inl rfl
set_option maxRecDepth 20000 in
theorem w0_53 (V : Ev) : EQV V (GI_all V 53) (WG V h0 h0 53) := Or.inl rfl
set_option maxRecDepth 20000 in
theorem w0_54 (V : Ev) : EQV V (GI_all V 54) (WG V h0 h0 54) := Or.inl rfl
set_option maxRecDepth 20000 in
theorem w0_55 (V : Ev) : EQV V (GI_all V 55) (WG V h0 h0 55) := Or.inl rfl
set_option maxRecDepth 20000 in
theorem w0_56 (V : Ev) : EQV V (GI_all V 56) (WG V h0 h0 56) := Or.inl rfl
set_option maxRecDepth 20000 in
theorem w0_57 (V : Ev) : EQV V (GI_all V 57) (WG V h0 h0 57) := Or.inl rfl
set_option maxRecDepth 20000 in
theorem w0_58 (V : Ev) : EQV V (GI_all V 58) (WG V h0 h0 58) := Or.inl rfl
set_option maxRecDepth 20000 in
theorem w0_59 (V : Ev) : EQV V (GI_all V 59) (WG V h0 h0 59) := Or.inl rfl
set_option maxRecDepth 20000 in
theorem w0_60 (V : Ev) : EQV V (GI_all V 60) (WG V h0 h0 60) := Or.inl rfl
set_option maxRecDepth 20000 in
theorem w0_61 (V : Ev) : EQV V (GI_all V 61) (WG V h0 h0 61) := Or.inl rfl
set_option maxRecDepth 20000 in
theorem w0_62 (V : Ev) : EQV V (GI_all V 62) (WG V h0 h0 62) := Or.inl rfl
set_option maxRecDepth 20000 in
theorem w0_63 (V : Ev) : EQV V (GI_all V 63) (WG V h0 h0 63) := Or.inl rfl
set_option maxRecDepth 20000 in
theorem w0_64 (V : Ev) : EQV V (GI_all V 64) (WG V h0 h0 64) := Or.inl rfl
set_option maxRecDepth 20000 in
theorem w0_65 (V : Ev) : EQV V (GI_all V 65) (WG V h0 h0 65) := by
  refine Or.inr ⟨_, _, _, _, rfl, rfl, fun j hj => ?_⟩
  match j, hj with
  | 0, _ => rfl
  | 1, _ => rfl
  | 2, _ => rfl
  | 3, _ => rfl
  | 4, _ => rfl
  | 5, _ => rfl
  | j + 6, hj => omega
set_option maxRecDepth 20000 in
theorem w0_66 (V : Ev) : EQV V (GI_all V 66) (WG V h0 h0 66) := Or.inl rfl
set_option maxRecDepth 20000 in
theorem w0_67 (V : Ev) : EQV V (GI_all V 67) (WG V h0 h0 67) := Or.inl rfl
set_option maxRecDepth 20000 in
theorem w0_68 (V : Ev) : EQV V (GI_all V 68) (WG V h0 h0 68) := Or.inl rfl
set_option maxRecDepth 20000 in
theorem w0_69 (V : Ev) : EQV V (GI_all V 69) (WG V h0 h0 69) := Or.inl rfl
set_option maxRecDepth 20000 in
theorem w0_70 (V : Ev) : EQV V (GI_all V 70) (WG V h0 h0 70) := Or.inl rfl
set_option maxRecDepth 20000 in
theorem w0_71 (V : Ev) : EQV V (GI_all V 71) (WG V h0 h0 71) := Or.inl rfl
set_option maxRecDepth 20000 in
theorem w0_72 (V : Ev) : EQV V (GI_all V 72) (WG V h0 h0 72) := Or.inl rfl
set_option maxRecDepth 20000 in
theorem w0_73 (V : Ev) : EQV V (GI_all V 73) (WG V h0 h0 73) := Or.inl rfl
set_option maxRecDepth 20000 in
theorem w0_74 (V : Ev) : EQV V (GI_all V 74) (WG V h0 h0 74) := Or.inl rfl
set_option maxRecDepth 20000 in
theorem w0_75 (V : Ev) : EQV V (GI_all V 75) (WG V h0 h0 75) := Or.inl rfl
set_option maxRecDepth 20000 in
theorem w0_76 (V : Ev) : EQV V (GI_all V 76) (WG V h0 h0 76) := Or.inl rfl
set_option maxRecDepth 20000 in
theorem w0_77 (V : Ev) : EQV V (GI_all V 77) (WG V h0 h0 77) := Or.inl rfl
set_option maxRecDepth 20000 in
theorem w0_78 (V : Ev) : EQV V (GI_all V 78) (WG V h0 h0 78) := Or.inl rfl
set_option maxRecDepth 20000 in
theorem w0_79 (V : Ev) : EQV V (GI_all V 79) (WG V h0 h0 79) := Or.inl rfl
set_option maxRecDepth 20000 in
theorem w0_80 (V : Ev) : EQV V (GI_all V 80) (WG V h0 h0 80) := Or.inl rfl
set_option maxRecDepth 20000 in
theorem w0_81 (V : Ev) : EQV V (GI_all V 81) (WG V h0 h0 81) := Or.inl rfl
set_option maxRecDepth 20000 in
theorem w0_82 (V : Ev) : EQV V (GI_all V 82) (WG V h0 h0 82) := Or.inl rfl
set_option maxRecDepth 20000 in
theorem w0_83 (V : Ev) : EQV V (GI_all V 83) (WG V h0 h0 83) := Or.inl rfl
set_option maxRecDepth 20000 in
theorem w0_84 (V : Ev) : EQV V (GI_all V 84) (WG V h0 h0 84) := Or.inl rfl
set_option maxRecDepth 20000 in
theorem w0_85 (V : Ev) : EQV V (GI_all V 85) (WG V h0 h0 85) := Or.inl rfl
set_option maxRecDepth 20000 in
theorem w0_86 (V : Ev) : EQV V (GI_all V 86) (WG V h0 h0 86) := Or.inl rfl
set_option maxRecDepth 20000 in
theorem w0_87 (V : Ev) : EQV V (GI_all V 87) (WG V h0 h0 87) := Or.inl rfl
set_option maxRecDepth 20000 in
theorem w0_88 (V : Ev) : EQV V (GI_all V 88) (WG V h0 h0 88) := Or.inl rfl
set_option maxRecDepth 20000 in
theorem w0_89 (V : Ev) : EQV V (GI_all V 89) (WG V h0 h0 89) := Or.inl rfl
set_option maxRecDepth 20000 in
theorem w0_90 (V : Ev) : EQV V (GI_all V 90) (WG V h0 h0 90) := Or.inl rfl
set_option maxRecDepth 20000 in
theorem w0_91 (V : Ev) : EQV V (GI_all V 91) (WG V h0 h0 91) := Or.inl rfl
set_option maxRecDepth 20000 in
theorem w0_92 (V : Ev) : EQV V (GI_all V 92) (WG V h0 h0 92) := Or.inl rfl
set_option maxRecDepth 20000 in
theorem w0_93 (V : Ev) : EQV V (GI_all V 93) (WG V h0 h0 93) := Or.inl rfl
set_option maxRecDepth 20000 in
theorem w0_94 (V : Ev) : EQV V (GI_all V 94) (WG V h0 h0 94) := Or.inl rfl
set_option maxRecDepth 20000 in
theorem w0_95 (V : Ev) : EQV V (GI_all V 95) (WG V h0 h0 95) := Or.inl rfl
set_option maxRecDepth 20000 in
theorem w0_96 (V : Ev) : EQV V (GI_all V 96) (WG V h0 h0 96) := Or.inl rfl
set_option maxRecDepth 20000 in
theorem w0_97 (V : Ev) : EQV V (GI_all V 97) (WG V h0 h0 97) := Or.inl rfl
set_option maxRecDepth 20000 in
theorem w0_98 (V : Ev) : EQV V (GI_all V 98) (WG V h0 h0 98) := Or.inl rfl
set_option maxRecDepth 20000 in
theorem w0_99 (V : Ev) : EQV V (GI_all V 99) (WG V h0 h0 99) := Or.inl rfl
set_option maxRecDepth 20000 in
theorem w0_100 (V : Ev) : EQV V (GI_all V 100) (WG V h0 h0 100) := Or.inl rfl
set_option maxRecDepth 20000 in
theorem w0_101 (V : Ev) : EQV V (GI_all V 101) (WG V h0 h0 101) := Or.inl rfl
set_option maxRecDepth 20000 in
theorem w0_102 (V : Ev) : EQV V (GI_all V 102) (WG V h0 h0 102) := Or.inl rfl
set_option maxRecDepth 20000 in
theorem w0_103 (V : Ev) : EQV V (GI_all V 103) (WG V h0 h0 103) := Or.inl rfl
set_option maxRecDepth 20000 in
theorem w0_104 (V : Ev) : EQV V (GI_all V 104) (WG V h0 h0 104) := Or.inl rfl
set_option maxRecDepth 20000 in
theorem w0_105 (V : Ev) : EQV V (GI_all V 105) (WG V h0 h0 105) := Or.inl rfl
set_option maxRecDepth 20000 in
theorem w0_106 (V : Ev) : EQV V (GI_all V 106) (WG V h0 h0 106) := Or.inl rfl
set_option maxRecDepth 20000 in
theorem w0_107 (V : Ev) : EQV V (GI_all V 107) (WG V h0 h0 107) := Or.inl rfl
set_option maxRecDepth 20000 in
theorem w0_108 (V : Ev) : EQV V (GI_all V 108) (WG V h0 h0 108) := Or.inl rfl
set_option maxRecDepth 20000 in
theorem w0_109 (V : Ev) : EQV V (GI_all V 109) (WG V h0 h0 109) := Or.inl rfl
set_option maxRecDepth 20000 in
theorem w0_110 (V : Ev) : EQV V (GI_all V 110) (WG V h0 h0 110) := Or.inl rfl
set_option maxRecDepth 20000 in
theorem w0_111 (V : Ev) : EQV V (GI_all V 111) (WG V h0 h0 111) := Or.inl rfl
set_option maxRecDepth 20000 in
theorem w0_112 (V : Ev) : EQV V (GI_all V 112) (WG V h0 h0 112) := Or.inl rfl
set_option maxRecDepth 20000 in
theorem w0_113 (V : Ev) : EQV V (GI_all V 113) (WG V h0 h0 113) := Or.inl rfl
set_option maxRecDepth 20000 in
theorem w0_114 (V : Ev) : EQV V (GI_all V 114) (WG V h0 h0 114) := Or.inl rfl
set_option maxRecDepth 20000 in
theorem w0_115 (V : Ev) : EQV V (GI_all V 115) (WG V h0 h0 115) := Or.inl rfl
set_option maxRecDepth 20000 in
theorem w0_116 (V : Ev) : EQV V (GI_all V 116) (WG V h0 h0 116) := Or.inl rfl
set_option maxRecDepth 20000 in
theorem w0_117 (V : Ev) : EQV V (GI_all V 117) (WG V h0 h0 117) := Or.inl rfl
set_option maxRecDepth 20000 in
theorem w0_118 (V : Ev) : EQV V (GI_all V 118) (WG V h0 h0 118) := Or.inl rfl
set_option maxRecDepth 20000 in
theorem w0_119 (V : Ev) : EQV V (GI_all V 119) (WG V h0 h0 119) := Or.inl rfl
set_option maxRecDepth 20000 in
theorem w0_120 (V : Ev) : EQV V (GI_all V 120) (WG V h0 h0 120) := Or.inl rfl
set_option maxRecDepth 20000 in
theorem w0_121 (V : Ev) : EQV V (GI_all V 121) (WG V h0 h0 121) := Or.inl rfl
set_option maxRecDepth 20000 in
theorem w0_122 (V : Ev) : EQV V (GI_all V 122) (WG V h0 h0 122) := Or.inl rfl
set_option maxRecDepth 20000 in
theorem w0_123 (V : Ev) : EQV V (GI_all V 123) (WG V h0 h0 123) := Or.inl rfl
set_option maxRecDepth 20000 in
theorem w0_124 (V : Ev) : EQV V (GI_all V 124) (WG V h0 h0 124) := Or.inl rfl
set_option maxRecDepth 20000 in
theorem w0_125 (V : Ev) : EQV V (GI_all V 125) (WG V h0 h0 125) := Or.inl rfl
set_option maxRecDepth 20000 in
theorem w0_126 (V : Ev) : EQV V (GI_all V 126) (WG V h0 h0 126) := Or.inl rfl
set_option maxRecDepth 20000 in
theorem w0_127 (V : Ev) : EQV V (GI_all V 127) (WG V h0 h0 127) := Or.inl rfl
set_option maxRecDepth 20000 in
theorem w0_128 (V : Ev) : EQV V (GI_all V 128) (WG V h0 h0 128) := Or.inl rfl
set_option maxRecDepth 20000 in
theorem w0_129 (V : Ev) : EQV V (GI_all V 129) (WG V h0 h0 129) := Or.inl rfl
set_option maxRecDepth 20000 in
theorem w0_130 (V : Ev) : EQV V (GI_all V 130) (WG V h0 h0 130) := Or.inl rfl
set_option maxRecDepth 20000 in
theorem w0_131 (V : Ev) : EQV V (GI_all V 131) (WG V h0 h0 131) := Or.inl rfl
set_option maxRecDepth 20000 in
theorem w0_132 (V : Ev) : EQV V (GI_all V 132) (WG V h0 h0 132) := Or.inl rfl
set_option maxRecDepth 20000 in
theorem w0_133 (V : Ev) : EQV V (GI_all V 133) (WG V h0 h0 133) := Or.inl rfl
set_option maxRecDepth 20000 in
theorem w0_134 (V : Ev) : EQV V (GI_all V 134) (WG V h0 h0 134) := Or.inl rfl
set_option maxRecDepth 20000 in
theorem w0_135 (V : Ev) : EQV V (GI_all V 135) (WG V h0 h0 135) := Or.inl rfl
set_option maxRecDepth 20000 in
theorem w0_136 (V : Ev) : EQV V (GI_all V 136) (WG V h0 h0 136) := Or.inl rfl
set_option maxRecDepth 20000 in
theorem w0_137 (V : Ev) : EQV V (GI_all V 137) (WG V h0 h0 137) := Or.inl rfl
set_option maxRecDepth 20000 in
theorem w0_138 (V : Ev) : EQV V (GI_all V 138) (WG V h0 h0 138) := Or.inl rfl
set_option maxRecDepth 20000 in
theorem w0_139 (V : Ev) : EQV V (GI_all V 139) (WG V h0 h0 139) := Or.inl rfl
set_option maxRecDepth 20000 in
theorem w0_140 (V : Ev) : EQV V (GI_all V 140) (WG V h0 h0 140) := Or.inl rfl
set_option maxRecDepth 20000 in
theorem w0_141 (V : Ev) : EQV V (GI_all V 141) (WG V h0 h0 141) := Or.inl rfl
set_option maxRecDepth 20000 in
theorem w0_142 (V : Ev) : EQV V (GI_all V 142) (WG V h0 h0 142) := Or.inl rfl
theorem w0_all (V : Ev) : ∀ k, k < 143 → EQV V (GI_all V k) (WG V h0 h0 k) :=
  lt_s (lt_s (lt_s (lt_s (lt_s (lt_s (lt_s (lt_s (lt_s (lt_s (lt_s (lt_s (lt_s (lt_s (lt_s (lt_s (lt_s (lt_s (lt_s (lt_s (lt_s (lt_s (lt_s (lt_s (lt_s (lt_s (lt_s (lt_s (lt_s (lt_s (lt_s (lt_s (lt_s (lt_s (lt_s (lt_s (lt_s (lt_s (lt_s (lt_s (lt_s (lt_s (lt_s (lt_s (lt_s (lt_s (lt_s (lt_s (lt_s (lt_s (lt_s (lt_s (lt_s (lt_s (lt_s (lt_s (lt_s (lt_s (lt_s (lt_s (lt_s (lt_s (lt_s (lt_s (lt_s (lt_s (lt_s (lt_s (lt_s (lt_s (lt_s (lt_s (lt_s (lt_s (lt_s (lt_s (lt_s (lt_s (lt_s (lt_s (lt_s (lt_s (lt_s (lt_s (lt_s (lt_s (lt_s (lt_s (lt_s (lt_s (lt_s (lt_s (lt_s (lt_s (lt_s (lt_s (lt_s (lt_s (lt_s (lt_s (lt_s (lt_s (lt_s (lt_s (lt_s (lt_s (lt_s (lt_s (lt_s (lt_s (lt_s (lt_s (lt_s (lt_s (lt_s (lt_s (lt_s (lt_s (lt_s (lt_s (lt_s (lt_s (lt_s (lt_s (lt_s (lt_s (lt_s (lt_s (lt_s (lt_s (lt_s (lt_s (lt_s (lt_s (lt_s (lt_s (lt_s (lt_s (lt_s (lt_s (lt_s (lt_s (lt_s (lt_0) (w0_0 V)) (w0_1 V)) (w0_2 V)) (w0_3 V)) (w0_4 V)) (w0_5 V)) (w0_6 V)) (w0_7 V)) (w0_8 V)) (w0_9 V)) (w0_10 V)) (w0_11 V)) (w0_12 V)) (w0_13 V)) (w0_14 V)) (w0_15 V)) (w0_16 V)) (w0_17 V)) (w0_18 V)) (w0_19 V)) (w0_20 V)) (w0_21 V)) (w0_22 V)) (w0_23 V)) (w0_24 V)) (w0_25 V)) (w0_26 V)) (w0_27 V)) (w0_28 V)) (w0_29 V)) (w0_30 V)) (w0_31 V)) (w0_32 V)) (w0_33 V)) (w0_34 V)) (w0_35 V)) (w0_36 V)) (w0_37 V)) (w0_38 V)) (w0_39 V)) (w0_40 V)) (w0_41 V)) (w0_42 V)) (w0_43 V)) (w0_44 V)) (w0_45 V)) (w0_46 V)) (w0_47 V)) (w0_48 V)) (w0_49 V)) (w0_50 V)) (w0_51 V)) (w0_52 V)) (w0_53 V)) (w0_54 V)) (w0_55 V)) (w0_56 V)) (w0_57 V)) (w0_58 V)) (w0_59 V)) (w0_60 V)) (w0_61 V)) (w0_62 V)) (w0_63 V)) (w0_64 V)) (w0_65 V)) (w0_66 V)) (w0_67 V)) (w0_68 V)) (w0_69 V)) (w0_70 V)) (w0_71 V)) (w0_72 V)) (w0_73 V)) (w0_74 V)) (w0_75 V)) (w0_76 V)) (w0_77 V)) (w0_78 V)) (w0_79 V)) (w0_80 V)) (w0_81 V)) (w0_82 V)) (w0_83 V)) (w0_84 V)) (w0_85 V)) (w0_86 V)) (w0_87 V)) (w0_88 V)) (w0_89 V)) (w0_90 V)) (w0_91 V)) (w0_92 V)) (w0_93 V)) (w0_94 V)) (w0_95 V)) (w0_96 V)) (w0_97 V)) (w0_98 V)) (w0_99 V)) (w0_100 V)) (w0_101 V)) (w0_102 V)) (w0_103 V)) (w0_104 V)) (w0_105 V)) (w0_106 V)) (w0_107 V)) (w0_108 V)) (w0_109 V)) (w0_110 V)) (w0_111 V)) (w0_112 V)) (w0_113 V)) (w0_114 V)) (w0_115 V)) (w0_116 V)) (w0_117 V)) (w0_118 V)) (w0_119 V)) (w0_120 V)) (w0_121 V)) (w0_122 V)) (w0_123 V)) (w0_124 V)) (w0_125 V)) (w0_126 V)) (w0_127 V)) (w0_128 V)) (w0_129 V)) (w0_130 V)) (w0_131 V)) (w0_132 V)) (w0_133 V)) (w0_134 V)) (w0_135 V)) (w0_136 V)) (w0_137 V)) (w0_138 V)) (w0_139 V)) (w0_140 V)) (w0_141 V)) (w0_142 V)
theorem PW_off {E : Cx} {D : va_G} {ac : Nat → ClassId} {b : Nat} {ad : Nat → Nat} {nc ns N : Nat} {G G' : Nat → va_E} {pc : Nat} {lv : List (Nat × Value)} {st : List Value} (hc : ∀ k, k < N → EQV (D, ac, b, ad, false) (G k) (G' k)) (kk : PW E (D, ac, b, ad, false) nc ns N G' pc lv st) : PW E (D, ac, b, ad, true) nc ns N G pc lv st := by
  obtain ⟨p, l0, e, R, s, m, args, below, meth, c, Q⟩ := E
  intro H locs ls h1 h2 h3 h4
  refine kk H locs ls ?_ (SZ.off rfl) h3 h4
  intro k q hq
  obtain ⟨hk, rfl⟩ := wl_some hq
  exact (hc k hk).at (h1 k _ (wl_get hk))
set_option maxHeartbeats 20000000 in
set_option maxRecDepth 100000 in
theorem whole_start0 (law_pure : ∀ (xs : Nat → Int32) (L : Nat), L ≤ 3072 → ∃ F : Nat, fL_law F xs L F 0 h0 h0 = some 1) {p : Program} {e : Env} {s : State} {m : MethodId} {below : List Frame} {meth : Method} {c : Code} (l : Launch) {b L : Nat} {xs : Nat → Int32} (hL : L ≤ 3072) (C0 : lw_At p s m meth c b L xs) : W p l e room_1 s m #[Value.ref b] below meth c s.heap [] 0 0 (lw_Z below #[Value.ref b] s) (entryFrame m ([Value.ref b] : List Value).toArray 4) := by
  obtain ⟨hx, hb, hr, hml, hown, hts, hX, hbl, hlocks, hgv⟩ := id C0
  have hs := flat_of_before _ hgv
  have hA : ∀ a : Nat, a < s.heap.size → ¬ (fun q => s.heap.size ≤ q) a := fun a h => Nat.not_le.mpr h
  obtain ⟨c0, i0, hK0⟩ := u_known (C := RX0) (T := TX0) (N := 5) (n := 5) hts (fun w hw => (List.mem_filter.mp (kc0.2.1 w hw)).1) (hts _ (List.mem_of_getElem? (i := 331) (by decide +kernel)))
  obtain ⟨c1, i1, hK1⟩ := u_known (C := RX1) (T := TX1) (N := 4) (n := 4) hts (fun w hw => (List.mem_filter.mp (kc1.2.1 w hw)).1) (hts _ (List.mem_of_getElem? (i := 281) (by decide +kernel)))
  obtain ⟨c2, i2, hK2⟩ := u_known (C := RX2) (T := TX2) (N := 6) (n := 6) hts (fun w hw => (List.mem_filter.mp (kc2.2.1 w hw)).1) (hts _ (List.mem_of_getElem? (i := 356) (by decide +kernel)))
  obtain ⟨c3, i3, hK3⟩ := u_known (C := RX3) (T := TX3) (N := 3) (n := 3) hts (fun w hw => (List.mem_filter.mp (kc3.2.1 w hw)).1) (hts _ (List.mem_of_getElem? (i := 156) (by decide +kernel)))
  obtain ⟨c4, i4, hK4⟩ := u_known (C := RX4) (T := TX4) (N := 5) (n := 5) hts (fun w hw => (List.mem_filter.mp (kc4.2.1 w hw)).1) (hts _ (List.mem_of_getElem? (i := 304) (by decide +kernel)))
  obtain ⟨c5, i5, hK5⟩ := u_known (C := RX5) (T := TX5) (N := 6) (n := 6) hts (fun w hw => (List.mem_filter.mp (kc5.2.1 w hw)).1) (hts _ (List.mem_of_getElem? (i := 251) (by decide +kernel)))
  obtain ⟨c6, i6, hK6⟩ := u_known (C := RX6) (T := TX6) (N := 3) (n := 3) hts (fun w hw => (List.mem_filter.mp (kc6.2.1 w hw)).1) (hts _ (List.mem_of_getElem? (i := 184) (by decide +kernel)))
  obtain ⟨c7, i7, hK7⟩ := u_known (C := RX7) (T := TX7) (N := 11) (n := 11) hts (fun w hw => (List.mem_filter.mp (kc7.2.1 w hw)).1) (hts _ (List.mem_of_getElem? (i := 150) (by decide +kernel)))
  obtain ⟨c8, i8, hK8⟩ := u_known (C := RX8) (T := TX8) (N := 3) (n := 3) hts (fun w hw => (List.mem_filter.mp (kc8.2.1 w hw)).1) (hts _ (List.mem_of_getElem? (i := 382) (by decide +kernel)))
  obtain ⟨c9, i9, hK9⟩ := u_known (C := RX9) (T := TX9) (N := 10) (n := 10) hts (fun w hw => (List.mem_filter.mp (kc9.2.1 w hw)).1) (hts _ (List.mem_of_getElem? (i := 142) (by decide +kernel)))
  obtain ⟨c10, i10, hK10⟩ := u_known (C := RX10) (T := TX10) (N := 66) (n := 66) hts (fun w hw => (List.mem_filter.mp (kc10.2.1 w hw)).1) (hts _ (List.mem_of_getElem? (i := 1003) (by decide +kernel)))
  obtain ⟨dC, dI, hKc⟩ : ∃ (dC : Nat → ClassId) (dI : Nat → Nat → Nat), ∀ (k : Nat) (q : vw_C), vwCl[k]? = some q → u_Kn s q.1 q.2.1 q.2.2 (dC k) (dI k) := by
    refine ⟨fun k => if k = 0 then c0 else if k = 1 then c1 else if k = 2 then c2 else if k = 3 then c3 else if k = 4 then c4 else if k = 5 then c5 else if k = 6 then c6 else if k = 7 then c7 else if k = 8 then c8 else if k = 9 then c9 else c10, fun k => if k = 0 then i0 else if k = 1 then i1 else if k = 2 then i2 else if k = 3 then i3 else if k = 4 then i4 else if k = 5 then i5 else if k = 6 then i6 else if k = 7 then i7 else if k = 8 then i8 else if k = 9 then i9 else i10, ?_⟩
    intro k q hq
    match k, hq with
    | 0, hq => cases hq; exact hK0
    | 1, hq => cases hq; exact hK1
    | 2, hq => cases hq; exact hK2
    | 3, hq => cases hq; exact hK3
    | 4, hq => cases hq; exact hK4
    | 5, hq => cases hq; exact hK5
    | 6, hq => cases hq; exact hK6
    | 7, hq => cases hq; exact hK7
    | 8, hq => cases hq; exact hK8
    | 9, hq => cases hq; exact hK9
    | 10, hq => cases hq; exact hK10
    | k + 11, hq => simp [vwCl] at hq
  obtain ⟨a0, ka0, ca0, fa0, ga0, ha0⟩ := Cond.arrayClass_spec (type := .byte) (show (Cond.arrayClass .byte).before #[Value.ref b] s = true from hts _ (List.mem_of_getElem? (i := 277) (by decide +kernel)))
  obtain ⟨a1, ka1, ca1, fa1, ga1, ha1⟩ := Cond.arrayClass_spec (type := .int) (show (Cond.arrayClass .int).before #[Value.ref b] s = true from hts _ (List.mem_of_getElem? (i := 181) (by decide +kernel)))
  obtain ⟨a2, ka2, ca2, fa2, ga2, ha2⟩ := Cond.arrayClass_spec (type := .long) (show (Cond.arrayClass .long).before #[Value.ref b] s = true from hts _ (List.mem_of_getElem? (i := 399) (by decide +kernel)))
  obtain ⟨a3, ka3, ca3, fa3, ga3, ha3⟩ := Cond.arrayClass_spec (type := .boolean) (show (Cond.arrayClass .boolean).before #[Value.ref b] s = true from hts _ (List.mem_of_getElem? (i := 182) (by decide +kernel)))
  have ho4 : (Cond.arrayOver (.object RX2)).before #[Value.ref b] s = true := hts _ (List.mem_of_getElem? (i := 279) (by decide +kernel))
  obtain ⟨ca4, a4, ka4, fc4, -, ga4, ha4, fa4⟩ := Cond.arrayOver_spec ho4
  have ho5 : (Cond.arrayOver (.object RX3)).before #[Value.ref b] s = true := hts _ (List.mem_of_getElem? (i := 310) (by decide +kernel))
  obtain ⟨ca5, a5, ka5, fc5, -, ga5, ha5, fa5⟩ := Cond.arrayOver_spec ho5
  have ho6 : (Cond.arrayOver (.object RX8)).before #[Value.ref b] s = true := hts _ (List.mem_of_getElem? (i := 355) (by decide +kernel))
  obtain ⟨ca6, a6, ka6, fc6, -, ga6, ha6, fa6⟩ := Cond.arrayOver_spec ho6
  obtain ⟨ac, hac⟩ : ∃ ac : Nat → ClassId, ac 0 = a0 ∧ ac 1 = a1 ∧ ac 2 = a2 ∧ ac 3 = a3 ∧ ac 4 = a4 ∧ ac 5 = a5 ∧ ac 6 = a6 := ⟨fun k => if k = 0 then a0 else if k = 1 then a1 else if k = 2 then a2 else if k = 3 then a3 else if k = 4 then a4 else if k = 5 then a5 else a6, rfl, rfl, rfl, rfl, rfl, rfl, rfl⟩
  obtain ⟨e0, e1, e2, e3, e4, e5, e6⟩ := hac
  have hKa : ∀ (k : Nat) (q : ClassId × FieldType), (tysOf ac)[k]? = some q → ArrOfT s q.1 q.2 ∧ va_RA s q.1 q.2 := by
    intro k q hq
    match k, hq with
    | 0, hq => cases hq; rw [e0]; exact ⟨fun N z => ⟨(fun k h => by cases h), ka0, ga0, ca0, ha0⟩, fa0⟩
    | 1, hq => cases hq; rw [e1]; exact ⟨fun N z => ⟨(fun k h => by cases h), ka1, ga1, ca1, ha1⟩, fa1⟩
    | 2, hq => cases hq; rw [e2]; exact ⟨fun N z => ⟨(fun k h => by cases h), ka2, ga2, ca2, ha2⟩, fa2⟩
    | 3, hq => cases hq; rw [e3]; exact ⟨fun N z => ⟨(fun k h => by cases h), ka3, ga3, ca3, ha3⟩, fa3⟩
    | 4, hq => cases hq; rw [e4]; exact ⟨fun N z => ⟨(fun k h => by cases h), ka4, ga4, ca4, ha4⟩, ka4, ca4, ga4, ha4, fc4, fa4⟩
    | 5, hq => cases hq; rw [e5]; exact ⟨fun N z => ⟨(fun k h => by cases h), ka5, ga5, ca5, ha5⟩, ka5, ca5, ga5, ha5, fc5, fa5⟩
    | 6, hq => cases hq; rw [e6]; exact ⟨fun N z => ⟨(fun k h => by cases h), ka6, ga6, ca6, ha6⟩, ka6, ca6, ga6, ha6, fc6, fa6⟩
    | k + 7, hq => simp [tysOf] at hq
  obtain ⟨tA, vA, TA⟩ := va_Tof (args := #[Value.ref b]) (s := s) (tm := (Term.static "ClocksTold" "ABOVE" "[I")) (ty := .int) (N := 7) (f := fun j => .int (aboveF j)) (A := fun q => s.heap.size ≤ q) (by decide) (hs (Cond.arrayOf (Term.static "ClocksTold" "ABOVE" "[I") .int) (by decide +kernel)) (va_eqt (z := 7) (hs (Cond.eq (.length (Term.static "ClocksTold" "ABOVE" "[I")) (.int 7)) (by decide +kernel))) (by
    intro j hj
    match j, hj with
    | 0, _ => exact va_eqt (hs (Cond.eq (.elem (Term.static "ClocksTold" "ABOVE" "[I") (.int 0)) (.int (-1))) (by decide +kernel))
    | 1, _ => exact va_eqt (hs (Cond.eq (.elem (Term.static "ClocksTold" "ABOVE" "[I") (.int 1)) (.int (0))) (by decide +kernel))
    | 2, _ => exact va_eqt (hs (Cond.eq (.elem (Term.static "ClocksTold" "ABOVE" "[I") (.int 2)) (.int (0))) (by decide +kernel))
    | 3, _ => exact va_eqt (hs (Cond.eq (.elem (Term.static "ClocksTold" "ABOVE" "[I") (.int 3)) (.int (0))) (by decide +kernel))
    | 4, _ => exact va_eqt (hs (Cond.eq (.elem (Term.static "ClocksTold" "ABOVE" "[I") (.int 4)) (.int (1))) (by decide +kernel))
    | 5, _ => exact va_eqt (hs (Cond.eq (.elem (Term.static "ClocksTold" "ABOVE" "[I") (.int 5)) (.int (2))) (by decide +kernel))
    | 6, _ => exact va_eqt (hs (Cond.eq (.elem (Term.static "ClocksTold" "ABOVE" "[I") (.int 6)) (.int (3))) (by decide +kernel))
    | j + 7, hj => omega) hA
  have ZA := va_Zref (A := fun q => s.heap.size ≤ q) (hts _ (List.mem_of_getElem? (i := 948) (by decide +kernel))) (hts _ (List.mem_of_getElem? (i := 122) (by decide +kernel))) vA hA
  obtain ⟨tB, vB, TB⟩ := va_Tof (args := #[Value.ref b]) (s := s) (tm := (Term.static "ClocksTold$Acts" "BODIES" "[I")) (ty := .int) (N := 21) (f := fun j => .int (bodiesF j)) (A := fun q => s.heap.size ≤ q) (by decide) (hs (Cond.arrayOf (Term.static "ClocksTold$Acts" "BODIES" "[I") .int) (by decide +kernel)) (va_eqt (z := 21) (hs (Cond.eq (.length (Term.static "ClocksTold$Acts" "BODIES" "[I")) (.int 21)) (by decide +kernel))) (by
    intro j hj
    match j, hj with
    | 0, _ => exact va_eqt (hs (Cond.eq (.elem (Term.static "ClocksTold$Acts" "BODIES" "[I") (.int 0)) (.int (10))) (by decide +kernel))
    | 1, _ => exact va_eqt (hs (Cond.eq (.elem (Term.static "ClocksTold$Acts" "BODIES" "[I") (.int 1)) (.int (11))) (by decide +kernel))
    | 2, _ => exact va_eqt (hs (Cond.eq (.elem (Term.static "ClocksTold$Acts" "BODIES" "[I") (.int 2)) (.int (12))) (by decide +kernel))
    | 3, _ => exact va_eqt (hs (Cond.eq (.elem (Term.static "ClocksTold$Acts" "BODIES" "[I") (.int 3)) (.int (0))) (by decide +kernel))
    | 4, _ => exact va_eqt (hs (Cond.eq (.elem (Term.static "ClocksTold$Acts" "BODIES" "[I") (.int 4)) (.int (20))) (by decide +kernel))
    | 5, _ => exact va_eqt (hs (Cond.eq (.elem (Term.static "ClocksTold$Acts" "BODIES" "[I") (.int 5)) (.int (0))) (by decide +kernel))
    | 6, _ => exact va_eqt (hs (Cond.eq (.elem (Term.static "ClocksTold$Acts" "BODIES" "[I") (.int 6)) (.int (30))) (by decide +kernel))
    | 7, _ => exact va_eqt (hs (Cond.eq (.elem (Term.static "ClocksTold$Acts" "BODIES" "[I") (.int 7)) (.int (0))) (by decide +kernel))
    | 8, _ => exact va_eqt (hs (Cond.eq (.elem (Term.static "ClocksTold$Acts" "BODIES" "[I") (.int 8)) (.int (0))) (by decide +kernel))
    | 9, _ => exact va_eqt (hs (Cond.eq (.elem (Term.static "ClocksTold$Acts" "BODIES" "[I") (.int 9)) (.int (0))) (by decide +kernel))
    | 10, _ => exact va_eqt (hs (Cond.eq (.elem (Term.static "ClocksTold$Acts" "BODIES" "[I") (.int 10)) (.int (0))) (by decide +kernel))
    | 11, _ => exact va_eqt (hs (Cond.eq (.elem (Term.static "ClocksTold$Acts" "BODIES" "[I") (.int 11)) (.int (40))) (by decide +kernel))
    | 12, _ => exact va_eqt (hs (Cond.eq (.elem (Term.static "ClocksTold$Acts" "BODIES" "[I") (.int 12)) (.int (50))) (by decide +kernel))
    | 13, _ => exact va_eqt (hs (Cond.eq (.elem (Term.static "ClocksTold$Acts" "BODIES" "[I") (.int 13)) (.int (51))) (by decide +kernel))
    | 14, _ => exact va_eqt (hs (Cond.eq (.elem (Term.static "ClocksTold$Acts" "BODIES" "[I") (.int 14)) (.int (0))) (by decide +kernel))
    | 15, _ => exact va_eqt (hs (Cond.eq (.elem (Term.static "ClocksTold$Acts" "BODIES" "[I") (.int 15)) (.int (0))) (by decide +kernel))
    | 16, _ => exact va_eqt (hs (Cond.eq (.elem (Term.static "ClocksTold$Acts" "BODIES" "[I") (.int 16)) (.int (0))) (by decide +kernel))
    | 17, _ => exact va_eqt (hs (Cond.eq (.elem (Term.static "ClocksTold$Acts" "BODIES" "[I") (.int 17)) (.int (60))) (by decide +kernel))
    | 18, _ => exact va_eqt (hs (Cond.eq (.elem (Term.static "ClocksTold$Acts" "BODIES" "[I") (.int 18)) (.int (71))) (by decide +kernel))
    | 19, _ => exact va_eqt (hs (Cond.eq (.elem (Term.static "ClocksTold$Acts" "BODIES" "[I") (.int 19)) (.int (70))) (by decide +kernel))
    | 20, _ => exact va_eqt (hs (Cond.eq (.elem (Term.static "ClocksTold$Acts" "BODIES" "[I") (.int 20)) (.int (0))) (by decide +kernel))
    | j + 21, hj => omega) hA
  have ZB := va_Zref (A := fun q => s.heap.size ≤ q) (hts _ (List.mem_of_getElem? (i := 946) (by decide +kernel))) (hts _ (List.mem_of_getElem? (i := 129) (by decide +kernel))) vB hA
  have tmS : ∀ i, i < 5 → (Cond.exactly ((fun i => Term.string RX5 (([55, 72, 74, 96, 102] : List Nat).getD i 0)) i) "java/lang/String").before #[Value.ref b] s = true := by
    intro i hi
    match i, hi with
    | 0, _ => exact hs (Cond.exactly (.string RX5 55) "java/lang/String") (by decide +kernel)
    | 1, _ => exact hs (Cond.exactly (.string RX5 72) "java/lang/String") (by decide +kernel)
    | 2, _ => exact hs (Cond.exactly (.string RX5 74) "java/lang/String") (by decide +kernel)
    | 3, _ => exact hs (Cond.exactly (.string RX5 96) "java/lang/String") (by decide +kernel)
    | 4, _ => exact hs (Cond.exactly (.string RX5 102) "java/lang/String") (by decide +kernel)
    | i + 5, hi => omega
  have coS : ∀ i, i < 5 → (Cond.eq (.field ((fun i => Term.string RX5 (([55, 72, 74, 96, 102] : List Nat).getD i 0)) i) "java/lang/String" "coder" "B") (.int 0)).before #[Value.ref b] s = true := by
    intro i hi
    match i, hi with
    | 0, _ => exact hs (Cond.eq (.field (.string RX5 55) "java/lang/String" "coder" "B") (.int 0)) (by decide +kernel)
    | 1, _ => exact hs (Cond.eq (.field (.string RX5 72) "java/lang/String" "coder" "B") (.int 0)) (by decide +kernel)
    | 2, _ => exact hs (Cond.eq (.field (.string RX5 74) "java/lang/String" "coder" "B") (.int 0)) (by decide +kernel)
    | 3, _ => exact hs (Cond.eq (.field (.string RX5 96) "java/lang/String" "coder" "B") (.int 0)) (by decide +kernel)
    | 4, _ => exact hs (Cond.eq (.field (.string RX5 102) "java/lang/String" "coder" "B") (.int 0)) (by decide +kernel)
    | i + 5, hi => omega
  have arS : ∀ i, i < 5 → (Cond.arrayOf (.field ((fun i => Term.string RX5 (([55, 72, 74, 96, 102] : List Nat).getD i 0)) i) "java/lang/String" "value" "[B") .byte).before #[Value.ref b] s = true := by
    intro i hi
    match i, hi with
    | 0, _ => exact hs (Cond.arrayOf (.field (.string RX5 55) "java/lang/String" "value" "[B") .byte) (by decide +kernel)
    | 1, _ => exact hs (Cond.arrayOf (.field (.string RX5 72) "java/lang/String" "value" "[B") .byte) (by decide +kernel)
    | 2, _ => exact hs (Cond.arrayOf (.field (.string RX5 74) "java/lang/String" "value" "[B") .byte) (by decide +kernel)
    | 3, _ => exact hs (Cond.arrayOf (.field (.string RX5 96) "java/lang/String" "value" "[B") .byte) (by decide +kernel)
    | 4, _ => exact hs (Cond.arrayOf (.field (.string RX5 102) "java/lang/String" "value" "[B") .byte) (by decide +kernel)
    | i + 5, hi => omega
  have leS : ∀ i, i < 5 → (Cond.eq (.length (.field ((fun i => Term.string RX5 (([55, 72, 74, 96, 102] : List Nat).getD i 0)) i) "java/lang/String" "value" "[B")) (.int (Int32.ofNat (strN.getD i 0)))).before #[Value.ref b] s = true := by
    intro i hi
    match i, hi with
    | 0, _ => exact hs (Cond.eq (.length (.field (.string RX5 55) "java/lang/String" "value" "[B")) (.int 4)) (by decide +kernel)
    | 1, _ => exact hs (Cond.eq (.length (.field (.string RX5 72) "java/lang/String" "value" "[B")) (.int 4)) (by decide +kernel)
    | 2, _ => exact hs (Cond.eq (.length (.field (.string RX5 74) "java/lang/String" "value" "[B")) (.int 4)) (by decide +kernel)
    | 3, _ => exact hs (Cond.eq (.length (.field (.string RX5 96) "java/lang/String" "value" "[B")) (.int 6)) (by decide +kernel)
    | 4, _ => exact hs (Cond.eq (.length (.field (.string RX5 102) "java/lang/String" "value" "[B")) (.int 3)) (by decide +kernel)
    | i + 5, hi => omega
  have elS : ∀ i, i < 5 → ∀ j, j < strN.getD i 0 → (Cond.eq (.elem (.field ((fun i => Term.string RX5 (([55, 72, 74, 96, 102] : List Nat).getD i 0)) i) "java/lang/String" "value" "[B") (.int (Int32.ofNat j))) (.int ((strL.getD i []).getD j 0))).before #[Value.ref b] s = true := by
    intro i hi j hj
    match i, hi with
    | 0, _ =>
      have hj : j < 4 := hj
      match j, hj with
      | 0, _ => exact hs (Cond.eq (.elem (.field (.string RX5 55) "java/lang/String" "value" "[B") (.int 0)) (.int 112)) (by decide +kernel)
      | 1, _ => exact hs (Cond.eq (.elem (.field (.string RX5 55) "java/lang/String" "value" "[B") (.int 1)) (.int 97)) (by decide +kernel)
      | 2, _ => exact hs (Cond.eq (.elem (.field (.string RX5 55) "java/lang/String" "value" "[B") (.int 2)) (.int 99)) (by decide +kernel)
      | 3, _ => exact hs (Cond.eq (.elem (.field (.string RX5 55) "java/lang/String" "value" "[B") (.int 3)) (.int 101)) (by decide +kernel)
      | j + 4, hj => omega
    | 1, _ =>
      have hj : j < 4 := hj
      match j, hj with
      | 0, _ => exact hs (Cond.eq (.elem (.field (.string RX5 72) "java/lang/String" "value" "[B") (.int 0)) (.int 110)) (by decide +kernel)
      | 1, _ => exact hs (Cond.eq (.elem (.field (.string RX5 72) "java/lang/String" "value" "[B") (.int 1)) (.int 101)) (by decide +kernel)
      | 2, _ => exact hs (Cond.eq (.elem (.field (.string RX5 72) "java/lang/String" "value" "[B") (.int 2)) (.int 119)) (by decide +kernel)
      | 3, _ => exact hs (Cond.eq (.elem (.field (.string RX5 72) "java/lang/String" "value" "[B") (.int 3)) (.int 115)) (by decide +kernel)
      | j + 4, hj => omega
    | 2, _ =>
      have hj : j < 4 := hj
      match j, hj with
      | 0, _ => exact hs (Cond.eq (.elem (.field (.string RX5 74) "java/lang/String" "value" "[B") (.int 0)) (.int 104)) (by decide +kernel)
      | 1, _ => exact hs (Cond.eq (.elem (.field (.string RX5 74) "java/lang/String" "value" "[B") (.int 1)) (.int 117)) (by decide +kernel)
      | 2, _ => exact hs (Cond.eq (.elem (.field (.string RX5 74) "java/lang/String" "value" "[B") (.int 2)) (.int 115)) (by decide +kernel)
      | 3, _ => exact hs (Cond.eq (.elem (.field (.string RX5 74) "java/lang/String" "value" "[B") (.int 3)) (.int 104)) (by decide +kernel)
      | j + 4, hj => omega
    | 3, _ =>
      have hj : j < 6 := hj
      match j, hj with
      | 0, _ => exact hs (Cond.eq (.elem (.field (.string RX5 96) "java/lang/String" "value" "[B") (.int 0)) (.int 99)) (by decide +kernel)
      | 1, _ => exact hs (Cond.eq (.elem (.field (.string RX5 96) "java/lang/String" "value" "[B") (.int 1)) (.int 107)) (by decide +kernel)
      | 2, _ => exact hs (Cond.eq (.elem (.field (.string RX5 96) "java/lang/String" "value" "[B") (.int 2)) (.int 118)) (by decide +kernel)
      | 3, _ => exact hs (Cond.eq (.elem (.field (.string RX5 96) "java/lang/String" "value" "[B") (.int 3)) (.int 100)) (by decide +kernel)
      | 4, _ => exact hs (Cond.eq (.elem (.field (.string RX5 96) "java/lang/String" "value" "[B") (.int 4)) (.int 116)) (by decide +kernel)
      | 5, _ => exact hs (Cond.eq (.elem (.field (.string RX5 96) "java/lang/String" "value" "[B") (.int 5)) (.int 104)) (by decide +kernel)
      | j + 6, hj => omega
    | 4, _ =>
      have hj : j < 3 := hj
      match j, hj with
      | 0, _ => exact hs (Cond.eq (.elem (.field (.string RX5 102) "java/lang/String" "value" "[B") (.int 0)) (.int 60)) (by decide +kernel)
      | 1, _ => exact hs (Cond.eq (.elem (.field (.string RX5 102) "java/lang/String" "value" "[B") (.int 1)) (.int 61)) (by decide +kernel)
      | 2, _ => exact hs (Cond.eq (.elem (.field (.string RX5 102) "java/lang/String" "value" "[B") (.int 2)) (.int 62)) (by decide +kernel)
      | j + 3, hj => omega
    | i + 5, hi => omega
  have neS : ∀ i j, i < 5 → j < 5 → i ≠ j → (Cond.not (Cond.eq ((fun i => Term.string RX5 (([55, 72, 74, 96, 102] : List Nat).getD i 0)) i) ((fun i => Term.string RX5 (([55, 72, 74, 96, 102] : List Nat).getD i 0)) j))).before #[Value.ref b] s = true ∨ (Cond.not (Cond.eq ((fun i => Term.string RX5 (([55, 72, 74, 96, 102] : List Nat).getD i 0)) j) ((fun i => Term.string RX5 (([55, 72, 74, 96, 102] : List Nat).getD i 0)) i))).before #[Value.ref b] s = true := by
    intro i j hi hj hn
    match i, j, hi, hj, hn with
    | 0, 0, _, _, hn => exact absurd rfl hn
    | 0, 1, _, _, _ => exact Or.inl (hs (Cond.not (Cond.eq (.string RX5 55) (.string RX5 72))) (by decide +kernel))
    | 0, 2, _, _, _ => exact Or.inl (hs (Cond.not (Cond.eq (.string RX5 55) (.string RX5 74))) (by decide +kernel))
    | 0, 3, _, _, _ => exact Or.inl (hs (Cond.not (Cond.eq (.string RX5 55) (.string RX5 96))) (by decide +kernel))
    | 0, 4, _, _, _ => exact Or.inl (hs (Cond.not (Cond.eq (.string RX5 55) (.string RX5 102))) (by decide +kernel))
    | 1, 0, _, _, _ => exact Or.inr (hs (Cond.not (Cond.eq (.string RX5 55) (.string RX5 72))) (by decide +kernel))
    | 1, 1, _, _, hn => exact absurd rfl hn
    | 1, 2, _, _, _ => exact Or.inl (hs (Cond.not (Cond.eq (.string RX5 72) (.string RX5 74))) (by decide +kernel))
    | 1, 3, _, _, _ => exact Or.inl (hs (Cond.not (Cond.eq (.string RX5 72) (.string RX5 96))) (by decide +kernel))
    | 1, 4, _, _, _ => exact Or.inl (hs (Cond.not (Cond.eq (.string RX5 72) (.string RX5 102))) (by decide +kernel))
    | 2, 0, _, _, _ => exact Or.inr (hs (Cond.not (Cond.eq (.string RX5 55) (.string RX5 74))) (by decide +kernel))
    | 2, 1, _, _, _ => exact Or.inr (hs (Cond.not (Cond.eq (.string RX5 72) (.string RX5 74))) (by decide +kernel))
    | 2, 2, _, _, hn => exact absurd rfl hn
    | 2, 3, _, _, _ => exact Or.inl (hs (Cond.not (Cond.eq (.string RX5 74) (.string RX5 96))) (by decide +kernel))
    | 2, 4, _, _, _ => exact Or.inl (hs (Cond.not (Cond.eq (.string RX5 74) (.string RX5 102))) (by decide +kernel))
    | 3, 0, _, _, _ => exact Or.inr (hs (Cond.not (Cond.eq (.string RX5 55) (.string RX5 96))) (by decide +kernel))
    | 3, 1, _, _, _ => exact Or.inr (hs (Cond.not (Cond.eq (.string RX5 72) (.string RX5 96))) (by decide +kernel))
    | 3, 2, _, _, _ => exact Or.inr (hs (Cond.not (Cond.eq (.string RX5 74) (.string RX5 96))) (by decide +kernel))
    | 3, 3, _, _, hn => exact absurd rfl hn
    | 3, 4, _, _, _ => exact Or.inl (hs (Cond.not (Cond.eq (.string RX5 96) (.string RX5 102))) (by decide +kernel))
    | 4, 0, _, _, _ => exact Or.inr (hs (Cond.not (Cond.eq (.string RX5 55) (.string RX5 102))) (by decide +kernel))
    | 4, 1, _, _, _ => exact Or.inr (hs (Cond.not (Cond.eq (.string RX5 72) (.string RX5 102))) (by decide +kernel))
    | 4, 2, _, _, _ => exact Or.inr (hs (Cond.not (Cond.eq (.string RX5 74) (.string RX5 102))) (by decide +kernel))
    | 4, 3, _, _, _ => exact Or.inr (hs (Cond.not (Cond.eq (.string RX5 96) (.string RX5 102))) (by decide +kernel))
    | 4, 4, _, _, hn => exact absurd rfl hn
    | i + 5, j, hi, _, _ => omega
    | i, j + 5, _, hj, _ => omega
  obtain ⟨adK, adV, hSS, hSe⟩ := vk_Sof (args := #[Value.ref b]) (s := s) (N := 5) (tm := fun i => Term.string RX5 (([55, 72, 74, 96, 102] : List Nat).getD i 0)) (len := strN) (byt := strL) (A := fun q => s.heap.size ≤ q) (by decide) tmS coS arS leS elS neS hA
  obtain ⟨ad, hd0, hd1, hdK, hdV⟩ : ∃ ad : Nat → Nat, ad 0 = tA ∧ ad 1 = tB ∧ (fun i => ad (2 * i + 2)) = adK ∧ (fun i => ad (2 * i + 3)) = adV := by
    refine ⟨fun j => if j = 0 then tA else if j = 1 then tB else if j % 2 = 0 then adK (j / 2 - 1) else adV (j / 2 - 1), rfl, rfl, ?_, ?_⟩
    · funext i
      have h1 : ¬ 2 * i + 2 = 0 := by omega
      have h2 : ¬ 2 * i + 2 = 1 := by omega
      have h3 : (2 * i + 2) % 2 = 0 := by omega
      have h4 : (2 * i + 2) / 2 - 1 = i := by omega
      simp only [h1, h2, h3, h4, if_false, if_true]
    · funext i
      have h1 : ¬ 2 * i + 3 = 0 := by omega
      have h2 : ¬ 2 * i + 3 = 1 := by omega
      have h3 : ¬ (2 * i + 3) % 2 = 0 := by omega
      have h4 : (2 * i + 3) / 2 - 1 = i := by omega
      simp only [h1, h2, h3, h4, if_false]
  have hR0 : vk_R RX5 55 "pace" (ad 2) s := by
    have h1 : (fun i => ad (2 * i + 2)) 0 = adK 0 := by rw [hdK]
    have h2 : ad 2 = adK 0 := h1
    rw [h2]; exact vk_R.of (A := #[Value.ref b]) (hts _ (List.mem_of_getElem? (i := 569) (by decide +kernel))) (hSe 0 (by decide))
  have hR1 : vk_R RX5 72 "news" (ad 4) s := by
    have h1 : (fun i => ad (2 * i + 2)) 1 = adK 1 := by rw [hdK]
    have h2 : ad 4 = adK 1 := h1
    rw [h2]; exact vk_R.of (A := #[Value.ref b]) (hts _ (List.mem_of_getElem? (i := 635) (by decide +kernel))) (hSe 1 (by decide))
  have hR2 : vk_R RX5 74 "hush" (ad 6) s := by
    have h1 : (fun i => ad (2 * i + 2)) 2 = adK 2 := by rw [hdK]
    have h2 : ad 6 = adK 2 := h1
    rw [h2]; exact vk_R.of (A := #[Value.ref b]) (hts _ (List.mem_of_getElem? (i := 636) (by decide +kernel))) (hSe 2 (by decide))
  have hR3 : vk_R RX5 96 "ckvdth" (ad 8) s := by
    have h1 : (fun i => ad (2 * i + 2)) 3 = adK 3 := by rw [hdK]
    have h2 : ad 8 = adK 3 := h1
    rw [h2]; exact vk_R.of (A := #[Value.ref b]) (hts _ (List.mem_of_getElem? (i := 653) (by decide +kernel))) (hSe 3 (by decide))
  have hR4 : vk_R RX5 102 "<=>" (ad 10) s := by
    have h1 : (fun i => ad (2 * i + 2)) 4 = adK 4 := by rw [hdK]
    have h2 : ad 10 = adK 4 := h1
    rw [h2]; exact vk_R.of (A := #[Value.ref b]) (hts _ (List.mem_of_getElem? (i := 715) (by decide +kernel))) (hSe 4 (by decide))
  have hCS := va_Zof (A := fun q => s.heap.size ≤ q) (hts _ (List.mem_of_getElem? (i := 583) (by decide +kernel))) (hts _ (List.mem_of_getElem? (i := 134) (by decide +kernel))) (va_eqi (hs (Cond.eq (.static "java/lang/String" "COMPACT_STRINGS" "Z") (.int 1)) (by decide +kernel))) hA
  have hFM := va_Zqof (A := fun q => s.heap.size ≤ q) (hts _ (List.mem_of_getElem? (i := 599) (by decide +kernel))) (hts _ (List.mem_of_getElem? (i := 136) (by decide +kernel))) (hs (Cond.isRef (.static "jdk/internal/util/Preconditions" "SIOOBE_FORMATTER" "Ljava/util/function/BiFunction;")) (by decide +kernel)) hA
  have hST : ∀ fx : Bool, ST ((dC, dI), ac, s.heap.size, ad, fx) s s.heap := by
    intro fx
    refine ⟨⟨hKc, hKa⟩, fun wd hw => ?_, ⟨?_, ?_, ?_, ?_⟩, ⟨?_, hR0, hR1, hR2, hR3, hR4⟩, ⟨hCS, hFM⟩, va_AO.of ho4, va_AO.of ho5, va_AO.of ho6⟩
    · have h1 := List.mem_filter.mp hw
      have h2 := hts wd h1.1
      cases wd <;> first | exact va_Nw.of rfl h2 | (have h3 := h1.2; cases h3)
    · show va_Z RX9 "ABOVE" "[I" (.ref (ad 0)) _ s s.heap
      rw [hd0]; exact ZA
    · show va_T .int (ad 0) 7 _ _ s s.heap
      rw [hd0]; exact TA
    · show va_Z RX0 "BODIES" "[I" (.ref (ad 1)) _ s s.heap
      rw [hd1]; exact ZB
    · show va_T .int (ad 1) 21 _ _ s s.heap
      rw [hd1]; exact TB
    · show vk_S 5 strN strL (fun i => ad (2 * i + 2)) (fun i => ad (2 * i + 3)) _ s s.heap
      rw [hdK, hdV]; exact hSS
  obtain ⟨E, hEe⟩ : ∃ E : Cx, E = (p, l, e, room_1, s, m, #[Value.ref b], below, meth, c, lw_Z below #[Value.ref b] s) := ⟨_, rfl⟩
  have hTG : ∀ wd ∈ TG, wd.before #[Value.ref b] s = true := fun wd hw => hts wd (List.mem_filter.mp hw).1
  have hE : ∀ fx : Bool, CX E ((dC, dI), ac, s.heap.size, ad, fx) l code RL 4 1000 600000 7302250 (some .boolean) := by
    intro fx
    rw [hEe]
    exact ⟨hx, hb, hml, hown, hTG, hST fx, by decide, by decide, Nat.le_refl _, Nat.le_refl _, Nat.le_refl _, hlocks, hr, rfl⟩
  have hz : CZ E ((dC, dI), ac, s.heap.size, ad, true) 0 0 := by rw [hEe]; exact rfl
  have hXX : LX E ((dC, dI), ac, s.heap.size, ad, false) b L xs := by rw [hEe]; exact ⟨hX, hbl, Nat.not_le.mpr hbl⟩
  have hQ : ∀ {pc : Nat} {lv : List (Nat × Value)} {hc hm : PH}, decode code pc = .ok (.ireturn, 1) → PW E ((dC, dI), ac, s.heap.size, ad, false) 143 9606 143 (WG ((dC, dI), ac, s.heap.size, ad, false) hc hm) pc lv [.int 1] := by
    intro pc lv hc hm hd
    rw [hEe]
    intro H locs ls h1 h2 h3 h4
    refine va_forget (fun q hq => h3.2.2 q hq) ?_
    refine W.widen (k := 600000) (n := 7302250) (Nat.le_of_ble_eq_true rfl) (Nat.le_of_ble_eq_true rfl) ?_
    exact lw_ret hx hb hr hlocks hd
  have key : PW E ((dC, dI), ac, s.heap.size, ad, true) 0 0 0 (fun _ => .inr (99, [])) 0 [(0, .ref b)] [] := by
    refine q_new (hE true) hz [.null, .null, .int 0, .null, .null, .int 0, .null, .null, .null, .null] (dlL_law_0.at 0 rfl) kc9 wc_L_7 w_new9 df9 (Nat.le_of_ble_eq_true rfl) (Nat.le_of_ble_eq_true rfl) ?_
    refine q_dup (hE true) (dlL_law_0.at 1 rfl) rfl ?_
    refine q_callI (As := []) (hE true) (dlL_law_0.at 2 rfl) (mk_X9_init rfl (va_up_self _ _ _)) mw_X9_init wm_L_9 rfl rfl rfl rfl (Nat.le_of_ble_eq_true rfl) (Nat.le_of_ble_eq_true rfl) rfl rfl ?_
    refine q_astore_n (hE true) [(0, _), (1, _)] (dlL_law_0.at 3 rfl) rfl rfl rfl ?_
    refine q_new (hE true) (CZ.add 102 hz) [.int 0, .int 0, .int 0, .null, .null, .null, .null, .int 0, .int 0, .int 0, .int 0, .int 0, .null, .null, .null, .null, .null, .null, .null, .null, .int 0, .int 0, .int 0, .null, .null, .int 0, .null, .null, .int 0, .int 0, .null, .null, .null, .int 0, .null, .null, .null, .int 0, .int 0, .null, .null, .null, .int 0, .int 0, .int 0, .int 0, .int 0, .int 0, .int 0, .int 0, .null, .null, .null, .null, .null, .null, .null, .null, .null, .null, .int 0, .null, .null, .null, .null, .null] (dlL_law_0.at 4 rfl) kc10 wc_L_10 w_new10 df10 (Nat.le_of_ble_eq_true rfl) (Nat.le_of_ble_eq_true rfl) ?_
    refine q_dup (hE true) (dlL_law_0.at 5 rfl) rfl ?_
    refine q_callI (As := []) (hE true) (dlL_law_0.at 6 rfl) (mk_X10_init rfl (va_up_self _ _ _)) mw_X10_init wm_L_12 rfl rfl rfl rfl (Nat.le_of_ble_eq_true rfl) (Nat.le_of_ble_eq_true rfl) rfl rfl ?_
    refine q_astore_n (hE true) [(0, _), (1, _), (2, _)] (dlL_law_0.at 7 rfl) rfl rfl rfl ?_
    refine q_iconst (hE true) (dlL_law_0.at 8 rfl) ic_0 ?_
    refine q_istore_n (hE true) [(0, _), (1, _), (2, _), (3, _)] (dlL_law_0.at 9 rfl) rfl rfl rfl ?_
    refine PW_off (w0_all _) ?_
    obtain ⟨F, hF⟩ := law_pure xs L hL
    exact okL_law rfl (hE false) (Nat.le_of_ble_eq_true rfl) (Nat.le_of_ble_eq_true rfl) hXX hQ F 0 h0 h0 hF
  rw [hEe] at key
  have hl := lv_entry ([.ref b]) (n := 4) (Nat.le_of_ble_eq_true rfl)
  rw [lg_entry_eq]
  refine key s.heap [] _ ?_ (fun _ => rfl) va_S.rf ?_
  · intro k q hq
    simp [wl] at hq
  · rw [hml]; exact hl
