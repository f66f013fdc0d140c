theorem bc_104 : (Int8.ofInt (104)).toInt32 = (104 : Int32) := by decide +kernel
theorem bc_115 : (Int8.ofInt (115)).toInt32 = (115 : Int32) := by decide +kernel
theorem bc_117 : (Int8.ofInt (117)).toInt32 = (117 : Int32) := by decide +kernel
theorem bc_119 : (Int8.ofInt (119)).toInt32 = (119 : Int32) := by decide +kernel
theorem bc_97 : (Int8.ofInt (97)).toInt32 = (97 : Int32) := by decide +kernel
theorem sc_360 : (Int16.ofInt (360)).toInt32 = (360 : Int32) := by decide +kernel
theorem sc_4800 : (Int16.ofInt (4800)).toInt32 = (4800 : Int32) := by decide +kernel
theorem sc_600 : (Int16.ofInt (600)).toInt32 = (600 : Int32) := by decide +kernel
theorem sc_606 : (Int16.ofInt (606)).toInt32 = (606 : Int32) := by decide +kernel
/-- in a method that makes cells: how many there are -/
def CZ : Cx → Ev → Nat → Nat → Prop
  | (p, l, e, R, s, m, args, below, meth, c, Q), V, nc, N => s.heap.size + nc = V.2.2.1 + N
theorem szL {V : Ev} {N : Nat} {G : Nat → va_E} {Hp : Heap} (hP : va_P V.1 vwCl (wl V.2.2.1 N G) Hp) (hb : V.2.2.1 ≤ Hp.size) : V.2.2.1 + N ≤ Hp.size := by
  by_cases h0 : N = 0
  · subst h0; exact hb
  have := (hP (N - 1) _ (wl_get (G := G) (show N - 1 < N by omega))).lt
  simp at this; omega
theorem szU {p : Program} {l : Launch} {e : Env} {R : Room} {s : State} {m : MethodId} {args : Array Value} {below : List Frame} {meth : Method} {c : Code} {T : State} {locs : List Loc} {nc ns : Nat} (X : Stand p l e R s m args below meth c T locs nc ns) : T.heap.size ≤ s.heap.size + nc := X.same.2.2.1
theorem Ctr.introZ {l : Launch} {V : Ev} {y : MethodName} {cc : ByteArray} {nL : Nat} {ret : Option FieldType} {k : Nat} {av : List Value} {N N' mc ms : Nat} {G G' : Nat → va_E} {ov : Option Value} (own : String) (hpl : plainName y.cls = true) (hown : y.cls = own) (hlen : Nat.ble (lg_sl av).length nL = true) {lv : List (Nat × Value)} (hlv : lv_args 0 av = lv) (hfx : V.2.2.2.2 = true)
    (body : ∀ E : Cx, CX E V l cc own nL k mc ms ret → RQ E V N' G' ov mc ms → (y.name = "<init>" → INI E) → CZ E V 0 N → PW E V 0 0 N G 0 lv []) : Ctr l V y cc nL ret k av N G N' G' ov mc ms := by
  refine Met.ofW (cc := cc) (maxL := nL) (ret := ret) hpl rfl ?_
  intro p e s m args below meth c s₁ B hml hv
  obtain ⟨rfl, hP, hsz, hbs, hT⟩ := hv
  have hts := atoms_spec (ws := Cond.code y cc nL ret :: TG) B.pre
  have hfc : s.vm.findClass own = some m.cls := by rw [← hown]; exact findClass_of_methodNamed B.named
  have h := body (p, l, e, RM k mc ms, s, m, av.toArray, below, meth, c, MQ below (QcM V N' G' ov) av.toArray s mc ms (fun q => V.2.2.1 ≤ q))
    ⟨B.exec, B.bytes, hml, hfc, fun wd hw => hts wd (List.mem_cons_of_mem _ hw), hT, Nat.le_refl _, Nat.le_refl _, hbs, Nat.le_refl _, Nat.le_refl _, B.notSynchronized, B.returns, rfl⟩ rfl
    (fun hn => by
      show meth.name = "<init>"
      rw [← hn]; exact (name_of_methodNamed B.named B.method).1)
    (hsz hfx)
  have hl := lv_entry av (n := nL) (Nat.le_of_ble_eq_true hlen)
  rw [lg_entry_eq]
  rw [hlv] at hl
  refine h s.heap [] _ hP hsz va_S.rf ?_
  rw [hml]; exact hl
theorem new_at {V : Ev} {N q : Nat} {G : Nat → va_E} {e : va_E} {A : Nat → Prop} {H1 : Heap} (hA : A = fun z => V.2.2.1 ≤ z) (hP1 : va_P V.1 vwCl (wl V.2.2.1 N G ++ [(q, e)]) H1) (hD1 : va_D A (wl V.2.2.1 N G ++ [(q, e)])) (hs : H1.size ≤ V.2.2.1 + N + 1) : q = V.2.2.1 + N := by
  have hq : (wl V.2.2.1 N G ++ [(q, e)])[N]? = some (q, e) := by
    rw [List.getElem?_append_right (by rw [wl_len]; exact Nat.le_refl _), wl_len]; simp
  have a1 := (hP1 N _ hq).lt
  have a2 := hD1.2 N _ hq
  rw [hA] at a2
  simp at a1 a2
  by_cases hlt : q < V.2.2.1 + N
  · exfalso
    have hk : q - V.2.2.1 < N := by omega
    have hg : (wl V.2.2.1 N G ++ [(q, e)])[q - V.2.2.1]? = some (V.2.2.1 + (q - V.2.2.1), G (q - V.2.2.1)) := by
      rw [List.getElem?_append_left (by rw [wl_len]; exact hk)]; exact wl_get hk
    have := hD1.1 _ _ _ _ hg hq (by simp; omega)
    omega
  · omega
section Make
variable {E : Cx} {V : Ev} {l : Launch} {cc : ByteArray} {own : String} {nL kR rc rs nc ns N : Nat} {ret : Option FieldType} {G : Nat → va_E} {pc : Nat} {lv : List (Nat × Value)} {st : List Value}
theorem CZ.add (k : Nat) (h : CZ E V nc N) : CZ E V (nc + k) (N + k) := by
  obtain ⟨p, l0, e, R, s, m, args, below, meth, c, Q⟩ := E
  have h : s.heap.size + nc = V.2.2.1 + N := h
  show s.heap.size + (nc + k) = V.2.2.1 + (N + k)
  omega
theorem q_putC (hE : CX E V l cc own nL kR rc rs ret) (hz : CZ E V nc N) {idx ci i k n : Nat} {C : String} {T : u_T} {ty0 : Nat → FieldType} {fs : List Value} {v : Value} (hd : decode cc pc = .ok (.putfield idx, 3)) (hC : KCl ci C T n ty0) (hw : Cond.fieldLink own idx (T i).1 (T i).2.1 (T i).2.2.1 ∈ TG) (hG : G k = .inr (ci, fs)) (hfin : (T i).2.2.2 = false) (hn : narrow (ty0 i) v = v) (hfit : fits (ty0 i) v = true) (hl : Nat.ble (i + 1) fs.length = true) (hkN : Nat.ble (k + 1) N = true) (hin2 : Nat.ble (i + 1) n = true) {fs' : List Value} (hfs' : fs.set i v = fs') (kk : PW E V nc ns N (va_up G k (.inr (ci, fs'))) (pc + 3) lv st) : PW E V nc ns N G pc lv (v :: rf V k :: st) := by
  subst hfs'
  obtain ⟨p, l0, e, R, s, m, args, below, meth, c, Q⟩ := E
  intro H locs ls h1 h2 h3 h4
  have hz : s.heap.size + nc = V.2.2.1 + N := hz
  have hb0 : V.2.2.1 ≤ s.heap.size := hE.2.2.2.2.2.2.2.2.1
  refine va_put hE.1 hE.2.1 hE.2.2.2.2.1 hC.2.1 ty0 hC.2.2.1 hC.2.2.2 hE.2.2.2.1 hE.2.2.2.2.2.1.1 h1 (wl_D _ _ _) h3 k (wl_at hkN hG) hC.1 i (Nat.le_of_ble_eq_true hin2) (hE.2.2.2.2.1 _ hw) (fun _ h => h) hfin (hC.2.2.1 i (Nat.le_of_ble_eq_true hin2)) hn hfit (Nat.le_of_ble_eq_true hl) hd (fun H1 locs1 hP1 hD1 hS1 => ?_)
  intro T' hT X
  have hP2 := wl_back hkN rfl hP1
  have e1 := szL hP2 (Nat.le_trans hb0 hS1.1)
  have e2 := szU X
  rw [hT] at e2
  exact kk H1 locs1 ls hP2 (fun _ => by omega) hS1 h4 T' hT X
theorem q_putFC (hE : CX E V l cc own nL kR rc rs ret) (hz : CZ E V nc N) {idx ci i k n : Nat} {C : String} {T : u_T} {ty0 : Nat → FieldType} {fs : List Value} {v : Value} (hd : decode cc pc = .ok (.putfield idx, 3)) (hC : KCl ci C T n ty0) (hw : Cond.fieldLink own idx (T i).1 (T i).2.1 (T i).2.2.1 ∈ TG) (hG : G k = .inr (ci, fs)) (hfin : (T i).2.2.2 = true) (hI : INI E) (hown : (T i).1 = own) (hn : narrow (ty0 i) v = v) (hfit : fits (ty0 i) v = true) (hl : Nat.ble (i + 1) fs.length = true) (hkN : Nat.ble (k + 1) N = true) (hin2 : Nat.ble (i + 1) n = true) {fs' : List Value} (hfs' : fs.set i v = fs') (kk : PW E V nc ns N (va_up G k (.inr (ci, fs'))) (pc + 3) lv st) : PW E V nc ns N G pc lv (v :: rf V k :: st) := by
  subst hfs'
  obtain ⟨p, l0, e, R, s, m, args, below, meth, c, Q⟩ := E
  intro H locs ls h1 h2 h3 h4
  have hz : s.heap.size + nc = V.2.2.1 + N := hz
  have hb0 : V.2.2.1 ≤ s.heap.size := hE.2.2.2.2.2.2.2.2.1
  refine va_putF hE.1 hE.2.1 hE.2.2.2.2.1 hC.2.1 ty0 hC.2.2.1 hC.2.2.2 hE.2.2.2.1 hE.2.2.2.2.2.1.1 h1 (wl_D _ _ _) h3 k (wl_at hkN hG) hC.1 i (Nat.le_of_ble_eq_true hin2) (hE.2.2.2.2.1 _ hw) (fun _ h => h) hfin hI hown (hC.2.2.1 i (Nat.le_of_ble_eq_true hin2)) hn hfit (Nat.le_of_ble_eq_true hl) hd (fun H1 locs1 hP1 hD1 hS1 => ?_)
  intro T' hT X
  have hP2 := wl_back hkN rfl hP1
  have e1 := szL hP2 (Nat.le_trans hb0 hS1.1)
  have e2 := szU X
  rw [hT] at e2
  exact kk H1 locs1 ls hP2 (fun _ => by omega) hS1 h4 T' hT X
theorem q_iastC (hE : CX E V l cc own nL kR rc rs ret) (hz : CZ E V nc N) {k n : Nat} {i x : Int32} {f : Nat → Int32} (hd : decode cc pc = .ok (.iastore, 1)) (hG : G k = .inl (V.2.1 1, n, .inl f)) (hkN : Nat.ble (k + 1) N = true) (hi : inb i n = true) (kk : PW E V nc ns N (va_up G k (.inl (V.2.1 1, n, .inl (upd f (ix i) x)))) (pc + 1) lv st) : PW E V nc ns N G pc lv (.int x :: .int i :: rf V k :: st) := by
  obtain ⟨p, l0, e, R, s, m, args, below, meth, c, Q⟩ := E
  intro H locs ls h1 h2 h3 h4
  have hz : s.heap.size + nc = V.2.2.1 + N := hz
  have hb0 : V.2.2.1 ≤ s.heap.size := hE.2.2.2.2.2.2.2.2.1
  refine va_iast hE.1 hE.2.1 hE.2.2.2.2.2.1.1 h1 (wl_D _ _ _) h3 k 1 (wl_at hkN hG) rfl (inb_in hi) hd (fun H1 locs1 hP1 hD1 hS1 => ?_)
  intro T' hT X
  have hP2 := wl_back hkN rfl hP1
  have e1 := szL hP2 (Nat.le_trans hb0 hS1.1)
  have e2 := szU X
  rw [hT] at e2
  exact kk H1 locs1 ls hP2 (fun _ => by omega) hS1 h4 T' hT X
theorem q_aastC (hE : CX E V l cc own nL kR rc rs ret) (hz : CZ E V nc N) {k n z ci nn : Nat} {i : Int32} {f : Nat → Option Nat} {fs : List Value} {C : String} {T : u_T} {ty0 : Nat → FieldType} (t : Nat) (hd : decode cc pc = .ok (.aastore, 1)) (hC : KCl ci C T nn ty0) (hG : G k = .inl (V.2.1 t, n, .inr (.inr (.inr (.inr f))))) (hGz : G z = .inr (ci, fs)) (ht : (tysOf V.2.1)[t]? = some (V.2.1 t, .object C)) (hkN : Nat.ble (k + 1) N = true) (hzN : Nat.ble (z + 1) N = true) (hi : inb i n = true) (kk : PW E V nc ns N (va_up G k (.inl (V.2.1 t, n, .inr (.inr (.inr (.inr (va_up f (ix i) (some (V.2.2.1 + z)))))))) ) (pc + 1) lv st) : PW E V nc ns N G pc lv (rf V z :: .int i :: rf V k :: st) := by
  obtain ⟨p, l0, e, R, s, m, args, below, meth, c, Q⟩ := E
  intro H locs ls h1 h2 h3 h4
  have hz : s.heap.size + nc = V.2.2.1 + N := hz
  have hb0 : V.2.2.1 ≤ s.heap.size := hE.2.2.2.2.2.2.2.2.1
  refine va_astq hE.1 hE.2.1 hE.2.2.2.2.2.1.1 h1 (wl_D _ _ _) h3 k t z ci (wl_at hkN hG) ht (wl_at hzN hGz) hC.1 (inb_in hi) hd (fun H1 locs1 hP1 hD1 hS1 => ?_)
  intro T' hT X
  have hP2 := wl_back hkN rfl hP1
  have e1 := szL hP2 (Nat.le_trans hb0 hS1.1)
  have e2 := szU X
  rw [hT] at e2
  exact kk H1 locs1 ls hP2 (fun _ => by omega) hS1 h4 T' hT X
theorem q_new (hE : CX E V l cc own nL kR rc rs ret) (hz : CZ E V nc N) {idx ci n : Nat} {C : String} {T : u_T} {ty0 : Nat → FieldType} (fs : List Value) (hd : decode cc pc = .ok (.new idx, 3)) (hC : KCl ci C T n ty0) (hw : Cond.classLink own idx C ∈ TG) (hw2 : Cond.instantiable C n ∈ TG ∧ Cond.initialized C ∈ TG) (hfs : ∀ j, j < n → defaultValue (ty0 j) = vp_V fs j) (hc1 : nc + 1 ≤ rc) (hs1 : ns + n ≤ rs) (kk : PW E V (nc + 1) (ns + n) (N + 1) (va_up G N (.inr (ci, fs))) (pc + 3) lv (rf V N :: st)) : PW E V nc ns N G pc lv st := by
  obtain ⟨p, l0, e, R, s, m, args, below, meth, c, Q⟩ := E
  intro H locs ls h1 h2 h3 h4
  have hz : s.heap.size + nc = V.2.2.1 + N := hz
  have hb0 : V.2.2.1 ≤ s.heap.size := hE.2.2.2.2.2.2.2.2.1
  have hC1 : rc ≤ R.cells := hE.2.2.2.2.2.2.2.2.2.1
  have hS1 : rs ≤ R.slots := hE.2.2.2.2.2.2.2.2.2.2.1
  have hb : V.2.2.1 ≤ s.heap.size := hE.2.2.2.2.2.2.2.2.1
  refine va_new hE.1 hE.2.1 hE.2.2.2.2.1 hC.2.1 ty0 hC.2.2.1 hE.2.2.2.1 (hE.2.2.2.2.1 _ hw) (hE.2.2.2.2.1 _ hw2.1) (hE.2.2.2.2.1 _ hw2.2) hE.2.2.2.2.2.1.1 h1 (wl_D _ _ _) h3 (fun q h => Nat.le_trans hb h) hC.1 hfs (Nat.le_trans hc1 hC1) (Nat.le_trans hs1 hS1) hd (fun q H1 hP1 hD1 hS1 => ?_)
  intro T' hT X
  have e2 := szU X
  rw [hT] at e2
  have hq := new_at rfl hP1 hD1 (by omega)
  subst hq
  rw [wl_push] at hP1
  have e1 := szL hP1 (Nat.le_trans hb0 hS1.1)
  exact kk H1 locs ls hP1 (fun _ => by omega) hS1 h4 T' hT X
theorem ra_eq {U : State} {c1 c2 : ClassId} {ty : FieldType} (a : va_RA U c1 ty) (b : va_RA U c2 ty) : c1 = c2 := by
  cases ty with
  | object C =>
    obtain ⟨_, _, -, -, -, a4⟩ := a
    obtain ⟨_, _, -, -, -, b4⟩ := b
    exact Option.some.inj (a4.symm.trans b4)
  | _ => exact Option.some.inj (a.symm.trans b)
theorem q_newa (hE : CX E V l cc own nL kR rc rs ret) (hz : CZ E V nc N) {atype : ArrayType} {n : Int32} {n' : Nat} {ty : FieldType} (t : Nat) (a0 : vp_A) (hd : decode cc pc = .ok (.newarray atype, 2)) (hw : Cond.arrayClass (newarray.typeOf atype) ∈ TG) (hty : newarray.typeOf atype = ty) (ht : (tysOf V.2.1)[t]? = some (V.2.1 t, ty)) (ha : ∀ cA : ClassId, vp_cell cA a0 = arrV cA n' (fun _ => defaultValue ty)) (hn : ¬ n < 0) (hN' : n.toNatClampNeg = n') (hby : Nat.ble (n' * componentBytes ty) 536870912 = true) (hc1 : nc + 1 ≤ rc) (hs1 : ns + n' ≤ rs) (kk : PW E V (nc + 1) (ns + n') (N + 1) (va_up G N (.inl (V.2.1 t, a0))) (pc + 2) lv (rf V N :: st)) : PW E V nc ns N G pc lv (.int n :: st) := by
  obtain ⟨p, l0, e, R, s, m, args, below, meth, c, Q⟩ := E
  intro H locs ls h1 h2 h3 h4
  have hz : s.heap.size + nc = V.2.2.1 + N := hz
  have hb0 : V.2.2.1 ≤ s.heap.size := hE.2.2.2.2.2.2.2.2.1
  have hC1 : rc ≤ R.cells := hE.2.2.2.2.2.2.2.2.2.1
  have hS1 : rs ≤ R.slots := hE.2.2.2.2.2.2.2.2.2.2.1
  have hb : V.2.2.1 ≤ s.heap.size := hE.2.2.2.2.2.2.2.2.1
  refine va_newa hE.1 hE.2.1 (hE.2.2.2.2.1 _ hw) hty hE.2.2.2.2.2.1.1 h1 (wl_D _ _ _) h3 (fun q h => Nat.le_trans hb h) ha hn hN' (Nat.le_of_ble_eq_true hby) (Nat.le_trans hc1 hC1) (Nat.le_trans hs1 hS1) hd (fun q cA H1 hK1 hP1 hD1 hS1 => ?_)
  have hcA : cA = V.2.1 t := by
    have x1 := (hK1.2 (tysOf V.2.1).length (cA, ty) (by simp)).2
    have x2 := (hE.2.2.2.2.2.1.1.2 t _ ht).2
    exact ra_eq x1 x2
  subst hcA
  intro T' hT X
  have e2 := szU X
  rw [hT] at e2
  have hq := new_at rfl hP1 hD1 (by omega)
  subst hq
  rw [wl_push] at hP1
  have e1 := szL hP1 (Nat.le_trans hb0 hS1.1)
  exact kk H1 locs ls hP1 (fun _ => by omega) hS1 h4 T' hT X
theorem q_anew (hE : CX E V l cc own nL kR rc rs ret) (hz : CZ E V nc N) {idx : Nat} {C : String} {n : Int32} {n' : Nat} (t : Nat) (hd : decode cc pc = .ok (.anewarray idx, 3)) (hw : Cond.classLink own idx C ∈ TG) (hw2 : ∀ (U : State) (Hp : Heap), XS V U Hp → va_AO C U) (ht : (tysOf V.2.1)[t]? = some (V.2.1 t, .object C)) (hn : ¬ n < 0) (hN' : n.toNatClampNeg = n') (hby : Nat.ble (n' * 4) 536870912 = true) (hc1 : nc + 1 ≤ rc) (hs1 : ns + n' ≤ rs) (kk : PW E V (nc + 1) (ns + n') (N + 1) (va_up G N (.inl (V.2.1 t, n', .inr (.inr (.inr (.inr (fun _ => none))))))) (pc + 3) lv (rf V N :: st)) : PW E V nc ns N G pc lv (.int n :: st) := by
  obtain ⟨p, l0, e, R, s, m, args, below, meth, c, Q⟩ := E
  intro H locs ls h1 h2 h3 h4
  have hz : s.heap.size + nc = V.2.2.1 + N := hz
  have hb0 : V.2.2.1 ≤ s.heap.size := hE.2.2.2.2.2.2.2.2.1
  have hC1 : rc ≤ R.cells := hE.2.2.2.2.2.2.2.2.2.1
  have hS1 : rs ≤ R.slots := hE.2.2.2.2.2.2.2.2.2.2.1
  have hb : V.2.2.1 ≤ s.heap.size := hE.2.2.2.2.2.2.2.2.1
  refine va_newq hE.1 hE.2.1 hE.2.2.2.1 (hE.2.2.2.2.1 _ hw) (hw2 _ _ hE.2.2.2.2.2.1.2.2) hE.2.2.2.2.2.1.1 h1 (wl_D _ _ _) h3 (fun q h => Nat.le_trans hb h) hn hN' (Nat.le_of_ble_eq_true hby) (Nat.le_trans hc1 hC1) (Nat.le_trans hs1 hS1) hd (fun q cA H1 hK1 hP1 hD1 hS1 => ?_)
  have hcA : cA = V.2.1 t := by
    have x1 := (hK1.2 (tysOf V.2.1).length (cA, .object C) (by simp)).2
    have x2 := (hE.2.2.2.2.2.1.1.2 t _ ht).2
    exact ra_eq x1 x2
  subst hcA
  intro T' hT X
  have e2 := szU X
  rw [hT] at e2
  have hq := new_at rfl hP1 hD1 (by omega)
  subst hq
  rw [wl_push] at hP1
  have e1 := szL hP1 (Nat.le_trans hb0 hS1.1)
  exact kk H1 locs ls hP1 (fun _ => by omega) hS1 h4 T' hT X
theorem q_objInit (hE : CX E V l cc own nL kR rc rs ret) {idx k : Nat} (hd : decode cc pc = .ok (.invokespecial idx, 3)) (hw : Cond.methodLink own idx Jvm.Lib.objectInit ∈ TG) (hw2 : Cond.instanceMethod Jvm.Lib.objectInit ∈ TG ∧ Cond.code Jvm.Lib.objectInit ⟨#[0xb1]⟩ 1 none ∈ TG) (hkR : Nat.ble 1 kR = true) (hst : Nat.ble (st.map fun v => v.category).sum 8 = true) (kk : PW E V nc ns N G (pc + 3) lv st) : PW E V nc ns N G pc lv (rf V k :: st) := by
  obtain ⟨p, l0, e, R, s, m, args, below, meth, c, Q⟩ := E
  intro H locs ls h1 h2 h3 h4
  have hb2 := Nat.le_of_ble_eq_true hkR
  have hsum := Nat.le_of_ble_eq_true hst
  have hF : kR ≤ R.frames := hE.2.2.2.2.2.2.1
  have hL : 64 * kR ≤ R.locals := hE.2.2.2.2.2.2.2.1
  exact W.objInit hE.1 hE.2.1 hE.2.2.2.1 (hE.2.2.2.2.1 _ hw) (hE.2.2.2.2.1 _ hw2.1) (hE.2.2.2.2.1 _ hw2.2) rfl h4.1 rfl hd (by omega) (by show 2 * 0 + _ + 12 ≤ _; omega) (kk H locs ls h1 h2 h3 h4)
theorem q_icmp_ge_T (hE : CX E V l cc own nL kR rc rs ret) {x y : Int32} {off : Int} {tgt : Nat} (hd : decode cc pc = .ok (.if_icmp .ge off, 3)) (ht : (pc : Int) + off = (tgt : Int)) (hc : y ≤ x) (kk : PW E V nc ns N G tgt lv st) : PW E V nc ns N G pc lv (.int y :: .int x :: st) :=
  q_icmp_ge hE (A1 := some ()) (A2 := none) (r := ()) hd ht (if_pos hc) (fun _ _ => kk) (fun h _ => absurd hc h)
theorem q_icmp_ge_F (hE : CX E V l cc own nL kR rc rs ret) {x y : Int32} {off : Int} {tgt : Nat} (hd : decode cc pc = .ok (.if_icmp .ge off, 3)) (ht : (pc : Int) + off = (tgt : Int)) (hc : ¬ y ≤ x) (kk : PW E V nc ns N G (pc + 3) lv st) : PW E V nc ns N G pc lv (.int y :: .int x :: st) :=
  q_icmp_ge hE (A1 := none) (A2 := some ()) (r := ()) hd ht (if_neg hc) (fun h _ => absurd h hc) (fun _ _ => kk)
theorem q_iincC (hE : CX E V l cc own nL kR rc rs ret) (lv' : List (Nat × Value)) (j : Nat) {i0 : Nat} {n : Int} {x x' : Int32} (hd : decode cc pc = .ok (.iinc i0 n, 3)) (hk : lv[j]? = some (i0, .int x)) (hv : x + Int32.ofInt n = x') (hn : Nat.ble (i0 + 1) nL = true) (hl : lst i0 (.int x') lv = lv') (kk : PW E V nc ns N G (pc + 3) lv' st) : PW E V nc ns N G pc lv st := by
  subst hv
  exact q_iinc hE lv' j hd hk rfl hn hl kk
end Make
theorem w_obj : Cond.instanceMethod Jvm.Lib.objectInit ∈ TG ∧ Cond.code Jvm.Lib.objectInit ⟨#[0xb1]⟩ 1 none ∈ TG := ⟨inTG 147 (by decide +kernel) rfl, inTG 148 (by decide +kernel) rfl⟩
theorem w_new0 : Cond.instantiable RX0 5 ∈ TG ∧ Cond.initialized RX0 ∈ TG := ⟨inTG 331 (by decide +kernel) rfl, inTG 129 (by decide +kernel) rfl⟩
theorem w_new1 : Cond.instantiable RX1 4 ∈ TG ∧ Cond.initialized RX1 ∈ TG := ⟨inTG 281 (by decide +kernel) rfl, inTG 127 (by decide +kernel) rfl⟩
theorem w_new2 : Cond.instantiable RX2 6 ∈ TG ∧ Cond.initialized RX2 ∈ TG := ⟨inTG 356 (by decide +kernel) rfl, inTG 130 (by decide +kernel) rfl⟩
theorem w_new3 : Cond.instantiable RX3 3 ∈ TG ∧ Cond.initialized RX3 ∈ TG := ⟨inTG 156 (by decide +kernel) rfl, inTG 124 (by decide +kernel) rfl⟩
theorem w_new4 : Cond.instantiable RX4 5 ∈ TG ∧ Cond.initialized RX4 ∈ TG := ⟨inTG 304 (by decide +kernel) rfl, inTG 128 (by decide +kernel) rfl⟩
theorem w_new5 : Cond.instantiable RX5 6 ∈ TG ∧ Cond.initialized RX5 ∈ TG := ⟨inTG 251 (by decide +kernel) rfl, inTG 126 (by decide +kernel) rfl⟩
theorem w_new6 : Cond.instantiable RX6 3 ∈ TG ∧ Cond.initialized RX6 ∈ TG := ⟨inTG 184 (by decide +kernel) rfl, inTG 125 (by decide +kernel) rfl⟩
theorem w_new7 : Cond.instantiable RX7 11 ∈ TG ∧ Cond.initialized RX7 ∈ TG := ⟨inTG 150 (by decide +kernel) rfl, inTG 123 (by decide +kernel) rfl⟩
theorem w_new8 : Cond.instantiable RX8 3 ∈ TG ∧ Cond.initialized RX8 ∈ TG := ⟨inTG 382 (by decide +kernel) rfl, inTG 131 (by decide +kernel) rfl⟩
theorem w_new9 : Cond.instantiable RX9 10 ∈ TG ∧ Cond.initialized RX9 ∈ TG := ⟨inTG 142 (by decide +kernel) rfl, inTG 122 (by decide +kernel) rfl⟩
theorem w_new10 : Cond.instantiable RX10 66 ∈ TG ∧ Cond.initialized RX10 ∈ TG := ⟨inTG 1003 (by decide +kernel) rfl, inTG 132 (by decide +kernel) rfl⟩
theorem w_ar_int : Cond.arrayClass .int ∈ TG := inTG 181 (by decide +kernel) rfl
theorem w_ar_long : Cond.arrayClass .long ∈ TG := inTG 399 (by decide +kernel) rfl
theorem w_ar_byte : Cond.arrayClass .byte ∈ TG := inTG 277 (by decide +kernel) rfl
theorem w_ar_boolean : Cond.arrayClass .boolean ∈ TG := inTG 182 (by decide +kernel) rfl
theorem wc_L_7 : Cond.classLink RL 7 RX9 ∈ TG := inTG 141 (by decide +kernel) rfl
theorem wc_X9_9 : Cond.classLink RX9 9 RX7 ∈ TG := inTG 149 (by decide +kernel) rfl
theorem wc_X7_28 : Cond.classLink RX7 28 RX3 ∈ TG := inTG 155 (by decide +kernel) rfl
theorem wc_X7_35 : Cond.classLink RX7 35 RX6 ∈ TG := inTG 183 (by decide +kernel) rfl
theorem wc_X9_25 : Cond.classLink RX9 25 RX5 ∈ TG := inTG 250 (by decide +kernel) rfl
theorem wc_X9_32 : Cond.classLink RX9 32 RX2 ∈ TG := inTG 278 (by decide +kernel) rfl
theorem wc_X9_42 : Cond.classLink RX9 42 RX1 ∈ TG := inTG 280 (by decide +kernel) rfl
theorem wc_X1_9 : Cond.classLink RX1 9 RX3 ∈ TG := inTG 286 (by decide +kernel) rfl
theorem wc_X9_51 : Cond.classLink RX9 51 RX4 ∈ TG := inTG 303 (by decide +kernel) rfl
theorem wc_X4_9 : Cond.classLink RX4 9 RX3 ∈ TG := inTG 309 (by decide +kernel) rfl
theorem wc_X9_58 : Cond.classLink RX9 58 RX0 ∈ TG := inTG 330 (by decide +kernel) rfl
theorem wc_X9_65 : Cond.classLink RX9 65 RX8 ∈ TG := inTG 354 (by decide +kernel) rfl
theorem wc_L_10 : Cond.classLink RL 10 RX10 ∈ TG := inTG 1002 (by decide +kernel) rfl
theorem df0 : ∀ j, j < 5 → defaultValue (tyX0 j) = vp_V [.null, .int 0, .int 0, .int 0, .int 0] j := by decide
theorem df1 : ∀ j, j < 4 → defaultValue (tyX1 j) = vp_V [.null, .null, .int 0, .int 0] j := by decide
theorem df2 : ∀ j, j < 6 → defaultValue (tyX2 j) = vp_V [.int 0, .int 0, .null, .null, .int 0, .null] j := by decide
theorem df3 : ∀ j, j < 3 → defaultValue (tyX3 j) = vp_V [.int 0, .null, .null] j := by decide
theorem df4 : ∀ j, j < 5 → defaultValue (tyX4 j) = vp_V [.null, .null, .null, .null, .int 0] j := by decide
theorem df5 : ∀ j, j < 6 → defaultValue (tyX5 j) = vp_V [.null, .int 0, .int 0, .int 0, .int 0, .null] j := by decide
theorem df6 : ∀ j, j < 3 → defaultValue (tyX6 j) = vp_V [.int 0, .null, .int 0] j := by decide
theorem df7 : ∀ j, j < 11 → defaultValue (tyX7 j) = vp_V [.int 0, .null, .null, .null, .null, .null, .null, .null, .null, .null, .null] j := by decide
theorem df8 : ∀ j, j < 3 → defaultValue (tyX8 j) = vp_V [.int 0, .int 0, .null] j := by decide
theorem df9 : ∀ j, j < 10 → defaultValue (tyX9 j) = vp_V [.null, .null, .int 0, .null, .null, .int 0, .null, .null, .null, .null] j := by decide
theorem df10 : ∀ j, j < 66 → defaultValue (tyX10 j) = vp_V [.int 0, .int 0, .int 0, .null, .null, .null, .null, .int 0, .int 0, .int 0, .int 0, .int 0, .null, .null, .null, .null, .null, .null, .null, .null, .int 0, .int 0, .int 0, .null, .null, .int 0, .null, .null, .int 0, .int 0, .null, .null, .null, .int 0, .null, .null, .null, .int 0, .int 0, .null, .null, .null, .int 0, .int 0, .int 0, .int 0, .int 0, .int 0, .int 0, .int 0, .null, .null, .null, .null, .null, .null, .null, .null, .null, .null, .int 0, .null, .null, .null, .null, .null] j := by decide
def GI_X3_init (V : Ev) (G : Nat → va_E) (k N : Nat) : Nat → va_E := (va_up (va_up (va_up (va_up (va_up G k (.inr (3, [.int 100, .null, .null]))) N (.inl (V.2.1 1, 6, .inl (fun _ => 0)))) k (.inr (3, [.int 100, rf V N, .null]))) (N + 1) (.inl (V.2.1 3, 6, .inl (fun _ => 0)))) k (.inr (3, [.int 100, rf V N, rf V (N + 1)])))
theorem fr_X3_init {V : Ev} {G : Nat → va_E} {k N j : Nat} (h1 : j ≠ k) (h2 : j < N) : GI_X3_init V G k N j = G j := by
  unfold GI_X3_init
  repeat first | rw [va_up_ne _ _ (by omega)] | rw [va_up_ne _ _ h1]
set_option maxRecDepth 20000 in
theorem mk_X3_init {V : Ev} {l : Launch} {G : Nat → va_E} {k N : Nat} (hfx : V.2.2.2.2 = true) (hG : G k = .inr (3, [.int 0, .null, .null])) (hkN : k < N) : Ctr l V yX3_init cX3_init 1 none 1 [rf V k] N G (N + 2) (GI_X3_init V G k N) none 2 12 := by
  refine Ctr.introZ RX3 (by decide +kernel) rfl rfl rfl hfx ?_
  intro E hE hQ hI hz
  refine q_aload_n hE 0 (dlX3_init_0.at 0 rfl) rfl rfl ?_
  refine q_objInit hE (dlX3_init_0.at 1 rfl) wm_X3_3 w_obj rfl rfl ?_
  refine q_aload_n hE 0 (dlX3_init_0.at 2 rfl) rfl rfl ?_
  refine q_bipush hE (dlX3_init_0.at 3 rfl) bc_100 ?_
  refine q_putC hE hz (dlX3_init_0.at 4 rfl) kc3 wf_X3_9 hG rfl rfl rfl rfl (Nat.ble_eq.mpr (by omega)) rfl (fs' := [.int 100, .null, .null]) rfl ?_
  refine q_aload_n hE 0 (dlX3_init_0.at 5 rfl) rfl rfl ?_
  refine q_bipush hE (dlX3_init_0.at 6 rfl) bc_6 ?_
  refine q_newa (n' := 6) hE hz 1 (6, .inl (fun _ => 0)) (dlX3_init_0.at 7 rfl) w_ar_int rfl rfl (fun _ => rfl) (by decide) (by decide) rfl (by decide) (by decide) ?_
  refine q_putFC hE (CZ.add 1 hz) (dlX3_init_0.at 8 rfl) kc3 wf_X3_15 ((va_up_ne _ _ (by omega)).trans (va_up_self _ _ _)) rfl (hI rfl) rfl rfl rfl rfl (Nat.ble_eq.mpr (by omega)) rfl (fs' := [.int 100, rf V N, .null]) rfl ?_
  refine q_aload_n hE 0 (dlX3_init_0.at 9 rfl) rfl rfl ?_
  refine q_bipush hE (dlX3_init_0.at 10 rfl) bc_6 ?_
  refine q_newa (n' := 6) hE (CZ.add 1 hz) 3 (6, .inl (fun _ => 0)) (dlX3_init_0.at 11 rfl) w_ar_boolean rfl rfl (fun _ => rfl) (by decide) (by decide) rfl (by decide) (by decide) ?_
  refine q_putFC hE (CZ.add 2 hz) (dlX3_init_0.at 12 rfl) kc3 wf_X3_19 ((va_up_ne _ _ (by omega)).trans (va_up_self _ _ _)) rfl (hI rfl) rfl rfl rfl rfl (Nat.ble_eq.mpr (by omega)) rfl (fs' := [.int 100, rf V N, rf V (N + 1)]) rfl ?_
  exact q_vret0 hE (dlX3_init_0.at 13 rfl) hQ (by decide) (by decide) rfl rfl
theorem so_X3_init {V : Ev} {G : Nat → va_E} {k N : Nat} (hkN : k < N) : GI_X3_init V G k N k = .inr (3, [.int 100, rf V N, rf V (N + 1)]) := by
  unfold GI_X3_init
  repeat first | exact va_up_self _ _ _ | rw [va_up_ne _ _ (by omega)]
def GI_X6_init_5 (V : Ev) (G : Nat → va_E) (k N : Nat) : Nat → va_E := (va_up (va_up (va_up (va_up G k (.inr (6, [.int 0, .null, .int 0]))) k (.inr (6, [.int 5, .null, .int 0]))) N (.inl (V.2.1 1, 15, .inl (fun _ => 0)))) k (.inr (6, [.int 5, rf V N, .int 0])))
theorem fr_X6_init_5 {V : Ev} {G : Nat → va_E} {k N j : Nat} (h1 : j ≠ k) (h2 : j < N) : GI_X6_init_5 V G k N j = G j := by
  unfold GI_X6_init_5
  repeat first | rw [va_up_ne _ _ (by omega)] | rw [va_up_ne _ _ h1]
set_option maxRecDepth 20000 in
theorem mk_X6_init_5 {V : Ev} {l : Launch} {G : Nat → va_E} {k N : Nat} (hfx : V.2.2.2.2 = true) (hG : G k = .inr (6, [.int 0, .null, .int 0])) (hkN : k < N) : Ctr l V yX6_init cX6_init 2 none 1 [rf V k, .int 5] N G (N + 1) (GI_X6_init_5 V G k N) none 1 15 := by
  refine Ctr.introZ RX6 (by decide +kernel) rfl rfl rfl hfx ?_
  intro E hE hQ hI hz
  refine q_aload_n hE 0 (dlX6_init_0.at 0 rfl) rfl rfl ?_
  refine q_objInit hE (dlX6_init_0.at 1 rfl) wm_X6_3 w_obj rfl rfl ?_
  refine q_aload_n hE 0 (dlX6_init_0.at 2 rfl) rfl rfl ?_
  refine q_iconst hE (dlX6_init_0.at 3 rfl) ic_0 ?_
  refine q_putC hE hz (dlX6_init_0.at 4 rfl) kc6 wf_X6_9 hG rfl rfl rfl rfl (Nat.ble_eq.mpr (by omega)) rfl (fs' := [.int 0, .null, .int 0]) rfl ?_
  refine q_aload_n hE 0 (dlX6_init_0.at 5 rfl) rfl rfl ?_
  refine q_iload_n hE 1 (dlX6_init_0.at 6 rfl) rfl rfl ?_
  refine q_putFC hE hz (dlX6_init_0.at 7 rfl) kc6 wf_X6_15 (va_up_self _ _ _) rfl (hI rfl) rfl rfl rfl rfl (Nat.ble_eq.mpr (by omega)) rfl (fs' := [.int 5, .null, .int 0]) rfl ?_
  refine q_aload_n hE 0 (dlX6_init_0.at 8 rfl) rfl rfl ?_
  refine q_iload_n hE 1 (dlX6_init_0.at 9 rfl) rfl rfl ?_
  refine q_iconst hE (dlX6_init_0.at 10 rfl) ic_3 ?_
  refine q_imul hE (dlX6_init_0.at 11 rfl) ?_
  refine q_newa (n' := 15) hE hz 1 (15, .inl (fun _ => 0)) (dlX6_init_0.at 12 rfl) w_ar_int rfl rfl (fun _ => rfl) (by decide) (by decide) rfl (by decide) (by decide) ?_
  refine q_putFC hE (CZ.add 1 hz) (dlX6_init_0.at 13 rfl) kc6 wf_X6_18 ((va_up_ne _ _ (by omega)).trans (va_up_self _ _ _)) rfl (hI rfl) rfl rfl rfl rfl (Nat.ble_eq.mpr (by omega)) rfl (fs' := [.int 5, rf V N, .int 0]) rfl ?_
  exact q_vret0 hE (dlX6_init_0.at 14 rfl) hQ (by decide) (by decide) rfl rfl
theorem so_X6_init_5 {V : Ev} {G : Nat → va_E} {k N : Nat} (hkN : k < N) : GI_X6_init_5 V G k N k = .inr (6, [.int 5, rf V N, .int 0]) := by
  unfold GI_X6_init_5
  repeat first | exact va_up_self _ _ _ | rw [va_up_ne _ _ (by omega)]
def GI_X6_init_10 (V : Ev) (G : Nat → va_E) (k N : Nat) : Nat → va_E := (va_up (va_up (va_up (va_up G k (.inr (6, [.int 0, .null, .int 0]))) k (.inr (6, [.int 10, .null, .int 0]))) N (.inl (V.2.1 1, 30, .inl (fun _ => 0)))) k (.inr (6, [.int 10, rf V N, .int 0])))
theorem fr_X6_init_10 {V : Ev} {G : Nat → va_E} {k N j : Nat} (h1 : j ≠ k) (h2 : j < N) : GI_X6_init_10 V G k N j = G j := by
  unfold GI_X6_init_10
  repeat first | rw [va_up_ne _ _ (by omega)] | rw [va_up_ne _ _ h1]
set_option maxRecDepth 20000 in
theorem mk_X6_init_10 {V : Ev} {l : Launch} {G : Nat → va_E} {k N : Nat} (hfx : V.2.2.2.2 = true) (hG : G k = .inr (6, [.int 0, .null, .int 0])) (hkN : k < N) : Ctr l V yX6_init cX6_init 2 none 1 [rf V k, .int 10] N G (N + 1) (GI_X6_init_10 V G k N) none 1 30 := by
  refine Ctr.introZ RX6 (by decide +kernel) rfl rfl rfl hfx ?_
  intro E hE hQ hI hz
  refine q_aload_n hE 0 (dlX6_init_0.at 0 rfl) rfl rfl ?_
  refine q_objInit hE (dlX6_init_0.at 1 rfl) wm_X6_3 w_obj rfl rfl ?_
  refine q_aload_n hE 0 (dlX6_init_0.at 2 rfl) rfl rfl ?_
  refine q_iconst hE (dlX6_init_0.at 3 rfl) ic_0 ?_
  refine q_putC hE hz (dlX6_init_0.at 4 rfl) kc6 wf_X6_9 hG rfl rfl rfl rfl (Nat.ble_eq.mpr (by omega)) rfl (fs' := [.int 0, .null, .int 0]) rfl ?_
  refine q_aload_n hE 0 (dlX6_init_0.at 5 rfl) rfl rfl ?_
  refine q_iload_n hE 1 (dlX6_init_0.at 6 rfl) rfl rfl ?_
  refine q_putFC hE hz (dlX6_init_0.at 7 rfl) kc6 wf_X6_15 (va_up_self _ _ _) rfl (hI rfl) rfl rfl rfl rfl (Nat.ble_eq.mpr (by omega)) rfl (fs' := [.int 10, .null, .int 0]) rfl ?_
  refine q_aload_n hE 0 (dlX6_init_0.at 8 rfl) rfl rfl ?_
  refine q_iload_n hE 1 (dlX6_init_0.at 9 rfl) rfl rfl ?_
  refine q_iconst hE (dlX6_init_0.at 10 rfl) ic_3 ?_
  refine q_imul hE (dlX6_init_0.at 11 rfl) ?_
  refine q_newa (n' := 30) hE hz 1 (30, .inl (fun _ => 0)) (dlX6_init_0.at 12 rfl) w_ar_int rfl rfl (fun _ => rfl) (by decide) (by decide) rfl (by decide) (by decide) ?_
  refine q_putFC hE (CZ.add 1 hz) (dlX6_init_0.at 13 rfl) kc6 wf_X6_18 ((va_up_ne _ _ (by omega)).trans (va_up_self _ _ _)) rfl (hI rfl) rfl rfl rfl rfl (Nat.ble_eq.mpr (by omega)) rfl (fs' := [.int 10, rf V N, .int 0]) rfl ?_
  exact q_vret0 hE (dlX6_init_0.at 14 rfl) hQ (by decide) (by decide) rfl rfl
theorem so_X6_init_10 {V : Ev} {G : Nat → va_E} {k N : Nat} (hkN : k < N) : GI_X6_init_10 V G k N k = .inr (6, [.int 10, rf V N, .int 0]) := by
  unfold GI_X6_init_10
  repeat first | exact va_up_self _ _ _ | rw [va_up_ne _ _ (by omega)]
def GI_X6_init_8 (V : Ev) (G : Nat → va_E) (k N : Nat) : Nat → va_E := (va_up (va_up (va_up (va_up G k (.inr (6, [.int 0, .null, .int 0]))) k (.inr (6, [.int 8, .null, .int 0]))) N (.inl (V.2.1 1, 24, .inl (fun _ => 0)))) k (.inr (6, [.int 8, rf V N, .int 0])))
theorem fr_X6_init_8 {V : Ev} {G : Nat → va_E} {k N j : Nat} (h1 : j ≠ k) (h2 : j < N) : GI_X6_init_8 V G k N j = G j := by
  unfold GI_X6_init_8
  repeat first | rw [va_up_ne _ _ (by omega)] | rw [va_up_ne _ _ h1]
set_option maxRecDepth 20000 in
theorem mk_X6_init_8 {V : Ev} {l : Launch} {G : Nat → va_E} {k N : Nat} (hfx : V.2.2.2.2 = true) (hG : G k = .inr (6, [.int 0, .null, .int 0])) (hkN : k < N) : Ctr l V yX6_init cX6_init 2 none 1 [rf V k, .int 8] N G (N + 1) (GI_X6_init_8 V G k N) none 1 24 := by
  refine Ctr.introZ RX6 (by decide +kernel) rfl rfl rfl hfx ?_
  intro E hE hQ hI hz
  refine q_aload_n hE 0 (dlX6_init_0.at 0 rfl) rfl rfl ?_
  refine q_objInit hE (dlX6_init_0.at 1 rfl) wm_X6_3 w_obj rfl rfl ?_
  refine q_aload_n hE 0 (dlX6_init_0.at 2 rfl) rfl rfl ?_
  refine q_iconst hE (dlX6_init_0.at 3 rfl) ic_0 ?_
  refine q_putC hE hz (dlX6_init_0.at 4 rfl) kc6 wf_X6_9 hG rfl rfl rfl rfl (Nat.ble_eq.mpr (by omega)) rfl (fs' := [.int 0, .null, .int 0]) rfl ?_
  refine q_aload_n hE 0 (dlX6_init_0.at 5 rfl) rfl rfl ?_
  refine q_iload_n hE 1 (dlX6_init_0.at 6 rfl) rfl rfl ?_
  refine q_putFC hE hz (dlX6_init_0.at 7 rfl) kc6 wf_X6_15 (va_up_self _ _ _) rfl (hI rfl) rfl rfl rfl rfl (Nat.ble_eq.mpr (by omega)) rfl (fs' := [.int 8, .null, .int 0]) rfl ?_
  refine q_aload_n hE 0 (dlX6_init_0.at 8 rfl) rfl rfl ?_
  refine q_iload_n hE 1 (dlX6_init_0.at 9 rfl) rfl rfl ?_
  refine q_iconst hE (dlX6_init_0.at 10 rfl) ic_3 ?_
  refine q_imul hE (dlX6_init_0.at 11 rfl) ?_
  refine q_newa (n' := 24) hE hz 1 (24, .inl (fun _ => 0)) (dlX6_init_0.at 12 rfl) w_ar_int rfl rfl (fun _ => rfl) (by decide) (by decide) rfl (by decide) (by decide) ?_
  refine q_putFC hE (CZ.add 1 hz) (dlX6_init_0.at 13 rfl) kc6 wf_X6_18 ((va_up_ne _ _ (by omega)).trans (va_up_self _ _ _)) rfl (hI rfl) rfl rfl rfl rfl (Nat.ble_eq.mpr (by omega)) rfl (fs' := [.int 8, rf V N, .int 0]) rfl ?_
  exact q_vret0 hE (dlX6_init_0.at 14 rfl) hQ (by decide) (by decide) rfl rfl
theorem so_X6_init_8 {V : Ev} {G : Nat → va_E} {k N : Nat} (hkN : k < N) : GI_X6_init_8 V G k N k = .inr (6, [.int 8, rf V N, .int 0]) := by
  unfold GI_X6_init_8
  repeat first | exact va_up_self _ _ _ | rw [va_up_ne _ _ (by omega)]
def GI_X7_init (V : Ev) (G : Nat → va_E) (k N : Nat) : Nat → va_E := (va_up (va_up (va_up (va_up (GI_X6_init_8 V (va_up (va_up (GI_X6_init_10 V (va_up (va_up (GI_X6_init_5 V (va_up (va_up (GI_X3_init V (va_up (va_up (va_up (va_up (va_up (va_up (va_up (va_up (va_up (va_up G k (.inr (7, [.int 0, .null, .null, .null, .null, .null, .null, .null, .null, .null, .null]))) N (.inl (V.2.1 1, 6, .inl (fun _ => 0)))) k (.inr (7, [.int 0, rf V N, .null, .null, .null, .null, .null, .null, .null, .null, .null]))) (N + 1) (.inl (V.2.1 1, 6, .inl (fun _ => 0)))) k (.inr (7, [.int 0, rf V N, rf V (N + 1), .null, .null, .null, .null, .null, .null, .null, .null]))) (N + 2) (.inl (V.2.1 1, 24, .inl (fun _ => 0)))) k (.inr (7, [.int 0, rf V N, rf V (N + 1), rf V (N + 2), .null, .null, .null, .null, .null, .null, .null]))) (N + 3) (.inl (V.2.1 1, 606, .inl (fun _ => 0)))) k (.inr (7, [.int 0, rf V N, rf V (N + 1), rf V (N + 2), rf V (N + 3), .null, .null, .null, .null, .null, .null]))) (N + 4) (.inr (3, [.int 0, .null, .null]))) (N + 4) (N + 5)) k (.inr (7, [.int 0, rf V N, rf V (N + 1), rf V (N + 2), rf V (N + 3), rf V (N + 4), .null, .null, .null, .null, .null]))) (N + 7) (.inr (6, [.int 0, .null, .int 0]))) (N + 7) (N + 8)) k (.inr (7, [.int 0, rf V N, rf V (N + 1), rf V (N + 2), rf V (N + 3), rf V (N + 4), rf V (N + 7), .null, .null, .null, .null]))) (N + 9) (.inr (6, [.int 0, .null, .int 0]))) (N + 9) (N + 10)) k (.inr (7, [.int 0, rf V N, rf V (N + 1), rf V (N + 2), rf V (N + 3), rf V (N + 4), rf V (N + 7), rf V (N + 9), .null, .null, .null]))) (N + 11) (.inr (6, [.int 0, .null, .int 0]))) (N + 11) (N + 12)) k (.inr (7, [.int 0, rf V N, rf V (N + 1), rf V (N + 2), rf V (N + 3), rf V (N + 4), rf V (N + 7), rf V (N + 9), rf V (N + 11), .null, .null]))) (N + 13) (.inl (V.2.1 1, 6, .inl (fun _ => 0)))) k (.inr (7, [.int 0, rf V N, rf V (N + 1), rf V (N + 2), rf V (N + 3), rf V (N + 4), rf V (N + 7), rf V (N + 9), rf V (N + 11), rf V (N + 13), .null]))) k (.inr (7, [.int 0, rf V N, rf V (N + 1), rf V (N + 2), rf V (N + 3), rf V (N + 4), rf V (N + 7), rf V (N + 9), rf V (N + 11), rf V (N + 13), .null])))
theorem fr_X7_init {V : Ev} {G : Nat → va_E} {k N j : Nat} (h1 : j ≠ k) (h2 : j < N) : GI_X7_init V G k N j = G j := by
  unfold GI_X7_init
  repeat first | rw [va_up_ne _ _ (by omega)] | rw [va_up_ne _ _ h1] | rw [fr_X3_init (by omega) (by omega)] | rw [fr_X6_init_10 (by omega) (by omega)] | rw [fr_X6_init_5 (by omega) (by omega)] | rw [fr_X6_init_8 (by omega) (by omega)]
set_option maxRecDepth 20000 in
theorem mk_X7_init {V : Ev} {l : Launch} {G : Nat → va_E} {k N : Nat} (hfx : V.2.2.2.2 = true) (hG : G k = .inr (7, [.int 0, .null, .null, .null, .null, .null, .null, .null, .null, .null, .null])) (hkN : k < N) : Ctr l V yX7_init cX7_init 1 none 2 [rf V k] N G (N + 14) (GI_X7_init V G k N) none 14 741 := by
  refine Ctr.introZ RX7 (by decide +kernel) rfl rfl rfl hfx ?_
  intro E hE hQ hI hz
  refine q_aload_n hE 0 (dlX7_init_0.at 0 rfl) rfl rfl ?_
  refine q_objInit hE (dlX7_init_0.at 1 rfl) wm_X7_5 w_obj rfl rfl ?_
  refine q_aload_n hE 0 (dlX7_init_0.at 2 rfl) rfl rfl ?_
  refine q_iconst hE (dlX7_init_0.at 3 rfl) ic_0 ?_
  refine q_putC hE hz (dlX7_init_0.at 4 rfl) kc7 wf_X7_11 hG rfl rfl rfl rfl (Nat.ble_eq.mpr (by omega)) rfl (fs' := [.int 0, .null, .null, .null, .null, .null, .null, .null, .null, .null, .null]) rfl ?_
  refine q_aload_n hE 0 (dlX7_init_0.at 5 rfl) rfl rfl ?_
  refine q_bipush hE (dlX7_init_0.at 6 rfl) bc_6 ?_
  refine q_newa (n' := 6) hE hz 1 (6, .inl (fun _ => 0)) (dlX7_init_0.at 7 rfl) w_ar_int rfl rfl (fun _ => rfl) (by decide) (by decide) rfl (by decide) (by decide) ?_
  refine q_putFC hE (CZ.add 1 hz) (dlX7_init_0.at 8 rfl) kc7 wf_X7_15 ((va_up_ne _ _ (by omega)).trans (va_up_self _ _ _)) rfl (hI rfl) rfl rfl rfl rfl (Nat.ble_eq.mpr (by omega)) rfl (fs' := [.int 0, rf V N, .null, .null, .null, .null, .null, .null, .null, .null, .null]) rfl ?_
  refine q_aload_n hE 0 (dlX7_init_0.at 9 rfl) rfl rfl ?_
  refine q_bipush hE (dlX7_init_0.at 10 rfl) bc_6 ?_
  refine q_newa (n' := 6) hE (CZ.add 1 hz) 1 (6, .inl (fun _ => 0)) (dlX7_init_0.at 11 rfl) w_ar_int rfl rfl (fun _ => rfl) (by decide) (by decide) rfl (by decide) (by decide) ?_
  refine q_putFC hE (CZ.add 2 hz) (dlX7_init_0.at 12 rfl) kc7 wf_X7_19 ((va_up_ne _ _ (by omega)).trans (va_up_self _ _ _)) rfl (hI rfl) rfl rfl rfl rfl (Nat.ble_eq.mpr (by omega)) rfl (fs' := [.int 0, rf V N, rf V (N + 1), .null, .null, .null, .null, .null, .null, .null, .null]) rfl ?_
  refine q_aload_n hE 0 (dlX7_init_0.at 13 rfl) rfl rfl ?_
  refine q_bipush hE (dlX7_init_0.at 14 rfl) bc_24 ?_
  refine q_newa (n' := 24) hE (CZ.add 2 hz) 1 (24, .inl (fun _ => 0)) (dlX7_init_0.at 15 rfl) w_ar_int rfl rfl (fun _ => rfl) (by decide) (by decide) rfl (by decide) (by decide) ?_
  refine q_putFC hE (CZ.add 3 hz) (dlX7_init_0.at 16 rfl) kc7 wf_X7_22 ((va_up_ne _ _ (by omega)).trans (va_up_self _ _ _)) rfl (hI rfl) rfl rfl rfl rfl (Nat.ble_eq.mpr (by omega)) rfl (fs' := [.int 0, rf V N, rf V (N + 1), rf V (N + 2), .null, .null, .null, .null, .null, .null, .null]) rfl ?_
  refine q_aload_n hE 0 (dlX7_init_0.at 17 rfl) rfl rfl ?_
  refine q_sipush hE (dlX7_init_0.at 18 rfl) sc_606 ?_
  refine q_newa (n' := 606) hE (CZ.add 3 hz) 1 (606, .inl (fun _ => 0)) (dlX7_init_0.at 19 rfl) w_ar_int rfl rfl (fun _ => rfl) (by decide) (by decide) rfl (by decide) (by decide) ?_
  refine q_putFC hE (CZ.add 4 hz) (dlX7_init_0.at 20 rfl) kc7 wf_X7_25 ((va_up_ne _ _ (by omega)).trans (va_up_self _ _ _)) rfl (hI rfl) rfl rfl rfl rfl (Nat.ble_eq.mpr (by omega)) rfl (fs' := [.int 0, rf V N, rf V (N + 1), rf V (N + 2), rf V (N + 3), .null, .null, .null, .null, .null, .null]) rfl ?_
  refine q_aload_n hE 0 (dlX7_init_0.at 21 rfl) rfl rfl ?_
  refine q_new hE (CZ.add 4 hz) [.int 0, .null, .null] (dlX7_init_0.at 22 rfl) kc3 wc_X7_28 w_new3 df3 (by decide) (by decide) ?_
  refine q_dup hE (dlX7_init_0.at 23 rfl) rfl ?_
  refine q_callIN (As := []) hE (dlX7_init_0.at 24 rfl) (mk_X3_init hfx (va_up_self _ _ _) (by omega)) mw_X3_init wm_X7_30 rfl rfl rfl rfl (by decide) (by decide) rfl rfl ?_
  refine q_putFC hE (CZ.add 7 hz) (dlX7_init_0.at 25 rfl) kc7 wf_X7_31 ((fr_X3_init (by omega) (by omega)).trans ((va_up_ne _ _ (by omega)).trans (va_up_self _ _ _))) rfl (hI rfl) rfl rfl rfl rfl (Nat.ble_eq.mpr (by omega)) rfl (fs' := [.int 0, rf V N, rf V (N + 1), rf V (N + 2), rf V (N + 3), rf V (N + 4), .null, .null, .null, .null, .null]) rfl ?_
  refine q_aload_n hE 0 (dlX7_init_0.at 26 rfl) rfl rfl ?_
  refine q_new hE (CZ.add 7 hz) [.int 0, .null, .int 0] (dlX7_init_0.at 27 rfl) kc6 wc_X7_35 w_new6 df6 (by decide) (by decide) ?_
  refine q_dup hE (dlX7_init_0.at 28 rfl) rfl ?_
  refine q_iconst hE (dlX7_init_0.at 29 rfl) ic_5 ?_
  refine q_callIN (As := [_]) hE (dlX7_init_0.at 30 rfl) (mk_X6_init_5 hfx (va_up_self _ _ _) (by omega)) mw_X6_init wm_X7_37 rfl rfl rfl rfl (by decide) (by decide) rfl rfl ?_
  refine q_putFC hE (CZ.add 9 hz) (dlX7_init_0.at 31 rfl) kc7 wf_X7_40 ((fr_X6_init_5 (by omega) (by omega)).trans ((va_up_ne _ _ (by omega)).trans (va_up_self _ _ _))) rfl (hI rfl) rfl rfl rfl rfl (Nat.ble_eq.mpr (by omega)) rfl (fs' := [.int 0, rf V N, rf V (N + 1), rf V (N + 2), rf V (N + 3), rf V (N + 4), rf V (N + 7), .null, .null, .null, .null]) rfl ?_
  refine q_aload_n hE 0 (dlX7_init_0.at 32 rfl) rfl rfl ?_
  refine q_new hE (CZ.add 9 hz) [.int 0, .null, .int 0] (dlX7_init_0.at 33 rfl) kc6 wc_X7_35 w_new6 df6 (by decide) (by decide) ?_
  refine q_dup hE (dlX7_init_0.at 34 rfl) rfl ?_
  refine q_bipush hE (dlX7_init_0.at 35 rfl) bc_10 ?_
  refine q_callIN (As := [_]) hE (dlX7_init_0.at 36 rfl) (mk_X6_init_10 hfx (va_up_self _ _ _) (by omega)) mw_X6_init wm_X7_37 rfl rfl rfl rfl (by decide) (by decide) rfl rfl ?_
  refine q_putFC hE (CZ.add 11 hz) (dlX7_init_0.at 37 rfl) kc7 wf_X7_44 ((fr_X6_init_10 (by omega) (by omega)).trans ((va_up_ne _ _ (by omega)).trans (va_up_self _ _ _))) rfl (hI rfl) rfl rfl rfl rfl (Nat.ble_eq.mpr (by omega)) rfl (fs' := [.int 0, rf V N, rf V (N + 1), rf V (N + 2), rf V (N + 3), rf V (N + 4), rf V (N + 7), rf V (N + 9), .null, .null, .null]) rfl ?_
  refine q_aload_n hE 0 (dlX7_init_0.at 38 rfl) rfl rfl ?_
  refine q_new hE (CZ.add 11 hz) [.int 0, .null, .int 0] (dlX7_init_0.at 39 rfl) kc6 wc_X7_35 w_new6 df6 (by decide) (by decide) ?_
  refine q_dup hE (dlX7_init_1.at 0 rfl) rfl ?_
  refine q_bipush hE (dlX7_init_1.at 1 rfl) bc_8 ?_
  refine q_callIN (As := [_]) hE (dlX7_init_1.at 2 rfl) (mk_X6_init_8 hfx (va_up_self _ _ _) (by omega)) mw_X6_init wm_X7_37 rfl rfl rfl rfl (by decide) (by decide) rfl rfl ?_
  refine q_putFC hE (CZ.add 13 hz) (dlX7_init_1.at 3 rfl) kc7 wf_X7_47 ((fr_X6_init_8 (by omega) (by omega)).trans ((va_up_ne _ _ (by omega)).trans (va_up_self _ _ _))) rfl (hI rfl) rfl rfl rfl rfl (Nat.ble_eq.mpr (by omega)) rfl (fs' := [.int 0, rf V N, rf V (N + 1), rf V (N + 2), rf V (N + 3), rf V (N + 4), rf V (N + 7), rf V (N + 9), rf V (N + 11), .null, .null]) rfl ?_
  refine q_aload_n hE 0 (dlX7_init_1.at 4 rfl) rfl rfl ?_
  refine q_bipush hE (dlX7_init_1.at 5 rfl) bc_6 ?_
  refine q_newa (n' := 6) hE (CZ.add 13 hz) 1 (6, .inl (fun _ => 0)) (dlX7_init_1.at 6 rfl) w_ar_int rfl rfl (fun _ => rfl) (by decide) (by decide) rfl (by decide) (by decide) ?_
  refine q_putFC hE (CZ.add 14 hz) (dlX7_init_1.at 7 rfl) kc7 wf_X7_50 ((va_up_ne _ _ (by omega)).trans (va_up_self _ _ _)) rfl (hI rfl) rfl rfl rfl rfl (Nat.ble_eq.mpr (by omega)) rfl (fs' := [.int 0, rf V N, rf V (N + 1), rf V (N + 2), rf V (N + 3), rf V (N + 4), rf V (N + 7), rf V (N + 9), rf V (N + 11), rf V (N + 13), .null]) rfl ?_
  refine q_aload_n hE 0 (dlX7_init_1.at 8 rfl) rfl rfl ?_
  refine q_null hE (dlX7_init_1.at 9 rfl) ?_
  refine q_putC hE (CZ.add 14 hz) (dlX7_init_1.at 10 rfl) kc7 wf_X7_53 (va_up_self _ _ _) rfl rfl rfl rfl (Nat.ble_eq.mpr (by omega)) rfl (fs' := [.int 0, rf V N, rf V (N + 1), rf V (N + 2), rf V (N + 3), rf V (N + 4), rf V (N + 7), rf V (N + 9), rf V (N + 11), rf V (N + 13), .null]) rfl ?_
  exact q_vret0 hE (dlX7_init_1.at 11 rfl) hQ (by decide) (by decide) rfl rfl
theorem so_X7_init {V : Ev} {G : Nat → va_E} {k N : Nat} (hkN : k < N) : GI_X7_init V G k N k = .inr (7, [.int 0, rf V N, rf V (N + 1), rf V (N + 2), rf V (N + 3), rf V (N + 4), rf V (N + 7), rf V (N + 9), rf V (N + 11), rf V (N + 13), .null]) := by
  unfold GI_X7_init
  repeat first | exact va_up_self _ _ _ | rw [va_up_ne _ _ (by omega)] | rw [fr_X3_init (by omega) (by omega)] | rw [fr_X6_init_10 (by omega) (by omega)] | rw [fr_X6_init_5 (by omega) (by omega)] | rw [fr_X6_init_8 (by omega) (by omega)]
def GI_X5_init (V : Ev) (G : Nat → va_E) (k N : Nat) : Nat → va_E := (va_up (va_up (va_up (va_up (va_up (va_up (va_up G N (.inl (V.2.1 0, 100, .inl (fun _ => 0)))) k (.inr (5, [rf V N, .int 0, .int 0, .int 0, .int 0, .null]))) k (.inr (5, [rf V N, .int 0, .int 0, .int 0, .int 0, .null]))) k (.inr (5, [rf V N, .int 0, .int 0, .int 0, .int 0, .null]))) k (.inr (5, [rf V N, .int 0, .int 0, .int (-1), .int 0, .null]))) k (.inr (5, [rf V N, .int 0, .int 0, .int (-1), .int 0, .null]))) k (.inr (5, [rf V N, .int 0, .int 0, .int (-1), .int 0, .null])))
theorem fr_X5_init {V : Ev} {G : Nat → va_E} {k N j : Nat} (h1 : j ≠ k) (h2 : j < N) : GI_X5_init V G k N j = G j := by
  unfold GI_X5_init
  repeat first | rw [va_up_ne _ _ (by omega)] | rw [va_up_ne _ _ h1]
set_option maxRecDepth 20000 in
theorem mk_X5_init {V : Ev} {l : Launch} {G : Nat → va_E} {k N : Nat} (hfx : V.2.2.2.2 = true) (hG : G k = .inr (5, [.null, .int 0, .int 0, .int 0, .int 0, .null])) (hkN : k < N) : Ctr l V yX5_init cX5_init 1 none 1 [rf V k] N G (N + 1) (GI_X5_init V G k N) none 1 100 := by
  refine Ctr.introZ RX5 (by decide +kernel) rfl rfl rfl hfx ?_
  intro E hE hQ hI hz
  refine q_aload_n hE 0 (dlX5_init_0.at 0 rfl) rfl rfl ?_
  refine q_objInit hE (dlX5_init_0.at 1 rfl) wm_X5_1 w_obj rfl rfl ?_
  refine q_aload_n hE 0 (dlX5_init_0.at 2 rfl) rfl rfl ?_
  refine q_bipush hE (dlX5_init_0.at 3 rfl) bc_100 ?_
  refine q_newa (n' := 100) hE hz 0 (100, .inl (fun _ => 0)) (dlX5_init_0.at 4 rfl) w_ar_byte rfl rfl (fun _ => rfl) (by decide) (by decide) rfl (by decide) (by decide) ?_
  refine q_putFC hE (CZ.add 1 hz) (dlX5_init_0.at 5 rfl) kc5 wf_X5_9 ((va_up_ne _ _ (by omega)).trans hG) rfl (hI rfl) rfl rfl rfl rfl (Nat.ble_eq.mpr (by omega)) rfl (fs' := [rf V N, .int 0, .int 0, .int 0, .int 0, .null]) rfl ?_
  refine q_aload_n hE 0 (dlX5_init_0.at 6 rfl) rfl rfl ?_
  refine q_iconst hE (dlX5_init_0.at 7 rfl) ic_0 ?_
  refine q_putC hE (CZ.add 1 hz) (dlX5_init_0.at 8 rfl) kc5 wf_X5_13 (va_up_self _ _ _) rfl rfl rfl rfl (Nat.ble_eq.mpr (by omega)) rfl (fs' := [rf V N, .int 0, .int 0, .int 0, .int 0, .null]) rfl ?_
  refine q_aload_n hE 0 (dlX5_init_0.at 9 rfl) rfl rfl ?_
  refine q_iconst hE (dlX5_init_0.at 10 rfl) ic_0 ?_
  refine q_putC hE (CZ.add 1 hz) (dlX5_init_0.at 11 rfl) kc5 wf_X5_17 (va_up_self _ _ _) rfl rfl rfl rfl (Nat.ble_eq.mpr (by omega)) rfl (fs' := [rf V N, .int 0, .int 0, .int 0, .int 0, .null]) rfl ?_
  refine q_aload_n hE 0 (dlX5_init_0.at 12 rfl) rfl rfl ?_
  refine q_iconst hE (dlX5_init_0.at 13 rfl) ic_m1 ?_
  refine q_putC hE (CZ.add 1 hz) (dlX5_init_0.at 14 rfl) kc5 wf_X5_20 (va_up_self _ _ _) rfl rfl rfl rfl (Nat.ble_eq.mpr (by omega)) rfl (fs' := [rf V N, .int 0, .int 0, .int (-1), .int 0, .null]) rfl ?_
  refine q_aload_n hE 0 (dlX5_init_0.at 15 rfl) rfl rfl ?_
  refine q_iconst hE (dlX5_init_0.at 16 rfl) ic_0 ?_
  refine q_putC hE (CZ.add 1 hz) (dlX5_init_0.at 17 rfl) kc5 wf_X5_23 (va_up_self _ _ _) rfl (by decide) (by decide) rfl (Nat.ble_eq.mpr (by omega)) rfl (fs' := [rf V N, .int 0, .int 0, .int (-1), .int 0, .null]) rfl ?_
  refine q_aload_n hE 0 (dlX5_init_0.at 18 rfl) rfl rfl ?_
  refine q_null hE (dlX5_init_0.at 19 rfl) ?_
  refine q_putC hE (CZ.add 1 hz) (dlX5_init_0.at 20 rfl) kc5 wf_X5_27 (va_up_self _ _ _) rfl rfl rfl rfl (Nat.ble_eq.mpr (by omega)) rfl (fs' := [rf V N, .int 0, .int 0, .int (-1), .int 0, .null]) rfl ?_
  exact q_vret0 hE (dlX5_init_0.at 21 rfl) hQ (by decide) (by decide) rfl rfl
theorem so_X5_init {V : Ev} {G : Nat → va_E} {k N : Nat} (hkN : k < N) : GI_X5_init V G k N k = .inr (5, [rf V N, .int 0, .int 0, .int (-1), .int 0, .null]) := by
  unfold GI_X5_init
  repeat first | exact va_up_self _ _ _ | rw [va_up_ne _ _ (by omega)]
def GI_X1_init (V : Ev) (sh : Nat) (G : Nat → va_E) (k N : Nat) : Nat → va_E := (va_up (va_up (va_up (va_up (GI_X3_init V (va_up G N (.inr (3, [.int 0, .null, .null]))) N (N + 1)) k (.inr (1, [.null, rf V N, .int 0, .int 0]))) k (.inr (1, [.null, rf V N, .int 0, .int 0]))) k (.inr (1, [.null, rf V N, .int 0, .int (-5)]))) k (.inr (1, [rf V sh, rf V N, .int 0, .int (-5)])))
theorem fr_X1_init {V : Ev} {sh : Nat} {G : Nat → va_E} {k N j : Nat} (h1 : j ≠ k) (h2 : j < N) : GI_X1_init V sh G k N j = G j := by
  unfold GI_X1_init
  repeat first | rw [va_up_ne _ _ (by omega)] | rw [va_up_ne _ _ h1] | rw [fr_X3_init (by omega) (by omega)]
set_option maxRecDepth 20000 in
theorem mk_X1_init {V : Ev} {l : Launch} {sh : Nat} {G : Nat → va_E} {k N : Nat} (hfx : V.2.2.2.2 = true) (hG : G k = .inr (1, [.null, .null, .int 0, .int 0])) (hkN : k < N) : Ctr l V yX1_init cX1_init 2 none 2 [rf V k, rf V sh] N G (N + 3) (GI_X1_init V sh G k N) none 3 15 := by
  refine Ctr.introZ RX1 (by decide +kernel) rfl rfl rfl hfx ?_
  intro E hE hQ hI hz
  refine q_aload_n hE 0 (dlX1_init_0.at 0 rfl) rfl rfl ?_
  refine q_objInit hE (dlX1_init_0.at 1 rfl) wm_X1_3 w_obj rfl rfl ?_
  refine q_aload_n hE 0 (dlX1_init_0.at 2 rfl) rfl rfl ?_
  refine q_new hE hz [.int 0, .null, .null] (dlX1_init_0.at 3 rfl) kc3 wc_X1_9 w_new3 df3 (by decide) (by decide) ?_
  refine q_dup hE (dlX1_init_0.at 4 rfl) rfl ?_
  refine q_callIN (As := []) hE (dlX1_init_0.at 5 rfl) (mk_X3_init hfx (va_up_self _ _ _) (by omega)) mw_X3_init wm_X1_11 rfl rfl rfl rfl (by decide) (by decide) rfl rfl ?_
  refine q_putFC hE (CZ.add 3 hz) (dlX1_init_0.at 6 rfl) kc1 wf_X1_12 ((fr_X3_init (by omega) (by omega)).trans ((va_up_ne _ _ (by omega)).trans hG)) rfl (hI rfl) rfl rfl rfl rfl (Nat.ble_eq.mpr (by omega)) rfl (fs' := [.null, rf V N, .int 0, .int 0]) rfl ?_
  refine q_aload_n hE 0 (dlX1_init_0.at 7 rfl) rfl rfl ?_
  refine q_iconst hE (dlX1_init_0.at 8 rfl) ic_0 ?_
  refine q_putC hE (CZ.add 3 hz) (dlX1_init_0.at 9 rfl) kc1 wf_X1_18 (va_up_self _ _ _) rfl rfl rfl rfl (Nat.ble_eq.mpr (by omega)) rfl (fs' := [.null, rf V N, .int 0, .int 0]) rfl ?_
  refine q_aload_n hE 0 (dlX1_init_0.at 10 rfl) rfl rfl ?_
  refine q_bipush hE (dlX1_init_0.at 11 rfl) bc_m5 ?_
  refine q_putC hE (CZ.add 3 hz) (dlX1_init_0.at 12 rfl) kc1 wf_X1_22 (va_up_self _ _ _) rfl rfl rfl rfl (Nat.ble_eq.mpr (by omega)) rfl (fs' := [.null, rf V N, .int 0, .int (-5)]) rfl ?_
  refine q_aload_n hE 0 (dlX1_init_0.at 13 rfl) rfl rfl ?_
  refine q_aload_n hE 1 (dlX1_init_0.at 14 rfl) rfl rfl ?_
  refine q_putFC hE (CZ.add 3 hz) (dlX1_init_0.at 15 rfl) kc1 wf_X1_25 (va_up_self _ _ _) rfl (hI rfl) rfl rfl rfl rfl (Nat.ble_eq.mpr (by omega)) rfl (fs' := [rf V sh, rf V N, .int 0, .int (-5)]) rfl ?_
  exact q_vret0 hE (dlX1_init_0.at 16 rfl) hQ (by decide) (by decide) rfl rfl
theorem so_X1_init {V : Ev} {sh : Nat} {G : Nat → va_E} {k N : Nat} (hkN : k < N) : GI_X1_init V sh G k N k = .inr (1, [rf V sh, rf V N, .int 0, .int (-5)]) := by
  unfold GI_X1_init
  repeat first | exact va_up_self _ _ _ | rw [va_up_ne _ _ (by omega)] | rw [fr_X3_init (by omega) (by omega)]
def GI_X4_init (V : Ev) (sh : Nat) (G : Nat → va_E) (k N : Nat) : Nat → va_E := (va_up (GI_X3_init V (va_up (va_up (GI_X3_init V (va_up (va_up (GI_X3_init V (va_up (va_up (GI_X3_init V (va_up (va_up (GI_X3_init V (va_up (va_up (GI_X3_init V (va_up (va_up (GI_X3_init V (va_up (va_up (va_up (va_up (va_up (va_up (va_up (va_up (va_up G N (.inl (V.2.1 5, 7, .inr (.inr (.inr (.inr (fun _ => none))))))) k (.inr (4, [.null, rf V N, .null, .null, .int 0]))) (N + 1) (.inl (V.2.1 1, 6, .inl (fun _ => 0)))) k (.inr (4, [.null, rf V N, rf V (N + 1), .null, .int 0]))) (N + 2) (.inl (V.2.1 1, 6, .inl (fun _ => 0)))) k (.inr (4, [.null, rf V N, rf V (N + 1), rf V (N + 2), .int 0]))) k (.inr (4, [.null, rf V N, rf V (N + 1), rf V (N + 2), .int (-5)]))) k (.inr (4, [rf V sh, rf V N, rf V (N + 1), rf V (N + 2), .int (-5)]))) (N + 3) (.inr (3, [.int 0, .null, .null]))) (N + 3) (N + 4)) N (.inl (V.2.1 5, 7, .inr (.inr (.inr (.inr (va_up (fun _ => none) (ix 0) (some (V.2.2.1 + (N + 3)))))))))) (N + 6) (.inr (3, [.int 0, .null, .null]))) (N + 6) (N + 7)) N (.inl (V.2.1 5, 7, .inr (.inr (.inr (.inr (va_up (va_up (fun _ => none) (ix 0) (some (V.2.2.1 + (N + 3)))) (ix 1) (some (V.2.2.1 + (N + 6)))))))))) (N + 9) (.inr (3, [.int 0, .null, .null]))) (N + 9) (N + 10)) N (.inl (V.2.1 5, 7, .inr (.inr (.inr (.inr (va_up (va_up (va_up (fun _ => none) (ix 0) (some (V.2.2.1 + (N + 3)))) (ix 1) (some (V.2.2.1 + (N + 6)))) (ix 2) (some (V.2.2.1 + (N + 9)))))))))) (N + 12) (.inr (3, [.int 0, .null, .null]))) (N + 12) (N + 13)) N (.inl (V.2.1 5, 7, .inr (.inr (.inr (.inr (va_up (va_up (va_up (va_up (fun _ => none) (ix 0) (some (V.2.2.1 + (N + 3)))) (ix 1) (some (V.2.2.1 + (N + 6)))) (ix 2) (some (V.2.2.1 + (N + 9)))) (ix 3) (some (V.2.2.1 + (N + 12)))))))))) (N + 15) (.inr (3, [.int 0, .null, .null]))) (N + 15) (N + 16)) N (.inl (V.2.1 5, 7, .inr (.inr (.inr (.inr (va_up (va_up (va_up (va_up (va_up (fun _ => none) (ix 0) (some (V.2.2.1 + (N + 3)))) (ix 1) (some (V.2.2.1 + (N + 6)))) (ix 2) (some (V.2.2.1 + (N + 9)))) (ix 3) (some (V.2.2.1 + (N + 12)))) (ix 4) (some (V.2.2.1 + (N + 15)))))))))) (N + 18) (.inr (3, [.int 0, .null, .null]))) (N + 18) (N + 19)) N (.inl (V.2.1 5, 7, .inr (.inr (.inr (.inr (va_up (va_up (va_up (va_up (va_up (va_up (fun _ => none) (ix 0) (some (V.2.2.1 + (N + 3)))) (ix 1) (some (V.2.2.1 + (N + 6)))) (ix 2) (some (V.2.2.1 + (N + 9)))) (ix 3) (some (V.2.2.1 + (N + 12)))) (ix 4) (some (V.2.2.1 + (N + 15)))) (ix 5) (some (V.2.2.1 + (N + 18)))))))))) (N + 21) (.inr (3, [.int 0, .null, .null]))) (N + 21) (N + 22)) N (.inl (V.2.1 5, 7, .inr (.inr (.inr (.inr (va_up (va_up (va_up (va_up (va_up (va_up (va_up (fun _ => none) (ix 0) (some (V.2.2.1 + (N + 3)))) (ix 1) (some (V.2.2.1 + (N + 6)))) (ix 2) (some (V.2.2.1 + (N + 9)))) (ix 3) (some (V.2.2.1 + (N + 12)))) (ix 4) (some (V.2.2.1 + (N + 15)))) (ix 5) (some (V.2.2.1 + (N + 18)))) (ix 6) (some (V.2.2.1 + (N + 21))))))))))
theorem fr_X4_init {V : Ev} {sh : Nat} {G : Nat → va_E} {k N j : Nat} (h1 : j ≠ k) (h2 : j < N) : GI_X4_init V sh G k N j = G j := by
  unfold GI_X4_init
  repeat first | rw [va_up_ne _ _ (by omega)] | rw [va_up_ne _ _ h1] | rw [fr_X3_init (by omega) (by omega)]
set_option maxRecDepth 20000 in
theorem mk_X4_init {V : Ev} {l : Launch} {sh : Nat} {G : Nat → va_E} {k N : Nat} (hfx : V.2.2.2.2 = true) (hG : G k = .inr (4, [.null, .null, .null, .null, .int 0])) (hkN : k < N) : Ctr l V yX4_init cX4_init 3 none 2 [rf V k, rf V sh] N G (N + 24) (GI_X4_init V sh G k N) none 24 124 := by
  refine Ctr.introZ RX4 (by decide +kernel) rfl rfl rfl hfx ?_
  intro E hE hQ hI hz
  refine q_aload_n hE 0 (dlX4_init_0.at 0 rfl) rfl rfl ?_
  refine q_objInit hE (dlX4_init_0.at 1 rfl) wm_X4_3 w_obj rfl rfl ?_
  refine q_aload_n hE 0 (dlX4_init_0.at 2 rfl) rfl rfl ?_
  refine q_bipush hE (dlX4_init_0.at 3 rfl) bc_7 ?_
  refine q_anew (n' := 7) hE hz 5 (dlX4_init_0.at 4 rfl) wc_X4_9 (fun _ _ h => h.2.2.2.2.1) rfl (by decide) (by decide) rfl (by decide) (by decide) ?_
  refine q_putFC hE (CZ.add 1 hz) (dlX4_init_0.at 5 rfl) kc4 wf_X4_11 ((va_up_ne _ _ (by omega)).trans hG) rfl (hI rfl) rfl rfl rfl rfl (Nat.ble_eq.mpr (by omega)) rfl (fs' := [.null, rf V N, .null, .null, .int 0]) rfl ?_
  refine q_aload_n hE 0 (dlX4_init_0.at 6 rfl) rfl rfl ?_
  refine q_bipush hE (dlX4_init_0.at 7 rfl) bc_6 ?_
  refine q_newa (n' := 6) hE (CZ.add 1 hz) 1 (6, .inl (fun _ => 0)) (dlX4_init_0.at 8 rfl) w_ar_int rfl rfl (fun _ => rfl) (by decide) (by decide) rfl (by decide) (by decide) ?_
  refine q_putFC hE (CZ.add 2 hz) (dlX4_init_0.at 9 rfl) kc4 wf_X4_17 ((va_up_ne _ _ (by omega)).trans (va_up_self _ _ _)) rfl (hI rfl) rfl rfl rfl rfl (Nat.ble_eq.mpr (by omega)) rfl (fs' := [.null, rf V N, rf V (N + 1), .null, .int 0]) rfl ?_
  refine q_aload_n hE 0 (dlX4_init_0.at 10 rfl) rfl rfl ?_
  refine q_bipush hE (dlX4_init_0.at 11 rfl) bc_6 ?_
  refine q_newa (n' := 6) hE (CZ.add 2 hz) 1 (6, .inl (fun _ => 0)) (dlX4_init_0.at 12 rfl) w_ar_int rfl rfl (fun _ => rfl) (by decide) (by decide) rfl (by decide) (by decide) ?_
  refine q_putFC hE (CZ.add 3 hz) (dlX4_init_0.at 13 rfl) kc4 wf_X4_21 ((va_up_ne _ _ (by omega)).trans (va_up_self _ _ _)) rfl (hI rfl) rfl rfl rfl rfl (Nat.ble_eq.mpr (by omega)) rfl (fs' := [.null, rf V N, rf V (N + 1), rf V (N + 2), .int 0]) rfl ?_
  refine q_aload_n hE 0 (dlX4_init_0.at 14 rfl) rfl rfl ?_
  refine q_bipush hE (dlX4_init_0.at 15 rfl) bc_m5 ?_
  refine q_putC hE (CZ.add 3 hz) (dlX4_init_0.at 16 rfl) kc4 wf_X4_24 (va_up_self _ _ _) rfl rfl rfl rfl (Nat.ble_eq.mpr (by omega)) rfl (fs' := [.null, rf V N, rf V (N + 1), rf V (N + 2), .int (-5)]) rfl ?_
  refine q_aload_n hE 0 (dlX4_init_0.at 17 rfl) rfl rfl ?_
  refine q_aload_n hE 1 (dlX4_init_0.at 18 rfl) rfl rfl ?_
  refine q_putFC hE (CZ.add 3 hz) (dlX4_init_0.at 19 rfl) kc4 wf_X4_28 (va_up_self _ _ _) rfl (hI rfl) rfl rfl rfl rfl (Nat.ble_eq.mpr (by omega)) rfl (fs' := [rf V sh, rf V N, rf V (N + 1), rf V (N + 2), .int (-5)]) rfl ?_
  refine q_iconst hE (dlX4_init_0.at 20 rfl) ic_0 ?_
  refine q_istore_n hE [(0, _), (1, _), (2, _)] (dlX4_init_0.at 21 rfl) rfl rfl rfl ?_
  refine q_iload_n hE 2 (dlX4_init_0.at 22 rfl) rfl rfl ?_
  refine q_aload_n hE 0 (dlX4_init_0.at 23 rfl) rfl rfl ?_
  refine q_get hE (dlX4_init_0.at 24 rfl) kc4 wf_X4_11 (va_up_self _ _ _) rfl (Nat.ble_eq.mpr (by omega)) rfl ?_
  refine q_alen (v := 7) hE 5 (dlX4_init_0.at 25 rfl) ((va_up_ne _ _ (by omega)).trans ((va_up_ne _ _ (by omega)).trans ((va_up_ne _ _ (by omega)).trans ((va_up_ne _ _ (by omega)).trans ((va_up_ne _ _ (by omega)).trans ((va_up_ne _ _ (by omega)).trans ((va_up_ne _ _ (by omega)).trans (va_up_self _ _ _)))))))) rfl (show Int32.ofNat 7 = 7 by decide) (Nat.ble_eq.mpr (by omega)) ?_
  refine q_icmp_ge_F hE (tgt := 70) (dlX4_init_0.at 26 rfl) (by decide) (by decide) ?_
  refine q_aload_n hE 0 (dlX4_init_0.at 27 rfl) rfl rfl ?_
  refine q_get hE (dlX4_init_0.at 28 rfl) kc4 wf_X4_11 (va_up_self _ _ _) rfl (Nat.ble_eq.mpr (by omega)) rfl ?_
  refine q_iload_n hE 2 (dlX4_init_0.at 29 rfl) rfl rfl ?_
  refine q_new hE (CZ.add 3 hz) [.int 0, .null, .null] (dlX4_init_0.at 30 rfl) kc3 wc_X4_9 w_new3 df3 (by decide) (by decide) ?_
  refine q_dup hE (dlX4_init_0.at 31 rfl) rfl ?_
  refine q_callIN (As := []) hE (dlX4_init_0.at 32 rfl) (mk_X3_init hfx (va_up_self _ _ _) (by omega)) mw_X3_init wm_X4_32 rfl rfl rfl rfl (by decide) (by decide) rfl rfl ?_
  refine q_aastC hE (CZ.add 6 hz) 5 (dlX4_init_0.at 33 rfl) kc3 ((fr_X3_init (by omega) (by omega)).trans ((va_up_ne _ _ (by omega)).trans ((va_up_ne _ _ (by omega)).trans ((va_up_ne _ _ (by omega)).trans ((va_up_ne _ _ (by omega)).trans ((va_up_ne _ _ (by omega)).trans ((va_up_ne _ _ (by omega)).trans ((va_up_ne _ _ (by omega)).trans ((va_up_ne _ _ (by omega)).trans (va_up_self _ _ _)))))))))) (so_X3_init (by omega)) rfl (Nat.ble_eq.mpr (by omega)) (Nat.ble_eq.mpr (by omega)) (by decide) ?_
  refine q_iincC (x' := 1) hE [(0, _), (1, _), (2, _)] 2 (dlX4_init_0.at 34 rfl) rfl (by decide) rfl rfl ?_
  refine q_goto hE (tgt := 42) (dlX4_init_0.at 35 rfl) (by decide) ?_
  refine q_iload_n hE 2 (dlX4_init_0.at 22 rfl) rfl rfl ?_
  refine q_aload_n hE 0 (dlX4_init_0.at 23 rfl) rfl rfl ?_
  refine q_get hE (dlX4_init_0.at 24 rfl) kc4 wf_X4_11 ((va_up_ne _ _ (by omega)).trans ((fr_X3_init (by omega) (by omega)).trans ((va_up_ne _ _ (by omega)).trans (va_up_self _ _ _)))) rfl (Nat.ble_eq.mpr (by omega)) rfl ?_
  refine q_alen (v := 7) hE 5 (dlX4_init_0.at 25 rfl) (va_up_self _ _ _) rfl (show Int32.ofNat 7 = 7 by decide) (Nat.ble_eq.mpr (by omega)) ?_
  refine q_icmp_ge_F hE (tgt := 70) (dlX4_init_0.at 26 rfl) (by decide) (by decide) ?_
  refine q_aload_n hE 0 (dlX4_init_0.at 27 rfl) rfl rfl ?_
  refine q_get hE (dlX4_init_0.at 28 rfl) kc4 wf_X4_11 ((va_up_ne _ _ (by omega)).trans ((fr_X3_init (by omega) (by omega)).trans ((va_up_ne _ _ (by omega)).trans (va_up_self _ _ _)))) rfl (Nat.ble_eq.mpr (by omega)) rfl ?_
  refine q_iload_n hE 2 (dlX4_init_0.at 29 rfl) rfl rfl ?_
  refine q_new hE (CZ.add 6 hz) [.int 0, .null, .null] (dlX4_init_0.at 30 rfl) kc3 wc_X4_9 w_new3 df3 (by decide) (by decide) ?_
  refine q_dup hE (dlX4_init_0.at 31 rfl) rfl ?_
  refine q_callIN (As := []) hE (dlX4_init_0.at 32 rfl) (mk_X3_init hfx (va_up_self _ _ _) (by omega)) mw_X3_init wm_X4_32 rfl rfl rfl rfl (by decide) (by decide) rfl rfl ?_
  refine q_aastC hE (CZ.add 9 hz) 5 (dlX4_init_0.at 33 rfl) kc3 ((fr_X3_init (by omega) (by omega)).trans ((va_up_ne _ _ (by omega)).trans (va_up_self _ _ _))) (so_X3_init (by omega)) rfl (Nat.ble_eq.mpr (by omega)) (Nat.ble_eq.mpr (by omega)) (by decide) ?_
  refine q_iincC (x' := 2) hE [(0, _), (1, _), (2, _)] 2 (dlX4_init_0.at 34 rfl) rfl (by decide) rfl rfl ?_
  refine q_goto hE (tgt := 42) (dlX4_init_0.at 35 rfl) (by decide) ?_
  refine q_iload_n hE 2 (dlX4_init_0.at 22 rfl) rfl rfl ?_
  refine q_aload_n hE 0 (dlX4_init_0.at 23 rfl) rfl rfl ?_
  refine q_get hE (dlX4_init_0.at 24 rfl) kc4 wf_X4_11 ((va_up_ne _ _ (by omega)).trans ((fr_X3_init (by omega) (by omega)).trans ((va_up_ne _ _ (by omega)).trans ((va_up_ne _ _ (by omega)).trans ((fr_X3_init (by omega) (by omega)).trans ((va_up_ne _ _ (by omega)).trans (va_up_self _ _ _))))))) rfl (Nat.ble_eq.mpr (by omega)) rfl ?_
  refine q_alen (v := 7) hE 5 (dlX4_init_0.at 25 rfl) (va_up_self _ _ _) rfl (show Int32.ofNat 7 = 7 by decide) (Nat.ble_eq.mpr (by omega)) ?_
  refine q_icmp_ge_F hE (tgt := 70) (dlX4_init_0.at 26 rfl) (by decide) (by decide) ?_
  refine q_aload_n hE 0 (dlX4_init_0.at 27 rfl) rfl rfl ?_
  refine q_get hE (dlX4_init_0.at 28 rfl) kc4 wf_X4_11 ((va_up_ne _ _ (by omega)).trans ((fr_X3_init (by omega) (by omega)).trans ((va_up_ne _ _ (by omega)).trans ((va_up_ne _ _ (by omega)).trans ((fr_X3_init (by omega) (by omega)).trans ((va_up_ne _ _ (by omega)).trans (va_up_self _ _ _))))))) rfl (Nat.ble_eq.mpr (by omega)) rfl ?_
  refine q_iload_n hE 2 (dlX4_init_0.at 29 rfl) rfl rfl ?_
  refine q_new hE (CZ.add 9 hz) [.int 0, .null, .null] (dlX4_init_0.at 30 rfl) kc3 wc_X4_9 w_new3 df3 (by decide) (by decide) ?_
  refine q_dup hE (dlX4_init_0.at 31 rfl) rfl ?_
  refine q_callIN (As := []) hE (dlX4_init_0.at 32 rfl) (mk_X3_init hfx (va_up_self _ _ _) (by omega)) mw_X3_init wm_X4_32 rfl rfl rfl rfl (by decide) (by decide) rfl rfl ?_
  refine q_aastC hE (CZ.add 12 hz) 5 (dlX4_init_0.at 33 rfl) kc3 ((fr_X3_init (by omega) (by omega)).trans ((va_up_ne _ _ (by omega)).trans (va_up_self _ _ _))) (so_X3_init (by omega)) rfl (Nat.ble_eq.mpr (by omega)) (Nat.ble_eq.mpr (by omega)) (by decide) ?_
  refine q_iincC (x' := 3) hE [(0, _), (1, _), (2, _)] 2 (dlX4_init_0.at 34 rfl) rfl (by decide) rfl rfl ?_
  refine q_goto hE (tgt := 42) (dlX4_init_0.at 35 rfl) (by decide) ?_
  refine q_iload_n hE 2 (dlX4_init_0.at 22 rfl) rfl rfl ?_
  refine q_aload_n hE 0 (dlX4_init_0.at 23 rfl) rfl rfl ?_
  refine q_get hE (dlX4_init_0.at 24 rfl) kc4 wf_X4_11 ((va_up_ne _ _ (by omega)).trans ((fr_X3_init (by omega) (by omega)).trans ((va_up_ne _ _ (by omega)).trans ((va_up_ne _ _ (by omega)).trans ((fr_X3_init (by omega) (by omega)).trans ((va_up_ne _ _ (by omega)).trans ((va_up_ne _ _ (by omega)).trans ((fr_X3_init (by omega) (by omega)).trans ((va_up_ne _ _ (by omega)).trans (va_up_self _ _ _)))))))))) rfl (Nat.ble_eq.mpr (by omega)) rfl ?_
  refine q_alen (v := 7) hE 5 (dlX4_init_0.at 25 rfl) (va_up_self _ _ _) rfl (show Int32.ofNat 7 = 7 by decide) (Nat.ble_eq.mpr (by omega)) ?_
  refine q_icmp_ge_F hE (tgt := 70) (dlX4_init_0.at 26 rfl) (by decide) (by decide) ?_
  refine q_aload_n hE 0 (dlX4_init_0.at 27 rfl) rfl rfl ?_
  refine q_get hE (dlX4_init_0.at 28 rfl) kc4 wf_X4_11 ((va_up_ne _ _ (by omega)).trans ((fr_X3_init (by omega) (by omega)).trans ((va_up_ne _ _ (by omega)).trans ((va_up_ne _ _ (by omega)).trans ((fr_X3_init (by omega) (by omega)).trans ((va_up_ne _ _ (by omega)).trans ((va_up_ne _ _ (by omega)).trans ((fr_X3_init (by omega) (by omega)).trans ((va_up_ne _ _ (by omega)).trans (va_up_self _ _ _)))))))))) rfl (Nat.ble_eq.mpr (by omega)) rfl ?_
  refine q_iload_n hE 2 (dlX4_init_0.at 29 rfl) rfl rfl ?_
  refine q_new hE (CZ.add 12 hz) [.int 0, .null, .null] (dlX4_init_0.at 30 rfl) kc3 wc_X4_9 w_new3 df3 (by decide) (by decide) ?_
  refine q_dup hE (dlX4_init_0.at 31 rfl) rfl ?_
  refine q_callIN (As := []) hE (dlX4_init_0.at 32 rfl) (mk_X3_init hfx (va_up_self _ _ _) (by omega)) mw_X3_init wm_X4_32 rfl rfl rfl rfl (by decide) (by decide) rfl rfl ?_
  refine q_aastC hE (CZ.add 15 hz) 5 (dlX4_init_0.at 33 rfl) kc3 ((fr_X3_init (by omega) (by omega)).trans ((va_up_ne _ _ (by omega)).trans (va_up_self _ _ _))) (so_X3_init (by omega)) rfl (Nat.ble_eq.mpr (by omega)) (Nat.ble_eq.mpr (by omega)) (by decide) ?_
  refine q_iincC (x' := 4) hE [(0, _), (1, _), (2, _)] 2 (dlX4_init_0.at 34 rfl) rfl (by decide) rfl rfl ?_
  refine q_goto hE (tgt := 42) (dlX4_init_0.at 35 rfl) (by decide) ?_
  refine q_iload_n hE 2 (dlX4_init_0.at 22 rfl) rfl rfl ?_
  refine q_aload_n hE 0 (dlX4_init_0.at 23 rfl) rfl rfl ?_
  refine q_get hE (dlX4_init_0.at 24 rfl) kc4 wf_X4_11 ((va_up_ne _ _ (by omega)).trans ((fr_X3_init (by omega) (by omega)).trans ((va_up_ne _ _ (by omega)).trans ((va_up_ne _ _ (by omega)).trans ((fr_X3_init (by omega) (by omega)).trans ((va_up_ne _ _ (by omega)).trans ((va_up_ne _ _ (by omega)).trans ((fr_X3_init (by omega) (by omega)).trans ((va_up_ne _ _ (by omega)).trans ((va_up_ne _ _ (by omega)).trans ((fr_X3_init (by omega) (by omega)).trans ((va_up_ne _ _ (by omega)).trans (va_up_self _ _ _))))))))))))) rfl (Nat.ble_eq.mpr (by omega)) rfl ?_
  refine q_alen (v := 7) hE 5 (dlX4_init_0.at 25 rfl) (va_up_self _ _ _) rfl (show Int32.ofNat 7 = 7 by decide) (Nat.ble_eq.mpr (by omega)) ?_
  refine q_icmp_ge_F hE (tgt := 70) (dlX4_init_0.at 26 rfl) (by decide) (by decide) ?_
  refine q_aload_n hE 0 (dlX4_init_0.at 27 rfl) rfl rfl ?_
  refine q_get hE (dlX4_init_0.at 28 rfl) kc4 wf_X4_11 ((va_up_ne _ _ (by omega)).trans ((fr_X3_init (by omega) (by omega)).trans ((va_up_ne _ _ (by omega)).trans ((va_up_ne _ _ (by omega)).trans ((fr_X3_init (by omega) (by omega)).trans ((va_up_ne _ _ (by omega)).trans ((va_up_ne _ _ (by omega)).trans ((fr_X3_init (by omega) (by omega)).trans ((va_up_ne _ _ (by omega)).trans ((va_up_ne _ _ (by omega)).trans ((fr_X3_init (by omega) (by omega)).trans ((va_up_ne _ _ (by omega)).trans (va_up_self _ _ _))))))))))))) rfl (Nat.ble_eq.mpr (by omega)) rfl ?_
  refine q_iload_n hE 2 (dlX4_init_0.at 29 rfl) rfl rfl ?_
  refine q_new hE (CZ.add 15 hz) [.int 0, .null, .null] (dlX4_init_0.at 30 rfl) kc3 wc_X4_9 w_new3 df3 (by decide) (by decide) ?_
  refine q_dup hE (dlX4_init_0.at 31 rfl) rfl ?_
  refine q_callIN (As := []) hE (dlX4_init_0.at 32 rfl) (mk_X3_init hfx (va_up_self _ _ _) (by omega)) mw_X3_init wm_X4_32 rfl rfl rfl rfl (by decide) (by decide) rfl rfl ?_
  refine q_aastC hE (CZ.add 18 hz) 5 (dlX4_init_0.at 33 rfl) kc3 ((fr_X3_init (by omega) (by omega)).trans ((va_up_ne _ _ (by omega)).trans (va_up_self _ _ _))) (so_X3_init (by omega)) rfl (Nat.ble_eq.mpr (by omega)) (Nat.ble_eq.mpr (by omega)) (by decide) ?_
  refine q_iincC (x' := 5) hE [(0, _), (1, _), (2, _)] 2 (dlX4_init_0.at 34 rfl) rfl (by decide) rfl rfl ?_
  refine q_goto hE (tgt := 42) (dlX4_init_0.at 35 rfl) (by decide) ?_
  refine q_iload_n hE 2 (dlX4_init_0.at 22 rfl) rfl rfl ?_
  refine q_aload_n hE 0 (dlX4_init_0.at 23 rfl) rfl rfl ?_
  refine q_get hE (dlX4_init_0.at 24 rfl) kc4 wf_X4_11 ((va_up_ne _ _ (by omega)).trans ((fr_X3_init (by omega) (by omega)).trans ((va_up_ne _ _ (by omega)).trans ((va_up_ne _ _ (by omega)).trans ((fr_X3_init (by omega) (by omega)).trans ((va_up_ne _ _ (by omega)).trans ((va_up_ne _ _ (by omega)).trans ((fr_X3_init (by omega) (by omega)).trans ((va_up_ne _ _ (by omega)).trans ((va_up_ne _ _ (by omega)).trans ((fr_X3_init (by omega) (by omega)).trans ((va_up_ne _ _ (by omega)).trans ((va_up_ne _ _ (by omega)).trans ((fr_X3_init (by omega) (by omega)).trans ((va_up_ne _ _ (by omega)).trans (va_up_self _ _ _)))))))))))))))) rfl (Nat.ble_eq.mpr (by omega)) rfl ?_
  refine q_alen (v := 7) hE 5 (dlX4_init_0.at 25 rfl) (va_up_self _ _ _) rfl (show Int32.ofNat 7 = 7 by decide) (Nat.ble_eq.mpr (by omega)) ?_
  refine q_icmp_ge_F hE (tgt := 70) (dlX4_init_0.at 26 rfl) (by decide) (by decide) ?_
  refine q_aload_n hE 0 (dlX4_init_0.at 27 rfl) rfl rfl ?_
  refine q_get hE (dlX4_init_0.at 28 rfl) kc4 wf_X4_11 ((va_up_ne _ _ (by omega)).trans ((fr_X3_init (by omega) (by omega)).trans ((va_up_ne _ _ (by omega)).trans ((va_up_ne _ _ (by omega)).trans ((fr_X3_init (by omega) (by omega)).trans ((va_up_ne _ _ (by omega)).trans ((va_up_ne _ _ (by omega)).trans ((fr_X3_init (by omega) (by omega)).trans ((va_up_ne _ _ (by omega)).trans ((va_up_ne _ _ (by omega)).trans ((fr_X3_init (by omega) (by omega)).trans ((va_up_ne _ _ (by omega)).trans ((va_up_ne _ _ (by omega)).trans ((fr_X3_init (by omega) (by omega)).trans ((va_up_ne _ _ (by omega)).trans (va_up_self _ _ _)))))))))))))))) rfl (Nat.ble_eq.mpr (by omega)) rfl ?_
  refine q_iload_n hE 2 (dlX4_init_0.at 29 rfl) rfl rfl ?_
  refine q_new hE (CZ.add 18 hz) [.int 0, .null, .null] (dlX4_init_0.at 30 rfl) kc3 wc_X4_9 w_new3 df3 (by decide) (by decide) ?_
  refine q_dup hE (dlX4_init_0.at 31 rfl) rfl ?_
  refine q_callIN (As := []) hE (dlX4_init_0.at 32 rfl) (mk_X3_init hfx (va_up_self _ _ _) (by omega)) mw_X3_init wm_X4_32 rfl rfl rfl rfl (by decide) (by decide) rfl rfl ?_
  refine q_aastC hE (CZ.add 21 hz) 5 (dlX4_init_0.at 33 rfl) kc3 ((fr_X3_init (by omega) (by omega)).trans ((va_up_ne _ _ (by omega)).trans (va_up_self _ _ _))) (so_X3_init (by omega)) rfl (Nat.ble_eq.mpr (by omega)) (Nat.ble_eq.mpr (by omega)) (by decide) ?_
  refine q_iincC (x' := 6) hE [(0, _), (1, _), (2, _)] 2 (dlX4_init_0.at 34 rfl) rfl (by decide) rfl rfl ?_
  refine q_goto hE (tgt := 42) (dlX4_init_0.at 35 rfl) (by decide) ?_
  refine q_iload_n hE 2 (dlX4_init_0.at 22 rfl) rfl rfl ?_
  refine q_aload_n hE 0 (dlX4_init_0.at 23 rfl) rfl rfl ?_
  refine q_get hE (dlX4_init_0.at 24 rfl) kc4 wf_X4_11 ((va_up_ne _ _ (by omega)).trans ((fr_X3_init (by omega) (by omega)).trans ((va_up_ne _ _ (by omega)).trans ((va_up_ne _ _ (by omega)).trans ((fr_X3_init (by omega) (by omega)).trans ((va_up_ne _ _ (by omega)).trans ((va_up_ne _ _ (by omega)).trans ((fr_X3_init (by omega) (by omega)).trans ((va_up_ne _ _ (by omega)).trans ((va_up_ne _ _ (by omega)).trans ((fr_X3_init (by omega) (by omega)).trans ((va_up_ne _ _ (by omega)).trans ((va_up_ne _ _ (by omega)).trans ((fr_X3_init (by omega) (by omega)).trans ((va_up_ne _ _ (by omega)).trans ((va_up_ne _ _ (by omega)).trans ((fr_X3_init (by omega) (by omega)).trans ((va_up_ne _ _ (by omega)).trans (va_up_self _ _ _))))))))))))))))))) rfl (Nat.ble_eq.mpr (by omega)) rfl ?_
  refine q_alen (v := 7) hE 5 (dlX4_init_0.at 25 rfl) (va_up_self _ _ _) rfl (show Int32.ofNat 7 = 7 by decide) (Nat.ble_eq.mpr (by omega)) ?_
  refine q_icmp_ge_F hE (tgt := 70) (dlX4_init_0.at 26 rfl) (by decide) (by decide) ?_
  refine q_aload_n hE 0 (dlX4_init_0.at 27 rfl) rfl rfl ?_
  refine q_get hE (dlX4_init_0.at 28 rfl) kc4 wf_X4_11 ((va_up_ne _ _ (by omega)).trans ((fr_X3_init (by omega) (by omega)).trans ((va_up_ne _ _ (by omega)).trans ((va_up_ne _ _ (by omega)).trans ((fr_X3_init (by omega) (by omega)).trans ((va_up_ne _ _ (by omega)).trans ((va_up_ne _ _ (by omega)).trans ((fr_X3_init (by omega) (by omega)).trans ((va_up_ne _ _ (by omega)).trans ((va_up_ne _ _ (by omega)).trans ((fr_X3_init (by omega) (by omega)).trans ((va_up_ne _ _ (by omega)).trans ((va_up_ne _ _ (by omega)).trans ((fr_X3_init (by omega) (by omega)).trans ((va_up_ne _ _ (by omega)).trans ((va_up_ne _ _ (by omega)).trans ((fr_X3_init (by omega) (by omega)).trans ((va_up_ne _ _ (by omega)).trans (va_up_self _ _ _))))))))))))))))))) rfl (Nat.ble_eq.mpr (by omega)) rfl ?_
  refine q_iload_n hE 2 (dlX4_init_0.at 29 rfl) rfl rfl ?_
  refine q_new hE (CZ.add 21 hz) [.int 0, .null, .null] (dlX4_init_0.at 30 rfl) kc3 wc_X4_9 w_new3 df3 (by decide) (by decide) ?_
  refine q_dup hE (dlX4_init_0.at 31 rfl) rfl ?_
  refine q_callIN (As := []) hE (dlX4_init_0.at 32 rfl) (mk_X3_init hfx (va_up_self _ _ _) (by omega)) mw_X3_init wm_X4_32 rfl rfl rfl rfl (by decide) (by decide) rfl rfl ?_
  refine q_aastC hE (CZ.add 24 hz) 5 (dlX4_init_0.at 33 rfl) kc3 ((fr_X3_init (by omega) (by omega)).trans ((va_up_ne _ _ (by omega)).trans (va_up_self _ _ _))) (so_X3_init (by omega)) rfl (Nat.ble_eq.mpr (by omega)) (Nat.ble_eq.mpr (by omega)) (by decide) ?_
  refine q_iincC (x' := 7) hE [(0, _), (1, _), (2, _)] 2 (dlX4_init_0.at 34 rfl) rfl (by decide) rfl rfl ?_
  refine q_goto hE (tgt := 42) (dlX4_init_0.at 35 rfl) (by decide) ?_
  refine q_iload_n hE 2 (dlX4_init_0.at 22 rfl) rfl rfl ?_
  refine q_aload_n hE 0 (dlX4_init_0.at 23 rfl) rfl rfl ?_
  refine q_get hE (dlX4_init_0.at 24 rfl) kc4 wf_X4_11 ((va_up_ne _ _ (by omega)).trans ((fr_X3_init (by omega) (by omega)).trans ((va_up_ne _ _ (by omega)).trans ((va_up_ne _ _ (by omega)).trans ((fr_X3_init (by omega) (by omega)).trans ((va_up_ne _ _ (by omega)).trans ((va_up_ne _ _ (by omega)).trans ((fr_X3_init (by omega) (by omega)).trans ((va_up_ne _ _ (by omega)).trans ((va_up_ne _ _ (by omega)).trans ((fr_X3_init (by omega) (by omega)).trans ((va_up_ne _ _ (by omega)).trans ((va_up_ne _ _ (by omega)).trans ((fr_X3_init (by omega) (by omega)).trans ((va_up_ne _ _ (by omega)).trans ((va_up_ne _ _ (by omega)).trans ((fr_X3_init (by omega) (by omega)).trans ((va_up_ne _ _ (by omega)).trans ((va_up_ne _ _ (by omega)).trans ((fr_X3_init (by omega) (by omega)).trans ((va_up_ne _ _ (by omega)).trans (va_up_self _ _ _)))))))))))))))))))))) rfl (Nat.ble_eq.mpr (by omega)) rfl ?_
  refine q_alen (v := 7) hE 5 (dlX4_init_0.at 25 rfl) (va_up_self _ _ _) rfl (show Int32.ofNat 7 = 7 by decide) (Nat.ble_eq.mpr (by omega)) ?_
  refine q_icmp_ge_T hE (tgt := 70) (dlX4_init_0.at 26 rfl) (by decide) (by decide) ?_
  exact q_vret0 hE (dlX4_init_0.at 36 rfl) hQ (by decide) (by decide) rfl rfl
theorem so_X4_init {V : Ev} {sh : Nat} {G : Nat → va_E} {k N : Nat} (hkN : k < N) : GI_X4_init V sh G k N k = .inr (4, [rf V sh, rf V N, rf V (N + 1), rf V (N + 2), .int (-5)]) := by
  unfold GI_X4_init
  repeat first | exact va_up_self _ _ _ | rw [va_up_ne _ _ (by omega)] | rw [fr_X3_init (by omega) (by omega)]
def GI_X0_init (V : Ev) (G : Nat → va_E) (k N : Nat) : Nat → va_E := (va_up (va_up (va_up (va_up (va_up (va_up G N (.inl (V.2.1 1, 20, .inl (fun _ => 0)))) k (.inr (0, [rf V N, .int 0, .int 0, .int 0, .int 0]))) k (.inr (0, [rf V N, .int 0, .int 0, .int 0, .int 0]))) k (.inr (0, [rf V N, .int 0, .int 0, .int 0, .int 0]))) k (.inr (0, [rf V N, .int 0, .int 0, .int 0, .int 0]))) k (.inr (0, [rf V N, .int 0, .int 0, .int 0, .int 0])))
theorem fr_X0_init {V : Ev} {G : Nat → va_E} {k N j : Nat} (h1 : j ≠ k) (h2 : j < N) : GI_X0_init V G k N j = G j := by
  unfold GI_X0_init
  repeat first | rw [va_up_ne _ _ (by omega)] | rw [va_up_ne _ _ h1]
set_option maxRecDepth 20000 in
theorem mk_X0_init {V : Ev} {l : Launch} {G : Nat → va_E} {k N : Nat} (hfx : V.2.2.2.2 = true) (hG : G k = .inr (0, [.null, .int 0, .int 0, .int 0, .int 0])) (hkN : k < N) : Ctr l V yX0_init cX0_init 1 none 1 [rf V k] N G (N + 1) (GI_X0_init V G k N) none 1 20 := by
  refine Ctr.introZ RX0 (by decide +kernel) rfl rfl rfl hfx ?_
  intro E hE hQ hI hz
  refine q_aload_n hE 0 (dlX0_init_0.at 0 rfl) rfl rfl ?_
  refine q_objInit hE (dlX0_init_0.at 1 rfl) wm_X0_3 w_obj rfl rfl ?_
  refine q_aload_n hE 0 (dlX0_init_0.at 2 rfl) rfl rfl ?_
  refine q_bipush hE (dlX0_init_0.at 3 rfl) bc_20 ?_
  refine q_newa (n' := 20) hE hz 1 (20, .inl (fun _ => 0)) (dlX0_init_0.at 4 rfl) w_ar_int rfl rfl (fun _ => rfl) (by decide) (by decide) rfl (by decide) (by decide) ?_
  refine q_putFC hE (CZ.add 1 hz) (dlX0_init_0.at 5 rfl) kc0 wf_X0_11 ((va_up_ne _ _ (by omega)).trans hG) rfl (hI rfl) rfl rfl rfl rfl (Nat.ble_eq.mpr (by omega)) rfl (fs' := [rf V N, .int 0, .int 0, .int 0, .int 0]) rfl ?_
  refine q_aload_n hE 0 (dlX0_init_0.at 6 rfl) rfl rfl ?_
  refine q_iconst hE (dlX0_init_0.at 7 rfl) ic_0 ?_
  refine q_putC hE (CZ.add 1 hz) (dlX0_init_0.at 8 rfl) kc0 wf_X0_15 (va_up_self _ _ _) rfl rfl rfl rfl (Nat.ble_eq.mpr (by omega)) rfl (fs' := [rf V N, .int 0, .int 0, .int 0, .int 0]) rfl ?_
  refine q_aload_n hE 0 (dlX0_init_0.at 9 rfl) rfl rfl ?_
  refine q_iconst hE (dlX0_init_0.at 10 rfl) ic_0 ?_
  refine q_putC hE (CZ.add 1 hz) (dlX0_init_0.at 11 rfl) kc0 wf_X0_19 (va_up_self _ _ _) rfl rfl rfl rfl (Nat.ble_eq.mpr (by omega)) rfl (fs' := [rf V N, .int 0, .int 0, .int 0, .int 0]) rfl ?_
  refine q_aload_n hE 0 (dlX0_init_0.at 12 rfl) rfl rfl ?_
  refine q_iconst hE (dlX0_init_0.at 13 rfl) ic_0 ?_
  refine q_putC hE (CZ.add 1 hz) (dlX0_init_0.at 14 rfl) kc0 wf_X0_22 (va_up_self _ _ _) rfl rfl rfl rfl (Nat.ble_eq.mpr (by omega)) rfl (fs' := [rf V N, .int 0, .int 0, .int 0, .int 0]) rfl ?_
  refine q_aload_n hE 0 (dlX0_init_0.at 15 rfl) rfl rfl ?_
  refine q_iconst hE (dlX0_init_0.at 16 rfl) ic_0 ?_
  refine q_putC hE (CZ.add 1 hz) (dlX0_init_0.at 17 rfl) kc0 wf_X0_25 (va_up_self _ _ _) rfl rfl rfl rfl (Nat.ble_eq.mpr (by omega)) rfl (fs' := [rf V N, .int 0, .int 0, .int 0, .int 0]) rfl ?_
  exact q_vret0 hE (dlX0_init_0.at 18 rfl) hQ (by decide) (by decide) rfl rfl
theorem so_X0_init {V : Ev} {G : Nat → va_E} {k N : Nat} (hkN : k < N) : GI_X0_init V G k N k = .inr (0, [rf V N, .int 0, .int 0, .int 0, .int 0]) := by
  unfold GI_X0_init
  repeat first | exact va_up_self _ _ _ | rw [va_up_ne _ _ (by omega)]
def GI_X2_init (V : Ev) (G : Nat → va_E) (k N : Nat) : Nat → va_E := (va_up (va_up (va_up (va_up (va_up (va_up (va_up (va_up (va_up G k (.inr (2, [.int 10, .int 0, .null, .null, .int 0, .null]))) k (.inr (2, [.int 10, .int 0, .null, .null, .int 0, .null]))) N (.inl (V.2.1 1, 10, .inl (fun _ => 0)))) k (.inr (2, [.int 10, .int 0, rf V N, .null, .int 0, .null]))) (N + 1) (.inl (V.2.1 1, 10, .inl (fun _ => 0)))) k (.inr (2, [.int 10, .int 0, rf V N, rf V (N + 1), .int 0, .null]))) k (.inr (2, [.int 10, .int 0, rf V N, rf V (N + 1), .int 0, .null]))) (N + 2) (.inl (V.2.1 1, 100, .inl (fun _ => 0)))) k (.inr (2, [.int 10, .int 0, rf V N, rf V (N + 1), .int 0, rf V (N + 2)])))
theorem fr_X2_init {V : Ev} {G : Nat → va_E} {k N j : Nat} (h1 : j ≠ k) (h2 : j < N) : GI_X2_init V G k N j = G j := by
  unfold GI_X2_init
  repeat first | rw [va_up_ne _ _ (by omega)] | rw [va_up_ne _ _ h1]
set_option maxRecDepth 20000 in
theorem mk_X2_init {V : Ev} {l : Launch} {G : Nat → va_E} {k N : Nat} (hfx : V.2.2.2.2 = true) (hG : G k = .inr (2, [.int 0, .int 0, .null, .null, .int 0, .null])) (hkN : k < N) : Ctr l V yX2_init cX2_init 1 none 1 [rf V k] N G (N + 3) (GI_X2_init V G k N) none 3 120 := by
  refine Ctr.introZ RX2 (by decide +kernel) rfl rfl rfl hfx ?_
  intro E hE hQ hI hz
  refine q_aload_n hE 0 (dlX2_init_0.at 0 rfl) rfl rfl ?_
  refine q_objInit hE (dlX2_init_0.at 1 rfl) wm_X2_1 w_obj rfl rfl ?_
  refine q_aload_n hE 0 (dlX2_init_0.at 2 rfl) rfl rfl ?_
  refine q_bipush hE (dlX2_init_0.at 3 rfl) bc_10 ?_
  refine q_putC hE hz (dlX2_init_0.at 4 rfl) kc2 wf_X2_9 hG rfl rfl rfl rfl (Nat.ble_eq.mpr (by omega)) rfl (fs' := [.int 10, .int 0, .null, .null, .int 0, .null]) rfl ?_
  refine q_aload_n hE 0 (dlX2_init_0.at 5 rfl) rfl rfl ?_
  refine q_iconst hE (dlX2_init_0.at 6 rfl) ic_0 ?_
  refine q_putC hE hz (dlX2_init_0.at 7 rfl) kc2 wf_X2_13 (va_up_self _ _ _) rfl rfl rfl rfl (Nat.ble_eq.mpr (by omega)) rfl (fs' := [.int 10, .int 0, .null, .null, .int 0, .null]) rfl ?_
  refine q_aload_n hE 0 (dlX2_init_0.at 8 rfl) rfl rfl ?_
  refine q_bipush hE (dlX2_init_0.at 9 rfl) bc_10 ?_
  refine q_newa (n' := 10) hE hz 1 (10, .inl (fun _ => 0)) (dlX2_init_0.at 10 rfl) w_ar_int rfl rfl (fun _ => rfl) (by decide) (by decide) rfl (by decide) (by decide) ?_
  refine q_putFC hE (CZ.add 1 hz) (dlX2_init_0.at 11 rfl) kc2 wf_X2_16 ((va_up_ne _ _ (by omega)).trans (va_up_self _ _ _)) rfl (hI rfl) rfl rfl rfl rfl (Nat.ble_eq.mpr (by omega)) rfl (fs' := [.int 10, .int 0, rf V N, .null, .int 0, .null]) rfl ?_
  refine q_aload_n hE 0 (dlX2_init_0.at 12 rfl) rfl rfl ?_
  refine q_bipush hE (dlX2_init_0.at 13 rfl) bc_10 ?_
  refine q_newa (n' := 10) hE (CZ.add 1 hz) 1 (10, .inl (fun _ => 0)) (dlX2_init_0.at 14 rfl) w_ar_int rfl rfl (fun _ => rfl) (by decide) (by decide) rfl (by decide) (by decide) ?_
  refine q_putFC hE (CZ.add 2 hz) (dlX2_init_0.at 15 rfl) kc2 wf_X2_20 ((va_up_ne _ _ (by omega)).trans (va_up_self _ _ _)) rfl (hI rfl) rfl rfl rfl rfl (Nat.ble_eq.mpr (by omega)) rfl (fs' := [.int 10, .int 0, rf V N, rf V (N + 1), .int 0, .null]) rfl ?_
  refine q_aload_n hE 0 (dlX2_init_0.at 16 rfl) rfl rfl ?_
  refine q_iconst hE (dlX2_init_0.at 17 rfl) ic_0 ?_
  refine q_putC hE (CZ.add 2 hz) (dlX2_init_0.at 18 rfl) kc2 wf_X2_23 (va_up_self _ _ _) rfl rfl rfl rfl (Nat.ble_eq.mpr (by omega)) rfl (fs' := [.int 10, .int 0, rf V N, rf V (N + 1), .int 0, .null]) rfl ?_
  refine q_aload_n hE 0 (dlX2_init_0.at 19 rfl) rfl rfl ?_
  refine q_bipush hE (dlX2_init_0.at 20 rfl) bc_100 ?_
  refine q_newa (n' := 100) hE (CZ.add 2 hz) 1 (100, .inl (fun _ => 0)) (dlX2_init_0.at 21 rfl) w_ar_int rfl rfl (fun _ => rfl) (by decide) (by decide) rfl (by decide) (by decide) ?_
  refine q_putFC hE (CZ.add 3 hz) (dlX2_init_0.at 22 rfl) kc2 wf_X2_26 ((va_up_ne _ _ (by omega)).trans (va_up_self _ _ _)) rfl (hI rfl) rfl rfl rfl rfl (Nat.ble_eq.mpr (by omega)) rfl (fs' := [.int 10, .int 0, rf V N, rf V (N + 1), .int 0, rf V (N + 2)]) rfl ?_
  exact q_vret0 hE (dlX2_init_0.at 23 rfl) hQ (by decide) (by decide) rfl rfl
theorem so_X2_init {V : Ev} {G : Nat → va_E} {k N : Nat} (hkN : k < N) : GI_X2_init V G k N k = .inr (2, [.int 10, .int 0, rf V N, rf V (N + 1), .int 0, rf V (N + 2)]) := by
  unfold GI_X2_init
  repeat first | exact va_up_self _ _ _ | rw [va_up_ne _ _ (by omega)]
def GI_X8_init (V : Ev) (G : Nat → va_E) (k N : Nat) : Nat → va_E := (va_up (va_up (va_up (va_up G k (.inr (8, [.int (-1), .int 0, .null]))) k (.inr (8, [.int (-1), .int 0, .null]))) N (.inl (V.2.1 2, 60, .inr (.inl (fun _ => 0))))) k (.inr (8, [.int (-1), .int 0, rf V N])))
theorem fr_X8_init {V : Ev} {G : Nat → va_E} {k N j : Nat} (h1 : j ≠ k) (h2 : j < N) : GI_X8_init V G k N j = G j := by
  unfold GI_X8_init
  repeat first | rw [va_up_ne _ _ (by omega)] | rw [va_up_ne _ _ h1]
set_option maxRecDepth 20000 in
theorem mk_X8_init {V : Ev} {l : Launch} {G : Nat → va_E} {k N : Nat} (hfx : V.2.2.2.2 = true) (hG : G k = .inr (8, [.int 0, .int 0, .null])) (hkN : k < N) : Ctr l V yX8_init cX8_init 1 none 1 [rf V k] N G (N + 1) (GI_X8_init V G k N) none 1 60 := by
  refine Ctr.introZ RX8 (by decide +kernel) rfl rfl rfl hfx ?_
  intro E hE hQ hI hz
  refine q_aload_n hE 0 (dlX8_init_0.at 0 rfl) rfl rfl ?_
  refine q_objInit hE (dlX8_init_0.at 1 rfl) wm_X8_1 w_obj rfl rfl ?_
  refine q_aload_n hE 0 (dlX8_init_0.at 2 rfl) rfl rfl ?_
  refine q_iconst hE (dlX8_init_0.at 3 rfl) ic_m1 ?_
  refine q_putC hE hz (dlX8_init_0.at 4 rfl) kc8 wf_X8_9 hG rfl rfl rfl rfl (Nat.ble_eq.mpr (by omega)) rfl (fs' := [.int (-1), .int 0, .null]) rfl ?_
  refine q_aload_n hE 0 (dlX8_init_0.at 5 rfl) rfl rfl ?_
  refine q_iconst hE (dlX8_init_0.at 6 rfl) ic_0 ?_
  refine q_putC hE hz (dlX8_init_0.at 7 rfl) kc8 wf_X8_13 (va_up_self _ _ _) rfl rfl rfl rfl (Nat.ble_eq.mpr (by omega)) rfl (fs' := [.int (-1), .int 0, .null]) rfl ?_
  refine q_aload_n hE 0 (dlX8_init_0.at 8 rfl) rfl rfl ?_
  refine q_bipush hE (dlX8_init_0.at 9 rfl) bc_60 ?_
  refine q_newa (n' := 60) hE hz 2 (60, .inr (.inl (fun _ => 0))) (dlX8_init_0.at 10 rfl) w_ar_long rfl rfl (fun _ => rfl) (by decide) (by decide) rfl (by decide) (by decide) ?_
  refine q_putFC hE (CZ.add 1 hz) (dlX8_init_0.at 11 rfl) kc8 wf_X8_16 ((va_up_ne _ _ (by omega)).trans (va_up_self _ _ _)) rfl (hI rfl) rfl rfl rfl rfl (Nat.ble_eq.mpr (by omega)) rfl (fs' := [.int (-1), .int 0, rf V N]) rfl ?_
  exact q_vret0 hE (dlX8_init_0.at 12 rfl) hQ (by decide) (by decide) rfl rfl
theorem so_X8_init {V : Ev} {G : Nat → va_E} {k N : Nat} (hkN : k < N) : GI_X8_init V G k N k = .inr (8, [.int (-1), .int 0, rf V N]) := by
  unfold GI_X8_init
  repeat first | exact va_up_self _ _ _ | rw [va_up_ne _ _ (by omega)]
def GI_X9_init (V : Ev) (G : Nat → va_E) : Nat → va_E := (va_up (GI_X8_init V (va_up (va_up (GI_X8_init V (va_up (va_up (GI_X8_init V (va_up (va_up (GI_X8_init V (va_up (va_up (GI_X8_init V (va_up (va_up (GI_X8_init V (va_up (va_up (GI_X2_init V (va_up (va_up (GI_X2_init V (va_up (va_up (GI_X2_init V (va_up (va_up (GI_X2_init V (va_up (va_up (GI_X2_init V (va_up (va_up (GI_X2_init V (va_up (va_up (va_up (va_up (GI_X0_init V (va_up (va_up (GI_X4_init V 1 (va_up (va_up (GI_X1_init V 1 (va_up (va_up (va_up (va_up (va_up (GI_X5_init V (va_up (va_up (va_up (GI_X7_init V (va_up (va_up (GI_X7_init V (va_up G 1 (.inr (7, [.int 0, .null, .null, .null, .null, .null, .null, .null, .null, .null, .null]))) 1 2) 0 (.inr (9, [rf V 1, .null, .int 0, .null, .null, .int 0, .null, .null, .null, .null]))) 16 (.inr (7, [.int 0, .null, .null, .null, .null, .null, .null, .null, .null, .null, .null]))) 16 17) 0 (.inr (9, [rf V 1, rf V 16, .int 0, .null, .null, .int 0, .null, .null, .null, .null]))) 0 (.inr (9, [rf V 1, rf V 16, .int 0, .null, .null, .int 0, .null, .null, .null, .null]))) 31 (.inr (5, [.null, .int 0, .int 0, .int 0, .int 0, .null]))) 31 32) 0 (.inr (9, [rf V 1, rf V 16, .int 0, rf V 31, .null, .int 0, .null, .null, .null, .null]))) 33 (.inl (V.2.1 4, 6, .inr (.inr (.inr (.inr (fun _ => none))))))) 0 (.inr (9, [rf V 1, rf V 16, .int 0, rf V 31, rf V 33, .int 0, .null, .null, .null, .null]))) 0 (.inr (9, [rf V 1, rf V 16, .int 0, rf V 31, rf V 33, .int 0, .null, .null, .null, .null]))) 34 (.inr (1, [.null, .null, .int 0, .int 0]))) 34 35) 0 (.inr (9, [rf V 1, rf V 16, .int 0, rf V 31, rf V 33, .int 0, rf V 34, .null, .null, .null]))) 38 (.inr (4, [.null, .null, .null, .null, .int 0]))) 38 39) 0 (.inr (9, [rf V 1, rf V 16, .int 0, rf V 31, rf V 33, .int 0, rf V 34, rf V 38, .null, .null]))) 63 (.inr (0, [.null, .int 0, .int 0, .int 0, .int 0]))) 63 64) 0 (.inr (9, [rf V 1, rf V 16, .int 0, rf V 31, rf V 33, .int 0, rf V 34, rf V 38, rf V 63, .null]))) 65 (.inl (V.2.1 6, 6, .inr (.inr (.inr (.inr (fun _ => none))))))) 0 (.inr (9, [rf V 1, rf V 16, .int 0, rf V 31, rf V 33, .int 0, rf V 34, rf V 38, rf V 63, rf V 65]))) 66 (.inr (2, [.int 0, .int 0, .null, .null, .int 0, .null]))) 66 67) 33 (.inl (V.2.1 4, 6, .inr (.inr (.inr (.inr (va_up (fun _ => none) (ix 0) (some (V.2.2.1 + 66))))))))) 70 (.inr (2, [.int 0, .int 0, .null, .null, .int 0, .null]))) 70 71) 33 (.inl (V.2.1 4, 6, .inr (.inr (.inr (.inr (va_up (va_up (fun _ => none) (ix 0) (some (V.2.2.1 + 66))) (ix 1) (some (V.2.2.1 + 70))))))))) 74 (.inr (2, [.int 0, .int 0, .null, .null, .int 0, .null]))) 74 75) 33 (.inl (V.2.1 4, 6, .inr (.inr (.inr (.inr (va_up (va_up (va_up (fun _ => none) (ix 0) (some (V.2.2.1 + 66))) (ix 1) (some (V.2.2.1 + 70))) (ix 2) (some (V.2.2.1 + 74))))))))) 78 (.inr (2, [.int 0, .int 0, .null, .null, .int 0, .null]))) 78 79) 33 (.inl (V.2.1 4, 6, .inr (.inr (.inr (.inr (va_up (va_up (va_up (va_up (fun _ => none) (ix 0) (some (V.2.2.1 + 66))) (ix 1) (some (V.2.2.1 + 70))) (ix 2) (some (V.2.2.1 + 74))) (ix 3) (some (V.2.2.1 + 78))))))))) 82 (.inr (2, [.int 0, .int 0, .null, .null, .int 0, .null]))) 82 83) 33 (.inl (V.2.1 4, 6, .inr (.inr (.inr (.inr (va_up (va_up (va_up (va_up (va_up (fun _ => none) (ix 0) (some (V.2.2.1 + 66))) (ix 1) (some (V.2.2.1 + 70))) (ix 2) (some (V.2.2.1 + 74))) (ix 3) (some (V.2.2.1 + 78))) (ix 4) (some (V.2.2.1 + 82))))))))) 86 (.inr (2, [.int 0, .int 0, .null, .null, .int 0, .null]))) 86 87) 33 (.inl (V.2.1 4, 6, .inr (.inr (.inr (.inr (va_up (va_up (va_up (va_up (va_up (va_up (fun _ => none) (ix 0) (some (V.2.2.1 + 66))) (ix 1) (some (V.2.2.1 + 70))) (ix 2) (some (V.2.2.1 + 74))) (ix 3) (some (V.2.2.1 + 78))) (ix 4) (some (V.2.2.1 + 82))) (ix 5) (some (V.2.2.1 + 86))))))))) 90 (.inr (8, [.int 0, .int 0, .null]))) 90 91) 65 (.inl (V.2.1 6, 6, .inr (.inr (.inr (.inr (va_up (fun _ => none) (ix 0) (some (V.2.2.1 + 90))))))))) 92 (.inr (8, [.int 0, .int 0, .null]))) 92 93) 65 (.inl (V.2.1 6, 6, .inr (.inr (.inr (.inr (va_up (va_up (fun _ => none) (ix 0) (some (V.2.2.1 + 90))) (ix 1) (some (V.2.2.1 + 92))))))))) 94 (.inr (8, [.int 0, .int 0, .null]))) 94 95) 65 (.inl (V.2.1 6, 6, .inr (.inr (.inr (.inr (va_up (va_up (va_up (fun _ => none) (ix 0) (some (V.2.2.1 + 90))) (ix 1) (some (V.2.2.1 + 92))) (ix 2) (some (V.2.2.1 + 94))))))))) 96 (.inr (8, [.int 0, .int 0, .null]))) 96 97) 65 (.inl (V.2.1 6, 6, .inr (.inr (.inr (.inr (va_up (va_up (va_up (va_up (fun _ => none) (ix 0) (some (V.2.2.1 + 90))) (ix 1) (some (V.2.2.1 + 92))) (ix 2) (some (V.2.2.1 + 94))) (ix 3) (some (V.2.2.1 + 96))))))))) 98 (.inr (8, [.int 0, .int 0, .null]))) 98 99) 65 (.inl (V.2.1 6, 6, .inr (.inr (.inr (.inr (va_up (va_up (va_up (va_up (va_up (fun _ => none) (ix 0) (some (V.2.2.1 + 90))) (ix 1) (some (V.2.2.1 + 92))) (ix 2) (some (V.2.2.1 + 94))) (ix 3) (some (V.2.2.1 + 96))) (ix 4) (some (V.2.2.1 + 98))))))))) 100 (.inr (8, [.int 0, .int 0, .null]))) 100 101) 65 (.inl (V.2.1 6, 6, .inr (.inr (.inr (.inr (va_up (va_up (va_up (va_up (va_up (va_up (fun _ => none) (ix 0) (some (V.2.2.1 + 90))) (ix 1) (some (V.2.2.1 + 92))) (ix 2) (some (V.2.2.1 + 94))) (ix 3) (some (V.2.2.1 + 96))) (ix 4) (some (V.2.2.1 + 98))) (ix 5) (some (V.2.2.1 + 100)))))))))
set_option maxRecDepth 20000 in
set_option maxHeartbeats 20000000 in
theorem mk_X9_init {V : Ev} {l : Launch} {G : Nat → va_E} (hfx : V.2.2.2.2 = true) (hG : G 0 = .inr (9, [.null, .null, .int 0, .null, .null, .int 0, .null, .null, .null, .null])) : Ctr l V yX9_init cX9_init 2 none 3 [rf V 0] 1 G 102 (GI_X9_init V G) none 101 2929 := by
  refine Ctr.introZ RX9 (by decide +kernel) rfl rfl rfl hfx ?_
  intro E hE hQ hI hz
  refine q_aload_n hE 0 (dlX9_init_0.at 0 rfl) rfl rfl ?_
  refine q_objInit hE (dlX9_init_0.at 1 rfl) wm_X9_3 w_obj rfl rfl ?_
  refine q_aload_n hE 0 (dlX9_init_0.at 2 rfl) rfl rfl ?_
  refine q_new hE hz [.int 0, .null, .null, .null, .null, .null, .null, .null, .null, .null, .null] (dlX9_init_0.at 3 rfl) kc7 wc_X9_9 w_new7 df7 (by decide) (by decide) ?_
  refine q_dup hE (dlX9_init_0.at 4 rfl) rfl ?_
  refine q_callIN (As := []) hE (dlX9_init_0.at 5 rfl) (mk_X7_init hfx (va_up_self _ _ _) (by omega)) mw_X7_init wm_X9_11 rfl rfl rfl rfl (by decide) (by decide) rfl rfl ?_
  refine q_putFC hE (CZ.add 15 hz) (dlX9_init_0.at 6 rfl) kc9 wf_X9_12 ((fr_X7_init (by omega) (by omega)).trans ((va_up_ne _ _ (by omega)).trans hG)) rfl (hI rfl) rfl rfl rfl rfl (Nat.ble_eq.mpr (by omega)) rfl (fs' := [rf V 1, .null, .int 0, .null, .null, .int 0, .null, .null, .null, .null]) rfl ?_
  refine q_aload_n hE 0 (dlX9_init_0.at 7 rfl) rfl rfl ?_
  refine q_new hE (CZ.add 15 hz) [.int 0, .null, .null, .null, .null, .null, .null, .null, .null, .null, .null] (dlX9_init_0.at 8 rfl) kc7 wc_X9_9 w_new7 df7 (by decide) (by decide) ?_
  refine q_dup hE (dlX9_init_0.at 9 rfl) rfl ?_
  refine q_callIN (As := []) hE (dlX9_init_0.at 10 rfl) (mk_X7_init hfx (va_up_self _ _ _) (by omega)) mw_X7_init wm_X9_11 rfl rfl rfl rfl (by decide) (by decide) rfl rfl ?_
  refine q_putFC hE (CZ.add 30 hz) (dlX9_init_0.at 11 rfl) kc9 wf_X9_18 ((fr_X7_init (by omega) (by omega)).trans ((va_up_ne _ _ (by omega)).trans (va_up_self _ _ _))) rfl (hI rfl) rfl rfl rfl rfl (Nat.ble_eq.mpr (by omega)) rfl (fs' := [rf V 1, rf V 16, .int 0, .null, .null, .int 0, .null, .null, .null, .null]) rfl ?_
  refine q_aload_n hE 0 (dlX9_init_0.at 12 rfl) rfl rfl ?_
  refine q_iconst hE (dlX9_init_0.at 13 rfl) ic_0 ?_
  refine q_putC hE (CZ.add 30 hz) (dlX9_init_0.at 14 rfl) kc9 wf_X9_21 (va_up_self _ _ _) rfl (by decide) (by decide) rfl (Nat.ble_eq.mpr (by omega)) rfl (fs' := [rf V 1, rf V 16, .int 0, .null, .null, .int 0, .null, .null, .null, .null]) rfl ?_
  refine q_aload_n hE 0 (dlX9_init_0.at 15 rfl) rfl rfl ?_
  refine q_new hE (CZ.add 30 hz) [.null, .int 0, .int 0, .int 0, .int 0, .null] (dlX9_init_0.at 16 rfl) kc5 wc_X9_25 w_new5 df5 (by decide) (by decide) ?_
  refine q_dup hE (dlX9_init_0.at 17 rfl) rfl ?_
  refine q_callIN (As := []) hE (dlX9_init_0.at 18 rfl) (mk_X5_init hfx (va_up_self _ _ _) (by omega)) mw_X5_init wm_X9_27 rfl rfl rfl rfl (by decide) (by decide) rfl rfl ?_
  refine q_putFC hE (CZ.add 32 hz) (dlX9_init_0.at 19 rfl) kc9 wf_X9_28 ((fr_X5_init (by omega) (by omega)).trans ((va_up_ne _ _ (by omega)).trans (va_up_self _ _ _))) rfl (hI rfl) rfl rfl rfl rfl (Nat.ble_eq.mpr (by omega)) rfl (fs' := [rf V 1, rf V 16, .int 0, rf V 31, .null, .int 0, .null, .null, .null, .null]) rfl ?_
  refine q_aload_n hE 0 (dlX9_init_0.at 20 rfl) rfl rfl ?_
  refine q_bipush hE (dlX9_init_0.at 21 rfl) bc_6 ?_
  refine q_anew (n' := 6) hE (CZ.add 32 hz) 4 (dlX9_init_0.at 22 rfl) wc_X9_32 (fun _ _ h => h.2.2.2.1) rfl (by decide) (by decide) rfl (by decide) (by decide) ?_
  refine q_putFC hE (CZ.add 33 hz) (dlX9_init_0.at 23 rfl) kc9 wf_X9_34 ((va_up_ne _ _ (by omega)).trans (va_up_self _ _ _)) rfl (hI rfl) rfl rfl rfl rfl (Nat.ble_eq.mpr (by omega)) rfl (fs' := [rf V 1, rf V 16, .int 0, rf V 31, rf V 33, .int 0, .null, .null, .null, .null]) rfl ?_
  refine q_aload_n hE 0 (dlX9_init_0.at 24 rfl) rfl rfl ?_
  refine q_iconst hE (dlX9_init_0.at 25 rfl) ic_0 ?_
  refine q_putC hE (CZ.add 33 hz) (dlX9_init_0.at 26 rfl) kc9 wf_X9_38 (va_up_self _ _ _) rfl rfl rfl rfl (Nat.ble_eq.mpr (by omega)) rfl (fs' := [rf V 1, rf V 16, .int 0, rf V 31, rf V 33, .int 0, .null, .null, .null, .null]) rfl ?_
  refine q_aload_n hE 0 (dlX9_init_0.at 27 rfl) rfl rfl ?_
  refine q_new hE (CZ.add 33 hz) [.null, .null, .int 0, .int 0] (dlX9_init_0.at 28 rfl) kc1 wc_X9_42 w_new1 df1 (by decide) (by decide) ?_
  refine q_dup hE (dlX9_init_0.at 29 rfl) rfl ?_
  refine q_aload_n hE 0 (dlX9_init_0.at 30 rfl) rfl rfl ?_
  refine q_get hE (dlX9_init_0.at 31 rfl) kc9 wf_X9_12 ((va_up_ne _ _ (by omega)).trans (va_up_self _ _ _)) rfl (Nat.ble_eq.mpr (by omega)) rfl ?_
  refine q_callIN (As := [_]) hE (dlX9_init_0.at 32 rfl) (mk_X1_init (sh := 1) hfx (va_up_self _ _ _) (by omega)) mw_X1_init wm_X9_44 rfl rfl rfl rfl (by decide) (by decide) rfl rfl ?_
  refine q_putFC hE (CZ.add 37 hz) (dlX9_init_0.at 33 rfl) kc9 wf_X9_47 ((fr_X1_init (by omega) (by omega)).trans ((va_up_ne _ _ (by omega)).trans (va_up_self _ _ _))) rfl (hI rfl) rfl rfl rfl rfl (Nat.ble_eq.mpr (by omega)) rfl (fs' := [rf V 1, rf V 16, .int 0, rf V 31, rf V 33, .int 0, rf V 34, .null, .null, .null]) rfl ?_
  refine q_aload_n hE 0 (dlX9_init_0.at 34 rfl) rfl rfl ?_
  refine q_new hE (CZ.add 37 hz) [.null, .null, .null, .null, .int 0] (dlX9_init_0.at 35 rfl) kc4 wc_X9_51 w_new4 df4 (by decide) (by decide) ?_
  refine q_dup hE (dlX9_init_0.at 36 rfl) rfl ?_
  refine q_aload_n hE 0 (dlX9_init_0.at 37 rfl) rfl rfl ?_
  refine q_get hE (dlX9_init_0.at 38 rfl) kc9 wf_X9_12 ((va_up_ne _ _ (by omega)).trans (va_up_self _ _ _)) rfl (Nat.ble_eq.mpr (by omega)) rfl ?_
  refine q_callIN (As := [_]) hE (dlX9_init_0.at 39 rfl) (mk_X4_init (sh := 1) hfx (va_up_self _ _ _) (by omega)) mw_X4_init wm_X9_53 rfl rfl rfl rfl (by decide) (by decide) rfl rfl ?_
  refine q_putFC hE (CZ.add 62 hz) (dlX9_init_1.at 0 rfl) kc9 wf_X9_54 ((fr_X4_init (by omega) (by omega)).trans ((va_up_ne _ _ (by omega)).trans (va_up_self _ _ _))) rfl (hI rfl) rfl rfl rfl rfl (Nat.ble_eq.mpr (by omega)) rfl (fs' := [rf V 1, rf V 16, .int 0, rf V 31, rf V 33, .int 0, rf V 34, rf V 38, .null, .null]) rfl ?_
  refine q_aload_n hE 0 (dlX9_init_1.at 1 rfl) rfl rfl ?_
  refine q_new hE (CZ.add 62 hz) [.null, .int 0, .int 0, .int 0, .int 0] (dlX9_init_1.at 2 rfl) kc0 wc_X9_58 w_new0 df0 (by decide) (by decide) ?_
  refine q_dup hE (dlX9_init_1.at 3 rfl) rfl ?_
  refine q_callIN (As := []) hE (dlX9_init_1.at 4 rfl) (mk_X0_init hfx (va_up_self _ _ _) (by omega)) mw_X0_init wm_X9_60 rfl rfl rfl rfl (by decide) (by decide) rfl rfl ?_
  refine q_putFC hE (CZ.add 64 hz) (dlX9_init_1.at 5 rfl) kc9 wf_X9_61 ((fr_X0_init (by omega) (by omega)).trans ((va_up_ne _ _ (by omega)).trans (va_up_self _ _ _))) rfl (hI rfl) rfl rfl rfl rfl (Nat.ble_eq.mpr (by omega)) rfl (fs' := [rf V 1, rf V 16, .int 0, rf V 31, rf V 33, .int 0, rf V 34, rf V 38, rf V 63, .null]) rfl ?_
  refine q_aload_n hE 0 (dlX9_init_1.at 6 rfl) rfl rfl ?_
  refine q_bipush hE (dlX9_init_1.at 7 rfl) bc_6 ?_
  refine q_anew (n' := 6) hE (CZ.add 64 hz) 6 (dlX9_init_1.at 8 rfl) wc_X9_65 (fun _ _ h => h.2.2.2.2.2) rfl (by decide) (by decide) rfl (by decide) (by decide) ?_
  refine q_putFC hE (CZ.add 65 hz) (dlX9_init_1.at 9 rfl) kc9 wf_X9_67 ((va_up_ne _ _ (by omega)).trans (va_up_self _ _ _)) rfl (hI rfl) rfl rfl rfl rfl (Nat.ble_eq.mpr (by omega)) rfl (fs' := [rf V 1, rf V 16, .int 0, rf V 31, rf V 33, .int 0, rf V 34, rf V 38, rf V 63, rf V 65]) rfl ?_
  refine q_iconst hE (dlX9_init_1.at 10 rfl) ic_0 ?_
  refine q_istore_n hE [(0, _), (1, _)] (dlX9_init_1.at 11 rfl) rfl rfl rfl ?_
  refine q_iload_n hE 1 (dlX9_init_1.at 12 rfl) rfl rfl ?_
  refine q_bipush hE (dlX9_init_1.at 13 rfl) bc_6 ?_
  refine q_icmp_ge_F hE (tgt := 133) (dlX9_init_1.at 14 rfl) (by decide) (by decide) ?_
  refine q_aload_n hE 0 (dlX9_init_1.at 15 rfl) rfl rfl ?_
  refine q_get hE (dlX9_init_1.at 16 rfl) kc9 wf_X9_34 (va_up_self _ _ _) rfl (Nat.ble_eq.mpr (by omega)) rfl ?_
  refine q_iload_n hE 1 (dlX9_init_1.at 17 rfl) rfl rfl ?_
  refine q_new hE (CZ.add 65 hz) [.int 0, .int 0, .null, .null, .int 0, .null] (dlX9_init_1.at 18 rfl) kc2 wc_X9_32 w_new2 df2 (by decide) (by decide) ?_
  refine q_dup hE (dlX9_init_1.at 19 rfl) rfl ?_
  refine q_callIN (As := []) hE (dlX9_init_1.at 20 rfl) (mk_X2_init hfx (va_up_self _ _ _) (by omega)) mw_X2_init wm_X9_71 rfl rfl rfl rfl (by decide) (by decide) rfl rfl ?_
  refine q_aastC hE (CZ.add 69 hz) 4 (dlX9_init_1.at 21 rfl) kc2 ((fr_X2_init (by omega) (by omega)).trans ((va_up_ne _ _ (by omega)).trans ((va_up_ne _ _ (by omega)).trans ((va_up_ne _ _ (by omega)).trans ((va_up_ne _ _ (by omega)).trans ((fr_X0_init (by omega) (by omega)).trans ((va_up_ne _ _ (by omega)).trans ((va_up_ne _ _ (by omega)).trans ((fr_X4_init (by omega) (by omega)).trans ((va_up_ne _ _ (by omega)).trans ((va_up_ne _ _ (by omega)).trans ((fr_X1_init (by omega) (by omega)).trans ((va_up_ne _ _ (by omega)).trans ((va_up_ne _ _ (by omega)).trans ((va_up_ne _ _ (by omega)).trans (va_up_self _ _ _)))))))))))))))) (so_X2_init (by omega)) rfl (Nat.ble_eq.mpr (by omega)) (Nat.ble_eq.mpr (by omega)) (by decide) ?_
  refine q_iincC (x' := 1) hE [(0, _), (1, _)] 1 (dlX9_init_1.at 22 rfl) rfl (by decide) rfl rfl ?_
  refine q_goto hE (tgt := 108) (dlX9_init_1.at 23 rfl) (by decide) ?_
  refine q_iload_n hE 1 (dlX9_init_1.at 12 rfl) rfl rfl ?_
  refine q_bipush hE (dlX9_init_1.at 13 rfl) bc_6 ?_
  refine q_icmp_ge_F hE (tgt := 133) (dlX9_init_1.at 14 rfl) (by decide) (by decide) ?_
  refine q_aload_n hE 0 (dlX9_init_1.at 15 rfl) rfl rfl ?_
  refine q_get hE (dlX9_init_1.at 16 rfl) kc9 wf_X9_34 ((va_up_ne _ _ (by omega)).trans ((fr_X2_init (by omega) (by omega)).trans ((va_up_ne _ _ (by omega)).trans (va_up_self _ _ _)))) rfl (Nat.ble_eq.mpr (by omega)) rfl ?_
  refine q_iload_n hE 1 (dlX9_init_1.at 17 rfl) rfl rfl ?_
  refine q_new hE (CZ.add 69 hz) [.int 0, .int 0, .null, .null, .int 0, .null] (dlX9_init_1.at 18 rfl) kc2 wc_X9_32 w_new2 df2 (by decide) (by decide) ?_
  refine q_dup hE (dlX9_init_1.at 19 rfl) rfl ?_
  refine q_callIN (As := []) hE (dlX9_init_1.at 20 rfl) (mk_X2_init hfx (va_up_self _ _ _) (by omega)) mw_X2_init wm_X9_71 rfl rfl rfl rfl (by decide) (by decide) rfl rfl ?_
  refine q_aastC hE (CZ.add 73 hz) 4 (dlX9_init_1.at 21 rfl) kc2 ((fr_X2_init (by omega) (by omega)).trans ((va_up_ne _ _ (by omega)).trans (va_up_self _ _ _))) (so_X2_init (by omega)) rfl (Nat.ble_eq.mpr (by omega)) (Nat.ble_eq.mpr (by omega)) (by decide) ?_
  refine q_iincC (x' := 2) hE [(0, _), (1, _)] 1 (dlX9_init_1.at 22 rfl) rfl (by decide) rfl rfl ?_
  refine q_goto hE (tgt := 108) (dlX9_init_1.at 23 rfl) (by decide) ?_
  refine q_iload_n hE 1 (dlX9_init_1.at 12 rfl) rfl rfl ?_
  refine q_bipush hE (dlX9_init_1.at 13 rfl) bc_6 ?_
  refine q_icmp_ge_F hE (tgt := 133) (dlX9_init_1.at 14 rfl) (by decide) (by decide) ?_
  refine q_aload_n hE 0 (dlX9_init_1.at 15 rfl) rfl rfl ?_
  refine q_get hE (dlX9_init_1.at 16 rfl) kc9 wf_X9_34 ((va_up_ne _ _ (by omega)).trans ((fr_X2_init (by omega) (by omega)).trans ((va_up_ne _ _ (by omega)).trans ((va_up_ne _ _ (by omega)).trans ((fr_X2_init (by omega) (by omega)).trans ((va_up_ne _ _ (by omega)).trans (va_up_self _ _ _))))))) rfl (Nat.ble_eq.mpr (by omega)) rfl ?_
  refine q_iload_n hE 1 (dlX9_init_1.at 17 rfl) rfl rfl ?_
  refine q_new hE (CZ.add 73 hz) [.int 0, .int 0, .null, .null, .int 0, .null] (dlX9_init_1.at 18 rfl) kc2 wc_X9_32 w_new2 df2 (by decide) (by decide) ?_
  refine q_dup hE (dlX9_init_1.at 19 rfl) rfl ?_
  refine q_callIN (As := []) hE (dlX9_init_1.at 20 rfl) (mk_X2_init hfx (va_up_self _ _ _) (by omega)) mw_X2_init wm_X9_71 rfl rfl rfl rfl (by decide) (by decide) rfl rfl ?_
  refine q_aastC hE (CZ.add 77 hz) 4 (dlX9_init_1.at 21 rfl) kc2 ((fr_X2_init (by omega) (by omega)).trans ((va_up_ne _ _ (by omega)).trans (va_up_self _ _ _))) (so_X2_init (by omega)) rfl (Nat.ble_eq.mpr (by omega)) (Nat.ble_eq.mpr (by omega)) (by decide) ?_
  refine q_iincC (x' := 3) hE [(0, _), (1, _)] 1 (dlX9_init_1.at 22 rfl) rfl (by decide) rfl rfl ?_
  refine q_goto hE (tgt := 108) (dlX9_init_1.at 23 rfl) (by decide) ?_
  refine q_iload_n hE 1 (dlX9_init_1.at 12 rfl) rfl rfl ?_
  refine q_bipush hE (dlX9_init_1.at 13 rfl) bc_6 ?_
  refine q_icmp_ge_F hE (tgt := 133) (dlX9_init_1.at 14 rfl) (by decide) (by decide) ?_
  refine q_aload_n hE 0 (dlX9_init_1.at 15 rfl) rfl rfl ?_
  refine q_get hE (dlX9_init_1.at 16 rfl) kc9 wf_X9_34 ((va_up_ne _ _ (by omega)).trans ((fr_X2_init (by omega) (by omega)).trans ((va_up_ne _ _ (by omega)).trans ((va_up_ne _ _ (by omega)).trans ((fr_X2_init (by omega) (by omega)).trans ((va_up_ne _ _ (by omega)).trans ((va_up_ne _ _ (by omega)).trans ((fr_X2_init (by omega) (by omega)).trans ((va_up_ne _ _ (by omega)).trans (va_up_self _ _ _)))))))))) rfl (Nat.ble_eq.mpr (by omega)) rfl ?_
  refine q_iload_n hE 1 (dlX9_init_1.at 17 rfl) rfl rfl ?_
  refine q_new hE (CZ.add 77 hz) [.int 0, .int 0, .null, .null, .int 0, .null] (dlX9_init_1.at 18 rfl) kc2 wc_X9_32 w_new2 df2 (by decide) (by decide) ?_
  refine q_dup hE (dlX9_init_1.at 19 rfl) rfl ?_
  refine q_callIN (As := []) hE (dlX9_init_1.at 20 rfl) (mk_X2_init hfx (va_up_self _ _ _) (by omega)) mw_X2_init wm_X9_71 rfl rfl rfl rfl (by decide) (by decide) rfl rfl ?_
  refine q_aastC hE (CZ.add 81 hz) 4 (dlX9_init_1.at 21 rfl) kc2 ((fr_X2_init (by omega) (by omega)).trans ((va_up_ne _ _ (by omega)).trans (va_up_self _ _ _))) (so_X2_init (by omega)) rfl (Nat.ble_eq.mpr (by omega)) (Nat.ble_eq.mpr (by omega)) (by decide) ?_
  refine q_iincC (x' := 4) hE [(0, _), (1, _)] 1 (dlX9_init_1.at 22 rfl) rfl (by decide) rfl rfl ?_
  refine q_goto hE (tgt := 108) (dlX9_init_1.at 23 rfl) (by decide) ?_
  refine q_iload_n hE 1 (dlX9_init_1.at 12 rfl) rfl rfl ?_
  refine q_bipush hE (dlX9_init_1.at 13 rfl) bc_6 ?_
  refine q_icmp_ge_F hE (tgt := 133) (dlX9_init_1.at 14 rfl) (by decide) (by decide) ?_
  refine q_aload_n hE 0 (dlX9_init_1.at 15 rfl) rfl rfl ?_
  refine q_get hE (dlX9_init_1.at 16 rfl) kc9 wf_X9_34 ((va_up_ne _ _ (by omega)).trans ((fr_X2_init (by omega) (by omega)).trans ((va_up_ne _ _ (by omega)).trans ((va_up_ne _ _ (by omega)).trans ((fr_X2_init (by omega) (by omega)).trans ((va_up_ne _ _ (by omega)).trans ((va_up_ne _ _ (by omega)).trans ((fr_X2_init (by omega) (by omega)).trans ((va_up_ne _ _ (by omega)).trans ((va_up_ne _ _ (by omega)).trans ((fr_X2_init (by omega) (by omega)).trans ((va_up_ne _ _ (by omega)).trans (va_up_self _ _ _))))))))))))) rfl (Nat.ble_eq.mpr (by omega)) rfl ?_
  refine q_iload_n hE 1 (dlX9_init_1.at 17 rfl) rfl rfl ?_
  refine q_new hE (CZ.add 81 hz) [.int 0, .int 0, .null, .null, .int 0, .null] (dlX9_init_1.at 18 rfl) kc2 wc_X9_32 w_new2 df2 (by decide) (by decide) ?_
  refine q_dup hE (dlX9_init_1.at 19 rfl) rfl ?_
  refine q_callIN (As := []) hE (dlX9_init_1.at 20 rfl) (mk_X2_init hfx (va_up_self _ _ _) (by omega)) mw_X2_init wm_X9_71 rfl rfl rfl rfl (by decide) (by decide) rfl rfl ?_
  refine q_aastC hE (CZ.add 85 hz) 4 (dlX9_init_1.at 21 rfl) kc2 ((fr_X2_init (by omega) (by omega)).trans ((va_up_ne _ _ (by omega)).trans (va_up_self _ _ _))) (so_X2_init (by omega)) rfl (Nat.ble_eq.mpr (by omega)) (Nat.ble_eq.mpr (by omega)) (by decide) ?_
  refine q_iincC (x' := 5) hE [(0, _), (1, _)] 1 (dlX9_init_1.at 22 rfl) rfl (by decide) rfl rfl ?_
  refine q_goto hE (tgt := 108) (dlX9_init_1.at 23 rfl) (by decide) ?_
  refine q_iload_n hE 1 (dlX9_init_1.at 12 rfl) rfl rfl ?_
  refine q_bipush hE (dlX9_init_1.at 13 rfl) bc_6 ?_
  refine q_icmp_ge_F hE (tgt := 133) (dlX9_init_1.at 14 rfl) (by decide) (by decide) ?_
  refine q_aload_n hE 0 (dlX9_init_1.at 15 rfl) rfl rfl ?_
  refine q_get hE (dlX9_init_1.at 16 rfl) kc9 wf_X9_34 ((va_up_ne _ _ (by omega)).trans ((fr_X2_init (by omega) (by omega)).trans ((va_up_ne _ _ (by omega)).trans ((va_up_ne _ _ (by omega)).trans ((fr_X2_init (by omega) (by omega)).trans ((va_up_ne _ _ (by omega)).trans ((va_up_ne _ _ (by omega)).trans ((fr_X2_init (by omega) (by omega)).trans ((va_up_ne _ _ (by omega)).trans ((va_up_ne _ _ (by omega)).trans ((fr_X2_init (by omega) (by omega)).trans ((va_up_ne _ _ (by omega)).trans ((va_up_ne _ _ (by omega)).trans ((fr_X2_init (by omega) (by omega)).trans ((va_up_ne _ _ (by omega)).trans (va_up_self _ _ _)))))))))))))))) rfl (Nat.ble_eq.mpr (by omega)) rfl ?_
  refine q_iload_n hE 1 (dlX9_init_1.at 17 rfl) rfl rfl ?_
  refine q_new hE (CZ.add 85 hz) [.int 0, .int 0, .null, .null, .int 0, .null] (dlX9_init_1.at 18 rfl) kc2 wc_X9_32 w_new2 df2 (by decide) (by decide) ?_
  refine q_dup hE (dlX9_init_1.at 19 rfl) rfl ?_
  refine q_callIN (As := []) hE (dlX9_init_1.at 20 rfl) (mk_X2_init hfx (va_up_self _ _ _) (by omega)) mw_X2_init wm_X9_71 rfl rfl rfl rfl (by decide) (by decide) rfl rfl ?_
  refine q_aastC hE (CZ.add 89 hz) 4 (dlX9_init_1.at 21 rfl) kc2 ((fr_X2_init (by omega) (by omega)).trans ((va_up_ne _ _ (by omega)).trans (va_up_self _ _ _))) (so_X2_init (by omega)) rfl (Nat.ble_eq.mpr (by omega)) (Nat.ble_eq.mpr (by omega)) (by decide) ?_
  refine q_iincC (x' := 6) hE [(0, _), (1, _)] 1 (dlX9_init_1.at 22 rfl) rfl (by decide) rfl rfl ?_
  refine q_goto hE (tgt := 108) (dlX9_init_1.at 23 rfl) (by decide) ?_
  refine q_iload_n hE 1 (dlX9_init_1.at 12 rfl) rfl rfl ?_
  refine q_bipush hE (dlX9_init_1.at 13 rfl) bc_6 ?_
  refine q_icmp_ge_T hE (tgt := 133) (dlX9_init_1.at 14 rfl) (by decide) (by decide) ?_
  refine q_iconst hE (dlX9_init_1.at 24 rfl) ic_0 ?_
  refine q_istore_n hE [(0, _), (1, _)] (dlX9_init_1.at 25 rfl) rfl rfl rfl ?_
  refine q_iload_n hE 1 (dlX9_init_1.at 26 rfl) rfl rfl ?_
  refine q_bipush hE (dlX9_init_1.at 27 rfl) bc_6 ?_
  refine q_icmp_ge_F hE (tgt := 160) (dlX9_init_1.at 28 rfl) (by decide) (by decide) ?_
  refine q_aload_n hE 0 (dlX9_init_1.at 29 rfl) rfl rfl ?_
  refine q_get hE (dlX9_init_1.at 30 rfl) kc9 wf_X9_67 ((va_up_ne _ _ (by omega)).trans ((fr_X2_init (by omega) (by omega)).trans ((va_up_ne _ _ (by omega)).trans ((va_up_ne _ _ (by omega)).trans ((fr_X2_init (by omega) (by omega)).trans ((va_up_ne _ _ (by omega)).trans ((va_up_ne _ _ (by omega)).trans ((fr_X2_init (by omega) (by omega)).trans ((va_up_ne _ _ (by omega)).trans ((va_up_ne _ _ (by omega)).trans ((fr_X2_init (by omega) (by omega)).trans ((va_up_ne _ _ (by omega)).trans ((va_up_ne _ _ (by omega)).trans ((fr_X2_init (by omega) (by omega)).trans ((va_up_ne _ _ (by omega)).trans ((va_up_ne _ _ (by omega)).trans ((fr_X2_init (by omega) (by omega)).trans ((va_up_ne _ _ (by omega)).trans (va_up_self _ _ _))))))))))))))))))) rfl (Nat.ble_eq.mpr (by omega)) rfl ?_
  refine q_iload_n hE 1 (dlX9_init_1.at 31 rfl) rfl rfl ?_
  refine q_new hE (CZ.add 89 hz) [.int 0, .int 0, .null] (dlX9_init_1.at 32 rfl) kc8 wc_X9_65 w_new8 df8 (by decide) (by decide) ?_
  refine q_dup hE (dlX9_init_1.at 33 rfl) rfl ?_
  refine q_callIN (As := []) hE (dlX9_init_1.at 34 rfl) (mk_X8_init hfx (va_up_self _ _ _) (by omega)) mw_X8_init wm_X9_72 rfl rfl rfl rfl (by decide) (by decide) rfl rfl ?_
  refine q_aastC hE (CZ.add 91 hz) 6 (dlX9_init_1.at 35 rfl) kc8 ((fr_X8_init (by omega) (by omega)).trans ((va_up_ne _ _ (by omega)).trans ((va_up_ne _ _ (by omega)).trans ((fr_X2_init (by omega) (by omega)).trans ((va_up_ne _ _ (by omega)).trans ((va_up_ne _ _ (by omega)).trans ((fr_X2_init (by omega) (by omega)).trans ((va_up_ne _ _ (by omega)).trans ((va_up_ne _ _ (by omega)).trans ((fr_X2_init (by omega) (by omega)).trans ((va_up_ne _ _ (by omega)).trans ((va_up_ne _ _ (by omega)).trans ((fr_X2_init (by omega) (by omega)).trans ((va_up_ne _ _ (by omega)).trans ((va_up_ne _ _ (by omega)).trans ((fr_X2_init (by omega) (by omega)).trans ((va_up_ne _ _ (by omega)).trans ((va_up_ne _ _ (by omega)).trans ((fr_X2_init (by omega) (by omega)).trans ((va_up_ne _ _ (by omega)).trans ((va_up_ne _ _ (by omega)).trans (va_up_self _ _ _)))))))))))))))))))))) (so_X8_init (by omega)) rfl (Nat.ble_eq.mpr (by omega)) (Nat.ble_eq.mpr (by omega)) (by decide) ?_
  refine q_iincC (x' := 1) hE [(0, _), (1, _)] 1 (dlX9_init_1.at 36 rfl) rfl (by decide) rfl rfl ?_
  refine q_goto hE (tgt := 135) (dlX9_init_1.at 37 rfl) (by decide) ?_
  refine q_iload_n hE 1 (dlX9_init_1.at 26 rfl) rfl rfl ?_
  refine q_bipush hE (dlX9_init_1.at 27 rfl) bc_6 ?_
  refine q_icmp_ge_F hE (tgt := 160) (dlX9_init_1.at 28 rfl) (by decide) (by decide) ?_
  refine q_aload_n hE 0 (dlX9_init_1.at 29 rfl) rfl rfl ?_
  refine q_get hE (dlX9_init_1.at 30 rfl) kc9 wf_X9_67 ((va_up_ne _ _ (by omega)).trans ((fr_X8_init (by omega) (by omega)).trans ((va_up_ne _ _ (by omega)).trans ((va_up_ne _ _ (by omega)).trans ((fr_X2_init (by omega) (by omega)).trans ((va_up_ne _ _ (by omega)).trans ((va_up_ne _ _ (by omega)).trans ((fr_X2_init (by omega) (by omega)).trans ((va_up_ne _ _ (by omega)).trans ((va_up_ne _ _ (by omega)).trans ((fr_X2_init (by omega) (by omega)).trans ((va_up_ne _ _ (by omega)).trans ((va_up_ne _ _ (by omega)).trans ((fr_X2_init (by omega) (by omega)).trans ((va_up_ne _ _ (by omega)).trans ((va_up_ne _ _ (by omega)).trans ((fr_X2_init (by omega) (by omega)).trans ((va_up_ne _ _ (by omega)).trans ((va_up_ne _ _ (by omega)).trans ((fr_X2_init (by omega) (by omega)).trans ((va_up_ne _ _ (by omega)).trans (va_up_self _ _ _)))))))))))))))))))))) rfl (Nat.ble_eq.mpr (by omega)) rfl ?_
  refine q_iload_n hE 1 (dlX9_init_1.at 31 rfl) rfl rfl ?_
  refine q_new hE (CZ.add 91 hz) [.int 0, .int 0, .null] (dlX9_init_1.at 32 rfl) kc8 wc_X9_65 w_new8 df8 (by decide) (by decide) ?_
  refine q_dup hE (dlX9_init_1.at 33 rfl) rfl ?_
  refine q_callIN (As := []) hE (dlX9_init_1.at 34 rfl) (mk_X8_init hfx (va_up_self _ _ _) (by omega)) mw_X8_init wm_X9_72 rfl rfl rfl rfl (by decide) (by decide) rfl rfl ?_
  refine q_aastC hE (CZ.add 93 hz) 6 (dlX9_init_1.at 35 rfl) kc8 ((fr_X8_init (by omega) (by omega)).trans ((va_up_ne _ _ (by omega)).trans (va_up_self _ _ _))) (so_X8_init (by omega)) rfl (Nat.ble_eq.mpr (by omega)) (Nat.ble_eq.mpr (by omega)) (by decide) ?_
  refine q_iincC (x' := 2) hE [(0, _), (1, _)] 1 (dlX9_init_1.at 36 rfl) rfl (by decide) rfl rfl ?_
  refine q_goto hE (tgt := 135) (dlX9_init_1.at 37 rfl) (by decide) ?_
  refine q_iload_n hE 1 (dlX9_init_1.at 26 rfl) rfl rfl ?_
  refine q_bipush hE (dlX9_init_1.at 27 rfl) bc_6 ?_
  refine q_icmp_ge_F hE (tgt := 160) (dlX9_init_1.at 28 rfl) (by decide) (by decide) ?_
  refine q_aload_n hE 0 (dlX9_init_1.at 29 rfl) rfl rfl ?_
  refine q_get hE (dlX9_init_1.at 30 rfl) kc9 wf_X9_67 ((va_up_ne _ _ (by omega)).trans ((fr_X8_init (by omega) (by omega)).trans ((va_up_ne _ _ (by omega)).trans ((va_up_ne _ _ (by omega)).trans ((fr_X8_init (by omega) (by omega)).trans ((va_up_ne _ _ (by omega)).trans ((va_up_ne _ _ (by omega)).trans ((fr_X2_init (by omega) (by omega)).trans ((va_up_ne _ _ (by omega)).trans ((va_up_ne _ _ (by omega)).trans ((fr_X2_init (by omega) (by omega)).trans ((va_up_ne _ _ (by omega)).trans ((va_up_ne _ _ (by omega)).trans ((fr_X2_init (by omega) (by omega)).trans ((va_up_ne _ _ (by omega)).trans ((va_up_ne _ _ (by omega)).trans ((fr_X2_init (by omega) (by omega)).trans ((va_up_ne _ _ (by omega)).trans ((va_up_ne _ _ (by omega)).trans ((fr_X2_init (by omega) (by omega)).trans ((va_up_ne _ _ (by omega)).trans ((va_up_ne _ _ (by omega)).trans ((fr_X2_init (by omega) (by omega)).trans ((va_up_ne _ _ (by omega)).trans (va_up_self _ _ _))))))))))))))))))))))))) rfl (Nat.ble_eq.mpr (by omega)) rfl ?_
  refine q_iload_n hE 1 (dlX9_init_1.at 31 rfl) rfl rfl ?_
  refine q_new hE (CZ.add 93 hz) [.int 0, .int 0, .null] (dlX9_init_1.at 32 rfl) kc8 wc_X9_65 w_new8 df8 (by decide) (by decide) ?_
  refine q_dup hE (dlX9_init_1.at 33 rfl) rfl ?_
  refine q_callIN (As := []) hE (dlX9_init_1.at 34 rfl) (mk_X8_init hfx (va_up_self _ _ _) (by omega)) mw_X8_init wm_X9_72 rfl rfl rfl rfl (by decide) (by decide) rfl rfl ?_
  refine q_aastC hE (CZ.add 95 hz) 6 (dlX9_init_1.at 35 rfl) kc8 ((fr_X8_init (by omega) (by omega)).trans ((va_up_ne _ _ (by omega)).trans (va_up_self _ _ _))) (so_X8_init (by omega)) rfl (Nat.ble_eq.mpr (by omega)) (Nat.ble_eq.mpr (by omega)) (by decide) ?_
  refine q_iincC (x' := 3) hE [(0, _), (1, _)] 1 (dlX9_init_1.at 36 rfl) rfl (by decide) rfl rfl ?_
  refine q_goto hE (tgt := 135) (dlX9_init_1.at 37 rfl) (by decide) ?_
  refine q_iload_n hE 1 (dlX9_init_1.at 26 rfl) rfl rfl ?_
  refine q_bipush hE (dlX9_init_1.at 27 rfl) bc_6 ?_
  refine q_icmp_ge_F hE (tgt := 160) (dlX9_init_1.at 28 rfl) (by decide) (by decide) ?_
  refine q_aload_n hE 0 (dlX9_init_1.at 29 rfl) rfl rfl ?_
  refine q_get hE (dlX9_init_1.at 30 rfl) kc9 wf_X9_67 ((va_up_ne _ _ (by omega)).trans ((fr_X8_init (by omega) (by omega)).trans ((va_up_ne _ _ (by omega)).trans ((va_up_ne _ _ (by omega)).trans ((fr_X8_init (by omega) (by omega)).trans ((va_up_ne _ _ (by omega)).trans ((va_up_ne _ _ (by omega)).trans ((fr_X8_init (by omega) (by omega)).trans ((va_up_ne _ _ (by omega)).trans ((va_up_ne _ _ (by omega)).trans ((fr_X2_init (by omega) (by omega)).trans ((va_up_ne _ _ (by omega)).trans ((va_up_ne _ _ (by omega)).trans ((fr_X2_init (by omega) (by omega)).trans ((va_up_ne _ _ (by omega)).trans ((va_up_ne _ _ (by omega)).trans ((fr_X2_init (by omega) (by omega)).trans ((va_up_ne _ _ (by omega)).trans ((va_up_ne _ _ (by omega)).trans ((fr_X2_init (by omega) (by omega)).trans ((va_up_ne _ _ (by omega)).trans ((va_up_ne _ _ (by omega)).trans ((fr_X2_init (by omega) (by omega)).trans ((va_up_ne _ _ (by omega)).trans ((va_up_ne _ _ (by omega)).trans ((fr_X2_init (by omega) (by omega)).trans ((va_up_ne _ _ (by omega)).trans (va_up_self _ _ _)))))))))))))))))))))))))))) rfl (Nat.ble_eq.mpr (by omega)) rfl ?_
  refine q_iload_n hE 1 (dlX9_init_1.at 31 rfl) rfl rfl ?_
  refine q_new hE (CZ.add 95 hz) [.int 0, .int 0, .null] (dlX9_init_1.at 32 rfl) kc8 wc_X9_65 w_new8 df8 (by decide) (by decide) ?_
  refine q_dup hE (dlX9_init_1.at 33 rfl) rfl ?_
  refine q_callIN (As := []) hE (dlX9_init_1.at 34 rfl) (mk_X8_init hfx (va_up_self _ _ _) (by omega)) mw_X8_init wm_X9_72 rfl rfl rfl rfl (by decide) (by decide) rfl rfl ?_
  refine q_aastC hE (CZ.add 97 hz) 6 (dlX9_init_1.at 35 rfl) kc8 ((fr_X8_init (by omega) (by omega)).trans ((va_up_ne _ _ (by omega)).trans (va_up_self _ _ _))) (so_X8_init (by omega)) rfl (Nat.ble_eq.mpr (by omega)) (Nat.ble_eq.mpr (by omega)) (by decide) ?_
  refine q_iincC (x' := 4) hE [(0, _), (1, _)] 1 (dlX9_init_1.at 36 rfl) rfl (by decide) rfl rfl ?_
  refine q_goto hE (tgt := 135) (dlX9_init_1.at 37 rfl) (by decide) ?_
  refine q_iload_n hE 1 (dlX9_init_1.at 26 rfl) rfl rfl ?_
  refine q_bipush hE (dlX9_init_1.at 27 rfl) bc_6 ?_
  refine q_icmp_ge_F hE (tgt := 160) (dlX9_init_1.at 28 rfl) (by decide) (by decide) ?_
  refine q_aload_n hE 0 (dlX9_init_1.at 29 rfl) rfl rfl ?_
  refine q_get hE (dlX9_init_1.at 30 rfl) kc9 wf_X9_67 ((va_up_ne _ _ (by omega)).trans ((fr_X8_init (by omega) (by omega)).trans ((va_up_ne _ _ (by omega)).trans ((va_up_ne _ _ (by omega)).trans ((fr_X8_init (by omega) (by omega)).trans ((va_up_ne _ _ (by omega)).trans ((va_up_ne _ _ (by omega)).trans ((fr_X8_init (by omega) (by omega)).trans ((va_up_ne _ _ (by omega)).trans ((va_up_ne _ _ (by omega)).trans ((fr_X8_init (by omega) (by omega)).trans ((va_up_ne _ _ (by omega)).trans ((va_up_ne _ _ (by omega)).trans ((fr_X2_init (by omega) (by omega)).trans ((va_up_ne _ _ (by omega)).trans ((va_up_ne _ _ (by omega)).trans ((fr_X2_init (by omega) (by omega)).trans ((va_up_ne _ _ (by omega)).trans ((va_up_ne _ _ (by omega)).trans ((fr_X2_init (by omega) (by omega)).trans ((va_up_ne _ _ (by omega)).trans ((va_up_ne _ _ (by omega)).trans ((fr_X2_init (by omega) (by omega)).trans ((va_up_ne _ _ (by omega)).trans ((va_up_ne _ _ (by omega)).trans ((fr_X2_init (by omega) (by omega)).trans ((va_up_ne _ _ (by omega)).trans ((va_up_ne _ _ (by omega)).trans ((fr_X2_init (by omega) (by omega)).trans ((va_up_ne _ _ (by omega)).trans (va_up_self _ _ _))))))))))))))))))))))))))))))) rfl (Nat.ble_eq.mpr (by omega)) rfl ?_
  refine q_iload_n hE 1 (dlX9_init_1.at 31 rfl) rfl rfl ?_
  refine q_new hE (CZ.add 97 hz) [.int 0, .int 0, .null] (dlX9_init_1.at 32 rfl) kc8 wc_X9_65 w_new8 df8 (by decide) (by decide) ?_
  refine q_dup hE (dlX9_init_1.at 33 rfl) rfl ?_
  refine q_callIN (As := []) hE (dlX9_init_1.at 34 rfl) (mk_X8_init hfx (va_up_self _ _ _) (by omega)) mw_X8_init wm_X9_72 rfl rfl rfl rfl (by decide) (by decide) rfl rfl ?_
  refine q_aastC hE (CZ.add 99 hz) 6 (dlX9_init_1.at 35 rfl) kc8 ((fr_X8_init (by omega) (by omega)).trans ((va_up_ne _ _ (by omega)).trans (va_up_self _ _ _))) (so_X8_init (by omega)) rfl (Nat.ble_eq.mpr (by omega)) (Nat.ble_eq.mpr (by omega)) (by decide) ?_
  refine q_iincC (x' := 5) hE [(0, _), (1, _)] 1 (dlX9_init_1.at 36 rfl) rfl (by decide) rfl rfl ?_
  refine q_goto hE (tgt := 135) (dlX9_init_1.at 37 rfl) (by decide) ?_
  refine q_iload_n hE 1 (dlX9_init_1.at 26 rfl) rfl rfl ?_
  refine q_bipush hE (dlX9_init_1.at 27 rfl) bc_6 ?_
  refine q_icmp_ge_F hE (tgt := 160) (dlX9_init_1.at 28 rfl) (by decide) (by decide) ?_
  refine q_aload_n hE 0 (dlX9_init_1.at 29 rfl) rfl rfl ?_
  refine q_get hE (dlX9_init_1.at 30 rfl) kc9 wf_X9_67 ((va_up_ne _ _ (by omega)).trans ((fr_X8_init (by omega) (by omega)).trans ((va_up_ne _ _ (by omega)).trans ((va_up_ne _ _ (by omega)).trans ((fr_X8_init (by omega) (by omega)).trans ((va_up_ne _ _ (by omega)).trans ((va_up_ne _ _ (by omega)).trans ((fr_X8_init (by omega) (by omega)).trans ((va_up_ne _ _ (by omega)).trans ((va_up_ne _ _ (by omega)).trans ((fr_X8_init (by omega) (by omega)).trans ((va_up_ne _ _ (by omega)).trans ((va_up_ne _ _ (by omega)).trans ((fr_X8_init (by omega) (by omega)).trans ((va_up_ne _ _ (by omega)).trans ((va_up_ne _ _ (by omega)).trans ((fr_X2_init (by omega) (by omega)).trans ((va_up_ne _ _ (by omega)).trans ((va_up_ne _ _ (by omega)).trans ((fr_X2_init (by omega) (by omega)).trans ((va_up_ne _ _ (by omega)).trans ((va_up_ne _ _ (by omega)).trans ((fr_X2_init (by omega) (by omega)).trans ((va_up_ne _ _ (by omega)).trans ((va_up_ne _ _ (by omega)).trans ((fr_X2_init (by omega) (by omega)).trans ((va_up_ne _ _ (by omega)).trans ((va_up_ne _ _ (by omega)).trans ((fr_X2_init (by omega) (by omega)).trans ((va_up_ne _ _ (by omega)).trans ((va_up_ne _ _ (by omega)).trans ((fr_X2_init (by omega) (by omega)).trans ((va_up_ne _ _ (by omega)).trans (va_up_self _ _ _)))))))))))))))))))))))))))))))))) rfl (Nat.ble_eq.mpr (by omega)) rfl ?_
  refine q_iload_n hE 1 (dlX9_init_1.at 31 rfl) rfl rfl ?_
  refine q_new hE (CZ.add 99 hz) [.int 0, .int 0, .null] (dlX9_init_1.at 32 rfl) kc8 wc_X9_65 w_new8 df8 (by decide) (by decide) ?_
  refine q_dup hE (dlX9_init_1.at 33 rfl) rfl ?_
  refine q_callIN (As := []) hE (dlX9_init_1.at 34 rfl) (mk_X8_init hfx (va_up_self _ _ _) (by omega)) mw_X8_init wm_X9_72 rfl rfl rfl rfl (by decide) (by decide) rfl rfl ?_
  refine q_aastC hE (CZ.add 101 hz) 6 (dlX9_init_1.at 35 rfl) kc8 ((fr_X8_init (by omega) (by omega)).trans ((va_up_ne _ _ (by omega)).trans (va_up_self _ _ _))) (so_X8_init (by omega)) rfl (Nat.ble_eq.mpr (by omega)) (Nat.ble_eq.mpr (by omega)) (by decide) ?_
  refine q_iincC (x' := 6) hE [(0, _), (1, _)] 1 (dlX9_init_1.at 36 rfl) rfl (by decide) rfl rfl ?_
  refine q_goto hE (tgt := 135) (dlX9_init_1.at 37 rfl) (by decide) ?_
  refine q_iload_n hE 1 (dlX9_init_1.at 26 rfl) rfl rfl ?_
  refine q_bipush hE (dlX9_init_1.at 27 rfl) bc_6 ?_
  refine q_icmp_ge_T hE (tgt := 160) (dlX9_init_1.at 28 rfl) (by decide) (by decide) ?_
  exact q_vret0 hE (dlX9_init_1.at 38 rfl) hQ (by decide) (by decide) rfl rfl
