theorem DL.at {c : ByteArray} {L : List (Nat × (Instr × Nat))} (h : DL c L) (i : Nat) {p : Nat} {t : Instr × Nat} (e : L[i]? = some (p, t)) : decode c p = .ok t := h i (p, t) e
-- the pure text's own words
def omat {A B : Type} (q : Option A) (n : B) (f : A → B) : B := match q with | none => n | some z => f z
def lth {B : Type} (h : PH) (K : PH → Option B) : Option B := K h
def jrem (x y : Int32) : Int32 := x - x / y * y
theorem g_if {c : Prop} [Decidable c] {B : Type} {A : Option B} {r : B} (h : (if c then A else none) = some r) : c ∧ A = some r := by
  by_cases hc : c
  · rw [if_pos hc] at h; exact ⟨hc, h⟩
  · rw [if_neg hc] at h; cases h
theorem kr_s (d : Nat) : Nat.ble (d + 1) (d + 1) = true := Nat.ble_eq.mpr (Nat.le_refl _)
theorem kr_c {b d k : Nat} (h : Nat.ble b d = true) (hb : Nat.ble k b = true) : Nat.ble k (d + 1) = true := Nat.ble_eq.mpr (Nat.le_succ_of_le (Nat.le_trans (Nat.le_of_ble_eq_true hb) (Nat.le_of_ble_eq_true h)))
theorem rq_some (V : Ev) (k : Nat) : rq V (some k) = rf V k := rfl
theorem fits_rq (C : String) (V : Ev) (q : Option Nat) : fits (.object C) (rq V q) = true := by cases q <;> rfl
section More
variable {E : Cx} {V : Ev} {l : Launch} {cc : ByteArray} {own : String} {nL kR rc rs nc ns N : Nat} {ret : Option FieldType} {G : Nat → va_E} {pc : Nat} {lv : List (Nat × Value)} {st : List Value}
theorem q_lth {B : Type} {X : PH → Nat → va_E} {h' : PH} {K : PH → Option B} {r : B} (hm : lth h' K = some r) (kk : ∀ z, K z = some r → PW E V nc ns N (X z) pc lv st) : PW E V nc ns N (X h') pc lv st := kk h' hm
theorem q_deref (hE : CX E V l cc own nL kR rc rs ret) {B : Type} {is : Nat → Bool} {q : Option Nat} {A : Nat → Option B} {r : B} (hm : omat q none (fun z => if is z = true then A z else none) = some r) (kk : ∀ z, is z = true → A z = some r → PW E V nc ns N G pc lv (rf V z :: st)) : PW E V nc ns N G pc lv (rq V q :: st) := by
  cases q with
  | none => cases hm
  | some z =>
    obtain ⟨h1, h2⟩ := g_if (show (if is z = true then A z else none) = some r from hm)
    exact kk z h1 h2
theorem q_ifnonnullO (hE : CX E V l cc own nL kR rc rs ret) {q : Option Nat} {off : Int} {tgt : Nat} {B : Type} {A1 : Option B} {A2 : Nat → Option B} {r : B} (hd : decode cc pc = .ok (.ifnonnull off, 3)) (ht : (pc : Int) + off = (tgt : Int)) (hm : omat q A1 A2 = some r) (kn : q = none → A1 = some r → PW E V nc ns N G (pc + 3) lv st) (kf : ∀ z, q = some z → A2 z = some r → PW E V nc ns N G tgt lv st) : PW E V nc ns N G pc lv (rq V q :: st) := by
  refine q_ifnonnull hE (A1 := A1) (A2 := A2) hd ht ?_ kn kf
  rw [← hm]
  cases q <;> rfl
theorem q_tcase (hE : CX E V l cc own nL kR rc rs ret) {dflt lo hi : Int} {offs : Array Int} {len : Nat} {x : Int32} {B : Type} {A1 A2 : Option B} {r : B} (hd : decode cc pc = .ok (.tableswitch dflt lo hi offs, len)) (c : Int32) (tgt : Nat) (hc : ¬ c.toInt < lo ∧ ¬ hi < c.toInt ∧ offs[(c.toInt - lo).toNat]? = some ((tgt : Int) - (pc : Int))) (hm : (if x = c then A1 else A2) = some r) (kt : x = c → A1 = some r → PW E V nc ns N G tgt lv st) (kf : ¬ x = c → A2 = some r → PW E V nc ns N G pc lv (.int x :: st)) : PW E V nc ns N G pc lv (.int x :: st) := by
  by_cases hx : x = c
  · rw [if_pos hx] at hm
    have k := kt hx hm
    subst hx
    obtain ⟨p, l0, e, R, s, m, args, below, meth, c, Q⟩ := E
    intro H locs ls h1 h2 h3 h4
    exact lv_tableIn hE.1 hE.2.1 hd hc.1 hc.2.1 hc.2.2 (by omega) (k H locs ls h1 h2 h3 h4)
  · rw [if_neg hx] at hm
    exact kf hx hm
theorem q_tdef (hE : CX E V l cc own nL kR rc rs ret) {dflt lo hi : Int} {offs : Array Int} {len : Nat} {x : Int32} {tgt : Nat} (hd : decode cc pc = .ok (.tableswitch dflt lo hi offs, len)) (h : x.toInt < lo ∨ hi < x.toInt) (ht : (pc : Int) + dflt = (tgt : Int)) (kk : PW E V nc ns N G tgt lv st) : PW E V nc ns N G pc lv (.int x :: st) := by
  obtain ⟨p, l0, e, R, s, m, args, below, meth, c, Q⟩ := E
  intro H locs ls h1 h2 h3 h4
  exact lv_tableOut hE.1 hE.2.1 hd h ht (kk H locs ls h1 h2 h3 h4)
theorem q_lcase (hE : CX E V l cc own nL kR rc rs ret) {dflt : Int} {ps : Array (Int × Int)} {len : Nat} {x : Int32} {B : Type} {A1 A2 : Option B} {r : B} (hd : decode cc pc = .ok (.lookupswitch dflt ps, len)) (c : Int32) (tgt : Nat) (hc : (ps.toList.zip (ps.toList.drop 1)).all (fun (a, next) => a.1 < next.1) = true ∧ Op.lookupswitch.offset ps.toList dflt c.toInt = (tgt : Int) - (pc : Int)) (hm : (if x = c then A1 else A2) = some r) (kt : x = c → A1 = some r → PW E V nc ns N G tgt lv st) (kf : ¬ x = c → A2 = some r → PW E V nc ns N G pc lv (.int x :: st)) : PW E V nc ns N G pc lv (.int x :: st) := by
  by_cases hx : x = c
  · rw [if_pos hx] at hm
    have k := kt hx hm
    subst hx
    obtain ⟨p, l0, e, R, s, m, args, below, meth, c, Q⟩ := E
    intro H locs ls h1 h2 h3 h4
    exact lv_lookup hE.1 hE.2.1 hd hc.1 hc.2 (by omega) (k H locs ls h1 h2 h3 h4)
  · rw [if_neg hx] at hm
    exact kf hx hm
theorem q_ldef (hE : CX E V l cc own nL kR rc rs ret) {dflt : Int} {ps : Array (Int × Int)} {len : Nat} {x : Int32} {tgt : Nat} (hd : decode cc pc = .ok (.lookupswitch dflt ps, len)) (hp : (ps.toList.zip (ps.toList.drop 1)).all (fun (a, next) => a.1 < next.1) = true) (ho : Op.lookupswitch.offset ps.toList dflt x.toInt = dflt) (ht : (pc : Int) + dflt = (tgt : Int)) (kk : PW E V nc ns N G tgt lv st) : PW E V nc ns N G pc lv (.int x :: st) := by
  obtain ⟨p, l0, e, R, s, m, args, below, meth, c, Q⟩ := E
  intro H locs ls h1 h2 h3 h4
  exact lv_lookup hE.1 hE.2.1 hd hp ho ht (kk H locs ls h1 h2 h3 h4)
-- rows for the JDK's own methods: Strings that are constants, their bytes, statics
theorem q_gs_compact (hE : CX E V l cc own nL kR rc rs ret) {idx : Nat} (hd : decode cc pc = .ok (.getstatic idx, 3)) (hw : Cond.fieldLink own idx "java/lang/String" "COMPACT_STRINGS" "Z" ∈ TG) (kk : PW E V nc ns N G (pc + 3) lv (.int 1 :: st)) : PW E V nc ns N G pc lv st := by
  obtain ⟨p, l0, e, R, s, m, args, below, meth, c, Q⟩ := E
  intro H locs ls h1 h2 h3 h4
  exact va_gets hE.1 hE.2.1 hE.2.2.2.2.2.1.2.2.2.2.1.1 h3 hE.2.2.2.1 (hE.2.2.2.2.1 _ hw) (fun _ h => h) hd (kk H locs ls h1 h2 h3 h4)
theorem q_gs_fmt (hE : CX E V l cc own nL kR rc rs ret) {idx : Nat} (hd : decode cc pc = .ok (.getstatic idx, 3)) (hw : Cond.fieldLink own idx "jdk/internal/util/Preconditions" "SIOOBE_FORMATTER" "Ljava/util/function/BiFunction;" ∈ TG) (kk : ∀ v : Value, (v = .null ∨ ∃ t : Nat, v = .ref t) → PW E V nc ns N G (pc + 3) lv (v :: st)) : PW E V nc ns N G pc lv st := by
  obtain ⟨p, l0, e, R, s, m, args, below, meth, c, Q⟩ := E
  intro H locs ls h1 h2 h3 h4
  rcases hE.2.2.2.2.2.1.2.2.2.2.1.2 with h | ⟨t, h⟩
  · exact va_gets hE.1 hE.2.1 h h3 hE.2.2.2.1 (hE.2.2.2.2.1 _ hw) (fun _ h => h) hd (kk _ (Or.inl rfl) H locs ls h1 h2 h3 h4)
  · exact va_gets hE.1 hE.2.1 h h3 hE.2.2.2.1 (hE.2.2.2.2.1 _ hw) (fun _ h => h) hd (kk _ (Or.inr ⟨t, rfl⟩) H locs ls h1 h2 h3 h4)
theorem q_scoder (hE : CX E V l cc own nL kR rc rs ret) {idx wd : Nat} (hwd : wd < 5) (hd : decode cc pc = .ok (.getfield idx, 3)) (hw : Cond.fieldLink own idx "java/lang/String" "coder" "B" ∈ TG) (kk : PW E V nc ns N G (pc + 3) lv (.int 0 :: st)) : PW E V nc ns N G pc lv (sf V (2 * wd + 2) :: st) := by
  obtain ⟨p, l0, e, R, s, m, args, below, meth, c, Q⟩ := E
  intro H locs ls h1 h2 h3 h4
  exact vk_getf hE.1 hE.2.1 (hE.2.2.2.2.2.1.2.2.2.1.1.1 wd hwd).2.1 h3 hE.2.2.2.1 (hE.2.2.2.2.1 _ hw) (fun _ h => h) hd (kk H locs ls h1 h2 h3 h4)
theorem q_sval (hE : CX E V l cc own nL kR rc rs ret) {idx wd : Nat} (hwd : wd < 5) (hd : decode cc pc = .ok (.getfield idx, 3)) (hw : Cond.fieldLink own idx "java/lang/String" "value" "[B" ∈ TG) (kk : PW E V nc ns N G (pc + 3) lv (sf V (2 * wd + 3) :: st)) : PW E V nc ns N G pc lv (sf V (2 * wd + 2) :: st) := by
  obtain ⟨p, l0, e, R, s, m, args, below, meth, c, Q⟩ := E
  intro H locs ls h1 h2 h3 h4
  exact vk_getf hE.1 hE.2.1 (hE.2.2.2.2.2.1.2.2.2.1.1.1 wd hwd).2.2.1 h3 hE.2.2.2.1 (hE.2.2.2.2.1 _ hw) (fun _ h => h) hd (kk H locs ls h1 h2 h3 h4)
theorem q_stlen (hE : CX E V l cc own nL kR rc rs ret) {wd : Nat} (hwd : wd < 5) (hd : decode cc pc = .ok (.arraylength, 1)) (kk : PW E V nc ns N G (pc + 1) lv (.int (Int32.ofNat (strN.getD wd 0)) :: st)) : PW E V nc ns N G pc lv (sf V (2 * wd + 3) :: st) := by
  obtain ⟨p, l0, e, R, s, m, args, below, meth, c, Q⟩ := E
  intro H locs ls h1 h2 h3 h4
  exact va_tlen hE.1 hE.2.1 (hE.2.2.2.2.2.1.2.2.2.1.1.1 wd hwd).2.2.2 h3 rfl hd (kk H locs ls h1 h2 h3 h4)
theorem q_sbald (hE : CX E V l cc own nL kR rc rs ret) {wd : Nat} {i : Int32} {B : Type} {A1 : Option B} {r : B} (hwd : wd < 5) (hd : decode cc pc = .ok (.baload, 1)) (hm : (if inb i (strN.getD wd 0) = true then A1 else none) = some r) (kk : A1 = some r → PW E V nc ns N G (pc + 1) lv (.int ((strL.getD wd []).getD (ix i) 0) :: st)) : PW E V nc ns N G pc lv (.int i :: sf V (2 * wd + 3) :: st) := by
  obtain ⟨p, l0, e, R, s, m, args, below, meth, c, Q⟩ := E
  intro H locs ls h1 h2 h3 h4
  obtain ⟨hi, hm⟩ := g_if hm
  exact va_tb hE.1 hE.2.1 (hE.2.2.2.2.2.1.2.2.2.1.1.1 wd hwd).2.2.2 h3 (inb_in hi) rfl hd (kk hm H locs ls h1 h2 h3 h4)
theorem q_callVS {wd : Nat} (hE : CX E V l cc own nL kR rc rs ret) {idx nL' k' mc ms n : Nat} {y : MethodName} {cc' : ByteArray} {ret' : Option FieldType} {N' : Nat} {G' : Nat → va_E} {ov : Option Value} {As stk : List Value} (hd : decode cc pc = .ok (.invokevirtual idx, 3)) (hc : Ctr l V y cc' nL' ret' k' (sf V (2 * wd + 2) :: As) N G N' G' ov mc ms) (hM : MWV y cc' nL' ret' n) (hw : Cond.methodLink own idx y ∈ TG) (hk : Nat.ble (k' + 1) kR = true) (hL : Nat.ble nL' 44 = true) (hn : As.length = n) (hst : Nat.ble (st.map fun v => v.category).sum 8 = true) (hmc : nc + mc ≤ rc) (hms : ns + ms ≤ rs) (hstk : stk = As.reverse ++ sf V (2 * wd + 2) :: st) (hy : y.cls = "java/lang/String") (hwd : wd < 5) (kk : PW E V (nc + mc) (ns + ms) N' G' (pc + 3) lv (ov.toList ++ st)) : PW E V nc ns N G pc lv stk := by
  obtain ⟨p, l0, e, R, s, m, args, below, meth, c, Q⟩ := E
  intro H locs ls h1 h2 h3 h4
  have hk9 := Nat.le_of_ble_eq_true hk
  have hL9 := Nat.le_of_ble_eq_true hL
  have hst9 := Nat.le_of_ble_eq_true hst
  have hF : kR ≤ R.frames := hE.2.2.2.2.2.2.1
  have hLo : 64 * kR ≤ R.locals := hE.2.2.2.2.2.2.2.1
  have hb : V.2.2.1 ≤ s.heap.size := hE.2.2.2.2.2.2.2.2.1
  have hC1 : rc ≤ R.cells := hE.2.2.2.2.2.2.2.2.2.1
  have hS1 : rs ≤ R.slots := hE.2.2.2.2.2.2.2.2.2.2.1
  have hll : l0 = l := hE.2.2.2.2.2.2.2.2.2.2.2.2.2
  subst hll
  subst hstk
  have hrec := vk_recv hE.2.2.2.2.2.1.2.2.2.1.1 hwd h3
  rw [← hy] at hrec
  exact run_end (va_runV (C := y.cls) (As := As) (rest := st) ⟨hE.1, hE.2.1, hE.2.2.1, hE.2.2.2.1, hE.2.2.2.2.1⟩ hc ⟨⟨rfl, rfl, by show k' + 1 ≤ _; omega, by show 8 + (nL' + 11) + 64 * k' ≤ _; omega, mw_pay hE.2.2.2.2.1 hM.1.1, List.mem_cons_self, hE.2.2.2.2.1 _ hM.1.1, hE.2.2.2.2.1 _ hM.1.2.1, hM.1.2.2.1, mw_sig hM.1.2.2.2, hE.2.2.2.2.1 _ hw⟩, hE.2.2.2.2.1 _ hM.2.1, hE.2.2.2.2.1 _ hM.2.2⟩ ⟨SW.blind, hrec, fun U hU hW => SW.here h1 h2 h3 hb hE.2.2.2.2.2.1 hU hW⟩ rfl hn (h4.1.trans hE.2.2.1) rfl (lv_room hst9) hd ⟨by omega, by omega⟩) hb h3 h4 kk
theorem q_callVS_i {wd : Nat} (hE : CX E V l cc own nL kR rc rs ret) {idx nL' k' n : Nat} {y : MethodName} {cc' : ByteArray} {ret' : Option FieldType} {As stk : List Value} {Ph B : Type} {X : Ph → Nat → va_E} {f : Option (Int32 × Ph)} {K : Int32 → Ph → Option B} {r : B} (hd : decode cc pc = .ok (.invokevirtual idx, 3)) (hM : MWV y cc' nL' ret' n) (hw : Cond.methodLink own idx y ∈ TG) (hk : Nat.ble (k' + 1) kR = true) (hL : Nat.ble nL' 44 = true) (hn : As.length = n) (hst : Nat.ble (st.map fun v => v.category).sum 8 = true) (hnc : nc ≤ rc) (hns : ns ≤ rs) (hstk : stk = As.reverse ++ sf V (2 * wd + 2) :: st) (hwd : wd < 5) (hy : y.cls = "java/lang/String") (hc : ∀ (v : Int32) (h' : Ph), f = some (v, h') → Ctr l V y cc' nL' ret' k' (sf V (2 * wd + 2) :: As) N G N (X h') (some (.int v)) 0 0) (hm : bnd f K = some r) (kk : ∀ (v : Int32) (h' : Ph), K v h' = some r → PW E V nc ns N (X h') (pc + 3) lv (.int v :: st)) : PW E V nc ns N G pc lv stk := by
  cases hf : f with
  | none => rw [hf] at hm; cases hm
  | some x =>
    rw [hf] at hm
    exact q_callVS hE hd (hc x.1 x.2 hf) hM hw hk hL hn hst hnc hns hstk hy hwd (kk x.1 x.2 hm)
end More
theorem wm_J0_335 : Cond.methodLink RJ0 335 yJ0_coder_7d493 ∈ TG := inTG 578 (by decide +kernel) rfl
theorem wf_J0_38 : Cond.fieldLink RJ0 38 "java/lang/String" "COMPACT_STRINGS" "Z" ∈ TG := inTG 582 (by decide +kernel) rfl
theorem wm_J0_492 : Cond.methodLink RJ0 492 yJ0_isLatin1_aae02 ∈ TG := inTG 588 (by decide +kernel) rfl
theorem wm_J0_495 : Cond.methodLink RJ0 495 yJ1_charAt_3b067 ∈ TG := inTG 592 (by decide +kernel) rfl
theorem wm_J1_9 : Cond.methodLink RJ1 9 yJ0_checkIndex_df160 ∈ TG := inTG 595 (by decide +kernel) rfl
theorem wf_J0_1053 : Cond.fieldLink RJ0 1053 "jdk/internal/util/Preconditions" "SIOOBE_FORMATTER" "Ljava/util/function/BiFunction;" ∈ TG := inTG 598 (by decide +kernel) rfl
theorem wm_J0_1059 : Cond.methodLink RJ0 1059 yJ3_checkIndex_8e157 ∈ TG := inTG 600 (by decide +kernel) rfl
theorem wm_J0_633 : Cond.methodLink RJ0 633 yJ0_indexOf_7cf53 ∈ TG := inTG 662 (by decide +kernel) rfl
theorem wm_J0_505 : Cond.methodLink RJ0 505 yJ0_length_8abf5 ∈ TG := inTG 666 (by decide +kernel) rfl
theorem wm_J0_637 : Cond.methodLink RJ0 637 yJ1_indexOf_4cfef ∈ TG := inTG 667 (by decide +kernel) rfl
theorem wm_J1_88 : Cond.methodLink RJ1 88 yJ1_canEncode_9a6ad ∈ TG := inTG 670 (by decide +kernel) rfl
theorem wm_J1_92 : Cond.methodLink RJ1 92 Lib.Math.max.name ∈ TG := inTG 673 (by decide +kernel) rfl
theorem wm_J1_38 : Cond.methodLink RJ1 38 Lib.Math.min.name ∈ TG := inTG 674 (by decide +kernel) rfl
theorem wm_J1_95 : Cond.methodLink RJ1 95 yJ1_indexOfChar_4cfef ∈ TG := inTG 677 (by decide +kernel) rfl
theorem wf_J0_9 : Cond.fieldLink RJ0 9 "java/lang/String" "value" "[B" ∈ TG := inTG 1577 (by decide +kernel) rfl
theorem wf_J0_15 : Cond.fieldLink RJ0 15 "java/lang/String" "coder" "B" ∈ TG := inTG 1578 (by decide +kernel) rfl
theorem mw_J0_coder_7d493 : MWV yJ0_coder_7d493 cJ0_coder_7d493 1 (some .byte) 0 := ⟨⟨inTG 581 (by decide +kernel) rfl, inTG 134 (by decide +kernel) rfl, ⟨by decide +kernel, by decide +kernel⟩, by decide +kernel⟩, inTG 579 (by decide +kernel) rfl, inTG 580 (by decide +kernel) rfl⟩
theorem mw_J0_isLatin1_aae02 : MWV yJ0_isLatin1_aae02 cJ0_isLatin1_aae02 1 (some .boolean) 0 := ⟨⟨inTG 591 (by decide +kernel) rfl, inTG 134 (by decide +kernel) rfl, ⟨by decide +kernel, by decide +kernel⟩, by decide +kernel⟩, inTG 589 (by decide +kernel) rfl, inTG 590 (by decide +kernel) rfl⟩
theorem mw_J0_length_8abf5 : MWV yJ0_length_8abf5 cJ0_length_8abf5 1 (some .int) 0 := ⟨⟨inTG 577 (by decide +kernel) rfl, inTG 134 (by decide +kernel) rfl, ⟨by decide +kernel, by decide +kernel⟩, by decide +kernel⟩, inTG 575 (by decide +kernel) rfl, inTG 576 (by decide +kernel) rfl⟩
theorem mw_J3_checkIndex_8e157 : MWS yJ3_checkIndex_8e157 cJ3_checkIndex_8e157 3 (some .int) 3 := ⟨⟨inTG 602 (by decide +kernel) rfl, inTG 136 (by decide +kernel) rfl, ⟨by decide +kernel, by decide +kernel⟩, by decide +kernel⟩, inTG 601 (by decide +kernel) rfl⟩
theorem mw_J0_checkIndex_df160 : MWS yJ0_checkIndex_df160 cJ0_checkIndex_df160 2 none 2 := ⟨⟨inTG 597 (by decide +kernel) rfl, inTG 134 (by decide +kernel) rfl, ⟨by decide +kernel, by decide +kernel⟩, by decide +kernel⟩, inTG 596 (by decide +kernel) rfl⟩
theorem mw_J1_charAt_3b067 : MWS yJ1_charAt_3b067 cJ1_charAt_3b067 2 (some .char) 2 := ⟨⟨inTG 594 (by decide +kernel) rfl, inTG 135 (by decide +kernel) rfl, ⟨by decide +kernel, by decide +kernel⟩, by decide +kernel⟩, inTG 593 (by decide +kernel) rfl⟩
theorem mw_J0_charAt_5068e : MWV yJ0_charAt_5068e cJ0_charAt_5068e 2 (some .char) 1 := ⟨⟨inTG 587 (by decide +kernel) rfl, inTG 134 (by decide +kernel) rfl, ⟨by decide +kernel, by decide +kernel⟩, by decide +kernel⟩, inTG 585 (by decide +kernel) rfl, inTG 586 (by decide +kernel) rfl⟩
theorem mw_J1_canEncode_9a6ad : MWS yJ1_canEncode_9a6ad cJ1_canEncode_9a6ad 1 (some .boolean) 1 := ⟨⟨inTG 672 (by decide +kernel) rfl, inTG 135 (by decide +kernel) rfl, ⟨by decide +kernel, by decide +kernel⟩, by decide +kernel⟩, inTG 671 (by decide +kernel) rfl⟩
theorem mw_J1_indexOfChar_4cfef : MWS yJ1_indexOfChar_4cfef cJ1_indexOfChar_4cfef 6 (some .int) 4 := ⟨⟨inTG 679 (by decide +kernel) rfl, inTG 135 (by decide +kernel) rfl, ⟨by decide +kernel, by decide +kernel⟩, by decide +kernel⟩, inTG 678 (by decide +kernel) rfl⟩
theorem mw_J1_indexOf_4cfef : MWS yJ1_indexOf_4cfef cJ1_indexOf_4cfef 4 (some .int) 4 := ⟨⟨inTG 669 (by decide +kernel) rfl, inTG 135 (by decide +kernel) rfl, ⟨by decide +kernel, by decide +kernel⟩, by decide +kernel⟩, inTG 668 (by decide +kernel) rfl⟩
theorem mw_J0_indexOf_7cf53 : MWV yJ0_indexOf_7cf53 cJ0_indexOf_7cf53 3 (some .int) 2 := ⟨⟨inTG 665 (by decide +kernel) rfl, inTG 134 (by decide +kernel) rfl, ⟨by decide +kernel, by decide +kernel⟩, by decide +kernel⟩, inTG 663 (by decide +kernel) rfl, inTG 664 (by decide +kernel) rfl⟩
theorem mw_J0_indexOf_0f7a4 : MWV yJ0_indexOf_0f7a4 cJ0_indexOf_0f7a4 2 (some .int) 1 := ⟨⟨inTG 661 (by decide +kernel) rfl, inTG 134 (by decide +kernel) rfl, ⟨by decide +kernel, by decide +kernel⟩, by decide +kernel⟩, inTG 659 (by decide +kernel) rfl, inTG 660 (by decide +kernel) rfl⟩
theorem mw_J7_fill_d0a16 : MWS yJ7_fill_d0a16 cJ7_fill_d0a16 5 none 2 := ⟨⟨inTG 980 (by decide +kernel) rfl, inTG 140 (by decide +kernel) rfl, ⟨by decide +kernel, by decide +kernel⟩, by decide +kernel⟩, inTG 979 (by decide +kernel) rfl⟩
theorem bc_m10 : (Int8.ofInt (-10)).toInt32 = (-10 : Int32) := by decide +kernel
theorem bc_m11 : (Int8.ofInt (-11)).toInt32 = (-11 : Int32) := by decide +kernel
theorem bc_m12 : (Int8.ofInt (-12)).toInt32 = (-12 : Int32) := by decide +kernel
theorem bc_m13 : (Int8.ofInt (-13)).toInt32 = (-13 : Int32) := by decide +kernel
theorem bc_m14 : (Int8.ofInt (-14)).toInt32 = (-14 : Int32) := by decide +kernel
theorem bc_m2 : (Int8.ofInt (-2)).toInt32 = (-2 : Int32) := by decide +kernel
theorem bc_m3 : (Int8.ofInt (-3)).toInt32 = (-3 : Int32) := by decide +kernel
theorem bc_m33 : (Int8.ofInt (-33)).toInt32 = (-33 : Int32) := by decide +kernel
theorem bc_m38 : (Int8.ofInt (-38)).toInt32 = (-38 : Int32) := by decide +kernel
theorem bc_m4 : (Int8.ofInt (-4)).toInt32 = (-4 : Int32) := by decide +kernel
theorem bc_m5 : (Int8.ofInt (-5)).toInt32 = (-5 : Int32) := by decide +kernel
theorem bc_10 : (Int8.ofInt (10)).toInt32 = (10 : Int32) := by decide +kernel
theorem bc_100 : (Int8.ofInt (100)).toInt32 = (100 : Int32) := by decide +kernel
theorem bc_101 : (Int8.ofInt (101)).toInt32 = (101 : Int32) := by decide +kernel
theorem bc_11 : (Int8.ofInt (11)).toInt32 = (11 : Int32) := by decide +kernel
theorem bc_110 : (Int8.ofInt (110)).toInt32 = (110 : Int32) := by decide +kernel
theorem bc_112 : (Int8.ofInt (112)).toInt32 = (112 : Int32) := by decide +kernel
theorem bc_12 : (Int8.ofInt (12)).toInt32 = (12 : Int32) := by decide +kernel
theorem bc_124 : (Int8.ofInt (124)).toInt32 = (124 : Int32) := by decide +kernel
theorem bc_127 : (Int8.ofInt (127)).toInt32 = (127 : Int32) := by decide +kernel
theorem bc_19 : (Int8.ofInt (19)).toInt32 = (19 : Int32) := by decide +kernel
theorem bc_20 : (Int8.ofInt (20)).toInt32 = (20 : Int32) := by decide +kernel
theorem bc_24 : (Int8.ofInt (24)).toInt32 = (24 : Int32) := by decide +kernel
theorem bc_30 : (Int8.ofInt (30)).toInt32 = (30 : Int32) := by decide +kernel
theorem bc_32 : (Int8.ofInt (32)).toInt32 = (32 : Int32) := by decide +kernel
theorem bc_33 : (Int8.ofInt (33)).toInt32 = (33 : Int32) := by decide +kernel
theorem bc_38 : (Int8.ofInt (38)).toInt32 = (38 : Int32) := by decide +kernel
theorem bc_40 : (Int8.ofInt (40)).toInt32 = (40 : Int32) := by decide +kernel
theorem bc_41 : (Int8.ofInt (41)).toInt32 = (41 : Int32) := by decide +kernel
theorem bc_48 : (Int8.ofInt (48)).toInt32 = (48 : Int32) := by decide +kernel
theorem bc_50 : (Int8.ofInt (50)).toInt32 = (50 : Int32) := by decide +kernel
theorem bc_51 : (Int8.ofInt (51)).toInt32 = (51 : Int32) := by decide +kernel
theorem bc_57 : (Int8.ofInt (57)).toInt32 = (57 : Int32) := by decide +kernel
theorem bc_59 : (Int8.ofInt (59)).toInt32 = (59 : Int32) := by decide +kernel
theorem bc_6 : (Int8.ofInt (6)).toInt32 = (6 : Int32) := by decide +kernel
theorem bc_60 : (Int8.ofInt (60)).toInt32 = (60 : Int32) := by decide +kernel
theorem bc_61 : (Int8.ofInt (61)).toInt32 = (61 : Int32) := by decide +kernel
theorem bc_62 : (Int8.ofInt (62)).toInt32 = (62 : Int32) := by decide +kernel
theorem bc_7 : (Int8.ofInt (7)).toInt32 = (7 : Int32) := by decide +kernel
theorem bc_70 : (Int8.ofInt (70)).toInt32 = (70 : Int32) := by decide +kernel
theorem bc_71 : (Int8.ofInt (71)).toInt32 = (71 : Int32) := by decide +kernel
theorem bc_8 : (Int8.ofInt (8)).toInt32 = (8 : Int32) := by decide +kernel
theorem bc_9 : (Int8.ofInt (9)).toInt32 = (9 : Int32) := by decide +kernel
theorem bc_99 : (Int8.ofInt (99)).toInt32 = (99 : Int32) := by decide +kernel
theorem ic_m1 : Int32.ofInt (-1) = (-1 : Int32) := by decide +kernel
theorem ic_0 : Int32.ofInt (0) = (0 : Int32) := by decide +kernel
theorem ic_1 : Int32.ofInt (1) = (1 : Int32) := by decide +kernel
theorem ic_2 : Int32.ofInt (2) = (2 : Int32) := by decide +kernel
theorem ic_3 : Int32.ofInt (3) = (3 : Int32) := by decide +kernel
theorem ic_4 : Int32.ofInt (4) = (4 : Int32) := by decide +kernel
theorem ic_5 : Int32.ofInt (5) = (5 : Int32) := by decide +kernel
theorem lc_0 : Int64.ofNat ((0 : Fin 2) : Nat) = (0 : Int64) := by decide +kernel
theorem lc_1 : Int64.ofNat ((1 : Fin 2) : Nat) = (1 : Int64) := by decide +kernel
theorem nc_24 : Int32.ofNat 24 = (24 : Int32) := by decide +kernel
theorem nc_60 : Int32.ofNat 60 = (60 : Int32) := by decide +kernel
theorem nc_606 : Int32.ofNat 606 = (606 : Int32) := by decide +kernel
theorem sc_1000 : (Int16.ofInt (1000)).toInt32 = (1000 : Int32) := by decide +kernel
theorem sc_255 : (Int16.ofInt (255)).toInt32 = (255 : Int32) := by decide +kernel
theorem sc_300 : (Int16.ofInt (300)).toInt32 = (300 : Int32) := by decide +kernel
theorem sc_799 : (Int16.ofInt (799)).toInt32 = (799 : Int32) := by decide +kernel
theorem sc_800 : (Int16.ofInt (800)).toInt32 = (800 : Int32) := by decide +kernel
theorem sc_999 : (Int16.ofInt (999)).toInt32 = (999 : Int32) := by decide +kernel
theorem sc_9999 : (Int16.ofInt (9999)).toInt32 = (9999 : Int32) := by decide +kernel
theorem wk_X1_73 : Cond.constant RX1 73 (2147483647 : Int32) ∈ TG := inTG 811 (by decide +kernel) rfl
theorem wk_X10_360 : Cond.constantLong RX10 360 (-9223372036854775808 : Int64) ∈ TG := inTG 1463 (by decide +kernel) rfl
theorem wk_X9_211 : Cond.constantLong RX9 211 (-9223372036854775808 : Int64) ∈ TG := inTG 862 (by decide +kernel) rfl
