theorem DL.at {c : ByteArray} {L : List (Nat × (Instr × Nat))} (h : DL c L) (i : Nat) {p : Nat} {t : Instr × Nat} (e : L[i]? = some (p, t)) : decode c p = .ok t := h i (p, t) e
-- the pure text's own words
def omat {A B : Type} (q : Option A) (n : B) (f : A → B) : B := match q with | none => n | some z => f z
def lth {B : Type} (h : PH) (K : PH → Option B) : Option B := K h
def jrem (x y : Int32) : Int32 := x - x / y * y
def slen (w : Nat) : Option Int32 := if w < 5 then some (Int32.ofNat (strN.getD w 0)) else none
def schar (w : Nat) (i : Int32) : Option Int32 := if w < 5 then (if inb i (strN.getD w 0) = true then some ((strL.getD w []).getD (ix i) 0) else none) else none
def sidxL (c : Int32) : List Int32 → Int32 → Int32
  | [], _ => -1
  | a :: l, k => if a = c then k else sidxL c l (k + 1)
def sidx (w : Nat) (c : Int32) : Option Int32 := if w < 5 then (if 0 ≤ c.toInt ∧ c.toInt < 128 then some (sidxL c (strL.getD w []) 0) else none) else none
theorem g_if {c : Prop} [Decidable c] {B : Type} {A : Option B} {r : B} (h : (if c then A else none) = some r) : c ∧ A = some r := by
  by_cases hc : c
  · rw [if_pos hc] at h; exact ⟨hc, h⟩
  · rw [if_neg hc] at h; cases h
theorem kr_s (d : Nat) : Nat.ble (d + 1) (d + 1) = true := Nat.ble_eq.mpr (Nat.le_refl _)
theorem kr_c {b d k : Nat} (h : Nat.ble b d = true) (hb : Nat.ble k b = true) : Nat.ble k (d + 1) = true := Nat.ble_eq.mpr (Nat.le_succ_of_le (Nat.le_trans (Nat.le_of_ble_eq_true hb) (Nat.le_of_ble_eq_true h)))
theorem rq_some (V : Ev) (k : Nat) : rq V (some k) = rf V k := rfl
theorem fits_rq (C : String) (V : Ev) (q : Option Nat) : fits (.object C) (rq V q) = true := by cases q <;> rfl
section More
variable {E : Cx} {V : Ev} {l : Launch} {cc : ByteArray} {own : String} {nL kR rc rs nc ns N : Nat} {ret : Option FieldType} {G : Nat → va_E} {pc : Nat} {lv : List (Nat × Value)} {st : List Value}
theorem q_lth {B : Type} {X : PH → Nat → va_E} {h' : PH} {K : PH → Option B} {r : B} (hm : lth h' K = some r) (kk : ∀ z, K z = some r → PW E V nc ns N (X z) pc lv st) : PW E V nc ns N (X h') pc lv st := kk h' hm
theorem q_deref (hE : CX E V l cc own nL kR rc rs ret) {B : Type} {is : Nat → Bool} {q : Option Nat} {A : Nat → Option B} {r : B} (hm : omat q none (fun z => if is z = true then A z else none) = some r) (kk : ∀ z, is z = true → A z = some r → PW E V nc ns N G pc lv (rf V z :: st)) : PW E V nc ns N G pc lv (rq V q :: st) := by
  cases q with
  | none => cases hm
  | some z =>
    obtain ⟨h1, h2⟩ := g_if (show (if is z = true then A z else none) = some r from hm)
    exact kk z h1 h2
theorem q_ifnonnullO (hE : CX E V l cc own nL kR rc rs ret) {q : Option Nat} {off : Int} {tgt : Nat} {B : Type} {A1 : Option B} {A2 : Nat → Option B} {r : B} (hd : decode cc pc = .ok (.ifnonnull off, 3)) (ht : (pc : Int) + off = (tgt : Int)) (hm : omat q A1 A2 = some r) (kn : q = none → A1 = some r → PW E V nc ns N G (pc + 3) lv st) (kf : ∀ z, q = some z → A2 z = some r → PW E V nc ns N G tgt lv st) : PW E V nc ns N G pc lv (rq V q :: st) := by
  refine q_ifnonnull hE (A1 := A1) (A2 := A2) hd ht ?_ kn kf
  rw [← hm]
  cases q <;> rfl
theorem q_tcase (hE : CX E V l cc own nL kR rc rs ret) {dflt lo hi : Int} {offs : Array Int} {len : Nat} {x : Int32} {B : Type} {A1 A2 : Option B} {r : B} (hd : decode cc pc = .ok (.tableswitch dflt lo hi offs, len)) (c : Int32) (tgt : Nat) (hc : ¬ c.toInt < lo ∧ ¬ hi < c.toInt ∧ offs[(c.toInt - lo).toNat]? = some ((tgt : Int) - (pc : Int))) (hm : (if x = c then A1 else A2) = some r) (kt : x = c → A1 = some r → PW E V nc ns N G tgt lv st) (kf : ¬ x = c → A2 = some r → PW E V nc ns N G pc lv (.int x :: st)) : PW E V nc ns N G pc lv (.int x :: st) := by
  by_cases hx : x = c
  · rw [if_pos hx] at hm
    have k := kt hx hm
    subst hx
    obtain ⟨p, l0, e, R, s, m, args, below, meth, c, Q⟩ := E
    intro H locs ls h1 h2 h3 h4
    exact lv_tableIn hE.1 hE.2.1 hd hc.1 hc.2.1 hc.2.2 (by omega) (k H locs ls h1 h2 h3 h4)
  · rw [if_neg hx] at hm
    exact kf hx hm
theorem q_tdef (hE : CX E V l cc own nL kR rc rs ret) {dflt lo hi : Int} {offs : Array Int} {len : Nat} {x : Int32} {tgt : Nat} (hd : decode cc pc = .ok (.tableswitch dflt lo hi offs, len)) (h : x.toInt < lo ∨ hi < x.toInt) (ht : (pc : Int) + dflt = (tgt : Int)) (kk : PW E V nc ns N G tgt lv st) : PW E V nc ns N G pc lv (.int x :: st) := by
  obtain ⟨p, l0, e, R, s, m, args, below, meth, c, Q⟩ := E
  intro H locs ls h1 h2 h3 h4
  exact lv_tableOut hE.1 hE.2.1 hd h ht (kk H locs ls h1 h2 h3 h4)
theorem q_lcase (hE : CX E V l cc own nL kR rc rs ret) {dflt : Int} {ps : Array (Int × Int)} {len : Nat} {x : Int32} {B : Type} {A1 A2 : Option B} {r : B} (hd : decode cc pc = .ok (.lookupswitch dflt ps, len)) (c : Int32) (tgt : Nat) (hc : (ps.toList.zip (ps.toList.drop 1)).all (fun (a, next) => a.1 < next.1) = true ∧ Op.lookupswitch.offset ps.toList dflt c.toInt = (tgt : Int) - (pc : Int)) (hm : (if x = c then A1 else A2) = some r) (kt : x = c → A1 = some r → PW E V nc ns N G tgt lv st) (kf : ¬ x = c → A2 = some r → PW E V nc ns N G pc lv (.int x :: st)) : PW E V nc ns N G pc lv (.int x :: st) := by
  by_cases hx : x = c
  · rw [if_pos hx] at hm
    have k := kt hx hm
    subst hx
    obtain ⟨p, l0, e, R, s, m, args, below, meth, c, Q⟩ := E
    intro H locs ls h1 h2 h3 h4
    exact lv_lookup hE.1 hE.2.1 hd hc.1 hc.2 (by omega) (k H locs ls h1 h2 h3 h4)
  · rw [if_neg hx] at hm
    exact kf hx hm
theorem q_ldef (hE : CX E V l cc own nL kR rc rs ret) {dflt : Int} {ps : Array (Int × Int)} {len : Nat} {x : Int32} {tgt : Nat} (hd : decode cc pc = .ok (.lookupswitch dflt ps, len)) (hp : (ps.toList.zip (ps.toList.drop 1)).all (fun (a, next) => a.1 < next.1) = true) (ho : Op.lookupswitch.offset ps.toList dflt x.toInt = dflt) (ht : (pc : Int) + dflt = (tgt : Int)) (kk : PW E V nc ns N G tgt lv st) : PW E V nc ns N G pc lv (.int x :: st) := by
  obtain ⟨p, l0, e, R, s, m, args, below, meth, c, Q⟩ := E
  intro H locs ls h1 h2 h3 h4
  exact lv_lookup hE.1 hE.2.1 hd hp ho ht (kk H locs ls h1 h2 h3 h4)
-- the JDK's own methods that are called (their contracts: part 05b)
theorem q_slen (hE : CX E V l cc own nL kR rc rs ret) (hfx : V.2.2.2.2 = false) {idx wd : Nat} {B : Type} {A : Int32 → Option B} {r : B} (hd : decode cc pc = .ok (.invokevirtual idx, 3)) (hw : Cond.methodLink own idx ⟨"java/lang/String", "length", "()I"⟩ ∈ TG) (hkR : Nat.ble 9 kR = true) (hst : Nat.ble (st.map fun v => v.category).sum 8 = true) (hm : omat (slen wd) none A = some r) (kk : ∀ v, A v = some r → PW E V nc ns N G (pc + 3) lv (.int v :: st)) : PW E V nc ns N G pc lv (sf V (2 * wd + 2) :: st) := by
  sorry
theorem q_schar (hE : CX E V l cc own nL kR rc rs ret) (hfx : V.2.2.2.2 = false) {idx wd : Nat} {i : Int32} {B : Type} {A : Int32 → Option B} {r : B} (hd : decode cc pc = .ok (.invokevirtual idx, 3)) (hw : Cond.methodLink own idx ⟨"java/lang/String", "charAt", "(I)C"⟩ ∈ TG) (hkR : Nat.ble 9 kR = true) (hst : Nat.ble (st.map fun v => v.category).sum 8 = true) (hm : omat (schar wd i) none A = some r) (kk : ∀ v, A v = some r → PW E V nc ns N G (pc + 3) lv (.int v :: st)) : PW E V nc ns N G pc lv (.int i :: sf V (2 * wd + 2) :: st) := by
  sorry
theorem q_sidx (hE : CX E V l cc own nL kR rc rs ret) (hfx : V.2.2.2.2 = false) {idx wd : Nat} {i : Int32} {B : Type} {A : Int32 → Option B} {r : B} (hd : decode cc pc = .ok (.invokevirtual idx, 3)) (hw : Cond.methodLink own idx ⟨"java/lang/String", "indexOf", "(I)I"⟩ ∈ TG) (hkR : Nat.ble 9 kR = true) (hst : Nat.ble (st.map fun v => v.category).sum 8 = true) (hm : omat (sidx wd i) none A = some r) (kk : ∀ v, A v = some r → PW E V nc ns N G (pc + 3) lv (.int v :: st)) : PW E V nc ns N G pc lv (.int i :: sf V (2 * wd + 2) :: st) := by
  sorry
theorem q_lfill (hE : CX E V l cc own nL kR rc rs ret) (hfx : V.2.2.2.2 = false) {idx k n : Nat} {x : Int64} {f : Nat → Int64} {G' : Nat → va_E} (hd : decode cc pc = .ok (.invokestatic idx, 3)) (hw : Cond.methodLink own idx ⟨"java/util/Arrays", "fill", "([JJ)V"⟩ ∈ TG) (hG : G k = .inl (V.2.1 2, n, .inr (.inl f))) (hkN : Nat.ble (k + 1) N = true) (hkR : Nat.ble 3 kR = true) (hst : Nat.ble (st.map fun v => v.category).sum 8 = true) (hG' : va_up G k (.inl (V.2.1 2, n, .inr (.inl (fun i => if i < n then x else f i)))) = G') (kk : PW E V nc ns N G' (pc + 3) lv st) : PW E V nc ns N G pc lv (.long x :: rf V k :: st) := by
  sorry
end More
theorem bc_m10 : (Int8.ofInt (-10)).toInt32 = (-10 : Int32) := by decide +kernel
theorem bc_m11 : (Int8.ofInt (-11)).toInt32 = (-11 : Int32) := by decide +kernel
theorem bc_m12 : (Int8.ofInt (-12)).toInt32 = (-12 : Int32) := by decide +kernel
theorem bc_m13 : (Int8.ofInt (-13)).toInt32 = (-13 : Int32) := by decide +kernel
theorem bc_m14 : (Int8.ofInt (-14)).toInt32 = (-14 : Int32) := by decide +kernel
theorem bc_m2 : (Int8.ofInt (-2)).toInt32 = (-2 : Int32) := by decide +kernel
theorem bc_m3 : (Int8.ofInt (-3)).toInt32 = (-3 : Int32) := by decide +kernel
theorem bc_m33 : (Int8.ofInt (-33)).toInt32 = (-33 : Int32) := by decide +kernel
theorem bc_m38 : (Int8.ofInt (-38)).toInt32 = (-38 : Int32) := by decide +kernel
theorem bc_m4 : (Int8.ofInt (-4)).toInt32 = (-4 : Int32) := by decide +kernel
theorem bc_m5 : (Int8.ofInt (-5)).toInt32 = (-5 : Int32) := by decide +kernel
theorem bc_10 : (Int8.ofInt (10)).toInt32 = (10 : Int32) := by decide +kernel
theorem bc_100 : (Int8.ofInt (100)).toInt32 = (100 : Int32) := by decide +kernel
theorem bc_101 : (Int8.ofInt (101)).toInt32 = (101 : Int32) := by decide +kernel
theorem bc_11 : (Int8.ofInt (11)).toInt32 = (11 : Int32) := by decide +kernel
theorem bc_110 : (Int8.ofInt (110)).toInt32 = (110 : Int32) := by decide +kernel
theorem bc_112 : (Int8.ofInt (112)).toInt32 = (112 : Int32) := by decide +kernel
theorem bc_12 : (Int8.ofInt (12)).toInt32 = (12 : Int32) := by decide +kernel
theorem bc_124 : (Int8.ofInt (124)).toInt32 = (124 : Int32) := by decide +kernel
theorem bc_127 : (Int8.ofInt (127)).toInt32 = (127 : Int32) := by decide +kernel
theorem bc_19 : (Int8.ofInt (19)).toInt32 = (19 : Int32) := by decide +kernel
theorem bc_20 : (Int8.ofInt (20)).toInt32 = (20 : Int32) := by decide +kernel
theorem bc_24 : (Int8.ofInt (24)).toInt32 = (24 : Int32) := by decide +kernel
theorem bc_30 : (Int8.ofInt (30)).toInt32 = (30 : Int32) := by decide +kernel
theorem bc_32 : (Int8.ofInt (32)).toInt32 = (32 : Int32) := by decide +kernel
theorem bc_33 : (Int8.ofInt (33)).toInt32 = (33 : Int32) := by decide +kernel
theorem bc_38 : (Int8.ofInt (38)).toInt32 = (38 : Int32) := by decide +kernel
theorem bc_40 : (Int8.ofInt (40)).toInt32 = (40 : Int32) := by decide +kernel
theorem bc_41 : (Int8.ofInt (41)).toInt32 = (41 : Int32) := by decide +kernel
theorem bc_48 : (Int8.ofInt (48)).toInt32 = (48 : Int32) := by decide +kernel
theorem bc_50 : (Int8.ofInt (50)).toInt32 = (50 : Int32) := by decide +kernel
theorem bc_51 : (Int8.ofInt (51)).toInt32 = (51 : Int32) := by decide +kernel
theorem bc_57 : (Int8.ofInt (57)).toInt32 = (57 : Int32) := by decide +kernel
theorem bc_59 : (Int8.ofInt (59)).toInt32 = (59 : Int32) := by decide +kernel
theorem bc_6 : (Int8.ofInt (6)).toInt32 = (6 : Int32) := by decide +kernel
theorem bc_60 : (Int8.ofInt (60)).toInt32 = (60 : Int32) := by decide +kernel
theorem bc_61 : (Int8.ofInt (61)).toInt32 = (61 : Int32) := by decide +kernel
theorem bc_62 : (Int8.ofInt (62)).toInt32 = (62 : Int32) := by decide +kernel
theorem bc_7 : (Int8.ofInt (7)).toInt32 = (7 : Int32) := by decide +kernel
theorem bc_70 : (Int8.ofInt (70)).toInt32 = (70 : Int32) := by decide +kernel
theorem bc_71 : (Int8.ofInt (71)).toInt32 = (71 : Int32) := by decide +kernel
theorem bc_8 : (Int8.ofInt (8)).toInt32 = (8 : Int32) := by decide +kernel
theorem bc_9 : (Int8.ofInt (9)).toInt32 = (9 : Int32) := by decide +kernel
theorem bc_99 : (Int8.ofInt (99)).toInt32 = (99 : Int32) := by decide +kernel
theorem ic_m1 : Int32.ofInt (-1) = (-1 : Int32) := by decide +kernel
theorem ic_0 : Int32.ofInt (0) = (0 : Int32) := by decide +kernel
theorem ic_1 : Int32.ofInt (1) = (1 : Int32) := by decide +kernel
theorem ic_2 : Int32.ofInt (2) = (2 : Int32) := by decide +kernel
theorem ic_3 : Int32.ofInt (3) = (3 : Int32) := by decide +kernel
theorem ic_4 : Int32.ofInt (4) = (4 : Int32) := by decide +kernel
theorem ic_5 : Int32.ofInt (5) = (5 : Int32) := by decide +kernel
theorem lc_0 : Int64.ofNat ((0 : Fin 2) : Nat) = (0 : Int64) := by decide +kernel
theorem lc_1 : Int64.ofNat ((1 : Fin 2) : Nat) = (1 : Int64) := by decide +kernel
theorem nc_24 : Int32.ofNat 24 = (24 : Int32) := by decide +kernel
theorem nc_606 : Int32.ofNat 606 = (606 : Int32) := by decide +kernel
theorem sc_1000 : (Int16.ofInt (1000)).toInt32 = (1000 : Int32) := by decide +kernel
theorem sc_300 : (Int16.ofInt (300)).toInt32 = (300 : Int32) := by decide +kernel
theorem sc_799 : (Int16.ofInt (799)).toInt32 = (799 : Int32) := by decide +kernel
theorem sc_800 : (Int16.ofInt (800)).toInt32 = (800 : Int32) := by decide +kernel
theorem sc_999 : (Int16.ofInt (999)).toInt32 = (999 : Int32) := by decide +kernel
theorem sc_9999 : (Int16.ofInt (9999)).toInt32 = (9999 : Int32) := by decide +kernel
theorem wk_X1_73 : Cond.constant RX1 73 (2147483647 : Int32) ∈ TG := inTG 811 (by decide +kernel) rfl
theorem wk_X10_360 : Cond.constantLong RX10 360 (-9223372036854775808 : Int64) ∈ TG := inTG 1463 (by decide +kernel) rfl
theorem wk_X9_211 : Cond.constantLong RX9 211 (-9223372036854775808 : Int64) ∈ TG := inTG 862 (by decide +kernel) rfl
