theorem bc_63 : (Int8.ofInt (63)).toInt32 = (63 : Int32) := by decide +kernel
theorem ic_6 : Int32.ofInt (6) = (6 : Int32) := by decide +kernel
theorem wk_L_148 : Cond.constantLong RL 148 (4294967295 : Int64) ∈ TG := inTG 1576 (by decide +kernel) rfl
/-- the script in the law's walk -/
def LX : Cx → Ev → Nat → Nat → (Nat → Int32) → Prop
  | (p, l, e, R, s, m, args, below, meth, c, Q), V, b0, L, xs => va_X b0 L xs s s.heap ∧ b0 < s.heap.size ∧ ¬ V.2.2.1 ≤ b0
section LawRows
variable {E : Cx} {V : Ev} {l : Launch} {cc : ByteArray} {own : String} {nL kR rc rs nc ns N : Nat} {ret : Option FieldType} {G : Nat → va_E} {pc : Nat} {lv : List (Nat × Value)} {st : List Value}
theorem q_aload_nR (hE : CX E V l cc own nL kR rc rs ret) (j : Nat) {i : Fin 4} {i0 x : Nat} (hd : decode cc pc = .ok (.aload_n i, 1)) (hi : (i : Nat) = i0) (hl : lv[j]? = some (i0, .ref x)) (kk : PW E V nc ns N G (pc + 1) lv (.ref x :: st)) : PW E V nc ns N G pc lv st := by
  obtain ⟨p, l0, e, R, s, m, args, below, meth, c, Q⟩ := E
  intro H locs ls h1 h2 h3 h4
  exact lv_aload_n hE.1 hE.2.1 hd hi (lv_at h4 j hl) (kk H locs ls h1 h2 h3 h4)
theorem q_sld (hE : CX E V l cc own nL kR rc rs ret) {b0 L : Nat} {xs : Nat → Int32} (hX : LX E V b0 L xs) {i : Int32} {B : Type} {A1 : Option B} {r : B} (hd : decode cc pc = .ok (.iaload, 1)) (hm : (if inb i L = true then A1 else none) = some r) (kk : A1 = some r → PW E V nc ns N G (pc + 1) lv (.int (xs (ix i)) :: st)) : PW E V nc ns N G pc lv (.int i :: .ref b0 :: st) := by
  obtain ⟨p, l0, e, R, s, m, args, below, meth, c, Q⟩ := E
  intro H locs ls h1 h2 h3 h4
  obtain ⟨hi, hm⟩ := g_if hm
  exact va_sld hE.1 hE.2.1 hX.1 hX.2.1 hX.2.2 h3 (inb_in hi) hd (kk hm H locs ls h1 h2 h3 h4)
theorem q_slen0 (hE : CX E V l cc own nL kR rc rs ret) {b0 L : Nat} {xs : Nat → Int32} (hX : LX E V b0 L xs) (hd : decode cc pc = .ok (.arraylength, 1)) (kk : PW E V nc ns N G (pc + 1) lv (.int (Int32.ofNat L) :: st)) : PW E V nc ns N G pc lv (.ref b0 :: st) := by
  obtain ⟨p, l0, e, R, s, m, args, below, meth, c, Q⟩ := E
  intro H locs ls h1 h2 h3 h4
  exact va_slen hE.1 hE.2.1 hX.1 hX.2.1 hX.2.2 h3 hd (kk H locs ls h1 h2 h3 h4)
end LawRows
def fc_law_0 (F : Nat) (xs : Nat → Int32) (L : Nat) (K : Int32 → PH → PH → Option Int32) (x3 : Int32) (h o : PH) : Option Int32 := (if inb (x3 + (1 : Int32)) L = true then (if inb (x3 + (2 : Int32)) L = true then (if inb (x3 + (3 : Int32)) L = true then (bnd (f_X9_clock F (xs (ix (x3 + (1 : Int32)))) (xs (ix (x3 + (2 : Int32)))) (xs (ix (x3 + (3 : Int32)))) h) fun v2 h2 => (if inb (x3 + (1 : Int32)) L = true then (if inb (x3 + (2 : Int32)) L = true then (if inb (x3 + (3 : Int32)) L = true then (bnd (f_X10_clock F (xs (ix (x3 + (1 : Int32)))) (xs (ix (x3 + (2 : Int32)))) (xs (ix (x3 + (3 : Int32)))) o) fun v3 h3 => (if v2 = v3 then (K (x3 + (6 : Int32)) h2 h3) else (some 0))) else none) else none) else none)) else none) else none) else none)
def fc_law_1 (F : Nat) (xs : Nat → Int32) (L : Nat) (K : Int32 → PH → PH → Option Int32) (x3 : Int32) (h o : PH) : Option Int32 := (if inb (x3 + (1 : Int32)) L = true then (if inb (x3 + (2 : Int32)) L = true then (bnd (f_X9_of F (xs (ix (x3 + (1 : Int32)))) (xs (ix (x3 + (2 : Int32)))) h) fun v5 h5 => (if inb (x3 + (1 : Int32)) L = true then (if inb (x3 + (2 : Int32)) L = true then (bnd (f_X10_of F (xs (ix (x3 + (1 : Int32)))) (xs (ix (x3 + (2 : Int32)))) o) fun v6 h6 => (if v5 = v6 then (K (x3 + (6 : Int32)) h5 h6) else (some 0))) else none) else none)) else none) else none)
def fc_law_2 (F : Nat) (xs : Nat → Int32) (L : Nat) (K : Int32 → PH → PH → Option Int32) (x3 : Int32) (h o : PH) : Option Int32 := (if inb (x3 + (1 : Int32)) L = true then (if inb (x3 + (2 : Int32)) L = true then (bnd (f_X9_news F (xs (ix (x3 + (1 : Int32)))) (xs (ix (x3 + (2 : Int32)))) h) fun v8 h8 => (if inb (x3 + (1 : Int32)) L = true then (if inb (x3 + (2 : Int32)) L = true then (bnd (f_X10_news F (xs (ix (x3 + (1 : Int32)))) (xs (ix (x3 + (2 : Int32)))) o) fun v9 h9 => (if v8 = v9 then (K (x3 + (6 : Int32)) h8 h9) else (some 0))) else none) else none)) else none) else none)
def fc_law_3 (F : Nat) (xs : Nat → Int32) (L : Nat) (K : Int32 → PH → PH → Option Int32) (x3 : Int32) (h o : PH) : Option Int32 := (if inb (x3 + (1 : Int32)) L = true then (if inb (x3 + (2 : Int32)) L = true then (bnd (f_X9_set F (xs (ix (x3 + (1 : Int32)))) (xs (ix (x3 + (2 : Int32)))) h) fun v11 h11 => (if inb (x3 + (1 : Int32)) L = true then (if inb (x3 + (2 : Int32)) L = true then (bnd (f_X10_set F (xs (ix (x3 + (1 : Int32)))) (xs (ix (x3 + (2 : Int32)))) o) fun v12 h12 => (if v11 = v12 then (K (x3 + (6 : Int32)) h11 h12) else (some 0))) else none) else none)) else none) else none)
def fc_law_4 (F : Nat) (xs : Nat → Int32) (L : Nat) (K : Int32 → PH → PH → Option Int32) (x3 : Int32) (h o : PH) : Option Int32 := (if inb (x3 + (1 : Int32)) L = true then (if inb (x3 + (2 : Int32)) L = true then (if (xs (ix (x3 + (2 : Int32)))) = 0 then (bnd (f_X9_balk F (xs (ix (x3 + (1 : Int32)))) (0 : Int32) h) fun v14 h14 => (if inb (x3 + (1 : Int32)) L = true then (if inb (x3 + (2 : Int32)) L = true then (if (xs (ix (x3 + (2 : Int32)))) = 0 then (bnd (f_X10_balk F (xs (ix (x3 + (1 : Int32)))) (0 : Int32) o) fun v15 h15 => (if v14 = v15 then (K (x3 + (6 : Int32)) h14 h15) else (some 0))) else (bnd (f_X10_balk F (xs (ix (x3 + (1 : Int32)))) (1 : Int32) o) fun v16 h16 => (if v14 = v16 then (K (x3 + (6 : Int32)) h14 h16) else (some 0)))) else none) else none)) else (bnd (f_X9_balk F (xs (ix (x3 + (1 : Int32)))) (1 : Int32) h) fun v17 h17 => (if inb (x3 + (1 : Int32)) L = true then (if inb (x3 + (2 : Int32)) L = true then (if (xs (ix (x3 + (2 : Int32)))) = 0 then (bnd (f_X10_balk F (xs (ix (x3 + (1 : Int32)))) (0 : Int32) o) fun v18 h18 => (if v17 = v18 then (K (x3 + (6 : Int32)) h17 h18) else (some 0))) else (bnd (f_X10_balk F (xs (ix (x3 + (1 : Int32)))) (1 : Int32) o) fun v19 h19 => (if v17 = v19 then (K (x3 + (6 : Int32)) h17 h19) else (some 0)))) else none) else none))) else none) else none)
def fc_law_5 (F : Nat) (xs : Nat → Int32) (L : Nat) (K : Int32 → PH → PH → Option Int32) (x3 : Int32) (h o : PH) : Option Int32 := (if inb (x3 + (1 : Int32)) L = true then (if inb (x3 + (2 : Int32)) L = true then (if inb (x3 + (3 : Int32)) L = true then (bnd (f_X9_row F (xs (ix (x3 + (1 : Int32)))) (xs (ix (x3 + (2 : Int32)))) (xs (ix (x3 + (3 : Int32)))) h) fun v21 h21 => (if inb (x3 + (1 : Int32)) L = true then (if inb (x3 + (2 : Int32)) L = true then (if inb (x3 + (3 : Int32)) L = true then (bnd (f_X10_row F (xs (ix (x3 + (1 : Int32)))) (xs (ix (x3 + (2 : Int32)))) (xs (ix (x3 + (3 : Int32)))) o) fun v22 h22 => (if v21 = v22 then (K (x3 + (6 : Int32)) h21 h22) else (some 0))) else none) else none) else none)) else none) else none) else none)
def fc_law_6 (F : Nat) (xs : Nat → Int32) (L : Nat) (K : Int32 → PH → PH → Option Int32) (x3 : Int32) (h o : PH) : Option Int32 := (if inb (x3 + (1 : Int32)) L = true then (bnd (f_X9_feed F (xs (ix (x3 + (1 : Int32)))) h) fun v24 h24 => (if inb (x3 + (1 : Int32)) L = true then (bnd (f_X10_feed F (xs (ix (x3 + (1 : Int32)))) o) fun v25 h25 => (if v24 = v25 then (K (x3 + (6 : Int32)) h24 h25) else (some 0))) else none)) else none)
def fc_law_7 (F : Nat) (xs : Nat → Int32) (L : Nat) (K : Int32 → PH → PH → Option Int32) (x3 : Int32) (h o : PH) : Option Int32 := (bnd (f_X9_bench F  h) fun v27 h27 => (bnd (f_X10_bench F  o) fun v28 h28 => (if v27 = v28 then (K (x3 + (6 : Int32)) h27 h28) else (some 0))))
def fc_law_8 (F : Nat) (xs : Nat → Int32) (L : Nat) (K : Int32 → PH → PH → Option Int32) (x3 : Int32) (h o : PH) : Option Int32 := (if inb (x3 + (1 : Int32)) L = true then (bnd (f_X9_told F (xs (ix (x3 + (1 : Int32)))) h) fun v30 h30 => (if inb (x3 + (1 : Int32)) L = true then (bnd (f_X10_told F (xs (ix (x3 + (1 : Int32)))) o) fun v31 h31 => (if v30 = v31 then (K (x3 + (6 : Int32)) h30 h31) else (some 0))) else none)) else none)
def fc_law_9 (F : Nat) (xs : Nat → Int32) (L : Nat) (K : Int32 → PH → PH → Option Int32) (x3 : Int32) (h o : PH) : Option Int32 := (if inb (x3 + (1 : Int32)) L = true then (bnd (f_X9_tell F (xs (ix (x3 + (1 : Int32)))) h) fun v33 h33 => (if inb (x3 + (1 : Int32)) L = true then (bnd (f_X10_tell F (xs (ix (x3 + (1 : Int32)))) o) fun v34 h34 => (if v33 = v34 then (K (x3 + (6 : Int32)) h33 h34) else (some 0))) else none)) else none)
def fc_law_10 (F : Nat) (xs : Nat → Int32) (L : Nat) (K : Int32 → PH → PH → Option Int32) (x3 : Int32) (h o : PH) : Option Int32 := (if inb (x3 + (1 : Int32)) L = true then (bnd (f_X9_pass F (xs (ix (x3 + (1 : Int32)))) h) fun v36 h36 => (if inb (x3 + (1 : Int32)) L = true then (bnd (f_X10_pass F (xs (ix (x3 + (1 : Int32)))) o) fun v37 h37 => (if v36 = v37 then (K (x3 + (6 : Int32)) h36 h37) else (some 0))) else none)) else none)
def fc_law_11 (F : Nat) (xs : Nat → Int32) (L : Nat) (K : Int32 → PH → PH → Option Int32) (x3 : Int32) (h o : PH) : Option Int32 := (if inb (x3 + (1 : Int32)) L = true then (if inb (x3 + (2 : Int32)) L = true then (if inb (x3 + (3 : Int32)) L = true then (bnd (f_X9_on F (xs (ix (x3 + (1 : Int32)))) (xs (ix (x3 + (2 : Int32)))) (xs (ix (x3 + (3 : Int32)))) h) fun v39 h39 => (if inb (x3 + (1 : Int32)) L = true then (if inb (x3 + (2 : Int32)) L = true then (if inb (x3 + (3 : Int32)) L = true then (bnd (f_X10_on F (xs (ix (x3 + (1 : Int32)))) (xs (ix (x3 + (2 : Int32)))) (xs (ix (x3 + (3 : Int32)))) o) fun v40 h40 => (if v39 = v40 then (K (x3 + (6 : Int32)) h39 h40) else (some 0))) else none) else none) else none)) else none) else none) else none)
def fc_law_12 (F : Nat) (xs : Nat → Int32) (L : Nat) (K : Int32 → PH → PH → Option Int32) (x3 : Int32) (h o : PH) : Option Int32 := (if inb (x3 + (1 : Int32)) L = true then (bnd (f_X9_soonest F (xs (ix (x3 + (1 : Int32)))) h) fun v42 h42 => (if inb (x3 + (1 : Int32)) L = true then (bnd (f_X10_soonest F (xs (ix (x3 + (1 : Int32)))) o) fun v43 h43 => (if v42 = v43 then (K (x3 + (6 : Int32)) h42 h43) else (some 0))) else none)) else none)
def fc_law_13 (F : Nat) (xs : Nat → Int32) (L : Nat) (K : Int32 → PH → PH → Option Int32) (x3 : Int32) (h o : PH) : Option Int32 := (if inb (x3 + (1 : Int32)) L = true then (if inb (x3 + (2 : Int32)) L = true then (bnd (f_X9_most F (xs (ix (x3 + (1 : Int32)))) (xs (ix (x3 + (2 : Int32)))) h) fun v45 h45 => (if inb (x3 + (1 : Int32)) L = true then (if inb (x3 + (2 : Int32)) L = true then (bnd (f_X10_most F (xs (ix (x3 + (1 : Int32)))) (xs (ix (x3 + (2 : Int32)))) o) fun v46 h46 => (if v45 = v46 then (K (x3 + (6 : Int32)) h45 h46) else (some 0))) else none) else none)) else none) else none)
def fc_law_14 (F : Nat) (xs : Nat → Int32) (L : Nat) (K : Int32 → PH → PH → Option Int32) (x3 : Int32) (h o : PH) : Option Int32 := (bnd (f_X9_next F  h) fun v48 h48 => (bnd (f_X10_next F  o) fun v49 h49 => (if v48 = v49 then (K (x3 + (6 : Int32)) h48 h49) else (some 0))))
def fc_law_15 (F : Nat) (xs : Nat → Int32) (L : Nat) (K : Int32 → PH → PH → Option Int32) (x3 : Int32) (h o : PH) : Option Int32 := (if inb (x3 + (1 : Int32)) L = true then (if inb (x3 + (2 : Int32)) L = true then (if inb (x3 + (3 : Int32)) L = true then (bnd (f_X9_see F (xs (ix (x3 + (1 : Int32)))) (xs (ix (x3 + (2 : Int32)))) (xs (ix (x3 + (3 : Int32)))) h) fun v51 h51 => (if inb (x3 + (1 : Int32)) L = true then (if inb (x3 + (2 : Int32)) L = true then (if inb (x3 + (3 : Int32)) L = true then (bnd (f_X10_see F (xs (ix (x3 + (1 : Int32)))) (xs (ix (x3 + (2 : Int32)))) (xs (ix (x3 + (3 : Int32)))) o) fun v52 h52 => (if v51 = v52 then (K (x3 + (6 : Int32)) h51 h52) else (some 0))) else none) else none) else none)) else none) else none) else none)
def fc_law_16 (F : Nat) (xs : Nat → Int32) (L : Nat) (K : Int32 → PH → PH → Option Int32) (x3 : Int32) (h o : PH) : Option Int32 := (if inb (x3 + (1 : Int32)) L = true then (if inb (x3 + (2 : Int32)) L = true then (bnd (f_X9_since F (xs (ix (x3 + (1 : Int32)))) (xs (ix (x3 + (2 : Int32)))) h) fun v54 h54 => (if inb (x3 + (1 : Int32)) L = true then (if inb (x3 + (2 : Int32)) L = true then (bnd (f_X10_since F (xs (ix (x3 + (1 : Int32)))) (xs (ix (x3 + (2 : Int32)))) o) fun v55 h55 => (if v54 = v55 then (K (x3 + (6 : Int32)) h54 h55) else (some 0))) else none) else none)) else none) else none)
def fc_law_17 (F : Nat) (xs : Nat → Int32) (L : Nat) (K : Int32 → PH → PH → Option Int32) (x3 : Int32) (h o : PH) : Option Int32 := (if inb (x3 + (1 : Int32)) L = true then (if inb (x3 + (2 : Int32)) L = true then (bnd (f_X9_can F (xs (ix (x3 + (1 : Int32)))) (xs (ix (x3 + (2 : Int32)))) h) fun v57 h57 => (if inb (x3 + (1 : Int32)) L = true then (if inb (x3 + (2 : Int32)) L = true then (bnd (f_X10_can F (xs (ix (x3 + (1 : Int32)))) (xs (ix (x3 + (2 : Int32)))) o) fun v58 h58 => (if v57 = v58 then (K (x3 + (6 : Int32)) h57 h58) else (some 0))) else none) else none)) else none) else none)
def fc_law_18 (F : Nat) (xs : Nat → Int32) (L : Nat) (K : Int32 → PH → PH → Option Int32) (x3 : Int32) (h o : PH) : Option Int32 := (if inb (x3 + (1 : Int32)) L = true then (if inb (x3 + (2 : Int32)) L = true then (bnd (f_X9_odds F (xs (ix (x3 + (1 : Int32)))) (xs (ix (x3 + (2 : Int32)))) h) fun v60 h60 => (if inb (x3 + (1 : Int32)) L = true then (if inb (x3 + (2 : Int32)) L = true then (bnd (f_X10_odds F (xs (ix (x3 + (1 : Int32)))) (xs (ix (x3 + (2 : Int32)))) o) fun v61 h61 => (if (lg_cmp v60 v61) = 0 then (K (x3 + (6 : Int32)) h60 h61) else (some 0))) else none) else none)) else none) else none)
def fc_law_19 (F : Nat) (xs : Nat → Int32) (L : Nat) (K : Int32 → PH → PH → Option Int32) (x3 : Int32) (h o : PH) : Option Int32 := (if inb (x3 + (1 : Int32)) L = true then (bnd (f_X9_mean F (xs (ix (x3 + (1 : Int32)))) h) fun v63 h63 => (if inb (x3 + (1 : Int32)) L = true then (bnd (f_X10_mean F (xs (ix (x3 + (1 : Int32)))) o) fun v64 h64 => (if (lg_cmp v63 v64) = 0 then (K (x3 + (6 : Int32)) h63 h64) else (some 0))) else none)) else none)
def fc_law_20 (F : Nat) (xs : Nat → Int32) (L : Nat) (K : Int32 → PH → PH → Option Int32) (x3 : Int32) (h o : PH) : Option Int32 := (if inb (x3 + (1 : Int32)) L = true then (bnd (f_X9_month F (xs (ix (x3 + (1 : Int32)))) h) fun v66 h66 => (if inb (x3 + (1 : Int32)) L = true then (bnd (f_X10_month F (xs (ix (x3 + (1 : Int32)))) o) fun v67 h67 => (if v66 = v67 then (K (x3 + (6 : Int32)) h66 h67) else (some 0))) else none)) else none)
def fc_law_21 (F : Nat) (xs : Nat → Int32) (L : Nat) (K : Int32 → PH → PH → Option Int32) (x3 : Int32) (h o : PH) : Option Int32 := (if inb (x3 + (1 : Int32)) L = true then (bnd (f_X9_ends F (xs (ix (x3 + (1 : Int32)))) h) fun v69 h69 => (if inb (x3 + (1 : Int32)) L = true then (bnd (f_X10_ends F (xs (ix (x3 + (1 : Int32)))) o) fun v70 h70 => (if v69 = v70 then (K (x3 + (6 : Int32)) h69 h70) else (some 0))) else none)) else none)
def fc_law_22 (F : Nat) (xs : Nat → Int32) (L : Nat) (K : Int32 → PH → PH → Option Int32) (x3 : Int32) (h o : PH) : Option Int32 := (if inb (x3 + (1 : Int32)) L = true then (if inb (x3 + (2 : Int32)) L = true then (bnd (f_X9_book F (xs (ix (x3 + (1 : Int32)))) (xs (ix (x3 + (2 : Int32)))) h) fun v72 h72 => (if inb (x3 + (1 : Int32)) L = true then (if inb (x3 + (2 : Int32)) L = true then (bnd (f_X10_book F (xs (ix (x3 + (1 : Int32)))) (xs (ix (x3 + (2 : Int32)))) o) fun v73 h73 => (if v72 = v73 then (K (x3 + (6 : Int32)) h72 h73) else (some 0))) else none) else none)) else none) else none)
def fc_law_23 (F : Nat) (xs : Nat → Int32) (L : Nat) (K : Int32 → PH → PH → Option Int32) (x3 : Int32) (h o : PH) : Option Int32 := (bnd (f_X9_looked F  h) fun v75 h75 => (bnd (f_X10_looked F  o) fun v76 h76 => (if v75 = v76 then (K (x3 + (6 : Int32)) h75 h76) else (some 0))))
def fc_law_24 (F : Nat) (xs : Nat → Int32) (L : Nat) (K : Int32 → PH → PH → Option Int32) (x3 : Int32) (h o : PH) : Option Int32 := (if inb (x3 + (1 : Int32)) L = true then (if inb (x3 + (2 : Int32)) L = true then (bnd (f_X9_judge F (xs (ix (x3 + (1 : Int32)))) (xs (ix (x3 + (2 : Int32)))) h) fun v78 h78 => (if inb (x3 + (1 : Int32)) L = true then (if inb (x3 + (2 : Int32)) L = true then (bnd (f_X10_judge F (xs (ix (x3 + (1 : Int32)))) (xs (ix (x3 + (2 : Int32)))) o) fun v79 h79 => (if v78 = v79 then (K (x3 + (6 : Int32)) h78 h79) else (some 0))) else none) else none)) else none) else none)
def fc_law_25 (F : Nat) (xs : Nat → Int32) (L : Nat) (K : Int32 → PH → PH → Option Int32) (x3 : Int32) (h o : PH) : Option Int32 := (bnd (f_X9_image F  h) fun v81 h81 => (bnd (f_X10_image F  o) fun v82 h82 => (if v81 = v82 then (K (x3 + (6 : Int32)) h81 h82) else (some 0))))
def fc_law_26 (F : Nat) (xs : Nat → Int32) (L : Nat) (K : Int32 → PH → PH → Option Int32) (x3 : Int32) (h o : PH) : Option Int32 := (bnd (f_X9_undo F  h) fun v84 h84 => (bnd (f_X10_undo F  o) fun v85 h85 => (if v84 = v85 then (K (x3 + (6 : Int32)) h84 h85) else (some 0))))
def fc_law_27 (F : Nat) (xs : Nat → Int32) (L : Nat) (K : Int32 → PH → PH → Option Int32) (x3 : Int32) (h o : PH) : Option Int32 := (if inb (x3 + (1 : Int32)) L = true then (if inb (x3 + (2 : Int32)) L = true then (if inb (x3 + (3 : Int32)) L = true then (bnd (f_X9_act F (xs (ix (x3 + (1 : Int32)))) (xs (ix (x3 + (2 : Int32)))) (xs (ix (x3 + (3 : Int32)))) h) fun v87 h87 => (if inb (x3 + (1 : Int32)) L = true then (if inb (x3 + (2 : Int32)) L = true then (if inb (x3 + (3 : Int32)) L = true then (bnd (f_X10_act F (xs (ix (x3 + (1 : Int32)))) (xs (ix (x3 + (2 : Int32)))) (xs (ix (x3 + (3 : Int32)))) o) fun v88 h88 => (if v87 = v88 then (K (x3 + (6 : Int32)) h87 h88) else (some 0))) else none) else none) else none)) else none) else none) else none)
def fc_law_28 (F : Nat) (xs : Nat → Int32) (L : Nat) (K : Int32 → PH → PH → Option Int32) (x3 : Int32) (h o : PH) : Option Int32 := (if inb (x3 + (1 : Int32)) L = true then (bnd (f_X9_trace F (xs (ix (x3 + (1 : Int32)))) h) fun v90 h90 => (if inb (x3 + (1 : Int32)) L = true then (bnd (f_X10_trace F (xs (ix (x3 + (1 : Int32)))) o) fun v91 h91 => (if v90 = v91 then (K (x3 + (6 : Int32)) h90 h91) else (some 0))) else none)) else none)
def fc_law_29 (F : Nat) (xs : Nat → Int32) (L : Nat) (K : Int32 → PH → PH → Option Int32) (x3 : Int32) (h o : PH) : Option Int32 := (if inb (x3 + (1 : Int32)) L = true then (if inb (x3 + (2 : Int32)) L = true then (bnd (f_X9_taken F (xs (ix (x3 + (1 : Int32)))) (xs (ix (x3 + (2 : Int32)))) h) fun v93 h93 => (if inb (x3 + (1 : Int32)) L = true then (if inb (x3 + (2 : Int32)) L = true then (bnd (f_X10_taken F (xs (ix (x3 + (1 : Int32)))) (xs (ix (x3 + (2 : Int32)))) o) fun v94 h94 => (if v93 = v94 then (K (x3 + (6 : Int32)) h93 h94) else (some 0))) else none) else none)) else none) else none)
def fc_law_30 (F : Nat) (xs : Nat → Int32) (L : Nat) (K : Int32 → PH → PH → Option Int32) (x3 : Int32) (h o : PH) : Option Int32 := (if inb (x3 + (1 : Int32)) L = true then (bnd (f_X9_count F (xs (ix (x3 + (1 : Int32)))) h) fun v96 h96 => (if inb (x3 + (1 : Int32)) L = true then (bnd (f_X10_count F (xs (ix (x3 + (1 : Int32)))) o) fun v97 h97 => (if v96 = v97 then (K (x3 + (6 : Int32)) h96 h97) else (some 0))) else none)) else none)
def fc_law_31 (F : Nat) (xs : Nat → Int32) (L : Nat) (K : Int32 → PH → PH → Option Int32) (x3 : Int32) (h o : PH) : Option Int32 := (if inb (x3 + (1 : Int32)) L = true then (if inb (x3 + (2 : Int32)) L = true then (if inb (x3 + (3 : Int32)) L = true then (bnd (f_X9_tape F (xs (ix (x3 + (1 : Int32)))) (xs (ix (x3 + (2 : Int32)))) (xs (ix (x3 + (3 : Int32)))) h) fun v99 h99 => (if inb (x3 + (1 : Int32)) L = true then (if inb (x3 + (2 : Int32)) L = true then (if inb (x3 + (3 : Int32)) L = true then (bnd (f_X10_tape F (xs (ix (x3 + (1 : Int32)))) (xs (ix (x3 + (2 : Int32)))) (xs (ix (x3 + (3 : Int32)))) o) fun v100 h100 => (if v99 = v100 then (K (x3 + (6 : Int32)) h99 h100) else (some 0))) else none) else none) else none)) else none) else none) else none)
def fc_law_32 (F : Nat) (xs : Nat → Int32) (L : Nat) (K : Int32 → PH → PH → Option Int32) (x3 : Int32) (h o : PH) : Option Int32 := (if inb (x3 + (1 : Int32)) L = true then (if inb (x3 + (2 : Int32)) L = true then (if inb (x3 + (3 : Int32)) L = true then (if inb (x3 + (4 : Int32)) L = true then (bnd (f_X9_item F (xs (ix (x3 + (1 : Int32)))) (xs (ix (x3 + (2 : Int32)))) ((((xs (ix (x3 + (3 : Int32)))).toInt64) <<< ((32 : Int32).toInt64 &&& 63)) ||| (((xs (ix (x3 + (4 : Int32)))).toInt64) &&& (4294967295 : Int64))) h) fun v102 h102 => (if inb (x3 + (1 : Int32)) L = true then (if inb (x3 + (2 : Int32)) L = true then (if inb (x3 + (3 : Int32)) L = true then (if inb (x3 + (4 : Int32)) L = true then (bnd (f_X10_item F (xs (ix (x3 + (1 : Int32)))) (xs (ix (x3 + (2 : Int32)))) ((((xs (ix (x3 + (3 : Int32)))).toInt64) <<< ((32 : Int32).toInt64 &&& 63)) ||| (((xs (ix (x3 + (4 : Int32)))).toInt64) &&& (4294967295 : Int64))) o) fun v103 h103 => (if v102 = v103 then (K (x3 + (6 : Int32)) h102 h103) else (some 0))) else none) else none) else none) else none)) else none) else none) else none) else none)
def fc_law_33 (F : Nat) (xs : Nat → Int32) (L : Nat) (K : Int32 → PH → PH → Option Int32) (x3 : Int32) (h o : PH) : Option Int32 := (if inb (x3 + (1 : Int32)) L = true then (if inb (x3 + (2 : Int32)) L = true then (bnd (f_X9_read F (xs (ix (x3 + (1 : Int32)))) (xs (ix (x3 + (2 : Int32)))) h) fun v105 h105 => (if inb (x3 + (1 : Int32)) L = true then (if inb (x3 + (2 : Int32)) L = true then (bnd (f_X10_read F (xs (ix (x3 + (1 : Int32)))) (xs (ix (x3 + (2 : Int32)))) o) fun v106 h106 => (if (lg_cmp v105 v106) = 0 then (K (x3 + (6 : Int32)) h105 h106) else (some 0))) else none) else none)) else none) else none)
def fc_law_34 (F : Nat) (xs : Nat → Int32) (L : Nat) (K : Int32 → PH → PH → Option Int32) (x3 : Int32) (h o : PH) : Option Int32 := (if inb (x3 + (1 : Int32)) L = true then (if inb (x3 + (2 : Int32)) L = true then (if inb (x3 + (3 : Int32)) L = true then (if inb (x3 + (4 : Int32)) L = true then (if inb (x3 + (5 : Int32)) L = true then (bnd (f_X9_shift F (xs (ix (x3 + (1 : Int32)))) (xs (ix (x3 + (2 : Int32)))) (xs (ix (x3 + (3 : Int32)))) (xs (ix (x3 + (4 : Int32)))) (xs (ix (x3 + (5 : Int32)))) h) fun v108 h108 => (if inb (x3 + (1 : Int32)) L = true then (if inb (x3 + (2 : Int32)) L = true then (if inb (x3 + (3 : Int32)) L = true then (if inb (x3 + (4 : Int32)) L = true then (if inb (x3 + (5 : Int32)) L = true then (bnd (f_X10_shift F (xs (ix (x3 + (1 : Int32)))) (xs (ix (x3 + (2 : Int32)))) (xs (ix (x3 + (3 : Int32)))) (xs (ix (x3 + (4 : Int32)))) (xs (ix (x3 + (5 : Int32)))) o) fun v109 h109 => (if v108 = v109 then (K (x3 + (6 : Int32)) h108 h109) else (some 0))) else none) else none) else none) else none) else none)) else none) else none) else none) else none) else none)
def fL_law (F : Nat) (xs : Nat → Int32) (L : Nat) : Nat → Int32 → PH → PH → Option Int32
  | 0, _, _, _ => none
  | n + 1, x3, h, o => (if ((Int32.ofNat L) - (6 : Int32)) < x3 then (some 1) else (if inb x3 L = true then (if ((xs (ix x3)) &&& (63 : Int32)) = (0 : Int32) then (fc_law_0 F xs L (fL_law F xs L n) x3 h o) else (if ((xs (ix x3)) &&& (63 : Int32)) = (1 : Int32) then (fc_law_1 F xs L (fL_law F xs L n) x3 h o) else (if ((xs (ix x3)) &&& (63 : Int32)) = (2 : Int32) then (fc_law_2 F xs L (fL_law F xs L n) x3 h o) else (if ((xs (ix x3)) &&& (63 : Int32)) = (3 : Int32) then (fc_law_3 F xs L (fL_law F xs L n) x3 h o) else (if ((xs (ix x3)) &&& (63 : Int32)) = (4 : Int32) then (fc_law_4 F xs L (fL_law F xs L n) x3 h o) else (if ((xs (ix x3)) &&& (63 : Int32)) = (5 : Int32) then (fc_law_5 F xs L (fL_law F xs L n) x3 h o) else (if ((xs (ix x3)) &&& (63 : Int32)) = (6 : Int32) then (fc_law_6 F xs L (fL_law F xs L n) x3 h o) else (if ((xs (ix x3)) &&& (63 : Int32)) = (7 : Int32) then (fc_law_7 F xs L (fL_law F xs L n) x3 h o) else (if ((xs (ix x3)) &&& (63 : Int32)) = (8 : Int32) then (fc_law_8 F xs L (fL_law F xs L n) x3 h o) else (if ((xs (ix x3)) &&& (63 : Int32)) = (9 : Int32) then (fc_law_9 F xs L (fL_law F xs L n) x3 h o) else (if ((xs (ix x3)) &&& (63 : Int32)) = (10 : Int32) then (fc_law_10 F xs L (fL_law F xs L n) x3 h o) else (if ((xs (ix x3)) &&& (63 : Int32)) = (11 : Int32) then (fc_law_11 F xs L (fL_law F xs L n) x3 h o) else (if ((xs (ix x3)) &&& (63 : Int32)) = (12 : Int32) then (fc_law_12 F xs L (fL_law F xs L n) x3 h o) else (if ((xs (ix x3)) &&& (63 : Int32)) = (13 : Int32) then (fc_law_13 F xs L (fL_law F xs L n) x3 h o) else (if ((xs (ix x3)) &&& (63 : Int32)) = (14 : Int32) then (fc_law_14 F xs L (fL_law F xs L n) x3 h o) else (if ((xs (ix x3)) &&& (63 : Int32)) = (15 : Int32) then (fc_law_15 F xs L (fL_law F xs L n) x3 h o) else (if ((xs (ix x3)) &&& (63 : Int32)) = (16 : Int32) then (fc_law_16 F xs L (fL_law F xs L n) x3 h o) else (if ((xs (ix x3)) &&& (63 : Int32)) = (17 : Int32) then (fc_law_17 F xs L (fL_law F xs L n) x3 h o) else (if ((xs (ix x3)) &&& (63 : Int32)) = (18 : Int32) then (fc_law_18 F xs L (fL_law F xs L n) x3 h o) else (if ((xs (ix x3)) &&& (63 : Int32)) = (19 : Int32) then (fc_law_19 F xs L (fL_law F xs L n) x3 h o) else (if ((xs (ix x3)) &&& (63 : Int32)) = (20 : Int32) then (fc_law_20 F xs L (fL_law F xs L n) x3 h o) else (if ((xs (ix x3)) &&& (63 : Int32)) = (21 : Int32) then (fc_law_21 F xs L (fL_law F xs L n) x3 h o) else (if ((xs (ix x3)) &&& (63 : Int32)) = (22 : Int32) then (fc_law_22 F xs L (fL_law F xs L n) x3 h o) else (if ((xs (ix x3)) &&& (63 : Int32)) = (23 : Int32) then (fc_law_23 F xs L (fL_law F xs L n) x3 h o) else (if ((xs (ix x3)) &&& (63 : Int32)) = (24 : Int32) then (fc_law_24 F xs L (fL_law F xs L n) x3 h o) else (if ((xs (ix x3)) &&& (63 : Int32)) = (25 : Int32) then (fc_law_25 F xs L (fL_law F xs L n) x3 h o) else (if ((xs (ix x3)) &&& (63 : Int32)) = (26 : Int32) then (fc_law_26 F xs L (fL_law F xs L n) x3 h o) else (if ((xs (ix x3)) &&& (63 : Int32)) = (27 : Int32) then (fc_law_27 F xs L (fL_law F xs L n) x3 h o) else (if ((xs (ix x3)) &&& (63 : Int32)) = (28 : Int32) then (fc_law_28 F xs L (fL_law F xs L n) x3 h o) else (if ((xs (ix x3)) &&& (63 : Int32)) = (29 : Int32) then (fc_law_29 F xs L (fL_law F xs L n) x3 h o) else (if ((xs (ix x3)) &&& (63 : Int32)) = (30 : Int32) then (fc_law_30 F xs L (fL_law F xs L n) x3 h o) else (if ((xs (ix x3)) &&& (63 : Int32)) = (31 : Int32) then (fc_law_31 F xs L (fL_law F xs L n) x3 h o) else (if ((xs (ix x3)) &&& (63 : Int32)) = (32 : Int32) then (fc_law_32 F xs L (fL_law F xs L n) x3 h o) else (if ((xs (ix x3)) &&& (63 : Int32)) = (33 : Int32) then (fc_law_33 F xs L (fL_law F xs L n) x3 h o) else (if ((xs (ix x3)) &&& (63 : Int32)) = (34 : Int32) then (fc_law_34 F xs L (fL_law F xs L n) x3 h o) else (fL_law F xs L n (x3 + (6 : Int32)) h o)))))))))))))))))))))))))))))))))))) else none))
set_option maxRecDepth 10000 in
theorem okc_law_0 {V : Ev} {l : Launch} {F : Nat} (hfx : V.2.2.2.2 = false) {E : Cx} {nc ns rc rs : Nat} (hE : CX E V l code RL 4 1000 rc rs (some .boolean)) (hnc : nc ≤ rc) (hns : ns ≤ rs) {b0 L : Nat} {xs : Nat → Int32} (hX : LX E V b0 L xs) (hQ : ∀ {pc : Nat} {lv : List (Nat × Value)} {hc hm : PH}, decode code pc = .ok (.ireturn, 1) → PW E V nc ns 143 (WG V hc hm) pc lv [.int 1]) {K : Int32 → PH → PH → Option Int32} (ih : ∀ (x3 : Int32) (h o : PH), K x3 h o = some 1 → PW E V nc ns 143 (WG V h o) 18 [(0, .ref b0), (1, rf V 0), (2, rf V 102), (3, .int x3)] []) {x3 : Int32} {h o : PH} (hm : fc_law_0 F xs L K x3 h o = some 1) : PW E V nc ns 143 (WG V h o) 188 [(0, .ref b0), (1, rf V 0), (2, rf V 102), (3, .int x3)] [] := by
  unfold fc_law_0 at hm
  refine q_aload_n hE 1 (dlL_law_0.at 22 rfl) rfl rfl ?_
  refine q_aload_nR hE 0 (dlL_law_0.at 23 rfl) rfl rfl ?_
  refine q_iload_n hE 3 (dlL_law_0.at 24 rfl) rfl rfl ?_
  refine q_iconst hE (dlL_law_0.at 25 rfl) ic_1 ?_
  refine q_iadd hE (dlL_law_0.at 26 rfl) ?_
  refine q_sld hE hX (dlL_law_0.at 27 rfl) hm (fun hm => ?_)
  refine q_aload_nR hE 0 (dlL_law_0.at 28 rfl) rfl rfl ?_
  refine q_iload_n hE 3 (dlL_law_0.at 29 rfl) rfl rfl ?_
  refine q_iconst hE (dlL_law_0.at 30 rfl) ic_2 ?_
  refine q_iadd hE (dlL_law_0.at 31 rfl) ?_
  refine q_sld hE hX (dlL_law_0.at 32 rfl) hm (fun hm => ?_)
  refine q_aload_nR hE 0 (dlL_law_0.at 33 rfl) rfl rfl ?_
  refine q_iload_n hE 3 (dlL_law_0.at 34 rfl) rfl rfl ?_
  refine q_iconst hE (dlL_law_0.at 35 rfl) ic_3 ?_
  refine q_iadd hE (dlL_law_0.at 36 rfl) ?_
  refine q_sld hE hX (dlL_law_0.at 37 rfl) hm (fun hm => ?_)
  refine q_callV_i (X := fun z => WG V z o) hE (As := [_, _, _]) (dlL_law_0.at 38 rfl) mw_X9_clock wm_L_13 rfl rfl rfl rfl hnc hns rfl kc9 g0 rfl (ok_X9_clock hfx) hm (fun v2 h2 hm => ?_)
  refine q_aload_n hE 2 (dlL_law_0.at 39 rfl) rfl rfl ?_
  refine q_aload_nR hE 0 (dlL_law_1.at 0 rfl) rfl rfl ?_
  refine q_iload_n hE 3 (dlL_law_1.at 1 rfl) rfl rfl ?_
  refine q_iconst hE (dlL_law_1.at 2 rfl) ic_1 ?_
  refine q_iadd hE (dlL_law_1.at 3 rfl) ?_
  refine q_sld hE hX (dlL_law_1.at 4 rfl) hm (fun hm => ?_)
  refine q_aload_nR hE 0 (dlL_law_1.at 5 rfl) rfl rfl ?_
  refine q_iload_n hE 3 (dlL_law_1.at 6 rfl) rfl rfl ?_
  refine q_iconst hE (dlL_law_1.at 7 rfl) ic_2 ?_
  refine q_iadd hE (dlL_law_1.at 8 rfl) ?_
  refine q_sld hE hX (dlL_law_1.at 9 rfl) hm (fun hm => ?_)
  refine q_aload_nR hE 0 (dlL_law_1.at 10 rfl) rfl rfl ?_
  refine q_iload_n hE 3 (dlL_law_1.at 11 rfl) rfl rfl ?_
  refine q_iconst hE (dlL_law_1.at 12 rfl) ic_3 ?_
  refine q_iadd hE (dlL_law_1.at 13 rfl) ?_
  refine q_sld hE hX (dlL_law_1.at 14 rfl) hm (fun hm => ?_)
  refine q_callV_i (X := fun z => WG V h2 z) hE (As := [_, _, _]) (dlL_law_1.at 15 rfl) mw_X10_clock wm_L_17 rfl rfl rfl rfl hnc hns rfl kc10 g102 rfl (ok_X10_clock hfx) hm (fun v3 h3 hm => ?_)
  refine q_icmp_eq hE (tgt := 1292) (dlL_law_1.at 16 rfl) (by decide) hm (fun _ hm => ?_) (fun _ hm => ?_)
  · refine q_iinc hE [(0, _), (1, _), (2, _), (3, _)] 3 (dlL_law_22.at 22 rfl) rfl ic_6 rfl rfl ?_
    refine q_goto hE (tgt := 18) (dlL_law_22.at 23 rfl) (by decide) ?_
    exact ih _ _ _ hm
  · refine q_iconst hE (dlL_law_1.at 17 rfl) ic_0 ?_
    exact absurd (Option.some.inj hm) (by decide)
set_option maxRecDepth 10000 in
theorem okc_law_1 {V : Ev} {l : Launch} {F : Nat} (hfx : V.2.2.2.2 = false) {E : Cx} {nc ns rc rs : Nat} (hE : CX E V l code RL 4 1000 rc rs (some .boolean)) (hnc : nc ≤ rc) (hns : ns ≤ rs) {b0 L : Nat} {xs : Nat → Int32} (hX : LX E V b0 L xs) (hQ : ∀ {pc : Nat} {lv : List (Nat × Value)} {hc hm : PH}, decode code pc = .ok (.ireturn, 1) → PW E V nc ns 143 (WG V hc hm) pc lv [.int 1]) {K : Int32 → PH → PH → Option Int32} (ih : ∀ (x3 : Int32) (h o : PH), K x3 h o = some 1 → PW E V nc ns 143 (WG V h o) 18 [(0, .ref b0), (1, rf V 0), (2, rf V 102), (3, .int x3)] []) {x3 : Int32} {h o : PH} (hm : fc_law_1 F xs L K x3 h o = some 1) : PW E V nc ns 143 (WG V h o) 231 [(0, .ref b0), (1, rf V 0), (2, rf V 102), (3, .int x3)] [] := by
  unfold fc_law_1 at hm
  refine q_aload_n hE 1 (dlL_law_1.at 19 rfl) rfl rfl ?_
  refine q_aload_nR hE 0 (dlL_law_1.at 20 rfl) rfl rfl ?_
  refine q_iload_n hE 3 (dlL_law_1.at 21 rfl) rfl rfl ?_
  refine q_iconst hE (dlL_law_1.at 22 rfl) ic_1 ?_
  refine q_iadd hE (dlL_law_1.at 23 rfl) ?_
  refine q_sld hE hX (dlL_law_1.at 24 rfl) hm (fun hm => ?_)
  refine q_aload_nR hE 0 (dlL_law_1.at 25 rfl) rfl rfl ?_
  refine q_iload_n hE 3 (dlL_law_1.at 26 rfl) rfl rfl ?_
  refine q_iconst hE (dlL_law_1.at 27 rfl) ic_2 ?_
  refine q_iadd hE (dlL_law_1.at 28 rfl) ?_
  refine q_sld hE hX (dlL_law_1.at 29 rfl) hm (fun hm => ?_)
  refine q_callV_i (X := fun z => WG V z o) hE (As := [_, _]) (dlL_law_1.at 30 rfl) mw_X9_of wm_L_18 rfl rfl rfl rfl hnc hns rfl kc9 g0 rfl (ok_X9_of hfx) hm (fun v5 h5 hm => ?_)
  refine q_aload_n hE 2 (dlL_law_1.at 31 rfl) rfl rfl ?_
  refine q_aload_nR hE 0 (dlL_law_1.at 32 rfl) rfl rfl ?_
  refine q_iload_n hE 3 (dlL_law_1.at 33 rfl) rfl rfl ?_
  refine q_iconst hE (dlL_law_1.at 34 rfl) ic_1 ?_
  refine q_iadd hE (dlL_law_1.at 35 rfl) ?_
  refine q_sld hE hX (dlL_law_1.at 36 rfl) hm (fun hm => ?_)
  refine q_aload_nR hE 0 (dlL_law_1.at 37 rfl) rfl rfl ?_
  refine q_iload_n hE 3 (dlL_law_1.at 38 rfl) rfl rfl ?_
  refine q_iconst hE (dlL_law_1.at 39 rfl) ic_2 ?_
  refine q_iadd hE (dlL_law_2.at 0 rfl) ?_
  refine q_sld hE hX (dlL_law_2.at 1 rfl) hm (fun hm => ?_)
  refine q_callV_i (X := fun z => WG V h5 z) hE (As := [_, _]) (dlL_law_2.at 2 rfl) mw_X10_of wm_L_22 rfl rfl rfl rfl hnc hns rfl kc10 g102 rfl (ok_X10_of hfx) hm (fun v6 h6 hm => ?_)
  refine q_icmp_eq hE (tgt := 1292) (dlL_law_2.at 3 rfl) (by decide) hm (fun _ hm => ?_) (fun _ hm => ?_)
  · refine q_iinc hE [(0, _), (1, _), (2, _), (3, _)] 3 (dlL_law_22.at 22 rfl) rfl ic_6 rfl rfl ?_
    refine q_goto hE (tgt := 18) (dlL_law_22.at 23 rfl) (by decide) ?_
    exact ih _ _ _ hm
  · refine q_iconst hE (dlL_law_2.at 4 rfl) ic_0 ?_
    exact absurd (Option.some.inj hm) (by decide)
set_option maxRecDepth 10000 in
theorem okc_law_2 {V : Ev} {l : Launch} {F : Nat} (hfx : V.2.2.2.2 = false) {E : Cx} {nc ns rc rs : Nat} (hE : CX E V l code RL 4 1000 rc rs (some .boolean)) (hnc : nc ≤ rc) (hns : ns ≤ rs) {b0 L : Nat} {xs : Nat → Int32} (hX : LX E V b0 L xs) (hQ : ∀ {pc : Nat} {lv : List (Nat × Value)} {hc hm : PH}, decode code pc = .ok (.ireturn, 1) → PW E V nc ns 143 (WG V hc hm) pc lv [.int 1]) {K : Int32 → PH → PH → Option Int32} (ih : ∀ (x3 : Int32) (h o : PH), K x3 h o = some 1 → PW E V nc ns 143 (WG V h o) 18 [(0, .ref b0), (1, rf V 0), (2, rf V 102), (3, .int x3)] []) {x3 : Int32} {h o : PH} (hm : fc_law_2 F xs L K x3 h o = some 1) : PW E V nc ns 143 (WG V h o) 264 [(0, .ref b0), (1, rf V 0), (2, rf V 102), (3, .int x3)] [] := by
  unfold fc_law_2 at hm
  refine q_aload_n hE 1 (dlL_law_2.at 6 rfl) rfl rfl ?_
  refine q_aload_nR hE 0 (dlL_law_2.at 7 rfl) rfl rfl ?_
  refine q_iload_n hE 3 (dlL_law_2.at 8 rfl) rfl rfl ?_
  refine q_iconst hE (dlL_law_2.at 9 rfl) ic_1 ?_
  refine q_iadd hE (dlL_law_2.at 10 rfl) ?_
  refine q_sld hE hX (dlL_law_2.at 11 rfl) hm (fun hm => ?_)
  refine q_aload_nR hE 0 (dlL_law_2.at 12 rfl) rfl rfl ?_
  refine q_iload_n hE 3 (dlL_law_2.at 13 rfl) rfl rfl ?_
  refine q_iconst hE (dlL_law_2.at 14 rfl) ic_2 ?_
  refine q_iadd hE (dlL_law_2.at 15 rfl) ?_
  refine q_sld hE hX (dlL_law_2.at 16 rfl) hm (fun hm => ?_)
  refine q_callV_i (X := fun z => WG V z o) hE (As := [_, _]) (dlL_law_2.at 17 rfl) mw_X9_news wm_L_23 rfl rfl rfl rfl hnc hns rfl kc9 g0 rfl (ok_X9_news hfx) hm (fun v8 h8 hm => ?_)
  refine q_aload_n hE 2 (dlL_law_2.at 18 rfl) rfl rfl ?_
  refine q_aload_nR hE 0 (dlL_law_2.at 19 rfl) rfl rfl ?_
  refine q_iload_n hE 3 (dlL_law_2.at 20 rfl) rfl rfl ?_
  refine q_iconst hE (dlL_law_2.at 21 rfl) ic_1 ?_
  refine q_iadd hE (dlL_law_2.at 22 rfl) ?_
  refine q_sld hE hX (dlL_law_2.at 23 rfl) hm (fun hm => ?_)
  refine q_aload_nR hE 0 (dlL_law_2.at 24 rfl) rfl rfl ?_
  refine q_iload_n hE 3 (dlL_law_2.at 25 rfl) rfl rfl ?_
  refine q_iconst hE (dlL_law_2.at 26 rfl) ic_2 ?_
  refine q_iadd hE (dlL_law_2.at 27 rfl) ?_
  refine q_sld hE hX (dlL_law_2.at 28 rfl) hm (fun hm => ?_)
  refine q_callV_i (X := fun z => WG V h8 z) hE (As := [_, _]) (dlL_law_2.at 29 rfl) mw_X10_news wm_L_26 rfl rfl rfl rfl hnc hns rfl kc10 g102 rfl (ok_X10_news hfx) hm (fun v9 h9 hm => ?_)
  refine q_icmp_eq hE (tgt := 1292) (dlL_law_2.at 30 rfl) (by decide) hm (fun _ hm => ?_) (fun _ hm => ?_)
  · refine q_iinc hE [(0, _), (1, _), (2, _), (3, _)] 3 (dlL_law_22.at 22 rfl) rfl ic_6 rfl rfl ?_
    refine q_goto hE (tgt := 18) (dlL_law_22.at 23 rfl) (by decide) ?_
    exact ih _ _ _ hm
  · refine q_iconst hE (dlL_law_2.at 31 rfl) ic_0 ?_
    exact absurd (Option.some.inj hm) (by decide)
set_option maxRecDepth 10000 in
theorem okc_law_3 {V : Ev} {l : Launch} {F : Nat} (hfx : V.2.2.2.2 = false) {E : Cx} {nc ns rc rs : Nat} (hE : CX E V l code RL 4 1000 rc rs (some .boolean)) (hnc : nc ≤ rc) (hns : ns ≤ rs) {b0 L : Nat} {xs : Nat → Int32} (hX : LX E V b0 L xs) (hQ : ∀ {pc : Nat} {lv : List (Nat × Value)} {hc hm : PH}, decode code pc = .ok (.ireturn, 1) → PW E V nc ns 143 (WG V hc hm) pc lv [.int 1]) {K : Int32 → PH → PH → Option Int32} (ih : ∀ (x3 : Int32) (h o : PH), K x3 h o = some 1 → PW E V nc ns 143 (WG V h o) 18 [(0, .ref b0), (1, rf V 0), (2, rf V 102), (3, .int x3)] []) {x3 : Int32} {h o : PH} (hm : fc_law_3 F xs L K x3 h o = some 1) : PW E V nc ns 143 (WG V h o) 297 [(0, .ref b0), (1, rf V 0), (2, rf V 102), (3, .int x3)] [] := by
  unfold fc_law_3 at hm
  refine q_aload_n hE 1 (dlL_law_2.at 33 rfl) rfl rfl ?_
  refine q_aload_nR hE 0 (dlL_law_2.at 34 rfl) rfl rfl ?_
  refine q_iload_n hE 3 (dlL_law_2.at 35 rfl) rfl rfl ?_
  refine q_iconst hE (dlL_law_2.at 36 rfl) ic_1 ?_
  refine q_iadd hE (dlL_law_2.at 37 rfl) ?_
  refine q_sld hE hX (dlL_law_2.at 38 rfl) hm (fun hm => ?_)
  refine q_aload_nR hE 0 (dlL_law_2.at 39 rfl) rfl rfl ?_
  refine q_iload_n hE 3 (dlL_law_3.at 0 rfl) rfl rfl ?_
  refine q_iconst hE (dlL_law_3.at 1 rfl) ic_2 ?_
  refine q_iadd hE (dlL_law_3.at 2 rfl) ?_
  refine q_sld hE hX (dlL_law_3.at 3 rfl) hm (fun hm => ?_)
  refine q_callV_i (X := fun z => WG V z o) hE (As := [_, _]) (dlL_law_3.at 4 rfl) mw_X9_set wm_L_27 rfl rfl rfl rfl hnc hns rfl kc9 g0 rfl (ok_X9_set hfx) hm (fun v11 h11 hm => ?_)
  refine q_aload_n hE 2 (dlL_law_3.at 5 rfl) rfl rfl ?_
  refine q_aload_nR hE 0 (dlL_law_3.at 6 rfl) rfl rfl ?_
  refine q_iload_n hE 3 (dlL_law_3.at 7 rfl) rfl rfl ?_
  refine q_iconst hE (dlL_law_3.at 8 rfl) ic_1 ?_
  refine q_iadd hE (dlL_law_3.at 9 rfl) ?_
  refine q_sld hE hX (dlL_law_3.at 10 rfl) hm (fun hm => ?_)
  refine q_aload_nR hE 0 (dlL_law_3.at 11 rfl) rfl rfl ?_
  refine q_iload_n hE 3 (dlL_law_3.at 12 rfl) rfl rfl ?_
  refine q_iconst hE (dlL_law_3.at 13 rfl) ic_2 ?_
  refine q_iadd hE (dlL_law_3.at 14 rfl) ?_
  refine q_sld hE hX (dlL_law_3.at 15 rfl) hm (fun hm => ?_)
  refine q_callV_i (X := fun z => WG V h11 z) hE (As := [_, _]) (dlL_law_3.at 16 rfl) mw_X10_set wm_L_30 rfl rfl rfl rfl hnc hns rfl kc10 g102 rfl (ok_X10_set hfx) hm (fun v12 h12 hm => ?_)
  refine q_icmp_eq hE (tgt := 1292) (dlL_law_3.at 17 rfl) (by decide) hm (fun _ hm => ?_) (fun _ hm => ?_)
  · refine q_iinc hE [(0, _), (1, _), (2, _), (3, _)] 3 (dlL_law_22.at 22 rfl) rfl ic_6 rfl rfl ?_
    refine q_goto hE (tgt := 18) (dlL_law_22.at 23 rfl) (by decide) ?_
    exact ih _ _ _ hm
  · refine q_iconst hE (dlL_law_3.at 18 rfl) ic_0 ?_
    exact absurd (Option.some.inj hm) (by decide)
set_option maxRecDepth 10000 in
theorem okc_law_4 {V : Ev} {l : Launch} {F : Nat} (hfx : V.2.2.2.2 = false) {E : Cx} {nc ns rc rs : Nat} (hE : CX E V l code RL 4 1000 rc rs (some .boolean)) (hnc : nc ≤ rc) (hns : ns ≤ rs) {b0 L : Nat} {xs : Nat → Int32} (hX : LX E V b0 L xs) (hQ : ∀ {pc : Nat} {lv : List (Nat × Value)} {hc hm : PH}, decode code pc = .ok (.ireturn, 1) → PW E V nc ns 143 (WG V hc hm) pc lv [.int 1]) {K : Int32 → PH → PH → Option Int32} (ih : ∀ (x3 : Int32) (h o : PH), K x3 h o = some 1 → PW E V nc ns 143 (WG V h o) 18 [(0, .ref b0), (1, rf V 0), (2, rf V 102), (3, .int x3)] []) {x3 : Int32} {h o : PH} (hm : fc_law_4 F xs L K x3 h o = some 1) : PW E V nc ns 143 (WG V h o) 330 [(0, .ref b0), (1, rf V 0), (2, rf V 102), (3, .int x3)] [] := by
  unfold fc_law_4 at hm
  refine q_aload_n hE 1 (dlL_law_3.at 20 rfl) rfl rfl ?_
  refine q_aload_nR hE 0 (dlL_law_3.at 21 rfl) rfl rfl ?_
  refine q_iload_n hE 3 (dlL_law_3.at 22 rfl) rfl rfl ?_
  refine q_iconst hE (dlL_law_3.at 23 rfl) ic_1 ?_
  refine q_iadd hE (dlL_law_3.at 24 rfl) ?_
  refine q_sld hE hX (dlL_law_3.at 25 rfl) hm (fun hm => ?_)
  refine q_aload_nR hE 0 (dlL_law_3.at 26 rfl) rfl rfl ?_
  refine q_iload_n hE 3 (dlL_law_3.at 27 rfl) rfl rfl ?_
  refine q_iconst hE (dlL_law_3.at 28 rfl) ic_2 ?_
  refine q_iadd hE (dlL_law_3.at 29 rfl) ?_
  refine q_sld hE hX (dlL_law_3.at 30 rfl) hm (fun hm => ?_)
  refine q_if_eq hE (tgt := 348) (dlL_law_3.at 31 rfl) (by decide) hm (fun _ hm => ?_) (fun _ hm => ?_)
  · refine q_iconst hE (dlL_law_3.at 34 rfl) ic_0 ?_
    refine q_callV_i (X := fun z => WG V z o) hE (As := [_, _]) (dlL_law_3.at 35 rfl) mw_X9_balk wm_L_31 rfl rfl rfl rfl hnc hns rfl kc9 g0 rfl (ok_X9_balk hfx) hm (fun v14 h14 hm => ?_)
    refine q_aload_n hE 2 (dlL_law_3.at 36 rfl) rfl rfl ?_
    refine q_aload_nR hE 0 (dlL_law_3.at 37 rfl) rfl rfl ?_
    refine q_iload_n hE 3 (dlL_law_3.at 38 rfl) rfl rfl ?_
    refine q_iconst hE (dlL_law_3.at 39 rfl) ic_1 ?_
    refine q_iadd hE (dlL_law_4.at 0 rfl) ?_
    refine q_sld hE hX (dlL_law_4.at 1 rfl) hm (fun hm => ?_)
    refine q_aload_nR hE 0 (dlL_law_4.at 2 rfl) rfl rfl ?_
    refine q_iload_n hE 3 (dlL_law_4.at 3 rfl) rfl rfl ?_
    refine q_iconst hE (dlL_law_4.at 4 rfl) ic_2 ?_
    refine q_iadd hE (dlL_law_4.at 5 rfl) ?_
    refine q_sld hE hX (dlL_law_4.at 6 rfl) hm (fun hm => ?_)
    refine q_if_eq hE (tgt := 370) (dlL_law_4.at 7 rfl) (by decide) hm (fun _ hm => ?_) (fun _ hm => ?_)
    · refine q_iconst hE (dlL_law_4.at 10 rfl) ic_0 ?_
      refine q_callV_i (X := fun z => WG V h14 z) hE (As := [_, _]) (dlL_law_4.at 11 rfl) mw_X10_balk wm_L_35 rfl rfl rfl rfl hnc hns rfl kc10 g102 rfl (ok_X10_balk hfx) hm (fun v15 h15 hm => ?_)
      refine q_icmp_eq hE (tgt := 1292) (dlL_law_4.at 12 rfl) (by decide) hm (fun _ hm => ?_) (fun _ hm => ?_)
      · refine q_iinc hE [(0, _), (1, _), (2, _), (3, _)] 3 (dlL_law_22.at 22 rfl) rfl ic_6 rfl rfl ?_
        refine q_goto hE (tgt := 18) (dlL_law_22.at 23 rfl) (by decide) ?_
        exact ih _ _ _ hm
      · refine q_iconst hE (dlL_law_4.at 13 rfl) ic_0 ?_
        exact absurd (Option.some.inj hm) (by decide)
    · refine q_iconst hE (dlL_law_4.at 8 rfl) ic_1 ?_
      refine q_goto hE (tgt := 371) (dlL_law_4.at 9 rfl) (by decide) ?_
      refine q_callV_i (X := fun z => WG V h14 z) hE (As := [_, _]) (dlL_law_4.at 11 rfl) mw_X10_balk wm_L_35 rfl rfl rfl rfl hnc hns rfl kc10 g102 rfl (ok_X10_balk hfx) hm (fun v16 h16 hm => ?_)
      refine q_icmp_eq hE (tgt := 1292) (dlL_law_4.at 12 rfl) (by decide) hm (fun _ hm => ?_) (fun _ hm => ?_)
      · refine q_iinc hE [(0, _), (1, _), (2, _), (3, _)] 3 (dlL_law_22.at 22 rfl) rfl ic_6 rfl rfl ?_
        refine q_goto hE (tgt := 18) (dlL_law_22.at 23 rfl) (by decide) ?_
        exact ih _ _ _ hm
      · refine q_iconst hE (dlL_law_4.at 13 rfl) ic_0 ?_
        exact absurd (Option.some.inj hm) (by decide)
  · refine q_iconst hE (dlL_law_3.at 32 rfl) ic_1 ?_
    refine q_goto hE (tgt := 349) (dlL_law_3.at 33 rfl) (by decide) ?_
    refine q_callV_i (X := fun z => WG V z o) hE (As := [_, _]) (dlL_law_3.at 35 rfl) mw_X9_balk wm_L_31 rfl rfl rfl rfl hnc hns rfl kc9 g0 rfl (ok_X9_balk hfx) hm (fun v17 h17 hm => ?_)
    refine q_aload_n hE 2 (dlL_law_3.at 36 rfl) rfl rfl ?_
    refine q_aload_nR hE 0 (dlL_law_3.at 37 rfl) rfl rfl ?_
    refine q_iload_n hE 3 (dlL_law_3.at 38 rfl) rfl rfl ?_
    refine q_iconst hE (dlL_law_3.at 39 rfl) ic_1 ?_
    refine q_iadd hE (dlL_law_4.at 0 rfl) ?_
    refine q_sld hE hX (dlL_law_4.at 1 rfl) hm (fun hm => ?_)
    refine q_aload_nR hE 0 (dlL_law_4.at 2 rfl) rfl rfl ?_
    refine q_iload_n hE 3 (dlL_law_4.at 3 rfl) rfl rfl ?_
    refine q_iconst hE (dlL_law_4.at 4 rfl) ic_2 ?_
    refine q_iadd hE (dlL_law_4.at 5 rfl) ?_
    refine q_sld hE hX (dlL_law_4.at 6 rfl) hm (fun hm => ?_)
    refine q_if_eq hE (tgt := 370) (dlL_law_4.at 7 rfl) (by decide) hm (fun _ hm => ?_) (fun _ hm => ?_)
    · refine q_iconst hE (dlL_law_4.at 10 rfl) ic_0 ?_
      refine q_callV_i (X := fun z => WG V h17 z) hE (As := [_, _]) (dlL_law_4.at 11 rfl) mw_X10_balk wm_L_35 rfl rfl rfl rfl hnc hns rfl kc10 g102 rfl (ok_X10_balk hfx) hm (fun v18 h18 hm => ?_)
      refine q_icmp_eq hE (tgt := 1292) (dlL_law_4.at 12 rfl) (by decide) hm (fun _ hm => ?_) (fun _ hm => ?_)
      · refine q_iinc hE [(0, _), (1, _), (2, _), (3, _)] 3 (dlL_law_22.at 22 rfl) rfl ic_6 rfl rfl ?_
        refine q_goto hE (tgt := 18) (dlL_law_22.at 23 rfl) (by decide) ?_
        exact ih _ _ _ hm
      · refine q_iconst hE (dlL_law_4.at 13 rfl) ic_0 ?_
        exact absurd (Option.some.inj hm) (by decide)
    · refine q_iconst hE (dlL_law_4.at 8 rfl) ic_1 ?_
      refine q_goto hE (tgt := 371) (dlL_law_4.at 9 rfl) (by decide) ?_
      refine q_callV_i (X := fun z => WG V h17 z) hE (As := [_, _]) (dlL_law_4.at 11 rfl) mw_X10_balk wm_L_35 rfl rfl rfl rfl hnc hns rfl kc10 g102 rfl (ok_X10_balk hfx) hm (fun v19 h19 hm => ?_)
      refine q_icmp_eq hE (tgt := 1292) (dlL_law_4.at 12 rfl) (by decide) hm (fun _ hm => ?_) (fun _ hm => ?_)
      · refine q_iinc hE [(0, _), (1, _), (2, _), (3, _)] 3 (dlL_law_22.at 22 rfl) rfl ic_6 rfl rfl ?_
        refine q_goto hE (tgt := 18) (dlL_law_22.at 23 rfl) (by decide) ?_
        exact ih _ _ _ hm
      · refine q_iconst hE (dlL_law_4.at 13 rfl) ic_0 ?_
        exact absurd (Option.some.inj hm) (by decide)
set_option maxRecDepth 10000 in
theorem okc_law_5 {V : Ev} {l : Launch} {F : Nat} (hfx : V.2.2.2.2 = false) {E : Cx} {nc ns rc rs : Nat} (hE : CX E V l code RL 4 1000 rc rs (some .boolean)) (hnc : nc ≤ rc) (hns : ns ≤ rs) {b0 L : Nat} {xs : Nat → Int32} (hX : LX E V b0 L xs) (hQ : ∀ {pc : Nat} {lv : List (Nat × Value)} {hc hm : PH}, decode code pc = .ok (.ireturn, 1) → PW E V nc ns 143 (WG V hc hm) pc lv [.int 1]) {K : Int32 → PH → PH → Option Int32} (ih : ∀ (x3 : Int32) (h o : PH), K x3 h o = some 1 → PW E V nc ns 143 (WG V h o) 18 [(0, .ref b0), (1, rf V 0), (2, rf V 102), (3, .int x3)] []) {x3 : Int32} {h o : PH} (hm : fc_law_5 F xs L K x3 h o = some 1) : PW E V nc ns 143 (WG V h o) 379 [(0, .ref b0), (1, rf V 0), (2, rf V 102), (3, .int x3)] [] := by
  unfold fc_law_5 at hm
  refine q_aload_n hE 1 (dlL_law_4.at 15 rfl) rfl rfl ?_
  refine q_aload_nR hE 0 (dlL_law_4.at 16 rfl) rfl rfl ?_
  refine q_iload_n hE 3 (dlL_law_4.at 17 rfl) rfl rfl ?_
  refine q_iconst hE (dlL_law_4.at 18 rfl) ic_1 ?_
  refine q_iadd hE (dlL_law_4.at 19 rfl) ?_
  refine q_sld hE hX (dlL_law_4.at 20 rfl) hm (fun hm => ?_)
  refine q_aload_nR hE 0 (dlL_law_4.at 21 rfl) rfl rfl ?_
  refine q_iload_n hE 3 (dlL_law_4.at 22 rfl) rfl rfl ?_
  refine q_iconst hE (dlL_law_4.at 23 rfl) ic_2 ?_
  refine q_iadd hE (dlL_law_4.at 24 rfl) ?_
  refine q_sld hE hX (dlL_law_4.at 25 rfl) hm (fun hm => ?_)
  refine q_aload_nR hE 0 (dlL_law_4.at 26 rfl) rfl rfl ?_
  refine q_iload_n hE 3 (dlL_law_4.at 27 rfl) rfl rfl ?_
  refine q_iconst hE (dlL_law_4.at 28 rfl) ic_3 ?_
  refine q_iadd hE (dlL_law_4.at 29 rfl) ?_
  refine q_sld hE hX (dlL_law_4.at 30 rfl) hm (fun hm => ?_)
  refine q_callV_i (X := fun z => WG V z o) hE (As := [_, _, _]) (dlL_law_4.at 31 rfl) mw_X9_row wm_L_36 rfl rfl rfl rfl hnc hns rfl kc9 g0 rfl (ok_X9_row hfx) hm (fun v21 h21 hm => ?_)
  refine q_aload_n hE 2 (dlL_law_4.at 32 rfl) rfl rfl ?_
  refine q_aload_nR hE 0 (dlL_law_4.at 33 rfl) rfl rfl ?_
  refine q_iload_n hE 3 (dlL_law_4.at 34 rfl) rfl rfl ?_
  refine q_iconst hE (dlL_law_4.at 35 rfl) ic_1 ?_
  refine q_iadd hE (dlL_law_4.at 36 rfl) ?_
  refine q_sld hE hX (dlL_law_4.at 37 rfl) hm (fun hm => ?_)
  refine q_aload_nR hE 0 (dlL_law_4.at 38 rfl) rfl rfl ?_
  refine q_iload_n hE 3 (dlL_law_4.at 39 rfl) rfl rfl ?_
  refine q_iconst hE (dlL_law_5.at 0 rfl) ic_2 ?_
  refine q_iadd hE (dlL_law_5.at 1 rfl) ?_
  refine q_sld hE hX (dlL_law_5.at 2 rfl) hm (fun hm => ?_)
  refine q_aload_nR hE 0 (dlL_law_5.at 3 rfl) rfl rfl ?_
  refine q_iload_n hE 3 (dlL_law_5.at 4 rfl) rfl rfl ?_
  refine q_iconst hE (dlL_law_5.at 5 rfl) ic_3 ?_
  refine q_iadd hE (dlL_law_5.at 6 rfl) ?_
  refine q_sld hE hX (dlL_law_5.at 7 rfl) hm (fun hm => ?_)
  refine q_callV_i (X := fun z => WG V h21 z) hE (As := [_, _, _]) (dlL_law_5.at 8 rfl) mw_X10_row wm_L_39 rfl rfl rfl rfl hnc hns rfl kc10 g102 rfl (ok_X10_row hfx) hm (fun v22 h22 hm => ?_)
  refine q_icmp_eq hE (tgt := 1292) (dlL_law_5.at 9 rfl) (by decide) hm (fun _ hm => ?_) (fun _ hm => ?_)
  · refine q_iinc hE [(0, _), (1, _), (2, _), (3, _)] 3 (dlL_law_22.at 22 rfl) rfl ic_6 rfl rfl ?_
    refine q_goto hE (tgt := 18) (dlL_law_22.at 23 rfl) (by decide) ?_
    exact ih _ _ _ hm
  · refine q_iconst hE (dlL_law_5.at 10 rfl) ic_0 ?_
    exact absurd (Option.some.inj hm) (by decide)
set_option maxRecDepth 10000 in
theorem okc_law_6 {V : Ev} {l : Launch} {F : Nat} (hfx : V.2.2.2.2 = false) {E : Cx} {nc ns rc rs : Nat} (hE : CX E V l code RL 4 1000 rc rs (some .boolean)) (hnc : nc ≤ rc) (hns : ns ≤ rs) {b0 L : Nat} {xs : Nat → Int32} (hX : LX E V b0 L xs) (hQ : ∀ {pc : Nat} {lv : List (Nat × Value)} {hc hm : PH}, decode code pc = .ok (.ireturn, 1) → PW E V nc ns 143 (WG V hc hm) pc lv [.int 1]) {K : Int32 → PH → PH → Option Int32} (ih : ∀ (x3 : Int32) (h o : PH), K x3 h o = some 1 → PW E V nc ns 143 (WG V h o) 18 [(0, .ref b0), (1, rf V 0), (2, rf V 102), (3, .int x3)] []) {x3 : Int32} {h o : PH} (hm : fc_law_6 F xs L K x3 h o = some 1) : PW E V nc ns 143 (WG V h o) 422 [(0, .ref b0), (1, rf V 0), (2, rf V 102), (3, .int x3)] [] := by
  unfold fc_law_6 at hm
  refine q_aload_n hE 1 (dlL_law_5.at 12 rfl) rfl rfl ?_
  refine q_aload_nR hE 0 (dlL_law_5.at 13 rfl) rfl rfl ?_
  refine q_iload_n hE 3 (dlL_law_5.at 14 rfl) rfl rfl ?_
  refine q_iconst hE (dlL_law_5.at 15 rfl) ic_1 ?_
  refine q_iadd hE (dlL_law_5.at 16 rfl) ?_
  refine q_sld hE hX (dlL_law_5.at 17 rfl) hm (fun hm => ?_)
  refine q_callV_i (X := fun z => WG V z o) hE (As := [_]) (dlL_law_5.at 18 rfl) mw_X9_feed wm_L_40 rfl rfl rfl rfl hnc hns rfl kc9 g0 rfl (ok_X9_feed hfx) hm (fun v24 h24 hm => ?_)
  refine q_aload_n hE 2 (dlL_law_5.at 19 rfl) rfl rfl ?_
  refine q_aload_nR hE 0 (dlL_law_5.at 20 rfl) rfl rfl ?_
  refine q_iload_n hE 3 (dlL_law_5.at 21 rfl) rfl rfl ?_
  refine q_iconst hE (dlL_law_5.at 22 rfl) ic_1 ?_
  refine q_iadd hE (dlL_law_5.at 23 rfl) ?_
  refine q_sld hE hX (dlL_law_5.at 24 rfl) hm (fun hm => ?_)
  refine q_callV_i (X := fun z => WG V h24 z) hE (As := [_]) (dlL_law_5.at 25 rfl) mw_X10_feed wm_L_44 rfl rfl rfl rfl hnc hns rfl kc10 g102 rfl (ok_X10_feed hfx) hm (fun v25 h25 hm => ?_)
  refine q_icmp_eq hE (tgt := 1292) (dlL_law_5.at 26 rfl) (by decide) hm (fun _ hm => ?_) (fun _ hm => ?_)
  · refine q_iinc hE [(0, _), (1, _), (2, _), (3, _)] 3 (dlL_law_22.at 22 rfl) rfl ic_6 rfl rfl ?_
    refine q_goto hE (tgt := 18) (dlL_law_22.at 23 rfl) (by decide) ?_
    exact ih _ _ _ hm
  · refine q_iconst hE (dlL_law_5.at 27 rfl) ic_0 ?_
    exact absurd (Option.some.inj hm) (by decide)
set_option maxRecDepth 10000 in
theorem okc_law_7 {V : Ev} {l : Launch} {F : Nat} (hfx : V.2.2.2.2 = false) {E : Cx} {nc ns rc rs : Nat} (hE : CX E V l code RL 4 1000 rc rs (some .boolean)) (hnc : nc ≤ rc) (hns : ns ≤ rs) {b0 L : Nat} {xs : Nat → Int32} (hX : LX E V b0 L xs) (hQ : ∀ {pc : Nat} {lv : List (Nat × Value)} {hc hm : PH}, decode code pc = .ok (.ireturn, 1) → PW E V nc ns 143 (WG V hc hm) pc lv [.int 1]) {K : Int32 → PH → PH → Option Int32} (ih : ∀ (x3 : Int32) (h o : PH), K x3 h o = some 1 → PW E V nc ns 143 (WG V h o) 18 [(0, .ref b0), (1, rf V 0), (2, rf V 102), (3, .int x3)] []) {x3 : Int32} {h o : PH} (hm : fc_law_7 F xs L K x3 h o = some 1) : PW E V nc ns 143 (WG V h o) 445 [(0, .ref b0), (1, rf V 0), (2, rf V 102), (3, .int x3)] [] := by
  unfold fc_law_7 at hm
  refine q_aload_n hE 1 (dlL_law_5.at 29 rfl) rfl rfl ?_
  refine q_callV_i (X := fun z => WG V z o) hE (As := []) (dlL_law_5.at 30 rfl) mw_X9_bench wm_L_45 rfl rfl rfl rfl hnc hns rfl kc9 g0 rfl (ok_X9_bench hfx) hm (fun v27 h27 hm => ?_)
  refine q_aload_n hE 2 (dlL_law_5.at 31 rfl) rfl rfl ?_
  refine q_callV_i (X := fun z => WG V h27 z) hE (As := []) (dlL_law_5.at 32 rfl) mw_X10_bench wm_L_49 rfl rfl rfl rfl hnc hns rfl kc10 g102 rfl (ok_X10_bench hfx) hm (fun v28 h28 hm => ?_)
  refine q_icmp_eq hE (tgt := 1292) (dlL_law_5.at 33 rfl) (by decide) hm (fun _ hm => ?_) (fun _ hm => ?_)
  · refine q_iinc hE [(0, _), (1, _), (2, _), (3, _)] 3 (dlL_law_22.at 22 rfl) rfl ic_6 rfl rfl ?_
    refine q_goto hE (tgt := 18) (dlL_law_22.at 23 rfl) (by decide) ?_
    exact ih _ _ _ hm
  · refine q_iconst hE (dlL_law_5.at 34 rfl) ic_0 ?_
    exact absurd (Option.some.inj hm) (by decide)
set_option maxRecDepth 10000 in
theorem okc_law_8 {V : Ev} {l : Launch} {F : Nat} (hfx : V.2.2.2.2 = false) {E : Cx} {nc ns rc rs : Nat} (hE : CX E V l code RL 4 1000 rc rs (some .boolean)) (hnc : nc ≤ rc) (hns : ns ≤ rs) {b0 L : Nat} {xs : Nat → Int32} (hX : LX E V b0 L xs) (hQ : ∀ {pc : Nat} {lv : List (Nat × Value)} {hc hm : PH}, decode code pc = .ok (.ireturn, 1) → PW E V nc ns 143 (WG V hc hm) pc lv [.int 1]) {K : Int32 → PH → PH → Option Int32} (ih : ∀ (x3 : Int32) (h o : PH), K x3 h o = some 1 → PW E V nc ns 143 (WG V h o) 18 [(0, .ref b0), (1, rf V 0), (2, rf V 102), (3, .int x3)] []) {x3 : Int32} {h o : PH} (hm : fc_law_8 F xs L K x3 h o = some 1) : PW E V nc ns 143 (WG V h o) 458 [(0, .ref b0), (1, rf V 0), (2, rf V 102), (3, .int x3)] [] := by
  unfold fc_law_8 at hm
  refine q_aload_n hE 1 (dlL_law_5.at 36 rfl) rfl rfl ?_
  refine q_aload_nR hE 0 (dlL_law_5.at 37 rfl) rfl rfl ?_
  refine q_iload_n hE 3 (dlL_law_5.at 38 rfl) rfl rfl ?_
  refine q_iconst hE (dlL_law_5.at 39 rfl) ic_1 ?_
  refine q_iadd hE (dlL_law_6.at 0 rfl) ?_
  refine q_sld hE hX (dlL_law_6.at 1 rfl) hm (fun hm => ?_)
  refine q_callV_i (X := fun z => WG V z o) hE (As := [_]) (dlL_law_6.at 2 rfl) mw_X9_told wm_L_50 rfl rfl rfl rfl hnc hns rfl kc9 g0 rfl (ok_X9_told hfx) hm (fun v30 h30 hm => ?_)
  refine q_aload_n hE 2 (dlL_law_6.at 3 rfl) rfl rfl ?_
  refine q_aload_nR hE 0 (dlL_law_6.at 4 rfl) rfl rfl ?_
  refine q_iload_n hE 3 (dlL_law_6.at 5 rfl) rfl rfl ?_
  refine q_iconst hE (dlL_law_6.at 6 rfl) ic_1 ?_
  refine q_iadd hE (dlL_law_6.at 7 rfl) ?_
  refine q_sld hE hX (dlL_law_6.at 8 rfl) hm (fun hm => ?_)
  refine q_callV_i (X := fun z => WG V h30 z) hE (As := [_]) (dlL_law_6.at 9 rfl) mw_X10_told wm_L_53 rfl rfl rfl rfl hnc hns rfl kc10 g102 rfl (ok_X10_told hfx) hm (fun v31 h31 hm => ?_)
  refine q_icmp_eq hE (tgt := 1292) (dlL_law_6.at 10 rfl) (by decide) hm (fun _ hm => ?_) (fun _ hm => ?_)
  · refine q_iinc hE [(0, _), (1, _), (2, _), (3, _)] 3 (dlL_law_22.at 22 rfl) rfl ic_6 rfl rfl ?_
    refine q_goto hE (tgt := 18) (dlL_law_22.at 23 rfl) (by decide) ?_
    exact ih _ _ _ hm
  · refine q_iconst hE (dlL_law_6.at 11 rfl) ic_0 ?_
    exact absurd (Option.some.inj hm) (by decide)
set_option maxRecDepth 10000 in
theorem okc_law_9 {V : Ev} {l : Launch} {F : Nat} (hfx : V.2.2.2.2 = false) {E : Cx} {nc ns rc rs : Nat} (hE : CX E V l code RL 4 1000 rc rs (some .boolean)) (hnc : nc ≤ rc) (hns : ns ≤ rs) {b0 L : Nat} {xs : Nat → Int32} (hX : LX E V b0 L xs) (hQ : ∀ {pc : Nat} {lv : List (Nat × Value)} {hc hm : PH}, decode code pc = .ok (.ireturn, 1) → PW E V nc ns 143 (WG V hc hm) pc lv [.int 1]) {K : Int32 → PH → PH → Option Int32} (ih : ∀ (x3 : Int32) (h o : PH), K x3 h o = some 1 → PW E V nc ns 143 (WG V h o) 18 [(0, .ref b0), (1, rf V 0), (2, rf V 102), (3, .int x3)] []) {x3 : Int32} {h o : PH} (hm : fc_law_9 F xs L K x3 h o = some 1) : PW E V nc ns 143 (WG V h o) 481 [(0, .ref b0), (1, rf V 0), (2, rf V 102), (3, .int x3)] [] := by
  unfold fc_law_9 at hm
  refine q_aload_n hE 1 (dlL_law_6.at 13 rfl) rfl rfl ?_
  refine q_aload_nR hE 0 (dlL_law_6.at 14 rfl) rfl rfl ?_
  refine q_iload_n hE 3 (dlL_law_6.at 15 rfl) rfl rfl ?_
  refine q_iconst hE (dlL_law_6.at 16 rfl) ic_1 ?_
  refine q_iadd hE (dlL_law_6.at 17 rfl) ?_
  refine q_sld hE hX (dlL_law_6.at 18 rfl) hm (fun hm => ?_)
  refine q_callV_i (X := fun z => WG V z o) hE (As := [_]) (dlL_law_6.at 19 rfl) mw_X9_tell wm_L_54 rfl rfl rfl rfl hnc hns rfl kc9 g0 rfl (ok_X9_tell hfx) hm (fun v33 h33 hm => ?_)
  refine q_aload_n hE 2 (dlL_law_6.at 20 rfl) rfl rfl ?_
  refine q_aload_nR hE 0 (dlL_law_6.at 21 rfl) rfl rfl ?_
  refine q_iload_n hE 3 (dlL_law_6.at 22 rfl) rfl rfl ?_
  refine q_iconst hE (dlL_law_6.at 23 rfl) ic_1 ?_
  refine q_iadd hE (dlL_law_6.at 24 rfl) ?_
  refine q_sld hE hX (dlL_law_6.at 25 rfl) hm (fun hm => ?_)
  refine q_callV_i (X := fun z => WG V h33 z) hE (As := [_]) (dlL_law_6.at 26 rfl) mw_X10_tell wm_L_57 rfl rfl rfl rfl hnc hns rfl kc10 g102 rfl (ok_X10_tell hfx) hm (fun v34 h34 hm => ?_)
  refine q_icmp_eq hE (tgt := 1292) (dlL_law_6.at 27 rfl) (by decide) hm (fun _ hm => ?_) (fun _ hm => ?_)
  · refine q_iinc hE [(0, _), (1, _), (2, _), (3, _)] 3 (dlL_law_22.at 22 rfl) rfl ic_6 rfl rfl ?_
    refine q_goto hE (tgt := 18) (dlL_law_22.at 23 rfl) (by decide) ?_
    exact ih _ _ _ hm
  · refine q_iconst hE (dlL_law_6.at 28 rfl) ic_0 ?_
    exact absurd (Option.some.inj hm) (by decide)
set_option maxRecDepth 10000 in
theorem okc_law_10 {V : Ev} {l : Launch} {F : Nat} (hfx : V.2.2.2.2 = false) {E : Cx} {nc ns rc rs : Nat} (hE : CX E V l code RL 4 1000 rc rs (some .boolean)) (hnc : nc ≤ rc) (hns : ns ≤ rs) {b0 L : Nat} {xs : Nat → Int32} (hX : LX E V b0 L xs) (hQ : ∀ {pc : Nat} {lv : List (Nat × Value)} {hc hm : PH}, decode code pc = .ok (.ireturn, 1) → PW E V nc ns 143 (WG V hc hm) pc lv [.int 1]) {K : Int32 → PH → PH → Option Int32} (ih : ∀ (x3 : Int32) (h o : PH), K x3 h o = some 1 → PW E V nc ns 143 (WG V h o) 18 [(0, .ref b0), (1, rf V 0), (2, rf V 102), (3, .int x3)] []) {x3 : Int32} {h o : PH} (hm : fc_law_10 F xs L K x3 h o = some 1) : PW E V nc ns 143 (WG V h o) 504 [(0, .ref b0), (1, rf V 0), (2, rf V 102), (3, .int x3)] [] := by
  unfold fc_law_10 at hm
  refine q_aload_n hE 1 (dlL_law_6.at 30 rfl) rfl rfl ?_
  refine q_aload_nR hE 0 (dlL_law_6.at 31 rfl) rfl rfl ?_
  refine q_iload_n hE 3 (dlL_law_6.at 32 rfl) rfl rfl ?_
  refine q_iconst hE (dlL_law_6.at 33 rfl) ic_1 ?_
  refine q_iadd hE (dlL_law_6.at 34 rfl) ?_
  refine q_sld hE hX (dlL_law_6.at 35 rfl) hm (fun hm => ?_)
  refine q_callV_i (X := fun z => WG V z o) hE (As := [_]) (dlL_law_6.at 36 rfl) mw_X9_pass wm_L_58 rfl rfl rfl rfl hnc hns rfl kc9 g0 rfl (ok_X9_pass hfx) hm (fun v36 h36 hm => ?_)
  refine q_aload_n hE 2 (dlL_law_6.at 37 rfl) rfl rfl ?_
  refine q_aload_nR hE 0 (dlL_law_6.at 38 rfl) rfl rfl ?_
  refine q_iload_n hE 3 (dlL_law_6.at 39 rfl) rfl rfl ?_
  refine q_iconst hE (dlL_law_7.at 0 rfl) ic_1 ?_
  refine q_iadd hE (dlL_law_7.at 1 rfl) ?_
  refine q_sld hE hX (dlL_law_7.at 2 rfl) hm (fun hm => ?_)
  refine q_callV_i (X := fun z => WG V h36 z) hE (As := [_]) (dlL_law_7.at 3 rfl) mw_X10_pass wm_L_61 rfl rfl rfl rfl hnc hns rfl kc10 g102 rfl (ok_X10_pass hfx) hm (fun v37 h37 hm => ?_)
  refine q_icmp_eq hE (tgt := 1292) (dlL_law_7.at 4 rfl) (by decide) hm (fun _ hm => ?_) (fun _ hm => ?_)
  · refine q_iinc hE [(0, _), (1, _), (2, _), (3, _)] 3 (dlL_law_22.at 22 rfl) rfl ic_6 rfl rfl ?_
    refine q_goto hE (tgt := 18) (dlL_law_22.at 23 rfl) (by decide) ?_
    exact ih _ _ _ hm
  · refine q_iconst hE (dlL_law_7.at 5 rfl) ic_0 ?_
    exact absurd (Option.some.inj hm) (by decide)
set_option maxRecDepth 10000 in
theorem okc_law_11 {V : Ev} {l : Launch} {F : Nat} (hfx : V.2.2.2.2 = false) {E : Cx} {nc ns rc rs : Nat} (hE : CX E V l code RL 4 1000 rc rs (some .boolean)) (hnc : nc ≤ rc) (hns : ns ≤ rs) {b0 L : Nat} {xs : Nat → Int32} (hX : LX E V b0 L xs) (hQ : ∀ {pc : Nat} {lv : List (Nat × Value)} {hc hm : PH}, decode code pc = .ok (.ireturn, 1) → PW E V nc ns 143 (WG V hc hm) pc lv [.int 1]) {K : Int32 → PH → PH → Option Int32} (ih : ∀ (x3 : Int32) (h o : PH), K x3 h o = some 1 → PW E V nc ns 143 (WG V h o) 18 [(0, .ref b0), (1, rf V 0), (2, rf V 102), (3, .int x3)] []) {x3 : Int32} {h o : PH} (hm : fc_law_11 F xs L K x3 h o = some 1) : PW E V nc ns 143 (WG V h o) 527 [(0, .ref b0), (1, rf V 0), (2, rf V 102), (3, .int x3)] [] := by
  unfold fc_law_11 at hm
  refine q_aload_n hE 1 (dlL_law_7.at 7 rfl) rfl rfl ?_
  refine q_aload_nR hE 0 (dlL_law_7.at 8 rfl) rfl rfl ?_
  refine q_iload_n hE 3 (dlL_law_7.at 9 rfl) rfl rfl ?_
  refine q_iconst hE (dlL_law_7.at 10 rfl) ic_1 ?_
  refine q_iadd hE (dlL_law_7.at 11 rfl) ?_
  refine q_sld hE hX (dlL_law_7.at 12 rfl) hm (fun hm => ?_)
  refine q_aload_nR hE 0 (dlL_law_7.at 13 rfl) rfl rfl ?_
  refine q_iload_n hE 3 (dlL_law_7.at 14 rfl) rfl rfl ?_
  refine q_iconst hE (dlL_law_7.at 15 rfl) ic_2 ?_
  refine q_iadd hE (dlL_law_7.at 16 rfl) ?_
  refine q_sld hE hX (dlL_law_7.at 17 rfl) hm (fun hm => ?_)
  refine q_aload_nR hE 0 (dlL_law_7.at 18 rfl) rfl rfl ?_
  refine q_iload_n hE 3 (dlL_law_7.at 19 rfl) rfl rfl ?_
  refine q_iconst hE (dlL_law_7.at 20 rfl) ic_3 ?_
  refine q_iadd hE (dlL_law_7.at 21 rfl) ?_
  refine q_sld hE hX (dlL_law_7.at 22 rfl) hm (fun hm => ?_)
  refine q_callV_i (X := fun z => WG V z o) hE (As := [_, _, _]) (dlL_law_7.at 23 rfl) mw_X9_on wm_L_62 rfl rfl rfl rfl hnc hns rfl kc9 g0 rfl (ok_X9_on hfx) hm (fun v39 h39 hm => ?_)
  refine q_aload_n hE 2 (dlL_law_7.at 24 rfl) rfl rfl ?_
  refine q_aload_nR hE 0 (dlL_law_7.at 25 rfl) rfl rfl ?_
  refine q_iload_n hE 3 (dlL_law_7.at 26 rfl) rfl rfl ?_
  refine q_iconst hE (dlL_law_7.at 27 rfl) ic_1 ?_
  refine q_iadd hE (dlL_law_7.at 28 rfl) ?_
  refine q_sld hE hX (dlL_law_7.at 29 rfl) hm (fun hm => ?_)
  refine q_aload_nR hE 0 (dlL_law_7.at 30 rfl) rfl rfl ?_
  refine q_iload_n hE 3 (dlL_law_7.at 31 rfl) rfl rfl ?_
  refine q_iconst hE (dlL_law_7.at 32 rfl) ic_2 ?_
  refine q_iadd hE (dlL_law_7.at 33 rfl) ?_
  refine q_sld hE hX (dlL_law_7.at 34 rfl) hm (fun hm => ?_)
  refine q_aload_nR hE 0 (dlL_law_7.at 35 rfl) rfl rfl ?_
  refine q_iload_n hE 3 (dlL_law_7.at 36 rfl) rfl rfl ?_
  refine q_iconst hE (dlL_law_7.at 37 rfl) ic_3 ?_
  refine q_iadd hE (dlL_law_7.at 38 rfl) ?_
  refine q_sld hE hX (dlL_law_7.at 39 rfl) hm (fun hm => ?_)
  refine q_callV_i (X := fun z => WG V h39 z) hE (As := [_, _, _]) (dlL_law_8.at 0 rfl) mw_X10_on wm_L_65 rfl rfl rfl rfl hnc hns rfl kc10 g102 rfl (ok_X10_on hfx) hm (fun v40 h40 hm => ?_)
  refine q_icmp_eq hE (tgt := 1292) (dlL_law_8.at 1 rfl) (by decide) hm (fun _ hm => ?_) (fun _ hm => ?_)
  · refine q_iinc hE [(0, _), (1, _), (2, _), (3, _)] 3 (dlL_law_22.at 22 rfl) rfl ic_6 rfl rfl ?_
    refine q_goto hE (tgt := 18) (dlL_law_22.at 23 rfl) (by decide) ?_
    exact ih _ _ _ hm
  · refine q_iconst hE (dlL_law_8.at 2 rfl) ic_0 ?_
    exact absurd (Option.some.inj hm) (by decide)
set_option maxRecDepth 10000 in
theorem okc_law_12 {V : Ev} {l : Launch} {F : Nat} (hfx : V.2.2.2.2 = false) {E : Cx} {nc ns rc rs : Nat} (hE : CX E V l code RL 4 1000 rc rs (some .boolean)) (hnc : nc ≤ rc) (hns : ns ≤ rs) {b0 L : Nat} {xs : Nat → Int32} (hX : LX E V b0 L xs) (hQ : ∀ {pc : Nat} {lv : List (Nat × Value)} {hc hm : PH}, decode code pc = .ok (.ireturn, 1) → PW E V nc ns 143 (WG V hc hm) pc lv [.int 1]) {K : Int32 → PH → PH → Option Int32} (ih : ∀ (x3 : Int32) (h o : PH), K x3 h o = some 1 → PW E V nc ns 143 (WG V h o) 18 [(0, .ref b0), (1, rf V 0), (2, rf V 102), (3, .int x3)] []) {x3 : Int32} {h o : PH} (hm : fc_law_12 F xs L K x3 h o = some 1) : PW E V nc ns 143 (WG V h o) 570 [(0, .ref b0), (1, rf V 0), (2, rf V 102), (3, .int x3)] [] := by
  unfold fc_law_12 at hm
  refine q_aload_n hE 1 (dlL_law_8.at 4 rfl) rfl rfl ?_
  refine q_aload_nR hE 0 (dlL_law_8.at 5 rfl) rfl rfl ?_
  refine q_iload_n hE 3 (dlL_law_8.at 6 rfl) rfl rfl ?_
  refine q_iconst hE (dlL_law_8.at 7 rfl) ic_1 ?_
  refine q_iadd hE (dlL_law_8.at 8 rfl) ?_
  refine q_sld hE hX (dlL_law_8.at 9 rfl) hm (fun hm => ?_)
  refine q_callV_i (X := fun z => WG V z o) hE (As := [_]) (dlL_law_8.at 10 rfl) mw_X9_soonest wm_L_66 rfl rfl rfl rfl hnc hns rfl kc9 g0 rfl (ok_X9_soonest hfx) hm (fun v42 h42 hm => ?_)
  refine q_aload_n hE 2 (dlL_law_8.at 11 rfl) rfl rfl ?_
  refine q_aload_nR hE 0 (dlL_law_8.at 12 rfl) rfl rfl ?_
  refine q_iload_n hE 3 (dlL_law_8.at 13 rfl) rfl rfl ?_
  refine q_iconst hE (dlL_law_8.at 14 rfl) ic_1 ?_
  refine q_iadd hE (dlL_law_8.at 15 rfl) ?_
  refine q_sld hE hX (dlL_law_8.at 16 rfl) hm (fun hm => ?_)
  refine q_callV_i (X := fun z => WG V h42 z) hE (As := [_]) (dlL_law_8.at 17 rfl) mw_X10_soonest wm_L_69 rfl rfl rfl rfl hnc hns rfl kc10 g102 rfl (ok_X10_soonest hfx) hm (fun v43 h43 hm => ?_)
  refine q_icmp_eq hE (tgt := 1292) (dlL_law_8.at 18 rfl) (by decide) hm (fun _ hm => ?_) (fun _ hm => ?_)
  · refine q_iinc hE [(0, _), (1, _), (2, _), (3, _)] 3 (dlL_law_22.at 22 rfl) rfl ic_6 rfl rfl ?_
    refine q_goto hE (tgt := 18) (dlL_law_22.at 23 rfl) (by decide) ?_
    exact ih _ _ _ hm
  · refine q_iconst hE (dlL_law_8.at 19 rfl) ic_0 ?_
    exact absurd (Option.some.inj hm) (by decide)
set_option maxRecDepth 10000 in
theorem okc_law_13 {V : Ev} {l : Launch} {F : Nat} (hfx : V.2.2.2.2 = false) {E : Cx} {nc ns rc rs : Nat} (hE : CX E V l code RL 4 1000 rc rs (some .boolean)) (hnc : nc ≤ rc) (hns : ns ≤ rs) {b0 L : Nat} {xs : Nat → Int32} (hX : LX E V b0 L xs) (hQ : ∀ {pc : Nat} {lv : List (Nat × Value)} {hc hm : PH}, decode code pc = .ok (.ireturn, 1) → PW E V nc ns 143 (WG V hc hm) pc lv [.int 1]) {K : Int32 → PH → PH → Option Int32} (ih : ∀ (x3 : Int32) (h o : PH), K x3 h o = some 1 → PW E V nc ns 143 (WG V h o) 18 [(0, .ref b0), (1, rf V 0), (2, rf V 102), (3, .int x3)] []) {x3 : Int32} {h o : PH} (hm : fc_law_13 F xs L K x3 h o = some 1) : PW E V nc ns 143 (WG V h o) 593 [(0, .ref b0), (1, rf V 0), (2, rf V 102), (3, .int x3)] [] := by
  unfold fc_law_13 at hm
  refine q_aload_n hE 1 (dlL_law_8.at 21 rfl) rfl rfl ?_
  refine q_aload_nR hE 0 (dlL_law_8.at 22 rfl) rfl rfl ?_
  refine q_iload_n hE 3 (dlL_law_8.at 23 rfl) rfl rfl ?_
  refine q_iconst hE (dlL_law_8.at 24 rfl) ic_1 ?_
  refine q_iadd hE (dlL_law_8.at 25 rfl) ?_
  refine q_sld hE hX (dlL_law_8.at 26 rfl) hm (fun hm => ?_)
  refine q_aload_nR hE 0 (dlL_law_8.at 27 rfl) rfl rfl ?_
  refine q_iload_n hE 3 (dlL_law_8.at 28 rfl) rfl rfl ?_
  refine q_iconst hE (dlL_law_8.at 29 rfl) ic_2 ?_
  refine q_iadd hE (dlL_law_8.at 30 rfl) ?_
  refine q_sld hE hX (dlL_law_8.at 31 rfl) hm (fun hm => ?_)
  refine q_callV_i (X := fun z => WG V z o) hE (As := [_, _]) (dlL_law_8.at 32 rfl) mw_X9_most wm_L_70 rfl rfl rfl rfl hnc hns rfl kc9 g0 rfl (ok_X9_most hfx) hm (fun v45 h45 hm => ?_)
  refine q_aload_n hE 2 (dlL_law_8.at 33 rfl) rfl rfl ?_
  refine q_aload_nR hE 0 (dlL_law_8.at 34 rfl) rfl rfl ?_
  refine q_iload_n hE 3 (dlL_law_8.at 35 rfl) rfl rfl ?_
  refine q_iconst hE (dlL_law_8.at 36 rfl) ic_1 ?_
  refine q_iadd hE (dlL_law_8.at 37 rfl) ?_
  refine q_sld hE hX (dlL_law_8.at 38 rfl) hm (fun hm => ?_)
  refine q_aload_nR hE 0 (dlL_law_8.at 39 rfl) rfl rfl ?_
  refine q_iload_n hE 3 (dlL_law_9.at 0 rfl) rfl rfl ?_
  refine q_iconst hE (dlL_law_9.at 1 rfl) ic_2 ?_
  refine q_iadd hE (dlL_law_9.at 2 rfl) ?_
  refine q_sld hE hX (dlL_law_9.at 3 rfl) hm (fun hm => ?_)
  refine q_callV_i (X := fun z => WG V h45 z) hE (As := [_, _]) (dlL_law_9.at 4 rfl) mw_X10_most wm_L_73 rfl rfl rfl rfl hnc hns rfl kc10 g102 rfl (ok_X10_most hfx) hm (fun v46 h46 hm => ?_)
  refine q_icmp_eq hE (tgt := 1292) (dlL_law_9.at 5 rfl) (by decide) hm (fun _ hm => ?_) (fun _ hm => ?_)
  · refine q_iinc hE [(0, _), (1, _), (2, _), (3, _)] 3 (dlL_law_22.at 22 rfl) rfl ic_6 rfl rfl ?_
    refine q_goto hE (tgt := 18) (dlL_law_22.at 23 rfl) (by decide) ?_
    exact ih _ _ _ hm
  · refine q_iconst hE (dlL_law_9.at 6 rfl) ic_0 ?_
    exact absurd (Option.some.inj hm) (by decide)
set_option maxRecDepth 10000 in
theorem okc_law_14 {V : Ev} {l : Launch} {F : Nat} (hfx : V.2.2.2.2 = false) {E : Cx} {nc ns rc rs : Nat} (hE : CX E V l code RL 4 1000 rc rs (some .boolean)) (hnc : nc ≤ rc) (hns : ns ≤ rs) {b0 L : Nat} {xs : Nat → Int32} (hX : LX E V b0 L xs) (hQ : ∀ {pc : Nat} {lv : List (Nat × Value)} {hc hm : PH}, decode code pc = .ok (.ireturn, 1) → PW E V nc ns 143 (WG V hc hm) pc lv [.int 1]) {K : Int32 → PH → PH → Option Int32} (ih : ∀ (x3 : Int32) (h o : PH), K x3 h o = some 1 → PW E V nc ns 143 (WG V h o) 18 [(0, .ref b0), (1, rf V 0), (2, rf V 102), (3, .int x3)] []) {x3 : Int32} {h o : PH} (hm : fc_law_14 F xs L K x3 h o = some 1) : PW E V nc ns 143 (WG V h o) 626 [(0, .ref b0), (1, rf V 0), (2, rf V 102), (3, .int x3)] [] := by
  unfold fc_law_14 at hm
  refine q_aload_n hE 1 (dlL_law_9.at 8 rfl) rfl rfl ?_
  refine q_callV_i (X := fun z => WG V z o) hE (As := []) (dlL_law_9.at 9 rfl) mw_X9_next wm_L_74 rfl rfl rfl rfl hnc hns rfl kc9 g0 rfl (ok_X9_next hfx) hm (fun v48 h48 hm => ?_)
  refine q_aload_n hE 2 (dlL_law_9.at 10 rfl) rfl rfl ?_
  refine q_callV_i (X := fun z => WG V h48 z) hE (As := []) (dlL_law_9.at 11 rfl) mw_X10_next wm_L_77 rfl rfl rfl rfl hnc hns rfl kc10 g102 rfl (ok_X10_next hfx) hm (fun v49 h49 hm => ?_)
  refine q_icmp_eq hE (tgt := 1292) (dlL_law_9.at 12 rfl) (by decide) hm (fun _ hm => ?_) (fun _ hm => ?_)
  · refine q_iinc hE [(0, _), (1, _), (2, _), (3, _)] 3 (dlL_law_22.at 22 rfl) rfl ic_6 rfl rfl ?_
    refine q_goto hE (tgt := 18) (dlL_law_22.at 23 rfl) (by decide) ?_
    exact ih _ _ _ hm
  · refine q_iconst hE (dlL_law_9.at 13 rfl) ic_0 ?_
    exact absurd (Option.some.inj hm) (by decide)
set_option maxRecDepth 10000 in
theorem okc_law_15 {V : Ev} {l : Launch} {F : Nat} (hfx : V.2.2.2.2 = false) {E : Cx} {nc ns rc rs : Nat} (hE : CX E V l code RL 4 1000 rc rs (some .boolean)) (hnc : nc ≤ rc) (hns : ns ≤ rs) {b0 L : Nat} {xs : Nat → Int32} (hX : LX E V b0 L xs) (hQ : ∀ {pc : Nat} {lv : List (Nat × Value)} {hc hm : PH}, decode code pc = .ok (.ireturn, 1) → PW E V nc ns 143 (WG V hc hm) pc lv [.int 1]) {K : Int32 → PH → PH → Option Int32} (ih : ∀ (x3 : Int32) (h o : PH), K x3 h o = some 1 → PW E V nc ns 143 (WG V h o) 18 [(0, .ref b0), (1, rf V 0), (2, rf V 102), (3, .int x3)] []) {x3 : Int32} {h o : PH} (hm : fc_law_15 F xs L K x3 h o = some 1) : PW E V nc ns 143 (WG V h o) 639 [(0, .ref b0), (1, rf V 0), (2, rf V 102), (3, .int x3)] [] := by
  unfold fc_law_15 at hm
  refine q_aload_n hE 1 (dlL_law_9.at 15 rfl) rfl rfl ?_
  refine q_aload_nR hE 0 (dlL_law_9.at 16 rfl) rfl rfl ?_
  refine q_iload_n hE 3 (dlL_law_9.at 17 rfl) rfl rfl ?_
  refine q_iconst hE (dlL_law_9.at 18 rfl) ic_1 ?_
  refine q_iadd hE (dlL_law_9.at 19 rfl) ?_
  refine q_sld hE hX (dlL_law_9.at 20 rfl) hm (fun hm => ?_)
  refine q_aload_nR hE 0 (dlL_law_9.at 21 rfl) rfl rfl ?_
  refine q_iload_n hE 3 (dlL_law_9.at 22 rfl) rfl rfl ?_
  refine q_iconst hE (dlL_law_9.at 23 rfl) ic_2 ?_
  refine q_iadd hE (dlL_law_9.at 24 rfl) ?_
  refine q_sld hE hX (dlL_law_9.at 25 rfl) hm (fun hm => ?_)
  refine q_aload_nR hE 0 (dlL_law_9.at 26 rfl) rfl rfl ?_
  refine q_iload_n hE 3 (dlL_law_9.at 27 rfl) rfl rfl ?_
  refine q_iconst hE (dlL_law_9.at 28 rfl) ic_3 ?_
  refine q_iadd hE (dlL_law_9.at 29 rfl) ?_
  refine q_sld hE hX (dlL_law_9.at 30 rfl) hm (fun hm => ?_)
  refine q_callV_i (X := fun z => WG V z o) hE (As := [_, _, _]) (dlL_law_9.at 31 rfl) mw_X9_see wm_L_78 rfl rfl rfl rfl hnc hns rfl kc9 g0 rfl (ok_X9_see hfx) hm (fun v51 h51 hm => ?_)
  refine q_aload_n hE 2 (dlL_law_9.at 32 rfl) rfl rfl ?_
  refine q_aload_nR hE 0 (dlL_law_9.at 33 rfl) rfl rfl ?_
  refine q_iload_n hE 3 (dlL_law_9.at 34 rfl) rfl rfl ?_
  refine q_iconst hE (dlL_law_9.at 35 rfl) ic_1 ?_
  refine q_iadd hE (dlL_law_9.at 36 rfl) ?_
  refine q_sld hE hX (dlL_law_9.at 37 rfl) hm (fun hm => ?_)
  refine q_aload_nR hE 0 (dlL_law_9.at 38 rfl) rfl rfl ?_
  refine q_iload_n hE 3 (dlL_law_9.at 39 rfl) rfl rfl ?_
  refine q_iconst hE (dlL_law_10.at 0 rfl) ic_2 ?_
  refine q_iadd hE (dlL_law_10.at 1 rfl) ?_
  refine q_sld hE hX (dlL_law_10.at 2 rfl) hm (fun hm => ?_)
  refine q_aload_nR hE 0 (dlL_law_10.at 3 rfl) rfl rfl ?_
  refine q_iload_n hE 3 (dlL_law_10.at 4 rfl) rfl rfl ?_
  refine q_iconst hE (dlL_law_10.at 5 rfl) ic_3 ?_
  refine q_iadd hE (dlL_law_10.at 6 rfl) ?_
  refine q_sld hE hX (dlL_law_10.at 7 rfl) hm (fun hm => ?_)
  refine q_callV_i (X := fun z => WG V h51 z) hE (As := [_, _, _]) (dlL_law_10.at 8 rfl) mw_X10_see wm_L_81 rfl rfl rfl rfl hnc hns rfl kc10 g102 rfl (ok_X10_see hfx) hm (fun v52 h52 hm => ?_)
  refine q_icmp_eq hE (tgt := 1292) (dlL_law_10.at 9 rfl) (by decide) hm (fun _ hm => ?_) (fun _ hm => ?_)
  · refine q_iinc hE [(0, _), (1, _), (2, _), (3, _)] 3 (dlL_law_22.at 22 rfl) rfl ic_6 rfl rfl ?_
    refine q_goto hE (tgt := 18) (dlL_law_22.at 23 rfl) (by decide) ?_
    exact ih _ _ _ hm
  · refine q_iconst hE (dlL_law_10.at 10 rfl) ic_0 ?_
    exact absurd (Option.some.inj hm) (by decide)
set_option maxRecDepth 10000 in
theorem okc_law_16 {V : Ev} {l : Launch} {F : Nat} (hfx : V.2.2.2.2 = false) {E : Cx} {nc ns rc rs : Nat} (hE : CX E V l code RL 4 1000 rc rs (some .boolean)) (hnc : nc ≤ rc) (hns : ns ≤ rs) {b0 L : Nat} {xs : Nat → Int32} (hX : LX E V b0 L xs) (hQ : ∀ {pc : Nat} {lv : List (Nat × Value)} {hc hm : PH}, decode code pc = .ok (.ireturn, 1) → PW E V nc ns 143 (WG V hc hm) pc lv [.int 1]) {K : Int32 → PH → PH → Option Int32} (ih : ∀ (x3 : Int32) (h o : PH), K x3 h o = some 1 → PW E V nc ns 143 (WG V h o) 18 [(0, .ref b0), (1, rf V 0), (2, rf V 102), (3, .int x3)] []) {x3 : Int32} {h o : PH} (hm : fc_law_16 F xs L K x3 h o = some 1) : PW E V nc ns 143 (WG V h o) 682 [(0, .ref b0), (1, rf V 0), (2, rf V 102), (3, .int x3)] [] := by
  unfold fc_law_16 at hm
  refine q_aload_n hE 1 (dlL_law_10.at 12 rfl) rfl rfl ?_
  refine q_aload_nR hE 0 (dlL_law_10.at 13 rfl) rfl rfl ?_
  refine q_iload_n hE 3 (dlL_law_10.at 14 rfl) rfl rfl ?_
  refine q_iconst hE (dlL_law_10.at 15 rfl) ic_1 ?_
  refine q_iadd hE (dlL_law_10.at 16 rfl) ?_
  refine q_sld hE hX (dlL_law_10.at 17 rfl) hm (fun hm => ?_)
  refine q_aload_nR hE 0 (dlL_law_10.at 18 rfl) rfl rfl ?_
  refine q_iload_n hE 3 (dlL_law_10.at 19 rfl) rfl rfl ?_
  refine q_iconst hE (dlL_law_10.at 20 rfl) ic_2 ?_
  refine q_iadd hE (dlL_law_10.at 21 rfl) ?_
  refine q_sld hE hX (dlL_law_10.at 22 rfl) hm (fun hm => ?_)
  refine q_callV_i (X := fun z => WG V z o) hE (As := [_, _]) (dlL_law_10.at 23 rfl) mw_X9_since wm_L_82 rfl rfl rfl rfl hnc hns rfl kc9 g0 rfl (ok_X9_since hfx) hm (fun v54 h54 hm => ?_)
  refine q_aload_n hE 2 (dlL_law_10.at 24 rfl) rfl rfl ?_
  refine q_aload_nR hE 0 (dlL_law_10.at 25 rfl) rfl rfl ?_
  refine q_iload_n hE 3 (dlL_law_10.at 26 rfl) rfl rfl ?_
  refine q_iconst hE (dlL_law_10.at 27 rfl) ic_1 ?_
  refine q_iadd hE (dlL_law_10.at 28 rfl) ?_
  refine q_sld hE hX (dlL_law_10.at 29 rfl) hm (fun hm => ?_)
  refine q_aload_nR hE 0 (dlL_law_10.at 30 rfl) rfl rfl ?_
  refine q_iload_n hE 3 (dlL_law_10.at 31 rfl) rfl rfl ?_
  refine q_iconst hE (dlL_law_10.at 32 rfl) ic_2 ?_
  refine q_iadd hE (dlL_law_10.at 33 rfl) ?_
  refine q_sld hE hX (dlL_law_10.at 34 rfl) hm (fun hm => ?_)
  refine q_callV_i (X := fun z => WG V h54 z) hE (As := [_, _]) (dlL_law_10.at 35 rfl) mw_X10_since wm_L_85 rfl rfl rfl rfl hnc hns rfl kc10 g102 rfl (ok_X10_since hfx) hm (fun v55 h55 hm => ?_)
  refine q_icmp_eq hE (tgt := 1292) (dlL_law_10.at 36 rfl) (by decide) hm (fun _ hm => ?_) (fun _ hm => ?_)
  · refine q_iinc hE [(0, _), (1, _), (2, _), (3, _)] 3 (dlL_law_22.at 22 rfl) rfl ic_6 rfl rfl ?_
    refine q_goto hE (tgt := 18) (dlL_law_22.at 23 rfl) (by decide) ?_
    exact ih _ _ _ hm
  · refine q_iconst hE (dlL_law_10.at 37 rfl) ic_0 ?_
    exact absurd (Option.some.inj hm) (by decide)
set_option maxRecDepth 10000 in
theorem okc_law_17 {V : Ev} {l : Launch} {F : Nat} (hfx : V.2.2.2.2 = false) {E : Cx} {nc ns rc rs : Nat} (hE : CX E V l code RL 4 1000 rc rs (some .boolean)) (hnc : nc ≤ rc) (hns : ns ≤ rs) {b0 L : Nat} {xs : Nat → Int32} (hX : LX E V b0 L xs) (hQ : ∀ {pc : Nat} {lv : List (Nat × Value)} {hc hm : PH}, decode code pc = .ok (.ireturn, 1) → PW E V nc ns 143 (WG V hc hm) pc lv [.int 1]) {K : Int32 → PH → PH → Option Int32} (ih : ∀ (x3 : Int32) (h o : PH), K x3 h o = some 1 → PW E V nc ns 143 (WG V h o) 18 [(0, .ref b0), (1, rf V 0), (2, rf V 102), (3, .int x3)] []) {x3 : Int32} {h o : PH} (hm : fc_law_17 F xs L K x3 h o = some 1) : PW E V nc ns 143 (WG V h o) 715 [(0, .ref b0), (1, rf V 0), (2, rf V 102), (3, .int x3)] [] := by
  unfold fc_law_17 at hm
  refine q_aload_n hE 1 (dlL_law_10.at 39 rfl) rfl rfl ?_
  refine q_aload_nR hE 0 (dlL_law_11.at 0 rfl) rfl rfl ?_
  refine q_iload_n hE 3 (dlL_law_11.at 1 rfl) rfl rfl ?_
  refine q_iconst hE (dlL_law_11.at 2 rfl) ic_1 ?_
  refine q_iadd hE (dlL_law_11.at 3 rfl) ?_
  refine q_sld hE hX (dlL_law_11.at 4 rfl) hm (fun hm => ?_)
  refine q_aload_nR hE 0 (dlL_law_11.at 5 rfl) rfl rfl ?_
  refine q_iload_n hE 3 (dlL_law_11.at 6 rfl) rfl rfl ?_
  refine q_iconst hE (dlL_law_11.at 7 rfl) ic_2 ?_
  refine q_iadd hE (dlL_law_11.at 8 rfl) ?_
  refine q_sld hE hX (dlL_law_11.at 9 rfl) hm (fun hm => ?_)
  refine q_callV_i (X := fun z => WG V z o) hE (As := [_, _]) (dlL_law_11.at 10 rfl) mw_X9_can wm_L_86 rfl rfl rfl rfl hnc hns rfl kc9 g0 rfl (ok_X9_can hfx) hm (fun v57 h57 hm => ?_)
  refine q_aload_n hE 2 (dlL_law_11.at 11 rfl) rfl rfl ?_
  refine q_aload_nR hE 0 (dlL_law_11.at 12 rfl) rfl rfl ?_
  refine q_iload_n hE 3 (dlL_law_11.at 13 rfl) rfl rfl ?_
  refine q_iconst hE (dlL_law_11.at 14 rfl) ic_1 ?_
  refine q_iadd hE (dlL_law_11.at 15 rfl) ?_
  refine q_sld hE hX (dlL_law_11.at 16 rfl) hm (fun hm => ?_)
  refine q_aload_nR hE 0 (dlL_law_11.at 17 rfl) rfl rfl ?_
  refine q_iload_n hE 3 (dlL_law_11.at 18 rfl) rfl rfl ?_
  refine q_iconst hE (dlL_law_11.at 19 rfl) ic_2 ?_
  refine q_iadd hE (dlL_law_11.at 20 rfl) ?_
  refine q_sld hE hX (dlL_law_11.at 21 rfl) hm (fun hm => ?_)
  refine q_callV_i (X := fun z => WG V h57 z) hE (As := [_, _]) (dlL_law_11.at 22 rfl) mw_X10_can wm_L_89 rfl rfl rfl rfl hnc hns rfl kc10 g102 rfl (ok_X10_can hfx) hm (fun v58 h58 hm => ?_)
  refine q_icmp_eq hE (tgt := 1292) (dlL_law_11.at 23 rfl) (by decide) hm (fun _ hm => ?_) (fun _ hm => ?_)
  · refine q_iinc hE [(0, _), (1, _), (2, _), (3, _)] 3 (dlL_law_22.at 22 rfl) rfl ic_6 rfl rfl ?_
    refine q_goto hE (tgt := 18) (dlL_law_22.at 23 rfl) (by decide) ?_
    exact ih _ _ _ hm
  · refine q_iconst hE (dlL_law_11.at 24 rfl) ic_0 ?_
    exact absurd (Option.some.inj hm) (by decide)
set_option maxRecDepth 10000 in
theorem okc_law_18 {V : Ev} {l : Launch} {F : Nat} (hfx : V.2.2.2.2 = false) {E : Cx} {nc ns rc rs : Nat} (hE : CX E V l code RL 4 1000 rc rs (some .boolean)) (hnc : nc ≤ rc) (hns : ns ≤ rs) {b0 L : Nat} {xs : Nat → Int32} (hX : LX E V b0 L xs) (hQ : ∀ {pc : Nat} {lv : List (Nat × Value)} {hc hm : PH}, decode code pc = .ok (.ireturn, 1) → PW E V nc ns 143 (WG V hc hm) pc lv [.int 1]) {K : Int32 → PH → PH → Option Int32} (ih : ∀ (x3 : Int32) (h o : PH), K x3 h o = some 1 → PW E V nc ns 143 (WG V h o) 18 [(0, .ref b0), (1, rf V 0), (2, rf V 102), (3, .int x3)] []) {x3 : Int32} {h o : PH} (hm : fc_law_18 F xs L K x3 h o = some 1) : PW E V nc ns 143 (WG V h o) 748 [(0, .ref b0), (1, rf V 0), (2, rf V 102), (3, .int x3)] [] := by
  unfold fc_law_18 at hm
  refine q_aload_n hE 1 (dlL_law_11.at 26 rfl) rfl rfl ?_
  refine q_aload_nR hE 0 (dlL_law_11.at 27 rfl) rfl rfl ?_
  refine q_iload_n hE 3 (dlL_law_11.at 28 rfl) rfl rfl ?_
  refine q_iconst hE (dlL_law_11.at 29 rfl) ic_1 ?_
  refine q_iadd hE (dlL_law_11.at 30 rfl) ?_
  refine q_sld hE hX (dlL_law_11.at 31 rfl) hm (fun hm => ?_)
  refine q_aload_nR hE 0 (dlL_law_11.at 32 rfl) rfl rfl ?_
  refine q_iload_n hE 3 (dlL_law_11.at 33 rfl) rfl rfl ?_
  refine q_iconst hE (dlL_law_11.at 34 rfl) ic_2 ?_
  refine q_iadd hE (dlL_law_11.at 35 rfl) ?_
  refine q_sld hE hX (dlL_law_11.at 36 rfl) hm (fun hm => ?_)
  refine q_callV_l (X := fun z => WG V z o) hE (As := [_, _]) (dlL_law_11.at 37 rfl) mw_X9_odds wm_L_90 rfl rfl rfl rfl hnc hns rfl kc9 g0 rfl (ok_X9_odds hfx) hm (fun v60 h60 hm => ?_)
  refine q_aload_n hE 2 (dlL_law_11.at 38 rfl) rfl rfl ?_
  refine q_aload_nR hE 0 (dlL_law_11.at 39 rfl) rfl rfl ?_
  refine q_iload_n hE 3 (dlL_law_12.at 0 rfl) rfl rfl ?_
  refine q_iconst hE (dlL_law_12.at 1 rfl) ic_1 ?_
  refine q_iadd hE (dlL_law_12.at 2 rfl) ?_
  refine q_sld hE hX (dlL_law_12.at 3 rfl) hm (fun hm => ?_)
  refine q_aload_nR hE 0 (dlL_law_12.at 4 rfl) rfl rfl ?_
  refine q_iload_n hE 3 (dlL_law_12.at 5 rfl) rfl rfl ?_
  refine q_iconst hE (dlL_law_12.at 6 rfl) ic_2 ?_
  refine q_iadd hE (dlL_law_12.at 7 rfl) ?_
  refine q_sld hE hX (dlL_law_12.at 8 rfl) hm (fun hm => ?_)
  refine q_callV_l (X := fun z => WG V h60 z) hE (As := [_, _]) (dlL_law_12.at 9 rfl) mw_X10_odds wm_L_94 rfl rfl rfl rfl hnc hns rfl kc10 g102 rfl (ok_X10_odds hfx) hm (fun v61 h61 hm => ?_)
  refine q_lcmp hE (dlL_law_12.at 10 rfl) ?_
  refine q_if_eq hE (tgt := 1292) (dlL_law_12.at 11 rfl) (by decide) hm (fun _ hm => ?_) (fun _ hm => ?_)
  · refine q_iinc hE [(0, _), (1, _), (2, _), (3, _)] 3 (dlL_law_22.at 22 rfl) rfl ic_6 rfl rfl ?_
    refine q_goto hE (tgt := 18) (dlL_law_22.at 23 rfl) (by decide) ?_
    exact ih _ _ _ hm
  · refine q_iconst hE (dlL_law_12.at 12 rfl) ic_0 ?_
    exact absurd (Option.some.inj hm) (by decide)
set_option maxRecDepth 10000 in
theorem okc_law_19 {V : Ev} {l : Launch} {F : Nat} (hfx : V.2.2.2.2 = false) {E : Cx} {nc ns rc rs : Nat} (hE : CX E V l code RL 4 1000 rc rs (some .boolean)) (hnc : nc ≤ rc) (hns : ns ≤ rs) {b0 L : Nat} {xs : Nat → Int32} (hX : LX E V b0 L xs) (hQ : ∀ {pc : Nat} {lv : List (Nat × Value)} {hc hm : PH}, decode code pc = .ok (.ireturn, 1) → PW E V nc ns 143 (WG V hc hm) pc lv [.int 1]) {K : Int32 → PH → PH → Option Int32} (ih : ∀ (x3 : Int32) (h o : PH), K x3 h o = some 1 → PW E V nc ns 143 (WG V h o) 18 [(0, .ref b0), (1, rf V 0), (2, rf V 102), (3, .int x3)] []) {x3 : Int32} {h o : PH} (hm : fc_law_19 F xs L K x3 h o = some 1) : PW E V nc ns 143 (WG V h o) 782 [(0, .ref b0), (1, rf V 0), (2, rf V 102), (3, .int x3)] [] := by
  unfold fc_law_19 at hm
  refine q_aload_n hE 1 (dlL_law_12.at 14 rfl) rfl rfl ?_
  refine q_aload_nR hE 0 (dlL_law_12.at 15 rfl) rfl rfl ?_
  refine q_iload_n hE 3 (dlL_law_12.at 16 rfl) rfl rfl ?_
  refine q_iconst hE (dlL_law_12.at 17 rfl) ic_1 ?_
  refine q_iadd hE (dlL_law_12.at 18 rfl) ?_
  refine q_sld hE hX (dlL_law_12.at 19 rfl) hm (fun hm => ?_)
  refine q_callV_l (X := fun z => WG V z o) hE (As := [_]) (dlL_law_12.at 20 rfl) mw_X9_mean wm_L_95 rfl rfl rfl rfl hnc hns rfl kc9 g0 rfl (ok_X9_mean hfx) hm (fun v63 h63 hm => ?_)
  refine q_aload_n hE 2 (dlL_law_12.at 21 rfl) rfl rfl ?_
  refine q_aload_nR hE 0 (dlL_law_12.at 22 rfl) rfl rfl ?_
  refine q_iload_n hE 3 (dlL_law_12.at 23 rfl) rfl rfl ?_
  refine q_iconst hE (dlL_law_12.at 24 rfl) ic_1 ?_
  refine q_iadd hE (dlL_law_12.at 25 rfl) ?_
  refine q_sld hE hX (dlL_law_12.at 26 rfl) hm (fun hm => ?_)
  refine q_callV_l (X := fun z => WG V h63 z) hE (As := [_]) (dlL_law_12.at 27 rfl) mw_X10_mean wm_L_99 rfl rfl rfl rfl hnc hns rfl kc10 g102 rfl (ok_X10_mean hfx) hm (fun v64 h64 hm => ?_)
  refine q_lcmp hE (dlL_law_12.at 28 rfl) ?_
  refine q_if_eq hE (tgt := 1292) (dlL_law_12.at 29 rfl) (by decide) hm (fun _ hm => ?_) (fun _ hm => ?_)
  · refine q_iinc hE [(0, _), (1, _), (2, _), (3, _)] 3 (dlL_law_22.at 22 rfl) rfl ic_6 rfl rfl ?_
    refine q_goto hE (tgt := 18) (dlL_law_22.at 23 rfl) (by decide) ?_
    exact ih _ _ _ hm
  · refine q_iconst hE (dlL_law_12.at 30 rfl) ic_0 ?_
    exact absurd (Option.some.inj hm) (by decide)
set_option maxRecDepth 10000 in
theorem okc_law_20 {V : Ev} {l : Launch} {F : Nat} (hfx : V.2.2.2.2 = false) {E : Cx} {nc ns rc rs : Nat} (hE : CX E V l code RL 4 1000 rc rs (some .boolean)) (hnc : nc ≤ rc) (hns : ns ≤ rs) {b0 L : Nat} {xs : Nat → Int32} (hX : LX E V b0 L xs) (hQ : ∀ {pc : Nat} {lv : List (Nat × Value)} {hc hm : PH}, decode code pc = .ok (.ireturn, 1) → PW E V nc ns 143 (WG V hc hm) pc lv [.int 1]) {K : Int32 → PH → PH → Option Int32} (ih : ∀ (x3 : Int32) (h o : PH), K x3 h o = some 1 → PW E V nc ns 143 (WG V h o) 18 [(0, .ref b0), (1, rf V 0), (2, rf V 102), (3, .int x3)] []) {x3 : Int32} {h o : PH} (hm : fc_law_20 F xs L K x3 h o = some 1) : PW E V nc ns 143 (WG V h o) 806 [(0, .ref b0), (1, rf V 0), (2, rf V 102), (3, .int x3)] [] := by
  unfold fc_law_20 at hm
  refine q_aload_n hE 1 (dlL_law_12.at 32 rfl) rfl rfl ?_
  refine q_aload_nR hE 0 (dlL_law_12.at 33 rfl) rfl rfl ?_
  refine q_iload_n hE 3 (dlL_law_12.at 34 rfl) rfl rfl ?_
  refine q_iconst hE (dlL_law_12.at 35 rfl) ic_1 ?_
  refine q_iadd hE (dlL_law_12.at 36 rfl) ?_
  refine q_sld hE hX (dlL_law_12.at 37 rfl) hm (fun hm => ?_)
  refine q_callV_i (X := fun z => WG V z o) hE (As := [_]) (dlL_law_12.at 38 rfl) mw_X9_month wm_L_100 rfl rfl rfl rfl hnc hns rfl kc9 g0 rfl (ok_X9_month hfx) hm (fun v66 h66 hm => ?_)
  refine q_aload_n hE 2 (dlL_law_12.at 39 rfl) rfl rfl ?_
  refine q_aload_nR hE 0 (dlL_law_13.at 0 rfl) rfl rfl ?_
  refine q_iload_n hE 3 (dlL_law_13.at 1 rfl) rfl rfl ?_
  refine q_iconst hE (dlL_law_13.at 2 rfl) ic_1 ?_
  refine q_iadd hE (dlL_law_13.at 3 rfl) ?_
  refine q_sld hE hX (dlL_law_13.at 4 rfl) hm (fun hm => ?_)
  refine q_callV_i (X := fun z => WG V h66 z) hE (As := [_]) (dlL_law_13.at 5 rfl) mw_X10_month wm_L_103 rfl rfl rfl rfl hnc hns rfl kc10 g102 rfl (ok_X10_month hfx) hm (fun v67 h67 hm => ?_)
  refine q_icmp_eq hE (tgt := 1292) (dlL_law_13.at 6 rfl) (by decide) hm (fun _ hm => ?_) (fun _ hm => ?_)
  · refine q_iinc hE [(0, _), (1, _), (2, _), (3, _)] 3 (dlL_law_22.at 22 rfl) rfl ic_6 rfl rfl ?_
    refine q_goto hE (tgt := 18) (dlL_law_22.at 23 rfl) (by decide) ?_
    exact ih _ _ _ hm
  · refine q_iconst hE (dlL_law_13.at 7 rfl) ic_0 ?_
    exact absurd (Option.some.inj hm) (by decide)
set_option maxRecDepth 10000 in
theorem okc_law_21 {V : Ev} {l : Launch} {F : Nat} (hfx : V.2.2.2.2 = false) {E : Cx} {nc ns rc rs : Nat} (hE : CX E V l code RL 4 1000 rc rs (some .boolean)) (hnc : nc ≤ rc) (hns : ns ≤ rs) {b0 L : Nat} {xs : Nat → Int32} (hX : LX E V b0 L xs) (hQ : ∀ {pc : Nat} {lv : List (Nat × Value)} {hc hm : PH}, decode code pc = .ok (.ireturn, 1) → PW E V nc ns 143 (WG V hc hm) pc lv [.int 1]) {K : Int32 → PH → PH → Option Int32} (ih : ∀ (x3 : Int32) (h o : PH), K x3 h o = some 1 → PW E V nc ns 143 (WG V h o) 18 [(0, .ref b0), (1, rf V 0), (2, rf V 102), (3, .int x3)] []) {x3 : Int32} {h o : PH} (hm : fc_law_21 F xs L K x3 h o = some 1) : PW E V nc ns 143 (WG V h o) 829 [(0, .ref b0), (1, rf V 0), (2, rf V 102), (3, .int x3)] [] := by
  unfold fc_law_21 at hm
  refine q_aload_n hE 1 (dlL_law_13.at 9 rfl) rfl rfl ?_
  refine q_aload_nR hE 0 (dlL_law_13.at 10 rfl) rfl rfl ?_
  refine q_iload_n hE 3 (dlL_law_13.at 11 rfl) rfl rfl ?_
  refine q_iconst hE (dlL_law_13.at 12 rfl) ic_1 ?_
  refine q_iadd hE (dlL_law_13.at 13 rfl) ?_
  refine q_sld hE hX (dlL_law_13.at 14 rfl) hm (fun hm => ?_)
  refine q_callV_i (X := fun z => WG V z o) hE (As := [_]) (dlL_law_13.at 15 rfl) mw_X9_ends wm_L_104 rfl rfl rfl rfl hnc hns rfl kc9 g0 rfl (ok_X9_ends hfx) hm (fun v69 h69 hm => ?_)
  refine q_aload_n hE 2 (dlL_law_13.at 16 rfl) rfl rfl ?_
  refine q_aload_nR hE 0 (dlL_law_13.at 17 rfl) rfl rfl ?_
  refine q_iload_n hE 3 (dlL_law_13.at 18 rfl) rfl rfl ?_
  refine q_iconst hE (dlL_law_13.at 19 rfl) ic_1 ?_
  refine q_iadd hE (dlL_law_13.at 20 rfl) ?_
  refine q_sld hE hX (dlL_law_13.at 21 rfl) hm (fun hm => ?_)
  refine q_callV_i (X := fun z => WG V h69 z) hE (As := [_]) (dlL_law_13.at 22 rfl) mw_X10_ends wm_L_107 rfl rfl rfl rfl hnc hns rfl kc10 g102 rfl (ok_X10_ends hfx) hm (fun v70 h70 hm => ?_)
  refine q_icmp_eq hE (tgt := 1292) (dlL_law_13.at 23 rfl) (by decide) hm (fun _ hm => ?_) (fun _ hm => ?_)
  · refine q_iinc hE [(0, _), (1, _), (2, _), (3, _)] 3 (dlL_law_22.at 22 rfl) rfl ic_6 rfl rfl ?_
    refine q_goto hE (tgt := 18) (dlL_law_22.at 23 rfl) (by decide) ?_
    exact ih _ _ _ hm
  · refine q_iconst hE (dlL_law_13.at 24 rfl) ic_0 ?_
    exact absurd (Option.some.inj hm) (by decide)
set_option maxRecDepth 10000 in
theorem okc_law_22 {V : Ev} {l : Launch} {F : Nat} (hfx : V.2.2.2.2 = false) {E : Cx} {nc ns rc rs : Nat} (hE : CX E V l code RL 4 1000 rc rs (some .boolean)) (hnc : nc ≤ rc) (hns : ns ≤ rs) {b0 L : Nat} {xs : Nat → Int32} (hX : LX E V b0 L xs) (hQ : ∀ {pc : Nat} {lv : List (Nat × Value)} {hc hm : PH}, decode code pc = .ok (.ireturn, 1) → PW E V nc ns 143 (WG V hc hm) pc lv [.int 1]) {K : Int32 → PH → PH → Option Int32} (ih : ∀ (x3 : Int32) (h o : PH), K x3 h o = some 1 → PW E V nc ns 143 (WG V h o) 18 [(0, .ref b0), (1, rf V 0), (2, rf V 102), (3, .int x3)] []) {x3 : Int32} {h o : PH} (hm : fc_law_22 F xs L K x3 h o = some 1) : PW E V nc ns 143 (WG V h o) 852 [(0, .ref b0), (1, rf V 0), (2, rf V 102), (3, .int x3)] [] := by
  unfold fc_law_22 at hm
  refine q_aload_n hE 1 (dlL_law_13.at 26 rfl) rfl rfl ?_
  refine q_aload_nR hE 0 (dlL_law_13.at 27 rfl) rfl rfl ?_
  refine q_iload_n hE 3 (dlL_law_13.at 28 rfl) rfl rfl ?_
  refine q_iconst hE (dlL_law_13.at 29 rfl) ic_1 ?_
  refine q_iadd hE (dlL_law_13.at 30 rfl) ?_
  refine q_sld hE hX (dlL_law_13.at 31 rfl) hm (fun hm => ?_)
  refine q_aload_nR hE 0 (dlL_law_13.at 32 rfl) rfl rfl ?_
  refine q_iload_n hE 3 (dlL_law_13.at 33 rfl) rfl rfl ?_
  refine q_iconst hE (dlL_law_13.at 34 rfl) ic_2 ?_
  refine q_iadd hE (dlL_law_13.at 35 rfl) ?_
  refine q_sld hE hX (dlL_law_13.at 36 rfl) hm (fun hm => ?_)
  refine q_callV_i (X := fun z => WG V z o) hE (As := [_, _]) (dlL_law_13.at 37 rfl) mw_X9_book wm_L_108 rfl rfl rfl rfl hnc hns rfl kc9 g0 rfl (ok_X9_book hfx) hm (fun v72 h72 hm => ?_)
  refine q_aload_n hE 2 (dlL_law_13.at 38 rfl) rfl rfl ?_
  refine q_aload_nR hE 0 (dlL_law_13.at 39 rfl) rfl rfl ?_
  refine q_iload_n hE 3 (dlL_law_14.at 0 rfl) rfl rfl ?_
  refine q_iconst hE (dlL_law_14.at 1 rfl) ic_1 ?_
  refine q_iadd hE (dlL_law_14.at 2 rfl) ?_
  refine q_sld hE hX (dlL_law_14.at 3 rfl) hm (fun hm => ?_)
  refine q_aload_nR hE 0 (dlL_law_14.at 4 rfl) rfl rfl ?_
  refine q_iload_n hE 3 (dlL_law_14.at 5 rfl) rfl rfl ?_
  refine q_iconst hE (dlL_law_14.at 6 rfl) ic_2 ?_
  refine q_iadd hE (dlL_law_14.at 7 rfl) ?_
  refine q_sld hE hX (dlL_law_14.at 8 rfl) hm (fun hm => ?_)
  refine q_callV_i (X := fun z => WG V h72 z) hE (As := [_, _]) (dlL_law_14.at 9 rfl) mw_X10_book wm_L_111 rfl rfl rfl rfl hnc hns rfl kc10 g102 rfl (ok_X10_book hfx) hm (fun v73 h73 hm => ?_)
  refine q_icmp_eq hE (tgt := 1292) (dlL_law_14.at 10 rfl) (by decide) hm (fun _ hm => ?_) (fun _ hm => ?_)
  · refine q_iinc hE [(0, _), (1, _), (2, _), (3, _)] 3 (dlL_law_22.at 22 rfl) rfl ic_6 rfl rfl ?_
    refine q_goto hE (tgt := 18) (dlL_law_22.at 23 rfl) (by decide) ?_
    exact ih _ _ _ hm
  · refine q_iconst hE (dlL_law_14.at 11 rfl) ic_0 ?_
    exact absurd (Option.some.inj hm) (by decide)
set_option maxRecDepth 10000 in
theorem okc_law_23 {V : Ev} {l : Launch} {F : Nat} (hfx : V.2.2.2.2 = false) {E : Cx} {nc ns rc rs : Nat} (hE : CX E V l code RL 4 1000 rc rs (some .boolean)) (hnc : nc ≤ rc) (hns : ns ≤ rs) {b0 L : Nat} {xs : Nat → Int32} (hX : LX E V b0 L xs) (hQ : ∀ {pc : Nat} {lv : List (Nat × Value)} {hc hm : PH}, decode code pc = .ok (.ireturn, 1) → PW E V nc ns 143 (WG V hc hm) pc lv [.int 1]) {K : Int32 → PH → PH → Option Int32} (ih : ∀ (x3 : Int32) (h o : PH), K x3 h o = some 1 → PW E V nc ns 143 (WG V h o) 18 [(0, .ref b0), (1, rf V 0), (2, rf V 102), (3, .int x3)] []) {x3 : Int32} {h o : PH} (hm : fc_law_23 F xs L K x3 h o = some 1) : PW E V nc ns 143 (WG V h o) 885 [(0, .ref b0), (1, rf V 0), (2, rf V 102), (3, .int x3)] [] := by
  unfold fc_law_23 at hm
  refine q_aload_n hE 1 (dlL_law_14.at 13 rfl) rfl rfl ?_
  refine q_callV_i (X := fun z => WG V z o) hE (As := []) (dlL_law_14.at 14 rfl) mw_X9_looked wm_L_112 rfl rfl rfl rfl hnc hns rfl kc9 g0 rfl (ok_X9_looked hfx) hm (fun v75 h75 hm => ?_)
  refine q_aload_n hE 2 (dlL_law_14.at 15 rfl) rfl rfl ?_
  refine q_callV_i (X := fun z => WG V h75 z) hE (As := []) (dlL_law_14.at 16 rfl) mw_X10_looked wm_L_115 rfl rfl rfl rfl hnc hns rfl kc10 g102 rfl (ok_X10_looked hfx) hm (fun v76 h76 hm => ?_)
  refine q_icmp_eq hE (tgt := 1292) (dlL_law_14.at 17 rfl) (by decide) hm (fun _ hm => ?_) (fun _ hm => ?_)
  · refine q_iinc hE [(0, _), (1, _), (2, _), (3, _)] 3 (dlL_law_22.at 22 rfl) rfl ic_6 rfl rfl ?_
    refine q_goto hE (tgt := 18) (dlL_law_22.at 23 rfl) (by decide) ?_
    exact ih _ _ _ hm
  · refine q_iconst hE (dlL_law_14.at 18 rfl) ic_0 ?_
    exact absurd (Option.some.inj hm) (by decide)
set_option maxRecDepth 10000 in
theorem okc_law_24 {V : Ev} {l : Launch} {F : Nat} (hfx : V.2.2.2.2 = false) {E : Cx} {nc ns rc rs : Nat} (hE : CX E V l code RL 4 1000 rc rs (some .boolean)) (hnc : nc ≤ rc) (hns : ns ≤ rs) {b0 L : Nat} {xs : Nat → Int32} (hX : LX E V b0 L xs) (hQ : ∀ {pc : Nat} {lv : List (Nat × Value)} {hc hm : PH}, decode code pc = .ok (.ireturn, 1) → PW E V nc ns 143 (WG V hc hm) pc lv [.int 1]) {K : Int32 → PH → PH → Option Int32} (ih : ∀ (x3 : Int32) (h o : PH), K x3 h o = some 1 → PW E V nc ns 143 (WG V h o) 18 [(0, .ref b0), (1, rf V 0), (2, rf V 102), (3, .int x3)] []) {x3 : Int32} {h o : PH} (hm : fc_law_24 F xs L K x3 h o = some 1) : PW E V nc ns 143 (WG V h o) 898 [(0, .ref b0), (1, rf V 0), (2, rf V 102), (3, .int x3)] [] := by
  unfold fc_law_24 at hm
  refine q_aload_n hE 1 (dlL_law_14.at 20 rfl) rfl rfl ?_
  refine q_aload_nR hE 0 (dlL_law_14.at 21 rfl) rfl rfl ?_
  refine q_iload_n hE 3 (dlL_law_14.at 22 rfl) rfl rfl ?_
  refine q_iconst hE (dlL_law_14.at 23 rfl) ic_1 ?_
  refine q_iadd hE (dlL_law_14.at 24 rfl) ?_
  refine q_sld hE hX (dlL_law_14.at 25 rfl) hm (fun hm => ?_)
  refine q_aload_nR hE 0 (dlL_law_14.at 26 rfl) rfl rfl ?_
  refine q_iload_n hE 3 (dlL_law_14.at 27 rfl) rfl rfl ?_
  refine q_iconst hE (dlL_law_14.at 28 rfl) ic_2 ?_
  refine q_iadd hE (dlL_law_14.at 29 rfl) ?_
  refine q_sld hE hX (dlL_law_14.at 30 rfl) hm (fun hm => ?_)
  refine q_callV_i (X := fun z => WG V z o) hE (As := [_, _]) (dlL_law_14.at 31 rfl) mw_X9_judge wm_L_116 rfl rfl rfl rfl hnc hns rfl kc9 g0 rfl (ok_X9_judge hfx) hm (fun v78 h78 hm => ?_)
  refine q_aload_n hE 2 (dlL_law_14.at 32 rfl) rfl rfl ?_
  refine q_aload_nR hE 0 (dlL_law_14.at 33 rfl) rfl rfl ?_
  refine q_iload_n hE 3 (dlL_law_14.at 34 rfl) rfl rfl ?_
  refine q_iconst hE (dlL_law_14.at 35 rfl) ic_1 ?_
  refine q_iadd hE (dlL_law_14.at 36 rfl) ?_
  refine q_sld hE hX (dlL_law_14.at 37 rfl) hm (fun hm => ?_)
  refine q_aload_nR hE 0 (dlL_law_14.at 38 rfl) rfl rfl ?_
  refine q_iload_n hE 3 (dlL_law_14.at 39 rfl) rfl rfl ?_
  refine q_iconst hE (dlL_law_15.at 0 rfl) ic_2 ?_
  refine q_iadd hE (dlL_law_15.at 1 rfl) ?_
  refine q_sld hE hX (dlL_law_15.at 2 rfl) hm (fun hm => ?_)
  refine q_callV_i (X := fun z => WG V h78 z) hE (As := [_, _]) (dlL_law_15.at 3 rfl) mw_X10_judge wm_L_119 rfl rfl rfl rfl hnc hns rfl kc10 g102 rfl (ok_X10_judge hfx) hm (fun v79 h79 hm => ?_)
  refine q_icmp_eq hE (tgt := 1292) (dlL_law_15.at 4 rfl) (by decide) hm (fun _ hm => ?_) (fun _ hm => ?_)
  · refine q_iinc hE [(0, _), (1, _), (2, _), (3, _)] 3 (dlL_law_22.at 22 rfl) rfl ic_6 rfl rfl ?_
    refine q_goto hE (tgt := 18) (dlL_law_22.at 23 rfl) (by decide) ?_
    exact ih _ _ _ hm
  · refine q_iconst hE (dlL_law_15.at 5 rfl) ic_0 ?_
    exact absurd (Option.some.inj hm) (by decide)
set_option maxRecDepth 10000 in
theorem okc_law_25 {V : Ev} {l : Launch} {F : Nat} (hfx : V.2.2.2.2 = false) {E : Cx} {nc ns rc rs : Nat} (hE : CX E V l code RL 4 1000 rc rs (some .boolean)) (hnc : nc ≤ rc) (hns : ns ≤ rs) {b0 L : Nat} {xs : Nat → Int32} (hX : LX E V b0 L xs) (hQ : ∀ {pc : Nat} {lv : List (Nat × Value)} {hc hm : PH}, decode code pc = .ok (.ireturn, 1) → PW E V nc ns 143 (WG V hc hm) pc lv [.int 1]) {K : Int32 → PH → PH → Option Int32} (ih : ∀ (x3 : Int32) (h o : PH), K x3 h o = some 1 → PW E V nc ns 143 (WG V h o) 18 [(0, .ref b0), (1, rf V 0), (2, rf V 102), (3, .int x3)] []) {x3 : Int32} {h o : PH} (hm : fc_law_25 F xs L K x3 h o = some 1) : PW E V nc ns 143 (WG V h o) 931 [(0, .ref b0), (1, rf V 0), (2, rf V 102), (3, .int x3)] [] := by
  unfold fc_law_25 at hm
  refine q_aload_n hE 1 (dlL_law_15.at 7 rfl) rfl rfl ?_
  refine q_callV_i (X := fun z => WG V z o) hE (As := []) (dlL_law_15.at 8 rfl) mw_X9_image wm_L_120 rfl rfl rfl rfl hnc hns rfl kc9 g0 rfl (ok_X9_image hfx) hm (fun v81 h81 hm => ?_)
  refine q_aload_n hE 2 (dlL_law_15.at 9 rfl) rfl rfl ?_
  refine q_callV_i (X := fun z => WG V h81 z) hE (As := []) (dlL_law_15.at 10 rfl) mw_X10_image wm_L_123 rfl rfl rfl rfl hnc hns rfl kc10 g102 rfl (ok_X10_image hfx) hm (fun v82 h82 hm => ?_)
  refine q_icmp_eq hE (tgt := 1292) (dlL_law_15.at 11 rfl) (by decide) hm (fun _ hm => ?_) (fun _ hm => ?_)
  · refine q_iinc hE [(0, _), (1, _), (2, _), (3, _)] 3 (dlL_law_22.at 22 rfl) rfl ic_6 rfl rfl ?_
    refine q_goto hE (tgt := 18) (dlL_law_22.at 23 rfl) (by decide) ?_
    exact ih _ _ _ hm
  · refine q_iconst hE (dlL_law_15.at 12 rfl) ic_0 ?_
    exact absurd (Option.some.inj hm) (by decide)
set_option maxRecDepth 10000 in
theorem okc_law_26 {V : Ev} {l : Launch} {F : Nat} (hfx : V.2.2.2.2 = false) {E : Cx} {nc ns rc rs : Nat} (hE : CX E V l code RL 4 1000 rc rs (some .boolean)) (hnc : nc ≤ rc) (hns : ns ≤ rs) {b0 L : Nat} {xs : Nat → Int32} (hX : LX E V b0 L xs) (hQ : ∀ {pc : Nat} {lv : List (Nat × Value)} {hc hm : PH}, decode code pc = .ok (.ireturn, 1) → PW E V nc ns 143 (WG V hc hm) pc lv [.int 1]) {K : Int32 → PH → PH → Option Int32} (ih : ∀ (x3 : Int32) (h o : PH), K x3 h o = some 1 → PW E V nc ns 143 (WG V h o) 18 [(0, .ref b0), (1, rf V 0), (2, rf V 102), (3, .int x3)] []) {x3 : Int32} {h o : PH} (hm : fc_law_26 F xs L K x3 h o = some 1) : PW E V nc ns 143 (WG V h o) 944 [(0, .ref b0), (1, rf V 0), (2, rf V 102), (3, .int x3)] [] := by
  unfold fc_law_26 at hm
  refine q_aload_n hE 1 (dlL_law_15.at 14 rfl) rfl rfl ?_
  refine q_callV_i (X := fun z => WG V z o) hE (As := []) (dlL_law_15.at 15 rfl) mw_X9_undo wm_L_124 rfl rfl rfl rfl hnc hns rfl kc9 g0 rfl (ok_X9_undo hfx) hm (fun v84 h84 hm => ?_)
  refine q_aload_n hE 2 (dlL_law_15.at 16 rfl) rfl rfl ?_
  refine q_callV_i (X := fun z => WG V h84 z) hE (As := []) (dlL_law_15.at 17 rfl) mw_X10_undo wm_L_127 rfl rfl rfl rfl hnc hns rfl kc10 g102 rfl (ok_X10_undo hfx) hm (fun v85 h85 hm => ?_)
  refine q_icmp_eq hE (tgt := 1292) (dlL_law_15.at 18 rfl) (by decide) hm (fun _ hm => ?_) (fun _ hm => ?_)
  · refine q_iinc hE [(0, _), (1, _), (2, _), (3, _)] 3 (dlL_law_22.at 22 rfl) rfl ic_6 rfl rfl ?_
    refine q_goto hE (tgt := 18) (dlL_law_22.at 23 rfl) (by decide) ?_
    exact ih _ _ _ hm
  · refine q_iconst hE (dlL_law_15.at 19 rfl) ic_0 ?_
    exact absurd (Option.some.inj hm) (by decide)
set_option maxRecDepth 10000 in
theorem okc_law_27 {V : Ev} {l : Launch} {F : Nat} (hfx : V.2.2.2.2 = false) {E : Cx} {nc ns rc rs : Nat} (hE : CX E V l code RL 4 1000 rc rs (some .boolean)) (hnc : nc ≤ rc) (hns : ns ≤ rs) {b0 L : Nat} {xs : Nat → Int32} (hX : LX E V b0 L xs) (hQ : ∀ {pc : Nat} {lv : List (Nat × Value)} {hc hm : PH}, decode code pc = .ok (.ireturn, 1) → PW E V nc ns 143 (WG V hc hm) pc lv [.int 1]) {K : Int32 → PH → PH → Option Int32} (ih : ∀ (x3 : Int32) (h o : PH), K x3 h o = some 1 → PW E V nc ns 143 (WG V h o) 18 [(0, .ref b0), (1, rf V 0), (2, rf V 102), (3, .int x3)] []) {x3 : Int32} {h o : PH} (hm : fc_law_27 F xs L K x3 h o = some 1) : PW E V nc ns 143 (WG V h o) 957 [(0, .ref b0), (1, rf V 0), (2, rf V 102), (3, .int x3)] [] := by
  unfold fc_law_27 at hm
  refine q_aload_n hE 1 (dlL_law_15.at 21 rfl) rfl rfl ?_
  refine q_aload_nR hE 0 (dlL_law_15.at 22 rfl) rfl rfl ?_
  refine q_iload_n hE 3 (dlL_law_15.at 23 rfl) rfl rfl ?_
  refine q_iconst hE (dlL_law_15.at 24 rfl) ic_1 ?_
  refine q_iadd hE (dlL_law_15.at 25 rfl) ?_
  refine q_sld hE hX (dlL_law_15.at 26 rfl) hm (fun hm => ?_)
  refine q_aload_nR hE 0 (dlL_law_15.at 27 rfl) rfl rfl ?_
  refine q_iload_n hE 3 (dlL_law_15.at 28 rfl) rfl rfl ?_
  refine q_iconst hE (dlL_law_15.at 29 rfl) ic_2 ?_
  refine q_iadd hE (dlL_law_15.at 30 rfl) ?_
  refine q_sld hE hX (dlL_law_15.at 31 rfl) hm (fun hm => ?_)
  refine q_aload_nR hE 0 (dlL_law_15.at 32 rfl) rfl rfl ?_
  refine q_iload_n hE 3 (dlL_law_15.at 33 rfl) rfl rfl ?_
  refine q_iconst hE (dlL_law_15.at 34 rfl) ic_3 ?_
  refine q_iadd hE (dlL_law_15.at 35 rfl) ?_
  refine q_sld hE hX (dlL_law_15.at 36 rfl) hm (fun hm => ?_)
  refine q_callV_i (X := fun z => WG V z o) hE (As := [_, _, _]) (dlL_law_15.at 37 rfl) mw_X9_act wm_L_128 rfl rfl rfl rfl hnc hns rfl kc9 g0 rfl (ok_X9_act hfx) hm (fun v87 h87 hm => ?_)
  refine q_aload_n hE 2 (dlL_law_15.at 38 rfl) rfl rfl ?_
  refine q_aload_nR hE 0 (dlL_law_15.at 39 rfl) rfl rfl ?_
  refine q_iload_n hE 3 (dlL_law_16.at 0 rfl) rfl rfl ?_
  refine q_iconst hE (dlL_law_16.at 1 rfl) ic_1 ?_
  refine q_iadd hE (dlL_law_16.at 2 rfl) ?_
  refine q_sld hE hX (dlL_law_16.at 3 rfl) hm (fun hm => ?_)
  refine q_aload_nR hE 0 (dlL_law_16.at 4 rfl) rfl rfl ?_
  refine q_iload_n hE 3 (dlL_law_16.at 5 rfl) rfl rfl ?_
  refine q_iconst hE (dlL_law_16.at 6 rfl) ic_2 ?_
  refine q_iadd hE (dlL_law_16.at 7 rfl) ?_
  refine q_sld hE hX (dlL_law_16.at 8 rfl) hm (fun hm => ?_)
  refine q_aload_nR hE 0 (dlL_law_16.at 9 rfl) rfl rfl ?_
  refine q_iload_n hE 3 (dlL_law_16.at 10 rfl) rfl rfl ?_
  refine q_iconst hE (dlL_law_16.at 11 rfl) ic_3 ?_
  refine q_iadd hE (dlL_law_16.at 12 rfl) ?_
  refine q_sld hE hX (dlL_law_16.at 13 rfl) hm (fun hm => ?_)
  refine q_callV_i (X := fun z => WG V h87 z) hE (As := [_, _, _]) (dlL_law_16.at 14 rfl) mw_X10_act wm_L_131 rfl rfl rfl rfl hnc hns rfl kc10 g102 rfl (ok_X10_act hfx) hm (fun v88 h88 hm => ?_)
  refine q_icmp_eq hE (tgt := 1292) (dlL_law_16.at 15 rfl) (by decide) hm (fun _ hm => ?_) (fun _ hm => ?_)
  · refine q_iinc hE [(0, _), (1, _), (2, _), (3, _)] 3 (dlL_law_22.at 22 rfl) rfl ic_6 rfl rfl ?_
    refine q_goto hE (tgt := 18) (dlL_law_22.at 23 rfl) (by decide) ?_
    exact ih _ _ _ hm
  · refine q_iconst hE (dlL_law_16.at 16 rfl) ic_0 ?_
    exact absurd (Option.some.inj hm) (by decide)
set_option maxRecDepth 10000 in
theorem okc_law_28 {V : Ev} {l : Launch} {F : Nat} (hfx : V.2.2.2.2 = false) {E : Cx} {nc ns rc rs : Nat} (hE : CX E V l code RL 4 1000 rc rs (some .boolean)) (hnc : nc ≤ rc) (hns : ns ≤ rs) {b0 L : Nat} {xs : Nat → Int32} (hX : LX E V b0 L xs) (hQ : ∀ {pc : Nat} {lv : List (Nat × Value)} {hc hm : PH}, decode code pc = .ok (.ireturn, 1) → PW E V nc ns 143 (WG V hc hm) pc lv [.int 1]) {K : Int32 → PH → PH → Option Int32} (ih : ∀ (x3 : Int32) (h o : PH), K x3 h o = some 1 → PW E V nc ns 143 (WG V h o) 18 [(0, .ref b0), (1, rf V 0), (2, rf V 102), (3, .int x3)] []) {x3 : Int32} {h o : PH} (hm : fc_law_28 F xs L K x3 h o = some 1) : PW E V nc ns 143 (WG V h o) 1000 [(0, .ref b0), (1, rf V 0), (2, rf V 102), (3, .int x3)] [] := by
  unfold fc_law_28 at hm
  refine q_aload_n hE 1 (dlL_law_16.at 18 rfl) rfl rfl ?_
  refine q_aload_nR hE 0 (dlL_law_16.at 19 rfl) rfl rfl ?_
  refine q_iload_n hE 3 (dlL_law_16.at 20 rfl) rfl rfl ?_
  refine q_iconst hE (dlL_law_16.at 21 rfl) ic_1 ?_
  refine q_iadd hE (dlL_law_16.at 22 rfl) ?_
  refine q_sld hE hX (dlL_law_16.at 23 rfl) hm (fun hm => ?_)
  refine q_callV_i (X := fun z => WG V z o) hE (As := [_]) (dlL_law_16.at 24 rfl) mw_X9_trace wm_L_132 rfl rfl rfl rfl hnc hns rfl kc9 g0 rfl (ok_X9_trace hfx) hm (fun v90 h90 hm => ?_)
  refine q_aload_n hE 2 (dlL_law_16.at 25 rfl) rfl rfl ?_
  refine q_aload_nR hE 0 (dlL_law_16.at 26 rfl) rfl rfl ?_
  refine q_iload_n hE 3 (dlL_law_16.at 27 rfl) rfl rfl ?_
  refine q_iconst hE (dlL_law_16.at 28 rfl) ic_1 ?_
  refine q_iadd hE (dlL_law_16.at 29 rfl) ?_
  refine q_sld hE hX (dlL_law_16.at 30 rfl) hm (fun hm => ?_)
  refine q_callV_i (X := fun z => WG V h90 z) hE (As := [_]) (dlL_law_16.at 31 rfl) mw_X10_trace wm_L_135 rfl rfl rfl rfl hnc hns rfl kc10 g102 rfl (ok_X10_trace hfx) hm (fun v91 h91 hm => ?_)
  refine q_icmp_eq hE (tgt := 1292) (dlL_law_16.at 32 rfl) (by decide) hm (fun _ hm => ?_) (fun _ hm => ?_)
  · refine q_iinc hE [(0, _), (1, _), (2, _), (3, _)] 3 (dlL_law_22.at 22 rfl) rfl ic_6 rfl rfl ?_
    refine q_goto hE (tgt := 18) (dlL_law_22.at 23 rfl) (by decide) ?_
    exact ih _ _ _ hm
  · refine q_iconst hE (dlL_law_16.at 33 rfl) ic_0 ?_
    exact absurd (Option.some.inj hm) (by decide)
set_option maxRecDepth 10000 in
theorem okc_law_29 {V : Ev} {l : Launch} {F : Nat} (hfx : V.2.2.2.2 = false) {E : Cx} {nc ns rc rs : Nat} (hE : CX E V l code RL 4 1000 rc rs (some .boolean)) (hnc : nc ≤ rc) (hns : ns ≤ rs) {b0 L : Nat} {xs : Nat → Int32} (hX : LX E V b0 L xs) (hQ : ∀ {pc : Nat} {lv : List (Nat × Value)} {hc hm : PH}, decode code pc = .ok (.ireturn, 1) → PW E V nc ns 143 (WG V hc hm) pc lv [.int 1]) {K : Int32 → PH → PH → Option Int32} (ih : ∀ (x3 : Int32) (h o : PH), K x3 h o = some 1 → PW E V nc ns 143 (WG V h o) 18 [(0, .ref b0), (1, rf V 0), (2, rf V 102), (3, .int x3)] []) {x3 : Int32} {h o : PH} (hm : fc_law_29 F xs L K x3 h o = some 1) : PW E V nc ns 143 (WG V h o) 1023 [(0, .ref b0), (1, rf V 0), (2, rf V 102), (3, .int x3)] [] := by
  unfold fc_law_29 at hm
  refine q_aload_n hE 1 (dlL_law_16.at 35 rfl) rfl rfl ?_
  refine q_aload_nR hE 0 (dlL_law_16.at 36 rfl) rfl rfl ?_
  refine q_iload_n hE 3 (dlL_law_16.at 37 rfl) rfl rfl ?_
  refine q_iconst hE (dlL_law_16.at 38 rfl) ic_1 ?_
  refine q_iadd hE (dlL_law_16.at 39 rfl) ?_
  refine q_sld hE hX (dlL_law_17.at 0 rfl) hm (fun hm => ?_)
  refine q_aload_nR hE 0 (dlL_law_17.at 1 rfl) rfl rfl ?_
  refine q_iload_n hE 3 (dlL_law_17.at 2 rfl) rfl rfl ?_
  refine q_iconst hE (dlL_law_17.at 3 rfl) ic_2 ?_
  refine q_iadd hE (dlL_law_17.at 4 rfl) ?_
  refine q_sld hE hX (dlL_law_17.at 5 rfl) hm (fun hm => ?_)
  refine q_callV_i (X := fun z => WG V z o) hE (As := [_, _]) (dlL_law_17.at 6 rfl) mw_X9_taken wm_L_136 rfl rfl rfl rfl hnc hns rfl kc9 g0 rfl (ok_X9_taken hfx) hm (fun v93 h93 hm => ?_)
  refine q_aload_n hE 2 (dlL_law_17.at 7 rfl) rfl rfl ?_
  refine q_aload_nR hE 0 (dlL_law_17.at 8 rfl) rfl rfl ?_
  refine q_iload_n hE 3 (dlL_law_17.at 9 rfl) rfl rfl ?_
  refine q_iconst hE (dlL_law_17.at 10 rfl) ic_1 ?_
  refine q_iadd hE (dlL_law_17.at 11 rfl) ?_
  refine q_sld hE hX (dlL_law_17.at 12 rfl) hm (fun hm => ?_)
  refine q_aload_nR hE 0 (dlL_law_17.at 13 rfl) rfl rfl ?_
  refine q_iload_n hE 3 (dlL_law_17.at 14 rfl) rfl rfl ?_
  refine q_iconst hE (dlL_law_17.at 15 rfl) ic_2 ?_
  refine q_iadd hE (dlL_law_17.at 16 rfl) ?_
  refine q_sld hE hX (dlL_law_17.at 17 rfl) hm (fun hm => ?_)
  refine q_callV_i (X := fun z => WG V h93 z) hE (As := [_, _]) (dlL_law_17.at 18 rfl) mw_X10_taken wm_L_139 rfl rfl rfl rfl hnc hns rfl kc10 g102 rfl (ok_X10_taken hfx) hm (fun v94 h94 hm => ?_)
  refine q_icmp_eq hE (tgt := 1292) (dlL_law_17.at 19 rfl) (by decide) hm (fun _ hm => ?_) (fun _ hm => ?_)
  · refine q_iinc hE [(0, _), (1, _), (2, _), (3, _)] 3 (dlL_law_22.at 22 rfl) rfl ic_6 rfl rfl ?_
    refine q_goto hE (tgt := 18) (dlL_law_22.at 23 rfl) (by decide) ?_
    exact ih _ _ _ hm
  · refine q_iconst hE (dlL_law_17.at 20 rfl) ic_0 ?_
    exact absurd (Option.some.inj hm) (by decide)
set_option maxRecDepth 10000 in
theorem okc_law_30 {V : Ev} {l : Launch} {F : Nat} (hfx : V.2.2.2.2 = false) {E : Cx} {nc ns rc rs : Nat} (hE : CX E V l code RL 4 1000 rc rs (some .boolean)) (hnc : nc ≤ rc) (hns : ns ≤ rs) {b0 L : Nat} {xs : Nat → Int32} (hX : LX E V b0 L xs) (hQ : ∀ {pc : Nat} {lv : List (Nat × Value)} {hc hm : PH}, decode code pc = .ok (.ireturn, 1) → PW E V nc ns 143 (WG V hc hm) pc lv [.int 1]) {K : Int32 → PH → PH → Option Int32} (ih : ∀ (x3 : Int32) (h o : PH), K x3 h o = some 1 → PW E V nc ns 143 (WG V h o) 18 [(0, .ref b0), (1, rf V 0), (2, rf V 102), (3, .int x3)] []) {x3 : Int32} {h o : PH} (hm : fc_law_30 F xs L K x3 h o = some 1) : PW E V nc ns 143 (WG V h o) 1056 [(0, .ref b0), (1, rf V 0), (2, rf V 102), (3, .int x3)] [] := by
  unfold fc_law_30 at hm
  refine q_aload_n hE 1 (dlL_law_17.at 22 rfl) rfl rfl ?_
  refine q_aload_nR hE 0 (dlL_law_17.at 23 rfl) rfl rfl ?_
  refine q_iload_n hE 3 (dlL_law_17.at 24 rfl) rfl rfl ?_
  refine q_iconst hE (dlL_law_17.at 25 rfl) ic_1 ?_
  refine q_iadd hE (dlL_law_17.at 26 rfl) ?_
  refine q_sld hE hX (dlL_law_17.at 27 rfl) hm (fun hm => ?_)
  refine q_callV_i (X := fun z => WG V z o) hE (As := [_]) (dlL_law_17.at 28 rfl) mw_X9_count wm_L_140 rfl rfl rfl rfl hnc hns rfl kc9 g0 rfl (ok_X9_count hfx) hm (fun v96 h96 hm => ?_)
  refine q_aload_n hE 2 (dlL_law_17.at 29 rfl) rfl rfl ?_
  refine q_aload_nR hE 0 (dlL_law_17.at 30 rfl) rfl rfl ?_
  refine q_iload_n hE 3 (dlL_law_17.at 31 rfl) rfl rfl ?_
  refine q_iconst hE (dlL_law_17.at 32 rfl) ic_1 ?_
  refine q_iadd hE (dlL_law_17.at 33 rfl) ?_
  refine q_sld hE hX (dlL_law_17.at 34 rfl) hm (fun hm => ?_)
  refine q_callV_i (X := fun z => WG V h96 z) hE (As := [_]) (dlL_law_17.at 35 rfl) mw_X10_count wm_L_143 rfl rfl rfl rfl hnc hns rfl kc10 g102 rfl (ok_X10_count hfx) hm (fun v97 h97 hm => ?_)
  refine q_icmp_eq hE (tgt := 1292) (dlL_law_17.at 36 rfl) (by decide) hm (fun _ hm => ?_) (fun _ hm => ?_)
  · refine q_iinc hE [(0, _), (1, _), (2, _), (3, _)] 3 (dlL_law_22.at 22 rfl) rfl ic_6 rfl rfl ?_
    refine q_goto hE (tgt := 18) (dlL_law_22.at 23 rfl) (by decide) ?_
    exact ih _ _ _ hm
  · refine q_iconst hE (dlL_law_17.at 37 rfl) ic_0 ?_
    exact absurd (Option.some.inj hm) (by decide)
set_option maxRecDepth 10000 in
theorem okc_law_31 {V : Ev} {l : Launch} {F : Nat} (hfx : V.2.2.2.2 = false) {E : Cx} {nc ns rc rs : Nat} (hE : CX E V l code RL 4 1000 rc rs (some .boolean)) (hnc : nc ≤ rc) (hns : ns ≤ rs) {b0 L : Nat} {xs : Nat → Int32} (hX : LX E V b0 L xs) (hQ : ∀ {pc : Nat} {lv : List (Nat × Value)} {hc hm : PH}, decode code pc = .ok (.ireturn, 1) → PW E V nc ns 143 (WG V hc hm) pc lv [.int 1]) {K : Int32 → PH → PH → Option Int32} (ih : ∀ (x3 : Int32) (h o : PH), K x3 h o = some 1 → PW E V nc ns 143 (WG V h o) 18 [(0, .ref b0), (1, rf V 0), (2, rf V 102), (3, .int x3)] []) {x3 : Int32} {h o : PH} (hm : fc_law_31 F xs L K x3 h o = some 1) : PW E V nc ns 143 (WG V h o) 1079 [(0, .ref b0), (1, rf V 0), (2, rf V 102), (3, .int x3)] [] := by
  unfold fc_law_31 at hm
  refine q_aload_n hE 1 (dlL_law_17.at 39 rfl) rfl rfl ?_
  refine q_aload_nR hE 0 (dlL_law_18.at 0 rfl) rfl rfl ?_
  refine q_iload_n hE 3 (dlL_law_18.at 1 rfl) rfl rfl ?_
  refine q_iconst hE (dlL_law_18.at 2 rfl) ic_1 ?_
  refine q_iadd hE (dlL_law_18.at 3 rfl) ?_
  refine q_sld hE hX (dlL_law_18.at 4 rfl) hm (fun hm => ?_)
  refine q_aload_nR hE 0 (dlL_law_18.at 5 rfl) rfl rfl ?_
  refine q_iload_n hE 3 (dlL_law_18.at 6 rfl) rfl rfl ?_
  refine q_iconst hE (dlL_law_18.at 7 rfl) ic_2 ?_
  refine q_iadd hE (dlL_law_18.at 8 rfl) ?_
  refine q_sld hE hX (dlL_law_18.at 9 rfl) hm (fun hm => ?_)
  refine q_aload_nR hE 0 (dlL_law_18.at 10 rfl) rfl rfl ?_
  refine q_iload_n hE 3 (dlL_law_18.at 11 rfl) rfl rfl ?_
  refine q_iconst hE (dlL_law_18.at 12 rfl) ic_3 ?_
  refine q_iadd hE (dlL_law_18.at 13 rfl) ?_
  refine q_sld hE hX (dlL_law_18.at 14 rfl) hm (fun hm => ?_)
  refine q_callV_i (X := fun z => WG V z o) hE (As := [_, _, _]) (dlL_law_18.at 15 rfl) mw_X9_tape wm_L_144 rfl rfl rfl rfl hnc hns rfl kc9 g0 rfl (ok_X9_tape hfx) hm (fun v99 h99 hm => ?_)
  refine q_aload_n hE 2 (dlL_law_18.at 16 rfl) rfl rfl ?_
  refine q_aload_nR hE 0 (dlL_law_18.at 17 rfl) rfl rfl ?_
  refine q_iload_n hE 3 (dlL_law_18.at 18 rfl) rfl rfl ?_
  refine q_iconst hE (dlL_law_18.at 19 rfl) ic_1 ?_
  refine q_iadd hE (dlL_law_18.at 20 rfl) ?_
  refine q_sld hE hX (dlL_law_18.at 21 rfl) hm (fun hm => ?_)
  refine q_aload_nR hE 0 (dlL_law_18.at 22 rfl) rfl rfl ?_
  refine q_iload_n hE 3 (dlL_law_18.at 23 rfl) rfl rfl ?_
  refine q_iconst hE (dlL_law_18.at 24 rfl) ic_2 ?_
  refine q_iadd hE (dlL_law_18.at 25 rfl) ?_
  refine q_sld hE hX (dlL_law_18.at 26 rfl) hm (fun hm => ?_)
  refine q_aload_nR hE 0 (dlL_law_18.at 27 rfl) rfl rfl ?_
  refine q_iload_n hE 3 (dlL_law_18.at 28 rfl) rfl rfl ?_
  refine q_iconst hE (dlL_law_18.at 29 rfl) ic_3 ?_
  refine q_iadd hE (dlL_law_18.at 30 rfl) ?_
  refine q_sld hE hX (dlL_law_18.at 31 rfl) hm (fun hm => ?_)
  refine q_callV_i (X := fun z => WG V h99 z) hE (As := [_, _, _]) (dlL_law_18.at 32 rfl) mw_X10_tape wm_L_147 rfl rfl rfl rfl hnc hns rfl kc10 g102 rfl (ok_X10_tape hfx) hm (fun v100 h100 hm => ?_)
  refine q_icmp_eq hE (tgt := 1292) (dlL_law_18.at 33 rfl) (by decide) hm (fun _ hm => ?_) (fun _ hm => ?_)
  · refine q_iinc hE [(0, _), (1, _), (2, _), (3, _)] 3 (dlL_law_22.at 22 rfl) rfl ic_6 rfl rfl ?_
    refine q_goto hE (tgt := 18) (dlL_law_22.at 23 rfl) (by decide) ?_
    exact ih _ _ _ hm
  · refine q_iconst hE (dlL_law_18.at 34 rfl) ic_0 ?_
    exact absurd (Option.some.inj hm) (by decide)
set_option maxRecDepth 10000 in
theorem okc_law_32 {V : Ev} {l : Launch} {F : Nat} (hfx : V.2.2.2.2 = false) {E : Cx} {nc ns rc rs : Nat} (hE : CX E V l code RL 4 1000 rc rs (some .boolean)) (hnc : nc ≤ rc) (hns : ns ≤ rs) {b0 L : Nat} {xs : Nat → Int32} (hX : LX E V b0 L xs) (hQ : ∀ {pc : Nat} {lv : List (Nat × Value)} {hc hm : PH}, decode code pc = .ok (.ireturn, 1) → PW E V nc ns 143 (WG V hc hm) pc lv [.int 1]) {K : Int32 → PH → PH → Option Int32} (ih : ∀ (x3 : Int32) (h o : PH), K x3 h o = some 1 → PW E V nc ns 143 (WG V h o) 18 [(0, .ref b0), (1, rf V 0), (2, rf V 102), (3, .int x3)] []) {x3 : Int32} {h o : PH} (hm : fc_law_32 F xs L K x3 h o = some 1) : PW E V nc ns 143 (WG V h o) 1122 [(0, .ref b0), (1, rf V 0), (2, rf V 102), (3, .int x3)] [] := by
  unfold fc_law_32 at hm
  refine q_aload_n hE 1 (dlL_law_18.at 36 rfl) rfl rfl ?_
  refine q_aload_nR hE 0 (dlL_law_18.at 37 rfl) rfl rfl ?_
  refine q_iload_n hE 3 (dlL_law_18.at 38 rfl) rfl rfl ?_
  refine q_iconst hE (dlL_law_18.at 39 rfl) ic_1 ?_
  refine q_iadd hE (dlL_law_19.at 0 rfl) ?_
  refine q_sld hE hX (dlL_law_19.at 1 rfl) hm (fun hm => ?_)
  refine q_aload_nR hE 0 (dlL_law_19.at 2 rfl) rfl rfl ?_
  refine q_iload_n hE 3 (dlL_law_19.at 3 rfl) rfl rfl ?_
  refine q_iconst hE (dlL_law_19.at 4 rfl) ic_2 ?_
  refine q_iadd hE (dlL_law_19.at 5 rfl) ?_
  refine q_sld hE hX (dlL_law_19.at 6 rfl) hm (fun hm => ?_)
  refine q_aload_nR hE 0 (dlL_law_19.at 7 rfl) rfl rfl ?_
  refine q_iload_n hE 3 (dlL_law_19.at 8 rfl) rfl rfl ?_
  refine q_iconst hE (dlL_law_19.at 9 rfl) ic_3 ?_
  refine q_iadd hE (dlL_law_19.at 10 rfl) ?_
  refine q_sld hE hX (dlL_law_19.at 11 rfl) hm (fun hm => ?_)
  refine q_i2l hE (dlL_law_19.at 12 rfl) ?_
  refine q_bipush hE (dlL_law_19.at 13 rfl) bc_32 ?_
  refine q_lshl hE (dlL_law_19.at 14 rfl) ?_
  refine q_aload_nR hE 0 (dlL_law_19.at 15 rfl) rfl rfl ?_
  refine q_iload_n hE 3 (dlL_law_19.at 16 rfl) rfl rfl ?_
  refine q_iconst hE (dlL_law_19.at 17 rfl) ic_4 ?_
  refine q_iadd hE (dlL_law_19.at 18 rfl) ?_
  refine q_sld hE hX (dlL_law_19.at 19 rfl) hm (fun hm => ?_)
  refine q_i2l hE (dlL_law_19.at 20 rfl) ?_
  refine q_ldc2 hE (dlL_law_19.at 21 rfl) wk_L_148 ?_
  refine q_land hE (dlL_law_19.at 22 rfl) ?_
  refine q_lor hE (dlL_law_19.at 23 rfl) ?_
  refine q_callV_i (X := fun z => WG V z o) hE (As := [_, _, _]) (dlL_law_19.at 24 rfl) mw_X9_item wm_L_150 rfl rfl rfl rfl hnc hns rfl kc9 g0 rfl (ok_X9_item hfx) hm (fun v102 h102 hm => ?_)
  refine q_aload_n hE 2 (dlL_law_19.at 25 rfl) rfl rfl ?_
  refine q_aload_nR hE 0 (dlL_law_19.at 26 rfl) rfl rfl ?_
  refine q_iload_n hE 3 (dlL_law_19.at 27 rfl) rfl rfl ?_
  refine q_iconst hE (dlL_law_19.at 28 rfl) ic_1 ?_
  refine q_iadd hE (dlL_law_19.at 29 rfl) ?_
  refine q_sld hE hX (dlL_law_19.at 30 rfl) hm (fun hm => ?_)
  refine q_aload_nR hE 0 (dlL_law_19.at 31 rfl) rfl rfl ?_
  refine q_iload_n hE 3 (dlL_law_19.at 32 rfl) rfl rfl ?_
  refine q_iconst hE (dlL_law_19.at 33 rfl) ic_2 ?_
  refine q_iadd hE (dlL_law_19.at 34 rfl) ?_
  refine q_sld hE hX (dlL_law_19.at 35 rfl) hm (fun hm => ?_)
  refine q_aload_nR hE 0 (dlL_law_19.at 36 rfl) rfl rfl ?_
  refine q_iload_n hE 3 (dlL_law_19.at 37 rfl) rfl rfl ?_
  refine q_iconst hE (dlL_law_19.at 38 rfl) ic_3 ?_
  refine q_iadd hE (dlL_law_19.at 39 rfl) ?_
  refine q_sld hE hX (dlL_law_20.at 0 rfl) hm (fun hm => ?_)
  refine q_i2l hE (dlL_law_20.at 1 rfl) ?_
  refine q_bipush hE (dlL_law_20.at 2 rfl) bc_32 ?_
  refine q_lshl hE (dlL_law_20.at 3 rfl) ?_
  refine q_aload_nR hE 0 (dlL_law_20.at 4 rfl) rfl rfl ?_
  refine q_iload_n hE 3 (dlL_law_20.at 5 rfl) rfl rfl ?_
  refine q_iconst hE (dlL_law_20.at 6 rfl) ic_4 ?_
  refine q_iadd hE (dlL_law_20.at 7 rfl) ?_
  refine q_sld hE hX (dlL_law_20.at 8 rfl) hm (fun hm => ?_)
  refine q_i2l hE (dlL_law_20.at 9 rfl) ?_
  refine q_ldc2 hE (dlL_law_20.at 10 rfl) wk_L_148 ?_
  refine q_land hE (dlL_law_20.at 11 rfl) ?_
  refine q_lor hE (dlL_law_20.at 12 rfl) ?_
  refine q_callV_i (X := fun z => WG V h102 z) hE (As := [_, _, _]) (dlL_law_20.at 13 rfl) mw_X10_item wm_L_154 rfl rfl rfl rfl hnc hns rfl kc10 g102 rfl (ok_X10_item hfx) hm (fun v103 h103 hm => ?_)
  refine q_icmp_eq hE (tgt := 1292) (dlL_law_20.at 14 rfl) (by decide) hm (fun _ hm => ?_) (fun _ hm => ?_)
  · refine q_iinc hE [(0, _), (1, _), (2, _), (3, _)] 3 (dlL_law_22.at 22 rfl) rfl ic_6 rfl rfl ?_
    refine q_goto hE (tgt := 18) (dlL_law_22.at 23 rfl) (by decide) ?_
    exact ih _ _ _ hm
  · refine q_iconst hE (dlL_law_20.at 15 rfl) ic_0 ?_
    exact absurd (Option.some.inj hm) (by decide)
set_option maxRecDepth 10000 in
theorem okc_law_33 {V : Ev} {l : Launch} {F : Nat} (hfx : V.2.2.2.2 = false) {E : Cx} {nc ns rc rs : Nat} (hE : CX E V l code RL 4 1000 rc rs (some .boolean)) (hnc : nc ≤ rc) (hns : ns ≤ rs) {b0 L : Nat} {xs : Nat → Int32} (hX : LX E V b0 L xs) (hQ : ∀ {pc : Nat} {lv : List (Nat × Value)} {hc hm : PH}, decode code pc = .ok (.ireturn, 1) → PW E V nc ns 143 (WG V hc hm) pc lv [.int 1]) {K : Int32 → PH → PH → Option Int32} (ih : ∀ (x3 : Int32) (h o : PH), K x3 h o = some 1 → PW E V nc ns 143 (WG V h o) 18 [(0, .ref b0), (1, rf V 0), (2, rf V 102), (3, .int x3)] []) {x3 : Int32} {h o : PH} (hm : fc_law_33 F xs L K x3 h o = some 1) : PW E V nc ns 143 (WG V h o) 1195 [(0, .ref b0), (1, rf V 0), (2, rf V 102), (3, .int x3)] [] := by
  unfold fc_law_33 at hm
  refine q_aload_n hE 1 (dlL_law_20.at 17 rfl) rfl rfl ?_
  refine q_aload_nR hE 0 (dlL_law_20.at 18 rfl) rfl rfl ?_
  refine q_iload_n hE 3 (dlL_law_20.at 19 rfl) rfl rfl ?_
  refine q_iconst hE (dlL_law_20.at 20 rfl) ic_1 ?_
  refine q_iadd hE (dlL_law_20.at 21 rfl) ?_
  refine q_sld hE hX (dlL_law_20.at 22 rfl) hm (fun hm => ?_)
  refine q_aload_nR hE 0 (dlL_law_20.at 23 rfl) rfl rfl ?_
  refine q_iload_n hE 3 (dlL_law_20.at 24 rfl) rfl rfl ?_
  refine q_iconst hE (dlL_law_20.at 25 rfl) ic_2 ?_
  refine q_iadd hE (dlL_law_20.at 26 rfl) ?_
  refine q_sld hE hX (dlL_law_20.at 27 rfl) hm (fun hm => ?_)
  refine q_callV_l (X := fun z => WG V z o) hE (As := [_, _]) (dlL_law_20.at 28 rfl) mw_X9_read wm_L_155 rfl rfl rfl rfl hnc hns rfl kc9 g0 rfl (ok_X9_read hfx) hm (fun v105 h105 hm => ?_)
  refine q_aload_n hE 2 (dlL_law_20.at 29 rfl) rfl rfl ?_
  refine q_aload_nR hE 0 (dlL_law_20.at 30 rfl) rfl rfl ?_
  refine q_iload_n hE 3 (dlL_law_20.at 31 rfl) rfl rfl ?_
  refine q_iconst hE (dlL_law_20.at 32 rfl) ic_1 ?_
  refine q_iadd hE (dlL_law_20.at 33 rfl) ?_
  refine q_sld hE hX (dlL_law_20.at 34 rfl) hm (fun hm => ?_)
  refine q_aload_nR hE 0 (dlL_law_20.at 35 rfl) rfl rfl ?_
  refine q_iload_n hE 3 (dlL_law_20.at 36 rfl) rfl rfl ?_
  refine q_iconst hE (dlL_law_20.at 37 rfl) ic_2 ?_
  refine q_iadd hE (dlL_law_20.at 38 rfl) ?_
  refine q_sld hE hX (dlL_law_20.at 39 rfl) hm (fun hm => ?_)
  refine q_callV_l (X := fun z => WG V h105 z) hE (As := [_, _]) (dlL_law_21.at 0 rfl) mw_X10_read wm_L_158 rfl rfl rfl rfl hnc hns rfl kc10 g102 rfl (ok_X10_read hfx) hm (fun v106 h106 hm => ?_)
  refine q_lcmp hE (dlL_law_21.at 1 rfl) ?_
  refine q_if_eq hE (tgt := 1292) (dlL_law_21.at 2 rfl) (by decide) hm (fun _ hm => ?_) (fun _ hm => ?_)
  · refine q_iinc hE [(0, _), (1, _), (2, _), (3, _)] 3 (dlL_law_22.at 22 rfl) rfl ic_6 rfl rfl ?_
    refine q_goto hE (tgt := 18) (dlL_law_22.at 23 rfl) (by decide) ?_
    exact ih _ _ _ hm
  · refine q_iconst hE (dlL_law_21.at 3 rfl) ic_0 ?_
    exact absurd (Option.some.inj hm) (by decide)
set_option maxRecDepth 10000 in
theorem okc_law_34 {V : Ev} {l : Launch} {F : Nat} (hfx : V.2.2.2.2 = false) {E : Cx} {nc ns rc rs : Nat} (hE : CX E V l code RL 4 1000 rc rs (some .boolean)) (hnc : nc ≤ rc) (hns : ns ≤ rs) {b0 L : Nat} {xs : Nat → Int32} (hX : LX E V b0 L xs) (hQ : ∀ {pc : Nat} {lv : List (Nat × Value)} {hc hm : PH}, decode code pc = .ok (.ireturn, 1) → PW E V nc ns 143 (WG V hc hm) pc lv [.int 1]) {K : Int32 → PH → PH → Option Int32} (ih : ∀ (x3 : Int32) (h o : PH), K x3 h o = some 1 → PW E V nc ns 143 (WG V h o) 18 [(0, .ref b0), (1, rf V 0), (2, rf V 102), (3, .int x3)] []) {x3 : Int32} {h o : PH} (hm : fc_law_34 F xs L K x3 h o = some 1) : PW E V nc ns 143 (WG V h o) 1229 [(0, .ref b0), (1, rf V 0), (2, rf V 102), (3, .int x3)] [] := by
  unfold fc_law_34 at hm
  refine q_aload_n hE 1 (dlL_law_21.at 5 rfl) rfl rfl ?_
  refine q_aload_nR hE 0 (dlL_law_21.at 6 rfl) rfl rfl ?_
  refine q_iload_n hE 3 (dlL_law_21.at 7 rfl) rfl rfl ?_
  refine q_iconst hE (dlL_law_21.at 8 rfl) ic_1 ?_
  refine q_iadd hE (dlL_law_21.at 9 rfl) ?_
  refine q_sld hE hX (dlL_law_21.at 10 rfl) hm (fun hm => ?_)
  refine q_aload_nR hE 0 (dlL_law_21.at 11 rfl) rfl rfl ?_
  refine q_iload_n hE 3 (dlL_law_21.at 12 rfl) rfl rfl ?_
  refine q_iconst hE (dlL_law_21.at 13 rfl) ic_2 ?_
  refine q_iadd hE (dlL_law_21.at 14 rfl) ?_
  refine q_sld hE hX (dlL_law_21.at 15 rfl) hm (fun hm => ?_)
  refine q_aload_nR hE 0 (dlL_law_21.at 16 rfl) rfl rfl ?_
  refine q_iload_n hE 3 (dlL_law_21.at 17 rfl) rfl rfl ?_
  refine q_iconst hE (dlL_law_21.at 18 rfl) ic_3 ?_
  refine q_iadd hE (dlL_law_21.at 19 rfl) ?_
  refine q_sld hE hX (dlL_law_21.at 20 rfl) hm (fun hm => ?_)
  refine q_aload_nR hE 0 (dlL_law_21.at 21 rfl) rfl rfl ?_
  refine q_iload_n hE 3 (dlL_law_21.at 22 rfl) rfl rfl ?_
  refine q_iconst hE (dlL_law_21.at 23 rfl) ic_4 ?_
  refine q_iadd hE (dlL_law_21.at 24 rfl) ?_
  refine q_sld hE hX (dlL_law_21.at 25 rfl) hm (fun hm => ?_)
  refine q_aload_nR hE 0 (dlL_law_21.at 26 rfl) rfl rfl ?_
  refine q_iload_n hE 3 (dlL_law_21.at 27 rfl) rfl rfl ?_
  refine q_iconst hE (dlL_law_21.at 28 rfl) ic_5 ?_
  refine q_iadd hE (dlL_law_21.at 29 rfl) ?_
  refine q_sld hE hX (dlL_law_21.at 30 rfl) hm (fun hm => ?_)
  refine q_callV_i (X := fun z => WG V z o) hE (As := [_, _, _, _, _]) (dlL_law_21.at 31 rfl) mw_X9_shift wm_L_159 rfl rfl rfl rfl hnc hns rfl kc9 g0 rfl (ok_X9_shift hfx) hm (fun v108 h108 hm => ?_)
  refine q_aload_n hE 2 (dlL_law_21.at 32 rfl) rfl rfl ?_
  refine q_aload_nR hE 0 (dlL_law_21.at 33 rfl) rfl rfl ?_
  refine q_iload_n hE 3 (dlL_law_21.at 34 rfl) rfl rfl ?_
  refine q_iconst hE (dlL_law_21.at 35 rfl) ic_1 ?_
  refine q_iadd hE (dlL_law_21.at 36 rfl) ?_
  refine q_sld hE hX (dlL_law_21.at 37 rfl) hm (fun hm => ?_)
  refine q_aload_nR hE 0 (dlL_law_21.at 38 rfl) rfl rfl ?_
  refine q_iload_n hE 3 (dlL_law_21.at 39 rfl) rfl rfl ?_
  refine q_iconst hE (dlL_law_22.at 0 rfl) ic_2 ?_
  refine q_iadd hE (dlL_law_22.at 1 rfl) ?_
  refine q_sld hE hX (dlL_law_22.at 2 rfl) hm (fun hm => ?_)
  refine q_aload_nR hE 0 (dlL_law_22.at 3 rfl) rfl rfl ?_
  refine q_iload_n hE 3 (dlL_law_22.at 4 rfl) rfl rfl ?_
  refine q_iconst hE (dlL_law_22.at 5 rfl) ic_3 ?_
  refine q_iadd hE (dlL_law_22.at 6 rfl) ?_
  refine q_sld hE hX (dlL_law_22.at 7 rfl) hm (fun hm => ?_)
  refine q_aload_nR hE 0 (dlL_law_22.at 8 rfl) rfl rfl ?_
  refine q_iload_n hE 3 (dlL_law_22.at 9 rfl) rfl rfl ?_
  refine q_iconst hE (dlL_law_22.at 10 rfl) ic_4 ?_
  refine q_iadd hE (dlL_law_22.at 11 rfl) ?_
  refine q_sld hE hX (dlL_law_22.at 12 rfl) hm (fun hm => ?_)
  refine q_aload_nR hE 0 (dlL_law_22.at 13 rfl) rfl rfl ?_
  refine q_iload_n hE 3 (dlL_law_22.at 14 rfl) rfl rfl ?_
  refine q_iconst hE (dlL_law_22.at 15 rfl) ic_5 ?_
  refine q_iadd hE (dlL_law_22.at 16 rfl) ?_
  refine q_sld hE hX (dlL_law_22.at 17 rfl) hm (fun hm => ?_)
  refine q_callV_i (X := fun z => WG V h108 z) hE (As := [_, _, _, _, _]) (dlL_law_22.at 18 rfl) mw_X10_shift wm_L_163 rfl rfl rfl rfl hnc hns rfl kc10 g102 rfl (ok_X10_shift hfx) hm (fun v109 h109 hm => ?_)
  refine q_icmp_eq hE (tgt := 1292) (dlL_law_22.at 19 rfl) (by decide) hm (fun _ hm => ?_) (fun _ hm => ?_)
  · refine q_iinc hE [(0, _), (1, _), (2, _), (3, _)] 3 (dlL_law_22.at 22 rfl) rfl ic_6 rfl rfl ?_
    refine q_goto hE (tgt := 18) (dlL_law_22.at 23 rfl) (by decide) ?_
    exact ih _ _ _ hm
  · refine q_iconst hE (dlL_law_22.at 20 rfl) ic_0 ?_
    exact absurd (Option.some.inj hm) (by decide)
set_option maxRecDepth 10000 in
theorem okL_law {V : Ev} {l : Launch} {F : Nat} (hfx : V.2.2.2.2 = false) {E : Cx} {nc ns rc rs : Nat} (hE : CX E V l code RL 4 1000 rc rs (some .boolean)) (hnc : nc ≤ rc) (hns : ns ≤ rs) {b0 L : Nat} {xs : Nat → Int32} (hX : LX E V b0 L xs) (hQ : ∀ {pc : Nat} {lv : List (Nat × Value)} {hc hm : PH}, decode code pc = .ok (.ireturn, 1) → PW E V nc ns 143 (WG V hc hm) pc lv [.int 1]) : ∀ (n : Nat) (x3 : Int32) (h o : PH), fL_law F xs L n x3 h o = some 1 → PW E V nc ns 143 (WG V h o) 18 [(0, .ref b0), (1, rf V 0), (2, rf V 102), (3, .int x3)] [] := by
  intro n
  induction n with
  | zero => intro x3 h o hm; cases hm
  | succ n ih =>
    intro x3 h o hm
    rw [fL_law] at hm
    refine q_iload_n hE 3 (dlL_law_0.at 10 rfl) rfl rfl ?_
    refine q_aload_nR hE 0 (dlL_law_0.at 11 rfl) rfl rfl ?_
    refine q_slen0 hE hX (dlL_law_0.at 12 rfl) ?_
    refine q_bipush hE (dlL_law_0.at 13 rfl) bc_6 ?_
    refine q_isub hE (dlL_law_0.at 14 rfl) ?_
    refine q_icmp_gt hE (tgt := 1298) (dlL_law_0.at 15 rfl) (by decide) hm (fun _ hm => ?_) (fun _ hm => ?_)
    · refine q_iconst hE (dlL_law_22.at 24 rfl) ic_1 ?_
      exact hQ (dlL_law_22.at 25 rfl)
    · refine q_aload_nR hE 0 (dlL_law_0.at 16 rfl) rfl rfl ?_
      refine q_iload_n hE 3 (dlL_law_0.at 17 rfl) rfl rfl ?_
      refine q_sld hE hX (dlL_law_0.at 18 rfl) hm (fun hm => ?_)
      refine q_bipush hE (dlL_law_0.at 19 rfl) bc_63 ?_
      refine q_iand hE (dlL_law_0.at 20 rfl) ?_
      refine q_tcase hE (dlL_law_0.at 21 rfl) (0 : Int32) 188 (by decide) hm (fun _ hm => ?_) (fun hn0 hm => ?_)
      · exact okc_law_0 hfx hE hnc hns hX hQ ih hm
      · refine q_tcase hE (dlL_law_0.at 21 rfl) (1 : Int32) 231 (by decide) hm (fun _ hm => ?_) (fun hn1 hm => ?_)
        · exact okc_law_1 hfx hE hnc hns hX hQ ih hm
        · refine q_tcase hE (dlL_law_0.at 21 rfl) (2 : Int32) 264 (by decide) hm (fun _ hm => ?_) (fun hn2 hm => ?_)
          · exact okc_law_2 hfx hE hnc hns hX hQ ih hm
          · refine q_tcase hE (dlL_law_0.at 21 rfl) (3 : Int32) 297 (by decide) hm (fun _ hm => ?_) (fun hn3 hm => ?_)
            · exact okc_law_3 hfx hE hnc hns hX hQ ih hm
            · refine q_tcase hE (dlL_law_0.at 21 rfl) (4 : Int32) 330 (by decide) hm (fun _ hm => ?_) (fun hn4 hm => ?_)
              · exact okc_law_4 hfx hE hnc hns hX hQ ih hm
              · refine q_tcase hE (dlL_law_0.at 21 rfl) (5 : Int32) 379 (by decide) hm (fun _ hm => ?_) (fun hn5 hm => ?_)
                · exact okc_law_5 hfx hE hnc hns hX hQ ih hm
                · refine q_tcase hE (dlL_law_0.at 21 rfl) (6 : Int32) 422 (by decide) hm (fun _ hm => ?_) (fun hn6 hm => ?_)
                  · exact okc_law_6 hfx hE hnc hns hX hQ ih hm
                  · refine q_tcase hE (dlL_law_0.at 21 rfl) (7 : Int32) 445 (by decide) hm (fun _ hm => ?_) (fun hn7 hm => ?_)
                    · exact okc_law_7 hfx hE hnc hns hX hQ ih hm
                    · refine q_tcase hE (dlL_law_0.at 21 rfl) (8 : Int32) 458 (by decide) hm (fun _ hm => ?_) (fun hn8 hm => ?_)
                      · exact okc_law_8 hfx hE hnc hns hX hQ ih hm
                      · refine q_tcase hE (dlL_law_0.at 21 rfl) (9 : Int32) 481 (by decide) hm (fun _ hm => ?_) (fun hn9 hm => ?_)
                        · exact okc_law_9 hfx hE hnc hns hX hQ ih hm
                        · refine q_tcase hE (dlL_law_0.at 21 rfl) (10 : Int32) 504 (by decide) hm (fun _ hm => ?_) (fun hn10 hm => ?_)
                          · exact okc_law_10 hfx hE hnc hns hX hQ ih hm
                          · refine q_tcase hE (dlL_law_0.at 21 rfl) (11 : Int32) 527 (by decide) hm (fun _ hm => ?_) (fun hn11 hm => ?_)
                            · exact okc_law_11 hfx hE hnc hns hX hQ ih hm
                            · refine q_tcase hE (dlL_law_0.at 21 rfl) (12 : Int32) 570 (by decide) hm (fun _ hm => ?_) (fun hn12 hm => ?_)
                              · exact okc_law_12 hfx hE hnc hns hX hQ ih hm
                              · refine q_tcase hE (dlL_law_0.at 21 rfl) (13 : Int32) 593 (by decide) hm (fun _ hm => ?_) (fun hn13 hm => ?_)
                                · exact okc_law_13 hfx hE hnc hns hX hQ ih hm
                                · refine q_tcase hE (dlL_law_0.at 21 rfl) (14 : Int32) 626 (by decide) hm (fun _ hm => ?_) (fun hn14 hm => ?_)
                                  · exact okc_law_14 hfx hE hnc hns hX hQ ih hm
                                  · refine q_tcase hE (dlL_law_0.at 21 rfl) (15 : Int32) 639 (by decide) hm (fun _ hm => ?_) (fun hn15 hm => ?_)
                                    · exact okc_law_15 hfx hE hnc hns hX hQ ih hm
                                    · refine q_tcase hE (dlL_law_0.at 21 rfl) (16 : Int32) 682 (by decide) hm (fun _ hm => ?_) (fun hn16 hm => ?_)
                                      · exact okc_law_16 hfx hE hnc hns hX hQ ih hm
                                      · refine q_tcase hE (dlL_law_0.at 21 rfl) (17 : Int32) 715 (by decide) hm (fun _ hm => ?_) (fun hn17 hm => ?_)
                                        · exact okc_law_17 hfx hE hnc hns hX hQ ih hm
                                        · refine q_tcase hE (dlL_law_0.at 21 rfl) (18 : Int32) 748 (by decide) hm (fun _ hm => ?_) (fun hn18 hm => ?_)
                                          · exact okc_law_18 hfx hE hnc hns hX hQ ih hm
                                          · refine q_tcase hE (dlL_law_0.at 21 rfl) (19 : Int32) 782 (by decide) hm (fun _ hm => ?_) (fun hn19 hm => ?_)
                                            · exact okc_law_19 hfx hE hnc hns hX hQ ih hm
                                            · refine q_tcase hE (dlL_law_0.at 21 rfl) (20 : Int32) 806 (by decide) hm (fun _ hm => ?_) (fun hn20 hm => ?_)
                                              · exact okc_law_20 hfx hE hnc hns hX hQ ih hm
                                              · refine q_tcase hE (dlL_law_0.at 21 rfl) (21 : Int32) 829 (by decide) hm (fun _ hm => ?_) (fun hn21 hm => ?_)
                                                · exact okc_law_21 hfx hE hnc hns hX hQ ih hm
                                                · refine q_tcase hE (dlL_law_0.at 21 rfl) (22 : Int32) 852 (by decide) hm (fun _ hm => ?_) (fun hn22 hm => ?_)
                                                  · exact okc_law_22 hfx hE hnc hns hX hQ ih hm
                                                  · refine q_tcase hE (dlL_law_0.at 21 rfl) (23 : Int32) 885 (by decide) hm (fun _ hm => ?_) (fun hn23 hm => ?_)
                                                    · exact okc_law_23 hfx hE hnc hns hX hQ ih hm
                                                    · refine q_tcase hE (dlL_law_0.at 21 rfl) (24 : Int32) 898 (by decide) hm (fun _ hm => ?_) (fun hn24 hm => ?_)
                                                      · exact okc_law_24 hfx hE hnc hns hX hQ ih hm
                                                      · refine q_tcase hE (dlL_law_0.at 21 rfl) (25 : Int32) 931 (by decide) hm (fun _ hm => ?_) (fun hn25 hm => ?_)
                                                        · exact okc_law_25 hfx hE hnc hns hX hQ ih hm
                                                        · refine q_tcase hE (dlL_law_0.at 21 rfl) (26 : Int32) 944 (by decide) hm (fun _ hm => ?_) (fun hn26 hm => ?_)
                                                          · exact okc_law_26 hfx hE hnc hns hX hQ ih hm
                                                          · refine q_tcase hE (dlL_law_0.at 21 rfl) (27 : Int32) 957 (by decide) hm (fun _ hm => ?_) (fun hn27 hm => ?_)
                                                            · exact okc_law_27 hfx hE hnc hns hX hQ ih hm
                                                            · refine q_tcase hE (dlL_law_0.at 21 rfl) (28 : Int32) 1000 (by decide) hm (fun _ hm => ?_) (fun hn28 hm => ?_)
                                                              · exact okc_law_28 hfx hE hnc hns hX hQ ih hm
                                                              · refine q_tcase hE (dlL_law_0.at 21 rfl) (29 : Int32) 1023 (by decide) hm (fun _ hm => ?_) (fun hn29 hm => ?_)
                                                                · exact okc_law_29 hfx hE hnc hns hX hQ ih hm
                                                                · refine q_tcase hE (dlL_law_0.at 21 rfl) (30 : Int32) 1056 (by decide) hm (fun _ hm => ?_) (fun hn30 hm => ?_)
                                                                  · exact okc_law_30 hfx hE hnc hns hX hQ ih hm
                                                                  · refine q_tcase hE (dlL_law_0.at 21 rfl) (31 : Int32) 1079 (by decide) hm (fun _ hm => ?_) (fun hn31 hm => ?_)
                                                                    · exact okc_law_31 hfx hE hnc hns hX hQ ih hm
                                                                    · refine q_tcase hE (dlL_law_0.at 21 rfl) (32 : Int32) 1122 (by decide) hm (fun _ hm => ?_) (fun hn32 hm => ?_)
                                                                      · exact okc_law_32 hfx hE hnc hns hX hQ ih hm
                                                                      · refine q_tcase hE (dlL_law_0.at 21 rfl) (33 : Int32) 1195 (by decide) hm (fun _ hm => ?_) (fun hn33 hm => ?_)
                                                                        · exact okc_law_33 hfx hE hnc hns hX hQ ih hm
                                                                        · refine q_tcase hE (dlL_law_0.at 21 rfl) (34 : Int32) 1229 (by decide) hm (fun _ hm => ?_) (fun hn34 hm => ?_)
                                                                          · exact okc_law_34 hfx hE hnc hns hX hQ ih hm
                                                                          · refine q_tdef hE (tgt := 1292) (dlL_law_0.at 21 rfl) (by have := lv_neT (a := 0) hn0 (by decide); have := lv_neT (a := 1) hn1 (by decide); have := lv_neT (a := 2) hn2 (by decide); have := lv_neT (a := 3) hn3 (by decide); have := lv_neT (a := 4) hn4 (by decide); have := lv_neT (a := 5) hn5 (by decide); have := lv_neT (a := 6) hn6 (by decide); have := lv_neT (a := 7) hn7 (by decide); have := lv_neT (a := 8) hn8 (by decide); have := lv_neT (a := 9) hn9 (by decide); have := lv_neT (a := 10) hn10 (by decide); have := lv_neT (a := 11) hn11 (by decide); have := lv_neT (a := 12) hn12 (by decide); have := lv_neT (a := 13) hn13 (by decide); have := lv_neT (a := 14) hn14 (by decide); have := lv_neT (a := 15) hn15 (by decide); have := lv_neT (a := 16) hn16 (by decide); have := lv_neT (a := 17) hn17 (by decide); have := lv_neT (a := 18) hn18 (by decide); have := lv_neT (a := 19) hn19 (by decide); have := lv_neT (a := 20) hn20 (by decide); have := lv_neT (a := 21) hn21 (by decide); have := lv_neT (a := 22) hn22 (by decide); have := lv_neT (a := 23) hn23 (by decide); have := lv_neT (a := 24) hn24 (by decide); have := lv_neT (a := 25) hn25 (by decide); have := lv_neT (a := 26) hn26 (by decide); have := lv_neT (a := 27) hn27 (by decide); have := lv_neT (a := 28) hn28 (by decide); have := lv_neT (a := 29) hn29 (by decide); have := lv_neT (a := 30) hn30 (by decide); have := lv_neT (a := 31) hn31 (by decide); have := lv_neT (a := 32) hn32 (by decide); have := lv_neT (a := 33) hn33 (by decide); have := lv_neT (a := 34) hn34 (by decide); omega) (by decide) ?_
                                                                            refine q_iinc hE [(0, _), (1, _), (2, _), (3, _)] 3 (dlL_law_22.at 22 rfl) rfl ic_6 rfl rfl ?_
                                                                            refine q_goto hE (tgt := 18) (dlL_law_22.at 23 rfl) (by decide) ?_
                                                                            exact ih _ _ _ hm
