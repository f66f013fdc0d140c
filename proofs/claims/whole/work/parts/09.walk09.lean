set_option maxRecDepth 10000 in
theorem ok_X10_count {V : Ev} {l : Launch} {o : PH} {F : Nat}  (hfx : V.2.2.2.2 = false) {a1 : Int32} {h : PH} : ∀ (v : Int32) (h' : PH), f_X10_count F a1 h = some (v, h') → Ctr l V yX10_count cX10_count 2 (some .int) 1 [rf V 102, .int a1] 143 (WG V o h) 143 (WG V o (h')) (some (.int v)) 0 0 := by
  intro v h' hm
  refine Ctr.intro RX10 (by decide +kernel) rfl rfl rfl ?_
  intro E hE hQ _
  unfold f_X10_count at hm
  refine q_iload_n hE 1 (dlX10_count_0.at 0 rfl) rfl rfl ?_
  refine q_tcase hE (dlX10_count_0.at 1 rfl) (0 : Int32) 44 (by decide) hm (fun _ hm => ?_) (fun hn1_0 hm => ?_)
  · refine q_aload_n hE 0 (dlX10_count_0.at 2 rfl) rfl rfl ?_
    refine q_get hE (dlX10_count_0.at 3 rfl) kc10 wf_X10_7 g102 rfl rfl rfl ?_
    exact q_iret (X := fun z => WG V o z) hE (dlX10_count_0.at 4 rfl) hm hQ rfl
  · refine q_tcase hE (dlX10_count_0.at 1 rfl) (1 : Int32) 49 (by decide) hm (fun _ hm => ?_) (fun hn1_1 hm => ?_)
    · refine q_aload_n hE 0 (dlX10_count_0.at 5 rfl) rfl rfl ?_
      refine q_get hE (dlX10_count_0.at 6 rfl) kc10 wf_X10_32 g102 rfl rfl rfl ?_
      exact q_iret (X := fun z => WG V o z) hE (dlX10_count_0.at 7 rfl) hm hQ rfl
    · refine q_tcase hE (dlX10_count_0.at 1 rfl) (2 : Int32) 54 (by decide) hm (fun _ hm => ?_) (fun hn1_2 hm => ?_)
      · refine q_aload_n hE 0 (dlX10_count_0.at 8 rfl) rfl rfl ?_
        refine q_get hE (dlX10_count_0.at 9 rfl) kc10 wf_X10_112 g102 rfl rfl rfl ?_
        exact q_iret (X := fun z => WG V o z) hE (dlX10_count_0.at 10 rfl) hm hQ rfl
      · refine q_tcase hE (dlX10_count_0.at 1 rfl) (3 : Int32) 59 (by decide) hm (fun _ hm => ?_) (fun hn1_3 hm => ?_)
        · refine q_aload_n hE 0 (dlX10_count_0.at 11 rfl) rfl rfl ?_
          refine q_get hE (dlX10_count_0.at 12 rfl) kc10 wf_X10_124 g102 rfl rfl rfl ?_
          exact q_iret (X := fun z => WG V o z) hE (dlX10_count_0.at 13 rfl) hm hQ rfl
        · refine q_tcase hE (dlX10_count_0.at 1 rfl) (4 : Int32) 64 (by decide) hm (fun _ hm => ?_) (fun hn1_4 hm => ?_)
          · refine q_aload_n hE 0 (dlX10_count_0.at 14 rfl) rfl rfl ?_
            refine q_get hE (dlX10_count_0.at 15 rfl) kc10 wf_X10_127 g102 rfl rfl rfl ?_
            exact q_iret (X := fun z => WG V o z) hE (dlX10_count_0.at 16 rfl) hm hQ rfl
          · refine q_tcase hE (dlX10_count_0.at 1 rfl) (5 : Int32) 69 (by decide) hm (fun _ hm => ?_) (fun hn1_5 hm => ?_)
            · refine q_aload_n hE 0 (dlX10_count_0.at 17 rfl) rfl rfl ?_
              refine q_get hE (dlX10_count_0.at 18 rfl) kc10 wf_X10_38 g102 rfl rfl rfl ?_
              exact q_iret (X := fun z => WG V o z) hE (dlX10_count_0.at 19 rfl) hm hQ rfl
            · refine q_tcase hE (dlX10_count_0.at 1 rfl) (6 : Int32) 74 (by decide) hm (fun _ hm => ?_) (fun hn1_6 hm => ?_)
              · refine q_aload_n hE 0 (dlX10_count_0.at 20 rfl) rfl rfl ?_
                refine q_get hE (dlX10_count_0.at 21 rfl) kc10 wf_X10_193 g102 rfl rfl rfl ?_
                exact q_iret (X := fun z => WG V o z) hE (dlX10_count_0.at 22 rfl) hm hQ rfl
              · refine q_tdef hE (tgt := 79) (dlX10_count_0.at 1 rfl) (by have := lv_neT (a := 0) hn1_0 (by decide); have := lv_neT (a := 1) hn1_1 (by decide); have := lv_neT (a := 2) hn1_2 (by decide); have := lv_neT (a := 3) hn1_3 (by decide); have := lv_neT (a := 4) hn1_4 (by decide); have := lv_neT (a := 5) hn1_5 (by decide); have := lv_neT (a := 6) hn1_6 (by decide); omega) (by decide) ?_
                refine q_bipush hE (dlX10_count_0.at 23 rfl) bc_m2 ?_
                exact q_iret (X := fun z => WG V o z) hE (dlX10_count_0.at 24 rfl) hm hQ rfl
set_option maxRecDepth 10000 in
theorem okL_X10_tape_69 {V : Ev} {l : Launch} {o : PH} {F : Nat}  (hfx : V.2.2.2.2 = false) {E : Cx} (hE : CX E V l cX10_tape RX10 5 3 0 0 (some .int)) {r : Int32 × PH} (hQ : RQ E V 143 (WG V o r.2) (some (.int r.1)) 0 0) : ∀ (n : Nat) (x1 : Int32) (x4 : Int32) (h : PH), fL_X10_tape_69 F n x1 x4 h = some r → PW E V 0 0 143 (WG V o h) 69 [(0, rf V 102), (1, .int x1), (4, .int x4)] [] := by
  intro n
  induction n with
  | zero => intro x1 x4 h hm; cases hm
  | succ n ih =>
    intro x1 x4 h hm
    rw [fL_X10_tape_69] at hm
    refine q_iload hE 2 (dlX10_tape_1.at 1 rfl) rfl ?_
    refine q_bipush hE (dlX10_tape_1.at 2 rfl) bc_60 ?_
    refine q_icmp_ge hE (tgt := 95) (dlX10_tape_1.at 3 rfl) (by decide) hm (fun hc10 hm => ?_) (fun hc10 hm => ?_)
    · refine q_iconst hE (dlX10_tape_1.at 15 rfl) ic_1 ?_
      exact q_iret (X := fun z => WG V o z) hE (dlX10_tape_1.at 16 rfl) hm hQ rfl
    · refine q_aload_n hE 0 (dlX10_tape_1.at 4 rfl) rfl rfl ?_
      refine q_get hE (dlX10_tape_1.at 5 rfl) kc10 wf_X10_205 g102 rfl rfl rfl ?_
      refine q_bipush hE (dlX10_tape_1.at 6 rfl) bc_60 ?_
      refine q_iload_n hE 1 (dlX10_tape_1.at 7 rfl) rfl rfl ?_
      refine q_imul hE (dlX10_tape_1.at 8 rfl) ?_
      refine q_iload hE 2 (dlX10_tape_1.at 9 rfl) rfl ?_
      refine q_iadd hE (dlX10_tape_1.at 10 rfl) ?_
      refine q_lconst hE (dlX10_tape_1.at 11 rfl) lc_0 ?_
      refine q_last hE hfx (dlX10_tape_1.at 12 rfl) g141 rfl u141 hm (fun hm => ?_)
      refine q_lth (X := fun z => WG V o z) hm (fun h11 hm => ?_)
      refine q_iinc hE [(0, _), (1, _), (4, _)] 2 (dlX10_tape_1.at 13 rfl) rfl ic_1 rfl rfl ?_
      refine q_goto hE (tgt := 69) (dlX10_tape_1.at 14 rfl) (by decide) ?_
      refine q_sub hE [0, 1, 2] rfl ?_
      exact ih _ _ _  hm
set_option maxRecDepth 10000 in
theorem okL_X10_tape_44 {V : Ev} {l : Launch} {o : PH} {F : Nat}  (hfx : V.2.2.2.2 = false) {E : Cx} (hE : CX E V l cX10_tape RX10 5 3 0 0 (some .int)) {r : Int32 × PH} (hQ : RQ E V 143 (WG V o r.2) (some (.int r.1)) 0 0) : ∀ (x1 : Int32) (x2 : Int32) (x3 : Int32) (h : PH), fL_X10_tape_44 F x1 x2 x3 h = some r → PW E V 0 0 143 (WG V o h) 44 [(0, rf V 102), (1, .int x1), (2, .int x2), (3, .int x3)] [] := by
  intro x1 x2 x3 h hm
  unfold fL_X10_tape_44 at hm
  refine q_aload_n hE 0 (dlX10_tape_0.at 25 rfl) rfl rfl ?_
  refine q_get hE (dlX10_tape_0.at 26 rfl) kc10 wf_X10_199 g102 rfl rfl rfl ?_
  refine q_iload_n hE 1 (dlX10_tape_0.at 27 rfl) rfl rfl ?_
  refine q_iload_n hE 2 (dlX10_tape_0.at 28 rfl) rfl rfl ?_
  refine q_iast hE hfx (dlX10_tape_0.at 29 rfl) g139 rfl u139 hm (fun hm => ?_)
  refine q_lth (X := fun z => WG V o z) hm (fun h7 hm => ?_)
  refine q_aload_n hE 0 (dlX10_tape_0.at 30 rfl) rfl rfl ?_
  refine q_get hE (dlX10_tape_0.at 31 rfl) kc10 wf_X10_202 g102 rfl rfl rfl ?_
  refine q_iload_n hE 1 (dlX10_tape_0.at 32 rfl) rfl rfl ?_
  refine q_iload_n hE 2 (dlX10_tape_0.at 33 rfl) rfl rfl ?_
  refine q_if_ge hE (tgt := 64) (dlX10_tape_0.at 34 rfl) (by decide) hm (fun hc8 hm => ?_) (fun hc8 hm => ?_)
  · refine q_iload_n hE 3 (dlX10_tape_0.at 37 rfl) rfl rfl ?_
    refine q_iast hE hfx (dlX10_tape_0.at 38 rfl) g140 rfl u140 hm (fun hm => ?_)
    refine q_lth (X := fun z => WG V o z) hm (fun h9 hm => ?_)
    refine q_iconst hE (dlX10_tape_0.at 39 rfl) ic_0 ?_
    refine q_istore hE [(0, _), (1, _), (2, _), (3, _), (4, _)] (dlX10_tape_1.at 0 rfl) rfl rfl ?_
    refine q_sub hE [0, 1, 4] rfl ?_
    exact okL_X10_tape_69 hfx hE hQ  F _ _ _  hm
  · refine q_iconst hE (dlX10_tape_0.at 35 rfl) ic_0 ?_
    refine q_goto hE (tgt := 65) (dlX10_tape_0.at 36 rfl) (by decide) ?_
    refine q_iast hE hfx (dlX10_tape_0.at 38 rfl) g140 rfl u140 hm (fun hm => ?_)
    refine q_lth (X := fun z => WG V o z) hm (fun h12 hm => ?_)
    refine q_iconst hE (dlX10_tape_0.at 39 rfl) ic_0 ?_
    refine q_istore hE [(0, _), (1, _), (2, _), (3, _), (4, _)] (dlX10_tape_1.at 0 rfl) rfl rfl ?_
    refine q_sub hE [0, 1, 4] rfl ?_
    exact okL_X10_tape_69 hfx hE hQ  F _ _ _  hm
set_option maxRecDepth 10000 in
theorem ok_X10_tape {V : Ev} {l : Launch} {o : PH} {F : Nat}  (hfx : V.2.2.2.2 = false) {a1 : Int32} {a2 : Int32} {a3 : Int32} {h : PH} : ∀ (v : Int32) (h' : PH), f_X10_tape F a1 a2 a3 h = some (v, h') → Ctr l V yX10_tape cX10_tape 5 (some .int) 3 [rf V 102, .int a1, .int a2, .int a3] 143 (WG V o h) 143 (WG V o (h')) (some (.int v)) 0 0 := by
  intro v h' hm
  refine Ctr.intro RX10 (by decide +kernel) rfl rfl rfl ?_
  intro E hE hQ _
  unfold f_X10_tape at hm
  refine q_aload_n hE 0 (dlX10_tape_0.at 0 rfl) rfl rfl ?_
  refine q_iload_n hE 1 (dlX10_tape_0.at 1 rfl) rfl rfl ?_
  refine q_callV_i (X := fun z => WG V o z) hE (As := [_]) (dlX10_tape_0.at 2 rfl) mw_X10_isTape wm_X10_366 rfl rfl rfl rfl (Nat.zero_le _) (Nat.zero_le _) rfl kc10 g102 rfl (ok_X10_isTape hfx) hm (fun v1 h1 hm => ?_)
  refine q_if_ne hE (tgt := 10) (dlX10_tape_0.at 3 rfl) (by decide) hm (fun hc2 hm => ?_) (fun hc2 hm => ?_)
  · refine q_iconst hE (dlX10_tape_0.at 4 rfl) ic_m1 ?_
    exact q_iret (X := fun z => WG V o z) hE (dlX10_tape_0.at 5 rfl) hm hQ rfl
  · refine q_aload_n hE 0 (dlX10_tape_0.at 6 rfl) rfl rfl ?_
    refine q_iload_n hE 2 (dlX10_tape_0.at 7 rfl) rfl rfl ?_
    refine q_iconst hE (dlX10_tape_0.at 8 rfl) ic_m1 ?_
    refine q_iconst hE (dlX10_tape_0.at 9 rfl) ic_4 ?_
    refine q_callV_i (X := fun z => WG V o z) hE (As := [_, _, _]) (dlX10_tape_0.at 10 rfl) mw_X10_in wm_X10_212 rfl rfl rfl rfl (Nat.zero_le _) (Nat.zero_le _) rfl kc10 g102 rfl (ok_X10_in hfx) hm (fun v3 h3 hm => ?_)
    refine q_if_eq hE (tgt := 30) (dlX10_tape_0.at 11 rfl) (by decide) hm (fun hc4 hm => ?_) (fun hc4 hm => ?_)
    · refine q_bipush hE (dlX10_tape_0.at 17 rfl) bc_m2 ?_
      exact q_iret (X := fun z => WG V o z) hE (dlX10_tape_0.at 18 rfl) hm hQ rfl
    · refine q_iload_n hE 2 (dlX10_tape_0.at 12 rfl) rfl rfl ?_
      refine q_if_lt hE (tgt := 33) (dlX10_tape_0.at 13 rfl) (by decide) hm (fun hc5 hm => ?_) (fun hc5 hm => ?_)
      · refine q_iload_n hE 2 (dlX10_tape_0.at 19 rfl) rfl rfl ?_
        refine q_if_lt hE (tgt := 44) (dlX10_tape_0.at 20 rfl) (by decide) hm (fun hc6 hm => ?_) (fun hc6 hm => ?_)
        · refine q_sub hE [0, 1, 2, 3] rfl ?_
          exact okL_X10_tape_44 hfx hE hQ  _ _ _ _  hm
        · refine q_iload_n hE 3 (dlX10_tape_0.at 21 rfl) rfl rfl ?_
          refine q_if_ge hE (tgt := 44) (dlX10_tape_0.at 22 rfl) (by decide) hm (fun hc13 hm => ?_) (fun hc13 hm => ?_)
          · refine q_sub hE [0, 1, 2, 3] rfl ?_
            exact okL_X10_tape_44 hfx hE hQ  _ _ _ _  hm
          · refine q_bipush hE (dlX10_tape_0.at 23 rfl) bc_m14 ?_
            exact q_iret (X := fun z => WG V o z) hE (dlX10_tape_0.at 24 rfl) hm hQ rfl
      · refine q_iload_n hE 3 (dlX10_tape_0.at 14 rfl) rfl rfl ?_
        refine q_bipush hE (dlX10_tape_0.at 15 rfl) bc_60 ?_
        refine q_icmp_le hE (tgt := 33) (dlX10_tape_0.at 16 rfl) (by decide) hm (fun hc14 hm => ?_) (fun hc14 hm => ?_)
        · refine q_iload_n hE 2 (dlX10_tape_0.at 19 rfl) rfl rfl ?_
          refine q_if_lt hE (tgt := 44) (dlX10_tape_0.at 20 rfl) (by decide) hm (fun hc15 hm => ?_) (fun hc15 hm => ?_)
          · refine q_sub hE [0, 1, 2, 3] rfl ?_
            exact okL_X10_tape_44 hfx hE hQ  _ _ _ _  hm
          · refine q_iload_n hE 3 (dlX10_tape_0.at 21 rfl) rfl rfl ?_
            refine q_if_ge hE (tgt := 44) (dlX10_tape_0.at 22 rfl) (by decide) hm (fun hc16 hm => ?_) (fun hc16 hm => ?_)
            · refine q_sub hE [0, 1, 2, 3] rfl ?_
              exact okL_X10_tape_44 hfx hE hQ  _ _ _ _  hm
            · refine q_bipush hE (dlX10_tape_0.at 23 rfl) bc_m14 ?_
              exact q_iret (X := fun z => WG V o z) hE (dlX10_tape_0.at 24 rfl) hm hQ rfl
        · refine q_bipush hE (dlX10_tape_0.at 17 rfl) bc_m2 ?_
          exact q_iret (X := fun z => WG V o z) hE (dlX10_tape_0.at 18 rfl) hm hQ rfl
set_option maxRecDepth 10000 in
theorem ok_X10_narrow {V : Ev} {l : Launch} {o : PH} {F : Nat}  (hfx : V.2.2.2.2 = false) {a1 : Int32} {a2 : Int64} {h : PH} : ∀ (v : Int64) (h' : PH), f_X10_narrow F a1 a2 h = some (v, h') → Ctr l V yX10_narrow cX10_narrow 4 (some .long) 1 [rf V 102, .int a1, .long a2] 143 (WG V o h) 143 (WG V o (h')) (some (.long v)) 0 0 := by
  intro v h' hm
  refine Ctr.intro RX10 (by decide +kernel) rfl rfl rfl ?_
  intro E hE hQ _
  unfold f_X10_narrow at hm
  refine q_iload_n hE 1 (dlX10_narrow_0.at 0 rfl) rfl rfl ?_
  refine q_if_ne hE (tgt := 11) (dlX10_narrow_0.at 1 rfl) (by decide) hm (fun hc1 hm => ?_) (fun hc1 hm => ?_)
  · refine q_lload_n hE 2 (dlX10_narrow_0.at 2 rfl) rfl rfl ?_
    refine q_l2i hE (dlX10_narrow_0.at 3 rfl) ?_
    refine q_i2b hE (dlX10_narrow_0.at 4 rfl) ?_
    refine q_i2l hE (dlX10_narrow_0.at 5 rfl) ?_
    refine q_goto hE (tgt := 54) (dlX10_narrow_0.at 6 rfl) (by decide) ?_
    exact q_lret (X := fun z => WG V o z) hE (dlX10_narrow_0.at 34 rfl) hm hQ rfl
  · refine q_iload_n hE 1 (dlX10_narrow_0.at 7 rfl) rfl rfl ?_
    refine q_iconst hE (dlX10_narrow_0.at 8 rfl) ic_1 ?_
    refine q_icmp_ne hE (tgt := 23) (dlX10_narrow_0.at 9 rfl) (by decide) hm (fun hc2 hm => ?_) (fun hc2 hm => ?_)
    · refine q_lload_n hE 2 (dlX10_narrow_0.at 10 rfl) rfl rfl ?_
      refine q_l2i hE (dlX10_narrow_0.at 11 rfl) ?_
      refine q_i2s hE (dlX10_narrow_0.at 12 rfl) ?_
      refine q_i2l hE (dlX10_narrow_0.at 13 rfl) ?_
      refine q_goto hE (tgt := 54) (dlX10_narrow_0.at 14 rfl) (by decide) ?_
      exact q_lret (X := fun z => WG V o z) hE (dlX10_narrow_0.at 34 rfl) hm hQ rfl
    · refine q_iload_n hE 1 (dlX10_narrow_0.at 15 rfl) rfl rfl ?_
      refine q_iconst hE (dlX10_narrow_0.at 16 rfl) ic_2 ?_
      refine q_icmp_ne hE (tgt := 34) (dlX10_narrow_0.at 17 rfl) (by decide) hm (fun hc3 hm => ?_) (fun hc3 hm => ?_)
      · refine q_lload_n hE 2 (dlX10_narrow_0.at 18 rfl) rfl rfl ?_
        refine q_l2i hE (dlX10_narrow_0.at 19 rfl) ?_
        refine q_i2l hE (dlX10_narrow_0.at 20 rfl) ?_
        refine q_goto hE (tgt := 54) (dlX10_narrow_0.at 21 rfl) (by decide) ?_
        exact q_lret (X := fun z => WG V o z) hE (dlX10_narrow_0.at 34 rfl) hm hQ rfl
      · refine q_iload_n hE 1 (dlX10_narrow_0.at 22 rfl) rfl rfl ?_
        refine q_iconst hE (dlX10_narrow_0.at 23 rfl) ic_4 ?_
        refine q_icmp_ne hE (tgt := 53) (dlX10_narrow_0.at 24 rfl) (by decide) hm (fun hc4 hm => ?_) (fun hc4 hm => ?_)
        · refine q_lload_n hE 2 (dlX10_narrow_0.at 25 rfl) rfl rfl ?_
          refine q_lconst hE (dlX10_narrow_0.at 26 rfl) lc_0 ?_
          refine q_lcmp hE (dlX10_narrow_0.at 27 rfl) ?_
          refine q_if_eq hE (tgt := 49) (dlX10_narrow_0.at 28 rfl) (by decide) hm (fun hc5 hm => ?_) (fun hc5 hm => ?_)
          · refine q_lconst hE (dlX10_narrow_0.at 31 rfl) lc_0 ?_
            refine q_goto hE (tgt := 54) (dlX10_narrow_0.at 32 rfl) (by decide) ?_
            exact q_lret (X := fun z => WG V o z) hE (dlX10_narrow_0.at 34 rfl) hm hQ rfl
          · refine q_lconst hE (dlX10_narrow_0.at 29 rfl) lc_1 ?_
            refine q_goto hE (tgt := 54) (dlX10_narrow_0.at 30 rfl) (by decide) ?_
            exact q_lret (X := fun z => WG V o z) hE (dlX10_narrow_0.at 34 rfl) hm hQ rfl
        · refine q_lload_n hE 2 (dlX10_narrow_0.at 33 rfl) rfl rfl ?_
          exact q_lret (X := fun z => WG V o z) hE (dlX10_narrow_0.at 34 rfl) hm hQ rfl
set_option maxRecDepth 10000 in
theorem ok_X10_item {V : Ev} {l : Launch} {o : PH} {F : Nat}  (hfx : V.2.2.2.2 = false) {a1 : Int32} {a2 : Int32} {a3 : Int64} {h : PH} : ∀ (v : Int32) (h' : PH), f_X10_item F a1 a2 a3 h = some (v, h') → Ctr l V yX10_item cX10_item 5 (some .int) 3 [rf V 102, .int a1, .int a2, .long a3] 143 (WG V o h) 143 (WG V o (h')) (some (.int v)) 0 0 := by
  intro v h' hm
  refine Ctr.intro RX10 (by decide +kernel) rfl rfl rfl ?_
  intro E hE hQ _
  unfold f_X10_item at hm
  refine q_aload_n hE 0 (dlX10_item_0.at 0 rfl) rfl rfl ?_
  refine q_iload_n hE 1 (dlX10_item_0.at 1 rfl) rfl rfl ?_
  refine q_callV_i (X := fun z => WG V o z) hE (As := [_]) (dlX10_item_0.at 2 rfl) mw_X10_isTape wm_X10_366 rfl rfl rfl rfl (Nat.zero_le _) (Nat.zero_le _) rfl kc10 g102 rfl (ok_X10_isTape hfx) hm (fun v1 h1 hm => ?_)
  refine q_if_ne hE (tgt := 10) (dlX10_item_0.at 3 rfl) (by decide) hm (fun hc2 hm => ?_) (fun hc2 hm => ?_)
  · refine q_iconst hE (dlX10_item_0.at 4 rfl) ic_m1 ?_
    exact q_iret (X := fun z => WG V o z) hE (dlX10_item_0.at 5 rfl) hm hQ rfl
  · refine q_aload_n hE 0 (dlX10_item_0.at 6 rfl) rfl rfl ?_
    refine q_get hE (dlX10_item_0.at 7 rfl) kc10 wf_X10_199 g102 rfl rfl rfl ?_
    refine q_iload_n hE 1 (dlX10_item_0.at 8 rfl) rfl rfl ?_
    refine q_iald hE (dlX10_item_0.at 9 rfl) g139 rfl hm (fun hm => ?_)
    refine q_if_ge hE (tgt := 22) (dlX10_item_0.at 10 rfl) (by decide) hm (fun hc3 hm => ?_) (fun hc3 hm => ?_)
    · refine q_aload_n hE 0 (dlX10_item_0.at 13 rfl) rfl rfl ?_
      refine q_iload_n hE 2 (dlX10_item_0.at 14 rfl) rfl rfl ?_
      refine q_iconst hE (dlX10_item_0.at 15 rfl) ic_0 ?_
      refine q_aload_n hE 0 (dlX10_item_0.at 16 rfl) rfl rfl ?_
      refine q_get hE (dlX10_item_0.at 17 rfl) kc10 wf_X10_202 g102 rfl rfl rfl ?_
      refine q_iload_n hE 1 (dlX10_item_0.at 18 rfl) rfl rfl ?_
      refine q_iald hE (dlX10_item_0.at 19 rfl) g140 rfl hm (fun hm => ?_)
      refine q_iconst hE (dlX10_item_0.at 20 rfl) ic_1 ?_
      refine q_isub hE (dlX10_item_0.at 21 rfl) ?_
      refine q_callV_i (X := fun z => WG V o z) hE (As := [_, _, _]) (dlX10_item_0.at 22 rfl) mw_X10_in wm_X10_212 rfl rfl rfl rfl (Nat.zero_le _) (Nat.zero_le _) rfl kc10 g102 rfl (ok_X10_in hfx) hm (fun v4 h4 hm => ?_)
      refine q_if_ne hE (tgt := 42) (dlX10_item_0.at 23 rfl) (by decide) hm (fun hc5 hm => ?_) (fun hc5 hm => ?_)
      · refine q_bipush hE (dlX10_item_0.at 24 rfl) bc_m13 ?_
        exact q_iret (X := fun z => WG V o z) hE (dlX10_item_0.at 25 rfl) hm hQ rfl
      · refine q_aload_n hE 0 (dlX10_item_0.at 26 rfl) rfl rfl ?_
        refine q_get hE (dlX10_item_0.at 27 rfl) kc10 wf_X10_205 g102 rfl rfl rfl ?_
        refine q_bipush hE (dlX10_item_0.at 28 rfl) bc_60 ?_
        refine q_iload_n hE 1 (dlX10_item_0.at 29 rfl) rfl rfl ?_
        refine q_imul hE (dlX10_item_0.at 30 rfl) ?_
        refine q_iload_n hE 2 (dlX10_item_0.at 31 rfl) rfl rfl ?_
        refine q_iadd hE (dlX10_item_0.at 32 rfl) ?_
        refine q_aload_n hE 0 (dlX10_item_0.at 33 rfl) rfl rfl ?_
        refine q_aload_n hE 0 (dlX10_item_0.at 34 rfl) rfl rfl ?_
        refine q_get hE (dlX10_item_0.at 35 rfl) kc10 wf_X10_199 g102 rfl rfl rfl ?_
        refine q_iload_n hE 1 (dlX10_item_0.at 36 rfl) rfl rfl ?_
        refine q_iald hE (dlX10_item_0.at 37 rfl) g139 rfl hm (fun hm => ?_)
        refine q_lload_n hE 3 (dlX10_item_0.at 38 rfl) rfl rfl ?_
        refine q_callV_l (X := fun z => WG V o z) hE (As := [_, _]) (dlX10_item_0.at 39 rfl) mw_X10_narrow wm_X10_393 rfl rfl rfl rfl (Nat.zero_le _) (Nat.zero_le _) rfl kc10 g102 rfl (ok_X10_narrow hfx) hm (fun v6 h6 hm => ?_)
        refine q_last hE hfx (dlX10_item_1.at 0 rfl) g141 rfl u141 hm (fun hm => ?_)
        refine q_lth (X := fun z => WG V o z) hm (fun h7 hm => ?_)
        refine q_iconst hE (dlX10_item_1.at 1 rfl) ic_1 ?_
        exact q_iret (X := fun z => WG V o z) hE (dlX10_item_1.at 2 rfl) hm hQ rfl
    · refine q_bipush hE (dlX10_item_0.at 11 rfl) bc_m11 ?_
      exact q_iret (X := fun z => WG V o z) hE (dlX10_item_0.at 12 rfl) hm hQ rfl
set_option maxRecDepth 10000 in
theorem ok_X10_read {V : Ev} {l : Launch} {o : PH} {F : Nat}  (hfx : V.2.2.2.2 = false) {a1 : Int32} {a2 : Int32} {h : PH} : ∀ (v : Int64) (h' : PH), f_X10_read F a1 a2 h = some (v, h') → Ctr l V yX10_read cX10_read 3 (some .long) 3 [rf V 102, .int a1, .int a2] 143 (WG V o h) 143 (WG V o (h')) (some (.long v)) 0 0 := by
  intro v h' hm
  refine Ctr.intro RX10 (by decide +kernel) rfl rfl rfl ?_
  intro E hE hQ _
  unfold f_X10_read at hm
  refine q_aload_n hE 0 (dlX10_read_0.at 0 rfl) rfl rfl ?_
  refine q_iload_n hE 1 (dlX10_read_0.at 1 rfl) rfl rfl ?_
  refine q_callV_i (X := fun z => WG V o z) hE (As := [_]) (dlX10_read_0.at 2 rfl) mw_X10_isTape wm_X10_366 rfl rfl rfl rfl (Nat.zero_le _) (Nat.zero_le _) rfl kc10 g102 rfl (ok_X10_isTape hfx) hm (fun v1 h1 hm => ?_)
  refine q_if_eq hE (tgt := 34) (dlX10_read_0.at 3 rfl) (by decide) hm (fun hc2 hm => ?_) (fun hc2 hm => ?_)
  · refine q_ldc2 hE (dlX10_read_0.at 20 rfl) wk_X10_360 ?_
    refine q_goto hE (tgt := 51) (dlX10_read_0.at 21 rfl) (by decide) ?_
    exact q_lret (X := fun z => WG V o z) hE (dlX10_read_0.at 30 rfl) hm hQ rfl
  · refine q_aload_n hE 0 (dlX10_read_0.at 4 rfl) rfl rfl ?_
    refine q_get hE (dlX10_read_0.at 5 rfl) kc10 wf_X10_199 g102 rfl rfl rfl ?_
    refine q_iload_n hE 1 (dlX10_read_0.at 6 rfl) rfl rfl ?_
    refine q_iald hE (dlX10_read_0.at 7 rfl) g139 rfl hm (fun hm => ?_)
    refine q_if_lt hE (tgt := 34) (dlX10_read_0.at 8 rfl) (by decide) hm (fun hc3 hm => ?_) (fun hc3 hm => ?_)
    · refine q_ldc2 hE (dlX10_read_0.at 20 rfl) wk_X10_360 ?_
      refine q_goto hE (tgt := 51) (dlX10_read_0.at 21 rfl) (by decide) ?_
      exact q_lret (X := fun z => WG V o z) hE (dlX10_read_0.at 30 rfl) hm hQ rfl
    · refine q_aload_n hE 0 (dlX10_read_0.at 9 rfl) rfl rfl ?_
      refine q_iload_n hE 2 (dlX10_read_0.at 10 rfl) rfl rfl ?_
      refine q_iconst hE (dlX10_read_0.at 11 rfl) ic_0 ?_
      refine q_aload_n hE 0 (dlX10_read_0.at 12 rfl) rfl rfl ?_
      refine q_get hE (dlX10_read_0.at 13 rfl) kc10 wf_X10_202 g102 rfl rfl rfl ?_
      refine q_iload_n hE 1 (dlX10_read_0.at 14 rfl) rfl rfl ?_
      refine q_iald hE (dlX10_read_0.at 15 rfl) g140 rfl hm (fun hm => ?_)
      refine q_iconst hE (dlX10_read_0.at 16 rfl) ic_1 ?_
      refine q_isub hE (dlX10_read_0.at 17 rfl) ?_
      refine q_callV_i (X := fun z => WG V o z) hE (As := [_, _, _]) (dlX10_read_0.at 18 rfl) mw_X10_in wm_X10_212 rfl rfl rfl rfl (Nat.zero_le _) (Nat.zero_le _) rfl kc10 g102 rfl (ok_X10_in hfx) hm (fun v4 h4 hm => ?_)
      refine q_if_ne hE (tgt := 40) (dlX10_read_0.at 19 rfl) (by decide) hm (fun hc5 hm => ?_) (fun hc5 hm => ?_)
      · refine q_ldc2 hE (dlX10_read_0.at 20 rfl) wk_X10_360 ?_
        refine q_goto hE (tgt := 51) (dlX10_read_0.at 21 rfl) (by decide) ?_
        exact q_lret (X := fun z => WG V o z) hE (dlX10_read_0.at 30 rfl) hm hQ rfl
      · refine q_aload_n hE 0 (dlX10_read_0.at 22 rfl) rfl rfl ?_
        refine q_get hE (dlX10_read_0.at 23 rfl) kc10 wf_X10_205 g102 rfl rfl rfl ?_
        refine q_bipush hE (dlX10_read_0.at 24 rfl) bc_60 ?_
        refine q_iload_n hE 1 (dlX10_read_0.at 25 rfl) rfl rfl ?_
        refine q_imul hE (dlX10_read_0.at 26 rfl) ?_
        refine q_iload_n hE 2 (dlX10_read_0.at 27 rfl) rfl rfl ?_
        refine q_iadd hE (dlX10_read_0.at 28 rfl) ?_
        refine q_lald hE (dlX10_read_0.at 29 rfl) g141 rfl hm (fun hm => ?_)
        exact q_lret (X := fun z => WG V o z) hE (dlX10_read_0.at 30 rfl) hm hQ rfl
set_option maxRecDepth 10000 in
theorem okL_X10_shift_141 {V : Ev} {l : Launch} {o : PH} {F : Nat}  (hfx : V.2.2.2.2 = false) {E : Cx} (hE : CX E V l cX10_shift RX10 7 3 0 0 (some .int)) {r : Int32 × PH} (hQ : RQ E V 143 (WG V o r.2) (some (.int r.1)) 0 0) : ∀ (n : Nat) (x3 : Int32) (x4 : Int32) (x5 : Int32) (x6 : Int32) (h : PH), fL_X10_shift_141 F n x3 x4 x5 x6 h = some r → PW E V 0 0 143 (WG V o h) 141 [(0, rf V 102), (3, .int x3), (4, .int x4), (5, .int x5), (6, .int x6)] [] := by
  intro n
  induction n with
  | zero => intro x3 x4 x5 x6 h hm; cases hm
  | succ n ih =>
    intro x3 x4 x5 x6 h hm
    rw [fL_X10_shift_141] at hm
    refine q_iload hE 4 (dlX10_shift_2.at 0 rfl) rfl ?_
    refine q_iload hE 3 (dlX10_shift_2.at 1 rfl) rfl ?_
    refine q_icmp_ge hE (tgt := 176) (dlX10_shift_2.at 2 rfl) (by decide) hm (fun hc14 hm => ?_) (fun hc14 hm => ?_)
    · refine q_iload hE 3 (dlX10_shift_2.at 19 rfl) rfl ?_
      exact q_iret (X := fun z => WG V o z) hE (dlX10_shift_2.at 20 rfl) hm hQ rfl
    · refine q_aload_n hE 0 (dlX10_shift_2.at 3 rfl) rfl rfl ?_
      refine q_get hE (dlX10_shift_2.at 4 rfl) kc10 wf_X10_205 g102 rfl rfl rfl ?_
      refine q_bipush hE (dlX10_shift_2.at 5 rfl) bc_60 ?_
      refine q_iload_n hE 1 (dlX10_shift_2.at 6 rfl) rfl rfl ?_
      refine q_imul hE (dlX10_shift_2.at 7 rfl) ?_
      refine q_iload hE 2 (dlX10_shift_2.at 8 rfl) rfl ?_
      refine q_iadd hE (dlX10_shift_2.at 9 rfl) ?_
      refine q_iload hE 4 (dlX10_shift_2.at 10 rfl) rfl ?_
      refine q_iadd hE (dlX10_shift_2.at 11 rfl) ?_
      refine q_aload_n hE 0 (dlX10_shift_2.at 12 rfl) rfl rfl ?_
      refine q_get hE (dlX10_shift_2.at 13 rfl) kc10 wf_X10_209 g102 rfl rfl rfl ?_
      refine q_iload hE 4 (dlX10_shift_2.at 14 rfl) rfl ?_
      refine q_lald hE (dlX10_shift_2.at 15 rfl) g142 rfl hm (fun hm => ?_)
      refine q_last hE hfx (dlX10_shift_2.at 16 rfl) g141 rfl u141 hm (fun hm => ?_)
      refine q_lth (X := fun z => WG V o z) hm (fun h15 hm => ?_)
      refine q_iinc hE [(0, _), (3, _), (4, _), (5, _), (6, _)] 4 (dlX10_shift_2.at 17 rfl) rfl ic_1 rfl rfl ?_
      refine q_goto hE (tgt := 141) (dlX10_shift_2.at 18 rfl) (by decide) ?_
      refine q_sub hE [0, 1, 2, 3, 4] rfl ?_
      exact ih _ _ _ _ _  hm
set_option maxRecDepth 10000 in
theorem okL_X10_shift_104 {V : Ev} {l : Launch} {o : PH} {F : Nat}  (hfx : V.2.2.2.2 = false) {E : Cx} (hE : CX E V l cX10_shift RX10 7 3 0 0 (some .int)) {r : Int32 × PH} (hQ : RQ E V 143 (WG V o r.2) (some (.int r.1)) 0 0) : ∀ (n : Nat) (x1 : Int32) (x2 : Int32) (x3 : Int32) (x4 : Int32) (x5 : Int32) (x6 : Int32) (h : PH), fL_X10_shift_104 F n x1 x2 x3 x4 x5 x6 h = some r → PW E V 0 0 143 (WG V o h) 104 [(0, rf V 102), (1, .int x1), (2, .int x2), (3, .int x3), (4, .int x4), (5, .int x5), (6, .int x6)] [] := by
  intro n
  induction n with
  | zero => intro x1 x2 x3 x4 x5 x6 h hm; cases hm
  | succ n ih =>
    intro x1 x2 x3 x4 x5 x6 h hm
    rw [fL_X10_shift_104] at hm
    refine q_iload hE 6 (dlX10_shift_1.at 19 rfl) rfl ?_
    refine q_iload hE 5 (dlX10_shift_1.at 20 rfl) rfl ?_
    refine q_icmp_ge hE (tgt := 138) (dlX10_shift_1.at 21 rfl) (by decide) hm (fun hc13 hm => ?_) (fun hc13 hm => ?_)
    · refine q_iconst hE (dlX10_shift_1.at 38 rfl) ic_0 ?_
      refine q_istore hE [(0, _), (1, _), (2, _), (3, _), (4, _), (5, _), (6, _)] (dlX10_shift_1.at 39 rfl) rfl rfl ?_
      refine q_sub hE [0, 3, 4, 5, 6] rfl ?_
      exact okL_X10_shift_141 hfx hE hQ  F _ _ _ _ _  hm
    · refine q_aload_n hE 0 (dlX10_shift_1.at 22 rfl) rfl rfl ?_
      refine q_get hE (dlX10_shift_1.at 23 rfl) kc10 wf_X10_209 g102 rfl rfl rfl ?_
      refine q_iload hE 6 (dlX10_shift_1.at 24 rfl) rfl ?_
      refine q_aload_n hE 0 (dlX10_shift_1.at 25 rfl) rfl rfl ?_
      refine q_get hE (dlX10_shift_1.at 26 rfl) kc10 wf_X10_205 g102 rfl rfl rfl ?_
      refine q_bipush hE (dlX10_shift_1.at 27 rfl) bc_60 ?_
      refine q_iload_n hE 1 (dlX10_shift_1.at 28 rfl) rfl rfl ?_
      refine q_imul hE (dlX10_shift_1.at 29 rfl) ?_
      refine q_iload_n hE 2 (dlX10_shift_1.at 30 rfl) rfl rfl ?_
      refine q_iadd hE (dlX10_shift_1.at 31 rfl) ?_
      refine q_iload hE 6 (dlX10_shift_1.at 32 rfl) rfl ?_
      refine q_iadd hE (dlX10_shift_1.at 33 rfl) ?_
      refine q_lald hE (dlX10_shift_1.at 34 rfl) g141 rfl hm (fun hm => ?_)
      refine q_last hE hfx (dlX10_shift_1.at 35 rfl) g142 rfl u142 hm (fun hm => ?_)
      refine q_lth (X := fun z => WG V o z) hm (fun h16 hm => ?_)
      refine q_iinc hE [(0, _), (1, _), (2, _), (3, _), (4, _), (5, _), (6, _)] 6 (dlX10_shift_1.at 36 rfl) rfl ic_1 rfl rfl ?_
      refine q_goto hE (tgt := 104) (dlX10_shift_1.at 37 rfl) (by decide) ?_
      refine q_sub hE [0, 1, 2, 3, 4, 5, 6] rfl ?_
      exact ih _ _ _ _ _ _ _  hm
set_option maxRecDepth 10000 in
theorem ok_X10_shift {V : Ev} {l : Launch} {o : PH} {F : Nat}  (hfx : V.2.2.2.2 = false) {a1 : Int32} {a2 : Int32} {a3 : Int32} {a4 : Int32} {a5 : Int32} {h : PH} : ∀ (v : Int32) (h' : PH), f_X10_shift F a1 a2 a3 a4 a5 h = some (v, h') → Ctr l V yX10_shift cX10_shift 7 (some .int) 3 [rf V 102, .int a1, .int a2, .int a3, .int a4, .int a5] 143 (WG V o h) 143 (WG V o (h')) (some (.int v)) 0 0 := by
  intro v h' hm
  refine Ctr.intro RX10 (by decide +kernel) rfl rfl rfl ?_
  intro E hE hQ _
  unfold f_X10_shift at hm
  refine q_aload_n hE 0 (dlX10_shift_0.at 0 rfl) rfl rfl ?_
  refine q_iload_n hE 1 (dlX10_shift_0.at 1 rfl) rfl rfl ?_
  refine q_callV_i (X := fun z => WG V o z) hE (As := [_]) (dlX10_shift_0.at 2 rfl) mw_X10_isTape wm_X10_366 rfl rfl rfl rfl (Nat.zero_le _) (Nat.zero_le _) rfl kc10 g102 rfl (ok_X10_isTape hfx) hm (fun v1 h1 hm => ?_)
  refine q_if_eq hE (tgt := 16) (dlX10_shift_0.at 3 rfl) (by decide) hm (fun hc2 hm => ?_) (fun hc2 hm => ?_)
  · refine q_iconst hE (dlX10_shift_0.at 8 rfl) ic_m1 ?_
    exact q_iret (X := fun z => WG V o z) hE (dlX10_shift_0.at 9 rfl) hm hQ rfl
  · refine q_aload_n hE 0 (dlX10_shift_0.at 4 rfl) rfl rfl ?_
    refine q_iload_n hE 3 (dlX10_shift_0.at 5 rfl) rfl rfl ?_
    refine q_callV_i (X := fun z => WG V o z) hE (As := [_]) (dlX10_shift_0.at 6 rfl) mw_X10_isTape wm_X10_366 rfl rfl rfl rfl (Nat.zero_le _) (Nat.zero_le _) rfl kc10 g102 rfl (ok_X10_isTape hfx) hm (fun v3 h3 hm => ?_)
    refine q_if_ne hE (tgt := 18) (dlX10_shift_0.at 7 rfl) (by decide) hm (fun hc4 hm => ?_) (fun hc4 hm => ?_)
    · refine q_iconst hE (dlX10_shift_0.at 8 rfl) ic_m1 ?_
      exact q_iret (X := fun z => WG V o z) hE (dlX10_shift_0.at 9 rfl) hm hQ rfl
    · refine q_aload_n hE 0 (dlX10_shift_0.at 10 rfl) rfl rfl ?_
      refine q_get hE (dlX10_shift_0.at 11 rfl) kc10 wf_X10_199 g102 rfl rfl rfl ?_
      refine q_iload_n hE 1 (dlX10_shift_0.at 12 rfl) rfl rfl ?_
      refine q_iald hE (dlX10_shift_0.at 13 rfl) g139 rfl hm (fun hm => ?_)
      refine q_if_lt hE (tgt := 36) (dlX10_shift_0.at 14 rfl) (by decide) hm (fun hc5 hm => ?_) (fun hc5 hm => ?_)
      · refine q_bipush hE (dlX10_shift_0.at 20 rfl) bc_m11 ?_
        exact q_iret (X := fun z => WG V o z) hE (dlX10_shift_0.at 21 rfl) hm hQ rfl
      · refine q_aload_n hE 0 (dlX10_shift_0.at 15 rfl) rfl rfl ?_
        refine q_get hE (dlX10_shift_0.at 16 rfl) kc10 wf_X10_199 g102 rfl rfl rfl ?_
        refine q_iload_n hE 3 (dlX10_shift_0.at 17 rfl) rfl rfl ?_
        refine q_iald hE (dlX10_shift_0.at 18 rfl) g139 rfl hm (fun hm => ?_)
        refine q_if_ge hE (tgt := 39) (dlX10_shift_0.at 19 rfl) (by decide) hm (fun hc6 hm => ?_) (fun hc6 hm => ?_)
        · refine q_aload_n hE 0 (dlX10_shift_0.at 22 rfl) rfl rfl ?_
          refine q_get hE (dlX10_shift_0.at 23 rfl) kc10 wf_X10_199 g102 rfl rfl rfl ?_
          refine q_iload_n hE 1 (dlX10_shift_0.at 24 rfl) rfl rfl ?_
          refine q_iald hE (dlX10_shift_0.at 25 rfl) g139 rfl hm (fun hm => ?_)
          refine q_aload_n hE 0 (dlX10_shift_0.at 26 rfl) rfl rfl ?_
          refine q_get hE (dlX10_shift_0.at 27 rfl) kc10 wf_X10_199 g102 rfl rfl rfl ?_
          refine q_iload_n hE 3 (dlX10_shift_0.at 28 rfl) rfl rfl ?_
          refine q_iald hE (dlX10_shift_0.at 29 rfl) g139 rfl hm (fun hm => ?_)
          refine q_icmp_eq hE (tgt := 57) (dlX10_shift_0.at 30 rfl) (by decide) hm (fun hc7 hm => ?_) (fun hc7 hm => ?_)
          · refine q_iload hE 5 (dlX10_shift_0.at 33 rfl) rfl ?_
            refine q_if_lt hE (tgt := 98) (dlX10_shift_0.at 34 rfl) (by decide) hm (fun hc8 hm => ?_) (fun hc8 hm => ?_)
            · refine q_bipush hE (dlX10_shift_1.at 15 rfl) bc_m13 ?_
              exact q_iret (X := fun z => WG V o z) hE (dlX10_shift_1.at 16 rfl) hm hQ rfl
            · refine q_iload_n hE 2 (dlX10_shift_0.at 35 rfl) rfl rfl ?_
              refine q_if_lt hE (tgt := 98) (dlX10_shift_0.at 36 rfl) (by decide) hm (fun hc9 hm => ?_) (fun hc9 hm => ?_)
              · refine q_bipush hE (dlX10_shift_1.at 15 rfl) bc_m13 ?_
                exact q_iret (X := fun z => WG V o z) hE (dlX10_shift_1.at 16 rfl) hm hQ rfl
              · refine q_iload hE 4 (dlX10_shift_0.at 37 rfl) rfl ?_
                refine q_if_lt hE (tgt := 98) (dlX10_shift_0.at 38 rfl) (by decide) hm (fun hc10 hm => ?_) (fun hc10 hm => ?_)
                · refine q_bipush hE (dlX10_shift_1.at 15 rfl) bc_m13 ?_
                  exact q_iret (X := fun z => WG V o z) hE (dlX10_shift_1.at 16 rfl) hm hQ rfl
                · refine q_iload_n hE 2 (dlX10_shift_0.at 39 rfl) rfl rfl ?_
                  refine q_aload_n hE 0 (dlX10_shift_1.at 0 rfl) rfl rfl ?_
                  refine q_get hE (dlX10_shift_1.at 1 rfl) kc10 wf_X10_202 g102 rfl rfl rfl ?_
                  refine q_iload_n hE 1 (dlX10_shift_1.at 2 rfl) rfl rfl ?_
                  refine q_iald hE (dlX10_shift_1.at 3 rfl) g140 rfl hm (fun hm => ?_)
                  refine q_iload hE 5 (dlX10_shift_1.at 4 rfl) rfl ?_
                  refine q_isub hE (dlX10_shift_1.at 5 rfl) ?_
                  refine q_icmp_gt hE (tgt := 98) (dlX10_shift_1.at 6 rfl) (by decide) hm (fun hc11 hm => ?_) (fun hc11 hm => ?_)
                  · refine q_bipush hE (dlX10_shift_1.at 15 rfl) bc_m13 ?_
                    exact q_iret (X := fun z => WG V o z) hE (dlX10_shift_1.at 16 rfl) hm hQ rfl
                  · refine q_iload hE 4 (dlX10_shift_1.at 7 rfl) rfl ?_
                    refine q_aload_n hE 0 (dlX10_shift_1.at 8 rfl) rfl rfl ?_
                    refine q_get hE (dlX10_shift_1.at 9 rfl) kc10 wf_X10_202 g102 rfl rfl rfl ?_
                    refine q_iload_n hE 3 (dlX10_shift_1.at 10 rfl) rfl rfl ?_
                    refine q_iald hE (dlX10_shift_1.at 11 rfl) g140 rfl hm (fun hm => ?_)
                    refine q_iload hE 5 (dlX10_shift_1.at 12 rfl) rfl ?_
                    refine q_isub hE (dlX10_shift_1.at 13 rfl) ?_
                    refine q_icmp_le hE (tgt := 101) (dlX10_shift_1.at 14 rfl) (by decide) hm (fun hc12 hm => ?_) (fun hc12 hm => ?_)
                    · refine q_iconst hE (dlX10_shift_1.at 17 rfl) ic_0 ?_
                      refine q_istore hE [(0, _), (1, _), (2, _), (3, _), (4, _), (5, _), (6, _)] (dlX10_shift_1.at 18 rfl) rfl rfl ?_
                      refine q_sub hE [0, 1, 2, 3, 4, 5, 6] rfl ?_
                      exact okL_X10_shift_104 hfx hE hQ  F _ _ _ _ _ _ _  hm
                    · refine q_bipush hE (dlX10_shift_1.at 15 rfl) bc_m13 ?_
                      exact q_iret (X := fun z => WG V o z) hE (dlX10_shift_1.at 16 rfl) hm hQ rfl
          · refine q_bipush hE (dlX10_shift_0.at 31 rfl) bc_m12 ?_
            exact q_iret (X := fun z => WG V o z) hE (dlX10_shift_0.at 32 rfl) hm hQ rfl
        · refine q_bipush hE (dlX10_shift_0.at 20 rfl) bc_m11 ?_
          exact q_iret (X := fun z => WG V o z) hE (dlX10_shift_0.at 21 rfl) hm hQ rfl
