set_option maxRecDepth 10000 in
theorem okL_X5_readInto_32 {V : Ev} {l : Launch} {o : PH} {F : Nat}  (hfx : V.2.2.2.2 = false) {E : Cx} (hE : CX E V l cX5_readInto RX5 3 58 0 0 (some .boolean)) {r : Int32 × PH} (hQ : RQ E V 143 (WG V r.2 o) (some (.int r.1)) 0 0) : ∀ (n : Nat) (x2 : Int32) (h : PH), fL_X5_readInto_32 F n x2 h = some r → PW E V 0 0 143 (WG V h o) 32 [(0, rf V 31), (2, .int x2)] [] := by
  intro n
  induction n with
  | zero => intro x2 h hm; cases hm
  | succ n ih =>
    intro x2 h hm
    rw [fL_X5_readInto_32] at hm
    refine q_iload_n hE 1 (dlX5_readInto_0.at 18 rfl) rfl rfl ?_
    refine q_bipush hE (dlX5_readInto_0.at 19 rfl) bc_10 ?_
    refine q_icmp_ge hE (tgt := 68) (dlX5_readInto_0.at 20 rfl) (by decide) hm (fun hc8 hm => ?_) (fun hc8 hm => ?_)
    · refine q_aload_n hE 0 (dlX5_readInto_0.at 34 rfl) rfl rfl ?_
      refine q_get hE (dlX5_readInto_0.at 35 rfl) kc5 wf_X5_23 g31 rfl rfl rfl ?_
      refine q_if_ne hE (tgt := 87) (dlX5_readInto_0.at 36 rfl) (by decide) hm (fun hc9 hm => ?_) (fun hc9 hm => ?_)
      · refine q_aload_n hE 0 (dlX5_readInto_0.at 37 rfl) rfl rfl ?_
        refine q_get hE (dlX5_readInto_0.at 38 rfl) kc5 wf_X5_20 g31 rfl rfl rfl ?_
        refine q_iconst hE (dlX5_readInto_0.at 39 rfl) ic_m1 ?_
        refine q_icmp_ne hE (tgt := 87) (dlX5_readInto_1.at 0 rfl) (by decide) hm (fun hc10 hm => ?_) (fun hc10 hm => ?_)
        · refine q_iconst hE (dlX5_readInto_1.at 1 rfl) ic_1 ?_
          refine q_goto hE (tgt := 88) (dlX5_readInto_1.at 2 rfl) (by decide) ?_
          exact q_bret (X := fun z => WG V z o) hE (dlX5_readInto_1.at 4 rfl) hm hQ rfl (by decide)
        · refine q_iconst hE (dlX5_readInto_1.at 3 rfl) ic_0 ?_
          exact q_bret (X := fun z => WG V z o) hE (dlX5_readInto_1.at 4 rfl) hm hQ rfl (by decide)
      · refine q_iconst hE (dlX5_readInto_1.at 3 rfl) ic_0 ?_
        exact q_bret (X := fun z => WG V z o) hE (dlX5_readInto_1.at 4 rfl) hm hQ rfl (by decide)
    · refine q_aload_n hE 0 (dlX5_readInto_0.at 21 rfl) rfl rfl ?_
      refine q_get hE (dlX5_readInto_0.at 22 rfl) kc5 wf_X5_23 g31 rfl rfl rfl ?_
      refine q_if_ne hE (tgt := 68) (dlX5_readInto_0.at 23 rfl) (by decide) hm (fun hc11 hm => ?_) (fun hc11 hm => ?_)
      · refine q_aload_n hE 0 (dlX5_readInto_0.at 24 rfl) rfl rfl ?_
        refine q_get hE (dlX5_readInto_0.at 25 rfl) kc5 wf_X5_20 g31 rfl rfl rfl ?_
        refine q_bipush hE (dlX5_readInto_0.at 26 rfl) bc_59 ?_
        refine q_icmp_ne hE (tgt := 68) (dlX5_readInto_0.at 27 rfl) (by decide) hm (fun hc14 hm => ?_) (fun hc14 hm => ?_)
        · refine q_aload_n hE 0 (dlX5_readInto_0.at 28 rfl) rfl rfl ?_
          refine q_callV_v (X := fun z => WG V z o) hE (As := []) (dlX5_readInto_0.at 29 rfl) mw_X5_step wm_X5_36 rfl rfl rfl rfl (Nat.zero_le _) (Nat.zero_le _) rfl kc5 g31 rfl (ok_X5_step hfx) hm (fun v17 h17 hm => ?_)
          refine q_aload_n hE 0 (dlX5_readInto_0.at 30 rfl) rfl rfl ?_
          refine q_callV_v (X := fun z => WG V z o) hE (As := []) (dlX5_readInto_0.at 31 rfl) mw_X5_clause wm_X5_39 rfl rfl rfl rfl (Nat.zero_le _) (Nat.zero_le _) rfl kc5 g31 rfl (ok_X5_clause hfx) hm (fun v18 h18 hm => ?_)
          refine q_iinc hE [(0, _), (2, _)] 1 (dlX5_readInto_0.at 32 rfl) rfl ic_1 rfl rfl ?_
          refine q_goto hE (tgt := 32) (dlX5_readInto_0.at 33 rfl) (by decide) ?_
          refine q_sub hE [0, 1] rfl ?_
          exact ih _ _  hm
        · refine q_aload_n hE 0 (dlX5_readInto_0.at 34 rfl) rfl rfl ?_
          refine q_get hE (dlX5_readInto_0.at 35 rfl) kc5 wf_X5_23 g31 rfl rfl rfl ?_
          refine q_if_ne hE (tgt := 87) (dlX5_readInto_0.at 36 rfl) (by decide) hm (fun hc15 hm => ?_) (fun hc15 hm => ?_)
          · refine q_aload_n hE 0 (dlX5_readInto_0.at 37 rfl) rfl rfl ?_
            refine q_get hE (dlX5_readInto_0.at 38 rfl) kc5 wf_X5_20 g31 rfl rfl rfl ?_
            refine q_iconst hE (dlX5_readInto_0.at 39 rfl) ic_m1 ?_
            refine q_icmp_ne hE (tgt := 87) (dlX5_readInto_1.at 0 rfl) (by decide) hm (fun hc16 hm => ?_) (fun hc16 hm => ?_)
            · refine q_iconst hE (dlX5_readInto_1.at 1 rfl) ic_1 ?_
              refine q_goto hE (tgt := 88) (dlX5_readInto_1.at 2 rfl) (by decide) ?_
              exact q_bret (X := fun z => WG V z o) hE (dlX5_readInto_1.at 4 rfl) hm hQ rfl (by decide)
            · refine q_iconst hE (dlX5_readInto_1.at 3 rfl) ic_0 ?_
              exact q_bret (X := fun z => WG V z o) hE (dlX5_readInto_1.at 4 rfl) hm hQ rfl (by decide)
          · refine q_iconst hE (dlX5_readInto_1.at 3 rfl) ic_0 ?_
            exact q_bret (X := fun z => WG V z o) hE (dlX5_readInto_1.at 4 rfl) hm hQ rfl (by decide)
      · refine q_aload_n hE 0 (dlX5_readInto_0.at 34 rfl) rfl rfl ?_
        refine q_get hE (dlX5_readInto_0.at 35 rfl) kc5 wf_X5_23 g31 rfl rfl rfl ?_
        refine q_if_ne hE (tgt := 87) (dlX5_readInto_0.at 36 rfl) (by decide) hm (fun hc12 hm => ?_) (fun hc12 hm => ?_)
        · refine q_aload_n hE 0 (dlX5_readInto_0.at 37 rfl) rfl rfl ?_
          refine q_get hE (dlX5_readInto_0.at 38 rfl) kc5 wf_X5_20 g31 rfl rfl rfl ?_
          refine q_iconst hE (dlX5_readInto_0.at 39 rfl) ic_m1 ?_
          refine q_icmp_ne hE (tgt := 87) (dlX5_readInto_1.at 0 rfl) (by decide) hm (fun hc13 hm => ?_) (fun hc13 hm => ?_)
          · refine q_iconst hE (dlX5_readInto_1.at 1 rfl) ic_1 ?_
            refine q_goto hE (tgt := 88) (dlX5_readInto_1.at 2 rfl) (by decide) ?_
            exact q_bret (X := fun z => WG V z o) hE (dlX5_readInto_1.at 4 rfl) hm hQ rfl (by decide)
          · refine q_iconst hE (dlX5_readInto_1.at 3 rfl) ic_0 ?_
            exact q_bret (X := fun z => WG V z o) hE (dlX5_readInto_1.at 4 rfl) hm hQ rfl (by decide)
        · refine q_iconst hE (dlX5_readInto_1.at 3 rfl) ic_0 ?_
          exact q_bret (X := fun z => WG V z o) hE (dlX5_readInto_1.at 4 rfl) hm hQ rfl (by decide)
set_option maxRecDepth 10000 in
theorem ok_X5_readInto {V : Ev} {l : Launch} {o : PH} {F : Nat}  (hfx : V.2.2.2.2 = false) {a1 : Nat} {h : PH} : ∀ (v : Int32) (h' : PH), f_X5_readInto F a1 h = some (v, h') → Ctr l V yX5_readInto cX5_readInto 3 (some .boolean) 58 [rf V 31, rf V a1] 143 (WG V h o) 143 (WG V (h') o) (some (.int v)) 0 0 := by
  intro v h' hm
  refine Ctr.intro RX5 (by decide +kernel) rfl rfl rfl ?_
  intro E hE hQ _
  unfold f_X5_readInto at hm
  obtain ⟨hp1, hm⟩ := g_if hm
  refine q_aload_n hE 0 (dlX5_readInto_0.at 0 rfl) rfl rfl ?_
  refine q_aload_n hE 1 (dlX5_readInto_0.at 1 rfl) rfl rfl ?_
  rw [← rq_some V a1]
  refine q_put hE hfx (dlX5_readInto_0.at 2 rfl) kc5 wf_X5_27 g31 rfl rfl (fits_rq _ _ _) rfl rfl rfl u31_5 ?_
  refine q_lth (X := fun z => WG V z o) hm (fun h1 hm => ?_)
  refine q_aload_n hE 0 (dlX5_readInto_0.at 3 rfl) rfl rfl ?_
  refine q_get hE (dlX5_readInto_0.at 4 rfl) kc5 wf_X5_27 g31 rfl rfl rfl ?_
  refine q_deref hE hm (fun z2 hz2 hm => ?_)
  refine q_callVN_v (X := fun z => WG V z o) hE (As := []) (dlX5_readInto_0.at 5 rfl) mw_X2_clear wm_X5_31 rfl rfl rfl rfl (Nat.zero_le _) (Nat.zero_le _) rfl kc2 (g_Bench hz2) (b_Bench hz2) (ok_X2_clear hfx) hm (fun v3 h3 hm => ?_)
  refine q_aload_n hE 0 (dlX5_readInto_0.at 6 rfl) rfl rfl ?_
  refine q_iconst hE (dlX5_readInto_0.at 7 rfl) ic_0 ?_
  refine q_put hE hfx (dlX5_readInto_0.at 8 rfl) kc5 wf_X5_23 g31 rfl (by decide) (by decide) rfl rfl rfl u31_4 ?_
  refine q_lth (X := fun z => WG V z o) hm (fun h4 hm => ?_)
  refine q_aload_n hE 0 (dlX5_readInto_0.at 9 rfl) rfl rfl ?_
  refine q_iconst hE (dlX5_readInto_0.at 10 rfl) ic_m1 ?_
  refine q_put hE hfx (dlX5_readInto_0.at 11 rfl) kc5 wf_X5_17 g31 rfl rfl rfl rfl rfl rfl u31_2 ?_
  refine q_lth (X := fun z => WG V z o) hm (fun h5 hm => ?_)
  refine q_aload_n hE 0 (dlX5_readInto_0.at 12 rfl) rfl rfl ?_
  refine q_callV_v (X := fun z => WG V z o) hE (As := []) (dlX5_readInto_0.at 13 rfl) mw_X5_step wm_X5_36 rfl rfl rfl rfl (Nat.zero_le _) (Nat.zero_le _) rfl kc5 g31 rfl (ok_X5_step hfx) hm (fun v6 h6 hm => ?_)
  refine q_aload_n hE 0 (dlX5_readInto_0.at 14 rfl) rfl rfl ?_
  refine q_callV_v (X := fun z => WG V z o) hE (As := []) (dlX5_readInto_0.at 15 rfl) mw_X5_clause wm_X5_39 rfl rfl rfl rfl (Nat.zero_le _) (Nat.zero_le _) rfl kc5 g31 rfl (ok_X5_clause hfx) hm (fun v7 h7 hm => ?_)
  refine q_iconst hE (dlX5_readInto_0.at 16 rfl) ic_1 ?_
  refine q_istore_n hE [(0, _), (1, _), (2, _)] (dlX5_readInto_0.at 17 rfl) rfl rfl rfl ?_
  refine q_sub hE [0, 2] rfl ?_
  exact okL_X5_readInto_32 hfx hE hQ  F _ _  hm
set_option maxRecDepth 10000 in
theorem okL_X7_hold_7 {V : Ev} {l : Launch} {o : PH} {F : Nat}  (hfx : V.2.2.2.2 = false) {E : Cx} (hE : CX E V l cX7_hold RX7 3 5 0 0 none) {r : Unit × PH} (hQ : RQ E V 143 (WG V r.2 o) (none) 0 0) : ∀ (n : Nat) (x2 : Int32) (h : PH), fL_X7_hold_7 F n x2 h = some r → PW E V 0 0 143 (WG V h o) 7 [(0, rf V 1), (2, .int x2)] [] := by
  intro n
  induction n with
  | zero => intro x2 h hm; cases hm
  | succ n ih =>
    intro x2 h hm
    rw [fL_X7_hold_7] at hm
    refine q_iload_n hE 1 (dlX7_hold_0.at 5 rfl) rfl rfl ?_
    refine q_aload_n hE 0 (dlX7_hold_0.at 6 rfl) rfl rfl ?_
    refine q_get hE (dlX7_hold_0.at 7 rfl) kc7 wf_X7_11 g1 rfl rfl rfl ?_
    refine q_icmp_ge hE (tgt := 26) (dlX7_hold_0.at 8 rfl) (by decide) hm (fun hc2 hm => ?_) (fun hc2 hm => ?_)
    · exact q_vret (X := fun z => WG V z o) hE (dlX7_hold_0.at 14 rfl) hm hQ rfl
    · refine q_aload_n hE 0 (dlX7_hold_0.at 9 rfl) rfl rfl ?_
      refine q_iload_n hE 1 (dlX7_hold_0.at 10 rfl) rfl rfl ?_
      refine q_callV_v (X := fun z => WG V z o) hE (As := [_]) (dlX7_hold_0.at 11 rfl) mw_X7_learn wm_X7_80 rfl rfl rfl rfl (Nat.zero_le _) (Nat.zero_le _) rfl kc7 g1 rfl (ok_X7_learn hfx) hm (fun v3 h3 hm => ?_)
      refine q_iinc hE [(0, _), (2, _)] 1 (dlX7_hold_0.at 12 rfl) rfl ic_1 rfl rfl ?_
      refine q_goto hE (tgt := 7) (dlX7_hold_0.at 13 rfl) (by decide) ?_
      refine q_sub hE [0, 1] rfl ?_
      exact ih _ _  hm
set_option maxRecDepth 10000 in
theorem ok_X7_hold {V : Ev} {l : Launch} {o : PH} {F : Nat}  (hfx : V.2.2.2.2 = false) {a1 : Nat} {h : PH} : ∀ (v : Unit) (h' : PH), f_X7_hold F a1 h = some (v, h') → Ctr l V yX7_hold cX7_hold 3 none 5 [rf V 1, rf V a1] 143 (WG V h o) 143 (WG V (h') o) (none) 0 0 := by
  intro v h' hm
  refine Ctr.intro RX7 (by decide +kernel) rfl rfl rfl ?_
  intro E hE hQ _
  unfold f_X7_hold at hm
  obtain ⟨hp1, hm⟩ := g_if hm
  refine q_aload_n hE 0 (dlX7_hold_0.at 0 rfl) rfl rfl ?_
  refine q_aload_n hE 1 (dlX7_hold_0.at 1 rfl) rfl rfl ?_
  rw [← rq_some V a1]
  refine q_put hE hfx (dlX7_hold_0.at 2 rfl) kc7 wf_X7_53 g1 rfl rfl (fits_rq _ _ _) rfl rfl rfl u1_10 ?_
  refine q_lth (X := fun z => WG V z o) hm (fun h1 hm => ?_)
  refine q_iconst hE (dlX7_hold_0.at 3 rfl) ic_0 ?_
  refine q_istore_n hE [(0, _), (1, _), (2, _)] (dlX7_hold_0.at 4 rfl) rfl rfl rfl ?_
  refine q_sub hE [0, 2] rfl ?_
  exact okL_X7_hold_7 hfx hE hQ  F _ _  hm
set_option maxRecDepth 10000 in
theorem ok_X9_bench {V : Ev} {l : Launch} {o : PH} {F : Nat}  (hfx : V.2.2.2.2 = false)  {h : PH} : ∀ (v : Int32) (h' : PH), f_X9_bench F  h = some (v, h') → Ctr l V yX9_bench cX9_bench 3 (some .int) 59 [rf V 0] 143 (WG V h o) 143 (WG V (h') o) (some (.int v)) 0 0 := by
  intro v h' hm
  refine Ctr.intro RX9 (by decide +kernel) rfl rfl rfl ?_
  intro E hE hQ _
  unfold f_X9_bench at hm
  refine q_aload_n hE 0 (dlX9_bench_0.at 0 rfl) rfl rfl ?_
  refine q_get hE (dlX9_bench_0.at 1 rfl) kc9 wf_X9_38 g0 rfl rfl rfl ?_
  refine q_bipush hE (dlX9_bench_0.at 2 rfl) bc_6 ?_
  refine q_icmp_lt hE (tgt := 12) (dlX9_bench_0.at 3 rfl) (by decide) hm (fun hc1 hm => ?_) (fun hc1 hm => ?_)
  · refine q_aload_n hE 0 (dlX9_bench_0.at 6 rfl) rfl rfl ?_
    refine q_get hE (dlX9_bench_0.at 7 rfl) kc9 wf_X9_34 g0 rfl rfl rfl ?_
    refine q_aload_n hE 0 (dlX9_bench_0.at 8 rfl) rfl rfl ?_
    refine q_get hE (dlX9_bench_0.at 9 rfl) kc9 wf_X9_38 g0 rfl rfl rfl ?_
    refine q_aald hE 4 (dlX9_bench_0.at 10 rfl) g33 rfl (fun _ => rfl) rfl hm (fun hi2 hm => ?_)
    refine q_astore_n hE [(0, _), (1, _)] (dlX9_bench_0.at 11 rfl) rfl rfl rfl ?_
    refine q_aload_n hE 0 (dlX9_bench_0.at 12 rfl) rfl rfl ?_
    refine q_get hE (dlX9_bench_0.at 13 rfl) kc9 wf_X9_28 g0 rfl rfl rfl ?_
    refine q_aload_n hE 1 (dlX9_bench_0.at 14 rfl) rfl rfl ?_
    refine q_callVN_i (X := fun z => WG V z o) hE (As := [_]) (dlX9_bench_0.at 15 rfl) mw_X5_readInto wm_X9_139 rfl rfl rfl rfl (Nat.zero_le _) (Nat.zero_le _) rfl kc5 g31 rfl (ok_X5_readInto hfx) hm (fun v3 h3 hm => ?_)
    refine q_istore_n hE [(0, _), (1, _), (2, _)] (dlX9_bench_0.at 16 rfl) rfl rfl rfl ?_
    refine q_aload_n hE 0 (dlX9_bench_0.at 17 rfl) rfl rfl ?_
    refine q_get hE (dlX9_bench_0.at 18 rfl) kc9 wf_X9_28 g0 rfl rfl rfl ?_
    refine q_iconst hE (dlX9_bench_0.at 19 rfl) ic_0 ?_
    refine q_putN hE hfx (dlX9_bench_0.at 20 rfl) kc5 wf_X9_136 g31 rfl rfl rfl rfl rfl rfl u31_1 ?_
    refine q_lth (X := fun z => WG V z o) hm (fun h4 hm => ?_)
    refine q_iload_n hE 2 (dlX9_bench_0.at 21 rfl) rfl rfl ?_
    refine q_if_ne hE (tgt := 54) (dlX9_bench_0.at 22 rfl) (by decide) hm (fun hc5 hm => ?_) (fun hc5 hm => ?_)
    · refine q_bipush hE (dlX9_bench_0.at 23 rfl) bc_m10 ?_
      refine q_aload_n hE 0 (dlX9_bench_0.at 24 rfl) rfl rfl ?_
      refine q_get hE (dlX9_bench_0.at 25 rfl) kc9 wf_X9_28 g0 rfl rfl rfl ?_
      refine q_getN hE (dlX9_bench_0.at 26 rfl) kc5 wf_X9_143 g31 rfl rfl rfl ?_
      refine q_isub hE (dlX9_bench_0.at 27 rfl) ?_
      exact q_iret (X := fun z => WG V z o) hE (dlX9_bench_0.at 28 rfl) hm hQ rfl
    · refine q_aload_n hE 0 (dlX9_bench_0.at 29 rfl) rfl rfl ?_
      refine q_get hE (dlX9_bench_0.at 30 rfl) kc9 wf_X9_12 g0 rfl rfl rfl ?_
      refine q_aload_n hE 1 (dlX9_bench_0.at 31 rfl) rfl rfl ?_
      refine q_callVN_v (X := fun z => WG V z o) hE (As := [_]) (dlX9_bench_0.at 32 rfl) mw_X7_hold wm_X9_146 rfl rfl rfl rfl (Nat.zero_le _) (Nat.zero_le _) rfl kc7 g1 rfl (ok_X7_hold hfx) hm (fun v6 h6 hm => ?_)
      refine q_aload_n hE 0 (dlX9_bench_0.at 33 rfl) rfl rfl ?_
      refine q_dup hE (dlX9_bench_0.at 34 rfl) rfl ?_
      refine q_get hE (dlX9_bench_0.at 35 rfl) kc9 wf_X9_38 g0 rfl rfl rfl ?_
      refine q_iconst hE (dlX9_bench_0.at 36 rfl) ic_1 ?_
      refine q_iadd hE (dlX9_bench_0.at 37 rfl) ?_
      refine q_put hE hfx (dlX9_bench_0.at 38 rfl) kc9 wf_X9_38 g0 rfl rfl rfl rfl rfl rfl u0_5 ?_
      refine q_lth (X := fun z => WG V z o) hm (fun h7 hm => ?_)
      refine q_aload_n hE 0 (dlX9_bench_0.at 39 rfl) rfl rfl ?_
      refine q_get hE (dlX9_bench_1.at 0 rfl) kc9 wf_X9_38 g0 rfl rfl rfl ?_
      refine q_iconst hE (dlX9_bench_1.at 1 rfl) ic_1 ?_
      refine q_isub hE (dlX9_bench_1.at 2 rfl) ?_
      exact q_iret (X := fun z => WG V z o) hE (dlX9_bench_1.at 3 rfl) hm hQ rfl
  · refine q_bipush hE (dlX9_bench_0.at 4 rfl) bc_m4 ?_
    exact q_iret (X := fun z => WG V z o) hE (dlX9_bench_0.at 5 rfl) hm hQ rfl
set_option maxRecDepth 10000 in
theorem okL_X7_howManyUp_4 {V : Ev} {l : Launch} {o : PH} {F : Nat}  (hfx : V.2.2.2.2 = false) {E : Cx} (hE : CX E V l cX7_howManyUp RX7 4 2 0 0 (some .int)) {r : Int32 × PH} (hQ : RQ E V 143 (WG V r.2 o) (some (.int r.1)) 0 0) : ∀ (n : Nat) (x1 : Nat) (x2 : Int32) (x3 : Int32) (h : PH), isCourse x1 = true → fL_X7_howManyUp_4 F n x1 x2 x3 h = some r → PW E V 0 0 143 (WG V h o) 4 [(0, rf V 1), (1, rf V x1), (2, .int x2), (3, .int x3)] [] := by
  intro n
  induction n with
  | zero => intro x1 x2 x3 h hx1 hm; cases hm
  | succ n ih =>
    intro x1 x2 x3 h hx1 hm
    rw [fL_X7_howManyUp_4] at hm
    refine q_iload_n hE 3 (dlX7_howManyUp_0.at 4 rfl) rfl rfl ?_
    refine q_aload_n hE 0 (dlX7_howManyUp_0.at 5 rfl) rfl rfl ?_
    refine q_get hE (dlX7_howManyUp_0.at 6 rfl) kc7 wf_X7_11 g1 rfl rfl rfl ?_
    refine q_icmp_ge hE (tgt := 29) (dlX7_howManyUp_0.at 7 rfl) (by decide) hm (fun hc1 hm => ?_) (fun hc1 hm => ?_)
    · refine q_iload_n hE 2 (dlX7_howManyUp_0.at 15 rfl) rfl rfl ?_
      exact q_iret (X := fun z => WG V z o) hE (dlX7_howManyUp_0.at 16 rfl) hm hQ rfl
    · refine q_aload_n hE 1 (dlX7_howManyUp_0.at 8 rfl) rfl rfl ?_
      refine q_iload_n hE 3 (dlX7_howManyUp_0.at 9 rfl) rfl rfl ?_
      refine q_callVN_i (X := fun z => WG V z o) hE (As := [_]) (dlX7_howManyUp_0.at 10 rfl) mw_X3_isUp wm_X7_100 rfl rfl rfl rfl (Nat.zero_le _) (Nat.zero_le _) rfl kc3 (g_Course hx1) (b_Course hx1) (ok_X3_isUp hfx) hm (fun v2 h2 hm => ?_)
      refine q_if_eq hE (tgt := 23) (dlX7_howManyUp_0.at 11 rfl) (by decide) hm (fun hc3 hm => ?_) (fun hc3 hm => ?_)
      · refine q_iinc hE [(0, _), (1, _), (2, _), (3, _)] 3 (dlX7_howManyUp_0.at 13 rfl) rfl ic_1 rfl rfl ?_
        refine q_goto hE (tgt := 4) (dlX7_howManyUp_0.at 14 rfl) (by decide) ?_
        refine q_sub hE [0, 1, 2, 3] rfl ?_
        exact ih _ _ _ _ hx1 hm
      · refine q_iinc hE [(0, _), (1, _), (2, _), (3, _)] 2 (dlX7_howManyUp_0.at 12 rfl) rfl ic_1 rfl rfl ?_
        refine q_iinc hE [(0, _), (1, _), (2, _), (3, _)] 3 (dlX7_howManyUp_0.at 13 rfl) rfl ic_1 rfl rfl ?_
        refine q_goto hE (tgt := 4) (dlX7_howManyUp_0.at 14 rfl) (by decide) ?_
        refine q_sub hE [0, 1, 2, 3] rfl ?_
        exact ih _ _ _ _ hx1 hm
set_option maxRecDepth 10000 in
theorem ok_X7_howManyUp {V : Ev} {l : Launch} {o : PH} {F : Nat}  (hfx : V.2.2.2.2 = false) {a1 : Nat} {h : PH} : ∀ (v : Int32) (h' : PH), f_X7_howManyUp F a1 h = some (v, h') → Ctr l V yX7_howManyUp cX7_howManyUp 4 (some .int) 2 [rf V 1, rf V a1] 143 (WG V h o) 143 (WG V (h') o) (some (.int v)) 0 0 := by
  intro v h' hm
  refine Ctr.intro RX7 (by decide +kernel) rfl rfl rfl ?_
  intro E hE hQ _
  unfold f_X7_howManyUp at hm
  obtain ⟨hp1, hm⟩ := g_if hm
  refine q_iconst hE (dlX7_howManyUp_0.at 0 rfl) ic_0 ?_
  refine q_istore_n hE [(0, _), (1, _), (2, _)] (dlX7_howManyUp_0.at 1 rfl) rfl rfl rfl ?_
  refine q_iconst hE (dlX7_howManyUp_0.at 2 rfl) ic_0 ?_
  refine q_istore_n hE [(0, _), (1, _), (2, _), (3, _)] (dlX7_howManyUp_0.at 3 rfl) rfl rfl rfl ?_
  refine q_sub hE [0, 1, 2, 3] rfl ?_
  exact okL_X7_howManyUp_4 hfx hE hQ  F _ _ _ _ hp1 hm
set_option maxRecDepth 10000 in
theorem okL_X7_leftOfAll_4 {V : Ev} {l : Launch} {o : PH} {F : Nat}  (hfx : V.2.2.2.2 = false) {E : Cx} (hE : CX E V l cX7_leftOfAll RX7 4 3 0 0 (some .int)) {r : Int32 × PH} (hQ : RQ E V 143 (WG V r.2 o) (some (.int r.1)) 0 0) : ∀ (n : Nat) (x1 : Nat) (x2 : Int32) (x3 : Int32) (h : PH), isCourse x1 = true → fL_X7_leftOfAll_4 F n x1 x2 x3 h = some r → PW E V 0 0 143 (WG V h o) 4 [(0, rf V 1), (1, rf V x1), (2, .int x2), (3, .int x3)] [] := by
  intro n
  induction n with
  | zero => intro x1 x2 x3 h hx1 hm; cases hm
  | succ n ih =>
    intro x1 x2 x3 h hx1 hm
    rw [fL_X7_leftOfAll_4] at hm
    refine q_iload_n hE 3 (dlX7_leftOfAll_0.at 4 rfl) rfl rfl ?_
    refine q_aload_n hE 0 (dlX7_leftOfAll_0.at 5 rfl) rfl rfl ?_
    refine q_get hE (dlX7_leftOfAll_0.at 6 rfl) kc7 wf_X7_11 g1 rfl rfl rfl ?_
    refine q_icmp_ge hE (tgt := 27) (dlX7_leftOfAll_0.at 7 rfl) (by decide) hm (fun hc1 hm => ?_) (fun hc1 hm => ?_)
    · refine q_iload_n hE 2 (dlX7_leftOfAll_0.at 17 rfl) rfl rfl ?_
      exact q_iret (X := fun z => WG V z o) hE (dlX7_leftOfAll_0.at 18 rfl) hm hQ rfl
    · refine q_iload_n hE 2 (dlX7_leftOfAll_0.at 8 rfl) rfl rfl ?_
      refine q_aload_n hE 0 (dlX7_leftOfAll_0.at 9 rfl) rfl rfl ?_
      refine q_aload_n hE 1 (dlX7_leftOfAll_0.at 10 rfl) rfl rfl ?_
      refine q_iload_n hE 3 (dlX7_leftOfAll_0.at 11 rfl) rfl rfl ?_
      refine q_callV_i (X := fun z => WG V z o) hE (As := [_, _]) (dlX7_leftOfAll_0.at 12 rfl) mw_X7_leftOf wm_X7_96 rfl rfl rfl rfl (Nat.zero_le _) (Nat.zero_le _) rfl kc7 g1 rfl (ok_X7_leftOf hfx) hm (fun v2 h2 hm => ?_)
      refine q_iadd hE (dlX7_leftOfAll_0.at 13 rfl) ?_
      refine q_istore_n hE [(0, _), (1, _), (2, _), (3, _)] (dlX7_leftOfAll_0.at 14 rfl) rfl rfl rfl ?_
      refine q_iinc hE [(0, _), (1, _), (2, _), (3, _)] 3 (dlX7_leftOfAll_0.at 15 rfl) rfl ic_1 rfl rfl ?_
      refine q_goto hE (tgt := 4) (dlX7_leftOfAll_0.at 16 rfl) (by decide) ?_
      refine q_sub hE [0, 1, 2, 3] rfl ?_
      exact ih _ _ _ _ hx1 hm
set_option maxRecDepth 10000 in
theorem ok_X7_leftOfAll {V : Ev} {l : Launch} {o : PH} {F : Nat}  (hfx : V.2.2.2.2 = false) {a1 : Nat} {h : PH} : ∀ (v : Int32) (h' : PH), f_X7_leftOfAll F a1 h = some (v, h') → Ctr l V yX7_leftOfAll cX7_leftOfAll 4 (some .int) 3 [rf V 1, rf V a1] 143 (WG V h o) 143 (WG V (h') o) (some (.int v)) 0 0 := by
  intro v h' hm
  refine Ctr.intro RX7 (by decide +kernel) rfl rfl rfl ?_
  intro E hE hQ _
  unfold f_X7_leftOfAll at hm
  obtain ⟨hp1, hm⟩ := g_if hm
  refine q_iconst hE (dlX7_leftOfAll_0.at 0 rfl) ic_0 ?_
  refine q_istore_n hE [(0, _), (1, _), (2, _)] (dlX7_leftOfAll_0.at 1 rfl) rfl rfl rfl ?_
  refine q_iconst hE (dlX7_leftOfAll_0.at 2 rfl) ic_0 ?_
  refine q_istore_n hE [(0, _), (1, _), (2, _), (3, _)] (dlX7_leftOfAll_0.at 3 rfl) rfl rfl rfl ?_
  refine q_sub hE [0, 1, 2, 3] rfl ?_
  exact okL_X7_leftOfAll_4 hfx hE hQ  F _ _ _ _ hp1 hm
set_option maxRecDepth 10000 in
theorem ok_X9_told {V : Ev} {l : Launch} {o : PH} {F : Nat}  (hfx : V.2.2.2.2 = false) {a1 : Int32} {h : PH} : ∀ (v : Int32) (h' : PH), f_X9_told F a1 h = some (v, h') → Ctr l V yX9_told cX9_told 2 (some .int) 4 [rf V 0, .int a1] 143 (WG V h o) 143 (WG V (h') o) (some (.int v)) 0 0 := by
  intro v h' hm
  refine Ctr.intro RX9 (by decide +kernel) rfl rfl rfl ?_
  intro E hE hQ _
  unfold f_X9_told at hm
  refine q_iload_n hE 1 (dlX9_told_0.at 0 rfl) rfl rfl ?_
  refine q_tcase hE (dlX9_told_0.at 1 rfl) (0 : Int32) 32 (by decide) hm (fun _ hm => ?_) (fun hn1_0 hm => ?_)
  · refine q_aload_n hE 0 (dlX9_told_0.at 2 rfl) rfl rfl ?_
    refine q_get hE (dlX9_told_0.at 3 rfl) kc9 wf_X9_12 g0 rfl rfl rfl ?_
    refine q_getN hE (dlX9_told_0.at 4 rfl) kc7 wf_X9_77 g1 rfl rfl rfl ?_
    refine q_getN hE (dlX9_told_0.at 5 rfl) kc3 wf_X9_81 g6 rfl rfl rfl ?_
    exact q_iret (X := fun z => WG V z o) hE (dlX9_told_0.at 6 rfl) hm hQ rfl
  · refine q_tcase hE (dlX9_told_0.at 1 rfl) (1 : Int32) 43 (by decide) hm (fun _ hm => ?_) (fun hn1_1 hm => ?_)
    · refine q_aload_n hE 0 (dlX9_told_0.at 7 rfl) rfl rfl ?_
      refine q_get hE (dlX9_told_0.at 8 rfl) kc9 wf_X9_12 g0 rfl rfl rfl ?_
      refine q_callVN_i (X := fun z => WG V z o) hE (As := []) (dlX9_told_0.at 9 rfl) mw_X7_pace wm_X9_150 rfl rfl rfl rfl (Nat.zero_le _) (Nat.zero_le _) rfl kc7 g1 rfl (ok_X7_pace hfx) hm (fun v2 h2 hm => ?_)
      exact q_iret (X := fun z => WG V z o) hE (dlX9_told_0.at 10 rfl) hm hQ rfl
    · refine q_tcase hE (dlX9_told_0.at 1 rfl) (2 : Int32) 51 (by decide) hm (fun _ hm => ?_) (fun hn1_2 hm => ?_)
      · refine q_aload_n hE 0 (dlX9_told_0.at 11 rfl) rfl rfl ?_
        refine q_get hE (dlX9_told_0.at 12 rfl) kc9 wf_X9_12 g0 rfl rfl rfl ?_
        refine q_aload_n hE 0 (dlX9_told_0.at 13 rfl) rfl rfl ?_
        refine q_get hE (dlX9_told_0.at 14 rfl) kc9 wf_X9_12 g0 rfl rfl rfl ?_
        refine q_getN hE (dlX9_told_0.at 15 rfl) kc7 wf_X9_77 g1 rfl rfl rfl ?_
        refine q_callVN_i (X := fun z => WG V z o) hE (As := [_]) (dlX9_told_0.at 16 rfl) mw_X7_howManyUp wm_X9_154 rfl rfl rfl rfl (Nat.zero_le _) (Nat.zero_le _) rfl kc7 g1 rfl (ok_X7_howManyUp hfx) hm (fun v3 h3 hm => ?_)
        exact q_iret (X := fun z => WG V z o) hE (dlX9_told_0.at 17 rfl) hm hQ rfl
      · refine q_tcase hE (dlX9_told_0.at 1 rfl) (3 : Int32) 66 (by decide) hm (fun _ hm => ?_) (fun hn1_3 hm => ?_)
        · refine q_aload_n hE 0 (dlX9_told_0.at 18 rfl) rfl rfl ?_
          refine q_get hE (dlX9_told_0.at 19 rfl) kc9 wf_X9_12 g0 rfl rfl rfl ?_
          refine q_aload_n hE 0 (dlX9_told_0.at 20 rfl) rfl rfl ?_
          refine q_get hE (dlX9_told_0.at 21 rfl) kc9 wf_X9_12 g0 rfl rfl rfl ?_
          refine q_getN hE (dlX9_told_0.at 22 rfl) kc7 wf_X9_77 g1 rfl rfl rfl ?_
          refine q_callVN_i (X := fun z => WG V z o) hE (As := [_]) (dlX9_told_0.at 23 rfl) mw_X7_leftOfAll wm_X9_158 rfl rfl rfl rfl (Nat.zero_le _) (Nat.zero_le _) rfl kc7 g1 rfl (ok_X7_leftOfAll hfx) hm (fun v4 h4 hm => ?_)
          exact q_iret (X := fun z => WG V z o) hE (dlX9_told_0.at 24 rfl) hm hQ rfl
        · refine q_tdef hE (tgt := 81) (dlX9_told_0.at 1 rfl) (by have := lv_neT (a := 0) hn1_0 (by decide); have := lv_neT (a := 1) hn1_1 (by decide); have := lv_neT (a := 2) hn1_2 (by decide); have := lv_neT (a := 3) hn1_3 (by decide); omega) (by decide) ?_
          refine q_iconst hE (dlX9_told_0.at 25 rfl) ic_m1 ?_
          exact q_iret (X := fun z => WG V z o) hE (dlX9_told_0.at 26 rfl) hm hQ rfl
set_option maxRecDepth 10000 in
theorem ok_X9_tell {V : Ev} {l : Launch} {o : PH} {F : Nat}  (hfx : V.2.2.2.2 = false) {a1 : Int32} {h : PH} : ∀ (v : Int32) (h' : PH), f_X9_tell F a1 h = some (v, h') → Ctr l V yX9_tell cX9_tell 2 (some .int) 4 [rf V 0, .int a1] 143 (WG V h o) 143 (WG V (h') o) (some (.int v)) 0 0 := by
  intro v h' hm
  refine Ctr.intro RX9 (by decide +kernel) rfl rfl rfl ?_
  intro E hE hQ _
  unfold f_X9_tell at hm
  refine q_aload_n hE 0 (dlX9_tell_0.at 0 rfl) rfl rfl ?_
  refine q_iload_n hE 1 (dlX9_tell_0.at 1 rfl) rfl rfl ?_
  refine q_callV_i (X := fun z => WG V z o) hE (As := [_]) (dlX9_tell_0.at 2 rfl) mw_X9_isClock wm_X9_93 rfl rfl rfl rfl (Nat.zero_le _) (Nat.zero_le _) rfl kc9 g0 rfl (ok_X9_isClock hfx) hm (fun v1 h1 hm => ?_)
  refine q_if_ne hE (tgt := 10) (dlX9_tell_0.at 3 rfl) (by decide) hm (fun hc2 hm => ?_) (fun hc2 hm => ?_)
  · refine q_iconst hE (dlX9_tell_0.at 4 rfl) ic_m1 ?_
    exact q_iret (X := fun z => WG V z o) hE (dlX9_tell_0.at 5 rfl) hm hQ rfl
  · refine q_aload_n hE 0 (dlX9_tell_0.at 6 rfl) rfl rfl ?_
    refine q_get hE (dlX9_tell_0.at 7 rfl) kc9 wf_X9_12 g0 rfl rfl rfl ?_
    refine q_getN hE (dlX9_tell_0.at 8 rfl) kc7 wf_X9_77 g1 rfl rfl rfl ?_
    refine q_getN hE (dlX9_tell_0.at 9 rfl) kc3 wf_X9_81 g6 rfl rfl rfl ?_
    refine q_sipush hE (dlX9_tell_0.at 10 rfl) sc_9999 ?_
    refine q_icmp_lt hE (tgt := 29) (dlX9_tell_0.at 11 rfl) (by decide) hm (fun hc3 hm => ?_) (fun hc3 hm => ?_)
    · refine q_aload_n hE 0 (dlX9_tell_0.at 14 rfl) rfl rfl ?_
      refine q_get hE (dlX9_tell_0.at 15 rfl) kc9 wf_X9_12 g0 rfl rfl rfl ?_
      refine q_aload_n hE 0 (dlX9_tell_0.at 16 rfl) rfl rfl ?_
      refine q_get hE (dlX9_tell_0.at 17 rfl) kc9 wf_X9_12 g0 rfl rfl rfl ?_
      refine q_getN hE (dlX9_tell_0.at 18 rfl) kc7 wf_X9_77 g1 rfl rfl rfl ?_
      refine q_iload_n hE 1 (dlX9_tell_0.at 19 rfl) rfl rfl ?_
      refine q_callVN_i (X := fun z => WG V z o) hE (As := [_, _]) (dlX9_tell_0.at 20 rfl) mw_X7_evening wm_X9_161 rfl rfl rfl rfl (Nat.zero_le _) (Nat.zero_le _) rfl kc7 g1 rfl (ok_X7_evening hfx) hm (fun v4 h4 hm => ?_)
      exact q_iret (X := fun z => WG V z o) hE (dlX9_tell_0.at 21 rfl) hm hQ rfl
    · refine q_bipush hE (dlX9_tell_0.at 12 rfl) bc_m3 ?_
      exact q_iret (X := fun z => WG V z o) hE (dlX9_tell_0.at 13 rfl) hm hQ rfl
set_option maxRecDepth 10000 in
theorem okL_X9_pass_36 {V : Ev} {l : Launch} {o : PH} {F : Nat}  (hfx : V.2.2.2.2 = false) {E : Cx} (hE : CX E V l cX9_pass RX9 3 3 0 0 (some .int)) {r : Int32 × PH} (hQ : RQ E V 143 (WG V r.2 o) (some (.int r.1)) 0 0) : ∀ (n : Nat) (x1 : Int32) (x2 : Int32) (h : PH), fL_X9_pass_36 F n x1 x2 h = some r → PW E V 0 0 143 (WG V h o) 36 [(0, rf V 0), (1, .int x1), (2, .int x2)] [] := by
  intro n
  induction n with
  | zero => intro x1 x2 h hm; cases hm
  | succ n ih =>
    intro x1 x2 h hm
    rw [fL_X9_pass_36] at hm
    refine q_iload_n hE 2 (dlX9_pass_0.at 19 rfl) rfl rfl ?_
    refine q_iload_n hE 1 (dlX9_pass_0.at 20 rfl) rfl rfl ?_
    refine q_icmp_ge hE (tgt := 61) (dlX9_pass_0.at 21 rfl) (by decide) hm (fun hc4 hm => ?_) (fun hc4 hm => ?_)
    · refine q_aload_n hE 0 (dlX9_pass_0.at 30 rfl) rfl rfl ?_
      refine q_get hE (dlX9_pass_0.at 31 rfl) kc9 wf_X9_12 g0 rfl rfl rfl ?_
      refine q_getN hE (dlX9_pass_0.at 32 rfl) kc7 wf_X9_77 g1 rfl rfl rfl ?_
      refine q_getN hE (dlX9_pass_0.at 33 rfl) kc3 wf_X9_81 g6 rfl rfl rfl ?_
      exact q_iret (X := fun z => WG V z o) hE (dlX9_pass_0.at 34 rfl) hm hQ rfl
    · refine q_aload_n hE 0 (dlX9_pass_0.at 22 rfl) rfl rfl ?_
      refine q_get hE (dlX9_pass_0.at 23 rfl) kc9 wf_X9_12 g0 rfl rfl rfl ?_
      refine q_aload_n hE 0 (dlX9_pass_0.at 24 rfl) rfl rfl ?_
      refine q_get hE (dlX9_pass_0.at 25 rfl) kc9 wf_X9_12 g0 rfl rfl rfl ?_
      refine q_getN hE (dlX9_pass_0.at 26 rfl) kc7 wf_X9_77 g1 rfl rfl rfl ?_
      refine q_callVN_v (X := fun z => WG V z o) hE (As := [_]) (dlX9_pass_0.at 27 rfl) mw_X7_night wm_X9_164 rfl rfl rfl rfl (Nat.zero_le _) (Nat.zero_le _) rfl kc7 g1 rfl (ok_X7_night hfx) hm (fun v5 h5 hm => ?_)
      refine q_iinc hE [(0, _), (1, _), (2, _)] 2 (dlX9_pass_0.at 28 rfl) rfl ic_1 rfl rfl ?_
      refine q_goto hE (tgt := 36) (dlX9_pass_0.at 29 rfl) (by decide) ?_
      refine q_sub hE [0, 1, 2] rfl ?_
      exact ih _ _ _  hm
set_option maxRecDepth 10000 in
theorem ok_X9_pass {V : Ev} {l : Launch} {o : PH} {F : Nat}  (hfx : V.2.2.2.2 = false) {a1 : Int32} {h : PH} : ∀ (v : Int32) (h' : PH), f_X9_pass F a1 h = some (v, h') → Ctr l V yX9_pass cX9_pass 3 (some .int) 3 [rf V 0, .int a1] 143 (WG V h o) 143 (WG V (h') o) (some (.int v)) 0 0 := by
  intro v h' hm
  refine Ctr.intro RX9 (by decide +kernel) rfl rfl rfl ?_
  intro E hE hQ _
  unfold f_X9_pass at hm
  refine q_iload_n hE 1 (dlX9_pass_0.at 0 rfl) rfl rfl ?_
  refine q_iconst hE (dlX9_pass_0.at 1 rfl) ic_0 ?_
  refine q_bipush hE (dlX9_pass_0.at 2 rfl) bc_60 ?_
  refine q_callS_i (X := fun z => WG V z o) hE (As := [_, _, _]) (dlX9_pass_0.at 3 rfl) mw_X9_within wm_X9_73 rfl rfl rfl rfl (Nat.zero_le _) (Nat.zero_le _) rfl (ok_X9_within hfx) hm (fun v1 h1 hm => ?_)
  refine q_if_ne hE (tgt := 13) (dlX9_pass_0.at 4 rfl) (by decide) hm (fun hc2 hm => ?_) (fun hc2 hm => ?_)
  · refine q_bipush hE (dlX9_pass_0.at 5 rfl) bc_m2 ?_
    exact q_iret (X := fun z => WG V z o) hE (dlX9_pass_0.at 6 rfl) hm hQ rfl
  · refine q_aload_n hE 0 (dlX9_pass_0.at 7 rfl) rfl rfl ?_
    refine q_get hE (dlX9_pass_0.at 8 rfl) kc9 wf_X9_12 g0 rfl rfl rfl ?_
    refine q_getN hE (dlX9_pass_0.at 9 rfl) kc7 wf_X9_77 g1 rfl rfl rfl ?_
    refine q_getN hE (dlX9_pass_0.at 10 rfl) kc3 wf_X9_81 g6 rfl rfl rfl ?_
    refine q_iload_n hE 1 (dlX9_pass_0.at 11 rfl) rfl rfl ?_
    refine q_iadd hE (dlX9_pass_0.at 12 rfl) ?_
    refine q_sipush hE (dlX9_pass_0.at 13 rfl) sc_9999 ?_
    refine q_icmp_le hE (tgt := 34) (dlX9_pass_0.at 14 rfl) (by decide) hm (fun hc3 hm => ?_) (fun hc3 hm => ?_)
    · refine q_iconst hE (dlX9_pass_0.at 17 rfl) ic_0 ?_
      refine q_istore_n hE [(0, _), (1, _), (2, _)] (dlX9_pass_0.at 18 rfl) rfl rfl rfl ?_
      refine q_sub hE [0, 1, 2] rfl ?_
      exact okL_X9_pass_36 hfx hE hQ  F _ _ _  hm
    · refine q_bipush hE (dlX9_pass_0.at 15 rfl) bc_m3 ?_
      exact q_iret (X := fun z => WG V z o) hE (dlX9_pass_0.at 16 rfl) hm hQ rfl
set_option maxRecDepth 10000 in
theorem okL_X1_tellOften_2 {V : Ev} {l : Launch} {o : PH} {F : Nat}  (hfx : V.2.2.2.2 = false) {E : Cx} (hE : CX E V l cX1_tellOften RX1 4 4 0 0 none) {r : Unit × PH} (hQ : RQ E V 143 (WG V r.2 o) (none) 0 0) : ∀ (n : Nat) (x1 : Int32) (x2 : Int32) (x3 : Int32) (h : PH), fL_X1_tellOften_2 F n x1 x2 x3 h = some r → PW E V 0 0 143 (WG V h o) 2 [(0, rf V 34), (1, .int x1), (2, .int x2), (3, .int x3)] [] := by
  intro n
  induction n with
  | zero => intro x1 x2 x3 h hm; cases hm
  | succ n ih =>
    intro x1 x2 x3 h hm
    rw [fL_X1_tellOften_2] at hm
    refine q_iload_n hE 3 (dlX1_tellOften_0.at 2 rfl) rfl rfl ?_
    refine q_iload_n hE 2 (dlX1_tellOften_0.at 3 rfl) rfl rfl ?_
    refine q_icmp_ge hE (tgt := 26) (dlX1_tellOften_0.at 4 rfl) (by decide) hm (fun hc1 hm => ?_) (fun hc1 hm => ?_)
    · exact q_vret (X := fun z => WG V z o) hE (dlX1_tellOften_0.at 14 rfl) hm hQ rfl
    · refine q_aload_n hE 0 (dlX1_tellOften_0.at 5 rfl) rfl rfl ?_
      refine q_get hE (dlX1_tellOften_0.at 6 rfl) kc1 wf_X1_25 g34 rfl rfl rfl ?_
      refine q_aload_n hE 0 (dlX1_tellOften_0.at 7 rfl) rfl rfl ?_
      refine q_get hE (dlX1_tellOften_0.at 8 rfl) kc1 wf_X1_12 g34 rfl rfl rfl ?_
      refine q_iload_n hE 1 (dlX1_tellOften_0.at 9 rfl) rfl rfl ?_
      refine q_callVN_i (X := fun z => WG V z o) hE (As := [_, _]) (dlX1_tellOften_0.at 10 rfl) mw_X7_evening wm_X1_38 rfl rfl rfl rfl (Nat.zero_le _) (Nat.zero_le _) rfl kc7 g1 rfl (ok_X7_evening hfx) hm (fun v2 h2 hm => ?_)
      refine q_pop hE (dlX1_tellOften_0.at 11 rfl) rfl ?_
      refine q_iinc hE [(0, _), (1, _), (2, _), (3, _)] 3 (dlX1_tellOften_0.at 12 rfl) rfl ic_1 rfl rfl ?_
      refine q_goto hE (tgt := 2) (dlX1_tellOften_0.at 13 rfl) (by decide) ?_
      refine q_sub hE [0, 1, 2, 3] rfl ?_
      exact ih _ _ _ _  hm
set_option maxRecDepth 10000 in
theorem ok_X1_tellOften {V : Ev} {l : Launch} {o : PH} {F : Nat}  (hfx : V.2.2.2.2 = false) {a1 : Int32} {a2 : Int32} {h : PH} : ∀ (v : Unit) (h' : PH), f_X1_tellOften F a1 a2 h = some (v, h') → Ctr l V yX1_tellOften cX1_tellOften 4 none 4 [rf V 34, .int a1, .int a2] 143 (WG V h o) 143 (WG V (h') o) (none) 0 0 := by
  intro v h' hm
  refine Ctr.intro RX1 (by decide +kernel) rfl rfl rfl ?_
  intro E hE hQ _
  unfold f_X1_tellOften at hm
  refine q_iconst hE (dlX1_tellOften_0.at 0 rfl) ic_0 ?_
  refine q_istore_n hE [(0, _), (1, _), (2, _), (3, _)] (dlX1_tellOften_0.at 1 rfl) rfl rfl rfl ?_
  refine q_sub hE [0, 1, 2, 3] rfl ?_
  exact okL_X1_tellOften_2 hfx hE hQ  F _ _ _ _  hm
set_option maxRecDepth 10000 in
theorem ok_X1_behind {V : Ev} {l : Launch} {o : PH} {F : Nat}  (hfx : V.2.2.2.2 = false) {a1 : Int32} {a2 : Int32} {a3 : Int32} {h : PH} : ∀ (v : Int32) (h' : PH), f_X1_behind F a1 a2 a3 h = some (v, h') → Ctr l V yX1_behind cX1_behind 4 (some .int) 5 [rf V 34, .int a1, .int a2, .int a3] 143 (WG V h o) 143 (WG V (h') o) (some (.int v)) 0 0 := by
  intro v h' hm
  refine Ctr.intro RX1 (by decide +kernel) rfl rfl rfl ?_
  intro E hE hQ _
  unfold f_X1_behind at hm
  refine q_aload_n hE 0 (dlX1_behind_0.at 0 rfl) rfl rfl ?_
  refine q_callV_v (X := fun z => WG V z o) hE (As := []) (dlX1_behind_0.at 1 rfl) mw_X1_begin wm_X1_42 rfl rfl rfl rfl (Nat.zero_le _) (Nat.zero_le _) rfl kc1 g34 rfl (ok_X1_begin hfx) hm (fun v1 h1 hm => ?_)
  refine q_aload_n hE 0 (dlX1_behind_0.at 2 rfl) rfl rfl ?_
  refine q_iload_n hE 1 (dlX1_behind_0.at 3 rfl) rfl rfl ?_
  refine q_iload_n hE 2 (dlX1_behind_0.at 4 rfl) rfl rfl ?_
  refine q_callV_v (X := fun z => WG V z o) hE (As := [_, _]) (dlX1_behind_0.at 5 rfl) mw_X1_tellOften wm_X1_45 rfl rfl rfl rfl (Nat.zero_le _) (Nat.zero_le _) rfl kc1 g34 rfl (ok_X1_tellOften hfx) hm (fun v2 h2 hm => ?_)
  refine q_iload_n hE 3 (dlX1_behind_0.at 6 rfl) rfl rfl ?_
  refine q_lcase hE (dlX1_behind_0.at 7 rfl) (0 : Int32) 36 (by decide) hm (fun _ hm => ?_) (fun hn3_0 hm => ?_)
  · refine q_aload_n hE 0 (dlX1_behind_0.at 8 rfl) rfl rfl ?_
    refine q_get hE (dlX1_behind_0.at 9 rfl) kc1 wf_X1_12 g34 rfl rfl rfl ?_
    refine q_getN hE (dlX1_behind_0.at 10 rfl) kc3 wf_X1_49 g35 rfl rfl rfl ?_
    refine q_iload_n hE 1 (dlX1_behind_0.at 11 rfl) rfl rfl ?_
    refine q_iald hE (dlX1_behind_0.at 12 rfl) g36 rfl hm (fun hm => ?_)
    exact q_iret (X := fun z => WG V z o) hE (dlX1_behind_0.at 13 rfl) hm hQ rfl
  · refine q_lcase hE (dlX1_behind_0.at 7 rfl) (1 : Int32) 46 (by decide) hm (fun _ hm => ?_) (fun hn3_1 hm => ?_)
    · refine q_aload_n hE 0 (dlX1_behind_0.at 14 rfl) rfl rfl ?_
      refine q_get hE (dlX1_behind_0.at 15 rfl) kc1 wf_X1_12 g34 rfl rfl rfl ?_
      refine q_getN hE (dlX1_behind_0.at 16 rfl) kc3 wf_X1_53 g35 rfl rfl rfl ?_
      refine q_iload_n hE 1 (dlX1_behind_0.at 17 rfl) rfl rfl ?_
      refine q_zald hE (dlX1_behind_0.at 18 rfl) g37 rfl hm (fun hm => ?_)
      refine q_if_eq hE (tgt := 62) (dlX1_behind_0.at 19 rfl) (by decide) hm (fun hc4 hm => ?_) (fun hc4 hm => ?_)
      · refine q_iconst hE (dlX1_behind_0.at 22 rfl) ic_0 ?_
        exact q_iret (X := fun z => WG V z o) hE (dlX1_behind_0.at 23 rfl) hm hQ rfl
      · refine q_iconst hE (dlX1_behind_0.at 20 rfl) ic_1 ?_
        refine q_goto hE (tgt := 63) (dlX1_behind_0.at 21 rfl) (by decide) ?_
        exact q_iret (X := fun z => WG V z o) hE (dlX1_behind_0.at 23 rfl) hm hQ rfl
    · refine q_ldef hE (tgt := 64) (dlX1_behind_0.at 7 rfl) (by decide) (by rw [lv_osw hn3_0 (by decide)]; rw [lv_osw hn3_1 (by decide)]; rfl) (by decide) ?_
      refine q_aload_n hE 0 (dlX1_behind_0.at 24 rfl) rfl rfl ?_
      refine q_get hE (dlX1_behind_0.at 25 rfl) kc1 wf_X1_25 g34 rfl rfl rfl ?_
      refine q_aload_n hE 0 (dlX1_behind_0.at 26 rfl) rfl rfl ?_
      refine q_get hE (dlX1_behind_0.at 27 rfl) kc1 wf_X1_12 g34 rfl rfl rfl ?_
      refine q_iload_n hE 1 (dlX1_behind_0.at 28 rfl) rfl rfl ?_
      refine q_callVN_i (X := fun z => WG V z o) hE (As := [_, _]) (dlX1_behind_0.at 29 rfl) mw_X7_leftOf wm_X1_57 rfl rfl rfl rfl (Nat.zero_le _) (Nat.zero_le _) rfl kc7 g1 rfl (ok_X7_leftOf hfx) hm (fun v5 h5 hm => ?_)
      exact q_iret (X := fun z => WG V z o) hE (dlX1_behind_0.at 30 rfl) hm hQ rfl
set_option maxRecDepth 10000 in
theorem ok_X9_on {V : Ev} {l : Launch} {o : PH} {F : Nat}  (hfx : V.2.2.2.2 = false) {a1 : Int32} {a2 : Int32} {a3 : Int32} {h : PH} : ∀ (v : Int32) (h' : PH), f_X9_on F a1 a2 a3 h = some (v, h') → Ctr l V yX9_on cX9_on 4 (some .int) 6 [rf V 0, .int a1, .int a2, .int a3] 143 (WG V h o) 143 (WG V (h') o) (some (.int v)) 0 0 := by
  intro v h' hm
  refine Ctr.intro RX9 (by decide +kernel) rfl rfl rfl ?_
  intro E hE hQ _
  unfold f_X9_on at hm
  refine q_aload_n hE 0 (dlX9_on_0.at 0 rfl) rfl rfl ?_
  refine q_iload_n hE 1 (dlX9_on_0.at 1 rfl) rfl rfl ?_
  refine q_callV_i (X := fun z => WG V z o) hE (As := [_]) (dlX9_on_0.at 2 rfl) mw_X9_isClock wm_X9_93 rfl rfl rfl rfl (Nat.zero_le _) (Nat.zero_le _) rfl kc9 g0 rfl (ok_X9_isClock hfx) hm (fun v1 h1 hm => ?_)
  refine q_if_eq hE (tgt := 17) (dlX9_on_0.at 3 rfl) (by decide) hm (fun hc2 hm => ?_) (fun hc2 hm => ?_)
  · refine q_iconst hE (dlX9_on_0.at 9 rfl) ic_m1 ?_
    exact q_iret (X := fun z => WG V z o) hE (dlX9_on_0.at 10 rfl) hm hQ rfl
  · refine q_iload_n hE 3 (dlX9_on_0.at 4 rfl) rfl rfl ?_
    refine q_iconst hE (dlX9_on_0.at 5 rfl) ic_0 ?_
    refine q_iconst hE (dlX9_on_0.at 6 rfl) ic_2 ?_
    refine q_callS_i (X := fun z => WG V z o) hE (As := [_, _, _]) (dlX9_on_0.at 7 rfl) mw_X9_within wm_X9_73 rfl rfl rfl rfl (Nat.zero_le _) (Nat.zero_le _) rfl (ok_X9_within hfx) hm (fun v3 h3 hm => ?_)
    refine q_if_ne hE (tgt := 19) (dlX9_on_0.at 8 rfl) (by decide) hm (fun hc4 hm => ?_) (fun hc4 hm => ?_)
    · refine q_iconst hE (dlX9_on_0.at 9 rfl) ic_m1 ?_
      exact q_iret (X := fun z => WG V z o) hE (dlX9_on_0.at 10 rfl) hm hQ rfl
    · refine q_iload_n hE 2 (dlX9_on_0.at 11 rfl) rfl rfl ?_
      refine q_iconst hE (dlX9_on_0.at 12 rfl) ic_0 ?_
      refine q_bipush hE (dlX9_on_0.at 13 rfl) bc_60 ?_
      refine q_callS_i (X := fun z => WG V z o) hE (As := [_, _, _]) (dlX9_on_0.at 14 rfl) mw_X9_within wm_X9_73 rfl rfl rfl rfl (Nat.zero_le _) (Nat.zero_le _) rfl (ok_X9_within hfx) hm (fun v5 h5 hm => ?_)
      refine q_if_eq hE (tgt := 42) (dlX9_on_0.at 15 rfl) (by decide) hm (fun hc6 hm => ?_) (fun hc6 hm => ?_)
      · refine q_bipush hE (dlX9_on_0.at 23 rfl) bc_m2 ?_
        exact q_iret (X := fun z => WG V z o) hE (dlX9_on_0.at 24 rfl) hm hQ rfl
      · refine q_aload_n hE 0 (dlX9_on_0.at 16 rfl) rfl rfl ?_
        refine q_get hE (dlX9_on_0.at 17 rfl) kc9 wf_X9_47 g0 rfl rfl rfl ?_
        refine q_iload_n hE 1 (dlX9_on_0.at 18 rfl) rfl rfl ?_
        refine q_iload_n hE 2 (dlX9_on_0.at 19 rfl) rfl rfl ?_
        refine q_iload_n hE 3 (dlX9_on_0.at 20 rfl) rfl rfl ?_
        refine q_callVN_i (X := fun z => WG V z o) hE (As := [_, _, _]) (dlX9_on_0.at 21 rfl) mw_X1_behind wm_X9_168 rfl rfl rfl rfl (Nat.zero_le _) (Nat.zero_le _) rfl kc1 g34 rfl (ok_X1_behind hfx) hm (fun v7 h7 hm => ?_)
        refine q_goto hE (tgt := 44) (dlX9_on_0.at 22 rfl) (by decide) ?_
        exact q_iret (X := fun z => WG V z o) hE (dlX9_on_0.at 24 rfl) hm hQ rfl
set_option maxRecDepth 10000 in
theorem ok_X4_keep {V : Ev} {l : Launch} {o : PH} {F : Nat}  (hfx : V.2.2.2.2 = false) {a1 : Int32} {h : PH} : ∀ (v : Unit) (h' : PH), f_X4_keep F a1 h = some (v, h') → Ctr l V yX4_keep cX4_keep 2 none 2 [rf V 38, .int a1] 143 (WG V h o) 143 (WG V (h') o) (none) 0 0 := by
  intro v h' hm
  refine Ctr.intro RX4 (by decide +kernel) rfl rfl rfl ?_
  intro E hE hQ _
  unfold f_X4_keep at hm
  refine q_aload_n hE 0 (dlX4_keep_0.at 0 rfl) rfl rfl ?_
  refine q_iload_n hE 1 (dlX4_keep_0.at 1 rfl) rfl rfl ?_
  refine q_put hE hfx (dlX4_keep_0.at 2 rfl) kc4 wf_X4_24 g38 rfl rfl rfl rfl rfl rfl u38_4 ?_
  refine q_lth (X := fun z => WG V z o) hm (fun h1 hm => ?_)
  refine q_aload_n hE 0 (dlX4_keep_0.at 3 rfl) rfl rfl ?_
  refine q_get hE (dlX4_keep_0.at 4 rfl) kc4 wf_X4_17 g38 rfl rfl rfl ?_
  refine q_iconst hE (dlX4_keep_0.at 5 rfl) ic_0 ?_
  refine q_aload_n hE 0 (dlX4_keep_0.at 6 rfl) rfl rfl ?_
  refine q_get hE (dlX4_keep_0.at 7 rfl) kc4 wf_X4_21 g38 rfl rfl rfl ?_
  refine q_iconst hE (dlX4_keep_0.at 8 rfl) ic_0 ?_
  refine q_bipush hE (dlX4_keep_0.at 9 rfl) bc_6 ?_
  refine q_copyi hE hfx (dlX4_keep_0.at 10 rfl) wm_X4_77 w_copy g40 g41 rfl rfl rfl rfl uf41 hm (fun hm => ?_)
  refine q_lth (X := fun z => WG V z o) hm (fun h2 hm => ?_)
  exact q_vret (X := fun z => WG V z o) hE (dlX4_keep_0.at 11 rfl) hm hQ rfl
set_option maxRecDepth 10000 in
theorem okL_X4_turn_2 {V : Ev} {l : Launch} {o : PH} {F : Nat}  (hfx : V.2.2.2.2 = false) {E : Cx} (hE : CX E V l cX4_turn RX4 4 4 0 0 (some .int)) {r : Int32 × PH} (hQ : RQ E V 143 (WG V r.2 o) (some (.int r.1)) 0 0) : ∀ (n : Nat) (x1 : Nat) (x2 : Int32) (x3 : Int32) (h : PH), isCourse x1 = true → fL_X4_turn_2 F n x1 x2 x3 h = some r → PW E V 0 0 143 (WG V h o) 2 [(0, rf V 38), (1, rf V x1), (2, .int x2), (3, .int x3)] [] := by
  intro n
  induction n with
  | zero => intro x1 x2 x3 h hx1 hm; cases hm
  | succ n ih =>
    intro x1 x2 x3 h hx1 hm
    rw [fL_X4_turn_2] at hm
    refine q_iload_n hE 3 (dlX4_turn_0.at 2 rfl) rfl rfl ?_
    refine q_bipush hE (dlX4_turn_0.at 3 rfl) bc_20 ?_
    refine q_icmp_ge hE (tgt := 41) (dlX4_turn_0.at 4 rfl) (by decide) hm (fun hc1 hm => ?_) (fun hc1 hm => ?_)
    · refine q_iload_n hE 3 (dlX4_turn_0.at 22 rfl) rfl rfl ?_
      exact q_iret (X := fun z => WG V z o) hE (dlX4_turn_0.at 23 rfl) hm hQ rfl
    · refine q_aload_n hE 1 (dlX4_turn_0.at 5 rfl) rfl rfl ?_
      refine q_iload_n hE 2 (dlX4_turn_0.at 6 rfl) rfl rfl ?_
      refine q_callVN_i (X := fun z => WG V z o) hE (As := [_]) (dlX4_turn_0.at 7 rfl) mw_X3_isUp wm_X4_58 rfl rfl rfl rfl (Nat.zero_le _) (Nat.zero_le _) rfl kc3 (g_Course hx1) (b_Course hx1) (ok_X3_isUp hfx) hm (fun v2 h2 hm => ?_)
      refine q_if_ne hE (tgt := 41) (dlX4_turn_0.at 8 rfl) (by decide) hm (fun hc3 hm => ?_) (fun hc3 hm => ?_)
      · refine q_aload_n hE 1 (dlX4_turn_0.at 9 rfl) rfl rfl ?_
        refine q_getN hE (dlX4_turn_0.at 10 rfl) kc3 wf_X4_62 (g_Course hx1) rfl (b_Course hx1) rfl ?_
        refine q_iload_n hE 2 (dlX4_turn_0.at 11 rfl) rfl rfl ?_
        refine q_zald hE (dlX4_turn_0.at 12 rfl) (g_Course_balks hx1) (b_Course_balks hx1) hm (fun hm => ?_)
        refine q_if_ne hE (tgt := 41) (dlX4_turn_0.at 13 rfl) (by decide) hm (fun hc4 hm => ?_) (fun hc4 hm => ?_)
        · refine q_aload_n hE 0 (dlX4_turn_0.at 14 rfl) rfl rfl ?_
          refine q_get hE (dlX4_turn_0.at 15 rfl) kc4 wf_X4_28 g38 rfl rfl rfl ?_
          refine q_aload_n hE 1 (dlX4_turn_0.at 16 rfl) rfl rfl ?_
          refine q_iload_n hE 2 (dlX4_turn_0.at 17 rfl) rfl rfl ?_
          refine q_callVN_i (X := fun z => WG V z o) hE (As := [_, _]) (dlX4_turn_0.at 18 rfl) mw_X7_evening wm_X4_66 rfl rfl rfl rfl (Nat.zero_le _) (Nat.zero_le _) rfl kc7 g1 rfl (ok_X7_evening hfx) hm (fun v5 h5 hm => ?_)
          refine q_pop hE (dlX4_turn_0.at 19 rfl) rfl ?_
          refine q_iinc hE [(0, _), (1, _), (2, _), (3, _)] 3 (dlX4_turn_0.at 20 rfl) rfl ic_1 rfl rfl ?_
          refine q_goto hE (tgt := 2) (dlX4_turn_0.at 21 rfl) (by decide) ?_
          refine q_sub hE [0, 1, 2, 3] rfl ?_
          exact ih _ _ _ _ hx1 hm
        · refine q_iload_n hE 3 (dlX4_turn_0.at 22 rfl) rfl rfl ?_
          exact q_iret (X := fun z => WG V z o) hE (dlX4_turn_0.at 23 rfl) hm hQ rfl
      · refine q_iload_n hE 3 (dlX4_turn_0.at 22 rfl) rfl rfl ?_
        exact q_iret (X := fun z => WG V z o) hE (dlX4_turn_0.at 23 rfl) hm hQ rfl
set_option maxRecDepth 10000 in
theorem ok_X4_turn {V : Ev} {l : Launch} {o : PH} {F : Nat}  (hfx : V.2.2.2.2 = false) {a1 : Nat} {a2 : Int32} {h : PH} : ∀ (v : Int32) (h' : PH), f_X4_turn F a1 a2 h = some (v, h') → Ctr l V yX4_turn cX4_turn 4 (some .int) 4 [rf V 38, rf V a1, .int a2] 143 (WG V h o) 143 (WG V (h') o) (some (.int v)) 0 0 := by
  intro v h' hm
  refine Ctr.intro RX4 (by decide +kernel) rfl rfl rfl ?_
  intro E hE hQ _
  unfold f_X4_turn at hm
  obtain ⟨hp1, hm⟩ := g_if hm
  refine q_iconst hE (dlX4_turn_0.at 0 rfl) ic_0 ?_
  refine q_istore_n hE [(0, _), (1, _), (2, _), (3, _)] (dlX4_turn_0.at 1 rfl) rfl rfl rfl ?_
  refine q_sub hE [0, 1, 2, 3] rfl ?_
  exact okL_X4_turn_2 hfx hE hQ  F _ _ _ _ hp1 hm
set_option maxRecDepth 10000 in
theorem okL_X4_tryOrders_38 {V : Ev} {l : Launch} {dd : Nat} (hdd : Nat.ble 5 dd = true) {o : PH} {F : Nat} {G : Int32 → Int32 → Int32 → PH → Option (Unit × PH)}  (hG : ∀ (a1 : Int32) (a2 : Int32) (a3 : Int32) (h : PH) (v : Unit) (h' : PH), G a1 a2 a3 h = some (v, h') → Ctr l V yX4_tryOrders cX4_tryOrders 6 none dd [rf V 38, .int a1, .int a2, .int a3] 143 (WG V h o) 143 (WG V (h') o) (none) 0 0) (hfx : V.2.2.2.2 = false) {E : Cx} (hE : CX E V l cX4_tryOrders RX4 6 (dd + 1) 0 0 none) {r : Unit × PH} (hQ : RQ E V 143 (WG V r.2 o) (none) 0 0) : ∀ (n : Nat) (x1 : Int32) (x2 : Int32) (x3 : Int32) (x4 : Int32) (h : PH), fL_X4_tryOrders_38 F G n x1 x2 x3 x4 h = some r → PW E V 0 0 143 (WG V h o) 38 [(0, rf V 38), (1, .int x1), (2, .int x2), (3, .int x3), (4, .int x4)] [] := by
  intro n
  induction n with
  | zero => intro x1 x2 x3 x4 h hm; cases hm
  | succ n ih =>
    intro x1 x2 x3 x4 h hm
    rw [fL_X4_tryOrders_38] at hm
    refine q_iload hE 4 (dlX4_tryOrders_0.at 20 rfl) rfl ?_
    refine q_aload_n hE 0 (dlX4_tryOrders_0.at 21 rfl) rfl rfl ?_
    refine q_get hE (dlX4_tryOrders_0.at 22 rfl) kc4 wf_X4_28 g38 rfl rfl rfl ?_
    refine q_getN hE (dlX4_tryOrders_0.at 23 rfl) kc7 wf_X4_47 g1 rfl rfl rfl ?_
    refine q_icmp_ge hE (tgt := 123) (dlX4_tryOrders_0.at 24 rfl) (by decide) hm (fun hc3 hm => ?_) (fun hc3 hm => ?_)
    · exact q_vret (X := fun z => WG V z o) hE (dlX4_tryOrders_1.at 32 rfl) hm hQ rfl
    · refine q_iload_n hE 2 (dlX4_tryOrders_0.at 25 rfl) rfl rfl ?_
      refine q_iload hE 4 (dlX4_tryOrders_0.at 26 rfl) rfl ?_
      refine q_ishr hE (dlX4_tryOrders_0.at 27 rfl) ?_
      refine q_iconst hE (dlX4_tryOrders_0.at 28 rfl) ic_1 ?_
      refine q_iand hE (dlX4_tryOrders_0.at 29 rfl) ?_
      refine q_if_ne hE (tgt := 117) (dlX4_tryOrders_0.at 30 rfl) (by decide) hm (fun hc4 hm => ?_) (fun hc4 hm => ?_)
      · refine q_aload_n hE 0 (dlX4_tryOrders_0.at 31 rfl) rfl rfl ?_
        refine q_get hE (dlX4_tryOrders_0.at 32 rfl) kc4 wf_X4_17 g38 rfl rfl rfl ?_
        refine q_iload_n hE 1 (dlX4_tryOrders_0.at 33 rfl) rfl rfl ?_
        refine q_iload hE 4 (dlX4_tryOrders_0.at 34 rfl) rfl ?_
        refine q_iast hE hfx (dlX4_tryOrders_0.at 35 rfl) g40 rfl u40 hm (fun hm => ?_)
        refine q_lth (X := fun z => WG V z o) hm (fun h5 hm => ?_)
        refine q_aload_n hE 0 (dlX4_tryOrders_0.at 36 rfl) rfl rfl ?_
        refine q_get hE (dlX4_tryOrders_0.at 37 rfl) kc4 wf_X4_11 g38 rfl rfl rfl ?_
        refine q_iload_n hE 1 (dlX4_tryOrders_0.at 38 rfl) rfl rfl ?_
        refine q_iconst hE (dlX4_tryOrders_0.at 39 rfl) ic_1 ?_
        refine q_iadd hE (dlX4_tryOrders_1.at 0 rfl) ?_
        refine q_aald hE 5 (dlX4_tryOrders_1.at 1 rfl) g39 rfl (fun _ => rfl) rfl hm (fun hi6 hm => ?_)
        refine q_aload_n hE 0 (dlX4_tryOrders_1.at 2 rfl) rfl rfl ?_
        refine q_get hE (dlX4_tryOrders_1.at 3 rfl) kc4 wf_X4_11 g38 rfl rfl rfl ?_
        refine q_iload_n hE 1 (dlX4_tryOrders_1.at 4 rfl) rfl rfl ?_
        refine q_aald hE 5 (dlX4_tryOrders_1.at 5 rfl) g39 rfl (fun _ => rfl) rfl hm (fun hi7 hm => ?_)
        refine q_callVN_v (X := fun z => WG V z o) hE (As := [_]) (dlX4_tryOrders_1.at 6 rfl) mw_X3_copyFrom wm_X4_39 (kr_c hdd rfl) rfl rfl rfl (Nat.zero_le _) (Nat.zero_le _) rfl kc3 (g_Course (ra_Course hi6)) (b_Course (ra_Course hi6)) (ok_X3_copyFrom hfx) hm (fun v8 h8 hm => ?_)
        refine q_aload_n hE 0 (dlX4_tryOrders_1.at 7 rfl) rfl rfl ?_
        refine q_aload_n hE 0 (dlX4_tryOrders_1.at 8 rfl) rfl rfl ?_
        refine q_get hE (dlX4_tryOrders_1.at 9 rfl) kc4 wf_X4_11 g38 rfl rfl rfl ?_
        refine q_iload_n hE 1 (dlX4_tryOrders_1.at 10 rfl) rfl rfl ?_
        refine q_iconst hE (dlX4_tryOrders_1.at 11 rfl) ic_1 ?_
        refine q_iadd hE (dlX4_tryOrders_1.at 12 rfl) ?_
        refine q_aald hE 5 (dlX4_tryOrders_1.at 13 rfl) g39 rfl (fun _ => rfl) rfl hm (fun hi9 hm => ?_)
        refine q_iload hE 4 (dlX4_tryOrders_1.at 14 rfl) rfl ?_
        refine q_callV_i (X := fun z => WG V z o) hE (As := [_, _]) (dlX4_tryOrders_1.at 15 rfl) mw_X4_turn wm_X4_54 (kr_c hdd rfl) rfl rfl rfl (Nat.zero_le _) (Nat.zero_le _) rfl kc4 g38 rfl (ok_X4_turn hfx) hm (fun v10 h10 hm => ?_)
        refine q_istore hE [(0, _), (1, _), (2, _), (3, _), (4, _), (5, _)] (dlX4_tryOrders_1.at 16 rfl) rfl rfl ?_
        refine q_aload_n hE 0 (dlX4_tryOrders_1.at 17 rfl) rfl rfl ?_
        refine q_iload_n hE 1 (dlX4_tryOrders_1.at 18 rfl) rfl rfl ?_
        refine q_iconst hE (dlX4_tryOrders_1.at 19 rfl) ic_1 ?_
        refine q_iadd hE (dlX4_tryOrders_1.at 20 rfl) ?_
        refine q_iload_n hE 2 (dlX4_tryOrders_1.at 21 rfl) rfl rfl ?_
        refine q_iconst hE (dlX4_tryOrders_1.at 22 rfl) ic_1 ?_
        refine q_iload hE 4 (dlX4_tryOrders_1.at 23 rfl) rfl ?_
        refine q_ishl hE (dlX4_tryOrders_1.at 24 rfl) ?_
        refine q_ior hE (dlX4_tryOrders_1.at 25 rfl) ?_
        refine q_iload_n hE 3 (dlX4_tryOrders_1.at 26 rfl) rfl rfl ?_
        refine q_iload hE 5 (dlX4_tryOrders_1.at 27 rfl) rfl ?_
        refine q_iadd hE (dlX4_tryOrders_1.at 28 rfl) ?_
        refine q_callV_v (X := fun z => WG V z o) hE (As := [_, _, _]) (dlX4_tryOrders_1.at 29 rfl) mw_X4_tryOrders wm_X4_43 (kr_s _) rfl rfl rfl (Nat.zero_le _) (Nat.zero_le _) rfl kc4 g38 rfl (hG _ _ _ _) hm (fun v11 h11 hm => ?_)
        refine q_iinc hE [(0, _), (1, _), (2, _), (3, _), (4, _), (5, _)] 4 (dlX4_tryOrders_1.at 30 rfl) rfl ic_1 rfl rfl ?_
        refine q_goto hE (tgt := 38) (dlX4_tryOrders_1.at 31 rfl) (by decide) ?_
        refine q_sub hE [0, 1, 2, 3, 4] rfl ?_
        exact ih _ _ _ _ _  hm
      · refine q_iinc hE [(0, _), (1, _), (2, _), (3, _), (4, _)] 4 (dlX4_tryOrders_1.at 30 rfl) rfl ic_1 rfl rfl ?_
        refine q_goto hE (tgt := 38) (dlX4_tryOrders_1.at 31 rfl) (by decide) ?_
        refine q_sub hE [0, 1, 2, 3, 4] rfl ?_
        exact ih _ _ _ _ _  hm
set_option maxRecDepth 10000 in
theorem okb_X4_tryOrders {V : Ev} {l : Launch} {dd : Nat} (hdd : Nat.ble 5 dd = true) {o : PH} {F : Nat} {G : Int32 → Int32 → Int32 → PH → Option (Unit × PH)}  (hG : ∀ (a1 : Int32) (a2 : Int32) (a3 : Int32) (h : PH) (v : Unit) (h' : PH), G a1 a2 a3 h = some (v, h') → Ctr l V yX4_tryOrders cX4_tryOrders 6 none dd [rf V 38, .int a1, .int a2, .int a3] 143 (WG V h o) 143 (WG V (h') o) (none) 0 0) (hfx : V.2.2.2.2 = false) {a1 : Int32} {a2 : Int32} {a3 : Int32} {h : PH} : ∀ (v : Unit) (h' : PH), b_X4_tryOrders F G a1 a2 a3 h = some (v, h') → Ctr l V yX4_tryOrders cX4_tryOrders 6 none (dd + 1) [rf V 38, .int a1, .int a2, .int a3] 143 (WG V h o) 143 (WG V (h') o) (none) 0 0 := by
  intro v h' hm
  refine Ctr.intro RX4 (by decide +kernel) rfl rfl rfl ?_
  intro E hE hQ _
  unfold b_X4_tryOrders at hm
  refine q_aload_n hE 0 (dlX4_tryOrders_0.at 0 rfl) rfl rfl ?_
  refine q_get hE (dlX4_tryOrders_0.at 1 rfl) kc4 wf_X4_24 g38 rfl rfl rfl ?_
  refine q_bipush hE (dlX4_tryOrders_0.at 2 rfl) bc_m5 ?_
  refine q_icmp_eq hE (tgt := 18) (dlX4_tryOrders_0.at 3 rfl) (by decide) hm (fun hc1 hm => ?_) (fun hc1 hm => ?_)
  · refine q_iload_n hE 1 (dlX4_tryOrders_0.at 9 rfl) rfl rfl ?_
    refine q_aload_n hE 0 (dlX4_tryOrders_0.at 10 rfl) rfl rfl ?_
    refine q_get hE (dlX4_tryOrders_0.at 11 rfl) kc4 wf_X4_28 g38 rfl rfl rfl ?_
    refine q_getN hE (dlX4_tryOrders_0.at 12 rfl) kc7 wf_X4_47 g1 rfl rfl rfl ?_
    refine q_icmp_lt hE (tgt := 35) (dlX4_tryOrders_0.at 13 rfl) (by decide) hm (fun hc2 hm => ?_) (fun hc2 hm => ?_)
    · refine q_iconst hE (dlX4_tryOrders_0.at 18 rfl) ic_0 ?_
      refine q_istore hE [(0, _), (1, _), (2, _), (3, _), (4, _)] (dlX4_tryOrders_0.at 19 rfl) rfl rfl ?_
      refine q_sub hE [0, 1, 2, 3, 4] rfl ?_
      exact okL_X4_tryOrders_38 hdd hG hfx hE hQ  F _ _ _ _ _  hm
    · refine q_aload_n hE 0 (dlX4_tryOrders_0.at 14 rfl) rfl rfl ?_
      refine q_iload_n hE 3 (dlX4_tryOrders_0.at 15 rfl) rfl rfl ?_
      refine q_callV_v (X := fun z => WG V z o) hE (As := [_]) (dlX4_tryOrders_0.at 16 rfl) mw_X4_keep wm_X4_50 (kr_c hdd rfl) rfl rfl rfl (Nat.zero_le _) (Nat.zero_le _) rfl kc4 g38 rfl (ok_X4_keep hfx) hm (fun v12 h12 hm => ?_)
      exact q_vret (X := fun z => WG V z o) hE (dlX4_tryOrders_0.at 17 rfl) hm hQ rfl
  · refine q_iload_n hE 3 (dlX4_tryOrders_0.at 4 rfl) rfl rfl ?_
    refine q_aload_n hE 0 (dlX4_tryOrders_0.at 5 rfl) rfl rfl ?_
    refine q_get hE (dlX4_tryOrders_0.at 6 rfl) kc4 wf_X4_24 g38 rfl rfl rfl ?_
    refine q_icmp_lt hE (tgt := 18) (dlX4_tryOrders_0.at 7 rfl) (by decide) hm (fun hc13 hm => ?_) (fun hc13 hm => ?_)
    · refine q_iload_n hE 1 (dlX4_tryOrders_0.at 9 rfl) rfl rfl ?_
      refine q_aload_n hE 0 (dlX4_tryOrders_0.at 10 rfl) rfl rfl ?_
      refine q_get hE (dlX4_tryOrders_0.at 11 rfl) kc4 wf_X4_28 g38 rfl rfl rfl ?_
      refine q_getN hE (dlX4_tryOrders_0.at 12 rfl) kc7 wf_X4_47 g1 rfl rfl rfl ?_
      refine q_icmp_lt hE (tgt := 35) (dlX4_tryOrders_0.at 13 rfl) (by decide) hm (fun hc14 hm => ?_) (fun hc14 hm => ?_)
      · refine q_iconst hE (dlX4_tryOrders_0.at 18 rfl) ic_0 ?_
        refine q_istore hE [(0, _), (1, _), (2, _), (3, _), (4, _)] (dlX4_tryOrders_0.at 19 rfl) rfl rfl ?_
        refine q_sub hE [0, 1, 2, 3, 4] rfl ?_
        exact okL_X4_tryOrders_38 hdd hG hfx hE hQ  F _ _ _ _ _  hm
      · refine q_aload_n hE 0 (dlX4_tryOrders_0.at 14 rfl) rfl rfl ?_
        refine q_iload_n hE 3 (dlX4_tryOrders_0.at 15 rfl) rfl rfl ?_
        refine q_callV_v (X := fun z => WG V z o) hE (As := [_]) (dlX4_tryOrders_0.at 16 rfl) mw_X4_keep wm_X4_50 (kr_c hdd rfl) rfl rfl rfl (Nat.zero_le _) (Nat.zero_le _) rfl kc4 g38 rfl (ok_X4_keep hfx) hm (fun v15 h15 hm => ?_)
        exact q_vret (X := fun z => WG V z o) hE (dlX4_tryOrders_0.at 17 rfl) hm hQ rfl
    · exact q_vret (X := fun z => WG V z o) hE (dlX4_tryOrders_0.at 8 rfl) hm hQ rfl
theorem ok_X4_tryOrders {V : Ev} {l : Launch} {o : PH} {F : Nat} (hfx : V.2.2.2.2 = false) : ∀ (d : Nat) {a1 : Int32} {a2 : Int32} {a3 : Int32} {h : PH} (v : Unit) (h' : PH), f_X4_tryOrders F d a1 a2 a3 h = some (v, h') → Ctr l V yX4_tryOrders cX4_tryOrders 6 none (5 + d) [rf V 38, .int a1, .int a2, .int a3] 143 (WG V h o) 143 (WG V (h') o) (none) 0 0 := by
  intro d
  induction d with
  | zero => intro a1 a2 a3 h v h' hm; cases hm
  | succ d ih =>
    intro a1 a2 a3 h v h' hm
    exact okb_X4_tryOrders (dd := 5 + d) (Nat.ble_eq.mpr (Nat.le_add_right _ _)) (fun a1 a2 a3 h v h' hm => ih v h' hm) hfx v h' hm
set_option maxRecDepth 10000 in
theorem ok_X4_findOrder {V : Ev} {l : Launch} {o : PH} {F : Nat}  (hfx : V.2.2.2.2 = false)  {h : PH} : ∀ (v : Unit) (h' : PH), f_X4_findOrder F  h = some (v, h') → Ctr l V yX4_findOrder cX4_findOrder 1 none 56 [rf V 38] 143 (WG V h o) 143 (WG V (h') o) (none) 0 0 := by
  intro v h' hm
  refine Ctr.intro RX4 (by decide +kernel) rfl rfl rfl ?_
  intro E hE hQ _
  unfold f_X4_findOrder at hm
  refine q_aload_n hE 0 (dlX4_findOrder_0.at 0 rfl) rfl rfl ?_
  refine q_bipush hE (dlX4_findOrder_0.at 1 rfl) bc_m5 ?_
  refine q_put hE hfx (dlX4_findOrder_0.at 2 rfl) kc4 wf_X4_24 g38 rfl rfl rfl rfl rfl rfl u38_4 ?_
  refine q_lth (X := fun z => WG V z o) hm (fun h1 hm => ?_)
  refine q_aload_n hE 0 (dlX4_findOrder_0.at 3 rfl) rfl rfl ?_
  refine q_get hE (dlX4_findOrder_0.at 4 rfl) kc4 wf_X4_11 g38 rfl rfl rfl ?_
  refine q_iconst hE (dlX4_findOrder_0.at 5 rfl) ic_0 ?_
  refine q_aald hE 5 (dlX4_findOrder_0.at 6 rfl) g39 rfl (fun _ => rfl) rfl hm (fun hi2 hm => ?_)
  refine q_aload_n hE 0 (dlX4_findOrder_0.at 7 rfl) rfl rfl ?_
  refine q_get hE (dlX4_findOrder_0.at 8 rfl) kc4 wf_X4_28 g38 rfl rfl rfl ?_
  refine q_getN hE (dlX4_findOrder_0.at 9 rfl) kc7 wf_X4_33 g1 rfl rfl rfl ?_
  refine q_callVN_v (X := fun z => WG V z o) hE (As := [_]) (dlX4_findOrder_0.at 10 rfl) mw_X3_copyFrom wm_X4_39 rfl rfl rfl rfl (Nat.zero_le _) (Nat.zero_le _) rfl kc3 (g_Course (ra_Course hi2)) (b_Course (ra_Course hi2)) (ok_X3_copyFrom hfx) hm (fun v3 h3 hm => ?_)
  refine q_aload_n hE 0 (dlX4_findOrder_0.at 11 rfl) rfl rfl ?_
  refine q_iconst hE (dlX4_findOrder_0.at 12 rfl) ic_0 ?_
  refine q_iconst hE (dlX4_findOrder_0.at 13 rfl) ic_0 ?_
  refine q_iconst hE (dlX4_findOrder_0.at 14 rfl) ic_0 ?_
  refine q_callV_v (X := fun z => WG V z o) hE (As := [_, _, _]) (dlX4_findOrder_0.at 15 rfl) mw_X4_tryOrders wm_X4_43 rfl rfl rfl rfl (Nat.zero_le _) (Nat.zero_le _) rfl kc4 g38 rfl (ok_X4_tryOrders hfx 50) hm (fun v4 h4 hm => ?_)
  exact q_vret (X := fun z => WG V z o) hE (dlX4_findOrder_0.at 16 rfl) hm hQ rfl
set_option maxRecDepth 10000 in
theorem ok_X9_soonest {V : Ev} {l : Launch} {o : PH} {F : Nat}  (hfx : V.2.2.2.2 = false) {a1 : Int32} {h : PH} : ∀ (v : Int32) (h' : PH), f_X9_soonest F a1 h = some (v, h') → Ctr l V yX9_soonest cX9_soonest 2 (some .int) 57 [rf V 0, .int a1] 143 (WG V h o) 143 (WG V (h') o) (some (.int v)) 0 0 := by
  intro v h' hm
  refine Ctr.intro RX9 (by decide +kernel) rfl rfl rfl ?_
  intro E hE hQ _
  unfold f_X9_soonest at hm
  refine q_iload_n hE 1 (dlX9_soonest_0.at 0 rfl) rfl rfl ?_
  refine q_iconst hE (dlX9_soonest_0.at 1 rfl) ic_m1 ?_
  refine q_iconst hE (dlX9_soonest_0.at 2 rfl) ic_5 ?_
  refine q_callS_i (X := fun z => WG V z o) hE (As := [_, _, _]) (dlX9_soonest_0.at 3 rfl) mw_X9_within wm_X9_73 rfl rfl rfl rfl (Nat.zero_le _) (Nat.zero_le _) rfl (ok_X9_within hfx) hm (fun v1 h1 hm => ?_)
  refine q_if_ne hE (tgt := 11) (dlX9_soonest_0.at 4 rfl) (by decide) hm (fun hc2 hm => ?_) (fun hc2 hm => ?_)
  · refine q_iconst hE (dlX9_soonest_0.at 5 rfl) ic_m1 ?_
    exact q_iret (X := fun z => WG V z o) hE (dlX9_soonest_0.at 6 rfl) hm hQ rfl
  · refine q_iload_n hE 1 (dlX9_soonest_0.at 7 rfl) rfl rfl ?_
    refine q_aload_n hE 0 (dlX9_soonest_0.at 8 rfl) rfl rfl ?_
    refine q_get hE (dlX9_soonest_0.at 9 rfl) kc9 wf_X9_12 g0 rfl rfl rfl ?_
    refine q_getN hE (dlX9_soonest_0.at 10 rfl) kc7 wf_X9_86 g1 rfl rfl rfl ?_
    refine q_icmp_lt hE (tgt := 25) (dlX9_soonest_0.at 11 rfl) (by decide) hm (fun hc3 hm => ?_) (fun hc3 hm => ?_)
    · refine q_aload_n hE 0 (dlX9_soonest_0.at 14 rfl) rfl rfl ?_
      refine q_get hE (dlX9_soonest_0.at 15 rfl) kc9 wf_X9_54 g0 rfl rfl rfl ?_
      refine q_callVN_v (X := fun z => WG V z o) hE (As := []) (dlX9_soonest_0.at 16 rfl) mw_X4_findOrder wm_X9_171 rfl rfl rfl rfl (Nat.zero_le _) (Nat.zero_le _) rfl kc4 g38 rfl (ok_X4_findOrder hfx) hm (fun v4 h4 hm => ?_)
      refine q_iload_n hE 1 (dlX9_soonest_0.at 17 rfl) rfl rfl ?_
      refine q_if_ge hE (tgt := 46) (dlX9_soonest_0.at 18 rfl) (by decide) hm (fun hc5 hm => ?_) (fun hc5 hm => ?_)
      · refine q_aload_n hE 0 (dlX9_soonest_0.at 23 rfl) rfl rfl ?_
        refine q_get hE (dlX9_soonest_0.at 24 rfl) kc9 wf_X9_54 g0 rfl rfl rfl ?_
        refine q_getN hE (dlX9_soonest_0.at 25 rfl) kc4 wf_X9_177 g38 rfl rfl rfl ?_
        refine q_iload_n hE 1 (dlX9_soonest_0.at 26 rfl) rfl rfl ?_
        refine q_iald hE (dlX9_soonest_0.at 27 rfl) g41 rfl hm (fun hm => ?_)
        exact q_iret (X := fun z => WG V z o) hE (dlX9_soonest_0.at 28 rfl) hm hQ rfl
      · refine q_aload_n hE 0 (dlX9_soonest_0.at 19 rfl) rfl rfl ?_
        refine q_get hE (dlX9_soonest_0.at 20 rfl) kc9 wf_X9_54 g0 rfl rfl rfl ?_
        refine q_getN hE (dlX9_soonest_0.at 21 rfl) kc4 wf_X9_174 g38 rfl rfl rfl ?_
        refine q_goto hE (tgt := 55) (dlX9_soonest_0.at 22 rfl) (by decide) ?_
        exact q_iret (X := fun z => WG V z o) hE (dlX9_soonest_0.at 28 rfl) hm hQ rfl
    · refine q_bipush hE (dlX9_soonest_0.at 12 rfl) bc_m5 ?_
      exact q_iret (X := fun z => WG V z o) hE (dlX9_soonest_0.at 13 rfl) hm hQ rfl
set_option maxRecDepth 10000 in
theorem okL_X4_tryRows_11 {V : Ev} {l : Launch} {dd : Nat} (hdd : Nat.ble 4 dd = true) {o : PH} {F : Nat} {G : Int32 → Int32 → PH → Option (Unit × PH)}  (hG : ∀ (a1 : Int32) (a2 : Int32) (h : PH) (v : Unit) (h' : PH), G a1 a2 h = some (v, h') → Ctr l V yX4_tryRows cX4_tryRows 4 none dd [rf V 38, .int a1, .int a2] 143 (WG V h o) 143 (WG V (h') o) (none) 0 0) (hfx : V.2.2.2.2 = false) {E : Cx} (hE : CX E V l cX4_tryRows RX4 4 (dd + 1) 0 0 none) {r : Unit × PH} (hQ : RQ E V 143 (WG V r.2 o) (none) 0 0) : ∀ (x1 : Int32) (h : PH), fL_X4_tryRows_11 F G x1 h = some r → PW E V 0 0 143 (WG V h o) 11 [(0, rf V 38), (1, .int x1)] [] := by
  intro x1 h hm
  unfold fL_X4_tryRows_11 at hm
  refine q_aload_n hE 0 (dlX4_tryRows_0.at 6 rfl) rfl rfl ?_
  refine q_get hE (dlX4_tryRows_0.at 7 rfl) kc4 wf_X4_28 g38 rfl rfl rfl ?_
  refine q_aload_n hE 0 (dlX4_tryRows_0.at 8 rfl) rfl rfl ?_
  refine q_get hE (dlX4_tryRows_0.at 9 rfl) kc4 wf_X4_11 g38 rfl rfl rfl ?_
  refine q_iload_n hE 1 (dlX4_tryRows_0.at 10 rfl) rfl rfl ?_
  refine q_aald hE 5 (dlX4_tryRows_0.at 11 rfl) g39 rfl (fun _ => rfl) rfl hm (fun hi2 hm => ?_)
  refine q_callVN_i (X := fun z => WG V z o) hE (As := [_]) (dlX4_tryRows_0.at 12 rfl) mw_X7_howManyUp wm_X4_73 (kr_c hdd rfl) rfl rfl rfl (Nat.zero_le _) (Nat.zero_le _) rfl kc7 g1 rfl (ok_X7_howManyUp hfx) hm (fun v3 h3 hm => ?_)
  refine q_istore_n hE [(0, _), (1, _), (3, _)] (dlX4_tryRows_0.at 13 rfl) rfl rfl rfl ?_
  refine q_iload_n hE 2 (dlX4_tryRows_0.at 14 rfl) rfl rfl ?_
  refine q_aload_n hE 0 (dlX4_tryRows_0.at 15 rfl) rfl rfl ?_
  refine q_get hE (dlX4_tryRows_0.at 16 rfl) kc4 wf_X4_24 g38 rfl rfl rfl ?_
  refine q_icmp_le hE (tgt := 38) (dlX4_tryRows_0.at 17 rfl) (by decide) hm (fun hc4 hm => ?_) (fun hc4 hm => ?_)
  · exact q_vret (X := fun z => WG V z o) hE (dlX4_tryRows_0.at 21 rfl) hm hQ rfl
  · refine q_aload_n hE 0 (dlX4_tryRows_0.at 18 rfl) rfl rfl ?_
    refine q_iload_n hE 2 (dlX4_tryRows_0.at 19 rfl) rfl rfl ?_
    refine q_callV_v (X := fun z => WG V z o) hE (As := [_]) (dlX4_tryRows_0.at 20 rfl) mw_X4_keep wm_X4_50 (kr_c hdd rfl) rfl rfl rfl (Nat.zero_le _) (Nat.zero_le _) rfl kc4 g38 rfl (ok_X4_keep hfx) hm (fun v5 h5 hm => ?_)
    exact q_vret (X := fun z => WG V z o) hE (dlX4_tryRows_0.at 21 rfl) hm hQ rfl
set_option maxRecDepth 10000 in
theorem okL_X4_tryRows_41 {V : Ev} {l : Launch} {dd : Nat} (hdd : Nat.ble 4 dd = true) {o : PH} {F : Nat} {G : Int32 → Int32 → PH → Option (Unit × PH)}  (hG : ∀ (a1 : Int32) (a2 : Int32) (h : PH) (v : Unit) (h' : PH), G a1 a2 h = some (v, h') → Ctr l V yX4_tryRows cX4_tryRows 4 none dd [rf V 38, .int a1, .int a2] 143 (WG V h o) 143 (WG V (h') o) (none) 0 0) (hfx : V.2.2.2.2 = false) {E : Cx} (hE : CX E V l cX4_tryRows RX4 4 (dd + 1) 0 0 none) {r : Unit × PH} (hQ : RQ E V 143 (WG V r.2 o) (none) 0 0) : ∀ (n : Nat) (x1 : Int32) (x2 : Int32) (x3 : Int32) (h : PH), fL_X4_tryRows_41 F G n x1 x2 x3 h = some r → PW E V 0 0 143 (WG V h o) 41 [(0, rf V 38), (1, .int x1), (2, .int x2), (3, .int x3)] [] := by
  intro n
  induction n with
  | zero => intro x1 x2 x3 h hm; cases hm
  | succ n ih =>
    intro x1 x2 x3 h hm
    rw [fL_X4_tryRows_41] at hm
    refine q_iload_n hE 3 (dlX4_tryRows_0.at 24 rfl) rfl rfl ?_
    refine q_aload_n hE 0 (dlX4_tryRows_0.at 25 rfl) rfl rfl ?_
    refine q_get hE (dlX4_tryRows_0.at 26 rfl) kc4 wf_X4_28 g38 rfl rfl rfl ?_
    refine q_getN hE (dlX4_tryRows_0.at 27 rfl) kc7 wf_X4_47 g1 rfl rfl rfl ?_
    refine q_icmp_ge hE (tgt := 107) (dlX4_tryRows_0.at 28 rfl) (by decide) hm (fun hc7 hm => ?_) (fun hc7 hm => ?_)
    · exact q_vret (X := fun z => WG V z o) hE (dlX4_tryRows_1.at 24 rfl) hm hQ rfl
    · refine q_aload_n hE 0 (dlX4_tryRows_0.at 29 rfl) rfl rfl ?_
      refine q_get hE (dlX4_tryRows_0.at 30 rfl) kc4 wf_X4_17 g38 rfl rfl rfl ?_
      refine q_iload_n hE 1 (dlX4_tryRows_0.at 31 rfl) rfl rfl ?_
      refine q_iload_n hE 3 (dlX4_tryRows_0.at 32 rfl) rfl rfl ?_
      refine q_iast hE hfx (dlX4_tryRows_0.at 33 rfl) g40 rfl u40 hm (fun hm => ?_)
      refine q_lth (X := fun z => WG V z o) hm (fun h8 hm => ?_)
      refine q_aload_n hE 0 (dlX4_tryRows_0.at 34 rfl) rfl rfl ?_
      refine q_get hE (dlX4_tryRows_0.at 35 rfl) kc4 wf_X4_11 g38 rfl rfl rfl ?_
      refine q_iload_n hE 1 (dlX4_tryRows_0.at 36 rfl) rfl rfl ?_
      refine q_iconst hE (dlX4_tryRows_0.at 37 rfl) ic_1 ?_
      refine q_iadd hE (dlX4_tryRows_0.at 38 rfl) ?_
      refine q_aald hE 5 (dlX4_tryRows_0.at 39 rfl) g39 rfl (fun _ => rfl) rfl hm (fun hi9 hm => ?_)
      refine q_aload_n hE 0 (dlX4_tryRows_1.at 0 rfl) rfl rfl ?_
      refine q_get hE (dlX4_tryRows_1.at 1 rfl) kc4 wf_X4_11 g38 rfl rfl rfl ?_
      refine q_iload_n hE 1 (dlX4_tryRows_1.at 2 rfl) rfl rfl ?_
      refine q_aald hE 5 (dlX4_tryRows_1.at 3 rfl) g39 rfl (fun _ => rfl) rfl hm (fun hi10 hm => ?_)
      refine q_callVN_v (X := fun z => WG V z o) hE (As := [_]) (dlX4_tryRows_1.at 4 rfl) mw_X3_copyFrom wm_X4_39 (kr_c hdd rfl) rfl rfl rfl (Nat.zero_le _) (Nat.zero_le _) rfl kc3 (g_Course (ra_Course hi9)) (b_Course (ra_Course hi9)) (ok_X3_copyFrom hfx) hm (fun v11 h11 hm => ?_)
      refine q_aload_n hE 0 (dlX4_tryRows_1.at 5 rfl) rfl rfl ?_
      refine q_get hE (dlX4_tryRows_1.at 6 rfl) kc4 wf_X4_28 g38 rfl rfl rfl ?_
      refine q_aload_n hE 0 (dlX4_tryRows_1.at 7 rfl) rfl rfl ?_
      refine q_get hE (dlX4_tryRows_1.at 8 rfl) kc4 wf_X4_11 g38 rfl rfl rfl ?_
      refine q_iload_n hE 1 (dlX4_tryRows_1.at 9 rfl) rfl rfl ?_
      refine q_iconst hE (dlX4_tryRows_1.at 10 rfl) ic_1 ?_
      refine q_iadd hE (dlX4_tryRows_1.at 11 rfl) ?_
      refine q_aald hE 5 (dlX4_tryRows_1.at 12 rfl) g39 rfl (fun _ => rfl) rfl hm (fun hi12 hm => ?_)
      refine q_iload_n hE 3 (dlX4_tryRows_1.at 13 rfl) rfl rfl ?_
      refine q_callVN_i (X := fun z => WG V z o) hE (As := [_, _]) (dlX4_tryRows_1.at 14 rfl) mw_X7_evening wm_X4_66 (kr_c hdd rfl) rfl rfl rfl (Nat.zero_le _) (Nat.zero_le _) rfl kc7 g1 rfl (ok_X7_evening hfx) hm (fun v13 h13 hm => ?_)
      refine q_pop hE (dlX4_tryRows_1.at 15 rfl) rfl ?_
      refine q_aload_n hE 0 (dlX4_tryRows_1.at 16 rfl) rfl rfl ?_
      refine q_iload_n hE 1 (dlX4_tryRows_1.at 17 rfl) rfl rfl ?_
      refine q_iconst hE (dlX4_tryRows_1.at 18 rfl) ic_1 ?_
      refine q_iadd hE (dlX4_tryRows_1.at 19 rfl) ?_
      refine q_iload_n hE 2 (dlX4_tryRows_1.at 20 rfl) rfl rfl ?_
      refine q_callV_v (X := fun z => WG V z o) hE (As := [_, _]) (dlX4_tryRows_1.at 21 rfl) mw_X4_tryRows wm_X4_69 (kr_s _) rfl rfl rfl (Nat.zero_le _) (Nat.zero_le _) rfl kc4 g38 rfl (hG _ _ _) hm (fun v14 h14 hm => ?_)
      refine q_iinc hE [(0, _), (1, _), (2, _), (3, _)] 3 (dlX4_tryRows_1.at 22 rfl) rfl ic_1 rfl rfl ?_
      refine q_goto hE (tgt := 41) (dlX4_tryRows_1.at 23 rfl) (by decide) ?_
      refine q_sub hE [0, 1, 2, 3] rfl ?_
      exact ih _ _ _ _  hm
set_option maxRecDepth 10000 in
theorem okb_X4_tryRows {V : Ev} {l : Launch} {dd : Nat} (hdd : Nat.ble 4 dd = true) {o : PH} {F : Nat} {G : Int32 → Int32 → PH → Option (Unit × PH)}  (hG : ∀ (a1 : Int32) (a2 : Int32) (h : PH) (v : Unit) (h' : PH), G a1 a2 h = some (v, h') → Ctr l V yX4_tryRows cX4_tryRows 4 none dd [rf V 38, .int a1, .int a2] 143 (WG V h o) 143 (WG V (h') o) (none) 0 0) (hfx : V.2.2.2.2 = false) {a1 : Int32} {a2 : Int32} {h : PH} : ∀ (v : Unit) (h' : PH), b_X4_tryRows F G a1 a2 h = some (v, h') → Ctr l V yX4_tryRows cX4_tryRows 4 none (dd + 1) [rf V 38, .int a1, .int a2] 143 (WG V h o) 143 (WG V (h') o) (none) 0 0 := by
  intro v h' hm
  refine Ctr.intro RX4 (by decide +kernel) rfl rfl rfl ?_
  intro E hE hQ _
  unfold b_X4_tryRows at hm
  refine q_iload_n hE 1 (dlX4_tryRows_0.at 0 rfl) rfl rfl ?_
  refine q_iload_n hE 2 (dlX4_tryRows_0.at 1 rfl) rfl rfl ?_
  refine q_icmp_ge hE (tgt := 11) (dlX4_tryRows_0.at 2 rfl) (by decide) hm (fun hc1 hm => ?_) (fun hc1 hm => ?_)
  · refine q_sub hE [0, 1] rfl ?_
    exact okL_X4_tryRows_11 hdd hG hfx hE hQ  _ _  hm
  · refine q_iload_n hE 1 (dlX4_tryRows_0.at 3 rfl) rfl rfl ?_
    refine q_bipush hE (dlX4_tryRows_0.at 4 rfl) bc_6 ?_
    refine q_icmp_lt hE (tgt := 39) (dlX4_tryRows_0.at 5 rfl) (by decide) hm (fun hc6 hm => ?_) (fun hc6 hm => ?_)
    · refine q_iconst hE (dlX4_tryRows_0.at 22 rfl) ic_0 ?_
      refine q_istore_n hE [(0, _), (1, _), (2, _), (3, _)] (dlX4_tryRows_0.at 23 rfl) rfl rfl rfl ?_
      refine q_sub hE [0, 1, 2, 3] rfl ?_
      exact okL_X4_tryRows_41 hdd hG hfx hE hQ  F _ _ _ _  hm
    · refine q_sub hE [0, 1] rfl ?_
      exact okL_X4_tryRows_11 hdd hG hfx hE hQ  _ _  hm
theorem ok_X4_tryRows {V : Ev} {l : Launch} {o : PH} {F : Nat} (hfx : V.2.2.2.2 = false) : ∀ (d : Nat) {a1 : Int32} {a2 : Int32} {h : PH} (v : Unit) (h' : PH), f_X4_tryRows F d a1 a2 h = some (v, h') → Ctr l V yX4_tryRows cX4_tryRows 4 none (4 + d) [rf V 38, .int a1, .int a2] 143 (WG V h o) 143 (WG V (h') o) (none) 0 0 := by
  intro d
  induction d with
  | zero => intro a1 a2 h v h' hm; cases hm
  | succ d ih =>
    intro a1 a2 h v h' hm
    exact okb_X4_tryRows (dd := 4 + d) (Nat.ble_eq.mpr (Nat.le_add_right _ _)) (fun a1 a2 h v h' hm => ih v h' hm) hfx v h' hm
set_option maxRecDepth 10000 in
theorem ok_X4_findRow {V : Ev} {l : Launch} {o : PH} {F : Nat}  (hfx : V.2.2.2.2 = false) {a1 : Int32} {h : PH} : ∀ (v : Unit) (h' : PH), f_X4_findRow F a1 h = some (v, h') → Ctr l V yX4_findRow cX4_findRow 2 none 55 [rf V 38, .int a1] 143 (WG V h o) 143 (WG V (h') o) (none) 0 0 := by
  intro v h' hm
  refine Ctr.intro RX4 (by decide +kernel) rfl rfl rfl ?_
  intro E hE hQ _
  unfold f_X4_findRow at hm
  refine q_aload_n hE 0 (dlX4_findRow_0.at 0 rfl) rfl rfl ?_
  refine q_bipush hE (dlX4_findRow_0.at 1 rfl) bc_m5 ?_
  refine q_put hE hfx (dlX4_findRow_0.at 2 rfl) kc4 wf_X4_24 g38 rfl rfl rfl rfl rfl rfl u38_4 ?_
  refine q_lth (X := fun z => WG V z o) hm (fun h1 hm => ?_)
  refine q_aload_n hE 0 (dlX4_findRow_0.at 3 rfl) rfl rfl ?_
  refine q_get hE (dlX4_findRow_0.at 4 rfl) kc4 wf_X4_11 g38 rfl rfl rfl ?_
  refine q_iconst hE (dlX4_findRow_0.at 5 rfl) ic_0 ?_
  refine q_aald hE 5 (dlX4_findRow_0.at 6 rfl) g39 rfl (fun _ => rfl) rfl hm (fun hi2 hm => ?_)
  refine q_aload_n hE 0 (dlX4_findRow_0.at 7 rfl) rfl rfl ?_
  refine q_get hE (dlX4_findRow_0.at 8 rfl) kc4 wf_X4_28 g38 rfl rfl rfl ?_
  refine q_getN hE (dlX4_findRow_0.at 9 rfl) kc7 wf_X4_33 g1 rfl rfl rfl ?_
  refine q_callVN_v (X := fun z => WG V z o) hE (As := [_]) (dlX4_findRow_0.at 10 rfl) mw_X3_copyFrom wm_X4_39 rfl rfl rfl rfl (Nat.zero_le _) (Nat.zero_le _) rfl kc3 (g_Course (ra_Course hi2)) (b_Course (ra_Course hi2)) (ok_X3_copyFrom hfx) hm (fun v3 h3 hm => ?_)
  refine q_aload_n hE 0 (dlX4_findRow_0.at 11 rfl) rfl rfl ?_
  refine q_iconst hE (dlX4_findRow_0.at 12 rfl) ic_0 ?_
  refine q_iload_n hE 1 (dlX4_findRow_0.at 13 rfl) rfl rfl ?_
  refine q_callV_v (X := fun z => WG V z o) hE (As := [_, _]) (dlX4_findRow_0.at 14 rfl) mw_X4_tryRows wm_X4_69 rfl rfl rfl rfl (Nat.zero_le _) (Nat.zero_le _) rfl kc4 g38 rfl (ok_X4_tryRows hfx 50) hm (fun v4 h4 hm => ?_)
  exact q_vret (X := fun z => WG V z o) hE (dlX4_findRow_0.at 15 rfl) hm hQ rfl
set_option maxRecDepth 10000 in
theorem ok_X9_most {V : Ev} {l : Launch} {o : PH} {F : Nat}  (hfx : V.2.2.2.2 = false) {a1 : Int32} {a2 : Int32} {h : PH} : ∀ (v : Int32) (h' : PH), f_X9_most F a1 a2 h = some (v, h') → Ctr l V yX9_most cX9_most 3 (some .int) 56 [rf V 0, .int a1, .int a2] 143 (WG V h o) 143 (WG V (h') o) (some (.int v)) 0 0 := by
  intro v h' hm
  refine Ctr.intro RX9 (by decide +kernel) rfl rfl rfl ?_
  intro E hE hQ _
  unfold f_X9_most at hm
  refine q_iload_n hE 2 (dlX9_most_0.at 0 rfl) rfl rfl ?_
  refine q_iconst hE (dlX9_most_0.at 1 rfl) ic_m1 ?_
  refine q_iconst hE (dlX9_most_0.at 2 rfl) ic_4 ?_
  refine q_callS_i (X := fun z => WG V z o) hE (As := [_, _, _]) (dlX9_most_0.at 3 rfl) mw_X9_within wm_X9_73 rfl rfl rfl rfl (Nat.zero_le _) (Nat.zero_le _) rfl (ok_X9_within hfx) hm (fun v1 h1 hm => ?_)
  refine q_if_ne hE (tgt := 11) (dlX9_most_0.at 4 rfl) (by decide) hm (fun hc2 hm => ?_) (fun hc2 hm => ?_)
  · refine q_iconst hE (dlX9_most_0.at 5 rfl) ic_m1 ?_
    exact q_iret (X := fun z => WG V z o) hE (dlX9_most_0.at 6 rfl) hm hQ rfl
  · refine q_iload_n hE 1 (dlX9_most_0.at 7 rfl) rfl rfl ?_
    refine q_iconst hE (dlX9_most_0.at 8 rfl) ic_1 ?_
    refine q_iconst hE (dlX9_most_0.at 9 rfl) ic_5 ?_
    refine q_callS_i (X := fun z => WG V z o) hE (As := [_, _, _]) (dlX9_most_0.at 10 rfl) mw_X9_within wm_X9_73 rfl rfl rfl rfl (Nat.zero_le _) (Nat.zero_le _) rfl (ok_X9_within hfx) hm (fun v3 h3 hm => ?_)
    refine q_if_ne hE (tgt := 23) (dlX9_most_0.at 11 rfl) (by decide) hm (fun hc4 hm => ?_) (fun hc4 hm => ?_)
    · refine q_bipush hE (dlX9_most_0.at 12 rfl) bc_m2 ?_
      exact q_iret (X := fun z => WG V z o) hE (dlX9_most_0.at 13 rfl) hm hQ rfl
    · refine q_iload_n hE 2 (dlX9_most_0.at 14 rfl) rfl rfl ?_
      refine q_iload_n hE 1 (dlX9_most_0.at 15 rfl) rfl rfl ?_
      refine q_icmp_ge hE (tgt := 38) (dlX9_most_0.at 16 rfl) (by decide) hm (fun hc5 hm => ?_) (fun hc5 hm => ?_)
      · refine q_bipush hE (dlX9_most_0.at 21 rfl) bc_m5 ?_
        exact q_iret (X := fun z => WG V z o) hE (dlX9_most_0.at 22 rfl) hm hQ rfl
      · refine q_aload_n hE 0 (dlX9_most_0.at 17 rfl) rfl rfl ?_
        refine q_get hE (dlX9_most_0.at 18 rfl) kc9 wf_X9_12 g0 rfl rfl rfl ?_
        refine q_getN hE (dlX9_most_0.at 19 rfl) kc7 wf_X9_86 g1 rfl rfl rfl ?_
        refine q_if_ne hE (tgt := 41) (dlX9_most_0.at 20 rfl) (by decide) hm (fun hc6 hm => ?_) (fun hc6 hm => ?_)
        · refine q_bipush hE (dlX9_most_0.at 21 rfl) bc_m5 ?_
          exact q_iret (X := fun z => WG V z o) hE (dlX9_most_0.at 22 rfl) hm hQ rfl
        · refine q_aload_n hE 0 (dlX9_most_0.at 23 rfl) rfl rfl ?_
          refine q_get hE (dlX9_most_0.at 24 rfl) kc9 wf_X9_54 g0 rfl rfl rfl ?_
          refine q_iload_n hE 1 (dlX9_most_0.at 25 rfl) rfl rfl ?_
          refine q_callVN_v (X := fun z => WG V z o) hE (As := [_]) (dlX9_most_0.at 26 rfl) mw_X4_findRow wm_X9_180 rfl rfl rfl rfl (Nat.zero_le _) (Nat.zero_le _) rfl kc4 g38 rfl (ok_X4_findRow hfx) hm (fun v7 h7 hm => ?_)
          refine q_iload_n hE 2 (dlX9_most_0.at 27 rfl) rfl rfl ?_
          refine q_if_ge hE (tgt := 63) (dlX9_most_0.at 28 rfl) (by decide) hm (fun hc8 hm => ?_) (fun hc8 hm => ?_)
          · refine q_aload_n hE 0 (dlX9_most_0.at 33 rfl) rfl rfl ?_
            refine q_get hE (dlX9_most_0.at 34 rfl) kc9 wf_X9_54 g0 rfl rfl rfl ?_
            refine q_getN hE (dlX9_most_0.at 35 rfl) kc4 wf_X9_177 g38 rfl rfl rfl ?_
            refine q_iload_n hE 2 (dlX9_most_0.at 36 rfl) rfl rfl ?_
            refine q_iald hE (dlX9_most_0.at 37 rfl) g41 rfl hm (fun hm => ?_)
            exact q_iret (X := fun z => WG V z o) hE (dlX9_most_0.at 38 rfl) hm hQ rfl
          · refine q_aload_n hE 0 (dlX9_most_0.at 29 rfl) rfl rfl ?_
            refine q_get hE (dlX9_most_0.at 30 rfl) kc9 wf_X9_54 g0 rfl rfl rfl ?_
            refine q_getN hE (dlX9_most_0.at 31 rfl) kc4 wf_X9_174 g38 rfl rfl rfl ?_
            refine q_goto hE (tgt := 72) (dlX9_most_0.at 32 rfl) (by decide) ?_
            exact q_iret (X := fun z => WG V z o) hE (dlX9_most_0.at 38 rfl) hm hQ rfl
set_option maxRecDepth 10000 in
theorem okL_X1_bestNext_8 {V : Ev} {l : Launch} {o : PH} {F : Nat}  (hfx : V.2.2.2.2 = false) {E : Cx} (hE : CX E V l cX1_bestNext RX1 5 4 0 0 (some .int)) {r : Int32 × PH} (hQ : RQ E V 143 (WG V r.2 o) (some (.int r.1)) 0 0) : ∀ (n : Nat) (x1 : Int32) (x2 : Int32) (x3 : Int32) (h : PH), fL_X1_bestNext_8 F n x1 x2 x3 h = some r → PW E V 0 0 143 (WG V h o) 8 [(0, rf V 34), (1, .int x1), (2, .int x2), (3, .int x3)] [] := by
  intro n
  induction n with
  | zero => intro x1 x2 x3 h hm; cases hm
  | succ n ih =>
    intro x1 x2 x3 h hm
    rw [fL_X1_bestNext_8] at hm
    refine q_iload_n hE 3 (dlX1_bestNext_0.at 6 rfl) rfl rfl ?_
    refine q_aload_n hE 0 (dlX1_bestNext_0.at 7 rfl) rfl rfl ?_
    refine q_get hE (dlX1_bestNext_0.at 8 rfl) kc1 wf_X1_25 g34 rfl rfl rfl ?_
    refine q_getN hE (dlX1_bestNext_0.at 9 rfl) kc7 wf_X1_74 g1 rfl rfl rfl ?_
    refine q_icmp_ge hE (tgt := 66) (dlX1_bestNext_0.at 10 rfl) (by decide) hm (fun hc1 hm => ?_) (fun hc1 hm => ?_)
    · refine q_iload_n hE 1 (dlX1_bestNext_0.at 35 rfl) rfl rfl ?_
      exact q_iret (X := fun z => WG V z o) hE (dlX1_bestNext_0.at 36 rfl) hm hQ rfl
    · refine q_aload_n hE 0 (dlX1_bestNext_0.at 11 rfl) rfl rfl ?_
      refine q_callV_v (X := fun z => WG V z o) hE (As := []) (dlX1_bestNext_0.at 12 rfl) mw_X1_begin wm_X1_42 rfl rfl rfl rfl (Nat.zero_le _) (Nat.zero_le _) rfl kc1 g34 rfl (ok_X1_begin hfx) hm (fun v2 h2 hm => ?_)
      refine q_aload_n hE 0 (dlX1_bestNext_0.at 13 rfl) rfl rfl ?_
      refine q_get hE (dlX1_bestNext_0.at 14 rfl) kc1 wf_X1_25 g34 rfl rfl rfl ?_
      refine q_aload_n hE 0 (dlX1_bestNext_0.at 15 rfl) rfl rfl ?_
      refine q_get hE (dlX1_bestNext_0.at 16 rfl) kc1 wf_X1_12 g34 rfl rfl rfl ?_
      refine q_iload_n hE 3 (dlX1_bestNext_0.at 17 rfl) rfl rfl ?_
      refine q_callVN_i (X := fun z => WG V z o) hE (As := [_, _]) (dlX1_bestNext_0.at 18 rfl) mw_X7_evening wm_X1_38 rfl rfl rfl rfl (Nat.zero_le _) (Nat.zero_le _) rfl kc7 g1 rfl (ok_X7_evening hfx) hm (fun v3 h3 hm => ?_)
      refine q_pop hE (dlX1_bestNext_0.at 19 rfl) rfl ?_
      refine q_aload_n hE 0 (dlX1_bestNext_0.at 20 rfl) rfl rfl ?_
      refine q_get hE (dlX1_bestNext_0.at 21 rfl) kc1 wf_X1_25 g34 rfl rfl rfl ?_
      refine q_aload_n hE 0 (dlX1_bestNext_0.at 22 rfl) rfl rfl ?_
      refine q_get hE (dlX1_bestNext_0.at 23 rfl) kc1 wf_X1_12 g34 rfl rfl rfl ?_
      refine q_callVN_i (X := fun z => WG V z o) hE (As := [_]) (dlX1_bestNext_0.at 24 rfl) mw_X7_leftOfAll wm_X1_77 rfl rfl rfl rfl (Nat.zero_le _) (Nat.zero_le _) rfl kc7 g1 rfl (ok_X7_leftOfAll hfx) hm (fun v4 h4 hm => ?_)
      refine q_istore hE [(0, _), (1, _), (2, _), (3, _), (4, _)] (dlX1_bestNext_0.at 25 rfl) rfl rfl ?_
      refine q_iload hE 4 (dlX1_bestNext_0.at 26 rfl) rfl ?_
      refine q_iload_n hE 2 (dlX1_bestNext_0.at 27 rfl) rfl rfl ?_
      refine q_icmp_ge hE (tgt := 60) (dlX1_bestNext_0.at 28 rfl) (by decide) hm (fun hc5 hm => ?_) (fun hc5 hm => ?_)
      · refine q_iinc hE [(0, _), (1, _), (2, _), (3, _), (4, _)] 3 (dlX1_bestNext_0.at 33 rfl) rfl ic_1 rfl rfl ?_
        refine q_goto hE (tgt := 8) (dlX1_bestNext_0.at 34 rfl) (by decide) ?_
        refine q_sub hE [0, 1, 2, 3] rfl ?_
        exact ih _ _ _ _  hm
      · refine q_iload hE 4 (dlX1_bestNext_0.at 29 rfl) rfl ?_
        refine q_istore_n hE [(0, _), (1, _), (2, _), (3, _), (4, _)] (dlX1_bestNext_0.at 30 rfl) rfl rfl rfl ?_
        refine q_iload_n hE 3 (dlX1_bestNext_0.at 31 rfl) rfl rfl ?_
        refine q_istore_n hE [(0, _), (1, _), (2, _), (3, _), (4, _)] (dlX1_bestNext_0.at 32 rfl) rfl rfl rfl ?_
        refine q_iinc hE [(0, _), (1, _), (2, _), (3, _), (4, _)] 3 (dlX1_bestNext_0.at 33 rfl) rfl ic_1 rfl rfl ?_
        refine q_goto hE (tgt := 8) (dlX1_bestNext_0.at 34 rfl) (by decide) ?_
        refine q_sub hE [0, 1, 2, 3] rfl ?_
        exact ih _ _ _ _  hm
set_option maxRecDepth 10000 in
theorem ok_X1_bestNext {V : Ev} {l : Launch} {o : PH} {F : Nat}  (hfx : V.2.2.2.2 = false)  {h : PH} : ∀ (v : Int32) (h' : PH), f_X1_bestNext F  h = some (v, h') → Ctr l V yX1_bestNext cX1_bestNext 5 (some .int) 4 [rf V 34] 143 (WG V h o) 143 (WG V (h') o) (some (.int v)) 0 0 := by
  intro v h' hm
  refine Ctr.intro RX1 (by decide +kernel) rfl rfl rfl ?_
  intro E hE hQ _
  unfold f_X1_bestNext at hm
  refine q_bipush hE (dlX1_bestNext_0.at 0 rfl) bc_m5 ?_
  refine q_istore_n hE [(0, _), (1, _)] (dlX1_bestNext_0.at 1 rfl) rfl rfl rfl ?_
  refine q_ldc hE (dlX1_bestNext_0.at 2 rfl) wk_X1_73 ?_
  refine q_istore_n hE [(0, _), (1, _), (2, _)] (dlX1_bestNext_0.at 3 rfl) rfl rfl rfl ?_
  refine q_iconst hE (dlX1_bestNext_0.at 4 rfl) ic_0 ?_
  refine q_istore_n hE [(0, _), (1, _), (2, _), (3, _)] (dlX1_bestNext_0.at 5 rfl) rfl rfl rfl ?_
  refine q_sub hE [0, 1, 2, 3] rfl ?_
  exact okL_X1_bestNext_8 hfx hE hQ  F _ _ _ _  hm
set_option maxRecDepth 10000 in
theorem ok_X9_next {V : Ev} {l : Launch} {o : PH} {F : Nat}  (hfx : V.2.2.2.2 = false)  {h : PH} : ∀ (v : Int32) (h' : PH), f_X9_next F  h = some (v, h') → Ctr l V yX9_next cX9_next 1 (some .int) 5 [rf V 0] 143 (WG V h o) 143 (WG V (h') o) (some (.int v)) 0 0 := by
  intro v h' hm
  refine Ctr.intro RX9 (by decide +kernel) rfl rfl rfl ?_
  intro E hE hQ _
  unfold f_X9_next at hm
  refine q_aload_n hE 0 (dlX9_next_0.at 0 rfl) rfl rfl ?_
  refine q_get hE (dlX9_next_0.at 1 rfl) kc9 wf_X9_47 g0 rfl rfl rfl ?_
  refine q_callVN_i (X := fun z => WG V z o) hE (As := []) (dlX9_next_0.at 2 rfl) mw_X1_bestNext wm_X9_184 rfl rfl rfl rfl (Nat.zero_le _) (Nat.zero_le _) rfl kc1 g34 rfl (ok_X1_bestNext hfx) hm (fun v1 h1 hm => ?_)
  exact q_iret (X := fun z => WG V z o) hE (dlX9_next_0.at 3 rfl) hm hQ rfl
set_option maxRecDepth 10000 in
theorem ok_X6_empty {V : Ev} {l : Launch} {o : PH} {F : Nat}  (hfx : V.2.2.2.2 = false) {t : Nat} {h : PH} : ∀ (v : Int32) (h' : PH), f_X6_empty F t h = some (v, h') → Ctr l V yX6_empty cX6_empty 1 (some .int) 1 [rf V t] 143 (WG V h o) 143 (WG V (h') o) (some (.int v)) 0 0 := by
  intro v h' hm
  refine Ctr.intro RX6 (by decide +kernel) rfl rfl rfl ?_
  intro E hE hQ _
  unfold f_X6_empty at hm
  obtain ⟨ht, hm⟩ := g_if hm
  refine q_aload_n hE 0 (dlX6_empty_0.at 0 rfl) rfl rfl ?_
  refine q_iconst hE (dlX6_empty_0.at 1 rfl) ic_0 ?_
  refine q_put hE hfx (dlX6_empty_0.at 2 rfl) kc6 wf_X6_9 (g_Rows ht) rfl rfl rfl rfl (b_Rows ht) rfl (u_Rows_2 ht) ?_
  refine q_lth (X := fun z => WG V z o) hm (fun h1 hm => ?_)
  refine q_iconst hE (dlX6_empty_0.at 3 rfl) ic_0 ?_
  exact q_iret (X := fun z => WG V z o) hE (dlX6_empty_0.at 4 rfl) hm hQ rfl
set_option maxRecDepth 10000 in
theorem ok_X6_put {V : Ev} {l : Launch} {o : PH} {F : Nat}  (hfx : V.2.2.2.2 = false) {t : Nat} {a1 : Int32} {a2 : Int32} {a3 : Int32} {h : PH} : ∀ (v : Int32) (h' : PH), f_X6_put F t a1 a2 a3 h = some (v, h') → Ctr l V yX6_put cX6_put 4 (some .int) 1 [rf V t, .int a1, .int a2, .int a3] 143 (WG V h o) 143 (WG V (h') o) (some (.int v)) 0 0 := by
  intro v h' hm
  refine Ctr.intro RX6 (by decide +kernel) rfl rfl rfl ?_
  intro E hE hQ _
  unfold f_X6_put at hm
  obtain ⟨ht, hm⟩ := g_if hm
  refine q_aload_n hE 0 (dlX6_put_0.at 0 rfl) rfl rfl ?_
  refine q_get hE (dlX6_put_0.at 1 rfl) kc6 wf_X6_9 (g_Rows ht) rfl (b_Rows ht) rfl ?_
  refine q_aload_n hE 0 (dlX6_put_0.at 2 rfl) rfl rfl ?_
  refine q_get hE (dlX6_put_0.at 3 rfl) kc6 wf_X6_15 (g_Rows ht) rfl (b_Rows ht) rfl ?_
  refine q_icmp_lt hE (tgt := 14) (dlX6_put_0.at 4 rfl) (by decide) hm (fun hc1 hm => ?_) (fun hc1 hm => ?_)
  · refine q_aload_n hE 0 (dlX6_put_0.at 7 rfl) rfl rfl ?_
    refine q_get hE (dlX6_put_0.at 8 rfl) kc6 wf_X6_18 (g_Rows ht) rfl (b_Rows ht) rfl ?_
    refine q_aload_n hE 0 (dlX6_put_0.at 9 rfl) rfl rfl ?_
    refine q_get hE (dlX6_put_0.at 10 rfl) kc6 wf_X6_9 (g_Rows ht) rfl (b_Rows ht) rfl ?_
    refine q_iconst hE (dlX6_put_0.at 11 rfl) ic_3 ?_
    refine q_imul hE (dlX6_put_0.at 12 rfl) ?_
    refine q_iload_n hE 1 (dlX6_put_0.at 13 rfl) rfl rfl ?_
    refine q_iast hE hfx (dlX6_put_0.at 14 rfl) (g_Rows_cells ht) (b_Rows_cells ht) (u_Rows_cells ht) hm (fun hm => ?_)
    refine q_lth (X := fun z => WG V z o) hm (fun h2 hm => ?_)
    refine q_aload_n hE 0 (dlX6_put_0.at 15 rfl) rfl rfl ?_
    refine q_get hE (dlX6_put_0.at 16 rfl) kc6 wf_X6_18 (g_Rows ht) rfl (b_Rows ht) rfl ?_
    refine q_aload_n hE 0 (dlX6_put_0.at 17 rfl) rfl rfl ?_
    refine q_get hE (dlX6_put_0.at 18 rfl) kc6 wf_X6_9 (g_Rows ht) rfl (b_Rows ht) rfl ?_
    refine q_iconst hE (dlX6_put_0.at 19 rfl) ic_3 ?_
    refine q_imul hE (dlX6_put_0.at 20 rfl) ?_
    refine q_iconst hE (dlX6_put_0.at 21 rfl) ic_1 ?_
    refine q_iadd hE (dlX6_put_0.at 22 rfl) ?_
    refine q_iload_n hE 2 (dlX6_put_0.at 23 rfl) rfl rfl ?_
    refine q_iast hE hfx (dlX6_put_0.at 24 rfl) (g_Rows_cells ht) (b_Rows_cells ht) (u_Rows_cells ht) hm (fun hm => ?_)
    refine q_lth (X := fun z => WG V z o) hm (fun h3 hm => ?_)
    refine q_aload_n hE 0 (dlX6_put_0.at 25 rfl) rfl rfl ?_
    refine q_get hE (dlX6_put_0.at 26 rfl) kc6 wf_X6_18 (g_Rows ht) rfl (b_Rows ht) rfl ?_
    refine q_aload_n hE 0 (dlX6_put_0.at 27 rfl) rfl rfl ?_
    refine q_get hE (dlX6_put_0.at 28 rfl) kc6 wf_X6_9 (g_Rows ht) rfl (b_Rows ht) rfl ?_
    refine q_iconst hE (dlX6_put_0.at 29 rfl) ic_3 ?_
    refine q_imul hE (dlX6_put_0.at 30 rfl) ?_
    refine q_iconst hE (dlX6_put_0.at 31 rfl) ic_2 ?_
    refine q_iadd hE (dlX6_put_0.at 32 rfl) ?_
    refine q_iload_n hE 3 (dlX6_put_0.at 33 rfl) rfl rfl ?_
    refine q_iast hE hfx (dlX6_put_0.at 34 rfl) (g_Rows_cells ht) (b_Rows_cells ht) (u_Rows_cells ht) hm (fun hm => ?_)
    refine q_lth (X := fun z => WG V z o) hm (fun h4 hm => ?_)
    refine q_aload_n hE 0 (dlX6_put_0.at 35 rfl) rfl rfl ?_
    refine q_dup hE (dlX6_put_0.at 36 rfl) rfl ?_
    refine q_get hE (dlX6_put_0.at 37 rfl) kc6 wf_X6_9 (g_Rows ht) rfl (b_Rows ht) rfl ?_
    refine q_iconst hE (dlX6_put_0.at 38 rfl) ic_1 ?_
    refine q_iadd hE (dlX6_put_0.at 39 rfl) ?_
    refine q_put hE hfx (dlX6_put_1.at 0 rfl) kc6 wf_X6_9 (g_Rows ht) rfl rfl rfl rfl (b_Rows ht) rfl (u_Rows_2 ht) ?_
    refine q_lth (X := fun z => WG V z o) hm (fun h5 hm => ?_)
    refine q_aload_n hE 0 (dlX6_put_1.at 1 rfl) rfl rfl ?_
    refine q_get hE (dlX6_put_1.at 2 rfl) kc6 wf_X6_9 (g_Rows ht) rfl (b_Rows ht) rfl ?_
    exact q_iret (X := fun z => WG V z o) hE (dlX6_put_1.at 3 rfl) hm hQ rfl
  · refine q_bipush hE (dlX6_put_0.at 5 rfl) bc_m4 ?_
    exact q_iret (X := fun z => WG V z o) hE (dlX6_put_0.at 6 rfl) hm hQ rfl
set_option maxRecDepth 10000 in
theorem ok_X9_see {V : Ev} {l : Launch} {o : PH} {F : Nat}  (hfx : V.2.2.2.2 = false) {a1 : Int32} {a2 : Int32} {a3 : Int32} {h : PH} : ∀ (v : Int32) (h' : PH), f_X9_see F a1 a2 a3 h = some (v, h') → Ctr l V yX9_see cX9_see 4 (some .int) 2 [rf V 0, .int a1, .int a2, .int a3] 143 (WG V h o) 143 (WG V (h') o) (some (.int v)) 0 0 := by
  intro v h' hm
  refine Ctr.intro RX9 (by decide +kernel) rfl rfl rfl ?_
  intro E hE hQ _
  unfold f_X9_see at hm
  refine q_iload_n hE 1 (dlX9_see_0.at 0 rfl) rfl rfl ?_
  refine q_iconst hE (dlX9_see_0.at 1 rfl) ic_m1 ?_
  refine q_icmp_ne hE (tgt := 16) (dlX9_see_0.at 2 rfl) (by decide) hm (fun hc1 hm => ?_) (fun hc1 hm => ?_)
  · refine q_aload_n hE 0 (dlX9_see_0.at 3 rfl) rfl rfl ?_
    refine q_get hE (dlX9_see_0.at 4 rfl) kc9 wf_X9_12 g0 rfl rfl rfl ?_
    refine q_getN hE (dlX9_see_0.at 5 rfl) kc7 wf_X9_187 g1 rfl rfl rfl ?_
    refine q_callVN_i (X := fun z => WG V z o) hE (As := []) (dlX9_see_0.at 6 rfl) mw_X6_empty wm_X9_191 rfl rfl rfl rfl (Nat.zero_le _) (Nat.zero_le _) rfl kc6 g9 rfl (ok_X6_empty hfx) hm (fun v9 h9 hm => ?_)
    exact q_iret (X := fun z => WG V z o) hE (dlX9_see_0.at 7 rfl) hm hQ rfl
  · refine q_aload_n hE 0 (dlX9_see_0.at 8 rfl) rfl rfl ?_
    refine q_iload_n hE 1 (dlX9_see_0.at 9 rfl) rfl rfl ?_
    refine q_callV_i (X := fun z => WG V z o) hE (As := [_]) (dlX9_see_0.at 10 rfl) mw_X9_isClock wm_X9_93 rfl rfl rfl rfl (Nat.zero_le _) (Nat.zero_le _) rfl kc9 g0 rfl (ok_X9_isClock hfx) hm (fun v2 h2 hm => ?_)
    refine q_if_ne hE (tgt := 26) (dlX9_see_0.at 11 rfl) (by decide) hm (fun hc3 hm => ?_) (fun hc3 hm => ?_)
    · refine q_iconst hE (dlX9_see_0.at 12 rfl) ic_m1 ?_
      exact q_iret (X := fun z => WG V z o) hE (dlX9_see_0.at 13 rfl) hm hQ rfl
    · refine q_iload_n hE 2 (dlX9_see_0.at 14 rfl) rfl rfl ?_
      refine q_iconst hE (dlX9_see_0.at 15 rfl) ic_0 ?_
      refine q_sipush hE (dlX9_see_0.at 16 rfl) sc_999 ?_
      refine q_callS_i (X := fun z => WG V z o) hE (As := [_, _, _]) (dlX9_see_0.at 17 rfl) mw_X9_within wm_X9_73 rfl rfl rfl rfl (Nat.zero_le _) (Nat.zero_le _) rfl (ok_X9_within hfx) hm (fun v4 h4 hm => ?_)
      refine q_if_eq hE (tgt := 47) (dlX9_see_0.at 18 rfl) (by decide) hm (fun hc5 hm => ?_) (fun hc5 hm => ?_)
      · refine q_bipush hE (dlX9_see_0.at 24 rfl) bc_m2 ?_
        exact q_iret (X := fun z => WG V z o) hE (dlX9_see_0.at 25 rfl) hm hQ rfl
      · refine q_iload_n hE 3 (dlX9_see_0.at 19 rfl) rfl rfl ?_
        refine q_iconst hE (dlX9_see_0.at 20 rfl) ic_0 ?_
        refine q_bipush hE (dlX9_see_0.at 21 rfl) bc_20 ?_
        refine q_callS_i (X := fun z => WG V z o) hE (As := [_, _, _]) (dlX9_see_0.at 22 rfl) mw_X9_within wm_X9_73 rfl rfl rfl rfl (Nat.zero_le _) (Nat.zero_le _) rfl (ok_X9_within hfx) hm (fun v6 h6 hm => ?_)
        refine q_if_ne hE (tgt := 50) (dlX9_see_0.at 23 rfl) (by decide) hm (fun hc7 hm => ?_) (fun hc7 hm => ?_)
        · refine q_bipush hE (dlX9_see_0.at 24 rfl) bc_m2 ?_
          exact q_iret (X := fun z => WG V z o) hE (dlX9_see_0.at 25 rfl) hm hQ rfl
        · refine q_aload_n hE 0 (dlX9_see_0.at 26 rfl) rfl rfl ?_
          refine q_get hE (dlX9_see_0.at 27 rfl) kc9 wf_X9_12 g0 rfl rfl rfl ?_
          refine q_getN hE (dlX9_see_0.at 28 rfl) kc7 wf_X9_187 g1 rfl rfl rfl ?_
          refine q_iload_n hE 1 (dlX9_see_0.at 29 rfl) rfl rfl ?_
          refine q_iload_n hE 2 (dlX9_see_0.at 30 rfl) rfl rfl ?_
          refine q_iload_n hE 3 (dlX9_see_0.at 31 rfl) rfl rfl ?_
          refine q_callVN_i (X := fun z => WG V z o) hE (As := [_, _, _]) (dlX9_see_0.at 32 rfl) mw_X6_put wm_X9_196 rfl rfl rfl rfl (Nat.zero_le _) (Nat.zero_le _) rfl kc6 g9 rfl (ok_X6_put hfx) hm (fun v8 h8 hm => ?_)
          exact q_iret (X := fun z => WG V z o) hE (dlX9_see_0.at 33 rfl) hm hQ rfl
set_option maxRecDepth 10000 in
theorem ok_X6_cell {V : Ev} {l : Launch} {o : PH} {F : Nat}  (hfx : V.2.2.2.2 = false) {t : Nat} {a1 : Int32} {a2 : Int32} {h : PH} : ∀ (v : Int32) (h' : PH), f_X6_cell F t a1 a2 h = some (v, h') → Ctr l V yX6_cell cX6_cell 3 (some .int) 1 [rf V t, .int a1, .int a2] 143 (WG V h o) 143 (WG V (h') o) (some (.int v)) 0 0 := by
  intro v h' hm
  refine Ctr.intro RX6 (by decide +kernel) rfl rfl rfl ?_
  intro E hE hQ _
  unfold f_X6_cell at hm
  obtain ⟨ht, hm⟩ := g_if hm
  refine q_aload_n hE 0 (dlX6_cell_0.at 0 rfl) rfl rfl ?_
  refine q_get hE (dlX6_cell_0.at 1 rfl) kc6 wf_X6_18 (g_Rows ht) rfl (b_Rows ht) rfl ?_
  refine q_iload_n hE 1 (dlX6_cell_0.at 2 rfl) rfl rfl ?_
  refine q_iconst hE (dlX6_cell_0.at 3 rfl) ic_3 ?_
  refine q_imul hE (dlX6_cell_0.at 4 rfl) ?_
  refine q_iload_n hE 2 (dlX6_cell_0.at 5 rfl) rfl rfl ?_
  refine q_iadd hE (dlX6_cell_0.at 6 rfl) ?_
  refine q_iald hE (dlX6_cell_0.at 7 rfl) (g_Rows_cells ht) (b_Rows_cells ht) hm (fun hm => ?_)
  exact q_iret (X := fun z => WG V z o) hE (dlX6_cell_0.at 8 rfl) hm hQ rfl
