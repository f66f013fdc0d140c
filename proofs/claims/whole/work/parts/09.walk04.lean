theorem ok_X0_run {V : Ev} {l : Launch} {o : PH} {F : Nat} (hfx : V.2.2.2.2 = false) : ∀ (d : Nat) {a1 : Int32} {a2 : Int32} {a3 : Int32} {a4 : Int32} {h : PH} (v : Int32) (h' : PH), f_X0_run F d a1 a2 a3 a4 h = some (v, h') → Ctr l V yX0_run cX0_run 8 (some .int) (2 + d) [rf V 63, .int a1, .int a2, .int a3, .int a4] 143 (WG V h o) 143 (WG V (h') o) (some (.int v)) 0 0 := by
  intro d
  induction d with
  | zero => intro a1 a2 a3 a4 h v h' hm; cases hm
  | succ d ih =>
    intro a1 a2 a3 a4 h v h' hm
    exact okb_X0_run (dd := 2 + d) (Nat.ble_eq.mpr (Nat.le_add_right _ _)) (fun a1 a2 a3 a4 h v h' hm => ih v h' hm) hfx v h' hm
set_option maxRecDepth 10000 in
theorem ok_X0_start {V : Ev} {l : Launch} {o : PH} {F : Nat}  (hfx : V.2.2.2.2 = false) {a1 : Int32} {a2 : Int32} {a3 : Int32} {a4 : Int32} {a5 : Int32} {h : PH} : ∀ (v : Int32) (h' : PH), f_X0_start F a1 a2 a3 a4 a5 h = some (v, h') → Ctr l V yX0_start cX0_start 6 (some .int) 53 [rf V 63, .int a1, .int a2, .int a3, .int a4, .int a5] 143 (WG V h o) 143 (WG V (h') o) (some (.int v)) 0 0 := by
  intro v h' hm
  refine Ctr.intro RX0 (by decide +kernel) rfl rfl rfl ?_
  intro E hE hQ _
  unfold f_X0_start at hm
  refine q_aload_n hE 0 (dlX0_start_0.at 0 rfl) rfl rfl ?_
  refine q_iload_n hE 1 (dlX0_start_0.at 1 rfl) rfl rfl ?_
  refine q_put hE hfx (dlX0_start_0.at 2 rfl) kc0 wf_X0_19 g63 rfl rfl rfl rfl rfl rfl u63_2 ?_
  refine q_lth (X := fun z => WG V z o) hm (fun h1 hm => ?_)
  refine q_aload_n hE 0 (dlX0_start_0.at 3 rfl) rfl rfl ?_
  refine q_iload_n hE 2 (dlX0_start_0.at 4 rfl) rfl rfl ?_
  refine q_put hE hfx (dlX0_start_0.at 5 rfl) kc0 wf_X0_22 g63 rfl rfl rfl rfl rfl rfl u63_3 ?_
  refine q_lth (X := fun z => WG V z o) hm (fun h2 hm => ?_)
  refine q_aload_n hE 0 (dlX0_start_0.at 6 rfl) rfl rfl ?_
  refine q_iload_n hE 3 (dlX0_start_0.at 7 rfl) rfl rfl ?_
  refine q_put hE hfx (dlX0_start_0.at 8 rfl) kc0 wf_X0_25 g63 rfl rfl rfl rfl rfl rfl u63_4 ?_
  refine q_lth (X := fun z => WG V z o) hm (fun h3 hm => ?_)
  refine q_aload_n hE 0 (dlX0_start_0.at 9 rfl) rfl rfl ?_
  refine q_iload_n hE 2 (dlX0_start_0.at 10 rfl) rfl rfl ?_
  refine q_iload hE 4 (dlX0_start_0.at 11 rfl) rfl ?_
  refine q_iload hE 5 (dlX0_start_0.at 12 rfl) rfl ?_
  refine q_iconst hE (dlX0_start_0.at 13 rfl) ic_0 ?_
  refine q_callV_i (X := fun z => WG V z o) hE (As := [_, _, _, _]) (dlX0_start_0.at 14 rfl) mw_X0_run wm_X0_28 rfl rfl rfl rfl (Nat.zero_le _) (Nat.zero_le _) rfl kc0 g63 rfl (ok_X0_run hfx 50) hm (fun v4 h4 hm => ?_)
  exact q_iret (X := fun z => WG V z o) hE (dlX0_start_0.at 15 rfl) hm hQ rfl
set_option maxRecDepth 10000 in
theorem ok_X9_act {V : Ev} {l : Launch} {o : PH} {F : Nat}  (hfx : V.2.2.2.2 = false) {a1 : Int32} {a2 : Int32} {a3 : Int32} {h : PH} : ∀ (v : Int32) (h' : PH), f_X9_act F a1 a2 a3 h = some (v, h') → Ctr l V yX9_act cX9_act 4 (some .int) 54 [rf V 0, .int a1, .int a2, .int a3] 143 (WG V h o) 143 (WG V (h') o) (some (.int v)) 0 0 := by
  intro v h' hm
  refine Ctr.intro RX9 (by decide +kernel) rfl rfl rfl ?_
  intro E hE hQ _
  unfold f_X9_act at hm
  refine q_aload_n hE 0 (dlX9_act_0.at 0 rfl) rfl rfl ?_
  refine q_get hE (dlX9_act_0.at 1 rfl) kc9 wf_X9_61 g0 rfl rfl rfl ?_
  refine q_iconst hE (dlX9_act_0.at 2 rfl) ic_0 ?_
  refine q_putN hE hfx (dlX9_act_0.at 3 rfl) kc0 wf_X9_251 g63 rfl rfl rfl rfl rfl rfl u63_1 ?_
  refine q_lth (X := fun z => WG V z o) hm (fun h1 hm => ?_)
  refine q_aload_n hE 0 (dlX9_act_0.at 4 rfl) rfl rfl ?_
  refine q_iload_n hE 1 (dlX9_act_0.at 5 rfl) rfl rfl ?_
  refine q_callV_i (X := fun z => WG V z o) hE (As := [_]) (dlX9_act_0.at 6 rfl) mw_X9_isClock wm_X9_93 rfl rfl rfl rfl (Nat.zero_le _) (Nat.zero_le _) rfl kc9 g0 rfl (ok_X9_isClock hfx) hm (fun v2 h2 hm => ?_)
  refine q_if_eq hE (tgt := 25) (dlX9_act_0.at 7 rfl) (by decide) hm (fun hc3 hm => ?_) (fun hc3 hm => ?_)
  · refine q_iconst hE (dlX9_act_0.at 13 rfl) ic_0 ?_
    exact q_iret (X := fun z => WG V z o) hE (dlX9_act_0.at 14 rfl) hm hQ rfl
  · refine q_iload_n hE 2 (dlX9_act_0.at 8 rfl) rfl rfl ?_
    refine q_iconst hE (dlX9_act_0.at 9 rfl) ic_0 ?_
    refine q_iconst hE (dlX9_act_0.at 10 rfl) ic_2 ?_
    refine q_callS_i (X := fun z => WG V z o) hE (As := [_, _, _]) (dlX9_act_0.at 11 rfl) mw_X9_within wm_X9_73 rfl rfl rfl rfl (Nat.zero_le _) (Nat.zero_le _) rfl (ok_X9_within hfx) hm (fun v4 h4 hm => ?_)
    refine q_if_ne hE (tgt := 27) (dlX9_act_0.at 12 rfl) (by decide) hm (fun hc5 hm => ?_) (fun hc5 hm => ?_)
    · refine q_iconst hE (dlX9_act_0.at 13 rfl) ic_0 ?_
      exact q_iret (X := fun z => WG V z o) hE (dlX9_act_0.at 14 rfl) hm hQ rfl
    · refine q_aload_n hE 0 (dlX9_act_0.at 15 rfl) rfl rfl ?_
      refine q_get hE (dlX9_act_0.at 16 rfl) kc9 wf_X9_61 g0 rfl rfl rfl ?_
      refine q_iload_n hE 1 (dlX9_act_0.at 17 rfl) rfl rfl ?_
      refine q_aload_n hE 0 (dlX9_act_0.at 18 rfl) rfl rfl ?_
      refine q_get hE (dlX9_act_0.at 19 rfl) kc9 wf_X9_12 g0 rfl rfl rfl ?_
      refine q_getN hE (dlX9_act_0.at 20 rfl) kc7 wf_X9_97 g1 rfl rfl rfl ?_
      refine q_iload_n hE 1 (dlX9_act_0.at 21 rfl) rfl rfl ?_
      refine q_iald hE (dlX9_act_0.at 22 rfl) g2 rfl hm (fun hm => ?_)
      refine q_aload_n hE 0 (dlX9_act_0.at 23 rfl) rfl rfl ?_
      refine q_get hE (dlX9_act_0.at 24 rfl) kc9 wf_X9_12 g0 rfl rfl rfl ?_
      refine q_getN hE (dlX9_act_0.at 25 rfl) kc7 wf_X9_101 g1 rfl rfl rfl ?_
      refine q_iload_n hE 1 (dlX9_act_0.at 26 rfl) rfl rfl ?_
      refine q_iald hE (dlX9_act_0.at 27 rfl) g3 rfl hm (fun hm => ?_)
      refine q_iload_n hE 2 (dlX9_act_0.at 28 rfl) rfl rfl ?_
      refine q_iload_n hE 3 (dlX9_act_0.at 29 rfl) rfl rfl ?_
      refine q_callVN_i (X := fun z => WG V z o) hE (As := [_, _, _, _, _]) (dlX9_act_0.at 30 rfl) mw_X0_start wm_X9_254 rfl rfl rfl rfl (Nat.zero_le _) (Nat.zero_le _) rfl kc0 g63 rfl (ok_X0_start hfx) hm (fun v6 h6 hm => ?_)
      exact q_iret (X := fun z => WG V z o) hE (dlX9_act_0.at 31 rfl) hm hQ rfl
set_option maxRecDepth 10000 in
theorem ok_X9_trace {V : Ev} {l : Launch} {o : PH} {F : Nat}  (hfx : V.2.2.2.2 = false) {a1 : Int32} {h : PH} : ∀ (v : Int32) (h' : PH), f_X9_trace F a1 h = some (v, h') → Ctr l V yX9_trace cX9_trace 2 (some .int) 2 [rf V 0, .int a1] 143 (WG V h o) 143 (WG V (h') o) (some (.int v)) 0 0 := by
  intro v h' hm
  refine Ctr.intro RX9 (by decide +kernel) rfl rfl rfl ?_
  intro E hE hQ _
  unfold f_X9_trace at hm
  refine q_iload_n hE 1 (dlX9_trace_0.at 0 rfl) rfl rfl ?_
  refine q_iconst hE (dlX9_trace_0.at 1 rfl) ic_0 ?_
  refine q_aload_n hE 0 (dlX9_trace_0.at 2 rfl) rfl rfl ?_
  refine q_get hE (dlX9_trace_0.at 3 rfl) kc9 wf_X9_61 g0 rfl rfl rfl ?_
  refine q_getN hE (dlX9_trace_0.at 4 rfl) kc0 wf_X9_251 g63 rfl rfl rfl ?_
  refine q_bipush hE (dlX9_trace_0.at 5 rfl) bc_20 ?_
  refine q_mmin hE (dlX9_trace_0.at 6 rfl) wm_X9_258 w_mmin rfl rfl (Nat.zero_le _) (Nat.zero_le _) ?_
  refine q_iconst hE (dlX9_trace_0.at 7 rfl) ic_1 ?_
  refine q_isub hE (dlX9_trace_0.at 8 rfl) ?_
  refine q_callS_i (X := fun z => WG V z o) hE (As := [_, _, _]) (dlX9_trace_0.at 9 rfl) mw_X9_within wm_X9_73 rfl rfl rfl rfl (Nat.zero_le _) (Nat.zero_le _) rfl (ok_X9_within hfx) hm (fun v1 h1 hm => ?_)
  refine q_if_eq hE (tgt := 34) (dlX9_trace_0.at 10 rfl) (by decide) hm (fun hc2 hm => ?_) (fun hc2 hm => ?_)
  · refine q_iconst hE (dlX9_trace_0.at 17 rfl) ic_m1 ?_
    exact q_iret (X := fun z => WG V z o) hE (dlX9_trace_0.at 18 rfl) hm hQ rfl
  · refine q_aload_n hE 0 (dlX9_trace_0.at 11 rfl) rfl rfl ?_
    refine q_get hE (dlX9_trace_0.at 12 rfl) kc9 wf_X9_61 g0 rfl rfl rfl ?_
    refine q_getN hE (dlX9_trace_0.at 13 rfl) kc0 wf_X9_263 g63 rfl rfl rfl ?_
    refine q_iload_n hE 1 (dlX9_trace_0.at 14 rfl) rfl rfl ?_
    refine q_iald hE (dlX9_trace_0.at 15 rfl) g64 rfl hm (fun hm => ?_)
    refine q_goto hE (tgt := 35) (dlX9_trace_0.at 16 rfl) (by decide) ?_
    exact q_iret (X := fun z => WG V z o) hE (dlX9_trace_0.at 18 rfl) hm hQ rfl
set_option maxRecDepth 10000 in
theorem okL_X9_isUnder_4 {V : Ev} {l : Launch} {o : PH} {F : Nat}  (hfx : V.2.2.2.2 = false) {E : Cx} (hE : CX E V l cX9_isUnder RX9 4 1 0 0 (some .boolean)) {r : Int32 × PH} (hQ : RQ E V 143 (WG V r.2 o) (some (.int r.1)) 0 0) : ∀ (n : Nat) (x1 : Int32) (x2 : Int32) (x3 : Int32) (h : PH), fL_X9_isUnder_4 F n x1 x2 x3 h = some r → PW E V 0 0 143 (WG V h o) 4 [(1, .int x1), (2, .int x2), (3, .int x3)] [] := by
  intro n
  induction n with
  | zero => intro x1 x2 x3 h hm; cases hm
  | succ n ih =>
    intro x1 x2 x3 h hm
    rw [fL_X9_isUnder_4] at hm
    refine q_iload_n hE 2 (dlX9_isUnder_0.at 4 rfl) rfl rfl ?_
    refine q_bipush hE (dlX9_isUnder_0.at 5 rfl) bc_7 ?_
    refine q_icmp_ge hE (tgt := 33) (dlX9_isUnder_0.at 6 rfl) (by decide) hm (fun hc1 hm => ?_) (fun hc1 hm => ?_)
    · refine q_iconst hE (dlX9_isUnder_0.at 20 rfl) ic_0 ?_
      exact q_bret (X := fun z => WG V z o) hE (dlX9_isUnder_0.at 21 rfl) hm hQ rfl (by decide)
    · refine q_iload_n hE 1 (dlX9_isUnder_0.at 7 rfl) rfl rfl ?_
      refine q_if_lt hE (tgt := 33) (dlX9_isUnder_0.at 8 rfl) (by decide) hm (fun hc2 hm => ?_) (fun hc2 hm => ?_)
      · refine q_iconst hE (dlX9_isUnder_0.at 20 rfl) ic_0 ?_
        exact q_bret (X := fun z => WG V z o) hE (dlX9_isUnder_0.at 21 rfl) hm hQ rfl (by decide)
      · refine q_iload_n hE 1 (dlX9_isUnder_0.at 9 rfl) rfl rfl ?_
        refine q_iload_n hE 0 (dlX9_isUnder_0.at 10 rfl) rfl rfl ?_
        refine q_icmp_ne hE (tgt := 21) (dlX9_isUnder_0.at 11 rfl) (by decide) hm (fun hc3 hm => ?_) (fun hc3 hm => ?_)
        · refine q_iconst hE (dlX9_isUnder_0.at 12 rfl) ic_1 ?_
          exact q_bret (X := fun z => WG V z o) hE (dlX9_isUnder_0.at 13 rfl) hm hQ rfl (by decide)
        · refine q_gs_above hE (dlX9_isUnder_0.at 14 rfl) wf_X9_287 ?_
          refine q_iload_n hE 1 (dlX9_isUnder_0.at 15 rfl) rfl rfl ?_
          refine q_ld_above hE (dlX9_isUnder_0.at 16 rfl) hm (fun hm => ?_)
          refine q_istore_n hE [(1, _), (2, _), (3, _)] (dlX9_isUnder_0.at 17 rfl) rfl rfl rfl ?_
          refine q_iinc hE [(1, _), (2, _), (3, _)] 2 (dlX9_isUnder_0.at 18 rfl) rfl ic_1 rfl rfl ?_
          refine q_goto hE (tgt := 4) (dlX9_isUnder_0.at 19 rfl) (by decide) ?_
          refine q_sub hE [0, 1, 2] rfl ?_
          exact ih _ _ _ _  hm
set_option maxRecDepth 10000 in
theorem ok_X9_isUnder {V : Ev} {l : Launch} {o : PH} {F : Nat}  (hfx : V.2.2.2.2 = false) {a0 : Int32} {a1 : Int32} {h : PH} : ∀ (v : Int32) (h' : PH), f_X9_isUnder F a0 a1 h = some (v, h') → Ctr l V yX9_isUnder cX9_isUnder 4 (some .boolean) 1 [.int a0, .int a1] 143 (WG V h o) 143 (WG V (h') o) (some (.int v)) 0 0 := by
  intro v h' hm
  refine Ctr.intro RX9 (by decide +kernel) rfl rfl rfl ?_
  intro E hE hQ _
  unfold f_X9_isUnder at hm
  refine q_iload_n hE 0 (dlX9_isUnder_0.at 0 rfl) rfl rfl ?_
  refine q_istore_n hE [(0, _), (1, _), (2, _)] (dlX9_isUnder_0.at 1 rfl) rfl rfl rfl ?_
  refine q_iconst hE (dlX9_isUnder_0.at 2 rfl) ic_0 ?_
  refine q_istore_n hE [(0, _), (1, _), (2, _), (3, _)] (dlX9_isUnder_0.at 3 rfl) rfl rfl rfl ?_
  refine q_sub hE [1, 2, 3] rfl ?_
  exact okL_X9_isUnder_4 hfx hE hQ  F _ _ _ _  hm
set_option maxRecDepth 10000 in
theorem ok_X9_taken {V : Ev} {l : Launch} {o : PH} {F : Nat}  (hfx : V.2.2.2.2 = false) {a1 : Int32} {a2 : Int32} {h : PH} : ∀ (v : Int32) (h' : PH), f_X9_taken F a1 a2 h = some (v, h') → Ctr l V yX9_taken cX9_taken 4 (some .int) 2 [rf V 0, .int a1, .int a2] 143 (WG V h o) 143 (WG V (h') o) (some (.int v)) 0 0 := by
  intro v h' hm
  refine Ctr.intro RX9 (by decide +kernel) rfl rfl rfl ?_
  intro E hE hQ _
  unfold f_X9_taken at hm
  refine q_iload_n hE 2 (dlX9_taken_0.at 0 rfl) rfl rfl ?_
  refine q_iconst hE (dlX9_taken_0.at 1 rfl) ic_0 ?_
  refine q_bipush hE (dlX9_taken_0.at 2 rfl) bc_6 ?_
  refine q_callS_i (X := fun z => WG V z o) hE (As := [_, _, _]) (dlX9_taken_0.at 3 rfl) mw_X9_within wm_X9_73 rfl rfl rfl rfl (Nat.zero_le _) (Nat.zero_le _) rfl (ok_X9_within hfx) hm (fun v1 h1 hm => ?_)
  refine q_if_ne hE (tgt := 13) (dlX9_taken_0.at 4 rfl) (by decide) hm (fun hc2 hm => ?_) (fun hc2 hm => ?_)
  · refine q_bipush hE (dlX9_taken_0.at 5 rfl) bc_m2 ?_
    exact q_iret (X := fun z => WG V z o) hE (dlX9_taken_0.at 6 rfl) hm hQ rfl
  · refine q_aload_n hE 0 (dlX9_taken_0.at 7 rfl) rfl rfl ?_
    refine q_iload_n hE 1 (dlX9_taken_0.at 8 rfl) rfl rfl ?_
    refine q_callV_i (X := fun z => WG V z o) hE (As := [_]) (dlX9_taken_0.at 9 rfl) mw_X9_isClock wm_X9_93 rfl rfl rfl rfl (Nat.zero_le _) (Nat.zero_le _) rfl kc9 g0 rfl (ok_X9_isClock hfx) hm (fun v3 h3 hm => ?_)
    refine q_if_ne hE (tgt := 24) (dlX9_taken_0.at 10 rfl) (by decide) hm (fun hc4 hm => ?_) (fun hc4 hm => ?_)
    · refine q_bipush hE (dlX9_taken_0.at 11 rfl) bc_m11 ?_
      exact q_iret (X := fun z => WG V z o) hE (dlX9_taken_0.at 12 rfl) hm hQ rfl
    · refine q_aload_n hE 0 (dlX9_taken_0.at 13 rfl) rfl rfl ?_
      refine q_get hE (dlX9_taken_0.at 14 rfl) kc9 wf_X9_12 g0 rfl rfl rfl ?_
      refine q_getN hE (dlX9_taken_0.at 15 rfl) kc7 wf_X9_97 g1 rfl rfl rfl ?_
      refine q_iload_n hE 1 (dlX9_taken_0.at 16 rfl) rfl rfl ?_
      refine q_iald hE (dlX9_taken_0.at 17 rfl) g2 rfl hm (fun hm => ?_)
      refine q_istore_n hE [(0, _), (1, _), (2, _), (3, _)] (dlX9_taken_0.at 18 rfl) rfl rfl rfl ?_
      refine q_iload_n hE 3 (dlX9_taken_0.at 19 rfl) rfl rfl ?_
      refine q_iload_n hE 2 (dlX9_taken_0.at 20 rfl) rfl rfl ?_
      refine q_callS_i (X := fun z => WG V z o) hE (As := [_, _]) (dlX9_taken_0.at 21 rfl) mw_X9_isUnder wm_X9_266 rfl rfl rfl rfl (Nat.zero_le _) (Nat.zero_le _) rfl (ok_X9_isUnder hfx) hm (fun v5 h5 hm => ?_)
      refine q_if_eq hE (tgt := 46) (dlX9_taken_0.at 22 rfl) (by decide) hm (fun hc6 hm => ?_) (fun hc6 hm => ?_)
      · refine q_bipush hE (dlX9_taken_0.at 25 rfl) bc_m12 ?_
        exact q_iret (X := fun z => WG V z o) hE (dlX9_taken_0.at 26 rfl) hm hQ rfl
      · refine q_iload_n hE 3 (dlX9_taken_0.at 23 rfl) rfl rfl ?_
        refine q_goto hE (tgt := 48) (dlX9_taken_0.at 24 rfl) (by decide) ?_
        exact q_iret (X := fun z => WG V z o) hE (dlX9_taken_0.at 26 rfl) hm hQ rfl
set_option maxRecDepth 10000 in
theorem ok_X9_count {V : Ev} {l : Launch} {o : PH} {F : Nat}  (hfx : V.2.2.2.2 = false) {a1 : Int32} {h : PH} : ∀ (v : Int32) (h' : PH), f_X9_count F a1 h = some (v, h') → Ctr l V yX9_count cX9_count 2 (some .int) 1 [rf V 0, .int a1] 143 (WG V h o) 143 (WG V (h') o) (some (.int v)) 0 0 := by
  intro v h' hm
  refine Ctr.intro RX9 (by decide +kernel) rfl rfl rfl ?_
  intro E hE hQ _
  unfold f_X9_count at hm
  refine q_iload_n hE 1 (dlX9_count_0.at 0 rfl) rfl rfl ?_
  refine q_tcase hE (dlX9_count_0.at 1 rfl) (0 : Int32) 44 (by decide) hm (fun _ hm => ?_) (fun hn1_0 hm => ?_)
  · refine q_aload_n hE 0 (dlX9_count_0.at 2 rfl) rfl rfl ?_
    refine q_get hE (dlX9_count_0.at 3 rfl) kc9 wf_X9_12 g0 rfl rfl rfl ?_
    refine q_getN hE (dlX9_count_0.at 4 rfl) kc7 wf_X9_86 g1 rfl rfl rfl ?_
    exact q_iret (X := fun z => WG V z o) hE (dlX9_count_0.at 5 rfl) hm hQ rfl
  · refine q_tcase hE (dlX9_count_0.at 1 rfl) (1 : Int32) 52 (by decide) hm (fun _ hm => ?_) (fun hn1_1 hm => ?_)
    · refine q_aload_n hE 0 (dlX9_count_0.at 6 rfl) rfl rfl ?_
      refine q_get hE (dlX9_count_0.at 7 rfl) kc9 wf_X9_38 g0 rfl rfl rfl ?_
      exact q_iret (X := fun z => WG V z o) hE (dlX9_count_0.at 8 rfl) hm hQ rfl
    · refine q_tcase hE (dlX9_count_0.at 1 rfl) (2 : Int32) 57 (by decide) hm (fun _ hm => ?_) (fun hn1_2 hm => ?_)
      · refine q_aload_n hE 0 (dlX9_count_0.at 9 rfl) rfl rfl ?_
        refine q_get hE (dlX9_count_0.at 10 rfl) kc9 wf_X9_12 g0 rfl rfl rfl ?_
        refine q_getN hE (dlX9_count_0.at 11 rfl) kc7 wf_X9_187 g1 rfl rfl rfl ?_
        refine q_getN hE (dlX9_count_0.at 12 rfl) kc6 wf_X9_229 g9 rfl rfl rfl ?_
        exact q_iret (X := fun z => WG V z o) hE (dlX9_count_0.at 13 rfl) hm hQ rfl
      · refine q_tcase hE (dlX9_count_0.at 1 rfl) (3 : Int32) 68 (by decide) hm (fun _ hm => ?_) (fun hn1_3 hm => ?_)
        · refine q_aload_n hE 0 (dlX9_count_0.at 14 rfl) rfl rfl ?_
          refine q_get hE (dlX9_count_0.at 15 rfl) kc9 wf_X9_12 g0 rfl rfl rfl ?_
          refine q_getN hE (dlX9_count_0.at 16 rfl) kc7 wf_X9_220 g1 rfl rfl rfl ?_
          refine q_getN hE (dlX9_count_0.at 17 rfl) kc6 wf_X9_229 g11 rfl rfl rfl ?_
          exact q_iret (X := fun z => WG V z o) hE (dlX9_count_0.at 18 rfl) hm hQ rfl
        · refine q_tcase hE (dlX9_count_0.at 1 rfl) (4 : Int32) 79 (by decide) hm (fun _ hm => ?_) (fun hn1_4 hm => ?_)
          · refine q_aload_n hE 0 (dlX9_count_0.at 19 rfl) rfl rfl ?_
            refine q_get hE (dlX9_count_0.at 20 rfl) kc9 wf_X9_12 g0 rfl rfl rfl ?_
            refine q_getN hE (dlX9_count_0.at 21 rfl) kc7 wf_X9_226 g1 rfl rfl rfl ?_
            refine q_getN hE (dlX9_count_0.at 22 rfl) kc6 wf_X9_229 g13 rfl rfl rfl ?_
            exact q_iret (X := fun z => WG V z o) hE (dlX9_count_0.at 23 rfl) hm hQ rfl
          · refine q_tcase hE (dlX9_count_0.at 1 rfl) (5 : Int32) 90 (by decide) hm (fun _ hm => ?_) (fun hn1_5 hm => ?_)
            · refine q_aload_n hE 0 (dlX9_count_0.at 24 rfl) rfl rfl ?_
              refine q_get hE (dlX9_count_0.at 25 rfl) kc9 wf_X9_28 g0 rfl rfl rfl ?_
              refine q_getN hE (dlX9_count_0.at 26 rfl) kc5 wf_X9_136 g31 rfl rfl rfl ?_
              exact q_iret (X := fun z => WG V z o) hE (dlX9_count_0.at 27 rfl) hm hQ rfl
            · refine q_tcase hE (dlX9_count_0.at 1 rfl) (6 : Int32) 98 (by decide) hm (fun _ hm => ?_) (fun hn1_6 hm => ?_)
              · refine q_aload_n hE 0 (dlX9_count_0.at 28 rfl) rfl rfl ?_
                refine q_get hE (dlX9_count_0.at 29 rfl) kc9 wf_X9_61 g0 rfl rfl rfl ?_
                refine q_getN hE (dlX9_count_0.at 30 rfl) kc0 wf_X9_251 g63 rfl rfl rfl ?_
                exact q_iret (X := fun z => WG V z o) hE (dlX9_count_0.at 31 rfl) hm hQ rfl
              · refine q_tdef hE (tgt := 106) (dlX9_count_0.at 1 rfl) (by have := lv_neT (a := 0) hn1_0 (by decide); have := lv_neT (a := 1) hn1_1 (by decide); have := lv_neT (a := 2) hn1_2 (by decide); have := lv_neT (a := 3) hn1_3 (by decide); have := lv_neT (a := 4) hn1_4 (by decide); have := lv_neT (a := 5) hn1_5 (by decide); have := lv_neT (a := 6) hn1_6 (by decide); omega) (by decide) ?_
                refine q_bipush hE (dlX9_count_0.at 32 rfl) bc_m2 ?_
                exact q_iret (X := fun z => WG V z o) hE (dlX9_count_0.at 33 rfl) hm hQ rfl
set_option maxRecDepth 10000 in
theorem okL_J7_fill_d0a16_6 {V : Ev} {l : Launch} {o : PH} {F : Nat}  (hfx : V.2.2.2.2 = false) {E : Cx} (hE : CX E V l cJ7_fill_d0a16 RJ7 5 1 0 0 none) {r : Unit × PH} (hQ : RQ E V 143 (WG V r.2 o) (none) 0 0) : ∀ (n : Nat) (x0 : Nat) (x1 : Int64) (x3 : Int32) (x4 : Int32) (h : PH), isTape x0 = true → fL_J7_fill_d0a16_6 F n x0 x1 x3 x4 h = some r → PW E V 0 0 143 (WG V h o) 6 [(0, rf V (x0 + 1)), (1, .long x1), (3, .int x3), (4, .int x4)] [] := by
  intro n
  induction n with
  | zero => intro x0 x1 x3 x4 h hx0 hm; cases hm
  | succ n ih =>
    intro x0 x1 x3 x4 h hx0 hm
    rw [fL_J7_fill_d0a16_6] at hm
    refine q_iload_n hE 2 (dlJ7_fill_d0a16_0.at 5 rfl) rfl rfl ?_
    refine q_iload hE 3 (dlJ7_fill_d0a16_0.at 6 rfl) rfl ?_
    refine q_icmp_ge hE (tgt := 22) (dlJ7_fill_d0a16_0.at 7 rfl) (by decide) hm (fun hc1 hm => ?_) (fun hc1 hm => ?_)
    · exact q_vret (X := fun z => WG V z o) hE (dlJ7_fill_d0a16_0.at 14 rfl) hm hQ rfl
    · refine q_aload_n hE 0 (dlJ7_fill_d0a16_0.at 8 rfl) rfl rfl ?_
      refine q_iload_n hE 2 (dlJ7_fill_d0a16_0.at 9 rfl) rfl rfl ?_
      refine q_lload_n hE 1 (dlJ7_fill_d0a16_0.at 10 rfl) rfl rfl ?_
      refine q_last hE hfx (dlJ7_fill_d0a16_0.at 11 rfl) (g_Tape_items hx0) (b_Tape_items hx0) (u_Tape_items hx0) hm (fun hm => ?_)
      refine q_lth (X := fun z => WG V z o) hm (fun h2 hm => ?_)
      refine q_iinc hE [(0, _), (1, _), (3, _), (4, _)] 2 (dlJ7_fill_d0a16_0.at 12 rfl) rfl ic_1 rfl rfl ?_
      refine q_goto hE (tgt := 6) (dlJ7_fill_d0a16_0.at 13 rfl) (by decide) ?_
      refine q_sub hE [0, 1, 2, 3] rfl ?_
      exact ih _ _ _ _ _ hx0 hm
set_option maxRecDepth 10000 in
theorem ok_J7_fill_d0a16 {V : Ev} {l : Launch} {o : PH} {F : Nat}  (hfx : V.2.2.2.2 = false) {a0 : Nat} {a1 : Int64} {h : PH} : ∀ (v : Unit) (h' : PH), f_J7_fill_d0a16 F a0 a1 h = some (v, h') → Ctr l V yJ7_fill_d0a16 cJ7_fill_d0a16 5 none 1 [rf V (a0 + 1), .long a1] 143 (WG V h o) 143 (WG V (h') o) (none) 0 0 := by
  intro v h' hm
  refine Ctr.intro RJ7 (by decide +kernel) rfl rfl rfl ?_
  intro E hE hQ _
  unfold f_J7_fill_d0a16 at hm
  obtain ⟨hp0, hm⟩ := g_if hm
  refine q_iconst hE (dlJ7_fill_d0a16_0.at 0 rfl) ic_0 ?_
  refine q_istore_n hE [(0, _), (1, _), (3, _)] (dlJ7_fill_d0a16_0.at 1 rfl) rfl rfl rfl ?_
  refine q_aload_n hE 0 (dlJ7_fill_d0a16_0.at 2 rfl) rfl rfl ?_
  refine q_alen hE 2 (dlJ7_fill_d0a16_0.at 3 rfl) (g_Tape_items hp0) rfl nc_60 (b_Tape_items hp0) ?_
  refine q_istore hE [(0, _), (1, _), (3, _), (4, _)] (dlJ7_fill_d0a16_0.at 4 rfl) rfl rfl ?_
  refine q_sub hE [0, 1, 2, 3] rfl ?_
  exact okL_J7_fill_d0a16_6 hfx hE hQ  F _ _ _ _ _ hp0 hm
set_option maxRecDepth 10000 in
theorem ok_X8_become {V : Ev} {l : Launch} {o : PH} {F : Nat}  (hfx : V.2.2.2.2 = false) {t : Nat} {a1 : Int32} {a2 : Int32} {h : PH} : ∀ (v : Unit) (h' : PH), f_X8_become F t a1 a2 h = some (v, h') → Ctr l V yX8_become cX8_become 3 none 2 [rf V t, .int a1, .int a2] 143 (WG V h o) 143 (WG V (h') o) (none) 0 0 := by
  intro v h' hm
  refine Ctr.intro RX8 (by decide +kernel) rfl rfl rfl ?_
  intro E hE hQ _
  unfold f_X8_become at hm
  obtain ⟨ht, hm⟩ := g_if hm
  refine q_aload_n hE 0 (dlX8_become_0.at 0 rfl) rfl rfl ?_
  refine q_iload_n hE 1 (dlX8_become_0.at 1 rfl) rfl rfl ?_
  refine q_put hE hfx (dlX8_become_0.at 2 rfl) kc8 wf_X8_9 (g_Tape ht) rfl rfl rfl rfl (b_Tape ht) rfl (u_Tape_0 ht) ?_
  refine q_lth (X := fun z => WG V z o) hm (fun h1 hm => ?_)
  refine q_aload_n hE 0 (dlX8_become_0.at 3 rfl) rfl rfl ?_
  refine q_iload_n hE 2 (dlX8_become_0.at 4 rfl) rfl rfl ?_
  refine q_put hE hfx (dlX8_become_0.at 5 rfl) kc8 wf_X8_13 (g_Tape ht) rfl rfl rfl rfl (b_Tape ht) rfl (u_Tape_1 ht) ?_
  refine q_lth (X := fun z => WG V z o) hm (fun h2 hm => ?_)
  refine q_aload_n hE 0 (dlX8_become_0.at 6 rfl) rfl rfl ?_
  refine q_get hE (dlX8_become_0.at 7 rfl) kc8 wf_X8_16 (g_Tape ht) rfl (b_Tape ht) rfl ?_
  refine q_lconst hE (dlX8_become_0.at 8 rfl) lc_0 ?_
  refine q_callS_v (X := fun z => WG V z o) hE (As := [_, _]) (dlX8_become_0.at 9 rfl) mw_J7_fill_d0a16 wm_X8_20 rfl rfl rfl rfl (Nat.zero_le _) (Nat.zero_le _) rfl (ok_J7_fill_d0a16 hfx) hm (fun v3 h3 hm => ?_)
  exact q_vret (X := fun z => WG V z o) hE (dlX8_become_0.at 10 rfl) hm hQ rfl
set_option maxRecDepth 10000 in
theorem ok_X9_tape {V : Ev} {l : Launch} {o : PH} {F : Nat}  (hfx : V.2.2.2.2 = false) {a1 : Int32} {a2 : Int32} {a3 : Int32} {h : PH} : ∀ (v : Int32) (h' : PH), f_X9_tape F a1 a2 a3 h = some (v, h') → Ctr l V yX9_tape cX9_tape 4 (some .int) 3 [rf V 0, .int a1, .int a2, .int a3] 143 (WG V h o) 143 (WG V (h') o) (some (.int v)) 0 0 := by
  intro v h' hm
  refine Ctr.intro RX9 (by decide +kernel) rfl rfl rfl ?_
  intro E hE hQ _
  unfold f_X9_tape at hm
  refine q_iload_n hE 1 (dlX9_tape_0.at 0 rfl) rfl rfl ?_
  refine q_callS_i (X := fun z => WG V z o) hE (As := [_]) (dlX9_tape_0.at 1 rfl) mw_X9_isTape wm_X9_235 rfl rfl rfl rfl (Nat.zero_le _) (Nat.zero_le _) rfl (ok_X9_isTape hfx) hm (fun v1 h1 hm => ?_)
  refine q_if_ne hE (tgt := 9) (dlX9_tape_0.at 2 rfl) (by decide) hm (fun hc2 hm => ?_) (fun hc2 hm => ?_)
  · refine q_iconst hE (dlX9_tape_0.at 3 rfl) ic_m1 ?_
    exact q_iret (X := fun z => WG V z o) hE (dlX9_tape_0.at 4 rfl) hm hQ rfl
  · refine q_iload_n hE 2 (dlX9_tape_0.at 5 rfl) rfl rfl ?_
    refine q_iconst hE (dlX9_tape_0.at 6 rfl) ic_m1 ?_
    refine q_icmp_ne hE (tgt := 27) (dlX9_tape_0.at 7 rfl) (by decide) hm (fun hc3 hm => ?_) (fun hc3 hm => ?_)
    · refine q_aload_n hE 0 (dlX9_tape_0.at 8 rfl) rfl rfl ?_
      refine q_get hE (dlX9_tape_0.at 9 rfl) kc9 wf_X9_67 g0 rfl rfl rfl ?_
      refine q_iload_n hE 1 (dlX9_tape_0.at 10 rfl) rfl rfl ?_
      refine q_aald hE 6 (dlX9_tape_0.at 11 rfl) g65 rfl (fun _ => rfl) rfl hm (fun hi10 hm => ?_)
      refine q_iload_n hE 2 (dlX9_tape_0.at 12 rfl) rfl rfl ?_
      refine q_iconst hE (dlX9_tape_0.at 13 rfl) ic_0 ?_
      refine q_callVN_v (X := fun z => WG V z o) hE (As := [_, _]) (dlX9_tape_0.at 14 rfl) mw_X8_become wm_X9_270 rfl rfl rfl rfl (Nat.zero_le _) (Nat.zero_le _) rfl kc8 (g_Tape (ra_Tape hi10)) (b_Tape (ra_Tape hi10)) (ok_X8_become hfx) hm (fun v11 h11 hm => ?_)
      refine q_iconst hE (dlX9_tape_0.at 15 rfl) ic_1 ?_
      exact q_iret (X := fun z => WG V z o) hE (dlX9_tape_0.at 16 rfl) hm hQ rfl
    · refine q_iload_n hE 2 (dlX9_tape_0.at 17 rfl) rfl rfl ?_
      refine q_iconst hE (dlX9_tape_0.at 18 rfl) ic_0 ?_
      refine q_iconst hE (dlX9_tape_0.at 19 rfl) ic_4 ?_
      refine q_callS_i (X := fun z => WG V z o) hE (As := [_, _, _]) (dlX9_tape_0.at 20 rfl) mw_X9_within wm_X9_73 rfl rfl rfl rfl (Nat.zero_le _) (Nat.zero_le _) rfl (ok_X9_within hfx) hm (fun v4 h4 hm => ?_)
      refine q_if_eq hE (tgt := 42) (dlX9_tape_0.at 21 rfl) (by decide) hm (fun hc5 hm => ?_) (fun hc5 hm => ?_)
      · refine q_bipush hE (dlX9_tape_0.at 25 rfl) bc_m2 ?_
        exact q_iret (X := fun z => WG V z o) hE (dlX9_tape_0.at 26 rfl) hm hQ rfl
      · refine q_iload_n hE 3 (dlX9_tape_0.at 22 rfl) rfl rfl ?_
        refine q_bipush hE (dlX9_tape_0.at 23 rfl) bc_60 ?_
        refine q_icmp_le hE (tgt := 45) (dlX9_tape_0.at 24 rfl) (by decide) hm (fun hc6 hm => ?_) (fun hc6 hm => ?_)
        · refine q_iload_n hE 3 (dlX9_tape_0.at 27 rfl) rfl rfl ?_
          refine q_if_ge hE (tgt := 52) (dlX9_tape_0.at 28 rfl) (by decide) hm (fun hc7 hm => ?_) (fun hc7 hm => ?_)
          · refine q_aload_n hE 0 (dlX9_tape_0.at 31 rfl) rfl rfl ?_
            refine q_get hE (dlX9_tape_0.at 32 rfl) kc9 wf_X9_67 g0 rfl rfl rfl ?_
            refine q_iload_n hE 1 (dlX9_tape_0.at 33 rfl) rfl rfl ?_
            refine q_aald hE 6 (dlX9_tape_0.at 34 rfl) g65 rfl (fun _ => rfl) rfl hm (fun hi8 hm => ?_)
            refine q_iload_n hE 2 (dlX9_tape_0.at 35 rfl) rfl rfl ?_
            refine q_iload_n hE 3 (dlX9_tape_0.at 36 rfl) rfl rfl ?_
            refine q_callVN_v (X := fun z => WG V z o) hE (As := [_, _]) (dlX9_tape_0.at 37 rfl) mw_X8_become wm_X9_270 rfl rfl rfl rfl (Nat.zero_le _) (Nat.zero_le _) rfl kc8 (g_Tape (ra_Tape hi8)) (b_Tape (ra_Tape hi8)) (ok_X8_become hfx) hm (fun v9 h9 hm => ?_)
            refine q_iconst hE (dlX9_tape_0.at 38 rfl) ic_1 ?_
            exact q_iret (X := fun z => WG V z o) hE (dlX9_tape_0.at 39 rfl) hm hQ rfl
          · refine q_bipush hE (dlX9_tape_0.at 29 rfl) bc_m14 ?_
            exact q_iret (X := fun z => WG V z o) hE (dlX9_tape_0.at 30 rfl) hm hQ rfl
        · refine q_bipush hE (dlX9_tape_0.at 25 rfl) bc_m2 ?_
          exact q_iret (X := fun z => WG V z o) hE (dlX9_tape_0.at 26 rfl) hm hQ rfl
set_option maxRecDepth 10000 in
theorem ok_X8_cut {V : Ev} {l : Launch} {o : PH} {F : Nat}  (hfx : V.2.2.2.2 = false) {t : Nat} {a1 : Int64} {h : PH} : ∀ (v : Int64) (h' : PH), f_X8_cut F t a1 h = some (v, h') → Ctr l V yX8_cut cX8_cut 3 (some .long) 1 [rf V t, .long a1] 143 (WG V h o) 143 (WG V (h') o) (some (.long v)) 0 0 := by
  intro v h' hm
  refine Ctr.intro RX8 (by decide +kernel) rfl rfl rfl ?_
  intro E hE hQ _
  unfold f_X8_cut at hm
  obtain ⟨ht, hm⟩ := g_if hm
  refine q_aload_n hE 0 (dlX8_cut_0.at 0 rfl) rfl rfl ?_
  refine q_get hE (dlX8_cut_0.at 1 rfl) kc8 wf_X8_9 (g_Tape ht) rfl (b_Tape ht) rfl ?_
  refine q_tcase hE (dlX8_cut_0.at 2 rfl) (0 : Int32) 40 (by decide) hm (fun _ hm => ?_) (fun hn1_0 hm => ?_)
  · refine q_lload_n hE 1 (dlX8_cut_0.at 3 rfl) rfl rfl ?_
    refine q_l2i hE (dlX8_cut_0.at 4 rfl) ?_
    refine q_i2b hE (dlX8_cut_0.at 5 rfl) ?_
    refine q_i2l hE (dlX8_cut_0.at 6 rfl) ?_
    exact q_lret (X := fun z => WG V z o) hE (dlX8_cut_0.at 7 rfl) hm hQ rfl
  · refine q_tcase hE (dlX8_cut_0.at 2 rfl) (1 : Int32) 45 (by decide) hm (fun _ hm => ?_) (fun hn1_1 hm => ?_)
    · refine q_lload_n hE 1 (dlX8_cut_0.at 8 rfl) rfl rfl ?_
      refine q_l2i hE (dlX8_cut_0.at 9 rfl) ?_
      refine q_i2s hE (dlX8_cut_0.at 10 rfl) ?_
      refine q_i2l hE (dlX8_cut_0.at 11 rfl) ?_
      exact q_lret (X := fun z => WG V z o) hE (dlX8_cut_0.at 12 rfl) hm hQ rfl
    · refine q_tcase hE (dlX8_cut_0.at 2 rfl) (2 : Int32) 50 (by decide) hm (fun _ hm => ?_) (fun hn1_2 hm => ?_)
      · refine q_lload_n hE 1 (dlX8_cut_0.at 13 rfl) rfl rfl ?_
        refine q_l2i hE (dlX8_cut_0.at 14 rfl) ?_
        refine q_i2l hE (dlX8_cut_0.at 15 rfl) ?_
        exact q_lret (X := fun z => WG V z o) hE (dlX8_cut_0.at 16 rfl) hm hQ rfl
      · refine q_tcase hE (dlX8_cut_0.at 2 rfl) (3 : Int32) 66 (by decide) hm (fun _ hm => ?_) (fun hn1_3 hm => ?_)
        · refine q_lload_n hE 1 (dlX8_cut_0.at 25 rfl) rfl rfl ?_
          exact q_lret (X := fun z => WG V z o) hE (dlX8_cut_0.at 26 rfl) hm hQ rfl
        · refine q_tcase hE (dlX8_cut_0.at 2 rfl) (4 : Int32) 54 (by decide) hm (fun _ hm => ?_) (fun hn1_4 hm => ?_)
          · refine q_lload_n hE 1 (dlX8_cut_0.at 17 rfl) rfl rfl ?_
            refine q_lconst hE (dlX8_cut_0.at 18 rfl) lc_0 ?_
            refine q_lcmp hE (dlX8_cut_0.at 19 rfl) ?_
            refine q_if_eq hE (tgt := 64) (dlX8_cut_0.at 20 rfl) (by decide) hm (fun hc2 hm => ?_) (fun hc2 hm => ?_)
            · refine q_lconst hE (dlX8_cut_0.at 23 rfl) lc_0 ?_
              exact q_lret (X := fun z => WG V z o) hE (dlX8_cut_0.at 24 rfl) hm hQ rfl
            · refine q_lconst hE (dlX8_cut_0.at 21 rfl) lc_1 ?_
              refine q_goto hE (tgt := 65) (dlX8_cut_0.at 22 rfl) (by decide) ?_
              exact q_lret (X := fun z => WG V z o) hE (dlX8_cut_0.at 24 rfl) hm hQ rfl
          · refine q_tdef hE (tgt := 66) (dlX8_cut_0.at 2 rfl) (by have := lv_neT (a := 0) hn1_0 (by decide); have := lv_neT (a := 1) hn1_1 (by decide); have := lv_neT (a := 2) hn1_2 (by decide); have := lv_neT (a := 3) hn1_3 (by decide); have := lv_neT (a := 4) hn1_4 (by decide); omega) (by decide) ?_
            refine q_lload_n hE 1 (dlX8_cut_0.at 25 rfl) rfl rfl ?_
            exact q_lret (X := fun z => WG V z o) hE (dlX8_cut_0.at 26 rfl) hm hQ rfl
set_option maxRecDepth 10000 in
theorem ok_X9_item {V : Ev} {l : Launch} {o : PH} {F : Nat}  (hfx : V.2.2.2.2 = false) {a1 : Int32} {a2 : Int32} {a3 : Int64} {h : PH} : ∀ (v : Int32) (h' : PH), f_X9_item F a1 a2 a3 h = some (v, h') → Ctr l V yX9_item cX9_item 5 (some .int) 2 [rf V 0, .int a1, .int a2, .long a3] 143 (WG V h o) 143 (WG V (h') o) (some (.int v)) 0 0 := by
  intro v h' hm
  refine Ctr.intro RX9 (by decide +kernel) rfl rfl rfl ?_
  intro E hE hQ _
  unfold f_X9_item at hm
  refine q_iload_n hE 1 (dlX9_item_0.at 0 rfl) rfl rfl ?_
  refine q_callS_i (X := fun z => WG V z o) hE (As := [_]) (dlX9_item_0.at 1 rfl) mw_X9_isTape wm_X9_235 rfl rfl rfl rfl (Nat.zero_le _) (Nat.zero_le _) rfl (ok_X9_isTape hfx) hm (fun v1 h1 hm => ?_)
  refine q_if_ne hE (tgt := 9) (dlX9_item_0.at 2 rfl) (by decide) hm (fun hc2 hm => ?_) (fun hc2 hm => ?_)
  · refine q_iconst hE (dlX9_item_0.at 3 rfl) ic_m1 ?_
    exact q_iret (X := fun z => WG V z o) hE (dlX9_item_0.at 4 rfl) hm hQ rfl
  · refine q_aload_n hE 0 (dlX9_item_0.at 5 rfl) rfl rfl ?_
    refine q_get hE (dlX9_item_0.at 6 rfl) kc9 wf_X9_67 g0 rfl rfl rfl ?_
    refine q_iload_n hE 1 (dlX9_item_0.at 7 rfl) rfl rfl ?_
    refine q_aald hE 6 (dlX9_item_0.at 8 rfl) g65 rfl (fun _ => rfl) rfl hm (fun hi3 hm => ?_)
    refine q_getN hE (dlX9_item_0.at 9 rfl) kc8 wf_X9_238 (g_Tape (ra_Tape hi3)) rfl (b_Tape (ra_Tape hi3)) rfl ?_
    refine q_iconst hE (dlX9_item_0.at 10 rfl) ic_m1 ?_
    refine q_icmp_ne hE (tgt := 25) (dlX9_item_0.at 11 rfl) (by decide) hm (fun hc4 hm => ?_) (fun hc4 hm => ?_)
    · refine q_bipush hE (dlX9_item_0.at 12 rfl) bc_m11 ?_
      exact q_iret (X := fun z => WG V z o) hE (dlX9_item_0.at 13 rfl) hm hQ rfl
    · refine q_aload_n hE 0 (dlX9_item_0.at 14 rfl) rfl rfl ?_
      refine q_get hE (dlX9_item_0.at 15 rfl) kc9 wf_X9_67 g0 rfl rfl rfl ?_
      refine q_iload_n hE 1 (dlX9_item_0.at 16 rfl) rfl rfl ?_
      refine q_aald hE 6 (dlX9_item_0.at 17 rfl) g65 rfl (fun _ => rfl) rfl hm (fun hi5 hm => ?_)
      refine q_iload_n hE 2 (dlX9_item_0.at 18 rfl) rfl rfl ?_
      refine q_callVN_i (X := fun z => WG V z o) hE (As := [_]) (dlX9_item_0.at 19 rfl) mw_X8_has wm_X9_241 rfl rfl rfl rfl (Nat.zero_le _) (Nat.zero_le _) rfl kc8 (g_Tape (ra_Tape hi5)) (b_Tape (ra_Tape hi5)) (ok_X8_has hfx) hm (fun v6 h6 hm => ?_)
      refine q_if_ne hE (tgt := 41) (dlX9_item_0.at 20 rfl) (by decide) hm (fun hc7 hm => ?_) (fun hc7 hm => ?_)
      · refine q_bipush hE (dlX9_item_0.at 21 rfl) bc_m13 ?_
        exact q_iret (X := fun z => WG V z o) hE (dlX9_item_0.at 22 rfl) hm hQ rfl
      · refine q_aload_n hE 0 (dlX9_item_0.at 23 rfl) rfl rfl ?_
        refine q_get hE (dlX9_item_0.at 24 rfl) kc9 wf_X9_67 g0 rfl rfl rfl ?_
        refine q_iload_n hE 1 (dlX9_item_0.at 25 rfl) rfl rfl ?_
        refine q_aald hE 6 (dlX9_item_0.at 26 rfl) g65 rfl (fun _ => rfl) rfl hm (fun hi8 hm => ?_)
        refine q_getN hE (dlX9_item_0.at 27 rfl) kc8 wf_X9_244 (g_Tape (ra_Tape hi8)) rfl (b_Tape (ra_Tape hi8)) rfl ?_
        refine q_iload_n hE 2 (dlX9_item_0.at 28 rfl) rfl rfl ?_
        refine q_aload_n hE 0 (dlX9_item_0.at 29 rfl) rfl rfl ?_
        refine q_get hE (dlX9_item_0.at 30 rfl) kc9 wf_X9_67 g0 rfl rfl rfl ?_
        refine q_iload_n hE 1 (dlX9_item_0.at 31 rfl) rfl rfl ?_
        refine q_aald hE 6 (dlX9_item_0.at 32 rfl) g65 rfl (fun _ => rfl) rfl hm (fun hi9 hm => ?_)
        refine q_lload_n hE 3 (dlX9_item_0.at 33 rfl) rfl rfl ?_
        refine q_callVN_l (X := fun z => WG V z o) hE (As := [_]) (dlX9_item_0.at 34 rfl) mw_X8_cut wm_X9_274 rfl rfl rfl rfl (Nat.zero_le _) (Nat.zero_le _) rfl kc8 (g_Tape (ra_Tape hi9)) (b_Tape (ra_Tape hi9)) (ok_X8_cut hfx) hm (fun v10 h10 hm => ?_)
        refine q_last hE hfx (dlX9_item_0.at 35 rfl) (g_Tape_items (ra_Tape hi8)) (b_Tape_items (ra_Tape hi8)) (u_Tape_items (ra_Tape hi8)) hm (fun hm => ?_)
        refine q_lth (X := fun z => WG V z o) hm (fun h11 hm => ?_)
        refine q_iconst hE (dlX9_item_0.at 36 rfl) ic_1 ?_
        exact q_iret (X := fun z => WG V z o) hE (dlX9_item_0.at 37 rfl) hm hQ rfl
set_option maxRecDepth 10000 in
theorem ok_X9_read {V : Ev} {l : Launch} {o : PH} {F : Nat}  (hfx : V.2.2.2.2 = false) {a1 : Int32} {a2 : Int32} {h : PH} : ∀ (v : Int64) (h' : PH), f_X9_read F a1 a2 h = some (v, h') → Ctr l V yX9_read cX9_read 3 (some .long) 2 [rf V 0, .int a1, .int a2] 143 (WG V h o) 143 (WG V (h') o) (some (.long v)) 0 0 := by
  intro v h' hm
  refine Ctr.intro RX9 (by decide +kernel) rfl rfl rfl ?_
  intro E hE hQ _
  unfold f_X9_read at hm
  refine q_iload_n hE 1 (dlX9_read_0.at 0 rfl) rfl rfl ?_
  refine q_callS_i (X := fun z => WG V z o) hE (As := [_]) (dlX9_read_0.at 1 rfl) mw_X9_isTape wm_X9_235 rfl rfl rfl rfl (Nat.zero_le _) (Nat.zero_le _) rfl (ok_X9_isTape hfx) hm (fun v1 h1 hm => ?_)
  refine q_if_eq hE (tgt := 20) (dlX9_read_0.at 2 rfl) (by decide) hm (fun hc2 hm => ?_) (fun hc2 hm => ?_)
  · refine q_ldc2 hE (dlX9_read_0.at 10 rfl) wk_X9_211 ?_
    exact q_lret (X := fun z => WG V z o) hE (dlX9_read_0.at 11 rfl) hm hQ rfl
  · refine q_aload_n hE 0 (dlX9_read_0.at 3 rfl) rfl rfl ?_
    refine q_get hE (dlX9_read_0.at 4 rfl) kc9 wf_X9_67 g0 rfl rfl rfl ?_
    refine q_iload_n hE 1 (dlX9_read_0.at 5 rfl) rfl rfl ?_
    refine q_aald hE 6 (dlX9_read_0.at 6 rfl) g65 rfl (fun _ => rfl) rfl hm (fun hi3 hm => ?_)
    refine q_iload_n hE 2 (dlX9_read_0.at 7 rfl) rfl rfl ?_
    refine q_callVN_i (X := fun z => WG V z o) hE (As := [_]) (dlX9_read_0.at 8 rfl) mw_X8_has wm_X9_241 rfl rfl rfl rfl (Nat.zero_le _) (Nat.zero_le _) rfl kc8 (g_Tape (ra_Tape hi3)) (b_Tape (ra_Tape hi3)) (ok_X8_has hfx) hm (fun v4 h4 hm => ?_)
    refine q_if_ne hE (tgt := 24) (dlX9_read_0.at 9 rfl) (by decide) hm (fun hc5 hm => ?_) (fun hc5 hm => ?_)
    · refine q_ldc2 hE (dlX9_read_0.at 10 rfl) wk_X9_211 ?_
      exact q_lret (X := fun z => WG V z o) hE (dlX9_read_0.at 11 rfl) hm hQ rfl
    · refine q_aload_n hE 0 (dlX9_read_0.at 12 rfl) rfl rfl ?_
      refine q_get hE (dlX9_read_0.at 13 rfl) kc9 wf_X9_67 g0 rfl rfl rfl ?_
      refine q_iload_n hE 1 (dlX9_read_0.at 14 rfl) rfl rfl ?_
      refine q_aald hE 6 (dlX9_read_0.at 15 rfl) g65 rfl (fun _ => rfl) rfl hm (fun hi6 hm => ?_)
      refine q_getN hE (dlX9_read_0.at 16 rfl) kc8 wf_X9_244 (g_Tape (ra_Tape hi6)) rfl (b_Tape (ra_Tape hi6)) rfl ?_
      refine q_iload_n hE 2 (dlX9_read_0.at 17 rfl) rfl rfl ?_
      refine q_lald hE (dlX9_read_0.at 18 rfl) (g_Tape_items (ra_Tape hi6)) (b_Tape_items (ra_Tape hi6)) hm (fun hm => ?_)
      exact q_lret (X := fun z => WG V z o) hE (dlX9_read_0.at 19 rfl) hm hQ rfl
set_option maxRecDepth 10000 in
theorem ok_X8_hasRun {V : Ev} {l : Launch} {o : PH} {F : Nat}  (hfx : V.2.2.2.2 = false) {t : Nat} {a1 : Int32} {a2 : Int32} {h : PH} : ∀ (v : Int32) (h' : PH), f_X8_hasRun F t a1 a2 h = some (v, h') → Ctr l V yX8_hasRun cX8_hasRun 3 (some .boolean) 1 [rf V t, .int a1, .int a2] 143 (WG V h o) 143 (WG V (h') o) (some (.int v)) 0 0 := by
  intro v h' hm
  refine Ctr.intro RX8 (by decide +kernel) rfl rfl rfl ?_
  intro E hE hQ _
  unfold f_X8_hasRun at hm
  obtain ⟨ht, hm⟩ := g_if hm
  refine q_iload_n hE 1 (dlX8_hasRun_0.at 0 rfl) rfl rfl ?_
  refine q_if_lt hE (tgt := 30) (dlX8_hasRun_0.at 1 rfl) (by decide) hm (fun hc1 hm => ?_) (fun hc1 hm => ?_)
  · refine q_iconst hE (dlX8_hasRun_0.at 16 rfl) ic_0 ?_
    exact q_bret (X := fun z => WG V z o) hE (dlX8_hasRun_0.at 17 rfl) hm hQ rfl (by decide)
  · refine q_iload_n hE 2 (dlX8_hasRun_0.at 2 rfl) rfl rfl ?_
    refine q_if_lt hE (tgt := 30) (dlX8_hasRun_0.at 3 rfl) (by decide) hm (fun hc2 hm => ?_) (fun hc2 hm => ?_)
    · refine q_iconst hE (dlX8_hasRun_0.at 16 rfl) ic_0 ?_
      exact q_bret (X := fun z => WG V z o) hE (dlX8_hasRun_0.at 17 rfl) hm hQ rfl (by decide)
    · refine q_iload_n hE 2 (dlX8_hasRun_0.at 4 rfl) rfl rfl ?_
      refine q_aload_n hE 0 (dlX8_hasRun_0.at 5 rfl) rfl rfl ?_
      refine q_get hE (dlX8_hasRun_0.at 6 rfl) kc8 wf_X8_13 (g_Tape ht) rfl (b_Tape ht) rfl ?_
      refine q_icmp_gt hE (tgt := 30) (dlX8_hasRun_0.at 7 rfl) (by decide) hm (fun hc3 hm => ?_) (fun hc3 hm => ?_)
      · refine q_iconst hE (dlX8_hasRun_0.at 16 rfl) ic_0 ?_
        exact q_bret (X := fun z => WG V z o) hE (dlX8_hasRun_0.at 17 rfl) hm hQ rfl (by decide)
      · refine q_iload_n hE 1 (dlX8_hasRun_0.at 8 rfl) rfl rfl ?_
        refine q_aload_n hE 0 (dlX8_hasRun_0.at 9 rfl) rfl rfl ?_
        refine q_get hE (dlX8_hasRun_0.at 10 rfl) kc8 wf_X8_13 (g_Tape ht) rfl (b_Tape ht) rfl ?_
        refine q_iload_n hE 2 (dlX8_hasRun_0.at 11 rfl) rfl rfl ?_
        refine q_isub hE (dlX8_hasRun_0.at 12 rfl) ?_
        refine q_icmp_gt hE (tgt := 30) (dlX8_hasRun_0.at 13 rfl) (by decide) hm (fun hc4 hm => ?_) (fun hc4 hm => ?_)
        · refine q_iconst hE (dlX8_hasRun_0.at 16 rfl) ic_0 ?_
          exact q_bret (X := fun z => WG V z o) hE (dlX8_hasRun_0.at 17 rfl) hm hQ rfl (by decide)
        · refine q_iconst hE (dlX8_hasRun_0.at 14 rfl) ic_1 ?_
          refine q_goto hE (tgt := 31) (dlX8_hasRun_0.at 15 rfl) (by decide) ?_
          exact q_bret (X := fun z => WG V z o) hE (dlX8_hasRun_0.at 17 rfl) hm hQ rfl (by decide)
set_option maxRecDepth 10000 in
theorem ok_X9_shift {V : Ev} {l : Launch} {o : PH} {F : Nat}  (hfx : V.2.2.2.2 = false) {a1 : Int32} {a2 : Int32} {a3 : Int32} {a4 : Int32} {a5 : Int32} {h : PH} : ∀ (v : Int32) (h' : PH), f_X9_shift F a1 a2 a3 a4 a5 h = some (v, h') → Ctr l V yX9_shift cX9_shift 8 (some .int) 2 [rf V 0, .int a1, .int a2, .int a3, .int a4, .int a5] 143 (WG V h o) 143 (WG V (h') o) (some (.int v)) 0 0 := by
  intro v h' hm
  refine Ctr.intro RX9 (by decide +kernel) rfl rfl rfl ?_
  intro E hE hQ _
  unfold f_X9_shift at hm
  refine q_iload_n hE 1 (dlX9_shift_0.at 0 rfl) rfl rfl ?_
  refine q_callS_i (X := fun z => WG V z o) hE (As := [_]) (dlX9_shift_0.at 1 rfl) mw_X9_isTape wm_X9_235 rfl rfl rfl rfl (Nat.zero_le _) (Nat.zero_le _) rfl (ok_X9_isTape hfx) hm (fun v1 h1 hm => ?_)
  refine q_if_eq hE (tgt := 14) (dlX9_shift_0.at 2 rfl) (by decide) hm (fun hc2 hm => ?_) (fun hc2 hm => ?_)
  · refine q_iconst hE (dlX9_shift_0.at 6 rfl) ic_m1 ?_
    exact q_iret (X := fun z => WG V z o) hE (dlX9_shift_0.at 7 rfl) hm hQ rfl
  · refine q_iload_n hE 3 (dlX9_shift_0.at 3 rfl) rfl rfl ?_
    refine q_callS_i (X := fun z => WG V z o) hE (As := [_]) (dlX9_shift_0.at 4 rfl) mw_X9_isTape wm_X9_235 rfl rfl rfl rfl (Nat.zero_le _) (Nat.zero_le _) rfl (ok_X9_isTape hfx) hm (fun v3 h3 hm => ?_)
    refine q_if_ne hE (tgt := 16) (dlX9_shift_0.at 5 rfl) (by decide) hm (fun hc4 hm => ?_) (fun hc4 hm => ?_)
    · refine q_iconst hE (dlX9_shift_0.at 6 rfl) ic_m1 ?_
      exact q_iret (X := fun z => WG V z o) hE (dlX9_shift_0.at 7 rfl) hm hQ rfl
    · refine q_aload_n hE 0 (dlX9_shift_0.at 8 rfl) rfl rfl ?_
      refine q_get hE (dlX9_shift_0.at 9 rfl) kc9 wf_X9_67 g0 rfl rfl rfl ?_
      refine q_iload_n hE 1 (dlX9_shift_0.at 10 rfl) rfl rfl ?_
      refine q_aald hE 6 (dlX9_shift_0.at 11 rfl) g65 rfl (fun _ => rfl) rfl hm (fun hi5 hm => ?_)
      refine q_astore hE [(0, _), (1, _), (2, _), (3, _), (4, _), (5, _), (6, _)] (dlX9_shift_0.at 12 rfl) rfl rfl ?_
      refine q_aload_n hE 0 (dlX9_shift_0.at 13 rfl) rfl rfl ?_
      refine q_get hE (dlX9_shift_0.at 14 rfl) kc9 wf_X9_67 g0 rfl rfl rfl ?_
      refine q_iload_n hE 3 (dlX9_shift_0.at 15 rfl) rfl rfl ?_
      refine q_aald hE 6 (dlX9_shift_0.at 16 rfl) g65 rfl (fun _ => rfl) rfl hm (fun hi6 hm => ?_)
      refine q_astore hE [(0, _), (1, _), (2, _), (3, _), (4, _), (5, _), (6, _), (7, _)] (dlX9_shift_0.at 17 rfl) rfl rfl ?_
      refine q_aload hE 6 (dlX9_shift_0.at 18 rfl) rfl ?_
      refine q_getN hE (dlX9_shift_0.at 19 rfl) kc8 wf_X9_238 (g_Tape (ra_Tape hi5)) rfl (b_Tape (ra_Tape hi5)) rfl ?_
      refine q_iconst hE (dlX9_shift_0.at 20 rfl) ic_m1 ?_
      refine q_icmp_eq hE (tgt := 50) (dlX9_shift_0.at 21 rfl) (by decide) hm (fun hc7 hm => ?_) (fun hc7 hm => ?_)
      · refine q_bipush hE (dlX9_shift_0.at 26 rfl) bc_m11 ?_
        exact q_iret (X := fun z => WG V z o) hE (dlX9_shift_0.at 27 rfl) hm hQ rfl
      · refine q_aload hE 7 (dlX9_shift_0.at 22 rfl) rfl ?_
        refine q_getN hE (dlX9_shift_0.at 23 rfl) kc8 wf_X9_238 (g_Tape (ra_Tape hi6)) rfl (b_Tape (ra_Tape hi6)) rfl ?_
        refine q_iconst hE (dlX9_shift_0.at 24 rfl) ic_m1 ?_
        refine q_icmp_ne hE (tgt := 53) (dlX9_shift_0.at 25 rfl) (by decide) hm (fun hc8 hm => ?_) (fun hc8 hm => ?_)
        · refine q_bipush hE (dlX9_shift_0.at 26 rfl) bc_m11 ?_
          exact q_iret (X := fun z => WG V z o) hE (dlX9_shift_0.at 27 rfl) hm hQ rfl
        · refine q_aload hE 6 (dlX9_shift_0.at 28 rfl) rfl ?_
          refine q_getN hE (dlX9_shift_0.at 29 rfl) kc8 wf_X9_238 (g_Tape (ra_Tape hi5)) rfl (b_Tape (ra_Tape hi5)) rfl ?_
          refine q_aload hE 7 (dlX9_shift_0.at 30 rfl) rfl ?_
          refine q_getN hE (dlX9_shift_0.at 31 rfl) kc8 wf_X9_238 (g_Tape (ra_Tape hi6)) rfl (b_Tape (ra_Tape hi6)) rfl ?_
          refine q_icmp_eq hE (tgt := 69) (dlX9_shift_0.at 32 rfl) (by decide) hm (fun hc9 hm => ?_) (fun hc9 hm => ?_)
          · refine q_aload hE 6 (dlX9_shift_0.at 35 rfl) rfl ?_
            refine q_iload_n hE 2 (dlX9_shift_0.at 36 rfl) rfl rfl ?_
            refine q_iload hE 5 (dlX9_shift_0.at 37 rfl) rfl ?_
            refine q_callVN_i (X := fun z => WG V z o) hE (As := [_, _]) (dlX9_shift_0.at 38 rfl) mw_X8_hasRun wm_X9_278 rfl rfl rfl rfl (Nat.zero_le _) (Nat.zero_le _) rfl kc8 (g_Tape (ra_Tape hi5)) (b_Tape (ra_Tape hi5)) (ok_X8_hasRun hfx) hm (fun v10 h10 hm => ?_)
            refine q_if_eq hE (tgt := 92) (dlX9_shift_0.at 39 rfl) (by decide) hm (fun hc11 hm => ?_) (fun hc11 hm => ?_)
            · refine q_bipush hE (dlX9_shift_1.at 5 rfl) bc_m13 ?_
              exact q_iret (X := fun z => WG V z o) hE (dlX9_shift_1.at 6 rfl) hm hQ rfl
            · refine q_aload hE 7 (dlX9_shift_1.at 0 rfl) rfl ?_
              refine q_iload hE 4 (dlX9_shift_1.at 1 rfl) rfl ?_
              refine q_iload hE 5 (dlX9_shift_1.at 2 rfl) rfl ?_
              refine q_callVN_i (X := fun z => WG V z o) hE (As := [_, _]) (dlX9_shift_1.at 3 rfl) mw_X8_hasRun wm_X9_278 rfl rfl rfl rfl (Nat.zero_le _) (Nat.zero_le _) rfl kc8 (g_Tape (ra_Tape hi6)) (b_Tape (ra_Tape hi6)) (ok_X8_hasRun hfx) hm (fun v12 h12 hm => ?_)
              refine q_if_ne hE (tgt := 95) (dlX9_shift_1.at 4 rfl) (by decide) hm (fun hc13 hm => ?_) (fun hc13 hm => ?_)
              · refine q_bipush hE (dlX9_shift_1.at 5 rfl) bc_m13 ?_
                exact q_iret (X := fun z => WG V z o) hE (dlX9_shift_1.at 6 rfl) hm hQ rfl
              · refine q_aload hE 6 (dlX9_shift_1.at 7 rfl) rfl ?_
                refine q_getN hE (dlX9_shift_1.at 8 rfl) kc8 wf_X9_244 (g_Tape (ra_Tape hi5)) rfl (b_Tape (ra_Tape hi5)) rfl ?_
                refine q_iload_n hE 2 (dlX9_shift_1.at 9 rfl) rfl rfl ?_
                refine q_aload hE 7 (dlX9_shift_1.at 10 rfl) rfl ?_
                refine q_getN hE (dlX9_shift_1.at 11 rfl) kc8 wf_X9_244 (g_Tape (ra_Tape hi6)) rfl (b_Tape (ra_Tape hi6)) rfl ?_
                refine q_iload hE 4 (dlX9_shift_1.at 12 rfl) rfl ?_
                refine q_iload hE 5 (dlX9_shift_1.at 13 rfl) rfl ?_
                refine q_copyl hE hfx (dlX9_shift_1.at 14 rfl) wm_X9_281 w_copy (g_Tape_items (ra_Tape hi5)) (g_Tape_items (ra_Tape hi6)) (b_Tape_items (ra_Tape hi5)) (b_Tape_items (ra_Tape hi6)) rfl rfl (uf_Tape_items (ra_Tape hi6)) hm (fun hm => ?_)
                refine q_lth (X := fun z => WG V z o) hm (fun h14 hm => ?_)
                refine q_iload hE 5 (dlX9_shift_1.at 15 rfl) rfl ?_
                exact q_iret (X := fun z => WG V z o) hE (dlX9_shift_1.at 16 rfl) hm hQ rfl
          · refine q_bipush hE (dlX9_shift_0.at 33 rfl) bc_m12 ?_
            exact q_iret (X := fun z => WG V z o) hE (dlX9_shift_0.at 34 rfl) hm hQ rfl
set_option maxRecDepth 10000 in
theorem ok_X10_balks {V : Ev} {l : Launch} {o : PH} {F : Nat}  (hfx : V.2.2.2.2 = false) {a1 : Int32} {a2 : Int32} {h : PH} : ∀ (v : Unit) (h' : PH), f_X10_balks F a1 a2 h = some (v, h') → Ctr l V yX10_balks cX10_balks 3 none 1 [rf V 102, .int a1, .int a2] 143 (WG V o h) 143 (WG V o (h')) (none) 0 0 := by
  intro v h' hm
  refine Ctr.intro RX10 (by decide +kernel) rfl rfl rfl ?_
  intro E hE hQ _
  unfold f_X10_balks at hm
  refine q_aload_n hE 0 (dlX10_balks_0.at 0 rfl) rfl rfl ?_
  refine q_iload_n hE 2 (dlX10_balks_0.at 1 rfl) rfl rfl ?_
  refine q_if_eq hE (tgt := 16) (dlX10_balks_0.at 2 rfl) (by decide) hm (fun hc1 hm => ?_) (fun hc1 hm => ?_)
  · refine q_aload_n hE 0 (dlX10_balks_0.at 10 rfl) rfl rfl ?_
    refine q_get hE (dlX10_balks_0.at 11 rfl) kc10 wf_X10_13 g102 rfl rfl rfl ?_
    refine q_iconst hE (dlX10_balks_0.at 12 rfl) ic_1 ?_
    refine q_iload_n hE 1 (dlX10_balks_0.at 13 rfl) rfl rfl ?_
    refine q_ishl hE (dlX10_balks_0.at 14 rfl) ?_
    refine q_iconst hE (dlX10_balks_0.at 15 rfl) ic_m1 ?_
    refine q_ixor hE (dlX10_balks_0.at 16 rfl) ?_
    refine q_iand hE (dlX10_balks_0.at 17 rfl) ?_
    refine q_put hE hfx (dlX10_balks_0.at 18 rfl) kc10 wf_X10_13 g102 rfl rfl rfl rfl rfl rfl u102_1 ?_
    refine q_lth (X := fun z => WG V o z) hm (fun h2 hm => ?_)
    exact q_vret (X := fun z => WG V o z) hE (dlX10_balks_0.at 19 rfl) hm hQ rfl
  · refine q_aload_n hE 0 (dlX10_balks_0.at 3 rfl) rfl rfl ?_
    refine q_get hE (dlX10_balks_0.at 4 rfl) kc10 wf_X10_13 g102 rfl rfl rfl ?_
    refine q_iconst hE (dlX10_balks_0.at 5 rfl) ic_1 ?_
    refine q_iload_n hE 1 (dlX10_balks_0.at 6 rfl) rfl rfl ?_
    refine q_ishl hE (dlX10_balks_0.at 7 rfl) ?_
    refine q_ior hE (dlX10_balks_0.at 8 rfl) ?_
    refine q_goto hE (tgt := 26) (dlX10_balks_0.at 9 rfl) (by decide) ?_
    refine q_put hE hfx (dlX10_balks_0.at 18 rfl) kc10 wf_X10_13 g102 rfl rfl rfl rfl rfl rfl u102_1 ?_
    refine q_lth (X := fun z => WG V o z) hm (fun h3 hm => ?_)
    exact q_vret (X := fun z => WG V o z) hE (dlX10_balks_0.at 19 rfl) hm hQ rfl
set_option maxRecDepth 10000 in
theorem ok_X10_in {V : Ev} {l : Launch} {o : PH} {F : Nat}  (hfx : V.2.2.2.2 = false) {a1 : Int32} {a2 : Int32} {a3 : Int32} {h : PH} : ∀ (v : Int32) (h' : PH), f_X10_in F a1 a2 a3 h = some (v, h') → Ctr l V yX10_in cX10_in 4 (some .boolean) 1 [rf V 102, .int a1, .int a2, .int a3] 143 (WG V o h) 143 (WG V o (h')) (some (.int v)) 0 0 := by
  intro v h' hm
  refine Ctr.intro RX10 (by decide +kernel) rfl rfl rfl ?_
  intro E hE hQ _
  unfold f_X10_in at hm
  refine q_iload_n hE 1 (dlX10_in_0.at 0 rfl) rfl rfl ?_
  refine q_iload_n hE 2 (dlX10_in_0.at 1 rfl) rfl rfl ?_
  refine q_icmp_lt hE (tgt := 14) (dlX10_in_0.at 2 rfl) (by decide) hm (fun hc1 hm => ?_) (fun hc1 hm => ?_)
  · refine q_iconst hE (dlX10_in_0.at 8 rfl) ic_0 ?_
    exact q_bret (X := fun z => WG V o z) hE (dlX10_in_0.at 9 rfl) hm hQ rfl (by decide)
  · refine q_iload_n hE 1 (dlX10_in_0.at 3 rfl) rfl rfl ?_
    refine q_iload_n hE 3 (dlX10_in_0.at 4 rfl) rfl rfl ?_
    refine q_icmp_gt hE (tgt := 14) (dlX10_in_0.at 5 rfl) (by decide) hm (fun hc2 hm => ?_) (fun hc2 hm => ?_)
    · refine q_iconst hE (dlX10_in_0.at 8 rfl) ic_0 ?_
      exact q_bret (X := fun z => WG V o z) hE (dlX10_in_0.at 9 rfl) hm hQ rfl (by decide)
    · refine q_iconst hE (dlX10_in_0.at 6 rfl) ic_1 ?_
      refine q_goto hE (tgt := 15) (dlX10_in_0.at 7 rfl) (by decide) ?_
      exact q_bret (X := fun z => WG V o z) hE (dlX10_in_0.at 9 rfl) hm hQ rfl (by decide)
set_option maxRecDepth 10000 in
theorem okL_X10_clock_99 {V : Ev} {l : Launch} {o : PH} {F : Nat}  (hfx : V.2.2.2.2 = false) {E : Cx} (hE : CX E V l cX10_clock RX10 5 2 0 0 (some .int)) {r : Int32 × PH} (hQ : RQ E V 143 (WG V o r.2) (some (.int r.1)) 0 0) : ∀ (n : Nat) (x4 : Int32) (h : PH), fL_X10_clock_99 F n x4 h = some r → PW E V 0 0 143 (WG V o h) 99 [(0, rf V 102), (4, .int x4)] [] := by
  intro n
  induction n with
  | zero => intro x4 h hm; cases hm
  | succ n ih =>
    intro x4 h hm
    rw [fL_X10_clock_99] at hm
    refine q_iload hE 1 (dlX10_clock_1.at 17 rfl) rfl ?_
    refine q_iconst hE (dlX10_clock_1.at 18 rfl) ic_4 ?_
    refine q_icmp_ge hE (tgt := 126) (dlX10_clock_1.at 19 rfl) (by decide) hm (fun hc12 hm => ?_) (fun hc12 hm => ?_)
    · refine q_aload_n hE 0 (dlX10_clock_1.at 32 rfl) rfl rfl ?_
      refine q_dup hE (dlX10_clock_1.at 33 rfl) rfl ?_
      refine q_get hE (dlX10_clock_1.at 34 rfl) kc10 wf_X10_7 g102 rfl rfl rfl ?_
      refine q_iconst hE (dlX10_clock_1.at 35 rfl) ic_1 ?_
      refine q_iadd hE (dlX10_clock_1.at 36 rfl) ?_
      refine q_put hE hfx (dlX10_clock_1.at 37 rfl) kc10 wf_X10_7 g102 rfl rfl rfl rfl rfl rfl u102_0 ?_
      refine q_lth (X := fun z => WG V o z) hm (fun h13 hm => ?_)
      refine q_aload_n hE 0 (dlX10_clock_1.at 38 rfl) rfl rfl ?_
      refine q_get hE (dlX10_clock_1.at 39 rfl) kc10 wf_X10_7 g102 rfl rfl rfl ?_
      refine q_iconst hE (dlX10_clock_2.at 0 rfl) ic_1 ?_
      refine q_isub hE (dlX10_clock_2.at 1 rfl) ?_
      exact q_iret (X := fun z => WG V o z) hE (dlX10_clock_2.at 2 rfl) hm hQ rfl
    · refine q_aload_n hE 0 (dlX10_clock_1.at 20 rfl) rfl rfl ?_
      refine q_get hE (dlX10_clock_1.at 21 rfl) kc10 wf_X10_29 g102 rfl rfl rfl ?_
      refine q_iconst hE (dlX10_clock_1.at 22 rfl) ic_4 ?_
      refine q_aload_n hE 0 (dlX10_clock_1.at 23 rfl) rfl rfl ?_
      refine q_get hE (dlX10_clock_1.at 24 rfl) kc10 wf_X10_7 g102 rfl rfl rfl ?_
      refine q_imul hE (dlX10_clock_1.at 25 rfl) ?_
      refine q_iload hE 1 (dlX10_clock_1.at 26 rfl) rfl ?_
      refine q_iadd hE (dlX10_clock_1.at 27 rfl) ?_
      refine q_iconst hE (dlX10_clock_1.at 28 rfl) ic_0 ?_
      refine q_iast hE hfx (dlX10_clock_1.at 29 rfl) g106 rfl u106 hm (fun hm => ?_)
      refine q_lth (X := fun z => WG V o z) hm (fun h14 hm => ?_)
      refine q_iinc hE [(0, _), (4, _)] 1 (dlX10_clock_1.at 30 rfl) rfl ic_1 rfl rfl ?_
      refine q_goto hE (tgt := 99) (dlX10_clock_1.at 31 rfl) (by decide) ?_
      refine q_sub hE [0, 1] rfl ?_
      exact ih _ _  hm
set_option maxRecDepth 10000 in
theorem ok_X10_clock {V : Ev} {l : Launch} {o : PH} {F : Nat}  (hfx : V.2.2.2.2 = false) {a1 : Int32} {a2 : Int32} {a3 : Int32} {h : PH} : ∀ (v : Int32) (h' : PH), f_X10_clock F a1 a2 a3 h = some (v, h') → Ctr l V yX10_clock cX10_clock 5 (some .int) 2 [rf V 102, .int a1, .int a2, .int a3] 143 (WG V o h) 143 (WG V o (h')) (some (.int v)) 0 0 := by
  intro v h' hm
  refine Ctr.intro RX10 (by decide +kernel) rfl rfl rfl ?_
  intro E hE hQ _
  unfold f_X10_clock at hm
  refine q_aload_n hE 0 (dlX10_clock_0.at 0 rfl) rfl rfl ?_
  refine q_iload_n hE 1 (dlX10_clock_0.at 1 rfl) rfl rfl ?_
  refine q_iconst hE (dlX10_clock_0.at 2 rfl) ic_0 ?_
  refine q_bipush hE (dlX10_clock_0.at 3 rfl) bc_6 ?_
  refine q_callV_i (X := fun z => WG V o z) hE (As := [_, _, _]) (dlX10_clock_0.at 4 rfl) mw_X10_in wm_X10_212 rfl rfl rfl rfl (Nat.zero_le _) (Nat.zero_le _) rfl kc10 g102 rfl (ok_X10_in hfx) hm (fun v1 h1 hm => ?_)
  refine q_if_ne hE (tgt := 13) (dlX10_clock_0.at 5 rfl) (by decide) hm (fun hc2 hm => ?_) (fun hc2 hm => ?_)
  · refine q_iconst hE (dlX10_clock_0.at 6 rfl) ic_m1 ?_
    exact q_iret (X := fun z => WG V o z) hE (dlX10_clock_0.at 7 rfl) hm hQ rfl
  · refine q_aload_n hE 0 (dlX10_clock_0.at 8 rfl) rfl rfl ?_
    refine q_iload_n hE 2 (dlX10_clock_0.at 9 rfl) rfl rfl ?_
    refine q_iconst hE (dlX10_clock_0.at 10 rfl) ic_0 ?_
    refine q_bipush hE (dlX10_clock_0.at 11 rfl) bc_9 ?_
    refine q_callV_i (X := fun z => WG V o z) hE (As := [_, _, _]) (dlX10_clock_0.at 12 rfl) mw_X10_in wm_X10_212 rfl rfl rfl rfl (Nat.zero_le _) (Nat.zero_le _) rfl kc10 g102 rfl (ok_X10_in hfx) hm (fun v3 h3 hm => ?_)
    refine q_if_eq hE (tgt := 37) (dlX10_clock_0.at 13 rfl) (by decide) hm (fun hc4 hm => ?_) (fun hc4 hm => ?_)
    · refine q_bipush hE (dlX10_clock_0.at 21 rfl) bc_m2 ?_
      exact q_iret (X := fun z => WG V o z) hE (dlX10_clock_0.at 22 rfl) hm hQ rfl
    · refine q_aload_n hE 0 (dlX10_clock_0.at 14 rfl) rfl rfl ?_
      refine q_iload_n hE 3 (dlX10_clock_0.at 15 rfl) rfl rfl ?_
      refine q_iconst hE (dlX10_clock_0.at 16 rfl) ic_0 ?_
      refine q_aload_n hE 0 (dlX10_clock_0.at 17 rfl) rfl rfl ?_
      refine q_get hE (dlX10_clock_0.at 18 rfl) kc10 wf_X10_16 g102 rfl rfl rfl ?_
      refine q_callV_i (X := fun z => WG V o z) hE (As := [_, _, _]) (dlX10_clock_0.at 19 rfl) mw_X10_in wm_X10_212 rfl rfl rfl rfl (Nat.zero_le _) (Nat.zero_le _) rfl kc10 g102 rfl (ok_X10_in hfx) hm (fun v5 h5 hm => ?_)
      refine q_if_ne hE (tgt := 40) (dlX10_clock_0.at 20 rfl) (by decide) hm (fun hc6 hm => ?_) (fun hc6 hm => ?_)
      · refine q_bipush hE (dlX10_clock_0.at 21 rfl) bc_m2 ?_
        exact q_iret (X := fun z => WG V o z) hE (dlX10_clock_0.at 22 rfl) hm hQ rfl
      · refine q_aload_n hE 0 (dlX10_clock_0.at 23 rfl) rfl rfl ?_
        refine q_get hE (dlX10_clock_0.at 24 rfl) kc10 wf_X10_7 g102 rfl rfl rfl ?_
        refine q_bipush hE (dlX10_clock_0.at 25 rfl) bc_6 ?_
        refine q_icmp_ne hE (tgt := 52) (dlX10_clock_0.at 26 rfl) (by decide) hm (fun hc7 hm => ?_) (fun hc7 hm => ?_)
        · refine q_bipush hE (dlX10_clock_0.at 27 rfl) bc_m4 ?_
          exact q_iret (X := fun z => WG V o z) hE (dlX10_clock_0.at 28 rfl) hm hQ rfl
        · refine q_aload_n hE 0 (dlX10_clock_0.at 29 rfl) rfl rfl ?_
          refine q_get hE (dlX10_clock_0.at 30 rfl) kc10 wf_X10_19 g102 rfl rfl rfl ?_
          refine q_aload_n hE 0 (dlX10_clock_0.at 31 rfl) rfl rfl ?_
          refine q_get hE (dlX10_clock_0.at 32 rfl) kc10 wf_X10_7 g102 rfl rfl rfl ?_
          refine q_iload_n hE 1 (dlX10_clock_0.at 33 rfl) rfl rfl ?_
          refine q_iast hE hfx (dlX10_clock_0.at 34 rfl) g103 rfl u103 hm (fun hm => ?_)
          refine q_lth (X := fun z => WG V o z) hm (fun h8 hm => ?_)
          refine q_aload_n hE 0 (dlX10_clock_0.at 35 rfl) rfl rfl ?_
          refine q_get hE (dlX10_clock_0.at 36 rfl) kc10 wf_X10_23 g102 rfl rfl rfl ?_
          refine q_aload_n hE 0 (dlX10_clock_0.at 37 rfl) rfl rfl ?_
          refine q_get hE (dlX10_clock_0.at 38 rfl) kc10 wf_X10_7 g102 rfl rfl rfl ?_
          refine q_iload_n hE 2 (dlX10_clock_0.at 39 rfl) rfl rfl ?_
          refine q_iast hE hfx (dlX10_clock_1.at 0 rfl) g104 rfl u104 hm (fun hm => ?_)
          refine q_lth (X := fun z => WG V o z) hm (fun h9 hm => ?_)
          refine q_aload_n hE 0 (dlX10_clock_1.at 1 rfl) rfl rfl ?_
          refine q_get hE (dlX10_clock_1.at 2 rfl) kc10 wf_X10_26 g102 rfl rfl rfl ?_
          refine q_aload_n hE 0 (dlX10_clock_1.at 3 rfl) rfl rfl ?_
          refine q_get hE (dlX10_clock_1.at 4 rfl) kc10 wf_X10_7 g102 rfl rfl rfl ?_
          refine q_aload_n hE 0 (dlX10_clock_1.at 5 rfl) rfl rfl ?_
          refine q_get hE (dlX10_clock_1.at 6 rfl) kc10 wf_X10_16 g102 rfl rfl rfl ?_
          refine q_iload_n hE 3 (dlX10_clock_1.at 7 rfl) rfl rfl ?_
          refine q_isub hE (dlX10_clock_1.at 8 rfl) ?_
          refine q_iast hE hfx (dlX10_clock_1.at 9 rfl) g105 rfl u105 hm (fun hm => ?_)
          refine q_lth (X := fun z => WG V o z) hm (fun h10 hm => ?_)
          refine q_aload_n hE 0 (dlX10_clock_1.at 10 rfl) rfl rfl ?_
          refine q_aload_n hE 0 (dlX10_clock_1.at 11 rfl) rfl rfl ?_
          refine q_get hE (dlX10_clock_1.at 12 rfl) kc10 wf_X10_7 g102 rfl rfl rfl ?_
          refine q_iconst hE (dlX10_clock_1.at 13 rfl) ic_0 ?_
          refine q_callV_v (X := fun z => WG V o z) hE (As := [_, _]) (dlX10_clock_1.at 14 rfl) mw_X10_balks wm_X10_216 rfl rfl rfl rfl (Nat.zero_le _) (Nat.zero_le _) rfl kc10 g102 rfl (ok_X10_balks hfx) hm (fun v11 h11 hm => ?_)
          refine q_iconst hE (dlX10_clock_1.at 15 rfl) ic_0 ?_
          refine q_istore hE [(0, _), (1, _), (2, _), (3, _), (4, _)] (dlX10_clock_1.at 16 rfl) rfl rfl ?_
          refine q_sub hE [0, 4] rfl ?_
          exact okL_X10_clock_99 hfx hE hQ  F _ _  hm
set_option maxRecDepth 10000 in
theorem ok_X10_isClock {V : Ev} {l : Launch} {o : PH} {F : Nat}  (hfx : V.2.2.2.2 = false) {a1 : Int32} {h : PH} : ∀ (v : Int32) (h' : PH), f_X10_isClock F a1 h = some (v, h') → Ctr l V yX10_isClock cX10_isClock 2 (some .boolean) 2 [rf V 102, .int a1] 143 (WG V o h) 143 (WG V o (h')) (some (.int v)) 0 0 := by
  intro v h' hm
  refine Ctr.intro RX10 (by decide +kernel) rfl rfl rfl ?_
  intro E hE hQ _
  unfold f_X10_isClock at hm
  refine q_aload_n hE 0 (dlX10_isClock_0.at 0 rfl) rfl rfl ?_
  refine q_iload_n hE 1 (dlX10_isClock_0.at 1 rfl) rfl rfl ?_
  refine q_iconst hE (dlX10_isClock_0.at 2 rfl) ic_0 ?_
  refine q_aload_n hE 0 (dlX10_isClock_0.at 3 rfl) rfl rfl ?_
  refine q_get hE (dlX10_isClock_0.at 4 rfl) kc10 wf_X10_7 g102 rfl rfl rfl ?_
  refine q_iconst hE (dlX10_isClock_0.at 5 rfl) ic_1 ?_
  refine q_isub hE (dlX10_isClock_0.at 6 rfl) ?_
  refine q_callV_i (X := fun z => WG V o z) hE (As := [_, _, _]) (dlX10_isClock_0.at 7 rfl) mw_X10_in wm_X10_212 rfl rfl rfl rfl (Nat.zero_le _) (Nat.zero_le _) rfl kc10 g102 rfl (ok_X10_in hfx) hm (fun v1 h1 hm => ?_)
  exact q_bret (X := fun z => WG V o z) hE (dlX10_isClock_0.at 8 rfl) hm hQ rfl rfl
set_option maxRecDepth 10000 in
theorem ok_X10_set {V : Ev} {l : Launch} {o : PH} {F : Nat}  (hfx : V.2.2.2.2 = false) {a1 : Int32} {a2 : Int32} {h : PH} : ∀ (v : Int32) (h' : PH), f_X10_set F a1 a2 h = some (v, h') → Ctr l V yX10_set cX10_set 4 (some .int) 3 [rf V 102, .int a1, .int a2] 143 (WG V o h) 143 (WG V o (h')) (some (.int v)) 0 0 := by
  intro v h' hm
  refine Ctr.intro RX10 (by decide +kernel) rfl rfl rfl ?_
  intro E hE hQ _
  unfold f_X10_set at hm
  refine q_aload_n hE 0 (dlX10_set_0.at 0 rfl) rfl rfl ?_
  refine q_iload_n hE 1 (dlX10_set_0.at 1 rfl) rfl rfl ?_
  refine q_callV_i (X := fun z => WG V o z) hE (As := [_]) (dlX10_set_0.at 2 rfl) mw_X10_isClock wm_X10_220 rfl rfl rfl rfl (Nat.zero_le _) (Nat.zero_le _) rfl kc10 g102 rfl (ok_X10_isClock hfx) hm (fun v1 h1 hm => ?_)
  refine q_if_ne hE (tgt := 10) (dlX10_set_0.at 3 rfl) (by decide) hm (fun hc2 hm => ?_) (fun hc2 hm => ?_)
  · refine q_iconst hE (dlX10_set_0.at 4 rfl) ic_m1 ?_
    exact q_iret (X := fun z => WG V o z) hE (dlX10_set_0.at 5 rfl) hm hQ rfl
  · refine q_aload_n hE 0 (dlX10_set_0.at 6 rfl) rfl rfl ?_
    refine q_iload_n hE 2 (dlX10_set_0.at 7 rfl) rfl rfl ?_
    refine q_iconst hE (dlX10_set_0.at 8 rfl) ic_0 ?_
    refine q_aload_n hE 0 (dlX10_set_0.at 9 rfl) rfl rfl ?_
    refine q_get hE (dlX10_set_0.at 10 rfl) kc10 wf_X10_16 g102 rfl rfl rfl ?_
    refine q_callV_i (X := fun z => WG V o z) hE (As := [_, _, _]) (dlX10_set_0.at 11 rfl) mw_X10_in wm_X10_212 rfl rfl rfl rfl (Nat.zero_le _) (Nat.zero_le _) rfl kc10 g102 rfl (ok_X10_in hfx) hm (fun v3 h3 hm => ?_)
    refine q_if_ne hE (tgt := 26) (dlX10_set_0.at 12 rfl) (by decide) hm (fun hc4 hm => ?_) (fun hc4 hm => ?_)
    · refine q_bipush hE (dlX10_set_0.at 13 rfl) bc_m2 ?_
      exact q_iret (X := fun z => WG V o z) hE (dlX10_set_0.at 14 rfl) hm hQ rfl
    · refine q_aload_n hE 0 (dlX10_set_0.at 15 rfl) rfl rfl ?_
      refine q_get hE (dlX10_set_0.at 16 rfl) kc10 wf_X10_26 g102 rfl rfl rfl ?_
      refine q_iload_n hE 1 (dlX10_set_0.at 17 rfl) rfl rfl ?_
      refine q_iald hE (dlX10_set_0.at 18 rfl) g105 rfl hm (fun hm => ?_)
      refine q_istore_n hE [(0, _), (1, _), (2, _), (3, _)] (dlX10_set_0.at 19 rfl) rfl rfl rfl ?_
      refine q_aload_n hE 0 (dlX10_set_0.at 20 rfl) rfl rfl ?_
      refine q_get hE (dlX10_set_0.at 21 rfl) kc10 wf_X10_26 g102 rfl rfl rfl ?_
      refine q_iload_n hE 1 (dlX10_set_0.at 22 rfl) rfl rfl ?_
      refine q_iload_n hE 2 (dlX10_set_0.at 23 rfl) rfl rfl ?_
      refine q_iast hE hfx (dlX10_set_0.at 24 rfl) g105 rfl u105 hm (fun hm => ?_)
      refine q_lth (X := fun z => WG V o z) hm (fun h5 hm => ?_)
      refine q_iload_n hE 3 (dlX10_set_0.at 25 rfl) rfl rfl ?_
      exact q_iret (X := fun z => WG V o z) hE (dlX10_set_0.at 26 rfl) hm hQ rfl
set_option maxRecDepth 10000 in
theorem ok_X10_has {V : Ev} {l : Launch} {o : PH} {F : Nat}  (hfx : V.2.2.2.2 = false) {a1 : Int32} {a2 : Int32} {h : PH} : ∀ (v : Int32) (h' : PH), f_X10_has F a1 a2 h = some (v, h') → Ctr l V yX10_has cX10_has 3 (some .boolean) 1 [rf V 102, .int a1, .int a2] 143 (WG V o h) 143 (WG V o (h')) (some (.int v)) 0 0 := by
  intro v h' hm
  refine Ctr.intro RX10 (by decide +kernel) rfl rfl rfl ?_
  intro E hE hQ _
  unfold f_X10_has at hm
  refine q_iload_n hE 1 (dlX10_has_0.at 0 rfl) rfl rfl ?_
  refine q_iload_n hE 2 (dlX10_has_0.at 1 rfl) rfl rfl ?_
  refine q_ishr hE (dlX10_has_0.at 2 rfl) ?_
  refine q_iconst hE (dlX10_has_0.at 3 rfl) ic_1 ?_
  refine q_iand hE (dlX10_has_0.at 4 rfl) ?_
  refine q_iconst hE (dlX10_has_0.at 5 rfl) ic_1 ?_
  refine q_icmp_ne hE (tgt := 13) (dlX10_has_0.at 6 rfl) (by decide) hm (fun hc1 hm => ?_) (fun hc1 hm => ?_)
  · refine q_iconst hE (dlX10_has_0.at 7 rfl) ic_1 ?_
    refine q_goto hE (tgt := 14) (dlX10_has_0.at 8 rfl) (by decide) ?_
    exact q_bret (X := fun z => WG V o z) hE (dlX10_has_0.at 10 rfl) hm hQ rfl (by decide)
  · refine q_iconst hE (dlX10_has_0.at 9 rfl) ic_0 ?_
    exact q_bret (X := fun z => WG V o z) hE (dlX10_has_0.at 10 rfl) hm hQ rfl (by decide)
set_option maxRecDepth 10000 in
theorem ok_X10_balk {V : Ev} {l : Launch} {o : PH} {F : Nat}  (hfx : V.2.2.2.2 = false) {a1 : Int32} {a2 : Int32} {h : PH} : ∀ (v : Int32) (h' : PH), f_X10_balk F a1 a2 h = some (v, h') → Ctr l V yX10_balk cX10_balk 4 (some .int) 3 [rf V 102, .int a1, .int a2] 143 (WG V o h) 143 (WG V o (h')) (some (.int v)) 0 0 := by
  intro v h' hm
  refine Ctr.intro RX10 (by decide +kernel) rfl rfl rfl ?_
  intro E hE hQ _
  unfold f_X10_balk at hm
  refine q_aload_n hE 0 (dlX10_balk_0.at 0 rfl) rfl rfl ?_
  refine q_iload_n hE 1 (dlX10_balk_0.at 1 rfl) rfl rfl ?_
  refine q_callV_i (X := fun z => WG V o z) hE (As := [_]) (dlX10_balk_0.at 2 rfl) mw_X10_isClock wm_X10_220 rfl rfl rfl rfl (Nat.zero_le _) (Nat.zero_le _) rfl kc10 g102 rfl (ok_X10_isClock hfx) hm (fun v1 h1 hm => ?_)
  refine q_if_ne hE (tgt := 10) (dlX10_balk_0.at 3 rfl) (by decide) hm (fun hc2 hm => ?_) (fun hc2 hm => ?_)
  · refine q_iconst hE (dlX10_balk_0.at 4 rfl) ic_m1 ?_
    exact q_iret (X := fun z => WG V o z) hE (dlX10_balk_0.at 5 rfl) hm hQ rfl
  · refine q_aload_n hE 0 (dlX10_balk_0.at 6 rfl) rfl rfl ?_
    refine q_aload_n hE 0 (dlX10_balk_0.at 7 rfl) rfl rfl ?_
    refine q_get hE (dlX10_balk_0.at 8 rfl) kc10 wf_X10_13 g102 rfl rfl rfl ?_
    refine q_iload_n hE 1 (dlX10_balk_0.at 9 rfl) rfl rfl ?_
    refine q_callV_i (X := fun z => WG V o z) hE (As := [_, _]) (dlX10_balk_0.at 10 rfl) mw_X10_has wm_X10_224 rfl rfl rfl rfl (Nat.zero_le _) (Nat.zero_le _) rfl kc10 g102 rfl (ok_X10_has hfx) hm (fun v3 h3 hm => ?_)
    refine q_if_eq hE (tgt := 26) (dlX10_balk_0.at 11 rfl) (by decide) hm (fun hc4 hm => ?_) (fun hc4 hm => ?_)
    · refine q_iconst hE (dlX10_balk_0.at 14 rfl) ic_0 ?_
      refine q_istore_n hE [(0, _), (1, _), (2, _), (3, _)] (dlX10_balk_0.at 15 rfl) rfl rfl rfl ?_
      refine q_aload_n hE 0 (dlX10_balk_0.at 16 rfl) rfl rfl ?_
      refine q_iload_n hE 1 (dlX10_balk_0.at 17 rfl) rfl rfl ?_
      refine q_iload_n hE 2 (dlX10_balk_0.at 18 rfl) rfl rfl ?_
      refine q_callV_v (X := fun z => WG V o z) hE (As := [_, _]) (dlX10_balk_0.at 19 rfl) mw_X10_balks wm_X10_216 rfl rfl rfl rfl (Nat.zero_le _) (Nat.zero_le _) rfl kc10 g102 rfl (ok_X10_balks hfx) hm (fun v5 h5 hm => ?_)
      refine q_iload_n hE 3 (dlX10_balk_0.at 20 rfl) rfl rfl ?_
      exact q_iret (X := fun z => WG V o z) hE (dlX10_balk_0.at 21 rfl) hm hQ rfl
    · refine q_iconst hE (dlX10_balk_0.at 12 rfl) ic_1 ?_
      refine q_goto hE (tgt := 27) (dlX10_balk_0.at 13 rfl) (by decide) ?_
      refine q_istore_n hE [(0, _), (1, _), (2, _), (3, _)] (dlX10_balk_0.at 15 rfl) rfl rfl rfl ?_
      refine q_aload_n hE 0 (dlX10_balk_0.at 16 rfl) rfl rfl ?_
      refine q_iload_n hE 1 (dlX10_balk_0.at 17 rfl) rfl rfl ?_
      refine q_iload_n hE 2 (dlX10_balk_0.at 18 rfl) rfl rfl ?_
      refine q_callV_v (X := fun z => WG V o z) hE (As := [_, _]) (dlX10_balk_0.at 19 rfl) mw_X10_balks wm_X10_216 rfl rfl rfl rfl (Nat.zero_le _) (Nat.zero_le _) rfl kc10 g102 rfl (ok_X10_balks hfx) hm (fun v6 h6 hm => ?_)
      refine q_iload_n hE 3 (dlX10_balk_0.at 20 rfl) rfl rfl ?_
      exact q_iret (X := fun z => WG V o z) hE (dlX10_balk_0.at 21 rfl) hm hQ rfl
set_option maxRecDepth 10000 in
theorem ok_X10_row {V : Ev} {l : Launch} {o : PH} {F : Nat}  (hfx : V.2.2.2.2 = false) {a1 : Int32} {a2 : Int32} {a3 : Int32} {h : PH} : ∀ (v : Int32) (h' : PH), f_X10_row F a1 a2 a3 h = some (v, h') → Ctr l V yX10_row cX10_row 5 (some .int) 3 [rf V 102, .int a1, .int a2, .int a3] 143 (WG V o h) 143 (WG V o (h')) (some (.int v)) 0 0 := by
  intro v h' hm
  refine Ctr.intro RX10 (by decide +kernel) rfl rfl rfl ?_
  intro E hE hQ _
  unfold f_X10_row at hm
  refine q_aload_n hE 0 (dlX10_row_0.at 0 rfl) rfl rfl ?_
  refine q_iload_n hE 1 (dlX10_row_0.at 1 rfl) rfl rfl ?_
  refine q_callV_i (X := fun z => WG V o z) hE (As := [_]) (dlX10_row_0.at 2 rfl) mw_X10_isClock wm_X10_220 rfl rfl rfl rfl (Nat.zero_le _) (Nat.zero_le _) rfl kc10 g102 rfl (ok_X10_isClock hfx) hm (fun v1 h1 hm => ?_)
  refine q_if_eq hE (tgt := 18) (dlX10_row_0.at 3 rfl) (by decide) hm (fun hc2 hm => ?_) (fun hc2 hm => ?_)
  · refine q_iconst hE (dlX10_row_0.at 10 rfl) ic_m1 ?_
    exact q_iret (X := fun z => WG V o z) hE (dlX10_row_0.at 11 rfl) hm hQ rfl
  · refine q_aload_n hE 0 (dlX10_row_0.at 4 rfl) rfl rfl ?_
    refine q_iload_n hE 2 (dlX10_row_0.at 5 rfl) rfl rfl ?_
    refine q_iconst hE (dlX10_row_0.at 6 rfl) ic_0 ?_
    refine q_iconst hE (dlX10_row_0.at 7 rfl) ic_3 ?_
    refine q_callV_i (X := fun z => WG V o z) hE (As := [_, _, _]) (dlX10_row_0.at 8 rfl) mw_X10_in wm_X10_212 rfl rfl rfl rfl (Nat.zero_le _) (Nat.zero_le _) rfl kc10 g102 rfl (ok_X10_in hfx) hm (fun v3 h3 hm => ?_)
    refine q_if_ne hE (tgt := 20) (dlX10_row_0.at 9 rfl) (by decide) hm (fun hc4 hm => ?_) (fun hc4 hm => ?_)
    · refine q_iconst hE (dlX10_row_0.at 10 rfl) ic_m1 ?_
      exact q_iret (X := fun z => WG V o z) hE (dlX10_row_0.at 11 rfl) hm hQ rfl
    · refine q_aload_n hE 0 (dlX10_row_0.at 12 rfl) rfl rfl ?_
      refine q_iload_n hE 3 (dlX10_row_0.at 13 rfl) rfl rfl ?_
      refine q_iconst hE (dlX10_row_0.at 14 rfl) ic_0 ?_
      refine q_bipush hE (dlX10_row_0.at 15 rfl) bc_9 ?_
      refine q_callV_i (X := fun z => WG V o z) hE (As := [_, _, _]) (dlX10_row_0.at 16 rfl) mw_X10_in wm_X10_212 rfl rfl rfl rfl (Nat.zero_le _) (Nat.zero_le _) rfl kc10 g102 rfl (ok_X10_in hfx) hm (fun v5 h5 hm => ?_)
      refine q_if_ne hE (tgt := 34) (dlX10_row_0.at 17 rfl) (by decide) hm (fun hc6 hm => ?_) (fun hc6 hm => ?_)
      · refine q_bipush hE (dlX10_row_0.at 18 rfl) bc_m2 ?_
        exact q_iret (X := fun z => WG V o z) hE (dlX10_row_0.at 19 rfl) hm hQ rfl
      · refine q_aload_n hE 0 (dlX10_row_0.at 20 rfl) rfl rfl ?_
        refine q_get hE (dlX10_row_0.at 21 rfl) kc10 wf_X10_19 g102 rfl rfl rfl ?_
        refine q_iload_n hE 1 (dlX10_row_0.at 22 rfl) rfl rfl ?_
        refine q_iald hE (dlX10_row_0.at 23 rfl) g103 rfl hm (fun hm => ?_)
        refine q_bipush hE (dlX10_row_0.at 24 rfl) bc_6 ?_
        refine q_icmp_eq hE (tgt := 48) (dlX10_row_0.at 25 rfl) (by decide) hm (fun hc7 hm => ?_) (fun hc7 hm => ?_)
        · refine q_aload_n hE 0 (dlX10_row_0.at 28 rfl) rfl rfl ?_
          refine q_get hE (dlX10_row_0.at 29 rfl) kc10 wf_X10_29 g102 rfl rfl rfl ?_
          refine q_iconst hE (dlX10_row_0.at 30 rfl) ic_4 ?_
          refine q_iload_n hE 1 (dlX10_row_0.at 31 rfl) rfl rfl ?_
          refine q_imul hE (dlX10_row_0.at 32 rfl) ?_
          refine q_iload_n hE 2 (dlX10_row_0.at 33 rfl) rfl rfl ?_
          refine q_iadd hE (dlX10_row_0.at 34 rfl) ?_
          refine q_iald hE (dlX10_row_0.at 35 rfl) g106 rfl hm (fun hm => ?_)
          refine q_istore hE [(0, _), (1, _), (2, _), (3, _), (4, _)] (dlX10_row_0.at 36 rfl) rfl rfl ?_
          refine q_aload_n hE 0 (dlX10_row_0.at 37 rfl) rfl rfl ?_
          refine q_get hE (dlX10_row_0.at 38 rfl) kc10 wf_X10_29 g102 rfl rfl rfl ?_
          refine q_iconst hE (dlX10_row_0.at 39 rfl) ic_4 ?_
          refine q_iload_n hE 1 (dlX10_row_1.at 0 rfl) rfl rfl ?_
          refine q_imul hE (dlX10_row_1.at 1 rfl) ?_
          refine q_iload_n hE 2 (dlX10_row_1.at 2 rfl) rfl rfl ?_
          refine q_iadd hE (dlX10_row_1.at 3 rfl) ?_
          refine q_iload_n hE 3 (dlX10_row_1.at 4 rfl) rfl rfl ?_
          refine q_iast hE hfx (dlX10_row_1.at 5 rfl) g106 rfl u106 hm (fun hm => ?_)
          refine q_lth (X := fun z => WG V o z) hm (fun h8 hm => ?_)
          refine q_iload hE 4 (dlX10_row_1.at 6 rfl) rfl ?_
          exact q_iret (X := fun z => WG V o z) hE (dlX10_row_1.at 7 rfl) hm hQ rfl
        · refine q_bipush hE (dlX10_row_0.at 26 rfl) bc_m3 ?_
          exact q_iret (X := fun z => WG V o z) hE (dlX10_row_0.at 27 rfl) hm hQ rfl
set_option maxRecDepth 10000 in
theorem ok_X10_feed {V : Ev} {l : Launch} {o : PH} {F : Nat}  (hfx : V.2.2.2.2 = false) {a1 : Int32} {h : PH} : ∀ (v : Int32) (h' : PH), f_X10_feed F a1 h = some (v, h') → Ctr l V yX10_feed cX10_feed 2 (some .int) 2 [rf V 102, .int a1] 143 (WG V o h) 143 (WG V o (h')) (some (.int v)) 0 0 := by
  intro v h' hm
  refine Ctr.intro RX10 (by decide +kernel) rfl rfl rfl ?_
  intro E hE hQ _
  unfold f_X10_feed at hm
  refine q_aload_n hE 0 (dlX10_feed_0.at 0 rfl) rfl rfl ?_
  refine q_iload_n hE 1 (dlX10_feed_0.at 1 rfl) rfl rfl ?_
  refine q_iconst hE (dlX10_feed_0.at 2 rfl) ic_0 ?_
  refine q_bipush hE (dlX10_feed_0.at 3 rfl) bc_127 ?_
  refine q_callV_i (X := fun z => WG V o z) hE (As := [_, _, _]) (dlX10_feed_0.at 4 rfl) mw_X10_in wm_X10_212 rfl rfl rfl rfl (Nat.zero_le _) (Nat.zero_le _) rfl kc10 g102 rfl (ok_X10_in hfx) hm (fun v1 h1 hm => ?_)
  refine q_if_ne hE (tgt := 14) (dlX10_feed_0.at 5 rfl) (by decide) hm (fun hc2 hm => ?_) (fun hc2 hm => ?_)
  · refine q_bipush hE (dlX10_feed_0.at 6 rfl) bc_m2 ?_
    exact q_iret (X := fun z => WG V o z) hE (dlX10_feed_0.at 7 rfl) hm hQ rfl
  · refine q_aload_n hE 0 (dlX10_feed_0.at 8 rfl) rfl rfl ?_
    refine q_get hE (dlX10_feed_0.at 9 rfl) kc10 wf_X10_38 g102 rfl rfl rfl ?_
    refine q_bipush hE (dlX10_feed_0.at 10 rfl) bc_100 ?_
    refine q_icmp_ne hE (tgt := 26) (dlX10_feed_0.at 11 rfl) (by decide) hm (fun hc3 hm => ?_) (fun hc3 hm => ?_)
    · refine q_bipush hE (dlX10_feed_0.at 12 rfl) bc_m4 ?_
      exact q_iret (X := fun z => WG V o z) hE (dlX10_feed_0.at 13 rfl) hm hQ rfl
    · refine q_aload_n hE 0 (dlX10_feed_0.at 14 rfl) rfl rfl ?_
      refine q_get hE (dlX10_feed_0.at 15 rfl) kc10 wf_X10_47 g102 rfl rfl rfl ?_
      refine q_aload_n hE 0 (dlX10_feed_0.at 16 rfl) rfl rfl ?_
      refine q_get hE (dlX10_feed_0.at 17 rfl) kc10 wf_X10_38 g102 rfl rfl rfl ?_
      refine q_iload_n hE 1 (dlX10_feed_0.at 18 rfl) rfl rfl ?_
      refine q_iast hE hfx (dlX10_feed_0.at 19 rfl) g107 rfl u107 hm (fun hm => ?_)
      refine q_lth (X := fun z => WG V o z) hm (fun h4 hm => ?_)
      refine q_aload_n hE 0 (dlX10_feed_0.at 20 rfl) rfl rfl ?_
      refine q_dup hE (dlX10_feed_0.at 21 rfl) rfl ?_
      refine q_get hE (dlX10_feed_0.at 22 rfl) kc10 wf_X10_38 g102 rfl rfl rfl ?_
      refine q_iconst hE (dlX10_feed_0.at 23 rfl) ic_1 ?_
      refine q_iadd hE (dlX10_feed_0.at 24 rfl) ?_
      refine q_put hE hfx (dlX10_feed_0.at 25 rfl) kc10 wf_X10_38 g102 rfl rfl rfl rfl rfl rfl u102_9 ?_
      refine q_lth (X := fun z => WG V o z) hm (fun h5 hm => ?_)
      refine q_aload_n hE 0 (dlX10_feed_0.at 26 rfl) rfl rfl ?_
      refine q_get hE (dlX10_feed_0.at 27 rfl) kc10 wf_X10_38 g102 rfl rfl rfl ?_
      exact q_iret (X := fun z => WG V o z) hE (dlX10_feed_0.at 28 rfl) hm hQ rfl
set_option maxRecDepth 10000 in
theorem ok_X10_peek {V : Ev} {l : Launch} {o : PH} {F : Nat}  (hfx : V.2.2.2.2 = false)  {h : PH} : ∀ (v : Int32) (h' : PH), f_X10_peek F  h = some (v, h') → Ctr l V yX10_peek cX10_peek 1 (some .int) 1 [rf V 102] 143 (WG V o h) 143 (WG V o (h')) (some (.int v)) 0 0 := by
  intro v h' hm
  refine Ctr.intro RX10 (by decide +kernel) rfl rfl rfl ?_
  intro E hE hQ _
  unfold f_X10_peek at hm
  refine q_aload_n hE 0 (dlX10_peek_0.at 0 rfl) rfl rfl ?_
  refine q_get hE (dlX10_peek_0.at 1 rfl) kc10 wf_X10_41 g102 rfl rfl rfl ?_
  refine q_aload_n hE 0 (dlX10_peek_0.at 2 rfl) rfl rfl ?_
  refine q_get hE (dlX10_peek_0.at 3 rfl) kc10 wf_X10_38 g102 rfl rfl rfl ?_
  refine q_icmp_ge hE (tgt := 23) (dlX10_peek_0.at 4 rfl) (by decide) hm (fun hc1 hm => ?_) (fun hc1 hm => ?_)
  · refine q_iconst hE (dlX10_peek_0.at 11 rfl) ic_m1 ?_
    exact q_iret (X := fun z => WG V o z) hE (dlX10_peek_0.at 12 rfl) hm hQ rfl
  · refine q_aload_n hE 0 (dlX10_peek_0.at 5 rfl) rfl rfl ?_
    refine q_get hE (dlX10_peek_0.at 6 rfl) kc10 wf_X10_47 g102 rfl rfl rfl ?_
    refine q_aload_n hE 0 (dlX10_peek_0.at 7 rfl) rfl rfl ?_
    refine q_get hE (dlX10_peek_0.at 8 rfl) kc10 wf_X10_41 g102 rfl rfl rfl ?_
    refine q_iald hE (dlX10_peek_0.at 9 rfl) g107 rfl hm (fun hm => ?_)
    refine q_goto hE (tgt := 24) (dlX10_peek_0.at 10 rfl) (by decide) ?_
    exact q_iret (X := fun z => WG V o z) hE (dlX10_peek_0.at 12 rfl) hm hQ rfl
set_option maxRecDepth 10000 in
theorem ok_X10_takes {V : Ev} {l : Launch} {o : PH} {F : Nat}  (hfx : V.2.2.2.2 = false) {a1 : Int32} {h : PH} : ∀ (v : Int32) (h' : PH), f_X10_takes F a1 h = some (v, h') → Ctr l V yX10_takes cX10_takes 2 (some .boolean) 2 [rf V 102, .int a1] 143 (WG V o h) 143 (WG V o (h')) (some (.int v)) 0 0 := by
  intro v h' hm
  refine Ctr.intro RX10 (by decide +kernel) rfl rfl rfl ?_
  intro E hE hQ _
  unfold f_X10_takes at hm
  refine q_aload_n hE 0 (dlX10_takes_0.at 0 rfl) rfl rfl ?_
  refine q_callV_i (X := fun z => WG V o z) hE (As := []) (dlX10_takes_0.at 1 rfl) mw_X10_peek wm_X10_228 rfl rfl rfl rfl (Nat.zero_le _) (Nat.zero_le _) rfl kc10 g102 rfl (ok_X10_peek hfx) hm (fun v1 h1 hm => ?_)
  refine q_iload_n hE 1 (dlX10_takes_0.at 2 rfl) rfl rfl ?_
  refine q_icmp_eq hE (tgt := 10) (dlX10_takes_0.at 3 rfl) (by decide) hm (fun hc2 hm => ?_) (fun hc2 hm => ?_)
  · refine q_aload_n hE 0 (dlX10_takes_0.at 6 rfl) rfl rfl ?_
    refine q_dup hE (dlX10_takes_0.at 7 rfl) rfl ?_
    refine q_get hE (dlX10_takes_0.at 8 rfl) kc10 wf_X10_41 g102 rfl rfl rfl ?_
    refine q_iconst hE (dlX10_takes_0.at 9 rfl) ic_1 ?_
    refine q_iadd hE (dlX10_takes_0.at 10 rfl) ?_
    refine q_put hE hfx (dlX10_takes_0.at 11 rfl) kc10 wf_X10_41 g102 rfl rfl rfl rfl rfl rfl u102_10 ?_
    refine q_lth (X := fun z => WG V o z) hm (fun h3 hm => ?_)
    refine q_iconst hE (dlX10_takes_0.at 12 rfl) ic_1 ?_
    exact q_bret (X := fun z => WG V o z) hE (dlX10_takes_0.at 13 rfl) hm hQ rfl (by decide)
  · refine q_iconst hE (dlX10_takes_0.at 4 rfl) ic_0 ?_
    exact q_bret (X := fun z => WG V o z) hE (dlX10_takes_0.at 5 rfl) hm hQ rfl (by decide)
set_option maxRecDepth 10000 in
theorem ok_X10_emits {V : Ev} {l : Launch} {o : PH} {F : Nat}  (hfx : V.2.2.2.2 = false) {a1 : Int32} {h : PH} : ∀ (v : Unit) (h' : PH), f_X10_emits F a1 h = some (v, h') → Ctr l V yX10_emits cX10_emits 2 none 1 [rf V 102, .int a1] 143 (WG V o h) 143 (WG V o (h')) (none) 0 0 := by
  intro v h' hm
  refine Ctr.intro RX10 (by decide +kernel) rfl rfl rfl ?_
  intro E hE hQ _
  unfold f_X10_emits at hm
  refine q_aload_n hE 0 (dlX10_emits_0.at 0 rfl) rfl rfl ?_
  refine q_get hE (dlX10_emits_0.at 1 rfl) kc10 wf_X10_65 g102 rfl rfl rfl ?_
  refine q_aload_n hE 0 (dlX10_emits_0.at 2 rfl) rfl rfl ?_
  refine q_get hE (dlX10_emits_0.at 3 rfl) kc10 wf_X10_71 g102 rfl rfl rfl ?_
  refine q_iload_n hE 1 (dlX10_emits_0.at 4 rfl) rfl rfl ?_
  refine q_iast hE hfx (dlX10_emits_0.at 5 rfl) g113 rfl u113 hm (fun hm => ?_)
  refine q_lth (X := fun z => WG V o z) hm (fun h1 hm => ?_)
  refine q_aload_n hE 0 (dlX10_emits_0.at 6 rfl) rfl rfl ?_
  refine q_dup hE (dlX10_emits_0.at 7 rfl) rfl ?_
  refine q_get hE (dlX10_emits_0.at 8 rfl) kc10 wf_X10_71 g102 rfl rfl rfl ?_
  refine q_iconst hE (dlX10_emits_0.at 9 rfl) ic_1 ?_
  refine q_iadd hE (dlX10_emits_0.at 10 rfl) ?_
  refine q_put hE hfx (dlX10_emits_0.at 11 rfl) kc10 wf_X10_71 g102 rfl rfl rfl rfl rfl rfl u102_20 ?_
  refine q_lth (X := fun z => WG V o z) hm (fun h2 hm => ?_)
  exact q_vret (X := fun z => WG V o z) hE (dlX10_emits_0.at 12 rfl) hm hQ rfl
set_option maxRecDepth 10000 in
theorem okL_X10_settle_45 {V : Ev} {l : Launch} {o : PH} {F : Nat} {K0 : Int32 → PH → Option (Unit × PH)}  (hfx : V.2.2.2.2 = false) {E : Cx} (hE : CX E V l cX10_settle RX10 2 2 0 0 none) {r : Unit × PH} (hQ : RQ E V 143 (WG V o r.2) (none) 0 0) (hK0 : ∀ (y1 : Int32) (h : PH), K0 y1 h = some r → PW E V 0 0 143 (WG V o h) 0 [(0, rf V 102), (1, .int y1)] []) : ∀ (x1 : Int32) (h : PH), fL_X10_settle_45 F K0 x1 h = some r → PW E V 0 0 143 (WG V o h) 45 [(0, rf V 102), (1, .int x1)] [] := by
  intro x1 h hm
  unfold fL_X10_settle_45 at hm
  refine q_aload_n hE 0 (dlX10_settle_0.at 24 rfl) rfl rfl ?_
  refine q_dup hE (dlX10_settle_0.at 25 rfl) rfl ?_
  refine q_get hE (dlX10_settle_0.at 26 rfl) kc10 wf_X10_74 g102 rfl rfl rfl ?_
  refine q_iconst hE (dlX10_settle_0.at 27 rfl) ic_1 ?_
  refine q_isub hE (dlX10_settle_0.at 28 rfl) ?_
  refine q_put hE hfx (dlX10_settle_0.at 29 rfl) kc10 wf_X10_74 g102 rfl rfl rfl rfl rfl rfl u102_21 ?_
  refine q_lth (X := fun z => WG V o z) hm (fun h3 hm => ?_)
  refine q_aload_n hE 0 (dlX10_settle_0.at 30 rfl) rfl rfl ?_
  refine q_aload_n hE 0 (dlX10_settle_0.at 31 rfl) rfl rfl ?_
  refine q_get hE (dlX10_settle_0.at 32 rfl) kc10 wf_X10_68 g102 rfl rfl rfl ?_
  refine q_aload_n hE 0 (dlX10_settle_0.at 33 rfl) rfl rfl ?_
  refine q_get hE (dlX10_settle_0.at 34 rfl) kc10 wf_X10_74 g102 rfl rfl rfl ?_
  refine q_iald hE (dlX10_settle_0.at 35 rfl) g114 rfl hm (fun hm => ?_)
  refine q_ineg hE (dlX10_settle_0.at 36 rfl) ?_
  refine q_callV_v (X := fun z => WG V o z) hE (As := [_]) (dlX10_settle_0.at 37 rfl) mw_X10_emits wm_X10_239 rfl rfl rfl rfl (Nat.zero_le _) (Nat.zero_le _) rfl kc10 g102 rfl (ok_X10_emits hfx) hm (fun v4 h4 hm => ?_)
  refine q_goto hE (tgt := 0) (dlX10_settle_0.at 38 rfl) (by decide) ?_
  refine q_sub hE [0, 1] rfl ?_
  exact hK0 _ _ hm
set_option maxRecDepth 10000 in
theorem okL_X10_settle_0 {V : Ev} {l : Launch} {o : PH} {F : Nat}  (hfx : V.2.2.2.2 = false) {E : Cx} (hE : CX E V l cX10_settle RX10 2 2 0 0 none) {r : Unit × PH} (hQ : RQ E V 143 (WG V o r.2) (none) 0 0) : ∀ (n : Nat) (x1 : Int32) (h : PH), fL_X10_settle_0 F n x1 h = some r → PW E V 0 0 143 (WG V o h) 0 [(0, rf V 102), (1, .int x1)] [] := by
  intro n
  induction n with
  | zero => intro x1 h hm; cases hm
  | succ n ih =>
    intro x1 h hm
    rw [fL_X10_settle_0] at hm
    refine q_aload_n hE 0 (dlX10_settle_0.at 0 rfl) rfl rfl ?_
    refine q_get hE (dlX10_settle_0.at 1 rfl) kc10 wf_X10_74 g102 rfl rfl rfl ?_
    refine q_if_le hE (tgt := 72) (dlX10_settle_0.at 2 rfl) (by decide) hm (fun hc1 hm => ?_) (fun hc1 hm => ?_)
    · exact q_vret (X := fun z => WG V o z) hE (dlX10_settle_0.at 39 rfl) hm hQ rfl
    · refine q_aload_n hE 0 (dlX10_settle_0.at 3 rfl) rfl rfl ?_
      refine q_get hE (dlX10_settle_0.at 4 rfl) kc10 wf_X10_68 g102 rfl rfl rfl ?_
      refine q_aload_n hE 0 (dlX10_settle_0.at 5 rfl) rfl rfl ?_
      refine q_get hE (dlX10_settle_0.at 6 rfl) kc10 wf_X10_74 g102 rfl rfl rfl ?_
      refine q_iconst hE (dlX10_settle_0.at 7 rfl) ic_1 ?_
      refine q_isub hE (dlX10_settle_0.at 8 rfl) ?_
      refine q_iald hE (dlX10_settle_0.at 9 rfl) g114 rfl hm (fun hm => ?_)
      refine q_bipush hE (dlX10_settle_0.at 10 rfl) bc_38 ?_
      refine q_icmp_eq hE (tgt := 45) (dlX10_settle_0.at 11 rfl) (by decide) hm (fun hc2 hm => ?_) (fun hc2 hm => ?_)
      · refine q_sub hE [0, 1] rfl ?_
        exact okL_X10_settle_45 hfx hE hQ (fun x5 h6  hm => by
              refine q_sub hE [0, 1] rfl ?_
              exact ih _ _  hm) _ _  hm
      · refine q_aload_n hE 0 (dlX10_settle_0.at 12 rfl) rfl rfl ?_
        refine q_get hE (dlX10_settle_0.at 13 rfl) kc10 wf_X10_68 g102 rfl rfl rfl ?_
        refine q_aload_n hE 0 (dlX10_settle_0.at 14 rfl) rfl rfl ?_
        refine q_get hE (dlX10_settle_0.at 15 rfl) kc10 wf_X10_74 g102 rfl rfl rfl ?_
        refine q_iconst hE (dlX10_settle_0.at 16 rfl) ic_1 ?_
        refine q_isub hE (dlX10_settle_0.at 17 rfl) ?_
        refine q_iald hE (dlX10_settle_0.at 18 rfl) g114 rfl hm (fun hm => ?_)
        refine q_bipush hE (dlX10_settle_0.at 19 rfl) bc_124 ?_
        refine q_icmp_ne hE (tgt := 72) (dlX10_settle_0.at 20 rfl) (by decide) hm (fun hc7 hm => ?_) (fun hc7 hm => ?_)
        · refine q_iload_n hE 1 (dlX10_settle_0.at 21 rfl) rfl rfl ?_
          refine q_bipush hE (dlX10_settle_0.at 22 rfl) bc_38 ?_
          refine q_icmp_eq hE (tgt := 72) (dlX10_settle_0.at 23 rfl) (by decide) hm (fun hc8 hm => ?_) (fun hc8 hm => ?_)
          · exact q_vret (X := fun z => WG V o z) hE (dlX10_settle_0.at 39 rfl) hm hQ rfl
          · refine q_sub hE [0, 1] rfl ?_
            exact okL_X10_settle_45 hfx hE hQ (fun x9 h10  hm => by
                  refine q_sub hE [0, 1] rfl ?_
                  exact ih _ _  hm) _ _  hm
        · exact q_vret (X := fun z => WG V o z) hE (dlX10_settle_0.at 39 rfl) hm hQ rfl
set_option maxRecDepth 10000 in
theorem ok_X10_settle {V : Ev} {l : Launch} {o : PH} {F : Nat}  (hfx : V.2.2.2.2 = false) {a1 : Int32} {h : PH} : ∀ (v : Unit) (h' : PH), f_X10_settle F a1 h = some (v, h') → Ctr l V yX10_settle cX10_settle 2 none 2 [rf V 102, .int a1] 143 (WG V o h) 143 (WG V o (h')) (none) 0 0 := by
  intro v h' hm
  refine Ctr.intro RX10 (by decide +kernel) rfl rfl rfl ?_
  intro E hE hQ _
  unfold f_X10_settle at hm
  refine q_sub hE [0, 1] rfl ?_
  exact okL_X10_settle_0 hfx hE hQ  F _ _  hm
set_option maxRecDepth 10000 in
theorem ok_X10_place {V : Ev} {l : Launch} {o : PH} {F : Nat}  (hfx : V.2.2.2.2 = false) {a1 : Int32} {h : PH} : ∀ (v : Int32) (h' : PH), f_X10_place F a1 h = some (v, h') → Ctr l V yX10_place cX10_place 2 (some .int) 1 [rf V 102, .int a1] 143 (WG V o h) 143 (WG V o (h')) (some (.int v)) 0 0 := by
  intro v h' hm
  refine Ctr.intro RX10 (by decide +kernel) rfl rfl rfl ?_
  intro E hE hQ _
  unfold f_X10_place at hm
  refine q_iload_n hE 1 (dlX10_place_0.at 0 rfl) rfl rfl ?_
  refine q_tcase hE (dlX10_place_0.at 1 rfl) (99 : Int32) 96 (by decide) hm (fun _ hm => ?_) (fun hn1_99 hm => ?_)
  · refine q_iconst hE (dlX10_place_0.at 2 rfl) ic_0 ?_
    exact q_iret (X := fun z => WG V o z) hE (dlX10_place_0.at 3 rfl) hm hQ rfl
  · refine q_tcase hE (dlX10_place_0.at 1 rfl) (100 : Int32) 102 (by decide) hm (fun _ hm => ?_) (fun hn1_100 hm => ?_)
    · refine q_iconst hE (dlX10_place_0.at 8 rfl) ic_3 ?_
      exact q_iret (X := fun z => WG V o z) hE (dlX10_place_0.at 9 rfl) hm hQ rfl
    · refine q_tcase hE (dlX10_place_0.at 1 rfl) (101 : Int32) 108 (by decide) hm (fun _ hm => ?_) (fun hn1_101 hm => ?_)
      · refine q_iconst hE (dlX10_place_0.at 14 rfl) ic_m1 ?_
        exact q_iret (X := fun z => WG V o z) hE (dlX10_place_0.at 15 rfl) hm hQ rfl
      · refine q_tcase hE (dlX10_place_0.at 1 rfl) (102 : Int32) 108 (by decide) hm (fun _ hm => ?_) (fun hn1_102 hm => ?_)
        · refine q_iconst hE (dlX10_place_0.at 14 rfl) ic_m1 ?_
          exact q_iret (X := fun z => WG V o z) hE (dlX10_place_0.at 15 rfl) hm hQ rfl
        · refine q_tcase hE (dlX10_place_0.at 1 rfl) (103 : Int32) 108 (by decide) hm (fun _ hm => ?_) (fun hn1_103 hm => ?_)
          · refine q_iconst hE (dlX10_place_0.at 14 rfl) ic_m1 ?_
            exact q_iret (X := fun z => WG V o z) hE (dlX10_place_0.at 15 rfl) hm hQ rfl
          · refine q_tcase hE (dlX10_place_0.at 1 rfl) (104 : Int32) 106 (by decide) hm (fun _ hm => ?_) (fun hn1_104 hm => ?_)
            · refine q_iconst hE (dlX10_place_0.at 12 rfl) ic_5 ?_
              exact q_iret (X := fun z => WG V o z) hE (dlX10_place_0.at 13 rfl) hm hQ rfl
            · refine q_tcase hE (dlX10_place_0.at 1 rfl) (105 : Int32) 108 (by decide) hm (fun _ hm => ?_) (fun hn1_105 hm => ?_)
              · refine q_iconst hE (dlX10_place_0.at 14 rfl) ic_m1 ?_
                exact q_iret (X := fun z => WG V o z) hE (dlX10_place_0.at 15 rfl) hm hQ rfl
              · refine q_tcase hE (dlX10_place_0.at 1 rfl) (106 : Int32) 108 (by decide) hm (fun _ hm => ?_) (fun hn1_106 hm => ?_)
                · refine q_iconst hE (dlX10_place_0.at 14 rfl) ic_m1 ?_
                  exact q_iret (X := fun z => WG V o z) hE (dlX10_place_0.at 15 rfl) hm hQ rfl
                · refine q_tcase hE (dlX10_place_0.at 1 rfl) (107 : Int32) 98 (by decide) hm (fun _ hm => ?_) (fun hn1_107 hm => ?_)
                  · refine q_iconst hE (dlX10_place_0.at 4 rfl) ic_1 ?_
                    exact q_iret (X := fun z => WG V o z) hE (dlX10_place_0.at 5 rfl) hm hQ rfl
                  · refine q_tcase hE (dlX10_place_0.at 1 rfl) (108 : Int32) 108 (by decide) hm (fun _ hm => ?_) (fun hn1_108 hm => ?_)
                    · refine q_iconst hE (dlX10_place_0.at 14 rfl) ic_m1 ?_
                      exact q_iret (X := fun z => WG V o z) hE (dlX10_place_0.at 15 rfl) hm hQ rfl
                    · refine q_tcase hE (dlX10_place_0.at 1 rfl) (109 : Int32) 108 (by decide) hm (fun _ hm => ?_) (fun hn1_109 hm => ?_)
                      · refine q_iconst hE (dlX10_place_0.at 14 rfl) ic_m1 ?_
                        exact q_iret (X := fun z => WG V o z) hE (dlX10_place_0.at 15 rfl) hm hQ rfl
                      · refine q_tcase hE (dlX10_place_0.at 1 rfl) (110 : Int32) 108 (by decide) hm (fun _ hm => ?_) (fun hn1_110 hm => ?_)
                        · refine q_iconst hE (dlX10_place_0.at 14 rfl) ic_m1 ?_
                          exact q_iret (X := fun z => WG V o z) hE (dlX10_place_0.at 15 rfl) hm hQ rfl
                        · refine q_tcase hE (dlX10_place_0.at 1 rfl) (111 : Int32) 108 (by decide) hm (fun _ hm => ?_) (fun hn1_111 hm => ?_)
                          · refine q_iconst hE (dlX10_place_0.at 14 rfl) ic_m1 ?_
                            exact q_iret (X := fun z => WG V o z) hE (dlX10_place_0.at 15 rfl) hm hQ rfl
                          · refine q_tcase hE (dlX10_place_0.at 1 rfl) (112 : Int32) 108 (by decide) hm (fun _ hm => ?_) (fun hn1_112 hm => ?_)
                            · refine q_iconst hE (dlX10_place_0.at 14 rfl) ic_m1 ?_
                              exact q_iret (X := fun z => WG V o z) hE (dlX10_place_0.at 15 rfl) hm hQ rfl
                            · refine q_tcase hE (dlX10_place_0.at 1 rfl) (113 : Int32) 108 (by decide) hm (fun _ hm => ?_) (fun hn1_113 hm => ?_)
                              · refine q_iconst hE (dlX10_place_0.at 14 rfl) ic_m1 ?_
                                exact q_iret (X := fun z => WG V o z) hE (dlX10_place_0.at 15 rfl) hm hQ rfl
                              · refine q_tcase hE (dlX10_place_0.at 1 rfl) (114 : Int32) 108 (by decide) hm (fun _ hm => ?_) (fun hn1_114 hm => ?_)
                                · refine q_iconst hE (dlX10_place_0.at 14 rfl) ic_m1 ?_
                                  exact q_iret (X := fun z => WG V o z) hE (dlX10_place_0.at 15 rfl) hm hQ rfl
                                · refine q_tcase hE (dlX10_place_0.at 1 rfl) (115 : Int32) 108 (by decide) hm (fun _ hm => ?_) (fun hn1_115 hm => ?_)
                                  · refine q_iconst hE (dlX10_place_0.at 14 rfl) ic_m1 ?_
                                    exact q_iret (X := fun z => WG V o z) hE (dlX10_place_0.at 15 rfl) hm hQ rfl
                                  · refine q_tcase hE (dlX10_place_0.at 1 rfl) (116 : Int32) 104 (by decide) hm (fun _ hm => ?_) (fun hn1_116 hm => ?_)
                                    · refine q_iconst hE (dlX10_place_0.at 10 rfl) ic_4 ?_
                                      exact q_iret (X := fun z => WG V o z) hE (dlX10_place_0.at 11 rfl) hm hQ rfl
                                    · refine q_tcase hE (dlX10_place_0.at 1 rfl) (117 : Int32) 108 (by decide) hm (fun _ hm => ?_) (fun hn1_117 hm => ?_)
                                      · refine q_iconst hE (dlX10_place_0.at 14 rfl) ic_m1 ?_
                                        exact q_iret (X := fun z => WG V o z) hE (dlX10_place_0.at 15 rfl) hm hQ rfl
                                      · refine q_tcase hE (dlX10_place_0.at 1 rfl) (118 : Int32) 100 (by decide) hm (fun _ hm => ?_) (fun hn1_118 hm => ?_)
                                        · refine q_iconst hE (dlX10_place_0.at 6 rfl) ic_2 ?_
                                          exact q_iret (X := fun z => WG V o z) hE (dlX10_place_0.at 7 rfl) hm hQ rfl
                                        · refine q_tdef hE (tgt := 108) (dlX10_place_0.at 1 rfl) (by have := lv_neT (a := 99) hn1_99 (by decide); have := lv_neT (a := 100) hn1_100 (by decide); have := lv_neT (a := 101) hn1_101 (by decide); have := lv_neT (a := 102) hn1_102 (by decide); have := lv_neT (a := 103) hn1_103 (by decide); have := lv_neT (a := 104) hn1_104 (by decide); have := lv_neT (a := 105) hn1_105 (by decide); have := lv_neT (a := 106) hn1_106 (by decide); have := lv_neT (a := 107) hn1_107 (by decide); have := lv_neT (a := 108) hn1_108 (by decide); have := lv_neT (a := 109) hn1_109 (by decide); have := lv_neT (a := 110) hn1_110 (by decide); have := lv_neT (a := 111) hn1_111 (by decide); have := lv_neT (a := 112) hn1_112 (by decide); have := lv_neT (a := 113) hn1_113 (by decide); have := lv_neT (a := 114) hn1_114 (by decide); have := lv_neT (a := 115) hn1_115 (by decide); have := lv_neT (a := 116) hn1_116 (by decide); have := lv_neT (a := 117) hn1_117 (by decide); have := lv_neT (a := 118) hn1_118 (by decide); omega) (by decide) ?_
                                          refine q_iconst hE (dlX10_place_0.at 14 rfl) ic_m1 ?_
                                          exact q_iret (X := fun z => WG V o z) hE (dlX10_place_0.at 15 rfl) hm hQ rfl
