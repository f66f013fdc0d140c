set_option maxRecDepth 10000 in
theorem ok_X9_news {V : Ev} {l : Launch} {o : PH} {F : Nat}  (hfx : V.2.2.2.2 = false) {a1 : Int32} {a2 : Int32} {h : PH} : ∀ (v : Int32) (h' : PH), f_X9_news F a1 a2 h = some (v, h') → Ctr l V yX9_news cX9_news 3 (some .int) 2 [rf V 0, .int a1, .int a2] 143 (WG V h o) 143 (WG V (h') o) (some (.int v)) 0 0 := by
  intro v h' hm
  refine Ctr.intro RX9 (by decide +kernel) rfl rfl rfl ?_
  intro E hE hQ _
  unfold f_X9_news at hm
  refine q_aload_n hE 0 (dlX9_news_0.at 0 rfl) rfl rfl ?_
  refine q_iload_n hE 1 (dlX9_news_0.at 1 rfl) rfl rfl ?_
  refine q_callV_i (X := fun z => WG V z o) hE (As := [_]) (dlX9_news_0.at 2 rfl) mw_X9_isClock wm_X9_93 rfl rfl rfl rfl (Nat.zero_le _) (Nat.zero_le _) rfl kc9 g0 rfl (ok_X9_isClock hfx) hm (fun v1 h1 hm => ?_)
  refine q_if_ne hE (tgt := 10) (dlX9_news_0.at 3 rfl) (by decide) hm (fun hc2 hm => ?_) (fun hc2 hm => ?_)
  · refine q_iconst hE (dlX9_news_0.at 4 rfl) ic_m1 ?_
    exact q_iret (X := fun z => WG V z o) hE (dlX9_news_0.at 5 rfl) hm hQ rfl
  · refine q_iload_n hE 2 (dlX9_news_0.at 6 rfl) rfl rfl ?_
    refine q_iconst hE (dlX9_news_0.at 7 rfl) ic_0 ?_
    refine q_sipush hE (dlX9_news_0.at 8 rfl) sc_9999 ?_
    refine q_callS_i (X := fun z => WG V z o) hE (As := [_, _, _]) (dlX9_news_0.at 9 rfl) mw_X9_within wm_X9_73 rfl rfl rfl rfl (Nat.zero_le _) (Nat.zero_le _) rfl (ok_X9_within hfx) hm (fun v3 h3 hm => ?_)
    refine q_if_eq hE (tgt := 33) (dlX9_news_0.at 10 rfl) (by decide) hm (fun hc4 hm => ?_) (fun hc4 hm => ?_)
    · refine q_bipush hE (dlX9_news_0.at 17 rfl) bc_m2 ?_
      exact q_iret (X := fun z => WG V z o) hE (dlX9_news_0.at 18 rfl) hm hQ rfl
    · refine q_aload_n hE 0 (dlX9_news_0.at 11 rfl) rfl rfl ?_
      refine q_get hE (dlX9_news_0.at 12 rfl) kc9 wf_X9_12 g0 rfl rfl rfl ?_
      refine q_iload_n hE 1 (dlX9_news_0.at 13 rfl) rfl rfl ?_
      refine q_iload_n hE 2 (dlX9_news_0.at 14 rfl) rfl rfl ?_
      refine q_callVN_i (X := fun z => WG V z o) hE (As := [_, _]) (dlX9_news_0.at 15 rfl) mw_X7_newsOf wm_X9_126 rfl rfl rfl rfl (Nat.zero_le _) (Nat.zero_le _) rfl kc7 g1 rfl (ok_X7_newsOf hfx) hm (fun v5 h5 hm => ?_)
      refine q_goto hE (tgt := 35) (dlX9_news_0.at 16 rfl) (by decide) ?_
      exact q_iret (X := fun z => WG V z o) hE (dlX9_news_0.at 18 rfl) hm hQ rfl
set_option maxRecDepth 10000 in
theorem ok_X9_set {V : Ev} {l : Launch} {o : PH} {F : Nat}  (hfx : V.2.2.2.2 = false) {a1 : Int32} {a2 : Int32} {h : PH} : ∀ (v : Int32) (h' : PH), f_X9_set F a1 a2 h = some (v, h') → Ctr l V yX9_set cX9_set 4 (some .int) 2 [rf V 0, .int a1, .int a2] 143 (WG V h o) 143 (WG V (h') o) (some (.int v)) 0 0 := by
  intro v h' hm
  refine Ctr.intro RX9 (by decide +kernel) rfl rfl rfl ?_
  intro E hE hQ _
  unfold f_X9_set at hm
  refine q_aload_n hE 0 (dlX9_set_0.at 0 rfl) rfl rfl ?_
  refine q_iload_n hE 1 (dlX9_set_0.at 1 rfl) rfl rfl ?_
  refine q_callV_i (X := fun z => WG V z o) hE (As := [_]) (dlX9_set_0.at 2 rfl) mw_X9_isClock wm_X9_93 rfl rfl rfl rfl (Nat.zero_le _) (Nat.zero_le _) rfl kc9 g0 rfl (ok_X9_isClock hfx) hm (fun v1 h1 hm => ?_)
  refine q_if_ne hE (tgt := 10) (dlX9_set_0.at 3 rfl) (by decide) hm (fun hc2 hm => ?_) (fun hc2 hm => ?_)
  · refine q_iconst hE (dlX9_set_0.at 4 rfl) ic_m1 ?_
    exact q_iret (X := fun z => WG V z o) hE (dlX9_set_0.at 5 rfl) hm hQ rfl
  · refine q_iload_n hE 2 (dlX9_set_0.at 6 rfl) rfl rfl ?_
    refine q_iconst hE (dlX9_set_0.at 7 rfl) ic_0 ?_
    refine q_aload_n hE 0 (dlX9_set_0.at 8 rfl) rfl rfl ?_
    refine q_get hE (dlX9_set_0.at 9 rfl) kc9 wf_X9_12 g0 rfl rfl rfl ?_
    refine q_getN hE (dlX9_set_0.at 10 rfl) kc7 wf_X9_77 g1 rfl rfl rfl ?_
    refine q_getN hE (dlX9_set_0.at 11 rfl) kc3 wf_X9_81 g6 rfl rfl rfl ?_
    refine q_callS_i (X := fun z => WG V z o) hE (As := [_, _, _]) (dlX9_set_0.at 12 rfl) mw_X9_within wm_X9_73 rfl rfl rfl rfl (Nat.zero_le _) (Nat.zero_le _) rfl (ok_X9_within hfx) hm (fun v3 h3 hm => ?_)
    refine q_if_ne hE (tgt := 31) (dlX9_set_0.at 13 rfl) (by decide) hm (fun hc4 hm => ?_) (fun hc4 hm => ?_)
    · refine q_bipush hE (dlX9_set_0.at 14 rfl) bc_m2 ?_
      exact q_iret (X := fun z => WG V z o) hE (dlX9_set_0.at 15 rfl) hm hQ rfl
    · refine q_aload_n hE 0 (dlX9_set_0.at 16 rfl) rfl rfl ?_
      refine q_get hE (dlX9_set_0.at 17 rfl) kc9 wf_X9_12 g0 rfl rfl rfl ?_
      refine q_getN hE (dlX9_set_0.at 18 rfl) kc7 wf_X9_77 g1 rfl rfl rfl ?_
      refine q_getN hE (dlX9_set_0.at 19 rfl) kc3 wf_X9_104 g6 rfl rfl rfl ?_
      refine q_iload_n hE 1 (dlX9_set_0.at 20 rfl) rfl rfl ?_
      refine q_iald hE (dlX9_set_0.at 21 rfl) g7 rfl hm (fun hm => ?_)
      refine q_istore_n hE [(0, _), (1, _), (2, _), (3, _)] (dlX9_set_0.at 22 rfl) rfl rfl rfl ?_
      refine q_aload_n hE 0 (dlX9_set_0.at 23 rfl) rfl rfl ?_
      refine q_get hE (dlX9_set_0.at 24 rfl) kc9 wf_X9_12 g0 rfl rfl rfl ?_
      refine q_getN hE (dlX9_set_0.at 25 rfl) kc7 wf_X9_77 g1 rfl rfl rfl ?_
      refine q_getN hE (dlX9_set_0.at 26 rfl) kc3 wf_X9_104 g6 rfl rfl rfl ?_
      refine q_iload_n hE 1 (dlX9_set_0.at 27 rfl) rfl rfl ?_
      refine q_iload_n hE 2 (dlX9_set_0.at 28 rfl) rfl rfl ?_
      refine q_iast hE hfx (dlX9_set_0.at 29 rfl) g7 rfl u7 hm (fun hm => ?_)
      refine q_lth (X := fun z => WG V z o) hm (fun h5 hm => ?_)
      refine q_iload_n hE 3 (dlX9_set_0.at 30 rfl) rfl rfl ?_
      exact q_iret (X := fun z => WG V z o) hE (dlX9_set_0.at 31 rfl) hm hQ rfl
set_option maxRecDepth 10000 in
theorem ok_X9_balk {V : Ev} {l : Launch} {o : PH} {F : Nat}  (hfx : V.2.2.2.2 = false) {a1 : Int32} {a2 : Int32} {h : PH} : ∀ (v : Int32) (h' : PH), f_X9_balk F a1 a2 h = some (v, h') → Ctr l V yX9_balk cX9_balk 4 (some .int) 2 [rf V 0, .int a1, .int a2] 143 (WG V h o) 143 (WG V (h') o) (some (.int v)) 0 0 := by
  intro v h' hm
  refine Ctr.intro RX9 (by decide +kernel) rfl rfl rfl ?_
  intro E hE hQ _
  unfold f_X9_balk at hm
  refine q_aload_n hE 0 (dlX9_balk_0.at 0 rfl) rfl rfl ?_
  refine q_iload_n hE 1 (dlX9_balk_0.at 1 rfl) rfl rfl ?_
  refine q_callV_i (X := fun z => WG V z o) hE (As := [_]) (dlX9_balk_0.at 2 rfl) mw_X9_isClock wm_X9_93 rfl rfl rfl rfl (Nat.zero_le _) (Nat.zero_le _) rfl kc9 g0 rfl (ok_X9_isClock hfx) hm (fun v1 h1 hm => ?_)
  refine q_if_ne hE (tgt := 10) (dlX9_balk_0.at 3 rfl) (by decide) hm (fun hc2 hm => ?_) (fun hc2 hm => ?_)
  · refine q_iconst hE (dlX9_balk_0.at 4 rfl) ic_m1 ?_
    exact q_iret (X := fun z => WG V z o) hE (dlX9_balk_0.at 5 rfl) hm hQ rfl
  · refine q_aload_n hE 0 (dlX9_balk_0.at 6 rfl) rfl rfl ?_
    refine q_get hE (dlX9_balk_0.at 7 rfl) kc9 wf_X9_12 g0 rfl rfl rfl ?_
    refine q_getN hE (dlX9_balk_0.at 8 rfl) kc7 wf_X9_77 g1 rfl rfl rfl ?_
    refine q_getN hE (dlX9_balk_0.at 9 rfl) kc3 wf_X9_107 g6 rfl rfl rfl ?_
    refine q_iload_n hE 1 (dlX9_balk_0.at 10 rfl) rfl rfl ?_
    refine q_zald hE (dlX9_balk_0.at 11 rfl) g8 rfl hm (fun hm => ?_)
    refine q_if_eq hE (tgt := 29) (dlX9_balk_0.at 12 rfl) (by decide) hm (fun hc3 hm => ?_) (fun hc3 hm => ?_)
    · refine q_iconst hE (dlX9_balk_0.at 15 rfl) ic_0 ?_
      refine q_istore_n hE [(0, _), (1, _), (2, _), (3, _)] (dlX9_balk_0.at 16 rfl) rfl rfl rfl ?_
      refine q_aload_n hE 0 (dlX9_balk_0.at 17 rfl) rfl rfl ?_
      refine q_get hE (dlX9_balk_0.at 18 rfl) kc9 wf_X9_12 g0 rfl rfl rfl ?_
      refine q_getN hE (dlX9_balk_0.at 19 rfl) kc7 wf_X9_77 g1 rfl rfl rfl ?_
      refine q_getN hE (dlX9_balk_0.at 20 rfl) kc3 wf_X9_107 g6 rfl rfl rfl ?_
      refine q_iload_n hE 1 (dlX9_balk_0.at 21 rfl) rfl rfl ?_
      refine q_iload_n hE 2 (dlX9_balk_0.at 22 rfl) rfl rfl ?_
      refine q_zast hE hfx (dlX9_balk_0.at 23 rfl) g8 rfl u8 hm (fun hm => ?_)
      refine q_lth (X := fun z => WG V z o) hm (fun h4 hm => ?_)
      refine q_iload_n hE 3 (dlX9_balk_0.at 24 rfl) rfl rfl ?_
      exact q_iret (X := fun z => WG V z o) hE (dlX9_balk_0.at 25 rfl) hm hQ rfl
    · refine q_iconst hE (dlX9_balk_0.at 13 rfl) ic_1 ?_
      refine q_goto hE (tgt := 30) (dlX9_balk_0.at 14 rfl) (by decide) ?_
      refine q_istore_n hE [(0, _), (1, _), (2, _), (3, _)] (dlX9_balk_0.at 16 rfl) rfl rfl rfl ?_
      refine q_aload_n hE 0 (dlX9_balk_0.at 17 rfl) rfl rfl ?_
      refine q_get hE (dlX9_balk_0.at 18 rfl) kc9 wf_X9_12 g0 rfl rfl rfl ?_
      refine q_getN hE (dlX9_balk_0.at 19 rfl) kc7 wf_X9_77 g1 rfl rfl rfl ?_
      refine q_getN hE (dlX9_balk_0.at 20 rfl) kc3 wf_X9_107 g6 rfl rfl rfl ?_
      refine q_iload_n hE 1 (dlX9_balk_0.at 21 rfl) rfl rfl ?_
      refine q_iload_n hE 2 (dlX9_balk_0.at 22 rfl) rfl rfl ?_
      refine q_zast hE hfx (dlX9_balk_0.at 23 rfl) g8 rfl u8 hm (fun hm => ?_)
      refine q_lth (X := fun z => WG V z o) hm (fun h5 hm => ?_)
      refine q_iload_n hE 3 (dlX9_balk_0.at 24 rfl) rfl rfl ?_
      exact q_iret (X := fun z => WG V z o) hE (dlX9_balk_0.at 25 rfl) hm hQ rfl
set_option maxRecDepth 10000 in
theorem ok_X9_row {V : Ev} {l : Launch} {o : PH} {F : Nat}  (hfx : V.2.2.2.2 = false) {a1 : Int32} {a2 : Int32} {a3 : Int32} {h : PH} : ∀ (v : Int32) (h' : PH), f_X9_row F a1 a2 a3 h = some (v, h') → Ctr l V yX9_row cX9_row 5 (some .int) 2 [rf V 0, .int a1, .int a2, .int a3] 143 (WG V h o) 143 (WG V (h') o) (some (.int v)) 0 0 := by
  intro v h' hm
  refine Ctr.intro RX9 (by decide +kernel) rfl rfl rfl ?_
  intro E hE hQ _
  unfold f_X9_row at hm
  refine q_aload_n hE 0 (dlX9_row_0.at 0 rfl) rfl rfl ?_
  refine q_iload_n hE 1 (dlX9_row_0.at 1 rfl) rfl rfl ?_
  refine q_callV_i (X := fun z => WG V z o) hE (As := [_]) (dlX9_row_0.at 2 rfl) mw_X9_isClock wm_X9_93 rfl rfl rfl rfl (Nat.zero_le _) (Nat.zero_le _) rfl kc9 g0 rfl (ok_X9_isClock hfx) hm (fun v1 h1 hm => ?_)
  refine q_if_eq hE (tgt := 17) (dlX9_row_0.at 3 rfl) (by decide) hm (fun hc2 hm => ?_) (fun hc2 hm => ?_)
  · refine q_iconst hE (dlX9_row_0.at 9 rfl) ic_m1 ?_
    exact q_iret (X := fun z => WG V z o) hE (dlX9_row_0.at 10 rfl) hm hQ rfl
  · refine q_iload_n hE 2 (dlX9_row_0.at 4 rfl) rfl rfl ?_
    refine q_iconst hE (dlX9_row_0.at 5 rfl) ic_0 ?_
    refine q_iconst hE (dlX9_row_0.at 6 rfl) ic_3 ?_
    refine q_callS_i (X := fun z => WG V z o) hE (As := [_, _, _]) (dlX9_row_0.at 7 rfl) mw_X9_within wm_X9_73 rfl rfl rfl rfl (Nat.zero_le _) (Nat.zero_le _) rfl (ok_X9_within hfx) hm (fun v3 h3 hm => ?_)
    refine q_if_ne hE (tgt := 19) (dlX9_row_0.at 8 rfl) (by decide) hm (fun hc4 hm => ?_) (fun hc4 hm => ?_)
    · refine q_iconst hE (dlX9_row_0.at 9 rfl) ic_m1 ?_
      exact q_iret (X := fun z => WG V z o) hE (dlX9_row_0.at 10 rfl) hm hQ rfl
    · refine q_iload_n hE 3 (dlX9_row_0.at 11 rfl) rfl rfl ?_
      refine q_iconst hE (dlX9_row_0.at 12 rfl) ic_0 ?_
      refine q_bipush hE (dlX9_row_0.at 13 rfl) bc_9 ?_
      refine q_callS_i (X := fun z => WG V z o) hE (As := [_, _, _]) (dlX9_row_0.at 14 rfl) mw_X9_within wm_X9_73 rfl rfl rfl rfl (Nat.zero_le _) (Nat.zero_le _) rfl (ok_X9_within hfx) hm (fun v5 h5 hm => ?_)
      refine q_if_ne hE (tgt := 32) (dlX9_row_0.at 15 rfl) (by decide) hm (fun hc6 hm => ?_) (fun hc6 hm => ?_)
      · refine q_bipush hE (dlX9_row_0.at 16 rfl) bc_m2 ?_
        exact q_iret (X := fun z => WG V z o) hE (dlX9_row_0.at 17 rfl) hm hQ rfl
      · refine q_aload_n hE 0 (dlX9_row_0.at 18 rfl) rfl rfl ?_
        refine q_get hE (dlX9_row_0.at 19 rfl) kc9 wf_X9_12 g0 rfl rfl rfl ?_
        refine q_getN hE (dlX9_row_0.at 20 rfl) kc7 wf_X9_97 g1 rfl rfl rfl ?_
        refine q_iload_n hE 1 (dlX9_row_0.at 21 rfl) rfl rfl ?_
        refine q_iald hE (dlX9_row_0.at 22 rfl) g2 rfl hm (fun hm => ?_)
        refine q_bipush hE (dlX9_row_0.at 23 rfl) bc_6 ?_
        refine q_icmp_eq hE (tgt := 49) (dlX9_row_0.at 24 rfl) (by decide) hm (fun hc7 hm => ?_) (fun hc7 hm => ?_)
        · refine q_aload_n hE 0 (dlX9_row_0.at 27 rfl) rfl rfl ?_
          refine q_get hE (dlX9_row_0.at 28 rfl) kc9 wf_X9_12 g0 rfl rfl rfl ?_
          refine q_getN hE (dlX9_row_0.at 29 rfl) kc7 wf_X9_129 g1 rfl rfl rfl ?_
          refine q_iload_n hE 1 (dlX9_row_0.at 30 rfl) rfl rfl ?_
          refine q_iconst hE (dlX9_row_0.at 31 rfl) ic_4 ?_
          refine q_imul hE (dlX9_row_0.at 32 rfl) ?_
          refine q_iload_n hE 2 (dlX9_row_0.at 33 rfl) rfl rfl ?_
          refine q_iadd hE (dlX9_row_0.at 34 rfl) ?_
          refine q_iald hE (dlX9_row_0.at 35 rfl) g4 rfl hm (fun hm => ?_)
          refine q_istore hE [(0, _), (1, _), (2, _), (3, _), (4, _)] (dlX9_row_0.at 36 rfl) rfl rfl ?_
          refine q_aload_n hE 0 (dlX9_row_0.at 37 rfl) rfl rfl ?_
          refine q_get hE (dlX9_row_0.at 38 rfl) kc9 wf_X9_12 g0 rfl rfl rfl ?_
          refine q_getN hE (dlX9_row_0.at 39 rfl) kc7 wf_X9_129 g1 rfl rfl rfl ?_
          refine q_iload_n hE 1 (dlX9_row_1.at 0 rfl) rfl rfl ?_
          refine q_iconst hE (dlX9_row_1.at 1 rfl) ic_4 ?_
          refine q_imul hE (dlX9_row_1.at 2 rfl) ?_
          refine q_iload_n hE 2 (dlX9_row_1.at 3 rfl) rfl rfl ?_
          refine q_iadd hE (dlX9_row_1.at 4 rfl) ?_
          refine q_iload_n hE 3 (dlX9_row_1.at 5 rfl) rfl rfl ?_
          refine q_iast hE hfx (dlX9_row_1.at 6 rfl) g4 rfl u4 hm (fun hm => ?_)
          refine q_lth (X := fun z => WG V z o) hm (fun h8 hm => ?_)
          refine q_iload hE 4 (dlX9_row_1.at 7 rfl) rfl ?_
          exact q_iret (X := fun z => WG V z o) hE (dlX9_row_1.at 8 rfl) hm hQ rfl
        · refine q_bipush hE (dlX9_row_0.at 25 rfl) bc_m3 ?_
          exact q_iret (X := fun z => WG V z o) hE (dlX9_row_0.at 26 rfl) hm hQ rfl
set_option maxRecDepth 10000 in
theorem ok_X5_take {V : Ev} {l : Launch} {o : PH} {F : Nat}  (hfx : V.2.2.2.2 = false) {a1 : Int32} {h : PH} : ∀ (v : Int32) (h' : PH), f_X5_take F a1 h = some (v, h') → Ctr l V yX5_take cX5_take 2 (some .boolean) 1 [rf V 31, .int a1] 143 (WG V h o) 143 (WG V (h') o) (some (.int v)) 0 0 := by
  intro v h' hm
  refine Ctr.intro RX5 (by decide +kernel) rfl rfl rfl ?_
  intro E hE hQ _
  unfold f_X5_take at hm
  refine q_aload_n hE 0 (dlX5_take_0.at 0 rfl) rfl rfl ?_
  refine q_get hE (dlX5_take_0.at 1 rfl) kc5 wf_X5_13 g31 rfl rfl rfl ?_
  refine q_bipush hE (dlX5_take_0.at 2 rfl) bc_100 ?_
  refine q_icmp_lt hE (tgt := 11) (dlX5_take_0.at 3 rfl) (by decide) hm (fun hc1 hm => ?_) (fun hc1 hm => ?_)
  · refine q_aload_n hE 0 (dlX5_take_0.at 6 rfl) rfl rfl ?_
    refine q_get hE (dlX5_take_0.at 7 rfl) kc5 wf_X5_9 g31 rfl rfl rfl ?_
    refine q_aload_n hE 0 (dlX5_take_0.at 8 rfl) rfl rfl ?_
    refine q_get hE (dlX5_take_0.at 9 rfl) kc5 wf_X5_13 g31 rfl rfl rfl ?_
    refine q_iload_n hE 1 (dlX5_take_0.at 10 rfl) rfl rfl ?_
    refine q_bast hE hfx (dlX5_take_0.at 11 rfl) g32 rfl u32 hm (fun hm => ?_)
    refine q_lth (X := fun z => WG V z o) hm (fun h2 hm => ?_)
    refine q_aload_n hE 0 (dlX5_take_0.at 12 rfl) rfl rfl ?_
    refine q_dup hE (dlX5_take_0.at 13 rfl) rfl ?_
    refine q_get hE (dlX5_take_0.at 14 rfl) kc5 wf_X5_13 g31 rfl rfl rfl ?_
    refine q_iconst hE (dlX5_take_0.at 15 rfl) ic_1 ?_
    refine q_iadd hE (dlX5_take_0.at 16 rfl) ?_
    refine q_put hE hfx (dlX5_take_0.at 17 rfl) kc5 wf_X5_13 g31 rfl rfl rfl rfl rfl rfl u31_1 ?_
    refine q_lth (X := fun z => WG V z o) hm (fun h3 hm => ?_)
    refine q_iconst hE (dlX5_take_0.at 18 rfl) ic_1 ?_
    exact q_bret (X := fun z => WG V z o) hE (dlX5_take_0.at 19 rfl) hm hQ rfl (by decide)
  · refine q_iconst hE (dlX5_take_0.at 4 rfl) ic_0 ?_
    exact q_bret (X := fun z => WG V z o) hE (dlX5_take_0.at 5 rfl) hm hQ rfl (by decide)
set_option maxRecDepth 10000 in
theorem ok_X9_feed {V : Ev} {l : Launch} {o : PH} {F : Nat}  (hfx : V.2.2.2.2 = false) {a1 : Int32} {h : PH} : ∀ (v : Int32) (h' : PH), f_X9_feed F a1 h = some (v, h') → Ctr l V yX9_feed cX9_feed 2 (some .int) 2 [rf V 0, .int a1] 143 (WG V h o) 143 (WG V (h') o) (some (.int v)) 0 0 := by
  intro v h' hm
  refine Ctr.intro RX9 (by decide +kernel) rfl rfl rfl ?_
  intro E hE hQ _
  unfold f_X9_feed at hm
  refine q_iload_n hE 1 (dlX9_feed_0.at 0 rfl) rfl rfl ?_
  refine q_iconst hE (dlX9_feed_0.at 1 rfl) ic_0 ?_
  refine q_bipush hE (dlX9_feed_0.at 2 rfl) bc_127 ?_
  refine q_callS_i (X := fun z => WG V z o) hE (As := [_, _, _]) (dlX9_feed_0.at 3 rfl) mw_X9_within wm_X9_73 rfl rfl rfl rfl (Nat.zero_le _) (Nat.zero_le _) rfl (ok_X9_within hfx) hm (fun v1 h1 hm => ?_)
  refine q_if_ne hE (tgt := 13) (dlX9_feed_0.at 4 rfl) (by decide) hm (fun hc2 hm => ?_) (fun hc2 hm => ?_)
  · refine q_bipush hE (dlX9_feed_0.at 5 rfl) bc_m2 ?_
    exact q_iret (X := fun z => WG V z o) hE (dlX9_feed_0.at 6 rfl) hm hQ rfl
  · refine q_aload_n hE 0 (dlX9_feed_0.at 7 rfl) rfl rfl ?_
    refine q_get hE (dlX9_feed_0.at 8 rfl) kc9 wf_X9_28 g0 rfl rfl rfl ?_
    refine q_iload_n hE 1 (dlX9_feed_0.at 9 rfl) rfl rfl ?_
    refine q_i2b hE (dlX9_feed_0.at 10 rfl) ?_
    refine q_callVN_i (X := fun z => WG V z o) hE (As := [_]) (dlX9_feed_0.at 11 rfl) mw_X5_take wm_X9_132 rfl rfl rfl rfl (Nat.zero_le _) (Nat.zero_le _) rfl kc5 g31 rfl (ok_X5_take hfx) hm (fun v3 h3 hm => ?_)
    refine q_if_eq hE (tgt := 35) (dlX9_feed_0.at 12 rfl) (by decide) hm (fun hc4 hm => ?_) (fun hc4 hm => ?_)
    · refine q_bipush hE (dlX9_feed_0.at 17 rfl) bc_m4 ?_
      exact q_iret (X := fun z => WG V z o) hE (dlX9_feed_0.at 18 rfl) hm hQ rfl
    · refine q_aload_n hE 0 (dlX9_feed_0.at 13 rfl) rfl rfl ?_
      refine q_get hE (dlX9_feed_0.at 14 rfl) kc9 wf_X9_28 g0 rfl rfl rfl ?_
      refine q_getN hE (dlX9_feed_0.at 15 rfl) kc5 wf_X9_136 g31 rfl rfl rfl ?_
      refine q_goto hE (tgt := 37) (dlX9_feed_0.at 16 rfl) (by decide) ?_
      exact q_iret (X := fun z => WG V z o) hE (dlX9_feed_0.at 18 rfl) hm hQ rfl
set_option maxRecDepth 10000 in
theorem ok_X2_clear {V : Ev} {l : Launch} {o : PH} {F : Nat}  (hfx : V.2.2.2.2 = false) {t : Nat} {h : PH} : ∀ (v : Unit) (h' : PH), f_X2_clear F t h = some (v, h') → Ctr l V yX2_clear cX2_clear 1 none 1 [rf V t] 143 (WG V h o) 143 (WG V (h') o) (none) 0 0 := by
  intro v h' hm
  refine Ctr.intro RX2 (by decide +kernel) rfl rfl rfl ?_
  intro E hE hQ _
  unfold f_X2_clear at hm
  obtain ⟨ht, hm⟩ := g_if hm
  refine q_aload_n hE 0 (dlX2_clear_0.at 0 rfl) rfl rfl ?_
  refine q_bipush hE (dlX2_clear_0.at 1 rfl) bc_10 ?_
  refine q_put hE hfx (dlX2_clear_0.at 2 rfl) kc2 wf_X2_9 (g_Bench ht) rfl rfl rfl rfl (b_Bench ht) rfl (u_Bench_0 ht) ?_
  refine q_lth (X := fun z => WG V z o) hm (fun h1 hm => ?_)
  refine q_aload_n hE 0 (dlX2_clear_0.at 3 rfl) rfl rfl ?_
  refine q_iconst hE (dlX2_clear_0.at 4 rfl) ic_0 ?_
  refine q_put hE hfx (dlX2_clear_0.at 5 rfl) kc2 wf_X2_13 (g_Bench ht) rfl rfl rfl rfl (b_Bench ht) rfl (u_Bench_1 ht) ?_
  refine q_lth (X := fun z => WG V z o) hm (fun h2 hm => ?_)
  refine q_aload_n hE 0 (dlX2_clear_0.at 6 rfl) rfl rfl ?_
  refine q_iconst hE (dlX2_clear_0.at 7 rfl) ic_0 ?_
  refine q_put hE hfx (dlX2_clear_0.at 8 rfl) kc2 wf_X2_23 (g_Bench ht) rfl rfl rfl rfl (b_Bench ht) rfl (u_Bench_4 ht) ?_
  refine q_lth (X := fun z => WG V z o) hm (fun h3 hm => ?_)
  exact q_vret (X := fun z => WG V z o) hE (dlX2_clear_0.at 9 rfl) hm hQ rfl
set_option maxRecDepth 10000 in
theorem ok_X2_addClause {V : Ev} {l : Launch} {o : PH} {F : Nat}  (hfx : V.2.2.2.2 = false) {t : Nat} {a1 : Int32} {h : PH} : ∀ (v : Unit) (h' : PH), f_X2_addClause F t a1 h = some (v, h') → Ctr l V yX2_addClause cX2_addClause 2 none 1 [rf V t, .int a1] 143 (WG V h o) 143 (WG V (h') o) (none) 0 0 := by
  intro v h' hm
  refine Ctr.intro RX2 (by decide +kernel) rfl rfl rfl ?_
  intro E hE hQ _
  unfold f_X2_addClause at hm
  obtain ⟨ht, hm⟩ := g_if hm
  refine q_aload_n hE 0 (dlX2_addClause_0.at 0 rfl) rfl rfl ?_
  refine q_get hE (dlX2_addClause_0.at 1 rfl) kc2 wf_X2_13 (g_Bench ht) rfl (b_Bench ht) rfl ?_
  refine q_bipush hE (dlX2_addClause_0.at 2 rfl) bc_10 ?_
  refine q_icmp_ge hE (tgt := 42) (dlX2_addClause_0.at 3 rfl) (by decide) hm (fun hc1 hm => ?_) (fun hc1 hm => ?_)
  · exact q_vret (X := fun z => WG V z o) hE (dlX2_addClause_0.at 23 rfl) hm hQ rfl
  · refine q_aload_n hE 0 (dlX2_addClause_0.at 4 rfl) rfl rfl ?_
    refine q_get hE (dlX2_addClause_0.at 5 rfl) kc2 wf_X2_16 (g_Bench ht) rfl (b_Bench ht) rfl ?_
    refine q_aload_n hE 0 (dlX2_addClause_0.at 6 rfl) rfl rfl ?_
    refine q_get hE (dlX2_addClause_0.at 7 rfl) kc2 wf_X2_13 (g_Bench ht) rfl (b_Bench ht) rfl ?_
    refine q_iload_n hE 1 (dlX2_addClause_0.at 8 rfl) rfl rfl ?_
    refine q_iast hE hfx (dlX2_addClause_0.at 9 rfl) (g_Bench_weights ht) (b_Bench_weights ht) (u_Bench_weights ht) hm (fun hm => ?_)
    refine q_lth (X := fun z => WG V z o) hm (fun h2 hm => ?_)
    refine q_aload_n hE 0 (dlX2_addClause_0.at 10 rfl) rfl rfl ?_
    refine q_get hE (dlX2_addClause_0.at 11 rfl) kc2 wf_X2_20 (g_Bench ht) rfl (b_Bench ht) rfl ?_
    refine q_aload_n hE 0 (dlX2_addClause_0.at 12 rfl) rfl rfl ?_
    refine q_get hE (dlX2_addClause_0.at 13 rfl) kc2 wf_X2_13 (g_Bench ht) rfl (b_Bench ht) rfl ?_
    refine q_aload_n hE 0 (dlX2_addClause_0.at 14 rfl) rfl rfl ?_
    refine q_get hE (dlX2_addClause_0.at 15 rfl) kc2 wf_X2_23 (g_Bench ht) rfl (b_Bench ht) rfl ?_
    refine q_iast hE hfx (dlX2_addClause_0.at 16 rfl) (g_Bench_ends ht) (b_Bench_ends ht) (u_Bench_ends ht) hm (fun hm => ?_)
    refine q_lth (X := fun z => WG V z o) hm (fun h3 hm => ?_)
    refine q_aload_n hE 0 (dlX2_addClause_0.at 17 rfl) rfl rfl ?_
    refine q_dup hE (dlX2_addClause_0.at 18 rfl) rfl ?_
    refine q_get hE (dlX2_addClause_0.at 19 rfl) kc2 wf_X2_13 (g_Bench ht) rfl (b_Bench ht) rfl ?_
    refine q_iconst hE (dlX2_addClause_0.at 20 rfl) ic_1 ?_
    refine q_iadd hE (dlX2_addClause_0.at 21 rfl) ?_
    refine q_put hE hfx (dlX2_addClause_0.at 22 rfl) kc2 wf_X2_13 (g_Bench ht) rfl rfl rfl rfl (b_Bench ht) rfl (u_Bench_1 ht) ?_
    refine q_lth (X := fun z => WG V z o) hm (fun h4 hm => ?_)
    exact q_vret (X := fun z => WG V z o) hE (dlX2_addClause_0.at 23 rfl) hm hQ rfl
set_option maxRecDepth 10000 in
theorem ok_X2_addStep {V : Ev} {l : Launch} {o : PH} {F : Nat}  (hfx : V.2.2.2.2 = false) {t : Nat} {a1 : Int32} {h : PH} : ∀ (v : Unit) (h' : PH), f_X2_addStep F t a1 h = some (v, h') → Ctr l V yX2_addStep cX2_addStep 2 none 1 [rf V t, .int a1] 143 (WG V h o) 143 (WG V (h') o) (none) 0 0 := by
  intro v h' hm
  refine Ctr.intro RX2 (by decide +kernel) rfl rfl rfl ?_
  intro E hE hQ _
  unfold f_X2_addStep at hm
  obtain ⟨ht, hm⟩ := g_if hm
  refine q_aload_n hE 0 (dlX2_addStep_0.at 0 rfl) rfl rfl ?_
  refine q_get hE (dlX2_addStep_0.at 1 rfl) kc2 wf_X2_23 (g_Bench ht) rfl (b_Bench ht) rfl ?_
  refine q_bipush hE (dlX2_addStep_0.at 2 rfl) bc_100 ?_
  refine q_icmp_ge hE (tgt := 29) (dlX2_addStep_0.at 3 rfl) (by decide) hm (fun hc1 hm => ?_) (fun hc1 hm => ?_)
  · exact q_vret (X := fun z => WG V z o) hE (dlX2_addStep_0.at 16 rfl) hm hQ rfl
  · refine q_aload_n hE 0 (dlX2_addStep_0.at 4 rfl) rfl rfl ?_
    refine q_get hE (dlX2_addStep_0.at 5 rfl) kc2 wf_X2_26 (g_Bench ht) rfl (b_Bench ht) rfl ?_
    refine q_aload_n hE 0 (dlX2_addStep_0.at 6 rfl) rfl rfl ?_
    refine q_get hE (dlX2_addStep_0.at 7 rfl) kc2 wf_X2_23 (g_Bench ht) rfl (b_Bench ht) rfl ?_
    refine q_iload_n hE 1 (dlX2_addStep_0.at 8 rfl) rfl rfl ?_
    refine q_iast hE hfx (dlX2_addStep_0.at 9 rfl) (g_Bench_steps ht) (b_Bench_steps ht) (u_Bench_steps ht) hm (fun hm => ?_)
    refine q_lth (X := fun z => WG V z o) hm (fun h2 hm => ?_)
    refine q_aload_n hE 0 (dlX2_addStep_0.at 10 rfl) rfl rfl ?_
    refine q_dup hE (dlX2_addStep_0.at 11 rfl) rfl ?_
    refine q_get hE (dlX2_addStep_0.at 12 rfl) kc2 wf_X2_23 (g_Bench ht) rfl (b_Bench ht) rfl ?_
    refine q_iconst hE (dlX2_addStep_0.at 13 rfl) ic_1 ?_
    refine q_iadd hE (dlX2_addStep_0.at 14 rfl) ?_
    refine q_put hE hfx (dlX2_addStep_0.at 15 rfl) kc2 wf_X2_23 (g_Bench ht) rfl rfl rfl rfl (b_Bench ht) rfl (u_Bench_4 ht) ?_
    refine q_lth (X := fun z => WG V z o) hm (fun h3 hm => ?_)
    exact q_vret (X := fun z => WG V z o) hE (dlX2_addStep_0.at 16 rfl) hm hQ rfl
set_option maxRecDepth 10000 in
theorem ok_X5_step {V : Ev} {l : Launch} {o : PH} {F : Nat}  (hfx : V.2.2.2.2 = false)  {h : PH} : ∀ (v : Unit) (h' : PH), f_X5_step F  h = some (v, h') → Ctr l V yX5_step cX5_step 1 none 1 [rf V 31] 143 (WG V h o) 143 (WG V (h') o) (none) 0 0 := by
  intro v h' hm
  refine Ctr.intro RX5 (by decide +kernel) rfl rfl rfl ?_
  intro E hE hQ _
  unfold f_X5_step at hm
  refine q_aload_n hE 0 (dlX5_step_0.at 0 rfl) rfl rfl ?_
  refine q_dup hE (dlX5_step_0.at 1 rfl) rfl ?_
  refine q_get hE (dlX5_step_0.at 2 rfl) kc5 wf_X5_17 g31 rfl rfl rfl ?_
  refine q_iconst hE (dlX5_step_0.at 3 rfl) ic_1 ?_
  refine q_iadd hE (dlX5_step_0.at 4 rfl) ?_
  refine q_put hE hfx (dlX5_step_0.at 5 rfl) kc5 wf_X5_17 g31 rfl rfl rfl rfl rfl rfl u31_2 ?_
  refine q_lth (X := fun z => WG V z o) hm (fun h1 hm => ?_)
  refine q_aload_n hE 0 (dlX5_step_0.at 6 rfl) rfl rfl ?_
  refine q_aload_n hE 0 (dlX5_step_0.at 7 rfl) rfl rfl ?_
  refine q_get hE (dlX5_step_0.at 8 rfl) kc5 wf_X5_17 g31 rfl rfl rfl ?_
  refine q_aload_n hE 0 (dlX5_step_0.at 9 rfl) rfl rfl ?_
  refine q_get hE (dlX5_step_0.at 10 rfl) kc5 wf_X5_13 g31 rfl rfl rfl ?_
  refine q_icmp_ge hE (tgt := 34) (dlX5_step_0.at 11 rfl) (by decide) hm (fun hc2 hm => ?_) (fun hc2 hm => ?_)
  · refine q_iconst hE (dlX5_step_0.at 18 rfl) ic_m1 ?_
    refine q_put hE hfx (dlX5_step_0.at 19 rfl) kc5 wf_X5_20 g31 rfl rfl rfl rfl rfl rfl u31_3 ?_
    refine q_lth (X := fun z => WG V z o) hm (fun h3 hm => ?_)
    exact q_vret (X := fun z => WG V z o) hE (dlX5_step_0.at 20 rfl) hm hQ rfl
  · refine q_aload_n hE 0 (dlX5_step_0.at 12 rfl) rfl rfl ?_
    refine q_get hE (dlX5_step_0.at 13 rfl) kc5 wf_X5_9 g31 rfl rfl rfl ?_
    refine q_aload_n hE 0 (dlX5_step_0.at 14 rfl) rfl rfl ?_
    refine q_get hE (dlX5_step_0.at 15 rfl) kc5 wf_X5_17 g31 rfl rfl rfl ?_
    refine q_bald hE (dlX5_step_0.at 16 rfl) g32 rfl hm (fun hm => ?_)
    refine q_goto hE (tgt := 35) (dlX5_step_0.at 17 rfl) (by decide) ?_
    refine q_put hE hfx (dlX5_step_0.at 19 rfl) kc5 wf_X5_20 g31 rfl rfl rfl rfl rfl rfl u31_3 ?_
    refine q_lth (X := fun z => WG V z o) hm (fun h4 hm => ?_)
    exact q_vret (X := fun z => WG V z o) hE (dlX5_step_0.at 20 rfl) hm hQ rfl
set_option maxRecDepth 10000 in
theorem ok_X2_testStep {V : Ev} {l : Launch} {o : PH} {F : Nat}  (hfx : V.2.2.2.2 = false) {a0 : Int32} {a1 : Int32} {a2 : Int32} {h : PH} : ∀ (v : Int32) (h' : PH), f_X2_testStep F a0 a1 a2 h = some (v, h') → Ctr l V yX2_testStep cX2_testStep 3 (some .int) 1 [.int a0, .int a1, .int a2] 143 (WG V h o) 143 (WG V (h') o) (some (.int v)) 0 0 := by
  intro v h' hm
  refine Ctr.intro RX2 (by decide +kernel) rfl rfl rfl ?_
  intro E hE hQ _
  unfold f_X2_testStep at hm
  refine q_iload_n hE 0 (dlX2_testStep_0.at 0 rfl) rfl rfl ?_
  refine q_sipush hE (dlX2_testStep_0.at 1 rfl) sc_300 ?_
  refine q_imul hE (dlX2_testStep_0.at 2 rfl) ?_
  refine q_iload_n hE 1 (dlX2_testStep_0.at 3 rfl) rfl rfl ?_
  refine q_bipush hE (dlX2_testStep_0.at 4 rfl) bc_100 ?_
  refine q_imul hE (dlX2_testStep_0.at 5 rfl) ?_
  refine q_iadd hE (dlX2_testStep_0.at 6 rfl) ?_
  refine q_iload_n hE 2 (dlX2_testStep_0.at 7 rfl) rfl rfl ?_
  refine q_iadd hE (dlX2_testStep_0.at 8 rfl) ?_
  exact q_iret (X := fun z => WG V z o) hE (dlX2_testStep_0.at 9 rfl) hm hQ rfl
set_option maxRecDepth 10000 in
theorem ok_J0_isLatin1_aae02 {V : Ev} {l : Launch} {o : PH} {F : Nat}  (hfx : V.2.2.2.2 = false) {w : Nat} {h : PH} : ∀ (v : Int32) (h' : PH), f_J0_isLatin1_aae02 F w h = some (v, h') → Ctr l V yJ0_isLatin1_aae02 cJ0_isLatin1_aae02 1 (some .boolean) 1 [sf V (2 * w + 2)] 143 (WG V h o) 143 (WG V (h') o) (some (.int v)) 0 0 := by
  intro v h' hm
  refine Ctr.intro RJ0 (by decide +kernel) rfl rfl rfl ?_
  intro E hE hQ _
  unfold f_J0_isLatin1_aae02 at hm
  obtain ⟨hw, hm⟩ := g_if hm
  refine q_gs_compact hE (dlJ0_isLatin1_aae02_0.at 0 rfl) wf_J0_38 ?_
  refine q_if_eq hE (tgt := 17) (dlJ0_isLatin1_aae02_0.at 1 rfl) (by decide) hm (fun hc1 hm => ?_) (fun hc1 hm => ?_)
  · refine q_iconst hE (dlJ0_isLatin1_aae02_0.at 7 rfl) ic_0 ?_
    exact q_bret (X := fun z => WG V z o) hE (dlJ0_isLatin1_aae02_0.at 8 rfl) hm hQ rfl (by decide)
  · refine q_aload_nS hE 0 (dlJ0_isLatin1_aae02_0.at 2 rfl) rfl rfl ?_
    refine q_scoder hE hw (dlJ0_isLatin1_aae02_0.at 3 rfl) wf_J0_15 ?_
    refine q_if_ne hE (tgt := 17) (dlJ0_isLatin1_aae02_0.at 4 rfl) (by decide) hm (fun hc2 hm => ?_) (fun hc2 hm => ?_)
    · refine q_iconst hE (dlJ0_isLatin1_aae02_0.at 5 rfl) ic_1 ?_
      refine q_goto hE (tgt := 18) (dlJ0_isLatin1_aae02_0.at 6 rfl) (by decide) ?_
      exact q_bret (X := fun z => WG V z o) hE (dlJ0_isLatin1_aae02_0.at 8 rfl) hm hQ rfl (by decide)
    · refine q_iconst hE (dlJ0_isLatin1_aae02_0.at 7 rfl) ic_0 ?_
      exact q_bret (X := fun z => WG V z o) hE (dlJ0_isLatin1_aae02_0.at 8 rfl) hm hQ rfl (by decide)
set_option maxRecDepth 10000 in
theorem ok_J0_coder_7d493 {V : Ev} {l : Launch} {o : PH} {F : Nat}  (hfx : V.2.2.2.2 = false) {w : Nat} {h : PH} : ∀ (v : Int32) (h' : PH), f_J0_coder_7d493 F w h = some (v, h') → Ctr l V yJ0_coder_7d493 cJ0_coder_7d493 1 (some .byte) 1 [sf V (2 * w + 2)] 143 (WG V h o) 143 (WG V (h') o) (some (.int v)) 0 0 := by
  intro v h' hm
  refine Ctr.intro RJ0 (by decide +kernel) rfl rfl rfl ?_
  intro E hE hQ _
  unfold f_J0_coder_7d493 at hm
  obtain ⟨hw, hm⟩ := g_if hm
  refine q_gs_compact hE (dlJ0_coder_7d493_0.at 0 rfl) wf_J0_38 ?_
  refine q_if_eq hE (tgt := 13) (dlJ0_coder_7d493_0.at 1 rfl) (by decide) hm (fun hc1 hm => ?_) (fun hc1 hm => ?_)
  · refine q_iconst hE (dlJ0_coder_7d493_0.at 5 rfl) ic_1 ?_
    exact q_bret (X := fun z => WG V z o) hE (dlJ0_coder_7d493_0.at 6 rfl) hm hQ rfl rfl
  · refine q_aload_nS hE 0 (dlJ0_coder_7d493_0.at 2 rfl) rfl rfl ?_
    refine q_scoder hE hw (dlJ0_coder_7d493_0.at 3 rfl) wf_J0_15 ?_
    refine q_goto hE (tgt := 14) (dlJ0_coder_7d493_0.at 4 rfl) (by decide) ?_
    exact q_bret (X := fun z => WG V z o) hE (dlJ0_coder_7d493_0.at 6 rfl) hm hQ rfl rfl
set_option maxRecDepth 10000 in
theorem ok_J0_length_8abf5 {V : Ev} {l : Launch} {o : PH} {F : Nat}  (hfx : V.2.2.2.2 = false) {w : Nat} {h : PH} : ∀ (v : Int32) (h' : PH), f_J0_length_8abf5 F w h = some (v, h') → Ctr l V yJ0_length_8abf5 cJ0_length_8abf5 1 (some .int) 2 [sf V (2 * w + 2)] 143 (WG V h o) 143 (WG V (h') o) (some (.int v)) 0 0 := by
  intro v h' hm
  refine Ctr.intro RJ0 (by decide +kernel) rfl rfl rfl ?_
  intro E hE hQ _
  unfold f_J0_length_8abf5 at hm
  obtain ⟨hw, hm⟩ := g_if hm
  refine q_aload_nS hE 0 (dlJ0_length_8abf5_0.at 0 rfl) rfl rfl ?_
  refine q_sval hE hw (dlJ0_length_8abf5_0.at 1 rfl) wf_J0_9 ?_
  refine q_stlen hE hw (dlJ0_length_8abf5_0.at 2 rfl) ?_
  refine q_aload_nS hE 0 (dlJ0_length_8abf5_0.at 3 rfl) rfl rfl ?_
  refine q_callVS_i (X := fun z => WG V z o) hE (As := []) (dlJ0_length_8abf5_0.at 4 rfl) mw_J0_coder_7d493 wm_J0_335 rfl rfl rfl rfl (Nat.zero_le _) (Nat.zero_le _) rfl hw rfl (ok_J0_coder_7d493 hfx) hm (fun v1 h1 hm => ?_)
  refine q_ishr hE (dlJ0_length_8abf5_0.at 5 rfl) ?_
  exact q_iret (X := fun z => WG V z o) hE (dlJ0_length_8abf5_0.at 6 rfl) hm hQ rfl
set_option maxRecDepth 10000 in
theorem ok_J1_canEncode_9a6ad {V : Ev} {l : Launch} {o : PH} {F : Nat}  (hfx : V.2.2.2.2 = false) {a0 : Int32} {h : PH} : ∀ (v : Int32) (h' : PH), f_J1_canEncode_9a6ad F a0 h = some (v, h') → Ctr l V yJ1_canEncode_9a6ad cJ1_canEncode_9a6ad 1 (some .boolean) 1 [.int a0] 143 (WG V h o) 143 (WG V (h') o) (some (.int v)) 0 0 := by
  intro v h' hm
  refine Ctr.intro RJ1 (by decide +kernel) rfl rfl rfl ?_
  intro E hE hQ _
  unfold f_J1_canEncode_9a6ad at hm
  refine q_iload_n hE 0 (dlJ1_canEncode_9a6ad_0.at 0 rfl) rfl rfl ?_
  refine q_if_lt hE (tgt := 15) (dlJ1_canEncode_9a6ad_0.at 1 rfl) (by decide) hm (fun hc1 hm => ?_) (fun hc1 hm => ?_)
  · refine q_iconst hE (dlJ1_canEncode_9a6ad_0.at 7 rfl) ic_0 ?_
    exact q_bret (X := fun z => WG V z o) hE (dlJ1_canEncode_9a6ad_0.at 8 rfl) hm hQ rfl (by decide)
  · refine q_iload_n hE 0 (dlJ1_canEncode_9a6ad_0.at 2 rfl) rfl rfl ?_
    refine q_sipush hE (dlJ1_canEncode_9a6ad_0.at 3 rfl) sc_255 ?_
    refine q_icmp_gt hE (tgt := 15) (dlJ1_canEncode_9a6ad_0.at 4 rfl) (by decide) hm (fun hc2 hm => ?_) (fun hc2 hm => ?_)
    · refine q_iconst hE (dlJ1_canEncode_9a6ad_0.at 7 rfl) ic_0 ?_
      exact q_bret (X := fun z => WG V z o) hE (dlJ1_canEncode_9a6ad_0.at 8 rfl) hm hQ rfl (by decide)
    · refine q_iconst hE (dlJ1_canEncode_9a6ad_0.at 5 rfl) ic_1 ?_
      refine q_goto hE (tgt := 16) (dlJ1_canEncode_9a6ad_0.at 6 rfl) (by decide) ?_
      exact q_bret (X := fun z => WG V z o) hE (dlJ1_canEncode_9a6ad_0.at 8 rfl) hm hQ rfl (by decide)
set_option maxRecDepth 10000 in
theorem okL_J1_indexOfChar_4cfef_7 {V : Ev} {l : Launch} {o : PH} {F : Nat}  (hfx : V.2.2.2.2 = false) {E : Cx} (hE : CX E V l cJ1_indexOfChar_4cfef RJ1 6 1 0 0 (some .int)) {r : Int32 × PH} (hQ : RQ E V 143 (WG V r.2 o) (some (.int r.1)) 0 0) : ∀ (n : Nat) (x0 : Nat) (x3 : Int32) (x4 : Int32) (x5 : Int32) (h : PH), x0 < 5 → fL_J1_indexOfChar_4cfef_7 F n x0 x3 x4 x5 h = some r → PW E V 0 0 143 (WG V h o) 7 [(0, sf V (2 * x0 + 3)), (3, .int x3), (4, .int x4), (5, .int x5)] [] := by
  intro n
  induction n with
  | zero => intro x0 x3 x4 x5 h hx0 hm; cases hm
  | succ n ih =>
    intro x0 x3 x4 x5 h hx0 hm
    rw [fL_J1_indexOfChar_4cfef_7] at hm
    refine q_iload hE 3 (dlJ1_indexOfChar_4cfef_0.at 5 rfl) rfl ?_
    refine q_iload_n hE 1 (dlJ1_indexOfChar_4cfef_0.at 6 rfl) rfl rfl ?_
    refine q_icmp_ge hE (tgt := 31) (dlJ1_indexOfChar_4cfef_0.at 7 rfl) (by decide) hm (fun hc1 hm => ?_) (fun hc1 hm => ?_)
    · refine q_iconst hE (dlJ1_indexOfChar_4cfef_0.at 17 rfl) ic_m1 ?_
      exact q_iret (X := fun z => WG V z o) hE (dlJ1_indexOfChar_4cfef_0.at 18 rfl) hm hQ rfl
    · refine q_aload_nS hE 0 (dlJ1_indexOfChar_4cfef_0.at 8 rfl) rfl rfl ?_
      refine q_iload hE 3 (dlJ1_indexOfChar_4cfef_0.at 9 rfl) rfl ?_
      refine q_sbald hE hx0 (dlJ1_indexOfChar_4cfef_0.at 10 rfl) hm (fun hm => ?_)
      refine q_iload hE 2 (dlJ1_indexOfChar_4cfef_0.at 11 rfl) rfl ?_
      refine q_icmp_ne hE (tgt := 25) (dlJ1_indexOfChar_4cfef_0.at 12 rfl) (by decide) hm (fun hc2 hm => ?_) (fun hc2 hm => ?_)
      · refine q_iload hE 3 (dlJ1_indexOfChar_4cfef_0.at 13 rfl) rfl ?_
        exact q_iret (X := fun z => WG V z o) hE (dlJ1_indexOfChar_4cfef_0.at 14 rfl) hm hQ rfl
      · refine q_iinc hE [(0, _), (3, _), (4, _), (5, _)] 3 (dlJ1_indexOfChar_4cfef_0.at 15 rfl) rfl ic_1 rfl rfl ?_
        refine q_goto hE (tgt := 7) (dlJ1_indexOfChar_4cfef_0.at 16 rfl) (by decide) ?_
        refine q_sub hE [0, 1, 2, 3] rfl ?_
        exact ih _ _ _ _ _ hx0 hm
set_option maxRecDepth 10000 in
theorem ok_J1_indexOfChar_4cfef {V : Ev} {l : Launch} {o : PH} {F : Nat}  (hfx : V.2.2.2.2 = false) {a0 : Nat} {a1 : Int32} {a2 : Int32} {a3 : Int32} {h : PH} : ∀ (v : Int32) (h' : PH), f_J1_indexOfChar_4cfef F a0 a1 a2 a3 h = some (v, h') → Ctr l V yJ1_indexOfChar_4cfef cJ1_indexOfChar_4cfef 6 (some .int) 1 [sf V (2 * a0 + 3), .int a1, .int a2, .int a3] 143 (WG V h o) 143 (WG V (h') o) (some (.int v)) 0 0 := by
  intro v h' hm
  refine Ctr.intro RJ1 (by decide +kernel) rfl rfl rfl ?_
  intro E hE hQ _
  unfold f_J1_indexOfChar_4cfef at hm
  obtain ⟨hp0, hm⟩ := g_if hm
  refine q_iload_n hE 1 (dlJ1_indexOfChar_4cfef_0.at 0 rfl) rfl rfl ?_
  refine q_i2b hE (dlJ1_indexOfChar_4cfef_0.at 1 rfl) ?_
  refine q_istore hE [(0, _), (1, _), (2, _), (3, _), (4, _)] (dlJ1_indexOfChar_4cfef_0.at 2 rfl) rfl rfl ?_
  refine q_iload_n hE 2 (dlJ1_indexOfChar_4cfef_0.at 3 rfl) rfl rfl ?_
  refine q_istore hE [(0, _), (1, _), (2, _), (3, _), (4, _), (5, _)] (dlJ1_indexOfChar_4cfef_0.at 4 rfl) rfl rfl ?_
  refine q_sub hE [0, 3, 4, 5] rfl ?_
  exact okL_J1_indexOfChar_4cfef_7 hfx hE hQ  F _ _ _ _ _ hp0 hm
set_option maxRecDepth 10000 in
theorem ok_J1_indexOf_4cfef {V : Ev} {l : Launch} {o : PH} {F : Nat}  (hfx : V.2.2.2.2 = false) {a0 : Nat} {a1 : Int32} {a2 : Int32} {a3 : Int32} {h : PH} : ∀ (v : Int32) (h' : PH), f_J1_indexOf_4cfef F a0 a1 a2 a3 h = some (v, h') → Ctr l V yJ1_indexOf_4cfef cJ1_indexOf_4cfef 4 (some .int) 2 [sf V (2 * a0 + 3), .int a1, .int a2, .int a3] 143 (WG V h o) 143 (WG V (h') o) (some (.int v)) 0 0 := by
  intro v h' hm
  refine Ctr.intro RJ1 (by decide +kernel) rfl rfl rfl ?_
  intro E hE hQ _
  unfold f_J1_indexOf_4cfef at hm
  obtain ⟨hp0, hm⟩ := g_if hm
  refine q_iload_n hE 1 (dlJ1_indexOf_4cfef_0.at 0 rfl) rfl rfl ?_
  refine q_callS_i (X := fun z => WG V z o) hE (As := [_]) (dlJ1_indexOf_4cfef_0.at 1 rfl) mw_J1_canEncode_9a6ad wm_J1_88 rfl rfl rfl rfl (Nat.zero_le _) (Nat.zero_le _) rfl (ok_J1_canEncode_9a6ad hfx) hm (fun v1 h1 hm => ?_)
  refine q_if_ne hE (tgt := 9) (dlJ1_indexOf_4cfef_0.at 2 rfl) (by decide) hm (fun hc2 hm => ?_) (fun hc2 hm => ?_)
  · refine q_iconst hE (dlJ1_indexOf_4cfef_0.at 3 rfl) ic_m1 ?_
    exact q_iret (X := fun z => WG V z o) hE (dlJ1_indexOf_4cfef_0.at 4 rfl) hm hQ rfl
  · refine q_iload_n hE 2 (dlJ1_indexOf_4cfef_0.at 5 rfl) rfl rfl ?_
    refine q_iconst hE (dlJ1_indexOf_4cfef_0.at 6 rfl) ic_0 ?_
    refine q_mmax hE (dlJ1_indexOf_4cfef_0.at 7 rfl) wm_J1_92 w_mmax rfl rfl (Nat.zero_le _) (Nat.zero_le _) ?_
    refine q_istore_n hE [(0, _), (1, _), (2, _), (3, _)] (dlJ1_indexOf_4cfef_0.at 8 rfl) rfl rfl rfl ?_
    refine q_iload_n hE 3 (dlJ1_indexOf_4cfef_0.at 9 rfl) rfl rfl ?_
    refine q_aload_nS hE 0 (dlJ1_indexOf_4cfef_0.at 10 rfl) rfl rfl ?_
    refine q_stlen hE hp0 (dlJ1_indexOf_4cfef_0.at 11 rfl) ?_
    refine q_mmin hE (dlJ1_indexOf_4cfef_0.at 12 rfl) wm_J1_38 w_mmin rfl rfl (Nat.zero_le _) (Nat.zero_le _) ?_
    refine q_istore_n hE [(0, _), (1, _), (2, _), (3, _)] (dlJ1_indexOf_4cfef_0.at 13 rfl) rfl rfl rfl ?_
    refine q_iload_n hE 2 (dlJ1_indexOf_4cfef_0.at 14 rfl) rfl rfl ?_
    refine q_iload_n hE 3 (dlJ1_indexOf_4cfef_0.at 15 rfl) rfl rfl ?_
    refine q_icmp_lt hE (tgt := 29) (dlJ1_indexOf_4cfef_0.at 16 rfl) (by decide) hm (fun hc3 hm => ?_) (fun hc3 hm => ?_)
    · refine q_aload_nS hE 0 (dlJ1_indexOf_4cfef_0.at 19 rfl) rfl rfl ?_
      refine q_iload_n hE 1 (dlJ1_indexOf_4cfef_0.at 20 rfl) rfl rfl ?_
      refine q_iload_n hE 2 (dlJ1_indexOf_4cfef_0.at 21 rfl) rfl rfl ?_
      refine q_iload_n hE 3 (dlJ1_indexOf_4cfef_0.at 22 rfl) rfl rfl ?_
      refine q_callS_i (X := fun z => WG V z o) hE (As := [_, _, _, _]) (dlJ1_indexOf_4cfef_0.at 23 rfl) mw_J1_indexOfChar_4cfef wm_J1_95 rfl rfl rfl rfl (Nat.zero_le _) (Nat.zero_le _) rfl (ok_J1_indexOfChar_4cfef hfx) hm (fun v4 h4 hm => ?_)
      exact q_iret (X := fun z => WG V z o) hE (dlJ1_indexOf_4cfef_0.at 24 rfl) hm hQ rfl
    · refine q_iconst hE (dlJ1_indexOf_4cfef_0.at 17 rfl) ic_m1 ?_
      exact q_iret (X := fun z => WG V z o) hE (dlJ1_indexOf_4cfef_0.at 18 rfl) hm hQ rfl
set_option maxRecDepth 10000 in
theorem ok_J0_indexOf_7cf53 {V : Ev} {l : Launch} {o : PH} {F : Nat}  (hfx : V.2.2.2.2 = false) {w : Nat} {a1 : Int32} {a2 : Int32} {h : PH} : ∀ (v : Int32) (h' : PH), f_J0_indexOf_7cf53 F w a1 a2 h = some (v, h') → Ctr l V yJ0_indexOf_7cf53 cJ0_indexOf_7cf53 3 (some .int) 3 [sf V (2 * w + 2), .int a1, .int a2] 143 (WG V h o) 143 (WG V (h') o) (some (.int v)) 0 0 := by
  intro v h' hm
  refine Ctr.intro RJ0 (by decide +kernel) rfl rfl rfl ?_
  intro E hE hQ _
  unfold f_J0_indexOf_7cf53 at hm
  obtain ⟨hw, hm⟩ := g_if hm
  refine q_aload_nS hE 0 (dlJ0_indexOf_7cf53_0.at 0 rfl) rfl rfl ?_
  refine q_callVS_i (X := fun z => WG V z o) hE (As := []) (dlJ0_indexOf_7cf53_0.at 1 rfl) mw_J0_isLatin1_aae02 wm_J0_492 rfl rfl rfl rfl (Nat.zero_le _) (Nat.zero_le _) rfl hw rfl (ok_J0_isLatin1_aae02 hfx) hm (fun v1 h1 hm => ?_)
  refine q_if_eq hE (tgt := 23) (dlJ0_indexOf_7cf53_0.at 2 rfl) (by decide) hm (fun hc2 hm => ?_) (fun hc2 hm => ?_)
  · cases hm
  · refine q_aload_nS hE 0 (dlJ0_indexOf_7cf53_0.at 3 rfl) rfl rfl ?_
    refine q_sval hE hw (dlJ0_indexOf_7cf53_0.at 4 rfl) wf_J0_9 ?_
    refine q_iload_n hE 1 (dlJ0_indexOf_7cf53_0.at 5 rfl) rfl rfl ?_
    refine q_iload_n hE 2 (dlJ0_indexOf_7cf53_0.at 6 rfl) rfl rfl ?_
    refine q_aload_nS hE 0 (dlJ0_indexOf_7cf53_0.at 7 rfl) rfl rfl ?_
    refine q_callVS_i (X := fun z => WG V z o) hE (As := []) (dlJ0_indexOf_7cf53_0.at 8 rfl) mw_J0_length_8abf5 wm_J0_505 rfl rfl rfl rfl (Nat.zero_le _) (Nat.zero_le _) rfl hw rfl (ok_J0_length_8abf5 hfx) hm (fun v3 h3 hm => ?_)
    refine q_callS_i (X := fun z => WG V z o) hE (As := [_, _, _, _]) (dlJ0_indexOf_7cf53_0.at 9 rfl) mw_J1_indexOf_4cfef wm_J0_637 rfl rfl rfl rfl (Nat.zero_le _) (Nat.zero_le _) rfl (ok_J1_indexOf_4cfef hfx) hm (fun v4 h4 hm => ?_)
    refine q_goto hE (tgt := 36) (dlJ0_indexOf_7cf53_0.at 10 rfl) (by decide) ?_
    exact q_iret (X := fun z => WG V z o) hE (dlJ0_indexOf_7cf53_0.at 18 rfl) hm hQ rfl
set_option maxRecDepth 10000 in
theorem ok_J0_indexOf_0f7a4 {V : Ev} {l : Launch} {o : PH} {F : Nat}  (hfx : V.2.2.2.2 = false) {w : Nat} {a1 : Int32} {h : PH} : ∀ (v : Int32) (h' : PH), f_J0_indexOf_0f7a4 F w a1 h = some (v, h') → Ctr l V yJ0_indexOf_0f7a4 cJ0_indexOf_0f7a4 2 (some .int) 4 [sf V (2 * w + 2), .int a1] 143 (WG V h o) 143 (WG V (h') o) (some (.int v)) 0 0 := by
  intro v h' hm
  refine Ctr.intro RJ0 (by decide +kernel) rfl rfl rfl ?_
  intro E hE hQ _
  unfold f_J0_indexOf_0f7a4 at hm
  obtain ⟨hw, hm⟩ := g_if hm
  refine q_aload_nS hE 0 (dlJ0_indexOf_0f7a4_0.at 0 rfl) rfl rfl ?_
  refine q_iload_n hE 1 (dlJ0_indexOf_0f7a4_0.at 1 rfl) rfl rfl ?_
  refine q_iconst hE (dlJ0_indexOf_0f7a4_0.at 2 rfl) ic_0 ?_
  refine q_callVS_i (X := fun z => WG V z o) hE (As := [_, _]) (dlJ0_indexOf_0f7a4_0.at 3 rfl) mw_J0_indexOf_7cf53 wm_J0_633 rfl rfl rfl rfl (Nat.zero_le _) (Nat.zero_le _) rfl hw rfl (ok_J0_indexOf_7cf53 hfx) hm (fun v1 h1 hm => ?_)
  exact q_iret (X := fun z => WG V z o) hE (dlJ0_indexOf_0f7a4_0.at 4 rfl) hm hQ rfl
set_option maxRecDepth 10000 in
theorem ok_X5_choice {V : Ev} {l : Launch} {o : PH} {F : Nat}  (hfx : V.2.2.2.2 = false) {a1 : Nat} {h : PH} : ∀ (v : Int32) (h' : PH), f_X5_choice F a1 h = some (v, h') → Ctr l V yX5_choice cX5_choice 3 (some .int) 5 [rf V 31, sf V (2 * a1 + 2)] 143 (WG V h o) 143 (WG V (h') o) (some (.int v)) 0 0 := by
  intro v h' hm
  refine Ctr.intro RX5 (by decide +kernel) rfl rfl rfl ?_
  intro E hE hQ _
  unfold f_X5_choice at hm
  obtain ⟨hp1, hm⟩ := g_if hm
  refine q_aload_n hE 0 (dlX5_choice_0.at 0 rfl) rfl rfl ?_
  refine q_get hE (dlX5_choice_0.at 1 rfl) kc5 wf_X5_23 g31 rfl rfl rfl ?_
  refine q_if_ne hE (tgt := 15) (dlX5_choice_0.at 2 rfl) (by decide) hm (fun hc1 hm => ?_) (fun hc1 hm => ?_)
  · refine q_aload_n hE 0 (dlX5_choice_0.at 3 rfl) rfl rfl ?_
    refine q_get hE (dlX5_choice_0.at 4 rfl) kc5 wf_X5_20 g31 rfl rfl rfl ?_
    refine q_iconst hE (dlX5_choice_0.at 5 rfl) ic_m1 ?_
    refine q_icmp_ne hE (tgt := 19) (dlX5_choice_0.at 6 rfl) (by decide) hm (fun hc5 hm => ?_) (fun hc5 hm => ?_)
    · refine q_iconst hE (dlX5_choice_0.at 7 rfl) ic_m1 ?_
      refine q_goto hE (tgt := 28) (dlX5_choice_0.at 8 rfl) (by decide) ?_
      refine q_istore_n hE [(0, _), (1, _), (2, _)] (dlX5_choice_0.at 14 rfl) rfl rfl rfl ?_
      refine q_iload_n hE 2 (dlX5_choice_0.at 15 rfl) rfl rfl ?_
      refine q_if_ge hE (tgt := 40) (dlX5_choice_0.at 16 rfl) (by decide) hm (fun hc10 hm => ?_) (fun hc10 hm => ?_)
      · refine q_aload_n hE 0 (dlX5_choice_0.at 22 rfl) rfl rfl ?_
        refine q_callV_v (X := fun z => WG V z o) hE (As := []) (dlX5_choice_0.at 23 rfl) mw_X5_step wm_X5_36 rfl rfl rfl rfl (Nat.zero_le _) (Nat.zero_le _) rfl kc5 g31 rfl (ok_X5_step hfx) hm (fun v11 h11 hm => ?_)
        refine q_iload_n hE 2 (dlX5_choice_0.at 24 rfl) rfl rfl ?_
        exact q_iret (X := fun z => WG V z o) hE (dlX5_choice_0.at 25 rfl) hm hQ rfl
      · refine q_aload_n hE 0 (dlX5_choice_0.at 17 rfl) rfl rfl ?_
        refine q_iconst hE (dlX5_choice_0.at 18 rfl) ic_1 ?_
        refine q_put hE hfx (dlX5_choice_0.at 19 rfl) kc5 wf_X5_23 g31 rfl (by decide) (by decide) rfl rfl rfl u31_4 ?_
        refine q_lth (X := fun z => WG V z o) hm (fun h12 hm => ?_)
        refine q_iconst hE (dlX5_choice_0.at 20 rfl) ic_0 ?_
        exact q_iret (X := fun z => WG V z o) hE (dlX5_choice_0.at 21 rfl) hm hQ rfl
    · refine q_aload_nS hE 1 (dlX5_choice_0.at 9 rfl) rfl rfl ?_
      refine q_aload_n hE 0 (dlX5_choice_0.at 10 rfl) rfl rfl ?_
      refine q_get hE (dlX5_choice_0.at 11 rfl) kc5 wf_X5_20 g31 rfl rfl rfl ?_
      refine q_i2c hE (dlX5_choice_0.at 12 rfl) ?_
      refine q_callVS_i (X := fun z => WG V z o) hE (As := [_]) (dlX5_choice_0.at 13 rfl) mw_J0_indexOf_0f7a4 wm_X5_108 rfl rfl rfl rfl (Nat.zero_le _) (Nat.zero_le _) rfl hp1 rfl (ok_J0_indexOf_0f7a4 hfx) hm (fun v6 h6 hm => ?_)
      refine q_istore_n hE [(0, _), (1, _), (2, _)] (dlX5_choice_0.at 14 rfl) rfl rfl rfl ?_
      refine q_iload_n hE 2 (dlX5_choice_0.at 15 rfl) rfl rfl ?_
      refine q_if_ge hE (tgt := 40) (dlX5_choice_0.at 16 rfl) (by decide) hm (fun hc7 hm => ?_) (fun hc7 hm => ?_)
      · refine q_aload_n hE 0 (dlX5_choice_0.at 22 rfl) rfl rfl ?_
        refine q_callV_v (X := fun z => WG V z o) hE (As := []) (dlX5_choice_0.at 23 rfl) mw_X5_step wm_X5_36 rfl rfl rfl rfl (Nat.zero_le _) (Nat.zero_le _) rfl kc5 g31 rfl (ok_X5_step hfx) hm (fun v8 h8 hm => ?_)
        refine q_iload_n hE 2 (dlX5_choice_0.at 24 rfl) rfl rfl ?_
        exact q_iret (X := fun z => WG V z o) hE (dlX5_choice_0.at 25 rfl) hm hQ rfl
      · refine q_aload_n hE 0 (dlX5_choice_0.at 17 rfl) rfl rfl ?_
        refine q_iconst hE (dlX5_choice_0.at 18 rfl) ic_1 ?_
        refine q_put hE hfx (dlX5_choice_0.at 19 rfl) kc5 wf_X5_23 g31 rfl (by decide) (by decide) rfl rfl rfl u31_4 ?_
        refine q_lth (X := fun z => WG V z o) hm (fun h9 hm => ?_)
        refine q_iconst hE (dlX5_choice_0.at 20 rfl) ic_0 ?_
        exact q_iret (X := fun z => WG V z o) hE (dlX5_choice_0.at 21 rfl) hm hQ rfl
  · refine q_iconst hE (dlX5_choice_0.at 7 rfl) ic_m1 ?_
    refine q_goto hE (tgt := 28) (dlX5_choice_0.at 8 rfl) (by decide) ?_
    refine q_istore_n hE [(0, _), (1, _), (2, _)] (dlX5_choice_0.at 14 rfl) rfl rfl rfl ?_
    refine q_iload_n hE 2 (dlX5_choice_0.at 15 rfl) rfl rfl ?_
    refine q_if_ge hE (tgt := 40) (dlX5_choice_0.at 16 rfl) (by decide) hm (fun hc2 hm => ?_) (fun hc2 hm => ?_)
    · refine q_aload_n hE 0 (dlX5_choice_0.at 22 rfl) rfl rfl ?_
      refine q_callV_v (X := fun z => WG V z o) hE (As := []) (dlX5_choice_0.at 23 rfl) mw_X5_step wm_X5_36 rfl rfl rfl rfl (Nat.zero_le _) (Nat.zero_le _) rfl kc5 g31 rfl (ok_X5_step hfx) hm (fun v3 h3 hm => ?_)
      refine q_iload_n hE 2 (dlX5_choice_0.at 24 rfl) rfl rfl ?_
      exact q_iret (X := fun z => WG V z o) hE (dlX5_choice_0.at 25 rfl) hm hQ rfl
    · refine q_aload_n hE 0 (dlX5_choice_0.at 17 rfl) rfl rfl ?_
      refine q_iconst hE (dlX5_choice_0.at 18 rfl) ic_1 ?_
      refine q_put hE hfx (dlX5_choice_0.at 19 rfl) kc5 wf_X5_23 g31 rfl (by decide) (by decide) rfl rfl rfl u31_4 ?_
      refine q_lth (X := fun z => WG V z o) hm (fun h4 hm => ?_)
      refine q_iconst hE (dlX5_choice_0.at 20 rfl) ic_0 ?_
      exact q_iret (X := fun z => WG V z o) hE (dlX5_choice_0.at 21 rfl) hm hQ rfl
set_option maxRecDepth 10000 in
theorem ok_X5_need {V : Ev} {l : Launch} {o : PH} {F : Nat}  (hfx : V.2.2.2.2 = false) {a1 : Int32} {h : PH} : ∀ (v : Unit) (h' : PH), f_X5_need F a1 h = some (v, h') → Ctr l V yX5_need cX5_need 2 none 2 [rf V 31, .int a1] 143 (WG V h o) 143 (WG V (h') o) (none) 0 0 := by
  intro v h' hm
  refine Ctr.intro RX5 (by decide +kernel) rfl rfl rfl ?_
  intro E hE hQ _
  unfold f_X5_need at hm
  refine q_aload_n hE 0 (dlX5_need_0.at 0 rfl) rfl rfl ?_
  refine q_get hE (dlX5_need_0.at 1 rfl) kc5 wf_X5_23 g31 rfl rfl rfl ?_
  refine q_if_ne hE (tgt := 22) (dlX5_need_0.at 2 rfl) (by decide) hm (fun hc1 hm => ?_) (fun hc1 hm => ?_)
  · refine q_aload_n hE 0 (dlX5_need_0.at 3 rfl) rfl rfl ?_
    refine q_get hE (dlX5_need_0.at 4 rfl) kc5 wf_X5_20 g31 rfl rfl rfl ?_
    refine q_iload_n hE 1 (dlX5_need_0.at 5 rfl) rfl rfl ?_
    refine q_icmp_ne hE (tgt := 22) (dlX5_need_0.at 6 rfl) (by decide) hm (fun hc3 hm => ?_) (fun hc3 hm => ?_)
    · refine q_aload_n hE 0 (dlX5_need_0.at 7 rfl) rfl rfl ?_
      refine q_callV_v (X := fun z => WG V z o) hE (As := []) (dlX5_need_0.at 8 rfl) mw_X5_step wm_X5_36 rfl rfl rfl rfl (Nat.zero_le _) (Nat.zero_le _) rfl kc5 g31 rfl (ok_X5_step hfx) hm (fun v5 h5 hm => ?_)
      refine q_goto hE (tgt := 27) (dlX5_need_0.at 9 rfl) (by decide) ?_
      exact q_vret (X := fun z => WG V z o) hE (dlX5_need_0.at 13 rfl) hm hQ rfl
    · refine q_aload_n hE 0 (dlX5_need_0.at 10 rfl) rfl rfl ?_
      refine q_iconst hE (dlX5_need_0.at 11 rfl) ic_1 ?_
      refine q_put hE hfx (dlX5_need_0.at 12 rfl) kc5 wf_X5_23 g31 rfl (by decide) (by decide) rfl rfl rfl u31_4 ?_
      refine q_lth (X := fun z => WG V z o) hm (fun h4 hm => ?_)
      exact q_vret (X := fun z => WG V z o) hE (dlX5_need_0.at 13 rfl) hm hQ rfl
  · refine q_aload_n hE 0 (dlX5_need_0.at 10 rfl) rfl rfl ?_
    refine q_iconst hE (dlX5_need_0.at 11 rfl) ic_1 ?_
    refine q_put hE hfx (dlX5_need_0.at 12 rfl) kc5 wf_X5_23 g31 rfl (by decide) (by decide) rfl rfl rfl u31_4 ?_
    refine q_lth (X := fun z => WG V z o) hm (fun h2 hm => ?_)
    exact q_vret (X := fun z => WG V z o) hE (dlX5_need_0.at 13 rfl) hm hQ rfl
set_option maxRecDepth 10000 in
theorem ok_X5_isDigit {V : Ev} {l : Launch} {o : PH} {F : Nat}  (hfx : V.2.2.2.2 = false)  {h : PH} : ∀ (v : Int32) (h' : PH), f_X5_isDigit F  h = some (v, h') → Ctr l V yX5_isDigit cX5_isDigit 1 (some .boolean) 1 [rf V 31] 143 (WG V h o) 143 (WG V (h') o) (some (.int v)) 0 0 := by
  intro v h' hm
  refine Ctr.intro RX5 (by decide +kernel) rfl rfl rfl ?_
  intro E hE hQ _
  unfold f_X5_isDigit at hm
  refine q_aload_n hE 0 (dlX5_isDigit_0.at 0 rfl) rfl rfl ?_
  refine q_get hE (dlX5_isDigit_0.at 1 rfl) kc5 wf_X5_20 g31 rfl rfl rfl ?_
  refine q_bipush hE (dlX5_isDigit_0.at 2 rfl) bc_48 ?_
  refine q_icmp_lt hE (tgt := 22) (dlX5_isDigit_0.at 3 rfl) (by decide) hm (fun hc1 hm => ?_) (fun hc1 hm => ?_)
  · refine q_iconst hE (dlX5_isDigit_0.at 10 rfl) ic_0 ?_
    exact q_bret (X := fun z => WG V z o) hE (dlX5_isDigit_0.at 11 rfl) hm hQ rfl (by decide)
  · refine q_aload_n hE 0 (dlX5_isDigit_0.at 4 rfl) rfl rfl ?_
    refine q_get hE (dlX5_isDigit_0.at 5 rfl) kc5 wf_X5_20 g31 rfl rfl rfl ?_
    refine q_bipush hE (dlX5_isDigit_0.at 6 rfl) bc_57 ?_
    refine q_icmp_gt hE (tgt := 22) (dlX5_isDigit_0.at 7 rfl) (by decide) hm (fun hc2 hm => ?_) (fun hc2 hm => ?_)
    · refine q_iconst hE (dlX5_isDigit_0.at 10 rfl) ic_0 ?_
      exact q_bret (X := fun z => WG V z o) hE (dlX5_isDigit_0.at 11 rfl) hm hQ rfl (by decide)
    · refine q_iconst hE (dlX5_isDigit_0.at 8 rfl) ic_1 ?_
      refine q_goto hE (tgt := 23) (dlX5_isDigit_0.at 9 rfl) (by decide) ?_
      exact q_bret (X := fun z => WG V z o) hE (dlX5_isDigit_0.at 11 rfl) hm hQ rfl (by decide)
set_option maxRecDepth 10000 in
theorem ok_X5_number {V : Ev} {l : Launch} {o : PH} {F : Nat}  (hfx : V.2.2.2.2 = false)  {h : PH} : ∀ (v : Int32) (h' : PH), f_X5_number F  h = some (v, h') → Ctr l V yX5_number cX5_number 2 (some .int) 2 [rf V 31] 143 (WG V h o) 143 (WG V (h') o) (some (.int v)) 0 0 := by
  intro v h' hm
  refine Ctr.intro RX5 (by decide +kernel) rfl rfl rfl ?_
  intro E hE hQ _
  unfold f_X5_number at hm
  refine q_aload_n hE 0 (dlX5_number_0.at 0 rfl) rfl rfl ?_
  refine q_get hE (dlX5_number_0.at 1 rfl) kc5 wf_X5_23 g31 rfl rfl rfl ?_
  refine q_if_ne hE (tgt := 14) (dlX5_number_0.at 2 rfl) (by decide) hm (fun hc1 hm => ?_) (fun hc1 hm => ?_)
  · refine q_aload_n hE 0 (dlX5_number_0.at 3 rfl) rfl rfl ?_
    refine q_callV_i (X := fun z => WG V z o) hE (As := []) (dlX5_number_0.at 4 rfl) mw_X5_isDigit wm_X5_83 rfl rfl rfl rfl (Nat.zero_le _) (Nat.zero_le _) rfl kc5 g31 rfl (ok_X5_isDigit hfx) hm (fun v3 h3 hm => ?_)
    refine q_if_ne hE (tgt := 21) (dlX5_number_0.at 5 rfl) (by decide) hm (fun hc4 hm => ?_) (fun hc4 hm => ?_)
    · refine q_aload_n hE 0 (dlX5_number_0.at 6 rfl) rfl rfl ?_
      refine q_iconst hE (dlX5_number_0.at 7 rfl) ic_1 ?_
      refine q_put hE hfx (dlX5_number_0.at 8 rfl) kc5 wf_X5_23 g31 rfl (by decide) (by decide) rfl rfl rfl u31_4 ?_
      refine q_lth (X := fun z => WG V z o) hm (fun h9 hm => ?_)
      refine q_iconst hE (dlX5_number_0.at 9 rfl) ic_0 ?_
      exact q_iret (X := fun z => WG V z o) hE (dlX5_number_0.at 10 rfl) hm hQ rfl
    · refine q_aload_n hE 0 (dlX5_number_0.at 11 rfl) rfl rfl ?_
      refine q_get hE (dlX5_number_0.at 12 rfl) kc5 wf_X5_20 g31 rfl rfl rfl ?_
      refine q_bipush hE (dlX5_number_0.at 13 rfl) bc_48 ?_
      refine q_isub hE (dlX5_number_0.at 14 rfl) ?_
      refine q_istore_n hE [(0, _), (1, _)] (dlX5_number_0.at 15 rfl) rfl rfl rfl ?_
      refine q_aload_n hE 0 (dlX5_number_0.at 16 rfl) rfl rfl ?_
      refine q_callV_v (X := fun z => WG V z o) hE (As := []) (dlX5_number_0.at 17 rfl) mw_X5_step wm_X5_36 rfl rfl rfl rfl (Nat.zero_le _) (Nat.zero_le _) rfl kc5 g31 rfl (ok_X5_step hfx) hm (fun v5 h5 hm => ?_)
      refine q_aload_n hE 0 (dlX5_number_0.at 18 rfl) rfl rfl ?_
      refine q_callV_i (X := fun z => WG V z o) hE (As := []) (dlX5_number_0.at 19 rfl) mw_X5_isDigit wm_X5_83 rfl rfl rfl rfl (Nat.zero_le _) (Nat.zero_le _) rfl kc5 g31 rfl (ok_X5_isDigit hfx) hm (fun v6 h6 hm => ?_)
      refine q_if_eq hE (tgt := 57) (dlX5_number_0.at 20 rfl) (by decide) hm (fun hc7 hm => ?_) (fun hc7 hm => ?_)
      · refine q_iload_n hE 1 (dlX5_number_0.at 32 rfl) rfl rfl ?_
        exact q_iret (X := fun z => WG V z o) hE (dlX5_number_0.at 33 rfl) hm hQ rfl
      · refine q_iload_n hE 1 (dlX5_number_0.at 21 rfl) rfl rfl ?_
        refine q_bipush hE (dlX5_number_0.at 22 rfl) bc_10 ?_
        refine q_imul hE (dlX5_number_0.at 23 rfl) ?_
        refine q_aload_n hE 0 (dlX5_number_0.at 24 rfl) rfl rfl ?_
        refine q_get hE (dlX5_number_0.at 25 rfl) kc5 wf_X5_20 g31 rfl rfl rfl ?_
        refine q_iadd hE (dlX5_number_0.at 26 rfl) ?_
        refine q_bipush hE (dlX5_number_0.at 27 rfl) bc_48 ?_
        refine q_isub hE (dlX5_number_0.at 28 rfl) ?_
        refine q_istore_n hE [(0, _), (1, _)] (dlX5_number_0.at 29 rfl) rfl rfl rfl ?_
        refine q_aload_n hE 0 (dlX5_number_0.at 30 rfl) rfl rfl ?_
        refine q_callV_v (X := fun z => WG V z o) hE (As := []) (dlX5_number_0.at 31 rfl) mw_X5_step wm_X5_36 rfl rfl rfl rfl (Nat.zero_le _) (Nat.zero_le _) rfl kc5 g31 rfl (ok_X5_step hfx) hm (fun v8 h8 hm => ?_)
        refine q_iload_n hE 1 (dlX5_number_0.at 32 rfl) rfl rfl ?_
        exact q_iret (X := fun z => WG V z o) hE (dlX5_number_0.at 33 rfl) hm hQ rfl
  · refine q_aload_n hE 0 (dlX5_number_0.at 6 rfl) rfl rfl ?_
    refine q_iconst hE (dlX5_number_0.at 7 rfl) ic_1 ?_
    refine q_put hE hfx (dlX5_number_0.at 8 rfl) kc5 wf_X5_23 g31 rfl (by decide) (by decide) rfl rfl rfl u31_4 ?_
    refine q_lth (X := fun z => WG V z o) hm (fun h2 hm => ?_)
    refine q_iconst hE (dlX5_number_0.at 9 rfl) ic_0 ?_
    exact q_iret (X := fun z => WG V z o) hE (dlX5_number_0.at 10 rfl) hm hQ rfl
set_option maxRecDepth 10000 in
theorem okL_X5_either_7 {V : Ev} {l : Launch} {dd : Nat} (hdd : Nat.ble 6 dd = true) {o : PH} {F : Nat} {G : Nat → Int32 → PH → Option (Unit × PH)}  (hG : (∀ (a1 : Int32) (h : PH) (v : Unit) (h' : PH), G 0 a1 h = some (v, h') → Ctr l V yX5_either cX5_either 3 none dd [rf V 31, .int a1] 143 (WG V h o) 143 (WG V (h') o) none 0 0) ∧ (∀ (a1 : Int32) (h : PH) (v : Unit) (h' : PH), G 1 a1 h = some (v, h') → Ctr l V yX5_both cX5_both 3 none dd [rf V 31, .int a1] 143 (WG V h o) 143 (WG V (h') o) none 0 0) ∧ (∀ (a1 : Int32) (h : PH) (v : Unit) (h' : PH), G 2 a1 h = some (v, h') → Ctr l V yX5_factor cX5_factor 4 none dd [rf V 31, .int a1] 143 (WG V h o) 143 (WG V (h') o) none 0 0)) (hfx : V.2.2.2.2 = false) {E : Cx} (hE : CX E V l cX5_either RX5 3 (dd + 1) 0 0 none) {r : Unit × PH} (hQ : RQ E V 143 (WG V r.2 o) (none) 0 0) : ∀ (n : Nat) (x1 : Int32) (x2 : Int32) (h : PH), fL_X5_either_7 F G n x1 x2 h = some r → PW E V 0 0 143 (WG V h o) 7 [(0, rf V 31), (1, .int x1), (2, .int x2)] [] := by
  intro n
  induction n with
  | zero => intro x1 x2 h hm; cases hm
  | succ n ih =>
    intro x1 x2 h hm
    rw [fL_X5_either_7] at hm
    refine q_iload_n hE 2 (dlX5_either_0.at 5 rfl) rfl rfl ?_
    refine q_bipush hE (dlX5_either_0.at 6 rfl) bc_100 ?_
    refine q_icmp_ge hE (tgt := 53) (dlX5_either_0.at 7 rfl) (by decide) hm (fun hc2 hm => ?_) (fun hc2 hm => ?_)
    · exact q_vret (X := fun z => WG V z o) hE (dlX5_either_0.at 26 rfl) hm hQ rfl
    · refine q_aload_n hE 0 (dlX5_either_0.at 8 rfl) rfl rfl ?_
      refine q_get hE (dlX5_either_0.at 9 rfl) kc5 wf_X5_23 g31 rfl rfl rfl ?_
      refine q_if_ne hE (tgt := 53) (dlX5_either_0.at 10 rfl) (by decide) hm (fun hc3 hm => ?_) (fun hc3 hm => ?_)
      · refine q_aload_n hE 0 (dlX5_either_0.at 11 rfl) rfl rfl ?_
        refine q_get hE (dlX5_either_0.at 12 rfl) kc5 wf_X5_20 g31 rfl rfl rfl ?_
        refine q_bipush hE (dlX5_either_0.at 13 rfl) bc_124 ?_
        refine q_icmp_ne hE (tgt := 53) (dlX5_either_0.at 14 rfl) (by decide) hm (fun hc4 hm => ?_) (fun hc4 hm => ?_)
        · refine q_aload_n hE 0 (dlX5_either_0.at 15 rfl) rfl rfl ?_
          refine q_callV_v (X := fun z => WG V z o) hE (As := []) (dlX5_either_0.at 16 rfl) mw_X5_step wm_X5_36 (kr_c hdd rfl) rfl rfl rfl (Nat.zero_le _) (Nat.zero_le _) rfl kc5 g31 rfl (ok_X5_step hfx) hm (fun v5 h5 hm => ?_)
          refine q_aload_n hE 0 (dlX5_either_0.at 17 rfl) rfl rfl ?_
          refine q_iload_n hE 1 (dlX5_either_0.at 18 rfl) rfl rfl ?_
          refine q_callV_v (X := fun z => WG V z o) hE (As := [_]) (dlX5_either_0.at 19 rfl) mw_X5_both wm_X5_87 (kr_s _) rfl rfl rfl (Nat.zero_le _) (Nat.zero_le _) rfl kc5 g31 rfl (hG.2.1 _ _) hm (fun v6 h6 hm => ?_)
          refine q_aload_n hE 0 (dlX5_either_0.at 20 rfl) rfl rfl ?_
          refine q_get hE (dlX5_either_0.at 21 rfl) kc5 wf_X5_27 g31 rfl rfl rfl ?_
          refine q_deref hE hm (fun z7 hz7 hm => ?_)
          refine q_bipush hE (dlX5_either_0.at 22 rfl) bc_m3 ?_
          refine q_callVN_v (X := fun z => WG V z o) hE (As := [_]) (dlX5_either_0.at 23 rfl) mw_X2_addStep wm_X5_90 (kr_c hdd rfl) rfl rfl rfl (Nat.zero_le _) (Nat.zero_le _) rfl kc2 (g_Bench hz7) (b_Bench hz7) (ok_X2_addStep hfx) hm (fun v8 h8 hm => ?_)
          refine q_iinc hE [(0, _), (1, _), (2, _)] 2 (dlX5_either_0.at 24 rfl) rfl ic_1 rfl rfl ?_
          refine q_goto hE (tgt := 7) (dlX5_either_0.at 25 rfl) (by decide) ?_
          refine q_sub hE [0, 1, 2] rfl ?_
          exact ih _ _ _  hm
        · exact q_vret (X := fun z => WG V z o) hE (dlX5_either_0.at 26 rfl) hm hQ rfl
      · exact q_vret (X := fun z => WG V z o) hE (dlX5_either_0.at 26 rfl) hm hQ rfl
set_option maxRecDepth 10000 in
theorem okb_X5_either {V : Ev} {l : Launch} {dd : Nat} (hdd : Nat.ble 6 dd = true) {o : PH} {F : Nat} {G : Nat → Int32 → PH → Option (Unit × PH)}  (hG : (∀ (a1 : Int32) (h : PH) (v : Unit) (h' : PH), G 0 a1 h = some (v, h') → Ctr l V yX5_either cX5_either 3 none dd [rf V 31, .int a1] 143 (WG V h o) 143 (WG V (h') o) none 0 0) ∧ (∀ (a1 : Int32) (h : PH) (v : Unit) (h' : PH), G 1 a1 h = some (v, h') → Ctr l V yX5_both cX5_both 3 none dd [rf V 31, .int a1] 143 (WG V h o) 143 (WG V (h') o) none 0 0) ∧ (∀ (a1 : Int32) (h : PH) (v : Unit) (h' : PH), G 2 a1 h = some (v, h') → Ctr l V yX5_factor cX5_factor 4 none dd [rf V 31, .int a1] 143 (WG V h o) 143 (WG V (h') o) none 0 0)) (hfx : V.2.2.2.2 = false) {a1 : Int32} {h : PH} : ∀ (v : Unit) (h' : PH), b_X5_either F G a1 h = some (v, h') → Ctr l V yX5_either cX5_either 3 none (dd + 1) [rf V 31, .int a1] 143 (WG V h o) 143 (WG V (h') o) (none) 0 0 := by
  intro v h' hm
  refine Ctr.intro RX5 (by decide +kernel) rfl rfl rfl ?_
  intro E hE hQ _
  unfold b_X5_either at hm
  refine q_aload_n hE 0 (dlX5_either_0.at 0 rfl) rfl rfl ?_
  refine q_iload_n hE 1 (dlX5_either_0.at 1 rfl) rfl rfl ?_
  refine q_callV_v (X := fun z => WG V z o) hE (As := [_]) (dlX5_either_0.at 2 rfl) mw_X5_both wm_X5_87 (kr_s _) rfl rfl rfl (Nat.zero_le _) (Nat.zero_le _) rfl kc5 g31 rfl (hG.2.1 _ _) hm (fun v1 h1 hm => ?_)
  refine q_iconst hE (dlX5_either_0.at 3 rfl) ic_0 ?_
  refine q_istore_n hE [(0, _), (1, _), (2, _)] (dlX5_either_0.at 4 rfl) rfl rfl rfl ?_
  refine q_sub hE [0, 1, 2] rfl ?_
  exact okL_X5_either_7 hdd hG hfx hE hQ  F _ _ _  hm
set_option maxRecDepth 10000 in
theorem okL_X5_both_7 {V : Ev} {l : Launch} {dd : Nat} (hdd : Nat.ble 6 dd = true) {o : PH} {F : Nat} {G : Nat → Int32 → PH → Option (Unit × PH)}  (hG : (∀ (a1 : Int32) (h : PH) (v : Unit) (h' : PH), G 0 a1 h = some (v, h') → Ctr l V yX5_either cX5_either 3 none dd [rf V 31, .int a1] 143 (WG V h o) 143 (WG V (h') o) none 0 0) ∧ (∀ (a1 : Int32) (h : PH) (v : Unit) (h' : PH), G 1 a1 h = some (v, h') → Ctr l V yX5_both cX5_both 3 none dd [rf V 31, .int a1] 143 (WG V h o) 143 (WG V (h') o) none 0 0) ∧ (∀ (a1 : Int32) (h : PH) (v : Unit) (h' : PH), G 2 a1 h = some (v, h') → Ctr l V yX5_factor cX5_factor 4 none dd [rf V 31, .int a1] 143 (WG V h o) 143 (WG V (h') o) none 0 0)) (hfx : V.2.2.2.2 = false) {E : Cx} (hE : CX E V l cX5_both RX5 3 (dd + 1) 0 0 none) {r : Unit × PH} (hQ : RQ E V 143 (WG V r.2 o) (none) 0 0) : ∀ (n : Nat) (x1 : Int32) (x2 : Int32) (h : PH), fL_X5_both_7 F G n x1 x2 h = some r → PW E V 0 0 143 (WG V h o) 7 [(0, rf V 31), (1, .int x1), (2, .int x2)] [] := by
  intro n
  induction n with
  | zero => intro x1 x2 h hm; cases hm
  | succ n ih =>
    intro x1 x2 h hm
    rw [fL_X5_both_7] at hm
    refine q_iload_n hE 2 (dlX5_both_0.at 5 rfl) rfl rfl ?_
    refine q_bipush hE (dlX5_both_0.at 6 rfl) bc_100 ?_
    refine q_icmp_ge hE (tgt := 53) (dlX5_both_0.at 7 rfl) (by decide) hm (fun hc2 hm => ?_) (fun hc2 hm => ?_)
    · exact q_vret (X := fun z => WG V z o) hE (dlX5_both_0.at 26 rfl) hm hQ rfl
    · refine q_aload_n hE 0 (dlX5_both_0.at 8 rfl) rfl rfl ?_
      refine q_get hE (dlX5_both_0.at 9 rfl) kc5 wf_X5_23 g31 rfl rfl rfl ?_
      refine q_if_ne hE (tgt := 53) (dlX5_both_0.at 10 rfl) (by decide) hm (fun hc3 hm => ?_) (fun hc3 hm => ?_)
      · refine q_aload_n hE 0 (dlX5_both_0.at 11 rfl) rfl rfl ?_
        refine q_get hE (dlX5_both_0.at 12 rfl) kc5 wf_X5_20 g31 rfl rfl rfl ?_
        refine q_bipush hE (dlX5_both_0.at 13 rfl) bc_38 ?_
        refine q_icmp_ne hE (tgt := 53) (dlX5_both_0.at 14 rfl) (by decide) hm (fun hc4 hm => ?_) (fun hc4 hm => ?_)
        · refine q_aload_n hE 0 (dlX5_both_0.at 15 rfl) rfl rfl ?_
          refine q_callV_v (X := fun z => WG V z o) hE (As := []) (dlX5_both_0.at 16 rfl) mw_X5_step wm_X5_36 (kr_c hdd rfl) rfl rfl rfl (Nat.zero_le _) (Nat.zero_le _) rfl kc5 g31 rfl (ok_X5_step hfx) hm (fun v5 h5 hm => ?_)
          refine q_aload_n hE 0 (dlX5_both_0.at 17 rfl) rfl rfl ?_
          refine q_iload_n hE 1 (dlX5_both_0.at 18 rfl) rfl rfl ?_
          refine q_callV_v (X := fun z => WG V z o) hE (As := [_]) (dlX5_both_0.at 19 rfl) mw_X5_factor wm_X5_93 (kr_s _) rfl rfl rfl (Nat.zero_le _) (Nat.zero_le _) rfl kc5 g31 rfl (hG.2.2 _ _) hm (fun v6 h6 hm => ?_)
          refine q_aload_n hE 0 (dlX5_both_0.at 20 rfl) rfl rfl ?_
          refine q_get hE (dlX5_both_0.at 21 rfl) kc5 wf_X5_27 g31 rfl rfl rfl ?_
          refine q_deref hE hm (fun z7 hz7 hm => ?_)
          refine q_bipush hE (dlX5_both_0.at 22 rfl) bc_m2 ?_
          refine q_callVN_v (X := fun z => WG V z o) hE (As := [_]) (dlX5_both_0.at 23 rfl) mw_X2_addStep wm_X5_90 (kr_c hdd rfl) rfl rfl rfl (Nat.zero_le _) (Nat.zero_le _) rfl kc2 (g_Bench hz7) (b_Bench hz7) (ok_X2_addStep hfx) hm (fun v8 h8 hm => ?_)
          refine q_iinc hE [(0, _), (1, _), (2, _)] 2 (dlX5_both_0.at 24 rfl) rfl ic_1 rfl rfl ?_
          refine q_goto hE (tgt := 7) (dlX5_both_0.at 25 rfl) (by decide) ?_
          refine q_sub hE [0, 1, 2] rfl ?_
          exact ih _ _ _  hm
        · exact q_vret (X := fun z => WG V z o) hE (dlX5_both_0.at 26 rfl) hm hQ rfl
      · exact q_vret (X := fun z => WG V z o) hE (dlX5_both_0.at 26 rfl) hm hQ rfl
set_option maxRecDepth 10000 in
theorem okb_X5_both {V : Ev} {l : Launch} {dd : Nat} (hdd : Nat.ble 6 dd = true) {o : PH} {F : Nat} {G : Nat → Int32 → PH → Option (Unit × PH)}  (hG : (∀ (a1 : Int32) (h : PH) (v : Unit) (h' : PH), G 0 a1 h = some (v, h') → Ctr l V yX5_either cX5_either 3 none dd [rf V 31, .int a1] 143 (WG V h o) 143 (WG V (h') o) none 0 0) ∧ (∀ (a1 : Int32) (h : PH) (v : Unit) (h' : PH), G 1 a1 h = some (v, h') → Ctr l V yX5_both cX5_both 3 none dd [rf V 31, .int a1] 143 (WG V h o) 143 (WG V (h') o) none 0 0) ∧ (∀ (a1 : Int32) (h : PH) (v : Unit) (h' : PH), G 2 a1 h = some (v, h') → Ctr l V yX5_factor cX5_factor 4 none dd [rf V 31, .int a1] 143 (WG V h o) 143 (WG V (h') o) none 0 0)) (hfx : V.2.2.2.2 = false) {a1 : Int32} {h : PH} : ∀ (v : Unit) (h' : PH), b_X5_both F G a1 h = some (v, h') → Ctr l V yX5_both cX5_both 3 none (dd + 1) [rf V 31, .int a1] 143 (WG V h o) 143 (WG V (h') o) (none) 0 0 := by
  intro v h' hm
  refine Ctr.intro RX5 (by decide +kernel) rfl rfl rfl ?_
  intro E hE hQ _
  unfold b_X5_both at hm
  refine q_aload_n hE 0 (dlX5_both_0.at 0 rfl) rfl rfl ?_
  refine q_iload_n hE 1 (dlX5_both_0.at 1 rfl) rfl rfl ?_
  refine q_callV_v (X := fun z => WG V z o) hE (As := [_]) (dlX5_both_0.at 2 rfl) mw_X5_factor wm_X5_93 (kr_s _) rfl rfl rfl (Nat.zero_le _) (Nat.zero_le _) rfl kc5 g31 rfl (hG.2.2 _ _) hm (fun v1 h1 hm => ?_)
  refine q_iconst hE (dlX5_both_0.at 3 rfl) ic_0 ?_
  refine q_istore_n hE [(0, _), (1, _), (2, _)] (dlX5_both_0.at 4 rfl) rfl rfl rfl ?_
  refine q_sub hE [0, 1, 2] rfl ?_
  exact okL_X5_both_7 hdd hG hfx hE hQ  F _ _ _  hm
set_option maxRecDepth 10000 in
theorem okL_X5_factor_78 {V : Ev} {l : Launch} {dd : Nat} (hdd : Nat.ble 6 dd = true) {o : PH} {F : Nat} {G : Nat → Int32 → PH → Option (Unit × PH)}  (hG : (∀ (a1 : Int32) (h : PH) (v : Unit) (h' : PH), G 0 a1 h = some (v, h') → Ctr l V yX5_either cX5_either 3 none dd [rf V 31, .int a1] 143 (WG V h o) 143 (WG V (h') o) none 0 0) ∧ (∀ (a1 : Int32) (h : PH) (v : Unit) (h' : PH), G 1 a1 h = some (v, h') → Ctr l V yX5_both cX5_both 3 none dd [rf V 31, .int a1] 143 (WG V h o) 143 (WG V (h') o) none 0 0) ∧ (∀ (a1 : Int32) (h : PH) (v : Unit) (h' : PH), G 2 a1 h = some (v, h') → Ctr l V yX5_factor cX5_factor 4 none dd [rf V 31, .int a1] 143 (WG V h o) 143 (WG V (h') o) none 0 0)) (hfx : V.2.2.2.2 = false) {E : Cx} (hE : CX E V l cX5_factor RX5 4 (dd + 1) 0 0 none) {r : Unit × PH} (hQ : RQ E V 143 (WG V r.2 o) (none) 0 0) : ∀  (h : PH), fL_X5_factor_78 F G  h = some r → PW E V 0 0 143 (WG V h o) 78 [(0, rf V 31)] [] := by
  intro h hm
  unfold fL_X5_factor_78 at hm
  refine q_aload_n hE 0 (dlX5_factor_1.at 1 rfl) rfl rfl ?_
  refine q_ldcS hE (2 * 3 + 2) (dlX5_factor_1.at 2 rfl) (fun _ _ h => h.2.1.2.2.2.2.1) ?_
  refine q_callV_i (X := fun z => WG V z o) hE (As := [_]) (dlX5_factor_1.at 3 rfl) mw_X5_choice wm_X5_98 (kr_c hdd rfl) rfl rfl rfl (Nat.zero_le _) (Nat.zero_le _) rfl kc5 g31 rfl (ok_X5_choice hfx) hm (fun v4 h4 hm => ?_)
  refine q_istore_n hE [(0, _), (2, _)] (dlX5_factor_1.at 4 rfl) rfl rfl rfl ?_
  refine q_aload_n hE 0 (dlX5_factor_1.at 5 rfl) rfl rfl ?_
  refine q_ldcS hE (2 * 4 + 2) (dlX5_factor_1.at 6 rfl) (fun _ _ h => h.2.1.2.2.2.2.2) ?_
  refine q_callV_i (X := fun z => WG V z o) hE (As := [_]) (dlX5_factor_1.at 7 rfl) mw_X5_choice wm_X5_98 (kr_c hdd rfl) rfl rfl rfl (Nat.zero_le _) (Nat.zero_le _) rfl kc5 g31 rfl (ok_X5_choice hfx) hm (fun v5 h5 hm => ?_)
  refine q_istore_n hE [(0, _), (2, _), (3, _)] (dlX5_factor_1.at 8 rfl) rfl rfl rfl ?_
  refine q_aload_n hE 0 (dlX5_factor_1.at 9 rfl) rfl rfl ?_
  refine q_get hE (dlX5_factor_1.at 10 rfl) kc5 wf_X5_27 g31 rfl rfl rfl ?_
  refine q_deref hE hm (fun z6 hz6 hm => ?_)
  refine q_iload_n hE 1 (dlX5_factor_1.at 11 rfl) rfl rfl ?_
  refine q_iload_n hE 2 (dlX5_factor_1.at 12 rfl) rfl rfl ?_
  refine q_aload_n hE 0 (dlX5_factor_1.at 13 rfl) rfl rfl ?_
  refine q_callV_i (X := fun z => WG V z o) hE (As := []) (dlX5_factor_1.at 14 rfl) mw_X5_number wm_X5_61 (kr_c hdd rfl) rfl rfl rfl (Nat.zero_le _) (Nat.zero_le _) rfl kc5 g31 rfl (ok_X5_number hfx) hm (fun v7 h7 hm => ?_)
  refine q_callSN_i (X := fun z => WG V z o) hE (As := [_, _, _]) (dlX5_factor_1.at 15 rfl) mw_X2_testStep wm_X5_104 (kr_c hdd rfl) rfl rfl rfl (Nat.zero_le _) (Nat.zero_le _) rfl (ok_X2_testStep hfx) hm (fun v8 h8 hm => ?_)
  refine q_callVN_v (X := fun z => WG V z o) hE (As := [_]) (dlX5_factor_1.at 16 rfl) mw_X2_addStep wm_X5_90 (kr_c hdd rfl) rfl rfl rfl (Nat.zero_le _) (Nat.zero_le _) rfl kc2 (g_Bench hz6) (b_Bench hz6) (ok_X2_addStep hfx) hm (fun v9 h9 hm => ?_)
  exact q_vret (X := fun z => WG V z o) hE (dlX5_factor_1.at 17 rfl) hm hQ rfl
set_option maxRecDepth 10000 in
theorem okL_X5_factor_44 {V : Ev} {l : Launch} {dd : Nat} (hdd : Nat.ble 6 dd = true) {o : PH} {F : Nat} {G : Nat → Int32 → PH → Option (Unit × PH)}  (hG : (∀ (a1 : Int32) (h : PH) (v : Unit) (h' : PH), G 0 a1 h = some (v, h') → Ctr l V yX5_either cX5_either 3 none dd [rf V 31, .int a1] 143 (WG V h o) 143 (WG V (h') o) none 0 0) ∧ (∀ (a1 : Int32) (h : PH) (v : Unit) (h' : PH), G 1 a1 h = some (v, h') → Ctr l V yX5_both cX5_both 3 none dd [rf V 31, .int a1] 143 (WG V h o) 143 (WG V (h') o) none 0 0) ∧ (∀ (a1 : Int32) (h : PH) (v : Unit) (h' : PH), G 2 a1 h = some (v, h') → Ctr l V yX5_factor cX5_factor 4 none dd [rf V 31, .int a1] 143 (WG V h o) 143 (WG V (h') o) none 0 0)) (hfx : V.2.2.2.2 = false) {E : Cx} (hE : CX E V l cX5_factor RX5 4 (dd + 1) 0 0 none) {r : Unit × PH} (hQ : RQ E V 143 (WG V r.2 o) (none) 0 0) : ∀ (x1 : Int32) (h : PH), fL_X5_factor_44 F G x1 h = some r → PW E V 0 0 143 (WG V h o) 44 [(0, rf V 31), (1, .int x1)] [] := by
  intro x1 h hm
  unfold fL_X5_factor_44 at hm
  refine q_aload_n hE 0 (dlX5_factor_0.at 23 rfl) rfl rfl ?_
  refine q_get hE (dlX5_factor_0.at 24 rfl) kc5 wf_X5_20 g31 rfl rfl rfl ?_
  refine q_bipush hE (dlX5_factor_0.at 25 rfl) bc_40 ?_
  refine q_icmp_ne hE (tgt := 78) (dlX5_factor_0.at 26 rfl) (by decide) hm (fun hc3 hm => ?_) (fun hc3 hm => ?_)
  · refine q_iload_n hE 1 (dlX5_factor_0.at 27 rfl) rfl rfl ?_
    refine q_iconst hE (dlX5_factor_0.at 28 rfl) ic_4 ?_
    refine q_icmp_ge hE (tgt := 78) (dlX5_factor_0.at 29 rfl) (by decide) hm (fun hc10 hm => ?_) (fun hc10 hm => ?_)
    · refine q_sub hE [0] rfl ?_
      exact okL_X5_factor_78 hdd hG hfx hE hQ   _  hm
    · refine q_aload_n hE 0 (dlX5_factor_0.at 30 rfl) rfl rfl ?_
      refine q_callV_v (X := fun z => WG V z o) hE (As := []) (dlX5_factor_0.at 31 rfl) mw_X5_step wm_X5_36 (kr_c hdd rfl) rfl rfl rfl (Nat.zero_le _) (Nat.zero_le _) rfl kc5 g31 rfl (ok_X5_step hfx) hm (fun v11 h11 hm => ?_)
      refine q_aload_n hE 0 (dlX5_factor_0.at 32 rfl) rfl rfl ?_
      refine q_iload_n hE 1 (dlX5_factor_0.at 33 rfl) rfl rfl ?_
      refine q_iconst hE (dlX5_factor_0.at 34 rfl) ic_1 ?_
      refine q_iadd hE (dlX5_factor_0.at 35 rfl) ?_
      refine q_callV_v (X := fun z => WG V z o) hE (As := [_]) (dlX5_factor_0.at 36 rfl) mw_X5_either wm_X5_76 (kr_s _) rfl rfl rfl (Nat.zero_le _) (Nat.zero_le _) rfl kc5 g31 rfl (hG.1 _ _) hm (fun v12 h12 hm => ?_)
      refine q_aload_n hE 0 (dlX5_factor_0.at 37 rfl) rfl rfl ?_
      refine q_bipush hE (dlX5_factor_0.at 38 rfl) bc_41 ?_
      refine q_callV_v (X := fun z => WG V z o) hE (As := [_]) (dlX5_factor_0.at 39 rfl) mw_X5_need wm_X5_51 (kr_c hdd rfl) rfl rfl rfl (Nat.zero_le _) (Nat.zero_le _) rfl kc5 g31 rfl (ok_X5_need hfx) hm (fun v13 h13 hm => ?_)
      refine q_goto hE (tgt := 108) (dlX5_factor_1.at 0 rfl) (by decide) ?_
      exact q_vret (X := fun z => WG V z o) hE (dlX5_factor_1.at 17 rfl) hm hQ rfl
  · refine q_sub hE [0] rfl ?_
    exact okL_X5_factor_78 hdd hG hfx hE hQ   _  hm
set_option maxRecDepth 10000 in
theorem okb_X5_factor {V : Ev} {l : Launch} {dd : Nat} (hdd : Nat.ble 6 dd = true) {o : PH} {F : Nat} {G : Nat → Int32 → PH → Option (Unit × PH)}  (hG : (∀ (a1 : Int32) (h : PH) (v : Unit) (h' : PH), G 0 a1 h = some (v, h') → Ctr l V yX5_either cX5_either 3 none dd [rf V 31, .int a1] 143 (WG V h o) 143 (WG V (h') o) none 0 0) ∧ (∀ (a1 : Int32) (h : PH) (v : Unit) (h' : PH), G 1 a1 h = some (v, h') → Ctr l V yX5_both cX5_both 3 none dd [rf V 31, .int a1] 143 (WG V h o) 143 (WG V (h') o) none 0 0) ∧ (∀ (a1 : Int32) (h : PH) (v : Unit) (h' : PH), G 2 a1 h = some (v, h') → Ctr l V yX5_factor cX5_factor 4 none dd [rf V 31, .int a1] 143 (WG V h o) 143 (WG V (h') o) none 0 0)) (hfx : V.2.2.2.2 = false) {a1 : Int32} {h : PH} : ∀ (v : Unit) (h' : PH), b_X5_factor F G a1 h = some (v, h') → Ctr l V yX5_factor cX5_factor 4 none (dd + 1) [rf V 31, .int a1] 143 (WG V h o) 143 (WG V (h') o) (none) 0 0 := by
  intro v h' hm
  refine Ctr.intro RX5 (by decide +kernel) rfl rfl rfl ?_
  intro E hE hQ _
  unfold b_X5_factor at hm
  refine q_aload_n hE 0 (dlX5_factor_0.at 0 rfl) rfl rfl ?_
  refine q_get hE (dlX5_factor_0.at 1 rfl) kc5 wf_X5_23 g31 rfl rfl rfl ?_
  refine q_if_eq hE (tgt := 8) (dlX5_factor_0.at 2 rfl) (by decide) hm (fun hc1 hm => ?_) (fun hc1 hm => ?_)
  · refine q_aload_n hE 0 (dlX5_factor_0.at 4 rfl) rfl rfl ?_
    refine q_get hE (dlX5_factor_0.at 5 rfl) kc5 wf_X5_20 g31 rfl rfl rfl ?_
    refine q_bipush hE (dlX5_factor_0.at 6 rfl) bc_33 ?_
    refine q_icmp_ne hE (tgt := 44) (dlX5_factor_0.at 7 rfl) (by decide) hm (fun hc2 hm => ?_) (fun hc2 hm => ?_)
    · refine q_iload_n hE 1 (dlX5_factor_0.at 8 rfl) rfl rfl ?_
      refine q_iconst hE (dlX5_factor_0.at 9 rfl) ic_4 ?_
      refine q_icmp_ge hE (tgt := 44) (dlX5_factor_0.at 10 rfl) (by decide) hm (fun hc14 hm => ?_) (fun hc14 hm => ?_)
      · refine q_sub hE [0, 1] rfl ?_
        exact okL_X5_factor_44 hdd hG hfx hE hQ  _ _  hm
      · refine q_aload_n hE 0 (dlX5_factor_0.at 11 rfl) rfl rfl ?_
        refine q_callV_v (X := fun z => WG V z o) hE (As := []) (dlX5_factor_0.at 12 rfl) mw_X5_step wm_X5_36 (kr_c hdd rfl) rfl rfl rfl (Nat.zero_le _) (Nat.zero_le _) rfl kc5 g31 rfl (ok_X5_step hfx) hm (fun v15 h15 hm => ?_)
        refine q_aload_n hE 0 (dlX5_factor_0.at 13 rfl) rfl rfl ?_
        refine q_iload_n hE 1 (dlX5_factor_0.at 14 rfl) rfl rfl ?_
        refine q_iconst hE (dlX5_factor_0.at 15 rfl) ic_1 ?_
        refine q_iadd hE (dlX5_factor_0.at 16 rfl) ?_
        refine q_callV_v (X := fun z => WG V z o) hE (As := [_]) (dlX5_factor_0.at 17 rfl) mw_X5_factor wm_X5_93 (kr_s _) rfl rfl rfl (Nat.zero_le _) (Nat.zero_le _) rfl kc5 g31 rfl (hG.2.2 _ _) hm (fun v16 h16 hm => ?_)
        refine q_aload_n hE 0 (dlX5_factor_0.at 18 rfl) rfl rfl ?_
        refine q_get hE (dlX5_factor_0.at 19 rfl) kc5 wf_X5_27 g31 rfl rfl rfl ?_
        refine q_deref hE hm (fun z17 hz17 hm => ?_)
        refine q_iconst hE (dlX5_factor_0.at 20 rfl) ic_m1 ?_
        refine q_callVN_v (X := fun z => WG V z o) hE (As := [_]) (dlX5_factor_0.at 21 rfl) mw_X2_addStep wm_X5_90 (kr_c hdd rfl) rfl rfl rfl (Nat.zero_le _) (Nat.zero_le _) rfl kc2 (g_Bench hz17) (b_Bench hz17) (ok_X2_addStep hfx) hm (fun v18 h18 hm => ?_)
        refine q_goto hE (tgt := 108) (dlX5_factor_0.at 22 rfl) (by decide) ?_
        exact q_vret (X := fun z => WG V z o) hE (dlX5_factor_1.at 17 rfl) hm hQ rfl
    · refine q_sub hE [0, 1] rfl ?_
      exact okL_X5_factor_44 hdd hG hfx hE hQ  _ _  hm
  · exact q_vret (X := fun z => WG V z o) hE (dlX5_factor_0.at 3 rfl) hm hQ rfl
theorem ok_grp_X5_either {V : Ev} {l : Launch} {o : PH} {F : Nat} (hfx : V.2.2.2.2 = false) : ∀ (d : Nat), (∀ (a1 : Int32) (h : PH) (v : Unit) (h' : PH), f_grp_X5_either F d 0 a1 h = some (v, h') → Ctr l V yX5_either cX5_either 3 none (6 + d) [rf V 31, .int a1] 143 (WG V h o) 143 (WG V (h') o) none 0 0) ∧ (∀ (a1 : Int32) (h : PH) (v : Unit) (h' : PH), f_grp_X5_either F d 1 a1 h = some (v, h') → Ctr l V yX5_both cX5_both 3 none (6 + d) [rf V 31, .int a1] 143 (WG V h o) 143 (WG V (h') o) none 0 0) ∧ (∀ (a1 : Int32) (h : PH) (v : Unit) (h' : PH), f_grp_X5_either F d 2 a1 h = some (v, h') → Ctr l V yX5_factor cX5_factor 4 none (6 + d) [rf V 31, .int a1] 143 (WG V h o) 143 (WG V (h') o) none 0 0) := by
  intro d
  induction d with
  | zero => exact ⟨fun a1 h v h' hm => (by cases hm), fun a1 h v h' hm => (by cases hm), fun a1 h v h' hm => (by cases hm)⟩
  | succ d ih =>
    exact ⟨fun a1 h v h' hm => okb_X5_either (dd := 6 + d) (Nat.ble_eq.mpr (Nat.le_add_right _ _)) ih hfx v h' hm, fun a1 h v h' hm => okb_X5_both (dd := 6 + d) (Nat.ble_eq.mpr (Nat.le_add_right _ _)) ih hfx v h' hm, fun a1 h v h' hm => okb_X5_factor (dd := 6 + d) (Nat.ble_eq.mpr (Nat.le_add_right _ _)) ih hfx v h' hm⟩
set_option maxRecDepth 10000 in
theorem ok_J3_checkIndex_8e157 {V : Ev} {l : Launch} {o : PH} {F : Nat}  (hfx : V.2.2.2.2 = false) {bv : Value} (hbv : bv = .null ∨ ∃ t : Nat, bv = .ref t) {a0 : Int32} {a1 : Int32} {h : PH} : ∀ (v : Int32) (h' : PH), f_J3_checkIndex_8e157 F a0 a1 h = some (v, h') → Ctr l V yJ3_checkIndex_8e157 cJ3_checkIndex_8e157 3 (some .int) 1 [.int a0, .int a1, bv] 143 (WG V h o) 143 (WG V (h') o) (some (.int v)) 0 0 := by
  rcases hbv with rfl | ⟨t, rfl⟩
  · intro v h' hm
    refine Ctr.intro RJ3 (by decide +kernel) rfl rfl rfl ?_
    intro E hE hQ _
    unfold f_J3_checkIndex_8e157 at hm
    refine q_iload_n hE 0 (dlJ3_checkIndex_8e157_0.at 0 rfl) rfl rfl ?_
    refine q_if_lt hE (tgt := 9) (dlJ3_checkIndex_8e157_0.at 1 rfl) (by decide) hm (fun hc1 hm => ?_) (fun hc1 hm => ?_)
    · cases hm
    · refine q_iload_n hE 0 (dlJ3_checkIndex_8e157_0.at 2 rfl) rfl rfl ?_
      refine q_iload_n hE 1 (dlJ3_checkIndex_8e157_0.at 3 rfl) rfl rfl ?_
      refine q_icmp_lt hE (tgt := 16) (dlJ3_checkIndex_8e157_0.at 4 rfl) (by decide) hm (fun hc2 hm => ?_) (fun hc2 hm => ?_)
      · refine q_iload_n hE 0 (dlJ3_checkIndex_8e157_0.at 10 rfl) rfl rfl ?_
        exact q_iret (X := fun z => WG V z o) hE (dlJ3_checkIndex_8e157_0.at 11 rfl) hm hQ rfl
      · cases hm
  · intro v h' hm
    refine Ctr.intro RJ3 (by decide +kernel) rfl rfl rfl ?_
    intro E hE hQ _
    unfold f_J3_checkIndex_8e157 at hm
    refine q_iload_n hE 0 (dlJ3_checkIndex_8e157_0.at 0 rfl) rfl rfl ?_
    refine q_if_lt hE (tgt := 9) (dlJ3_checkIndex_8e157_0.at 1 rfl) (by decide) hm (fun hc1 hm => ?_) (fun hc1 hm => ?_)
    · cases hm
    · refine q_iload_n hE 0 (dlJ3_checkIndex_8e157_0.at 2 rfl) rfl rfl ?_
      refine q_iload_n hE 1 (dlJ3_checkIndex_8e157_0.at 3 rfl) rfl rfl ?_
      refine q_icmp_lt hE (tgt := 16) (dlJ3_checkIndex_8e157_0.at 4 rfl) (by decide) hm (fun hc2 hm => ?_) (fun hc2 hm => ?_)
      · refine q_iload_n hE 0 (dlJ3_checkIndex_8e157_0.at 10 rfl) rfl rfl ?_
        exact q_iret (X := fun z => WG V z o) hE (dlJ3_checkIndex_8e157_0.at 11 rfl) hm hQ rfl
      · cases hm
set_option maxRecDepth 10000 in
theorem ok_J0_checkIndex_df160 {V : Ev} {l : Launch} {o : PH} {F : Nat}  (hfx : V.2.2.2.2 = false) {a0 : Int32} {a1 : Int32} {h : PH} : ∀ (v : Unit) (h' : PH), f_J0_checkIndex_df160 F a0 a1 h = some (v, h') → Ctr l V yJ0_checkIndex_df160 cJ0_checkIndex_df160 2 none 2 [.int a0, .int a1] 143 (WG V h o) 143 (WG V (h') o) (none) 0 0 := by
  intro v h' hm
  refine Ctr.intro RJ0 (by decide +kernel) rfl rfl rfl ?_
  intro E hE hQ _
  unfold f_J0_checkIndex_df160 at hm
  refine q_iload_n hE 0 (dlJ0_checkIndex_df160_0.at 0 rfl) rfl rfl ?_
  refine q_iload_n hE 1 (dlJ0_checkIndex_df160_0.at 1 rfl) rfl rfl ?_
  refine q_gs_fmt hE (dlJ0_checkIndex_df160_0.at 2 rfl) wf_J0_1053 (fun bv1 hbv1 => ?_)
  refine q_callS_i (X := fun z => WG V z o) hE (As := [_, _, _]) (dlJ0_checkIndex_df160_0.at 3 rfl) mw_J3_checkIndex_8e157 wm_J0_1059 rfl rfl rfl rfl (Nat.zero_le _) (Nat.zero_le _) rfl (ok_J3_checkIndex_8e157 hfx hbv1) hm (fun v2 h2 hm => ?_)
  refine q_pop hE (dlJ0_checkIndex_df160_0.at 4 rfl) rfl ?_
  exact q_vret (X := fun z => WG V z o) hE (dlJ0_checkIndex_df160_0.at 5 rfl) hm hQ rfl
set_option maxRecDepth 10000 in
theorem ok_J1_charAt_3b067 {V : Ev} {l : Launch} {o : PH} {F : Nat}  (hfx : V.2.2.2.2 = false) {a0 : Nat} {a1 : Int32} {h : PH} : ∀ (v : Int32) (h' : PH), f_J1_charAt_3b067 F a0 a1 h = some (v, h') → Ctr l V yJ1_charAt_3b067 cJ1_charAt_3b067 2 (some .char) 3 [sf V (2 * a0 + 3), .int a1] 143 (WG V h o) 143 (WG V (h') o) (some (.int v)) 0 0 := by
  intro v h' hm
  refine Ctr.intro RJ1 (by decide +kernel) rfl rfl rfl ?_
  intro E hE hQ _
  unfold f_J1_charAt_3b067 at hm
  obtain ⟨hp0, hm⟩ := g_if hm
  refine q_iload_n hE 1 (dlJ1_charAt_3b067_0.at 0 rfl) rfl rfl ?_
  refine q_aload_nS hE 0 (dlJ1_charAt_3b067_0.at 1 rfl) rfl rfl ?_
  refine q_stlen hE hp0 (dlJ1_charAt_3b067_0.at 2 rfl) ?_
  refine q_callS_v (X := fun z => WG V z o) hE (As := [_, _]) (dlJ1_charAt_3b067_0.at 3 rfl) mw_J0_checkIndex_df160 wm_J1_9 rfl rfl rfl rfl (Nat.zero_le _) (Nat.zero_le _) rfl (ok_J0_checkIndex_df160 hfx) hm (fun v1 h1 hm => ?_)
  refine q_aload_nS hE 0 (dlJ1_charAt_3b067_0.at 4 rfl) rfl rfl ?_
  refine q_iload_n hE 1 (dlJ1_charAt_3b067_0.at 5 rfl) rfl rfl ?_
  refine q_sbald hE hp0 (dlJ1_charAt_3b067_0.at 6 rfl) hm (fun hm => ?_)
  refine q_sipush hE (dlJ1_charAt_3b067_0.at 7 rfl) sc_255 ?_
  refine q_iand hE (dlJ1_charAt_3b067_0.at 8 rfl) ?_
  refine q_i2c hE (dlJ1_charAt_3b067_0.at 9 rfl) ?_
  exact q_bret (X := fun z => WG V z o) hE (dlJ1_charAt_3b067_0.at 10 rfl) hm hQ rfl rfl
set_option maxRecDepth 10000 in
theorem ok_J0_charAt_5068e {V : Ev} {l : Launch} {o : PH} {F : Nat}  (hfx : V.2.2.2.2 = false) {w : Nat} {a1 : Int32} {h : PH} : ∀ (v : Int32) (h' : PH), f_J0_charAt_5068e F w a1 h = some (v, h') → Ctr l V yJ0_charAt_5068e cJ0_charAt_5068e 2 (some .char) 4 [sf V (2 * w + 2), .int a1] 143 (WG V h o) 143 (WG V (h') o) (some (.int v)) 0 0 := by
  intro v h' hm
  refine Ctr.intro RJ0 (by decide +kernel) rfl rfl rfl ?_
  intro E hE hQ _
  unfold f_J0_charAt_5068e at hm
  obtain ⟨hw, hm⟩ := g_if hm
  refine q_aload_nS hE 0 (dlJ0_charAt_5068e_0.at 0 rfl) rfl rfl ?_
  refine q_callVS_i (X := fun z => WG V z o) hE (As := []) (dlJ0_charAt_5068e_0.at 1 rfl) mw_J0_isLatin1_aae02 wm_J0_492 rfl rfl rfl rfl (Nat.zero_le _) (Nat.zero_le _) rfl hw rfl (ok_J0_isLatin1_aae02 hfx) hm (fun v1 h1 hm => ?_)
  refine q_if_eq hE (tgt := 16) (dlJ0_charAt_5068e_0.at 2 rfl) (by decide) hm (fun hc2 hm => ?_) (fun hc2 hm => ?_)
  · cases hm
  · refine q_aload_nS hE 0 (dlJ0_charAt_5068e_0.at 3 rfl) rfl rfl ?_
    refine q_sval hE hw (dlJ0_charAt_5068e_0.at 4 rfl) wf_J0_9 ?_
    refine q_iload_n hE 1 (dlJ0_charAt_5068e_0.at 5 rfl) rfl rfl ?_
    refine q_callS_i (X := fun z => WG V z o) hE (As := [_, _]) (dlJ0_charAt_5068e_0.at 6 rfl) mw_J1_charAt_3b067 wm_J0_495 rfl rfl rfl rfl (Nat.zero_le _) (Nat.zero_le _) rfl (ok_J1_charAt_3b067 hfx) hm (fun v3 h3 hm => ?_)
    exact q_bret (X := fun z => WG V z o) hE (dlJ0_charAt_5068e_0.at 7 rfl) hm hQ rfl rfl
set_option maxRecDepth 10000 in
theorem okL_X5_word_2 {V : Ev} {l : Launch} {o : PH} {F : Nat}  (hfx : V.2.2.2.2 = false) {E : Cx} (hE : CX E V l cX5_word RX5 3 5 0 0 none) {r : Unit × PH} (hQ : RQ E V 143 (WG V r.2 o) (none) 0 0) : ∀ (n : Nat) (x1 : Nat) (x2 : Int32) (h : PH), x1 < 5 → fL_X5_word_2 F n x1 x2 h = some r → PW E V 0 0 143 (WG V h o) 2 [(0, rf V 31), (1, sf V (2 * x1 + 2)), (2, .int x2)] [] := by
  intro n
  induction n with
  | zero => intro x1 x2 h hx1 hm; cases hm
  | succ n ih =>
    intro x1 x2 h hx1 hm
    rw [fL_X5_word_2] at hm
    refine q_iload_n hE 2 (dlX5_word_0.at 2 rfl) rfl rfl ?_
    refine q_aload_nS hE 1 (dlX5_word_0.at 3 rfl) rfl rfl ?_
    refine q_callVS_i (X := fun z => WG V z o) hE (As := []) (dlX5_word_0.at 4 rfl) mw_J0_length_8abf5 wm_X5_42 rfl rfl rfl rfl (Nat.zero_le _) (Nat.zero_le _) rfl hx1 rfl (ok_J0_length_8abf5 hfx) hm (fun v1 h1 hm => ?_)
    refine q_icmp_ge hE (tgt := 25) (dlX5_word_0.at 5 rfl) (by decide) hm (fun hc2 hm => ?_) (fun hc2 hm => ?_)
    · refine q_aload_n hE 0 (dlX5_word_0.at 13 rfl) rfl rfl ?_
      refine q_bipush hE (dlX5_word_0.at 14 rfl) bc_32 ?_
      refine q_callV_v (X := fun z => WG V z o) hE (As := [_]) (dlX5_word_0.at 15 rfl) mw_X5_need wm_X5_51 rfl rfl rfl rfl (Nat.zero_le _) (Nat.zero_le _) rfl kc5 g31 rfl (ok_X5_need hfx) hm (fun v3 h3 hm => ?_)
      exact q_vret (X := fun z => WG V z o) hE (dlX5_word_0.at 16 rfl) hm hQ rfl
    · refine q_aload_n hE 0 (dlX5_word_0.at 6 rfl) rfl rfl ?_
      refine q_aload_nS hE 1 (dlX5_word_0.at 7 rfl) rfl rfl ?_
      refine q_iload_n hE 2 (dlX5_word_0.at 8 rfl) rfl rfl ?_
      refine q_callVS_i (X := fun z => WG V z o) hE (As := [_]) (dlX5_word_0.at 9 rfl) mw_J0_charAt_5068e wm_X5_47 rfl rfl rfl rfl (Nat.zero_le _) (Nat.zero_le _) rfl hx1 rfl (ok_J0_charAt_5068e hfx) hm (fun v4 h4 hm => ?_)
      refine q_callV_v (X := fun z => WG V z o) hE (As := [_]) (dlX5_word_0.at 10 rfl) mw_X5_need wm_X5_51 rfl rfl rfl rfl (Nat.zero_le _) (Nat.zero_le _) rfl kc5 g31 rfl (ok_X5_need hfx) hm (fun v5 h5 hm => ?_)
      refine q_iinc hE [(0, _), (1, _), (2, _)] 2 (dlX5_word_0.at 11 rfl) rfl ic_1 rfl rfl ?_
      refine q_goto hE (tgt := 2) (dlX5_word_0.at 12 rfl) (by decide) ?_
      refine q_sub hE [0, 1, 2] rfl ?_
      exact ih _ _ _ hx1 hm
set_option maxRecDepth 10000 in
theorem ok_X5_word {V : Ev} {l : Launch} {o : PH} {F : Nat}  (hfx : V.2.2.2.2 = false) {a1 : Nat} {h : PH} : ∀ (v : Unit) (h' : PH), f_X5_word F a1 h = some (v, h') → Ctr l V yX5_word cX5_word 3 none 5 [rf V 31, sf V (2 * a1 + 2)] 143 (WG V h o) 143 (WG V (h') o) (none) 0 0 := by
  intro v h' hm
  refine Ctr.intro RX5 (by decide +kernel) rfl rfl rfl ?_
  intro E hE hQ _
  unfold f_X5_word at hm
  obtain ⟨hp1, hm⟩ := g_if hm
  refine q_iconst hE (dlX5_word_0.at 0 rfl) ic_0 ?_
  refine q_istore_n hE [(0, _), (1, _), (2, _)] (dlX5_word_0.at 1 rfl) rfl rfl rfl ?_
  refine q_sub hE [0, 1, 2] rfl ?_
  exact okL_X5_word_2 hfx hE hQ  F _ _ _ hp1 hm
set_option maxRecDepth 10000 in
theorem okL_X5_clause_58 {V : Ev} {l : Launch} {o : PH} {F : Nat}  (hfx : V.2.2.2.2 = false) {E : Cx} (hE : CX E V l cX5_clause RX5 3 57 0 0 none) {r : Unit × PH} (hQ : RQ E V 143 (WG V r.2 o) (none) 0 0) : ∀ (x1 : Int32) (xs1 : Nat) (h : PH), xs1 < 5 → fL_X5_clause_58 F x1 xs1 h = some r → PW E V 0 0 143 (WG V h o) 58 [(0, rf V 31), (1, .int x1)] [sf V (2 * xs1 + 2), rf V 31] := by
  intro x1 xs1 h hxs1 hm
  unfold fL_X5_clause_58 at hm
  refine q_callV_v (X := fun z => WG V z o) hE (As := [_]) (dlX5_clause_0.at 29 rfl) mw_X5_word wm_X5_57 rfl rfl rfl rfl (Nat.zero_le _) (Nat.zero_le _) rfl kc5 g31 rfl (ok_X5_word hfx) hm (fun v4 h4 hm => ?_)
  refine q_iload_n hE 1 (dlX5_clause_0.at 30 rfl) rfl rfl ?_
  refine q_if_eq hE (tgt := 72) (dlX5_clause_0.at 31 rfl) (by decide) hm (fun hc5 hm => ?_) (fun hc5 hm => ?_)
  · refine q_aload_n hE 0 (dlX5_clause_0.at 35 rfl) rfl rfl ?_
    refine q_callV_i (X := fun z => WG V z o) hE (As := []) (dlX5_clause_0.at 36 rfl) mw_X5_number wm_X5_61 rfl rfl rfl rfl (Nat.zero_le _) (Nat.zero_le _) rfl kc5 g31 rfl (ok_X5_number hfx) hm (fun v6 h6 hm => ?_)
    refine q_ineg hE (dlX5_clause_0.at 37 rfl) ?_
    refine q_istore_n hE [(0, _), (1, _), (2, _)] (dlX5_clause_0.at 38 rfl) rfl rfl rfl ?_
    refine q_aload_n hE 0 (dlX5_clause_0.at 39 rfl) rfl rfl ?_
    refine q_bipush hE (dlX5_clause_1.at 0 rfl) bc_32 ?_
    refine q_callV_v (X := fun z => WG V z o) hE (As := [_]) (dlX5_clause_1.at 1 rfl) mw_X5_need wm_X5_51 rfl rfl rfl rfl (Nat.zero_le _) (Nat.zero_le _) rfl kc5 g31 rfl (ok_X5_need hfx) hm (fun v7 h7 hm => ?_)
    refine q_aload_n hE 0 (dlX5_clause_1.at 2 rfl) rfl rfl ?_
    refine q_iconst hE (dlX5_clause_1.at 3 rfl) ic_0 ?_
    refine q_callV_v (X := fun z => WG V z o) hE (As := [_]) (dlX5_clause_1.at 4 rfl) mw_X5_either wm_X5_76 rfl rfl rfl rfl (Nat.zero_le _) (Nat.zero_le _) rfl kc5 g31 rfl ((ok_grp_X5_either hfx 50).1 _ _) hm (fun v8 h8 hm => ?_)
    refine q_aload_n hE 0 (dlX5_clause_1.at 5 rfl) rfl rfl ?_
    refine q_get hE (dlX5_clause_1.at 6 rfl) kc5 wf_X5_27 g31 rfl rfl rfl ?_
    refine q_deref hE hm (fun z9 hz9 hm => ?_)
    refine q_iload_n hE 2 (dlX5_clause_1.at 7 rfl) rfl rfl ?_
    refine q_callVN_v (X := fun z => WG V z o) hE (As := [_]) (dlX5_clause_1.at 8 rfl) mw_X2_addClause wm_X5_80 rfl rfl rfl rfl (Nat.zero_le _) (Nat.zero_le _) rfl kc2 (g_Bench hz9) (b_Bench hz9) (ok_X2_addClause hfx) hm (fun v10 h10 hm => ?_)
    exact q_vret (X := fun z => WG V z o) hE (dlX5_clause_1.at 9 rfl) hm hQ rfl
  · refine q_aload_n hE 0 (dlX5_clause_0.at 32 rfl) rfl rfl ?_
    refine q_callV_i (X := fun z => WG V z o) hE (As := []) (dlX5_clause_0.at 33 rfl) mw_X5_number wm_X5_61 rfl rfl rfl rfl (Nat.zero_le _) (Nat.zero_le _) rfl kc5 g31 rfl (ok_X5_number hfx) hm (fun v11 h11 hm => ?_)
    refine q_goto hE (tgt := 77) (dlX5_clause_0.at 34 rfl) (by decide) ?_
    refine q_istore_n hE [(0, _), (1, _), (2, _)] (dlX5_clause_0.at 38 rfl) rfl rfl rfl ?_
    refine q_aload_n hE 0 (dlX5_clause_0.at 39 rfl) rfl rfl ?_
    refine q_bipush hE (dlX5_clause_1.at 0 rfl) bc_32 ?_
    refine q_callV_v (X := fun z => WG V z o) hE (As := [_]) (dlX5_clause_1.at 1 rfl) mw_X5_need wm_X5_51 rfl rfl rfl rfl (Nat.zero_le _) (Nat.zero_le _) rfl kc5 g31 rfl (ok_X5_need hfx) hm (fun v12 h12 hm => ?_)
    refine q_aload_n hE 0 (dlX5_clause_1.at 2 rfl) rfl rfl ?_
    refine q_iconst hE (dlX5_clause_1.at 3 rfl) ic_0 ?_
    refine q_callV_v (X := fun z => WG V z o) hE (As := [_]) (dlX5_clause_1.at 4 rfl) mw_X5_either wm_X5_76 rfl rfl rfl rfl (Nat.zero_le _) (Nat.zero_le _) rfl kc5 g31 rfl ((ok_grp_X5_either hfx 50).1 _ _) hm (fun v13 h13 hm => ?_)
    refine q_aload_n hE 0 (dlX5_clause_1.at 5 rfl) rfl rfl ?_
    refine q_get hE (dlX5_clause_1.at 6 rfl) kc5 wf_X5_27 g31 rfl rfl rfl ?_
    refine q_deref hE hm (fun z14 hz14 hm => ?_)
    refine q_iload_n hE 2 (dlX5_clause_1.at 7 rfl) rfl rfl ?_
    refine q_callVN_v (X := fun z => WG V z o) hE (As := [_]) (dlX5_clause_1.at 8 rfl) mw_X2_addClause wm_X5_80 rfl rfl rfl rfl (Nat.zero_le _) (Nat.zero_le _) rfl kc2 (g_Bench hz14) (b_Bench hz14) (ok_X2_addClause hfx) hm (fun v15 h15 hm => ?_)
    exact q_vret (X := fun z => WG V z o) hE (dlX5_clause_1.at 9 rfl) hm hQ rfl
set_option maxRecDepth 10000 in
theorem ok_X5_clause {V : Ev} {l : Launch} {o : PH} {F : Nat}  (hfx : V.2.2.2.2 = false)  {h : PH} : ∀ (v : Unit) (h' : PH), f_X5_clause F  h = some (v, h') → Ctr l V yX5_clause cX5_clause 3 none 57 [rf V 31] 143 (WG V h o) 143 (WG V (h') o) (none) 0 0 := by
  intro v h' hm
  refine Ctr.intro RX5 (by decide +kernel) rfl rfl rfl ?_
  intro E hE hQ _
  unfold f_X5_clause at hm
  refine q_aload_n hE 0 (dlX5_clause_0.at 0 rfl) rfl rfl ?_
  refine q_get hE (dlX5_clause_0.at 1 rfl) kc5 wf_X5_20 g31 rfl rfl rfl ?_
  refine q_bipush hE (dlX5_clause_0.at 2 rfl) bc_112 ?_
  refine q_icmp_ne hE (tgt := 31) (dlX5_clause_0.at 3 rfl) (by decide) hm (fun hc1 hm => ?_) (fun hc1 hm => ?_)
  · refine q_aload_n hE 0 (dlX5_clause_0.at 4 rfl) rfl rfl ?_
    refine q_ldcS hE (2 * 0 + 2) (dlX5_clause_0.at 5 rfl) (fun _ _ h => h.2.1.2.1) ?_
    refine q_callV_v (X := fun z => WG V z o) hE (As := [_]) (dlX5_clause_0.at 6 rfl) mw_X5_word wm_X5_57 rfl rfl rfl rfl (Nat.zero_le _) (Nat.zero_le _) rfl kc5 g31 rfl (ok_X5_word hfx) hm (fun v17 h17 hm => ?_)
    refine q_aload_n hE 0 (dlX5_clause_0.at 7 rfl) rfl rfl ?_
    refine q_get hE (dlX5_clause_0.at 8 rfl) kc5 wf_X5_27 g31 rfl rfl rfl ?_
    refine q_deref hE hm (fun z18 hz18 hm => ?_)
    refine q_iconst hE (dlX5_clause_0.at 9 rfl) ic_1 ?_
    refine q_aload_n hE 0 (dlX5_clause_0.at 10 rfl) rfl rfl ?_
    refine q_callV_i (X := fun z => WG V z o) hE (As := []) (dlX5_clause_0.at 11 rfl) mw_X5_number wm_X5_61 rfl rfl rfl rfl (Nat.zero_le _) (Nat.zero_le _) rfl kc5 g31 rfl (ok_X5_number hfx) hm (fun v19 h19 hm => ?_)
    refine q_mmax hE (dlX5_clause_0.at 12 rfl) wm_X5_64 w_mmax rfl rfl (Nat.zero_le _) (Nat.zero_le _) ?_
    refine q_putN hE hfx (dlX5_clause_0.at 13 rfl) kc2 wf_X5_70 (g_Bench hz18) rfl rfl rfl rfl (b_Bench hz18) rfl (u_Bench_0 hz18) ?_
    refine q_lth (X := fun z => WG V z o) hm (fun h20 hm => ?_)
    exact q_vret (X := fun z => WG V z o) hE (dlX5_clause_0.at 14 rfl) hm hQ rfl
  · refine q_aload_n hE 0 (dlX5_clause_0.at 15 rfl) rfl rfl ?_
    refine q_get hE (dlX5_clause_0.at 16 rfl) kc5 wf_X5_20 g31 rfl rfl rfl ?_
    refine q_bipush hE (dlX5_clause_0.at 17 rfl) bc_110 ?_
    refine q_icmp_ne hE (tgt := 44) (dlX5_clause_0.at 18 rfl) (by decide) hm (fun hc2 hm => ?_) (fun hc2 hm => ?_)
    · refine q_iconst hE (dlX5_clause_0.at 19 rfl) ic_1 ?_
      refine q_goto hE (tgt := 45) (dlX5_clause_0.at 20 rfl) (by decide) ?_
      refine q_istore_n hE [(0, _), (1, _)] (dlX5_clause_0.at 22 rfl) rfl rfl rfl ?_
      refine q_aload_n hE 0 (dlX5_clause_0.at 23 rfl) rfl rfl ?_
      refine q_iload_n hE 1 (dlX5_clause_0.at 24 rfl) rfl rfl ?_
      refine q_if_eq hE (tgt := 56) (dlX5_clause_0.at 25 rfl) (by decide) hm (fun hc16 hm => ?_) (fun hc16 hm => ?_)
      · refine q_ldcS hE (2 * 2 + 2) (dlX5_clause_0.at 28 rfl) (fun _ _ h => h.2.1.2.2.2.1) ?_
        refine q_sub hE [0, 1] rfl ?_
        exact okL_X5_clause_58 hfx hE hQ  _ _ _ (by decide) hm
      · refine q_ldcS hE (2 * 1 + 2) (dlX5_clause_0.at 26 rfl) (fun _ _ h => h.2.1.2.2.1) ?_
        refine q_goto hE (tgt := 58) (dlX5_clause_0.at 27 rfl) (by decide) ?_
        refine q_sub hE [0, 1] rfl ?_
        exact okL_X5_clause_58 hfx hE hQ  _ _ _ (by decide) hm
    · refine q_iconst hE (dlX5_clause_0.at 21 rfl) ic_0 ?_
      refine q_istore_n hE [(0, _), (1, _)] (dlX5_clause_0.at 22 rfl) rfl rfl rfl ?_
      refine q_aload_n hE 0 (dlX5_clause_0.at 23 rfl) rfl rfl ?_
      refine q_iload_n hE 1 (dlX5_clause_0.at 24 rfl) rfl rfl ?_
      refine q_if_eq hE (tgt := 56) (dlX5_clause_0.at 25 rfl) (by decide) hm (fun hc3 hm => ?_) (fun hc3 hm => ?_)
      · refine q_ldcS hE (2 * 2 + 2) (dlX5_clause_0.at 28 rfl) (fun _ _ h => h.2.1.2.2.2.1) ?_
        refine q_sub hE [0, 1] rfl ?_
        exact okL_X5_clause_58 hfx hE hQ  _ _ _ (by decide) hm
      · refine q_ldcS hE (2 * 1 + 2) (dlX5_clause_0.at 26 rfl) (fun _ _ h => h.2.1.2.2.1) ?_
        refine q_goto hE (tgt := 58) (dlX5_clause_0.at 27 rfl) (by decide) ?_
        refine q_sub hE [0, 1] rfl ?_
        exact okL_X5_clause_58 hfx hE hQ  _ _ _ (by decide) hm
