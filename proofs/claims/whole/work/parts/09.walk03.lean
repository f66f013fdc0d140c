set_option maxRecDepth 10000 in
theorem ok_X1_isSo {V : Ev} {l : Launch} {o : PH} {F : Nat}  (hfx : V.2.2.2.2 = false) {a1 : Int32} {a2 : Int32} {a3 : Int32} {h : PH} : ∀ (v : Int32) (h' : PH), f_X1_isSo F a1 a2 a3 h = some (v, h') → Ctr l V yX1_isSo cX1_isSo 4 (some .boolean) 5 [rf V 34, .int a1, .int a2, .int a3] 143 (WG V h o) 143 (WG V (h') o) (some (.int v)) 0 0 := by
  intro v h' hm
  refine Ctr.intro RX1 (by decide +kernel) rfl rfl rfl ?_
  intro E hE hQ _
  unfold f_X1_isSo at hm
  refine q_aload_n hE 0 (dlX1_isSo_0.at 0 rfl) rfl rfl ?_
  refine q_callV_v (X := fun z => WG V z o) hE (As := []) (dlX1_isSo_0.at 1 rfl) mw_X1_begin wm_X1_42 rfl rfl rfl rfl (Nat.zero_le _) (Nat.zero_le _) rfl kc1 g34 rfl (ok_X1_begin hfx) hm (fun v1 h1 hm => ?_)
  refine q_aload_n hE 0 (dlX1_isSo_0.at 2 rfl) rfl rfl ?_
  refine q_get hE (dlX1_isSo_0.at 3 rfl) kc1 wf_X1_12 g34 rfl rfl rfl ?_
  refine q_getN hE (dlX1_isSo_0.at 4 rfl) kc3 wf_X1_49 g35 rfl rfl rfl ?_
  refine q_iload_n hE 2 (dlX1_isSo_0.at 5 rfl) rfl rfl ?_
  refine q_iload_n hE 3 (dlX1_isSo_0.at 6 rfl) rfl rfl ?_
  refine q_iast hE hfx (dlX1_isSo_0.at 7 rfl) g36 rfl u36 hm (fun hm => ?_)
  refine q_lth (X := fun z => WG V z o) hm (fun h2 hm => ?_)
  refine q_aload_n hE 0 (dlX1_isSo_0.at 8 rfl) rfl rfl ?_
  refine q_iload_n hE 2 (dlX1_isSo_0.at 9 rfl) rfl rfl ?_
  refine q_aload_n hE 0 (dlX1_isSo_0.at 10 rfl) rfl rfl ?_
  refine q_get hE (dlX1_isSo_0.at 11 rfl) kc1 wf_X1_25 g34 rfl rfl rfl ?_
  refine q_getN hE (dlX1_isSo_0.at 12 rfl) kc7 wf_X1_114 g1 rfl rfl rfl ?_
  refine q_iload_n hE 1 (dlX1_isSo_0.at 13 rfl) rfl rfl ?_
  refine q_iconst hE (dlX1_isSo_0.at 14 rfl) ic_2 ?_
  refine q_callVN_i (X := fun z => WG V z o) hE (As := [_, _]) (dlX1_isSo_0.at 15 rfl) mw_X6_cell wm_X1_90 rfl rfl rfl rfl (Nat.zero_le _) (Nat.zero_le _) rfl kc6 g9 rfl (ok_X6_cell hfx) hm (fun v3 h3 hm => ?_)
  refine q_callV_v (X := fun z => WG V z o) hE (As := [_, _]) (dlX1_isSo_0.at 16 rfl) mw_X1_tellOften wm_X1_45 rfl rfl rfl rfl (Nat.zero_le _) (Nat.zero_le _) rfl kc1 g34 rfl (ok_X1_tellOften hfx) hm (fun v4 h4 hm => ?_)
  refine q_aload_n hE 0 (dlX1_isSo_0.at 17 rfl) rfl rfl ?_
  refine q_get hE (dlX1_isSo_0.at 18 rfl) kc1 wf_X1_12 g34 rfl rfl rfl ?_
  refine q_getN hE (dlX1_isSo_0.at 19 rfl) kc3 wf_X1_49 g35 rfl rfl rfl ?_
  refine q_iload_n hE 2 (dlX1_isSo_0.at 20 rfl) rfl rfl ?_
  refine q_iald hE (dlX1_isSo_0.at 21 rfl) g36 rfl hm (fun hm => ?_)
  refine q_iload_n hE 3 (dlX1_isSo_0.at 22 rfl) rfl rfl ?_
  refine q_isub hE (dlX1_isSo_0.at 23 rfl) ?_
  refine q_aload_n hE 0 (dlX1_isSo_0.at 24 rfl) rfl rfl ?_
  refine q_get hE (dlX1_isSo_0.at 25 rfl) kc1 wf_X1_25 g34 rfl rfl rfl ?_
  refine q_getN hE (dlX1_isSo_0.at 26 rfl) kc7 wf_X1_114 g1 rfl rfl rfl ?_
  refine q_iload_n hE 1 (dlX1_isSo_0.at 27 rfl) rfl rfl ?_
  refine q_iconst hE (dlX1_isSo_0.at 28 rfl) ic_1 ?_
  refine q_callVN_i (X := fun z => WG V z o) hE (As := [_, _]) (dlX1_isSo_0.at 29 rfl) mw_X6_cell wm_X1_90 rfl rfl rfl rfl (Nat.zero_le _) (Nat.zero_le _) rfl kc6 g9 rfl (ok_X6_cell hfx) hm (fun v5 h5 hm => ?_)
  refine q_icmp_ne hE (tgt := 61) (dlX1_isSo_0.at 30 rfl) (by decide) hm (fun hc6 hm => ?_) (fun hc6 hm => ?_)
  · refine q_iconst hE (dlX1_isSo_0.at 31 rfl) ic_1 ?_
    refine q_goto hE (tgt := 62) (dlX1_isSo_0.at 32 rfl) (by decide) ?_
    exact q_bret (X := fun z => WG V z o) hE (dlX1_isSo_0.at 34 rfl) hm hQ rfl (by decide)
  · refine q_iconst hE (dlX1_isSo_0.at 33 rfl) ic_0 ?_
    exact q_bret (X := fun z => WG V z o) hE (dlX1_isSo_0.at 34 rfl) hm hQ rfl (by decide)
set_option maxRecDepth 10000 in
theorem okL_X1_weigh_3 {V : Ev} {l : Launch} {o : PH} {F : Nat}  (hfx : V.2.2.2.2 = false) {E : Cx} (hE : CX E V l cX1_weigh RX1 5 6 0 0 none) {r : Unit × PH} (hQ : RQ E V 143 (WG V r.2 o) (none) 0 0) : ∀ (n : Nat) (x1 : Int32) (x2 : Int32) (x3 : Int32) (x4 : Int32) (h : PH), fL_X1_weigh_3 F n x1 x2 x3 x4 h = some r → PW E V 0 0 143 (WG V h o) 3 [(0, rf V 34), (1, .int x1), (2, .int x2), (3, .int x3), (4, .int x4)] [] := by
  intro n
  induction n with
  | zero => intro x1 x2 x3 x4 h hm; cases hm
  | succ n ih =>
    intro x1 x2 x3 x4 h hm
    rw [fL_X1_weigh_3] at hm
    refine q_iload hE 4 (dlX1_weigh_0.at 2 rfl) rfl ?_
    refine q_aload_n hE 0 (dlX1_weigh_0.at 3 rfl) rfl rfl ?_
    refine q_get hE (dlX1_weigh_0.at 4 rfl) kc1 wf_X1_25 g34 rfl rfl rfl ?_
    refine q_getN hE (dlX1_weigh_0.at 5 rfl) kc7 wf_X1_114 g1 rfl rfl rfl ?_
    refine q_getN hE (dlX1_weigh_0.at 6 rfl) kc6 wf_X1_85 g9 rfl rfl rfl ?_
    refine q_icmp_ge hE (tgt := 53) (dlX1_weigh_0.at 7 rfl) (by decide) hm (fun hc1 hm => ?_) (fun hc1 hm => ?_)
    · refine q_aload_n hE 0 (dlX1_weigh_0.at 25 rfl) rfl rfl ?_
      refine q_get hE (dlX1_weigh_0.at 26 rfl) kc1 wf_X1_18 g34 rfl rfl rfl ?_
      refine q_if_ne hE (tgt := 65) (dlX1_weigh_0.at 27 rfl) (by decide) hm (fun hc2 hm => ?_) (fun hc2 hm => ?_)
      · refine q_aload_n hE 0 (dlX1_weigh_0.at 28 rfl) rfl rfl ?_
        refine q_iload_n hE 3 (dlX1_weigh_0.at 29 rfl) rfl rfl ?_
        refine q_put hE hfx (dlX1_weigh_0.at 30 rfl) kc1 wf_X1_22 g34 rfl rfl rfl rfl rfl rfl u34_3 ?_
        refine q_lth (X := fun z => WG V z o) hm (fun h4 hm => ?_)
        refine q_aload_n hE 0 (dlX1_weigh_0.at 31 rfl) rfl rfl ?_
        refine q_dup hE (dlX1_weigh_0.at 32 rfl) rfl ?_
        refine q_get hE (dlX1_weigh_0.at 33 rfl) kc1 wf_X1_18 g34 rfl rfl rfl ?_
        refine q_iconst hE (dlX1_weigh_0.at 34 rfl) ic_1 ?_
        refine q_iadd hE (dlX1_weigh_0.at 35 rfl) ?_
        refine q_put hE hfx (dlX1_weigh_0.at 36 rfl) kc1 wf_X1_18 g34 rfl rfl rfl rfl rfl rfl u34_2 ?_
        refine q_lth (X := fun z => WG V z o) hm (fun h5 hm => ?_)
        exact q_vret (X := fun z => WG V z o) hE (dlX1_weigh_0.at 37 rfl) hm hQ rfl
      · refine q_aload_n hE 0 (dlX1_weigh_0.at 31 rfl) rfl rfl ?_
        refine q_dup hE (dlX1_weigh_0.at 32 rfl) rfl ?_
        refine q_get hE (dlX1_weigh_0.at 33 rfl) kc1 wf_X1_18 g34 rfl rfl rfl ?_
        refine q_iconst hE (dlX1_weigh_0.at 34 rfl) ic_1 ?_
        refine q_iadd hE (dlX1_weigh_0.at 35 rfl) ?_
        refine q_put hE hfx (dlX1_weigh_0.at 36 rfl) kc1 wf_X1_18 g34 rfl rfl rfl rfl rfl rfl u34_2 ?_
        refine q_lth (X := fun z => WG V z o) hm (fun h3 hm => ?_)
        exact q_vret (X := fun z => WG V z o) hE (dlX1_weigh_0.at 37 rfl) hm hQ rfl
    · refine q_aload_n hE 0 (dlX1_weigh_0.at 8 rfl) rfl rfl ?_
      refine q_get hE (dlX1_weigh_0.at 9 rfl) kc1 wf_X1_25 g34 rfl rfl rfl ?_
      refine q_getN hE (dlX1_weigh_0.at 10 rfl) kc7 wf_X1_114 g1 rfl rfl rfl ?_
      refine q_iload hE 4 (dlX1_weigh_0.at 11 rfl) rfl ?_
      refine q_iconst hE (dlX1_weigh_0.at 12 rfl) ic_0 ?_
      refine q_callVN_i (X := fun z => WG V z o) hE (As := [_, _]) (dlX1_weigh_0.at 13 rfl) mw_X6_cell wm_X1_90 rfl rfl rfl rfl (Nat.zero_le _) (Nat.zero_le _) rfl kc6 g9 rfl (ok_X6_cell hfx) hm (fun v6 h6 hm => ?_)
      refine q_iload_n hE 1 (dlX1_weigh_0.at 14 rfl) rfl rfl ?_
      refine q_icmp_ne hE (tgt := 47) (dlX1_weigh_0.at 15 rfl) (by decide) hm (fun hc7 hm => ?_) (fun hc7 hm => ?_)
      · refine q_aload_n hE 0 (dlX1_weigh_0.at 16 rfl) rfl rfl ?_
        refine q_iload hE 4 (dlX1_weigh_0.at 17 rfl) rfl ?_
        refine q_iload_n hE 1 (dlX1_weigh_0.at 18 rfl) rfl rfl ?_
        refine q_iload_n hE 2 (dlX1_weigh_0.at 19 rfl) rfl rfl ?_
        refine q_callV_i (X := fun z => WG V z o) hE (As := [_, _, _]) (dlX1_weigh_0.at 20 rfl) mw_X1_isSo wm_X1_117 rfl rfl rfl rfl (Nat.zero_le _) (Nat.zero_le _) rfl kc1 g34 rfl (ok_X1_isSo hfx) hm (fun v8 h8 hm => ?_)
        refine q_if_ne hE (tgt := 47) (dlX1_weigh_0.at 21 rfl) (by decide) hm (fun hc9 hm => ?_) (fun hc9 hm => ?_)
        · exact q_vret (X := fun z => WG V z o) hE (dlX1_weigh_0.at 22 rfl) hm hQ rfl
        · refine q_iinc hE [(0, _), (1, _), (2, _), (3, _), (4, _)] 4 (dlX1_weigh_0.at 23 rfl) rfl ic_1 rfl rfl ?_
          refine q_goto hE (tgt := 3) (dlX1_weigh_0.at 24 rfl) (by decide) ?_
          refine q_sub hE [0, 1, 2, 3, 4] rfl ?_
          exact ih _ _ _ _ _  hm
      · refine q_iinc hE [(0, _), (1, _), (2, _), (3, _), (4, _)] 4 (dlX1_weigh_0.at 23 rfl) rfl ic_1 rfl rfl ?_
        refine q_goto hE (tgt := 3) (dlX1_weigh_0.at 24 rfl) (by decide) ?_
        refine q_sub hE [0, 1, 2, 3, 4] rfl ?_
        exact ih _ _ _ _ _  hm
set_option maxRecDepth 10000 in
theorem ok_X1_weigh {V : Ev} {l : Launch} {o : PH} {F : Nat}  (hfx : V.2.2.2.2 = false) {a1 : Int32} {a2 : Int32} {a3 : Int32} {h : PH} : ∀ (v : Unit) (h' : PH), f_X1_weigh F a1 a2 a3 h = some (v, h') → Ctr l V yX1_weigh cX1_weigh 5 none 6 [rf V 34, .int a1, .int a2, .int a3] 143 (WG V h o) 143 (WG V (h') o) (none) 0 0 := by
  intro v h' hm
  refine Ctr.intro RX1 (by decide +kernel) rfl rfl rfl ?_
  intro E hE hQ _
  unfold f_X1_weigh at hm
  refine q_iconst hE (dlX1_weigh_0.at 0 rfl) ic_0 ?_
  refine q_istore hE [(0, _), (1, _), (2, _), (3, _), (4, _)] (dlX1_weigh_0.at 1 rfl) rfl rfl ?_
  refine q_sub hE [0, 1, 2, 3, 4] rfl ?_
  exact okL_X1_weigh_3 hfx hE hQ  F _ _ _ _ _  hm
set_option maxRecDepth 10000 in
theorem ok_X1_weighNothing {V : Ev} {l : Launch} {o : PH} {F : Nat}  (hfx : V.2.2.2.2 = false)  {h : PH} : ∀ (v : Unit) (h' : PH), f_X1_weighNothing F  h = some (v, h') → Ctr l V yX1_weighNothing cX1_weighNothing 1 none 1 [rf V 34] 143 (WG V h o) 143 (WG V (h') o) (none) 0 0 := by
  intro v h' hm
  refine Ctr.intro RX1 (by decide +kernel) rfl rfl rfl ?_
  intro E hE hQ _
  unfold f_X1_weighNothing at hm
  refine q_aload_n hE 0 (dlX1_weighNothing_0.at 0 rfl) rfl rfl ?_
  refine q_iconst hE (dlX1_weighNothing_0.at 1 rfl) ic_0 ?_
  refine q_put hE hfx (dlX1_weighNothing_0.at 2 rfl) kc1 wf_X1_18 g34 rfl rfl rfl rfl rfl rfl u34_2 ?_
  refine q_lth (X := fun z => WG V z o) hm (fun h1 hm => ?_)
  refine q_aload_n hE 0 (dlX1_weighNothing_0.at 3 rfl) rfl rfl ?_
  refine q_bipush hE (dlX1_weighNothing_0.at 4 rfl) bc_m5 ?_
  refine q_put hE hfx (dlX1_weighNothing_0.at 5 rfl) kc1 wf_X1_22 g34 rfl rfl rfl rfl rfl rfl u34_3 ?_
  refine q_lth (X := fun z => WG V z o) hm (fun h2 hm => ?_)
  exact q_vret (X := fun z => WG V z o) hE (dlX1_weighNothing_0.at 6 rfl) hm hQ rfl
set_option maxRecDepth 10000 in
theorem okL_X1_weighDays_17 {V : Ev} {l : Launch} {o : PH} {F : Nat}  (hfx : V.2.2.2.2 = false) {E : Cx} (hE : CX E V l cX1_weighDays RX1 4 7 0 0 none) {r : Unit × PH} (hQ : RQ E V 143 (WG V r.2 o) (none) 0 0) : ∀ (n : Nat) (x1 : Int32) (x2 : Int32) (x3 : Int32) (h : PH), fL_X1_weighDays_17 F n x1 x2 x3 h = some r → PW E V 0 0 143 (WG V h o) 17 [(0, rf V 34), (1, .int x1), (2, .int x2), (3, .int x3)] [] := by
  intro n
  induction n with
  | zero => intro x1 x2 x3 h hm; cases hm
  | succ n ih =>
    intro x1 x2 x3 h hm
    rw [fL_X1_weighDays_17] at hm
    refine q_iload_n hE 3 (dlX1_weighDays_0.at 9 rfl) rfl rfl ?_
    refine q_bipush hE (dlX1_weighDays_0.at 10 rfl) bc_99 ?_
    refine q_icmp_gt hE (tgt := 43) (dlX1_weighDays_0.at 11 rfl) (by decide) hm (fun hc2 hm => ?_) (fun hc2 hm => ?_)
    · exact q_vret (X := fun z => WG V z o) hE (dlX1_weighDays_0.at 24 rfl) hm hQ rfl
    · refine q_iload_n hE 3 (dlX1_weighDays_0.at 12 rfl) rfl rfl ?_
      refine q_iload_n hE 2 (dlX1_weighDays_0.at 13 rfl) rfl rfl ?_
      refine q_icmp_gt hE (tgt := 43) (dlX1_weighDays_0.at 14 rfl) (by decide) hm (fun hc3 hm => ?_) (fun hc3 hm => ?_)
      · exact q_vret (X := fun z => WG V z o) hE (dlX1_weighDays_0.at 24 rfl) hm hQ rfl
      · refine q_aload_n hE 0 (dlX1_weighDays_0.at 15 rfl) rfl rfl ?_
        refine q_iload_n hE 1 (dlX1_weighDays_0.at 16 rfl) rfl rfl ?_
        refine q_iload_n hE 2 (dlX1_weighDays_0.at 17 rfl) rfl rfl ?_
        refine q_iload_n hE 3 (dlX1_weighDays_0.at 18 rfl) rfl rfl ?_
        refine q_isub hE (dlX1_weighDays_0.at 19 rfl) ?_
        refine q_iload_n hE 3 (dlX1_weighDays_0.at 20 rfl) rfl rfl ?_
        refine q_callV_v (X := fun z => WG V z o) hE (As := [_, _, _]) (dlX1_weighDays_0.at 21 rfl) mw_X1_weigh wm_X1_103 rfl rfl rfl rfl (Nat.zero_le _) (Nat.zero_le _) rfl kc1 g34 rfl (ok_X1_weigh hfx) hm (fun v4 h4 hm => ?_)
        refine q_iinc hE [(0, _), (1, _), (2, _), (3, _)] 3 (dlX1_weighDays_0.at 22 rfl) rfl ic_1 rfl rfl ?_
        refine q_goto hE (tgt := 17) (dlX1_weighDays_0.at 23 rfl) (by decide) ?_
        refine q_sub hE [0, 1, 2, 3] rfl ?_
        exact ih _ _ _ _  hm
set_option maxRecDepth 10000 in
theorem ok_X1_weighDays {V : Ev} {l : Launch} {o : PH} {F : Nat}  (hfx : V.2.2.2.2 = false) {a1 : Int32} {h : PH} : ∀ (v : Unit) (h' : PH), f_X1_weighDays F a1 h = some (v, h') → Ctr l V yX1_weighDays cX1_weighDays 4 none 7 [rf V 34, .int a1] 143 (WG V h o) 143 (WG V (h') o) (none) 0 0 := by
  intro v h' hm
  refine Ctr.intro RX1 (by decide +kernel) rfl rfl rfl ?_
  intro E hE hQ _
  unfold f_X1_weighDays at hm
  refine q_aload_n hE 0 (dlX1_weighDays_0.at 0 rfl) rfl rfl ?_
  refine q_callV_v (X := fun z => WG V z o) hE (As := []) (dlX1_weighDays_0.at 1 rfl) mw_X1_weighNothing wm_X1_100 rfl rfl rfl rfl (Nat.zero_le _) (Nat.zero_le _) rfl kc1 g34 rfl (ok_X1_weighNothing hfx) hm (fun v1 h1 hm => ?_)
  refine q_aload_n hE 0 (dlX1_weighDays_0.at 2 rfl) rfl rfl ?_
  refine q_get hE (dlX1_weighDays_0.at 3 rfl) kc1 wf_X1_25 g34 rfl rfl rfl ?_
  refine q_getN hE (dlX1_weighDays_0.at 4 rfl) kc7 wf_X1_29 g1 rfl rfl rfl ?_
  refine q_getN hE (dlX1_weighDays_0.at 5 rfl) kc3 wf_X1_64 g6 rfl rfl rfl ?_
  refine q_istore_n hE [(0, _), (1, _), (2, _)] (dlX1_weighDays_0.at 6 rfl) rfl rfl rfl ?_
  refine q_iconst hE (dlX1_weighDays_0.at 7 rfl) ic_0 ?_
  refine q_istore_n hE [(0, _), (1, _), (2, _), (3, _)] (dlX1_weighDays_0.at 8 rfl) rfl rfl rfl ?_
  refine q_sub hE [0, 1, 2, 3] rfl ?_
  exact okL_X1_weighDays_17 hfx hE hQ  F _ _ _ _  hm
set_option maxRecDepth 10000 in
theorem ok_X9_since {V : Ev} {l : Launch} {o : PH} {F : Nat}  (hfx : V.2.2.2.2 = false) {a1 : Int32} {a2 : Int32} {h : PH} : ∀ (v : Int32) (h' : PH), f_X9_since F a1 a2 h = some (v, h') → Ctr l V yX9_since cX9_since 3 (some .int) 8 [rf V 0, .int a1, .int a2] 143 (WG V h o) 143 (WG V (h') o) (some (.int v)) 0 0 := by
  intro v h' hm
  refine Ctr.intro RX9 (by decide +kernel) rfl rfl rfl ?_
  intro E hE hQ _
  unfold f_X9_since at hm
  refine q_aload_n hE 0 (dlX9_since_0.at 0 rfl) rfl rfl ?_
  refine q_iload_n hE 1 (dlX9_since_0.at 1 rfl) rfl rfl ?_
  refine q_callV_i (X := fun z => WG V z o) hE (As := [_]) (dlX9_since_0.at 2 rfl) mw_X9_isClock wm_X9_93 rfl rfl rfl rfl (Nat.zero_le _) (Nat.zero_le _) rfl kc9 g0 rfl (ok_X9_isClock hfx) hm (fun v1 h1 hm => ?_)
  refine q_if_eq hE (tgt := 17) (dlX9_since_0.at 3 rfl) (by decide) hm (fun hc2 hm => ?_) (fun hc2 hm => ?_)
  · refine q_iconst hE (dlX9_since_0.at 9 rfl) ic_m1 ?_
    exact q_iret (X := fun z => WG V z o) hE (dlX9_since_0.at 10 rfl) hm hQ rfl
  · refine q_iload_n hE 2 (dlX9_since_0.at 4 rfl) rfl rfl ?_
    refine q_iconst hE (dlX9_since_0.at 5 rfl) ic_0 ?_
    refine q_iconst hE (dlX9_since_0.at 6 rfl) ic_1 ?_
    refine q_callS_i (X := fun z => WG V z o) hE (As := [_, _, _]) (dlX9_since_0.at 7 rfl) mw_X9_within wm_X9_73 rfl rfl rfl rfl (Nat.zero_le _) (Nat.zero_le _) rfl (ok_X9_within hfx) hm (fun v3 h3 hm => ?_)
    refine q_if_ne hE (tgt := 19) (dlX9_since_0.at 8 rfl) (by decide) hm (fun hc4 hm => ?_) (fun hc4 hm => ?_)
    · refine q_iconst hE (dlX9_since_0.at 9 rfl) ic_m1 ?_
      exact q_iret (X := fun z => WG V z o) hE (dlX9_since_0.at 10 rfl) hm hQ rfl
    · refine q_aload_n hE 0 (dlX9_since_0.at 11 rfl) rfl rfl ?_
      refine q_get hE (dlX9_since_0.at 12 rfl) kc9 wf_X9_47 g0 rfl rfl rfl ?_
      refine q_iload_n hE 1 (dlX9_since_0.at 13 rfl) rfl rfl ?_
      refine q_callVN_v (X := fun z => WG V z o) hE (As := [_]) (dlX9_since_0.at 14 rfl) mw_X1_weighDays wm_X9_199 rfl rfl rfl rfl (Nat.zero_le _) (Nat.zero_le _) rfl kc1 g34 rfl (ok_X1_weighDays hfx) hm (fun v5 h5 hm => ?_)
      refine q_iload_n hE 2 (dlX9_since_0.at 15 rfl) rfl rfl ?_
      refine q_if_ne hE (tgt := 41) (dlX9_since_0.at 16 rfl) (by decide) hm (fun hc6 hm => ?_) (fun hc6 hm => ?_)
      · refine q_aload_n hE 0 (dlX9_since_0.at 17 rfl) rfl rfl ?_
        refine q_get hE (dlX9_since_0.at 18 rfl) kc9 wf_X9_47 g0 rfl rfl rfl ?_
        refine q_getN hE (dlX9_since_0.at 19 rfl) kc1 wf_X9_202 g34 rfl rfl rfl ?_
        refine q_goto hE (tgt := 48) (dlX9_since_0.at 20 rfl) (by decide) ?_
        exact q_iret (X := fun z => WG V z o) hE (dlX9_since_0.at 24 rfl) hm hQ rfl
      · refine q_aload_n hE 0 (dlX9_since_0.at 21 rfl) rfl rfl ?_
        refine q_get hE (dlX9_since_0.at 22 rfl) kc9 wf_X9_47 g0 rfl rfl rfl ?_
        refine q_getN hE (dlX9_since_0.at 23 rfl) kc1 wf_X9_205 g34 rfl rfl rfl ?_
        exact q_iret (X := fun z => WG V z o) hE (dlX9_since_0.at 24 rfl) hm hQ rfl
set_option maxRecDepth 10000 in
theorem okL_X1_weighValues_16 {V : Ev} {l : Launch} {o : PH} {F : Nat}  (hfx : V.2.2.2.2 = false) {E : Cx} (hE : CX E V l cX1_weighValues RX1 4 7 0 0 none) {r : Unit × PH} (hQ : RQ E V 143 (WG V r.2 o) (none) 0 0) : ∀ (n : Nat) (x1 : Int32) (x2 : Int32) (x3 : Int32) (h : PH), fL_X1_weighValues_16 F n x1 x2 x3 h = some r → PW E V 0 0 143 (WG V h o) 16 [(0, rf V 34), (1, .int x1), (2, .int x2), (3, .int x3)] [] := by
  intro n
  induction n with
  | zero => intro x1 x2 x3 h hm; cases hm
  | succ n ih =>
    intro x1 x2 x3 h hm
    rw [fL_X1_weighValues_16] at hm
    refine q_iload_n hE 3 (dlX1_weighValues_0.at 10 rfl) rfl rfl ?_
    refine q_bipush hE (dlX1_weighValues_0.at 11 rfl) bc_9 ?_
    refine q_icmp_gt hE (tgt := 64) (dlX1_weighValues_0.at 12 rfl) (by decide) hm (fun hc2 hm => ?_) (fun hc2 hm => ?_)
    · refine q_aload_n hE 0 (dlX1_weighValues_0.at 35 rfl) rfl rfl ?_
      refine q_get hE (dlX1_weighValues_0.at 36 rfl) kc1 wf_X1_25 g34 rfl rfl rfl ?_
      refine q_getN hE (dlX1_weighValues_0.at 37 rfl) kc7 wf_X1_107 g1 rfl rfl rfl ?_
      refine q_iload_n hE 1 (dlX1_weighValues_0.at 38 rfl) rfl rfl ?_
      refine q_iload_n hE 2 (dlX1_weighValues_0.at 39 rfl) rfl rfl ?_
      refine q_iast hE hfx (dlX1_weighValues_1.at 0 rfl) g3 rfl u3 hm (fun hm => ?_)
      refine q_lth (X := fun z => WG V z o) hm (fun h3 hm => ?_)
      refine q_aload_n hE 0 (dlX1_weighValues_1.at 1 rfl) rfl rfl ?_
      refine q_get hE (dlX1_weighValues_1.at 2 rfl) kc1 wf_X1_25 g34 rfl rfl rfl ?_
      refine q_iload_n hE 1 (dlX1_weighValues_1.at 3 rfl) rfl rfl ?_
      refine q_callVN_v (X := fun z => WG V z o) hE (As := [_]) (dlX1_weighValues_1.at 4 rfl) mw_X7_learn wm_X1_110 rfl rfl rfl rfl (Nat.zero_le _) (Nat.zero_le _) rfl kc7 g1 rfl (ok_X7_learn hfx) hm (fun v4 h4 hm => ?_)
      exact q_vret (X := fun z => WG V z o) hE (dlX1_weighValues_1.at 5 rfl) hm hQ rfl
    · refine q_aload_n hE 0 (dlX1_weighValues_0.at 13 rfl) rfl rfl ?_
      refine q_get hE (dlX1_weighValues_0.at 14 rfl) kc1 wf_X1_25 g34 rfl rfl rfl ?_
      refine q_getN hE (dlX1_weighValues_0.at 15 rfl) kc7 wf_X1_107 g1 rfl rfl rfl ?_
      refine q_iload_n hE 1 (dlX1_weighValues_0.at 16 rfl) rfl rfl ?_
      refine q_iload_n hE 3 (dlX1_weighValues_0.at 17 rfl) rfl rfl ?_
      refine q_iast hE hfx (dlX1_weighValues_0.at 18 rfl) g3 rfl u3 hm (fun hm => ?_)
      refine q_lth (X := fun z => WG V z o) hm (fun h5 hm => ?_)
      refine q_aload_n hE 0 (dlX1_weighValues_0.at 19 rfl) rfl rfl ?_
      refine q_get hE (dlX1_weighValues_0.at 20 rfl) kc1 wf_X1_25 g34 rfl rfl rfl ?_
      refine q_iload_n hE 1 (dlX1_weighValues_0.at 21 rfl) rfl rfl ?_
      refine q_callVN_v (X := fun z => WG V z o) hE (As := [_]) (dlX1_weighValues_0.at 22 rfl) mw_X7_learn wm_X1_110 rfl rfl rfl rfl (Nat.zero_le _) (Nat.zero_le _) rfl kc7 g1 rfl (ok_X7_learn hfx) hm (fun v6 h6 hm => ?_)
      refine q_aload_n hE 0 (dlX1_weighValues_0.at 23 rfl) rfl rfl ?_
      refine q_iload_n hE 1 (dlX1_weighValues_0.at 24 rfl) rfl rfl ?_
      refine q_aload_n hE 0 (dlX1_weighValues_0.at 25 rfl) rfl rfl ?_
      refine q_get hE (dlX1_weighValues_0.at 26 rfl) kc1 wf_X1_25 g34 rfl rfl rfl ?_
      refine q_getN hE (dlX1_weighValues_0.at 27 rfl) kc7 wf_X1_29 g1 rfl rfl rfl ?_
      refine q_getN hE (dlX1_weighValues_0.at 28 rfl) kc3 wf_X1_49 g6 rfl rfl rfl ?_
      refine q_iload_n hE 1 (dlX1_weighValues_0.at 29 rfl) rfl rfl ?_
      refine q_iald hE (dlX1_weighValues_0.at 30 rfl) g7 rfl hm (fun hm => ?_)
      refine q_iload_n hE 3 (dlX1_weighValues_0.at 31 rfl) rfl rfl ?_
      refine q_callV_v (X := fun z => WG V z o) hE (As := [_, _, _]) (dlX1_weighValues_0.at 32 rfl) mw_X1_weigh wm_X1_103 rfl rfl rfl rfl (Nat.zero_le _) (Nat.zero_le _) rfl kc1 g34 rfl (ok_X1_weigh hfx) hm (fun v7 h7 hm => ?_)
      refine q_iinc hE [(0, _), (1, _), (2, _), (3, _)] 3 (dlX1_weighValues_0.at 33 rfl) rfl ic_1 rfl rfl ?_
      refine q_goto hE (tgt := 16) (dlX1_weighValues_0.at 34 rfl) (by decide) ?_
      refine q_sub hE [0, 1, 2, 3] rfl ?_
      exact ih _ _ _ _  hm
set_option maxRecDepth 10000 in
theorem ok_X1_weighValues {V : Ev} {l : Launch} {o : PH} {F : Nat}  (hfx : V.2.2.2.2 = false) {a1 : Int32} {h : PH} : ∀ (v : Unit) (h' : PH), f_X1_weighValues F a1 h = some (v, h') → Ctr l V yX1_weighValues cX1_weighValues 4 none 7 [rf V 34, .int a1] 143 (WG V h o) 143 (WG V (h') o) (none) 0 0 := by
  intro v h' hm
  refine Ctr.intro RX1 (by decide +kernel) rfl rfl rfl ?_
  intro E hE hQ _
  unfold f_X1_weighValues at hm
  refine q_aload_n hE 0 (dlX1_weighValues_0.at 0 rfl) rfl rfl ?_
  refine q_callV_v (X := fun z => WG V z o) hE (As := []) (dlX1_weighValues_0.at 1 rfl) mw_X1_weighNothing wm_X1_100 rfl rfl rfl rfl (Nat.zero_le _) (Nat.zero_le _) rfl kc1 g34 rfl (ok_X1_weighNothing hfx) hm (fun v1 h1 hm => ?_)
  refine q_aload_n hE 0 (dlX1_weighValues_0.at 2 rfl) rfl rfl ?_
  refine q_get hE (dlX1_weighValues_0.at 3 rfl) kc1 wf_X1_25 g34 rfl rfl rfl ?_
  refine q_getN hE (dlX1_weighValues_0.at 4 rfl) kc7 wf_X1_107 g1 rfl rfl rfl ?_
  refine q_iload_n hE 1 (dlX1_weighValues_0.at 5 rfl) rfl rfl ?_
  refine q_iald hE (dlX1_weighValues_0.at 6 rfl) g3 rfl hm (fun hm => ?_)
  refine q_istore_n hE [(0, _), (1, _), (2, _)] (dlX1_weighValues_0.at 7 rfl) rfl rfl rfl ?_
  refine q_iconst hE (dlX1_weighValues_0.at 8 rfl) ic_0 ?_
  refine q_istore_n hE [(0, _), (1, _), (2, _), (3, _)] (dlX1_weighValues_0.at 9 rfl) rfl rfl rfl ?_
  refine q_sub hE [0, 1, 2, 3] rfl ?_
  exact okL_X1_weighValues_16 hfx hE hQ  F _ _ _ _  hm
set_option maxRecDepth 10000 in
theorem ok_X9_can {V : Ev} {l : Launch} {o : PH} {F : Nat}  (hfx : V.2.2.2.2 = false) {a1 : Int32} {a2 : Int32} {h : PH} : ∀ (v : Int32) (h' : PH), f_X9_can F a1 a2 h = some (v, h') → Ctr l V yX9_can cX9_can 3 (some .int) 8 [rf V 0, .int a1, .int a2] 143 (WG V h o) 143 (WG V (h') o) (some (.int v)) 0 0 := by
  intro v h' hm
  refine Ctr.intro RX9 (by decide +kernel) rfl rfl rfl ?_
  intro E hE hQ _
  unfold f_X9_can at hm
  refine q_aload_n hE 0 (dlX9_can_0.at 0 rfl) rfl rfl ?_
  refine q_iload_n hE 1 (dlX9_can_0.at 1 rfl) rfl rfl ?_
  refine q_callV_i (X := fun z => WG V z o) hE (As := [_]) (dlX9_can_0.at 2 rfl) mw_X9_isClock wm_X9_93 rfl rfl rfl rfl (Nat.zero_le _) (Nat.zero_le _) rfl kc9 g0 rfl (ok_X9_isClock hfx) hm (fun v1 h1 hm => ?_)
  refine q_if_eq hE (tgt := 17) (dlX9_can_0.at 3 rfl) (by decide) hm (fun hc2 hm => ?_) (fun hc2 hm => ?_)
  · refine q_iconst hE (dlX9_can_0.at 9 rfl) ic_m1 ?_
    exact q_iret (X := fun z => WG V z o) hE (dlX9_can_0.at 10 rfl) hm hQ rfl
  · refine q_iload_n hE 2 (dlX9_can_0.at 4 rfl) rfl rfl ?_
    refine q_iconst hE (dlX9_can_0.at 5 rfl) ic_0 ?_
    refine q_iconst hE (dlX9_can_0.at 6 rfl) ic_1 ?_
    refine q_callS_i (X := fun z => WG V z o) hE (As := [_, _, _]) (dlX9_can_0.at 7 rfl) mw_X9_within wm_X9_73 rfl rfl rfl rfl (Nat.zero_le _) (Nat.zero_le _) rfl (ok_X9_within hfx) hm (fun v3 h3 hm => ?_)
    refine q_if_ne hE (tgt := 19) (dlX9_can_0.at 8 rfl) (by decide) hm (fun hc4 hm => ?_) (fun hc4 hm => ?_)
    · refine q_iconst hE (dlX9_can_0.at 9 rfl) ic_m1 ?_
      exact q_iret (X := fun z => WG V z o) hE (dlX9_can_0.at 10 rfl) hm hQ rfl
    · refine q_aload_n hE 0 (dlX9_can_0.at 11 rfl) rfl rfl ?_
      refine q_get hE (dlX9_can_0.at 12 rfl) kc9 wf_X9_47 g0 rfl rfl rfl ?_
      refine q_iload_n hE 1 (dlX9_can_0.at 13 rfl) rfl rfl ?_
      refine q_callVN_v (X := fun z => WG V z o) hE (As := [_]) (dlX9_can_0.at 14 rfl) mw_X1_weighValues wm_X9_208 rfl rfl rfl rfl (Nat.zero_le _) (Nat.zero_le _) rfl kc1 g34 rfl (ok_X1_weighValues hfx) hm (fun v5 h5 hm => ?_)
      refine q_iload_n hE 2 (dlX9_can_0.at 15 rfl) rfl rfl ?_
      refine q_if_ne hE (tgt := 41) (dlX9_can_0.at 16 rfl) (by decide) hm (fun hc6 hm => ?_) (fun hc6 hm => ?_)
      · refine q_aload_n hE 0 (dlX9_can_0.at 17 rfl) rfl rfl ?_
        refine q_get hE (dlX9_can_0.at 18 rfl) kc9 wf_X9_47 g0 rfl rfl rfl ?_
        refine q_getN hE (dlX9_can_0.at 19 rfl) kc1 wf_X9_202 g34 rfl rfl rfl ?_
        refine q_goto hE (tgt := 48) (dlX9_can_0.at 20 rfl) (by decide) ?_
        exact q_iret (X := fun z => WG V z o) hE (dlX9_can_0.at 24 rfl) hm hQ rfl
      · refine q_aload_n hE 0 (dlX9_can_0.at 21 rfl) rfl rfl ?_
        refine q_get hE (dlX9_can_0.at 22 rfl) kc9 wf_X9_47 g0 rfl rfl rfl ?_
        refine q_getN hE (dlX9_can_0.at 23 rfl) kc1 wf_X9_205 g34 rfl rfl rfl ?_
        exact q_iret (X := fun z => WG V z o) hE (dlX9_can_0.at 24 rfl) hm hQ rfl
set_option maxRecDepth 10000 in
theorem okL_X1_howManyUpBehind_4 {V : Ev} {l : Launch} {o : PH} {F : Nat}  (hfx : V.2.2.2.2 = false) {E : Cx} (hE : CX E V l cX1_howManyUpBehind RX1 4 5 0 0 (some .int)) {r : Int32 × PH} (hQ : RQ E V 143 (WG V r.2 o) (some (.int r.1)) 0 0) : ∀ (n : Nat) (x1 : Int32) (x2 : Int32) (x3 : Int32) (h : PH), fL_X1_howManyUpBehind_4 F n x1 x2 x3 h = some r → PW E V 0 0 143 (WG V h o) 4 [(0, rf V 34), (1, .int x1), (2, .int x2), (3, .int x3)] [] := by
  intro n
  induction n with
  | zero => intro x1 x2 x3 h hm; cases hm
  | succ n ih =>
    intro x1 x2 x3 h hm
    rw [fL_X1_howManyUpBehind_4] at hm
    refine q_iload_n hE 3 (dlX1_howManyUpBehind_0.at 4 rfl) rfl rfl ?_
    refine q_aload_n hE 0 (dlX1_howManyUpBehind_0.at 5 rfl) rfl rfl ?_
    refine q_get hE (dlX1_howManyUpBehind_0.at 6 rfl) kc1 wf_X1_25 g34 rfl rfl rfl ?_
    refine q_getN hE (dlX1_howManyUpBehind_0.at 7 rfl) kc7 wf_X1_74 g1 rfl rfl rfl ?_
    refine q_icmp_ge hE (tgt := 45) (dlX1_howManyUpBehind_0.at 8 rfl) (by decide) hm (fun hc1 hm => ?_) (fun hc1 hm => ?_)
    · refine q_iload_n hE 2 (dlX1_howManyUpBehind_0.at 23 rfl) rfl rfl ?_
      exact q_iret (X := fun z => WG V z o) hE (dlX1_howManyUpBehind_0.at 24 rfl) hm hQ rfl
    · refine q_aload_n hE 0 (dlX1_howManyUpBehind_0.at 9 rfl) rfl rfl ?_
      refine q_callV_v (X := fun z => WG V z o) hE (As := []) (dlX1_howManyUpBehind_0.at 10 rfl) mw_X1_begin wm_X1_42 rfl rfl rfl rfl (Nat.zero_le _) (Nat.zero_le _) rfl kc1 g34 rfl (ok_X1_begin hfx) hm (fun v2 h2 hm => ?_)
      refine q_aload_n hE 0 (dlX1_howManyUpBehind_0.at 11 rfl) rfl rfl ?_
      refine q_iload_n hE 3 (dlX1_howManyUpBehind_0.at 12 rfl) rfl rfl ?_
      refine q_iload_n hE 1 (dlX1_howManyUpBehind_0.at 13 rfl) rfl rfl ?_
      refine q_callV_v (X := fun z => WG V z o) hE (As := [_, _]) (dlX1_howManyUpBehind_0.at 14 rfl) mw_X1_tellOften wm_X1_45 rfl rfl rfl rfl (Nat.zero_le _) (Nat.zero_le _) rfl kc1 g34 rfl (ok_X1_tellOften hfx) hm (fun v3 h3 hm => ?_)
      refine q_aload_n hE 0 (dlX1_howManyUpBehind_0.at 15 rfl) rfl rfl ?_
      refine q_get hE (dlX1_howManyUpBehind_0.at 16 rfl) kc1 wf_X1_12 g34 rfl rfl rfl ?_
      refine q_iload_n hE 3 (dlX1_howManyUpBehind_0.at 17 rfl) rfl rfl ?_
      refine q_callVN_i (X := fun z => WG V z o) hE (As := [_]) (dlX1_howManyUpBehind_0.at 18 rfl) mw_X3_isUp wm_X1_60 rfl rfl rfl rfl (Nat.zero_le _) (Nat.zero_le _) rfl kc3 g35 rfl (ok_X3_isUp hfx) hm (fun v4 h4 hm => ?_)
      refine q_if_eq hE (tgt := 39) (dlX1_howManyUpBehind_0.at 19 rfl) (by decide) hm (fun hc5 hm => ?_) (fun hc5 hm => ?_)
      · refine q_iinc hE [(0, _), (1, _), (2, _), (3, _)] 3 (dlX1_howManyUpBehind_0.at 21 rfl) rfl ic_1 rfl rfl ?_
        refine q_goto hE (tgt := 4) (dlX1_howManyUpBehind_0.at 22 rfl) (by decide) ?_
        refine q_sub hE [0, 1, 2, 3] rfl ?_
        exact ih _ _ _ _  hm
      · refine q_iinc hE [(0, _), (1, _), (2, _), (3, _)] 2 (dlX1_howManyUpBehind_0.at 20 rfl) rfl ic_1 rfl rfl ?_
        refine q_iinc hE [(0, _), (1, _), (2, _), (3, _)] 3 (dlX1_howManyUpBehind_0.at 21 rfl) rfl ic_1 rfl rfl ?_
        refine q_goto hE (tgt := 4) (dlX1_howManyUpBehind_0.at 22 rfl) (by decide) ?_
        refine q_sub hE [0, 1, 2, 3] rfl ?_
        exact ih _ _ _ _  hm
set_option maxRecDepth 10000 in
theorem ok_X1_howManyUpBehind {V : Ev} {l : Launch} {o : PH} {F : Nat}  (hfx : V.2.2.2.2 = false) {a1 : Int32} {h : PH} : ∀ (v : Int32) (h' : PH), f_X1_howManyUpBehind F a1 h = some (v, h') → Ctr l V yX1_howManyUpBehind cX1_howManyUpBehind 4 (some .int) 5 [rf V 34, .int a1] 143 (WG V h o) 143 (WG V (h') o) (some (.int v)) 0 0 := by
  intro v h' hm
  refine Ctr.intro RX1 (by decide +kernel) rfl rfl rfl ?_
  intro E hE hQ _
  unfold f_X1_howManyUpBehind at hm
  refine q_iconst hE (dlX1_howManyUpBehind_0.at 0 rfl) ic_0 ?_
  refine q_istore_n hE [(0, _), (1, _), (2, _)] (dlX1_howManyUpBehind_0.at 1 rfl) rfl rfl rfl ?_
  refine q_iconst hE (dlX1_howManyUpBehind_0.at 2 rfl) ic_0 ?_
  refine q_istore_n hE [(0, _), (1, _), (2, _), (3, _)] (dlX1_howManyUpBehind_0.at 3 rfl) rfl rfl rfl ?_
  refine q_sub hE [0, 1, 2, 3] rfl ?_
  exact okL_X1_howManyUpBehind_4 hfx hE hQ  F _ _ _ _  hm
set_option maxRecDepth 10000 in
theorem okL_X9_commonDivisor_7 {V : Ev} {l : Launch} {o : PH} {F : Nat}  (hfx : V.2.2.2.2 = false) {E : Cx} (hE : CX E V l cX9_commonDivisor RX9 6 1 0 0 (some .int)) {r : Int32 × PH} (hQ : RQ E V 143 (WG V r.2 o) (some (.int r.1)) 0 0) : ∀ (n : Nat) (x2 : Int32) (x3 : Int32) (x4 : Int32) (h : PH), fL_X9_commonDivisor_7 F n x2 x3 x4 h = some r → PW E V 0 0 143 (WG V h o) 7 [(2, .int x2), (3, .int x3), (4, .int x4)] [] := by
  intro n
  induction n with
  | zero => intro x2 x3 x4 h hm; cases hm
  | succ n ih =>
    intro x2 x3 x4 h hm
    rw [fL_X9_commonDivisor_7] at hm
    refine q_iload hE 2 (dlX9_commonDivisor_0.at 6 rfl) rfl ?_
    refine q_sipush hE (dlX9_commonDivisor_0.at 7 rfl) sc_1000 ?_
    refine q_icmp_ge hE (tgt := 35) (dlX9_commonDivisor_0.at 8 rfl) (by decide) hm (fun hc1 hm => ?_) (fun hc1 hm => ?_)
    · refine q_iload_n hE 0 (dlX9_commonDivisor_0.at 21 rfl) rfl rfl ?_
      exact q_iret (X := fun z => WG V z o) hE (dlX9_commonDivisor_0.at 22 rfl) hm hQ rfl
    · refine q_iload_n hE 1 (dlX9_commonDivisor_0.at 9 rfl) rfl rfl ?_
      refine q_if_eq hE (tgt := 35) (dlX9_commonDivisor_0.at 10 rfl) (by decide) hm (fun hc2 hm => ?_) (fun hc2 hm => ?_)
      · refine q_iload_n hE 0 (dlX9_commonDivisor_0.at 21 rfl) rfl rfl ?_
        exact q_iret (X := fun z => WG V z o) hE (dlX9_commonDivisor_0.at 22 rfl) hm hQ rfl
      · refine q_iload_n hE 0 (dlX9_commonDivisor_0.at 11 rfl) rfl rfl ?_
        refine q_iload_n hE 1 (dlX9_commonDivisor_0.at 12 rfl) rfl rfl ?_
        refine q_irem hE (dlX9_commonDivisor_0.at 13 rfl) hm (fun hm => ?_)
        refine q_istore hE [(2, _), (3, _), (4, _), (5, _)] (dlX9_commonDivisor_0.at 14 rfl) rfl rfl ?_
        refine q_iload_n hE 1 (dlX9_commonDivisor_0.at 15 rfl) rfl rfl ?_
        refine q_istore_n hE [(2, _), (3, _), (4, _), (5, _)] (dlX9_commonDivisor_0.at 16 rfl) rfl rfl rfl ?_
        refine q_iload hE 3 (dlX9_commonDivisor_0.at 17 rfl) rfl ?_
        refine q_istore_n hE [(2, _), (3, _), (4, _), (5, _)] (dlX9_commonDivisor_0.at 18 rfl) rfl rfl rfl ?_
        refine q_iinc hE [(2, _), (3, _), (4, _), (5, _)] 2 (dlX9_commonDivisor_0.at 19 rfl) rfl ic_1 rfl rfl ?_
        refine q_goto hE (tgt := 7) (dlX9_commonDivisor_0.at 20 rfl) (by decide) ?_
        refine q_sub hE [0, 1, 2] rfl ?_
        exact ih _ _ _ _  hm
set_option maxRecDepth 10000 in
theorem ok_X9_commonDivisor {V : Ev} {l : Launch} {o : PH} {F : Nat}  (hfx : V.2.2.2.2 = false) {a0 : Int32} {a1 : Int32} {h : PH} : ∀ (v : Int32) (h' : PH), f_X9_commonDivisor F a0 a1 h = some (v, h') → Ctr l V yX9_commonDivisor cX9_commonDivisor 6 (some .int) 1 [.int a0, .int a1] 143 (WG V h o) 143 (WG V (h') o) (some (.int v)) 0 0 := by
  intro v h' hm
  refine Ctr.intro RX9 (by decide +kernel) rfl rfl rfl ?_
  intro E hE hQ _
  unfold f_X9_commonDivisor at hm
  refine q_iload_n hE 0 (dlX9_commonDivisor_0.at 0 rfl) rfl rfl ?_
  refine q_istore_n hE [(0, _), (1, _), (2, _)] (dlX9_commonDivisor_0.at 1 rfl) rfl rfl rfl ?_
  refine q_iload_n hE 1 (dlX9_commonDivisor_0.at 2 rfl) rfl rfl ?_
  refine q_istore_n hE [(0, _), (1, _), (2, _), (3, _)] (dlX9_commonDivisor_0.at 3 rfl) rfl rfl rfl ?_
  refine q_iconst hE (dlX9_commonDivisor_0.at 4 rfl) ic_0 ?_
  refine q_istore hE [(0, _), (1, _), (2, _), (3, _), (4, _)] (dlX9_commonDivisor_0.at 5 rfl) rfl rfl ?_
  refine q_sub hE [2, 3, 4] rfl ?_
  exact okL_X9_commonDivisor_7 hfx hE hQ  F _ _ _ _  hm
set_option maxRecDepth 10000 in
theorem ok_X9_lowest {V : Ev} {l : Launch} {o : PH} {F : Nat}  (hfx : V.2.2.2.2 = false) {a0 : Int32} {a1 : Int32} {a2 : Int32} {h : PH} : ∀ (v : Int64) (h' : PH), f_X9_lowest F a0 a1 a2 h = some (v, h') → Ctr l V yX9_lowest cX9_lowest 4 (some .long) 2 [.int a0, .int a1, .int a2] 143 (WG V h o) 143 (WG V (h') o) (some (.long v)) 0 0 := by
  intro v h' hm
  refine Ctr.intro RX9 (by decide +kernel) rfl rfl rfl ?_
  intro E hE hQ _
  unfold f_X9_lowest at hm
  refine q_iload_n hE 0 (dlX9_lowest_0.at 0 rfl) rfl rfl ?_
  refine q_iload_n hE 1 (dlX9_lowest_0.at 1 rfl) rfl rfl ?_
  refine q_callS_i (X := fun z => WG V z o) hE (As := [_, _]) (dlX9_lowest_0.at 2 rfl) mw_X9_commonDivisor wm_X9_290 rfl rfl rfl rfl (Nat.zero_le _) (Nat.zero_le _) rfl (ok_X9_commonDivisor hfx) hm (fun v1 h1 hm => ?_)
  refine q_istore_n hE [(0, _), (1, _), (2, _), (3, _)] (dlX9_lowest_0.at 3 rfl) rfl rfl rfl ?_
  refine q_iload_n hE 1 (dlX9_lowest_0.at 4 rfl) rfl rfl ?_
  refine q_if_eq hE (tgt := 14) (dlX9_lowest_0.at 5 rfl) (by decide) hm (fun hc2 hm => ?_) (fun hc2 hm => ?_)
  · refine q_ldc2 hE (dlX9_lowest_0.at 8 rfl) wk_X9_211 ?_
    exact q_lret (X := fun z => WG V z o) hE (dlX9_lowest_0.at 9 rfl) hm hQ rfl
  · refine q_iload_n hE 3 (dlX9_lowest_0.at 6 rfl) rfl rfl ?_
    refine q_if_ne hE (tgt := 18) (dlX9_lowest_0.at 7 rfl) (by decide) hm (fun hc3 hm => ?_) (fun hc3 hm => ?_)
    · refine q_ldc2 hE (dlX9_lowest_0.at 8 rfl) wk_X9_211 ?_
      exact q_lret (X := fun z => WG V z o) hE (dlX9_lowest_0.at 9 rfl) hm hQ rfl
    · refine q_iload_n hE 2 (dlX9_lowest_0.at 10 rfl) rfl rfl ?_
      refine q_lcase hE (dlX9_lowest_0.at 11 rfl) (0 : Int32) 44 (by decide) hm (fun _ hm => ?_) (fun hn4_0 hm => ?_)
      · refine q_iload_n hE 0 (dlX9_lowest_0.at 12 rfl) rfl rfl ?_
        refine q_iload_n hE 3 (dlX9_lowest_0.at 13 rfl) rfl rfl ?_
        refine q_idiv hE (dlX9_lowest_0.at 14 rfl) hm (fun hm => ?_)
        refine q_i2l hE (dlX9_lowest_0.at 15 rfl) ?_
        exact q_lret (X := fun z => WG V z o) hE (dlX9_lowest_0.at 16 rfl) hm hQ rfl
      · refine q_lcase hE (dlX9_lowest_0.at 11 rfl) (1 : Int32) 49 (by decide) hm (fun _ hm => ?_) (fun hn4_1 hm => ?_)
        · refine q_iload_n hE 1 (dlX9_lowest_0.at 17 rfl) rfl rfl ?_
          refine q_iload_n hE 3 (dlX9_lowest_0.at 18 rfl) rfl rfl ?_
          refine q_idiv hE (dlX9_lowest_0.at 19 rfl) hm (fun hm => ?_)
          refine q_i2l hE (dlX9_lowest_0.at 20 rfl) ?_
          exact q_lret (X := fun z => WG V z o) hE (dlX9_lowest_0.at 21 rfl) hm hQ rfl
        · refine q_ldef hE (tgt := 54) (dlX9_lowest_0.at 11 rfl) (by decide) (by rw [lv_osw hn4_0 (by decide)]; rw [lv_osw hn4_1 (by decide)]; rfl) (by decide) ?_
          refine q_ldc2 hE (dlX9_lowest_0.at 22 rfl) wk_X9_211 ?_
          exact q_lret (X := fun z => WG V z o) hE (dlX9_lowest_0.at 23 rfl) hm hQ rfl
set_option maxRecDepth 10000 in
theorem ok_X9_odds {V : Ev} {l : Launch} {o : PH} {F : Nat}  (hfx : V.2.2.2.2 = false) {a1 : Int32} {a2 : Int32} {h : PH} : ∀ (v : Int64) (h' : PH), f_X9_odds F a1 a2 h = some (v, h') → Ctr l V yX9_odds cX9_odds 3 (some .long) 6 [rf V 0, .int a1, .int a2] 143 (WG V h o) 143 (WG V (h') o) (some (.long v)) 0 0 := by
  intro v h' hm
  refine Ctr.intro RX9 (by decide +kernel) rfl rfl rfl ?_
  intro E hE hQ _
  unfold f_X9_odds at hm
  refine q_iload_n hE 1 (dlX9_odds_0.at 0 rfl) rfl rfl ?_
  refine q_iconst hE (dlX9_odds_0.at 1 rfl) ic_0 ?_
  refine q_bipush hE (dlX9_odds_0.at 2 rfl) bc_60 ?_
  refine q_callS_i (X := fun z => WG V z o) hE (As := [_, _, _]) (dlX9_odds_0.at 3 rfl) mw_X9_within wm_X9_73 rfl rfl rfl rfl (Nat.zero_le _) (Nat.zero_le _) rfl (ok_X9_within hfx) hm (fun v1 h1 hm => ?_)
  refine q_if_ne hE (tgt := 14) (dlX9_odds_0.at 4 rfl) (by decide) hm (fun hc2 hm => ?_) (fun hc2 hm => ?_)
  · refine q_ldc2 hE (dlX9_odds_0.at 5 rfl) wk_X9_211 ?_
    exact q_lret (X := fun z => WG V z o) hE (dlX9_odds_0.at 6 rfl) hm hQ rfl
  · refine q_aload_n hE 0 (dlX9_odds_0.at 7 rfl) rfl rfl ?_
    refine q_get hE (dlX9_odds_0.at 8 rfl) kc9 wf_X9_47 g0 rfl rfl rfl ?_
    refine q_iload_n hE 1 (dlX9_odds_0.at 9 rfl) rfl rfl ?_
    refine q_callVN_i (X := fun z => WG V z o) hE (As := [_]) (dlX9_odds_0.at 10 rfl) mw_X1_howManyUpBehind wm_X9_213 rfl rfl rfl rfl (Nat.zero_le _) (Nat.zero_le _) rfl kc1 g34 rfl (ok_X1_howManyUpBehind hfx) hm (fun v3 h3 hm => ?_)
    refine q_aload_n hE 0 (dlX9_odds_0.at 11 rfl) rfl rfl ?_
    refine q_get hE (dlX9_odds_0.at 12 rfl) kc9 wf_X9_12 g0 rfl rfl rfl ?_
    refine q_getN hE (dlX9_odds_0.at 13 rfl) kc7 wf_X9_86 g1 rfl rfl rfl ?_
    refine q_iload_n hE 2 (dlX9_odds_0.at 14 rfl) rfl rfl ?_
    refine q_callS_l (X := fun z => WG V z o) hE (As := [_, _, _]) (dlX9_odds_0.at 15 rfl) mw_X9_lowest wm_X9_216 rfl rfl rfl rfl (Nat.zero_le _) (Nat.zero_le _) rfl (ok_X9_lowest hfx) hm (fun v4 h4 hm => ?_)
    exact q_lret (X := fun z => WG V z o) hE (dlX9_odds_0.at 16 rfl) hm hQ rfl
set_option maxRecDepth 10000 in
theorem ok_X9_mean {V : Ev} {l : Launch} {o : PH} {F : Nat}  (hfx : V.2.2.2.2 = false) {a1 : Int32} {h : PH} : ∀ (v : Int64) (h' : PH), f_X9_mean F a1 h = some (v, h') → Ctr l V yX9_mean cX9_mean 2 (some .long) 4 [rf V 0, .int a1] 143 (WG V h o) 143 (WG V (h') o) (some (.long v)) 0 0 := by
  intro v h' hm
  refine Ctr.intro RX9 (by decide +kernel) rfl rfl rfl ?_
  intro E hE hQ _
  unfold f_X9_mean at hm
  refine q_aload_n hE 0 (dlX9_mean_0.at 0 rfl) rfl rfl ?_
  refine q_get hE (dlX9_mean_0.at 1 rfl) kc9 wf_X9_12 g0 rfl rfl rfl ?_
  refine q_aload_n hE 0 (dlX9_mean_0.at 2 rfl) rfl rfl ?_
  refine q_get hE (dlX9_mean_0.at 3 rfl) kc9 wf_X9_12 g0 rfl rfl rfl ?_
  refine q_getN hE (dlX9_mean_0.at 4 rfl) kc7 wf_X9_77 g1 rfl rfl rfl ?_
  refine q_callVN_i (X := fun z => WG V z o) hE (As := [_]) (dlX9_mean_0.at 5 rfl) mw_X7_leftOfAll wm_X9_158 rfl rfl rfl rfl (Nat.zero_le _) (Nat.zero_le _) rfl kc7 g1 rfl (ok_X7_leftOfAll hfx) hm (fun v1 h1 hm => ?_)
  refine q_aload_n hE 0 (dlX9_mean_0.at 6 rfl) rfl rfl ?_
  refine q_get hE (dlX9_mean_0.at 7 rfl) kc9 wf_X9_12 g0 rfl rfl rfl ?_
  refine q_getN hE (dlX9_mean_0.at 8 rfl) kc7 wf_X9_86 g1 rfl rfl rfl ?_
  refine q_iload_n hE 1 (dlX9_mean_0.at 9 rfl) rfl rfl ?_
  refine q_callS_l (X := fun z => WG V z o) hE (As := [_, _, _]) (dlX9_mean_0.at 10 rfl) mw_X9_lowest wm_X9_216 rfl rfl rfl rfl (Nat.zero_le _) (Nat.zero_le _) rfl (ok_X9_lowest hfx) hm (fun v2 h2 hm => ?_)
  exact q_lret (X := fun z => WG V z o) hE (dlX9_mean_0.at 11 rfl) hm hQ rfl
set_option maxRecDepth 10000 in
theorem ok_X9_month {V : Ev} {l : Launch} {o : PH} {F : Nat}  (hfx : V.2.2.2.2 = false) {a1 : Int32} {h : PH} : ∀ (v : Int32) (h' : PH), f_X9_month F a1 h = some (v, h') → Ctr l V yX9_month cX9_month 2 (some .int) 2 [rf V 0, .int a1] 143 (WG V h o) 143 (WG V (h') o) (some (.int v)) 0 0 := by
  intro v h' hm
  refine Ctr.intro RX9 (by decide +kernel) rfl rfl rfl ?_
  intro E hE hQ _
  unfold f_X9_month at hm
  refine q_iload_n hE 1 (dlX9_month_0.at 0 rfl) rfl rfl ?_
  refine q_iconst hE (dlX9_month_0.at 1 rfl) ic_m1 ?_
  refine q_icmp_ne hE (tgt := 16) (dlX9_month_0.at 2 rfl) (by decide) hm (fun hc1 hm => ?_) (fun hc1 hm => ?_)
  · refine q_aload_n hE 0 (dlX9_month_0.at 3 rfl) rfl rfl ?_
    refine q_get hE (dlX9_month_0.at 4 rfl) kc9 wf_X9_12 g0 rfl rfl rfl ?_
    refine q_getN hE (dlX9_month_0.at 5 rfl) kc7 wf_X9_220 g1 rfl rfl rfl ?_
    refine q_callVN_i (X := fun z => WG V z o) hE (As := []) (dlX9_month_0.at 6 rfl) mw_X6_empty wm_X9_191 rfl rfl rfl rfl (Nat.zero_le _) (Nat.zero_le _) rfl kc6 g11 rfl (ok_X6_empty hfx) hm (fun v7 h7 hm => ?_)
    exact q_iret (X := fun z => WG V z o) hE (dlX9_month_0.at 7 rfl) hm hQ rfl
  · refine q_aload_n hE 0 (dlX9_month_0.at 8 rfl) rfl rfl ?_
    refine q_iload_n hE 1 (dlX9_month_0.at 9 rfl) rfl rfl ?_
    refine q_callV_i (X := fun z => WG V z o) hE (As := [_]) (dlX9_month_0.at 10 rfl) mw_X9_isClock wm_X9_93 rfl rfl rfl rfl (Nat.zero_le _) (Nat.zero_le _) rfl kc9 g0 rfl (ok_X9_isClock hfx) hm (fun v2 h2 hm => ?_)
    refine q_if_ne hE (tgt := 32) (dlX9_month_0.at 11 rfl) (by decide) hm (fun hc3 hm => ?_) (fun hc3 hm => ?_)
    · refine q_iload_n hE 1 (dlX9_month_0.at 12 rfl) rfl rfl ?_
      refine q_bipush hE (dlX9_month_0.at 13 rfl) bc_6 ?_
      refine q_icmp_eq hE (tgt := 32) (dlX9_month_0.at 14 rfl) (by decide) hm (fun hc5 hm => ?_) (fun hc5 hm => ?_)
      · refine q_aload_n hE 0 (dlX9_month_0.at 17 rfl) rfl rfl ?_
        refine q_get hE (dlX9_month_0.at 18 rfl) kc9 wf_X9_12 g0 rfl rfl rfl ?_
        refine q_getN hE (dlX9_month_0.at 19 rfl) kc7 wf_X9_220 g1 rfl rfl rfl ?_
        refine q_iload_n hE 1 (dlX9_month_0.at 20 rfl) rfl rfl ?_
        refine q_iconst hE (dlX9_month_0.at 21 rfl) ic_0 ?_
        refine q_iconst hE (dlX9_month_0.at 22 rfl) ic_0 ?_
        refine q_callVN_i (X := fun z => WG V z o) hE (As := [_, _, _]) (dlX9_month_0.at 23 rfl) mw_X6_put wm_X9_196 rfl rfl rfl rfl (Nat.zero_le _) (Nat.zero_le _) rfl kc6 g11 rfl (ok_X6_put hfx) hm (fun v6 h6 hm => ?_)
        exact q_iret (X := fun z => WG V z o) hE (dlX9_month_0.at 24 rfl) hm hQ rfl
      · refine q_iconst hE (dlX9_month_0.at 15 rfl) ic_m1 ?_
        exact q_iret (X := fun z => WG V z o) hE (dlX9_month_0.at 16 rfl) hm hQ rfl
    · refine q_aload_n hE 0 (dlX9_month_0.at 17 rfl) rfl rfl ?_
      refine q_get hE (dlX9_month_0.at 18 rfl) kc9 wf_X9_12 g0 rfl rfl rfl ?_
      refine q_getN hE (dlX9_month_0.at 19 rfl) kc7 wf_X9_220 g1 rfl rfl rfl ?_
      refine q_iload_n hE 1 (dlX9_month_0.at 20 rfl) rfl rfl ?_
      refine q_iconst hE (dlX9_month_0.at 21 rfl) ic_0 ?_
      refine q_iconst hE (dlX9_month_0.at 22 rfl) ic_0 ?_
      refine q_callVN_i (X := fun z => WG V z o) hE (As := [_, _, _]) (dlX9_month_0.at 23 rfl) mw_X6_put wm_X9_196 rfl rfl rfl rfl (Nat.zero_le _) (Nat.zero_le _) rfl kc6 g11 rfl (ok_X6_put hfx) hm (fun v4 h4 hm => ?_)
      exact q_iret (X := fun z => WG V z o) hE (dlX9_month_0.at 24 rfl) hm hQ rfl
set_option maxRecDepth 10000 in
theorem okL_X1_monthEnds_6 {V : Ev} {l : Launch} {o : PH} {F : Nat}  (hfx : V.2.2.2.2 = false) {E : Cx} (hE : CX E V l cX1_monthEnds RX1 4 4 0 0 (some .int)) {r : Int32 × PH} (hQ : RQ E V 143 (WG V r.2 o) (some (.int r.1)) 0 0) : ∀ (n : Nat) (x1 : Int32) (x2 : Int32) (h : PH), fL_X1_monthEnds_6 F n x1 x2 h = some r → PW E V 0 0 143 (WG V h o) 6 [(0, rf V 34), (1, .int x1), (2, .int x2)] [] := by
  intro n
  induction n with
  | zero => intro x1 x2 h hm; cases hm
  | succ n ih =>
    intro x1 x2 h hm
    rw [fL_X1_monthEnds_6] at hm
    refine q_iload_n hE 2 (dlX1_monthEnds_0.at 4 rfl) rfl rfl ?_
    refine q_aload_n hE 0 (dlX1_monthEnds_0.at 5 rfl) rfl rfl ?_
    refine q_get hE (dlX1_monthEnds_0.at 6 rfl) kc1 wf_X1_25 g34 rfl rfl rfl ?_
    refine q_getN hE (dlX1_monthEnds_0.at 7 rfl) kc7 wf_X1_81 g1 rfl rfl rfl ?_
    refine q_getN hE (dlX1_monthEnds_0.at 8 rfl) kc6 wf_X1_85 g11 rfl rfl rfl ?_
    refine q_icmp_ge hE (tgt := 72) (dlX1_monthEnds_0.at 9 rfl) (by decide) hm (fun hc2 hm => ?_) (fun hc2 hm => ?_)
    · refine q_iload_n hE 1 (dlX1_monthEnds_0.at 35 rfl) rfl rfl ?_
      refine q_if_ne hE (tgt := 90) (dlX1_monthEnds_0.at 36 rfl) (by decide) hm (fun hc3 hm => ?_) (fun hc3 hm => ?_)
      · refine q_aload_n hE 0 (dlX1_monthEnds_0.at 37 rfl) rfl rfl ?_
        refine q_get hE (dlX1_monthEnds_0.at 38 rfl) kc1 wf_X1_25 g34 rfl rfl rfl ?_
        refine q_aload_n hE 0 (dlX1_monthEnds_0.at 39 rfl) rfl rfl ?_
        refine q_get hE (dlX1_monthEnds_1.at 0 rfl) kc1 wf_X1_12 g34 rfl rfl rfl ?_
        refine q_callVN_i (X := fun z => WG V z o) hE (As := [_]) (dlX1_monthEnds_1.at 1 rfl) mw_X7_howManyUp wm_X1_97 rfl rfl rfl rfl (Nat.zero_le _) (Nat.zero_le _) rfl kc7 g1 rfl (ok_X7_howManyUp hfx) hm (fun v5 h5 hm => ?_)
        refine q_goto hE (tgt := 101) (dlX1_monthEnds_1.at 2 rfl) (by decide) ?_
        exact q_iret (X := fun z => WG V z o) hE (dlX1_monthEnds_1.at 8 rfl) hm hQ rfl
      · refine q_aload_n hE 0 (dlX1_monthEnds_1.at 3 rfl) rfl rfl ?_
        refine q_get hE (dlX1_monthEnds_1.at 4 rfl) kc1 wf_X1_25 g34 rfl rfl rfl ?_
        refine q_aload_n hE 0 (dlX1_monthEnds_1.at 5 rfl) rfl rfl ?_
        refine q_get hE (dlX1_monthEnds_1.at 6 rfl) kc1 wf_X1_12 g34 rfl rfl rfl ?_
        refine q_callVN_i (X := fun z => WG V z o) hE (As := [_]) (dlX1_monthEnds_1.at 7 rfl) mw_X7_leftOfAll wm_X1_77 rfl rfl rfl rfl (Nat.zero_le _) (Nat.zero_le _) rfl kc7 g1 rfl (ok_X7_leftOfAll hfx) hm (fun v4 h4 hm => ?_)
        exact q_iret (X := fun z => WG V z o) hE (dlX1_monthEnds_1.at 8 rfl) hm hQ rfl
    · refine q_aload_n hE 0 (dlX1_monthEnds_0.at 10 rfl) rfl rfl ?_
      refine q_get hE (dlX1_monthEnds_0.at 11 rfl) kc1 wf_X1_25 g34 rfl rfl rfl ?_
      refine q_getN hE (dlX1_monthEnds_0.at 12 rfl) kc7 wf_X1_81 g1 rfl rfl rfl ?_
      refine q_iload_n hE 2 (dlX1_monthEnds_0.at 13 rfl) rfl rfl ?_
      refine q_iconst hE (dlX1_monthEnds_0.at 14 rfl) ic_0 ?_
      refine q_callVN_i (X := fun z => WG V z o) hE (As := [_, _]) (dlX1_monthEnds_0.at 15 rfl) mw_X6_cell wm_X1_90 rfl rfl rfl rfl (Nat.zero_le _) (Nat.zero_le _) rfl kc6 g11 rfl (ok_X6_cell hfx) hm (fun v6 h6 hm => ?_)
      refine q_istore_n hE [(0, _), (1, _), (2, _), (3, _)] (dlX1_monthEnds_0.at 16 rfl) rfl rfl rfl ?_
      refine q_iload_n hE 3 (dlX1_monthEnds_0.at 17 rfl) rfl rfl ?_
      refine q_bipush hE (dlX1_monthEnds_0.at 18 rfl) bc_6 ?_
      refine q_icmp_ne hE (tgt := 53) (dlX1_monthEnds_0.at 19 rfl) (by decide) hm (fun hc7 hm => ?_) (fun hc7 hm => ?_)
      · refine q_aload_n hE 0 (dlX1_monthEnds_0.at 20 rfl) rfl rfl ?_
        refine q_get hE (dlX1_monthEnds_0.at 21 rfl) kc1 wf_X1_25 g34 rfl rfl rfl ?_
        refine q_aload_n hE 0 (dlX1_monthEnds_0.at 22 rfl) rfl rfl ?_
        refine q_get hE (dlX1_monthEnds_0.at 23 rfl) kc1 wf_X1_12 g34 rfl rfl rfl ?_
        refine q_callVN_v (X := fun z => WG V z o) hE (As := [_]) (dlX1_monthEnds_0.at 24 rfl) mw_X7_night wm_X1_94 rfl rfl rfl rfl (Nat.zero_le _) (Nat.zero_le _) rfl kc7 g1 rfl (ok_X7_night hfx) hm (fun v9 h9 hm => ?_)
        refine q_goto hE (tgt := 66) (dlX1_monthEnds_0.at 25 rfl) (by decide) ?_
        refine q_iinc hE [(0, _), (1, _), (2, _), (3, _)] 2 (dlX1_monthEnds_0.at 33 rfl) rfl ic_1 rfl rfl ?_
        refine q_goto hE (tgt := 6) (dlX1_monthEnds_0.at 34 rfl) (by decide) ?_
        refine q_sub hE [0, 1, 2] rfl ?_
        exact ih _ _ _  hm
      · refine q_aload_n hE 0 (dlX1_monthEnds_0.at 26 rfl) rfl rfl ?_
        refine q_get hE (dlX1_monthEnds_0.at 27 rfl) kc1 wf_X1_25 g34 rfl rfl rfl ?_
        refine q_aload_n hE 0 (dlX1_monthEnds_0.at 28 rfl) rfl rfl ?_
        refine q_get hE (dlX1_monthEnds_0.at 29 rfl) kc1 wf_X1_12 g34 rfl rfl rfl ?_
        refine q_iload_n hE 3 (dlX1_monthEnds_0.at 30 rfl) rfl rfl ?_
        refine q_callVN_i (X := fun z => WG V z o) hE (As := [_, _]) (dlX1_monthEnds_0.at 31 rfl) mw_X7_evening wm_X1_38 rfl rfl rfl rfl (Nat.zero_le _) (Nat.zero_le _) rfl kc7 g1 rfl (ok_X7_evening hfx) hm (fun v8 h8 hm => ?_)
        refine q_pop hE (dlX1_monthEnds_0.at 32 rfl) rfl ?_
        refine q_iinc hE [(0, _), (1, _), (2, _), (3, _)] 2 (dlX1_monthEnds_0.at 33 rfl) rfl ic_1 rfl rfl ?_
        refine q_goto hE (tgt := 6) (dlX1_monthEnds_0.at 34 rfl) (by decide) ?_
        refine q_sub hE [0, 1, 2] rfl ?_
        exact ih _ _ _  hm
set_option maxRecDepth 10000 in
theorem ok_X1_monthEnds {V : Ev} {l : Launch} {o : PH} {F : Nat}  (hfx : V.2.2.2.2 = false) {a1 : Int32} {h : PH} : ∀ (v : Int32) (h' : PH), f_X1_monthEnds F a1 h = some (v, h') → Ctr l V yX1_monthEnds cX1_monthEnds 4 (some .int) 4 [rf V 34, .int a1] 143 (WG V h o) 143 (WG V (h') o) (some (.int v)) 0 0 := by
  intro v h' hm
  refine Ctr.intro RX1 (by decide +kernel) rfl rfl rfl ?_
  intro E hE hQ _
  unfold f_X1_monthEnds at hm
  refine q_aload_n hE 0 (dlX1_monthEnds_0.at 0 rfl) rfl rfl ?_
  refine q_callV_v (X := fun z => WG V z o) hE (As := []) (dlX1_monthEnds_0.at 1 rfl) mw_X1_begin wm_X1_42 rfl rfl rfl rfl (Nat.zero_le _) (Nat.zero_le _) rfl kc1 g34 rfl (ok_X1_begin hfx) hm (fun v1 h1 hm => ?_)
  refine q_iconst hE (dlX1_monthEnds_0.at 2 rfl) ic_0 ?_
  refine q_istore_n hE [(0, _), (1, _), (2, _)] (dlX1_monthEnds_0.at 3 rfl) rfl rfl rfl ?_
  refine q_sub hE [0, 1, 2] rfl ?_
  exact okL_X1_monthEnds_6 hfx hE hQ  F _ _ _  hm
set_option maxRecDepth 10000 in
theorem ok_X9_ends {V : Ev} {l : Launch} {o : PH} {F : Nat}  (hfx : V.2.2.2.2 = false) {a1 : Int32} {h : PH} : ∀ (v : Int32) (h' : PH), f_X9_ends F a1 h = some (v, h') → Ctr l V yX9_ends cX9_ends 2 (some .int) 5 [rf V 0, .int a1] 143 (WG V h o) 143 (WG V (h') o) (some (.int v)) 0 0 := by
  intro v h' hm
  refine Ctr.intro RX9 (by decide +kernel) rfl rfl rfl ?_
  intro E hE hQ _
  unfold f_X9_ends at hm
  refine q_iload_n hE 1 (dlX9_ends_0.at 0 rfl) rfl rfl ?_
  refine q_iconst hE (dlX9_ends_0.at 1 rfl) ic_0 ?_
  refine q_iconst hE (dlX9_ends_0.at 2 rfl) ic_1 ?_
  refine q_callS_i (X := fun z => WG V z o) hE (As := [_, _, _]) (dlX9_ends_0.at 3 rfl) mw_X9_within wm_X9_73 rfl rfl rfl rfl (Nat.zero_le _) (Nat.zero_le _) rfl (ok_X9_within hfx) hm (fun v1 h1 hm => ?_)
  refine q_if_ne hE (tgt := 11) (dlX9_ends_0.at 4 rfl) (by decide) hm (fun hc2 hm => ?_) (fun hc2 hm => ?_)
  · refine q_iconst hE (dlX9_ends_0.at 5 rfl) ic_m1 ?_
    exact q_iret (X := fun z => WG V z o) hE (dlX9_ends_0.at 6 rfl) hm hQ rfl
  · refine q_aload_n hE 0 (dlX9_ends_0.at 7 rfl) rfl rfl ?_
    refine q_get hE (dlX9_ends_0.at 8 rfl) kc9 wf_X9_47 g0 rfl rfl rfl ?_
    refine q_iload_n hE 1 (dlX9_ends_0.at 9 rfl) rfl rfl ?_
    refine q_callVN_i (X := fun z => WG V z o) hE (As := [_]) (dlX9_ends_0.at 10 rfl) mw_X1_monthEnds wm_X9_223 rfl rfl rfl rfl (Nat.zero_le _) (Nat.zero_le _) rfl kc1 g34 rfl (ok_X1_monthEnds hfx) hm (fun v3 h3 hm => ?_)
    exact q_iret (X := fun z => WG V z o) hE (dlX9_ends_0.at 11 rfl) hm hQ rfl
set_option maxRecDepth 10000 in
theorem ok_X9_book {V : Ev} {l : Launch} {o : PH} {F : Nat}  (hfx : V.2.2.2.2 = false) {a1 : Int32} {a2 : Int32} {h : PH} : ∀ (v : Int32) (h' : PH), f_X9_book F a1 a2 h = some (v, h') → Ctr l V yX9_book cX9_book 3 (some .int) 2 [rf V 0, .int a1, .int a2] 143 (WG V h o) 143 (WG V (h') o) (some (.int v)) 0 0 := by
  intro v h' hm
  refine Ctr.intro RX9 (by decide +kernel) rfl rfl rfl ?_
  intro E hE hQ _
  unfold f_X9_book at hm
  refine q_iload_n hE 1 (dlX9_book_0.at 0 rfl) rfl rfl ?_
  refine q_iconst hE (dlX9_book_0.at 1 rfl) ic_m1 ?_
  refine q_icmp_ne hE (tgt := 16) (dlX9_book_0.at 2 rfl) (by decide) hm (fun hc1 hm => ?_) (fun hc1 hm => ?_)
  · refine q_aload_n hE 0 (dlX9_book_0.at 3 rfl) rfl rfl ?_
    refine q_get hE (dlX9_book_0.at 4 rfl) kc9 wf_X9_12 g0 rfl rfl rfl ?_
    refine q_getN hE (dlX9_book_0.at 5 rfl) kc7 wf_X9_226 g1 rfl rfl rfl ?_
    refine q_callVN_i (X := fun z => WG V z o) hE (As := []) (dlX9_book_0.at 6 rfl) mw_X6_empty wm_X9_191 rfl rfl rfl rfl (Nat.zero_le _) (Nat.zero_le _) rfl kc6 g13 rfl (ok_X6_empty hfx) hm (fun v7 h7 hm => ?_)
    exact q_iret (X := fun z => WG V z o) hE (dlX9_book_0.at 7 rfl) hm hQ rfl
  · refine q_aload_n hE 0 (dlX9_book_0.at 8 rfl) rfl rfl ?_
    refine q_iload_n hE 1 (dlX9_book_0.at 9 rfl) rfl rfl ?_
    refine q_callV_i (X := fun z => WG V z o) hE (As := [_]) (dlX9_book_0.at 10 rfl) mw_X9_isClock wm_X9_93 rfl rfl rfl rfl (Nat.zero_le _) (Nat.zero_le _) rfl kc9 g0 rfl (ok_X9_isClock hfx) hm (fun v2 h2 hm => ?_)
    refine q_if_ne hE (tgt := 26) (dlX9_book_0.at 11 rfl) (by decide) hm (fun hc3 hm => ?_) (fun hc3 hm => ?_)
    · refine q_iconst hE (dlX9_book_0.at 12 rfl) ic_m1 ?_
      exact q_iret (X := fun z => WG V z o) hE (dlX9_book_0.at 13 rfl) hm hQ rfl
    · refine q_iload_n hE 2 (dlX9_book_0.at 14 rfl) rfl rfl ?_
      refine q_iconst hE (dlX9_book_0.at 15 rfl) ic_0 ?_
      refine q_sipush hE (dlX9_book_0.at 16 rfl) sc_9999 ?_
      refine q_callS_i (X := fun z => WG V z o) hE (As := [_, _, _]) (dlX9_book_0.at 17 rfl) mw_X9_within wm_X9_73 rfl rfl rfl rfl (Nat.zero_le _) (Nat.zero_le _) rfl (ok_X9_within hfx) hm (fun v4 h4 hm => ?_)
      refine q_if_ne hE (tgt := 40) (dlX9_book_0.at 18 rfl) (by decide) hm (fun hc5 hm => ?_) (fun hc5 hm => ?_)
      · refine q_bipush hE (dlX9_book_0.at 19 rfl) bc_m2 ?_
        exact q_iret (X := fun z => WG V z o) hE (dlX9_book_0.at 20 rfl) hm hQ rfl
      · refine q_aload_n hE 0 (dlX9_book_0.at 21 rfl) rfl rfl ?_
        refine q_get hE (dlX9_book_0.at 22 rfl) kc9 wf_X9_12 g0 rfl rfl rfl ?_
        refine q_getN hE (dlX9_book_0.at 23 rfl) kc7 wf_X9_226 g1 rfl rfl rfl ?_
        refine q_iload_n hE 1 (dlX9_book_0.at 24 rfl) rfl rfl ?_
        refine q_iload_n hE 2 (dlX9_book_0.at 25 rfl) rfl rfl ?_
        refine q_iconst hE (dlX9_book_0.at 26 rfl) ic_0 ?_
        refine q_callVN_i (X := fun z => WG V z o) hE (As := [_, _, _]) (dlX9_book_0.at 27 rfl) mw_X6_put wm_X9_196 rfl rfl rfl rfl (Nat.zero_le _) (Nat.zero_le _) rfl kc6 g13 rfl (ok_X6_put hfx) hm (fun v6 h6 hm => ?_)
        exact q_iret (X := fun z => WG V z o) hE (dlX9_book_0.at 28 rfl) hm hQ rfl
set_option maxRecDepth 10000 in
theorem okL_X9_looked_2 {V : Ev} {l : Launch} {o : PH} {F : Nat}  (hfx : V.2.2.2.2 = false) {E : Cx} (hE : CX E V l cX9_looked RX9 2 2 0 0 (some .int)) {r : Int32 × PH} (hQ : RQ E V 143 (WG V r.2 o) (some (.int r.1)) 0 0) : ∀ (n : Nat) (x1 : Int32) (h : PH), fL_X9_looked_2 F n x1 h = some r → PW E V 0 0 143 (WG V h o) 2 [(0, rf V 0), (1, .int x1)] [] := by
  intro n
  induction n with
  | zero => intro x1 h hm; cases hm
  | succ n ih =>
    intro x1 h hm
    rw [fL_X9_looked_2] at hm
    refine q_iload_n hE 1 (dlX9_looked_0.at 2 rfl) rfl rfl ?_
    refine q_aload_n hE 0 (dlX9_looked_0.at 3 rfl) rfl rfl ?_
    refine q_get hE (dlX9_looked_0.at 4 rfl) kc9 wf_X9_12 g0 rfl rfl rfl ?_
    refine q_getN hE (dlX9_looked_0.at 5 rfl) kc7 wf_X9_226 g1 rfl rfl rfl ?_
    refine q_getN hE (dlX9_looked_0.at 6 rfl) kc6 wf_X9_229 g13 rfl rfl rfl ?_
    refine q_icmp_ge hE (tgt := 62) (dlX9_looked_0.at 7 rfl) (by decide) hm (fun hc1 hm => ?_) (fun hc1 hm => ?_)
    · refine q_bipush hE (dlX9_looked_0.at 30 rfl) bc_m5 ?_
      exact q_iret (X := fun z => WG V z o) hE (dlX9_looked_0.at 31 rfl) hm hQ rfl
    · refine q_aload_n hE 0 (dlX9_looked_0.at 8 rfl) rfl rfl ?_
      refine q_get hE (dlX9_looked_0.at 9 rfl) kc9 wf_X9_12 g0 rfl rfl rfl ?_
      refine q_getN hE (dlX9_looked_0.at 10 rfl) kc7 wf_X9_77 g1 rfl rfl rfl ?_
      refine q_getN hE (dlX9_looked_0.at 11 rfl) kc3 wf_X9_104 g6 rfl rfl rfl ?_
      refine q_aload_n hE 0 (dlX9_looked_0.at 12 rfl) rfl rfl ?_
      refine q_get hE (dlX9_looked_0.at 13 rfl) kc9 wf_X9_12 g0 rfl rfl rfl ?_
      refine q_getN hE (dlX9_looked_0.at 14 rfl) kc7 wf_X9_226 g1 rfl rfl rfl ?_
      refine q_iload_n hE 1 (dlX9_looked_0.at 15 rfl) rfl rfl ?_
      refine q_iconst hE (dlX9_looked_0.at 16 rfl) ic_0 ?_
      refine q_callVN_i (X := fun z => WG V z o) hE (As := [_, _]) (dlX9_looked_0.at 17 rfl) mw_X6_cell wm_X9_232 rfl rfl rfl rfl (Nat.zero_le _) (Nat.zero_le _) rfl kc6 g13 rfl (ok_X6_cell hfx) hm (fun v2 h2 hm => ?_)
      refine q_iald hE (dlX9_looked_0.at 18 rfl) g7 rfl hm (fun hm => ?_)
      refine q_aload_n hE 0 (dlX9_looked_0.at 19 rfl) rfl rfl ?_
      refine q_get hE (dlX9_looked_0.at 20 rfl) kc9 wf_X9_12 g0 rfl rfl rfl ?_
      refine q_getN hE (dlX9_looked_0.at 21 rfl) kc7 wf_X9_226 g1 rfl rfl rfl ?_
      refine q_iload_n hE 1 (dlX9_looked_0.at 22 rfl) rfl rfl ?_
      refine q_iconst hE (dlX9_looked_0.at 23 rfl) ic_1 ?_
      refine q_callVN_i (X := fun z => WG V z o) hE (As := [_, _]) (dlX9_looked_0.at 24 rfl) mw_X6_cell wm_X9_232 rfl rfl rfl rfl (Nat.zero_le _) (Nat.zero_le _) rfl kc6 g13 rfl (ok_X6_cell hfx) hm (fun v3 h3 hm => ?_)
      refine q_icmp_eq hE (tgt := 56) (dlX9_looked_0.at 25 rfl) (by decide) hm (fun hc4 hm => ?_) (fun hc4 hm => ?_)
      · refine q_iinc hE [(0, _), (1, _)] 1 (dlX9_looked_0.at 28 rfl) rfl ic_1 rfl rfl ?_
        refine q_goto hE (tgt := 2) (dlX9_looked_0.at 29 rfl) (by decide) ?_
        refine q_sub hE [0, 1] rfl ?_
        exact ih _ _  hm
      · refine q_iload_n hE 1 (dlX9_looked_0.at 26 rfl) rfl rfl ?_
        exact q_iret (X := fun z => WG V z o) hE (dlX9_looked_0.at 27 rfl) hm hQ rfl
set_option maxRecDepth 10000 in
theorem ok_X9_looked {V : Ev} {l : Launch} {o : PH} {F : Nat}  (hfx : V.2.2.2.2 = false)  {h : PH} : ∀ (v : Int32) (h' : PH), f_X9_looked F  h = some (v, h') → Ctr l V yX9_looked cX9_looked 2 (some .int) 2 [rf V 0] 143 (WG V h o) 143 (WG V (h') o) (some (.int v)) 0 0 := by
  intro v h' hm
  refine Ctr.intro RX9 (by decide +kernel) rfl rfl rfl ?_
  intro E hE hQ _
  unfold f_X9_looked at hm
  refine q_iconst hE (dlX9_looked_0.at 0 rfl) ic_0 ?_
  refine q_istore_n hE [(0, _), (1, _)] (dlX9_looked_0.at 1 rfl) rfl rfl rfl ?_
  refine q_sub hE [0, 1] rfl ?_
  exact okL_X9_looked_2 hfx hE hQ  F _ _  hm
set_option maxRecDepth 10000 in
theorem ok_X8_has {V : Ev} {l : Launch} {o : PH} {F : Nat}  (hfx : V.2.2.2.2 = false) {t : Nat} {a1 : Int32} {h : PH} : ∀ (v : Int32) (h' : PH), f_X8_has F t a1 h = some (v, h') → Ctr l V yX8_has cX8_has 2 (some .boolean) 1 [rf V t, .int a1] 143 (WG V h o) 143 (WG V (h') o) (some (.int v)) 0 0 := by
  intro v h' hm
  refine Ctr.intro RX8 (by decide +kernel) rfl rfl rfl ?_
  intro E hE hQ _
  unfold f_X8_has at hm
  obtain ⟨ht, hm⟩ := g_if hm
  refine q_iload_n hE 1 (dlX8_has_0.at 0 rfl) rfl rfl ?_
  refine q_if_lt hE (tgt := 16) (dlX8_has_0.at 1 rfl) (by decide) hm (fun hc1 hm => ?_) (fun hc1 hm => ?_)
  · refine q_iconst hE (dlX8_has_0.at 8 rfl) ic_0 ?_
    exact q_bret (X := fun z => WG V z o) hE (dlX8_has_0.at 9 rfl) hm hQ rfl (by decide)
  · refine q_iload_n hE 1 (dlX8_has_0.at 2 rfl) rfl rfl ?_
    refine q_aload_n hE 0 (dlX8_has_0.at 3 rfl) rfl rfl ?_
    refine q_get hE (dlX8_has_0.at 4 rfl) kc8 wf_X8_13 (g_Tape ht) rfl (b_Tape ht) rfl ?_
    refine q_icmp_ge hE (tgt := 16) (dlX8_has_0.at 5 rfl) (by decide) hm (fun hc2 hm => ?_) (fun hc2 hm => ?_)
    · refine q_iconst hE (dlX8_has_0.at 8 rfl) ic_0 ?_
      exact q_bret (X := fun z => WG V z o) hE (dlX8_has_0.at 9 rfl) hm hQ rfl (by decide)
    · refine q_iconst hE (dlX8_has_0.at 6 rfl) ic_1 ?_
      refine q_goto hE (tgt := 17) (dlX8_has_0.at 7 rfl) (by decide) ?_
      exact q_bret (X := fun z => WG V z o) hE (dlX8_has_0.at 9 rfl) hm hQ rfl (by decide)
set_option maxRecDepth 10000 in
theorem ok_X9_isTape {V : Ev} {l : Launch} {o : PH} {F : Nat}  (hfx : V.2.2.2.2 = false) {a0 : Int32} {h : PH} : ∀ (v : Int32) (h' : PH), f_X9_isTape F a0 h = some (v, h') → Ctr l V yX9_isTape cX9_isTape 1 (some .boolean) 1 [.int a0] 143 (WG V h o) 143 (WG V (h') o) (some (.int v)) 0 0 := by
  intro v h' hm
  refine Ctr.intro RX9 (by decide +kernel) rfl rfl rfl ?_
  intro E hE hQ _
  unfold f_X9_isTape at hm
  refine q_iload_n hE 0 (dlX9_isTape_0.at 0 rfl) rfl rfl ?_
  refine q_if_lt hE (tgt := 14) (dlX9_isTape_0.at 1 rfl) (by decide) hm (fun hc1 hm => ?_) (fun hc1 hm => ?_)
  · refine q_iconst hE (dlX9_isTape_0.at 7 rfl) ic_0 ?_
    exact q_bret (X := fun z => WG V z o) hE (dlX9_isTape_0.at 8 rfl) hm hQ rfl (by decide)
  · refine q_iload_n hE 0 (dlX9_isTape_0.at 2 rfl) rfl rfl ?_
    refine q_bipush hE (dlX9_isTape_0.at 3 rfl) bc_6 ?_
    refine q_icmp_ge hE (tgt := 14) (dlX9_isTape_0.at 4 rfl) (by decide) hm (fun hc2 hm => ?_) (fun hc2 hm => ?_)
    · refine q_iconst hE (dlX9_isTape_0.at 7 rfl) ic_0 ?_
      exact q_bret (X := fun z => WG V z o) hE (dlX9_isTape_0.at 8 rfl) hm hQ rfl (by decide)
    · refine q_iconst hE (dlX9_isTape_0.at 5 rfl) ic_1 ?_
      refine q_goto hE (tgt := 15) (dlX9_isTape_0.at 6 rfl) (by decide) ?_
      exact q_bret (X := fun z => WG V z o) hE (dlX9_isTape_0.at 8 rfl) hm hQ rfl (by decide)
set_option maxRecDepth 10000 in
theorem okL_X9_judge_41 {V : Ev} {l : Launch} {o : PH} {F : Nat}  (hfx : V.2.2.2.2 = false) {E : Cx} (hE : CX E V l cX9_judge RX9 6 2 0 0 (some .int)) {r : Int32 × PH} (hQ : RQ E V 143 (WG V r.2 o) (some (.int r.1)) 0 0) : ∀ (n : Nat) (x3 : Nat) (x4 : Int32) (x5 : Int32) (h : PH), isTape x3 = true → fL_X9_judge_41 F n x3 x4 x5 h = some r → PW E V 0 0 143 (WG V h o) 41 [(0, rf V 0), (3, rf V x3), (4, .int x4), (5, .int x5)] [] := by
  intro n
  induction n with
  | zero => intro x3 x4 x5 h hx3 hm; cases hm
  | succ n ih =>
    intro x3 x4 x5 h hx3 hm
    rw [fL_X9_judge_41] at hm
    refine q_iload hE 3 (dlX9_judge_0.at 24 rfl) rfl ?_
    refine q_aload_n hE 0 (dlX9_judge_0.at 25 rfl) rfl rfl ?_
    refine q_get hE (dlX9_judge_0.at 26 rfl) kc9 wf_X9_12 g0 rfl rfl rfl ?_
    refine q_getN hE (dlX9_judge_0.at 27 rfl) kc7 wf_X9_86 g1 rfl rfl rfl ?_
    refine q_icmp_ge hE (tgt := 105) (dlX9_judge_0.at 28 rfl) (by decide) hm (fun hc5 hm => ?_) (fun hc5 hm => ?_)
    · refine q_bipush hE (dlX9_judge_1.at 15 rfl) bc_m5 ?_
      exact q_iret (X := fun z => WG V z o) hE (dlX9_judge_1.at 16 rfl) hm hQ rfl
    · refine q_aload_n hE 1 (dlX9_judge_0.at 29 rfl) rfl rfl ?_
      refine q_iload hE 2 (dlX9_judge_0.at 30 rfl) rfl ?_
      refine q_callVN_i (X := fun z => WG V z o) hE (As := [_]) (dlX9_judge_0.at 31 rfl) mw_X8_has wm_X9_241 rfl rfl rfl rfl (Nat.zero_le _) (Nat.zero_le _) rfl kc8 (g_Tape hx3) (b_Tape hx3) (ok_X8_has hfx) hm (fun v6 h6 hm => ?_)
      refine q_if_ne hE (tgt := 68) (dlX9_judge_0.at 32 rfl) (by decide) hm (fun hc7 hm => ?_) (fun hc7 hm => ?_)
      · refine q_bipush hE (dlX9_judge_0.at 33 rfl) bc_100 ?_
        refine q_iload hE 3 (dlX9_judge_0.at 34 rfl) rfl ?_
        refine q_iadd hE (dlX9_judge_0.at 35 rfl) ?_
        exact q_iret (X := fun z => WG V z o) hE (dlX9_judge_0.at 36 rfl) hm hQ rfl
      · refine q_aload_n hE 1 (dlX9_judge_0.at 37 rfl) rfl rfl ?_
        refine q_getN hE (dlX9_judge_0.at 38 rfl) kc8 wf_X9_244 (g_Tape hx3) rfl (b_Tape hx3) rfl ?_
        refine q_iload hE 2 (dlX9_judge_0.at 39 rfl) rfl ?_
        refine q_lald hE (dlX9_judge_1.at 0 rfl) (g_Tape_items hx3) (b_Tape_items hx3) hm (fun hm => ?_)
        refine q_aload_n hE 0 (dlX9_judge_1.at 1 rfl) rfl rfl ?_
        refine q_get hE (dlX9_judge_1.at 2 rfl) kc9 wf_X9_12 g0 rfl rfl rfl ?_
        refine q_getN hE (dlX9_judge_1.at 3 rfl) kc7 wf_X9_77 g1 rfl rfl rfl ?_
        refine q_getN hE (dlX9_judge_1.at 4 rfl) kc3 wf_X9_104 g6 rfl rfl rfl ?_
        refine q_iload hE 3 (dlX9_judge_1.at 5 rfl) rfl ?_
        refine q_iald hE (dlX9_judge_1.at 6 rfl) g7 rfl hm (fun hm => ?_)
        refine q_i2l hE (dlX9_judge_1.at 7 rfl) ?_
        refine q_lcmp hE (dlX9_judge_1.at 8 rfl) ?_
        refine q_if_eq hE (tgt := 96) (dlX9_judge_1.at 9 rfl) (by decide) hm (fun hc8 hm => ?_) (fun hc8 hm => ?_)
        · refine q_iinc hE [(0, _), (3, _), (4, _), (5, _)] 2 (dlX9_judge_1.at 12 rfl) rfl ic_1 rfl rfl ?_
          refine q_iinc hE [(0, _), (3, _), (4, _), (5, _)] 3 (dlX9_judge_1.at 13 rfl) rfl ic_1 rfl rfl ?_
          refine q_goto hE (tgt := 41) (dlX9_judge_1.at 14 rfl) (by decide) ?_
          refine q_sub hE [0, 1, 2, 3] rfl ?_
          exact ih _ _ _ _ hx3 hm
        · refine q_iload hE 3 (dlX9_judge_1.at 10 rfl) rfl ?_
          exact q_iret (X := fun z => WG V z o) hE (dlX9_judge_1.at 11 rfl) hm hQ rfl
set_option maxRecDepth 10000 in
theorem ok_X9_judge {V : Ev} {l : Launch} {o : PH} {F : Nat}  (hfx : V.2.2.2.2 = false) {a1 : Int32} {a2 : Int32} {h : PH} : ∀ (v : Int32) (h' : PH), f_X9_judge F a1 a2 h = some (v, h') → Ctr l V yX9_judge cX9_judge 6 (some .int) 2 [rf V 0, .int a1, .int a2] 143 (WG V h o) 143 (WG V (h') o) (some (.int v)) 0 0 := by
  intro v h' hm
  refine Ctr.intro RX9 (by decide +kernel) rfl rfl rfl ?_
  intro E hE hQ _
  unfold f_X9_judge at hm
  refine q_iload_n hE 1 (dlX9_judge_0.at 0 rfl) rfl rfl ?_
  refine q_callS_i (X := fun z => WG V z o) hE (As := [_]) (dlX9_judge_0.at 1 rfl) mw_X9_isTape wm_X9_235 rfl rfl rfl rfl (Nat.zero_le _) (Nat.zero_le _) rfl (ok_X9_isTape hfx) hm (fun v1 h1 hm => ?_)
  refine q_if_ne hE (tgt := 9) (dlX9_judge_0.at 2 rfl) (by decide) hm (fun hc2 hm => ?_) (fun hc2 hm => ?_)
  · refine q_iconst hE (dlX9_judge_0.at 3 rfl) ic_m1 ?_
    exact q_iret (X := fun z => WG V z o) hE (dlX9_judge_0.at 4 rfl) hm hQ rfl
  · refine q_aload_n hE 0 (dlX9_judge_0.at 5 rfl) rfl rfl ?_
    refine q_get hE (dlX9_judge_0.at 6 rfl) kc9 wf_X9_67 g0 rfl rfl rfl ?_
    refine q_iload_n hE 1 (dlX9_judge_0.at 7 rfl) rfl rfl ?_
    refine q_aald hE 6 (dlX9_judge_0.at 8 rfl) g65 rfl (fun _ => rfl) rfl hm (fun hi3 hm => ?_)
    refine q_astore_n hE [(0, _), (1, _), (2, _), (3, _)] (dlX9_judge_0.at 9 rfl) rfl rfl rfl ?_
    refine q_aload_n hE 3 (dlX9_judge_0.at 10 rfl) rfl rfl ?_
    refine q_getN hE (dlX9_judge_0.at 11 rfl) kc8 wf_X9_238 (g_Tape (ra_Tape hi3)) rfl (b_Tape (ra_Tape hi3)) rfl ?_
    refine q_iconst hE (dlX9_judge_0.at 12 rfl) ic_1 ?_
    refine q_icmp_eq hE (tgt := 35) (dlX9_judge_0.at 13 rfl) (by decide) hm (fun hc4 hm => ?_) (fun hc4 hm => ?_)
    · refine q_iload_n hE 2 (dlX9_judge_0.at 20 rfl) rfl rfl ?_
      refine q_istore hE [(0, _), (1, _), (2, _), (3, _), (4, _)] (dlX9_judge_0.at 21 rfl) rfl rfl ?_
      refine q_iconst hE (dlX9_judge_0.at 22 rfl) ic_0 ?_
      refine q_istore hE [(0, _), (1, _), (2, _), (3, _), (4, _), (5, _)] (dlX9_judge_0.at 23 rfl) rfl rfl ?_
      refine q_sub hE [0, 3, 4, 5] rfl ?_
      exact okL_X9_judge_41 hfx hE hQ  F _ _ _ _ (ra_Tape hi3) hm
    · refine q_aload_n hE 3 (dlX9_judge_0.at 14 rfl) rfl rfl ?_
      refine q_getN hE (dlX9_judge_0.at 15 rfl) kc8 wf_X9_238 (g_Tape (ra_Tape hi3)) rfl (b_Tape (ra_Tape hi3)) rfl ?_
      refine q_iconst hE (dlX9_judge_0.at 16 rfl) ic_m1 ?_
      refine q_icmp_eq hE (tgt := 35) (dlX9_judge_0.at 17 rfl) (by decide) hm (fun hc9 hm => ?_) (fun hc9 hm => ?_)
      · refine q_iload_n hE 2 (dlX9_judge_0.at 20 rfl) rfl rfl ?_
        refine q_istore hE [(0, _), (1, _), (2, _), (3, _), (4, _)] (dlX9_judge_0.at 21 rfl) rfl rfl ?_
        refine q_iconst hE (dlX9_judge_0.at 22 rfl) ic_0 ?_
        refine q_istore hE [(0, _), (1, _), (2, _), (3, _), (4, _), (5, _)] (dlX9_judge_0.at 23 rfl) rfl rfl ?_
        refine q_sub hE [0, 3, 4, 5] rfl ?_
        exact okL_X9_judge_41 hfx hE hQ  F _ _ _ _ (ra_Tape hi3) hm
      · refine q_bipush hE (dlX9_judge_0.at 18 rfl) bc_m12 ?_
        exact q_iret (X := fun z => WG V z o) hE (dlX9_judge_0.at 19 rfl) hm hQ rfl
set_option maxRecDepth 10000 in
theorem ok_X6_copyFrom {V : Ev} {l : Launch} {o : PH} {F : Nat}  (hfx : V.2.2.2.2 = false) {t : Nat} {a1 : Nat} {h : PH} : ∀ (v : Unit) (h' : PH), f_X6_copyFrom F t a1 h = some (v, h') → Ctr l V yX6_copyFrom cX6_copyFrom 2 none 2 [rf V t, rf V a1] 143 (WG V h o) 143 (WG V (h') o) (none) 0 0 := by
  intro v h' hm
  refine Ctr.intro RX6 (by decide +kernel) rfl rfl rfl ?_
  intro E hE hQ _
  unfold f_X6_copyFrom at hm
  obtain ⟨ht, hm⟩ := g_if hm
  obtain ⟨hp1, hm⟩ := g_if hm
  refine q_aload_n hE 1 (dlX6_copyFrom_0.at 0 rfl) rfl rfl ?_
  refine q_get hE (dlX6_copyFrom_0.at 1 rfl) kc6 wf_X6_18 (g_Rows hp1) rfl (b_Rows hp1) rfl ?_
  refine q_iconst hE (dlX6_copyFrom_0.at 2 rfl) ic_0 ?_
  refine q_aload_n hE 0 (dlX6_copyFrom_0.at 3 rfl) rfl rfl ?_
  refine q_get hE (dlX6_copyFrom_0.at 4 rfl) kc6 wf_X6_18 (g_Rows ht) rfl (b_Rows ht) rfl ?_
  refine q_iconst hE (dlX6_copyFrom_0.at 5 rfl) ic_0 ?_
  refine q_aload_n hE 0 (dlX6_copyFrom_0.at 6 rfl) rfl rfl ?_
  refine q_get hE (dlX6_copyFrom_0.at 7 rfl) kc6 wf_X6_18 (g_Rows ht) rfl (b_Rows ht) rfl ?_
  refine q_alen hE 1 (dlX6_copyFrom_0.at 8 rfl) (g_Rows_cells ht) rfl rfl (b_Rows_cells ht) ?_
  refine q_copyi hE hfx (dlX6_copyFrom_0.at 9 rfl) wm_X6_22 w_copy (g_Rows_cells hp1) (g_Rows_cells ht) (b_Rows_cells hp1) (b_Rows_cells ht) rfl rfl (uf_Rows_cells ht) hm (fun hm => ?_)
  refine q_lth (X := fun z => WG V z o) hm (fun h1 hm => ?_)
  refine q_aload_n hE 0 (dlX6_copyFrom_0.at 10 rfl) rfl rfl ?_
  refine q_aload_n hE 1 (dlX6_copyFrom_0.at 11 rfl) rfl rfl ?_
  refine q_get hE (dlX6_copyFrom_0.at 12 rfl) kc6 wf_X6_9 (g_Rows hp1) rfl (b_Rows hp1) rfl ?_
  refine q_put hE hfx (dlX6_copyFrom_0.at 13 rfl) kc6 wf_X6_9 (g_Rows ht) rfl rfl rfl rfl (b_Rows ht) rfl (u_Rows_2 ht) ?_
  refine q_lth (X := fun z => WG V z o) hm (fun h2 hm => ?_)
  exact q_vret (X := fun z => WG V z o) hE (dlX6_copyFrom_0.at 14 rfl) hm hQ rfl
set_option maxRecDepth 10000 in
theorem ok_X7_copyFrom {V : Ev} {l : Launch} {o : PH} {F : Nat}  (hfx : V.2.2.2.2 = false) {t : Nat} {a1 : Nat} {h : PH} : ∀ (v : Unit) (h' : PH), f_X7_copyFrom F t a1 h = some (v, h') → Ctr l V yX7_copyFrom cX7_copyFrom 2 none 3 [rf V t, rf V a1] 143 (WG V h o) 143 (WG V (h') o) (none) 0 0 := by
  intro v h' hm
  refine Ctr.intro RX7 (by decide +kernel) rfl rfl rfl ?_
  intro E hE hQ _
  unfold f_X7_copyFrom at hm
  obtain ⟨ht, hm⟩ := g_if hm
  obtain ⟨hp1, hm⟩ := g_if hm
  refine q_aload_n hE 0 (dlX7_copyFrom_0.at 0 rfl) rfl rfl ?_
  refine q_aload_n hE 1 (dlX7_copyFrom_0.at 1 rfl) rfl rfl ?_
  refine q_get hE (dlX7_copyFrom_0.at 2 rfl) kc7 wf_X7_11 (g_Shop hp1) rfl (b_Shop hp1) rfl ?_
  refine q_put hE hfx (dlX7_copyFrom_0.at 3 rfl) kc7 wf_X7_11 (g_Shop ht) rfl rfl rfl rfl (b_Shop ht) rfl (u_Shop_0 ht) ?_
  refine q_lth (X := fun z => WG V z o) hm (fun h1 hm => ?_)
  refine q_aload_n hE 1 (dlX7_copyFrom_0.at 4 rfl) rfl rfl ?_
  refine q_get hE (dlX7_copyFrom_0.at 5 rfl) kc7 wf_X7_15 (g_Shop hp1) rfl (b_Shop hp1) rfl ?_
  refine q_iconst hE (dlX7_copyFrom_0.at 6 rfl) ic_0 ?_
  refine q_aload_n hE 0 (dlX7_copyFrom_0.at 7 rfl) rfl rfl ?_
  refine q_get hE (dlX7_copyFrom_0.at 8 rfl) kc7 wf_X7_15 (g_Shop ht) rfl (b_Shop ht) rfl ?_
  refine q_iconst hE (dlX7_copyFrom_0.at 9 rfl) ic_0 ?_
  refine q_bipush hE (dlX7_copyFrom_0.at 10 rfl) bc_6 ?_
  refine q_copyi hE hfx (dlX7_copyFrom_0.at 11 rfl) wm_X7_57 w_copy (g_Shop_kinds hp1) (g_Shop_kinds ht) (b_Shop_kinds hp1) (b_Shop_kinds ht) rfl rfl (uf_Shop_kinds ht) hm (fun hm => ?_)
  refine q_lth (X := fun z => WG V z o) hm (fun h2 hm => ?_)
  refine q_aload_n hE 1 (dlX7_copyFrom_0.at 12 rfl) rfl rfl ?_
  refine q_get hE (dlX7_copyFrom_0.at 13 rfl) kc7 wf_X7_19 (g_Shop hp1) rfl (b_Shop hp1) rfl ?_
  refine q_iconst hE (dlX7_copyFrom_0.at 14 rfl) ic_0 ?_
  refine q_aload_n hE 0 (dlX7_copyFrom_0.at 15 rfl) rfl rfl ?_
  refine q_get hE (dlX7_copyFrom_0.at 16 rfl) kc7 wf_X7_19 (g_Shop ht) rfl (b_Shop ht) rfl ?_
  refine q_iconst hE (dlX7_copyFrom_0.at 17 rfl) ic_0 ?_
  refine q_bipush hE (dlX7_copyFrom_0.at 18 rfl) bc_6 ?_
  refine q_copyi hE hfx (dlX7_copyFrom_0.at 19 rfl) wm_X7_57 w_copy (g_Shop_values hp1) (g_Shop_values ht) (b_Shop_values hp1) (b_Shop_values ht) rfl rfl (uf_Shop_values ht) hm (fun hm => ?_)
  refine q_lth (X := fun z => WG V z o) hm (fun h3 hm => ?_)
  refine q_aload_n hE 1 (dlX7_copyFrom_0.at 20 rfl) rfl rfl ?_
  refine q_get hE (dlX7_copyFrom_0.at 21 rfl) kc7 wf_X7_22 (g_Shop hp1) rfl (b_Shop hp1) rfl ?_
  refine q_iconst hE (dlX7_copyFrom_0.at 22 rfl) ic_0 ?_
  refine q_aload_n hE 0 (dlX7_copyFrom_0.at 23 rfl) rfl rfl ?_
  refine q_get hE (dlX7_copyFrom_0.at 24 rfl) kc7 wf_X7_22 (g_Shop ht) rfl (b_Shop ht) rfl ?_
  refine q_iconst hE (dlX7_copyFrom_0.at 25 rfl) ic_0 ?_
  refine q_aload_n hE 0 (dlX7_copyFrom_0.at 26 rfl) rfl rfl ?_
  refine q_get hE (dlX7_copyFrom_0.at 27 rfl) kc7 wf_X7_22 (g_Shop ht) rfl (b_Shop ht) rfl ?_
  refine q_alen hE 1 (dlX7_copyFrom_0.at 28 rfl) (g_Shop_rows ht) rfl nc_24 (b_Shop_rows ht) ?_
  refine q_copyi hE hfx (dlX7_copyFrom_0.at 29 rfl) wm_X7_57 w_copy (g_Shop_rows hp1) (g_Shop_rows ht) (b_Shop_rows hp1) (b_Shop_rows ht) rfl rfl (uf_Shop_rows ht) hm (fun hm => ?_)
  refine q_lth (X := fun z => WG V z o) hm (fun h4 hm => ?_)
  refine q_aload_n hE 1 (dlX7_copyFrom_0.at 30 rfl) rfl rfl ?_
  refine q_get hE (dlX7_copyFrom_0.at 31 rfl) kc7 wf_X7_25 (g_Shop hp1) rfl (b_Shop hp1) rfl ?_
  refine q_iconst hE (dlX7_copyFrom_0.at 32 rfl) ic_0 ?_
  refine q_aload_n hE 0 (dlX7_copyFrom_0.at 33 rfl) rfl rfl ?_
  refine q_get hE (dlX7_copyFrom_0.at 34 rfl) kc7 wf_X7_25 (g_Shop ht) rfl (b_Shop ht) rfl ?_
  refine q_iconst hE (dlX7_copyFrom_0.at 35 rfl) ic_0 ?_
  refine q_aload_n hE 0 (dlX7_copyFrom_0.at 36 rfl) rfl rfl ?_
  refine q_get hE (dlX7_copyFrom_0.at 37 rfl) kc7 wf_X7_25 (g_Shop ht) rfl (b_Shop ht) rfl ?_
  refine q_alen hE 1 (dlX7_copyFrom_0.at 38 rfl) (g_Shop_sums ht) rfl nc_606 (b_Shop_sums ht) ?_
  refine q_copyi hE hfx (dlX7_copyFrom_0.at 39 rfl) wm_X7_57 w_copy (g_Shop_sums hp1) (g_Shop_sums ht) (b_Shop_sums hp1) (b_Shop_sums ht) rfl rfl (uf_Shop_sums ht) hm (fun hm => ?_)
  refine q_lth (X := fun z => WG V z o) hm (fun h5 hm => ?_)
  refine q_aload_n hE 0 (dlX7_copyFrom_1.at 0 rfl) rfl rfl ?_
  refine q_get hE (dlX7_copyFrom_1.at 1 rfl) kc7 wf_X7_31 (g_Shop ht) rfl (b_Shop ht) rfl ?_
  refine q_aload_n hE 1 (dlX7_copyFrom_1.at 2 rfl) rfl rfl ?_
  refine q_get hE (dlX7_copyFrom_1.at 3 rfl) kc7 wf_X7_31 (g_Shop hp1) rfl (b_Shop hp1) rfl ?_
  refine q_callVN_v (X := fun z => WG V z o) hE (As := [_]) (dlX7_copyFrom_1.at 4 rfl) mw_X3_copyFrom wm_X7_63 rfl rfl rfl rfl (Nat.zero_le _) (Nat.zero_le _) rfl kc3 (g_Course (s_Shop_now ht)) (b_Course (s_Shop_now ht)) (ok_X3_copyFrom hfx) hm (fun v6 h6 hm => ?_)
  refine q_aload_n hE 0 (dlX7_copyFrom_1.at 5 rfl) rfl rfl ?_
  refine q_get hE (dlX7_copyFrom_1.at 6 rfl) kc7 wf_X7_40 (g_Shop ht) rfl (b_Shop ht) rfl ?_
  refine q_aload_n hE 1 (dlX7_copyFrom_1.at 7 rfl) rfl rfl ?_
  refine q_get hE (dlX7_copyFrom_1.at 8 rfl) kc7 wf_X7_40 (g_Shop hp1) rfl (b_Shop hp1) rfl ?_
  refine q_callVN_v (X := fun z => WG V z o) hE (As := [_]) (dlX7_copyFrom_1.at 9 rfl) mw_X6_copyFrom wm_X7_67 rfl rfl rfl rfl (Nat.zero_le _) (Nat.zero_le _) rfl kc6 (g_Rows (s_Shop_seen ht)) (b_Rows (s_Shop_seen ht)) (ok_X6_copyFrom hfx) hm (fun v7 h7 hm => ?_)
  refine q_aload_n hE 0 (dlX7_copyFrom_1.at 10 rfl) rfl rfl ?_
  refine q_get hE (dlX7_copyFrom_1.at 11 rfl) kc7 wf_X7_44 (g_Shop ht) rfl (b_Shop ht) rfl ?_
  refine q_aload_n hE 1 (dlX7_copyFrom_1.at 12 rfl) rfl rfl ?_
  refine q_get hE (dlX7_copyFrom_1.at 13 rfl) kc7 wf_X7_44 (g_Shop hp1) rfl (b_Shop hp1) rfl ?_
  refine q_callVN_v (X := fun z => WG V z o) hE (As := [_]) (dlX7_copyFrom_1.at 14 rfl) mw_X6_copyFrom wm_X7_67 rfl rfl rfl rfl (Nat.zero_le _) (Nat.zero_le _) rfl kc6 (g_Rows (s_Shop_month ht)) (b_Rows (s_Shop_month ht)) (ok_X6_copyFrom hfx) hm (fun v8 h8 hm => ?_)
  refine q_aload_n hE 0 (dlX7_copyFrom_1.at 15 rfl) rfl rfl ?_
  refine q_get hE (dlX7_copyFrom_1.at 16 rfl) kc7 wf_X7_47 (g_Shop ht) rfl (b_Shop ht) rfl ?_
  refine q_aload_n hE 1 (dlX7_copyFrom_1.at 17 rfl) rfl rfl ?_
  refine q_get hE (dlX7_copyFrom_1.at 18 rfl) kc7 wf_X7_47 (g_Shop hp1) rfl (b_Shop hp1) rfl ?_
  refine q_callVN_v (X := fun z => WG V z o) hE (As := [_]) (dlX7_copyFrom_1.at 19 rfl) mw_X6_copyFrom wm_X7_67 rfl rfl rfl rfl (Nat.zero_le _) (Nat.zero_le _) rfl kc6 (g_Rows (s_Shop_book ht)) (b_Rows (s_Shop_book ht)) (ok_X6_copyFrom hfx) hm (fun v9 h9 hm => ?_)
  refine q_aload_n hE 0 (dlX7_copyFrom_1.at 20 rfl) rfl rfl ?_
  refine q_aload_n hE 1 (dlX7_copyFrom_1.at 21 rfl) rfl rfl ?_
  refine q_get hE (dlX7_copyFrom_1.at 22 rfl) kc7 wf_X7_53 (g_Shop hp1) rfl (b_Shop hp1) rfl ?_
  refine q_put hE hfx (dlX7_copyFrom_1.at 23 rfl) kc7 wf_X7_53 (g_Shop ht) rfl rfl (fits_rq _ _ _) rfl (b_Shop ht) rfl (u_Shop_10 ht) ?_
  refine q_lth (X := fun z => WG V z o) hm (fun h10 hm => ?_)
  exact q_vret (X := fun z => WG V z o) hE (dlX7_copyFrom_1.at 24 rfl) hm hQ rfl
set_option maxRecDepth 10000 in
theorem ok_X9_image {V : Ev} {l : Launch} {o : PH} {F : Nat}  (hfx : V.2.2.2.2 = false)  {h : PH} : ∀ (v : Int32) (h' : PH), f_X9_image F  h = some (v, h') → Ctr l V yX9_image cX9_image 1 (some .int) 4 [rf V 0] 143 (WG V h o) 143 (WG V (h') o) (some (.int v)) 0 0 := by
  intro v h' hm
  refine Ctr.intro RX9 (by decide +kernel) rfl rfl rfl ?_
  intro E hE hQ _
  unfold f_X9_image at hm
  refine q_aload_n hE 0 (dlX9_image_0.at 0 rfl) rfl rfl ?_
  refine q_get hE (dlX9_image_0.at 1 rfl) kc9 wf_X9_18 g0 rfl rfl rfl ?_
  refine q_aload_n hE 0 (dlX9_image_0.at 2 rfl) rfl rfl ?_
  refine q_get hE (dlX9_image_0.at 3 rfl) kc9 wf_X9_12 g0 rfl rfl rfl ?_
  refine q_callVN_v (X := fun z => WG V z o) hE (As := [_]) (dlX9_image_0.at 4 rfl) mw_X7_copyFrom wm_X9_248 rfl rfl rfl rfl (Nat.zero_le _) (Nat.zero_le _) rfl kc7 g16 rfl (ok_X7_copyFrom hfx) hm (fun v1 h1 hm => ?_)
  refine q_aload_n hE 0 (dlX9_image_0.at 5 rfl) rfl rfl ?_
  refine q_iconst hE (dlX9_image_0.at 6 rfl) ic_1 ?_
  refine q_put hE hfx (dlX9_image_0.at 7 rfl) kc9 wf_X9_21 g0 rfl (by decide) (by decide) rfl rfl rfl u0_2 ?_
  refine q_lth (X := fun z => WG V z o) hm (fun h2 hm => ?_)
  refine q_aload_n hE 0 (dlX9_image_0.at 8 rfl) rfl rfl ?_
  refine q_get hE (dlX9_image_0.at 9 rfl) kc9 wf_X9_12 g0 rfl rfl rfl ?_
  refine q_getN hE (dlX9_image_0.at 10 rfl) kc7 wf_X9_86 g1 rfl rfl rfl ?_
  exact q_iret (X := fun z => WG V z o) hE (dlX9_image_0.at 11 rfl) hm hQ rfl
set_option maxRecDepth 10000 in
theorem ok_X9_undo {V : Ev} {l : Launch} {o : PH} {F : Nat}  (hfx : V.2.2.2.2 = false)  {h : PH} : ∀ (v : Int32) (h' : PH), f_X9_undo F  h = some (v, h') → Ctr l V yX9_undo cX9_undo 1 (some .int) 4 [rf V 0] 143 (WG V h o) 143 (WG V (h') o) (some (.int v)) 0 0 := by
  intro v h' hm
  refine Ctr.intro RX9 (by decide +kernel) rfl rfl rfl ?_
  intro E hE hQ _
  unfold f_X9_undo at hm
  refine q_aload_n hE 0 (dlX9_undo_0.at 0 rfl) rfl rfl ?_
  refine q_get hE (dlX9_undo_0.at 1 rfl) kc9 wf_X9_21 g0 rfl rfl rfl ?_
  refine q_if_ne hE (tgt := 10) (dlX9_undo_0.at 2 rfl) (by decide) hm (fun hc1 hm => ?_) (fun hc1 hm => ?_)
  · refine q_bipush hE (dlX9_undo_0.at 3 rfl) bc_m3 ?_
    exact q_iret (X := fun z => WG V z o) hE (dlX9_undo_0.at 4 rfl) hm hQ rfl
  · refine q_aload_n hE 0 (dlX9_undo_0.at 5 rfl) rfl rfl ?_
    refine q_get hE (dlX9_undo_0.at 6 rfl) kc9 wf_X9_12 g0 rfl rfl rfl ?_
    refine q_aload_n hE 0 (dlX9_undo_0.at 7 rfl) rfl rfl ?_
    refine q_get hE (dlX9_undo_0.at 8 rfl) kc9 wf_X9_18 g0 rfl rfl rfl ?_
    refine q_callVN_v (X := fun z => WG V z o) hE (As := [_]) (dlX9_undo_0.at 9 rfl) mw_X7_copyFrom wm_X9_248 rfl rfl rfl rfl (Nat.zero_le _) (Nat.zero_le _) rfl kc7 g1 rfl (ok_X7_copyFrom hfx) hm (fun v2 h2 hm => ?_)
    refine q_aload_n hE 0 (dlX9_undo_0.at 10 rfl) rfl rfl ?_
    refine q_get hE (dlX9_undo_0.at 11 rfl) kc9 wf_X9_12 g0 rfl rfl rfl ?_
    refine q_getN hE (dlX9_undo_0.at 12 rfl) kc7 wf_X9_86 g1 rfl rfl rfl ?_
    exact q_iret (X := fun z => WG V z o) hE (dlX9_undo_0.at 13 rfl) hm hQ rfl
set_option maxRecDepth 10000 in
theorem okL_X0_bodyFrom_4 {V : Ev} {l : Launch} {o : PH} {F : Nat}  (hfx : V.2.2.2.2 = false) {E : Cx} (hE : CX E V l cX0_bodyFrom RX0 5 1 0 0 (some .int)) {r : Int32 × PH} (hQ : RQ E V 143 (WG V r.2 o) (some (.int r.1)) 0 0) : ∀ (n : Nat) (x1 : Int32) (x2 : Int32) (x3 : Int32) (h : PH), fL_X0_bodyFrom_4 F n x1 x2 x3 h = some r → PW E V 0 0 143 (WG V h o) 4 [(1, .int x1), (2, .int x2), (3, .int x3)] [] := by
  intro n
  induction n with
  | zero => intro x1 x2 x3 h hm; cases hm
  | succ n ih =>
    intro x1 x2 x3 h hm
    rw [fL_X0_bodyFrom_4] at hm
    refine q_iload_n hE 2 (dlX0_bodyFrom_0.at 4 rfl) rfl rfl ?_
    refine q_bipush hE (dlX0_bodyFrom_0.at 5 rfl) bc_7 ?_
    refine q_icmp_ge hE (tgt := 45) (dlX0_bodyFrom_0.at 6 rfl) (by decide) hm (fun hc1 hm => ?_) (fun hc1 hm => ?_)
    · refine q_iconst hE (dlX0_bodyFrom_0.at 27 rfl) ic_0 ?_
      exact q_iret (X := fun z => WG V z o) hE (dlX0_bodyFrom_0.at 28 rfl) hm hQ rfl
    · refine q_iload_n hE 1 (dlX0_bodyFrom_0.at 7 rfl) rfl rfl ?_
      refine q_if_lt hE (tgt := 45) (dlX0_bodyFrom_0.at 8 rfl) (by decide) hm (fun hc2 hm => ?_) (fun hc2 hm => ?_)
      · refine q_iconst hE (dlX0_bodyFrom_0.at 27 rfl) ic_0 ?_
        exact q_iret (X := fun z => WG V z o) hE (dlX0_bodyFrom_0.at 28 rfl) hm hQ rfl
      · refine q_gs_bodies hE (dlX0_bodyFrom_0.at 9 rfl) wf_X0_43 ?_
        refine q_iload_n hE 1 (dlX0_bodyFrom_0.at 10 rfl) rfl rfl ?_
        refine q_iconst hE (dlX0_bodyFrom_0.at 11 rfl) ic_3 ?_
        refine q_imul hE (dlX0_bodyFrom_0.at 12 rfl) ?_
        refine q_iload_n hE 0 (dlX0_bodyFrom_0.at 13 rfl) rfl rfl ?_
        refine q_iadd hE (dlX0_bodyFrom_0.at 14 rfl) ?_
        refine q_ld_bodies hE (dlX0_bodyFrom_0.at 15 rfl) hm (fun hm => ?_)
        refine q_istore hE [(1, _), (2, _), (3, _), (4, _)] (dlX0_bodyFrom_0.at 16 rfl) rfl rfl ?_
        refine q_iload hE 3 (dlX0_bodyFrom_0.at 17 rfl) rfl ?_
        refine q_if_eq hE (tgt := 33) (dlX0_bodyFrom_0.at 18 rfl) (by decide) hm (fun hc3 hm => ?_) (fun hc3 hm => ?_)
        · refine q_gsN_above hE (dlX0_bodyFrom_0.at 21 rfl) wf_X0_40 ?_
          refine q_iload_n hE 1 (dlX0_bodyFrom_0.at 22 rfl) rfl rfl ?_
          refine q_ld_above hE (dlX0_bodyFrom_0.at 23 rfl) hm (fun hm => ?_)
          refine q_istore_n hE [(1, _), (2, _), (3, _), (4, _)] (dlX0_bodyFrom_0.at 24 rfl) rfl rfl rfl ?_
          refine q_iinc hE [(1, _), (2, _), (3, _), (4, _)] 2 (dlX0_bodyFrom_0.at 25 rfl) rfl ic_1 rfl rfl ?_
          refine q_goto hE (tgt := 4) (dlX0_bodyFrom_0.at 26 rfl) (by decide) ?_
          refine q_sub hE [0, 1, 2] rfl ?_
          exact ih _ _ _ _  hm
        · refine q_iload hE 3 (dlX0_bodyFrom_0.at 19 rfl) rfl ?_
          exact q_iret (X := fun z => WG V z o) hE (dlX0_bodyFrom_0.at 20 rfl) hm hQ rfl
set_option maxRecDepth 10000 in
theorem ok_X0_bodyFrom {V : Ev} {l : Launch} {o : PH} {F : Nat}  (hfx : V.2.2.2.2 = false) {a0 : Int32} {a1 : Int32} {h : PH} : ∀ (v : Int32) (h' : PH), f_X0_bodyFrom F a0 a1 h = some (v, h') → Ctr l V yX0_bodyFrom cX0_bodyFrom 5 (some .int) 1 [.int a0, .int a1] 143 (WG V h o) 143 (WG V (h') o) (some (.int v)) 0 0 := by
  intro v h' hm
  refine Ctr.intro RX0 (by decide +kernel) rfl rfl rfl ?_
  intro E hE hQ _
  unfold f_X0_bodyFrom at hm
  refine q_iload_n hE 0 (dlX0_bodyFrom_0.at 0 rfl) rfl rfl ?_
  refine q_istore_n hE [(0, _), (1, _), (2, _)] (dlX0_bodyFrom_0.at 1 rfl) rfl rfl rfl ?_
  refine q_iconst hE (dlX0_bodyFrom_0.at 2 rfl) ic_0 ?_
  refine q_istore_n hE [(0, _), (1, _), (2, _), (3, _)] (dlX0_bodyFrom_0.at 3 rfl) rfl rfl rfl ?_
  refine q_sub hE [1, 2, 3] rfl ?_
  exact okL_X0_bodyFrom_4 hfx hE hQ  F _ _ _ _  hm
set_option maxRecDepth 10000 in
theorem ok_X0_note {V : Ev} {l : Launch} {o : PH} {F : Nat}  (hfx : V.2.2.2.2 = false) {a1 : Int32} {h : PH} : ∀ (v : Unit) (h' : PH), f_X0_note F a1 h = some (v, h') → Ctr l V yX0_note cX0_note 2 none 1 [rf V 63, .int a1] 143 (WG V h o) 143 (WG V (h') o) (none) 0 0 := by
  intro v h' hm
  refine Ctr.intro RX0 (by decide +kernel) rfl rfl rfl ?_
  intro E hE hQ _
  unfold f_X0_note at hm
  refine q_aload_n hE 0 (dlX0_note_0.at 0 rfl) rfl rfl ?_
  refine q_get hE (dlX0_note_0.at 1 rfl) kc0 wf_X0_15 g63 rfl rfl rfl ?_
  refine q_bipush hE (dlX0_note_0.at 2 rfl) bc_20 ?_
  refine q_icmp_ge hE (tgt := 19) (dlX0_note_0.at 3 rfl) (by decide) hm (fun hc1 hm => ?_) (fun hc1 hm => ?_)
  · refine q_aload_n hE 0 (dlX0_note_0.at 10 rfl) rfl rfl ?_
    refine q_dup hE (dlX0_note_0.at 11 rfl) rfl ?_
    refine q_get hE (dlX0_note_0.at 12 rfl) kc0 wf_X0_15 g63 rfl rfl rfl ?_
    refine q_iconst hE (dlX0_note_0.at 13 rfl) ic_1 ?_
    refine q_iadd hE (dlX0_note_0.at 14 rfl) ?_
    refine q_put hE hfx (dlX0_note_0.at 15 rfl) kc0 wf_X0_15 g63 rfl rfl rfl rfl rfl rfl u63_1 ?_
    refine q_lth (X := fun z => WG V z o) hm (fun h2 hm => ?_)
    exact q_vret (X := fun z => WG V z o) hE (dlX0_note_0.at 16 rfl) hm hQ rfl
  · refine q_aload_n hE 0 (dlX0_note_0.at 4 rfl) rfl rfl ?_
    refine q_get hE (dlX0_note_0.at 5 rfl) kc0 wf_X0_11 g63 rfl rfl rfl ?_
    refine q_aload_n hE 0 (dlX0_note_0.at 6 rfl) rfl rfl ?_
    refine q_get hE (dlX0_note_0.at 7 rfl) kc0 wf_X0_15 g63 rfl rfl rfl ?_
    refine q_iload_n hE 1 (dlX0_note_0.at 8 rfl) rfl rfl ?_
    refine q_iast hE hfx (dlX0_note_0.at 9 rfl) g64 rfl u64 hm (fun hm => ?_)
    refine q_lth (X := fun z => WG V z o) hm (fun h3 hm => ?_)
    refine q_aload_n hE 0 (dlX0_note_0.at 10 rfl) rfl rfl ?_
    refine q_dup hE (dlX0_note_0.at 11 rfl) rfl ?_
    refine q_get hE (dlX0_note_0.at 12 rfl) kc0 wf_X0_15 g63 rfl rfl rfl ?_
    refine q_iconst hE (dlX0_note_0.at 13 rfl) ic_1 ?_
    refine q_iadd hE (dlX0_note_0.at 14 rfl) ?_
    refine q_put hE hfx (dlX0_note_0.at 15 rfl) kc0 wf_X0_15 g63 rfl rfl rfl rfl rfl rfl u63_1 ?_
    refine q_lth (X := fun z => WG V z o) hm (fun h4 hm => ?_)
    exact q_vret (X := fun z => WG V z o) hE (dlX0_note_0.at 16 rfl) hm hQ rfl
set_option maxRecDepth 10000 in
theorem okb_X0_run {V : Ev} {l : Launch} {dd : Nat} (hdd : Nat.ble 2 dd = true) {o : PH} {F : Nat} {G : Int32 → Int32 → Int32 → Int32 → PH → Option (Int32 × PH)}  (hG : ∀ (a1 : Int32) (a2 : Int32) (a3 : Int32) (a4 : Int32) (h : PH) (v : Int32) (h' : PH), G a1 a2 a3 a4 h = some (v, h') → Ctr l V yX0_run cX0_run 8 (some .int) dd [rf V 63, .int a1, .int a2, .int a3, .int a4] 143 (WG V h o) 143 (WG V (h') o) (some (.int v)) 0 0) (hfx : V.2.2.2.2 = false) {a1 : Int32} {a2 : Int32} {a3 : Int32} {a4 : Int32} {h : PH} : ∀ (v : Int32) (h' : PH), b_X0_run F G a1 a2 a3 a4 h = some (v, h') → Ctr l V yX0_run cX0_run 8 (some .int) (dd + 1) [rf V 63, .int a1, .int a2, .int a3, .int a4] 143 (WG V h o) 143 (WG V (h') o) (some (.int v)) 0 0 := by
  intro v h' hm
  refine Ctr.intro RX0 (by decide +kernel) rfl rfl rfl ?_
  intro E hE hQ _
  unfold b_X0_run at hm
  refine q_iload_n hE 1 (dlX0_run_0.at 0 rfl) rfl rfl ?_
  refine q_iload_n hE 2 (dlX0_run_0.at 1 rfl) rfl rfl ?_
  refine q_callS_i (X := fun z => WG V z o) hE (As := [_, _]) (dlX0_run_0.at 2 rfl) mw_X0_bodyFrom wm_X0_32 (kr_c hdd rfl) rfl rfl rfl (Nat.zero_le _) (Nat.zero_le _) rfl (ok_X0_bodyFrom hfx) hm (fun v1 h1 hm => ?_)
  refine q_istore hE [(0, _), (1, _), (2, _), (3, _), (4, _), (5, _)] (dlX0_run_0.at 3 rfl) rfl rfl ?_
  refine q_iload hE 5 (dlX0_run_0.at 4 rfl) rfl ?_
  refine q_if_eq hE (tgt := 19) (dlX0_run_0.at 5 rfl) (by decide) hm (fun hc2 hm => ?_) (fun hc2 hm => ?_)
  · refine q_iconst hE (dlX0_run_0.at 9 rfl) ic_0 ?_
    exact q_iret (X := fun z => WG V z o) hE (dlX0_run_0.at 10 rfl) hm hQ rfl
  · refine q_iload hE 4 (dlX0_run_0.at 6 rfl) rfl ?_
    refine q_bipush hE (dlX0_run_0.at 7 rfl) bc_40 ?_
    refine q_icmp_lt hE (tgt := 21) (dlX0_run_0.at 8 rfl) (by decide) hm (fun hc3 hm => ?_) (fun hc3 hm => ?_)
    · refine q_aload_n hE 0 (dlX0_run_0.at 11 rfl) rfl rfl ?_
      refine q_iload hE 5 (dlX0_run_0.at 12 rfl) rfl ?_
      refine q_callV_v (X := fun z => WG V z o) hE (As := [_]) (dlX0_run_0.at 13 rfl) mw_X0_note wm_X0_36 (kr_c hdd rfl) rfl rfl rfl (Nat.zero_le _) (Nat.zero_le _) rfl kc0 g63 rfl (ok_X0_note hfx) hm (fun v4 h4 hm => ?_)
      refine q_gsN_above hE (dlX0_run_0.at 14 rfl) wf_X0_40 ?_
      refine q_iload hE 5 (dlX0_run_0.at 15 rfl) rfl ?_
      refine q_bipush hE (dlX0_run_0.at 16 rfl) bc_10 ?_
      refine q_idiv hE (dlX0_run_0.at 17 rfl) hm (fun hm => ?_)
      refine q_iconst hE (dlX0_run_0.at 18 rfl) ic_1 ?_
      refine q_isub hE (dlX0_run_0.at 19 rfl) ?_
      refine q_ld_above hE (dlX0_run_0.at 20 rfl) hm (fun hm => ?_)
      refine q_istore hE [(0, _), (1, _), (2, _), (3, _), (4, _), (5, _), (6, _)] (dlX0_run_0.at 21 rfl) rfl rfl ?_
      refine q_iload hE 4 (dlX0_run_0.at 22 rfl) rfl ?_
      refine q_iconst hE (dlX0_run_0.at 23 rfl) ic_1 ?_
      refine q_iadd hE (dlX0_run_0.at 24 rfl) ?_
      refine q_istore hE [(0, _), (1, _), (2, _), (3, _), (4, _), (5, _), (6, _), (7, _)] (dlX0_run_0.at 25 rfl) rfl rfl ?_
      refine q_iload hE 5 (dlX0_run_0.at 26 rfl) rfl ?_
      refine q_lcase hE (dlX0_run_0.at 27 rfl) (10 : Int32) 148 (by decide) hm (fun _ hm => ?_) (fun hn5_10 hm => ?_)
      · refine q_iload_n hE 3 (dlX0_run_0.at 28 rfl) rfl rfl ?_
        refine q_aload_n hE 0 (dlX0_run_0.at 29 rfl) rfl rfl ?_
        refine q_get hE (dlX0_run_0.at 30 rfl) kc0 wf_X0_19 g63 rfl rfl rfl ?_
        refine q_iadd hE (dlX0_run_0.at 31 rfl) ?_
        exact q_iret (X := fun z => WG V z o) hE (dlX0_run_0.at 32 rfl) hm hQ rfl
      · refine q_lcase hE (dlX0_run_0.at 27 rfl) (11 : Int32) 155 (by decide) hm (fun _ hm => ?_) (fun hn5_11 hm => ?_)
        · refine q_aload_n hE 0 (dlX0_run_0.at 33 rfl) rfl rfl ?_
          refine q_aload_n hE 0 (dlX0_run_0.at 34 rfl) rfl rfl ?_
          refine q_get hE (dlX0_run_0.at 35 rfl) kc0 wf_X0_22 g63 rfl rfl rfl ?_
          refine q_iconst hE (dlX0_run_0.at 36 rfl) ic_0 ?_
          refine q_iload_n hE 3 (dlX0_run_0.at 37 rfl) rfl rfl ?_
          refine q_iload hE 7 (dlX0_run_0.at 38 rfl) rfl ?_
          refine q_callV_i (X := fun z => WG V z o) hE (As := [_, _, _, _]) (dlX0_run_0.at 39 rfl) mw_X0_run wm_X0_28 (kr_s _) rfl rfl rfl (Nat.zero_le _) (Nat.zero_le _) rfl kc0 g63 rfl (hG _ _ _ _ _) hm (fun v6 h6 hm => ?_)
          refine q_aload_n hE 0 (dlX0_run_1.at 0 rfl) rfl rfl ?_
          refine q_get hE (dlX0_run_1.at 1 rfl) kc0 wf_X0_25 g63 rfl rfl rfl ?_
          refine q_isub hE (dlX0_run_1.at 2 rfl) ?_
          exact q_iret (X := fun z => WG V z o) hE (dlX0_run_1.at 3 rfl) hm hQ rfl
        · refine q_lcase hE (dlX0_run_0.at 27 rfl) (12 : Int32) 173 (by decide) hm (fun _ hm => ?_) (fun hn5_12 hm => ?_)
          · refine q_aload_n hE 0 (dlX0_run_1.at 4 rfl) rfl rfl ?_
            refine q_aload_n hE 0 (dlX0_run_1.at 5 rfl) rfl rfl ?_
            refine q_get hE (dlX0_run_1.at 6 rfl) kc0 wf_X0_22 g63 rfl rfl rfl ?_
            refine q_iconst hE (dlX0_run_1.at 7 rfl) ic_1 ?_
            refine q_iload_n hE 3 (dlX0_run_1.at 8 rfl) rfl rfl ?_
            refine q_iload hE 7 (dlX0_run_1.at 9 rfl) rfl ?_
            refine q_callV_i (X := fun z => WG V z o) hE (As := [_, _, _, _]) (dlX0_run_1.at 10 rfl) mw_X0_run wm_X0_28 (kr_s _) rfl rfl rfl (Nat.zero_le _) (Nat.zero_le _) rfl kc0 g63 rfl (hG _ _ _ _ _) hm (fun v7 h7 hm => ?_)
            refine q_iconst hE (dlX0_run_1.at 11 rfl) ic_2 ?_
            refine q_imul hE (dlX0_run_1.at 12 rfl) ?_
            exact q_iret (X := fun z => WG V z o) hE (dlX0_run_1.at 13 rfl) hm hQ rfl
          · refine q_lcase hE (dlX0_run_0.at 27 rfl) (20 : Int32) 188 (by decide) hm (fun _ hm => ?_) (fun hn5_20 hm => ?_)
            · refine q_aload_n hE 0 (dlX0_run_1.at 14 rfl) rfl rfl ?_
              refine q_iload hE 6 (dlX0_run_1.at 15 rfl) rfl ?_
              refine q_iconst hE (dlX0_run_1.at 16 rfl) ic_1 ?_
              refine q_iload_n hE 3 (dlX0_run_1.at 17 rfl) rfl rfl ?_
              refine q_iload hE 7 (dlX0_run_1.at 18 rfl) rfl ?_
              refine q_callV_i (X := fun z => WG V z o) hE (As := [_, _, _, _]) (dlX0_run_1.at 19 rfl) mw_X0_run wm_X0_28 (kr_s _) rfl rfl rfl (Nat.zero_le _) (Nat.zero_le _) rfl kc0 g63 rfl (hG _ _ _ _ _) hm (fun v8 h8 hm => ?_)
              refine q_bipush hE (dlX0_run_1.at 20 rfl) bc_6 ?_
              refine q_ixor hE (dlX0_run_1.at 21 rfl) ?_
              exact q_iret (X := fun z => WG V z o) hE (dlX0_run_1.at 22 rfl) hm hQ rfl
            · refine q_lcase hE (dlX0_run_0.at 27 rfl) (30 : Int32) 202 (by decide) hm (fun _ hm => ?_) (fun hn5_30 hm => ?_)
              · refine q_aload_n hE 0 (dlX0_run_1.at 23 rfl) rfl rfl ?_
                refine q_iload hE 6 (dlX0_run_1.at 24 rfl) rfl ?_
                refine q_iconst hE (dlX0_run_1.at 25 rfl) ic_0 ?_
                refine q_iload_n hE 3 (dlX0_run_1.at 26 rfl) rfl rfl ?_
                refine q_iconst hE (dlX0_run_1.at 27 rfl) ic_3 ?_
                refine q_imul hE (dlX0_run_1.at 28 rfl) ?_
                refine q_iload hE 7 (dlX0_run_1.at 29 rfl) rfl ?_
                refine q_callV_i (X := fun z => WG V z o) hE (As := [_, _, _, _]) (dlX0_run_1.at 30 rfl) mw_X0_run wm_X0_28 (kr_s _) rfl rfl rfl (Nat.zero_le _) (Nat.zero_le _) rfl kc0 g63 rfl (hG _ _ _ _ _) hm (fun v9 h9 hm => ?_)
                exact q_iret (X := fun z => WG V z o) hE (dlX0_run_1.at 31 rfl) hm hQ rfl
              · refine q_lcase hE (dlX0_run_0.at 27 rfl) (40 : Int32) 215 (by decide) hm (fun _ hm => ?_) (fun hn5_40 hm => ?_)
                · refine q_aload_n hE 0 (dlX0_run_1.at 32 rfl) rfl rfl ?_
                  refine q_iload hE 6 (dlX0_run_1.at 33 rfl) rfl ?_
                  refine q_iconst hE (dlX0_run_1.at 34 rfl) ic_2 ?_
                  refine q_iload_n hE 3 (dlX0_run_1.at 35 rfl) rfl rfl ?_
                  refine q_iload hE 7 (dlX0_run_1.at 36 rfl) rfl ?_
                  refine q_callV_i (X := fun z => WG V z o) hE (As := [_, _, _, _]) (dlX0_run_1.at 37 rfl) mw_X0_run wm_X0_28 (kr_s _) rfl rfl rfl (Nat.zero_le _) (Nat.zero_le _) rfl kc0 g63 rfl (hG _ _ _ _ _) hm (fun v10 h10 hm => ?_)
                  refine q_aload_n hE 0 (dlX0_run_1.at 38 rfl) rfl rfl ?_
                  refine q_aload_n hE 0 (dlX0_run_1.at 39 rfl) rfl rfl ?_
                  refine q_get hE (dlX0_run_2.at 0 rfl) kc0 wf_X0_22 g63 rfl rfl rfl ?_
                  refine q_iconst hE (dlX0_run_2.at 1 rfl) ic_1 ?_
                  refine q_iconst hE (dlX0_run_2.at 2 rfl) ic_1 ?_
                  refine q_iload hE 7 (dlX0_run_2.at 3 rfl) rfl ?_
                  refine q_callV_i (X := fun z => WG V z o) hE (As := [_, _, _, _]) (dlX0_run_2.at 4 rfl) mw_X0_run wm_X0_28 (kr_s _) rfl rfl rfl (Nat.zero_le _) (Nat.zero_le _) rfl kc0 g63 rfl (hG _ _ _ _ _) hm (fun v11 h11 hm => ?_)
                  refine q_iadd hE (dlX0_run_2.at 5 rfl) ?_
                  exact q_iret (X := fun z => WG V z o) hE (dlX0_run_2.at 6 rfl) hm hQ rfl
                · refine q_lcase hE (dlX0_run_0.at 27 rfl) (50 : Int32) 239 (by decide) hm (fun _ hm => ?_) (fun hn5_50 hm => ?_)
                  · refine q_aload_n hE 0 (dlX0_run_2.at 7 rfl) rfl rfl ?_
                    refine q_iload hE 6 (dlX0_run_2.at 8 rfl) rfl ?_
                    refine q_iconst hE (dlX0_run_2.at 9 rfl) ic_0 ?_
                    refine q_iload_n hE 3 (dlX0_run_2.at 10 rfl) rfl rfl ?_
                    refine q_iload hE 7 (dlX0_run_2.at 11 rfl) rfl ?_
                    refine q_callV_i (X := fun z => WG V z o) hE (As := [_, _, _, _]) (dlX0_run_2.at 12 rfl) mw_X0_run wm_X0_28 (kr_s _) rfl rfl rfl (Nat.zero_le _) (Nat.zero_le _) rfl kc0 g63 rfl (hG _ _ _ _ _) hm (fun v12 h12 hm => ?_)
                    refine q_ineg hE (dlX0_run_2.at 13 rfl) ?_
                    exact q_iret (X := fun z => WG V z o) hE (dlX0_run_2.at 14 rfl) hm hQ rfl
                  · refine q_lcase hE (dlX0_run_0.at 27 rfl) (51 : Int32) 251 (by decide) hm (fun _ hm => ?_) (fun hn5_51 hm => ?_)
                    · refine q_aload_n hE 0 (dlX0_run_2.at 15 rfl) rfl rfl ?_
                      refine q_iload hE 6 (dlX0_run_2.at 16 rfl) rfl ?_
                      refine q_iconst hE (dlX0_run_2.at 17 rfl) ic_1 ?_
                      refine q_iload_n hE 3 (dlX0_run_2.at 18 rfl) rfl rfl ?_
                      refine q_iconst hE (dlX0_run_2.at 19 rfl) ic_1 ?_
                      refine q_iadd hE (dlX0_run_2.at 20 rfl) ?_
                      refine q_iload hE 7 (dlX0_run_2.at 21 rfl) rfl ?_
                      refine q_callV_i (X := fun z => WG V z o) hE (As := [_, _, _, _]) (dlX0_run_2.at 22 rfl) mw_X0_run wm_X0_28 (kr_s _) rfl rfl rfl (Nat.zero_le _) (Nat.zero_le _) rfl kc0 g63 rfl (hG _ _ _ _ _) hm (fun v13 h13 hm => ?_)
                      exact q_iret (X := fun z => WG V z o) hE (dlX0_run_2.at 23 rfl) hm hQ rfl
                    · refine q_lcase hE (dlX0_run_0.at 27 rfl) (60 : Int32) 264 (by decide) hm (fun _ hm => ?_) (fun hn5_60 hm => ?_)
                      · refine q_aload_n hE 0 (dlX0_run_2.at 24 rfl) rfl rfl ?_
                        refine q_iload hE 6 (dlX0_run_2.at 25 rfl) rfl ?_
                        refine q_iconst hE (dlX0_run_2.at 26 rfl) ic_2 ?_
                        refine q_iload_n hE 3 (dlX0_run_2.at 27 rfl) rfl rfl ?_
                        refine q_aload_n hE 0 (dlX0_run_2.at 28 rfl) rfl rfl ?_
                        refine q_get hE (dlX0_run_2.at 29 rfl) kc0 wf_X0_19 g63 rfl rfl rfl ?_
                        refine q_isub hE (dlX0_run_2.at 30 rfl) ?_
                        refine q_iload hE 7 (dlX0_run_2.at 31 rfl) rfl ?_
                        refine q_callV_i (X := fun z => WG V z o) hE (As := [_, _, _, _]) (dlX0_run_2.at 32 rfl) mw_X0_run wm_X0_28 (kr_s _) rfl rfl rfl (Nat.zero_le _) (Nat.zero_le _) rfl kc0 g63 rfl (hG _ _ _ _ _) hm (fun v14 h14 hm => ?_)
                        exact q_iret (X := fun z => WG V z o) hE (dlX0_run_2.at 33 rfl) hm hQ rfl
                      · refine q_lcase hE (dlX0_run_0.at 27 rfl) (70 : Int32) 280 (by decide) hm (fun _ hm => ?_) (fun hn5_70 hm => ?_)
                        · refine q_aload_n hE 0 (dlX0_run_2.at 34 rfl) rfl rfl ?_
                          refine q_iload hE 6 (dlX0_run_2.at 35 rfl) rfl ?_
                          refine q_iconst hE (dlX0_run_2.at 36 rfl) ic_1 ?_
                          refine q_iload_n hE 3 (dlX0_run_2.at 37 rfl) rfl rfl ?_
                          refine q_iload hE 7 (dlX0_run_2.at 38 rfl) rfl ?_
                          refine q_callV_i (X := fun z => WG V z o) hE (As := [_, _, _, _]) (dlX0_run_2.at 39 rfl) mw_X0_run wm_X0_28 (kr_s _) rfl rfl rfl (Nat.zero_le _) (Nat.zero_le _) rfl kc0 g63 rfl (hG _ _ _ _ _) hm (fun v15 h15 hm => ?_)
                          refine q_aload_n hE 0 (dlX0_run_3.at 0 rfl) rfl rfl ?_
                          refine q_iload hE 6 (dlX0_run_3.at 1 rfl) rfl ?_
                          refine q_iconst hE (dlX0_run_3.at 2 rfl) ic_0 ?_
                          refine q_iconst hE (dlX0_run_3.at 3 rfl) ic_2 ?_
                          refine q_iload hE 7 (dlX0_run_3.at 4 rfl) rfl ?_
                          refine q_callV_i (X := fun z => WG V z o) hE (As := [_, _, _, _]) (dlX0_run_3.at 5 rfl) mw_X0_run wm_X0_28 (kr_s _) rfl rfl rfl (Nat.zero_le _) (Nat.zero_le _) rfl kc0 g63 rfl (hG _ _ _ _ _) hm (fun v16 h16 hm => ?_)
                          refine q_iadd hE (dlX0_run_3.at 6 rfl) ?_
                          exact q_iret (X := fun z => WG V z o) hE (dlX0_run_3.at 7 rfl) hm hQ rfl
                        · refine q_lcase hE (dlX0_run_0.at 27 rfl) (71 : Int32) 302 (by decide) hm (fun _ hm => ?_) (fun hn5_71 hm => ?_)
                          · refine q_aload_n hE 0 (dlX0_run_3.at 8 rfl) rfl rfl ?_
                            refine q_iload hE 6 (dlX0_run_3.at 9 rfl) rfl ?_
                            refine q_iconst hE (dlX0_run_3.at 10 rfl) ic_0 ?_
                            refine q_iload_n hE 3 (dlX0_run_3.at 11 rfl) rfl rfl ?_
                            refine q_iload hE 7 (dlX0_run_3.at 12 rfl) rfl ?_
                            refine q_callV_i (X := fun z => WG V z o) hE (As := [_, _, _, _]) (dlX0_run_3.at 13 rfl) mw_X0_run wm_X0_28 (kr_s _) rfl rfl rfl (Nat.zero_le _) (Nat.zero_le _) rfl kc0 g63 rfl (hG _ _ _ _ _) hm (fun v17 h17 hm => ?_)
                            refine q_aload_n hE 0 (dlX0_run_3.at 14 rfl) rfl rfl ?_
                            refine q_get hE (dlX0_run_3.at 15 rfl) kc0 wf_X0_25 g63 rfl rfl rfl ?_
                            refine q_ixor hE (dlX0_run_3.at 16 rfl) ?_
                            exact q_iret (X := fun z => WG V z o) hE (dlX0_run_3.at 17 rfl) hm hQ rfl
                          · refine q_ldef hE (tgt := 318) (dlX0_run_0.at 27 rfl) (by decide) (by rw [lv_osw hn5_10 (by decide)]; rw [lv_osw hn5_11 (by decide)]; rw [lv_osw hn5_12 (by decide)]; rw [lv_osw hn5_20 (by decide)]; rw [lv_osw hn5_30 (by decide)]; rw [lv_osw hn5_40 (by decide)]; rw [lv_osw hn5_50 (by decide)]; rw [lv_osw hn5_51 (by decide)]; rw [lv_osw hn5_60 (by decide)]; rw [lv_osw hn5_70 (by decide)]; rw [lv_osw hn5_71 (by decide)]; rfl) (by decide) ?_
                            refine q_iconst hE (dlX0_run_3.at 18 rfl) ic_0 ?_
                            exact q_iret (X := fun z => WG V z o) hE (dlX0_run_3.at 19 rfl) hm hQ rfl
    · refine q_iconst hE (dlX0_run_0.at 9 rfl) ic_0 ?_
      exact q_iret (X := fun z => WG V z o) hE (dlX0_run_0.at 10 rfl) hm hQ rfl
