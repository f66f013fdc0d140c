set_option maxRecDepth 10000 in
theorem ok_X10_isDigit {V : Ev} {l : Launch} {o : PH} {F : Nat}  (hfx : V.2.2.2.2 = false)  {h : PH} : ∀ (v : Int32) (h' : PH), f_X10_isDigit F  h = some (v, h') → Ctr l V yX10_isDigit cX10_isDigit 1 (some .boolean) 2 [rf V 102] 143 (WG V o h) 143 (WG V o (h')) (some (.int v)) 0 0 := by
  intro v h' hm
  refine Ctr.intro RX10 (by decide +kernel) rfl rfl rfl ?_
  intro E hE hQ _
  unfold f_X10_isDigit at hm
  refine q_aload_n hE 0 (dlX10_isDigit_0.at 0 rfl) rfl rfl ?_
  refine q_aload_n hE 0 (dlX10_isDigit_0.at 1 rfl) rfl rfl ?_
  refine q_callV_i (X := fun z => WG V o z) hE (As := []) (dlX10_isDigit_0.at 2 rfl) mw_X10_peek wm_X10_228 rfl rfl rfl rfl (Nat.zero_le _) (Nat.zero_le _) rfl kc10 g102 rfl (ok_X10_peek hfx) hm (fun v1 h1 hm => ?_)
  refine q_bipush hE (dlX10_isDigit_0.at 3 rfl) bc_48 ?_
  refine q_bipush hE (dlX10_isDigit_0.at 4 rfl) bc_57 ?_
  refine q_callV_i (X := fun z => WG V o z) hE (As := [_, _, _]) (dlX10_isDigit_0.at 5 rfl) mw_X10_in wm_X10_212 rfl rfl rfl rfl (Nat.zero_le _) (Nat.zero_le _) rfl kc10 g102 rfl (ok_X10_in hfx) hm (fun v2 h2 hm => ?_)
  exact q_bret (X := fun z => WG V o z) hE (dlX10_isDigit_0.at 6 rfl) hm hQ rfl rfl
set_option maxRecDepth 10000 in
theorem okL_X10_takesNumber_16 {V : Ev} {l : Launch} {o : PH} {F : Nat}  (hfx : V.2.2.2.2 = false) {E : Cx} (hE : CX E V l cX10_takesNumber RX10 2 3 0 0 (some .boolean)) {r : Int32 × PH} (hQ : RQ E V 143 (WG V o r.2) (some (.int r.1)) 0 0) : ∀ (n : Nat) (x1 : Int32) (h : PH), fL_X10_takesNumber_16 F n x1 h = some r → PW E V 0 0 143 (WG V o h) 16 [(0, rf V 102), (1, .int x1)] [] := by
  intro n
  induction n with
  | zero => intro x1 h hm; cases hm
  | succ n ih =>
    intro x1 h hm
    rw [fL_X10_takesNumber_16] at hm
    refine q_iload_n hE 1 (dlX10_takesNumber_0.at 10 rfl) rfl rfl ?_
    refine q_iconst hE (dlX10_takesNumber_0.at 11 rfl) ic_2 ?_
    refine q_icmp_ge hE (tgt := 63) (dlX10_takesNumber_0.at 12 rfl) (by decide) hm (fun hc4 hm => ?_) (fun hc4 hm => ?_)
    · refine q_iconst hE (dlX10_takesNumber_0.at 35 rfl) ic_1 ?_
      exact q_bret (X := fun z => WG V o z) hE (dlX10_takesNumber_0.at 36 rfl) hm hQ rfl (by decide)
    · refine q_aload_n hE 0 (dlX10_takesNumber_0.at 13 rfl) rfl rfl ?_
      refine q_callV_i (X := fun z => WG V o z) hE (As := []) (dlX10_takesNumber_0.at 14 rfl) mw_X10_isDigit wm_X10_235 rfl rfl rfl rfl (Nat.zero_le _) (Nat.zero_le _) rfl kc10 g102 rfl (ok_X10_isDigit hfx) hm (fun v5 h5 hm => ?_)
      refine q_if_eq hE (tgt := 63) (dlX10_takesNumber_0.at 15 rfl) (by decide) hm (fun hc6 hm => ?_) (fun hc6 hm => ?_)
      · refine q_iconst hE (dlX10_takesNumber_0.at 35 rfl) ic_1 ?_
        exact q_bret (X := fun z => WG V o z) hE (dlX10_takesNumber_0.at 36 rfl) hm hQ rfl (by decide)
      · refine q_aload_n hE 0 (dlX10_takesNumber_0.at 16 rfl) rfl rfl ?_
        refine q_bipush hE (dlX10_takesNumber_0.at 17 rfl) bc_10 ?_
        refine q_aload_n hE 0 (dlX10_takesNumber_0.at 18 rfl) rfl rfl ?_
        refine q_get hE (dlX10_takesNumber_0.at 19 rfl) kc10 wf_X10_44 g102 rfl rfl rfl ?_
        refine q_imul hE (dlX10_takesNumber_0.at 20 rfl) ?_
        refine q_aload_n hE 0 (dlX10_takesNumber_0.at 21 rfl) rfl rfl ?_
        refine q_callV_i (X := fun z => WG V o z) hE (As := []) (dlX10_takesNumber_0.at 22 rfl) mw_X10_peek wm_X10_228 rfl rfl rfl rfl (Nat.zero_le _) (Nat.zero_le _) rfl kc10 g102 rfl (ok_X10_peek hfx) hm (fun v7 h7 hm => ?_)
        refine q_iadd hE (dlX10_takesNumber_0.at 23 rfl) ?_
        refine q_bipush hE (dlX10_takesNumber_0.at 24 rfl) bc_48 ?_
        refine q_isub hE (dlX10_takesNumber_0.at 25 rfl) ?_
        refine q_put hE hfx (dlX10_takesNumber_0.at 26 rfl) kc10 wf_X10_44 g102 rfl rfl rfl rfl rfl rfl u102_11 ?_
        refine q_lth (X := fun z => WG V o z) hm (fun h8 hm => ?_)
        refine q_aload_n hE 0 (dlX10_takesNumber_0.at 27 rfl) rfl rfl ?_
        refine q_dup hE (dlX10_takesNumber_0.at 28 rfl) rfl ?_
        refine q_get hE (dlX10_takesNumber_0.at 29 rfl) kc10 wf_X10_41 g102 rfl rfl rfl ?_
        refine q_iconst hE (dlX10_takesNumber_0.at 30 rfl) ic_1 ?_
        refine q_iadd hE (dlX10_takesNumber_0.at 31 rfl) ?_
        refine q_put hE hfx (dlX10_takesNumber_0.at 32 rfl) kc10 wf_X10_41 g102 rfl rfl rfl rfl rfl rfl u102_10 ?_
        refine q_lth (X := fun z => WG V o z) hm (fun h9 hm => ?_)
        refine q_iinc hE [(0, _), (1, _)] 1 (dlX10_takesNumber_0.at 33 rfl) rfl ic_1 rfl rfl ?_
        refine q_goto hE (tgt := 16) (dlX10_takesNumber_0.at 34 rfl) (by decide) ?_
        refine q_sub hE [0, 1] rfl ?_
        exact ih _ _  hm
set_option maxRecDepth 10000 in
theorem ok_X10_takesNumber {V : Ev} {l : Launch} {o : PH} {F : Nat}  (hfx : V.2.2.2.2 = false)  {h : PH} : ∀ (v : Int32) (h' : PH), f_X10_takesNumber F  h = some (v, h') → Ctr l V yX10_takesNumber cX10_takesNumber 2 (some .boolean) 3 [rf V 102] 143 (WG V o h) 143 (WG V o (h')) (some (.int v)) 0 0 := by
  intro v h' hm
  refine Ctr.intro RX10 (by decide +kernel) rfl rfl rfl ?_
  intro E hE hQ _
  unfold f_X10_takesNumber at hm
  refine q_aload_n hE 0 (dlX10_takesNumber_0.at 0 rfl) rfl rfl ?_
  refine q_callV_i (X := fun z => WG V o z) hE (As := []) (dlX10_takesNumber_0.at 1 rfl) mw_X10_isDigit wm_X10_235 rfl rfl rfl rfl (Nat.zero_le _) (Nat.zero_le _) rfl kc10 g102 rfl (ok_X10_isDigit hfx) hm (fun v1 h1 hm => ?_)
  refine q_if_ne hE (tgt := 9) (dlX10_takesNumber_0.at 2 rfl) (by decide) hm (fun hc2 hm => ?_) (fun hc2 hm => ?_)
  · refine q_iconst hE (dlX10_takesNumber_0.at 3 rfl) ic_0 ?_
    exact q_bret (X := fun z => WG V o z) hE (dlX10_takesNumber_0.at 4 rfl) hm hQ rfl (by decide)
  · refine q_aload_n hE 0 (dlX10_takesNumber_0.at 5 rfl) rfl rfl ?_
    refine q_iconst hE (dlX10_takesNumber_0.at 6 rfl) ic_0 ?_
    refine q_put hE hfx (dlX10_takesNumber_0.at 7 rfl) kc10 wf_X10_44 g102 rfl rfl rfl rfl rfl rfl u102_11 ?_
    refine q_lth (X := fun z => WG V o z) hm (fun h3 hm => ?_)
    refine q_iconst hE (dlX10_takesNumber_0.at 8 rfl) ic_0 ?_
    refine q_istore_n hE [(0, _), (1, _)] (dlX10_takesNumber_0.at 9 rfl) rfl rfl rfl ?_
    refine q_sub hE [0, 1] rfl ?_
    exact okL_X10_takesNumber_16 hfx hE hQ  F _ _  hm
set_option maxRecDepth 10000 in
theorem okL_X10_whole_0 {V : Ev} {l : Launch} {o : PH} {F : Nat}  (hfx : V.2.2.2.2 = false) {E : Cx} (hE : CX E V l cX10_whole RX10 1 2 0 0 none) {r : Unit × PH} (hQ : RQ E V 143 (WG V o r.2) (none) 0 0) : ∀ (n : Nat)  (h : PH), fL_X10_whole_0 F n  h = some r → PW E V 0 0 143 (WG V o h) 0 [(0, rf V 102)] [] := by
  intro n
  induction n with
  | zero => intro h hm; cases hm
  | succ n ih =>
    intro h hm
    rw [fL_X10_whole_0] at hm
    refine q_aload_n hE 0 (dlX10_whole_0.at 0 rfl) rfl rfl ?_
    refine q_get hE (dlX10_whole_0.at 1 rfl) kc10 wf_X10_74 g102 rfl rfl rfl ?_
    refine q_if_le hE (tgt := 52) (dlX10_whole_0.at 2 rfl) (by decide) hm (fun hc1 hm => ?_) (fun hc1 hm => ?_)
    · exact q_vret (X := fun z => WG V o z) hE (dlX10_whole_0.at 28 rfl) hm hQ rfl
    · refine q_aload_n hE 0 (dlX10_whole_0.at 3 rfl) rfl rfl ?_
      refine q_get hE (dlX10_whole_0.at 4 rfl) kc10 wf_X10_68 g102 rfl rfl rfl ?_
      refine q_aload_n hE 0 (dlX10_whole_0.at 5 rfl) rfl rfl ?_
      refine q_get hE (dlX10_whole_0.at 6 rfl) kc10 wf_X10_74 g102 rfl rfl rfl ?_
      refine q_iconst hE (dlX10_whole_0.at 7 rfl) ic_1 ?_
      refine q_isub hE (dlX10_whole_0.at 8 rfl) ?_
      refine q_iald hE (dlX10_whole_0.at 9 rfl) g114 rfl hm (fun hm => ?_)
      refine q_bipush hE (dlX10_whole_0.at 10 rfl) bc_33 ?_
      refine q_icmp_ne hE (tgt := 52) (dlX10_whole_0.at 11 rfl) (by decide) hm (fun hc2 hm => ?_) (fun hc2 hm => ?_)
      · refine q_aload_n hE 0 (dlX10_whole_0.at 12 rfl) rfl rfl ?_
        refine q_bipush hE (dlX10_whole_0.at 13 rfl) bc_m33 ?_
        refine q_callV_v (X := fun z => WG V o z) hE (As := [_]) (dlX10_whole_0.at 14 rfl) mw_X10_emits wm_X10_239 rfl rfl rfl rfl (Nat.zero_le _) (Nat.zero_le _) rfl kc10 g102 rfl (ok_X10_emits hfx) hm (fun v3 h3 hm => ?_)
        refine q_aload_n hE 0 (dlX10_whole_0.at 15 rfl) rfl rfl ?_
        refine q_dup hE (dlX10_whole_0.at 16 rfl) rfl ?_
        refine q_get hE (dlX10_whole_0.at 17 rfl) kc10 wf_X10_74 g102 rfl rfl rfl ?_
        refine q_iconst hE (dlX10_whole_0.at 18 rfl) ic_1 ?_
        refine q_isub hE (dlX10_whole_0.at 19 rfl) ?_
        refine q_put hE hfx (dlX10_whole_0.at 20 rfl) kc10 wf_X10_74 g102 rfl rfl rfl rfl rfl rfl u102_21 ?_
        refine q_lth (X := fun z => WG V o z) hm (fun h4 hm => ?_)
        refine q_aload_n hE 0 (dlX10_whole_0.at 21 rfl) rfl rfl ?_
        refine q_dup hE (dlX10_whole_0.at 22 rfl) rfl ?_
        refine q_get hE (dlX10_whole_0.at 23 rfl) kc10 wf_X10_77 g102 rfl rfl rfl ?_
        refine q_iconst hE (dlX10_whole_0.at 24 rfl) ic_1 ?_
        refine q_isub hE (dlX10_whole_0.at 25 rfl) ?_
        refine q_put hE hfx (dlX10_whole_0.at 26 rfl) kc10 wf_X10_77 g102 rfl rfl rfl rfl rfl rfl u102_22 ?_
        refine q_lth (X := fun z => WG V o z) hm (fun h5 hm => ?_)
        refine q_goto hE (tgt := 0) (dlX10_whole_0.at 27 rfl) (by decide) ?_
        refine q_sub hE [0] rfl ?_
        exact ih  _  hm
      · exact q_vret (X := fun z => WG V o z) hE (dlX10_whole_0.at 28 rfl) hm hQ rfl
set_option maxRecDepth 10000 in
theorem ok_X10_whole {V : Ev} {l : Launch} {o : PH} {F : Nat}  (hfx : V.2.2.2.2 = false)  {h : PH} : ∀ (v : Unit) (h' : PH), f_X10_whole F  h = some (v, h') → Ctr l V yX10_whole cX10_whole 1 none 2 [rf V 102] 143 (WG V o h) 143 (WG V o (h')) (none) 0 0 := by
  intro v h' hm
  refine Ctr.intro RX10 (by decide +kernel) rfl rfl rfl ?_
  intro E hE hQ _
  unfold f_X10_whole at hm
  refine q_sub hE [0] rfl ?_
  exact okL_X10_whole_0 hfx hE hQ  F  _  hm
set_option maxRecDepth 10000 in
theorem ok_X10_takesTest {V : Ev} {l : Launch} {o : PH} {F : Nat}  (hfx : V.2.2.2.2 = false)  {h : PH} : ∀ (v : Int32) (h' : PH), f_X10_takesTest F  h = some (v, h') → Ctr l V yX10_takesTest cX10_takesTest 3 (some .boolean) 4 [rf V 102] 143 (WG V o h) 143 (WG V o (h')) (some (.int v)) 0 0 := by
  intro v h' hm
  refine Ctr.intro RX10 (by decide +kernel) rfl rfl rfl ?_
  intro E hE hQ _
  unfold f_X10_takesTest at hm
  refine q_aload_n hE 0 (dlX10_takesTest_0.at 0 rfl) rfl rfl ?_
  refine q_aload_n hE 0 (dlX10_takesTest_0.at 1 rfl) rfl rfl ?_
  refine q_callV_i (X := fun z => WG V o z) hE (As := []) (dlX10_takesTest_0.at 2 rfl) mw_X10_peek wm_X10_228 rfl rfl rfl rfl (Nat.zero_le _) (Nat.zero_le _) rfl kc10 g102 rfl (ok_X10_peek hfx) hm (fun v1 h1 hm => ?_)
  refine q_callV_i (X := fun z => WG V o z) hE (As := [_]) (dlX10_takesTest_0.at 3 rfl) mw_X10_place wm_X10_243 rfl rfl rfl rfl (Nat.zero_le _) (Nat.zero_le _) rfl kc10 g102 rfl (ok_X10_place hfx) hm (fun v2 h2 hm => ?_)
  refine q_istore_n hE [(0, _), (1, _)] (dlX10_takesTest_0.at 4 rfl) rfl rfl rfl ?_
  refine q_iload_n hE 1 (dlX10_takesTest_0.at 5 rfl) rfl rfl ?_
  refine q_if_ge hE (tgt := 15) (dlX10_takesTest_0.at 6 rfl) (by decide) hm (fun hc3 hm => ?_) (fun hc3 hm => ?_)
  · refine q_aload_n hE 0 (dlX10_takesTest_0.at 9 rfl) rfl rfl ?_
    refine q_dup hE (dlX10_takesTest_0.at 10 rfl) rfl ?_
    refine q_get hE (dlX10_takesTest_0.at 11 rfl) kc10 wf_X10_41 g102 rfl rfl rfl ?_
    refine q_iconst hE (dlX10_takesTest_0.at 12 rfl) ic_1 ?_
    refine q_iadd hE (dlX10_takesTest_0.at 13 rfl) ?_
    refine q_put hE hfx (dlX10_takesTest_0.at 14 rfl) kc10 wf_X10_41 g102 rfl rfl rfl rfl rfl rfl u102_10 ?_
    refine q_lth (X := fun z => WG V o z) hm (fun h4 hm => ?_)
    refine q_aload_n hE 0 (dlX10_takesTest_0.at 15 rfl) rfl rfl ?_
    refine q_callV_i (X := fun z => WG V o z) hE (As := []) (dlX10_takesTest_0.at 16 rfl) mw_X10_peek wm_X10_228 rfl rfl rfl rfl (Nat.zero_le _) (Nat.zero_le _) rfl kc10 g102 rfl (ok_X10_peek hfx) hm (fun v5 h5 hm => ?_)
    refine q_istore_n hE [(0, _), (1, _), (2, _)] (dlX10_takesTest_0.at 17 rfl) rfl rfl rfl ?_
    refine q_aload_n hE 0 (dlX10_takesTest_0.at 18 rfl) rfl rfl ?_
    refine q_iload_n hE 2 (dlX10_takesTest_0.at 19 rfl) rfl rfl ?_
    refine q_bipush hE (dlX10_takesTest_0.at 20 rfl) bc_60 ?_
    refine q_bipush hE (dlX10_takesTest_0.at 21 rfl) bc_62 ?_
    refine q_callV_i (X := fun z => WG V o z) hE (As := [_, _, _]) (dlX10_takesTest_0.at 22 rfl) mw_X10_in wm_X10_212 rfl rfl rfl rfl (Nat.zero_le _) (Nat.zero_le _) rfl kc10 g102 rfl (ok_X10_in hfx) hm (fun v6 h6 hm => ?_)
    refine q_if_ne hE (tgt := 44) (dlX10_takesTest_0.at 23 rfl) (by decide) hm (fun hc7 hm => ?_) (fun hc7 hm => ?_)
    · refine q_iconst hE (dlX10_takesTest_0.at 24 rfl) ic_0 ?_
      exact q_bret (X := fun z => WG V o z) hE (dlX10_takesTest_0.at 25 rfl) hm hQ rfl (by decide)
    · refine q_aload_n hE 0 (dlX10_takesTest_0.at 26 rfl) rfl rfl ?_
      refine q_dup hE (dlX10_takesTest_0.at 27 rfl) rfl ?_
      refine q_get hE (dlX10_takesTest_0.at 28 rfl) kc10 wf_X10_41 g102 rfl rfl rfl ?_
      refine q_iconst hE (dlX10_takesTest_0.at 29 rfl) ic_1 ?_
      refine q_iadd hE (dlX10_takesTest_0.at 30 rfl) ?_
      refine q_put hE hfx (dlX10_takesTest_0.at 31 rfl) kc10 wf_X10_41 g102 rfl rfl rfl rfl rfl rfl u102_10 ?_
      refine q_lth (X := fun z => WG V o z) hm (fun h8 hm => ?_)
      refine q_aload_n hE 0 (dlX10_takesTest_0.at 32 rfl) rfl rfl ?_
      refine q_callV_i (X := fun z => WG V o z) hE (As := []) (dlX10_takesTest_0.at 33 rfl) mw_X10_takesNumber wm_X10_247 rfl rfl rfl rfl (Nat.zero_le _) (Nat.zero_le _) rfl kc10 g102 rfl (ok_X10_takesNumber hfx) hm (fun v9 h9 hm => ?_)
      refine q_if_ne hE (tgt := 63) (dlX10_takesTest_0.at 34 rfl) (by decide) hm (fun hc10 hm => ?_) (fun hc10 hm => ?_)
      · refine q_iconst hE (dlX10_takesTest_0.at 35 rfl) ic_0 ?_
        exact q_bret (X := fun z => WG V o z) hE (dlX10_takesTest_0.at 36 rfl) hm hQ rfl (by decide)
      · refine q_aload_n hE 0 (dlX10_takesTest_0.at 37 rfl) rfl rfl ?_
        refine q_sipush hE (dlX10_takesTest_0.at 38 rfl) sc_1000 ?_
        refine q_iload_n hE 1 (dlX10_takesTest_0.at 39 rfl) rfl rfl ?_
        refine q_imul hE (dlX10_takesTest_1.at 0 rfl) ?_
        refine q_bipush hE (dlX10_takesTest_1.at 1 rfl) bc_100 ?_
        refine q_iload_n hE 2 (dlX10_takesTest_1.at 2 rfl) rfl rfl ?_
        refine q_bipush hE (dlX10_takesTest_1.at 3 rfl) bc_60 ?_
        refine q_isub hE (dlX10_takesTest_1.at 4 rfl) ?_
        refine q_imul hE (dlX10_takesTest_1.at 5 rfl) ?_
        refine q_iadd hE (dlX10_takesTest_1.at 6 rfl) ?_
        refine q_aload_n hE 0 (dlX10_takesTest_1.at 7 rfl) rfl rfl ?_
        refine q_get hE (dlX10_takesTest_1.at 8 rfl) kc10 wf_X10_44 g102 rfl rfl rfl ?_
        refine q_iadd hE (dlX10_takesTest_1.at 9 rfl) ?_
        refine q_callV_v (X := fun z => WG V o z) hE (As := [_]) (dlX10_takesTest_1.at 10 rfl) mw_X10_emits wm_X10_239 rfl rfl rfl rfl (Nat.zero_le _) (Nat.zero_le _) rfl kc10 g102 rfl (ok_X10_emits hfx) hm (fun v11 h11 hm => ?_)
        refine q_aload_n hE 0 (dlX10_takesTest_1.at 11 rfl) rfl rfl ?_
        refine q_callV_v (X := fun z => WG V o z) hE (As := []) (dlX10_takesTest_1.at 12 rfl) mw_X10_whole wm_X10_250 rfl rfl rfl rfl (Nat.zero_le _) (Nat.zero_le _) rfl kc10 g102 rfl (ok_X10_whole hfx) hm (fun v12 h12 hm => ?_)
        refine q_iconst hE (dlX10_takesTest_1.at 13 rfl) ic_1 ?_
        exact q_bret (X := fun z => WG V o z) hE (dlX10_takesTest_1.at 14 rfl) hm hQ rfl (by decide)
  · refine q_iconst hE (dlX10_takesTest_0.at 7 rfl) ic_0 ?_
    exact q_bret (X := fun z => WG V o z) hE (dlX10_takesTest_0.at 8 rfl) hm hQ rfl (by decide)
set_option maxRecDepth 10000 in
theorem okL_X10_takesE_122 {V : Ev} {l : Launch} {o : PH} {F : Nat} {K22 : Int32 → Int32 → PH → Option (Int32 × PH)}  (hfx : V.2.2.2.2 = false) {E : Cx} (hE : CX E V l cX10_takesE RX10 4 5 0 0 (some .boolean)) {r : Int32 × PH} (hQ : RQ E V 143 (WG V o r.2) (some (.int r.1)) 0 0) (hK22 : ∀ (y1 : Int32) (y2 : Int32) (h : PH), K22 y1 y2 h = some r → PW E V 0 0 143 (WG V o h) 22 [(0, rf V 102), (1, .int y1), (2, .int y2)] []) : ∀ (x1 : Int32) (x3 : Int32) (h : PH), fL_X10_takesE_122 F K22 x1 x3 h = some r → PW E V 0 0 143 (WG V o h) 122 [(0, rf V 102), (1, .int x1), (3, .int x3)] [] := by
  intro x1 x3 h hm
  unfold fL_X10_takesE_122 at hm
  refine q_aload_n hE 0 (dlX10_takesE_1.at 30 rfl) rfl rfl ?_
  refine q_iload_n hE 2 (dlX10_takesE_1.at 31 rfl) rfl rfl ?_
  refine q_callV_v (X := fun z => WG V o z) hE (As := [_]) (dlX10_takesE_1.at 32 rfl) mw_X10_settle wm_X10_256 rfl rfl rfl rfl (Nat.zero_le _) (Nat.zero_le _) rfl kc10 g102 rfl (ok_X10_settle hfx) hm (fun v7 h7 hm => ?_)
  refine q_aload_n hE 0 (dlX10_takesE_1.at 33 rfl) rfl rfl ?_
  refine q_get hE (dlX10_takesE_1.at 34 rfl) kc10 wf_X10_68 g102 rfl rfl rfl ?_
  refine q_aload_n hE 0 (dlX10_takesE_1.at 35 rfl) rfl rfl ?_
  refine q_get hE (dlX10_takesE_1.at 36 rfl) kc10 wf_X10_74 g102 rfl rfl rfl ?_
  refine q_iload_n hE 2 (dlX10_takesE_1.at 37 rfl) rfl rfl ?_
  refine q_iast hE hfx (dlX10_takesE_1.at 38 rfl) g114 rfl u114 hm (fun hm => ?_)
  refine q_lth (X := fun z => WG V o z) hm (fun h8 hm => ?_)
  refine q_aload_n hE 0 (dlX10_takesE_1.at 39 rfl) rfl rfl ?_
  refine q_dup hE (dlX10_takesE_2.at 0 rfl) rfl ?_
  refine q_get hE (dlX10_takesE_2.at 1 rfl) kc10 wf_X10_74 g102 rfl rfl rfl ?_
  refine q_iconst hE (dlX10_takesE_2.at 2 rfl) ic_1 ?_
  refine q_iadd hE (dlX10_takesE_2.at 3 rfl) ?_
  refine q_put hE hfx (dlX10_takesE_2.at 4 rfl) kc10 wf_X10_74 g102 rfl rfl rfl rfl rfl rfl u102_21 ?_
  refine q_lth (X := fun z => WG V o z) hm (fun h9 hm => ?_)
  refine q_iconst hE (dlX10_takesE_2.at 5 rfl) ic_1 ?_
  refine q_istore_n hE [(0, _), (1, _), (2, _), (3, _)] (dlX10_takesE_2.at 6 rfl) rfl rfl rfl ?_
  refine q_aload_n hE 0 (dlX10_takesE_2.at 7 rfl) rfl rfl ?_
  refine q_dup hE (dlX10_takesE_2.at 8 rfl) rfl ?_
  refine q_get hE (dlX10_takesE_2.at 9 rfl) kc10 wf_X10_41 g102 rfl rfl rfl ?_
  refine q_iconst hE (dlX10_takesE_2.at 10 rfl) ic_1 ?_
  refine q_iadd hE (dlX10_takesE_2.at 11 rfl) ?_
  refine q_put hE hfx (dlX10_takesE_2.at 12 rfl) kc10 wf_X10_41 g102 rfl rfl rfl rfl rfl rfl u102_10 ?_
  refine q_lth (X := fun z => WG V o z) hm (fun h10 hm => ?_)
  refine q_goto hE (tgt := 22) (dlX10_takesE_2.at 13 rfl) (by decide) ?_
  refine q_sub hE [0, 1, 2] rfl ?_
  exact hK22 _ _ _ hm
set_option maxRecDepth 10000 in
theorem okL_X10_takesE_43 {V : Ev} {l : Launch} {o : PH} {F : Nat} {K22 : Int32 → Int32 → PH → Option (Int32 × PH)}  (hfx : V.2.2.2.2 = false) {E : Cx} (hE : CX E V l cX10_takesE RX10 4 5 0 0 (some .boolean)) {r : Int32 × PH} (hQ : RQ E V 143 (WG V o r.2) (some (.int r.1)) 0 0) (hK22 : ∀ (y1 : Int32) (y2 : Int32) (h : PH), K22 y1 y2 h = some r → PW E V 0 0 143 (WG V o h) 22 [(0, rf V 102), (1, .int y1), (2, .int y2)] []) : ∀ (x1 : Int32) (x2 : Int32) (x3 : Int32) (h : PH), fL_X10_takesE_43 F K22 x1 x2 x3 h = some r → PW E V 0 0 143 (WG V o h) 43 [(0, rf V 102), (1, .int x1), (2, .int x2), (3, .int x3)] [] := by
  intro x1 x2 x3 h hm
  unfold fL_X10_takesE_43 at hm
  refine q_aload_n hE 0 (dlX10_takesE_0.at 25 rfl) rfl rfl ?_
  refine q_get hE (dlX10_takesE_0.at 26 rfl) kc10 wf_X10_77 g102 rfl rfl rfl ?_
  refine q_iconst hE (dlX10_takesE_0.at 27 rfl) ic_4 ?_
  refine q_icmp_ne hE (tgt := 53) (dlX10_takesE_0.at 28 rfl) (by decide) hm (fun hc27 hm => ?_) (fun hc27 hm => ?_)
  · refine q_iconst hE (dlX10_takesE_0.at 29 rfl) ic_0 ?_
    exact q_bret (X := fun z => WG V o z) hE (dlX10_takesE_0.at 30 rfl) hm hQ rfl (by decide)
  · refine q_aload_n hE 0 (dlX10_takesE_0.at 31 rfl) rfl rfl ?_
    refine q_dup hE (dlX10_takesE_0.at 32 rfl) rfl ?_
    refine q_get hE (dlX10_takesE_0.at 33 rfl) kc10 wf_X10_77 g102 rfl rfl rfl ?_
    refine q_iconst hE (dlX10_takesE_0.at 34 rfl) ic_1 ?_
    refine q_iadd hE (dlX10_takesE_0.at 35 rfl) ?_
    refine q_put hE hfx (dlX10_takesE_0.at 36 rfl) kc10 wf_X10_77 g102 rfl rfl rfl rfl rfl rfl u102_22 ?_
    refine q_lth (X := fun z => WG V o z) hm (fun h28 hm => ?_)
    refine q_aload_n hE 0 (dlX10_takesE_0.at 37 rfl) rfl rfl ?_
    refine q_get hE (dlX10_takesE_0.at 38 rfl) kc10 wf_X10_68 g102 rfl rfl rfl ?_
    refine q_aload_n hE 0 (dlX10_takesE_0.at 39 rfl) rfl rfl ?_
    refine q_get hE (dlX10_takesE_1.at 0 rfl) kc10 wf_X10_74 g102 rfl rfl rfl ?_
    refine q_iload_n hE 3 (dlX10_takesE_1.at 1 rfl) rfl rfl ?_
    refine q_iast hE hfx (dlX10_takesE_1.at 2 rfl) g114 rfl u114 hm (fun hm => ?_)
    refine q_lth (X := fun z => WG V o z) hm (fun h29 hm => ?_)
    refine q_aload_n hE 0 (dlX10_takesE_1.at 3 rfl) rfl rfl ?_
    refine q_dup hE (dlX10_takesE_1.at 4 rfl) rfl ?_
    refine q_get hE (dlX10_takesE_1.at 5 rfl) kc10 wf_X10_74 g102 rfl rfl rfl ?_
    refine q_iconst hE (dlX10_takesE_1.at 6 rfl) ic_1 ?_
    refine q_iadd hE (dlX10_takesE_1.at 7 rfl) ?_
    refine q_put hE hfx (dlX10_takesE_1.at 8 rfl) kc10 wf_X10_74 g102 rfl rfl rfl rfl rfl rfl u102_21 ?_
    refine q_lth (X := fun z => WG V o z) hm (fun h30 hm => ?_)
    refine q_aload_n hE 0 (dlX10_takesE_1.at 9 rfl) rfl rfl ?_
    refine q_dup hE (dlX10_takesE_1.at 10 rfl) rfl ?_
    refine q_get hE (dlX10_takesE_1.at 11 rfl) kc10 wf_X10_41 g102 rfl rfl rfl ?_
    refine q_iconst hE (dlX10_takesE_1.at 12 rfl) ic_1 ?_
    refine q_iadd hE (dlX10_takesE_1.at 13 rfl) ?_
    refine q_put hE hfx (dlX10_takesE_1.at 14 rfl) kc10 wf_X10_41 g102 rfl rfl rfl rfl rfl rfl u102_10 ?_
    refine q_lth (X := fun z => WG V o z) hm (fun h31 hm => ?_)
    refine q_goto hE (tgt := 22) (dlX10_takesE_1.at 15 rfl) (by decide) ?_
    refine q_sub hE [0, 1, 2] rfl ?_
    exact hK22 _ _ _ hm
set_option maxRecDepth 10000 in
theorem okL_X10_takesE_22 {V : Ev} {l : Launch} {o : PH} {F : Nat}  (hfx : V.2.2.2.2 = false) {E : Cx} (hE : CX E V l cX10_takesE RX10 4 5 0 0 (some .boolean)) {r : Int32 × PH} (hQ : RQ E V 143 (WG V o r.2) (some (.int r.1)) 0 0) : ∀ (n : Nat) (x1 : Int32) (x2 : Int32) (h : PH), fL_X10_takesE_22 F n x1 x2 h = some r → PW E V 0 0 143 (WG V o h) 22 [(0, rf V 102), (1, .int x1), (2, .int x2)] [] := by
  intro n
  induction n with
  | zero => intro x1 x2 h hm; cases hm
  | succ n ih =>
    intro x1 x2 h hm
    rw [fL_X10_takesE_22] at hm
    refine q_aload_n hE 0 (dlX10_takesE_0.at 14 rfl) rfl rfl ?_
    refine q_callV_i (X := fun z => WG V o z) hE (As := []) (dlX10_takesE_0.at 15 rfl) mw_X10_peek wm_X10_228 rfl rfl rfl rfl (Nat.zero_le _) (Nat.zero_le _) rfl kc10 g102 rfl (ok_X10_peek hfx) hm (fun v4 h4 hm => ?_)
    refine q_istore_n hE [(0, _), (1, _), (2, _), (3, _)] (dlX10_takesE_0.at 16 rfl) rfl rfl rfl ?_
    refine q_iload_n hE 2 (dlX10_takesE_0.at 17 rfl) rfl rfl ?_
    refine q_if_eq hE (tgt := 110) (dlX10_takesE_0.at 18 rfl) (by decide) hm (fun hc5 hm => ?_) (fun hc5 hm => ?_)
    · refine q_iload_n hE 3 (dlX10_takesE_1.at 24 rfl) rfl rfl ?_
      refine q_bipush hE (dlX10_takesE_1.at 25 rfl) bc_38 ?_
      refine q_icmp_eq hE (tgt := 122) (dlX10_takesE_1.at 26 rfl) (by decide) hm (fun hc6 hm => ?_) (fun hc6 hm => ?_)
      · refine q_sub hE [0, 1, 3] rfl ?_
        exact okL_X10_takesE_122 hfx hE hQ (fun x11 x12 h13  hm => by
              refine q_sub hE [0, 1, 2] rfl ?_
              exact ih _ _ _  hm) _ _ _  hm
      · refine q_iload_n hE 3 (dlX10_takesE_1.at 27 rfl) rfl rfl ?_
        refine q_bipush hE (dlX10_takesE_1.at 28 rfl) bc_124 ?_
        refine q_icmp_ne hE (tgt := 162) (dlX10_takesE_1.at 29 rfl) (by decide) hm (fun hc14 hm => ?_) (fun hc14 hm => ?_)
        · refine q_sub hE [0, 1, 3] rfl ?_
          exact okL_X10_takesE_122 hfx hE hQ (fun x23 x24 h25  hm => by
                refine q_sub hE [0, 1, 2] rfl ?_
                exact ih _ _ _  hm) _ _ _  hm
        · refine q_aload_n hE 0 (dlX10_takesE_2.at 14 rfl) rfl rfl ?_
          refine q_bipush hE (dlX10_takesE_2.at 15 rfl) bc_124 ?_
          refine q_callV_v (X := fun z => WG V o z) hE (As := [_]) (dlX10_takesE_2.at 16 rfl) mw_X10_settle wm_X10_256 rfl rfl rfl rfl (Nat.zero_le _) (Nat.zero_le _) rfl kc10 g102 rfl (ok_X10_settle hfx) hm (fun v15 h15 hm => ?_)
          refine q_aload_n hE 0 (dlX10_takesE_2.at 17 rfl) rfl rfl ?_
          refine q_get hE (dlX10_takesE_2.at 18 rfl) kc10 wf_X10_62 g102 rfl rfl rfl ?_
          refine q_iload_n hE 1 (dlX10_takesE_2.at 19 rfl) rfl rfl ?_
          refine q_aload_n hE 0 (dlX10_takesE_2.at 20 rfl) rfl rfl ?_
          refine q_get hE (dlX10_takesE_2.at 21 rfl) kc10 wf_X10_71 g102 rfl rfl rfl ?_
          refine q_iast hE hfx (dlX10_takesE_2.at 22 rfl) g112 rfl u112 hm (fun hm => ?_)
          refine q_lth (X := fun z => WG V o z) hm (fun h16 hm => ?_)
          refine q_aload_n hE 0 (dlX10_takesE_2.at 23 rfl) rfl rfl ?_
          refine q_get hE (dlX10_takesE_2.at 24 rfl) kc10 wf_X10_74 g102 rfl rfl rfl ?_
          refine q_if_ne hE (tgt := 187) (dlX10_takesE_2.at 25 rfl) (by decide) hm (fun hc17 hm => ?_) (fun hc17 hm => ?_)
          · refine q_iconst hE (dlX10_takesE_2.at 26 rfl) ic_1 ?_
            exact q_bret (X := fun z => WG V o z) hE (dlX10_takesE_2.at 27 rfl) hm hQ rfl (by decide)
          · refine q_iload_n hE 3 (dlX10_takesE_2.at 28 rfl) rfl rfl ?_
            refine q_bipush hE (dlX10_takesE_2.at 29 rfl) bc_41 ?_
            refine q_icmp_eq hE (tgt := 195) (dlX10_takesE_2.at 30 rfl) (by decide) hm (fun hc18 hm => ?_) (fun hc18 hm => ?_)
            · refine q_aload_n hE 0 (dlX10_takesE_2.at 33 rfl) rfl rfl ?_
              refine q_dup hE (dlX10_takesE_2.at 34 rfl) rfl ?_
              refine q_get hE (dlX10_takesE_2.at 35 rfl) kc10 wf_X10_74 g102 rfl rfl rfl ?_
              refine q_iconst hE (dlX10_takesE_2.at 36 rfl) ic_1 ?_
              refine q_isub hE (dlX10_takesE_2.at 37 rfl) ?_
              refine q_put hE hfx (dlX10_takesE_2.at 38 rfl) kc10 wf_X10_74 g102 rfl rfl rfl rfl rfl rfl u102_21 ?_
              refine q_lth (X := fun z => WG V o z) hm (fun h19 hm => ?_)
              refine q_aload_n hE 0 (dlX10_takesE_2.at 39 rfl) rfl rfl ?_
              refine q_dup hE (dlX10_takesE_3.at 0 rfl) rfl ?_
              refine q_get hE (dlX10_takesE_3.at 1 rfl) kc10 wf_X10_77 g102 rfl rfl rfl ?_
              refine q_iconst hE (dlX10_takesE_3.at 2 rfl) ic_1 ?_
              refine q_isub hE (dlX10_takesE_3.at 3 rfl) ?_
              refine q_put hE hfx (dlX10_takesE_3.at 4 rfl) kc10 wf_X10_77 g102 rfl rfl rfl rfl rfl rfl u102_22 ?_
              refine q_lth (X := fun z => WG V o z) hm (fun h20 hm => ?_)
              refine q_aload_n hE 0 (dlX10_takesE_3.at 5 rfl) rfl rfl ?_
              refine q_dup hE (dlX10_takesE_3.at 6 rfl) rfl ?_
              refine q_get hE (dlX10_takesE_3.at 7 rfl) kc10 wf_X10_41 g102 rfl rfl rfl ?_
              refine q_iconst hE (dlX10_takesE_3.at 8 rfl) ic_1 ?_
              refine q_iadd hE (dlX10_takesE_3.at 9 rfl) ?_
              refine q_put hE hfx (dlX10_takesE_3.at 10 rfl) kc10 wf_X10_41 g102 rfl rfl rfl rfl rfl rfl u102_10 ?_
              refine q_lth (X := fun z => WG V o z) hm (fun h21 hm => ?_)
              refine q_aload_n hE 0 (dlX10_takesE_3.at 11 rfl) rfl rfl ?_
              refine q_callV_v (X := fun z => WG V o z) hE (As := []) (dlX10_takesE_3.at 12 rfl) mw_X10_whole wm_X10_250 rfl rfl rfl rfl (Nat.zero_le _) (Nat.zero_le _) rfl kc10 g102 rfl (ok_X10_whole hfx) hm (fun v22 h22 hm => ?_)
              refine q_goto hE (tgt := 22) (dlX10_takesE_3.at 13 rfl) (by decide) ?_
              refine q_sub hE [0, 1, 2] rfl ?_
              exact ih _ _ _  hm
            · refine q_iconst hE (dlX10_takesE_2.at 31 rfl) ic_0 ?_
              exact q_bret (X := fun z => WG V o z) hE (dlX10_takesE_2.at 32 rfl) hm hQ rfl (by decide)
    · refine q_iload_n hE 3 (dlX10_takesE_0.at 19 rfl) rfl rfl ?_
      refine q_bipush hE (dlX10_takesE_0.at 20 rfl) bc_33 ?_
      refine q_icmp_eq hE (tgt := 43) (dlX10_takesE_0.at 21 rfl) (by decide) hm (fun hc26 hm => ?_) (fun hc26 hm => ?_)
      · refine q_sub hE [0, 1, 2, 3] rfl ?_
        exact okL_X10_takesE_43 hfx hE hQ (fun x32 x33 h34  hm => by
              refine q_sub hE [0, 1, 2] rfl ?_
              exact ih _ _ _  hm) _ _ _ _  hm
      · refine q_iload_n hE 3 (dlX10_takesE_0.at 22 rfl) rfl rfl ?_
        refine q_bipush hE (dlX10_takesE_0.at 23 rfl) bc_40 ?_
        refine q_icmp_ne hE (tgt := 96) (dlX10_takesE_0.at 24 rfl) (by decide) hm (fun hc35 hm => ?_) (fun hc35 hm => ?_)
        · refine q_sub hE [0, 1, 2, 3] rfl ?_
          exact okL_X10_takesE_43 hfx hE hQ (fun x38 x39 h40  hm => by
                refine q_sub hE [0, 1, 2] rfl ?_
                exact ih _ _ _  hm) _ _ _ _  hm
        · refine q_aload_n hE 0 (dlX10_takesE_1.at 16 rfl) rfl rfl ?_
          refine q_callV_i (X := fun z => WG V o z) hE (As := []) (dlX10_takesE_1.at 17 rfl) mw_X10_takesTest wm_X10_253 rfl rfl rfl rfl (Nat.zero_le _) (Nat.zero_le _) rfl kc10 g102 rfl (ok_X10_takesTest hfx) hm (fun v36 h36 hm => ?_)
          refine q_if_eq hE (tgt := 108) (dlX10_takesE_1.at 18 rfl) (by decide) hm (fun hc37 hm => ?_) (fun hc37 hm => ?_)
          · refine q_iconst hE (dlX10_takesE_1.at 22 rfl) ic_0 ?_
            exact q_bret (X := fun z => WG V o z) hE (dlX10_takesE_1.at 23 rfl) hm hQ rfl (by decide)
          · refine q_iconst hE (dlX10_takesE_1.at 19 rfl) ic_0 ?_
            refine q_istore_n hE [(0, _), (1, _), (2, _), (3, _)] (dlX10_takesE_1.at 20 rfl) rfl rfl rfl ?_
            refine q_goto hE (tgt := 22) (dlX10_takesE_1.at 21 rfl) (by decide) ?_
            refine q_sub hE [0, 1, 2] rfl ?_
            exact ih _ _ _  hm
set_option maxRecDepth 10000 in
theorem ok_X10_takesE {V : Ev} {l : Launch} {o : PH} {F : Nat}  (hfx : V.2.2.2.2 = false) {a1 : Int32} {h : PH} : ∀ (v : Int32) (h' : PH), f_X10_takesE F a1 h = some (v, h') → Ctr l V yX10_takesE cX10_takesE 4 (some .boolean) 5 [rf V 102, .int a1] 143 (WG V o h) 143 (WG V o (h')) (some (.int v)) 0 0 := by
  intro v h' hm
  refine Ctr.intro RX10 (by decide +kernel) rfl rfl rfl ?_
  intro E hE hQ _
  unfold f_X10_takesE at hm
  refine q_aload_n hE 0 (dlX10_takesE_0.at 0 rfl) rfl rfl ?_
  refine q_iconst hE (dlX10_takesE_0.at 1 rfl) ic_0 ?_
  refine q_put hE hfx (dlX10_takesE_0.at 2 rfl) kc10 wf_X10_74 g102 rfl rfl rfl rfl rfl rfl u102_21 ?_
  refine q_lth (X := fun z => WG V o z) hm (fun h1 hm => ?_)
  refine q_aload_n hE 0 (dlX10_takesE_0.at 3 rfl) rfl rfl ?_
  refine q_iconst hE (dlX10_takesE_0.at 4 rfl) ic_0 ?_
  refine q_put hE hfx (dlX10_takesE_0.at 5 rfl) kc10 wf_X10_77 g102 rfl rfl rfl rfl rfl rfl u102_22 ?_
  refine q_lth (X := fun z => WG V o z) hm (fun h2 hm => ?_)
  refine q_aload_n hE 0 (dlX10_takesE_0.at 6 rfl) rfl rfl ?_
  refine q_get hE (dlX10_takesE_0.at 7 rfl) kc10 wf_X10_59 g102 rfl rfl rfl ?_
  refine q_iload_n hE 1 (dlX10_takesE_0.at 8 rfl) rfl rfl ?_
  refine q_aload_n hE 0 (dlX10_takesE_0.at 9 rfl) rfl rfl ?_
  refine q_get hE (dlX10_takesE_0.at 10 rfl) kc10 wf_X10_71 g102 rfl rfl rfl ?_
  refine q_iast hE hfx (dlX10_takesE_0.at 11 rfl) g111 rfl u111 hm (fun hm => ?_)
  refine q_lth (X := fun z => WG V o z) hm (fun h3 hm => ?_)
  refine q_iconst hE (dlX10_takesE_0.at 12 rfl) ic_1 ?_
  refine q_istore_n hE [(0, _), (1, _), (2, _)] (dlX10_takesE_0.at 13 rfl) rfl rfl rfl ?_
  refine q_sub hE [0, 1, 2] rfl ?_
  exact okL_X10_takesE_22 hfx hE hQ  F _ _ _  hm
set_option maxRecDepth 10000 in
theorem okL_X10_takesWord_2 {V : Ev} {l : Launch} {o : PH} {F : Nat}  (hfx : V.2.2.2.2 = false) {E : Cx} (hE : CX E V l cX10_takesWord RX10 4 3 0 0 (some .boolean)) {r : Int32 × PH} (hQ : RQ E V 143 (WG V o r.2) (some (.int r.1)) 0 0) : ∀ (n : Nat) (x1 : Int32) (x2 : Int32) (x3 : Int32) (h : PH), fL_X10_takesWord_2 F n x1 x2 x3 h = some r → PW E V 0 0 143 (WG V o h) 2 [(0, rf V 102), (1, .int x1), (2, .int x2), (3, .int x3)] [] := by
  intro n
  induction n with
  | zero => intro x1 x2 x3 h hm; cases hm
  | succ n ih =>
    intro x1 x2 x3 h hm
    rw [fL_X10_takesWord_2] at hm
    refine q_iload_n hE 3 (dlX10_takesWord_0.at 2 rfl) rfl rfl ?_
    refine q_iload_n hE 2 (dlX10_takesWord_0.at 3 rfl) rfl rfl ?_
    refine q_icmp_ge hE (tgt := 30) (dlX10_takesWord_0.at 4 rfl) (by decide) hm (fun hc1 hm => ?_) (fun hc1 hm => ?_)
    · refine q_aload_n hE 0 (dlX10_takesWord_0.at 18 rfl) rfl rfl ?_
      refine q_bipush hE (dlX10_takesWord_0.at 19 rfl) bc_32 ?_
      refine q_callV_i (X := fun z => WG V o z) hE (As := [_]) (dlX10_takesWord_0.at 20 rfl) mw_X10_takes wm_X10_232 rfl rfl rfl rfl (Nat.zero_le _) (Nat.zero_le _) rfl kc10 g102 rfl (ok_X10_takes hfx) hm (fun v2 h2 hm => ?_)
      exact q_bret (X := fun z => WG V o z) hE (dlX10_takesWord_0.at 21 rfl) hm hQ rfl rfl
    · refine q_aload_n hE 0 (dlX10_takesWord_0.at 5 rfl) rfl rfl ?_
      refine q_aload_n hE 0 (dlX10_takesWord_0.at 6 rfl) rfl rfl ?_
      refine q_get hE (dlX10_takesWord_0.at 7 rfl) kc10 wf_X10_80 g102 rfl rfl rfl ?_
      refine q_iload_n hE 1 (dlX10_takesWord_0.at 8 rfl) rfl rfl ?_
      refine q_iload_n hE 3 (dlX10_takesWord_0.at 9 rfl) rfl rfl ?_
      refine q_iadd hE (dlX10_takesWord_0.at 10 rfl) ?_
      refine q_iald hE (dlX10_takesWord_0.at 11 rfl) g115 rfl hm (fun hm => ?_)
      refine q_callV_i (X := fun z => WG V o z) hE (As := [_]) (dlX10_takesWord_0.at 12 rfl) mw_X10_takes wm_X10_232 rfl rfl rfl rfl (Nat.zero_le _) (Nat.zero_le _) rfl kc10 g102 rfl (ok_X10_takes hfx) hm (fun v3 h3 hm => ?_)
      refine q_if_ne hE (tgt := 24) (dlX10_takesWord_0.at 13 rfl) (by decide) hm (fun hc4 hm => ?_) (fun hc4 hm => ?_)
      · refine q_iconst hE (dlX10_takesWord_0.at 14 rfl) ic_0 ?_
        exact q_bret (X := fun z => WG V o z) hE (dlX10_takesWord_0.at 15 rfl) hm hQ rfl (by decide)
      · refine q_iinc hE [(0, _), (1, _), (2, _), (3, _)] 3 (dlX10_takesWord_0.at 16 rfl) rfl ic_1 rfl rfl ?_
        refine q_goto hE (tgt := 2) (dlX10_takesWord_0.at 17 rfl) (by decide) ?_
        refine q_sub hE [0, 1, 2, 3] rfl ?_
        exact ih _ _ _ _  hm
set_option maxRecDepth 10000 in
theorem ok_X10_takesWord {V : Ev} {l : Launch} {o : PH} {F : Nat}  (hfx : V.2.2.2.2 = false) {a1 : Int32} {a2 : Int32} {h : PH} : ∀ (v : Int32) (h' : PH), f_X10_takesWord F a1 a2 h = some (v, h') → Ctr l V yX10_takesWord cX10_takesWord 4 (some .boolean) 3 [rf V 102, .int a1, .int a2] 143 (WG V o h) 143 (WG V o (h')) (some (.int v)) 0 0 := by
  intro v h' hm
  refine Ctr.intro RX10 (by decide +kernel) rfl rfl rfl ?_
  intro E hE hQ _
  unfold f_X10_takesWord at hm
  refine q_iconst hE (dlX10_takesWord_0.at 0 rfl) ic_0 ?_
  refine q_istore_n hE [(0, _), (1, _), (2, _), (3, _)] (dlX10_takesWord_0.at 1 rfl) rfl rfl rfl ?_
  refine q_sub hE [0, 1, 2, 3] rfl ?_
  exact okL_X10_takesWord_2 hfx hE hQ  F _ _ _ _  hm
set_option maxRecDepth 10000 in
theorem ok_X10_takesHead {V : Ev} {l : Launch} {o : PH} {F : Nat}  (hfx : V.2.2.2.2 = false) {a1 : Int32} {h : PH} : ∀ (v : Int32) (h' : PH), f_X10_takesHead F a1 h = some (v, h') → Ctr l V yX10_takesHead cX10_takesHead 2 (some .boolean) 4 [rf V 102, .int a1] 143 (WG V o h) 143 (WG V o (h')) (some (.int v)) 0 0 := by
  intro v h' hm
  refine Ctr.intro RX10 (by decide +kernel) rfl rfl rfl ?_
  intro E hE hQ _
  unfold f_X10_takesHead at hm
  refine q_aload_n hE 0 (dlX10_takesHead_0.at 0 rfl) rfl rfl ?_
  refine q_callV_i (X := fun z => WG V o z) hE (As := []) (dlX10_takesHead_0.at 1 rfl) mw_X10_peek wm_X10_228 rfl rfl rfl rfl (Nat.zero_le _) (Nat.zero_le _) rfl kc10 g102 rfl (ok_X10_peek hfx) hm (fun v1 h1 hm => ?_)
  refine q_lcase hE (dlX10_takesHead_0.at 2 rfl) (104 : Int32) 46 (by decide) hm (fun _ hm => ?_) (fun hn2_104 hm => ?_)
  · refine q_aload_n hE 0 (dlX10_takesHead_0.at 13 rfl) rfl rfl ?_
    refine q_get hE (dlX10_takesHead_0.at 14 rfl) kc10 wf_X10_53 g102 rfl rfl rfl ?_
    refine q_iload_n hE 1 (dlX10_takesHead_0.at 15 rfl) rfl rfl ?_
    refine q_iconst hE (dlX10_takesHead_0.at 16 rfl) ic_1 ?_
    refine q_iast hE hfx (dlX10_takesHead_0.at 17 rfl) g109 rfl u109 hm (fun hm => ?_)
    refine q_lth (X := fun z => WG V o z) hm (fun h3 hm => ?_)
    refine q_aload_n hE 0 (dlX10_takesHead_0.at 18 rfl) rfl rfl ?_
    refine q_iconst hE (dlX10_takesHead_0.at 19 rfl) ic_4 ?_
    refine q_iconst hE (dlX10_takesHead_0.at 20 rfl) ic_4 ?_
    refine q_callV_i (X := fun z => WG V o z) hE (As := [_, _]) (dlX10_takesHead_0.at 21 rfl) mw_X10_takesWord wm_X10_259 rfl rfl rfl rfl (Nat.zero_le _) (Nat.zero_le _) rfl kc10 g102 rfl (ok_X10_takesWord hfx) hm (fun v4 h4 hm => ?_)
    exact q_bret (X := fun z => WG V o z) hE (dlX10_takesHead_0.at 22 rfl) hm hQ rfl rfl
  · refine q_lcase hE (dlX10_takesHead_0.at 2 rfl) (110 : Int32) 32 (by decide) hm (fun _ hm => ?_) (fun hn2_110 hm => ?_)
    · refine q_aload_n hE 0 (dlX10_takesHead_0.at 3 rfl) rfl rfl ?_
      refine q_get hE (dlX10_takesHead_0.at 4 rfl) kc10 wf_X10_53 g102 rfl rfl rfl ?_
      refine q_iload_n hE 1 (dlX10_takesHead_0.at 5 rfl) rfl rfl ?_
      refine q_iconst hE (dlX10_takesHead_0.at 6 rfl) ic_0 ?_
      refine q_iast hE hfx (dlX10_takesHead_0.at 7 rfl) g109 rfl u109 hm (fun hm => ?_)
      refine q_lth (X := fun z => WG V o z) hm (fun h5 hm => ?_)
      refine q_aload_n hE 0 (dlX10_takesHead_0.at 8 rfl) rfl rfl ?_
      refine q_iconst hE (dlX10_takesHead_0.at 9 rfl) ic_0 ?_
      refine q_iconst hE (dlX10_takesHead_0.at 10 rfl) ic_4 ?_
      refine q_callV_i (X := fun z => WG V o z) hE (As := [_, _]) (dlX10_takesHead_0.at 11 rfl) mw_X10_takesWord wm_X10_259 rfl rfl rfl rfl (Nat.zero_le _) (Nat.zero_le _) rfl kc10 g102 rfl (ok_X10_takesWord hfx) hm (fun v6 h6 hm => ?_)
      exact q_bret (X := fun z => WG V o z) hE (dlX10_takesHead_0.at 12 rfl) hm hQ rfl rfl
    · refine q_ldef hE (tgt := 60) (dlX10_takesHead_0.at 2 rfl) (by decide) (by rw [lv_osw hn2_104 (by decide)]; rw [lv_osw hn2_110 (by decide)]; rfl) (by decide) ?_
      refine q_aload_n hE 0 (dlX10_takesHead_0.at 23 rfl) rfl rfl ?_
      refine q_get hE (dlX10_takesHead_0.at 24 rfl) kc10 wf_X10_53 g102 rfl rfl rfl ?_
      refine q_iload_n hE 1 (dlX10_takesHead_0.at 25 rfl) rfl rfl ?_
      refine q_iconst hE (dlX10_takesHead_0.at 26 rfl) ic_2 ?_
      refine q_iast hE hfx (dlX10_takesHead_0.at 27 rfl) g109 rfl u109 hm (fun hm => ?_)
      refine q_lth (X := fun z => WG V o z) hm (fun h7 hm => ?_)
      refine q_aload_n hE 0 (dlX10_takesHead_0.at 28 rfl) rfl rfl ?_
      refine q_bipush hE (dlX10_takesHead_0.at 29 rfl) bc_8 ?_
      refine q_iconst hE (dlX10_takesHead_0.at 30 rfl) ic_4 ?_
      refine q_callV_i (X := fun z => WG V o z) hE (As := [_, _]) (dlX10_takesHead_0.at 31 rfl) mw_X10_takesWord wm_X10_259 rfl rfl rfl rfl (Nat.zero_le _) (Nat.zero_le _) rfl kc10 g102 rfl (ok_X10_takesWord hfx) hm (fun v8 h8 hm => ?_)
      exact q_bret (X := fun z => WG V o z) hE (dlX10_takesHead_0.at 32 rfl) hm hQ rfl rfl
set_option maxRecDepth 10000 in
theorem ok_X10_takesClause {V : Ev} {l : Launch} {o : PH} {F : Nat}  (hfx : V.2.2.2.2 = false) {a1 : Int32} {h : PH} : ∀ (v : Int32) (h' : PH), f_X10_takesClause F a1 h = some (v, h') → Ctr l V yX10_takesClause cX10_takesClause 2 (some .boolean) 6 [rf V 102, .int a1] 143 (WG V o h) 143 (WG V o (h')) (some (.int v)) 0 0 := by
  intro v h' hm
  refine Ctr.intro RX10 (by decide +kernel) rfl rfl rfl ?_
  intro E hE hQ _
  unfold f_X10_takesClause at hm
  refine q_aload_n hE 0 (dlX10_takesClause_0.at 0 rfl) rfl rfl ?_
  refine q_iload_n hE 1 (dlX10_takesClause_0.at 1 rfl) rfl rfl ?_
  refine q_callV_i (X := fun z => WG V o z) hE (As := [_]) (dlX10_takesClause_0.at 2 rfl) mw_X10_takesHead wm_X10_262 rfl rfl rfl rfl (Nat.zero_le _) (Nat.zero_le _) rfl kc10 g102 rfl (ok_X10_takesHead hfx) hm (fun v1 h1 hm => ?_)
  refine q_if_eq hE (tgt := 15) (dlX10_takesClause_0.at 3 rfl) (by decide) hm (fun hc2 hm => ?_) (fun hc2 hm => ?_)
  · refine q_iconst hE (dlX10_takesClause_0.at 7 rfl) ic_0 ?_
    exact q_bret (X := fun z => WG V o z) hE (dlX10_takesClause_0.at 8 rfl) hm hQ rfl (by decide)
  · refine q_aload_n hE 0 (dlX10_takesClause_0.at 4 rfl) rfl rfl ?_
    refine q_callV_i (X := fun z => WG V o z) hE (As := []) (dlX10_takesClause_0.at 5 rfl) mw_X10_takesNumber wm_X10_247 rfl rfl rfl rfl (Nat.zero_le _) (Nat.zero_le _) rfl kc10 g102 rfl (ok_X10_takesNumber hfx) hm (fun v3 h3 hm => ?_)
    refine q_if_ne hE (tgt := 17) (dlX10_takesClause_0.at 6 rfl) (by decide) hm (fun hc4 hm => ?_) (fun hc4 hm => ?_)
    · refine q_iconst hE (dlX10_takesClause_0.at 7 rfl) ic_0 ?_
      exact q_bret (X := fun z => WG V o z) hE (dlX10_takesClause_0.at 8 rfl) hm hQ rfl (by decide)
    · refine q_aload_n hE 0 (dlX10_takesClause_0.at 9 rfl) rfl rfl ?_
      refine q_get hE (dlX10_takesClause_0.at 10 rfl) kc10 wf_X10_56 g102 rfl rfl rfl ?_
      refine q_iload_n hE 1 (dlX10_takesClause_0.at 11 rfl) rfl rfl ?_
      refine q_aload_n hE 0 (dlX10_takesClause_0.at 12 rfl) rfl rfl ?_
      refine q_get hE (dlX10_takesClause_0.at 13 rfl) kc10 wf_X10_44 g102 rfl rfl rfl ?_
      refine q_iast hE hfx (dlX10_takesClause_0.at 14 rfl) g110 rfl u110 hm (fun hm => ?_)
      refine q_lth (X := fun z => WG V o z) hm (fun h5 hm => ?_)
      refine q_aload_n hE 0 (dlX10_takesClause_0.at 15 rfl) rfl rfl ?_
      refine q_get hE (dlX10_takesClause_0.at 16 rfl) kc10 wf_X10_53 g102 rfl rfl rfl ?_
      refine q_iload_n hE 1 (dlX10_takesClause_0.at 17 rfl) rfl rfl ?_
      refine q_iald hE (dlX10_takesClause_0.at 18 rfl) g109 rfl hm (fun hm => ?_)
      refine q_iconst hE (dlX10_takesClause_0.at 19 rfl) ic_2 ?_
      refine q_icmp_eq hE (tgt := 54) (dlX10_takesClause_0.at 20 rfl) (by decide) hm (fun hc6 hm => ?_) (fun hc6 hm => ?_)
      · refine q_iconst hE (dlX10_takesClause_0.at 29 rfl) ic_1 ?_
        refine q_goto hE (tgt := 59) (dlX10_takesClause_0.at 30 rfl) (by decide) ?_
        exact q_bret (X := fun z => WG V o z) hE (dlX10_takesClause_0.at 32 rfl) hm hQ rfl (by decide)
      · refine q_aload_n hE 0 (dlX10_takesClause_0.at 21 rfl) rfl rfl ?_
        refine q_bipush hE (dlX10_takesClause_0.at 22 rfl) bc_32 ?_
        refine q_callV_i (X := fun z => WG V o z) hE (As := [_]) (dlX10_takesClause_0.at 23 rfl) mw_X10_takes wm_X10_232 rfl rfl rfl rfl (Nat.zero_le _) (Nat.zero_le _) rfl kc10 g102 rfl (ok_X10_takes hfx) hm (fun v7 h7 hm => ?_)
        refine q_if_eq hE (tgt := 58) (dlX10_takesClause_0.at 24 rfl) (by decide) hm (fun hc8 hm => ?_) (fun hc8 hm => ?_)
        · refine q_iconst hE (dlX10_takesClause_0.at 31 rfl) ic_0 ?_
          exact q_bret (X := fun z => WG V o z) hE (dlX10_takesClause_0.at 32 rfl) hm hQ rfl (by decide)
        · refine q_aload_n hE 0 (dlX10_takesClause_0.at 25 rfl) rfl rfl ?_
          refine q_iload_n hE 1 (dlX10_takesClause_0.at 26 rfl) rfl rfl ?_
          refine q_callV_i (X := fun z => WG V o z) hE (As := [_]) (dlX10_takesClause_0.at 27 rfl) mw_X10_takesE wm_X10_265 rfl rfl rfl rfl (Nat.zero_le _) (Nat.zero_le _) rfl kc10 g102 rfl (ok_X10_takesE hfx) hm (fun v9 h9 hm => ?_)
          refine q_if_eq hE (tgt := 58) (dlX10_takesClause_0.at 28 rfl) (by decide) hm (fun hc10 hm => ?_) (fun hc10 hm => ?_)
          · refine q_iconst hE (dlX10_takesClause_0.at 31 rfl) ic_0 ?_
            exact q_bret (X := fun z => WG V o z) hE (dlX10_takesClause_0.at 32 rfl) hm hQ rfl (by decide)
          · refine q_iconst hE (dlX10_takesClause_0.at 29 rfl) ic_1 ?_
            refine q_goto hE (tgt := 59) (dlX10_takesClause_0.at 30 rfl) (by decide) ?_
            exact q_bret (X := fun z => WG V o z) hE (dlX10_takesClause_0.at 32 rfl) hm hQ rfl (by decide)
set_option maxRecDepth 10000 in
theorem okL_X10_goesText_15 {V : Ev} {l : Launch} {o : PH} {F : Nat}  (hfx : V.2.2.2.2 = false) {E : Cx} (hE : CX E V l cX10_goesText RX10 3 7 0 0 (some .boolean)) {r : Int32 × PH} (hQ : RQ E V 143 (WG V o r.2) (some (.int r.1)) 0 0) : ∀ (n : Nat) (x1 : Int32) (x2 : Int32) (h : PH), fL_X10_goesText_15 F n x1 x2 h = some r → PW E V 0 0 143 (WG V o h) 15 [(0, rf V 102), (1, .int x1), (2, .int x2)] [] := by
  intro n
  induction n with
  | zero => intro x1 x2 h hm; cases hm
  | succ n ih =>
    intro x1 x2 h hm
    rw [fL_X10_goesText_15] at hm
    refine q_aload_n hE 0 (dlX10_goesText_0.at 10 rfl) rfl rfl ?_
    refine q_bipush hE (dlX10_goesText_0.at 11 rfl) bc_10 ?_
    refine q_iload_n hE 1 (dlX10_goesText_0.at 12 rfl) rfl rfl ?_
    refine q_imul hE (dlX10_goesText_0.at 13 rfl) ?_
    refine q_iload_n hE 2 (dlX10_goesText_0.at 14 rfl) rfl rfl ?_
    refine q_iadd hE (dlX10_goesText_0.at 15 rfl) ?_
    refine q_callV_i (X := fun z => WG V o z) hE (As := [_]) (dlX10_goesText_0.at 16 rfl) mw_X10_takesClause wm_X10_268 rfl rfl rfl rfl (Nat.zero_le _) (Nat.zero_le _) rfl kc10 g102 rfl (ok_X10_takesClause hfx) hm (fun v3 h3 hm => ?_)
    refine q_if_ne hE (tgt := 30) (dlX10_goesText_0.at 17 rfl) (by decide) hm (fun hc4 hm => ?_) (fun hc4 hm => ?_)
    · refine q_iconst hE (dlX10_goesText_0.at 18 rfl) ic_0 ?_
      exact q_bret (X := fun z => WG V o z) hE (dlX10_goesText_0.at 19 rfl) hm hQ rfl (by decide)
    · refine q_iinc hE [(0, _), (1, _), (2, _)] 2 (dlX10_goesText_0.at 20 rfl) rfl ic_1 rfl rfl ?_
      refine q_aload_n hE 0 (dlX10_goesText_0.at 21 rfl) rfl rfl ?_
      refine q_get hE (dlX10_goesText_0.at 22 rfl) kc10 wf_X10_50 g102 rfl rfl rfl ?_
      refine q_iload_n hE 1 (dlX10_goesText_0.at 23 rfl) rfl rfl ?_
      refine q_iload_n hE 2 (dlX10_goesText_0.at 24 rfl) rfl rfl ?_
      refine q_iast hE hfx (dlX10_goesText_0.at 25 rfl) g108 rfl u108 hm (fun hm => ?_)
      refine q_lth (X := fun z => WG V o z) hm (fun h5 hm => ?_)
      refine q_aload_n hE 0 (dlX10_goesText_0.at 26 rfl) rfl rfl ?_
      refine q_get hE (dlX10_goesText_0.at 27 rfl) kc10 wf_X10_41 g102 rfl rfl rfl ?_
      refine q_aload_n hE 0 (dlX10_goesText_0.at 28 rfl) rfl rfl ?_
      refine q_get hE (dlX10_goesText_0.at 29 rfl) kc10 wf_X10_38 g102 rfl rfl rfl ?_
      refine q_icmp_ne hE (tgt := 53) (dlX10_goesText_0.at 30 rfl) (by decide) hm (fun hc6 hm => ?_) (fun hc6 hm => ?_)
      · refine q_iconst hE (dlX10_goesText_0.at 31 rfl) ic_1 ?_
        exact q_bret (X := fun z => WG V o z) hE (dlX10_goesText_0.at 32 rfl) hm hQ rfl (by decide)
      · refine q_iload_n hE 2 (dlX10_goesText_0.at 33 rfl) rfl rfl ?_
        refine q_bipush hE (dlX10_goesText_0.at 34 rfl) bc_10 ?_
        refine q_icmp_eq hE (tgt := 68) (dlX10_goesText_0.at 35 rfl) (by decide) hm (fun hc7 hm => ?_) (fun hc7 hm => ?_)
        · refine q_iconst hE (dlX10_goesText_1.at 0 rfl) ic_0 ?_
          exact q_bret (X := fun z => WG V o z) hE (dlX10_goesText_1.at 1 rfl) hm hQ rfl (by decide)
        · refine q_aload_n hE 0 (dlX10_goesText_0.at 36 rfl) rfl rfl ?_
          refine q_bipush hE (dlX10_goesText_0.at 37 rfl) bc_59 ?_
          refine q_callV_i (X := fun z => WG V o z) hE (As := [_]) (dlX10_goesText_0.at 38 rfl) mw_X10_takes wm_X10_232 rfl rfl rfl rfl (Nat.zero_le _) (Nat.zero_le _) rfl kc10 g102 rfl (ok_X10_takes hfx) hm (fun v8 h8 hm => ?_)
          refine q_if_ne hE (tgt := 15) (dlX10_goesText_0.at 39 rfl) (by decide) hm (fun hc9 hm => ?_) (fun hc9 hm => ?_)
          · refine q_iconst hE (dlX10_goesText_1.at 0 rfl) ic_0 ?_
            exact q_bret (X := fun z => WG V o z) hE (dlX10_goesText_1.at 1 rfl) hm hQ rfl (by decide)
          · refine q_sub hE [0, 1, 2] rfl ?_
            exact ih _ _ _  hm
set_option maxRecDepth 10000 in
theorem ok_X10_goesText {V : Ev} {l : Launch} {o : PH} {F : Nat}  (hfx : V.2.2.2.2 = false) {a1 : Int32} {h : PH} : ∀ (v : Int32) (h' : PH), f_X10_goesText F a1 h = some (v, h') → Ctr l V yX10_goesText cX10_goesText 3 (some .boolean) 7 [rf V 102, .int a1] 143 (WG V o h) 143 (WG V o (h')) (some (.int v)) 0 0 := by
  intro v h' hm
  refine Ctr.intro RX10 (by decide +kernel) rfl rfl rfl ?_
  intro E hE hQ _
  unfold f_X10_goesText at hm
  refine q_aload_n hE 0 (dlX10_goesText_0.at 0 rfl) rfl rfl ?_
  refine q_iconst hE (dlX10_goesText_0.at 1 rfl) ic_0 ?_
  refine q_put hE hfx (dlX10_goesText_0.at 2 rfl) kc10 wf_X10_41 g102 rfl rfl rfl rfl rfl rfl u102_10 ?_
  refine q_lth (X := fun z => WG V o z) hm (fun h1 hm => ?_)
  refine q_aload_n hE 0 (dlX10_goesText_0.at 3 rfl) rfl rfl ?_
  refine q_bipush hE (dlX10_goesText_0.at 4 rfl) bc_100 ?_
  refine q_iload_n hE 1 (dlX10_goesText_0.at 5 rfl) rfl rfl ?_
  refine q_imul hE (dlX10_goesText_0.at 6 rfl) ?_
  refine q_put hE hfx (dlX10_goesText_0.at 7 rfl) kc10 wf_X10_71 g102 rfl rfl rfl rfl rfl rfl u102_20 ?_
  refine q_lth (X := fun z => WG V o z) hm (fun h2 hm => ?_)
  refine q_iconst hE (dlX10_goesText_0.at 8 rfl) ic_0 ?_
  refine q_istore_n hE [(0, _), (1, _), (2, _)] (dlX10_goesText_0.at 9 rfl) rfl rfl rfl ?_
  refine q_sub hE [0, 1, 2] rfl ?_
  exact okL_X10_goesText_15 hfx hE hQ  F _ _ _  hm
set_option maxRecDepth 10000 in
theorem ok_X10_bench {V : Ev} {l : Launch} {o : PH} {F : Nat}  (hfx : V.2.2.2.2 = false)  {h : PH} : ∀ (v : Int32) (h' : PH), f_X10_bench F  h = some (v, h') → Ctr l V yX10_bench cX10_bench 2 (some .int) 8 [rf V 102] 143 (WG V o h) 143 (WG V o (h')) (some (.int v)) 0 0 := by
  intro v h' hm
  refine Ctr.intro RX10 (by decide +kernel) rfl rfl rfl ?_
  intro E hE hQ _
  unfold f_X10_bench at hm
  refine q_aload_n hE 0 (dlX10_bench_0.at 0 rfl) rfl rfl ?_
  refine q_get hE (dlX10_bench_0.at 1 rfl) kc10 wf_X10_32 g102 rfl rfl rfl ?_
  refine q_bipush hE (dlX10_bench_0.at 2 rfl) bc_6 ?_
  refine q_icmp_ne hE (tgt := 12) (dlX10_bench_0.at 3 rfl) (by decide) hm (fun hc1 hm => ?_) (fun hc1 hm => ?_)
  · refine q_bipush hE (dlX10_bench_0.at 4 rfl) bc_m4 ?_
    exact q_iret (X := fun z => WG V o z) hE (dlX10_bench_0.at 5 rfl) hm hQ rfl
  · refine q_aload_n hE 0 (dlX10_bench_0.at 6 rfl) rfl rfl ?_
    refine q_aload_n hE 0 (dlX10_bench_0.at 7 rfl) rfl rfl ?_
    refine q_get hE (dlX10_bench_0.at 8 rfl) kc10 wf_X10_32 g102 rfl rfl rfl ?_
    refine q_callV_i (X := fun z => WG V o z) hE (As := [_]) (dlX10_bench_0.at 9 rfl) mw_X10_goesText wm_X10_271 rfl rfl rfl rfl (Nat.zero_le _) (Nat.zero_le _) rfl kc10 g102 rfl (ok_X10_goesText hfx) hm (fun v2 h2 hm => ?_)
    refine q_istore_n hE [(0, _), (1, _)] (dlX10_bench_0.at 10 rfl) rfl rfl rfl ?_
    refine q_aload_n hE 0 (dlX10_bench_0.at 11 rfl) rfl rfl ?_
    refine q_iconst hE (dlX10_bench_0.at 12 rfl) ic_0 ?_
    refine q_put hE hfx (dlX10_bench_0.at 13 rfl) kc10 wf_X10_38 g102 rfl rfl rfl rfl rfl rfl u102_9 ?_
    refine q_lth (X := fun z => WG V o z) hm (fun h3 hm => ?_)
    refine q_iload_n hE 1 (dlX10_bench_0.at 14 rfl) rfl rfl ?_
    refine q_if_ne hE (tgt := 38) (dlX10_bench_0.at 15 rfl) (by decide) hm (fun hc4 hm => ?_) (fun hc4 hm => ?_)
    · refine q_bipush hE (dlX10_bench_0.at 16 rfl) bc_m10 ?_
      refine q_aload_n hE 0 (dlX10_bench_0.at 17 rfl) rfl rfl ?_
      refine q_get hE (dlX10_bench_0.at 18 rfl) kc10 wf_X10_41 g102 rfl rfl rfl ?_
      refine q_isub hE (dlX10_bench_0.at 19 rfl) ?_
      exact q_iret (X := fun z => WG V o z) hE (dlX10_bench_0.at 20 rfl) hm hQ rfl
    · refine q_aload_n hE 0 (dlX10_bench_0.at 21 rfl) rfl rfl ?_
      refine q_aload_n hE 0 (dlX10_bench_0.at 22 rfl) rfl rfl ?_
      refine q_get hE (dlX10_bench_0.at 23 rfl) kc10 wf_X10_32 g102 rfl rfl rfl ?_
      refine q_put hE hfx (dlX10_bench_0.at 24 rfl) kc10 wf_X10_35 g102 rfl rfl rfl rfl rfl rfl u102_8 ?_
      refine q_lth (X := fun z => WG V o z) hm (fun h5 hm => ?_)
      refine q_aload_n hE 0 (dlX10_bench_0.at 25 rfl) rfl rfl ?_
      refine q_dup hE (dlX10_bench_0.at 26 rfl) rfl ?_
      refine q_get hE (dlX10_bench_0.at 27 rfl) kc10 wf_X10_32 g102 rfl rfl rfl ?_
      refine q_iconst hE (dlX10_bench_0.at 28 rfl) ic_1 ?_
      refine q_iadd hE (dlX10_bench_0.at 29 rfl) ?_
      refine q_put hE hfx (dlX10_bench_0.at 30 rfl) kc10 wf_X10_32 g102 rfl rfl rfl rfl rfl rfl u102_7 ?_
      refine q_lth (X := fun z => WG V o z) hm (fun h6 hm => ?_)
      refine q_aload_n hE 0 (dlX10_bench_0.at 31 rfl) rfl rfl ?_
      refine q_get hE (dlX10_bench_0.at 32 rfl) kc10 wf_X10_35 g102 rfl rfl rfl ?_
      exact q_iret (X := fun z => WG V o z) hE (dlX10_bench_0.at 33 rfl) hm hQ rfl
set_option maxRecDepth 10000 in
theorem ok_X10_isDay {V : Ev} {l : Launch} {o : PH} {F : Nat}  (hfx : V.2.2.2.2 = false) {a1 : Int32} {h : PH} : ∀ (v : Int32) (h' : PH), f_X10_isDay F a1 h = some (v, h') → Ctr l V yX10_isDay cX10_isDay 2 (some .boolean) 2 [rf V 102, .int a1] 143 (WG V o h) 143 (WG V o (h')) (some (.int v)) 0 0 := by
  intro v h' hm
  refine Ctr.intro RX10 (by decide +kernel) rfl rfl rfl ?_
  intro E hE hQ _
  unfold f_X10_isDay at hm
  refine q_aload_n hE 0 (dlX10_isDay_0.at 0 rfl) rfl rfl ?_
  refine q_iload_n hE 1 (dlX10_isDay_0.at 1 rfl) rfl rfl ?_
  refine q_iconst hE (dlX10_isDay_0.at 2 rfl) ic_0 ?_
  refine q_sipush hE (dlX10_isDay_0.at 3 rfl) sc_9999 ?_
  refine q_callV_i (X := fun z => WG V o z) hE (As := [_, _, _]) (dlX10_isDay_0.at 4 rfl) mw_X10_in wm_X10_212 rfl rfl rfl rfl (Nat.zero_le _) (Nat.zero_le _) rfl kc10 g102 rfl (ok_X10_in hfx) hm (fun v1 h1 hm => ?_)
  exact q_bret (X := fun z => WG V o z) hE (dlX10_isDay_0.at 5 rfl) hm hQ rfl rfl
set_option maxRecDepth 10000 in
theorem ok_X10_begin {V : Ev} {l : Launch} {o : PH} {F : Nat}  (hfx : V.2.2.2.2 = false)  {h : PH} : ∀ (v : Int32) (h' : PH), f_X10_begin F  h = some (v, h') → Ctr l V yX10_begin cX10_begin 1 (some .int) 1 [rf V 102] 143 (WG V o h) 143 (WG V o (h')) (some (.int v)) 0 0 := by
  intro v h' hm
  refine Ctr.intro RX10 (by decide +kernel) rfl rfl rfl ?_
  intro E hE hQ _
  unfold f_X10_begin at hm
  refine q_aload_n hE 0 (dlX10_begin_0.at 0 rfl) rfl rfl ?_
  refine q_get hE (dlX10_begin_0.at 1 rfl) kc10 wf_X10_35 g102 rfl rfl rfl ?_
  refine q_if_ge hE (tgt := 11) (dlX10_begin_0.at 2 rfl) (by decide) hm (fun hc1 hm => ?_) (fun hc1 hm => ?_)
  · refine q_bipush hE (dlX10_begin_0.at 5 rfl) bc_10 ?_
    refine q_aload_n hE 0 (dlX10_begin_0.at 6 rfl) rfl rfl ?_
    refine q_get hE (dlX10_begin_0.at 7 rfl) kc10 wf_X10_35 g102 rfl rfl rfl ?_
    refine q_imul hE (dlX10_begin_0.at 8 rfl) ?_
    exact q_iret (X := fun z => WG V o z) hE (dlX10_begin_0.at 9 rfl) hm hQ rfl
  · refine q_iconst hE (dlX10_begin_0.at 3 rfl) ic_0 ?_
    refine q_goto hE (tgt := 18) (dlX10_begin_0.at 4 rfl) (by decide) ?_
    exact q_iret (X := fun z => WG V o z) hE (dlX10_begin_0.at 9 rfl) hm hQ rfl
set_option maxRecDepth 10000 in
theorem ok_X10_behind {V : Ev} {l : Launch} {o : PH} {F : Nat}  (hfx : V.2.2.2.2 = false)  {h : PH} : ∀ (v : Int32) (h' : PH), f_X10_behind F  h = some (v, h') → Ctr l V yX10_behind cX10_behind 1 (some .int) 1 [rf V 102] 143 (WG V o h) 143 (WG V o (h')) (some (.int v)) 0 0 := by
  intro v h' hm
  refine Ctr.intro RX10 (by decide +kernel) rfl rfl rfl ?_
  intro E hE hQ _
  unfold f_X10_behind at hm
  refine q_aload_n hE 0 (dlX10_behind_0.at 0 rfl) rfl rfl ?_
  refine q_get hE (dlX10_behind_0.at 1 rfl) kc10 wf_X10_35 g102 rfl rfl rfl ?_
  refine q_if_ge hE (tgt := 11) (dlX10_behind_0.at 2 rfl) (by decide) hm (fun hc1 hm => ?_) (fun hc1 hm => ?_)
  · refine q_bipush hE (dlX10_behind_0.at 5 rfl) bc_10 ?_
    refine q_aload_n hE 0 (dlX10_behind_0.at 6 rfl) rfl rfl ?_
    refine q_get hE (dlX10_behind_0.at 7 rfl) kc10 wf_X10_35 g102 rfl rfl rfl ?_
    refine q_imul hE (dlX10_behind_0.at 8 rfl) ?_
    refine q_aload_n hE 0 (dlX10_behind_0.at 9 rfl) rfl rfl ?_
    refine q_get hE (dlX10_behind_0.at 10 rfl) kc10 wf_X10_50 g102 rfl rfl rfl ?_
    refine q_aload_n hE 0 (dlX10_behind_0.at 11 rfl) rfl rfl ?_
    refine q_get hE (dlX10_behind_0.at 12 rfl) kc10 wf_X10_35 g102 rfl rfl rfl ?_
    refine q_iald hE (dlX10_behind_0.at 13 rfl) g108 rfl hm (fun hm => ?_)
    refine q_iadd hE (dlX10_behind_0.at 14 rfl) ?_
    exact q_iret (X := fun z => WG V o z) hE (dlX10_behind_0.at 15 rfl) hm hQ rfl
  · refine q_iconst hE (dlX10_behind_0.at 3 rfl) ic_0 ?_
    refine q_goto hE (tgt := 28) (dlX10_behind_0.at 4 rfl) (by decide) ?_
    exact q_iret (X := fun z => WG V o z) hE (dlX10_behind_0.at 15 rfl) hm hQ rfl
set_option maxRecDepth 10000 in
theorem ok_X10_factOf {V : Ev} {l : Launch} {o : PH} {F : Nat}  (hfx : V.2.2.2.2 = false) {a1 : Int32} {a2 : Int32} {a3 : Int32} {h : PH} : ∀ (v : Int32) (h' : PH), f_X10_factOf F a1 a2 a3 h = some (v, h') → Ctr l V yX10_factOf cX10_factOf 4 (some .int) 1 [rf V 102, .int a1, .int a2, .int a3] 143 (WG V o h) 143 (WG V o (h')) (some (.int v)) 0 0 := by
  intro v h' hm
  refine Ctr.intro RX10 (by decide +kernel) rfl rfl rfl ?_
  intro E hE hQ _
  unfold f_X10_factOf at hm
  refine q_iload_n hE 1 (dlX10_factOf_0.at 0 rfl) rfl rfl ?_
  refine q_tcase hE (dlX10_factOf_0.at 1 rfl) (0 : Int32) 36 (by decide) hm (fun _ hm => ?_) (fun hn1_0 hm => ?_)
  · refine q_iload_n hE 2 (dlX10_factOf_0.at 2 rfl) rfl rfl ?_
    exact q_iret (X := fun z => WG V o z) hE (dlX10_factOf_0.at 3 rfl) hm hQ rfl
  · refine q_tcase hE (dlX10_factOf_0.at 1 rfl) (1 : Int32) 38 (by decide) hm (fun _ hm => ?_) (fun hn1_1 hm => ?_)
    · refine q_aload_n hE 0 (dlX10_factOf_0.at 4 rfl) rfl rfl ?_
      refine q_get hE (dlX10_factOf_0.at 5 rfl) kc10 wf_X10_19 g102 rfl rfl rfl ?_
      refine q_iload_n hE 2 (dlX10_factOf_0.at 6 rfl) rfl rfl ?_
      refine q_iald hE (dlX10_factOf_0.at 7 rfl) g103 rfl hm (fun hm => ?_)
      exact q_iret (X := fun z => WG V o z) hE (dlX10_factOf_0.at 8 rfl) hm hQ rfl
    · refine q_tcase hE (dlX10_factOf_0.at 1 rfl) (2 : Int32) 45 (by decide) hm (fun _ hm => ?_) (fun hn1_2 hm => ?_)
      · refine q_aload_n hE 0 (dlX10_factOf_0.at 9 rfl) rfl rfl ?_
        refine q_get hE (dlX10_factOf_0.at 10 rfl) kc10 wf_X10_23 g102 rfl rfl rfl ?_
        refine q_iload_n hE 2 (dlX10_factOf_0.at 11 rfl) rfl rfl ?_
        refine q_iald hE (dlX10_factOf_0.at 12 rfl) g104 rfl hm (fun hm => ?_)
        exact q_iret (X := fun z => WG V o z) hE (dlX10_factOf_0.at 13 rfl) hm hQ rfl
      · refine q_tcase hE (dlX10_factOf_0.at 1 rfl) (3 : Int32) 52 (by decide) hm (fun _ hm => ?_) (fun hn1_3 hm => ?_)
        · refine q_iload_n hE 3 (dlX10_factOf_0.at 14 rfl) rfl rfl ?_
          refine q_bipush hE (dlX10_factOf_0.at 15 rfl) bc_10 ?_
          refine q_irem hE (dlX10_factOf_0.at 16 rfl) hm (fun hm => ?_)
          exact q_iret (X := fun z => WG V o z) hE (dlX10_factOf_0.at 17 rfl) hm hQ rfl
        · refine q_tcase hE (dlX10_factOf_0.at 1 rfl) (4 : Int32) 57 (by decide) hm (fun _ hm => ?_) (fun hn1_4 hm => ?_)
          · refine q_iload_n hE 3 (dlX10_factOf_0.at 18 rfl) rfl rfl ?_
            refine q_bipush hE (dlX10_factOf_0.at 19 rfl) bc_10 ?_
            refine q_idiv hE (dlX10_factOf_0.at 20 rfl) hm (fun hm => ?_)
            refine q_bipush hE (dlX10_factOf_0.at 21 rfl) bc_10 ?_
            refine q_irem hE (dlX10_factOf_0.at 22 rfl) hm (fun hm => ?_)
            exact q_iret (X := fun z => WG V o z) hE (dlX10_factOf_0.at 23 rfl) hm hQ rfl
          · refine q_tdef hE (tgt := 65) (dlX10_factOf_0.at 1 rfl) (by have := lv_neT (a := 0) hn1_0 (by decide); have := lv_neT (a := 1) hn1_1 (by decide); have := lv_neT (a := 2) hn1_2 (by decide); have := lv_neT (a := 3) hn1_3 (by decide); have := lv_neT (a := 4) hn1_4 (by decide); omega) (by decide) ?_
            refine q_iload_n hE 3 (dlX10_factOf_0.at 24 rfl) rfl rfl ?_
            refine q_bipush hE (dlX10_factOf_0.at 25 rfl) bc_100 ?_
            refine q_irem hE (dlX10_factOf_0.at 26 rfl) hm (fun hm => ?_)
            exact q_iret (X := fun z => WG V o z) hE (dlX10_factOf_0.at 27 rfl) hm hQ rfl
set_option maxRecDepth 10000 in
theorem okL_X10_holds_11 {V : Ev} {l : Launch} {o : PH} {F : Nat}  (hfx : V.2.2.2.2 = false) {E : Cx} (hE : CX E V l cX10_holds RX10 9 2 0 0 (some .boolean)) {r : Int32 × PH} (hQ : RQ E V 143 (WG V o r.2) (some (.int r.1)) 0 0) : ∀ (n : Nat) (x1 : Int32) (x2 : Int32) (x3 : Int32) (x4 : Int32) (x5 : Int32) (h : PH), fL_X10_holds_11 F n x1 x2 x3 x4 x5 h = some r → PW E V 0 0 143 (WG V o h) 11 [(0, rf V 102), (1, .int x1), (2, .int x2), (3, .int x3), (4, .int x4), (5, .int x5)] [] := by
  intro n
  induction n with
  | zero => intro x1 x2 x3 x4 x5 h hm; cases hm
  | succ n ih =>
    intro x1 x2 x3 x4 x5 h hm
    rw [fL_X10_holds_11] at hm
    refine q_iload hE 5 (dlX10_holds_0.at 7 rfl) rfl ?_
    refine q_aload_n hE 0 (dlX10_holds_0.at 8 rfl) rfl rfl ?_
    refine q_get hE (dlX10_holds_0.at 9 rfl) kc10 wf_X10_62 g102 rfl rfl rfl ?_
    refine q_iload_n hE 1 (dlX10_holds_0.at 10 rfl) rfl rfl ?_
    refine q_iald hE (dlX10_holds_0.at 11 rfl) g112 rfl hm (fun hm => ?_)
    refine q_icmp_ge hE (tgt := 253) (dlX10_holds_0.at 12 rfl) (by decide) hm (fun hc1 hm => ?_) (fun hc1 hm => ?_)
    · refine q_aload_n hE 0 (dlX10_holds_3.at 14 rfl) rfl rfl ?_
      refine q_get hE (dlX10_holds_3.at 15 rfl) kc10 wf_X10_83 g102 rfl rfl rfl ?_
      refine q_iconst hE (dlX10_holds_3.at 16 rfl) ic_0 ?_
      refine q_zald hE (dlX10_holds_3.at 17 rfl) g116 rfl hm (fun hm => ?_)
      exact q_bret (X := fun z => WG V o z) hE (dlX10_holds_3.at 18 rfl) hm hQ rfl rfl
    · refine q_aload_n hE 0 (dlX10_holds_0.at 13 rfl) rfl rfl ?_
      refine q_get hE (dlX10_holds_0.at 14 rfl) kc10 wf_X10_65 g102 rfl rfl rfl ?_
      refine q_iload hE 5 (dlX10_holds_0.at 15 rfl) rfl ?_
      refine q_iald hE (dlX10_holds_0.at 16 rfl) g113 rfl hm (fun hm => ?_)
      refine q_istore hE [(0, _), (1, _), (2, _), (3, _), (4, _), (5, _), (6, _)] (dlX10_holds_0.at 17 rfl) rfl rfl ?_
      refine q_iload hE 6 (dlX10_holds_0.at 18 rfl) rfl ?_
      refine q_bipush hE (dlX10_holds_0.at 19 rfl) bc_m33 ?_
      refine q_icmp_ne hE (tgt := 67) (dlX10_holds_0.at 20 rfl) (by decide) hm (fun hc2 hm => ?_) (fun hc2 hm => ?_)
      · refine q_aload_n hE 0 (dlX10_holds_0.at 21 rfl) rfl rfl ?_
        refine q_get hE (dlX10_holds_0.at 22 rfl) kc10 wf_X10_83 g102 rfl rfl rfl ?_
        refine q_iload hE 4 (dlX10_holds_0.at 23 rfl) rfl ?_
        refine q_iconst hE (dlX10_holds_0.at 24 rfl) ic_1 ?_
        refine q_isub hE (dlX10_holds_0.at 25 rfl) ?_
        refine q_aload_n hE 0 (dlX10_holds_0.at 26 rfl) rfl rfl ?_
        refine q_get hE (dlX10_holds_0.at 27 rfl) kc10 wf_X10_83 g102 rfl rfl rfl ?_
        refine q_iload hE 4 (dlX10_holds_0.at 28 rfl) rfl ?_
        refine q_iconst hE (dlX10_holds_0.at 29 rfl) ic_1 ?_
        refine q_isub hE (dlX10_holds_0.at 30 rfl) ?_
        refine q_zald hE (dlX10_holds_0.at 31 rfl) g116 rfl hm (fun hm => ?_)
        refine q_if_ne hE (tgt := 62) (dlX10_holds_0.at 32 rfl) (by decide) hm (fun hc27 hm => ?_) (fun hc27 hm => ?_)
        · refine q_iconst hE (dlX10_holds_0.at 33 rfl) ic_1 ?_
          refine q_goto hE (tgt := 63) (dlX10_holds_0.at 34 rfl) (by decide) ?_
          refine q_zast hE hfx (dlX10_holds_0.at 36 rfl) g116 rfl u116 hm (fun hm => ?_)
          refine q_lth (X := fun z => WG V o z) hm (fun h29 hm => ?_)
          refine q_goto hE (tgt := 247) (dlX10_holds_0.at 37 rfl) (by decide) ?_
          refine q_iinc hE [(0, _), (1, _), (2, _), (3, _), (4, _), (5, _), (6, _)] 5 (dlX10_holds_3.at 12 rfl) rfl ic_1 rfl rfl ?_
          refine q_goto hE (tgt := 11) (dlX10_holds_3.at 13 rfl) (by decide) ?_
          refine q_sub hE [0, 1, 2, 3, 4, 5] rfl ?_
          exact ih _ _ _ _ _ _  hm
        · refine q_iconst hE (dlX10_holds_0.at 35 rfl) ic_0 ?_
          refine q_zast hE hfx (dlX10_holds_0.at 36 rfl) g116 rfl u116 hm (fun hm => ?_)
          refine q_lth (X := fun z => WG V o z) hm (fun h28 hm => ?_)
          refine q_goto hE (tgt := 247) (dlX10_holds_0.at 37 rfl) (by decide) ?_
          refine q_iinc hE [(0, _), (1, _), (2, _), (3, _), (4, _), (5, _), (6, _)] 5 (dlX10_holds_3.at 12 rfl) rfl ic_1 rfl rfl ?_
          refine q_goto hE (tgt := 11) (dlX10_holds_3.at 13 rfl) (by decide) ?_
          refine q_sub hE [0, 1, 2, 3, 4, 5] rfl ?_
          exact ih _ _ _ _ _ _  hm
      · refine q_iload hE 6 (dlX10_holds_0.at 38 rfl) rfl ?_
        refine q_if_ge hE (tgt := 151) (dlX10_holds_0.at 39 rfl) (by decide) hm (fun hc3 hm => ?_) (fun hc3 hm => ?_)
        · refine q_aload_n hE 0 (dlX10_holds_2.at 2 rfl) rfl rfl ?_
          refine q_iload hE 6 (dlX10_holds_2.at 3 rfl) rfl ?_
          refine q_sipush hE (dlX10_holds_2.at 4 rfl) sc_1000 ?_
          refine q_idiv hE (dlX10_holds_2.at 5 rfl) hm (fun hm => ?_)
          refine q_iload_n hE 2 (dlX10_holds_2.at 6 rfl) rfl rfl ?_
          refine q_iload_n hE 3 (dlX10_holds_2.at 7 rfl) rfl rfl ?_
          refine q_callV_i (X := fun z => WG V o z) hE (As := [_, _, _]) (dlX10_holds_2.at 8 rfl) mw_X10_factOf wm_X10_280 rfl rfl rfl rfl (Nat.zero_le _) (Nat.zero_le _) rfl kc10 g102 rfl (ok_X10_factOf hfx) hm (fun v4 h4 hm => ?_)
          refine q_istore hE [(0, _), (1, _), (2, _), (3, _), (4, _), (5, _), (6, _), (7, _)] (dlX10_holds_2.at 9 rfl) rfl rfl ?_
          refine q_iload hE 6 (dlX10_holds_2.at 10 rfl) rfl ?_
          refine q_bipush hE (dlX10_holds_2.at 11 rfl) bc_100 ?_
          refine q_idiv hE (dlX10_holds_2.at 12 rfl) hm (fun hm => ?_)
          refine q_bipush hE (dlX10_holds_2.at 13 rfl) bc_10 ?_
          refine q_irem hE (dlX10_holds_2.at 14 rfl) hm (fun hm => ?_)
          refine q_istore hE [(0, _), (1, _), (2, _), (3, _), (4, _), (5, _), (6, _), (7, _), (8, _)] (dlX10_holds_2.at 15 rfl) rfl rfl ?_
          refine q_aload_n hE 0 (dlX10_holds_2.at 16 rfl) rfl rfl ?_
          refine q_get hE (dlX10_holds_2.at 17 rfl) kc10 wf_X10_83 g102 rfl rfl rfl ?_
          refine q_iload hE 4 (dlX10_holds_2.at 18 rfl) rfl ?_
          refine q_iload hE 8 (dlX10_holds_2.at 19 rfl) rfl ?_
          refine q_if_ne hE (tgt := 204) (dlX10_holds_2.at 20 rfl) (by decide) hm (fun hc5 hm => ?_) (fun hc5 hm => ?_)
          · refine q_iload hE 7 (dlX10_holds_2.at 21 rfl) rfl ?_
            refine q_iload hE 6 (dlX10_holds_2.at 22 rfl) rfl ?_
            refine q_bipush hE (dlX10_holds_2.at 23 rfl) bc_100 ?_
            refine q_irem hE (dlX10_holds_2.at 24 rfl) hm (fun hm => ?_)
            refine q_icmp_ge hE (tgt := 200) (dlX10_holds_2.at 25 rfl) (by decide) hm (fun hc13 hm => ?_) (fun hc13 hm => ?_)
            · refine q_iconst hE (dlX10_holds_2.at 28 rfl) ic_0 ?_
              refine q_goto hE (tgt := 243) (dlX10_holds_2.at 29 rfl) (by decide) ?_
              refine q_zast hE hfx (dlX10_holds_3.at 10 rfl) g116 rfl u116 hm (fun hm => ?_)
              refine q_lth (X := fun z => WG V o z) hm (fun h14 hm => ?_)
              refine q_iinc hE [(0, _), (1, _), (2, _), (3, _), (4, _), (5, _), (6, _), (7, _), (8, _)] 4 (dlX10_holds_3.at 11 rfl) rfl ic_1 rfl rfl ?_
              refine q_iinc hE [(0, _), (1, _), (2, _), (3, _), (4, _), (5, _), (6, _), (7, _), (8, _)] 5 (dlX10_holds_3.at 12 rfl) rfl ic_1 rfl rfl ?_
              refine q_goto hE (tgt := 11) (dlX10_holds_3.at 13 rfl) (by decide) ?_
              refine q_sub hE [0, 1, 2, 3, 4, 5] rfl ?_
              exact ih _ _ _ _ _ _  hm
            · refine q_iconst hE (dlX10_holds_2.at 26 rfl) ic_1 ?_
              refine q_goto hE (tgt := 243) (dlX10_holds_2.at 27 rfl) (by decide) ?_
              refine q_zast hE hfx (dlX10_holds_3.at 10 rfl) g116 rfl u116 hm (fun hm => ?_)
              refine q_lth (X := fun z => WG V o z) hm (fun h15 hm => ?_)
              refine q_iinc hE [(0, _), (1, _), (2, _), (3, _), (4, _), (5, _), (6, _), (7, _), (8, _)] 4 (dlX10_holds_3.at 11 rfl) rfl ic_1 rfl rfl ?_
              refine q_iinc hE [(0, _), (1, _), (2, _), (3, _), (4, _), (5, _), (6, _), (7, _), (8, _)] 5 (dlX10_holds_3.at 12 rfl) rfl ic_1 rfl rfl ?_
              refine q_goto hE (tgt := 11) (dlX10_holds_3.at 13 rfl) (by decide) ?_
              refine q_sub hE [0, 1, 2, 3, 4, 5] rfl ?_
              exact ih _ _ _ _ _ _  hm
          · refine q_iload hE 8 (dlX10_holds_2.at 30 rfl) rfl ?_
            refine q_iconst hE (dlX10_holds_2.at 31 rfl) ic_1 ?_
            refine q_icmp_ne hE (tgt := 228) (dlX10_holds_2.at 32 rfl) (by decide) hm (fun hc6 hm => ?_) (fun hc6 hm => ?_)
            · refine q_iload hE 7 (dlX10_holds_2.at 33 rfl) rfl ?_
              refine q_iload hE 6 (dlX10_holds_2.at 34 rfl) rfl ?_
              refine q_bipush hE (dlX10_holds_2.at 35 rfl) bc_100 ?_
              refine q_irem hE (dlX10_holds_2.at 36 rfl) hm (fun hm => ?_)
              refine q_icmp_ne hE (tgt := 224) (dlX10_holds_2.at 37 rfl) (by decide) hm (fun hc10 hm => ?_) (fun hc10 hm => ?_)
              · refine q_iconst hE (dlX10_holds_2.at 38 rfl) ic_1 ?_
                refine q_goto hE (tgt := 243) (dlX10_holds_2.at 39 rfl) (by decide) ?_
                refine q_zast hE hfx (dlX10_holds_3.at 10 rfl) g116 rfl u116 hm (fun hm => ?_)
                refine q_lth (X := fun z => WG V o z) hm (fun h12 hm => ?_)
                refine q_iinc hE [(0, _), (1, _), (2, _), (3, _), (4, _), (5, _), (6, _), (7, _), (8, _)] 4 (dlX10_holds_3.at 11 rfl) rfl ic_1 rfl rfl ?_
                refine q_iinc hE [(0, _), (1, _), (2, _), (3, _), (4, _), (5, _), (6, _), (7, _), (8, _)] 5 (dlX10_holds_3.at 12 rfl) rfl ic_1 rfl rfl ?_
                refine q_goto hE (tgt := 11) (dlX10_holds_3.at 13 rfl) (by decide) ?_
                refine q_sub hE [0, 1, 2, 3, 4, 5] rfl ?_
                exact ih _ _ _ _ _ _  hm
              · refine q_iconst hE (dlX10_holds_3.at 0 rfl) ic_0 ?_
                refine q_goto hE (tgt := 243) (dlX10_holds_3.at 1 rfl) (by decide) ?_
                refine q_zast hE hfx (dlX10_holds_3.at 10 rfl) g116 rfl u116 hm (fun hm => ?_)
                refine q_lth (X := fun z => WG V o z) hm (fun h11 hm => ?_)
                refine q_iinc hE [(0, _), (1, _), (2, _), (3, _), (4, _), (5, _), (6, _), (7, _), (8, _)] 4 (dlX10_holds_3.at 11 rfl) rfl ic_1 rfl rfl ?_
                refine q_iinc hE [(0, _), (1, _), (2, _), (3, _), (4, _), (5, _), (6, _), (7, _), (8, _)] 5 (dlX10_holds_3.at 12 rfl) rfl ic_1 rfl rfl ?_
                refine q_goto hE (tgt := 11) (dlX10_holds_3.at 13 rfl) (by decide) ?_
                refine q_sub hE [0, 1, 2, 3, 4, 5] rfl ?_
                exact ih _ _ _ _ _ _  hm
            · refine q_iload hE 7 (dlX10_holds_3.at 2 rfl) rfl ?_
              refine q_iload hE 6 (dlX10_holds_3.at 3 rfl) rfl ?_
              refine q_bipush hE (dlX10_holds_3.at 4 rfl) bc_100 ?_
              refine q_irem hE (dlX10_holds_3.at 5 rfl) hm (fun hm => ?_)
              refine q_icmp_le hE (tgt := 242) (dlX10_holds_3.at 6 rfl) (by decide) hm (fun hc7 hm => ?_) (fun hc7 hm => ?_)
              · refine q_iconst hE (dlX10_holds_3.at 9 rfl) ic_0 ?_
                refine q_zast hE hfx (dlX10_holds_3.at 10 rfl) g116 rfl u116 hm (fun hm => ?_)
                refine q_lth (X := fun z => WG V o z) hm (fun h8 hm => ?_)
                refine q_iinc hE [(0, _), (1, _), (2, _), (3, _), (4, _), (5, _), (6, _), (7, _), (8, _)] 4 (dlX10_holds_3.at 11 rfl) rfl ic_1 rfl rfl ?_
                refine q_iinc hE [(0, _), (1, _), (2, _), (3, _), (4, _), (5, _), (6, _), (7, _), (8, _)] 5 (dlX10_holds_3.at 12 rfl) rfl ic_1 rfl rfl ?_
                refine q_goto hE (tgt := 11) (dlX10_holds_3.at 13 rfl) (by decide) ?_
                refine q_sub hE [0, 1, 2, 3, 4, 5] rfl ?_
                exact ih _ _ _ _ _ _  hm
              · refine q_iconst hE (dlX10_holds_3.at 7 rfl) ic_1 ?_
                refine q_goto hE (tgt := 243) (dlX10_holds_3.at 8 rfl) (by decide) ?_
                refine q_zast hE hfx (dlX10_holds_3.at 10 rfl) g116 rfl u116 hm (fun hm => ?_)
                refine q_lth (X := fun z => WG V o z) hm (fun h9 hm => ?_)
                refine q_iinc hE [(0, _), (1, _), (2, _), (3, _), (4, _), (5, _), (6, _), (7, _), (8, _)] 4 (dlX10_holds_3.at 11 rfl) rfl ic_1 rfl rfl ?_
                refine q_iinc hE [(0, _), (1, _), (2, _), (3, _), (4, _), (5, _), (6, _), (7, _), (8, _)] 5 (dlX10_holds_3.at 12 rfl) rfl ic_1 rfl rfl ?_
                refine q_goto hE (tgt := 11) (dlX10_holds_3.at 13 rfl) (by decide) ?_
                refine q_sub hE [0, 1, 2, 3, 4, 5] rfl ?_
                exact ih _ _ _ _ _ _  hm
        · refine q_iinc hE [(0, _), (1, _), (2, _), (3, _), (4, _), (5, _), (6, _)] 4 (dlX10_holds_1.at 0 rfl) rfl ic_m1 rfl rfl ?_
          refine q_aload_n hE 0 (dlX10_holds_1.at 1 rfl) rfl rfl ?_
          refine q_get hE (dlX10_holds_1.at 2 rfl) kc10 wf_X10_83 g102 rfl rfl rfl ?_
          refine q_iload hE 4 (dlX10_holds_1.at 3 rfl) rfl ?_
          refine q_iconst hE (dlX10_holds_1.at 4 rfl) ic_1 ?_
          refine q_isub hE (dlX10_holds_1.at 5 rfl) ?_
          refine q_iload hE 6 (dlX10_holds_1.at 6 rfl) rfl ?_
          refine q_bipush hE (dlX10_holds_1.at 7 rfl) bc_m38 ?_
          refine q_icmp_ne hE (tgt := 120) (dlX10_holds_1.at 8 rfl) (by decide) hm (fun hc16 hm => ?_) (fun hc16 hm => ?_)
          · refine q_aload_n hE 0 (dlX10_holds_1.at 9 rfl) rfl rfl ?_
            refine q_get hE (dlX10_holds_1.at 10 rfl) kc10 wf_X10_83 g102 rfl rfl rfl ?_
            refine q_iload hE 4 (dlX10_holds_1.at 11 rfl) rfl ?_
            refine q_iconst hE (dlX10_holds_1.at 12 rfl) ic_1 ?_
            refine q_isub hE (dlX10_holds_1.at 13 rfl) ?_
            refine q_zald hE (dlX10_holds_1.at 14 rfl) g116 rfl hm (fun hm => ?_)
            refine q_if_eq hE (tgt := 116) (dlX10_holds_1.at 15 rfl) (by decide) hm (fun hc22 hm => ?_) (fun hc22 hm => ?_)
            · refine q_iconst hE (dlX10_holds_1.at 23 rfl) ic_0 ?_
              refine q_goto hE (tgt := 147) (dlX10_holds_1.at 24 rfl) (by decide) ?_
              refine q_zast hE hfx (dlX10_holds_2.at 0 rfl) g116 rfl u116 hm (fun hm => ?_)
              refine q_lth (X := fun z => WG V o z) hm (fun h23 hm => ?_)
              refine q_goto hE (tgt := 247) (dlX10_holds_2.at 1 rfl) (by decide) ?_
              refine q_iinc hE [(0, _), (1, _), (2, _), (3, _), (4, _), (5, _), (6, _)] 5 (dlX10_holds_3.at 12 rfl) rfl ic_1 rfl rfl ?_
              refine q_goto hE (tgt := 11) (dlX10_holds_3.at 13 rfl) (by decide) ?_
              refine q_sub hE [0, 1, 2, 3, 4, 5] rfl ?_
              exact ih _ _ _ _ _ _  hm
            · refine q_aload_n hE 0 (dlX10_holds_1.at 16 rfl) rfl rfl ?_
              refine q_get hE (dlX10_holds_1.at 17 rfl) kc10 wf_X10_83 g102 rfl rfl rfl ?_
              refine q_iload hE 4 (dlX10_holds_1.at 18 rfl) rfl ?_
              refine q_zald hE (dlX10_holds_1.at 19 rfl) g116 rfl hm (fun hm => ?_)
              refine q_if_eq hE (tgt := 116) (dlX10_holds_1.at 20 rfl) (by decide) hm (fun hc24 hm => ?_) (fun hc24 hm => ?_)
              · refine q_iconst hE (dlX10_holds_1.at 23 rfl) ic_0 ?_
                refine q_goto hE (tgt := 147) (dlX10_holds_1.at 24 rfl) (by decide) ?_
                refine q_zast hE hfx (dlX10_holds_2.at 0 rfl) g116 rfl u116 hm (fun hm => ?_)
                refine q_lth (X := fun z => WG V o z) hm (fun h25 hm => ?_)
                refine q_goto hE (tgt := 247) (dlX10_holds_2.at 1 rfl) (by decide) ?_
                refine q_iinc hE [(0, _), (1, _), (2, _), (3, _), (4, _), (5, _), (6, _)] 5 (dlX10_holds_3.at 12 rfl) rfl ic_1 rfl rfl ?_
                refine q_goto hE (tgt := 11) (dlX10_holds_3.at 13 rfl) (by decide) ?_
                refine q_sub hE [0, 1, 2, 3, 4, 5] rfl ?_
                exact ih _ _ _ _ _ _  hm
              · refine q_iconst hE (dlX10_holds_1.at 21 rfl) ic_1 ?_
                refine q_goto hE (tgt := 147) (dlX10_holds_1.at 22 rfl) (by decide) ?_
                refine q_zast hE hfx (dlX10_holds_2.at 0 rfl) g116 rfl u116 hm (fun hm => ?_)
                refine q_lth (X := fun z => WG V o z) hm (fun h26 hm => ?_)
                refine q_goto hE (tgt := 247) (dlX10_holds_2.at 1 rfl) (by decide) ?_
                refine q_iinc hE [(0, _), (1, _), (2, _), (3, _), (4, _), (5, _), (6, _)] 5 (dlX10_holds_3.at 12 rfl) rfl ic_1 rfl rfl ?_
                refine q_goto hE (tgt := 11) (dlX10_holds_3.at 13 rfl) (by decide) ?_
                refine q_sub hE [0, 1, 2, 3, 4, 5] rfl ?_
                exact ih _ _ _ _ _ _  hm
          · refine q_aload_n hE 0 (dlX10_holds_1.at 25 rfl) rfl rfl ?_
            refine q_get hE (dlX10_holds_1.at 26 rfl) kc10 wf_X10_83 g102 rfl rfl rfl ?_
            refine q_iload hE 4 (dlX10_holds_1.at 27 rfl) rfl ?_
            refine q_iconst hE (dlX10_holds_1.at 28 rfl) ic_1 ?_
            refine q_isub hE (dlX10_holds_1.at 29 rfl) ?_
            refine q_zald hE (dlX10_holds_1.at 30 rfl) g116 rfl hm (fun hm => ?_)
            refine q_if_ne hE (tgt := 142) (dlX10_holds_1.at 31 rfl) (by decide) hm (fun hc17 hm => ?_) (fun hc17 hm => ?_)
            · refine q_aload_n hE 0 (dlX10_holds_1.at 32 rfl) rfl rfl ?_
              refine q_get hE (dlX10_holds_1.at 33 rfl) kc10 wf_X10_83 g102 rfl rfl rfl ?_
              refine q_iload hE 4 (dlX10_holds_1.at 34 rfl) rfl ?_
              refine q_zald hE (dlX10_holds_1.at 35 rfl) g116 rfl hm (fun hm => ?_)
              refine q_if_eq hE (tgt := 146) (dlX10_holds_1.at 36 rfl) (by decide) hm (fun hc19 hm => ?_) (fun hc19 hm => ?_)
              · refine q_iconst hE (dlX10_holds_1.at 39 rfl) ic_0 ?_
                refine q_zast hE hfx (dlX10_holds_2.at 0 rfl) g116 rfl u116 hm (fun hm => ?_)
                refine q_lth (X := fun z => WG V o z) hm (fun h20 hm => ?_)
                refine q_goto hE (tgt := 247) (dlX10_holds_2.at 1 rfl) (by decide) ?_
                refine q_iinc hE [(0, _), (1, _), (2, _), (3, _), (4, _), (5, _), (6, _)] 5 (dlX10_holds_3.at 12 rfl) rfl ic_1 rfl rfl ?_
                refine q_goto hE (tgt := 11) (dlX10_holds_3.at 13 rfl) (by decide) ?_
                refine q_sub hE [0, 1, 2, 3, 4, 5] rfl ?_
                exact ih _ _ _ _ _ _  hm
              · refine q_iconst hE (dlX10_holds_1.at 37 rfl) ic_1 ?_
                refine q_goto hE (tgt := 147) (dlX10_holds_1.at 38 rfl) (by decide) ?_
                refine q_zast hE hfx (dlX10_holds_2.at 0 rfl) g116 rfl u116 hm (fun hm => ?_)
                refine q_lth (X := fun z => WG V o z) hm (fun h21 hm => ?_)
                refine q_goto hE (tgt := 247) (dlX10_holds_2.at 1 rfl) (by decide) ?_
                refine q_iinc hE [(0, _), (1, _), (2, _), (3, _), (4, _), (5, _), (6, _)] 5 (dlX10_holds_3.at 12 rfl) rfl ic_1 rfl rfl ?_
                refine q_goto hE (tgt := 11) (dlX10_holds_3.at 13 rfl) (by decide) ?_
                refine q_sub hE [0, 1, 2, 3, 4, 5] rfl ?_
                exact ih _ _ _ _ _ _  hm
            · refine q_iconst hE (dlX10_holds_1.at 37 rfl) ic_1 ?_
              refine q_goto hE (tgt := 147) (dlX10_holds_1.at 38 rfl) (by decide) ?_
              refine q_zast hE hfx (dlX10_holds_2.at 0 rfl) g116 rfl u116 hm (fun hm => ?_)
              refine q_lth (X := fun z => WG V o z) hm (fun h18 hm => ?_)
              refine q_goto hE (tgt := 247) (dlX10_holds_2.at 1 rfl) (by decide) ?_
              refine q_iinc hE [(0, _), (1, _), (2, _), (3, _), (4, _), (5, _), (6, _)] 5 (dlX10_holds_3.at 12 rfl) rfl ic_1 rfl rfl ?_
              refine q_goto hE (tgt := 11) (dlX10_holds_3.at 13 rfl) (by decide) ?_
              refine q_sub hE [0, 1, 2, 3, 4, 5] rfl ?_
              exact ih _ _ _ _ _ _  hm
set_option maxRecDepth 10000 in
theorem ok_X10_holds {V : Ev} {l : Launch} {o : PH} {F : Nat}  (hfx : V.2.2.2.2 = false) {a1 : Int32} {a2 : Int32} {a3 : Int32} {h : PH} : ∀ (v : Int32) (h' : PH), f_X10_holds F a1 a2 a3 h = some (v, h') → Ctr l V yX10_holds cX10_holds 9 (some .boolean) 2 [rf V 102, .int a1, .int a2, .int a3] 143 (WG V o h) 143 (WG V o (h')) (some (.int v)) 0 0 := by
  intro v h' hm
  refine Ctr.intro RX10 (by decide +kernel) rfl rfl rfl ?_
  intro E hE hQ _
  unfold f_X10_holds at hm
  refine q_iconst hE (dlX10_holds_0.at 0 rfl) ic_0 ?_
  refine q_istore hE [(0, _), (1, _), (2, _), (3, _), (4, _)] (dlX10_holds_0.at 1 rfl) rfl rfl ?_
  refine q_aload_n hE 0 (dlX10_holds_0.at 2 rfl) rfl rfl ?_
  refine q_get hE (dlX10_holds_0.at 3 rfl) kc10 wf_X10_59 g102 rfl rfl rfl ?_
  refine q_iload_n hE 1 (dlX10_holds_0.at 4 rfl) rfl rfl ?_
  refine q_iald hE (dlX10_holds_0.at 5 rfl) g111 rfl hm (fun hm => ?_)
  refine q_istore hE [(0, _), (1, _), (2, _), (3, _), (4, _), (5, _)] (dlX10_holds_0.at 6 rfl) rfl rfl ?_
  refine q_sub hE [0, 1, 2, 3, 4, 5] rfl ?_
  exact okL_X10_holds_11 hfx hE hQ  F _ _ _ _ _ _  hm
set_option maxRecDepth 10000 in
theorem okL_X10_newsNow_8 {V : Ev} {l : Launch} {o : PH} {F : Nat}  (hfx : V.2.2.2.2 = false) {E : Cx} (hE : CX E V l cX10_newsNow RX10 5 3 0 0 (some .int)) {r : Int32 × PH} (hQ : RQ E V 143 (WG V o r.2) (some (.int r.1)) 0 0) : ∀ (n : Nat) (x1 : Int32) (x2 : Int32) (x3 : Int32) (x4 : Int32) (h : PH), fL_X10_newsNow_8 F n x1 x2 x3 x4 h = some r → PW E V 0 0 143 (WG V o h) 8 [(0, rf V 102), (1, .int x1), (2, .int x2), (3, .int x3), (4, .int x4)] [] := by
  intro n
  induction n with
  | zero => intro x1 x2 x3 x4 h hm; cases hm
  | succ n ih =>
    intro x1 x2 x3 x4 h hm
    rw [fL_X10_newsNow_8] at hm
    refine q_iload hE 4 (dlX10_newsNow_0.at 5 rfl) rfl ?_
    refine q_aload_n hE 0 (dlX10_newsNow_0.at 6 rfl) rfl rfl ?_
    refine q_callV_i (X := fun z => WG V o z) hE (As := []) (dlX10_newsNow_0.at 7 rfl) mw_X10_behind wm_X10_277 rfl rfl rfl rfl (Nat.zero_le _) (Nat.zero_le _) rfl kc10 g102 rfl (ok_X10_behind hfx) hm (fun v2 h2 hm => ?_)
    refine q_icmp_ge hE (tgt := 79) (dlX10_newsNow_0.at 8 rfl) (by decide) hm (fun hc3 hm => ?_) (fun hc3 hm => ?_)
    · refine q_iload_n hE 3 (dlX10_newsNow_1.at 2 rfl) rfl rfl ?_
      refine q_if_ge hE (tgt := 87) (dlX10_newsNow_1.at 3 rfl) (by decide) hm (fun hc4 hm => ?_) (fun hc4 hm => ?_)
      · refine q_iload_n hE 3 (dlX10_newsNow_1.at 6 rfl) rfl rfl ?_
        exact q_iret (X := fun z => WG V o z) hE (dlX10_newsNow_1.at 7 rfl) hm hQ rfl
      · refine q_iconst hE (dlX10_newsNow_1.at 4 rfl) ic_0 ?_
        refine q_goto hE (tgt := 88) (dlX10_newsNow_1.at 5 rfl) (by decide) ?_
        exact q_iret (X := fun z => WG V o z) hE (dlX10_newsNow_1.at 7 rfl) hm hQ rfl
    · refine q_aload_n hE 0 (dlX10_newsNow_0.at 9 rfl) rfl rfl ?_
      refine q_get hE (dlX10_newsNow_0.at 10 rfl) kc10 wf_X10_53 g102 rfl rfl rfl ?_
      refine q_iload hE 4 (dlX10_newsNow_0.at 11 rfl) rfl ?_
      refine q_iald hE (dlX10_newsNow_0.at 12 rfl) g109 rfl hm (fun hm => ?_)
      refine q_iconst hE (dlX10_newsNow_0.at 13 rfl) ic_1 ?_
      refine q_icmp_gt hE (tgt := 73) (dlX10_newsNow_0.at 14 rfl) (by decide) hm (fun hc5 hm => ?_) (fun hc5 hm => ?_)
      · refine q_iinc hE [(0, _), (1, _), (2, _), (3, _), (4, _)] 4 (dlX10_newsNow_1.at 0 rfl) rfl ic_1 rfl rfl ?_
        refine q_goto hE (tgt := 8) (dlX10_newsNow_1.at 1 rfl) (by decide) ?_
        refine q_sub hE [0, 1, 2, 3, 4] rfl ?_
        exact ih _ _ _ _ _  hm
      · refine q_aload_n hE 0 (dlX10_newsNow_0.at 15 rfl) rfl rfl ?_
        refine q_iload hE 4 (dlX10_newsNow_0.at 16 rfl) rfl ?_
        refine q_iload_n hE 1 (dlX10_newsNow_0.at 17 rfl) rfl rfl ?_
        refine q_iload_n hE 2 (dlX10_newsNow_0.at 18 rfl) rfl rfl ?_
        refine q_callV_i (X := fun z => WG V o z) hE (As := [_, _, _]) (dlX10_newsNow_0.at 19 rfl) mw_X10_holds wm_X10_284 rfl rfl rfl rfl (Nat.zero_le _) (Nat.zero_le _) rfl kc10 g102 rfl (ok_X10_holds hfx) hm (fun v6 h6 hm => ?_)
        refine q_if_ne hE (tgt := 42) (dlX10_newsNow_0.at 20 rfl) (by decide) hm (fun hc7 hm => ?_) (fun hc7 hm => ?_)
        · refine q_goto hE (tgt := 73) (dlX10_newsNow_0.at 21 rfl) (by decide) ?_
          refine q_iinc hE [(0, _), (1, _), (2, _), (3, _), (4, _)] 4 (dlX10_newsNow_1.at 0 rfl) rfl ic_1 rfl rfl ?_
          refine q_goto hE (tgt := 8) (dlX10_newsNow_1.at 1 rfl) (by decide) ?_
          refine q_sub hE [0, 1, 2, 3, 4] rfl ?_
          exact ih _ _ _ _ _  hm
        · refine q_iload_n hE 3 (dlX10_newsNow_0.at 22 rfl) rfl rfl ?_
          refine q_aload_n hE 0 (dlX10_newsNow_0.at 23 rfl) rfl rfl ?_
          refine q_get hE (dlX10_newsNow_0.at 24 rfl) kc10 wf_X10_53 g102 rfl rfl rfl ?_
          refine q_iload hE 4 (dlX10_newsNow_0.at 25 rfl) rfl ?_
          refine q_iald hE (dlX10_newsNow_0.at 26 rfl) g109 rfl hm (fun hm => ?_)
          refine q_if_ne hE (tgt := 63) (dlX10_newsNow_0.at 27 rfl) (by decide) hm (fun hc8 hm => ?_) (fun hc8 hm => ?_)
          · refine q_aload_n hE 0 (dlX10_newsNow_0.at 28 rfl) rfl rfl ?_
            refine q_get hE (dlX10_newsNow_0.at 29 rfl) kc10 wf_X10_56 g102 rfl rfl rfl ?_
            refine q_iload hE 4 (dlX10_newsNow_0.at 30 rfl) rfl ?_
            refine q_iald hE (dlX10_newsNow_0.at 31 rfl) g110 rfl hm (fun hm => ?_)
            refine q_goto hE (tgt := 71) (dlX10_newsNow_0.at 32 rfl) (by decide) ?_
            refine q_iadd hE (dlX10_newsNow_0.at 38 rfl) ?_
            refine q_istore_n hE [(0, _), (1, _), (2, _), (3, _), (4, _)] (dlX10_newsNow_0.at 39 rfl) rfl rfl rfl ?_
            refine q_iinc hE [(0, _), (1, _), (2, _), (3, _), (4, _)] 4 (dlX10_newsNow_1.at 0 rfl) rfl ic_1 rfl rfl ?_
            refine q_goto hE (tgt := 8) (dlX10_newsNow_1.at 1 rfl) (by decide) ?_
            refine q_sub hE [0, 1, 2, 3, 4] rfl ?_
            exact ih _ _ _ _ _  hm
          · refine q_aload_n hE 0 (dlX10_newsNow_0.at 33 rfl) rfl rfl ?_
            refine q_get hE (dlX10_newsNow_0.at 34 rfl) kc10 wf_X10_56 g102 rfl rfl rfl ?_
            refine q_iload hE 4 (dlX10_newsNow_0.at 35 rfl) rfl ?_
            refine q_iald hE (dlX10_newsNow_0.at 36 rfl) g110 rfl hm (fun hm => ?_)
            refine q_ineg hE (dlX10_newsNow_0.at 37 rfl) ?_
            refine q_iadd hE (dlX10_newsNow_0.at 38 rfl) ?_
            refine q_istore_n hE [(0, _), (1, _), (2, _), (3, _), (4, _)] (dlX10_newsNow_0.at 39 rfl) rfl rfl rfl ?_
            refine q_iinc hE [(0, _), (1, _), (2, _), (3, _), (4, _)] 4 (dlX10_newsNow_1.at 0 rfl) rfl ic_1 rfl rfl ?_
            refine q_goto hE (tgt := 8) (dlX10_newsNow_1.at 1 rfl) (by decide) ?_
            refine q_sub hE [0, 1, 2, 3, 4] rfl ?_
            exact ih _ _ _ _ _  hm
set_option maxRecDepth 10000 in
theorem ok_X10_newsNow {V : Ev} {l : Launch} {o : PH} {F : Nat}  (hfx : V.2.2.2.2 = false) {a1 : Int32} {a2 : Int32} {h : PH} : ∀ (v : Int32) (h' : PH), f_X10_newsNow F a1 a2 h = some (v, h') → Ctr l V yX10_newsNow cX10_newsNow 5 (some .int) 3 [rf V 102, .int a1, .int a2] 143 (WG V o h) 143 (WG V o (h')) (some (.int v)) 0 0 := by
  intro v h' hm
  refine Ctr.intro RX10 (by decide +kernel) rfl rfl rfl ?_
  intro E hE hQ _
  unfold f_X10_newsNow at hm
  refine q_iconst hE (dlX10_newsNow_0.at 0 rfl) ic_1 ?_
  refine q_istore_n hE [(0, _), (1, _), (2, _), (3, _)] (dlX10_newsNow_0.at 1 rfl) rfl rfl rfl ?_
  refine q_aload_n hE 0 (dlX10_newsNow_0.at 2 rfl) rfl rfl ?_
  refine q_callV_i (X := fun z => WG V o z) hE (As := []) (dlX10_newsNow_0.at 3 rfl) mw_X10_begin wm_X10_274 rfl rfl rfl rfl (Nat.zero_le _) (Nat.zero_le _) rfl kc10 g102 rfl (ok_X10_begin hfx) hm (fun v1 h1 hm => ?_)
  refine q_istore hE [(0, _), (1, _), (2, _), (3, _), (4, _)] (dlX10_newsNow_0.at 4 rfl) rfl rfl ?_
  refine q_sub hE [0, 1, 2, 3, 4] rfl ?_
  exact okL_X10_newsNow_8 hfx hE hQ  F _ _ _ _ _  hm
set_option maxRecDepth 10000 in
theorem ok_X10_newsOf {V : Ev} {l : Launch} {o : PH} {F : Nat}  (hfx : V.2.2.2.2 = false) {a1 : Int32} {a2 : Int32} {h : PH} : ∀ (v : Int32) (h' : PH), f_X10_newsOf F a1 a2 h = some (v, h') → Ctr l V yX10_newsOf cX10_newsOf 4 (some .int) 4 [rf V 102, .int a1, .int a2] 143 (WG V o h) 143 (WG V o (h')) (some (.int v)) 0 0 := by
  intro v h' hm
  refine Ctr.intro RX10 (by decide +kernel) rfl rfl rfl ?_
  intro E hE hQ _
  unfold f_X10_newsOf at hm
  refine q_iload_n hE 2 (dlX10_newsOf_0.at 0 rfl) rfl rfl ?_
  refine q_aload_n hE 0 (dlX10_newsOf_0.at 1 rfl) rfl rfl ?_
  refine q_get hE (dlX10_newsOf_0.at 2 rfl) kc10 wf_X10_94 g102 rfl rfl rfl ?_
  refine q_iload_n hE 1 (dlX10_newsOf_0.at 3 rfl) rfl rfl ?_
  refine q_iald hE (dlX10_newsOf_0.at 4 rfl) g118 rfl hm (fun hm => ?_)
  refine q_isub hE (dlX10_newsOf_0.at 5 rfl) ?_
  refine q_istore_n hE [(0, _), (1, _), (2, _), (3, _)] (dlX10_newsOf_0.at 6 rfl) rfl rfl rfl ?_
  refine q_aload_n hE 0 (dlX10_newsOf_0.at 7 rfl) rfl rfl ?_
  refine q_get hE (dlX10_newsOf_0.at 8 rfl) kc10 wf_X10_87 g102 rfl rfl rfl ?_
  refine q_if_eq hE (tgt := 43) (dlX10_newsOf_0.at 9 rfl) (by decide) hm (fun hc1 hm => ?_) (fun hc1 hm => ?_)
  · refine q_aload_n hE 0 (dlX10_newsOf_0.at 25 rfl) rfl rfl ?_
    refine q_iload_n hE 1 (dlX10_newsOf_0.at 26 rfl) rfl rfl ?_
    refine q_iload_n hE 2 (dlX10_newsOf_0.at 27 rfl) rfl rfl ?_
    refine q_callV_i (X := fun z => WG V o z) hE (As := [_, _]) (dlX10_newsOf_0.at 28 rfl) mw_X10_newsNow wm_X10_287 rfl rfl rfl rfl (Nat.zero_le _) (Nat.zero_le _) rfl kc10 g102 rfl (ok_X10_newsNow hfx) hm (fun v2 h2 hm => ?_)
    exact q_iret (X := fun z => WG V o z) hE (dlX10_newsOf_0.at 29 rfl) hm hQ rfl
  · refine q_aload_n hE 0 (dlX10_newsOf_0.at 10 rfl) rfl rfl ?_
    refine q_iload_n hE 3 (dlX10_newsOf_0.at 11 rfl) rfl rfl ?_
    refine q_iconst hE (dlX10_newsOf_0.at 12 rfl) ic_0 ?_
    refine q_sipush hE (dlX10_newsOf_0.at 13 rfl) sc_799 ?_
    refine q_callV_i (X := fun z => WG V o z) hE (As := [_, _, _]) (dlX10_newsOf_0.at 14 rfl) mw_X10_in wm_X10_212 rfl rfl rfl rfl (Nat.zero_le _) (Nat.zero_le _) rfl kc10 g102 rfl (ok_X10_in hfx) hm (fun v3 h3 hm => ?_)
    refine q_if_eq hE (tgt := 43) (dlX10_newsOf_0.at 15 rfl) (by decide) hm (fun hc4 hm => ?_) (fun hc4 hm => ?_)
    · refine q_aload_n hE 0 (dlX10_newsOf_0.at 25 rfl) rfl rfl ?_
      refine q_iload_n hE 1 (dlX10_newsOf_0.at 26 rfl) rfl rfl ?_
      refine q_iload_n hE 2 (dlX10_newsOf_0.at 27 rfl) rfl rfl ?_
      refine q_callV_i (X := fun z => WG V o z) hE (As := [_, _]) (dlX10_newsOf_0.at 28 rfl) mw_X10_newsNow wm_X10_287 rfl rfl rfl rfl (Nat.zero_le _) (Nat.zero_le _) rfl kc10 g102 rfl (ok_X10_newsNow hfx) hm (fun v5 h5 hm => ?_)
      exact q_iret (X := fun z => WG V o z) hE (dlX10_newsOf_0.at 29 rfl) hm hQ rfl
    · refine q_aload_n hE 0 (dlX10_newsOf_0.at 16 rfl) rfl rfl ?_
      refine q_get hE (dlX10_newsOf_0.at 17 rfl) kc10 wf_X10_91 g102 rfl rfl rfl ?_
      refine q_sipush hE (dlX10_newsOf_0.at 18 rfl) sc_800 ?_
      refine q_iload_n hE 1 (dlX10_newsOf_0.at 19 rfl) rfl rfl ?_
      refine q_imul hE (dlX10_newsOf_0.at 20 rfl) ?_
      refine q_iload_n hE 3 (dlX10_newsOf_0.at 21 rfl) rfl rfl ?_
      refine q_iadd hE (dlX10_newsOf_0.at 22 rfl) ?_
      refine q_iald hE (dlX10_newsOf_0.at 23 rfl) g117 rfl hm (fun hm => ?_)
      refine q_goto hE (tgt := 49) (dlX10_newsOf_0.at 24 rfl) (by decide) ?_
      exact q_iret (X := fun z => WG V o z) hE (dlX10_newsOf_0.at 29 rfl) hm hQ rfl
set_option maxRecDepth 10000 in
theorem ok_X10_news {V : Ev} {l : Launch} {o : PH} {F : Nat}  (hfx : V.2.2.2.2 = false) {a1 : Int32} {a2 : Int32} {h : PH} : ∀ (v : Int32) (h' : PH), f_X10_news F a1 a2 h = some (v, h') → Ctr l V yX10_news cX10_news 3 (some .int) 5 [rf V 102, .int a1, .int a2] 143 (WG V o h) 143 (WG V o (h')) (some (.int v)) 0 0 := by
  intro v h' hm
  refine Ctr.intro RX10 (by decide +kernel) rfl rfl rfl ?_
  intro E hE hQ _
  unfold f_X10_news at hm
  refine q_aload_n hE 0 (dlX10_news_0.at 0 rfl) rfl rfl ?_
  refine q_iload_n hE 1 (dlX10_news_0.at 1 rfl) rfl rfl ?_
  refine q_callV_i (X := fun z => WG V o z) hE (As := [_]) (dlX10_news_0.at 2 rfl) mw_X10_isClock wm_X10_220 rfl rfl rfl rfl (Nat.zero_le _) (Nat.zero_le _) rfl kc10 g102 rfl (ok_X10_isClock hfx) hm (fun v1 h1 hm => ?_)
  refine q_if_ne hE (tgt := 10) (dlX10_news_0.at 3 rfl) (by decide) hm (fun hc2 hm => ?_) (fun hc2 hm => ?_)
  · refine q_iconst hE (dlX10_news_0.at 4 rfl) ic_m1 ?_
    exact q_iret (X := fun z => WG V o z) hE (dlX10_news_0.at 5 rfl) hm hQ rfl
  · refine q_aload_n hE 0 (dlX10_news_0.at 6 rfl) rfl rfl ?_
    refine q_iload_n hE 2 (dlX10_news_0.at 7 rfl) rfl rfl ?_
    refine q_callV_i (X := fun z => WG V o z) hE (As := [_]) (dlX10_news_0.at 8 rfl) mw_X10_isDay wm_X10_291 rfl rfl rfl rfl (Nat.zero_le _) (Nat.zero_le _) rfl kc10 g102 rfl (ok_X10_isDay hfx) hm (fun v3 h3 hm => ?_)
    refine q_if_eq hE (tgt := 27) (dlX10_news_0.at 9 rfl) (by decide) hm (fun hc4 hm => ?_) (fun hc4 hm => ?_)
    · refine q_bipush hE (dlX10_news_0.at 15 rfl) bc_m2 ?_
      exact q_iret (X := fun z => WG V o z) hE (dlX10_news_0.at 16 rfl) hm hQ rfl
    · refine q_aload_n hE 0 (dlX10_news_0.at 10 rfl) rfl rfl ?_
      refine q_iload_n hE 1 (dlX10_news_0.at 11 rfl) rfl rfl ?_
      refine q_iload_n hE 2 (dlX10_news_0.at 12 rfl) rfl rfl ?_
      refine q_callV_i (X := fun z => WG V o z) hE (As := [_, _]) (dlX10_news_0.at 13 rfl) mw_X10_newsOf wm_X10_294 rfl rfl rfl rfl (Nat.zero_le _) (Nat.zero_le _) rfl kc10 g102 rfl (ok_X10_newsOf hfx) hm (fun v5 h5 hm => ?_)
      refine q_goto hE (tgt := 29) (dlX10_news_0.at 14 rfl) (by decide) ?_
      exact q_iret (X := fun z => WG V o z) hE (dlX10_news_0.at 16 rfl) hm hQ rfl
