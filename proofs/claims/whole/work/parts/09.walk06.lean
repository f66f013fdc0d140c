set_option maxRecDepth 10000 in
theorem ok_X10_isUp {V : Ev} {l : Launch} {o : PH} {F : Nat}  (hfx : V.2.2.2.2 = false) {a1 : Int32} {h : PH} : ∀ (v : Int32) (h' : PH), f_X10_isUp F a1 h = some (v, h') → Ctr l V yX10_isUp cX10_isUp 2 (some .boolean) 1 [rf V 102, .int a1] 143 (WG V o h) 143 (WG V o (h')) (some (.int v)) 0 0 := by
  intro v h' hm
  refine Ctr.intro RX10 (by decide +kernel) rfl rfl rfl ?_
  intro E hE hQ _
  unfold f_X10_isUp at hm
  refine q_aload_n hE 0 (dlX10_isUp_0.at 0 rfl) rfl rfl ?_
  refine q_get hE (dlX10_isUp_0.at 1 rfl) kc10 wf_X10_26 g102 rfl rfl rfl ?_
  refine q_iload_n hE 1 (dlX10_isUp_0.at 2 rfl) rfl rfl ?_
  refine q_iald hE (dlX10_isUp_0.at 3 rfl) g105 rfl hm (fun hm => ?_)
  refine q_aload_n hE 0 (dlX10_isUp_0.at 4 rfl) rfl rfl ?_
  refine q_get hE (dlX10_isUp_0.at 5 rfl) kc10 wf_X10_16 g102 rfl rfl rfl ?_
  refine q_icmp_ne hE (tgt := 17) (dlX10_isUp_0.at 6 rfl) (by decide) hm (fun hc1 hm => ?_) (fun hc1 hm => ?_)
  · refine q_iconst hE (dlX10_isUp_0.at 7 rfl) ic_1 ?_
    refine q_goto hE (tgt := 18) (dlX10_isUp_0.at 8 rfl) (by decide) ?_
    exact q_bret (X := fun z => WG V o z) hE (dlX10_isUp_0.at 10 rfl) hm hQ rfl (by decide)
  · refine q_iconst hE (dlX10_isUp_0.at 9 rfl) ic_0 ?_
    exact q_bret (X := fun z => WG V o z) hE (dlX10_isUp_0.at 10 rfl) hm hQ rfl (by decide)
set_option maxRecDepth 10000 in
theorem okL_X10_goNight_2 {V : Ev} {l : Launch} {o : PH} {F : Nat}  (hfx : V.2.2.2.2 = false) {E : Cx} (hE : CX E V l cX10_goNight RX10 2 2 0 0 none) {r : Unit × PH} (hQ : RQ E V 143 (WG V o r.2) (none) 0 0) : ∀ (n : Nat) (x1 : Int32) (h : PH), fL_X10_goNight_2 F n x1 h = some r → PW E V 0 0 143 (WG V o h) 2 [(0, rf V 102), (1, .int x1)] [] := by
  intro n
  induction n with
  | zero => intro x1 h hm; cases hm
  | succ n ih =>
    intro x1 h hm
    rw [fL_X10_goNight_2] at hm
    refine q_iload_n hE 1 (dlX10_goNight_0.at 2 rfl) rfl rfl ?_
    refine q_aload_n hE 0 (dlX10_goNight_0.at 3 rfl) rfl rfl ?_
    refine q_get hE (dlX10_goNight_0.at 4 rfl) kc10 wf_X10_7 g102 rfl rfl rfl ?_
    refine q_icmp_ge hE (tgt := 38) (dlX10_goNight_0.at 5 rfl) (by decide) hm (fun hc1 hm => ?_) (fun hc1 hm => ?_)
    · refine q_aload_n hE 0 (dlX10_goNight_0.at 22 rfl) rfl rfl ?_
      refine q_dup hE (dlX10_goNight_0.at 23 rfl) rfl ?_
      refine q_get hE (dlX10_goNight_0.at 24 rfl) kc10 wf_X10_16 g102 rfl rfl rfl ?_
      refine q_iconst hE (dlX10_goNight_0.at 25 rfl) ic_1 ?_
      refine q_iadd hE (dlX10_goNight_0.at 26 rfl) ?_
      refine q_put hE hfx (dlX10_goNight_0.at 27 rfl) kc10 wf_X10_16 g102 rfl rfl rfl rfl rfl rfl u102_2 ?_
      refine q_lth (X := fun z => WG V o z) hm (fun h2 hm => ?_)
      exact q_vret (X := fun z => WG V o z) hE (dlX10_goNight_0.at 28 rfl) hm hQ rfl
    · refine q_aload_n hE 0 (dlX10_goNight_0.at 6 rfl) rfl rfl ?_
      refine q_get hE (dlX10_goNight_0.at 7 rfl) kc10 wf_X10_26 g102 rfl rfl rfl ?_
      refine q_iload_n hE 1 (dlX10_goNight_0.at 8 rfl) rfl rfl ?_
      refine q_dup2 hE (dlX10_goNight_0.at 9 rfl) rfl rfl ?_
      refine q_iald hE (dlX10_goNight_0.at 10 rfl) g105 rfl hm (fun hm => ?_)
      refine q_aload_n hE 0 (dlX10_goNight_0.at 11 rfl) rfl rfl ?_
      refine q_iload_n hE 1 (dlX10_goNight_0.at 12 rfl) rfl rfl ?_
      refine q_callV_i (X := fun z => WG V o z) hE (As := [_]) (dlX10_goNight_0.at 13 rfl) mw_X10_isUp wm_X10_300 rfl rfl rfl rfl (Nat.zero_le _) (Nat.zero_le _) rfl kc10 g102 rfl (ok_X10_isUp hfx) hm (fun v3 h3 hm => ?_)
      refine q_if_eq hE (tgt := 29) (dlX10_goNight_0.at 14 rfl) (by decide) hm (fun hc4 hm => ?_) (fun hc4 hm => ?_)
      · refine q_iconst hE (dlX10_goNight_0.at 17 rfl) ic_0 ?_
        refine q_iadd hE (dlX10_goNight_0.at 18 rfl) ?_
        refine q_iast hE hfx (dlX10_goNight_0.at 19 rfl) g105 rfl u105 hm (fun hm => ?_)
        refine q_lth (X := fun z => WG V o z) hm (fun h5 hm => ?_)
        refine q_iinc hE [(0, _), (1, _)] 1 (dlX10_goNight_0.at 20 rfl) rfl ic_1 rfl rfl ?_
        refine q_goto hE (tgt := 2) (dlX10_goNight_0.at 21 rfl) (by decide) ?_
        refine q_sub hE [0, 1] rfl ?_
        exact ih _ _  hm
      · refine q_iconst hE (dlX10_goNight_0.at 15 rfl) ic_1 ?_
        refine q_goto hE (tgt := 30) (dlX10_goNight_0.at 16 rfl) (by decide) ?_
        refine q_iadd hE (dlX10_goNight_0.at 18 rfl) ?_
        refine q_iast hE hfx (dlX10_goNight_0.at 19 rfl) g105 rfl u105 hm (fun hm => ?_)
        refine q_lth (X := fun z => WG V o z) hm (fun h6 hm => ?_)
        refine q_iinc hE [(0, _), (1, _)] 1 (dlX10_goNight_0.at 20 rfl) rfl ic_1 rfl rfl ?_
        refine q_goto hE (tgt := 2) (dlX10_goNight_0.at 21 rfl) (by decide) ?_
        refine q_sub hE [0, 1] rfl ?_
        exact ih _ _  hm
set_option maxRecDepth 10000 in
theorem ok_X10_goNight {V : Ev} {l : Launch} {o : PH} {F : Nat}  (hfx : V.2.2.2.2 = false)  {h : PH} : ∀ (v : Unit) (h' : PH), f_X10_goNight F  h = some (v, h') → Ctr l V yX10_goNight cX10_goNight 2 none 2 [rf V 102] 143 (WG V o h) 143 (WG V o (h')) (none) 0 0 := by
  intro v h' hm
  refine Ctr.intro RX10 (by decide +kernel) rfl rfl rfl ?_
  intro E hE hQ _
  unfold f_X10_goNight at hm
  refine q_iconst hE (dlX10_goNight_0.at 0 rfl) ic_0 ?_
  refine q_istore_n hE [(0, _), (1, _)] (dlX10_goNight_0.at 1 rfl) rfl rfl rfl ?_
  refine q_sub hE [0, 1] rfl ?_
  exact okL_X10_goNight_2 hfx hE hQ  F _ _  hm
set_option maxRecDepth 10000 in
theorem okL_X10_pace_8 {V : Ev} {l : Launch} {o : PH} {F : Nat}  (hfx : V.2.2.2.2 = false) {E : Cx} (hE : CX E V l cX10_pace RX10 3 2 0 0 (some .int)) {r : Int32 × PH} (hQ : RQ E V 143 (WG V o r.2) (some (.int r.1)) 0 0) : ∀ (n : Nat) (x1 : Int32) (x2 : Int32) (h : PH), fL_X10_pace_8 F n x1 x2 h = some r → PW E V 0 0 143 (WG V o h) 8 [(0, rf V 102), (1, .int x1), (2, .int x2)] [] := by
  intro n
  induction n with
  | zero => intro x1 x2 h hm; cases hm
  | succ n ih =>
    intro x1 x2 h hm
    rw [fL_X10_pace_8] at hm
    refine q_iload_n hE 2 (dlX10_pace_0.at 5 rfl) rfl rfl ?_
    refine q_aload_n hE 0 (dlX10_pace_0.at 6 rfl) rfl rfl ?_
    refine q_callV_i (X := fun z => WG V o z) hE (As := []) (dlX10_pace_0.at 7 rfl) mw_X10_behind wm_X10_277 rfl rfl rfl rfl (Nat.zero_le _) (Nat.zero_le _) rfl kc10 g102 rfl (ok_X10_behind hfx) hm (fun v2 h2 hm => ?_)
    refine q_icmp_ge hE (tgt := 43) (dlX10_pace_0.at 8 rfl) (by decide) hm (fun hc3 hm => ?_) (fun hc3 hm => ?_)
    · refine q_iload_n hE 1 (dlX10_pace_0.at 24 rfl) rfl rfl ?_
      refine q_iconst hE (dlX10_pace_0.at 25 rfl) ic_1 ?_
      refine q_icmp_ge hE (tgt := 52) (dlX10_pace_0.at 26 rfl) (by decide) hm (fun hc4 hm => ?_) (fun hc4 hm => ?_)
      · refine q_iload_n hE 1 (dlX10_pace_0.at 29 rfl) rfl rfl ?_
        exact q_iret (X := fun z => WG V o z) hE (dlX10_pace_0.at 30 rfl) hm hQ rfl
      · refine q_iconst hE (dlX10_pace_0.at 27 rfl) ic_1 ?_
        refine q_goto hE (tgt := 53) (dlX10_pace_0.at 28 rfl) (by decide) ?_
        exact q_iret (X := fun z => WG V o z) hE (dlX10_pace_0.at 30 rfl) hm hQ rfl
    · refine q_aload_n hE 0 (dlX10_pace_0.at 9 rfl) rfl rfl ?_
      refine q_get hE (dlX10_pace_0.at 10 rfl) kc10 wf_X10_53 g102 rfl rfl rfl ?_
      refine q_iload_n hE 2 (dlX10_pace_0.at 11 rfl) rfl rfl ?_
      refine q_iald hE (dlX10_pace_0.at 12 rfl) g109 rfl hm (fun hm => ?_)
      refine q_iconst hE (dlX10_pace_0.at 13 rfl) ic_2 ?_
      refine q_icmp_ne hE (tgt := 35) (dlX10_pace_0.at 14 rfl) (by decide) hm (fun hc5 hm => ?_) (fun hc5 hm => ?_)
      · refine q_aload_n hE 0 (dlX10_pace_0.at 15 rfl) rfl rfl ?_
        refine q_get hE (dlX10_pace_0.at 16 rfl) kc10 wf_X10_56 g102 rfl rfl rfl ?_
        refine q_iload_n hE 2 (dlX10_pace_0.at 17 rfl) rfl rfl ?_
        refine q_iald hE (dlX10_pace_0.at 18 rfl) g110 rfl hm (fun hm => ?_)
        refine q_goto hE (tgt := 36) (dlX10_pace_0.at 19 rfl) (by decide) ?_
        refine q_istore_n hE [(0, _), (1, _), (2, _)] (dlX10_pace_0.at 21 rfl) rfl rfl rfl ?_
        refine q_iinc hE [(0, _), (1, _), (2, _)] 2 (dlX10_pace_0.at 22 rfl) rfl ic_1 rfl rfl ?_
        refine q_goto hE (tgt := 8) (dlX10_pace_0.at 23 rfl) (by decide) ?_
        refine q_sub hE [0, 1, 2] rfl ?_
        exact ih _ _ _  hm
      · refine q_iload_n hE 1 (dlX10_pace_0.at 20 rfl) rfl rfl ?_
        refine q_istore_n hE [(0, _), (1, _), (2, _)] (dlX10_pace_0.at 21 rfl) rfl rfl rfl ?_
        refine q_iinc hE [(0, _), (1, _), (2, _)] 2 (dlX10_pace_0.at 22 rfl) rfl ic_1 rfl rfl ?_
        refine q_goto hE (tgt := 8) (dlX10_pace_0.at 23 rfl) (by decide) ?_
        refine q_sub hE [0, 1, 2] rfl ?_
        exact ih _ _ _  hm
set_option maxRecDepth 10000 in
theorem ok_X10_pace {V : Ev} {l : Launch} {o : PH} {F : Nat}  (hfx : V.2.2.2.2 = false)  {h : PH} : ∀ (v : Int32) (h' : PH), f_X10_pace F  h = some (v, h') → Ctr l V yX10_pace cX10_pace 3 (some .int) 2 [rf V 102] 143 (WG V o h) 143 (WG V o (h')) (some (.int v)) 0 0 := by
  intro v h' hm
  refine Ctr.intro RX10 (by decide +kernel) rfl rfl rfl ?_
  intro E hE hQ _
  unfold f_X10_pace at hm
  refine q_bipush hE (dlX10_pace_0.at 0 rfl) bc_10 ?_
  refine q_istore_n hE [(0, _), (1, _)] (dlX10_pace_0.at 1 rfl) rfl rfl rfl ?_
  refine q_aload_n hE 0 (dlX10_pace_0.at 2 rfl) rfl rfl ?_
  refine q_callV_i (X := fun z => WG V o z) hE (As := []) (dlX10_pace_0.at 3 rfl) mw_X10_begin wm_X10_274 rfl rfl rfl rfl (Nat.zero_le _) (Nat.zero_le _) rfl kc10 g102 rfl (ok_X10_begin hfx) hm (fun v1 h1 hm => ?_)
  refine q_istore_n hE [(0, _), (1, _), (2, _)] (dlX10_pace_0.at 4 rfl) rfl rfl rfl ?_
  refine q_sub hE [0, 1, 2] rfl ?_
  exact okL_X10_pace_8 hfx hE hQ  F _ _ _  hm
set_option maxRecDepth 10000 in
theorem okL_X10_holdsOf_19 {V : Ev} {l : Launch} {o : PH} {F : Nat}  (hfx : V.2.2.2.2 = false) {E : Cx} (hE : CX E V l cX10_holdsOf RX10 4 3 0 0 (some .int)) {r : Int32 × PH} (hQ : RQ E V 143 (WG V o r.2) (some (.int r.1)) 0 0) : ∀ (x1 : Int32) (x2 : Int32) (xs0 : Int32) (h : PH), fL_X10_holdsOf_19 F x1 x2 xs0 h = some r → PW E V 0 0 143 (WG V o h) 19 [(0, rf V 102), (1, .int x1), (2, .int x2)] [.int xs0] := by
  intro x1 x2 xs0 h hm
  unfold fL_X10_holdsOf_19 at hm
  refine q_istore_n hE [(0, _), (1, _), (2, _), (3, _)] (dlX10_holdsOf_0.at 13 rfl) rfl rfl rfl ?_
  refine q_aload_n hE 0 (dlX10_holdsOf_0.at 14 rfl) rfl rfl ?_
  refine q_get hE (dlX10_holdsOf_0.at 15 rfl) kc10 wf_X10_19 g102 rfl rfl rfl ?_
  refine q_iload_n hE 1 (dlX10_holdsOf_0.at 16 rfl) rfl rfl ?_
  refine q_iald hE (dlX10_holdsOf_0.at 17 rfl) g103 rfl hm (fun hm => ?_)
  refine q_tcase hE (dlX10_holdsOf_0.at 18 rfl) (1 : Int32) 64 (by decide) hm (fun _ hm => ?_) (fun hn3_1 hm => ?_)
  · refine q_iconst hE (dlX10_holdsOf_0.at 19 rfl) ic_2 ?_
    refine q_iload_n hE 2 (dlX10_holdsOf_0.at 20 rfl) rfl rfl ?_
    refine q_imul hE (dlX10_holdsOf_0.at 21 rfl) ?_
    exact q_iret (X := fun z => WG V o z) hE (dlX10_holdsOf_0.at 22 rfl) hm hQ rfl
  · refine q_tcase hE (dlX10_holdsOf_0.at 18 rfl) (2 : Int32) 99 (by decide) hm (fun _ hm => ?_) (fun hn3_2 hm => ?_)
    · refine q_iload_n hE 2 (dlX10_holdsOf_1.at 8 rfl) rfl rfl ?_
      exact q_iret (X := fun z => WG V o z) hE (dlX10_holdsOf_1.at 9 rfl) hm hQ rfl
    · refine q_tcase hE (dlX10_holdsOf_0.at 18 rfl) (3 : Int32) 68 (by decide) hm (fun _ hm => ?_) (fun hn3_3 hm => ?_)
      · refine q_iload_n hE 3 (dlX10_holdsOf_0.at 23 rfl) rfl rfl ?_
        exact q_iret (X := fun z => WG V o z) hE (dlX10_holdsOf_0.at 24 rfl) hm hQ rfl
      · refine q_tcase hE (dlX10_holdsOf_0.at 18 rfl) (4 : Int32) 70 (by decide) hm (fun _ hm => ?_) (fun hn3_4 hm => ?_)
        · refine q_iconst hE (dlX10_holdsOf_0.at 25 rfl) ic_2 ?_
          refine q_iload_n hE 2 (dlX10_holdsOf_0.at 26 rfl) rfl rfl ?_
          refine q_imul hE (dlX10_holdsOf_0.at 27 rfl) ?_
          refine q_aload_n hE 0 (dlX10_holdsOf_0.at 28 rfl) rfl rfl ?_
          refine q_get hE (dlX10_holdsOf_0.at 29 rfl) kc10 wf_X10_23 g102 rfl rfl rfl ?_
          refine q_iload_n hE 1 (dlX10_holdsOf_0.at 30 rfl) rfl rfl ?_
          refine q_iald hE (dlX10_holdsOf_0.at 31 rfl) g104 rfl hm (fun hm => ?_)
          refine q_iadd hE (dlX10_holdsOf_0.at 32 rfl) ?_
          exact q_iret (X := fun z => WG V o z) hE (dlX10_holdsOf_0.at 33 rfl) hm hQ rfl
        · refine q_tcase hE (dlX10_holdsOf_0.at 18 rfl) (5 : Int32) 99 (by decide) hm (fun _ hm => ?_) (fun hn3_5 hm => ?_)
          · refine q_iload_n hE 2 (dlX10_holdsOf_1.at 8 rfl) rfl rfl ?_
            exact q_iret (X := fun z => WG V o z) hE (dlX10_holdsOf_1.at 9 rfl) hm hQ rfl
          · refine q_tcase hE (dlX10_holdsOf_0.at 18 rfl) (6 : Int32) 81 (by decide) hm (fun _ hm => ?_) (fun hn3_6 hm => ?_)
            · refine q_iload_n hE 3 (dlX10_holdsOf_0.at 34 rfl) rfl rfl ?_
              refine q_aload_n hE 0 (dlX10_holdsOf_0.at 35 rfl) rfl rfl ?_
              refine q_get hE (dlX10_holdsOf_0.at 36 rfl) kc10 wf_X10_29 g102 rfl rfl rfl ?_
              refine q_iconst hE (dlX10_holdsOf_0.at 37 rfl) ic_4 ?_
              refine q_iload_n hE 1 (dlX10_holdsOf_0.at 38 rfl) rfl rfl ?_
              refine q_imul hE (dlX10_holdsOf_0.at 39 rfl) ?_
              refine q_aload_n hE 0 (dlX10_holdsOf_1.at 0 rfl) rfl rfl ?_
              refine q_get hE (dlX10_holdsOf_1.at 1 rfl) kc10 wf_X10_16 g102 rfl rfl rfl ?_
              refine q_iconst hE (dlX10_holdsOf_1.at 2 rfl) ic_4 ?_
              refine q_irem hE (dlX10_holdsOf_1.at 3 rfl) hm (fun hm => ?_)
              refine q_iadd hE (dlX10_holdsOf_1.at 4 rfl) ?_
              refine q_iald hE (dlX10_holdsOf_1.at 5 rfl) g106 rfl hm (fun hm => ?_)
              refine q_iadd hE (dlX10_holdsOf_1.at 6 rfl) ?_
              exact q_iret (X := fun z => WG V o z) hE (dlX10_holdsOf_1.at 7 rfl) hm hQ rfl
            · refine q_tdef hE (tgt := 99) (dlX10_holdsOf_0.at 18 rfl) (by have := lv_neT (a := 1) hn3_1 (by decide); have := lv_neT (a := 2) hn3_2 (by decide); have := lv_neT (a := 3) hn3_3 (by decide); have := lv_neT (a := 4) hn3_4 (by decide); have := lv_neT (a := 5) hn3_5 (by decide); have := lv_neT (a := 6) hn3_6 (by decide); omega) (by decide) ?_
              refine q_iload_n hE 2 (dlX10_holdsOf_1.at 8 rfl) rfl rfl ?_
              exact q_iret (X := fun z => WG V o z) hE (dlX10_holdsOf_1.at 9 rfl) hm hQ rfl
set_option maxRecDepth 10000 in
theorem ok_X10_holdsOf {V : Ev} {l : Launch} {o : PH} {F : Nat}  (hfx : V.2.2.2.2 = false) {a1 : Int32} {h : PH} : ∀ (v : Int32) (h' : PH), f_X10_holdsOf F a1 h = some (v, h') → Ctr l V yX10_holdsOf cX10_holdsOf 4 (some .int) 3 [rf V 102, .int a1] 143 (WG V o h) 143 (WG V o (h')) (some (.int v)) 0 0 := by
  intro v h' hm
  refine Ctr.intro RX10 (by decide +kernel) rfl rfl rfl ?_
  intro E hE hQ _
  unfold f_X10_holdsOf at hm
  refine q_aload_n hE 0 (dlX10_holdsOf_0.at 0 rfl) rfl rfl ?_
  refine q_callV_i (X := fun z => WG V o z) hE (As := []) (dlX10_holdsOf_0.at 1 rfl) mw_X10_pace wm_X10_297 rfl rfl rfl rfl (Nat.zero_le _) (Nat.zero_le _) rfl kc10 g102 rfl (ok_X10_pace hfx) hm (fun v1 h1 hm => ?_)
  refine q_istore_n hE [(0, _), (1, _), (2, _)] (dlX10_holdsOf_0.at 2 rfl) rfl rfl rfl ?_
  refine q_iload_n hE 2 (dlX10_holdsOf_0.at 3 rfl) rfl rfl ?_
  refine q_iconst hE (dlX10_holdsOf_0.at 4 rfl) ic_2 ?_
  refine q_idiv hE (dlX10_holdsOf_0.at 5 rfl) hm (fun hm => ?_)
  refine q_iconst hE (dlX10_holdsOf_0.at 6 rfl) ic_1 ?_
  refine q_icmp_ge hE (tgt := 16) (dlX10_holdsOf_0.at 7 rfl) (by decide) hm (fun hc2 hm => ?_) (fun hc2 hm => ?_)
  · refine q_iload_n hE 2 (dlX10_holdsOf_0.at 10 rfl) rfl rfl ?_
    refine q_iconst hE (dlX10_holdsOf_0.at 11 rfl) ic_2 ?_
    refine q_idiv hE (dlX10_holdsOf_0.at 12 rfl) hm (fun hm => ?_)
    refine q_sub hE [0, 1, 2] rfl ?_
    exact okL_X10_holdsOf_19 hfx hE hQ  _ _ _ _  hm
  · refine q_iconst hE (dlX10_holdsOf_0.at 8 rfl) ic_1 ?_
    refine q_goto hE (tgt := 19) (dlX10_holdsOf_0.at 9 rfl) (by decide) ?_
    refine q_sub hE [0, 1, 2] rfl ?_
    exact okL_X10_holdsOf_19 hfx hE hQ  _ _ _ _  hm
set_option maxRecDepth 10000 in
theorem okL_X10_minds_45 {V : Ev} {l : Launch} {o : PH} {F : Nat}  (hfx : V.2.2.2.2 = false) {E : Cx} (hE : CX E V l cX10_minds RX10 3 5 0 0 (some .boolean)) {r : Int32 × PH} (hQ : RQ E V 143 (WG V o r.2) (some (.int r.1)) 0 0) : ∀ (x1 : Int32) (x2 : Int32) (h : PH), fL_X10_minds_45 F x1 x2 h = some r → PW E V 0 0 143 (WG V o h) 45 [(0, rf V 102), (1, .int x1), (2, .int x2)] [] := by
  intro x1 x2 h hm
  unfold fL_X10_minds_45 at hm
  refine q_aload_n hE 0 (dlX10_minds_0.at 29 rfl) rfl rfl ?_
  refine q_iload_n hE 1 (dlX10_minds_0.at 30 rfl) rfl rfl ?_
  refine q_iload_n hE 2 (dlX10_minds_0.at 31 rfl) rfl rfl ?_
  refine q_callV_i (X := fun z => WG V o z) hE (As := [_, _]) (dlX10_minds_0.at 32 rfl) mw_X10_newsOf wm_X10_294 rfl rfl rfl rfl (Nat.zero_le _) (Nat.zero_le _) rfl kc10 g102 rfl (ok_X10_newsOf hfx) hm (fun v3 h3 hm => ?_)
  refine q_aload_n hE 0 (dlX10_minds_0.at 33 rfl) rfl rfl ?_
  refine q_get hE (dlX10_minds_0.at 34 rfl) kc10 wf_X10_23 g102 rfl rfl rfl ?_
  refine q_iload_n hE 1 (dlX10_minds_0.at 35 rfl) rfl rfl ?_
  refine q_iald hE (dlX10_minds_0.at 36 rfl) g104 rfl hm (fun hm => ?_)
  refine q_iconst hE (dlX10_minds_0.at 37 rfl) ic_3 ?_
  refine q_iadd hE (dlX10_minds_0.at 38 rfl) ?_
  refine q_icmp_le hE (tgt := 66) (dlX10_minds_0.at 39 rfl) (by decide) hm (fun hc4 hm => ?_) (fun hc4 hm => ?_)
  · refine q_iconst hE (dlX10_minds_1.at 2 rfl) ic_0 ?_
    exact q_bret (X := fun z => WG V o z) hE (dlX10_minds_1.at 3 rfl) hm hQ rfl (by decide)
  · refine q_iconst hE (dlX10_minds_1.at 0 rfl) ic_1 ?_
    refine q_goto hE (tgt := 67) (dlX10_minds_1.at 1 rfl) (by decide) ?_
    exact q_bret (X := fun z => WG V o z) hE (dlX10_minds_1.at 3 rfl) hm hQ rfl (by decide)
set_option maxRecDepth 10000 in
theorem ok_X10_minds {V : Ev} {l : Launch} {o : PH} {F : Nat}  (hfx : V.2.2.2.2 = false) {a1 : Int32} {a2 : Int32} {h : PH} : ∀ (v : Int32) (h' : PH), f_X10_minds F a1 a2 h = some (v, h') → Ctr l V yX10_minds cX10_minds 3 (some .boolean) 5 [rf V 102, .int a1, .int a2] 143 (WG V o h) 143 (WG V o (h')) (some (.int v)) 0 0 := by
  intro v h' hm
  refine Ctr.intro RX10 (by decide +kernel) rfl rfl rfl ?_
  intro E hE hQ _
  unfold f_X10_minds at hm
  refine q_aload_n hE 0 (dlX10_minds_0.at 0 rfl) rfl rfl ?_
  refine q_get hE (dlX10_minds_0.at 1 rfl) kc10 wf_X10_19 g102 rfl rfl rfl ?_
  refine q_iload_n hE 1 (dlX10_minds_0.at 2 rfl) rfl rfl ?_
  refine q_iald hE (dlX10_minds_0.at 3 rfl) g103 rfl hm (fun hm => ?_)
  refine q_iconst hE (dlX10_minds_0.at 4 rfl) ic_5 ?_
  refine q_icmp_ne hE (tgt := 25) (dlX10_minds_0.at 5 rfl) (by decide) hm (fun hc1 hm => ?_) (fun hc1 hm => ?_)
  · refine q_iload_n hE 2 (dlX10_minds_0.at 6 rfl) rfl rfl ?_
    refine q_aload_n hE 0 (dlX10_minds_0.at 7 rfl) rfl rfl ?_
    refine q_get hE (dlX10_minds_0.at 8 rfl) kc10 wf_X10_23 g102 rfl rfl rfl ?_
    refine q_iload_n hE 1 (dlX10_minds_0.at 9 rfl) rfl rfl ?_
    refine q_iald hE (dlX10_minds_0.at 10 rfl) g104 rfl hm (fun hm => ?_)
    refine q_iconst hE (dlX10_minds_0.at 11 rfl) ic_2 ?_
    refine q_iadd hE (dlX10_minds_0.at 12 rfl) ?_
    refine q_irem hE (dlX10_minds_0.at 13 rfl) hm (fun hm => ?_)
    refine q_if_ne hE (tgt := 25) (dlX10_minds_0.at 14 rfl) (by decide) hm (fun hc6 hm => ?_) (fun hc6 hm => ?_)
    · refine q_iconst hE (dlX10_minds_0.at 15 rfl) ic_0 ?_
      exact q_bret (X := fun z => WG V o z) hE (dlX10_minds_0.at 16 rfl) hm hQ rfl (by decide)
    · refine q_aload_n hE 0 (dlX10_minds_0.at 17 rfl) rfl rfl ?_
      refine q_get hE (dlX10_minds_0.at 18 rfl) kc10 wf_X10_19 g102 rfl rfl rfl ?_
      refine q_iload_n hE 1 (dlX10_minds_0.at 19 rfl) rfl rfl ?_
      refine q_iald hE (dlX10_minds_0.at 20 rfl) g103 rfl hm (fun hm => ?_)
      refine q_iconst hE (dlX10_minds_0.at 21 rfl) ic_2 ?_
      refine q_icmp_eq hE (tgt := 45) (dlX10_minds_0.at 22 rfl) (by decide) hm (fun hc7 hm => ?_) (fun hc7 hm => ?_)
      · refine q_sub hE [0, 1, 2] rfl ?_
        exact okL_X10_minds_45 hfx hE hQ  _ _ _  hm
      · refine q_aload_n hE 0 (dlX10_minds_0.at 23 rfl) rfl rfl ?_
        refine q_get hE (dlX10_minds_0.at 24 rfl) kc10 wf_X10_19 g102 rfl rfl rfl ?_
        refine q_iload_n hE 1 (dlX10_minds_0.at 25 rfl) rfl rfl ?_
        refine q_iald hE (dlX10_minds_0.at 26 rfl) g103 rfl hm (fun hm => ?_)
        refine q_iconst hE (dlX10_minds_0.at 27 rfl) ic_5 ?_
        refine q_icmp_ne hE (tgt := 66) (dlX10_minds_0.at 28 rfl) (by decide) hm (fun hc8 hm => ?_) (fun hc8 hm => ?_)
        · refine q_sub hE [0, 1, 2] rfl ?_
          exact okL_X10_minds_45 hfx hE hQ  _ _ _  hm
        · refine q_iconst hE (dlX10_minds_1.at 2 rfl) ic_0 ?_
          exact q_bret (X := fun z => WG V o z) hE (dlX10_minds_1.at 3 rfl) hm hQ rfl (by decide)
  · refine q_aload_n hE 0 (dlX10_minds_0.at 17 rfl) rfl rfl ?_
    refine q_get hE (dlX10_minds_0.at 18 rfl) kc10 wf_X10_19 g102 rfl rfl rfl ?_
    refine q_iload_n hE 1 (dlX10_minds_0.at 19 rfl) rfl rfl ?_
    refine q_iald hE (dlX10_minds_0.at 20 rfl) g103 rfl hm (fun hm => ?_)
    refine q_iconst hE (dlX10_minds_0.at 21 rfl) ic_2 ?_
    refine q_icmp_eq hE (tgt := 45) (dlX10_minds_0.at 22 rfl) (by decide) hm (fun hc2 hm => ?_) (fun hc2 hm => ?_)
    · refine q_sub hE [0, 1, 2] rfl ?_
      exact okL_X10_minds_45 hfx hE hQ  _ _ _  hm
    · refine q_aload_n hE 0 (dlX10_minds_0.at 23 rfl) rfl rfl ?_
      refine q_get hE (dlX10_minds_0.at 24 rfl) kc10 wf_X10_19 g102 rfl rfl rfl ?_
      refine q_iload_n hE 1 (dlX10_minds_0.at 25 rfl) rfl rfl ?_
      refine q_iald hE (dlX10_minds_0.at 26 rfl) g103 rfl hm (fun hm => ?_)
      refine q_iconst hE (dlX10_minds_0.at 27 rfl) ic_5 ?_
      refine q_icmp_ne hE (tgt := 66) (dlX10_minds_0.at 28 rfl) (by decide) hm (fun hc5 hm => ?_) (fun hc5 hm => ?_)
      · refine q_sub hE [0, 1, 2] rfl ?_
        exact okL_X10_minds_45 hfx hE hQ  _ _ _  hm
      · refine q_iconst hE (dlX10_minds_1.at 2 rfl) ic_0 ?_
        exact q_bret (X := fun z => WG V o z) hE (dlX10_minds_1.at 3 rfl) hm hQ rfl (by decide)
set_option maxRecDepth 10000 in
theorem okL_X10_goEvening_91 {V : Ev} {l : Launch} {o : PH} {F : Nat} {K11 : Int32 → Int32 → Int32 → Int32 → PH → Option (Int32 × PH)}  (hfx : V.2.2.2.2 = false) {E : Cx} (hE : CX E V l cX10_goEvening RX10 6 6 0 0 (some .int)) {r : Int32 × PH} (hQ : RQ E V 143 (WG V o r.2) (some (.int r.1)) 0 0) (hK11 : ∀ (y1 : Int32) (y2 : Int32) (y3 : Int32) (y4 : Int32) (h : PH), K11 y1 y2 y3 y4 h = some r → PW E V 0 0 143 (WG V o h) 11 [(0, rf V 102), (1, .int y1), (2, .int y2), (3, .int y3), (4, .int y4)] []) : ∀ (x1 : Int32) (x2 : Int32) (x3 : Int32) (x4 : Int32) (x5 : Int32) (h : PH), fL_X10_goEvening_91 F K11 x1 x2 x3 x4 x5 h = some r → PW E V 0 0 143 (WG V o h) 91 [(0, rf V 102), (1, .int x1), (2, .int x2), (3, .int x3), (4, .int x4), (5, .int x5)] [] := by
  intro x1 x2 x3 x4 x5 h hm
  unfold fL_X10_goEvening_91 at hm
  refine q_iload_n hE 3 (dlX10_goEvening_1.at 12 rfl) rfl rfl ?_
  refine q_iload hE 5 (dlX10_goEvening_1.at 13 rfl) rfl ?_
  refine q_iadd hE (dlX10_goEvening_1.at 14 rfl) ?_
  refine q_istore_n hE [(0, _), (1, _), (2, _), (3, _), (4, _), (5, _)] (dlX10_goEvening_1.at 15 rfl) rfl rfl rfl ?_
  refine q_iinc hE [(0, _), (1, _), (2, _), (3, _), (4, _), (5, _)] 2 (dlX10_goEvening_1.at 16 rfl) rfl ic_1 rfl rfl ?_
  refine q_aload_n hE 0 (dlX10_goEvening_1.at 17 rfl) rfl rfl ?_
  refine q_get hE (dlX10_goEvening_1.at 18 rfl) kc10 wf_X10_26 g102 rfl rfl rfl ?_
  refine q_iload_n hE 1 (dlX10_goEvening_1.at 19 rfl) rfl rfl ?_
  refine q_dup2 hE (dlX10_goEvening_1.at 20 rfl) rfl rfl ?_
  refine q_iald hE (dlX10_goEvening_1.at 21 rfl) g105 rfl hm (fun hm => ?_)
  refine q_iconst hE (dlX10_goEvening_1.at 22 rfl) ic_1 ?_
  refine q_iadd hE (dlX10_goEvening_1.at 23 rfl) ?_
  refine q_iast hE hfx (dlX10_goEvening_1.at 24 rfl) g105 rfl u105 hm (fun hm => ?_)
  refine q_lth (X := fun z => WG V o z) hm (fun h13 hm => ?_)
  refine q_goto hE (tgt := 118) (dlX10_goEvening_1.at 25 rfl) (by decide) ?_
  refine q_goto hE (tgt := 11) (dlX10_goEvening_1.at 30 rfl) (by decide) ?_
  refine q_sub hE [0, 1, 2, 3, 4] rfl ?_
  exact hK11 _ _ _ _ _ hm
set_option maxRecDepth 10000 in
theorem okL_X10_goEvening_11 {V : Ev} {l : Launch} {o : PH} {F : Nat}  (hfx : V.2.2.2.2 = false) {E : Cx} (hE : CX E V l cX10_goEvening RX10 6 6 0 0 (some .int)) {r : Int32 × PH} (hQ : RQ E V 143 (WG V o r.2) (some (.int r.1)) 0 0) : ∀ (n : Nat) (x1 : Int32) (x2 : Int32) (x3 : Int32) (x4 : Int32) (h : PH), fL_X10_goEvening_11 F n x1 x2 x3 x4 h = some r → PW E V 0 0 143 (WG V o h) 11 [(0, rf V 102), (1, .int x1), (2, .int x2), (3, .int x3), (4, .int x4)] [] := by
  intro n
  induction n with
  | zero => intro x1 x2 x3 x4 h hm; cases hm
  | succ n ih =>
    intro x1 x2 x3 x4 h hm
    rw [fL_X10_goEvening_11] at hm
    refine q_iload_n hE 2 (dlX10_goEvening_0.at 8 rfl) rfl rfl ?_
    refine q_bipush hE (dlX10_goEvening_0.at 9 rfl) bc_30 ?_
    refine q_icmp_ge hE (tgt := 121) (dlX10_goEvening_0.at 10 rfl) (by decide) hm (fun hc2 hm => ?_) (fun hc2 hm => ?_)
    · refine q_aload_n hE 0 (dlX10_goEvening_1.at 31 rfl) rfl rfl ?_
      refine q_callV_v (X := fun z => WG V o z) hE (As := []) (dlX10_goEvening_1.at 32 rfl) mw_X10_goNight wm_X10_312 rfl rfl rfl rfl (Nat.zero_le _) (Nat.zero_le _) rfl kc10 g102 rfl (ok_X10_goNight hfx) hm (fun v3 h3 hm => ?_)
      refine q_iload_n hE 2 (dlX10_goEvening_1.at 33 rfl) rfl rfl ?_
      exact q_iret (X := fun z => WG V o z) hE (dlX10_goEvening_1.at 34 rfl) hm hQ rfl
    · refine q_aload_n hE 0 (dlX10_goEvening_0.at 11 rfl) rfl rfl ?_
      refine q_get hE (dlX10_goEvening_0.at 12 rfl) kc10 wf_X10_26 g102 rfl rfl rfl ?_
      refine q_iload_n hE 1 (dlX10_goEvening_0.at 13 rfl) rfl rfl ?_
      refine q_iald hE (dlX10_goEvening_0.at 14 rfl) g105 rfl hm (fun hm => ?_)
      refine q_aload_n hE 0 (dlX10_goEvening_0.at 15 rfl) rfl rfl ?_
      refine q_get hE (dlX10_goEvening_0.at 16 rfl) kc10 wf_X10_16 g102 rfl rfl rfl ?_
      refine q_icmp_ge hE (tgt := 121) (dlX10_goEvening_0.at 17 rfl) (by decide) hm (fun hc4 hm => ?_) (fun hc4 hm => ?_)
      · refine q_aload_n hE 0 (dlX10_goEvening_1.at 31 rfl) rfl rfl ?_
        refine q_callV_v (X := fun z => WG V o z) hE (As := []) (dlX10_goEvening_1.at 32 rfl) mw_X10_goNight wm_X10_312 rfl rfl rfl rfl (Nat.zero_le _) (Nat.zero_le _) rfl kc10 g102 rfl (ok_X10_goNight hfx) hm (fun v5 h5 hm => ?_)
        refine q_iload_n hE 2 (dlX10_goEvening_1.at 33 rfl) rfl rfl ?_
        exact q_iret (X := fun z => WG V o z) hE (dlX10_goEvening_1.at 34 rfl) hm hQ rfl
      · refine q_aload_n hE 0 (dlX10_goEvening_0.at 18 rfl) rfl rfl ?_
        refine q_aload_n hE 0 (dlX10_goEvening_0.at 19 rfl) rfl rfl ?_
        refine q_get hE (dlX10_goEvening_0.at 20 rfl) kc10 wf_X10_13 g102 rfl rfl rfl ?_
        refine q_iload_n hE 1 (dlX10_goEvening_0.at 21 rfl) rfl rfl ?_
        refine q_callV_i (X := fun z => WG V o z) hE (As := [_, _]) (dlX10_goEvening_0.at 22 rfl) mw_X10_has wm_X10_224 rfl rfl rfl rfl (Nat.zero_le _) (Nat.zero_le _) rfl kc10 g102 rfl (ok_X10_has hfx) hm (fun v6 h6 hm => ?_)
        refine q_if_ne hE (tgt := 121) (dlX10_goEvening_0.at 23 rfl) (by decide) hm (fun hc7 hm => ?_) (fun hc7 hm => ?_)
        · refine q_aload_n hE 0 (dlX10_goEvening_0.at 24 rfl) rfl rfl ?_
          refine q_iload_n hE 1 (dlX10_goEvening_0.at 25 rfl) rfl rfl ?_
          refine q_aload_n hE 0 (dlX10_goEvening_0.at 26 rfl) rfl rfl ?_
          refine q_get hE (dlX10_goEvening_0.at 27 rfl) kc10 wf_X10_26 g102 rfl rfl rfl ?_
          refine q_iload_n hE 1 (dlX10_goEvening_0.at 28 rfl) rfl rfl ?_
          refine q_iald hE (dlX10_goEvening_0.at 29 rfl) g105 rfl hm (fun hm => ?_)
          refine q_callV_i (X := fun z => WG V o z) hE (As := [_, _]) (dlX10_goEvening_0.at 30 rfl) mw_X10_newsOf wm_X10_294 rfl rfl rfl rfl (Nat.zero_le _) (Nat.zero_le _) rfl kc10 g102 rfl (ok_X10_newsOf hfx) hm (fun v9 h9 hm => ?_)
          refine q_istore hE [(0, _), (1, _), (2, _), (3, _), (4, _), (5, _)] (dlX10_goEvening_0.at 31 rfl) rfl rfl ?_
          refine q_aload_n hE 0 (dlX10_goEvening_0.at 32 rfl) rfl rfl ?_
          refine q_iload_n hE 1 (dlX10_goEvening_0.at 33 rfl) rfl rfl ?_
          refine q_aload_n hE 0 (dlX10_goEvening_0.at 34 rfl) rfl rfl ?_
          refine q_get hE (dlX10_goEvening_0.at 35 rfl) kc10 wf_X10_26 g102 rfl rfl rfl ?_
          refine q_iload_n hE 1 (dlX10_goEvening_0.at 36 rfl) rfl rfl ?_
          refine q_iald hE (dlX10_goEvening_0.at 37 rfl) g105 rfl hm (fun hm => ?_)
          refine q_callV_i (X := fun z => WG V o z) hE (As := [_, _]) (dlX10_goEvening_0.at 38 rfl) mw_X10_minds wm_X10_306 rfl rfl rfl rfl (Nat.zero_le _) (Nat.zero_le _) rfl kc10 g102 rfl (ok_X10_minds hfx) hm (fun v10 h10 hm => ?_)
          refine q_if_eq hE (tgt := 78) (dlX10_goEvening_0.at 39 rfl) (by decide) hm (fun hc11 hm => ?_) (fun hc11 hm => ?_)
          · refine q_iload_n hE 2 (dlX10_goEvening_1.at 5 rfl) rfl rfl ?_
            refine q_if_eq hE (tgt := 91) (dlX10_goEvening_1.at 6 rfl) (by decide) hm (fun hc12 hm => ?_) (fun hc12 hm => ?_)
            · refine q_sub hE [0, 1, 2, 3, 4, 5] rfl ?_
              exact okL_X10_goEvening_91 hfx hE hQ (fun x14 x15 x16 x17 h18  hm => by
                    refine q_sub hE [0, 1, 2, 3, 4] rfl ?_
                    exact ih _ _ _ _ _  hm) _ _ _ _ _ _  hm
            · refine q_iload_n hE 3 (dlX10_goEvening_1.at 7 rfl) rfl rfl ?_
              refine q_iload hE 5 (dlX10_goEvening_1.at 8 rfl) rfl ?_
              refine q_iadd hE (dlX10_goEvening_1.at 9 rfl) ?_
              refine q_iload hE 4 (dlX10_goEvening_1.at 10 rfl) rfl ?_
              refine q_icmp_gt hE (tgt := 112) (dlX10_goEvening_1.at 11 rfl) (by decide) hm (fun hc19 hm => ?_) (fun hc19 hm => ?_)
              · refine q_aload_n hE 0 (dlX10_goEvening_1.at 26 rfl) rfl rfl ?_
                refine q_callV_v (X := fun z => WG V o z) hE (As := []) (dlX10_goEvening_1.at 27 rfl) mw_X10_goNight wm_X10_312 rfl rfl rfl rfl (Nat.zero_le _) (Nat.zero_le _) rfl kc10 g102 rfl (ok_X10_goNight hfx) hm (fun v20 h20 hm => ?_)
                refine q_iload_n hE 2 (dlX10_goEvening_1.at 28 rfl) rfl rfl ?_
                exact q_iret (X := fun z => WG V o z) hE (dlX10_goEvening_1.at 29 rfl) hm hQ rfl
              · refine q_sub hE [0, 1, 2, 3, 4, 5] rfl ?_
                exact okL_X10_goEvening_91 hfx hE hQ (fun x21 x22 x23 x24 h25  hm => by
                      refine q_sub hE [0, 1, 2, 3, 4] rfl ?_
                      exact ih _ _ _ _ _  hm) _ _ _ _ _ _  hm
          · refine q_aload_n hE 0 (dlX10_goEvening_1.at 0 rfl) rfl rfl ?_
            refine q_iload_n hE 1 (dlX10_goEvening_1.at 1 rfl) rfl rfl ?_
            refine q_iconst hE (dlX10_goEvening_1.at 2 rfl) ic_1 ?_
            refine q_callV_v (X := fun z => WG V o z) hE (As := [_, _]) (dlX10_goEvening_1.at 3 rfl) mw_X10_balks wm_X10_216 rfl rfl rfl rfl (Nat.zero_le _) (Nat.zero_le _) rfl kc10 g102 rfl (ok_X10_balks hfx) hm (fun v26 h26 hm => ?_)
            refine q_goto hE (tgt := 118) (dlX10_goEvening_1.at 4 rfl) (by decide) ?_
            refine q_goto hE (tgt := 11) (dlX10_goEvening_1.at 30 rfl) (by decide) ?_
            refine q_sub hE [0, 1, 2, 3, 4] rfl ?_
            exact ih _ _ _ _ _  hm
        · refine q_aload_n hE 0 (dlX10_goEvening_1.at 31 rfl) rfl rfl ?_
          refine q_callV_v (X := fun z => WG V o z) hE (As := []) (dlX10_goEvening_1.at 32 rfl) mw_X10_goNight wm_X10_312 rfl rfl rfl rfl (Nat.zero_le _) (Nat.zero_le _) rfl kc10 g102 rfl (ok_X10_goNight hfx) hm (fun v8 h8 hm => ?_)
          refine q_iload_n hE 2 (dlX10_goEvening_1.at 33 rfl) rfl rfl ?_
          exact q_iret (X := fun z => WG V o z) hE (dlX10_goEvening_1.at 34 rfl) hm hQ rfl
set_option maxRecDepth 10000 in
theorem ok_X10_goEvening {V : Ev} {l : Launch} {o : PH} {F : Nat}  (hfx : V.2.2.2.2 = false) {a1 : Int32} {h : PH} : ∀ (v : Int32) (h' : PH), f_X10_goEvening F a1 h = some (v, h') → Ctr l V yX10_goEvening cX10_goEvening 6 (some .int) 6 [rf V 102, .int a1] 143 (WG V o h) 143 (WG V o (h')) (some (.int v)) 0 0 := by
  intro v h' hm
  refine Ctr.intro RX10 (by decide +kernel) rfl rfl rfl ?_
  intro E hE hQ _
  unfold f_X10_goEvening at hm
  refine q_iconst hE (dlX10_goEvening_0.at 0 rfl) ic_0 ?_
  refine q_istore_n hE [(0, _), (1, _), (2, _)] (dlX10_goEvening_0.at 1 rfl) rfl rfl rfl ?_
  refine q_iconst hE (dlX10_goEvening_0.at 2 rfl) ic_0 ?_
  refine q_istore_n hE [(0, _), (1, _), (2, _), (3, _)] (dlX10_goEvening_0.at 3 rfl) rfl rfl rfl ?_
  refine q_aload_n hE 0 (dlX10_goEvening_0.at 4 rfl) rfl rfl ?_
  refine q_iload_n hE 1 (dlX10_goEvening_0.at 5 rfl) rfl rfl ?_
  refine q_callV_i (X := fun z => WG V o z) hE (As := [_]) (dlX10_goEvening_0.at 6 rfl) mw_X10_holdsOf wm_X10_309 rfl rfl rfl rfl (Nat.zero_le _) (Nat.zero_le _) rfl kc10 g102 rfl (ok_X10_holdsOf hfx) hm (fun v1 h1 hm => ?_)
  refine q_istore hE [(0, _), (1, _), (2, _), (3, _), (4, _)] (dlX10_goEvening_0.at 7 rfl) rfl rfl ?_
  refine q_sub hE [0, 1, 2, 3, 4] rfl ?_
  exact okL_X10_goEvening_11 hfx hE hQ  F _ _ _ _ _  hm
set_option maxRecDepth 10000 in
theorem ok_X10_tell {V : Ev} {l : Launch} {o : PH} {F : Nat}  (hfx : V.2.2.2.2 = false) {a1 : Int32} {h : PH} : ∀ (v : Int32) (h' : PH), f_X10_tell F a1 h = some (v, h') → Ctr l V yX10_tell cX10_tell 2 (some .int) 7 [rf V 102, .int a1] 143 (WG V o h) 143 (WG V o (h')) (some (.int v)) 0 0 := by
  intro v h' hm
  refine Ctr.intro RX10 (by decide +kernel) rfl rfl rfl ?_
  intro E hE hQ _
  unfold f_X10_tell at hm
  refine q_aload_n hE 0 (dlX10_tell_0.at 0 rfl) rfl rfl ?_
  refine q_iload_n hE 1 (dlX10_tell_0.at 1 rfl) rfl rfl ?_
  refine q_callV_i (X := fun z => WG V o z) hE (As := [_]) (dlX10_tell_0.at 2 rfl) mw_X10_isClock wm_X10_220 rfl rfl rfl rfl (Nat.zero_le _) (Nat.zero_le _) rfl kc10 g102 rfl (ok_X10_isClock hfx) hm (fun v1 h1 hm => ?_)
  refine q_if_ne hE (tgt := 10) (dlX10_tell_0.at 3 rfl) (by decide) hm (fun hc2 hm => ?_) (fun hc2 hm => ?_)
  · refine q_iconst hE (dlX10_tell_0.at 4 rfl) ic_m1 ?_
    exact q_iret (X := fun z => WG V o z) hE (dlX10_tell_0.at 5 rfl) hm hQ rfl
  · refine q_aload_n hE 0 (dlX10_tell_0.at 6 rfl) rfl rfl ?_
    refine q_get hE (dlX10_tell_0.at 7 rfl) kc10 wf_X10_16 g102 rfl rfl rfl ?_
    refine q_sipush hE (dlX10_tell_0.at 8 rfl) sc_9999 ?_
    refine q_icmp_ne hE (tgt := 25) (dlX10_tell_0.at 9 rfl) (by decide) hm (fun hc3 hm => ?_) (fun hc3 hm => ?_)
    · refine q_bipush hE (dlX10_tell_0.at 10 rfl) bc_m3 ?_
      refine q_goto hE (tgt := 30) (dlX10_tell_0.at 11 rfl) (by decide) ?_
      exact q_iret (X := fun z => WG V o z) hE (dlX10_tell_0.at 15 rfl) hm hQ rfl
    · refine q_aload_n hE 0 (dlX10_tell_0.at 12 rfl) rfl rfl ?_
      refine q_iload_n hE 1 (dlX10_tell_0.at 13 rfl) rfl rfl ?_
      refine q_callV_i (X := fun z => WG V o z) hE (As := [_]) (dlX10_tell_0.at 14 rfl) mw_X10_goEvening wm_X10_315 rfl rfl rfl rfl (Nat.zero_le _) (Nat.zero_le _) rfl kc10 g102 rfl (ok_X10_goEvening hfx) hm (fun v4 h4 hm => ?_)
      exact q_iret (X := fun z => WG V o z) hE (dlX10_tell_0.at 15 rfl) hm hQ rfl
set_option maxRecDepth 10000 in
theorem ok_X10_isEvenings {V : Ev} {l : Launch} {o : PH} {F : Nat}  (hfx : V.2.2.2.2 = false) {a1 : Int32} {h : PH} : ∀ (v : Int32) (h' : PH), f_X10_isEvenings F a1 h = some (v, h') → Ctr l V yX10_isEvenings cX10_isEvenings 2 (some .boolean) 2 [rf V 102, .int a1] 143 (WG V o h) 143 (WG V o (h')) (some (.int v)) 0 0 := by
  intro v h' hm
  refine Ctr.intro RX10 (by decide +kernel) rfl rfl rfl ?_
  intro E hE hQ _
  unfold f_X10_isEvenings at hm
  refine q_aload_n hE 0 (dlX10_isEvenings_0.at 0 rfl) rfl rfl ?_
  refine q_iload_n hE 1 (dlX10_isEvenings_0.at 1 rfl) rfl rfl ?_
  refine q_iconst hE (dlX10_isEvenings_0.at 2 rfl) ic_0 ?_
  refine q_bipush hE (dlX10_isEvenings_0.at 3 rfl) bc_60 ?_
  refine q_callV_i (X := fun z => WG V o z) hE (As := [_, _, _]) (dlX10_isEvenings_0.at 4 rfl) mw_X10_in wm_X10_212 rfl rfl rfl rfl (Nat.zero_le _) (Nat.zero_le _) rfl kc10 g102 rfl (ok_X10_in hfx) hm (fun v1 h1 hm => ?_)
  exact q_bret (X := fun z => WG V o z) hE (dlX10_isEvenings_0.at 5 rfl) hm hQ rfl rfl
set_option maxRecDepth 10000 in
theorem okL_X10_pass_28 {V : Ev} {l : Launch} {o : PH} {F : Nat}  (hfx : V.2.2.2.2 = false) {E : Cx} (hE : CX E V l cX10_pass RX10 3 3 0 0 (some .int)) {r : Int32 × PH} (hQ : RQ E V 143 (WG V o r.2) (some (.int r.1)) 0 0) : ∀ (n : Nat) (x1 : Int32) (x2 : Int32) (h : PH), fL_X10_pass_28 F n x1 x2 h = some r → PW E V 0 0 143 (WG V o h) 28 [(0, rf V 102), (1, .int x1), (2, .int x2)] [] := by
  intro n
  induction n with
  | zero => intro x1 x2 h hm; cases hm
  | succ n ih =>
    intro x1 x2 h hm
    rw [fL_X10_pass_28] at hm
    refine q_iload_n hE 2 (dlX10_pass_0.at 16 rfl) rfl rfl ?_
    refine q_iload_n hE 1 (dlX10_pass_0.at 17 rfl) rfl rfl ?_
    refine q_icmp_ge hE (tgt := 43) (dlX10_pass_0.at 18 rfl) (by decide) hm (fun hc4 hm => ?_) (fun hc4 hm => ?_)
    · refine q_aload_n hE 0 (dlX10_pass_0.at 23 rfl) rfl rfl ?_
      refine q_get hE (dlX10_pass_0.at 24 rfl) kc10 wf_X10_16 g102 rfl rfl rfl ?_
      exact q_iret (X := fun z => WG V o z) hE (dlX10_pass_0.at 25 rfl) hm hQ rfl
    · refine q_aload_n hE 0 (dlX10_pass_0.at 19 rfl) rfl rfl ?_
      refine q_callV_v (X := fun z => WG V o z) hE (As := []) (dlX10_pass_0.at 20 rfl) mw_X10_goNight wm_X10_312 rfl rfl rfl rfl (Nat.zero_le _) (Nat.zero_le _) rfl kc10 g102 rfl (ok_X10_goNight hfx) hm (fun v5 h5 hm => ?_)
      refine q_iinc hE [(0, _), (1, _), (2, _)] 2 (dlX10_pass_0.at 21 rfl) rfl ic_1 rfl rfl ?_
      refine q_goto hE (tgt := 28) (dlX10_pass_0.at 22 rfl) (by decide) ?_
      refine q_sub hE [0, 1, 2] rfl ?_
      exact ih _ _ _  hm
set_option maxRecDepth 10000 in
theorem ok_X10_pass {V : Ev} {l : Launch} {o : PH} {F : Nat}  (hfx : V.2.2.2.2 = false) {a1 : Int32} {h : PH} : ∀ (v : Int32) (h' : PH), f_X10_pass F a1 h = some (v, h') → Ctr l V yX10_pass cX10_pass 3 (some .int) 3 [rf V 102, .int a1] 143 (WG V o h) 143 (WG V o (h')) (some (.int v)) 0 0 := by
  intro v h' hm
  refine Ctr.intro RX10 (by decide +kernel) rfl rfl rfl ?_
  intro E hE hQ _
  unfold f_X10_pass at hm
  refine q_aload_n hE 0 (dlX10_pass_0.at 0 rfl) rfl rfl ?_
  refine q_iload_n hE 1 (dlX10_pass_0.at 1 rfl) rfl rfl ?_
  refine q_callV_i (X := fun z => WG V o z) hE (As := [_]) (dlX10_pass_0.at 2 rfl) mw_X10_isEvenings wm_X10_318 rfl rfl rfl rfl (Nat.zero_le _) (Nat.zero_le _) rfl kc10 g102 rfl (ok_X10_isEvenings hfx) hm (fun v1 h1 hm => ?_)
  refine q_if_ne hE (tgt := 11) (dlX10_pass_0.at 3 rfl) (by decide) hm (fun hc2 hm => ?_) (fun hc2 hm => ?_)
  · refine q_bipush hE (dlX10_pass_0.at 4 rfl) bc_m2 ?_
    exact q_iret (X := fun z => WG V o z) hE (dlX10_pass_0.at 5 rfl) hm hQ rfl
  · refine q_aload_n hE 0 (dlX10_pass_0.at 6 rfl) rfl rfl ?_
    refine q_get hE (dlX10_pass_0.at 7 rfl) kc10 wf_X10_16 g102 rfl rfl rfl ?_
    refine q_iload_n hE 1 (dlX10_pass_0.at 8 rfl) rfl rfl ?_
    refine q_iadd hE (dlX10_pass_0.at 9 rfl) ?_
    refine q_sipush hE (dlX10_pass_0.at 10 rfl) sc_9999 ?_
    refine q_icmp_le hE (tgt := 26) (dlX10_pass_0.at 11 rfl) (by decide) hm (fun hc3 hm => ?_) (fun hc3 hm => ?_)
    · refine q_iconst hE (dlX10_pass_0.at 14 rfl) ic_0 ?_
      refine q_istore_n hE [(0, _), (1, _), (2, _)] (dlX10_pass_0.at 15 rfl) rfl rfl rfl ?_
      refine q_sub hE [0, 1, 2] rfl ?_
      exact okL_X10_pass_28 hfx hE hQ  F _ _ _  hm
    · refine q_bipush hE (dlX10_pass_0.at 12 rfl) bc_m3 ?_
      exact q_iret (X := fun z => WG V o z) hE (dlX10_pass_0.at 13 rfl) hm hQ rfl
set_option maxRecDepth 10000 in
theorem okL_X10_left_9 {V : Ev} {l : Launch} {o : PH} {F : Nat}  (hfx : V.2.2.2.2 = false) {E : Cx} (hE : CX E V l cX10_left RX10 4 5 0 0 (some .int)) {r : Int32 × PH} (hQ : RQ E V 143 (WG V o r.2) (some (.int r.1)) 0 0) : ∀ (n : Nat) (x1 : Int32) (x2 : Int32) (x3 : Int32) (h : PH), fL_X10_left_9 F n x1 x2 x3 h = some r → PW E V 0 0 143 (WG V o h) 9 [(0, rf V 102), (1, .int x1), (2, .int x2), (3, .int x3)] [] := by
  intro n
  induction n with
  | zero => intro x1 x2 x3 h hm; cases hm
  | succ n ih =>
    intro x1 x2 x3 h hm
    rw [fL_X10_left_9] at hm
    refine q_iload_n hE 3 (dlX10_left_0.at 7 rfl) rfl rfl ?_
    refine q_aload_n hE 0 (dlX10_left_0.at 8 rfl) rfl rfl ?_
    refine q_get hE (dlX10_left_0.at 9 rfl) kc10 wf_X10_16 g102 rfl rfl rfl ?_
    refine q_icmp_ge hE (tgt := 32) (dlX10_left_0.at 10 rfl) (by decide) hm (fun hc1 hm => ?_) (fun hc1 hm => ?_)
    · refine q_iload_n hE 2 (dlX10_left_0.at 20 rfl) rfl rfl ?_
      exact q_iret (X := fun z => WG V o z) hE (dlX10_left_0.at 21 rfl) hm hQ rfl
    · refine q_iload_n hE 2 (dlX10_left_0.at 11 rfl) rfl rfl ?_
      refine q_aload_n hE 0 (dlX10_left_0.at 12 rfl) rfl rfl ?_
      refine q_iload_n hE 1 (dlX10_left_0.at 13 rfl) rfl rfl ?_
      refine q_iload_n hE 3 (dlX10_left_0.at 14 rfl) rfl rfl ?_
      refine q_callV_i (X := fun z => WG V o z) hE (As := [_, _]) (dlX10_left_0.at 15 rfl) mw_X10_newsOf wm_X10_294 rfl rfl rfl rfl (Nat.zero_le _) (Nat.zero_le _) rfl kc10 g102 rfl (ok_X10_newsOf hfx) hm (fun v2 h2 hm => ?_)
      refine q_iadd hE (dlX10_left_0.at 16 rfl) ?_
      refine q_istore_n hE [(0, _), (1, _), (2, _), (3, _)] (dlX10_left_0.at 17 rfl) rfl rfl rfl ?_
      refine q_iinc hE [(0, _), (1, _), (2, _), (3, _)] 3 (dlX10_left_0.at 18 rfl) rfl ic_1 rfl rfl ?_
      refine q_goto hE (tgt := 9) (dlX10_left_0.at 19 rfl) (by decide) ?_
      refine q_sub hE [0, 1, 2, 3] rfl ?_
      exact ih _ _ _ _  hm
set_option maxRecDepth 10000 in
theorem ok_X10_left {V : Ev} {l : Launch} {o : PH} {F : Nat}  (hfx : V.2.2.2.2 = false) {a1 : Int32} {h : PH} : ∀ (v : Int32) (h' : PH), f_X10_left F a1 h = some (v, h') → Ctr l V yX10_left cX10_left 4 (some .int) 5 [rf V 102, .int a1] 143 (WG V o h) 143 (WG V o (h')) (some (.int v)) 0 0 := by
  intro v h' hm
  refine Ctr.intro RX10 (by decide +kernel) rfl rfl rfl ?_
  intro E hE hQ _
  unfold f_X10_left at hm
  refine q_iconst hE (dlX10_left_0.at 0 rfl) ic_0 ?_
  refine q_istore_n hE [(0, _), (1, _), (2, _)] (dlX10_left_0.at 1 rfl) rfl rfl rfl ?_
  refine q_aload_n hE 0 (dlX10_left_0.at 2 rfl) rfl rfl ?_
  refine q_get hE (dlX10_left_0.at 3 rfl) kc10 wf_X10_26 g102 rfl rfl rfl ?_
  refine q_iload_n hE 1 (dlX10_left_0.at 4 rfl) rfl rfl ?_
  refine q_iald hE (dlX10_left_0.at 5 rfl) g105 rfl hm (fun hm => ?_)
  refine q_istore_n hE [(0, _), (1, _), (2, _), (3, _)] (dlX10_left_0.at 6 rfl) rfl rfl rfl ?_
  refine q_sub hE [0, 1, 2, 3] rfl ?_
  exact okL_X10_left_9 hfx hE hQ  F _ _ _ _  hm
set_option maxRecDepth 10000 in
theorem okL_X10_minded_22 {V : Ev} {l : Launch} {o : PH} {F : Nat}  (hfx : V.2.2.2.2 = false) {E : Cx} (hE : CX E V l cX10_minded RX10 3 6 0 0 (some .int)) {r : Int32 × PH} (hQ : RQ E V 143 (WG V o r.2) (some (.int r.1)) 0 0) : ∀ (n : Nat) (x1 : Int32) (x2 : Int32) (h : PH), fL_X10_minded_22 F n x1 x2 h = some r → PW E V 0 0 143 (WG V o h) 22 [(0, rf V 102), (1, .int x1), (2, .int x2)] [] := by
  intro n
  induction n with
  | zero => intro x1 x2 h hm; cases hm
  | succ n ih =>
    intro x1 x2 h hm
    rw [fL_X10_minded_22] at hm
    refine q_iload_n hE 2 (dlX10_minded_0.at 13 rfl) rfl rfl ?_
    refine q_aload_n hE 0 (dlX10_minded_0.at 14 rfl) rfl rfl ?_
    refine q_get hE (dlX10_minded_0.at 15 rfl) kc10 wf_X10_16 g102 rfl rfl rfl ?_
    refine q_icmp_ge hE (tgt := 47) (dlX10_minded_0.at 16 rfl) (by decide) hm (fun hc3 hm => ?_) (fun hc3 hm => ?_)
    · refine q_bipush hE (dlX10_minded_0.at 26 rfl) bc_m5 ?_
      exact q_iret (X := fun z => WG V o z) hE (dlX10_minded_0.at 27 rfl) hm hQ rfl
    · refine q_aload_n hE 0 (dlX10_minded_0.at 17 rfl) rfl rfl ?_
      refine q_iload_n hE 1 (dlX10_minded_0.at 18 rfl) rfl rfl ?_
      refine q_iload_n hE 2 (dlX10_minded_0.at 19 rfl) rfl rfl ?_
      refine q_callV_i (X := fun z => WG V o z) hE (As := [_, _]) (dlX10_minded_0.at 20 rfl) mw_X10_minds wm_X10_306 rfl rfl rfl rfl (Nat.zero_le _) (Nat.zero_le _) rfl kc10 g102 rfl (ok_X10_minds hfx) hm (fun v4 h4 hm => ?_)
      refine q_if_eq hE (tgt := 41) (dlX10_minded_0.at 21 rfl) (by decide) hm (fun hc5 hm => ?_) (fun hc5 hm => ?_)
      · refine q_iinc hE [(0, _), (1, _), (2, _)] 2 (dlX10_minded_0.at 24 rfl) rfl ic_1 rfl rfl ?_
        refine q_goto hE (tgt := 22) (dlX10_minded_0.at 25 rfl) (by decide) ?_
        refine q_sub hE [0, 1, 2] rfl ?_
        exact ih _ _ _  hm
      · refine q_iload_n hE 2 (dlX10_minded_0.at 22 rfl) rfl rfl ?_
        exact q_iret (X := fun z => WG V o z) hE (dlX10_minded_0.at 23 rfl) hm hQ rfl
set_option maxRecDepth 10000 in
theorem ok_X10_minded {V : Ev} {l : Launch} {o : PH} {F : Nat}  (hfx : V.2.2.2.2 = false) {a1 : Int32} {h : PH} : ∀ (v : Int32) (h' : PH), f_X10_minded F a1 h = some (v, h') → Ctr l V yX10_minded cX10_minded 3 (some .int) 6 [rf V 102, .int a1] 143 (WG V o h) 143 (WG V o (h')) (some (.int v)) 0 0 := by
  intro v h' hm
  refine Ctr.intro RX10 (by decide +kernel) rfl rfl rfl ?_
  intro E hE hQ _
  unfold f_X10_minded at hm
  refine q_aload_n hE 0 (dlX10_minded_0.at 0 rfl) rfl rfl ?_
  refine q_aload_n hE 0 (dlX10_minded_0.at 1 rfl) rfl rfl ?_
  refine q_get hE (dlX10_minded_0.at 2 rfl) kc10 wf_X10_13 g102 rfl rfl rfl ?_
  refine q_iload_n hE 1 (dlX10_minded_0.at 3 rfl) rfl rfl ?_
  refine q_callV_i (X := fun z => WG V o z) hE (As := [_, _]) (dlX10_minded_0.at 4 rfl) mw_X10_has wm_X10_224 rfl rfl rfl rfl (Nat.zero_le _) (Nat.zero_le _) rfl kc10 g102 rfl (ok_X10_has hfx) hm (fun v1 h1 hm => ?_)
  refine q_if_eq hE (tgt := 15) (dlX10_minded_0.at 5 rfl) (by decide) hm (fun hc2 hm => ?_) (fun hc2 hm => ?_)
  · refine q_aload_n hE 0 (dlX10_minded_0.at 8 rfl) rfl rfl ?_
    refine q_get hE (dlX10_minded_0.at 9 rfl) kc10 wf_X10_26 g102 rfl rfl rfl ?_
    refine q_iload_n hE 1 (dlX10_minded_0.at 10 rfl) rfl rfl ?_
    refine q_iald hE (dlX10_minded_0.at 11 rfl) g105 rfl hm (fun hm => ?_)
    refine q_istore_n hE [(0, _), (1, _), (2, _)] (dlX10_minded_0.at 12 rfl) rfl rfl rfl ?_
    refine q_sub hE [0, 1, 2] rfl ?_
    exact okL_X10_minded_22 hfx hE hQ  F _ _ _  hm
  · refine q_bipush hE (dlX10_minded_0.at 6 rfl) bc_m5 ?_
    exact q_iret (X := fun z => WG V o z) hE (dlX10_minded_0.at 7 rfl) hm hQ rfl
set_option maxRecDepth 10000 in
theorem okL_X10_putBack_18 {V : Ev} {l : Launch} {o : PH} {F : Nat}  (hfx : V.2.2.2.2 = false) {E : Cx} (hE : CX E V l cX10_putBack RX10 2 1 0 0 none) {r : Unit × PH} (hQ : RQ E V 143 (WG V o r.2) (none) 0 0) : ∀ (n : Nat) (x1 : Int32) (h : PH), fL_X10_putBack_18 F n x1 h = some r → PW E V 0 0 143 (WG V o h) 18 [(0, rf V 102), (1, .int x1)] [] := by
  intro n
  induction n with
  | zero => intro x1 h hm; cases hm
  | succ n ih =>
    intro x1 h hm
    rw [fL_X10_putBack_18] at hm
    refine q_iload_n hE 1 (dlX10_putBack_0.at 10 rfl) rfl rfl ?_
    refine q_bipush hE (dlX10_putBack_0.at 11 rfl) bc_6 ?_
    refine q_icmp_ge hE (tgt := 42) (dlX10_putBack_0.at 12 rfl) (by decide) hm (fun hc3 hm => ?_) (fun hc3 hm => ?_)
    · exact q_vret (X := fun z => WG V o z) hE (dlX10_putBack_0.at 23 rfl) hm hQ rfl
    · refine q_aload_n hE 0 (dlX10_putBack_0.at 13 rfl) rfl rfl ?_
      refine q_get hE (dlX10_putBack_0.at 14 rfl) kc10 wf_X10_26 g102 rfl rfl rfl ?_
      refine q_iload_n hE 1 (dlX10_putBack_0.at 15 rfl) rfl rfl ?_
      refine q_aload_n hE 0 (dlX10_putBack_0.at 16 rfl) rfl rfl ?_
      refine q_get hE (dlX10_putBack_0.at 17 rfl) kc10 wf_X10_103 g102 rfl rfl rfl ?_
      refine q_iload_n hE 1 (dlX10_putBack_0.at 18 rfl) rfl rfl ?_
      refine q_iald hE (dlX10_putBack_0.at 19 rfl) g119 rfl hm (fun hm => ?_)
      refine q_iast hE hfx (dlX10_putBack_0.at 20 rfl) g105 rfl u105 hm (fun hm => ?_)
      refine q_lth (X := fun z => WG V o z) hm (fun h4 hm => ?_)
      refine q_iinc hE [(0, _), (1, _)] 1 (dlX10_putBack_0.at 21 rfl) rfl ic_1 rfl rfl ?_
      refine q_goto hE (tgt := 18) (dlX10_putBack_0.at 22 rfl) (by decide) ?_
      refine q_sub hE [0, 1] rfl ?_
      exact ih _ _  hm
set_option maxRecDepth 10000 in
theorem ok_X10_putBack {V : Ev} {l : Launch} {o : PH} {F : Nat}  (hfx : V.2.2.2.2 = false)  {h : PH} : ∀ (v : Unit) (h' : PH), f_X10_putBack F  h = some (v, h') → Ctr l V yX10_putBack cX10_putBack 2 none 1 [rf V 102] 143 (WG V o h) 143 (WG V o (h')) (none) 0 0 := by
  intro v h' hm
  refine Ctr.intro RX10 (by decide +kernel) rfl rfl rfl ?_
  intro E hE hQ _
  unfold f_X10_putBack at hm
  refine q_aload_n hE 0 (dlX10_putBack_0.at 0 rfl) rfl rfl ?_
  refine q_aload_n hE 0 (dlX10_putBack_0.at 1 rfl) rfl rfl ?_
  refine q_get hE (dlX10_putBack_0.at 2 rfl) kc10 wf_X10_97 g102 rfl rfl rfl ?_
  refine q_put hE hfx (dlX10_putBack_0.at 3 rfl) kc10 wf_X10_13 g102 rfl rfl rfl rfl rfl rfl u102_1 ?_
  refine q_lth (X := fun z => WG V o z) hm (fun h1 hm => ?_)
  refine q_aload_n hE 0 (dlX10_putBack_0.at 4 rfl) rfl rfl ?_
  refine q_aload_n hE 0 (dlX10_putBack_0.at 5 rfl) rfl rfl ?_
  refine q_get hE (dlX10_putBack_0.at 6 rfl) kc10 wf_X10_100 g102 rfl rfl rfl ?_
  refine q_put hE hfx (dlX10_putBack_0.at 7 rfl) kc10 wf_X10_16 g102 rfl rfl rfl rfl rfl rfl u102_2 ?_
  refine q_lth (X := fun z => WG V o z) hm (fun h2 hm => ?_)
  refine q_iconst hE (dlX10_putBack_0.at 8 rfl) ic_0 ?_
  refine q_istore_n hE [(0, _), (1, _)] (dlX10_putBack_0.at 9 rfl) rfl rfl rfl ?_
  refine q_sub hE [0, 1] rfl ?_
  exact okL_X10_putBack_18 hfx hE hQ  F _ _  hm
set_option maxRecDepth 10000 in
theorem okL_X10_save_18 {V : Ev} {l : Launch} {o : PH} {F : Nat}  (hfx : V.2.2.2.2 = false) {E : Cx} (hE : CX E V l cX10_save RX10 2 1 0 0 none) {r : Unit × PH} (hQ : RQ E V 143 (WG V o r.2) (none) 0 0) : ∀ (n : Nat) (x1 : Int32) (h : PH), fL_X10_save_18 F n x1 h = some r → PW E V 0 0 143 (WG V o h) 18 [(0, rf V 102), (1, .int x1)] [] := by
  intro n
  induction n with
  | zero => intro x1 h hm; cases hm
  | succ n ih =>
    intro x1 h hm
    rw [fL_X10_save_18] at hm
    refine q_iload_n hE 1 (dlX10_save_0.at 10 rfl) rfl rfl ?_
    refine q_bipush hE (dlX10_save_0.at 11 rfl) bc_6 ?_
    refine q_icmp_ge hE (tgt := 42) (dlX10_save_0.at 12 rfl) (by decide) hm (fun hc3 hm => ?_) (fun hc3 hm => ?_)
    · exact q_vret (X := fun z => WG V o z) hE (dlX10_save_0.at 23 rfl) hm hQ rfl
    · refine q_aload_n hE 0 (dlX10_save_0.at 13 rfl) rfl rfl ?_
      refine q_get hE (dlX10_save_0.at 14 rfl) kc10 wf_X10_103 g102 rfl rfl rfl ?_
      refine q_iload_n hE 1 (dlX10_save_0.at 15 rfl) rfl rfl ?_
      refine q_aload_n hE 0 (dlX10_save_0.at 16 rfl) rfl rfl ?_
      refine q_get hE (dlX10_save_0.at 17 rfl) kc10 wf_X10_26 g102 rfl rfl rfl ?_
      refine q_iload_n hE 1 (dlX10_save_0.at 18 rfl) rfl rfl ?_
      refine q_iald hE (dlX10_save_0.at 19 rfl) g105 rfl hm (fun hm => ?_)
      refine q_iast hE hfx (dlX10_save_0.at 20 rfl) g119 rfl u119 hm (fun hm => ?_)
      refine q_lth (X := fun z => WG V o z) hm (fun h4 hm => ?_)
      refine q_iinc hE [(0, _), (1, _)] 1 (dlX10_save_0.at 21 rfl) rfl ic_1 rfl rfl ?_
      refine q_goto hE (tgt := 18) (dlX10_save_0.at 22 rfl) (by decide) ?_
      refine q_sub hE [0, 1] rfl ?_
      exact ih _ _  hm
set_option maxRecDepth 10000 in
theorem ok_X10_save {V : Ev} {l : Launch} {o : PH} {F : Nat}  (hfx : V.2.2.2.2 = false)  {h : PH} : ∀ (v : Unit) (h' : PH), f_X10_save F  h = some (v, h') → Ctr l V yX10_save cX10_save 2 none 1 [rf V 102] 143 (WG V o h) 143 (WG V o (h')) (none) 0 0 := by
  intro v h' hm
  refine Ctr.intro RX10 (by decide +kernel) rfl rfl rfl ?_
  intro E hE hQ _
  unfold f_X10_save at hm
  refine q_aload_n hE 0 (dlX10_save_0.at 0 rfl) rfl rfl ?_
  refine q_aload_n hE 0 (dlX10_save_0.at 1 rfl) rfl rfl ?_
  refine q_get hE (dlX10_save_0.at 2 rfl) kc10 wf_X10_13 g102 rfl rfl rfl ?_
  refine q_put hE hfx (dlX10_save_0.at 3 rfl) kc10 wf_X10_97 g102 rfl rfl rfl rfl rfl rfl u102_28 ?_
  refine q_lth (X := fun z => WG V o z) hm (fun h1 hm => ?_)
  refine q_aload_n hE 0 (dlX10_save_0.at 4 rfl) rfl rfl ?_
  refine q_aload_n hE 0 (dlX10_save_0.at 5 rfl) rfl rfl ?_
  refine q_get hE (dlX10_save_0.at 6 rfl) kc10 wf_X10_16 g102 rfl rfl rfl ?_
  refine q_put hE hfx (dlX10_save_0.at 7 rfl) kc10 wf_X10_100 g102 rfl rfl rfl rfl rfl rfl u102_29 ?_
  refine q_lth (X := fun z => WG V o z) hm (fun h2 hm => ?_)
  refine q_iconst hE (dlX10_save_0.at 8 rfl) ic_0 ?_
  refine q_istore_n hE [(0, _), (1, _)] (dlX10_save_0.at 9 rfl) rfl rfl rfl ?_
  refine q_sub hE [0, 1] rfl ?_
  exact okL_X10_save_18 hfx hE hQ  F _ _  hm
set_option maxRecDepth 10000 in
theorem okL_X10_whole__6 {V : Ev} {l : Launch} {o : PH} {F : Nat}  (hfx : V.2.2.2.2 = false) {E : Cx} (hE : CX E V l cX10_whole_ RX10 3 7 0 0 (some .int)) {r : Int32 × PH} (hQ : RQ E V 143 (WG V o r.2) (some (.int r.1)) 0 0) : ∀ (n : Nat) (x1 : Int32) (x2 : Int32) (h : PH), fL_X10_whole__6 F n x1 x2 h = some r → PW E V 0 0 143 (WG V o h) 6 [(0, rf V 102), (1, .int x1), (2, .int x2)] [] := by
  intro n
  induction n with
  | zero => intro x1 x2 h hm; cases hm
  | succ n ih =>
    intro x1 x2 h hm
    rw [fL_X10_whole__6] at hm
    refine q_iload_n hE 2 (dlX10_whole__0.at 4 rfl) rfl rfl ?_
    refine q_bipush hE (dlX10_whole__0.at 5 rfl) bc_61 ?_
    refine q_icmp_ge hE (tgt := 32) (dlX10_whole__0.at 6 rfl) (by decide) hm (fun hc2 hm => ?_) (fun hc2 hm => ?_)
    · refine q_aload_n hE 0 (dlX10_whole__0.at 17 rfl) rfl rfl ?_
      refine q_callV_v (X := fun z => WG V o z) hE (As := []) (dlX10_whole__0.at 18 rfl) mw_X10_putBack wm_X10_324 rfl rfl rfl rfl (Nat.zero_le _) (Nat.zero_le _) rfl kc10 g102 rfl (ok_X10_putBack hfx) hm (fun v3 h3 hm => ?_)
      refine q_iload_n hE 2 (dlX10_whole__0.at 19 rfl) rfl rfl ?_
      refine q_bipush hE (dlX10_whole__0.at 20 rfl) bc_61 ?_
      refine q_icmp_ge hE (tgt := 46) (dlX10_whole__0.at 21 rfl) (by decide) hm (fun hc4 hm => ?_) (fun hc4 hm => ?_)
      · refine q_bipush hE (dlX10_whole__0.at 24 rfl) bc_m5 ?_
        exact q_iret (X := fun z => WG V o z) hE (dlX10_whole__0.at 25 rfl) hm hQ rfl
      · refine q_iload_n hE 2 (dlX10_whole__0.at 22 rfl) rfl rfl ?_
        refine q_goto hE (tgt := 48) (dlX10_whole__0.at 23 rfl) (by decide) ?_
        exact q_iret (X := fun z => WG V o z) hE (dlX10_whole__0.at 25 rfl) hm hQ rfl
    · refine q_aload_n hE 0 (dlX10_whole__0.at 7 rfl) rfl rfl ?_
      refine q_iload_n hE 1 (dlX10_whole__0.at 8 rfl) rfl rfl ?_
      refine q_callV_i (X := fun z => WG V o z) hE (As := [_]) (dlX10_whole__0.at 9 rfl) mw_X10_isUp wm_X10_300 rfl rfl rfl rfl (Nat.zero_le _) (Nat.zero_le _) rfl kc10 g102 rfl (ok_X10_isUp hfx) hm (fun v5 h5 hm => ?_)
      refine q_if_ne hE (tgt := 32) (dlX10_whole__0.at 10 rfl) (by decide) hm (fun hc6 hm => ?_) (fun hc6 hm => ?_)
      · refine q_aload_n hE 0 (dlX10_whole__0.at 11 rfl) rfl rfl ?_
        refine q_iload_n hE 1 (dlX10_whole__0.at 12 rfl) rfl rfl ?_
        refine q_callV_i (X := fun z => WG V o z) hE (As := [_]) (dlX10_whole__0.at 13 rfl) mw_X10_goEvening wm_X10_315 rfl rfl rfl rfl (Nat.zero_le _) (Nat.zero_le _) rfl kc10 g102 rfl (ok_X10_goEvening hfx) hm (fun v9 h9 hm => ?_)
        refine q_pop hE (dlX10_whole__0.at 14 rfl) rfl ?_
        refine q_iinc hE [(0, _), (1, _), (2, _)] 2 (dlX10_whole__0.at 15 rfl) rfl ic_1 rfl rfl ?_
        refine q_goto hE (tgt := 6) (dlX10_whole__0.at 16 rfl) (by decide) ?_
        refine q_sub hE [0, 1, 2] rfl ?_
        exact ih _ _ _  hm
      · refine q_aload_n hE 0 (dlX10_whole__0.at 17 rfl) rfl rfl ?_
        refine q_callV_v (X := fun z => WG V o z) hE (As := []) (dlX10_whole__0.at 18 rfl) mw_X10_putBack wm_X10_324 rfl rfl rfl rfl (Nat.zero_le _) (Nat.zero_le _) rfl kc10 g102 rfl (ok_X10_putBack hfx) hm (fun v7 h7 hm => ?_)
        refine q_iload_n hE 2 (dlX10_whole__0.at 19 rfl) rfl rfl ?_
        refine q_bipush hE (dlX10_whole__0.at 20 rfl) bc_61 ?_
        refine q_icmp_ge hE (tgt := 46) (dlX10_whole__0.at 21 rfl) (by decide) hm (fun hc8 hm => ?_) (fun hc8 hm => ?_)
        · refine q_bipush hE (dlX10_whole__0.at 24 rfl) bc_m5 ?_
          exact q_iret (X := fun z => WG V o z) hE (dlX10_whole__0.at 25 rfl) hm hQ rfl
        · refine q_iload_n hE 2 (dlX10_whole__0.at 22 rfl) rfl rfl ?_
          refine q_goto hE (tgt := 48) (dlX10_whole__0.at 23 rfl) (by decide) ?_
          exact q_iret (X := fun z => WG V o z) hE (dlX10_whole__0.at 25 rfl) hm hQ rfl
set_option maxRecDepth 10000 in
theorem ok_X10_whole_ {V : Ev} {l : Launch} {o : PH} {F : Nat}  (hfx : V.2.2.2.2 = false) {a1 : Int32} {h : PH} : ∀ (v : Int32) (h' : PH), f_X10_whole_ F a1 h = some (v, h') → Ctr l V yX10_whole_ cX10_whole_ 3 (some .int) 7 [rf V 102, .int a1] 143 (WG V o h) 143 (WG V o (h')) (some (.int v)) 0 0 := by
  intro v h' hm
  refine Ctr.intro RX10 (by decide +kernel) rfl rfl rfl ?_
  intro E hE hQ _
  unfold f_X10_whole_ at hm
  refine q_aload_n hE 0 (dlX10_whole__0.at 0 rfl) rfl rfl ?_
  refine q_callV_v (X := fun z => WG V o z) hE (As := []) (dlX10_whole__0.at 1 rfl) mw_X10_save wm_X10_321 rfl rfl rfl rfl (Nat.zero_le _) (Nat.zero_le _) rfl kc10 g102 rfl (ok_X10_save hfx) hm (fun v1 h1 hm => ?_)
  refine q_iconst hE (dlX10_whole__0.at 2 rfl) ic_0 ?_
  refine q_istore_n hE [(0, _), (1, _), (2, _)] (dlX10_whole__0.at 3 rfl) rfl rfl rfl ?_
  refine q_sub hE [0, 1, 2] rfl ?_
  exact okL_X10_whole__6 hfx hE hQ  F _ _ _  hm
set_option maxRecDepth 10000 in
theorem ok_X10_of {V : Ev} {l : Launch} {o : PH} {F : Nat}  (hfx : V.2.2.2.2 = false) {a1 : Int32} {a2 : Int32} {h : PH} : ∀ (v : Int32) (h' : PH), f_X10_of F a1 a2 h = some (v, h') → Ctr l V yX10_of cX10_of 3 (some .int) 8 [rf V 102, .int a1, .int a2] 143 (WG V o h) 143 (WG V o (h')) (some (.int v)) 0 0 := by
  intro v h' hm
  refine Ctr.intro RX10 (by decide +kernel) rfl rfl rfl ?_
  intro E hE hQ _
  unfold f_X10_of at hm
  refine q_aload_n hE 0 (dlX10_of_0.at 0 rfl) rfl rfl ?_
  refine q_iload_n hE 1 (dlX10_of_0.at 1 rfl) rfl rfl ?_
  refine q_callV_i (X := fun z => WG V o z) hE (As := [_]) (dlX10_of_0.at 2 rfl) mw_X10_isClock wm_X10_220 rfl rfl rfl rfl (Nat.zero_le _) (Nat.zero_le _) rfl kc10 g102 rfl (ok_X10_isClock hfx) hm (fun v1 h1 hm => ?_)
  refine q_if_ne hE (tgt := 10) (dlX10_of_0.at 3 rfl) (by decide) hm (fun hc2 hm => ?_) (fun hc2 hm => ?_)
  · refine q_iconst hE (dlX10_of_0.at 4 rfl) ic_m1 ?_
    exact q_iret (X := fun z => WG V o z) hE (dlX10_of_0.at 5 rfl) hm hQ rfl
  · refine q_iload_n hE 2 (dlX10_of_0.at 6 rfl) rfl rfl ?_
    refine q_tcase hE (dlX10_of_0.at 7 rfl) (0 : Int32) 56 (by decide) hm (fun _ hm => ?_) (fun hn3_0 hm => ?_)
    · refine q_aload_n hE 0 (dlX10_of_0.at 8 rfl) rfl rfl ?_
      refine q_get hE (dlX10_of_0.at 9 rfl) kc10 wf_X10_19 g102 rfl rfl rfl ?_
      refine q_iload_n hE 1 (dlX10_of_0.at 10 rfl) rfl rfl ?_
      refine q_iald hE (dlX10_of_0.at 11 rfl) g103 rfl hm (fun hm => ?_)
      exact q_iret (X := fun z => WG V o z) hE (dlX10_of_0.at 12 rfl) hm hQ rfl
    · refine q_tcase hE (dlX10_of_0.at 7 rfl) (1 : Int32) 63 (by decide) hm (fun _ hm => ?_) (fun hn3_1 hm => ?_)
      · refine q_aload_n hE 0 (dlX10_of_0.at 13 rfl) rfl rfl ?_
        refine q_get hE (dlX10_of_0.at 14 rfl) kc10 wf_X10_23 g102 rfl rfl rfl ?_
        refine q_iload_n hE 1 (dlX10_of_0.at 15 rfl) rfl rfl ?_
        refine q_iald hE (dlX10_of_0.at 16 rfl) g104 rfl hm (fun hm => ?_)
        exact q_iret (X := fun z => WG V o z) hE (dlX10_of_0.at 17 rfl) hm hQ rfl
      · refine q_tcase hE (dlX10_of_0.at 7 rfl) (2 : Int32) 70 (by decide) hm (fun _ hm => ?_) (fun hn3_2 hm => ?_)
        · refine q_aload_n hE 0 (dlX10_of_0.at 18 rfl) rfl rfl ?_
          refine q_get hE (dlX10_of_0.at 19 rfl) kc10 wf_X10_26 g102 rfl rfl rfl ?_
          refine q_iload_n hE 1 (dlX10_of_0.at 20 rfl) rfl rfl ?_
          refine q_iald hE (dlX10_of_0.at 21 rfl) g105 rfl hm (fun hm => ?_)
          exact q_iret (X := fun z => WG V o z) hE (dlX10_of_0.at 22 rfl) hm hQ rfl
        · refine q_tcase hE (dlX10_of_0.at 7 rfl) (3 : Int32) 77 (by decide) hm (fun _ hm => ?_) (fun hn3_3 hm => ?_)
          · refine q_aload_n hE 0 (dlX10_of_0.at 23 rfl) rfl rfl ?_
            refine q_aload_n hE 0 (dlX10_of_0.at 24 rfl) rfl rfl ?_
            refine q_get hE (dlX10_of_0.at 25 rfl) kc10 wf_X10_13 g102 rfl rfl rfl ?_
            refine q_iload_n hE 1 (dlX10_of_0.at 26 rfl) rfl rfl ?_
            refine q_callV_i (X := fun z => WG V o z) hE (As := [_, _]) (dlX10_of_0.at 27 rfl) mw_X10_has wm_X10_224 rfl rfl rfl rfl (Nat.zero_le _) (Nat.zero_le _) rfl kc10 g102 rfl (ok_X10_has hfx) hm (fun v4 h4 hm => ?_)
            refine q_if_eq hE (tgt := 93) (dlX10_of_0.at 28 rfl) (by decide) hm (fun hc5 hm => ?_) (fun hc5 hm => ?_)
            · refine q_iconst hE (dlX10_of_0.at 31 rfl) ic_0 ?_
              exact q_iret (X := fun z => WG V o z) hE (dlX10_of_0.at 32 rfl) hm hQ rfl
            · refine q_iconst hE (dlX10_of_0.at 29 rfl) ic_1 ?_
              refine q_goto hE (tgt := 94) (dlX10_of_0.at 30 rfl) (by decide) ?_
              exact q_iret (X := fun z => WG V o z) hE (dlX10_of_0.at 32 rfl) hm hQ rfl
          · refine q_tcase hE (dlX10_of_0.at 7 rfl) (4 : Int32) 95 (by decide) hm (fun _ hm => ?_) (fun hn3_4 hm => ?_)
            · refine q_aload_n hE 0 (dlX10_of_0.at 33 rfl) rfl rfl ?_
              refine q_iload_n hE 1 (dlX10_of_0.at 34 rfl) rfl rfl ?_
              refine q_callV_i (X := fun z => WG V o z) hE (As := [_]) (dlX10_of_0.at 35 rfl) mw_X10_left wm_X10_303 rfl rfl rfl rfl (Nat.zero_le _) (Nat.zero_le _) rfl kc10 g102 rfl (ok_X10_left hfx) hm (fun v6 h6 hm => ?_)
              exact q_iret (X := fun z => WG V o z) hE (dlX10_of_0.at 36 rfl) hm hQ rfl
            · refine q_tcase hE (dlX10_of_0.at 7 rfl) (5 : Int32) 101 (by decide) hm (fun _ hm => ?_) (fun hn3_5 hm => ?_)
              · refine q_aload_n hE 0 (dlX10_of_0.at 37 rfl) rfl rfl ?_
                refine q_iload_n hE 1 (dlX10_of_0.at 38 rfl) rfl rfl ?_
                refine q_callV_i (X := fun z => WG V o z) hE (As := [_]) (dlX10_of_0.at 39 rfl) mw_X10_holdsOf wm_X10_309 rfl rfl rfl rfl (Nat.zero_le _) (Nat.zero_le _) rfl kc10 g102 rfl (ok_X10_holdsOf hfx) hm (fun v7 h7 hm => ?_)
                exact q_iret (X := fun z => WG V o z) hE (dlX10_of_1.at 0 rfl) hm hQ rfl
              · refine q_tcase hE (dlX10_of_0.at 7 rfl) (6 : Int32) 107 (by decide) hm (fun _ hm => ?_) (fun hn3_6 hm => ?_)
                · refine q_aload_n hE 0 (dlX10_of_1.at 1 rfl) rfl rfl ?_
                  refine q_iload_n hE 1 (dlX10_of_1.at 2 rfl) rfl rfl ?_
                  refine q_callV_i (X := fun z => WG V o z) hE (As := [_]) (dlX10_of_1.at 3 rfl) mw_X10_minded wm_X10_327 rfl rfl rfl rfl (Nat.zero_le _) (Nat.zero_le _) rfl kc10 g102 rfl (ok_X10_minded hfx) hm (fun v8 h8 hm => ?_)
                  exact q_iret (X := fun z => WG V o z) hE (dlX10_of_1.at 4 rfl) hm hQ rfl
                · refine q_tcase hE (dlX10_of_0.at 7 rfl) (7 : Int32) 113 (by decide) hm (fun _ hm => ?_) (fun hn3_7 hm => ?_)
                  · refine q_aload_n hE 0 (dlX10_of_1.at 5 rfl) rfl rfl ?_
                    refine q_iload_n hE 1 (dlX10_of_1.at 6 rfl) rfl rfl ?_
                    refine q_callV_i (X := fun z => WG V o z) hE (As := [_]) (dlX10_of_1.at 7 rfl) mw_X10_whole_ wm_X10_330 rfl rfl rfl rfl (Nat.zero_le _) (Nat.zero_le _) rfl kc10 g102 rfl (ok_X10_whole_ hfx) hm (fun v9 h9 hm => ?_)
                    exact q_iret (X := fun z => WG V o z) hE (dlX10_of_1.at 8 rfl) hm hQ rfl
                  · refine q_tdef hE (tgt := 119) (dlX10_of_0.at 7 rfl) (by have := lv_neT (a := 0) hn3_0 (by decide); have := lv_neT (a := 1) hn3_1 (by decide); have := lv_neT (a := 2) hn3_2 (by decide); have := lv_neT (a := 3) hn3_3 (by decide); have := lv_neT (a := 4) hn3_4 (by decide); have := lv_neT (a := 5) hn3_5 (by decide); have := lv_neT (a := 6) hn3_6 (by decide); have := lv_neT (a := 7) hn3_7 (by decide); omega) (by decide) ?_
                    refine q_iconst hE (dlX10_of_1.at 9 rfl) ic_m1 ?_
                    exact q_iret (X := fun z => WG V o z) hE (dlX10_of_1.at 10 rfl) hm hQ rfl
set_option maxRecDepth 10000 in
theorem okL_X10_allLeft_4 {V : Ev} {l : Launch} {o : PH} {F : Nat}  (hfx : V.2.2.2.2 = false) {E : Cx} (hE : CX E V l cX10_allLeft RX10 3 6 0 0 (some .int)) {r : Int32 × PH} (hQ : RQ E V 143 (WG V o r.2) (some (.int r.1)) 0 0) : ∀ (n : Nat) (x1 : Int32) (x2 : Int32) (h : PH), fL_X10_allLeft_4 F n x1 x2 h = some r → PW E V 0 0 143 (WG V o h) 4 [(0, rf V 102), (1, .int x1), (2, .int x2)] [] := by
  intro n
  induction n with
  | zero => intro x1 x2 h hm; cases hm
  | succ n ih =>
    intro x1 x2 h hm
    rw [fL_X10_allLeft_4] at hm
    refine q_iload_n hE 2 (dlX10_allLeft_0.at 4 rfl) rfl rfl ?_
    refine q_aload_n hE 0 (dlX10_allLeft_0.at 5 rfl) rfl rfl ?_
    refine q_get hE (dlX10_allLeft_0.at 6 rfl) kc10 wf_X10_7 g102 rfl rfl rfl ?_
    refine q_icmp_ge hE (tgt := 26) (dlX10_allLeft_0.at 7 rfl) (by decide) hm (fun hc1 hm => ?_) (fun hc1 hm => ?_)
    · refine q_iload_n hE 1 (dlX10_allLeft_0.at 16 rfl) rfl rfl ?_
      exact q_iret (X := fun z => WG V o z) hE (dlX10_allLeft_0.at 17 rfl) hm hQ rfl
    · refine q_iload_n hE 1 (dlX10_allLeft_0.at 8 rfl) rfl rfl ?_
      refine q_aload_n hE 0 (dlX10_allLeft_0.at 9 rfl) rfl rfl ?_
      refine q_iload_n hE 2 (dlX10_allLeft_0.at 10 rfl) rfl rfl ?_
      refine q_callV_i (X := fun z => WG V o z) hE (As := [_]) (dlX10_allLeft_0.at 11 rfl) mw_X10_left wm_X10_303 rfl rfl rfl rfl (Nat.zero_le _) (Nat.zero_le _) rfl kc10 g102 rfl (ok_X10_left hfx) hm (fun v2 h2 hm => ?_)
      refine q_iadd hE (dlX10_allLeft_0.at 12 rfl) ?_
      refine q_istore_n hE [(0, _), (1, _), (2, _)] (dlX10_allLeft_0.at 13 rfl) rfl rfl rfl ?_
      refine q_iinc hE [(0, _), (1, _), (2, _)] 2 (dlX10_allLeft_0.at 14 rfl) rfl ic_1 rfl rfl ?_
      refine q_goto hE (tgt := 4) (dlX10_allLeft_0.at 15 rfl) (by decide) ?_
      refine q_sub hE [0, 1, 2] rfl ?_
      exact ih _ _ _  hm
set_option maxRecDepth 10000 in
theorem ok_X10_allLeft {V : Ev} {l : Launch} {o : PH} {F : Nat}  (hfx : V.2.2.2.2 = false)  {h : PH} : ∀ (v : Int32) (h' : PH), f_X10_allLeft F  h = some (v, h') → Ctr l V yX10_allLeft cX10_allLeft 3 (some .int) 6 [rf V 102] 143 (WG V o h) 143 (WG V o (h')) (some (.int v)) 0 0 := by
  intro v h' hm
  refine Ctr.intro RX10 (by decide +kernel) rfl rfl rfl ?_
  intro E hE hQ _
  unfold f_X10_allLeft at hm
  refine q_iconst hE (dlX10_allLeft_0.at 0 rfl) ic_0 ?_
  refine q_istore_n hE [(0, _), (1, _)] (dlX10_allLeft_0.at 1 rfl) rfl rfl rfl ?_
  refine q_iconst hE (dlX10_allLeft_0.at 2 rfl) ic_0 ?_
  refine q_istore_n hE [(0, _), (1, _), (2, _)] (dlX10_allLeft_0.at 3 rfl) rfl rfl rfl ?_
  refine q_sub hE [0, 1, 2] rfl ?_
  exact okL_X10_allLeft_4 hfx hE hQ  F _ _ _  hm
set_option maxRecDepth 10000 in
theorem okL_X10_upMany_4 {V : Ev} {l : Launch} {o : PH} {F : Nat}  (hfx : V.2.2.2.2 = false) {E : Cx} (hE : CX E V l cX10_upMany RX10 3 2 0 0 (some .int)) {r : Int32 × PH} (hQ : RQ E V 143 (WG V o r.2) (some (.int r.1)) 0 0) : ∀ (n : Nat) (x1 : Int32) (x2 : Int32) (h : PH), fL_X10_upMany_4 F n x1 x2 h = some r → PW E V 0 0 143 (WG V o h) 4 [(0, rf V 102), (1, .int x1), (2, .int x2)] [] := by
  intro n
  induction n with
  | zero => intro x1 x2 h hm; cases hm
  | succ n ih =>
    intro x1 x2 h hm
    rw [fL_X10_upMany_4] at hm
    refine q_iload_n hE 2 (dlX10_upMany_0.at 4 rfl) rfl rfl ?_
    refine q_aload_n hE 0 (dlX10_upMany_0.at 5 rfl) rfl rfl ?_
    refine q_get hE (dlX10_upMany_0.at 6 rfl) kc10 wf_X10_7 g102 rfl rfl rfl ?_
    refine q_icmp_ge hE (tgt := 34) (dlX10_upMany_0.at 7 rfl) (by decide) hm (fun hc1 hm => ?_) (fun hc1 hm => ?_)
    · refine q_iload_n hE 1 (dlX10_upMany_0.at 20 rfl) rfl rfl ?_
      exact q_iret (X := fun z => WG V o z) hE (dlX10_upMany_0.at 21 rfl) hm hQ rfl
    · refine q_iload_n hE 1 (dlX10_upMany_0.at 8 rfl) rfl rfl ?_
      refine q_aload_n hE 0 (dlX10_upMany_0.at 9 rfl) rfl rfl ?_
      refine q_iload_n hE 2 (dlX10_upMany_0.at 10 rfl) rfl rfl ?_
      refine q_callV_i (X := fun z => WG V o z) hE (As := [_]) (dlX10_upMany_0.at 11 rfl) mw_X10_isUp wm_X10_300 rfl rfl rfl rfl (Nat.zero_le _) (Nat.zero_le _) rfl kc10 g102 rfl (ok_X10_isUp hfx) hm (fun v2 h2 hm => ?_)
      refine q_if_eq hE (tgt := 25) (dlX10_upMany_0.at 12 rfl) (by decide) hm (fun hc3 hm => ?_) (fun hc3 hm => ?_)
      · refine q_iconst hE (dlX10_upMany_0.at 15 rfl) ic_0 ?_
        refine q_iadd hE (dlX10_upMany_0.at 16 rfl) ?_
        refine q_istore_n hE [(0, _), (1, _), (2, _)] (dlX10_upMany_0.at 17 rfl) rfl rfl rfl ?_
        refine q_iinc hE [(0, _), (1, _), (2, _)] 2 (dlX10_upMany_0.at 18 rfl) rfl ic_1 rfl rfl ?_
        refine q_goto hE (tgt := 4) (dlX10_upMany_0.at 19 rfl) (by decide) ?_
        refine q_sub hE [0, 1, 2] rfl ?_
        exact ih _ _ _  hm
      · refine q_iconst hE (dlX10_upMany_0.at 13 rfl) ic_1 ?_
        refine q_goto hE (tgt := 26) (dlX10_upMany_0.at 14 rfl) (by decide) ?_
        refine q_iadd hE (dlX10_upMany_0.at 16 rfl) ?_
        refine q_istore_n hE [(0, _), (1, _), (2, _)] (dlX10_upMany_0.at 17 rfl) rfl rfl rfl ?_
        refine q_iinc hE [(0, _), (1, _), (2, _)] 2 (dlX10_upMany_0.at 18 rfl) rfl ic_1 rfl rfl ?_
        refine q_goto hE (tgt := 4) (dlX10_upMany_0.at 19 rfl) (by decide) ?_
        refine q_sub hE [0, 1, 2] rfl ?_
        exact ih _ _ _  hm
set_option maxRecDepth 10000 in
theorem ok_X10_upMany {V : Ev} {l : Launch} {o : PH} {F : Nat}  (hfx : V.2.2.2.2 = false)  {h : PH} : ∀ (v : Int32) (h' : PH), f_X10_upMany F  h = some (v, h') → Ctr l V yX10_upMany cX10_upMany 3 (some .int) 2 [rf V 102] 143 (WG V o h) 143 (WG V o (h')) (some (.int v)) 0 0 := by
  intro v h' hm
  refine Ctr.intro RX10 (by decide +kernel) rfl rfl rfl ?_
  intro E hE hQ _
  unfold f_X10_upMany at hm
  refine q_iconst hE (dlX10_upMany_0.at 0 rfl) ic_0 ?_
  refine q_istore_n hE [(0, _), (1, _)] (dlX10_upMany_0.at 1 rfl) rfl rfl rfl ?_
  refine q_iconst hE (dlX10_upMany_0.at 2 rfl) ic_0 ?_
  refine q_istore_n hE [(0, _), (1, _), (2, _)] (dlX10_upMany_0.at 3 rfl) rfl rfl rfl ?_
  refine q_sub hE [0, 1, 2] rfl ?_
  exact okL_X10_upMany_4 hfx hE hQ  F _ _ _  hm
set_option maxRecDepth 10000 in
theorem ok_X10_told {V : Ev} {l : Launch} {o : PH} {F : Nat}  (hfx : V.2.2.2.2 = false) {a1 : Int32} {h : PH} : ∀ (v : Int32) (h' : PH), f_X10_told F a1 h = some (v, h') → Ctr l V yX10_told cX10_told 2 (some .int) 7 [rf V 102, .int a1] 143 (WG V o h) 143 (WG V o (h')) (some (.int v)) 0 0 := by
  intro v h' hm
  refine Ctr.intro RX10 (by decide +kernel) rfl rfl rfl ?_
  intro E hE hQ _
  unfold f_X10_told at hm
  refine q_iload_n hE 1 (dlX10_told_0.at 0 rfl) rfl rfl ?_
  refine q_tcase hE (dlX10_told_0.at 1 rfl) (0 : Int32) 32 (by decide) hm (fun _ hm => ?_) (fun hn1_0 hm => ?_)
  · refine q_aload_n hE 0 (dlX10_told_0.at 2 rfl) rfl rfl ?_
    refine q_get hE (dlX10_told_0.at 3 rfl) kc10 wf_X10_16 g102 rfl rfl rfl ?_
    exact q_iret (X := fun z => WG V o z) hE (dlX10_told_0.at 4 rfl) hm hQ rfl
  · refine q_tcase hE (dlX10_told_0.at 1 rfl) (1 : Int32) 37 (by decide) hm (fun _ hm => ?_) (fun hn1_1 hm => ?_)
    · refine q_aload_n hE 0 (dlX10_told_0.at 5 rfl) rfl rfl ?_
      refine q_callV_i (X := fun z => WG V o z) hE (As := []) (dlX10_told_0.at 6 rfl) mw_X10_pace wm_X10_297 rfl rfl rfl rfl (Nat.zero_le _) (Nat.zero_le _) rfl kc10 g102 rfl (ok_X10_pace hfx) hm (fun v2 h2 hm => ?_)
      exact q_iret (X := fun z => WG V o z) hE (dlX10_told_0.at 7 rfl) hm hQ rfl
    · refine q_tcase hE (dlX10_told_0.at 1 rfl) (2 : Int32) 42 (by decide) hm (fun _ hm => ?_) (fun hn1_2 hm => ?_)
      · refine q_aload_n hE 0 (dlX10_told_0.at 8 rfl) rfl rfl ?_
        refine q_callV_i (X := fun z => WG V o z) hE (As := []) (dlX10_told_0.at 9 rfl) mw_X10_upMany wm_X10_332 rfl rfl rfl rfl (Nat.zero_le _) (Nat.zero_le _) rfl kc10 g102 rfl (ok_X10_upMany hfx) hm (fun v3 h3 hm => ?_)
        exact q_iret (X := fun z => WG V o z) hE (dlX10_told_0.at 10 rfl) hm hQ rfl
      · refine q_tcase hE (dlX10_told_0.at 1 rfl) (3 : Int32) 47 (by decide) hm (fun _ hm => ?_) (fun hn1_3 hm => ?_)
        · refine q_aload_n hE 0 (dlX10_told_0.at 11 rfl) rfl rfl ?_
          refine q_callV_i (X := fun z => WG V o z) hE (As := []) (dlX10_told_0.at 12 rfl) mw_X10_allLeft wm_X10_335 rfl rfl rfl rfl (Nat.zero_le _) (Nat.zero_le _) rfl kc10 g102 rfl (ok_X10_allLeft hfx) hm (fun v4 h4 hm => ?_)
          exact q_iret (X := fun z => WG V o z) hE (dlX10_told_0.at 13 rfl) hm hQ rfl
        · refine q_tdef hE (tgt := 52) (dlX10_told_0.at 1 rfl) (by have := lv_neT (a := 0) hn1_0 (by decide); have := lv_neT (a := 1) hn1_1 (by decide); have := lv_neT (a := 2) hn1_2 (by decide); have := lv_neT (a := 3) hn1_3 (by decide); omega) (by decide) ?_
          refine q_iconst hE (dlX10_told_0.at 14 rfl) ic_m1 ?_
          exact q_iret (X := fun z => WG V o z) hE (dlX10_told_0.at 15 rfl) hm hQ rfl
set_option maxRecDepth 10000 in
theorem okL_X10_goEvenings_2 {V : Ev} {l : Launch} {o : PH} {F : Nat}  (hfx : V.2.2.2.2 = false) {E : Cx} (hE : CX E V l cX10_goEvenings RX10 4 7 0 0 none) {r : Unit × PH} (hQ : RQ E V 143 (WG V o r.2) (none) 0 0) : ∀ (n : Nat) (x1 : Int32) (x2 : Int32) (x3 : Int32) (h : PH), fL_X10_goEvenings_2 F n x1 x2 x3 h = some r → PW E V 0 0 143 (WG V o h) 2 [(0, rf V 102), (1, .int x1), (2, .int x2), (3, .int x3)] [] := by
  intro n
  induction n with
  | zero => intro x1 x2 x3 h hm; cases hm
  | succ n ih =>
    intro x1 x2 x3 h hm
    rw [fL_X10_goEvenings_2] at hm
    refine q_iload_n hE 3 (dlX10_goEvenings_0.at 2 rfl) rfl rfl ?_
    refine q_iload_n hE 2 (dlX10_goEvenings_0.at 3 rfl) rfl rfl ?_
    refine q_icmp_ge hE (tgt := 19) (dlX10_goEvenings_0.at 4 rfl) (by decide) hm (fun hc1 hm => ?_) (fun hc1 hm => ?_)
    · exact q_vret (X := fun z => WG V o z) hE (dlX10_goEvenings_0.at 11 rfl) hm hQ rfl
    · refine q_aload_n hE 0 (dlX10_goEvenings_0.at 5 rfl) rfl rfl ?_
      refine q_iload_n hE 1 (dlX10_goEvenings_0.at 6 rfl) rfl rfl ?_
      refine q_callV_i (X := fun z => WG V o z) hE (As := [_]) (dlX10_goEvenings_0.at 7 rfl) mw_X10_goEvening wm_X10_315 rfl rfl rfl rfl (Nat.zero_le _) (Nat.zero_le _) rfl kc10 g102 rfl (ok_X10_goEvening hfx) hm (fun v2 h2 hm => ?_)
      refine q_pop hE (dlX10_goEvenings_0.at 8 rfl) rfl ?_
      refine q_iinc hE [(0, _), (1, _), (2, _), (3, _)] 3 (dlX10_goEvenings_0.at 9 rfl) rfl ic_1 rfl rfl ?_
      refine q_goto hE (tgt := 2) (dlX10_goEvenings_0.at 10 rfl) (by decide) ?_
      refine q_sub hE [0, 1, 2, 3] rfl ?_
      exact ih _ _ _ _  hm
set_option maxRecDepth 10000 in
theorem ok_X10_goEvenings {V : Ev} {l : Launch} {o : PH} {F : Nat}  (hfx : V.2.2.2.2 = false) {a1 : Int32} {a2 : Int32} {h : PH} : ∀ (v : Unit) (h' : PH), f_X10_goEvenings F a1 a2 h = some (v, h') → Ctr l V yX10_goEvenings cX10_goEvenings 4 none 7 [rf V 102, .int a1, .int a2] 143 (WG V o h) 143 (WG V o (h')) (none) 0 0 := by
  intro v h' hm
  refine Ctr.intro RX10 (by decide +kernel) rfl rfl rfl ?_
  intro E hE hQ _
  unfold f_X10_goEvenings at hm
  refine q_iconst hE (dlX10_goEvenings_0.at 0 rfl) ic_0 ?_
  refine q_istore_n hE [(0, _), (1, _), (2, _), (3, _)] (dlX10_goEvenings_0.at 1 rfl) rfl rfl rfl ?_
  refine q_sub hE [0, 1, 2, 3] rfl ?_
  exact okL_X10_goEvenings_2 hfx hE hQ  F _ _ _ _  hm
set_option maxRecDepth 10000 in
theorem ok_X10_on {V : Ev} {l : Launch} {o : PH} {F : Nat}  (hfx : V.2.2.2.2 = false) {a1 : Int32} {a2 : Int32} {a3 : Int32} {h : PH} : ∀ (v : Int32) (h' : PH), f_X10_on F a1 a2 a3 h = some (v, h') → Ctr l V yX10_on cX10_on 5 (some .int) 8 [rf V 102, .int a1, .int a2, .int a3] 143 (WG V o h) 143 (WG V o (h')) (some (.int v)) 0 0 := by
  intro v h' hm
  refine Ctr.intro RX10 (by decide +kernel) rfl rfl rfl ?_
  intro E hE hQ _
  unfold f_X10_on at hm
  refine q_aload_n hE 0 (dlX10_on_0.at 0 rfl) rfl rfl ?_
  refine q_iload_n hE 1 (dlX10_on_0.at 1 rfl) rfl rfl ?_
  refine q_callV_i (X := fun z => WG V o z) hE (As := [_]) (dlX10_on_0.at 2 rfl) mw_X10_isClock wm_X10_220 rfl rfl rfl rfl (Nat.zero_le _) (Nat.zero_le _) rfl kc10 g102 rfl (ok_X10_isClock hfx) hm (fun v1 h1 hm => ?_)
  refine q_if_eq hE (tgt := 18) (dlX10_on_0.at 3 rfl) (by decide) hm (fun hc2 hm => ?_) (fun hc2 hm => ?_)
  · refine q_iconst hE (dlX10_on_0.at 10 rfl) ic_m1 ?_
    exact q_iret (X := fun z => WG V o z) hE (dlX10_on_0.at 11 rfl) hm hQ rfl
  · refine q_aload_n hE 0 (dlX10_on_0.at 4 rfl) rfl rfl ?_
    refine q_iload_n hE 3 (dlX10_on_0.at 5 rfl) rfl rfl ?_
    refine q_iconst hE (dlX10_on_0.at 6 rfl) ic_0 ?_
    refine q_iconst hE (dlX10_on_0.at 7 rfl) ic_2 ?_
    refine q_callV_i (X := fun z => WG V o z) hE (As := [_, _, _]) (dlX10_on_0.at 8 rfl) mw_X10_in wm_X10_212 rfl rfl rfl rfl (Nat.zero_le _) (Nat.zero_le _) rfl kc10 g102 rfl (ok_X10_in hfx) hm (fun v3 h3 hm => ?_)
    refine q_if_ne hE (tgt := 20) (dlX10_on_0.at 9 rfl) (by decide) hm (fun hc4 hm => ?_) (fun hc4 hm => ?_)
    · refine q_iconst hE (dlX10_on_0.at 10 rfl) ic_m1 ?_
      exact q_iret (X := fun z => WG V o z) hE (dlX10_on_0.at 11 rfl) hm hQ rfl
    · refine q_aload_n hE 0 (dlX10_on_0.at 12 rfl) rfl rfl ?_
      refine q_iload_n hE 2 (dlX10_on_0.at 13 rfl) rfl rfl ?_
      refine q_callV_i (X := fun z => WG V o z) hE (As := [_]) (dlX10_on_0.at 14 rfl) mw_X10_isEvenings wm_X10_318 rfl rfl rfl rfl (Nat.zero_le _) (Nat.zero_le _) rfl kc10 g102 rfl (ok_X10_isEvenings hfx) hm (fun v5 h5 hm => ?_)
      refine q_if_ne hE (tgt := 31) (dlX10_on_0.at 15 rfl) (by decide) hm (fun hc6 hm => ?_) (fun hc6 hm => ?_)
      · refine q_bipush hE (dlX10_on_0.at 16 rfl) bc_m2 ?_
        exact q_iret (X := fun z => WG V o z) hE (dlX10_on_0.at 17 rfl) hm hQ rfl
      · refine q_aload_n hE 0 (dlX10_on_0.at 18 rfl) rfl rfl ?_
        refine q_callV_v (X := fun z => WG V o z) hE (As := []) (dlX10_on_0.at 19 rfl) mw_X10_save wm_X10_321 rfl rfl rfl rfl (Nat.zero_le _) (Nat.zero_le _) rfl kc10 g102 rfl (ok_X10_save hfx) hm (fun v7 h7 hm => ?_)
        refine q_aload_n hE 0 (dlX10_on_0.at 20 rfl) rfl rfl ?_
        refine q_iload_n hE 1 (dlX10_on_0.at 21 rfl) rfl rfl ?_
        refine q_iload_n hE 2 (dlX10_on_0.at 22 rfl) rfl rfl ?_
        refine q_callV_v (X := fun z => WG V o z) hE (As := [_, _]) (dlX10_on_0.at 23 rfl) mw_X10_goEvenings wm_X10_338 rfl rfl rfl rfl (Nat.zero_le _) (Nat.zero_le _) rfl kc10 g102 rfl (ok_X10_goEvenings hfx) hm (fun v8 h8 hm => ?_)
        refine q_iload_n hE 3 (dlX10_on_0.at 24 rfl) rfl rfl ?_
        refine q_if_ne hE (tgt := 54) (dlX10_on_0.at 25 rfl) (by decide) hm (fun hc9 hm => ?_) (fun hc9 hm => ?_)
        · refine q_aload_n hE 0 (dlX10_on_0.at 26 rfl) rfl rfl ?_
          refine q_get hE (dlX10_on_0.at 27 rfl) kc10 wf_X10_26 g102 rfl rfl rfl ?_
          refine q_iload_n hE 1 (dlX10_on_0.at 28 rfl) rfl rfl ?_
          refine q_iald hE (dlX10_on_0.at 29 rfl) g105 rfl hm (fun hm => ?_)
          refine q_goto hE (tgt := 84) (dlX10_on_0.at 30 rfl) (by decide) ?_
          refine q_istore hE [(0, _), (1, _), (2, _), (3, _), (4, _)] (dlX10_on_1.at 7 rfl) rfl rfl ?_
          refine q_aload_n hE 0 (dlX10_on_1.at 8 rfl) rfl rfl ?_
          refine q_callV_v (X := fun z => WG V o z) hE (As := []) (dlX10_on_1.at 9 rfl) mw_X10_putBack wm_X10_324 rfl rfl rfl rfl (Nat.zero_le _) (Nat.zero_le _) rfl kc10 g102 rfl (ok_X10_putBack hfx) hm (fun v17 h17 hm => ?_)
          refine q_iload hE 4 (dlX10_on_1.at 10 rfl) rfl ?_
          exact q_iret (X := fun z => WG V o z) hE (dlX10_on_1.at 11 rfl) hm hQ rfl
        · refine q_iload_n hE 3 (dlX10_on_0.at 31 rfl) rfl rfl ?_
          refine q_iconst hE (dlX10_on_0.at 32 rfl) ic_1 ?_
          refine q_icmp_ne hE (tgt := 79) (dlX10_on_0.at 33 rfl) (by decide) hm (fun hc10 hm => ?_) (fun hc10 hm => ?_)
          · refine q_aload_n hE 0 (dlX10_on_0.at 34 rfl) rfl rfl ?_
            refine q_aload_n hE 0 (dlX10_on_0.at 35 rfl) rfl rfl ?_
            refine q_get hE (dlX10_on_0.at 36 rfl) kc10 wf_X10_13 g102 rfl rfl rfl ?_
            refine q_iload_n hE 1 (dlX10_on_0.at 37 rfl) rfl rfl ?_
            refine q_callV_i (X := fun z => WG V o z) hE (As := [_, _]) (dlX10_on_0.at 38 rfl) mw_X10_has wm_X10_224 rfl rfl rfl rfl (Nat.zero_le _) (Nat.zero_le _) rfl kc10 g102 rfl (ok_X10_has hfx) hm (fun v13 h13 hm => ?_)
            refine q_if_eq hE (tgt := 75) (dlX10_on_0.at 39 rfl) (by decide) hm (fun hc14 hm => ?_) (fun hc14 hm => ?_)
            · refine q_iconst hE (dlX10_on_1.at 2 rfl) ic_0 ?_
              refine q_goto hE (tgt := 84) (dlX10_on_1.at 3 rfl) (by decide) ?_
              refine q_istore hE [(0, _), (1, _), (2, _), (3, _), (4, _)] (dlX10_on_1.at 7 rfl) rfl rfl ?_
              refine q_aload_n hE 0 (dlX10_on_1.at 8 rfl) rfl rfl ?_
              refine q_callV_v (X := fun z => WG V o z) hE (As := []) (dlX10_on_1.at 9 rfl) mw_X10_putBack wm_X10_324 rfl rfl rfl rfl (Nat.zero_le _) (Nat.zero_le _) rfl kc10 g102 rfl (ok_X10_putBack hfx) hm (fun v15 h15 hm => ?_)
              refine q_iload hE 4 (dlX10_on_1.at 10 rfl) rfl ?_
              exact q_iret (X := fun z => WG V o z) hE (dlX10_on_1.at 11 rfl) hm hQ rfl
            · refine q_iconst hE (dlX10_on_1.at 0 rfl) ic_1 ?_
              refine q_goto hE (tgt := 84) (dlX10_on_1.at 1 rfl) (by decide) ?_
              refine q_istore hE [(0, _), (1, _), (2, _), (3, _), (4, _)] (dlX10_on_1.at 7 rfl) rfl rfl ?_
              refine q_aload_n hE 0 (dlX10_on_1.at 8 rfl) rfl rfl ?_
              refine q_callV_v (X := fun z => WG V o z) hE (As := []) (dlX10_on_1.at 9 rfl) mw_X10_putBack wm_X10_324 rfl rfl rfl rfl (Nat.zero_le _) (Nat.zero_le _) rfl kc10 g102 rfl (ok_X10_putBack hfx) hm (fun v16 h16 hm => ?_)
              refine q_iload hE 4 (dlX10_on_1.at 10 rfl) rfl ?_
              exact q_iret (X := fun z => WG V o z) hE (dlX10_on_1.at 11 rfl) hm hQ rfl
          · refine q_aload_n hE 0 (dlX10_on_1.at 4 rfl) rfl rfl ?_
            refine q_iload_n hE 1 (dlX10_on_1.at 5 rfl) rfl rfl ?_
            refine q_callV_i (X := fun z => WG V o z) hE (As := [_]) (dlX10_on_1.at 6 rfl) mw_X10_left wm_X10_303 rfl rfl rfl rfl (Nat.zero_le _) (Nat.zero_le _) rfl kc10 g102 rfl (ok_X10_left hfx) hm (fun v11 h11 hm => ?_)
            refine q_istore hE [(0, _), (1, _), (2, _), (3, _), (4, _)] (dlX10_on_1.at 7 rfl) rfl rfl ?_
            refine q_aload_n hE 0 (dlX10_on_1.at 8 rfl) rfl rfl ?_
            refine q_callV_v (X := fun z => WG V o z) hE (As := []) (dlX10_on_1.at 9 rfl) mw_X10_putBack wm_X10_324 rfl rfl rfl rfl (Nat.zero_le _) (Nat.zero_le _) rfl kc10 g102 rfl (ok_X10_putBack hfx) hm (fun v12 h12 hm => ?_)
            refine q_iload hE 4 (dlX10_on_1.at 10 rfl) rfl ?_
            exact q_iret (X := fun z => WG V o z) hE (dlX10_on_1.at 11 rfl) hm hQ rfl
set_option maxRecDepth 10000 in
theorem okL_X10_goWhole_2 {V : Ev} {l : Launch} {o : PH} {F : Nat}  (hfx : V.2.2.2.2 = false) {E : Cx} (hE : CX E V l cX10_goWhole RX10 3 7 0 0 (some .int)) {r : Int32 × PH} (hQ : RQ E V 143 (WG V o r.2) (some (.int r.1)) 0 0) : ∀ (n : Nat) (x1 : Int32) (x2 : Int32) (h : PH), fL_X10_goWhole_2 F n x1 x2 h = some r → PW E V 0 0 143 (WG V o h) 2 [(0, rf V 102), (1, .int x1), (2, .int x2)] [] := by
  intro n
  induction n with
  | zero => intro x1 x2 h hm; cases hm
  | succ n ih =>
    intro x1 x2 h hm
    rw [fL_X10_goWhole_2] at hm
    refine q_iload_n hE 2 (dlX10_goWhole_0.at 2 rfl) rfl rfl ?_
    refine q_bipush hE (dlX10_goWhole_0.at 3 rfl) bc_20 ?_
    refine q_icmp_ge hE (tgt := 40) (dlX10_goWhole_0.at 4 rfl) (by decide) hm (fun hc1 hm => ?_) (fun hc1 hm => ?_)
    · refine q_iload_n hE 2 (dlX10_goWhole_0.at 21 rfl) rfl rfl ?_
      exact q_iret (X := fun z => WG V o z) hE (dlX10_goWhole_0.at 22 rfl) hm hQ rfl
    · refine q_aload_n hE 0 (dlX10_goWhole_0.at 5 rfl) rfl rfl ?_
      refine q_iload_n hE 1 (dlX10_goWhole_0.at 6 rfl) rfl rfl ?_
      refine q_callV_i (X := fun z => WG V o z) hE (As := [_]) (dlX10_goWhole_0.at 7 rfl) mw_X10_isUp wm_X10_300 rfl rfl rfl rfl (Nat.zero_le _) (Nat.zero_le _) rfl kc10 g102 rfl (ok_X10_isUp hfx) hm (fun v2 h2 hm => ?_)
      refine q_if_ne hE (tgt := 40) (dlX10_goWhole_0.at 8 rfl) (by decide) hm (fun hc3 hm => ?_) (fun hc3 hm => ?_)
      · refine q_aload_n hE 0 (dlX10_goWhole_0.at 9 rfl) rfl rfl ?_
        refine q_aload_n hE 0 (dlX10_goWhole_0.at 10 rfl) rfl rfl ?_
        refine q_get hE (dlX10_goWhole_0.at 11 rfl) kc10 wf_X10_13 g102 rfl rfl rfl ?_
        refine q_iload_n hE 1 (dlX10_goWhole_0.at 12 rfl) rfl rfl ?_
        refine q_callV_i (X := fun z => WG V o z) hE (As := [_, _]) (dlX10_goWhole_0.at 13 rfl) mw_X10_has wm_X10_224 rfl rfl rfl rfl (Nat.zero_le _) (Nat.zero_le _) rfl kc10 g102 rfl (ok_X10_has hfx) hm (fun v4 h4 hm => ?_)
        refine q_if_ne hE (tgt := 40) (dlX10_goWhole_0.at 14 rfl) (by decide) hm (fun hc5 hm => ?_) (fun hc5 hm => ?_)
        · refine q_aload_n hE 0 (dlX10_goWhole_0.at 15 rfl) rfl rfl ?_
          refine q_iload_n hE 1 (dlX10_goWhole_0.at 16 rfl) rfl rfl ?_
          refine q_callV_i (X := fun z => WG V o z) hE (As := [_]) (dlX10_goWhole_0.at 17 rfl) mw_X10_goEvening wm_X10_315 rfl rfl rfl rfl (Nat.zero_le _) (Nat.zero_le _) rfl kc10 g102 rfl (ok_X10_goEvening hfx) hm (fun v6 h6 hm => ?_)
          refine q_pop hE (dlX10_goWhole_0.at 18 rfl) rfl ?_
          refine q_iinc hE [(0, _), (1, _), (2, _)] 2 (dlX10_goWhole_0.at 19 rfl) rfl ic_1 rfl rfl ?_
          refine q_goto hE (tgt := 2) (dlX10_goWhole_0.at 20 rfl) (by decide) ?_
          refine q_sub hE [0, 1, 2] rfl ?_
          exact ih _ _ _  hm
        · refine q_iload_n hE 2 (dlX10_goWhole_0.at 21 rfl) rfl rfl ?_
          exact q_iret (X := fun z => WG V o z) hE (dlX10_goWhole_0.at 22 rfl) hm hQ rfl
      · refine q_iload_n hE 2 (dlX10_goWhole_0.at 21 rfl) rfl rfl ?_
        exact q_iret (X := fun z => WG V o z) hE (dlX10_goWhole_0.at 22 rfl) hm hQ rfl
set_option maxRecDepth 10000 in
theorem ok_X10_goWhole {V : Ev} {l : Launch} {o : PH} {F : Nat}  (hfx : V.2.2.2.2 = false) {a1 : Int32} {h : PH} : ∀ (v : Int32) (h' : PH), f_X10_goWhole F a1 h = some (v, h') → Ctr l V yX10_goWhole cX10_goWhole 3 (some .int) 7 [rf V 102, .int a1] 143 (WG V o h) 143 (WG V o (h')) (some (.int v)) 0 0 := by
  intro v h' hm
  refine Ctr.intro RX10 (by decide +kernel) rfl rfl rfl ?_
  intro E hE hQ _
  unfold f_X10_goWhole at hm
  refine q_iconst hE (dlX10_goWhole_0.at 0 rfl) ic_0 ?_
  refine q_istore_n hE [(0, _), (1, _), (2, _)] (dlX10_goWhole_0.at 1 rfl) rfl rfl rfl ?_
  refine q_sub hE [0, 1, 2] rfl ?_
  exact okL_X10_goWhole_2 hfx hE hQ  F _ _ _  hm
set_option maxRecDepth 10000 in
theorem okL_X10_goTurn_8 {V : Ev} {l : Launch} {o : PH} {F : Nat}  (hfx : V.2.2.2.2 = false) {E : Cx} (hE : CX E V l cX10_goTurn RX10 3 8 0 0 (some .int)) {r : Int32 × PH} (hQ : RQ E V 143 (WG V o r.2) (some (.int r.1)) 0 0) : ∀ (n : Nat) (x1 : Int32) (x2 : Int32) (h : PH), fL_X10_goTurn_8 F n x1 x2 h = some r → PW E V 0 0 143 (WG V o h) 8 [(0, rf V 102), (1, .int x1), (2, .int x2)] [] := by
  intro n
  induction n with
  | zero => intro x1 x2 h hm; cases hm
  | succ n ih =>
    intro x1 x2 h hm
    rw [fL_X10_goTurn_8] at hm
    refine q_iload_n hE 2 (dlX10_goTurn_0.at 6 rfl) rfl rfl ?_
    refine q_aload_n hE 0 (dlX10_goTurn_0.at 7 rfl) rfl rfl ?_
    refine q_get hE (dlX10_goTurn_0.at 8 rfl) kc10 wf_X10_7 g102 rfl rfl rfl ?_
    refine q_icmp_ge hE (tgt := 35) (dlX10_goTurn_0.at 9 rfl) (by decide) hm (fun hc2 hm => ?_) (fun hc2 hm => ?_)
    · refine q_aload_n hE 0 (dlX10_goTurn_0.at 21 rfl) rfl rfl ?_
      refine q_callV_v (X := fun z => WG V o z) hE (As := []) (dlX10_goTurn_0.at 22 rfl) mw_X10_putBack wm_X10_324 rfl rfl rfl rfl (Nat.zero_le _) (Nat.zero_le _) rfl kc10 g102 rfl (ok_X10_putBack hfx) hm (fun v3 h3 hm => ?_)
      refine q_iload_n hE 1 (dlX10_goTurn_0.at 23 rfl) rfl rfl ?_
      exact q_iret (X := fun z => WG V o z) hE (dlX10_goTurn_0.at 24 rfl) hm hQ rfl
    · refine q_iload_n hE 1 (dlX10_goTurn_0.at 10 rfl) rfl rfl ?_
      refine q_aload_n hE 0 (dlX10_goTurn_0.at 11 rfl) rfl rfl ?_
      refine q_aload_n hE 0 (dlX10_goTurn_0.at 12 rfl) rfl rfl ?_
      refine q_get hE (dlX10_goTurn_0.at 13 rfl) kc10 wf_X10_106 g102 rfl rfl rfl ?_
      refine q_iload_n hE 2 (dlX10_goTurn_0.at 14 rfl) rfl rfl ?_
      refine q_iald hE (dlX10_goTurn_0.at 15 rfl) g120 rfl hm (fun hm => ?_)
      refine q_callV_i (X := fun z => WG V o z) hE (As := [_]) (dlX10_goTurn_0.at 16 rfl) mw_X10_goWhole wm_X10_342 rfl rfl rfl rfl (Nat.zero_le _) (Nat.zero_le _) rfl kc10 g102 rfl (ok_X10_goWhole hfx) hm (fun v4 h4 hm => ?_)
      refine q_iadd hE (dlX10_goTurn_0.at 17 rfl) ?_
      refine q_istore_n hE [(0, _), (1, _), (2, _)] (dlX10_goTurn_0.at 18 rfl) rfl rfl rfl ?_
      refine q_iinc hE [(0, _), (1, _), (2, _)] 2 (dlX10_goTurn_0.at 19 rfl) rfl ic_1 rfl rfl ?_
      refine q_goto hE (tgt := 8) (dlX10_goTurn_0.at 20 rfl) (by decide) ?_
      refine q_sub hE [0, 1, 2] rfl ?_
      exact ih _ _ _  hm
set_option maxRecDepth 10000 in
theorem ok_X10_goTurn {V : Ev} {l : Launch} {o : PH} {F : Nat}  (hfx : V.2.2.2.2 = false)  {h : PH} : ∀ (v : Int32) (h' : PH), f_X10_goTurn F  h = some (v, h') → Ctr l V yX10_goTurn cX10_goTurn 3 (some .int) 8 [rf V 102] 143 (WG V o h) 143 (WG V o (h')) (some (.int v)) 0 0 := by
  intro v h' hm
  refine Ctr.intro RX10 (by decide +kernel) rfl rfl rfl ?_
  intro E hE hQ _
  unfold f_X10_goTurn at hm
  refine q_aload_n hE 0 (dlX10_goTurn_0.at 0 rfl) rfl rfl ?_
  refine q_callV_v (X := fun z => WG V o z) hE (As := []) (dlX10_goTurn_0.at 1 rfl) mw_X10_save wm_X10_321 rfl rfl rfl rfl (Nat.zero_le _) (Nat.zero_le _) rfl kc10 g102 rfl (ok_X10_save hfx) hm (fun v1 h1 hm => ?_)
  refine q_iconst hE (dlX10_goTurn_0.at 2 rfl) ic_0 ?_
  refine q_istore_n hE [(0, _), (1, _)] (dlX10_goTurn_0.at 3 rfl) rfl rfl rfl ?_
  refine q_iconst hE (dlX10_goTurn_0.at 4 rfl) ic_0 ?_
  refine q_istore_n hE [(0, _), (1, _), (2, _)] (dlX10_goTurn_0.at 5 rfl) rfl rfl rfl ?_
  refine q_sub hE [0, 1, 2] rfl ?_
  exact okL_X10_goTurn_8 hfx hE hQ  F _ _ _  hm
set_option maxRecDepth 10000 in
theorem okL_X10_layNews_24 {V : Ev} {l : Launch} {o : PH} {F : Nat} {K62 : Int32 → PH → Option (Unit × PH)}  (hfx : V.2.2.2.2 = false) {E : Cx} (hE : CX E V l cX10_layNews RX10 3 4 0 0 none) {r : Unit × PH} (hQ : RQ E V 143 (WG V o r.2) (none) 0 0) (hK62 : ∀ (y1 : Int32) (h : PH), K62 y1 h = some r → PW E V 0 0 143 (WG V o h) 62 [(0, rf V 102), (1, .int y1)] []) : ∀ (n : Nat) (x1 : Int32) (x2 : Int32) (h : PH), fL_X10_layNews_24 F K62 n x1 x2 h = some r → PW E V 0 0 143 (WG V o h) 24 [(0, rf V 102), (1, .int x1), (2, .int x2)] [] := by
  intro n
  induction n with
  | zero => intro x1 x2 h hm; cases hm
  | succ n ih =>
    intro x1 x2 h hm
    rw [fL_X10_layNews_24] at hm
    refine q_iload_n hE 2 (dlX10_layNews_0.at 16 rfl) rfl rfl ?_
    refine q_sipush hE (dlX10_layNews_0.at 17 rfl) sc_800 ?_
    refine q_icmp_ge hE (tgt := 62) (dlX10_layNews_0.at 18 rfl) (by decide) hm (fun hc4 hm => ?_) (fun hc4 hm => ?_)
    · refine q_sub hE [0, 1] rfl ?_
      exact hK62 _ _ hm
    · refine q_aload_n hE 0 (dlX10_layNews_0.at 19 rfl) rfl rfl ?_
      refine q_get hE (dlX10_layNews_0.at 20 rfl) kc10 wf_X10_91 g102 rfl rfl rfl ?_
      refine q_sipush hE (dlX10_layNews_0.at 21 rfl) sc_800 ?_
      refine q_iload_n hE 1 (dlX10_layNews_0.at 22 rfl) rfl rfl ?_
      refine q_imul hE (dlX10_layNews_0.at 23 rfl) ?_
      refine q_iload_n hE 2 (dlX10_layNews_0.at 24 rfl) rfl rfl ?_
      refine q_iadd hE (dlX10_layNews_0.at 25 rfl) ?_
      refine q_aload_n hE 0 (dlX10_layNews_0.at 26 rfl) rfl rfl ?_
      refine q_iload_n hE 1 (dlX10_layNews_0.at 27 rfl) rfl rfl ?_
      refine q_aload_n hE 0 (dlX10_layNews_0.at 28 rfl) rfl rfl ?_
      refine q_get hE (dlX10_layNews_0.at 29 rfl) kc10 wf_X10_26 g102 rfl rfl rfl ?_
      refine q_iload_n hE 1 (dlX10_layNews_0.at 30 rfl) rfl rfl ?_
      refine q_iald hE (dlX10_layNews_0.at 31 rfl) g105 rfl hm (fun hm => ?_)
      refine q_iload_n hE 2 (dlX10_layNews_0.at 32 rfl) rfl rfl ?_
      refine q_iadd hE (dlX10_layNews_0.at 33 rfl) ?_
      refine q_callV_i (X := fun z => WG V o z) hE (As := [_, _]) (dlX10_layNews_0.at 34 rfl) mw_X10_newsNow wm_X10_287 rfl rfl rfl rfl (Nat.zero_le _) (Nat.zero_le _) rfl kc10 g102 rfl (ok_X10_newsNow hfx) hm (fun v5 h5 hm => ?_)
      refine q_iast hE hfx (dlX10_layNews_0.at 35 rfl) g117 rfl u117 hm (fun hm => ?_)
      refine q_lth (X := fun z => WG V o z) hm (fun h6 hm => ?_)
      refine q_iinc hE [(0, _), (1, _), (2, _)] 2 (dlX10_layNews_0.at 36 rfl) rfl ic_1 rfl rfl ?_
      refine q_goto hE (tgt := 24) (dlX10_layNews_0.at 37 rfl) (by decide) ?_
      refine q_sub hE [0, 1, 2] rfl ?_
      exact ih _ _ _  hm
