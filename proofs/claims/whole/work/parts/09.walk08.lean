set_option maxRecDepth 10000 in
theorem ok_X10_ends {V : Ev} {l : Launch} {o : PH} {F : Nat}  (hfx : V.2.2.2.2 = false) {a1 : Int32} {h : PH} : ∀ (v : Int32) (h' : PH), f_X10_ends F a1 h = some (v, h') → Ctr l V yX10_ends cX10_ends 3 (some .int) 7 [rf V 102, .int a1] 143 (WG V o h) 143 (WG V o (h')) (some (.int v)) 0 0 := by
  intro v h' hm
  refine Ctr.intro RX10 (by decide +kernel) rfl rfl rfl ?_
  intro E hE hQ _
  unfold f_X10_ends at hm
  refine q_aload_n hE 0 (dlX10_ends_0.at 0 rfl) rfl rfl ?_
  refine q_iload_n hE 1 (dlX10_ends_0.at 1 rfl) rfl rfl ?_
  refine q_iconst hE (dlX10_ends_0.at 2 rfl) ic_0 ?_
  refine q_iconst hE (dlX10_ends_0.at 3 rfl) ic_1 ?_
  refine q_callV_i (X := fun z => WG V o z) hE (As := [_, _, _]) (dlX10_ends_0.at 4 rfl) mw_X10_in wm_X10_212 rfl rfl rfl rfl (Nat.zero_le _) (Nat.zero_le _) rfl kc10 g102 rfl (ok_X10_in hfx) hm (fun v1 h1 hm => ?_)
  refine q_if_ne hE (tgt := 12) (dlX10_ends_0.at 5 rfl) (by decide) hm (fun hc2 hm => ?_) (fun hc2 hm => ?_)
  · refine q_iconst hE (dlX10_ends_0.at 6 rfl) ic_m1 ?_
    exact q_iret (X := fun z => WG V o z) hE (dlX10_ends_0.at 7 rfl) hm hQ rfl
  · refine q_aload_n hE 0 (dlX10_ends_0.at 8 rfl) rfl rfl ?_
    refine q_callV_v (X := fun z => WG V o z) hE (As := []) (dlX10_ends_0.at 9 rfl) mw_X10_save wm_X10_321 rfl rfl rfl rfl (Nat.zero_le _) (Nat.zero_le _) rfl kc10 g102 rfl (ok_X10_save hfx) hm (fun v3 h3 hm => ?_)
    refine q_iconst hE (dlX10_ends_0.at 10 rfl) ic_0 ?_
    refine q_istore_n hE [(0, _), (1, _), (2, _)] (dlX10_ends_0.at 11 rfl) rfl rfl rfl ?_
    refine q_sub hE [0, 1, 2] rfl ?_
    exact okL_X10_ends_18 hfx hE hQ  F _ _ _  hm
set_option maxRecDepth 10000 in
theorem ok_X10_book {V : Ev} {l : Launch} {o : PH} {F : Nat}  (hfx : V.2.2.2.2 = false) {a1 : Int32} {a2 : Int32} {h : PH} : ∀ (v : Int32) (h' : PH), f_X10_book F a1 a2 h = some (v, h') → Ctr l V yX10_book cX10_book 3 (some .int) 3 [rf V 102, .int a1, .int a2] 143 (WG V o h) 143 (WG V o (h')) (some (.int v)) 0 0 := by
  intro v h' hm
  refine Ctr.intro RX10 (by decide +kernel) rfl rfl rfl ?_
  intro E hE hQ _
  unfold f_X10_book at hm
  refine q_iload_n hE 1 (dlX10_book_0.at 0 rfl) rfl rfl ?_
  refine q_iconst hE (dlX10_book_0.at 1 rfl) ic_m1 ?_
  refine q_icmp_ne hE (tgt := 12) (dlX10_book_0.at 2 rfl) (by decide) hm (fun hc1 hm => ?_) (fun hc1 hm => ?_)
  · refine q_aload_n hE 0 (dlX10_book_0.at 3 rfl) rfl rfl ?_
    refine q_iconst hE (dlX10_book_0.at 4 rfl) ic_0 ?_
    refine q_put hE hfx (dlX10_book_0.at 5 rfl) kc10 wf_X10_127 g102 rfl rfl rfl rfl rfl rfl u102_38 ?_
    refine q_lth (X := fun z => WG V o z) hm (fun h10 hm => ?_)
    refine q_iconst hE (dlX10_book_0.at 6 rfl) ic_0 ?_
    exact q_iret (X := fun z => WG V o z) hE (dlX10_book_0.at 7 rfl) hm hQ rfl
  · refine q_aload_n hE 0 (dlX10_book_0.at 8 rfl) rfl rfl ?_
    refine q_iload_n hE 1 (dlX10_book_0.at 9 rfl) rfl rfl ?_
    refine q_callV_i (X := fun z => WG V o z) hE (As := [_]) (dlX10_book_0.at 10 rfl) mw_X10_isClock wm_X10_220 rfl rfl rfl rfl (Nat.zero_le _) (Nat.zero_le _) rfl kc10 g102 rfl (ok_X10_isClock hfx) hm (fun v2 h2 hm => ?_)
    refine q_if_ne hE (tgt := 22) (dlX10_book_0.at 11 rfl) (by decide) hm (fun hc3 hm => ?_) (fun hc3 hm => ?_)
    · refine q_iconst hE (dlX10_book_0.at 12 rfl) ic_m1 ?_
      exact q_iret (X := fun z => WG V o z) hE (dlX10_book_0.at 13 rfl) hm hQ rfl
    · refine q_aload_n hE 0 (dlX10_book_0.at 14 rfl) rfl rfl ?_
      refine q_iload_n hE 2 (dlX10_book_0.at 15 rfl) rfl rfl ?_
      refine q_callV_i (X := fun z => WG V o z) hE (As := [_]) (dlX10_book_0.at 16 rfl) mw_X10_isDay wm_X10_291 rfl rfl rfl rfl (Nat.zero_le _) (Nat.zero_le _) rfl kc10 g102 rfl (ok_X10_isDay hfx) hm (fun v4 h4 hm => ?_)
      refine q_if_ne hE (tgt := 33) (dlX10_book_0.at 17 rfl) (by decide) hm (fun hc5 hm => ?_) (fun hc5 hm => ?_)
      · refine q_bipush hE (dlX10_book_0.at 18 rfl) bc_m2 ?_
        exact q_iret (X := fun z => WG V o z) hE (dlX10_book_0.at 19 rfl) hm hQ rfl
      · refine q_aload_n hE 0 (dlX10_book_0.at 20 rfl) rfl rfl ?_
        refine q_get hE (dlX10_book_0.at 21 rfl) kc10 wf_X10_127 g102 rfl rfl rfl ?_
        refine q_bipush hE (dlX10_book_0.at 22 rfl) bc_8 ?_
        refine q_icmp_ne hE (tgt := 45) (dlX10_book_0.at 23 rfl) (by decide) hm (fun hc6 hm => ?_) (fun hc6 hm => ?_)
        · refine q_bipush hE (dlX10_book_0.at 24 rfl) bc_m4 ?_
          exact q_iret (X := fun z => WG V o z) hE (dlX10_book_0.at 25 rfl) hm hQ rfl
        · refine q_aload_n hE 0 (dlX10_book_0.at 26 rfl) rfl rfl ?_
          refine q_get hE (dlX10_book_0.at 27 rfl) kc10 wf_X10_133 g102 rfl rfl rfl ?_
          refine q_aload_n hE 0 (dlX10_book_0.at 28 rfl) rfl rfl ?_
          refine q_get hE (dlX10_book_0.at 29 rfl) kc10 wf_X10_127 g102 rfl rfl rfl ?_
          refine q_iload_n hE 1 (dlX10_book_0.at 30 rfl) rfl rfl ?_
          refine q_iast hE hfx (dlX10_book_0.at 31 rfl) g126 rfl u126 hm (fun hm => ?_)
          refine q_lth (X := fun z => WG V o z) hm (fun h7 hm => ?_)
          refine q_aload_n hE 0 (dlX10_book_0.at 32 rfl) rfl rfl ?_
          refine q_get hE (dlX10_book_0.at 33 rfl) kc10 wf_X10_136 g102 rfl rfl rfl ?_
          refine q_aload_n hE 0 (dlX10_book_0.at 34 rfl) rfl rfl ?_
          refine q_get hE (dlX10_book_0.at 35 rfl) kc10 wf_X10_127 g102 rfl rfl rfl ?_
          refine q_iload_n hE 2 (dlX10_book_0.at 36 rfl) rfl rfl ?_
          refine q_iast hE hfx (dlX10_book_0.at 37 rfl) g127 rfl u127 hm (fun hm => ?_)
          refine q_lth (X := fun z => WG V o z) hm (fun h8 hm => ?_)
          refine q_aload_n hE 0 (dlX10_book_0.at 38 rfl) rfl rfl ?_
          refine q_dup hE (dlX10_book_0.at 39 rfl) rfl ?_
          refine q_get hE (dlX10_book_1.at 0 rfl) kc10 wf_X10_127 g102 rfl rfl rfl ?_
          refine q_iconst hE (dlX10_book_1.at 1 rfl) ic_1 ?_
          refine q_iadd hE (dlX10_book_1.at 2 rfl) ?_
          refine q_put hE hfx (dlX10_book_1.at 3 rfl) kc10 wf_X10_127 g102 rfl rfl rfl rfl rfl rfl u102_38 ?_
          refine q_lth (X := fun z => WG V o z) hm (fun h9 hm => ?_)
          refine q_aload_n hE 0 (dlX10_book_1.at 4 rfl) rfl rfl ?_
          refine q_get hE (dlX10_book_1.at 5 rfl) kc10 wf_X10_127 g102 rfl rfl rfl ?_
          exact q_iret (X := fun z => WG V o z) hE (dlX10_book_1.at 6 rfl) hm hQ rfl
set_option maxRecDepth 10000 in
theorem okL_X10_looked_2 {V : Ev} {l : Launch} {o : PH} {F : Nat}  (hfx : V.2.2.2.2 = false) {E : Cx} (hE : CX E V l cX10_looked RX10 2 1 0 0 (some .int)) {r : Int32 × PH} (hQ : RQ E V 143 (WG V o r.2) (some (.int r.1)) 0 0) : ∀ (n : Nat) (x1 : Int32) (h : PH), fL_X10_looked_2 F n x1 h = some r → PW E V 0 0 143 (WG V o h) 2 [(0, rf V 102), (1, .int x1)] [] := by
  intro n
  induction n with
  | zero => intro x1 h hm; cases hm
  | succ n ih =>
    intro x1 h hm
    rw [fL_X10_looked_2] at hm
    refine q_iload_n hE 1 (dlX10_looked_0.at 2 rfl) rfl rfl ?_
    refine q_aload_n hE 0 (dlX10_looked_0.at 3 rfl) rfl rfl ?_
    refine q_get hE (dlX10_looked_0.at 4 rfl) kc10 wf_X10_127 g102 rfl rfl rfl ?_
    refine q_icmp_ge hE (tgt := 38) (dlX10_looked_0.at 5 rfl) (by decide) hm (fun hc1 hm => ?_) (fun hc1 hm => ?_)
    · refine q_bipush hE (dlX10_looked_0.at 22 rfl) bc_m5 ?_
      exact q_iret (X := fun z => WG V o z) hE (dlX10_looked_0.at 23 rfl) hm hQ rfl
    · refine q_aload_n hE 0 (dlX10_looked_0.at 6 rfl) rfl rfl ?_
      refine q_get hE (dlX10_looked_0.at 7 rfl) kc10 wf_X10_26 g102 rfl rfl rfl ?_
      refine q_aload_n hE 0 (dlX10_looked_0.at 8 rfl) rfl rfl ?_
      refine q_get hE (dlX10_looked_0.at 9 rfl) kc10 wf_X10_133 g102 rfl rfl rfl ?_
      refine q_iload_n hE 1 (dlX10_looked_0.at 10 rfl) rfl rfl ?_
      refine q_iald hE (dlX10_looked_0.at 11 rfl) g126 rfl hm (fun hm => ?_)
      refine q_iald hE (dlX10_looked_0.at 12 rfl) g105 rfl hm (fun hm => ?_)
      refine q_aload_n hE 0 (dlX10_looked_0.at 13 rfl) rfl rfl ?_
      refine q_get hE (dlX10_looked_0.at 14 rfl) kc10 wf_X10_136 g102 rfl rfl rfl ?_
      refine q_iload_n hE 1 (dlX10_looked_0.at 15 rfl) rfl rfl ?_
      refine q_iald hE (dlX10_looked_0.at 16 rfl) g127 rfl hm (fun hm => ?_)
      refine q_icmp_eq hE (tgt := 32) (dlX10_looked_0.at 17 rfl) (by decide) hm (fun hc2 hm => ?_) (fun hc2 hm => ?_)
      · refine q_iinc hE [(0, _), (1, _)] 1 (dlX10_looked_0.at 20 rfl) rfl ic_1 rfl rfl ?_
        refine q_goto hE (tgt := 2) (dlX10_looked_0.at 21 rfl) (by decide) ?_
        refine q_sub hE [0, 1] rfl ?_
        exact ih _ _  hm
      · refine q_iload_n hE 1 (dlX10_looked_0.at 18 rfl) rfl rfl ?_
        exact q_iret (X := fun z => WG V o z) hE (dlX10_looked_0.at 19 rfl) hm hQ rfl
set_option maxRecDepth 10000 in
theorem ok_X10_looked {V : Ev} {l : Launch} {o : PH} {F : Nat}  (hfx : V.2.2.2.2 = false)  {h : PH} : ∀ (v : Int32) (h' : PH), f_X10_looked F  h = some (v, h') → Ctr l V yX10_looked cX10_looked 2 (some .int) 1 [rf V 102] 143 (WG V o h) 143 (WG V o (h')) (some (.int v)) 0 0 := by
  intro v h' hm
  refine Ctr.intro RX10 (by decide +kernel) rfl rfl rfl ?_
  intro E hE hQ _
  unfold f_X10_looked at hm
  refine q_iconst hE (dlX10_looked_0.at 0 rfl) ic_0 ?_
  refine q_istore_n hE [(0, _), (1, _)] (dlX10_looked_0.at 1 rfl) rfl rfl rfl ?_
  refine q_sub hE [0, 1] rfl ?_
  exact okL_X10_looked_2 hfx hE hQ  F _ _  hm
set_option maxRecDepth 10000 in
theorem ok_X10_isTape {V : Ev} {l : Launch} {o : PH} {F : Nat}  (hfx : V.2.2.2.2 = false) {a1 : Int32} {h : PH} : ∀ (v : Int32) (h' : PH), f_X10_isTape F a1 h = some (v, h') → Ctr l V yX10_isTape cX10_isTape 2 (some .boolean) 2 [rf V 102, .int a1] 143 (WG V o h) 143 (WG V o (h')) (some (.int v)) 0 0 := by
  intro v h' hm
  refine Ctr.intro RX10 (by decide +kernel) rfl rfl rfl ?_
  intro E hE hQ _
  unfold f_X10_isTape at hm
  refine q_aload_n hE 0 (dlX10_isTape_0.at 0 rfl) rfl rfl ?_
  refine q_iload_n hE 1 (dlX10_isTape_0.at 1 rfl) rfl rfl ?_
  refine q_iconst hE (dlX10_isTape_0.at 2 rfl) ic_0 ?_
  refine q_iconst hE (dlX10_isTape_0.at 3 rfl) ic_5 ?_
  refine q_callV_i (X := fun z => WG V o z) hE (As := [_, _, _]) (dlX10_isTape_0.at 4 rfl) mw_X10_in wm_X10_212 rfl rfl rfl rfl (Nat.zero_le _) (Nat.zero_le _) rfl kc10 g102 rfl (ok_X10_in hfx) hm (fun v1 h1 hm => ?_)
  exact q_bret (X := fun z => WG V o z) hE (dlX10_isTape_0.at 5 rfl) hm hQ rfl rfl
set_option maxRecDepth 10000 in
theorem okL_X10_judge_34 {V : Ev} {l : Launch} {o : PH} {F : Nat}  (hfx : V.2.2.2.2 = false) {E : Cx} (hE : CX E V l cX10_judge RX10 4 3 0 0 (some .int)) {r : Int32 × PH} (hQ : RQ E V 143 (WG V o r.2) (some (.int r.1)) 0 0) : ∀ (n : Nat) (x1 : Int32) (x2 : Int32) (x3 : Int32) (h : PH), fL_X10_judge_34 F n x1 x2 x3 h = some r → PW E V 0 0 143 (WG V o h) 34 [(0, rf V 102), (1, .int x1), (2, .int x2), (3, .int x3)] [] := by
  intro n
  induction n with
  | zero => intro x1 x2 x3 h hm; cases hm
  | succ n ih =>
    intro x1 x2 x3 h hm
    rw [fL_X10_judge_34] at hm
    refine q_iload_n hE 3 (dlX10_judge_0.at 21 rfl) rfl rfl ?_
    refine q_aload_n hE 0 (dlX10_judge_0.at 22 rfl) rfl rfl ?_
    refine q_get hE (dlX10_judge_0.at 23 rfl) kc10 wf_X10_7 g102 rfl rfl rfl ?_
    refine q_icmp_ge hE (tgt := 106) (dlX10_judge_0.at 24 rfl) (by decide) hm (fun hc4 hm => ?_) (fun hc4 hm => ?_)
    · refine q_bipush hE (dlX10_judge_1.at 27 rfl) bc_m5 ?_
      exact q_iret (X := fun z => WG V o z) hE (dlX10_judge_1.at 28 rfl) hm hQ rfl
    · refine q_aload_n hE 0 (dlX10_judge_0.at 25 rfl) rfl rfl ?_
      refine q_get hE (dlX10_judge_0.at 26 rfl) kc10 wf_X10_199 g102 rfl rfl rfl ?_
      refine q_iload_n hE 1 (dlX10_judge_0.at 27 rfl) rfl rfl ?_
      refine q_iald hE (dlX10_judge_0.at 28 rfl) g139 rfl hm (fun hm => ?_)
      refine q_if_lt hE (tgt := 69) (dlX10_judge_0.at 29 rfl) (by decide) hm (fun hc5 hm => ?_) (fun hc5 hm => ?_)
      · refine q_bipush hE (dlX10_judge_1.at 2 rfl) bc_100 ?_
        refine q_iload_n hE 3 (dlX10_judge_1.at 3 rfl) rfl rfl ?_
        refine q_iadd hE (dlX10_judge_1.at 4 rfl) ?_
        exact q_iret (X := fun z => WG V o z) hE (dlX10_judge_1.at 5 rfl) hm hQ rfl
      · refine q_iload_n hE 2 (dlX10_judge_0.at 30 rfl) rfl rfl ?_
        refine q_if_lt hE (tgt := 69) (dlX10_judge_0.at 31 rfl) (by decide) hm (fun hc6 hm => ?_) (fun hc6 hm => ?_)
        · refine q_bipush hE (dlX10_judge_1.at 2 rfl) bc_100 ?_
          refine q_iload_n hE 3 (dlX10_judge_1.at 3 rfl) rfl rfl ?_
          refine q_iadd hE (dlX10_judge_1.at 4 rfl) ?_
          exact q_iret (X := fun z => WG V o z) hE (dlX10_judge_1.at 5 rfl) hm hQ rfl
        · refine q_iload_n hE 2 (dlX10_judge_0.at 32 rfl) rfl rfl ?_
          refine q_aload_n hE 0 (dlX10_judge_0.at 33 rfl) rfl rfl ?_
          refine q_get hE (dlX10_judge_0.at 34 rfl) kc10 wf_X10_202 g102 rfl rfl rfl ?_
          refine q_iload_n hE 1 (dlX10_judge_0.at 35 rfl) rfl rfl ?_
          refine q_iald hE (dlX10_judge_0.at 36 rfl) g140 rfl hm (fun hm => ?_)
          refine q_iload_n hE 3 (dlX10_judge_0.at 37 rfl) rfl rfl ?_
          refine q_isub hE (dlX10_judge_0.at 38 rfl) ?_
          refine q_iconst hE (dlX10_judge_0.at 39 rfl) ic_1 ?_
          refine q_isub hE (dlX10_judge_1.at 0 rfl) ?_
          refine q_icmp_le hE (tgt := 74) (dlX10_judge_1.at 1 rfl) (by decide) hm (fun hc7 hm => ?_) (fun hc7 hm => ?_)
          · refine q_aload_n hE 0 (dlX10_judge_1.at 6 rfl) rfl rfl ?_
            refine q_get hE (dlX10_judge_1.at 7 rfl) kc10 wf_X10_205 g102 rfl rfl rfl ?_
            refine q_bipush hE (dlX10_judge_1.at 8 rfl) bc_60 ?_
            refine q_iload_n hE 1 (dlX10_judge_1.at 9 rfl) rfl rfl ?_
            refine q_imul hE (dlX10_judge_1.at 10 rfl) ?_
            refine q_iload_n hE 2 (dlX10_judge_1.at 11 rfl) rfl rfl ?_
            refine q_iadd hE (dlX10_judge_1.at 12 rfl) ?_
            refine q_iload_n hE 3 (dlX10_judge_1.at 13 rfl) rfl rfl ?_
            refine q_iadd hE (dlX10_judge_1.at 14 rfl) ?_
            refine q_lald hE (dlX10_judge_1.at 15 rfl) g141 rfl hm (fun hm => ?_)
            refine q_aload_n hE 0 (dlX10_judge_1.at 16 rfl) rfl rfl ?_
            refine q_get hE (dlX10_judge_1.at 17 rfl) kc10 wf_X10_26 g102 rfl rfl rfl ?_
            refine q_iload_n hE 3 (dlX10_judge_1.at 18 rfl) rfl rfl ?_
            refine q_iald hE (dlX10_judge_1.at 19 rfl) g105 rfl hm (fun hm => ?_)
            refine q_i2l hE (dlX10_judge_1.at 20 rfl) ?_
            refine q_lcmp hE (dlX10_judge_1.at 21 rfl) ?_
            refine q_if_eq hE (tgt := 100) (dlX10_judge_1.at 22 rfl) (by decide) hm (fun hc8 hm => ?_) (fun hc8 hm => ?_)
            · refine q_iinc hE [(0, _), (1, _), (2, _), (3, _)] 3 (dlX10_judge_1.at 25 rfl) rfl ic_1 rfl rfl ?_
              refine q_goto hE (tgt := 34) (dlX10_judge_1.at 26 rfl) (by decide) ?_
              refine q_sub hE [0, 1, 2, 3] rfl ?_
              exact ih _ _ _ _  hm
            · refine q_iload_n hE 3 (dlX10_judge_1.at 23 rfl) rfl rfl ?_
              exact q_iret (X := fun z => WG V o z) hE (dlX10_judge_1.at 24 rfl) hm hQ rfl
          · refine q_bipush hE (dlX10_judge_1.at 2 rfl) bc_100 ?_
            refine q_iload_n hE 3 (dlX10_judge_1.at 3 rfl) rfl rfl ?_
            refine q_iadd hE (dlX10_judge_1.at 4 rfl) ?_
            exact q_iret (X := fun z => WG V o z) hE (dlX10_judge_1.at 5 rfl) hm hQ rfl
set_option maxRecDepth 10000 in
theorem ok_X10_judge {V : Ev} {l : Launch} {o : PH} {F : Nat}  (hfx : V.2.2.2.2 = false) {a1 : Int32} {a2 : Int32} {h : PH} : ∀ (v : Int32) (h' : PH), f_X10_judge F a1 a2 h = some (v, h') → Ctr l V yX10_judge cX10_judge 4 (some .int) 3 [rf V 102, .int a1, .int a2] 143 (WG V o h) 143 (WG V o (h')) (some (.int v)) 0 0 := by
  intro v h' hm
  refine Ctr.intro RX10 (by decide +kernel) rfl rfl rfl ?_
  intro E hE hQ _
  unfold f_X10_judge at hm
  refine q_aload_n hE 0 (dlX10_judge_0.at 0 rfl) rfl rfl ?_
  refine q_iload_n hE 1 (dlX10_judge_0.at 1 rfl) rfl rfl ?_
  refine q_callV_i (X := fun z => WG V o z) hE (As := [_]) (dlX10_judge_0.at 2 rfl) mw_X10_isTape wm_X10_366 rfl rfl rfl rfl (Nat.zero_le _) (Nat.zero_le _) rfl kc10 g102 rfl (ok_X10_isTape hfx) hm (fun v1 h1 hm => ?_)
  refine q_if_ne hE (tgt := 10) (dlX10_judge_0.at 3 rfl) (by decide) hm (fun hc2 hm => ?_) (fun hc2 hm => ?_)
  · refine q_iconst hE (dlX10_judge_0.at 4 rfl) ic_m1 ?_
    exact q_iret (X := fun z => WG V o z) hE (dlX10_judge_0.at 5 rfl) hm hQ rfl
  · refine q_aload_n hE 0 (dlX10_judge_0.at 6 rfl) rfl rfl ?_
    refine q_get hE (dlX10_judge_0.at 7 rfl) kc10 wf_X10_199 g102 rfl rfl rfl ?_
    refine q_iload_n hE 1 (dlX10_judge_0.at 8 rfl) rfl rfl ?_
    refine q_iald hE (dlX10_judge_0.at 9 rfl) g139 rfl hm (fun hm => ?_)
    refine q_if_lt hE (tgt := 32) (dlX10_judge_0.at 10 rfl) (by decide) hm (fun hc3 hm => ?_) (fun hc3 hm => ?_)
    · refine q_iconst hE (dlX10_judge_0.at 19 rfl) ic_0 ?_
      refine q_istore_n hE [(0, _), (1, _), (2, _), (3, _)] (dlX10_judge_0.at 20 rfl) rfl rfl rfl ?_
      refine q_sub hE [0, 1, 2, 3] rfl ?_
      exact okL_X10_judge_34 hfx hE hQ  F _ _ _ _  hm
    · refine q_aload_n hE 0 (dlX10_judge_0.at 11 rfl) rfl rfl ?_
      refine q_get hE (dlX10_judge_0.at 12 rfl) kc10 wf_X10_199 g102 rfl rfl rfl ?_
      refine q_iload_n hE 1 (dlX10_judge_0.at 13 rfl) rfl rfl ?_
      refine q_iald hE (dlX10_judge_0.at 14 rfl) g139 rfl hm (fun hm => ?_)
      refine q_iconst hE (dlX10_judge_0.at 15 rfl) ic_1 ?_
      refine q_icmp_eq hE (tgt := 32) (dlX10_judge_0.at 16 rfl) (by decide) hm (fun hc9 hm => ?_) (fun hc9 hm => ?_)
      · refine q_iconst hE (dlX10_judge_0.at 19 rfl) ic_0 ?_
        refine q_istore_n hE [(0, _), (1, _), (2, _), (3, _)] (dlX10_judge_0.at 20 rfl) rfl rfl rfl ?_
        refine q_sub hE [0, 1, 2, 3] rfl ?_
        exact okL_X10_judge_34 hfx hE hQ  F _ _ _ _  hm
      · refine q_bipush hE (dlX10_judge_0.at 17 rfl) bc_m12 ?_
        exact q_iret (X := fun z => WG V o z) hE (dlX10_judge_0.at 18 rfl) hm hQ rfl
set_option maxRecDepth 10000 in
theorem okL_X10_image_214 {V : Ev} {l : Launch} {o : PH} {F : Nat}  (hfx : V.2.2.2.2 = false) {E : Cx} (hE : CX E V l cX10_image RX10 2 1 0 0 (some .int)) {r : Int32 × PH} (hQ : RQ E V 143 (WG V o r.2) (some (.int r.1)) 0 0) : ∀ (n : Nat) (x1 : Int32) (h : PH), fL_X10_image_214 F n x1 h = some r → PW E V 0 0 143 (WG V o h) 214 [(0, rf V 102), (1, .int x1)] [] := by
  intro n
  induction n with
  | zero => intro x1 h hm; cases hm
  | succ n ih =>
    intro x1 h hm
    rw [fL_X10_image_214] at hm
    refine q_iload_n hE 1 (dlX10_image_3.at 5 rfl) rfl rfl ?_
    refine q_bipush hE (dlX10_image_3.at 6 rfl) bc_8 ?_
    refine q_icmp_ge hE (tgt := 250) (dlX10_image_3.at 7 rfl) (by decide) hm (fun hc13 hm => ?_) (fun hc13 hm => ?_)
    · refine q_aload_n hE 0 (dlX10_image_3.at 26 rfl) rfl rfl ?_
      refine q_get hE (dlX10_image_3.at 27 rfl) kc10 wf_X10_7 g102 rfl rfl rfl ?_
      exact q_iret (X := fun z => WG V o z) hE (dlX10_image_3.at 28 rfl) hm hQ rfl
    · refine q_aload_n hE 0 (dlX10_image_3.at 8 rfl) rfl rfl ?_
      refine q_get hE (dlX10_image_3.at 9 rfl) kc10 wf_X10_187 g102 rfl rfl rfl ?_
      refine q_iload_n hE 1 (dlX10_image_3.at 10 rfl) rfl rfl ?_
      refine q_aload_n hE 0 (dlX10_image_3.at 11 rfl) rfl rfl ?_
      refine q_get hE (dlX10_image_3.at 12 rfl) kc10 wf_X10_133 g102 rfl rfl rfl ?_
      refine q_iload_n hE 1 (dlX10_image_3.at 13 rfl) rfl rfl ?_
      refine q_iald hE (dlX10_image_3.at 14 rfl) g126 rfl hm (fun hm => ?_)
      refine q_iast hE hfx (dlX10_image_3.at 15 rfl) g136 rfl u136 hm (fun hm => ?_)
      refine q_lth (X := fun z => WG V o z) hm (fun h14 hm => ?_)
      refine q_aload_n hE 0 (dlX10_image_3.at 16 rfl) rfl rfl ?_
      refine q_get hE (dlX10_image_3.at 17 rfl) kc10 wf_X10_190 g102 rfl rfl rfl ?_
      refine q_iload_n hE 1 (dlX10_image_3.at 18 rfl) rfl rfl ?_
      refine q_aload_n hE 0 (dlX10_image_3.at 19 rfl) rfl rfl ?_
      refine q_get hE (dlX10_image_3.at 20 rfl) kc10 wf_X10_136 g102 rfl rfl rfl ?_
      refine q_iload_n hE 1 (dlX10_image_3.at 21 rfl) rfl rfl ?_
      refine q_iald hE (dlX10_image_3.at 22 rfl) g127 rfl hm (fun hm => ?_)
      refine q_iast hE hfx (dlX10_image_3.at 23 rfl) g137 rfl u137 hm (fun hm => ?_)
      refine q_lth (X := fun z => WG V o z) hm (fun h15 hm => ?_)
      refine q_iinc hE [(0, _), (1, _)] 1 (dlX10_image_3.at 24 rfl) rfl ic_1 rfl rfl ?_
      refine q_goto hE (tgt := 214) (dlX10_image_3.at 25 rfl) (by decide) ?_
      refine q_sub hE [0, 1] rfl ?_
      exact ih _ _  hm
set_option maxRecDepth 10000 in
theorem okL_X10_image_188 {V : Ev} {l : Launch} {o : PH} {F : Nat}  (hfx : V.2.2.2.2 = false) {E : Cx} (hE : CX E V l cX10_image RX10 2 1 0 0 (some .int)) {r : Int32 × PH} (hQ : RQ E V 143 (WG V o r.2) (some (.int r.1)) 0 0) : ∀ (n : Nat) (x1 : Int32) (h : PH), fL_X10_image_188 F n x1 h = some r → PW E V 0 0 143 (WG V o h) 188 [(0, rf V 102), (1, .int x1)] [] := by
  intro n
  induction n with
  | zero => intro x1 h hm; cases hm
  | succ n ih =>
    intro x1 h hm
    rw [fL_X10_image_188] at hm
    refine q_iload_n hE 1 (dlX10_image_2.at 30 rfl) rfl rfl ?_
    refine q_bipush hE (dlX10_image_2.at 31 rfl) bc_10 ?_
    refine q_icmp_ge hE (tgt := 212) (dlX10_image_2.at 32 rfl) (by decide) hm (fun hc12 hm => ?_) (fun hc12 hm => ?_)
    · refine q_iconst hE (dlX10_image_3.at 3 rfl) ic_0 ?_
      refine q_istore_n hE [(0, _), (1, _)] (dlX10_image_3.at 4 rfl) rfl rfl rfl ?_
      refine q_sub hE [0, 1] rfl ?_
      exact okL_X10_image_214 hfx hE hQ  F _ _  hm
    · refine q_aload_n hE 0 (dlX10_image_2.at 33 rfl) rfl rfl ?_
      refine q_get hE (dlX10_image_2.at 34 rfl) kc10 wf_X10_184 g102 rfl rfl rfl ?_
      refine q_iload_n hE 1 (dlX10_image_2.at 35 rfl) rfl rfl ?_
      refine q_aload_n hE 0 (dlX10_image_2.at 36 rfl) rfl rfl ?_
      refine q_get hE (dlX10_image_2.at 37 rfl) kc10 wf_X10_130 g102 rfl rfl rfl ?_
      refine q_iload_n hE 1 (dlX10_image_2.at 38 rfl) rfl rfl ?_
      refine q_iald hE (dlX10_image_2.at 39 rfl) g125 rfl hm (fun hm => ?_)
      refine q_iast hE hfx (dlX10_image_3.at 0 rfl) g135 rfl u135 hm (fun hm => ?_)
      refine q_lth (X := fun z => WG V o z) hm (fun h16 hm => ?_)
      refine q_iinc hE [(0, _), (1, _)] 1 (dlX10_image_3.at 1 rfl) rfl ic_1 rfl rfl ?_
      refine q_goto hE (tgt := 188) (dlX10_image_3.at 2 rfl) (by decide) ?_
      refine q_sub hE [0, 1] rfl ?_
      exact ih _ _  hm
set_option maxRecDepth 10000 in
theorem okL_X10_image_139 {V : Ev} {l : Launch} {o : PH} {F : Nat}  (hfx : V.2.2.2.2 = false) {E : Cx} (hE : CX E V l cX10_image RX10 2 1 0 0 (some .int)) {r : Int32 × PH} (hQ : RQ E V 143 (WG V o r.2) (some (.int r.1)) 0 0) : ∀ (n : Nat) (x1 : Int32) (h : PH), fL_X10_image_139 F n x1 h = some r → PW E V 0 0 143 (WG V o h) 139 [(0, rf V 102), (1, .int x1)] [] := by
  intro n
  induction n with
  | zero => intro x1 h hm; cases hm
  | succ n ih =>
    intro x1 h hm
    rw [fL_X10_image_139] at hm
    refine q_iload_n hE 1 (dlX10_image_1.at 39 rfl) rfl rfl ?_
    refine q_iconst hE (dlX10_image_2.at 0 rfl) ic_5 ?_
    refine q_icmp_ge hE (tgt := 186) (dlX10_image_2.at 1 rfl) (by decide) hm (fun hc11 hm => ?_) (fun hc11 hm => ?_)
    · refine q_iconst hE (dlX10_image_2.at 28 rfl) ic_0 ?_
      refine q_istore_n hE [(0, _), (1, _)] (dlX10_image_2.at 29 rfl) rfl rfl rfl ?_
      refine q_sub hE [0, 1] rfl ?_
      exact okL_X10_image_188 hfx hE hQ  F _ _  hm
    · refine q_aload_n hE 0 (dlX10_image_2.at 2 rfl) rfl rfl ?_
      refine q_get hE (dlX10_image_2.at 3 rfl) kc10 wf_X10_175 g102 rfl rfl rfl ?_
      refine q_iload_n hE 1 (dlX10_image_2.at 4 rfl) rfl rfl ?_
      refine q_aload_n hE 0 (dlX10_image_2.at 5 rfl) rfl rfl ?_
      refine q_get hE (dlX10_image_2.at 6 rfl) kc10 wf_X10_115 g102 rfl rfl rfl ?_
      refine q_iload_n hE 1 (dlX10_image_2.at 7 rfl) rfl rfl ?_
      refine q_iald hE (dlX10_image_2.at 8 rfl) g122 rfl hm (fun hm => ?_)
      refine q_iast hE hfx (dlX10_image_2.at 9 rfl) g132 rfl u132 hm (fun hm => ?_)
      refine q_lth (X := fun z => WG V o z) hm (fun h17 hm => ?_)
      refine q_aload_n hE 0 (dlX10_image_2.at 10 rfl) rfl rfl ?_
      refine q_get hE (dlX10_image_2.at 11 rfl) kc10 wf_X10_178 g102 rfl rfl rfl ?_
      refine q_iload_n hE 1 (dlX10_image_2.at 12 rfl) rfl rfl ?_
      refine q_aload_n hE 0 (dlX10_image_2.at 13 rfl) rfl rfl ?_
      refine q_get hE (dlX10_image_2.at 14 rfl) kc10 wf_X10_118 g102 rfl rfl rfl ?_
      refine q_iload_n hE 1 (dlX10_image_2.at 15 rfl) rfl rfl ?_
      refine q_iald hE (dlX10_image_2.at 16 rfl) g123 rfl hm (fun hm => ?_)
      refine q_iast hE hfx (dlX10_image_2.at 17 rfl) g133 rfl u133 hm (fun hm => ?_)
      refine q_lth (X := fun z => WG V o z) hm (fun h18 hm => ?_)
      refine q_aload_n hE 0 (dlX10_image_2.at 18 rfl) rfl rfl ?_
      refine q_get hE (dlX10_image_2.at 19 rfl) kc10 wf_X10_181 g102 rfl rfl rfl ?_
      refine q_iload_n hE 1 (dlX10_image_2.at 20 rfl) rfl rfl ?_
      refine q_aload_n hE 0 (dlX10_image_2.at 21 rfl) rfl rfl ?_
      refine q_get hE (dlX10_image_2.at 22 rfl) kc10 wf_X10_121 g102 rfl rfl rfl ?_
      refine q_iload_n hE 1 (dlX10_image_2.at 23 rfl) rfl rfl ?_
      refine q_iald hE (dlX10_image_2.at 24 rfl) g124 rfl hm (fun hm => ?_)
      refine q_iast hE hfx (dlX10_image_2.at 25 rfl) g134 rfl u134 hm (fun hm => ?_)
      refine q_lth (X := fun z => WG V o z) hm (fun h19 hm => ?_)
      refine q_iinc hE [(0, _), (1, _)] 1 (dlX10_image_2.at 26 rfl) rfl ic_1 rfl rfl ?_
      refine q_goto hE (tgt := 139) (dlX10_image_2.at 27 rfl) (by decide) ?_
      refine q_sub hE [0, 1] rfl ?_
      exact ih _ _  hm
set_option maxRecDepth 10000 in
theorem okL_X10_image_113 {V : Ev} {l : Launch} {o : PH} {F : Nat}  (hfx : V.2.2.2.2 = false) {E : Cx} (hE : CX E V l cX10_image RX10 2 1 0 0 (some .int)) {r : Int32 × PH} (hQ : RQ E V 143 (WG V o r.2) (some (.int r.1)) 0 0) : ∀ (n : Nat) (x1 : Int32) (h : PH), fL_X10_image_113 F n x1 h = some r → PW E V 0 0 143 (WG V o h) 113 [(0, rf V 102), (1, .int x1)] [] := by
  intro n
  induction n with
  | zero => intro x1 h hm; cases hm
  | succ n ih =>
    intro x1 h hm
    rw [fL_X10_image_113] at hm
    refine q_iload_n hE 1 (dlX10_image_1.at 24 rfl) rfl rfl ?_
    refine q_bipush hE (dlX10_image_1.at 25 rfl) bc_24 ?_
    refine q_icmp_ge hE (tgt := 137) (dlX10_image_1.at 26 rfl) (by decide) hm (fun hc10 hm => ?_) (fun hc10 hm => ?_)
    · refine q_iconst hE (dlX10_image_1.at 37 rfl) ic_0 ?_
      refine q_istore_n hE [(0, _), (1, _)] (dlX10_image_1.at 38 rfl) rfl rfl rfl ?_
      refine q_sub hE [0, 1] rfl ?_
      exact okL_X10_image_139 hfx hE hQ  F _ _  hm
    · refine q_aload_n hE 0 (dlX10_image_1.at 27 rfl) rfl rfl ?_
      refine q_get hE (dlX10_image_1.at 28 rfl) kc10 wf_X10_172 g102 rfl rfl rfl ?_
      refine q_iload_n hE 1 (dlX10_image_1.at 29 rfl) rfl rfl ?_
      refine q_aload_n hE 0 (dlX10_image_1.at 30 rfl) rfl rfl ?_
      refine q_get hE (dlX10_image_1.at 31 rfl) kc10 wf_X10_29 g102 rfl rfl rfl ?_
      refine q_iload_n hE 1 (dlX10_image_1.at 32 rfl) rfl rfl ?_
      refine q_iald hE (dlX10_image_1.at 33 rfl) g106 rfl hm (fun hm => ?_)
      refine q_iast hE hfx (dlX10_image_1.at 34 rfl) g131 rfl u131 hm (fun hm => ?_)
      refine q_lth (X := fun z => WG V o z) hm (fun h20 hm => ?_)
      refine q_iinc hE [(0, _), (1, _)] 1 (dlX10_image_1.at 35 rfl) rfl ic_1 rfl rfl ?_
      refine q_goto hE (tgt := 113) (dlX10_image_1.at 36 rfl) (by decide) ?_
      refine q_sub hE [0, 1] rfl ?_
      exact ih _ _  hm
set_option maxRecDepth 10000 in
theorem okL_X10_image_63 {V : Ev} {l : Launch} {o : PH} {F : Nat}  (hfx : V.2.2.2.2 = false) {E : Cx} (hE : CX E V l cX10_image RX10 2 1 0 0 (some .int)) {r : Int32 × PH} (hQ : RQ E V 143 (WG V o r.2) (some (.int r.1)) 0 0) : ∀ (n : Nat) (x1 : Int32) (h : PH), fL_X10_image_63 F n x1 h = some r → PW E V 0 0 143 (WG V o h) 63 [(0, rf V 102), (1, .int x1)] [] := by
  intro n
  induction n with
  | zero => intro x1 h hm; cases hm
  | succ n ih =>
    intro x1 h hm
    rw [fL_X10_image_63] at hm
    refine q_iload_n hE 1 (dlX10_image_0.at 33 rfl) rfl rfl ?_
    refine q_bipush hE (dlX10_image_0.at 34 rfl) bc_6 ?_
    refine q_icmp_ge hE (tgt := 111) (dlX10_image_0.at 35 rfl) (by decide) hm (fun hc9 hm => ?_) (fun hc9 hm => ?_)
    · refine q_iconst hE (dlX10_image_1.at 22 rfl) ic_0 ?_
      refine q_istore_n hE [(0, _), (1, _)] (dlX10_image_1.at 23 rfl) rfl rfl rfl ?_
      refine q_sub hE [0, 1] rfl ?_
      exact okL_X10_image_113 hfx hE hQ  F _ _  hm
    · refine q_aload_n hE 0 (dlX10_image_0.at 36 rfl) rfl rfl ?_
      refine q_get hE (dlX10_image_0.at 37 rfl) kc10 wf_X10_163 g102 rfl rfl rfl ?_
      refine q_iload_n hE 1 (dlX10_image_0.at 38 rfl) rfl rfl ?_
      refine q_aload_n hE 0 (dlX10_image_0.at 39 rfl) rfl rfl ?_
      refine q_get hE (dlX10_image_1.at 0 rfl) kc10 wf_X10_19 g102 rfl rfl rfl ?_
      refine q_iload_n hE 1 (dlX10_image_1.at 1 rfl) rfl rfl ?_
      refine q_iald hE (dlX10_image_1.at 2 rfl) g103 rfl hm (fun hm => ?_)
      refine q_iast hE hfx (dlX10_image_1.at 3 rfl) g128 rfl u128 hm (fun hm => ?_)
      refine q_lth (X := fun z => WG V o z) hm (fun h21 hm => ?_)
      refine q_aload_n hE 0 (dlX10_image_1.at 4 rfl) rfl rfl ?_
      refine q_get hE (dlX10_image_1.at 5 rfl) kc10 wf_X10_166 g102 rfl rfl rfl ?_
      refine q_iload_n hE 1 (dlX10_image_1.at 6 rfl) rfl rfl ?_
      refine q_aload_n hE 0 (dlX10_image_1.at 7 rfl) rfl rfl ?_
      refine q_get hE (dlX10_image_1.at 8 rfl) kc10 wf_X10_23 g102 rfl rfl rfl ?_
      refine q_iload_n hE 1 (dlX10_image_1.at 9 rfl) rfl rfl ?_
      refine q_iald hE (dlX10_image_1.at 10 rfl) g104 rfl hm (fun hm => ?_)
      refine q_iast hE hfx (dlX10_image_1.at 11 rfl) g129 rfl u129 hm (fun hm => ?_)
      refine q_lth (X := fun z => WG V o z) hm (fun h22 hm => ?_)
      refine q_aload_n hE 0 (dlX10_image_1.at 12 rfl) rfl rfl ?_
      refine q_get hE (dlX10_image_1.at 13 rfl) kc10 wf_X10_169 g102 rfl rfl rfl ?_
      refine q_iload_n hE 1 (dlX10_image_1.at 14 rfl) rfl rfl ?_
      refine q_aload_n hE 0 (dlX10_image_1.at 15 rfl) rfl rfl ?_
      refine q_get hE (dlX10_image_1.at 16 rfl) kc10 wf_X10_26 g102 rfl rfl rfl ?_
      refine q_iload_n hE 1 (dlX10_image_1.at 17 rfl) rfl rfl ?_
      refine q_iald hE (dlX10_image_1.at 18 rfl) g105 rfl hm (fun hm => ?_)
      refine q_iast hE hfx (dlX10_image_1.at 19 rfl) g130 rfl u130 hm (fun hm => ?_)
      refine q_lth (X := fun z => WG V o z) hm (fun h23 hm => ?_)
      refine q_iinc hE [(0, _), (1, _)] 1 (dlX10_image_1.at 20 rfl) rfl ic_1 rfl rfl ?_
      refine q_goto hE (tgt := 63) (dlX10_image_1.at 21 rfl) (by decide) ?_
      refine q_sub hE [0, 1] rfl ?_
      exact ih _ _  hm
set_option maxRecDepth 10000 in
theorem ok_X10_image {V : Ev} {l : Launch} {o : PH} {F : Nat}  (hfx : V.2.2.2.2 = false)  {h : PH} : ∀ (v : Int32) (h' : PH), f_X10_image F  h = some (v, h') → Ctr l V yX10_image cX10_image 2 (some .int) 1 [rf V 102] 143 (WG V o h) 143 (WG V o (h')) (some (.int v)) 0 0 := by
  intro v h' hm
  refine Ctr.intro RX10 (by decide +kernel) rfl rfl rfl ?_
  intro E hE hQ _
  unfold f_X10_image at hm
  refine q_aload_n hE 0 (dlX10_image_0.at 0 rfl) rfl rfl ?_
  refine q_iconst hE (dlX10_image_0.at 1 rfl) ic_1 ?_
  refine q_put hE hfx (dlX10_image_0.at 2 rfl) kc10 wf_X10_139 g102 rfl (by decide) (by decide) rfl rfl rfl u102_42 ?_
  refine q_lth (X := fun z => WG V o z) hm (fun h1 hm => ?_)
  refine q_aload_n hE 0 (dlX10_image_0.at 3 rfl) rfl rfl ?_
  refine q_aload_n hE 0 (dlX10_image_0.at 4 rfl) rfl rfl ?_
  refine q_get hE (dlX10_image_0.at 5 rfl) kc10 wf_X10_35 g102 rfl rfl rfl ?_
  refine q_put hE hfx (dlX10_image_0.at 6 rfl) kc10 wf_X10_142 g102 rfl rfl rfl rfl rfl rfl u102_43 ?_
  refine q_lth (X := fun z => WG V o z) hm (fun h2 hm => ?_)
  refine q_aload_n hE 0 (dlX10_image_0.at 7 rfl) rfl rfl ?_
  refine q_aload_n hE 0 (dlX10_image_0.at 8 rfl) rfl rfl ?_
  refine q_get hE (dlX10_image_0.at 9 rfl) kc10 wf_X10_7 g102 rfl rfl rfl ?_
  refine q_put hE hfx (dlX10_image_0.at 10 rfl) kc10 wf_X10_145 g102 rfl rfl rfl rfl rfl rfl u102_44 ?_
  refine q_lth (X := fun z => WG V o z) hm (fun h3 hm => ?_)
  refine q_aload_n hE 0 (dlX10_image_0.at 11 rfl) rfl rfl ?_
  refine q_aload_n hE 0 (dlX10_image_0.at 12 rfl) rfl rfl ?_
  refine q_get hE (dlX10_image_0.at 13 rfl) kc10 wf_X10_13 g102 rfl rfl rfl ?_
  refine q_put hE hfx (dlX10_image_0.at 14 rfl) kc10 wf_X10_148 g102 rfl rfl rfl rfl rfl rfl u102_45 ?_
  refine q_lth (X := fun z => WG V o z) hm (fun h4 hm => ?_)
  refine q_aload_n hE 0 (dlX10_image_0.at 15 rfl) rfl rfl ?_
  refine q_aload_n hE 0 (dlX10_image_0.at 16 rfl) rfl rfl ?_
  refine q_get hE (dlX10_image_0.at 17 rfl) kc10 wf_X10_16 g102 rfl rfl rfl ?_
  refine q_put hE hfx (dlX10_image_0.at 18 rfl) kc10 wf_X10_151 g102 rfl rfl rfl rfl rfl rfl u102_46 ?_
  refine q_lth (X := fun z => WG V o z) hm (fun h5 hm => ?_)
  refine q_aload_n hE 0 (dlX10_image_0.at 19 rfl) rfl rfl ?_
  refine q_aload_n hE 0 (dlX10_image_0.at 20 rfl) rfl rfl ?_
  refine q_get hE (dlX10_image_0.at 21 rfl) kc10 wf_X10_112 g102 rfl rfl rfl ?_
  refine q_put hE hfx (dlX10_image_0.at 22 rfl) kc10 wf_X10_154 g102 rfl rfl rfl rfl rfl rfl u102_47 ?_
  refine q_lth (X := fun z => WG V o z) hm (fun h6 hm => ?_)
  refine q_aload_n hE 0 (dlX10_image_0.at 23 rfl) rfl rfl ?_
  refine q_aload_n hE 0 (dlX10_image_0.at 24 rfl) rfl rfl ?_
  refine q_get hE (dlX10_image_0.at 25 rfl) kc10 wf_X10_124 g102 rfl rfl rfl ?_
  refine q_put hE hfx (dlX10_image_0.at 26 rfl) kc10 wf_X10_157 g102 rfl rfl rfl rfl rfl rfl u102_48 ?_
  refine q_lth (X := fun z => WG V o z) hm (fun h7 hm => ?_)
  refine q_aload_n hE 0 (dlX10_image_0.at 27 rfl) rfl rfl ?_
  refine q_aload_n hE 0 (dlX10_image_0.at 28 rfl) rfl rfl ?_
  refine q_get hE (dlX10_image_0.at 29 rfl) kc10 wf_X10_127 g102 rfl rfl rfl ?_
  refine q_put hE hfx (dlX10_image_0.at 30 rfl) kc10 wf_X10_160 g102 rfl rfl rfl rfl rfl rfl u102_49 ?_
  refine q_lth (X := fun z => WG V o z) hm (fun h8 hm => ?_)
  refine q_iconst hE (dlX10_image_0.at 31 rfl) ic_0 ?_
  refine q_istore_n hE [(0, _), (1, _)] (dlX10_image_0.at 32 rfl) rfl rfl rfl ?_
  refine q_sub hE [0, 1] rfl ?_
  exact okL_X10_image_63 hfx hE hQ  F _ _  hm
set_option maxRecDepth 10000 in
theorem okL_X10_undo_219 {V : Ev} {l : Launch} {o : PH} {F : Nat}  (hfx : V.2.2.2.2 = false) {E : Cx} (hE : CX E V l cX10_undo RX10 2 1 0 0 (some .int)) {r : Int32 × PH} (hQ : RQ E V 143 (WG V o r.2) (some (.int r.1)) 0 0) : ∀ (n : Nat) (x1 : Int32) (h : PH), fL_X10_undo_219 F n x1 h = some r → PW E V 0 0 143 (WG V o h) 219 [(0, rf V 102), (1, .int x1)] [] := by
  intro n
  induction n with
  | zero => intro x1 h hm; cases hm
  | succ n ih =>
    intro x1 h hm
    rw [fL_X10_undo_219] at hm
    refine q_iload_n hE 1 (dlX10_undo_3.at 7 rfl) rfl rfl ?_
    refine q_bipush hE (dlX10_undo_3.at 8 rfl) bc_8 ?_
    refine q_icmp_ge hE (tgt := 255) (dlX10_undo_3.at 9 rfl) (by decide) hm (fun hc13 hm => ?_) (fun hc13 hm => ?_)
    · refine q_aload_n hE 0 (dlX10_undo_3.at 28 rfl) rfl rfl ?_
      refine q_get hE (dlX10_undo_3.at 29 rfl) kc10 wf_X10_7 g102 rfl rfl rfl ?_
      exact q_iret (X := fun z => WG V o z) hE (dlX10_undo_3.at 30 rfl) hm hQ rfl
    · refine q_aload_n hE 0 (dlX10_undo_3.at 10 rfl) rfl rfl ?_
      refine q_get hE (dlX10_undo_3.at 11 rfl) kc10 wf_X10_133 g102 rfl rfl rfl ?_
      refine q_iload_n hE 1 (dlX10_undo_3.at 12 rfl) rfl rfl ?_
      refine q_aload_n hE 0 (dlX10_undo_3.at 13 rfl) rfl rfl ?_
      refine q_get hE (dlX10_undo_3.at 14 rfl) kc10 wf_X10_187 g102 rfl rfl rfl ?_
      refine q_iload_n hE 1 (dlX10_undo_3.at 15 rfl) rfl rfl ?_
      refine q_iald hE (dlX10_undo_3.at 16 rfl) g136 rfl hm (fun hm => ?_)
      refine q_iast hE hfx (dlX10_undo_3.at 17 rfl) g126 rfl u126 hm (fun hm => ?_)
      refine q_lth (X := fun z => WG V o z) hm (fun h14 hm => ?_)
      refine q_aload_n hE 0 (dlX10_undo_3.at 18 rfl) rfl rfl ?_
      refine q_get hE (dlX10_undo_3.at 19 rfl) kc10 wf_X10_136 g102 rfl rfl rfl ?_
      refine q_iload_n hE 1 (dlX10_undo_3.at 20 rfl) rfl rfl ?_
      refine q_aload_n hE 0 (dlX10_undo_3.at 21 rfl) rfl rfl ?_
      refine q_get hE (dlX10_undo_3.at 22 rfl) kc10 wf_X10_190 g102 rfl rfl rfl ?_
      refine q_iload_n hE 1 (dlX10_undo_3.at 23 rfl) rfl rfl ?_
      refine q_iald hE (dlX10_undo_3.at 24 rfl) g137 rfl hm (fun hm => ?_)
      refine q_iast hE hfx (dlX10_undo_3.at 25 rfl) g127 rfl u127 hm (fun hm => ?_)
      refine q_lth (X := fun z => WG V o z) hm (fun h15 hm => ?_)
      refine q_iinc hE [(0, _), (1, _)] 1 (dlX10_undo_3.at 26 rfl) rfl ic_1 rfl rfl ?_
      refine q_goto hE (tgt := 219) (dlX10_undo_3.at 27 rfl) (by decide) ?_
      refine q_sub hE [0, 1] rfl ?_
      exact ih _ _  hm
set_option maxRecDepth 10000 in
theorem okL_X10_undo_193 {V : Ev} {l : Launch} {o : PH} {F : Nat}  (hfx : V.2.2.2.2 = false) {E : Cx} (hE : CX E V l cX10_undo RX10 2 1 0 0 (some .int)) {r : Int32 × PH} (hQ : RQ E V 143 (WG V o r.2) (some (.int r.1)) 0 0) : ∀ (n : Nat) (x1 : Int32) (h : PH), fL_X10_undo_193 F n x1 h = some r → PW E V 0 0 143 (WG V o h) 193 [(0, rf V 102), (1, .int x1)] [] := by
  intro n
  induction n with
  | zero => intro x1 h hm; cases hm
  | succ n ih =>
    intro x1 h hm
    rw [fL_X10_undo_193] at hm
    refine q_iload_n hE 1 (dlX10_undo_2.at 32 rfl) rfl rfl ?_
    refine q_bipush hE (dlX10_undo_2.at 33 rfl) bc_10 ?_
    refine q_icmp_ge hE (tgt := 217) (dlX10_undo_2.at 34 rfl) (by decide) hm (fun hc12 hm => ?_) (fun hc12 hm => ?_)
    · refine q_iconst hE (dlX10_undo_3.at 5 rfl) ic_0 ?_
      refine q_istore_n hE [(0, _), (1, _)] (dlX10_undo_3.at 6 rfl) rfl rfl rfl ?_
      refine q_sub hE [0, 1] rfl ?_
      exact okL_X10_undo_219 hfx hE hQ  F _ _  hm
    · refine q_aload_n hE 0 (dlX10_undo_2.at 35 rfl) rfl rfl ?_
      refine q_get hE (dlX10_undo_2.at 36 rfl) kc10 wf_X10_130 g102 rfl rfl rfl ?_
      refine q_iload_n hE 1 (dlX10_undo_2.at 37 rfl) rfl rfl ?_
      refine q_aload_n hE 0 (dlX10_undo_2.at 38 rfl) rfl rfl ?_
      refine q_get hE (dlX10_undo_2.at 39 rfl) kc10 wf_X10_184 g102 rfl rfl rfl ?_
      refine q_iload_n hE 1 (dlX10_undo_3.at 0 rfl) rfl rfl ?_
      refine q_iald hE (dlX10_undo_3.at 1 rfl) g135 rfl hm (fun hm => ?_)
      refine q_iast hE hfx (dlX10_undo_3.at 2 rfl) g125 rfl u125 hm (fun hm => ?_)
      refine q_lth (X := fun z => WG V o z) hm (fun h16 hm => ?_)
      refine q_iinc hE [(0, _), (1, _)] 1 (dlX10_undo_3.at 3 rfl) rfl ic_1 rfl rfl ?_
      refine q_goto hE (tgt := 193) (dlX10_undo_3.at 4 rfl) (by decide) ?_
      refine q_sub hE [0, 1] rfl ?_
      exact ih _ _  hm
set_option maxRecDepth 10000 in
theorem okL_X10_undo_144 {V : Ev} {l : Launch} {o : PH} {F : Nat}  (hfx : V.2.2.2.2 = false) {E : Cx} (hE : CX E V l cX10_undo RX10 2 1 0 0 (some .int)) {r : Int32 × PH} (hQ : RQ E V 143 (WG V o r.2) (some (.int r.1)) 0 0) : ∀ (n : Nat) (x1 : Int32) (h : PH), fL_X10_undo_144 F n x1 h = some r → PW E V 0 0 143 (WG V o h) 144 [(0, rf V 102), (1, .int x1)] [] := by
  intro n
  induction n with
  | zero => intro x1 h hm; cases hm
  | succ n ih =>
    intro x1 h hm
    rw [fL_X10_undo_144] at hm
    refine q_iload_n hE 1 (dlX10_undo_2.at 1 rfl) rfl rfl ?_
    refine q_iconst hE (dlX10_undo_2.at 2 rfl) ic_5 ?_
    refine q_icmp_ge hE (tgt := 191) (dlX10_undo_2.at 3 rfl) (by decide) hm (fun hc11 hm => ?_) (fun hc11 hm => ?_)
    · refine q_iconst hE (dlX10_undo_2.at 30 rfl) ic_0 ?_
      refine q_istore_n hE [(0, _), (1, _)] (dlX10_undo_2.at 31 rfl) rfl rfl rfl ?_
      refine q_sub hE [0, 1] rfl ?_
      exact okL_X10_undo_193 hfx hE hQ  F _ _  hm
    · refine q_aload_n hE 0 (dlX10_undo_2.at 4 rfl) rfl rfl ?_
      refine q_get hE (dlX10_undo_2.at 5 rfl) kc10 wf_X10_115 g102 rfl rfl rfl ?_
      refine q_iload_n hE 1 (dlX10_undo_2.at 6 rfl) rfl rfl ?_
      refine q_aload_n hE 0 (dlX10_undo_2.at 7 rfl) rfl rfl ?_
      refine q_get hE (dlX10_undo_2.at 8 rfl) kc10 wf_X10_175 g102 rfl rfl rfl ?_
      refine q_iload_n hE 1 (dlX10_undo_2.at 9 rfl) rfl rfl ?_
      refine q_iald hE (dlX10_undo_2.at 10 rfl) g132 rfl hm (fun hm => ?_)
      refine q_iast hE hfx (dlX10_undo_2.at 11 rfl) g122 rfl u122 hm (fun hm => ?_)
      refine q_lth (X := fun z => WG V o z) hm (fun h17 hm => ?_)
      refine q_aload_n hE 0 (dlX10_undo_2.at 12 rfl) rfl rfl ?_
      refine q_get hE (dlX10_undo_2.at 13 rfl) kc10 wf_X10_118 g102 rfl rfl rfl ?_
      refine q_iload_n hE 1 (dlX10_undo_2.at 14 rfl) rfl rfl ?_
      refine q_aload_n hE 0 (dlX10_undo_2.at 15 rfl) rfl rfl ?_
      refine q_get hE (dlX10_undo_2.at 16 rfl) kc10 wf_X10_178 g102 rfl rfl rfl ?_
      refine q_iload_n hE 1 (dlX10_undo_2.at 17 rfl) rfl rfl ?_
      refine q_iald hE (dlX10_undo_2.at 18 rfl) g133 rfl hm (fun hm => ?_)
      refine q_iast hE hfx (dlX10_undo_2.at 19 rfl) g123 rfl u123 hm (fun hm => ?_)
      refine q_lth (X := fun z => WG V o z) hm (fun h18 hm => ?_)
      refine q_aload_n hE 0 (dlX10_undo_2.at 20 rfl) rfl rfl ?_
      refine q_get hE (dlX10_undo_2.at 21 rfl) kc10 wf_X10_121 g102 rfl rfl rfl ?_
      refine q_iload_n hE 1 (dlX10_undo_2.at 22 rfl) rfl rfl ?_
      refine q_aload_n hE 0 (dlX10_undo_2.at 23 rfl) rfl rfl ?_
      refine q_get hE (dlX10_undo_2.at 24 rfl) kc10 wf_X10_181 g102 rfl rfl rfl ?_
      refine q_iload_n hE 1 (dlX10_undo_2.at 25 rfl) rfl rfl ?_
      refine q_iald hE (dlX10_undo_2.at 26 rfl) g134 rfl hm (fun hm => ?_)
      refine q_iast hE hfx (dlX10_undo_2.at 27 rfl) g124 rfl u124 hm (fun hm => ?_)
      refine q_lth (X := fun z => WG V o z) hm (fun h19 hm => ?_)
      refine q_iinc hE [(0, _), (1, _)] 1 (dlX10_undo_2.at 28 rfl) rfl ic_1 rfl rfl ?_
      refine q_goto hE (tgt := 144) (dlX10_undo_2.at 29 rfl) (by decide) ?_
      refine q_sub hE [0, 1] rfl ?_
      exact ih _ _  hm
set_option maxRecDepth 10000 in
theorem okL_X10_undo_118 {V : Ev} {l : Launch} {o : PH} {F : Nat}  (hfx : V.2.2.2.2 = false) {E : Cx} (hE : CX E V l cX10_undo RX10 2 1 0 0 (some .int)) {r : Int32 × PH} (hQ : RQ E V 143 (WG V o r.2) (some (.int r.1)) 0 0) : ∀ (n : Nat) (x1 : Int32) (h : PH), fL_X10_undo_118 F n x1 h = some r → PW E V 0 0 143 (WG V o h) 118 [(0, rf V 102), (1, .int x1)] [] := by
  intro n
  induction n with
  | zero => intro x1 h hm; cases hm
  | succ n ih =>
    intro x1 h hm
    rw [fL_X10_undo_118] at hm
    refine q_iload_n hE 1 (dlX10_undo_1.at 26 rfl) rfl rfl ?_
    refine q_bipush hE (dlX10_undo_1.at 27 rfl) bc_24 ?_
    refine q_icmp_ge hE (tgt := 142) (dlX10_undo_1.at 28 rfl) (by decide) hm (fun hc10 hm => ?_) (fun hc10 hm => ?_)
    · refine q_iconst hE (dlX10_undo_1.at 39 rfl) ic_0 ?_
      refine q_istore_n hE [(0, _), (1, _)] (dlX10_undo_2.at 0 rfl) rfl rfl rfl ?_
      refine q_sub hE [0, 1] rfl ?_
      exact okL_X10_undo_144 hfx hE hQ  F _ _  hm
    · refine q_aload_n hE 0 (dlX10_undo_1.at 29 rfl) rfl rfl ?_
      refine q_get hE (dlX10_undo_1.at 30 rfl) kc10 wf_X10_29 g102 rfl rfl rfl ?_
      refine q_iload_n hE 1 (dlX10_undo_1.at 31 rfl) rfl rfl ?_
      refine q_aload_n hE 0 (dlX10_undo_1.at 32 rfl) rfl rfl ?_
      refine q_get hE (dlX10_undo_1.at 33 rfl) kc10 wf_X10_172 g102 rfl rfl rfl ?_
      refine q_iload_n hE 1 (dlX10_undo_1.at 34 rfl) rfl rfl ?_
      refine q_iald hE (dlX10_undo_1.at 35 rfl) g131 rfl hm (fun hm => ?_)
      refine q_iast hE hfx (dlX10_undo_1.at 36 rfl) g106 rfl u106 hm (fun hm => ?_)
      refine q_lth (X := fun z => WG V o z) hm (fun h20 hm => ?_)
      refine q_iinc hE [(0, _), (1, _)] 1 (dlX10_undo_1.at 37 rfl) rfl ic_1 rfl rfl ?_
      refine q_goto hE (tgt := 118) (dlX10_undo_1.at 38 rfl) (by decide) ?_
      refine q_sub hE [0, 1] rfl ?_
      exact ih _ _  hm
set_option maxRecDepth 10000 in
theorem okL_X10_undo_68 {V : Ev} {l : Launch} {o : PH} {F : Nat}  (hfx : V.2.2.2.2 = false) {E : Cx} (hE : CX E V l cX10_undo RX10 2 1 0 0 (some .int)) {r : Int32 × PH} (hQ : RQ E V 143 (WG V o r.2) (some (.int r.1)) 0 0) : ∀ (n : Nat) (x1 : Int32) (h : PH), fL_X10_undo_68 F n x1 h = some r → PW E V 0 0 143 (WG V o h) 68 [(0, rf V 102), (1, .int x1)] [] := by
  intro n
  induction n with
  | zero => intro x1 h hm; cases hm
  | succ n ih =>
    intro x1 h hm
    rw [fL_X10_undo_68] at hm
    refine q_iload_n hE 1 (dlX10_undo_0.at 35 rfl) rfl rfl ?_
    refine q_bipush hE (dlX10_undo_0.at 36 rfl) bc_6 ?_
    refine q_icmp_ge hE (tgt := 116) (dlX10_undo_0.at 37 rfl) (by decide) hm (fun hc9 hm => ?_) (fun hc9 hm => ?_)
    · refine q_iconst hE (dlX10_undo_1.at 24 rfl) ic_0 ?_
      refine q_istore_n hE [(0, _), (1, _)] (dlX10_undo_1.at 25 rfl) rfl rfl rfl ?_
      refine q_sub hE [0, 1] rfl ?_
      exact okL_X10_undo_118 hfx hE hQ  F _ _  hm
    · refine q_aload_n hE 0 (dlX10_undo_0.at 38 rfl) rfl rfl ?_
      refine q_get hE (dlX10_undo_0.at 39 rfl) kc10 wf_X10_19 g102 rfl rfl rfl ?_
      refine q_iload_n hE 1 (dlX10_undo_1.at 0 rfl) rfl rfl ?_
      refine q_aload_n hE 0 (dlX10_undo_1.at 1 rfl) rfl rfl ?_
      refine q_get hE (dlX10_undo_1.at 2 rfl) kc10 wf_X10_163 g102 rfl rfl rfl ?_
      refine q_iload_n hE 1 (dlX10_undo_1.at 3 rfl) rfl rfl ?_
      refine q_iald hE (dlX10_undo_1.at 4 rfl) g128 rfl hm (fun hm => ?_)
      refine q_iast hE hfx (dlX10_undo_1.at 5 rfl) g103 rfl u103 hm (fun hm => ?_)
      refine q_lth (X := fun z => WG V o z) hm (fun h21 hm => ?_)
      refine q_aload_n hE 0 (dlX10_undo_1.at 6 rfl) rfl rfl ?_
      refine q_get hE (dlX10_undo_1.at 7 rfl) kc10 wf_X10_23 g102 rfl rfl rfl ?_
      refine q_iload_n hE 1 (dlX10_undo_1.at 8 rfl) rfl rfl ?_
      refine q_aload_n hE 0 (dlX10_undo_1.at 9 rfl) rfl rfl ?_
      refine q_get hE (dlX10_undo_1.at 10 rfl) kc10 wf_X10_166 g102 rfl rfl rfl ?_
      refine q_iload_n hE 1 (dlX10_undo_1.at 11 rfl) rfl rfl ?_
      refine q_iald hE (dlX10_undo_1.at 12 rfl) g129 rfl hm (fun hm => ?_)
      refine q_iast hE hfx (dlX10_undo_1.at 13 rfl) g104 rfl u104 hm (fun hm => ?_)
      refine q_lth (X := fun z => WG V o z) hm (fun h22 hm => ?_)
      refine q_aload_n hE 0 (dlX10_undo_1.at 14 rfl) rfl rfl ?_
      refine q_get hE (dlX10_undo_1.at 15 rfl) kc10 wf_X10_26 g102 rfl rfl rfl ?_
      refine q_iload_n hE 1 (dlX10_undo_1.at 16 rfl) rfl rfl ?_
      refine q_aload_n hE 0 (dlX10_undo_1.at 17 rfl) rfl rfl ?_
      refine q_get hE (dlX10_undo_1.at 18 rfl) kc10 wf_X10_169 g102 rfl rfl rfl ?_
      refine q_iload_n hE 1 (dlX10_undo_1.at 19 rfl) rfl rfl ?_
      refine q_iald hE (dlX10_undo_1.at 20 rfl) g130 rfl hm (fun hm => ?_)
      refine q_iast hE hfx (dlX10_undo_1.at 21 rfl) g105 rfl u105 hm (fun hm => ?_)
      refine q_lth (X := fun z => WG V o z) hm (fun h23 hm => ?_)
      refine q_iinc hE [(0, _), (1, _)] 1 (dlX10_undo_1.at 22 rfl) rfl ic_1 rfl rfl ?_
      refine q_goto hE (tgt := 68) (dlX10_undo_1.at 23 rfl) (by decide) ?_
      refine q_sub hE [0, 1] rfl ?_
      exact ih _ _  hm
set_option maxRecDepth 10000 in
theorem ok_X10_undo {V : Ev} {l : Launch} {o : PH} {F : Nat}  (hfx : V.2.2.2.2 = false)  {h : PH} : ∀ (v : Int32) (h' : PH), f_X10_undo F  h = some (v, h') → Ctr l V yX10_undo cX10_undo 2 (some .int) 1 [rf V 102] 143 (WG V o h) 143 (WG V o (h')) (some (.int v)) 0 0 := by
  intro v h' hm
  refine Ctr.intro RX10 (by decide +kernel) rfl rfl rfl ?_
  intro E hE hQ _
  unfold f_X10_undo at hm
  refine q_aload_n hE 0 (dlX10_undo_0.at 0 rfl) rfl rfl ?_
  refine q_get hE (dlX10_undo_0.at 1 rfl) kc10 wf_X10_139 g102 rfl rfl rfl ?_
  refine q_if_ne hE (tgt := 10) (dlX10_undo_0.at 2 rfl) (by decide) hm (fun hc1 hm => ?_) (fun hc1 hm => ?_)
  · refine q_bipush hE (dlX10_undo_0.at 3 rfl) bc_m3 ?_
    exact q_iret (X := fun z => WG V o z) hE (dlX10_undo_0.at 4 rfl) hm hQ rfl
  · refine q_aload_n hE 0 (dlX10_undo_0.at 5 rfl) rfl rfl ?_
    refine q_aload_n hE 0 (dlX10_undo_0.at 6 rfl) rfl rfl ?_
    refine q_get hE (dlX10_undo_0.at 7 rfl) kc10 wf_X10_142 g102 rfl rfl rfl ?_
    refine q_put hE hfx (dlX10_undo_0.at 8 rfl) kc10 wf_X10_35 g102 rfl rfl rfl rfl rfl rfl u102_8 ?_
    refine q_lth (X := fun z => WG V o z) hm (fun h2 hm => ?_)
    refine q_aload_n hE 0 (dlX10_undo_0.at 9 rfl) rfl rfl ?_
    refine q_aload_n hE 0 (dlX10_undo_0.at 10 rfl) rfl rfl ?_
    refine q_get hE (dlX10_undo_0.at 11 rfl) kc10 wf_X10_145 g102 rfl rfl rfl ?_
    refine q_put hE hfx (dlX10_undo_0.at 12 rfl) kc10 wf_X10_7 g102 rfl rfl rfl rfl rfl rfl u102_0 ?_
    refine q_lth (X := fun z => WG V o z) hm (fun h3 hm => ?_)
    refine q_aload_n hE 0 (dlX10_undo_0.at 13 rfl) rfl rfl ?_
    refine q_aload_n hE 0 (dlX10_undo_0.at 14 rfl) rfl rfl ?_
    refine q_get hE (dlX10_undo_0.at 15 rfl) kc10 wf_X10_148 g102 rfl rfl rfl ?_
    refine q_put hE hfx (dlX10_undo_0.at 16 rfl) kc10 wf_X10_13 g102 rfl rfl rfl rfl rfl rfl u102_1 ?_
    refine q_lth (X := fun z => WG V o z) hm (fun h4 hm => ?_)
    refine q_aload_n hE 0 (dlX10_undo_0.at 17 rfl) rfl rfl ?_
    refine q_aload_n hE 0 (dlX10_undo_0.at 18 rfl) rfl rfl ?_
    refine q_get hE (dlX10_undo_0.at 19 rfl) kc10 wf_X10_151 g102 rfl rfl rfl ?_
    refine q_put hE hfx (dlX10_undo_0.at 20 rfl) kc10 wf_X10_16 g102 rfl rfl rfl rfl rfl rfl u102_2 ?_
    refine q_lth (X := fun z => WG V o z) hm (fun h5 hm => ?_)
    refine q_aload_n hE 0 (dlX10_undo_0.at 21 rfl) rfl rfl ?_
    refine q_aload_n hE 0 (dlX10_undo_0.at 22 rfl) rfl rfl ?_
    refine q_get hE (dlX10_undo_0.at 23 rfl) kc10 wf_X10_154 g102 rfl rfl rfl ?_
    refine q_put hE hfx (dlX10_undo_0.at 24 rfl) kc10 wf_X10_112 g102 rfl rfl rfl rfl rfl rfl u102_33 ?_
    refine q_lth (X := fun z => WG V o z) hm (fun h6 hm => ?_)
    refine q_aload_n hE 0 (dlX10_undo_0.at 25 rfl) rfl rfl ?_
    refine q_aload_n hE 0 (dlX10_undo_0.at 26 rfl) rfl rfl ?_
    refine q_get hE (dlX10_undo_0.at 27 rfl) kc10 wf_X10_157 g102 rfl rfl rfl ?_
    refine q_put hE hfx (dlX10_undo_0.at 28 rfl) kc10 wf_X10_124 g102 rfl rfl rfl rfl rfl rfl u102_37 ?_
    refine q_lth (X := fun z => WG V o z) hm (fun h7 hm => ?_)
    refine q_aload_n hE 0 (dlX10_undo_0.at 29 rfl) rfl rfl ?_
    refine q_aload_n hE 0 (dlX10_undo_0.at 30 rfl) rfl rfl ?_
    refine q_get hE (dlX10_undo_0.at 31 rfl) kc10 wf_X10_160 g102 rfl rfl rfl ?_
    refine q_put hE hfx (dlX10_undo_0.at 32 rfl) kc10 wf_X10_127 g102 rfl rfl rfl rfl rfl rfl u102_38 ?_
    refine q_lth (X := fun z => WG V o z) hm (fun h8 hm => ?_)
    refine q_iconst hE (dlX10_undo_0.at 33 rfl) ic_0 ?_
    refine q_istore_n hE [(0, _), (1, _)] (dlX10_undo_0.at 34 rfl) rfl rfl rfl ?_
    refine q_sub hE [0, 1] rfl ?_
    exact okL_X10_undo_68 hfx hE hQ  F _ _  hm
set_option maxRecDepth 10000 in
theorem ok_X10_body {V : Ev} {l : Launch} {o : PH} {F : Nat}  (hfx : V.2.2.2.2 = false) {a1 : Int32} {h : PH} : ∀ (v : Unit) (h' : PH), f_X10_body F a1 h = some (v, h') → Ctr l V yX10_body cX10_body 2 none 1 [rf V 102, .int a1] 143 (WG V o h) 143 (WG V o (h')) (none) 0 0 := by
  intro v h' hm
  refine Ctr.intro RX10 (by decide +kernel) rfl rfl rfl ?_
  intro E hE hQ _
  unfold f_X10_body at hm
  refine q_aload_n hE 0 (dlX10_body_0.at 0 rfl) rfl rfl ?_
  refine q_get hE (dlX10_body_0.at 1 rfl) kc10 wf_X10_193 g102 rfl rfl rfl ?_
  refine q_bipush hE (dlX10_body_0.at 2 rfl) bc_20 ?_
  refine q_icmp_ge hE (tgt := 19) (dlX10_body_0.at 3 rfl) (by decide) hm (fun hc1 hm => ?_) (fun hc1 hm => ?_)
  · refine q_aload_n hE 0 (dlX10_body_0.at 10 rfl) rfl rfl ?_
    refine q_dup hE (dlX10_body_0.at 11 rfl) rfl ?_
    refine q_get hE (dlX10_body_0.at 12 rfl) kc10 wf_X10_193 g102 rfl rfl rfl ?_
    refine q_iconst hE (dlX10_body_0.at 13 rfl) ic_1 ?_
    refine q_iadd hE (dlX10_body_0.at 14 rfl) ?_
    refine q_put hE hfx (dlX10_body_0.at 15 rfl) kc10 wf_X10_193 g102 rfl rfl rfl rfl rfl rfl u102_60 ?_
    refine q_lth (X := fun z => WG V o z) hm (fun h2 hm => ?_)
    exact q_vret (X := fun z => WG V o z) hE (dlX10_body_0.at 16 rfl) hm hQ rfl
  · refine q_aload_n hE 0 (dlX10_body_0.at 4 rfl) rfl rfl ?_
    refine q_get hE (dlX10_body_0.at 5 rfl) kc10 wf_X10_196 g102 rfl rfl rfl ?_
    refine q_aload_n hE 0 (dlX10_body_0.at 6 rfl) rfl rfl ?_
    refine q_get hE (dlX10_body_0.at 7 rfl) kc10 wf_X10_193 g102 rfl rfl rfl ?_
    refine q_iload_n hE 1 (dlX10_body_0.at 8 rfl) rfl rfl ?_
    refine q_iast hE hfx (dlX10_body_0.at 9 rfl) g138 rfl u138 hm (fun hm => ?_)
    refine q_lth (X := fun z => WG V o z) hm (fun h3 hm => ?_)
    refine q_aload_n hE 0 (dlX10_body_0.at 10 rfl) rfl rfl ?_
    refine q_dup hE (dlX10_body_0.at 11 rfl) rfl ?_
    refine q_get hE (dlX10_body_0.at 12 rfl) kc10 wf_X10_193 g102 rfl rfl rfl ?_
    refine q_iconst hE (dlX10_body_0.at 13 rfl) ic_1 ?_
    refine q_iadd hE (dlX10_body_0.at 14 rfl) ?_
    refine q_put hE hfx (dlX10_body_0.at 15 rfl) kc10 wf_X10_193 g102 rfl rfl rfl rfl rfl rfl u102_60 ?_
    refine q_lth (X := fun z => WG V o z) hm (fun h4 hm => ?_)
    exact q_vret (X := fun z => WG V o z) hE (dlX10_body_0.at 16 rfl) hm hQ rfl
set_option maxRecDepth 10000 in
theorem ok_X10_clockTicks {V : Ev} {l : Launch} {o : PH} {F : Nat}  (hfx : V.2.2.2.2 = false) {a1 : Int32} {a2 : Int32} {h : PH} : ∀ (v : Int32) (h' : PH), f_X10_clockTicks F a1 a2 h = some (v, h') → Ctr l V yX10_clockTicks cX10_clockTicks 3 (some .int) 2 [rf V 102, .int a1, .int a2] 143 (WG V o h) 143 (WG V o (h')) (some (.int v)) 0 0 := by
  intro v h' hm
  refine Ctr.intro RX10 (by decide +kernel) rfl rfl rfl ?_
  intro E hE hQ _
  unfold f_X10_clockTicks at hm
  refine q_aload_n hE 0 (dlX10_clockTicks_0.at 0 rfl) rfl rfl ?_
  refine q_bipush hE (dlX10_clockTicks_0.at 1 rfl) bc_10 ?_
  refine q_callV_v (X := fun z => WG V o z) hE (As := [_]) (dlX10_clockTicks_0.at 2 rfl) mw_X10_body wm_X10_369 rfl rfl rfl rfl (Nat.zero_le _) (Nat.zero_le _) rfl kc10 g102 rfl (ok_X10_body hfx) hm (fun v1 h1 hm => ?_)
  refine q_iload_n hE 2 (dlX10_clockTicks_0.at 3 rfl) rfl rfl ?_
  refine q_iload_n hE 1 (dlX10_clockTicks_0.at 4 rfl) rfl rfl ?_
  refine q_iadd hE (dlX10_clockTicks_0.at 5 rfl) ?_
  exact q_iret (X := fun z => WG V o z) hE (dlX10_clockTicks_0.at 6 rfl) hm hQ rfl
set_option maxRecDepth 10000 in
theorem ok_X10_ticksAct {V : Ev} {l : Launch} {o : PH} {F : Nat}  (hfx : V.2.2.2.2 = false) {a1 : Int32} {a2 : Int32} {h : PH} : ∀ (v : Int32) (h' : PH), f_X10_ticksAct F a1 a2 h = some (v, h') → Ctr l V yX10_ticksAct cX10_ticksAct 3 (some .int) 3 [rf V 102, .int a1, .int a2] 143 (WG V o h) 143 (WG V o (h')) (some (.int v)) 0 0 := by
  intro v h' hm
  refine Ctr.intro RX10 (by decide +kernel) rfl rfl rfl ?_
  intro E hE hQ _
  unfold f_X10_ticksAct at hm
  refine q_aload_n hE 0 (dlX10_ticksAct_0.at 0 rfl) rfl rfl ?_
  refine q_get hE (dlX10_ticksAct_0.at 1 rfl) kc10 wf_X10_19 g102 rfl rfl rfl ?_
  refine q_iload_n hE 1 (dlX10_ticksAct_0.at 2 rfl) rfl rfl ?_
  refine q_iald hE (dlX10_ticksAct_0.at 3 rfl) g103 rfl hm (fun hm => ?_)
  refine q_tcase hE (dlX10_ticksAct_0.at 4 rfl) (2 : Int32) 40 (by decide) hm (fun _ hm => ?_) (fun hn1_2 hm => ?_)
  · refine q_aload_n hE 0 (dlX10_ticksAct_0.at 5 rfl) rfl rfl ?_
    refine q_bipush hE (dlX10_ticksAct_0.at 6 rfl) bc_30 ?_
    refine q_callV_v (X := fun z => WG V o z) hE (As := [_]) (dlX10_ticksAct_0.at 7 rfl) mw_X10_body wm_X10_369 rfl rfl rfl rfl (Nat.zero_le _) (Nat.zero_le _) rfl kc10 g102 rfl (ok_X10_body hfx) hm (fun v2 h2 hm => ?_)
    refine q_aload_n hE 0 (dlX10_ticksAct_0.at 8 rfl) rfl rfl ?_
    refine q_iload_n hE 1 (dlX10_ticksAct_0.at 9 rfl) rfl rfl ?_
    refine q_iload_n hE 2 (dlX10_ticksAct_0.at 10 rfl) rfl rfl ?_
    refine q_iconst hE (dlX10_ticksAct_0.at 11 rfl) ic_3 ?_
    refine q_imul hE (dlX10_ticksAct_0.at 12 rfl) ?_
    refine q_callV_i (X := fun z => WG V o z) hE (As := [_, _]) (dlX10_ticksAct_0.at 13 rfl) mw_X10_clockTicks wm_X10_372 rfl rfl rfl rfl (Nat.zero_le _) (Nat.zero_le _) rfl kc10 g102 rfl (ok_X10_clockTicks hfx) hm (fun v3 h3 hm => ?_)
    exact q_iret (X := fun z => WG V o z) hE (dlX10_ticksAct_0.at 14 rfl) hm hQ rfl
  · refine q_tcase hE (dlX10_ticksAct_0.at 4 rfl) (3 : Int32) 89 (by decide) hm (fun _ hm => ?_) (fun hn1_3 hm => ?_)
    · refine q_aload_n hE 0 (dlX10_ticksAct_0.at 37 rfl) rfl rfl ?_
      refine q_iload_n hE 1 (dlX10_ticksAct_0.at 38 rfl) rfl rfl ?_
      refine q_iload_n hE 2 (dlX10_ticksAct_0.at 39 rfl) rfl rfl ?_
      refine q_callV_i (X := fun z => WG V o z) hE (As := [_, _]) (dlX10_ticksAct_1.at 0 rfl) mw_X10_clockTicks wm_X10_372 rfl rfl rfl rfl (Nat.zero_le _) (Nat.zero_le _) rfl kc10 g102 rfl (ok_X10_clockTicks hfx) hm (fun v4 h4 hm => ?_)
      exact q_iret (X := fun z => WG V o z) hE (dlX10_ticksAct_1.at 1 rfl) hm hQ rfl
    · refine q_tcase hE (dlX10_ticksAct_0.at 4 rfl) (4 : Int32) 55 (by decide) hm (fun _ hm => ?_) (fun hn1_4 hm => ?_)
      · refine q_aload_n hE 0 (dlX10_ticksAct_0.at 15 rfl) rfl rfl ?_
        refine q_bipush hE (dlX10_ticksAct_0.at 16 rfl) bc_50 ?_
        refine q_callV_v (X := fun z => WG V o z) hE (As := [_]) (dlX10_ticksAct_0.at 17 rfl) mw_X10_body wm_X10_369 rfl rfl rfl rfl (Nat.zero_le _) (Nat.zero_le _) rfl kc10 g102 rfl (ok_X10_body hfx) hm (fun v5 h5 hm => ?_)
        refine q_aload_n hE 0 (dlX10_ticksAct_0.at 18 rfl) rfl rfl ?_
        refine q_iload_n hE 1 (dlX10_ticksAct_0.at 19 rfl) rfl rfl ?_
        refine q_iload_n hE 2 (dlX10_ticksAct_0.at 20 rfl) rfl rfl ?_
        refine q_callV_i (X := fun z => WG V o z) hE (As := [_, _]) (dlX10_ticksAct_0.at 21 rfl) mw_X10_clockTicks wm_X10_372 rfl rfl rfl rfl (Nat.zero_le _) (Nat.zero_le _) rfl kc10 g102 rfl (ok_X10_clockTicks hfx) hm (fun v6 h6 hm => ?_)
        refine q_ineg hE (dlX10_ticksAct_0.at 22 rfl) ?_
        exact q_iret (X := fun z => WG V o z) hE (dlX10_ticksAct_0.at 23 rfl) hm hQ rfl
      · refine q_tcase hE (dlX10_ticksAct_0.at 4 rfl) (5 : Int32) 40 (by decide) hm (fun _ hm => ?_) (fun hn1_5 hm => ?_)
        · refine q_aload_n hE 0 (dlX10_ticksAct_0.at 5 rfl) rfl rfl ?_
          refine q_bipush hE (dlX10_ticksAct_0.at 6 rfl) bc_30 ?_
          refine q_callV_v (X := fun z => WG V o z) hE (As := [_]) (dlX10_ticksAct_0.at 7 rfl) mw_X10_body wm_X10_369 rfl rfl rfl rfl (Nat.zero_le _) (Nat.zero_le _) rfl kc10 g102 rfl (ok_X10_body hfx) hm (fun v7 h7 hm => ?_)
          refine q_aload_n hE 0 (dlX10_ticksAct_0.at 8 rfl) rfl rfl ?_
          refine q_iload_n hE 1 (dlX10_ticksAct_0.at 9 rfl) rfl rfl ?_
          refine q_iload_n hE 2 (dlX10_ticksAct_0.at 10 rfl) rfl rfl ?_
          refine q_iconst hE (dlX10_ticksAct_0.at 11 rfl) ic_3 ?_
          refine q_imul hE (dlX10_ticksAct_0.at 12 rfl) ?_
          refine q_callV_i (X := fun z => WG V o z) hE (As := [_, _]) (dlX10_ticksAct_0.at 13 rfl) mw_X10_clockTicks wm_X10_372 rfl rfl rfl rfl (Nat.zero_le _) (Nat.zero_le _) rfl kc10 g102 rfl (ok_X10_clockTicks hfx) hm (fun v8 h8 hm => ?_)
          exact q_iret (X := fun z => WG V o z) hE (dlX10_ticksAct_0.at 14 rfl) hm hQ rfl
        · refine q_tcase hE (dlX10_ticksAct_0.at 4 rfl) (6 : Int32) 69 (by decide) hm (fun _ hm => ?_) (fun hn1_6 hm => ?_)
          · refine q_aload_n hE 0 (dlX10_ticksAct_0.at 24 rfl) rfl rfl ?_
            refine q_bipush hE (dlX10_ticksAct_0.at 25 rfl) bc_71 ?_
            refine q_callV_v (X := fun z => WG V o z) hE (As := [_]) (dlX10_ticksAct_0.at 26 rfl) mw_X10_body wm_X10_369 rfl rfl rfl rfl (Nat.zero_le _) (Nat.zero_le _) rfl kc10 g102 rfl (ok_X10_body hfx) hm (fun v9 h9 hm => ?_)
            refine q_aload_n hE 0 (dlX10_ticksAct_0.at 27 rfl) rfl rfl ?_
            refine q_iload_n hE 1 (dlX10_ticksAct_0.at 28 rfl) rfl rfl ?_
            refine q_iload_n hE 2 (dlX10_ticksAct_0.at 29 rfl) rfl rfl ?_
            refine q_callV_i (X := fun z => WG V o z) hE (As := [_, _]) (dlX10_ticksAct_0.at 30 rfl) mw_X10_clockTicks wm_X10_372 rfl rfl rfl rfl (Nat.zero_le _) (Nat.zero_le _) rfl kc10 g102 rfl (ok_X10_clockTicks hfx) hm (fun v10 h10 hm => ?_)
            refine q_aload_n hE 0 (dlX10_ticksAct_0.at 31 rfl) rfl rfl ?_
            refine q_get hE (dlX10_ticksAct_0.at 32 rfl) kc10 wf_X10_23 g102 rfl rfl rfl ?_
            refine q_iload_n hE 1 (dlX10_ticksAct_0.at 33 rfl) rfl rfl ?_
            refine q_iald hE (dlX10_ticksAct_0.at 34 rfl) g104 rfl hm (fun hm => ?_)
            refine q_ixor hE (dlX10_ticksAct_0.at 35 rfl) ?_
            exact q_iret (X := fun z => WG V o z) hE (dlX10_ticksAct_0.at 36 rfl) hm hQ rfl
          · refine q_tdef hE (tgt := 89) (dlX10_ticksAct_0.at 4 rfl) (by have := lv_neT (a := 2) hn1_2 (by decide); have := lv_neT (a := 3) hn1_3 (by decide); have := lv_neT (a := 4) hn1_4 (by decide); have := lv_neT (a := 5) hn1_5 (by decide); have := lv_neT (a := 6) hn1_6 (by decide); omega) (by decide) ?_
            refine q_aload_n hE 0 (dlX10_ticksAct_0.at 37 rfl) rfl rfl ?_
            refine q_iload_n hE 1 (dlX10_ticksAct_0.at 38 rfl) rfl rfl ?_
            refine q_iload_n hE 2 (dlX10_ticksAct_0.at 39 rfl) rfl rfl ?_
            refine q_callV_i (X := fun z => WG V o z) hE (As := [_, _]) (dlX10_ticksAct_1.at 0 rfl) mw_X10_clockTicks wm_X10_372 rfl rfl rfl rfl (Nat.zero_le _) (Nat.zero_le _) rfl kc10 g102 rfl (ok_X10_clockTicks hfx) hm (fun v11 h11 hm => ?_)
            exact q_iret (X := fun z => WG V o z) hE (dlX10_ticksAct_1.at 1 rfl) hm hQ rfl
set_option maxRecDepth 10000 in
theorem ok_X10_clockStrikes {V : Ev} {l : Launch} {o : PH} {F : Nat}  (hfx : V.2.2.2.2 = false) {a1 : Int32} {a2 : Int32} {h : PH} : ∀ (v : Int32) (h' : PH), f_X10_clockStrikes F a1 a2 h = some (v, h') → Ctr l V yX10_clockStrikes cX10_clockStrikes 3 (some .int) 4 [rf V 102, .int a1, .int a2] 143 (WG V o h) 143 (WG V o (h')) (some (.int v)) 0 0 := by
  intro v h' hm
  refine Ctr.intro RX10 (by decide +kernel) rfl rfl rfl ?_
  intro E hE hQ _
  unfold f_X10_clockStrikes at hm
  refine q_aload_n hE 0 (dlX10_clockStrikes_0.at 0 rfl) rfl rfl ?_
  refine q_bipush hE (dlX10_clockStrikes_0.at 1 rfl) bc_11 ?_
  refine q_callV_v (X := fun z => WG V o z) hE (As := [_]) (dlX10_clockStrikes_0.at 2 rfl) mw_X10_body wm_X10_369 rfl rfl rfl rfl (Nat.zero_le _) (Nat.zero_le _) rfl kc10 g102 rfl (ok_X10_body hfx) hm (fun v1 h1 hm => ?_)
  refine q_aload_n hE 0 (dlX10_clockStrikes_0.at 3 rfl) rfl rfl ?_
  refine q_iload_n hE 1 (dlX10_clockStrikes_0.at 4 rfl) rfl rfl ?_
  refine q_iload_n hE 2 (dlX10_clockStrikes_0.at 5 rfl) rfl rfl ?_
  refine q_callV_i (X := fun z => WG V o z) hE (As := [_, _]) (dlX10_clockStrikes_0.at 6 rfl) mw_X10_ticksAct wm_X10_375 rfl rfl rfl rfl (Nat.zero_le _) (Nat.zero_le _) rfl kc10 g102 rfl (ok_X10_ticksAct hfx) hm (fun v2 h2 hm => ?_)
  refine q_aload_n hE 0 (dlX10_clockStrikes_0.at 7 rfl) rfl rfl ?_
  refine q_get hE (dlX10_clockStrikes_0.at 8 rfl) kc10 wf_X10_23 g102 rfl rfl rfl ?_
  refine q_iload_n hE 1 (dlX10_clockStrikes_0.at 9 rfl) rfl rfl ?_
  refine q_iald hE (dlX10_clockStrikes_0.at 10 rfl) g104 rfl hm (fun hm => ?_)
  refine q_isub hE (dlX10_clockStrikes_0.at 11 rfl) ?_
  exact q_iret (X := fun z => WG V o z) hE (dlX10_clockStrikes_0.at 12 rfl) hm hQ rfl
set_option maxRecDepth 10000 in
theorem ok_X10_fastStrikes {V : Ev} {l : Launch} {o : PH} {F : Nat}  (hfx : V.2.2.2.2 = false) {a1 : Int32} {a2 : Int32} {h : PH} : ∀ (v : Int32) (h' : PH), f_X10_fastStrikes F a1 a2 h = some (v, h') → Ctr l V yX10_fastStrikes cX10_fastStrikes 3 (some .int) 5 [rf V 102, .int a1, .int a2] 143 (WG V o h) 143 (WG V o (h')) (some (.int v)) 0 0 := by
  intro v h' hm
  refine Ctr.intro RX10 (by decide +kernel) rfl rfl rfl ?_
  intro E hE hQ _
  unfold f_X10_fastStrikes at hm
  refine q_aload_n hE 0 (dlX10_fastStrikes_0.at 0 rfl) rfl rfl ?_
  refine q_bipush hE (dlX10_fastStrikes_0.at 1 rfl) bc_20 ?_
  refine q_callV_v (X := fun z => WG V o z) hE (As := [_]) (dlX10_fastStrikes_0.at 2 rfl) mw_X10_body wm_X10_369 rfl rfl rfl rfl (Nat.zero_le _) (Nat.zero_le _) rfl kc10 g102 rfl (ok_X10_body hfx) hm (fun v1 h1 hm => ?_)
  refine q_aload_n hE 0 (dlX10_fastStrikes_0.at 3 rfl) rfl rfl ?_
  refine q_iload_n hE 1 (dlX10_fastStrikes_0.at 4 rfl) rfl rfl ?_
  refine q_iload_n hE 2 (dlX10_fastStrikes_0.at 5 rfl) rfl rfl ?_
  refine q_callV_i (X := fun z => WG V o z) hE (As := [_, _]) (dlX10_fastStrikes_0.at 6 rfl) mw_X10_clockStrikes wm_X10_378 rfl rfl rfl rfl (Nat.zero_le _) (Nat.zero_le _) rfl kc10 g102 rfl (ok_X10_clockStrikes hfx) hm (fun v2 h2 hm => ?_)
  refine q_bipush hE (dlX10_fastStrikes_0.at 7 rfl) bc_6 ?_
  refine q_ixor hE (dlX10_fastStrikes_0.at 8 rfl) ?_
  exact q_iret (X := fun z => WG V o z) hE (dlX10_fastStrikes_0.at 9 rfl) hm hQ rfl
set_option maxRecDepth 10000 in
theorem ok_X10_strikesAct {V : Ev} {l : Launch} {o : PH} {F : Nat}  (hfx : V.2.2.2.2 = false) {a1 : Int32} {a2 : Int32} {h : PH} : ∀ (v : Int32) (h' : PH), f_X10_strikesAct F a1 a2 h = some (v, h') → Ctr l V yX10_strikesAct cX10_strikesAct 4 (some .int) 6 [rf V 102, .int a1, .int a2] 143 (WG V o h) 143 (WG V o (h')) (some (.int v)) 0 0 := by
  intro v h' hm
  refine Ctr.intro RX10 (by decide +kernel) rfl rfl rfl ?_
  intro E hE hQ _
  unfold f_X10_strikesAct at hm
  refine q_aload_n hE 0 (dlX10_strikesAct_0.at 0 rfl) rfl rfl ?_
  refine q_get hE (dlX10_strikesAct_0.at 1 rfl) kc10 wf_X10_19 g102 rfl rfl rfl ?_
  refine q_iload_n hE 1 (dlX10_strikesAct_0.at 2 rfl) rfl rfl ?_
  refine q_iald hE (dlX10_strikesAct_0.at 3 rfl) g103 rfl hm (fun hm => ?_)
  refine q_lcase hE (dlX10_strikesAct_0.at 4 rfl) (1 : Int32) 40 (by decide) hm (fun _ hm => ?_) (fun hn1_1 hm => ?_)
  · refine q_aload_n hE 0 (dlX10_strikesAct_0.at 5 rfl) rfl rfl ?_
    refine q_iload_n hE 1 (dlX10_strikesAct_0.at 6 rfl) rfl rfl ?_
    refine q_iload_n hE 2 (dlX10_strikesAct_0.at 7 rfl) rfl rfl ?_
    refine q_callV_i (X := fun z => WG V o z) hE (As := [_, _]) (dlX10_strikesAct_0.at 8 rfl) mw_X10_fastStrikes wm_X10_381 rfl rfl rfl rfl (Nat.zero_le _) (Nat.zero_le _) rfl kc10 g102 rfl (ok_X10_fastStrikes hfx) hm (fun v2 h2 hm => ?_)
    exact q_iret (X := fun z => WG V o z) hE (dlX10_strikesAct_0.at 9 rfl) hm hQ rfl
  · refine q_lcase hE (dlX10_strikesAct_0.at 4 rfl) (4 : Int32) 47 (by decide) hm (fun _ hm => ?_) (fun hn1_4 hm => ?_)
    · refine q_aload_n hE 0 (dlX10_strikesAct_0.at 10 rfl) rfl rfl ?_
      refine q_bipush hE (dlX10_strikesAct_0.at 11 rfl) bc_51 ?_
      refine q_callV_v (X := fun z => WG V o z) hE (As := [_]) (dlX10_strikesAct_0.at 12 rfl) mw_X10_body wm_X10_369 rfl rfl rfl rfl (Nat.zero_le _) (Nat.zero_le _) rfl kc10 g102 rfl (ok_X10_body hfx) hm (fun v3 h3 hm => ?_)
      refine q_aload_n hE 0 (dlX10_strikesAct_0.at 13 rfl) rfl rfl ?_
      refine q_iload_n hE 1 (dlX10_strikesAct_0.at 14 rfl) rfl rfl ?_
      refine q_iload_n hE 2 (dlX10_strikesAct_0.at 15 rfl) rfl rfl ?_
      refine q_iconst hE (dlX10_strikesAct_0.at 16 rfl) ic_1 ?_
      refine q_iadd hE (dlX10_strikesAct_0.at 17 rfl) ?_
      refine q_callV_i (X := fun z => WG V o z) hE (As := [_, _]) (dlX10_strikesAct_0.at 18 rfl) mw_X10_fastStrikes wm_X10_381 rfl rfl rfl rfl (Nat.zero_le _) (Nat.zero_le _) rfl kc10 g102 rfl (ok_X10_fastStrikes hfx) hm (fun v4 h4 hm => ?_)
      exact q_iret (X := fun z => WG V o z) hE (dlX10_strikesAct_0.at 19 rfl) hm hQ rfl
    · refine q_lcase hE (dlX10_strikesAct_0.at 4 rfl) (6 : Int32) 62 (by decide) hm (fun _ hm => ?_) (fun hn1_6 hm => ?_)
      · refine q_aload_n hE 0 (dlX10_strikesAct_0.at 20 rfl) rfl rfl ?_
        refine q_bipush hE (dlX10_strikesAct_0.at 21 rfl) bc_70 ?_
        refine q_callV_v (X := fun z => WG V o z) hE (As := [_]) (dlX10_strikesAct_0.at 22 rfl) mw_X10_body wm_X10_369 rfl rfl rfl rfl (Nat.zero_le _) (Nat.zero_le _) rfl kc10 g102 rfl (ok_X10_body hfx) hm (fun v5 h5 hm => ?_)
        refine q_aload_n hE 0 (dlX10_strikesAct_0.at 23 rfl) rfl rfl ?_
        refine q_iload_n hE 1 (dlX10_strikesAct_0.at 24 rfl) rfl rfl ?_
        refine q_iload_n hE 2 (dlX10_strikesAct_0.at 25 rfl) rfl rfl ?_
        refine q_callV_i (X := fun z => WG V o z) hE (As := [_, _]) (dlX10_strikesAct_0.at 26 rfl) mw_X10_clockStrikes wm_X10_378 rfl rfl rfl rfl (Nat.zero_le _) (Nat.zero_le _) rfl kc10 g102 rfl (ok_X10_clockStrikes hfx) hm (fun v6 h6 hm => ?_)
        refine q_istore_n hE [(0, _), (1, _), (2, _), (3, _)] (dlX10_strikesAct_0.at 27 rfl) rfl rfl rfl ?_
        refine q_iload_n hE 3 (dlX10_strikesAct_0.at 28 rfl) rfl rfl ?_
        refine q_aload_n hE 0 (dlX10_strikesAct_0.at 29 rfl) rfl rfl ?_
        refine q_iload_n hE 1 (dlX10_strikesAct_0.at 30 rfl) rfl rfl ?_
        refine q_iconst hE (dlX10_strikesAct_0.at 31 rfl) ic_2 ?_
        refine q_callV_i (X := fun z => WG V o z) hE (As := [_, _]) (dlX10_strikesAct_0.at 32 rfl) mw_X10_clockTicks wm_X10_372 rfl rfl rfl rfl (Nat.zero_le _) (Nat.zero_le _) rfl kc10 g102 rfl (ok_X10_clockTicks hfx) hm (fun v7 h7 hm => ?_)
        refine q_iadd hE (dlX10_strikesAct_0.at 33 rfl) ?_
        exact q_iret (X := fun z => WG V o z) hE (dlX10_strikesAct_0.at 34 rfl) hm hQ rfl
      · refine q_ldef hE (tgt := 84) (dlX10_strikesAct_0.at 4 rfl) (by decide) (by rw [lv_osw hn1_1 (by decide)]; rw [lv_osw hn1_4 (by decide)]; rw [lv_osw hn1_6 (by decide)]; rfl) (by decide) ?_
        refine q_aload_n hE 0 (dlX10_strikesAct_0.at 35 rfl) rfl rfl ?_
        refine q_iload_n hE 1 (dlX10_strikesAct_0.at 36 rfl) rfl rfl ?_
        refine q_iload_n hE 2 (dlX10_strikesAct_0.at 37 rfl) rfl rfl ?_
        refine q_callV_i (X := fun z => WG V o z) hE (As := [_, _]) (dlX10_strikesAct_0.at 38 rfl) mw_X10_clockStrikes wm_X10_378 rfl rfl rfl rfl (Nat.zero_le _) (Nat.zero_le _) rfl kc10 g102 rfl (ok_X10_clockStrikes hfx) hm (fun v8 h8 hm => ?_)
        exact q_iret (X := fun z => WG V o z) hE (dlX10_strikesAct_0.at 39 rfl) hm hQ rfl
set_option maxRecDepth 10000 in
theorem ok_X10_clockTells {V : Ev} {l : Launch} {o : PH} {F : Nat}  (hfx : V.2.2.2.2 = false) {a1 : Int32} {a2 : Int32} {h : PH} : ∀ (v : Int32) (h' : PH), f_X10_clockTells F a1 a2 h = some (v, h') → Ctr l V yX10_clockTells cX10_clockTells 3 (some .int) 7 [rf V 102, .int a1, .int a2] 143 (WG V o h) 143 (WG V o (h')) (some (.int v)) 0 0 := by
  intro v h' hm
  refine Ctr.intro RX10 (by decide +kernel) rfl rfl rfl ?_
  intro E hE hQ _
  unfold f_X10_clockTells at hm
  refine q_aload_n hE 0 (dlX10_clockTells_0.at 0 rfl) rfl rfl ?_
  refine q_bipush hE (dlX10_clockTells_0.at 1 rfl) bc_12 ?_
  refine q_callV_v (X := fun z => WG V o z) hE (As := [_]) (dlX10_clockTells_0.at 2 rfl) mw_X10_body wm_X10_369 rfl rfl rfl rfl (Nat.zero_le _) (Nat.zero_le _) rfl kc10 g102 rfl (ok_X10_body hfx) hm (fun v1 h1 hm => ?_)
  refine q_aload_n hE 0 (dlX10_clockTells_0.at 3 rfl) rfl rfl ?_
  refine q_iload_n hE 1 (dlX10_clockTells_0.at 4 rfl) rfl rfl ?_
  refine q_iload_n hE 2 (dlX10_clockTells_0.at 5 rfl) rfl rfl ?_
  refine q_callV_i (X := fun z => WG V o z) hE (As := [_, _]) (dlX10_clockTells_0.at 6 rfl) mw_X10_strikesAct wm_X10_384 rfl rfl rfl rfl (Nat.zero_le _) (Nat.zero_le _) rfl kc10 g102 rfl (ok_X10_strikesAct hfx) hm (fun v2 h2 hm => ?_)
  refine q_iconst hE (dlX10_clockTells_0.at 7 rfl) ic_2 ?_
  refine q_imul hE (dlX10_clockTells_0.at 8 rfl) ?_
  exact q_iret (X := fun z => WG V o z) hE (dlX10_clockTells_0.at 9 rfl) hm hQ rfl
set_option maxRecDepth 10000 in
theorem ok_X10_tellsAct {V : Ev} {l : Launch} {o : PH} {F : Nat}  (hfx : V.2.2.2.2 = false) {a1 : Int32} {a2 : Int32} {h : PH} : ∀ (v : Int32) (h' : PH), f_X10_tellsAct F a1 a2 h = some (v, h') → Ctr l V yX10_tellsAct cX10_tellsAct 4 (some .int) 8 [rf V 102, .int a1, .int a2] 143 (WG V o h) 143 (WG V o (h')) (some (.int v)) 0 0 := by
  intro v h' hm
  refine Ctr.intro RX10 (by decide +kernel) rfl rfl rfl ?_
  intro E hE hQ _
  unfold f_X10_tellsAct at hm
  refine q_aload_n hE 0 (dlX10_tellsAct_0.at 0 rfl) rfl rfl ?_
  refine q_get hE (dlX10_tellsAct_0.at 1 rfl) kc10 wf_X10_19 g102 rfl rfl rfl ?_
  refine q_iload_n hE 1 (dlX10_tellsAct_0.at 2 rfl) rfl rfl ?_
  refine q_iald hE (dlX10_tellsAct_0.at 3 rfl) g103 rfl hm (fun hm => ?_)
  refine q_tcase hE (dlX10_tellsAct_0.at 4 rfl) (3 : Int32) 36 (by decide) hm (fun _ hm => ?_) (fun hn1_3 hm => ?_)
  · refine q_aload_n hE 0 (dlX10_tellsAct_0.at 5 rfl) rfl rfl ?_
    refine q_bipush hE (dlX10_tellsAct_0.at 6 rfl) bc_40 ?_
    refine q_callV_v (X := fun z => WG V o z) hE (As := [_]) (dlX10_tellsAct_0.at 7 rfl) mw_X10_body wm_X10_369 rfl rfl rfl rfl (Nat.zero_le _) (Nat.zero_le _) rfl kc10 g102 rfl (ok_X10_body hfx) hm (fun v2 h2 hm => ?_)
    refine q_aload_n hE 0 (dlX10_tellsAct_0.at 8 rfl) rfl rfl ?_
    refine q_iload_n hE 1 (dlX10_tellsAct_0.at 9 rfl) rfl rfl ?_
    refine q_iload_n hE 2 (dlX10_tellsAct_0.at 10 rfl) rfl rfl ?_
    refine q_callV_i (X := fun z => WG V o z) hE (As := [_, _]) (dlX10_tellsAct_0.at 11 rfl) mw_X10_clockTells wm_X10_387 rfl rfl rfl rfl (Nat.zero_le _) (Nat.zero_le _) rfl kc10 g102 rfl (ok_X10_clockTells hfx) hm (fun v3 h3 hm => ?_)
    refine q_istore_n hE [(0, _), (1, _), (2, _), (3, _)] (dlX10_tellsAct_0.at 12 rfl) rfl rfl rfl ?_
    refine q_iload_n hE 3 (dlX10_tellsAct_0.at 13 rfl) rfl rfl ?_
    refine q_aload_n hE 0 (dlX10_tellsAct_0.at 14 rfl) rfl rfl ?_
    refine q_iload_n hE 1 (dlX10_tellsAct_0.at 15 rfl) rfl rfl ?_
    refine q_iconst hE (dlX10_tellsAct_0.at 16 rfl) ic_1 ?_
    refine q_callV_i (X := fun z => WG V o z) hE (As := [_, _]) (dlX10_tellsAct_0.at 17 rfl) mw_X10_strikesAct wm_X10_384 rfl rfl rfl rfl (Nat.zero_le _) (Nat.zero_le _) rfl kc10 g102 rfl (ok_X10_strikesAct hfx) hm (fun v4 h4 hm => ?_)
    refine q_iadd hE (dlX10_tellsAct_0.at 18 rfl) ?_
    exact q_iret (X := fun z => WG V o z) hE (dlX10_tellsAct_0.at 19 rfl) hm hQ rfl
  · refine q_tcase hE (dlX10_tellsAct_0.at 4 rfl) (4 : Int32) 73 (by decide) hm (fun _ hm => ?_) (fun hn1_4 hm => ?_)
    · refine q_aload_n hE 0 (dlX10_tellsAct_0.at 30 rfl) rfl rfl ?_
      refine q_iload_n hE 1 (dlX10_tellsAct_0.at 31 rfl) rfl rfl ?_
      refine q_iload_n hE 2 (dlX10_tellsAct_0.at 32 rfl) rfl rfl ?_
      refine q_callV_i (X := fun z => WG V o z) hE (As := [_, _]) (dlX10_tellsAct_0.at 33 rfl) mw_X10_clockTells wm_X10_387 rfl rfl rfl rfl (Nat.zero_le _) (Nat.zero_le _) rfl kc10 g102 rfl (ok_X10_clockTells hfx) hm (fun v5 h5 hm => ?_)
      exact q_iret (X := fun z => WG V o z) hE (dlX10_tellsAct_0.at 34 rfl) hm hQ rfl
    · refine q_tcase hE (dlX10_tellsAct_0.at 4 rfl) (5 : Int32) 58 (by decide) hm (fun _ hm => ?_) (fun hn1_5 hm => ?_)
      · refine q_aload_n hE 0 (dlX10_tellsAct_0.at 20 rfl) rfl rfl ?_
        refine q_bipush hE (dlX10_tellsAct_0.at 21 rfl) bc_60 ?_
        refine q_callV_v (X := fun z => WG V o z) hE (As := [_]) (dlX10_tellsAct_0.at 22 rfl) mw_X10_body wm_X10_369 rfl rfl rfl rfl (Nat.zero_le _) (Nat.zero_le _) rfl kc10 g102 rfl (ok_X10_body hfx) hm (fun v6 h6 hm => ?_)
        refine q_aload_n hE 0 (dlX10_tellsAct_0.at 23 rfl) rfl rfl ?_
        refine q_iload_n hE 1 (dlX10_tellsAct_0.at 24 rfl) rfl rfl ?_
        refine q_iload_n hE 2 (dlX10_tellsAct_0.at 25 rfl) rfl rfl ?_
        refine q_iload_n hE 1 (dlX10_tellsAct_0.at 26 rfl) rfl rfl ?_
        refine q_isub hE (dlX10_tellsAct_0.at 27 rfl) ?_
        refine q_callV_i (X := fun z => WG V o z) hE (As := [_, _]) (dlX10_tellsAct_0.at 28 rfl) mw_X10_clockTells wm_X10_387 rfl rfl rfl rfl (Nat.zero_le _) (Nat.zero_le _) rfl kc10 g102 rfl (ok_X10_clockTells hfx) hm (fun v7 h7 hm => ?_)
        exact q_iret (X := fun z => WG V o z) hE (dlX10_tellsAct_0.at 29 rfl) hm hQ rfl
      · refine q_tcase hE (dlX10_tellsAct_0.at 4 rfl) (6 : Int32) 36 (by decide) hm (fun _ hm => ?_) (fun hn1_6 hm => ?_)
        · refine q_aload_n hE 0 (dlX10_tellsAct_0.at 5 rfl) rfl rfl ?_
          refine q_bipush hE (dlX10_tellsAct_0.at 6 rfl) bc_40 ?_
          refine q_callV_v (X := fun z => WG V o z) hE (As := [_]) (dlX10_tellsAct_0.at 7 rfl) mw_X10_body wm_X10_369 rfl rfl rfl rfl (Nat.zero_le _) (Nat.zero_le _) rfl kc10 g102 rfl (ok_X10_body hfx) hm (fun v8 h8 hm => ?_)
          refine q_aload_n hE 0 (dlX10_tellsAct_0.at 8 rfl) rfl rfl ?_
          refine q_iload_n hE 1 (dlX10_tellsAct_0.at 9 rfl) rfl rfl ?_
          refine q_iload_n hE 2 (dlX10_tellsAct_0.at 10 rfl) rfl rfl ?_
          refine q_callV_i (X := fun z => WG V o z) hE (As := [_, _]) (dlX10_tellsAct_0.at 11 rfl) mw_X10_clockTells wm_X10_387 rfl rfl rfl rfl (Nat.zero_le _) (Nat.zero_le _) rfl kc10 g102 rfl (ok_X10_clockTells hfx) hm (fun v9 h9 hm => ?_)
          refine q_istore_n hE [(0, _), (1, _), (2, _), (3, _)] (dlX10_tellsAct_0.at 12 rfl) rfl rfl rfl ?_
          refine q_iload_n hE 3 (dlX10_tellsAct_0.at 13 rfl) rfl rfl ?_
          refine q_aload_n hE 0 (dlX10_tellsAct_0.at 14 rfl) rfl rfl ?_
          refine q_iload_n hE 1 (dlX10_tellsAct_0.at 15 rfl) rfl rfl ?_
          refine q_iconst hE (dlX10_tellsAct_0.at 16 rfl) ic_1 ?_
          refine q_callV_i (X := fun z => WG V o z) hE (As := [_, _]) (dlX10_tellsAct_0.at 17 rfl) mw_X10_strikesAct wm_X10_384 rfl rfl rfl rfl (Nat.zero_le _) (Nat.zero_le _) rfl kc10 g102 rfl (ok_X10_strikesAct hfx) hm (fun v10 h10 hm => ?_)
          refine q_iadd hE (dlX10_tellsAct_0.at 18 rfl) ?_
          exact q_iret (X := fun z => WG V o z) hE (dlX10_tellsAct_0.at 19 rfl) hm hQ rfl
        · refine q_tdef hE (tgt := 73) (dlX10_tellsAct_0.at 4 rfl) (by have := lv_neT (a := 3) hn1_3 (by decide); have := lv_neT (a := 4) hn1_4 (by decide); have := lv_neT (a := 5) hn1_5 (by decide); have := lv_neT (a := 6) hn1_6 (by decide); omega) (by decide) ?_
          refine q_aload_n hE 0 (dlX10_tellsAct_0.at 30 rfl) rfl rfl ?_
          refine q_iload_n hE 1 (dlX10_tellsAct_0.at 31 rfl) rfl rfl ?_
          refine q_iload_n hE 2 (dlX10_tellsAct_0.at 32 rfl) rfl rfl ?_
          refine q_callV_i (X := fun z => WG V o z) hE (As := [_, _]) (dlX10_tellsAct_0.at 33 rfl) mw_X10_clockTells wm_X10_387 rfl rfl rfl rfl (Nat.zero_le _) (Nat.zero_le _) rfl kc10 g102 rfl (ok_X10_clockTells hfx) hm (fun v11 h11 hm => ?_)
          exact q_iret (X := fun z => WG V o z) hE (dlX10_tellsAct_0.at 34 rfl) hm hQ rfl
set_option maxRecDepth 10000 in
theorem ok_X10_act {V : Ev} {l : Launch} {o : PH} {F : Nat}  (hfx : V.2.2.2.2 = false) {a1 : Int32} {a2 : Int32} {a3 : Int32} {h : PH} : ∀ (v : Int32) (h' : PH), f_X10_act F a1 a2 a3 h = some (v, h') → Ctr l V yX10_act cX10_act 4 (some .int) 9 [rf V 102, .int a1, .int a2, .int a3] 143 (WG V o h) 143 (WG V o (h')) (some (.int v)) 0 0 := by
  intro v h' hm
  refine Ctr.intro RX10 (by decide +kernel) rfl rfl rfl ?_
  intro E hE hQ _
  unfold f_X10_act at hm
  refine q_aload_n hE 0 (dlX10_act_0.at 0 rfl) rfl rfl ?_
  refine q_iconst hE (dlX10_act_0.at 1 rfl) ic_0 ?_
  refine q_put hE hfx (dlX10_act_0.at 2 rfl) kc10 wf_X10_193 g102 rfl rfl rfl rfl rfl rfl u102_60 ?_
  refine q_lth (X := fun z => WG V o z) hm (fun h1 hm => ?_)
  refine q_aload_n hE 0 (dlX10_act_0.at 3 rfl) rfl rfl ?_
  refine q_iload_n hE 1 (dlX10_act_0.at 4 rfl) rfl rfl ?_
  refine q_callV_i (X := fun z => WG V o z) hE (As := [_]) (dlX10_act_0.at 5 rfl) mw_X10_isClock wm_X10_220 rfl rfl rfl rfl (Nat.zero_le _) (Nat.zero_le _) rfl kc10 g102 rfl (ok_X10_isClock hfx) hm (fun v2 h2 hm => ?_)
  refine q_if_eq hE (tgt := 23) (dlX10_act_0.at 6 rfl) (by decide) hm (fun hc3 hm => ?_) (fun hc3 hm => ?_)
  · refine q_iconst hE (dlX10_act_0.at 13 rfl) ic_0 ?_
    exact q_iret (X := fun z => WG V o z) hE (dlX10_act_0.at 14 rfl) hm hQ rfl
  · refine q_aload_n hE 0 (dlX10_act_0.at 7 rfl) rfl rfl ?_
    refine q_iload_n hE 2 (dlX10_act_0.at 8 rfl) rfl rfl ?_
    refine q_iconst hE (dlX10_act_0.at 9 rfl) ic_0 ?_
    refine q_iconst hE (dlX10_act_0.at 10 rfl) ic_2 ?_
    refine q_callV_i (X := fun z => WG V o z) hE (As := [_, _, _]) (dlX10_act_0.at 11 rfl) mw_X10_in wm_X10_212 rfl rfl rfl rfl (Nat.zero_le _) (Nat.zero_le _) rfl kc10 g102 rfl (ok_X10_in hfx) hm (fun v4 h4 hm => ?_)
    refine q_if_ne hE (tgt := 25) (dlX10_act_0.at 12 rfl) (by decide) hm (fun hc5 hm => ?_) (fun hc5 hm => ?_)
    · refine q_iconst hE (dlX10_act_0.at 13 rfl) ic_0 ?_
      exact q_iret (X := fun z => WG V o z) hE (dlX10_act_0.at 14 rfl) hm hQ rfl
    · refine q_iload_n hE 2 (dlX10_act_0.at 15 rfl) rfl rfl ?_
      refine q_if_ne hE (tgt := 38) (dlX10_act_0.at 16 rfl) (by decide) hm (fun hc6 hm => ?_) (fun hc6 hm => ?_)
      · refine q_aload_n hE 0 (dlX10_act_0.at 17 rfl) rfl rfl ?_
        refine q_iload_n hE 1 (dlX10_act_0.at 18 rfl) rfl rfl ?_
        refine q_iload_n hE 3 (dlX10_act_0.at 19 rfl) rfl rfl ?_
        refine q_callV_i (X := fun z => WG V o z) hE (As := [_, _]) (dlX10_act_0.at 20 rfl) mw_X10_ticksAct wm_X10_375 rfl rfl rfl rfl (Nat.zero_le _) (Nat.zero_le _) rfl kc10 g102 rfl (ok_X10_ticksAct hfx) hm (fun v10 h10 hm => ?_)
        refine q_goto hE (tgt := 58) (dlX10_act_0.at 21 rfl) (by decide) ?_
        exact q_iret (X := fun z => WG V o z) hE (dlX10_act_0.at 34 rfl) hm hQ rfl
      · refine q_iload_n hE 2 (dlX10_act_0.at 22 rfl) rfl rfl ?_
        refine q_iconst hE (dlX10_act_0.at 23 rfl) ic_1 ?_
        refine q_icmp_ne hE (tgt := 52) (dlX10_act_0.at 24 rfl) (by decide) hm (fun hc7 hm => ?_) (fun hc7 hm => ?_)
        · refine q_aload_n hE 0 (dlX10_act_0.at 25 rfl) rfl rfl ?_
          refine q_iload_n hE 1 (dlX10_act_0.at 26 rfl) rfl rfl ?_
          refine q_iload_n hE 3 (dlX10_act_0.at 27 rfl) rfl rfl ?_
          refine q_callV_i (X := fun z => WG V o z) hE (As := [_, _]) (dlX10_act_0.at 28 rfl) mw_X10_strikesAct wm_X10_384 rfl rfl rfl rfl (Nat.zero_le _) (Nat.zero_le _) rfl kc10 g102 rfl (ok_X10_strikesAct hfx) hm (fun v9 h9 hm => ?_)
          refine q_goto hE (tgt := 58) (dlX10_act_0.at 29 rfl) (by decide) ?_
          exact q_iret (X := fun z => WG V o z) hE (dlX10_act_0.at 34 rfl) hm hQ rfl
        · refine q_aload_n hE 0 (dlX10_act_0.at 30 rfl) rfl rfl ?_
          refine q_iload_n hE 1 (dlX10_act_0.at 31 rfl) rfl rfl ?_
          refine q_iload_n hE 3 (dlX10_act_0.at 32 rfl) rfl rfl ?_
          refine q_callV_i (X := fun z => WG V o z) hE (As := [_, _]) (dlX10_act_0.at 33 rfl) mw_X10_tellsAct wm_X10_390 rfl rfl rfl rfl (Nat.zero_le _) (Nat.zero_le _) rfl kc10 g102 rfl (ok_X10_tellsAct hfx) hm (fun v8 h8 hm => ?_)
          exact q_iret (X := fun z => WG V o z) hE (dlX10_act_0.at 34 rfl) hm hQ rfl
set_option maxRecDepth 10000 in
theorem ok_X10_trace {V : Ev} {l : Launch} {o : PH} {F : Nat}  (hfx : V.2.2.2.2 = false) {a1 : Int32} {h : PH} : ∀ (v : Int32) (h' : PH), f_X10_trace F a1 h = some (v, h') → Ctr l V yX10_trace cX10_trace 2 (some .int) 2 [rf V 102, .int a1] 143 (WG V o h) 143 (WG V o (h')) (some (.int v)) 0 0 := by
  intro v h' hm
  refine Ctr.intro RX10 (by decide +kernel) rfl rfl rfl ?_
  intro E hE hQ _
  unfold f_X10_trace at hm
  refine q_aload_n hE 0 (dlX10_trace_0.at 0 rfl) rfl rfl ?_
  refine q_iload_n hE 1 (dlX10_trace_0.at 1 rfl) rfl rfl ?_
  refine q_iconst hE (dlX10_trace_0.at 2 rfl) ic_0 ?_
  refine q_bipush hE (dlX10_trace_0.at 3 rfl) bc_19 ?_
  refine q_callV_i (X := fun z => WG V o z) hE (As := [_, _, _]) (dlX10_trace_0.at 4 rfl) mw_X10_in wm_X10_212 rfl rfl rfl rfl (Nat.zero_le _) (Nat.zero_le _) rfl kc10 g102 rfl (ok_X10_in hfx) hm (fun v1 h1 hm => ?_)
  refine q_if_eq hE (tgt := 28) (dlX10_trace_0.at 5 rfl) (by decide) hm (fun hc2 hm => ?_) (fun hc2 hm => ?_)
  · refine q_iconst hE (dlX10_trace_0.at 15 rfl) ic_m1 ?_
    exact q_iret (X := fun z => WG V o z) hE (dlX10_trace_0.at 16 rfl) hm hQ rfl
  · refine q_iload_n hE 1 (dlX10_trace_0.at 6 rfl) rfl rfl ?_
    refine q_aload_n hE 0 (dlX10_trace_0.at 7 rfl) rfl rfl ?_
    refine q_get hE (dlX10_trace_0.at 8 rfl) kc10 wf_X10_193 g102 rfl rfl rfl ?_
    refine q_icmp_ge hE (tgt := 28) (dlX10_trace_0.at 9 rfl) (by decide) hm (fun hc3 hm => ?_) (fun hc3 hm => ?_)
    · refine q_iconst hE (dlX10_trace_0.at 15 rfl) ic_m1 ?_
      exact q_iret (X := fun z => WG V o z) hE (dlX10_trace_0.at 16 rfl) hm hQ rfl
    · refine q_aload_n hE 0 (dlX10_trace_0.at 10 rfl) rfl rfl ?_
      refine q_get hE (dlX10_trace_0.at 11 rfl) kc10 wf_X10_196 g102 rfl rfl rfl ?_
      refine q_iload_n hE 1 (dlX10_trace_0.at 12 rfl) rfl rfl ?_
      refine q_iald hE (dlX10_trace_0.at 13 rfl) g138 rfl hm (fun hm => ?_)
      refine q_goto hE (tgt := 29) (dlX10_trace_0.at 14 rfl) (by decide) ?_
      exact q_iret (X := fun z => WG V o z) hE (dlX10_trace_0.at 16 rfl) hm hQ rfl
set_option maxRecDepth 10000 in
theorem okL_X10_taken_51 {V : Ev} {l : Launch} {o : PH} {F : Nat}  (hfx : V.2.2.2.2 = false) {E : Cx} (hE : CX E V l cX10_taken RX10 4 3 0 0 (some .int)) {r : Int32 × PH} (hQ : RQ E V 143 (WG V o r.2) (some (.int r.1)) 0 0) : ∀ (x2 : Int32) (x3 : Int32) (h : PH), fL_X10_taken_51 F x2 x3 h = some r → PW E V 0 0 143 (WG V o h) 51 [(2, .int x2), (3, .int x3)] [] := by
  intro x2 x3 h hm
  unfold fL_X10_taken_51 at hm
  refine q_iload_n hE 0 (dlX10_taken_0.at 30 rfl) rfl rfl ?_
  refine q_iconst hE (dlX10_taken_0.at 31 rfl) ic_2 ?_
  refine q_icmp_ne hE (tgt := 61) (dlX10_taken_0.at 32 rfl) (by decide) hm (fun hc8 hm => ?_) (fun hc8 hm => ?_)
  · refine q_iload_n hE 1 (dlX10_taken_0.at 33 rfl) rfl rfl ?_
    refine q_iconst hE (dlX10_taken_0.at 34 rfl) ic_5 ?_
    refine q_icmp_eq hE (tgt := 72) (dlX10_taken_0.at 35 rfl) (by decide) hm (fun hc11 hm => ?_) (fun hc11 hm => ?_)
    · refine q_iload_n hE 1 (dlX10_taken_1.at 2 rfl) rfl rfl ?_
      refine q_goto hE (tgt := 78) (dlX10_taken_1.at 3 rfl) (by decide) ?_
      exact q_iret (X := fun z => WG V o z) hE (dlX10_taken_1.at 5 rfl) hm hQ rfl
    · refine q_iload_n hE 0 (dlX10_taken_0.at 36 rfl) rfl rfl ?_
      refine q_iconst hE (dlX10_taken_0.at 37 rfl) ic_3 ?_
      refine q_icmp_ne hE (tgt := 76) (dlX10_taken_0.at 38 rfl) (by decide) hm (fun hc12 hm => ?_) (fun hc12 hm => ?_)
      · refine q_iload_n hE 1 (dlX10_taken_0.at 39 rfl) rfl rfl ?_
        refine q_bipush hE (dlX10_taken_1.at 0 rfl) bc_6 ?_
        refine q_icmp_ne hE (tgt := 76) (dlX10_taken_1.at 1 rfl) (by decide) hm (fun hc13 hm => ?_) (fun hc13 hm => ?_)
        · refine q_iload_n hE 1 (dlX10_taken_1.at 2 rfl) rfl rfl ?_
          refine q_goto hE (tgt := 78) (dlX10_taken_1.at 3 rfl) (by decide) ?_
          exact q_iret (X := fun z => WG V o z) hE (dlX10_taken_1.at 5 rfl) hm hQ rfl
        · refine q_bipush hE (dlX10_taken_1.at 4 rfl) bc_m12 ?_
          exact q_iret (X := fun z => WG V o z) hE (dlX10_taken_1.at 5 rfl) hm hQ rfl
      · refine q_bipush hE (dlX10_taken_1.at 4 rfl) bc_m12 ?_
        exact q_iret (X := fun z => WG V o z) hE (dlX10_taken_1.at 5 rfl) hm hQ rfl
  · refine q_iload_n hE 0 (dlX10_taken_0.at 36 rfl) rfl rfl ?_
    refine q_iconst hE (dlX10_taken_0.at 37 rfl) ic_3 ?_
    refine q_icmp_ne hE (tgt := 76) (dlX10_taken_0.at 38 rfl) (by decide) hm (fun hc9 hm => ?_) (fun hc9 hm => ?_)
    · refine q_iload_n hE 1 (dlX10_taken_0.at 39 rfl) rfl rfl ?_
      refine q_bipush hE (dlX10_taken_1.at 0 rfl) bc_6 ?_
      refine q_icmp_ne hE (tgt := 76) (dlX10_taken_1.at 1 rfl) (by decide) hm (fun hc10 hm => ?_) (fun hc10 hm => ?_)
      · refine q_iload_n hE 1 (dlX10_taken_1.at 2 rfl) rfl rfl ?_
        refine q_goto hE (tgt := 78) (dlX10_taken_1.at 3 rfl) (by decide) ?_
        exact q_iret (X := fun z => WG V o z) hE (dlX10_taken_1.at 5 rfl) hm hQ rfl
      · refine q_bipush hE (dlX10_taken_1.at 4 rfl) bc_m12 ?_
        exact q_iret (X := fun z => WG V o z) hE (dlX10_taken_1.at 5 rfl) hm hQ rfl
    · refine q_bipush hE (dlX10_taken_1.at 4 rfl) bc_m12 ?_
      exact q_iret (X := fun z => WG V o z) hE (dlX10_taken_1.at 5 rfl) hm hQ rfl
set_option maxRecDepth 10000 in
theorem ok_X10_taken {V : Ev} {l : Launch} {o : PH} {F : Nat}  (hfx : V.2.2.2.2 = false) {a1 : Int32} {a2 : Int32} {h : PH} : ∀ (v : Int32) (h' : PH), f_X10_taken F a1 a2 h = some (v, h') → Ctr l V yX10_taken cX10_taken 4 (some .int) 3 [rf V 102, .int a1, .int a2] 143 (WG V o h) 143 (WG V o (h')) (some (.int v)) 0 0 := by
  intro v h' hm
  refine Ctr.intro RX10 (by decide +kernel) rfl rfl rfl ?_
  intro E hE hQ _
  unfold f_X10_taken at hm
  refine q_aload_n hE 0 (dlX10_taken_0.at 0 rfl) rfl rfl ?_
  refine q_iload_n hE 2 (dlX10_taken_0.at 1 rfl) rfl rfl ?_
  refine q_iconst hE (dlX10_taken_0.at 2 rfl) ic_0 ?_
  refine q_bipush hE (dlX10_taken_0.at 3 rfl) bc_6 ?_
  refine q_callV_i (X := fun z => WG V o z) hE (As := [_, _, _]) (dlX10_taken_0.at 4 rfl) mw_X10_in wm_X10_212 rfl rfl rfl rfl (Nat.zero_le _) (Nat.zero_le _) rfl kc10 g102 rfl (ok_X10_in hfx) hm (fun v1 h1 hm => ?_)
  refine q_if_ne hE (tgt := 14) (dlX10_taken_0.at 5 rfl) (by decide) hm (fun hc2 hm => ?_) (fun hc2 hm => ?_)
  · refine q_bipush hE (dlX10_taken_0.at 6 rfl) bc_m2 ?_
    exact q_iret (X := fun z => WG V o z) hE (dlX10_taken_0.at 7 rfl) hm hQ rfl
  · refine q_aload_n hE 0 (dlX10_taken_0.at 8 rfl) rfl rfl ?_
    refine q_iload_n hE 1 (dlX10_taken_0.at 9 rfl) rfl rfl ?_
    refine q_callV_i (X := fun z => WG V o z) hE (As := [_]) (dlX10_taken_0.at 10 rfl) mw_X10_isClock wm_X10_220 rfl rfl rfl rfl (Nat.zero_le _) (Nat.zero_le _) rfl kc10 g102 rfl (ok_X10_isClock hfx) hm (fun v3 h3 hm => ?_)
    refine q_if_ne hE (tgt := 25) (dlX10_taken_0.at 11 rfl) (by decide) hm (fun hc4 hm => ?_) (fun hc4 hm => ?_)
    · refine q_bipush hE (dlX10_taken_0.at 12 rfl) bc_m11 ?_
      exact q_iret (X := fun z => WG V o z) hE (dlX10_taken_0.at 13 rfl) hm hQ rfl
    · refine q_aload_n hE 0 (dlX10_taken_0.at 14 rfl) rfl rfl ?_
      refine q_get hE (dlX10_taken_0.at 15 rfl) kc10 wf_X10_19 g102 rfl rfl rfl ?_
      refine q_iload_n hE 1 (dlX10_taken_0.at 16 rfl) rfl rfl ?_
      refine q_iald hE (dlX10_taken_0.at 17 rfl) g103 rfl hm (fun hm => ?_)
      refine q_istore_n hE [(0, _), (1, _), (2, _), (3, _)] (dlX10_taken_0.at 18 rfl) rfl rfl rfl ?_
      refine q_iload_n hE 2 (dlX10_taken_0.at 19 rfl) rfl rfl ?_
      refine q_if_eq hE (tgt := 72) (dlX10_taken_0.at 20 rfl) (by decide) hm (fun hc5 hm => ?_) (fun hc5 hm => ?_)
      · refine q_iload_n hE 3 (dlX10_taken_1.at 2 rfl) rfl rfl ?_
        refine q_goto hE (tgt := 78) (dlX10_taken_1.at 3 rfl) (by decide) ?_
        exact q_iret (X := fun z => WG V o z) hE (dlX10_taken_1.at 5 rfl) hm hQ rfl
      · refine q_iload_n hE 3 (dlX10_taken_0.at 21 rfl) rfl rfl ?_
        refine q_iload_n hE 2 (dlX10_taken_0.at 22 rfl) rfl rfl ?_
        refine q_icmp_eq hE (tgt := 72) (dlX10_taken_0.at 23 rfl) (by decide) hm (fun hc6 hm => ?_) (fun hc6 hm => ?_)
        · refine q_iload_n hE 3 (dlX10_taken_1.at 2 rfl) rfl rfl ?_
          refine q_goto hE (tgt := 78) (dlX10_taken_1.at 3 rfl) (by decide) ?_
          exact q_iret (X := fun z => WG V o z) hE (dlX10_taken_1.at 5 rfl) hm hQ rfl
        · refine q_iload_n hE 2 (dlX10_taken_0.at 24 rfl) rfl rfl ?_
          refine q_iconst hE (dlX10_taken_0.at 25 rfl) ic_1 ?_
          refine q_icmp_ne hE (tgt := 51) (dlX10_taken_0.at 26 rfl) (by decide) hm (fun hc7 hm => ?_) (fun hc7 hm => ?_)
          · refine q_iload_n hE 3 (dlX10_taken_0.at 27 rfl) rfl rfl ?_
            refine q_iconst hE (dlX10_taken_0.at 28 rfl) ic_4 ?_
            refine q_icmp_eq hE (tgt := 72) (dlX10_taken_0.at 29 rfl) (by decide) hm (fun hc14 hm => ?_) (fun hc14 hm => ?_)
            · refine q_iload_n hE 3 (dlX10_taken_1.at 2 rfl) rfl rfl ?_
              refine q_goto hE (tgt := 78) (dlX10_taken_1.at 3 rfl) (by decide) ?_
              exact q_iret (X := fun z => WG V o z) hE (dlX10_taken_1.at 5 rfl) hm hQ rfl
            · refine q_sub hE [2, 3] rfl ?_
              exact okL_X10_taken_51 hfx hE hQ  _ _ _  hm
          · refine q_sub hE [2, 3] rfl ?_
            exact okL_X10_taken_51 hfx hE hQ  _ _ _  hm
