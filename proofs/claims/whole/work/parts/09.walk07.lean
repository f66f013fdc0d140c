set_option maxRecDepth 10000 in
theorem okL_X10_layNews_2 {V : Ev} {l : Launch} {o : PH} {F : Nat}  (hfx : V.2.2.2.2 = false) {E : Cx} (hE : CX E V l cX10_layNews RX10 3 4 0 0 none) {r : Unit × PH} (hQ : RQ E V 143 (WG V o r.2) (none) 0 0) : ∀ (n : Nat) (x1 : Int32) (h : PH), fL_X10_layNews_2 F n x1 h = some r → PW E V 0 0 143 (WG V o h) 2 [(0, rf V 102), (1, .int x1)] [] := by
  intro n
  induction n with
  | zero => intro x1 h hm; cases hm
  | succ n ih =>
    intro x1 h hm
    rw [fL_X10_layNews_2] at hm
    refine q_iload_n hE 1 (dlX10_layNews_0.at 2 rfl) rfl rfl ?_
    refine q_aload_n hE 0 (dlX10_layNews_0.at 3 rfl) rfl rfl ?_
    refine q_get hE (dlX10_layNews_0.at 4 rfl) kc10 wf_X10_7 g102 rfl rfl rfl ?_
    refine q_icmp_ge hE (tgt := 68) (dlX10_layNews_0.at 5 rfl) (by decide) hm (fun hc1 hm => ?_) (fun hc1 hm => ?_)
    · refine q_aload_n hE 0 (dlX10_layNews_1.at 0 rfl) rfl rfl ?_
      refine q_iconst hE (dlX10_layNews_1.at 1 rfl) ic_1 ?_
      refine q_put hE hfx (dlX10_layNews_1.at 2 rfl) kc10 wf_X10_87 g102 rfl (by decide) (by decide) rfl rfl rfl u102_25 ?_
      refine q_lth (X := fun z => WG V o z) hm (fun h2 hm => ?_)
      exact q_vret (X := fun z => WG V o z) hE (dlX10_layNews_1.at 3 rfl) hm hQ rfl
    · refine q_aload_n hE 0 (dlX10_layNews_0.at 6 rfl) rfl rfl ?_
      refine q_get hE (dlX10_layNews_0.at 7 rfl) kc10 wf_X10_94 g102 rfl rfl rfl ?_
      refine q_iload_n hE 1 (dlX10_layNews_0.at 8 rfl) rfl rfl ?_
      refine q_aload_n hE 0 (dlX10_layNews_0.at 9 rfl) rfl rfl ?_
      refine q_get hE (dlX10_layNews_0.at 10 rfl) kc10 wf_X10_26 g102 rfl rfl rfl ?_
      refine q_iload_n hE 1 (dlX10_layNews_0.at 11 rfl) rfl rfl ?_
      refine q_iald hE (dlX10_layNews_0.at 12 rfl) g105 rfl hm (fun hm => ?_)
      refine q_iast hE hfx (dlX10_layNews_0.at 13 rfl) g118 rfl u118 hm (fun hm => ?_)
      refine q_lth (X := fun z => WG V o z) hm (fun h3 hm => ?_)
      refine q_iconst hE (dlX10_layNews_0.at 14 rfl) ic_0 ?_
      refine q_istore_n hE [(0, _), (1, _), (2, _)] (dlX10_layNews_0.at 15 rfl) rfl rfl rfl ?_
      refine q_sub hE [0, 1, 2] rfl ?_
      exact okL_X10_layNews_24 hfx hE hQ (fun x7 h8  hm => by
            refine q_iinc hE [(0, _), (1, _)] 1 (dlX10_layNews_0.at 38 rfl) rfl ic_1 rfl rfl ?_
            refine q_goto hE (tgt := 2) (dlX10_layNews_0.at 39 rfl) (by decide) ?_
            refine q_sub hE [0, 1] rfl ?_
            exact ih _ _  hm) F _ _ _  hm
set_option maxRecDepth 10000 in
theorem ok_X10_layNews {V : Ev} {l : Launch} {o : PH} {F : Nat}  (hfx : V.2.2.2.2 = false)  {h : PH} : ∀ (v : Unit) (h' : PH), f_X10_layNews F  h = some (v, h') → Ctr l V yX10_layNews cX10_layNews 3 none 4 [rf V 102] 143 (WG V o h) 143 (WG V o (h')) (none) 0 0 := by
  intro v h' hm
  refine Ctr.intro RX10 (by decide +kernel) rfl rfl rfl ?_
  intro E hE hQ _
  unfold f_X10_layNews at hm
  refine q_iconst hE (dlX10_layNews_0.at 0 rfl) ic_0 ?_
  refine q_istore_n hE [(0, _), (1, _)] (dlX10_layNews_0.at 1 rfl) rfl rfl rfl ?_
  refine q_sub hE [0, 1] rfl ?_
  exact okL_X10_layNews_2 hfx hE hQ  F _ _  hm
set_option maxRecDepth 10000 in
theorem okL_X10_layTurn_12 {V : Ev} {l : Launch} {o : PH} {F : Nat}  (hfx : V.2.2.2.2 = false) {E : Cx} (hE : CX E V l cX10_layTurn RX10 5 2 0 0 (some .boolean)) {r : Int32 × PH} (hQ : RQ E V 143 (WG V o r.2) (some (.int r.1)) 0 0) : ∀ (n : Nat) (x2 : Int32) (x3 : Int32) (x4 : Int32) (h : PH), fL_X10_layTurn_12 F n x2 x3 x4 h = some r → PW E V 0 0 143 (WG V o h) 12 [(0, rf V 102), (2, .int x2), (3, .int x3), (4, .int x4)] [] := by
  intro n
  induction n with
  | zero => intro x2 x3 x4 h hm; cases hm
  | succ n ih =>
    intro x2 x3 x4 h hm
    rw [fL_X10_layTurn_12] at hm
    refine q_iload hE 3 (dlX10_layTurn_0.at 9 rfl) rfl ?_
    refine q_if_lt hE (tgt := 82) (dlX10_layTurn_0.at 10 rfl) (by decide) hm (fun hc1 hm => ?_) (fun hc1 hm => ?_)
    · refine q_iconst hE (dlX10_layTurn_1.at 10 rfl) ic_1 ?_
      exact q_bret (X := fun z => WG V o z) hE (dlX10_layTurn_1.at 11 rfl) hm hQ rfl (by decide)
    · refine q_aload_n hE 0 (dlX10_layTurn_0.at 11 rfl) rfl rfl ?_
      refine q_get hE (dlX10_layTurn_0.at 12 rfl) kc10 wf_X10_106 g102 rfl rfl rfl ?_
      refine q_iload hE 3 (dlX10_layTurn_0.at 13 rfl) rfl ?_
      refine q_iload_n hE 1 (dlX10_layTurn_0.at 14 rfl) rfl rfl ?_
      refine q_bipush hE (dlX10_layTurn_0.at 15 rfl) bc_6 ?_
      refine q_irem hE (dlX10_layTurn_0.at 16 rfl) hm (fun hm => ?_)
      refine q_iast hE hfx (dlX10_layTurn_0.at 17 rfl) g120 rfl u120 hm (fun hm => ?_)
      refine q_lth (X := fun z => WG V o z) hm (fun h2 hm => ?_)
      refine q_iload_n hE 1 (dlX10_layTurn_0.at 18 rfl) rfl rfl ?_
      refine q_bipush hE (dlX10_layTurn_0.at 19 rfl) bc_6 ?_
      refine q_idiv hE (dlX10_layTurn_0.at 20 rfl) hm (fun hm => ?_)
      refine q_istore_n hE [(0, _), (2, _), (3, _), (4, _)] (dlX10_layTurn_0.at 21 rfl) rfl rfl rfl ?_
      refine q_aload_n hE 0 (dlX10_layTurn_0.at 22 rfl) rfl rfl ?_
      refine q_get hE (dlX10_layTurn_0.at 23 rfl) kc10 wf_X10_106 g102 rfl rfl rfl ?_
      refine q_iload hE 3 (dlX10_layTurn_0.at 24 rfl) rfl ?_
      refine q_iald hE (dlX10_layTurn_0.at 25 rfl) g120 rfl hm (fun hm => ?_)
      refine q_aload_n hE 0 (dlX10_layTurn_0.at 26 rfl) rfl rfl ?_
      refine q_get hE (dlX10_layTurn_0.at 27 rfl) kc10 wf_X10_7 g102 rfl rfl rfl ?_
      refine q_icmp_ge hE (tgt := 62) (dlX10_layTurn_0.at 28 rfl) (by decide) hm (fun hc3 hm => ?_) (fun hc3 hm => ?_)
      · refine q_iconst hE (dlX10_layTurn_0.at 37 rfl) ic_0 ?_
        exact q_bret (X := fun z => WG V o z) hE (dlX10_layTurn_0.at 38 rfl) hm hQ rfl (by decide)
      · refine q_aload_n hE 0 (dlX10_layTurn_0.at 29 rfl) rfl rfl ?_
        refine q_iload_n hE 2 (dlX10_layTurn_0.at 30 rfl) rfl rfl ?_
        refine q_aload_n hE 0 (dlX10_layTurn_0.at 31 rfl) rfl rfl ?_
        refine q_get hE (dlX10_layTurn_0.at 32 rfl) kc10 wf_X10_106 g102 rfl rfl rfl ?_
        refine q_iload hE 3 (dlX10_layTurn_0.at 33 rfl) rfl ?_
        refine q_iald hE (dlX10_layTurn_0.at 34 rfl) g120 rfl hm (fun hm => ?_)
        refine q_callV_i (X := fun z => WG V o z) hE (As := [_, _]) (dlX10_layTurn_0.at 35 rfl) mw_X10_has wm_X10_224 rfl rfl rfl rfl (Nat.zero_le _) (Nat.zero_le _) rfl kc10 g102 rfl (ok_X10_has hfx) hm (fun v4 h4 hm => ?_)
        refine q_if_eq hE (tgt := 64) (dlX10_layTurn_0.at 36 rfl) (by decide) hm (fun hc5 hm => ?_) (fun hc5 hm => ?_)
        · refine q_iload_n hE 2 (dlX10_layTurn_0.at 39 rfl) rfl rfl ?_
          refine q_iconst hE (dlX10_layTurn_1.at 0 rfl) ic_1 ?_
          refine q_aload_n hE 0 (dlX10_layTurn_1.at 1 rfl) rfl rfl ?_
          refine q_get hE (dlX10_layTurn_1.at 2 rfl) kc10 wf_X10_106 g102 rfl rfl rfl ?_
          refine q_iload hE 3 (dlX10_layTurn_1.at 3 rfl) rfl ?_
          refine q_iald hE (dlX10_layTurn_1.at 4 rfl) g120 rfl hm (fun hm => ?_)
          refine q_ishl hE (dlX10_layTurn_1.at 5 rfl) ?_
          refine q_ior hE (dlX10_layTurn_1.at 6 rfl) ?_
          refine q_istore_n hE [(0, _), (2, _), (3, _), (4, _)] (dlX10_layTurn_1.at 7 rfl) rfl rfl rfl ?_
          refine q_iinc hE [(0, _), (2, _), (3, _), (4, _)] 3 (dlX10_layTurn_1.at 8 rfl) rfl ic_m1 rfl rfl ?_
          refine q_goto hE (tgt := 12) (dlX10_layTurn_1.at 9 rfl) (by decide) ?_
          refine q_sub hE [0, 1, 2, 3] rfl ?_
          exact ih _ _ _ _  hm
        · refine q_iconst hE (dlX10_layTurn_0.at 37 rfl) ic_0 ?_
          exact q_bret (X := fun z => WG V o z) hE (dlX10_layTurn_0.at 38 rfl) hm hQ rfl (by decide)
set_option maxRecDepth 10000 in
theorem ok_X10_layTurn {V : Ev} {l : Launch} {o : PH} {F : Nat}  (hfx : V.2.2.2.2 = false) {a1 : Int32} {h : PH} : ∀ (v : Int32) (h' : PH), f_X10_layTurn F a1 h = some (v, h') → Ctr l V yX10_layTurn cX10_layTurn 5 (some .boolean) 2 [rf V 102, .int a1] 143 (WG V o h) 143 (WG V o (h')) (some (.int v)) 0 0 := by
  intro v h' hm
  refine Ctr.intro RX10 (by decide +kernel) rfl rfl rfl ?_
  intro E hE hQ _
  unfold f_X10_layTurn at hm
  refine q_iload_n hE 1 (dlX10_layTurn_0.at 0 rfl) rfl rfl ?_
  refine q_istore_n hE [(0, _), (1, _), (2, _)] (dlX10_layTurn_0.at 1 rfl) rfl rfl rfl ?_
  refine q_iconst hE (dlX10_layTurn_0.at 2 rfl) ic_0 ?_
  refine q_istore_n hE [(0, _), (1, _), (2, _), (3, _)] (dlX10_layTurn_0.at 3 rfl) rfl rfl rfl ?_
  refine q_aload_n hE 0 (dlX10_layTurn_0.at 4 rfl) rfl rfl ?_
  refine q_get hE (dlX10_layTurn_0.at 5 rfl) kc10 wf_X10_7 g102 rfl rfl rfl ?_
  refine q_iconst hE (dlX10_layTurn_0.at 6 rfl) ic_1 ?_
  refine q_isub hE (dlX10_layTurn_0.at 7 rfl) ?_
  refine q_istore hE [(0, _), (1, _), (2, _), (3, _), (4, _)] (dlX10_layTurn_0.at 8 rfl) rfl rfl ?_
  refine q_sub hE [0, 2, 3, 4] rfl ?_
  exact okL_X10_layTurn_12 hfx hE hQ  F _ _ _ _  hm
set_option maxRecDepth 10000 in
theorem okL_X10_soonest_87 {V : Ev} {l : Launch} {o : PH} {F : Nat} {K114 : Int32 → Int32 → Int32 → Int32 → PH → Option (Int32 × PH)}  (hfx : V.2.2.2.2 = false) {E : Cx} (hE : CX E V l cX10_soonest RX10 7 9 0 0 (some .int)) {r : Int32 × PH} (hQ : RQ E V 143 (WG V o r.2) (some (.int r.1)) 0 0) (hK114 : ∀ (y1 : Int32) (y2 : Int32) (y3 : Int32) (y4 : Int32) (h : PH), K114 y1 y2 y3 y4 h = some r → PW E V 0 0 143 (WG V o h) 114 [(0, rf V 102), (1, .int y1), (2, .int y2), (3, .int y3), (4, .int y4)] []) : ∀ (n : Nat) (x1 : Int32) (x2 : Int32) (x3 : Int32) (x4 : Int32) (x6 : Int32) (h : PH), fL_X10_soonest_87 F K114 n x1 x2 x3 x4 x6 h = some r → PW E V 0 0 143 (WG V o h) 87 [(0, rf V 102), (1, .int x1), (2, .int x2), (3, .int x3), (4, .int x4), (6, .int x6)] [] := by
  intro n
  induction n with
  | zero => intro x1 x2 x3 x4 x6 h hm; cases hm
  | succ n ih =>
    intro x1 x2 x3 x4 x6 h hm
    rw [fL_X10_soonest_87] at hm
    refine q_iload hE 5 (dlX10_soonest_1.at 9 rfl) rfl ?_
    refine q_bipush hE (dlX10_soonest_1.at 10 rfl) bc_6 ?_
    refine q_icmp_ge hE (tgt := 114) (dlX10_soonest_1.at 11 rfl) (by decide) hm (fun hc13 hm => ?_) (fun hc13 hm => ?_)
    · refine q_sub hE [0, 1, 2, 3, 4] rfl ?_
      exact hK114 _ _ _ _ _ hm
    · refine q_aload_n hE 0 (dlX10_soonest_1.at 12 rfl) rfl rfl ?_
      refine q_get hE (dlX10_soonest_1.at 13 rfl) kc10 wf_X10_109 g102 rfl rfl rfl ?_
      refine q_iload hE 5 (dlX10_soonest_1.at 14 rfl) rfl ?_
      refine q_aload_n hE 0 (dlX10_soonest_1.at 15 rfl) rfl rfl ?_
      refine q_get hE (dlX10_soonest_1.at 16 rfl) kc10 wf_X10_106 g102 rfl rfl rfl ?_
      refine q_iload hE 5 (dlX10_soonest_1.at 17 rfl) rfl ?_
      refine q_iald hE (dlX10_soonest_1.at 18 rfl) g120 rfl hm (fun hm => ?_)
      refine q_iast hE hfx (dlX10_soonest_1.at 19 rfl) g121 rfl u121 hm (fun hm => ?_)
      refine q_lth (X := fun z => WG V o z) hm (fun h14 hm => ?_)
      refine q_iinc hE [(0, _), (1, _), (2, _), (3, _), (4, _), (6, _)] 5 (dlX10_soonest_1.at 20 rfl) rfl ic_1 rfl rfl ?_
      refine q_goto hE (tgt := 87) (dlX10_soonest_1.at 21 rfl) (by decide) ?_
      refine q_sub hE [0, 1, 2, 3, 4, 5] rfl ?_
      exact ih _ _ _ _ _ _  hm
set_option maxRecDepth 10000 in
theorem okL_X10_soonest_44 {V : Ev} {l : Launch} {o : PH} {F : Nat}  (hfx : V.2.2.2.2 = false) {E : Cx} (hE : CX E V l cX10_soonest RX10 7 9 0 0 (some .int)) {r : Int32 × PH} (hQ : RQ E V 143 (WG V o r.2) (some (.int r.1)) 0 0) : ∀ (n : Nat) (x1 : Int32) (x2 : Int32) (x3 : Int32) (x4 : Int32) (h : PH), fL_X10_soonest_44 F n x1 x2 x3 x4 h = some r → PW E V 0 0 143 (WG V o h) 44 [(0, rf V 102), (1, .int x1), (2, .int x2), (3, .int x3), (4, .int x4)] [] := by
  intro n
  induction n with
  | zero => intro x1 x2 x3 x4 h hm; cases hm
  | succ n ih =>
    intro x1 x2 x3 x4 h hm
    rw [fL_X10_soonest_44] at hm
    refine q_iload hE 4 (dlX10_soonest_0.at 28 rfl) rfl ?_
    refine q_iload_n hE 2 (dlX10_soonest_0.at 29 rfl) rfl rfl ?_
    refine q_icmp_ge hE (tgt := 120) (dlX10_soonest_0.at 30 rfl) (by decide) hm (fun hc5 hm => ?_) (fun hc5 hm => ?_)
    · refine q_aload_n hE 0 (dlX10_soonest_1.at 24 rfl) rfl rfl ?_
      refine q_iconst hE (dlX10_soonest_1.at 25 rfl) ic_0 ?_
      refine q_put hE hfx (dlX10_soonest_1.at 26 rfl) kc10 wf_X10_87 g102 rfl (by decide) (by decide) rfl rfl rfl u102_25 ?_
      refine q_lth (X := fun z => WG V o z) hm (fun h6 hm => ?_)
      refine q_iload_n hE 1 (dlX10_soonest_1.at 27 rfl) rfl rfl ?_
      refine q_if_ge hE (tgt := 131) (dlX10_soonest_1.at 28 rfl) (by decide) hm (fun hc7 hm => ?_) (fun hc7 hm => ?_)
      · refine q_iload_n hE 1 (dlX10_soonest_1.at 31 rfl) rfl rfl ?_
        refine q_aload_n hE 0 (dlX10_soonest_1.at 32 rfl) rfl rfl ?_
        refine q_get hE (dlX10_soonest_1.at 33 rfl) kc10 wf_X10_7 g102 rfl rfl rfl ?_
        refine q_icmp_ge hE (tgt := 148) (dlX10_soonest_1.at 34 rfl) (by decide) hm (fun hc8 hm => ?_) (fun hc8 hm => ?_)
        · refine q_bipush hE (dlX10_soonest_2.at 0 rfl) bc_m5 ?_
          exact q_iret (X := fun z => WG V o z) hE (dlX10_soonest_2.at 1 rfl) hm hQ rfl
        · refine q_aload_n hE 0 (dlX10_soonest_1.at 35 rfl) rfl rfl ?_
          refine q_get hE (dlX10_soonest_1.at 36 rfl) kc10 wf_X10_109 g102 rfl rfl rfl ?_
          refine q_iload_n hE 1 (dlX10_soonest_1.at 37 rfl) rfl rfl ?_
          refine q_iald hE (dlX10_soonest_1.at 38 rfl) g121 rfl hm (fun hm => ?_)
          refine q_goto hE (tgt := 150) (dlX10_soonest_1.at 39 rfl) (by decide) ?_
          exact q_iret (X := fun z => WG V o z) hE (dlX10_soonest_2.at 1 rfl) hm hQ rfl
      · refine q_iload_n hE 3 (dlX10_soonest_1.at 29 rfl) rfl rfl ?_
        exact q_iret (X := fun z => WG V o z) hE (dlX10_soonest_1.at 30 rfl) hm hQ rfl
    · refine q_aload_n hE 0 (dlX10_soonest_0.at 31 rfl) rfl rfl ?_
      refine q_iload hE 4 (dlX10_soonest_0.at 32 rfl) rfl ?_
      refine q_callV_i (X := fun z => WG V o z) hE (As := [_]) (dlX10_soonest_0.at 33 rfl) mw_X10_layTurn wm_X10_348 rfl rfl rfl rfl (Nat.zero_le _) (Nat.zero_le _) rfl kc10 g102 rfl (ok_X10_layTurn hfx) hm (fun v9 h9 hm => ?_)
      refine q_if_ne hE (tgt := 62) (dlX10_soonest_0.at 34 rfl) (by decide) hm (fun hc10 hm => ?_) (fun hc10 hm => ?_)
      · refine q_goto hE (tgt := 114) (dlX10_soonest_0.at 35 rfl) (by decide) ?_
        refine q_iinc hE [(0, _), (1, _), (2, _), (3, _), (4, _)] 4 (dlX10_soonest_1.at 22 rfl) rfl ic_1 rfl rfl ?_
        refine q_goto hE (tgt := 44) (dlX10_soonest_1.at 23 rfl) (by decide) ?_
        refine q_sub hE [0, 1, 2, 3, 4] rfl ?_
        exact ih _ _ _ _ _  hm
      · refine q_aload_n hE 0 (dlX10_soonest_0.at 36 rfl) rfl rfl ?_
        refine q_callV_i (X := fun z => WG V o z) hE (As := []) (dlX10_soonest_0.at 37 rfl) mw_X10_goTurn wm_X10_351 rfl rfl rfl rfl (Nat.zero_le _) (Nat.zero_le _) rfl kc10 g102 rfl (ok_X10_goTurn hfx) hm (fun v11 h11 hm => ?_)
        refine q_istore hE [(0, _), (1, _), (2, _), (3, _), (4, _), (5, _)] (dlX10_soonest_0.at 38 rfl) rfl rfl ?_
        refine q_iload_n hE 3 (dlX10_soonest_0.at 39 rfl) rfl rfl ?_
        refine q_if_lt hE (tgt := 81) (dlX10_soonest_1.at 0 rfl) (by decide) hm (fun hc12 hm => ?_) (fun hc12 hm => ?_)
        · refine q_iload hE 5 (dlX10_soonest_1.at 5 rfl) rfl ?_
          refine q_istore_n hE [(0, _), (1, _), (2, _), (3, _), (4, _), (5, _)] (dlX10_soonest_1.at 6 rfl) rfl rfl rfl ?_
          refine q_iconst hE (dlX10_soonest_1.at 7 rfl) ic_0 ?_
          refine q_istore hE [(0, _), (1, _), (2, _), (3, _), (4, _), (5, _), (6, _)] (dlX10_soonest_1.at 8 rfl) rfl rfl ?_
          refine q_sub hE [0, 1, 2, 3, 4, 6] rfl ?_
          exact okL_X10_soonest_87 hfx hE hQ (fun x15 x16 x17 x18 h19  hm => by
                refine q_iinc hE [(0, _), (1, _), (2, _), (3, _), (4, _)] 4 (dlX10_soonest_1.at 22 rfl) rfl ic_1 rfl rfl ?_
                refine q_goto hE (tgt := 44) (dlX10_soonest_1.at 23 rfl) (by decide) ?_
                refine q_sub hE [0, 1, 2, 3, 4] rfl ?_
                exact ih _ _ _ _ _  hm) F _ _ _ _ _ _  hm
        · refine q_iload hE 5 (dlX10_soonest_1.at 1 rfl) rfl ?_
          refine q_iload_n hE 3 (dlX10_soonest_1.at 2 rfl) rfl rfl ?_
          refine q_icmp_lt hE (tgt := 81) (dlX10_soonest_1.at 3 rfl) (by decide) hm (fun hc20 hm => ?_) (fun hc20 hm => ?_)
          · refine q_iload hE 5 (dlX10_soonest_1.at 5 rfl) rfl ?_
            refine q_istore_n hE [(0, _), (1, _), (2, _), (3, _), (4, _), (5, _)] (dlX10_soonest_1.at 6 rfl) rfl rfl rfl ?_
            refine q_iconst hE (dlX10_soonest_1.at 7 rfl) ic_0 ?_
            refine q_istore hE [(0, _), (1, _), (2, _), (3, _), (4, _), (5, _), (6, _)] (dlX10_soonest_1.at 8 rfl) rfl rfl ?_
            refine q_sub hE [0, 1, 2, 3, 4, 6] rfl ?_
            exact okL_X10_soonest_87 hfx hE hQ (fun x21 x22 x23 x24 h25  hm => by
                  refine q_iinc hE [(0, _), (1, _), (2, _), (3, _), (4, _)] 4 (dlX10_soonest_1.at 22 rfl) rfl ic_1 rfl rfl ?_
                  refine q_goto hE (tgt := 44) (dlX10_soonest_1.at 23 rfl) (by decide) ?_
                  refine q_sub hE [0, 1, 2, 3, 4] rfl ?_
                  exact ih _ _ _ _ _  hm) F _ _ _ _ _ _  hm
          · refine q_goto hE (tgt := 114) (dlX10_soonest_1.at 4 rfl) (by decide) ?_
            refine q_iinc hE [(0, _), (1, _), (2, _), (3, _), (4, _), (5, _)] 4 (dlX10_soonest_1.at 22 rfl) rfl ic_1 rfl rfl ?_
            refine q_goto hE (tgt := 44) (dlX10_soonest_1.at 23 rfl) (by decide) ?_
            refine q_sub hE [0, 1, 2, 3, 4] rfl ?_
            exact ih _ _ _ _ _  hm
set_option maxRecDepth 10000 in
theorem okL_X10_soonest_20 {V : Ev} {l : Launch} {o : PH} {F : Nat}  (hfx : V.2.2.2.2 = false) {E : Cx} (hE : CX E V l cX10_soonest RX10 7 9 0 0 (some .int)) {r : Int32 × PH} (hQ : RQ E V 143 (WG V o r.2) (some (.int r.1)) 0 0) : ∀ (n : Nat) (x1 : Int32) (x2 : Int32) (x3 : Int32) (h : PH), fL_X10_soonest_20 F n x1 x2 x3 h = some r → PW E V 0 0 143 (WG V o h) 20 [(0, rf V 102), (1, .int x1), (2, .int x2), (3, .int x3)] [] := by
  intro n
  induction n with
  | zero => intro x1 x2 x3 h hm; cases hm
  | succ n ih =>
    intro x1 x2 x3 h hm
    rw [fL_X10_soonest_20] at hm
    refine q_iload_n hE 3 (dlX10_soonest_0.at 14 rfl) rfl rfl ?_
    refine q_aload_n hE 0 (dlX10_soonest_0.at 15 rfl) rfl rfl ?_
    refine q_get hE (dlX10_soonest_0.at 16 rfl) kc10 wf_X10_7 g102 rfl rfl rfl ?_
    refine q_icmp_ge hE (tgt := 39) (dlX10_soonest_0.at 17 rfl) (by decide) hm (fun hc4 hm => ?_) (fun hc4 hm => ?_)
    · refine q_iconst hE (dlX10_soonest_0.at 24 rfl) ic_m1 ?_
      refine q_istore_n hE [(0, _), (1, _), (2, _), (3, _)] (dlX10_soonest_0.at 25 rfl) rfl rfl rfl ?_
      refine q_iconst hE (dlX10_soonest_0.at 26 rfl) ic_0 ?_
      refine q_istore hE [(0, _), (1, _), (2, _), (3, _), (4, _)] (dlX10_soonest_0.at 27 rfl) rfl rfl ?_
      refine q_sub hE [0, 1, 2, 3, 4] rfl ?_
      exact okL_X10_soonest_44 hfx hE hQ  F _ _ _ _ _  hm
    · refine q_iload_n hE 2 (dlX10_soonest_0.at 18 rfl) rfl rfl ?_
      refine q_bipush hE (dlX10_soonest_0.at 19 rfl) bc_6 ?_
      refine q_imul hE (dlX10_soonest_0.at 20 rfl) ?_
      refine q_istore_n hE [(0, _), (1, _), (2, _), (3, _)] (dlX10_soonest_0.at 21 rfl) rfl rfl rfl ?_
      refine q_iinc hE [(0, _), (1, _), (2, _), (3, _)] 3 (dlX10_soonest_0.at 22 rfl) rfl ic_1 rfl rfl ?_
      refine q_goto hE (tgt := 20) (dlX10_soonest_0.at 23 rfl) (by decide) ?_
      refine q_sub hE [0, 1, 2, 3] rfl ?_
      exact ih _ _ _ _  hm
set_option maxRecDepth 10000 in
theorem ok_X10_soonest {V : Ev} {l : Launch} {o : PH} {F : Nat}  (hfx : V.2.2.2.2 = false) {a1 : Int32} {h : PH} : ∀ (v : Int32) (h' : PH), f_X10_soonest F a1 h = some (v, h') → Ctr l V yX10_soonest cX10_soonest 7 (some .int) 9 [rf V 102, .int a1] 143 (WG V o h) 143 (WG V o (h')) (some (.int v)) 0 0 := by
  intro v h' hm
  refine Ctr.intro RX10 (by decide +kernel) rfl rfl rfl ?_
  intro E hE hQ _
  unfold f_X10_soonest at hm
  refine q_aload_n hE 0 (dlX10_soonest_0.at 0 rfl) rfl rfl ?_
  refine q_iload_n hE 1 (dlX10_soonest_0.at 1 rfl) rfl rfl ?_
  refine q_iconst hE (dlX10_soonest_0.at 2 rfl) ic_m1 ?_
  refine q_iconst hE (dlX10_soonest_0.at 3 rfl) ic_5 ?_
  refine q_callV_i (X := fun z => WG V o z) hE (As := [_, _, _]) (dlX10_soonest_0.at 4 rfl) mw_X10_in wm_X10_212 rfl rfl rfl rfl (Nat.zero_le _) (Nat.zero_le _) rfl kc10 g102 rfl (ok_X10_in hfx) hm (fun v1 h1 hm => ?_)
  refine q_if_ne hE (tgt := 12) (dlX10_soonest_0.at 5 rfl) (by decide) hm (fun hc2 hm => ?_) (fun hc2 hm => ?_)
  · refine q_iconst hE (dlX10_soonest_0.at 6 rfl) ic_m1 ?_
    exact q_iret (X := fun z => WG V o z) hE (dlX10_soonest_0.at 7 rfl) hm hQ rfl
  · refine q_aload_n hE 0 (dlX10_soonest_0.at 8 rfl) rfl rfl ?_
    refine q_callV_v (X := fun z => WG V o z) hE (As := []) (dlX10_soonest_0.at 9 rfl) mw_X10_layNews wm_X10_345 rfl rfl rfl rfl (Nat.zero_le _) (Nat.zero_le _) rfl kc10 g102 rfl (ok_X10_layNews hfx) hm (fun v3 h3 hm => ?_)
    refine q_iconst hE (dlX10_soonest_0.at 10 rfl) ic_1 ?_
    refine q_istore_n hE [(0, _), (1, _), (2, _)] (dlX10_soonest_0.at 11 rfl) rfl rfl rfl ?_
    refine q_iconst hE (dlX10_soonest_0.at 12 rfl) ic_0 ?_
    refine q_istore_n hE [(0, _), (1, _), (2, _), (3, _)] (dlX10_soonest_0.at 13 rfl) rfl rfl rfl ?_
    refine q_sub hE [0, 1, 2, 3] rfl ?_
    exact okL_X10_soonest_20 hfx hE hQ  F _ _ _ _  hm
set_option maxRecDepth 10000 in
theorem okL_X10_most_201 {V : Ev} {l : Launch} {o : PH} {F : Nat}  (hfx : V.2.2.2.2 = false) {E : Cx} (hE : CX E V l cX10_most RX10 9 7 0 0 (some .int)) {r : Int32 × PH} (hQ : RQ E V 143 (WG V o r.2) (some (.int r.1)) 0 0) : ∀ (n : Nat) (x1 : Int32) (x4 : Int32) (x6 : Int32) (x7 : Int32) (h : PH), fL_X10_most_201 F n x1 x4 x6 x7 h = some r → PW E V 0 0 143 (WG V o h) 201 [(0, rf V 102), (1, .int x1), (4, .int x4), (6, .int x6), (7, .int x7)] [] := by
  intro n
  induction n with
  | zero => intro x1 x4 x6 x7 h hm; cases hm
  | succ n ih =>
    intro x1 x4 x6 x7 h hm
    rw [fL_X10_most_201] at hm
    refine q_iload hE 4 (dlX10_most_2.at 32 rfl) rfl ?_
    refine q_iload_n hE 1 (dlX10_most_2.at 33 rfl) rfl rfl ?_
    refine q_icmp_ge hE (tgt := 222) (dlX10_most_2.at 34 rfl) (by decide) hm (fun hc12 hm => ?_) (fun hc12 hm => ?_)
    · refine q_iload hE 2 (dlX10_most_3.at 2 rfl) rfl ?_
      refine q_iload hE 3 (dlX10_most_3.at 3 rfl) rfl ?_
      refine q_idiv hE (dlX10_most_3.at 4 rfl) hm (fun hm => ?_)
      refine q_aload_n hE 0 (dlX10_most_3.at 5 rfl) rfl rfl ?_
      refine q_get hE (dlX10_most_3.at 6 rfl) kc10 wf_X10_7 g102 rfl rfl rfl ?_
      refine q_irem hE (dlX10_most_3.at 7 rfl) hm (fun hm => ?_)
      exact q_iret (X := fun z => WG V o z) hE (dlX10_most_3.at 8 rfl) hm hQ rfl
    · refine q_iload hE 3 (dlX10_most_2.at 35 rfl) rfl ?_
      refine q_aload_n hE 0 (dlX10_most_2.at 36 rfl) rfl rfl ?_
      refine q_get hE (dlX10_most_2.at 37 rfl) kc10 wf_X10_7 g102 rfl rfl rfl ?_
      refine q_imul hE (dlX10_most_2.at 38 rfl) ?_
      refine q_istore hE [(0, _), (1, _), (4, _), (6, _), (7, _)] (dlX10_most_2.at 39 rfl) rfl rfl ?_
      refine q_iinc hE [(0, _), (1, _), (4, _), (6, _), (7, _)] 4 (dlX10_most_3.at 0 rfl) rfl ic_1 rfl rfl ?_
      refine q_goto hE (tgt := 201) (dlX10_most_3.at 1 rfl) (by decide) ?_
      refine q_sub hE [0, 1, 2, 3, 4] rfl ?_
      exact ih _ _ _ _ _  hm
set_option maxRecDepth 10000 in
theorem okL_X10_most_93 {V : Ev} {l : Launch} {o : PH} {F : Nat} {K139 : Int32 → Int32 → Int32 → Int32 → Int32 → Int32 → PH → Option (Int32 × PH)}  (hfx : V.2.2.2.2 = false) {E : Cx} (hE : CX E V l cX10_most RX10 9 7 0 0 (some .int)) {r : Int32 × PH} (hQ : RQ E V 143 (WG V o r.2) (some (.int r.1)) 0 0) (hK139 : ∀ (y1 : Int32) (y2 : Int32) (y3 : Int32) (y4 : Int32) (y5 : Int32) (y6 : Int32) (h : PH), K139 y1 y2 y3 y4 y5 y6 h = some r → PW E V 0 0 143 (WG V o h) 139 [(0, rf V 102), (1, .int y1), (2, .int y2), (3, .int y3), (4, .int y4), (5, .int y5), (6, .int y6)] []) : ∀ (n : Nat) (x1 : Int32) (x2 : Int32) (x3 : Int32) (x4 : Int32) (x5 : Int32) (x6 : Int32) (x7 : Int32) (x8 : Int32) (h : PH), fL_X10_most_93 F K139 n x1 x2 x3 x4 x5 x6 x7 x8 h = some r → PW E V 0 0 143 (WG V o h) 93 [(0, rf V 102), (1, .int x1), (2, .int x2), (3, .int x3), (4, .int x4), (5, .int x5), (6, .int x6), (7, .int x7), (8, .int x8)] [] := by
  intro n
  induction n with
  | zero => intro x1 x2 x3 x4 x5 x6 x7 x8 h hm; cases hm
  | succ n ih =>
    intro x1 x2 x3 x4 x5 x6 x7 x8 h hm
    rw [fL_X10_most_93] at hm
    refine q_iload hE 8 (dlX10_most_1.at 15 rfl) rfl ?_
    refine q_iload_n hE 1 (dlX10_most_1.at 16 rfl) rfl rfl ?_
    refine q_icmp_ge hE (tgt := 139) (dlX10_most_1.at 17 rfl) (by decide) hm (fun hc14 hm => ?_) (fun hc14 hm => ?_)
    · refine q_sub hE [0, 1, 2, 3, 4, 5, 6] rfl ?_
      exact hK139 _ _ _ _ _ _ _ hm
    · refine q_aload_n hE 0 (dlX10_most_1.at 18 rfl) rfl rfl ?_
      refine q_iload hE 6 (dlX10_most_1.at 19 rfl) rfl ?_
      refine q_iload hE 7 (dlX10_most_1.at 20 rfl) rfl ?_
      refine q_idiv hE (dlX10_most_1.at 21 rfl) hm (fun hm => ?_)
      refine q_aload_n hE 0 (dlX10_most_1.at 22 rfl) rfl rfl ?_
      refine q_get hE (dlX10_most_1.at 23 rfl) kc10 wf_X10_7 g102 rfl rfl rfl ?_
      refine q_irem hE (dlX10_most_1.at 24 rfl) hm (fun hm => ?_)
      refine q_callV_i (X := fun z => WG V o z) hE (As := [_]) (dlX10_most_1.at 25 rfl) mw_X10_goEvening wm_X10_315 rfl rfl rfl rfl (Nat.zero_le _) (Nat.zero_le _) rfl kc10 g102 rfl (ok_X10_goEvening hfx) hm (fun v15 h15 hm => ?_)
      refine q_pop hE (dlX10_most_1.at 26 rfl) rfl ?_
      refine q_iload hE 7 (dlX10_most_1.at 27 rfl) rfl ?_
      refine q_iconst hE (dlX10_most_1.at 28 rfl) ic_1 ?_
      refine q_icmp_le hE (tgt := 130) (dlX10_most_1.at 29 rfl) (by decide) hm (fun hc16 hm => ?_) (fun hc16 hm => ?_)
      · refine q_iconst hE (dlX10_most_1.at 35 rfl) ic_1 ?_
        refine q_istore hE [(0, _), (1, _), (2, _), (3, _), (4, _), (5, _), (6, _), (7, _), (8, _)] (dlX10_most_1.at 36 rfl) rfl rfl ?_
        refine q_iinc hE [(0, _), (1, _), (2, _), (3, _), (4, _), (5, _), (6, _), (7, _), (8, _)] 8 (dlX10_most_1.at 37 rfl) rfl ic_1 rfl rfl ?_
        refine q_goto hE (tgt := 93) (dlX10_most_1.at 38 rfl) (by decide) ?_
        refine q_sub hE [0, 1, 2, 3, 4, 5, 6, 7, 8] rfl ?_
        exact ih _ _ _ _ _ _ _ _ _  hm
      · refine q_iload hE 7 (dlX10_most_1.at 30 rfl) rfl ?_
        refine q_aload_n hE 0 (dlX10_most_1.at 31 rfl) rfl rfl ?_
        refine q_get hE (dlX10_most_1.at 32 rfl) kc10 wf_X10_7 g102 rfl rfl rfl ?_
        refine q_idiv hE (dlX10_most_1.at 33 rfl) hm (fun hm => ?_)
        refine q_goto hE (tgt := 131) (dlX10_most_1.at 34 rfl) (by decide) ?_
        refine q_istore hE [(0, _), (1, _), (2, _), (3, _), (4, _), (5, _), (6, _), (7, _), (8, _)] (dlX10_most_1.at 36 rfl) rfl rfl ?_
        refine q_iinc hE [(0, _), (1, _), (2, _), (3, _), (4, _), (5, _), (6, _), (7, _), (8, _)] 8 (dlX10_most_1.at 37 rfl) rfl ic_1 rfl rfl ?_
        refine q_goto hE (tgt := 93) (dlX10_most_1.at 38 rfl) (by decide) ?_
        refine q_sub hE [0, 1, 2, 3, 4, 5, 6, 7, 8] rfl ?_
        exact ih _ _ _ _ _ _ _ _ _  hm
set_option maxRecDepth 10000 in
theorem okL_X10_most_72 {V : Ev} {l : Launch} {o : PH} {F : Nat}  (hfx : V.2.2.2.2 = false) {E : Cx} (hE : CX E V l cX10_most RX10 9 7 0 0 (some .int)) {r : Int32 × PH} (hQ : RQ E V 143 (WG V o r.2) (some (.int r.1)) 0 0) : ∀ (n : Nat) (x1 : Int32) (x2 : Int32) (x3 : Int32) (x4 : Int32) (x5 : Int32) (x6 : Int32) (h : PH), fL_X10_most_72 F n x1 x2 x3 x4 x5 x6 h = some r → PW E V 0 0 143 (WG V o h) 72 [(0, rf V 102), (1, .int x1), (2, .int x2), (3, .int x3), (4, .int x4), (5, .int x5), (6, .int x6)] [] := by
  intro n
  induction n with
  | zero => intro x1 x2 x3 x4 x5 x6 h hm; cases hm
  | succ n ih =>
    intro x1 x2 x3 x4 x5 x6 h hm
    rw [fL_X10_most_72] at hm
    refine q_iload hE 6 (dlX10_most_1.at 3 rfl) rfl ?_
    refine q_iload_n hE 3 (dlX10_most_1.at 4 rfl) rfl rfl ?_
    refine q_icmp_ge hE (tgt := 173) (dlX10_most_1.at 5 rfl) (by decide) hm (fun hc8 hm => ?_) (fun hc8 hm => ?_)
    · refine q_aload_n hE 0 (dlX10_most_2.at 14 rfl) rfl rfl ?_
      refine q_iconst hE (dlX10_most_2.at 15 rfl) ic_0 ?_
      refine q_put hE hfx (dlX10_most_2.at 16 rfl) kc10 wf_X10_87 g102 rfl (by decide) (by decide) rfl rfl rfl u102_25 ?_
      refine q_lth (X := fun z => WG V o z) hm (fun h9 hm => ?_)
      refine q_iload_n hE 2 (dlX10_most_2.at 17 rfl) rfl rfl ?_
      refine q_if_ge hE (tgt := 185) (dlX10_most_2.at 18 rfl) (by decide) hm (fun hc10 hm => ?_) (fun hc10 hm => ?_)
      · refine q_iload_n hE 2 (dlX10_most_2.at 21 rfl) rfl rfl ?_
        refine q_iload_n hE 1 (dlX10_most_2.at 22 rfl) rfl rfl ?_
        refine q_icmp_lt hE (tgt := 193) (dlX10_most_2.at 23 rfl) (by decide) hm (fun hc11 hm => ?_) (fun hc11 hm => ?_)
        · refine q_iconst hE (dlX10_most_2.at 26 rfl) ic_1 ?_
          refine q_istore hE [(0, _), (1, _), (2, _), (3, _), (4, _), (5, _), (6, _)] (dlX10_most_2.at 27 rfl) rfl rfl ?_
          refine q_iload_n hE 2 (dlX10_most_2.at 28 rfl) rfl rfl ?_
          refine q_iconst hE (dlX10_most_2.at 29 rfl) ic_1 ?_
          refine q_iadd hE (dlX10_most_2.at 30 rfl) ?_
          refine q_istore hE [(0, _), (1, _), (2, _), (3, _), (4, _), (5, _), (6, _), (7, _)] (dlX10_most_2.at 31 rfl) rfl rfl ?_
          refine q_sub hE [0, 1, 4, 6, 7] rfl ?_
          exact okL_X10_most_201 hfx hE hQ  F _ _ _ _ _  hm
        · refine q_bipush hE (dlX10_most_2.at 24 rfl) bc_m5 ?_
          exact q_iret (X := fun z => WG V o z) hE (dlX10_most_2.at 25 rfl) hm hQ rfl
      · refine q_iload hE 5 (dlX10_most_2.at 19 rfl) rfl ?_
        exact q_iret (X := fun z => WG V o z) hE (dlX10_most_2.at 20 rfl) hm hQ rfl
    · refine q_aload_n hE 0 (dlX10_most_1.at 6 rfl) rfl rfl ?_
      refine q_callV_v (X := fun z => WG V o z) hE (As := []) (dlX10_most_1.at 7 rfl) mw_X10_save wm_X10_321 rfl rfl rfl rfl (Nat.zero_le _) (Nat.zero_le _) rfl kc10 g102 rfl (ok_X10_save hfx) hm (fun v13 h13 hm => ?_)
      refine q_iload_n hE 3 (dlX10_most_1.at 8 rfl) rfl rfl ?_
      refine q_aload_n hE 0 (dlX10_most_1.at 9 rfl) rfl rfl ?_
      refine q_get hE (dlX10_most_1.at 10 rfl) kc10 wf_X10_7 g102 rfl rfl rfl ?_
      refine q_idiv hE (dlX10_most_1.at 11 rfl) hm (fun hm => ?_)
      refine q_istore hE [(0, _), (1, _), (2, _), (3, _), (4, _), (5, _), (6, _), (7, _)] (dlX10_most_1.at 12 rfl) rfl rfl ?_
      refine q_iconst hE (dlX10_most_1.at 13 rfl) ic_0 ?_
      refine q_istore hE [(0, _), (1, _), (2, _), (3, _), (4, _), (5, _), (6, _), (7, _), (8, _)] (dlX10_most_1.at 14 rfl) rfl rfl ?_
      refine q_sub hE [0, 1, 2, 3, 4, 5, 6, 7, 8] rfl ?_
      exact okL_X10_most_93 hfx hE hQ (fun x17 x18 x19 x20 x21 x22 h23  hm => by
            refine q_aload_n hE 0 (dlX10_most_1.at 39 rfl) rfl rfl ?_
            refine q_callV_i (X := fun z => WG V o z) hE (As := []) (dlX10_most_2.at 0 rfl) mw_X10_upMany wm_X10_332 rfl rfl rfl rfl (Nat.zero_le _) (Nat.zero_le _) rfl kc10 g102 rfl (ok_X10_upMany hfx) hm (fun v24 h24 hm => ?_)
            refine q_istore hE [(0, _), (1, _), (2, _), (3, _), (4, _), (5, _), (6, _), (8, _)] (dlX10_most_2.at 1 rfl) rfl rfl ?_
            refine q_aload_n hE 0 (dlX10_most_2.at 2 rfl) rfl rfl ?_
            refine q_callV_v (X := fun z => WG V o z) hE (As := []) (dlX10_most_2.at 3 rfl) mw_X10_putBack wm_X10_324 rfl rfl rfl rfl (Nat.zero_le _) (Nat.zero_le _) rfl kc10 g102 rfl (ok_X10_putBack hfx) hm (fun v25 h25 hm => ?_)
            refine q_iload hE 7 (dlX10_most_2.at 4 rfl) rfl ?_
            refine q_iload hE 5 (dlX10_most_2.at 5 rfl) rfl ?_
            refine q_icmp_gt hE (tgt := 159) (dlX10_most_2.at 6 rfl) (by decide) hm (fun hc26 hm => ?_) (fun hc26 hm => ?_)
            · refine q_iload hE 6 (dlX10_most_2.at 8 rfl) rfl ?_
              refine q_istore hE [(0, _), (1, _), (2, _), (3, _), (4, _), (5, _), (6, _), (8, _)] (dlX10_most_2.at 9 rfl) rfl rfl ?_
              refine q_iload hE 7 (dlX10_most_2.at 10 rfl) rfl ?_
              refine q_istore hE [(0, _), (1, _), (2, _), (3, _), (4, _), (5, _), (6, _), (8, _)] (dlX10_most_2.at 11 rfl) rfl rfl ?_
              refine q_iinc hE [(0, _), (1, _), (2, _), (3, _), (4, _), (5, _), (6, _), (8, _)] 6 (dlX10_most_2.at 12 rfl) rfl ic_1 rfl rfl ?_
              refine q_goto hE (tgt := 72) (dlX10_most_2.at 13 rfl) (by decide) ?_
              refine q_sub hE [0, 1, 2, 3, 4, 5, 6] rfl ?_
              exact ih _ _ _ _ _ _ _  hm
            · refine q_goto hE (tgt := 167) (dlX10_most_2.at 7 rfl) (by decide) ?_
              refine q_iinc hE [(0, _), (1, _), (2, _), (3, _), (4, _), (5, _), (6, _), (8, _)] 6 (dlX10_most_2.at 12 rfl) rfl ic_1 rfl rfl ?_
              refine q_goto hE (tgt := 72) (dlX10_most_2.at 13 rfl) (by decide) ?_
              refine q_sub hE [0, 1, 2, 3, 4, 5, 6] rfl ?_
              exact ih _ _ _ _ _ _ _  hm) F _ _ _ _ _ _ _ _ _  hm
set_option maxRecDepth 10000 in
theorem okL_X10_most_44 {V : Ev} {l : Launch} {o : PH} {F : Nat}  (hfx : V.2.2.2.2 = false) {E : Cx} (hE : CX E V l cX10_most RX10 9 7 0 0 (some .int)) {r : Int32 × PH} (hQ : RQ E V 143 (WG V o r.2) (some (.int r.1)) 0 0) : ∀ (n : Nat) (x1 : Int32) (x2 : Int32) (x3 : Int32) (x4 : Int32) (h : PH), fL_X10_most_44 F n x1 x2 x3 x4 h = some r → PW E V 0 0 143 (WG V o h) 44 [(0, rf V 102), (1, .int x1), (2, .int x2), (3, .int x3), (4, .int x4)] [] := by
  intro n
  induction n with
  | zero => intro x1 x2 x3 x4 h hm; cases hm
  | succ n ih =>
    intro x1 x2 x3 x4 h hm
    rw [fL_X10_most_44] at hm
    refine q_iload hE 4 (dlX10_most_0.at 27 rfl) rfl ?_
    refine q_iload_n hE 1 (dlX10_most_0.at 28 rfl) rfl rfl ?_
    refine q_icmp_ge hE (tgt := 63) (dlX10_most_0.at 29 rfl) (by decide) hm (fun hc7 hm => ?_) (fun hc7 hm => ?_)
    · refine q_iconst hE (dlX10_most_0.at 37 rfl) ic_0 ?_
      refine q_istore hE [(0, _), (1, _), (2, _), (3, _), (4, _)] (dlX10_most_0.at 38 rfl) rfl rfl ?_
      refine q_iconst hE (dlX10_most_0.at 39 rfl) ic_m1 ?_
      refine q_istore hE [(0, _), (1, _), (2, _), (3, _), (4, _), (5, _)] (dlX10_most_1.at 0 rfl) rfl rfl ?_
      refine q_iconst hE (dlX10_most_1.at 1 rfl) ic_0 ?_
      refine q_istore hE [(0, _), (1, _), (2, _), (3, _), (4, _), (5, _), (6, _)] (dlX10_most_1.at 2 rfl) rfl rfl ?_
      refine q_sub hE [0, 1, 2, 3, 4, 5, 6] rfl ?_
      exact okL_X10_most_72 hfx hE hQ  F _ _ _ _ _ _ _  hm
    · refine q_iload_n hE 3 (dlX10_most_0.at 30 rfl) rfl rfl ?_
      refine q_aload_n hE 0 (dlX10_most_0.at 31 rfl) rfl rfl ?_
      refine q_get hE (dlX10_most_0.at 32 rfl) kc10 wf_X10_7 g102 rfl rfl rfl ?_
      refine q_imul hE (dlX10_most_0.at 33 rfl) ?_
      refine q_istore_n hE [(0, _), (1, _), (2, _), (3, _), (4, _)] (dlX10_most_0.at 34 rfl) rfl rfl rfl ?_
      refine q_iinc hE [(0, _), (1, _), (2, _), (3, _), (4, _)] 4 (dlX10_most_0.at 35 rfl) rfl ic_1 rfl rfl ?_
      refine q_goto hE (tgt := 44) (dlX10_most_0.at 36 rfl) (by decide) ?_
      refine q_sub hE [0, 1, 2, 3, 4] rfl ?_
      exact ih _ _ _ _ _  hm
set_option maxRecDepth 10000 in
theorem ok_X10_most {V : Ev} {l : Launch} {o : PH} {F : Nat}  (hfx : V.2.2.2.2 = false) {a1 : Int32} {a2 : Int32} {h : PH} : ∀ (v : Int32) (h' : PH), f_X10_most F a1 a2 h = some (v, h') → Ctr l V yX10_most cX10_most 9 (some .int) 7 [rf V 102, .int a1, .int a2] 143 (WG V o h) 143 (WG V o (h')) (some (.int v)) 0 0 := by
  intro v h' hm
  refine Ctr.intro RX10 (by decide +kernel) rfl rfl rfl ?_
  intro E hE hQ _
  unfold f_X10_most at hm
  refine q_aload_n hE 0 (dlX10_most_0.at 0 rfl) rfl rfl ?_
  refine q_iload_n hE 2 (dlX10_most_0.at 1 rfl) rfl rfl ?_
  refine q_iconst hE (dlX10_most_0.at 2 rfl) ic_m1 ?_
  refine q_iconst hE (dlX10_most_0.at 3 rfl) ic_4 ?_
  refine q_callV_i (X := fun z => WG V o z) hE (As := [_, _, _]) (dlX10_most_0.at 4 rfl) mw_X10_in wm_X10_212 rfl rfl rfl rfl (Nat.zero_le _) (Nat.zero_le _) rfl kc10 g102 rfl (ok_X10_in hfx) hm (fun v1 h1 hm => ?_)
  refine q_if_ne hE (tgt := 12) (dlX10_most_0.at 5 rfl) (by decide) hm (fun hc2 hm => ?_) (fun hc2 hm => ?_)
  · refine q_iconst hE (dlX10_most_0.at 6 rfl) ic_m1 ?_
    exact q_iret (X := fun z => WG V o z) hE (dlX10_most_0.at 7 rfl) hm hQ rfl
  · refine q_aload_n hE 0 (dlX10_most_0.at 8 rfl) rfl rfl ?_
    refine q_iload_n hE 1 (dlX10_most_0.at 9 rfl) rfl rfl ?_
    refine q_iconst hE (dlX10_most_0.at 10 rfl) ic_1 ?_
    refine q_iconst hE (dlX10_most_0.at 11 rfl) ic_5 ?_
    refine q_callV_i (X := fun z => WG V o z) hE (As := [_, _, _]) (dlX10_most_0.at 12 rfl) mw_X10_in wm_X10_212 rfl rfl rfl rfl (Nat.zero_le _) (Nat.zero_le _) rfl kc10 g102 rfl (ok_X10_in hfx) hm (fun v3 h3 hm => ?_)
    refine q_if_ne hE (tgt := 25) (dlX10_most_0.at 13 rfl) (by decide) hm (fun hc4 hm => ?_) (fun hc4 hm => ?_)
    · refine q_bipush hE (dlX10_most_0.at 14 rfl) bc_m2 ?_
      exact q_iret (X := fun z => WG V o z) hE (dlX10_most_0.at 15 rfl) hm hQ rfl
    · refine q_aload_n hE 0 (dlX10_most_0.at 16 rfl) rfl rfl ?_
      refine q_get hE (dlX10_most_0.at 17 rfl) kc10 wf_X10_7 g102 rfl rfl rfl ?_
      refine q_if_ne hE (tgt := 35) (dlX10_most_0.at 18 rfl) (by decide) hm (fun hc5 hm => ?_) (fun hc5 hm => ?_)
      · refine q_bipush hE (dlX10_most_0.at 19 rfl) bc_m5 ?_
        exact q_iret (X := fun z => WG V o z) hE (dlX10_most_0.at 20 rfl) hm hQ rfl
      · refine q_aload_n hE 0 (dlX10_most_0.at 21 rfl) rfl rfl ?_
        refine q_callV_v (X := fun z => WG V o z) hE (As := []) (dlX10_most_0.at 22 rfl) mw_X10_layNews wm_X10_345 rfl rfl rfl rfl (Nat.zero_le _) (Nat.zero_le _) rfl kc10 g102 rfl (ok_X10_layNews hfx) hm (fun v6 h6 hm => ?_)
        refine q_iconst hE (dlX10_most_0.at 23 rfl) ic_1 ?_
        refine q_istore_n hE [(0, _), (1, _), (2, _), (3, _)] (dlX10_most_0.at 24 rfl) rfl rfl rfl ?_
        refine q_iconst hE (dlX10_most_0.at 25 rfl) ic_0 ?_
        refine q_istore hE [(0, _), (1, _), (2, _), (3, _), (4, _)] (dlX10_most_0.at 26 rfl) rfl rfl ?_
        refine q_sub hE [0, 1, 2, 3, 4] rfl ?_
        exact okL_X10_most_44 hfx hE hQ  F _ _ _ _ _  hm
set_option maxRecDepth 10000 in
theorem okL_X10_next_7 {V : Ev} {l : Launch} {o : PH} {F : Nat}  (hfx : V.2.2.2.2 = false) {E : Cx} (hE : CX E V l cX10_next RX10 5 7 0 0 (some .int)) {r : Int32 × PH} (hQ : RQ E V 143 (WG V o r.2) (some (.int r.1)) 0 0) : ∀ (n : Nat) (x1 : Int32) (x2 : Int32) (x3 : Int32) (h : PH), fL_X10_next_7 F n x1 x2 x3 h = some r → PW E V 0 0 143 (WG V o h) 7 [(0, rf V 102), (1, .int x1), (2, .int x2), (3, .int x3)] [] := by
  intro n
  induction n with
  | zero => intro x1 x2 x3 h hm; cases hm
  | succ n ih =>
    intro x1 x2 x3 h hm
    rw [fL_X10_next_7] at hm
    refine q_iload_n hE 3 (dlX10_next_0.at 6 rfl) rfl rfl ?_
    refine q_aload_n hE 0 (dlX10_next_0.at 7 rfl) rfl rfl ?_
    refine q_get hE (dlX10_next_0.at 8 rfl) kc10 wf_X10_7 g102 rfl rfl rfl ?_
    refine q_icmp_ge hE (tgt := 59) (dlX10_next_0.at 9 rfl) (by decide) hm (fun hc1 hm => ?_) (fun hc1 hm => ?_)
    · refine q_iload_n hE 1 (dlX10_next_0.at 33 rfl) rfl rfl ?_
      exact q_iret (X := fun z => WG V o z) hE (dlX10_next_0.at 34 rfl) hm hQ rfl
    · refine q_aload_n hE 0 (dlX10_next_0.at 10 rfl) rfl rfl ?_
      refine q_callV_v (X := fun z => WG V o z) hE (As := []) (dlX10_next_0.at 11 rfl) mw_X10_save wm_X10_321 rfl rfl rfl rfl (Nat.zero_le _) (Nat.zero_le _) rfl kc10 g102 rfl (ok_X10_save hfx) hm (fun v2 h2 hm => ?_)
      refine q_aload_n hE 0 (dlX10_next_0.at 12 rfl) rfl rfl ?_
      refine q_iload_n hE 3 (dlX10_next_0.at 13 rfl) rfl rfl ?_
      refine q_callV_i (X := fun z => WG V o z) hE (As := [_]) (dlX10_next_0.at 14 rfl) mw_X10_goEvening wm_X10_315 rfl rfl rfl rfl (Nat.zero_le _) (Nat.zero_le _) rfl kc10 g102 rfl (ok_X10_goEvening hfx) hm (fun v3 h3 hm => ?_)
      refine q_pop hE (dlX10_next_0.at 15 rfl) rfl ?_
      refine q_aload_n hE 0 (dlX10_next_0.at 16 rfl) rfl rfl ?_
      refine q_callV_i (X := fun z => WG V o z) hE (As := []) (dlX10_next_0.at 17 rfl) mw_X10_allLeft wm_X10_335 rfl rfl rfl rfl (Nat.zero_le _) (Nat.zero_le _) rfl kc10 g102 rfl (ok_X10_allLeft hfx) hm (fun v4 h4 hm => ?_)
      refine q_istore hE [(0, _), (1, _), (2, _), (3, _), (4, _)] (dlX10_next_0.at 18 rfl) rfl rfl ?_
      refine q_aload_n hE 0 (dlX10_next_0.at 19 rfl) rfl rfl ?_
      refine q_callV_v (X := fun z => WG V o z) hE (As := []) (dlX10_next_0.at 20 rfl) mw_X10_putBack wm_X10_324 rfl rfl rfl rfl (Nat.zero_le _) (Nat.zero_le _) rfl kc10 g102 rfl (ok_X10_putBack hfx) hm (fun v5 h5 hm => ?_)
      refine q_iload_n hE 1 (dlX10_next_0.at 21 rfl) rfl rfl ?_
      refine q_if_lt hE (tgt := 48) (dlX10_next_0.at 22 rfl) (by decide) hm (fun hc6 hm => ?_) (fun hc6 hm => ?_)
      · refine q_iload_n hE 3 (dlX10_next_0.at 27 rfl) rfl rfl ?_
        refine q_istore_n hE [(0, _), (1, _), (2, _), (3, _), (4, _)] (dlX10_next_0.at 28 rfl) rfl rfl rfl ?_
        refine q_iload hE 4 (dlX10_next_0.at 29 rfl) rfl ?_
        refine q_istore_n hE [(0, _), (1, _), (2, _), (3, _), (4, _)] (dlX10_next_0.at 30 rfl) rfl rfl rfl ?_
        refine q_iinc hE [(0, _), (1, _), (2, _), (3, _), (4, _)] 3 (dlX10_next_0.at 31 rfl) rfl ic_1 rfl rfl ?_
        refine q_goto hE (tgt := 7) (dlX10_next_0.at 32 rfl) (by decide) ?_
        refine q_sub hE [0, 1, 2, 3] rfl ?_
        exact ih _ _ _ _  hm
      · refine q_iload hE 4 (dlX10_next_0.at 23 rfl) rfl ?_
        refine q_iload_n hE 2 (dlX10_next_0.at 24 rfl) rfl rfl ?_
        refine q_icmp_lt hE (tgt := 48) (dlX10_next_0.at 25 rfl) (by decide) hm (fun hc7 hm => ?_) (fun hc7 hm => ?_)
        · refine q_iload_n hE 3 (dlX10_next_0.at 27 rfl) rfl rfl ?_
          refine q_istore_n hE [(0, _), (1, _), (2, _), (3, _), (4, _)] (dlX10_next_0.at 28 rfl) rfl rfl rfl ?_
          refine q_iload hE 4 (dlX10_next_0.at 29 rfl) rfl ?_
          refine q_istore_n hE [(0, _), (1, _), (2, _), (3, _), (4, _)] (dlX10_next_0.at 30 rfl) rfl rfl rfl ?_
          refine q_iinc hE [(0, _), (1, _), (2, _), (3, _), (4, _)] 3 (dlX10_next_0.at 31 rfl) rfl ic_1 rfl rfl ?_
          refine q_goto hE (tgt := 7) (dlX10_next_0.at 32 rfl) (by decide) ?_
          refine q_sub hE [0, 1, 2, 3] rfl ?_
          exact ih _ _ _ _  hm
        · refine q_goto hE (tgt := 53) (dlX10_next_0.at 26 rfl) (by decide) ?_
          refine q_iinc hE [(0, _), (1, _), (2, _), (3, _), (4, _)] 3 (dlX10_next_0.at 31 rfl) rfl ic_1 rfl rfl ?_
          refine q_goto hE (tgt := 7) (dlX10_next_0.at 32 rfl) (by decide) ?_
          refine q_sub hE [0, 1, 2, 3] rfl ?_
          exact ih _ _ _ _  hm
set_option maxRecDepth 10000 in
theorem ok_X10_next {V : Ev} {l : Launch} {o : PH} {F : Nat}  (hfx : V.2.2.2.2 = false)  {h : PH} : ∀ (v : Int32) (h' : PH), f_X10_next F  h = some (v, h') → Ctr l V yX10_next cX10_next 5 (some .int) 7 [rf V 102] 143 (WG V o h) 143 (WG V o (h')) (some (.int v)) 0 0 := by
  intro v h' hm
  refine Ctr.intro RX10 (by decide +kernel) rfl rfl rfl ?_
  intro E hE hQ _
  unfold f_X10_next at hm
  refine q_bipush hE (dlX10_next_0.at 0 rfl) bc_m5 ?_
  refine q_istore_n hE [(0, _), (1, _)] (dlX10_next_0.at 1 rfl) rfl rfl rfl ?_
  refine q_iconst hE (dlX10_next_0.at 2 rfl) ic_0 ?_
  refine q_istore_n hE [(0, _), (1, _), (2, _)] (dlX10_next_0.at 3 rfl) rfl rfl rfl ?_
  refine q_iconst hE (dlX10_next_0.at 4 rfl) ic_0 ?_
  refine q_istore_n hE [(0, _), (1, _), (2, _), (3, _)] (dlX10_next_0.at 5 rfl) rfl rfl rfl ?_
  refine q_sub hE [0, 1, 2, 3] rfl ?_
  exact okL_X10_next_7 hfx hE hQ  F _ _ _ _  hm
set_option maxRecDepth 10000 in
theorem ok_X10_see {V : Ev} {l : Launch} {o : PH} {F : Nat}  (hfx : V.2.2.2.2 = false) {a1 : Int32} {a2 : Int32} {a3 : Int32} {h : PH} : ∀ (v : Int32) (h' : PH), f_X10_see F a1 a2 a3 h = some (v, h') → Ctr l V yX10_see cX10_see 4 (some .int) 3 [rf V 102, .int a1, .int a2, .int a3] 143 (WG V o h) 143 (WG V o (h')) (some (.int v)) 0 0 := by
  intro v h' hm
  refine Ctr.intro RX10 (by decide +kernel) rfl rfl rfl ?_
  intro E hE hQ _
  unfold f_X10_see at hm
  refine q_iload_n hE 1 (dlX10_see_0.at 0 rfl) rfl rfl ?_
  refine q_iconst hE (dlX10_see_0.at 1 rfl) ic_m1 ?_
  refine q_icmp_ne hE (tgt := 12) (dlX10_see_0.at 2 rfl) (by decide) hm (fun hc1 hm => ?_) (fun hc1 hm => ?_)
  · refine q_aload_n hE 0 (dlX10_see_0.at 3 rfl) rfl rfl ?_
    refine q_iconst hE (dlX10_see_0.at 4 rfl) ic_0 ?_
    refine q_put hE hfx (dlX10_see_0.at 5 rfl) kc10 wf_X10_112 g102 rfl rfl rfl rfl rfl rfl u102_33 ?_
    refine q_lth (X := fun z => WG V o z) hm (fun h13 hm => ?_)
    refine q_iconst hE (dlX10_see_0.at 6 rfl) ic_0 ?_
    exact q_iret (X := fun z => WG V o z) hE (dlX10_see_0.at 7 rfl) hm hQ rfl
  · refine q_aload_n hE 0 (dlX10_see_0.at 8 rfl) rfl rfl ?_
    refine q_iload_n hE 1 (dlX10_see_0.at 9 rfl) rfl rfl ?_
    refine q_callV_i (X := fun z => WG V o z) hE (As := [_]) (dlX10_see_0.at 10 rfl) mw_X10_isClock wm_X10_220 rfl rfl rfl rfl (Nat.zero_le _) (Nat.zero_le _) rfl kc10 g102 rfl (ok_X10_isClock hfx) hm (fun v2 h2 hm => ?_)
    refine q_if_ne hE (tgt := 22) (dlX10_see_0.at 11 rfl) (by decide) hm (fun hc3 hm => ?_) (fun hc3 hm => ?_)
    · refine q_iconst hE (dlX10_see_0.at 12 rfl) ic_m1 ?_
      exact q_iret (X := fun z => WG V o z) hE (dlX10_see_0.at 13 rfl) hm hQ rfl
    · refine q_aload_n hE 0 (dlX10_see_0.at 14 rfl) rfl rfl ?_
      refine q_iload_n hE 2 (dlX10_see_0.at 15 rfl) rfl rfl ?_
      refine q_iconst hE (dlX10_see_0.at 16 rfl) ic_0 ?_
      refine q_sipush hE (dlX10_see_0.at 17 rfl) sc_999 ?_
      refine q_callV_i (X := fun z => WG V o z) hE (As := [_, _, _]) (dlX10_see_0.at 18 rfl) mw_X10_in wm_X10_212 rfl rfl rfl rfl (Nat.zero_le _) (Nat.zero_le _) rfl kc10 g102 rfl (ok_X10_in hfx) hm (fun v4 h4 hm => ?_)
      refine q_if_eq hE (tgt := 45) (dlX10_see_0.at 19 rfl) (by decide) hm (fun hc5 hm => ?_) (fun hc5 hm => ?_)
      · refine q_bipush hE (dlX10_see_0.at 26 rfl) bc_m2 ?_
        exact q_iret (X := fun z => WG V o z) hE (dlX10_see_0.at 27 rfl) hm hQ rfl
      · refine q_aload_n hE 0 (dlX10_see_0.at 20 rfl) rfl rfl ?_
        refine q_iload_n hE 3 (dlX10_see_0.at 21 rfl) rfl rfl ?_
        refine q_iconst hE (dlX10_see_0.at 22 rfl) ic_0 ?_
        refine q_bipush hE (dlX10_see_0.at 23 rfl) bc_20 ?_
        refine q_callV_i (X := fun z => WG V o z) hE (As := [_, _, _]) (dlX10_see_0.at 24 rfl) mw_X10_in wm_X10_212 rfl rfl rfl rfl (Nat.zero_le _) (Nat.zero_le _) rfl kc10 g102 rfl (ok_X10_in hfx) hm (fun v6 h6 hm => ?_)
        refine q_if_ne hE (tgt := 48) (dlX10_see_0.at 25 rfl) (by decide) hm (fun hc7 hm => ?_) (fun hc7 hm => ?_)
        · refine q_bipush hE (dlX10_see_0.at 26 rfl) bc_m2 ?_
          exact q_iret (X := fun z => WG V o z) hE (dlX10_see_0.at 27 rfl) hm hQ rfl
        · refine q_aload_n hE 0 (dlX10_see_0.at 28 rfl) rfl rfl ?_
          refine q_get hE (dlX10_see_0.at 29 rfl) kc10 wf_X10_112 g102 rfl rfl rfl ?_
          refine q_iconst hE (dlX10_see_0.at 30 rfl) ic_5 ?_
          refine q_icmp_ne hE (tgt := 59) (dlX10_see_0.at 31 rfl) (by decide) hm (fun hc8 hm => ?_) (fun hc8 hm => ?_)
          · refine q_bipush hE (dlX10_see_0.at 32 rfl) bc_m4 ?_
            exact q_iret (X := fun z => WG V o z) hE (dlX10_see_0.at 33 rfl) hm hQ rfl
          · refine q_aload_n hE 0 (dlX10_see_0.at 34 rfl) rfl rfl ?_
            refine q_get hE (dlX10_see_0.at 35 rfl) kc10 wf_X10_115 g102 rfl rfl rfl ?_
            refine q_aload_n hE 0 (dlX10_see_0.at 36 rfl) rfl rfl ?_
            refine q_get hE (dlX10_see_0.at 37 rfl) kc10 wf_X10_112 g102 rfl rfl rfl ?_
            refine q_iload_n hE 1 (dlX10_see_0.at 38 rfl) rfl rfl ?_
            refine q_iast hE hfx (dlX10_see_0.at 39 rfl) g122 rfl u122 hm (fun hm => ?_)
            refine q_lth (X := fun z => WG V o z) hm (fun h9 hm => ?_)
            refine q_aload_n hE 0 (dlX10_see_1.at 0 rfl) rfl rfl ?_
            refine q_get hE (dlX10_see_1.at 1 rfl) kc10 wf_X10_118 g102 rfl rfl rfl ?_
            refine q_aload_n hE 0 (dlX10_see_1.at 2 rfl) rfl rfl ?_
            refine q_get hE (dlX10_see_1.at 3 rfl) kc10 wf_X10_112 g102 rfl rfl rfl ?_
            refine q_iload_n hE 2 (dlX10_see_1.at 4 rfl) rfl rfl ?_
            refine q_iast hE hfx (dlX10_see_1.at 5 rfl) g123 rfl u123 hm (fun hm => ?_)
            refine q_lth (X := fun z => WG V o z) hm (fun h10 hm => ?_)
            refine q_aload_n hE 0 (dlX10_see_1.at 6 rfl) rfl rfl ?_
            refine q_get hE (dlX10_see_1.at 7 rfl) kc10 wf_X10_121 g102 rfl rfl rfl ?_
            refine q_aload_n hE 0 (dlX10_see_1.at 8 rfl) rfl rfl ?_
            refine q_get hE (dlX10_see_1.at 9 rfl) kc10 wf_X10_112 g102 rfl rfl rfl ?_
            refine q_iload_n hE 3 (dlX10_see_1.at 10 rfl) rfl rfl ?_
            refine q_iast hE hfx (dlX10_see_1.at 11 rfl) g124 rfl u124 hm (fun hm => ?_)
            refine q_lth (X := fun z => WG V o z) hm (fun h11 hm => ?_)
            refine q_aload_n hE 0 (dlX10_see_1.at 12 rfl) rfl rfl ?_
            refine q_dup hE (dlX10_see_1.at 13 rfl) rfl ?_
            refine q_get hE (dlX10_see_1.at 14 rfl) kc10 wf_X10_112 g102 rfl rfl rfl ?_
            refine q_iconst hE (dlX10_see_1.at 15 rfl) ic_1 ?_
            refine q_iadd hE (dlX10_see_1.at 16 rfl) ?_
            refine q_put hE hfx (dlX10_see_1.at 17 rfl) kc10 wf_X10_112 g102 rfl rfl rfl rfl rfl rfl u102_33 ?_
            refine q_lth (X := fun z => WG V o z) hm (fun h12 hm => ?_)
            refine q_aload_n hE 0 (dlX10_see_1.at 18 rfl) rfl rfl ?_
            refine q_get hE (dlX10_see_1.at 19 rfl) kc10 wf_X10_112 g102 rfl rfl rfl ?_
            exact q_iret (X := fun z => WG V o z) hE (dlX10_see_1.at 20 rfl) hm hQ rfl
set_option maxRecDepth 10000 in
theorem okL_X10_isSeen_4 {V : Ev} {l : Launch} {o : PH} {F : Nat}  (hfx : V.2.2.2.2 = false) {E : Cx} (hE : CX E V l cX10_isSeen RX10 4 8 0 0 (some .boolean)) {r : Int32 × PH} (hQ : RQ E V 143 (WG V o r.2) (some (.int r.1)) 0 0) : ∀ (n : Nat) (x1 : Int32) (x2 : Int32) (x3 : Int32) (h : PH), fL_X10_isSeen_4 F n x1 x2 x3 h = some r → PW E V 0 0 143 (WG V o h) 4 [(0, rf V 102), (1, .int x1), (2, .int x2), (3, .int x3)] [] := by
  intro n
  induction n with
  | zero => intro x1 x2 x3 h hm; cases hm
  | succ n ih =>
    intro x1 x2 x3 h hm
    rw [fL_X10_isSeen_4] at hm
    refine q_iload_n hE 3 (dlX10_isSeen_0.at 4 rfl) rfl rfl ?_
    refine q_aload_n hE 0 (dlX10_isSeen_0.at 5 rfl) rfl rfl ?_
    refine q_get hE (dlX10_isSeen_0.at 6 rfl) kc10 wf_X10_112 g102 rfl rfl rfl ?_
    refine q_icmp_ge hE (tgt := 82) (dlX10_isSeen_0.at 7 rfl) (by decide) hm (fun hc1 hm => ?_) (fun hc1 hm => ?_)
    · refine q_iload_n hE 2 (dlX10_isSeen_1.at 8 rfl) rfl rfl ?_
      exact q_bret (X := fun z => WG V o z) hE (dlX10_isSeen_1.at 9 rfl) hm hQ rfl rfl
    · refine q_iload_n hE 2 (dlX10_isSeen_0.at 8 rfl) rfl rfl ?_
      refine q_if_eq hE (tgt := 82) (dlX10_isSeen_0.at 9 rfl) (by decide) hm (fun hc2 hm => ?_) (fun hc2 hm => ?_)
      · refine q_iload_n hE 2 (dlX10_isSeen_1.at 8 rfl) rfl rfl ?_
        exact q_bret (X := fun z => WG V o z) hE (dlX10_isSeen_1.at 9 rfl) hm hQ rfl rfl
      · refine q_aload_n hE 0 (dlX10_isSeen_0.at 10 rfl) rfl rfl ?_
        refine q_get hE (dlX10_isSeen_0.at 11 rfl) kc10 wf_X10_115 g102 rfl rfl rfl ?_
        refine q_iload_n hE 3 (dlX10_isSeen_0.at 12 rfl) rfl rfl ?_
        refine q_iald hE (dlX10_isSeen_0.at 13 rfl) g122 rfl hm (fun hm => ?_)
        refine q_iload_n hE 1 (dlX10_isSeen_0.at 14 rfl) rfl rfl ?_
        refine q_icmp_eq hE (tgt := 29) (dlX10_isSeen_0.at 15 rfl) (by decide) hm (fun hc3 hm => ?_) (fun hc3 hm => ?_)
        · refine q_aload_n hE 0 (dlX10_isSeen_0.at 17 rfl) rfl rfl ?_
          refine q_callV_v (X := fun z => WG V o z) hE (As := []) (dlX10_isSeen_0.at 18 rfl) mw_X10_save wm_X10_321 rfl rfl rfl rfl (Nat.zero_le _) (Nat.zero_le _) rfl kc10 g102 rfl (ok_X10_save hfx) hm (fun v4 h4 hm => ?_)
          refine q_aload_n hE 0 (dlX10_isSeen_0.at 19 rfl) rfl rfl ?_
          refine q_iload_n hE 1 (dlX10_isSeen_0.at 20 rfl) rfl rfl ?_
          refine q_aload_n hE 0 (dlX10_isSeen_0.at 21 rfl) rfl rfl ?_
          refine q_get hE (dlX10_isSeen_0.at 22 rfl) kc10 wf_X10_121 g102 rfl rfl rfl ?_
          refine q_iload_n hE 3 (dlX10_isSeen_0.at 23 rfl) rfl rfl ?_
          refine q_iald hE (dlX10_isSeen_0.at 24 rfl) g124 rfl hm (fun hm => ?_)
          refine q_callV_v (X := fun z => WG V o z) hE (As := [_, _]) (dlX10_isSeen_0.at 25 rfl) mw_X10_goEvenings wm_X10_338 rfl rfl rfl rfl (Nat.zero_le _) (Nat.zero_le _) rfl kc10 g102 rfl (ok_X10_goEvenings hfx) hm (fun v5 h5 hm => ?_)
          refine q_aload_n hE 0 (dlX10_isSeen_0.at 26 rfl) rfl rfl ?_
          refine q_get hE (dlX10_isSeen_0.at 27 rfl) kc10 wf_X10_26 g102 rfl rfl rfl ?_
          refine q_iload_n hE 1 (dlX10_isSeen_0.at 28 rfl) rfl rfl ?_
          refine q_iald hE (dlX10_isSeen_0.at 29 rfl) g105 rfl hm (fun hm => ?_)
          refine q_aload_n hE 0 (dlX10_isSeen_0.at 30 rfl) rfl rfl ?_
          refine q_get hE (dlX10_isSeen_0.at 31 rfl) kc10 wf_X10_103 g102 rfl rfl rfl ?_
          refine q_iload_n hE 1 (dlX10_isSeen_0.at 32 rfl) rfl rfl ?_
          refine q_iald hE (dlX10_isSeen_0.at 33 rfl) g119 rfl hm (fun hm => ?_)
          refine q_isub hE (dlX10_isSeen_0.at 34 rfl) ?_
          refine q_aload_n hE 0 (dlX10_isSeen_0.at 35 rfl) rfl rfl ?_
          refine q_get hE (dlX10_isSeen_0.at 36 rfl) kc10 wf_X10_118 g102 rfl rfl rfl ?_
          refine q_iload_n hE 3 (dlX10_isSeen_0.at 37 rfl) rfl rfl ?_
          refine q_iald hE (dlX10_isSeen_0.at 38 rfl) g123 rfl hm (fun hm => ?_)
          refine q_icmp_ne hE (tgt := 70) (dlX10_isSeen_0.at 39 rfl) (by decide) hm (fun hc6 hm => ?_) (fun hc6 hm => ?_)
          · refine q_iconst hE (dlX10_isSeen_1.at 0 rfl) ic_1 ?_
            refine q_goto hE (tgt := 71) (dlX10_isSeen_1.at 1 rfl) (by decide) ?_
            refine q_istore_n hE [(0, _), (1, _), (2, _), (3, _)] (dlX10_isSeen_1.at 3 rfl) rfl rfl rfl ?_
            refine q_aload_n hE 0 (dlX10_isSeen_1.at 4 rfl) rfl rfl ?_
            refine q_callV_v (X := fun z => WG V o z) hE (As := []) (dlX10_isSeen_1.at 5 rfl) mw_X10_putBack wm_X10_324 rfl rfl rfl rfl (Nat.zero_le _) (Nat.zero_le _) rfl kc10 g102 rfl (ok_X10_putBack hfx) hm (fun v8 h8 hm => ?_)
            refine q_iinc hE [(0, _), (1, _), (2, _), (3, _)] 3 (dlX10_isSeen_1.at 6 rfl) rfl ic_1 rfl rfl ?_
            refine q_goto hE (tgt := 4) (dlX10_isSeen_1.at 7 rfl) (by decide) ?_
            refine q_sub hE [0, 1, 2, 3] rfl ?_
            exact ih _ _ _ _  hm
          · refine q_iconst hE (dlX10_isSeen_1.at 2 rfl) ic_0 ?_
            refine q_istore_n hE [(0, _), (1, _), (2, _), (3, _)] (dlX10_isSeen_1.at 3 rfl) rfl rfl rfl ?_
            refine q_aload_n hE 0 (dlX10_isSeen_1.at 4 rfl) rfl rfl ?_
            refine q_callV_v (X := fun z => WG V o z) hE (As := []) (dlX10_isSeen_1.at 5 rfl) mw_X10_putBack wm_X10_324 rfl rfl rfl rfl (Nat.zero_le _) (Nat.zero_le _) rfl kc10 g102 rfl (ok_X10_putBack hfx) hm (fun v7 h7 hm => ?_)
            refine q_iinc hE [(0, _), (1, _), (2, _), (3, _)] 3 (dlX10_isSeen_1.at 6 rfl) rfl ic_1 rfl rfl ?_
            refine q_goto hE (tgt := 4) (dlX10_isSeen_1.at 7 rfl) (by decide) ?_
            refine q_sub hE [0, 1, 2, 3] rfl ?_
            exact ih _ _ _ _  hm
        · refine q_goto hE (tgt := 76) (dlX10_isSeen_0.at 16 rfl) (by decide) ?_
          refine q_iinc hE [(0, _), (1, _), (2, _), (3, _)] 3 (dlX10_isSeen_1.at 6 rfl) rfl ic_1 rfl rfl ?_
          refine q_goto hE (tgt := 4) (dlX10_isSeen_1.at 7 rfl) (by decide) ?_
          refine q_sub hE [0, 1, 2, 3] rfl ?_
          exact ih _ _ _ _  hm
set_option maxRecDepth 10000 in
theorem ok_X10_isSeen {V : Ev} {l : Launch} {o : PH} {F : Nat}  (hfx : V.2.2.2.2 = false) {a1 : Int32} {h : PH} : ∀ (v : Int32) (h' : PH), f_X10_isSeen F a1 h = some (v, h') → Ctr l V yX10_isSeen cX10_isSeen 4 (some .boolean) 8 [rf V 102, .int a1] 143 (WG V o h) 143 (WG V o (h')) (some (.int v)) 0 0 := by
  intro v h' hm
  refine Ctr.intro RX10 (by decide +kernel) rfl rfl rfl ?_
  intro E hE hQ _
  unfold f_X10_isSeen at hm
  refine q_iconst hE (dlX10_isSeen_0.at 0 rfl) ic_1 ?_
  refine q_istore_n hE [(0, _), (1, _), (2, _)] (dlX10_isSeen_0.at 1 rfl) rfl rfl rfl ?_
  refine q_iconst hE (dlX10_isSeen_0.at 2 rfl) ic_0 ?_
  refine q_istore_n hE [(0, _), (1, _), (2, _), (3, _)] (dlX10_isSeen_0.at 3 rfl) rfl rfl rfl ?_
  refine q_sub hE [0, 1, 2, 3] rfl ?_
  exact okL_X10_isSeen_4 hfx hE hQ  F _ _ _ _  hm
set_option maxRecDepth 10000 in
theorem okL_X10_since_54 {V : Ev} {l : Launch} {o : PH} {F : Nat}  (hfx : V.2.2.2.2 = false) {E : Cx} (hE : CX E V l cX10_since RX10 7 9 0 0 (some .int)) {r : Int32 × PH} (hQ : RQ E V 143 (WG V o r.2) (some (.int r.1)) 0 0) : ∀ (n : Nat) (x1 : Int32) (x2 : Int32) (x3 : Int32) (x4 : Int32) (x5 : Int32) (x6 : Int32) (h : PH), fL_X10_since_54 F n x1 x2 x3 x4 x5 x6 h = some r → PW E V 0 0 143 (WG V o h) 54 [(0, rf V 102), (1, .int x1), (2, .int x2), (3, .int x3), (4, .int x4), (5, .int x5), (6, .int x6)] [] := by
  intro n
  induction n with
  | zero => intro x1 x2 x3 x4 x5 x6 h hm; cases hm
  | succ n ih =>
    intro x1 x2 x3 x4 x5 x6 h hm
    rw [fL_X10_since_54] at hm
    refine q_iload hE 6 (dlX10_since_0.at 30 rfl) rfl ?_
    refine q_if_lt hE (tgt := 96) (dlX10_since_0.at 31 rfl) (by decide) hm (fun hc6 hm => ?_) (fun hc6 hm => ?_)
    · refine q_aload_n hE 0 (dlX10_since_1.at 10 rfl) rfl rfl ?_
      refine q_get hE (dlX10_since_1.at 11 rfl) kc10 wf_X10_26 g102 rfl rfl rfl ?_
      refine q_iload_n hE 1 (dlX10_since_1.at 12 rfl) rfl rfl ?_
      refine q_iload_n hE 3 (dlX10_since_1.at 13 rfl) rfl rfl ?_
      refine q_iast hE hfx (dlX10_since_1.at 14 rfl) g105 rfl u105 hm (fun hm => ?_)
      refine q_lth (X := fun z => WG V o z) hm (fun h7 hm => ?_)
      refine q_iload_n hE 2 (dlX10_since_1.at 15 rfl) rfl rfl ?_
      refine q_if_ne hE (tgt := 112) (dlX10_since_1.at 16 rfl) (by decide) hm (fun hc8 hm => ?_) (fun hc8 hm => ?_)
      · refine q_iload hE 4 (dlX10_since_1.at 17 rfl) rfl ?_
        refine q_goto hE (tgt := 114) (dlX10_since_1.at 18 rfl) (by decide) ?_
        exact q_iret (X := fun z => WG V o z) hE (dlX10_since_1.at 20 rfl) hm hQ rfl
      · refine q_iload hE 5 (dlX10_since_1.at 19 rfl) rfl ?_
        exact q_iret (X := fun z => WG V o z) hE (dlX10_since_1.at 20 rfl) hm hQ rfl
    · refine q_aload_n hE 0 (dlX10_since_0.at 32 rfl) rfl rfl ?_
      refine q_get hE (dlX10_since_0.at 33 rfl) kc10 wf_X10_26 g102 rfl rfl rfl ?_
      refine q_iload_n hE 1 (dlX10_since_0.at 34 rfl) rfl rfl ?_
      refine q_aload_n hE 0 (dlX10_since_0.at 35 rfl) rfl rfl ?_
      refine q_get hE (dlX10_since_0.at 36 rfl) kc10 wf_X10_16 g102 rfl rfl rfl ?_
      refine q_iload hE 6 (dlX10_since_0.at 37 rfl) rfl ?_
      refine q_isub hE (dlX10_since_0.at 38 rfl) ?_
      refine q_iast hE hfx (dlX10_since_0.at 39 rfl) g105 rfl u105 hm (fun hm => ?_)
      refine q_lth (X := fun z => WG V o z) hm (fun h9 hm => ?_)
      refine q_aload_n hE 0 (dlX10_since_1.at 0 rfl) rfl rfl ?_
      refine q_iload_n hE 1 (dlX10_since_1.at 1 rfl) rfl rfl ?_
      refine q_callV_i (X := fun z => WG V o z) hE (As := [_]) (dlX10_since_1.at 2 rfl) mw_X10_isSeen wm_X10_354 rfl rfl rfl rfl (Nat.zero_le _) (Nat.zero_le _) rfl kc10 g102 rfl (ok_X10_isSeen hfx) hm (fun v10 h10 hm => ?_)
      refine q_if_ne hE (tgt := 83) (dlX10_since_1.at 3 rfl) (by decide) hm (fun hc11 hm => ?_) (fun hc11 hm => ?_)
      · refine q_goto hE (tgt := 90) (dlX10_since_1.at 4 rfl) (by decide) ?_
        refine q_iinc hE [(0, _), (1, _), (2, _), (3, _), (4, _), (5, _), (6, _)] 6 (dlX10_since_1.at 8 rfl) rfl ic_m1 rfl rfl ?_
        refine q_goto hE (tgt := 54) (dlX10_since_1.at 9 rfl) (by decide) ?_
        refine q_sub hE [0, 1, 2, 3, 4, 5, 6] rfl ?_
        exact ih _ _ _ _ _ _ _  hm
      · refine q_iinc hE [(0, _), (1, _), (2, _), (3, _), (4, _), (5, _), (6, _)] 4 (dlX10_since_1.at 5 rfl) rfl ic_1 rfl rfl ?_
        refine q_iload hE 6 (dlX10_since_1.at 6 rfl) rfl ?_
        refine q_istore hE [(0, _), (1, _), (2, _), (3, _), (4, _), (5, _), (6, _)] (dlX10_since_1.at 7 rfl) rfl rfl ?_
        refine q_iinc hE [(0, _), (1, _), (2, _), (3, _), (4, _), (5, _), (6, _)] 6 (dlX10_since_1.at 8 rfl) rfl ic_m1 rfl rfl ?_
        refine q_goto hE (tgt := 54) (dlX10_since_1.at 9 rfl) (by decide) ?_
        refine q_sub hE [0, 1, 2, 3, 4, 5, 6] rfl ?_
        exact ih _ _ _ _ _ _ _  hm
set_option maxRecDepth 10000 in
theorem ok_X10_since {V : Ev} {l : Launch} {o : PH} {F : Nat}  (hfx : V.2.2.2.2 = false) {a1 : Int32} {a2 : Int32} {h : PH} : ∀ (v : Int32) (h' : PH), f_X10_since F a1 a2 h = some (v, h') → Ctr l V yX10_since cX10_since 7 (some .int) 9 [rf V 102, .int a1, .int a2] 143 (WG V o h) 143 (WG V o (h')) (some (.int v)) 0 0 := by
  intro v h' hm
  refine Ctr.intro RX10 (by decide +kernel) rfl rfl rfl ?_
  intro E hE hQ _
  unfold f_X10_since at hm
  refine q_aload_n hE 0 (dlX10_since_0.at 0 rfl) rfl rfl ?_
  refine q_iload_n hE 1 (dlX10_since_0.at 1 rfl) rfl rfl ?_
  refine q_callV_i (X := fun z => WG V o z) hE (As := [_]) (dlX10_since_0.at 2 rfl) mw_X10_isClock wm_X10_220 rfl rfl rfl rfl (Nat.zero_le _) (Nat.zero_le _) rfl kc10 g102 rfl (ok_X10_isClock hfx) hm (fun v1 h1 hm => ?_)
  refine q_if_eq hE (tgt := 18) (dlX10_since_0.at 3 rfl) (by decide) hm (fun hc2 hm => ?_) (fun hc2 hm => ?_)
  · refine q_iconst hE (dlX10_since_0.at 10 rfl) ic_m1 ?_
    exact q_iret (X := fun z => WG V o z) hE (dlX10_since_0.at 11 rfl) hm hQ rfl
  · refine q_aload_n hE 0 (dlX10_since_0.at 4 rfl) rfl rfl ?_
    refine q_iload_n hE 2 (dlX10_since_0.at 5 rfl) rfl rfl ?_
    refine q_iconst hE (dlX10_since_0.at 6 rfl) ic_0 ?_
    refine q_iconst hE (dlX10_since_0.at 7 rfl) ic_1 ?_
    refine q_callV_i (X := fun z => WG V o z) hE (As := [_, _, _]) (dlX10_since_0.at 8 rfl) mw_X10_in wm_X10_212 rfl rfl rfl rfl (Nat.zero_le _) (Nat.zero_le _) rfl kc10 g102 rfl (ok_X10_in hfx) hm (fun v3 h3 hm => ?_)
    refine q_if_ne hE (tgt := 20) (dlX10_since_0.at 9 rfl) (by decide) hm (fun hc4 hm => ?_) (fun hc4 hm => ?_)
    · refine q_iconst hE (dlX10_since_0.at 10 rfl) ic_m1 ?_
      exact q_iret (X := fun z => WG V o z) hE (dlX10_since_0.at 11 rfl) hm hQ rfl
    · refine q_aload_n hE 0 (dlX10_since_0.at 12 rfl) rfl rfl ?_
      refine q_get hE (dlX10_since_0.at 13 rfl) kc10 wf_X10_26 g102 rfl rfl rfl ?_
      refine q_iload_n hE 1 (dlX10_since_0.at 14 rfl) rfl rfl ?_
      refine q_iald hE (dlX10_since_0.at 15 rfl) g105 rfl hm (fun hm => ?_)
      refine q_istore_n hE [(0, _), (1, _), (2, _), (3, _)] (dlX10_since_0.at 16 rfl) rfl rfl rfl ?_
      refine q_iconst hE (dlX10_since_0.at 17 rfl) ic_0 ?_
      refine q_istore hE [(0, _), (1, _), (2, _), (3, _), (4, _)] (dlX10_since_0.at 18 rfl) rfl rfl ?_
      refine q_bipush hE (dlX10_since_0.at 19 rfl) bc_m5 ?_
      refine q_istore hE [(0, _), (1, _), (2, _), (3, _), (4, _), (5, _)] (dlX10_since_0.at 20 rfl) rfl rfl ?_
      refine q_aload_n hE 0 (dlX10_since_0.at 21 rfl) rfl rfl ?_
      refine q_get hE (dlX10_since_0.at 22 rfl) kc10 wf_X10_16 g102 rfl rfl rfl ?_
      refine q_bipush hE (dlX10_since_0.at 23 rfl) bc_99 ?_
      refine q_icmp_ge hE (tgt := 50) (dlX10_since_0.at 24 rfl) (by decide) hm (fun hc5 hm => ?_) (fun hc5 hm => ?_)
      · refine q_bipush hE (dlX10_since_0.at 28 rfl) bc_99 ?_
        refine q_istore hE [(0, _), (1, _), (2, _), (3, _), (4, _), (5, _), (6, _)] (dlX10_since_0.at 29 rfl) rfl rfl ?_
        refine q_sub hE [0, 1, 2, 3, 4, 5, 6] rfl ?_
        exact okL_X10_since_54 hfx hE hQ  F _ _ _ _ _ _ _  hm
      · refine q_aload_n hE 0 (dlX10_since_0.at 25 rfl) rfl rfl ?_
        refine q_get hE (dlX10_since_0.at 26 rfl) kc10 wf_X10_16 g102 rfl rfl rfl ?_
        refine q_goto hE (tgt := 52) (dlX10_since_0.at 27 rfl) (by decide) ?_
        refine q_istore hE [(0, _), (1, _), (2, _), (3, _), (4, _), (5, _), (6, _)] (dlX10_since_0.at 29 rfl) rfl rfl ?_
        refine q_sub hE [0, 1, 2, 3, 4, 5, 6] rfl ?_
        exact okL_X10_since_54 hfx hE hQ  F _ _ _ _ _ _ _  hm
set_option maxRecDepth 10000 in
theorem okL_X10_can_38 {V : Ev} {l : Launch} {o : PH} {F : Nat}  (hfx : V.2.2.2.2 = false) {E : Cx} (hE : CX E V l cX10_can RX10 7 9 0 0 (some .int)) {r : Int32 × PH} (hQ : RQ E V 143 (WG V o r.2) (some (.int r.1)) 0 0) : ∀ (n : Nat) (x1 : Int32) (x2 : Int32) (x3 : Int32) (x4 : Int32) (x5 : Int32) (x6 : Int32) (h : PH), fL_X10_can_38 F n x1 x2 x3 x4 x5 x6 h = some r → PW E V 0 0 143 (WG V o h) 38 [(0, rf V 102), (1, .int x1), (2, .int x2), (3, .int x3), (4, .int x4), (5, .int x5), (6, .int x6)] [] := by
  intro n
  induction n with
  | zero => intro x1 x2 x3 x4 x5 x6 h hm; cases hm
  | succ n ih =>
    intro x1 x2 x3 x4 x5 x6 h hm
    rw [fL_X10_can_38] at hm
    refine q_iload hE 6 (dlX10_can_0.at 23 rfl) rfl ?_
    refine q_if_lt hE (tgt := 75) (dlX10_can_0.at 24 rfl) (by decide) hm (fun hc5 hm => ?_) (fun hc5 hm => ?_)
    · refine q_aload_n hE 0 (dlX10_can_1.at 0 rfl) rfl rfl ?_
      refine q_get hE (dlX10_can_1.at 1 rfl) kc10 wf_X10_23 g102 rfl rfl rfl ?_
      refine q_iload_n hE 1 (dlX10_can_1.at 2 rfl) rfl rfl ?_
      refine q_iload_n hE 3 (dlX10_can_1.at 3 rfl) rfl rfl ?_
      refine q_iast hE hfx (dlX10_can_1.at 4 rfl) g104 rfl u104 hm (fun hm => ?_)
      refine q_lth (X := fun z => WG V o z) hm (fun h6 hm => ?_)
      refine q_iload_n hE 2 (dlX10_can_1.at 5 rfl) rfl rfl ?_
      refine q_if_ne hE (tgt := 91) (dlX10_can_1.at 6 rfl) (by decide) hm (fun hc7 hm => ?_) (fun hc7 hm => ?_)
      · refine q_iload hE 4 (dlX10_can_1.at 7 rfl) rfl ?_
        refine q_goto hE (tgt := 93) (dlX10_can_1.at 8 rfl) (by decide) ?_
        exact q_iret (X := fun z => WG V o z) hE (dlX10_can_1.at 10 rfl) hm hQ rfl
      · refine q_iload hE 5 (dlX10_can_1.at 9 rfl) rfl ?_
        exact q_iret (X := fun z => WG V o z) hE (dlX10_can_1.at 10 rfl) hm hQ rfl
    · refine q_aload_n hE 0 (dlX10_can_0.at 25 rfl) rfl rfl ?_
      refine q_get hE (dlX10_can_0.at 26 rfl) kc10 wf_X10_23 g102 rfl rfl rfl ?_
      refine q_iload_n hE 1 (dlX10_can_0.at 27 rfl) rfl rfl ?_
      refine q_iload hE 6 (dlX10_can_0.at 28 rfl) rfl ?_
      refine q_iast hE hfx (dlX10_can_0.at 29 rfl) g104 rfl u104 hm (fun hm => ?_)
      refine q_lth (X := fun z => WG V o z) hm (fun h8 hm => ?_)
      refine q_aload_n hE 0 (dlX10_can_0.at 30 rfl) rfl rfl ?_
      refine q_iload_n hE 1 (dlX10_can_0.at 31 rfl) rfl rfl ?_
      refine q_callV_i (X := fun z => WG V o z) hE (As := [_]) (dlX10_can_0.at 32 rfl) mw_X10_isSeen wm_X10_354 rfl rfl rfl rfl (Nat.zero_le _) (Nat.zero_le _) rfl kc10 g102 rfl (ok_X10_isSeen hfx) hm (fun v9 h9 hm => ?_)
      refine q_if_ne hE (tgt := 62) (dlX10_can_0.at 33 rfl) (by decide) hm (fun hc10 hm => ?_) (fun hc10 hm => ?_)
      · refine q_goto hE (tgt := 69) (dlX10_can_0.at 34 rfl) (by decide) ?_
        refine q_iinc hE [(0, _), (1, _), (2, _), (3, _), (4, _), (5, _), (6, _)] 6 (dlX10_can_0.at 38 rfl) rfl ic_m1 rfl rfl ?_
        refine q_goto hE (tgt := 38) (dlX10_can_0.at 39 rfl) (by decide) ?_
        refine q_sub hE [0, 1, 2, 3, 4, 5, 6] rfl ?_
        exact ih _ _ _ _ _ _ _  hm
      · refine q_iinc hE [(0, _), (1, _), (2, _), (3, _), (4, _), (5, _), (6, _)] 4 (dlX10_can_0.at 35 rfl) rfl ic_1 rfl rfl ?_
        refine q_iload hE 6 (dlX10_can_0.at 36 rfl) rfl ?_
        refine q_istore hE [(0, _), (1, _), (2, _), (3, _), (4, _), (5, _), (6, _)] (dlX10_can_0.at 37 rfl) rfl rfl ?_
        refine q_iinc hE [(0, _), (1, _), (2, _), (3, _), (4, _), (5, _), (6, _)] 6 (dlX10_can_0.at 38 rfl) rfl ic_m1 rfl rfl ?_
        refine q_goto hE (tgt := 38) (dlX10_can_0.at 39 rfl) (by decide) ?_
        refine q_sub hE [0, 1, 2, 3, 4, 5, 6] rfl ?_
        exact ih _ _ _ _ _ _ _  hm
set_option maxRecDepth 10000 in
theorem ok_X10_can {V : Ev} {l : Launch} {o : PH} {F : Nat}  (hfx : V.2.2.2.2 = false) {a1 : Int32} {a2 : Int32} {h : PH} : ∀ (v : Int32) (h' : PH), f_X10_can F a1 a2 h = some (v, h') → Ctr l V yX10_can cX10_can 7 (some .int) 9 [rf V 102, .int a1, .int a2] 143 (WG V o h) 143 (WG V o (h')) (some (.int v)) 0 0 := by
  intro v h' hm
  refine Ctr.intro RX10 (by decide +kernel) rfl rfl rfl ?_
  intro E hE hQ _
  unfold f_X10_can at hm
  refine q_aload_n hE 0 (dlX10_can_0.at 0 rfl) rfl rfl ?_
  refine q_iload_n hE 1 (dlX10_can_0.at 1 rfl) rfl rfl ?_
  refine q_callV_i (X := fun z => WG V o z) hE (As := [_]) (dlX10_can_0.at 2 rfl) mw_X10_isClock wm_X10_220 rfl rfl rfl rfl (Nat.zero_le _) (Nat.zero_le _) rfl kc10 g102 rfl (ok_X10_isClock hfx) hm (fun v1 h1 hm => ?_)
  refine q_if_eq hE (tgt := 18) (dlX10_can_0.at 3 rfl) (by decide) hm (fun hc2 hm => ?_) (fun hc2 hm => ?_)
  · refine q_iconst hE (dlX10_can_0.at 10 rfl) ic_m1 ?_
    exact q_iret (X := fun z => WG V o z) hE (dlX10_can_0.at 11 rfl) hm hQ rfl
  · refine q_aload_n hE 0 (dlX10_can_0.at 4 rfl) rfl rfl ?_
    refine q_iload_n hE 2 (dlX10_can_0.at 5 rfl) rfl rfl ?_
    refine q_iconst hE (dlX10_can_0.at 6 rfl) ic_0 ?_
    refine q_iconst hE (dlX10_can_0.at 7 rfl) ic_1 ?_
    refine q_callV_i (X := fun z => WG V o z) hE (As := [_, _, _]) (dlX10_can_0.at 8 rfl) mw_X10_in wm_X10_212 rfl rfl rfl rfl (Nat.zero_le _) (Nat.zero_le _) rfl kc10 g102 rfl (ok_X10_in hfx) hm (fun v3 h3 hm => ?_)
    refine q_if_ne hE (tgt := 20) (dlX10_can_0.at 9 rfl) (by decide) hm (fun hc4 hm => ?_) (fun hc4 hm => ?_)
    · refine q_iconst hE (dlX10_can_0.at 10 rfl) ic_m1 ?_
      exact q_iret (X := fun z => WG V o z) hE (dlX10_can_0.at 11 rfl) hm hQ rfl
    · refine q_aload_n hE 0 (dlX10_can_0.at 12 rfl) rfl rfl ?_
      refine q_get hE (dlX10_can_0.at 13 rfl) kc10 wf_X10_23 g102 rfl rfl rfl ?_
      refine q_iload_n hE 1 (dlX10_can_0.at 14 rfl) rfl rfl ?_
      refine q_iald hE (dlX10_can_0.at 15 rfl) g104 rfl hm (fun hm => ?_)
      refine q_istore_n hE [(0, _), (1, _), (2, _), (3, _)] (dlX10_can_0.at 16 rfl) rfl rfl rfl ?_
      refine q_iconst hE (dlX10_can_0.at 17 rfl) ic_0 ?_
      refine q_istore hE [(0, _), (1, _), (2, _), (3, _), (4, _)] (dlX10_can_0.at 18 rfl) rfl rfl ?_
      refine q_bipush hE (dlX10_can_0.at 19 rfl) bc_m5 ?_
      refine q_istore hE [(0, _), (1, _), (2, _), (3, _), (4, _), (5, _)] (dlX10_can_0.at 20 rfl) rfl rfl ?_
      refine q_bipush hE (dlX10_can_0.at 21 rfl) bc_9 ?_
      refine q_istore hE [(0, _), (1, _), (2, _), (3, _), (4, _), (5, _), (6, _)] (dlX10_can_0.at 22 rfl) rfl rfl ?_
      refine q_sub hE [0, 1, 2, 3, 4, 5, 6] rfl ?_
      exact okL_X10_can_38 hfx hE hQ  F _ _ _ _ _ _ _  hm
set_option maxRecDepth 10000 in
theorem okL_X10_divisor_5 {V : Ev} {l : Launch} {o : PH} {F : Nat}  (hfx : V.2.2.2.2 = false) {E : Cx} (hE : CX E V l cX10_divisor RX10 6 1 0 0 (some .int)) {r : Int32 × PH} (hQ : RQ E V 143 (WG V o r.2) (some (.int r.1)) 0 0) : ∀ (n : Nat) (x3 : Int32) (x4 : Int32) (h : PH), fL_X10_divisor_5 F n x3 x4 h = some r → PW E V 0 0 143 (WG V o h) 5 [(3, .int x3), (4, .int x4)] [] := by
  intro n
  induction n with
  | zero => intro x3 x4 h hm; cases hm
  | succ n ih =>
    intro x3 x4 h hm
    rw [fL_X10_divisor_5] at hm
    refine q_iload hE 1 (dlX10_divisor_0.at 4 rfl) rfl ?_
    refine q_if_eq hE (tgt := 26) (dlX10_divisor_0.at 5 rfl) (by decide) hm (fun hc1 hm => ?_) (fun hc1 hm => ?_)
    · refine q_iload_n hE 0 (dlX10_divisor_0.at 15 rfl) rfl rfl ?_
      exact q_iret (X := fun z => WG V o z) hE (dlX10_divisor_0.at 16 rfl) hm hQ rfl
    · refine q_iload_n hE 0 (dlX10_divisor_0.at 6 rfl) rfl rfl ?_
      refine q_iload hE 1 (dlX10_divisor_0.at 7 rfl) rfl ?_
      refine q_irem hE (dlX10_divisor_0.at 8 rfl) hm (fun hm => ?_)
      refine q_istore hE [(3, _), (4, _), (5, _)] (dlX10_divisor_0.at 9 rfl) rfl rfl ?_
      refine q_iload hE 1 (dlX10_divisor_0.at 10 rfl) rfl ?_
      refine q_istore_n hE [(3, _), (4, _), (5, _)] (dlX10_divisor_0.at 11 rfl) rfl rfl rfl ?_
      refine q_iload hE 2 (dlX10_divisor_0.at 12 rfl) rfl ?_
      refine q_istore hE [(3, _), (4, _), (5, _)] (dlX10_divisor_0.at 13 rfl) rfl rfl ?_
      refine q_goto hE (tgt := 5) (dlX10_divisor_0.at 14 rfl) (by decide) ?_
      refine q_sub hE [0, 1] rfl ?_
      exact ih _ _ _  hm
set_option maxRecDepth 10000 in
theorem ok_X10_divisor {V : Ev} {l : Launch} {o : PH} {F : Nat}  (hfx : V.2.2.2.2 = false) {a1 : Int32} {a2 : Int32} {h : PH} : ∀ (v : Int32) (h' : PH), f_X10_divisor F a1 a2 h = some (v, h') → Ctr l V yX10_divisor cX10_divisor 6 (some .int) 1 [rf V 102, .int a1, .int a2] 143 (WG V o h) 143 (WG V o (h')) (some (.int v)) 0 0 := by
  intro v h' hm
  refine Ctr.intro RX10 (by decide +kernel) rfl rfl rfl ?_
  intro E hE hQ _
  unfold f_X10_divisor at hm
  refine q_iload_n hE 1 (dlX10_divisor_0.at 0 rfl) rfl rfl ?_
  refine q_istore_n hE [(0, _), (1, _), (2, _), (3, _)] (dlX10_divisor_0.at 1 rfl) rfl rfl rfl ?_
  refine q_iload_n hE 2 (dlX10_divisor_0.at 2 rfl) rfl rfl ?_
  refine q_istore hE [(0, _), (1, _), (2, _), (3, _), (4, _)] (dlX10_divisor_0.at 3 rfl) rfl rfl ?_
  refine q_sub hE [3, 4] rfl ?_
  exact okL_X10_divisor_5 hfx hE hQ  F _ _ _  hm
set_option maxRecDepth 10000 in
theorem ok_X10_lowest {V : Ev} {l : Launch} {o : PH} {F : Nat}  (hfx : V.2.2.2.2 = false) {a1 : Int32} {a2 : Int32} {a3 : Int32} {h : PH} : ∀ (v : Int64) (h' : PH), f_X10_lowest F a1 a2 a3 h = some (v, h') → Ctr l V yX10_lowest cX10_lowest 5 (some .long) 2 [rf V 102, .int a1, .int a2, .int a3] 143 (WG V o h) 143 (WG V o (h')) (some (.long v)) 0 0 := by
  intro v h' hm
  refine Ctr.intro RX10 (by decide +kernel) rfl rfl rfl ?_
  intro E hE hQ _
  unfold f_X10_lowest at hm
  refine q_aload_n hE 0 (dlX10_lowest_0.at 0 rfl) rfl rfl ?_
  refine q_iload_n hE 1 (dlX10_lowest_0.at 1 rfl) rfl rfl ?_
  refine q_iload_n hE 2 (dlX10_lowest_0.at 2 rfl) rfl rfl ?_
  refine q_callV_i (X := fun z => WG V o z) hE (As := [_, _]) (dlX10_lowest_0.at 3 rfl) mw_X10_divisor wm_X10_357 rfl rfl rfl rfl (Nat.zero_le _) (Nat.zero_le _) rfl kc10 g102 rfl (ok_X10_divisor hfx) hm (fun v1 h1 hm => ?_)
  refine q_istore hE [(0, _), (1, _), (2, _), (3, _), (4, _)] (dlX10_lowest_0.at 4 rfl) rfl rfl ?_
  refine q_iload_n hE 3 (dlX10_lowest_0.at 5 rfl) rfl rfl ?_
  refine q_if_ne hE (tgt := 20) (dlX10_lowest_0.at 6 rfl) (by decide) hm (fun hc2 hm => ?_) (fun hc2 hm => ?_)
  · refine q_iload_n hE 1 (dlX10_lowest_0.at 7 rfl) rfl rfl ?_
    refine q_iload hE 4 (dlX10_lowest_0.at 8 rfl) rfl ?_
    refine q_idiv hE (dlX10_lowest_0.at 9 rfl) hm (fun hm => ?_)
    refine q_i2l hE (dlX10_lowest_0.at 10 rfl) ?_
    refine q_goto hE (tgt := 25) (dlX10_lowest_0.at 11 rfl) (by decide) ?_
    exact q_lret (X := fun z => WG V o z) hE (dlX10_lowest_0.at 16 rfl) hm hQ rfl
  · refine q_iload_n hE 2 (dlX10_lowest_0.at 12 rfl) rfl rfl ?_
    refine q_iload hE 4 (dlX10_lowest_0.at 13 rfl) rfl ?_
    refine q_idiv hE (dlX10_lowest_0.at 14 rfl) hm (fun hm => ?_)
    refine q_i2l hE (dlX10_lowest_0.at 15 rfl) ?_
    exact q_lret (X := fun z => WG V o z) hE (dlX10_lowest_0.at 16 rfl) hm hQ rfl
set_option maxRecDepth 10000 in
theorem okL_X10_odds_34 {V : Ev} {l : Launch} {o : PH} {F : Nat}  (hfx : V.2.2.2.2 = false) {E : Cx} (hE : CX E V l cX10_odds RX10 5 8 0 0 (some .long)) {r : Int64 × PH} (hQ : RQ E V 143 (WG V o r.2) (some (.long r.1)) 0 0) : ∀ (n : Nat) (x1 : Int32) (x2 : Int32) (x3 : Int32) (x4 : Int32) (h : PH), fL_X10_odds_34 F n x1 x2 x3 x4 h = some r → PW E V 0 0 143 (WG V o h) 34 [(0, rf V 102), (1, .int x1), (2, .int x2), (3, .int x3), (4, .int x4)] [] := by
  intro n
  induction n with
  | zero => intro x1 x2 x3 x4 h hm; cases hm
  | succ n ih =>
    intro x1 x2 x3 x4 h hm
    rw [fL_X10_odds_34] at hm
    refine q_iload hE 4 (dlX10_odds_0.at 19 rfl) rfl ?_
    refine q_aload_n hE 0 (dlX10_odds_0.at 20 rfl) rfl rfl ?_
    refine q_get hE (dlX10_odds_0.at 21 rfl) kc10 wf_X10_7 g102 rfl rfl rfl ?_
    refine q_icmp_ge hE (tgt := 81) (dlX10_odds_0.at 22 rfl) (by decide) hm (fun hc6 hm => ?_) (fun hc6 hm => ?_)
    · refine q_aload_n hE 0 (dlX10_odds_1.at 3 rfl) rfl rfl ?_
      refine q_iload_n hE 3 (dlX10_odds_1.at 4 rfl) rfl rfl ?_
      refine q_aload_n hE 0 (dlX10_odds_1.at 5 rfl) rfl rfl ?_
      refine q_get hE (dlX10_odds_1.at 6 rfl) kc10 wf_X10_7 g102 rfl rfl rfl ?_
      refine q_iload_n hE 2 (dlX10_odds_1.at 7 rfl) rfl rfl ?_
      refine q_callV_l (X := fun z => WG V o z) hE (As := [_, _, _]) (dlX10_odds_1.at 8 rfl) mw_X10_lowest wm_X10_362 rfl rfl rfl rfl (Nat.zero_le _) (Nat.zero_le _) rfl kc10 g102 rfl (ok_X10_lowest hfx) hm (fun v7 h7 hm => ?_)
      exact q_lret (X := fun z => WG V o z) hE (dlX10_odds_1.at 9 rfl) hm hQ rfl
    · refine q_aload_n hE 0 (dlX10_odds_0.at 23 rfl) rfl rfl ?_
      refine q_callV_v (X := fun z => WG V o z) hE (As := []) (dlX10_odds_0.at 24 rfl) mw_X10_save wm_X10_321 rfl rfl rfl rfl (Nat.zero_le _) (Nat.zero_le _) rfl kc10 g102 rfl (ok_X10_save hfx) hm (fun v8 h8 hm => ?_)
      refine q_aload_n hE 0 (dlX10_odds_0.at 25 rfl) rfl rfl ?_
      refine q_iload hE 4 (dlX10_odds_0.at 26 rfl) rfl ?_
      refine q_iload_n hE 1 (dlX10_odds_0.at 27 rfl) rfl rfl ?_
      refine q_callV_v (X := fun z => WG V o z) hE (As := [_, _]) (dlX10_odds_0.at 28 rfl) mw_X10_goEvenings wm_X10_338 rfl rfl rfl rfl (Nat.zero_le _) (Nat.zero_le _) rfl kc10 g102 rfl (ok_X10_goEvenings hfx) hm (fun v9 h9 hm => ?_)
      refine q_iload_n hE 3 (dlX10_odds_0.at 29 rfl) rfl rfl ?_
      refine q_aload_n hE 0 (dlX10_odds_0.at 30 rfl) rfl rfl ?_
      refine q_iload hE 4 (dlX10_odds_0.at 31 rfl) rfl ?_
      refine q_callV_i (X := fun z => WG V o z) hE (As := [_]) (dlX10_odds_0.at 32 rfl) mw_X10_isUp wm_X10_300 rfl rfl rfl rfl (Nat.zero_le _) (Nat.zero_le _) rfl kc10 g102 rfl (ok_X10_isUp hfx) hm (fun v10 h10 hm => ?_)
      refine q_if_eq hE (tgt := 68) (dlX10_odds_0.at 33 rfl) (by decide) hm (fun hc11 hm => ?_) (fun hc11 hm => ?_)
      · refine q_iconst hE (dlX10_odds_0.at 36 rfl) ic_0 ?_
        refine q_iadd hE (dlX10_odds_0.at 37 rfl) ?_
        refine q_istore_n hE [(0, _), (1, _), (2, _), (3, _), (4, _)] (dlX10_odds_0.at 38 rfl) rfl rfl rfl ?_
        refine q_aload_n hE 0 (dlX10_odds_0.at 39 rfl) rfl rfl ?_
        refine q_callV_v (X := fun z => WG V o z) hE (As := []) (dlX10_odds_1.at 0 rfl) mw_X10_putBack wm_X10_324 rfl rfl rfl rfl (Nat.zero_le _) (Nat.zero_le _) rfl kc10 g102 rfl (ok_X10_putBack hfx) hm (fun v12 h12 hm => ?_)
        refine q_iinc hE [(0, _), (1, _), (2, _), (3, _), (4, _)] 4 (dlX10_odds_1.at 1 rfl) rfl ic_1 rfl rfl ?_
        refine q_goto hE (tgt := 34) (dlX10_odds_1.at 2 rfl) (by decide) ?_
        refine q_sub hE [0, 1, 2, 3, 4] rfl ?_
        exact ih _ _ _ _ _  hm
      · refine q_iconst hE (dlX10_odds_0.at 34 rfl) ic_1 ?_
        refine q_goto hE (tgt := 69) (dlX10_odds_0.at 35 rfl) (by decide) ?_
        refine q_iadd hE (dlX10_odds_0.at 37 rfl) ?_
        refine q_istore_n hE [(0, _), (1, _), (2, _), (3, _), (4, _)] (dlX10_odds_0.at 38 rfl) rfl rfl rfl ?_
        refine q_aload_n hE 0 (dlX10_odds_0.at 39 rfl) rfl rfl ?_
        refine q_callV_v (X := fun z => WG V o z) hE (As := []) (dlX10_odds_1.at 0 rfl) mw_X10_putBack wm_X10_324 rfl rfl rfl rfl (Nat.zero_le _) (Nat.zero_le _) rfl kc10 g102 rfl (ok_X10_putBack hfx) hm (fun v13 h13 hm => ?_)
        refine q_iinc hE [(0, _), (1, _), (2, _), (3, _), (4, _)] 4 (dlX10_odds_1.at 1 rfl) rfl ic_1 rfl rfl ?_
        refine q_goto hE (tgt := 34) (dlX10_odds_1.at 2 rfl) (by decide) ?_
        refine q_sub hE [0, 1, 2, 3, 4] rfl ?_
        exact ih _ _ _ _ _  hm
set_option maxRecDepth 10000 in
theorem ok_X10_odds {V : Ev} {l : Launch} {o : PH} {F : Nat}  (hfx : V.2.2.2.2 = false) {a1 : Int32} {a2 : Int32} {h : PH} : ∀ (v : Int64) (h' : PH), f_X10_odds F a1 a2 h = some (v, h') → Ctr l V yX10_odds cX10_odds 5 (some .long) 8 [rf V 102, .int a1, .int a2] 143 (WG V o h) 143 (WG V o (h')) (some (.long v)) 0 0 := by
  intro v h' hm
  refine Ctr.intro RX10 (by decide +kernel) rfl rfl rfl ?_
  intro E hE hQ _
  unfold f_X10_odds at hm
  refine q_aload_n hE 0 (dlX10_odds_0.at 0 rfl) rfl rfl ?_
  refine q_iload_n hE 1 (dlX10_odds_0.at 1 rfl) rfl rfl ?_
  refine q_callV_i (X := fun z => WG V o z) hE (As := [_]) (dlX10_odds_0.at 2 rfl) mw_X10_isEvenings wm_X10_318 rfl rfl rfl rfl (Nat.zero_le _) (Nat.zero_le _) rfl kc10 g102 rfl (ok_X10_isEvenings hfx) hm (fun v1 h1 hm => ?_)
  refine q_if_eq hE (tgt := 25) (dlX10_odds_0.at 3 rfl) (by decide) hm (fun hc2 hm => ?_) (fun hc2 hm => ?_)
  · refine q_ldc2 hE (dlX10_odds_0.at 13 rfl) wk_X10_360 ?_
    exact q_lret (X := fun z => WG V o z) hE (dlX10_odds_0.at 14 rfl) hm hQ rfl
  · refine q_aload_n hE 0 (dlX10_odds_0.at 4 rfl) rfl rfl ?_
    refine q_iload_n hE 2 (dlX10_odds_0.at 5 rfl) rfl rfl ?_
    refine q_iconst hE (dlX10_odds_0.at 6 rfl) ic_0 ?_
    refine q_iconst hE (dlX10_odds_0.at 7 rfl) ic_1 ?_
    refine q_callV_i (X := fun z => WG V o z) hE (As := [_, _, _]) (dlX10_odds_0.at 8 rfl) mw_X10_in wm_X10_212 rfl rfl rfl rfl (Nat.zero_le _) (Nat.zero_le _) rfl kc10 g102 rfl (ok_X10_in hfx) hm (fun v3 h3 hm => ?_)
    refine q_if_eq hE (tgt := 25) (dlX10_odds_0.at 9 rfl) (by decide) hm (fun hc4 hm => ?_) (fun hc4 hm => ?_)
    · refine q_ldc2 hE (dlX10_odds_0.at 13 rfl) wk_X10_360 ?_
      exact q_lret (X := fun z => WG V o z) hE (dlX10_odds_0.at 14 rfl) hm hQ rfl
    · refine q_aload_n hE 0 (dlX10_odds_0.at 10 rfl) rfl rfl ?_
      refine q_get hE (dlX10_odds_0.at 11 rfl) kc10 wf_X10_7 g102 rfl rfl rfl ?_
      refine q_if_ne hE (tgt := 29) (dlX10_odds_0.at 12 rfl) (by decide) hm (fun hc5 hm => ?_) (fun hc5 hm => ?_)
      · refine q_ldc2 hE (dlX10_odds_0.at 13 rfl) wk_X10_360 ?_
        exact q_lret (X := fun z => WG V o z) hE (dlX10_odds_0.at 14 rfl) hm hQ rfl
      · refine q_iconst hE (dlX10_odds_0.at 15 rfl) ic_0 ?_
        refine q_istore_n hE [(0, _), (1, _), (2, _), (3, _)] (dlX10_odds_0.at 16 rfl) rfl rfl rfl ?_
        refine q_iconst hE (dlX10_odds_0.at 17 rfl) ic_0 ?_
        refine q_istore hE [(0, _), (1, _), (2, _), (3, _), (4, _)] (dlX10_odds_0.at 18 rfl) rfl rfl ?_
        refine q_sub hE [0, 1, 2, 3, 4] rfl ?_
        exact okL_X10_odds_34 hfx hE hQ  F _ _ _ _ _  hm
set_option maxRecDepth 10000 in
theorem ok_X10_mean {V : Ev} {l : Launch} {o : PH} {F : Nat}  (hfx : V.2.2.2.2 = false) {a1 : Int32} {h : PH} : ∀ (v : Int64) (h' : PH), f_X10_mean F a1 h = some (v, h') → Ctr l V yX10_mean cX10_mean 2 (some .long) 7 [rf V 102, .int a1] 143 (WG V o h) 143 (WG V o (h')) (some (.long v)) 0 0 := by
  intro v h' hm
  refine Ctr.intro RX10 (by decide +kernel) rfl rfl rfl ?_
  intro E hE hQ _
  unfold f_X10_mean at hm
  refine q_aload_n hE 0 (dlX10_mean_0.at 0 rfl) rfl rfl ?_
  refine q_iload_n hE 1 (dlX10_mean_0.at 1 rfl) rfl rfl ?_
  refine q_iconst hE (dlX10_mean_0.at 2 rfl) ic_0 ?_
  refine q_iconst hE (dlX10_mean_0.at 3 rfl) ic_1 ?_
  refine q_callV_i (X := fun z => WG V o z) hE (As := [_, _, _]) (dlX10_mean_0.at 4 rfl) mw_X10_in wm_X10_212 rfl rfl rfl rfl (Nat.zero_le _) (Nat.zero_le _) rfl kc10 g102 rfl (ok_X10_in hfx) hm (fun v1 h1 hm => ?_)
  refine q_if_eq hE (tgt := 33) (dlX10_mean_0.at 5 rfl) (by decide) hm (fun hc2 hm => ?_) (fun hc2 hm => ?_)
  · refine q_ldc2 hE (dlX10_mean_0.at 17 rfl) wk_X10_360 ?_
    exact q_lret (X := fun z => WG V o z) hE (dlX10_mean_0.at 18 rfl) hm hQ rfl
  · refine q_aload_n hE 0 (dlX10_mean_0.at 6 rfl) rfl rfl ?_
    refine q_get hE (dlX10_mean_0.at 7 rfl) kc10 wf_X10_7 g102 rfl rfl rfl ?_
    refine q_if_le hE (tgt := 33) (dlX10_mean_0.at 8 rfl) (by decide) hm (fun hc3 hm => ?_) (fun hc3 hm => ?_)
    · refine q_ldc2 hE (dlX10_mean_0.at 17 rfl) wk_X10_360 ?_
      exact q_lret (X := fun z => WG V o z) hE (dlX10_mean_0.at 18 rfl) hm hQ rfl
    · refine q_aload_n hE 0 (dlX10_mean_0.at 9 rfl) rfl rfl ?_
      refine q_aload_n hE 0 (dlX10_mean_0.at 10 rfl) rfl rfl ?_
      refine q_callV_i (X := fun z => WG V o z) hE (As := []) (dlX10_mean_0.at 11 rfl) mw_X10_allLeft wm_X10_335 rfl rfl rfl rfl (Nat.zero_le _) (Nat.zero_le _) rfl kc10 g102 rfl (ok_X10_allLeft hfx) hm (fun v4 h4 hm => ?_)
      refine q_aload_n hE 0 (dlX10_mean_0.at 12 rfl) rfl rfl ?_
      refine q_get hE (dlX10_mean_0.at 13 rfl) kc10 wf_X10_7 g102 rfl rfl rfl ?_
      refine q_iload_n hE 1 (dlX10_mean_0.at 14 rfl) rfl rfl ?_
      refine q_callV_l (X := fun z => WG V o z) hE (As := [_, _, _]) (dlX10_mean_0.at 15 rfl) mw_X10_lowest wm_X10_362 rfl rfl rfl rfl (Nat.zero_le _) (Nat.zero_le _) rfl kc10 g102 rfl (ok_X10_lowest hfx) hm (fun v5 h5 hm => ?_)
      refine q_goto hE (tgt := 36) (dlX10_mean_0.at 16 rfl) (by decide) ?_
      exact q_lret (X := fun z => WG V o z) hE (dlX10_mean_0.at 18 rfl) hm hQ rfl
set_option maxRecDepth 10000 in
theorem okL_X10_month_28 {V : Ev} {l : Launch} {o : PH} {F : Nat}  (hfx : V.2.2.2.2 = false) {E : Cx} (hE : CX E V l cX10_month RX10 2 3 0 0 (some .int)) {r : Int32 × PH} (hQ : RQ E V 143 (WG V o r.2) (some (.int r.1)) 0 0) : ∀ (x1 : Int32) (h : PH), fL_X10_month_28 F x1 h = some r → PW E V 0 0 143 (WG V o h) 28 [(0, rf V 102), (1, .int x1)] [] := by
  intro x1 h hm
  unfold fL_X10_month_28 at hm
  refine q_aload_n hE 0 (dlX10_month_0.at 17 rfl) rfl rfl ?_
  refine q_get hE (dlX10_month_0.at 18 rfl) kc10 wf_X10_124 g102 rfl rfl rfl ?_
  refine q_bipush hE (dlX10_month_0.at 19 rfl) bc_10 ?_
  refine q_icmp_ne hE (tgt := 40) (dlX10_month_0.at 20 rfl) (by decide) hm (fun hc3 hm => ?_) (fun hc3 hm => ?_)
  · refine q_bipush hE (dlX10_month_0.at 21 rfl) bc_m4 ?_
    exact q_iret (X := fun z => WG V o z) hE (dlX10_month_0.at 22 rfl) hm hQ rfl
  · refine q_aload_n hE 0 (dlX10_month_0.at 23 rfl) rfl rfl ?_
    refine q_get hE (dlX10_month_0.at 24 rfl) kc10 wf_X10_130 g102 rfl rfl rfl ?_
    refine q_aload_n hE 0 (dlX10_month_0.at 25 rfl) rfl rfl ?_
    refine q_get hE (dlX10_month_0.at 26 rfl) kc10 wf_X10_124 g102 rfl rfl rfl ?_
    refine q_iload_n hE 1 (dlX10_month_0.at 27 rfl) rfl rfl ?_
    refine q_iast hE hfx (dlX10_month_0.at 28 rfl) g125 rfl u125 hm (fun hm => ?_)
    refine q_lth (X := fun z => WG V o z) hm (fun h4 hm => ?_)
    refine q_aload_n hE 0 (dlX10_month_0.at 29 rfl) rfl rfl ?_
    refine q_dup hE (dlX10_month_0.at 30 rfl) rfl ?_
    refine q_get hE (dlX10_month_0.at 31 rfl) kc10 wf_X10_124 g102 rfl rfl rfl ?_
    refine q_iconst hE (dlX10_month_0.at 32 rfl) ic_1 ?_
    refine q_iadd hE (dlX10_month_0.at 33 rfl) ?_
    refine q_put hE hfx (dlX10_month_0.at 34 rfl) kc10 wf_X10_124 g102 rfl rfl rfl rfl rfl rfl u102_37 ?_
    refine q_lth (X := fun z => WG V o z) hm (fun h5 hm => ?_)
    refine q_aload_n hE 0 (dlX10_month_0.at 35 rfl) rfl rfl ?_
    refine q_get hE (dlX10_month_0.at 36 rfl) kc10 wf_X10_124 g102 rfl rfl rfl ?_
    exact q_iret (X := fun z => WG V o z) hE (dlX10_month_0.at 37 rfl) hm hQ rfl
set_option maxRecDepth 10000 in
theorem ok_X10_month {V : Ev} {l : Launch} {o : PH} {F : Nat}  (hfx : V.2.2.2.2 = false) {a1 : Int32} {h : PH} : ∀ (v : Int32) (h' : PH), f_X10_month F a1 h = some (v, h') → Ctr l V yX10_month cX10_month 2 (some .int) 3 [rf V 102, .int a1] 143 (WG V o h) 143 (WG V o (h')) (some (.int v)) 0 0 := by
  intro v h' hm
  refine Ctr.intro RX10 (by decide +kernel) rfl rfl rfl ?_
  intro E hE hQ _
  unfold f_X10_month at hm
  refine q_iload_n hE 1 (dlX10_month_0.at 0 rfl) rfl rfl ?_
  refine q_iconst hE (dlX10_month_0.at 1 rfl) ic_m1 ?_
  refine q_icmp_ne hE (tgt := 12) (dlX10_month_0.at 2 rfl) (by decide) hm (fun hc1 hm => ?_) (fun hc1 hm => ?_)
  · refine q_aload_n hE 0 (dlX10_month_0.at 3 rfl) rfl rfl ?_
    refine q_iconst hE (dlX10_month_0.at 4 rfl) ic_0 ?_
    refine q_put hE hfx (dlX10_month_0.at 5 rfl) kc10 wf_X10_124 g102 rfl rfl rfl rfl rfl rfl u102_37 ?_
    refine q_lth (X := fun z => WG V o z) hm (fun h8 hm => ?_)
    refine q_iconst hE (dlX10_month_0.at 6 rfl) ic_0 ?_
    exact q_iret (X := fun z => WG V o z) hE (dlX10_month_0.at 7 rfl) hm hQ rfl
  · refine q_iload_n hE 1 (dlX10_month_0.at 8 rfl) rfl rfl ?_
    refine q_bipush hE (dlX10_month_0.at 9 rfl) bc_6 ?_
    refine q_icmp_eq hE (tgt := 28) (dlX10_month_0.at 10 rfl) (by decide) hm (fun hc2 hm => ?_) (fun hc2 hm => ?_)
    · refine q_sub hE [0, 1] rfl ?_
      exact okL_X10_month_28 hfx hE hQ  _ _  hm
    · refine q_aload_n hE 0 (dlX10_month_0.at 11 rfl) rfl rfl ?_
      refine q_iload_n hE 1 (dlX10_month_0.at 12 rfl) rfl rfl ?_
      refine q_callV_i (X := fun z => WG V o z) hE (As := [_]) (dlX10_month_0.at 13 rfl) mw_X10_isClock wm_X10_220 rfl rfl rfl rfl (Nat.zero_le _) (Nat.zero_le _) rfl kc10 g102 rfl (ok_X10_isClock hfx) hm (fun v6 h6 hm => ?_)
      refine q_if_ne hE (tgt := 28) (dlX10_month_0.at 14 rfl) (by decide) hm (fun hc7 hm => ?_) (fun hc7 hm => ?_)
      · refine q_iconst hE (dlX10_month_0.at 15 rfl) ic_m1 ?_
        exact q_iret (X := fun z => WG V o z) hE (dlX10_month_0.at 16 rfl) hm hQ rfl
      · refine q_sub hE [0, 1] rfl ?_
        exact okL_X10_month_28 hfx hE hQ  _ _  hm
set_option maxRecDepth 10000 in
theorem okL_X10_ends_18 {V : Ev} {l : Launch} {o : PH} {F : Nat}  (hfx : V.2.2.2.2 = false) {E : Cx} (hE : CX E V l cX10_ends RX10 3 7 0 0 (some .int)) {r : Int32 × PH} (hQ : RQ E V 143 (WG V o r.2) (some (.int r.1)) 0 0) : ∀ (n : Nat) (x1 : Int32) (x2 : Int32) (h : PH), fL_X10_ends_18 F n x1 x2 h = some r → PW E V 0 0 143 (WG V o h) 18 [(0, rf V 102), (1, .int x1), (2, .int x2)] [] := by
  intro n
  induction n with
  | zero => intro x1 x2 h hm; cases hm
  | succ n ih =>
    intro x1 x2 h hm
    rw [fL_X10_ends_18] at hm
    refine q_iload_n hE 2 (dlX10_ends_0.at 12 rfl) rfl rfl ?_
    refine q_aload_n hE 0 (dlX10_ends_0.at 13 rfl) rfl rfl ?_
    refine q_get hE (dlX10_ends_0.at 14 rfl) kc10 wf_X10_124 g102 rfl rfl rfl ?_
    refine q_icmp_ge hE (tgt := 61) (dlX10_ends_0.at 15 rfl) (by decide) hm (fun hc4 hm => ?_) (fun hc4 hm => ?_)
    · refine q_iload_n hE 1 (dlX10_ends_0.at 34 rfl) rfl rfl ?_
      refine q_if_ne hE (tgt := 72) (dlX10_ends_0.at 35 rfl) (by decide) hm (fun hc5 hm => ?_) (fun hc5 hm => ?_)
      · refine q_aload_n hE 0 (dlX10_ends_0.at 36 rfl) rfl rfl ?_
        refine q_callV_i (X := fun z => WG V o z) hE (As := []) (dlX10_ends_0.at 37 rfl) mw_X10_upMany wm_X10_332 rfl rfl rfl rfl (Nat.zero_le _) (Nat.zero_le _) rfl kc10 g102 rfl (ok_X10_upMany hfx) hm (fun v8 h8 hm => ?_)
        refine q_goto hE (tgt := 76) (dlX10_ends_0.at 38 rfl) (by decide) ?_
        refine q_istore_n hE [(0, _), (1, _), (2, _)] (dlX10_ends_1.at 1 rfl) rfl rfl rfl ?_
        refine q_aload_n hE 0 (dlX10_ends_1.at 2 rfl) rfl rfl ?_
        refine q_callV_v (X := fun z => WG V o z) hE (As := []) (dlX10_ends_1.at 3 rfl) mw_X10_putBack wm_X10_324 rfl rfl rfl rfl (Nat.zero_le _) (Nat.zero_le _) rfl kc10 g102 rfl (ok_X10_putBack hfx) hm (fun v9 h9 hm => ?_)
        refine q_iload_n hE 2 (dlX10_ends_1.at 4 rfl) rfl rfl ?_
        exact q_iret (X := fun z => WG V o z) hE (dlX10_ends_1.at 5 rfl) hm hQ rfl
      · refine q_aload_n hE 0 (dlX10_ends_0.at 39 rfl) rfl rfl ?_
        refine q_callV_i (X := fun z => WG V o z) hE (As := []) (dlX10_ends_1.at 0 rfl) mw_X10_allLeft wm_X10_335 rfl rfl rfl rfl (Nat.zero_le _) (Nat.zero_le _) rfl kc10 g102 rfl (ok_X10_allLeft hfx) hm (fun v6 h6 hm => ?_)
        refine q_istore_n hE [(0, _), (1, _), (2, _)] (dlX10_ends_1.at 1 rfl) rfl rfl rfl ?_
        refine q_aload_n hE 0 (dlX10_ends_1.at 2 rfl) rfl rfl ?_
        refine q_callV_v (X := fun z => WG V o z) hE (As := []) (dlX10_ends_1.at 3 rfl) mw_X10_putBack wm_X10_324 rfl rfl rfl rfl (Nat.zero_le _) (Nat.zero_le _) rfl kc10 g102 rfl (ok_X10_putBack hfx) hm (fun v7 h7 hm => ?_)
        refine q_iload_n hE 2 (dlX10_ends_1.at 4 rfl) rfl rfl ?_
        exact q_iret (X := fun z => WG V o z) hE (dlX10_ends_1.at 5 rfl) hm hQ rfl
    · refine q_aload_n hE 0 (dlX10_ends_0.at 16 rfl) rfl rfl ?_
      refine q_get hE (dlX10_ends_0.at 17 rfl) kc10 wf_X10_130 g102 rfl rfl rfl ?_
      refine q_iload_n hE 2 (dlX10_ends_0.at 18 rfl) rfl rfl ?_
      refine q_iald hE (dlX10_ends_0.at 19 rfl) g125 rfl hm (fun hm => ?_)
      refine q_bipush hE (dlX10_ends_0.at 20 rfl) bc_6 ?_
      refine q_icmp_ne hE (tgt := 44) (dlX10_ends_0.at 21 rfl) (by decide) hm (fun hc10 hm => ?_) (fun hc10 hm => ?_)
      · refine q_aload_n hE 0 (dlX10_ends_0.at 22 rfl) rfl rfl ?_
        refine q_callV_v (X := fun z => WG V o z) hE (As := []) (dlX10_ends_0.at 23 rfl) mw_X10_goNight wm_X10_312 rfl rfl rfl rfl (Nat.zero_le _) (Nat.zero_le _) rfl kc10 g102 rfl (ok_X10_goNight hfx) hm (fun v12 h12 hm => ?_)
        refine q_goto hE (tgt := 55) (dlX10_ends_0.at 24 rfl) (by decide) ?_
        refine q_iinc hE [(0, _), (1, _), (2, _)] 2 (dlX10_ends_0.at 32 rfl) rfl ic_1 rfl rfl ?_
        refine q_goto hE (tgt := 18) (dlX10_ends_0.at 33 rfl) (by decide) ?_
        refine q_sub hE [0, 1, 2] rfl ?_
        exact ih _ _ _  hm
      · refine q_aload_n hE 0 (dlX10_ends_0.at 25 rfl) rfl rfl ?_
        refine q_aload_n hE 0 (dlX10_ends_0.at 26 rfl) rfl rfl ?_
        refine q_get hE (dlX10_ends_0.at 27 rfl) kc10 wf_X10_130 g102 rfl rfl rfl ?_
        refine q_iload_n hE 2 (dlX10_ends_0.at 28 rfl) rfl rfl ?_
        refine q_iald hE (dlX10_ends_0.at 29 rfl) g125 rfl hm (fun hm => ?_)
        refine q_callV_i (X := fun z => WG V o z) hE (As := [_]) (dlX10_ends_0.at 30 rfl) mw_X10_goEvening wm_X10_315 rfl rfl rfl rfl (Nat.zero_le _) (Nat.zero_le _) rfl kc10 g102 rfl (ok_X10_goEvening hfx) hm (fun v11 h11 hm => ?_)
        refine q_pop hE (dlX10_ends_0.at 31 rfl) rfl ?_
        refine q_iinc hE [(0, _), (1, _), (2, _)] 2 (dlX10_ends_0.at 32 rfl) rfl ic_1 rfl rfl ?_
        refine q_goto hE (tgt := 18) (dlX10_ends_0.at 33 rfl) (by decide) ?_
        refine q_sub hE [0, 1, 2] rfl ?_
        exact ih _ _ _  hm
