set_option maxRecDepth 10000 in
theorem ok_X2_passes {V : Ev} {l : Launch} {o : PH} {F : Nat}  (hfx : V.2.2.2.2 = false) {a0 : Int32} {h : PH} : ∀ (v : Int32) (h' : PH), f_X2_passes F a0 h = some (v, h') → Ctr l V yX2_passes cX2_passes 4 (some .boolean) 1 [.int a0, rf V 15] 143 (WG V h o) 143 (WG V (h') o) (some (.int v)) 0 0 := by
  intro v h' hm
  refine Ctr.intro RX2 (by decide +kernel) rfl rfl rfl ?_
  intro E hE hQ _
  unfold f_X2_passes at hm
  refine q_aload_n hE 1 (dlX2_passes_0.at 0 rfl) rfl rfl ?_
  refine q_iload_n hE 0 (dlX2_passes_0.at 1 rfl) rfl rfl ?_
  refine q_sipush hE (dlX2_passes_0.at 2 rfl) sc_300 ?_
  refine q_idiv hE (dlX2_passes_0.at 3 rfl) hm (fun hm => ?_)
  refine q_iald hE (dlX2_passes_0.at 4 rfl) g15 rfl hm (fun hm => ?_)
  refine q_istore_n hE [(0, _), (1, _), (2, _)] (dlX2_passes_0.at 5 rfl) rfl rfl rfl ?_
  refine q_iload_n hE 0 (dlX2_passes_0.at 6 rfl) rfl rfl ?_
  refine q_bipush hE (dlX2_passes_0.at 7 rfl) bc_100 ?_
  refine q_irem hE (dlX2_passes_0.at 8 rfl) hm (fun hm => ?_)
  refine q_istore_n hE [(0, _), (1, _), (2, _), (3, _)] (dlX2_passes_0.at 9 rfl) rfl rfl rfl ?_
  refine q_iload_n hE 0 (dlX2_passes_0.at 10 rfl) rfl rfl ?_
  refine q_bipush hE (dlX2_passes_0.at 11 rfl) bc_100 ?_
  refine q_idiv hE (dlX2_passes_0.at 12 rfl) hm (fun hm => ?_)
  refine q_iconst hE (dlX2_passes_0.at 13 rfl) ic_3 ?_
  refine q_irem hE (dlX2_passes_0.at 14 rfl) hm (fun hm => ?_)
  refine q_lcase hE (dlX2_passes_0.at 15 rfl) (0 : Int32) 44 (by decide) hm (fun _ hm => ?_) (fun hn1_0 hm => ?_)
  · refine q_iload_n hE 2 (dlX2_passes_0.at 16 rfl) rfl rfl ?_
    refine q_iload_n hE 3 (dlX2_passes_0.at 17 rfl) rfl rfl ?_
    refine q_icmp_ge hE (tgt := 53) (dlX2_passes_0.at 18 rfl) (by decide) hm (fun hc2 hm => ?_) (fun hc2 hm => ?_)
    · refine q_iconst hE (dlX2_passes_0.at 21 rfl) ic_0 ?_
      exact q_bret (X := fun z => WG V z o) hE (dlX2_passes_0.at 22 rfl) hm hQ rfl (by decide)
    · refine q_iconst hE (dlX2_passes_0.at 19 rfl) ic_1 ?_
      refine q_goto hE (tgt := 54) (dlX2_passes_0.at 20 rfl) (by decide) ?_
      exact q_bret (X := fun z => WG V z o) hE (dlX2_passes_0.at 22 rfl) hm hQ rfl (by decide)
  · refine q_lcase hE (dlX2_passes_0.at 15 rfl) (1 : Int32) 55 (by decide) hm (fun _ hm => ?_) (fun hn1_1 hm => ?_)
    · refine q_iload_n hE 2 (dlX2_passes_0.at 23 rfl) rfl rfl ?_
      refine q_iload_n hE 3 (dlX2_passes_0.at 24 rfl) rfl rfl ?_
      refine q_icmp_ne hE (tgt := 64) (dlX2_passes_0.at 25 rfl) (by decide) hm (fun hc3 hm => ?_) (fun hc3 hm => ?_)
      · refine q_iconst hE (dlX2_passes_0.at 26 rfl) ic_1 ?_
        refine q_goto hE (tgt := 65) (dlX2_passes_0.at 27 rfl) (by decide) ?_
        exact q_bret (X := fun z => WG V z o) hE (dlX2_passes_0.at 29 rfl) hm hQ rfl (by decide)
      · refine q_iconst hE (dlX2_passes_0.at 28 rfl) ic_0 ?_
        exact q_bret (X := fun z => WG V z o) hE (dlX2_passes_0.at 29 rfl) hm hQ rfl (by decide)
    · refine q_ldef hE (tgt := 66) (dlX2_passes_0.at 15 rfl) (by decide) (by rw [lv_osw hn1_0 (by decide)]; rw [lv_osw hn1_1 (by decide)]; rfl) (by decide) ?_
      refine q_iload_n hE 2 (dlX2_passes_0.at 30 rfl) rfl rfl ?_
      refine q_iload_n hE 3 (dlX2_passes_0.at 31 rfl) rfl rfl ?_
      refine q_icmp_le hE (tgt := 75) (dlX2_passes_0.at 32 rfl) (by decide) hm (fun hc4 hm => ?_) (fun hc4 hm => ?_)
      · refine q_iconst hE (dlX2_passes_0.at 35 rfl) ic_0 ?_
        exact q_bret (X := fun z => WG V z o) hE (dlX2_passes_0.at 36 rfl) hm hQ rfl (by decide)
      · refine q_iconst hE (dlX2_passes_0.at 33 rfl) ic_1 ?_
        refine q_goto hE (tgt := 76) (dlX2_passes_0.at 34 rfl) (by decide) ?_
        exact q_bret (X := fun z => WG V z o) hE (dlX2_passes_0.at 36 rfl) hm hQ rfl (by decide)
set_option maxRecDepth 10000 in
theorem okL_X2_isTrue_6 {V : Ev} {l : Launch} {o : PH} {F : Nat}  (hfx : V.2.2.2.2 = false) {E : Cx} (hE : CX E V l cX2_isTrue RX2 7 2 0 0 (some .boolean)) {r : Int32 × PH} (hQ : RQ E V 143 (WG V r.2 o) (some (.int r.1)) 0 0) : ∀ (n : Nat) (x0 : Nat) (x2 : Int32) (x4 : Int32) (x5 : Int32) (h : PH), isBench x0 = true → fL_X2_isTrue_6 F n x0 x2 x4 x5 h = some r → PW E V 0 0 143 (WG V h o) 6 [(0, rf V x0), (2, .int x2), (3, rf V 15), (4, .int x4), (5, .int x5)] [] := by
  intro n
  induction n with
  | zero => intro x0 x2 x4 x5 h hx0 hm; cases hm
  | succ n ih =>
    intro x0 x2 x4 x5 h hx0 hm
    rw [fL_X2_isTrue_6] at hm
    refine q_iload hE 4 (dlX2_isTrue_0.at 4 rfl) rfl ?_
    refine q_iload_n hE 1 (dlX2_isTrue_0.at 5 rfl) rfl rfl ?_
    refine q_icmp_ge hE (tgt := 106) (dlX2_isTrue_0.at 6 rfl) (by decide) hm (fun hc1 hm => ?_) (fun hc1 hm => ?_)
    · refine q_iload hE 3 (dlX2_isTrue_1.at 18 rfl) rfl ?_
      refine q_iconst hE (dlX2_isTrue_1.at 19 rfl) ic_1 ?_
      refine q_iand hE (dlX2_isTrue_1.at 20 rfl) ?_
      refine q_iconst hE (dlX2_isTrue_1.at 21 rfl) ic_1 ?_
      refine q_icmp_ne hE (tgt := 118) (dlX2_isTrue_1.at 22 rfl) (by decide) hm (fun hc2 hm => ?_) (fun hc2 hm => ?_)
      · refine q_iconst hE (dlX2_isTrue_1.at 23 rfl) ic_1 ?_
        refine q_goto hE (tgt := 119) (dlX2_isTrue_1.at 24 rfl) (by decide) ?_
        exact q_bret (X := fun z => WG V z o) hE (dlX2_isTrue_1.at 26 rfl) hm hQ rfl (by decide)
      · refine q_iconst hE (dlX2_isTrue_1.at 25 rfl) ic_0 ?_
        exact q_bret (X := fun z => WG V z o) hE (dlX2_isTrue_1.at 26 rfl) hm hQ rfl (by decide)
    · refine q_aload_n hE 0 (dlX2_isTrue_0.at 7 rfl) rfl rfl ?_
      refine q_get hE (dlX2_isTrue_0.at 8 rfl) kc2 wf_X2_26 (g_Bench hx0) rfl (b_Bench hx0) rfl ?_
      refine q_iload hE 4 (dlX2_isTrue_0.at 9 rfl) rfl ?_
      refine q_iald hE (dlX2_isTrue_0.at 10 rfl) (g_Bench_steps hx0) (b_Bench_steps hx0) hm (fun hm => ?_)
      refine q_istore hE [(0, _), (2, _), (3, _), (4, _), (5, _), (6, _)] (dlX2_isTrue_0.at 11 rfl) rfl rfl ?_
      refine q_iload hE 5 (dlX2_isTrue_0.at 12 rfl) rfl ?_
      refine q_iconst hE (dlX2_isTrue_0.at 13 rfl) ic_m1 ?_
      refine q_icmp_ne hE (tgt := 36) (dlX2_isTrue_0.at 14 rfl) (by decide) hm (fun hc3 hm => ?_) (fun hc3 hm => ?_)
      · refine q_iload hE 3 (dlX2_isTrue_0.at 15 rfl) rfl ?_
        refine q_iconst hE (dlX2_isTrue_0.at 16 rfl) ic_1 ?_
        refine q_ixor hE (dlX2_isTrue_0.at 17 rfl) ?_
        refine q_istore hE [(0, _), (2, _), (3, _), (4, _), (5, _), (6, _)] (dlX2_isTrue_0.at 18 rfl) rfl rfl ?_
        refine q_goto hE (tgt := 100) (dlX2_isTrue_0.at 19 rfl) (by decide) ?_
        refine q_iinc hE [(0, _), (2, _), (3, _), (4, _), (5, _), (6, _)] 4 (dlX2_isTrue_1.at 16 rfl) rfl ic_1 rfl rfl ?_
        refine q_goto hE (tgt := 6) (dlX2_isTrue_1.at 17 rfl) (by decide) ?_
        refine q_sub hE [0, 1, 2, 3, 4] rfl ?_
        exact ih _ _ _ _ _ hx0 hm
      · refine q_iload hE 5 (dlX2_isTrue_0.at 20 rfl) rfl ?_
        refine q_bipush hE (dlX2_isTrue_0.at 21 rfl) bc_m2 ?_
        refine q_icmp_ne hE (tgt := 58) (dlX2_isTrue_0.at 22 rfl) (by decide) hm (fun hc4 hm => ?_) (fun hc4 hm => ?_)
        · refine q_iload hE 3 (dlX2_isTrue_0.at 23 rfl) rfl ?_
          refine q_iconst hE (dlX2_isTrue_0.at 24 rfl) ic_1 ?_
          refine q_ishr hE (dlX2_isTrue_0.at 25 rfl) ?_
          refine q_iload hE 3 (dlX2_isTrue_0.at 26 rfl) rfl ?_
          refine q_bipush hE (dlX2_isTrue_0.at 27 rfl) bc_m2 ?_
          refine q_ior hE (dlX2_isTrue_0.at 28 rfl) ?_
          refine q_iand hE (dlX2_isTrue_0.at 29 rfl) ?_
          refine q_istore hE [(0, _), (2, _), (3, _), (4, _), (5, _), (6, _)] (dlX2_isTrue_0.at 30 rfl) rfl rfl ?_
          refine q_goto hE (tgt := 100) (dlX2_isTrue_0.at 31 rfl) (by decide) ?_
          refine q_iinc hE [(0, _), (2, _), (3, _), (4, _), (5, _), (6, _)] 4 (dlX2_isTrue_1.at 16 rfl) rfl ic_1 rfl rfl ?_
          refine q_goto hE (tgt := 6) (dlX2_isTrue_1.at 17 rfl) (by decide) ?_
          refine q_sub hE [0, 1, 2, 3, 4] rfl ?_
          exact ih _ _ _ _ _ hx0 hm
        · refine q_iload hE 5 (dlX2_isTrue_0.at 32 rfl) rfl ?_
          refine q_bipush hE (dlX2_isTrue_0.at 33 rfl) bc_m3 ?_
          refine q_icmp_ne hE (tgt := 79) (dlX2_isTrue_0.at 34 rfl) (by decide) hm (fun hc5 hm => ?_) (fun hc5 hm => ?_)
          · refine q_iload hE 3 (dlX2_isTrue_0.at 35 rfl) rfl ?_
            refine q_iconst hE (dlX2_isTrue_0.at 36 rfl) ic_1 ?_
            refine q_ishr hE (dlX2_isTrue_0.at 37 rfl) ?_
            refine q_iload hE 3 (dlX2_isTrue_0.at 38 rfl) rfl ?_
            refine q_iconst hE (dlX2_isTrue_0.at 39 rfl) ic_1 ?_
            refine q_iand hE (dlX2_isTrue_1.at 0 rfl) ?_
            refine q_ior hE (dlX2_isTrue_1.at 1 rfl) ?_
            refine q_istore hE [(0, _), (2, _), (3, _), (4, _), (5, _), (6, _)] (dlX2_isTrue_1.at 2 rfl) rfl rfl ?_
            refine q_goto hE (tgt := 100) (dlX2_isTrue_1.at 3 rfl) (by decide) ?_
            refine q_iinc hE [(0, _), (2, _), (3, _), (4, _), (5, _), (6, _)] 4 (dlX2_isTrue_1.at 16 rfl) rfl ic_1 rfl rfl ?_
            refine q_goto hE (tgt := 6) (dlX2_isTrue_1.at 17 rfl) (by decide) ?_
            refine q_sub hE [0, 1, 2, 3, 4] rfl ?_
            exact ih _ _ _ _ _ hx0 hm
          · refine q_iload hE 3 (dlX2_isTrue_1.at 4 rfl) rfl ?_
            refine q_iconst hE (dlX2_isTrue_1.at 5 rfl) ic_1 ?_
            refine q_ishl hE (dlX2_isTrue_1.at 6 rfl) ?_
            refine q_iload hE 5 (dlX2_isTrue_1.at 7 rfl) rfl ?_
            refine q_aload_n hE 2 (dlX2_isTrue_1.at 8 rfl) rfl rfl ?_
            refine q_callS_i (X := fun z => WG V z o) hE (As := [_, _]) (dlX2_isTrue_1.at 9 rfl) mw_X2_passes wm_X2_39 rfl rfl rfl rfl (Nat.zero_le _) (Nat.zero_le _) rfl (ok_X2_passes hfx) hm (fun v6 h6 hm => ?_)
            refine q_if_eq hE (tgt := 96) (dlX2_isTrue_1.at 10 rfl) (by decide) hm (fun hc7 hm => ?_) (fun hc7 hm => ?_)
            · refine q_iconst hE (dlX2_isTrue_1.at 13 rfl) ic_0 ?_
              refine q_ior hE (dlX2_isTrue_1.at 14 rfl) ?_
              refine q_istore hE [(0, _), (2, _), (3, _), (4, _), (5, _), (6, _)] (dlX2_isTrue_1.at 15 rfl) rfl rfl ?_
              refine q_iinc hE [(0, _), (2, _), (3, _), (4, _), (5, _), (6, _)] 4 (dlX2_isTrue_1.at 16 rfl) rfl ic_1 rfl rfl ?_
              refine q_goto hE (tgt := 6) (dlX2_isTrue_1.at 17 rfl) (by decide) ?_
              refine q_sub hE [0, 1, 2, 3, 4] rfl ?_
              exact ih _ _ _ _ _ hx0 hm
            · refine q_iconst hE (dlX2_isTrue_1.at 11 rfl) ic_1 ?_
              refine q_goto hE (tgt := 97) (dlX2_isTrue_1.at 12 rfl) (by decide) ?_
              refine q_ior hE (dlX2_isTrue_1.at 14 rfl) ?_
              refine q_istore hE [(0, _), (2, _), (3, _), (4, _), (5, _), (6, _)] (dlX2_isTrue_1.at 15 rfl) rfl rfl ?_
              refine q_iinc hE [(0, _), (2, _), (3, _), (4, _), (5, _), (6, _)] 4 (dlX2_isTrue_1.at 16 rfl) rfl ic_1 rfl rfl ?_
              refine q_goto hE (tgt := 6) (dlX2_isTrue_1.at 17 rfl) (by decide) ?_
              refine q_sub hE [0, 1, 2, 3, 4] rfl ?_
              exact ih _ _ _ _ _ hx0 hm
set_option maxRecDepth 10000 in
theorem ok_X2_isTrue {V : Ev} {l : Launch} {o : PH} {F : Nat}  (hfx : V.2.2.2.2 = false) {t : Nat} {a1 : Int32} {a2 : Int32} {h : PH} : ∀ (v : Int32) (h' : PH), f_X2_isTrue F t a1 a2 h = some (v, h') → Ctr l V yX2_isTrue cX2_isTrue 7 (some .boolean) 2 [rf V t, .int a1, .int a2, rf V 15] 143 (WG V h o) 143 (WG V (h') o) (some (.int v)) 0 0 := by
  intro v h' hm
  refine Ctr.intro RX2 (by decide +kernel) rfl rfl rfl ?_
  intro E hE hQ _
  unfold f_X2_isTrue at hm
  obtain ⟨ht, hm⟩ := g_if hm
  refine q_iconst hE (dlX2_isTrue_0.at 0 rfl) ic_0 ?_
  refine q_istore hE [(0, _), (1, _), (2, _), (3, _), (4, _)] (dlX2_isTrue_0.at 1 rfl) rfl rfl ?_
  refine q_iload_n hE 1 (dlX2_isTrue_0.at 2 rfl) rfl rfl ?_
  refine q_istore hE [(0, _), (1, _), (2, _), (3, _), (4, _), (5, _)] (dlX2_isTrue_0.at 3 rfl) rfl rfl ?_
  refine q_sub hE [0, 2, 3, 4, 5] rfl ?_
  exact okL_X2_isTrue_6 hfx hE hQ  F _ _ _ _ _ ht hm
set_option maxRecDepth 10000 in
theorem okL_X2_newsBy_7 {V : Ev} {l : Launch} {o : PH} {F : Nat}  (hfx : V.2.2.2.2 = false) {E : Cx} (hE : CX E V l cX2_newsBy RX2 5 3 0 0 (some .int)) {r : Int32 × PH} (hQ : RQ E V 143 (WG V r.2 o) (some (.int r.1)) 0 0) : ∀ (n : Nat) (x0 : Nat) (x2 : Int32) (x3 : Int32) (x4 : Int32) (h : PH), isBench x0 = true → fL_X2_newsBy_7 F n x0 x2 x3 x4 h = some r → PW E V 0 0 143 (WG V h o) 7 [(0, rf V x0), (1, rf V 15), (2, .int x2), (3, .int x3), (4, .int x4)] [] := by
  intro n
  induction n with
  | zero => intro x0 x2 x3 x4 h hx0 hm; cases hm
  | succ n ih =>
    intro x0 x2 x3 x4 h hx0 hm
    rw [fL_X2_newsBy_7] at hm
    refine q_iload hE 4 (dlX2_newsBy_0.at 6 rfl) rfl ?_
    refine q_aload_n hE 0 (dlX2_newsBy_0.at 7 rfl) rfl rfl ?_
    refine q_get hE (dlX2_newsBy_0.at 8 rfl) kc2 wf_X2_13 (g_Bench hx0) rfl (b_Bench hx0) rfl ?_
    refine q_icmp_ge hE (tgt := 56) (dlX2_newsBy_0.at 9 rfl) (by decide) hm (fun hc1 hm => ?_) (fun hc1 hm => ?_)
    · refine q_iconst hE (dlX2_newsBy_0.at 33 rfl) ic_0 ?_
      refine q_iload_n hE 2 (dlX2_newsBy_0.at 34 rfl) rfl rfl ?_
      refine q_mmax hE (dlX2_newsBy_0.at 35 rfl) wm_X2_33 w_mmax rfl rfl (Nat.zero_le _) (Nat.zero_le _) ?_
      exact q_iret (X := fun z => WG V z o) hE (dlX2_newsBy_0.at 36 rfl) hm hQ rfl
    · refine q_aload_n hE 0 (dlX2_newsBy_0.at 10 rfl) rfl rfl ?_
      refine q_iload_n hE 3 (dlX2_newsBy_0.at 11 rfl) rfl rfl ?_
      refine q_aload_n hE 0 (dlX2_newsBy_0.at 12 rfl) rfl rfl ?_
      refine q_get hE (dlX2_newsBy_0.at 13 rfl) kc2 wf_X2_20 (g_Bench hx0) rfl (b_Bench hx0) rfl ?_
      refine q_iload hE 4 (dlX2_newsBy_0.at 14 rfl) rfl ?_
      refine q_iald hE (dlX2_newsBy_0.at 15 rfl) (g_Bench_ends hx0) (b_Bench_ends hx0) hm (fun hm => ?_)
      refine q_aload_n hE 1 (dlX2_newsBy_0.at 16 rfl) rfl rfl ?_
      refine q_callV_i (X := fun z => WG V z o) hE (As := [_, _, _]) (dlX2_newsBy_0.at 17 rfl) mw_X2_isTrue wm_X2_29 rfl rfl rfl rfl (Nat.zero_le _) (Nat.zero_le _) rfl kc2 (g_Bench hx0) (b_Bench hx0) (ok_X2_isTrue hfx) hm (fun v2 h2 hm => ?_)
      refine q_if_eq hE (tgt := 42) (dlX2_newsBy_0.at 18 rfl) (by decide) hm (fun hc3 hm => ?_) (fun hc3 hm => ?_)
      · refine q_aload_n hE 0 (dlX2_newsBy_0.at 26 rfl) rfl rfl ?_
        refine q_get hE (dlX2_newsBy_0.at 27 rfl) kc2 wf_X2_20 (g_Bench hx0) rfl (b_Bench hx0) rfl ?_
        refine q_iload hE 4 (dlX2_newsBy_0.at 28 rfl) rfl ?_
        refine q_iald hE (dlX2_newsBy_0.at 29 rfl) (g_Bench_ends hx0) (b_Bench_ends hx0) hm (fun hm => ?_)
        refine q_istore_n hE [(0, _), (1, _), (2, _), (3, _), (4, _)] (dlX2_newsBy_0.at 30 rfl) rfl rfl rfl ?_
        refine q_iinc hE [(0, _), (1, _), (2, _), (3, _), (4, _)] 4 (dlX2_newsBy_0.at 31 rfl) rfl ic_1 rfl rfl ?_
        refine q_goto hE (tgt := 7) (dlX2_newsBy_0.at 32 rfl) (by decide) ?_
        refine q_sub hE [0, 1, 2, 3, 4] rfl ?_
        exact ih _ _ _ _ _ hx0 hm
      · refine q_iload_n hE 2 (dlX2_newsBy_0.at 19 rfl) rfl rfl ?_
        refine q_aload_n hE 0 (dlX2_newsBy_0.at 20 rfl) rfl rfl ?_
        refine q_get hE (dlX2_newsBy_0.at 21 rfl) kc2 wf_X2_16 (g_Bench hx0) rfl (b_Bench hx0) rfl ?_
        refine q_iload hE 4 (dlX2_newsBy_0.at 22 rfl) rfl ?_
        refine q_iald hE (dlX2_newsBy_0.at 23 rfl) (g_Bench_weights hx0) (b_Bench_weights hx0) hm (fun hm => ?_)
        refine q_iadd hE (dlX2_newsBy_0.at 24 rfl) ?_
        refine q_istore_n hE [(0, _), (1, _), (2, _), (3, _), (4, _)] (dlX2_newsBy_0.at 25 rfl) rfl rfl rfl ?_
        refine q_aload_n hE 0 (dlX2_newsBy_0.at 26 rfl) rfl rfl ?_
        refine q_get hE (dlX2_newsBy_0.at 27 rfl) kc2 wf_X2_20 (g_Bench hx0) rfl (b_Bench hx0) rfl ?_
        refine q_iload hE 4 (dlX2_newsBy_0.at 28 rfl) rfl ?_
        refine q_iald hE (dlX2_newsBy_0.at 29 rfl) (g_Bench_ends hx0) (b_Bench_ends hx0) hm (fun hm => ?_)
        refine q_istore_n hE [(0, _), (1, _), (2, _), (3, _), (4, _)] (dlX2_newsBy_0.at 30 rfl) rfl rfl rfl ?_
        refine q_iinc hE [(0, _), (1, _), (2, _), (3, _), (4, _)] 4 (dlX2_newsBy_0.at 31 rfl) rfl ic_1 rfl rfl ?_
        refine q_goto hE (tgt := 7) (dlX2_newsBy_0.at 32 rfl) (by decide) ?_
        refine q_sub hE [0, 1, 2, 3, 4] rfl ?_
        exact ih _ _ _ _ _ hx0 hm
set_option maxRecDepth 10000 in
theorem ok_X2_newsBy {V : Ev} {l : Launch} {o : PH} {F : Nat}  (hfx : V.2.2.2.2 = false) {t : Nat} {h : PH} : ∀ (v : Int32) (h' : PH), f_X2_newsBy F t h = some (v, h') → Ctr l V yX2_newsBy cX2_newsBy 5 (some .int) 3 [rf V t, rf V 15] 143 (WG V h o) 143 (WG V (h') o) (some (.int v)) 0 0 := by
  intro v h' hm
  refine Ctr.intro RX2 (by decide +kernel) rfl rfl rfl ?_
  intro E hE hQ _
  unfold f_X2_newsBy at hm
  obtain ⟨ht, hm⟩ := g_if hm
  refine q_iconst hE (dlX2_newsBy_0.at 0 rfl) ic_1 ?_
  refine q_istore_n hE [(0, _), (1, _), (2, _)] (dlX2_newsBy_0.at 1 rfl) rfl rfl rfl ?_
  refine q_iconst hE (dlX2_newsBy_0.at 2 rfl) ic_0 ?_
  refine q_istore_n hE [(0, _), (1, _), (2, _), (3, _)] (dlX2_newsBy_0.at 3 rfl) rfl rfl rfl ?_
  refine q_iconst hE (dlX2_newsBy_0.at 4 rfl) ic_0 ?_
  refine q_istore hE [(0, _), (1, _), (2, _), (3, _), (4, _)] (dlX2_newsBy_0.at 5 rfl) rfl rfl ?_
  refine q_sub hE [0, 1, 2, 3, 4] rfl ?_
  exact okL_X2_newsBy_7 hfx hE hQ  F _ _ _ _ _ ht hm
set_option maxRecDepth 10000 in
theorem okL_X7_learn_100 {V : Ev} {l : Launch} {o : PH} {F : Nat} {K45 : Int32 → Int32 → PH → Option (Unit × PH)}  (hfx : V.2.2.2.2 = false) {E : Cx} (hE : CX E V l cX7_learn RX7 5 4 0 0 none) {r : Unit × PH} (hQ : RQ E V 143 (WG V r.2 o) (none) 0 0) (hK45 : ∀ (y2 : Int32) (y3 : Int32) (h : PH), K45 y2 y3 h = some r → PW E V 0 0 143 (WG V h o) 45 [(0, rf V 1), (2, .int y2), (3, .int y3)] []) : ∀ (x2 : Int32) (x3 : Int32) (xs0 : Int32) (h : PH), fL_X7_learn_100 F K45 x2 x3 xs0 h = some r → PW E V 0 0 143 (WG V h o) 100 [(0, rf V 1), (2, .int x2), (3, .int x3)] [.int xs0] := by
  intro x2 x3 xs0 h hm
  unfold fL_X7_learn_100 at hm
  refine q_istore hE [(0, _), (2, _), (3, _), (4, _)] (dlX7_learn_1.at 24 rfl) rfl rfl ?_
  refine q_aload_n hE 0 (dlX7_learn_1.at 25 rfl) rfl rfl ?_
  refine q_get hE (dlX7_learn_1.at 26 rfl) kc7 wf_X7_25 g1 rfl rfl rfl ?_
  refine q_iload_n hE 1 (dlX7_learn_1.at 27 rfl) rfl rfl ?_
  refine q_iload_n hE 2 (dlX7_learn_1.at 28 rfl) rfl rfl ?_
  refine q_iadd hE (dlX7_learn_1.at 29 rfl) ?_
  refine q_iconst hE (dlX7_learn_1.at 30 rfl) ic_1 ?_
  refine q_iadd hE (dlX7_learn_1.at 31 rfl) ?_
  refine q_aload_n hE 0 (dlX7_learn_1.at 32 rfl) rfl rfl ?_
  refine q_get hE (dlX7_learn_1.at 33 rfl) kc7 wf_X7_25 g1 rfl rfl rfl ?_
  refine q_iload_n hE 1 (dlX7_learn_1.at 34 rfl) rfl rfl ?_
  refine q_iload_n hE 2 (dlX7_learn_1.at 35 rfl) rfl rfl ?_
  refine q_iadd hE (dlX7_learn_1.at 36 rfl) ?_
  refine q_iald hE (dlX7_learn_1.at 37 rfl) g5 rfl hm (fun hm => ?_)
  refine q_iload hE 3 (dlX7_learn_1.at 38 rfl) rfl ?_
  refine q_iadd hE (dlX7_learn_1.at 39 rfl) ?_
  refine q_iast hE hfx (dlX7_learn_2.at 0 rfl) g5 rfl u5 hm (fun hm => ?_)
  refine q_lth (X := fun z => WG V z o) hm (fun h10 hm => ?_)
  refine q_iinc hE [(0, _), (2, _), (3, _), (4, _)] 2 (dlX7_learn_2.at 1 rfl) rfl ic_1 rfl rfl ?_
  refine q_goto hE (tgt := 45) (dlX7_learn_2.at 2 rfl) (by decide) ?_
  refine q_sub hE [0, 1, 2] rfl ?_
  exact hK45 _ _ _ hm
set_option maxRecDepth 10000 in
theorem okL_X7_learn_45 {V : Ev} {l : Launch} {o : PH} {F : Nat}  (hfx : V.2.2.2.2 = false) {E : Cx} (hE : CX E V l cX7_learn RX7 5 4 0 0 none) {r : Unit × PH} (hQ : RQ E V 143 (WG V r.2 o) (none) 0 0) : ∀ (n : Nat) (x2 : Int32) (x3 : Int32) (h : PH), fL_X7_learn_45 F n x2 x3 h = some r → PW E V 0 0 143 (WG V h o) 45 [(0, rf V 1), (2, .int x2), (3, .int x3)] [] := by
  intro n
  induction n with
  | zero => intro x2 x3 h hm; cases hm
  | succ n ih =>
    intro x2 x3 h hm
    rw [fL_X7_learn_45] at hm
    refine q_iload_n hE 2 (dlX7_learn_0.at 32 rfl) rfl rfl ?_
    refine q_bipush hE (dlX7_learn_0.at 33 rfl) bc_100 ?_
    refine q_icmp_ge hE (tgt := 129) (dlX7_learn_0.at 34 rfl) (by decide) hm (fun hc5 hm => ?_) (fun hc5 hm => ?_)
    · exact q_vret (X := fun z => WG V z o) hE (dlX7_learn_2.at 3 rfl) hm hQ rfl
    · refine q_aload_n hE 0 (dlX7_learn_0.at 35 rfl) rfl rfl ?_
      refine q_get hE (dlX7_learn_0.at 36 rfl) kc7 wf_X7_50 g1 rfl rfl rfl ?_
      refine q_iconst hE (dlX7_learn_0.at 37 rfl) ic_3 ?_
      refine q_iload_n hE 2 (dlX7_learn_0.at 38 rfl) rfl rfl ?_
      refine q_bipush hE (dlX7_learn_0.at 39 rfl) bc_10 ?_
      refine q_irem hE (dlX7_learn_1.at 0 rfl) hm (fun hm => ?_)
      refine q_iast hE hfx (dlX7_learn_1.at 1 rfl) g15 rfl u15 hm (fun hm => ?_)
      refine q_lth (X := fun z => WG V z o) hm (fun h6 hm => ?_)
      refine q_aload_n hE 0 (dlX7_learn_1.at 2 rfl) rfl rfl ?_
      refine q_get hE (dlX7_learn_1.at 3 rfl) kc7 wf_X7_50 g1 rfl rfl rfl ?_
      refine q_iconst hE (dlX7_learn_1.at 4 rfl) ic_4 ?_
      refine q_iload_n hE 2 (dlX7_learn_1.at 5 rfl) rfl rfl ?_
      refine q_bipush hE (dlX7_learn_1.at 6 rfl) bc_10 ?_
      refine q_idiv hE (dlX7_learn_1.at 7 rfl) hm (fun hm => ?_)
      refine q_iast hE hfx (dlX7_learn_1.at 8 rfl) g15 rfl u15 hm (fun hm => ?_)
      refine q_lth (X := fun z => WG V z o) hm (fun h7 hm => ?_)
      refine q_aload_n hE 0 (dlX7_learn_1.at 9 rfl) rfl rfl ?_
      refine q_get hE (dlX7_learn_1.at 10 rfl) kc7 wf_X7_50 g1 rfl rfl rfl ?_
      refine q_iconst hE (dlX7_learn_1.at 11 rfl) ic_5 ?_
      refine q_iload_n hE 2 (dlX7_learn_1.at 12 rfl) rfl rfl ?_
      refine q_iast hE hfx (dlX7_learn_1.at 13 rfl) g15 rfl u15 hm (fun hm => ?_)
      refine q_lth (X := fun z => WG V z o) hm (fun h8 hm => ?_)
      refine q_aload_n hE 0 (dlX7_learn_1.at 14 rfl) rfl rfl ?_
      refine q_get hE (dlX7_learn_1.at 15 rfl) kc7 wf_X7_53 g1 rfl rfl rfl ?_
      refine q_ifnonnullO hE (tgt := 89) (dlX7_learn_1.at 16 rfl) (by decide) hm (fun _ hm => ?_) (fun z9 _ hm => ?_)
      · refine q_iconst hE (dlX7_learn_1.at 17 rfl) ic_1 ?_
        refine q_goto hE (tgt := 100) (dlX7_learn_1.at 18 rfl) (by decide) ?_
        refine q_sub hE [0, 1, 2] rfl ?_
        exact okL_X7_learn_100 hfx hE hQ (fun x11 x12 h13  hm => by
              refine q_sub hE [0, 1, 2] rfl ?_
              exact ih _ _ _  hm) _ _ _ _  hm
      · refine q_aload_n hE 0 (dlX7_learn_1.at 19 rfl) rfl rfl ?_
        refine q_get hE (dlX7_learn_1.at 20 rfl) kc7 wf_X7_53 g1 rfl rfl rfl ?_
        refine q_deref hE hm (fun z14 hz14 hm => ?_)
        refine q_aload_n hE 0 (dlX7_learn_1.at 21 rfl) rfl rfl ?_
        refine q_get hE (dlX7_learn_1.at 22 rfl) kc7 wf_X7_50 g1 rfl rfl rfl ?_
        refine q_callVN_i (X := fun z => WG V z o) hE (As := [_]) (dlX7_learn_1.at 23 rfl) mw_X2_newsBy wm_X7_88 rfl rfl rfl rfl (Nat.zero_le _) (Nat.zero_le _) rfl kc2 (g_Bench hz14) (b_Bench hz14) (ok_X2_newsBy hfx) hm (fun v15 h15 hm => ?_)
        refine q_sub hE [0, 1, 2] rfl ?_
        exact okL_X7_learn_100 hfx hE hQ (fun x16 x17 h18  hm => by
              refine q_sub hE [0, 1, 2] rfl ?_
              exact ih _ _ _  hm) _ _ _ _  hm
set_option maxRecDepth 10000 in
theorem ok_X7_learn {V : Ev} {l : Launch} {o : PH} {F : Nat}  (hfx : V.2.2.2.2 = false) {a1 : Int32} {h : PH} : ∀ (v : Unit) (h' : PH), f_X7_learn F a1 h = some (v, h') → Ctr l V yX7_learn cX7_learn 5 none 4 [rf V 1, .int a1] 143 (WG V h o) 143 (WG V (h') o) (none) 0 0 := by
  intro v h' hm
  refine Ctr.intro RX7 (by decide +kernel) rfl rfl rfl ?_
  intro E hE hQ _
  unfold f_X7_learn at hm
  refine q_iload_n hE 1 (dlX7_learn_0.at 0 rfl) rfl rfl ?_
  refine q_bipush hE (dlX7_learn_0.at 1 rfl) bc_101 ?_
  refine q_imul hE (dlX7_learn_0.at 2 rfl) ?_
  refine q_istore_n hE [(0, _), (1, _), (2, _)] (dlX7_learn_0.at 3 rfl) rfl rfl rfl ?_
  refine q_aload_n hE 0 (dlX7_learn_0.at 4 rfl) rfl rfl ?_
  refine q_get hE (dlX7_learn_0.at 5 rfl) kc7 wf_X7_50 g1 rfl rfl rfl ?_
  refine q_iconst hE (dlX7_learn_0.at 6 rfl) ic_0 ?_
  refine q_iload_n hE 1 (dlX7_learn_0.at 7 rfl) rfl rfl ?_
  refine q_iast hE hfx (dlX7_learn_0.at 8 rfl) g15 rfl u15 hm (fun hm => ?_)
  refine q_lth (X := fun z => WG V z o) hm (fun h1 hm => ?_)
  refine q_aload_n hE 0 (dlX7_learn_0.at 9 rfl) rfl rfl ?_
  refine q_get hE (dlX7_learn_0.at 10 rfl) kc7 wf_X7_50 g1 rfl rfl rfl ?_
  refine q_iconst hE (dlX7_learn_0.at 11 rfl) ic_1 ?_
  refine q_aload_n hE 0 (dlX7_learn_0.at 12 rfl) rfl rfl ?_
  refine q_get hE (dlX7_learn_0.at 13 rfl) kc7 wf_X7_15 g1 rfl rfl rfl ?_
  refine q_iload_n hE 1 (dlX7_learn_0.at 14 rfl) rfl rfl ?_
  refine q_iald hE (dlX7_learn_0.at 15 rfl) g2 rfl hm (fun hm => ?_)
  refine q_iast hE hfx (dlX7_learn_0.at 16 rfl) g15 rfl u15 hm (fun hm => ?_)
  refine q_lth (X := fun z => WG V z o) hm (fun h2 hm => ?_)
  refine q_aload_n hE 0 (dlX7_learn_0.at 17 rfl) rfl rfl ?_
  refine q_get hE (dlX7_learn_0.at 18 rfl) kc7 wf_X7_50 g1 rfl rfl rfl ?_
  refine q_iconst hE (dlX7_learn_0.at 19 rfl) ic_2 ?_
  refine q_aload_n hE 0 (dlX7_learn_0.at 20 rfl) rfl rfl ?_
  refine q_get hE (dlX7_learn_0.at 21 rfl) kc7 wf_X7_19 g1 rfl rfl rfl ?_
  refine q_iload_n hE 1 (dlX7_learn_0.at 22 rfl) rfl rfl ?_
  refine q_iald hE (dlX7_learn_0.at 23 rfl) g3 rfl hm (fun hm => ?_)
  refine q_iast hE hfx (dlX7_learn_0.at 24 rfl) g15 rfl u15 hm (fun hm => ?_)
  refine q_lth (X := fun z => WG V z o) hm (fun h3 hm => ?_)
  refine q_aload_n hE 0 (dlX7_learn_0.at 25 rfl) rfl rfl ?_
  refine q_get hE (dlX7_learn_0.at 26 rfl) kc7 wf_X7_25 g1 rfl rfl rfl ?_
  refine q_iload_n hE 2 (dlX7_learn_0.at 27 rfl) rfl rfl ?_
  refine q_iconst hE (dlX7_learn_0.at 28 rfl) ic_0 ?_
  refine q_iast hE hfx (dlX7_learn_0.at 29 rfl) g5 rfl u5 hm (fun hm => ?_)
  refine q_lth (X := fun z => WG V z o) hm (fun h4 hm => ?_)
  refine q_iconst hE (dlX7_learn_0.at 30 rfl) ic_0 ?_
  refine q_istore_n hE [(0, _), (1, _), (2, _), (3, _)] (dlX7_learn_0.at 31 rfl) rfl rfl rfl ?_
  refine q_sub hE [0, 2, 3] rfl ?_
  exact okL_X7_learn_45 hfx hE hQ  F _ _ _  hm
set_option maxRecDepth 10000 in
theorem okL_X7_enter_65 {V : Ev} {l : Launch} {o : PH} {F : Nat}  (hfx : V.2.2.2.2 = false) {E : Cx} (hE : CX E V l cX7_enter RX7 6 5 0 0 (some .int)) {r : Int32 × PH} (hQ : RQ E V 143 (WG V r.2 o) (some (.int r.1)) 0 0) : ∀ (n : Nat) (x4 : Int32) (x5 : Int32) (h : PH), fL_X7_enter_65 F n x4 x5 h = some r → PW E V 0 0 143 (WG V h o) 65 [(0, rf V 1), (4, .int x4), (5, .int x5)] [] := by
  intro n
  induction n with
  | zero => intro x4 x5 h hm; cases hm
  | succ n ih =>
    intro x4 x5 h hm
    rw [fL_X7_enter_65] at hm
    refine q_iload hE 2 (dlX7_enter_0.at 37 rfl) rfl ?_
    refine q_iconst hE (dlX7_enter_0.at 38 rfl) ic_4 ?_
    refine q_icmp_ge hE (tgt := 90) (dlX7_enter_0.at 39 rfl) (by decide) hm (fun hc6 hm => ?_) (fun hc6 hm => ?_)
    · refine q_aload_n hE 0 (dlX7_enter_1.at 11 rfl) rfl rfl ?_
      refine q_iload hE 1 (dlX7_enter_1.at 12 rfl) rfl ?_
      refine q_callV_v (X := fun z => WG V z o) hE (As := [_]) (dlX7_enter_1.at 13 rfl) mw_X7_learn wm_X7_80 rfl rfl rfl rfl (Nat.zero_le _) (Nat.zero_le _) rfl kc7 g1 rfl (ok_X7_learn hfx) hm (fun v7 h7 hm => ?_)
      refine q_iload hE 1 (dlX7_enter_1.at 14 rfl) rfl ?_
      exact q_iret (X := fun z => WG V z o) hE (dlX7_enter_1.at 15 rfl) hm hQ rfl
    · refine q_aload_n hE 0 (dlX7_enter_1.at 0 rfl) rfl rfl ?_
      refine q_get hE (dlX7_enter_1.at 1 rfl) kc7 wf_X7_22 g1 rfl rfl rfl ?_
      refine q_iload hE 1 (dlX7_enter_1.at 2 rfl) rfl ?_
      refine q_iconst hE (dlX7_enter_1.at 3 rfl) ic_4 ?_
      refine q_imul hE (dlX7_enter_1.at 4 rfl) ?_
      refine q_iload hE 2 (dlX7_enter_1.at 5 rfl) rfl ?_
      refine q_iadd hE (dlX7_enter_1.at 6 rfl) ?_
      refine q_iconst hE (dlX7_enter_1.at 7 rfl) ic_0 ?_
      refine q_iast hE hfx (dlX7_enter_1.at 8 rfl) g4 rfl u4 hm (fun hm => ?_)
      refine q_lth (X := fun z => WG V z o) hm (fun h8 hm => ?_)
      refine q_iinc hE [(0, _), (4, _), (5, _)] 2 (dlX7_enter_1.at 9 rfl) rfl ic_1 rfl rfl ?_
      refine q_goto hE (tgt := 65) (dlX7_enter_1.at 10 rfl) (by decide) ?_
      refine q_sub hE [0, 1, 2] rfl ?_
      exact ih _ _ _  hm
set_option maxRecDepth 10000 in
theorem ok_X7_enter {V : Ev} {l : Launch} {o : PH} {F : Nat}  (hfx : V.2.2.2.2 = false) {a1 : Int32} {a2 : Int32} {a3 : Int32} {h : PH} : ∀ (v : Int32) (h' : PH), f_X7_enter F a1 a2 a3 h = some (v, h') → Ctr l V yX7_enter cX7_enter 6 (some .int) 5 [rf V 1, .int a1, .int a2, .int a3] 143 (WG V h o) 143 (WG V (h') o) (some (.int v)) 0 0 := by
  intro v h' hm
  refine Ctr.intro RX7 (by decide +kernel) rfl rfl rfl ?_
  intro E hE hQ _
  unfold f_X7_enter at hm
  refine q_aload_n hE 0 (dlX7_enter_0.at 0 rfl) rfl rfl ?_
  refine q_get hE (dlX7_enter_0.at 1 rfl) kc7 wf_X7_11 g1 rfl rfl rfl ?_
  refine q_istore hE [(0, _), (1, _), (2, _), (3, _), (4, _)] (dlX7_enter_0.at 2 rfl) rfl rfl ?_
  refine q_aload_n hE 0 (dlX7_enter_0.at 3 rfl) rfl rfl ?_
  refine q_dup hE (dlX7_enter_0.at 4 rfl) rfl ?_
  refine q_get hE (dlX7_enter_0.at 5 rfl) kc7 wf_X7_11 g1 rfl rfl rfl ?_
  refine q_iconst hE (dlX7_enter_0.at 6 rfl) ic_1 ?_
  refine q_iadd hE (dlX7_enter_0.at 7 rfl) ?_
  refine q_put hE hfx (dlX7_enter_0.at 8 rfl) kc7 wf_X7_11 g1 rfl rfl rfl rfl rfl rfl u1_0 ?_
  refine q_lth (X := fun z => WG V z o) hm (fun h1 hm => ?_)
  refine q_aload_n hE 0 (dlX7_enter_0.at 9 rfl) rfl rfl ?_
  refine q_get hE (dlX7_enter_0.at 10 rfl) kc7 wf_X7_15 g1 rfl rfl rfl ?_
  refine q_iload hE 4 (dlX7_enter_0.at 11 rfl) rfl ?_
  refine q_iload_n hE 1 (dlX7_enter_0.at 12 rfl) rfl rfl ?_
  refine q_iast hE hfx (dlX7_enter_0.at 13 rfl) g2 rfl u2 hm (fun hm => ?_)
  refine q_lth (X := fun z => WG V z o) hm (fun h2 hm => ?_)
  refine q_aload_n hE 0 (dlX7_enter_0.at 14 rfl) rfl rfl ?_
  refine q_get hE (dlX7_enter_0.at 15 rfl) kc7 wf_X7_19 g1 rfl rfl rfl ?_
  refine q_iload hE 4 (dlX7_enter_0.at 16 rfl) rfl ?_
  refine q_iload_n hE 2 (dlX7_enter_0.at 17 rfl) rfl rfl ?_
  refine q_iast hE hfx (dlX7_enter_0.at 18 rfl) g3 rfl u3 hm (fun hm => ?_)
  refine q_lth (X := fun z => WG V z o) hm (fun h3 hm => ?_)
  refine q_aload_n hE 0 (dlX7_enter_0.at 19 rfl) rfl rfl ?_
  refine q_get hE (dlX7_enter_0.at 20 rfl) kc7 wf_X7_31 g1 rfl rfl rfl ?_
  refine q_getN hE (dlX7_enter_0.at 21 rfl) kc3 wf_X7_70 g6 rfl rfl rfl ?_
  refine q_iload hE 4 (dlX7_enter_0.at 22 rfl) rfl ?_
  refine q_aload_n hE 0 (dlX7_enter_0.at 23 rfl) rfl rfl ?_
  refine q_get hE (dlX7_enter_0.at 24 rfl) kc7 wf_X7_31 g1 rfl rfl rfl ?_
  refine q_getN hE (dlX7_enter_0.at 25 rfl) kc3 wf_X7_73 g6 rfl rfl rfl ?_
  refine q_iload_n hE 3 (dlX7_enter_0.at 26 rfl) rfl rfl ?_
  refine q_isub hE (dlX7_enter_0.at 27 rfl) ?_
  refine q_iast hE hfx (dlX7_enter_0.at 28 rfl) g7 rfl u7 hm (fun hm => ?_)
  refine q_lth (X := fun z => WG V z o) hm (fun h4 hm => ?_)
  refine q_aload_n hE 0 (dlX7_enter_0.at 29 rfl) rfl rfl ?_
  refine q_get hE (dlX7_enter_0.at 30 rfl) kc7 wf_X7_31 g1 rfl rfl rfl ?_
  refine q_getN hE (dlX7_enter_0.at 31 rfl) kc3 wf_X7_76 g6 rfl rfl rfl ?_
  refine q_iload hE 4 (dlX7_enter_0.at 32 rfl) rfl ?_
  refine q_iconst hE (dlX7_enter_0.at 33 rfl) ic_0 ?_
  refine q_zast hE hfx (dlX7_enter_0.at 34 rfl) g8 rfl u8 hm (fun hm => ?_)
  refine q_lth (X := fun z => WG V z o) hm (fun h5 hm => ?_)
  refine q_iconst hE (dlX7_enter_0.at 35 rfl) ic_0 ?_
  refine q_istore hE [(0, _), (1, _), (2, _), (3, _), (4, _), (5, _)] (dlX7_enter_0.at 36 rfl) rfl rfl ?_
  refine q_sub hE [0, 4, 5] rfl ?_
  exact okL_X7_enter_65 hfx hE hQ  F _ _ _  hm
set_option maxRecDepth 10000 in
theorem ok_X9_within {V : Ev} {l : Launch} {o : PH} {F : Nat}  (hfx : V.2.2.2.2 = false) {a0 : Int32} {a1 : Int32} {a2 : Int32} {h : PH} : ∀ (v : Int32) (h' : PH), f_X9_within F a0 a1 a2 h = some (v, h') → Ctr l V yX9_within cX9_within 3 (some .boolean) 1 [.int a0, .int a1, .int a2] 143 (WG V h o) 143 (WG V (h') o) (some (.int v)) 0 0 := by
  intro v h' hm
  refine Ctr.intro RX9 (by decide +kernel) rfl rfl rfl ?_
  intro E hE hQ _
  unfold f_X9_within at hm
  refine q_iload_n hE 0 (dlX9_within_0.at 0 rfl) rfl rfl ?_
  refine q_iload_n hE 1 (dlX9_within_0.at 1 rfl) rfl rfl ?_
  refine q_icmp_lt hE (tgt := 14) (dlX9_within_0.at 2 rfl) (by decide) hm (fun hc1 hm => ?_) (fun hc1 hm => ?_)
  · refine q_iconst hE (dlX9_within_0.at 8 rfl) ic_0 ?_
    exact q_bret (X := fun z => WG V z o) hE (dlX9_within_0.at 9 rfl) hm hQ rfl (by decide)
  · refine q_iload_n hE 0 (dlX9_within_0.at 3 rfl) rfl rfl ?_
    refine q_iload_n hE 2 (dlX9_within_0.at 4 rfl) rfl rfl ?_
    refine q_icmp_gt hE (tgt := 14) (dlX9_within_0.at 5 rfl) (by decide) hm (fun hc2 hm => ?_) (fun hc2 hm => ?_)
    · refine q_iconst hE (dlX9_within_0.at 8 rfl) ic_0 ?_
      exact q_bret (X := fun z => WG V z o) hE (dlX9_within_0.at 9 rfl) hm hQ rfl (by decide)
    · refine q_iconst hE (dlX9_within_0.at 6 rfl) ic_1 ?_
      refine q_goto hE (tgt := 15) (dlX9_within_0.at 7 rfl) (by decide) ?_
      exact q_bret (X := fun z => WG V z o) hE (dlX9_within_0.at 9 rfl) hm hQ rfl (by decide)
set_option maxRecDepth 10000 in
theorem ok_X9_clock {V : Ev} {l : Launch} {o : PH} {F : Nat}  (hfx : V.2.2.2.2 = false) {a1 : Int32} {a2 : Int32} {a3 : Int32} {h : PH} : ∀ (v : Int32) (h' : PH), f_X9_clock F a1 a2 a3 h = some (v, h') → Ctr l V yX9_clock cX9_clock 4 (some .int) 6 [rf V 0, .int a1, .int a2, .int a3] 143 (WG V h o) 143 (WG V (h') o) (some (.int v)) 0 0 := by
  intro v h' hm
  refine Ctr.intro RX9 (by decide +kernel) rfl rfl rfl ?_
  intro E hE hQ _
  unfold f_X9_clock at hm
  refine q_iload_n hE 1 (dlX9_clock_0.at 0 rfl) rfl rfl ?_
  refine q_iconst hE (dlX9_clock_0.at 1 rfl) ic_0 ?_
  refine q_bipush hE (dlX9_clock_0.at 2 rfl) bc_6 ?_
  refine q_callS_i (X := fun z => WG V z o) hE (As := [_, _, _]) (dlX9_clock_0.at 3 rfl) mw_X9_within wm_X9_73 rfl rfl rfl rfl (Nat.zero_le _) (Nat.zero_le _) rfl (ok_X9_within hfx) hm (fun v1 h1 hm => ?_)
  refine q_if_ne hE (tgt := 12) (dlX9_clock_0.at 4 rfl) (by decide) hm (fun hc2 hm => ?_) (fun hc2 hm => ?_)
  · refine q_iconst hE (dlX9_clock_0.at 5 rfl) ic_m1 ?_
    exact q_iret (X := fun z => WG V z o) hE (dlX9_clock_0.at 6 rfl) hm hQ rfl
  · refine q_iload_n hE 2 (dlX9_clock_0.at 7 rfl) rfl rfl ?_
    refine q_iconst hE (dlX9_clock_0.at 8 rfl) ic_0 ?_
    refine q_bipush hE (dlX9_clock_0.at 9 rfl) bc_9 ?_
    refine q_callS_i (X := fun z => WG V z o) hE (As := [_, _, _]) (dlX9_clock_0.at 10 rfl) mw_X9_within wm_X9_73 rfl rfl rfl rfl (Nat.zero_le _) (Nat.zero_le _) rfl (ok_X9_within hfx) hm (fun v3 h3 hm => ?_)
    refine q_if_eq hE (tgt := 40) (dlX9_clock_0.at 11 rfl) (by decide) hm (fun hc4 hm => ?_) (fun hc4 hm => ?_)
    · refine q_bipush hE (dlX9_clock_0.at 20 rfl) bc_m2 ?_
      exact q_iret (X := fun z => WG V z o) hE (dlX9_clock_0.at 21 rfl) hm hQ rfl
    · refine q_iload_n hE 3 (dlX9_clock_0.at 12 rfl) rfl rfl ?_
      refine q_iconst hE (dlX9_clock_0.at 13 rfl) ic_0 ?_
      refine q_aload_n hE 0 (dlX9_clock_0.at 14 rfl) rfl rfl ?_
      refine q_get hE (dlX9_clock_0.at 15 rfl) kc9 wf_X9_12 g0 rfl rfl rfl ?_
      refine q_getN hE (dlX9_clock_0.at 16 rfl) kc7 wf_X9_77 g1 rfl rfl rfl ?_
      refine q_getN hE (dlX9_clock_0.at 17 rfl) kc3 wf_X9_81 g6 rfl rfl rfl ?_
      refine q_callS_i (X := fun z => WG V z o) hE (As := [_, _, _]) (dlX9_clock_0.at 18 rfl) mw_X9_within wm_X9_73 rfl rfl rfl rfl (Nat.zero_le _) (Nat.zero_le _) rfl (ok_X9_within hfx) hm (fun v5 h5 hm => ?_)
      refine q_if_ne hE (tgt := 43) (dlX9_clock_0.at 19 rfl) (by decide) hm (fun hc6 hm => ?_) (fun hc6 hm => ?_)
      · refine q_bipush hE (dlX9_clock_0.at 20 rfl) bc_m2 ?_
        exact q_iret (X := fun z => WG V z o) hE (dlX9_clock_0.at 21 rfl) hm hQ rfl
      · refine q_aload_n hE 0 (dlX9_clock_0.at 22 rfl) rfl rfl ?_
        refine q_get hE (dlX9_clock_0.at 23 rfl) kc9 wf_X9_12 g0 rfl rfl rfl ?_
        refine q_getN hE (dlX9_clock_0.at 24 rfl) kc7 wf_X9_86 g1 rfl rfl rfl ?_
        refine q_bipush hE (dlX9_clock_0.at 25 rfl) bc_6 ?_
        refine q_icmp_lt hE (tgt := 58) (dlX9_clock_0.at 26 rfl) (by decide) hm (fun hc7 hm => ?_) (fun hc7 hm => ?_)
        · refine q_aload_n hE 0 (dlX9_clock_0.at 29 rfl) rfl rfl ?_
          refine q_get hE (dlX9_clock_0.at 30 rfl) kc9 wf_X9_12 g0 rfl rfl rfl ?_
          refine q_iload_n hE 1 (dlX9_clock_0.at 31 rfl) rfl rfl ?_
          refine q_iload_n hE 2 (dlX9_clock_0.at 32 rfl) rfl rfl ?_
          refine q_iload_n hE 3 (dlX9_clock_0.at 33 rfl) rfl rfl ?_
          refine q_callVN_i (X := fun z => WG V z o) hE (As := [_, _, _]) (dlX9_clock_0.at 34 rfl) mw_X7_enter wm_X9_89 rfl rfl rfl rfl (Nat.zero_le _) (Nat.zero_le _) rfl kc7 g1 rfl (ok_X7_enter hfx) hm (fun v8 h8 hm => ?_)
          exact q_iret (X := fun z => WG V z o) hE (dlX9_clock_0.at 35 rfl) hm hQ rfl
        · refine q_bipush hE (dlX9_clock_0.at 27 rfl) bc_m4 ?_
          exact q_iret (X := fun z => WG V z o) hE (dlX9_clock_0.at 28 rfl) hm hQ rfl
set_option maxRecDepth 10000 in
theorem ok_X7_newsOf {V : Ev} {l : Launch} {o : PH} {F : Nat}  (hfx : V.2.2.2.2 = false) {a1 : Int32} {a2 : Int32} {h : PH} : ∀ (v : Int32) (h' : PH), f_X7_newsOf F a1 a2 h = some (v, h') → Ctr l V yX7_newsOf cX7_newsOf 4 (some .int) 1 [rf V 1, .int a1, .int a2] 143 (WG V h o) 143 (WG V (h') o) (some (.int v)) 0 0 := by
  intro v h' hm
  refine Ctr.intro RX7 (by decide +kernel) rfl rfl rfl ?_
  intro E hE hQ _
  unfold f_X7_newsOf at hm
  refine q_iload_n hE 1 (dlX7_newsOf_0.at 0 rfl) rfl rfl ?_
  refine q_bipush hE (dlX7_newsOf_0.at 1 rfl) bc_101 ?_
  refine q_imul hE (dlX7_newsOf_0.at 2 rfl) ?_
  refine q_iload_n hE 2 (dlX7_newsOf_0.at 3 rfl) rfl rfl ?_
  refine q_bipush hE (dlX7_newsOf_0.at 4 rfl) bc_100 ?_
  refine q_irem hE (dlX7_newsOf_0.at 5 rfl) hm (fun hm => ?_)
  refine q_iadd hE (dlX7_newsOf_0.at 6 rfl) ?_
  refine q_istore_n hE [(0, _), (1, _), (2, _), (3, _)] (dlX7_newsOf_0.at 7 rfl) rfl rfl rfl ?_
  refine q_aload_n hE 0 (dlX7_newsOf_0.at 8 rfl) rfl rfl ?_
  refine q_get hE (dlX7_newsOf_0.at 9 rfl) kc7 wf_X7_25 g1 rfl rfl rfl ?_
  refine q_iload_n hE 3 (dlX7_newsOf_0.at 10 rfl) rfl rfl ?_
  refine q_iconst hE (dlX7_newsOf_0.at 11 rfl) ic_1 ?_
  refine q_iadd hE (dlX7_newsOf_0.at 12 rfl) ?_
  refine q_iald hE (dlX7_newsOf_0.at 13 rfl) g5 rfl hm (fun hm => ?_)
  refine q_aload_n hE 0 (dlX7_newsOf_0.at 14 rfl) rfl rfl ?_
  refine q_get hE (dlX7_newsOf_0.at 15 rfl) kc7 wf_X7_25 g1 rfl rfl rfl ?_
  refine q_iload_n hE 3 (dlX7_newsOf_0.at 16 rfl) rfl rfl ?_
  refine q_iald hE (dlX7_newsOf_0.at 17 rfl) g5 rfl hm (fun hm => ?_)
  refine q_isub hE (dlX7_newsOf_0.at 18 rfl) ?_
  exact q_iret (X := fun z => WG V z o) hE (dlX7_newsOf_0.at 19 rfl) hm hQ rfl
set_option maxRecDepth 10000 in
theorem okL_X7_minds_19 {V : Ev} {l : Launch} {o : PH} {F : Nat}  (hfx : V.2.2.2.2 = false) {E : Cx} (hE : CX E V l cX7_minds RX7 5 2 0 0 (some .boolean)) {r : Int32 × PH} (hQ : RQ E V 143 (WG V r.2 o) (some (.int r.1)) 0 0) : ∀ (x1 : Int32) (x2 : Int32) (x3 : Int32) (h : PH), fL_X7_minds_19 F x1 x2 x3 h = some r → PW E V 0 0 143 (WG V h o) 19 [(0, rf V 1), (1, .int x1), (2, .int x2), (3, .int x3)] [] := by
  intro x1 x2 x3 h hm
  unfold fL_X7_minds_19 at hm
  refine q_aload_n hE 0 (dlX7_minds_0.at 13 rfl) rfl rfl ?_
  refine q_get hE (dlX7_minds_0.at 14 rfl) kc7 wf_X7_19 g1 rfl rfl rfl ?_
  refine q_iload_n hE 1 (dlX7_minds_0.at 15 rfl) rfl rfl ?_
  refine q_iald hE (dlX7_minds_0.at 16 rfl) g3 rfl hm (fun hm => ?_)
  refine q_istore hE [(0, _), (1, _), (2, _), (3, _), (4, _)] (dlX7_minds_0.at 17 rfl) rfl rfl ?_
  refine q_iload_n hE 3 (dlX7_minds_0.at 18 rfl) rfl rfl ?_
  refine q_iconst hE (dlX7_minds_0.at 19 rfl) ic_5 ?_
  refine q_icmp_ne hE (tgt := 43) (dlX7_minds_0.at 20 rfl) (by decide) hm (fun hc2 hm => ?_) (fun hc2 hm => ?_)
  · refine q_iload_n hE 2 (dlX7_minds_0.at 21 rfl) rfl rfl ?_
    refine q_iload hE 4 (dlX7_minds_0.at 22 rfl) rfl ?_
    refine q_iconst hE (dlX7_minds_0.at 23 rfl) ic_2 ?_
    refine q_iadd hE (dlX7_minds_0.at 24 rfl) ?_
    refine q_irem hE (dlX7_minds_0.at 25 rfl) hm (fun hm => ?_)
    refine q_if_ne hE (tgt := 43) (dlX7_minds_0.at 26 rfl) (by decide) hm (fun hc5 hm => ?_) (fun hc5 hm => ?_)
    · refine q_iconst hE (dlX7_minds_0.at 27 rfl) ic_0 ?_
      exact q_bret (X := fun z => WG V z o) hE (dlX7_minds_0.at 28 rfl) hm hQ rfl (by decide)
    · refine q_aload_n hE 0 (dlX7_minds_0.at 29 rfl) rfl rfl ?_
      refine q_iload_n hE 1 (dlX7_minds_0.at 30 rfl) rfl rfl ?_
      refine q_iload_n hE 2 (dlX7_minds_0.at 31 rfl) rfl rfl ?_
      refine q_callV_i (X := fun z => WG V z o) hE (As := [_, _]) (dlX7_minds_0.at 32 rfl) mw_X7_newsOf wm_X7_112 rfl rfl rfl rfl (Nat.zero_le _) (Nat.zero_le _) rfl kc7 g1 rfl (ok_X7_newsOf hfx) hm (fun v6 h6 hm => ?_)
      refine q_iload hE 4 (dlX7_minds_0.at 33 rfl) rfl ?_
      refine q_iconst hE (dlX7_minds_0.at 34 rfl) ic_3 ?_
      refine q_iadd hE (dlX7_minds_0.at 35 rfl) ?_
      refine q_icmp_le hE (tgt := 60) (dlX7_minds_0.at 36 rfl) (by decide) hm (fun hc7 hm => ?_) (fun hc7 hm => ?_)
      · refine q_iconst hE (dlX7_minds_0.at 39 rfl) ic_0 ?_
        exact q_bret (X := fun z => WG V z o) hE (dlX7_minds_1.at 0 rfl) hm hQ rfl (by decide)
      · refine q_iconst hE (dlX7_minds_0.at 37 rfl) ic_1 ?_
        refine q_goto hE (tgt := 61) (dlX7_minds_0.at 38 rfl) (by decide) ?_
        exact q_bret (X := fun z => WG V z o) hE (dlX7_minds_1.at 0 rfl) hm hQ rfl (by decide)
  · refine q_aload_n hE 0 (dlX7_minds_0.at 29 rfl) rfl rfl ?_
    refine q_iload_n hE 1 (dlX7_minds_0.at 30 rfl) rfl rfl ?_
    refine q_iload_n hE 2 (dlX7_minds_0.at 31 rfl) rfl rfl ?_
    refine q_callV_i (X := fun z => WG V z o) hE (As := [_, _]) (dlX7_minds_0.at 32 rfl) mw_X7_newsOf wm_X7_112 rfl rfl rfl rfl (Nat.zero_le _) (Nat.zero_le _) rfl kc7 g1 rfl (ok_X7_newsOf hfx) hm (fun v3 h3 hm => ?_)
    refine q_iload hE 4 (dlX7_minds_0.at 33 rfl) rfl ?_
    refine q_iconst hE (dlX7_minds_0.at 34 rfl) ic_3 ?_
    refine q_iadd hE (dlX7_minds_0.at 35 rfl) ?_
    refine q_icmp_le hE (tgt := 60) (dlX7_minds_0.at 36 rfl) (by decide) hm (fun hc4 hm => ?_) (fun hc4 hm => ?_)
    · refine q_iconst hE (dlX7_minds_0.at 39 rfl) ic_0 ?_
      exact q_bret (X := fun z => WG V z o) hE (dlX7_minds_1.at 0 rfl) hm hQ rfl (by decide)
    · refine q_iconst hE (dlX7_minds_0.at 37 rfl) ic_1 ?_
      refine q_goto hE (tgt := 61) (dlX7_minds_0.at 38 rfl) (by decide) ?_
      exact q_bret (X := fun z => WG V z o) hE (dlX7_minds_1.at 0 rfl) hm hQ rfl (by decide)
set_option maxRecDepth 10000 in
theorem ok_X7_minds {V : Ev} {l : Launch} {o : PH} {F : Nat}  (hfx : V.2.2.2.2 = false) {a1 : Int32} {a2 : Int32} {h : PH} : ∀ (v : Int32) (h' : PH), f_X7_minds F a1 a2 h = some (v, h') → Ctr l V yX7_minds cX7_minds 5 (some .boolean) 2 [rf V 1, .int a1, .int a2] 143 (WG V h o) 143 (WG V (h') o) (some (.int v)) 0 0 := by
  intro v h' hm
  refine Ctr.intro RX7 (by decide +kernel) rfl rfl rfl ?_
  intro E hE hQ _
  unfold f_X7_minds at hm
  refine q_aload_n hE 0 (dlX7_minds_0.at 0 rfl) rfl rfl ?_
  refine q_get hE (dlX7_minds_0.at 1 rfl) kc7 wf_X7_15 g1 rfl rfl rfl ?_
  refine q_iload_n hE 1 (dlX7_minds_0.at 2 rfl) rfl rfl ?_
  refine q_iald hE (dlX7_minds_0.at 3 rfl) g2 rfl hm (fun hm => ?_)
  refine q_istore_n hE [(0, _), (1, _), (2, _), (3, _)] (dlX7_minds_0.at 4 rfl) rfl rfl rfl ?_
  refine q_iload_n hE 3 (dlX7_minds_0.at 5 rfl) rfl rfl ?_
  refine q_iconst hE (dlX7_minds_0.at 6 rfl) ic_2 ?_
  refine q_icmp_eq hE (tgt := 19) (dlX7_minds_0.at 7 rfl) (by decide) hm (fun hc1 hm => ?_) (fun hc1 hm => ?_)
  · refine q_sub hE [0, 1, 2, 3] rfl ?_
    exact okL_X7_minds_19 hfx hE hQ  _ _ _ _  hm
  · refine q_iload_n hE 3 (dlX7_minds_0.at 8 rfl) rfl rfl ?_
    refine q_iconst hE (dlX7_minds_0.at 9 rfl) ic_5 ?_
    refine q_icmp_eq hE (tgt := 19) (dlX7_minds_0.at 10 rfl) (by decide) hm (fun hc8 hm => ?_) (fun hc8 hm => ?_)
    · refine q_sub hE [0, 1, 2, 3] rfl ?_
      exact okL_X7_minds_19 hfx hE hQ  _ _ _ _  hm
    · refine q_iconst hE (dlX7_minds_0.at 11 rfl) ic_0 ?_
      exact q_bret (X := fun z => WG V z o) hE (dlX7_minds_0.at 12 rfl) hm hQ rfl (by decide)
set_option maxRecDepth 10000 in
theorem okL_X1_minded_31 {V : Ev} {l : Launch} {o : PH} {F : Nat}  (hfx : V.2.2.2.2 = false) {E : Cx} (hE : CX E V l cX1_minded RX1 3 3 0 0 (some .int)) {r : Int32 × PH} (hQ : RQ E V 143 (WG V r.2 o) (some (.int r.1)) 0 0) : ∀ (n : Nat) (x1 : Int32) (x2 : Int32) (h : PH), fL_X1_minded_31 F n x1 x2 h = some r → PW E V 0 0 143 (WG V h o) 31 [(0, rf V 34), (1, .int x1), (2, .int x2)] [] := by
  intro n
  induction n with
  | zero => intro x1 x2 h hm; cases hm
  | succ n ih =>
    intro x1 x2 h hm
    rw [fL_X1_minded_31] at hm
    refine q_iload_n hE 2 (dlX1_minded_0.at 16 rfl) rfl rfl ?_
    refine q_aload_n hE 0 (dlX1_minded_0.at 17 rfl) rfl rfl ?_
    refine q_get hE (dlX1_minded_0.at 18 rfl) kc1 wf_X1_25 g34 rfl rfl rfl ?_
    refine q_getN hE (dlX1_minded_0.at 19 rfl) kc7 wf_X1_29 g1 rfl rfl rfl ?_
    refine q_getN hE (dlX1_minded_0.at 20 rfl) kc3 wf_X1_64 g6 rfl rfl rfl ?_
    refine q_icmp_ge hE (tgt := 65) (dlX1_minded_0.at 21 rfl) (by decide) hm (fun hc2 hm => ?_) (fun hc2 hm => ?_)
    · refine q_bipush hE (dlX1_minded_0.at 32 rfl) bc_m5 ?_
      exact q_iret (X := fun z => WG V z o) hE (dlX1_minded_0.at 33 rfl) hm hQ rfl
    · refine q_aload_n hE 0 (dlX1_minded_0.at 22 rfl) rfl rfl ?_
      refine q_get hE (dlX1_minded_0.at 23 rfl) kc1 wf_X1_25 g34 rfl rfl rfl ?_
      refine q_iload_n hE 1 (dlX1_minded_0.at 24 rfl) rfl rfl ?_
      refine q_iload_n hE 2 (dlX1_minded_0.at 25 rfl) rfl rfl ?_
      refine q_callVN_i (X := fun z => WG V z o) hE (As := [_, _]) (dlX1_minded_0.at 26 rfl) mw_X7_minds wm_X1_67 rfl rfl rfl rfl (Nat.zero_le _) (Nat.zero_le _) rfl kc7 g1 rfl (ok_X7_minds hfx) hm (fun v3 h3 hm => ?_)
      refine q_if_eq hE (tgt := 59) (dlX1_minded_0.at 27 rfl) (by decide) hm (fun hc4 hm => ?_) (fun hc4 hm => ?_)
      · refine q_iinc hE [(0, _), (1, _), (2, _)] 2 (dlX1_minded_0.at 30 rfl) rfl ic_1 rfl rfl ?_
        refine q_goto hE (tgt := 31) (dlX1_minded_0.at 31 rfl) (by decide) ?_
        refine q_sub hE [0, 1, 2] rfl ?_
        exact ih _ _ _  hm
      · refine q_iload_n hE 2 (dlX1_minded_0.at 28 rfl) rfl rfl ?_
        exact q_iret (X := fun z => WG V z o) hE (dlX1_minded_0.at 29 rfl) hm hQ rfl
set_option maxRecDepth 10000 in
theorem ok_X1_minded {V : Ev} {l : Launch} {o : PH} {F : Nat}  (hfx : V.2.2.2.2 = false) {a1 : Int32} {h : PH} : ∀ (v : Int32) (h' : PH), f_X1_minded F a1 h = some (v, h') → Ctr l V yX1_minded cX1_minded 3 (some .int) 3 [rf V 34, .int a1] 143 (WG V h o) 143 (WG V (h') o) (some (.int v)) 0 0 := by
  intro v h' hm
  refine Ctr.intro RX1 (by decide +kernel) rfl rfl rfl ?_
  intro E hE hQ _
  unfold f_X1_minded at hm
  refine q_aload_n hE 0 (dlX1_minded_0.at 0 rfl) rfl rfl ?_
  refine q_get hE (dlX1_minded_0.at 1 rfl) kc1 wf_X1_25 g34 rfl rfl rfl ?_
  refine q_getN hE (dlX1_minded_0.at 2 rfl) kc7 wf_X1_29 g1 rfl rfl rfl ?_
  refine q_getN hE (dlX1_minded_0.at 3 rfl) kc3 wf_X1_53 g6 rfl rfl rfl ?_
  refine q_iload_n hE 1 (dlX1_minded_0.at 4 rfl) rfl rfl ?_
  refine q_zald hE (dlX1_minded_0.at 5 rfl) g8 rfl hm (fun hm => ?_)
  refine q_if_eq hE (tgt := 18) (dlX1_minded_0.at 6 rfl) (by decide) hm (fun hc1 hm => ?_) (fun hc1 hm => ?_)
  · refine q_aload_n hE 0 (dlX1_minded_0.at 9 rfl) rfl rfl ?_
    refine q_get hE (dlX1_minded_0.at 10 rfl) kc1 wf_X1_25 g34 rfl rfl rfl ?_
    refine q_getN hE (dlX1_minded_0.at 11 rfl) kc7 wf_X1_29 g1 rfl rfl rfl ?_
    refine q_getN hE (dlX1_minded_0.at 12 rfl) kc3 wf_X1_49 g6 rfl rfl rfl ?_
    refine q_iload_n hE 1 (dlX1_minded_0.at 13 rfl) rfl rfl ?_
    refine q_iald hE (dlX1_minded_0.at 14 rfl) g7 rfl hm (fun hm => ?_)
    refine q_istore_n hE [(0, _), (1, _), (2, _)] (dlX1_minded_0.at 15 rfl) rfl rfl rfl ?_
    refine q_sub hE [0, 1, 2] rfl ?_
    exact okL_X1_minded_31 hfx hE hQ  F _ _ _  hm
  · refine q_bipush hE (dlX1_minded_0.at 7 rfl) bc_m5 ?_
    exact q_iret (X := fun z => WG V z o) hE (dlX1_minded_0.at 8 rfl) hm hQ rfl
set_option maxRecDepth 10000 in
theorem okL_X3_copyFrom_10 {V : Ev} {l : Launch} {o : PH} {F : Nat}  (hfx : V.2.2.2.2 = false) {E : Cx} (hE : CX E V l cX3_copyFrom RX3 3 1 0 0 none) {r : Unit × PH} (hQ : RQ E V 143 (WG V r.2 o) (none) 0 0) : ∀ (n : Nat) (x0 : Nat) (x1 : Nat) (x2 : Int32) (h : PH), isCourse x0 = true → isCourse x1 = true → fL_X3_copyFrom_10 F n x0 x1 x2 h = some r → PW E V 0 0 143 (WG V h o) 10 [(0, rf V x0), (1, rf V x1), (2, .int x2)] [] := by
  intro n
  induction n with
  | zero => intro x0 x1 x2 h hx0 hx1 hm; cases hm
  | succ n ih =>
    intro x0 x1 x2 h hx0 hx1 hm
    rw [fL_X3_copyFrom_10] at hm
    refine q_iload_n hE 2 (dlX3_copyFrom_0.at 6 rfl) rfl rfl ?_
    refine q_bipush hE (dlX3_copyFrom_0.at 7 rfl) bc_6 ?_
    refine q_icmp_ge hE (tgt := 46) (dlX3_copyFrom_0.at 8 rfl) (by decide) hm (fun hc2 hm => ?_) (fun hc2 hm => ?_)
    · exact q_vret (X := fun z => WG V z o) hE (dlX3_copyFrom_0.at 27 rfl) hm hQ rfl
    · refine q_aload_n hE 0 (dlX3_copyFrom_0.at 9 rfl) rfl rfl ?_
      refine q_get hE (dlX3_copyFrom_0.at 10 rfl) kc3 wf_X3_15 (g_Course hx0) rfl (b_Course hx0) rfl ?_
      refine q_iload_n hE 2 (dlX3_copyFrom_0.at 11 rfl) rfl rfl ?_
      refine q_aload_n hE 1 (dlX3_copyFrom_0.at 12 rfl) rfl rfl ?_
      refine q_get hE (dlX3_copyFrom_0.at 13 rfl) kc3 wf_X3_15 (g_Course hx1) rfl (b_Course hx1) rfl ?_
      refine q_iload_n hE 2 (dlX3_copyFrom_0.at 14 rfl) rfl rfl ?_
      refine q_iald hE (dlX3_copyFrom_0.at 15 rfl) (g_Course_heard hx1) (b_Course_heard hx1) hm (fun hm => ?_)
      refine q_iast hE hfx (dlX3_copyFrom_0.at 16 rfl) (g_Course_heard hx0) (b_Course_heard hx0) (u_Course_heard hx0) hm (fun hm => ?_)
      refine q_lth (X := fun z => WG V z o) hm (fun h3 hm => ?_)
      refine q_aload_n hE 0 (dlX3_copyFrom_0.at 17 rfl) rfl rfl ?_
      refine q_get hE (dlX3_copyFrom_0.at 18 rfl) kc3 wf_X3_19 (g_Course hx0) rfl (b_Course hx0) rfl ?_
      refine q_iload_n hE 2 (dlX3_copyFrom_0.at 19 rfl) rfl rfl ?_
      refine q_aload_n hE 1 (dlX3_copyFrom_0.at 20 rfl) rfl rfl ?_
      refine q_get hE (dlX3_copyFrom_0.at 21 rfl) kc3 wf_X3_19 (g_Course hx1) rfl (b_Course hx1) rfl ?_
      refine q_iload_n hE 2 (dlX3_copyFrom_0.at 22 rfl) rfl rfl ?_
      refine q_zald hE (dlX3_copyFrom_0.at 23 rfl) (g_Course_balks hx1) (b_Course_balks hx1) hm (fun hm => ?_)
      refine q_zast hE hfx (dlX3_copyFrom_0.at 24 rfl) (g_Course_balks hx0) (b_Course_balks hx0) (u_Course_balks hx0) hm (fun hm => ?_)
      refine q_lth (X := fun z => WG V z o) hm (fun h4 hm => ?_)
      refine q_iinc hE [(0, _), (1, _), (2, _)] 2 (dlX3_copyFrom_0.at 25 rfl) rfl ic_1 rfl rfl ?_
      refine q_goto hE (tgt := 10) (dlX3_copyFrom_0.at 26 rfl) (by decide) ?_
      refine q_sub hE [0, 1, 2] rfl ?_
      exact ih _ _ _ _ hx0 hx1 hm
set_option maxRecDepth 10000 in
theorem ok_X3_copyFrom {V : Ev} {l : Launch} {o : PH} {F : Nat}  (hfx : V.2.2.2.2 = false) {t : Nat} {a1 : Nat} {h : PH} : ∀ (v : Unit) (h' : PH), f_X3_copyFrom F t a1 h = some (v, h') → Ctr l V yX3_copyFrom cX3_copyFrom 3 none 1 [rf V t, rf V a1] 143 (WG V h o) 143 (WG V (h') o) (none) 0 0 := by
  intro v h' hm
  refine Ctr.intro RX3 (by decide +kernel) rfl rfl rfl ?_
  intro E hE hQ _
  unfold f_X3_copyFrom at hm
  obtain ⟨ht, hm⟩ := g_if hm
  obtain ⟨hp1, hm⟩ := g_if hm
  refine q_aload_n hE 0 (dlX3_copyFrom_0.at 0 rfl) rfl rfl ?_
  refine q_aload_n hE 1 (dlX3_copyFrom_0.at 1 rfl) rfl rfl ?_
  refine q_get hE (dlX3_copyFrom_0.at 2 rfl) kc3 wf_X3_9 (g_Course hp1) rfl (b_Course hp1) rfl ?_
  refine q_put hE hfx (dlX3_copyFrom_0.at 3 rfl) kc3 wf_X3_9 (g_Course ht) rfl rfl rfl rfl (b_Course ht) rfl (u_Course_0 ht) ?_
  refine q_lth (X := fun z => WG V z o) hm (fun h1 hm => ?_)
  refine q_iconst hE (dlX3_copyFrom_0.at 4 rfl) ic_0 ?_
  refine q_istore_n hE [(0, _), (1, _), (2, _)] (dlX3_copyFrom_0.at 5 rfl) rfl rfl rfl ?_
  refine q_sub hE [0, 1, 2] rfl ?_
  exact okL_X3_copyFrom_10 hfx hE hQ  F _ _ _ _ ht hp1 hm
set_option maxRecDepth 10000 in
theorem ok_X1_begin {V : Ev} {l : Launch} {o : PH} {F : Nat}  (hfx : V.2.2.2.2 = false)  {h : PH} : ∀ (v : Unit) (h' : PH), f_X1_begin F  h = some (v, h') → Ctr l V yX1_begin cX1_begin 1 none 2 [rf V 34] 143 (WG V h o) 143 (WG V (h') o) (none) 0 0 := by
  intro v h' hm
  refine Ctr.intro RX1 (by decide +kernel) rfl rfl rfl ?_
  intro E hE hQ _
  unfold f_X1_begin at hm
  refine q_aload_n hE 0 (dlX1_begin_0.at 0 rfl) rfl rfl ?_
  refine q_get hE (dlX1_begin_0.at 1 rfl) kc1 wf_X1_12 g34 rfl rfl rfl ?_
  refine q_aload_n hE 0 (dlX1_begin_0.at 2 rfl) rfl rfl ?_
  refine q_get hE (dlX1_begin_0.at 3 rfl) kc1 wf_X1_25 g34 rfl rfl rfl ?_
  refine q_getN hE (dlX1_begin_0.at 4 rfl) kc7 wf_X1_29 g1 rfl rfl rfl ?_
  refine q_callVN_v (X := fun z => WG V z o) hE (As := [_]) (dlX1_begin_0.at 5 rfl) mw_X3_copyFrom wm_X1_34 rfl rfl rfl rfl (Nat.zero_le _) (Nat.zero_le _) rfl kc3 g35 rfl (ok_X3_copyFrom hfx) hm (fun v1 h1 hm => ?_)
  exact q_vret (X := fun z => WG V z o) hE (dlX1_begin_0.at 6 rfl) hm hQ rfl
set_option maxRecDepth 10000 in
theorem ok_X3_isUp {V : Ev} {l : Launch} {o : PH} {F : Nat}  (hfx : V.2.2.2.2 = false) {t : Nat} {a1 : Int32} {h : PH} : ∀ (v : Int32) (h' : PH), f_X3_isUp F t a1 h = some (v, h') → Ctr l V yX3_isUp cX3_isUp 2 (some .boolean) 1 [rf V t, .int a1] 143 (WG V h o) 143 (WG V (h') o) (some (.int v)) 0 0 := by
  intro v h' hm
  refine Ctr.intro RX3 (by decide +kernel) rfl rfl rfl ?_
  intro E hE hQ _
  unfold f_X3_isUp at hm
  obtain ⟨ht, hm⟩ := g_if hm
  refine q_aload_n hE 0 (dlX3_isUp_0.at 0 rfl) rfl rfl ?_
  refine q_get hE (dlX3_isUp_0.at 1 rfl) kc3 wf_X3_15 (g_Course ht) rfl (b_Course ht) rfl ?_
  refine q_iload_n hE 1 (dlX3_isUp_0.at 2 rfl) rfl rfl ?_
  refine q_iald hE (dlX3_isUp_0.at 3 rfl) (g_Course_heard ht) (b_Course_heard ht) hm (fun hm => ?_)
  refine q_aload_n hE 0 (dlX3_isUp_0.at 4 rfl) rfl rfl ?_
  refine q_get hE (dlX3_isUp_0.at 5 rfl) kc3 wf_X3_9 (g_Course ht) rfl (b_Course ht) rfl ?_
  refine q_icmp_ne hE (tgt := 17) (dlX3_isUp_0.at 6 rfl) (by decide) hm (fun hc1 hm => ?_) (fun hc1 hm => ?_)
  · refine q_iconst hE (dlX3_isUp_0.at 7 rfl) ic_1 ?_
    refine q_goto hE (tgt := 18) (dlX3_isUp_0.at 8 rfl) (by decide) ?_
    exact q_bret (X := fun z => WG V z o) hE (dlX3_isUp_0.at 10 rfl) hm hQ rfl (by decide)
  · refine q_iconst hE (dlX3_isUp_0.at 9 rfl) ic_0 ?_
    exact q_bret (X := fun z => WG V z o) hE (dlX3_isUp_0.at 10 rfl) hm hQ rfl (by decide)
set_option maxRecDepth 10000 in
theorem ok_X7_pace {V : Ev} {l : Launch} {o : PH} {F : Nat}  (hfx : V.2.2.2.2 = false)  {h : PH} : ∀ (v : Int32) (h' : PH), f_X7_pace F  h = some (v, h') → Ctr l V yX7_pace cX7_pace 1 (some .int) 1 [rf V 1] 143 (WG V h o) 143 (WG V (h') o) (some (.int v)) 0 0 := by
  intro v h' hm
  refine Ctr.intro RX7 (by decide +kernel) rfl rfl rfl ?_
  intro E hE hQ _
  unfold f_X7_pace at hm
  refine q_aload_n hE 0 (dlX7_pace_0.at 0 rfl) rfl rfl ?_
  refine q_get hE (dlX7_pace_0.at 1 rfl) kc7 wf_X7_53 g1 rfl rfl rfl ?_
  refine q_ifnonnullO hE (tgt := 12) (dlX7_pace_0.at 2 rfl) (by decide) hm (fun _ hm => ?_) (fun z1 _ hm => ?_)
  · refine q_bipush hE (dlX7_pace_0.at 3 rfl) bc_10 ?_
    refine q_goto hE (tgt := 19) (dlX7_pace_0.at 4 rfl) (by decide) ?_
    exact q_iret (X := fun z => WG V z o) hE (dlX7_pace_0.at 8 rfl) hm hQ rfl
  · refine q_aload_n hE 0 (dlX7_pace_0.at 5 rfl) rfl rfl ?_
    refine q_get hE (dlX7_pace_0.at 6 rfl) kc7 wf_X7_53 g1 rfl rfl rfl ?_
    refine q_deref hE hm (fun z2 hz2 hm => ?_)
    refine q_getN hE (dlX7_pace_0.at 7 rfl) kc2 wf_X7_85 (g_Bench hz2) rfl (b_Bench hz2) rfl ?_
    exact q_iret (X := fun z => WG V z o) hE (dlX7_pace_0.at 8 rfl) hm hQ rfl
set_option maxRecDepth 10000 in
theorem ok_X7_holds {V : Ev} {l : Launch} {o : PH} {F : Nat}  (hfx : V.2.2.2.2 = false) {a1 : Int32} {a2 : Int32} {h : PH} : ∀ (v : Int32) (h' : PH), f_X7_holds F a1 a2 h = some (v, h') → Ctr l V yX7_holds cX7_holds 4 (some .int) 2 [rf V 1, .int a1, .int a2] 143 (WG V h o) 143 (WG V (h') o) (some (.int v)) 0 0 := by
  intro v h' hm
  refine Ctr.intro RX7 (by decide +kernel) rfl rfl rfl ?_
  intro E hE hQ _
  unfold f_X7_holds at hm
  refine q_aload_n hE 0 (dlX7_holds_0.at 0 rfl) rfl rfl ?_
  refine q_callV_i (X := fun z => WG V z o) hE (As := []) (dlX7_holds_0.at 1 rfl) mw_X7_pace wm_X7_104 rfl rfl rfl rfl (Nat.zero_le _) (Nat.zero_le _) rfl kc7 g1 rfl (ok_X7_pace hfx) hm (fun v1 h1 hm => ?_)
  refine q_istore_n hE [(0, _), (1, _), (2, _), (3, _)] (dlX7_holds_0.at 2 rfl) rfl rfl rfl ?_
  refine q_aload_n hE 0 (dlX7_holds_0.at 3 rfl) rfl rfl ?_
  refine q_get hE (dlX7_holds_0.at 4 rfl) kc7 wf_X7_15 g1 rfl rfl rfl ?_
  refine q_iload_n hE 1 (dlX7_holds_0.at 5 rfl) rfl rfl ?_
  refine q_iald hE (dlX7_holds_0.at 6 rfl) g2 rfl hm (fun hm => ?_)
  refine q_tcase hE (dlX7_holds_0.at 7 rfl) (1 : Int32) 48 (by decide) hm (fun _ hm => ?_) (fun hn2_1 hm => ?_)
  · refine q_iload_n hE 3 (dlX7_holds_0.at 8 rfl) rfl rfl ?_
    refine q_iconst hE (dlX7_holds_0.at 9 rfl) ic_2 ?_
    refine q_imul hE (dlX7_holds_0.at 10 rfl) ?_
    exact q_iret (X := fun z => WG V z o) hE (dlX7_holds_0.at 11 rfl) hm hQ rfl
  · refine q_tcase hE (dlX7_holds_0.at 7 rfl) (2 : Int32) 92 (by decide) hm (fun _ hm => ?_) (fun hn2_2 hm => ?_)
    · refine q_iload_n hE 3 (dlX7_holds_1.at 4 rfl) rfl rfl ?_
      exact q_iret (X := fun z => WG V z o) hE (dlX7_holds_1.at 5 rfl) hm hQ rfl
    · refine q_tcase hE (dlX7_holds_0.at 7 rfl) (3 : Int32) 52 (by decide) hm (fun _ hm => ?_) (fun hn2_3 hm => ?_)
      · refine q_iconst hE (dlX7_holds_0.at 12 rfl) ic_1 ?_
        refine q_iload_n hE 3 (dlX7_holds_0.at 13 rfl) rfl rfl ?_
        refine q_iconst hE (dlX7_holds_0.at 14 rfl) ic_2 ?_
        refine q_idiv hE (dlX7_holds_0.at 15 rfl) hm (fun hm => ?_)
        refine q_mmax hE (dlX7_holds_0.at 16 rfl) wm_X7_107 w_mmax rfl rfl (Nat.zero_le _) (Nat.zero_le _) ?_
        exact q_iret (X := fun z => WG V z o) hE (dlX7_holds_0.at 17 rfl) hm hQ rfl
      · refine q_tcase hE (dlX7_holds_0.at 7 rfl) (4 : Int32) 60 (by decide) hm (fun _ hm => ?_) (fun hn2_4 hm => ?_)
        · refine q_iload_n hE 3 (dlX7_holds_0.at 18 rfl) rfl rfl ?_
          refine q_iconst hE (dlX7_holds_0.at 19 rfl) ic_2 ?_
          refine q_imul hE (dlX7_holds_0.at 20 rfl) ?_
          refine q_aload_n hE 0 (dlX7_holds_0.at 21 rfl) rfl rfl ?_
          refine q_get hE (dlX7_holds_0.at 22 rfl) kc7 wf_X7_19 g1 rfl rfl rfl ?_
          refine q_iload_n hE 1 (dlX7_holds_0.at 23 rfl) rfl rfl ?_
          refine q_iald hE (dlX7_holds_0.at 24 rfl) g3 rfl hm (fun hm => ?_)
          refine q_iadd hE (dlX7_holds_0.at 25 rfl) ?_
          exact q_iret (X := fun z => WG V z o) hE (dlX7_holds_0.at 26 rfl) hm hQ rfl
        · refine q_tcase hE (dlX7_holds_0.at 7 rfl) (5 : Int32) 92 (by decide) hm (fun _ hm => ?_) (fun hn2_5 hm => ?_)
          · refine q_iload_n hE 3 (dlX7_holds_1.at 4 rfl) rfl rfl ?_
            exact q_iret (X := fun z => WG V z o) hE (dlX7_holds_1.at 5 rfl) hm hQ rfl
          · refine q_tcase hE (dlX7_holds_0.at 7 rfl) (6 : Int32) 71 (by decide) hm (fun _ hm => ?_) (fun hn2_6 hm => ?_)
            · refine q_iconst hE (dlX7_holds_0.at 27 rfl) ic_1 ?_
              refine q_iload_n hE 3 (dlX7_holds_0.at 28 rfl) rfl rfl ?_
              refine q_iconst hE (dlX7_holds_0.at 29 rfl) ic_2 ?_
              refine q_idiv hE (dlX7_holds_0.at 30 rfl) hm (fun hm => ?_)
              refine q_mmax hE (dlX7_holds_0.at 31 rfl) wm_X7_107 w_mmax rfl rfl (Nat.zero_le _) (Nat.zero_le _) ?_
              refine q_aload_n hE 0 (dlX7_holds_0.at 32 rfl) rfl rfl ?_
              refine q_get hE (dlX7_holds_0.at 33 rfl) kc7 wf_X7_22 g1 rfl rfl rfl ?_
              refine q_iload_n hE 1 (dlX7_holds_0.at 34 rfl) rfl rfl ?_
              refine q_iconst hE (dlX7_holds_0.at 35 rfl) ic_4 ?_
              refine q_imul hE (dlX7_holds_0.at 36 rfl) ?_
              refine q_iload_n hE 2 (dlX7_holds_0.at 37 rfl) rfl rfl ?_
              refine q_iconst hE (dlX7_holds_0.at 38 rfl) ic_4 ?_
              refine q_irem hE (dlX7_holds_0.at 39 rfl) hm (fun hm => ?_)
              refine q_iadd hE (dlX7_holds_1.at 0 rfl) ?_
              refine q_iald hE (dlX7_holds_1.at 1 rfl) g4 rfl hm (fun hm => ?_)
              refine q_iadd hE (dlX7_holds_1.at 2 rfl) ?_
              exact q_iret (X := fun z => WG V z o) hE (dlX7_holds_1.at 3 rfl) hm hQ rfl
            · refine q_tdef hE (tgt := 92) (dlX7_holds_0.at 7 rfl) (by have := lv_neT (a := 1) hn2_1 (by decide); have := lv_neT (a := 2) hn2_2 (by decide); have := lv_neT (a := 3) hn2_3 (by decide); have := lv_neT (a := 4) hn2_4 (by decide); have := lv_neT (a := 5) hn2_5 (by decide); have := lv_neT (a := 6) hn2_6 (by decide); omega) (by decide) ?_
              refine q_iload_n hE 3 (dlX7_holds_1.at 4 rfl) rfl rfl ?_
              exact q_iret (X := fun z => WG V z o) hE (dlX7_holds_1.at 5 rfl) hm hQ rfl
set_option maxRecDepth 10000 in
theorem okL_X7_night_2 {V : Ev} {l : Launch} {o : PH} {F : Nat}  (hfx : V.2.2.2.2 = false) {E : Cx} (hE : CX E V l cX7_night RX7 3 2 0 0 none) {r : Unit × PH} (hQ : RQ E V 143 (WG V r.2 o) (none) 0 0) : ∀ (n : Nat) (x1 : Nat) (x2 : Int32) (h : PH), isCourse x1 = true → fL_X7_night_2 F n x1 x2 h = some r → PW E V 0 0 143 (WG V h o) 2 [(0, rf V 1), (1, rf V x1), (2, .int x2)] [] := by
  intro n
  induction n with
  | zero => intro x1 x2 h hx1 hm; cases hm
  | succ n ih =>
    intro x1 x2 h hx1 hm
    rw [fL_X7_night_2] at hm
    refine q_iload_n hE 2 (dlX7_night_0.at 2 rfl) rfl rfl ?_
    refine q_aload_n hE 0 (dlX7_night_0.at 3 rfl) rfl rfl ?_
    refine q_get hE (dlX7_night_0.at 4 rfl) kc7 wf_X7_11 g1 rfl rfl rfl ?_
    refine q_icmp_ge hE (tgt := 34) (dlX7_night_0.at 5 rfl) (by decide) hm (fun hc1 hm => ?_) (fun hc1 hm => ?_)
    · refine q_aload_n hE 1 (dlX7_night_0.at 20 rfl) rfl rfl ?_
      refine q_dup hE (dlX7_night_0.at 21 rfl) rfl ?_
      refine q_getN hE (dlX7_night_0.at 22 rfl) kc3 wf_X7_73 (g_Course hx1) rfl (b_Course hx1) rfl ?_
      refine q_iconst hE (dlX7_night_0.at 23 rfl) ic_1 ?_
      refine q_iadd hE (dlX7_night_0.at 24 rfl) ?_
      refine q_putN hE hfx (dlX7_night_0.at 25 rfl) kc3 wf_X7_73 (g_Course hx1) rfl rfl rfl rfl (b_Course hx1) rfl (u_Course_0 hx1) ?_
      refine q_lth (X := fun z => WG V z o) hm (fun h2 hm => ?_)
      exact q_vret (X := fun z => WG V z o) hE (dlX7_night_0.at 26 rfl) hm hQ rfl
    · refine q_aload_n hE 1 (dlX7_night_0.at 6 rfl) rfl rfl ?_
      refine q_iload_n hE 2 (dlX7_night_0.at 7 rfl) rfl rfl ?_
      refine q_callVN_i (X := fun z => WG V z o) hE (As := [_]) (dlX7_night_0.at 8 rfl) mw_X3_isUp wm_X7_100 rfl rfl rfl rfl (Nat.zero_le _) (Nat.zero_le _) rfl kc3 (g_Course hx1) (b_Course hx1) (ok_X3_isUp hfx) hm (fun v3 h3 hm => ?_)
      refine q_if_eq hE (tgt := 28) (dlX7_night_0.at 9 rfl) (by decide) hm (fun hc4 hm => ?_) (fun hc4 hm => ?_)
      · refine q_iinc hE [(0, _), (1, _), (2, _)] 2 (dlX7_night_0.at 18 rfl) rfl ic_1 rfl rfl ?_
        refine q_goto hE (tgt := 2) (dlX7_night_0.at 19 rfl) (by decide) ?_
        refine q_sub hE [0, 1, 2] rfl ?_
        exact ih _ _ _ hx1 hm
      · refine q_aload_n hE 1 (dlX7_night_0.at 10 rfl) rfl rfl ?_
        refine q_getN hE (dlX7_night_0.at 11 rfl) kc3 wf_X7_70 (g_Course hx1) rfl (b_Course hx1) rfl ?_
        refine q_iload_n hE 2 (dlX7_night_0.at 12 rfl) rfl rfl ?_
        refine q_dup2 hE (dlX7_night_0.at 13 rfl) rfl rfl ?_
        refine q_iald hE (dlX7_night_0.at 14 rfl) (g_Course_heard hx1) (b_Course_heard hx1) hm (fun hm => ?_)
        refine q_iconst hE (dlX7_night_0.at 15 rfl) ic_1 ?_
        refine q_iadd hE (dlX7_night_0.at 16 rfl) ?_
        refine q_iast hE hfx (dlX7_night_0.at 17 rfl) (g_Course_heard hx1) (b_Course_heard hx1) (u_Course_heard hx1) hm (fun hm => ?_)
        refine q_lth (X := fun z => WG V z o) hm (fun h5 hm => ?_)
        refine q_iinc hE [(0, _), (1, _), (2, _)] 2 (dlX7_night_0.at 18 rfl) rfl ic_1 rfl rfl ?_
        refine q_goto hE (tgt := 2) (dlX7_night_0.at 19 rfl) (by decide) ?_
        refine q_sub hE [0, 1, 2] rfl ?_
        exact ih _ _ _ hx1 hm
set_option maxRecDepth 10000 in
theorem ok_X7_night {V : Ev} {l : Launch} {o : PH} {F : Nat}  (hfx : V.2.2.2.2 = false) {a1 : Nat} {h : PH} : ∀ (v : Unit) (h' : PH), f_X7_night F a1 h = some (v, h') → Ctr l V yX7_night cX7_night 3 none 2 [rf V 1, rf V a1] 143 (WG V h o) 143 (WG V (h') o) (none) 0 0 := by
  intro v h' hm
  refine Ctr.intro RX7 (by decide +kernel) rfl rfl rfl ?_
  intro E hE hQ _
  unfold f_X7_night at hm
  obtain ⟨hp1, hm⟩ := g_if hm
  refine q_iconst hE (dlX7_night_0.at 0 rfl) ic_0 ?_
  refine q_istore_n hE [(0, _), (1, _), (2, _)] (dlX7_night_0.at 1 rfl) rfl rfl rfl ?_
  refine q_sub hE [0, 1, 2] rfl ?_
  exact okL_X7_night_2 hfx hE hQ  F _ _ _ hp1 hm
set_option maxRecDepth 10000 in
theorem okL_X7_evening_13 {V : Ev} {l : Launch} {o : PH} {F : Nat}  (hfx : V.2.2.2.2 = false) {E : Cx} (hE : CX E V l cX7_evening RX7 7 3 0 0 (some .int)) {r : Int32 × PH} (hQ : RQ E V 143 (WG V r.2 o) (some (.int r.1)) 0 0) : ∀ (n : Nat) (x1 : Nat) (x2 : Int32) (x3 : Int32) (x4 : Int32) (h : PH), isCourse x1 = true → fL_X7_evening_13 F n x1 x2 x3 x4 h = some r → PW E V 0 0 143 (WG V h o) 13 [(0, rf V 1), (1, rf V x1), (2, .int x2), (3, .int x3), (4, .int x4)] [] := by
  intro n
  induction n with
  | zero => intro x1 x2 x3 x4 h hx1 hm; cases hm
  | succ n ih =>
    intro x1 x2 x3 x4 h hx1 hm
    rw [fL_X7_evening_13] at hm
    refine q_iload hE 4 (dlX7_evening_0.at 8 rfl) rfl ?_
    refine q_bipush hE (dlX7_evening_0.at 9 rfl) bc_30 ?_
    refine q_icmp_ge hE (tgt := 111) (dlX7_evening_0.at 10 rfl) (by decide) hm (fun hc2 hm => ?_) (fun hc2 hm => ?_)
    · refine q_aload_n hE 0 (dlX7_evening_1.at 23 rfl) rfl rfl ?_
      refine q_aload_n hE 1 (dlX7_evening_1.at 24 rfl) rfl rfl ?_
      refine q_callV_v (X := fun z => WG V z o) hE (As := [_]) (dlX7_evening_1.at 25 rfl) mw_X7_night wm_X7_122 rfl rfl rfl rfl (Nat.zero_le _) (Nat.zero_le _) rfl kc7 g1 rfl (ok_X7_night hfx) hm (fun v3 h3 hm => ?_)
      refine q_iload hE 4 (dlX7_evening_1.at 26 rfl) rfl ?_
      exact q_iret (X := fun z => WG V z o) hE (dlX7_evening_1.at 27 rfl) hm hQ rfl
    · refine q_aload_n hE 1 (dlX7_evening_0.at 11 rfl) rfl rfl ?_
      refine q_getN hE (dlX7_evening_0.at 12 rfl) kc3 wf_X7_70 (g_Course hx1) rfl (b_Course hx1) rfl ?_
      refine q_iload_n hE 2 (dlX7_evening_0.at 13 rfl) rfl rfl ?_
      refine q_iald hE (dlX7_evening_0.at 14 rfl) (g_Course_heard hx1) (b_Course_heard hx1) hm (fun hm => ?_)
      refine q_aload_n hE 1 (dlX7_evening_0.at 15 rfl) rfl rfl ?_
      refine q_getN hE (dlX7_evening_0.at 16 rfl) kc3 wf_X7_73 (g_Course hx1) rfl (b_Course hx1) rfl ?_
      refine q_icmp_ge hE (tgt := 111) (dlX7_evening_0.at 17 rfl) (by decide) hm (fun hc4 hm => ?_) (fun hc4 hm => ?_)
      · refine q_aload_n hE 0 (dlX7_evening_1.at 23 rfl) rfl rfl ?_
        refine q_aload_n hE 1 (dlX7_evening_1.at 24 rfl) rfl rfl ?_
        refine q_callV_v (X := fun z => WG V z o) hE (As := [_]) (dlX7_evening_1.at 25 rfl) mw_X7_night wm_X7_122 rfl rfl rfl rfl (Nat.zero_le _) (Nat.zero_le _) rfl kc7 g1 rfl (ok_X7_night hfx) hm (fun v5 h5 hm => ?_)
        refine q_iload hE 4 (dlX7_evening_1.at 26 rfl) rfl ?_
        exact q_iret (X := fun z => WG V z o) hE (dlX7_evening_1.at 27 rfl) hm hQ rfl
      · refine q_aload_n hE 1 (dlX7_evening_0.at 18 rfl) rfl rfl ?_
        refine q_getN hE (dlX7_evening_0.at 19 rfl) kc3 wf_X7_76 (g_Course hx1) rfl (b_Course hx1) rfl ?_
        refine q_iload_n hE 2 (dlX7_evening_0.at 20 rfl) rfl rfl ?_
        refine q_zald hE (dlX7_evening_0.at 21 rfl) (g_Course_balks hx1) (b_Course_balks hx1) hm (fun hm => ?_)
        refine q_if_ne hE (tgt := 111) (dlX7_evening_0.at 22 rfl) (by decide) hm (fun hc6 hm => ?_) (fun hc6 hm => ?_)
        · refine q_aload_n hE 1 (dlX7_evening_0.at 23 rfl) rfl rfl ?_
          refine q_getN hE (dlX7_evening_0.at 24 rfl) kc3 wf_X7_70 (g_Course hx1) rfl (b_Course hx1) rfl ?_
          refine q_iload_n hE 2 (dlX7_evening_0.at 25 rfl) rfl rfl ?_
          refine q_iald hE (dlX7_evening_0.at 26 rfl) (g_Course_heard hx1) (b_Course_heard hx1) hm (fun hm => ?_)
          refine q_istore hE [(0, _), (1, _), (2, _), (3, _), (4, _), (5, _)] (dlX7_evening_0.at 27 rfl) rfl rfl ?_
          refine q_aload_n hE 0 (dlX7_evening_0.at 28 rfl) rfl rfl ?_
          refine q_iload_n hE 2 (dlX7_evening_0.at 29 rfl) rfl rfl ?_
          refine q_iload hE 5 (dlX7_evening_0.at 30 rfl) rfl ?_
          refine q_callV_i (X := fun z => WG V z o) hE (As := [_, _]) (dlX7_evening_0.at 31 rfl) mw_X7_newsOf wm_X7_112 rfl rfl rfl rfl (Nat.zero_le _) (Nat.zero_le _) rfl kc7 g1 rfl (ok_X7_newsOf hfx) hm (fun v8 h8 hm => ?_)
          refine q_istore hE [(0, _), (1, _), (2, _), (3, _), (4, _), (5, _), (6, _)] (dlX7_evening_0.at 32 rfl) rfl rfl ?_
          refine q_aload_n hE 0 (dlX7_evening_0.at 33 rfl) rfl rfl ?_
          refine q_iload_n hE 2 (dlX7_evening_0.at 34 rfl) rfl rfl ?_
          refine q_iload hE 5 (dlX7_evening_0.at 35 rfl) rfl ?_
          refine q_callV_i (X := fun z => WG V z o) hE (As := [_, _]) (dlX7_evening_0.at 36 rfl) mw_X7_minds wm_X7_118 rfl rfl rfl rfl (Nat.zero_le _) (Nat.zero_le _) rfl kc7 g1 rfl (ok_X7_minds hfx) hm (fun v9 h9 hm => ?_)
          refine q_if_eq hE (tgt := 79) (dlX7_evening_0.at 37 rfl) (by decide) hm (fun hc10 hm => ?_) (fun hc10 hm => ?_)
          · refine q_iload hE 4 (dlX7_evening_1.at 4 rfl) rfl ?_
            refine q_if_eq hE (tgt := 90) (dlX7_evening_1.at 5 rfl) (by decide) hm (fun hc11 hm => ?_) (fun hc11 hm => ?_)
            · refine q_iload_n hE 3 (dlX7_evening_1.at 9 rfl) rfl rfl ?_
              refine q_iload hE 6 (dlX7_evening_1.at 10 rfl) rfl ?_
              refine q_isub hE (dlX7_evening_1.at 11 rfl) ?_
              refine q_istore_n hE [(0, _), (1, _), (2, _), (3, _), (4, _), (5, _), (6, _)] (dlX7_evening_1.at 12 rfl) rfl rfl rfl ?_
              refine q_aload_n hE 1 (dlX7_evening_1.at 13 rfl) rfl rfl ?_
              refine q_getN hE (dlX7_evening_1.at 14 rfl) kc3 wf_X7_70 (g_Course hx1) rfl (b_Course hx1) rfl ?_
              refine q_iload_n hE 2 (dlX7_evening_1.at 15 rfl) rfl rfl ?_
              refine q_dup2 hE (dlX7_evening_1.at 16 rfl) rfl rfl ?_
              refine q_iald hE (dlX7_evening_1.at 17 rfl) (g_Course_heard hx1) (b_Course_heard hx1) hm (fun hm => ?_)
              refine q_iconst hE (dlX7_evening_1.at 18 rfl) ic_1 ?_
              refine q_iadd hE (dlX7_evening_1.at 19 rfl) ?_
              refine q_iast hE hfx (dlX7_evening_1.at 20 rfl) (g_Course_heard hx1) (b_Course_heard hx1) (u_Course_heard hx1) hm (fun hm => ?_)
              refine q_lth (X := fun z => WG V z o) hm (fun h12 hm => ?_)
              refine q_iinc hE [(0, _), (1, _), (2, _), (3, _), (4, _), (5, _), (6, _)] 4 (dlX7_evening_1.at 21 rfl) rfl ic_1 rfl rfl ?_
              refine q_goto hE (tgt := 13) (dlX7_evening_1.at 22 rfl) (by decide) ?_
              refine q_sub hE [0, 1, 2, 3, 4] rfl ?_
              exact ih _ _ _ _ _ hx1 hm
            · refine q_iload hE 6 (dlX7_evening_1.at 6 rfl) rfl ?_
              refine q_iload_n hE 3 (dlX7_evening_1.at 7 rfl) rfl rfl ?_
              refine q_icmp_gt hE (tgt := 111) (dlX7_evening_1.at 8 rfl) (by decide) hm (fun hc13 hm => ?_) (fun hc13 hm => ?_)
              · refine q_aload_n hE 0 (dlX7_evening_1.at 23 rfl) rfl rfl ?_
                refine q_aload_n hE 1 (dlX7_evening_1.at 24 rfl) rfl rfl ?_
                refine q_callV_v (X := fun z => WG V z o) hE (As := [_]) (dlX7_evening_1.at 25 rfl) mw_X7_night wm_X7_122 rfl rfl rfl rfl (Nat.zero_le _) (Nat.zero_le _) rfl kc7 g1 rfl (ok_X7_night hfx) hm (fun v14 h14 hm => ?_)
                refine q_iload hE 4 (dlX7_evening_1.at 26 rfl) rfl ?_
                exact q_iret (X := fun z => WG V z o) hE (dlX7_evening_1.at 27 rfl) hm hQ rfl
              · refine q_iload_n hE 3 (dlX7_evening_1.at 9 rfl) rfl rfl ?_
                refine q_iload hE 6 (dlX7_evening_1.at 10 rfl) rfl ?_
                refine q_isub hE (dlX7_evening_1.at 11 rfl) ?_
                refine q_istore_n hE [(0, _), (1, _), (2, _), (3, _), (4, _), (5, _), (6, _)] (dlX7_evening_1.at 12 rfl) rfl rfl rfl ?_
                refine q_aload_n hE 1 (dlX7_evening_1.at 13 rfl) rfl rfl ?_
                refine q_getN hE (dlX7_evening_1.at 14 rfl) kc3 wf_X7_70 (g_Course hx1) rfl (b_Course hx1) rfl ?_
                refine q_iload_n hE 2 (dlX7_evening_1.at 15 rfl) rfl rfl ?_
                refine q_dup2 hE (dlX7_evening_1.at 16 rfl) rfl rfl ?_
                refine q_iald hE (dlX7_evening_1.at 17 rfl) (g_Course_heard hx1) (b_Course_heard hx1) hm (fun hm => ?_)
                refine q_iconst hE (dlX7_evening_1.at 18 rfl) ic_1 ?_
                refine q_iadd hE (dlX7_evening_1.at 19 rfl) ?_
                refine q_iast hE hfx (dlX7_evening_1.at 20 rfl) (g_Course_heard hx1) (b_Course_heard hx1) (u_Course_heard hx1) hm (fun hm => ?_)
                refine q_lth (X := fun z => WG V z o) hm (fun h15 hm => ?_)
                refine q_iinc hE [(0, _), (1, _), (2, _), (3, _), (4, _), (5, _), (6, _)] 4 (dlX7_evening_1.at 21 rfl) rfl ic_1 rfl rfl ?_
                refine q_goto hE (tgt := 13) (dlX7_evening_1.at 22 rfl) (by decide) ?_
                refine q_sub hE [0, 1, 2, 3, 4] rfl ?_
                exact ih _ _ _ _ _ hx1 hm
          · refine q_aload_n hE 1 (dlX7_evening_0.at 38 rfl) rfl rfl ?_
            refine q_getN hE (dlX7_evening_0.at 39 rfl) kc3 wf_X7_76 (g_Course hx1) rfl (b_Course hx1) rfl ?_
            refine q_iload_n hE 2 (dlX7_evening_1.at 0 rfl) rfl rfl ?_
            refine q_iconst hE (dlX7_evening_1.at 1 rfl) ic_1 ?_
            refine q_zast hE hfx (dlX7_evening_1.at 2 rfl) (g_Course_balks hx1) (b_Course_balks hx1) (u_Course_balks hx1) hm (fun hm => ?_)
            refine q_lth (X := fun z => WG V z o) hm (fun h16 hm => ?_)
            refine q_goto hE (tgt := 108) (dlX7_evening_1.at 3 rfl) (by decide) ?_
            refine q_goto hE (tgt := 13) (dlX7_evening_1.at 22 rfl) (by decide) ?_
            refine q_sub hE [0, 1, 2, 3, 4] rfl ?_
            exact ih _ _ _ _ _ hx1 hm
        · refine q_aload_n hE 0 (dlX7_evening_1.at 23 rfl) rfl rfl ?_
          refine q_aload_n hE 1 (dlX7_evening_1.at 24 rfl) rfl rfl ?_
          refine q_callV_v (X := fun z => WG V z o) hE (As := [_]) (dlX7_evening_1.at 25 rfl) mw_X7_night wm_X7_122 rfl rfl rfl rfl (Nat.zero_le _) (Nat.zero_le _) rfl kc7 g1 rfl (ok_X7_night hfx) hm (fun v7 h7 hm => ?_)
          refine q_iload hE 4 (dlX7_evening_1.at 26 rfl) rfl ?_
          exact q_iret (X := fun z => WG V z o) hE (dlX7_evening_1.at 27 rfl) hm hQ rfl
set_option maxRecDepth 10000 in
theorem ok_X7_evening {V : Ev} {l : Launch} {o : PH} {F : Nat}  (hfx : V.2.2.2.2 = false) {a1 : Nat} {a2 : Int32} {h : PH} : ∀ (v : Int32) (h' : PH), f_X7_evening F a1 a2 h = some (v, h') → Ctr l V yX7_evening cX7_evening 7 (some .int) 3 [rf V 1, rf V a1, .int a2] 143 (WG V h o) 143 (WG V (h') o) (some (.int v)) 0 0 := by
  intro v h' hm
  refine Ctr.intro RX7 (by decide +kernel) rfl rfl rfl ?_
  intro E hE hQ _
  unfold f_X7_evening at hm
  obtain ⟨hp1, hm⟩ := g_if hm
  refine q_aload_n hE 0 (dlX7_evening_0.at 0 rfl) rfl rfl ?_
  refine q_iload_n hE 2 (dlX7_evening_0.at 1 rfl) rfl rfl ?_
  refine q_aload_n hE 1 (dlX7_evening_0.at 2 rfl) rfl rfl ?_
  refine q_getN hE (dlX7_evening_0.at 3 rfl) kc3 wf_X7_73 (g_Course hp1) rfl (b_Course hp1) rfl ?_
  refine q_callV_i (X := fun z => WG V z o) hE (As := [_, _]) (dlX7_evening_0.at 4 rfl) mw_X7_holds wm_X7_115 rfl rfl rfl rfl (Nat.zero_le _) (Nat.zero_le _) rfl kc7 g1 rfl (ok_X7_holds hfx) hm (fun v1 h1 hm => ?_)
  refine q_istore_n hE [(0, _), (1, _), (2, _), (3, _)] (dlX7_evening_0.at 5 rfl) rfl rfl rfl ?_
  refine q_iconst hE (dlX7_evening_0.at 6 rfl) ic_0 ?_
  refine q_istore hE [(0, _), (1, _), (2, _), (3, _), (4, _)] (dlX7_evening_0.at 7 rfl) rfl rfl ?_
  refine q_sub hE [0, 1, 2, 3, 4] rfl ?_
  exact okL_X7_evening_13 hfx hE hQ  F _ _ _ _ _ hp1 hm
set_option maxRecDepth 10000 in
theorem okL_X1_whole_6 {V : Ev} {l : Launch} {o : PH} {F : Nat}  (hfx : V.2.2.2.2 = false) {E : Cx} (hE : CX E V l cX1_whole RX1 3 4 0 0 (some .int)) {r : Int32 × PH} (hQ : RQ E V 143 (WG V r.2 o) (some (.int r.1)) 0 0) : ∀ (n : Nat) (x1 : Int32) (x2 : Int32) (h : PH), fL_X1_whole_6 F n x1 x2 h = some r → PW E V 0 0 143 (WG V h o) 6 [(0, rf V 34), (1, .int x1), (2, .int x2)] [] := by
  intro n
  induction n with
  | zero => intro x1 x2 h hm; cases hm
  | succ n ih =>
    intro x1 x2 h hm
    rw [fL_X1_whole_6] at hm
    refine q_iload_n hE 2 (dlX1_whole_0.at 4 rfl) rfl rfl ?_
    refine q_bipush hE (dlX1_whole_0.at 5 rfl) bc_60 ?_
    refine q_icmp_gt hE (tgt := 44) (dlX1_whole_0.at 6 rfl) (by decide) hm (fun hc2 hm => ?_) (fun hc2 hm => ?_)
    · refine q_bipush hE (dlX1_whole_0.at 23 rfl) bc_m5 ?_
      exact q_iret (X := fun z => WG V z o) hE (dlX1_whole_0.at 24 rfl) hm hQ rfl
    · refine q_aload_n hE 0 (dlX1_whole_0.at 7 rfl) rfl rfl ?_
      refine q_get hE (dlX1_whole_0.at 8 rfl) kc1 wf_X1_12 g34 rfl rfl rfl ?_
      refine q_iload_n hE 1 (dlX1_whole_0.at 9 rfl) rfl rfl ?_
      refine q_callVN_i (X := fun z => WG V z o) hE (As := [_]) (dlX1_whole_0.at 10 rfl) mw_X3_isUp wm_X1_60 rfl rfl rfl rfl (Nat.zero_le _) (Nat.zero_le _) rfl kc3 g35 rfl (ok_X3_isUp hfx) hm (fun v3 h3 hm => ?_)
      refine q_if_eq hE (tgt := 25) (dlX1_whole_0.at 11 rfl) (by decide) hm (fun hc4 hm => ?_) (fun hc4 hm => ?_)
      · refine q_aload_n hE 0 (dlX1_whole_0.at 14 rfl) rfl rfl ?_
        refine q_get hE (dlX1_whole_0.at 15 rfl) kc1 wf_X1_25 g34 rfl rfl rfl ?_
        refine q_aload_n hE 0 (dlX1_whole_0.at 16 rfl) rfl rfl ?_
        refine q_get hE (dlX1_whole_0.at 17 rfl) kc1 wf_X1_12 g34 rfl rfl rfl ?_
        refine q_iload_n hE 1 (dlX1_whole_0.at 18 rfl) rfl rfl ?_
        refine q_callVN_i (X := fun z => WG V z o) hE (As := [_, _]) (dlX1_whole_0.at 19 rfl) mw_X7_evening wm_X1_38 rfl rfl rfl rfl (Nat.zero_le _) (Nat.zero_le _) rfl kc7 g1 rfl (ok_X7_evening hfx) hm (fun v5 h5 hm => ?_)
        refine q_pop hE (dlX1_whole_0.at 20 rfl) rfl ?_
        refine q_iinc hE [(0, _), (1, _), (2, _)] 2 (dlX1_whole_0.at 21 rfl) rfl ic_1 rfl rfl ?_
        refine q_goto hE (tgt := 6) (dlX1_whole_0.at 22 rfl) (by decide) ?_
        refine q_sub hE [0, 1, 2] rfl ?_
        exact ih _ _ _  hm
      · refine q_iload_n hE 2 (dlX1_whole_0.at 12 rfl) rfl rfl ?_
        exact q_iret (X := fun z => WG V z o) hE (dlX1_whole_0.at 13 rfl) hm hQ rfl
set_option maxRecDepth 10000 in
theorem ok_X1_whole {V : Ev} {l : Launch} {o : PH} {F : Nat}  (hfx : V.2.2.2.2 = false) {a1 : Int32} {h : PH} : ∀ (v : Int32) (h' : PH), f_X1_whole F a1 h = some (v, h') → Ctr l V yX1_whole cX1_whole 3 (some .int) 4 [rf V 34, .int a1] 143 (WG V h o) 143 (WG V (h') o) (some (.int v)) 0 0 := by
  intro v h' hm
  refine Ctr.intro RX1 (by decide +kernel) rfl rfl rfl ?_
  intro E hE hQ _
  unfold f_X1_whole at hm
  refine q_aload_n hE 0 (dlX1_whole_0.at 0 rfl) rfl rfl ?_
  refine q_callV_v (X := fun z => WG V z o) hE (As := []) (dlX1_whole_0.at 1 rfl) mw_X1_begin wm_X1_42 rfl rfl rfl rfl (Nat.zero_le _) (Nat.zero_le _) rfl kc1 g34 rfl (ok_X1_begin hfx) hm (fun v1 h1 hm => ?_)
  refine q_iconst hE (dlX1_whole_0.at 2 rfl) ic_0 ?_
  refine q_istore_n hE [(0, _), (1, _), (2, _)] (dlX1_whole_0.at 3 rfl) rfl rfl rfl ?_
  refine q_sub hE [0, 1, 2] rfl ?_
  exact okL_X1_whole_6 hfx hE hQ  F _ _ _  hm
set_option maxRecDepth 10000 in
theorem ok_X7_newsAhead {V : Ev} {l : Launch} {o : PH} {F : Nat}  (hfx : V.2.2.2.2 = false) {a1 : Int32} {a2 : Int32} {h : PH} : ∀ (v : Int32) (h' : PH), f_X7_newsAhead F a1 a2 h = some (v, h') → Ctr l V yX7_newsAhead cX7_newsAhead 4 (some .int) 1 [rf V 1, .int a1, .int a2] 143 (WG V h o) 143 (WG V (h') o) (some (.int v)) 0 0 := by
  intro v h' hm
  refine Ctr.intro RX7 (by decide +kernel) rfl rfl rfl ?_
  intro E hE hQ _
  unfold f_X7_newsAhead at hm
  refine q_iload_n hE 1 (dlX7_newsAhead_0.at 0 rfl) rfl rfl ?_
  refine q_bipush hE (dlX7_newsAhead_0.at 1 rfl) bc_101 ?_
  refine q_imul hE (dlX7_newsAhead_0.at 2 rfl) ?_
  refine q_istore_n hE [(0, _), (1, _), (2, _), (3, _)] (dlX7_newsAhead_0.at 3 rfl) rfl rfl rfl ?_
  refine q_iload_n hE 2 (dlX7_newsAhead_0.at 4 rfl) rfl rfl ?_
  refine q_bipush hE (dlX7_newsAhead_0.at 5 rfl) bc_100 ?_
  refine q_idiv hE (dlX7_newsAhead_0.at 6 rfl) hm (fun hm => ?_)
  refine q_aload_n hE 0 (dlX7_newsAhead_0.at 7 rfl) rfl rfl ?_
  refine q_get hE (dlX7_newsAhead_0.at 8 rfl) kc7 wf_X7_25 g1 rfl rfl rfl ?_
  refine q_iload_n hE 3 (dlX7_newsAhead_0.at 9 rfl) rfl rfl ?_
  refine q_bipush hE (dlX7_newsAhead_0.at 10 rfl) bc_100 ?_
  refine q_iadd hE (dlX7_newsAhead_0.at 11 rfl) ?_
  refine q_iald hE (dlX7_newsAhead_0.at 12 rfl) g5 rfl hm (fun hm => ?_)
  refine q_imul hE (dlX7_newsAhead_0.at 13 rfl) ?_
  refine q_aload_n hE 0 (dlX7_newsAhead_0.at 14 rfl) rfl rfl ?_
  refine q_get hE (dlX7_newsAhead_0.at 15 rfl) kc7 wf_X7_25 g1 rfl rfl rfl ?_
  refine q_iload_n hE 3 (dlX7_newsAhead_0.at 16 rfl) rfl rfl ?_
  refine q_iload_n hE 2 (dlX7_newsAhead_0.at 17 rfl) rfl rfl ?_
  refine q_bipush hE (dlX7_newsAhead_0.at 18 rfl) bc_100 ?_
  refine q_irem hE (dlX7_newsAhead_0.at 19 rfl) hm (fun hm => ?_)
  refine q_iadd hE (dlX7_newsAhead_0.at 20 rfl) ?_
  refine q_iald hE (dlX7_newsAhead_0.at 21 rfl) g5 rfl hm (fun hm => ?_)
  refine q_iadd hE (dlX7_newsAhead_0.at 22 rfl) ?_
  exact q_iret (X := fun z => WG V z o) hE (dlX7_newsAhead_0.at 23 rfl) hm hQ rfl
set_option maxRecDepth 10000 in
theorem ok_X7_leftOf {V : Ev} {l : Launch} {o : PH} {F : Nat}  (hfx : V.2.2.2.2 = false) {a1 : Nat} {a2 : Int32} {h : PH} : ∀ (v : Int32) (h' : PH), f_X7_leftOf F a1 a2 h = some (v, h') → Ctr l V yX7_leftOf cX7_leftOf 3 (some .int) 2 [rf V 1, rf V a1, .int a2] 143 (WG V h o) 143 (WG V (h') o) (some (.int v)) 0 0 := by
  intro v h' hm
  refine Ctr.intro RX7 (by decide +kernel) rfl rfl rfl ?_
  intro E hE hQ _
  unfold f_X7_leftOf at hm
  obtain ⟨hp1, hm⟩ := g_if hm
  refine q_aload_n hE 0 (dlX7_leftOf_0.at 0 rfl) rfl rfl ?_
  refine q_iload_n hE 2 (dlX7_leftOf_0.at 1 rfl) rfl rfl ?_
  refine q_aload_n hE 1 (dlX7_leftOf_0.at 2 rfl) rfl rfl ?_
  refine q_getN hE (dlX7_leftOf_0.at 3 rfl) kc3 wf_X7_73 (g_Course hp1) rfl (b_Course hp1) rfl ?_
  refine q_callV_i (X := fun z => WG V z o) hE (As := [_, _]) (dlX7_leftOf_0.at 4 rfl) mw_X7_newsAhead wm_X7_92 rfl rfl rfl rfl (Nat.zero_le _) (Nat.zero_le _) rfl kc7 g1 rfl (ok_X7_newsAhead hfx) hm (fun v1 h1 hm => ?_)
  refine q_aload_n hE 0 (dlX7_leftOf_0.at 5 rfl) rfl rfl ?_
  refine q_iload_n hE 2 (dlX7_leftOf_0.at 6 rfl) rfl rfl ?_
  refine q_aload_n hE 1 (dlX7_leftOf_0.at 7 rfl) rfl rfl ?_
  refine q_getN hE (dlX7_leftOf_0.at 8 rfl) kc3 wf_X7_70 (g_Course hp1) rfl (b_Course hp1) rfl ?_
  refine q_iload_n hE 2 (dlX7_leftOf_0.at 9 rfl) rfl rfl ?_
  refine q_iald hE (dlX7_leftOf_0.at 10 rfl) (g_Course_heard hp1) (b_Course_heard hp1) hm (fun hm => ?_)
  refine q_callV_i (X := fun z => WG V z o) hE (As := [_, _]) (dlX7_leftOf_0.at 11 rfl) mw_X7_newsAhead wm_X7_92 rfl rfl rfl rfl (Nat.zero_le _) (Nat.zero_le _) rfl kc7 g1 rfl (ok_X7_newsAhead hfx) hm (fun v2 h2 hm => ?_)
  refine q_isub hE (dlX7_leftOf_0.at 12 rfl) ?_
  exact q_iret (X := fun z => WG V z o) hE (dlX7_leftOf_0.at 13 rfl) hm hQ rfl
set_option maxRecDepth 10000 in
theorem ok_X9_isClock {V : Ev} {l : Launch} {o : PH} {F : Nat}  (hfx : V.2.2.2.2 = false) {a1 : Int32} {h : PH} : ∀ (v : Int32) (h' : PH), f_X9_isClock F a1 h = some (v, h') → Ctr l V yX9_isClock cX9_isClock 2 (some .boolean) 1 [rf V 0, .int a1] 143 (WG V h o) 143 (WG V (h') o) (some (.int v)) 0 0 := by
  intro v h' hm
  refine Ctr.intro RX9 (by decide +kernel) rfl rfl rfl ?_
  intro E hE hQ _
  unfold f_X9_isClock at hm
  refine q_iload_n hE 1 (dlX9_isClock_0.at 0 rfl) rfl rfl ?_
  refine q_if_lt hE (tgt := 19) (dlX9_isClock_0.at 1 rfl) (by decide) hm (fun hc1 hm => ?_) (fun hc1 hm => ?_)
  · refine q_iconst hE (dlX9_isClock_0.at 9 rfl) ic_0 ?_
    exact q_bret (X := fun z => WG V z o) hE (dlX9_isClock_0.at 10 rfl) hm hQ rfl (by decide)
  · refine q_iload_n hE 1 (dlX9_isClock_0.at 2 rfl) rfl rfl ?_
    refine q_aload_n hE 0 (dlX9_isClock_0.at 3 rfl) rfl rfl ?_
    refine q_get hE (dlX9_isClock_0.at 4 rfl) kc9 wf_X9_12 g0 rfl rfl rfl ?_
    refine q_getN hE (dlX9_isClock_0.at 5 rfl) kc7 wf_X9_86 g1 rfl rfl rfl ?_
    refine q_icmp_ge hE (tgt := 19) (dlX9_isClock_0.at 6 rfl) (by decide) hm (fun hc2 hm => ?_) (fun hc2 hm => ?_)
    · refine q_iconst hE (dlX9_isClock_0.at 9 rfl) ic_0 ?_
      exact q_bret (X := fun z => WG V z o) hE (dlX9_isClock_0.at 10 rfl) hm hQ rfl (by decide)
    · refine q_iconst hE (dlX9_isClock_0.at 7 rfl) ic_1 ?_
      refine q_goto hE (tgt := 20) (dlX9_isClock_0.at 8 rfl) (by decide) ?_
      exact q_bret (X := fun z => WG V z o) hE (dlX9_isClock_0.at 10 rfl) hm hQ rfl (by decide)
set_option maxRecDepth 10000 in
theorem ok_X9_of {V : Ev} {l : Launch} {o : PH} {F : Nat}  (hfx : V.2.2.2.2 = false) {a1 : Int32} {a2 : Int32} {h : PH} : ∀ (v : Int32) (h' : PH), f_X9_of F a1 a2 h = some (v, h') → Ctr l V yX9_of cX9_of 3 (some .int) 5 [rf V 0, .int a1, .int a2] 143 (WG V h o) 143 (WG V (h') o) (some (.int v)) 0 0 := by
  intro v h' hm
  refine Ctr.intro RX9 (by decide +kernel) rfl rfl rfl ?_
  intro E hE hQ _
  unfold f_X9_of at hm
  refine q_aload_n hE 0 (dlX9_of_0.at 0 rfl) rfl rfl ?_
  refine q_iload_n hE 1 (dlX9_of_0.at 1 rfl) rfl rfl ?_
  refine q_callV_i (X := fun z => WG V z o) hE (As := [_]) (dlX9_of_0.at 2 rfl) mw_X9_isClock wm_X9_93 rfl rfl rfl rfl (Nat.zero_le _) (Nat.zero_le _) rfl kc9 g0 rfl (ok_X9_isClock hfx) hm (fun v1 h1 hm => ?_)
  refine q_if_ne hE (tgt := 10) (dlX9_of_0.at 3 rfl) (by decide) hm (fun hc2 hm => ?_) (fun hc2 hm => ?_)
  · refine q_iconst hE (dlX9_of_0.at 4 rfl) ic_m1 ?_
    exact q_iret (X := fun z => WG V z o) hE (dlX9_of_0.at 5 rfl) hm hQ rfl
  · refine q_iload_n hE 2 (dlX9_of_0.at 6 rfl) rfl rfl ?_
    refine q_tcase hE (dlX9_of_0.at 7 rfl) (0 : Int32) 56 (by decide) hm (fun _ hm => ?_) (fun hn3_0 hm => ?_)
    · refine q_aload_n hE 0 (dlX9_of_0.at 8 rfl) rfl rfl ?_
      refine q_get hE (dlX9_of_0.at 9 rfl) kc9 wf_X9_12 g0 rfl rfl rfl ?_
      refine q_getN hE (dlX9_of_0.at 10 rfl) kc7 wf_X9_97 g1 rfl rfl rfl ?_
      refine q_iload_n hE 1 (dlX9_of_0.at 11 rfl) rfl rfl ?_
      refine q_iald hE (dlX9_of_0.at 12 rfl) g2 rfl hm (fun hm => ?_)
      exact q_iret (X := fun z => WG V z o) hE (dlX9_of_0.at 13 rfl) hm hQ rfl
    · refine q_tcase hE (dlX9_of_0.at 7 rfl) (1 : Int32) 66 (by decide) hm (fun _ hm => ?_) (fun hn3_1 hm => ?_)
      · refine q_aload_n hE 0 (dlX9_of_0.at 14 rfl) rfl rfl ?_
        refine q_get hE (dlX9_of_0.at 15 rfl) kc9 wf_X9_12 g0 rfl rfl rfl ?_
        refine q_getN hE (dlX9_of_0.at 16 rfl) kc7 wf_X9_101 g1 rfl rfl rfl ?_
        refine q_iload_n hE 1 (dlX9_of_0.at 17 rfl) rfl rfl ?_
        refine q_iald hE (dlX9_of_0.at 18 rfl) g3 rfl hm (fun hm => ?_)
        exact q_iret (X := fun z => WG V z o) hE (dlX9_of_0.at 19 rfl) hm hQ rfl
      · refine q_tcase hE (dlX9_of_0.at 7 rfl) (2 : Int32) 76 (by decide) hm (fun _ hm => ?_) (fun hn3_2 hm => ?_)
        · refine q_aload_n hE 0 (dlX9_of_0.at 20 rfl) rfl rfl ?_
          refine q_get hE (dlX9_of_0.at 21 rfl) kc9 wf_X9_12 g0 rfl rfl rfl ?_
          refine q_getN hE (dlX9_of_0.at 22 rfl) kc7 wf_X9_77 g1 rfl rfl rfl ?_
          refine q_getN hE (dlX9_of_0.at 23 rfl) kc3 wf_X9_104 g6 rfl rfl rfl ?_
          refine q_iload_n hE 1 (dlX9_of_0.at 24 rfl) rfl rfl ?_
          refine q_iald hE (dlX9_of_0.at 25 rfl) g7 rfl hm (fun hm => ?_)
          exact q_iret (X := fun z => WG V z o) hE (dlX9_of_0.at 26 rfl) hm hQ rfl
        · refine q_tcase hE (dlX9_of_0.at 7 rfl) (3 : Int32) 89 (by decide) hm (fun _ hm => ?_) (fun hn3_3 hm => ?_)
          · refine q_aload_n hE 0 (dlX9_of_0.at 27 rfl) rfl rfl ?_
            refine q_get hE (dlX9_of_0.at 28 rfl) kc9 wf_X9_12 g0 rfl rfl rfl ?_
            refine q_getN hE (dlX9_of_0.at 29 rfl) kc7 wf_X9_77 g1 rfl rfl rfl ?_
            refine q_getN hE (dlX9_of_0.at 30 rfl) kc3 wf_X9_107 g6 rfl rfl rfl ?_
            refine q_iload_n hE 1 (dlX9_of_0.at 31 rfl) rfl rfl ?_
            refine q_zald hE (dlX9_of_0.at 32 rfl) g8 rfl hm (fun hm => ?_)
            refine q_if_eq hE (tgt := 108) (dlX9_of_0.at 33 rfl) (by decide) hm (fun hc4 hm => ?_) (fun hc4 hm => ?_)
            · refine q_iconst hE (dlX9_of_0.at 36 rfl) ic_0 ?_
              exact q_iret (X := fun z => WG V z o) hE (dlX9_of_0.at 37 rfl) hm hQ rfl
            · refine q_iconst hE (dlX9_of_0.at 34 rfl) ic_1 ?_
              refine q_goto hE (tgt := 109) (dlX9_of_0.at 35 rfl) (by decide) ?_
              exact q_iret (X := fun z => WG V z o) hE (dlX9_of_0.at 37 rfl) hm hQ rfl
          · refine q_tcase hE (dlX9_of_0.at 7 rfl) (4 : Int32) 110 (by decide) hm (fun _ hm => ?_) (fun hn3_4 hm => ?_)
            · refine q_aload_n hE 0 (dlX9_of_0.at 38 rfl) rfl rfl ?_
              refine q_get hE (dlX9_of_0.at 39 rfl) kc9 wf_X9_12 g0 rfl rfl rfl ?_
              refine q_aload_n hE 0 (dlX9_of_1.at 0 rfl) rfl rfl ?_
              refine q_get hE (dlX9_of_1.at 1 rfl) kc9 wf_X9_12 g0 rfl rfl rfl ?_
              refine q_getN hE (dlX9_of_1.at 2 rfl) kc7 wf_X9_77 g1 rfl rfl rfl ?_
              refine q_iload_n hE 1 (dlX9_of_1.at 3 rfl) rfl rfl ?_
              refine q_callVN_i (X := fun z => WG V z o) hE (As := [_, _]) (dlX9_of_1.at 4 rfl) mw_X7_leftOf wm_X9_111 rfl rfl rfl rfl (Nat.zero_le _) (Nat.zero_le _) rfl kc7 g1 rfl (ok_X7_leftOf hfx) hm (fun v5 h5 hm => ?_)
              exact q_iret (X := fun z => WG V z o) hE (dlX9_of_1.at 5 rfl) hm hQ rfl
            · refine q_tcase hE (dlX9_of_0.at 7 rfl) (5 : Int32) 126 (by decide) hm (fun _ hm => ?_) (fun hn3_5 hm => ?_)
              · refine q_aload_n hE 0 (dlX9_of_1.at 6 rfl) rfl rfl ?_
                refine q_get hE (dlX9_of_1.at 7 rfl) kc9 wf_X9_12 g0 rfl rfl rfl ?_
                refine q_iload_n hE 1 (dlX9_of_1.at 8 rfl) rfl rfl ?_
                refine q_aload_n hE 0 (dlX9_of_1.at 9 rfl) rfl rfl ?_
                refine q_get hE (dlX9_of_1.at 10 rfl) kc9 wf_X9_12 g0 rfl rfl rfl ?_
                refine q_getN hE (dlX9_of_1.at 11 rfl) kc7 wf_X9_77 g1 rfl rfl rfl ?_
                refine q_getN hE (dlX9_of_1.at 12 rfl) kc3 wf_X9_81 g6 rfl rfl rfl ?_
                refine q_callVN_i (X := fun z => WG V z o) hE (As := [_, _]) (dlX9_of_1.at 13 rfl) mw_X7_holds wm_X9_115 rfl rfl rfl rfl (Nat.zero_le _) (Nat.zero_le _) rfl kc7 g1 rfl (ok_X7_holds hfx) hm (fun v6 h6 hm => ?_)
                exact q_iret (X := fun z => WG V z o) hE (dlX9_of_1.at 14 rfl) hm hQ rfl
              · refine q_tcase hE (dlX9_of_0.at 7 rfl) (6 : Int32) 145 (by decide) hm (fun _ hm => ?_) (fun hn3_6 hm => ?_)
                · refine q_aload_n hE 0 (dlX9_of_1.at 15 rfl) rfl rfl ?_
                  refine q_get hE (dlX9_of_1.at 16 rfl) kc9 wf_X9_47 g0 rfl rfl rfl ?_
                  refine q_iload_n hE 1 (dlX9_of_1.at 17 rfl) rfl rfl ?_
                  refine q_callVN_i (X := fun z => WG V z o) hE (As := [_]) (dlX9_of_1.at 18 rfl) mw_X1_minded wm_X9_119 rfl rfl rfl rfl (Nat.zero_le _) (Nat.zero_le _) rfl kc1 g34 rfl (ok_X1_minded hfx) hm (fun v7 h7 hm => ?_)
                  exact q_iret (X := fun z => WG V z o) hE (dlX9_of_1.at 19 rfl) hm hQ rfl
                · refine q_tcase hE (dlX9_of_0.at 7 rfl) (7 : Int32) 154 (by decide) hm (fun _ hm => ?_) (fun hn3_7 hm => ?_)
                  · refine q_aload_n hE 0 (dlX9_of_1.at 20 rfl) rfl rfl ?_
                    refine q_get hE (dlX9_of_1.at 21 rfl) kc9 wf_X9_47 g0 rfl rfl rfl ?_
                    refine q_iload_n hE 1 (dlX9_of_1.at 22 rfl) rfl rfl ?_
                    refine q_callVN_i (X := fun z => WG V z o) hE (As := [_]) (dlX9_of_1.at 23 rfl) mw_X1_whole wm_X9_123 rfl rfl rfl rfl (Nat.zero_le _) (Nat.zero_le _) rfl kc1 g34 rfl (ok_X1_whole hfx) hm (fun v8 h8 hm => ?_)
                    exact q_iret (X := fun z => WG V z o) hE (dlX9_of_1.at 24 rfl) hm hQ rfl
                  · refine q_tdef hE (tgt := 163) (dlX9_of_0.at 7 rfl) (by have := lv_neT (a := 0) hn3_0 (by decide); have := lv_neT (a := 1) hn3_1 (by decide); have := lv_neT (a := 2) hn3_2 (by decide); have := lv_neT (a := 3) hn3_3 (by decide); have := lv_neT (a := 4) hn3_4 (by decide); have := lv_neT (a := 5) hn3_5 (by decide); have := lv_neT (a := 6) hn3_6 (by decide); have := lv_neT (a := 7) hn3_7 (by decide); omega) (by decide) ?_
                    refine q_iconst hE (dlX9_of_1.at 25 rfl) ic_m1 ?_
                    exact q_iret (X := fun z => WG V z o) hE (dlX9_of_1.at 26 rfl) hm hQ rfl
