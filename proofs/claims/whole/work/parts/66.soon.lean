def BestM (o : PH) (low : Int32) (b : Best) : Prop := match b with | none => low = -1 | some (v, r) => low = nI v ∧ v < 2 ^ 20 ∧ ∀ k, k < r.length → o.1 121 k = nI (r.getD k 0)
theorem BestM.eq {o o' : PH} {low : Int32} {b : Best} (e2 : o'.1 121 = o.1 121) (u : BestM o low b) : BestM o' low b := by
  unfold BestM at u ⊢
  rw [e2]; exact u
theorem pow6 {n : Nat} (hn : n ≤ 6) : 6 ^ n ≤ 46656 := Nat.le_trans (Nat.pow_le_pow_right (by decide) hn) (by decide)
theorem soonM_loop {F : Nat} {g : SG} {b : BT} {cs : CS} {o1 : PH} {x : Int32} (hF : FOK F) (hx : ¬ wth x (-1) 5 = 0) (ht : cs.1 ≤ 9999) (e1 : EnvM o1 g b) : ∀ (j a f : Nat) (best : Best) (low : Int32) (o : PH), a + j = 6 ^ g.1 → j < f → FrS o1 o → RepM o cs → BestM o low best → (∃ v r, itr (stepS g.1 (costW (semB b) g cs)) j a best = some (v, r) ∧ r.length = g.1) →
    ∃ o2, fL_X10_soonest_44 F f x (nI (6 ^ g.1)) low (nI a) o = some (ansS g.1 (itr (stepS g.1 (costW (semB b) g cs)) j a best) x, wI o2 102 25 0) ∧ FrS o1 o2 ∧ RepM o2 cs := by
  have hF' := hF
  unfold FOK at hF
  have hg := e1.2.1
  have h6 := pow6 hg
  intro j
  induction j with
  | zero =>
    intro a f best low o ha hf fr r bm fin
    obtain ⟨f, rfl⟩ : ∃ m, f = m + 1 := ⟨f - 1, by omega⟩
    obtain ⟨v, q, hv, hq⟩ := fin
    have hv' : best = some (v, q) := hv
    subst hv'
    obtain ⟨b1, b2, b3⟩ := bm
    have e := fr.env e1
    refine ⟨o, ?_, fr, r⟩
    rw [fL_X10_soonest_44, if_l (by omega) (by omega), if_pos (show 6 ^ g.1 ≤ a by omega), lth_eq, rI_sl (show (0 : Nat) ≠ 25 by decide), e.1, rI_ne (show (121 : Nat) ≠ 102 by decide)]
    show _ = some ((if x < 0 then nI v else if nI g.1 ≤ x then -5 else nI (q.getD (ix x) 0)), wI o 102 25 0)
    by_cases h0 : x < 0
    · rw [if_neg (Int32.not_le.mpr h0), if_pos h0, b1]
    · rw [if_pos (Int32.not_lt.mp h0), if_neg h0]
      obtain ⟨k, hk, rfl⟩ := nI_of h0
      have hk5 : k ≤ 5 := by
        obtain ⟨_, h5⟩ := wth_ne hx
        exact (nI_leI hk (by decide)).mp (show nI k ≤ nI 5 from h5)
      rw [if_l (by omega) (by omega), if_l (by omega) (by omega)]
      by_cases hkn : g.1 ≤ k
      · rw [if_pos hkn, if_pos hkn]
      · rw [if_neg hkn, if_neg hkn, if_pos (inb_nI (by omega) (by decide)), ix_nI (by omega), b3 k (by omega)]
  | succ j ih =>
    intro a f best low o ha hf fr r bm fin
    obtain ⟨f, rfl⟩ : ∃ m, f = m + 1 := ⟨f - 1, by omega⟩
    have e := fr.env e1
    have hlen := digs_len 6 g.1 a
    obtain ⟨o2, t1, t2, t3, t4⟩ := layT (F := F) (n := g.1) hg g.1 F a 0 [] o (by simp) (by omega) e.1 rfl (by decide) (fun i _ => by simp) (fun k hk => absurd hk (by simp)) (by omega)
    rw [List.append_nil] at t1 t4
    have t1' : f_X10_layTurn F (nI a) o = some (b2i (okL g.1 (digs 6 g.1 a)), o2) := by
      unfold f_X10_layTurn
      rw [e.1, Int32.sub_eq_add_neg]
      exact t1
    have fr2 : FrS o1 o2 := fr.trans ⟨fun y _ _ _ _ u5 _ => t2 y u5, fun i _ _ _ _ => by rw [t2 102 (by decide)], t3⟩
    have r2 : RepM o2 cs := by
      unfold RepM at r ⊢
      rw [t2 102 (by decide), t2 105 (by decide)]; exact r
    have hit : itr (stepS g.1 (costW (semB b) g cs)) (j + 1) a best = itr (stepS g.1 (costW (semB b) g cs)) j (a + 1) (stepS g.1 (costW (semB b) g cs) a best) := rfl
    rw [hit] at fin ⊢
    rw [fL_X10_soonest_44, if_l (by omega) (by omega), if_neg (show ¬ 6 ^ g.1 ≤ a by omega), t1', bnd_some, nI_1]
    cases hok : okL g.1 (digs 6 g.1 a) with
    | false =>
      have hs : stepS g.1 (costW (semB b) g cs) a best = best := by
        unfold stepS
        rw [hok]; rfl
      rw [hs] at fin ⊢
      rw [if_pos (show b2i false = 0 by decide)]
      exact ih (a + 1) f best low o2 (by omega) (by omega) fr2 r2 (bm.eq (t2 121 (by decide))) fin
    | true =>
      have hs : stepS g.1 (costW (semB b) g cs) a best = updS (costW (semB b) g cs (digs 6 g.1 a)) (digs 6 g.1 a) best := by
        unfold stepS
        rw [hok]; rfl
      obtain ⟨o3, g1, g2, g3⟩ := goTurnM (F := F) (l := digs 6 g.1 a) (by omega) (fr2.env e1) r2 ht hlen (okL_lt hok) (t4 hok)
      have fr3 : FrS o1 o3 := fr2.trans g2.s
      have hcost : costW (semB b) g cs (digs 6 g.1 a) ≤ 120 := by
        have := runW_le (b := semB b) (g := g) (digs 6 g.1 a) (0, cs)
        have z : ((0, cs) : Nat × CS).1 = 0 := rfl
        unfold costW; omega
      rw [if_neg (show ¬ b2i true = 0 by decide), g1, bnd_some]
      -- kept
      have keep : stepS g.1 (costW (semB b) g cs) a best = some (costW (semB b) g cs (digs 6 g.1 a), digs 6 g.1 a) → ∃ o2, fL_X10_soonest_87 F (fun (x15 : Int32) (x16 : Int32) (x17 : Int32) (x18 : Int32) (h19 : PH) => (fL_X10_soonest_44 F f x15 x16 x17 (x18 + (1 : Int32)) h19)) F x (nI (6 ^ g.1)) (nI (costW (semB b) g cs (digs 6 g.1 a))) (nI a) (0 : Int32) o3 = some (ansS g.1 (itr (stepS g.1 (costW (semB b) g cs)) j (a + 1) (stepS g.1 (costW (semB b) g cs) a best)) x, wI o2 102 25 0) ∧ FrS o1 o2 ∧ RepM o2 cs := by
        intro hk
        obtain ⟨o4, k1, k2, k3, k4⟩ := keepM (F := F) (K := fun (x15 : Int32) (x16 : Int32) (x17 : Int32) (x18 : Int32) (h19 : PH) => (fL_X10_soonest_44 F f x15 x16 x17 (x18 + (1 : Int32)) h19)) (x1 := x) (x2 := nI (6 ^ g.1)) (x3 := nI (costW (semB b) g cs (digs 6 g.1 a))) (x4 := nI a) 6 0 F o3 rfl (by omega)
        have fr4 : FrS o1 o4 := fr3.trans ⟨fun y _ _ _ _ _ u6 => k2 y u6, fun i _ _ _ _ => by rw [k2 102 (by decide)], k3⟩
        have r4 : RepM o4 cs := by
          unfold RepM at g3 ⊢
          rw [k2 102 (by decide), k2 105 (by decide)]; exact g3
        have bm4 : BestM o4 (nI (costW (semB b) g cs (digs 6 g.1 a))) (stepS g.1 (costW (semB b) g cs) a best) := by
          rw [hk]
          refine ⟨rfl, by omega, fun k hk => ?_⟩
          rw [hlen] at hk
          rw [k4 k (by omega), if_pos (Nat.zero_le _), g2.1 120 (by decide) (by decide) (by decide) (by decide)]
          exact t4 hok k hk
        rw [show fL_X10_soonest_87 F (fun (x15 : Int32) (x16 : Int32) (x17 : Int32) (x18 : Int32) (h19 : PH) => (fL_X10_soonest_44 F f x15 x16 x17 (x18 + (1 : Int32)) h19)) F x (nI (6 ^ g.1)) (nI (costW (semB b) g cs (digs 6 g.1 a))) (nI a) (0 : Int32) o3 = _ from k1, nI_1]
        exact ih (a + 1) f _ _ o4 (by omega) (by omega) fr4 r4 bm4 fin
      match best, bm, hs, keep, fin with
      | none, bm, hs, keep, fin =>
        have bm' : low = -1 := bm
        rw [bm', if_pos (show (-1 : Int32) < 0 by decide)]
        exact keep hs
      | some (v, q), bm, hs, keep, fin =>
        obtain ⟨b1, b2, b3⟩ := bm
        have hs' : stepS g.1 (costW (semB b) g cs) a (some (v, q)) = if v ≤ costW (semB b) g cs (digs 6 g.1 a) then some (v, q) else some (costW (semB b) g cs (digs 6 g.1 a), digs 6 g.1 a) := hs
        rw [b1, if_neg (nI_pos (show v < 2 ^ 31 by omega)), if_t (by omega) (by omega)]
        by_cases hlt : costW (semB b) g cs (digs 6 g.1 a) < v
        · rw [if_pos hlt]
          rw [if_neg (show ¬ v ≤ costW (semB b) g cs (digs 6 g.1 a) by omega)] at hs'
          exact keep hs'
        · rw [if_neg hlt]
          rw [if_pos (show v ≤ costW (semB b) g cs (digs 6 g.1 a) by omega)] at hs'
          rw [hs'] at fin ⊢
          exact ih (a + 1) f (some (v, q)) (nI v) o3 (by omega) (by omega) fr3 g3 ⟨rfl, b2, fun k hk => by rw [g2.1 121 (by decide) (by decide) (by decide) (by decide), t2 121 (by decide)]; exact b3 k hk⟩ fin
theorem pow_loop {F n : Nat} {x : Int32} {o : PH} (h0 : o.1 102 0 = nI n) (hn : n ≤ 6) : ∀ (j i f : Nat), i + j = n → j < f → fL_X10_soonest_20 F f x (nI (6 ^ i)) (nI i) o = fL_X10_soonest_44 F F x (nI (6 ^ n)) (-1 : Int32) (0 : Int32) o := by
  intro j
  induction j with
  | zero =>
    intro i f hi hf
    obtain ⟨f, rfl⟩ : ∃ m, f = m + 1 := ⟨f - 1, by omega⟩
    rw [fL_X10_soonest_20, h0, if_l (by omega) (by omega), if_pos (show n ≤ i by omega), show i = n by omega]
  | succ j ih =>
    intro i f hi hf
    obtain ⟨f, rfl⟩ : ∃ m, f = m + 1 := ⟨f - 1, by omega⟩
    rw [fL_X10_soonest_20, h0, if_l (by omega) (by omega), if_neg (show ¬ n ≤ i by omega), li6, pk_mul, ← Nat.pow_succ, nI_1]
    exact ih (i + 1) f (by omega) (by omega)
theorem CoreM.done {o1 o2 : PH} {g : SG} {b : BT} {cs : CS} (e : EnvM o1 g b) (f : FrS o1 o2) (r : RepM o2 cs) : CoreM (wI o2 102 25 0) g b cs := by
  have e2 := f.env e
  obtain ⟨m1, m2, m3, m4, m5, m6, m7⟩ := e2
  refine ⟨⟨by rw [rI_sl (by decide)]; exact m1, m2, by rw [rI_ne (by decide)]; exact m3, by rw [rI_ne (by decide)]; exact m4, by rw [rI_ne (by decide)]; exact m5, m6.fr (rI_sl (by decide)) (rI_ne (by decide)) (rI_ne (by decide)) (rI_ne (by decide)) (rI_ne (by decide)) (rI_ne (by decide)) (rI_ne (by decide)), Or.inl (rI_eq _ _ _ _)⟩, ?_, rI_eq _ _ _ _⟩
  unfold RepM at r ⊢
  rw [rI_sl (by decide), rI_sl (by decide), rI_ne (by decide)]; exact r
theorem st_soonest {F : Nat} {h o : PH} {x : Int32} (hF : FOK F) (s : Sim h o) : Step (f_X9_soonest F x) (f_X10_soonest F x) h o := by
  have same := s
  obtain ⟨g, b, cs, c, m, ht, r⟩ := s
  have hF' := hF
  unfold FOK at hF
  have hg := c.1.2.1
  by_cases hx : wth x (-1) 5 = 0
  · refine ⟨-1, h, o, ?_, ?_, same⟩
    · unfold f_X9_soonest; rw [within_eq, bnd_some, if_pos hx]
    · unfold f_X10_soonest; rw [in_eq, bnd_some, if_pos hx]
  · obtain ⟨h', c1, c2, c3⟩ := soonC (F := F) (by omega) c.1 c.2.1 ht hx
    obtain ⟨o1, l1, l2, l3, l4⟩ := layM (F := F) (by omega) ht m.1 m.2.1 m.2.2
    have some' := srchS_hit (n := g.1) (cost := costW (semB b) g cs) g.1 0 none (by omega)
    have len := srchS_len (n := g.1) (cost := costW (semB b) g cs) g.1 [] none (by simp) (fun v r q => by cases q)
    rw [List.range_zero] at some'
    have all := allS (cost := costW (semB b) g cs) hg none
    have fin : ∃ v q, itr (stepS g.1 (costW (semB b) g cs)) (6 ^ g.1) 0 none = some (v, q) ∧ q.length = g.1 := by
      rw [all]
      match hB : srchS g.1 (costW (semB b) g cs) g.1 [] none, some' with
      | some (v, q), _ => exact ⟨v, q, rfl, len v q hB⟩
    have h6 := pow6 hg
    obtain ⟨o2, d1, d2, d3⟩ := soonM_loop (F := F) hF' hx ht l3 (6 ^ g.1) 0 F none (-1) o1 (by omega) (by omega) (FrS.refl _) l4 rfl fin
    rw [all] at d1
    have k2 : KM o2 (wI o2 102 25 0) := ⟨fun a ha => rI_ne (by omega), fun i hi => rI_sl (by omega), rfl⟩
    refine ⟨_, h', wI o2 102 25 0, c1, ?_, g, b, cs, c.eq (fun a ha => ?_) (by rw [c2.2.2]), CoreM.done l3 d2 d3, ht, r.keep c2 ((l2.km.trans d2.km).trans k2)⟩
    · unfold f_X10_soonest
      rw [in_eq, bnd_some, if_neg hx, l1, bnd_some]
      rw [show fL_X10_soonest_20 F F x (1 : Int32) (0 : Int32) o1 = _ from pow_loop (F := F) (x := x) l3.1 hg g.1 0 F (by omega) (by omega)]
      exact d1
    · rcases ha with ha | ha
      · exact c3 a ha.1 ha.2
      · exact c2.1 a (by omega)
