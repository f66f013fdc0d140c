-- the month's end, odds, means
theorem KeptM.p {h h' : PH} {cs : CS} (f : FrP h h') (u : KeptM h cs) : KeptM h' cs := u.fr f.m
theorem ends_loop {F k : Nat} {g : SG} {b : BT} {x : Int32} {cs0 : CS} {h0 o0 : PH} (hF : FOK F) (e0 : EnvC h0 g (semB b)) (m0 : EnvM o0 g b) (h10 : k ≤ 10) (hk : h0.1 11 2 = nI k) (ok : o0.1 102 37 = nI k) (mon : ∀ i, i < k → ∃ c, (c < g.1 ∨ c = 6) ∧ h0.1 (11 + 1) (i * 3) = nI c ∧ o0.1 125 i = nI c) :
    ∀ (j i f : Nat) (cs : CS) (h o : PH), i + j = k → j < f → cs.1 < 20000 + i → FrC 35 h0 h → RepC h 35 cs → FrM o0 o → RepM o cs → KeptM o cs0 →
    ∃ v h' o', fL_X1_monthEnds_6 F f x (nI i) h = some (v, h') ∧ fL_X10_ends_18 F f x (nI i) o = some (v, o') ∧ FrC 35 h0 h' ∧ FrM o0 o' ∧ RepM o' cs0 := by
  unfold FOK at hF
  have hg := e0.2.1
  intro j
  induction j with
  | zero =>
    intro i f cs h o hi hf ht fr r fm rm km
    obtain ⟨f, rfl⟩ : ∃ m, f = m + 1 := ⟨f - 1, by omega⟩
    have e := fr.env (by decide) e0
    have m := fm.env m0
    have hk' : h.1 11 2 = nI k := by rw [fr.1 11 (by decide) (by decide) (by decide)]; exact hk
    have ok' : o.1 102 37 = nI k := by rw [fm.2.1 37 (by decide) (by decide)]; exact ok
    rw [fL_X1_monthEnds_6, fL_X10_ends_18, hk', ok', if_l (by omega) (by omega), if_l (by omega) (by omega), if_pos (show k ≤ i by omega), if_pos (show k ≤ i by omega)]
    by_cases hx : x = 0
    · obtain ⟨o1, b1, b2, b3, b4⟩ := backM (F := F) (by omega) km
      exact ⟨_, h, o1, by rw [if_pos hx, upsC (by omega) (by decide) e r (by omega), bnd_some], by rw [if_pos hx, upsM (by omega) m.1 hg rm (by omega), bnd_some, b1, bnd_some], fr, fm.trans b2, b3⟩
    · obtain ⟨o1, l1, l2⟩ := leftsM (F := F) (by omega) m rm (by omega) (by omega)
      obtain ⟨o2, b1, b2, b3, b4⟩ := backM (F := F) (by omega) (km.p l2)
      exact ⟨_, h, o2, by rw [if_neg hx, leftsC (by omega) (by decide) e r (by omega), bnd_some], by rw [if_neg hx, l1, bnd_some, b1, bnd_some], fr, (fm.trans l2.m).trans b2, b3⟩
  | succ j ih =>
    intro i f cs h o hi hf ht fr r fm rm km
    obtain ⟨f, rfl⟩ : ∃ m, f = m + 1 := ⟨f - 1, by omega⟩
    have e := fr.env (by decide) e0
    have m := fm.env m0
    obtain ⟨c, c1, c2, c3⟩ := mon i (by omega)
    have hk' : h.1 11 2 = nI k := by rw [fr.1 11 (by decide) (by decide) (by decide)]; exact hk
    have ok' : o.1 102 37 = nI k := by rw [fm.2.1 37 (by decide) (by decide)]; exact ok
    have hin : inb (nI i) 10 = true := inb_nI (by omega) (by decide)
    have a1 : f_X6_cell F 11 (nI i) 0 h = some (nI c, h) := by
      have := cellC (F := F) (t := 11) (i := i) (j := 0) (h := h) rfl (by show i * 3 + 0 < 30; omega) (by decide)
      rw [li0, this, fr.1 (11 + 1) (by decide) (by decide) (by decide), show h0.1 (11 + 1) (i * 3 + 0) = nI c from c2]
    have a2 : o.1 125 i = nI c := by rw [fm.1 125 (by decide) (by decide) (by decide)]; exact c3
    rw [fL_X1_monthEnds_6, fL_X10_ends_18, hk', ok', if_l (by omega) (by omega), if_l (by omega) (by omega), if_neg (show ¬ k ≤ i by omega), if_neg (show ¬ k ≤ i by omega), a1, bnd_some, if_pos hin, if_pos hin, ix_nI (by omega), a2, li6, if_e (by omega) (by decide), if_e (by omega) (by decide), nI_1]
    by_cases h6 : c = 6
    · obtain ⟨h1, p1, p2, p3⟩ := nightC (F := F) (k := 35) (by omega) (by decide) e.1 hg r (by omega)
      obtain ⟨o1, q1, q2, q3⟩ := nightM (F := F) (by omega) m.1 hg rm (by omega)
      rw [if_pos h6, if_pos h6, p1, bnd_some, q1, bnd_some]
      exact ih (i + 1) f _ h1 o1 (by omega) (by omega) (by show cs.1 + 1 < 20000 + (i + 1); omega) (fr.trans p2) p3 (fm.trans q2) q3 (km.fr q2)
    · have hc : c < g.1 := by omega
      obtain ⟨h1, p1, p2, p3⟩ := eveningC (F := F) (k := 35) (by omega) (by decide) hc e r (by omega)
      obtain ⟨o1, q1, q2, q3⟩ := eveningM (F := F) (by omega) hc m rm (by omega)
      rw [if_neg h6, if_neg h6, p1, bnd_some, q1, bnd_some]
      exact ih (i + 1) f _ h1 o1 (by omega) (by omega) (by rw [evening_1]; omega) (fr.trans p2) p3 (fm.trans q2) q3 (km.fr q2)
theorem st_ends {F : Nat} {h o : PH} {x : Int32} (hF : FOK F) (s : Sim h o) : Step (f_X9_ends F x) (f_X10_ends F x) h o := by
  have same := s
  obtain ⟨g, b, cs, c, m, ht, r⟩ := s
  have hF' := hF
  unfold FOK at hF
  by_cases hx : wth x 0 1 = 0
  · refine ⟨-1, h, o, ?_, ?_, same⟩
    · unfold f_X9_ends; rw [within_eq, bnd_some, if_pos hx]
    · unfold f_X10_ends; rw [in_eq, bnd_some, if_pos hx]
  · obtain ⟨k, k1, k2, k3, k4⟩ := r.2.2.2.2.1
    obtain ⟨h1, a1, a2, a3⟩ := beginC (F := F) (by omega) c.2.1
    obtain ⟨o1, b1, b2, b3, b4⟩ := saveM (F := F) (by omega) m.2.1
    have kh : h1.1 11 2 = nI k := by rw [a2.1 11 (by decide) (by decide) (by decide)]; exact k2
    have ko : o1.1 102 37 = nI k := by rw [b2.2.1 37 (by decide) (by decide) (by decide) (by decide)]; exact k3
    obtain ⟨v, h2, o2, d1, d2, d3, d4, d5⟩ := ends_loop (x := x) (k := k) hF' (a2.env (by decide) c.1) (b2.env m.1) k1 kh ko (fun i hi => by
      rw [a2.1 (11 + 1) (by decide) (by decide) (by decide), b2.1 125 (by decide) (by decide) (by decide) (by decide)]; exact k4 i hi) k 0 F cs h1 o1 (by omega) (by omega) (by omega) (FrC.refl _ _) a3 (FrM.refl _) b3 b4
    refine ask (v := v) c m ht r ⟨h2, ?_, a2.trans d3⟩ ⟨o2, ?_, b2.trans d4.q, d5⟩
    · unfold f_X9_ends f_X1_monthEnds
      rw [within_eq, bnd_some, if_neg hx, a1, bnd_some, li0, d1, bnd_some]
    · unfold f_X10_ends
      rw [in_eq, bnd_some, if_neg hx, b1, bnd_some, li0, d2]
theorem divisors {F : Nat} {h o : PH} : ∀ (b a i f : Nat), b < 2 ^ 20 → a < 2 ^ 31 → i + b < 1000 → b < f → ∃ d, fL_X9_commonDivisor_7 F f (nI a) (nI b) (nI i) h = some (nI d, h) ∧ fL_X10_divisor_5 F f (nI a) (nI b) o = some (nI d, o) ∧ d < 2 ^ 31 ∧ (0 < a ∨ 0 < b → 0 < d) := by
  intro b
  induction b using Nat.strongRecOn with
  | ind b ih =>
    intro a i f hb ha hi hf
    obtain ⟨f, rfl⟩ : ∃ m, f = m + 1 := ⟨f - 1, by omega⟩
    have z : (nI b = 0) ↔ b = 0 := by rw [li0]; exact nI_eq (by omega) (by decide)
    rw [fL_X9_commonDivisor_7, fL_X10_divisor_5, show (1000 : Int32) = nI 1000 from rfl, if_l (by decide) (by omega), if_neg (show ¬ 1000 ≤ i by omega)]
    by_cases h0 : b = 0
    · rw [if_pos (z.mpr h0), if_pos (z.mpr h0)]
      exact ⟨a, rfl, rfl, ha, fun q => by omega⟩
    · have hm := Nat.mod_lt a (show 0 < b by omega)
      have z' : ¬ nI b = 0 := fun q => h0 (z.mp q)
      rw [if_neg z', if_neg z', if_neg z', if_neg z', jrem_nI ha (by omega) (by omega), nI_1]
      obtain ⟨d, d1, d2, d3, d4⟩ := ih (a % b) hm b (i + 1) f (by omega) (by omega) (by omega) (by omega)
      exact ⟨d, d1, d2, d3, fun _ => d4 (Or.inl (by omega))⟩
theorem lowests {F : Nat} {h o : PH} {a b : Nat} {x : Int32} (hF : FOK F) (hx : ¬ wth x 0 1 = 0) (ha : a < 2 ^ 31) (h0 : 0 < b) (hb : b ≤ 6) : ∃ v, f_X9_lowest F (nI a) (nI b) x h = some (v, h) ∧ f_X10_lowest F (nI a) (nI b) x o = some (v, o) := by
  unfold FOK at hF
  obtain ⟨d, d1, d2, d3, d4⟩ := divisors (F := F) (h := h) (o := o) b a 0 F (by omega) ha (by omega) (by omega)
  have hd := d4 (Or.inr h0)
  obtain ⟨p, hp, rfl⟩ := wth_N (m := 1) rfl (by decide) hx
  unfold f_X9_lowest f_X10_lowest f_X9_commonDivisor f_X10_divisor
  have zd : ¬ nI d = 0 := nI_ne0 hd d3
  have zb : ¬ nI b = 0 := nI_ne0 h0 (by omega)
  rw [show fL_X9_commonDivisor_7 F F (nI a) (nI b) (0 : Int32) h = _ from d1, bnd_some, show fL_X10_divisor_5 F F (nI a) (nI b) o = _ from d2, bnd_some, if_neg zb, if_neg zd, if_neg zd, if_neg zd, if_neg zd, if_neg zd]
  by_cases h0 : p = 0
  · subst h0
    rw [if_pos (show nI 0 = (0 : Int32) from rfl), if_pos (show nI 0 = (0 : Int32) from rfl)]; exact ⟨_, rfl, rfl⟩
  · have : p = 1 := by omega
    subst this
    rw [if_neg (show ¬ nI 1 = (0 : Int32) by decide), if_neg (show ¬ nI 1 = (0 : Int32) by decide), if_pos (show nI 1 = (1 : Int32) from rfl)]; exact ⟨_, rfl, rfl⟩
theorem lowestNo {F : Nat} {h : PH} {a b : Nat} {x : Int32} (hF : FOK F) (ha : a < 2 ^ 31) (hb : b ≤ 6) (q : b = 0 ∨ wth x 0 1 = 0) : f_X9_lowest F (nI a) (nI b) x h = some (-9223372036854775808, h) := by
  unfold FOK at hF
  obtain ⟨d, d1, d2, d3, d4⟩ := divisors (F := F) (h := h) (o := h) b a 0 F (by omega) ha (by omega) (by omega)
  unfold f_X9_lowest f_X9_commonDivisor
  rw [show fL_X9_commonDivisor_7 F F (nI a) (nI b) (0 : Int32) h = _ from d1, bnd_some]
  by_cases h0 : b = 0
  · rw [if_pos (show nI b = 0 by rw [h0]; rfl)]
  · have hx := q.resolve_left h0
    have hd := d4 (Or.inr (by omega))
    rw [if_neg (nI_ne0 (by omega) (by omega)), if_neg (nI_ne0 (by omega) (by omega)), if_neg (show ¬ x = 0 from fun q => by rw [q] at hx; exact absurd hx (by decide)), if_neg (show ¬ x = 1 from fun q => by rw [q] at hx; exact absurd hx (by decide))]
theorem st_mean {F : Nat} {h o : PH} {x : Int32} (hF : FOK F) (s : Sim h o) : Step (f_X9_mean F x) (f_X10_mean F x) h o := by
  have same := s
  obtain ⟨g, b, cs, c, m, ht, r⟩ := s
  have hF' := hF
  unfold FOK at hF
  have hg := c.1.2.1
  have l1 := leftsC (F := F) (k := 6) (by omega) (by decide) c.1 c.2.1 (by omega)
  have hl := leftsA_lt (g := g) (cs := cs) c.1.2.2.2.2.2.2.2 g.1
  have hl2 : g.1 * (1000 * cs.1) ≤ 6 * (1000 * cs.1) := Nat.mul_le_mul_right _ hg
  by_cases q : g.1 = 0 ∨ wth x 0 1 = 0
  · refine ⟨-9223372036854775808, h, o, ?_, ?_, same⟩
    · unfold f_X9_mean
      rw [l1, bnd_some, c.1.1, lowestNo hF' (by omega) hg q, bnd_some]
    · unfold f_X10_mean
      rw [in_eq, bnd_some]
      by_cases hx : wth x 0 1 = 0
      · rw [if_pos hx]
      · have h0 := q.resolve_right hx
        rw [if_neg hx, m.1.1, h0, if_pos (by decide)]
  · have hx : ¬ wth x 0 1 = 0 := fun z => q (Or.inr z)
    have h0 : ¬ g.1 = 0 := fun z => q (Or.inl z)
    obtain ⟨o1, p1, p2⟩ := leftsM (F := F) (by omega) m.1 m.2.1 (by omega) (by omega)
    obtain ⟨v, v1, v2⟩ := lowests (F := F) (h := h) (o := o1) (a := leftsA (semB b) g cs g.1) (b := g.1) hF' hx (by omega) (by omega) hg
    refine ask (v := v) c m ht r ⟨h, ?_, FrC.refl _ _⟩ ⟨o1, ?_, p2.m.q, m.2.1.p p2⟩
    · unfold f_X9_mean
      rw [l1, bnd_some, c.1.1, v1, bnd_some]
    · unfold f_X10_mean
      rw [in_eq, bnd_some, if_neg hx, m.1.1, li0, if_l (by omega) (by decide), if_neg (by omega), p1, bnd_some, p2.1 102 (by decide), m.1.1, v2, bnd_some]
theorem odds_loop {F n : Nat} {g : SG} {b : BT} {x : Int32} {cs : CS} {h0 : PH} (hF : FOK F) (hn : n ≤ 60) (hx : ¬ wth x 0 1 = 0) (h1 : 0 < g.1) (e0 : EnvC h0 g (semB b)) (r0 : RepC h0 6 cs) (ht : cs.1 ≤ 9999) :
    ∀ (j i f u : Nat) (h o : PH), i + j = g.1 → j < f → u ≤ i → FrC 35 h0 h → EnvM o g b → RepM o cs →
    ∃ v u' h' o', fL_X1_howManyUpBehind_4 F f (nI n) (nI u) (nI i) h = some (nI u', h') ∧ u' ≤ 6 ∧ (∀ h, f_X9_lowest F (nI u') (nI g.1) x h = some (v, h)) ∧ fL_X10_odds_34 F f (nI n) x (nI u) (nI i) o = some (v, o') ∧ FrC 35 h0 h' ∧ FrQ o o' ∧ RepM o' cs := by
  have hF' := hF
  unfold FOK at hF
  have hg := e0.2.1
  intro j
  induction j with
  | zero =>
    intro i f u h o hi hf hu fr m rm
    obtain ⟨f, rfl⟩ : ∃ m, f = m + 1 := ⟨f - 1, by omega⟩
    have e := fr.env (by decide) e0
    obtain ⟨v, v1, v2⟩ := lowests (F := F) (h := h) (o := o) (a := u) (b := g.1) hF' hx (by omega) h1 hg
    refine ⟨v, u, h, o, by rw [fL_X1_howManyUpBehind_4, e.1, if_l (by omega) (by omega), if_pos (by omega)], by omega, fun h' => ?_, by rw [fL_X10_odds_34, m.1, if_l (by omega) (by omega), if_pos (by omega), v2, bnd_some], fr, FrQ.refl o, rm⟩
    obtain ⟨w, w1, w2⟩ := lowests (F := F) (h := h') (o := o) (a := u) (b := g.1) hF' hx (by omega) h1 hg
    rw [v2] at w2
    rw [w1]
    injection w2 with w2
    injection w2 with w2
    rw [w2]
  | succ j ih =>
    intro i f u h o hi hf hu fr m rm
    obtain ⟨f, rfl⟩ : ∃ m, f = m + 1 := ⟨f - 1, by omega⟩
    have e := fr.env (by decide) e0
    have hc : i < g.1 := by omega
    obtain ⟨h2, a1, a2, a3⟩ := beginC (F := F) (by omega) (r0.keep (by decide) fr)
    obtain ⟨h3, b1, b2, b3⟩ := evsC (F := F) (n := n) (by omega) rfl hc (a2.env (by decide) e) hn n 0 F cs h2 (by omega) (by omega) (by omega) (FrC.refl _ _) a3
    have b1' : f_X1_tellOften F (nI i) (nI n) h2 = some ((), h3) := b1
    obtain ⟨o2, c1, c2, c3, c4⟩ := saveM (F := F) (by omega) rm
    obtain ⟨o3, d1, d2, d3⟩ := evsM (F := F) (n := n) (by omega) hc (c2.env m) hn n 0 F cs o2 (by omega) (by omega) (by omega) (FrM.refl _) c3
    have d1' : f_X10_goEvenings F (nI i) (nI n) o2 = some ((), o3) := d1
    obtain ⟨o4, p1, p2, p3, p4⟩ := backM (F := F) (by omega) (c4.fr d2)
    have hte : (evsA (semB b) g i n cs).1 < 2 ^ 20 := by rw [evsA_1]; omega
    have uc := isUpC (F := F) (k := 35) (by decide) b3 (show i < 6 by omega) (by omega)
    have um := isUpM (F := F) d3 (show i < 6 by omega) (by omega)
    have fq : FrQ o o4 := (c2.trans d2.q).trans p2.q
    rw [fL_X1_howManyUpBehind_4, fL_X10_odds_34, e.1, m.1, if_l (by omega) (by omega), if_l (by omega) (by omega), if_neg (show ¬ g.1 ≤ i by omega), if_neg (show ¬ g.1 ≤ i by omega), a1, bnd_some, b1', bnd_some, uc, bnd_some, c1, bnd_some, d1', bnd_some, um, bnd_some, nI_1, nI_1, Int32.add_zero]
    by_cases hup : (evsA (semB b) g i n cs).2.1 i = (evsA (semB b) g i n cs).1
    · obtain ⟨v, u', h', o', g1, g2, g3, g4, g5, g6, g7⟩ := ih (i + 1) f (u + 1) h3 o4 (by omega) (by omega) (by omega) ((fr.trans a2).trans b2) (fq.env m) p3
      refine ⟨v, u', h', o', ?_, g2, g3, ?_, g5, fq.trans g6, g7⟩
      · rw [if_pos hup, if_neg (show ¬ (1 : Int32) = 0 by decide)]; exact g1
      · rw [decide_eq_true hup, if_neg (show ¬ b2i true = 0 by decide), p1, bnd_some]; exact g4
    · obtain ⟨v, u', h', o', g1, g2, g3, g4, g5, g6, g7⟩ := ih (i + 1) f u h3 o4 (by omega) (by omega) (by omega) ((fr.trans a2).trans b2) (fq.env m) p3
      refine ⟨v, u', h', o', ?_, g2, g3, ?_, g5, fq.trans g6, g7⟩
      · rw [if_neg hup, if_pos (show (0 : Int32) = 0 from rfl)]; exact g1
      · rw [decide_eq_false hup, if_pos (show b2i false = 0 by decide), p1, bnd_some]; exact g4
theorem oddsC_any {F n : Nat} {g : SG} {b : BT} {cs : CS} {h0 : PH} (hF : FOK F) (hn : n ≤ 60) (e0 : EnvC h0 g (semB b)) (r0 : RepC h0 6 cs) (ht : cs.1 ≤ 9999) :
    ∀ (j i f u : Nat) (h : PH), i + j = g.1 → j < f → u ≤ i → FrC 35 h0 h → ∃ u' h', fL_X1_howManyUpBehind_4 F f (nI n) (nI u) (nI i) h = some (nI u', h') ∧ u' ≤ 6 ∧ FrC 35 h0 h' := by
  unfold FOK at hF
  have hg := e0.2.1
  intro j
  induction j with
  | zero =>
    intro i f u h hi hf hu fr
    obtain ⟨f, rfl⟩ : ∃ m, f = m + 1 := ⟨f - 1, by omega⟩
    have e := fr.env (by decide) e0
    exact ⟨u, h, by rw [fL_X1_howManyUpBehind_4, e.1, if_l (by omega) (by omega), if_pos (by omega)], by omega, fr⟩
  | succ j ih =>
    intro i f u h hi hf hu fr
    obtain ⟨f, rfl⟩ : ∃ m, f = m + 1 := ⟨f - 1, by omega⟩
    have e := fr.env (by decide) e0
    have hc : i < g.1 := by omega
    obtain ⟨h2, a1, a2, a3⟩ := beginC (F := F) (by omega) (r0.keep (by decide) fr)
    obtain ⟨h3, b1, b2, b3⟩ := evsC (F := F) (n := n) (by omega) rfl hc (a2.env (by decide) e) hn n 0 F cs h2 (by omega) (by omega) (by omega) (FrC.refl _ _) a3
    have b1' : f_X1_tellOften F (nI i) (nI n) h2 = some ((), h3) := b1
    have hte : (evsA (semB b) g i n cs).1 < 2 ^ 20 := by rw [evsA_1]; omega
    have uc := isUpC (F := F) (k := 35) (by decide) b3 (show i < 6 by omega) (by omega)
    rw [fL_X1_howManyUpBehind_4, e.1, if_l (by omega) (by omega), if_neg (by omega), a1, bnd_some, b1', bnd_some, uc, bnd_some, nI_1, nI_1]
    by_cases hup : (evsA (semB b) g i n cs).2.1 i = (evsA (semB b) g i n cs).1
    · rw [if_pos hup, if_neg (show ¬ (1 : Int32) = 0 by decide)]
      exact ih (i + 1) f (u + 1) h3 (by omega) (by omega) (by omega) ((fr.trans a2).trans b2)
    · rw [if_neg hup, if_pos (show (0 : Int32) = 0 from rfl)]
      exact ih (i + 1) f u h3 (by omega) (by omega) (by omega) ((fr.trans a2).trans b2)
theorem st_odds {F : Nat} {h o : PH} {y x : Int32} (hF : FOK F) (s : Sim h o) : Step (f_X9_odds F y x) (f_X10_odds F y x) h o := by
  have same := s
  obtain ⟨g, b, cs, c, m, ht, r⟩ := s
  have hF' := hF
  unfold FOK at hF
  have hg := c.1.2.1
  by_cases hy : wth y 0 60 = 0
  · refine ⟨-9223372036854775808, h, o, ?_, ?_, same⟩
    · unfold f_X9_odds; rw [within_eq, bnd_some, if_pos hy]
    · unfold f_X10_odds f_X10_isEvenings; rw [in_eq, bnd_some, bnd_some, wth_and, if_pos hy]
  · obtain ⟨n, hn, rfl⟩ := wth_N (m := 60) rfl (by decide) hy
    by_cases q : g.1 = 0 ∨ wth x 0 1 = 0
    · obtain ⟨u, h1, a1, a2, a3⟩ := oddsC_any (n := n) hF' hn c.1 c.2.1 ht g.1 0 F 0 h (by omega) (by omega) (by omega) (FrC.refl _ _)
      refine ask (v := -9223372036854775808) c m ht r ⟨h1, ?_, a3⟩ ⟨o, ?_, FrQ.refl o, m.2.1⟩
      · unfold f_X9_odds f_X1_howManyUpBehind
        rw [within_eq, bnd_some, if_neg hy, li0, a1, bnd_some, (a3.env (by decide) c.1).1, lowestNo hF' (by omega) hg q, bnd_some]
      · unfold f_X10_odds f_X10_isEvenings
        rw [in_eq, bnd_some, bnd_some, wth_and, if_neg hy, in_eq, bnd_some]
        by_cases hx : wth x 0 1 = 0
        · rw [if_pos hx]
        · have h0 := q.resolve_right hx
          rw [if_neg hx, m.1.1, h0, if_pos (show nI 0 = 0 from rfl)]
    · have hx : ¬ wth x 0 1 = 0 := fun z => q (Or.inr z)
      have h0 : ¬ g.1 = 0 := fun z => q (Or.inl z)
      obtain ⟨v, u, h1, o1, a1, a2, a3, a4, a5, a6, a7⟩ := odds_loop (n := n) hF' hn hx (by omega) c.1 c.2.1 ht g.1 0 F 0 h o (by omega) (by omega) (by omega) (FrC.refl _ _) m.1 m.2.1
      refine ask (v := v) c m ht r ⟨h1, ?_, a5⟩ ⟨o1, ?_, a6, a7⟩
      · unfold f_X9_odds f_X1_howManyUpBehind
        rw [within_eq, bnd_some, if_neg hy, li0, a1, bnd_some, (a5.env (by decide) c.1).1, a3, bnd_some]
      · unfold f_X10_odds f_X10_isEvenings
        rw [in_eq, bnd_some, bnd_some, wth_and, if_neg hy, in_eq, bnd_some, if_neg hx, m.1.1, if_neg (nI_ne0 (by omega) (by omega)), li0]
        exact a4
