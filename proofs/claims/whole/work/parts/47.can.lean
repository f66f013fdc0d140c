def gV (g : SG) (c v : Nat) : SG := (g.1, g.2.1, va_up g.2.2.1 c v, g.2.2.2)
theorem gV2 {g : SG} {c x y : Nat} : gV (gV g c x) c y = gV g c y := by
  show ((g.1, g.2.1, va_up (va_up g.2.2.1 c x) c y, g.2.2.2) : SG) = (g.1, g.2.1, va_up g.2.2.1 c y, g.2.2.2)
  rw [va_up2]
theorem gVsame {g : SG} {c : Nat} : gV g c (g.2.2.1 c) = g := by
  show ((g.1, g.2.1, va_up g.2.2.1 c (g.2.2.1 c), g.2.2.2) : SG) = g
  rw [va_same]
def fitV (b : Bn) (g : SG) (c : Nat) (cs : CS) (w : Nat → Nat × Nat × Nat) (k v : Nat) : Bool := seenA b (gV g c v) c cs w k 0
theorem setV {F c v : Nat} {h : PH} {g : SG} {b : BT} (hF : 200 ≤ F) (e : EnvC h g (semB b)) (hb : HeldC h b) (hc : c < g.1) (hv : v ≤ 9) (ok : BTOK b) :
    ∃ h', f_X7_learn F (nI c) (wI h 3 c (nI v)) = some ((), h') ∧ EnvC h' (gV g c v) (semB b) ∧ HeldC h' b ∧ (∀ a, a ≠ 3 → a ≠ 5 → a ≠ 15 → h'.1 a = h.1 a) ∧ h'.2 = h.2 := by
  obtain ⟨c1, c2, c3, c4, c5, c6, c7, c8⟩ := e
  have h6 : c < 6 := by omega
  have hb1 : HeldC (wI h 3 c (nI v)) b := HeldC_eq (fun a ha => rI_ne (by omega)) rfl hb
  obtain ⟨h', e1, e2, e3⟩ := learnC (F := F) (c := c) (h := wI h 3 c (nI v)) (g := gV g c v) (b := b) hF h6 ⟨by rw [rI_ne (by decide)]; exact (c3 c h6).1, (c3 c h6).2⟩ ⟨by rw [rI_eq]; show nI v = nI (va_up g.2.2.1 c v c); rw [va_if, if_pos rfl], by show va_up g.2.2.1 c v c ≤ 9; rw [va_if, if_pos rfl]; exact hv⟩ ok hb1
  have far : ∀ a, a ≠ 3 → a ≠ 5 → a ≠ 15 → h'.1 a = h.1 a := fun a u3 u5 u15 => (e2.1 a u15 u5).trans (rI_ne u3)
  have hL : h'.2 = h.2 := by rw [e2.2.2]; rfl
  have hb' : HeldC h' b := HeldC_eq (fun a ha => far a (by omega) (by omega) (by omega)) (by rw [hL]) hb
  refine ⟨h', e1, ⟨by rw [far 1 (by decide) (by decide) (by decide)]; exact c1, c2, by rw [far 2 (by decide) (by decide) (by decide)]; exact c3, fun i hi => ?_, by rw [far 4 (by decide) (by decide) (by decide)]; exact c5, fun i hi d hd => ?_, HeldC_pace hb', c8⟩, hb', far, hL⟩
  · rw [e2.1 3 (by decide) (by decide), rI]
    show _ = nI (va_up g.2.2.1 c v i) ∧ va_up g.2.2.1 c v i ≤ 9
    rw [va_if]
    by_cases hic : i = c
    · rw [if_pos ⟨rfl, hic⟩, if_pos hic]; exact ⟨rfl, hv⟩
    · rw [if_neg (fun q => hic q.2), if_neg hic]; exact c4 i hi
  · have hi' : i < g.1 := hi
    by_cases hic : i = c
    · rw [hic]; exact e3 d hd
    · rw [e2.2.1 (i * 101 + d) (by omega), rI_ne (by decide), c6 i hi' d hd]
      rw [preA_congr (g := g) (g' := gV g c v) rfl (by show va_up g.2.2.1 c v i = _; rw [va_if, if_neg hic])]
def FrV (h h' : PH) : Prop := (∀ a, a ≠ 3 → a ≠ 5 → a ≠ 15 → a ≠ 34 → a ≠ 35 → a ≠ 36 → a ≠ 37 → h'.1 a = h.1 a) ∧ h'.2 = h.2
theorem FrV.refl (h : PH) : FrV h h := ⟨fun _ _ _ _ _ _ _ _ => rfl, rfl⟩
theorem FrV.trans {h h1 h2 : PH} (a : FrV h h1) (b : FrV h1 h2) : FrV h h2 := ⟨fun x u1 u2 u3 u4 u5 u6 u7 => (b.1 x u1 u2 u3 u4 u5 u6 u7).trans (a.1 x u1 u2 u3 u4 u5 u6 u7), b.2.trans a.2⟩
theorem FrW.v {h h' : PH} (f : FrW h h') : FrV h h' := ⟨fun a _ _ _ u1 u2 u3 u4 => f.1 a u1 u2 u3 u4, f.2⟩
theorem FrV.rep {h h' : PH} {cs : CS} (f : FrV h h') (r : RepC h 6 cs) : RepC h' 6 cs := r.eq (f.1 _ (by decide) (by decide) (by decide) (by decide) (by decide) (by decide) (by decide)) (f.1 _ (by decide) (by decide) (by decide) (by decide) (by decide) (by decide) (by decide)) (f.1 _ (by decide) (by decide) (by decide) (by decide) (by decide) (by decide) (by decide))
theorem FrV.w {h h' o : PH} {w : Nat → Nat × Nat × Nat} {k : Nat} (f : FrV h h') (u : wOK h o w k) : wOK h' o w k := u.eq (by rw [f.1 9 (by decide) (by decide) (by decide) (by decide) (by decide) (by decide) (by decide)]) (f.1 10 (by decide) (by decide) (by decide) (by decide) (by decide) (by decide) (by decide)) rfl rfl rfl rfl
theorem FrV.kc {h h' : PH} (f : FrV h h') : KC h h' := ⟨fun a ha => f.1 a (by omega) (by omega) (by omega) (by omega) (by omega) (by omega) (by omega), by rw [f.1 31 (by decide) (by decide) (by decide) (by decide) (by decide) (by decide) (by decide)], f.2⟩
theorem canC_loop {F c k : Nat} {h0 o0 : PH} {g : SG} {b : BT} {cs : CS} {w : Nat → Nat × Nat × Nat} (hF : 200 ≤ F) (hc : c < g.1) (hv0 : g.2.2.1 c ≤ 9) (r0 : RepC h0 6 cs) (ht : cs.1 ≤ 9999) (u0 : wOK h0 o0 w k) (ok : BTOK b) :
    ∀ (j i f y : Nat) (h : PH), i + j = 10 → j < f → FrV h0 h → EnvC h (gV g c y) (semB b) → HeldC h b → h.1 34 2 = nI (cntA (fitV (semB b) g c cs w k) i) → h.1 34 3 = lstA (fitV (semB b) g c cs w k) i →
    ∃ h', fL_X1_weighValues_16 F f (nI c) (nI (g.2.2.1 c)) (nI i) h = some ((), h') ∧ FrV h0 h' ∧ EnvC h' g (semB b) ∧ HeldC h' b ∧ h'.1 34 2 = nI (cntA (fitV (semB b) g c cs w k) 10) ∧ h'.1 34 3 = lstA (fitV (semB b) g c cs w k) 10 := by
  intro j
  induction j with
  | zero =>
    intro i f y h hi hf fr e hb h2 h3
    obtain ⟨f, rfl⟩ : ∃ n, f = n + 1 := ⟨f - 1, by omega⟩
    have hi' : i = 10 := by omega
    subst hi'
    have h6 : c < 6 := Nat.lt_of_lt_of_le hc e.2.1
    obtain ⟨h1, s1, s2, s3, s4, s5⟩ := setV (F := F) (v := g.2.2.1 c) hF e hb hc hv0 ok
    rw [gV2, gVsame] at s2
    rw [fL_X1_weighValues_16, if_pos (show (9 : Int32) < nI 10 by decide), if_pos (inb_nI h6 (by decide)), lth_eq, ix_nI (by omega), s1, bnd_some]
    exact ⟨h1, rfl, fr.trans ⟨fun a u3 u5 u15 _ _ _ _ => s4 a u3 u5 u15, s5⟩, s2, s3, by rw [s4 34 (by decide) (by decide) (by decide)]; exact h2, by rw [s4 34 (by decide) (by decide) (by decide)]; exact h3⟩
  | succ j ih =>
    intro i f y h hi hf fr e hb h2 h3
    obtain ⟨f, rfl⟩ : ∃ n, f = n + 1 := ⟨f - 1, by omega⟩
    have h6 : c < 6 := Nat.lt_of_lt_of_le hc e.2.1
    have hin : inb (nI c) 6 = true := inb_nI h6 (by decide)
    obtain ⟨h1, s1, s2, s3, s4, s5⟩ := setV (F := F) (v := i) hF e hb hc (by omega) ok
    rw [gV2] at s2
    have fr1 : FrV h0 h1 := fr.trans ⟨fun a u3 u5 u15 _ _ _ _ => s4 a u3 u5 u15, s5⟩
    have rr := fr1.rep r0
    have hr := rr.2 c h6
    have hcl := cntA_le (fitV (semB b) g c cs w k) i
    have u := fr1.w u0
    have h2' : h1.1 34 2 = nI (cntA (fitV (semB b) g c cs w k) i) := by rw [s4 34 (by decide) (by decide) (by decide)]; exact h2
    have h3' : h1.1 34 3 = lstA (fitV (semB b) g c cs w k) i := by rw [s4 34 (by decide) (by decide) (by decide)]; exact h3
    obtain ⟨h4, w1, w2, w3, w4⟩ := weighC (F := F) (c := c) (x := cs.2.1 c) (k := k) (y := nI i) (h0 := h1) (o0 := o0) (w := w) (by omega) s2 hc rr hr.2.1 ht u (t := cntA (fitV (semB b) g c cs w k) i) h2' (by omega) k 0 F h1 (by omega) (by have := u.1; omega) (FrW.refl _) rfl
    have w1' : f_X1_weigh F (nI c) (nI (cs.2.1 c)) (nI i) h1 = some ((), h4) := w1
    rw [va_same] at w3 w4
    rw [fL_X1_weighValues_16, show (9 : Int32) = nI 9 from rfl, if_t (by omega) (by omega), if_neg (show ¬ 9 < i by omega), if_pos hin, lth_eq, ix_nI (by omega), s1, bnd_some, if_pos hin, show h1.1 7 c = _ from hr.1, w1', bnd_some, nI_1]
    refine ih (i + 1) f i h4 (by omega) (by omega) (fr1.trans w2.v) (w2.env s2) (HeldC_eq (fun a ha => w2.1 a (by omega) (by omega) (by omega) (by omega)) (by rw [w2.2]) s3) ?_ ?_
    · rw [w3]; rfl
    · rw [w4, h3']; rfl
theorem EnvM.setV {c v : Nat} {o : PH} {g : SG} {b : BT} (e : EnvM o g b) (hl : o.1 102 25 = 0) (hc : c < 6) (hv : v ≤ 9) : EnvM (wI o 104 c (nI v)) (gV g c v) b := by
  obtain ⟨m1, m2, m3, m4, m5, m6, m7⟩ := e
  refine ⟨by rw [rI_ne (by decide)]; exact m1, m2, by rw [rI_ne (by decide)]; exact m3, fun i hi => ?_, by rw [rI_ne (by decide)]; exact m5, m6.fr (by rw [rI_ne (by decide)]) (rI_ne (by decide)) (rI_ne (by decide)) (rI_ne (by decide)) (rI_ne (by decide)) (rI_ne (by decide)) (rI_ne (by decide)), Or.inl (by rw [rI_ne (by decide)]; exact hl)⟩
  rw [rI]
  show _ = nI (va_up g.2.2.1 c v i) ∧ va_up g.2.2.1 c v i ≤ 9
  rw [va_if]
  by_cases hic : i = c
  · rw [if_pos ⟨rfl, hic⟩, if_pos hic]; exact ⟨rfl, hv⟩
  · rw [if_neg (fun q => hic q.2), if_neg hic]; exact m4 i hi
theorem KM.w104 {o : PH} {i : Nat} {x : Int32} : KM o (wI o 104 i x) := ⟨fun a ha => rI_ne (by omega), fun i _ => by rw [rI_ne (by decide)], rfl⟩
theorem canM_loop {F c k : Nat} {h0 o0 : PH} {g : SG} {b : BT} {cs : CS} {w : Nat → Nat × Nat × Nat} {q : Int32} (hF : 700 ≤ F) (hc : c < g.1) (hv0 : g.2.2.1 c ≤ 9) (ht : cs.1 ≤ 9999) (u0 : wOK h0 o0 w k) :
    ∀ (j f K y : Nat) (L : Int32) (o : PH), j ≤ 10 → j < f → EnvM o (gV g c y) b → o.1 102 25 = 0 → RepM o cs → KM o0 o →
    ∃ o', fL_X10_can_38 F f (nI c) q (nI (g.2.2.1 c)) (nI K) L (nI j + (-1 : Int32)) o = some (if q = 0 then nI (K + cntA (fitV (semB b) g c cs w k) j) else (if cntA (fitV (semB b) g c cs w k) j = 0 then L else lstA (fitV (semB b) g c cs w k) j), o') ∧ KM o0 o' ∧ EnvM o' g b ∧ o'.1 102 25 = 0 ∧ RepM o' cs := by
  intro j
  induction j with
  | zero =>
    intro f K y L o hj hf e hl r km
    obtain ⟨f, rfl⟩ : ∃ n, f = n + 1 := ⟨f - 1, by omega⟩
    have h6 : c < 6 := Nat.lt_of_lt_of_le hc e.2.1
    have e' := e.setV (v := g.2.2.1 c) hl h6 hv0
    rw [gV2, gVsame] at e'
    rw [fL_X10_can_38, if_pos (show nI 0 + (-1 : Int32) < 0 by decide), if_pos (inb_nI h6 (by decide)), lth_eq, ix_nI (by omega)]
    refine ⟨wI o 104 c (nI (g.2.2.1 c)), ?_, km.trans KM.w104, e', by rw [rI_ne (by decide)]; exact hl, ?_⟩
    · by_cases hq : q = 0
      · rw [if_pos hq, if_pos hq]; rfl
      · rw [if_neg hq, if_neg hq]; rfl
    · unfold RepM at r ⊢
      rw [rI_ne (by decide), rI_ne (by decide)]; exact r
  | succ j ih =>
    intro f K y L o hj hf e hl r km
    obtain ⟨f, rfl⟩ : ∃ n, f = n + 1 := ⟨f - 1, by omega⟩
    have h6 : c < 6 := Nat.lt_of_lt_of_le hc e.2.1
    have e' := e.setV (v := j) hl h6 (by omega)
    rw [gV2] at e'
    have r' : RepM (wI o 104 c (nI j)) cs := by
      unfold RepM at r ⊢
      rw [rI_ne (by decide), rI_ne (by decide)]; exact r
    have k5 := u0.1
    obtain ⟨o1, s1, s2, s3⟩ := isSeenM (F := F) (g := gV g c j) hF hc ht u0 k 0 F _ (by omega) (by omega) e' r' (km.trans KM.w104)
    have s1' : f_X10_isSeen F (nI c) (wI o 104 c (nI j)) = some (b2i (fitV (semB b) g c cs w k j), o1) := s1
    have km1 := (km.trans KM.w104).trans s2.km
    have hl1 : o1.1 102 25 = 0 := by rw [s2.2.1 25 (by decide) (by decide) (by decide) (by decide), rI_ne (by decide)]; exact hl
    rw [fL_X10_can_38, nI_m1, if_neg (nI_pos (show j < 2 ^ 31 by omega)), if_pos (inb_nI h6 (by decide)), lth_eq, ix_nI (by omega), s1', bnd_some, nI_1]
    unfold cntA lstA
    cases hp : fitV (semB b) g c cs w k j with
    | false =>
      rw [if_pos (show b2i false = 0 by decide)]
      obtain ⟨o', g1, g2⟩ := ih f K j L o1 (by omega) (by omega) (s2.env e') hl1 s3 km1
      refine ⟨o', ?_, g2⟩
      rw [g1]; rfl
    | true =>
      rw [if_neg (show ¬ b2i true = 0 by decide)]
      obtain ⟨o', g1, g2⟩ := ih f (K + 1) j (nI j) o1 (by omega) (by omega) (s2.env e') hl1 s3 km1
      refine ⟨o', ?_, g2⟩
      rw [g1, if_pos (show true = true from rfl), if_pos (show true = true from rfl), if_neg (show ¬ cntA (fitV (semB b) g c cs w k) j + 1 = 0 by omega), show K + 1 + cntA (fitV (semB b) g c cs w k) j = K + (cntA (fitV (semB b) g c cs w k) j + 1) by omega]
theorem st_can {F : Nat} {h o : PH} {x y : Int32} (hF : FOK F) (s : Sim h o) : Step (f_X9_can F x y) (f_X10_can F x y) h o := by
  have same := s
  obtain ⟨g, b, cs, c, m, ht, r⟩ := s
  unfold FOK at hF
  have hg := c.1.2.1
  have e1 := isClockC (F := F) (a := x) c.1.1 hg
  have e2 := isClockM (F := F) (a := x) m.1.1 hg
  unfold Step f_X9_can f_X10_can
  rw [e1, e2, bnd_some, bnd_some]
  by_cases hi : inb x g.1 = true
  · obtain ⟨a, ha, rfl⟩ := inb_lt hi (by omega)
    have h6 : a < 6 := by omega
    have hin : inb (nI a) 6 = true := inb_nI h6 (by decide)
    rw [if_pos hi, if_neg (show ¬ (1 : Int32) = 0 by decide), if_neg (show ¬ (1 : Int32) = 0 by decide), within_eq, in_eq, bnd_some, bnd_some]
    by_cases hy : wth y 0 1 = 0
    · exact ⟨-1, h, o, by rw [if_pos hy], by rw [if_pos hy], same⟩
    · obtain ⟨w, k, u⟩ := seen_w hg r.2.2.2.1
      rw [if_neg hy, if_neg hy, if_pos hin]
      have f0 : FrW h (wI (wI h 34 2 (0 : Int32)) 34 3 (-5 : Int32)) := FrW.w34.trans FrW.w34
      have en : f_X1_weighNothing F h = some ((), wI (wI h 34 2 (0 : Int32)) 34 3 (-5 : Int32)) := by unfold f_X1_weighNothing; rw [lth_eq, lth_eq]
      have hv := c.1.2.2.2.1 a h6
      have ok := HeldM_ok m.1.2.2.2.2.2.1
      obtain ⟨hh, a1, a2, a3, a4, a5, a6⟩ := canC_loop (F := F) (by omega) ha hv.2 (f0.rep c.2.1) ht (f0.w u) ok 10 0 F (g.2.2.1 a) _ (by omega) (by omega) (FrV.refl _) (by rw [gVsame]; exact f0.env c.1) (HeldC_eq (fun a ha => f0.1 a (by omega) (by omega) (by omega) (by omega)) (by rw [f0.2]) c.2.2) (by rw [rI_sl (by decide), rI_eq]; rfl) (by rw [rI_eq]; rfl)
      obtain ⟨oo, b1, b2, b3, b4, b5⟩ := canM_loop (F := F) (q := y) (by omega) ha hv.2 ht u 10 F 0 (g.2.2.1 a) (-5) o (by omega) (by omega) (by rw [gVsame]; exact m.1) m.2.2 m.2.1 (KM.refl o)
      rw [Nat.zero_add] at b1
      have fv := f0.v.trans a2
      have a1' : f_X1_weighValues F (nI a) h = some ((), hh) := by
        unfold f_X1_weighValues
        rw [en, bnd_some, if_pos hin, ix_nI (by omega), rI_ne (show (3 : Nat) ≠ 34 by decide), rI_ne (show (3 : Nat) ≠ 34 by decide), hv.1]
        exact a1
      rw [a1', bnd_some, ix_nI (by omega), (m.1.2.2.2.1 a h6).1]
      refine ⟨_, hh, oo, ?_, b1, g, b, cs, ⟨a3, fv.rep c.2.1, a4⟩, ⟨b3, b5, b4⟩, ht, r.keep fv.kc b2⟩
      rw [a5, a6]
      by_cases hq : y = 0
      · rw [if_pos hq, if_pos hq]
      · rw [if_neg hq, if_neg hq]
        by_cases hz : cntA (fitV (semB b) g a cs w k) 10 = 0
        · rw [if_pos hz, lstA_0 _ _ hz]
        · rw [if_neg hz]
  · rw [if_neg hi, if_pos (show (0 : Int32) = 0 from rfl), if_pos (show (0 : Int32) = 0 from rfl)]
    exact ⟨-1, h, o, rfl, rfl, same⟩
