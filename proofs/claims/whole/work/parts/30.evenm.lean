theorem halfM {p : Nat} : (if 1 ≤ p / 2 then p / 2 else 1) = halfA p := by
  unfold halfA
  by_cases h : 1 < p / 2
  · rw [if_pos h, if_pos (by omega)]
  · rw [if_neg h]
    split <;> omega
theorem holds19M {F c p q : Nat} {h : PH} {g : SG} {b : BT} {cs : CS} (e : EnvM h g b) (h6 : c < 6) (r : RepM h cs) (ht : cs.1 < 2 ^ 30) (hp : p = b.1) (hq : q = halfA b.1) :
    fL_X10_holdsOf_19 F (nI c) (nI p) (nI q) h = some (nI (holdA (semB b) g c cs.1), h) := by
  have hi : inb (nI c) 6 = true := inb_nI h6 (by decide)
  have hk := e.2.2.1 c h6
  have hv := e.2.2.2.1 c h6
  have hm := Nat.mod_lt cs.1 (show 0 < 4 by decide)
  have n4 : ¬ (4 : Int32) = 0 := by decide
  have hqq : (4 : Int32) * nI c + jrem (nI cs.1) (4 : Int32) = nI (4 * c + cs.1 % 4) := by
    rw [li4, jrem_nI (by omega) (by decide) (by decide), pk_mul, nI_add]
  have hr := (e.2.2.2.2.1 (4 * c + cs.1 % 4) (by omega)).1
  have hin : inb (nI (4 * c + cs.1 % 4)) 24 = true := inb_nI (by omega) (by decide)
  unfold fL_X10_holdsOf_19 holdA
  simp only [if_pos hi, ix_nI (show c < 2 ^ 31 by omega), hk.1, hv.1, r.1, hqq, if_neg n4, if_pos hin, ix_nI (show 4 * c + cs.1 % 4 < 2 ^ 31 by omega), hr]
  rw [li1, li2, li3, li4, li5, li6, if_e (by omega) (by decide), if_e (by omega) (by decide), if_e (by omega) (by decide), if_e (by omega) (by decide), if_e (by omega) (by decide), if_e (by omega) (by decide), pk_mul, nI_add, nI_add, hp, hq]
  show _ = some (nI (if g.2.1 c = 1 then 2 * b.1 else if g.2.1 c = 3 then halfA b.1 else if g.2.1 c = 4 then 2 * b.1 + g.2.2.1 c else if g.2.1 c = 6 then halfA b.1 + g.2.2.2 (4 * c + cs.1 % 4) else b.1), h)
  by_cases h1 : g.2.1 c = 1
  · rw [if_pos h1, if_pos h1]
  · rw [if_neg h1, if_neg h1]
    by_cases h2 : g.2.1 c = 2
    · rw [if_pos h2]; simp [h2]
    · rw [if_neg h2]
      by_cases h3 : g.2.1 c = 3
      · rw [if_pos h3, if_pos h3]
      · rw [if_neg h3, if_neg h3]
        by_cases h4 : g.2.1 c = 4
        · rw [if_pos h4, if_pos h4]
        · rw [if_neg h4, if_neg h4]
          by_cases h5 : g.2.1 c = 5
          · rw [if_pos h5]; simp [h5]
          · rw [if_neg h5]
            by_cases h6' : g.2.1 c = 6
            · rw [if_pos h6', if_pos h6']
            · rw [if_neg h6', if_neg h6']
theorem holdsOfM {F c : Nat} {h : PH} {g : SG} {b : BT} {cs : CS} (hF : 20 ≤ F) (e : EnvM h g b) (h6 : c < 6) (r : RepM h cs) (ht : cs.1 < 2 ^ 30) : f_X10_holdsOf F (nI c) h = some (nI (holdA (semB b) g c cs.1), h) := by
  have hb := (HeldM_ok e.2.2.2.2.2.1).2.1
  have n2 : ¬ (2 : Int32) = 0 := by decide
  have e2 : nI b.1 / (2 : Int32) = nI (b.1 / 2) := pk_div (by omega) (by decide) (by decide)
  unfold f_X10_holdsOf
  rw [paceMM hF e.2.2.2.2.2.1, bnd_some, if_neg n2, if_neg n2, e2, li1, if_l (by decide) (by omega)]
  have hh := halfM (p := b.1)
  by_cases h1 : 1 ≤ b.1 / 2
  · rw [if_pos h1] at hh ⊢
    exact holds19M e h6 r ht rfl hh
  · rw [if_neg h1] at hh ⊢
    exact holds19M e h6 r ht rfl hh
theorem isUpM {F c : Nat} {h : PH} {cs : CS} (r : RepM h cs) (h6 : c < 6) (ht : cs.1 < 2 ^ 30) : f_X10_isUp F (nI c) h = some (b2i (decide (cs.2.1 c = cs.1)), h) := by
  have h1 := r.2.2 c h6
  unfold f_X10_isUp
  rw [if_pos (inb_nI h6 (by decide)), ix_nI (by omega), h1.1, r.1, if_e (by omega) (by omega)]
  by_cases hu : cs.2.1 c = cs.1
  · rw [if_pos hu, decide_eq_true hu]; rfl
  · rw [if_neg hu, decide_eq_false hu]; rfl
theorem nightM_loop {F n : Nat} {h0 : PH} {cs : CS} (hn : h0.1 102 0 = nI n) (h6 : n ≤ 6) (r : RepM h0 cs) (ht : cs.1 < 2 ^ 29) : ∀ (j f i : Nat) (h : PH), i + j = n → j < f → FrM h0 h → h.1 102 1 = h0.1 102 1 → h.1 102 2 = nI cs.1 → (∀ a, a < 6 → h.1 105 a = if a < i ∧ cs.2.1 a = cs.1 then nI (cs.2.1 a + 1) else nI (cs.2.1 a)) →
    ∃ h', fL_X10_goNight_2 F f (nI i) h = some ((), h') ∧ FrM h0 h' ∧ RepM h' (nightA n cs) := by
  intro j
  induction j with
  | zero =>
    intro f i h hij hf fr hm1 ht0 hr
    obtain ⟨f, rfl⟩ : ∃ m, f = m + 1 := ⟨f - 1, by omega⟩
    have hc : h.1 102 0 = nI n := by rw [fr.2.1 0 (by decide) (by decide)]; exact hn
    rw [fL_X10_goNight_2, hc, if_l (by omega) (by omega), if_pos (by omega), lth_eq]
    refine ⟨_, rfl, fr.trans FrM.w2, ?_, ?_, fun a ha => ?_⟩
    · rw [rI_eq, ht0, nI_1]; rfl
    · rw [rI_sl (by decide), hm1]; exact r.2.1
    · rw [rI_ne (by decide), hr a ha]
      have := r.2.2 a ha
      have hin : i = n := by omega
      subst hin
      unfold nightA
      refine ⟨?_, ?_⟩
      · dsimp only
        split <;> rfl
      · dsimp only
        split <;> omega
  | succ j ih =>
    intro f i h hij hf fr hm1 ht0 hr
    obtain ⟨f, rfl⟩ : ∃ m, f = m + 1 := ⟨f - 1, by omega⟩
    have hc : h.1 102 0 = nI n := by rw [fr.2.1 0 (by decide) (by decide)]; exact hn
    have hi6 : i < 6 := by omega
    have hin : inb (nI i) 6 = true := inb_nI hi6 (by decide)
    have hri := hr i hi6
    have hcs := (r.2.2 i hi6).2
    rw [if_neg (by omega)] at hri
    have hup : f_X10_isUp F (nI i) h = some (b2i (decide (cs.2.1 i = cs.1)), h) := by
      unfold f_X10_isUp
      rw [if_pos hin, ix_nI (by omega), hri, ht0, if_e (by omega) (by omega)]
      by_cases hu : cs.2.1 i = cs.1
      · rw [if_pos hu, decide_eq_true hu]; rfl
      · rw [if_neg hu, decide_eq_false hu]; rfl
    rw [fL_X10_goNight_2, hc, if_l (by omega) (by omega), if_neg (by omega), if_pos hin, hup, bnd_some]
    simp only [if_pos hin, lth_eq, ix_nI (show i < 2 ^ 31 by omega), hri]
    have go : ∀ x, x = (if cs.2.1 i = cs.1 then nI (cs.2.1 i + 1) else nI (cs.2.1 i)) → ∃ h', fL_X10_goNight_2 F f (nI i + (1 : Int32)) (wI h 105 i x) = some ((), h') ∧ FrM h0 h' ∧ RepM h' (nightA n cs) := by
      intro x hx
      rw [nI_1]
      refine ih f (i + 1) _ (by omega) (by omega) (fr.trans FrM.w5) (by rw [rI_ne (by decide)]; exact hm1) (by rw [rI_ne (by decide)]; exact ht0) (fun a ha => ?_)
      rw [rI]
      by_cases hai : a = i
      · subst hai
        rw [if_pos ⟨rfl, rfl⟩, hx]
        by_cases hu : cs.2.1 a = cs.1
        · rw [if_pos hu, if_pos ⟨by omega, hu⟩]
        · rw [if_neg hu, if_neg (fun q => hu q.2)]
      · rw [if_neg (fun q => hai q.2), hr a ha]
        by_cases ha2 : a < i
        · simp [ha2, show a < i + 1 by omega]
        · simp [ha2, show ¬ a < i + 1 by omega]
    by_cases hu : cs.2.1 i = cs.1
    · rw [decide_eq_true hu, if_neg (show ¬ b2i true = 0 by decide)]
      exact go _ (by rw [if_pos hu, nI_1])
    · rw [decide_eq_false hu, if_pos (show b2i false = 0 by decide)]
      exact go _ (by rw [if_neg hu, Int32.add_zero])
theorem nightM {F : Nat} {h : PH} {cs : CS} {n : Nat} (hF : 10 ≤ F) (hn : h.1 102 0 = nI n) (h6 : n ≤ 6) (r : RepM h cs) (ht : cs.1 < 2 ^ 29) : ∃ h', f_X10_goNight F h = some ((), h') ∧ FrM h h' ∧ RepM h' (nightA n cs) := by
  unfold f_X10_goNight
  refine nightM_loop (h0 := h) hn h6 r ht n F 0 h (by omega) (by omega) (FrM.refl _) rfl r.1 (fun a ha => ?_)
  rw [if_neg (by omega)]; exact (r.2.2 a ha).1
theorem RepM.step {h : PH} {c : Nat} {cs : CS} (r : RepM h cs) (hc : c < 6) (hl : cs.2.1 c < cs.1) : RepM (wI h 105 c (nI (cs.2.1 c + 1))) (cs.1, va_up cs.2.1 c (cs.2.1 c + 1), cs.2.2) := by
  refine ⟨by rw [rI_ne (by decide)]; exact r.1, by rw [rI_ne (by decide)]; exact r.2.1, fun i hi => ?_⟩
  have h1 := r.2.2 i hi
  show (wI h 105 c (nI (cs.2.1 c + 1))).1 105 i = nI (va_up cs.2.1 c (cs.2.1 c + 1) i) ∧ va_up cs.2.1 c (cs.2.1 c + 1) i ≤ cs.1
  rw [rI, va_if]
  by_cases hic : i = c
  · subst hic; rw [if_pos ⟨rfl, rfl⟩, if_pos rfl]; exact ⟨rfl, hl⟩
  · rw [if_neg (fun q => hic q.2), if_neg hic]; exact h1
theorem balkM {F c : Nat} {h : PH} {cs : CS} (r : RepM h cs) (hc : c < 6) : ∃ h', f_X10_balks F (nI c) (1 : Int32) h = some ((), h') ∧ FrM h h' ∧ RepM h' (cs.1, cs.2.1, va_up cs.2.2 c true) := by
  unfold f_X10_balks
  rw [if_neg (show ¬ (1 : Int32) = 0 by decide), lth_eq]
  refine ⟨_, rfl, FrM.w1, by rw [rI_sl (by decide)]; exact r.1, by rw [rI_eq]; exact mask_set r.2.1 hc, fun i hi => ?_⟩
  rw [rI_ne (by decide)]
  exact r.2.2 i hi
/-- what the model's loop of an evening gives -/
def outM (n : Nat) (r : Nat × CS) (h0 : PH) (x : Option (Int32 × PH)) : Prop := ∃ h', x = some (nI r.1, h') ∧ FrM h0 h' ∧ RepM h' (nightA n r.2)
theorem evM_end {F n : Nat} {h0 h : PH} {cs : CS} {d : Nat} (hF : 10 ≤ F) (hn : h.1 102 0 = nI n) (h6 : n ≤ 6) (f : FrM h0 h) (r : RepM h cs) (ht : cs.1 < 2 ^ 29) :
    outM n (d, cs) h0 (bnd (f_X10_goNight F h) fun _ h3 => some (nI d, h3)) := by
  obtain ⟨h', e1, e2, e3⟩ := nightM (F := F) hF hn h6 r ht
  rw [e1, bnd_some]
  exact ⟨h', rfl, f.trans e2, e3⟩
theorem evM_loop {F c most : Nat} {h0 : PH} {g : SG} {b : BT} (hF : 700 ≤ F) (hc : c < g.1) (hm : most < 1000) (e0 : EnvM h0 g b) : ∀ (j f days sum : Nat) (cs : CS) (h : PH),
    days + j = 30 → j + 1 < f → sum ≤ 1000 * days → cs.1 < 2 ^ 28 → FrM h0 h → RepM h cs → outM g.1 (evA (semB b) g c most j days sum cs) h0 (fL_X10_goEvening_11 F f (nI c) (nI days) (nI sum) (nI most) h) := by
  have h6 : c < 6 := Nat.lt_of_lt_of_le hc e0.2.1
  have hi : inb (nI c) 6 = true := inb_nI h6 (by decide)
  have hx : ix (nI c) = c := ix_nI (by omega)
  intro j
  induction j with
  | zero =>
    intro f days sum cs h hj hf hs ht fr r
    obtain ⟨f, rfl⟩ : ∃ m, f = m + 1 := ⟨f - 1, by omega⟩
    have e := fr.env e0
    rw [fL_X10_goEvening_11, show (30 : Int32) = nI 30 from rfl, if_l (by omega) (by omega), if_pos (by omega)]
    exact evM_end (by omega) e.1 e.2.1 fr r (by omega)
  | succ j ih =>
    intro f days sum cs h hj hf hs ht fr r
    obtain ⟨f, rfl⟩ : ∃ m, f = m + 1 := ⟨f - 1, by omega⟩
    have e := fr.env e0
    have hr := r.2.2 c h6
    have hev := newsA_lt (b := semB b) (g := g) (c := c) (d := cs.2.1 c) (semB_ok (HeldM_ok e0.2.2.2.2.2.1))
    rw [fL_X10_goEvening_11, show (30 : Int32) = nI 30 from rfl, if_l (by omega) (by omega), if_neg (by omega), if_pos hi, hx, hr.1, r.1, if_l (by omega) (by omega)]
    unfold evA
    by_cases h1 : cs.1 ≤ cs.2.1 c
    · rw [if_pos h1, if_neg (by omega)]
      exact evM_end (by omega) e.1 e.2.1 fr r (by omega)
    · rw [if_neg h1, hasM r.2.1 h6, bnd_some]
      cases h2 : cs.2.2 c with
      | true =>
        rw [if_neg (show ¬ b2i true = 0 by decide), if_neg (show ¬ (cs.2.1 c < cs.1 ∧ true = false) by simp)]
        exact evM_end (by omega) e.1 e.2.1 fr r (by omega)
      | false =>
        rw [if_pos (show b2i false = 0 by decide), if_pos hi, hr.1, if_pos (show (cs.2.1 c < cs.1 ∧ false = false) from ⟨by omega, rfl⟩)]
        obtain ⟨ha, a1, a2⟩ := newsOfM hF e hc (show cs.2.1 c < 2 ^ 28 by omega)
        have ea := a2.m.env e
        have ra := r.p a2
        obtain ⟨hb, b1, b2⟩ := mindsM hF ea hc (show cs.2.1 c < 2 ^ 28 by omega)
        have eb := b2.m.env ea
        have rb := ra.p b2
        have frb := (fr.trans a2.m).trans b2.m
        have hra := (ra.2.2 c h6).1
        have hrb := (rb.2.2 c h6).1
        rw [a1, bnd_some, if_pos hi, hra, b1, bnd_some]
        have hstep : outM g.1 (evA (semB b) g c most j (days + 1) (sum + newsA (semB b) g c (cs.2.1 c)) (cs.1, va_up cs.2.1 c (cs.2.1 c + 1), cs.2.2)) h0
            (fL_X10_goEvening_91 F (fun x14 x15 x16 x17 h18 => fL_X10_goEvening_11 F f x14 x15 x16 x17 h18) (nI c) (nI days) (nI sum) (nI most) (nI (newsA (semB b) g c (cs.2.1 c))) hb) := by
          unfold fL_X10_goEvening_91
          rw [if_pos hi, if_pos hi, hx, hrb, nI_1, nI_1, lth_eq, nI_add]
          exact ih f (days + 1) _ _ _ (by omega) (by omega) (by omega) ht (frb.trans FrM.w5) (rb.step h6 (by omega))
        cases h3 : mindA (semB b) g c (cs.2.1 c) with
        | true =>
          rw [if_neg (show ¬ b2i true = 0 by decide), if_pos (show true = true from rfl)]
          obtain ⟨hc1, c1, c2, c3⟩ := balkM (F := F) rb h6
          rw [c1, bnd_some]
          obtain ⟨f, rfl⟩ : ∃ m, f = m + 1 := ⟨f - 1, by omega⟩
          have fr2 := frb.trans c2
          have e2 := fr2.env e0
          have hr2 := c3.2.2 c h6
          rw [fL_X10_goEvening_11, show (30 : Int32) = nI 30 from rfl, if_l (by omega) (by omega), if_neg (by omega), if_pos hi, hx, hr2.1, c3.1, if_l (by omega) (by omega), if_neg h1, hasM c3.2.1 h6, bnd_some]
          rw [if_neg (show ¬ b2i (va_up cs.2.2 c true c) = 0 by rw [va_if, if_pos rfl]; decide)]
          exact evM_end (by omega) e2.1 e2.2.1 fr2 c3 (show cs.1 < 2 ^ 29 by omega)
        | false =>
          rw [if_pos (show b2i false = 0 by decide), if_neg (show ¬ false = true by decide)]
          by_cases h4 : days = 0
          · rw [if_pos (show nI days = 0 by rw [h4]; rfl), if_pos (show days = 0 ∨ sum + newsA (semB b) g c (cs.2.1 c) ≤ most from Or.inl h4)]
            exact hstep
          · rw [if_neg (show ¬ nI days = 0 from nI_ne0 (by omega) (by omega)), nI_add, if_t (by omega) (by omega)]
            by_cases h5 : most < sum + newsA (semB b) g c (cs.2.1 c)
            · rw [if_pos h5, if_neg (show ¬ (days = 0 ∨ sum + newsA (semB b) g c (cs.2.1 c) ≤ most) by omega)]
              exact evM_end (by omega) eb.1 eb.2.1 frb rb (by omega)
            · rw [if_neg h5, if_pos (show days = 0 ∨ sum + newsA (semB b) g c (cs.2.1 c) ≤ most by omega)]
              exact hstep
theorem eveningM {F c : Nat} {h : PH} {g : SG} {b : BT} {cs : CS} (hF : 700 ≤ F) (hc : c < g.1) (e : EnvM h g b) (r : RepM h cs) (ht : cs.1 < 2 ^ 28) :
    ∃ h', f_X10_goEvening F (nI c) h = some (nI (evening (semB b) g c cs).1, h') ∧ FrM h h' ∧ RepM h' (evening (semB b) g c cs).2 := by
  have h6 : c < 6 := Nat.lt_of_lt_of_le hc e.2.1
  have hm := Nat.mod_lt cs.1 (show 0 < 4 by decide)
  have hb := holdA_lt (c := c) (d := cs.1) (semB_ok (HeldM_ok e.2.2.2.2.2.1)) (e.2.2.2.1 c h6).2 (e.2.2.2.2.1 (4 * c + cs.1 % 4) (by omega)).2
  have h1 := evM_loop (F := F) hF hc hb e 30 F 0 0 cs h (by omega) (by omega) (by omega) ht (FrM.refl _) r
  unfold f_X10_goEvening
  rw [holdsOfM (by omega) e h6 r (by omega), bnd_some]
  exact h1
