theorem EnvM.p {h h' : PH} {g : SG} {b : BT} (f : FrP h h') (e : EnvM h g b) : EnvM h' g b := f.m.env e
theorem leftM_loop {F c t : Nat} {g : SG} {b : BT} (hF : 700 ≤ F) (hc : c < g.1) (hb : t < 2 ^ 20) : ∀ (j d f s : Nat) (h : PH), d + j = t → j < f → EnvM h g b → h.1 102 2 = nI t → ∃ h', fL_X10_left_9 F f (nI c) (nI s) (nI d) h = some (nI (s + (preA (semB b) g c t - preA (semB b) g c d)), h') ∧ FrP h h' := by
  intro j
  induction j with
  | zero =>
    intro d f s h hd hf e ht
    obtain ⟨f, rfl⟩ : ∃ m, f = m + 1 := ⟨f - 1, by omega⟩
    rw [fL_X10_left_9, ht, if_l (by omega) (by omega), if_pos (by omega), show d = t by omega, Nat.sub_self, Nat.add_zero]
    exact ⟨h, rfl, FrP.refl h⟩
  | succ j ih =>
    intro d f s h hd hf e ht
    obtain ⟨f, rfl⟩ : ∃ m, f = m + 1 := ⟨f - 1, by omega⟩
    obtain ⟨h1, e1, e2⟩ := newsOfM hF e hc (show d < 2 ^ 28 by omega)
    rw [fL_X10_left_9, ht, if_l (by omega) (by omega), if_neg (by omega), e1, bnd_some, nI_add, nI_1]
    obtain ⟨h2, e3, e4⟩ := ih (d + 1) f (s + newsA (semB b) g c d) h1 (by omega) (by omega) (e.p e2) (by rw [e2.1 102 (by decide)]; exact ht)
    refine ⟨h2, ?_, e2.trans e4⟩
    have m1 : preA (semB b) g c (d + 1) ≤ preA (semB b) g c t := preA_mono (by omega)
    have m2 : preA (semB b) g c (d + 1) = preA (semB b) g c d + newsA (semB b) g c d := rfl
    rw [e3]
    congr 3
    omega
theorem leftM {F c : Nat} {h : PH} {g : SG} {b : BT} {cs : CS} (hF : 700 ≤ F) (e : EnvM h g b) (hc : c < g.1) (r : RepM h cs) (ht : cs.1 < F) (hb : cs.1 < 2 ^ 20) : ∃ h', f_X10_left F (nI c) h = some (nI (leftA (semB b) g c cs), h') ∧ FrP h h' := by
  have h6 : c < 6 := Nat.lt_of_lt_of_le hc e.2.1
  have hr := r.2.2 c h6
  obtain ⟨h', e1, e2⟩ := leftM_loop hF hc hb (cs.1 - cs.2.1 c) (cs.2.1 c) F 0 h (by omega) (by omega) e r.1
  unfold f_X10_left
  rw [if_pos (inb_nI h6 (by decide)), ix_nI (by omega), hr.1, li0, e1, Nat.zero_add]
  exact ⟨h', rfl, e2⟩
theorem mindedM_loop {F c t : Nat} {g : SG} {b : BT} (hF : 700 ≤ F) (hc : c < g.1) (hb : t < 2 ^ 20) : ∀ (j d f : Nat) (h : PH), d + j = t → j < f → EnvM h g b → h.1 102 2 = nI t → ∃ h', fL_X10_minded_22 F f (nI c) (nI d) h = some (firstA (semB b) g c j d, h') ∧ FrP h h' := by
  intro j
  induction j with
  | zero =>
    intro d f h hd hf e ht
    obtain ⟨f, rfl⟩ : ∃ m, f = m + 1 := ⟨f - 1, by omega⟩
    rw [fL_X10_minded_22, ht, if_l (by omega) (by omega), if_pos (by omega)]
    exact ⟨h, rfl, FrP.refl h⟩
  | succ j ih =>
    intro d f h hd hf e ht
    obtain ⟨f, rfl⟩ : ∃ m, f = m + 1 := ⟨f - 1, by omega⟩
    obtain ⟨h1, e1, e2⟩ := mindsM hF e hc (show d < 2 ^ 28 by omega)
    rw [fL_X10_minded_22, ht, if_l (by omega) (by omega), if_neg (by omega), e1, bnd_some, nI_1, firstA]
    cases hm : mindA (semB b) g c d with
    | true =>
      rw [if_neg (show ¬ b2i true = 0 by decide), if_pos (show true = true from rfl)]
      exact ⟨h1, rfl, e2⟩
    | false =>
      rw [if_pos (show b2i false = 0 by decide), if_neg (show ¬ false = true by decide)]
      obtain ⟨h2, e3, e4⟩ := ih (d + 1) f h1 (by omega) (by omega) (e.p e2) (by rw [e2.1 102 (by decide)]; exact ht)
      exact ⟨h2, e3, e2.trans e4⟩
theorem mindedM {F c : Nat} {h : PH} {g : SG} {b : BT} {cs : CS} (hF : 700 ≤ F) (e : EnvM h g b) (hc : c < g.1) (r : RepM h cs) (ht : cs.1 < F) (hb : cs.1 < 2 ^ 20) : ∃ h', f_X10_minded F (nI c) h = some (mindedA (semB b) g c cs, h') ∧ FrP h h' := by
  have h6 : c < 6 := Nat.lt_of_lt_of_le hc e.2.1
  have hr := r.2.2 c h6
  unfold f_X10_minded mindedA
  rw [hasM r.2.1 h6, bnd_some]
  cases hb2 : cs.2.2 c with
  | true =>
    rw [if_neg (show ¬ b2i true = 0 by decide), if_pos (show true = true from rfl)]
    exact ⟨h, rfl, FrP.refl h⟩
  | false =>
    rw [if_pos (show b2i false = 0 by decide), if_neg (show ¬ false = true by decide), if_pos (inb_nI h6 (by decide)), ix_nI (by omega), hr.1]
    exact mindedM_loop hF hc hb _ _ _ h (by omega) (by omega) e r.1
-- the course kept aside
def FrQ (h h' : PH) : Prop := (∀ a, a ≠ 102 → a ≠ 105 → a ≠ 116 → a ≠ 119 → h'.1 a = h.1 a) ∧ (∀ i, i ≠ 1 → i ≠ 2 → i ≠ 28 → i ≠ 29 → h'.1 102 i = h.1 102 i) ∧ h'.2 = h.2
theorem FrQ.refl (h : PH) : FrQ h h := ⟨fun _ _ _ _ _ => rfl, fun _ _ _ _ _ => rfl, rfl⟩
theorem FrQ.trans {h h1 h2 : PH} (a : FrQ h h1) (b : FrQ h1 h2) : FrQ h h2 := ⟨fun x u v w y => (b.1 x u v w y).trans (a.1 x u v w y), fun i u v w y => (b.2.1 i u v w y).trans (a.2.1 i u v w y), b.2.2.trans a.2.2⟩
theorem FrM.q {h h' : PH} (f : FrM h h') : FrQ h h' := ⟨fun a u v w _ => f.1 a u v w, fun i u v _ _ => f.2.1 i u v, f.2.2⟩
theorem FrQ.w9 {h : PH} {i : Nat} {x : Int32} : FrQ h (wI h 119 i x) := ⟨fun _ _ _ _ y => rI_ne y, fun _ _ _ _ _ => by rw [rI_ne (by decide)], rfl⟩
theorem FrQ.w28 {h : PH} {x : Int32} : FrQ h (wI h 102 28 x) := ⟨fun _ u _ _ _ => rI_ne u, fun _ _ _ v _ => by rw [rI_sl v], rfl⟩
theorem FrQ.w29 {h : PH} {x : Int32} : FrQ h (wI h 102 29 x) := ⟨fun _ u _ _ _ => rI_ne u, fun _ _ _ _ v => by rw [rI_sl v], rfl⟩
theorem FrQ.env {h h' : PH} {g : SG} {b : BT} (f : FrQ h h') (e : EnvM h g b) : EnvM h' g b := by
  have far : ∀ a, a ≠ 102 → a ≠ 105 → a ≠ 116 → a ≠ 119 → h'.1 a = h.1 a := f.1
  have far2 : ∀ a, 105 < a → a < 116 → h'.1 a = h.1 a := fun a h1 h2 => far a (by omega) (by omega) (by omega) (by omega)
  unfold EnvM at e ⊢
  unfold laidOK at e ⊢
  rw [far 103 (by decide) (by decide) (by decide) (by decide), far 104 (by decide) (by decide) (by decide) (by decide), far 106 (by decide) (by decide) (by decide) (by decide), far 117 (by decide) (by decide) (by decide) (by decide), far 118 (by decide) (by decide) (by decide) (by decide), f.2.1 0 (by decide) (by decide) (by decide) (by decide), f.2.1 25 (by decide) (by decide) (by decide) (by decide)]
  exact ⟨e.1, e.2.1, e.2.2.1, e.2.2.2.1, e.2.2.2.2.1, e.2.2.2.2.2.1.fr (f.2.1 8 (by decide) (by decide) (by decide) (by decide)) (far2 _ (by decide) (by decide)) (far2 _ (by decide) (by decide)) (far2 _ (by decide) (by decide)) (far2 _ (by decide) (by decide)) (far2 _ (by decide) (by decide)) (far2 _ (by decide) (by decide)), e.2.2.2.2.2.2⟩
def KeptM (h : PH) (cs : CS) : Prop := h.1 102 29 = nI cs.1 ∧ maskOK (h.1 102 28) cs.2.2 ∧ ∀ c, c < 6 → h.1 119 c = nI (cs.2.1 c) ∧ cs.2.1 c ≤ cs.1
theorem KeptM.fr {h h' : PH} {cs : CS} (f : FrM h h') (u : KeptM h cs) : KeptM h' cs := by
  unfold KeptM at u ⊢
  rw [f.2.1 29 (by decide) (by decide), f.2.1 28 (by decide) (by decide), f.1 119 (by decide) (by decide) (by decide)]; exact u
theorem saveM_loop {F : Nat} {cs : CS} : ∀ (j i f : Nat) (h : PH), i + j = 6 → j < f → RepM h cs → h.1 102 29 = nI cs.1 → maskOK (h.1 102 28) cs.2.2 → (∀ c, c < i → h.1 119 c = nI (cs.2.1 c)) → ∃ h', fL_X10_save_18 F f (nI i) h = some ((), h') ∧ FrQ h h' ∧ RepM h' cs ∧ KeptM h' cs := by
  intro j
  induction j with
  | zero =>
    intro i f h hi hf r k1 k2 k3
    obtain ⟨f, rfl⟩ : ∃ m, f = m + 1 := ⟨f - 1, by omega⟩
    rw [fL_X10_save_18, li6, if_l (by omega) (by omega), if_pos (by omega)]
    exact ⟨h, rfl, FrQ.refl h, r, k1, k2, fun c hc => ⟨k3 c (by omega), (r.2.2 c hc).2⟩⟩
  | succ j ih =>
    intro i f h hi hf r k1 k2 k3
    obtain ⟨f, rfl⟩ : ∃ m, f = m + 1 := ⟨f - 1, by omega⟩
    have hin : inb (nI i) 6 = true := inb_nI (by omega) (by decide)
    rw [fL_X10_save_18, li6, if_l (by omega) (by omega), if_neg (by omega)]
    simp only [if_pos hin, lth_eq, ix_nI (show i < 2 ^ 31 by omega)]
    rw [(r.2.2 i (by omega)).1, nI_1]
    obtain ⟨h', e1, e2, e3, e4⟩ := ih (i + 1) f (wI h 119 i (nI (cs.2.1 i))) (by omega) (by omega) ⟨by rw [rI_ne (by decide)]; exact r.1, by rw [rI_ne (by decide)]; exact r.2.1, fun c hc => by rw [rI_ne (by decide)]; exact r.2.2 c hc⟩ (by rw [rI_ne (by decide)]; exact k1) (by rw [rI_ne (by decide)]; exact k2) (fun c hc => by
      rw [rI]
      by_cases hci : c = i
      · subst hci; rw [if_pos ⟨rfl, rfl⟩]
      · rw [if_neg (fun q => hci q.2)]; exact k3 c (by omega))
    exact ⟨h', e1, FrQ.w9.trans e2, e3, e4⟩
theorem saveM {F : Nat} {h : PH} {cs : CS} (hF : 10 ≤ F) (r : RepM h cs) : ∃ h', f_X10_save F h = some ((), h') ∧ FrQ h h' ∧ RepM h' cs ∧ KeptM h' cs := by
  unfold f_X10_save
  rw [lth_eq, lth_eq, rI_sl (by decide), r.1]
  obtain ⟨h', e1, e2, e3, e4⟩ := saveM_loop (F := F) (cs := cs) 6 0 F (wI (wI h 102 28 (h.1 102 1)) 102 29 (nI cs.1)) rfl (by omega) ⟨by rw [rI_sl (by decide), rI_sl (by decide)]; exact r.1, by rw [rI_sl (by decide), rI_sl (by decide)]; exact r.2.1, fun c hc => by rw [rI_ne (by decide), rI_ne (by decide)]; exact r.2.2 c hc⟩ (rI_eq _ _ _ _) (by rw [rI_sl (by decide), rI_eq]; exact r.2.1) (fun c hc => absurd hc (by omega))
  exact ⟨h', e1, (FrQ.w28.trans FrQ.w29).trans e2, e3, e4⟩
theorem backM_loop {F : Nat} {cs : CS} : ∀ (j i f : Nat) (h : PH), i + j = 6 → j < f → KeptM h cs → h.1 102 2 = nI cs.1 → maskOK (h.1 102 1) cs.2.2 → (∀ c, c < i → h.1 105 c = nI (cs.2.1 c)) → ∃ h', fL_X10_putBack_18 F f (nI i) h = some ((), h') ∧ FrM h h' ∧ RepM h' cs ∧ KeptM h' cs := by
  intro j
  induction j with
  | zero =>
    intro i f h hi hf r k1 k2 k3
    obtain ⟨f, rfl⟩ : ∃ m, f = m + 1 := ⟨f - 1, by omega⟩
    rw [fL_X10_putBack_18, li6, if_l (by omega) (by omega), if_pos (by omega)]
    exact ⟨h, rfl, FrM.refl h, ⟨k1, k2, fun c hc => ⟨k3 c (by omega), (r.2.2 c hc).2⟩⟩, r⟩
  | succ j ih =>
    intro i f h hi hf r k1 k2 k3
    obtain ⟨f, rfl⟩ : ∃ m, f = m + 1 := ⟨f - 1, by omega⟩
    have hin : inb (nI i) 6 = true := inb_nI (by omega) (by decide)
    rw [fL_X10_putBack_18, li6, if_l (by omega) (by omega), if_neg (by omega)]
    simp only [if_pos hin, lth_eq, ix_nI (show i < 2 ^ 31 by omega)]
    rw [(r.2.2 i (by omega)).1, nI_1]
    obtain ⟨h', e1, e2, e3, e4⟩ := ih (i + 1) f (wI h 105 i (nI (cs.2.1 i))) (by omega) (by omega) (r.fr FrM.w5) (by rw [rI_ne (by decide)]; exact k1) (by rw [rI_ne (by decide)]; exact k2) (fun c hc => by
      rw [rI]
      by_cases hci : c = i
      · subst hci; rw [if_pos ⟨rfl, rfl⟩]
      · rw [if_neg (fun q => hci q.2)]; exact k3 c (by omega))
    exact ⟨h', e1, FrM.w5.trans e2, e3, e4⟩
theorem backM {F : Nat} {h : PH} {cs : CS} (hF : 10 ≤ F) (r : KeptM h cs) : ∃ h', f_X10_putBack F h = some ((), h') ∧ FrM h h' ∧ RepM h' cs ∧ KeptM h' cs := by
  unfold f_X10_putBack
  rw [lth_eq, lth_eq, rI_sl (by decide), r.1]
  obtain ⟨h', e1, e2, e3, e4⟩ := backM_loop (F := F) (cs := cs) 6 0 F (wI (wI h 102 1 (h.1 102 28)) 102 2 (nI cs.1)) rfl (by omega) (r.fr (FrM.w1.trans FrM.w2)) (rI_eq _ _ _ _) (by rw [rI_sl (by decide), rI_eq]; exact r.2.1) (fun c hc => absurd hc (by omega))
  exact ⟨h', e1, (FrM.w1.trans FrM.w2).trans e2, e3, e4⟩
theorem wholeM_loop {F c : Nat} {h0 : PH} {g : SG} {b : BT} {cs0 : CS} (hF : 700 ≤ F) (hc : c < g.1) (e0 : EnvM h0 g b) : ∀ (j i f : Nat) (cs : CS) (h : PH), i + j = 61 → j < f → cs.1 < 2 ^ 20 + i → FrM h0 h → RepM h cs → KeptM h cs0 → ∃ h', fL_X10_whole__6 F f (nI c) (nI i) h = some (wholeA (semB b) g c j cs, h') ∧ FrM h0 h' ∧ RepM h' cs0 := by
  have h6 : c < 6 := Nat.lt_of_lt_of_le hc e0.2.1
  intro j
  induction j with
  | zero =>
    intro i f cs h hi hf ht fr r k
    obtain ⟨f, rfl⟩ : ∃ m, f = m + 1 := ⟨f - 1, by omega⟩
    obtain ⟨h1, e1, e2, e3, e4⟩ := backM (F := F) (by omega) k
    rw [fL_X10_whole__6, show (61 : Int32) = nI 61 from rfl, if_l (by omega) (by omega), if_pos (by omega), e1, bnd_some, if_l (by omega) (by omega), if_pos (by omega)]
    exact ⟨h1, rfl, fr.trans e2, e3⟩
  | succ j ih =>
    intro i f cs h hi hf ht fr r k
    obtain ⟨f, rfl⟩ : ∃ m, f = m + 1 := ⟨f - 1, by omega⟩
    rw [fL_X10_whole__6, show (61 : Int32) = nI 61 from rfl, if_l (by omega) (by omega), if_neg (by omega), isUpM r h6 (by omega), bnd_some, wholeA]
    by_cases hu : cs.2.1 c = cs.1
    · obtain ⟨h1, e1, e2, e3, e4⟩ := backM (F := F) (by omega) k
      rw [decide_eq_true hu, if_neg (show ¬ b2i true = 0 by decide), if_pos hu, e1, bnd_some, if_l (by omega) (by omega), if_neg (by omega), show i = 60 - j by omega]
      exact ⟨h1, rfl, fr.trans e2, e3⟩
    · rw [decide_eq_false hu, if_pos (show b2i false = 0 by decide), if_neg hu]
      obtain ⟨h1, e1, e2, e3⟩ := eveningM (F := F) hF hc (fr.env e0) r (by omega)
      rw [e1, bnd_some, nI_1]
      exact ih (i + 1) f _ h1 (by omega) (by omega) (by rw [evening_1]; omega) (fr.trans e2) e3 (k.fr e2)
theorem wholeM {F c : Nat} {h : PH} {g : SG} {b : BT} {cs : CS} (hF : 700 ≤ F) (hc : c < g.1) (e : EnvM h g b) (r : RepM h cs) (ht : cs.1 < 2 ^ 20) : ∃ h', f_X10_whole_ F (nI c) h = some (wholeA (semB b) g c 61 cs, h') ∧ FrQ h h' ∧ RepM h' cs := by
  obtain ⟨h1, e1, e2, e3, e4⟩ := saveM (F := F) (by omega) r
  obtain ⟨h2, e5, e6, e7⟩ := wholeM_loop hF hc (e2.env e) 61 0 F cs h1 rfl (by omega) (by omega) (FrM.refl _) e3 e4
  unfold f_X10_whole_
  rw [e1, bnd_some]
  exact ⟨h2, e5, e2.trans e6.q, e7⟩
