theorem bit_has : ∀ m, m < 64 → ∀ c, c < 6 → (((nI m >>> (nI c &&& 31)) &&& (1 : Int32)) = (1 : Int32) ↔ m.testBit c = true) := by decide +kernel
theorem bit_set : ∀ m, m < 64 → ∀ c, c < 6 → (nI m ||| ((1 : Int32) <<< (nI c &&& 31))) = nI (m ||| 2 ^ c) ∧ m ||| 2 ^ c < 64 ∧ ∀ i, i < 6 → (m ||| 2 ^ c).testBit i = if i = c then true else m.testBit i := by decide +kernel
theorem bit_clear : ∀ m, m < 64 → ∀ c, c < 6 → (nI m &&& (((1 : Int32) <<< (nI c &&& 31)) ^^^ (-1 : Int32))) = nI (m &&& (63 ^^^ 2 ^ c)) ∧ m &&& (63 ^^^ 2 ^ c) < 64 ∧ ∀ i, i < 6 → (m &&& (63 ^^^ 2 ^ c)).testBit i = if i = c then false else m.testBit i := by decide +kernel
def maskOK (x : Int32) (p : Nat → Bool) : Prop := ∃ m, m < 64 ∧ x = nI m ∧ ∀ c, c < 6 → m.testBit c = p c
theorem hasM {F c : Nat} {x : Int32} {p : Nat → Bool} {h : PH} (u : maskOK x p) (hc : c < 6) : f_X10_has F x (nI c) h = some (b2i (p c), h) := by
  obtain ⟨m, hm, rfl, hp⟩ := u
  have := bit_has m hm c hc
  unfold f_X10_has
  rw [hp c hc] at this
  cases hv : p c with
  | true => rw [if_pos (this.mpr hv)]; rfl
  | false => rw [if_neg (fun q => by rw [this] at q; rw [hv] at q; exact absurd q (by decide))]; rfl
theorem mask_set {c : Nat} {x : Int32} {p : Nat → Bool} (u : maskOK x p) (hc : c < 6) : maskOK (x ||| ((1 : Int32) <<< (nI c &&& 31))) (va_up p c true) := by
  obtain ⟨m, hm, rfl, hp⟩ := u
  obtain ⟨b1, b2, b3⟩ := bit_set m hm c hc
  refine ⟨_, b2, b1, fun i hi => ?_⟩
  rw [b3 i hi, va_if, hp i hi]
theorem mask_clear {c : Nat} {x : Int32} {p : Nat → Bool} (u : maskOK x p) (hc : c < 6) : maskOK (x &&& (((1 : Int32) <<< (nI c &&& 31)) ^^^ (-1 : Int32))) (va_up p c false) := by
  obtain ⟨m, hm, rfl, hp⟩ := u
  obtain ⟨b1, b2, b3⟩ := bit_clear m hm c hc
  refine ⟨_, b2, b1, fun i hi => ?_⟩
  rw [b3 i hi, va_if, hp i hi]
-- frames
def FrM (h h' : PH) : Prop := (∀ a, a ≠ 102 → a ≠ 105 → a ≠ 116 → h'.1 a = h.1 a) ∧ (∀ i, i ≠ 1 → i ≠ 2 → h'.1 102 i = h.1 102 i) ∧ h'.2 = h.2
theorem FrM.refl (h : PH) : FrM h h := ⟨fun _ _ _ _ => rfl, fun _ _ _ => rfl, rfl⟩
theorem FrM.trans {h h1 h2 : PH} (a : FrM h h1) (b : FrM h1 h2) : FrM h h2 := ⟨fun x u v w => (b.1 x u v w).trans (a.1 x u v w), fun i u v => (b.2.1 i u v).trans (a.2.1 i u v), b.2.2.trans a.2.2⟩
theorem FrP.m {h h' : PH} (f : FrP h h') : FrM h h' := ⟨fun a _ _ w => f.1 a w, fun i _ _ => by rw [f.1 102 (by decide)], f.2⟩
theorem FrM.w5 {h : PH} {i : Nat} {x : Int32} : FrM h (wI h 105 i x) := ⟨fun _ _ v _ => rI_ne v, fun _ _ _ => by rw [rI_ne (by decide)], rfl⟩
theorem FrM.w2 {h : PH} {x : Int32} : FrM h (wI h 102 2 x) := ⟨fun _ u _ _ => rI_ne u, fun _ _ v => by rw [rI_sl v], rfl⟩
theorem FrM.w1 {h : PH} {x : Int32} : FrM h (wI h 102 1 x) := ⟨fun _ u _ _ => rI_ne u, fun _ u _ => by rw [rI_sl u], rfl⟩
def laidOK (h : PH) (g : SG) (b : Bn) : Prop := h.1 102 25 = 0 ∨ ∀ c, c < g.1 → ∃ fr, h.1 118 c = nI fr ∧ fr < 2 ^ 28 ∧ ∀ e, e < 800 → h.1 117 (800 * c + e) = nI (newsA b g c (fr + e))
def EnvM (h : PH) (g : SG) (b : BT) : Prop :=
  h.1 102 0 = nI g.1 ∧ g.1 ≤ 6 ∧ (∀ c, c < 6 → h.1 103 c = nI (g.2.1 c) ∧ g.2.1 c ≤ 6) ∧ (∀ c, c < 6 → h.1 104 c = nI (g.2.2.1 c) ∧ g.2.2.1 c ≤ 9) ∧ (∀ i, i < 24 → h.1 106 i = nI (g.2.2.2 i) ∧ g.2.2.2 i ≤ 9) ∧ HeldM h b ∧ laidOK h g (semB b)
def RepM (h : PH) (cs : CS) : Prop := h.1 102 2 = nI cs.1 ∧ maskOK (h.1 102 1) cs.2.2 ∧ ∀ c, c < 6 → h.1 105 c = nI (cs.2.1 c) ∧ cs.2.1 c ≤ cs.1
theorem HeldM.fr {h h' : PH} {b : BT} (e8 : h'.1 102 8 = h.1 102 8) (e0 : h'.1 108 = h.1 108) (e1 : h'.1 109 = h.1 109) (e2 : h'.1 110 = h.1 110) (e3 : h'.1 111 = h.1 111) (e4 : h'.1 112 = h.1 112) (e5 : h'.1 113 = h.1 113) (u : HeldM h b) : HeldM h' b := by
  unfold HeldM
  rw [e8]
  rcases u with u | ⟨j, u1, u2, u3⟩
  · exact Or.inl u
  · exact Or.inr ⟨j, u1, u2, MB_eq e0 e1 e2 e3 e4 e5 u3⟩
theorem FrM.env {h h' : PH} {g : SG} {b : BT} (f : FrM h h') (e : EnvM h g b) : EnvM h' g b := by
  have far : ∀ a, a ≠ 102 → a ≠ 105 → a ≠ 116 → h'.1 a = h.1 a := f.1
  unfold EnvM at e ⊢
  unfold laidOK at e ⊢
  rw [far 103 (by decide) (by decide) (by decide), far 104 (by decide) (by decide) (by decide), far 106 (by decide) (by decide) (by decide), far 117 (by decide) (by decide) (by decide), far 118 (by decide) (by decide) (by decide), f.2.1 0 (by decide) (by decide), f.2.1 25 (by decide) (by decide)]
  exact ⟨e.1, e.2.1, e.2.2.1, e.2.2.2.1, e.2.2.2.2.1, e.2.2.2.2.2.1.fr (f.2.1 8 (by decide) (by decide)) (far _ (by decide) (by decide) (by decide)) (far _ (by decide) (by decide) (by decide)) (far _ (by decide) (by decide) (by decide)) (far _ (by decide) (by decide) (by decide)) (far _ (by decide) (by decide) (by decide)) (far _ (by decide) (by decide) (by decide)), e.2.2.2.2.2.2⟩
theorem RepM.p {h h' : PH} {cs : CS} (f : FrP h h') (r : RepM h cs) : RepM h' cs := by
  unfold RepM at r ⊢
  rw [f.1 102 (by decide), f.1 105 (by decide)]; exact r
theorem newsOfM {F c d : Nat} {h : PH} {g : SG} {b : BT} (hF : 700 ≤ F) (e : EnvM h g b) (hc : c < g.1) (hd : d < 2 ^ 28) :
    ∃ h', f_X10_newsOf F (nI c) (nI d) h = some (nI (newsA (semB b) g c d), h') ∧ FrP h h' := by
  obtain ⟨e1, e2, e3, e4, e5, e6, e7⟩ := e
  have h6 : c < 6 := Nat.lt_of_lt_of_le hc e2
  have kv : KV h c (g.2.1 c) (g.2.2.1 c) := ⟨h6, (e3 c h6).1, (e3 c h6).2, (e4 c h6).1, (e4 c h6).2⟩
  obtain ⟨h1, n1, n2⟩ := newsNowM (F := F) hF (show d < 2 ^ 30 by omega) e6 kv
  rw [← newsA_sem] at n1
  unfold f_X10_newsOf
  rw [if_pos (inb_nI h6 (by decide))]
  by_cases hz : h.1 102 25 = 0
  · rw [if_pos hz, n1, bnd_some]
    exact ⟨h1, rfl, n2⟩
  · rw [if_neg hz, in_eq, bnd_some, ix_nI (by omega)]
    obtain ⟨fr, l1, l2, l3⟩ := (e7.resolve_left hz) c hc
    by_cases hw : wth (h.1 118 c |> fun x => nI d - x) 0 799 = 0
    · rw [if_pos hw, n1, bnd_some]
      exact ⟨h1, rfl, n2⟩
    · rw [if_neg hw]
      obtain ⟨q, hq, he⟩ := wth_N (m := 799) rfl (by decide) hw
      have he' : nI d - h.1 118 c = nI q := he
      have hs := congrArg Int32.toInt he'
      rw [l1, pk_sub_toInt (by omega) (by omega), nI_toInt (by omega)] at hs
      rw [he', show (800 : Int32) = nI 800 from rfl, pk_mul, nI_add, if_pos (inb_nI (by omega) (by decide)), ix_nI (by omega), l3 q (by omega), show fr + q = d by omega]
      exact ⟨h, rfl, FrP.refl h⟩
theorem minds45M {F c d : Nat} {h : PH} {g : SG} {b : BT} (hF : 700 ≤ F) (e : EnvM h g b) (hc : c < g.1) (hd : d < 2 ^ 28) :
    ∃ h', fL_X10_minds_45 F (nI c) (nI d) h = some (b2i (decide (g.2.2.1 c + 3 < newsA (semB b) g c d)), h') ∧ FrP h h' := by
  have h6 : c < 6 := Nat.lt_of_lt_of_le hc e.2.1
  obtain ⟨h1, n1, n2⟩ := newsOfM hF e hc hd
  have hl := newsA_lt (g := g) (c := c) (d := d) (semB_ok (HeldM_ok e.2.2.2.2.2.1))
  have hv := e.2.2.2.1 c h6
  refine ⟨h1, ?_, n2⟩
  unfold fL_X10_minds_45
  rw [n1, bnd_some, if_pos (inb_nI h6 (by decide)), ix_nI (by omega), n2.1 104 (by decide), hv.1, li3, nI_add, if_l (by omega) (by omega)]
  by_cases h8 : newsA (semB b) g c d ≤ g.2.2.1 c + 3
  · rw [if_pos h8, decide_eq_false (by omega)]; rfl
  · rw [if_neg h8, decide_eq_true (by omega)]; rfl
theorem mindsM {F c d : Nat} {h : PH} {g : SG} {b : BT} (hF : 700 ≤ F) (e : EnvM h g b) (hc : c < g.1) (hd : d < 2 ^ 28) :
    ∃ h', f_X10_minds F (nI c) (nI d) h = some (b2i (mindA (semB b) g c d), h') ∧ FrP h h' := by
  have h6 : c < 6 := Nat.lt_of_lt_of_le hc e.2.1
  have hi : inb (nI c) 6 = true := inb_nI h6 (by decide)
  have hk := e.2.2.1 c h6
  have hv := e.2.2.2.1 c h6
  obtain ⟨h1, n1, n2⟩ := minds45M hF e hc hd
  have hm := Nat.mod_lt d (show 0 < g.2.2.1 c + 2 by omega)
  unfold f_X10_minds mindA
  simp only [if_pos hi, ix_nI (show c < 2 ^ 31 by omega), hk.1, hv.1, n1]
  rw [li2, li5, nI_add, jrem_nI (by omega) (by omega) (by omega), if_neg (nI_ne0 (by omega) (by omega)), li0]
  simp only [if_e (show g.2.1 c < 2 ^ 31 by omega) (show 5 < 2 ^ 31 by decide), if_e (show g.2.1 c < 2 ^ 31 by omega) (show 2 < 2 ^ 31 by decide), if_e (show d % (g.2.2.1 c + 2) < 2 ^ 31 by omega) (show 0 < 2 ^ 31 by decide)]
  by_cases h5 : g.2.1 c = 5
  · rw [if_pos h5, if_neg (show ¬ g.2.1 c = 2 by omega), if_neg (show ¬ g.2.1 c = 2 by omega), if_pos h5, if_pos h5]
    by_cases h7 : d % (g.2.2.1 c + 2) = 0
    · rw [if_pos h7]
      exact ⟨h, by rw [show decide (d % (g.2.2.1 c + 2) ≠ 0) = false from decide_eq_false (fun q => q h7)]; rfl, FrP.refl h⟩
    · rw [if_neg h7]
      exact ⟨h1, by rw [show decide (d % (g.2.2.1 c + 2) ≠ 0) = true from decide_eq_true h7]; rfl, n2⟩
  · rw [if_neg h5, if_neg h5]
    by_cases h2 : g.2.1 c = 2
    · rw [if_pos h2, if_pos h2]
      exact ⟨h1, rfl, n2⟩
    · rw [if_neg h2, if_neg h2, if_neg h5]
      exact ⟨h, rfl, FrP.refl h⟩
