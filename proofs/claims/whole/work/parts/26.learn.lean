theorem clC_eq {h h' : PH} {z : Nat} (e0 : h'.1 z = h.1 z) (e1 : h'.1 (z + 1) = h.1 (z + 1)) (e2 : h'.1 (z + 2) = h.1 (z + 2)) (e3 : h'.1 (z + 3) = h.1 (z + 3)) : ∀ {l : List (Int × List Int)} {i s : Nat}, clC h z i s l → clC h' z i s l
  | [], _, _, u => by
    unfold clC at u ⊢
    rw [e0]; exact u
  | q :: l, i, s, u => by
    unfold clC at u ⊢
    rw [e1, e2, e3]
    exact ⟨u.1, u.2.1, u.2.2.1, u.2.2.2.1, clC_eq e0 e1 e2 e3 u.2.2.2.2⟩
theorem CB_eq {h h' : PH} {z : Nat} {b : BT} (e : ∀ a, 66 ≤ a → h'.1 a = h.1 a) (u : CB h z b) : CB h' z b := by
  have hz := isBench_or u.1
  exact ⟨u.1, by rw [e z (by omega)]; exact u.2.1, clC_eq (e z (by omega)) (e _ (by omega)) (e _ (by omega)) (e _ (by omega)) u.2.2⟩
def HeldC (h : PH) (b : BT) : Prop := match h.2.2 1 10 with | none => b = (10, []) | some z => CB h z b
theorem HeldC_eq {h h' : PH} {b : BT} (e : ∀ a, 66 ≤ a → h'.1 a = h.1 a) (e2 : h'.2.2 1 10 = h.2.2 1 10) (u : HeldC h b) : HeldC h' b := by
  unfold HeldC at u ⊢
  rw [e2]
  cases hz : h.2.2 1 10 with
  | none => rw [hz] at u; exact u
  | some z => rw [hz] at u; exact CB_eq e u
theorem HeldC_pace {h : PH} {b : BT} (u : HeldC h b) : paceC h 1 (semB b).1 := by
  unfold HeldC at u
  unfold paceC
  cases hz : h.2.2 1 10 with
  | none => rw [hz] at u; rw [u]; rfl
  | some z => rw [hz] at u; exact ⟨u.1, u.2.1⟩
theorem newsA_sem (b : BT) (g : SG) (c d : Nat) : newsA (semB b) g c d = (1 + sumA b.2 c (g.2.1 c) (g.2.2.1 c) d).toNat := by
  unfold newsA semB sumA
  rw [List.map_map]; rfl
def FrL (c : Nat) (h h' : PH) : Prop := (∀ a, a ≠ 15 → a ≠ 5 → h'.1 a = h.1 a) ∧ (∀ i, (i < c * 101 ∨ c * 101 + 101 ≤ i) → h'.1 5 i = h.1 5 i) ∧ h'.2 = h.2
theorem FrL.refl (c : Nat) (h : PH) : FrL c h h := ⟨fun _ _ _ => rfl, fun _ _ => rfl, rfl⟩
theorem FrL.trans {c : Nat} {h h1 h2 : PH} (a : FrL c h h1) (b : FrL c h1 h2) : FrL c h h2 := ⟨fun x u v => (b.1 x u v).trans (a.1 x u v), fun i u => (b.2.1 i u).trans (a.2.1 i u), b.2.2.trans a.2.2⟩
theorem FrL.w15 {c i : Nat} {h : PH} {x : Int32} : FrL c h (wI h 15 i x) := ⟨fun _ u _ => rI_ne u, fun _ _ => by rw [rI_ne (by decide)], rfl⟩
theorem FrL.w5 {c i : Nat} {h : PH} {x : Int32} (hi : i < 101) : FrL c h (wI h 5 (c * 101 + i) x) := ⟨fun _ _ u => rI_ne u, fun j u => by rw [rI_sl (by omega)], rfl⟩
theorem learnC_loop {F c : Nat} {h0 : PH} {g : SG} {b : BT} (hF : 200 ≤ F) (hc : c < 6) (hk : g.2.1 c ≤ 6) (hv : g.2.2.1 c ≤ 9) (ok : BTOK b) (hb : HeldC h0 b) : ∀ (j d f : Nat) (h : PH), d + j = 100 → j < f → FrL c h0 h → h.1 15 0 = nI c → h.1 15 1 = nI (g.2.1 c) → h.1 15 2 = nI (g.2.2.1 c) → (∀ i, i ≤ d → h.1 5 (c * 101 + i) = nI (preA (semB b) g c i)) →
    ∃ h', fL_X7_learn_45 F f (nI (c * 101)) (nI d) h = some ((), h') ∧ FrL c h0 h' ∧ ∀ i, i ≤ 100 → h'.1 5 (c * 101 + i) = nI (preA (semB b) g c i) := by
  intro j
  induction j with
  | zero =>
    intro d f h hd hf fr w0 w1 w2 hr
    obtain ⟨f, rfl⟩ : ∃ m, f = m + 1 := ⟨f - 1, by omega⟩
    rw [fL_X7_learn_45, show (100 : Int32) = nI 100 from rfl, if_l (by omega) (by omega), if_pos (by omega)]
    exact ⟨h, rfl, fr, fun i hi => hr i (by omega)⟩
  | succ j ih =>
    intro d f h hd hf fr w0 w1 w2 hr
    obtain ⟨f, rfl⟩ : ∃ m, f = m + 1 := ⟨f - 1, by omega⟩
    have n10 : ¬ (10 : Int32) = 0 := by decide
    have e1 : jrem (nI d) (10 : Int32) = nI (d % 10) := jrem_nI (by omega) (by decide) (by decide)
    have e2 : nI d / (10 : Int32) = nI (d / 10) := pk_div (by omega) (by decide) (by decide)
    rw [fL_X7_learn_45, show (100 : Int32) = nI 100 from rfl, if_l (by omega) (by omega), if_neg (by omega), if_neg n10, if_pos (show inb (3 : Int32) 6 = true by decide), lth_eq, if_neg n10, if_pos (show inb (4 : Int32) 6 = true by decide), lth_eq, if_pos (show inb (5 : Int32) 6 = true by decide), lth_eq, e1, e2,
      show ix (3 : Int32) = 3 from rfl, show ix (4 : Int32) = 4 from rfl, show ix (5 : Int32) = 5 from rfl]
    generalize hh : wI (wI (wI h 15 3 (nI (d % 10))) 15 4 (nI (d / 10))) 15 5 (nI d) = h8
    have fr8 : FrL c h h8 := by rw [← hh]; exact (FrL.w15.trans FrL.w15).trans FrL.w15
    have fr0 := fr.trans fr8
    have w : worthOK h8 c (g.2.1 c) (g.2.2.1 c) d := by
      refine ⟨hc, hk, hv, by omega, fun f hf => ?_⟩
      rw [← hh]
      have : f = 0 ∨ f = 1 ∨ f = 2 ∨ f = 3 ∨ f = 4 ∨ f = 5 := by omega
      rcases this with rfl | rfl | rfl | rfl | rfl | rfl
      · rw [rI_sl (by decide), rI_sl (by decide), rI_sl (by decide)]; exact w0
      · rw [rI_sl (by decide), rI_sl (by decide), rI_sl (by decide)]; exact w1
      · rw [rI_sl (by decide), rI_sl (by decide), rI_sl (by decide)]; exact w2
      · rw [rI_sl (by decide), rI_sl (by decide), rI_eq]; rfl
      · rw [rI_sl (by decide), rI_eq]
        show nI (d / 10) = nI (d / 10 % 10)
        rw [Nat.mod_eq_of_lt (show d / 10 < 10 by omega)]
      · rw [rI_eq]
        show nI d = nI (d % 100)
        rw [Nat.mod_eq_of_lt (show d < 100 by omega)]
    have hh8 : h8.1 5 = h.1 5 := by rw [← hh, rI_ne (by decide), rI_ne (by decide), rI_ne (by decide)]
    have key : ∃ h', fL_X7_learn_100 F (fun x11 x12 h13 => fL_X7_learn_45 F f x11 x12 h13) (nI (c * 101)) (nI d) (nI (newsA (semB b) g c d)) h8 = some ((), h') ∧ FrL c h0 h' ∧ ∀ i, i ≤ 100 → h'.1 5 (c * 101 + i) = nI (preA (semB b) g c i) := by
      unfold fL_X7_learn_100
      rw [nI_add, nI_1, nI_1, if_pos (inb_nI (by omega) (by decide)), if_pos (inb_nI (by omega) (by decide)), ix_nI (by omega), ix_nI (by omega), lth_eq, hh8, hr d (Nat.le_refl _), nI_add]
      refine ih (d + 1) f _ (by omega) (by omega) (fr0.trans (FrL.w5 (i := d + 1) (by omega))) ?_ ?_ ?_ (fun i hi => ?_)
      · rw [rI_ne (by decide)]; exact w.2.2.2.2 0 (by decide)
      · rw [rI_ne (by decide)]; exact w.2.2.2.2 1 (by decide)
      · rw [rI_ne (by decide)]; exact w.2.2.2.2 2 (by decide)
      · rw [Nat.add_assoc, rI]
        by_cases hi2 : i = d + 1
        · subst hi2; rw [if_pos ⟨rfl, rfl⟩]; rfl
        · rw [if_neg (by omega), hh8]; exact hr i (by omega)
    have hb8 : HeldC h8 b := HeldC_eq (fun a ha => fr0.1 a (by omega) (by omega)) (by rw [fr0.2.2]) hb
    unfold HeldC at hb8
    cases hz : h8.2.2 1 10 with
    | none =>
      rw [hz] at hb8
      rw [omat_none]
      rw [show newsA (semB b) g c d = 1 by rw [newsA_sem, hb8]; rfl] at key
      exact key
    | some z =>
      rw [hz] at hb8
      have hlen := clC_len hb8.2.2
      have h10 : b.2.length ≤ 10 := ok.2.2.1
      rw [omat_some, omat_some, if_pos hb8.1]
      unfold f_X2_newsBy
      rw [if_pos hb8.1, show (1 : Int32) = Int32.ofInt 1 from rfl, li0, newsByC_loop hF hb8.1 w hlen (by omega) b.2 0 0 F 1 rfl (by omega) (by omega) (by omega) (by omega) ok.2.2.2 hb8.2.2, bnd_some, ← newsA_sem]
      exact key
theorem learnC {F c : Nat} {h : PH} {g : SG} {b : BT} (hF : 200 ≤ F) (hc : c < 6) (hk : h.1 2 c = nI (g.2.1 c) ∧ g.2.1 c ≤ 6) (hv : h.1 3 c = nI (g.2.2.1 c) ∧ g.2.2.1 c ≤ 9) (ok : BTOK b) (hb : HeldC h b) :
    ∃ h', f_X7_learn F (nI c) h = some ((), h') ∧ FrL c h h' ∧ ∀ i, i ≤ 100 → h'.1 5 (c * 101 + i) = nI (preA (semB b) g c i) := by
  unfold f_X7_learn
  have hi : inb (nI c) 6 = true := inb_nI hc (by decide)
  rw [show (101 : Int32) = nI 101 from rfl, pk_mul, if_pos (show inb (0 : Int32) 6 = true by decide), lth_eq, if_pos hi, if_pos (show inb (1 : Int32) 6 = true by decide), lth_eq, if_pos hi, if_pos (show inb (2 : Int32) 6 = true by decide), lth_eq, if_pos (inb_nI (by omega) (by decide)), lth_eq, ix_nI (by omega), ix_nI (by omega),
    show ix (0 : Int32) = 0 from rfl, show ix (1 : Int32) = 1 from rfl, show ix (2 : Int32) = 2 from rfl]
  refine learnC_loop hF hc hk.2 hv.2 ok hb 100 0 F _ rfl (by omega) (((FrL.w15.trans FrL.w15).trans FrL.w15).trans (FrL.w5 (i := 0) (by omega))) ?_ ?_ ?_ (fun i hi => ?_)
  · rw [rI_ne (by decide), rI_sl (by decide), rI_sl (by decide), rI_eq]
  · rw [rI_ne (by decide), rI_sl (by decide), rI_eq, rI_ne (by decide)]; exact hk.1
  · rw [rI_ne (by decide), rI_eq, rI_ne (by decide), rI_ne (by decide)]; exact hv.1
  · have : i = 0 := by omega
    subst this
    rw [Nat.add_zero, rI_eq]; rfl
