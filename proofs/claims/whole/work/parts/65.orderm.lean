-- SOONEST: the model
def FrY (o o' : PH) : Prop := (∀ a, a ≠ 102 → a ≠ 116 → a ≠ 117 → a ≠ 118 → o'.1 a = o.1 a) ∧ (∀ i, i ≠ 25 → o'.1 102 i = o.1 102 i) ∧ o'.2 = o.2
theorem FrY.refl (o : PH) : FrY o o := ⟨fun _ _ _ _ _ => rfl, fun _ _ => rfl, rfl⟩
theorem FrY.trans {o o1 o2 : PH} (a : FrY o o1) (b : FrY o1 o2) : FrY o o2 := ⟨fun x u v w y => (b.1 x u v w y).trans (a.1 x u v w y), fun i u => (b.2.1 i u).trans (a.2.1 i u), b.2.2.trans a.2.2⟩
theorem FrP.y {o o' : PH} (f : FrP o o') : FrY o o' := ⟨fun a _ v _ _ => f.1 a v, fun i _ => by rw [f.1 102 (by decide)], f.2⟩
theorem FrY.w {o : PH} {a i : Nat} {x : Int32} (ha : a = 117 ∨ a = 118) : FrY o (wI o a i x) := ⟨fun b u v w y => rI_ne (by omega), fun j _ => by rw [rI_ne (by omega)], rfl⟩
theorem FrY.env0 {o o' : PH} {g : SG} {b : BT} (f : FrY o o') (e : EnvM o g b) (l0 : o'.1 102 25 = 0) : EnvM o' g b := by
  obtain ⟨m1, m2, m3, m4, m5, m6, m7⟩ := e
  exact ⟨by rw [f.2.1 0 (by decide)]; exact m1, m2, by rw [f.1 103 (by decide) (by decide) (by decide) (by decide)]; exact m3, by rw [f.1 104 (by decide) (by decide) (by decide) (by decide)]; exact m4, by rw [f.1 106 (by decide) (by decide) (by decide) (by decide)]; exact m5, m6.fr (f.2.1 8 (by decide)) (f.1 _ (by decide) (by decide) (by decide) (by decide)) (f.1 _ (by decide) (by decide) (by decide) (by decide)) (f.1 _ (by decide) (by decide) (by decide) (by decide)) (f.1 _ (by decide) (by decide) (by decide) (by decide)) (f.1 _ (by decide) (by decide) (by decide) (by decide)) (f.1 _ (by decide) (by decide) (by decide) (by decide)), Or.inl l0⟩
theorem FrY.rep {o o' : PH} {cs : CS} (f : FrY o o') (r : RepM o cs) : RepM o' cs := by
  unfold RepM at r ⊢
  rw [f.2.1 2 (by decide), f.2.1 1 (by decide), f.1 105 (by decide) (by decide) (by decide) (by decide)]; exact r
theorem layIn {F c : Nat} {K : Int32 → PH → Option (Unit × PH)} {g : SG} {b : BT} {cs : CS} {o0 : PH} (hF : 1000 ≤ F) (hc : c < g.1) (ht : cs.1 ≤ 9999) (e0 : EnvM o0 g b) (r0 : RepM o0 cs) (l0 : o0.1 102 25 = 0) : ∀ (j k f : Nat) (o : PH), k + j = 800 → j < f → FrY o0 o → o.1 102 25 = 0 →
    ∃ o', fL_X10_layNews_24 F K f (nI c) (nI k) o = K (nI c) o' ∧ FrY o o' ∧ o'.1 102 25 = 0 ∧ o'.1 118 = o.1 118 ∧ (∀ i, (i < 800 * c + k ∨ 800 * c + 800 ≤ i) → o'.1 117 i = o.1 117 i) ∧ ∀ e, k ≤ e → e < 800 → o'.1 117 (800 * c + e) = nI (newsA (semB b) g c (cs.2.1 c + e)) := by
  have h6 : c < 6 := Nat.lt_of_lt_of_le hc e0.2.1
  intro j
  induction j with
  | zero =>
    intro k f o hk hf fr l
    obtain ⟨f, rfl⟩ : ∃ m, f = m + 1 := ⟨f - 1, by omega⟩
    exact ⟨o, by rw [fL_X10_layNews_24, show (800 : Int32) = nI 800 from rfl, if_l (by decide) (by omega), if_pos (show 800 ≤ k by omega)], FrY.refl o, l, rfl, fun _ _ => rfl, fun e h1 h2 => absurd h2 (by omega)⟩
  | succ j ih =>
    intro k f o hk hf fr l
    obtain ⟨f, rfl⟩ : ∃ m, f = m + 1 := ⟨f - 1, by omega⟩
    have e := fr.env0 e0 l
    have r := fr.rep r0
    have hr := r.2.2 c h6
    have kv : KV o c (g.2.1 c) (g.2.2.1 c) := ⟨h6, (e.2.2.1 c h6).1, (e.2.2.1 c h6).2, (e.2.2.2.1 c h6).1, (e.2.2.2.1 c h6).2⟩
    obtain ⟨o1, n1, n2⟩ := newsNowM (F := F) (d := cs.2.1 c + k) (by omega) (by omega) e.2.2.2.2.2.1 kv
    rw [← newsA_sem] at n1
    have fy : FrY o (wI o1 117 (800 * c + k) (nI (newsA (semB b) g c (cs.2.1 c + k)))) := n2.y.trans (FrY.w (by omega))
    have l1 : (wI o1 117 (800 * c + k) (nI (newsA (semB b) g c (cs.2.1 c + k)))).1 102 25 = 0 := by rw [rI_ne (by decide), n2.1 102 (by decide)]; exact l
    obtain ⟨o', a1, a2, a3, a4, a5, a6⟩ := ih (k + 1) f _ (by omega) (by omega) (fr.trans fy) l1
    refine ⟨o', ?_, fy.trans a2, a3, by rw [a4, rI_ne (by decide), n2.1 118 (by decide)], fun i hi => ?_, fun e h1 h2 => ?_⟩
    · rw [fL_X10_layNews_24, show (800 : Int32) = nI 800 from rfl, if_l (by decide) (by omega), if_neg (show ¬ 800 ≤ k by omega), if_pos (inb_nI h6 (by decide)), ix_nI (by omega), hr.1, nI_add, n1, bnd_some, pk_mul, nI_add, if_pos (inb_nI (show 800 * c + k < 4800 by omega) (by decide)), lth_eq, ix_nI (by omega), nI_1]
      exact a1
    · rw [a5 i (by omega), rI_sl (by omega), n2.1 117 (by decide)]
    · by_cases hek : e = k
      · subst hek
        rw [a5 _ (by omega), rI_eq]
      · exact a6 e (by omega) h2
theorem layOut {F : Nat} {g : SG} {b : BT} {cs : CS} {o0 : PH} (hF : 1000 ≤ F) (ht : cs.1 ≤ 9999) (e0 : EnvM o0 g b) (r0 : RepM o0 cs) (l0 : o0.1 102 25 = 0) : ∀ (j c f : Nat) (o : PH), c + j = g.1 → j < f → FrY o0 o → o.1 102 25 = 0 → (∀ i, i < c → o.1 118 i = nI (cs.2.1 i) ∧ ∀ e, e < 800 → o.1 117 (800 * i + e) = nI (newsA (semB b) g i (cs.2.1 i + e))) →
    ∃ o', fL_X10_layNews_2 F f (nI c) o = some ((), o') ∧ FrY o0 o' ∧ ∀ i, i < g.1 → o'.1 118 i = nI (cs.2.1 i) ∧ ∀ e, e < 800 → o'.1 117 (800 * i + e) = nI (newsA (semB b) g i (cs.2.1 i + e)) := by
  have hg := e0.2.1
  intro j
  induction j with
  | zero =>
    intro c f o hc hf fr l hs
    obtain ⟨f, rfl⟩ : ∃ m, f = m + 1 := ⟨f - 1, by omega⟩
    refine ⟨wI o 102 25 1, by rw [fL_X10_layNews_2, fr.2.1 0 (by decide), e0.1, if_l (by omega) (by omega), if_pos (show g.1 ≤ c by omega), lth_eq], fr.trans ⟨fun a u _ _ _ => rI_ne u, fun i u => rI_sl u, rfl⟩, fun i hi => ?_⟩
    rw [rI_ne (by decide), rI_ne (by decide)]
    exact hs i (by omega)
  | succ j ih =>
    intro c f o hc hf fr l hs
    obtain ⟨f, rfl⟩ : ∃ m, f = m + 1 := ⟨f - 1, by omega⟩
    have r := fr.rep r0
    have hr := (r.2.2 c (by omega)).1
    have f1 : FrY o0 (wI o 118 c (nI (cs.2.1 c))) := fr.trans (FrY.w (by omega))
    have l1 : (wI o 118 c (nI (cs.2.1 c))).1 102 25 = 0 := by rw [rI_ne (by decide)]; exact l
    obtain ⟨o1, a1, a2, a3, a4, a5, a6⟩ := layIn (F := F) (c := c) (K := fun (x7 : Int32) (h8 : PH) => (fL_X10_layNews_2 F f (x7 + (1 : Int32)) h8)) hF (by omega) ht e0 r0 l0 800 0 F (wI o 118 c (nI (cs.2.1 c))) rfl (by omega) f1 l1
    obtain ⟨o', b1, b2, b3⟩ := ih (c + 1) f o1 (by omega) (by omega) (f1.trans a2) a3 (fun i hi => by
      rw [a4]
      by_cases hic : i = c
      · subst hic
        exact ⟨rI_eq _ _ _ _, fun e he => a6 e (by omega) he⟩
      · refine ⟨by rw [rI_sl hic]; exact (hs i (by omega)).1, fun e he => ?_⟩
        rw [a5 (800 * i + e) (by omega), rI_ne (by decide)]
        exact (hs i (by omega)).2 e he)
    refine ⟨o', ?_, b2, b3⟩
    rw [fL_X10_layNews_2, fr.2.1 0 (by decide), e0.1, if_l (by omega) (by omega), if_neg (show ¬ g.1 ≤ c by omega), if_pos (inb_nI (show c < 6 by omega) (by decide)), if_pos (inb_nI (show c < 6 by omega) (by decide)), lth_eq, ix_nI (by omega), hr, show fL_X10_layNews_24 F (fun (x7 : Int32) (h8 : PH) => (fL_X10_layNews_2 F f (x7 + (1 : Int32)) h8)) F (nI c) (0 : Int32) (wI o 118 c (nI (cs.2.1 c))) = _ from a1, nI_1]
    exact b1
theorem layM {F : Nat} {g : SG} {b : BT} {cs : CS} {o : PH} (hF : 1000 ≤ F) (ht : cs.1 ≤ 9999) (e : EnvM o g b) (r : RepM o cs) (l : o.1 102 25 = 0) : ∃ o', f_X10_layNews F o = some ((), o') ∧ FrY o o' ∧ EnvM o' g b ∧ RepM o' cs := by
  have hg := e.2.1
  obtain ⟨o', a1, a2, a3⟩ := layOut (F := F) hF ht e r l g.1 0 F o (by omega) (by omega) (FrY.refl o) l (fun i hi => absurd hi (by omega))
  refine ⟨o', a1, a2, ?_, a2.rep r⟩
  obtain ⟨m1, m2, m3, m4, m5, m6, m7⟩ := e
  refine ⟨by rw [a2.2.1 0 (by decide)]; exact m1, m2, by rw [a2.1 103 (by decide) (by decide) (by decide) (by decide)]; exact m3, by rw [a2.1 104 (by decide) (by decide) (by decide) (by decide)]; exact m4, by rw [a2.1 106 (by decide) (by decide) (by decide) (by decide)]; exact m5, m6.fr (a2.2.1 8 (by decide)) (a2.1 _ (by decide) (by decide) (by decide) (by decide)) (a2.1 _ (by decide) (by decide) (by decide) (by decide)) (a2.1 _ (by decide) (by decide) (by decide) (by decide)) (a2.1 _ (by decide) (by decide) (by decide) (by decide)) (a2.1 _ (by decide) (by decide) (by decide) (by decide)) (a2.1 _ (by decide) (by decide) (by decide) (by decide)), Or.inr (fun c hc => ⟨cs.2.1 c, (a3 c hc).1, ?_, (a3 c hc).2⟩)⟩
  have := (r.2.2 c (by omega)).2
  omega
-- what the tries leave alone
def FrS (o o' : PH) : Prop := (∀ a, a ≠ 102 → a ≠ 105 → a ≠ 116 → a ≠ 119 → a ≠ 120 → a ≠ 121 → o'.1 a = o.1 a) ∧ (∀ i, i ≠ 1 → i ≠ 2 → i ≠ 28 → i ≠ 29 → o'.1 102 i = o.1 102 i) ∧ o'.2 = o.2
theorem FrS.refl (o : PH) : FrS o o := ⟨fun _ _ _ _ _ _ _ => rfl, fun _ _ _ _ _ => rfl, rfl⟩
theorem FrS.trans {o o1 o2 : PH} (a : FrS o o1) (b : FrS o1 o2) : FrS o o2 := ⟨fun x u1 u2 u3 u4 u5 u6 => (b.1 x u1 u2 u3 u4 u5 u6).trans (a.1 x u1 u2 u3 u4 u5 u6), fun i u1 u2 u3 u4 => (b.2.1 i u1 u2 u3 u4).trans (a.2.1 i u1 u2 u3 u4), b.2.2.trans a.2.2⟩
theorem FrQ.s {o o' : PH} (f : FrQ o o') : FrS o o' := ⟨fun a u1 u2 u3 u4 _ _ => f.1 a u1 u2 u3 u4, f.2.1, f.2.2⟩
theorem FrS.w {o : PH} {a i : Nat} {x : Int32} (ha : a = 120 ∨ a = 121) : FrS o (wI o a i x) := ⟨fun b _ _ _ _ u5 u6 => rI_ne (by omega), fun j _ _ _ _ => by rw [rI_ne (by omega)], rfl⟩
theorem FrS.env {o o' : PH} {g : SG} {b : BT} (f : FrS o o') (e : EnvM o g b) : EnvM o' g b := by
  have far : ∀ a, (103 ≤ a ∧ a ≤ 118) → a ≠ 105 → a ≠ 116 → o'.1 a = o.1 a := fun a h1 h2 h3 => f.1 a (by omega) h2 h3 (by omega) (by omega) (by omega)
  unfold EnvM at e ⊢
  unfold laidOK at e ⊢
  rw [far 103 (by decide) (by decide) (by decide), far 104 (by decide) (by decide) (by decide), far 106 (by decide) (by decide) (by decide), far 117 (by decide) (by decide) (by decide), far 118 (by decide) (by decide) (by decide), f.2.1 0 (by decide) (by decide) (by decide) (by decide), f.2.1 25 (by decide) (by decide) (by decide) (by decide)]
  exact ⟨e.1, e.2.1, e.2.2.1, e.2.2.2.1, e.2.2.2.2.1, e.2.2.2.2.2.1.fr (f.2.1 8 (by decide) (by decide) (by decide) (by decide)) (far _ (by decide) (by decide) (by decide)) (far _ (by decide) (by decide) (by decide)) (far _ (by decide) (by decide) (by decide)) (far _ (by decide) (by decide) (by decide)) (far _ (by decide) (by decide) (by decide)) (far _ (by decide) (by decide) (by decide)), e.2.2.2.2.2.2⟩
theorem RepM.w {o : PH} {a i : Nat} {x : Int32} {cs : CS} (ha : a = 120 ∨ a = 121) (r : RepM o cs) : RepM (wI o a i x) cs := by
  unfold RepM at r ⊢
  rw [rI_ne (by omega), rI_ne (by omega)]; exact r
theorem FrS.km {o o' : PH} (f : FrS o o') : KM o o' := ⟨fun a ha => f.1 a (by omega) (by omega) (by omega) (by omega) (by omega) (by omega), fun i hi => f.2.1 i (by omega) (by omega) (by omega) (by omega), f.2.2⟩
theorem FrY.km {o o' : PH} (f : FrY o o') : KM o o' := ⟨fun a ha => f.1 a (by omega) (by omega) (by omega) (by omega), fun i hi => f.2.1 i (by omega), f.2.2⟩
-- a row out of its number
theorem getD_cons_succ {x : Nat} {t : List Nat} {k : Nat} : (x :: t).getD (k + 1) 0 = t.getD k 0 := by simp [List.getD]
theorem layT {F n : Nat} (hn : n ≤ 6) : ∀ (j f rest used : Nat) (t : List Nat) (o : PH), j + t.length = n → j < f → o.1 102 0 = nI n → okL n t = true → used < 64 → (∀ i, i < 6 → used.testBit i = decide (i ∈ t)) → (∀ k, k < t.length → o.1 120 (j + k) = nI (t.getD k 0)) → rest < 2 ^ 30 →
    ∃ o', fL_X10_layTurn_12 F f (nI rest) (nI used) (nI j + (-1 : Int32)) o = some (b2i (okL n (digs 6 j rest ++ t)), o') ∧ (∀ a, a ≠ 120 → o'.1 a = o.1 a) ∧ o'.2 = o.2 ∧ (okL n (digs 6 j rest ++ t) = true → ∀ k, k < n → o'.1 120 k = nI ((digs 6 j rest ++ t).getD k 0)) := by
  intro j
  induction j with
  | zero =>
    intro f rest used t o hj hf h0 ok hu hb ht hr
    obtain ⟨f, rfl⟩ : ∃ m, f = m + 1 := ⟨f - 1, by omega⟩
    refine ⟨o, ?_, fun _ _ => rfl, rfl, fun _ k hk => ?_⟩
    · rw [fL_X10_layTurn_12, if_pos (show nI 0 + (-1 : Int32) < 0 by decide)]
      show some (1, o) = some (b2i (okL n t), o)
      rw [ok]; rfl
    · have := ht k (by omega)
      rw [Nat.zero_add] at this
      exact this
  | succ j ih =>
    intro f rest used t o hj hf h0 ok hu hb ht hr
    obtain ⟨f, rfl⟩ : ∃ m, f = m + 1 := ⟨f - 1, by omega⟩
    have hd : digs 6 (j + 1) rest ++ t = digs 6 j (rest / 6) ++ (rest % 6 :: t) := by
      show (digs 6 j (rest / 6) ++ [rest % 6]) ++ t = _
      rw [List.append_assoc]; rfl
    have hm := Nat.mod_lt rest (show 0 < 6 by decide)
    have hin : inb (nI j) 6 = true := inb_nI (by omega) (by decide)
    have okc : okL n (rest % 6 :: t) = (okL n t && (decide (rest % 6 < n) && decide (¬ rest % 6 ∈ t))) := rfl
    have n6 : ¬ (6 : Int32) = 0 := by decide
    have ej : jrem (nI rest) (6 : Int32) = nI (rest % 6) := jrem_nI (by omega) (by decide) (by decide)
    have ed : nI rest / (6 : Int32) = nI (rest / 6) := pk_div (by omega) (by decide) (by decide)
    have mk : maskOK (nI used) (fun i => decide (i ∈ t)) := ⟨used, hu, rfl, hb⟩
    rw [hd, fL_X10_layTurn_12, nI_m1, if_neg (nI_pos (show j < 2 ^ 31 by omega)), if_neg n6, if_pos hin, lth_eq, ix_nI (by omega), ej, ed, if_neg n6, rI_ne (show (102 : Nat) ≠ 120 by decide), h0, rI_eq, if_l (by omega) (by omega)]
    simp only [if_pos hin]
    by_cases hlt : n ≤ rest % 6
    · rw [if_pos hlt]
      have bad : okL n (rest % 6 :: t) = false := by rw [okc, decide_eq_false (show ¬ rest % 6 < n by omega)]; simp
      refine ⟨wI o 120 j (nI (rest % 6)), by rw [okL_bad bad]; rfl, fun a u => rI_ne u, rfl, fun q => ?_⟩
      rw [okL_bad bad] at q
      exact absurd q (by decide)
    · rw [if_neg hlt, hasM mk (by omega), bnd_some]
      by_cases hin2 : rest % 6 ∈ t
      · have bad : okL n (rest % 6 :: t) = false := by rw [okc]; simp [hin2]
        rw [show b2i (decide (rest % 6 ∈ t)) = 1 by rw [decide_eq_true hin2]; rfl, if_neg (show ¬ (1 : Int32) = 0 by decide)]
        refine ⟨wI o 120 j (nI (rest % 6)), by rw [okL_bad bad]; rfl, fun a u => rI_ne u, rfl, fun q => ?_⟩
        rw [okL_bad bad] at q
        exact absurd q (by decide)
      · have good : okL n (rest % 6 :: t) = true := by rw [okc, ok]; simp [hin2]; omega
        have hset := bit_set used hu (rest % 6) (by omega)
        rw [show b2i (decide (rest % 6 ∈ t)) = 0 by rw [decide_eq_false hin2]; rfl, if_pos (show (0 : Int32) = 0 from rfl), rI_eq, hset.1]
        obtain ⟨o', a1, a2, a3, a4⟩ := ih f (rest / 6) (used ||| 2 ^ (rest % 6)) (rest % 6 :: t) (wI o 120 j (nI (rest % 6))) (by rw [List.length_cons]; omega) (by omega) (by rw [rI_ne (by decide)]; exact h0) good hset.2.1 (fun i hi => by
          rw [hset.2.2 i hi]
          by_cases hie : i = rest % 6
          · rw [if_pos hie, hie]; simp
          · rw [if_neg hie, hb i hi]; simp [hie]) (fun k hk => by
          cases k with
          | zero => rw [Nat.add_zero, rI_eq]; rfl
          | succ k =>
            rw [List.length_cons] at hk
            have := ht k (by omega)
            rw [rI_sl (by omega), getD_cons_succ, show j + (k + 1) = j + 1 + k by omega]; exact this) (by omega)
        exact ⟨o', a1, fun a u => (a2 a u).trans (rI_ne u), a3, a4⟩
theorem goWholeM {F c : Nat} {h0 : PH} {g : SG} {b : BT} (hF : 700 ≤ F) (hc : c < g.1) (e0 : EnvM h0 g b) : ∀ (j i f : Nat) (cs : CS) (h : PH), i + j = 20 → j < f → cs.1 < 2 ^ 20 + i → FrM h0 h → RepM h cs → ∃ h', fL_X10_goWhole_2 F f (nI c) (nI i) h = some (nI (goW (semB b) g c j i cs).1, h') ∧ FrM h0 h' ∧ RepM h' (goW (semB b) g c j i cs).2 := by
  have h6 : c < 6 := Nat.lt_of_lt_of_le hc e0.2.1
  intro j
  induction j with
  | zero =>
    intro i f cs h hi hf ht fr r
    obtain ⟨f, rfl⟩ : ∃ m, f = m + 1 := ⟨f - 1, by omega⟩
    rw [fL_X10_goWhole_2, show (20 : Int32) = nI 20 from rfl, if_l (by decide) (by omega), if_pos (show 20 ≤ i by omega)]
    exact ⟨h, rfl, fr, r⟩
  | succ j ih =>
    intro i f cs h hi hf ht fr r
    obtain ⟨f, rfl⟩ : ∃ m, f = m + 1 := ⟨f - 1, by omega⟩
    rw [fL_X10_goWhole_2, show (20 : Int32) = nI 20 from rfl, if_l (by decide) (by omega), if_neg (show ¬ 20 ≤ i by omega), isUpM r h6 (by omega), bnd_some]
    unfold goW
    by_cases hu : cs.2.1 c = cs.1
    · rw [decide_eq_true hu, if_neg (show ¬ b2i true = 0 by decide), if_pos hu]
      exact ⟨h, rfl, fr, r⟩
    · rw [decide_eq_false hu, if_pos (show b2i false = 0 by decide), if_neg hu, hasM r.2.1 h6, bnd_some]
      cases hb : cs.2.2 c with
      | true =>
        rw [if_neg (show ¬ b2i true = 0 by decide), if_pos (show true = true from rfl)]
        exact ⟨h, rfl, fr, r⟩
      | false =>
        rw [if_pos (show b2i false = 0 by decide), if_neg (show ¬ false = true by decide)]
        obtain ⟨h1, e1, e2, e3⟩ := eveningM (F := F) hF hc (fr.env e0) r (by omega)
        rw [e1, bnd_some, nI_1]
        exact ih (i + 1) f _ h1 (by omega) (by omega) (by rw [evening_1]; omega) (fr.trans e2) e3
theorem turnM_loop {F n : Nat} {h0 : PH} {g : SG} {b : BT} {cs0 : CS} (hF : 700 ≤ F) (hn : g.1 = n) (e0 : EnvM h0 g b) : ∀ (t : List Nat) (i f : Nat) (x : Nat × CS) (h : PH), i + t.length = n → t.length < f → x.2.1 ≤ 20000 + 20 * i → x.1 ≤ 20 * i → (∀ c ∈ t, c < n) → (∀ k, k < t.length → h0.1 120 (i + k) = nI (t.getD k 0)) → FrM h0 h → RepM h x.2 → KeptM h cs0 →
    ∃ h', fL_X10_goTurn_8 F f (nI x.1) (nI i) h = some (nI (runW (semB b) g t x).1, h') ∧ FrM h0 h' ∧ RepM h' cs0 := by
  have hg := e0.2.1
  intro t
  induction t with
  | nil =>
    intro i f x h hi hf ht hx hc h120 fr r k
    obtain ⟨f, rfl⟩ : ∃ m, f = m + 1 := ⟨f - 1, by omega⟩
    have e := fr.env e0
    obtain ⟨h1, b1, b2, b3, b4⟩ := backM (F := F) (by omega) k
    simp only [List.length_nil] at hi
    refine ⟨h1, ?_, fr.trans b2, b3⟩
    rw [fL_X10_goTurn_8, e.1, if_l (by omega) (by omega), if_pos (show g.1 ≤ i by omega), b1, bnd_some]
    rfl
  | cons c t ih =>
    intro i f x h hi hf ht hx hc h120 fr r k
    rw [List.length_cons] at hi hf h120
    obtain ⟨f, rfl⟩ : ∃ m, f = m + 1 := ⟨f - 1, by omega⟩
    have e := fr.env e0
    have hcn := hc c List.mem_cons_self
    have h0i : h.1 120 i = nI c := by
      rw [fr.1 120 (by decide) (by decide) (by decide)]
      have := h120 0 (by omega)
      rw [Nat.add_zero] at this
      exact this
    obtain ⟨h1, a1, a2, a3⟩ := goWholeM (F := F) (c := c) hF (by omega) e 20 0 F x.2 h rfl (by omega) (by omega) (FrM.refl h) r
    have a1' : f_X10_goWhole F (nI c) h = some (nI (goW (semB b) g c 20 0 x.2).1, h1) := a1
    have hle := goW_le (b := semB b) (g := g) (c := c) 20 0 x.2
    obtain ⟨h', d1, d2, d3⟩ := ih (i + 1) f (x.1 + (goW (semB b) g c 20 0 x.2).1, (goW (semB b) g c 20 0 x.2).2) h1 (by omega) (by omega) (by show (goW (semB b) g c 20 0 x.2).2.1 ≤ _; omega) (by show x.1 + (goW (semB b) g c 20 0 x.2).1 ≤ _; omega) (fun d hd => hc d (List.mem_cons_of_mem _ hd)) (fun k hk => by
      have := h120 (k + 1) (by omega)
      rw [getD_cons_succ] at this
      rw [show i + 1 + k = i + (k + 1) by omega]; exact this) (fr.trans a2) a3 (k.fr a2)
    refine ⟨h', ?_, d2, d3⟩
    rw [fL_X10_goTurn_8, e.1, if_l (by omega) (by omega), if_neg (show ¬ g.1 ≤ i by omega), if_pos (inb_nI (show i < 6 by omega) (by decide)), ix_nI (by omega), h0i, a1', bnd_some, nI_add, nI_1]
    exact d1
theorem okL_lt {n : Nat} : ∀ {l : List Nat}, okL n l = true → ∀ c ∈ l, c < n
  | [], _, c, hc => absurd hc List.not_mem_nil
  | x :: l, h, c, hc => by
    have h' : (okL n l && (decide (x < n) && decide (¬ x ∈ l))) = true := h
    rw [Bool.and_eq_true, Bool.and_eq_true, decide_eq_true_eq] at h'
    rcases List.mem_cons.mp hc with rfl | hc
    · exact h'.2.1
    · exact okL_lt h'.1 c hc
theorem goTurnM {F : Nat} {o : PH} {g : SG} {b : BT} {cs : CS} {l : List Nat} (hF : 700 ≤ F) (e : EnvM o g b) (r : RepM o cs) (ht : cs.1 ≤ 9999) (hl : l.length = g.1) (ok : ∀ c ∈ l, c < g.1) (h120 : ∀ k, k < g.1 → o.1 120 k = nI (l.getD k 0)) : ∃ o', f_X10_goTurn F o = some (nI (costW (semB b) g cs l), o') ∧ FrQ o o' ∧ RepM o' cs := by
  have hg := e.2.1
  obtain ⟨o1, a1, a2, a3, a4⟩ := saveM (F := F) (by omega) r
  obtain ⟨o2, b1, b2, b3⟩ := turnM_loop (F := F) hF rfl (a2.env e) l 0 F (0, cs) o1 (by omega) (by omega) (by show cs.1 ≤ _; omega) (by show 0 ≤ _; omega) ok (fun k hk => by rw [Nat.zero_add, a2.1 120 (by decide) (by decide) (by decide) (by decide)]; exact h120 k (by omega)) (FrM.refl _) a3 a4
  refine ⟨o2, ?_, a2.trans b2.q, b3⟩
  unfold f_X10_goTurn
  rw [a1, bnd_some]
  exact b1
theorem keepM {F : Nat} {K : Int32 → Int32 → Int32 → Int32 → PH → Option (Int32 × PH)} {x1 x2 x3 x4 : Int32} : ∀ (j i f : Nat) (o : PH), i + j = 6 → j < f → ∃ o', fL_X10_soonest_87 F K f x1 x2 x3 x4 (nI i) o = K x1 x2 x3 x4 o' ∧ (∀ a, a ≠ 121 → o'.1 a = o.1 a) ∧ o'.2 = o.2 ∧ ∀ k, k < 6 → o'.1 121 k = if i ≤ k then o.1 120 k else o.1 121 k := by
  intro j
  induction j with
  | zero =>
    intro i f o hi hf
    obtain ⟨f, rfl⟩ : ∃ m, f = m + 1 := ⟨f - 1, by omega⟩
    exact ⟨o, by rw [fL_X10_soonest_87, li6, if_l (by decide) (by omega), if_pos (show 6 ≤ i by omega)], fun _ _ => rfl, rfl, fun k hk => by rw [if_neg (by omega)]⟩
  | succ j ih =>
    intro i f o hi hf
    obtain ⟨f, rfl⟩ : ∃ m, f = m + 1 := ⟨f - 1, by omega⟩
    have hin : inb (nI i) 6 = true := inb_nI (by omega) (by decide)
    obtain ⟨o', a1, a2, a3, a4⟩ := ih (i + 1) f (wI o 121 i (o.1 120 i)) (by omega) (by omega)
    refine ⟨o', ?_, fun a u => (a2 a u).trans (rI_ne u), a3, fun k hk => ?_⟩
    · rw [fL_X10_soonest_87, li6, if_l (by decide) (by omega), if_neg (show ¬ 6 ≤ i by omega), if_pos hin, if_pos hin, lth_eq, ix_nI (by omega), nI_1]
      exact a1
    · rw [a4 k hk, rI_ne (show (120 : Nat) ≠ 121 by decide), rI]
      by_cases h1 : k = i
      · rw [if_neg (by omega), if_pos ⟨rfl, h1⟩, if_pos (by omega), h1]
      · by_cases h2 : i + 1 ≤ k
        · rw [if_pos h2, if_pos (by omega)]
        · rw [if_neg h2, if_neg (fun z => h1 z.2), if_neg (by omega)]
