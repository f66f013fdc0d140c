theorem RepC.keep {k t : Nat} {h h' : PH} {cs : CS} (hd : t + 3 ≤ k ∨ k + 3 ≤ t) (f : FrC t h h') (r : RepC h k cs) : RepC h' k cs := by
  refine ⟨by rw [f.1 k (by omega) (by omega) (by omega)]; exact r.1, fun i hi => ?_⟩
  rw [f.1 (k + 1) (by omega) (by omega) (by omega), f.1 (k + 2) (by omega) (by omega) (by omega)]
  exact r.2 i hi
def nextA (b : Bn) (g : SG) (cs : CS) : Nat → Nat → Int32 → Nat → Int32
  | 0, _, best, _ => best
  | j + 1, i, best, bv => if bv ≤ leftsA b g (evening b g i cs).2 g.1 then nextA b g cs j (i + 1) best bv else nextA b g cs j (i + 1) (nI i) (leftsA b g (evening b g i cs).2 g.1)
theorem nextA_bound {b : Bn} {g : SG} {cs : CS} {i : Nat} (hb : BnOK b) (hg : g.1 ≤ 6) (ht : cs.1 < 2 ^ 16) : leftsA b g (evening b g i cs).2 g.1 < 2 ^ 30 := by
  have h1 := leftsA_lt (g := g) (cs := (evening b g i cs).2) hb g.1
  rw [evening_1] at h1
  have h2 : g.1 * (1000 * (cs.1 + 1)) ≤ 6 * (1000 * (cs.1 + 1)) := Nat.mul_le_mul_right _ hg
  omega
theorem nextC_loop {F : Nat} {h0 : PH} {g : SG} {b : Bn} {cs : CS} (hF : 100 ≤ F) (e0 : EnvC h0 g b) (r0 : RepC h0 6 cs) (ht : cs.1 < 2 ^ 16) : ∀ (j i f : Nat) (best : Int32) (bv : Nat) (h : PH), i + j = g.1 → j < f → bv < 2 ^ 31 → FrC 35 h0 h → ∃ h', fL_X1_bestNext_8 F f best (nI bv) (nI i) h = some (nextA b g cs j i best bv, h') ∧ FrC 35 h0 h' := by
  have hg := e0.2.1
  intro j
  induction j with
  | zero =>
    intro i f best bv h hi hf hv fr
    obtain ⟨f, rfl⟩ : ∃ m, f = m + 1 := ⟨f - 1, by omega⟩
    have e := fr.env (by decide) e0
    rw [fL_X1_bestNext_8, e.1, if_l (by omega) (by omega), if_pos (by omega)]
    exact ⟨h, rfl, fr⟩
  | succ j ih =>
    intro i f best bv h hi hf hv fr
    obtain ⟨f, rfl⟩ : ∃ m, f = m + 1 := ⟨f - 1, by omega⟩
    have e := fr.env (by decide) e0
    obtain ⟨h1, a1, a2, a3⟩ := beginC (F := F) (by omega) (r0.keep (by decide) fr)
    obtain ⟨h2, b1, b2, b3⟩ := eveningC (F := F) (by omega) (show isCourse 35 = true by decide) (show i < g.1 by omega) (a2.env (by decide) e) a3 (by omega)
    have e2 := b2.env (by decide) (a2.env (by decide) e)
    have hb := nextA_bound (i := i) e0.2.2.2.2.2.2.2 hg ht
    rw [fL_X1_bestNext_8, e.1, if_l (by omega) (by omega), if_neg (by omega), a1, bnd_some, b1, bnd_some, leftsC (by omega) (by decide) e2 b3 (by rw [evening_1]; omega), bnd_some, if_l hv (by omega), nI_1, nextA]
    by_cases hle : bv ≤ leftsA b g (evening b g i cs).2 g.1
    · rw [if_pos hle, if_pos hle]
      exact ih (i + 1) f best bv h2 (by omega) (by omega) hv ((fr.trans a2).trans b2)
    · rw [if_neg hle, if_neg hle]
      exact ih (i + 1) f _ _ h2 (by omega) (by omega) (by omega) ((fr.trans a2).trans b2)
theorem nextC {F : Nat} {h : PH} {g : SG} {b : Bn} {cs : CS} (hF : 100 ≤ F) (e : EnvC h g b) (r : RepC h 6 cs) (ht : cs.1 < 2 ^ 16) : ∃ h', f_X9_next F h = some (nextA b g cs g.1 0 (-5) 2147483647, h') ∧ FrC 35 h h' := by
  have hg := e.2.1
  obtain ⟨h', e1, e2⟩ := nextC_loop hF e r ht g.1 0 F (-5) 2147483647 h (by omega) (by omega) (by decide) (FrC.refl _ _)
  unfold f_X9_next f_X1_bestNext
  rw [show (2147483647 : Int32) = nI 2147483647 from rfl, li0, e1, bnd_some]
  exact ⟨h', rfl, e2⟩
theorem nextM_loop {F : Nat} {g : SG} {b : BT} {cs : CS} (hF : 700 ≤ F) (ht : cs.1 < 2 ^ 16) (htF : cs.1 + 1 < F) : ∀ (j i f : Nat) (best x2 : Int32) (bv : Nat) (h : PH), i + j = g.1 → j < f → bv < 2 ^ 31 → EnvM h g b → RepM h cs → (best < 0 → bv = 2147483647) → (¬ best < 0 → x2 = nI bv) → ∃ h', fL_X10_next_7 F f best x2 (nI i) h = some (nextA (semB b) g cs j i best bv, h') ∧ FrQ h h' ∧ RepM h' cs := by
  intro j
  induction j with
  | zero =>
    intro i f best x2 bv h hi hf hv e r n1 n2
    have hg := e.2.1
    obtain ⟨f, rfl⟩ : ∃ m, f = m + 1 := ⟨f - 1, by omega⟩
    rw [fL_X10_next_7, e.1, if_l (by omega) (by omega), if_pos (by omega)]
    exact ⟨h, rfl, FrQ.refl h, r⟩
  | succ j ih =>
    intro i f best x2 bv h hi hf hv e r n1 n2
    have hg := e.2.1
    obtain ⟨f, rfl⟩ : ∃ m, f = m + 1 := ⟨f - 1, by omega⟩
    obtain ⟨h1, a1, a2, a3, a4⟩ := saveM (F := F) (by omega) r
    have ea := a2.env e
    obtain ⟨h2, b1, b2, b3⟩ := eveningM (F := F) hF (show i < g.1 by omega) ea a3 (by omega)
    have eb := b2.env ea
    obtain ⟨h3, c1, c2⟩ := leftsM (F := F) hF eb b3 (by rw [evening_1]; omega) (by rw [evening_1]; omega)
    obtain ⟨h4, d1, d2, d3, d4⟩ := backM (F := F) (by omega) ((a4.fr b2).fr c2.m)
    have hb := nextA_bound (i := i) (semB_ok (HeldM_ok e.2.2.2.2.2.1)) hg ht
    have fr : FrQ h h4 := ((a2.trans b2.q).trans c2.m.q).trans d2.q
    have e4 := fr.env e
    rw [fL_X10_next_7, e.1, if_l (by omega) (by omega), if_neg (by omega), a1, bnd_some, b1, bnd_some, c1, bnd_some, d1, bnd_some, nI_1, nextA]
    have hpos : ¬ nI i < 0 := nI_pos (by omega)
    have take : ∃ h', fL_X10_next_7 F f (nI i) (nI (leftsA (semB b) g (evening (semB b) g i cs).2 g.1)) (nI (i + 1)) h4 = some (nextA (semB b) g cs j (i + 1) (nI i) (leftsA (semB b) g (evening (semB b) g i cs).2 g.1), h') ∧ FrQ h h' ∧ RepM h' cs := by
      obtain ⟨h', g1, g2, g3⟩ := ih (i + 1) f (nI i) _ (leftsA (semB b) g (evening (semB b) g i cs).2 g.1) h4 (by omega) (by omega) (by omega) e4 d3 (fun q => absurd q hpos) (fun _ => rfl)
      exact ⟨h', g1, fr.trans g2, g3⟩
    by_cases hn : best < 0
    · have hbv := n1 hn
      rw [if_pos hn, if_neg (show ¬ bv ≤ leftsA (semB b) g (evening (semB b) g i cs).2 g.1 by omega)]
      exact take
    · rw [if_neg hn, n2 hn, if_t (by omega) hv]
      by_cases hle : bv ≤ leftsA (semB b) g (evening (semB b) g i cs).2 g.1
      · rw [if_pos hle, if_neg (by omega)]
        obtain ⟨h', g1, g2, g3⟩ := ih (i + 1) f best (nI bv) bv h4 (by omega) (by omega) hv e4 d3 (fun q => absurd q hn) (fun _ => rfl)
        exact ⟨h', g1, fr.trans g2, g3⟩
      · rw [if_neg hle, if_pos (by omega)]
        exact take
theorem nextM {F : Nat} {h : PH} {g : SG} {b : BT} {cs : CS} (hF : 700 ≤ F) (e : EnvM h g b) (r : RepM h cs) (ht : cs.1 < 2 ^ 16) (htF : cs.1 + 1 < F) : ∃ h', f_X10_next F h = some (nextA (semB b) g cs g.1 0 (-5) 2147483647, h') ∧ FrQ h h' ∧ RepM h' cs := by
  have hg := e.2.1
  unfold f_X10_next
  exact nextM_loop hF ht htF g.1 0 F (-5) 0 2147483647 h (by omega) (by omega) (by decide) e r (fun _ => rfl) (fun q => absurd (show (-5 : Int32) < 0 by decide) q)
