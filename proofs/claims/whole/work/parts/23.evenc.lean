theorem va_if {A : Type} (f : Nat → A) (c : Nat) (v : A) (i : Nat) : va_up f c v i = if i = c then v else f i := by simp [va_up]
theorem RepC.step {h : PH} {k c : Nat} {cs : CS} (hk : isCourse k = true) (r : RepC h k cs) (hc : c < 6) (hl : cs.2.1 c < cs.1) : RepC (wI h (k + 1) c (nI (cs.2.1 c + 1))) k (cs.1, va_up cs.2.1 c (cs.2.1 c + 1), cs.2.2) := by
  refine ⟨by rw [rI_ne (by omega)]; exact r.1, fun i hi => ?_⟩
  have h1 := r.2 i hi
  refine ⟨?_, ?_, by rw [rI_ne (by omega)]; exact h1.2.2⟩
  · show (wI h (k + 1) c (nI (cs.2.1 c + 1))).1 (k + 1) i = nI (va_up cs.2.1 c (cs.2.1 c + 1) i)
    rw [rI]
    by_cases hic : i = c
    · subst hic; rw [if_pos ⟨rfl, rfl⟩, va_if, if_pos rfl]
    · rw [if_neg (fun q => hic q.2), va_if, if_neg hic]; exact h1.1
  · show va_up cs.2.1 c (cs.2.1 c + 1) i ≤ cs.1
    by_cases hic : i = c
    · subst hic; rw [va_if, if_pos rfl]; exact hl
    · rw [va_if, if_neg hic]; exact h1.2.1
theorem RepC.mark {h : PH} {k c : Nat} {cs : CS} (hk : isCourse k = true) (r : RepC h k cs) (hc : c < 6) : RepC (wI h (k + 2) c (vp_nar .boolean (1 : Int32))) k (cs.1, cs.2.1, va_up cs.2.2 c true) := by
  refine ⟨by rw [rI_ne (by omega)]; exact r.1, fun i hi => ?_⟩
  have h1 := r.2 i hi
  refine ⟨by rw [rI_ne (by omega)]; exact h1.1, h1.2.1, ?_⟩
  rw [rI]
  by_cases hic : i = c
  · subst hic; rw [if_pos ⟨rfl, rfl⟩]; simp [va_up]; rfl
  · rw [if_neg (fun q => hic q.2)]; simp only [va_up, if_neg hic]; exact h1.2.2
theorem FrC.w1 {k i : Nat} {h h' : PH} {x : Int32} (f : FrC k h h') : FrC k h (wI h' (k + 1) i x) := f.trans ⟨fun _ _ h2 _ => rI_ne h2, rfl⟩
theorem FrC.w2 {k i : Nat} {h h' : PH} {x : Int32} (f : FrC k h h') : FrC k h (wI h' (k + 2) i x) := f.trans ⟨fun _ _ _ h3 => rI_ne h3, rfl⟩
theorem sub_lt_nI {a s v : Nat} (ha : a < 2 ^ 20) (hs : s < 2 ^ 20) (hv : v < 2 ^ 20) : (nI a - nI s < nI v) ↔ a < s + v := by
  rw [Int32.lt_iff_toInt_lt, pk_sub_toInt (by omega) (by omega), nI_toInt (by omega)]; omega
theorem sub_sub_nI (a s v : Nat) : nI a - nI s - nI v = nI a - nI (s + v) := by
  rw [← nI_add, Int32.sub_sub]
theorem holdA_lt {b : Bn} {g : SG} {c d : Nat} (hb : BnOK b) (h4 : g.2.2.1 c ≤ 9) (h6 : g.2.2.2 (4 * c + d % 4) ≤ 9) : holdA b g c d < 1000 := by
  have h1 := hb.2.1
  unfold holdA halfA
  split
  · omega
  · split
    · split <;> omega
    · split
      · omega
      · split
        · split <;> omega
        · omega
/-- what the class's loop of an evening gives -/
def outC (F : Nat) (n : Nat) (k : Nat) (r : Nat × CS) (h0 : PH) (x : Option (Int32 × PH)) : Prop := ∃ h', x = some (nI r.1, h') ∧ FrC k h0 h' ∧ RepC h' k (nightA n r.2)
theorem evC_end {F k n : Nat} {h0 h : PH} {cs : CS} {d : Nat} (hF : 10 ≤ F) (hk : isCourse k = true) (hn : h.1 1 0 = nI n) (h6 : n ≤ 6) (f : FrC k h0 h) (r : RepC h k cs) (ht : cs.1 < 2 ^ 29) :
    outC F n k (d, cs) h0 (bnd (f_X7_night F k h) fun _ h3 => some (nI d, h3)) := by
  obtain ⟨h', e1, e2, e3⟩ := nightC (F := F) hF hk hn h6 r ht
  rw [e1, bnd_some]
  exact ⟨h', rfl, f.trans e2, e3⟩
theorem evC_loop {F k c most : Nat} {h0 : PH} {g : SG} {b : Bn} (hF : 10 ≤ F) (hk : isCourse k = true) (hc : c < g.1) (hm : most < 1000) (e0 : EnvC h0 g b) : ∀ (j f days sum : Nat) (cs : CS) (h : PH),
    days + j = 30 → j + 1 < f → sum ≤ 1000 * days → cs.1 < 2 ^ 28 → FrC k h0 h → RepC h k cs → outC F g.1 k (evA b g c most j days sum cs) h0 (fL_X7_evening_13 F f k (nI c) (nI most - nI sum) (nI days) h) := by
  have h6 : c < 6 := Nat.lt_of_lt_of_le hc e0.2.1
  have hi : inb (nI c) 6 = true := inb_nI h6 (by decide)
  have hx : ix (nI c) = c := ix_nI (by omega)
  intro j
  induction j with
  | zero =>
    intro f days sum cs h hj hf hs ht fr r
    obtain ⟨f, rfl⟩ : ∃ m, f = m + 1 := ⟨f - 1, by omega⟩
    have e := fr.env hk e0
    rw [fL_X7_evening_13, show (30 : Int32) = nI 30 from rfl, if_l (by omega) (by omega), if_pos (by omega)]
    exact evC_end hF hk e.1 e.2.1 fr r (by omega)
  | succ j ih =>
    intro f days sum cs h hj hf hs ht fr r
    obtain ⟨f, rfl⟩ : ∃ m, f = m + 1 := ⟨f - 1, by omega⟩
    have e := fr.env hk e0
    have hr := r.2 c h6
    have hev := newsA_lt (b := b) (g := g) (c := c) (d := cs.2.1 c) e0.2.2.2.2.2.2.2
    rw [fL_X7_evening_13, show (30 : Int32) = nI 30 from rfl, if_l (by omega) (by omega), if_neg (by omega), if_pos hi, hx, hr.1, r.1, if_l (by omega) (by omega)]
    have u := hr.2.2
    unfold evA
    by_cases h1 : cs.1 ≤ cs.2.1 c
    · rw [if_pos h1, if_neg (by omega)]
      exact evC_end hF hk e.1 e.2.1 fr r (by omega)
    · rw [if_neg h1, if_pos hi]
      by_cases h2 : cs.2.2 c = true
      · rw [if_pos h2] at u
        rw [u, if_neg (show ¬ (1 : Int32) = 0 by decide), if_neg (show ¬ (cs.2.1 c < cs.1 ∧ cs.2.2 c = false) by simp [h2])]
        exact evC_end hF hk e.1 e.2.1 fr r (by omega)
      · rw [if_neg h2] at u
        rw [u, if_pos (show (0 : Int32) = 0 from rfl), if_pos hi, newsOfC e hc (by omega), bnd_some, mindsC e hc (by omega), bnd_some, if_pos (show (cs.2.1 c < cs.1 ∧ cs.2.2 c = false) from ⟨by omega, by simpa using h2⟩)]
        have hstep : outC F g.1 k (evA b g c most j (days + 1) (sum + newsA b g c (cs.2.1 c)) (cs.1, va_up cs.2.1 c (cs.2.1 c + 1), cs.2.2)) h0
            (lth (wI h (k + 1) c ((h.1 (k + 1) c) + (1 : Int32))) fun h12 => (fL_X7_evening_13 F f k (nI c) (nI most - nI sum - nI (newsA b g c (cs.2.1 c))) (nI days + (1 : Int32)) h12)) := by
          rw [hr.1, nI_1, nI_1, lth_eq, sub_sub_nI]
          exact ih f (days + 1) _ _ _ (by omega) (by omega) (by omega) ht fr.w1 (r.step hk h6 (by omega))
        by_cases h3 : mindA b g c (cs.2.1 c) = true
        · rw [if_pos h3, if_pos h3, if_neg (show ¬ (1 : Int32) = 0 by decide), if_pos hi, lth_eq]
          obtain ⟨f, rfl⟩ : ∃ m, f = m + 1 := ⟨f - 1, by omega⟩
          have r2 := r.mark hk h6
          have fr2 : FrC k h0 (wI h (k + 2) c (vp_nar .boolean (1 : Int32))) := fr.w2
          have e2 := fr2.env hk e0
          have hr2 := r2.2 c h6
          rw [fL_X7_evening_13, show (30 : Int32) = nI 30 from rfl, if_l (by omega) (by omega), if_neg (by omega), if_pos hi, hx, hr2.1, r2.1, if_l (by omega) (by omega), if_neg h1, if_pos hi, hr2.2.2]
          rw [if_neg (by simp [va_up])]
          exact evC_end hF hk e2.1 e2.2.1 fr2 r2 (show cs.1 < 2 ^ 29 by omega)
        · rw [if_neg h3, if_neg h3, if_pos rfl]
          by_cases h4 : days = 0
          · rw [if_pos (show nI days = 0 by rw [h4]; rfl), if_pos hi, if_pos hi, if_pos (Or.inl h4)]
            exact hstep
          · have n4 : ¬ nI days = 0 := nI_ne0 (by omega) (by omega)
            rw [if_neg n4]
            by_cases h5 : most < sum + newsA b g c (cs.2.1 c)
            · rw [if_pos ((sub_lt_nI (by omega) (by omega) (by omega)).mpr h5), if_neg (by omega)]
              exact evC_end hF hk e.1 e.2.1 fr r (by omega)
            · rw [if_neg (fun q => h5 ((sub_lt_nI (by omega) (by omega) (by omega)).mp q)), if_pos hi, if_pos hi, if_pos (by omega)]
              exact hstep
theorem eveningC {F k c : Nat} {h : PH} {g : SG} {b : Bn} {cs : CS} (hF : 40 ≤ F) (hk : isCourse k = true) (hc : c < g.1) (e : EnvC h g b) (r : RepC h k cs) (ht : cs.1 < 2 ^ 28) :
    ∃ h', f_X7_evening F k (nI c) h = some (nI (evening b g c cs).1, h') ∧ FrC k h h' ∧ RepC h' k (evening b g c cs).2 := by
  have h6 : c < 6 := Nat.lt_of_lt_of_le hc e.2.1
  have hm := Nat.mod_lt cs.1 (show 0 < 4 by decide)
  have hb := holdA_lt (c := c) (d := cs.1) e.2.2.2.2.2.2.2 (e.2.2.2.1 c h6).2 (e.2.2.2.2.1 (4 * c + cs.1 % 4) (by omega)).2
  have h1 := evC_loop (F := F) (k := k) (by omega) hk hc hb e 30 F 0 0 cs h (by omega) (by omega) (by omega) ht (FrC.refl _ _) r
  unfold f_X7_evening
  rw [if_pos hk, r.1, holdsC e h6 (by omega), bnd_some]
  have h2 : nI (holdA b g c cs.1) = nI (holdA b g c cs.1) - nI 0 := by rw [show nI 0 = (0 : Int32) from rfl, Int32.sub_zero]
  rw [h2]
  exact h1
