theorem if_e {A : Type} {a b : Nat} {x y : A} (ha : a < 2 ^ 31) (hb : b < 2 ^ 31) : (if nI a = nI b then x else y) = if a = b then x else y := by
  by_cases h : a = b
  · rw [if_pos h, if_pos (by rw [h])]
  · rw [if_neg h, if_neg (fun q => h ((nI_eq ha hb).mp q))]
theorem if_l {A : Type} {a b : Nat} {x y : A} (ha : a < 2 ^ 31) (hb : b < 2 ^ 31) : (if nI a ≤ nI b then x else y) = if a ≤ b then x else y := by
  by_cases h : a ≤ b
  · rw [if_pos h, if_pos ((nI_leI ha hb).mpr h)]
  · rw [if_neg h, if_neg (fun q => h ((nI_leI ha hb).mp q))]
theorem if_t {A : Type} {a b : Nat} {x y : A} (ha : a < 2 ^ 31) (hb : b < 2 ^ 31) : (if nI a < nI b then x else y) = if a < b then x else y := by
  by_cases h : a < b
  · rw [if_pos h, if_pos ((nI_ltI ha hb).mpr h)]
  · rw [if_neg h, if_neg (fun q => h ((nI_ltI ha hb).mp q))]
theorem li1 : (1 : Int32) = nI 1 := rfl
theorem li2 : (2 : Int32) = nI 2 := rfl
theorem li3 : (3 : Int32) = nI 3 := rfl
theorem li4 : (4 : Int32) = nI 4 := rfl
theorem li5 : (5 : Int32) = nI 5 := rfl
theorem li6 : (6 : Int32) = nI 6 := rfl
theorem li0 : (0 : Int32) = nI 0 := rfl
theorem nI_lt2 {a b : Nat} (ha : a < 2 ^ 31) (hb : b < 2 ^ 31) : (nI a < nI b) = (a < b) := propext (nI_ltI ha hb)
theorem nI_le2 {a b : Nat} (ha : a < 2 ^ 31) (hb : b < 2 ^ 31) : (nI a ≤ nI b) = (a ≤ b) := propext (nI_leI ha hb)
theorem nI_eq2 {a b : Nat} (ha : a < 2 ^ 31) (hb : b < 2 ^ 31) : (nI a = nI b) = (a = b) := propext (nI_eq ha hb)
theorem halfC {p : Nat} (hp : p ≤ 99) : (if (1 : Int32) < nI p / (2 : Int32) then nI p / (2 : Int32) else (1 : Int32)) = nI (halfA p) := by
  rw [li2, li1, pk_div (by omega) (by decide) (by decide), if_t (by omega) (by omega)]
  unfold halfA
  split <;> rfl
theorem mindsC {F : Nat} {h : PH} {g : SG} {b : Bn} {c d : Nat} (e : EnvC h g b) (hc : c < g.1) (hd : d < 2 ^ 30) : f_X7_minds F (nI c) (nI d) h = some (if mindA b g c d = true then 1 else 0, h) := by
  have hn := newsOfC (F := F) e hc hd
  have hl := newsA_lt (g := g) (c := c) (d := d) e.2.2.2.2.2.2.2
  have h6 : c < 6 := Nat.lt_of_lt_of_le hc e.2.1
  have hk := e.2.2.1 c h6
  have hv := e.2.2.2.1 c h6
  have hi : inb (nI c) 6 = true := inb_nI h6 (by decide)
  have hx : ix (nI c) = c := ix_nI (by omega)
  unfold f_X7_minds
  rw [if_pos hi, hx, hk.1, li2, li5, if_e (by omega) (by decide), if_e (by omega) (by decide)]
  have key : fL_X7_minds_19 F (nI c) (nI d) (nI (g.2.1 c)) h = if g.2.1 c = 5 ∧ d % (g.2.2.1 c + 2) = 0 then some (0, h) else some (if g.2.2.1 c + 3 < newsA b g c d then 1 else 0, h) := by
    unfold fL_X7_minds_19
    rw [if_pos hi, hx, hn, bnd_some, hv.1, li2, li3, li5, nI_add, nI_add, if_e (by omega) (by decide), if_l (by omega) (by omega), jrem_nI (by omega) (by omega) (by omega)]
    have z1 : ¬ nI (g.2.2.1 c + 2) = 0 := nI_ne0 (by omega) (by omega)
    have hm := Nat.mod_lt d (show 0 < g.2.2.1 c + 2 by omega)
    have z2 : (nI (d % (g.2.2.1 c + 2)) = 0) ↔ (d % (g.2.2.1 c + 2) = 0) := by
      rw [li0]; exact nI_eq (by omega) (by omega)
    by_cases h5 : g.2.1 c = 5
    · rw [if_pos h5, if_neg z1]
      by_cases h7 : d % (g.2.2.1 c + 2) = 0
      · rw [if_pos (z2.mpr h7), if_pos ⟨h5, h7⟩]
      · rw [if_neg (fun q => h7 (z2.mp q)), if_neg (show ¬ (g.2.1 c = 5 ∧ d % (g.2.2.1 c + 2) = 0) from fun q => h7 q.2)]
        by_cases h8 : newsA b g c d ≤ g.2.2.1 c + 3
        · rw [if_pos h8, if_neg (by omega)]
        · rw [if_neg h8, if_pos (by omega)]
    · rw [if_neg h5, if_neg (show ¬ (g.2.1 c = 5 ∧ d % (g.2.2.1 c + 2) = 0) from fun q => h5 q.1)]
      by_cases h8 : newsA b g c d ≤ g.2.2.1 c + 3
      · rw [if_pos h8, if_neg (by omega)]
      · rw [if_neg h8, if_pos (by omega)]
  unfold mindA
  by_cases h2 : g.2.1 c = 2
  · rw [if_pos h2, key, if_neg (by omega), if_pos h2]
    simp only [decide_eq_true_eq]
  · rw [if_neg h2, if_neg h2]
    by_cases h5 : g.2.1 c = 5
    · rw [if_pos h5, key, if_pos h5]
      by_cases h7 : d % (g.2.2.1 c + 2) = 0
      · rw [if_pos ⟨h5, h7⟩]; simp [h7]
      · rw [if_neg (fun q => h7 q.2)]; simp [h7]
    · rw [if_neg h5, if_neg h5]; rfl
theorem if_z {A : Type} {p : Int32} {x y : A} (h : ¬ p = 0) : (if p = 0 then x else y) = y := if_neg h
theorem holdsC {F : Nat} {h : PH} {g : SG} {b : Bn} {c d : Nat} (e : EnvC h g b) (h6 : c < 6) (hd : d < 2 ^ 30) : f_X7_holds F (nI c) (nI d) h = some (nI (holdA b g c d), h) := by
  have hk := e.2.2.1 c h6
  have hv := e.2.2.2.1 c h6
  have hi : inb (nI c) 6 = true := inb_nI h6 (by decide)
  have hx : ix (nI c) = c := ix_nI (by omega)
  have hb := e.2.2.2.2.2.2.2
  have hm := Nat.mod_lt d (show 0 < 4 by decide)
  have n2 : ¬ (2 : Int32) = 0 := by decide
  have n4 : ¬ (4 : Int32) = 0 := by decide
  have hq : nI c * (4 : Int32) + jrem (nI d) (4 : Int32) = nI (c * 4 + d % 4) := by
    rw [li4, jrem_nI (by omega) (by decide) (by decide), pk_mul, nI_add]
  have hr := (e.2.2.2.2.1 (c * 4 + d % 4) (by omega)).1
  unfold f_X7_holds holdA
  rw [paceC_eq e.2.2.2.2.2.2.1, bnd_some, if_pos hi, hx, hk.1, halfC hb.2.1, hv.1, hq, if_pos hi, ix_nI (by omega), hr, if_pos (inb_nI (by omega) (by decide))]
  rw [if_neg n2, if_neg n2, if_neg n4]
  rw [li1, li2, li3, li4, li5, li6, if_e (by omega) (by decide), if_e (by omega) (by decide), if_e (by omega) (by decide), if_e (by omega) (by decide), if_e (by omega) (by decide), if_e (by omega) (by decide), pk_mul, nI_add, nI_add]
  by_cases h1 : g.2.1 c = 1
  · rw [if_pos h1, if_pos h1, Nat.mul_comm]
  · rw [if_neg h1, if_neg h1]
    by_cases h2 : g.2.1 c = 2
    · rw [if_pos h2]; simp [h2]
    · rw [if_neg h2]
      by_cases h3 : g.2.1 c = 3
      · rw [if_pos h3, if_pos h3]
      · rw [if_neg h3, if_neg h3]
        by_cases h4 : g.2.1 c = 4
        · rw [if_pos h4, if_pos h4, Nat.mul_comm]
        · rw [if_neg h4, if_neg h4]
          by_cases h5 : g.2.1 c = 5
          · rw [if_pos h5]; simp [h5]
          · rw [if_neg h5]
            by_cases h6' : g.2.1 c = 6
            · rw [if_pos h6', if_pos h6', Nat.mul_comm c 4]
            · rw [if_neg h6', if_neg h6']
theorem isUpC {F k c : Nat} {h : PH} {cs : CS} (hk : isCourse k = true) (r : RepC h k cs) (h6 : c < 6) (ht : cs.1 < 2 ^ 30) : f_X3_isUp F k (nI c) h = some (if cs.2.1 c = cs.1 then 1 else 0, h) := by
  have h1 := r.2 c h6
  unfold f_X3_isUp
  rw [if_pos hk, if_pos (inb_nI h6 (by decide)), ix_nI (by omega), h1.1, r.1, if_e (by omega) (by omega)]
  split <;> rfl
theorem nightC_loop {F k n : Nat} {h0 : PH} {cs : CS} (hk : isCourse k = true) (hn : h0.1 1 0 = nI n) (h6 : n ≤ 6) (r : RepC h0 k cs) (ht : cs.1 < 2 ^ 29) : ∀ (j f : Nat) (i : Nat) (h : PH), i + j = n → j < f → FrC k h0 h → h.1 k 0 = nI cs.1 → (∀ a, a < 6 → h.1 (k + 1) a = (if a < i ∧ cs.2.1 a = cs.1 then nI (cs.2.1 a + 1) else nI (cs.2.1 a)) ∧ h.1 (k + 2) a = h0.1 (k + 2) a) →
    ∃ h', fL_X7_night_2 F f k (nI i) h = some ((), h') ∧ FrC k h0 h' ∧ RepC h' k (nightA n cs) := by
  intro j
  have hk' := isCourse_or hk
  induction j with
  | zero =>
    intro f i h hij hf fr ht0 hr
    obtain ⟨f, rfl⟩ : ∃ m, f = m + 1 := ⟨f - 1, by omega⟩
    have hc : h.1 1 0 = nI n := by rw [fr.1 1 (by omega) (by omega) (by omega)]; exact hn
    rw [fL_X7_night_2, hc, if_pos (by rw [nI_le2 (by omega) (by omega)]; omega), lth_eq]
    refine ⟨_, rfl, fr.trans ⟨fun a h1 h2 h3 => rI_ne h1, rfl⟩, ?_, fun a ha => ?_⟩
    · rw [rI_eq, ht0, nI_1]; rfl
    · rw [rI_ne (by omega), rI_ne (by omega), (hr a ha).1, (hr a ha).2]
      have := r.2 a ha
      unfold nightA
      have hin : i = n := by omega
      subst hin
      refine ⟨?_, ?_, this.2.2⟩
      · dsimp only
        split <;> rfl
      · dsimp only
        split <;> omega
  | succ j ih =>
    intro f i h hij hf fr ht0 hr
    obtain ⟨f, rfl⟩ : ∃ m, f = m + 1 := ⟨f - 1, by omega⟩
    have hc : h.1 1 0 = nI n := by rw [fr.1 1 (by omega) (by omega) (by omega)]; exact hn
    have hi6 : i < 6 := by omega
    have hri := hr i hi6
    have hcs := (r.2 i hi6).2.1
    rw [if_neg (by omega)] at hri
    have hup : f_X3_isUp F k (nI i) h = some (if cs.2.1 i = cs.1 then 1 else 0, h) := by
      unfold f_X3_isUp
      rw [if_pos hk, if_pos (inb_nI hi6 (by decide)), ix_nI (by omega), hri.1, ht0, if_e (by omega) (by omega)]
      split <;> rfl
    rw [fL_X7_night_2, hc, if_neg (by rw [nI_le2 (by omega) (by omega)]; omega), hup, bnd_some]
    by_cases hu : cs.2.1 i = cs.1
    · rw [if_pos hu, if_neg (by decide), if_pos (inb_nI hi6 (by decide)), if_pos (inb_nI hi6 (by decide)), lth_eq, nI_1, ix_nI (by omega)]
      refine ih f (i + 1) _ (by omega) (by omega) (fr.trans ⟨fun a h1 h2 h3 => rI_ne h2, rfl⟩) ?_ (fun a ha => ⟨?_, ?_⟩)
      · rw [rI_ne (by omega)]; exact ht0
      · rw [rI]
        by_cases hai : a = i
        · subst hai
          rw [if_pos ⟨rfl, rfl⟩, if_pos ⟨by omega, hu⟩, hri.1, nI_1]
        · rw [if_neg (fun q => hai q.2), (hr a ha).1]
          by_cases ha2 : a < i
          · simp [ha2, show a < i + 1 by omega]
          · simp [ha2, show ¬ a < i + 1 by omega]
      · rw [rI_ne (by omega)]; exact (hr a ha).2
    · rw [if_neg hu, if_pos rfl, nI_1]
      refine ih f (i + 1) _ (by omega) (by omega) fr ht0 (fun a ha => ⟨?_, (hr a ha).2⟩)
      rw [(hr a ha).1]
      by_cases hai : a = i
      · subst hai; simp [hu]
      · by_cases ha2 : a < i
        · simp [ha2, show a < i + 1 by omega]
        · simp [ha2, show ¬ a < i + 1 by omega]
theorem nightC {F k : Nat} {h : PH} {cs : CS} {n : Nat} (hF : 10 ≤ F) (hk : isCourse k = true) (hn : h.1 1 0 = nI n) (h6 : n ≤ 6) (r : RepC h k cs) (ht : cs.1 < 2 ^ 29) : ∃ h', f_X7_night F k h = some ((), h') ∧ FrC k h h' ∧ RepC h' k (nightA n cs) := by
  unfold f_X7_night
  rw [if_pos hk]
  refine nightC_loop (h0 := h) hk hn h6 r ht n F 0 h (by omega) (by omega) (FrC.refl _ _) r.1 (fun a ha => ⟨?_, rfl⟩)
  rw [if_neg (by omega)]; exact (r.2 a ha).1
