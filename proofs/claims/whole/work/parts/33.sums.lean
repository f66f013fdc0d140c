-- over all clocks
def leftsA (b : Bn) (g : SG) (cs : CS) : Nat → Nat
  | 0 => 0
  | c + 1 => leftsA b g cs c + leftA b g c cs
def upsA (cs : CS) : Nat → Nat
  | 0 => 0
  | c + 1 => upsA cs c + (if cs.2.1 c = cs.1 then 1 else 0)
theorem upsA_le (cs : CS) : ∀ n, upsA cs n ≤ n
  | 0 => Nat.le_refl _
  | c + 1 => by
    have := upsA_le cs c
    show upsA cs c + (if cs.2.1 c = cs.1 then 1 else 0) ≤ c + 1
    split <;> omega
theorem leftA_lt {b : Bn} {g : SG} {c : Nat} {cs : CS} (hb : BnOK b) : leftA b g c cs ≤ 1000 * cs.1 := Nat.le_trans (Nat.sub_le _ _) (preA_lt hb _)
theorem leftsA_lt {b : Bn} {g : SG} {cs : CS} (hb : BnOK b) : ∀ n, leftsA b g cs n ≤ n * (1000 * cs.1)
  | 0 => by rw [Nat.zero_mul]; exact Nat.le_refl _
  | c + 1 => by
    have h1 := leftsA_lt (g := g) (cs := cs) hb c
    have h2 := leftA_lt (g := g) (c := c) (cs := cs) hb
    rw [Nat.succ_mul]
    exact Nat.add_le_add h1 h2
theorem leftsC_loop {F k : Nat} {h : PH} {g : SG} {b : Bn} {cs : CS} (hk : isCourse k = true) (e : EnvC h g b) (r : RepC h k cs) (ht : cs.1 < 2 ^ 20) : ∀ (j i f : Nat), i + j = g.1 → j < f → fL_X7_leftOfAll_4 F f k (nI (leftsA b g cs i)) (nI i) h = some (nI (leftsA b g cs g.1), h) := by
  have hg := e.2.1
  intro j
  induction j with
  | zero =>
    intro i f hi hf
    obtain ⟨f, rfl⟩ : ∃ m, f = m + 1 := ⟨f - 1, by omega⟩
    rw [fL_X7_leftOfAll_4, e.1, if_l (by omega) (by omega), if_pos (by omega), show i = g.1 by omega]
  | succ j ih =>
    intro i f hi hf
    obtain ⟨f, rfl⟩ : ∃ m, f = m + 1 := ⟨f - 1, by omega⟩
    rw [fL_X7_leftOfAll_4, e.1, if_l (by omega) (by omega), if_neg (by omega), leftOfC hk e (by omega) r ht, bnd_some, nI_add, nI_1]
    exact ih (i + 1) f (by omega) (by omega)
theorem leftsC {F k : Nat} {h : PH} {g : SG} {b : Bn} {cs : CS} (hF : 10 ≤ F) (hk : isCourse k = true) (e : EnvC h g b) (r : RepC h k cs) (ht : cs.1 < 2 ^ 20) : f_X7_leftOfAll F k h = some (nI (leftsA b g cs g.1), h) := by
  have hg := e.2.1
  unfold f_X7_leftOfAll
  rw [if_pos hk]
  exact leftsC_loop hk e r ht g.1 0 F (by omega) (by omega)
theorem upsC {F k : Nat} {h : PH} {g : SG} {b : Bn} {cs : CS} (hF : 10 ≤ F) (hk : isCourse k = true) (e : EnvC h g b) (r : RepC h k cs) (ht : cs.1 < 2 ^ 20) : f_X7_howManyUp F k h = some (nI (upsA cs g.1), h) := by
  have hg := e.2.1
  have key : ∀ (j i f : Nat), i + j = g.1 → j < f → fL_X7_howManyUp_4 F f k (nI (upsA cs i)) (nI i) h = some (nI (upsA cs g.1), h) := by
    intro j
    induction j with
    | zero =>
      intro i f hi hf
      obtain ⟨f, rfl⟩ : ∃ m, f = m + 1 := ⟨f - 1, by omega⟩
      rw [fL_X7_howManyUp_4, e.1, if_l (by omega) (by omega), if_pos (by omega), show i = g.1 by omega]
    | succ j ih =>
      intro i f hi hf
      obtain ⟨f, rfl⟩ : ∃ m, f = m + 1 := ⟨f - 1, by omega⟩
      have h1 := ih (i + 1) f (by omega) (by omega)
      have h2 : upsA cs (i + 1) = upsA cs i + (if cs.2.1 i = cs.1 then 1 else 0) := rfl
      rw [fL_X7_howManyUp_4, e.1, if_l (by omega) (by omega), if_neg (by omega), isUpC hk r (by omega) (by omega), bnd_some, nI_1, nI_1]
      by_cases hu : cs.2.1 i = cs.1
      · rw [if_pos hu] at h2 ⊢
        rw [if_neg (show ¬ (1 : Int32) = 0 by decide), ← h2]
        exact h1
      · rw [if_neg hu] at h2 ⊢
        rw [if_pos (show (0 : Int32) = 0 from rfl)]
        rw [h2, Nat.add_zero] at h1
        exact h1
  unfold f_X7_howManyUp
  rw [if_pos hk]
  exact key g.1 0 F (by omega) (by omega)
theorem leftsM {F : Nat} {g : SG} {b : BT} {cs : CS} {h : PH} (hF : 700 ≤ F) (e : EnvM h g b) (r : RepM h cs) (ht : cs.1 < F) (hb : cs.1 < 2 ^ 20) : ∃ h', f_X10_allLeft F h = some (nI (leftsA (semB b) g cs g.1), h') ∧ FrP h h' := by
  have hg := e.2.1
  have key : ∀ (j i f : Nat) (h : PH), i + j = g.1 → j < f → EnvM h g b → RepM h cs → ∃ h', fL_X10_allLeft_4 F f (nI (leftsA (semB b) g cs i)) (nI i) h = some (nI (leftsA (semB b) g cs g.1), h') ∧ FrP h h' := by
    intro j
    induction j with
    | zero =>
      intro i f h hi hf e r
      obtain ⟨f, rfl⟩ : ∃ m, f = m + 1 := ⟨f - 1, by omega⟩
      rw [fL_X10_allLeft_4, e.1, if_l (by omega) (by omega), if_pos (by omega), show i = g.1 by omega]
      exact ⟨h, rfl, FrP.refl h⟩
    | succ j ih =>
      intro i f h hi hf e r
      obtain ⟨f, rfl⟩ : ∃ m, f = m + 1 := ⟨f - 1, by omega⟩
      obtain ⟨h1, e1, e2⟩ := leftM hF e (show i < g.1 by omega) r ht hb
      rw [fL_X10_allLeft_4, e.1, if_l (by omega) (by omega), if_neg (by omega), e1, bnd_some, nI_add, nI_1]
      obtain ⟨h2, e3, e4⟩ := ih (i + 1) f h1 (by omega) (by omega) (e.p e2) (r.p e2)
      exact ⟨h2, e3, e2.trans e4⟩
  unfold f_X10_allLeft
  exact key g.1 0 F h (by omega) (by omega) e r
theorem upsM {F n : Nat} {cs : CS} {h : PH} (hF : 10 ≤ F) (hn : h.1 102 0 = nI n) (hg : n ≤ 6) (r : RepM h cs) (hb : cs.1 < 2 ^ 20) : f_X10_upMany F h = some (nI (upsA cs n), h) := by
  have key : ∀ (j i f : Nat), i + j = n → j < f → fL_X10_upMany_4 F f (nI (upsA cs i)) (nI i) h = some (nI (upsA cs n), h) := by
    intro j
    induction j with
    | zero =>
      intro i f hi hf
      obtain ⟨f, rfl⟩ : ∃ m, f = m + 1 := ⟨f - 1, by omega⟩
      rw [fL_X10_upMany_4, hn, if_l (by omega) (by omega), if_pos (by omega), show i = n by omega]
    | succ j ih =>
      intro i f hi hf
      obtain ⟨f, rfl⟩ : ∃ m, f = m + 1 := ⟨f - 1, by omega⟩
      have h1 := ih (i + 1) f (by omega) (by omega)
      have h2 : upsA cs (i + 1) = upsA cs i + (if cs.2.1 i = cs.1 then 1 else 0) := rfl
      rw [fL_X10_upMany_4, hn, if_l (by omega) (by omega), if_neg (by omega), isUpM r (by omega) (by omega), bnd_some, nI_1, nI_1, Int32.add_zero]
      by_cases hu : cs.2.1 i = cs.1
      · rw [if_pos hu] at h2
        rw [decide_eq_true hu, if_neg (show ¬ b2i true = 0 by decide), ← h2]
        exact h1
      · rw [if_neg hu] at h2
        rw [decide_eq_false hu, if_pos (show b2i false = 0 by decide)]
        rw [h2, Nat.add_zero] at h1
        exact h1
  unfold f_X10_upMany
  exact key n 0 F (by omega) (by omega)
-- evenings, one after another
def evsA (b : Bn) (g : SG) (c : Nat) : Nat → CS → CS
  | 0, cs => cs
  | j + 1, cs => evsA b g c j (evening b g c cs).2
theorem evsA_1 {b : Bn} {g : SG} {c : Nat} : ∀ (j : Nat) (cs : CS), (evsA b g c j cs).1 = cs.1 + j
  | 0, _ => rfl
  | j + 1, cs => by
    show (evsA b g c j (evening b g c cs).2).1 = _
    rw [evsA_1 j, evening_1]; omega
theorem evsC {F k c n : Nat} {h0 : PH} {g : SG} {b : Bn} (hF : 100 ≤ F) (hk : k = 35) (hc : c < g.1) (e0 : EnvC h0 g b) (hn : n ≤ 60) : ∀ (j i f : Nat) (cs : CS) (h : PH), i + j = n → j < f → cs.1 < 2 ^ 20 + i → FrC k h0 h → RepC h k cs → ∃ h', fL_X1_tellOften_2 F f (nI c) (nI n) (nI i) h = some ((), h') ∧ FrC k h0 h' ∧ RepC h' k (evsA b g c j cs) := by
  subst hk
  intro j
  induction j with
  | zero =>
    intro i f cs h hi hf ht fr r
    obtain ⟨f, rfl⟩ : ∃ m, f = m + 1 := ⟨f - 1, by omega⟩
    rw [fL_X1_tellOften_2, if_l (by omega) (by omega), if_pos (by omega)]
    exact ⟨h, rfl, fr, r⟩
  | succ j ih =>
    intro i f cs h hi hf ht fr r
    obtain ⟨f, rfl⟩ : ∃ m, f = m + 1 := ⟨f - 1, by omega⟩
    obtain ⟨h1, e1, e2, e3⟩ := eveningC (F := F) (by omega) (show isCourse 35 = true by decide) hc (fr.env (by decide) e0) r (by omega)
    rw [fL_X1_tellOften_2, if_l (by omega) (by omega), if_neg (by omega), e1, bnd_some, nI_1]
    exact ih (i + 1) f _ h1 (by omega) (by omega) (by rw [evening_1]; omega) (fr.trans e2) e3
theorem evsM {F c n : Nat} {h0 : PH} {g : SG} {b : BT} (hF : 700 ≤ F) (hc : c < g.1) (e0 : EnvM h0 g b) (hn : n ≤ 60) : ∀ (j i f : Nat) (cs : CS) (h : PH), i + j = n → j < f → cs.1 < 2 ^ 20 + i → FrM h0 h → RepM h cs → ∃ h', fL_X10_goEvenings_2 F f (nI c) (nI n) (nI i) h = some ((), h') ∧ FrM h0 h' ∧ RepM h' (evsA (semB b) g c j cs) := by
  intro j
  induction j with
  | zero =>
    intro i f cs h hi hf ht fr r
    obtain ⟨f, rfl⟩ : ∃ m, f = m + 1 := ⟨f - 1, by omega⟩
    rw [fL_X10_goEvenings_2, if_l (by omega) (by omega), if_pos (by omega)]
    exact ⟨h, rfl, fr, r⟩
  | succ j ih =>
    intro i f cs h hi hf ht fr r
    obtain ⟨f, rfl⟩ : ∃ m, f = m + 1 := ⟨f - 1, by omega⟩
    obtain ⟨h1, e1, e2, e3⟩ := eveningM (F := F) hF hc (fr.env e0) r (by omega)
    rw [fL_X10_goEvenings_2, if_l (by omega) (by omega), if_neg (by omega), e1, bnd_some, nI_1]
    exact ih (i + 1) f _ h1 (by omega) (by omega) (by rw [evening_1]; omega) (fr.trans e2) e3
