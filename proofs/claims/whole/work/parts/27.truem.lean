-- ===== the model =====
def FrP (h h' : PH) : Prop := (∀ a, a ≠ 116 → h'.1 a = h.1 a) ∧ h'.2 = h.2
theorem FrP.refl (h : PH) : FrP h h := ⟨fun _ _ => rfl, rfl⟩
theorem FrP.trans {h h1 h2 : PH} (a : FrP h h1) (b : FrP h1 h2) : FrP h h2 := ⟨fun x u => (b.1 x u).trans (a.1 x u), b.2.trans a.2⟩
theorem FrP.w {h : PH} {i : Nat} {x : Int32} : FrP h (wI h 116 i x) := ⟨fun _ u => rI_ne u, rfl⟩
def b2i (b : Bool) : Int32 := if b = true then 1 else 0
def pileOK (h : PH) : List Bool → Prop
  | [] => True
  | b :: s => h.1 116 s.length = b2i b ∧ pileOK h s
theorem pileOK_w {h : PH} {k : Nat} {x : Int32} : ∀ {s : List Bool}, s.length ≤ k → pileOK h s → pileOK (wI h 116 k x) s
  | [], _, _ => trivial
  | b :: s, hl, u => by
    rw [List.length_cons] at hl
    exact ⟨by rw [rI_sl (by omega)]; exact u.1, pileOK_w (by omega) u.2⟩
theorem pileOK_put {h : PH} {k : Nat} {x : Int32} {b : Bool} {s : List Bool} (hk : k = s.length) (hx : x = b2i b) (u : pileOK h s) : pileOK (wI h 116 k x) (b :: s) := by
  subst hk hx
  exact ⟨rI_eq _ _ _ _, pileOK_w (Nat.le_refl _) u⟩
theorem nar0 : vp_nar .boolean (0 : Int32) = 0 := rfl
theorem nar1 : vp_nar .boolean (1 : Int32) = 1 := rfl
theorem nI_m1 (n : Nat) : nI (n + 1) + (-1 : Int32) = nI n := by rw [← nI_pred n, Int32.sub_eq_add_neg]
def KV (h : PH) (c k v : Nat) : Prop := c < 6 ∧ h.1 103 c = nI k ∧ k ≤ 6 ∧ h.1 104 c = nI v ∧ v ≤ 9
theorem KV.fr {h h' : PH} {c k v : Nat} (f : FrP h h') (u : KV h c k v) : KV h' c k v := by
  unfold KV at u ⊢
  rw [f.1 103 (by decide), f.1 104 (by decide)]; exact u
theorem factOfM {F : Nat} {h : PH} {c k v d f : Nat} (u : KV h c k v) (hd : d < 2 ^ 30) (hf : f < 6) : f_X10_factOf F (nI f) (nI c) (nI d) h = some (nI (factA f c k v d), h) := by
  obtain ⟨u1, u2, u3, u4, u5⟩ := u
  have hi : inb (nI c) 6 = true := inb_nI u1 (by decide)
  have n10 : ¬ (10 : Int32) = 0 := by decide
  have n100 : ¬ (100 : Int32) = 0 := by decide
  have e1 : jrem (nI d) (10 : Int32) = nI (d % 10) := jrem_nI (by omega) (by decide) (by decide)
  have e2 : nI d / (10 : Int32) = nI (d / 10) := pk_div (by omega) (by decide) (by decide)
  have e3 : jrem (nI (d / 10)) (10 : Int32) = nI (d / 10 % 10) := jrem_nI (by omega) (by decide) (by decide)
  have e4 : jrem (nI d) (100 : Int32) = nI (d % 100) := jrem_nI (by omega) (by decide) (by decide)
  unfold f_X10_factOf factA
  have : f = 0 ∨ f = 1 ∨ f = 2 ∨ f = 3 ∨ f = 4 ∨ f = 5 := by omega
  rcases this with rfl | rfl | rfl | rfl | rfl | rfl
  · rfl
  · rw [if_neg (show ¬ nI 1 = (0 : Int32) by decide), if_pos (show nI 1 = (1 : Int32) by decide), if_pos hi, ix_nI (by omega), u2]; rfl
  · rw [if_neg (show ¬ nI 2 = (0 : Int32) by decide), if_neg (show ¬ nI 2 = (1 : Int32) by decide), if_pos (show nI 2 = (2 : Int32) by decide), if_pos hi, ix_nI (by omega), u4]; rfl
  · rw [if_neg (show ¬ nI 3 = (0 : Int32) by decide), if_neg (show ¬ nI 3 = (1 : Int32) by decide), if_neg (show ¬ nI 3 = (2 : Int32) by decide), if_pos (show nI 3 = (3 : Int32) by decide), if_neg n10, e1]; rfl
  · rw [if_neg (show ¬ nI 4 = (0 : Int32) by decide), if_neg (show ¬ nI 4 = (1 : Int32) by decide), if_neg (show ¬ nI 4 = (2 : Int32) by decide), if_neg (show ¬ nI 4 = (3 : Int32) by decide), if_pos (show nI 4 = (4 : Int32) by decide), if_neg n10, if_neg n10, e2, e3]; rfl
  · rw [if_neg (show ¬ nI 5 = (0 : Int32) by decide), if_neg (show ¬ nI 5 = (1 : Int32) by decide), if_neg (show ¬ nI 5 = (2 : Int32) by decide), if_neg (show ¬ nI 5 = (3 : Int32) by decide), if_neg (show ¬ nI 5 = (4 : Int32) by decide), if_neg n100, e4]; rfl
theorem holdsM_loop {F idx e c k v d : Nat} (hidx : idx < 60) (he : e ≤ 600) (hd : d < 2 ^ 30) : ∀ (ts : List Int) (i : Nat) (st : List Bool) (f : Nat) (h : PH), i + ts.length = e → ts.length < f → st.length ≤ 11 → okT ts st.length 1 → h.1 112 idx = nI e → atS (h.1 113) mT i ts → KV h c k v → pileOK h st →
    ∃ h', fL_X10_holds_11 F f (nI idx) (nI c) (nI d) (nI st.length) (nI i) h = some (b2i ((ts.foldl (stepT c k v d) st).headD false), h') ∧ FrP h h' := by
  intro ts
  induction ts with
  | nil =>
    intro i st f h hi hf hl ok h112 at_ kv pl
    obtain ⟨f, rfl⟩ : ∃ m, f = m + 1 := ⟨f - 1, by omega⟩
    have hi' : i = e := by simpa using hi
    subst hi'
    have ok' : st.length = 1 := ok
    rw [fL_X10_holds_11, if_pos (inb_nI hidx (by decide)), ix_nI (by omega), h112, if_l (by omega) (by omega), if_pos (Nat.le_refl _), if_pos (show inb (0 : Int32) 100 = true by decide)]
    match st, ok', pl with
    | [b], _, pl =>
      have hp : h.1 116 0 = b2i b := pl.1
      rw [show ix (0 : Int32) = 0 from rfl, hp]
      exact ⟨h, by cases b <;> rfl, FrP.refl h⟩
  | cons t ts ih =>
    intro i st f h hi hf hl ok h112 at_ kv pl
    obtain ⟨f, rfl⟩ : ∃ m, f = m + 1 := ⟨f - 1, by omega⟩
    rw [List.length_cons] at hi hf
    -- one step further, the pile alone touched
    have go : ∀ (st' : List Bool) (h1 : PH), FrP h h1 → st'.length ≤ 11 → okT ts st'.length 1 → pileOK h1 st' → stepT c k v d st t = st' →
        ∃ h', fL_X10_holds_11 F f (nI idx) (nI c) (nI d) (nI st'.length) (nI (i + 1)) h1 = some (b2i (((t :: ts).foldl (stepT c k v d) st).headD false), h') ∧ FrP h h' := by
      intro st' h1 fr hl' ok' pl' hs
      obtain ⟨h', e1, e2⟩ := ih (i + 1) st' f h1 (by omega) (by omega) hl' ok' (by rw [fr.1 112 (by decide)]; exact h112) (by rw [fr.1 113 (by decide)]; exact at_.2) (kv.fr fr) pl'
      exact ⟨h', by rw [e1, List.foldl_cons, hs], fr.trans e2⟩
    rw [fL_X10_holds_11, if_pos (inb_nI hidx (by decide)), ix_nI (by omega), h112, if_l (by omega) (by omega), if_neg (by omega), if_pos (inb_nI (by omega) (by decide)), ix_nI (by omega), at_.1, nI_1]
    rcases ok with ⟨rfl, g, r⟩ | ⟨o, g, r⟩ | ⟨o, g, r⟩
    · rw [if_pos (show mT (-1) = (-33 : Int32) from rfl)]
      match st, g, hl, r, pl with
      | b :: s, _, hl, r, pl =>
        rw [List.length_cons] at hl r ⊢
        have hin : inb (nI s.length) 100 = true := inb_nI (by omega) (by decide)
        rw [nI_pred, if_pos hin, ix_nI (by omega), pl.1, if_pos hin, if_pos hin, lth_eq, lth_eq]
        cases b with
        | true =>
          rw [if_neg (show ¬ b2i true = 0 by decide)]
          exact go (false :: s) _ FrP.w hl r (pileOK_put rfl rfl pl.2) rfl
        | false =>
          rw [if_pos (show b2i false = 0 by decide)]
          exact go (true :: s) _ FrP.w hl r (pileOK_put rfl rfl pl.2) rfl
    · match st, g, hl, r, pl with
      | b :: a :: s, _, hl, r, pl =>
        rw [List.length_cons, List.length_cons] at hl r ⊢
        have hin : inb (nI s.length) 100 = true := inb_nI (by omega) (by decide)
        have hin1 : inb (nI (s.length + 1)) 100 = true := inb_nI (by omega) (by decide)
        have pb : h.1 116 (s.length + 1) = b2i b := pl.1
        have pa : h.1 116 s.length = b2i a := pl.2.1
        have hr : okT ts (s.length + 1) 1 := by simpa using r
        rcases o with rfl | rfl
        · rw [if_neg (show ¬ mT (-2) = (-33 : Int32) by decide), if_neg (show ¬ (0 : Int32) ≤ mT (-2) by decide), if_pos (show mT (-2) = (-38 : Int32) by decide), nI_m1, nI_pred]
          simp only [if_pos hin, if_pos hin1, lth_eq, ix_nI (show s.length < 2 ^ 31 by omega), ix_nI (show s.length + 1 < 2 ^ 31 by omega), pa, pb]
          cases a with
          | false =>
            rw [if_pos (show b2i false = 0 by decide)]
            exact go (false :: s) _ FrP.w (by simp; omega) hr (pileOK_put rfl rfl pl.2.2) rfl
          | true =>
            rw [if_neg (show ¬ b2i true = 0 by decide)]
            cases b with
            | false =>
              rw [if_pos (show b2i false = 0 by decide)]
              exact go (false :: s) _ FrP.w (by simp; omega) hr (pileOK_put rfl rfl pl.2.2) rfl
            | true =>
              rw [if_neg (show ¬ b2i true = 0 by decide)]
              exact go (true :: s) _ FrP.w (by simp; omega) hr (pileOK_put rfl rfl pl.2.2) rfl
        · rw [if_neg (show ¬ mT (-3) = (-33 : Int32) by decide), if_neg (show ¬ (0 : Int32) ≤ mT (-3) by decide), if_neg (show ¬ mT (-3) = (-38 : Int32) by decide), nI_m1, nI_pred]
          simp only [if_pos hin, if_pos hin1, lth_eq, ix_nI (show s.length < 2 ^ 31 by omega), ix_nI (show s.length + 1 < 2 ^ 31 by omega), pa, pb]
          cases a with
          | true =>
            rw [if_neg (show ¬ b2i true = 0 by decide)]
            exact go (true :: s) _ FrP.w (by simp; omega) hr (pileOK_put rfl rfl pl.2.2) rfl
          | false =>
            rw [if_pos (show b2i false = 0 by decide)]
            cases b with
            | false =>
              rw [if_pos (show b2i false = 0 by decide)]
              exact go (false :: s) _ FrP.w (by simp; omega) hr (pileOK_put rfl rfl pl.2.2) rfl
            | true =>
              rw [if_neg (show ¬ b2i true = 0 by decide)]
              exact go (true :: s) _ FrP.w (by simp; omega) hr (pileOK_put rfl rfl pl.2.2) rfl
    · have hst : stepT c k v d st t = tstA t.toNat c k v d :: st := by
        have := o.1
        unfold stepT
        rw [if_neg (by omega), if_neg (by omega), if_neg (by omega)]
      obtain ⟨t0, t1, t2⟩ := o
      obtain ⟨n, rfl⟩ : ∃ n : Nat, t = n := ⟨t.toNat, by omega⟩
      have hm : mT (n : Int) = nI n := by unfold mT; rw [if_pos (by omega)]; rfl
      have hin : inb (nI st.length) 100 = true := inb_nI (by omega) (by decide)
      have gob : ∀ b, tstA n c k v d = b → ∃ h', fL_X10_holds_11 F f (nI idx) (nI c) (nI d) (nI st.length + (1 : Int32)) (nI (i + 1)) (wI h 116 st.length (b2i b)) = some (b2i ((((n : Int) :: ts).foldl (stepT c k v d) st).headD false), h') ∧ FrP h h' := by
        intro b hb
        rw [nI_1]
        exact go (b :: st) _ FrP.w (by simp; omega) r (pileOK_put rfl rfl pl) (by rw [hst, ← hb]; rfl)
      have hfl := factA_lt (f := n / 1000) (d := d) kv.1 kv.2.2.1 kv.2.2.2.2
      have e1 : nI n / (1000 : Int32) = nI (n / 1000) := pk_div (by omega) (by decide) (by decide)
      have e2 : nI n / (100 : Int32) = nI (n / 100) := pk_div (by omega) (by decide) (by decide)
      have e3 : jrem (nI (n / 100)) (10 : Int32) = nI (n / 100 % 10) := jrem_nI (by omega) (by decide) (by decide)
      have e4 : jrem (nI n) (100 : Int32) = nI (n % 100) := jrem_nI (by omega) (by decide) (by decide)
      rw [hm, if_neg (show ¬ nI n = (-33 : Int32) from fun q => nI_pos (show n < 2 ^ 31 by omega) (by rw [q]; decide)), if_pos (show (0 : Int32) ≤ nI n by rw [li0, nI_le2 (by decide) (by omega)]; omega), if_neg (show ¬ (1000 : Int32) = 0 by decide), e1, factOfM kv hd (by omega), bnd_some, e2, e3, e4,
        if_neg (show ¬ (100 : Int32) = 0 by decide), if_neg (show ¬ (10 : Int32) = 0 by decide), if_neg (show ¬ (100 : Int32) = 0 by decide), if_neg (show ¬ (100 : Int32) = 0 by decide), if_neg (show ¬ (100 : Int32) = 0 by decide), li0, li1, if_e (by omega) (by decide), if_e (by omega) (by decide), if_l (by omega) (by omega), if_l (by omega) (by omega), if_e (by omega) (by omega), ix_nI (by omega)]
      simp only [if_pos hin, lth_eq]
      by_cases h0 : n / 100 % 10 = 0
      · rw [if_pos h0]
        by_cases h1 : n % 100 ≤ factA (n / 1000) c k v d
        · rw [if_pos h1]
          exact gob false (by unfold tstA; rw [if_pos h0]; simp; omega)
        · rw [if_neg h1]
          exact gob true (by unfold tstA; rw [if_pos h0]; simp; omega)
      · rw [if_neg h0]
        by_cases h2 : n / 100 % 10 = 1
        · rw [if_pos h2]
          by_cases h1 : factA (n / 1000) c k v d = n % 100
          · rw [if_pos h1]
            exact gob true (by unfold tstA; rw [if_neg h0, if_pos h2]; simp; omega)
          · rw [if_neg h1]
            exact gob false (by unfold tstA; rw [if_neg h0, if_pos h2]; simp; omega)
        · rw [if_neg h2]
          by_cases h1 : factA (n / 1000) c k v d ≤ n % 100
          · rw [if_pos h1]
            exact gob false (by unfold tstA; rw [if_neg h0, if_neg h2]; simp; omega)
          · rw [if_neg h1]
            exact gob true (by unfold tstA; rw [if_neg h0, if_neg h2]; simp; omega)
