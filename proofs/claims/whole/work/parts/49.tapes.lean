-- tapes
theorem tapeC {F : Nat} {a : Int32} {h : PH} : f_X9_isTape F a h = some (if inb a 6 = true then 1 else 0, h) := by
  unfold f_X9_isTape
  by_cases hi : inb a 6 = true
  · obtain ⟨c, hc, rfl⟩ := inb_lt hi (by decide)
    rw [if_neg (nI_pos (by omega)), li6, if_neg (nI_ge hc (by decide)), if_pos hi]
  · rw [if_neg hi]
    rcases inb_false hi with h1 | h1
    · rw [if_pos h1]
    · by_cases h2 : a < 0
      · rw [if_pos h2]
      · rw [if_neg h2, li6, if_pos]
        apply Int32.le_iff_toInt_le.mpr
        rw [nI_toInt (by decide)]; exact h1
theorem tapeM {F : Nat} {a : Int32} {o : PH} : f_X10_isTape F a o = some (if inb a 6 = true then 1 else 0, o) := by
  unfold f_X10_isTape
  rw [in_eq, bnd_some, show (5 : Int32) = nI 6 - 1 from rfl, wth_pred (by decide)]
  by_cases hi : inb a 6 = true
  · rw [if_pos hi]; rfl
  · rw [if_neg hi]; rfl
theorem isTape_at {t : Nat} (ht : t < 6) : isTape (90 + 2 * t) = true := by
  have : t = 0 ∨ t = 1 ∨ t = 2 ∨ t = 3 ∨ t = 4 ∨ t = 5 := by omega
  rcases this with rfl | rfl | rfl | rfl | rfl | rfl <;> rfl
theorem hasC {F t n : Nat} {a : Int32} {h : PH} (ht : t < 6) (hn : n ≤ 60) (hl : h.1 (90 + 2 * t) 1 = nI n) : f_X8_has F (90 + 2 * t) a h = some (if inb a n = true then 1 else 0, h) := by
  unfold f_X8_has
  rw [if_pos (isTape_at ht), hl]
  by_cases hi : inb a n = true
  · obtain ⟨c, hc, rfl⟩ := inb_lt hi (by omega)
    rw [if_neg (nI_pos (by omega)), if_neg (nI_ge hc (by omega)), if_pos hi]
  · rw [if_neg hi]
    rcases inb_false hi with h1 | h1
    · rw [if_pos h1]
    · by_cases h2 : a < 0
      · rw [if_pos h2]
      · rw [if_neg h2, if_pos]
        apply Int32.le_iff_toInt_le.mpr
        rw [nI_toInt (by omega)]; exact h1
theorem Sim.tap {h h' o o' : PH} {g : SG} {b : BT} {cs : CS} (c : CoreC h g b cs) (m : CoreM o g b cs) (ht : cs.1 ≤ 9999) (r : Rest h o g.1) (hc : ∀ a, a < 90 → h'.1 a = h.1 a) (h2 : h'.2.2 = h.2.2) (hm : ∀ a, a ≠ 139 → a ≠ 140 → o'.1 a = o.1 a) (n : TapS h' o') : Sim h' o' := by
  obtain ⟨r1, r2, r3, r4, r5, r6, r7, r8, r9⟩ := r
  have ho : ∀ i, o'.1 102 i = o.1 102 i := fun i => by rw [hm 102 (by decide) (by decide)]
  exact ⟨g, b, cs, c.eq (fun a ha => hc a (by omega)) (by rw [h2]), m.eq (fun a ha => hm a (by omega) (by omega)) (fun i hi => ho i), ht,
    r1.eq (by rw [hc 31 (by omega)]) (hc _ (by omega)) (ho _) (hm _ (by omega) (by omega)) (hm _ (by omega) (by omega)), r2.eq (by rw [hc 0 (by omega)]) h2 (ho _) (ho _) (ho _), r3.eq (by rw [hc 9 (by omega)]) (by rw [hc 11 (by omega)]) (by rw [hc 13 (by omega)]),
    r4.eq (by rw [hc 9 (by omega)]) (hc _ (by omega)) (ho _) (hm _ (by omega) (by omega)) (hm _ (by omega) (by omega)) (hm _ (by omega) (by omega)), r5.eq (by rw [hc 11 (by omega)]) (hc _ (by omega)) (ho _) (hm _ (by omega) (by omega)), r6.eq (by rw [hc 13 (by omega)]) (hc _ (by omega)) (ho _) (hm _ (by omega) (by omega)) (hm _ (by omega) (by omega)),
    r7.eq (fun a ha => hc a (by omega)) (by rw [hc 0 (by omega)]) (by rw [h2]) (fun a ha => hm a (by omega) (by omega)) (fun i h1 h2 => ho i), r8.eq (by rw [hc 63 (by omega)]) (hc _ (by omega)) (ho _) (hm _ (by omega) (by omega)), n⟩
theorem st_read {F : Nat} {h o : PH} {x y : Int32} (s : Sim h o) : Step (f_X9_read F x y) (f_X10_read F x y) h o := by
  have same := s
  obtain ⟨g, b, cs, c, m, ht, r⟩ := s
  have tp := r.2.2.2.2.2.2.2.2
  unfold Step f_X9_read f_X10_read
  rw [tapeC, tapeM, bnd_some, bnd_some]
  by_cases hx : inb x 6 = true
  · obtain ⟨t, ht6, rfl⟩ := inb_lt hx (by decide)
    obtain ⟨s, n, n1, s1, sn, a1, a2, a3, a4, a5⟩ := tp t ht6
    simp only [if_pos hx]
    rw [if_neg (show ¬ (1 : Int32) = 0 by decide), if_neg (show ¬ (1 : Int32) = 0 by decide), ix_nI (by omega), hasC ht6 n1 a3, bnd_some, a2, a4, in_eq, bnd_some, wth_pred (by omega)]
    by_cases h5 : s = 5
    · have : n = 0 := sn h5
      subst this
      have hn : ¬ inb y 0 = true := fun q => by
        obtain ⟨c, hc, _⟩ := inb_lt q (by decide)
        omega
      rw [if_pos h5, if_neg hn, if_pos (show (0 : Int32) = 0 from rfl), if_pos (show (-1 : Int32) < 0 by decide)]
      exact ⟨_, h, o, rfl, rfl, same⟩
    · rw [if_neg h5, if_neg (nI_pos (show s < 2 ^ 31 by omega))]
      by_cases hy : inb y n = true
      · obtain ⟨i, hi, rfl⟩ := inb_lt hy (by omega)
        rw [if_pos hy, if_neg (show ¬ (1 : Int32) = 0 by decide), if_neg (show ¬ (1 : Int32) = 0 by decide), if_pos (inb_nI (show i < 60 by omega) (by decide)), show (60 : Int32) = nI 60 from rfl, pk_mul, nI_add, if_pos (inb_nI (show 60 * t + i < 360 by omega) (by decide)), ix_nI (by omega), ix_nI (by omega), a5 i (by omega)]
        exact ⟨_, h, o, rfl, rfl, same⟩
      · rw [if_neg hy, if_pos (show (0 : Int32) = 0 from rfl), if_pos (show (0 : Int32) = 0 from rfl)]
        exact ⟨_, h, o, rfl, rfl, same⟩
  · rw [if_neg hx, if_pos (show (0 : Int32) = 0 from rfl), if_pos (show (0 : Int32) = 0 from rfl)]
    exact ⟨_, h, o, rfl, rfl, same⟩
theorem cuts {F s t : Nat} {z : Int64} {h o : PH} (ht : t < 6) (hs : s ≤ 4) (h0 : h.1 (90 + 2 * t) 0 = nI s) : ∃ v, f_X8_cut F (90 + 2 * t) z h = some (v, h) ∧ f_X10_narrow F (nI s) z o = some (v, o) := by
  unfold f_X8_cut f_X10_narrow
  rw [if_pos (isTape_at ht), h0]
  have : s = 0 ∨ s = 1 ∨ s = 2 ∨ s = 3 ∨ s = 4 := by omega
  rcases this with rfl | rfl | rfl | rfl | rfl
  · exact ⟨_, rfl, rfl⟩
  · exact ⟨_, rfl, rfl⟩
  · exact ⟨_, rfl, rfl⟩
  · exact ⟨_, rfl, rfl⟩
  · by_cases hz : lg_cmp z 0 = 0
    · exact ⟨0, by rw [if_neg (by decide), if_neg (by decide), if_neg (by decide), if_neg (by decide), if_pos (by decide), if_pos hz], by rw [if_neg (by decide), if_neg (by decide), if_neg (by decide), if_pos (by decide), if_pos hz]⟩
    · exact ⟨1, by rw [if_neg (by decide), if_neg (by decide), if_neg (by decide), if_neg (by decide), if_pos (by decide), if_neg hz], by rw [if_neg (by decide), if_neg (by decide), if_neg (by decide), if_pos (by decide), if_neg hz]⟩
theorem st_item {F : Nat} {h o : PH} {x y : Int32} {z : Int64} (s : Sim h o) : Step (f_X9_item F x y z) (f_X10_item F x y z) h o := by
  have same := s
  obtain ⟨g, b, cs, c, m, ht, r⟩ := s
  have tp := r.2.2.2.2.2.2.2.2
  unfold Step f_X9_item f_X10_item
  rw [tapeC, tapeM, bnd_some, bnd_some]
  by_cases hx : inb x 6 = true
  · obtain ⟨t, ht6, rfl⟩ := inb_lt hx (by decide)
    obtain ⟨s, n, n1, s1, sn, a1, a2, a3, a4, a5⟩ := tp t ht6
    simp only [if_pos hx]
    rw [if_neg (show ¬ (1 : Int32) = 0 by decide), if_neg (show ¬ (1 : Int32) = 0 by decide), ix_nI (by omega), hasC ht6 n1 a3, bnd_some, a1, a2, a4, in_eq, bnd_some, wth_pred (by omega)]
    by_cases h5 : s = 5
    · rw [if_pos h5, if_pos (show (-1 : Int32) = -1 from rfl), if_neg (show ¬ (0 : Int32) ≤ -1 by decide)]
      exact ⟨_, h, o, rfl, rfl, same⟩
    · rw [if_neg h5, if_neg (show ¬ nI s = -1 from fun q => nI_pos (show s < 2 ^ 31 by omega) (by rw [q]; decide)), if_pos (show (0 : Int32) ≤ nI s from nI_pos' (by omega))]
      rw [if_neg h5] at a1
      by_cases hy : inb y n = true
      · obtain ⟨i, hi, rfl⟩ := inb_lt hy (by omega)
        obtain ⟨v, v1, v2⟩ := cuts (F := F) (z := z) (h := h) (o := o) ht6 (show s ≤ 4 by omega) a1
        rw [if_pos hy, if_neg (show ¬ (1 : Int32) = 0 by decide), if_neg (show ¬ (1 : Int32) = 0 by decide), v1, a2, if_neg h5, v2, bnd_some, bnd_some, if_pos (inb_nI (show i < 60 by omega) (by decide)), show (60 : Int32) = nI 60 from rfl, pk_mul, nI_add, if_pos (inb_nI (show 60 * t + i < 360 by omega) (by decide)), ix_nI (by omega), ix_nI (by omega), lth_eq, lth_eq]
        refine ⟨_, _, _, rfl, rfl, Sim.tap c m ht r (fun a ha => rfl) rfl (fun a _ _ => rfl) ?_⟩
        intro t' ht'
        obtain ⟨s', n', n1', s1', sn', a1', a2', a3', a4', a5'⟩ := tp t' ht'
        refine ⟨s', n', n1', s1', sn', a1', a2', a3', a4', fun i' hi' => ?_⟩
        rw [rL, rL]
        by_cases hq : t' = t ∧ i' = i
        · rw [if_pos (by omega), if_pos (by omega)]
        · rw [if_neg (by omega), if_neg (by omega)]
          exact a5' i' hi'
      · rw [if_neg hy, if_pos (show (0 : Int32) = 0 from rfl), if_pos (show (0 : Int32) = 0 from rfl)]
        exact ⟨_, h, o, rfl, rfl, same⟩
  · rw [if_neg hx, if_pos (show (0 : Int32) = 0 from rfl), if_pos (show (0 : Int32) = 0 from rfl)]
    exact ⟨_, h, o, rfl, rfl, same⟩
theorem fillC {F t : Nat} (ht : t < 6) : ∀ (m k f : Nat) (h : PH), k + m = 60 → m < f → ∃ h', fL_J7_fill_d0a16_6 F f (90 + 2 * t) (0 : Int64) (nI k) (60 : Int32) h = some ((), h') ∧ h'.1 = h.1 ∧ h'.2.2 = h.2.2 ∧ (∀ a, a ≠ 90 + 2 * t + 1 → h'.2.1 a = h.2.1 a) ∧ ∀ i, i < 60 → h'.2.1 (90 + 2 * t + 1) i = if k ≤ i then 0 else h.2.1 (90 + 2 * t + 1) i := by
  intro m
  induction m with
  | zero =>
    intro k f h hk hf
    obtain ⟨f, rfl⟩ : ∃ m, f = m + 1 := ⟨f - 1, by omega⟩
    refine ⟨h, ?_, rfl, rfl, fun _ _ => rfl, fun i hi => by rw [if_neg (by omega)]⟩
    rw [fL_J7_fill_d0a16_6, show (60 : Int32) = nI 60 from rfl, if_l (by decide) (by omega), if_pos (show 60 ≤ k by omega)]
  | succ m ih =>
    intro k f h hk hf
    obtain ⟨f, rfl⟩ : ∃ m, f = m + 1 := ⟨f - 1, by omega⟩
    obtain ⟨h', e1, e2, e3, e4, e5⟩ := ih (k + 1) f (wL h (90 + 2 * t + 1) k 0) (by omega) (by omega)
    refine ⟨h', ?_, e2, e3, fun a ha => (e4 a ha).trans (by funext b; rw [rL, if_neg (fun q => ha q.1)]), fun i hi => ?_⟩
    · rw [fL_J7_fill_d0a16_6, show (60 : Int32) = nI 60 from rfl, if_l (by decide) (by omega), if_neg (show ¬ 60 ≤ k by omega), if_pos (inb_nI (show k < 60 by omega) (by decide)), lth_eq, ix_nI (by omega), nI_1]
      exact e1
    · rw [e5 i hi, rL]
      by_cases h1 : i = k
      · rw [if_neg (by omega), if_pos ⟨rfl, h1⟩, if_pos (by omega)]
      · by_cases h2 : k + 1 ≤ i
        · rw [if_pos h2, if_pos (by omega)]
        · rw [if_neg h2, if_neg (fun q => h1 q.2), if_neg (by omega)]
theorem fillM {F t : Nat} (ht : t < 6) : ∀ (m k f : Nat) (o : PH), k + m = 60 → m < f → ∃ o', fL_X10_tape_69 F f (nI t) (nI k) o = some (1, o') ∧ o'.1 = o.1 ∧ o'.2.2 = o.2.2 ∧ ∀ i, o'.2.1 141 i = if 60 * t + k ≤ i ∧ i < 60 * t + 60 then 0 else o.2.1 141 i := by
  intro m
  induction m with
  | zero =>
    intro k f o hk hf
    obtain ⟨f, rfl⟩ : ∃ m, f = m + 1 := ⟨f - 1, by omega⟩
    refine ⟨o, ?_, rfl, rfl, fun i => by rw [if_neg (by omega)]⟩
    rw [fL_X10_tape_69, show (60 : Int32) = nI 60 from rfl, if_l (by decide) (by omega), if_pos (show 60 ≤ k by omega)]
  | succ m ih =>
    intro k f o hk hf
    obtain ⟨f, rfl⟩ : ∃ m, f = m + 1 := ⟨f - 1, by omega⟩
    obtain ⟨o', e1, e2, e3, e5⟩ := ih (k + 1) f (wL o 141 (60 * t + k) 0) (by omega) (by omega)
    refine ⟨o', ?_, e2, e3, fun i => ?_⟩
    · rw [fL_X10_tape_69, show (60 : Int32) = nI 60 from rfl, if_l (by decide) (by omega), if_neg (show ¬ 60 ≤ k by omega), pk_mul, nI_add, if_pos (inb_nI (show 60 * t + k < 360 by omega) (by decide)), lth_eq, ix_nI (by omega), nI_1]
      exact e1
    · rw [e5 i, rL]
      by_cases h1 : i = 60 * t + k
      · rw [if_neg (by omega), if_pos ⟨rfl, h1⟩, if_pos (by omega)]
      · by_cases h2 : 60 * t + (k + 1) ≤ i ∧ i < 60 * t + 60
        · rw [if_pos h2, if_pos (by omega)]
        · rw [if_neg h2, if_neg (fun q => h1 q.2), if_neg (by omega)]
theorem becomes {F t s n : Nat} {h o : PH} {g : SG} {b : BT} {cs : CS} {S N : Int32} (hF : FOK F) (c : CoreC h g b cs) (m : CoreM o g b cs) (hcs : cs.1 ≤ 9999) (r : Rest h o g.1) (ht : t < 6) (hn : n ≤ 60) (hs : s ≤ 5) (hsn : s = 5 → n = 0) (hS : S = if s = 5 then -1 else nI s) (hN : s < 5 → N = nI n) :
    ∃ h' o', f_X8_become F (90 + 2 * t) S (nI n) h = some ((), h') ∧ fL_X10_tape_44 F (nI t) S N o = some (1, o') ∧ Sim h' o' := by
  unfold FOK at hF
  obtain ⟨h', e1, e2, e3, e4, e5⟩ := fillC (F := F) ht 60 0 F (wI (wI h (90 + 2 * t) 0 S) (90 + 2 * t) 1 (nI n)) rfl (by omega)
  obtain ⟨o', f1, f2, f3, f5⟩ := fillM (F := F) ht 60 0 F (wI (wI o 139 t S) 140 t (nI n)) rfl (by omega)
  have tp := r.2.2.2.2.2.2.2.2
  refine ⟨h', o', ?_, ?_, Sim.tap c m hcs r (fun a ha => by rw [e2, rI_ne (by omega), rI_ne (by omega)]) (by rw [e3]; rfl) (fun a u v => by rw [f2, rI_ne v, rI_ne u]) ?_⟩
  · unfold f_X8_become f_J7_fill_d0a16
    rw [if_pos (isTape_at ht), lth_eq, lth_eq, if_pos (isTape_at ht)]
    rw [show fL_J7_fill_d0a16_6 F F (90 + 2 * t) (0 : Int64) (0 : Int32) (60 : Int32) (wI (wI h (90 + 2 * t) 0 S) (90 + 2 * t) 1 (nI n)) = _ from e1, bnd_some]
  · unfold fL_X10_tape_44
    have hin : inb (nI t) 6 = true := inb_nI ht (by decide)
    rw [if_pos hin, lth_eq, ix_nI (by omega)]
    by_cases h5 : s = 5
    · rw [hS, if_pos h5, if_neg (show ¬ (0 : Int32) ≤ -1 by decide), if_pos hin, lth_eq]
      rw [hS, if_pos h5, hsn h5] at f1
      exact f1
    · rw [hS, if_neg h5, if_pos (show (0 : Int32) ≤ nI s from nI_pos' (by omega)), if_pos hin, lth_eq, hN (by omega)]
      rw [hS, if_neg h5] at f1
      exact f1
  · intro t' ht'
    obtain ⟨s', n', n1', s1', sn', a1', a2', a3', a4', a5'⟩ := tp t' ht'
    by_cases htt : t' = t
    · subst htt
      refine ⟨s, n, hn, hs, hsn, by rw [e2, rI_sl (by decide), rI_eq]; exact hS, by rw [f2, rI_ne (by decide), rI_eq]; exact hS, by rw [e2, rI_eq], by rw [f2, rI_eq], fun i hi => ?_⟩
      rw [e5 i hi, f5, if_pos (by omega), if_pos (by omega)]
    · refine ⟨s', n', n1', s1', sn', by rw [e2, rI_ne (by omega), rI_ne (by omega)]; exact a1', by rw [f2, rI_ne (by decide), rI_sl htt]; exact a2', by rw [e2, rI_ne (by omega), rI_ne (by omega)]; exact a3', by rw [f2, rI_sl htt, rI_ne (by decide)]; exact a4', fun i hi => ?_⟩
      rw [e4 _ (by omega), f5, if_neg (by omega)]
      exact a5' i hi
theorem st_tape {F : Nat} {h o : PH} {x y z : Int32} (hF : FOK F) (s : Sim h o) : Step (f_X9_tape F x y z) (f_X10_tape F x y z) h o := by
  have same := s
  obtain ⟨g, b, cs, c, m, ht, r⟩ := s
  unfold Step f_X9_tape f_X10_tape
  rw [tapeC, tapeM, bnd_some, bnd_some]
  by_cases hx : inb x 6 = true
  · obtain ⟨t, ht6, rfl⟩ := inb_lt hx (by decide)
    simp only [if_pos hx]
    rw [if_neg (show ¬ (1 : Int32) = 0 by decide), if_neg (show ¬ (1 : Int32) = 0 by decide), in_eq, within_eq, bnd_some, bnd_some, ix_nI (by omega)]
    by_cases hy : y = -1
    · obtain ⟨h', o', e1, e2, e3⟩ := becomes (s := 5) (n := 0) (S := y) (N := z) hF c m ht r ht6 (by decide) (by decide) (fun _ => rfl) hy (by omega)
      rw [if_pos hy, show f_X8_become F (90 + 2 * t) y (0 : Int32) h = _ from e1, bnd_some]
      refine ⟨1, h', o', rfl, ?_, e3⟩
      rw [hy, show wth (-1 : Int32) (-1) 4 = 1 from rfl, if_neg (show ¬ (1 : Int32) = 0 by decide), if_pos (show (-1 : Int32) < 0 by decide), if_pos (show (-1 : Int32) < 0 by decide)]
      rw [hy] at e2
      exact e2
    · rw [if_neg hy]
      by_cases hw : wth y 0 4 = 0
      · rw [if_pos hw]
        have hw2 : wth y (-1) 4 = 0 := by
          unfold wth at hw ⊢
          by_cases h1 : y < -1
          · rw [if_pos h1]
          · rw [if_neg h1]
            by_cases h2 : 4 < y
            · rw [if_pos h2]
            · rw [if_neg h2] at hw ⊢
              by_cases h3 : y < 0
              · exfalso
                apply hy
                rw [Int32.lt_iff_toInt_lt] at h1 h3
                apply Int32.toInt_inj.mp
                have e1 : (-1 : Int32).toInt = -1 := by decide
                have e0 : (0 : Int32).toInt = 0 := by decide
                omega
              · rw [if_neg h3] at hw
                exact absurd hw (by decide)
        rw [hw2, if_pos (show (0 : Int32) = 0 from rfl)]
        exact ⟨-2, h, o, rfl, rfl, same⟩
      · obtain ⟨s, hs, rfl⟩ := wth_N (m := 4) rfl (by decide) hw
        have hw2 : wth (nI s) (-1) 4 = 1 := by
          unfold wth
          rw [if_neg (show ¬ nI s < -1 by
            intro q
            have := Int32.lt_iff_toInt_lt.mp q
            rw [nI_toInt (by omega), show (-1 : Int32).toInt = -1 by decide] at this
            omega), if_neg (show ¬ (4 : Int32) < nI s by rw [li4]; exact nI_nlt hs (by decide))]
        rw [if_neg hw, hw2, if_neg (show ¬ (1 : Int32) = 0 by decide), if_neg (nI_pos (show s < 2 ^ 31 by omega)), if_neg (nI_pos (show s < 2 ^ 31 by omega))]
        by_cases h60 : z ≤ 60
        · rw [if_pos h60, if_pos h60]
          by_cases h0 : 0 ≤ z
          · rw [if_pos h0, if_pos h0]
            obtain ⟨n, hn, rfl⟩ := nI_of2 (x := z) (M := 60) (n := 60) (by decide) (Int32.not_lt.mpr h0) h60
            obtain ⟨h', o', e1, e2, e3⟩ := becomes (s := s) (n := n) (S := nI s) (N := nI n) hF c m ht r ht6 hn (by omega) (by omega) (by rw [if_neg (by omega)]) (fun _ => rfl)
            rw [e1, bnd_some]
            exact ⟨1, h', o', rfl, e2, e3⟩
          · rw [if_neg h0, if_neg h0]
            exact ⟨-14, h, o, rfl, rfl, same⟩
        · rw [if_neg h60, if_neg h60]
          exact ⟨-2, h, o, rfl, rfl, same⟩
  · rw [if_neg hx, if_pos (show (0 : Int32) = 0 from rfl), if_pos (show (0 : Int32) = 0 from rfl)]
    exact ⟨-1, h, o, rfl, rfl, same⟩
