-- judge, shift
theorem sub_toInt {a b : Nat} (ha : a < 2 ^ 31) (hb : b < 2 ^ 31) : (nI a - nI b).toInt = (a : Int) - b := by
  rw [Int32.toInt_sub, nI_toInt ha, nI_toInt hb]
  exact Int.bmod_eq_of_le (by omega) (by omega)
theorem st_judge {F : Nat} {h o : PH} {x y : Int32} (hF : FOK F) (s : Sim h o) : Step (f_X9_judge F x y) (f_X10_judge F x y) h o := by
  have same := s
  obtain ⟨g, b, cs, c, m, ht, r⟩ := s
  unfold FOK at hF
  have hg := c.1.2.1
  have tp := r.2.2.2.2.2.2.2.2
  unfold Step f_X9_judge f_X10_judge
  rw [tapeC, tapeM, bnd_some, bnd_some]
  by_cases hx : inb x 6 = true
  · obtain ⟨t, ht6, rfl⟩ := inb_lt hx (by decide)
    obtain ⟨s, n, n1, s1, sn, a1, a2, a3, a4, a5⟩ := tp t ht6
    have hT : inb (nI t) 6 = true := hx
    simp only [if_pos hx]
    rw [if_neg (show ¬ (1 : Int32) = 0 by decide), if_neg (show ¬ (1 : Int32) = 0 by decide), ix_nI (by omega), a1, a2]
    -- the loops
    have key : ∀ (j k f p : Nat), k + j = g.1 → j < f → p + k < 2 ^ 31 → ∃ v, fL_X9_judge_41 F f (90 + 2 * t) (nI (p + k)) (nI k) h = some (v, h) ∧ fL_X10_judge_34 F f (nI t) (nI p) (nI k) o = some (v, o) := by
      intro j
      induction j with
      | zero =>
        intro k f p hk hf hp
        obtain ⟨f, rfl⟩ : ∃ m, f = m + 1 := ⟨f - 1, by omega⟩
        exact ⟨-5, by rw [fL_X9_judge_41, c.1.1, if_l (by omega) (by omega), if_pos (show g.1 ≤ k by omega)], by rw [fL_X10_judge_34, m.1.1, if_l (by omega) (by omega), if_pos (show g.1 ≤ k by omega)]⟩
      | succ j ih =>
        intro k f p hk hf hp
        obtain ⟨f, rfl⟩ : ∃ m, f = m + 1 := ⟨f - 1, by omega⟩
        have hin : inb (nI t) 6 = true := hT
        have hk6 : inb (nI k) 6 = true := inb_nI (by omega) (by decide)
        rw [fL_X9_judge_41, fL_X10_judge_34, c.1.1, m.1.1, if_l (by omega) (by omega), if_l (by omega) (by omega), if_neg (show ¬ g.1 ≤ k by omega), if_neg (show ¬ g.1 ≤ k by omega), hasC ht6 n1 a3, bnd_some, if_pos hin, ix_nI (show t < 2 ^ 31 by omega), a2, a4, if_neg (nI_pos (show p < 2 ^ 31 by omega)), if_pos hin, nI_1, nI_1]
        have hle : (nI p ≤ nI n - nI k - (1 : Int32)) ↔ p + k + 1 ≤ n := by
          rw [li1, sub_sub_nI, Int32.le_iff_toInt_le, nI_toInt (by omega), sub_toInt (by omega) (by omega)]; omega
        by_cases hpk : p + k < n
        · have h5 : ¬ s = 5 := fun q => by have := sn q; omega
          obtain ⟨v, v1, v2⟩ := ih (k + 1) f p (by omega) (by omega) (by omega)
          rw [if_pos (inb_nI hpk (by omega)), if_neg (show ¬ (1 : Int32) = 0 by decide), if_pos (inb_nI (show p + k < 60 by omega) (by decide)), if_pos hk6, if_neg h5, if_neg (nI_pos (show s < 2 ^ 31 by omega)), if_pos (hle.mpr (by omega)), show (60 : Int32) = nI 60 from rfl, pk_mul, nI_add, nI_add, if_pos (inb_nI (show 60 * t + p + k < 360 by omega) (by decide)), if_pos hk6, ix_nI (show p + k < 2 ^ 31 by omega), ix_nI (show k < 2 ^ 31 by omega), ix_nI (show 60 * t + p + k < 2 ^ 31 by omega), a5 (p + k) (by omega), show h.1 7 k = _ from (c.2.1.2 k (by omega)).1, (m.2.1.2.2 k (by omega)).1, Nat.add_assoc (60 * t) p k]
          by_cases he : lg_cmp (o.2.1 141 (60 * t + (p + k))) (nI (cs.2.1 k)).toInt64 = 0
          · rw [if_pos he, if_pos he]
            exact ⟨v, v1, v2⟩
          · rw [if_neg he, if_neg he]
            exact ⟨_, rfl, rfl⟩
        · have hn : ¬ inb (nI (p + k)) n = true := fun q => by
            obtain ⟨d, hd, e⟩ := inb_lt q (by omega)
            have := (nI_eq (by omega) (by omega)).mp e
            omega
          rw [if_neg hn, if_pos (show (0 : Int32) = 0 from rfl), if_neg (show ¬ nI p ≤ nI n - nI k - (1 : Int32) from fun q => hpk (by have := hle.mp q; omega)), ite_self]
          exact ⟨_, rfl, rfl⟩
    have out : ∃ v h' o', fL_X9_judge_41 F F (90 + 2 * t) y (0 : Int32) h = some (v, h') ∧ fL_X10_judge_34 F F (nI t) y (0 : Int32) o = some (v, o') ∧ Sim h' o' := by
      by_cases hy : y < 0
      · obtain ⟨f, rfl⟩ : ∃ m, F = m + 1 := ⟨F - 1, by omega⟩
        have hn : ¬ inb y n = true := fun q => by
          obtain ⟨d, hd, e⟩ := inb_lt q (by omega)
          rw [e] at hy
          exact nI_pos (by omega) hy
        rw [fL_X9_judge_41, fL_X10_judge_34, c.1.1, m.1.1]
        by_cases h0 : nI g.1 ≤ 0
        · rw [if_pos h0, if_pos h0]; exact ⟨_, h, o, rfl, rfl, same⟩
        · rw [if_neg h0, if_neg h0, hasC ht6 n1 a3, bnd_some, if_neg hn, if_pos (show (0 : Int32) = 0 from rfl), if_pos hT, if_pos hy]
          refine ⟨_, h, o, rfl, ?_, same⟩
          split <;> rfl
      · obtain ⟨p, hp, rfl⟩ := nI_of hy
        obtain ⟨v, v1, v2⟩ := key g.1 0 F p (by omega) (by omega) hp
        exact ⟨v, h, o, v1, v2, same⟩
    by_cases h5 : s = 5
    · rw [if_pos h5, if_neg (show ¬ (-1 : Int32) = 1 by decide), if_pos (show (-1 : Int32) = -1 from rfl), if_pos (show (-1 : Int32) < 0 by decide)]
      exact out
    · rw [if_neg h5, if_neg (nI_pos (show s < 2 ^ 31 by omega)), if_neg (show ¬ nI s = -1 from fun q => nI_pos (show s < 2 ^ 31 by omega) (by rw [q]; decide)), li1, if_e (by omega) (by decide), if_e (by omega) (by decide)]
      by_cases h1 : s = 1
      · rw [if_pos h1, if_pos h1]; exact out
      · rw [if_neg h1, if_neg h1]; exact ⟨_, h, o, rfl, rfl, same⟩
  · rw [if_neg hx, if_pos (show (0 : Int32) = 0 from rfl), if_pos (show (0 : Int32) = 0 from rfl)]
    exact ⟨_, h, o, rfl, rfl, same⟩
theorem hasRunC {F t n : Nat} {a q : Int32} {h : PH} (ht : t < 6) (hn : n ≤ 60) (hl : h.1 (90 + 2 * t) 1 = nI n) : f_X8_hasRun F (90 + 2 * t) a q h = some (if 0 ≤ a.toInt ∧ 0 ≤ q.toInt ∧ a.toInt + q.toInt ≤ n then 1 else 0, h) := by
  unfold f_X8_hasRun
  rw [if_pos (isTape_at ht), hl]
  have e0 : (0 : Int32).toInt = 0 := by decide
  by_cases h1 : a < 0
  · rw [if_pos h1, if_neg (fun z => by have := Int32.lt_iff_toInt_lt.mp h1; omega)]
  · rw [if_neg h1]
    by_cases h2 : q < 0
    · rw [if_pos h2, if_neg (fun z => by have := Int32.lt_iff_toInt_lt.mp h2; omega)]
    · rw [if_neg h2]
      obtain ⟨i, hi, rfl⟩ := nI_of h1
      obtain ⟨k, hk, rfl⟩ := nI_of h2
      rw [if_t (by omega) hk, nI_toInt hi, nI_toInt hk]
      by_cases h3 : n < k
      · rw [if_pos h3, if_neg (by omega)]
      · rw [if_neg h3]
        have hs : (nI n - nI k < nI i) ↔ n < i + k := by
          rw [Int32.lt_iff_toInt_lt, nI_toInt hi, sub_toInt (by omega) hk]; omega
        by_cases h4 : n < i + k
        · rw [if_pos (hs.mpr h4), if_neg (by omega)]
        · rw [if_neg (fun z => h4 (hs.mp z)), if_pos (by omega)]
theorem shift2 {F u j n : Nat} (hu : u < 6) (hj : j + n ≤ 60) : ∀ (m k f : Nat) (o : PH), k + m = n → m < f → ∃ o', fL_X10_shift_141 F f (nI u) (nI j) (nI n) (nI k) o = some (nI n, o') ∧ o'.1 = o.1 ∧ (∀ i, o'.2.1 141 i = if 60 * u + j + k ≤ i ∧ i < 60 * u + j + n then o.2.1 142 (i - (60 * u + j)) else o.2.1 141 i) := by
  intro m
  induction m with
  | zero =>
    intro k f o hk hf
    obtain ⟨f, rfl⟩ : ∃ m, f = m + 1 := ⟨f - 1, by omega⟩
    exact ⟨o, by rw [fL_X10_shift_141, if_l (by omega) (by omega), if_pos (show n ≤ k by omega)], rfl, fun i => by rw [if_neg (by omega)]⟩
  | succ m ih =>
    intro k f o hk hf
    obtain ⟨f, rfl⟩ : ∃ m, f = m + 1 := ⟨f - 1, by omega⟩
    obtain ⟨o', e1, e2, e3⟩ := ih (k + 1) f (wL o 141 (60 * u + j + k) (o.2.1 142 k)) (by omega) (by omega)
    refine ⟨o', ?_, e2, fun i => ?_⟩
    · rw [fL_X10_shift_141, if_l (by omega) (by omega), if_neg (show ¬ n ≤ k by omega), if_pos (inb_nI (show k < 60 by omega) (by decide)), show (60 : Int32) = nI 60 from rfl, pk_mul, nI_add, nI_add, if_pos (inb_nI (show 60 * u + j + k < 360 by omega) (by decide)), lth_eq, ix_nI (show k < 2 ^ 31 by omega), ix_nI (show 60 * u + j + k < 2 ^ 31 by omega), nI_1]
      exact e1
    · rw [e3 i, rL, rL]
      by_cases h1 : i = 60 * u + j + k
      · rw [if_neg (by omega), if_pos ⟨rfl, h1⟩, if_pos (by omega), show i - (60 * u + j) = k by omega]
      · by_cases h2 : 60 * u + j + (k + 1) ≤ i ∧ i < 60 * u + j + n
        · rw [if_pos h2, if_neg (fun q => absurd q.1 (by decide)), if_pos (by omega)]
        · rw [if_neg h2, if_neg (fun q => h1 q.2), if_neg (by omega)]
theorem shift1 {F t i u j n : Nat} (ht : t < 6) (hi : i + n ≤ 60) : ∀ (m k f : Nat) (o : PH), k + m = n → m < f → ∃ o', fL_X10_shift_104 F f (nI t) (nI i) (nI u) (nI j) (nI n) (nI k) o = fL_X10_shift_141 F F (nI u) (nI j) (nI n) (nI 0) o' ∧ o'.1 = o.1 ∧ o'.2.1 141 = o.2.1 141 ∧ ∀ p, p < n → o'.2.1 142 p = if k ≤ p then o.2.1 141 (60 * t + i + p) else o.2.1 142 p := by
  intro m
  induction m with
  | zero =>
    intro k f o hk hf
    obtain ⟨f, rfl⟩ : ∃ m, f = m + 1 := ⟨f - 1, by omega⟩
    exact ⟨o, by rw [fL_X10_shift_104, if_l (by omega) (by omega), if_pos (show n ≤ k by omega)]; rfl, rfl, rfl, fun p hp => by rw [if_neg (by omega)]⟩
  | succ m ih =>
    intro k f o hk hf
    obtain ⟨f, rfl⟩ : ∃ m, f = m + 1 := ⟨f - 1, by omega⟩
    obtain ⟨o', e1, e2, e3, e4⟩ := ih (k + 1) f (wL o 142 k (o.2.1 141 (60 * t + i + k))) (by omega) (by omega)
    have e141 : (wL o 142 k (o.2.1 141 (60 * t + i + k))).2.1 141 = o.2.1 141 := by
      funext b
      rw [rL, if_neg (fun q => absurd q.1 (by decide))]
    refine ⟨o', ?_, e2, e3.trans e141, fun p hp => ?_⟩
    · rw [fL_X10_shift_104, if_l (by omega) (by omega), if_neg (show ¬ n ≤ k by omega), show (60 : Int32) = nI 60 from rfl, pk_mul, nI_add, nI_add, if_pos (inb_nI (show 60 * t + i + k < 360 by omega) (by decide)), if_pos (inb_nI (show k < 60 by omega) (by decide)), lth_eq, ix_nI (show k < 2 ^ 31 by omega), ix_nI (show 60 * t + i + k < 2 ^ 31 by omega), nI_1]
      exact e1
    · rw [e4 p hp, e141, rL]
      by_cases h1 : p = k
      · rw [if_neg (by omega), if_pos ⟨rfl, h1⟩, if_pos (by omega), h1]
      · by_cases h2 : k + 1 ≤ p
        · rw [if_pos h2, if_pos (by omega)]
        · rw [if_neg h2, if_neg (fun q => h1 q.2), if_neg (by omega)]
theorem st_shift {F : Nat} {h o : PH} {x y z w q : Int32} (hF : FOK F) (s : Sim h o) : Step (f_X9_shift F x y z w q) (f_X10_shift F x y z w q) h o := by
  have same := s
  obtain ⟨g, b, cs, c, m, ht, r⟩ := s
  unfold FOK at hF
  have tp := r.2.2.2.2.2.2.2.2
  have e0 : (0 : Int32).toInt = 0 := by decide
  unfold Step f_X9_shift f_X10_shift
  rw [tapeC, tapeM, bnd_some, bnd_some]
  by_cases hx : inb x 6 = true
  · obtain ⟨t, ht6, rfl⟩ := inb_lt hx (by decide)
    obtain ⟨s, n, n1, s1, sn, a1, a2, a3, a4, a5⟩ := tp t ht6
    simp only [if_pos hx]
    rw [if_neg (show ¬ (1 : Int32) = 0 by decide), if_neg (show ¬ (1 : Int32) = 0 by decide), tapeC, tapeM, bnd_some, bnd_some]
    by_cases hz : inb z 6 = true
    · obtain ⟨u, hu6, rfl⟩ := inb_lt hz (by decide)
      obtain ⟨s', n', n1', s1', sn', a1', a2', a3', a4', a5'⟩ := tp u hu6
      simp only [if_pos hz]
      rw [if_neg (show ¬ (1 : Int32) = 0 by decide), if_neg (show ¬ (1 : Int32) = 0 by decide), ix_nI (show t < 2 ^ 31 by omega), ix_nI (show u < 2 ^ 31 by omega), a1, a2, a1', a2', a4, a4']
      have neg : ∀ k : Nat, k ≤ 5 → ¬ nI k = (-1 : Int32) := fun k hk q => nI_pos (show k < 2 ^ 31 by omega) (by rw [q]; decide)
      by_cases h5 : s = 5
      · rw [if_pos h5, if_pos (show (-1 : Int32) = -1 from rfl), if_pos (show (-1 : Int32) < 0 by decide)]
        exact ⟨_, h, o, rfl, rfl, same⟩
      · simp only [if_neg h5]
        rw [if_neg (neg s s1), if_neg (nI_pos (show s < 2 ^ 31 by omega))]
        by_cases h5' : s' = 5
        · rw [if_pos h5', if_pos (show (-1 : Int32) = -1 from rfl), if_neg (show ¬ (0 : Int32) ≤ -1 by decide)]
          exact ⟨_, h, o, rfl, rfl, same⟩
        · simp only [if_neg h5']
          rw [if_neg (neg s' s1'), if_pos (show (0 : Int32) ≤ nI s' from nI_pos' (by omega)), if_e (by omega) (by omega), if_e (by omega) (by omega)]
          by_cases hss : s = s'
          · rw [if_pos hss, if_pos hss, hasRunC ht6 n1 a3, bnd_some, hasRunC hu6 n1' a3', bnd_some]
            by_cases hq : q < 0
            · have := Int32.lt_iff_toInt_lt.mp hq
              rw [if_pos hq, if_neg (show ¬ (0 ≤ y.toInt ∧ 0 ≤ q.toInt ∧ y.toInt + q.toInt ≤ n) by omega), if_pos (show (0 : Int32) = 0 from rfl)]
              exact ⟨_, h, o, rfl, rfl, same⟩
            · rw [if_neg hq]
              by_cases hy : y < 0
              · have := Int32.lt_iff_toInt_lt.mp hy
                rw [if_pos hy, if_neg (show ¬ (0 ≤ y.toInt ∧ 0 ≤ q.toInt ∧ y.toInt + q.toInt ≤ n) by omega), if_pos (show (0 : Int32) = 0 from rfl)]
                exact ⟨_, h, o, rfl, rfl, same⟩
              · rw [if_neg hy]
                by_cases hw : w < 0
                · have := Int32.lt_iff_toInt_lt.mp hw
                  rw [if_pos hw, if_neg (show ¬ (0 ≤ w.toInt ∧ 0 ≤ q.toInt ∧ w.toInt + q.toInt ≤ n') by omega), if_pos (show (0 : Int32) = 0 from rfl)]
                  refine ⟨-13, h, o, ?_, rfl, same⟩
                  split <;> rfl
                · rw [if_neg hw]
                  obtain ⟨i, hi, rfl⟩ := nI_of hy
                  obtain ⟨j, hj, rfl⟩ := nI_of hw
                  obtain ⟨k, hk, rfl⟩ := nI_of hq
                  have hs1 : (nI n - nI k < nI i) ↔ n < i + k := by
                    rw [Int32.lt_iff_toInt_lt, nI_toInt hi, sub_toInt (by omega) hk]; omega
                  have hs2 : (nI j ≤ nI n' - nI k) ↔ j + k ≤ n' := by
                    rw [Int32.le_iff_toInt_le, nI_toInt hj, sub_toInt (by omega) hk]; omega
                  rw [nI_toInt hi, nI_toInt hj, nI_toInt hk]
                  by_cases h1 : n < i + k
                  · rw [if_pos (hs1.mpr h1), if_neg (show ¬ (0 ≤ (i : Int) ∧ 0 ≤ (k : Int) ∧ (i : Int) + k ≤ n) by omega), if_pos (show (0 : Int32) = 0 from rfl)]
                    exact ⟨_, h, o, rfl, rfl, same⟩
                  · rw [if_neg (fun q => h1 (hs1.mp q)), if_pos (show (0 ≤ (i : Int) ∧ 0 ≤ (k : Int) ∧ (i : Int) + k ≤ n) by omega), if_neg (show ¬ (1 : Int32) = 0 by decide)]
                    by_cases h2 : j + k ≤ n'
                    · rw [if_pos (hs2.mpr h2), if_pos (show (0 ≤ (j : Int) ∧ 0 ≤ (k : Int) ∧ (j : Int) + k ≤ n') by omega), if_neg (show ¬ (1 : Int32) = 0 by decide)]
                      have hc : (decide (0 ≤ (i : Int)) && (decide (0 ≤ (j : Int)) && (decide (0 ≤ (k : Int)) && (decide ((i : Int) + (k : Int) ≤ ((60 : Nat) : Int)) && decide ((j : Int) + (k : Int) ≤ ((60 : Nat) : Int)))))) = true := by
                        simp only [Bool.and_eq_true, decide_eq_true_eq]
                        omega
                      rw [if_pos hc, lth_eq, ix_nI hi, ix_nI hj, ix_nI hk]
                      obtain ⟨o1, p1, p2, p3, p4⟩ := shift1 (F := F) (u := u) (j := j) (n := k) (i := i) ht6 (by omega) k 0 F o (by omega) (by omega)
                      obtain ⟨o2, q1, q2, q3⟩ := shift2 (F := F) (u := u) (j := j) (n := k) hu6 (by omega) k 0 F o1 (by omega) (by omega)
                      refine ⟨nI k, _, o2, rfl, p1.trans q1, Sim.tap c m ht r (fun a ha => rfl) rfl (fun a _ _ => by rw [q2, p2]) ?_⟩
                      intro v hv
                      obtain ⟨s2, n2, n12, s12, sn2, a12, a22, a32, a42, a52⟩ := tp v hv
                      refine ⟨s2, n2, n12, s12, sn2, a12, by rw [q2, p2]; exact a22, a32, by rw [q2, p2]; exact a42, fun e he => ?_⟩
                      rw [rrL, q3, p3]
                      by_cases hvu : v = u
                      · subst hvu
                        rw [if_pos rfl]
                        by_cases hej : j ≤ e ∧ e < j + k
                        · rw [pk_cpy_in hej.1 hej.2, if_pos (by omega), p4 _ (by omega), if_pos (by omega), a5 _ (by omega)]
                          exact congrArg (o.2.1 141) (by omega)
                        · rw [pk_cpy_out (by omega), if_neg (by omega)]
                          exact a52 e he
                      · rw [if_neg (by omega), if_neg (by omega)]
                        exact a52 e he
                    · rw [if_neg (fun q => h2 (hs2.mp q)), if_neg (show ¬ (0 ≤ (j : Int) ∧ 0 ≤ (k : Int) ∧ (j : Int) + k ≤ n') by omega), if_pos (show (0 : Int32) = 0 from rfl)]
                      exact ⟨_, h, o, rfl, rfl, same⟩
          · rw [if_neg hss, if_neg hss]
            exact ⟨_, h, o, rfl, rfl, same⟩
    · rw [if_neg hz, if_pos (show (0 : Int32) = 0 from rfl), if_pos (show (0 : Int32) = 0 from rfl)]
      exact ⟨_, h, o, rfl, rfl, same⟩
  · rw [if_neg hx, if_pos (show (0 : Int32) = 0 from rfl), if_pos (show (0 : Int32) = 0 from rfl)]
    exact ⟨_, h, o, rfl, rfl, same⟩
