-- a clock comes
theorem preA_congr {b : Bn} {g g' : SG} {c : Nat} (h1 : g'.2.1 c = g.2.1 c) (h2 : g'.2.2.1 c = g.2.2.1 c) : ∀ d, preA b g' c d = preA b g c d
  | 0 => rfl
  | d + 1 => by
    show preA b g' c d + newsA b g' c d = preA b g c d + newsA b g c d
    rw [preA_congr h1 h2 d]
    unfold newsA
    rw [h1, h2]
def gNew (g : SG) (k v : Nat) : SG := (g.1 + 1, va_up g.2.1 g.1 k, va_up g.2.2.1 g.1 v, fun i => if g.1 * 4 ≤ i ∧ i < g.1 * 4 + 4 then 0 else g.2.2.2 i)
def csNew (g : SG) (cs : CS) (ago : Nat) : CS := (cs.1, va_up cs.2.1 g.1 (cs.1 - ago), va_up cs.2.2 g.1 false)
theorem enterLoop {F n : Nat} (hn : n < 6) : ∀ (j i f : Nat) (h : PH), i + j = 4 → j < f → ∃ h6, (fL_X7_enter_65 F f (nI n) (nI i) h = bnd (f_X7_learn F (nI n) h6) fun _ h7 => some (nI n, h7)) ∧ (∀ a, a ≠ 4 → h6.1 a = h.1 a) ∧ h6.2 = h.2 ∧ ∀ s, h6.1 4 s = if n * 4 + i ≤ s ∧ s < n * 4 + 4 then 0 else h.1 4 s := by
  intro j
  induction j with
  | zero =>
    intro i f h hi hf
    obtain ⟨f, rfl⟩ : ∃ m, f = m + 1 := ⟨f - 1, by omega⟩
    refine ⟨h, by rw [fL_X7_enter_65, li4, if_l (by omega) (by omega), if_pos (by omega)], fun _ _ => rfl, rfl, fun s => by rw [if_neg (by omega)]⟩
  | succ j ih =>
    intro i f h hi hf
    obtain ⟨f, rfl⟩ : ∃ m, f = m + 1 := ⟨f - 1, by omega⟩
    obtain ⟨h6, l1, l2, l3, l4⟩ := ih (i + 1) f (wI h 4 (n * 4 + i) 0) (by omega) (by omega)
    refine ⟨h6, by rw [fL_X7_enter_65, li4, if_l (by omega) (by omega), if_neg (by omega), pk_mul, nI_add, if_pos (inb_nI (by omega) (by decide)), lth_eq, ix_nI (by omega), nI_1]; exact l1, fun a ha => (l2 a ha).trans (rI_ne ha), by rw [l3]; rfl, fun s => ?_⟩
    rw [l4 s, rI]
    by_cases h1 : s = n * 4 + i
    · rw [if_neg (by omega), if_pos ⟨rfl, h1⟩, if_pos (by omega)]
    · by_cases h2 : n * 4 + (i + 1) ≤ s ∧ s < n * 4 + 4
      · rw [if_pos h2, if_pos (by omega)]
      · rw [if_neg h2, if_neg (fun q => h1 q.2), if_neg (by omega)]
theorem enterC {F k v ago : Nat} {h : PH} {g : SG} {b : BT} {cs : CS} (hF : 200 ≤ F) (c : CoreC h g b cs) (hn : g.1 < 6) (hk : k ≤ 6) (hv : v ≤ 9) (ha : ago ≤ cs.1) (ht : cs.1 ≤ 9999) (ok : BTOK b) :
    ∃ h', f_X7_enter F (nI k) (nI v) (nI ago) h = some (nI g.1, h') ∧ CoreC h' (gNew g k v) b (csNew g cs ago) ∧ KC h h' := by
  have hin : inb (nI g.1) 6 = true := inb_nI hn (by decide)
  unfold f_X7_enter
  rw [c.1.1]
  simp only [if_pos hin, lth_eq, ix_nI (show g.1 < 2 ^ 31 by omega)]
  rw [rI_ne (show (6 : Nat) ≠ 3 by decide), rI_ne (show (6 : Nat) ≠ 2 by decide), rI_ne (show (6 : Nat) ≠ 1 by decide), c.2.1.1, pk_sub ha, nar0, nI_1]
  generalize hh : wI (wI (wI (wI (wI h 1 0 (nI (g.1 + 1))) 2 g.1 (nI k)) 3 g.1 (nI v)) 7 g.1 (nI (cs.1 - ago))) 8 g.1 0 = h5
  have q0 : ∀ a, a ≠ 1 → a ≠ 2 → a ≠ 3 → a ≠ 7 → a ≠ 8 → h5.1 a = h.1 a := by
    intro a u1 u2 u3 u7 u8
    rw [← hh, rI_ne u8, rI_ne u7, rI_ne u3, rI_ne u2, rI_ne u1]
  have q1 : h5.1 1 0 = nI (g.1 + 1) := by rw [← hh, rI_ne (by decide), rI_ne (by decide), rI_ne (by decide), rI_ne (by decide), rI_eq]
  have q2 : ∀ i, h5.1 2 i = if i = g.1 then nI k else h.1 2 i := by
    intro i
    rw [← hh, rI_ne (by decide), rI_ne (by decide), rI_ne (by decide), rI, rI_ne (by decide)]
    simp
  have q3 : ∀ i, h5.1 3 i = if i = g.1 then nI v else h.1 3 i := by
    intro i
    rw [← hh, rI_ne (by decide), rI_ne (by decide), rI, rI_ne (by decide), rI_ne (by decide)]
    simp
  have q7 : ∀ i, h5.1 7 i = if i = g.1 then nI (cs.1 - ago) else h.1 7 i := by
    intro i
    rw [← hh, rI_ne (by decide), rI, rI_ne (by decide), rI_ne (by decide), rI_ne (by decide)]
    simp
  have q8 : ∀ i, h5.1 8 i = if i = g.1 then 0 else h.1 8 i := by
    intro i
    rw [← hh, rI, rI_ne (by decide), rI_ne (by decide), rI_ne (by decide), rI_ne (by decide)]
    simp
  have q5 : h5.2 = h.2 := by rw [← hh]; rfl
  obtain ⟨h6, l1, l2, l3, l4⟩ := enterLoop (F := F) hn 4 0 F h5 rfl (by omega)
  have hb6 : HeldC h6 b := HeldC_eq (fun a ha => (l2 a (by omega)).trans (q0 a (by omega) (by omega) (by omega) (by omega) (by omega))) (by rw [l3, q5]) c.2.2
  obtain ⟨h7, e1, e2, e3⟩ := learnC (F := F) (c := g.1) (h := h6) (g := gNew g k v) (b := b) hF hn ⟨by rw [l2 2 (by decide), q2, if_pos rfl]; show nI k = nI (va_up g.2.1 g.1 k g.1); rw [va_if, if_pos rfl], by show va_up g.2.1 g.1 k g.1 ≤ 6; rw [va_if, if_pos rfl]; exact hk⟩
    ⟨by rw [l2 3 (by decide), q3, if_pos rfl]; show nI v = nI (va_up g.2.2.1 g.1 v g.1); rw [va_if, if_pos rfl], by show va_up g.2.2.1 g.1 v g.1 ≤ 9; rw [va_if, if_pos rfl]; exact hv⟩ ok hb6
  have far : ∀ a, a ≠ 15 → a ≠ 5 → a ≠ 4 → a ≠ 1 → a ≠ 2 → a ≠ 3 → a ≠ 7 → a ≠ 8 → h7.1 a = h.1 a := fun a u15 u5 u4 u1 u2 u3 u7 u8 => ((e2.1 a u15 u5).trans (l2 a u4)).trans (q0 a u1 u2 u3 u7 u8)
  have hb7 : HeldC h7 b := HeldC_eq (fun a ha => far a (by omega) (by omega) (by omega) (by omega) (by omega) (by omega) (by omega) (by omega)) (by rw [e2.2.2, l3, q5]) c.2.2
  obtain ⟨⟨c1, c2, c3, c4, c5, c6, c7, c8⟩, cr, cb⟩ := c
  refine ⟨h7, by rw [li0, l1, e1, bnd_some], ⟨⟨?_, ?_, fun i hi => ?_, fun i hi => ?_, fun i hi => ?_, fun i hi d hd => ?_, HeldC_pace hb7, c8⟩, ⟨?_, fun i hi => ?_⟩, hb7⟩, ⟨fun a ha => far a (by omega) (by omega) (by omega) (by omega) (by omega) (by omega) (by omega) (by omega), by rw [far 31 (by omega) (by omega) (by omega) (by omega) (by omega) (by omega) (by omega) (by omega)], by rw [e2.2.2, l3, q5]⟩⟩
  · rw [e2.1 1 (by decide) (by decide), l2 1 (by decide), q1]; rfl
  · show g.1 + 1 ≤ 6; omega
  · rw [e2.1 2 (by decide) (by decide), l2 2 (by decide), q2]
    show _ = nI (va_up g.2.1 g.1 k i) ∧ va_up g.2.1 g.1 k i ≤ 6
    rw [va_if]
    by_cases hig : i = g.1
    · rw [if_pos hig, if_pos hig]; exact ⟨rfl, hk⟩
    · rw [if_neg hig, if_neg hig]; exact c3 i hi
  · rw [e2.1 3 (by decide) (by decide), l2 3 (by decide), q3]
    show _ = nI (va_up g.2.2.1 g.1 v i) ∧ va_up g.2.2.1 g.1 v i ≤ 9
    rw [va_if]
    by_cases hig : i = g.1
    · rw [if_pos hig, if_pos hig]; exact ⟨rfl, hv⟩
    · rw [if_neg hig, if_neg hig]; exact c4 i hi
  · rw [e2.1 4 (by decide) (by decide), l4 i, Nat.add_zero (g.1 * 4)]
    show _ = nI (if g.1 * 4 ≤ i ∧ i < g.1 * 4 + 4 then 0 else g.2.2.2 i) ∧ (if g.1 * 4 ≤ i ∧ i < g.1 * 4 + 4 then 0 else g.2.2.2 i) ≤ 9
    by_cases hig : g.1 * 4 ≤ i ∧ i < g.1 * 4 + 4
    · rw [if_pos hig, if_pos hig]; exact ⟨rfl, by decide⟩
    · rw [if_neg hig, if_neg hig, q0 4 (by decide) (by decide) (by decide) (by decide) (by decide)]; exact c5 i hi
  · by_cases hig : i = g.1
    · rw [hig]; exact e3 d hd
    · have hi' : i < g.1 + 1 := hi
      rw [e2.2.1 (i * 101 + d) (Or.inl (by omega)), l2 5 (by decide), q0 5 (by decide) (by decide) (by decide) (by decide) (by decide), c6 i (by omega) d hd]
      rw [preA_congr (g := g) (g' := gNew g k v) (by show va_up g.2.1 g.1 k i = _; rw [va_if, if_neg hig]) (by show va_up g.2.2.1 g.1 v i = _; rw [va_if, if_neg hig])]
  · rw [far 6 (by omega) (by omega) (by omega) (by omega) (by omega) (by omega) (by omega) (by omega)]; exact cr.1
  · have h1 := cr.2 i hi
    show h7.1 7 i = nI (va_up cs.2.1 g.1 (cs.1 - ago) i) ∧ va_up cs.2.1 g.1 (cs.1 - ago) i ≤ cs.1 ∧ h7.1 8 i = (if va_up cs.2.2 g.1 false i = true then 1 else 0)
    rw [e2.1 7 (by decide) (by decide), e2.1 8 (by decide) (by decide), l2 7 (by decide), l2 8 (by decide), q7, q8, va_if, va_if]
    by_cases hig : i = g.1
    · rw [if_pos hig, if_pos hig, if_pos hig, if_pos hig]; exact ⟨rfl, by omega, rfl⟩
    · rw [if_neg hig, if_neg hig, if_neg hig, if_neg hig]; exact h1
theorem clockLoopM {F n : Nat} (hn : n < 6) : ∀ (j i f : Nat) (o : PH), i + j = 4 → j < f → o.1 102 0 = nI n → ∃ o', fL_X10_clock_99 F f (nI i) o = some (nI n, o') ∧ (∀ a, a ≠ 106 → a ≠ 102 → o'.1 a = o.1 a) ∧ (∀ i, i ≠ 0 → o'.1 102 i = o.1 102 i) ∧ o'.1 102 0 = nI (n + 1) ∧ o'.2 = o.2 ∧ ∀ s, o'.1 106 s = if n * 4 + i ≤ s ∧ s < n * 4 + 4 then 0 else o.1 106 s := by
  intro j
  induction j with
  | zero =>
    intro i f o hi hf h0
    obtain ⟨f, rfl⟩ : ∃ m, f = m + 1 := ⟨f - 1, by omega⟩
    refine ⟨wI o 102 0 (nI (n + 1)), by rw [fL_X10_clock_99, li4, if_l (by omega) (by omega), if_pos (by omega), lth_eq, h0, nI_1, rI_eq, nI_pred], fun a _ h2 => rI_ne h2, fun i hi => rI_sl hi, rI_eq _ _ _ _, rfl, fun s => by rw [if_neg (by omega), rI_ne (by decide)]⟩
  | succ j ih =>
    intro i f o hi hf h0
    obtain ⟨f, rfl⟩ : ∃ m, f = m + 1 := ⟨f - 1, by omega⟩
    obtain ⟨o', l1, l2, l3, l4, l5, l6⟩ := ih (i + 1) f (wI o 106 (n * 4 + i) 0) (by omega) (by omega) (by rw [rI_ne (by decide)]; exact h0)
    refine ⟨o', by rw [fL_X10_clock_99, li4, if_l (by omega) (by omega), if_neg (by omega), h0, pk_mul, nI_add, Nat.mul_comm 4 n, if_pos (inb_nI (by omega) (by decide)), lth_eq, ix_nI (by omega), nI_1]; exact l1, fun a h1 h2 => (l2 a h1 h2).trans (rI_ne h1), fun i hi => (l3 i hi).trans (by rw [rI_ne (by decide)]), l4, by rw [l5]; rfl, fun s => ?_⟩
    rw [l6 s, rI]
    by_cases h1 : s = n * 4 + i
    · rw [if_neg (by omega), if_pos ⟨rfl, h1⟩, if_pos (by omega)]
    · by_cases h2 : n * 4 + (i + 1) ≤ s ∧ s < n * 4 + 4
      · rw [if_pos h2, if_pos (by omega)]
      · rw [if_neg h2, if_neg (fun q => h1 q.2), if_neg (by omega)]
theorem Rest.mono {h o : PH} {n n' : Nat} (hn : n ≤ n') (r : Rest h o n) : Rest h o n' := by
  obtain ⟨r1, r2, r3, ⟨k, k1, k2, k3, k4⟩, ⟨l, l1, l2, l3, l4⟩, ⟨p, p1, p2, p3, p4⟩, r7, r8, r9⟩ := r
  refine ⟨r1, r2, r3, ⟨k, k1, k2, k3, fun i hi => ?_⟩, ⟨l, l1, l2, l3, fun i hi => ?_⟩, ⟨p, p1, p2, p3, fun i hi => ?_⟩, r7, r8, r9⟩
  · obtain ⟨a, b, c, d, e⟩ := k4 i hi
    exact ⟨a, b, c, by omega, e⟩
  · obtain ⟨a, d, e⟩ := l4 i hi
    exact ⟨a, by omega, e⟩
  · obtain ⟨a, b, d, e⟩ := p4 i hi
    exact ⟨a, b, by omega, e⟩
theorem st_clock {F : Nat} {h o : PH} {x y z : Int32} (hF : FOK F) (s : Sim h o) : Step (f_X9_clock F x y z) (f_X10_clock F x y z) h o := by
  have same := s
  obtain ⟨g, b, cs, c, m, ht, r⟩ := s
  unfold FOK at hF
  have hg := c.1.2.1
  unfold Step f_X9_clock f_X10_clock
  rw [within_eq, in_eq, bnd_some, bnd_some]
  by_cases hx : wth x 0 6 = 0
  · exact ⟨-1, h, o, by rw [if_pos hx], by rw [if_pos hx], same⟩
  · obtain ⟨k, hk, rfl⟩ := wth_N (m := 6) rfl (by decide) hx
    rw [if_neg hx, if_neg hx, within_eq, in_eq, bnd_some, bnd_some]
    by_cases hy : wth y 0 9 = 0
    · exact ⟨-2, h, o, by rw [if_pos hy], by rw [if_pos hy], same⟩
    · obtain ⟨v, hv, rfl⟩ := wth_N (m := 9) rfl (by decide) hy
      rw [if_neg hy, if_neg hy, within_eq, in_eq, bnd_some, bnd_some, show h.1 6 0 = nI cs.1 from c.2.1.1, m.2.1.1]
      by_cases hz : wth z 0 (nI cs.1) = 0
      · exact ⟨-2, h, o, by rw [if_pos hz], by rw [if_pos hz], same⟩
      · obtain ⟨ago, ha, rfl⟩ := wth_N (m := cs.1) rfl (by omega) hz
        rw [if_neg hz, if_neg hz, c.1.1, m.1.1, li6, if_t (by omega) (by omega), if_e (by omega) (by omega)]
        by_cases hn : g.1 < 6
        · obtain ⟨h', e1, e2, e3⟩ := enterC (F := F) (by omega) c hn hk hv ha ht (HeldM_ok m.1.2.2.2.2.2.1)
          have hin : inb (nI g.1) 6 = true := inb_nI hn (by decide)
          obtain ⟨⟨m1, m2, m3, m4, m5, m6, m7⟩, mr, ml⟩ := m
          rw [if_pos hn, e1, bnd_some, if_neg (show ¬ g.1 = 6 by omega), if_pos hin, lth_eq, ix_nI (by omega), rI_ne (show (102 : Nat) ≠ 103 by decide), m1, if_pos hin, lth_eq, ix_nI (by omega), rI_ne (show (102 : Nat) ≠ 104 by decide), rI_ne (show (102 : Nat) ≠ 103 by decide), m1, mr.1, if_pos hin, lth_eq, ix_nI (by omega), pk_sub ha, rI_ne (show (102 : Nat) ≠ 105 by decide), rI_ne (show (102 : Nat) ≠ 104 by decide), rI_ne (show (102 : Nat) ≠ 103 by decide), m1]
          generalize hh : wI (wI (wI o 103 g.1 (nI k)) 104 g.1 (nI v)) 105 g.1 (nI (cs.1 - ago)) = o3
          have q0 : ∀ a, a ≠ 103 → a ≠ 104 → a ≠ 105 → o3.1 a = o.1 a := by
            intro a u1 u2 u3
            rw [← hh, rI_ne u3, rI_ne u2, rI_ne u1]
          have q3 : ∀ i, o3.1 103 i = if i = g.1 then nI k else o.1 103 i := by
            intro i
            rw [← hh, rI_ne (by decide), rI_ne (by decide), rI]
            simp
          have q4 : ∀ i, o3.1 104 i = if i = g.1 then nI v else o.1 104 i := by
            intro i
            rw [← hh, rI_ne (by decide), rI, rI_ne (by decide)]
            simp
          have q5 : ∀ i, o3.1 105 i = if i = g.1 then nI (cs.1 - ago) else o.1 105 i := by
            intro i
            rw [← hh, rI, rI_ne (by decide), rI_ne (by decide)]
            simp
          have qL : o3.2 = o.2 := by rw [← hh]; rfl
          have hb : f_X10_balks F (nI g.1) (0 : Int32) o3 = some ((), wI o3 102 1 ((o3.1 102 1) &&& (((1 : Int32) <<< (nI g.1 &&& 31)) ^^^ (-1 : Int32)))) := by
            unfold f_X10_balks
            rw [if_pos (show (0 : Int32) = 0 from rfl), lth_eq]
          rw [hb, bnd_some]
          generalize hh4 : wI o3 102 1 ((o3.1 102 1) &&& (((1 : Int32) <<< (nI g.1 &&& 31)) ^^^ (-1 : Int32))) = o4
          have p0 : o4.1 102 0 = nI g.1 := by rw [← hh4, rI_sl (by decide), q0 102 (by decide) (by decide) (by decide)]; exact m1
          obtain ⟨o5, l1, l2, l3, l4, l5, l6⟩ := clockLoopM (F := F) hn 4 0 F o4 rfl (by omega) p0
          have f4 : ∀ a, a ≠ 102 → o4.1 a = o3.1 a := fun a ha => by rw [← hh4, rI_ne ha]
          have f4s : ∀ i, i ≠ 1 → o4.1 102 i = o3.1 102 i := fun i hi => by rw [← hh4, rI_sl hi]
          have far : ∀ a, a ≠ 102 → a ≠ 103 → a ≠ 104 → a ≠ 105 → a ≠ 106 → o5.1 a = o.1 a := fun a u2 u3 u4 u5 u6 => ((l2 a u6 u2).trans (f4 a u2)).trans (q0 a u3 u4 u5)
          have fars : ∀ i, i ≠ 0 → i ≠ 1 → o5.1 102 i = o.1 102 i := fun i u0 u1 => ((l3 i u0).trans (f4s i u1)).trans (by rw [q0 102 (by decide) (by decide) (by decide)])
          have hl5 : o5.1 102 25 = 0 := by rw [fars 25 (by decide) (by decide)]; exact ml
          have hL : o5.2 = o.2 := by rw [l5, ← hh4]; exact qL
          refine ⟨nI g.1, h', o5, rfl, l1, gNew g k v, b, csNew g cs ago, e2, ⟨⟨l4, by show g.1 + 1 ≤ 6; omega, fun i hi => ?_, fun i hi => ?_, fun i hi => ?_, m6.fr (fars 8 (by decide) (by decide)) (far _ (by decide) (by decide) (by decide) (by decide) (by decide)) (far _ (by decide) (by decide) (by decide) (by decide) (by decide)) (far _ (by decide) (by decide) (by decide) (by decide) (by decide)) (far _ (by decide) (by decide) (by decide) (by decide) (by decide)) (far _ (by decide) (by decide) (by decide) (by decide) (by decide)) (far _ (by decide) (by decide) (by decide) (by decide) (by decide)), Or.inl hl5⟩, ⟨?_, ?_, fun i hi => ?_⟩, hl5⟩, ht,
            (r.keep e3 ⟨fun a ha => far a (by omega) (by omega) (by omega) (by omega) (by omega), fun i hi => fars i (by omega) (by omega), hL⟩).mono (by show g.1 ≤ g.1 + 1; omega)⟩
          · rw [l2 103 (by decide) (by decide), f4 103 (by decide), q3]
            show _ = nI (va_up g.2.1 g.1 k i) ∧ va_up g.2.1 g.1 k i ≤ 6
            rw [va_if]
            by_cases hig : i = g.1
            · rw [if_pos hig, if_pos hig]; exact ⟨rfl, hk⟩
            · rw [if_neg hig, if_neg hig]; exact m3 i hi
          · rw [l2 104 (by decide) (by decide), f4 104 (by decide), q4]
            show _ = nI (va_up g.2.2.1 g.1 v i) ∧ va_up g.2.2.1 g.1 v i ≤ 9
            rw [va_if]
            by_cases hig : i = g.1
            · rw [if_pos hig, if_pos hig]; exact ⟨rfl, hv⟩
            · rw [if_neg hig, if_neg hig]; exact m4 i hi
          · rw [l6 i, Nat.add_zero (g.1 * 4)]
            show _ = nI (if g.1 * 4 ≤ i ∧ i < g.1 * 4 + 4 then 0 else g.2.2.2 i) ∧ (if g.1 * 4 ≤ i ∧ i < g.1 * 4 + 4 then 0 else g.2.2.2 i) ≤ 9
            by_cases hig : g.1 * 4 ≤ i ∧ i < g.1 * 4 + 4
            · rw [if_pos hig, if_pos hig]; exact ⟨rfl, by decide⟩
            · rw [if_neg hig, if_neg hig, f4 106 (by decide), q0 106 (by decide) (by decide) (by decide)]; exact m5 i hi
          · rw [fars 2 (by decide) (by decide)]; exact mr.1
          · rw [l3 1 (by decide), ← hh4, rI_eq, q0 102 (by decide) (by decide) (by decide)]
            exact mask_clear mr.2.1 hn
          · have h1 := mr.2.2 i hi
            rw [l2 105 (by decide) (by decide), f4 105 (by decide), q5]
            show _ = nI (va_up cs.2.1 g.1 (cs.1 - ago) i) ∧ va_up cs.2.1 g.1 (cs.1 - ago) i ≤ cs.1
            rw [va_if]
            by_cases hig : i = g.1
            · rw [if_pos hig, if_pos hig]; exact ⟨rfl, by omega⟩
            · rw [if_neg hig, if_neg hig]; exact h1
        · exact ⟨-4, h, o, by rw [if_neg hn], by rw [if_pos (show g.1 = 6 by omega)], same⟩
