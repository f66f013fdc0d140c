-- rows told by hand
theorem Sim.put {h h' o o' : PH} {g : SG} {b : BT} {cs : CS} {t s w e : Nat} (q : (t = 9 ∧ s = 33 ∧ w = 122 ∧ e = 124) ∨ (t = 11 ∧ s = 37 ∧ w = 125 ∧ e = 125) ∨ (t = 13 ∧ s = 38 ∧ w = 126 ∧ e = 127))
    (c : CoreC h g b cs) (m : CoreM o g b cs) (ht : cs.1 ≤ 9999) (r : Rest h o g.1) (hc : ∀ a, a ≠ t → a ≠ t + 1 → h'.1 a = h.1 a) (h0 : h'.1 t 0 = h.1 t 0) (h2 : h'.2 = h.2)
    (hm : ∀ a, a ≠ 102 → (a < w ∨ e < a) → o'.1 a = o.1 a) (ho : ∀ i, i ≠ s → o'.1 102 i = o.1 102 i) (o2 : o'.2 = o.2)
    (new : (t = 9 → SeenS h' o' 9 33 122 g.1) ∧ (t = 11 → MonS h' o' 11 37 125 g.1) ∧ (t = 13 → BookS h' o' 13 38 126 g.1)) : Sim h' o' := by
  obtain ⟨r1, r2, r3, r4, r5, r6, r7, r8, r9⟩ := r
  have lim : ∀ z, z = 9 ∨ z = 11 ∨ z = 13 → h'.1 z 0 = h.1 z 0 := by
    intro z hz
    by_cases hzt : z = t
    · subst hzt; exact h0
    · rw [hc z hzt (by omega)]
  refine ⟨g, b, cs, c.eq (fun a ha => hc a (by omega) (by omega)) (by rw [h2]), m.eq (fun a ha => hm a (by omega) (by omega)) (fun i hi => ho i (by omega)), ht,
    r1.eq (by rw [hc 31 (by omega) (by omega)]) (hc _ (by omega) (by omega)) (ho _ (by omega)) (hm _ (by omega) (by omega)) (hm _ (by omega) (by omega)),
    r2.eq (by rw [hc 0 (by omega) (by omega)]) (by rw [h2]) (ho _ (by omega)) (ho _ (by omega)) (ho _ (by omega)), r3.eq (lim _ (by omega)) (lim _ (by omega)) (lim _ (by omega)), ?_, ?_, ?_,
    r7.eq (fun a ha => hc a (by omega) (by omega)) (by rw [hc 0 (by omega) (by omega)]) (by rw [h2]) (fun a ha => hm a (by omega) (by omega)) (fun i h1 h2 => ho i (by omega)),
    r8.eq (by rw [hc 63 (by omega) (by omega)]) (hc _ (by omega) (by omega)) (ho _ (by omega)) (hm _ (by omega) (by omega)), r9.eq (fun t h1 h2 => hc t (by omega) (by omega)) (fun t h1 => by rw [h2]) (hm _ (by omega) (by omega)) (hm _ (by omega) (by omega)) (by rw [o2])⟩
  · by_cases h9 : t = 9
    · exact new.1 h9
    · exact r4.eq (by rw [hc 9 (by omega) (by omega)]) (hc _ (by omega) (by omega)) (ho _ (by omega)) (hm _ (by omega) (by omega)) (hm _ (by omega) (by omega)) (hm _ (by omega) (by omega))
  · by_cases h9 : t = 11
    · exact new.2.1 h9
    · exact r5.eq (by rw [hc 11 (by omega) (by omega)]) (hc _ (by omega) (by omega)) (ho _ (by omega)) (hm _ (by omega) (by omega))
  · by_cases h9 : t = 13
    · exact new.2.2 h9
    · exact r6.eq (by rw [hc 13 (by omega) (by omega)]) (hc _ (by omega) (by omega)) (ho _ (by omega)) (hm _ (by omega) (by omega)) (hm _ (by omega) (by omega))
theorem putC {F t k lim : Nat} {h : PH} {x y z : Int32} (q : (t = 9 ∧ lim = 5) ∨ (t = 11 ∧ lim = 10) ∨ (t = 13 ∧ lim = 8)) (h0 : h.1 t 0 = nI lim) (hk : h.1 t 2 = nI k) (hl : k ≤ lim) :
    f_X6_put F t x y z h = if k < lim then some (nI (k + 1), wI (wI (wI (wI h (t + 1) (k * 3) x) (t + 1) (k * 3 + 1) y) (t + 1) (k * 3 + 2) z) t 2 (nI (k + 1))) else some (-4, h) := by
  have hr : isRows t = true := by rcases q with ⟨rfl, _⟩ | ⟨rfl, _⟩ | ⟨rfl, _⟩ <;> rfl
  have hln : lnA (t + 1) = lim * 3 := by rcases q with ⟨rfl, rfl⟩ | ⟨rfl, rfl⟩ | ⟨rfl, rfl⟩ <;> rfl
  have hlim : lim ≤ 10 := by omega
  have hne : t ≠ t + 1 := by omega
  unfold f_X6_put
  rw [if_pos hr, hk, h0, if_t (by omega) (by omega)]
  by_cases hkl : k < lim
  · rw [if_pos hkl, if_pos hkl, hln, li3, pk_mul, if_pos (inb_nI (by omega) (by omega)), lth_eq, rI_ne hne, hk, pk_mul, li1, nI_add, if_pos (inb_nI (by omega) (by omega)), lth_eq, rI_ne hne, rI_ne hne, hk, pk_mul, li2, nI_add, if_pos (inb_nI (by omega) (by omega)), lth_eq, rI_ne hne, rI_ne hne, rI_ne hne, hk, nI_add, lth_eq, rI_eq, ix_nI (by omega), ix_nI (by omega), ix_nI (by omega)]
  · rw [if_neg hkl, if_neg hkl]
theorem emptyC {F t : Nat} {h : PH} (q : t = 9 ∨ t = 11 ∨ t = 13) : f_X6_empty F t h = some (0, wI h t 2 0) := by
  have hr : isRows t = true := by rcases q with rfl | rfl | rfl <;> rfl
  unfold f_X6_empty
  rw [if_pos hr, lth_eq]
theorem cellC {F t i j : Nat} {h : PH} (hr : isRows t = true) (hi : i * 3 + j < lnA (t + 1)) (hb : lnA (t + 1) < 2 ^ 30) : f_X6_cell F t (nI i) (nI j) h = some (h.1 (t + 1) (i * 3 + j), h) := by
  unfold f_X6_cell
  rw [if_pos hr, li3, pk_mul, nI_add, if_pos (inb_nI hi (by omega)), ix_nI (by omega)]
/-- three cells behind what was there -/
theorem put3 {h : PH} {t k : Nat} {x y z v : Int32} : (∀ a, a ≠ t → a ≠ t + 1 → (wI (wI (wI (wI h (t + 1) (k * 3) x) (t + 1) (k * 3 + 1) y) (t + 1) (k * 3 + 2) z) t 2 v).1 a = h.1 a) ∧ (wI (wI (wI (wI h (t + 1) (k * 3) x) (t + 1) (k * 3 + 1) y) (t + 1) (k * 3 + 2) z) t 2 v).1 t 0 = h.1 t 0 ∧ (wI (wI (wI (wI h (t + 1) (k * 3) x) (t + 1) (k * 3 + 1) y) (t + 1) (k * 3 + 2) z) t 2 v).1 t 2 = v ∧
    (∀ i, i < k → ∀ j, j < 3 → (wI (wI (wI (wI h (t + 1) (k * 3) x) (t + 1) (k * 3 + 1) y) (t + 1) (k * 3 + 2) z) t 2 v).1 (t + 1) (i * 3 + j) = h.1 (t + 1) (i * 3 + j)) ∧
    (wI (wI (wI (wI h (t + 1) (k * 3) x) (t + 1) (k * 3 + 1) y) (t + 1) (k * 3 + 2) z) t 2 v).1 (t + 1) (k * 3) = x ∧ (wI (wI (wI (wI h (t + 1) (k * 3) x) (t + 1) (k * 3 + 1) y) (t + 1) (k * 3 + 2) z) t 2 v).1 (t + 1) (k * 3 + 1) = y ∧ (wI (wI (wI (wI h (t + 1) (k * 3) x) (t + 1) (k * 3 + 1) y) (t + 1) (k * 3 + 2) z) t 2 v).1 (t + 1) (k * 3 + 2) = z := by
  have hne : t ≠ t + 1 := by omega
  have hne2 : t + 1 ≠ t := by omega
  refine ⟨fun a h1 h2 => by rw [rI_ne h1, rI_ne h2, rI_ne h2, rI_ne h2], by rw [rI_sl (by decide), rI_ne hne, rI_ne hne, rI_ne hne], rI_eq _ _ _ _, fun i hi j hj => by rw [rI_ne hne2, rI_sl (by omega), rI_sl (by omega), rI_sl (by omega)], by rw [rI_ne hne2, rI_sl (by omega), rI_sl (by omega), rI_eq], by rw [rI_ne hne2, rI_sl (by omega), rI_eq], by rw [rI_ne hne2, rI_eq]⟩
theorem st_month {F : Nat} {h o : PH} {x : Int32} (s : Sim h o) : Step (f_X9_month F x) (f_X10_month F x) h o := by
  obtain ⟨g, b, cs, c, m, ht, r⟩ := s
  have hr5 := r.2.2.2.2.1
  obtain ⟨k, k1, k2, k3, k4⟩ := r.2.2.2.2.1
  have lim := r.2.2.1.2.1
  have hg := c.1.2.1
  unfold Step f_X9_month f_X10_month
  by_cases hx : x = -1
  · refine ⟨0, wI h 11 2 0, wI o 102 37 0, by rw [if_pos hx, emptyC (by omega), bnd_some], by rw [if_pos hx, lth_eq], ?_⟩
    refine Sim.put (t := 11) (s := 37) (w := 125) (e := 125) (by omega) c m ht r (fun a h1 h2 => rI_ne h1) (rI_sl (by decide)) rfl (fun a h1 h2 => rI_ne h1) (fun i hi => rI_sl hi) rfl ⟨by omega, fun _ => ⟨0, by omega, rI_eq _ _ _ _, rI_eq _ _ _ _, fun i hi => absurd hi (by omega)⟩, by omega⟩
  · have put : ∀ c0, (c0 < g.1 ∨ c0 = 6) → x = nI c0 → Step (fun h => bnd (f_X6_put F 11 x (0 : Int32) (0 : Int32) h) fun v4 h4 => (some (v4, h4))) (fun o => fL_X10_month_28 F x o) h o := by
      intro c0 hc0 hxc
      have hp := putC (F := F) (x := x) (y := 0) (z := 0) (t := 11) (lim := 10) (by omega) lim k2 k1
      by_cases hk : k < 10
      · rw [if_pos hk] at hp
        refine ⟨nI (k + 1), _, wI (wI o 125 k x) 102 37 (nI (k + 1)), by dsimp only; rw [hp, bnd_some], ?_, ?_⟩
        · dsimp only
          unfold fL_X10_month_28
          rw [k3, show (10 : Int32) = nI 10 from rfl, if_e (by omega) (by omega), if_neg (by omega), if_pos (inb_nI hk (by decide)), lth_eq, lth_eq, ix_nI (by omega), rI_ne (show (102 : Nat) ≠ 125 by decide), k3, nI_1, rI_eq]
        · have p := put3 (h := h) (t := 11) (k := k) (x := x) (y := 0) (z := 0) (v := nI (k + 1))
          refine Sim.put (t := 11) (s := 37) (w := 125) (e := 125) (by omega) c m ht r p.1 p.2.1 rfl (fun a h1 h2 => by rw [rI_ne h1, rI_ne (by omega)]) (fun i hi => by rw [rI_sl hi, rI_ne (by decide)]) rfl ⟨by omega, fun _ => ⟨k + 1, by omega, p.2.2.1, rI_eq _ _ _ _, fun i hi => ?_⟩, by omega⟩
          by_cases hik : i < k
          · obtain ⟨c1, d1, d2, d3⟩ := k4 i hik
            exact ⟨c1, d1, (p.2.2.2.1 i hik 0 (by decide)).trans d2, by rw [rI_ne (by decide), rI_sl (by omega)]; exact d3⟩
          · have : i = k := by omega
            subst this
            exact ⟨c0, hc0, by rw [p.2.2.2.2.1, hxc], by rw [rI_ne (by decide), rI_eq, hxc]⟩
      · rw [if_neg hk] at hp
        refine ⟨-4, h, o, by dsimp only; rw [hp, bnd_some], ?_, g, b, cs, c, m, ht, r⟩
        dsimp only
        unfold fL_X10_month_28
        rw [k3, show (10 : Int32) = nI 10 from rfl, if_e (by omega) (by omega), if_pos (by omega)]
    have e1 := isClockC (F := F) (a := x) c.1.1 hg
    have e2 := isClockM (F := F) (a := x) m.1.1 hg
    by_cases h6 : x = 6
    · obtain ⟨v, h', o', p1, p2, p3⟩ := put 6 (Or.inr rfl) h6
      refine ⟨v, h', o', ?_, by rw [if_neg hx, if_pos h6]; exact p2, p3⟩
      rw [if_neg hx, e1, bnd_some]
      by_cases hi : inb x g.1 = true
      · rw [if_pos hi, if_neg (show ¬ (1 : Int32) = 0 by decide)]; exact p1
      · rw [if_neg hi, if_pos (show (0 : Int32) = 0 from rfl), if_pos h6]; exact p1
    · by_cases hi : inb x g.1 = true
      · obtain ⟨c0, hc0, rfl⟩ := inb_lt hi (by omega)
        obtain ⟨v, h', o', p1, p2, p3⟩ := put c0 (Or.inl hc0) rfl
        refine ⟨v, h', o', ?_, ?_, p3⟩
        · rw [if_neg hx, e1, bnd_some, if_pos hi, if_neg (show ¬ (1 : Int32) = 0 by decide)]; exact p1
        · rw [if_neg hx, if_neg h6, e2, bnd_some, if_pos hi, if_neg (show ¬ (1 : Int32) = 0 by decide)]; exact p2
      · refine ⟨-1, h, o, ?_, ?_, g, b, cs, c, m, ht, r⟩
        · rw [if_neg hx, e1, bnd_some, if_neg hi, if_pos (show (0 : Int32) = 0 from rfl), if_neg h6]
        · rw [if_neg hx, if_neg h6, e2, bnd_some, if_neg hi, if_pos (show (0 : Int32) = 0 from rfl)]
theorem st_see {F : Nat} {h o : PH} {x y z : Int32} (s : Sim h o) : Step (f_X9_see F x y z) (f_X10_see F x y z) h o := by
  obtain ⟨g, b, cs, c, m, ht, r⟩ := s
  obtain ⟨k, k1, k2, k3, k4⟩ := r.2.2.2.1
  have lim := r.2.2.1.1
  have hg := c.1.2.1
  have same : Sim h o := ⟨g, b, cs, c, m, ht, r⟩
  unfold Step f_X9_see f_X10_see
  by_cases hx : x = -1
  · refine ⟨0, wI h 9 2 0, wI o 102 33 0, by rw [if_pos hx, emptyC (by omega), bnd_some], by rw [if_pos hx, lth_eq], ?_⟩
    refine Sim.put (t := 9) (s := 33) (w := 122) (e := 124) (by omega) c m ht r (fun a h1 h2 => rI_ne h1) (rI_sl (by decide)) rfl (fun a h1 h2 => rI_ne h1) (fun i hi => rI_sl hi) rfl ⟨fun _ => ⟨0, by omega, rI_eq _ _ _ _, rI_eq _ _ _ _, fun i hi => absurd hi (by omega)⟩, by omega, by omega⟩
  · have e1 := isClockC (F := F) (a := x) c.1.1 hg
    have e2 := isClockM (F := F) (a := x) m.1.1 hg
    by_cases hi : inb x g.1 = true
    · obtain ⟨c0, hc0, rfl⟩ := inb_lt hi (by omega)
      rw [if_pos hi] at e1 e2
      by_cases hy : wth y 0 999 = 0
      · exact ⟨-2, h, o, by rw [if_neg hx, e1, bnd_some, if_neg (show ¬ (1 : Int32) = 0 by decide), within_eq, bnd_some, if_pos hy], by rw [if_neg hx, e2, bnd_some, if_neg (show ¬ (1 : Int32) = 0 by decide), in_eq, bnd_some, if_pos hy], same⟩
      · obtain ⟨p, hp, rfl⟩ := wth_N (m := 999) rfl (by decide) hy
        by_cases hz : wth z 0 20 = 0
        · exact ⟨-2, h, o, by rw [if_neg hx, e1, bnd_some, if_neg (show ¬ (1 : Int32) = 0 by decide), within_eq, bnd_some, if_neg hy, within_eq, bnd_some, if_pos hz], by rw [if_neg hx, e2, bnd_some, if_neg (show ¬ (1 : Int32) = 0 by decide), in_eq, bnd_some, if_neg hy, in_eq, bnd_some, if_pos hz], same⟩
        · obtain ⟨q, hq, rfl⟩ := wth_N (m := 20) rfl (by decide) hz
          have hpc := putC (F := F) (x := nI c0) (y := nI p) (z := nI q) (t := 9) (lim := 5) (by omega) lim k2 k1
          by_cases hk : k < 5
          · rw [if_pos hk] at hpc
            refine ⟨nI (k + 1), _, wI (wI (wI (wI o 122 k (nI c0)) 123 k (nI p)) 124 k (nI q)) 102 33 (nI (k + 1)), by rw [if_neg hx, e1, bnd_some, if_neg (show ¬ (1 : Int32) = 0 by decide), within_eq, bnd_some, if_neg hy, within_eq, bnd_some, if_neg hz, hpc, bnd_some], ?_, ?_⟩
            · have hin : inb (nI k) 5 = true := inb_nI hk (by decide)
              rw [if_neg hx, e2, bnd_some, if_neg (show ¬ (1 : Int32) = 0 by decide), in_eq, bnd_some, if_neg hy, in_eq, bnd_some, if_neg hz, k3, li5, if_e (by omega) (by omega), if_neg (by omega), if_pos hin, lth_eq, rI_ne (show (102 : Nat) ≠ 122 by decide), k3, if_pos hin, lth_eq, rI_ne (show (102 : Nat) ≠ 123 by decide), rI_ne (show (102 : Nat) ≠ 122 by decide), k3, if_pos hin, lth_eq, rI_ne (show (102 : Nat) ≠ 124 by decide), rI_ne (show (102 : Nat) ≠ 123 by decide), rI_ne (show (102 : Nat) ≠ 122 by decide), k3, nI_1, lth_eq, rI_eq, ix_nI (by omega)]
            · have p3 := put3 (h := h) (t := 9) (k := k) (x := nI c0) (y := nI p) (z := nI q) (v := nI (k + 1))
              refine Sim.put (t := 9) (s := 33) (w := 122) (e := 124) (by omega) c m ht r p3.1 p3.2.1 rfl (fun a h1 h2 => by rw [rI_ne h1, rI_ne (by omega), rI_ne (by omega), rI_ne (by omega)]) (fun i hi => by rw [rI_sl hi, rI_ne (by decide), rI_ne (by decide), rI_ne (by decide)]) rfl ⟨fun _ => ⟨k + 1, by omega, p3.2.2.1, rI_eq _ _ _ _, fun i hi => ?_⟩, by omega, by omega⟩
              by_cases hik : i < k
              · obtain ⟨c1, m1, e1, d1, d2, d3, d4, d5, d6, d7, d8, d9⟩ := k4 i hik
                have q0 := p3.2.2.2.1 i hik 0 (by decide)
                refine ⟨c1, m1, e1, d1, d2, d3, q0.trans d4, by rw [p3.2.2.2.1 i hik 1 (by decide)]; exact d5, by rw [p3.2.2.2.1 i hik 2 (by decide)]; exact d6, ?_, ?_, ?_⟩
                · rw [rI_ne (by decide), rI_ne (by decide), rI_ne (by decide), rI_sl (by omega)]; exact d7
                · rw [rI_ne (by decide), rI_ne (by decide), rI_sl (by omega), rI_ne (by decide)]; exact d8
                · rw [rI_ne (by decide), rI_sl (by omega), rI_ne (by decide), rI_ne (by decide)]; exact d9
              · have : i = k := by omega
                subst this
                exact ⟨c0, p, q, hc0, hp, hq, p3.2.2.2.2.1, p3.2.2.2.2.2.1, p3.2.2.2.2.2.2, by rw [rI_ne (by decide), rI_ne (by decide), rI_ne (by decide), rI_eq], by rw [rI_ne (by decide), rI_ne (by decide), rI_eq], by rw [rI_ne (by decide), rI_eq]⟩
          · rw [if_neg hk] at hpc
            exact ⟨-4, h, o, by rw [if_neg hx, e1, bnd_some, if_neg (show ¬ (1 : Int32) = 0 by decide), within_eq, bnd_some, if_neg hy, within_eq, bnd_some, if_neg hz, hpc, bnd_some], by rw [if_neg hx, e2, bnd_some, if_neg (show ¬ (1 : Int32) = 0 by decide), in_eq, bnd_some, if_neg hy, in_eq, bnd_some, if_neg hz, k3, li5, if_e (by omega) (by omega), if_pos (by omega)], same⟩
    · rw [if_neg hi] at e1 e2
      exact ⟨-1, h, o, by rw [if_neg hx, e1, bnd_some, if_pos (show (0 : Int32) = 0 from rfl)], by rw [if_neg hx, e2, bnd_some, if_pos (show (0 : Int32) = 0 from rfl)], same⟩
theorem st_book {F : Nat} {h o : PH} {x y : Int32} (s : Sim h o) : Step (f_X9_book F x y) (f_X10_book F x y) h o := by
  obtain ⟨g, b, cs, c, m, ht, r⟩ := s
  obtain ⟨k, k1, k2, k3, k4⟩ := r.2.2.2.2.2.1
  have lim := r.2.2.1.2.2
  have hg := c.1.2.1
  have same : Sim h o := ⟨g, b, cs, c, m, ht, r⟩
  unfold Step f_X9_book f_X10_book f_X10_isDay
  by_cases hx : x = -1
  · refine ⟨0, wI h 13 2 0, wI o 102 38 0, by rw [if_pos hx, emptyC (by omega), bnd_some], by rw [if_pos hx, lth_eq], ?_⟩
    refine Sim.put (t := 13) (s := 38) (w := 126) (e := 127) (by omega) c m ht r (fun a h1 h2 => rI_ne h1) (rI_sl (by decide)) rfl (fun a h1 h2 => rI_ne h1) (fun i hi => rI_sl hi) rfl ⟨by omega, by omega, fun _ => ⟨0, by omega, rI_eq _ _ _ _, rI_eq _ _ _ _, fun i hi => absurd hi (by omega)⟩⟩
  · have e1 := isClockC (F := F) (a := x) c.1.1 hg
    have e2 := isClockM (F := F) (a := x) m.1.1 hg
    by_cases hi : inb x g.1 = true
    · obtain ⟨c0, hc0, rfl⟩ := inb_lt hi (by omega)
      rw [if_pos hi] at e1 e2
      by_cases hy : wth y 0 9999 = 0
      · exact ⟨-2, h, o, by rw [if_neg hx, e1, bnd_some, if_neg (show ¬ (1 : Int32) = 0 by decide), within_eq, bnd_some, if_pos hy], by rw [if_neg hx, e2, bnd_some, if_neg (show ¬ (1 : Int32) = 0 by decide), in_eq, bnd_some, bnd_some, wth_and, if_pos hy], same⟩
      · obtain ⟨p, hp, rfl⟩ := wth_N (m := 9999) rfl (by decide) hy
        have hpc := putC (F := F) (x := nI c0) (y := nI p) (z := 0) (t := 13) (lim := 8) (by omega) lim k2 k1
        by_cases hk : k < 8
        · rw [if_pos hk] at hpc
          refine ⟨nI (k + 1), _, wI (wI (wI o 126 k (nI c0)) 127 k (nI p)) 102 38 (nI (k + 1)), by rw [if_neg hx, e1, bnd_some, if_neg (show ¬ (1 : Int32) = 0 by decide), within_eq, bnd_some, if_neg hy, hpc, bnd_some], ?_, ?_⟩
          · have hin : inb (nI k) 8 = true := inb_nI hk (by decide)
            rw [if_neg hx, e2, bnd_some, if_neg (show ¬ (1 : Int32) = 0 by decide), in_eq, bnd_some, bnd_some, wth_and, if_neg hy, k3, show (8 : Int32) = nI 8 from rfl, if_e (by omega) (by omega), if_neg (by omega), if_pos hin, lth_eq, rI_ne (show (102 : Nat) ≠ 126 by decide), k3, if_pos hin, lth_eq, rI_ne (show (102 : Nat) ≠ 127 by decide), rI_ne (show (102 : Nat) ≠ 126 by decide), k3, nI_1, lth_eq, rI_eq, ix_nI (by omega)]
          · have p3 := put3 (h := h) (t := 13) (k := k) (x := nI c0) (y := nI p) (z := 0) (v := nI (k + 1))
            refine Sim.put (t := 13) (s := 38) (w := 126) (e := 127) (by omega) c m ht r p3.1 p3.2.1 rfl (fun a h1 h2 => by rw [rI_ne h1, rI_ne (by omega), rI_ne (by omega)]) (fun i hi => by rw [rI_sl hi, rI_ne (by decide), rI_ne (by decide)]) rfl ⟨by omega, by omega, fun _ => ⟨k + 1, by omega, p3.2.2.1, rI_eq _ _ _ _, fun i hi => ?_⟩⟩
            by_cases hik : i < k
            · obtain ⟨c1, m1, d1, d2, d4, d5, d7, d8⟩ := k4 i hik
              have q0 := p3.2.2.2.1 i hik 0 (by decide)
              refine ⟨c1, m1, d1, d2, q0.trans d4, by rw [p3.2.2.2.1 i hik 1 (by decide)]; exact d5, ?_, ?_⟩
              · rw [rI_ne (by decide), rI_ne (by decide), rI_sl (by omega)]; exact d7
              · rw [rI_ne (by decide), rI_sl (by omega), rI_ne (by decide)]; exact d8
            · have : i = k := by omega
              subst this
              exact ⟨c0, p, hc0, hp, p3.2.2.2.2.1, p3.2.2.2.2.2.1, by rw [rI_ne (by decide), rI_ne (by decide), rI_eq], by rw [rI_ne (by decide), rI_eq]⟩
        · rw [if_neg hk] at hpc
          exact ⟨-4, h, o, by rw [if_neg hx, e1, bnd_some, if_neg (show ¬ (1 : Int32) = 0 by decide), within_eq, bnd_some, if_neg hy, hpc, bnd_some], by rw [if_neg hx, e2, bnd_some, if_neg (show ¬ (1 : Int32) = 0 by decide), in_eq, bnd_some, bnd_some, wth_and, if_neg hy, k3, show (8 : Int32) = nI 8 from rfl, if_e (by omega) (by omega), if_pos (by omega)], same⟩
    · rw [if_neg hi] at e1 e2
      exact ⟨-1, h, o, by rw [if_neg hx, e1, bnd_some, if_pos (show (0 : Int32) = 0 from rfl)], by rw [if_neg hx, e2, bnd_some, if_pos (show (0 : Int32) = 0 from rfl)], same⟩
theorem st_looked {F : Nat} {h o : PH} (hF : FOK F) (s : Sim h o) : Step (f_X9_looked F) (f_X10_looked F) h o := by
  have same := s
  obtain ⟨g, b, cs, c, m, ht, r⟩ := s
  obtain ⟨k, k1, k2, k3, k4⟩ := r.2.2.2.2.2.1
  have hg := c.1.2.1
  unfold FOK at hF
  have key : ∀ (j i f : Nat), i + j = k → j < f → ∃ v, fL_X9_looked_2 F f (nI i) h = some (v, h) ∧ fL_X10_looked_2 F f (nI i) o = some (v, o) := by
    intro j
    induction j with
    | zero =>
      intro i f hi hf
      obtain ⟨f, rfl⟩ : ∃ m, f = m + 1 := ⟨f - 1, by omega⟩
      exact ⟨-5, by rw [fL_X9_looked_2, k2, if_l (by omega) (by omega), if_pos (by omega)], by rw [fL_X10_looked_2, k3, if_l (by omega) (by omega), if_pos (by omega)]⟩
    | succ j ih =>
      intro i f hi hf
      obtain ⟨f, rfl⟩ : ∃ m, f = m + 1 := ⟨f - 1, by omega⟩
      obtain ⟨c1, m1, d1, d2, d4, d5, d7, d8⟩ := k4 i (by omega)
      obtain ⟨v, v1, v2⟩ := ih (i + 1) f (by omega) (by omega)
      have hc := (c.2.1.2 c1 (by omega)).1
      have hm := (m.2.1.2.2 c1 (by omega)).1
      have hle := (c.2.1.2 c1 (by omega)).2.1
      have hin : inb (nI i) 8 = true := inb_nI (by omega) (by decide)
      have hin6 : inb (nI c1) 6 = true := inb_nI (by omega) (by decide)
      have a1 : f_X6_cell F 13 (nI i) 0 h = some (nI c1, h) := by
        have := cellC (F := F) (t := 13) (i := i) (j := 0) (h := h) rfl (by show i * 3 + 0 < 24; omega) (by decide)
        rw [li0, this, show h.1 (13 + 1) (i * 3 + 0) = nI c1 from d4]
      have a2 : f_X6_cell F 13 (nI i) 1 h = some (nI m1, h) := by
        have := cellC (F := F) (t := 13) (i := i) (j := 1) (h := h) rfl (by show i * 3 + 1 < 24; omega) (by decide)
        rw [li1, this, show h.1 (13 + 1) (i * 3 + 1) = nI m1 from d5]
      by_cases he : cs.2.1 c1 = m1
      · refine ⟨v, ?_, ?_⟩
        · rw [fL_X9_looked_2, k2, if_l (by omega) (by omega), if_neg (by omega), a1, bnd_some, if_pos hin6, a2, bnd_some, ix_nI (by omega), show h.1 7 c1 = _ from hc, if_pos (by rw [he]), nI_1]; exact v1
        · rw [fL_X10_looked_2, k3, if_l (by omega) (by omega), if_neg (by omega), if_pos hin, ix_nI (by omega), d7, if_pos hin6, if_pos hin, ix_nI (by omega), hm, show o.1 127 i = nI m1 from d8, if_pos (by rw [he]), nI_1]; exact v2
      · refine ⟨nI i, ?_, ?_⟩
        · rw [fL_X9_looked_2, k2, if_l (by omega) (by omega), if_neg (by omega), a1, bnd_some, if_pos hin6, a2, bnd_some, ix_nI (by omega), show h.1 7 c1 = _ from hc, if_e (by omega) (by omega), if_neg he]
        · rw [fL_X10_looked_2, k3, if_l (by omega) (by omega), if_neg (by omega), if_pos hin, ix_nI (by omega), d7, if_pos hin6, if_pos hin, ix_nI (by omega), hm, show o.1 127 i = nI m1 from d8, if_e (by omega) (by omega), if_neg he]
  obtain ⟨v, v1, v2⟩ := key k 0 F (by omega) (by omega)
  exact ⟨v, h, o, v1, v2, same⟩
