-- both sides stand for the same
theorem CB_eq2 {h h' : PH} {z : Nat} {b : BT} (e : ∀ a, 66 ≤ a → a ≤ 89 → h'.1 a = h.1 a) (u : CB h z b) : CB h' z b := by
  have hz := isBench_or u.1
  exact ⟨u.1, by rw [e z (by omega) (by omega)]; exact u.2.1, clC_eq (e z (by omega) (by omega)) (e _ (by omega) (by omega)) (e _ (by omega) (by omega)) (e _ (by omega) (by omega)) u.2.2⟩
def HeldAt (h : PH) (q : Option Nat) (b : BT) : Prop := match q with | none => b = (10, []) | some z => CB h z b
theorem HeldAt_eq {h h' : PH} {q : Option Nat} {b : BT} (e : ∀ a, 66 ≤ a → a ≤ 89 → h'.1 a = h.1 a) (u : HeldAt h q b) : HeldAt h' q b := by
  cases q with
  | none => exact u
  | some z => exact CB_eq2 e u
theorem HeldC_at {h : PH} {b : BT} : HeldC h b = HeldAt h (h.2.2 1 10) b := rfl
def CoreC (h : PH) (g : SG) (b : BT) (cs : CS) : Prop := EnvC h g (semB b) ∧ RepC h 6 cs ∧ HeldC h b
def CoreM (o : PH) (g : SG) (b : BT) (cs : CS) : Prop := EnvM o g b ∧ RepM o cs ∧ o.1 102 25 = 0
theorem CoreC.eq {h h' : PH} {g : SG} {b : BT} {cs : CS} (e : ∀ a, (1 ≤ a ∧ a ≤ 8) ∨ (66 ≤ a ∧ a ≤ 89) → h'.1 a = h.1 a) (e2 : h'.2.2 1 10 = h.2.2 1 10) (c : CoreC h g b cs) : CoreC h' g b cs := by
  obtain ⟨⟨e1, e22, e3, e4, e5, e6, e7, e8⟩, r, hb⟩ := c
  have hb' : HeldC h' b := by rw [HeldC_at, e2]; exact HeldAt_eq (fun a h1 h2 => e a (Or.inr ⟨h1, h2⟩)) hb
  refine ⟨⟨by rw [e 1 (by omega)]; exact e1, e22, fun c hc => by rw [e 2 (by omega)]; exact e3 c hc, fun c hc => by rw [e 3 (by omega)]; exact e4 c hc, fun i hi => by rw [e 4 (by omega)]; exact e5 i hi, fun c hc d hd => by rw [e 5 (by omega)]; exact e6 c hc d hd, HeldC_pace hb', e8⟩, ?_, hb'⟩
  unfold RepC at r ⊢
  rw [e 6 (by omega), e (6 + 1) (by omega), e (6 + 2) (by omega)]; exact r
theorem CoreM.eq {o o' : PH} {g : SG} {b : BT} {cs : CS} (e : ∀ a, (103 ≤ a ∧ a ≤ 106) ∨ (108 ≤ a ∧ a ≤ 113) → o'.1 a = o.1 a) (e2 : ∀ i, i = 0 ∨ i = 1 ∨ i = 2 ∨ i = 8 ∨ i = 25 → o'.1 102 i = o.1 102 i) (c : CoreM o g b cs) : CoreM o' g b cs := by
  obtain ⟨⟨e1, e22, e3, e4, e5, e6, e7⟩, r, hl⟩ := c
  have hl' : o'.1 102 25 = 0 := by rw [e2 25 (by omega)]; exact hl
  refine ⟨⟨by rw [e2 0 (by omega)]; exact e1, e22, fun c hc => by rw [e 103 (by omega)]; exact e3 c hc, fun c hc => by rw [e 104 (by omega)]; exact e4 c hc, fun c hc => by rw [e 106 (by omega)]; exact e5 c hc, e6.fr (e2 8 (by omega)) (e _ (by omega)) (e _ (by omega)) (e _ (by omega)) (e _ (by omega)) (e _ (by omega)) (e _ (by omega)), Or.inl hl'⟩, ?_, hl'⟩
  unfold RepM at r ⊢
  rw [e 105 (by omega), e2 1 (by omega), e2 2 (by omega)]; exact r
-- what the calls on the course leave alone
def KC (h h' : PH) : Prop := (∀ a, a = 0 ∨ (9 ≤ a ∧ a ≤ 14) ∨ (16 ≤ a ∧ a ≤ 30) ∨ a = 32 ∨ 63 ≤ a → h'.1 a = h.1 a) ∧ h'.1 31 1 = h.1 31 1 ∧ h'.2 = h.2
def KM (o o' : PH) : Prop := (∀ a, (107 ≤ a ∧ a ≤ 113) ∨ a = 115 ∨ (122 ≤ a ∧ a ≤ 140) → o'.1 a = o.1 a) ∧ (∀ i, (7 ≤ i ∧ i ≤ 9) ∨ 33 ≤ i → o'.1 102 i = o.1 102 i) ∧ o'.2 = o.2
theorem KC.refl (h : PH) : KC h h := ⟨fun _ _ => rfl, rfl, rfl⟩
theorem KM.refl (h : PH) : KM h h := ⟨fun _ _ => rfl, fun _ _ => rfl, rfl⟩
theorem KC.trans {h h1 h2 : PH} (a : KC h h1) (b : KC h1 h2) : KC h h2 := ⟨fun x u => (b.1 x u).trans (a.1 x u), b.2.1.trans a.2.1, b.2.2.trans a.2.2⟩
theorem KM.trans {h h1 h2 : PH} (a : KM h h1) (b : KM h1 h2) : KM h h2 := ⟨fun x u => (b.1 x u).trans (a.1 x u), fun x u => (b.2.1 x u).trans (a.2.1 x u), b.2.2.trans a.2.2⟩
theorem FrC.kc {k : Nat} {h h' : PH} (hk : k = 6 ∨ k = 35) (f : FrC k h h') : KC h h' := ⟨fun a ha => f.1 a (by omega) (by omega) (by omega), by rw [f.1 31 (by omega) (by omega) (by omega)], f.2⟩
theorem FrQ.km {o o' : PH} (f : FrQ o o') : KM o o' := ⟨fun a ha => f.1 a (by omega) (by omega) (by omega) (by omega), fun i hi => f.2.1 i (by omega) (by omega) (by omega) (by omega), f.2.2⟩
-- the rest
def lettersL : List Int32 := [110, 101, 119, 115, 104, 117, 115, 104, 112, 97, 99, 101]
def TxtS (h o : PH) : Prop := ∃ n tx, TxtC h n tx ∧ TxtM o n tx ∧ ∀ i, i < 12 → o.1 115 i = lettersL.getD i 0
def Lc (q : Option Nat) (nb : Nat) : Prop := q = none ∨ ∃ j, j < nb ∧ q = some (66 + 4 * j)
def Lm (x : Int32) (nb : Nat) : Prop := x = -1 ∨ ∃ j, j < nb ∧ x = nI j
def BenS (h o : PH) : Prop := ∃ nb, nb ≤ 6 ∧ h.1 0 5 = nI nb ∧ o.1 102 7 = nI nb ∧ Lc (h.2.2 1 10) nb ∧ Lc (h.2.2 16 10) nb ∧ Lm (o.1 102 8) nb ∧ Lm (o.1 102 43) nb
def LimS (h : PH) : Prop := h.1 9 0 = 5 ∧ h.1 11 0 = 10 ∧ h.1 13 0 = 8
def SeenS (h o : PH) (z s w n : Nat) : Prop := ∃ k, k ≤ 5 ∧ h.1 z 2 = nI k ∧ o.1 102 s = nI k ∧ ∀ i, i < k → ∃ c m e, c < n ∧ m ≤ 999 ∧ e ≤ 20 ∧ h.1 (z + 1) (i * 3) = nI c ∧ h.1 (z + 1) (i * 3 + 1) = nI m ∧ h.1 (z + 1) (i * 3 + 2) = nI e ∧ o.1 w i = nI c ∧ o.1 (w + 1) i = nI m ∧ o.1 (w + 2) i = nI e
def MonS (h o : PH) (z s w n : Nat) : Prop := ∃ k, k ≤ 10 ∧ h.1 z 2 = nI k ∧ o.1 102 s = nI k ∧ ∀ i, i < k → ∃ c, (c < n ∨ c = 6) ∧ h.1 (z + 1) (i * 3) = nI c ∧ o.1 w i = nI c
def BookS (h o : PH) (z s w n : Nat) : Prop := ∃ k, k ≤ 8 ∧ h.1 z 2 = nI k ∧ o.1 102 s = nI k ∧ ∀ i, i < k → ∃ c m, c < n ∧ m ≤ 9999 ∧ h.1 (z + 1) (i * 3) = nI c ∧ h.1 (z + 1) (i * 3 + 1) = nI m ∧ o.1 w i = nI c ∧ o.1 (w + 1) i = nI m
def ImC (h : PH) (g : SG) (b : BT) (cs : CS) : Prop :=
  h.1 16 0 = nI g.1 ∧ g.1 ≤ 6 ∧ (∀ c, c < 6 → h.1 17 c = nI (g.2.1 c) ∧ g.2.1 c ≤ 6) ∧ (∀ c, c < 6 → h.1 18 c = nI (g.2.2.1 c) ∧ g.2.2.1 c ≤ 9) ∧ (∀ i, i < 24 → h.1 19 i = nI (g.2.2.2 i) ∧ g.2.2.2 i ≤ 9) ∧
  (∀ c, c < g.1 → ∀ d, d ≤ 100 → h.1 20 (c * 101 + d) = nI (preA (semB b) g c d)) ∧ RepC h 21 cs ∧ HeldAt h (h.2.2 16 10) b
def ImM (o : PH) (g : SG) (b : BT) (cs : CS) : Prop :=
  o.1 102 44 = nI g.1 ∧ (∀ c, c < 6 → o.1 128 c = nI (g.2.1 c)) ∧ (∀ c, c < 6 → o.1 129 c = nI (g.2.2.1 c)) ∧ (∀ i, i < 24 → o.1 131 i = nI (g.2.2.2 i)) ∧
  ((o.1 102 43 = -1 ∧ b = (10, [])) ∨ ∃ j, j < 6 ∧ o.1 102 43 = nI j ∧ MB o j b) ∧ o.1 102 46 = nI cs.1 ∧ maskOK (o.1 102 45) cs.2.2 ∧ ∀ c, c < 6 → o.1 130 c = nI (cs.2.1 c)
def ImgS (h o : PH) : Prop := (h.1 0 2 = 0 ∧ o.1 102 42 = 0) ∨ (h.1 0 2 = 1 ∧ o.1 102 42 = 1 ∧ ∃ g b cs, ImC h g b cs ∧ ImM o g b cs ∧ cs.1 ≤ 9999 ∧ BTOK b ∧ SeenS h o 24 47 132 g.1 ∧ MonS h o 26 48 135 g.1 ∧ BookS h o 28 49 136 g.1)
def ActS (h o : PH) : Prop := ∃ r, r ≤ 40 ∧ h.1 63 1 = nI r ∧ o.1 102 60 = nI r ∧ ∀ i, i < r → i < 20 → h.1 64 i = o.1 138 i
def TapS (h o : PH) : Prop := ∀ t, t < 6 → ∃ s n, n ≤ 60 ∧ s ≤ 5 ∧ (s = 5 → n = 0) ∧ h.1 (90 + 2 * t) 0 = (if s = 5 then -1 else nI s) ∧ o.1 139 t = (if s = 5 then -1 else nI s) ∧ h.1 (90 + 2 * t) 1 = nI n ∧ o.1 140 t = nI n ∧ ∀ i, i < 60 → h.2.1 (90 + 2 * t + 1) i = o.2.1 141 (60 * t + i)
def Rest (h o : PH) (n : Nat) : Prop := TxtS h o ∧ BenS h o ∧ LimS h ∧ SeenS h o 9 33 122 n ∧ MonS h o 11 37 125 n ∧ BookS h o 13 38 126 n ∧ ImgS h o ∧ ActS h o ∧ TapS h o
def Sim (h o : PH) : Prop := ∃ g b cs, CoreC h g b cs ∧ CoreM o g b cs ∧ cs.1 ≤ 9999 ∧ Rest h o g.1
theorem TxtS.eq {h h' o o' : PH} (e1 : h'.1 31 1 = h.1 31 1) (e2 : h'.1 32 = h.1 32) (e3 : o'.1 102 9 = o.1 102 9) (e4 : o'.1 107 = o.1 107) (e5 : o'.1 115 = o.1 115) (r : TxtS h o) : TxtS h' o' := by
  unfold TxtS TxtC TxtM at r ⊢
  rw [e1, e2, e3, e4, e5]; exact r
theorem BenS.eq {h h' o o' : PH} (e1 : h'.1 0 5 = h.1 0 5) (e2 : h'.2.2 = h.2.2) (e3 : o'.1 102 7 = o.1 102 7) (e4 : o'.1 102 8 = o.1 102 8) (e5 : o'.1 102 43 = o.1 102 43) (r : BenS h o) : BenS h' o' := by
  unfold BenS at r ⊢
  rw [e1, e2, e3, e4, e5]; exact r
theorem LimS.eq {h h' : PH} (e1 : h'.1 9 0 = h.1 9 0) (e2 : h'.1 11 0 = h.1 11 0) (e3 : h'.1 13 0 = h.1 13 0) (r : LimS h) : LimS h' := by
  unfold LimS at r ⊢
  rw [e1, e2, e3]; exact r
theorem SeenS.eq {h h' o o' : PH} {z s w n : Nat} (e1 : h'.1 z 2 = h.1 z 2) (e2 : h'.1 (z + 1) = h.1 (z + 1)) (e3 : o'.1 102 s = o.1 102 s) (e4 : o'.1 w = o.1 w) (e5 : o'.1 (w + 1) = o.1 (w + 1)) (e6 : o'.1 (w + 2) = o.1 (w + 2)) (r : SeenS h o z s w n) : SeenS h' o' z s w n := by
  unfold SeenS at r ⊢
  rw [e1, e2, e3, e4, e5, e6]; exact r
theorem MonS.eq {h h' o o' : PH} {z s w n : Nat} (e1 : h'.1 z 2 = h.1 z 2) (e2 : h'.1 (z + 1) = h.1 (z + 1)) (e3 : o'.1 102 s = o.1 102 s) (e4 : o'.1 w = o.1 w) (r : MonS h o z s w n) : MonS h' o' z s w n := by
  unfold MonS at r ⊢
  rw [e1, e2, e3, e4]; exact r
theorem BookS.eq {h h' o o' : PH} {z s w n : Nat} (e1 : h'.1 z 2 = h.1 z 2) (e2 : h'.1 (z + 1) = h.1 (z + 1)) (e3 : o'.1 102 s = o.1 102 s) (e4 : o'.1 w = o.1 w) (e5 : o'.1 (w + 1) = o.1 (w + 1)) (r : BookS h o z s w n) : BookS h' o' z s w n := by
  unfold BookS at r ⊢
  rw [e1, e2, e3, e4, e5]; exact r
theorem ActS.eq {h h' o o' : PH} (e1 : h'.1 63 1 = h.1 63 1) (e2 : h'.1 64 = h.1 64) (e3 : o'.1 102 60 = o.1 102 60) (e4 : o'.1 138 = o.1 138) (r : ActS h o) : ActS h' o' := by
  unfold ActS at r ⊢
  rw [e1, e2, e3, e4]; exact r
theorem TapS.eq {h h' o o' : PH} (e1 : ∀ t, 90 ≤ t → t ≤ 100 → h'.1 t = h.1 t) (e2 : ∀ t, 90 ≤ t → h'.2.1 t = h.2.1 t) (e3 : o'.1 139 = o.1 139) (e4 : o'.1 140 = o.1 140) (e5 : o'.2.1 141 = o.2.1 141) (r : TapS h o) : TapS h' o' := by
  intro t ht
  rw [e1 (90 + 2 * t) (by omega) (by omega), e2 (90 + 2 * t + 1) (by omega), e3, e4, e5]; exact r t ht
theorem ImC.eq {h h' : PH} {g : SG} {b : BT} {cs : CS} (e : ∀ a, (16 ≤ a ∧ a ≤ 23) ∨ (66 ≤ a ∧ a ≤ 89) → h'.1 a = h.1 a) (e2 : h'.2.2 16 10 = h.2.2 16 10) (r : ImC h g b cs) : ImC h' g b cs := by
  obtain ⟨r1, r2, r3, r4, r5, r6, r7, r8⟩ := r
  refine ⟨by rw [e 16 (by omega)]; exact r1, r2, by rw [e 17 (by omega)]; exact r3, by rw [e 18 (by omega)]; exact r4, by rw [e 19 (by omega)]; exact r5, by rw [e 20 (by omega)]; exact r6, ?_, by rw [e2]; exact HeldAt_eq (fun a h1 h2 => e a (Or.inr ⟨h1, h2⟩)) r8⟩
  unfold RepC at r7 ⊢
  rw [e 21 (by omega), e (21 + 1) (by omega), e (21 + 2) (by omega)]; exact r7
theorem ImM.eq {o o' : PH} {g : SG} {b : BT} {cs : CS} (e : ∀ a, (108 ≤ a ∧ a ≤ 113) ∨ (128 ≤ a ∧ a ≤ 131) → o'.1 a = o.1 a) (e2 : ∀ i, 43 ≤ i → i ≤ 46 → o'.1 102 i = o.1 102 i) (r : ImM o g b cs) : ImM o' g b cs := by
  obtain ⟨r1, r2, r3, r4, r5, r6, r7, r8⟩ := r
  refine ⟨by rw [e2 44 (by omega) (by omega)]; exact r1, by rw [e 128 (by omega)]; exact r2, by rw [e 129 (by omega)]; exact r3, by rw [e 131 (by omega)]; exact r4, ?_, by rw [e2 46 (by omega) (by omega)]; exact r6, by rw [e2 45 (by omega) (by omega)]; exact r7, by rw [e 130 (by omega)]; exact r8⟩
  rw [e2 43 (by omega) (by omega)]
  rcases r5 with r5 | ⟨j, u1, u2, u3⟩
  · exact Or.inl r5
  · exact Or.inr ⟨j, u1, u2, MB_eq (e _ (by omega)) (e _ (by omega)) (e _ (by omega)) (e _ (by omega)) (e _ (by omega)) (e _ (by omega)) u3⟩
theorem ImgS.eq {h h' o o' : PH} (e : ∀ a, (16 ≤ a ∧ a ≤ 29) ∨ (66 ≤ a ∧ a ≤ 89) → h'.1 a = h.1 a) (e0 : h'.1 0 2 = h.1 0 2) (e2 : h'.2.2 16 10 = h.2.2 16 10) (m : ∀ a, (108 ≤ a ∧ a ≤ 113) ∨ (128 ≤ a ∧ a ≤ 137) → o'.1 a = o.1 a) (m2 : ∀ i, 42 ≤ i → i ≤ 49 → o'.1 102 i = o.1 102 i) (r : ImgS h o) : ImgS h' o' := by
  rcases r with ⟨r1, r2⟩ | ⟨r1, r2, g, b, cs, r3, r4, r5, r6, r7, r8, r9⟩
  · exact Or.inl ⟨by rw [e0]; exact r1, by rw [m2 42 (by omega) (by omega)]; exact r2⟩
  · refine Or.inr ⟨by rw [e0]; exact r1, by rw [m2 42 (by omega) (by omega)]; exact r2, g, b, cs, r3.eq (fun a ha => e a (by omega)) e2, r4.eq (fun a ha => m a (by omega)) (fun i h1 h2 => m2 i (by omega) (by omega)), r5, r6, ?_, ?_, ?_⟩
    · exact r7.eq (by rw [e 24 (by omega)]) (e _ (by omega)) (m2 _ (by omega) (by omega)) (m _ (by omega)) (m _ (by omega)) (m _ (by omega))
    · exact r8.eq (by rw [e 26 (by omega)]) (e _ (by omega)) (m2 _ (by omega) (by omega)) (m _ (by omega))
    · exact r9.eq (by rw [e 28 (by omega)]) (e _ (by omega)) (m2 _ (by omega) (by omega)) (m _ (by omega)) (m _ (by omega))
theorem Rest.keep {h h' o o' : PH} {n : Nat} (c : KC h h') (m : KM o o') (r : Rest h o n) : Rest h' o' n := by
  obtain ⟨r1, r2, r3, r4, r5, r6, r7, r8, r9⟩ := r
  refine ⟨r1.eq c.2.1 (c.1 _ (by omega)) (m.2.1 _ (by omega)) (m.1 _ (by omega)) (m.1 _ (by omega)), r2.eq (by rw [c.1 0 (by omega)]) (by rw [c.2.2]) (m.2.1 _ (by omega)) (m.2.1 _ (by omega)) (m.2.1 _ (by omega)), r3.eq (by rw [c.1 9 (by omega)]) (by rw [c.1 11 (by omega)]) (by rw [c.1 13 (by omega)]),
    r4.eq (by rw [c.1 9 (by omega)]) (c.1 _ (by omega)) (m.2.1 _ (by omega)) (m.1 _ (by omega)) (m.1 _ (by omega)) (m.1 _ (by omega)), r5.eq (by rw [c.1 11 (by omega)]) (c.1 _ (by omega)) (m.2.1 _ (by omega)) (m.1 _ (by omega)), r6.eq (by rw [c.1 13 (by omega)]) (c.1 _ (by omega)) (m.2.1 _ (by omega)) (m.1 _ (by omega)) (m.1 _ (by omega)),
    r7.eq (fun a ha => c.1 a (by omega)) (by rw [c.1 0 (by omega)]) (by rw [c.2.2]) (fun a ha => m.1 a (by omega)) (fun i h1 h2 => m.2.1 i (by omega)), r8.eq (by rw [c.1 63 (by omega)]) (c.1 _ (by omega)) (m.2.1 _ (by omega)) (m.1 _ (by omega)), r9.eq (fun t h1 h2 => c.1 t (by omega)) (fun t h1 => by rw [c.2.2]) (m.1 _ (by omega)) (m.1 _ (by omega)) (by rw [m.2.2])⟩
-- a call on both sides
def Step {A : Type} (C M : PH → Option (A × PH)) (h o : PH) : Prop := ∃ v h' o', C h = some (v, h') ∧ M o = some (v, o') ∧ Sim h' o'
theorem CoreC.keep35 {h h' : PH} {g : SG} {b : BT} {cs : CS} (f : FrC 35 h h') (c : CoreC h g b cs) : CoreC h' g b cs := c.eq (fun a ha => f.1 a (by omega) (by omega) (by omega)) (by rw [f.2])
theorem CoreC.step6 {h h' : PH} {g : SG} {b : BT} {cs cs' : CS} (f : FrC 6 h h') (r : RepC h' 6 cs') (c : CoreC h g b cs) : CoreC h' g b cs' := ⟨f.env (by decide) c.1, r, HeldC_eq (fun a ha => f.1 a (by omega) (by omega) (by omega)) (by rw [f.2]) c.2.2⟩
theorem CoreM.keepQ {o o' : PH} {g : SG} {b : BT} {cs cs' : CS} (f : FrQ o o') (r : RepM o' cs') (c : CoreM o g b cs) : CoreM o' g b cs' := ⟨f.env c.1, r, by rw [f.2.1 25 (by decide) (by decide) (by decide) (by decide)]; exact c.2.2⟩
theorem ask {A : Type} {C M : PH → Option (A × PH)} {h o : PH} {g : SG} {b : BT} {cs : CS} {v : A} (c : CoreC h g b cs) (m : CoreM o g b cs) (ht : cs.1 ≤ 9999) (r : Rest h o g.1) (hc : ∃ h', C h = some (v, h') ∧ FrC 35 h h') (hm : ∃ o', M o = some (v, o') ∧ FrQ o o' ∧ RepM o' cs) : Step C M h o := by
  obtain ⟨h', c1, c2⟩ := hc
  obtain ⟨o', m1, m2, m3⟩ := hm
  exact ⟨v, h', o', c1, m1, g, b, cs, c.keep35 c2, m.keepQ m2 m3, ht, r.keep (c2.kc (Or.inr rfl)) m2.km⟩
theorem did {C M : PH → Option (Int32 × PH)} {h o : PH} {g : SG} {b : BT} {cs cs' : CS} {v : Int32} (c : CoreC h g b cs) (m : CoreM o g b cs) (ht : cs'.1 ≤ 9999) (r : Rest h o g.1) (hc : ∃ h', C h = some (v, h') ∧ FrC 6 h h' ∧ RepC h' 6 cs') (hm : ∃ o', M o = some (v, o') ∧ FrM o o' ∧ RepM o' cs') : Step C M h o := by
  obtain ⟨h', c1, c2, c3⟩ := hc
  obtain ⟨o', m1, m2, m3⟩ := hm
  exact ⟨v, h', o', c1, m1, g, b, cs', c.step6 c2 c3, m.keepQ m2.q m3, ht, r.keep (c2.kc (Or.inl rfl)) m2.q.km⟩
def FOK (F : Nat) : Prop := 100000 ≤ F ∧ F < 2 ^ 28
theorem st_news {F : Nat} {h o : PH} {x d : Int32} (hF : FOK F) (s : Sim h o) : Step (f_X9_news F x d) (f_X10_news F x d) h o := by
  obtain ⟨g, b, cs, c, m, ht, r⟩ := s
  obtain ⟨o', m1, m2⟩ := newsCallM (F := F) (x := x) (d := d) (by unfold FOK at hF; omega) m.1
  exact ask c m ht r ⟨h, newsCallC c.1, FrC.refl _ _⟩ ⟨o', m1, m2.m.q, m.2.1.p m2⟩
theorem st_told {F : Nat} {h o : PH} {x : Int32} (hF : FOK F) (s : Sim h o) : Step (f_X9_told F x) (f_X10_told F x) h o := by
  obtain ⟨g, b, cs, c, m, ht, r⟩ := s
  unfold FOK at hF
  obtain ⟨o', m1, m2⟩ := toldM (F := F) (a := x) (by omega) m.1 m.2.1 (by omega) (by omega)
  exact ask c m ht r ⟨h, toldC (by omega) c.1 c.2.1 (by omega), FrC.refl _ _⟩ ⟨o', m1, m2.m.q, m.2.1.p m2⟩
theorem st_of {F : Nat} {h o : PH} {x a : Int32} (hF : FOK F) (s : Sim h o) : Step (f_X9_of F x a) (f_X10_of F x a) h o := by
  obtain ⟨g, b, cs, c, m, ht, r⟩ := s
  unfold FOK at hF
  exact ask c m ht r (ofC (by omega) (by omega) c.1 c.2.1 (by omega) (by omega)) (ofM' (by omega) m.1 m.2.1 (by omega) (by omega))
theorem st_on {F : Nat} {h o : PH} {x k w : Int32} (hF : FOK F) (s : Sim h o) : Step (f_X9_on F x k w) (f_X10_on F x k w) h o := by
  obtain ⟨g, b, cs, c, m, ht, r⟩ := s
  unfold FOK at hF
  exact ask c m ht r (onC (by omega) c.1 c.2.1 (by omega)) (onM (by omega) m.1 m.2.1 (by omega) (by omega))
theorem st_next {F : Nat} {h o : PH} (hF : FOK F) (s : Sim h o) : Step (f_X9_next F) (f_X10_next F) h o := by
  obtain ⟨g, b, cs, c, m, ht, r⟩ := s
  unfold FOK at hF
  exact ask c m ht r (nextC (by omega) c.1 c.2.1 (by omega)) (nextM (by omega) m.1 m.2.1 (by omega) (by omega))
theorem tellA_le {b : Bn} {g : SG} {cs : CS} {x : Int32} (ht : cs.1 ≤ 9999) : (tellA b g cs x).2.1 ≤ 9999 := by
  unfold tellA
  split
  · split
    · show (evening b g (ix x) cs).2.1 ≤ 9999
      rw [evening_1]; omega
    · exact ht
  · exact ht
theorem st_tell {F : Nat} {h o : PH} {x : Int32} (hF : FOK F) (s : Sim h o) : Step (f_X9_tell F x) (f_X10_tell F x) h o := by
  obtain ⟨g, b, cs, c, m, ht, r⟩ := s
  unfold FOK at hF
  exact did c m (tellA_le ht) r (tellC (by omega) c.1 c.2.1 ht) (tellM (by omega) m.1 m.2.1 ht)
theorem passA_le {n : Nat} {cs : CS} {k : Int32} (ht : cs.1 ≤ 9999) : (passA n cs k).2.1 ≤ 9999 := by
  unfold passA
  split
  · exact ht
  · split
    · show (nightsA n (ix k) cs).1 ≤ 9999
      rw [nightsA_1]; omega
    · exact ht
theorem st_pass {F : Nat} {h o : PH} {k : Int32} (hF : FOK F) (s : Sim h o) : Step (f_X9_pass F k) (f_X10_pass F k) h o := by
  obtain ⟨g, b, cs, c, m, ht, r⟩ := s
  unfold FOK at hF
  exact did c m (passA_le ht) r (passC (by omega) c.1.1 c.1.2.1 c.2.1 ht) (passM (by omega) m.1.1 m.1.2.1 m.2.1 ht)
theorem setA_le {n : Nat} {cs : CS} {x d : Int32} (ht : cs.1 ≤ 9999) : (setA n cs x d).2.1 ≤ 9999 := by
  unfold setA
  split
  · split <;> exact ht
  · exact ht
theorem st_set {F : Nat} {h o : PH} {x d : Int32} (s : Sim h o) : Step (f_X9_set F x d) (f_X10_set F x d) h o := by
  obtain ⟨g, b, cs, c, m, ht, r⟩ := s
  exact did c m (setA_le ht) r (setC c.1.1 c.1.2.1 c.2.1 ht) (setM m.1.1 m.1.2.1 m.2.1 ht)
theorem balkA_le {n : Nat} {cs : CS} {x : Int32} {p : Bool} (ht : cs.1 ≤ 9999) : (balkA n cs x p).2.1 ≤ 9999 := by
  unfold balkA
  split <;> exact ht
theorem st_balk {F : Nat} {h o : PH} {x : Int32} {p : Bool} (s : Sim h o) : Step (f_X9_balk F x (b2i p)) (f_X10_balk F x (b2i p)) h o := by
  obtain ⟨g, b, cs, c, m, ht, r⟩ := s
  exact did c m (balkA_le ht) r (balkCallC c.1.1 c.1.2.1 c.2.1) (balkCallM m.1.1 m.1.2.1 m.2.1)
theorem rowA_1 {g : SG} {x i v : Int32} : (rowA g x i v).2.1 = g.1 := by
  unfold rowA
  split
  · split
    · rfl
    · split
      · rfl
      · split <;> rfl
  · rfl
theorem st_row {F : Nat} {h o : PH} {x i v : Int32} (s : Sim h o) : Step (f_X9_row F x i v) (f_X10_row F x i v) h o := by
  obtain ⟨g, b, cs, c, m, ht, r⟩ := s
  obtain ⟨h', c1, c2, c3, c4⟩ := rowC (F := F) (x := x) (i := i) (v := v) c.1
  obtain ⟨o', m1, m2, m3, m4⟩ := rowM (F := F) (x := x) (i := i) (v := v) m.1
  refine ⟨_, h', o', c1, m1, (rowA g x i v).2, b, cs, ⟨c2, ?_, HeldC_eq (fun a ha => c3 a (by omega)) (by rw [c4]) c.2.2⟩, ⟨m2, ?_, by rw [m3 102 (by decide)]; exact m.2.2⟩, ht, ?_⟩
  · have r := c.2.1
    unfold RepC at r ⊢
    rw [c3 6 (by decide), c3 (6 + 1) (by decide), c3 (6 + 2) (by decide)]; exact r
  · have r := m.2.1
    unfold RepM at r ⊢
    rw [m3 102 (by decide), m3 105 (by decide)]; exact r
  · rw [rowA_1]
    exact r.keep ⟨fun a ha => c3 a (by omega), by rw [c3 31 (by decide)], c4⟩ ⟨fun a ha => m3 a (by omega), fun i hi => by rw [m3 102 (by decide)], m4⟩
theorem st_feed {F : Nat} {h o : PH} {x : Int32} (s : Sim h o) : Step (f_X9_feed F x) (f_X10_feed F x) h o := by
  obtain ⟨g, b, cs, c, m, ht, ⟨n, tx, t1, t2, t3⟩, r2, r3, r4, r5, r6, r7, r8, r9⟩ := s
  obtain ⟨h', c1, c2, c3, c4, c5⟩ := feedC (F := F) (x := x) t1
  obtain ⟨o', m1, m2, m3, m4, m5⟩ := feedM (F := F) (x := x) t2
  exact ⟨_, h', o', c1, m1, g, b, cs, c.eq (fun a ha => c3 a (by omega) (by omega)) (by rw [c5]), m.eq (fun a ha => m3 a (by omega) (by omega)) (fun i hi => m4 i (by omega)), ht, ⟨_, _, c2, m2, by rw [m3 115 (by omega) (by omega)]; exact t3⟩,
    r2.eq (by rw [c3 0 (by omega) (by omega)]) (by rw [c5]) (m4 _ (by omega)) (m4 _ (by omega)) (m4 _ (by omega)), r3.eq (by rw [c3 9 (by omega) (by omega)]) (by rw [c3 11 (by omega) (by omega)]) (by rw [c3 13 (by omega) (by omega)]),
    r4.eq (by rw [c3 9 (by omega) (by omega)]) (c3 _ (by omega) (by omega)) (m4 _ (by omega)) (m3 _ (by omega) (by omega)) (m3 _ (by omega) (by omega)) (m3 _ (by omega) (by omega)), r5.eq (by rw [c3 11 (by omega) (by omega)]) (c3 _ (by omega) (by omega)) (m4 _ (by omega)) (m3 _ (by omega) (by omega)), r6.eq (by rw [c3 13 (by omega) (by omega)]) (c3 _ (by omega) (by omega)) (m4 _ (by omega)) (m3 _ (by omega) (by omega)) (m3 _ (by omega) (by omega)),
    r7.eq (fun a ha => c3 a (by omega) (by omega)) (by rw [c3 0 (by omega) (by omega)]) (by rw [c5]) (fun a ha => m3 a (by omega) (by omega)) (fun i h1 h2 => m4 i (by omega)), r8.eq (by rw [c3 63 (by omega) (by omega)]) (c3 _ (by omega) (by omega)) (m4 _ (by omega)) (m3 _ (by omega) (by omega)), r9.eq (fun t h1 h2 => c3 t (by omega) (by omega)) (fun t h1 => by rw [c5]) (m3 _ (by omega) (by omega)) (m3 _ (by omega) (by omega)) (by rw [m5])⟩
