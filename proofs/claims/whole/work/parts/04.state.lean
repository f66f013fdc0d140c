-- the pure heap: ints by cell and place, longs, references that may change
abbrev PH : Type := (Nat → Nat → Int32) × (Nat → Nat → Int64) × (Nat → Nat → Option Nat)
def rowI (h : PH) (k : Nat) (f : Nat → Int32) : PH := (va_up h.1 k f, h.2)
def wI (h : PH) (k i : Nat) (x : Int32) : PH := rowI h k (upd (h.1 k) i x)
def rowL (h : PH) (k : Nat) (f : Nat → Int64) : PH := (h.1, va_up h.2.1 k f, h.2.2)
def wL (h : PH) (k i : Nat) (x : Int64) : PH := rowL h k (vp_updL (h.2.1 k) i x)
def wR (h : PH) (k i : Nat) (x : Option Nat) : PH := (h.1, h.2.1, va_up h.2.2 k (va_up (h.2.2 k) i x))
def kdl : List Nat := [9, 7, 21, 21, 21, 21, 3, 21, 23, 6, 21, 6, 21, 6, 21, 21, 7, 21, 21, 21, 21, 3, 21, 23, 6, 21, 6, 21, 6, 21, 21, 5, 20, 24, 1, 3, 21, 23, 4, 25, 21, 21, 3, 21, 23, 3, 21, 23, 3, 21, 23, 3, 21, 23, 3, 21, 23, 3, 21, 23, 3, 21, 23, 0, 21, 26, 2, 21, 21, 21, 2, 21, 21, 21, 2, 21, 21, 21, 2, 21, 21, 21, 2, 21, 21, 21, 2, 21, 21, 21, 8, 22, 8, 22, 8, 22, 8, 22, 8, 22, 8, 22, 10, 21, 21, 21, 21, 21, 21, 21, 21, 21, 21, 21, 21, 21, 23, 21, 21, 21, 21, 21, 21, 21, 21, 21, 21, 21, 21, 21, 21, 21, 21, 21, 21, 21, 21, 21, 21, 21, 21, 22, 22]
def lnl : List Nat := [0, 0, 6, 6, 24, 606, 0, 6, 6, 0, 15, 0, 30, 0, 24, 6, 0, 6, 6, 24, 606, 0, 6, 6, 0, 15, 0, 30, 0, 24, 6, 0, 100, 6, 0, 0, 6, 6, 0, 7, 6, 6, 0, 6, 6, 0, 6, 6, 0, 6, 6, 0, 6, 6, 0, 6, 6, 0, 6, 6, 0, 6, 6, 0, 20, 6, 0, 10, 10, 100, 0, 10, 10, 100, 0, 10, 10, 100, 0, 10, 10, 100, 0, 10, 10, 100, 0, 10, 10, 100, 0, 60, 0, 60, 0, 60, 0, 60, 0, 60, 0, 60, 0, 6, 6, 6, 24, 100, 6, 60, 60, 60, 60, 600, 101, 12, 100, 4800, 6, 6, 6, 6, 5, 5, 5, 10, 8, 8, 6, 6, 6, 24, 5, 5, 5, 10, 8, 8, 20, 6, 6, 360, 60]
def lnA (k : Nat) : Nat := lnl.getD k 0
def el (V : Ev) (h : PH) (k : Nat) : va_E := match kdl.getD k 99 with
  | 0 => .inr (0, [rf V 64, .int (h.1 k 1), .int (h.1 k 2), .int (h.1 k 3), .int (h.1 k 4)])
  | 1 => .inr (1, [rf V 1, rf V 35, .int (h.1 k 2), .int (h.1 k 3)])
  | 2 => .inr (2, [.int (h.1 k 0), .int (h.1 k 1), rf V (k + 1), rf V (k + 2), .int (h.1 k 4), rf V (k + 3)])
  | 3 => .inr (3, [.int (h.1 k 0), rf V (k + 1), rf V (k + 2)])
  | 4 => .inr (4, [rf V 1, rf V 39, rf V 40, rf V 41, .int (h.1 k 4)])
  | 5 => .inr (5, [rf V 32, .int (h.1 k 1), .int (h.1 k 2), .int (h.1 k 3), .int (h.1 k 4), rq V (h.2.2 k 5)])
  | 6 => .inr (6, [.int (h.1 k 0), rf V (k + 1), .int (h.1 k 2)])
  | 7 => .inr (7, [.int (h.1 k 0), rf V (k + 1), rf V (k + 2), rf V (k + 3), rf V (k + 4), rf V (k + 5), rf V (k + 8), rf V (k + 10), rf V (k + 12), rf V (k + 14), rq V (h.2.2 k 10)])
  | 8 => .inr (8, [.int (h.1 k 0), .int (h.1 k 1), rf V (k + 1)])
  | 9 => .inr (9, [rf V 1, rf V 16, .int (h.1 k 2), rf V 31, rf V 33, .int (h.1 k 5), rf V 34, rf V 38, rf V 63, rf V 65])
  | 10 => .inr (10, [.int (h.1 k 0), .int (h.1 k 1), .int (h.1 k 2), rf V 103, rf V 104, rf V 105, rf V 106, .int (h.1 k 7), .int (h.1 k 8), .int (h.1 k 9), .int (h.1 k 10), .int (h.1 k 11), rf V 107, rf V 108, rf V 109, rf V 110, rf V 111, rf V 112, rf V 113, rf V 114, .int (h.1 k 20), .int (h.1 k 21), .int (h.1 k 22), rf V 115, rf V 116, .int (h.1 k 25), rf V 117, rf V 118, .int (h.1 k 28), .int (h.1 k 29), rf V 119, rf V 120, rf V 121, .int (h.1 k 33), rf V 122, rf V 123, rf V 124, .int (h.1 k 37), .int (h.1 k 38), rf V 125, rf V 126, rf V 127, .int (h.1 k 42), .int (h.1 k 43), .int (h.1 k 44), .int (h.1 k 45), .int (h.1 k 46), .int (h.1 k 47), .int (h.1 k 48), .int (h.1 k 49), rf V 128, rf V 129, rf V 130, rf V 131, rf V 132, rf V 133, rf V 134, rf V 135, rf V 136, rf V 137, .int (h.1 k 60), rf V 138, rf V 139, rf V 140, rf V 141, rf V 142])
  | 20 => .inl (V.2.1 0, lnA k, .inl (h.1 k))
  | 21 => .inl (V.2.1 1, lnA k, .inl (h.1 k))
  | 22 => .inl (V.2.1 2, lnA k, .inr (.inl (h.2.1 k)))
  | 23 => .inl (V.2.1 3, lnA k, .inl (h.1 k))
  | 24 => .inl (V.2.1 4, 6, .inr (.inr (.inr (.inr (fun i => some (V.2.2.1 + (66 + 4 * i)))))))
  | 25 => .inl (V.2.1 5, 7, .inr (.inr (.inr (.inr (fun i => some (V.2.2.1 + (42 + 3 * i)))))))
  | 26 => .inl (V.2.1 6, 6, .inr (.inr (.inr (.inr (fun i => some (V.2.2.1 + (90 + 2 * i)))))))
  | _ => .inr (99, [])
/-- the world: the class's cells as hc has them, the reference's as hm -/
def WG (V : Ev) (hc hm : PH) (k : Nat) : va_E := if k < 102 then el V hc k else el V hm k
theorem el_rowI {V : Ev} {h : PH} {k j : Nat} (f : Nat → Int32) (hj : j ≠ k) : el V (rowI h k f) j = el V h j := by
  have e : (rowI h k f).1 j = h.1 j := va_up_ne _ _ hj
  unfold el; rw [e]; rfl
theorem el_rowL {V : Ev} {h : PH} {k j : Nat} (f : Nat → Int64) (hj : j ≠ k) : el V (rowL h k f) j = el V h j := by
  have e : (rowL h k f).2.1 j = h.2.1 j := va_up_ne _ _ hj
  unfold el; rw [e]; rfl
theorem el_wR {V : Ev} {h : PH} {k i j : Nat} (x : Option Nat) (hj : j ≠ k) : el V (wR h k i x) j = el V h j := by
  have e : (wR h k i x).2.2 j = h.2.2 j := va_up_ne _ _ hj
  unfold el; rw [e]; rfl
theorem wgc {V : Ev} {h h' o : PH} {k : Nat} {e : va_E} (hk : k < 102) (he : el V h' k = e) (hne : ∀ j, j ≠ k → el V h' j = el V h j) : va_up (WG V h o) k e = WG V h' o := by
  funext j
  by_cases hj : j = k
  · subst hj; rw [va_up_self]; unfold WG; rw [if_pos hk, he]
  · rw [va_up_ne _ _ hj]; unfold WG; rw [hne j hj]
theorem wgm {V : Ev} {h h' o : PH} {k : Nat} {e : va_E} (hk : ¬ k < 102) (he : el V h' k = e) (hne : ∀ j, j ≠ k → el V h' j = el V h j) : va_up (WG V o h) k e = WG V o h' := by
  funext j
  by_cases hj : j = k
  · subst hj; rw [va_up_self]; unfold WG; rw [if_neg hk, he]
  · rw [va_up_ne _ _ hj]; unfold WG; rw [hne j hj]
theorem wc_at {V : Ev} {h o : PH} {k : Nat} {e : va_E} (hk : k < 102) (he : el V h k = e) : WG V h o k = e := by unfold WG; rw [if_pos hk, he]
theorem wm_at {V : Ev} {h o : PH} {k : Nat} {e : va_E} (hk : ¬ k < 102) (he : el V h k = e) : WG V o h k = e := by unfold WG; rw [if_neg hk, he]
section World
variable {V : Ev} {h o : PH}
theorem g0 : WG V h o 0 = .inr (9, [rf V 1, rf V 16, .int (h.1 0 2), rf V 31, rf V 33, .int (h.1 0 5), rf V 34, rf V 38, rf V 63, rf V 65]) := wc_at (by decide) rfl
theorem u0_2 {x : Int32} : va_up (WG V h o) 0 (.inr (9, ([rf V 1, rf V 16, .int (h.1 0 2), rf V 31, rf V 33, .int (h.1 0 5), rf V 34, rf V 38, rf V 63, rf V 65] : List Value).set 2 (.int x))) = WG V (wI h 0 2 x) o := wgc (by decide) rfl (fun j hj => el_rowI _ hj)
theorem u0_5 {x : Int32} : va_up (WG V h o) 0 (.inr (9, ([rf V 1, rf V 16, .int (h.1 0 2), rf V 31, rf V 33, .int (h.1 0 5), rf V 34, rf V 38, rf V 63, rf V 65] : List Value).set 5 (.int x))) = WG V (wI h 0 5 x) o := wgc (by decide) rfl (fun j hj => el_rowI _ hj)
theorem g1 : WG V h o 1 = .inr (7, [.int (h.1 1 0), rf V 2, rf V 3, rf V 4, rf V 5, rf V 6, rf V 9, rf V 11, rf V 13, rf V 15, rq V (h.2.2 1 10)]) := wc_at (by decide) rfl
theorem u1_0 {x : Int32} : va_up (WG V h o) 1 (.inr (7, ([.int (h.1 1 0), rf V 2, rf V 3, rf V 4, rf V 5, rf V 6, rf V 9, rf V 11, rf V 13, rf V 15, rq V (h.2.2 1 10)] : List Value).set 0 (.int x))) = WG V (wI h 1 0 x) o := wgc (by decide) rfl (fun j hj => el_rowI _ hj)
theorem u1_10 {x : Option Nat} : va_up (WG V h o) 1 (.inr (7, ([.int (h.1 1 0), rf V 2, rf V 3, rf V 4, rf V 5, rf V 6, rf V 9, rf V 11, rf V 13, rf V 15, rq V (h.2.2 1 10)] : List Value).set 10 (rq V x))) = WG V (wR h 1 10 x) o := wgc (by decide) rfl (fun j hj => el_wR _ hj)
theorem g2 : WG V h o 2 = .inl (V.2.1 1, 6, .inl (h.1 2)) := wc_at (by decide) rfl
theorem u2 {i : Nat} {x : Int32} : va_up (WG V h o) 2 (.inl (V.2.1 1, 6, .inl (upd (h.1 2) i x))) = WG V (wI h 2 i x) o := wgc (by decide) rfl (fun j hj => el_rowI _ hj)
theorem uf2 {f : Nat → Int32} : va_up (WG V h o) 2 (.inl (V.2.1 1, 6, .inl f)) = WG V (rowI h 2 f) o := wgc (by decide) rfl (fun j hj => el_rowI _ hj)
theorem g3 : WG V h o 3 = .inl (V.2.1 1, 6, .inl (h.1 3)) := wc_at (by decide) rfl
theorem u3 {i : Nat} {x : Int32} : va_up (WG V h o) 3 (.inl (V.2.1 1, 6, .inl (upd (h.1 3) i x))) = WG V (wI h 3 i x) o := wgc (by decide) rfl (fun j hj => el_rowI _ hj)
theorem uf3 {f : Nat → Int32} : va_up (WG V h o) 3 (.inl (V.2.1 1, 6, .inl f)) = WG V (rowI h 3 f) o := wgc (by decide) rfl (fun j hj => el_rowI _ hj)
theorem g4 : WG V h o 4 = .inl (V.2.1 1, 24, .inl (h.1 4)) := wc_at (by decide) rfl
theorem u4 {i : Nat} {x : Int32} : va_up (WG V h o) 4 (.inl (V.2.1 1, 24, .inl (upd (h.1 4) i x))) = WG V (wI h 4 i x) o := wgc (by decide) rfl (fun j hj => el_rowI _ hj)
theorem uf4 {f : Nat → Int32} : va_up (WG V h o) 4 (.inl (V.2.1 1, 24, .inl f)) = WG V (rowI h 4 f) o := wgc (by decide) rfl (fun j hj => el_rowI _ hj)
theorem g5 : WG V h o 5 = .inl (V.2.1 1, 606, .inl (h.1 5)) := wc_at (by decide) rfl
theorem u5 {i : Nat} {x : Int32} : va_up (WG V h o) 5 (.inl (V.2.1 1, 606, .inl (upd (h.1 5) i x))) = WG V (wI h 5 i x) o := wgc (by decide) rfl (fun j hj => el_rowI _ hj)
theorem uf5 {f : Nat → Int32} : va_up (WG V h o) 5 (.inl (V.2.1 1, 606, .inl f)) = WG V (rowI h 5 f) o := wgc (by decide) rfl (fun j hj => el_rowI _ hj)
theorem g6 : WG V h o 6 = .inr (3, [.int (h.1 6 0), rf V 7, rf V 8]) := wc_at (by decide) rfl
theorem u6_0 {x : Int32} : va_up (WG V h o) 6 (.inr (3, ([.int (h.1 6 0), rf V 7, rf V 8] : List Value).set 0 (.int x))) = WG V (wI h 6 0 x) o := wgc (by decide) rfl (fun j hj => el_rowI _ hj)
theorem g7 : WG V h o 7 = .inl (V.2.1 1, 6, .inl (h.1 7)) := wc_at (by decide) rfl
theorem u7 {i : Nat} {x : Int32} : va_up (WG V h o) 7 (.inl (V.2.1 1, 6, .inl (upd (h.1 7) i x))) = WG V (wI h 7 i x) o := wgc (by decide) rfl (fun j hj => el_rowI _ hj)
theorem uf7 {f : Nat → Int32} : va_up (WG V h o) 7 (.inl (V.2.1 1, 6, .inl f)) = WG V (rowI h 7 f) o := wgc (by decide) rfl (fun j hj => el_rowI _ hj)
theorem g8 : WG V h o 8 = .inl (V.2.1 3, 6, .inl (h.1 8)) := wc_at (by decide) rfl
theorem u8 {i : Nat} {x : Int32} : va_up (WG V h o) 8 (.inl (V.2.1 3, 6, .inl (upd (h.1 8) i x))) = WG V (wI h 8 i x) o := wgc (by decide) rfl (fun j hj => el_rowI _ hj)
theorem uf8 {f : Nat → Int32} : va_up (WG V h o) 8 (.inl (V.2.1 3, 6, .inl f)) = WG V (rowI h 8 f) o := wgc (by decide) rfl (fun j hj => el_rowI _ hj)
theorem g9 : WG V h o 9 = .inr (6, [.int (h.1 9 0), rf V 10, .int (h.1 9 2)]) := wc_at (by decide) rfl
theorem u9_0 {x : Int32} : va_up (WG V h o) 9 (.inr (6, ([.int (h.1 9 0), rf V 10, .int (h.1 9 2)] : List Value).set 0 (.int x))) = WG V (wI h 9 0 x) o := wgc (by decide) rfl (fun j hj => el_rowI _ hj)
theorem u9_2 {x : Int32} : va_up (WG V h o) 9 (.inr (6, ([.int (h.1 9 0), rf V 10, .int (h.1 9 2)] : List Value).set 2 (.int x))) = WG V (wI h 9 2 x) o := wgc (by decide) rfl (fun j hj => el_rowI _ hj)
theorem g10 : WG V h o 10 = .inl (V.2.1 1, 15, .inl (h.1 10)) := wc_at (by decide) rfl
theorem u10 {i : Nat} {x : Int32} : va_up (WG V h o) 10 (.inl (V.2.1 1, 15, .inl (upd (h.1 10) i x))) = WG V (wI h 10 i x) o := wgc (by decide) rfl (fun j hj => el_rowI _ hj)
theorem uf10 {f : Nat → Int32} : va_up (WG V h o) 10 (.inl (V.2.1 1, 15, .inl f)) = WG V (rowI h 10 f) o := wgc (by decide) rfl (fun j hj => el_rowI _ hj)
theorem g11 : WG V h o 11 = .inr (6, [.int (h.1 11 0), rf V 12, .int (h.1 11 2)]) := wc_at (by decide) rfl
theorem u11_0 {x : Int32} : va_up (WG V h o) 11 (.inr (6, ([.int (h.1 11 0), rf V 12, .int (h.1 11 2)] : List Value).set 0 (.int x))) = WG V (wI h 11 0 x) o := wgc (by decide) rfl (fun j hj => el_rowI _ hj)
theorem u11_2 {x : Int32} : va_up (WG V h o) 11 (.inr (6, ([.int (h.1 11 0), rf V 12, .int (h.1 11 2)] : List Value).set 2 (.int x))) = WG V (wI h 11 2 x) o := wgc (by decide) rfl (fun j hj => el_rowI _ hj)
theorem g12 : WG V h o 12 = .inl (V.2.1 1, 30, .inl (h.1 12)) := wc_at (by decide) rfl
theorem u12 {i : Nat} {x : Int32} : va_up (WG V h o) 12 (.inl (V.2.1 1, 30, .inl (upd (h.1 12) i x))) = WG V (wI h 12 i x) o := wgc (by decide) rfl (fun j hj => el_rowI _ hj)
theorem uf12 {f : Nat → Int32} : va_up (WG V h o) 12 (.inl (V.2.1 1, 30, .inl f)) = WG V (rowI h 12 f) o := wgc (by decide) rfl (fun j hj => el_rowI _ hj)
theorem g13 : WG V h o 13 = .inr (6, [.int (h.1 13 0), rf V 14, .int (h.1 13 2)]) := wc_at (by decide) rfl
theorem u13_0 {x : Int32} : va_up (WG V h o) 13 (.inr (6, ([.int (h.1 13 0), rf V 14, .int (h.1 13 2)] : List Value).set 0 (.int x))) = WG V (wI h 13 0 x) o := wgc (by decide) rfl (fun j hj => el_rowI _ hj)
theorem u13_2 {x : Int32} : va_up (WG V h o) 13 (.inr (6, ([.int (h.1 13 0), rf V 14, .int (h.1 13 2)] : List Value).set 2 (.int x))) = WG V (wI h 13 2 x) o := wgc (by decide) rfl (fun j hj => el_rowI _ hj)
theorem g14 : WG V h o 14 = .inl (V.2.1 1, 24, .inl (h.1 14)) := wc_at (by decide) rfl
theorem u14 {i : Nat} {x : Int32} : va_up (WG V h o) 14 (.inl (V.2.1 1, 24, .inl (upd (h.1 14) i x))) = WG V (wI h 14 i x) o := wgc (by decide) rfl (fun j hj => el_rowI _ hj)
theorem uf14 {f : Nat → Int32} : va_up (WG V h o) 14 (.inl (V.2.1 1, 24, .inl f)) = WG V (rowI h 14 f) o := wgc (by decide) rfl (fun j hj => el_rowI _ hj)
theorem g15 : WG V h o 15 = .inl (V.2.1 1, 6, .inl (h.1 15)) := wc_at (by decide) rfl
theorem u15 {i : Nat} {x : Int32} : va_up (WG V h o) 15 (.inl (V.2.1 1, 6, .inl (upd (h.1 15) i x))) = WG V (wI h 15 i x) o := wgc (by decide) rfl (fun j hj => el_rowI _ hj)
theorem uf15 {f : Nat → Int32} : va_up (WG V h o) 15 (.inl (V.2.1 1, 6, .inl f)) = WG V (rowI h 15 f) o := wgc (by decide) rfl (fun j hj => el_rowI _ hj)
theorem g16 : WG V h o 16 = .inr (7, [.int (h.1 16 0), rf V 17, rf V 18, rf V 19, rf V 20, rf V 21, rf V 24, rf V 26, rf V 28, rf V 30, rq V (h.2.2 16 10)]) := wc_at (by decide) rfl
theorem u16_0 {x : Int32} : va_up (WG V h o) 16 (.inr (7, ([.int (h.1 16 0), rf V 17, rf V 18, rf V 19, rf V 20, rf V 21, rf V 24, rf V 26, rf V 28, rf V 30, rq V (h.2.2 16 10)] : List Value).set 0 (.int x))) = WG V (wI h 16 0 x) o := wgc (by decide) rfl (fun j hj => el_rowI _ hj)
theorem u16_10 {x : Option Nat} : va_up (WG V h o) 16 (.inr (7, ([.int (h.1 16 0), rf V 17, rf V 18, rf V 19, rf V 20, rf V 21, rf V 24, rf V 26, rf V 28, rf V 30, rq V (h.2.2 16 10)] : List Value).set 10 (rq V x))) = WG V (wR h 16 10 x) o := wgc (by decide) rfl (fun j hj => el_wR _ hj)
theorem g17 : WG V h o 17 = .inl (V.2.1 1, 6, .inl (h.1 17)) := wc_at (by decide) rfl
theorem u17 {i : Nat} {x : Int32} : va_up (WG V h o) 17 (.inl (V.2.1 1, 6, .inl (upd (h.1 17) i x))) = WG V (wI h 17 i x) o := wgc (by decide) rfl (fun j hj => el_rowI _ hj)
theorem uf17 {f : Nat → Int32} : va_up (WG V h o) 17 (.inl (V.2.1 1, 6, .inl f)) = WG V (rowI h 17 f) o := wgc (by decide) rfl (fun j hj => el_rowI _ hj)
theorem g18 : WG V h o 18 = .inl (V.2.1 1, 6, .inl (h.1 18)) := wc_at (by decide) rfl
theorem u18 {i : Nat} {x : Int32} : va_up (WG V h o) 18 (.inl (V.2.1 1, 6, .inl (upd (h.1 18) i x))) = WG V (wI h 18 i x) o := wgc (by decide) rfl (fun j hj => el_rowI _ hj)
theorem uf18 {f : Nat → Int32} : va_up (WG V h o) 18 (.inl (V.2.1 1, 6, .inl f)) = WG V (rowI h 18 f) o := wgc (by decide) rfl (fun j hj => el_rowI _ hj)
theorem g19 : WG V h o 19 = .inl (V.2.1 1, 24, .inl (h.1 19)) := wc_at (by decide) rfl
theorem u19 {i : Nat} {x : Int32} : va_up (WG V h o) 19 (.inl (V.2.1 1, 24, .inl (upd (h.1 19) i x))) = WG V (wI h 19 i x) o := wgc (by decide) rfl (fun j hj => el_rowI _ hj)
theorem uf19 {f : Nat → Int32} : va_up (WG V h o) 19 (.inl (V.2.1 1, 24, .inl f)) = WG V (rowI h 19 f) o := wgc (by decide) rfl (fun j hj => el_rowI _ hj)
theorem g20 : WG V h o 20 = .inl (V.2.1 1, 606, .inl (h.1 20)) := wc_at (by decide) rfl
theorem u20 {i : Nat} {x : Int32} : va_up (WG V h o) 20 (.inl (V.2.1 1, 606, .inl (upd (h.1 20) i x))) = WG V (wI h 20 i x) o := wgc (by decide) rfl (fun j hj => el_rowI _ hj)
theorem uf20 {f : Nat → Int32} : va_up (WG V h o) 20 (.inl (V.2.1 1, 606, .inl f)) = WG V (rowI h 20 f) o := wgc (by decide) rfl (fun j hj => el_rowI _ hj)
theorem g21 : WG V h o 21 = .inr (3, [.int (h.1 21 0), rf V 22, rf V 23]) := wc_at (by decide) rfl
theorem u21_0 {x : Int32} : va_up (WG V h o) 21 (.inr (3, ([.int (h.1 21 0), rf V 22, rf V 23] : List Value).set 0 (.int x))) = WG V (wI h 21 0 x) o := wgc (by decide) rfl (fun j hj => el_rowI _ hj)
theorem g22 : WG V h o 22 = .inl (V.2.1 1, 6, .inl (h.1 22)) := wc_at (by decide) rfl
theorem u22 {i : Nat} {x : Int32} : va_up (WG V h o) 22 (.inl (V.2.1 1, 6, .inl (upd (h.1 22) i x))) = WG V (wI h 22 i x) o := wgc (by decide) rfl (fun j hj => el_rowI _ hj)
theorem uf22 {f : Nat → Int32} : va_up (WG V h o) 22 (.inl (V.2.1 1, 6, .inl f)) = WG V (rowI h 22 f) o := wgc (by decide) rfl (fun j hj => el_rowI _ hj)
theorem g23 : WG V h o 23 = .inl (V.2.1 3, 6, .inl (h.1 23)) := wc_at (by decide) rfl
theorem u23 {i : Nat} {x : Int32} : va_up (WG V h o) 23 (.inl (V.2.1 3, 6, .inl (upd (h.1 23) i x))) = WG V (wI h 23 i x) o := wgc (by decide) rfl (fun j hj => el_rowI _ hj)
theorem uf23 {f : Nat → Int32} : va_up (WG V h o) 23 (.inl (V.2.1 3, 6, .inl f)) = WG V (rowI h 23 f) o := wgc (by decide) rfl (fun j hj => el_rowI _ hj)
theorem g24 : WG V h o 24 = .inr (6, [.int (h.1 24 0), rf V 25, .int (h.1 24 2)]) := wc_at (by decide) rfl
theorem u24_0 {x : Int32} : va_up (WG V h o) 24 (.inr (6, ([.int (h.1 24 0), rf V 25, .int (h.1 24 2)] : List Value).set 0 (.int x))) = WG V (wI h 24 0 x) o := wgc (by decide) rfl (fun j hj => el_rowI _ hj)
theorem u24_2 {x : Int32} : va_up (WG V h o) 24 (.inr (6, ([.int (h.1 24 0), rf V 25, .int (h.1 24 2)] : List Value).set 2 (.int x))) = WG V (wI h 24 2 x) o := wgc (by decide) rfl (fun j hj => el_rowI _ hj)
theorem g25 : WG V h o 25 = .inl (V.2.1 1, 15, .inl (h.1 25)) := wc_at (by decide) rfl
theorem u25 {i : Nat} {x : Int32} : va_up (WG V h o) 25 (.inl (V.2.1 1, 15, .inl (upd (h.1 25) i x))) = WG V (wI h 25 i x) o := wgc (by decide) rfl (fun j hj => el_rowI _ hj)
theorem uf25 {f : Nat → Int32} : va_up (WG V h o) 25 (.inl (V.2.1 1, 15, .inl f)) = WG V (rowI h 25 f) o := wgc (by decide) rfl (fun j hj => el_rowI _ hj)
theorem g26 : WG V h o 26 = .inr (6, [.int (h.1 26 0), rf V 27, .int (h.1 26 2)]) := wc_at (by decide) rfl
theorem u26_0 {x : Int32} : va_up (WG V h o) 26 (.inr (6, ([.int (h.1 26 0), rf V 27, .int (h.1 26 2)] : List Value).set 0 (.int x))) = WG V (wI h 26 0 x) o := wgc (by decide) rfl (fun j hj => el_rowI _ hj)
theorem u26_2 {x : Int32} : va_up (WG V h o) 26 (.inr (6, ([.int (h.1 26 0), rf V 27, .int (h.1 26 2)] : List Value).set 2 (.int x))) = WG V (wI h 26 2 x) o := wgc (by decide) rfl (fun j hj => el_rowI _ hj)
theorem g27 : WG V h o 27 = .inl (V.2.1 1, 30, .inl (h.1 27)) := wc_at (by decide) rfl
theorem u27 {i : Nat} {x : Int32} : va_up (WG V h o) 27 (.inl (V.2.1 1, 30, .inl (upd (h.1 27) i x))) = WG V (wI h 27 i x) o := wgc (by decide) rfl (fun j hj => el_rowI _ hj)
theorem uf27 {f : Nat → Int32} : va_up (WG V h o) 27 (.inl (V.2.1 1, 30, .inl f)) = WG V (rowI h 27 f) o := wgc (by decide) rfl (fun j hj => el_rowI _ hj)
theorem g28 : WG V h o 28 = .inr (6, [.int (h.1 28 0), rf V 29, .int (h.1 28 2)]) := wc_at (by decide) rfl
theorem u28_0 {x : Int32} : va_up (WG V h o) 28 (.inr (6, ([.int (h.1 28 0), rf V 29, .int (h.1 28 2)] : List Value).set 0 (.int x))) = WG V (wI h 28 0 x) o := wgc (by decide) rfl (fun j hj => el_rowI _ hj)
theorem u28_2 {x : Int32} : va_up (WG V h o) 28 (.inr (6, ([.int (h.1 28 0), rf V 29, .int (h.1 28 2)] : List Value).set 2 (.int x))) = WG V (wI h 28 2 x) o := wgc (by decide) rfl (fun j hj => el_rowI _ hj)
theorem g29 : WG V h o 29 = .inl (V.2.1 1, 24, .inl (h.1 29)) := wc_at (by decide) rfl
theorem u29 {i : Nat} {x : Int32} : va_up (WG V h o) 29 (.inl (V.2.1 1, 24, .inl (upd (h.1 29) i x))) = WG V (wI h 29 i x) o := wgc (by decide) rfl (fun j hj => el_rowI _ hj)
theorem uf29 {f : Nat → Int32} : va_up (WG V h o) 29 (.inl (V.2.1 1, 24, .inl f)) = WG V (rowI h 29 f) o := wgc (by decide) rfl (fun j hj => el_rowI _ hj)
theorem g30 : WG V h o 30 = .inl (V.2.1 1, 6, .inl (h.1 30)) := wc_at (by decide) rfl
theorem u30 {i : Nat} {x : Int32} : va_up (WG V h o) 30 (.inl (V.2.1 1, 6, .inl (upd (h.1 30) i x))) = WG V (wI h 30 i x) o := wgc (by decide) rfl (fun j hj => el_rowI _ hj)
theorem uf30 {f : Nat → Int32} : va_up (WG V h o) 30 (.inl (V.2.1 1, 6, .inl f)) = WG V (rowI h 30 f) o := wgc (by decide) rfl (fun j hj => el_rowI _ hj)
theorem g31 : WG V h o 31 = .inr (5, [rf V 32, .int (h.1 31 1), .int (h.1 31 2), .int (h.1 31 3), .int (h.1 31 4), rq V (h.2.2 31 5)]) := wc_at (by decide) rfl
theorem u31_1 {x : Int32} : va_up (WG V h o) 31 (.inr (5, ([rf V 32, .int (h.1 31 1), .int (h.1 31 2), .int (h.1 31 3), .int (h.1 31 4), rq V (h.2.2 31 5)] : List Value).set 1 (.int x))) = WG V (wI h 31 1 x) o := wgc (by decide) rfl (fun j hj => el_rowI _ hj)
theorem u31_2 {x : Int32} : va_up (WG V h o) 31 (.inr (5, ([rf V 32, .int (h.1 31 1), .int (h.1 31 2), .int (h.1 31 3), .int (h.1 31 4), rq V (h.2.2 31 5)] : List Value).set 2 (.int x))) = WG V (wI h 31 2 x) o := wgc (by decide) rfl (fun j hj => el_rowI _ hj)
theorem u31_3 {x : Int32} : va_up (WG V h o) 31 (.inr (5, ([rf V 32, .int (h.1 31 1), .int (h.1 31 2), .int (h.1 31 3), .int (h.1 31 4), rq V (h.2.2 31 5)] : List Value).set 3 (.int x))) = WG V (wI h 31 3 x) o := wgc (by decide) rfl (fun j hj => el_rowI _ hj)
theorem u31_4 {x : Int32} : va_up (WG V h o) 31 (.inr (5, ([rf V 32, .int (h.1 31 1), .int (h.1 31 2), .int (h.1 31 3), .int (h.1 31 4), rq V (h.2.2 31 5)] : List Value).set 4 (.int x))) = WG V (wI h 31 4 x) o := wgc (by decide) rfl (fun j hj => el_rowI _ hj)
theorem u31_5 {x : Option Nat} : va_up (WG V h o) 31 (.inr (5, ([rf V 32, .int (h.1 31 1), .int (h.1 31 2), .int (h.1 31 3), .int (h.1 31 4), rq V (h.2.2 31 5)] : List Value).set 5 (rq V x))) = WG V (wR h 31 5 x) o := wgc (by decide) rfl (fun j hj => el_wR _ hj)
theorem g32 : WG V h o 32 = .inl (V.2.1 0, 100, .inl (h.1 32)) := wc_at (by decide) rfl
theorem u32 {i : Nat} {x : Int32} : va_up (WG V h o) 32 (.inl (V.2.1 0, 100, .inl (upd (h.1 32) i x))) = WG V (wI h 32 i x) o := wgc (by decide) rfl (fun j hj => el_rowI _ hj)
theorem uf32 {f : Nat → Int32} : va_up (WG V h o) 32 (.inl (V.2.1 0, 100, .inl f)) = WG V (rowI h 32 f) o := wgc (by decide) rfl (fun j hj => el_rowI _ hj)
theorem g33 : WG V h o 33 = .inl (V.2.1 4, 6, .inr (.inr (.inr (.inr (fun i => some (V.2.2.1 + (66 + 4 * i))))))) := wc_at (by decide) rfl
theorem g34 : WG V h o 34 = .inr (1, [rf V 1, rf V 35, .int (h.1 34 2), .int (h.1 34 3)]) := wc_at (by decide) rfl
theorem u34_2 {x : Int32} : va_up (WG V h o) 34 (.inr (1, ([rf V 1, rf V 35, .int (h.1 34 2), .int (h.1 34 3)] : List Value).set 2 (.int x))) = WG V (wI h 34 2 x) o := wgc (by decide) rfl (fun j hj => el_rowI _ hj)
theorem u34_3 {x : Int32} : va_up (WG V h o) 34 (.inr (1, ([rf V 1, rf V 35, .int (h.1 34 2), .int (h.1 34 3)] : List Value).set 3 (.int x))) = WG V (wI h 34 3 x) o := wgc (by decide) rfl (fun j hj => el_rowI _ hj)
theorem g35 : WG V h o 35 = .inr (3, [.int (h.1 35 0), rf V 36, rf V 37]) := wc_at (by decide) rfl
theorem u35_0 {x : Int32} : va_up (WG V h o) 35 (.inr (3, ([.int (h.1 35 0), rf V 36, rf V 37] : List Value).set 0 (.int x))) = WG V (wI h 35 0 x) o := wgc (by decide) rfl (fun j hj => el_rowI _ hj)
theorem g36 : WG V h o 36 = .inl (V.2.1 1, 6, .inl (h.1 36)) := wc_at (by decide) rfl
theorem u36 {i : Nat} {x : Int32} : va_up (WG V h o) 36 (.inl (V.2.1 1, 6, .inl (upd (h.1 36) i x))) = WG V (wI h 36 i x) o := wgc (by decide) rfl (fun j hj => el_rowI _ hj)
theorem uf36 {f : Nat → Int32} : va_up (WG V h o) 36 (.inl (V.2.1 1, 6, .inl f)) = WG V (rowI h 36 f) o := wgc (by decide) rfl (fun j hj => el_rowI _ hj)
theorem g37 : WG V h o 37 = .inl (V.2.1 3, 6, .inl (h.1 37)) := wc_at (by decide) rfl
theorem u37 {i : Nat} {x : Int32} : va_up (WG V h o) 37 (.inl (V.2.1 3, 6, .inl (upd (h.1 37) i x))) = WG V (wI h 37 i x) o := wgc (by decide) rfl (fun j hj => el_rowI _ hj)
theorem uf37 {f : Nat → Int32} : va_up (WG V h o) 37 (.inl (V.2.1 3, 6, .inl f)) = WG V (rowI h 37 f) o := wgc (by decide) rfl (fun j hj => el_rowI _ hj)
theorem g38 : WG V h o 38 = .inr (4, [rf V 1, rf V 39, rf V 40, rf V 41, .int (h.1 38 4)]) := wc_at (by decide) rfl
theorem u38_4 {x : Int32} : va_up (WG V h o) 38 (.inr (4, ([rf V 1, rf V 39, rf V 40, rf V 41, .int (h.1 38 4)] : List Value).set 4 (.int x))) = WG V (wI h 38 4 x) o := wgc (by decide) rfl (fun j hj => el_rowI _ hj)
theorem g39 : WG V h o 39 = .inl (V.2.1 5, 7, .inr (.inr (.inr (.inr (fun i => some (V.2.2.1 + (42 + 3 * i))))))) := wc_at (by decide) rfl
theorem g40 : WG V h o 40 = .inl (V.2.1 1, 6, .inl (h.1 40)) := wc_at (by decide) rfl
theorem u40 {i : Nat} {x : Int32} : va_up (WG V h o) 40 (.inl (V.2.1 1, 6, .inl (upd (h.1 40) i x))) = WG V (wI h 40 i x) o := wgc (by decide) rfl (fun j hj => el_rowI _ hj)
theorem uf40 {f : Nat → Int32} : va_up (WG V h o) 40 (.inl (V.2.1 1, 6, .inl f)) = WG V (rowI h 40 f) o := wgc (by decide) rfl (fun j hj => el_rowI _ hj)
theorem g41 : WG V h o 41 = .inl (V.2.1 1, 6, .inl (h.1 41)) := wc_at (by decide) rfl
theorem u41 {i : Nat} {x : Int32} : va_up (WG V h o) 41 (.inl (V.2.1 1, 6, .inl (upd (h.1 41) i x))) = WG V (wI h 41 i x) o := wgc (by decide) rfl (fun j hj => el_rowI _ hj)
theorem uf41 {f : Nat → Int32} : va_up (WG V h o) 41 (.inl (V.2.1 1, 6, .inl f)) = WG V (rowI h 41 f) o := wgc (by decide) rfl (fun j hj => el_rowI _ hj)
theorem g42 : WG V h o 42 = .inr (3, [.int (h.1 42 0), rf V 43, rf V 44]) := wc_at (by decide) rfl
theorem u42_0 {x : Int32} : va_up (WG V h o) 42 (.inr (3, ([.int (h.1 42 0), rf V 43, rf V 44] : List Value).set 0 (.int x))) = WG V (wI h 42 0 x) o := wgc (by decide) rfl (fun j hj => el_rowI _ hj)
theorem g43 : WG V h o 43 = .inl (V.2.1 1, 6, .inl (h.1 43)) := wc_at (by decide) rfl
theorem u43 {i : Nat} {x : Int32} : va_up (WG V h o) 43 (.inl (V.2.1 1, 6, .inl (upd (h.1 43) i x))) = WG V (wI h 43 i x) o := wgc (by decide) rfl (fun j hj => el_rowI _ hj)
theorem uf43 {f : Nat → Int32} : va_up (WG V h o) 43 (.inl (V.2.1 1, 6, .inl f)) = WG V (rowI h 43 f) o := wgc (by decide) rfl (fun j hj => el_rowI _ hj)
theorem g44 : WG V h o 44 = .inl (V.2.1 3, 6, .inl (h.1 44)) := wc_at (by decide) rfl
theorem u44 {i : Nat} {x : Int32} : va_up (WG V h o) 44 (.inl (V.2.1 3, 6, .inl (upd (h.1 44) i x))) = WG V (wI h 44 i x) o := wgc (by decide) rfl (fun j hj => el_rowI _ hj)
theorem uf44 {f : Nat → Int32} : va_up (WG V h o) 44 (.inl (V.2.1 3, 6, .inl f)) = WG V (rowI h 44 f) o := wgc (by decide) rfl (fun j hj => el_rowI _ hj)
theorem g45 : WG V h o 45 = .inr (3, [.int (h.1 45 0), rf V 46, rf V 47]) := wc_at (by decide) rfl
theorem u45_0 {x : Int32} : va_up (WG V h o) 45 (.inr (3, ([.int (h.1 45 0), rf V 46, rf V 47] : List Value).set 0 (.int x))) = WG V (wI h 45 0 x) o := wgc (by decide) rfl (fun j hj => el_rowI _ hj)
theorem g46 : WG V h o 46 = .inl (V.2.1 1, 6, .inl (h.1 46)) := wc_at (by decide) rfl
theorem u46 {i : Nat} {x : Int32} : va_up (WG V h o) 46 (.inl (V.2.1 1, 6, .inl (upd (h.1 46) i x))) = WG V (wI h 46 i x) o := wgc (by decide) rfl (fun j hj => el_rowI _ hj)
theorem uf46 {f : Nat → Int32} : va_up (WG V h o) 46 (.inl (V.2.1 1, 6, .inl f)) = WG V (rowI h 46 f) o := wgc (by decide) rfl (fun j hj => el_rowI _ hj)
theorem g47 : WG V h o 47 = .inl (V.2.1 3, 6, .inl (h.1 47)) := wc_at (by decide) rfl
theorem u47 {i : Nat} {x : Int32} : va_up (WG V h o) 47 (.inl (V.2.1 3, 6, .inl (upd (h.1 47) i x))) = WG V (wI h 47 i x) o := wgc (by decide) rfl (fun j hj => el_rowI _ hj)
theorem uf47 {f : Nat → Int32} : va_up (WG V h o) 47 (.inl (V.2.1 3, 6, .inl f)) = WG V (rowI h 47 f) o := wgc (by decide) rfl (fun j hj => el_rowI _ hj)
theorem g48 : WG V h o 48 = .inr (3, [.int (h.1 48 0), rf V 49, rf V 50]) := wc_at (by decide) rfl
theorem u48_0 {x : Int32} : va_up (WG V h o) 48 (.inr (3, ([.int (h.1 48 0), rf V 49, rf V 50] : List Value).set 0 (.int x))) = WG V (wI h 48 0 x) o := wgc (by decide) rfl (fun j hj => el_rowI _ hj)
theorem g49 : WG V h o 49 = .inl (V.2.1 1, 6, .inl (h.1 49)) := wc_at (by decide) rfl
theorem u49 {i : Nat} {x : Int32} : va_up (WG V h o) 49 (.inl (V.2.1 1, 6, .inl (upd (h.1 49) i x))) = WG V (wI h 49 i x) o := wgc (by decide) rfl (fun j hj => el_rowI _ hj)
theorem uf49 {f : Nat → Int32} : va_up (WG V h o) 49 (.inl (V.2.1 1, 6, .inl f)) = WG V (rowI h 49 f) o := wgc (by decide) rfl (fun j hj => el_rowI _ hj)
theorem g50 : WG V h o 50 = .inl (V.2.1 3, 6, .inl (h.1 50)) := wc_at (by decide) rfl
theorem u50 {i : Nat} {x : Int32} : va_up (WG V h o) 50 (.inl (V.2.1 3, 6, .inl (upd (h.1 50) i x))) = WG V (wI h 50 i x) o := wgc (by decide) rfl (fun j hj => el_rowI _ hj)
theorem uf50 {f : Nat → Int32} : va_up (WG V h o) 50 (.inl (V.2.1 3, 6, .inl f)) = WG V (rowI h 50 f) o := wgc (by decide) rfl (fun j hj => el_rowI _ hj)
theorem g51 : WG V h o 51 = .inr (3, [.int (h.1 51 0), rf V 52, rf V 53]) := wc_at (by decide) rfl
theorem u51_0 {x : Int32} : va_up (WG V h o) 51 (.inr (3, ([.int (h.1 51 0), rf V 52, rf V 53] : List Value).set 0 (.int x))) = WG V (wI h 51 0 x) o := wgc (by decide) rfl (fun j hj => el_rowI _ hj)
theorem g52 : WG V h o 52 = .inl (V.2.1 1, 6, .inl (h.1 52)) := wc_at (by decide) rfl
theorem u52 {i : Nat} {x : Int32} : va_up (WG V h o) 52 (.inl (V.2.1 1, 6, .inl (upd (h.1 52) i x))) = WG V (wI h 52 i x) o := wgc (by decide) rfl (fun j hj => el_rowI _ hj)
theorem uf52 {f : Nat → Int32} : va_up (WG V h o) 52 (.inl (V.2.1 1, 6, .inl f)) = WG V (rowI h 52 f) o := wgc (by decide) rfl (fun j hj => el_rowI _ hj)
theorem g53 : WG V h o 53 = .inl (V.2.1 3, 6, .inl (h.1 53)) := wc_at (by decide) rfl
theorem u53 {i : Nat} {x : Int32} : va_up (WG V h o) 53 (.inl (V.2.1 3, 6, .inl (upd (h.1 53) i x))) = WG V (wI h 53 i x) o := wgc (by decide) rfl (fun j hj => el_rowI _ hj)
theorem uf53 {f : Nat → Int32} : va_up (WG V h o) 53 (.inl (V.2.1 3, 6, .inl f)) = WG V (rowI h 53 f) o := wgc (by decide) rfl (fun j hj => el_rowI _ hj)
theorem g54 : WG V h o 54 = .inr (3, [.int (h.1 54 0), rf V 55, rf V 56]) := wc_at (by decide) rfl
theorem u54_0 {x : Int32} : va_up (WG V h o) 54 (.inr (3, ([.int (h.1 54 0), rf V 55, rf V 56] : List Value).set 0 (.int x))) = WG V (wI h 54 0 x) o := wgc (by decide) rfl (fun j hj => el_rowI _ hj)
theorem g55 : WG V h o 55 = .inl (V.2.1 1, 6, .inl (h.1 55)) := wc_at (by decide) rfl
theorem u55 {i : Nat} {x : Int32} : va_up (WG V h o) 55 (.inl (V.2.1 1, 6, .inl (upd (h.1 55) i x))) = WG V (wI h 55 i x) o := wgc (by decide) rfl (fun j hj => el_rowI _ hj)
theorem uf55 {f : Nat → Int32} : va_up (WG V h o) 55 (.inl (V.2.1 1, 6, .inl f)) = WG V (rowI h 55 f) o := wgc (by decide) rfl (fun j hj => el_rowI _ hj)
theorem g56 : WG V h o 56 = .inl (V.2.1 3, 6, .inl (h.1 56)) := wc_at (by decide) rfl
theorem u56 {i : Nat} {x : Int32} : va_up (WG V h o) 56 (.inl (V.2.1 3, 6, .inl (upd (h.1 56) i x))) = WG V (wI h 56 i x) o := wgc (by decide) rfl (fun j hj => el_rowI _ hj)
theorem uf56 {f : Nat → Int32} : va_up (WG V h o) 56 (.inl (V.2.1 3, 6, .inl f)) = WG V (rowI h 56 f) o := wgc (by decide) rfl (fun j hj => el_rowI _ hj)
theorem g57 : WG V h o 57 = .inr (3, [.int (h.1 57 0), rf V 58, rf V 59]) := wc_at (by decide) rfl
theorem u57_0 {x : Int32} : va_up (WG V h o) 57 (.inr (3, ([.int (h.1 57 0), rf V 58, rf V 59] : List Value).set 0 (.int x))) = WG V (wI h 57 0 x) o := wgc (by decide) rfl (fun j hj => el_rowI _ hj)
theorem g58 : WG V h o 58 = .inl (V.2.1 1, 6, .inl (h.1 58)) := wc_at (by decide) rfl
theorem u58 {i : Nat} {x : Int32} : va_up (WG V h o) 58 (.inl (V.2.1 1, 6, .inl (upd (h.1 58) i x))) = WG V (wI h 58 i x) o := wgc (by decide) rfl (fun j hj => el_rowI _ hj)
theorem uf58 {f : Nat → Int32} : va_up (WG V h o) 58 (.inl (V.2.1 1, 6, .inl f)) = WG V (rowI h 58 f) o := wgc (by decide) rfl (fun j hj => el_rowI _ hj)
theorem g59 : WG V h o 59 = .inl (V.2.1 3, 6, .inl (h.1 59)) := wc_at (by decide) rfl
theorem u59 {i : Nat} {x : Int32} : va_up (WG V h o) 59 (.inl (V.2.1 3, 6, .inl (upd (h.1 59) i x))) = WG V (wI h 59 i x) o := wgc (by decide) rfl (fun j hj => el_rowI _ hj)
theorem uf59 {f : Nat → Int32} : va_up (WG V h o) 59 (.inl (V.2.1 3, 6, .inl f)) = WG V (rowI h 59 f) o := wgc (by decide) rfl (fun j hj => el_rowI _ hj)
theorem g60 : WG V h o 60 = .inr (3, [.int (h.1 60 0), rf V 61, rf V 62]) := wc_at (by decide) rfl
theorem u60_0 {x : Int32} : va_up (WG V h o) 60 (.inr (3, ([.int (h.1 60 0), rf V 61, rf V 62] : List Value).set 0 (.int x))) = WG V (wI h 60 0 x) o := wgc (by decide) rfl (fun j hj => el_rowI _ hj)
theorem g61 : WG V h o 61 = .inl (V.2.1 1, 6, .inl (h.1 61)) := wc_at (by decide) rfl
theorem u61 {i : Nat} {x : Int32} : va_up (WG V h o) 61 (.inl (V.2.1 1, 6, .inl (upd (h.1 61) i x))) = WG V (wI h 61 i x) o := wgc (by decide) rfl (fun j hj => el_rowI _ hj)
theorem uf61 {f : Nat → Int32} : va_up (WG V h o) 61 (.inl (V.2.1 1, 6, .inl f)) = WG V (rowI h 61 f) o := wgc (by decide) rfl (fun j hj => el_rowI _ hj)
theorem g62 : WG V h o 62 = .inl (V.2.1 3, 6, .inl (h.1 62)) := wc_at (by decide) rfl
theorem u62 {i : Nat} {x : Int32} : va_up (WG V h o) 62 (.inl (V.2.1 3, 6, .inl (upd (h.1 62) i x))) = WG V (wI h 62 i x) o := wgc (by decide) rfl (fun j hj => el_rowI _ hj)
theorem uf62 {f : Nat → Int32} : va_up (WG V h o) 62 (.inl (V.2.1 3, 6, .inl f)) = WG V (rowI h 62 f) o := wgc (by decide) rfl (fun j hj => el_rowI _ hj)
theorem g63 : WG V h o 63 = .inr (0, [rf V 64, .int (h.1 63 1), .int (h.1 63 2), .int (h.1 63 3), .int (h.1 63 4)]) := wc_at (by decide) rfl
theorem u63_1 {x : Int32} : va_up (WG V h o) 63 (.inr (0, ([rf V 64, .int (h.1 63 1), .int (h.1 63 2), .int (h.1 63 3), .int (h.1 63 4)] : List Value).set 1 (.int x))) = WG V (wI h 63 1 x) o := wgc (by decide) rfl (fun j hj => el_rowI _ hj)
theorem u63_2 {x : Int32} : va_up (WG V h o) 63 (.inr (0, ([rf V 64, .int (h.1 63 1), .int (h.1 63 2), .int (h.1 63 3), .int (h.1 63 4)] : List Value).set 2 (.int x))) = WG V (wI h 63 2 x) o := wgc (by decide) rfl (fun j hj => el_rowI _ hj)
theorem u63_3 {x : Int32} : va_up (WG V h o) 63 (.inr (0, ([rf V 64, .int (h.1 63 1), .int (h.1 63 2), .int (h.1 63 3), .int (h.1 63 4)] : List Value).set 3 (.int x))) = WG V (wI h 63 3 x) o := wgc (by decide) rfl (fun j hj => el_rowI _ hj)
theorem u63_4 {x : Int32} : va_up (WG V h o) 63 (.inr (0, ([rf V 64, .int (h.1 63 1), .int (h.1 63 2), .int (h.1 63 3), .int (h.1 63 4)] : List Value).set 4 (.int x))) = WG V (wI h 63 4 x) o := wgc (by decide) rfl (fun j hj => el_rowI _ hj)
theorem g64 : WG V h o 64 = .inl (V.2.1 1, 20, .inl (h.1 64)) := wc_at (by decide) rfl
theorem u64 {i : Nat} {x : Int32} : va_up (WG V h o) 64 (.inl (V.2.1 1, 20, .inl (upd (h.1 64) i x))) = WG V (wI h 64 i x) o := wgc (by decide) rfl (fun j hj => el_rowI _ hj)
theorem uf64 {f : Nat → Int32} : va_up (WG V h o) 64 (.inl (V.2.1 1, 20, .inl f)) = WG V (rowI h 64 f) o := wgc (by decide) rfl (fun j hj => el_rowI _ hj)
theorem g65 : WG V h o 65 = .inl (V.2.1 6, 6, .inr (.inr (.inr (.inr (fun i => some (V.2.2.1 + (90 + 2 * i))))))) := wc_at (by decide) rfl
theorem g66 : WG V h o 66 = .inr (2, [.int (h.1 66 0), .int (h.1 66 1), rf V 67, rf V 68, .int (h.1 66 4), rf V 69]) := wc_at (by decide) rfl
theorem u66_0 {x : Int32} : va_up (WG V h o) 66 (.inr (2, ([.int (h.1 66 0), .int (h.1 66 1), rf V 67, rf V 68, .int (h.1 66 4), rf V 69] : List Value).set 0 (.int x))) = WG V (wI h 66 0 x) o := wgc (by decide) rfl (fun j hj => el_rowI _ hj)
theorem u66_1 {x : Int32} : va_up (WG V h o) 66 (.inr (2, ([.int (h.1 66 0), .int (h.1 66 1), rf V 67, rf V 68, .int (h.1 66 4), rf V 69] : List Value).set 1 (.int x))) = WG V (wI h 66 1 x) o := wgc (by decide) rfl (fun j hj => el_rowI _ hj)
theorem u66_4 {x : Int32} : va_up (WG V h o) 66 (.inr (2, ([.int (h.1 66 0), .int (h.1 66 1), rf V 67, rf V 68, .int (h.1 66 4), rf V 69] : List Value).set 4 (.int x))) = WG V (wI h 66 4 x) o := wgc (by decide) rfl (fun j hj => el_rowI _ hj)
theorem g67 : WG V h o 67 = .inl (V.2.1 1, 10, .inl (h.1 67)) := wc_at (by decide) rfl
theorem u67 {i : Nat} {x : Int32} : va_up (WG V h o) 67 (.inl (V.2.1 1, 10, .inl (upd (h.1 67) i x))) = WG V (wI h 67 i x) o := wgc (by decide) rfl (fun j hj => el_rowI _ hj)
theorem uf67 {f : Nat → Int32} : va_up (WG V h o) 67 (.inl (V.2.1 1, 10, .inl f)) = WG V (rowI h 67 f) o := wgc (by decide) rfl (fun j hj => el_rowI _ hj)
theorem g68 : WG V h o 68 = .inl (V.2.1 1, 10, .inl (h.1 68)) := wc_at (by decide) rfl
theorem u68 {i : Nat} {x : Int32} : va_up (WG V h o) 68 (.inl (V.2.1 1, 10, .inl (upd (h.1 68) i x))) = WG V (wI h 68 i x) o := wgc (by decide) rfl (fun j hj => el_rowI _ hj)
theorem uf68 {f : Nat → Int32} : va_up (WG V h o) 68 (.inl (V.2.1 1, 10, .inl f)) = WG V (rowI h 68 f) o := wgc (by decide) rfl (fun j hj => el_rowI _ hj)
theorem g69 : WG V h o 69 = .inl (V.2.1 1, 100, .inl (h.1 69)) := wc_at (by decide) rfl
theorem u69 {i : Nat} {x : Int32} : va_up (WG V h o) 69 (.inl (V.2.1 1, 100, .inl (upd (h.1 69) i x))) = WG V (wI h 69 i x) o := wgc (by decide) rfl (fun j hj => el_rowI _ hj)
theorem uf69 {f : Nat → Int32} : va_up (WG V h o) 69 (.inl (V.2.1 1, 100, .inl f)) = WG V (rowI h 69 f) o := wgc (by decide) rfl (fun j hj => el_rowI _ hj)
theorem g70 : WG V h o 70 = .inr (2, [.int (h.1 70 0), .int (h.1 70 1), rf V 71, rf V 72, .int (h.1 70 4), rf V 73]) := wc_at (by decide) rfl
theorem u70_0 {x : Int32} : va_up (WG V h o) 70 (.inr (2, ([.int (h.1 70 0), .int (h.1 70 1), rf V 71, rf V 72, .int (h.1 70 4), rf V 73] : List Value).set 0 (.int x))) = WG V (wI h 70 0 x) o := wgc (by decide) rfl (fun j hj => el_rowI _ hj)
theorem u70_1 {x : Int32} : va_up (WG V h o) 70 (.inr (2, ([.int (h.1 70 0), .int (h.1 70 1), rf V 71, rf V 72, .int (h.1 70 4), rf V 73] : List Value).set 1 (.int x))) = WG V (wI h 70 1 x) o := wgc (by decide) rfl (fun j hj => el_rowI _ hj)
theorem u70_4 {x : Int32} : va_up (WG V h o) 70 (.inr (2, ([.int (h.1 70 0), .int (h.1 70 1), rf V 71, rf V 72, .int (h.1 70 4), rf V 73] : List Value).set 4 (.int x))) = WG V (wI h 70 4 x) o := wgc (by decide) rfl (fun j hj => el_rowI _ hj)
theorem g71 : WG V h o 71 = .inl (V.2.1 1, 10, .inl (h.1 71)) := wc_at (by decide) rfl
theorem u71 {i : Nat} {x : Int32} : va_up (WG V h o) 71 (.inl (V.2.1 1, 10, .inl (upd (h.1 71) i x))) = WG V (wI h 71 i x) o := wgc (by decide) rfl (fun j hj => el_rowI _ hj)
theorem uf71 {f : Nat → Int32} : va_up (WG V h o) 71 (.inl (V.2.1 1, 10, .inl f)) = WG V (rowI h 71 f) o := wgc (by decide) rfl (fun j hj => el_rowI _ hj)
theorem g72 : WG V h o 72 = .inl (V.2.1 1, 10, .inl (h.1 72)) := wc_at (by decide) rfl
theorem u72 {i : Nat} {x : Int32} : va_up (WG V h o) 72 (.inl (V.2.1 1, 10, .inl (upd (h.1 72) i x))) = WG V (wI h 72 i x) o := wgc (by decide) rfl (fun j hj => el_rowI _ hj)
theorem uf72 {f : Nat → Int32} : va_up (WG V h o) 72 (.inl (V.2.1 1, 10, .inl f)) = WG V (rowI h 72 f) o := wgc (by decide) rfl (fun j hj => el_rowI _ hj)
theorem g73 : WG V h o 73 = .inl (V.2.1 1, 100, .inl (h.1 73)) := wc_at (by decide) rfl
theorem u73 {i : Nat} {x : Int32} : va_up (WG V h o) 73 (.inl (V.2.1 1, 100, .inl (upd (h.1 73) i x))) = WG V (wI h 73 i x) o := wgc (by decide) rfl (fun j hj => el_rowI _ hj)
theorem uf73 {f : Nat → Int32} : va_up (WG V h o) 73 (.inl (V.2.1 1, 100, .inl f)) = WG V (rowI h 73 f) o := wgc (by decide) rfl (fun j hj => el_rowI _ hj)
theorem g74 : WG V h o 74 = .inr (2, [.int (h.1 74 0), .int (h.1 74 1), rf V 75, rf V 76, .int (h.1 74 4), rf V 77]) := wc_at (by decide) rfl
theorem u74_0 {x : Int32} : va_up (WG V h o) 74 (.inr (2, ([.int (h.1 74 0), .int (h.1 74 1), rf V 75, rf V 76, .int (h.1 74 4), rf V 77] : List Value).set 0 (.int x))) = WG V (wI h 74 0 x) o := wgc (by decide) rfl (fun j hj => el_rowI _ hj)
theorem u74_1 {x : Int32} : va_up (WG V h o) 74 (.inr (2, ([.int (h.1 74 0), .int (h.1 74 1), rf V 75, rf V 76, .int (h.1 74 4), rf V 77] : List Value).set 1 (.int x))) = WG V (wI h 74 1 x) o := wgc (by decide) rfl (fun j hj => el_rowI _ hj)
theorem u74_4 {x : Int32} : va_up (WG V h o) 74 (.inr (2, ([.int (h.1 74 0), .int (h.1 74 1), rf V 75, rf V 76, .int (h.1 74 4), rf V 77] : List Value).set 4 (.int x))) = WG V (wI h 74 4 x) o := wgc (by decide) rfl (fun j hj => el_rowI _ hj)
theorem g75 : WG V h o 75 = .inl (V.2.1 1, 10, .inl (h.1 75)) := wc_at (by decide) rfl
theorem u75 {i : Nat} {x : Int32} : va_up (WG V h o) 75 (.inl (V.2.1 1, 10, .inl (upd (h.1 75) i x))) = WG V (wI h 75 i x) o := wgc (by decide) rfl (fun j hj => el_rowI _ hj)
theorem uf75 {f : Nat → Int32} : va_up (WG V h o) 75 (.inl (V.2.1 1, 10, .inl f)) = WG V (rowI h 75 f) o := wgc (by decide) rfl (fun j hj => el_rowI _ hj)
theorem g76 : WG V h o 76 = .inl (V.2.1 1, 10, .inl (h.1 76)) := wc_at (by decide) rfl
theorem u76 {i : Nat} {x : Int32} : va_up (WG V h o) 76 (.inl (V.2.1 1, 10, .inl (upd (h.1 76) i x))) = WG V (wI h 76 i x) o := wgc (by decide) rfl (fun j hj => el_rowI _ hj)
theorem uf76 {f : Nat → Int32} : va_up (WG V h o) 76 (.inl (V.2.1 1, 10, .inl f)) = WG V (rowI h 76 f) o := wgc (by decide) rfl (fun j hj => el_rowI _ hj)
theorem g77 : WG V h o 77 = .inl (V.2.1 1, 100, .inl (h.1 77)) := wc_at (by decide) rfl
theorem u77 {i : Nat} {x : Int32} : va_up (WG V h o) 77 (.inl (V.2.1 1, 100, .inl (upd (h.1 77) i x))) = WG V (wI h 77 i x) o := wgc (by decide) rfl (fun j hj => el_rowI _ hj)
theorem uf77 {f : Nat → Int32} : va_up (WG V h o) 77 (.inl (V.2.1 1, 100, .inl f)) = WG V (rowI h 77 f) o := wgc (by decide) rfl (fun j hj => el_rowI _ hj)
theorem g78 : WG V h o 78 = .inr (2, [.int (h.1 78 0), .int (h.1 78 1), rf V 79, rf V 80, .int (h.1 78 4), rf V 81]) := wc_at (by decide) rfl
theorem u78_0 {x : Int32} : va_up (WG V h o) 78 (.inr (2, ([.int (h.1 78 0), .int (h.1 78 1), rf V 79, rf V 80, .int (h.1 78 4), rf V 81] : List Value).set 0 (.int x))) = WG V (wI h 78 0 x) o := wgc (by decide) rfl (fun j hj => el_rowI _ hj)
theorem u78_1 {x : Int32} : va_up (WG V h o) 78 (.inr (2, ([.int (h.1 78 0), .int (h.1 78 1), rf V 79, rf V 80, .int (h.1 78 4), rf V 81] : List Value).set 1 (.int x))) = WG V (wI h 78 1 x) o := wgc (by decide) rfl (fun j hj => el_rowI _ hj)
theorem u78_4 {x : Int32} : va_up (WG V h o) 78 (.inr (2, ([.int (h.1 78 0), .int (h.1 78 1), rf V 79, rf V 80, .int (h.1 78 4), rf V 81] : List Value).set 4 (.int x))) = WG V (wI h 78 4 x) o := wgc (by decide) rfl (fun j hj => el_rowI _ hj)
theorem g79 : WG V h o 79 = .inl (V.2.1 1, 10, .inl (h.1 79)) := wc_at (by decide) rfl
theorem u79 {i : Nat} {x : Int32} : va_up (WG V h o) 79 (.inl (V.2.1 1, 10, .inl (upd (h.1 79) i x))) = WG V (wI h 79 i x) o := wgc (by decide) rfl (fun j hj => el_rowI _ hj)
theorem uf79 {f : Nat → Int32} : va_up (WG V h o) 79 (.inl (V.2.1 1, 10, .inl f)) = WG V (rowI h 79 f) o := wgc (by decide) rfl (fun j hj => el_rowI _ hj)
theorem g80 : WG V h o 80 = .inl (V.2.1 1, 10, .inl (h.1 80)) := wc_at (by decide) rfl
theorem u80 {i : Nat} {x : Int32} : va_up (WG V h o) 80 (.inl (V.2.1 1, 10, .inl (upd (h.1 80) i x))) = WG V (wI h 80 i x) o := wgc (by decide) rfl (fun j hj => el_rowI _ hj)
theorem uf80 {f : Nat → Int32} : va_up (WG V h o) 80 (.inl (V.2.1 1, 10, .inl f)) = WG V (rowI h 80 f) o := wgc (by decide) rfl (fun j hj => el_rowI _ hj)
theorem g81 : WG V h o 81 = .inl (V.2.1 1, 100, .inl (h.1 81)) := wc_at (by decide) rfl
theorem u81 {i : Nat} {x : Int32} : va_up (WG V h o) 81 (.inl (V.2.1 1, 100, .inl (upd (h.1 81) i x))) = WG V (wI h 81 i x) o := wgc (by decide) rfl (fun j hj => el_rowI _ hj)
theorem uf81 {f : Nat → Int32} : va_up (WG V h o) 81 (.inl (V.2.1 1, 100, .inl f)) = WG V (rowI h 81 f) o := wgc (by decide) rfl (fun j hj => el_rowI _ hj)
theorem g82 : WG V h o 82 = .inr (2, [.int (h.1 82 0), .int (h.1 82 1), rf V 83, rf V 84, .int (h.1 82 4), rf V 85]) := wc_at (by decide) rfl
theorem u82_0 {x : Int32} : va_up (WG V h o) 82 (.inr (2, ([.int (h.1 82 0), .int (h.1 82 1), rf V 83, rf V 84, .int (h.1 82 4), rf V 85] : List Value).set 0 (.int x))) = WG V (wI h 82 0 x) o := wgc (by decide) rfl (fun j hj => el_rowI _ hj)
theorem u82_1 {x : Int32} : va_up (WG V h o) 82 (.inr (2, ([.int (h.1 82 0), .int (h.1 82 1), rf V 83, rf V 84, .int (h.1 82 4), rf V 85] : List Value).set 1 (.int x))) = WG V (wI h 82 1 x) o := wgc (by decide) rfl (fun j hj => el_rowI _ hj)
theorem u82_4 {x : Int32} : va_up (WG V h o) 82 (.inr (2, ([.int (h.1 82 0), .int (h.1 82 1), rf V 83, rf V 84, .int (h.1 82 4), rf V 85] : List Value).set 4 (.int x))) = WG V (wI h 82 4 x) o := wgc (by decide) rfl (fun j hj => el_rowI _ hj)
theorem g83 : WG V h o 83 = .inl (V.2.1 1, 10, .inl (h.1 83)) := wc_at (by decide) rfl
theorem u83 {i : Nat} {x : Int32} : va_up (WG V h o) 83 (.inl (V.2.1 1, 10, .inl (upd (h.1 83) i x))) = WG V (wI h 83 i x) o := wgc (by decide) rfl (fun j hj => el_rowI _ hj)
theorem uf83 {f : Nat → Int32} : va_up (WG V h o) 83 (.inl (V.2.1 1, 10, .inl f)) = WG V (rowI h 83 f) o := wgc (by decide) rfl (fun j hj => el_rowI _ hj)
theorem g84 : WG V h o 84 = .inl (V.2.1 1, 10, .inl (h.1 84)) := wc_at (by decide) rfl
theorem u84 {i : Nat} {x : Int32} : va_up (WG V h o) 84 (.inl (V.2.1 1, 10, .inl (upd (h.1 84) i x))) = WG V (wI h 84 i x) o := wgc (by decide) rfl (fun j hj => el_rowI _ hj)
theorem uf84 {f : Nat → Int32} : va_up (WG V h o) 84 (.inl (V.2.1 1, 10, .inl f)) = WG V (rowI h 84 f) o := wgc (by decide) rfl (fun j hj => el_rowI _ hj)
theorem g85 : WG V h o 85 = .inl (V.2.1 1, 100, .inl (h.1 85)) := wc_at (by decide) rfl
theorem u85 {i : Nat} {x : Int32} : va_up (WG V h o) 85 (.inl (V.2.1 1, 100, .inl (upd (h.1 85) i x))) = WG V (wI h 85 i x) o := wgc (by decide) rfl (fun j hj => el_rowI _ hj)
theorem uf85 {f : Nat → Int32} : va_up (WG V h o) 85 (.inl (V.2.1 1, 100, .inl f)) = WG V (rowI h 85 f) o := wgc (by decide) rfl (fun j hj => el_rowI _ hj)
theorem g86 : WG V h o 86 = .inr (2, [.int (h.1 86 0), .int (h.1 86 1), rf V 87, rf V 88, .int (h.1 86 4), rf V 89]) := wc_at (by decide) rfl
theorem u86_0 {x : Int32} : va_up (WG V h o) 86 (.inr (2, ([.int (h.1 86 0), .int (h.1 86 1), rf V 87, rf V 88, .int (h.1 86 4), rf V 89] : List Value).set 0 (.int x))) = WG V (wI h 86 0 x) o := wgc (by decide) rfl (fun j hj => el_rowI _ hj)
theorem u86_1 {x : Int32} : va_up (WG V h o) 86 (.inr (2, ([.int (h.1 86 0), .int (h.1 86 1), rf V 87, rf V 88, .int (h.1 86 4), rf V 89] : List Value).set 1 (.int x))) = WG V (wI h 86 1 x) o := wgc (by decide) rfl (fun j hj => el_rowI _ hj)
theorem u86_4 {x : Int32} : va_up (WG V h o) 86 (.inr (2, ([.int (h.1 86 0), .int (h.1 86 1), rf V 87, rf V 88, .int (h.1 86 4), rf V 89] : List Value).set 4 (.int x))) = WG V (wI h 86 4 x) o := wgc (by decide) rfl (fun j hj => el_rowI _ hj)
theorem g87 : WG V h o 87 = .inl (V.2.1 1, 10, .inl (h.1 87)) := wc_at (by decide) rfl
theorem u87 {i : Nat} {x : Int32} : va_up (WG V h o) 87 (.inl (V.2.1 1, 10, .inl (upd (h.1 87) i x))) = WG V (wI h 87 i x) o := wgc (by decide) rfl (fun j hj => el_rowI _ hj)
theorem uf87 {f : Nat → Int32} : va_up (WG V h o) 87 (.inl (V.2.1 1, 10, .inl f)) = WG V (rowI h 87 f) o := wgc (by decide) rfl (fun j hj => el_rowI _ hj)
theorem g88 : WG V h o 88 = .inl (V.2.1 1, 10, .inl (h.1 88)) := wc_at (by decide) rfl
theorem u88 {i : Nat} {x : Int32} : va_up (WG V h o) 88 (.inl (V.2.1 1, 10, .inl (upd (h.1 88) i x))) = WG V (wI h 88 i x) o := wgc (by decide) rfl (fun j hj => el_rowI _ hj)
theorem uf88 {f : Nat → Int32} : va_up (WG V h o) 88 (.inl (V.2.1 1, 10, .inl f)) = WG V (rowI h 88 f) o := wgc (by decide) rfl (fun j hj => el_rowI _ hj)
theorem g89 : WG V h o 89 = .inl (V.2.1 1, 100, .inl (h.1 89)) := wc_at (by decide) rfl
theorem u89 {i : Nat} {x : Int32} : va_up (WG V h o) 89 (.inl (V.2.1 1, 100, .inl (upd (h.1 89) i x))) = WG V (wI h 89 i x) o := wgc (by decide) rfl (fun j hj => el_rowI _ hj)
theorem uf89 {f : Nat → Int32} : va_up (WG V h o) 89 (.inl (V.2.1 1, 100, .inl f)) = WG V (rowI h 89 f) o := wgc (by decide) rfl (fun j hj => el_rowI _ hj)
theorem g90 : WG V h o 90 = .inr (8, [.int (h.1 90 0), .int (h.1 90 1), rf V 91]) := wc_at (by decide) rfl
theorem u90_0 {x : Int32} : va_up (WG V h o) 90 (.inr (8, ([.int (h.1 90 0), .int (h.1 90 1), rf V 91] : List Value).set 0 (.int x))) = WG V (wI h 90 0 x) o := wgc (by decide) rfl (fun j hj => el_rowI _ hj)
theorem u90_1 {x : Int32} : va_up (WG V h o) 90 (.inr (8, ([.int (h.1 90 0), .int (h.1 90 1), rf V 91] : List Value).set 1 (.int x))) = WG V (wI h 90 1 x) o := wgc (by decide) rfl (fun j hj => el_rowI _ hj)
theorem g91 : WG V h o 91 = .inl (V.2.1 2, 60, .inr (.inl (h.2.1 91))) := wc_at (by decide) rfl
theorem u91 {i : Nat} {x : Int64} : va_up (WG V h o) 91 (.inl (V.2.1 2, 60, .inr (.inl (vp_updL (h.2.1 91) i x)))) = WG V (wL h 91 i x) o := wgc (by decide) rfl (fun j hj => el_rowL _ hj)
theorem uf91 {f : Nat → Int64} : va_up (WG V h o) 91 (.inl (V.2.1 2, 60, .inr (.inl f))) = WG V (rowL h 91 f) o := wgc (by decide) rfl (fun j hj => el_rowL _ hj)
theorem g92 : WG V h o 92 = .inr (8, [.int (h.1 92 0), .int (h.1 92 1), rf V 93]) := wc_at (by decide) rfl
theorem u92_0 {x : Int32} : va_up (WG V h o) 92 (.inr (8, ([.int (h.1 92 0), .int (h.1 92 1), rf V 93] : List Value).set 0 (.int x))) = WG V (wI h 92 0 x) o := wgc (by decide) rfl (fun j hj => el_rowI _ hj)
theorem u92_1 {x : Int32} : va_up (WG V h o) 92 (.inr (8, ([.int (h.1 92 0), .int (h.1 92 1), rf V 93] : List Value).set 1 (.int x))) = WG V (wI h 92 1 x) o := wgc (by decide) rfl (fun j hj => el_rowI _ hj)
theorem g93 : WG V h o 93 = .inl (V.2.1 2, 60, .inr (.inl (h.2.1 93))) := wc_at (by decide) rfl
theorem u93 {i : Nat} {x : Int64} : va_up (WG V h o) 93 (.inl (V.2.1 2, 60, .inr (.inl (vp_updL (h.2.1 93) i x)))) = WG V (wL h 93 i x) o := wgc (by decide) rfl (fun j hj => el_rowL _ hj)
theorem uf93 {f : Nat → Int64} : va_up (WG V h o) 93 (.inl (V.2.1 2, 60, .inr (.inl f))) = WG V (rowL h 93 f) o := wgc (by decide) rfl (fun j hj => el_rowL _ hj)
theorem g94 : WG V h o 94 = .inr (8, [.int (h.1 94 0), .int (h.1 94 1), rf V 95]) := wc_at (by decide) rfl
theorem u94_0 {x : Int32} : va_up (WG V h o) 94 (.inr (8, ([.int (h.1 94 0), .int (h.1 94 1), rf V 95] : List Value).set 0 (.int x))) = WG V (wI h 94 0 x) o := wgc (by decide) rfl (fun j hj => el_rowI _ hj)
theorem u94_1 {x : Int32} : va_up (WG V h o) 94 (.inr (8, ([.int (h.1 94 0), .int (h.1 94 1), rf V 95] : List Value).set 1 (.int x))) = WG V (wI h 94 1 x) o := wgc (by decide) rfl (fun j hj => el_rowI _ hj)
theorem g95 : WG V h o 95 = .inl (V.2.1 2, 60, .inr (.inl (h.2.1 95))) := wc_at (by decide) rfl
theorem u95 {i : Nat} {x : Int64} : va_up (WG V h o) 95 (.inl (V.2.1 2, 60, .inr (.inl (vp_updL (h.2.1 95) i x)))) = WG V (wL h 95 i x) o := wgc (by decide) rfl (fun j hj => el_rowL _ hj)
theorem uf95 {f : Nat → Int64} : va_up (WG V h o) 95 (.inl (V.2.1 2, 60, .inr (.inl f))) = WG V (rowL h 95 f) o := wgc (by decide) rfl (fun j hj => el_rowL _ hj)
theorem g96 : WG V h o 96 = .inr (8, [.int (h.1 96 0), .int (h.1 96 1), rf V 97]) := wc_at (by decide) rfl
theorem u96_0 {x : Int32} : va_up (WG V h o) 96 (.inr (8, ([.int (h.1 96 0), .int (h.1 96 1), rf V 97] : List Value).set 0 (.int x))) = WG V (wI h 96 0 x) o := wgc (by decide) rfl (fun j hj => el_rowI _ hj)
theorem u96_1 {x : Int32} : va_up (WG V h o) 96 (.inr (8, ([.int (h.1 96 0), .int (h.1 96 1), rf V 97] : List Value).set 1 (.int x))) = WG V (wI h 96 1 x) o := wgc (by decide) rfl (fun j hj => el_rowI _ hj)
theorem g97 : WG V h o 97 = .inl (V.2.1 2, 60, .inr (.inl (h.2.1 97))) := wc_at (by decide) rfl
theorem u97 {i : Nat} {x : Int64} : va_up (WG V h o) 97 (.inl (V.2.1 2, 60, .inr (.inl (vp_updL (h.2.1 97) i x)))) = WG V (wL h 97 i x) o := wgc (by decide) rfl (fun j hj => el_rowL _ hj)
theorem uf97 {f : Nat → Int64} : va_up (WG V h o) 97 (.inl (V.2.1 2, 60, .inr (.inl f))) = WG V (rowL h 97 f) o := wgc (by decide) rfl (fun j hj => el_rowL _ hj)
theorem g98 : WG V h o 98 = .inr (8, [.int (h.1 98 0), .int (h.1 98 1), rf V 99]) := wc_at (by decide) rfl
theorem u98_0 {x : Int32} : va_up (WG V h o) 98 (.inr (8, ([.int (h.1 98 0), .int (h.1 98 1), rf V 99] : List Value).set 0 (.int x))) = WG V (wI h 98 0 x) o := wgc (by decide) rfl (fun j hj => el_rowI _ hj)
theorem u98_1 {x : Int32} : va_up (WG V h o) 98 (.inr (8, ([.int (h.1 98 0), .int (h.1 98 1), rf V 99] : List Value).set 1 (.int x))) = WG V (wI h 98 1 x) o := wgc (by decide) rfl (fun j hj => el_rowI _ hj)
theorem g99 : WG V h o 99 = .inl (V.2.1 2, 60, .inr (.inl (h.2.1 99))) := wc_at (by decide) rfl
theorem u99 {i : Nat} {x : Int64} : va_up (WG V h o) 99 (.inl (V.2.1 2, 60, .inr (.inl (vp_updL (h.2.1 99) i x)))) = WG V (wL h 99 i x) o := wgc (by decide) rfl (fun j hj => el_rowL _ hj)
theorem uf99 {f : Nat → Int64} : va_up (WG V h o) 99 (.inl (V.2.1 2, 60, .inr (.inl f))) = WG V (rowL h 99 f) o := wgc (by decide) rfl (fun j hj => el_rowL _ hj)
theorem g100 : WG V h o 100 = .inr (8, [.int (h.1 100 0), .int (h.1 100 1), rf V 101]) := wc_at (by decide) rfl
theorem u100_0 {x : Int32} : va_up (WG V h o) 100 (.inr (8, ([.int (h.1 100 0), .int (h.1 100 1), rf V 101] : List Value).set 0 (.int x))) = WG V (wI h 100 0 x) o := wgc (by decide) rfl (fun j hj => el_rowI _ hj)
theorem u100_1 {x : Int32} : va_up (WG V h o) 100 (.inr (8, ([.int (h.1 100 0), .int (h.1 100 1), rf V 101] : List Value).set 1 (.int x))) = WG V (wI h 100 1 x) o := wgc (by decide) rfl (fun j hj => el_rowI _ hj)
theorem g101 : WG V h o 101 = .inl (V.2.1 2, 60, .inr (.inl (h.2.1 101))) := wc_at (by decide) rfl
theorem u101 {i : Nat} {x : Int64} : va_up (WG V h o) 101 (.inl (V.2.1 2, 60, .inr (.inl (vp_updL (h.2.1 101) i x)))) = WG V (wL h 101 i x) o := wgc (by decide) rfl (fun j hj => el_rowL _ hj)
theorem uf101 {f : Nat → Int64} : va_up (WG V h o) 101 (.inl (V.2.1 2, 60, .inr (.inl f))) = WG V (rowL h 101 f) o := wgc (by decide) rfl (fun j hj => el_rowL _ hj)
theorem g102 : WG V o h 102 = .inr (10, [.int (h.1 102 0), .int (h.1 102 1), .int (h.1 102 2), rf V 103, rf V 104, rf V 105, rf V 106, .int (h.1 102 7), .int (h.1 102 8), .int (h.1 102 9), .int (h.1 102 10), .int (h.1 102 11), rf V 107, rf V 108, rf V 109, rf V 110, rf V 111, rf V 112, rf V 113, rf V 114, .int (h.1 102 20), .int (h.1 102 21), .int (h.1 102 22), rf V 115, rf V 116, .int (h.1 102 25), rf V 117, rf V 118, .int (h.1 102 28), .int (h.1 102 29), rf V 119, rf V 120, rf V 121, .int (h.1 102 33), rf V 122, rf V 123, rf V 124, .int (h.1 102 37), .int (h.1 102 38), rf V 125, rf V 126, rf V 127, .int (h.1 102 42), .int (h.1 102 43), .int (h.1 102 44), .int (h.1 102 45), .int (h.1 102 46), .int (h.1 102 47), .int (h.1 102 48), .int (h.1 102 49), rf V 128, rf V 129, rf V 130, rf V 131, rf V 132, rf V 133, rf V 134, rf V 135, rf V 136, rf V 137, .int (h.1 102 60), rf V 138, rf V 139, rf V 140, rf V 141, rf V 142]) := wm_at (by decide) rfl
theorem u102_0 {x : Int32} : va_up (WG V o h) 102 (.inr (10, ([.int (h.1 102 0), .int (h.1 102 1), .int (h.1 102 2), rf V 103, rf V 104, rf V 105, rf V 106, .int (h.1 102 7), .int (h.1 102 8), .int (h.1 102 9), .int (h.1 102 10), .int (h.1 102 11), rf V 107, rf V 108, rf V 109, rf V 110, rf V 111, rf V 112, rf V 113, rf V 114, .int (h.1 102 20), .int (h.1 102 21), .int (h.1 102 22), rf V 115, rf V 116, .int (h.1 102 25), rf V 117, rf V 118, .int (h.1 102 28), .int (h.1 102 29), rf V 119, rf V 120, rf V 121, .int (h.1 102 33), rf V 122, rf V 123, rf V 124, .int (h.1 102 37), .int (h.1 102 38), rf V 125, rf V 126, rf V 127, .int (h.1 102 42), .int (h.1 102 43), .int (h.1 102 44), .int (h.1 102 45), .int (h.1 102 46), .int (h.1 102 47), .int (h.1 102 48), .int (h.1 102 49), rf V 128, rf V 129, rf V 130, rf V 131, rf V 132, rf V 133, rf V 134, rf V 135, rf V 136, rf V 137, .int (h.1 102 60), rf V 138, rf V 139, rf V 140, rf V 141, rf V 142] : List Value).set 0 (.int x))) = WG V o (wI h 102 0 x) := wgm (by decide) rfl (fun j hj => el_rowI _ hj)
theorem u102_1 {x : Int32} : va_up (WG V o h) 102 (.inr (10, ([.int (h.1 102 0), .int (h.1 102 1), .int (h.1 102 2), rf V 103, rf V 104, rf V 105, rf V 106, .int (h.1 102 7), .int (h.1 102 8), .int (h.1 102 9), .int (h.1 102 10), .int (h.1 102 11), rf V 107, rf V 108, rf V 109, rf V 110, rf V 111, rf V 112, rf V 113, rf V 114, .int (h.1 102 20), .int (h.1 102 21), .int (h.1 102 22), rf V 115, rf V 116, .int (h.1 102 25), rf V 117, rf V 118, .int (h.1 102 28), .int (h.1 102 29), rf V 119, rf V 120, rf V 121, .int (h.1 102 33), rf V 122, rf V 123, rf V 124, .int (h.1 102 37), .int (h.1 102 38), rf V 125, rf V 126, rf V 127, .int (h.1 102 42), .int (h.1 102 43), .int (h.1 102 44), .int (h.1 102 45), .int (h.1 102 46), .int (h.1 102 47), .int (h.1 102 48), .int (h.1 102 49), rf V 128, rf V 129, rf V 130, rf V 131, rf V 132, rf V 133, rf V 134, rf V 135, rf V 136, rf V 137, .int (h.1 102 60), rf V 138, rf V 139, rf V 140, rf V 141, rf V 142] : List Value).set 1 (.int x))) = WG V o (wI h 102 1 x) := wgm (by decide) rfl (fun j hj => el_rowI _ hj)
theorem u102_2 {x : Int32} : va_up (WG V o h) 102 (.inr (10, ([.int (h.1 102 0), .int (h.1 102 1), .int (h.1 102 2), rf V 103, rf V 104, rf V 105, rf V 106, .int (h.1 102 7), .int (h.1 102 8), .int (h.1 102 9), .int (h.1 102 10), .int (h.1 102 11), rf V 107, rf V 108, rf V 109, rf V 110, rf V 111, rf V 112, rf V 113, rf V 114, .int (h.1 102 20), .int (h.1 102 21), .int (h.1 102 22), rf V 115, rf V 116, .int (h.1 102 25), rf V 117, rf V 118, .int (h.1 102 28), .int (h.1 102 29), rf V 119, rf V 120, rf V 121, .int (h.1 102 33), rf V 122, rf V 123, rf V 124, .int (h.1 102 37), .int (h.1 102 38), rf V 125, rf V 126, rf V 127, .int (h.1 102 42), .int (h.1 102 43), .int (h.1 102 44), .int (h.1 102 45), .int (h.1 102 46), .int (h.1 102 47), .int (h.1 102 48), .int (h.1 102 49), rf V 128, rf V 129, rf V 130, rf V 131, rf V 132, rf V 133, rf V 134, rf V 135, rf V 136, rf V 137, .int (h.1 102 60), rf V 138, rf V 139, rf V 140, rf V 141, rf V 142] : List Value).set 2 (.int x))) = WG V o (wI h 102 2 x) := wgm (by decide) rfl (fun j hj => el_rowI _ hj)
theorem u102_7 {x : Int32} : va_up (WG V o h) 102 (.inr (10, ([.int (h.1 102 0), .int (h.1 102 1), .int (h.1 102 2), rf V 103, rf V 104, rf V 105, rf V 106, .int (h.1 102 7), .int (h.1 102 8), .int (h.1 102 9), .int (h.1 102 10), .int (h.1 102 11), rf V 107, rf V 108, rf V 109, rf V 110, rf V 111, rf V 112, rf V 113, rf V 114, .int (h.1 102 20), .int (h.1 102 21), .int (h.1 102 22), rf V 115, rf V 116, .int (h.1 102 25), rf V 117, rf V 118, .int (h.1 102 28), .int (h.1 102 29), rf V 119, rf V 120, rf V 121, .int (h.1 102 33), rf V 122, rf V 123, rf V 124, .int (h.1 102 37), .int (h.1 102 38), rf V 125, rf V 126, rf V 127, .int (h.1 102 42), .int (h.1 102 43), .int (h.1 102 44), .int (h.1 102 45), .int (h.1 102 46), .int (h.1 102 47), .int (h.1 102 48), .int (h.1 102 49), rf V 128, rf V 129, rf V 130, rf V 131, rf V 132, rf V 133, rf V 134, rf V 135, rf V 136, rf V 137, .int (h.1 102 60), rf V 138, rf V 139, rf V 140, rf V 141, rf V 142] : List Value).set 7 (.int x))) = WG V o (wI h 102 7 x) := wgm (by decide) rfl (fun j hj => el_rowI _ hj)
theorem u102_8 {x : Int32} : va_up (WG V o h) 102 (.inr (10, ([.int (h.1 102 0), .int (h.1 102 1), .int (h.1 102 2), rf V 103, rf V 104, rf V 105, rf V 106, .int (h.1 102 7), .int (h.1 102 8), .int (h.1 102 9), .int (h.1 102 10), .int (h.1 102 11), rf V 107, rf V 108, rf V 109, rf V 110, rf V 111, rf V 112, rf V 113, rf V 114, .int (h.1 102 20), .int (h.1 102 21), .int (h.1 102 22), rf V 115, rf V 116, .int (h.1 102 25), rf V 117, rf V 118, .int (h.1 102 28), .int (h.1 102 29), rf V 119, rf V 120, rf V 121, .int (h.1 102 33), rf V 122, rf V 123, rf V 124, .int (h.1 102 37), .int (h.1 102 38), rf V 125, rf V 126, rf V 127, .int (h.1 102 42), .int (h.1 102 43), .int (h.1 102 44), .int (h.1 102 45), .int (h.1 102 46), .int (h.1 102 47), .int (h.1 102 48), .int (h.1 102 49), rf V 128, rf V 129, rf V 130, rf V 131, rf V 132, rf V 133, rf V 134, rf V 135, rf V 136, rf V 137, .int (h.1 102 60), rf V 138, rf V 139, rf V 140, rf V 141, rf V 142] : List Value).set 8 (.int x))) = WG V o (wI h 102 8 x) := wgm (by decide) rfl (fun j hj => el_rowI _ hj)
theorem u102_9 {x : Int32} : va_up (WG V o h) 102 (.inr (10, ([.int (h.1 102 0), .int (h.1 102 1), .int (h.1 102 2), rf V 103, rf V 104, rf V 105, rf V 106, .int (h.1 102 7), .int (h.1 102 8), .int (h.1 102 9), .int (h.1 102 10), .int (h.1 102 11), rf V 107, rf V 108, rf V 109, rf V 110, rf V 111, rf V 112, rf V 113, rf V 114, .int (h.1 102 20), .int (h.1 102 21), .int (h.1 102 22), rf V 115, rf V 116, .int (h.1 102 25), rf V 117, rf V 118, .int (h.1 102 28), .int (h.1 102 29), rf V 119, rf V 120, rf V 121, .int (h.1 102 33), rf V 122, rf V 123, rf V 124, .int (h.1 102 37), .int (h.1 102 38), rf V 125, rf V 126, rf V 127, .int (h.1 102 42), .int (h.1 102 43), .int (h.1 102 44), .int (h.1 102 45), .int (h.1 102 46), .int (h.1 102 47), .int (h.1 102 48), .int (h.1 102 49), rf V 128, rf V 129, rf V 130, rf V 131, rf V 132, rf V 133, rf V 134, rf V 135, rf V 136, rf V 137, .int (h.1 102 60), rf V 138, rf V 139, rf V 140, rf V 141, rf V 142] : List Value).set 9 (.int x))) = WG V o (wI h 102 9 x) := wgm (by decide) rfl (fun j hj => el_rowI _ hj)
theorem u102_10 {x : Int32} : va_up (WG V o h) 102 (.inr (10, ([.int (h.1 102 0), .int (h.1 102 1), .int (h.1 102 2), rf V 103, rf V 104, rf V 105, rf V 106, .int (h.1 102 7), .int (h.1 102 8), .int (h.1 102 9), .int (h.1 102 10), .int (h.1 102 11), rf V 107, rf V 108, rf V 109, rf V 110, rf V 111, rf V 112, rf V 113, rf V 114, .int (h.1 102 20), .int (h.1 102 21), .int (h.1 102 22), rf V 115, rf V 116, .int (h.1 102 25), rf V 117, rf V 118, .int (h.1 102 28), .int (h.1 102 29), rf V 119, rf V 120, rf V 121, .int (h.1 102 33), rf V 122, rf V 123, rf V 124, .int (h.1 102 37), .int (h.1 102 38), rf V 125, rf V 126, rf V 127, .int (h.1 102 42), .int (h.1 102 43), .int (h.1 102 44), .int (h.1 102 45), .int (h.1 102 46), .int (h.1 102 47), .int (h.1 102 48), .int (h.1 102 49), rf V 128, rf V 129, rf V 130, rf V 131, rf V 132, rf V 133, rf V 134, rf V 135, rf V 136, rf V 137, .int (h.1 102 60), rf V 138, rf V 139, rf V 140, rf V 141, rf V 142] : List Value).set 10 (.int x))) = WG V o (wI h 102 10 x) := wgm (by decide) rfl (fun j hj => el_rowI _ hj)
theorem u102_11 {x : Int32} : va_up (WG V o h) 102 (.inr (10, ([.int (h.1 102 0), .int (h.1 102 1), .int (h.1 102 2), rf V 103, rf V 104, rf V 105, rf V 106, .int (h.1 102 7), .int (h.1 102 8), .int (h.1 102 9), .int (h.1 102 10), .int (h.1 102 11), rf V 107, rf V 108, rf V 109, rf V 110, rf V 111, rf V 112, rf V 113, rf V 114, .int (h.1 102 20), .int (h.1 102 21), .int (h.1 102 22), rf V 115, rf V 116, .int (h.1 102 25), rf V 117, rf V 118, .int (h.1 102 28), .int (h.1 102 29), rf V 119, rf V 120, rf V 121, .int (h.1 102 33), rf V 122, rf V 123, rf V 124, .int (h.1 102 37), .int (h.1 102 38), rf V 125, rf V 126, rf V 127, .int (h.1 102 42), .int (h.1 102 43), .int (h.1 102 44), .int (h.1 102 45), .int (h.1 102 46), .int (h.1 102 47), .int (h.1 102 48), .int (h.1 102 49), rf V 128, rf V 129, rf V 130, rf V 131, rf V 132, rf V 133, rf V 134, rf V 135, rf V 136, rf V 137, .int (h.1 102 60), rf V 138, rf V 139, rf V 140, rf V 141, rf V 142] : List Value).set 11 (.int x))) = WG V o (wI h 102 11 x) := wgm (by decide) rfl (fun j hj => el_rowI _ hj)
theorem u102_20 {x : Int32} : va_up (WG V o h) 102 (.inr (10, ([.int (h.1 102 0), .int (h.1 102 1), .int (h.1 102 2), rf V 103, rf V 104, rf V 105, rf V 106, .int (h.1 102 7), .int (h.1 102 8), .int (h.1 102 9), .int (h.1 102 10), .int (h.1 102 11), rf V 107, rf V 108, rf V 109, rf V 110, rf V 111, rf V 112, rf V 113, rf V 114, .int (h.1 102 20), .int (h.1 102 21), .int (h.1 102 22), rf V 115, rf V 116, .int (h.1 102 25), rf V 117, rf V 118, .int (h.1 102 28), .int (h.1 102 29), rf V 119, rf V 120, rf V 121, .int (h.1 102 33), rf V 122, rf V 123, rf V 124, .int (h.1 102 37), .int (h.1 102 38), rf V 125, rf V 126, rf V 127, .int (h.1 102 42), .int (h.1 102 43), .int (h.1 102 44), .int (h.1 102 45), .int (h.1 102 46), .int (h.1 102 47), .int (h.1 102 48), .int (h.1 102 49), rf V 128, rf V 129, rf V 130, rf V 131, rf V 132, rf V 133, rf V 134, rf V 135, rf V 136, rf V 137, .int (h.1 102 60), rf V 138, rf V 139, rf V 140, rf V 141, rf V 142] : List Value).set 20 (.int x))) = WG V o (wI h 102 20 x) := wgm (by decide) rfl (fun j hj => el_rowI _ hj)
theorem u102_21 {x : Int32} : va_up (WG V o h) 102 (.inr (10, ([.int (h.1 102 0), .int (h.1 102 1), .int (h.1 102 2), rf V 103, rf V 104, rf V 105, rf V 106, .int (h.1 102 7), .int (h.1 102 8), .int (h.1 102 9), .int (h.1 102 10), .int (h.1 102 11), rf V 107, rf V 108, rf V 109, rf V 110, rf V 111, rf V 112, rf V 113, rf V 114, .int (h.1 102 20), .int (h.1 102 21), .int (h.1 102 22), rf V 115, rf V 116, .int (h.1 102 25), rf V 117, rf V 118, .int (h.1 102 28), .int (h.1 102 29), rf V 119, rf V 120, rf V 121, .int (h.1 102 33), rf V 122, rf V 123, rf V 124, .int (h.1 102 37), .int (h.1 102 38), rf V 125, rf V 126, rf V 127, .int (h.1 102 42), .int (h.1 102 43), .int (h.1 102 44), .int (h.1 102 45), .int (h.1 102 46), .int (h.1 102 47), .int (h.1 102 48), .int (h.1 102 49), rf V 128, rf V 129, rf V 130, rf V 131, rf V 132, rf V 133, rf V 134, rf V 135, rf V 136, rf V 137, .int (h.1 102 60), rf V 138, rf V 139, rf V 140, rf V 141, rf V 142] : List Value).set 21 (.int x))) = WG V o (wI h 102 21 x) := wgm (by decide) rfl (fun j hj => el_rowI _ hj)
theorem u102_22 {x : Int32} : va_up (WG V o h) 102 (.inr (10, ([.int (h.1 102 0), .int (h.1 102 1), .int (h.1 102 2), rf V 103, rf V 104, rf V 105, rf V 106, .int (h.1 102 7), .int (h.1 102 8), .int (h.1 102 9), .int (h.1 102 10), .int (h.1 102 11), rf V 107, rf V 108, rf V 109, rf V 110, rf V 111, rf V 112, rf V 113, rf V 114, .int (h.1 102 20), .int (h.1 102 21), .int (h.1 102 22), rf V 115, rf V 116, .int (h.1 102 25), rf V 117, rf V 118, .int (h.1 102 28), .int (h.1 102 29), rf V 119, rf V 120, rf V 121, .int (h.1 102 33), rf V 122, rf V 123, rf V 124, .int (h.1 102 37), .int (h.1 102 38), rf V 125, rf V 126, rf V 127, .int (h.1 102 42), .int (h.1 102 43), .int (h.1 102 44), .int (h.1 102 45), .int (h.1 102 46), .int (h.1 102 47), .int (h.1 102 48), .int (h.1 102 49), rf V 128, rf V 129, rf V 130, rf V 131, rf V 132, rf V 133, rf V 134, rf V 135, rf V 136, rf V 137, .int (h.1 102 60), rf V 138, rf V 139, rf V 140, rf V 141, rf V 142] : List Value).set 22 (.int x))) = WG V o (wI h 102 22 x) := wgm (by decide) rfl (fun j hj => el_rowI _ hj)
theorem u102_25 {x : Int32} : va_up (WG V o h) 102 (.inr (10, ([.int (h.1 102 0), .int (h.1 102 1), .int (h.1 102 2), rf V 103, rf V 104, rf V 105, rf V 106, .int (h.1 102 7), .int (h.1 102 8), .int (h.1 102 9), .int (h.1 102 10), .int (h.1 102 11), rf V 107, rf V 108, rf V 109, rf V 110, rf V 111, rf V 112, rf V 113, rf V 114, .int (h.1 102 20), .int (h.1 102 21), .int (h.1 102 22), rf V 115, rf V 116, .int (h.1 102 25), rf V 117, rf V 118, .int (h.1 102 28), .int (h.1 102 29), rf V 119, rf V 120, rf V 121, .int (h.1 102 33), rf V 122, rf V 123, rf V 124, .int (h.1 102 37), .int (h.1 102 38), rf V 125, rf V 126, rf V 127, .int (h.1 102 42), .int (h.1 102 43), .int (h.1 102 44), .int (h.1 102 45), .int (h.1 102 46), .int (h.1 102 47), .int (h.1 102 48), .int (h.1 102 49), rf V 128, rf V 129, rf V 130, rf V 131, rf V 132, rf V 133, rf V 134, rf V 135, rf V 136, rf V 137, .int (h.1 102 60), rf V 138, rf V 139, rf V 140, rf V 141, rf V 142] : List Value).set 25 (.int x))) = WG V o (wI h 102 25 x) := wgm (by decide) rfl (fun j hj => el_rowI _ hj)
theorem u102_28 {x : Int32} : va_up (WG V o h) 102 (.inr (10, ([.int (h.1 102 0), .int (h.1 102 1), .int (h.1 102 2), rf V 103, rf V 104, rf V 105, rf V 106, .int (h.1 102 7), .int (h.1 102 8), .int (h.1 102 9), .int (h.1 102 10), .int (h.1 102 11), rf V 107, rf V 108, rf V 109, rf V 110, rf V 111, rf V 112, rf V 113, rf V 114, .int (h.1 102 20), .int (h.1 102 21), .int (h.1 102 22), rf V 115, rf V 116, .int (h.1 102 25), rf V 117, rf V 118, .int (h.1 102 28), .int (h.1 102 29), rf V 119, rf V 120, rf V 121, .int (h.1 102 33), rf V 122, rf V 123, rf V 124, .int (h.1 102 37), .int (h.1 102 38), rf V 125, rf V 126, rf V 127, .int (h.1 102 42), .int (h.1 102 43), .int (h.1 102 44), .int (h.1 102 45), .int (h.1 102 46), .int (h.1 102 47), .int (h.1 102 48), .int (h.1 102 49), rf V 128, rf V 129, rf V 130, rf V 131, rf V 132, rf V 133, rf V 134, rf V 135, rf V 136, rf V 137, .int (h.1 102 60), rf V 138, rf V 139, rf V 140, rf V 141, rf V 142] : List Value).set 28 (.int x))) = WG V o (wI h 102 28 x) := wgm (by decide) rfl (fun j hj => el_rowI _ hj)
theorem u102_29 {x : Int32} : va_up (WG V o h) 102 (.inr (10, ([.int (h.1 102 0), .int (h.1 102 1), .int (h.1 102 2), rf V 103, rf V 104, rf V 105, rf V 106, .int (h.1 102 7), .int (h.1 102 8), .int (h.1 102 9), .int (h.1 102 10), .int (h.1 102 11), rf V 107, rf V 108, rf V 109, rf V 110, rf V 111, rf V 112, rf V 113, rf V 114, .int (h.1 102 20), .int (h.1 102 21), .int (h.1 102 22), rf V 115, rf V 116, .int (h.1 102 25), rf V 117, rf V 118, .int (h.1 102 28), .int (h.1 102 29), rf V 119, rf V 120, rf V 121, .int (h.1 102 33), rf V 122, rf V 123, rf V 124, .int (h.1 102 37), .int (h.1 102 38), rf V 125, rf V 126, rf V 127, .int (h.1 102 42), .int (h.1 102 43), .int (h.1 102 44), .int (h.1 102 45), .int (h.1 102 46), .int (h.1 102 47), .int (h.1 102 48), .int (h.1 102 49), rf V 128, rf V 129, rf V 130, rf V 131, rf V 132, rf V 133, rf V 134, rf V 135, rf V 136, rf V 137, .int (h.1 102 60), rf V 138, rf V 139, rf V 140, rf V 141, rf V 142] : List Value).set 29 (.int x))) = WG V o (wI h 102 29 x) := wgm (by decide) rfl (fun j hj => el_rowI _ hj)
theorem u102_33 {x : Int32} : va_up (WG V o h) 102 (.inr (10, ([.int (h.1 102 0), .int (h.1 102 1), .int (h.1 102 2), rf V 103, rf V 104, rf V 105, rf V 106, .int (h.1 102 7), .int (h.1 102 8), .int (h.1 102 9), .int (h.1 102 10), .int (h.1 102 11), rf V 107, rf V 108, rf V 109, rf V 110, rf V 111, rf V 112, rf V 113, rf V 114, .int (h.1 102 20), .int (h.1 102 21), .int (h.1 102 22), rf V 115, rf V 116, .int (h.1 102 25), rf V 117, rf V 118, .int (h.1 102 28), .int (h.1 102 29), rf V 119, rf V 120, rf V 121, .int (h.1 102 33), rf V 122, rf V 123, rf V 124, .int (h.1 102 37), .int (h.1 102 38), rf V 125, rf V 126, rf V 127, .int (h.1 102 42), .int (h.1 102 43), .int (h.1 102 44), .int (h.1 102 45), .int (h.1 102 46), .int (h.1 102 47), .int (h.1 102 48), .int (h.1 102 49), rf V 128, rf V 129, rf V 130, rf V 131, rf V 132, rf V 133, rf V 134, rf V 135, rf V 136, rf V 137, .int (h.1 102 60), rf V 138, rf V 139, rf V 140, rf V 141, rf V 142] : List Value).set 33 (.int x))) = WG V o (wI h 102 33 x) := wgm (by decide) rfl (fun j hj => el_rowI _ hj)
theorem u102_37 {x : Int32} : va_up (WG V o h) 102 (.inr (10, ([.int (h.1 102 0), .int (h.1 102 1), .int (h.1 102 2), rf V 103, rf V 104, rf V 105, rf V 106, .int (h.1 102 7), .int (h.1 102 8), .int (h.1 102 9), .int (h.1 102 10), .int (h.1 102 11), rf V 107, rf V 108, rf V 109, rf V 110, rf V 111, rf V 112, rf V 113, rf V 114, .int (h.1 102 20), .int (h.1 102 21), .int (h.1 102 22), rf V 115, rf V 116, .int (h.1 102 25), rf V 117, rf V 118, .int (h.1 102 28), .int (h.1 102 29), rf V 119, rf V 120, rf V 121, .int (h.1 102 33), rf V 122, rf V 123, rf V 124, .int (h.1 102 37), .int (h.1 102 38), rf V 125, rf V 126, rf V 127, .int (h.1 102 42), .int (h.1 102 43), .int (h.1 102 44), .int (h.1 102 45), .int (h.1 102 46), .int (h.1 102 47), .int (h.1 102 48), .int (h.1 102 49), rf V 128, rf V 129, rf V 130, rf V 131, rf V 132, rf V 133, rf V 134, rf V 135, rf V 136, rf V 137, .int (h.1 102 60), rf V 138, rf V 139, rf V 140, rf V 141, rf V 142] : List Value).set 37 (.int x))) = WG V o (wI h 102 37 x) := wgm (by decide) rfl (fun j hj => el_rowI _ hj)
theorem u102_38 {x : Int32} : va_up (WG V o h) 102 (.inr (10, ([.int (h.1 102 0), .int (h.1 102 1), .int (h.1 102 2), rf V 103, rf V 104, rf V 105, rf V 106, .int (h.1 102 7), .int (h.1 102 8), .int (h.1 102 9), .int (h.1 102 10), .int (h.1 102 11), rf V 107, rf V 108, rf V 109, rf V 110, rf V 111, rf V 112, rf V 113, rf V 114, .int (h.1 102 20), .int (h.1 102 21), .int (h.1 102 22), rf V 115, rf V 116, .int (h.1 102 25), rf V 117, rf V 118, .int (h.1 102 28), .int (h.1 102 29), rf V 119, rf V 120, rf V 121, .int (h.1 102 33), rf V 122, rf V 123, rf V 124, .int (h.1 102 37), .int (h.1 102 38), rf V 125, rf V 126, rf V 127, .int (h.1 102 42), .int (h.1 102 43), .int (h.1 102 44), .int (h.1 102 45), .int (h.1 102 46), .int (h.1 102 47), .int (h.1 102 48), .int (h.1 102 49), rf V 128, rf V 129, rf V 130, rf V 131, rf V 132, rf V 133, rf V 134, rf V 135, rf V 136, rf V 137, .int (h.1 102 60), rf V 138, rf V 139, rf V 140, rf V 141, rf V 142] : List Value).set 38 (.int x))) = WG V o (wI h 102 38 x) := wgm (by decide) rfl (fun j hj => el_rowI _ hj)
theorem u102_42 {x : Int32} : va_up (WG V o h) 102 (.inr (10, ([.int (h.1 102 0), .int (h.1 102 1), .int (h.1 102 2), rf V 103, rf V 104, rf V 105, rf V 106, .int (h.1 102 7), .int (h.1 102 8), .int (h.1 102 9), .int (h.1 102 10), .int (h.1 102 11), rf V 107, rf V 108, rf V 109, rf V 110, rf V 111, rf V 112, rf V 113, rf V 114, .int (h.1 102 20), .int (h.1 102 21), .int (h.1 102 22), rf V 115, rf V 116, .int (h.1 102 25), rf V 117, rf V 118, .int (h.1 102 28), .int (h.1 102 29), rf V 119, rf V 120, rf V 121, .int (h.1 102 33), rf V 122, rf V 123, rf V 124, .int (h.1 102 37), .int (h.1 102 38), rf V 125, rf V 126, rf V 127, .int (h.1 102 42), .int (h.1 102 43), .int (h.1 102 44), .int (h.1 102 45), .int (h.1 102 46), .int (h.1 102 47), .int (h.1 102 48), .int (h.1 102 49), rf V 128, rf V 129, rf V 130, rf V 131, rf V 132, rf V 133, rf V 134, rf V 135, rf V 136, rf V 137, .int (h.1 102 60), rf V 138, rf V 139, rf V 140, rf V 141, rf V 142] : List Value).set 42 (.int x))) = WG V o (wI h 102 42 x) := wgm (by decide) rfl (fun j hj => el_rowI _ hj)
theorem u102_43 {x : Int32} : va_up (WG V o h) 102 (.inr (10, ([.int (h.1 102 0), .int (h.1 102 1), .int (h.1 102 2), rf V 103, rf V 104, rf V 105, rf V 106, .int (h.1 102 7), .int (h.1 102 8), .int (h.1 102 9), .int (h.1 102 10), .int (h.1 102 11), rf V 107, rf V 108, rf V 109, rf V 110, rf V 111, rf V 112, rf V 113, rf V 114, .int (h.1 102 20), .int (h.1 102 21), .int (h.1 102 22), rf V 115, rf V 116, .int (h.1 102 25), rf V 117, rf V 118, .int (h.1 102 28), .int (h.1 102 29), rf V 119, rf V 120, rf V 121, .int (h.1 102 33), rf V 122, rf V 123, rf V 124, .int (h.1 102 37), .int (h.1 102 38), rf V 125, rf V 126, rf V 127, .int (h.1 102 42), .int (h.1 102 43), .int (h.1 102 44), .int (h.1 102 45), .int (h.1 102 46), .int (h.1 102 47), .int (h.1 102 48), .int (h.1 102 49), rf V 128, rf V 129, rf V 130, rf V 131, rf V 132, rf V 133, rf V 134, rf V 135, rf V 136, rf V 137, .int (h.1 102 60), rf V 138, rf V 139, rf V 140, rf V 141, rf V 142] : List Value).set 43 (.int x))) = WG V o (wI h 102 43 x) := wgm (by decide) rfl (fun j hj => el_rowI _ hj)
theorem u102_44 {x : Int32} : va_up (WG V o h) 102 (.inr (10, ([.int (h.1 102 0), .int (h.1 102 1), .int (h.1 102 2), rf V 103, rf V 104, rf V 105, rf V 106, .int (h.1 102 7), .int (h.1 102 8), .int (h.1 102 9), .int (h.1 102 10), .int (h.1 102 11), rf V 107, rf V 108, rf V 109, rf V 110, rf V 111, rf V 112, rf V 113, rf V 114, .int (h.1 102 20), .int (h.1 102 21), .int (h.1 102 22), rf V 115, rf V 116, .int (h.1 102 25), rf V 117, rf V 118, .int (h.1 102 28), .int (h.1 102 29), rf V 119, rf V 120, rf V 121, .int (h.1 102 33), rf V 122, rf V 123, rf V 124, .int (h.1 102 37), .int (h.1 102 38), rf V 125, rf V 126, rf V 127, .int (h.1 102 42), .int (h.1 102 43), .int (h.1 102 44), .int (h.1 102 45), .int (h.1 102 46), .int (h.1 102 47), .int (h.1 102 48), .int (h.1 102 49), rf V 128, rf V 129, rf V 130, rf V 131, rf V 132, rf V 133, rf V 134, rf V 135, rf V 136, rf V 137, .int (h.1 102 60), rf V 138, rf V 139, rf V 140, rf V 141, rf V 142] : List Value).set 44 (.int x))) = WG V o (wI h 102 44 x) := wgm (by decide) rfl (fun j hj => el_rowI _ hj)
theorem u102_45 {x : Int32} : va_up (WG V o h) 102 (.inr (10, ([.int (h.1 102 0), .int (h.1 102 1), .int (h.1 102 2), rf V 103, rf V 104, rf V 105, rf V 106, .int (h.1 102 7), .int (h.1 102 8), .int (h.1 102 9), .int (h.1 102 10), .int (h.1 102 11), rf V 107, rf V 108, rf V 109, rf V 110, rf V 111, rf V 112, rf V 113, rf V 114, .int (h.1 102 20), .int (h.1 102 21), .int (h.1 102 22), rf V 115, rf V 116, .int (h.1 102 25), rf V 117, rf V 118, .int (h.1 102 28), .int (h.1 102 29), rf V 119, rf V 120, rf V 121, .int (h.1 102 33), rf V 122, rf V 123, rf V 124, .int (h.1 102 37), .int (h.1 102 38), rf V 125, rf V 126, rf V 127, .int (h.1 102 42), .int (h.1 102 43), .int (h.1 102 44), .int (h.1 102 45), .int (h.1 102 46), .int (h.1 102 47), .int (h.1 102 48), .int (h.1 102 49), rf V 128, rf V 129, rf V 130, rf V 131, rf V 132, rf V 133, rf V 134, rf V 135, rf V 136, rf V 137, .int (h.1 102 60), rf V 138, rf V 139, rf V 140, rf V 141, rf V 142] : List Value).set 45 (.int x))) = WG V o (wI h 102 45 x) := wgm (by decide) rfl (fun j hj => el_rowI _ hj)
theorem u102_46 {x : Int32} : va_up (WG V o h) 102 (.inr (10, ([.int (h.1 102 0), .int (h.1 102 1), .int (h.1 102 2), rf V 103, rf V 104, rf V 105, rf V 106, .int (h.1 102 7), .int (h.1 102 8), .int (h.1 102 9), .int (h.1 102 10), .int (h.1 102 11), rf V 107, rf V 108, rf V 109, rf V 110, rf V 111, rf V 112, rf V 113, rf V 114, .int (h.1 102 20), .int (h.1 102 21), .int (h.1 102 22), rf V 115, rf V 116, .int (h.1 102 25), rf V 117, rf V 118, .int (h.1 102 28), .int (h.1 102 29), rf V 119, rf V 120, rf V 121, .int (h.1 102 33), rf V 122, rf V 123, rf V 124, .int (h.1 102 37), .int (h.1 102 38), rf V 125, rf V 126, rf V 127, .int (h.1 102 42), .int (h.1 102 43), .int (h.1 102 44), .int (h.1 102 45), .int (h.1 102 46), .int (h.1 102 47), .int (h.1 102 48), .int (h.1 102 49), rf V 128, rf V 129, rf V 130, rf V 131, rf V 132, rf V 133, rf V 134, rf V 135, rf V 136, rf V 137, .int (h.1 102 60), rf V 138, rf V 139, rf V 140, rf V 141, rf V 142] : List Value).set 46 (.int x))) = WG V o (wI h 102 46 x) := wgm (by decide) rfl (fun j hj => el_rowI _ hj)
theorem u102_47 {x : Int32} : va_up (WG V o h) 102 (.inr (10, ([.int (h.1 102 0), .int (h.1 102 1), .int (h.1 102 2), rf V 103, rf V 104, rf V 105, rf V 106, .int (h.1 102 7), .int (h.1 102 8), .int (h.1 102 9), .int (h.1 102 10), .int (h.1 102 11), rf V 107, rf V 108, rf V 109, rf V 110, rf V 111, rf V 112, rf V 113, rf V 114, .int (h.1 102 20), .int (h.1 102 21), .int (h.1 102 22), rf V 115, rf V 116, .int (h.1 102 25), rf V 117, rf V 118, .int (h.1 102 28), .int (h.1 102 29), rf V 119, rf V 120, rf V 121, .int (h.1 102 33), rf V 122, rf V 123, rf V 124, .int (h.1 102 37), .int (h.1 102 38), rf V 125, rf V 126, rf V 127, .int (h.1 102 42), .int (h.1 102 43), .int (h.1 102 44), .int (h.1 102 45), .int (h.1 102 46), .int (h.1 102 47), .int (h.1 102 48), .int (h.1 102 49), rf V 128, rf V 129, rf V 130, rf V 131, rf V 132, rf V 133, rf V 134, rf V 135, rf V 136, rf V 137, .int (h.1 102 60), rf V 138, rf V 139, rf V 140, rf V 141, rf V 142] : List Value).set 47 (.int x))) = WG V o (wI h 102 47 x) := wgm (by decide) rfl (fun j hj => el_rowI _ hj)
theorem u102_48 {x : Int32} : va_up (WG V o h) 102 (.inr (10, ([.int (h.1 102 0), .int (h.1 102 1), .int (h.1 102 2), rf V 103, rf V 104, rf V 105, rf V 106, .int (h.1 102 7), .int (h.1 102 8), .int (h.1 102 9), .int (h.1 102 10), .int (h.1 102 11), rf V 107, rf V 108, rf V 109, rf V 110, rf V 111, rf V 112, rf V 113, rf V 114, .int (h.1 102 20), .int (h.1 102 21), .int (h.1 102 22), rf V 115, rf V 116, .int (h.1 102 25), rf V 117, rf V 118, .int (h.1 102 28), .int (h.1 102 29), rf V 119, rf V 120, rf V 121, .int (h.1 102 33), rf V 122, rf V 123, rf V 124, .int (h.1 102 37), .int (h.1 102 38), rf V 125, rf V 126, rf V 127, .int (h.1 102 42), .int (h.1 102 43), .int (h.1 102 44), .int (h.1 102 45), .int (h.1 102 46), .int (h.1 102 47), .int (h.1 102 48), .int (h.1 102 49), rf V 128, rf V 129, rf V 130, rf V 131, rf V 132, rf V 133, rf V 134, rf V 135, rf V 136, rf V 137, .int (h.1 102 60), rf V 138, rf V 139, rf V 140, rf V 141, rf V 142] : List Value).set 48 (.int x))) = WG V o (wI h 102 48 x) := wgm (by decide) rfl (fun j hj => el_rowI _ hj)
theorem u102_49 {x : Int32} : va_up (WG V o h) 102 (.inr (10, ([.int (h.1 102 0), .int (h.1 102 1), .int (h.1 102 2), rf V 103, rf V 104, rf V 105, rf V 106, .int (h.1 102 7), .int (h.1 102 8), .int (h.1 102 9), .int (h.1 102 10), .int (h.1 102 11), rf V 107, rf V 108, rf V 109, rf V 110, rf V 111, rf V 112, rf V 113, rf V 114, .int (h.1 102 20), .int (h.1 102 21), .int (h.1 102 22), rf V 115, rf V 116, .int (h.1 102 25), rf V 117, rf V 118, .int (h.1 102 28), .int (h.1 102 29), rf V 119, rf V 120, rf V 121, .int (h.1 102 33), rf V 122, rf V 123, rf V 124, .int (h.1 102 37), .int (h.1 102 38), rf V 125, rf V 126, rf V 127, .int (h.1 102 42), .int (h.1 102 43), .int (h.1 102 44), .int (h.1 102 45), .int (h.1 102 46), .int (h.1 102 47), .int (h.1 102 48), .int (h.1 102 49), rf V 128, rf V 129, rf V 130, rf V 131, rf V 132, rf V 133, rf V 134, rf V 135, rf V 136, rf V 137, .int (h.1 102 60), rf V 138, rf V 139, rf V 140, rf V 141, rf V 142] : List Value).set 49 (.int x))) = WG V o (wI h 102 49 x) := wgm (by decide) rfl (fun j hj => el_rowI _ hj)
theorem u102_60 {x : Int32} : va_up (WG V o h) 102 (.inr (10, ([.int (h.1 102 0), .int (h.1 102 1), .int (h.1 102 2), rf V 103, rf V 104, rf V 105, rf V 106, .int (h.1 102 7), .int (h.1 102 8), .int (h.1 102 9), .int (h.1 102 10), .int (h.1 102 11), rf V 107, rf V 108, rf V 109, rf V 110, rf V 111, rf V 112, rf V 113, rf V 114, .int (h.1 102 20), .int (h.1 102 21), .int (h.1 102 22), rf V 115, rf V 116, .int (h.1 102 25), rf V 117, rf V 118, .int (h.1 102 28), .int (h.1 102 29), rf V 119, rf V 120, rf V 121, .int (h.1 102 33), rf V 122, rf V 123, rf V 124, .int (h.1 102 37), .int (h.1 102 38), rf V 125, rf V 126, rf V 127, .int (h.1 102 42), .int (h.1 102 43), .int (h.1 102 44), .int (h.1 102 45), .int (h.1 102 46), .int (h.1 102 47), .int (h.1 102 48), .int (h.1 102 49), rf V 128, rf V 129, rf V 130, rf V 131, rf V 132, rf V 133, rf V 134, rf V 135, rf V 136, rf V 137, .int (h.1 102 60), rf V 138, rf V 139, rf V 140, rf V 141, rf V 142] : List Value).set 60 (.int x))) = WG V o (wI h 102 60 x) := wgm (by decide) rfl (fun j hj => el_rowI _ hj)
theorem g103 : WG V o h 103 = .inl (V.2.1 1, 6, .inl (h.1 103)) := wm_at (by decide) rfl
theorem u103 {i : Nat} {x : Int32} : va_up (WG V o h) 103 (.inl (V.2.1 1, 6, .inl (upd (h.1 103) i x))) = WG V o (wI h 103 i x) := wgm (by decide) rfl (fun j hj => el_rowI _ hj)
theorem uf103 {f : Nat → Int32} : va_up (WG V o h) 103 (.inl (V.2.1 1, 6, .inl f)) = WG V o (rowI h 103 f) := wgm (by decide) rfl (fun j hj => el_rowI _ hj)
theorem g104 : WG V o h 104 = .inl (V.2.1 1, 6, .inl (h.1 104)) := wm_at (by decide) rfl
theorem u104 {i : Nat} {x : Int32} : va_up (WG V o h) 104 (.inl (V.2.1 1, 6, .inl (upd (h.1 104) i x))) = WG V o (wI h 104 i x) := wgm (by decide) rfl (fun j hj => el_rowI _ hj)
theorem uf104 {f : Nat → Int32} : va_up (WG V o h) 104 (.inl (V.2.1 1, 6, .inl f)) = WG V o (rowI h 104 f) := wgm (by decide) rfl (fun j hj => el_rowI _ hj)
theorem g105 : WG V o h 105 = .inl (V.2.1 1, 6, .inl (h.1 105)) := wm_at (by decide) rfl
theorem u105 {i : Nat} {x : Int32} : va_up (WG V o h) 105 (.inl (V.2.1 1, 6, .inl (upd (h.1 105) i x))) = WG V o (wI h 105 i x) := wgm (by decide) rfl (fun j hj => el_rowI _ hj)
theorem uf105 {f : Nat → Int32} : va_up (WG V o h) 105 (.inl (V.2.1 1, 6, .inl f)) = WG V o (rowI h 105 f) := wgm (by decide) rfl (fun j hj => el_rowI _ hj)
theorem g106 : WG V o h 106 = .inl (V.2.1 1, 24, .inl (h.1 106)) := wm_at (by decide) rfl
theorem u106 {i : Nat} {x : Int32} : va_up (WG V o h) 106 (.inl (V.2.1 1, 24, .inl (upd (h.1 106) i x))) = WG V o (wI h 106 i x) := wgm (by decide) rfl (fun j hj => el_rowI _ hj)
theorem uf106 {f : Nat → Int32} : va_up (WG V o h) 106 (.inl (V.2.1 1, 24, .inl f)) = WG V o (rowI h 106 f) := wgm (by decide) rfl (fun j hj => el_rowI _ hj)
theorem g107 : WG V o h 107 = .inl (V.2.1 1, 100, .inl (h.1 107)) := wm_at (by decide) rfl
theorem u107 {i : Nat} {x : Int32} : va_up (WG V o h) 107 (.inl (V.2.1 1, 100, .inl (upd (h.1 107) i x))) = WG V o (wI h 107 i x) := wgm (by decide) rfl (fun j hj => el_rowI _ hj)
theorem uf107 {f : Nat → Int32} : va_up (WG V o h) 107 (.inl (V.2.1 1, 100, .inl f)) = WG V o (rowI h 107 f) := wgm (by decide) rfl (fun j hj => el_rowI _ hj)
theorem g108 : WG V o h 108 = .inl (V.2.1 1, 6, .inl (h.1 108)) := wm_at (by decide) rfl
theorem u108 {i : Nat} {x : Int32} : va_up (WG V o h) 108 (.inl (V.2.1 1, 6, .inl (upd (h.1 108) i x))) = WG V o (wI h 108 i x) := wgm (by decide) rfl (fun j hj => el_rowI _ hj)
theorem uf108 {f : Nat → Int32} : va_up (WG V o h) 108 (.inl (V.2.1 1, 6, .inl f)) = WG V o (rowI h 108 f) := wgm (by decide) rfl (fun j hj => el_rowI _ hj)
theorem g109 : WG V o h 109 = .inl (V.2.1 1, 60, .inl (h.1 109)) := wm_at (by decide) rfl
theorem u109 {i : Nat} {x : Int32} : va_up (WG V o h) 109 (.inl (V.2.1 1, 60, .inl (upd (h.1 109) i x))) = WG V o (wI h 109 i x) := wgm (by decide) rfl (fun j hj => el_rowI _ hj)
theorem uf109 {f : Nat → Int32} : va_up (WG V o h) 109 (.inl (V.2.1 1, 60, .inl f)) = WG V o (rowI h 109 f) := wgm (by decide) rfl (fun j hj => el_rowI _ hj)
theorem g110 : WG V o h 110 = .inl (V.2.1 1, 60, .inl (h.1 110)) := wm_at (by decide) rfl
theorem u110 {i : Nat} {x : Int32} : va_up (WG V o h) 110 (.inl (V.2.1 1, 60, .inl (upd (h.1 110) i x))) = WG V o (wI h 110 i x) := wgm (by decide) rfl (fun j hj => el_rowI _ hj)
theorem uf110 {f : Nat → Int32} : va_up (WG V o h) 110 (.inl (V.2.1 1, 60, .inl f)) = WG V o (rowI h 110 f) := wgm (by decide) rfl (fun j hj => el_rowI _ hj)
theorem g111 : WG V o h 111 = .inl (V.2.1 1, 60, .inl (h.1 111)) := wm_at (by decide) rfl
theorem u111 {i : Nat} {x : Int32} : va_up (WG V o h) 111 (.inl (V.2.1 1, 60, .inl (upd (h.1 111) i x))) = WG V o (wI h 111 i x) := wgm (by decide) rfl (fun j hj => el_rowI _ hj)
theorem uf111 {f : Nat → Int32} : va_up (WG V o h) 111 (.inl (V.2.1 1, 60, .inl f)) = WG V o (rowI h 111 f) := wgm (by decide) rfl (fun j hj => el_rowI _ hj)
theorem g112 : WG V o h 112 = .inl (V.2.1 1, 60, .inl (h.1 112)) := wm_at (by decide) rfl
theorem u112 {i : Nat} {x : Int32} : va_up (WG V o h) 112 (.inl (V.2.1 1, 60, .inl (upd (h.1 112) i x))) = WG V o (wI h 112 i x) := wgm (by decide) rfl (fun j hj => el_rowI _ hj)
theorem uf112 {f : Nat → Int32} : va_up (WG V o h) 112 (.inl (V.2.1 1, 60, .inl f)) = WG V o (rowI h 112 f) := wgm (by decide) rfl (fun j hj => el_rowI _ hj)
theorem g113 : WG V o h 113 = .inl (V.2.1 1, 600, .inl (h.1 113)) := wm_at (by decide) rfl
theorem u113 {i : Nat} {x : Int32} : va_up (WG V o h) 113 (.inl (V.2.1 1, 600, .inl (upd (h.1 113) i x))) = WG V o (wI h 113 i x) := wgm (by decide) rfl (fun j hj => el_rowI _ hj)
theorem uf113 {f : Nat → Int32} : va_up (WG V o h) 113 (.inl (V.2.1 1, 600, .inl f)) = WG V o (rowI h 113 f) := wgm (by decide) rfl (fun j hj => el_rowI _ hj)
theorem g114 : WG V o h 114 = .inl (V.2.1 1, 101, .inl (h.1 114)) := wm_at (by decide) rfl
theorem u114 {i : Nat} {x : Int32} : va_up (WG V o h) 114 (.inl (V.2.1 1, 101, .inl (upd (h.1 114) i x))) = WG V o (wI h 114 i x) := wgm (by decide) rfl (fun j hj => el_rowI _ hj)
theorem uf114 {f : Nat → Int32} : va_up (WG V o h) 114 (.inl (V.2.1 1, 101, .inl f)) = WG V o (rowI h 114 f) := wgm (by decide) rfl (fun j hj => el_rowI _ hj)
theorem g115 : WG V o h 115 = .inl (V.2.1 1, 12, .inl (h.1 115)) := wm_at (by decide) rfl
theorem u115 {i : Nat} {x : Int32} : va_up (WG V o h) 115 (.inl (V.2.1 1, 12, .inl (upd (h.1 115) i x))) = WG V o (wI h 115 i x) := wgm (by decide) rfl (fun j hj => el_rowI _ hj)
theorem uf115 {f : Nat → Int32} : va_up (WG V o h) 115 (.inl (V.2.1 1, 12, .inl f)) = WG V o (rowI h 115 f) := wgm (by decide) rfl (fun j hj => el_rowI _ hj)
theorem g116 : WG V o h 116 = .inl (V.2.1 3, 100, .inl (h.1 116)) := wm_at (by decide) rfl
theorem u116 {i : Nat} {x : Int32} : va_up (WG V o h) 116 (.inl (V.2.1 3, 100, .inl (upd (h.1 116) i x))) = WG V o (wI h 116 i x) := wgm (by decide) rfl (fun j hj => el_rowI _ hj)
theorem uf116 {f : Nat → Int32} : va_up (WG V o h) 116 (.inl (V.2.1 3, 100, .inl f)) = WG V o (rowI h 116 f) := wgm (by decide) rfl (fun j hj => el_rowI _ hj)
theorem g117 : WG V o h 117 = .inl (V.2.1 1, 4800, .inl (h.1 117)) := wm_at (by decide) rfl
theorem u117 {i : Nat} {x : Int32} : va_up (WG V o h) 117 (.inl (V.2.1 1, 4800, .inl (upd (h.1 117) i x))) = WG V o (wI h 117 i x) := wgm (by decide) rfl (fun j hj => el_rowI _ hj)
theorem uf117 {f : Nat → Int32} : va_up (WG V o h) 117 (.inl (V.2.1 1, 4800, .inl f)) = WG V o (rowI h 117 f) := wgm (by decide) rfl (fun j hj => el_rowI _ hj)
theorem g118 : WG V o h 118 = .inl (V.2.1 1, 6, .inl (h.1 118)) := wm_at (by decide) rfl
theorem u118 {i : Nat} {x : Int32} : va_up (WG V o h) 118 (.inl (V.2.1 1, 6, .inl (upd (h.1 118) i x))) = WG V o (wI h 118 i x) := wgm (by decide) rfl (fun j hj => el_rowI _ hj)
theorem uf118 {f : Nat → Int32} : va_up (WG V o h) 118 (.inl (V.2.1 1, 6, .inl f)) = WG V o (rowI h 118 f) := wgm (by decide) rfl (fun j hj => el_rowI _ hj)
theorem g119 : WG V o h 119 = .inl (V.2.1 1, 6, .inl (h.1 119)) := wm_at (by decide) rfl
theorem u119 {i : Nat} {x : Int32} : va_up (WG V o h) 119 (.inl (V.2.1 1, 6, .inl (upd (h.1 119) i x))) = WG V o (wI h 119 i x) := wgm (by decide) rfl (fun j hj => el_rowI _ hj)
theorem uf119 {f : Nat → Int32} : va_up (WG V o h) 119 (.inl (V.2.1 1, 6, .inl f)) = WG V o (rowI h 119 f) := wgm (by decide) rfl (fun j hj => el_rowI _ hj)
theorem g120 : WG V o h 120 = .inl (V.2.1 1, 6, .inl (h.1 120)) := wm_at (by decide) rfl
theorem u120 {i : Nat} {x : Int32} : va_up (WG V o h) 120 (.inl (V.2.1 1, 6, .inl (upd (h.1 120) i x))) = WG V o (wI h 120 i x) := wgm (by decide) rfl (fun j hj => el_rowI _ hj)
theorem uf120 {f : Nat → Int32} : va_up (WG V o h) 120 (.inl (V.2.1 1, 6, .inl f)) = WG V o (rowI h 120 f) := wgm (by decide) rfl (fun j hj => el_rowI _ hj)
theorem g121 : WG V o h 121 = .inl (V.2.1 1, 6, .inl (h.1 121)) := wm_at (by decide) rfl
theorem u121 {i : Nat} {x : Int32} : va_up (WG V o h) 121 (.inl (V.2.1 1, 6, .inl (upd (h.1 121) i x))) = WG V o (wI h 121 i x) := wgm (by decide) rfl (fun j hj => el_rowI _ hj)
theorem uf121 {f : Nat → Int32} : va_up (WG V o h) 121 (.inl (V.2.1 1, 6, .inl f)) = WG V o (rowI h 121 f) := wgm (by decide) rfl (fun j hj => el_rowI _ hj)
theorem g122 : WG V o h 122 = .inl (V.2.1 1, 5, .inl (h.1 122)) := wm_at (by decide) rfl
theorem u122 {i : Nat} {x : Int32} : va_up (WG V o h) 122 (.inl (V.2.1 1, 5, .inl (upd (h.1 122) i x))) = WG V o (wI h 122 i x) := wgm (by decide) rfl (fun j hj => el_rowI _ hj)
theorem uf122 {f : Nat → Int32} : va_up (WG V o h) 122 (.inl (V.2.1 1, 5, .inl f)) = WG V o (rowI h 122 f) := wgm (by decide) rfl (fun j hj => el_rowI _ hj)
theorem g123 : WG V o h 123 = .inl (V.2.1 1, 5, .inl (h.1 123)) := wm_at (by decide) rfl
theorem u123 {i : Nat} {x : Int32} : va_up (WG V o h) 123 (.inl (V.2.1 1, 5, .inl (upd (h.1 123) i x))) = WG V o (wI h 123 i x) := wgm (by decide) rfl (fun j hj => el_rowI _ hj)
theorem uf123 {f : Nat → Int32} : va_up (WG V o h) 123 (.inl (V.2.1 1, 5, .inl f)) = WG V o (rowI h 123 f) := wgm (by decide) rfl (fun j hj => el_rowI _ hj)
theorem g124 : WG V o h 124 = .inl (V.2.1 1, 5, .inl (h.1 124)) := wm_at (by decide) rfl
theorem u124 {i : Nat} {x : Int32} : va_up (WG V o h) 124 (.inl (V.2.1 1, 5, .inl (upd (h.1 124) i x))) = WG V o (wI h 124 i x) := wgm (by decide) rfl (fun j hj => el_rowI _ hj)
theorem uf124 {f : Nat → Int32} : va_up (WG V o h) 124 (.inl (V.2.1 1, 5, .inl f)) = WG V o (rowI h 124 f) := wgm (by decide) rfl (fun j hj => el_rowI _ hj)
theorem g125 : WG V o h 125 = .inl (V.2.1 1, 10, .inl (h.1 125)) := wm_at (by decide) rfl
theorem u125 {i : Nat} {x : Int32} : va_up (WG V o h) 125 (.inl (V.2.1 1, 10, .inl (upd (h.1 125) i x))) = WG V o (wI h 125 i x) := wgm (by decide) rfl (fun j hj => el_rowI _ hj)
theorem uf125 {f : Nat → Int32} : va_up (WG V o h) 125 (.inl (V.2.1 1, 10, .inl f)) = WG V o (rowI h 125 f) := wgm (by decide) rfl (fun j hj => el_rowI _ hj)
theorem g126 : WG V o h 126 = .inl (V.2.1 1, 8, .inl (h.1 126)) := wm_at (by decide) rfl
theorem u126 {i : Nat} {x : Int32} : va_up (WG V o h) 126 (.inl (V.2.1 1, 8, .inl (upd (h.1 126) i x))) = WG V o (wI h 126 i x) := wgm (by decide) rfl (fun j hj => el_rowI _ hj)
theorem uf126 {f : Nat → Int32} : va_up (WG V o h) 126 (.inl (V.2.1 1, 8, .inl f)) = WG V o (rowI h 126 f) := wgm (by decide) rfl (fun j hj => el_rowI _ hj)
theorem g127 : WG V o h 127 = .inl (V.2.1 1, 8, .inl (h.1 127)) := wm_at (by decide) rfl
theorem u127 {i : Nat} {x : Int32} : va_up (WG V o h) 127 (.inl (V.2.1 1, 8, .inl (upd (h.1 127) i x))) = WG V o (wI h 127 i x) := wgm (by decide) rfl (fun j hj => el_rowI _ hj)
theorem uf127 {f : Nat → Int32} : va_up (WG V o h) 127 (.inl (V.2.1 1, 8, .inl f)) = WG V o (rowI h 127 f) := wgm (by decide) rfl (fun j hj => el_rowI _ hj)
theorem g128 : WG V o h 128 = .inl (V.2.1 1, 6, .inl (h.1 128)) := wm_at (by decide) rfl
theorem u128 {i : Nat} {x : Int32} : va_up (WG V o h) 128 (.inl (V.2.1 1, 6, .inl (upd (h.1 128) i x))) = WG V o (wI h 128 i x) := wgm (by decide) rfl (fun j hj => el_rowI _ hj)
theorem uf128 {f : Nat → Int32} : va_up (WG V o h) 128 (.inl (V.2.1 1, 6, .inl f)) = WG V o (rowI h 128 f) := wgm (by decide) rfl (fun j hj => el_rowI _ hj)
theorem g129 : WG V o h 129 = .inl (V.2.1 1, 6, .inl (h.1 129)) := wm_at (by decide) rfl
theorem u129 {i : Nat} {x : Int32} : va_up (WG V o h) 129 (.inl (V.2.1 1, 6, .inl (upd (h.1 129) i x))) = WG V o (wI h 129 i x) := wgm (by decide) rfl (fun j hj => el_rowI _ hj)
theorem uf129 {f : Nat → Int32} : va_up (WG V o h) 129 (.inl (V.2.1 1, 6, .inl f)) = WG V o (rowI h 129 f) := wgm (by decide) rfl (fun j hj => el_rowI _ hj)
theorem g130 : WG V o h 130 = .inl (V.2.1 1, 6, .inl (h.1 130)) := wm_at (by decide) rfl
theorem u130 {i : Nat} {x : Int32} : va_up (WG V o h) 130 (.inl (V.2.1 1, 6, .inl (upd (h.1 130) i x))) = WG V o (wI h 130 i x) := wgm (by decide) rfl (fun j hj => el_rowI _ hj)
theorem uf130 {f : Nat → Int32} : va_up (WG V o h) 130 (.inl (V.2.1 1, 6, .inl f)) = WG V o (rowI h 130 f) := wgm (by decide) rfl (fun j hj => el_rowI _ hj)
theorem g131 : WG V o h 131 = .inl (V.2.1 1, 24, .inl (h.1 131)) := wm_at (by decide) rfl
theorem u131 {i : Nat} {x : Int32} : va_up (WG V o h) 131 (.inl (V.2.1 1, 24, .inl (upd (h.1 131) i x))) = WG V o (wI h 131 i x) := wgm (by decide) rfl (fun j hj => el_rowI _ hj)
theorem uf131 {f : Nat → Int32} : va_up (WG V o h) 131 (.inl (V.2.1 1, 24, .inl f)) = WG V o (rowI h 131 f) := wgm (by decide) rfl (fun j hj => el_rowI _ hj)
theorem g132 : WG V o h 132 = .inl (V.2.1 1, 5, .inl (h.1 132)) := wm_at (by decide) rfl
theorem u132 {i : Nat} {x : Int32} : va_up (WG V o h) 132 (.inl (V.2.1 1, 5, .inl (upd (h.1 132) i x))) = WG V o (wI h 132 i x) := wgm (by decide) rfl (fun j hj => el_rowI _ hj)
theorem uf132 {f : Nat → Int32} : va_up (WG V o h) 132 (.inl (V.2.1 1, 5, .inl f)) = WG V o (rowI h 132 f) := wgm (by decide) rfl (fun j hj => el_rowI _ hj)
theorem g133 : WG V o h 133 = .inl (V.2.1 1, 5, .inl (h.1 133)) := wm_at (by decide) rfl
theorem u133 {i : Nat} {x : Int32} : va_up (WG V o h) 133 (.inl (V.2.1 1, 5, .inl (upd (h.1 133) i x))) = WG V o (wI h 133 i x) := wgm (by decide) rfl (fun j hj => el_rowI _ hj)
theorem uf133 {f : Nat → Int32} : va_up (WG V o h) 133 (.inl (V.2.1 1, 5, .inl f)) = WG V o (rowI h 133 f) := wgm (by decide) rfl (fun j hj => el_rowI _ hj)
theorem g134 : WG V o h 134 = .inl (V.2.1 1, 5, .inl (h.1 134)) := wm_at (by decide) rfl
theorem u134 {i : Nat} {x : Int32} : va_up (WG V o h) 134 (.inl (V.2.1 1, 5, .inl (upd (h.1 134) i x))) = WG V o (wI h 134 i x) := wgm (by decide) rfl (fun j hj => el_rowI _ hj)
theorem uf134 {f : Nat → Int32} : va_up (WG V o h) 134 (.inl (V.2.1 1, 5, .inl f)) = WG V o (rowI h 134 f) := wgm (by decide) rfl (fun j hj => el_rowI _ hj)
theorem g135 : WG V o h 135 = .inl (V.2.1 1, 10, .inl (h.1 135)) := wm_at (by decide) rfl
theorem u135 {i : Nat} {x : Int32} : va_up (WG V o h) 135 (.inl (V.2.1 1, 10, .inl (upd (h.1 135) i x))) = WG V o (wI h 135 i x) := wgm (by decide) rfl (fun j hj => el_rowI _ hj)
theorem uf135 {f : Nat → Int32} : va_up (WG V o h) 135 (.inl (V.2.1 1, 10, .inl f)) = WG V o (rowI h 135 f) := wgm (by decide) rfl (fun j hj => el_rowI _ hj)
theorem g136 : WG V o h 136 = .inl (V.2.1 1, 8, .inl (h.1 136)) := wm_at (by decide) rfl
theorem u136 {i : Nat} {x : Int32} : va_up (WG V o h) 136 (.inl (V.2.1 1, 8, .inl (upd (h.1 136) i x))) = WG V o (wI h 136 i x) := wgm (by decide) rfl (fun j hj => el_rowI _ hj)
theorem uf136 {f : Nat → Int32} : va_up (WG V o h) 136 (.inl (V.2.1 1, 8, .inl f)) = WG V o (rowI h 136 f) := wgm (by decide) rfl (fun j hj => el_rowI _ hj)
theorem g137 : WG V o h 137 = .inl (V.2.1 1, 8, .inl (h.1 137)) := wm_at (by decide) rfl
theorem u137 {i : Nat} {x : Int32} : va_up (WG V o h) 137 (.inl (V.2.1 1, 8, .inl (upd (h.1 137) i x))) = WG V o (wI h 137 i x) := wgm (by decide) rfl (fun j hj => el_rowI _ hj)
theorem uf137 {f : Nat → Int32} : va_up (WG V o h) 137 (.inl (V.2.1 1, 8, .inl f)) = WG V o (rowI h 137 f) := wgm (by decide) rfl (fun j hj => el_rowI _ hj)
theorem g138 : WG V o h 138 = .inl (V.2.1 1, 20, .inl (h.1 138)) := wm_at (by decide) rfl
theorem u138 {i : Nat} {x : Int32} : va_up (WG V o h) 138 (.inl (V.2.1 1, 20, .inl (upd (h.1 138) i x))) = WG V o (wI h 138 i x) := wgm (by decide) rfl (fun j hj => el_rowI _ hj)
theorem uf138 {f : Nat → Int32} : va_up (WG V o h) 138 (.inl (V.2.1 1, 20, .inl f)) = WG V o (rowI h 138 f) := wgm (by decide) rfl (fun j hj => el_rowI _ hj)
theorem g139 : WG V o h 139 = .inl (V.2.1 1, 6, .inl (h.1 139)) := wm_at (by decide) rfl
theorem u139 {i : Nat} {x : Int32} : va_up (WG V o h) 139 (.inl (V.2.1 1, 6, .inl (upd (h.1 139) i x))) = WG V o (wI h 139 i x) := wgm (by decide) rfl (fun j hj => el_rowI _ hj)
theorem uf139 {f : Nat → Int32} : va_up (WG V o h) 139 (.inl (V.2.1 1, 6, .inl f)) = WG V o (rowI h 139 f) := wgm (by decide) rfl (fun j hj => el_rowI _ hj)
theorem g140 : WG V o h 140 = .inl (V.2.1 1, 6, .inl (h.1 140)) := wm_at (by decide) rfl
theorem u140 {i : Nat} {x : Int32} : va_up (WG V o h) 140 (.inl (V.2.1 1, 6, .inl (upd (h.1 140) i x))) = WG V o (wI h 140 i x) := wgm (by decide) rfl (fun j hj => el_rowI _ hj)
theorem uf140 {f : Nat → Int32} : va_up (WG V o h) 140 (.inl (V.2.1 1, 6, .inl f)) = WG V o (rowI h 140 f) := wgm (by decide) rfl (fun j hj => el_rowI _ hj)
theorem g141 : WG V o h 141 = .inl (V.2.1 2, 360, .inr (.inl (h.2.1 141))) := wm_at (by decide) rfl
theorem u141 {i : Nat} {x : Int64} : va_up (WG V o h) 141 (.inl (V.2.1 2, 360, .inr (.inl (vp_updL (h.2.1 141) i x)))) = WG V o (wL h 141 i x) := wgm (by decide) rfl (fun j hj => el_rowL _ hj)
theorem uf141 {f : Nat → Int64} : va_up (WG V o h) 141 (.inl (V.2.1 2, 360, .inr (.inl f))) = WG V o (rowL h 141 f) := wgm (by decide) rfl (fun j hj => el_rowL _ hj)
theorem g142 : WG V o h 142 = .inl (V.2.1 2, 60, .inr (.inl (h.2.1 142))) := wm_at (by decide) rfl
theorem u142 {i : Nat} {x : Int64} : va_up (WG V o h) 142 (.inl (V.2.1 2, 60, .inr (.inl (vp_updL (h.2.1 142) i x)))) = WG V o (wL h 142 i x) := wgm (by decide) rfl (fun j hj => el_rowL _ hj)
theorem uf142 {f : Nat → Int64} : va_up (WG V o h) 142 (.inl (V.2.1 2, 60, .inr (.inl f))) = WG V o (rowL h 142 f) := wgm (by decide) rfl (fun j hj => el_rowL _ hj)
def isCourse (k : Nat) : Bool := ([6, 21, 35, 42, 45, 48, 51, 54, 57, 60] : List Nat).contains k
theorem isCourse_or {k : Nat} (hk : isCourse k = true) : k = 6 ∨ k = 21 ∨ k = 35 ∨ k = 42 ∨ k = 45 ∨ k = 48 ∨ k = 51 ∨ k = 54 ∨ k = 57 ∨ k = 60 := by simpa [isCourse] using hk
theorem b_Course {k : Nat} (hk : isCourse k = true) : Nat.ble (k + 1) 143 = true := by rcases isCourse_or hk with rfl | rfl | rfl | rfl | rfl | rfl | rfl | rfl | rfl | rfl <;> rfl
theorem m_Course {k : Nat} (hk : isCourse k = true) : k < 102 := by rcases isCourse_or hk with rfl | rfl | rfl | rfl | rfl | rfl | rfl | rfl | rfl | rfl <;> decide
theorem e_Course {k : Nat} (hk : isCourse k = true) : el V h k = .inr (3, [.int (h.1 k 0), rf V (k + 1), rf V (k + 2)]) := by rcases isCourse_or hk with rfl | rfl | rfl | rfl | rfl | rfl | rfl | rfl | rfl | rfl <;> rfl
theorem g_Course {k : Nat} (hk : isCourse k = true) : WG V h o k = .inr (3, [.int (h.1 k 0), rf V (k + 1), rf V (k + 2)]) := wc_at (m_Course hk) (e_Course hk)
theorem u_Course_0 {k : Nat} {x : Int32} (hk : isCourse k = true) : va_up (WG V h o) k (.inr (3, ([.int (h.1 k 0), rf V (k + 1), rf V (k + 2)] : List Value).set 0 (.int x))) = WG V (wI h k 0 x) o := by
  refine wgc (m_Course hk) ((e_Course hk).trans ?_) (fun j hj => el_rowI _ hj)
  simp [wI, rowI, va_up, upd]
theorem b_Course_heard {k : Nat} (hk : isCourse k = true) : Nat.ble ((k + 1) + 1) 143 = true := by rcases isCourse_or hk with rfl | rfl | rfl | rfl | rfl | rfl | rfl | rfl | rfl | rfl <;> rfl
theorem m_Course_heard {k : Nat} (hk : isCourse k = true) : (k + 1) < 102 := by rcases isCourse_or hk with rfl | rfl | rfl | rfl | rfl | rfl | rfl | rfl | rfl | rfl <;> decide
theorem e_Course_heard {k : Nat} (hk : isCourse k = true) : el V h (k + 1) = .inl (V.2.1 1, 6, .inl (h.1 (k + 1))) := by rcases isCourse_or hk with rfl | rfl | rfl | rfl | rfl | rfl | rfl | rfl | rfl | rfl <;> rfl
theorem g_Course_heard {k : Nat} (hk : isCourse k = true) : WG V h o (k + 1) = .inl (V.2.1 1, 6, .inl (h.1 (k + 1))) := wc_at (m_Course_heard hk) (e_Course_heard hk)
theorem uf_Course_heard {k : Nat} {f : Nat → Int32} (hk : isCourse k = true) : va_up (WG V h o) (k + 1) (.inl (V.2.1 1, 6, .inl f)) = WG V (rowI h (k + 1) f) o := by
  refine wgc (m_Course_heard hk) ((e_Course_heard hk).trans ?_) (fun j hj => el_rowI _ hj)
  simp [rowI, va_up]
theorem u_Course_heard {k i : Nat} {x : Int32} (hk : isCourse k = true) : va_up (WG V h o) (k + 1) (.inl (V.2.1 1, 6, .inl (upd (h.1 (k + 1)) i x))) = WG V (wI h (k + 1) i x) o := uf_Course_heard hk
theorem b_Course_balks {k : Nat} (hk : isCourse k = true) : Nat.ble ((k + 2) + 1) 143 = true := by rcases isCourse_or hk with rfl | rfl | rfl | rfl | rfl | rfl | rfl | rfl | rfl | rfl <;> rfl
theorem m_Course_balks {k : Nat} (hk : isCourse k = true) : (k + 2) < 102 := by rcases isCourse_or hk with rfl | rfl | rfl | rfl | rfl | rfl | rfl | rfl | rfl | rfl <;> decide
theorem e_Course_balks {k : Nat} (hk : isCourse k = true) : el V h (k + 2) = .inl (V.2.1 3, 6, .inl (h.1 (k + 2))) := by rcases isCourse_or hk with rfl | rfl | rfl | rfl | rfl | rfl | rfl | rfl | rfl | rfl <;> rfl
theorem g_Course_balks {k : Nat} (hk : isCourse k = true) : WG V h o (k + 2) = .inl (V.2.1 3, 6, .inl (h.1 (k + 2))) := wc_at (m_Course_balks hk) (e_Course_balks hk)
theorem uf_Course_balks {k : Nat} {f : Nat → Int32} (hk : isCourse k = true) : va_up (WG V h o) (k + 2) (.inl (V.2.1 3, 6, .inl f)) = WG V (rowI h (k + 2) f) o := by
  refine wgc (m_Course_balks hk) ((e_Course_balks hk).trans ?_) (fun j hj => el_rowI _ hj)
  simp [rowI, va_up]
theorem u_Course_balks {k i : Nat} {x : Int32} (hk : isCourse k = true) : va_up (WG V h o) (k + 2) (.inl (V.2.1 3, 6, .inl (upd (h.1 (k + 2)) i x))) = WG V (wI h (k + 2) i x) o := uf_Course_balks hk
def isRows (k : Nat) : Bool := ([9, 11, 13, 24, 26, 28] : List Nat).contains k
theorem isRows_or {k : Nat} (hk : isRows k = true) : k = 9 ∨ k = 11 ∨ k = 13 ∨ k = 24 ∨ k = 26 ∨ k = 28 := by simpa [isRows] using hk
theorem b_Rows {k : Nat} (hk : isRows k = true) : Nat.ble (k + 1) 143 = true := by rcases isRows_or hk with rfl | rfl | rfl | rfl | rfl | rfl <;> rfl
theorem m_Rows {k : Nat} (hk : isRows k = true) : k < 102 := by rcases isRows_or hk with rfl | rfl | rfl | rfl | rfl | rfl <;> decide
theorem e_Rows {k : Nat} (hk : isRows k = true) : el V h k = .inr (6, [.int (h.1 k 0), rf V (k + 1), .int (h.1 k 2)]) := by rcases isRows_or hk with rfl | rfl | rfl | rfl | rfl | rfl <;> rfl
theorem g_Rows {k : Nat} (hk : isRows k = true) : WG V h o k = .inr (6, [.int (h.1 k 0), rf V (k + 1), .int (h.1 k 2)]) := wc_at (m_Rows hk) (e_Rows hk)
theorem u_Rows_0 {k : Nat} {x : Int32} (hk : isRows k = true) : va_up (WG V h o) k (.inr (6, ([.int (h.1 k 0), rf V (k + 1), .int (h.1 k 2)] : List Value).set 0 (.int x))) = WG V (wI h k 0 x) o := by
  refine wgc (m_Rows hk) ((e_Rows hk).trans ?_) (fun j hj => el_rowI _ hj)
  simp [wI, rowI, va_up, upd]
theorem b_Rows_cells {k : Nat} (hk : isRows k = true) : Nat.ble ((k + 1) + 1) 143 = true := by rcases isRows_or hk with rfl | rfl | rfl | rfl | rfl | rfl <;> rfl
theorem m_Rows_cells {k : Nat} (hk : isRows k = true) : (k + 1) < 102 := by rcases isRows_or hk with rfl | rfl | rfl | rfl | rfl | rfl <;> decide
theorem e_Rows_cells {k : Nat} (hk : isRows k = true) : el V h (k + 1) = .inl (V.2.1 1, lnA (k + 1), .inl (h.1 (k + 1))) := by rcases isRows_or hk with rfl | rfl | rfl | rfl | rfl | rfl <;> rfl
theorem g_Rows_cells {k : Nat} (hk : isRows k = true) : WG V h o (k + 1) = .inl (V.2.1 1, lnA (k + 1), .inl (h.1 (k + 1))) := wc_at (m_Rows_cells hk) (e_Rows_cells hk)
theorem uf_Rows_cells {k : Nat} {f : Nat → Int32} (hk : isRows k = true) : va_up (WG V h o) (k + 1) (.inl (V.2.1 1, lnA (k + 1), .inl f)) = WG V (rowI h (k + 1) f) o := by
  refine wgc (m_Rows_cells hk) ((e_Rows_cells hk).trans ?_) (fun j hj => el_rowI _ hj)
  simp [rowI, va_up]
theorem u_Rows_cells {k i : Nat} {x : Int32} (hk : isRows k = true) : va_up (WG V h o) (k + 1) (.inl (V.2.1 1, lnA (k + 1), .inl (upd (h.1 (k + 1)) i x))) = WG V (wI h (k + 1) i x) o := uf_Rows_cells hk
theorem u_Rows_2 {k : Nat} {x : Int32} (hk : isRows k = true) : va_up (WG V h o) k (.inr (6, ([.int (h.1 k 0), rf V (k + 1), .int (h.1 k 2)] : List Value).set 2 (.int x))) = WG V (wI h k 2 x) o := by
  refine wgc (m_Rows hk) ((e_Rows hk).trans ?_) (fun j hj => el_rowI _ hj)
  simp [wI, rowI, va_up, upd]
def isBench (k : Nat) : Bool := ([66, 70, 74, 78, 82, 86] : List Nat).contains k
theorem isBench_or {k : Nat} (hk : isBench k = true) : k = 66 ∨ k = 70 ∨ k = 74 ∨ k = 78 ∨ k = 82 ∨ k = 86 := by simpa [isBench] using hk
theorem b_Bench {k : Nat} (hk : isBench k = true) : Nat.ble (k + 1) 143 = true := by rcases isBench_or hk with rfl | rfl | rfl | rfl | rfl | rfl <;> rfl
theorem m_Bench {k : Nat} (hk : isBench k = true) : k < 102 := by rcases isBench_or hk with rfl | rfl | rfl | rfl | rfl | rfl <;> decide
theorem e_Bench {k : Nat} (hk : isBench k = true) : el V h k = .inr (2, [.int (h.1 k 0), .int (h.1 k 1), rf V (k + 1), rf V (k + 2), .int (h.1 k 4), rf V (k + 3)]) := by rcases isBench_or hk with rfl | rfl | rfl | rfl | rfl | rfl <;> rfl
theorem g_Bench {k : Nat} (hk : isBench k = true) : WG V h o k = .inr (2, [.int (h.1 k 0), .int (h.1 k 1), rf V (k + 1), rf V (k + 2), .int (h.1 k 4), rf V (k + 3)]) := wc_at (m_Bench hk) (e_Bench hk)
theorem u_Bench_0 {k : Nat} {x : Int32} (hk : isBench k = true) : va_up (WG V h o) k (.inr (2, ([.int (h.1 k 0), .int (h.1 k 1), rf V (k + 1), rf V (k + 2), .int (h.1 k 4), rf V (k + 3)] : List Value).set 0 (.int x))) = WG V (wI h k 0 x) o := by
  refine wgc (m_Bench hk) ((e_Bench hk).trans ?_) (fun j hj => el_rowI _ hj)
  simp [wI, rowI, va_up, upd]
theorem u_Bench_1 {k : Nat} {x : Int32} (hk : isBench k = true) : va_up (WG V h o) k (.inr (2, ([.int (h.1 k 0), .int (h.1 k 1), rf V (k + 1), rf V (k + 2), .int (h.1 k 4), rf V (k + 3)] : List Value).set 1 (.int x))) = WG V (wI h k 1 x) o := by
  refine wgc (m_Bench hk) ((e_Bench hk).trans ?_) (fun j hj => el_rowI _ hj)
  simp [wI, rowI, va_up, upd]
theorem b_Bench_weights {k : Nat} (hk : isBench k = true) : Nat.ble ((k + 1) + 1) 143 = true := by rcases isBench_or hk with rfl | rfl | rfl | rfl | rfl | rfl <;> rfl
theorem m_Bench_weights {k : Nat} (hk : isBench k = true) : (k + 1) < 102 := by rcases isBench_or hk with rfl | rfl | rfl | rfl | rfl | rfl <;> decide
theorem e_Bench_weights {k : Nat} (hk : isBench k = true) : el V h (k + 1) = .inl (V.2.1 1, 10, .inl (h.1 (k + 1))) := by rcases isBench_or hk with rfl | rfl | rfl | rfl | rfl | rfl <;> rfl
theorem g_Bench_weights {k : Nat} (hk : isBench k = true) : WG V h o (k + 1) = .inl (V.2.1 1, 10, .inl (h.1 (k + 1))) := wc_at (m_Bench_weights hk) (e_Bench_weights hk)
theorem uf_Bench_weights {k : Nat} {f : Nat → Int32} (hk : isBench k = true) : va_up (WG V h o) (k + 1) (.inl (V.2.1 1, 10, .inl f)) = WG V (rowI h (k + 1) f) o := by
  refine wgc (m_Bench_weights hk) ((e_Bench_weights hk).trans ?_) (fun j hj => el_rowI _ hj)
  simp [rowI, va_up]
theorem u_Bench_weights {k i : Nat} {x : Int32} (hk : isBench k = true) : va_up (WG V h o) (k + 1) (.inl (V.2.1 1, 10, .inl (upd (h.1 (k + 1)) i x))) = WG V (wI h (k + 1) i x) o := uf_Bench_weights hk
theorem b_Bench_ends {k : Nat} (hk : isBench k = true) : Nat.ble ((k + 2) + 1) 143 = true := by rcases isBench_or hk with rfl | rfl | rfl | rfl | rfl | rfl <;> rfl
theorem m_Bench_ends {k : Nat} (hk : isBench k = true) : (k + 2) < 102 := by rcases isBench_or hk with rfl | rfl | rfl | rfl | rfl | rfl <;> decide
theorem e_Bench_ends {k : Nat} (hk : isBench k = true) : el V h (k + 2) = .inl (V.2.1 1, 10, .inl (h.1 (k + 2))) := by rcases isBench_or hk with rfl | rfl | rfl | rfl | rfl | rfl <;> rfl
theorem g_Bench_ends {k : Nat} (hk : isBench k = true) : WG V h o (k + 2) = .inl (V.2.1 1, 10, .inl (h.1 (k + 2))) := wc_at (m_Bench_ends hk) (e_Bench_ends hk)
theorem uf_Bench_ends {k : Nat} {f : Nat → Int32} (hk : isBench k = true) : va_up (WG V h o) (k + 2) (.inl (V.2.1 1, 10, .inl f)) = WG V (rowI h (k + 2) f) o := by
  refine wgc (m_Bench_ends hk) ((e_Bench_ends hk).trans ?_) (fun j hj => el_rowI _ hj)
  simp [rowI, va_up]
theorem u_Bench_ends {k i : Nat} {x : Int32} (hk : isBench k = true) : va_up (WG V h o) (k + 2) (.inl (V.2.1 1, 10, .inl (upd (h.1 (k + 2)) i x))) = WG V (wI h (k + 2) i x) o := uf_Bench_ends hk
theorem u_Bench_4 {k : Nat} {x : Int32} (hk : isBench k = true) : va_up (WG V h o) k (.inr (2, ([.int (h.1 k 0), .int (h.1 k 1), rf V (k + 1), rf V (k + 2), .int (h.1 k 4), rf V (k + 3)] : List Value).set 4 (.int x))) = WG V (wI h k 4 x) o := by
  refine wgc (m_Bench hk) ((e_Bench hk).trans ?_) (fun j hj => el_rowI _ hj)
  simp [wI, rowI, va_up, upd]
theorem b_Bench_steps {k : Nat} (hk : isBench k = true) : Nat.ble ((k + 3) + 1) 143 = true := by rcases isBench_or hk with rfl | rfl | rfl | rfl | rfl | rfl <;> rfl
theorem m_Bench_steps {k : Nat} (hk : isBench k = true) : (k + 3) < 102 := by rcases isBench_or hk with rfl | rfl | rfl | rfl | rfl | rfl <;> decide
theorem e_Bench_steps {k : Nat} (hk : isBench k = true) : el V h (k + 3) = .inl (V.2.1 1, 100, .inl (h.1 (k + 3))) := by rcases isBench_or hk with rfl | rfl | rfl | rfl | rfl | rfl <;> rfl
theorem g_Bench_steps {k : Nat} (hk : isBench k = true) : WG V h o (k + 3) = .inl (V.2.1 1, 100, .inl (h.1 (k + 3))) := wc_at (m_Bench_steps hk) (e_Bench_steps hk)
theorem uf_Bench_steps {k : Nat} {f : Nat → Int32} (hk : isBench k = true) : va_up (WG V h o) (k + 3) (.inl (V.2.1 1, 100, .inl f)) = WG V (rowI h (k + 3) f) o := by
  refine wgc (m_Bench_steps hk) ((e_Bench_steps hk).trans ?_) (fun j hj => el_rowI _ hj)
  simp [rowI, va_up]
theorem u_Bench_steps {k i : Nat} {x : Int32} (hk : isBench k = true) : va_up (WG V h o) (k + 3) (.inl (V.2.1 1, 100, .inl (upd (h.1 (k + 3)) i x))) = WG V (wI h (k + 3) i x) o := uf_Bench_steps hk
def isTape (k : Nat) : Bool := ([90, 92, 94, 96, 98, 100] : List Nat).contains k
theorem isTape_or {k : Nat} (hk : isTape k = true) : k = 90 ∨ k = 92 ∨ k = 94 ∨ k = 96 ∨ k = 98 ∨ k = 100 := by simpa [isTape] using hk
theorem b_Tape {k : Nat} (hk : isTape k = true) : Nat.ble (k + 1) 143 = true := by rcases isTape_or hk with rfl | rfl | rfl | rfl | rfl | rfl <;> rfl
theorem m_Tape {k : Nat} (hk : isTape k = true) : k < 102 := by rcases isTape_or hk with rfl | rfl | rfl | rfl | rfl | rfl <;> decide
theorem e_Tape {k : Nat} (hk : isTape k = true) : el V h k = .inr (8, [.int (h.1 k 0), .int (h.1 k 1), rf V (k + 1)]) := by rcases isTape_or hk with rfl | rfl | rfl | rfl | rfl | rfl <;> rfl
theorem g_Tape {k : Nat} (hk : isTape k = true) : WG V h o k = .inr (8, [.int (h.1 k 0), .int (h.1 k 1), rf V (k + 1)]) := wc_at (m_Tape hk) (e_Tape hk)
theorem u_Tape_0 {k : Nat} {x : Int32} (hk : isTape k = true) : va_up (WG V h o) k (.inr (8, ([.int (h.1 k 0), .int (h.1 k 1), rf V (k + 1)] : List Value).set 0 (.int x))) = WG V (wI h k 0 x) o := by
  refine wgc (m_Tape hk) ((e_Tape hk).trans ?_) (fun j hj => el_rowI _ hj)
  simp [wI, rowI, va_up, upd]
theorem u_Tape_1 {k : Nat} {x : Int32} (hk : isTape k = true) : va_up (WG V h o) k (.inr (8, ([.int (h.1 k 0), .int (h.1 k 1), rf V (k + 1)] : List Value).set 1 (.int x))) = WG V (wI h k 1 x) o := by
  refine wgc (m_Tape hk) ((e_Tape hk).trans ?_) (fun j hj => el_rowI _ hj)
  simp [wI, rowI, va_up, upd]
theorem b_Tape_items {k : Nat} (hk : isTape k = true) : Nat.ble ((k + 1) + 1) 143 = true := by rcases isTape_or hk with rfl | rfl | rfl | rfl | rfl | rfl <;> rfl
theorem m_Tape_items {k : Nat} (hk : isTape k = true) : (k + 1) < 102 := by rcases isTape_or hk with rfl | rfl | rfl | rfl | rfl | rfl <;> decide
theorem e_Tape_items {k : Nat} (hk : isTape k = true) : el V h (k + 1) = .inl (V.2.1 2, 60, .inr (.inl (h.2.1 (k + 1)))) := by rcases isTape_or hk with rfl | rfl | rfl | rfl | rfl | rfl <;> rfl
theorem g_Tape_items {k : Nat} (hk : isTape k = true) : WG V h o (k + 1) = .inl (V.2.1 2, 60, .inr (.inl (h.2.1 (k + 1)))) := wc_at (m_Tape_items hk) (e_Tape_items hk)
theorem uf_Tape_items {k : Nat} {f : Nat → Int64} (hk : isTape k = true) : va_up (WG V h o) (k + 1) (.inl (V.2.1 2, 60, .inr (.inl f))) = WG V (rowL h (k + 1) f) o := by
  refine wgc (m_Tape_items hk) ((e_Tape_items hk).trans ?_) (fun j hj => el_rowL _ hj)
  simp [rowL, va_up]
theorem u_Tape_items {k i : Nat} {x : Int64} (hk : isTape k = true) : va_up (WG V h o) (k + 1) (.inl (V.2.1 2, 60, .inr (.inl (vp_updL (h.2.1 (k + 1)) i x)))) = WG V (wL h (k + 1) i x) o := uf_Tape_items hk
def isShop (k : Nat) : Bool := ([1, 16] : List Nat).contains k
theorem isShop_or {k : Nat} (hk : isShop k = true) : k = 1 ∨ k = 16 := by simpa [isShop] using hk
theorem b_Shop {k : Nat} (hk : isShop k = true) : Nat.ble (k + 1) 143 = true := by rcases isShop_or hk with rfl | rfl <;> rfl
theorem m_Shop {k : Nat} (hk : isShop k = true) : k < 102 := by rcases isShop_or hk with rfl | rfl <;> decide
theorem e_Shop {k : Nat} (hk : isShop k = true) : el V h k = .inr (7, [.int (h.1 k 0), rf V (k + 1), rf V (k + 2), rf V (k + 3), rf V (k + 4), rf V (k + 5), rf V (k + 8), rf V (k + 10), rf V (k + 12), rf V (k + 14), rq V (h.2.2 k 10)]) := by rcases isShop_or hk with rfl | rfl <;> rfl
theorem g_Shop {k : Nat} (hk : isShop k = true) : WG V h o k = .inr (7, [.int (h.1 k 0), rf V (k + 1), rf V (k + 2), rf V (k + 3), rf V (k + 4), rf V (k + 5), rf V (k + 8), rf V (k + 10), rf V (k + 12), rf V (k + 14), rq V (h.2.2 k 10)]) := wc_at (m_Shop hk) (e_Shop hk)
theorem u_Shop_0 {k : Nat} {x : Int32} (hk : isShop k = true) : va_up (WG V h o) k (.inr (7, ([.int (h.1 k 0), rf V (k + 1), rf V (k + 2), rf V (k + 3), rf V (k + 4), rf V (k + 5), rf V (k + 8), rf V (k + 10), rf V (k + 12), rf V (k + 14), rq V (h.2.2 k 10)] : List Value).set 0 (.int x))) = WG V (wI h k 0 x) o := by
  refine wgc (m_Shop hk) ((e_Shop hk).trans ?_) (fun j hj => el_rowI _ hj)
  simp [wI, rowI, va_up, upd]
theorem b_Shop_kinds {k : Nat} (hk : isShop k = true) : Nat.ble ((k + 1) + 1) 143 = true := by rcases isShop_or hk with rfl | rfl <;> rfl
theorem m_Shop_kinds {k : Nat} (hk : isShop k = true) : (k + 1) < 102 := by rcases isShop_or hk with rfl | rfl <;> decide
theorem e_Shop_kinds {k : Nat} (hk : isShop k = true) : el V h (k + 1) = .inl (V.2.1 1, 6, .inl (h.1 (k + 1))) := by rcases isShop_or hk with rfl | rfl <;> rfl
theorem g_Shop_kinds {k : Nat} (hk : isShop k = true) : WG V h o (k + 1) = .inl (V.2.1 1, 6, .inl (h.1 (k + 1))) := wc_at (m_Shop_kinds hk) (e_Shop_kinds hk)
theorem uf_Shop_kinds {k : Nat} {f : Nat → Int32} (hk : isShop k = true) : va_up (WG V h o) (k + 1) (.inl (V.2.1 1, 6, .inl f)) = WG V (rowI h (k + 1) f) o := by
  refine wgc (m_Shop_kinds hk) ((e_Shop_kinds hk).trans ?_) (fun j hj => el_rowI _ hj)
  simp [rowI, va_up]
theorem u_Shop_kinds {k i : Nat} {x : Int32} (hk : isShop k = true) : va_up (WG V h o) (k + 1) (.inl (V.2.1 1, 6, .inl (upd (h.1 (k + 1)) i x))) = WG V (wI h (k + 1) i x) o := uf_Shop_kinds hk
theorem b_Shop_values {k : Nat} (hk : isShop k = true) : Nat.ble ((k + 2) + 1) 143 = true := by rcases isShop_or hk with rfl | rfl <;> rfl
theorem m_Shop_values {k : Nat} (hk : isShop k = true) : (k + 2) < 102 := by rcases isShop_or hk with rfl | rfl <;> decide
theorem e_Shop_values {k : Nat} (hk : isShop k = true) : el V h (k + 2) = .inl (V.2.1 1, 6, .inl (h.1 (k + 2))) := by rcases isShop_or hk with rfl | rfl <;> rfl
theorem g_Shop_values {k : Nat} (hk : isShop k = true) : WG V h o (k + 2) = .inl (V.2.1 1, 6, .inl (h.1 (k + 2))) := wc_at (m_Shop_values hk) (e_Shop_values hk)
theorem uf_Shop_values {k : Nat} {f : Nat → Int32} (hk : isShop k = true) : va_up (WG V h o) (k + 2) (.inl (V.2.1 1, 6, .inl f)) = WG V (rowI h (k + 2) f) o := by
  refine wgc (m_Shop_values hk) ((e_Shop_values hk).trans ?_) (fun j hj => el_rowI _ hj)
  simp [rowI, va_up]
theorem u_Shop_values {k i : Nat} {x : Int32} (hk : isShop k = true) : va_up (WG V h o) (k + 2) (.inl (V.2.1 1, 6, .inl (upd (h.1 (k + 2)) i x))) = WG V (wI h (k + 2) i x) o := uf_Shop_values hk
theorem b_Shop_rows {k : Nat} (hk : isShop k = true) : Nat.ble ((k + 3) + 1) 143 = true := by rcases isShop_or hk with rfl | rfl <;> rfl
theorem m_Shop_rows {k : Nat} (hk : isShop k = true) : (k + 3) < 102 := by rcases isShop_or hk with rfl | rfl <;> decide
theorem e_Shop_rows {k : Nat} (hk : isShop k = true) : el V h (k + 3) = .inl (V.2.1 1, 24, .inl (h.1 (k + 3))) := by rcases isShop_or hk with rfl | rfl <;> rfl
theorem g_Shop_rows {k : Nat} (hk : isShop k = true) : WG V h o (k + 3) = .inl (V.2.1 1, 24, .inl (h.1 (k + 3))) := wc_at (m_Shop_rows hk) (e_Shop_rows hk)
theorem uf_Shop_rows {k : Nat} {f : Nat → Int32} (hk : isShop k = true) : va_up (WG V h o) (k + 3) (.inl (V.2.1 1, 24, .inl f)) = WG V (rowI h (k + 3) f) o := by
  refine wgc (m_Shop_rows hk) ((e_Shop_rows hk).trans ?_) (fun j hj => el_rowI _ hj)
  simp [rowI, va_up]
theorem u_Shop_rows {k i : Nat} {x : Int32} (hk : isShop k = true) : va_up (WG V h o) (k + 3) (.inl (V.2.1 1, 24, .inl (upd (h.1 (k + 3)) i x))) = WG V (wI h (k + 3) i x) o := uf_Shop_rows hk
theorem b_Shop_sums {k : Nat} (hk : isShop k = true) : Nat.ble ((k + 4) + 1) 143 = true := by rcases isShop_or hk with rfl | rfl <;> rfl
theorem m_Shop_sums {k : Nat} (hk : isShop k = true) : (k + 4) < 102 := by rcases isShop_or hk with rfl | rfl <;> decide
theorem e_Shop_sums {k : Nat} (hk : isShop k = true) : el V h (k + 4) = .inl (V.2.1 1, 606, .inl (h.1 (k + 4))) := by rcases isShop_or hk with rfl | rfl <;> rfl
theorem g_Shop_sums {k : Nat} (hk : isShop k = true) : WG V h o (k + 4) = .inl (V.2.1 1, 606, .inl (h.1 (k + 4))) := wc_at (m_Shop_sums hk) (e_Shop_sums hk)
theorem uf_Shop_sums {k : Nat} {f : Nat → Int32} (hk : isShop k = true) : va_up (WG V h o) (k + 4) (.inl (V.2.1 1, 606, .inl f)) = WG V (rowI h (k + 4) f) o := by
  refine wgc (m_Shop_sums hk) ((e_Shop_sums hk).trans ?_) (fun j hj => el_rowI _ hj)
  simp [rowI, va_up]
theorem u_Shop_sums {k i : Nat} {x : Int32} (hk : isShop k = true) : va_up (WG V h o) (k + 4) (.inl (V.2.1 1, 606, .inl (upd (h.1 (k + 4)) i x))) = WG V (wI h (k + 4) i x) o := uf_Shop_sums hk
theorem s_Shop_now {k : Nat} (hk : isShop k = true) : isCourse (k + 5) = true := by rcases isShop_or hk with rfl | rfl <;> rfl
theorem s_Shop_seen {k : Nat} (hk : isShop k = true) : isRows (k + 8) = true := by rcases isShop_or hk with rfl | rfl <;> rfl
theorem s_Shop_month {k : Nat} (hk : isShop k = true) : isRows (k + 10) = true := by rcases isShop_or hk with rfl | rfl <;> rfl
theorem s_Shop_book {k : Nat} (hk : isShop k = true) : isRows (k + 12) = true := by rcases isShop_or hk with rfl | rfl <;> rfl
theorem b_Shop_worth {k : Nat} (hk : isShop k = true) : Nat.ble ((k + 14) + 1) 143 = true := by rcases isShop_or hk with rfl | rfl <;> rfl
theorem m_Shop_worth {k : Nat} (hk : isShop k = true) : (k + 14) < 102 := by rcases isShop_or hk with rfl | rfl <;> decide
theorem e_Shop_worth {k : Nat} (hk : isShop k = true) : el V h (k + 14) = .inl (V.2.1 1, 6, .inl (h.1 (k + 14))) := by rcases isShop_or hk with rfl | rfl <;> rfl
theorem g_Shop_worth {k : Nat} (hk : isShop k = true) : WG V h o (k + 14) = .inl (V.2.1 1, 6, .inl (h.1 (k + 14))) := wc_at (m_Shop_worth hk) (e_Shop_worth hk)
theorem uf_Shop_worth {k : Nat} {f : Nat → Int32} (hk : isShop k = true) : va_up (WG V h o) (k + 14) (.inl (V.2.1 1, 6, .inl f)) = WG V (rowI h (k + 14) f) o := by
  refine wgc (m_Shop_worth hk) ((e_Shop_worth hk).trans ?_) (fun j hj => el_rowI _ hj)
  simp [rowI, va_up]
theorem u_Shop_worth {k i : Nat} {x : Int32} (hk : isShop k = true) : va_up (WG V h o) (k + 14) (.inl (V.2.1 1, 6, .inl (upd (h.1 (k + 14)) i x))) = WG V (wI h (k + 14) i x) o := uf_Shop_worth hk
theorem u_Shop_10 {k : Nat} {x : Option Nat} (hk : isShop k = true) : va_up (WG V h o) k (.inr (7, ([.int (h.1 k 0), rf V (k + 1), rf V (k + 2), rf V (k + 3), rf V (k + 4), rf V (k + 5), rf V (k + 8), rf V (k + 10), rf V (k + 12), rf V (k + 14), rq V (h.2.2 k 10)] : List Value).set 10 (rq V x))) = WG V (wR h k 10 x) o := by
  refine wgc (m_Shop hk) ((e_Shop hk).trans ?_) (fun j hj => el_wR _ hj)
  simp [wR, va_up]
theorem ra_Bench {i : Int32} (hi : inb i 6 = true) : isBench (66 + 4 * ix i) = true := by
  have h1 : ix i < 6 := by
    unfold inb at hi
    rw [Bool.and_eq_true, decide_eq_true_eq, decide_eq_true_eq] at hi
    show i.toInt.toNat < 6
    omega
  have h2 : ∀ j, j < 6 → isBench (66 + 4 * j) = true := by decide
  exact h2 _ h1
theorem ra_Course {i : Int32} (hi : inb i 7 = true) : isCourse (42 + 3 * ix i) = true := by
  have h1 : ix i < 7 := by
    unfold inb at hi
    rw [Bool.and_eq_true, decide_eq_true_eq, decide_eq_true_eq] at hi
    show i.toInt.toNat < 7
    omega
  have h2 : ∀ j, j < 7 → isCourse (42 + 3 * j) = true := by decide
  exact h2 _ h1
theorem ra_Tape {i : Int32} (hi : inb i 6 = true) : isTape (90 + 2 * ix i) = true := by
  have h1 : ix i < 6 := by
    unfold inb at hi
    rw [Bool.and_eq_true, decide_eq_true_eq, decide_eq_true_eq] at hi
    show i.toInt.toNat < 6
    omega
  have h2 : ∀ j, j < 6 → isTape (90 + 2 * j) = true := by decide
  exact h2 _ h1
end World
theorem kc0 : KCl 0 RX0 TX0 5 tyX0 := ⟨rfl, subTG _ [343, 345, 347, 349, 351] (by decide +kernel) (by decide +kernel), tyX0_ok, nmX0⟩
theorem kc1 : KCl 1 RX1 TX1 4 tyX1 := ⟨rfl, subTG _ [294, 296, 298, 300] (by decide +kernel) (by decide +kernel), tyX1_ok, nmX1⟩
theorem kc2 : KCl 2 RX2 TX2 6 tyX2 := ⟨rfl, subTG _ [369, 371, 373, 375, 377, 379] (by decide +kernel) (by decide +kernel), tyX2_ok, nmX2⟩
theorem kc3 : KCl 3 RX3 TX3 3 tyX3 := ⟨rfl, subTG _ [174, 176, 178] (by decide +kernel) (by decide +kernel), tyX3_ok, nmX3⟩
theorem kc4 : KCl 4 RX4 TX4 5 tyX4 := ⟨rfl, subTG _ [319, 321, 323, 325, 327] (by decide +kernel) (by decide +kernel), tyX4_ok, nmX4⟩
theorem kc5 : KCl 5 RX5 TX5 6 tyX5 := ⟨rfl, subTG _ [264, 266, 268, 270, 272, 274] (by decide +kernel) (by decide +kernel), tyX5_ok, nmX5⟩
theorem kc6 : KCl 6 RX6 TX6 3 tyX6 := ⟨rfl, subTG _ [194, 196, 198] (by decide +kernel) (by decide +kernel), tyX6_ok, nmX6⟩
theorem kc7 : KCl 7 RX7 TX7 11 tyX7 := ⟨rfl, subTG _ [227, 229, 231, 233, 235, 237, 239, 241, 243, 245, 247] (by decide +kernel) (by decide +kernel), tyX7_ok, nmX7⟩
theorem kc8 : KCl 8 RX8 TX8 3 tyX8 := ⟨rfl, subTG _ [392, 394, 396] (by decide +kernel) (by decide +kernel), tyX8_ok, nmX8⟩
theorem kc9 : KCl 9 RX9 TX9 10 tyX9 := ⟨rfl, subTG _ [410, 412, 414, 416, 418, 420, 422, 424, 426, 428] (by decide +kernel) (by decide +kernel), tyX9_ok, nmX9⟩
theorem kc10 : KCl 10 RX10 TX10 66 tyX10 := ⟨rfl, subTG _ [1074, 1076, 1078, 1080, 1082, 1084, 1086, 1088, 1090, 1092, 1094, 1096, 1098, 1100, 1102, 1104, 1106, 1108, 1110, 1112, 1114, 1116, 1118, 1120, 1122, 1124, 1126, 1128, 1130, 1132, 1134, 1136, 1138, 1140, 1142, 1144, 1146, 1148, 1150, 1152, 1154, 1156, 1158, 1160, 1162, 1164, 1166, 1168, 1170, 1172, 1174, 1176, 1178, 1180, 1182, 1184, 1186, 1188, 1190, 1192, 1194, 1196, 1198, 1200, 1202, 1204] (by decide +kernel) (by decide +kernel), tyX10_ok, nmX10⟩
theorem w_copy : Cond.native arraycopyName ∈ TG ∧ Cond.static arraycopyName ∈ TG ∧ Cond.initialized "java/lang/System" ∈ TG := ⟨inTG 783 (by decide +kernel) rfl, inTG 782 (by decide +kernel) rfl, inTG 139 (by decide +kernel) rfl⟩
theorem w_mmax : Cond.static Lib.Math.max.name ∈ TG ∧ Cond.initialized "java/lang/Math" ∈ TG ∧ Cond.code Lib.Math.max.name Lib.Math.max.code 2 (some .int) ∈ TG := ⟨inTG 458 (by decide +kernel) rfl, inTG 133 (by decide +kernel) rfl, inTG 459 (by decide +kernel) rfl⟩
theorem w_mmin : Cond.static Lib.Math.min.name ∈ TG ∧ Cond.initialized "java/lang/Math" ∈ TG ∧ Cond.code Lib.Math.min.name Lib.Math.min.code 2 (some .int) ∈ TG := ⟨inTG 675 (by decide +kernel) rfl, inTG 133 (by decide +kernel) rfl, inTG 676 (by decide +kernel) rfl⟩
theorem wf_X3_9 : Cond.fieldLink RX3 9 (TX3 0).1 (TX3 0).2.1 (TX3 0).2.2.1 ∈ TG := inTG 161 (by decide +kernel) rfl
theorem wf_X9_81 : Cond.fieldLinkNest RX9 81 (TX3 0).1 (TX3 0).2.1 (TX3 0).2.2.1 "ClocksTold" ∈ TN := inTN 162 (by decide +kernel) rfl
theorem wf_X7_73 : Cond.fieldLinkNest RX7 73 (TX3 0).1 (TX3 0).2.1 (TX3 0).2.2.1 "ClocksTold" ∈ TN := inTN 163 (by decide +kernel) rfl
theorem wf_X1_64 : Cond.fieldLinkNest RX1 64 (TX3 0).1 (TX3 0).2.1 (TX3 0).2.2.1 "ClocksTold" ∈ TN := inTN 164 (by decide +kernel) rfl
theorem wf_X3_15 : Cond.fieldLink RX3 15 (TX3 1).1 (TX3 1).2.1 (TX3 1).2.2.1 ∈ TG := inTG 165 (by decide +kernel) rfl
theorem wf_X7_70 : Cond.fieldLinkNest RX7 70 (TX3 1).1 (TX3 1).2.1 (TX3 1).2.2.1 "ClocksTold" ∈ TN := inTN 166 (by decide +kernel) rfl
theorem wf_X9_104 : Cond.fieldLinkNest RX9 104 (TX3 1).1 (TX3 1).2.1 (TX3 1).2.2.1 "ClocksTold" ∈ TN := inTN 167 (by decide +kernel) rfl
theorem wf_X1_49 : Cond.fieldLinkNest RX1 49 (TX3 1).1 (TX3 1).2.1 (TX3 1).2.2.1 "ClocksTold" ∈ TN := inTN 168 (by decide +kernel) rfl
theorem wf_X3_19 : Cond.fieldLink RX3 19 (TX3 2).1 (TX3 2).2.1 (TX3 2).2.2.1 ∈ TG := inTG 169 (by decide +kernel) rfl
theorem wf_X7_76 : Cond.fieldLinkNest RX7 76 (TX3 2).1 (TX3 2).2.1 (TX3 2).2.2.1 "ClocksTold" ∈ TN := inTN 170 (by decide +kernel) rfl
theorem wf_X9_107 : Cond.fieldLinkNest RX9 107 (TX3 2).1 (TX3 2).2.1 (TX3 2).2.2.1 "ClocksTold" ∈ TN := inTN 171 (by decide +kernel) rfl
theorem wf_X4_62 : Cond.fieldLinkNest RX4 62 (TX3 2).1 (TX3 2).2.1 (TX3 2).2.2.1 "ClocksTold" ∈ TN := inTN 172 (by decide +kernel) rfl
theorem wf_X1_53 : Cond.fieldLinkNest RX1 53 (TX3 2).1 (TX3 2).2.1 (TX3 2).2.2.1 "ClocksTold" ∈ TN := inTN 173 (by decide +kernel) rfl
theorem wf_X6_15 : Cond.fieldLink RX6 15 (TX6 0).1 (TX6 0).2.1 (TX6 0).2.2.1 ∈ TG := inTG 189 (by decide +kernel) rfl
theorem wf_X6_18 : Cond.fieldLink RX6 18 (TX6 1).1 (TX6 1).2.1 (TX6 1).2.2.1 ∈ TG := inTG 190 (by decide +kernel) rfl
theorem wf_X6_9 : Cond.fieldLink RX6 9 (TX6 2).1 (TX6 2).2.1 (TX6 2).2.2.1 ∈ TG := inTG 191 (by decide +kernel) rfl
theorem wf_X1_85 : Cond.fieldLinkNest RX1 85 (TX6 2).1 (TX6 2).2.1 (TX6 2).2.2.1 "ClocksTold" ∈ TN := inTN 192 (by decide +kernel) rfl
theorem wf_X9_229 : Cond.fieldLinkNest RX9 229 (TX6 2).1 (TX6 2).2.1 (TX6 2).2.2.1 "ClocksTold" ∈ TN := inTN 193 (by decide +kernel) rfl
theorem wf_X7_11 : Cond.fieldLink RX7 11 (TX7 0).1 (TX7 0).2.1 (TX7 0).2.2.1 ∈ TG := inTG 201 (by decide +kernel) rfl
theorem wf_X9_86 : Cond.fieldLinkNest RX9 86 (TX7 0).1 (TX7 0).2.1 (TX7 0).2.2.1 "ClocksTold" ∈ TN := inTN 202 (by decide +kernel) rfl
theorem wf_X4_47 : Cond.fieldLinkNest RX4 47 (TX7 0).1 (TX7 0).2.1 (TX7 0).2.2.1 "ClocksTold" ∈ TN := inTN 203 (by decide +kernel) rfl
theorem wf_X1_74 : Cond.fieldLinkNest RX1 74 (TX7 0).1 (TX7 0).2.1 (TX7 0).2.2.1 "ClocksTold" ∈ TN := inTN 204 (by decide +kernel) rfl
theorem wf_X7_15 : Cond.fieldLink RX7 15 (TX7 1).1 (TX7 1).2.1 (TX7 1).2.2.1 ∈ TG := inTG 205 (by decide +kernel) rfl
theorem wf_X9_97 : Cond.fieldLinkNest RX9 97 (TX7 1).1 (TX7 1).2.1 (TX7 1).2.2.1 "ClocksTold" ∈ TN := inTN 206 (by decide +kernel) rfl
theorem wf_X7_19 : Cond.fieldLink RX7 19 (TX7 2).1 (TX7 2).2.1 (TX7 2).2.2.1 ∈ TG := inTG 207 (by decide +kernel) rfl
theorem wf_X9_101 : Cond.fieldLinkNest RX9 101 (TX7 2).1 (TX7 2).2.1 (TX7 2).2.2.1 "ClocksTold" ∈ TN := inTN 208 (by decide +kernel) rfl
theorem wf_X1_107 : Cond.fieldLinkNest RX1 107 (TX7 2).1 (TX7 2).2.1 (TX7 2).2.2.1 "ClocksTold" ∈ TN := inTN 209 (by decide +kernel) rfl
theorem wf_X7_22 : Cond.fieldLink RX7 22 (TX7 3).1 (TX7 3).2.1 (TX7 3).2.2.1 ∈ TG := inTG 210 (by decide +kernel) rfl
theorem wf_X9_129 : Cond.fieldLinkNest RX9 129 (TX7 3).1 (TX7 3).2.1 (TX7 3).2.2.1 "ClocksTold" ∈ TN := inTN 211 (by decide +kernel) rfl
theorem wf_X7_25 : Cond.fieldLink RX7 25 (TX7 4).1 (TX7 4).2.1 (TX7 4).2.2.1 ∈ TG := inTG 212 (by decide +kernel) rfl
theorem wf_X7_31 : Cond.fieldLink RX7 31 (TX7 5).1 (TX7 5).2.1 (TX7 5).2.2.1 ∈ TG := inTG 213 (by decide +kernel) rfl
theorem wf_X1_29 : Cond.fieldLinkNest RX1 29 (TX7 5).1 (TX7 5).2.1 (TX7 5).2.2.1 "ClocksTold" ∈ TN := inTN 214 (by decide +kernel) rfl
theorem wf_X4_33 : Cond.fieldLinkNest RX4 33 (TX7 5).1 (TX7 5).2.1 (TX7 5).2.2.1 "ClocksTold" ∈ TN := inTN 215 (by decide +kernel) rfl
theorem wf_X9_77 : Cond.fieldLinkNest RX9 77 (TX7 5).1 (TX7 5).2.1 (TX7 5).2.2.1 "ClocksTold" ∈ TN := inTN 216 (by decide +kernel) rfl
theorem wf_X7_40 : Cond.fieldLink RX7 40 (TX7 6).1 (TX7 6).2.1 (TX7 6).2.2.1 ∈ TG := inTG 217 (by decide +kernel) rfl
theorem wf_X1_114 : Cond.fieldLinkNest RX1 114 (TX7 6).1 (TX7 6).2.1 (TX7 6).2.2.1 "ClocksTold" ∈ TN := inTN 218 (by decide +kernel) rfl
theorem wf_X9_187 : Cond.fieldLinkNest RX9 187 (TX7 6).1 (TX7 6).2.1 (TX7 6).2.2.1 "ClocksTold" ∈ TN := inTN 219 (by decide +kernel) rfl
theorem wf_X7_44 : Cond.fieldLink RX7 44 (TX7 7).1 (TX7 7).2.1 (TX7 7).2.2.1 ∈ TG := inTG 220 (by decide +kernel) rfl
theorem wf_X1_81 : Cond.fieldLinkNest RX1 81 (TX7 7).1 (TX7 7).2.1 (TX7 7).2.2.1 "ClocksTold" ∈ TN := inTN 221 (by decide +kernel) rfl
theorem wf_X9_220 : Cond.fieldLinkNest RX9 220 (TX7 7).1 (TX7 7).2.1 (TX7 7).2.2.1 "ClocksTold" ∈ TN := inTN 222 (by decide +kernel) rfl
theorem wf_X7_47 : Cond.fieldLink RX7 47 (TX7 8).1 (TX7 8).2.1 (TX7 8).2.2.1 ∈ TG := inTG 223 (by decide +kernel) rfl
theorem wf_X9_226 : Cond.fieldLinkNest RX9 226 (TX7 8).1 (TX7 8).2.1 (TX7 8).2.2.1 "ClocksTold" ∈ TN := inTN 224 (by decide +kernel) rfl
theorem wf_X7_50 : Cond.fieldLink RX7 50 (TX7 9).1 (TX7 9).2.1 (TX7 9).2.2.1 ∈ TG := inTG 225 (by decide +kernel) rfl
theorem wf_X7_53 : Cond.fieldLink RX7 53 (TX7 10).1 (TX7 10).2.1 (TX7 10).2.2.1 ∈ TG := inTG 226 (by decide +kernel) rfl
theorem wf_X5_9 : Cond.fieldLink RX5 9 (TX5 0).1 (TX5 0).2.1 (TX5 0).2.2.1 ∈ TG := inTG 256 (by decide +kernel) rfl
theorem wf_X5_13 : Cond.fieldLink RX5 13 (TX5 1).1 (TX5 1).2.1 (TX5 1).2.2.1 ∈ TG := inTG 257 (by decide +kernel) rfl
theorem wf_X9_136 : Cond.fieldLinkNest RX9 136 (TX5 1).1 (TX5 1).2.1 (TX5 1).2.2.1 "ClocksTold" ∈ TN := inTN 258 (by decide +kernel) rfl
theorem wf_X5_17 : Cond.fieldLink RX5 17 (TX5 2).1 (TX5 2).2.1 (TX5 2).2.2.1 ∈ TG := inTG 259 (by decide +kernel) rfl
theorem wf_X9_143 : Cond.fieldLinkNest RX9 143 (TX5 2).1 (TX5 2).2.1 (TX5 2).2.2.1 "ClocksTold" ∈ TN := inTN 260 (by decide +kernel) rfl
theorem wf_X5_20 : Cond.fieldLink RX5 20 (TX5 3).1 (TX5 3).2.1 (TX5 3).2.2.1 ∈ TG := inTG 261 (by decide +kernel) rfl
theorem wf_X5_23 : Cond.fieldLink RX5 23 (TX5 4).1 (TX5 4).2.1 (TX5 4).2.2.1 ∈ TG := inTG 262 (by decide +kernel) rfl
theorem wf_X5_27 : Cond.fieldLink RX5 27 (TX5 5).1 (TX5 5).2.1 (TX5 5).2.2.1 ∈ TG := inTG 263 (by decide +kernel) rfl
theorem wf_X1_25 : Cond.fieldLink RX1 25 (TX1 0).1 (TX1 0).2.1 (TX1 0).2.2.1 ∈ TG := inTG 288 (by decide +kernel) rfl
theorem wf_X1_12 : Cond.fieldLink RX1 12 (TX1 1).1 (TX1 1).2.1 (TX1 1).2.2.1 ∈ TG := inTG 289 (by decide +kernel) rfl
theorem wf_X1_18 : Cond.fieldLink RX1 18 (TX1 2).1 (TX1 2).2.1 (TX1 2).2.2.1 ∈ TG := inTG 290 (by decide +kernel) rfl
theorem wf_X9_202 : Cond.fieldLinkNest RX9 202 (TX1 2).1 (TX1 2).2.1 (TX1 2).2.2.1 "ClocksTold" ∈ TN := inTN 291 (by decide +kernel) rfl
theorem wf_X1_22 : Cond.fieldLink RX1 22 (TX1 3).1 (TX1 3).2.1 (TX1 3).2.2.1 ∈ TG := inTG 292 (by decide +kernel) rfl
theorem wf_X9_205 : Cond.fieldLinkNest RX9 205 (TX1 3).1 (TX1 3).2.1 (TX1 3).2.2.1 "ClocksTold" ∈ TN := inTN 293 (by decide +kernel) rfl
theorem wf_X4_28 : Cond.fieldLink RX4 28 (TX4 0).1 (TX4 0).2.1 (TX4 0).2.2.1 ∈ TG := inTG 312 (by decide +kernel) rfl
theorem wf_X4_11 : Cond.fieldLink RX4 11 (TX4 1).1 (TX4 1).2.1 (TX4 1).2.2.1 ∈ TG := inTG 313 (by decide +kernel) rfl
theorem wf_X4_17 : Cond.fieldLink RX4 17 (TX4 2).1 (TX4 2).2.1 (TX4 2).2.2.1 ∈ TG := inTG 314 (by decide +kernel) rfl
theorem wf_X4_21 : Cond.fieldLink RX4 21 (TX4 3).1 (TX4 3).2.1 (TX4 3).2.2.1 ∈ TG := inTG 315 (by decide +kernel) rfl
theorem wf_X9_177 : Cond.fieldLinkNest RX9 177 (TX4 3).1 (TX4 3).2.1 (TX4 3).2.2.1 "ClocksTold" ∈ TN := inTN 316 (by decide +kernel) rfl
theorem wf_X4_24 : Cond.fieldLink RX4 24 (TX4 4).1 (TX4 4).2.1 (TX4 4).2.2.1 ∈ TG := inTG 317 (by decide +kernel) rfl
theorem wf_X9_174 : Cond.fieldLinkNest RX9 174 (TX4 4).1 (TX4 4).2.1 (TX4 4).2.2.1 "ClocksTold" ∈ TN := inTN 318 (by decide +kernel) rfl
theorem wf_X0_11 : Cond.fieldLink RX0 11 (TX0 0).1 (TX0 0).2.1 (TX0 0).2.2.1 ∈ TG := inTG 336 (by decide +kernel) rfl
theorem wf_X9_263 : Cond.fieldLinkNest RX9 263 (TX0 0).1 (TX0 0).2.1 (TX0 0).2.2.1 "ClocksTold" ∈ TN := inTN 337 (by decide +kernel) rfl
theorem wf_X0_15 : Cond.fieldLink RX0 15 (TX0 1).1 (TX0 1).2.1 (TX0 1).2.2.1 ∈ TG := inTG 338 (by decide +kernel) rfl
theorem wf_X9_251 : Cond.fieldLinkNest RX9 251 (TX0 1).1 (TX0 1).2.1 (TX0 1).2.2.1 "ClocksTold" ∈ TN := inTN 339 (by decide +kernel) rfl
theorem wf_X0_19 : Cond.fieldLink RX0 19 (TX0 2).1 (TX0 2).2.1 (TX0 2).2.2.1 ∈ TG := inTG 340 (by decide +kernel) rfl
theorem wf_X0_22 : Cond.fieldLink RX0 22 (TX0 3).1 (TX0 3).2.1 (TX0 3).2.2.1 ∈ TG := inTG 341 (by decide +kernel) rfl
theorem wf_X0_25 : Cond.fieldLink RX0 25 (TX0 4).1 (TX0 4).2.1 (TX0 4).2.2.1 ∈ TG := inTG 342 (by decide +kernel) rfl
theorem wf_X2_9 : Cond.fieldLink RX2 9 (TX2 0).1 (TX2 0).2.1 (TX2 0).2.2.1 ∈ TG := inTG 361 (by decide +kernel) rfl
theorem wf_X7_85 : Cond.fieldLinkNest RX7 85 (TX2 0).1 (TX2 0).2.1 (TX2 0).2.2.1 "ClocksTold" ∈ TN := inTN 362 (by decide +kernel) rfl
theorem wf_X5_70 : Cond.fieldLinkNest RX5 70 (TX2 0).1 (TX2 0).2.1 (TX2 0).2.2.1 "ClocksTold" ∈ TN := inTN 363 (by decide +kernel) rfl
theorem wf_X2_13 : Cond.fieldLink RX2 13 (TX2 1).1 (TX2 1).2.1 (TX2 1).2.2.1 ∈ TG := inTG 364 (by decide +kernel) rfl
theorem wf_X2_16 : Cond.fieldLink RX2 16 (TX2 2).1 (TX2 2).2.1 (TX2 2).2.2.1 ∈ TG := inTG 365 (by decide +kernel) rfl
theorem wf_X2_20 : Cond.fieldLink RX2 20 (TX2 3).1 (TX2 3).2.1 (TX2 3).2.2.1 ∈ TG := inTG 366 (by decide +kernel) rfl
theorem wf_X2_23 : Cond.fieldLink RX2 23 (TX2 4).1 (TX2 4).2.1 (TX2 4).2.2.1 ∈ TG := inTG 367 (by decide +kernel) rfl
theorem wf_X2_26 : Cond.fieldLink RX2 26 (TX2 5).1 (TX2 5).2.1 (TX2 5).2.2.1 ∈ TG := inTG 368 (by decide +kernel) rfl
theorem wf_X8_9 : Cond.fieldLink RX8 9 (TX8 0).1 (TX8 0).2.1 (TX8 0).2.2.1 ∈ TG := inTG 387 (by decide +kernel) rfl
theorem wf_X9_238 : Cond.fieldLinkNest RX9 238 (TX8 0).1 (TX8 0).2.1 (TX8 0).2.2.1 "ClocksTold" ∈ TN := inTN 388 (by decide +kernel) rfl
theorem wf_X8_13 : Cond.fieldLink RX8 13 (TX8 1).1 (TX8 1).2.1 (TX8 1).2.2.1 ∈ TG := inTG 389 (by decide +kernel) rfl
theorem wf_X8_16 : Cond.fieldLink RX8 16 (TX8 2).1 (TX8 2).2.1 (TX8 2).2.2.1 ∈ TG := inTG 390 (by decide +kernel) rfl
theorem wf_X9_244 : Cond.fieldLinkNest RX9 244 (TX8 2).1 (TX8 2).2.1 (TX8 2).2.2.1 "ClocksTold" ∈ TN := inTN 391 (by decide +kernel) rfl
theorem wf_X9_12 : Cond.fieldLink RX9 12 (TX9 0).1 (TX9 0).2.1 (TX9 0).2.2.1 ∈ TG := inTG 400 (by decide +kernel) rfl
theorem wf_X9_18 : Cond.fieldLink RX9 18 (TX9 1).1 (TX9 1).2.1 (TX9 1).2.2.1 ∈ TG := inTG 401 (by decide +kernel) rfl
theorem wf_X9_21 : Cond.fieldLink RX9 21 (TX9 2).1 (TX9 2).2.1 (TX9 2).2.2.1 ∈ TG := inTG 402 (by decide +kernel) rfl
theorem wf_X9_28 : Cond.fieldLink RX9 28 (TX9 3).1 (TX9 3).2.1 (TX9 3).2.2.1 ∈ TG := inTG 403 (by decide +kernel) rfl
theorem wf_X9_34 : Cond.fieldLink RX9 34 (TX9 4).1 (TX9 4).2.1 (TX9 4).2.2.1 ∈ TG := inTG 404 (by decide +kernel) rfl
theorem wf_X9_38 : Cond.fieldLink RX9 38 (TX9 5).1 (TX9 5).2.1 (TX9 5).2.2.1 ∈ TG := inTG 405 (by decide +kernel) rfl
theorem wf_X9_47 : Cond.fieldLink RX9 47 (TX9 6).1 (TX9 6).2.1 (TX9 6).2.2.1 ∈ TG := inTG 406 (by decide +kernel) rfl
theorem wf_X9_54 : Cond.fieldLink RX9 54 (TX9 7).1 (TX9 7).2.1 (TX9 7).2.2.1 ∈ TG := inTG 407 (by decide +kernel) rfl
theorem wf_X9_61 : Cond.fieldLink RX9 61 (TX9 8).1 (TX9 8).2.1 (TX9 8).2.2.1 ∈ TG := inTG 408 (by decide +kernel) rfl
theorem wf_X9_67 : Cond.fieldLink RX9 67 (TX9 9).1 (TX9 9).2.1 (TX9 9).2.2.1 ∈ TG := inTG 409 (by decide +kernel) rfl
theorem wf_X0_43 : Cond.fieldLink RX0 43 RX0 "BODIES" "[I" ∈ TG := inTG 945 (by decide +kernel) rfl
theorem wf_X0_40 : Cond.fieldLinkNest RX0 40 RX9 "ABOVE" "[I" "ClocksTold" ∈ TN := inTN 947 (by decide +kernel) rfl
theorem wf_X9_287 : Cond.fieldLink RX9 287 RX9 "ABOVE" "[I" ∈ TG := inTG 965 (by decide +kernel) rfl
theorem wf_X10_7 : Cond.fieldLink RX10 7 (TX10 0).1 (TX10 0).2.1 (TX10 0).2.2.1 ∈ TG := inTG 1008 (by decide +kernel) rfl
theorem wf_X10_13 : Cond.fieldLink RX10 13 (TX10 1).1 (TX10 1).2.1 (TX10 1).2.2.1 ∈ TG := inTG 1009 (by decide +kernel) rfl
theorem wf_X10_16 : Cond.fieldLink RX10 16 (TX10 2).1 (TX10 2).2.1 (TX10 2).2.2.1 ∈ TG := inTG 1010 (by decide +kernel) rfl
theorem wf_X10_19 : Cond.fieldLink RX10 19 (TX10 3).1 (TX10 3).2.1 (TX10 3).2.2.1 ∈ TG := inTG 1011 (by decide +kernel) rfl
theorem wf_X10_23 : Cond.fieldLink RX10 23 (TX10 4).1 (TX10 4).2.1 (TX10 4).2.2.1 ∈ TG := inTG 1012 (by decide +kernel) rfl
theorem wf_X10_26 : Cond.fieldLink RX10 26 (TX10 5).1 (TX10 5).2.1 (TX10 5).2.2.1 ∈ TG := inTG 1013 (by decide +kernel) rfl
theorem wf_X10_29 : Cond.fieldLink RX10 29 (TX10 6).1 (TX10 6).2.1 (TX10 6).2.2.1 ∈ TG := inTG 1014 (by decide +kernel) rfl
theorem wf_X10_32 : Cond.fieldLink RX10 32 (TX10 7).1 (TX10 7).2.1 (TX10 7).2.2.1 ∈ TG := inTG 1015 (by decide +kernel) rfl
theorem wf_X10_35 : Cond.fieldLink RX10 35 (TX10 8).1 (TX10 8).2.1 (TX10 8).2.2.1 ∈ TG := inTG 1016 (by decide +kernel) rfl
theorem wf_X10_38 : Cond.fieldLink RX10 38 (TX10 9).1 (TX10 9).2.1 (TX10 9).2.2.1 ∈ TG := inTG 1017 (by decide +kernel) rfl
theorem wf_X10_41 : Cond.fieldLink RX10 41 (TX10 10).1 (TX10 10).2.1 (TX10 10).2.2.1 ∈ TG := inTG 1018 (by decide +kernel) rfl
theorem wf_X10_44 : Cond.fieldLink RX10 44 (TX10 11).1 (TX10 11).2.1 (TX10 11).2.2.1 ∈ TG := inTG 1019 (by decide +kernel) rfl
theorem wf_X10_47 : Cond.fieldLink RX10 47 (TX10 12).1 (TX10 12).2.1 (TX10 12).2.2.1 ∈ TG := inTG 1020 (by decide +kernel) rfl
theorem wf_X10_50 : Cond.fieldLink RX10 50 (TX10 13).1 (TX10 13).2.1 (TX10 13).2.2.1 ∈ TG := inTG 1021 (by decide +kernel) rfl
theorem wf_X10_53 : Cond.fieldLink RX10 53 (TX10 14).1 (TX10 14).2.1 (TX10 14).2.2.1 ∈ TG := inTG 1022 (by decide +kernel) rfl
theorem wf_X10_56 : Cond.fieldLink RX10 56 (TX10 15).1 (TX10 15).2.1 (TX10 15).2.2.1 ∈ TG := inTG 1023 (by decide +kernel) rfl
theorem wf_X10_59 : Cond.fieldLink RX10 59 (TX10 16).1 (TX10 16).2.1 (TX10 16).2.2.1 ∈ TG := inTG 1024 (by decide +kernel) rfl
theorem wf_X10_62 : Cond.fieldLink RX10 62 (TX10 17).1 (TX10 17).2.1 (TX10 17).2.2.1 ∈ TG := inTG 1025 (by decide +kernel) rfl
theorem wf_X10_65 : Cond.fieldLink RX10 65 (TX10 18).1 (TX10 18).2.1 (TX10 18).2.2.1 ∈ TG := inTG 1026 (by decide +kernel) rfl
theorem wf_X10_68 : Cond.fieldLink RX10 68 (TX10 19).1 (TX10 19).2.1 (TX10 19).2.2.1 ∈ TG := inTG 1027 (by decide +kernel) rfl
theorem wf_X10_71 : Cond.fieldLink RX10 71 (TX10 20).1 (TX10 20).2.1 (TX10 20).2.2.1 ∈ TG := inTG 1028 (by decide +kernel) rfl
theorem wf_X10_74 : Cond.fieldLink RX10 74 (TX10 21).1 (TX10 21).2.1 (TX10 21).2.2.1 ∈ TG := inTG 1029 (by decide +kernel) rfl
theorem wf_X10_77 : Cond.fieldLink RX10 77 (TX10 22).1 (TX10 22).2.1 (TX10 22).2.2.1 ∈ TG := inTG 1030 (by decide +kernel) rfl
theorem wf_X10_80 : Cond.fieldLink RX10 80 (TX10 23).1 (TX10 23).2.1 (TX10 23).2.2.1 ∈ TG := inTG 1031 (by decide +kernel) rfl
theorem wf_X10_83 : Cond.fieldLink RX10 83 (TX10 24).1 (TX10 24).2.1 (TX10 24).2.2.1 ∈ TG := inTG 1032 (by decide +kernel) rfl
theorem wf_X10_87 : Cond.fieldLink RX10 87 (TX10 25).1 (TX10 25).2.1 (TX10 25).2.2.1 ∈ TG := inTG 1033 (by decide +kernel) rfl
theorem wf_X10_91 : Cond.fieldLink RX10 91 (TX10 26).1 (TX10 26).2.1 (TX10 26).2.2.1 ∈ TG := inTG 1034 (by decide +kernel) rfl
theorem wf_X10_94 : Cond.fieldLink RX10 94 (TX10 27).1 (TX10 27).2.1 (TX10 27).2.2.1 ∈ TG := inTG 1035 (by decide +kernel) rfl
theorem wf_X10_97 : Cond.fieldLink RX10 97 (TX10 28).1 (TX10 28).2.1 (TX10 28).2.2.1 ∈ TG := inTG 1036 (by decide +kernel) rfl
theorem wf_X10_100 : Cond.fieldLink RX10 100 (TX10 29).1 (TX10 29).2.1 (TX10 29).2.2.1 ∈ TG := inTG 1037 (by decide +kernel) rfl
theorem wf_X10_103 : Cond.fieldLink RX10 103 (TX10 30).1 (TX10 30).2.1 (TX10 30).2.2.1 ∈ TG := inTG 1038 (by decide +kernel) rfl
theorem wf_X10_106 : Cond.fieldLink RX10 106 (TX10 31).1 (TX10 31).2.1 (TX10 31).2.2.1 ∈ TG := inTG 1039 (by decide +kernel) rfl
theorem wf_X10_109 : Cond.fieldLink RX10 109 (TX10 32).1 (TX10 32).2.1 (TX10 32).2.2.1 ∈ TG := inTG 1040 (by decide +kernel) rfl
theorem wf_X10_112 : Cond.fieldLink RX10 112 (TX10 33).1 (TX10 33).2.1 (TX10 33).2.2.1 ∈ TG := inTG 1041 (by decide +kernel) rfl
theorem wf_X10_115 : Cond.fieldLink RX10 115 (TX10 34).1 (TX10 34).2.1 (TX10 34).2.2.1 ∈ TG := inTG 1042 (by decide +kernel) rfl
theorem wf_X10_118 : Cond.fieldLink RX10 118 (TX10 35).1 (TX10 35).2.1 (TX10 35).2.2.1 ∈ TG := inTG 1043 (by decide +kernel) rfl
theorem wf_X10_121 : Cond.fieldLink RX10 121 (TX10 36).1 (TX10 36).2.1 (TX10 36).2.2.1 ∈ TG := inTG 1044 (by decide +kernel) rfl
theorem wf_X10_124 : Cond.fieldLink RX10 124 (TX10 37).1 (TX10 37).2.1 (TX10 37).2.2.1 ∈ TG := inTG 1045 (by decide +kernel) rfl
theorem wf_X10_127 : Cond.fieldLink RX10 127 (TX10 38).1 (TX10 38).2.1 (TX10 38).2.2.1 ∈ TG := inTG 1046 (by decide +kernel) rfl
theorem wf_X10_130 : Cond.fieldLink RX10 130 (TX10 39).1 (TX10 39).2.1 (TX10 39).2.2.1 ∈ TG := inTG 1047 (by decide +kernel) rfl
theorem wf_X10_133 : Cond.fieldLink RX10 133 (TX10 40).1 (TX10 40).2.1 (TX10 40).2.2.1 ∈ TG := inTG 1048 (by decide +kernel) rfl
theorem wf_X10_136 : Cond.fieldLink RX10 136 (TX10 41).1 (TX10 41).2.1 (TX10 41).2.2.1 ∈ TG := inTG 1049 (by decide +kernel) rfl
theorem wf_X10_139 : Cond.fieldLink RX10 139 (TX10 42).1 (TX10 42).2.1 (TX10 42).2.2.1 ∈ TG := inTG 1050 (by decide +kernel) rfl
theorem wf_X10_142 : Cond.fieldLink RX10 142 (TX10 43).1 (TX10 43).2.1 (TX10 43).2.2.1 ∈ TG := inTG 1051 (by decide +kernel) rfl
theorem wf_X10_145 : Cond.fieldLink RX10 145 (TX10 44).1 (TX10 44).2.1 (TX10 44).2.2.1 ∈ TG := inTG 1052 (by decide +kernel) rfl
theorem wf_X10_148 : Cond.fieldLink RX10 148 (TX10 45).1 (TX10 45).2.1 (TX10 45).2.2.1 ∈ TG := inTG 1053 (by decide +kernel) rfl
theorem wf_X10_151 : Cond.fieldLink RX10 151 (TX10 46).1 (TX10 46).2.1 (TX10 46).2.2.1 ∈ TG := inTG 1054 (by decide +kernel) rfl
theorem wf_X10_154 : Cond.fieldLink RX10 154 (TX10 47).1 (TX10 47).2.1 (TX10 47).2.2.1 ∈ TG := inTG 1055 (by decide +kernel) rfl
theorem wf_X10_157 : Cond.fieldLink RX10 157 (TX10 48).1 (TX10 48).2.1 (TX10 48).2.2.1 ∈ TG := inTG 1056 (by decide +kernel) rfl
theorem wf_X10_160 : Cond.fieldLink RX10 160 (TX10 49).1 (TX10 49).2.1 (TX10 49).2.2.1 ∈ TG := inTG 1057 (by decide +kernel) rfl
theorem wf_X10_163 : Cond.fieldLink RX10 163 (TX10 50).1 (TX10 50).2.1 (TX10 50).2.2.1 ∈ TG := inTG 1058 (by decide +kernel) rfl
theorem wf_X10_166 : Cond.fieldLink RX10 166 (TX10 51).1 (TX10 51).2.1 (TX10 51).2.2.1 ∈ TG := inTG 1059 (by decide +kernel) rfl
theorem wf_X10_169 : Cond.fieldLink RX10 169 (TX10 52).1 (TX10 52).2.1 (TX10 52).2.2.1 ∈ TG := inTG 1060 (by decide +kernel) rfl
theorem wf_X10_172 : Cond.fieldLink RX10 172 (TX10 53).1 (TX10 53).2.1 (TX10 53).2.2.1 ∈ TG := inTG 1061 (by decide +kernel) rfl
theorem wf_X10_175 : Cond.fieldLink RX10 175 (TX10 54).1 (TX10 54).2.1 (TX10 54).2.2.1 ∈ TG := inTG 1062 (by decide +kernel) rfl
theorem wf_X10_178 : Cond.fieldLink RX10 178 (TX10 55).1 (TX10 55).2.1 (TX10 55).2.2.1 ∈ TG := inTG 1063 (by decide +kernel) rfl
theorem wf_X10_181 : Cond.fieldLink RX10 181 (TX10 56).1 (TX10 56).2.1 (TX10 56).2.2.1 ∈ TG := inTG 1064 (by decide +kernel) rfl
theorem wf_X10_184 : Cond.fieldLink RX10 184 (TX10 57).1 (TX10 57).2.1 (TX10 57).2.2.1 ∈ TG := inTG 1065 (by decide +kernel) rfl
theorem wf_X10_187 : Cond.fieldLink RX10 187 (TX10 58).1 (TX10 58).2.1 (TX10 58).2.2.1 ∈ TG := inTG 1066 (by decide +kernel) rfl
theorem wf_X10_190 : Cond.fieldLink RX10 190 (TX10 59).1 (TX10 59).2.1 (TX10 59).2.2.1 ∈ TG := inTG 1067 (by decide +kernel) rfl
theorem wf_X10_193 : Cond.fieldLink RX10 193 (TX10 60).1 (TX10 60).2.1 (TX10 60).2.2.1 ∈ TG := inTG 1068 (by decide +kernel) rfl
theorem wf_X10_196 : Cond.fieldLink RX10 196 (TX10 61).1 (TX10 61).2.1 (TX10 61).2.2.1 ∈ TG := inTG 1069 (by decide +kernel) rfl
theorem wf_X10_199 : Cond.fieldLink RX10 199 (TX10 62).1 (TX10 62).2.1 (TX10 62).2.2.1 ∈ TG := inTG 1070 (by decide +kernel) rfl
theorem wf_X10_202 : Cond.fieldLink RX10 202 (TX10 63).1 (TX10 63).2.1 (TX10 63).2.2.1 ∈ TG := inTG 1071 (by decide +kernel) rfl
theorem wf_X10_205 : Cond.fieldLink RX10 205 (TX10 64).1 (TX10 64).2.1 (TX10 64).2.2.1 ∈ TG := inTG 1072 (by decide +kernel) rfl
theorem wf_X10_209 : Cond.fieldLink RX10 209 (TX10 65).1 (TX10 65).2.1 (TX10 65).2.2.1 ∈ TG := inTG 1073 (by decide +kernel) rfl
theorem wm_L_9 : Cond.methodLink RL 9 yX9_init ∈ TG := inTG 143 (by decide +kernel) rfl
theorem wm_X9_3 : Cond.methodLink RX9 3 Jvm.Lib.objectInit ∈ TG := inTG 146 (by decide +kernel) rfl
theorem wm_X9_11 : Cond.methodLinkNest RX9 11 yX7_init "ClocksTold" ∈ TN := inTN 151 (by decide +kernel) rfl
theorem wm_X7_5 : Cond.methodLink RX7 5 Jvm.Lib.objectInit ∈ TG := inTG 154 (by decide +kernel) rfl
theorem wm_X7_30 : Cond.methodLinkNest RX7 30 yX3_init "ClocksTold" ∈ TN := inTN 157 (by decide +kernel) rfl
theorem wm_X3_3 : Cond.methodLink RX3 3 Jvm.Lib.objectInit ∈ TG := inTG 160 (by decide +kernel) rfl
theorem wm_X7_37 : Cond.methodLinkNest RX7 37 yX6_init "ClocksTold" ∈ TN := inTN 185 (by decide +kernel) rfl
theorem wm_X6_3 : Cond.methodLink RX6 3 Jvm.Lib.objectInit ∈ TG := inTG 188 (by decide +kernel) rfl
theorem wm_X9_27 : Cond.methodLinkNest RX9 27 yX5_init "ClocksTold" ∈ TN := inTN 252 (by decide +kernel) rfl
theorem wm_X5_1 : Cond.methodLink RX5 1 Jvm.Lib.objectInit ∈ TG := inTG 255 (by decide +kernel) rfl
theorem wm_X9_44 : Cond.methodLinkNest RX9 44 yX1_init "ClocksTold" ∈ TN := inTN 282 (by decide +kernel) rfl
theorem wm_X1_3 : Cond.methodLink RX1 3 Jvm.Lib.objectInit ∈ TG := inTG 285 (by decide +kernel) rfl
theorem wm_X1_11 : Cond.methodLinkNest RX1 11 yX3_init "ClocksTold" ∈ TN := inTN 287 (by decide +kernel) rfl
theorem wm_X9_53 : Cond.methodLinkNest RX9 53 yX4_init "ClocksTold" ∈ TN := inTN 305 (by decide +kernel) rfl
theorem wm_X4_3 : Cond.methodLink RX4 3 Jvm.Lib.objectInit ∈ TG := inTG 308 (by decide +kernel) rfl
theorem wm_X4_32 : Cond.methodLinkNest RX4 32 yX3_init "ClocksTold" ∈ TN := inTN 311 (by decide +kernel) rfl
theorem wm_X9_60 : Cond.methodLinkNest RX9 60 yX0_init "ClocksTold" ∈ TN := inTN 332 (by decide +kernel) rfl
theorem wm_X0_3 : Cond.methodLink RX0 3 Jvm.Lib.objectInit ∈ TG := inTG 335 (by decide +kernel) rfl
theorem wm_X9_71 : Cond.methodLinkNest RX9 71 yX2_init "ClocksTold" ∈ TN := inTN 357 (by decide +kernel) rfl
theorem wm_X2_1 : Cond.methodLink RX2 1 Jvm.Lib.objectInit ∈ TG := inTG 360 (by decide +kernel) rfl
theorem wm_X9_72 : Cond.methodLinkNest RX9 72 yX8_init "ClocksTold" ∈ TN := inTN 383 (by decide +kernel) rfl
theorem wm_X8_1 : Cond.methodLink RX8 1 Jvm.Lib.objectInit ∈ TG := inTG 386 (by decide +kernel) rfl
theorem wm_L_13 : Cond.methodLink RL 13 yX9_clock ∈ TG := inTG 431 (by decide +kernel) rfl
theorem wm_X9_73 : Cond.methodLink RX9 73 yX9_within ∈ TG := inTG 435 (by decide +kernel) rfl
theorem wm_X9_89 : Cond.methodLinkNest RX9 89 yX7_enter "ClocksTold" ∈ TN := inTN 438 (by decide +kernel) rfl
theorem wm_X7_80 : Cond.methodLink RX7 80 yX7_learn ∈ TG := inTG 442 (by decide +kernel) rfl
theorem wm_X7_88 : Cond.methodLinkNest RX7 88 yX2_newsBy "ClocksTold" ∈ TN := inTN 446 (by decide +kernel) rfl
theorem wm_X2_29 : Cond.methodLink RX2 29 yX2_isTrue ∈ TG := inTG 450 (by decide +kernel) rfl
theorem wm_X2_39 : Cond.methodLink RX2 39 yX2_passes ∈ TG := inTG 454 (by decide +kernel) rfl
theorem wm_X2_33 : Cond.methodLink RX2 33 Lib.Math.max.name ∈ TG := inTG 457 (by decide +kernel) rfl
theorem wm_L_18 : Cond.methodLink RL 18 yX9_of ∈ TG := inTG 460 (by decide +kernel) rfl
theorem wm_X9_93 : Cond.methodLink RX9 93 yX9_isClock ∈ TG := inTG 464 (by decide +kernel) rfl
theorem wm_X9_111 : Cond.methodLinkNest RX9 111 yX7_leftOf "ClocksTold" ∈ TN := inTN 468 (by decide +kernel) rfl
theorem wm_X7_92 : Cond.methodLink RX7 92 yX7_newsAhead ∈ TG := inTG 472 (by decide +kernel) rfl
theorem wm_X9_115 : Cond.methodLinkNest RX9 115 yX7_holds "ClocksTold" ∈ TN := inTN 476 (by decide +kernel) rfl
theorem wm_X7_104 : Cond.methodLink RX7 104 yX7_pace ∈ TG := inTG 480 (by decide +kernel) rfl
theorem wm_X7_107 : Cond.methodLink RX7 107 Lib.Math.max.name ∈ TG := inTG 484 (by decide +kernel) rfl
theorem wm_X9_119 : Cond.methodLinkNest RX9 119 yX1_minded "ClocksTold" ∈ TN := inTN 485 (by decide +kernel) rfl
theorem wm_X1_67 : Cond.methodLinkNest RX1 67 yX7_minds "ClocksTold" ∈ TN := inTN 489 (by decide +kernel) rfl
theorem wm_X7_112 : Cond.methodLink RX7 112 yX7_newsOf ∈ TG := inTG 493 (by decide +kernel) rfl
theorem wm_X9_123 : Cond.methodLinkNest RX9 123 yX1_whole "ClocksTold" ∈ TN := inTN 497 (by decide +kernel) rfl
theorem wm_X1_42 : Cond.methodLink RX1 42 yX1_begin ∈ TG := inTG 501 (by decide +kernel) rfl
theorem wm_X1_34 : Cond.methodLinkNest RX1 34 yX3_copyFrom "ClocksTold" ∈ TN := inTN 505 (by decide +kernel) rfl
theorem wm_X1_60 : Cond.methodLinkNest RX1 60 yX3_isUp "ClocksTold" ∈ TN := inTN 509 (by decide +kernel) rfl
theorem wm_X1_38 : Cond.methodLinkNest RX1 38 yX7_evening "ClocksTold" ∈ TN := inTN 513 (by decide +kernel) rfl
theorem wm_X7_115 : Cond.methodLink RX7 115 yX7_holds ∈ TG := inTG 517 (by decide +kernel) rfl
theorem wm_X7_118 : Cond.methodLink RX7 118 yX7_minds ∈ TG := inTG 518 (by decide +kernel) rfl
theorem wm_X7_122 : Cond.methodLink RX7 122 yX7_night ∈ TG := inTG 519 (by decide +kernel) rfl
theorem wm_X7_100 : Cond.methodLinkNest RX7 100 yX3_isUp "ClocksTold" ∈ TN := inTN 523 (by decide +kernel) rfl
theorem wm_L_23 : Cond.methodLink RL 23 yX9_news ∈ TG := inTG 524 (by decide +kernel) rfl
theorem wm_X9_126 : Cond.methodLinkNest RX9 126 yX7_newsOf "ClocksTold" ∈ TN := inTN 528 (by decide +kernel) rfl
theorem wm_L_27 : Cond.methodLink RL 27 yX9_set ∈ TG := inTG 529 (by decide +kernel) rfl
theorem wm_L_31 : Cond.methodLink RL 31 yX9_balk ∈ TG := inTG 533 (by decide +kernel) rfl
theorem wm_L_36 : Cond.methodLink RL 36 yX9_row ∈ TG := inTG 537 (by decide +kernel) rfl
theorem wm_L_40 : Cond.methodLink RL 40 yX9_feed ∈ TG := inTG 541 (by decide +kernel) rfl
theorem wm_X9_132 : Cond.methodLinkNest RX9 132 yX5_take "ClocksTold" ∈ TN := inTN 545 (by decide +kernel) rfl
theorem wm_L_45 : Cond.methodLink RL 45 yX9_bench ∈ TG := inTG 549 (by decide +kernel) rfl
theorem wm_X9_139 : Cond.methodLinkNest RX9 139 yX5_readInto "ClocksTold" ∈ TN := inTN 553 (by decide +kernel) rfl
theorem wm_X5_31 : Cond.methodLinkNest RX5 31 yX2_clear "ClocksTold" ∈ TN := inTN 557 (by decide +kernel) rfl
theorem wm_X5_36 : Cond.methodLink RX5 36 yX5_step ∈ TG := inTG 561 (by decide +kernel) rfl
theorem wm_X5_39 : Cond.methodLink RX5 39 yX5_clause ∈ TG := inTG 565 (by decide +kernel) rfl
theorem wm_X5_57 : Cond.methodLink RX5 57 yX5_word ∈ TG := inTG 570 (by decide +kernel) rfl
theorem wm_X5_42 : Cond.methodLink RX5 42 ⟨"java/lang/String", "length", "()I"⟩ ∈ TG := inTG 574 (by decide +kernel) rfl
theorem wm_X5_47 : Cond.methodLink RX5 47 ⟨"java/lang/String", "charAt", "(I)C"⟩ ∈ TG := inTG 584 (by decide +kernel) rfl
theorem wm_X5_51 : Cond.methodLink RX5 51 yX5_need ∈ TG := inTG 622 (by decide +kernel) rfl
theorem wm_X5_61 : Cond.methodLink RX5 61 yX5_number ∈ TG := inTG 626 (by decide +kernel) rfl
theorem wm_X5_83 : Cond.methodLink RX5 83 yX5_isDigit ∈ TG := inTG 630 (by decide +kernel) rfl
theorem wm_X5_64 : Cond.methodLink RX5 64 Lib.Math.max.name ∈ TG := inTG 634 (by decide +kernel) rfl
theorem wm_X5_76 : Cond.methodLink RX5 76 yX5_either ∈ TG := inTG 637 (by decide +kernel) rfl
theorem wm_X5_87 : Cond.methodLink RX5 87 yX5_both ∈ TG := inTG 641 (by decide +kernel) rfl
theorem wm_X5_93 : Cond.methodLink RX5 93 yX5_factor ∈ TG := inTG 645 (by decide +kernel) rfl
theorem wm_X5_90 : Cond.methodLinkNest RX5 90 yX2_addStep "ClocksTold" ∈ TN := inTN 649 (by decide +kernel) rfl
theorem wm_X5_98 : Cond.methodLink RX5 98 yX5_choice ∈ TG := inTG 654 (by decide +kernel) rfl
theorem wm_X5_108 : Cond.methodLink RX5 108 ⟨"java/lang/String", "indexOf", "(I)I"⟩ ∈ TG := inTG 658 (by decide +kernel) rfl
theorem wm_X5_104 : Cond.methodLinkNest RX5 104 yX2_testStep "ClocksTold" ∈ TN := inTN 716 (by decide +kernel) rfl
theorem wm_X5_80 : Cond.methodLinkNest RX5 80 yX2_addClause "ClocksTold" ∈ TN := inTN 719 (by decide +kernel) rfl
theorem wm_X9_146 : Cond.methodLinkNest RX9 146 yX7_hold "ClocksTold" ∈ TN := inTN 723 (by decide +kernel) rfl
theorem wm_L_50 : Cond.methodLink RL 50 yX9_told ∈ TG := inTG 727 (by decide +kernel) rfl
theorem wm_X9_150 : Cond.methodLinkNest RX9 150 yX7_pace "ClocksTold" ∈ TN := inTN 731 (by decide +kernel) rfl
theorem wm_X9_154 : Cond.methodLinkNest RX9 154 yX7_howManyUp "ClocksTold" ∈ TN := inTN 732 (by decide +kernel) rfl
theorem wm_X9_158 : Cond.methodLinkNest RX9 158 yX7_leftOfAll "ClocksTold" ∈ TN := inTN 736 (by decide +kernel) rfl
theorem wm_X7_96 : Cond.methodLink RX7 96 yX7_leftOf ∈ TG := inTG 740 (by decide +kernel) rfl
theorem wm_L_54 : Cond.methodLink RL 54 yX9_tell ∈ TG := inTG 741 (by decide +kernel) rfl
theorem wm_X9_161 : Cond.methodLinkNest RX9 161 yX7_evening "ClocksTold" ∈ TN := inTN 745 (by decide +kernel) rfl
theorem wm_L_58 : Cond.methodLink RL 58 yX9_pass ∈ TG := inTG 746 (by decide +kernel) rfl
theorem wm_X9_164 : Cond.methodLinkNest RX9 164 yX7_night "ClocksTold" ∈ TN := inTN 750 (by decide +kernel) rfl
theorem wm_L_62 : Cond.methodLink RL 62 yX9_on ∈ TG := inTG 751 (by decide +kernel) rfl
theorem wm_X9_168 : Cond.methodLinkNest RX9 168 yX1_behind "ClocksTold" ∈ TN := inTN 755 (by decide +kernel) rfl
theorem wm_X1_45 : Cond.methodLink RX1 45 yX1_tellOften ∈ TG := inTG 759 (by decide +kernel) rfl
theorem wm_X1_57 : Cond.methodLinkNest RX1 57 yX7_leftOf "ClocksTold" ∈ TN := inTN 763 (by decide +kernel) rfl
theorem wm_L_66 : Cond.methodLink RL 66 yX9_soonest ∈ TG := inTG 764 (by decide +kernel) rfl
theorem wm_X9_171 : Cond.methodLinkNest RX9 171 yX4_findOrder "ClocksTold" ∈ TN := inTN 768 (by decide +kernel) rfl
theorem wm_X4_39 : Cond.methodLinkNest RX4 39 yX3_copyFrom "ClocksTold" ∈ TN := inTN 772 (by decide +kernel) rfl
theorem wm_X4_43 : Cond.methodLink RX4 43 yX4_tryOrders ∈ TG := inTG 773 (by decide +kernel) rfl
theorem wm_X4_50 : Cond.methodLink RX4 50 yX4_keep ∈ TG := inTG 777 (by decide +kernel) rfl
theorem wm_X4_77 : Cond.methodLink RX4 77 arraycopyName ∈ TG := inTG 781 (by decide +kernel) rfl
theorem wm_X4_54 : Cond.methodLink RX4 54 yX4_turn ∈ TG := inTG 784 (by decide +kernel) rfl
theorem wm_X4_58 : Cond.methodLinkNest RX4 58 yX3_isUp "ClocksTold" ∈ TN := inTN 788 (by decide +kernel) rfl
theorem wm_X4_66 : Cond.methodLinkNest RX4 66 yX7_evening "ClocksTold" ∈ TN := inTN 789 (by decide +kernel) rfl
theorem wm_L_70 : Cond.methodLink RL 70 yX9_most ∈ TG := inTG 790 (by decide +kernel) rfl
theorem wm_X9_180 : Cond.methodLinkNest RX9 180 yX4_findRow "ClocksTold" ∈ TN := inTN 794 (by decide +kernel) rfl
theorem wm_X4_69 : Cond.methodLink RX4 69 yX4_tryRows ∈ TG := inTG 798 (by decide +kernel) rfl
theorem wm_X4_73 : Cond.methodLinkNest RX4 73 yX7_howManyUp "ClocksTold" ∈ TN := inTN 802 (by decide +kernel) rfl
theorem wm_L_74 : Cond.methodLink RL 74 yX9_next ∈ TG := inTG 803 (by decide +kernel) rfl
theorem wm_X9_184 : Cond.methodLinkNest RX9 184 yX1_bestNext "ClocksTold" ∈ TN := inTN 807 (by decide +kernel) rfl
theorem wm_X1_77 : Cond.methodLinkNest RX1 77 yX7_leftOfAll "ClocksTold" ∈ TN := inTN 812 (by decide +kernel) rfl
theorem wm_L_78 : Cond.methodLink RL 78 yX9_see ∈ TG := inTG 813 (by decide +kernel) rfl
theorem wm_X9_191 : Cond.methodLinkNest RX9 191 yX6_empty "ClocksTold" ∈ TN := inTN 817 (by decide +kernel) rfl
theorem wm_X9_196 : Cond.methodLinkNest RX9 196 yX6_put "ClocksTold" ∈ TN := inTN 821 (by decide +kernel) rfl
theorem wm_L_82 : Cond.methodLink RL 82 yX9_since ∈ TG := inTG 825 (by decide +kernel) rfl
theorem wm_X9_199 : Cond.methodLinkNest RX9 199 yX1_weighDays "ClocksTold" ∈ TN := inTN 829 (by decide +kernel) rfl
theorem wm_X1_100 : Cond.methodLink RX1 100 yX1_weighNothing ∈ TG := inTG 833 (by decide +kernel) rfl
theorem wm_X1_103 : Cond.methodLink RX1 103 yX1_weigh ∈ TG := inTG 837 (by decide +kernel) rfl
theorem wm_X1_90 : Cond.methodLinkNest RX1 90 yX6_cell "ClocksTold" ∈ TN := inTN 841 (by decide +kernel) rfl
theorem wm_X1_117 : Cond.methodLink RX1 117 yX1_isSo ∈ TG := inTG 845 (by decide +kernel) rfl
theorem wm_L_86 : Cond.methodLink RL 86 yX9_can ∈ TG := inTG 849 (by decide +kernel) rfl
theorem wm_X9_208 : Cond.methodLinkNest RX9 208 yX1_weighValues "ClocksTold" ∈ TN := inTN 853 (by decide +kernel) rfl
theorem wm_X1_110 : Cond.methodLinkNest RX1 110 yX7_learn "ClocksTold" ∈ TN := inTN 857 (by decide +kernel) rfl
theorem wm_L_90 : Cond.methodLink RL 90 yX9_odds ∈ TG := inTG 858 (by decide +kernel) rfl
theorem wm_X9_213 : Cond.methodLinkNest RX9 213 yX1_howManyUpBehind "ClocksTold" ∈ TN := inTN 863 (by decide +kernel) rfl
theorem wm_X9_216 : Cond.methodLink RX9 216 yX9_lowest ∈ TG := inTG 867 (by decide +kernel) rfl
theorem wm_X9_290 : Cond.methodLink RX9 290 yX9_commonDivisor ∈ TG := inTG 870 (by decide +kernel) rfl
theorem wm_L_95 : Cond.methodLink RL 95 yX9_mean ∈ TG := inTG 873 (by decide +kernel) rfl
theorem wm_L_100 : Cond.methodLink RL 100 yX9_month ∈ TG := inTG 877 (by decide +kernel) rfl
theorem wm_L_104 : Cond.methodLink RL 104 yX9_ends ∈ TG := inTG 881 (by decide +kernel) rfl
theorem wm_X9_223 : Cond.methodLinkNest RX9 223 yX1_monthEnds "ClocksTold" ∈ TN := inTN 885 (by decide +kernel) rfl
theorem wm_X1_94 : Cond.methodLinkNest RX1 94 yX7_night "ClocksTold" ∈ TN := inTN 889 (by decide +kernel) rfl
theorem wm_X1_97 : Cond.methodLinkNest RX1 97 yX7_howManyUp "ClocksTold" ∈ TN := inTN 890 (by decide +kernel) rfl
theorem wm_L_108 : Cond.methodLink RL 108 yX9_book ∈ TG := inTG 891 (by decide +kernel) rfl
theorem wm_L_112 : Cond.methodLink RL 112 yX9_looked ∈ TG := inTG 895 (by decide +kernel) rfl
theorem wm_X9_232 : Cond.methodLinkNest RX9 232 yX6_cell "ClocksTold" ∈ TN := inTN 899 (by decide +kernel) rfl
theorem wm_L_116 : Cond.methodLink RL 116 yX9_judge ∈ TG := inTG 900 (by decide +kernel) rfl
theorem wm_X9_235 : Cond.methodLink RX9 235 yX9_isTape ∈ TG := inTG 904 (by decide +kernel) rfl
theorem wm_X9_241 : Cond.methodLinkNest RX9 241 yX8_has "ClocksTold" ∈ TN := inTN 907 (by decide +kernel) rfl
theorem wm_L_120 : Cond.methodLink RL 120 yX9_image ∈ TG := inTG 911 (by decide +kernel) rfl
theorem wm_X9_248 : Cond.methodLinkNest RX9 248 yX7_copyFrom "ClocksTold" ∈ TN := inTN 915 (by decide +kernel) rfl
theorem wm_X7_57 : Cond.methodLink RX7 57 arraycopyName ∈ TG := inTG 919 (by decide +kernel) rfl
theorem wm_X7_63 : Cond.methodLinkNest RX7 63 yX3_copyFrom "ClocksTold" ∈ TN := inTN 920 (by decide +kernel) rfl
theorem wm_X7_67 : Cond.methodLinkNest RX7 67 yX6_copyFrom "ClocksTold" ∈ TN := inTN 921 (by decide +kernel) rfl
theorem wm_X6_22 : Cond.methodLink RX6 22 arraycopyName ∈ TG := inTG 925 (by decide +kernel) rfl
theorem wm_L_124 : Cond.methodLink RL 124 yX9_undo ∈ TG := inTG 926 (by decide +kernel) rfl
theorem wm_L_128 : Cond.methodLink RL 128 yX9_act ∈ TG := inTG 930 (by decide +kernel) rfl
theorem wm_X9_254 : Cond.methodLinkNest RX9 254 yX0_start "ClocksTold" ∈ TN := inTN 934 (by decide +kernel) rfl
theorem wm_X0_28 : Cond.methodLink RX0 28 yX0_run ∈ TG := inTG 938 (by decide +kernel) rfl
theorem wm_X0_32 : Cond.methodLink RX0 32 yX0_bodyFrom ∈ TG := inTG 942 (by decide +kernel) rfl
theorem wm_X0_36 : Cond.methodLink RX0 36 yX0_note ∈ TG := inTG 949 (by decide +kernel) rfl
theorem wm_L_132 : Cond.methodLink RL 132 yX9_trace ∈ TG := inTG 953 (by decide +kernel) rfl
theorem wm_X9_258 : Cond.methodLink RX9 258 Lib.Math.min.name ∈ TG := inTG 957 (by decide +kernel) rfl
theorem wm_L_136 : Cond.methodLink RL 136 yX9_taken ∈ TG := inTG 958 (by decide +kernel) rfl
theorem wm_X9_266 : Cond.methodLink RX9 266 yX9_isUnder ∈ TG := inTG 962 (by decide +kernel) rfl
theorem wm_L_140 : Cond.methodLink RL 140 yX9_count ∈ TG := inTG 966 (by decide +kernel) rfl
theorem wm_L_144 : Cond.methodLink RL 144 yX9_tape ∈ TG := inTG 970 (by decide +kernel) rfl
theorem wm_X9_270 : Cond.methodLinkNest RX9 270 yX8_become "ClocksTold" ∈ TN := inTN 974 (by decide +kernel) rfl
theorem wm_X8_20 : Cond.methodLink RX8 20 ⟨"java/util/Arrays", "fill", "([JJ)V"⟩ ∈ TG := inTG 978 (by decide +kernel) rfl
theorem wm_L_150 : Cond.methodLink RL 150 yX9_item ∈ TG := inTG 981 (by decide +kernel) rfl
theorem wm_X9_274 : Cond.methodLinkNest RX9 274 yX8_cut "ClocksTold" ∈ TN := inTN 985 (by decide +kernel) rfl
theorem wm_L_155 : Cond.methodLink RL 155 yX9_read ∈ TG := inTG 989 (by decide +kernel) rfl
theorem wm_L_159 : Cond.methodLink RL 159 yX9_shift ∈ TG := inTG 993 (by decide +kernel) rfl
theorem wm_X9_278 : Cond.methodLinkNest RX9 278 yX8_hasRun "ClocksTold" ∈ TN := inTN 997 (by decide +kernel) rfl
theorem wm_X9_281 : Cond.methodLink RX9 281 arraycopyName ∈ TG := inTG 1001 (by decide +kernel) rfl
theorem wm_L_12 : Cond.methodLink RL 12 yX10_init ∈ TG := inTG 1004 (by decide +kernel) rfl
theorem wm_X10_1 : Cond.methodLink RX10 1 Jvm.Lib.objectInit ∈ TG := inTG 1007 (by decide +kernel) rfl
theorem wm_L_17 : Cond.methodLink RL 17 yX10_clock ∈ TG := inTG 1207 (by decide +kernel) rfl
theorem wm_X10_212 : Cond.methodLink RX10 212 yX10_in ∈ TG := inTG 1211 (by decide +kernel) rfl
theorem wm_X10_216 : Cond.methodLink RX10 216 yX10_balks ∈ TG := inTG 1215 (by decide +kernel) rfl
theorem wm_L_30 : Cond.methodLink RL 30 yX10_set ∈ TG := inTG 1219 (by decide +kernel) rfl
theorem wm_X10_220 : Cond.methodLink RX10 220 yX10_isClock ∈ TG := inTG 1223 (by decide +kernel) rfl
theorem wm_L_35 : Cond.methodLink RL 35 yX10_balk ∈ TG := inTG 1227 (by decide +kernel) rfl
theorem wm_X10_224 : Cond.methodLink RX10 224 yX10_has ∈ TG := inTG 1231 (by decide +kernel) rfl
theorem wm_L_39 : Cond.methodLink RL 39 yX10_row ∈ TG := inTG 1235 (by decide +kernel) rfl
theorem wm_L_44 : Cond.methodLink RL 44 yX10_feed ∈ TG := inTG 1239 (by decide +kernel) rfl
theorem wm_L_49 : Cond.methodLink RL 49 yX10_bench ∈ TG := inTG 1243 (by decide +kernel) rfl
theorem wm_X10_271 : Cond.methodLink RX10 271 yX10_goesText ∈ TG := inTG 1247 (by decide +kernel) rfl
theorem wm_X10_268 : Cond.methodLink RX10 268 yX10_takesClause ∈ TG := inTG 1251 (by decide +kernel) rfl
theorem wm_X10_262 : Cond.methodLink RX10 262 yX10_takesHead ∈ TG := inTG 1255 (by decide +kernel) rfl
theorem wm_X10_228 : Cond.methodLink RX10 228 yX10_peek ∈ TG := inTG 1259 (by decide +kernel) rfl
theorem wm_X10_259 : Cond.methodLink RX10 259 yX10_takesWord ∈ TG := inTG 1263 (by decide +kernel) rfl
theorem wm_X10_232 : Cond.methodLink RX10 232 yX10_takes ∈ TG := inTG 1267 (by decide +kernel) rfl
theorem wm_X10_247 : Cond.methodLink RX10 247 yX10_takesNumber ∈ TG := inTG 1271 (by decide +kernel) rfl
theorem wm_X10_235 : Cond.methodLink RX10 235 yX10_isDigit ∈ TG := inTG 1275 (by decide +kernel) rfl
theorem wm_X10_265 : Cond.methodLink RX10 265 yX10_takesE ∈ TG := inTG 1279 (by decide +kernel) rfl
theorem wm_X10_253 : Cond.methodLink RX10 253 yX10_takesTest ∈ TG := inTG 1283 (by decide +kernel) rfl
theorem wm_X10_243 : Cond.methodLink RX10 243 yX10_place ∈ TG := inTG 1287 (by decide +kernel) rfl
theorem wm_X10_239 : Cond.methodLink RX10 239 yX10_emits ∈ TG := inTG 1291 (by decide +kernel) rfl
theorem wm_X10_250 : Cond.methodLink RX10 250 yX10_whole ∈ TG := inTG 1295 (by decide +kernel) rfl
theorem wm_X10_256 : Cond.methodLink RX10 256 yX10_settle ∈ TG := inTG 1299 (by decide +kernel) rfl
theorem wm_L_26 : Cond.methodLink RL 26 yX10_news ∈ TG := inTG 1303 (by decide +kernel) rfl
theorem wm_X10_291 : Cond.methodLink RX10 291 yX10_isDay ∈ TG := inTG 1307 (by decide +kernel) rfl
theorem wm_X10_294 : Cond.methodLink RX10 294 yX10_newsOf ∈ TG := inTG 1311 (by decide +kernel) rfl
theorem wm_X10_287 : Cond.methodLink RX10 287 yX10_newsNow ∈ TG := inTG 1315 (by decide +kernel) rfl
theorem wm_X10_274 : Cond.methodLink RX10 274 yX10_begin ∈ TG := inTG 1319 (by decide +kernel) rfl
theorem wm_X10_277 : Cond.methodLink RX10 277 yX10_behind ∈ TG := inTG 1323 (by decide +kernel) rfl
theorem wm_X10_284 : Cond.methodLink RX10 284 yX10_holds ∈ TG := inTG 1327 (by decide +kernel) rfl
theorem wm_X10_280 : Cond.methodLink RX10 280 yX10_factOf ∈ TG := inTG 1331 (by decide +kernel) rfl
theorem wm_L_57 : Cond.methodLink RL 57 yX10_tell ∈ TG := inTG 1335 (by decide +kernel) rfl
theorem wm_X10_315 : Cond.methodLink RX10 315 yX10_goEvening ∈ TG := inTG 1339 (by decide +kernel) rfl
theorem wm_X10_309 : Cond.methodLink RX10 309 yX10_holdsOf ∈ TG := inTG 1343 (by decide +kernel) rfl
theorem wm_X10_297 : Cond.methodLink RX10 297 yX10_pace ∈ TG := inTG 1347 (by decide +kernel) rfl
theorem wm_X10_306 : Cond.methodLink RX10 306 yX10_minds ∈ TG := inTG 1351 (by decide +kernel) rfl
theorem wm_X10_312 : Cond.methodLink RX10 312 yX10_goNight ∈ TG := inTG 1355 (by decide +kernel) rfl
theorem wm_X10_300 : Cond.methodLink RX10 300 yX10_isUp ∈ TG := inTG 1359 (by decide +kernel) rfl
theorem wm_L_61 : Cond.methodLink RL 61 yX10_pass ∈ TG := inTG 1363 (by decide +kernel) rfl
theorem wm_X10_318 : Cond.methodLink RX10 318 yX10_isEvenings ∈ TG := inTG 1367 (by decide +kernel) rfl
theorem wm_L_22 : Cond.methodLink RL 22 yX10_of ∈ TG := inTG 1371 (by decide +kernel) rfl
theorem wm_X10_303 : Cond.methodLink RX10 303 yX10_left ∈ TG := inTG 1375 (by decide +kernel) rfl
theorem wm_X10_327 : Cond.methodLink RX10 327 yX10_minded ∈ TG := inTG 1379 (by decide +kernel) rfl
theorem wm_X10_330 : Cond.methodLink RX10 330 yX10_whole_ ∈ TG := inTG 1383 (by decide +kernel) rfl
theorem wm_X10_321 : Cond.methodLink RX10 321 yX10_save ∈ TG := inTG 1387 (by decide +kernel) rfl
theorem wm_X10_324 : Cond.methodLink RX10 324 yX10_putBack ∈ TG := inTG 1391 (by decide +kernel) rfl
theorem wm_L_53 : Cond.methodLink RL 53 yX10_told ∈ TG := inTG 1395 (by decide +kernel) rfl
theorem wm_X10_332 : Cond.methodLink RX10 332 yX10_upMany ∈ TG := inTG 1399 (by decide +kernel) rfl
theorem wm_X10_335 : Cond.methodLink RX10 335 yX10_allLeft ∈ TG := inTG 1403 (by decide +kernel) rfl
theorem wm_L_65 : Cond.methodLink RL 65 yX10_on ∈ TG := inTG 1407 (by decide +kernel) rfl
theorem wm_X10_338 : Cond.methodLink RX10 338 yX10_goEvenings ∈ TG := inTG 1411 (by decide +kernel) rfl
theorem wm_L_69 : Cond.methodLink RL 69 yX10_soonest ∈ TG := inTG 1415 (by decide +kernel) rfl
theorem wm_X10_345 : Cond.methodLink RX10 345 yX10_layNews ∈ TG := inTG 1419 (by decide +kernel) rfl
theorem wm_X10_348 : Cond.methodLink RX10 348 yX10_layTurn ∈ TG := inTG 1423 (by decide +kernel) rfl
theorem wm_X10_351 : Cond.methodLink RX10 351 yX10_goTurn ∈ TG := inTG 1427 (by decide +kernel) rfl
theorem wm_X10_342 : Cond.methodLink RX10 342 yX10_goWhole ∈ TG := inTG 1431 (by decide +kernel) rfl
theorem wm_L_73 : Cond.methodLink RL 73 yX10_most ∈ TG := inTG 1435 (by decide +kernel) rfl
theorem wm_L_77 : Cond.methodLink RL 77 yX10_next ∈ TG := inTG 1439 (by decide +kernel) rfl
theorem wm_L_81 : Cond.methodLink RL 81 yX10_see ∈ TG := inTG 1443 (by decide +kernel) rfl
theorem wm_L_85 : Cond.methodLink RL 85 yX10_since ∈ TG := inTG 1447 (by decide +kernel) rfl
theorem wm_X10_354 : Cond.methodLink RX10 354 yX10_isSeen ∈ TG := inTG 1451 (by decide +kernel) rfl
theorem wm_L_89 : Cond.methodLink RL 89 yX10_can ∈ TG := inTG 1455 (by decide +kernel) rfl
theorem wm_L_94 : Cond.methodLink RL 94 yX10_odds ∈ TG := inTG 1459 (by decide +kernel) rfl
theorem wm_X10_362 : Cond.methodLink RX10 362 yX10_lowest ∈ TG := inTG 1464 (by decide +kernel) rfl
theorem wm_X10_357 : Cond.methodLink RX10 357 yX10_divisor ∈ TG := inTG 1468 (by decide +kernel) rfl
theorem wm_L_99 : Cond.methodLink RL 99 yX10_mean ∈ TG := inTG 1472 (by decide +kernel) rfl
theorem wm_L_103 : Cond.methodLink RL 103 yX10_month ∈ TG := inTG 1476 (by decide +kernel) rfl
theorem wm_L_107 : Cond.methodLink RL 107 yX10_ends ∈ TG := inTG 1480 (by decide +kernel) rfl
theorem wm_L_111 : Cond.methodLink RL 111 yX10_book ∈ TG := inTG 1484 (by decide +kernel) rfl
theorem wm_L_115 : Cond.methodLink RL 115 yX10_looked ∈ TG := inTG 1488 (by decide +kernel) rfl
theorem wm_L_119 : Cond.methodLink RL 119 yX10_judge ∈ TG := inTG 1492 (by decide +kernel) rfl
theorem wm_X10_366 : Cond.methodLink RX10 366 yX10_isTape ∈ TG := inTG 1496 (by decide +kernel) rfl
theorem wm_L_123 : Cond.methodLink RL 123 yX10_image ∈ TG := inTG 1500 (by decide +kernel) rfl
theorem wm_L_127 : Cond.methodLink RL 127 yX10_undo ∈ TG := inTG 1504 (by decide +kernel) rfl
theorem wm_L_131 : Cond.methodLink RL 131 yX10_act ∈ TG := inTG 1508 (by decide +kernel) rfl
theorem wm_X10_375 : Cond.methodLink RX10 375 yX10_ticksAct ∈ TG := inTG 1512 (by decide +kernel) rfl
theorem wm_X10_369 : Cond.methodLink RX10 369 yX10_body ∈ TG := inTG 1516 (by decide +kernel) rfl
theorem wm_X10_372 : Cond.methodLink RX10 372 yX10_clockTicks ∈ TG := inTG 1520 (by decide +kernel) rfl
theorem wm_X10_384 : Cond.methodLink RX10 384 yX10_strikesAct ∈ TG := inTG 1524 (by decide +kernel) rfl
theorem wm_X10_381 : Cond.methodLink RX10 381 yX10_fastStrikes ∈ TG := inTG 1528 (by decide +kernel) rfl
theorem wm_X10_378 : Cond.methodLink RX10 378 yX10_clockStrikes ∈ TG := inTG 1532 (by decide +kernel) rfl
theorem wm_X10_390 : Cond.methodLink RX10 390 yX10_tellsAct ∈ TG := inTG 1536 (by decide +kernel) rfl
theorem wm_X10_387 : Cond.methodLink RX10 387 yX10_clockTells ∈ TG := inTG 1540 (by decide +kernel) rfl
theorem wm_L_135 : Cond.methodLink RL 135 yX10_trace ∈ TG := inTG 1544 (by decide +kernel) rfl
theorem wm_L_139 : Cond.methodLink RL 139 yX10_taken ∈ TG := inTG 1548 (by decide +kernel) rfl
theorem wm_L_143 : Cond.methodLink RL 143 yX10_count ∈ TG := inTG 1552 (by decide +kernel) rfl
theorem wm_L_147 : Cond.methodLink RL 147 yX10_tape ∈ TG := inTG 1556 (by decide +kernel) rfl
theorem wm_L_154 : Cond.methodLink RL 154 yX10_item ∈ TG := inTG 1560 (by decide +kernel) rfl
theorem wm_X10_393 : Cond.methodLink RX10 393 yX10_narrow ∈ TG := inTG 1564 (by decide +kernel) rfl
theorem wm_L_158 : Cond.methodLink RL 158 yX10_read ∈ TG := inTG 1568 (by decide +kernel) rfl
theorem wm_L_163 : Cond.methodLink RL 163 yX10_shift ∈ TG := inTG 1572 (by decide +kernel) rfl
theorem mw_X9_init : MWI yX9_init cX9_init 2 none 0 := ⟨⟨inTG 145 (by decide +kernel) rfl, inTG 122 (by decide +kernel) rfl, ⟨by decide +kernel, by decide +kernel⟩, by decide +kernel⟩, rfl, inTG 144 (by decide +kernel) rfl⟩
theorem mw_X7_init : MWI yX7_init cX7_init 1 none 0 := ⟨⟨inTG 153 (by decide +kernel) rfl, inTG 123 (by decide +kernel) rfl, ⟨by decide +kernel, by decide +kernel⟩, by decide +kernel⟩, rfl, inTG 152 (by decide +kernel) rfl⟩
theorem mw_X3_init : MWI yX3_init cX3_init 1 none 0 := ⟨⟨inTG 159 (by decide +kernel) rfl, inTG 124 (by decide +kernel) rfl, ⟨by decide +kernel, by decide +kernel⟩, by decide +kernel⟩, rfl, inTG 158 (by decide +kernel) rfl⟩
theorem mw_X6_init : MWI yX6_init cX6_init 2 none 1 := ⟨⟨inTG 187 (by decide +kernel) rfl, inTG 125 (by decide +kernel) rfl, ⟨by decide +kernel, by decide +kernel⟩, by decide +kernel⟩, rfl, inTG 186 (by decide +kernel) rfl⟩
theorem mw_X5_init : MWI yX5_init cX5_init 1 none 0 := ⟨⟨inTG 254 (by decide +kernel) rfl, inTG 126 (by decide +kernel) rfl, ⟨by decide +kernel, by decide +kernel⟩, by decide +kernel⟩, rfl, inTG 253 (by decide +kernel) rfl⟩
theorem mw_X1_init : MWI yX1_init cX1_init 2 none 1 := ⟨⟨inTG 284 (by decide +kernel) rfl, inTG 127 (by decide +kernel) rfl, ⟨by decide +kernel, by decide +kernel⟩, by decide +kernel⟩, rfl, inTG 283 (by decide +kernel) rfl⟩
theorem mw_X4_init : MWI yX4_init cX4_init 3 none 1 := ⟨⟨inTG 307 (by decide +kernel) rfl, inTG 128 (by decide +kernel) rfl, ⟨by decide +kernel, by decide +kernel⟩, by decide +kernel⟩, rfl, inTG 306 (by decide +kernel) rfl⟩
theorem mw_X0_init : MWI yX0_init cX0_init 1 none 0 := ⟨⟨inTG 334 (by decide +kernel) rfl, inTG 129 (by decide +kernel) rfl, ⟨by decide +kernel, by decide +kernel⟩, by decide +kernel⟩, rfl, inTG 333 (by decide +kernel) rfl⟩
theorem mw_X2_init : MWI yX2_init cX2_init 1 none 0 := ⟨⟨inTG 359 (by decide +kernel) rfl, inTG 130 (by decide +kernel) rfl, ⟨by decide +kernel, by decide +kernel⟩, by decide +kernel⟩, rfl, inTG 358 (by decide +kernel) rfl⟩
theorem mw_X8_init : MWI yX8_init cX8_init 1 none 0 := ⟨⟨inTG 385 (by decide +kernel) rfl, inTG 131 (by decide +kernel) rfl, ⟨by decide +kernel, by decide +kernel⟩, by decide +kernel⟩, rfl, inTG 384 (by decide +kernel) rfl⟩
theorem mw_X9_clock : MWV yX9_clock cX9_clock 4 (some .int) 3 := ⟨⟨inTG 434 (by decide +kernel) rfl, inTG 122 (by decide +kernel) rfl, ⟨by decide +kernel, by decide +kernel⟩, by decide +kernel⟩, inTG 432 (by decide +kernel) rfl, inTG 433 (by decide +kernel) rfl⟩
theorem mw_X9_within : MWS yX9_within cX9_within 3 (some .boolean) 3 := ⟨⟨inTG 437 (by decide +kernel) rfl, inTG 122 (by decide +kernel) rfl, ⟨by decide +kernel, by decide +kernel⟩, by decide +kernel⟩, inTG 436 (by decide +kernel) rfl⟩
theorem mw_X7_enter : MWV yX7_enter cX7_enter 6 (some .int) 3 := ⟨⟨inTG 441 (by decide +kernel) rfl, inTG 123 (by decide +kernel) rfl, ⟨by decide +kernel, by decide +kernel⟩, by decide +kernel⟩, inTG 440 (by decide +kernel) rfl, inTG 0 (by decide +kernel) rfl⟩
theorem mw_X7_learn : MWV yX7_learn cX7_learn 5 none 1 := ⟨⟨inTG 445 (by decide +kernel) rfl, inTG 123 (by decide +kernel) rfl, ⟨by decide +kernel, by decide +kernel⟩, by decide +kernel⟩, inTG 444 (by decide +kernel) rfl, inTG 1 (by decide +kernel) rfl⟩
theorem mw_X2_newsBy : MWV yX2_newsBy cX2_newsBy 5 (some .int) 1 := ⟨⟨inTG 449 (by decide +kernel) rfl, inTG 130 (by decide +kernel) rfl, ⟨by decide +kernel, by decide +kernel⟩, by decide +kernel⟩, inTG 448 (by decide +kernel) rfl, inTG 2 (by decide +kernel) rfl⟩
theorem mw_X2_isTrue : MWV yX2_isTrue cX2_isTrue 7 (some .boolean) 3 := ⟨⟨inTG 453 (by decide +kernel) rfl, inTG 130 (by decide +kernel) rfl, ⟨by decide +kernel, by decide +kernel⟩, by decide +kernel⟩, inTG 452 (by decide +kernel) rfl, inTG 3 (by decide +kernel) rfl⟩
theorem mw_X2_passes : MWS yX2_passes cX2_passes 4 (some .boolean) 2 := ⟨⟨inTG 456 (by decide +kernel) rfl, inTG 130 (by decide +kernel) rfl, ⟨by decide +kernel, by decide +kernel⟩, by decide +kernel⟩, inTG 455 (by decide +kernel) rfl⟩
theorem mw_X9_of : MWV yX9_of cX9_of 3 (some .int) 2 := ⟨⟨inTG 463 (by decide +kernel) rfl, inTG 122 (by decide +kernel) rfl, ⟨by decide +kernel, by decide +kernel⟩, by decide +kernel⟩, inTG 461 (by decide +kernel) rfl, inTG 462 (by decide +kernel) rfl⟩
theorem mw_X9_isClock : MWV yX9_isClock cX9_isClock 2 (some .boolean) 1 := ⟨⟨inTG 467 (by decide +kernel) rfl, inTG 122 (by decide +kernel) rfl, ⟨by decide +kernel, by decide +kernel⟩, by decide +kernel⟩, inTG 466 (by decide +kernel) rfl, inTG 4 (by decide +kernel) rfl⟩
theorem mw_X7_leftOf : MWV yX7_leftOf cX7_leftOf 3 (some .int) 2 := ⟨⟨inTG 471 (by decide +kernel) rfl, inTG 123 (by decide +kernel) rfl, ⟨by decide +kernel, by decide +kernel⟩, by decide +kernel⟩, inTG 470 (by decide +kernel) rfl, inTG 5 (by decide +kernel) rfl⟩
theorem mw_X7_newsAhead : MWV yX7_newsAhead cX7_newsAhead 4 (some .int) 2 := ⟨⟨inTG 475 (by decide +kernel) rfl, inTG 123 (by decide +kernel) rfl, ⟨by decide +kernel, by decide +kernel⟩, by decide +kernel⟩, inTG 474 (by decide +kernel) rfl, inTG 6 (by decide +kernel) rfl⟩
theorem mw_X7_holds : MWV yX7_holds cX7_holds 4 (some .int) 2 := ⟨⟨inTG 479 (by decide +kernel) rfl, inTG 123 (by decide +kernel) rfl, ⟨by decide +kernel, by decide +kernel⟩, by decide +kernel⟩, inTG 478 (by decide +kernel) rfl, inTG 7 (by decide +kernel) rfl⟩
theorem mw_X7_pace : MWV yX7_pace cX7_pace 1 (some .int) 0 := ⟨⟨inTG 483 (by decide +kernel) rfl, inTG 123 (by decide +kernel) rfl, ⟨by decide +kernel, by decide +kernel⟩, by decide +kernel⟩, inTG 482 (by decide +kernel) rfl, inTG 8 (by decide +kernel) rfl⟩
theorem mw_X1_minded : MWV yX1_minded cX1_minded 3 (some .int) 1 := ⟨⟨inTG 488 (by decide +kernel) rfl, inTG 127 (by decide +kernel) rfl, ⟨by decide +kernel, by decide +kernel⟩, by decide +kernel⟩, inTG 487 (by decide +kernel) rfl, inTG 9 (by decide +kernel) rfl⟩
theorem mw_X7_minds : MWV yX7_minds cX7_minds 5 (some .boolean) 2 := ⟨⟨inTG 492 (by decide +kernel) rfl, inTG 123 (by decide +kernel) rfl, ⟨by decide +kernel, by decide +kernel⟩, by decide +kernel⟩, inTG 491 (by decide +kernel) rfl, inTG 10 (by decide +kernel) rfl⟩
theorem mw_X7_newsOf : MWV yX7_newsOf cX7_newsOf 4 (some .int) 2 := ⟨⟨inTG 496 (by decide +kernel) rfl, inTG 123 (by decide +kernel) rfl, ⟨by decide +kernel, by decide +kernel⟩, by decide +kernel⟩, inTG 495 (by decide +kernel) rfl, inTG 11 (by decide +kernel) rfl⟩
theorem mw_X1_whole : MWV yX1_whole cX1_whole 3 (some .int) 1 := ⟨⟨inTG 500 (by decide +kernel) rfl, inTG 127 (by decide +kernel) rfl, ⟨by decide +kernel, by decide +kernel⟩, by decide +kernel⟩, inTG 499 (by decide +kernel) rfl, inTG 12 (by decide +kernel) rfl⟩
theorem mw_X1_begin : MWV yX1_begin cX1_begin 1 none 0 := ⟨⟨inTG 504 (by decide +kernel) rfl, inTG 127 (by decide +kernel) rfl, ⟨by decide +kernel, by decide +kernel⟩, by decide +kernel⟩, inTG 503 (by decide +kernel) rfl, inTG 13 (by decide +kernel) rfl⟩
theorem mw_X3_copyFrom : MWV yX3_copyFrom cX3_copyFrom 3 none 1 := ⟨⟨inTG 508 (by decide +kernel) rfl, inTG 124 (by decide +kernel) rfl, ⟨by decide +kernel, by decide +kernel⟩, by decide +kernel⟩, inTG 507 (by decide +kernel) rfl, inTG 14 (by decide +kernel) rfl⟩
theorem mw_X3_isUp : MWV yX3_isUp cX3_isUp 2 (some .boolean) 1 := ⟨⟨inTG 512 (by decide +kernel) rfl, inTG 124 (by decide +kernel) rfl, ⟨by decide +kernel, by decide +kernel⟩, by decide +kernel⟩, inTG 511 (by decide +kernel) rfl, inTG 15 (by decide +kernel) rfl⟩
theorem mw_X7_evening : MWV yX7_evening cX7_evening 7 (some .int) 2 := ⟨⟨inTG 516 (by decide +kernel) rfl, inTG 123 (by decide +kernel) rfl, ⟨by decide +kernel, by decide +kernel⟩, by decide +kernel⟩, inTG 515 (by decide +kernel) rfl, inTG 16 (by decide +kernel) rfl⟩
theorem mw_X7_night : MWV yX7_night cX7_night 3 none 1 := ⟨⟨inTG 522 (by decide +kernel) rfl, inTG 123 (by decide +kernel) rfl, ⟨by decide +kernel, by decide +kernel⟩, by decide +kernel⟩, inTG 521 (by decide +kernel) rfl, inTG 17 (by decide +kernel) rfl⟩
theorem mw_X9_news : MWV yX9_news cX9_news 3 (some .int) 2 := ⟨⟨inTG 527 (by decide +kernel) rfl, inTG 122 (by decide +kernel) rfl, ⟨by decide +kernel, by decide +kernel⟩, by decide +kernel⟩, inTG 525 (by decide +kernel) rfl, inTG 526 (by decide +kernel) rfl⟩
theorem mw_X9_set : MWV yX9_set cX9_set 4 (some .int) 2 := ⟨⟨inTG 532 (by decide +kernel) rfl, inTG 122 (by decide +kernel) rfl, ⟨by decide +kernel, by decide +kernel⟩, by decide +kernel⟩, inTG 530 (by decide +kernel) rfl, inTG 531 (by decide +kernel) rfl⟩
theorem mw_X9_balk : MWV yX9_balk cX9_balk 4 (some .int) 2 := ⟨⟨inTG 536 (by decide +kernel) rfl, inTG 122 (by decide +kernel) rfl, ⟨by decide +kernel, by decide +kernel⟩, by decide +kernel⟩, inTG 534 (by decide +kernel) rfl, inTG 535 (by decide +kernel) rfl⟩
theorem mw_X9_row : MWV yX9_row cX9_row 5 (some .int) 3 := ⟨⟨inTG 540 (by decide +kernel) rfl, inTG 122 (by decide +kernel) rfl, ⟨by decide +kernel, by decide +kernel⟩, by decide +kernel⟩, inTG 538 (by decide +kernel) rfl, inTG 539 (by decide +kernel) rfl⟩
theorem mw_X9_feed : MWV yX9_feed cX9_feed 2 (some .int) 1 := ⟨⟨inTG 544 (by decide +kernel) rfl, inTG 122 (by decide +kernel) rfl, ⟨by decide +kernel, by decide +kernel⟩, by decide +kernel⟩, inTG 542 (by decide +kernel) rfl, inTG 543 (by decide +kernel) rfl⟩
theorem mw_X5_take : MWV yX5_take cX5_take 2 (some .boolean) 1 := ⟨⟨inTG 548 (by decide +kernel) rfl, inTG 126 (by decide +kernel) rfl, ⟨by decide +kernel, by decide +kernel⟩, by decide +kernel⟩, inTG 547 (by decide +kernel) rfl, inTG 18 (by decide +kernel) rfl⟩
theorem mw_X9_bench : MWV yX9_bench cX9_bench 3 (some .int) 0 := ⟨⟨inTG 552 (by decide +kernel) rfl, inTG 122 (by decide +kernel) rfl, ⟨by decide +kernel, by decide +kernel⟩, by decide +kernel⟩, inTG 550 (by decide +kernel) rfl, inTG 551 (by decide +kernel) rfl⟩
theorem mw_X5_readInto : MWV yX5_readInto cX5_readInto 3 (some .boolean) 1 := ⟨⟨inTG 556 (by decide +kernel) rfl, inTG 126 (by decide +kernel) rfl, ⟨by decide +kernel, by decide +kernel⟩, by decide +kernel⟩, inTG 555 (by decide +kernel) rfl, inTG 19 (by decide +kernel) rfl⟩
theorem mw_X2_clear : MWV yX2_clear cX2_clear 1 none 0 := ⟨⟨inTG 560 (by decide +kernel) rfl, inTG 130 (by decide +kernel) rfl, ⟨by decide +kernel, by decide +kernel⟩, by decide +kernel⟩, inTG 559 (by decide +kernel) rfl, inTG 20 (by decide +kernel) rfl⟩
theorem mw_X5_step : MWV yX5_step cX5_step 1 none 0 := ⟨⟨inTG 564 (by decide +kernel) rfl, inTG 126 (by decide +kernel) rfl, ⟨by decide +kernel, by decide +kernel⟩, by decide +kernel⟩, inTG 563 (by decide +kernel) rfl, inTG 21 (by decide +kernel) rfl⟩
theorem mw_X5_clause : MWV yX5_clause cX5_clause 3 none 0 := ⟨⟨inTG 568 (by decide +kernel) rfl, inTG 126 (by decide +kernel) rfl, ⟨by decide +kernel, by decide +kernel⟩, by decide +kernel⟩, inTG 567 (by decide +kernel) rfl, inTG 22 (by decide +kernel) rfl⟩
theorem mw_X5_word : MWV yX5_word cX5_word 3 none 1 := ⟨⟨inTG 573 (by decide +kernel) rfl, inTG 126 (by decide +kernel) rfl, ⟨by decide +kernel, by decide +kernel⟩, by decide +kernel⟩, inTG 572 (by decide +kernel) rfl, inTG 23 (by decide +kernel) rfl⟩
theorem mw_X5_need : MWV yX5_need cX5_need 2 none 1 := ⟨⟨inTG 625 (by decide +kernel) rfl, inTG 126 (by decide +kernel) rfl, ⟨by decide +kernel, by decide +kernel⟩, by decide +kernel⟩, inTG 624 (by decide +kernel) rfl, inTG 24 (by decide +kernel) rfl⟩
theorem mw_X5_number : MWV yX5_number cX5_number 2 (some .int) 0 := ⟨⟨inTG 629 (by decide +kernel) rfl, inTG 126 (by decide +kernel) rfl, ⟨by decide +kernel, by decide +kernel⟩, by decide +kernel⟩, inTG 628 (by decide +kernel) rfl, inTG 25 (by decide +kernel) rfl⟩
theorem mw_X5_isDigit : MWV yX5_isDigit cX5_isDigit 1 (some .boolean) 0 := ⟨⟨inTG 633 (by decide +kernel) rfl, inTG 126 (by decide +kernel) rfl, ⟨by decide +kernel, by decide +kernel⟩, by decide +kernel⟩, inTG 632 (by decide +kernel) rfl, inTG 26 (by decide +kernel) rfl⟩
theorem mw_X5_either : MWV yX5_either cX5_either 3 none 1 := ⟨⟨inTG 640 (by decide +kernel) rfl, inTG 126 (by decide +kernel) rfl, ⟨by decide +kernel, by decide +kernel⟩, by decide +kernel⟩, inTG 639 (by decide +kernel) rfl, inTG 27 (by decide +kernel) rfl⟩
theorem mw_X5_both : MWV yX5_both cX5_both 3 none 1 := ⟨⟨inTG 644 (by decide +kernel) rfl, inTG 126 (by decide +kernel) rfl, ⟨by decide +kernel, by decide +kernel⟩, by decide +kernel⟩, inTG 643 (by decide +kernel) rfl, inTG 28 (by decide +kernel) rfl⟩
theorem mw_X5_factor : MWV yX5_factor cX5_factor 4 none 1 := ⟨⟨inTG 648 (by decide +kernel) rfl, inTG 126 (by decide +kernel) rfl, ⟨by decide +kernel, by decide +kernel⟩, by decide +kernel⟩, inTG 647 (by decide +kernel) rfl, inTG 29 (by decide +kernel) rfl⟩
theorem mw_X2_addStep : MWV yX2_addStep cX2_addStep 2 none 1 := ⟨⟨inTG 652 (by decide +kernel) rfl, inTG 130 (by decide +kernel) rfl, ⟨by decide +kernel, by decide +kernel⟩, by decide +kernel⟩, inTG 651 (by decide +kernel) rfl, inTG 30 (by decide +kernel) rfl⟩
theorem mw_X5_choice : MWV yX5_choice cX5_choice 3 (some .int) 1 := ⟨⟨inTG 657 (by decide +kernel) rfl, inTG 126 (by decide +kernel) rfl, ⟨by decide +kernel, by decide +kernel⟩, by decide +kernel⟩, inTG 656 (by decide +kernel) rfl, inTG 31 (by decide +kernel) rfl⟩
theorem mw_X2_testStep : MWS yX2_testStep cX2_testStep 3 (some .int) 3 := ⟨⟨inTG 718 (by decide +kernel) rfl, inTG 130 (by decide +kernel) rfl, ⟨by decide +kernel, by decide +kernel⟩, by decide +kernel⟩, inTG 717 (by decide +kernel) rfl⟩
theorem mw_X2_addClause : MWV yX2_addClause cX2_addClause 2 none 1 := ⟨⟨inTG 722 (by decide +kernel) rfl, inTG 130 (by decide +kernel) rfl, ⟨by decide +kernel, by decide +kernel⟩, by decide +kernel⟩, inTG 721 (by decide +kernel) rfl, inTG 32 (by decide +kernel) rfl⟩
theorem mw_X7_hold : MWV yX7_hold cX7_hold 3 none 1 := ⟨⟨inTG 726 (by decide +kernel) rfl, inTG 123 (by decide +kernel) rfl, ⟨by decide +kernel, by decide +kernel⟩, by decide +kernel⟩, inTG 725 (by decide +kernel) rfl, inTG 33 (by decide +kernel) rfl⟩
theorem mw_X9_told : MWV yX9_told cX9_told 2 (some .int) 1 := ⟨⟨inTG 730 (by decide +kernel) rfl, inTG 122 (by decide +kernel) rfl, ⟨by decide +kernel, by decide +kernel⟩, by decide +kernel⟩, inTG 728 (by decide +kernel) rfl, inTG 729 (by decide +kernel) rfl⟩
theorem mw_X7_howManyUp : MWV yX7_howManyUp cX7_howManyUp 4 (some .int) 1 := ⟨⟨inTG 735 (by decide +kernel) rfl, inTG 123 (by decide +kernel) rfl, ⟨by decide +kernel, by decide +kernel⟩, by decide +kernel⟩, inTG 734 (by decide +kernel) rfl, inTG 34 (by decide +kernel) rfl⟩
theorem mw_X7_leftOfAll : MWV yX7_leftOfAll cX7_leftOfAll 4 (some .int) 1 := ⟨⟨inTG 739 (by decide +kernel) rfl, inTG 123 (by decide +kernel) rfl, ⟨by decide +kernel, by decide +kernel⟩, by decide +kernel⟩, inTG 738 (by decide +kernel) rfl, inTG 35 (by decide +kernel) rfl⟩
theorem mw_X9_tell : MWV yX9_tell cX9_tell 2 (some .int) 1 := ⟨⟨inTG 744 (by decide +kernel) rfl, inTG 122 (by decide +kernel) rfl, ⟨by decide +kernel, by decide +kernel⟩, by decide +kernel⟩, inTG 742 (by decide +kernel) rfl, inTG 743 (by decide +kernel) rfl⟩
theorem mw_X9_pass : MWV yX9_pass cX9_pass 3 (some .int) 1 := ⟨⟨inTG 749 (by decide +kernel) rfl, inTG 122 (by decide +kernel) rfl, ⟨by decide +kernel, by decide +kernel⟩, by decide +kernel⟩, inTG 747 (by decide +kernel) rfl, inTG 748 (by decide +kernel) rfl⟩
theorem mw_X9_on : MWV yX9_on cX9_on 4 (some .int) 3 := ⟨⟨inTG 754 (by decide +kernel) rfl, inTG 122 (by decide +kernel) rfl, ⟨by decide +kernel, by decide +kernel⟩, by decide +kernel⟩, inTG 752 (by decide +kernel) rfl, inTG 753 (by decide +kernel) rfl⟩
theorem mw_X1_behind : MWV yX1_behind cX1_behind 4 (some .int) 3 := ⟨⟨inTG 758 (by decide +kernel) rfl, inTG 127 (by decide +kernel) rfl, ⟨by decide +kernel, by decide +kernel⟩, by decide +kernel⟩, inTG 757 (by decide +kernel) rfl, inTG 36 (by decide +kernel) rfl⟩
theorem mw_X1_tellOften : MWV yX1_tellOften cX1_tellOften 4 none 2 := ⟨⟨inTG 762 (by decide +kernel) rfl, inTG 127 (by decide +kernel) rfl, ⟨by decide +kernel, by decide +kernel⟩, by decide +kernel⟩, inTG 761 (by decide +kernel) rfl, inTG 37 (by decide +kernel) rfl⟩
theorem mw_X9_soonest : MWV yX9_soonest cX9_soonest 2 (some .int) 1 := ⟨⟨inTG 767 (by decide +kernel) rfl, inTG 122 (by decide +kernel) rfl, ⟨by decide +kernel, by decide +kernel⟩, by decide +kernel⟩, inTG 765 (by decide +kernel) rfl, inTG 766 (by decide +kernel) rfl⟩
theorem mw_X4_findOrder : MWV yX4_findOrder cX4_findOrder 1 none 0 := ⟨⟨inTG 771 (by decide +kernel) rfl, inTG 128 (by decide +kernel) rfl, ⟨by decide +kernel, by decide +kernel⟩, by decide +kernel⟩, inTG 770 (by decide +kernel) rfl, inTG 38 (by decide +kernel) rfl⟩
theorem mw_X4_tryOrders : MWV yX4_tryOrders cX4_tryOrders 6 none 3 := ⟨⟨inTG 776 (by decide +kernel) rfl, inTG 128 (by decide +kernel) rfl, ⟨by decide +kernel, by decide +kernel⟩, by decide +kernel⟩, inTG 775 (by decide +kernel) rfl, inTG 39 (by decide +kernel) rfl⟩
theorem mw_X4_keep : MWV yX4_keep cX4_keep 2 none 1 := ⟨⟨inTG 780 (by decide +kernel) rfl, inTG 128 (by decide +kernel) rfl, ⟨by decide +kernel, by decide +kernel⟩, by decide +kernel⟩, inTG 779 (by decide +kernel) rfl, inTG 40 (by decide +kernel) rfl⟩
theorem mw_X4_turn : MWV yX4_turn cX4_turn 4 (some .int) 2 := ⟨⟨inTG 787 (by decide +kernel) rfl, inTG 128 (by decide +kernel) rfl, ⟨by decide +kernel, by decide +kernel⟩, by decide +kernel⟩, inTG 786 (by decide +kernel) rfl, inTG 41 (by decide +kernel) rfl⟩
theorem mw_X9_most : MWV yX9_most cX9_most 3 (some .int) 2 := ⟨⟨inTG 793 (by decide +kernel) rfl, inTG 122 (by decide +kernel) rfl, ⟨by decide +kernel, by decide +kernel⟩, by decide +kernel⟩, inTG 791 (by decide +kernel) rfl, inTG 792 (by decide +kernel) rfl⟩
theorem mw_X4_findRow : MWV yX4_findRow cX4_findRow 2 none 1 := ⟨⟨inTG 797 (by decide +kernel) rfl, inTG 128 (by decide +kernel) rfl, ⟨by decide +kernel, by decide +kernel⟩, by decide +kernel⟩, inTG 796 (by decide +kernel) rfl, inTG 42 (by decide +kernel) rfl⟩
theorem mw_X4_tryRows : MWV yX4_tryRows cX4_tryRows 4 none 2 := ⟨⟨inTG 801 (by decide +kernel) rfl, inTG 128 (by decide +kernel) rfl, ⟨by decide +kernel, by decide +kernel⟩, by decide +kernel⟩, inTG 800 (by decide +kernel) rfl, inTG 43 (by decide +kernel) rfl⟩
theorem mw_X9_next : MWV yX9_next cX9_next 1 (some .int) 0 := ⟨⟨inTG 806 (by decide +kernel) rfl, inTG 122 (by decide +kernel) rfl, ⟨by decide +kernel, by decide +kernel⟩, by decide +kernel⟩, inTG 804 (by decide +kernel) rfl, inTG 805 (by decide +kernel) rfl⟩
theorem mw_X1_bestNext : MWV yX1_bestNext cX1_bestNext 5 (some .int) 0 := ⟨⟨inTG 810 (by decide +kernel) rfl, inTG 127 (by decide +kernel) rfl, ⟨by decide +kernel, by decide +kernel⟩, by decide +kernel⟩, inTG 809 (by decide +kernel) rfl, inTG 44 (by decide +kernel) rfl⟩
theorem mw_X9_see : MWV yX9_see cX9_see 4 (some .int) 3 := ⟨⟨inTG 816 (by decide +kernel) rfl, inTG 122 (by decide +kernel) rfl, ⟨by decide +kernel, by decide +kernel⟩, by decide +kernel⟩, inTG 814 (by decide +kernel) rfl, inTG 815 (by decide +kernel) rfl⟩
theorem mw_X6_empty : MWV yX6_empty cX6_empty 1 (some .int) 0 := ⟨⟨inTG 820 (by decide +kernel) rfl, inTG 125 (by decide +kernel) rfl, ⟨by decide +kernel, by decide +kernel⟩, by decide +kernel⟩, inTG 819 (by decide +kernel) rfl, inTG 45 (by decide +kernel) rfl⟩
theorem mw_X6_put : MWV yX6_put cX6_put 4 (some .int) 3 := ⟨⟨inTG 824 (by decide +kernel) rfl, inTG 125 (by decide +kernel) rfl, ⟨by decide +kernel, by decide +kernel⟩, by decide +kernel⟩, inTG 823 (by decide +kernel) rfl, inTG 46 (by decide +kernel) rfl⟩
theorem mw_X9_since : MWV yX9_since cX9_since 3 (some .int) 2 := ⟨⟨inTG 828 (by decide +kernel) rfl, inTG 122 (by decide +kernel) rfl, ⟨by decide +kernel, by decide +kernel⟩, by decide +kernel⟩, inTG 826 (by decide +kernel) rfl, inTG 827 (by decide +kernel) rfl⟩
theorem mw_X1_weighDays : MWV yX1_weighDays cX1_weighDays 4 none 1 := ⟨⟨inTG 832 (by decide +kernel) rfl, inTG 127 (by decide +kernel) rfl, ⟨by decide +kernel, by decide +kernel⟩, by decide +kernel⟩, inTG 831 (by decide +kernel) rfl, inTG 47 (by decide +kernel) rfl⟩
theorem mw_X1_weighNothing : MWV yX1_weighNothing cX1_weighNothing 1 none 0 := ⟨⟨inTG 836 (by decide +kernel) rfl, inTG 127 (by decide +kernel) rfl, ⟨by decide +kernel, by decide +kernel⟩, by decide +kernel⟩, inTG 835 (by decide +kernel) rfl, inTG 48 (by decide +kernel) rfl⟩
theorem mw_X1_weigh : MWV yX1_weigh cX1_weigh 5 none 3 := ⟨⟨inTG 840 (by decide +kernel) rfl, inTG 127 (by decide +kernel) rfl, ⟨by decide +kernel, by decide +kernel⟩, by decide +kernel⟩, inTG 839 (by decide +kernel) rfl, inTG 49 (by decide +kernel) rfl⟩
theorem mw_X6_cell : MWV yX6_cell cX6_cell 3 (some .int) 2 := ⟨⟨inTG 844 (by decide +kernel) rfl, inTG 125 (by decide +kernel) rfl, ⟨by decide +kernel, by decide +kernel⟩, by decide +kernel⟩, inTG 843 (by decide +kernel) rfl, inTG 50 (by decide +kernel) rfl⟩
theorem mw_X1_isSo : MWV yX1_isSo cX1_isSo 4 (some .boolean) 3 := ⟨⟨inTG 848 (by decide +kernel) rfl, inTG 127 (by decide +kernel) rfl, ⟨by decide +kernel, by decide +kernel⟩, by decide +kernel⟩, inTG 847 (by decide +kernel) rfl, inTG 51 (by decide +kernel) rfl⟩
theorem mw_X9_can : MWV yX9_can cX9_can 3 (some .int) 2 := ⟨⟨inTG 852 (by decide +kernel) rfl, inTG 122 (by decide +kernel) rfl, ⟨by decide +kernel, by decide +kernel⟩, by decide +kernel⟩, inTG 850 (by decide +kernel) rfl, inTG 851 (by decide +kernel) rfl⟩
theorem mw_X1_weighValues : MWV yX1_weighValues cX1_weighValues 4 none 1 := ⟨⟨inTG 856 (by decide +kernel) rfl, inTG 127 (by decide +kernel) rfl, ⟨by decide +kernel, by decide +kernel⟩, by decide +kernel⟩, inTG 855 (by decide +kernel) rfl, inTG 52 (by decide +kernel) rfl⟩
theorem mw_X9_odds : MWV yX9_odds cX9_odds 3 (some .long) 2 := ⟨⟨inTG 861 (by decide +kernel) rfl, inTG 122 (by decide +kernel) rfl, ⟨by decide +kernel, by decide +kernel⟩, by decide +kernel⟩, inTG 859 (by decide +kernel) rfl, inTG 860 (by decide +kernel) rfl⟩
theorem mw_X1_howManyUpBehind : MWV yX1_howManyUpBehind cX1_howManyUpBehind 4 (some .int) 1 := ⟨⟨inTG 866 (by decide +kernel) rfl, inTG 127 (by decide +kernel) rfl, ⟨by decide +kernel, by decide +kernel⟩, by decide +kernel⟩, inTG 865 (by decide +kernel) rfl, inTG 53 (by decide +kernel) rfl⟩
theorem mw_X9_lowest : MWS yX9_lowest cX9_lowest 4 (some .long) 3 := ⟨⟨inTG 869 (by decide +kernel) rfl, inTG 122 (by decide +kernel) rfl, ⟨by decide +kernel, by decide +kernel⟩, by decide +kernel⟩, inTG 868 (by decide +kernel) rfl⟩
theorem mw_X9_commonDivisor : MWS yX9_commonDivisor cX9_commonDivisor 6 (some .int) 2 := ⟨⟨inTG 872 (by decide +kernel) rfl, inTG 122 (by decide +kernel) rfl, ⟨by decide +kernel, by decide +kernel⟩, by decide +kernel⟩, inTG 871 (by decide +kernel) rfl⟩
theorem mw_X9_mean : MWV yX9_mean cX9_mean 2 (some .long) 1 := ⟨⟨inTG 876 (by decide +kernel) rfl, inTG 122 (by decide +kernel) rfl, ⟨by decide +kernel, by decide +kernel⟩, by decide +kernel⟩, inTG 874 (by decide +kernel) rfl, inTG 875 (by decide +kernel) rfl⟩
theorem mw_X9_month : MWV yX9_month cX9_month 2 (some .int) 1 := ⟨⟨inTG 880 (by decide +kernel) rfl, inTG 122 (by decide +kernel) rfl, ⟨by decide +kernel, by decide +kernel⟩, by decide +kernel⟩, inTG 878 (by decide +kernel) rfl, inTG 879 (by decide +kernel) rfl⟩
theorem mw_X9_ends : MWV yX9_ends cX9_ends 2 (some .int) 1 := ⟨⟨inTG 884 (by decide +kernel) rfl, inTG 122 (by decide +kernel) rfl, ⟨by decide +kernel, by decide +kernel⟩, by decide +kernel⟩, inTG 882 (by decide +kernel) rfl, inTG 883 (by decide +kernel) rfl⟩
theorem mw_X1_monthEnds : MWV yX1_monthEnds cX1_monthEnds 4 (some .int) 1 := ⟨⟨inTG 888 (by decide +kernel) rfl, inTG 127 (by decide +kernel) rfl, ⟨by decide +kernel, by decide +kernel⟩, by decide +kernel⟩, inTG 887 (by decide +kernel) rfl, inTG 54 (by decide +kernel) rfl⟩
theorem mw_X9_book : MWV yX9_book cX9_book 3 (some .int) 2 := ⟨⟨inTG 894 (by decide +kernel) rfl, inTG 122 (by decide +kernel) rfl, ⟨by decide +kernel, by decide +kernel⟩, by decide +kernel⟩, inTG 892 (by decide +kernel) rfl, inTG 893 (by decide +kernel) rfl⟩
theorem mw_X9_looked : MWV yX9_looked cX9_looked 2 (some .int) 0 := ⟨⟨inTG 898 (by decide +kernel) rfl, inTG 122 (by decide +kernel) rfl, ⟨by decide +kernel, by decide +kernel⟩, by decide +kernel⟩, inTG 896 (by decide +kernel) rfl, inTG 897 (by decide +kernel) rfl⟩
theorem mw_X9_judge : MWV yX9_judge cX9_judge 6 (some .int) 2 := ⟨⟨inTG 903 (by decide +kernel) rfl, inTG 122 (by decide +kernel) rfl, ⟨by decide +kernel, by decide +kernel⟩, by decide +kernel⟩, inTG 901 (by decide +kernel) rfl, inTG 902 (by decide +kernel) rfl⟩
theorem mw_X9_isTape : MWS yX9_isTape cX9_isTape 1 (some .boolean) 1 := ⟨⟨inTG 906 (by decide +kernel) rfl, inTG 122 (by decide +kernel) rfl, ⟨by decide +kernel, by decide +kernel⟩, by decide +kernel⟩, inTG 905 (by decide +kernel) rfl⟩
theorem mw_X8_has : MWV yX8_has cX8_has 2 (some .boolean) 1 := ⟨⟨inTG 910 (by decide +kernel) rfl, inTG 131 (by decide +kernel) rfl, ⟨by decide +kernel, by decide +kernel⟩, by decide +kernel⟩, inTG 909 (by decide +kernel) rfl, inTG 55 (by decide +kernel) rfl⟩
theorem mw_X9_image : MWV yX9_image cX9_image 1 (some .int) 0 := ⟨⟨inTG 914 (by decide +kernel) rfl, inTG 122 (by decide +kernel) rfl, ⟨by decide +kernel, by decide +kernel⟩, by decide +kernel⟩, inTG 912 (by decide +kernel) rfl, inTG 913 (by decide +kernel) rfl⟩
theorem mw_X7_copyFrom : MWV yX7_copyFrom cX7_copyFrom 2 none 1 := ⟨⟨inTG 918 (by decide +kernel) rfl, inTG 123 (by decide +kernel) rfl, ⟨by decide +kernel, by decide +kernel⟩, by decide +kernel⟩, inTG 917 (by decide +kernel) rfl, inTG 56 (by decide +kernel) rfl⟩
theorem mw_X6_copyFrom : MWV yX6_copyFrom cX6_copyFrom 2 none 1 := ⟨⟨inTG 924 (by decide +kernel) rfl, inTG 125 (by decide +kernel) rfl, ⟨by decide +kernel, by decide +kernel⟩, by decide +kernel⟩, inTG 923 (by decide +kernel) rfl, inTG 57 (by decide +kernel) rfl⟩
theorem mw_X9_undo : MWV yX9_undo cX9_undo 1 (some .int) 0 := ⟨⟨inTG 929 (by decide +kernel) rfl, inTG 122 (by decide +kernel) rfl, ⟨by decide +kernel, by decide +kernel⟩, by decide +kernel⟩, inTG 927 (by decide +kernel) rfl, inTG 928 (by decide +kernel) rfl⟩
theorem mw_X9_act : MWV yX9_act cX9_act 4 (some .int) 3 := ⟨⟨inTG 933 (by decide +kernel) rfl, inTG 122 (by decide +kernel) rfl, ⟨by decide +kernel, by decide +kernel⟩, by decide +kernel⟩, inTG 931 (by decide +kernel) rfl, inTG 932 (by decide +kernel) rfl⟩
theorem mw_X0_start : MWV yX0_start cX0_start 6 (some .int) 5 := ⟨⟨inTG 937 (by decide +kernel) rfl, inTG 129 (by decide +kernel) rfl, ⟨by decide +kernel, by decide +kernel⟩, by decide +kernel⟩, inTG 936 (by decide +kernel) rfl, inTG 58 (by decide +kernel) rfl⟩
theorem mw_X0_run : MWV yX0_run cX0_run 8 (some .int) 4 := ⟨⟨inTG 941 (by decide +kernel) rfl, inTG 129 (by decide +kernel) rfl, ⟨by decide +kernel, by decide +kernel⟩, by decide +kernel⟩, inTG 940 (by decide +kernel) rfl, inTG 59 (by decide +kernel) rfl⟩
theorem mw_X0_bodyFrom : MWS yX0_bodyFrom cX0_bodyFrom 5 (some .int) 2 := ⟨⟨inTG 944 (by decide +kernel) rfl, inTG 129 (by decide +kernel) rfl, ⟨by decide +kernel, by decide +kernel⟩, by decide +kernel⟩, inTG 943 (by decide +kernel) rfl⟩
theorem mw_X0_note : MWV yX0_note cX0_note 2 none 1 := ⟨⟨inTG 952 (by decide +kernel) rfl, inTG 129 (by decide +kernel) rfl, ⟨by decide +kernel, by decide +kernel⟩, by decide +kernel⟩, inTG 951 (by decide +kernel) rfl, inTG 60 (by decide +kernel) rfl⟩
theorem mw_X9_trace : MWV yX9_trace cX9_trace 2 (some .int) 1 := ⟨⟨inTG 956 (by decide +kernel) rfl, inTG 122 (by decide +kernel) rfl, ⟨by decide +kernel, by decide +kernel⟩, by decide +kernel⟩, inTG 954 (by decide +kernel) rfl, inTG 955 (by decide +kernel) rfl⟩
theorem mw_X9_taken : MWV yX9_taken cX9_taken 4 (some .int) 2 := ⟨⟨inTG 961 (by decide +kernel) rfl, inTG 122 (by decide +kernel) rfl, ⟨by decide +kernel, by decide +kernel⟩, by decide +kernel⟩, inTG 959 (by decide +kernel) rfl, inTG 960 (by decide +kernel) rfl⟩
theorem mw_X9_isUnder : MWS yX9_isUnder cX9_isUnder 4 (some .boolean) 2 := ⟨⟨inTG 964 (by decide +kernel) rfl, inTG 122 (by decide +kernel) rfl, ⟨by decide +kernel, by decide +kernel⟩, by decide +kernel⟩, inTG 963 (by decide +kernel) rfl⟩
theorem mw_X9_count : MWV yX9_count cX9_count 2 (some .int) 1 := ⟨⟨inTG 969 (by decide +kernel) rfl, inTG 122 (by decide +kernel) rfl, ⟨by decide +kernel, by decide +kernel⟩, by decide +kernel⟩, inTG 967 (by decide +kernel) rfl, inTG 968 (by decide +kernel) rfl⟩
theorem mw_X9_tape : MWV yX9_tape cX9_tape 4 (some .int) 3 := ⟨⟨inTG 973 (by decide +kernel) rfl, inTG 122 (by decide +kernel) rfl, ⟨by decide +kernel, by decide +kernel⟩, by decide +kernel⟩, inTG 971 (by decide +kernel) rfl, inTG 972 (by decide +kernel) rfl⟩
theorem mw_X8_become : MWV yX8_become cX8_become 3 none 2 := ⟨⟨inTG 977 (by decide +kernel) rfl, inTG 131 (by decide +kernel) rfl, ⟨by decide +kernel, by decide +kernel⟩, by decide +kernel⟩, inTG 976 (by decide +kernel) rfl, inTG 61 (by decide +kernel) rfl⟩
theorem mw_X9_item : MWV yX9_item cX9_item 5 (some .int) 3 := ⟨⟨inTG 984 (by decide +kernel) rfl, inTG 122 (by decide +kernel) rfl, ⟨by decide +kernel, by decide +kernel⟩, by decide +kernel⟩, inTG 982 (by decide +kernel) rfl, inTG 983 (by decide +kernel) rfl⟩
theorem mw_X8_cut : MWV yX8_cut cX8_cut 3 (some .long) 1 := ⟨⟨inTG 988 (by decide +kernel) rfl, inTG 131 (by decide +kernel) rfl, ⟨by decide +kernel, by decide +kernel⟩, by decide +kernel⟩, inTG 987 (by decide +kernel) rfl, inTG 62 (by decide +kernel) rfl⟩
theorem mw_X9_read : MWV yX9_read cX9_read 3 (some .long) 2 := ⟨⟨inTG 992 (by decide +kernel) rfl, inTG 122 (by decide +kernel) rfl, ⟨by decide +kernel, by decide +kernel⟩, by decide +kernel⟩, inTG 990 (by decide +kernel) rfl, inTG 991 (by decide +kernel) rfl⟩
theorem mw_X9_shift : MWV yX9_shift cX9_shift 8 (some .int) 5 := ⟨⟨inTG 996 (by decide +kernel) rfl, inTG 122 (by decide +kernel) rfl, ⟨by decide +kernel, by decide +kernel⟩, by decide +kernel⟩, inTG 994 (by decide +kernel) rfl, inTG 995 (by decide +kernel) rfl⟩
theorem mw_X8_hasRun : MWV yX8_hasRun cX8_hasRun 3 (some .boolean) 2 := ⟨⟨inTG 1000 (by decide +kernel) rfl, inTG 131 (by decide +kernel) rfl, ⟨by decide +kernel, by decide +kernel⟩, by decide +kernel⟩, inTG 999 (by decide +kernel) rfl, inTG 63 (by decide +kernel) rfl⟩
theorem mw_X10_init : MWI yX10_init cX10_init 1 none 0 := ⟨⟨inTG 1006 (by decide +kernel) rfl, inTG 132 (by decide +kernel) rfl, ⟨by decide +kernel, by decide +kernel⟩, by decide +kernel⟩, rfl, inTG 1005 (by decide +kernel) rfl⟩
theorem mw_X10_clock : MWV yX10_clock cX10_clock 5 (some .int) 3 := ⟨⟨inTG 1210 (by decide +kernel) rfl, inTG 132 (by decide +kernel) rfl, ⟨by decide +kernel, by decide +kernel⟩, by decide +kernel⟩, inTG 1208 (by decide +kernel) rfl, inTG 1209 (by decide +kernel) rfl⟩
theorem mw_X10_in : MWV yX10_in cX10_in 4 (some .boolean) 3 := ⟨⟨inTG 1214 (by decide +kernel) rfl, inTG 132 (by decide +kernel) rfl, ⟨by decide +kernel, by decide +kernel⟩, by decide +kernel⟩, inTG 1213 (by decide +kernel) rfl, inTG 64 (by decide +kernel) rfl⟩
theorem mw_X10_balks : MWV yX10_balks cX10_balks 3 none 2 := ⟨⟨inTG 1218 (by decide +kernel) rfl, inTG 132 (by decide +kernel) rfl, ⟨by decide +kernel, by decide +kernel⟩, by decide +kernel⟩, inTG 1217 (by decide +kernel) rfl, inTG 65 (by decide +kernel) rfl⟩
theorem mw_X10_set : MWV yX10_set cX10_set 4 (some .int) 2 := ⟨⟨inTG 1222 (by decide +kernel) rfl, inTG 132 (by decide +kernel) rfl, ⟨by decide +kernel, by decide +kernel⟩, by decide +kernel⟩, inTG 1220 (by decide +kernel) rfl, inTG 1221 (by decide +kernel) rfl⟩
theorem mw_X10_isClock : MWV yX10_isClock cX10_isClock 2 (some .boolean) 1 := ⟨⟨inTG 1226 (by decide +kernel) rfl, inTG 132 (by decide +kernel) rfl, ⟨by decide +kernel, by decide +kernel⟩, by decide +kernel⟩, inTG 1225 (by decide +kernel) rfl, inTG 66 (by decide +kernel) rfl⟩
theorem mw_X10_balk : MWV yX10_balk cX10_balk 4 (some .int) 2 := ⟨⟨inTG 1230 (by decide +kernel) rfl, inTG 132 (by decide +kernel) rfl, ⟨by decide +kernel, by decide +kernel⟩, by decide +kernel⟩, inTG 1228 (by decide +kernel) rfl, inTG 1229 (by decide +kernel) rfl⟩
theorem mw_X10_has : MWV yX10_has cX10_has 3 (some .boolean) 2 := ⟨⟨inTG 1234 (by decide +kernel) rfl, inTG 132 (by decide +kernel) rfl, ⟨by decide +kernel, by decide +kernel⟩, by decide +kernel⟩, inTG 1233 (by decide +kernel) rfl, inTG 67 (by decide +kernel) rfl⟩
theorem mw_X10_row : MWV yX10_row cX10_row 5 (some .int) 3 := ⟨⟨inTG 1238 (by decide +kernel) rfl, inTG 132 (by decide +kernel) rfl, ⟨by decide +kernel, by decide +kernel⟩, by decide +kernel⟩, inTG 1236 (by decide +kernel) rfl, inTG 1237 (by decide +kernel) rfl⟩
theorem mw_X10_feed : MWV yX10_feed cX10_feed 2 (some .int) 1 := ⟨⟨inTG 1242 (by decide +kernel) rfl, inTG 132 (by decide +kernel) rfl, ⟨by decide +kernel, by decide +kernel⟩, by decide +kernel⟩, inTG 1240 (by decide +kernel) rfl, inTG 1241 (by decide +kernel) rfl⟩
theorem mw_X10_bench : MWV yX10_bench cX10_bench 2 (some .int) 0 := ⟨⟨inTG 1246 (by decide +kernel) rfl, inTG 132 (by decide +kernel) rfl, ⟨by decide +kernel, by decide +kernel⟩, by decide +kernel⟩, inTG 1244 (by decide +kernel) rfl, inTG 1245 (by decide +kernel) rfl⟩
theorem mw_X10_goesText : MWV yX10_goesText cX10_goesText 3 (some .boolean) 1 := ⟨⟨inTG 1250 (by decide +kernel) rfl, inTG 132 (by decide +kernel) rfl, ⟨by decide +kernel, by decide +kernel⟩, by decide +kernel⟩, inTG 1249 (by decide +kernel) rfl, inTG 68 (by decide +kernel) rfl⟩
theorem mw_X10_takesClause : MWV yX10_takesClause cX10_takesClause 2 (some .boolean) 1 := ⟨⟨inTG 1254 (by decide +kernel) rfl, inTG 132 (by decide +kernel) rfl, ⟨by decide +kernel, by decide +kernel⟩, by decide +kernel⟩, inTG 1253 (by decide +kernel) rfl, inTG 69 (by decide +kernel) rfl⟩
theorem mw_X10_takesHead : MWV yX10_takesHead cX10_takesHead 2 (some .boolean) 1 := ⟨⟨inTG 1258 (by decide +kernel) rfl, inTG 132 (by decide +kernel) rfl, ⟨by decide +kernel, by decide +kernel⟩, by decide +kernel⟩, inTG 1257 (by decide +kernel) rfl, inTG 70 (by decide +kernel) rfl⟩
theorem mw_X10_peek : MWV yX10_peek cX10_peek 1 (some .int) 0 := ⟨⟨inTG 1262 (by decide +kernel) rfl, inTG 132 (by decide +kernel) rfl, ⟨by decide +kernel, by decide +kernel⟩, by decide +kernel⟩, inTG 1261 (by decide +kernel) rfl, inTG 71 (by decide +kernel) rfl⟩
theorem mw_X10_takesWord : MWV yX10_takesWord cX10_takesWord 4 (some .boolean) 2 := ⟨⟨inTG 1266 (by decide +kernel) rfl, inTG 132 (by decide +kernel) rfl, ⟨by decide +kernel, by decide +kernel⟩, by decide +kernel⟩, inTG 1265 (by decide +kernel) rfl, inTG 72 (by decide +kernel) rfl⟩
theorem mw_X10_takes : MWV yX10_takes cX10_takes 2 (some .boolean) 1 := ⟨⟨inTG 1270 (by decide +kernel) rfl, inTG 132 (by decide +kernel) rfl, ⟨by decide +kernel, by decide +kernel⟩, by decide +kernel⟩, inTG 1269 (by decide +kernel) rfl, inTG 73 (by decide +kernel) rfl⟩
theorem mw_X10_takesNumber : MWV yX10_takesNumber cX10_takesNumber 2 (some .boolean) 0 := ⟨⟨inTG 1274 (by decide +kernel) rfl, inTG 132 (by decide +kernel) rfl, ⟨by decide +kernel, by decide +kernel⟩, by decide +kernel⟩, inTG 1273 (by decide +kernel) rfl, inTG 74 (by decide +kernel) rfl⟩
theorem mw_X10_isDigit : MWV yX10_isDigit cX10_isDigit 1 (some .boolean) 0 := ⟨⟨inTG 1278 (by decide +kernel) rfl, inTG 132 (by decide +kernel) rfl, ⟨by decide +kernel, by decide +kernel⟩, by decide +kernel⟩, inTG 1277 (by decide +kernel) rfl, inTG 75 (by decide +kernel) rfl⟩
theorem mw_X10_takesE : MWV yX10_takesE cX10_takesE 4 (some .boolean) 1 := ⟨⟨inTG 1282 (by decide +kernel) rfl, inTG 132 (by decide +kernel) rfl, ⟨by decide +kernel, by decide +kernel⟩, by decide +kernel⟩, inTG 1281 (by decide +kernel) rfl, inTG 76 (by decide +kernel) rfl⟩
theorem mw_X10_takesTest : MWV yX10_takesTest cX10_takesTest 3 (some .boolean) 0 := ⟨⟨inTG 1286 (by decide +kernel) rfl, inTG 132 (by decide +kernel) rfl, ⟨by decide +kernel, by decide +kernel⟩, by decide +kernel⟩, inTG 1285 (by decide +kernel) rfl, inTG 77 (by decide +kernel) rfl⟩
theorem mw_X10_place : MWV yX10_place cX10_place 2 (some .int) 1 := ⟨⟨inTG 1290 (by decide +kernel) rfl, inTG 132 (by decide +kernel) rfl, ⟨by decide +kernel, by decide +kernel⟩, by decide +kernel⟩, inTG 1289 (by decide +kernel) rfl, inTG 78 (by decide +kernel) rfl⟩
theorem mw_X10_emits : MWV yX10_emits cX10_emits 2 none 1 := ⟨⟨inTG 1294 (by decide +kernel) rfl, inTG 132 (by decide +kernel) rfl, ⟨by decide +kernel, by decide +kernel⟩, by decide +kernel⟩, inTG 1293 (by decide +kernel) rfl, inTG 79 (by decide +kernel) rfl⟩
theorem mw_X10_whole : MWV yX10_whole cX10_whole 1 none 0 := ⟨⟨inTG 1298 (by decide +kernel) rfl, inTG 132 (by decide +kernel) rfl, ⟨by decide +kernel, by decide +kernel⟩, by decide +kernel⟩, inTG 1297 (by decide +kernel) rfl, inTG 80 (by decide +kernel) rfl⟩
theorem mw_X10_settle : MWV yX10_settle cX10_settle 2 none 1 := ⟨⟨inTG 1302 (by decide +kernel) rfl, inTG 132 (by decide +kernel) rfl, ⟨by decide +kernel, by decide +kernel⟩, by decide +kernel⟩, inTG 1301 (by decide +kernel) rfl, inTG 81 (by decide +kernel) rfl⟩
theorem mw_X10_news : MWV yX10_news cX10_news 3 (some .int) 2 := ⟨⟨inTG 1306 (by decide +kernel) rfl, inTG 132 (by decide +kernel) rfl, ⟨by decide +kernel, by decide +kernel⟩, by decide +kernel⟩, inTG 1304 (by decide +kernel) rfl, inTG 1305 (by decide +kernel) rfl⟩
theorem mw_X10_isDay : MWV yX10_isDay cX10_isDay 2 (some .boolean) 1 := ⟨⟨inTG 1310 (by decide +kernel) rfl, inTG 132 (by decide +kernel) rfl, ⟨by decide +kernel, by decide +kernel⟩, by decide +kernel⟩, inTG 1309 (by decide +kernel) rfl, inTG 82 (by decide +kernel) rfl⟩
theorem mw_X10_newsOf : MWV yX10_newsOf cX10_newsOf 4 (some .int) 2 := ⟨⟨inTG 1314 (by decide +kernel) rfl, inTG 132 (by decide +kernel) rfl, ⟨by decide +kernel, by decide +kernel⟩, by decide +kernel⟩, inTG 1313 (by decide +kernel) rfl, inTG 83 (by decide +kernel) rfl⟩
theorem mw_X10_newsNow : MWV yX10_newsNow cX10_newsNow 5 (some .int) 2 := ⟨⟨inTG 1318 (by decide +kernel) rfl, inTG 132 (by decide +kernel) rfl, ⟨by decide +kernel, by decide +kernel⟩, by decide +kernel⟩, inTG 1317 (by decide +kernel) rfl, inTG 84 (by decide +kernel) rfl⟩
theorem mw_X10_begin : MWV yX10_begin cX10_begin 1 (some .int) 0 := ⟨⟨inTG 1322 (by decide +kernel) rfl, inTG 132 (by decide +kernel) rfl, ⟨by decide +kernel, by decide +kernel⟩, by decide +kernel⟩, inTG 1321 (by decide +kernel) rfl, inTG 85 (by decide +kernel) rfl⟩
theorem mw_X10_behind : MWV yX10_behind cX10_behind 1 (some .int) 0 := ⟨⟨inTG 1326 (by decide +kernel) rfl, inTG 132 (by decide +kernel) rfl, ⟨by decide +kernel, by decide +kernel⟩, by decide +kernel⟩, inTG 1325 (by decide +kernel) rfl, inTG 86 (by decide +kernel) rfl⟩
theorem mw_X10_holds : MWV yX10_holds cX10_holds 9 (some .boolean) 3 := ⟨⟨inTG 1330 (by decide +kernel) rfl, inTG 132 (by decide +kernel) rfl, ⟨by decide +kernel, by decide +kernel⟩, by decide +kernel⟩, inTG 1329 (by decide +kernel) rfl, inTG 87 (by decide +kernel) rfl⟩
theorem mw_X10_factOf : MWV yX10_factOf cX10_factOf 4 (some .int) 3 := ⟨⟨inTG 1334 (by decide +kernel) rfl, inTG 132 (by decide +kernel) rfl, ⟨by decide +kernel, by decide +kernel⟩, by decide +kernel⟩, inTG 1333 (by decide +kernel) rfl, inTG 88 (by decide +kernel) rfl⟩
theorem mw_X10_tell : MWV yX10_tell cX10_tell 2 (some .int) 1 := ⟨⟨inTG 1338 (by decide +kernel) rfl, inTG 132 (by decide +kernel) rfl, ⟨by decide +kernel, by decide +kernel⟩, by decide +kernel⟩, inTG 1336 (by decide +kernel) rfl, inTG 1337 (by decide +kernel) rfl⟩
theorem mw_X10_goEvening : MWV yX10_goEvening cX10_goEvening 6 (some .int) 1 := ⟨⟨inTG 1342 (by decide +kernel) rfl, inTG 132 (by decide +kernel) rfl, ⟨by decide +kernel, by decide +kernel⟩, by decide +kernel⟩, inTG 1341 (by decide +kernel) rfl, inTG 89 (by decide +kernel) rfl⟩
theorem mw_X10_holdsOf : MWV yX10_holdsOf cX10_holdsOf 4 (some .int) 1 := ⟨⟨inTG 1346 (by decide +kernel) rfl, inTG 132 (by decide +kernel) rfl, ⟨by decide +kernel, by decide +kernel⟩, by decide +kernel⟩, inTG 1345 (by decide +kernel) rfl, inTG 90 (by decide +kernel) rfl⟩
theorem mw_X10_pace : MWV yX10_pace cX10_pace 3 (some .int) 0 := ⟨⟨inTG 1350 (by decide +kernel) rfl, inTG 132 (by decide +kernel) rfl, ⟨by decide +kernel, by decide +kernel⟩, by decide +kernel⟩, inTG 1349 (by decide +kernel) rfl, inTG 91 (by decide +kernel) rfl⟩
theorem mw_X10_minds : MWV yX10_minds cX10_minds 3 (some .boolean) 2 := ⟨⟨inTG 1354 (by decide +kernel) rfl, inTG 132 (by decide +kernel) rfl, ⟨by decide +kernel, by decide +kernel⟩, by decide +kernel⟩, inTG 1353 (by decide +kernel) rfl, inTG 92 (by decide +kernel) rfl⟩
theorem mw_X10_goNight : MWV yX10_goNight cX10_goNight 2 none 0 := ⟨⟨inTG 1358 (by decide +kernel) rfl, inTG 132 (by decide +kernel) rfl, ⟨by decide +kernel, by decide +kernel⟩, by decide +kernel⟩, inTG 1357 (by decide +kernel) rfl, inTG 93 (by decide +kernel) rfl⟩
theorem mw_X10_isUp : MWV yX10_isUp cX10_isUp 2 (some .boolean) 1 := ⟨⟨inTG 1362 (by decide +kernel) rfl, inTG 132 (by decide +kernel) rfl, ⟨by decide +kernel, by decide +kernel⟩, by decide +kernel⟩, inTG 1361 (by decide +kernel) rfl, inTG 94 (by decide +kernel) rfl⟩
theorem mw_X10_pass : MWV yX10_pass cX10_pass 3 (some .int) 1 := ⟨⟨inTG 1366 (by decide +kernel) rfl, inTG 132 (by decide +kernel) rfl, ⟨by decide +kernel, by decide +kernel⟩, by decide +kernel⟩, inTG 1364 (by decide +kernel) rfl, inTG 1365 (by decide +kernel) rfl⟩
theorem mw_X10_isEvenings : MWV yX10_isEvenings cX10_isEvenings 2 (some .boolean) 1 := ⟨⟨inTG 1370 (by decide +kernel) rfl, inTG 132 (by decide +kernel) rfl, ⟨by decide +kernel, by decide +kernel⟩, by decide +kernel⟩, inTG 1369 (by decide +kernel) rfl, inTG 95 (by decide +kernel) rfl⟩
theorem mw_X10_of : MWV yX10_of cX10_of 3 (some .int) 2 := ⟨⟨inTG 1374 (by decide +kernel) rfl, inTG 132 (by decide +kernel) rfl, ⟨by decide +kernel, by decide +kernel⟩, by decide +kernel⟩, inTG 1372 (by decide +kernel) rfl, inTG 1373 (by decide +kernel) rfl⟩
theorem mw_X10_left : MWV yX10_left cX10_left 4 (some .int) 1 := ⟨⟨inTG 1378 (by decide +kernel) rfl, inTG 132 (by decide +kernel) rfl, ⟨by decide +kernel, by decide +kernel⟩, by decide +kernel⟩, inTG 1377 (by decide +kernel) rfl, inTG 96 (by decide +kernel) rfl⟩
theorem mw_X10_minded : MWV yX10_minded cX10_minded 3 (some .int) 1 := ⟨⟨inTG 1382 (by decide +kernel) rfl, inTG 132 (by decide +kernel) rfl, ⟨by decide +kernel, by decide +kernel⟩, by decide +kernel⟩, inTG 1381 (by decide +kernel) rfl, inTG 97 (by decide +kernel) rfl⟩
theorem mw_X10_whole_ : MWV yX10_whole_ cX10_whole_ 3 (some .int) 1 := ⟨⟨inTG 1386 (by decide +kernel) rfl, inTG 132 (by decide +kernel) rfl, ⟨by decide +kernel, by decide +kernel⟩, by decide +kernel⟩, inTG 1385 (by decide +kernel) rfl, inTG 98 (by decide +kernel) rfl⟩
theorem mw_X10_save : MWV yX10_save cX10_save 2 none 0 := ⟨⟨inTG 1390 (by decide +kernel) rfl, inTG 132 (by decide +kernel) rfl, ⟨by decide +kernel, by decide +kernel⟩, by decide +kernel⟩, inTG 1389 (by decide +kernel) rfl, inTG 99 (by decide +kernel) rfl⟩
theorem mw_X10_putBack : MWV yX10_putBack cX10_putBack 2 none 0 := ⟨⟨inTG 1394 (by decide +kernel) rfl, inTG 132 (by decide +kernel) rfl, ⟨by decide +kernel, by decide +kernel⟩, by decide +kernel⟩, inTG 1393 (by decide +kernel) rfl, inTG 100 (by decide +kernel) rfl⟩
theorem mw_X10_told : MWV yX10_told cX10_told 2 (some .int) 1 := ⟨⟨inTG 1398 (by decide +kernel) rfl, inTG 132 (by decide +kernel) rfl, ⟨by decide +kernel, by decide +kernel⟩, by decide +kernel⟩, inTG 1396 (by decide +kernel) rfl, inTG 1397 (by decide +kernel) rfl⟩
theorem mw_X10_upMany : MWV yX10_upMany cX10_upMany 3 (some .int) 0 := ⟨⟨inTG 1402 (by decide +kernel) rfl, inTG 132 (by decide +kernel) rfl, ⟨by decide +kernel, by decide +kernel⟩, by decide +kernel⟩, inTG 1401 (by decide +kernel) rfl, inTG 101 (by decide +kernel) rfl⟩
theorem mw_X10_allLeft : MWV yX10_allLeft cX10_allLeft 3 (some .int) 0 := ⟨⟨inTG 1406 (by decide +kernel) rfl, inTG 132 (by decide +kernel) rfl, ⟨by decide +kernel, by decide +kernel⟩, by decide +kernel⟩, inTG 1405 (by decide +kernel) rfl, inTG 102 (by decide +kernel) rfl⟩
theorem mw_X10_on : MWV yX10_on cX10_on 5 (some .int) 3 := ⟨⟨inTG 1410 (by decide +kernel) rfl, inTG 132 (by decide +kernel) rfl, ⟨by decide +kernel, by decide +kernel⟩, by decide +kernel⟩, inTG 1408 (by decide +kernel) rfl, inTG 1409 (by decide +kernel) rfl⟩
theorem mw_X10_goEvenings : MWV yX10_goEvenings cX10_goEvenings 4 none 2 := ⟨⟨inTG 1414 (by decide +kernel) rfl, inTG 132 (by decide +kernel) rfl, ⟨by decide +kernel, by decide +kernel⟩, by decide +kernel⟩, inTG 1413 (by decide +kernel) rfl, inTG 103 (by decide +kernel) rfl⟩
theorem mw_X10_soonest : MWV yX10_soonest cX10_soonest 7 (some .int) 1 := ⟨⟨inTG 1418 (by decide +kernel) rfl, inTG 132 (by decide +kernel) rfl, ⟨by decide +kernel, by decide +kernel⟩, by decide +kernel⟩, inTG 1416 (by decide +kernel) rfl, inTG 1417 (by decide +kernel) rfl⟩
theorem mw_X10_layNews : MWV yX10_layNews cX10_layNews 3 none 0 := ⟨⟨inTG 1422 (by decide +kernel) rfl, inTG 132 (by decide +kernel) rfl, ⟨by decide +kernel, by decide +kernel⟩, by decide +kernel⟩, inTG 1421 (by decide +kernel) rfl, inTG 104 (by decide +kernel) rfl⟩
theorem mw_X10_layTurn : MWV yX10_layTurn cX10_layTurn 5 (some .boolean) 1 := ⟨⟨inTG 1426 (by decide +kernel) rfl, inTG 132 (by decide +kernel) rfl, ⟨by decide +kernel, by decide +kernel⟩, by decide +kernel⟩, inTG 1425 (by decide +kernel) rfl, inTG 105 (by decide +kernel) rfl⟩
theorem mw_X10_goTurn : MWV yX10_goTurn cX10_goTurn 3 (some .int) 0 := ⟨⟨inTG 1430 (by decide +kernel) rfl, inTG 132 (by decide +kernel) rfl, ⟨by decide +kernel, by decide +kernel⟩, by decide +kernel⟩, inTG 1429 (by decide +kernel) rfl, inTG 106 (by decide +kernel) rfl⟩
theorem mw_X10_goWhole : MWV yX10_goWhole cX10_goWhole 3 (some .int) 1 := ⟨⟨inTG 1434 (by decide +kernel) rfl, inTG 132 (by decide +kernel) rfl, ⟨by decide +kernel, by decide +kernel⟩, by decide +kernel⟩, inTG 1433 (by decide +kernel) rfl, inTG 107 (by decide +kernel) rfl⟩
theorem mw_X10_most : MWV yX10_most cX10_most 9 (some .int) 2 := ⟨⟨inTG 1438 (by decide +kernel) rfl, inTG 132 (by decide +kernel) rfl, ⟨by decide +kernel, by decide +kernel⟩, by decide +kernel⟩, inTG 1436 (by decide +kernel) rfl, inTG 1437 (by decide +kernel) rfl⟩
theorem mw_X10_next : MWV yX10_next cX10_next 5 (some .int) 0 := ⟨⟨inTG 1442 (by decide +kernel) rfl, inTG 132 (by decide +kernel) rfl, ⟨by decide +kernel, by decide +kernel⟩, by decide +kernel⟩, inTG 1440 (by decide +kernel) rfl, inTG 1441 (by decide +kernel) rfl⟩
theorem mw_X10_see : MWV yX10_see cX10_see 4 (some .int) 3 := ⟨⟨inTG 1446 (by decide +kernel) rfl, inTG 132 (by decide +kernel) rfl, ⟨by decide +kernel, by decide +kernel⟩, by decide +kernel⟩, inTG 1444 (by decide +kernel) rfl, inTG 1445 (by decide +kernel) rfl⟩
theorem mw_X10_since : MWV yX10_since cX10_since 7 (some .int) 2 := ⟨⟨inTG 1450 (by decide +kernel) rfl, inTG 132 (by decide +kernel) rfl, ⟨by decide +kernel, by decide +kernel⟩, by decide +kernel⟩, inTG 1448 (by decide +kernel) rfl, inTG 1449 (by decide +kernel) rfl⟩
theorem mw_X10_isSeen : MWV yX10_isSeen cX10_isSeen 4 (some .boolean) 1 := ⟨⟨inTG 1454 (by decide +kernel) rfl, inTG 132 (by decide +kernel) rfl, ⟨by decide +kernel, by decide +kernel⟩, by decide +kernel⟩, inTG 1453 (by decide +kernel) rfl, inTG 108 (by decide +kernel) rfl⟩
theorem mw_X10_can : MWV yX10_can cX10_can 7 (some .int) 2 := ⟨⟨inTG 1458 (by decide +kernel) rfl, inTG 132 (by decide +kernel) rfl, ⟨by decide +kernel, by decide +kernel⟩, by decide +kernel⟩, inTG 1456 (by decide +kernel) rfl, inTG 1457 (by decide +kernel) rfl⟩
theorem mw_X10_odds : MWV yX10_odds cX10_odds 5 (some .long) 2 := ⟨⟨inTG 1462 (by decide +kernel) rfl, inTG 132 (by decide +kernel) rfl, ⟨by decide +kernel, by decide +kernel⟩, by decide +kernel⟩, inTG 1460 (by decide +kernel) rfl, inTG 1461 (by decide +kernel) rfl⟩
theorem mw_X10_lowest : MWV yX10_lowest cX10_lowest 5 (some .long) 3 := ⟨⟨inTG 1467 (by decide +kernel) rfl, inTG 132 (by decide +kernel) rfl, ⟨by decide +kernel, by decide +kernel⟩, by decide +kernel⟩, inTG 1466 (by decide +kernel) rfl, inTG 109 (by decide +kernel) rfl⟩
theorem mw_X10_divisor : MWV yX10_divisor cX10_divisor 6 (some .int) 2 := ⟨⟨inTG 1471 (by decide +kernel) rfl, inTG 132 (by decide +kernel) rfl, ⟨by decide +kernel, by decide +kernel⟩, by decide +kernel⟩, inTG 1470 (by decide +kernel) rfl, inTG 110 (by decide +kernel) rfl⟩
theorem mw_X10_mean : MWV yX10_mean cX10_mean 2 (some .long) 1 := ⟨⟨inTG 1475 (by decide +kernel) rfl, inTG 132 (by decide +kernel) rfl, ⟨by decide +kernel, by decide +kernel⟩, by decide +kernel⟩, inTG 1473 (by decide +kernel) rfl, inTG 1474 (by decide +kernel) rfl⟩
theorem mw_X10_month : MWV yX10_month cX10_month 2 (some .int) 1 := ⟨⟨inTG 1479 (by decide +kernel) rfl, inTG 132 (by decide +kernel) rfl, ⟨by decide +kernel, by decide +kernel⟩, by decide +kernel⟩, inTG 1477 (by decide +kernel) rfl, inTG 1478 (by decide +kernel) rfl⟩
theorem mw_X10_ends : MWV yX10_ends cX10_ends 3 (some .int) 1 := ⟨⟨inTG 1483 (by decide +kernel) rfl, inTG 132 (by decide +kernel) rfl, ⟨by decide +kernel, by decide +kernel⟩, by decide +kernel⟩, inTG 1481 (by decide +kernel) rfl, inTG 1482 (by decide +kernel) rfl⟩
theorem mw_X10_book : MWV yX10_book cX10_book 3 (some .int) 2 := ⟨⟨inTG 1487 (by decide +kernel) rfl, inTG 132 (by decide +kernel) rfl, ⟨by decide +kernel, by decide +kernel⟩, by decide +kernel⟩, inTG 1485 (by decide +kernel) rfl, inTG 1486 (by decide +kernel) rfl⟩
theorem mw_X10_looked : MWV yX10_looked cX10_looked 2 (some .int) 0 := ⟨⟨inTG 1491 (by decide +kernel) rfl, inTG 132 (by decide +kernel) rfl, ⟨by decide +kernel, by decide +kernel⟩, by decide +kernel⟩, inTG 1489 (by decide +kernel) rfl, inTG 1490 (by decide +kernel) rfl⟩
theorem mw_X10_judge : MWV yX10_judge cX10_judge 4 (some .int) 2 := ⟨⟨inTG 1495 (by decide +kernel) rfl, inTG 132 (by decide +kernel) rfl, ⟨by decide +kernel, by decide +kernel⟩, by decide +kernel⟩, inTG 1493 (by decide +kernel) rfl, inTG 1494 (by decide +kernel) rfl⟩
theorem mw_X10_isTape : MWV yX10_isTape cX10_isTape 2 (some .boolean) 1 := ⟨⟨inTG 1499 (by decide +kernel) rfl, inTG 132 (by decide +kernel) rfl, ⟨by decide +kernel, by decide +kernel⟩, by decide +kernel⟩, inTG 1498 (by decide +kernel) rfl, inTG 111 (by decide +kernel) rfl⟩
theorem mw_X10_image : MWV yX10_image cX10_image 2 (some .int) 0 := ⟨⟨inTG 1503 (by decide +kernel) rfl, inTG 132 (by decide +kernel) rfl, ⟨by decide +kernel, by decide +kernel⟩, by decide +kernel⟩, inTG 1501 (by decide +kernel) rfl, inTG 1502 (by decide +kernel) rfl⟩
theorem mw_X10_undo : MWV yX10_undo cX10_undo 2 (some .int) 0 := ⟨⟨inTG 1507 (by decide +kernel) rfl, inTG 132 (by decide +kernel) rfl, ⟨by decide +kernel, by decide +kernel⟩, by decide +kernel⟩, inTG 1505 (by decide +kernel) rfl, inTG 1506 (by decide +kernel) rfl⟩
theorem mw_X10_act : MWV yX10_act cX10_act 4 (some .int) 3 := ⟨⟨inTG 1511 (by decide +kernel) rfl, inTG 132 (by decide +kernel) rfl, ⟨by decide +kernel, by decide +kernel⟩, by decide +kernel⟩, inTG 1509 (by decide +kernel) rfl, inTG 1510 (by decide +kernel) rfl⟩
theorem mw_X10_ticksAct : MWV yX10_ticksAct cX10_ticksAct 3 (some .int) 2 := ⟨⟨inTG 1515 (by decide +kernel) rfl, inTG 132 (by decide +kernel) rfl, ⟨by decide +kernel, by decide +kernel⟩, by decide +kernel⟩, inTG 1514 (by decide +kernel) rfl, inTG 112 (by decide +kernel) rfl⟩
theorem mw_X10_body : MWV yX10_body cX10_body 2 none 1 := ⟨⟨inTG 1519 (by decide +kernel) rfl, inTG 132 (by decide +kernel) rfl, ⟨by decide +kernel, by decide +kernel⟩, by decide +kernel⟩, inTG 1518 (by decide +kernel) rfl, inTG 113 (by decide +kernel) rfl⟩
theorem mw_X10_clockTicks : MWV yX10_clockTicks cX10_clockTicks 3 (some .int) 2 := ⟨⟨inTG 1523 (by decide +kernel) rfl, inTG 132 (by decide +kernel) rfl, ⟨by decide +kernel, by decide +kernel⟩, by decide +kernel⟩, inTG 1522 (by decide +kernel) rfl, inTG 114 (by decide +kernel) rfl⟩
theorem mw_X10_strikesAct : MWV yX10_strikesAct cX10_strikesAct 4 (some .int) 2 := ⟨⟨inTG 1527 (by decide +kernel) rfl, inTG 132 (by decide +kernel) rfl, ⟨by decide +kernel, by decide +kernel⟩, by decide +kernel⟩, inTG 1526 (by decide +kernel) rfl, inTG 115 (by decide +kernel) rfl⟩
theorem mw_X10_fastStrikes : MWV yX10_fastStrikes cX10_fastStrikes 3 (some .int) 2 := ⟨⟨inTG 1531 (by decide +kernel) rfl, inTG 132 (by decide +kernel) rfl, ⟨by decide +kernel, by decide +kernel⟩, by decide +kernel⟩, inTG 1530 (by decide +kernel) rfl, inTG 116 (by decide +kernel) rfl⟩
theorem mw_X10_clockStrikes : MWV yX10_clockStrikes cX10_clockStrikes 3 (some .int) 2 := ⟨⟨inTG 1535 (by decide +kernel) rfl, inTG 132 (by decide +kernel) rfl, ⟨by decide +kernel, by decide +kernel⟩, by decide +kernel⟩, inTG 1534 (by decide +kernel) rfl, inTG 117 (by decide +kernel) rfl⟩
theorem mw_X10_tellsAct : MWV yX10_tellsAct cX10_tellsAct 4 (some .int) 2 := ⟨⟨inTG 1539 (by decide +kernel) rfl, inTG 132 (by decide +kernel) rfl, ⟨by decide +kernel, by decide +kernel⟩, by decide +kernel⟩, inTG 1538 (by decide +kernel) rfl, inTG 118 (by decide +kernel) rfl⟩
theorem mw_X10_clockTells : MWV yX10_clockTells cX10_clockTells 3 (some .int) 2 := ⟨⟨inTG 1543 (by decide +kernel) rfl, inTG 132 (by decide +kernel) rfl, ⟨by decide +kernel, by decide +kernel⟩, by decide +kernel⟩, inTG 1542 (by decide +kernel) rfl, inTG 119 (by decide +kernel) rfl⟩
theorem mw_X10_trace : MWV yX10_trace cX10_trace 2 (some .int) 1 := ⟨⟨inTG 1547 (by decide +kernel) rfl, inTG 132 (by decide +kernel) rfl, ⟨by decide +kernel, by decide +kernel⟩, by decide +kernel⟩, inTG 1545 (by decide +kernel) rfl, inTG 1546 (by decide +kernel) rfl⟩
theorem mw_X10_taken : MWV yX10_taken cX10_taken 4 (some .int) 2 := ⟨⟨inTG 1551 (by decide +kernel) rfl, inTG 132 (by decide +kernel) rfl, ⟨by decide +kernel, by decide +kernel⟩, by decide +kernel⟩, inTG 1549 (by decide +kernel) rfl, inTG 1550 (by decide +kernel) rfl⟩
theorem mw_X10_count : MWV yX10_count cX10_count 2 (some .int) 1 := ⟨⟨inTG 1555 (by decide +kernel) rfl, inTG 132 (by decide +kernel) rfl, ⟨by decide +kernel, by decide +kernel⟩, by decide +kernel⟩, inTG 1553 (by decide +kernel) rfl, inTG 1554 (by decide +kernel) rfl⟩
theorem mw_X10_tape : MWV yX10_tape cX10_tape 5 (some .int) 3 := ⟨⟨inTG 1559 (by decide +kernel) rfl, inTG 132 (by decide +kernel) rfl, ⟨by decide +kernel, by decide +kernel⟩, by decide +kernel⟩, inTG 1557 (by decide +kernel) rfl, inTG 1558 (by decide +kernel) rfl⟩
theorem mw_X10_item : MWV yX10_item cX10_item 5 (some .int) 3 := ⟨⟨inTG 1563 (by decide +kernel) rfl, inTG 132 (by decide +kernel) rfl, ⟨by decide +kernel, by decide +kernel⟩, by decide +kernel⟩, inTG 1561 (by decide +kernel) rfl, inTG 1562 (by decide +kernel) rfl⟩
theorem mw_X10_narrow : MWV yX10_narrow cX10_narrow 4 (some .long) 2 := ⟨⟨inTG 1567 (by decide +kernel) rfl, inTG 132 (by decide +kernel) rfl, ⟨by decide +kernel, by decide +kernel⟩, by decide +kernel⟩, inTG 1566 (by decide +kernel) rfl, inTG 120 (by decide +kernel) rfl⟩
theorem mw_X10_read : MWV yX10_read cX10_read 3 (some .long) 2 := ⟨⟨inTG 1571 (by decide +kernel) rfl, inTG 132 (by decide +kernel) rfl, ⟨by decide +kernel, by decide +kernel⟩, by decide +kernel⟩, inTG 1569 (by decide +kernel) rfl, inTG 1570 (by decide +kernel) rfl⟩
theorem mw_X10_shift : MWV yX10_shift cX10_shift 7 (some .int) 5 := ⟨⟨inTG 1575 (by decide +kernel) rfl, inTG 132 (by decide +kernel) rfl, ⟨by decide +kernel, by decide +kernel⟩, by decide +kernel⟩, inTG 1573 (by decide +kernel) rfl, inTG 1574 (by decide +kernel) rfl⟩
