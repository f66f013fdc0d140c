-- the pure heap: ints by cell and place, longs, references that may change
abbrev PH : Type := (Nat → Nat → Int32) × (Nat → Nat → Int64) × (Nat → Nat → Option Nat)
def rowI (h : PH) (k : Nat) (f : Nat → Int32) : PH := (va_up h.1 k f, h.2)
def wI (h : PH) (k i : Nat) (x : Int32) : PH := rowI h k (upd (h.1 k) i x)
def rowL (h : PH) (k : Nat) (f : Nat → Int64) : PH := (h.1, va_up h.2.1 k f, h.2.2)
def wL (h : PH) (k i : Nat) (x : Int64) : PH := rowL h k (vp_updL (h.2.1 k) i x)
def wR (h : PH) (k i : Nat) (x : Option Nat) : PH := (h.1, h.2.1, va_up h.2.2 k (va_up (h.2.2 k) i x))
def kdl : List Nat := [9, 7, 21, 21, 21, 21, 3, 21, 23, 6, 21, 6, 21, 6, 21, 21, 7, 21, 21, 21, 21, 3, 21, 23, 6, 21, 6, 21, 6, 21, 21, 5, 20, 24, 1, 3, 21, 23, 4, 25, 21, 21, 3, 21, 23, 3, 21, 23, 3, 21, 23, 3, 21, 23, 3, 21, 23, 3, 21, 23, 3, 21, 23, 0, 21, 26, 2, 21, 21, 21, 2, 21, 21, 21, 2, 21, 21, 21, 2, 21, 21, 21, 2, 21, 21, 21, 2, 21, 21, 21, 8, 22, 8, 22, 8, 22, 8, 22, 8, 22, 8, 22, 10, 21, 21, 21, 21, 21, 21, 21, 21, 21, 21, 21, 21, 21, 23, 21, 21, 21, 21, 21, 21, 21, 21, 21, 21, 21, 21, 21, 21, 21, 21, 21, 21, 21, 21, 21, 21, 21, 21, 22, 22]
def lnl : List Nat := [0, 0, 6, 6, 24, 606, 0, 6, 6, 0, 15, 0, 30, 0, 24, 6, 0, 6, 6, 24, 606, 0, 6, 6, 0, 15, 0, 30, 0, 24, 6, 0, 100, 6, 0, 0, 6, 6, 0, 7, 6, 6, 0, 6, 6, 0, 6, 6, 0, 6, 6, 0, 6, 6, 0, 6, 6, 0, 6, 6, 0, 6, 6, 0, 20, 6, 0, 10, 10, 100, 0, 10, 10, 100, 0, 10, 10, 100, 0, 10, 10, 100, 0, 10, 10, 100, 0, 10, 10, 100, 0, 60, 0, 60, 0, 60, 0, 60, 0, 60, 0, 60, 0, 6, 6, 6, 24, 100, 6, 60, 60, 60, 60, 600, 101, 12, 100, 4800, 6, 6, 6, 6, 5, 5, 5, 10, 8, 8, 6, 6, 6, 24, 5, 5, 5, 10, 8, 8, 20, 6, 6, 360, 60]
def lnA (k : Nat) : Nat := lnl.getD k 0
def el (V : Ev) (h : PH) (k : Nat) : va_E := match kdl.getD k 99 with
  | 0 => .inr (0, [rf V 64, .int (h.1 k 1), .int (h.1 k 2), .int (h.1 k 3), .int (h.1 k 4)])
  | 1 => .inr (1, [rf V 1, rf V 35, .int (h.1 k 2), .int (h.1 k 3)])
  | 2 => .inr (2, [.int (h.1 k 0), .int (h.1 k 1), rf V (k + 1), rf V (k + 2), .int (h.1 k 4), rf V (k + 3)])
  | 3 => .inr (3, [.int (h.1 k 0), rf V (k + 1), rf V (k + 2)])
  | 4 => .inr (4, [rf V 1, rf V 39, rf V 40, rf V 41, .int (h.1 k 4)])
  | 5 => .inr (5, [rf V 32, .int (h.1 k 1), .int (h.1 k 2), .int (h.1 k 3), .int (h.1 k 4), rq V (h.2.2 k 5)])
  | 6 => .inr (6, [.int (h.1 k 0), rf V (k + 1), .int (h.1 k 2)])
  | 7 => .inr (7, [.int (h.1 k 0), rf V (k + 1), rf V (k + 2), rf V (k + 3), rf V (k + 4), rf V (k + 5), rf V (k + 8), rf V (k + 10), rf V (k + 12), rf V (k + 14), rq V (h.2.2 k 10)])
  | 8 => .inr (8, [.int (h.1 k 0), .int (h.1 k 1), rf V (k + 1)])
  | 9 => .inr (9, [rf V 1, rf V 16, .int (h.1 k 2), rf V 31, rf V 33, .int (h.1 k 5), rf V 34, rf V 38, rf V 63, rf V 65])
  | 10 => .inr (10, [.int (h.1 k 0), .int (h.1 k 1), .int (h.1 k 2), rf V 103, rf V 104, rf V 105, rf V 106, .int (h.1 k 7), .int (h.1 k 8), .int (h.1 k 9), .int (h.1 k 10), .int (h.1 k 11), rf V 107, rf V 108, rf V 109, rf V 110, rf V 111, rf V 112, rf V 113, rf V 114, .int (h.1 k 20), .int (h.1 k 21), .int (h.1 k 22), rf V 115, rf V 116, .int (h.1 k 25), rf V 117, rf V 118, .int (h.1 k 28), .int (h.1 k 29), rf V 119, rf V 120, rf V 121, .int (h.1 k 33), rf V 122, rf V 123, rf V 124, .int (h.1 k 37), .int (h.1 k 38), rf V 125, rf V 126, rf V 127, .int (h.1 k 42), .int (h.1 k 43), .int (h.1 k 44), .int (h.1 k 45), .int (h.1 k 46), .int (h.1 k 47), .int (h.1 k 48), .int (h.1 k 49), rf V 128, rf V 129, rf V 130, rf V 131, rf V 132, rf V 133, rf V 134, rf V 135, rf V 136, rf V 137, .int (h.1 k 60), rf V 138, rf V 139, rf V 140, rf V 141, rf V 142])
  | 20 => .inl (V.2.1 0, lnA k, .inl (h.1 k))
  | 21 => .inl (V.2.1 1, lnA k, .inl (h.1 k))
  | 22 => .inl (V.2.1 2, lnA k, .inr (.inl (h.2.1 k)))
  | 23 => .inl (V.2.1 3, lnA k, .inl (h.1 k))
  | 24 => .inl (V.2.1 4, 6, .inr (.inr (.inr (.inr (fun i => some (V.2.2.1 + (66 + 4 * i)))))))
  | 25 => .inl (V.2.1 5, 7, .inr (.inr (.inr (.inr (fun i => some (V.2.2.1 + (42 + 3 * i)))))))
  | 26 => .inl (V.2.1 6, 6, .inr (.inr (.inr (.inr (fun i => some (V.2.2.1 + (90 + 2 * i)))))))
  | _ => .inr (99, [])
/-- the world: the class's cells as hc has them, the reference's as hm -/
def WG (V : Ev) (hc hm : PH) (k : Nat) : va_E := if k < 102 then el V hc k else el V hm k
theorem el_rowI {V : Ev} {h : PH} {k j : Nat} (f : Nat → Int32) (hj : j ≠ k) : el V (rowI h k f) j = el V h j := by
  have e : (rowI h k f).1 j = h.1 j := va_up_ne _ _ hj
  unfold el; rw [e]; rfl
theorem el_rowL {V : Ev} {h : PH} {k j : Nat} (f : Nat → Int64) (hj : j ≠ k) : el V (rowL h k f) j = el V h j := by
  have e : (rowL h k f).2.1 j = h.2.1 j := va_up_ne _ _ hj
  unfold el; rw [e]; rfl
theorem el_wR {V : Ev} {h : PH} {k i j : Nat} (x : Option Nat) (hj : j ≠ k) : el V (wR h k i x) j = el V h j := by
  have e : (wR h k i x).2.2 j = h.2.2 j := va_up_ne _ _ hj
  unfold el; rw [e]; rfl
theorem wgc {V : Ev} {h h' o : PH} {k : Nat} {e : va_E} (hk : k < 102) (he : el V h' k = e) (hne : ∀ j, j ≠ k → el V h' j = el V h j) : va_up (WG V h o) k e = WG V h' o := by
  funext j
  by_cases hj : j = k
  · subst hj; rw [va_up_self]; unfold WG; rw [if_pos hk, he]
  · rw [va_up_ne _ _ hj]; unfold WG; rw [hne j hj]
theorem wgm {V : Ev} {h h' o : PH} {k : Nat} {e : va_E} (hk : ¬ k < 102) (he : el V h' k = e) (hne : ∀ j, j ≠ k → el V h' j = el V h j) : va_up (WG V o h) k e = WG V o h' := by
  funext j
  by_cases hj : j = k
  · subst hj; rw [va_up_self]; unfold WG; rw [if_neg hk, he]
  · rw [va_up_ne _ _ hj]; unfold WG; rw [hne j hj]
theorem wc_at {V : Ev} {h o : PH} {k : Nat} {e : va_E} (hk : k < 102) (he : el V h k = e) : WG V h o k = e := by unfold WG; rw [if_pos hk, he]
theorem wm_at {V : Ev} {h o : PH} {k : Nat} {e : va_E} (hk : ¬ k < 102) (he : el V h k = e) : WG V o h k = e := by unfold WG; rw [if_neg hk, he]
section World
variable {V : Ev} {h o : PH}
theorem g0 : WG V h o 0 = .inr (9, [rf V 1, rf V 16, .int (h.1 0 2), rf V 31, rf V 33, .int (h.1 0 5), rf V 34, rf V 38, rf V 63, rf V 65]) := wc_at (by decide) rfl
theorem u0_2 {x : Int32} : va_up (WG V h o) 0 (.inr (9, ([rf V 1, rf V 16, .int (h.1 0 2), rf V 31, rf V 33, .int (h.1 0 5), rf V 34, rf V 38, rf V 63, rf V 65] : List Value).set 2 (.int x))) = WG V (wI h 0 2 x) o := wgc (by decide) rfl (fun j hj => el_rowI _ hj)
theorem u0_5 {x : Int32} : va_up (WG V h o) 0 (.inr (9, ([rf V 1, rf V 16, .int (h.1 0 2), rf V 31, rf V 33, .int (h.1 0 5), rf V 34, rf V 38, rf V 63, rf V 65] : List Value).set 5 (.int x))) = WG V (wI h 0 5 x) o := wgc (by decide) rfl (fun j hj => el_rowI _ hj)
theorem g1 : WG V h o 1 = .inr (7, [.int (h.1 1 0), rf V 2, rf V 3, rf V 4, rf V 5, rf V 6, rf V 9, rf V 11, rf V 13, rf V 15, rq V (h.2.2 1 10)]) := wc_at (by decide) rfl
theorem u1_0 {x : Int32} : va_up (WG V h o) 1 (.inr (7, ([.int (h.1 1 0), rf V 2, rf V 3, rf V 4, rf V 5, rf V 6, rf V 9, rf V 11, rf V 13, rf V 15, rq V (h.2.2 1 10)] : List Value).set 0 (.int x))) = WG V (wI h 1 0 x) o := wgc (by decide) rfl (fun j hj => el_rowI _ hj)
theorem u1_10 {x : Option Nat} : va_up (WG V h o) 1 (.inr (7, ([.int (h.1 1 0), rf V 2, rf V 3, rf V 4, rf V 5, rf V 6, rf V 9, rf V 11, rf V 13, rf V 15, rq V (h.2.2 1 10)] : List Value).set 10 (rq V x))) = WG V (wR h 1 10 x) o := wgc (by decide) rfl (fun j hj => el_wR _ hj)
theorem g2 : WG V h o 2 = .inl (V.2.1 1, 6, .inl (h.1 2)) := wc_at (by decide) rfl
theorem u2 {i : Nat} {x : Int32} : va_up (WG V h o) 2 (.inl (V.2.1 1, 6, .inl (upd (h.1 2) i x))) = WG V (wI h 2 i x) o := wgc (by decide) rfl (fun j hj => el_rowI _ hj)
theorem uf2 {f : Nat → Int32} : va_up (WG V h o) 2 (.inl (V.2.1 1, 6, .inl f)) = WG V (rowI h 2 f) o := wgc (by decide) rfl (fun j hj => el_rowI _ hj)
theorem g3 : WG V h o 3 = .inl (V.2.1 1, 6, .inl (h.1 3)) := wc_at (by decide) rfl
theorem u3 {i : Nat} {x : Int32} : va_up (WG V h o) 3 (.inl (V.2.1 1, 6, .inl (upd (h.1 3) i x))) = WG V (wI h 3 i x) o := wgc (by decide) rfl (fun j hj => el_rowI _ hj)
theorem uf3 {f : Nat → Int32} : va_up (WG V h o) 3 (.inl (V.2.1 1, 6, .inl f)) = WG V (rowI h 3 f) o := wgc (by decide) rfl (fun j hj => el_rowI _ hj)
theorem g4 : WG V h o 4 = .inl (V.2.1 1, 24, .inl (h.1 4)) := wc_at (by decide) rfl
theorem u4 {i : Nat} {x : Int32} : va_up (WG V h o) 4 (.inl (V.2.1 1, 24, .inl (upd (h.1 4) i x))) = WG V (wI h 4 i x) o := wgc (by decide) rfl (fun j hj => el_rowI _ hj)
theorem uf4 {f : Nat → Int32} : va_up (WG V h o) 4 (.inl (V.2.1 1, 24, .inl f)) = WG V (rowI h 4 f) o := wgc (by decide) rfl (fun j hj => el_rowI _ hj)
theorem g5 : WG V h o 5 = .inl (V.2.1 1, 606, .inl (h.1 5)) := wc_at (by decide) rfl
theorem u5 {i : Nat} {x : Int32} : va_up (WG V h o) 5 (.inl (V.2.1 1, 606, .inl (upd (h.1 5) i x))) = WG V (wI h 5 i x) o := wgc (by decide) rfl (fun j hj => el_rowI _ hj)
theorem uf5 {f : Nat → Int32} : va_up (WG V h o) 5 (.inl (V.2.1 1, 606, .inl f)) = WG V (rowI h 5 f) o := wgc (by decide) rfl (fun j hj => el_rowI _ hj)
theorem g6 : WG V h o 6 = .inr (3, [.int (h.1 6 0), rf V 7, rf V 8]) := wc_at (by decide) rfl
theorem u6_0 {x : Int32} : va_up (WG V h o) 6 (.inr (3, ([.int (h.1 6 0), rf V 7, rf V 8] : List Value).set 0 (.int x))) = WG V (wI h 6 0 x) o := wgc (by decide) rfl (fun j hj => el_rowI _ hj)
theorem g7 : WG V h o 7 = .inl (V.2.1 1, 6, .inl (h.1 7)) := wc_at (by decide) rfl
theorem u7 {i : Nat} {x : Int32} : va_up (WG V h o) 7 (.inl (V.2.1 1, 6, .inl (upd (h.1 7) i x))) = WG V (wI h 7 i x) o := wgc (by decide) rfl (fun j hj => el_rowI _ hj)
theorem uf7 {f : Nat → Int32} : va_up (WG V h o) 7 (.inl (V.2.1 1, 6, .inl f)) = WG V (rowI h 7 f) o := wgc (by decide) rfl (fun j hj => el_rowI _ hj)
theorem g8 : WG V h o 8 = .inl (V.2.1 3, 6, .inl (h.1 8)) := wc_at (by decide) rfl
theorem u8 {i : Nat} {x : Int32} : va_up (WG V h o) 8 (.inl (V.2.1 3, 6, .inl (upd (h.1 8) i x))) = WG V (wI h 8 i x) o := wgc (by decide) rfl (fun j hj => el_rowI _ hj)
theorem uf8 {f : Nat → Int32} : va_up (WG V h o) 8 (.inl (V.2.1 3, 6, .inl f)) = WG V (rowI h 8 f) o := wgc (by decide) rfl (fun j hj => el_rowI _ hj)
theorem g9 : WG V h o 9 = .inr (6, [.int (h.1 9 0), rf V 10, .int (h.1 9 2)]) := wc_at (by decide) rfl
theorem u9_0 {x : Int32} : va_up (WG V h o) 9 (.inr (6, ([.int (h.1 9 0), rf V 10, .int (h.1 9 2)] : List Value).set 0 (.int x))) = WG V (wI h 9 0 x) o := wgc (by decide) rfl (fun j hj => el_rowI _ hj)
theorem u9_2 {x : Int32} : va_up (WG V h o) 9 (.inr (6, ([.int (h.1 9 0), rf V 10, .int (h.1 9 2)] : List Value).set 2 (.int x))) = WG V (wI h 9 2 x) o := wgc (by decide) rfl (fun j hj => el_rowI _ hj)
theorem g10 : WG V h o 10 = .inl (V.2.1 1, 15, .inl (h.1 10)) := wc_at (by decide) rfl
theorem u10 {i : Nat} {x : Int32} : va_up (WG V h o) 10 (.inl (V.2.1 1, 15, .inl (upd (h.1 10) i x))) = WG V (wI h 10 i x) o := wgc (by decide) rfl (fun j hj => el_rowI _ hj)
theorem uf10 {f : Nat → Int32} : va_up (WG V h o) 10 (.inl (V.2.1 1, 15, .inl f)) = WG V (rowI h 10 f) o := wgc (by decide) rfl (fun j hj => el_rowI _ hj)
theorem g11 : WG V h o 11 = .inr (6, [.int (h.1 11 0), rf V 12, .int (h.1 11 2)]) := wc_at (by decide) rfl
theorem u11_0 {x : Int32} : va_up (WG V h o) 11 (.inr (6, ([.int (h.1 11 0), rf V 12, .int (h.1 11 2)] : List Value).set 0 (.int x))) = WG V (wI h 11 0 x) o := wgc (by decide) rfl (fun j hj => el_rowI _ hj)
theorem u11_2 {x : Int32} : va_up (WG V h o) 11 (.inr (6, ([.int (h.1 11 0), rf V 12, .int (h.1 11 2)] : List Value).set 2 (.int x))) = WG V (wI h 11 2 x) o := wgc (by decide) rfl (fun j hj => el_rowI _ hj)
theorem g12 : WG V h o 12 = .inl (V.2.1 1, 30, .inl (h.1 12)) := wc_at (by decide) rfl
theorem u12 {i : Nat} {x : Int32} : va_up (WG V h o) 12 (.inl (V.2.1 1, 30, .inl (upd (h.1 12) i x))) = WG V (wI h 12 i x) o := wgc (by decide) rfl (fun j hj => el_rowI _ hj)
theorem uf12 {f : Nat → Int32} : va_up (WG V h o) 12 (.inl (V.2.1 1, 30, .inl f)) = WG V (rowI h 12 f) o := wgc (by decide) rfl (fun j hj => el_rowI _ hj)
theorem g13 : WG V h o 13 = .inr (6, [.int (h.1 13 0), rf V 14, .int (h.1 13 2)]) := wc_at (by decide) rfl
theorem u13_0 {x : Int32} : va_up (WG V h o) 13 (.inr (6, ([.int (h.1 13 0), rf V 14, .int (h.1 13 2)] : List Value).set 0 (.int x))) = WG V (wI h 13 0 x) o := wgc (by decide) rfl (fun j hj => el_rowI _ hj)
theorem u13_2 {x : Int32} : va_up (WG V h o) 13 (.inr (6, ([.int (h.1 13 0), rf V 14, .int (h.1 13 2)] : List Value).set 2 (.int x))) = WG V (wI h 13 2 x) o := wgc (by decide) rfl (fun j hj => el_rowI _ hj)
theorem g14 : WG V h o 14 = .inl (V.2.1 1, 24, .inl (h.1 14)) := wc_at (by decide) rfl
theorem u14 {i : Nat} {x : Int32} : va_up (WG V h o) 14 (.inl (V.2.1 1, 24, .inl (upd (h.1 14) i x))) = WG V (wI h 14 i x) o := wgc (by decide) rfl (fun j hj => el_rowI _ hj)
theorem uf14 {f : Nat → Int32} : va_up (WG V h o) 14 (.inl (V.2.1 1, 24, .inl f)) = WG V (rowI h 14 f) o := wgc (by decide) rfl (fun j hj => el_rowI _ hj)
theorem g15 : WG V h o 15 = .inl (V.2.1 1, 6, .inl (h.1 15)) := wc_at (by decide) rfl
theorem u15 {i : Nat} {x : Int32} : va_up (WG V h o) 15 (.inl (V.2.1 1, 6, .inl (upd (h.1 15) i x))) = WG V (wI h 15 i x) o := wgc (by decide) rfl (fun j hj => el_rowI _ hj)
theorem uf15 {f : Nat → Int32} : va_up (WG V h o) 15 (.inl (V.2.1 1, 6, .inl f)) = WG V (rowI h 15 f) o := wgc (by decide) rfl (fun j hj => el_rowI _ hj)
theorem g16 : WG V h o 16 = .inr (7, [.int (h.1 16 0), rf V 17, rf V 18, rf V 19, rf V 20, rf V 21, rf V 24, rf V 26, rf V 28, rf V 30, rq V (h.2.2 16 10)]) := wc_at (by decide) rfl
theorem u16_0 {x : Int32} : va_up (WG V h o) 16 (.inr (7, ([.int (h.1 16 0), rf V 17, rf V 18, rf V 19, rf V 20, rf V 21, rf V 24, rf V 26, rf V 28, rf V 30, rq V (h.2.2 16 10)] : List Value).set 0 (.int x))) = WG V (wI h 16 0 x) o := wgc (by decide) rfl (fun j hj => el_rowI _ hj)
theorem u16_10 {x : Option Nat} : va_up (WG V h o) 16 (.inr (7, ([.int (h.1 16 0), rf V 17, rf V 18, rf V 19, rf V 20, rf V 21, rf V 24, rf V 26, rf V 28, rf V 30, rq V (h.2.2 16 10)] : List Value).set 10 (rq V x))) = WG V (wR h 16 10 x) o := wgc (by decide) rfl (fun j hj => el_wR _ hj)
theorem g17 : WG V h o 17 = .inl (V.2.1 1, 6, .inl (h.1 17)) := wc_at (by decide) rfl
theorem u17 {i : Nat} {x : Int32} : va_up (WG V h o) 17 (.inl (V.2.1 1, 6, .inl (upd (h.1 17) i x))) = WG V (wI h 17 i x) o := wgc (by decide) rfl (fun j hj => el_rowI _ hj)
theorem uf17 {f : Nat → Int32} : va_up (WG V h o) 17 (.inl (V.2.1 1, 6, .inl f)) = WG V (rowI h 17 f) o := wgc (by decide) rfl (fun j hj => el_rowI _ hj)
theorem g18 : WG V h o 18 = .inl (V.2.1 1, 6, .inl (h.1 18)) := wc_at (by decide) rfl
theorem u18 {i : Nat} {x : Int32} : va_up (WG V h o) 18 (.inl (V.2.1 1, 6, .inl (upd (h.1 18) i x))) = WG V (wI h 18 i x) o := wgc (by decide) rfl (fun j hj => el_rowI _ hj)
theorem uf18 {f : Nat → Int32} : va_up (WG V h o) 18 (.inl (V.2.1 1, 6, .inl f)) = WG V (rowI h 18 f) o := wgc (by decide) rfl (fun j hj => el_rowI _ hj)
theorem g19 : WG V h o 19 = .inl (V.2.1 1, 24, .inl (h.1 19)) := wc_at (by decide) rfl
theorem u19 {i : Nat} {x : Int32} : va_up (WG V h o) 19 (.inl (V.2.1 1, 24, .inl (upd (h.1 19) i x))) = WG V (wI h 19 i x) o := wgc (by decide) rfl (fun j hj => el_rowI _ hj)
theorem uf19 {f : Nat → Int32} : va_up (WG V h o) 19 (.inl (V.2.1 1, 24, .inl f)) = WG V (rowI h 19 f) o := wgc (by decide) rfl (fun j hj => el_rowI _ hj)
theorem g20 : WG V h o 20 = .inl (V.2.1 1, 606, .inl (h.1 20)) := wc_at (by decide) rfl
theorem u20 {i : Nat} {x : Int32} : va_up (WG V h o) 20 (.inl (V.2.1 1, 606, .inl (upd (h.1 20) i x))) = WG V (wI h 20 i x) o := wgc (by decide) rfl (fun j hj => el_rowI _ hj)
theorem uf20 {f : Nat → Int32} : va_up (WG V h o) 20 (.inl (V.2.1 1, 606, .inl f)) = WG V (rowI h 20 f) o := wgc (by decide) rfl (fun j hj => el_rowI _ hj)
theorem g21 : WG V h o 21 = .inr (3, [.int (h.1 21 0), rf V 22, rf V 23]) := wc_at (by decide) rfl
theorem u21_0 {x : Int32} : va_up (WG V h o) 21 (.inr (3, ([.int (h.1 21 0), rf V 22, rf V 23] : List Value).set 0 (.int x))) = WG V (wI h 21 0 x) o := wgc (by decide) rfl (fun j hj => el_rowI _ hj)
theorem g22 : WG V h o 22 = .inl (V.2.1 1, 6, .inl (h.1 22)) := wc_at (by decide) rfl
theorem u22 {i : Nat} {x : Int32} : va_up (WG V h o) 22 (.inl (V.2.1 1, 6, .inl (upd (h.1 22) i x))) = WG V (wI h 22 i x) o := wgc (by decide) rfl (fun j hj => el_rowI _ hj)
theorem uf22 {f : Nat → Int32} : va_up (WG V h o) 22 (.inl (V.2.1 1, 6, .inl f)) = WG V (rowI h 22 f) o := wgc (by decide) rfl (fun j hj => el_rowI _ hj)
theorem g23 : WG V h o 23 = .inl (V.2.1 3, 6, .inl (h.1 23)) := wc_at (by decide) rfl
theorem u23 {i : Nat} {x : Int32} : va_up (WG V h o) 23 (.inl (V.2.1 3, 6, .inl (upd (h.1 23) i x))) = WG V (wI h 23 i x) o := wgc (by decide) rfl (fun j hj => el_rowI _ hj)
theorem uf23 {f : Nat → Int32} : va_up (WG V h o) 23 (.inl (V.2.1 3, 6, .inl f)) = WG V (rowI h 23 f) o := wgc (by decide) rfl (fun j hj => el_rowI _ hj)
theorem g24 : WG V h o 24 = .inr (6, [.int (h.1 24 0), rf V 25, .int (h.1 24 2)]) := wc_at (by decide) rfl
theorem u24_0 {x : Int32} : va_up (WG V h o) 24 (.inr (6, ([.int (h.1 24 0), rf V 25, .int (h.1 24 2)] : List Value).set 0 (.int x))) = WG V (wI h 24 0 x) o := wgc (by decide) rfl (fun j hj => el_rowI _ hj)
theorem u24_2 {x : Int32} : va_up (WG V h o) 24 (.inr (6, ([.int (h.1 24 0), rf V 25, .int (h.1 24 2)] : List Value).set 2 (.int x))) = WG V (wI h 24 2 x) o := wgc (by decide) rfl (fun j hj => el_rowI _ hj)
theorem g25 : WG V h o 25 = .inl (V.2.1 1, 15, .inl (h.1 25)) := wc_at (by decide) rfl
theorem u25 {i : Nat} {x : Int32} : va_up (WG V h o) 25 (.inl (V.2.1 1, 15, .inl (upd (h.1 25) i x))) = WG V (wI h 25 i x) o := wgc (by decide) rfl (fun j hj => el_rowI _ hj)
theorem uf25 {f : Nat → Int32} : va_up (WG V h o) 25 (.inl (V.2.1 1, 15, .inl f)) = WG V (rowI h 25 f) o := wgc (by decide) rfl (fun j hj => el_rowI _ hj)
theorem g26 : WG V h o 26 = .inr (6, [.int (h.1 26 0), rf V 27, .int (h.1 26 2)]) := wc_at (by decide) rfl
theorem u26_0 {x : Int32} : va_up (WG V h o) 26 (.inr (6, ([.int (h.1 26 0), rf V 27, .int (h.1 26 2)] : List Value).set 0 (.int x))) = WG V (wI h 26 0 x) o := wgc (by decide) rfl (fun j hj => el_rowI _ hj)
theorem u26_2 {x : Int32} : va_up (WG V h o) 26 (.inr (6, ([.int (h.1 26 0), rf V 27, .int (h.1 26 2)] : List Value).set 2 (.int x))) = WG V (wI h 26 2 x) o := wgc (by decide) rfl (fun j hj => el_rowI _ hj)
theorem g27 : WG V h o 27 = .inl (V.2.1 1, 30, .inl (h.1 27)) := wc_at (by decide) rfl
theorem u27 {i : Nat} {x : Int32} : va_up (WG V h o) 27 (.inl (V.2.1 1, 30, .inl (upd (h.1 27) i x))) = WG V (wI h 27 i x) o := wgc (by decide) rfl (fun j hj => el_rowI _ hj)
theorem uf27 {f : Nat → Int32} : va_up (WG V h o) 27 (.inl (V.2.1 1, 30, .inl f)) = WG V (rowI h 27 f) o := wgc (by decide) rfl (fun j hj => el_rowI _ hj)
theorem g28 : WG V h o 28 = .inr (6, [.int (h.1 28 0), rf V 29, .int (h.1 28 2)]) := wc_at (by decide) rfl
theorem u28_0 {x : Int32} : va_up (WG V h o) 28 (.inr (6, ([.int (h.1 28 0), rf V 29, .int (h.1 28 2)] : List Value).set 0 (.int x))) = WG V (wI h 28 0 x) o := wgc (by decide) rfl (fun j hj => el_rowI _ hj)
theorem u28_2 {x : Int32} : va_up (WG V h o) 28 (.inr (6, ([.int (h.1 28 0), rf V 29, .int (h.1 28 2)] : List Value).set 2 (.int x))) = WG V (wI h 28 2 x) o := wgc (by decide) rfl (fun j hj => el_rowI _ hj)
theorem g29 : WG V h o 29 = .inl (V.2.1 1, 24, .inl (h.1 29)) := wc_at (by decide) rfl
theorem u29 {i : Nat} {x : Int32} : va_up (WG V h o) 29 (.inl (V.2.1 1, 24, .inl (upd (h.1 29) i x))) = WG V (wI h 29 i x) o := wgc (by decide) rfl (fun j hj => el_rowI _ hj)
theorem uf29 {f : Nat → Int32} : va_up (WG V h o) 29 (.inl (V.2.1 1, 24, .inl f)) = WG V (rowI h 29 f) o := wgc (by decide) rfl (fun j hj => el_rowI _ hj)
theorem g30 : WG V h o 30 = .inl (V.2.1 1, 6, .inl (h.1 30)) := wc_at (by decide) rfl
theorem u30 {i : Nat} {x : Int32} : va_up (WG V h o) 30 (.inl (V.2.1 1, 6, .inl (upd (h.1 30) i x))) = WG V (wI h 30 i x) o := wgc (by decide) rfl (fun j hj => el_rowI _ hj)
theorem uf30 {f : Nat → Int32} : va_up (WG V h o) 30 (.inl (V.2.1 1, 6, .inl f)) = WG V (rowI h 30 f) o := wgc (by decide) rfl (fun j hj => el_rowI _ hj)
theorem g31 : WG V h o 31 = .inr (5, [rf V 32, .int (h.1 31 1), .int (h.1 31 2), .int (h.1 31 3), .int (h.1 31 4), rq V (h.2.2 31 5)]) := wc_at (by decide) rfl
theorem u31_1 {x : Int32} : va_up (WG V h o) 31 (.inr (5, ([rf V 32, .int (h.1 31 1), .int (h.1 31 2), .int (h.1 31 3), .int (h.1 31 4), rq V (h.2.2 31 5)] : List Value).set 1 (.int x))) = WG V (wI h 31 1 x) o := wgc (by decide) rfl (fun j hj => el_rowI _ hj)
theorem u31_2 {x : Int32} : va_up (WG V h o) 31 (.inr (5, ([rf V 32, .int (h.1 31 1), .int (h.1 31 2), .int (h.1 31 3), .int (h.1 31 4), rq V (h.2.2 31 5)] : List Value).set 2 (.int x))) = WG V (wI h 31 2 x) o := wgc (by decide) rfl (fun j hj => el_rowI _ hj)
theorem u31_3 {x : Int32} : va_up (WG V h o) 31 (.inr (5, ([rf V 32, .int (h.1 31 1), .int (h.1 31 2), .int (h.1 31 3), .int (h.1 31 4), rq V (h.2.2 31 5)] : List Value).set 3 (.int x))) = WG V (wI h 31 3 x) o := wgc (by decide) rfl (fun j hj => el_rowI _ hj)
theorem u31_4 {x : Int32} : va_up (WG V h o) 31 (.inr (5, ([rf V 32, .int (h.1 31 1), .int (h.1 31 2), .int (h.1 31 3), .int (h.1 31 4), rq V (h.2.2 31 5)] : List Value).set 4 (.int x))) = WG V (wI h 31 4 x) o := wgc (by decide) rfl (fun j hj => el_rowI _ hj)
theorem u31_5 {x : Option Nat} : va_up (WG V h o) 31 (.inr (5, ([rf V 32, .int (h.1 31 1), .int (h.1 31 2), .int (h.1 31 3), .int (h.1 31 4), rq V (h.2.2 31 5)] : List Value).set 5 (rq V x))) = WG V (wR h 31 5 x) o := wgc (by decide) rfl (fun j hj => el_wR _ hj)
theorem g32 : WG V h o 32 = .inl (V.2.1 0, 100, .inl (h.1 32)) := wc_at (by decide) rfl
theorem u32 {i : Nat} {x : Int32} : va_up (WG V h o) 32 (.inl (V.2.1 0, 100, .inl (upd (h.1 32) i x))) = WG V (wI h 32 i x) o := wgc (by decide) rfl (fun j hj => el_rowI _ hj)
theorem uf32 {f : Nat → Int32} : va_up (WG V h o) 32 (.inl (V.2.1 0, 100, .inl f)) = WG V (rowI h 32 f) o := wgc (by decide) rfl (fun j hj => el_rowI _ hj)
theorem g33 : WG V h o 33 = .inl (V.2.1 4, 6, .inr (.inr (.inr (.inr (fun i => some (V.2.2.1 + (66 + 4 * i))))))) := wc_at (by decide) rfl
theorem g34 : WG V h o 34 = .inr (1, [rf V 1, rf V 35, .int (h.1 34 2), .int (h.1 34 3)]) := wc_at (by decide) rfl
theorem u34_2 {x : Int32} : va_up (WG V h o) 34 (.inr (1, ([rf V 1, rf V 35, .int (h.1 34 2), .int (h.1 34 3)] : List Value).set 2 (.int x))) = WG V (wI h 34 2 x) o := wgc (by decide) rfl (fun j hj => el_rowI _ hj)
theorem u34_3 {x : Int32} : va_up (WG V h o) 34 (.inr (1, ([rf V 1, rf V 35, .int (h.1 34 2), .int (h.1 34 3)] : List Value).set 3 (.int x))) = WG V (wI h 34 3 x) o := wgc (by decide) rfl (fun j hj => el_rowI _ hj)
theorem g35 : WG V h o 35 = .inr (3, [.int (h.1 35 0), rf V 36, rf V 37]) := wc_at (by decide) rfl
theorem u35_0 {x : Int32} : va_up (WG V h o) 35 (.inr (3, ([.int (h.1 35 0), rf V 36, rf V 37] : List Value).set 0 (.int x))) = WG V (wI h 35 0 x) o := wgc (by decide) rfl (fun j hj => el_rowI _ hj)
theorem g36 : WG V h o 36 = .inl (V.2.1 1, 6, .inl (h.1 36)) := wc_at (by decide) rfl
theorem u36 {i : Nat} {x : Int32} : va_up (WG V h o) 36 (.inl (V.2.1 1, 6, .inl (upd (h.1 36) i x))) = WG V (wI h 36 i x) o := wgc (by decide) rfl (fun j hj => el_rowI _ hj)
theorem uf36 {f : Nat → Int32} : va_up (WG V h o) 36 (.inl (V.2.1 1, 6, .inl f)) = WG V (rowI h 36 f) o := wgc (by decide) rfl (fun j hj => el_rowI _ hj)
theorem g37 : WG V h o 37 = .inl (V.2.1 3, 6, .inl (h.1 37)) := wc_at (by decide) rfl
theorem u37 {i : Nat} {x : Int32} : va_up (WG V h o) 37 (.inl (V.2.1 3, 6, .inl (upd (h.1 37) i x))) = WG V (wI h 37 i x) o := wgc (by decide) rfl (fun j hj => el_rowI _ hj)
theorem uf37 {f : Nat → Int32} : va_up (WG V h o) 37 (.inl (V.2.1 3, 6, .inl f)) = WG V (rowI h 37 f) o := wgc (by decide) rfl (fun j hj => el_rowI _ hj)
theorem g38 : WG V h o 38 = .inr (4, [rf V 1, rf V 39, rf V 40, rf V 41, .int (h.1 38 4)]) := wc_at (by decide) rfl
theorem u38_4 {x : Int32} : va_up (WG V h o) 38 (.inr (4, ([rf V 1, rf V 39, rf V 40, rf V 41, .int (h.1 38 4)] : List Value).set 4 (.int x))) = WG V (wI h 38 4 x) o := wgc (by decide) rfl (fun j hj => el_rowI _ hj)
theorem g39 : WG V h o 39 = .inl (V.2.1 5, 7, .inr (.inr (.inr (.inr (fun i => some (V.2.2.1 + (42 + 3 * i))))))) := wc_at (by decide) rfl
theorem g40 : WG V h o 40 = .inl (V.2.1 1, 6, .inl (h.1 40)) := wc_at (by decide) rfl
theorem u40 {i : Nat} {x : Int32} : va_up (WG V h o) 40 (.inl (V.2.1 1, 6, .inl (upd (h.1 40) i x))) = WG V (wI h 40 i x) o := wgc (by decide) rfl (fun j hj => el_rowI _ hj)
theorem uf40 {f : Nat → Int32} : va_up (WG V h o) 40 (.inl (V.2.1 1, 6, .inl f)) = WG V (rowI h 40 f) o := wgc (by decide) rfl (fun j hj => el_rowI _ hj)
theorem g41 : WG V h o 41 = .inl (V.2.1 1, 6, .inl (h.1 41)) := wc_at (by decide) rfl
theorem u41 {i : Nat} {x : Int32} : va_up (WG V h o) 41 (.inl (V.2.1 1, 6, .inl (upd (h.1 41) i x))) = WG V (wI h 41 i x) o := wgc (by decide) rfl (fun j hj => el_rowI _ hj)
theorem uf41 {f : Nat → Int32} : va_up (WG V h o) 41 (.inl (V.2.1 1, 6, .inl f)) = WG V (rowI h 41 f) o := wgc (by decide) rfl (fun j hj => el_rowI _ hj)
theorem g42 : WG V h o 42 = .inr (3, [.int (h.1 42 0), rf V 43, rf V 44]) := wc_at (by decide) rfl
theorem u42_0 {x : Int32} : va_up (WG V h o) 42 (.inr (3, ([.int (h.1 42 0), rf V 43, rf V 44] : List Value).set 0 (.int x))) = WG V (wI h 42 0 x) o := wgc (by decide) rfl (fun j hj => el_rowI _ hj)
theorem g43 : WG V h o 43 = .inl (V.2.1 1, 6, .inl (h.1 43)) := wc_at (by decide) rfl
theorem u43 {i : Nat} {x : Int32} : va_up (WG V h o) 43 (.inl (V.2.1 1, 6, .inl (upd (h.1 43) i x))) = WG V (wI h 43 i x) o := wgc (by decide) rfl (fun j hj => el_rowI _ hj)
theorem uf43 {f : Nat → Int32} : va_up (WG V h o) 43 (.inl (V.2.1 1, 6, .inl f)) = WG V (rowI h 43 f) o := wgc (by decide) rfl (fun j hj => el_rowI _ hj)
theorem g44 : WG V h o 44 = .inl (V.2.1 3, 6, .inl (h.1 44)) := wc_at (by decide) rfl
theorem u44 {i : Nat} {x : Int32} : va_up (WG V h o) 44 (.inl (V.2.1 3, 6, .inl (upd (h.1 44) i x))) = WG V (wI h 44 i x) o := wgc (by decide) rfl (fun j hj => el_rowI _ hj)
theorem uf44 {f : Nat → Int32} : va_up (WG V h o) 44 (.inl (V.2.1 3, 6, .inl f)) = WG V (rowI h 44 f) o := wgc (by decide) rfl (fun j hj => el_rowI _ hj)
theorem g45 : WG V h o 45 = .inr (3, [.int (h.1 45 0), rf V 46, rf V 47]) := wc_at (by decide) rfl
theorem u45_0 {x : Int32} : va_up (WG V h o) 45 (.inr (3, ([.int (h.1 45 0), rf V 46, rf V 47] : List Value).set 0 (.int x))) = WG V (wI h 45 0 x) o := wgc (by decide) rfl (fun j hj => el_rowI _ hj)
theorem g46 : WG V h o 46 = .inl (V.2.1 1, 6, .inl (h.1 46)) := wc_at (by decide) rfl
theorem u46 {i : Nat} {x : Int32} : va_up (WG V h o) 46 (.inl (V.2.1 1, 6, .inl (upd (h.1 46) i x))) = WG V (wI h 46 i x) o := wgc (by decide) rfl (fun j hj => el_rowI _ hj)
theorem uf46 {f : Nat → Int32} : va_up (WG V h o) 46 (.inl (V.2.1 1, 6, .inl f)) = WG V (rowI h 46 f) o := wgc (by decide) rfl (fun j hj => el_rowI _ hj)
theorem g47 : WG V h o 47 = .inl (V.2.1 3, 6, .inl (h.1 47)) := wc_at (by decide) rfl
theorem u47 {i : Nat} {x : Int32} : va_up (WG V h o) 47 (.inl (V.2.1 3, 6, .inl (upd (h.1 47) i x))) = WG V (wI h 47 i x) o := wgc (by decide) rfl (fun j hj => el_rowI _ hj)
theorem uf47 {f : Nat → Int32} : va_up (WG V h o) 47 (.inl (V.2.1 3, 6, .inl f)) = WG V (rowI h 47 f) o := wgc (by decide) rfl (fun j hj => el_rowI _ hj)
theorem g48 : WG V h o 48 = .inr (3, [.int (h.1 48 0), rf V 49, rf V 50]) := wc_at (by decide) rfl
theorem u48_0 {x : Int32} : va_up (WG V h o) 48 (.inr (3, ([.int (h.1 48 0), rf V 49, rf V 50] : List Value).set 0 (.int x))) = WG V (wI h 48 0 x) o := wgc (by decide) rfl (fun j hj => el_rowI _ hj)
theorem g49 : WG V h o 49 = .inl (V.2.1 1, 6, .inl (h.1 49)) := wc_at (by decide) rfl
theorem u49 {i : Nat} {x : Int32} : va_up (WG V h o) 49 (.inl (V.2.1 1, 6, .inl (upd (h.1 49) i x))) = WG V (wI h 49 i x) o := wgc (by decide) rfl (fun j hj => el_rowI _ hj)
theorem uf49 {f : Nat → Int32} : va_up (WG V h o) 49 (.inl (V.2.1 1, 6, .inl f)) = WG V (rowI h 49 f) o := wgc (by decide) rfl (fun j hj => el_rowI _ hj)
theorem g50 : WG V h o 50 = .inl (V.2.1 3, 6, .inl (h.1 50)) := wc_at (by decide) rfl
theorem u50 {i : Nat} {x : Int32} : va_up (WG V h o) 50 (.inl (V.2.1 3, 6, .inl (upd (h.1 50) i x))) = WG V (wI h 50 i x) o := wgc (by decide) rfl (fun j hj => el_rowI _ hj)
theorem uf50 {f : Nat → Int32} : va_up (WG V h o) 50 (.inl (V.2.1 3, 6, .inl f)) = WG V (rowI h 50 f) o := wgc (by decide) rfl (fun j hj => el_rowI _ hj)
theorem g51 : WG V h o 51 = .inr (3, [.int (h.1 51 0), rf V 52, rf V 53]) := wc_at (by decide) rfl
theorem u51_0 {x : Int32} : va_up (WG V h o) 51 (.inr (3, ([.int (h.1 51 0), rf V 52, rf V 53] : List Value).set 0 (.int x))) = WG V (wI h 51 0 x) o := wgc (by decide) rfl (fun j hj => el_rowI _ hj)
theorem g52 : WG V h o 52 = .inl (V.2.1 1, 6, .inl (h.1 52)) := wc_at (by decide) rfl
theorem u52 {i : Nat} {x : Int32} : va_up (WG V h o) 52 (.inl (V.2.1 1, 6, .inl (upd (h.1 52) i x))) = WG V (wI h 52 i x) o := wgc (by decide) rfl (fun j hj => el_rowI _ hj)
theorem uf52 {f : Nat → Int32} : va_up (WG V h o) 52 (.inl (V.2.1 1, 6, .inl f)) = WG V (rowI h 52 f) o := wgc (by decide) rfl (fun j hj => el_rowI _ hj)
theorem g53 : WG V h o 53 = .inl (V.2.1 3, 6, .inl (h.1 53)) := wc_at (by decide) rfl
theorem u53 {i : Nat} {x : Int32} : va_up (WG V h o) 53 (.inl (V.2.1 3, 6, .inl (upd (h.1 53) i x))) = WG V (wI h 53 i x) o := wgc (by decide) rfl (fun j hj => el_rowI _ hj)
theorem uf53 {f : Nat → Int32} : va_up (WG V h o) 53 (.inl (V.2.1 3, 6, .inl f)) = WG V (rowI h 53 f) o := wgc (by decide) rfl (fun j hj => el_rowI _ hj)
theorem g54 : WG V h o 54 = .inr (3, [.int (h.1 54 0), rf V 55, rf V 56]) := wc_at (by decide) rfl
theorem u54_0 {x : Int32} : va_up (WG V h o) 54 (.inr (3, ([.int (h.1 54 0), rf V 55, rf V 56] : List Value).set 0 (.int x))) = WG V (wI h 54 0 x) o := wgc (by decide) rfl (fun j hj => el_rowI _ hj)
theorem g55 : WG V h o 55 = .inl (V.2.1 1, 6, .inl (h.1 55)) := wc_at (by decide) rfl
theorem u55 {i : Nat} {x : Int32} : va_up (WG V h o) 55 (.inl (V.2.1 1, 6, .inl (upd (h.1 55) i x))) = WG V (wI h 55 i x) o := wgc (by decide) rfl (fun j hj => el_rowI _ hj)
theorem uf55 {f : Nat → Int32} : va_up (WG V h o) 55 (.inl (V.2.1 1, 6, .inl f)) = WG V (rowI h 55 f) o := wgc (by decide) rfl (fun j hj => el_rowI _ hj)
theorem g56 : WG V h o 56 = .inl (V.2.1 3, 6, .inl (h.1 56)) := wc_at (by decide) rfl
theorem u56 {i : Nat} {x : Int32} : va_up (WG V h o) 56 (.inl (V.2.1 3, 6, .inl (upd (h.1 56) i x))) = WG V (wI h 56 i x) o := wgc (by decide) rfl (fun j hj => el_rowI _ hj)
theorem uf56 {f : Nat → Int32} : va_up (WG V h o) 56 (.inl (V.2.1 3, 6, .inl f)) = WG V (rowI h 56 f) o := wgc (by decide) rfl (fun j hj => el_rowI _ hj)
theorem g57 : WG V h o 57 = .inr (3, [.int (h.1 57 0), rf V 58, rf V 59]) := wc_at (by decide) rfl
theorem u57_0 {x : Int32} : va_up (WG V h o) 57 (.inr (3, ([.int (h.1 57 0), rf V 58, rf V 59] : List Value).set 0 (.int x))) = WG V (wI h 57 0 x) o := wgc (by decide) rfl (fun j hj => el_rowI _ hj)
theorem g58 : WG V h o 58 = .inl (V.2.1 1, 6, .inl (h.1 58)) := wc_at (by decide) rfl
theorem u58 {i : Nat} {x : Int32} : va_up (WG V h o) 58 (.inl (V.2.1 1, 6, .inl (upd (h.1 58) i x))) = WG V (wI h 58 i x) o := wgc (by decide) rfl (fun j hj => el_rowI _ hj)
theorem uf58 {f : Nat → Int32} : va_up (WG V h o) 58 (.inl (V.2.1 1, 6, .inl f)) = WG V (rowI h 58 f) o := wgc (by decide) rfl (fun j hj => el_rowI _ hj)
theorem g59 : WG V h o 59 = .inl (V.2.1 3, 6, .inl (h.1 59)) := wc_at (by decide) rfl
theorem u59 {i : Nat} {x : Int32} : va_up (WG V h o) 59 (.inl (V.2.1 3, 6, .inl (upd (h.1 59) i x))) = WG V (wI h 59 i x) o := wgc (by decide) rfl (fun j hj => el_rowI _ hj)
theorem uf59 {f : Nat → Int32} : va_up (WG V h o) 59 (.inl (V.2.1 3, 6, .inl f)) = WG V (rowI h 59 f) o := wgc (by decide) rfl (fun j hj => el_rowI _ hj)
theorem g60 : WG V h o 60 = .inr (3, [.int (h.1 60 0), rf V 61, rf V 62]) := wc_at (by decide) rfl
theorem u60_0 {x : Int32} : va_up (WG V h o) 60 (.inr (3, ([.int (h.1 60 0), rf V 61, rf V 62] : List Value).set 0 (.int x))) = WG V (wI h 60 0 x) o := wgc (by decide) rfl (fun j hj => el_rowI _ hj)
theorem g61 : WG V h o 61 = .inl (V.2.1 1, 6, .inl (h.1 61)) := wc_at (by decide) rfl
theorem u61 {i : Nat} {x : Int32} : va_up (WG V h o) 61 (.inl (V.2.1 1, 6, .inl (upd (h.1 61) i x))) = WG V (wI h 61 i x) o := wgc (by decide) rfl (fun j hj => el_rowI _ hj)
theorem uf61 {f : Nat → Int32} : va_up (WG V h o) 61 (.inl (V.2.1 1, 6, .inl f)) = WG V (rowI h 61 f) o := wgc (by decide) rfl (fun j hj => el_rowI _ hj)
theorem g62 : WG V h o 62 = .inl (V.2.1 3, 6, .inl (h.1 62)) := wc_at (by decide) rfl
theorem u62 {i : Nat} {x : Int32} : va_up (WG V h o) 62 (.inl (V.2.1 3, 6, .inl (upd (h.1 62) i x))) = WG V (wI h 62 i x) o := wgc (by decide) rfl (fun j hj => el_rowI _ hj)
theorem uf62 {f : Nat → Int32} : va_up (WG V h o) 62 (.inl (V.2.1 3, 6, .inl f)) = WG V (rowI h 62 f) o := wgc (by decide) rfl (fun j hj => el_rowI _ hj)
theorem g63 : WG V h o 63 = .inr (0, [rf V 64, .int (h.1 63 1), .int (h.1 63 2), .int (h.1 63 3), .int (h.1 63 4)]) := wc_at (by decide) rfl
theorem u63_1 {x : Int32} : va_up (WG V h o) 63 (.inr (0, ([rf V 64, .int (h.1 63 1), .int (h.1 63 2), .int (h.1 63 3), .int (h.1 63 4)] : List Value).set 1 (.int x))) = WG V (wI h 63 1 x) o := wgc (by decide) rfl (fun j hj => el_rowI _ hj)
theorem u63_2 {x : Int32} : va_up (WG V h o) 63 (.inr (0, ([rf V 64, .int (h.1 63 1), .int (h.1 63 2), .int (h.1 63 3), .int (h.1 63 4)] : List Value).set 2 (.int x))) = WG V (wI h 63 2 x) o := wgc (by decide) rfl (fun j hj => el_rowI _ hj)
theorem u63_3 {x : Int32} : va_up (WG V h o) 63 (.inr (0, ([rf V 64, .int (h.1 63 1), .int (h.1 63 2), .int (h.1 63 3), .int (h.1 63 4)] : List Value).set 3 (.int x))) = WG V (wI h 63 3 x) o := wgc (by decide) rfl (fun j hj => el_rowI _ hj)
theorem u63_4 {x : Int32} : va_up (WG V h o) 63 (.inr (0, ([rf V 64, .int (h.1 63 1), .int (h.1 63 2), .int (h.1 63 3), .int (h.1 63 4)] : List Value).set 4 (.int x))) = WG V (wI h 63 4 x) o := wgc (by decide) rfl (fun j hj => el_rowI _ hj)
theorem g64 : WG V h o 64 = .inl (V.2.1 1, 20, .inl (h.1 64)) := wc_at (by decide) rfl
theorem u64 {i : Nat} {x : Int32} : va_up (WG V h o) 64 (.inl (V.2.1 1, 20, .inl (upd (h.1 64) i x))) = WG V (wI h 64 i x) o := wgc (by decide) rfl (fun j hj => el_rowI _ hj)
theorem uf64 {f : Nat → Int32} : va_up (WG V h o) 64 (.inl (V.2.1 1, 20, .inl f)) = WG V (rowI h 64 f) o := wgc (by decide) rfl (fun j hj => el_rowI _ hj)
theorem g65 : WG V h o 65 = .inl (V.2.1 6, 6, .inr (.inr (.inr (.inr (fun i => some (V.2.2.1 + (90 + 2 * i))))))) := wc_at (by decide) rfl
theorem g66 : WG V h o 66 = .inr (2, [.int (h.1 66 0), .int (h.1 66 1), rf V 67, rf V 68, .int (h.1 66 4), rf V 69]) := wc_at (by decide) rfl
theorem u66_0 {x : Int32} : va_up (WG V h o) 66 (.inr (2, ([.int (h.1 66 0), .int (h.1 66 1), rf V 67, rf V 68, .int (h.1 66 4), rf V 69] : List Value).set 0 (.int x))) = WG V (wI h 66 0 x) o := wgc (by decide) rfl (fun j hj => el_rowI _ hj)
theorem u66_1 {x : Int32} : va_up (WG V h o) 66 (.inr (2, ([.int (h.1 66 0), .int (h.1 66 1), rf V 67, rf V 68, .int (h.1 66 4), rf V 69] : List Value).set 1 (.int x))) = WG V (wI h 66 1 x) o := wgc (by decide) rfl (fun j hj => el_rowI _ hj)
theorem u66_4 {x : Int32} : va_up (WG V h o) 66 (.inr (2, ([.int (h.1 66 0), .int (h.1 66 1), rf V 67, rf V 68, .int (h.1 66 4), rf V 69] : List Value).set 4 (.int x))) = WG V (wI h 66 4 x) o := wgc (by decide) rfl (fun j hj => el_rowI _ hj)
theorem g67 : WG V h o 67 = .inl (V.2.1 1, 10, .inl (h.1 67)) := wc_at (by decide) rfl
theorem u67 {i : Nat} {x : Int32} : va_up (WG V h o) 67 (.inl (V.2.1 1, 10, .inl (upd (h.1 67) i x))) = WG V (wI h 67 i x) o := wgc (by decide) rfl (fun j hj => el_rowI _ hj)
theorem uf67 {f : Nat → Int32} : va_up (WG V h o) 67 (.inl (V.2.1 1, 10, .inl f)) = WG V (rowI h 67 f) o := wgc (by decide) rfl (fun j hj => el_rowI _ hj)
theorem g68 : WG V h o 68 = .inl (V.2.1 1, 10, .inl (h.1 68)) := wc_at (by decide) rfl
theorem u68 {i : Nat} {x : Int32} : va_up (WG V h o) 68 (.inl (V.2.1 1, 10, .inl (upd (h.1 68) i x))) = WG V (wI h 68 i x) o := wgc (by decide) rfl (fun j hj => el_rowI _ hj)
theorem uf68 {f : Nat → Int32} : va_up (WG V h o) 68 (.inl (V.2.1 1, 10, .inl f)) = WG V (rowI h 68 f) o := wgc (by decide) rfl (fun j hj => el_rowI _ hj)
theorem g69 : WG V h o 69 = .inl (V.2.1 1, 100, .inl (h.1 69)) := wc_at (by decide) rfl
theorem u69 {i : Nat} {x : Int32} : va_up (WG V h o) 69 (.inl (V.2.1 1, 100, .inl (upd (h.1 69) i x))) = WG V (wI h 69 i x) o := wgc (by decide) rfl (fun j hj => el_rowI _ hj)
theorem uf69 {f : Nat → Int32} : va_up (WG V h o) 69 (.inl (V.2.1 1, 100, .inl f)) = WG V (rowI h 69 f) o := wgc (by decide) rfl (fun j hj => el_rowI _ hj)
theorem g70 : WG V h o 70 = .inr (2, [.int (h.1 70 0), .int (h.1 70 1), rf V 71, rf V 72, .int (h.1 70 4), rf V 73]) := wc_at (by decide) rfl
theorem u70_0 {x : Int32} : va_up (WG V h o) 70 (.inr (2, ([.int (h.1 70 0), .int (h.1 70 1), rf V 71, rf V 72, .int (h.1 70 4), rf V 73] : List Value).set 0 (.int x))) = WG V (wI h 70 0 x) o := wgc (by decide) rfl (fun j hj => el_rowI _ hj)
theorem u70_1 {x : Int32} : va_up (WG V h o) 70 (.inr (2, ([.int (h.1 70 0), .int (h.1 70 1), rf V 71, rf V 72, .int (h.1 70 4), rf V 73] : List Value).set 1 (.int x))) = WG V (wI h 70 1 x) o := wgc (by decide) rfl (fun j hj => el_rowI _ hj)
theorem u70_4 {x : Int32} : va_up (WG V h o) 70 (.inr (2, ([.int (h.1 70 0), .int (h.1 70 1), rf V 71, rf V 72, .int (h.1 70 4), rf V 73] : List Value).set 4 (.int x))) = WG V (wI h 70 4 x) o := wgc (by decide) rfl (fun j hj => el_rowI _ hj)
theorem g71 : WG V h o 71 = .inl (V.2.1 1, 10, .inl (h.1 71)) := wc_at (by decide) rfl
theorem u71 {i : Nat} {x : Int32} : va_up (WG V h o) 71 (.inl (V.2.1 1, 10, .inl (upd (h.1 71) i x))) = WG V (wI h 71 i x) o := wgc (by decide) rfl (fun j hj => el_rowI _ hj)
theorem uf71 {f : Nat → Int32} : va_up (WG V h o) 71 (.inl (V.2.1 1, 10, .inl f)) = WG V (rowI h 71 f) o := wgc (by decide) rfl (fun j hj => el_rowI _ hj)
theorem g72 : WG V h o 72 = .inl (V.2.1 1, 10, .inl (h.1 72)) := wc_at (by decide) rfl
theorem u72 {i : Nat} {x : Int32} : va_up (WG V h o) 72 (.inl (V.2.1 1, 10, .inl (upd (h.1 72) i x))) = WG V (wI h 72 i x) o := wgc (by decide) rfl (fun j hj => el_rowI _ hj)
theorem uf72 {f : Nat → Int32} : va_up (WG V h o) 72 (.inl (V.2.1 1, 10, .inl f)) = WG V (rowI h 72 f) o := wgc (by decide) rfl (fun j hj => el_rowI _ hj)
theorem g73 : WG V h o 73 = .inl (V.2.1 1, 100, .inl (h.1 73)) := wc_at (by decide) rfl
theorem u73 {i : Nat} {x : Int32} : va_up (WG V h o) 73 (.inl (V.2.1 1, 100, .inl (upd (h.1 73) i x))) = WG V (wI h 73 i x) o := wgc (by decide) rfl (fun j hj => el_rowI _ hj)
theorem uf73 {f : Nat → Int32} : va_up (WG V h o) 73 (.inl (V.2.1 1, 100, .inl f)) = WG V (rowI h 73 f) o := wgc (by decide) rfl (fun j hj => el_rowI _ hj)
theorem g74 : WG V h o 74 = .inr (2, [.int (h.1 74 0), .int (h.1 74 1), rf V 75, rf V 76, .int (h.1 74 4), rf V 77]) := wc_at (by decide) rfl
theorem u74_0 {x : Int32} : va_up (WG V h o) 74 (.inr (2, ([.int (h.1 74 0), .int (h.1 74 1), rf V 75, rf V 76, .int (h.1 74 4), rf V 77] : List Value).set 0 (.int x))) = WG V (wI h 74 0 x) o := wgc (by decide) rfl (fun j hj => el_rowI _ hj)
theorem u74_1 {x : Int32} : va_up (WG V h o) 74 (.inr (2, ([.int (h.1 74 0), .int (h.1 74 1), rf V 75, rf V 76, .int (h.1 74 4), rf V 77] : List Value).set 1 (.int x))) = WG V (wI h 74 1 x) o := wgc (by decide) rfl (fun j hj => el_rowI _ hj)
theorem u74_4 {x : Int32} : va_up (WG V h o) 74 (.inr (2, ([.int (h.1 74 0), .int (h.1 74 1), rf V 75, rf V 76, .int (h.1 74 4), rf V 77] : List Value).set 4 (.int x))) = WG V (wI h 74 4 x) o := wgc (by decide) rfl (fun j hj => el_rowI _ hj)
theorem g75 : WG V h o 75 = .inl (V.2.1 1, 10, .inl (h.1 75)) := wc_at (by decide) rfl
theorem u75 {i : Nat} {x : Int32} : va_up (WG V h o) 75 (.inl (V.2.1 1, 10, .inl (upd (h.1 75) i x))) = WG V (wI h 75 i x) o := wgc (by decide) rfl (fun j hj => el_rowI _ hj)
theorem uf75 {f : Nat → Int32} : va_up (WG V h o) 75 (.inl (V.2.1 1, 10, .inl f)) = WG V (rowI h 75 f) o := wgc (by decide) rfl (fun j hj => el_rowI _ hj)
theorem g76 : WG V h o 76 = .inl (V.2.1 1, 10, .inl (h.1 76)) := wc_at (by decide) rfl
theorem u76 {i : Nat} {x : Int32} : va_up (WG V h o) 76 (.inl (V.2.1 1, 10, .inl (upd (h.1 76) i x))) = WG V (wI h 76 i x) o := wgc (by decide) rfl (fun j hj => el_rowI _ hj)
theorem uf76 {f : Nat → Int32} : va_up (WG V h o) 76 (.inl (V.2.1 1, 10, .inl f)) = WG V (rowI h 76 f) o := wgc (by decide) rfl (fun j hj => el_rowI _ hj)
theorem g77 : WG V h o 77 = .inl (V.2.1 1, 100, .inl (h.1 77)) := wc_at (by decide) rfl
theorem u77 {i : Nat} {x : Int32} : va_up (WG V h o) 77 (.inl (V.2.1 1, 100, .inl (upd (h.1 77) i x))) = WG V (wI h 77 i x) o := wgc (by decide) rfl (fun j hj => el_rowI _ hj)
theorem uf77 {f : Nat → Int32} : va_up (WG V h o) 77 (.inl (V.2.1 1, 100, .inl f)) = WG V (rowI h 77 f) o := wgc (by decide) rfl (fun j hj => el_rowI _ hj)
theorem g78 : WG V h o 78 = .inr (2, [.int (h.1 78 0), .int (h.1 78 1), rf V 79, rf V 80, .int (h.1 78 4), rf V 81]) := wc_at (by decide) rfl
theorem u78_0 {x : Int32} : va_up (WG V h o) 78 (.inr (2, ([.int (h.1 78 0), .int (h.1 78 1), rf V 79, rf V 80, .int (h.1 78 4), rf V 81] : List Value).set 0 (.int x))) = WG V (wI h 78 0 x) o := wgc (by decide) rfl (fun j hj => el_rowI _ hj)
theorem u78_1 {x : Int32} : va_up (WG V h o) 78 (.inr (2, ([.int (h.1 78 0), .int (h.1 78 1), rf V 79, rf V 80, .int (h.1 78 4), rf V 81] : List Value).set 1 (.int x))) = WG V (wI h 78 1 x) o := wgc (by decide) rfl (fun j hj => el_rowI _ hj)
theorem u78_4 {x : Int32} : va_up (WG V h o) 78 (.inr (2, ([.int (h.1 78 0), .int (h.1 78 1), rf V 79, rf V 80, .int (h.1 78 4), rf V 81] : List Value).set 4 (.int x))) = WG V (wI h 78 4 x) o := wgc (by decide) rfl (fun j hj => el_rowI _ hj)
theorem g79 : WG V h o 79 = .inl (V.2.1 1, 10, .inl (h.1 79)) := wc_at (by decide) rfl
theorem u79 {i : Nat} {x : Int32} : va_up (WG V h o) 79 (.inl (V.2.1 1, 10, .inl (upd (h.1 79) i x))) = WG V (wI h 79 i x) o := wgc (by decide) rfl (fun j hj => el_rowI _ hj)
theorem uf79 {f : Nat → Int32} : va_up (WG V h o) 79 (.inl (V.2.1 1, 10, .inl f)) = WG V (rowI h 79 f) o := wgc (by decide) rfl (fun j hj => el_rowI _ hj)
theorem g80 : WG V h o 80 = .inl (V.2.1 1, 10, .inl (h.1 80)) := wc_at (by decide) rfl
theorem u80 {i : Nat} {x : Int32} : va_up (WG V h o) 80 (.inl (V.2.1 1, 10, .inl (upd (h.1 80) i x))) = WG V (wI h 80 i x) o := wgc (by decide) rfl (fun j hj => el_rowI _ hj)
theorem uf80 {f : Nat → Int32} : va_up (WG V h o) 80 (.inl (V.2.1 1, 10, .inl f)) = WG V (rowI h 80 f) o := wgc (by decide) rfl (fun j hj => el_rowI _ hj)
theorem g81 : WG V h o 81 = .inl (V.2.1 1, 100, .inl (h.1 81)) := wc_at (by decide) rfl
theorem u81 {i : Nat} {x : Int32} : va_up (WG V h o) 81 (.inl (V.2.1 1, 100, .inl (upd (h.1 81) i x))) = WG V (wI h 81 i x) o := wgc (by decide) rfl (fun j hj => el_rowI _ hj)
theorem uf81 {f : Nat → Int32} : va_up (WG V h o) 81 (.inl (V.2.1 1, 100, .inl f)) = WG V (rowI h 81 f) o := wgc (by decide) rfl (fun j hj => el_rowI _ hj)
theorem g82 : WG V h o 82 = .inr (2, [.int (h.1 82 0), .int (h.1 82 1), rf V 83, rf V 84, .int (h.1 82 4), rf V 85]) := wc_at (by decide) rfl
theorem u82_0 {x : Int32} : va_up (WG V h o) 82 (.inr (2, ([.int (h.1 82 0), .int (h.1 82 1), rf V 83, rf V 84, .int (h.1 82 4), rf V 85] : List Value).set 0 (.int x))) = WG V (wI h 82 0 x) o := wgc (by decide) rfl (fun j hj => el_rowI _ hj)
theorem u82_1 {x : Int32} : va_up (WG V h o) 82 (.inr (2, ([.int (h.1 82 0), .int (h.1 82 1), rf V 83, rf V 84, .int (h.1 82 4), rf V 85] : List Value).set 1 (.int x))) = WG V (wI h 82 1 x) o := wgc (by decide) rfl (fun j hj => el_rowI _ hj)
theorem u82_4 {x : Int32} : va_up (WG V h o) 82 (.inr (2, ([.int (h.1 82 0), .int (h.1 82 1), rf V 83, rf V 84, .int (h.1 82 4), rf V 85] : List Value).set 4 (.int x))) = WG V (wI h 82 4 x) o := wgc (by decide) rfl (fun j hj => el_rowI _ hj)
theorem g83 : WG V h o 83 = .inl (V.2.1 1, 10, .inl (h.1 83)) := wc_at (by decide) rfl
theorem u83 {i : Nat} {x : Int32} : va_up (WG V h o) 83 (.inl (V.2.1 1, 10, .inl (upd (h.1 83) i x))) = WG V (wI h 83 i x) o := wgc (by decide) rfl (fun j hj => el_rowI _ hj)
theorem uf83 {f : Nat → Int32} : va_up (WG V h o) 83 (.inl (V.2.1 1, 10, .inl f)) = WG V (rowI h 83 f) o := wgc (by decide) rfl (fun j hj => el_rowI _ hj)
theorem g84 : WG V h o 84 = .inl (V.2.1 1, 10, .inl (h.1 84)) := wc_at (by decide) rfl
theorem u84 {i : Nat} {x : Int32} : va_up (WG V h o) 84 (.inl (V.2.1 1, 10, .inl (upd (h.1 84) i x))) = WG V (wI h 84 i x) o := wgc (by decide) rfl (fun j hj => el_rowI _ hj)
theorem uf84 {f : Nat → Int32} : va_up (WG V h o) 84 (.inl (V.2.1 1, 10, .inl f)) = WG V (rowI h 84 f) o := wgc (by decide) rfl (fun j hj => el_rowI _ hj)
theorem g85 : WG V h o 85 = .inl (V.2.1 1, 100, .inl (h.1 85)) := wc_at (by decide) rfl
theorem u85 {i : Nat} {x : Int32} : va_up (WG V h o) 85 (.inl (V.2.1 1, 100, .inl (upd (h.1 85) i x))) = WG V (wI h 85 i x) o := wgc (by decide) rfl (fun j hj => el_rowI _ hj)
theorem uf85 {f : Nat → Int32} : va_up (WG V h o) 85 (.inl (V.2.1 1, 100, .inl f)) = WG V (rowI h 85 f) o := wgc (by decide) rfl (fun j hj => el_rowI _ hj)
theorem g86 : WG V h o 86 = .inr (2, [.int (h.1 86 0), .int (h.1 86 1), rf V 87, rf V 88, .int (h.1 86 4), rf V 89]) := wc_at (by decide) rfl
theorem u86_0 {x : Int32} : va_up (WG V h o) 86 (.inr (2, ([.int (h.1 86 0), .int (h.1 86 1), rf V 87, rf V 88, .int (h.1 86 4), rf V 89] : List Value).set 0 (.int x))) = WG V (wI h 86 0 x) o := wgc (by decide) rfl (fun j hj => el_rowI _ hj)
theorem u86_1 {x : Int32} : va_up (WG V h o) 86 (.inr (2, ([.int (h.1 86 0), .int (h.1 86 1), rf V 87, rf V 88, .int (h.1 86 4), rf V 89] : List Value).set 1 (.int x))) = WG V (wI h 86 1 x) o := wgc (by decide) rfl (fun j hj => el_rowI _ hj)
theorem u86_4 {x : Int32} : va_up (WG V h o) 86 (.inr (2, ([.int (h.1 86 0), .int (h.1 86 1), rf V 87, rf V 88, .int (h.1 86 4), rf V 89] : List Value).set 4 (.int x))) = WG V (wI h 86 4 x) o := wgc (by decide) rfl (fun j hj => el_rowI _ hj)
theorem g87 : WG V h o 87 = .inl (V.2.1 1, 10, .inl (h.1 87)) := wc_at (by decide) rfl
theorem u87 {i : Nat} {x : Int32} : va_up (WG V h o) 87 (.inl (V.2.1 1, 10, .inl (upd (h.1 87) i x))) = WG V (wI h 87 i x) o := wgc (by decide) rfl (fun j hj => el_rowI _ hj)
theorem uf87 {f : Nat → Int32} : va_up (WG V h o) 87 (.inl (V.2.1 1, 10, .inl f)) = WG V (rowI h 87 f) o := wgc (by decide) rfl (fun j hj => el_rowI _ hj)
theorem g88 : WG V h o 88 = .inl (V.2.1 1, 10, .inl (h.1 88)) := wc_at (by decide) rfl
theorem u88 {i : Nat} {x : Int32} : va_up (WG V h o) 88 (.inl (V.2.1 1, 10, .inl (upd (h.1 88) i x))) = WG V (wI h 88 i x) o := wgc (by decide) rfl (fun j hj => el_rowI _ hj)
theorem uf88 {f : Nat → Int32} : va_up (WG V h o) 88 (.inl (V.2.1 1, 10, .inl f)) = WG V (rowI h 88 f) o := wgc (by decide) rfl (fun j hj => el_rowI _ hj)
theorem g89 : WG V h o 89 = .inl (V.2.1 1, 100, .inl (h.1 89)) := wc_at (by decide) rfl
theorem u89 {i : Nat} {x : Int32} : va_up (WG V h o) 89 (.inl (V.2.1 1, 100, .inl (upd (h.1 89) i x))) = WG V (wI h 89 i x) o := wgc (by decide) rfl (fun j hj => el_rowI _ hj)
theorem uf89 {f : Nat → Int32} : va_up (WG V h o) 89 (.inl (V.2.1 1, 100, .inl f)) = WG V (rowI h 89 f) o := wgc (by decide) rfl (fun j hj => el_rowI _ hj)
theorem g90 : WG V h o 90 = .inr (8, [.int (h.1 90 0), .int (h.1 90 1), rf V 91]) := wc_at (by decide) rfl
theorem u90_0 {x : Int32} : va_up (WG V h o) 90 (.inr (8, ([.int (h.1 90 0), .int (h.1 90 1), rf V 91] : List Value).set 0 (.int x))) = WG V (wI h 90 0 x) o := wgc (by decide) rfl (fun j hj => el_rowI _ hj)
theorem u90_1 {x : Int32} : va_up (WG V h o) 90 (.inr (8, ([.int (h.1 90 0), .int (h.1 90 1), rf V 91] : List Value).set 1 (.int x))) = WG V (wI h 90 1 x) o := wgc (by decide) rfl (fun j hj => el_rowI _ hj)
theorem g91 : WG V h o 91 = .inl (V.2.1 2, 60, .inr (.inl (h.2.1 91))) := wc_at (by decide) rfl
theorem u91 {i : Nat} {x : Int64} : va_up (WG V h o) 91 (.inl (V.2.1 2, 60, .inr (.inl (vp_updL (h.2.1 91) i x)))) = WG V (wL h 91 i x) o := wgc (by decide) rfl (fun j hj => el_rowL _ hj)
theorem uf91 {f : Nat → Int64} : va_up (WG V h o) 91 (.inl (V.2.1 2, 60, .inr (.inl f))) = WG V (rowL h 91 f) o := wgc (by decide) rfl (fun j hj => el_rowL _ hj)
theorem g92 : WG V h o 92 = .inr (8, [.int (h.1 92 0), .int (h.1 92 1), rf V 93]) := wc_at (by decide) rfl
theorem u92_0 {x : Int32} : va_up (WG V h o) 92 (.inr (8, ([.int (h.1 92 0), .int (h.1 92 1), rf V 93] : List Value).set 0 (.int x))) = WG V (wI h 92 0 x) o := wgc (by decide) rfl (fun j hj => el_rowI _ hj)
theorem u92_1 {x : Int32} : va_up (WG V h o) 92 (.inr (8, ([.int (h.1 92 0), .int (h.1 92 1), rf V 93] : List Value).set 1 (.int x))) = WG V (wI h 92 1 x) o := wgc (by decide) rfl (fun j hj => el_rowI _ hj)
theorem g93 : WG V h o 93 = .inl (V.2.1 2, 60, .inr (.inl (h.2.1 93))) := wc_at (by decide) rfl
theorem u93 {i : Nat} {x : Int64} : va_up (WG V h o) 93 (.inl (V.2.1 2, 60, .inr (.inl (vp_updL (h.2.1 93) i x)))) = WG V (wL h 93 i x) o := wgc (by decide) rfl (fun j hj => el_rowL _ hj)
theorem uf93 {f : Nat → Int64} : va_up (WG V h o) 93 (.inl (V.2.1 2, 60, .inr (.inl f))) = WG V (rowL h 93 f) o := wgc (by decide) rfl (fun j hj => el_rowL _ hj)
theorem g94 : WG V h o 94 = .inr (8, [.int (h.1 94 0), .int (h.1 94 1), rf V 95]) := wc_at (by decide) rfl
theorem u94_0 {x : Int32} : va_up (WG V h o) 94 (.inr (8, ([.int (h.1 94 0), .int (h.1 94 1), rf V 95] : List Value).set 0 (.int x))) = WG V (wI h 94 0 x) o := wgc (by decide) rfl (fun j hj => el_rowI _ hj)
theorem u94_1 {x : Int32} : va_up (WG V h o) 94 (.inr (8, ([.int (h.1 94 0), .int (h.1 94 1), rf V 95] : List Value).set 1 (.int x))) = WG V (wI h 94 1 x) o := wgc (by decide) rfl (fun j hj => el_rowI _ hj)
theorem g95 : WG V h o 95 = .inl (V.2.1 2, 60, .inr (.inl (h.2.1 95))) := wc_at (by decide) rfl
theorem u95 {i : Nat} {x : Int64} : va_up (WG V h o) 95 (.inl (V.2.1 2, 60, .inr (.inl (vp_updL (h.2.1 95) i x)))) = WG V (wL h 95 i x) o := wgc (by decide) rfl (fun j hj => el_rowL _ hj)
theorem uf95 {f : Nat → Int64} : va_up (WG V h o) 95 (.inl (V.2.1 2, 60, .inr (.inl f))) = WG V (rowL h 95 f) o := wgc (by decide) rfl (fun j hj => el_rowL _ hj)
theorem g96 : WG V h o 96 = .inr (8, [.int (h.1 96 0), .int (h.1 96 1), rf V 97]) := wc_at (by decide) rfl
theorem u96_0 {x : Int32} : va_up (WG V h o) 96 (.inr (8, ([.int (h.1 96 0), .int (h.1 96 1), rf V 97] : List Value).set 0 (.int x))) = WG V (wI h 96 0 x) o := wgc (by decide) rfl (fun j hj => el_rowI _ hj)
theorem u96_1 {x : Int32} : va_up (WG V h o) 96 (.inr (8, ([.int (h.1 96 0), .int (h.1 96 1), rf V 97] : List Value).set 1 (.int x))) = WG V (wI h 96 1 x) o := wgc (by decide) rfl (fun j hj => el_rowI _ hj)
theorem g97 : WG V h o 97 = .inl (V.2.1 2, 60, .inr (.inl (h.2.1 97))) := wc_at (by decide) rfl
theorem u97 {i : Nat} {x : Int64} : va_up (WG V h o) 97 (.inl (V.2.1 2, 60, .inr (.inl (vp_updL (h.2.1 97) i x)))) = WG V (wL h 97 i x) o := wgc (by decide) rfl (fun j hj => el_rowL _ hj)
theorem uf97 {f : Nat → Int64} : va_up (WG V h o) 97 (.inl (V.2.1 2, 60, .inr (.inl f))) = WG V (rowL h 97 f) o := wgc (by decide) rfl (fun j hj => el_rowL _ hj)
theorem g98 : WG V h o 98 = .inr (8, [.int (h.1 98 0), .int (h.1 98 1), rf V 99]) := wc_at (by decide) rfl
theorem u98_0 {x : Int32} : va_up (WG V h o) 98 (.inr (8, ([.int (h.1 98 0), .int (h.1 98 1), rf V 99] : List Value).set 0 (.int x))) = WG V (wI h 98 0 x) o := wgc (by decide) rfl (fun j hj => el_rowI _ hj)
theorem u98_1 {x : Int32} : va_up (WG V h o) 98 (.inr (8, ([.int (h.1 98 0), .int (h.1 98 1), rf V 99] : List Value).set 1 (.int x))) = WG V (wI h 98 1 x) o := wgc (by decide) rfl (fun j hj => el_rowI _ hj)
theorem g99 : WG V h o 99 = .inl (V.2.1 2, 60, .inr (.inl (h.2.1 99))) := wc_at (by decide) rfl
theorem u99 {i : Nat} {x : Int64} : va_up (WG V h o) 99 (.inl (V.2.1 2, 60, .inr (.inl (vp_updL (h.2.1 99) i x)))) = WG V (wL h 99 i x) o := wgc (by decide) rfl (fun j hj => el_rowL _ hj)
theorem uf99 {f : Nat → Int64} : va_up (WG V h o) 99 (.inl (V.2.1 2, 60, .inr (.inl f))) = WG V (rowL h 99 f) o := wgc (by decide) rfl (fun j hj => el_rowL _ hj)
theorem g100 : WG V h o 100 = .inr (8, [.int (h.1 100 0), .int (h.1 100 1), rf V 101]) := wc_at (by decide) rfl
theorem u100_0 {x : Int32} : va_up (WG V h o) 100 (.inr (8, ([.int (h.1 100 0), .int (h.1 100 1), rf V 101] : List Value).set 0 (.int x))) = WG V (wI h 100 0 x) o := wgc (by decide) rfl (fun j hj => el_rowI _ hj)
theorem u100_1 {x : Int32} : va_up (WG V h o) 100 (.inr (8, ([.int (h.1 100 0), .int (h.1 100 1), rf V 101] : List Value).set 1 (.int x))) = WG V (wI h 100 1 x) o := wgc (by decide) rfl (fun j hj => el_rowI _ hj)
theorem g101 : WG V h o 101 = .inl (V.2.1 2, 60, .inr (.inl (h.2.1 101))) := wc_at (by decide) rfl
theorem u101 {i : Nat} {x : Int64} : va_up (WG V h o) 101 (.inl (V.2.1 2, 60, .inr (.inl (vp_updL (h.2.1 101) i x)))) = WG V (wL h 101 i x) o := wgc (by decide) rfl (fun j hj => el_rowL _ hj)
theorem uf101 {f : Nat → Int64} : va_up (WG V h o) 101 (.inl (V.2.1 2, 60, .inr (.inl f))) = WG V (rowL h 101 f) o := wgc (by decide) rfl (fun j hj => el_rowL _ hj)
theorem g102 : WG V o h 102 = .inr (10, [.int (h.1 102 0), .int (h.1 102 1), .int (h.1 102 2), rf V 103, rf V 104, rf V 105, rf V 106, .int (h.1 102 7), .int (h.1 102 8), .int (h.1 102 9), .int (h.1 102 10), .int (h.1 102 11), rf V 107, rf V 108, rf V 109, rf V 110, rf V 111, rf V 112, rf V 113, rf V 114, .int (h.1 102 20), .int (h.1 102 21), .int (h.1 102 22), rf V 115, rf V 116, .int (h.1 102 25), rf V 117, rf V 118, .int (h.1 102 28), .int (h.1 102 29), rf V 119, rf V 120, rf V 121, .int (h.1 102 33), rf V 122, rf V 123, rf V 124, .int (h.1 102 37), .int (h.1 102 38), rf V 125, rf V 126, rf V 127, .int (h.1 102 42), .int (h.1 102 43), .int (h.1 102 44), .int (h.1 102 45), .int (h.1 102 46), .int (h.1 102 47), .int (h.1 102 48), .int (h.1 102 49), rf V 128, rf V 129, rf V 130, rf V 131, rf V 132, rf V 133, rf V 134, rf V 135, rf V 136, rf V 137, .int (h.1 102 60), rf V 138, rf V 139, rf V 140, rf V 141, rf V 142]) := wm_at (by decide) rfl
theorem u102_0 {x : Int32} : va_up (WG V o h) 102 (.inr (10, ([.int (h.1 102 0), .int (h.1 102 1), .int (h.1 102 2), rf V 103, rf V 104, rf V 105, rf V 106, .int (h.1 102 7), .int (h.1 102 8), .int (h.1 102 9), .int (h.1 102 10), .int (h.1 102 11), rf V 107, rf V 108, rf V 109, rf V 110, rf V 111, rf V 112, rf V 113, rf V 114, .int (h.1 102 20), .int (h.1 102 21), .int (h.1 102 22), rf V 115, rf V 116, .int (h.1 102 25), rf V 117, rf V 118, .int (h.1 102 28), .int (h.1 102 29), rf V 119, rf V 120, rf V 121, .int (h.1 102 33), rf V 122, rf V 123, rf V 124, .int (h.1 102 37), .int (h.1 102 38), rf V 125, rf V 126, rf V 127, .int (h.1 102 42), .int (h.1 102 43), .int (h.1 102 44), .int (h.1 102 45), .int (h.1 102 46), .int (h.1 102 47), .int (h.1 102 48), .int (h.1 102 49), rf V 128, rf V 129, rf V 130, rf V 131, rf V 132, rf V 133, rf V 134, rf V 135, rf V 136, rf V 137, .int (h.1 102 60), rf V 138, rf V 139, rf V 140, rf V 141, rf V 142] : List Value).set 0 (.int x))) = WG V o (wI h 102 0 x) := wgm (by decide) rfl (fun j hj => el_rowI _ hj)
theorem u102_1 {x : Int32} : va_up (WG V o h) 102 (.inr (10, ([.int (h.1 102 0), .int (h.1 102 1), .int (h.1 102 2), rf V 103, rf V 104, rf V 105, rf V 106, .int (h.1 102 7), .int (h.1 102 8), .int (h.1 102 9), .int (h.1 102 10), .int (h.1 102 11), rf V 107, rf V 108, rf V 109, rf V 110, rf V 111, rf V 112, rf V 113, rf V 114, .int (h.1 102 20), .int (h.1 102 21), .int (h.1 102 22), rf V 115, rf V 116, .int (h.1 102 25), rf V 117, rf V 118, .int (h.1 102 28), .int (h.1 102 29), rf V 119, rf V 120, rf V 121, .int (h.1 102 33), rf V 122, rf V 123, rf V 124, .int (h.1 102 37), .int (h.1 102 38), rf V 125, rf V 126, rf V 127, .int (h.1 102 42), .int (h.1 102 43), .int (h.1 102 44), .int (h.1 102 45), .int (h.1 102 46), .int (h.1 102 47), .int (h.1 102 48), .int (h.1 102 49), rf V 128, rf V 129, rf V 130, rf V 131, rf V 132, rf V 133, rf V 134, rf V 135, rf V 136, rf V 137, .int (h.1 102 60), rf V 138, rf V 139, rf V 140, rf V 141, rf V 142] : List Value).set 1 (.int x))) = WG V o (wI h 102 1 x) := wgm (by decide) rfl (fun j hj => el_rowI _ hj)
theorem u102_2 {x : Int32} : va_up (WG V o h) 102 (.inr (10, ([.int (h.1 102 0), .int (h.1 102 1), .int (h.1 102 2), rf V 103, rf V 104, rf V 105, rf V 106, .int (h.1 102 7), .int (h.1 102 8), .int (h.1 102 9), .int (h.1 102 10), .int (h.1 102 11), rf V 107, rf V 108, rf V 109, rf V 110, rf V 111, rf V 112, rf V 113, rf V 114, .int (h.1 102 20), .int (h.1 102 21), .int (h.1 102 22), rf V 115, rf V 116, .int (h.1 102 25), rf V 117, rf V 118, .int (h.1 102 28), .int (h.1 102 29), rf V 119, rf V 120, rf V 121, .int (h.1 102 33), rf V 122, rf V 123, rf V 124, .int (h.1 102 37), .int (h.1 102 38), rf V 125, rf V 126, rf V 127, .int (h.1 102 42), .int (h.1 102 43), .int (h.1 102 44), .int (h.1 102 45), .int (h.1 102 46), .int (h.1 102 47), .int (h.1 102 48), .int (h.1 102 49), rf V 128, rf V 129, rf V 130, rf V 131, rf V 132, rf V 133, rf V 134, rf V 135, rf V 136, rf V 137, .int (h.1 102 60), rf V 138, rf V 139, rf V 140, rf V 141, rf V 142] : List Value).set 2 (.int x))) = WG V o (wI h 102 2 x) := wgm (by decide) rfl (fun j hj => el_rowI _ hj)
theorem u102_7 {x : Int32} : va_up (WG V o h) 102 (.inr (10, ([.int (h.1 102 0), .int (h.1 102 1), .int (h.1 102 2), rf V 103, rf V 104, rf V 105, rf V 106, .int (h.1 102 7), .int (h.1 102 8), .int (h.1 102 9), .int (h.1 102 10), .int (h.1 102 11), rf V 107, rf V 108, rf V 109, rf V 110, rf V 111, rf V 112, rf V 113, rf V 114, .int (h.1 102 20), .int (h.1 102 21), .int (h.1 102 22), rf V 115, rf V 116, .int (h.1 102 25), rf V 117, rf V 118, .int (h.1 102 28), .int (h.1 102 29), rf V 119, rf V 120, rf V 121, .int (h.1 102 33), rf V 122, rf V 123, rf V 124, .int (h.1 102 37), .int (h.1 102 38), rf V 125, rf V 126, rf V 127, .int (h.1 102 42), .int (h.1 102 43), .int (h.1 102 44), .int (h.1 102 45), .int (h.1 102 46), .int (h.1 102 47), .int (h.1 102 48), .int (h.1 102 49), rf V 128, rf V 129, rf V 130, rf V 131, rf V 132, rf V 133, rf V 134, rf V 135, rf V 136, rf V 137, .int (h.1 102 60), rf V 138, rf V 139, rf V 140, rf V 141, rf V 142] : List Value).set 7 (.int x))) = WG V o (wI h 102 7 x) := wgm (by decide) rfl (fun j hj => el_rowI _ hj)
theorem u102_8 {x : Int32} : va_up (WG V o h) 102 (.inr (10, ([.int (h.1 102 0), .int (h.1 102 1), .int (h.1 102 2), rf V 103, rf V 104, rf V 105, rf V 106, .int (h.1 102 7), .int (h.1 102 8), .int (h.1 102 9), .int (h.1 102 10), .int (h.1 102 11), rf V 107, rf V 108, rf V 109, rf V 110, rf V 111, rf V 112, rf V 113, rf V 114, .int (h.1 102 20), .int (h.1 102 21), .int (h.1 102 22), rf V 115, rf V 116, .int (h.1 102 25), rf V 117, rf V 118, .int (h.1 102 28), .int (h.1 102 29), rf V 119, rf V 120, rf V 121, .int (h.1 102 33), rf V 122, rf V 123, rf V 124, .int (h.1 102 37), .int (h.1 102 38), rf V 125, rf V 126, rf V 127, .int (h.1 102 42), .int (h.1 102 43), .int (h.1 102 44), .int (h.1 102 45), .int (h.1 102 46), .int (h.1 102 47), .int (h.1 102 48), .int (h.1 102 49), rf V 128, rf V 129, rf V 130, rf V 131, rf V 132, rf V 133, rf V 134, rf V 135, rf V 136, rf V 137, .int (h.1 102 60), rf V 138, rf V 139, rf V 140, rf V 141, rf V 142] : List Value).set 8 (.int x))) = WG V o (wI h 102 8 x) := wgm (by decide) rfl (fun j hj => el_rowI _ hj)
theorem u102_9 {x : Int32} : va_up (WG V o h) 102 (.inr (10, ([.int (h.1 102 0), .int (h.1 102 1), .int (h.1 102 2), rf V 103, rf V 104, rf V 105, rf V 106, .int (h.1 102 7), .int (h.1 102 8), .int (h.1 102 9), .int (h.1 102 10), .int (h.1 102 11), rf V 107, rf V 108, rf V 109, rf V 110, rf V 111, rf V 112, rf V 113, rf V 114, .int (h.1 102 20), .int (h.1 102 21), .int (h.1 102 22), rf V 115, rf V 116, .int (h.1 102 25), rf V 117, rf V 118, .int (h.1 102 28), .int (h.1 102 29), rf V 119, rf V 120, rf V 121, .int (h.1 102 33), rf V 122, rf V 123, rf V 124, .int (h.1 102 37), .int (h.1 102 38), rf V 125, rf V 126, rf V 127, .int (h.1 102 42), .int (h.1 102 43), .int (h.1 102 44), .int (h.1 102 45), .int (h.1 102 46), .int (h.1 102 47), .int (h.1 102 48), .int (h.1 102 49), rf V 128, rf V 129, rf V 130, rf V 131, rf V 132, rf V 133, rf V 134, rf V 135, rf V 136, rf V 137, .int (h.1 102 60), rf V 138, rf V 139, rf V 140, rf V 141, rf V 142] : List Value).set 9 (.int x))) = WG V o (wI h 102 9 x) := wgm (by decide) rfl (fun j hj => el_rowI _ hj)
theorem u102_10 {x : Int32} : va_up (WG V o h) 102 (.inr (10, ([.int (h.1 102 0), .int (h.1 102 1), .int (h.1 102 2), rf V 103, rf V 104, rf V 105, rf V 106, .int (h.1 102 7), .int (h.1 102 8), .int (h.1 102 9), .int (h.1 102 10), .int (h.1 102 11), rf V 107, rf V 108, rf V 109, rf V 110, rf V 111, rf V 112, rf V 113, rf V 114, .int (h.1 102 20), .int (h.1 102 21), .int (h.1 102 22), rf V 115, rf V 116, .int (h.1 102 25), rf V 117, rf V 118, .int (h.1 102 28), .int (h.1 102 29), rf V 119, rf V 120, rf V 121, .int (h.1 102 33), rf V 122, rf V 123, rf V 124, .int (h.1 102 37), .int (h.1 102 38), rf V 125, rf V 126, rf V 127, .int (h.1 102 42), .int (h.1 102 43), .int (h.1 102 44), .int (h.1 102 45), .int (h.1 102 46), .int (h.1 102 47), .int (h.1 102 48), .int (h.1 102 49), rf V 128, rf V 129, rf V 130, rf V 131, rf V 132, rf V 133, rf V 134, rf V 135, rf V 136, rf V 137, .int (h.1 102 60), rf V 138, rf V 139, rf V 140, rf V 141, rf V 142] : List Value).set 10 (.int x))) = WG V o (wI h 102 10 x) := wgm (by decide) rfl (fun j hj => el_rowI _ hj)
theorem u102_11 {x : Int32} : va_up (WG V o h) 102 (.inr (10, ([.int (h.1 102 0), .int (h.1 102 1), .int (h.1 102 2), rf V 103, rf V 104, rf V 105, rf V 106, .int (h.1 102 7), .int (h.1 102 8), .int (h.1 102 9), .int (h.1 102 10), .int (h.1 102 11), rf V 107, rf V 108, rf V 109, rf V 110, rf V 111, rf V 112, rf V 113, rf V 114, .int (h.1 102 20), .int (h.1 102 21), .int (h.1 102 22), rf V 115, rf V 116, .int (h.1 102 25), rf V 117, rf V 118, .int (h.1 102 28), .int (h.1 102 29), rf V 119, rf V 120, rf V 121, .int (h.1 102 33), rf V 122, rf V 123, rf V 124, .int (h.1 102 37), .int (h.1 102 38), rf V 125, rf V 126, rf V 127, .int (h.1 102 42), .int (h.1 102 43), .int (h.1 102 44), .int (h.1 102 45), .int (h.1 102 46), .int (h.1 102 47), .int (h.1 102 48), .int (h.1 102 49), rf V 128, rf V 129, rf V 130, rf V 131, rf V 132, rf V 133, rf V 134, rf V 135, rf V 136, rf V 137, .int (h.1 102 60), rf V 138, rf V 139, rf V 140, rf V 141, rf V 142] : List Value).set 11 (.int x))) = WG V o (wI h 102 11 x) := wgm (by decide) rfl (fun j hj => el_rowI _ hj)
theorem u102_20 {x : Int32} : va_up (WG V o h) 102 (.inr (10, ([.int (h.1 102 0), .int (h.1 102 1), .int (h.1 102 2), rf V 103, rf V 104, rf V 105, rf V 106, .int (h.1 102 7), .int (h.1 102 8), .int (h.1 102 9), .int (h.1 102 10), .int (h.1 102 11), rf V 107, rf V 108, rf V 109, rf V 110, rf V 111, rf V 112, rf V 113, rf V 114, .int (h.1 102 20), .int (h.1 102 21), .int (h.1 102 22), rf V 115, rf V 116, .int (h.1 102 25), rf V 117, rf V 118, .int (h.1 102 28), .int (h.1 102 29), rf V 119, rf V 120, rf V 121, .int (h.1 102 33), rf V 122, rf V 123, rf V 124, .int (h.1 102 37), .int (h.1 102 38), rf V 125, rf V 126, rf V 127, .int (h.1 102 42), .int (h.1 102 43), .int (h.1 102 44), .int (h.1 102 45), .int (h.1 102 46), .int (h.1 102 47), .int (h.1 102 48), .int (h.1 102 49), rf V 128, rf V 129, rf V 130, rf V 131, rf V 132, rf V 133, rf V 134, rf V 135, rf V 136, rf V 137, .int (h.1 102 60), rf V 138, rf V 139, rf V 140, rf V 141, rf V 142] : List Value).set 20 (.int x))) = WG V o (wI h 102 20 x) := wgm (by decide) rfl (fun j hj => el_rowI _ hj)
theorem u102_21 {x : Int32} : va_up (WG V o h) 102 (.inr (10, ([.int (h.1 102 0), .int (h.1 102 1), .int (h.1 102 2), rf V 103, rf V 104, rf V 105, rf V 106, .int (h.1 102 7), .int (h.1 102 8), .int (h.1 102 9), .int (h.1 102 10), .int (h.1 102 11), rf V 107, rf V 108, rf V 109, rf V 110, rf V 111, rf V 112, rf V 113, rf V 114, .int (h.1 102 20), .int (h.1 102 21), .int (h.1 102 22), rf V 115, rf V 116, .int (h.1 102 25), rf V 117, rf V 118, .int (h.1 102 28), .int (h.1 102 29), rf V 119, rf V 120, rf V 121, .int (h.1 102 33), rf V 122, rf V 123, rf V 124, .int (h.1 102 37), .int (h.1 102 38), rf V 125, rf V 126, rf V 127, .int (h.1 102 42), .int (h.1 102 43), .int (h.1 102 44), .int (h.1 102 45), .int (h.1 102 46), .int (h.1 102 47), .int (h.1 102 48), .int (h.1 102 49), rf V 128, rf V 129, rf V 130, rf V 131, rf V 132, rf V 133, rf V 134, rf V 135, rf V 136, rf V 137, .int (h.1 102 60), rf V 138, rf V 139, rf V 140, rf V 141, rf V 142] : List Value).set 21 (.int x))) = WG V o (wI h 102 21 x) := wgm (by decide) rfl (fun j hj => el_rowI _ hj)
theorem u102_22 {x : Int32} : va_up (WG V o h) 102 (.inr (10, ([.int (h.1 102 0), .int (h.1 102 1), .int (h.1 102 2), rf V 103, rf V 104, rf V 105, rf V 106, .int (h.1 102 7), .int (h.1 102 8), .int (h.1 102 9), .int (h.1 102 10), .int (h.1 102 11), rf V 107, rf V 108, rf V 109, rf V 110, rf V 111, rf V 112, rf V 113, rf V 114, .int (h.1 102 20), .int (h.1 102 21), .int (h.1 102 22), rf V 115, rf V 116, .int (h.1 102 25), rf V 117, rf V 118, .int (h.1 102 28), .int (h.1 102 29), rf V 119, rf V 120, rf V 121, .int (h.1 102 33), rf V 122, rf V 123, rf V 124, .int (h.1 102 37), .int (h.1 102 38), rf V 125, rf V 126, rf V 127, .int (h.1 102 42), .int (h.1 102 43), .int (h.1 102 44), .int (h.1 102 45), .int (h.1 102 46), .int (h.1 102 47), .int (h.1 102 48), .int (h.1 102 49), rf V 128, rf V 129, rf V 130, rf V 131, rf V 132, rf V 133, rf V 134, rf V 135, rf V 136, rf V 137, .int (h.1 102 60), rf V 138, rf V 139, rf V 140, rf V 141, rf V 142] : List Value).set 22 (.int x))) = WG V o (wI h 102 22 x) := wgm (by decide) rfl (fun j hj => el_rowI _ hj)
theorem u102_25 {x : Int32} : va_up (WG V o h) 102 (.inr (10, ([.int (h.1 102 0), .int (h.1 102 1), .int (h.1 102 2), rf V 103, rf V 104, rf V 105, rf V 106, .int (h.1 102 7), .int (h.1 102 8), .int (h.1 102 9), .int (h.1 102 10), .int (h.1 102 11), rf V 107, rf V 108, rf V 109, rf V 110, rf V 111, rf V 112, rf V 113, rf V 114, .int (h.1 102 20), .int (h.1 102 21), .int (h.1 102 22), rf V 115, rf V 116, .int (h.1 102 25), rf V 117, rf V 118, .int (h.1 102 28), .int (h.1 102 29), rf V 119, rf V 120, rf V 121, .int (h.1 102 33), rf V 122, rf V 123, rf V 124, .int (h.1 102 37), .int (h.1 102 38), rf V 125, rf V 126, rf V 127, .int (h.1 102 42), .int (h.1 102 43), .int (h.1 102 44), .int (h.1 102 45), .int (h.1 102 46), .int (h.1 102 47), .int (h.1 102 48), .int (h.1 102 49), rf V 128, rf V 129, rf V 130, rf V 131, rf V 132, rf V 133, rf V 134, rf V 135, rf V 136, rf V 137, .int (h.1 102 60), rf V 138, rf V 139, rf V 140, rf V 141, rf V 142] : List Value).set 25 (.int x))) = WG V o (wI h 102 25 x) := wgm (by decide) rfl (fun j hj => el_rowI _ hj)
theorem u102_28 {x : Int32} : va_up (WG V o h) 102 (.inr (10, ([.int (h.1 102 0), .int (h.1 102 1), .int (h.1 102 2), rf V 103, rf V 104, rf V 105, rf V 106, .int (h.1 102 7), .int (h.1 102 8), .int (h.1 102 9), .int (h.1 102 10), .int (h.1 102 11), rf V 107, rf V 108, rf V 109, rf V 110, rf V 111, rf V 112, rf V 113, rf V 114, .int (h.1 102 20), .int (h.1 102 21), .int (h.1 102 22), rf V 115, rf V 116, .int (h.1 102 25), rf V 117, rf V 118, .int (h.1 102 28), .int (h.1 102 29), rf V 119, rf V 120, rf V 121, .int (h.1 102 33), rf V 122, rf V 123, rf V 124, .int (h.1 102 37), .int (h.1 102 38), rf V 125, rf V 126, rf V 127, .int (h.1 102 42), .int (h.1 102 43), .int (h.1 102 44), .int (h.1 102 45), .int (h.1 102 46), .int (h.1 102 47), .int (h.1 102 48), .int (h.1 102 49), rf V 128, rf V 129, rf V 130, rf V 131, rf V 132, rf V 133, rf V 134, rf V 135, rf V 136, rf V 137, .int (h.1 102 60), rf V 138, rf V 139, rf V 140, rf V 141, rf V 142] : List Value).set 28 (.int x))) = WG V o (wI h 102 28 x) := wgm (by decide) rfl (fun j hj => el_rowI _ hj)
theorem u102_29 {x : Int32} : va_up (WG V o h) 102 (.inr (10, ([.int (h.1 102 0), .int (h.1 102 1), .int (h.1 102 2), rf V 103, rf V 104, rf V 105, rf V 106, .int (h.1 102 7), .int (h.1 102 8), .int (h.1 102 9), .int (h.1 102 10), .int (h.1 102 11), rf V 107, rf V 108, rf V 109, rf V 110, rf V 111, rf V 112, rf V 113, rf V 114, .int (h.1 102 20), .int (h.1 102 21), .int (h.1 102 22), rf V 115, rf V 116, .int (h.1 102 25), rf V 117, rf V 118, .int (h.1 102 28), .int (h.1 102 29), rf V 119, rf V 120, rf V 121, .int (h.1 102 33), rf V 122, rf V 123, rf V 124, .int (h.1 102 37), .int (h.1 102 38), rf V 125, rf V 126, rf V 127, .int (h.1 102 42), .int (h.1 102 43), .int (h.1 102 44), .int (h.1 102 45), .int (h.1 102 46), .int (h.1 102 47), .int (h.1 102 48), .int (h.1 102 49), rf V 128, rf V 129, rf V 130, rf V 131, rf V 132, rf V 133, rf V 134, rf V 135, rf V 136, rf V 137, .int (h.1 102 60), rf V 138, rf V 139, rf V 140, rf V 141, rf V 142] : List Value).set 29 (.int x))) = WG V o (wI h 102 29 x) := wgm (by decide) rfl (fun j hj => el_rowI _ hj)
theorem u102_33 {x : Int32} : va_up (WG V o h) 102 (.inr (10, ([.int (h.1 102 0), .int (h.1 102 1), .int (h.1 102 2), rf V 103, rf V 104, rf V 105, rf V 106, .int (h.1 102 7), .int (h.1 102 8), .int (h.1 102 9), .int (h.1 102 10), .int (h.1 102 11), rf V 107, rf V 108, rf V 109, rf V 110, rf V 111, rf V 112, rf V 113, rf V 114, .int (h.1 102 20), .int (h.1 102 21), .int (h.1 102 22), rf V 115, rf V 116, .int (h.1 102 25), rf V 117, rf V 118, .int (h.1 102 28), .int (h.1 102 29), rf V 119, rf V 120, rf V 121, .int (h.1 102 33), rf V 122, rf V 123, rf V 124, .int (h.1 102 37), .int (h.1 102 38), rf V 125, rf V 126, rf V 127, .int (h.1 102 42), .int (h.1 102 43), .int (h.1 102 44), .int (h.1 102 45), .int (h.1 102 46), .int (h.1 102 47), .int (h.1 102 48), .int (h.1 102 49), rf V 128, rf V 129, rf V 130, rf V 131, rf V 132, rf V 133, rf V 134, rf V 135, rf V 136, rf V 137, .int (h.1 102 60), rf V 138, rf V 139, rf V 140, rf V 141, rf V 142] : List Value).set 33 (.int x))) = WG V o (wI h 102 33 x) := wgm (by decide) rfl (fun j hj => el_rowI _ hj)
theorem u102_37 {x : Int32} : va_up (WG V o h) 102 (.inr (10, ([.int (h.1 102 0), .int (h.1 102 1), .int (h.1 102 2), rf V 103, rf V 104, rf V 105, rf V 106, .int (h.1 102 7), .int (h.1 102 8), .int (h.1 102 9), .int (h.1 102 10), .int (h.1 102 11), rf V 107, rf V 108, rf V 109, rf V 110, rf V 111, rf V 112, rf V 113, rf V 114, .int (h.1 102 20), .int (h.1 102 21), .int (h.1 102 22), rf V 115, rf V 116, .int (h.1 102 25), rf V 117, rf V 118, .int (h.1 102 28), .int (h.1 102 29), rf V 119, rf V 120, rf V 121, .int (h.1 102 33), rf V 122, rf V 123, rf V 124, .int (h.1 102 37), .int (h.1 102 38), rf V 125, rf V 126, rf V 127, .int (h.1 102 42), .int (h.1 102 43), .int (h.1 102 44), .int (h.1 102 45), .int (h.1 102 46), .int (h.1 102 47), .int (h.1 102 48), .int (h.1 102 49), rf V 128, rf V 129, rf V 130, rf V 131, rf V 132, rf V 133, rf V 134, rf V 135, rf V 136, rf V 137, .int (h.1 102 60), rf V 138, rf V 139, rf V 140, rf V 141, rf V 142] : List Value).set 37 (.int x))) = WG V o (wI h 102 37 x) := wgm (by decide) rfl (fun j hj => el_rowI _ hj)
theorem u102_38 {x : Int32} : va_up (WG V o h) 102 (.inr (10, ([.int (h.1 102 0), .int (h.1 102 1), .int (h.1 102 2), rf V 103, rf V 104, rf V 105, rf V 106, .int (h.1 102 7), .int (h.1 102 8), .int (h.1 102 9), .int (h.1 102 10), .int (h.1 102 11), rf V 107, rf V 108, rf V 109, rf V 110, rf V 111, rf V 112, rf V 113, rf V 114, .int (h.1 102 20), .int (h.1 102 21), .int (h.1 102 22), rf V 115, rf V 116, .int (h.1 102 25), rf V 117, rf V 118, .int (h.1 102 28), .int (h.1 102 29), rf V 119, rf V 120, rf V 121, .int (h.1 102 33), rf V 122, rf V 123, rf V 124, .int (h.1 102 37), .int (h.1 102 38), rf V 125, rf V 126, rf V 127, .int (h.1 102 42), .int (h.1 102 43), .int (h.1 102 44), .int (h.1 102 45), .int (h.1 102 46), .int (h.1 102 47), .int (h.1 102 48), .int (h.1 102 49), rf V 128, rf V 129, rf V 130, rf V 131, rf V 132, rf V 133, rf V 134, rf V 135, rf V 136, rf V 137, .int (h.1 102 60), rf V 138, rf V 139, rf V 140, rf V 141, rf V 142] : List Value).set 38 (.int x))) = WG V o (wI h 102 38 x) := wgm (by decide) rfl (fun j hj => el_rowI _ hj)
theorem u102_42 {x : Int32} : va_up (WG V o h) 102 (.inr (10, ([.int (h.1 102 0), .int (h.1 102 1), .int (h.1 102 2), rf V 103, rf V 104, rf V 105, rf V 106, .int (h.1 102 7), .int (h.1 102 8), .int (h.1 102 9), .int (h.1 102 10), .int (h.1 102 11), rf V 107, rf V 108, rf V 109, rf V 110, rf V 111, rf V 112, rf V 113, rf V 114, .int (h.1 102 20), .int (h.1 102 21), .int (h.1 102 22), rf V 115, rf V 116, .int (h.1 102 25), rf V 117, rf V 118, .int (h.1 102 28), .int (h.1 102 29), rf V 119, rf V 120, rf V 121, .int (h.1 102 33), rf V 122, rf V 123, rf V 124, .int (h.1 102 37), .int (h.1 102 38), rf V 125, rf V 126, rf V 127, .int (h.1 102 42), .int (h.1 102 43), .int (h.1 102 44), .int (h.1 102 45), .int (h.1 102 46), .int (h.1 102 47), .int (h.1 102 48), .int (h.1 102 49), rf V 128, rf V 129, rf V 130, rf V 131, rf V 132, rf V 133, rf V 134, rf V 135, rf V 136, rf V 137, .int (h.1 102 60), rf V 138, rf V 139, rf V 140, rf V 141, rf V 142] : List Value).set 42 (.int x))) = WG V o (wI h 102 42 x) := wgm (by decide) rfl (fun j hj => el_rowI _ hj)
theorem u102_43 {x : Int32} : va_up (WG V o h) 102 (.inr (10, ([.int (h.1 102 0), .int (h.1 102 1), .int (h.1 102 2), rf V 103, rf V 104, rf V 105, rf V 106, .int (h.1 102 7), .int (h.1 102 8), .int (h.1 102 9), .int (h.1 102 10), .int (h.1 102 11), rf V 107, rf V 108, rf V 109, rf V 110, rf V 111, rf V 112, rf V 113, rf V 114, .int (h.1 102 20), .int (h.1 102 21), .int (h.1 102 22), rf V 115, rf V 116, .int (h.1 102 25), rf V 117, rf V 118, .int (h.1 102 28), .int (h.1 102 29), rf V 119, rf V 120, rf V 121, .int (h.1 102 33), rf V 122, rf V 123, rf V 124, .int (h.1 102 37), .int (h.1 102 38), rf V 125, rf V 126, rf V 127, .int (h.1 102 42), .int (h.1 102 43), .int (h.1 102 44), .int (h.1 102 45), .int (h.1 102 46), .int (h.1 102 47), .int (h.1 102 48), .int (h.1 102 49), rf V 128, rf V 129, rf V 130, rf V 131, rf V 132, rf V 133, rf V 134, rf V 135, rf V 136, rf V 137, .int (h.1 102 60), rf V 138, rf V 139, rf V 140, rf V 141, rf V 142] : List Value).set 43 (.int x))) = WG V o (wI h 102 43 x) := wgm (by decide) rfl (fun j hj => el_rowI _ hj)
theorem u102_44 {x : Int32} : va_up (WG V o h) 102 (.inr (10, ([.int (h.1 102 0), .int (h.1 102 1), .int (h.1 102 2), rf V 103, rf V 104, rf V 105, rf V 106, .int (h.1 102 7), .int (h.1 102 8), .int (h.1 102 9), .int (h.1 102 10), .int (h.1 102 11), rf V 107, rf V 108, rf V 109, rf V 110, rf V 111, rf V 112, rf V 113, rf V 114, .int (h.1 102 20), .int (h.1 102 21), .int (h.1 102 22), rf V 115, rf V 116, .int (h.1 102 25), rf V 117, rf V 118, .int (h.1 102 28), .int (h.1 102 29), rf V 119, rf V 120, rf V 121, .int (h.1 102 33), rf V 122, rf V 123, rf V 124, .int (h.1 102 37), .int (h.1 102 38), rf V 125, rf V 126, rf V 127, .int (h.1 102 42), .int (h.1 102 43), .int (h.1 102 44), .int (h.1 102 45), .int (h.1 102 46), .int (h.1 102 47), .int (h.1 102 48), .int (h.1 102 49), rf V 128, rf V 129, rf V 130, rf V 131, rf V 132, rf V 133, rf V 134, rf V 135, rf V 136, rf V 137, .int (h.1 102 60), rf V 138, rf V 139, rf V 140, rf V 141, rf V 142] : List Value).set 44 (.int x))) = WG V o (wI h 102 44 x) := wgm (by decide) rfl (fun j hj => el_rowI _ hj)
theorem u102_45 {x : Int32} : va_up (WG V o h) 102 (.inr (10, ([.int (h.1 102 0), .int (h.1 102 1), .int (h.1 102 2), rf V 103, rf V 104, rf V 105, rf V 106, .int (h.1 102 7), .int (h.1 102 8), .int (h.1 102 9), .int (h.1 102 10), .int (h.1 102 11), rf V 107, rf V 108, rf V 109, rf V 110, rf V 111, rf V 112, rf V 113, rf V 114, .int (h.1 102 20), .int (h.1 102 21), .int (h.1 102 22), rf V 115, rf V 116, .int (h.1 102 25), rf V 117, rf V 118, .int (h.1 102 28), .int (h.1 102 29), rf V 119, rf V 120, rf V 121, .int (h.1 102 33), rf V 122, rf V 123, rf V 124, .int (h.1 102 37), .int (h.1 102 38), rf V 125, rf V 126, rf V 127, .int (h.1 102 42), .int (h.1 102 43), .int (h.1 102 44), .int (h.1 102 45), .int (h.1 102 46), .int (h.1 102 47), .int (h.1 102 48), .int (h.1 102 49), rf V 128, rf V 129, rf V 130, rf V 131, rf V 132, rf V 133, rf V 134, rf V 135, rf V 136, rf V 137, .int (h.1 102 60), rf V 138, rf V 139, rf V 140, rf V 141, rf V 142] : List Value).set 45 (.int x))) = WG V o (wI h 102 45 x) := wgm (by decide) rfl (fun j hj => el_rowI _ hj)
theorem u102_46 {x : Int32} : va_up (WG V o h) 102 (.inr (10, ([.int (h.1 102 0), .int (h.1 102 1), .int (h.1 102 2), rf V 103, rf V 104, rf V 105, rf V 106, .int (h.1 102 7), .int (h.1 102 8), .int (h.1 102 9), .int (h.1 102 10), .int (h.1 102 11), rf V 107, rf V 108, rf V 109, rf V 110, rf V 111, rf V 112, rf V 113, rf V 114, .int (h.1 102 20), .int (h.1 102 21), .int (h.1 102 22), rf V 115, rf V 116, .int (h.1 102 25), rf V 117, rf V 118, .int (h.1 102 28), .int (h.1 102 29), rf V 119, rf V 120, rf V 121, .int (h.1 102 33), rf V 122, rf V 123, rf V 124, .int (h.1 102 37), .int (h.1 102 38), rf V 125, rf V 126, rf V 127, .int (h.1 102 42), .int (h.1 102 43), .int (h.1 102 44), .int (h.1 102 45), .int (h.1 102 46), .int (h.1 102 47), .int (h.1 102 48), .int (h.1 102 49), rf V 128, rf V 129, rf V 130, rf V 131, rf V 132, rf V 133, rf V 134, rf V 135, rf V 136, rf V 137, .int (h.1 102 60), rf V 138, rf V 139, rf V 140, rf V 141, rf V 142] : List Value).set 46 (.int x))) = WG V o (wI h 102 46 x) := wgm (by decide) rfl (fun j hj => el_rowI _ hj)
theorem u102_47 {x : Int32} : va_up (WG V o h) 102 (.inr (10, ([.int (h.1 102 0), .int (h.1 102 1), .int (h.1 102 2), rf V 103, rf V 104, rf V 105, rf V 106, .int (h.1 102 7), .int (h.1 102 8), .int (h.1 102 9), .int (h.1 102 10), .int (h.1 102 11), rf V 107, rf V 108, rf V 109, rf V 110, rf V 111, rf V 112, rf V 113, rf V 114, .int (h.1 102 20), .int (h.1 102 21), .int (h.1 102 22), rf V 115, rf V 116, .int (h.1 102 25), rf V 117, rf V 118, .int (h.1 102 28), .int (h.1 102 29), rf V 119, rf V 120, rf V 121, .int (h.1 102 33), rf V 122, rf V 123, rf V 124, .int (h.1 102 37), .int (h.1 102 38), rf V 125, rf V 126, rf V 127, .int (h.1 102 42), .int (h.1 102 43), .int (h.1 102 44), .int (h.1 102 45), .int (h.1 102 46), .int (h.1 102 47), .int (h.1 102 48), .int (h.1 102 49), rf V 128, rf V 129, rf V 130, rf V 131, rf V 132, rf V 133, rf V 134, rf V 135, rf V 136, rf V 137, .int (h.1 102 60), rf V 138, rf V 139, rf V 140, rf V 141, rf V 142] : List Value).set 47 (.int x))) = WG V o (wI h 102 47 x) := wgm (by decide) rfl (fun j hj => el_rowI _ hj)
theorem u102_48 {x : Int32} : va_up (WG V o h) 102 (.inr (10, ([.int (h.1 102 0), .int (h.1 102 1), .int (h.1 102 2), rf V 103, rf V 104, rf V 105, rf V 106, .int (h.1 102 7), .int (h.1 102 8), .int (h.1 102 9), .int (h.1 102 10), .int (h.1 102 11), rf V 107, rf V 108, rf V 109, rf V 110, rf V 111, rf V 112, rf V 113, rf V 114, .int (h.1 102 20), .int (h.1 102 21), .int (h.1 102 22), rf V 115, rf V 116, .int (h.1 102 25), rf V 117, rf V 118, .int (h.1 102 28), .int (h.1 102 29), rf V 119, rf V 120, rf V 121, .int (h.1 102 33), rf V 122, rf V 123, rf V 124, .int (h.1 102 37), .int (h.1 102 38), rf V 125, rf V 126, rf V 127, .int (h.1 102 42), .int (h.1 102 43), .int (h.1 102 44), .int (h.1 102 45), .int (h.1 102 46), .int (h.1 102 47), .int (h.1 102 48), .int (h.1 102 49), rf V 128, rf V 129, rf V 130, rf V 131, rf V 132, rf V 133, rf V 134, rf V 135, rf V 136, rf V 137, .int (h.1 102 60), rf V 138, rf V 139, rf V 140, rf V 141, rf V 142] : List Value).set 48 (.int x))) = WG V o (wI h 102 48 x) := wgm (by decide) rfl (fun j hj => el_rowI _ hj)
theorem u102_49 {x : Int32} : va_up (WG V o h) 102 (.inr (10, ([.int (h.1 102 0), .int (h.1 102 1), .int (h.1 102 2), rf V 103, rf V 104, rf V 105, rf V 106, .int (h.1 102 7), .int (h.1 102 8), .int (h.1 102 9), .int (h.1 102 10), .int (h.1 102 11), rf V 107, rf V 108, rf V 109, rf V 110, rf V 111, rf V 112, rf V 113, rf V 114, .int (h.1 102 20), .int (h.1 102 21), .int (h.1 102 22), rf V 115, rf V 116, .int (h.1 102 25), rf V 117, rf V 118, .int (h.1 102 28), .int (h.1 102 29), rf V 119, rf V 120, rf V 121, .int (h.1 102 33), rf V 122, rf V 123, rf V 124, .int (h.1 102 37), .int (h.1 102 38), rf V 125, rf V 126, rf V 127, .int (h.1 102 42), .int (h.1 102 43), .int (h.1 102 44), .int (h.1 102 45), .int (h.1 102 46), .int (h.1 102 47), .int (h.1 102 48), .int (h.1 102 49), rf V 128, rf V 129, rf V 130, rf V 131, rf V 132, rf V 133, rf V 134, rf V 135, rf V 136, rf V 137, .int (h.1 102 60), rf V 138, rf V 139, rf V 140, rf V 141, rf V 142] : List Value).set 49 (.int x))) = WG V o (wI h 102 49 x) := wgm (by decide) rfl (fun j hj => el_rowI _ hj)
theorem u102_60 {x : Int32} : va_up (WG V o h) 102 (.inr (10, ([.int (h.1 102 0), .int (h.1 102 1), .int (h.1 102 2), rf V 103, rf V 104, rf V 105, rf V 106, .int (h.1 102 7), .int (h.1 102 8), .int (h.1 102 9), .int (h.1 102 10), .int (h.1 102 11), rf V 107, rf V 108, rf V 109, rf V 110, rf V 111, rf V 112, rf V 113, rf V 114, .int (h.1 102 20), .int (h.1 102 21), .int (h.1 102 22), rf V 115, rf V 116, .int (h.1 102 25), rf V 117, rf V 118, .int (h.1 102 28), .int (h.1 102 29), rf V 119, rf V 120, rf V 121, .int (h.1 102 33), rf V 122, rf V 123, rf V 124, .int (h.1 102 37), .int (h.1 102 38), rf V 125, rf V 126, rf V 127, .int (h.1 102 42), .int (h.1 102 43), .int (h.1 102 44), .int (h.1 102 45), .int (h.1 102 46), .int (h.1 102 47), .int (h.1 102 48), .int (h.1 102 49), rf V 128, rf V 129, rf V 130, rf V 131, rf V 132, rf V 133, rf V 134, rf V 135, rf V 136, rf V 137, .int (h.1 102 60), rf V 138, rf V 139, rf V 140, rf V 141, rf V 142] : List Value).set 60 (.int x))) = WG V o (wI h 102 60 x) := wgm (by decide) rfl (fun j hj => el_rowI _ hj)
theorem g103 : WG V o h 103 = .inl (V.2.1 1, 6, .inl (h.1 103)) := wm_at (by decide) rfl
theorem u103 {i : Nat} {x : Int32} : va_up (WG V o h) 103 (.inl (V.2.1 1, 6, .inl (upd (h.1 103) i x))) = WG V o (wI h 103 i x) := wgm (by decide) rfl (fun j hj => el_rowI _ hj)
theorem uf103 {f : Nat → Int32} : va_up (WG V o h) 103 (.inl (V.2.1 1, 6, .inl f)) = WG V o (rowI h 103 f) := wgm (by decide) rfl (fun j hj => el_rowI _ hj)
theorem g104 : WG V o h 104 = .inl (V.2.1 1, 6, .inl (h.1 104)) := wm_at (by decide) rfl
theorem u104 {i : Nat} {x : Int32} : va_up (WG V o h) 104 (.inl (V.2.1 1, 6, .inl (upd (h.1 104) i x))) = WG V o (wI h 104 i x) := wgm (by decide) rfl (fun j hj => el_rowI _ hj)
theorem uf104 {f : Nat → Int32} : va_up (WG V o h) 104 (.inl (V.2.1 1, 6, .inl f)) = WG V o (rowI h 104 f) := wgm (by decide) rfl (fun j hj => el_rowI _ hj)
theorem g105 : WG V o h 105 = .inl (V.2.1 1, 6, .inl (h.1 105)) := wm_at (by decide) rfl
theorem u105 {i : Nat} {x : Int32} : va_up (WG V o h) 105 (.inl (V.2.1 1, 6, .inl (upd (h.1 105) i x))) = WG V o (wI h 105 i x) := wgm (by decide) rfl (fun j hj => el_rowI _ hj)
theorem uf105 {f : Nat → Int32} : va_up (WG V o h) 105 (.inl (V.2.1 1, 6, .inl f)) = WG V o (rowI h 105 f) := wgm (by decide) rfl (fun j hj => el_rowI _ hj)
theorem g106 : WG V o h 106 = .inl (V.2.1 1, 24, .inl (h.1 106)) := wm_at (by decide) rfl
theorem u106 {i : Nat} {x : Int32} : va_up (WG V o h) 106 (.inl (V.2.1 1, 24, .inl (upd (h.1 106) i x))) = WG V o (wI h 106 i x) := wgm (by decide) rfl (fun j hj => el_rowI _ hj)
theorem uf106 {f : Nat → Int32} : va_up (WG V o h) 106 (.inl (V.2.1 1, 24, .inl f)) = WG V o (rowI h 106 f) := wgm (by decide) rfl (fun j hj => el_rowI _ hj)
theorem g107 : WG V o h 107 = .inl (V.2.1 1, 100, .inl (h.1 107)) := wm_at (by decide) rfl
theorem u107 {i : Nat} {x : Int32} : va_up (WG V o h) 107 (.inl (V.2.1 1, 100, .inl (upd (h.1 107) i x))) = WG V o (wI h 107 i x) := wgm (by decide) rfl (fun j hj => el_rowI _ hj)
theorem uf107 {f : Nat → Int32} : va_up (WG V o h) 107 (.inl (V.2.1 1, 100, .inl f)) = WG V o (rowI h 107 f) := wgm (by decide) rfl (fun j hj => el_rowI _ hj)
theorem g108 : WG V o h 108 = .inl (V.2.1 1, 6, .inl (h.1 108)) := wm_at (by decide) rfl
theorem u108 {i : Nat} {x : Int32} : va_up (WG V o h) 108 (.inl (V.2.1 1, 6, .inl (upd (h.1 108) i x))) = WG V o (wI h 108 i x) := wgm (by decide) rfl (fun j hj => el_rowI _ hj)
theorem uf108 {f : Nat → Int32} : va_up (WG V o h) 108 (.inl (V.2.1 1, 6, .inl f)) = WG V o (rowI h 108 f) := wgm (by decide) rfl (fun j hj => el_rowI _ hj)
theorem g109 : WG V o h 109 = .inl (V.2.1 1, 60, .inl (h.1 109)) := wm_at (by decide) rfl
theorem u109 {i : Nat} {x : Int32} : va_up (WG V o h) 109 (.inl (V.2.1 1, 60, .inl (upd (h.1 109) i x))) = WG V o (wI h 109 i x) := wgm (by decide) rfl (fun j hj => el_rowI _ hj)
theorem uf109 {f : Nat → Int32} : va_up (WG V o h) 109 (.inl (V.2.1 1, 60, .inl f)) = WG V o (rowI h 109 f) := wgm (by decide) rfl (fun j hj => el_rowI _ hj)
theorem g110 : WG V o h 110 = .inl (V.2.1 1, 60, .inl (h.1 110)) := wm_at (by decide) rfl
theorem u110 {i : Nat} {x : Int32} : va_up (WG V o h) 110 (.inl (V.2.1 1, 60, .inl (upd (h.1 110) i x))) = WG V o (wI h 110 i x) := wgm (by decide) rfl (fun j hj => el_rowI _ hj)
theorem uf110 {f : Nat → Int32} : va_up (WG V o h) 110 (.inl (V.2.1 1, 60, .inl f)) = WG V o (rowI h 110 f) := wgm (by decide) rfl (fun j hj => el_rowI _ hj)
theorem g111 : WG V o h 111 = .inl (V.2.1 1, 60, .inl (h.1 111)) := wm_at (by decide) rfl
theorem u111 {i : Nat} {x : Int32} : va_up (WG V o h) 111 (.inl (V.2.1 1, 60, .inl (upd (h.1 111) i x))) = WG V o (wI h 111 i x) := wgm (by decide) rfl (fun j hj => el_rowI _ hj)
theorem uf111 {f : Nat → Int32} : va_up (WG V o h) 111 (.inl (V.2.1 1, 60, .inl f)) = WG V o (rowI h 111 f) := wgm (by decide) rfl (fun j hj => el_rowI _ hj)
theorem g112 : WG V o h 112 = .inl (V.2.1 1, 60, .inl (h.1 112)) := wm_at (by decide) rfl
theorem u112 {i : Nat} {x : Int32} : va_up (WG V o h) 112 (.inl (V.2.1 1, 60, .inl (upd (h.1 112) i x))) = WG V o (wI h 112 i x) := wgm (by decide) rfl (fun j hj => el_rowI _ hj)
theorem uf112 {f : Nat → Int32} : va_up (WG V o h) 112 (.inl (V.2.1 1, 60, .inl f)) = WG V o (rowI h 112 f) := wgm (by decide) rfl (fun j hj => el_rowI _ hj)
theorem g113 : WG V o h 113 = .inl (V.2.1 1, 600, .inl (h.1 113)) := wm_at (by decide) rfl
theorem u113 {i : Nat} {x : Int32} : va_up (WG V o h) 113 (.inl (V.2.1 1, 600, .inl (upd (h.1 113) i x))) = WG V o (wI h 113 i x) := wgm (by decide) rfl (fun j hj => el_rowI _ hj)
theorem uf113 {f : Nat → Int32} : va_up (WG V o h) 113 (.inl (V.2.1 1, 600, .inl f)) = WG V o (rowI h 113 f) := wgm (by decide) rfl (fun j hj => el_rowI _ hj)
theorem g114 : WG V o h 114 = .inl (V.2.1 1, 101, .inl (h.1 114)) := wm_at (by decide) rfl
theorem u114 {i : Nat} {x : Int32} : va_up (WG V o h) 114 (.inl (V.2.1 1, 101, .inl (upd (h.1 114) i x))) = WG V o (wI h 114 i x) := wgm (by decide) rfl (fun j hj => el_rowI _ hj)
theorem uf114 {f : Nat → Int32} : va_up (WG V o h) 114 (.inl (V.2.1 1, 101, .inl f)) = WG V o (rowI h 114 f) := wgm (by decide) rfl (fun j hj => el_rowI _ hj)
theorem g115 : WG V o h 115 = .inl (V.2.1 1, 12, .inl (h.1 115)) := wm_at (by decide) rfl
theorem u115 {i : Nat} {x : Int32} : va_up (WG V o h) 115 (.inl (V.2.1 1, 12, .inl (upd (h.1 115) i x))) = WG V o (wI h 115 i x) := wgm (by decide) rfl (fun j hj => el_rowI _ hj)
theorem uf115 {f : Nat → Int32} : va_up (WG V o h) 115 (.inl (V.2.1 1, 12, .inl f)) = WG V o (rowI h 115 f) := wgm (by decide) rfl (fun j hj => el_rowI _ hj)
theorem g116 : WG V o h 116 = .inl (V.2.1 3, 100, .inl (h.1 116)) := wm_at (by decide) rfl
theorem u116 {i : Nat} {x : Int32} : va_up (WG V o h) 116 (.inl (V.2.1 3, 100, .inl (upd (h.1 116) i x))) = WG V o (wI h 116 i x) := wgm (by decide) rfl (fun j hj => el_rowI _ hj)
theorem uf116 {f : Nat → Int32} : va_up (WG V o h) 116 (.inl (V.2.1 3, 100, .inl f)) = WG V o (rowI h 116 f) := wgm (by decide) rfl (fun j hj => el_rowI _ hj)
theorem g117 : WG V o h 117 = .inl (V.2.1 1, 4800, .inl (h.1 117)) := wm_at (by decide) rfl
theorem u117 {i : Nat} {x : Int32} : va_up (WG V o h) 117 (.inl (V.2.1 1, 4800, .inl (upd (h.1 117) i x))) = WG V o (wI h 117 i x) := wgm (by decide) rfl (fun j hj => el_rowI _ hj)
theorem uf117 {f : Nat → Int32} : va_up (WG V o h) 117 (.inl (V.2.1 1, 4800, .inl f)) = WG V o (rowI h 117 f) := wgm (by decide) rfl (fun j hj => el_rowI _ hj)
theorem g118 : WG V o h 118 = .inl (V.2.1 1, 6, .inl (h.1 118)) := wm_at (by decide) rfl
theorem u118 {i : Nat} {x : Int32} : va_up (WG V o h) 118 (.inl (V.2.1 1, 6, .inl (upd (h.1 118) i x))) = WG V o (wI h 118 i x) := wgm (by decide) rfl (fun j hj => el_rowI _ hj)
theorem uf118 {f : Nat → Int32} : va_up (WG V o h) 118 (.inl (V.2.1 1, 6, .inl f)) = WG V o (rowI h 118 f) := wgm (by decide) rfl (fun j hj => el_rowI _ hj)
theorem g119 : WG V o h 119 = .inl (V.2.1 1, 6, .inl (h.1 119)) := wm_at (by decide) rfl
theorem u119 {i : Nat} {x : Int32} : va_up (WG V o h) 119 (.inl (V.2.1 1, 6, .inl (upd (h.1 119) i x))) = WG V o (wI h 119 i x) := wgm (by decide) rfl (fun j hj => el_rowI _ hj)
theorem uf119 {f : Nat → Int32} : va_up (WG V o h) 119 (.inl (V.2.1 1, 6, .inl f)) = WG V o (rowI h 119 f) := wgm (by decide) rfl (fun j hj => el_rowI _ hj)
theorem g120 : WG V o h 120 = .inl (V.2.1 1, 6, .inl (h.1 120)) := wm_at (by decide) rfl
theorem u120 {i : Nat} {x : Int32} : va_up (WG V o h) 120 (.inl (V.2.1 1, 6, .inl (upd (h.1 120) i x))) = WG V o (wI h 120 i x) := wgm (by decide) rfl (fun j hj => el_rowI _ hj)
theorem uf120 {f : Nat → Int32} : va_up (WG V o h) 120 (.inl (V.2.1 1, 6, .inl f)) = WG V o (rowI h 120 f) := wgm (by decide) rfl (fun j hj => el_rowI _ hj)
theorem g121 : WG V o h 121 = .inl (V.2.1 1, 6, .inl (h.1 121)) := wm_at (by decide) rfl
theorem u121 {i : Nat} {x : Int32} : va_up (WG V o h) 121 (.inl (V.2.1 1, 6, .inl (upd (h.1 121) i x))) = WG V o (wI h 121 i x) := wgm (by decide) rfl (fun j hj => el_rowI _ hj)
theorem uf121 {f : Nat → Int32} : va_up (WG V o h) 121 (.inl (V.2.1 1, 6, .inl f)) = WG V o (rowI h 121 f) := wgm (by decide) rfl (fun j hj => el_rowI _ hj)
theorem g122 : WG V o h 122 = .inl (V.2.1 1, 5, .inl (h.1 122)) := wm_at (by decide) rfl
theorem u122 {i : Nat} {x : Int32} : va_up (WG V o h) 122 (.inl (V.2.1 1, 5, .inl (upd (h.1 122) i x))) = WG V o (wI h 122 i x) := wgm (by decide) rfl (fun j hj => el_rowI _ hj)
theorem uf122 {f : Nat → Int32} : va_up (WG V o h) 122 (.inl (V.2.1 1, 5, .inl f)) = WG V o (rowI h 122 f) := wgm (by decide) rfl (fun j hj => el_rowI _ hj)
theorem g123 : WG V o h 123 = .inl (V.2.1 1, 5, .inl (h.1 123)) := wm_at (by decide) rfl
theorem u123 {i : Nat} {x : Int32} : va_up (WG V o h) 123 (.inl (V.2.1 1, 5, .inl (upd (h.1 123) i x))) = WG V o (wI h 123 i x) := wgm (by decide) rfl (fun j hj => el_rowI _ hj)
theorem uf123 {f : Nat → Int32} : va_up (WG V o h) 123 (.inl (V.2.1 1, 5, .inl f)) = WG V o (rowI h 123 f) := wgm (by decide) rfl (fun j hj => el_rowI _ hj)
theorem g124 : WG V o h 124 = .inl (V.2.1 1, 5, .inl (h.1 124)) := wm_at (by decide) rfl
theorem u124 {i : Nat} {x : Int32} : va_up (WG V o h) 124 (.inl (V.2.1 1, 5, .inl (upd (h.1 124) i x))) = WG V o (wI h 124 i x) := wgm (by decide) rfl (fun j hj => el_rowI _ hj)
theorem uf124 {f : Nat → Int32} : va_up (WG V o h) 124 (.inl (V.2.1 1, 5, .inl f)) = WG V o (rowI h 124 f) := wgm (by decide) rfl (fun j hj => el_rowI _ hj)
theorem g125 : WG V o h 125 = .inl (V.2.1 1, 10, .inl (h.1 125)) := wm_at (by decide) rfl
theorem u125 {i : Nat} {x : Int32} : va_up (WG V o h) 125 (.inl (V.2.1 1, 10, .inl (upd (h.1 125) i x))) = WG V o (wI h 125 i x) := wgm (by decide) rfl (fun j hj => el_rowI _ hj)
theorem uf125 {f : Nat → Int32} : va_up (WG V o h) 125 (.inl (V.2.1 1, 10, .inl f)) = WG V o (rowI h 125 f) := wgm (by decide) rfl (fun j hj => el_rowI _ hj)
theorem g126 : WG V o h 126 = .inl (V.2.1 1, 8, .inl (h.1 126)) := wm_at (by decide) rfl
theorem u126 {i : Nat} {x : Int32} : va_up (WG V o h) 126 (.inl (V.2.1 1, 8, .inl (upd (h.1 126) i x))) = WG V o (wI h 126 i x) := wgm (by decide) rfl (fun j hj => el_rowI _ hj)
theorem uf126 {f : Nat → Int32} : va_up (WG V o h) 126 (.inl (V.2.1 1, 8, .inl f)) = WG V o (rowI h 126 f) := wgm (by decide) rfl (fun j hj => el_rowI _ hj)
theorem g127 : WG V o h 127 = .inl (V.2.1 1, 8, .inl (h.1 127)) := wm_at (by decide) rfl
theorem u127 {i : Nat} {x : Int32} : va_up (WG V o h) 127 (.inl (V.2.1 1, 8, .inl (upd (h.1 127) i x))) = WG V o (wI h 127 i x) := wgm (by decide) rfl (fun j hj => el_rowI _ hj)
theorem uf127 {f : Nat → Int32} : va_up (WG V o h) 127 (.inl (V.2.1 1, 8, .inl f)) = WG V o (rowI h 127 f) := wgm (by decide) rfl (fun j hj => el_rowI _ hj)
theorem g128 : WG V o h 128 = .inl (V.2.1 1, 6, .inl (h.1 128)) := wm_at (by decide) rfl
theorem u128 {i : Nat} {x : Int32} : va_up (WG V o h) 128 (.inl (V.2.1 1, 6, .inl (upd (h.1 128) i x))) = WG V o (wI h 128 i x) := wgm (by decide) rfl (fun j hj => el_rowI _ hj)
theorem uf128 {f : Nat → Int32} : va_up (WG V o h) 128 (.inl (V.2.1 1, 6, .inl f)) = WG V o (rowI h 128 f) := wgm (by decide) rfl (fun j hj => el_rowI _ hj)
theorem g129 : WG V o h 129 = .inl (V.2.1 1, 6, .inl (h.1 129)) := wm_at (by decide) rfl
theorem u129 {i : Nat} {x : Int32} : va_up (WG V o h) 129 (.inl (V.2.1 1, 6, .inl (upd (h.1 129) i x))) = WG V o (wI h 129 i x) := wgm (by decide) rfl (fun j hj => el_rowI _ hj)
theorem uf129 {f : Nat → Int32} : va_up (WG V o h) 129 (.inl (V.2.1 1, 6, .inl f)) = WG V o (rowI h 129 f) := wgm (by decide) rfl (fun j hj => el_rowI _ hj)
theorem g130 : WG V o h 130 = .inl (V.2.1 1, 6, .inl (h.1 130)) := wm_at (by decide) rfl
theorem u130 {i : Nat} {x : Int32} : va_up (WG V o h) 130 (.inl (V.2.1 1, 6, .inl (upd (h.1 130) i x))) = WG V o (wI h 130 i x) := wgm (by decide) rfl (fun j hj => el_rowI _ hj)
theorem uf130 {f : Nat → Int32} : va_up (WG V o h) 130 (.inl (V.2.1 1, 6, .inl f)) = WG V o (rowI h 130 f) := wgm (by decide) rfl (fun j hj => el_rowI _ hj)
theorem g131 : WG V o h 131 = .inl (V.2.1 1, 24, .inl (h.1 131)) := wm_at (by decide) rfl
theorem u131 {i : Nat} {x : Int32} : va_up (WG V o h) 131 (.inl (V.2.1 1, 24, .inl (upd (h.1 131) i x))) = WG V o (wI h 131 i x) := wgm (by decide) rfl (fun j hj => el_rowI _ hj)
theorem uf131 {f : Nat → Int32} : va_up (WG V o h) 131 (.inl (V.2.1 1, 24, .inl f)) = WG V o (rowI h 131 f) := wgm (by decide) rfl (fun j hj => el_rowI _ hj)
theorem g132 : WG V o h 132 = .inl (V.2.1 1, 5, .inl (h.1 132)) := wm_at (by decide) rfl
theorem u132 {i : Nat} {x : Int32} : va_up (WG V o h) 132 (.inl (V.2.1 1, 5, .inl (upd (h.1 132) i x))) = WG V o (wI h 132 i x) := wgm (by decide) rfl (fun j hj => el_rowI _ hj)
theorem uf132 {f : Nat → Int32} : va_up (WG V o h) 132 (.inl (V.2.1 1, 5, .inl f)) = WG V o (rowI h 132 f) := wgm (by decide) rfl (fun j hj => el_rowI _ hj)
theorem g133 : WG V o h 133 = .inl (V.2.1 1, 5, .inl (h.1 133)) := wm_at (by decide) rfl
theorem u133 {i : Nat} {x : Int32} : va_up (WG V o h) 133 (.inl (V.2.1 1, 5, .inl (upd (h.1 133) i x))) = WG V o (wI h 133 i x) := wgm (by decide) rfl (fun j hj => el_rowI _ hj)
theorem uf133 {f : Nat → Int32} : va_up (WG V o h) 133 (.inl (V.2.1 1, 5, .inl f)) = WG V o (rowI h 133 f) := wgm (by decide) rfl (fun j hj => el_rowI _ hj)
theorem g134 : WG V o h 134 = .inl (V.2.1 1, 5, .inl (h.1 134)) := wm_at (by decide) rfl
theorem u134 {i : Nat} {x : Int32} : va_up (WG V o h) 134 (.inl (V.2.1 1, 5, .inl (upd (h.1 134) i x))) = WG V o (wI h 134 i x) := wgm (by decide) rfl (fun j hj => el_rowI _ hj)
theorem uf134 {f : Nat → Int32} : va_up (WG V o h) 134 (.inl (V.2.1 1, 5, .inl f)) = WG V o (rowI h 134 f) := wgm (by decide) rfl (fun j hj => el_rowI _ hj)
theorem g135 : WG V o h 135 = .inl (V.2.1 1, 10, .inl (h.1 135)) := wm_at (by decide) rfl
theorem u135 {i : Nat} {x : Int32} : va_up (WG V o h) 135 (.inl (V.2.1 1, 10, .inl (upd (h.1 135) i x))) = WG V o (wI h 135 i x) := wgm (by decide) rfl (fun j hj => el_rowI _ hj)
theorem uf135 {f : Nat → Int32} : va_up (WG V o h) 135 (.inl (V.2.1 1, 10, .inl f)) = WG V o (rowI h 135 f) := wgm (by decide) rfl (fun j hj => el_rowI _ hj)
theorem g136 : WG V o h 136 = .inl (V.2.1 1, 8, .inl (h.1 136)) := wm_at (by decide) rfl
theorem u136 {i : Nat} {x : Int32} : va_up (WG V o h) 136 (.inl (V.2.1 1, 8, .inl (upd (h.1 136) i x))) = WG V o (wI h 136 i x) := wgm (by decide) rfl (fun j hj => el_rowI _ hj)
theorem uf136 {f : Nat → Int32} : va_up (WG V o h) 136 (.inl (V.2.1 1, 8, .inl f)) = WG V o (rowI h 136 f) := wgm (by decide) rfl (fun j hj => el_rowI _ hj)
theorem g137 : WG V o h 137 = .inl (V.2.1 1, 8, .inl (h.1 137)) := wm_at (by decide) rfl
theorem u137 {i : Nat} {x : Int32} : va_up (WG V o h) 137 (.inl (V.2.1 1, 8, .inl (upd (h.1 137) i x))) = WG V o (wI h 137 i x) := wgm (by decide) rfl (fun j hj => el_rowI _ hj)
theorem uf137 {f : Nat → Int32} : va_up (WG V o h) 137 (.inl (V.2.1 1, 8, .inl f)) = WG V o (rowI h 137 f) := wgm (by decide) rfl (fun j hj => el_rowI _ hj)
theorem g138 : WG V o h 138 = .inl (V.2.1 1, 20, .inl (h.1 138)) := wm_at (by decide) rfl
theorem u138 {i : Nat} {x : Int32} : va_up (WG V o h) 138 (.inl (V.2.1 1, 20, .inl (upd (h.1 138) i x))) = WG V o (wI h 138 i x) := wgm (by decide) rfl (fun j hj => el_rowI _ hj)
theorem uf138 {f : Nat → Int32} : va_up (WG V o h) 138 (.inl (V.2.1 1, 20, .inl f)) = WG V o (rowI h 138 f) := wgm (by decide) rfl (fun j hj => el_rowI _ hj)
theorem g139 : WG V o h 139 = .inl (V.2.1 1, 6, .inl (h.1 139)) := wm_at (by decide) rfl
theorem u139 {i : Nat} {x : Int32} : va_up (WG V o h) 139 (.inl (V.2.1 1, 6, .inl (upd (h.1 139) i x))) = WG V o (wI h 139 i x) := wgm (by decide) rfl (fun j hj => el_rowI _ hj)
theorem uf139 {f : Nat → Int32} : va_up (WG V o h) 139 (.inl (V.2.1 1, 6, .inl f)) = WG V o (rowI h 139 f) := wgm (by decide) rfl (fun j hj => el_rowI _ hj)
theorem g140 : WG V o h 140 = .inl (V.2.1 1, 6, .inl (h.1 140)) := wm_at (by decide) rfl
theorem u140 {i : Nat} {x : Int32} : va_up (WG V o h) 140 (.inl (V.2.1 1, 6, .inl (upd (h.1 140) i x))) = WG V o (wI h 140 i x) := wgm (by decide) rfl (fun j hj => el_rowI _ hj)
theorem uf140 {f : Nat → Int32} : va_up (WG V o h) 140 (.inl (V.2.1 1, 6, .inl f)) = WG V o (rowI h 140 f) := wgm (by decide) rfl (fun j hj => el_rowI _ hj)
theorem g141 : WG V o h 141 = .inl (V.2.1 2, 360, .inr (.inl (h.2.1 141))) := wm_at (by decide) rfl
theorem u141 {i : Nat} {x : Int64} : va_up (WG V o h) 141 (.inl (V.2.1 2, 360, .inr (.inl (vp_updL (h.2.1 141) i x)))) = WG V o (wL h 141 i x) := wgm (by decide) rfl (fun j hj => el_rowL _ hj)
theorem uf141 {f : Nat → Int64} : va_up (WG V o h) 141 (.inl (V.2.1 2, 360, .inr (.inl f))) = WG V o (rowL h 141 f) := wgm (by decide) rfl (fun j hj => el_rowL _ hj)
theorem g142 : WG V o h 142 = .inl (V.2.1 2, 60, .inr (.inl (h.2.1 142))) := wm_at (by decide) rfl
theorem u142 {i : Nat} {x : Int64} : va_up (WG V o h) 142 (.inl (V.2.1 2, 60, .inr (.inl (vp_updL (h.2.1 142) i x)))) = WG V o (wL h 142 i x) := wgm (by decide) rfl (fun j hj => el_rowL _ hj)
theorem uf142 {f : Nat → Int64} : va_up (WG V o h) 142 (.inl (V.2.1 2, 60, .inr (.inl f))) = WG V o (rowL h 142 f) := wgm (by decide) rfl (fun j hj => el_rowL _ hj)
def isCourse (k : Nat) : Bool := ([6, 21, 35, 42, 45, 48, 51, 54, 57, 60] : List Nat).contains k
theorem isCourse_or {k : Nat} (hk : isCourse k = true) : k = 6 ∨ k = 21 ∨ k = 35 ∨ k = 42 ∨ k = 45 ∨ k = 48 ∨ k = 51 ∨ k = 54 ∨ k = 57 ∨ k = 60 := by simpa [isCourse] using hk
theorem b_Course {k : Nat} (hk : isCourse k = true) : Nat.ble (k + 1) 143 = true := by rcases isCourse_or hk with rfl | rfl | rfl | rfl | rfl | rfl | rfl | rfl | rfl | rfl <;> rfl
theorem m_Course {k : Nat} (hk : isCourse k = true) : k < 102 := by rcases isCourse_or hk with rfl | rfl | rfl | rfl | rfl | rfl | rfl | rfl | rfl | rfl <;> decide
theorem e_Course {k : Nat} (hk : isCourse k = true) : el V h k = .inr (3, [.int (h.1 k 0), rf V (k + 1), rf V (k + 2)]) := by rcases isCourse_or hk with rfl | rfl | rfl | rfl | rfl | rfl | rfl | rfl | rfl | rfl <;> rfl
theorem g_Course {k : Nat} (hk : isCourse k = true) : WG V h o k = .inr (3, [.int (h.1 k 0), rf V (k + 1), rf V (k + 2)]) := wc_at (m_Course hk) (e_Course hk)
theorem u_Course_0 {k : Nat} {x : Int32} (hk : isCourse k = true) : va_up (WG V h o) k (.inr (3, ([.int (h.1 k 0), rf V (k + 1), rf V (k + 2)] : List Value).set 0 (.int x))) = WG V (wI h k 0 x) o := by
  refine wgc (m_Course hk) ((e_Course hk).trans ?_) (fun j hj => el_rowI _ hj)
  simp [wI, rowI, va_up, upd]
theorem b_Course_heard {k : Nat} (hk : isCourse k = true) : Nat.ble ((k + 1) + 1) 143 = true := by rcases isCourse_or hk with rfl | rfl | rfl | rfl | rfl | rfl | rfl | rfl | rfl | rfl <;> rfl
theorem m_Course_heard {k : Nat} (hk : isCourse k = true) : (k + 1) < 102 := by rcases isCourse_or hk with rfl | rfl | rfl | rfl | rfl | rfl | rfl | rfl | rfl | rfl <;> decide
theorem e_Course_heard {k : Nat} (hk : isCourse k = true) : el V h (k + 1) = .inl (V.2.1 1, 6, .inl (h.1 (k + 1))) := by rcases isCourse_or hk with rfl | rfl | rfl | rfl | rfl | rfl | rfl | rfl | rfl | rfl <;> rfl
theorem g_Course_heard {k : Nat} (hk : isCourse k = true) : WG V h o (k + 1) = .inl (V.2.1 1, 6, .inl (h.1 (k + 1))) := wc_at (m_Course_heard hk) (e_Course_heard hk)
theorem uf_Course_heard {k : Nat} {f : Nat → Int32} (hk : isCourse k = true) : va_up (WG V h o) (k + 1) (.inl (V.2.1 1, 6, .inl f)) = WG V (rowI h (k + 1) f) o := by
  refine wgc (m_Course_heard hk) ((e_Course_heard hk).trans ?_) (fun j hj => el_rowI _ hj)
  simp [rowI, va_up]
theorem u_Course_heard {k i : Nat} {x : Int32} (hk : isCourse k = true) : va_up (WG V h o) (k + 1) (.inl (V.2.1 1, 6, .inl (upd (h.1 (k + 1)) i x))) = WG V (wI h (k + 1) i x) o := uf_Course_heard hk
theorem b_Course_balks {k : Nat} (hk : isCourse k = true) : Nat.ble ((k + 2) + 1) 143 = true := by rcases isCourse_or hk with rfl | rfl | rfl | rfl | rfl | rfl | rfl | rfl | rfl | rfl <;> rfl
theorem m_Course_balks {k : Nat} (hk : isCourse k = true) : (k + 2) < 102 := by rcases isCourse_or hk with rfl | rfl | rfl | rfl | rfl | rfl | rfl | rfl | rfl | rfl <;> decide
theorem e_Course_balks {k : Nat} (hk : isCourse k = true) : el V h (k + 2) = .inl (V.2.1 3, 6, .inl (h.1 (k + 2))) := by rcases isCourse_or hk with rfl | rfl | rfl | rfl | rfl | rfl | rfl | rfl | rfl | rfl <;> rfl
theorem g_Course_balks {k : Nat} (hk : isCourse k = true) : WG V h o (k + 2) = .inl (V.2.1 3, 6, .inl (h.1 (k + 2))) := wc_at (m_Course_balks hk) (e_Course_balks hk)
theorem uf_Course_balks {k : Nat} {f : Nat → Int32} (hk : isCourse k = true) : va_up (WG V h o) (k + 2) (.inl (V.2.1 3, 6, .inl f)) = WG V (rowI h (k + 2) f) o := by
  refine wgc (m_Course_balks hk) ((e_Course_balks hk).trans ?_) (fun j hj => el_rowI _ hj)
  simp [rowI, va_up]
theorem u_Course_balks {k i : Nat} {x : Int32} (hk : isCourse k = true) : va_up (WG V h o) (k + 2) (.inl (V.2.1 3, 6, .inl (upd (h.1 (k + 2)) i x))) = WG V (wI h (k + 2) i x) o := uf_Course_balks hk
def isRows (k : Nat) : Bool := ([9, 11, 13, 24, 26, 28] : List Nat).contains k
theorem isRows_or {k : Nat} (hk : isRows k = true) : k = 9 ∨ k = 11 ∨ k = 13 ∨ k = 24 ∨ k = 26 ∨ k = 28 := by simpa [isRows] using hk
theorem b_Rows {k : Nat} (hk : isRows k = true) : Nat.ble (k + 1) 143 = true := by rcases isRows_or hk with rfl | rfl | rfl | rfl | rfl | rfl <;> rfl
theorem m_Rows {k : Nat} (hk : isRows k = true) : k < 102 := by rcases isRows_or hk with rfl | rfl | rfl | rfl | rfl | rfl <;> decide
theorem e_Rows {k : Nat} (hk : isRows k = true) : el V h k = .inr (6, [.int (h.1 k 0), rf V (k + 1), .int (h.1 k 2)]) := by rcases isRows_or hk with rfl | rfl | rfl | rfl | rfl | rfl <;> rfl
theorem g_Rows {k : Nat} (hk : isRows k = true) : WG V h o k = .inr (6, [.int (h.1 k 0), rf V (k + 1), .int (h.1 k 2)]) := wc_at (m_Rows hk) (e_Rows hk)
theorem u_Rows_0 {k : Nat} {x : Int32} (hk : isRows k = true) : va_up (WG V h o) k (.inr (6, ([.int (h.1 k 0), rf V (k + 1), .int (h.1 k 2)] : List Value).set 0 (.int x))) = WG V (wI h k 0 x) o := by
  refine wgc (m_Rows hk) ((e_Rows hk).trans ?_) (fun j hj => el_rowI _ hj)
  simp [wI, rowI, va_up, upd]
theorem b_Rows_cells {k : Nat} (hk : isRows k = true) : Nat.ble ((k + 1) + 1) 143 = true := by rcases isRows_or hk with rfl | rfl | rfl | rfl | rfl | rfl <;> rfl
theorem m_Rows_cells {k : Nat} (hk : isRows k = true) : (k + 1) < 102 := by rcases isRows_or hk with rfl | rfl | rfl | rfl | rfl | rfl <;> decide
theorem e_Rows_cells {k : Nat} (hk : isRows k = true) : el V h (k + 1) = .inl (V.2.1 1, lnA (k + 1), .inl (h.1 (k + 1))) := by rcases isRows_or hk with rfl | rfl | rfl | rfl | rfl | rfl <;> rfl
theorem g_Rows_cells {k : Nat} (hk : isRows k = true) : WG V h o (k + 1) = .inl (V.2.1 1, lnA (k + 1), .inl (h.1 (k + 1))) := wc_at (m_Rows_cells hk) (e_Rows_cells hk)
theorem uf_Rows_cells {k : Nat} {f : Nat → Int32} (hk : isRows k = true) : va_up (WG V h o) (k + 1) (.inl (V.2.1 1, lnA (k + 1), .inl f)) = WG V (rowI h (k + 1) f) o := by
  refine wgc (m_Rows_cells hk) ((e_Rows_cells hk).trans ?_) (fun j hj => el_rowI _ hj)
  simp [rowI, va_up]
theorem u_Rows_cells {k i : Nat} {x : Int32} (hk : isRows k = true) : va_up (WG V h o) (k + 1) (.inl (V.2.1 1, lnA (k + 1), .inl (upd (h.1 (k + 1)) i x))) = WG V (wI h (k + 1) i x) o := uf_Rows_cells hk
theorem u_Rows_2 {k : Nat} {x : Int32} (hk : isRows k = true) : va_up (WG V h o) k (.inr (6, ([.int (h.1 k 0), rf V (k + 1), .int (h.1 k 2)] : List Value).set 2 (.int x))) = WG V (wI h k 2 x) o := by
  refine wgc (m_Rows hk) ((e_Rows hk).trans ?_) (fun j hj => el_rowI _ hj)
  simp [wI, rowI, va_up, upd]
def isBench (k : Nat) : Bool := ([66, 70, 74, 78, 82, 86] : List Nat).contains k
theorem isBench_or {k : Nat} (hk : isBench k = true) : k = 66 ∨ k = 70 ∨ k = 74 ∨ k = 78 ∨ k = 82 ∨ k = 86 := by simpa [isBench] using hk
theorem b_Bench {k : Nat} (hk : isBench k = true) : Nat.ble (k + 1) 143 = true := by rcases isBench_or hk with rfl | rfl | rfl | rfl | rfl | rfl <;> rfl
theorem m_Bench {k : Nat} (hk : isBench k = true) : k < 102 := by rcases isBench_or hk with rfl | rfl | rfl | rfl | rfl | rfl <;> decide
theorem e_Bench {k : Nat} (hk : isBench k = true) : el V h k = .inr (2, [.int (h.1 k 0), .int (h.1 k 1), rf V (k + 1), rf V (k + 2), .int (h.1 k 4), rf V (k + 3)]) := by rcases isBench_or hk with rfl | rfl | rfl | rfl | rfl | rfl <;> rfl
theorem g_Bench {k : Nat} (hk : isBench k = true) : WG V h o k = .inr (2, [.int (h.1 k 0), .int (h.1 k 1), rf V (k + 1), rf V (k + 2), .int (h.1 k 4), rf V (k + 3)]) := wc_at (m_Bench hk) (e_Bench hk)
theorem u_Bench_0 {k : Nat} {x : Int32} (hk : isBench k = true) : va_up (WG V h o) k (.inr (2, ([.int (h.1 k 0), .int (h.1 k 1), rf V (k + 1), rf V (k + 2), .int (h.1 k 4), rf V (k + 3)] : List Value).set 0 (.int x))) = WG V (wI h k 0 x) o := by
  refine wgc (m_Bench hk) ((e_Bench hk).trans ?_) (fun j hj => el_rowI _ hj)
  simp [wI, rowI, va_up, upd]
theorem u_Bench_1 {k : Nat} {x : Int32} (hk : isBench k = true) : va_up (WG V h o) k (.inr (2, ([.int (h.1 k 0), .int (h.1 k 1), rf V (k + 1), rf V (k + 2), .int (h.1 k 4), rf V (k + 3)] : List Value).set 1 (.int x))) = WG V (wI h k 1 x) o := by
  refine wgc (m_Bench hk) ((e_Bench hk).trans ?_) (fun j hj => el_rowI _ hj)
  simp [wI, rowI, va_up, upd]
theorem b_Bench_weights {k : Nat} (hk : isBench k = true) : Nat.ble ((k + 1) + 1) 143 = true := by rcases isBench_or hk with rfl | rfl | rfl | rfl | rfl | rfl <;> rfl
theorem m_Bench_weights {k : Nat} (hk : isBench k = true) : (k + 1) < 102 := by rcases isBench_or hk with rfl | rfl | rfl | rfl | rfl | rfl <;> decide
theorem e_Bench_weights {k : Nat} (hk : isBench k = true) : el V h (k + 1) = .inl (V.2.1 1, 10, .inl (h.1 (k + 1))) := by rcases isBench_or hk with rfl | rfl | rfl | rfl | rfl | rfl <;> rfl
theorem g_Bench_weights {k : Nat} (hk : isBench k = true) : WG V h o (k + 1) = .inl (V.2.1 1, 10, .inl (h.1 (k + 1))) := wc_at (m_Bench_weights hk) (e_Bench_weights hk)
theorem uf_Bench_weights {k : Nat} {f : Nat → Int32} (hk : isBench k = true) : va_up (WG V h o) (k + 1) (.inl (V.2.1 1, 10, .inl f)) = WG V (rowI h (k + 1) f) o := by
  refine wgc (m_Bench_weights hk) ((e_Bench_weights hk).trans ?_) (fun j hj => el_rowI _ hj)
  simp [rowI, va_up]
theorem u_Bench_weights {k i : Nat} {x : Int32} (hk : isBench k = true) : va_up (WG V h o) (k + 1) (.inl (V.2.1 1, 10, .inl (upd (h.1 (k + 1)) i x))) = WG V (wI h (k + 1) i x) o := uf_Bench_weights hk
theorem b_Bench_ends {k : Nat} (hk : isBench k = true) : Nat.ble ((k + 2) + 1) 143 = true := by rcases isBench_or hk with rfl | rfl | rfl | rfl | rfl | rfl <;> rfl
theorem m_Bench_ends {k : Nat} (hk : isBench k = true) : (k + 2) < 102 := by rcases isBench_or hk with rfl | rfl | rfl | rfl | rfl | rfl <;> decide
theorem e_Bench_ends {k : Nat} (hk : isBench k = true) : el V h (k + 2) = .inl (V.2.1 1, 10, .inl (h.1 (k + 2))) := by rcases isBench_or hk with rfl | rfl | rfl | rfl | rfl | rfl <;> rfl
theorem g_Bench_ends {k : Nat} (hk : isBench k = true) : WG V h o (k + 2) = .inl (V.2.1 1, 10, .inl (h.1 (k + 2))) := wc_at (m_Bench_ends hk) (e_Bench_ends hk)
theorem uf_Bench_ends {k : Nat} {f : Nat → Int32} (hk : isBench k = true) : va_up (WG V h o) (k + 2) (.inl (V.2.1 1, 10, .inl f)) = WG V (rowI h (k + 2) f) o := by
  refine wgc (m_Bench_ends hk) ((e_Bench_ends hk).trans ?_) (fun j hj => el_rowI _ hj)
  simp [rowI, va_up]
theorem u_Bench_ends {k i : Nat} {x : Int32} (hk : isBench k = true) : va_up (WG V h o) (k + 2) (.inl (V.2.1 1, 10, .inl (upd (h.1 (k + 2)) i x))) = WG V (wI h (k + 2) i x) o := uf_Bench_ends hk
theorem u_Bench_4 {k : Nat} {x : Int32} (hk : isBench k = true) : va_up (WG V h o) k (.inr (2, ([.int (h.1 k 0), .int (h.1 k 1), rf V (k + 1), rf V (k + 2), .int (h.1 k 4), rf V (k + 3)] : List Value).set 4 (.int x))) = WG V (wI h k 4 x) o := by
  refine wgc (m_Bench hk) ((e_Bench hk).trans ?_) (fun j hj => el_rowI _ hj)
  simp [wI, rowI, va_up, upd]
theorem b_Bench_steps {k : Nat} (hk : isBench k = true) : Nat.ble ((k + 3) + 1) 143 = true := by rcases isBench_or hk with rfl | rfl | rfl | rfl | rfl | rfl <;> rfl
theorem m_Bench_steps {k : Nat} (hk : isBench k = true) : (k + 3) < 102 := by rcases isBench_or hk with rfl | rfl | rfl | rfl | rfl | rfl <;> decide
theorem e_Bench_steps {k : Nat} (hk : isBench k = true) : el V h (k + 3) = .inl (V.2.1 1, 100, .inl (h.1 (k + 3))) := by rcases isBench_or hk with rfl | rfl | rfl | rfl | rfl | rfl <;> rfl
theorem g_Bench_steps {k : Nat} (hk : isBench k = true) : WG V h o (k + 3) = .inl (V.2.1 1, 100, .inl (h.1 (k + 3))) := wc_at (m_Bench_steps hk) (e_Bench_steps hk)
theorem uf_Bench_steps {k : Nat} {f : Nat → Int32} (hk : isBench k = true) : va_up (WG V h o) (k + 3) (.inl (V.2.1 1, 100, .inl f)) = WG V (rowI h (k + 3) f) o := by
  refine wgc (m_Bench_steps hk) ((e_Bench_steps hk).trans ?_) (fun j hj => el_rowI _ hj)
  simp [rowI, va_up]
theorem u_Bench_steps {k i : Nat} {x : Int32} (hk : isBench k = true) : va_up (WG V h o) (k + 3) (.inl (V.2.1 1, 100, .inl (upd (h.1 (k + 3)) i x))) = WG V (wI h (k + 3) i x) o := uf_Bench_steps hk
def isTape (k : Nat) : Bool := ([90, 92, 94, 96, 98, 100] : List Nat).contains k
theorem isTape_or {k : Nat} (hk : isTape k = true) : k = 90 ∨ k = 92 ∨ k = 94 ∨ k = 96 ∨ k = 98 ∨ k = 100 := by simpa [isTape] using hk
theorem b_Tape {k : Nat} (hk : isTape k = true) : Nat.ble (k + 1) 143 = true := by rcases isTape_or hk with rfl | rfl | rfl | rfl | rfl | rfl <;> rfl
theorem m_Tape {k : Nat} (hk : isTape k = true) : k < 102 := by rcases isTape_or hk with rfl | rfl | rfl | rfl | rfl | rfl <;> decide
theorem e_Tape {k : Nat} (hk : isTape k = true) : el V h k = .inr (8, [.int (h.1 k 0), .int (h.1 k 1), rf V (k + 1)]) := by rcases isTape_or hk with rfl | rfl | rfl | rfl | rfl | rfl <;> rfl
theorem g_Tape {k : Nat} (hk : isTape k = true) : WG V h o k = .inr (8, [.int (h.1 k 0), .int (h.1 k 1), rf V (k + 1)]) := wc_at (m_Tape hk) (e_Tape hk)
theorem u_Tape_0 {k : Nat} {x : Int32} (hk : isTape k = true) : va_up (WG V h o) k (.inr (8, ([.int (h.1 k 0), .int (h.1 k 1), rf V (k + 1)] : List Value).set 0 (.int x))) = WG V (wI h k 0 x) o := by
  refine wgc (m_Tape hk) ((e_Tape hk).trans ?_) (fun j hj => el_rowI _ hj)
  simp [wI, rowI, va_up, upd]
theorem u_Tape_1 {k : Nat} {x : Int32} (hk : isTape k = true) : va_up (WG V h o) k (.inr (8, ([.int (h.1 k 0), .int (h.1 k 1), rf V (k + 1)] : List Value).set 1 (.int x))) = WG V (wI h k 1 x) o := by
  refine wgc (m_Tape hk) ((e_Tape hk).trans ?_) (fun j hj => el_rowI _ hj)
  simp [wI, rowI, va_up, upd]
theorem b_Tape_items {k : Nat} (hk : isTape k = true) : Nat.ble ((k + 1) + 1) 143 = true := by rcases isTape_or hk with rfl | rfl | rfl | rfl | rfl | rfl <;> rfl
theorem m_Tape_items {k : Nat} (hk : isTape k = true) : (k + 1) < 102 := by rcases isTape_or hk with rfl | rfl | rfl | rfl | rfl | rfl <;> decide
theorem e_Tape_items {k : Nat} (hk : isTape k = true) : el V h (k + 1) = .inl (V.2.1 2, 60, .inr (.inl (h.2.1 (k + 1)))) := by rcases isTape_or hk with rfl | rfl | rfl | rfl | rfl | rfl <;> rfl
theorem g_Tape_items {k : Nat} (hk : isTape k = true) : WG V h o (k + 1) = .inl (V.2.1 2, 60, .inr (.inl (h.2.1 (k + 1)))) := wc_at (m_Tape_items hk) (e_Tape_items hk)
theorem uf_Tape_items {k : Nat} {f : Nat → Int64} (hk : isTape k = true) : va_up (WG V h o) (k + 1) (.inl (V.2.1 2, 60, .inr (.inl f))) = WG V (rowL h (k + 1) f) o := by
  refine wgc (m_Tape_items hk) ((e_Tape_items hk).trans ?_) (fun j hj => el_rowL _ hj)
  simp [rowL, va_up]
theorem u_Tape_items {k i : Nat} {x : Int64} (hk : isTape k = true) : va_up (WG V h o) (k + 1) (.inl (V.2.1 2, 60, .inr (.inl (vp_updL (h.2.1 (k + 1)) i x)))) = WG V (wL h (k + 1) i x) o := uf_Tape_items hk
def isShop (k : Nat) : Bool := ([1, 16] : List Nat).contains k
theorem isShop_or {k : Nat} (hk : isShop k = true) : k = 1 ∨ k = 16 := by simpa [isShop] using hk
theorem b_Shop {k : Nat} (hk : isShop k = true) : Nat.ble (k + 1) 143 = true := by rcases isShop_or hk with rfl | rfl <;> rfl
theorem m_Shop {k : Nat} (hk : isShop k = true) : k < 102 := by rcases isShop_or hk with rfl | rfl <;> decide
theorem e_Shop {k : Nat} (hk : isShop k = true) : el V h k = .inr (7, [.int (h.1 k 0), rf V (k + 1), rf V (k + 2), rf V (k + 3), rf V (k + 4), rf V (k + 5), rf V (k + 8), rf V (k + 10), rf V (k + 12), rf V (k + 14), rq V (h.2.2 k 10)]) := by rcases isShop_or hk with rfl | rfl <;> rfl
theorem g_Shop {k : Nat} (hk : isShop k = true) : WG V h o k = .inr (7, [.int (h.1 k 0), rf V (k + 1), rf V (k + 2), rf V (k + 3), rf V (k + 4), rf V (k + 5), rf V (k + 8), rf V (k + 10), rf V (k + 12), rf V (k + 14), rq V (h.2.2 k 10)]) := wc_at (m_Shop hk) (e_Shop hk)
theorem u_Shop_0 {k : Nat} {x : Int32} (hk : isShop k = true) : va_up (WG V h o) k (.inr (7, ([.int (h.1 k 0), rf V (k + 1), rf V (k + 2), rf V (k + 3), rf V (k + 4), rf V (k + 5), rf V (k + 8), rf V (k + 10), rf V (k + 12), rf V (k + 14), rq V (h.2.2 k 10)] : List Value).set 0 (.int x))) = WG V (wI h k 0 x) o := by
  refine wgc (m_Shop hk) ((e_Shop hk).trans ?_) (fun j hj => el_rowI _ hj)
  simp [wI, rowI, va_up, upd]
theorem b_Shop_kinds {k : Nat} (hk : isShop k = true) : Nat.ble ((k + 1) + 1) 143 = true := by rcases isShop_or hk with rfl | rfl <;> rfl
theorem m_Shop_kinds {k : Nat} (hk : isShop k = true) : (k + 1) < 102 := by rcases isShop_or hk with rfl | rfl <;> decide
theorem e_Shop_kinds {k : Nat} (hk : isShop k = true) : el V h (k + 1) = .inl (V.2.1 1, 6, .inl (h.1 (k + 1))) := by rcases isShop_or hk with rfl | rfl <;> rfl
theorem g_Shop_kinds {k : Nat} (hk : isShop k = true) : WG V h o (k + 1) = .inl (V.2.1 1, 6, .inl (h.1 (k + 1))) := wc_at (m_Shop_kinds hk) (e_Shop_kinds hk)
theorem uf_Shop_kinds {k : Nat} {f : Nat → Int32} (hk : isShop k = true) : va_up (WG V h o) (k + 1) (.inl (V.2.1 1, 6, .inl f)) = WG V (rowI h (k + 1) f) o := by
  refine wgc (m_Shop_kinds hk) ((e_Shop_kinds hk).trans ?_) (fun j hj => el_rowI _ hj)
  simp [rowI, va_up]
theorem u_Shop_kinds {k i : Nat} {x : Int32} (hk : isShop k = true) : va_up (WG V h o) (k + 1) (.inl (V.2.1 1, 6, .inl (upd (h.1 (k + 1)) i x))) = WG V (wI h (k + 1) i x) o := uf_Shop_kinds hk
theorem b_Shop_values {k : Nat} (hk : isShop k = true) : Nat.ble ((k + 2) + 1) 143 = true := by rcases isShop_or hk with rfl | rfl <;> rfl
theorem m_Shop_values {k : Nat} (hk : isShop k = true) : (k + 2) < 102 := by rcases isShop_or hk with rfl | rfl <;> decide
theorem e_Shop_values {k : Nat} (hk : isShop k = true) : el V h (k + 2) = .inl (V.2.1 1, 6, .inl (h.1 (k + 2))) := by rcases isShop_or hk with rfl | rfl <;> rfl
theorem g_Shop_values {k : Nat} (hk : isShop k = true) : WG V h o (k + 2) = .inl (V.2.1 1, 6, .inl (h.1 (k + 2))) := wc_at (m_Shop_values hk) (e_Shop_values hk)
theorem uf_Shop_values {k : Nat} {f : Nat → Int32} (hk : isShop k = true) : va_up (WG V h o) (k + 2) (.inl (V.2.1 1, 6, .inl f)) = WG V (rowI h (k + 2) f) o := by
  refine wgc (m_Shop_values hk) ((e_Shop_values hk).trans ?_) (fun j hj => el_rowI _ hj)
  simp [rowI, va_up]
theorem u_Shop_values {k i : Nat} {x : Int32} (hk : isShop k = true) : va_up (WG V h o) (k + 2) (.inl (V.2.1 1, 6, .inl (upd (h.1 (k + 2)) i x))) = WG V (wI h (k + 2) i x) o := uf_Shop_values hk
theorem b_Shop_rows {k : Nat} (hk : isShop k = true) : Nat.ble ((k + 3) + 1) 143 = true := by rcases isShop_or hk with rfl | rfl <;> rfl
theorem m_Shop_rows {k : Nat} (hk : isShop k = true) : (k + 3) < 102 := by rcases isShop_or hk with rfl | rfl <;> decide
theorem e_Shop_rows {k : Nat} (hk : isShop k = true) : el V h (k + 3) = .inl (V.2.1 1, 24, .inl (h.1 (k + 3))) := by rcases isShop_or hk with rfl | rfl <;> rfl
theorem g_Shop_rows {k : Nat} (hk : isShop k = true) : WG V h o (k + 3) = .inl (V.2.1 1, 24, .inl (h.1 (k + 3))) := wc_at (m_Shop_rows hk) (e_Shop_rows hk)
theorem uf_Shop_rows {k : Nat} {f : Nat → Int32} (hk : isShop k = true) : va_up (WG V h o) (k + 3) (.inl (V.2.1 1, 24, .inl f)) = WG V (rowI h (k + 3) f) o := by
  refine wgc (m_Shop_rows hk) ((e_Shop_rows hk).trans ?_) (fun j hj => el_rowI _ hj)
  simp [rowI, va_up]
theorem u_Shop_rows {k i : Nat} {x : Int32} (hk : isShop k = true) : va_up (WG V h o) (k + 3) (.inl (V.2.1 1, 24, .inl (upd (h.1 (k + 3)) i x))) = WG V (wI h (k + 3) i x) o := uf_Shop_rows hk
theorem b_Shop_sums {k : Nat} (hk : isShop k = true) : Nat.ble ((k + 4) + 1) 143 = true := by rcases isShop_or hk with rfl | rfl <;> rfl
theorem m_Shop_sums {k : Nat} (hk : isShop k = true) : (k + 4) < 102 := by rcases isShop_or hk with rfl | rfl <;> decide
theorem e_Shop_sums {k : Nat} (hk : isShop k = true) : el V h (k + 4) = .inl (V.2.1 1, 606, .inl (h.1 (k + 4))) := by rcases isShop_or hk with rfl | rfl <;> rfl
theorem g_Shop_sums {k : Nat} (hk : isShop k = true) : WG V h o (k + 4) = .inl (V.2.1 1, 606, .inl (h.1 (k + 4))) := wc_at (m_Shop_sums hk) (e_Shop_sums hk)
theorem uf_Shop_sums {k : Nat} {f : Nat → Int32} (hk : isShop k = true) : va_up (WG V h o) (k + 4) (.inl (V.2.1 1, 606, .inl f)) = WG V (rowI h (k + 4) f) o := by
  refine wgc (m_Shop_sums hk) ((e_Shop_sums hk).trans ?_) (fun j hj => el_rowI _ hj)
  simp [rowI, va_up]
theorem u_Shop_sums {k i : Nat} {x : Int32} (hk : isShop k = true) : va_up (WG V h o) (k + 4) (.inl (V.2.1 1, 606, .inl (upd (h.1 (k + 4)) i x))) = WG V (wI h (k + 4) i x) o := uf_Shop_sums hk
theorem s_Shop_now {k : Nat} (hk : isShop k = true) : isCourse (k + 5) = true := by rcases isShop_or hk with rfl | rfl <;> rfl
theorem s_Shop_seen {k : Nat} (hk : isShop k = true) : isRows (k + 8) = true := by rcases isShop_or hk with rfl | rfl <;> rfl
theorem s_Shop_month {k : Nat} (hk : isShop k = true) : isRows (k + 10) = true := by rcases isShop_or hk with rfl | rfl <;> rfl
theorem s_Shop_book {k : Nat} (hk : isShop k = true) : isRows (k + 12) = true := by rcases isShop_or hk with rfl | rfl <;> rfl
theorem b_Shop_worth {k : Nat} (hk : isShop k = true) : Nat.ble ((k + 14) + 1) 143 = true := by rcases isShop_or hk with rfl | rfl <;> rfl
theorem m_Shop_worth {k : Nat} (hk : isShop k = true) : (k + 14) < 102 := by rcases isShop_or hk with rfl | rfl <;> decide
theorem e_Shop_worth {k : Nat} (hk : isShop k = true) : el V h (k + 14) = .inl (V.2.1 1, 6, .inl (h.1 (k + 14))) := by rcases isShop_or hk with rfl | rfl <;> rfl
theorem g_Shop_worth {k : Nat} (hk : isShop k = true) : WG V h o (k + 14) = .inl (V.2.1 1, 6, .inl (h.1 (k + 14))) := wc_at (m_Shop_worth hk) (e_Shop_worth hk)
theorem uf_Shop_worth {k : Nat} {f : Nat → Int32} (hk : isShop k = true) : va_up (WG V h o) (k + 14) (.inl (V.2.1 1, 6, .inl f)) = WG V (rowI h (k + 14) f) o := by
  refine wgc (m_Shop_worth hk) ((e_Shop_worth hk).trans ?_) (fun j hj => el_rowI _ hj)
  simp [rowI, va_up]
theorem u_Shop_worth {k i : Nat} {x : Int32} (hk : isShop k = true) : va_up (WG V h o) (k + 14) (.inl (V.2.1 1, 6, .inl (upd (h.1 (k + 14)) i x))) = WG V (wI h (k + 14) i x) o := uf_Shop_worth hk
theorem u_Shop_10 {k : Nat} {x : Option Nat} (hk : isShop k = true) : va_up (WG V h o) k (.inr (7, ([.int (h.1 k 0), rf V (k + 1), rf V (k + 2), rf V (k + 3), rf V (k + 4), rf V (k + 5), rf V (k + 8), rf V (k + 10), rf V (k + 12), rf V (k + 14), rq V (h.2.2 k 10)] : List Value).set 10 (rq V x))) = WG V (wR h k 10 x) o := by
  refine wgc (m_Shop hk) ((e_Shop hk).trans ?_) (fun j hj => el_wR _ hj)
  simp [wR, va_up]
theorem ra_Bench {i : Int32} (hi : inb i 6 = true) : isBench (66 + 4 * ix i) = true := by
  have h1 : ix i < 6 := by
    unfold inb at hi
    rw [Bool.and_eq_true, decide_eq_true_eq, decide_eq_true_eq] at hi
    show i.toInt.toNat < 6
    omega
  have h2 : ∀ j, j < 6 → isBench (66 + 4 * j) = true := by decide
  exact h2 _ h1
theorem ra_Course {i : Int32} (hi : inb i 7 = true) : isCourse (42 + 3 * ix i) = true := by
  have h1 : ix i < 7 := by
    unfold inb at hi
    rw [Bool.and_eq_true, decide_eq_true_eq, decide_eq_true_eq] at hi
    show i.toInt.toNat < 7
    omega
  have h2 : ∀ j, j < 7 → isCourse (42 + 3 * j) = true := by decide
  exact h2 _ h1
theorem ra_Tape {i : Int32} (hi : inb i 6 = true) : isTape (90 + 2 * ix i) = true := by
  have h1 : ix i < 6 := by
    unfold inb at hi
    rw [Bool.and_eq_true, decide_eq_true_eq, decide_eq_true_eq] at hi
    show i.toInt.toNat < 6
    omega
  have h2 : ∀ j, j < 6 → isTape (90 + 2 * j) = true := by decide
  exact h2 _ h1
end World
