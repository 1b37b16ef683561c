/-! the invariant between the class and the reference -/
theorem uI_ne {I : IF} {a k a' k' : Nat} {v : Int32} (h : a' ≠ a) : uI I a k v a' k' = I a' k' := by unfold uI; rw [if_neg h]
theorem uI_nk {I : IF} {a k k' : Nat} {v : Int32} (h : k' ≠ k) : uI I a k v a k' = I a k' := by unfold uI; rw [if_pos rfl, if_neg h]
theorem uI_eq {I : IF} {a k : Nat} {v : Int32} : uI I a k v a k = v := by unfold uI; rw [if_pos rfl, if_pos rfl]
theorem uI_fn {I : IF} {a k a' : Nat} {v : Int32} (h : a' ≠ a) : uI I a k v a' = I a' := by funext k'; exact uI_ne h
theorem uL_ne {I : LF} {a k a' k' : Nat} {v : Int64} (h : a' ≠ a) : uL I a k v a' k' = I a' k' := by unfold uL; rw [if_neg h]
theorem uL_nk {I : LF} {a k k' : Nat} {v : Int64} (h : k' ≠ k) : uL I a k v a k' = I a k' := by unfold uL; rw [if_pos rfl, if_neg h]
theorem uL_eq {I : LF} {a k : Nat} {v : Int64} : uL I a k v a k = v := by unfold uL; rw [if_pos rfl, if_pos rfl]
def IVc (nm na nr : Nat) (I : IF) : Prop := (I 1 2 = nI nm ∧ I 72 5 = nI nm ∧ nm ≤ 10) ∧ (I 1 3 = nI na ∧ I 72 6 = nI na ∧ na ≤ 4) ∧ (I 1 4 = nI nr ∧ I 72 7 = nI nr ∧ nr ≤ 16)
def IVs (I : IF) : Prop := (I 72 8 = I 1 5 ∧ 0 ≤ I 1 5 ∧ I 1 5 ≤ 52) ∧ I 72 9 = I 1 6 ∧ (I 72 10 = I 1 7 ∧ 1 ≤ I 1 7 ∧ I 1 7 ≤ 100) ∧ (I 72 11 = I 0 9 ∧ 0 ≤ I 0 9 ∧ I 0 9 ≤ 10000000) ∧ (I 72 30 = I 0 10 ∧ (I 0 10 = -1 ∨ (1 ≤ I 0 10 ∧ I 0 10 ≤ 52 ∧ ¬ I 1 2 = 0))) ∧ (I 72 32 = I 0 11 ∧ (I 0 11 = 0 ∨ I 0 11 = 1)) ∧ I 72 37 = I 0 8 ∧ I 72 31 = I 39 4 ∧ (I 0 11 = 1 → ¬ I 0 10 = -1) ∧ (0 < I 1 5 → I 0 11 = 1)
def IVm (I : IF) : Prop := ∀ m, m < 14 → (I 77 m = I (4 + m) 0 ∧ I 78 m = I (4 + m) 1 ∧ I 79 m = I (4 + m) 2 ∧ I 80 m = I (4 + m) 5) ∧ (0 ≤ I (4 + m) 0 ∧ I (4 + m) 0 ≤ 100) ∧ (0 ≤ I (4 + m) 1 ∧ I (4 + m) 1 ≤ 100) ∧ (0 ≤ I (4 + m) 2 ∧ I (4 + m) 2 ≤ 10000) ∧ (0 ≤ I (4 + m) 5 ∧ I (4 + m) 5 ≤ 11)
def IVk (nm : Nat) (I : IF) : Prop := ∀ m, m < 10 → (I 83 m = I (4 + m) 4 ∧ (I (4 + m) 4 = 0 ∨ I (4 + m) 4 = 1)) ∧ (I 84 m = I (4 + m) 9 ∧ (I (4 + m) 9 = 0 ∨ I (4 + m) 9 = 1)) ∧ (I 85 m = I (4 + m) 10 ∧ (I (4 + m) 10 = 0 ∨ I (4 + m) 10 = 1)) ∧ (¬ I (4 + m) 9 = 0 → I 0 11 = 1 ∧ 0 < I 1 5) ∧ (nm ≤ m → I (4 + m) 9 = 0)
def IVf (nm : Nat) (I : IF) : Prop := ∀ m, m < nm → I 81 m = I (4 + m) 3 ∧ -1 ≤ I (4 + m) 3 ∧ I (4 + m) 3 < nI m
def IVu (I : IF) : Prop := ∀ k, k < 4 → (I 82 k = I (14 + k) 8 ∧ 0 ≤ I (14 + k) 8 ∧ I (14 + k) 8 ≤ 52) ∧ I (14 + k) 9 = 0
def IVp (nm : Nat) (I : IF) : Prop := ∀ m, m < 10 → ((¬ I 0 10 = -1 ∧ m < nm → I 94 m = I (4 + m) 7 ∧ 0 ≤ I (4 + m) 7 ∧ I (4 + m) 7 ≤ 51)) ∧ ((I 0 10 = -1 ∨ nm ≤ m) → I (4 + m) 7 = -1) ∧ ((I 0 11 = 1 ∧ m < nm) → I 95 m = I (4 + m) 6 ∧ 0 ≤ I (4 + m) 6 ∧ I (4 + m) 6 ≤ 11) ∧ ((I 0 11 = 0 ∨ nm ≤ m) → I (4 + m) 6 = -1)
def IVa (I : IF) : Prop := ∀ a, a < 16 → (I 86 a = I (18 + a) 0 ∧ I 87 a = I (18 + a) 1 ∧ I 88 a = I (18 + a) 2 ∧ I 89 a = I (18 + a) 3 ∧ I 90 a = I (18 + a) 4 ∧ I 91 a = I (18 + a) 5 ∧ I 93 a = I (18 + a) 7) ∧ (0 ≤ I (18 + a) 0 ∧ I (18 + a) 0 ≤ 100) ∧ (0 ≤ I (18 + a) 1 ∧ I (18 + a) 1 ≤ 100) ∧ (0 ≤ I (18 + a) 2 ∧ I (18 + a) 2 ≤ 100000) ∧ (0 ≤ I (18 + a) 5 ∧ I (18 + a) 5 ≤ I (18 + a) 2)
def IVl (nm nr : Nat) (I : IF) : Prop := ∀ a, a < 16 → (a < nr → I 92 a = I (18 + a) 6 ∧ -1 ≤ I (18 + a) 6 ∧ I (18 + a) 6 < nI nm) ∧ (nr ≤ a → I (18 + a) 6 = -1 ∧ I (18 + a) 5 = 0)
def IVt (I : IF) : Prop := (∃ tl, tl ≤ 300 ∧ I 44 1 = nI tl ∧ I 72 36 = nI tl) ∧ ∀ j, j < 300 → I 96 j = I 45 j ∧ vp_nar .byte (I 45 j) = I 45 j
def IVr (I : IF) (L : LF) : Prop := ∀ s, s < 4 → (∀ j, j < 60 → L 75 (60 * s + j) = L (58 + 2 * s) j) ∧ ((I (57 + 2 * s) 2 = -1 ∧ I 73 s = -1) ∨ ((0 ≤ I (57 + 2 * s) 2 ∧ I (57 + 2 * s) 2 ≤ 60) ∧ I 74 s = I (57 + 2 * s) 2 ∧ (0 ≤ I 73 s ∧ I 73 s ≤ 3) ∧ I (57 + 2 * s) 1 = I 73 s))
def IV (nm na nr : Nat) (I : IF) (L : LF) : Prop := IVc nm na nr I ∧ IVs I ∧ IVm I ∧ IVk nm I ∧ IVf nm I ∧ IVu I ∧ IVp nm I ∧ IVa I ∧ IVl nm nr I ∧ IVt I ∧ IVr I L
def InvA (I : IF) (L : LF) : Prop := ∃ nm na nr, IV nm na nr I L
def LSm (I I2 : IF) : Prop := (∀ a, (50 ≤ a ∧ a ≤ 54 ∨ 66 ≤ a ∧ a ≤ 70 ∨ a = 97 ∨ a = 98) → I2 a = I a) ∧ I2 72 12 = I 72 12
def StepA (G : Gl) (d : Nat) (Yc Ym : mY) (As : List Value) (I : IF) (L : LF) (b : Bool) : Prop := ∃ (r : Int32) (I1 : IF) (L1 : LF) (I2 : IF) (L2 : LF), MD G d Yc (.ref 0 :: As) (I, L, RR b) (some (.int r)) (I1, L1, RR b) ∧ MD G d Ym (.ref 72 :: As) (I1, L1, RR b) (some (.int r)) (I2, L2, RR b) ∧ InvA I2 L2 ∧ LSm I I2
/-- the families look at these addresses alone -/
theorem IVm_fr {I J : IF} (h : IVm I) (h1 : ∀ m, m < 14 → J (4 + m) = I (4 + m)) (h2 : ∀ a, 77 ≤ a → a ≤ 80 → J a = I a) : IVm J := by
  intro m hm
  have := h m hm
  rw [h1 m hm, h2 77 (by omega) (by omega), h2 78 (by omega) (by omega), h2 79 (by omega) (by omega), h2 80 (by omega) (by omega)]
  exact this
theorem IVk_fr {nm : Nat} {I J : IF} (h : IVk nm I) (h1 : ∀ m, m < 14 → J (4 + m) = I (4 + m)) (h2 : ∀ a, 83 ≤ a → a ≤ 85 → J a = I a) (h3 : J 0 11 = I 0 11) (h4 : J 1 5 = I 1 5 := by first | rfl | (simp (disch := omega) only [uI_ne, uI_nk])) : IVk nm J := by
  intro m hm
  have := h m hm
  rw [h1 m (by omega), h2 83 (by omega) (by omega), h2 84 (by omega) (by omega), h2 85 (by omega) (by omega), h3, h4]
  exact this
theorem IVf_fr {nm : Nat} {I J : IF} (hn : nm ≤ 10) (h : IVf nm I) (h1 : ∀ m, m < 14 → J (4 + m) = I (4 + m)) (h2 : J 81 = I 81) : IVf nm J := by
  intro m hm
  have := h m hm
  rw [h1 m (by omega), h2]
  exact this
theorem IVu_fr {I J : IF} (h : IVu I) (h1 : ∀ m, m < 14 → J (4 + m) = I (4 + m)) (h2 : J 82 = I 82) : IVu J := by
  intro m hm
  have := h m hm
  have e := h1 (10 + m) (by omega)
  rw [show 4 + (10 + m) = 14 + m by omega] at e
  rw [e, h2]
  exact this
theorem IVp_fr {nm : Nat} {I J : IF} (h : IVp nm I) (h1 : ∀ m, m < 14 → J (4 + m) = I (4 + m)) (h2 : ∀ a, 94 ≤ a → a ≤ 95 → J a = I a) (h3 : J 0 10 = I 0 10) (h4 : J 0 11 = I 0 11) : IVp nm J := by
  intro m hm
  have := h m hm
  rw [h1 m (by omega), h2 94 (by omega) (by omega), h2 95 (by omega) (by omega), h3, h4]
  exact this
theorem IVa_fr {I J : IF} (h : IVa I) (h1 : ∀ m, m < 16 → J (18 + m) = I (18 + m)) (h2 : ∀ a, 86 ≤ a → a ≤ 93 → J a = I a) : IVa J := by
  intro m hm
  have := h m hm
  rw [h1 m hm, h2 86 (by omega) (by omega), h2 87 (by omega) (by omega), h2 88 (by omega) (by omega), h2 89 (by omega) (by omega), h2 90 (by omega) (by omega), h2 91 (by omega) (by omega), h2 93 (by omega) (by omega)]
  exact this
theorem IVl_fr {nm nr : Nat} {I J : IF} (h : IVl nm nr I) (h1 : ∀ m, m < 16 → J (18 + m) = I (18 + m)) (h2 : J 92 = I 92) : IVl nm nr J := by
  intro m hm
  have := h m hm
  rw [h1 m hm, h2]
  exact this
theorem IVt_fr {I J : IF} (h : IVt I) (h1 : J 44 1 = I 44 1) (h2 : J 72 36 = I 72 36) (h3 : J 96 = I 96) (h4 : J 45 = I 45) : IVt J := by
  unfold IVt
  rw [h1, h2, h3, h4]
  exact h
theorem IVr_fr {I J : IF} {L : LF} (h : IVr I L) (h1 : ∀ m, m < 4 → J (57 + 2 * m) = I (57 + 2 * m)) (h2 : J 73 = I 73) (h3 : J 74 = I 74) : IVr J L := by
  intro m hm
  have := h m hm
  rw [h1 m hm, h2, h3]
  exact this
/-- only scalars change: of 0, 1, 39, 44, 72 -/
theorem IV_sc {nm na nr : Nat} {I J : IF} {L : LF} (h : IV nm na nr I L) (ho : ∀ a, a ≠ 0 → a ≠ 1 → a ≠ 39 → a ≠ 44 → a ≠ 72 → J a = I a) (h10 : J 0 10 = I 0 10) (h11 : J 0 11 = I 0 11) (hc : IVc nm na nr J) (hs : IVs J) (ht : J 44 1 = I 44 1) (ht2 : J 72 36 = I 72 36) (h15 : J 1 5 = I 1 5 := by first | rfl | (simp (disch := omega) only [uI_ne, uI_nk])) : IV nm na nr J L := by
  obtain ⟨a1, a2, a3, a4, a5, a6, a7, a8, a9, a10, a11⟩ := h
  refine ⟨hc, hs, IVm_fr a3 (fun m hm => ho _ (by omega) (by omega) (by omega) (by omega) (by omega)) (fun a _ _ => ho _ (by omega) (by omega) (by omega) (by omega) (by omega)), IVk_fr a4 (fun m hm => ho _ (by omega) (by omega) (by omega) (by omega) (by omega)) (fun a _ _ => ho _ (by omega) (by omega) (by omega) (by omega) (by omega)) h11 h15,
    IVf_fr a1.1.2.2 a5 (fun m hm => ho _ (by omega) (by omega) (by omega) (by omega) (by omega)) (ho _ (by omega) (by omega) (by omega) (by omega) (by omega)), IVu_fr a6 (fun m hm => ho _ (by omega) (by omega) (by omega) (by omega) (by omega)) (ho _ (by omega) (by omega) (by omega) (by omega) (by omega)),
    IVp_fr a7 (fun m hm => ho _ (by omega) (by omega) (by omega) (by omega) (by omega)) (fun a _ _ => ho _ (by omega) (by omega) (by omega) (by omega) (by omega)) h10 h11, IVa_fr a8 (fun m hm => ho _ (by omega) (by omega) (by omega) (by omega) (by omega)) (fun a _ _ => ho _ (by omega) (by omega) (by omega) (by omega) (by omega)),
    IVl_fr a9 (fun m hm => ho _ (by omega) (by omega) (by omega) (by omega) (by omega)) (ho _ (by omega) (by omega) (by omega) (by omega) (by omega)), IVt_fr a10 ht ht2 (ho _ (by omega) (by omega) (by omega) (by omega) (by omega)) (ho _ (by omega) (by omega) (by omega) (by omega) (by omega)), IVr_fr a11 (fun m hm => ho _ (by omega) (by omega) (by omega) (by omega) (by omega)) (ho _ (by omega) (by omega) (by omega) (by omega) (by omega)) (ho _ (by omega) (by omega) (by omega) (by omega) (by omega))⟩
theorem LSm_sc {I J : IF} (ho : ∀ a, a ≠ 0 → a ≠ 1 → a ≠ 39 → a ≠ 44 → a ≠ 72 → J a = I a) (h : J 72 12 = I 72 12) : LSm I J := ⟨fun a ha => ho a (by omega) (by omega) (by omega) (by omega) (by omega), h⟩
theorem thr_o {I : IF} : ∀ a, a ≠ 0 → a ≠ 1 → a ≠ 39 → a ≠ 44 → a ≠ 72 → uI I 72 0 0 a = I a := fun a _ _ _ _ h => uI_fn h
theorem IV_thr {nm na nr : Nat} {I : IF} {L : LF} (h : IV nm na nr I L) : IV nm na nr (uI I 72 0 0) L := IV_sc h thr_o rfl rfl h.1 h.2.1 rfl rfl
theorem LSm_thr {I : IF} : LSm I (uI I 72 0 0) := LSm_sc thr_o rfl
theorem StepA.query {G : Gl} {d nm na nr : Nat} {Yc Ym : mY} {As : List Value} {I : IF} {L : LF} {b : Bool} {r : Int32} (h : IV nm na nr I L) (h1 : MD G d Yc (.ref 0 :: As) (I, L, RR b) (some (.int r)) (I, L, RR b)) (h2 : MD G d Ym (.ref 72 :: As) (I, L, RR b) (some (.int r)) (uI I 72 0 0, L, RR b)) : StepA G d Yc Ym As I L b :=
  ⟨r, I, L, uI I 72 0 0, L, h1, h2, ⟨nm, na, nr, IV_thr h⟩, LSm_thr⟩
