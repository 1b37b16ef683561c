/-! feed -/
def byt (x : Int32) (i : Nat) : Int32 := (x >>> (nI (24 - 8 * i) &&& 31)).toInt8.toInt32
theorem byt_nar (x : Int32) (i : Nat) : vp_nar .byte (byt x i) = byt x i := pk_vb _
def apW (J : IF) (t : Nat) (x : Int32) : IF := uI (uI (uI (uI (uI (uI (uI (uI J 45 t (byt x 0)) 44 1 (nI (t + 1))) 45 (t + 1) (byt x 1)) 44 1 (nI (t + 2))) 45 (t + 2) (byt x 2)) 44 1 (nI (t + 3))) 45 (t + 3) (byt x 3)) 44 1 (nI (t + 4))
theorem c_X7_append (G : Gl) (d : Nat) {t : Nat} (x : Int32) (I : IF) (L : LF) (b : Bool) (h : I 44 1 = nI t) (ht : t + 4 ≤ 300) : MD G (d + 1) Y_X7_append [.ref 44, .int x] (I, L, RR b) none (apW I t x, L, RR b) := by
  generalize hW : apW I t x = W
  have step : ∀ (i : Nat) (J : IF) (u : Nat), i < 4 → J 44 1 = nI u → u < 300 → WQ G (d + 1) Y_X7_append (fun r' w'' => r' = none ∧ w'' = (W, L, RR b)) 7 [(0, .ref 44), (1, .int x), (2, .int (nI (24 - 8 * i) + Int32.ofInt (-8)))] [] (uI (uI J 45 u (byt x i)) 44 1 (nI (u + 1)), L, RR b) → WQ G (d + 1) Y_X7_append (fun r' w'' => r' = none ∧ w'' = (W, L, RR b)) 7 [(0, .ref 44), (1, .int x), (2, .int (nI (24 - 8 * i)))] [] (J, L, RR b) := by
    intro i J u hi hu hu3 K
    have hin : vp_in (J 44 1) 300 := by rw [hu]; exact vp_in_nI hu3 (by omega)
    have hcl : (nI u).toNatClampNeg = u := nI_clamp (by omega)
    have hge : ¬ nI (24 - 8 * i) < 0 := nI_pos (by omega)
    have e2 : ∀ v, uI J 45 u v 44 1 = nI u := fun v => by rw [uI_ne (by decide)]; exact hu
    refine wp_iload_n rfl rfl ?_
    refine wp_if_lt 26 rfl rfl (fun h8 => absurd h8 hge) (fun _ => ?_)
    refine wp_aload_n rfl rfl ?_
    refine q_getr rfl rfl (by first | rfl | assumption) rfl rfl ?_
    refine wp_aload_n rfl rfl ?_
    refine q_geti rfl rfl (by first | rfl | assumption) rfl ?_
    refine wp_iload_n rfl rfl ?_
    refine wp_iload_n rfl rfl ?_
    refine wp_ishr rfl ?_
    refine wp_i2b rfl ?_
    refine q_bast rfl (by first | rfl | assumption) (by assumption) ?_
    refine wp_aload_n rfl rfl ?_
    refine wp_dup rfl rfl ?_
    refine q_geti rfl rfl (by first | rfl | assumption) rfl ?_
    refine wp_iconst (v := 1) rfl rfl ?_
    refine wp_iadd rfl ?_
    refine q_puti rfl rfl (by first | rfl | assumption) (Or.inl rfl) rfl ?_
    refine wp_iinc (lv' := [(2, _), (0, _), (1, _)]) rfl rfl rfl (by decide) rfl ?_
    refine wp_goto 7 rfl rfl ?_
    refine wp_loc (lv' := [(0, _), (1, _), (2, _)]) [1, 2, 0] rfl ?_
    rw [hu, hcl, pk_vb, e2, nI_1]
    exact K
  have fin : WQ G (d + 1) Y_X7_append (fun r' w'' => r' = none ∧ w'' = (W, L, RR b)) 7 [(0, .ref 44), (1, .int x), (2, .int (nI (24 - 8 * 3) + Int32.ofInt (-8)))] [] (W, L, RR b) := by
    refine wp_iload_n rfl rfl ?_
    refine wp_if_lt 26 rfl rfl (fun _ => ?_) (fun h8 => absurd (show nI (24 - 8 * 3) + Int32.ofInt (-8) < 0 by decide) h8)
    exact wp_vret rfl rfl (⟨rfl, rfl⟩)
  refine MT.intro m_X7_append rfl (Nat.le_of_ble_eq_true rfl) ?_
  show WQ G (d + 1) Y_X7_append _ 0 [(0, .ref 44), (1, .int x)] [] (I, L, RR b)
  refine wp_aload_n rfl rfl ?_
  refine wp_iconst (v := 1) rfl rfl ?_
  refine cV1 rfl l_7_19 i_X7_hasRoomFor m_X7_hasRoomFor (by first | rfl | assumption) (by decide) (c_X7_hasRoomFor G _ _ _ _ _) rfl (Nat.le_of_ble_eq_true rfl) ?_
  refine wp_if_ne 5 rfl rfl (fun h3 => ?_) (fun h3 => ?_)
  · refine wp_bipush (v := 24) rfl rfl ?_
    refine wp_istore_n (lv' := [(2, _), (0, _), (1, _)]) rfl rfl (by decide) rfl ?_
    refine wp_loc (lv' := [(0, _), (1, _), (2, _)]) [1, 2, 0] rfl ?_
    refine step 0 _ t (by omega) h (by omega) ?_
    refine step 1 _ (t + 1) (by omega) uI_eq (by omega) ?_
    refine step 2 _ (t + 2) (by omega) uI_eq (by omega) ?_
    refine step 3 _ (t + 3) (by omega) uI_eq (by omega) ?_
    have e : uI (uI (uI (uI (uI (uI (uI (uI I 45 t (byt x 0)) 44 1 (nI (t + 1))) 45 (t + 1) (byt x 1)) 44 1 (nI (t + 1 + 1))) 45 (t + 2) (byt x 2)) 44 1 (nI (t + 2 + 1))) 45 (t + 3) (byt x 3)) 44 1 (nI (t + 3 + 1)) = W := hW
    rw [e]
    exact fin
  · exfalso
    have h3' := b2_eq.mp h3
    rw [h] at h3'
    have : nI t + 4 * 1 ≤ 300 := by rw [show (4 : Int32) * 1 = nI 4 from rfl, nI_add]; exact nI_le (b := 300) (by omega) (by omega)
    exact h3' this
theorem apW_s {J : IF} {t : Nat} {x : Int32} : (apW J t x 44 1 = nI (t + 4)) ∧ (∀ k, k ≠ 1 → apW J t x 44 k = J 44 k) ∧ (∀ q, q ≠ 44 → q ≠ 45 → apW J t x q = J q) ∧ (∀ j, apW J t x 45 j = if t ≤ j ∧ j < t + 4 then byt x (j - t) else J 45 j) := by
  refine ⟨uI_eq, fun k hk => ?_, fun q h1 h2 => ?_, fun j => ?_⟩
  · unfold apW; simp (disch := omega) only [uI_ne, uI_nk]
  · unfold apW; rw [uI_fn h1, uI_fn h2, uI_fn h1, uI_fn h2, uI_fn h1, uI_fn h2, uI_fn h1, uI_fn h2]
  · unfold apW
    by_cases e : t ≤ j ∧ j < t + 4
    · rw [if_pos e]
      rcases (show j = t ∨ j = t + 1 ∨ j = t + 2 ∨ j = t + 3 by omega) with rfl | rfl | rfl | rfl
      · simp (disch := omega) only [uI_ne, uI_nk, uI_eq]; rw [Nat.sub_self]
      · simp (disch := omega) only [uI_ne, uI_nk, uI_eq]; rw [show t + 1 - t = 1 by omega]
      · simp (disch := omega) only [uI_ne, uI_nk, uI_eq]; rw [show t + 2 - t = 2 by omega]
      · simp (disch := omega) only [uI_ne, uI_nk, uI_eq]; rw [show t + 3 - t = 3 by omega]
    · rw [if_neg e]
      simp (disch := omega) only [uI_ne, uI_nk]
theorem c_X10_feed_ok (G : Gl) (d : Nat) {t : Nat} (x1 x2 x3 x4 x5 : Int32) (I : IF) (L : LF) (b : Bool) (h : I 44 1 = nI t) (ht : t + 20 ≤ 300) : MD G (d + 2) Y_X10_feed [.ref 0, .int x1, .int x2, .int x3, .int x4, .int x5] (I, L, RR b) (some (.int (nI (t + 20)))) (apW (apW (apW (apW (apW I t x1) (t + 4) x2) (t + 8) x3) (t + 12) x4) (t + 16) x5, L, RR b) := by
  have hle : I 44 1 + 4 * 5 ≤ 300 := by rw [h, show (4 : Int32) * 5 = nI 20 from rfl, nI_add]; exact nI_le (b := 300) (by omega) (by omega)
  refine MT.intro m_X10_feed rfl (Nat.le_of_ble_eq_true rfl) ?_
  show WQ G (d + 2) Y_X10_feed _ 0 [(0, .ref 0), (1, .int x1), (2, .int x2), (3, .int x3), (4, .int x4), (5, .int x5)] [] (I, L, RR b)
  refine wp_aload_n rfl rfl ?_
  refine q_getr rfl rfl (by first | rfl | assumption) rfl rfl ?_
  refine wp_iconst (v := 5) rfl rfl ?_
  refine cV1 rfl l_10_200 i_X7_hasRoomFor m_X7_hasRoomFor (by first | rfl | assumption) (by decide) (c_X7_hasRoomFor G _ _ _ _ _) rfl (Nat.le_of_ble_eq_true rfl) ?_
  refine wp_if_ne 7 rfl rfl (fun h4 => ?_) (fun h4 => ?_)
  · refine wp_aload_n rfl rfl ?_
    refine q_getr rfl rfl (by first | rfl | assumption) rfl rfl ?_
    refine wp_iload_n rfl rfl ?_
    refine cV0 rfl l_10_203 i_X7_append m_X7_append (by first | rfl | assumption) (by decide) (c_X7_append G _ (t := t) _ _ _ _ h (by omega)) rfl (Nat.le_of_ble_eq_true rfl) ?_
    refine wp_aload_n rfl rfl ?_
    refine q_getr rfl rfl (by first | rfl | assumption) rfl rfl ?_
    refine wp_iload_n rfl rfl ?_
    refine cV0 rfl l_10_203 i_X7_append m_X7_append (by first | rfl | assumption) (by decide) (c_X7_append G _ (t := t + 4) _ _ _ _ apW_s.1 (by omega)) rfl (Nat.le_of_ble_eq_true rfl) ?_
    refine wp_aload_n rfl rfl ?_
    refine q_getr rfl rfl (by first | rfl | assumption) rfl rfl ?_
    refine wp_iload_n rfl rfl ?_
    refine cV0 rfl l_10_203 i_X7_append m_X7_append (by first | rfl | assumption) (by decide) (c_X7_append G _ (t := t + 8) _ _ _ _ apW_s.1 (by omega)) rfl (Nat.le_of_ble_eq_true rfl) ?_
    refine wp_aload_n rfl rfl ?_
    refine q_getr rfl rfl (by first | rfl | assumption) rfl rfl ?_
    refine wp_iload rfl rfl ?_
    refine cV0 rfl l_10_203 i_X7_append m_X7_append (by first | rfl | assumption) (by decide) (c_X7_append G _ (t := t + 12) _ _ _ _ apW_s.1 (by omega)) rfl (Nat.le_of_ble_eq_true rfl) ?_
    refine wp_aload_n rfl rfl ?_
    refine q_getr rfl rfl (by first | rfl | assumption) rfl rfl ?_
    refine wp_iload rfl rfl ?_
    refine cV0 rfl l_10_203 i_X7_append m_X7_append (by first | rfl | assumption) (by decide) (c_X7_append G _ (t := t + 16) _ _ _ _ apW_s.1 (by omega)) rfl (Nat.le_of_ble_eq_true rfl) ?_
    refine wp_aload_n rfl rfl ?_
    refine q_getr rfl rfl (by first | rfl | assumption) rfl rfl ?_
    refine q_geti rfl rfl (by first | rfl | assumption) rfl ?_
    exact wp_iret rfl rfl (⟨by rw [apW_s.1], rfl⟩)
  · exfalso; exact (b2_eq.mp h4) hle
theorem c_X10_feed_no (G : Gl) (d : Nat) (x1 x2 x3 x4 x5 : Int32) (I : IF) (L : LF) (b : Bool) (hno : ¬ I 44 1 + 4 * 5 ≤ 300) : MD G (d + 2) Y_X10_feed [.ref 0, .int x1, .int x2, .int x3, .int x4, .int x5] (I, L, RR b) (some (.int (-1))) (I, L, RR b) := by
  refine MT.intro m_X10_feed rfl (Nat.le_of_ble_eq_true rfl) ?_
  show WQ G (d + 2) Y_X10_feed _ 0 [(0, .ref 0), (1, .int x1), (2, .int x2), (3, .int x3), (4, .int x4), (5, .int x5)] [] (I, L, RR b)
  refine wp_aload_n rfl rfl ?_
  refine q_getr rfl rfl (by first | rfl | assumption) rfl rfl ?_
  refine wp_iconst (v := 5) rfl rfl ?_
  refine cV1 rfl l_10_200 i_X7_hasRoomFor m_X7_hasRoomFor (by first | rfl | assumption) (by decide) (c_X7_hasRoomFor G _ _ _ _ _) rfl (Nat.le_of_ble_eq_true rfl) ?_
  refine wp_if_ne 7 rfl rfl (fun h4 => ?_) (fun h4 => ?_)
  · exfalso; exact hno (b2_ne.mp h4)
  · refine wp_iconst (v := (-1)) rfl rfl ?_
    exact wp_iret rfl rfl (⟨rfl, rfl⟩)
/-- bytes behind each other -/
def wrA (t : Nat) (f : Nat → Int32) (I : IF) : Nat → IF
  | 0 => I
  | n + 1 => uI (wrA t f I n) 96 (t + n) (f n)
theorem wrA_o {t : Nat} {f : Nat → Int32} {I : IF} : ∀ (n q : Nat), q ≠ 96 → wrA t f I n q = I q
  | 0, _, _ => rfl
  | n + 1, q, h => by simp only [wrA]; rw [uI_fn h]; exact wrA_o n q h
theorem wrA_a {t : Nat} {f : Nat → Int32} {I : IF} : ∀ (n j : Nat), wrA t f I n 96 j = if t ≤ j ∧ j < t + n then f (j - t) else I 96 j
  | 0, j => by rw [if_neg (by omega)]; rfl
  | n + 1, j => by
    simp only [wrA]
    by_cases e : j = t + n
    · subst e; rw [uI_eq, if_pos (by omega), Nat.add_sub_cancel_left]
    · rw [uI_nk e, wrA_a n j]
      by_cases e2 : t ≤ j ∧ j < t + n
      · rw [if_pos e2, if_pos (by omega)]
      · rw [if_neg e2, if_neg (by omega)]
def arg5 (x1 x2 x3 x4 x5 : Int32) (k : Nat) : Int32 := if k < 4 then x1 else if k < 8 then x2 else if k < 12 then x3 else if k < 16 then x4 else x5
theorem c_X11_feed_ok (G : Gl) (d : Nat) {t : Nat} (x1 x2 x3 x4 x5 : Int32) (I : IF) (L : LF) (b : Bool) (h : I 72 36 = nI t) (ht : t + 20 ≤ 300) : MD G d Y_X11_feed [.ref 72, .int x1, .int x2, .int x3, .int x4, .int x5] (I, L, RR b) (some (.int (nI (t + 20)))) (uI (wrA t (fun k => byt (arg5 x1 x2 x3 x4 x5 k) (k % 4)) (uI I 72 0 0) 20) 72 36 (nI (t + 20)), L, RR b) := by
  have e36 : uI I 72 0 0 72 36 = nI t := h
  generalize hJ : uI I 72 0 0 = J at e36
  generalize hf : (fun k => byt (arg5 x1 x2 x3 x4 x5 k) (k % 4)) = f
  have hfa : ∀ k, byt (arg5 x1 x2 x3 x4 x5 k) (k % 4) = f k := fun k => by rw [← hf]
  have w36 : ∀ n, wrA t f J n 72 36 = nI t := fun n => by rw [wrA_o n 72 (by decide)]; exact e36
  have hloop : ∀ (m i : Nat), i + m = 20 → WQ G d Y_X11_feed (fun r' w'' => r' = some (.int (nI (t + 20))) ∧ w'' = (uI (wrA t f J 20) 72 36 (nI (t + 20)), L, RR b)) 13 [(0, .ref 72), (1, .int x1), (2, .int x2), (3, .int x3), (4, .int x4), (5, .int x5), (6, .int (nI i))] [] (wrA t f J i, L, RR b) := by
    intro m
    induction m with
    | zero =>
      intro i hi
      have hie : i = 20 := by omega
      subst hie
      refine wp_iload rfl rfl ?_
      refine wp_bipush (v := 20) rfl rfl ?_
      refine wp_icmp_ge 57 rfl rfl (fun _ => ?_) (fun h15 => absurd (show (20 : Int32) ≤ nI 20 by decide) h15)
      refine wp_aload_n rfl rfl ?_
      refine wp_dup rfl rfl ?_
      refine q_geti rfl rfl (by first | rfl | assumption) rfl ?_
      refine wp_bipush (v := 20) rfl rfl ?_
      refine wp_iadd rfl ?_
      refine q_puti rfl rfl (by first | rfl | assumption) (Or.inl rfl) rfl ?_
      refine wp_aload_n rfl rfl ?_
      refine q_geti rfl rfl (by first | rfl | assumption) rfl ?_
      exact wp_iret rfl rfl (⟨by rw [uI_eq, w36, show nI t + 20 = nI (t + 20) from nI_add t 20], by rw [w36, show nI t + 20 = nI (t + 20) from nI_add t 20]; (try rfl)⟩)
    | succ m ih =>
      intro i hi
      have hlt : ¬ (20 : Int32) ≤ nI i := nI_ge (a := i) (b := 20) (by omega) (by omega)
      have g4 : (4 : Int32) ≤ nI i ↔ 4 ≤ i := nI_leI (a := 4) (by omega) (by omega)
      have g8 : (8 : Int32) ≤ nI i ↔ 8 ≤ i := nI_leI (a := 8) (by omega) (by omega)
      have g12 : (12 : Int32) ≤ nI i ↔ 12 ≤ i := nI_leI (a := 12) (by omega) (by omega)
      have g16 : (16 : Int32) ≤ nI i ↔ 16 ≤ i := nI_leI (a := 16) (by omega) (by omega)
      have hix : nI t + nI i = nI (t + i) := nI_add t i
      have hrem : (24 : Int32) - 8 * (nI i - nI i / 4 * 4) = nI (24 - 8 * (i % 4)) := by
        rw [show (4 : Int32) = nI 4 from rfl, pk_rem (by omega) (by omega) (by omega), show (8 : Int32) = nI 8 from rfl, pk_mul, show (24 : Int32) = nI 24 from rfl, pk_sub (by omega)]
      have J37 : ∀ y : Int32, y = arg5 x1 x2 x3 x4 x5 i → WQ G d Y_X11_feed (fun r' w'' => r' = some (.int (nI (t + 20))) ∧ w'' = (uI (wrA t f J 20) 72 36 (nI (t + 20)), L, RR b)) 37 [(0, .ref 72), (1, .int x1), (2, .int x2), (3, .int x3), (4, .int x4), (5, .int x5), (6, .int (nI i))] [.int y] (wrA t f J i, L, RR b) := by
        intro y hy
        refine wp_istore (lv' := [(7, _), (0, _), (1, _), (2, _), (3, _), (4, _), (5, _), (6, _)]) rfl (by decide) rfl ?_
        refine wp_aload_n rfl rfl ?_
        refine q_getr rfl rfl (by first | rfl | assumption) rfl rfl ?_
        refine wp_aload_n rfl rfl ?_
        refine q_geti rfl rfl (by first | rfl | assumption) rfl ?_
        refine wp_iload rfl rfl ?_
        refine wp_iadd rfl ?_
        refine wp_iload rfl rfl ?_
        refine wp_bipush (v := 24) rfl rfl ?_
        refine wp_bipush (v := 8) rfl rfl ?_
        refine wp_iload rfl rfl ?_
        refine wp_iconst (v := 4) rfl rfl ?_
        refine wp_irem rfl (by decide) ?_
        refine wp_imul rfl ?_
        refine wp_isub rfl ?_
        refine wp_ishr rfl ?_
        refine wp_i2b rfl ?_
        refine q_bast rfl (by first | rfl | assumption) (by rw [w36, hix]; exact vp_in_nI (by omega) (by omega)) ?_
        refine wp_iinc (v := nI (i + 1)) (lv' := [(6, _), (7, _), (0, _), (1, _), (2, _), (3, _), (4, _), (5, _)]) rfl rfl (nI_1 i) (by decide) rfl ?_
        refine wp_goto 13 rfl rfl ?_
        refine wp_loc (lv' := [(0, _), (1, _), (2, _), (3, _), (4, _), (5, _), (6, _)]) [2, 3, 4, 5, 6, 7, 0] rfl ?_
        rw [w36, hix, nI_clamp (by omega), hrem, pk_vb]
        have e9 : (y >>> (nI (24 - 8 * (i % 4)) &&& 31)).toInt8.toInt32 = f i := by rw [← hfa i, hy]; rfl
        rw [e9]
        exact ih (i + 1) (by omega)
      refine wp_iload rfl rfl ?_
      refine wp_bipush (v := 20) rfl rfl ?_
      refine wp_icmp_ge 57 rfl rfl (fun h15 => absurd h15 hlt) (fun _ => ?_)
      refine wp_iload rfl rfl ?_
      refine wp_iconst (v := 4) rfl rfl ?_
      refine wp_icmp_ge 21 rfl rfl (fun h18 => ?_) (fun h18 => ?_)
      · refine wp_iload rfl rfl ?_
        refine wp_bipush (v := 8) rfl rfl ?_
        refine wp_icmp_ge 26 rfl rfl (fun h23 => ?_) (fun h23 => ?_)
        · refine wp_iload rfl rfl ?_
          refine wp_bipush (v := 12) rfl rfl ?_
          refine wp_icmp_ge 31 rfl rfl (fun h28 => ?_) (fun h28 => ?_)
          · refine wp_iload rfl rfl ?_
            refine wp_bipush (v := 16) rfl rfl ?_
            refine wp_icmp_ge 36 rfl rfl (fun h33 => ?_) (fun h33 => ?_)
            · refine wp_iload rfl rfl ?_
              exact J37 _ (by unfold arg5; grind)
            · refine wp_iload rfl rfl ?_
              refine wp_goto 37 rfl rfl ?_
              exact J37 _ (by unfold arg5; grind)
          · refine wp_iload_n rfl rfl ?_
            refine wp_goto 37 rfl rfl ?_
            exact J37 _ (by unfold arg5; grind)
        · refine wp_iload_n rfl rfl ?_
          refine wp_goto 37 rfl rfl ?_
          exact J37 _ (by unfold arg5; grind)
      · refine wp_iload_n rfl rfl ?_
        refine wp_goto 37 rfl rfl ?_
        exact J37 _ (by unfold arg5; grind)
  refine MT.intro m_X11_feed rfl (Nat.le_of_ble_eq_true rfl) ?_
  show WQ G d Y_X11_feed _ 0 [(0, .ref 72), (1, .int x1), (2, .int x2), (3, .int x3), (4, .int x4), (5, .int x5)] [] (I, L, RR b)
  refine wp_aload_n rfl rfl ?_
  refine wp_iconst (v := 0) rfl rfl ?_
  refine q_puti rfl rfl (by first | rfl | assumption) (Or.inl rfl) rfl ?_
  rw [hJ]
  refine wp_aload_n rfl rfl ?_
  refine q_geti rfl rfl (by first | rfl | assumption) rfl ?_
  refine wp_bipush (v := 20) rfl rfl ?_
  refine wp_iadd rfl ?_
  refine wp_sipush (v := 300) rfl rfl ?_
  refine wp_icmp_le 11 rfl rfl (fun h8 => ?_) (fun h8 => ?_)
  · refine wp_iconst (v := 0) rfl rfl ?_
    refine wp_istore (lv' := [(6, _), (0, _), (1, _), (2, _), (3, _), (4, _), (5, _)]) rfl (by decide) rfl ?_
    refine wp_loc (lv' := [(0, _), (1, _), (2, _), (3, _), (4, _), (5, _), (6, _)]) [1, 2, 3, 4, 5, 6, 0] rfl ?_
    exact hloop 20 0 (by omega)
  · exfalso; rw [e36] at h8; exact h8 (by rw [show (20 : Int32) = nI 20 from rfl, nI_add]; exact nI_le (b := 300) (by omega) (by omega))
theorem c_X11_feed_no (G : Gl) (d : Nat) (x1 x2 x3 x4 x5 : Int32) (I : IF) (L : LF) (b : Bool) (hno : ¬ I 72 36 + 20 ≤ 300) : MD G d Y_X11_feed [.ref 72, .int x1, .int x2, .int x3, .int x4, .int x5] (I, L, RR b) (some (.int (-1))) (uI I 72 0 0, L, RR b) := by
  refine MT.intro m_X11_feed rfl (Nat.le_of_ble_eq_true rfl) ?_
  show WQ G d Y_X11_feed _ 0 [(0, .ref 72), (1, .int x1), (2, .int x2), (3, .int x3), (4, .int x4), (5, .int x5)] [] (I, L, RR b)
  refine wp_aload_n rfl rfl ?_
  refine wp_iconst (v := 0) rfl rfl ?_
  refine q_puti rfl rfl (by first | rfl | assumption) (Or.inl rfl) rfl ?_
  refine wp_aload_n rfl rfl ?_
  refine q_geti rfl rfl (by first | rfl | assumption) rfl ?_
  refine wp_bipush (v := 20) rfl rfl ?_
  refine wp_iadd rfl ?_
  refine wp_sipush (v := 300) rfl rfl ?_
  refine wp_icmp_le 11 rfl rfl (fun h8 => ?_) (fun h8 => ?_)
  · exfalso; exact hno h8
  · refine wp_iconst (v := (-1)) rfl rfl ?_
    exact wp_iret rfl rfl (⟨rfl, rfl⟩)
theorem s_feed {G : Gl} {d : Nat} {I : IF} {L : LF} {b : Bool} (x1 x2 x3 x4 x5 : Int32) (h : InvA I L) : StepA G (d + 2) Y_X10_feed Y_X11_feed [.int x1, .int x2, .int x3, .int x4, .int x5] I L b := by
  obtain ⟨nm, na, nr, h⟩ := h
  obtain ⟨a1, a2, a3, a4, a5, a6, a7, a8, a9, ⟨⟨t, t1, t2, t3⟩, t4⟩, a11⟩ := id h
  by_cases hok : t + 20 ≤ 300
  · have c1 := c_X10_feed_ok G d x1 x2 x3 x4 x5 I L b t2 hok
    generalize hJ : apW (apW (apW (apW (apW I t x1) (t + 4) x2) (t + 8) x3) (t + 12) x4) (t + 16) x5 = J at c1
    have j1 : ∀ q, q ≠ 44 → q ≠ 45 → J q = I q := by
      intro q h1 h2
      rw [← hJ, apW_s.2.2.1 q h1 h2, apW_s.2.2.1 q h1 h2, apW_s.2.2.1 q h1 h2, apW_s.2.2.1 q h1 h2, apW_s.2.2.1 q h1 h2]
    have j2 : J 44 1 = nI (t + 20) := by rw [← hJ, apW_s.1]
    have j3 : ∀ j, J 45 j = if t ≤ j ∧ j < t + 20 then byt (arg5 x1 x2 x3 x4 x5 (j - t)) ((j - t) % 4) else I 45 j := by
      intro j
      rw [← hJ, apW_s.2.2.2 j, apW_s.2.2.2 j, apW_s.2.2.2 j, apW_s.2.2.2 j, apW_s.2.2.2 j]
      unfold arg5
      by_cases g : t ≤ j ∧ j < t + 20
      · rw [if_pos g]
        rcases (show j < t + 4 ∨ (t + 4 ≤ j ∧ j < t + 8) ∨ (t + 8 ≤ j ∧ j < t + 12) ∨ (t + 12 ≤ j ∧ j < t + 16) ∨ (t + 16 ≤ j) by omega) with g1 | g1 | g1 | g1 | g1
        · rw [if_neg (by omega), if_neg (by omega), if_neg (by omega), if_neg (by omega), if_pos (by omega), if_pos (by omega), show (j - t) % 4 = j - t by omega]
        · rw [if_neg (by omega), if_neg (by omega), if_neg (by omega), if_pos (by omega), if_neg (by omega), if_pos (by omega), show (j - t) % 4 = j - (t + 4) by omega]
        · rw [if_neg (by omega), if_neg (by omega), if_pos (by omega), if_neg (by omega), if_neg (by omega), if_pos (by omega), show (j - t) % 4 = j - (t + 8) by omega]
        · rw [if_neg (by omega), if_pos (by omega), if_neg (by omega), if_neg (by omega), if_neg (by omega), if_pos (by omega), show (j - t) % 4 = j - (t + 12) by omega]
        · rw [if_pos (by omega), if_neg (by omega), if_neg (by omega), if_neg (by omega), if_neg (by omega), show (j - t) % 4 = j - (t + 16) by omega]
      · rw [if_neg g, if_neg (by omega), if_neg (by omega), if_neg (by omega), if_neg (by omega), if_neg (by omega)]
    have c2 := c_X11_feed_ok G (d + 2) (t := t) x1 x2 x3 x4 x5 J L b (by rw [j1 72 (by decide) (by decide)]; exact t3) hok
    have g0 : ∀ q, q ≠ 96 → q ≠ 72 → uI (wrA t (fun k => byt (arg5 x1 x2 x3 x4 x5 k) (k % 4)) (uI J 72 0 0) 20) 72 36 (nI (t + 20)) q = J q := fun q h1 h2 => by rw [uI_fn h2, wrA_o 20 q h1, uI_fn h2]
    have g1 : ∀ k, k ≠ 36 → k ≠ 0 → uI (wrA t (fun k => byt (arg5 x1 x2 x3 x4 x5 k) (k % 4)) (uI J 72 0 0) 20) 72 36 (nI (t + 20)) 72 k = J 72 k := fun k h1 h2 => by rw [uI_nk h1, wrA_o 20 72 (by decide), uI_nk h2]
    have g2 : uI (wrA t (fun k => byt (arg5 x1 x2 x3 x4 x5 k) (k % 4)) (uI J 72 0 0) 20) 72 36 (nI (t + 20)) 72 36 = nI (t + 20) := uI_eq
    have g3 : ∀ j, uI (wrA t (fun k => byt (arg5 x1 x2 x3 x4 x5 k) (k % 4)) (uI J 72 0 0) 20) 72 36 (nI (t + 20)) 96 j = if t ≤ j ∧ j < t + 20 then byt (arg5 x1 x2 x3 x4 x5 (j - t)) ((j - t) % 4) else J 96 j := by
      intro j
      rw [uI_ne (by decide), wrA_a 20 j, uI_ne (by decide)]
    generalize uI (wrA t (fun k => byt (arg5 x1 x2 x3 x4 x5 k) (k % 4)) (uI J 72 0 0) 20) 72 36 (nI (t + 20)) = J2 at c2 g0 g1 g2 g3
    have ho : ∀ q, q ≠ 44 → q ≠ 45 → q ≠ 72 → q ≠ 96 → J2 q = I q := fun q h1 h2 h3 h4 => (g0 q h4 h3).trans (j1 q h1 h2)
    have h72 : ∀ k, k ≠ 36 → k ≠ 0 → J2 72 k = I 72 k := fun k h1 h2 => (g1 k h1 h2).trans (by rw [j1 72 (by decide) (by decide)])
    refine ⟨_, _, _, _, _, c1, c2, ⟨nm, na, nr, ?_, ?_, IVm_fr a3 (fun m hm => ho _ (by omega) (by omega) (by omega) (by omega)) (fun a _ _ => ho _ (by omega) (by omega) (by omega) (by omega)), IVk_fr a4 (fun m hm => ho _ (by omega) (by omega) (by omega) (by omega)) (fun a _ _ => ho _ (by omega) (by omega) (by omega) (by omega)) (by rw [ho 0 (by decide) (by decide) (by decide) (by decide)]) (by rw [ho 1 (by decide) (by decide) (by decide) (by decide)]), IVf_fr a1.1.2.2 a5 (fun m hm => ho _ (by omega) (by omega) (by omega) (by omega)) (ho _ (by omega) (by omega) (by omega) (by omega)), IVu_fr a6 (fun m hm => ho _ (by omega) (by omega) (by omega) (by omega)) (ho _ (by omega) (by omega) (by omega) (by omega)), IVp_fr a7 (fun m hm => ho _ (by omega) (by omega) (by omega) (by omega)) (fun a _ _ => ho _ (by omega) (by omega) (by omega) (by omega)) (by rw [ho 0 (by decide) (by decide) (by decide) (by decide)]) (by rw [ho 0 (by decide) (by decide) (by decide) (by decide)]), IVa_fr a8 (fun m hm => ho _ (by omega) (by omega) (by omega) (by omega)) (fun a _ _ => ho _ (by omega) (by omega) (by omega) (by omega)), IVl_fr a9 (fun m hm => ho _ (by omega) (by omega) (by omega) (by omega)) (ho _ (by omega) (by omega) (by omega) (by omega)), ⟨⟨t + 20, hok, ?_, g2⟩, ?_⟩, IVr_fr a11 (fun m hm => ho _ (by omega) (by omega) (by omega) (by omega)) (ho _ (by omega) (by omega) (by omega) (by omega)) (ho _ (by omega) (by omega) (by omega) (by omega))⟩, fun a ha => ho a (by omega) (by omega) (by omega) (by omega), h72 12 (by decide) (by decide)⟩
    · unfold IVc at a1 ⊢; simp (disch := omega) only [ho, h72]; exact a1
    · unfold IVs at a2 ⊢; simp (disch := omega) only [ho, h72]; exact a2
    · rw [g0 44 (by decide) (by decide)]; exact j2
    · intro j hj
      rw [g3 j, g0 45 (by decide) (by decide), j3 j, j1 96 (by decide) (by decide)]
      by_cases g : t ≤ j ∧ j < t + 20
      · simp only [if_pos g]
        exact ⟨trivial, byt_nar _ _⟩
      · simp only [if_neg g]
        exact t4 j hj
  · have hn1 : ¬ I 44 1 + 4 * 5 ≤ 300 := by rw [t2, show (4 : Int32) * 5 = nI 20 from rfl, nI_add]; exact nI_ge (a := 300) (by omega) (by omega)
    have hn2 : ¬ I 72 36 + 20 ≤ 300 := by rw [t3, show (20 : Int32) = nI 20 from rfl, nI_add]; exact nI_ge (a := 300) (by omega) (by omega)
    exact StepA.query h (c_X10_feed_no G d x1 x2 x3 x4 x5 I L b hn1) (c_X11_feed_no G (d + 2) x1 x2 x3 x4 x5 I L b hn2)
