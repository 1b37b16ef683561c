/-! rows: row, tear, write -/
def flL (L : LF) (a n : Nat) (v : Int64) : LF := fun a' k' => if a' = a ∧ k' < n then v else L a' k'
theorem flL_s (L : LF) (a n : Nat) (v : Int64) : uL (flL L a n v) a n v = flL L a (n + 1) v := by
  funext a' k'
  unfold uL flL
  by_cases e : a' = a
  · subst e
    by_cases k1 : k' = n
    · subst k1; simp
    · simp [k1, show k' < n + 1 ↔ k' < n by omega]
  · simp [e]
theorem flL_0 (L : LF) (a : Nat) (v : Int64) : flL L a 0 v = L := by funext a' k'; simp [flL]
def flI (L : IF) (a n : Nat) (v : Int32) : IF := fun a' k' => if a' = a ∧ k' < n then v else L a' k'
theorem flI_s (L : IF) (a n : Nat) (v : Int32) : uI (flI L a n v) a n v = flI L a (n + 1) v := by
  funext a' k'
  unfold uI flI
  by_cases e : a' = a
  · subst e
    by_cases k1 : k' = n
    · subst k1; simp
    · simp [k1, show k' < n + 1 ↔ k' < n by omega]
  · simp [e]
theorem flI_0 (L : IF) (a : Nat) (v : Int32) : flI L a 0 v = L := by funext a' k'; simp [flI]
theorem c_fillL (G : Gl) (d : Nat) {a len : Nat} (v : Int64) (I : IF) (L : LF) (R : RF) (ha : shp NN a = some (.inl (3, len))) (hlen : len < 2 ^ 31) : MD G d Y_J7_fill_d0a16 [.ref a, .long v] (I, L, R) none (I, flL L a len v, R) := by
  have hloop : ∀ (n i : Nat), i + n = len → WQ G d Y_J7_fill_d0a16 (fun r' w'' => r' = none ∧ w'' = (I, flL L a len v, R)) 5 [(0, .ref a), (1, .long v), (3, .int (nI i)), (4, .int (nI len))] [] (I, flL L a i v, R) := by
    intro n
    induction n with
    | zero =>
      intro i hi
      have hin : i = len := by omega
      subst hin
      refine wp_iload_n rfl rfl ?_
      refine wp_iload rfl rfl ?_
      refine wp_icmp_ge 14 rfl rfl (fun _ => ?_) (fun h7 => absurd (nI_le (Nat.le_refl _) hlen) h7)
      exact wp_vret rfl rfl (⟨rfl, rfl⟩)
    | succ n ih =>
      intro i hi
      have hlt : ¬ nI len ≤ nI i := nI_ge (by omega) hlen
      have hin : vp_in (nI i) len := vp_in_nI (by omega) hlen
      have hcl : (nI i).toNatClampNeg = i := nI_clamp (by omega)
      refine wp_iload_n rfl rfl ?_
      refine wp_iload rfl rfl ?_
      refine wp_icmp_ge 14 rfl rfl (fun h7 => absurd h7 hlt) (fun _ => ?_)
      refine wp_aload_n rfl rfl ?_
      refine wp_iload_n rfl rfl ?_
      refine wp_lload_n rfl rfl ?_
      refine q_last rfl (by first | rfl | assumption) (by assumption) ?_
      refine wp_iinc (v := nI (i + 1)) (lv' := [(3, _), (0, _), (1, _), (4, _)]) rfl rfl (nI_1 i) (by decide) rfl ?_
      refine wp_goto 5 rfl rfl ?_
      refine wp_loc (lv' := [(0, _), (1, _), (3, _), (4, _)]) [1, 2, 0, 3] rfl ?_
      rw [hcl, flL_s]
      exact ih (i + 1) (by omega)
  refine MT.intro m_J7_fill_d0a16 rfl (Nat.le_of_ble_eq_true rfl) ?_
  show WQ G d Y_J7_fill_d0a16 _ 0 [(0, .ref a), (1, .long v)] [] (I, L, R)
  refine wp_iconst (v := 0) rfl rfl ?_
  refine wp_istore_n (lv' := [(3, _), (0, _), (1, _)]) rfl rfl (by decide) rfl ?_
  refine wp_aload_n rfl rfl ?_
  refine wp_alen (v := nI len) rfl ha (by decide) rfl ?_
  refine wp_istore (lv' := [(4, _), (3, _), (0, _), (1, _)]) rfl (by decide) rfl ?_
  refine wp_loc (lv' := [(0, _), (1, _), (3, _), (4, _)]) [2, 3, 1, 0] rfl ?_
  have := hloop len 0 (by omega)
  rw [flL_0] at this
  exact this
theorem c_fillI (G : Gl) (d : Nat) {a len : Nat} (v : Int32) (I : IF) (L : LF) (R : RF) (ha : shp NN a = some (.inl (0, len))) (hlen : len < 2 ^ 31) : MD G d Y_J7_fill_53178 [.ref a, .int v] (I, L, R) none (flI I a len v, L, R) := by
  have hloop : ∀ (n i : Nat), i + n = len → WQ G d Y_J7_fill_53178 (fun r' w'' => r' = none ∧ w'' = (flI I a len v, L, R)) 5 [(0, .ref a), (1, .int v), (2, .int (nI i)), (3, .int (nI len))] [] (flI I a i v, L, R) := by
    intro n
    induction n with
    | zero =>
      intro i hi
      have hin : i = len := by omega
      subst hin
      refine wp_iload_n rfl rfl ?_
      refine wp_iload_n rfl rfl ?_
      refine wp_icmp_ge 14 rfl rfl (fun _ => ?_) (fun h7 => absurd (nI_le (Nat.le_refl _) hlen) h7)
      exact wp_vret rfl rfl (⟨rfl, rfl⟩)
    | succ n ih =>
      intro i hi
      have hlt : ¬ nI len ≤ nI i := nI_ge (by omega) hlen
      have hin : vp_in (nI i) len := vp_in_nI (by omega) hlen
      have hcl : (nI i).toNatClampNeg = i := nI_clamp (by omega)
      refine wp_iload_n rfl rfl ?_
      refine wp_iload_n rfl rfl ?_
      refine wp_icmp_ge 14 rfl rfl (fun h7 => absurd h7 hlt) (fun _ => ?_)
      refine wp_aload_n rfl rfl ?_
      refine wp_iload_n rfl rfl ?_
      refine wp_iload_n rfl rfl ?_
      refine q_iast rfl (by first | rfl | assumption) (by assumption) ?_
      refine wp_iinc (v := nI (i + 1)) (lv' := [(2, _), (0, _), (1, _), (3, _)]) rfl rfl (nI_1 i) (by decide) rfl ?_
      refine wp_goto 5 rfl rfl ?_
      refine wp_loc (lv' := [(0, _), (1, _), (2, _), (3, _)]) [1, 2, 0, 3] rfl ?_
      rw [hcl, flI_s]
      exact ih (i + 1) (by omega)
  refine MT.intro m_J7_fill_53178 rfl (Nat.le_of_ble_eq_true rfl) ?_
  show WQ G d Y_J7_fill_53178 _ 0 [(0, .ref a), (1, .int v)] [] (I, L, R)
  refine wp_iconst (v := 0) rfl rfl ?_
  refine wp_istore_n (lv' := [(2, _), (0, _), (1, _)]) rfl rfl (by decide) rfl ?_
  refine wp_aload_n rfl rfl ?_
  refine wp_alen (v := nI len) rfl ha (by decide) rfl ?_
  refine wp_istore_n (lv' := [(3, _), (2, _), (0, _), (1, _)]) rfl rfl (by decide) rfl ?_
  refine wp_loc (lv' := [(0, _), (1, _), (2, _), (3, _)]) [2, 3, 1, 0] rfl ?_
  have := hloop len 0 (by omega)
  rw [flI_0] at this
  exact this
theorem c_X6_begin (G : Gl) (d : Nat) {s : Nat} (x n : Int32) (I : IF) (L : LF) (b : Bool) (hs : s < 4) : MD G (d + 1) Y_X6_begin [.ref (57 + 2 * s), .int x, .int n] (I, L, RR b) none (uI (uI I (57 + 2 * s) 1 x) (57 + 2 * s) 2 n, flL L (58 + 2 * s) 60 0, RR b) := by
  have ha := sh_row s hs
  refine MT.intro m_X6_begin rfl (Nat.le_of_ble_eq_true rfl) ?_
  show WQ G (d + 1) Y_X6_begin _ 0 [(0, .ref (57 + 2 * s)), (1, .int x), (2, .int n)] [] (I, L, RR b)
  refine wp_aload_n rfl rfl ?_
  refine wp_iload_n rfl rfl ?_
  refine q_puti rfl rfl (by first | rfl | assumption) (Or.inl rfl) rfl ?_
  refine wp_aload_n rfl rfl ?_
  refine wp_iload_n rfl rfl ?_
  refine q_puti rfl rfl (by first | rfl | assumption) (Or.inl rfl) rfl ?_
  refine wp_aload_n rfl rfl ?_
  refine q_getr rfl rfl (by first | rfl | assumption) rfl (rr_row s hs b) ?_
  refine wp_lconst (v := 0) rfl rfl ?_
  refine cS0 rfl l_6_22 s_J7_fill_d0a16 m_J7_fill_d0a16 (c_fillL G _ _ _ _ _ (sh_rowA s hs) (by decide)) rfl (Nat.le_of_ble_eq_true rfl) ?_
  exact wp_vret rfl rfl (⟨rfl, rfl⟩)
theorem c_X10_row_ok (G : Gl) (d : Nat) {s : Nat} (x n : Int32) (I : IF) (L : LF) (b : Bool) (hs : s < 4) (hx : 0 ≤ x ∧ x ≤ 3) (hn : 0 ≤ n ∧ n ≤ 60) : MD G (d + 2) Y_X10_row [.ref 0, .int (nI s), .int x, .int n] (I, L, RR b) (some (.int 0)) (uI (uI I (57 + 2 * s) 1 x) (57 + 2 * s) 2 n, flL L (58 + 2 * s) 60 0, RR b) := by
  have ha := sh_row s hs
  have hs0 : (0 : Int32) ≤ nI s ∧ nI s ≤ 3 := ⟨nI_pos' (by omega), nI_le (b := 3) (by omega) (by omega)⟩
  refine MT.intro m_X10_row rfl (Nat.le_of_ble_eq_true rfl) ?_
  show WQ G (d + 2) Y_X10_row _ 0 [(0, .ref 0), (1, .int (nI s)), (2, .int x), (3, .int n)] [] (I, L, RR b)
  refine wp_iload_n rfl rfl ?_
  refine cS1 rfl l_10_149 s_X10_isSlot m_X10_isSlot (c_X10_isSlot G _ _ _) rfl (Nat.le_of_ble_eq_true rfl) ?_
  refine wp_if_eq 11 rfl rfl (fun h2 => ?_) (fun h2 => ?_)
  · exfalso; grind [b2]
  · refine wp_iload_n rfl rfl ?_
    refine wp_iconst (v := 0) rfl rfl ?_
    refine wp_iconst (v := 3) rfl rfl ?_
    refine cS1 rfl l_10_77 s_X10_isWithin m_X10_isWithin (c_X10_isWithin G _ _ _ _ _) rfl (Nat.le_of_ble_eq_true rfl) ?_
    refine wp_if_eq 11 rfl rfl (fun h7 => ?_) (fun h7 => ?_)
    · exfalso; grind [b2]
    · refine wp_iload_n rfl rfl ?_
      refine wp_bipush (v := 60) rfl rfl ?_
      refine wp_icmp_le 13 rfl rfl (fun h10 => ?_) (fun h10 => ?_)
      · refine wp_iload_n rfl rfl ?_
        refine wp_if_ge 17 rfl rfl (fun h14 => ?_) (fun h14 => ?_)
        · refine wp_aload_n rfl rfl ?_
          refine q_getr rfl rfl (by first | rfl | assumption) rfl rfl ?_
          refine wp_iload_n rfl rfl ?_
          refine q_rowo rfl rfl hs ?_
          refine wp_iload_n rfl rfl ?_
          refine wp_iload_n rfl rfl ?_
          refine cV0 rfl l_10_265 i_X6_begin m_X6_begin (by first | rfl | assumption) (by decide) (c_X6_begin G _ _ _ _ _ _ hs) rfl (Nat.le_of_ble_eq_true rfl) ?_
          refine wp_iconst (v := 0) rfl rfl ?_
          exact wp_iret rfl rfl (⟨rfl, rfl⟩)
        · exfalso; grind [b2]
      · exfalso; grind [b2]
theorem c_X10_row_no (G : Gl) (d : Nat) (v x n : Int32) (I : IF) (L : LF) (b : Bool) (hno : ¬ ((0 ≤ v ∧ v ≤ 3) ∧ (0 ≤ x ∧ x ≤ 3) ∧ 0 ≤ n ∧ n ≤ 60)) : MD G (d + 2) Y_X10_row [.ref 0, .int v, .int x, .int n] (I, L, RR b) (some (.int (if (0 ≤ v ∧ v ≤ 3) ∧ (0 ≤ x ∧ x ≤ 3) ∧ n ≤ 60 then -3 else -2))) (I, L, RR b) := by
  refine MT.intro m_X10_row rfl (Nat.le_of_ble_eq_true rfl) ?_
  show WQ G (d + 2) Y_X10_row _ 0 [(0, .ref 0), (1, .int v), (2, .int x), (3, .int n)] [] (I, L, RR b)
  refine wp_iload_n rfl rfl ?_
  refine cS1 rfl l_10_149 s_X10_isSlot m_X10_isSlot (c_X10_isSlot G _ _ _) rfl (Nat.le_of_ble_eq_true rfl) ?_
  refine wp_if_eq 11 rfl rfl (fun h2 => ?_) (fun h2 => ?_)
  · refine wp_bipush (v := (-2)) rfl rfl ?_
    exact wp_iret rfl rfl (⟨by grind (splits := 30) [b2], rfl⟩)
  · refine wp_iload_n rfl rfl ?_
    refine wp_iconst (v := 0) rfl rfl ?_
    refine wp_iconst (v := 3) rfl rfl ?_
    refine cS1 rfl l_10_77 s_X10_isWithin m_X10_isWithin (c_X10_isWithin G _ _ _ _ _) rfl (Nat.le_of_ble_eq_true rfl) ?_
    refine wp_if_eq 11 rfl rfl (fun h7 => ?_) (fun h7 => ?_)
    · refine wp_bipush (v := (-2)) rfl rfl ?_
      exact wp_iret rfl rfl (⟨by grind (splits := 30) [b2], rfl⟩)
    · refine wp_iload_n rfl rfl ?_
      refine wp_bipush (v := 60) rfl rfl ?_
      refine wp_icmp_le 13 rfl rfl (fun h10 => ?_) (fun h10 => ?_)
      · refine wp_iload_n rfl rfl ?_
        refine wp_if_ge 17 rfl rfl (fun h14 => ?_) (fun h14 => ?_)
        · exfalso; grind (splits := 30) [b2]
        · refine wp_bipush (v := (-3)) rfl rfl ?_
          exact wp_iret rfl rfl (⟨by grind (splits := 30) [b2], rfl⟩)
      · refine wp_bipush (v := (-2)) rfl rfl ?_
        exact wp_iret rfl rfl (⟨by grind (splits := 30) [b2], rfl⟩)
/-- cells of the reference's rows: n of slot s are 0 -/
def flM (L : LF) (s n : Nat) : LF := fun a' k' => if a' = 75 ∧ 60 * s ≤ k' ∧ k' < 60 * s + n then 0 else L a' k'
theorem flM_s (L : LF) (s n : Nat) : uL (flM L s n) 75 (60 * s + n) 0 = flM L s (n + 1) := by
  funext a' k'
  unfold uL flM
  by_cases e : a' = 75
  · subst e
    by_cases k1 : k' = 60 * s + n
    · subst k1; simp
    · simp [k1, show (60 * s ≤ k' ∧ k' < 60 * s + (n + 1)) ↔ (60 * s ≤ k' ∧ k' < 60 * s + n) by omega]
  · simp [e]
theorem flM_0 (L : LF) (s : Nat) : flM L s 0 = L := by
  funext a' k'
  unfold flM
  rw [if_neg (by omega)]
theorem ix60 {s j : Nat} (hs : s < 4) (hj : j < 60) : (60 : Int32) * nI s + nI j = nI (60 * s + j) ∧ vp_in ((60 : Int32) * nI s + nI j) 240 ∧ ((60 : Int32) * nI s + nI j).toNatClampNeg = 60 * s + j := by
  have e : (60 : Int32) * nI s + nI j = nI (60 * s + j) := by rw [show (60 : Int32) = nI 60 from rfl, pk_mul, nI_add]
  rw [e]
  exact ⟨rfl, vp_in_nI (by omega) (by omega), nI_clamp (by omega)⟩
theorem c_X11_row_ok (G : Gl) (d : Nat) {s : Nat} (x n : Int32) (I : IF) (L : LF) (b : Bool) (hs : s < 4) (hx : 0 ≤ x ∧ x ≤ 3) (hn : 0 ≤ n ∧ n ≤ 60) : MD G (d + 2) Y_X11_row [.ref 72, .int (nI s), .int x, .int n] (I, L, RR b) (some (.int 0)) (uI (uI (uI I 72 0 0) 73 s x) 74 s n, flM L s 60, RR b) := by
  have hs0 : (0 : Int32) ≤ nI s ∧ nI s ≤ 3 := ⟨nI_pos' (by omega), nI_le (b := 3) (by omega) (by omega)⟩
  have hin : vp_in (nI s) 4 := vp_in_nI (by omega) (by omega)
  have hcl : (nI s).toNatClampNeg = s := nI_clamp (by omega)
  generalize hJ : uI (uI (uI I 72 0 0) 73 s x) 74 s n = J
  have hloop : ∀ (m i : Nat), i + m = 60 → WQ G (d + 2) Y_X11_row (fun r' w'' => r' = some (.int 0) ∧ w'' = (J, flM L s 60, RR b)) 33 [(0, .ref 72), (1, .int (nI s)), (2, .int x), (3, .int n), (4, .int (nI i))] [] (J, flM L s i, RR b) := by
    intro m
    induction m with
    | zero =>
      intro i hi
      have hie : i = 60 := by omega
      subst hie
      refine wp_iload rfl rfl ?_
      refine wp_bipush (v := 60) rfl rfl ?_
      refine wp_icmp_ge 47 rfl rfl (fun _ => ?_) (fun h35 => absurd (show (60 : Int32) ≤ nI 60 by decide) h35)
      refine wp_iconst (v := 0) rfl rfl ?_
      exact wp_iret rfl rfl (⟨rfl, rfl⟩)
    | succ m ih =>
      intro i hi
      have hlt : ¬ (60 : Int32) ≤ nI i := nI_ge (a := i) (b := 60) (by omega) (by omega)
      have h60 := ix60 hs (show i < 60 by omega)
      refine wp_iload rfl rfl ?_
      refine wp_bipush (v := 60) rfl rfl ?_
      refine wp_icmp_ge 47 rfl rfl (fun h35 => absurd h35 hlt) (fun _ => ?_)
      refine wp_aload_n rfl rfl ?_
      refine q_getr rfl rfl (by first | rfl | assumption) rfl rfl ?_
      refine wp_bipush (v := 60) rfl rfl ?_
      refine wp_iload_n rfl rfl ?_
      refine wp_imul rfl ?_
      refine wp_iload rfl rfl ?_
      refine wp_iadd rfl ?_
      refine wp_lconst (v := 0) rfl rfl ?_
      refine q_last rfl (by first | rfl | assumption) h60.2.1 ?_
      refine wp_iinc (v := nI (i + 1)) (lv' := [(4, _), (0, _), (1, _), (2, _), (3, _)]) rfl rfl (nI_1 i) (by decide) rfl ?_
      refine wp_goto 33 rfl rfl ?_
      refine wp_loc (lv' := [(0, _), (1, _), (2, _), (3, _), (4, _)]) [1, 2, 3, 4, 0] rfl ?_
      rw [h60.2.2, flM_s]
      exact ih (i + 1) (by omega)
  refine MT.intro m_X11_row rfl (Nat.le_of_ble_eq_true rfl) ?_
  show WQ G (d + 2) Y_X11_row _ 0 [(0, .ref 72), (1, .int (nI s)), (2, .int x), (3, .int n)] [] (I, L, RR b)
  refine wp_aload_n rfl rfl ?_
  refine wp_iconst (v := 0) rfl rfl ?_
  refine q_puti rfl rfl (by first | rfl | assumption) (Or.inl rfl) rfl ?_
  refine wp_iload_n rfl rfl ?_
  refine cS1 rfl l_11_123 s_X11_isSlot m_X11_isSlot (c_X11_isSlot G _ _ _) rfl (Nat.le_of_ble_eq_true rfl) ?_
  refine wp_if_eq 15 rfl rfl (fun h5 => ?_) (fun h5 => ?_)
  · exfalso; grind [b2]
  · refine wp_iload_n rfl rfl ?_
    refine wp_i2l rfl ?_
    refine wp_lconst (v := 0) rfl rfl ?_
    refine wp_ldc2 (v := (3)) rfl cl_11_117 ?_
    refine cS1 rfl l_11_119 s_X11_in m_X11_in (c_inI G _ _ 0 3 rfl rfl _) rfl (Nat.le_of_ble_eq_true rfl) ?_
    refine wp_if_eq 15 rfl rfl (fun h11 => ?_) (fun h11 => ?_)
    · exfalso; grind [b2]
    · refine wp_iload_n rfl rfl ?_
      refine wp_bipush (v := 60) rfl rfl ?_
      refine wp_icmp_le 17 rfl rfl (fun h14 => ?_) (fun h14 => ?_)
      · refine wp_iload_n rfl rfl ?_
        refine wp_if_ge 21 rfl rfl (fun h18 => ?_) (fun h18 => ?_)
        · refine wp_aload_n rfl rfl ?_
          refine q_getr rfl rfl (by first | rfl | assumption) rfl rfl ?_
          refine wp_iload_n rfl rfl ?_
          refine wp_iload_n rfl rfl ?_
          refine q_iast rfl (by first | rfl | assumption) (by assumption) ?_
          refine wp_aload_n rfl rfl ?_
          refine q_getr rfl rfl (by first | rfl | assumption) rfl rfl ?_
          refine wp_iload_n rfl rfl ?_
          refine wp_iload_n rfl rfl ?_
          refine q_iast rfl (by first | rfl | assumption) (by assumption) ?_
          refine wp_iconst (v := 0) rfl rfl ?_
          refine wp_istore (lv' := [(4, _), (0, _), (1, _), (2, _), (3, _)]) rfl (by decide) rfl ?_
          refine wp_loc (lv' := [(0, _), (1, _), (2, _), (3, _), (4, _)]) [1, 2, 3, 4, 0] rfl ?_
          rw [hcl, hJ]
          have := hloop 60 0 (by omega)
          rw [flM_0] at this
          exact this
        · exfalso; grind [b2]
      · exfalso; grind [b2]
theorem c_X11_row_no (G : Gl) (d : Nat) (v x n : Int32) (I : IF) (L : LF) (b : Bool) (hno : ¬ ((0 ≤ v ∧ v ≤ 3) ∧ (0 ≤ x ∧ x ≤ 3) ∧ 0 ≤ n ∧ n ≤ 60)) : MD G (d + 2) Y_X11_row [.ref 72, .int v, .int x, .int n] (I, L, RR b) (some (.int (if (0 ≤ v ∧ v ≤ 3) ∧ (0 ≤ x ∧ x ≤ 3) ∧ n ≤ 60 then -3 else -2))) (uI I 72 0 0, L, RR b) := by
  refine MT.intro m_X11_row rfl (Nat.le_of_ble_eq_true rfl) ?_
  show WQ G (d + 2) Y_X11_row _ 0 [(0, .ref 72), (1, .int v), (2, .int x), (3, .int n)] [] (I, L, RR b)
  refine wp_aload_n rfl rfl ?_
  refine wp_iconst (v := 0) rfl rfl ?_
  refine q_puti rfl rfl (by first | rfl | assumption) (Or.inl rfl) rfl ?_
  refine wp_iload_n rfl rfl ?_
  refine cS1 rfl l_11_123 s_X11_isSlot m_X11_isSlot (c_X11_isSlot G _ _ _) rfl (Nat.le_of_ble_eq_true rfl) ?_
  refine wp_if_eq 15 rfl rfl (fun h5 => ?_) (fun h5 => ?_)
  · refine wp_bipush (v := (-2)) rfl rfl ?_
    exact wp_iret rfl rfl (⟨by grind (splits := 30) [b2], rfl⟩)
  · refine wp_iload_n rfl rfl ?_
    refine wp_i2l rfl ?_
    refine wp_lconst (v := 0) rfl rfl ?_
    refine wp_ldc2 (v := (3)) rfl cl_11_117 ?_
    refine cS1 rfl l_11_119 s_X11_in m_X11_in (c_inI G _ _ 0 3 rfl rfl _) rfl (Nat.le_of_ble_eq_true rfl) ?_
    refine wp_if_eq 15 rfl rfl (fun h11 => ?_) (fun h11 => ?_)
    · refine wp_bipush (v := (-2)) rfl rfl ?_
      exact wp_iret rfl rfl (⟨by grind (splits := 30) [b2], rfl⟩)
    · refine wp_iload_n rfl rfl ?_
      refine wp_bipush (v := 60) rfl rfl ?_
      refine wp_icmp_le 17 rfl rfl (fun h14 => ?_) (fun h14 => ?_)
      · refine wp_iload_n rfl rfl ?_
        refine wp_if_ge 21 rfl rfl (fun h18 => ?_) (fun h18 => ?_)
        · exfalso; grind (splits := 30) [b2]
        · refine wp_bipush (v := (-3)) rfl rfl ?_
          exact wp_iret rfl rfl (⟨by grind (splits := 30) [b2], rfl⟩)
      · refine wp_bipush (v := (-2)) rfl rfl ?_
        exact wp_iret rfl rfl (⟨by grind (splits := 30) [b2], rfl⟩)
/-- rows alone change -/
theorem IV_rows {nm na nr : Nat} {I J : IF} {L K : LF} (h : IV nm na nr I L) (ho : ∀ q, (q < 57 ∨ 65 ≤ q) → q ≠ 73 → q ≠ 74 → q ≠ 72 → J q = I q) (h72 : ∀ k, k ≠ 0 → J 72 k = I 72 k) (hr : IVr J K) : IV nm na nr J K ∧ LSm I J := by
  obtain ⟨a1, a2, a3, a4, a5, a6, a7, a8, a9, a10, a11⟩ := id h
  refine ⟨⟨?_, ?_, ?_, ?_, ?_, ?_, ?_, ?_, ?_, ?_, hr⟩, ?_, ?_⟩
  · unfold IVc at a1 ⊢; simp (disch := omega) only [ho, h72]; exact a1
  · unfold IVs at a2 ⊢; simp (disch := omega) only [ho, h72]; exact a2
  · intro k hk; simp (disch := omega) only [ho]; exact a3 k hk
  · intro k hk; simp (disch := omega) only [ho]; exact a4 k hk
  · intro k hk; have := a1.1.2.2; simp (disch := omega) only [ho]; exact a5 k hk
  · intro k hk; simp (disch := omega) only [ho]; exact a6 k hk
  · intro k hk; simp (disch := omega) only [ho]; exact a7 k hk
  · intro a ha; simp (disch := omega) only [ho]; exact a8 a ha
  · intro a ha; simp (disch := omega) only [ho]; exact a9 a ha
  · unfold IVt at a10 ⊢; simp (disch := omega) only [ho, h72]; exact a10
  · intro q hq; exact ho q (by omega) (by omega) (by omega) (by omega)
  · exact h72 12 (by decide)
theorem s_row {G : Gl} {d : Nat} {I : IF} {L : LF} {b : Bool} (v x n : Int32) (h : InvA I L) : StepA G (d + 2) Y_X10_row Y_X11_row [.int v, .int x, .int n] I L b := by
  obtain ⟨nm, na, nr, h⟩ := h
  by_cases hok : (0 ≤ v ∧ v ≤ 3) ∧ (0 ≤ x ∧ x ≤ 3) ∧ 0 ≤ n ∧ n ≤ 60
  · obtain ⟨hv, hx, hn⟩ := hok
    obtain ⟨s, hs, rfl⟩ := nI_get (x := v) (n := 4) hv.1 (by show v < 4; grind) (by omega)
    have c1 := c_X10_row_ok G d x n I L b hs hx hn
    have c2 := c_X11_row_ok G d x n (uI (uI I (57 + 2 * s) 1 x) (57 + 2 * s) 2 n) (flL L (58 + 2 * s) 60 0) b hs hx hn
    have a11 := h.2.2.2.2.2.2.2.2.2.2
    have key := IV_rows (J := uI (uI (uI (uI (uI I (57 + 2 * s) 1 x) (57 + 2 * s) 2 n) 72 0 0) 73 s x) 74 s n) (K := flM (flL L (58 + 2 * s) 60 0) s 60) h (fun q h1 h2 h3 h4 => by rw [uI_fn h3, uI_fn h2, uI_fn h4, uI_fn (by omega), uI_fn (by omega)]) (fun k hk => by simp (disch := omega) only [uI_ne, uI_nk]) (fun t ht => by
      have z := a11 t ht
      by_cases e : t = s
      · subst e
        refine ⟨fun j hj => ?_, Or.inr ?_⟩
        · unfold flM flL
          rw [if_pos (by omega), if_neg (by omega), if_pos (by omega)]
        · simp (disch := omega) only [uI_ne, uI_nk, uI_eq]
          exact ⟨hn, trivial, hx, trivial⟩
      · refine ⟨fun j hj => ?_, ?_⟩
        · unfold flM flL
          rw [if_neg (by omega), if_neg (by omega), if_neg (by omega), if_neg (by omega)]
          exact z.1 j hj
        · simp (disch := omega) only [uI_ne, uI_nk, uI_eq]
          exact z.2)
    exact ⟨_, _, _, _, _, c1, c2, ⟨nm, na, nr, key.1⟩, key.2⟩
  · exact StepA.query h (c_X10_row_no G d v x n I L b hok) (c_X11_row_no G d v x n I L b hok)
