/-! leaves of the reference -/
theorem b2_congr {p q : Prop} [Decidable p] [Decidable q] (h : p ↔ q) : b2 p = b2 q := by
  unfold b2
  by_cases hp : p
  · rw [if_pos hp, if_pos (h.mp hp)]
  · rw [if_neg hp, if_neg (fun z => hp (h.mpr z))]
theorem l64_le (x y : Int32) : x.toInt64 ≤ y.toInt64 ↔ x ≤ y := by
  simp [Int64.le_iff_toInt_le, Int32.le_iff_toInt_le]
theorem l64_lt (x y : Int32) : x.toInt64 < y.toInt64 ↔ x < y := by
  simp [Int64.lt_iff_toInt_lt, Int32.lt_iff_toInt_lt]
theorem c_in (G : Gl) (d : Nat) (v a b : Int64) (w : mW) : MD G d Y_X11_in [.long v, .long a, .long b] w (some (.int (b2 (a ≤ v ∧ v ≤ b)))) w := by
  refine MT.intro m_X11_in rfl (Nat.le_of_ble_eq_true rfl) ?_
  show WQ G d Y_X11_in _ 0 [(0, .long v), (2, .long a), (4, .long b)] [] w
  refine wp_lload_n rfl rfl ?_
  refine wp_lload_n rfl rfl ?_
  refine wp_lcmp rfl ?_
  refine wp_if_lt 10 rfl rfl (fun h3 => ?_) (fun h3 => ?_)
  · refine wp_iconst (v := 0) rfl rfl ?_
    exact wp_zret rfl rfl (by first | rfl | exact nb2 _ | assumption) (⟨by grind [b2, lg_cmp], rfl⟩)
  · refine wp_lload_n rfl rfl ?_
    refine wp_lload rfl rfl ?_
    refine wp_lcmp rfl ?_
    refine wp_if_gt 10 rfl rfl (fun h7 => ?_) (fun h7 => ?_)
    · refine wp_iconst (v := 0) rfl rfl ?_
      exact wp_zret rfl rfl (by first | rfl | exact nb2 _ | assumption) (⟨by grind [b2, lg_cmp], rfl⟩)
    · refine wp_iconst (v := 1) rfl rfl ?_
      refine wp_goto 11 rfl rfl ?_
      exact wp_zret rfl rfl (by first | rfl | exact nb2 _ | assumption) (⟨by grind [b2, lg_cmp], rfl⟩)
theorem c_inI (G : Gl) (d : Nat) (x a b : Int32) {la lb : Int64} (ha : la = a.toInt64) (hb : lb = b.toInt64) (w : mW) : MD G d Y_X11_in [.long x.toInt64, .long la, .long lb] w (some (.int (b2 (a ≤ x ∧ x ≤ b)))) w := by
  have h := c_in G d x.toInt64 la lb w
  rw [show b2 (la ≤ x.toInt64 ∧ x.toInt64 ≤ lb) = b2 (a ≤ x ∧ x ≤ b) from b2_congr (by rw [ha, hb, l64_le, l64_le])] at h
  exact h
theorem c_X11_isSlot (G : Gl) (d : Nat) (s : Int32) (w : mW) : MD G (d + 1) Y_X11_isSlot [.int s] w (some (.int (b2 (0 ≤ s ∧ s ≤ 3)))) w := by
  refine MT.intro m_X11_isSlot rfl (Nat.le_of_ble_eq_true rfl) ?_
  show WQ G (d + 1) Y_X11_isSlot _ 0 [(0, .int s)] [] w
  refine wp_iload_n rfl rfl ?_
  refine wp_i2l rfl ?_
  refine wp_lconst (v := 0) rfl rfl ?_
  refine wp_ldc2 (v := (3)) rfl cl_11_117 ?_
  refine cS1 rfl l_11_119 s_X11_in m_X11_in (c_inI G _ _ 0 3 rfl rfl _) rfl (Nat.le_of_ble_eq_true rfl) ?_
  exact wp_zret rfl rfl (by first | rfl | exact nb2 _ | assumption) (⟨by first | rfl | grind [b2], rfl⟩)
theorem c_X11_isSender (G : Gl) (d : Nat) (x y p c : Int32) (w : mW) : MD G (d + 1) Y_X11_isSender [.int x, .int y, .int p, .int c] w (some (.int (b2 (((0 ≤ x ∧ x ≤ 100) ∧ 0 ≤ y ∧ y ≤ 100) ∧ (1 ≤ p ∧ p ≤ 10000) ∧ 0 ≤ c ∧ c ≤ 11)))) w := by
  refine MT.intro m_X11_isSender rfl (Nat.le_of_ble_eq_true rfl) ?_
  show WQ G (d + 1) Y_X11_isSender _ 0 [(0, .int x), (1, .int y), (2, .int p), (3, .int c)] [] w
  refine wp_iload_n rfl rfl ?_
  refine wp_i2l rfl ?_
  refine wp_lconst (v := 0) rfl rfl ?_
  refine wp_ldc2 (v := (100)) rfl cl_11_133 ?_
  refine cS1 rfl l_11_119 s_X11_in m_X11_in (c_inI G _ _ 0 100 rfl rfl _) rfl (Nat.le_of_ble_eq_true rfl) ?_
  refine wp_if_eq 26 rfl rfl (fun h5 => ?_) (fun h5 => ?_)
  · refine wp_iconst (v := 0) rfl rfl ?_
    exact wp_zret rfl rfl (by first | rfl | exact nb2 _ | assumption) (⟨by first | rfl | grind [b2], rfl⟩)
  · refine wp_iload_n rfl rfl ?_
    refine wp_i2l rfl ?_
    refine wp_lconst (v := 0) rfl rfl ?_
    refine wp_ldc2 (v := (100)) rfl cl_11_133 ?_
    refine cS1 rfl l_11_119 s_X11_in m_X11_in (c_inI G _ _ 0 100 rfl rfl _) rfl (Nat.le_of_ble_eq_true rfl) ?_
    refine wp_if_eq 26 rfl rfl (fun h11 => ?_) (fun h11 => ?_)
    · refine wp_iconst (v := 0) rfl rfl ?_
      exact wp_zret rfl rfl (by first | rfl | exact nb2 _ | assumption) (⟨by first | rfl | grind [b2], rfl⟩)
    · refine wp_iload_n rfl rfl ?_
      refine wp_i2l rfl ?_
      refine wp_lconst (v := 1) rfl rfl ?_
      refine wp_ldc2 (v := (10000)) rfl cl_11_135 ?_
      refine cS1 rfl l_11_119 s_X11_in m_X11_in (c_inI G _ _ 1 10000 rfl rfl _) rfl (Nat.le_of_ble_eq_true rfl) ?_
      refine wp_if_eq 26 rfl rfl (fun h17 => ?_) (fun h17 => ?_)
      · refine wp_iconst (v := 0) rfl rfl ?_
        exact wp_zret rfl rfl (by first | rfl | exact nb2 _ | assumption) (⟨by first | rfl | grind [b2], rfl⟩)
      · refine wp_iload_n rfl rfl ?_
        refine wp_i2l rfl ?_
        refine wp_lconst (v := 0) rfl rfl ?_
        refine wp_ldc2 (v := (11)) rfl cl_11_137 ?_
        refine cS1 rfl l_11_119 s_X11_in m_X11_in (c_inI G _ _ 0 11 rfl rfl _) rfl (Nat.le_of_ble_eq_true rfl) ?_
        refine wp_if_eq 26 rfl rfl (fun h23 => ?_) (fun h23 => ?_)
        · refine wp_iconst (v := 0) rfl rfl ?_
          exact wp_zret rfl rfl (by first | rfl | exact nb2 _ | assumption) (⟨by first | rfl | grind [b2], rfl⟩)
        · refine wp_iconst (v := 1) rfl rfl ?_
          refine wp_goto 27 rfl rfl ?_
          exact wp_zret rfl rfl (by first | rfl | exact nb2 _ | assumption) (⟨by first | rfl | grind [b2], rfl⟩)
theorem c_X11_isMast (G : Gl) (d : Nat) (v : Int32) (I : IF) (L : LF) (R : RF) : MD G (d + 1) Y_X11_isMast [.ref 72, .int v] (I, L, R) (some (.int (b2 (0 ≤ v ∧ v ≤ I 72 5 - 1)))) (I, L, R) := by
  refine MT.intro m_X11_isMast rfl (Nat.le_of_ble_eq_true rfl) ?_
  show WQ G (d + 1) Y_X11_isMast _ 0 [(0, .ref 72), (1, .int v)] [] (I, L, R)
  refine wp_iload_n rfl rfl ?_
  refine wp_i2l rfl ?_
  refine wp_lconst (v := 0) rfl rfl ?_
  refine wp_aload_n rfl rfl ?_
  refine q_geti rfl rfl (by first | rfl | assumption) rfl ?_
  refine wp_iconst (v := 1) rfl rfl ?_
  refine wp_isub rfl ?_
  refine wp_i2l rfl ?_
  refine cS1 rfl l_11_119 s_X11_in m_X11_in (c_inI G _ _ 0 (I 72 5 - 1) rfl rfl _) rfl (Nat.le_of_ble_eq_true rfl) ?_
  exact wp_zret rfl rfl (by first | rfl | exact nb2 _ | assumption) (⟨by first | rfl | grind [b2], rfl⟩)
theorem c_X11_isArea (G : Gl) (d : Nat) (v : Int32) (I : IF) (L : LF) (R : RF) : MD G (d + 1) Y_X11_isArea [.ref 72, .int v] (I, L, R) (some (.int (b2 (0 ≤ v ∧ v ≤ I 72 7 - 1)))) (I, L, R) := by
  refine MT.intro m_X11_isArea rfl (Nat.le_of_ble_eq_true rfl) ?_
  show WQ G (d + 1) Y_X11_isArea _ 0 [(0, .ref 72), (1, .int v)] [] (I, L, R)
  refine wp_iload_n rfl rfl ?_
  refine wp_i2l rfl ?_
  refine wp_lconst (v := 0) rfl rfl ?_
  refine wp_aload_n rfl rfl ?_
  refine q_geti rfl rfl (by first | rfl | assumption) rfl ?_
  refine wp_iconst (v := 1) rfl rfl ?_
  refine wp_isub rfl ?_
  refine wp_i2l rfl ?_
  refine cS1 rfl l_11_119 s_X11_in m_X11_in (c_inI G _ _ 0 (I 72 7 - 1) rfl rfl _) rfl (Nat.le_of_ble_eq_true rfl) ?_
  exact wp_zret rfl rfl (by first | rfl | exact nb2 _ | assumption) (⟨by first | rfl | grind [b2], rfl⟩)
theorem c_X11_sender (G : Gl) (d : Nat) (m x y p c : Int32) (I : IF) (L : LF) (b : Bool) (hm : vp_in m 14) : MD G d Y_X11_sender [.ref 72, .int m, .int x, .int y, .int p, .int c] (I, L, RR b) none (uI (uI (uI (uI I 77 m.toNatClampNeg x) 78 m.toNatClampNeg y) 79 m.toNatClampNeg p) 80 m.toNatClampNeg c, L, RR b) := by
  refine MT.intro m_X11_sender rfl (Nat.le_of_ble_eq_true rfl) ?_
  show WQ G d Y_X11_sender _ 0 [(0, .ref 72), (1, .int m), (2, .int x), (3, .int y), (4, .int p), (5, .int c)] [] (I, L, RR b)
  refine wp_aload_n rfl rfl ?_
  refine q_getr rfl rfl (by first | rfl | assumption) rfl rfl ?_
  refine wp_iload_n rfl rfl ?_
  refine wp_iload_n rfl rfl ?_
  refine q_iast rfl (by first | rfl | assumption) (by assumption) ?_
  refine wp_aload_n rfl rfl ?_
  refine q_getr rfl rfl (by first | rfl | assumption) rfl rfl ?_
  refine wp_iload_n rfl rfl ?_
  refine wp_iload_n rfl rfl ?_
  refine q_iast rfl (by first | rfl | assumption) (by assumption) ?_
  refine wp_aload_n rfl rfl ?_
  refine q_getr rfl rfl (by first | rfl | assumption) rfl rfl ?_
  refine wp_iload_n rfl rfl ?_
  refine wp_iload rfl rfl ?_
  refine q_iast rfl (by first | rfl | assumption) (by assumption) ?_
  refine wp_aload_n rfl rfl ?_
  refine q_getr rfl rfl (by first | rfl | assumption) rfl rfl ?_
  refine wp_iload_n rfl rfl ?_
  refine wp_iload rfl rfl ?_
  refine q_iast rfl (by first | rfl | assumption) (by assumption) ?_
  exact wp_vret rfl rfl (⟨rfl, rfl⟩)
theorem c_X11_turned (G : Gl) (d : Nat) (a m : Int32) (I : IF) (L : LF) (b : Bool) (ha : vp_in a 16) : MD G d Y_X11_turned [.ref 72, .int a, .int m] (I, L, RR b) (some (.int (b2 (¬ I 92 a.toNatClampNeg = m)))) (if I 92 a.toNatClampNeg = m then I else uI (uI I 92 a.toNatClampNeg m) 93 a.toNatClampNeg (I 93 a.toNatClampNeg + 1), L, RR b) := by
  refine MT.intro m_X11_turned rfl (Nat.le_of_ble_eq_true rfl) ?_
  show WQ G d Y_X11_turned _ 0 [(0, .ref 72), (1, .int a), (2, .int m)] [] (I, L, RR b)
  refine wp_aload_n rfl rfl ?_
  refine q_getr rfl rfl (by first | rfl | assumption) rfl rfl ?_
  refine wp_iload_n rfl rfl ?_
  refine q_iald rfl (by first | rfl | assumption) (by assumption) ?_
  refine wp_iload_n rfl rfl ?_
  refine wp_icmp_ne 8 rfl rfl (fun h5 => ?_) (fun h5 => ?_)
  · refine wp_aload_n rfl rfl ?_
    refine q_getr rfl rfl (by first | rfl | assumption) rfl rfl ?_
    refine wp_iload_n rfl rfl ?_
    refine wp_iload_n rfl rfl ?_
    refine q_iast rfl (by first | rfl | assumption) (by assumption) ?_
    refine wp_aload_n rfl rfl ?_
    refine q_getr rfl rfl (by first | rfl | assumption) rfl rfl ?_
    refine wp_iload_n rfl rfl ?_
    refine wp_dup2 rfl rfl rfl ?_
    refine q_iald rfl (by first | rfl | assumption) (by assumption) ?_
    refine wp_iconst (v := 1) rfl rfl ?_
    refine wp_iadd rfl ?_
    refine q_iast rfl (by first | rfl | assumption) (by assumption) ?_
    refine wp_iconst (v := 1) rfl rfl ?_
    exact wp_zret rfl rfl (by first | rfl | exact nb2 _ | assumption) (⟨by simp_all [b2], by simp_all [uI]⟩)
  · refine wp_iconst (v := 0) rfl rfl ?_
    exact wp_zret rfl rfl (by first | rfl | exact nb2 _ | assumption) (⟨by simp_all [b2], by simp_all [uI]⟩)
theorem c_X11_at (G : Gl) (d : Nat) (m a : Int32) (I : IF) (L : LF) (b : Bool) (hm : vp_in m 14) (ha : vp_in a 16) (hne : ¬ sqD (I 77 m.toNatClampNeg) (I 78 m.toNatClampNeg) (I 86 a.toNatClampNeg) (I 87 a.toNatClampNeg) = 0) : MD G d Y_X11_at [.ref 72, .int m, .int a] (I, L, RR b) (some (.int (strg (I 79 m.toNatClampNeg) (I 77 m.toNatClampNeg) (I 78 m.toNatClampNeg) (I 86 a.toNatClampNeg) (I 87 a.toNatClampNeg)))) (I, L, RR b) := by
  refine MT.intro m_X11_at rfl (Nat.le_of_ble_eq_true rfl) ?_
  show WQ G d Y_X11_at _ 0 [(0, .ref 72), (1, .int m), (2, .int a)] [] (I, L, RR b)
  refine wp_aload_n rfl rfl ?_
  refine q_getr rfl rfl (by first | rfl | assumption) rfl rfl ?_
  refine wp_iload_n rfl rfl ?_
  refine q_iald rfl (by first | rfl | assumption) (by assumption) ?_
  refine wp_aload_n rfl rfl ?_
  refine q_getr rfl rfl (by first | rfl | assumption) rfl rfl ?_
  refine wp_iload_n rfl rfl ?_
  refine q_iald rfl (by first | rfl | assumption) (by assumption) ?_
  refine wp_isub rfl ?_
  refine wp_istore_n (lv' := [(3, _), (0, _), (1, _), (2, _)]) rfl rfl (by decide) rfl ?_
  refine wp_aload_n rfl rfl ?_
  refine q_getr rfl rfl (by first | rfl | assumption) rfl rfl ?_
  refine wp_iload_n rfl rfl ?_
  refine q_iald rfl (by first | rfl | assumption) (by assumption) ?_
  refine wp_aload_n rfl rfl ?_
  refine q_getr rfl rfl (by first | rfl | assumption) rfl rfl ?_
  refine wp_iload_n rfl rfl ?_
  refine q_iald rfl (by first | rfl | assumption) (by assumption) ?_
  refine wp_isub rfl ?_
  refine wp_istore (lv' := [(4, _), (3, _), (0, _), (1, _), (2, _)]) rfl (by decide) rfl ?_
  refine wp_sipush (v := 1000) rfl rfl ?_
  refine wp_aload_n rfl rfl ?_
  refine q_getr rfl rfl (by first | rfl | assumption) rfl rfl ?_
  refine wp_iload_n rfl rfl ?_
  refine q_iald rfl (by first | rfl | assumption) (by assumption) ?_
  refine wp_imul rfl ?_
  refine wp_bipush (v := 10) rfl rfl ?_
  refine wp_iload_n rfl rfl ?_
  refine wp_iload_n rfl rfl ?_
  refine wp_imul rfl ?_
  refine wp_iadd rfl ?_
  refine wp_iload rfl rfl ?_
  refine wp_iload rfl rfl ?_
  refine wp_imul rfl ?_
  refine wp_iadd rfl ?_
  refine wp_idiv rfl hne ?_
  exact wp_iret rfl rfl (⟨by first | rfl | grind [b2], rfl⟩)
theorem c_X11_terms (G : Gl) (d : Nat) (l r : Int32) (I : IF) (L : LF) (b : Bool) : MD G (d + 1) Y_X11_terms [.ref 72, .int l, .int r] (I, L, RR b) (some (.int (if (1 ≤ l ∧ l ≤ 1000000) ∧ 1 ≤ r ∧ r ≤ 100 then 0 else -2))) (if (1 ≤ l ∧ l ≤ 1000000) ∧ 1 ≤ r ∧ r ≤ 100 then uI (uI (uI I 72 0 0) 72 9 l) 72 10 r else uI I 72 0 0, L, RR b) := by
  refine MT.intro m_X11_terms rfl (Nat.le_of_ble_eq_true rfl) ?_
  show WQ G (d + 1) Y_X11_terms _ 0 [(0, .ref 72), (1, .int l), (2, .int r)] [] (I, L, RR b)
  refine wp_aload_n rfl rfl ?_
  refine wp_iconst (v := 0) rfl rfl ?_
  refine q_puti rfl rfl (by first | rfl | assumption) (Or.inl rfl) rfl ?_
  refine wp_iload_n rfl rfl ?_
  refine wp_i2l rfl ?_
  refine wp_lconst (v := 1) rfl rfl ?_
  refine wp_ldc2 (v := (1000000)) rfl cl_11_131 ?_
  refine cS1 rfl l_11_119 s_X11_in m_X11_in (c_inI G _ _ 1 1000000 rfl rfl _) rfl (Nat.le_of_ble_eq_true rfl) ?_
  refine wp_if_eq 15 rfl rfl (fun h8 => ?_) (fun h8 => ?_)
  · refine wp_bipush (v := (-2)) rfl rfl ?_
    exact wp_iret rfl rfl (⟨by grind [b2], by grind [b2]⟩)
  · refine wp_iload_n rfl rfl ?_
    refine wp_i2l rfl ?_
    refine wp_lconst (v := 1) rfl rfl ?_
    refine wp_ldc2 (v := (100)) rfl cl_11_133 ?_
    refine cS1 rfl l_11_119 s_X11_in m_X11_in (c_inI G _ _ 1 100 rfl rfl _) rfl (Nat.le_of_ble_eq_true rfl) ?_
    refine wp_if_ne 17 rfl rfl (fun h14 => ?_) (fun h14 => ?_)
    · refine wp_aload_n rfl rfl ?_
      refine wp_iload_n rfl rfl ?_
      refine q_puti rfl rfl (by first | rfl | assumption) (Or.inl rfl) rfl ?_
      refine wp_aload_n rfl rfl ?_
      refine wp_iload_n rfl rfl ?_
      refine q_puti rfl rfl (by first | rfl | assumption) (Or.inl rfl) rfl ?_
      refine wp_iconst (v := 0) rfl rfl ?_
      exact wp_iret rfl rfl (⟨by grind [b2], by grind [b2]⟩)
    · refine wp_bipush (v := (-2)) rfl rfl ?_
      exact wp_iret rfl rfl (⟨by grind [b2], by grind [b2]⟩)
theorem c_X10_terms (G : Gl) (d : Nat) (l r : Int32) (I : IF) (L : LF) (b : Bool) : MD G (d + 1) Y_X10_terms [.ref 0, .int l, .int r] (I, L, RR b) (some (.int (if (1 ≤ l ∧ l ≤ 1000000) ∧ 1 ≤ r ∧ r ≤ 100 then 0 else -2))) (if (1 ≤ l ∧ l ≤ 1000000) ∧ 1 ≤ r ∧ r ≤ 100 then uI (uI I 1 6 l) 1 7 r else I, L, RR b) := by
  refine MT.intro m_X10_terms rfl (Nat.le_of_ble_eq_true rfl) ?_
  show WQ G (d + 1) Y_X10_terms _ 0 [(0, .ref 0), (1, .int l), (2, .int r)] [] (I, L, RR b)
  refine wp_iload_n rfl rfl ?_
  refine wp_iconst (v := 1) rfl rfl ?_
  refine wp_ldc (v := (1000000)) rfl ci_10_76 ?_
  refine cS1 rfl l_10_77 s_X10_isWithin m_X10_isWithin (c_X10_isWithin G _ _ _ _ _) rfl (Nat.le_of_ble_eq_true rfl) ?_
  refine wp_if_eq 10 rfl rfl (fun h4 => ?_) (fun h4 => ?_)
  · refine wp_bipush (v := (-2)) rfl rfl ?_
    exact wp_iret rfl rfl (⟨by grind [b2], by grind [b2]⟩)
  · refine wp_iload_n rfl rfl ?_
    refine wp_iconst (v := 1) rfl rfl ?_
    refine wp_bipush (v := 100) rfl rfl ?_
    refine cS1 rfl l_10_77 s_X10_isWithin m_X10_isWithin (c_X10_isWithin G _ _ _ _ _) rfl (Nat.le_of_ble_eq_true rfl) ?_
    refine wp_if_ne 12 rfl rfl (fun h9 => ?_) (fun h9 => ?_)
    · refine wp_aload_n rfl rfl ?_
      refine q_getr rfl rfl (by first | rfl | assumption) rfl rfl ?_
      refine wp_iload_n rfl rfl ?_
      refine q_puti rfl rfl (by first | rfl | assumption) (Or.inl rfl) rfl ?_
      refine wp_aload_n rfl rfl ?_
      refine q_getr rfl rfl (by first | rfl | assumption) rfl rfl ?_
      refine wp_iload_n rfl rfl ?_
      refine q_puti rfl rfl (by first | rfl | assumption) (Or.inl rfl) rfl ?_
      refine wp_iconst (v := 0) rfl rfl ?_
      exact wp_iret rfl rfl (⟨by grind [b2], by grind [b2]⟩)
    · refine wp_bipush (v := (-2)) rfl rfl ?_
      exact wp_iret rfl rfl (⟨by grind [b2], by grind [b2]⟩)
