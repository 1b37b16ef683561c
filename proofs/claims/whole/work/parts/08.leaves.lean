/-! leaves of the class -/
theorem nb2 (p : Prop) [Decidable p] : narrow .boolean (.int (b2 p)) = .int (b2 p) := by rcases b2_01 p with h | h <;> rw [h] <;> rfl
theorem vpin {x : Int32} {n : Nat} (h0 : 0 ≤ x) (h1 : x < Int32.ofNat n) (hn : n < 2 ^ 31) : vp_in x n := by
  rw [vp_in_iff]
  have a := Int32.le_iff_toInt_le.mp h0
  have b := Int32.lt_iff_toInt_lt.mp h1
  have c : (Int32.ofNat n).toInt = n := nI_toInt hn
  rw [c] at b
  exact ⟨a, b⟩
theorem nI_get {x : Int32} {n : Nat} (h0 : 0 ≤ x) (h1 : x < nI n) (hn : n < 2 ^ 31) : ∃ m, m < n ∧ x = nI m := by
  have h := vpin h0 h1 hn
  exact vp_in_of h hn
theorem c_X10_isWithin (G : Gl) (d : Nat) (v f t : Int32) (w : mW) : MD G d Y_X10_isWithin [.int v, .int f, .int t] w (some (.int (b2 (f ≤ v ∧ v ≤ t)))) w := by
  refine MT.intro m_X10_isWithin rfl (Nat.le_of_ble_eq_true rfl) ?_
  show WQ G d Y_X10_isWithin _ 0 [(0, .int v), (1, .int f), (2, .int t)] [] w
  refine wp_iload_n rfl rfl ?_
  refine wp_iload_n rfl rfl ?_
  refine wp_icmp_lt 8 rfl rfl (fun h2 => ?_) (fun h2 => ?_)
  · refine wp_iconst (v := 0) rfl rfl ?_
    exact wp_zret rfl rfl (by first | rfl | exact nb2 _ | assumption) (⟨by first | rfl | grind [b2], rfl⟩)
  · refine wp_iload_n rfl rfl ?_
    refine wp_iload_n rfl rfl ?_
    refine wp_icmp_gt 8 rfl rfl (fun h5 => ?_) (fun h5 => ?_)
    · refine wp_iconst (v := 0) rfl rfl ?_
      exact wp_zret rfl rfl (by first | rfl | exact nb2 _ | assumption) (⟨by first | rfl | grind [b2], rfl⟩)
    · refine wp_iconst (v := 1) rfl rfl ?_
      refine wp_goto 9 rfl rfl ?_
      exact wp_zret rfl rfl (by first | rfl | exact nb2 _ | assumption) (⟨by first | rfl | grind [b2], rfl⟩)
theorem c_X10_isIn (G : Gl) (d : Nat) (s i : Int32) (w : mW) : MD G d Y_X10_isIn [.int s, .int i] w (some (.int (b2 (¬ (s >>> (i &&& 31)) &&& 1 = 0)))) w := by
  refine MT.intro m_X10_isIn rfl (Nat.le_of_ble_eq_true rfl) ?_
  show WQ G d Y_X10_isIn _ 0 [(0, .int s), (1, .int i)] [] w
  refine wp_iload_n rfl rfl ?_
  refine wp_iload_n rfl rfl ?_
  refine wp_ishr rfl ?_
  refine wp_iconst (v := 1) rfl rfl ?_
  refine wp_iand rfl ?_
  refine wp_if_eq 8 rfl rfl (fun h5 => ?_) (fun h5 => ?_)
  · refine wp_iconst (v := 0) rfl rfl ?_
    exact wp_zret rfl rfl (by first | rfl | exact nb2 _ | assumption) (⟨by first | rfl | grind [b2], rfl⟩)
  · refine wp_iconst (v := 1) rfl rfl ?_
    refine wp_goto 9 rfl rfl ?_
    exact wp_zret rfl rfl (by first | rfl | exact nb2 _ | assumption) (⟨by first | rfl | grind [b2], rfl⟩)
theorem c_X10_asNumber (G : Gl) (d : Nat) (s : Int32) (w : mW) : MD G d Y_X10_asNumber [.int s] w (some (.int (b2 (¬ s = 0)))) w := by
  refine MT.intro m_X10_asNumber rfl (Nat.le_of_ble_eq_true rfl) ?_
  show WQ G d Y_X10_asNumber _ 0 [(0, .int s)] [] w
  refine wp_iload_n rfl rfl ?_
  refine wp_if_eq 4 rfl rfl (fun h1 => ?_) (fun h1 => ?_)
  · refine wp_iconst (v := 0) rfl rfl ?_
    exact wp_iret rfl rfl (⟨by first | rfl | grind [b2], rfl⟩)
  · refine wp_iconst (v := 1) rfl rfl ?_
    refine wp_goto 5 rfl rfl ?_
    exact wp_iret rfl rfl (⟨by first | rfl | grind [b2], rfl⟩)
theorem c_X10_isSlot (G : Gl) (d : Nat) (s : Int32) (w : mW) : MD G (d + 1) Y_X10_isSlot [.int s] w (some (.int (b2 (0 ≤ s ∧ s ≤ 3)))) w := by
  refine MT.intro m_X10_isSlot rfl (Nat.le_of_ble_eq_true rfl) ?_
  show WQ G (d + 1) Y_X10_isSlot _ 0 [(0, .int s)] [] w
  refine wp_iload_n rfl rfl ?_
  refine wp_iconst (v := 0) rfl rfl ?_
  refine wp_iconst (v := 3) rfl rfl ?_
  refine cS1 rfl l_10_77 s_X10_isWithin m_X10_isWithin (c_X10_isWithin G _ _ _ _ _) rfl (Nat.le_of_ble_eq_true rfl) ?_
  exact wp_zret rfl rfl (by first | rfl | exact nb2 _ | assumption) (⟨by first | rfl | grind [b2], rfl⟩)
theorem c_X10_isPlace (G : Gl) (d : Nat) (x y : Int32) (w : mW) : MD G (d + 1) Y_X10_isPlace [.int x, .int y] w (some (.int (b2 ((0 ≤ x ∧ x ≤ 100) ∧ 0 ≤ y ∧ y ≤ 100)))) w := by
  refine MT.intro m_X10_isPlace rfl (Nat.le_of_ble_eq_true rfl) ?_
  show WQ G (d + 1) Y_X10_isPlace _ 0 [(0, .int x), (1, .int y)] [] w
  refine wp_iload_n rfl rfl ?_
  refine wp_iconst (v := 0) rfl rfl ?_
  refine wp_bipush (v := 100) rfl rfl ?_
  refine cS1 rfl l_10_77 s_X10_isWithin m_X10_isWithin (c_X10_isWithin G _ _ _ _ _) rfl (Nat.le_of_ble_eq_true rfl) ?_
  refine wp_if_eq 12 rfl rfl (fun h4 => ?_) (fun h4 => ?_)
  · refine wp_iconst (v := 0) rfl rfl ?_
    exact wp_zret rfl rfl (by first | rfl | exact nb2 _ | assumption) (⟨by first | rfl | grind [b2], rfl⟩)
  · refine wp_iload_n rfl rfl ?_
    refine wp_iconst (v := 0) rfl rfl ?_
    refine wp_bipush (v := 100) rfl rfl ?_
    refine cS1 rfl l_10_77 s_X10_isWithin m_X10_isWithin (c_X10_isWithin G _ _ _ _ _) rfl (Nat.le_of_ble_eq_true rfl) ?_
    refine wp_if_eq 12 rfl rfl (fun h9 => ?_) (fun h9 => ?_)
    · refine wp_iconst (v := 0) rfl rfl ?_
      exact wp_zret rfl rfl (by first | rfl | exact nb2 _ | assumption) (⟨by first | rfl | grind [b2], rfl⟩)
    · refine wp_iconst (v := 1) rfl rfl ?_
      refine wp_goto 13 rfl rfl ?_
      exact wp_zret rfl rfl (by first | rfl | exact nb2 _ | assumption) (⟨by first | rfl | grind [b2], rfl⟩)
theorem c_X10_isFitSender (G : Gl) (d : Nat) (x y p c : Int32) (w : mW) : MD G (d + 2) Y_X10_isFitSender [.int x, .int y, .int p, .int c] w (some (.int (b2 (((0 ≤ x ∧ x ≤ 100) ∧ 0 ≤ y ∧ y ≤ 100) ∧ (1 ≤ p ∧ p ≤ 10000) ∧ 0 ≤ c ∧ c ≤ 11)))) w := by
  refine MT.intro m_X10_isFitSender rfl (Nat.le_of_ble_eq_true rfl) ?_
  show WQ G (d + 2) Y_X10_isFitSender _ 0 [(0, .int x), (1, .int y), (2, .int p), (3, .int c)] [] w
  refine wp_iload_n rfl rfl ?_
  refine wp_iload_n rfl rfl ?_
  refine cS1 rfl l_10_120 s_X10_isPlace m_X10_isPlace (c_X10_isPlace G _ _ _ _) rfl (Nat.le_of_ble_eq_true rfl) ?_
  refine wp_if_eq 16 rfl rfl (fun h3 => ?_) (fun h3 => ?_)
  · refine wp_iconst (v := 0) rfl rfl ?_
    exact wp_zret rfl rfl (by first | rfl | exact nb2 _ | assumption) (⟨by first | rfl | grind [b2], rfl⟩)
  · refine wp_iload_n rfl rfl ?_
    refine wp_iconst (v := 1) rfl rfl ?_
    refine wp_sipush (v := 10000) rfl rfl ?_
    refine cS1 rfl l_10_77 s_X10_isWithin m_X10_isWithin (c_X10_isWithin G _ _ _ _ _) rfl (Nat.le_of_ble_eq_true rfl) ?_
    refine wp_if_eq 16 rfl rfl (fun h8 => ?_) (fun h8 => ?_)
    · refine wp_iconst (v := 0) rfl rfl ?_
      exact wp_zret rfl rfl (by first | rfl | exact nb2 _ | assumption) (⟨by first | rfl | grind [b2], rfl⟩)
    · refine wp_iload_n rfl rfl ?_
      refine wp_iconst (v := 0) rfl rfl ?_
      refine wp_bipush (v := 11) rfl rfl ?_
      refine cS1 rfl l_10_77 s_X10_isWithin m_X10_isWithin (c_X10_isWithin G _ _ _ _ _) rfl (Nat.le_of_ble_eq_true rfl) ?_
      refine wp_if_eq 16 rfl rfl (fun h13 => ?_) (fun h13 => ?_)
      · refine wp_iconst (v := 0) rfl rfl ?_
        exact wp_zret rfl rfl (by first | rfl | exact nb2 _ | assumption) (⟨by first | rfl | grind [b2], rfl⟩)
      · refine wp_iconst (v := 1) rfl rfl ?_
        refine wp_goto 17 rfl rfl ?_
        exact wp_zret rfl rfl (by first | rfl | exact nb2 _ | assumption) (⟨by first | rfl | grind [b2], rfl⟩)
theorem c_X1_isMast (G : Gl) (d : Nat) (v : Int32) (I : IF) (L : LF) (R : RF) : MD G d Y_X1_isMast [.ref 1, .int v] (I, L, R) (some (.int (b2 (0 ≤ v ∧ v < I 1 2)))) (I, L, R) := by
  refine MT.intro m_X1_isMast rfl (Nat.le_of_ble_eq_true rfl) ?_
  show WQ G d Y_X1_isMast _ 0 [(0, .ref 1), (1, .int v)] [] (I, L, R)
  refine wp_iload_n rfl rfl ?_
  refine wp_if_lt 8 rfl rfl (fun h1 => ?_) (fun h1 => ?_)
  · refine wp_iconst (v := 0) rfl rfl ?_
    exact wp_zret rfl rfl (by first | rfl | exact nb2 _ | assumption) (⟨by first | rfl | grind [b2], rfl⟩)
  · refine wp_iload_n rfl rfl ?_
    refine wp_aload_n rfl rfl ?_
    refine q_geti rfl rfl (by first | rfl | assumption) rfl ?_
    refine wp_icmp_ge 8 rfl rfl (fun h5 => ?_) (fun h5 => ?_)
    · refine wp_iconst (v := 0) rfl rfl ?_
      exact wp_zret rfl rfl (by first | rfl | exact nb2 _ | assumption) (⟨by first | rfl | grind [b2], rfl⟩)
    · refine wp_iconst (v := 1) rfl rfl ?_
      refine wp_goto 9 rfl rfl ?_
      exact wp_zret rfl rfl (by first | rfl | exact nb2 _ | assumption) (⟨by first | rfl | grind [b2], rfl⟩)
theorem c_X1_isArea (G : Gl) (d : Nat) (v : Int32) (I : IF) (L : LF) (R : RF) : MD G d Y_X1_isArea [.ref 1, .int v] (I, L, R) (some (.int (b2 (0 ≤ v ∧ v < I 1 4)))) (I, L, R) := by
  refine MT.intro m_X1_isArea rfl (Nat.le_of_ble_eq_true rfl) ?_
  show WQ G d Y_X1_isArea _ 0 [(0, .ref 1), (1, .int v)] [] (I, L, R)
  refine wp_iload_n rfl rfl ?_
  refine wp_if_lt 8 rfl rfl (fun h1 => ?_) (fun h1 => ?_)
  · refine wp_iconst (v := 0) rfl rfl ?_
    exact wp_zret rfl rfl (by first | rfl | exact nb2 _ | assumption) (⟨by first | rfl | grind [b2], rfl⟩)
  · refine wp_iload_n rfl rfl ?_
    refine wp_aload_n rfl rfl ?_
    refine q_geti rfl rfl (by first | rfl | assumption) rfl ?_
    refine wp_icmp_ge 8 rfl rfl (fun h5 => ?_) (fun h5 => ?_)
    · refine wp_iconst (v := 0) rfl rfl ?_
      exact wp_zret rfl rfl (by first | rfl | exact nb2 _ | assumption) (⟨by first | rfl | grind [b2], rfl⟩)
    · refine wp_iconst (v := 1) rfl rfl ?_
      refine wp_goto 9 rfl rfl ?_
      exact wp_zret rfl rfl (by first | rfl | exact nb2 _ | assumption) (⟨by first | rfl | grind [b2], rfl⟩)
theorem c_X1_isSender (G : Gl) (d : Nat) (v : Int32) (I : IF) (L : LF) (R : RF) : MD G (d + 1) Y_X1_isSender [.ref 1, .int v] (I, L, R) (some (.int (b2 ((0 ≤ v ∧ v < I 1 2) ∨ (10 ≤ v ∧ v - 10 < I 1 3))))) (I, L, R) := by
  refine MT.intro m_X1_isSender rfl (Nat.le_of_ble_eq_true rfl) ?_
  show WQ G (d + 1) Y_X1_isSender _ 0 [(0, .ref 1), (1, .int v)] [] (I, L, R)
  refine wp_aload_n rfl rfl ?_
  refine wp_iload_n rfl rfl ?_
  refine cV1 rfl l_1_35 i_X1_isMast m_X1_isMast (by first | rfl | assumption) (by decide) (c_X1_isMast G _ _ _ _ _) rfl (Nat.le_of_ble_eq_true rfl) ?_
  refine wp_if_ne 13 rfl rfl (fun h3 => ?_) (fun h3 => ?_)
  · refine wp_iconst (v := 1) rfl rfl ?_
    refine wp_goto 16 rfl rfl ?_
    exact wp_zret rfl rfl (by first | rfl | exact nb2 _ | assumption) (⟨by first | rfl | grind [b2], rfl⟩)
  · refine wp_iload_n rfl rfl ?_
    refine wp_bipush (v := 10) rfl rfl ?_
    refine wp_icmp_lt 15 rfl rfl (fun h6 => ?_) (fun h6 => ?_)
    · refine wp_iconst (v := 0) rfl rfl ?_
      exact wp_zret rfl rfl (by first | rfl | exact nb2 _ | assumption) (⟨by first | rfl | grind [b2], rfl⟩)
    · refine wp_iload_n rfl rfl ?_
      refine wp_bipush (v := 10) rfl rfl ?_
      refine wp_isub rfl ?_
      refine wp_aload_n rfl rfl ?_
      refine q_geti rfl rfl (by first | rfl | assumption) rfl ?_
      refine wp_icmp_ge 15 rfl rfl (fun h12 => ?_) (fun h12 => ?_)
      · refine wp_iconst (v := 0) rfl rfl ?_
        exact wp_zret rfl rfl (by first | rfl | exact nb2 _ | assumption) (⟨by first | rfl | grind [b2], rfl⟩)
      · refine wp_iconst (v := 1) rfl rfl ?_
        refine wp_goto 16 rfl rfl ?_
        exact wp_zret rfl rfl (by first | rfl | exact nb2 _ | assumption) (⟨by first | rfl | grind [b2], rfl⟩)
theorem c_X0_lookAt (G : Gl) (d a : Nat) (v : Int32) (I : IF) (L : LF) (R : RF) (ha : shp NN a = some (.inr 0)) : MD G d Y_X0_lookAt [.ref a, .int v] (I, L, R) (some (.int (b2 (¬ I a 6 = v)))) (if I a 6 = v then I else uI (uI I a 6 v) a 7 (I a 7 + 1), L, R) := by
  refine MT.intro m_X0_lookAt rfl (Nat.le_of_ble_eq_true rfl) ?_
  show WQ G d Y_X0_lookAt _ 0 [(0, .ref a), (1, .int v)] [] (I, L, R)
  refine wp_aload_n rfl rfl ?_
  refine q_geti rfl rfl (by first | rfl | assumption) rfl ?_
  refine wp_iload_n rfl rfl ?_
  refine wp_icmp_ne 6 rfl rfl (fun h3 => ?_) (fun h3 => ?_)
  · refine wp_aload_n rfl rfl ?_
    refine wp_iload_n rfl rfl ?_
    refine q_puti rfl rfl (by first | rfl | assumption) (Or.inl rfl) rfl ?_
    refine wp_aload_n rfl rfl ?_
    refine wp_dup rfl rfl ?_
    refine q_geti rfl rfl (by first | rfl | assumption) rfl ?_
    refine wp_iconst (v := 1) rfl rfl ?_
    refine wp_iadd rfl ?_
    refine q_puti rfl rfl (by first | rfl | assumption) (Or.inl rfl) rfl ?_
    refine wp_iconst (v := 1) rfl rfl ?_
    exact wp_zret rfl rfl (by first | rfl | exact nb2 _ | assumption) (⟨by simp_all [b2], by simp_all [uI]⟩)
  · refine wp_iconst (v := 0) rfl rfl ?_
    exact wp_zret rfl rfl (by first | rfl | exact nb2 _ | assumption) (⟨by simp_all [b2], by simp_all [uI]⟩)
def aFact (I : IF) (a : Nat) (x : Int32) : Int32 := if x = 0 then I a 2 else if x = 1 then I a 3 else if x = 2 then I a 4 else if x = 3 then I a 5 else if x = 4 then I a 6 else if x = 5 then I a 7 else -2
theorem c_X0_fact (G : Gl) (d a : Nat) (x : Int32) (I : IF) (L : LF) (R : RF) (ha : shp NN a = some (.inr 0)) : MD G d Y_X0_fact [.ref a, .int x] (I, L, R) (some (.int (aFact I a x))) (I, L, R) := by
  refine MT.intro m_X0_fact rfl (Nat.le_of_ble_eq_true rfl) ?_
  show WQ G d Y_X0_fact _ 0 [(0, .ref a), (1, .int x)] [] (I, L, R)
  refine wp_iload_n rfl rfl ?_
  by_cases e1_0 : x = 0
  · subst e1_0
    refine wp_tsIn 2 rfl (by decide) (by decide) rfl rfl ?_
    refine wp_aload_n rfl rfl ?_
    refine q_geti rfl rfl (by first | rfl | assumption) rfl ?_
    exact wp_iret rfl rfl (⟨by simp_all [aFact], rfl⟩)
  by_cases e1_1 : x = 1
  · subst e1_1
    refine wp_tsIn 5 rfl (by decide) (by decide) rfl rfl ?_
    refine wp_aload_n rfl rfl ?_
    refine q_geti rfl rfl (by first | rfl | assumption) rfl ?_
    exact wp_iret rfl rfl (⟨by simp_all [aFact], rfl⟩)
  by_cases e1_2 : x = 2
  · subst e1_2
    refine wp_tsIn 8 rfl (by decide) (by decide) rfl rfl ?_
    refine wp_aload_n rfl rfl ?_
    refine q_geti rfl rfl (by first | rfl | assumption) rfl ?_
    exact wp_iret rfl rfl (⟨by simp_all [aFact], rfl⟩)
  by_cases e1_3 : x = 3
  · subst e1_3
    refine wp_tsIn 11 rfl (by decide) (by decide) rfl rfl ?_
    refine wp_aload_n rfl rfl ?_
    refine q_geti rfl rfl (by first | rfl | assumption) rfl ?_
    exact wp_iret rfl rfl (⟨by simp_all [aFact], rfl⟩)
  by_cases e1_4 : x = 4
  · subst e1_4
    refine wp_tsIn 14 rfl (by decide) (by decide) rfl rfl ?_
    refine wp_aload_n rfl rfl ?_
    refine q_geti rfl rfl (by first | rfl | assumption) rfl ?_
    exact wp_iret rfl rfl (⟨by simp_all [aFact], rfl⟩)
  by_cases e1_5 : x = 5
  · subst e1_5
    refine wp_tsIn 17 rfl (by decide) (by decide) rfl rfl ?_
    refine wp_aload_n rfl rfl ?_
    refine q_geti rfl rfl (by first | rfl | assumption) rfl ?_
    exact wp_iret rfl rfl (⟨by simp_all [aFact], rfl⟩)
  refine wp_tsOut 20 rfl (by have a0 := lv_neT e1_0 (a := 0) rfl; have a1 := lv_neT e1_1 (a := 1) rfl; have a2 := lv_neT e1_2 (a := 2) rfl; have a3 := lv_neT e1_3 (a := 3) rfl; have a4 := lv_neT e1_4 (a := 4) rfl; have a5 := lv_neT e1_5 (a := 5) rfl; omega) rfl ?_
  refine wp_bipush (v := (-2)) rfl rfl ?_
  exact wp_iret rfl rfl (⟨by simp_all [aFact], rfl⟩)
def mFact (I : IF) (a : Nat) (x : Int32) : Int32 := if x = 0 then I a 0 else if x = 1 then I a 1 else if x = 2 then I a 2 else if x = 3 then I a 3 else if x = 4 then b2 (¬ I a 4 = 0) else if x = 5 then I a 5 else if x = 6 then b2 (¬ I a 9 = 0) else if x = 7 then b2 (¬ I a 10 = 0) else -2
theorem c_X4_fact (G : Gl) (d a : Nat) (x : Int32) (I : IF) (L : LF) (R : RF) (ha : shp NN a = some (.inr 4)) : MD G (d + 1) Y_X4_fact [.ref a, .int x] (I, L, R) (some (.int (mFact I a x))) (I, L, R) := by
  refine MT.intro m_X4_fact rfl (Nat.le_of_ble_eq_true rfl) ?_
  show WQ G (d + 1) Y_X4_fact _ 0 [(0, .ref a), (1, .int x)] [] (I, L, R)
  refine wp_iload_n rfl rfl ?_
  by_cases e1_0 : x = 0
  · subst e1_0
    refine wp_tsIn 2 rfl (by decide) (by decide) rfl rfl ?_
    refine wp_aload_n rfl rfl ?_
    refine q_geti rfl rfl (by first | rfl | assumption) rfl ?_
    exact wp_iret rfl rfl (⟨by simp_all [mFact], rfl⟩)
  by_cases e1_1 : x = 1
  · subst e1_1
    refine wp_tsIn 5 rfl (by decide) (by decide) rfl rfl ?_
    refine wp_aload_n rfl rfl ?_
    refine q_geti rfl rfl (by first | rfl | assumption) rfl ?_
    exact wp_iret rfl rfl (⟨by simp_all [mFact], rfl⟩)
  by_cases e1_2 : x = 2
  · subst e1_2
    refine wp_tsIn 8 rfl (by decide) (by decide) rfl rfl ?_
    refine wp_aload_n rfl rfl ?_
    refine q_geti rfl rfl (by first | rfl | assumption) rfl ?_
    exact wp_iret rfl rfl (⟨by simp_all [mFact], rfl⟩)
  by_cases e1_3 : x = 3
  · subst e1_3
    refine wp_tsIn 11 rfl (by decide) (by decide) rfl rfl ?_
    refine wp_aload_n rfl rfl ?_
    refine q_geti rfl rfl (by first | rfl | assumption) rfl ?_
    exact wp_iret rfl rfl (⟨by simp_all [mFact], rfl⟩)
  by_cases e1_4 : x = 4
  · subst e1_4
    refine wp_tsIn 14 rfl (by decide) (by decide) rfl rfl ?_
    refine wp_aload_n rfl rfl ?_
    refine q_geti rfl rfl (by first | rfl | assumption) rfl ?_
    refine cN1 rfl ln_4_44 s_X10_asNumber m_X10_asNumber (c_X10_asNumber G _ _ _) rfl (Nat.le_of_ble_eq_true rfl) ?_
    exact wp_iret rfl rfl (⟨by simp_all [mFact], rfl⟩)
  by_cases e1_5 : x = 5
  · subst e1_5
    refine wp_tsIn 18 rfl (by decide) (by decide) rfl rfl ?_
    refine wp_aload_n rfl rfl ?_
    refine q_geti rfl rfl (by first | rfl | assumption) rfl ?_
    exact wp_iret rfl rfl (⟨by simp_all [mFact], rfl⟩)
  by_cases e1_6 : x = 6
  · subst e1_6
    refine wp_tsIn 21 rfl (by decide) (by decide) rfl rfl ?_
    refine wp_aload_n rfl rfl ?_
    refine q_geti rfl rfl (by first | rfl | assumption) rfl ?_
    refine cN1 rfl ln_4_44 s_X10_asNumber m_X10_asNumber (c_X10_asNumber G _ _ _) rfl (Nat.le_of_ble_eq_true rfl) ?_
    exact wp_iret rfl rfl (⟨by simp_all [mFact], rfl⟩)
  by_cases e1_7 : x = 7
  · subst e1_7
    refine wp_tsIn 25 rfl (by decide) (by decide) rfl rfl ?_
    refine wp_aload_n rfl rfl ?_
    refine q_geti rfl rfl (by first | rfl | assumption) rfl ?_
    refine cN1 rfl ln_4_44 s_X10_asNumber m_X10_asNumber (c_X10_asNumber G _ _ _) rfl (Nat.le_of_ble_eq_true rfl) ?_
    exact wp_iret rfl rfl (⟨by simp_all [mFact], rfl⟩)
  refine wp_tsOut 29 rfl (by have a0 := lv_neT e1_0 (a := 0) rfl; have a1 := lv_neT e1_1 (a := 1) rfl; have a2 := lv_neT e1_2 (a := 2) rfl; have a3 := lv_neT e1_3 (a := 3) rfl; have a4 := lv_neT e1_4 (a := 4) rfl; have a5 := lv_neT e1_5 (a := 5) rfl; have a6 := lv_neT e1_6 (a := 6) rfl; have a7 := lv_neT e1_7 (a := 7) rfl; omega) rfl ?_
  refine wp_bipush (v := (-2)) rfl rfl ?_
  exact wp_iret rfl rfl (⟨by simp_all [mFact], rfl⟩)
theorem c_X4_stand (G : Gl) (d a : Nat) (x y p c : Int32) (I : IF) (L : LF) (R : RF) (ha : shp NN a = some (.inr 4)) : MD G d Y_X4_stand [.ref a, .int x, .int y, .int p, .int c] (I, L, R) none (uI (uI (uI (uI I a 0 x) a 1 y) a 2 p) a 5 c, L, R) := by
  refine MT.intro m_X4_stand rfl (Nat.le_of_ble_eq_true rfl) ?_
  show WQ G d Y_X4_stand _ 0 [(0, .ref a), (1, .int x), (2, .int y), (3, .int p), (4, .int c)] [] (I, L, R)
  refine wp_aload_n rfl rfl ?_
  refine wp_iload_n rfl rfl ?_
  refine q_puti rfl rfl (by first | rfl | assumption) (Or.inl rfl) rfl ?_
  refine wp_aload_n rfl rfl ?_
  refine wp_iload_n rfl rfl ?_
  refine q_puti rfl rfl (by first | rfl | assumption) (Or.inl rfl) rfl ?_
  refine wp_aload_n rfl rfl ?_
  refine wp_iload_n rfl rfl ?_
  refine q_puti rfl rfl (by first | rfl | assumption) (Or.inl rfl) rfl ?_
  refine wp_aload_n rfl rfl ?_
  refine wp_iload rfl rfl ?_
  refine q_puti rfl rfl (by first | rfl | assumption) (Or.inl rfl) rfl ?_
  exact wp_vret rfl rfl (⟨rfl, rfl⟩)
def chNow (I : IF) (a : Nat) : Int32 := if I a 9 = 0 then I a 5 else I a 6
theorem c_X4_channelNow (G : Gl) (d a : Nat) (I : IF) (L : LF) (R : RF) (ha : shp NN a = some (.inr 4)) : MD G d Y_X4_channelNow [.ref a] (I, L, R) (some (.int (chNow I a))) (I, L, R) := by
  refine MT.intro m_X4_channelNow rfl (Nat.le_of_ble_eq_true rfl) ?_
  show WQ G d Y_X4_channelNow _ 0 [(0, .ref a)] [] (I, L, R)
  refine wp_aload_n rfl rfl ?_
  refine q_geti rfl rfl (by first | rfl | assumption) rfl ?_
  refine wp_if_eq 6 rfl rfl (fun h2 => ?_) (fun h2 => ?_)
  · refine wp_aload_n rfl rfl ?_
    refine q_geti rfl rfl (by first | rfl | assumption) rfl ?_
    exact wp_iret rfl rfl (⟨by simp_all [chNow], rfl⟩)
  · refine wp_aload_n rfl rfl ?_
    refine q_geti rfl rfl (by first | rfl | assumption) rfl ?_
    refine wp_goto 8 rfl rfl ?_
    exact wp_iret rfl rfl (⟨by simp_all [chNow], rfl⟩)
/-- the square's sum below the line -/
def sqD (x y a b : Int32) : Int32 := 10 + (x - a) * (x - a) + (y - b) * (y - b)
def strg (p x y a b : Int32) : Int32 := 1000 * p / sqD x y a b
theorem c_X4_strengthAt (G : Gl) (d m a : Nat) (I : IF) (L : LF) (R : RF) (hm : shp NN m = some (.inr 4)) (ha : shp NN a = some (.inr 0)) (hne : ¬ sqD (I m 0) (I m 1) (I a 0) (I a 1) = 0) : MD G d Y_X4_strengthAt [.ref m, .ref a] (I, L, R) (some (.int (strg (I m 2) (I m 0) (I m 1) (I a 0) (I a 1)))) (I, L, R) := by
  refine MT.intro m_X4_strengthAt rfl (Nat.le_of_ble_eq_true rfl) ?_
  show WQ G d Y_X4_strengthAt _ 0 [(0, .ref m), (1, .ref a)] [] (I, L, R)
  refine wp_aload_n rfl rfl ?_
  refine q_geti rfl rfl (by first | rfl | assumption) rfl ?_
  refine wp_aload_n rfl rfl ?_
  refine q_geti rfl rfl (by first | rfl | assumption) rfl ?_
  refine wp_isub rfl ?_
  refine wp_istore_n (lv' := [(2, _), (0, _), (1, _)]) rfl rfl (by decide) rfl ?_
  refine wp_aload_n rfl rfl ?_
  refine q_geti rfl rfl (by first | rfl | assumption) rfl ?_
  refine wp_aload_n rfl rfl ?_
  refine q_geti rfl rfl (by first | rfl | assumption) rfl ?_
  refine wp_isub rfl ?_
  refine wp_istore_n (lv' := [(3, _), (2, _), (0, _), (1, _)]) rfl rfl (by decide) rfl ?_
  refine wp_sipush (v := 1000) rfl rfl ?_
  refine wp_aload_n rfl rfl ?_
  refine q_geti rfl rfl (by first | rfl | assumption) rfl ?_
  refine wp_imul rfl ?_
  refine wp_bipush (v := 10) rfl rfl ?_
  refine wp_iload_n rfl rfl ?_
  refine wp_iload_n rfl rfl ?_
  refine wp_imul rfl ?_
  refine wp_iadd rfl ?_
  refine wp_iload_n rfl rfl ?_
  refine wp_iload_n rfl rfl ?_
  refine wp_imul rfl ?_
  refine wp_iadd rfl ?_
  refine wp_idiv rfl hne ?_
  exact wp_iret rfl rfl (⟨by first | rfl | grind [b2], rfl⟩)
theorem c_X6_isEmpty (G : Gl) (d a : Nat) (I : IF) (L : LF) (R : RF) (ha : shp NN a = some (.inr 6)) : MD G d Y_X6_isEmpty [.ref a] (I, L, R) (some (.int (b2 (I a 2 = -1)))) (I, L, R) := by
  refine MT.intro m_X6_isEmpty rfl (Nat.le_of_ble_eq_true rfl) ?_
  show WQ G d Y_X6_isEmpty _ 0 [(0, .ref a)] [] (I, L, R)
  refine wp_aload_n rfl rfl ?_
  refine q_geti rfl rfl (by first | rfl | assumption) rfl ?_
  refine wp_iconst (v := (-1)) rfl rfl ?_
  refine wp_icmp_ne 6 rfl rfl (fun h3 => ?_) (fun h3 => ?_)
  · refine wp_iconst (v := 0) rfl rfl ?_
    exact wp_zret rfl rfl (by first | rfl | exact nb2 _ | assumption) (⟨by first | rfl | grind [b2], rfl⟩)
  · refine wp_iconst (v := 1) rfl rfl ?_
    refine wp_goto 7 rfl rfl ?_
    exact wp_zret rfl rfl (by first | rfl | exact nb2 _ | assumption) (⟨by first | rfl | grind [b2], rfl⟩)
theorem c_X6_reaches (G : Gl) (d a : Nat) (p n : Int32) (I : IF) (L : LF) (R : RF) (ha : shp NN a = some (.inr 6)) : MD G d Y_X6_reaches [.ref a, .int p, .int n] (I, L, R) (some (.int (b2 (0 ≤ p ∧ 0 ≤ n ∧ p ≤ I a 2 ∧ n ≤ I a 2 - p)))) (I, L, R) := by
  refine MT.intro m_X6_reaches rfl (Nat.le_of_ble_eq_true rfl) ?_
  show WQ G d Y_X6_reaches _ 0 [(0, .ref a), (1, .int p), (2, .int n)] [] (I, L, R)
  refine wp_iload_n rfl rfl ?_
  refine wp_if_lt 16 rfl rfl (fun h1 => ?_) (fun h1 => ?_)
  · refine wp_iconst (v := 0) rfl rfl ?_
    exact wp_zret rfl rfl (by first | rfl | exact nb2 _ | assumption) (⟨by first | rfl | grind [b2], rfl⟩)
  · refine wp_iload_n rfl rfl ?_
    refine wp_if_lt 16 rfl rfl (fun h3 => ?_) (fun h3 => ?_)
    · refine wp_iconst (v := 0) rfl rfl ?_
      exact wp_zret rfl rfl (by first | rfl | exact nb2 _ | assumption) (⟨by first | rfl | grind [b2], rfl⟩)
    · refine wp_iload_n rfl rfl ?_
      refine wp_aload_n rfl rfl ?_
      refine q_geti rfl rfl (by first | rfl | assumption) rfl ?_
      refine wp_icmp_gt 16 rfl rfl (fun h7 => ?_) (fun h7 => ?_)
      · refine wp_iconst (v := 0) rfl rfl ?_
        exact wp_zret rfl rfl (by first | rfl | exact nb2 _ | assumption) (⟨by first | rfl | grind [b2], rfl⟩)
      · refine wp_iload_n rfl rfl ?_
        refine wp_aload_n rfl rfl ?_
        refine q_geti rfl rfl (by first | rfl | assumption) rfl ?_
        refine wp_iload_n rfl rfl ?_
        refine wp_isub rfl ?_
        refine wp_icmp_gt 16 rfl rfl (fun h13 => ?_) (fun h13 => ?_)
        · refine wp_iconst (v := 0) rfl rfl ?_
          exact wp_zret rfl rfl (by first | rfl | exact nb2 _ | assumption) (⟨by first | rfl | grind [b2], rfl⟩)
        · refine wp_iconst (v := 1) rfl rfl ?_
          refine wp_goto 17 rfl rfl ?_
          exact wp_zret rfl rfl (by first | rfl | exact nb2 _ | assumption) (⟨by first | rfl | grind [b2], rfl⟩)
def cutW (x : Int32) (v : Int64) : Int64 := if x = 0 then v.toInt32.toInt8.toInt32.toInt64 else if x = 1 then v.toInt32.toInt16.toInt32.toInt64 else if x = 2 then v.toInt32.toInt64 else v
theorem c_X6_cut (G : Gl) (d a : Nat) (v : Int64) (I : IF) (L : LF) (R : RF) (ha : shp NN a = some (.inr 6)) : MD G d Y_X6_cut [.ref a, .long v] (I, L, R) (some (.long (cutW (I a 1) v))) (I, L, R) := by
  refine MT.intro m_X6_cut rfl (Nat.le_of_ble_eq_true rfl) ?_
  show WQ G d Y_X6_cut _ 0 [(0, .ref a), (1, .long v)] [] (I, L, R)
  refine wp_aload_n rfl rfl ?_
  refine q_geti rfl rfl (by first | rfl | assumption) rfl ?_
  generalize hx : I a 1 = x
  by_cases e2_0 : x = 0
  · subst e2_0
    refine wp_tsIn 3 rfl (by decide) (by decide) rfl rfl ?_
    refine wp_lload_n rfl rfl ?_
    refine wp_l2i rfl ?_
    refine wp_i2b rfl ?_
    refine wp_i2l rfl ?_
    exact wp_lret rfl rfl (⟨by simp_all [cutW], rfl⟩)
  by_cases e2_1 : x = 1
  · subst e2_1
    refine wp_tsIn 8 rfl (by decide) (by decide) rfl rfl ?_
    refine wp_lload_n rfl rfl ?_
    refine wp_l2i rfl ?_
    refine wp_i2s rfl ?_
    refine wp_i2l rfl ?_
    exact wp_lret rfl rfl (⟨by simp_all [cutW], rfl⟩)
  by_cases e2_2 : x = 2
  · subst e2_2
    refine wp_tsIn 13 rfl (by decide) (by decide) rfl rfl ?_
    refine wp_lload_n rfl rfl ?_
    refine wp_l2i rfl ?_
    refine wp_i2l rfl ?_
    exact wp_lret rfl rfl (⟨by simp_all [cutW], rfl⟩)
  refine wp_tsOut 17 rfl (by have a0 := lv_neT e2_0 (a := 0) rfl; have a1 := lv_neT e2_1 (a := 1) rfl; have a2 := lv_neT e2_2 (a := 2) rfl; omega) rfl ?_
  refine wp_lload_n rfl rfl ?_
  exact wp_lret rfl rfl (⟨by simp_all [cutW], rfl⟩)
theorem c_X7_hasRoomFor (G : Gl) (d : Nat) (n : Int32) (I : IF) (L : LF) (b : Bool) : MD G d Y_X7_hasRoomFor [.ref 44, .int n] (I, L, RR b) (some (.int (b2 (I 44 1 + 4 * n ≤ 300)))) (I, L, RR b) := by
  refine MT.intro m_X7_hasRoomFor rfl (Nat.le_of_ble_eq_true rfl) ?_
  show WQ G d Y_X7_hasRoomFor _ 0 [(0, .ref 44), (1, .int n)] [] (I, L, RR b)
  refine wp_aload_n rfl rfl ?_
  refine q_geti rfl rfl (by first | rfl | assumption) rfl ?_
  refine wp_iconst (v := 4) rfl rfl ?_
  refine wp_iload_n rfl rfl ?_
  refine wp_imul rfl ?_
  refine wp_iadd rfl ?_
  refine wp_aload_n rfl rfl ?_
  refine q_getr rfl rfl (by first | rfl | assumption) rfl rfl ?_
  refine wp_alen rfl rfl (by decide) rfl ?_
  refine wp_icmp_gt 12 rfl rfl (fun h9 => ?_) (fun h9 => ?_)
  · refine wp_iconst (v := 0) rfl rfl ?_
    exact wp_zret rfl rfl (by first | rfl | exact nb2 _ | assumption) (⟨by first | rfl | grind [b2], rfl⟩)
  · refine wp_iconst (v := 1) rfl rfl ?_
    refine wp_goto 13 rfl rfl ?_
    exact wp_zret rfl rfl (by first | rfl | exact nb2 _ | assumption) (⟨by first | rfl | grind [b2], rfl⟩)
