/-! bits (the family bt out of the given rows on bits), and count -/
def bt (x : Int32) (i : Nat) : Bool := x.toBitVec.getLsbD i
theorem b_ext {x y : Int32} (h : ∀ i, i < 32 → bt x i = bt y i) : x = y := Int32.toBitVec_inj.mp (BitVec.eq_of_getLsbD_eq (fun i hi => h i hi))
theorem b_or (x y : Int32) (i : Nat) : bt (x ||| y) i = (bt x i || bt y i) := by unfold bt; rw [Int32.toBitVec_or, BitVec.getLsbD_or]
theorem b_and (x y : Int32) (i : Nat) : bt (x &&& y) i = (bt x i && bt y i) := by unfold bt; rw [Int32.toBitVec_and, BitVec.getLsbD_and]
theorem b_xor (x y : Int32) (i : Nat) : bt (x ^^^ y) i = (bt x i ^^ bt y i) := by unfold bt; rw [Int32.toBitVec_xor, BitVec.getLsbD_xor]
theorem b_big {x : Int32} {i : Nat} (h : 32 ≤ i) : bt x i = false := BitVec.getLsbD_of_ge _ _ h
theorem b_255 (i : Nat) : bt 255 i = decide (i < 8) := by
  rcases Nat.lt_or_ge i 32 with h | h
  · exact (by decide +kernel : ∀ i, i < 32 → bt 255 i = decide (i < 8)) i h
  · rw [b_big h, decide_eq_false (by omega)]
theorem b_65535 (i : Nat) : bt 65535 i = decide (i < 16) := by
  rcases Nat.lt_or_ge i 32 with h | h
  · exact (by decide +kernel : ∀ i, i < 32 → bt 65535 i = decide (i < 16)) i h
  · rw [b_big h, decide_eq_false (by omega)]
theorem b_m1 : ∀ i, i < 32 → bt (-1) i = true := by decide +kernel
theorem b_0 (i : Nat) : bt 0 i = false := BitVec.getLsbD_zero
theorem s_l : ∀ n, n < 32 → ((nI n &&& 31).toBitVec.smod 32).toNat = n := by decide +kernel
theorem s_u : ∀ n, n < 32 → (((nI n).toUInt32 &&& Int32.toUInt32 31).toBitVec % 32).toNat = n := by decide +kernel
theorem b_shl (n : Nat) (hn : n < 32) (x : Int32) {i : Nat} (hi : i < 32) : bt (x <<< (nI n &&& 31)) i = (decide (n ≤ i) && bt x (i - n)) := by
  unfold bt
  rw [Int32.toBitVec_shiftLeft]
  show (x.toBitVec <<< ((nI n &&& 31).toBitVec.smod 32).toNat).getLsbD i = _
  rw [s_l n hn, BitVec.getLsbD_shiftLeft]
  rcases Nat.lt_or_ge i n with h | h
  · simp [h, Nat.not_le.mpr h]
  · simp [hi, h, Nat.not_lt.mpr h]
theorem b_ushr (n : Nat) (hn : n < 32) (x : Int32) (i : Nat) : bt ((x.toUInt32 >>> ((nI n).toUInt32 &&& Int32.toUInt32 31)).toInt32) i = bt x (n + i) := by
  show (x.toUInt32 >>> ((nI n).toUInt32 &&& Int32.toUInt32 31)).toBitVec.getLsbD i = x.toUInt32.toBitVec.getLsbD (n + i)
  rw [UInt32.toBitVec_shiftRight]
  show (x.toUInt32.toBitVec >>> (((nI n).toUInt32 &&& Int32.toUInt32 31).toBitVec % 32).toNat).getLsbD i = _
  rw [s_u n hn, BitVec.getLsbD_ushiftRight]
theorem b_sshr (n : Nat) (hn : n < 32) (x : Int32) {i : Nat} (hi : i < 32) : bt (x >>> (nI n &&& 31)) i = if n + i < 32 then bt x (n + i) else bt x 31 := by
  unfold bt
  rw [Int32.toBitVec_shiftRight]
  show (x.toBitVec.sshiftRight ((nI n &&& 31).toBitVec.smod 32).toNat).getLsbD i = _
  rw [s_l n hn, BitVec.getLsbD_sshiftRight, BitVec.msb_eq_getLsbD_last]
  simp [hi]
theorem b_1 : ∀ i, i < 32 → bt 1 i = decide (i = 0) := by decide +kernel
/-- one bit, as a number -/
theorem bit1 (x : Int32) {a : Nat} (ha : a < 32) : (x >>> (nI a &&& 31)) &&& 1 = b2 (bt x a = true) := by
  apply b_ext
  intro i hi
  rw [b_and, b_1 i hi]
  by_cases e : i = 0
  · subst e
    rw [b_sshr a ha x (by omega), if_pos (by omega)]
    by_cases h : bt x a = true
    · rw [b2_t h, b_1 0 (by omega)]; simp [h]
    · rw [b2_f h, b_0]; simp at h; simp [h]
  · by_cases h : bt x a = true
    · rw [b2_t h, b_1 i hi]; simp [e]
    · rw [b2_f h, b_0]; simp [e]
def snS (I : IF) : Nat → Int32
  | 0 => 0
  | i + 1 => snS I i + snwF I i
theorem c_X1_snowInAll (G : Gl) (d : Nat) {nm na nr : Nat} (I : IF) (L : LF) (b : Bool) (h : IV nm na nr I L) : MD G (d + 6) Y_X1_snowInAll [.ref 1] (I, L, RR b) (some (.int (snS I nr))) (I, L, RR b) := by
  have hnr : nr ≤ 16 := h.1.2.2.2.2
  have h4 := h.1.2.2.1
  have hloop : ∀ (n i : Nat), i + n = nr → WQ G (d + 6) Y_X1_snowInAll (fun r' w'' => r' = some (.int (snS I nr)) ∧ w'' = (I, L, RR b)) 4 [(0, .ref 1), (1, .int (snS I i)), (2, .int (nI i))] [] (I, L, RR b) := by
    intro n
    induction n with
    | zero =>
      intro i hi
      have hie : i = nr := by omega
      subst hie
      have hge : I 1 4 ≤ nI i := by rw [h4]; exact nI_le (Nat.le_refl _) (by omega)
      refine wp_iload_n rfl rfl ?_
      refine wp_aload_n rfl rfl ?_
      refine q_geti rfl rfl (by first | rfl | assumption) rfl ?_
      refine wp_icmp_ge 19 rfl rfl (fun _ => ?_) (fun h7 => absurd hge h7)
      refine wp_iload_n rfl rfl ?_
      exact wp_iret rfl rfl (⟨rfl, rfl⟩)
    | succ n ih =>
      intro i hi
      have hlt : ¬ I 1 4 ≤ nI i := by rw [h4]; exact nI_ge (by omega) (by omega)
      refine wp_iload_n rfl rfl ?_
      refine wp_aload_n rfl rfl ?_
      refine q_geti rfl rfl (by first | rfl | assumption) rfl ?_
      refine wp_icmp_ge 19 rfl rfl (fun h7 => absurd h7 hlt) (fun _ => ?_)
      refine wp_iload_n rfl rfl ?_
      refine wp_aload_n rfl rfl ?_
      refine wp_aload_n rfl rfl ?_
      refine q_getr rfl rfl (by first | rfl | assumption) rfl rfl ?_
      refine wp_iload_n rfl rfl ?_
      refine q_area rfl rfl (by omega) ?_
      refine cV1 rfl l_1_97 i_X1_snowOf m_X1_snowOf (by first | rfl | assumption) (by decide) (c_X1_snowOf G _ _ _ _ h (show i < 16 by omega)) rfl (Nat.le_of_ble_eq_true rfl) ?_
      refine wp_iadd rfl ?_
      refine wp_istore_n (lv' := [(1, _), (0, _), (2, _)]) rfl rfl (by decide) rfl ?_
      refine wp_iinc (v := nI (i + 1)) (lv' := [(2, _), (1, _), (0, _)]) rfl rfl (nI_1 i) (by decide) rfl ?_
      refine wp_goto 4 rfl rfl ?_
      refine wp_loc (lv' := [(0, _), (1, _), (2, _)]) [2, 1, 0] rfl ?_
      exact ih (i + 1) (by omega)
  refine MT.intro m_X1_snowInAll rfl (Nat.le_of_ble_eq_true rfl) ?_
  show WQ G (d + 6) Y_X1_snowInAll _ 0 [(0, .ref 1)] [] (I, L, RR b)
  refine wp_iconst (v := 0) rfl rfl ?_
  refine wp_istore_n (lv' := [(1, _), (0, _)]) rfl rfl (by decide) rfl ?_
  refine wp_iconst (v := 0) rfl rfl ?_
  refine wp_istore_n (lv' := [(2, _), (1, _), (0, _)]) rfl rfl (by decide) rfl ?_
  refine wp_loc (lv' := [(0, _), (1, _), (2, _)]) [2, 1, 0] rfl ?_
  exact hloop nr 0 (by omega)
def rwS (I : IF) : Nat → Int32
  | 0 => 0
  | i + 1 => rwS I i + b2 (¬ I (57 + 2 * i) 2 = -1)
theorem c_X10_rowsThere (G : Gl) (d : Nat) (I : IF) (L : LF) (b : Bool) : MD G (d + 1) Y_X10_rowsThere [.ref 0] (I, L, RR b) (some (.int (rwS I 4))) (I, L, RR b) := by
  have hloop : ∀ (n i : Nat), i + n = 4 → WQ G (d + 1) Y_X10_rowsThere (fun r' w'' => r' = some (.int (rwS I 4)) ∧ w'' = (I, L, RR b)) 4 [(0, .ref 0), (1, .int (rwS I i)), (2, .int (nI i))] [] (I, L, RR b) := by
    intro n
    induction n with
    | zero =>
      intro i hi
      have hie : i = 4 := by omega
      subst hie
      refine wp_iload_n rfl rfl ?_
      refine wp_aload_n rfl rfl ?_
      refine q_getr rfl rfl (by first | rfl | assumption) rfl rfl ?_
      refine wp_alen rfl rfl (by decide) rfl ?_
      refine wp_icmp_ge 24 rfl rfl (fun _ => ?_) (fun h8 => absurd (show Int32.ofNat 4 ≤ nI 4 by decide) h8)
      refine wp_iload_n rfl rfl ?_
      exact wp_iret rfl rfl (⟨rfl, rfl⟩)
    | succ n ih =>
      intro i hi
      have hlt : ¬ Int32.ofNat 4 ≤ nI i := nI_ge (a := i) (b := 4) (by omega) (by omega)
      have ha := sh_row i (by omega)
      have hst : rwS I (i + 1) = rwS I i + b2 (¬ I (57 + 2 * i) 2 = -1) := rfl
      refine wp_iload_n rfl rfl ?_
      refine wp_aload_n rfl rfl ?_
      refine q_getr rfl rfl (by first | rfl | assumption) rfl rfl ?_
      refine wp_alen rfl rfl (by decide) rfl ?_
      refine wp_icmp_ge 24 rfl rfl (fun h8 => absurd h8 hlt) (fun _ => ?_)
      refine wp_iload_n rfl rfl ?_
      refine wp_aload_n rfl rfl ?_
      refine q_getr rfl rfl (by first | rfl | assumption) rfl rfl ?_
      refine wp_iload_n rfl rfl ?_
      refine q_rowo rfl rfl (by omega) ?_
      refine cV1 rfl l_10_152 i_X6_isEmpty m_X6_isEmpty (by first | rfl | assumption) (by decide) (c_X6_isEmpty G _ _ _ _ _ ha) rfl (Nat.le_of_ble_eq_true rfl) ?_
      refine wp_if_ne 18 rfl rfl (fun h15 => ?_) (fun h15 => ?_)
      · refine wp_iconst (v := 0) rfl rfl ?_
        refine cS1 rfl l_10_234 s_X10_asNumber m_X10_asNumber (c_X10_asNumber G _ _ _) rfl (Nat.le_of_ble_eq_true rfl) ?_
        refine wp_iadd rfl ?_
        refine wp_istore_n (lv' := [(1, _), (0, _), (2, _)]) rfl rfl (by decide) rfl ?_
        refine wp_iinc (v := nI (i + 1)) (lv' := [(2, _), (1, _), (0, _)]) rfl rfl (nI_1 i) (by decide) rfl ?_
        refine wp_goto 4 rfl rfl ?_
        refine wp_loc (lv' := [(0, _), (1, _), (2, _)]) [2, 1, 0] rfl ?_
        rw [show rwS I i + _ = rwS I (i + 1) by (rw [hst]; first | (rw [b2_t (show ¬ (1 : Int32) = 0 by decide), b2_t (b2_eq.mp h15)]) | (rw [b2_f (show ¬ ¬ (0 : Int32) = 0 by decide), b2_f (show ¬ ¬ I (57 + 2 * i) 2 = -1 by have := b2_ne.mp h15; grind)]))]
        exact ih (i + 1) (by omega)
      · refine wp_iconst (v := 1) rfl rfl ?_
        refine wp_goto 19 rfl rfl ?_
        refine cS1 rfl l_10_234 s_X10_asNumber m_X10_asNumber (c_X10_asNumber G _ _ _) rfl (Nat.le_of_ble_eq_true rfl) ?_
        refine wp_iadd rfl ?_
        refine wp_istore_n (lv' := [(1, _), (0, _), (2, _)]) rfl rfl (by decide) rfl ?_
        refine wp_iinc (v := nI (i + 1)) (lv' := [(2, _), (1, _), (0, _)]) rfl rfl (nI_1 i) (by decide) rfl ?_
        refine wp_goto 4 rfl rfl ?_
        refine wp_loc (lv' := [(0, _), (1, _), (2, _)]) [2, 1, 0] rfl ?_
        rw [show rwS I i + _ = rwS I (i + 1) by (rw [hst]; first | (rw [b2_t (show ¬ (1 : Int32) = 0 by decide), b2_t (b2_eq.mp h15)]) | (rw [b2_f (show ¬ ¬ (0 : Int32) = 0 by decide), b2_f (show ¬ ¬ I (57 + 2 * i) 2 = -1 by have := b2_ne.mp h15; grind)]))]
        exact ih (i + 1) (by omega)
  refine MT.intro m_X10_rowsThere rfl (Nat.le_of_ble_eq_true rfl) ?_
  show WQ G (d + 1) Y_X10_rowsThere _ 0 [(0, .ref 0)] [] (I, L, RR b)
  refine wp_iconst (v := 0) rfl rfl ?_
  refine wp_istore_n (lv' := [(1, _), (0, _)]) rfl rfl (by decide) rfl ?_
  refine wp_iconst (v := 0) rfl rfl ?_
  refine wp_istore_n (lv' := [(2, _), (1, _), (0, _)]) rfl rfl (by decide) rfl ?_
  refine wp_loc (lv' := [(0, _), (1, _), (2, _)]) [2, 1, 0] rfl ?_
  exact hloop 4 0 (by omega)
def cntF (I : IF) (b : Bool) (nr : Nat) (x : Int32) : Int32 := if x = 0 then I 1 5 else if x = 1 then I 1 2 else if x = 2 then I 1 3 else if x = 3 then I 1 4 else if x = 4 then I 0 9 else if x = 5 then I (lawA b) 8 else if x = 6 then I 44 1 else if x = 7 then snS I nr else if x = 8 then rwS I 4 else if x = 9 then I 0 10 else if x = 10 then I 39 4 else -1
theorem c_X10_count (G : Gl) (d : Nat) {nm na nr : Nat} (x : Int32) (I : IF) (L : LF) (b : Bool) (h : IV nm na nr I L) : MD G (d + 7) Y_X10_count [.ref 0, .int x] (I, L, RR b) (some (.int (cntF I b nr x))) (I, L, RR b) := by
  have hsl := sh_law b
  refine MT.intro m_X10_count rfl (Nat.le_of_ble_eq_true rfl) ?_
  show WQ G (d + 7) Y_X10_count _ 0 [(0, .ref 0), (1, .int x)] [] (I, L, RR b)
  refine wp_iload_n rfl rfl ?_
  by_cases e1_0 : x = 0
  · subst e1_0
    refine wp_tsIn 2 rfl (by decide) (by decide) rfl rfl ?_
    refine wp_aload_n rfl rfl ?_
    refine q_getr rfl rfl (by first | rfl | assumption) rfl rfl ?_
    refine q_geti rfl rfl (by first | rfl | assumption) rfl ?_
    exact wp_iret rfl rfl (⟨by simp_all [cntF], rfl⟩)
  by_cases e1_1 : x = 1
  · subst e1_1
    refine wp_tsIn 6 rfl (by decide) (by decide) rfl rfl ?_
    refine wp_aload_n rfl rfl ?_
    refine q_getr rfl rfl (by first | rfl | assumption) rfl rfl ?_
    refine q_geti rfl rfl (by first | rfl | assumption) rfl ?_
    exact wp_iret rfl rfl (⟨by simp_all [cntF], rfl⟩)
  by_cases e1_2 : x = 2
  · subst e1_2
    refine wp_tsIn 10 rfl (by decide) (by decide) rfl rfl ?_
    refine wp_aload_n rfl rfl ?_
    refine q_getr rfl rfl (by first | rfl | assumption) rfl rfl ?_
    refine q_geti rfl rfl (by first | rfl | assumption) rfl ?_
    exact wp_iret rfl rfl (⟨by simp_all [cntF], rfl⟩)
  by_cases e1_3 : x = 3
  · subst e1_3
    refine wp_tsIn 14 rfl (by decide) (by decide) rfl rfl ?_
    refine wp_aload_n rfl rfl ?_
    refine q_getr rfl rfl (by first | rfl | assumption) rfl rfl ?_
    refine q_geti rfl rfl (by first | rfl | assumption) rfl ?_
    exact wp_iret rfl rfl (⟨by simp_all [cntF], rfl⟩)
  by_cases e1_4 : x = 4
  · subst e1_4
    refine wp_tsIn 18 rfl (by decide) (by decide) rfl rfl ?_
    refine wp_aload_n rfl rfl ?_
    refine q_geti rfl rfl (by first | rfl | assumption) rfl ?_
    exact wp_iret rfl rfl (⟨by simp_all [cntF], rfl⟩)
  by_cases e1_5 : x = 5
  · subst e1_5
    refine wp_tsIn 21 rfl (by decide) (by decide) rfl rfl ?_
    refine wp_aload_n rfl rfl ?_
    refine q_getr rfl rfl (by first | rfl | assumption) rfl rfl ?_
    refine q_geti rfl rfl (by first | rfl | assumption) rfl ?_
    exact wp_iret rfl rfl (⟨by simp_all [cntF], rfl⟩)
  by_cases e1_6 : x = 6
  · subst e1_6
    refine wp_tsIn 25 rfl (by decide) (by decide) rfl rfl ?_
    refine wp_aload_n rfl rfl ?_
    refine q_getr rfl rfl (by first | rfl | assumption) rfl rfl ?_
    refine q_geti rfl rfl (by first | rfl | assumption) rfl ?_
    exact wp_iret rfl rfl (⟨by simp_all [cntF], rfl⟩)
  by_cases e1_7 : x = 7
  · subst e1_7
    refine wp_tsIn 29 rfl (by decide) (by decide) rfl rfl ?_
    refine wp_aload_n rfl rfl ?_
    refine q_getr rfl rfl (by first | rfl | assumption) rfl rfl ?_
    refine cV1 rfl l_10_255 i_X1_snowInAll m_X1_snowInAll (by first | rfl | assumption) (by decide) (c_X1_snowInAll G _ _ _ _ h) rfl (Nat.le_of_ble_eq_true rfl) ?_
    exact wp_iret rfl rfl (⟨by simp_all [cntF], rfl⟩)
  by_cases e1_8 : x = 8
  · subst e1_8
    refine wp_tsIn 33 rfl (by decide) (by decide) rfl rfl ?_
    refine wp_aload_n rfl rfl ?_
    refine cV1 rfl l_10_259 i_X10_rowsThere m_X10_rowsThere (by first | rfl | assumption) (by decide) (c_X10_rowsThere G _ _ _ _) rfl (Nat.le_of_ble_eq_true rfl) ?_
    exact wp_iret rfl rfl (⟨by simp_all [cntF], rfl⟩)
  by_cases e1_9 : x = 9
  · subst e1_9
    refine wp_tsIn 36 rfl (by decide) (by decide) rfl rfl ?_
    refine wp_aload_n rfl rfl ?_
    refine q_geti rfl rfl (by first | rfl | assumption) rfl ?_
    exact wp_iret rfl rfl (⟨by simp_all [cntF], rfl⟩)
  by_cases e1_10 : x = 10
  · subst e1_10
    refine wp_tsIn 39 rfl (by decide) (by decide) rfl rfl ?_
    refine wp_aload_n rfl rfl ?_
    refine q_getr rfl rfl (by first | rfl | assumption) rfl rfl ?_
    refine q_geti rfl rfl (by first | rfl | assumption) rfl ?_
    exact wp_iret rfl rfl (⟨by simp_all [cntF], rfl⟩)
  refine wp_tsOut 43 rfl (by have a0 := lv_neT e1_0 (a := 0) rfl; have a1 := lv_neT e1_1 (a := 1) rfl; have a2 := lv_neT e1_2 (a := 2) rfl; have a3 := lv_neT e1_3 (a := 3) rfl; have a4 := lv_neT e1_4 (a := 4) rfl; have a5 := lv_neT e1_5 (a := 5) rfl; have a6 := lv_neT e1_6 (a := 6) rfl; have a7 := lv_neT e1_7 (a := 7) rfl; have a8 := lv_neT e1_8 (a := 8) rfl; have a9 := lv_neT e1_9 (a := 9) rfl; have a10 := lv_neT e1_10 (a := 10) rfl; omega) rfl ?_
  refine wp_iconst (v := (-1)) rfl rfl ?_
  exact wp_iret rfl rfl (⟨by simp_all [cntF], rfl⟩)
theorem c_X11_count (G : Gl) (d : Nat) {nm na nr : Nat} (x : Int32) (I : IF) (L : LF) (b : Bool) (h : IV nm na nr I L) (hlaw : I 72 12 = I (lawA b) 8) : MD G (d + 7) Y_X11_count [.ref 72, .int x] (I, L, RR b) (some (.int (cntF I b nr x))) (uI I 72 0 0, L, RR b) := by
  have hnr : nr ≤ 16 := h.1.2.2.2.2
  have h' := IV_thr h
  have ek : ∀ k, k ≠ 0 → uI I 72 0 0 72 k = I 72 k := fun k hk => uI_nk hk
  have e73 : ∀ k, uI I 72 0 0 73 k = I 73 k := fun k => uI_ne (by decide)
  have esn : ∀ a, a < nr → snwF (uI I 72 0 0) a = snwF I a := fun a ha => (hurtF_thr h ha).2.2
  generalize hJ : uI I 72 0 0 = J at *
  obtain ⟨a1, a2, -⟩ := id h
  obtain ⟨⟨t, t1, t2, t3⟩, -⟩ := h.2.2.2.2.2.2.2.2.2.1
  have l7 : ∀ (n i : Nat), i + n = nr → WQ G (d + 7) Y_X11_count (fun r' w'' => r' = some (.int (snS I nr)) ∧ w'' = (J, L, RR b)) 30 [(0, .ref 72), (1, .int 7), (2, .int (snS I i)), (3, .int (nI i))] [] (J, L, RR b) := by
    intro n
    induction n with
    | zero =>
      intro i hi
      have hie : i = nr := by omega
      subst hie
      have hge : J 72 7 ≤ nI i := by rw [ek 7 (by decide), a1.2.2.2.1]; exact nI_le (Nat.le_refl _) (by omega)
      refine wp_iload_n rfl rfl ?_
      refine wp_aload_n rfl rfl ?_
      refine q_geti rfl rfl (by first | rfl | assumption) rfl ?_
      refine wp_icmp_ge 42 rfl rfl (fun _ => ?_) (fun h33 => absurd hge h33)
      refine wp_iload_n rfl rfl ?_
      exact wp_iret rfl rfl (⟨rfl, rfl⟩)
    | succ n ih =>
      intro i hi
      have hlt : ¬ J 72 7 ≤ nI i := by rw [ek 7 (by decide), a1.2.2.2.1]; exact nI_ge (by omega) (by omega)
      have cs := c_X11_snowOf G (d + 2) (a := i) _ J L b h' (by omega) rfl
      rw [esn i (by omega)] at cs
      refine wp_iload_n rfl rfl ?_
      refine wp_aload_n rfl rfl ?_
      refine q_geti rfl rfl (by first | rfl | assumption) rfl ?_
      refine wp_icmp_ge 42 rfl rfl (fun h33 => absurd h33 hlt) (fun _ => ?_)
      refine wp_iload_n rfl rfl ?_
      refine wp_aload_n rfl rfl ?_
      refine wp_iload_n rfl rfl ?_
      refine cV1 rfl l_11_353 i_X11_snowOf m_X11_snowOf (by first | rfl | assumption) (by decide) (cs) rfl (Nat.le_of_ble_eq_true rfl) ?_
      refine wp_iadd rfl ?_
      refine wp_istore_n (lv' := [(2, _), (0, _), (1, _), (3, _)]) rfl rfl (by decide) rfl ?_
      refine wp_iinc (v := nI (i + 1)) (lv' := [(3, _), (2, _), (0, _), (1, _)]) rfl rfl (nI_1 i) (by decide) rfl ?_
      refine wp_goto 30 rfl rfl ?_
      refine wp_loc (lv' := [(0, _), (1, _), (2, _), (3, _)]) [2, 3, 1, 0] rfl ?_
      exact ih (i + 1) (by omega)
  have l8 : ∀ (n i : Nat), i + n = 4 → WQ G (d + 7) Y_X11_count (fun r' w'' => r' = some (.int (rwS I 4)) ∧ w'' = (J, L, RR b)) 46 [(0, .ref 72), (1, .int 8), (2, .int (rwS I i)), (3, .int (nI i))] [] (J, L, RR b) := by
    intro n
    induction n with
    | zero =>
      intro i hi
      have hie : i = 4 := by omega
      subst hie
      refine wp_iload_n rfl rfl ?_
      refine wp_iconst (v := 4) rfl rfl ?_
      refine wp_icmp_ge 62 rfl rfl (fun _ => ?_) (fun h48 => absurd (show (4 : Int32) ≤ nI 4 by decide) h48)
      refine wp_iload_n rfl rfl ?_
      exact wp_iret rfl rfl (⟨rfl, rfl⟩)
    | succ n ih =>
      intro i hi
      have hlt : ¬ (4 : Int32) ≤ nI i := nI_ge (a := i) (b := 4) (by omega) (by omega)
      have hcl : (nI i).toNatClampNeg = i := nI_clamp (by omega)
      have z := h.2.2.2.2.2.2.2.2.2.2 i (by omega)
      have hst : rwS I (i + 1) = rwS I i + b2 (¬ I (57 + 2 * i) 2 = -1) := rfl
      refine wp_iload_n rfl rfl ?_
      refine wp_iconst (v := 4) rfl rfl ?_
      refine wp_icmp_ge 62 rfl rfl (fun h48 => absurd h48 hlt) (fun _ => ?_)
      refine wp_iload_n rfl rfl ?_
      refine wp_aload_n rfl rfl ?_
      refine q_getr rfl rfl (by first | rfl | assumption) rfl rfl ?_
      refine wp_iload_n rfl rfl ?_
      refine q_iald rfl (by first | rfl | assumption) (vp_in_nI (by omega) (by omega)) ?_
      refine wp_if_lt 57 rfl rfl (fun h54 => ?_) (fun h54 => ?_)
      · refine wp_iconst (v := 0) rfl rfl ?_
        refine wp_iadd rfl ?_
        refine wp_istore_n (lv' := [(2, _), (0, _), (1, _), (3, _)]) rfl rfl (by decide) rfl ?_
        refine wp_iinc (v := nI (i + 1)) (lv' := [(3, _), (2, _), (0, _), (1, _)]) rfl rfl (nI_1 i) (by decide) rfl ?_
        refine wp_goto 46 rfl rfl ?_
        refine wp_loc (lv' := [(0, _), (1, _), (2, _), (3, _)]) [2, 3, 1, 0] rfl ?_
        rw [hcl, e73] at h54
        rw [show rwS I i + _ = rwS I (i + 1) by (rw [hst]; first | (rw [b2_t (show ¬ I (57 + 2 * i) 2 = -1 by grind)]) | (rw [b2_f (show ¬ ¬ I (57 + 2 * i) 2 = -1 by grind)]))]
        exact ih (i + 1) (by omega)
      · refine wp_iconst (v := 1) rfl rfl ?_
        refine wp_goto 58 rfl rfl ?_
        refine wp_iadd rfl ?_
        refine wp_istore_n (lv' := [(2, _), (0, _), (1, _), (3, _)]) rfl rfl (by decide) rfl ?_
        refine wp_iinc (v := nI (i + 1)) (lv' := [(3, _), (2, _), (0, _), (1, _)]) rfl rfl (nI_1 i) (by decide) rfl ?_
        refine wp_goto 46 rfl rfl ?_
        refine wp_loc (lv' := [(0, _), (1, _), (2, _), (3, _)]) [2, 3, 1, 0] rfl ?_
        rw [hcl, e73] at h54
        rw [show rwS I i + _ = rwS I (i + 1) by (rw [hst]; first | (rw [b2_t (show ¬ I (57 + 2 * i) 2 = -1 by grind)]) | (rw [b2_f (show ¬ ¬ I (57 + 2 * i) 2 = -1 by grind)]))]
        exact ih (i + 1) (by omega)
  refine MT.intro m_X11_count rfl (Nat.le_of_ble_eq_true rfl) ?_
  show WQ G (d + 7) Y_X11_count _ 0 [(0, .ref 72), (1, .int x)] [] (I, L, RR b)
  refine wp_aload_n rfl rfl ?_
  refine wp_iconst (v := 0) rfl rfl ?_
  refine q_puti rfl rfl (by first | rfl | assumption) (Or.inl rfl) rfl ?_
  rw [hJ]
  refine wp_iconst (v := 0) rfl rfl ?_
  refine wp_istore_n (lv' := [(2, _), (0, _), (1, _)]) rfl rfl (by decide) rfl ?_
  refine wp_iload_n rfl rfl ?_
  by_cases e6_0 : x = 0
  · subst e6_0
    refine wp_tsIn 7 rfl (by decide) (by decide) rfl rfl ?_
    refine wp_aload_n rfl rfl ?_
    refine q_geti rfl rfl (by first | rfl | assumption) rfl ?_
    exact wp_iret rfl rfl (⟨by (try simp only [ek 8 (by decide), ek 5 (by decide), ek 6 (by decide), ek 7 (by decide), ek 11 (by decide), ek 12 (by decide), ek 36 (by decide), ek 30 (by decide), ek 31 (by decide)]); simp only [cntF]; obtain ⟨b1, b2, b3, b4, b5, b6, b7, b8, b9, b10⟩ := a2; obtain ⟨⟨c1, c2, -⟩, ⟨c3, c4, -⟩, c5, c6, -⟩ := a1; simp_all, rfl⟩)
  by_cases e6_1 : x = 1
  · subst e6_1
    refine wp_tsIn 10 rfl (by decide) (by decide) rfl rfl ?_
    refine wp_aload_n rfl rfl ?_
    refine q_geti rfl rfl (by first | rfl | assumption) rfl ?_
    exact wp_iret rfl rfl (⟨by (try simp only [ek 8 (by decide), ek 5 (by decide), ek 6 (by decide), ek 7 (by decide), ek 11 (by decide), ek 12 (by decide), ek 36 (by decide), ek 30 (by decide), ek 31 (by decide)]); simp only [cntF]; obtain ⟨b1, b2, b3, b4, b5, b6, b7, b8, b9, b10⟩ := a2; obtain ⟨⟨c1, c2, -⟩, ⟨c3, c4, -⟩, c5, c6, -⟩ := a1; simp_all, rfl⟩)
  by_cases e6_2 : x = 2
  · subst e6_2
    refine wp_tsIn 13 rfl (by decide) (by decide) rfl rfl ?_
    refine wp_aload_n rfl rfl ?_
    refine q_geti rfl rfl (by first | rfl | assumption) rfl ?_
    exact wp_iret rfl rfl (⟨by (try simp only [ek 8 (by decide), ek 5 (by decide), ek 6 (by decide), ek 7 (by decide), ek 11 (by decide), ek 12 (by decide), ek 36 (by decide), ek 30 (by decide), ek 31 (by decide)]); simp only [cntF]; obtain ⟨b1, b2, b3, b4, b5, b6, b7, b8, b9, b10⟩ := a2; obtain ⟨⟨c1, c2, -⟩, ⟨c3, c4, -⟩, c5, c6, -⟩ := a1; simp_all, rfl⟩)
  by_cases e6_3 : x = 3
  · subst e6_3
    refine wp_tsIn 16 rfl (by decide) (by decide) rfl rfl ?_
    refine wp_aload_n rfl rfl ?_
    refine q_geti rfl rfl (by first | rfl | assumption) rfl ?_
    exact wp_iret rfl rfl (⟨by (try simp only [ek 8 (by decide), ek 5 (by decide), ek 6 (by decide), ek 7 (by decide), ek 11 (by decide), ek 12 (by decide), ek 36 (by decide), ek 30 (by decide), ek 31 (by decide)]); simp only [cntF]; obtain ⟨b1, b2, b3, b4, b5, b6, b7, b8, b9, b10⟩ := a2; obtain ⟨⟨c1, c2, -⟩, ⟨c3, c4, -⟩, c5, c6, -⟩ := a1; simp_all, rfl⟩)
  by_cases e6_4 : x = 4
  · subst e6_4
    refine wp_tsIn 19 rfl (by decide) (by decide) rfl rfl ?_
    refine wp_aload_n rfl rfl ?_
    refine q_geti rfl rfl (by first | rfl | assumption) rfl ?_
    exact wp_iret rfl rfl (⟨by (try simp only [ek 8 (by decide), ek 5 (by decide), ek 6 (by decide), ek 7 (by decide), ek 11 (by decide), ek 12 (by decide), ek 36 (by decide), ek 30 (by decide), ek 31 (by decide)]); simp only [cntF]; obtain ⟨b1, b2, b3, b4, b5, b6, b7, b8, b9, b10⟩ := a2; obtain ⟨⟨c1, c2, -⟩, ⟨c3, c4, -⟩, c5, c6, -⟩ := a1; simp_all, rfl⟩)
  by_cases e6_5 : x = 5
  · subst e6_5
    refine wp_tsIn 22 rfl (by decide) (by decide) rfl rfl ?_
    refine wp_aload_n rfl rfl ?_
    refine q_geti rfl rfl (by first | rfl | assumption) rfl ?_
    exact wp_iret rfl rfl (⟨by (try simp only [ek 8 (by decide), ek 5 (by decide), ek 6 (by decide), ek 7 (by decide), ek 11 (by decide), ek 12 (by decide), ek 36 (by decide), ek 30 (by decide), ek 31 (by decide)]); simp only [cntF]; obtain ⟨b1, b2, b3, b4, b5, b6, b7, b8, b9, b10⟩ := a2; obtain ⟨⟨c1, c2, -⟩, ⟨c3, c4, -⟩, c5, c6, -⟩ := a1; simp_all, rfl⟩)
  by_cases e6_6 : x = 6
  · subst e6_6
    refine wp_tsIn 25 rfl (by decide) (by decide) rfl rfl ?_
    refine wp_aload_n rfl rfl ?_
    refine q_geti rfl rfl (by first | rfl | assumption) rfl ?_
    exact wp_iret rfl rfl (⟨by (try simp only [ek 8 (by decide), ek 5 (by decide), ek 6 (by decide), ek 7 (by decide), ek 11 (by decide), ek 12 (by decide), ek 36 (by decide), ek 30 (by decide), ek 31 (by decide)]); simp only [cntF]; obtain ⟨b1, b2, b3, b4, b5, b6, b7, b8, b9, b10⟩ := a2; obtain ⟨⟨c1, c2, -⟩, ⟨c3, c4, -⟩, c5, c6, -⟩ := a1; simp_all, rfl⟩)
  by_cases e6_7 : x = 7
  · subst e6_7
    refine wp_tsIn 28 rfl (by decide) (by decide) rfl rfl ?_
    refine wp_iconst (v := 0) rfl rfl ?_
    refine wp_istore_n (lv' := [(3, _), (2, _), (0, _), (1, _)]) rfl rfl (by decide) rfl ?_
    refine wp_loc (lv' := [(0, _), (1, _), (2, _), (3, _)]) [2, 3, 1, 0] rfl ?_
    have := l7 nr 0 (by omega)
    simp only [cntF]
    exact this
  by_cases e6_8 : x = 8
  · subst e6_8
    refine wp_tsIn 44 rfl (by decide) (by decide) rfl rfl ?_
    refine wp_iconst (v := 0) rfl rfl ?_
    refine wp_istore_n (lv' := [(3, _), (2, _), (0, _), (1, _)]) rfl rfl (by decide) rfl ?_
    refine wp_loc (lv' := [(0, _), (1, _), (2, _), (3, _)]) [2, 3, 1, 0] rfl ?_
    have := l8 4 0 (by omega)
    simp only [cntF]
    exact this
  by_cases e6_9 : x = 9
  · subst e6_9
    refine wp_tsIn 64 rfl (by decide) (by decide) rfl rfl ?_
    refine wp_aload_n rfl rfl ?_
    refine q_geti rfl rfl (by first | rfl | assumption) rfl ?_
    exact wp_iret rfl rfl (⟨by (try simp only [ek 8 (by decide), ek 5 (by decide), ek 6 (by decide), ek 7 (by decide), ek 11 (by decide), ek 12 (by decide), ek 36 (by decide), ek 30 (by decide), ek 31 (by decide)]); simp only [cntF]; obtain ⟨b1, b2, b3, b4, b5, b6, b7, b8, b9, b10⟩ := a2; obtain ⟨⟨c1, c2, -⟩, ⟨c3, c4, -⟩, c5, c6, -⟩ := a1; simp_all, rfl⟩)
  by_cases e6_10 : x = 10
  · subst e6_10
    refine wp_tsIn 67 rfl (by decide) (by decide) rfl rfl ?_
    refine wp_aload_n rfl rfl ?_
    refine q_geti rfl rfl (by first | rfl | assumption) rfl ?_
    exact wp_iret rfl rfl (⟨by (try simp only [ek 8 (by decide), ek 5 (by decide), ek 6 (by decide), ek 7 (by decide), ek 11 (by decide), ek 12 (by decide), ek 36 (by decide), ek 30 (by decide), ek 31 (by decide)]); simp only [cntF]; obtain ⟨b1, b2, b3, b4, b5, b6, b7, b8, b9, b10⟩ := a2; obtain ⟨⟨c1, c2, -⟩, ⟨c3, c4, -⟩, c5, c6, -⟩ := a1; simp_all, rfl⟩)
  refine wp_tsOut 70 rfl (by have a0 := lv_neT e6_0 (a := 0) rfl; have a1 := lv_neT e6_1 (a := 1) rfl; have a2 := lv_neT e6_2 (a := 2) rfl; have a3 := lv_neT e6_3 (a := 3) rfl; have a4 := lv_neT e6_4 (a := 4) rfl; have a5 := lv_neT e6_5 (a := 5) rfl; have a6 := lv_neT e6_6 (a := 6) rfl; have a7 := lv_neT e6_7 (a := 7) rfl; have a8 := lv_neT e6_8 (a := 8) rfl; have a9 := lv_neT e6_9 (a := 9) rfl; have a10 := lv_neT e6_10 (a := 10) rfl; omega) rfl ?_
  refine wp_iconst (v := (-1)) rfl rfl ?_
  exact wp_iret rfl rfl (⟨by (try simp only [ek 8 (by decide), ek 5 (by decide), ek 6 (by decide), ek 7 (by decide), ek 11 (by decide), ek 12 (by decide), ek 36 (by decide), ek 30 (by decide), ek 31 (by decide)]); simp only [cntF]; obtain ⟨b1, b2, b3, b4, b5, b6, b7, b8, b9, b10⟩ := a2; obtain ⟨⟨c1, c2, -⟩, ⟨c3, c4, -⟩, c5, c6, -⟩ := a1; simp_all, rfl⟩)
theorem s_count {G : Gl} {d : Nat} {I : IF} {L : LF} {b : Bool} (x : Int32) (h : InvA I L) (hlaw : I 72 12 = I (lawA b) 8) : StepA G (d + 7) Y_X10_count Y_X11_count [.int x] I L b := by
  obtain ⟨nm, na, nr, h⟩ := h
  exact StepA.query h (c_X10_count G d x I L b h) (c_X11_count G d x I L b h hlaw)
