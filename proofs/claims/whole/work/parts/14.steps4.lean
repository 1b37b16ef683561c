/-! mastOf, areaOf, strength, fail, aim -/
theorem c_X10_mastOf (G : Gl) (d : Nat) {nm na nr : Nat} (v x : Int32) (I : IF) (L : LF) (b : Bool) (h : IVc nm na nr I) : MD G (d + 2) Y_X10_mastOf [.ref 0, .int v, .int x] (I, L, RR b) (some (.int (if 0 ≤ v ∧ v < I 1 2 then mFact I (4 + v.toNatClampNeg) x else -2))) (I, L, RR b) := by
  refine MT.intro m_X10_mastOf rfl (Nat.le_of_ble_eq_true rfl) ?_
  show WQ G (d + 2) Y_X10_mastOf _ 0 [(0, .ref 0), (1, .int v), (2, .int x)] [] (I, L, RR b)
  refine wp_aload_n rfl rfl ?_
  refine q_getr rfl rfl (by first | rfl | assumption) rfl rfl ?_
  refine wp_iload_n rfl rfl ?_
  refine cV1 rfl l_10_91 i_X1_isMast m_X1_isMast (by first | rfl | assumption) (by decide) (c_X1_isMast G _ _ _ _ _) rfl (Nat.le_of_ble_eq_true rfl) ?_
  refine wp_if_eq 13 rfl rfl (fun h4 => ?_) (fun h4 => ?_)
  · refine wp_bipush (v := (-2)) rfl rfl ?_
    exact wp_iret rfl rfl (⟨by grind [b2], rfl⟩)
  · have hv := b2_ne.mp h4
    obtain ⟨m, hm, hvm, hcl⟩ := (isM h v).1 hv
    have hm14 : m < 14 := by have := h.1.2.2; omega
    have hsm := sh_mast m hm14
    refine wp_aload_n rfl rfl ?_
    refine q_getr rfl rfl (by first | rfl | assumption) rfl rfl ?_
    refine q_getr rfl rfl (by first | rfl | assumption) rfl rfl ?_
    refine wp_iload_n rfl rfl ?_
    refine q_mast rfl hvm hm14 ?_
    refine wp_iload_n rfl rfl ?_
    refine cV1 rfl l_10_250 i_X4_fact m_X4_fact (by first | rfl | assumption) (by decide) (c_X4_fact G _ _ _ _ _ _ hsm) rfl (Nat.le_of_ble_eq_true rfl) ?_
    refine wp_goto 14 rfl rfl ?_
    exact wp_iret rfl rfl (⟨by grind [b2], rfl⟩)
theorem c_X11_mastOf (G : Gl) (d : Nat) {nm na nr : Nat} (v x : Int32) (I : IF) (L : LF) (b : Bool) (h : IV nm na nr I L) : MD G (d + 2) Y_X11_mastOf [.ref 72, .int v, .int x] (I, L, RR b) (some (.int (if 0 ≤ v ∧ v < I 1 2 then mFact I (4 + v.toNatClampNeg) x else -2))) (uI I 72 0 0, L, RR b) := by
  have e0 : uI I 72 0 0 72 5 = I 72 5 := rfl
  refine MT.intro m_X11_mastOf rfl (Nat.le_of_ble_eq_true rfl) ?_
  show WQ G (d + 2) Y_X11_mastOf _ 0 [(0, .ref 72), (1, .int v), (2, .int x)] [] (I, L, RR b)
  refine wp_aload_n rfl rfl ?_
  refine wp_iconst (v := 0) rfl rfl ?_
  refine q_puti rfl rfl (by first | rfl | assumption) (Or.inl rfl) rfl ?_
  refine wp_aload_n rfl rfl ?_
  refine wp_iload_n rfl rfl ?_
  refine cV1 rfl l_11_165 i_X11_isMast m_X11_isMast (by first | rfl | assumption) (by decide) (c_X11_isMast G _ _ _ _ _) rfl (Nat.le_of_ble_eq_true rfl) ?_
  refine wp_if_ne 9 rfl rfl (fun h6 => ?_) (fun h6 => ?_)
  · have hv := (isM h.1 v).2.mp (b2_ne.mp h6)
    obtain ⟨m, hm, hvm, hcl⟩ := (isM h.1 v).1 hv
    have hm10 : m < 10 := by have := h.1.1.2.2; omega
    have hin10 : vp_in v 10 := by rw [hvm]; exact vp_in_nI hm10 (by omega)
    have hin14 : vp_in v 14 := by rw [hvm]; exact vp_in_nI (by omega) (by omega)
    have z3 := h.2.2.1 m (by omega)
    have z4 := h.2.2.2.1 m hm10
    have z5 := h.2.2.2.2.1 m hm
    refine wp_iload_n rfl rfl ?_
    by_cases e10_0 : x = 0
    · subst e10_0
      refine wp_tsIn 11 rfl (by decide) (by decide) rfl rfl ?_
      refine wp_aload_n rfl rfl ?_
      refine q_getr rfl rfl (by first | rfl | assumption) rfl rfl ?_
      refine wp_iload_n rfl rfl ?_
      refine q_iald rfl (by first | rfl | assumption) (by assumption) ?_
      exact wp_iret rfl rfl (⟨by rw [if_pos hv, hcl] at *; simp (disch := omega) only [uI_ne, hcl] at *; simp only [mFact]; grind [b2], rfl⟩)
    by_cases e10_1 : x = 1
    · subst e10_1
      refine wp_tsIn 16 rfl (by decide) (by decide) rfl rfl ?_
      refine wp_aload_n rfl rfl ?_
      refine q_getr rfl rfl (by first | rfl | assumption) rfl rfl ?_
      refine wp_iload_n rfl rfl ?_
      refine q_iald rfl (by first | rfl | assumption) (by assumption) ?_
      exact wp_iret rfl rfl (⟨by rw [if_pos hv, hcl] at *; simp (disch := omega) only [uI_ne, hcl] at *; simp only [mFact]; grind [b2], rfl⟩)
    by_cases e10_2 : x = 2
    · subst e10_2
      refine wp_tsIn 21 rfl (by decide) (by decide) rfl rfl ?_
      refine wp_aload_n rfl rfl ?_
      refine q_getr rfl rfl (by first | rfl | assumption) rfl rfl ?_
      refine wp_iload_n rfl rfl ?_
      refine q_iald rfl (by first | rfl | assumption) (by assumption) ?_
      exact wp_iret rfl rfl (⟨by rw [if_pos hv, hcl] at *; simp (disch := omega) only [uI_ne, hcl] at *; simp only [mFact]; grind [b2], rfl⟩)
    by_cases e10_3 : x = 3
    · subst e10_3
      refine wp_tsIn 26 rfl (by decide) (by decide) rfl rfl ?_
      refine wp_aload_n rfl rfl ?_
      refine q_getr rfl rfl (by first | rfl | assumption) rfl rfl ?_
      refine wp_iload_n rfl rfl ?_
      refine q_iald rfl (by first | rfl | assumption) (by assumption) ?_
      exact wp_iret rfl rfl (⟨by rw [if_pos hv, hcl] at *; simp (disch := omega) only [uI_ne, hcl] at *; simp only [mFact]; grind [b2], rfl⟩)
    by_cases e10_4 : x = 4
    · subst e10_4
      refine wp_tsIn 31 rfl (by decide) (by decide) rfl rfl ?_
      refine wp_aload_n rfl rfl ?_
      refine q_getr rfl rfl (by first | rfl | assumption) rfl rfl ?_
      refine wp_iload_n rfl rfl ?_
      refine q_zald rfl (by first | rfl | assumption) (by assumption) ?_
      refine wp_if_eq 38 rfl rfl (fun h35 => ?_) (fun h35 => ?_)
      · refine wp_iconst (v := 0) rfl rfl ?_
        exact wp_iret rfl rfl (⟨by rw [if_pos hv, hcl] at *; simp (disch := omega) only [uI_ne, hcl] at *; simp only [mFact]; grind [b2], rfl⟩)
      · refine wp_iconst (v := 1) rfl rfl ?_
        refine wp_goto 39 rfl rfl ?_
        exact wp_iret rfl rfl (⟨by rw [if_pos hv, hcl] at *; simp (disch := omega) only [uI_ne, hcl] at *; simp only [mFact]; grind [b2], rfl⟩)
    by_cases e10_5 : x = 5
    · subst e10_5
      refine wp_tsIn 40 rfl (by decide) (by decide) rfl rfl ?_
      refine wp_aload_n rfl rfl ?_
      refine q_getr rfl rfl (by first | rfl | assumption) rfl rfl ?_
      refine wp_iload_n rfl rfl ?_
      refine q_iald rfl (by first | rfl | assumption) (by assumption) ?_
      exact wp_iret rfl rfl (⟨by rw [if_pos hv, hcl] at *; simp (disch := omega) only [uI_ne, hcl] at *; simp only [mFact]; grind [b2], rfl⟩)
    by_cases e10_6 : x = 6
    · subst e10_6
      refine wp_tsIn 45 rfl (by decide) (by decide) rfl rfl ?_
      refine wp_aload_n rfl rfl ?_
      refine q_getr rfl rfl (by first | rfl | assumption) rfl rfl ?_
      refine wp_iload_n rfl rfl ?_
      refine q_zald rfl (by first | rfl | assumption) (by assumption) ?_
      refine wp_if_eq 52 rfl rfl (fun h49 => ?_) (fun h49 => ?_)
      · refine wp_iconst (v := 0) rfl rfl ?_
        exact wp_iret rfl rfl (⟨by rw [if_pos hv, hcl] at *; simp (disch := omega) only [uI_ne, hcl] at *; simp only [mFact]; grind [b2], rfl⟩)
      · refine wp_iconst (v := 1) rfl rfl ?_
        refine wp_goto 53 rfl rfl ?_
        exact wp_iret rfl rfl (⟨by rw [if_pos hv, hcl] at *; simp (disch := omega) only [uI_ne, hcl] at *; simp only [mFact]; grind [b2], rfl⟩)
    by_cases e10_7 : x = 7
    · subst e10_7
      refine wp_tsIn 54 rfl (by decide) (by decide) rfl rfl ?_
      refine wp_aload_n rfl rfl ?_
      refine q_getr rfl rfl (by first | rfl | assumption) rfl rfl ?_
      refine wp_iload_n rfl rfl ?_
      refine q_zald rfl (by first | rfl | assumption) (by assumption) ?_
      refine wp_if_eq 61 rfl rfl (fun h58 => ?_) (fun h58 => ?_)
      · refine wp_iconst (v := 0) rfl rfl ?_
        exact wp_iret rfl rfl (⟨by rw [if_pos hv, hcl] at *; simp (disch := omega) only [uI_ne, hcl] at *; simp only [mFact]; grind [b2], rfl⟩)
      · refine wp_iconst (v := 1) rfl rfl ?_
        refine wp_goto 62 rfl rfl ?_
        exact wp_iret rfl rfl (⟨by rw [if_pos hv, hcl] at *; simp (disch := omega) only [uI_ne, hcl] at *; simp only [mFact]; grind [b2], rfl⟩)
    refine wp_tsOut 63 rfl (by have a0 := lv_neT e10_0 (a := 0) rfl; have a1 := lv_neT e10_1 (a := 1) rfl; have a2 := lv_neT e10_2 (a := 2) rfl; have a3 := lv_neT e10_3 (a := 3) rfl; have a4 := lv_neT e10_4 (a := 4) rfl; have a5 := lv_neT e10_5 (a := 5) rfl; have a6 := lv_neT e10_6 (a := 6) rfl; have a7 := lv_neT e10_7 (a := 7) rfl; omega) rfl ?_
    refine wp_bipush (v := (-2)) rfl rfl ?_
    exact wp_iret rfl rfl (⟨by rw [if_pos hv, hcl] at *; simp (disch := omega) only [uI_ne, hcl] at *; simp only [mFact]; grind [b2], rfl⟩)
  · refine wp_bipush (v := (-2)) rfl rfl ?_
    exact wp_iret rfl rfl (⟨by have e := (isM h.1 v).2; rw [e0] at h6; grind [b2], rfl⟩)
theorem s_mastOf {G : Gl} {d : Nat} {I : IF} {L : LF} {b : Bool} (v x : Int32) (h : InvA I L) : StepA G (d + 2) Y_X10_mastOf Y_X11_mastOf [.int v, .int x] I L b := by
  obtain ⟨nm, na, nr, h⟩ := h
  exact StepA.query h (c_X10_mastOf G d v x I L b h.1) (c_X11_mastOf G d v x I L b h)
theorem c_X10_areaOf (G : Gl) (d : Nat) {nm na nr : Nat} (v x : Int32) (I : IF) (L : LF) (b : Bool) (h : IVc nm na nr I) : MD G (d + 2) Y_X10_areaOf [.ref 0, .int v, .int x] (I, L, RR b) (some (.int (if 0 ≤ v ∧ v < I 1 4 then aFact I (18 + v.toNatClampNeg) x else -2))) (I, L, RR b) := by
  refine MT.intro m_X10_areaOf rfl (Nat.le_of_ble_eq_true rfl) ?_
  show WQ G (d + 2) Y_X10_areaOf _ 0 [(0, .ref 0), (1, .int v), (2, .int x)] [] (I, L, RR b)
  refine wp_aload_n rfl rfl ?_
  refine q_getr rfl rfl (by first | rfl | assumption) rfl rfl ?_
  refine wp_iload_n rfl rfl ?_
  refine cV1 rfl l_10_163 i_X1_isArea m_X1_isArea (by first | rfl | assumption) (by decide) (c_X1_isArea G _ _ _ _ _) rfl (Nat.le_of_ble_eq_true rfl) ?_
  refine wp_if_eq 13 rfl rfl (fun h4 => ?_) (fun h4 => ?_)
  · refine wp_bipush (v := (-2)) rfl rfl ?_
    exact wp_iret rfl rfl (⟨by grind [b2], rfl⟩)
  · have hv := b2_ne.mp h4
    obtain ⟨m, hm, hvm, hcl⟩ := (isAr h v).1 hv
    have hm14 : m < 16 := by have := h.2.2.2.2; omega
    have hsm := sh_area m hm14
    refine wp_aload_n rfl rfl ?_
    refine q_getr rfl rfl (by first | rfl | assumption) rfl rfl ?_
    refine q_getr rfl rfl (by first | rfl | assumption) rfl rfl ?_
    refine wp_iload_n rfl rfl ?_
    refine q_area rfl hvm hm14 ?_
    refine wp_iload_n rfl rfl ?_
    refine cV1 rfl l_10_254 i_X0_fact m_X0_fact (by first | rfl | assumption) (by decide) (c_X0_fact G _ _ _ _ _ _ hsm) rfl (Nat.le_of_ble_eq_true rfl) ?_
    refine wp_goto 14 rfl rfl ?_
    exact wp_iret rfl rfl (⟨by grind [b2], rfl⟩)
theorem c_X11_areaOf (G : Gl) (d : Nat) {nm na nr : Nat} (v x : Int32) (I : IF) (L : LF) (b : Bool) (h : IV nm na nr I L) : MD G (d + 2) Y_X11_areaOf [.ref 72, .int v, .int x] (I, L, RR b) (some (.int (if 0 ≤ v ∧ v < I 1 4 then aFact I (18 + v.toNatClampNeg) x else -2))) (uI I 72 0 0, L, RR b) := by
  have e0 : uI I 72 0 0 72 7 = I 72 7 := rfl
  refine MT.intro m_X11_areaOf rfl (Nat.le_of_ble_eq_true rfl) ?_
  show WQ G (d + 2) Y_X11_areaOf _ 0 [(0, .ref 72), (1, .int v), (2, .int x)] [] (I, L, RR b)
  refine wp_aload_n rfl rfl ?_
  refine wp_iconst (v := 0) rfl rfl ?_
  refine q_puti rfl rfl (by first | rfl | assumption) (Or.inl rfl) rfl ?_
  refine wp_aload_n rfl rfl ?_
  refine wp_iload_n rfl rfl ?_
  refine cV1 rfl l_11_162 i_X11_isArea m_X11_isArea (by first | rfl | assumption) (by decide) (c_X11_isArea G _ _ _ _ _) rfl (Nat.le_of_ble_eq_true rfl) ?_
  refine wp_if_ne 9 rfl rfl (fun h6 => ?_) (fun h6 => ?_)
  · have hv := (isAr h.1 v).2.mp (b2_ne.mp h6)
    obtain ⟨m, hm, hvm, hcl⟩ := (isAr h.1 v).1 hv
    have hm16 : m < 16 := by have := h.1.2.2.2.2; omega
    have hin16 : vp_in v 16 := by rw [hvm]; exact vp_in_nI (by omega) (by omega)
    have z3 := h.2.2.2.2.2.2.2.1 m hm16
    have z4 := (h.2.2.2.2.2.2.2.2.1 m hm16).1 hm
    refine wp_iload_n rfl rfl ?_
    by_cases e10_0 : x = 0
    · subst e10_0
      refine wp_tsIn 11 rfl (by decide) (by decide) rfl rfl ?_
      refine wp_aload_n rfl rfl ?_
      refine q_getr rfl rfl (by first | rfl | assumption) rfl rfl ?_
      refine wp_iload_n rfl rfl ?_
      refine q_iald rfl (by first | rfl | assumption) (by assumption) ?_
      exact wp_iret rfl rfl (⟨by rw [if_pos hv, hcl] at *; simp (disch := omega) only [uI_ne, hcl] at *; simp only [aFact]; grind [b2], rfl⟩)
    by_cases e10_1 : x = 1
    · subst e10_1
      refine wp_tsIn 16 rfl (by decide) (by decide) rfl rfl ?_
      refine wp_aload_n rfl rfl ?_
      refine q_getr rfl rfl (by first | rfl | assumption) rfl rfl ?_
      refine wp_iload_n rfl rfl ?_
      refine q_iald rfl (by first | rfl | assumption) (by assumption) ?_
      exact wp_iret rfl rfl (⟨by rw [if_pos hv, hcl] at *; simp (disch := omega) only [uI_ne, hcl] at *; simp only [aFact]; grind [b2], rfl⟩)
    by_cases e10_2 : x = 2
    · subst e10_2
      refine wp_tsIn 21 rfl (by decide) (by decide) rfl rfl ?_
      refine wp_aload_n rfl rfl ?_
      refine q_getr rfl rfl (by first | rfl | assumption) rfl rfl ?_
      refine wp_iload_n rfl rfl ?_
      refine q_iald rfl (by first | rfl | assumption) (by assumption) ?_
      exact wp_iret rfl rfl (⟨by rw [if_pos hv, hcl] at *; simp (disch := omega) only [uI_ne, hcl] at *; simp only [aFact]; grind [b2], rfl⟩)
    by_cases e10_3 : x = 3
    · subst e10_3
      refine wp_tsIn 26 rfl (by decide) (by decide) rfl rfl ?_
      refine wp_aload_n rfl rfl ?_
      refine q_getr rfl rfl (by first | rfl | assumption) rfl rfl ?_
      refine wp_iload_n rfl rfl ?_
      refine q_iald rfl (by first | rfl | assumption) (by assumption) ?_
      exact wp_iret rfl rfl (⟨by rw [if_pos hv, hcl] at *; simp (disch := omega) only [uI_ne, hcl] at *; simp only [aFact]; grind [b2], rfl⟩)
    by_cases e10_4 : x = 4
    · subst e10_4
      refine wp_tsIn 31 rfl (by decide) (by decide) rfl rfl ?_
      refine wp_aload_n rfl rfl ?_
      refine q_getr rfl rfl (by first | rfl | assumption) rfl rfl ?_
      refine wp_iload_n rfl rfl ?_
      refine q_iald rfl (by first | rfl | assumption) (by assumption) ?_
      exact wp_iret rfl rfl (⟨by rw [if_pos hv, hcl] at *; simp (disch := omega) only [uI_ne, hcl] at *; simp only [aFact]; grind [b2], rfl⟩)
    by_cases e10_5 : x = 5
    · subst e10_5
      refine wp_tsIn 36 rfl (by decide) (by decide) rfl rfl ?_
      refine wp_aload_n rfl rfl ?_
      refine q_getr rfl rfl (by first | rfl | assumption) rfl rfl ?_
      refine wp_iload_n rfl rfl ?_
      refine q_iald rfl (by first | rfl | assumption) (by assumption) ?_
      exact wp_iret rfl rfl (⟨by rw [if_pos hv, hcl] at *; simp (disch := omega) only [uI_ne, hcl] at *; simp only [aFact]; grind [b2], rfl⟩)
    refine wp_tsOut 41 rfl (by have a0 := lv_neT e10_0 (a := 0) rfl; have a1 := lv_neT e10_1 (a := 1) rfl; have a2 := lv_neT e10_2 (a := 2) rfl; have a3 := lv_neT e10_3 (a := 3) rfl; have a4 := lv_neT e10_4 (a := 4) rfl; have a5 := lv_neT e10_5 (a := 5) rfl; omega) rfl ?_
    refine wp_bipush (v := (-2)) rfl rfl ?_
    exact wp_iret rfl rfl (⟨by rw [if_pos hv, hcl] at *; simp (disch := omega) only [uI_ne, hcl] at *; simp only [aFact]; grind [b2], rfl⟩)
  · refine wp_bipush (v := (-2)) rfl rfl ?_
    exact wp_iret rfl rfl (⟨by have e := (isAr h.1 v).2; rw [e0] at h6; grind [b2], rfl⟩)
theorem s_areaOf {G : Gl} {d : Nat} {I : IF} {L : LF} {b : Bool} (v x : Int32) (h : InvA I L) : StepA G (d + 2) Y_X10_areaOf Y_X11_areaOf [.int v, .int x] I L b := by
  obtain ⟨nm, na, nr, h⟩ := h
  exact StepA.query h (c_X10_areaOf G d v x I L b h.1) (c_X11_areaOf G d v x I L b h)
/-- the sum below the line is above 0 -/
theorem sqD_pos {x y a b : Int32} (hx : 0 ≤ x ∧ x ≤ 100) (hy : 0 ≤ y ∧ y ≤ 100) (ha : 0 ≤ a ∧ a ≤ 100) (hb : 0 ≤ b ∧ b ≤ 100) : 10 ≤ sqD x y a b ∧ sqD x y a b ≤ 20010 := by
  obtain ⟨i, i1, rfl⟩ := nI_of2 (M := 100) (n := 100) rfl (by grind) hx.2
  obtain ⟨j, j1, rfl⟩ := nI_of2 (M := 100) (n := 100) rfl (by grind) hy.2
  obtain ⟨k, k1, rfl⟩ := nI_of2 (M := 100) (n := 100) rfl (by grind) ha.2
  obtain ⟨l, l1, rfl⟩ := nI_of2 (M := 100) (n := 100) rfl (by grind) hb.2
  have key : ∀ i j : Nat, i ≤ 100 → j ≤ 100 → ∃ q : Nat, q ≤ 10000 ∧ (nI i - nI j) * (nI i - nI j) = nI q := by
    intro i j hi hj
    rcases Nat.le_total j i with z | z
    · refine ⟨(i - j) * (i - j), Nat.mul_le_mul (show i - j ≤ 100 by omega) (show i - j ≤ 100 by omega), ?_⟩
      rw [pk_sub z, pk_mul]
    · refine ⟨(j - i) * (j - i), Nat.mul_le_mul (show j - i ≤ 100 by omega) (show j - i ≤ 100 by omega), ?_⟩
      rw [← pk_mul, ← pk_sub z]
      grind
  obtain ⟨q1, h1, e1⟩ := key i k i1 k1
  obtain ⟨q2, h2, e2⟩ := key j l j1 l1
  unfold sqD
  rw [e1, e2, show (10 : Int32) = nI 10 from rfl, nI_add, nI_add]
  exact ⟨nI_le (by omega) (by omega), nI_le (b := 20010) (by omega) (by omega)⟩
theorem sq_ne {nm na nr : Nat} {I : IF} {L : LF} (h : IV nm na nr I L) {m a : Nat} (hm : m < 14) (ha : a < 16) : ¬ sqD (I (4 + m) 0) (I (4 + m) 1) (I (18 + a) 0) (I (18 + a) 1) = 0 := by
  have z := h.2.2.1 m hm
  have y := h.2.2.2.2.2.2.2.1 a ha
  have := sqD_pos z.2.1 z.2.2.1 y.2.1 y.2.2.1
  grind
/-- STRENGTH of sender m at area a -/
def stg (I : IF) (m a : Nat) : Int32 := strg (I (4 + m) 2) (I (4 + m) 0) (I (4 + m) 1) (I (18 + a) 0) (I (18 + a) 1)
theorem stg_m {nm na nr : Nat} {I : IF} {L : LF} (h : IV nm na nr I L) {m a : Nat} (hm : m < 14) (ha : a < 16) : strg (I 79 m) (I 77 m) (I 78 m) (I 86 a) (I 87 a) = stg I m a ∧ sqD (I 77 m) (I 78 m) (I 86 a) (I 87 a) = sqD (I (4 + m) 0) (I (4 + m) 1) (I (18 + a) 0) (I (18 + a) 1) := by
  have z := h.2.2.1 m hm
  have y := h.2.2.2.2.2.2.2.1 a ha
  unfold stg
  rw [z.1.1, z.1.2.1, z.1.2.2.1, y.1.1, y.1.2.1]
  exact ⟨rfl, rfl⟩
/-- the contracts of strengthAt and at, by numbers -/
theorem d_strengthAt (G : Gl) (d : Nat) {nm na nr m a : Nat} {I : IF} {L : LF} (R : RF) (h : IV nm na nr I L) (hm : m < 14) (ha : a < 16) : MD G d Y_X4_strengthAt [.ref (4 + m), .ref (18 + a)] (I, L, R) (some (.int (stg I m a))) (I, L, R) :=
  c_X4_strengthAt G d (4 + m) (18 + a) I L R (sh_mast m hm) (sh_area a ha) (sq_ne h hm ha)
theorem d_at (G : Gl) (d : Nat) {nm na nr m a : Nat} {I : IF} {L : LF} (b : Bool) (h : IV nm na nr I L) (hm : m < 14) (ha : a < 16) {x y : Int32} (hx : x = nI m) (hy : y = nI a) : MD G d Y_X11_at [.ref 72, .int x, .int y] (I, L, RR b) (some (.int (stg I m a))) (I, L, RR b) := by
  subst hx
  subst hy
  have c1 : (nI m).toNatClampNeg = m := nI_clamp (by omega)
  have c2 : (nI a).toNatClampNeg = a := nI_clamp (by omega)
  have k := c_X11_at G d (nI m) (nI a) I L b (vp_in_nI hm (by omega)) (vp_in_nI ha (by omega)) (by rw [c1, c2, (stg_m h hm ha).2]; exact sq_ne h hm ha)
  rw [c1, c2, (stg_m h hm ha).1] at k
  exact k
theorem isSd {nm na nr : Nat} {I : IF} (h : IVc nm na nr I) (v : Int32) : ((0 ≤ v ∧ v < I 1 2) ∨ (10 ≤ v ∧ v - 10 < I 1 3) → ∃ m, m < 14 ∧ v = nI m ∧ v.toNatClampNeg = m ∧ (m < nm ∨ (10 ≤ m ∧ m < 10 + na))) ∧ ((10 ≤ v ∧ v ≤ 10 + I 72 6 - 1) ↔ (10 ≤ v ∧ v - 10 < I 1 3)) := by
  have hM := isM h v
  obtain ⟨⟨-, -, h0⟩, ⟨h1, h2, h3⟩, -⟩ := h
  have a' : (0 : Int32) ≤ nI na := (nI_b (n := na) (k := 4) h3 (by omega)).1
  have c' : nI na ≤ (4 : Int32) := (nI_b (n := na) (k := 4) h3 (by omega)).2
  refine ⟨fun hv => ?_, ?_⟩
  · rcases hv with hv | hv
    · obtain ⟨m, e1, e2, e3⟩ := hM.1 hv
      exact ⟨m, by omega, e2, e3, Or.inl e1⟩
    · rw [h1] at hv
      have e4 : v < nI (10 + na) := by rw [← nI_add, show nI 10 = (10 : Int32) from rfl]; grind
      obtain ⟨m, hm, rfl⟩ := nI_get (x := v) (n := 10 + na) (by grind) e4 (by omega)
      have e5 : 10 ≤ m := (nI_leI (a := 10) (b := m) (by omega) (by omega)).mp hv.1
      exact ⟨m, by omega, rfl, nI_clamp (by omega), Or.inr ⟨e5, hm⟩⟩
  · rw [h1, h2]
    grind
theorem c_X10_strength (G : Gl) (d : Nat) {nm na nr : Nat} (v x : Int32) (I : IF) (L : LF) (b : Bool) (h : IV nm na nr I L) : MD G (d + 2) Y_X10_strength [.ref 0, .int v, .int x] (I, L, RR b) (some (.int (if ((0 ≤ v ∧ v < I 1 2) ∨ (10 ≤ v ∧ v - 10 < I 1 3)) ∧ 0 ≤ x ∧ x < I 1 4 then stg I v.toNatClampNeg x.toNatClampNeg else -2))) (I, L, RR b) := by
  refine MT.intro m_X10_strength rfl (Nat.le_of_ble_eq_true rfl) ?_
  show WQ G (d + 2) Y_X10_strength _ 0 [(0, .ref 0), (1, .int v), (2, .int x)] [] (I, L, RR b)
  refine wp_aload_n rfl rfl ?_
  refine q_getr rfl rfl (by first | rfl | assumption) rfl rfl ?_
  refine wp_iload_n rfl rfl ?_
  refine cV1 rfl l_10_176 i_X1_isSender m_X1_isSender (by first | rfl | assumption) (by decide) (c_X1_isSender G _ _ _ _ _) rfl (Nat.le_of_ble_eq_true rfl) ?_
  refine wp_if_eq 10 rfl rfl (fun h4 => ?_) (fun h4 => ?_)
  · refine wp_bipush (v := (-2)) rfl rfl ?_
    exact wp_iret rfl rfl (⟨by grind [b2], rfl⟩)
  · refine wp_aload_n rfl rfl ?_
    refine q_getr rfl rfl (by first | rfl | assumption) rfl rfl ?_
    refine wp_iload_n rfl rfl ?_
    refine cV1 rfl l_10_163 i_X1_isArea m_X1_isArea (by first | rfl | assumption) (by decide) (c_X1_isArea G _ _ _ _ _) rfl (Nat.le_of_ble_eq_true rfl) ?_
    refine wp_if_ne 12 rfl rfl (fun h9 => ?_) (fun h9 => ?_)
    · have hv := b2_ne.mp h4
      have hx := b2_ne.mp h9
      obtain ⟨m, hm, hvm, hcl, -⟩ := (isSd h.1 v).1 hv
      obtain ⟨a, ha, hxa, hca⟩ := (isAr h.1 x).1 hx
      have ha16 : a < 16 := by have := h.1.2.2.2.2; omega
      have hsm := sh_mast m hm
      refine wp_aload_n rfl rfl ?_
      refine q_getr rfl rfl (by first | rfl | assumption) rfl rfl ?_
      refine q_getr rfl rfl (by first | rfl | assumption) rfl rfl ?_
      refine wp_iload_n rfl rfl ?_
      refine q_mast rfl hvm hm ?_
      refine wp_aload_n rfl rfl ?_
      refine q_getr rfl rfl (by first | rfl | assumption) rfl rfl ?_
      refine q_getr rfl rfl (by first | rfl | assumption) rfl rfl ?_
      refine wp_iload_n rfl rfl ?_
      refine q_area rfl hxa ha16 ?_
      refine cV1 rfl l_10_179 i_X4_strengthAt m_X4_strengthAt (by first | rfl | assumption) (by decide) (d_strengthAt G _ _ h hm ha16) rfl (Nat.le_of_ble_eq_true rfl) ?_
      exact wp_iret rfl rfl (⟨by grind [b2], rfl⟩)
    · refine wp_bipush (v := (-2)) rfl rfl ?_
      exact wp_iret rfl rfl (⟨by grind [b2], rfl⟩)
theorem c_X11_strength (G : Gl) (d : Nat) {nm na nr : Nat} (v x : Int32) (I : IF) (L : LF) (b : Bool) (h : IV nm na nr I L) : MD G (d + 2) Y_X11_strength [.ref 72, .int v, .int x] (I, L, RR b) (some (.int (if ((0 ≤ v ∧ v < I 1 2) ∨ (10 ≤ v ∧ v - 10 < I 1 3)) ∧ 0 ≤ x ∧ x < I 1 4 then stg I v.toNatClampNeg x.toNatClampNeg else -2))) (uI I 72 0 0, L, RR b) := by
  have h' := IV_thr h
  have iA := (isAr h'.1 x)
  have iM := (isM h'.1 v)
  have iS := (isSd h'.1 v)
  have es : ∀ m a, m < 14 → a < 16 → stg (uI I 72 0 0) m a = stg I m a := by intro m a hm ha; unfold stg; simp (disch := omega) only [uI_ne]
  have e1 : uI I 72 0 0 1 2 = I 1 2 := rfl
  have e2 : uI I 72 0 0 1 3 = I 1 3 := rfl
  have e3 : uI I 72 0 0 1 4 = I 1 4 := rfl
  refine MT.intro m_X11_strength rfl (Nat.le_of_ble_eq_true rfl) ?_
  show WQ G (d + 2) Y_X11_strength _ 0 [(0, .ref 72), (1, .int v), (2, .int x)] [] (I, L, RR b)
  refine wp_aload_n rfl rfl ?_
  refine wp_iconst (v := 0) rfl rfl ?_
  refine q_puti rfl rfl (by first | rfl | assumption) (Or.inl rfl) rfl ?_
  refine wp_aload_n rfl rfl ?_
  refine wp_iload_n rfl rfl ?_
  refine cV1 rfl l_11_162 i_X11_isArea m_X11_isArea (by first | rfl | assumption) (by decide) (c_X11_isArea G _ _ _ _ _) rfl (Nat.le_of_ble_eq_true rfl) ?_
  refine wp_if_eq 28 rfl rfl (fun h6 => ?_) (fun h6 => ?_)
  · refine wp_bipush (v := (-2)) rfl rfl ?_
    exact wp_iret rfl rfl (⟨by first | (rw [es _ _ hm ha16]; grind [b2]) | grind [b2], rfl⟩)
  · refine wp_aload_n rfl rfl ?_
    refine wp_iload_n rfl rfl ?_
    refine cV1 rfl l_11_165 i_X11_isMast m_X11_isMast (by first | rfl | assumption) (by decide) (c_X11_isMast G _ _ _ _ _) rfl (Nat.le_of_ble_eq_true rfl) ?_
    refine wp_if_ne 23 rfl rfl (fun h10 => ?_) (fun h10 => ?_)
    · have hx := iA.2.mp (b2_ne.mp h6)
      have hv : (0 ≤ v ∧ v < uI I 72 0 0 1 2) ∨ (10 ≤ v ∧ v - 10 < uI I 72 0 0 1 3) := by first | exact Or.inl (iM.2.mp (b2_ne.mp h10)) | exact Or.inr (iS.2.mp (b2_ne.mp h22))
      obtain ⟨m, hm, hvm, hcl, -⟩ := iS.1 hv
      obtain ⟨a, ha, hxa, hca⟩ := iA.1 hx
      have ha16 : a < 16 := by have := h.1.2.2.2.2; omega
      refine wp_aload_n rfl rfl ?_
      refine wp_iload_n rfl rfl ?_
      refine wp_iload_n rfl rfl ?_
      refine cV1 rfl l_11_172 i_X11_at m_X11_at (by first | rfl | assumption) (by decide) (d_at G _ _ h' hm ha16 hvm hxa) rfl (Nat.le_of_ble_eq_true rfl) ?_
      refine wp_goto 29 rfl rfl ?_
      exact wp_iret rfl rfl (⟨by first | (rw [es _ _ hm ha16]; grind [b2]) | grind [b2], rfl⟩)
    · refine wp_iload_n rfl rfl ?_
      refine wp_i2l rfl ?_
      refine wp_ldc2 (v := (10)) rfl cl_11_176 ?_
      refine wp_bipush (v := 10) rfl rfl ?_
      refine wp_aload_n rfl rfl ?_
      refine q_geti rfl rfl (by first | rfl | assumption) rfl ?_
      refine wp_iadd rfl ?_
      refine wp_iconst (v := 1) rfl rfl ?_
      refine wp_isub rfl ?_
      refine wp_i2l rfl ?_
      refine cS1 rfl l_11_119 s_X11_in m_X11_in (c_inI G _ _ 10 (10 + uI I 72 0 0 72 6 - 1) rfl rfl _) rfl (Nat.le_of_ble_eq_true rfl) ?_
      refine wp_if_eq 28 rfl rfl (fun h22 => ?_) (fun h22 => ?_)
      · refine wp_bipush (v := (-2)) rfl rfl ?_
        exact wp_iret rfl rfl (⟨by first | (rw [es _ _ hm ha16]; grind [b2]) | grind [b2], rfl⟩)
      · have hx := iA.2.mp (b2_ne.mp h6)
        have hv : (0 ≤ v ∧ v < uI I 72 0 0 1 2) ∨ (10 ≤ v ∧ v - 10 < uI I 72 0 0 1 3) := by first | exact Or.inl (iM.2.mp (b2_ne.mp h10)) | exact Or.inr (iS.2.mp (b2_ne.mp h22))
        obtain ⟨m, hm, hvm, hcl, -⟩ := iS.1 hv
        obtain ⟨a, ha, hxa, hca⟩ := iA.1 hx
        have ha16 : a < 16 := by have := h.1.2.2.2.2; omega
        refine wp_aload_n rfl rfl ?_
        refine wp_iload_n rfl rfl ?_
        refine wp_iload_n rfl rfl ?_
        refine cV1 rfl l_11_172 i_X11_at m_X11_at (by first | rfl | assumption) (by decide) (d_at G _ _ h' hm ha16 hvm hxa) rfl (Nat.le_of_ble_eq_true rfl) ?_
        refine wp_goto 29 rfl rfl ?_
        exact wp_iret rfl rfl (⟨by first | (rw [es _ _ hm ha16]; grind [b2]) | grind [b2], rfl⟩)
