/-! abroad, area, fail, channelOf, mastOf, areaOf, aim -/
theorem c_X10_abroad_ok (G : Gl) (d : Nat) {nm na nr : Nat} (x y p c u : Int32) (I : IF) (L : LF) (b : Bool) (h : IVc nm na nr I) (hS : ((0 ≤ x ∧ x ≤ 100) ∧ 0 ≤ y ∧ y ≤ 100) ∧ (1 ≤ p ∧ p ≤ 10000) ∧ 0 ≤ c ∧ c ≤ 11) (hF : 0 ≤ u ∧ u ≤ 52) (hn : na < 4) : MD G (d + 3) Y_X10_abroad [.ref 0, .int x, .int y, .int p, .int c, .int u] (I, L, RR b) (some (.int (nI na))) (uI (uI (uI (uI (uI (uI I (14 + na) 0 x) (14 + na) 1 y) (14 + na) 2 p) (14 + na) 5 c) (14 + na) 8 u) 1 3 (nI (na + 1)), L, RR b) := by
  have hI := h.2.1.1
  have hb' : nI na < 4 := nI_lt (a := na) (b := 4) hn (by omega)
  refine MT.intro m_X10_abroad rfl (Nat.le_of_ble_eq_true rfl) ?_
  show WQ G (d + 3) Y_X10_abroad _ 0 [(0, .ref 0), (1, .int x), (2, .int y), (3, .int p), (4, .int c), (5, .int u)] [] (I, L, RR b)
  refine wp_iload_n rfl rfl ?_
  refine wp_iload_n rfl rfl ?_
  refine wp_iload_n rfl rfl ?_
  refine wp_iload rfl rfl ?_
  refine cS1 rfl l_10_87 s_X10_isFitSender m_X10_isFitSender (c_X10_isFitSender G _ _ _ _ _ _) rfl (Nat.le_of_ble_eq_true rfl) ?_
  refine wp_if_eq 11 rfl rfl (fun h5 => ?_) (fun h5 => ?_)
  · exfalso; grind [b2]
  · refine wp_iload rfl rfl ?_
    refine wp_iconst (v := 0) rfl rfl ?_
    refine wp_bipush (v := 52) rfl rfl ?_
    refine cS1 rfl l_10_77 s_X10_isWithin m_X10_isWithin (c_X10_isWithin G _ _ _ _ _) rfl (Nat.le_of_ble_eq_true rfl) ?_
    refine wp_if_ne 13 rfl rfl (fun h10 => ?_) (fun h10 => ?_)
    · refine wp_aload_n rfl rfl ?_
      refine q_getr rfl rfl (by first | rfl | assumption) rfl rfl ?_
      refine q_geti rfl rfl (by first | rfl | assumption) rfl ?_
      refine wp_iconst (v := 4) rfl rfl ?_
      refine wp_icmp_lt 20 rfl rfl (fun h17 => ?_) (fun h17 => ?_)
      · have hsm := sh_mast (10 + na) (by omega)
        have hix : (10 : Int32) + I 1 3 = nI (10 + na) := by rw [hI]; exact nI_add 10 na
        refine wp_aload_n rfl rfl ?_
        refine q_getr rfl rfl (by first | rfl | assumption) rfl rfl ?_
        refine q_getr rfl rfl (by first | rfl | assumption) rfl rfl ?_
        refine wp_bipush (v := 10) rfl rfl ?_
        refine wp_aload_n rfl rfl ?_
        refine q_getr rfl rfl (by first | rfl | assumption) rfl rfl ?_
        refine q_geti rfl rfl (by first | rfl | assumption) rfl ?_
        refine wp_iadd rfl ?_
        refine q_mast rfl hix (by omega) ?_
        refine wp_astore (lv' := [(6, _), (0, _), (1, _), (2, _), (3, _), (4, _), (5, _)]) rfl (by decide) rfl ?_
        refine wp_aload rfl rfl ?_
        refine wp_iload_n rfl rfl ?_
        refine wp_iload_n rfl rfl ?_
        refine wp_iload_n rfl rfl ?_
        refine wp_iload rfl rfl ?_
        refine cV0 rfl l_10_102 i_X4_stand m_X4_stand (by first | rfl | assumption) (by decide) (c_X4_stand G _ _ _ _ _ _ _ _ _ hsm) rfl (Nat.le_of_ble_eq_true rfl) ?_
        refine wp_aload rfl rfl ?_
        refine wp_iload rfl rfl ?_
        refine q_puti rfl rfl (by first | rfl | assumption) (Or.inl rfl) rfl ?_
        refine wp_aload_n rfl rfl ?_
        refine q_getr rfl rfl (by first | rfl | assumption) rfl rfl ?_
        refine wp_dup rfl rfl ?_
        refine q_geti rfl rfl (by first | rfl | assumption) rfl ?_
        refine wp_iconst (v := 1) rfl rfl ?_
        refine wp_iadd rfl ?_
        refine q_puti rfl rfl (by first | rfl | assumption) (Or.inl rfl) rfl ?_
        refine wp_aload_n rfl rfl ?_
        refine q_getr rfl rfl (by first | rfl | assumption) rfl rfl ?_
        refine q_geti rfl rfl (by first | rfl | assumption) rfl ?_
        refine wp_iconst (v := 1) rfl rfl ?_
        refine wp_isub rfl ?_
        exact wp_iret rfl rfl (⟨by simp (disch := omega) only [uI_ne, uI_eq]; rw [hI, pm1], by rw [show 4 + (10 + na) = 14 + na by omega]; simp (disch := omega) only [uI_ne]; rw [hI, nI_1]⟩)
      · exfalso; grind [b2]
    · exfalso; grind [b2]
theorem c_X10_abroad_no (G : Gl) (d : Nat) (x y p c u : Int32) (I : IF) (L : LF) (b : Bool) (hno : ¬ ((((0 ≤ x ∧ x ≤ 100) ∧ 0 ≤ y ∧ y ≤ 100) ∧ (1 ≤ p ∧ p ≤ 10000) ∧ 0 ≤ c ∧ c ≤ 11) ∧ (0 ≤ u ∧ u ≤ 52) ∧ I 1 3 < 4)) : MD G (d + 3) Y_X10_abroad [.ref 0, .int x, .int y, .int p, .int c, .int u] (I, L, RR b) (some (.int (if (((0 ≤ x ∧ x ≤ 100) ∧ 0 ≤ y ∧ y ≤ 100) ∧ (1 ≤ p ∧ p ≤ 10000) ∧ 0 ≤ c ∧ c ≤ 11) ∧ (0 ≤ u ∧ u ≤ 52) then -3 else -2))) (I, L, RR b) := by
  refine MT.intro m_X10_abroad rfl (Nat.le_of_ble_eq_true rfl) ?_
  show WQ G (d + 3) Y_X10_abroad _ 0 [(0, .ref 0), (1, .int x), (2, .int y), (3, .int p), (4, .int c), (5, .int u)] [] (I, L, RR b)
  refine wp_iload_n rfl rfl ?_
  refine wp_iload_n rfl rfl ?_
  refine wp_iload_n rfl rfl ?_
  refine wp_iload rfl rfl ?_
  refine cS1 rfl l_10_87 s_X10_isFitSender m_X10_isFitSender (c_X10_isFitSender G _ _ _ _ _ _) rfl (Nat.le_of_ble_eq_true rfl) ?_
  refine wp_if_eq 11 rfl rfl (fun h5 => ?_) (fun h5 => ?_)
  · refine wp_bipush (v := (-2)) rfl rfl ?_
    exact wp_iret rfl rfl (⟨by grind (splits := 30) [b2], rfl⟩)
  · refine wp_iload rfl rfl ?_
    refine wp_iconst (v := 0) rfl rfl ?_
    refine wp_bipush (v := 52) rfl rfl ?_
    refine cS1 rfl l_10_77 s_X10_isWithin m_X10_isWithin (c_X10_isWithin G _ _ _ _ _) rfl (Nat.le_of_ble_eq_true rfl) ?_
    refine wp_if_ne 13 rfl rfl (fun h10 => ?_) (fun h10 => ?_)
    · refine wp_aload_n rfl rfl ?_
      refine q_getr rfl rfl (by first | rfl | assumption) rfl rfl ?_
      refine q_geti rfl rfl (by first | rfl | assumption) rfl ?_
      refine wp_iconst (v := 4) rfl rfl ?_
      refine wp_icmp_lt 20 rfl rfl (fun h17 => ?_) (fun h17 => ?_)
      · exfalso; grind (splits := 30) [b2]
      · refine wp_bipush (v := (-3)) rfl rfl ?_
        exact wp_iret rfl rfl (⟨by grind (splits := 30) [b2], rfl⟩)
    · refine wp_bipush (v := (-2)) rfl rfl ?_
      exact wp_iret rfl rfl (⟨by grind (splits := 30) [b2], rfl⟩)
theorem c_X11_abroad_ok (G : Gl) (d : Nat) {na : Nat} (x y p c u : Int32) (I : IF) (L : LF) (b : Bool) (h6 : I 72 6 = nI na) (hS : ((0 ≤ x ∧ x ≤ 100) ∧ 0 ≤ y ∧ y ≤ 100) ∧ (1 ≤ p ∧ p ≤ 10000) ∧ 0 ≤ c ∧ c ≤ 11) (hF : 0 ≤ u ∧ u ≤ 52) (hn : na < 4) : MD G (d + 2) Y_X11_abroad [.ref 72, .int x, .int y, .int p, .int c, .int u] (I, L, RR b) (some (.int (nI na))) (uI (uI (uI (uI (uI (uI (uI I 72 0 0) 77 (10 + na) x) 78 (10 + na) y) 79 (10 + na) p) 80 (10 + na) c) 82 na u) 72 6 (nI (na + 1)), L, RR b) := by
  have hb' : nI na < 4 := nI_lt (a := na) (b := 4) hn (by omega)
  have hcl : (nI na).toNatClampNeg = na := nI_clamp (by omega)
  have hcl2 : (nI (10 + na)).toNatClampNeg = 10 + na := nI_clamp (by omega)
  have hix : (10 : Int32) + I 72 6 = nI (10 + na) := by rw [h6]; exact nI_add 10 na
  refine MT.intro m_X11_abroad rfl (Nat.le_of_ble_eq_true rfl) ?_
  show WQ G (d + 2) Y_X11_abroad _ 0 [(0, .ref 72), (1, .int x), (2, .int y), (3, .int p), (4, .int c), (5, .int u)] [] (I, L, RR b)
  refine wp_aload_n rfl rfl ?_
  refine wp_iconst (v := 0) rfl rfl ?_
  refine q_puti rfl rfl (by first | rfl | assumption) (Or.inl rfl) rfl ?_
  refine wp_iload_n rfl rfl ?_
  refine wp_iload_n rfl rfl ?_
  refine wp_iload_n rfl rfl ?_
  refine wp_iload rfl rfl ?_
  refine cS1 rfl l_11_139 s_X11_isSender m_X11_isSender (c_X11_isSender G _ _ _ _ _ _) rfl (Nat.le_of_ble_eq_true rfl) ?_
  refine wp_if_eq 15 rfl rfl (fun h8 => ?_) (fun h8 => ?_)
  · exfalso; grind [b2]
  · refine wp_iload rfl rfl ?_
    refine wp_i2l rfl ?_
    refine wp_lconst (v := 0) rfl rfl ?_
    refine wp_ldc2 (v := (52)) rfl cl_11_152 ?_
    refine cS1 rfl l_11_119 s_X11_in m_X11_in (c_inI G _ _ 0 52 rfl rfl _) rfl (Nat.le_of_ble_eq_true rfl) ?_
    refine wp_if_ne 17 rfl rfl (fun h14 => ?_) (fun h14 => ?_)
    · refine wp_aload_n rfl rfl ?_
      refine q_geti rfl rfl (by first | rfl | assumption) rfl ?_
      refine wp_iconst (v := 4) rfl rfl ?_
      refine wp_icmp_ne 23 rfl rfl (fun h20 => ?_) (fun h20 => ?_)
      · refine wp_aload_n rfl rfl ?_
        refine wp_bipush (v := 10) rfl rfl ?_
        refine wp_aload_n rfl rfl ?_
        refine q_geti rfl rfl (by first | rfl | assumption) rfl ?_
        refine wp_iadd rfl ?_
        refine wp_iload_n rfl rfl ?_
        refine wp_iload_n rfl rfl ?_
        refine wp_iload_n rfl rfl ?_
        refine wp_iload rfl rfl ?_
        refine cV0 rfl l_11_148 i_X11_sender m_X11_sender (by first | rfl | assumption) (by decide) (c_X11_sender G _ _ _ _ _ _ _ _ _ (by show vp_in ((10 : Int32) + I 72 6) 14; rw [hix]; exact vp_in_nI (by omega) (by omega))) rfl (Nat.le_of_ble_eq_true rfl) ?_
        refine wp_aload_n rfl rfl ?_
        refine q_getr rfl rfl (by first | rfl | assumption) rfl rfl ?_
        refine wp_aload_n rfl rfl ?_
        refine q_geti rfl rfl (by first | rfl | assumption) rfl ?_
        refine wp_iload rfl rfl ?_
        refine q_iast rfl (by first | rfl | assumption) (by show vp_in (I 72 6) 4; rw [h6]; exact vp_in_nI (by omega) (by omega)) ?_
        refine wp_aload_n rfl rfl ?_
        refine wp_dup rfl rfl ?_
        refine q_geti rfl rfl (by first | rfl | assumption) rfl ?_
        refine wp_iconst (v := 1) rfl rfl ?_
        refine wp_iadd rfl ?_
        refine q_puti rfl rfl (by first | rfl | assumption) (Or.inl rfl) rfl ?_
        refine wp_aload_n rfl rfl ?_
        refine q_geti rfl rfl (by first | rfl | assumption) rfl ?_
        refine wp_iconst (v := 1) rfl rfl ?_
        refine wp_isub rfl ?_
        exact wp_iret rfl rfl (⟨by simp (disch := omega) only [uI_ne, uI_nk, uI_eq]; rw [h6, pm1], by simp (disch := omega) only [uI_ne, uI_nk]; rw [hix, hcl2, h6, nI_1, hcl]⟩)
      · exfalso; change I 72 6 = 4 at h20; grind [b2]
    · exfalso; grind [b2]
theorem c_X11_abroad_no (G : Gl) (d : Nat) (x y p c u : Int32) (I : IF) (L : LF) (b : Bool) (hno : ¬ ((((0 ≤ x ∧ x ≤ 100) ∧ 0 ≤ y ∧ y ≤ 100) ∧ (1 ≤ p ∧ p ≤ 10000) ∧ 0 ≤ c ∧ c ≤ 11) ∧ (0 ≤ u ∧ u ≤ 52) ∧ ¬ I 72 6 = 4)) : MD G (d + 2) Y_X11_abroad [.ref 72, .int x, .int y, .int p, .int c, .int u] (I, L, RR b) (some (.int (if (((0 ≤ x ∧ x ≤ 100) ∧ 0 ≤ y ∧ y ≤ 100) ∧ (1 ≤ p ∧ p ≤ 10000) ∧ 0 ≤ c ∧ c ≤ 11) ∧ (0 ≤ u ∧ u ≤ 52) then -3 else -2))) (uI I 72 0 0, L, RR b) := by
  refine MT.intro m_X11_abroad rfl (Nat.le_of_ble_eq_true rfl) ?_
  show WQ G (d + 2) Y_X11_abroad _ 0 [(0, .ref 72), (1, .int x), (2, .int y), (3, .int p), (4, .int c), (5, .int u)] [] (I, L, RR b)
  refine wp_aload_n rfl rfl ?_
  refine wp_iconst (v := 0) rfl rfl ?_
  refine q_puti rfl rfl (by first | rfl | assumption) (Or.inl rfl) rfl ?_
  refine wp_iload_n rfl rfl ?_
  refine wp_iload_n rfl rfl ?_
  refine wp_iload_n rfl rfl ?_
  refine wp_iload rfl rfl ?_
  refine cS1 rfl l_11_139 s_X11_isSender m_X11_isSender (c_X11_isSender G _ _ _ _ _ _) rfl (Nat.le_of_ble_eq_true rfl) ?_
  refine wp_if_eq 15 rfl rfl (fun h8 => ?_) (fun h8 => ?_)
  · refine wp_bipush (v := (-2)) rfl rfl ?_
    exact wp_iret rfl rfl (⟨by (try simp (disch := omega) only [uI_nk] at *); grind (splits := 30) [b2], rfl⟩)
  · refine wp_iload rfl rfl ?_
    refine wp_i2l rfl ?_
    refine wp_lconst (v := 0) rfl rfl ?_
    refine wp_ldc2 (v := (52)) rfl cl_11_152 ?_
    refine cS1 rfl l_11_119 s_X11_in m_X11_in (c_inI G _ _ 0 52 rfl rfl _) rfl (Nat.le_of_ble_eq_true rfl) ?_
    refine wp_if_ne 17 rfl rfl (fun h14 => ?_) (fun h14 => ?_)
    · refine wp_aload_n rfl rfl ?_
      refine q_geti rfl rfl (by first | rfl | assumption) rfl ?_
      refine wp_iconst (v := 4) rfl rfl ?_
      refine wp_icmp_ne 23 rfl rfl (fun h20 => ?_) (fun h20 => ?_)
      · exfalso; (try simp (disch := omega) only [uI_nk] at *); grind (splits := 30) [b2]
      · refine wp_bipush (v := (-3)) rfl rfl ?_
        exact wp_iret rfl rfl (⟨by (try simp (disch := omega) only [uI_nk] at *); grind (splits := 30) [b2], rfl⟩)
    · refine wp_bipush (v := (-2)) rfl rfl ?_
      exact wp_iret rfl rfl (⟨by (try simp (disch := omega) only [uI_nk] at *); grind (splits := 30) [b2], rfl⟩)
theorem s_abroad {G : Gl} {d : Nat} {I : IF} {L : LF} {b : Bool} (x y p c u : Int32) (h : InvA I L) : StepA G (d + 3) Y_X10_abroad Y_X11_abroad [.int x, .int y, .int p, .int c, .int u] I L b := by
  obtain ⟨nm, na, nr, h⟩ := h
  obtain ⟨a1, a2, a3, a4, a5, a6, a7, a8, a9, a10, a11⟩ := id h
  obtain ⟨q4, ⟨q1, q2, q3⟩, q5⟩ := a1
  have hb0 := (nI_b (n := na) (k := 4) q3 (by omega)).1
  have hb1 : nI na ≤ 4 := (nI_b (n := na) (k := 4) q3 (by omega)).2
  have hn2 : ¬ I 72 6 = 4 ↔ I 1 3 < 4 := by rw [q1, q2]; grind
  by_cases hok : ((((0 ≤ x ∧ x ≤ 100) ∧ 0 ≤ y ∧ y ≤ 100) ∧ (1 ≤ p ∧ p ≤ 10000) ∧ 0 ≤ c ∧ c ≤ 11) ∧ (0 ≤ u ∧ u ≤ 52) ∧ I 1 3 < 4)
  · obtain ⟨hS, hF, hn⟩ := hok
    have hna : na < 4 := (nI_ltI (a := na) (b := 4) (by omega) (by omega)).mp (by rw [← q1]; exact hn)
    have c1 := c_X10_abroad_ok G d x y p c u I L b h.1 hS hF hna
    generalize hJ : uI (uI (uI (uI (uI (uI I (14 + na) 0 x) (14 + na) 1 y) (14 + na) 2 p) (14 + na) 5 c) (14 + na) 8 u) 1 3 (nI (na + 1)) = J at c1
    have j1 : ∀ k, J 72 k = I 72 k := by intro k; rw [← hJ]; simp (disch := omega) only [uI_ne]
    have c2 := c_X11_abroad_ok G (d + 1) x y p c u J L b (by rw [j1, q2]) hS hF hna
    subst hJ
    refine ⟨_, _, _, _, _, c1, c2, ⟨nm, na + 1, nr, ⟨⟨?_, ?_, q4.2.2⟩, ⟨?_, ?_, by omega⟩, ?_, ?_, q5.2.2⟩, ?_, ?_, ?_, ?_, ?_, ?_, ?_, ?_, ?_, ?_⟩, ?_, ?_⟩
    · simp (disch := omega) only [uI_ne, uI_nk, uI_eq]; exact q4.1
    · simp (disch := omega) only [uI_ne, uI_nk, uI_eq]; exact q4.2.1
    · simp (disch := omega) only [uI_ne, uI_nk, uI_eq]
    · simp (disch := omega) only [uI_ne, uI_nk, uI_eq]
    · simp (disch := omega) only [uI_ne, uI_nk, uI_eq]; exact q5.1
    · simp (disch := omega) only [uI_ne, uI_nk, uI_eq]; exact q5.2.1
    · unfold IVs at a2 ⊢; simp (disch := omega) only [uI_ne, uI_nk, uI_eq]; exact a2
    · intro m hm
      by_cases e : m = 10 + na
      · subst e; rw [show 4 + (10 + na) = 14 + na by omega]; simp (disch := omega) only [uI_ne, uI_nk, uI_eq]; grind
      · simp (disch := omega) only [uI_ne, uI_nk, uI_eq]; exact a3 m hm
    · intro m hm; simp (disch := omega) only [uI_ne, uI_nk, uI_eq]; exact a4 m hm
    · intro m hm; have := q4.2.2; simp (disch := omega) only [uI_ne, uI_nk, uI_eq]; exact a5 m hm
    · intro m hm
      have z := a6 m hm
      by_cases e : m = na
      · subst e; simp (disch := omega) only [uI_ne, uI_nk, uI_eq]; grind
      · simp (disch := omega) only [uI_ne, uI_nk, uI_eq]; exact z
    · intro m hm; simp (disch := omega) only [uI_ne, uI_nk, uI_eq]; exact a7 m hm
    · intro m hm; simp (disch := omega) only [uI_ne, uI_nk, uI_eq]; exact a8 m hm
    · intro m hm; simp (disch := omega) only [uI_ne, uI_nk, uI_eq]; exact a9 m hm
    · unfold IVt at a10 ⊢; simp (disch := omega) only [uI_ne, uI_nk, uI_eq]; exact a10
    · intro m hm; simp (disch := omega) only [uI_ne, uI_nk, uI_eq]; exact a11 m hm
    · intro a ha; funext k; simp (disch := omega) only [uI_ne, uI_nk, uI_eq]
    · simp (disch := omega) only [uI_ne, uI_nk, uI_eq]
  · have c1 := c_X10_abroad_no G d x y p c u I L b hok
    have c2 := c_X11_abroad_no G (d + 1) x y p c u I L b (by rw [hn2]; exact hok)
    exact StepA.query h c1 c2
theorem c_X10_area_ok (G : Gl) (d : Nat) {nm na nr : Nat} (x y p c u : Int32) (I : IF) (L : LF) (b : Bool) (h : IVc nm na nr I) (hS : ((0 ≤ x ∧ x ≤ 100) ∧ 0 ≤ y ∧ y ≤ 100) ∧ (0 ≤ p ∧ p ≤ 100000) ∧ (0 ≤ c ∧ c ≤ p) ∧ 0 ≤ u ∧ u ≤ p) (hn : nr < 16) : MD G (d + 2) Y_X10_area [.ref 0, .int x, .int y, .int p, .int c, .int u] (I, L, RR b) (some (.int (nI nr))) (uI (uI (uI (uI (uI (uI I (18 + nr) 0 x) (18 + nr) 1 y) (18 + nr) 2 p) (18 + nr) 3 c) (18 + nr) 4 u) 1 4 (nI (nr + 1)), L, RR b) := by
  have hI := h.2.2.1
  have hb' : nI nr < 16 := nI_lt (a := nr) (b := 16) hn (by omega)
  refine MT.intro m_X10_area rfl (Nat.le_of_ble_eq_true rfl) ?_
  show WQ G (d + 2) Y_X10_area _ 0 [(0, .ref 0), (1, .int x), (2, .int y), (3, .int p), (4, .int c), (5, .int u)] [] (I, L, RR b)
  refine wp_iload_n rfl rfl ?_
  refine wp_iload_n rfl rfl ?_
  refine cS1 rfl l_10_120 s_X10_isPlace m_X10_isPlace (c_X10_isPlace G _ _ _ _) rfl (Nat.le_of_ble_eq_true rfl) ?_
  refine wp_if_eq 9 rfl rfl (fun h3 => ?_) (fun h3 => ?_)
  · exfalso; grind [b2]
  · refine wp_iload_n rfl rfl ?_
    refine wp_iconst (v := 0) rfl rfl ?_
    refine wp_ldc (v := (100000)) rfl ci_10_124 ?_
    refine cS1 rfl l_10_77 s_X10_isWithin m_X10_isWithin (c_X10_isWithin G _ _ _ _ _) rfl (Nat.le_of_ble_eq_true rfl) ?_
    refine wp_if_ne 11 rfl rfl (fun h8 => ?_) (fun h8 => ?_)
    · refine wp_iload rfl rfl ?_
      refine wp_iconst (v := 0) rfl rfl ?_
      refine wp_iload_n rfl rfl ?_
      refine cS1 rfl l_10_77 s_X10_isWithin m_X10_isWithin (c_X10_isWithin G _ _ _ _ _) rfl (Nat.le_of_ble_eq_true rfl) ?_
      refine wp_if_eq 21 rfl rfl (fun h15 => ?_) (fun h15 => ?_)
      · exfalso; grind [b2]
      · refine wp_iload rfl rfl ?_
        refine wp_iconst (v := 0) rfl rfl ?_
        refine wp_iload_n rfl rfl ?_
        refine cS1 rfl l_10_77 s_X10_isWithin m_X10_isWithin (c_X10_isWithin G _ _ _ _ _) rfl (Nat.le_of_ble_eq_true rfl) ?_
        refine wp_if_ne 23 rfl rfl (fun h20 => ?_) (fun h20 => ?_)
        · refine wp_aload_n rfl rfl ?_
          refine q_getr rfl rfl (by first | rfl | assumption) rfl rfl ?_
          refine q_geti rfl rfl (by first | rfl | assumption) rfl ?_
          refine wp_bipush (v := 16) rfl rfl ?_
          refine wp_icmp_lt 30 rfl rfl (fun h27 => ?_) (fun h27 => ?_)
          · have hsm := sh_area nr (by omega)
            refine wp_aload_n rfl rfl ?_
            refine q_getr rfl rfl (by first | rfl | assumption) rfl rfl ?_
            refine q_getr rfl rfl (by first | rfl | assumption) rfl rfl ?_
            refine wp_aload_n rfl rfl ?_
            refine q_getr rfl rfl (by first | rfl | assumption) rfl rfl ?_
            refine q_geti rfl rfl (by first | rfl | assumption) rfl ?_
            refine q_area rfl hI (by omega) ?_
            refine wp_astore (lv' := [(6, _), (0, _), (1, _), (2, _), (3, _), (4, _), (5, _)]) rfl (by decide) rfl ?_
            refine wp_aload rfl rfl ?_
            refine wp_iload_n rfl rfl ?_
            refine q_puti rfl rfl (by first | rfl | assumption) (Or.inl rfl) rfl ?_
            refine wp_aload rfl rfl ?_
            refine wp_iload_n rfl rfl ?_
            refine q_puti rfl rfl (by first | rfl | assumption) (Or.inl rfl) rfl ?_
            refine wp_aload rfl rfl ?_
            refine wp_iload_n rfl rfl ?_
            refine q_puti rfl rfl (by first | rfl | assumption) (Or.inl rfl) rfl ?_
            refine wp_aload rfl rfl ?_
            refine wp_iload rfl rfl ?_
            refine q_puti rfl rfl (by first | rfl | assumption) (Or.inl rfl) rfl ?_
            refine wp_aload rfl rfl ?_
            refine wp_iload rfl rfl ?_
            refine q_puti rfl rfl (by first | rfl | assumption) (Or.inl rfl) rfl ?_
            refine wp_aload_n rfl rfl ?_
            refine q_getr rfl rfl (by first | rfl | assumption) rfl rfl ?_
            refine wp_dup rfl rfl ?_
            refine q_geti rfl rfl (by first | rfl | assumption) rfl ?_
            refine wp_iconst (v := 1) rfl rfl ?_
            refine wp_iadd rfl ?_
            refine q_puti rfl rfl (by first | rfl | assumption) (Or.inl rfl) rfl ?_
            refine wp_aload_n rfl rfl ?_
            refine q_getr rfl rfl (by first | rfl | assumption) rfl rfl ?_
            refine q_geti rfl rfl (by first | rfl | assumption) rfl ?_
            refine wp_iconst (v := 1) rfl rfl ?_
            refine wp_isub rfl ?_
            exact wp_iret rfl rfl (⟨by simp (disch := omega) only [uI_ne, uI_eq]; rw [hI, pm1], by simp (disch := omega) only [uI_ne]; rw [hI, nI_1]⟩)
          · exfalso; grind [b2]
        · exfalso; grind [b2]
    · exfalso; grind [b2]
theorem c_X10_area_no (G : Gl) (d : Nat) (x y p c u : Int32) (I : IF) (L : LF) (b : Bool) (hno : ¬ ((((0 ≤ x ∧ x ≤ 100) ∧ 0 ≤ y ∧ y ≤ 100) ∧ (0 ≤ p ∧ p ≤ 100000) ∧ (0 ≤ c ∧ c ≤ p) ∧ 0 ≤ u ∧ u ≤ p) ∧ I 1 4 < 16)) : MD G (d + 2) Y_X10_area [.ref 0, .int x, .int y, .int p, .int c, .int u] (I, L, RR b) (some (.int (if (((0 ≤ x ∧ x ≤ 100) ∧ 0 ≤ y ∧ y ≤ 100) ∧ (0 ≤ p ∧ p ≤ 100000) ∧ (0 ≤ c ∧ c ≤ p) ∧ 0 ≤ u ∧ u ≤ p) then -3 else -2))) (I, L, RR b) := by
  refine MT.intro m_X10_area rfl (Nat.le_of_ble_eq_true rfl) ?_
  show WQ G (d + 2) Y_X10_area _ 0 [(0, .ref 0), (1, .int x), (2, .int y), (3, .int p), (4, .int c), (5, .int u)] [] (I, L, RR b)
  refine wp_iload_n rfl rfl ?_
  refine wp_iload_n rfl rfl ?_
  refine cS1 rfl l_10_120 s_X10_isPlace m_X10_isPlace (c_X10_isPlace G _ _ _ _) rfl (Nat.le_of_ble_eq_true rfl) ?_
  refine wp_if_eq 9 rfl rfl (fun h3 => ?_) (fun h3 => ?_)
  · refine wp_bipush (v := (-2)) rfl rfl ?_
    exact wp_iret rfl rfl (⟨by grind (splits := 30) [b2], rfl⟩)
  · refine wp_iload_n rfl rfl ?_
    refine wp_iconst (v := 0) rfl rfl ?_
    refine wp_ldc (v := (100000)) rfl ci_10_124 ?_
    refine cS1 rfl l_10_77 s_X10_isWithin m_X10_isWithin (c_X10_isWithin G _ _ _ _ _) rfl (Nat.le_of_ble_eq_true rfl) ?_
    refine wp_if_ne 11 rfl rfl (fun h8 => ?_) (fun h8 => ?_)
    · refine wp_iload rfl rfl ?_
      refine wp_iconst (v := 0) rfl rfl ?_
      refine wp_iload_n rfl rfl ?_
      refine cS1 rfl l_10_77 s_X10_isWithin m_X10_isWithin (c_X10_isWithin G _ _ _ _ _) rfl (Nat.le_of_ble_eq_true rfl) ?_
      refine wp_if_eq 21 rfl rfl (fun h15 => ?_) (fun h15 => ?_)
      · refine wp_bipush (v := (-2)) rfl rfl ?_
        exact wp_iret rfl rfl (⟨by grind (splits := 30) [b2], rfl⟩)
      · refine wp_iload rfl rfl ?_
        refine wp_iconst (v := 0) rfl rfl ?_
        refine wp_iload_n rfl rfl ?_
        refine cS1 rfl l_10_77 s_X10_isWithin m_X10_isWithin (c_X10_isWithin G _ _ _ _ _) rfl (Nat.le_of_ble_eq_true rfl) ?_
        refine wp_if_ne 23 rfl rfl (fun h20 => ?_) (fun h20 => ?_)
        · refine wp_aload_n rfl rfl ?_
          refine q_getr rfl rfl (by first | rfl | assumption) rfl rfl ?_
          refine q_geti rfl rfl (by first | rfl | assumption) rfl ?_
          refine wp_bipush (v := 16) rfl rfl ?_
          refine wp_icmp_lt 30 rfl rfl (fun h27 => ?_) (fun h27 => ?_)
          · exfalso; grind (splits := 30) [b2]
          · refine wp_bipush (v := (-3)) rfl rfl ?_
            exact wp_iret rfl rfl (⟨by grind (splits := 30) [b2], rfl⟩)
        · refine wp_bipush (v := (-2)) rfl rfl ?_
          exact wp_iret rfl rfl (⟨by grind (splits := 30) [b2], rfl⟩)
    · refine wp_bipush (v := (-2)) rfl rfl ?_
      exact wp_iret rfl rfl (⟨by grind (splits := 30) [b2], rfl⟩)
theorem c_X11_area_ok (G : Gl) (d : Nat) {nr : Nat} (x y p c u : Int32) (I : IF) (L : LF) (b : Bool) (h7 : I 72 7 = nI nr) (hS : ((0 ≤ x ∧ x ≤ 100) ∧ 0 ≤ y ∧ y ≤ 100) ∧ (0 ≤ p ∧ p ≤ 100000) ∧ (0 ≤ c ∧ c ≤ p) ∧ 0 ≤ u ∧ u ≤ p) (hn : nr < 16) : MD G (d + 1) Y_X11_area [.ref 72, .int x, .int y, .int p, .int c, .int u] (I, L, RR b) (some (.int (nI nr))) (uI (uI (uI (uI (uI (uI (uI (uI I 72 0 0) 86 nr x) 87 nr y) 88 nr p) 89 nr c) 90 nr u) 92 nr (-1)) 72 7 (nI (nr + 1)), L, RR b) := by
  have hb' : nI nr < 16 := nI_lt (a := nr) (b := 16) hn (by omega)
  have hcl : (nI nr).toNatClampNeg = nr := nI_clamp (by omega)
  have hin : vp_in (I 72 7) 16 := by rw [h7]; exact vp_in_nI (by omega) (by omega)
  refine MT.intro m_X11_area rfl (Nat.le_of_ble_eq_true rfl) ?_
  show WQ G (d + 1) Y_X11_area _ 0 [(0, .ref 72), (1, .int x), (2, .int y), (3, .int p), (4, .int c), (5, .int u)] [] (I, L, RR b)
  refine wp_aload_n rfl rfl ?_
  refine wp_iconst (v := 0) rfl rfl ?_
  refine q_puti rfl rfl (by first | rfl | assumption) (Or.inl rfl) rfl ?_
  refine wp_iload_n rfl rfl ?_
  refine wp_i2l rfl ?_
  refine wp_lconst (v := 0) rfl rfl ?_
  refine wp_ldc2 (v := (100)) rfl cl_11_133 ?_
  refine cS1 rfl l_11_119 s_X11_in m_X11_in (c_inI G _ _ 0 100 rfl rfl _) rfl (Nat.le_of_ble_eq_true rfl) ?_
  refine wp_if_eq 35 rfl rfl (fun h8 => ?_) (fun h8 => ?_)
  · exfalso; grind [b2]
  · refine wp_iload_n rfl rfl ?_
    refine wp_i2l rfl ?_
    refine wp_lconst (v := 0) rfl rfl ?_
    refine wp_ldc2 (v := (100)) rfl cl_11_133 ?_
    refine cS1 rfl l_11_119 s_X11_in m_X11_in (c_inI G _ _ 0 100 rfl rfl _) rfl (Nat.le_of_ble_eq_true rfl) ?_
    refine wp_if_eq 35 rfl rfl (fun h14 => ?_) (fun h14 => ?_)
    · exfalso; grind [b2]
    · refine wp_iload_n rfl rfl ?_
      refine wp_i2l rfl ?_
      refine wp_lconst (v := 0) rfl rfl ?_
      refine wp_ldc2 (v := (100000)) rfl cl_11_157 ?_
      refine cS1 rfl l_11_119 s_X11_in m_X11_in (c_inI G _ _ 0 100000 rfl rfl _) rfl (Nat.le_of_ble_eq_true rfl) ?_
      refine wp_if_eq 35 rfl rfl (fun h20 => ?_) (fun h20 => ?_)
      · exfalso; grind [b2]
      · refine wp_iload rfl rfl ?_
        refine wp_i2l rfl ?_
        refine wp_lconst (v := 0) rfl rfl ?_
        refine wp_iload_n rfl rfl ?_
        refine wp_i2l rfl ?_
        refine cS1 rfl l_11_119 s_X11_in m_X11_in (c_inI G _ _ 0 p rfl rfl _) rfl (Nat.le_of_ble_eq_true rfl) ?_
        refine wp_if_eq 35 rfl rfl (fun h27 => ?_) (fun h27 => ?_)
        · exfalso; grind [b2]
        · refine wp_iload rfl rfl ?_
          refine wp_i2l rfl ?_
          refine wp_lconst (v := 0) rfl rfl ?_
          refine wp_iload_n rfl rfl ?_
          refine wp_i2l rfl ?_
          refine cS1 rfl l_11_119 s_X11_in m_X11_in (c_inI G _ _ 0 p rfl rfl _) rfl (Nat.le_of_ble_eq_true rfl) ?_
          refine wp_if_ne 37 rfl rfl (fun h34 => ?_) (fun h34 => ?_)
          · refine wp_aload_n rfl rfl ?_
            refine q_geti rfl rfl (by first | rfl | assumption) rfl ?_
            refine wp_bipush (v := 16) rfl rfl ?_
            refine wp_icmp_ne 43 rfl rfl (fun h40 => ?_) (fun h40 => ?_)
            · refine wp_aload_n rfl rfl ?_
              refine q_getr rfl rfl (by first | rfl | assumption) rfl rfl ?_
              refine wp_aload_n rfl rfl ?_
              refine q_geti rfl rfl (by first | rfl | assumption) rfl ?_
              refine wp_iload_n rfl rfl ?_
              refine q_iast rfl (by first | rfl | assumption) (by exact hin) ?_
              refine wp_aload_n rfl rfl ?_
              refine q_getr rfl rfl (by first | rfl | assumption) rfl rfl ?_
              refine wp_aload_n rfl rfl ?_
              refine q_geti rfl rfl (by first | rfl | assumption) rfl ?_
              refine wp_iload_n rfl rfl ?_
              refine q_iast rfl (by first | rfl | assumption) (by exact hin) ?_
              refine wp_aload_n rfl rfl ?_
              refine q_getr rfl rfl (by first | rfl | assumption) rfl rfl ?_
              refine wp_aload_n rfl rfl ?_
              refine q_geti rfl rfl (by first | rfl | assumption) rfl ?_
              refine wp_iload_n rfl rfl ?_
              refine q_iast rfl (by first | rfl | assumption) (by exact hin) ?_
              refine wp_aload_n rfl rfl ?_
              refine q_getr rfl rfl (by first | rfl | assumption) rfl rfl ?_
              refine wp_aload_n rfl rfl ?_
              refine q_geti rfl rfl (by first | rfl | assumption) rfl ?_
              refine wp_iload rfl rfl ?_
              refine q_iast rfl (by first | rfl | assumption) (by exact hin) ?_
              refine wp_aload_n rfl rfl ?_
              refine q_getr rfl rfl (by first | rfl | assumption) rfl rfl ?_
              refine wp_aload_n rfl rfl ?_
              refine q_geti rfl rfl (by first | rfl | assumption) rfl ?_
              refine wp_iload rfl rfl ?_
              refine q_iast rfl (by first | rfl | assumption) (by exact hin) ?_
              refine wp_aload_n rfl rfl ?_
              refine q_getr rfl rfl (by first | rfl | assumption) rfl rfl ?_
              refine wp_aload_n rfl rfl ?_
              refine q_geti rfl rfl (by first | rfl | assumption) rfl ?_
              refine wp_iconst (v := (-1)) rfl rfl ?_
              refine q_iast rfl (by first | rfl | assumption) (by exact hin) ?_
              refine wp_aload_n rfl rfl ?_
              refine wp_dup rfl rfl ?_
              refine q_geti rfl rfl (by first | rfl | assumption) rfl ?_
              refine wp_iconst (v := 1) rfl rfl ?_
              refine wp_iadd rfl ?_
              refine q_puti rfl rfl (by first | rfl | assumption) (Or.inl rfl) rfl ?_
              refine wp_aload_n rfl rfl ?_
              refine q_geti rfl rfl (by first | rfl | assumption) rfl ?_
              refine wp_iconst (v := 1) rfl rfl ?_
              refine wp_isub rfl ?_
              exact wp_iret rfl rfl (⟨by simp (disch := omega) only [uI_ne, uI_nk, uI_eq]; rw [h7, pm1], by simp (disch := omega) only [uI_ne, uI_nk]; rw [h7, nI_1, hcl]⟩)
            · exfalso; change I 72 7 = 16 at h40; grind [b2]
          · exfalso; grind [b2]
theorem c_X11_area_no (G : Gl) (d : Nat) (x y p c u : Int32) (I : IF) (L : LF) (b : Bool) (hno : ¬ ((((0 ≤ x ∧ x ≤ 100) ∧ 0 ≤ y ∧ y ≤ 100) ∧ (0 ≤ p ∧ p ≤ 100000) ∧ (0 ≤ c ∧ c ≤ p) ∧ 0 ≤ u ∧ u ≤ p) ∧ ¬ I 72 7 = 16)) : MD G (d + 1) Y_X11_area [.ref 72, .int x, .int y, .int p, .int c, .int u] (I, L, RR b) (some (.int (if (((0 ≤ x ∧ x ≤ 100) ∧ 0 ≤ y ∧ y ≤ 100) ∧ (0 ≤ p ∧ p ≤ 100000) ∧ (0 ≤ c ∧ c ≤ p) ∧ 0 ≤ u ∧ u ≤ p) then -3 else -2))) (uI I 72 0 0, L, RR b) := by
  refine MT.intro m_X11_area rfl (Nat.le_of_ble_eq_true rfl) ?_
  show WQ G (d + 1) Y_X11_area _ 0 [(0, .ref 72), (1, .int x), (2, .int y), (3, .int p), (4, .int c), (5, .int u)] [] (I, L, RR b)
  refine wp_aload_n rfl rfl ?_
  refine wp_iconst (v := 0) rfl rfl ?_
  refine q_puti rfl rfl (by first | rfl | assumption) (Or.inl rfl) rfl ?_
  refine wp_iload_n rfl rfl ?_
  refine wp_i2l rfl ?_
  refine wp_lconst (v := 0) rfl rfl ?_
  refine wp_ldc2 (v := (100)) rfl cl_11_133 ?_
  refine cS1 rfl l_11_119 s_X11_in m_X11_in (c_inI G _ _ 0 100 rfl rfl _) rfl (Nat.le_of_ble_eq_true rfl) ?_
  refine wp_if_eq 35 rfl rfl (fun h8 => ?_) (fun h8 => ?_)
  · refine wp_bipush (v := (-2)) rfl rfl ?_
    exact wp_iret rfl rfl (⟨by (try simp (disch := omega) only [uI_nk] at *); grind (splits := 30) [b2], rfl⟩)
  · refine wp_iload_n rfl rfl ?_
    refine wp_i2l rfl ?_
    refine wp_lconst (v := 0) rfl rfl ?_
    refine wp_ldc2 (v := (100)) rfl cl_11_133 ?_
    refine cS1 rfl l_11_119 s_X11_in m_X11_in (c_inI G _ _ 0 100 rfl rfl _) rfl (Nat.le_of_ble_eq_true rfl) ?_
    refine wp_if_eq 35 rfl rfl (fun h14 => ?_) (fun h14 => ?_)
    · refine wp_bipush (v := (-2)) rfl rfl ?_
      exact wp_iret rfl rfl (⟨by (try simp (disch := omega) only [uI_nk] at *); grind (splits := 30) [b2], rfl⟩)
    · refine wp_iload_n rfl rfl ?_
      refine wp_i2l rfl ?_
      refine wp_lconst (v := 0) rfl rfl ?_
      refine wp_ldc2 (v := (100000)) rfl cl_11_157 ?_
      refine cS1 rfl l_11_119 s_X11_in m_X11_in (c_inI G _ _ 0 100000 rfl rfl _) rfl (Nat.le_of_ble_eq_true rfl) ?_
      refine wp_if_eq 35 rfl rfl (fun h20 => ?_) (fun h20 => ?_)
      · refine wp_bipush (v := (-2)) rfl rfl ?_
        exact wp_iret rfl rfl (⟨by (try simp (disch := omega) only [uI_nk] at *); grind (splits := 30) [b2], rfl⟩)
      · refine wp_iload rfl rfl ?_
        refine wp_i2l rfl ?_
        refine wp_lconst (v := 0) rfl rfl ?_
        refine wp_iload_n rfl rfl ?_
        refine wp_i2l rfl ?_
        refine cS1 rfl l_11_119 s_X11_in m_X11_in (c_inI G _ _ 0 p rfl rfl _) rfl (Nat.le_of_ble_eq_true rfl) ?_
        refine wp_if_eq 35 rfl rfl (fun h27 => ?_) (fun h27 => ?_)
        · refine wp_bipush (v := (-2)) rfl rfl ?_
          exact wp_iret rfl rfl (⟨by (try simp (disch := omega) only [uI_nk] at *); grind (splits := 30) [b2], rfl⟩)
        · refine wp_iload rfl rfl ?_
          refine wp_i2l rfl ?_
          refine wp_lconst (v := 0) rfl rfl ?_
          refine wp_iload_n rfl rfl ?_
          refine wp_i2l rfl ?_
          refine cS1 rfl l_11_119 s_X11_in m_X11_in (c_inI G _ _ 0 p rfl rfl _) rfl (Nat.le_of_ble_eq_true rfl) ?_
          refine wp_if_ne 37 rfl rfl (fun h34 => ?_) (fun h34 => ?_)
          · refine wp_aload_n rfl rfl ?_
            refine q_geti rfl rfl (by first | rfl | assumption) rfl ?_
            refine wp_bipush (v := 16) rfl rfl ?_
            refine wp_icmp_ne 43 rfl rfl (fun h40 => ?_) (fun h40 => ?_)
            · exfalso; (try simp (disch := omega) only [uI_nk] at *); grind (splits := 30) [b2]
            · refine wp_bipush (v := (-3)) rfl rfl ?_
              exact wp_iret rfl rfl (⟨by (try simp (disch := omega) only [uI_nk] at *); grind (splits := 30) [b2], rfl⟩)
          · refine wp_bipush (v := (-2)) rfl rfl ?_
            exact wp_iret rfl rfl (⟨by (try simp (disch := omega) only [uI_nk] at *); grind (splits := 30) [b2], rfl⟩)
theorem s_area {G : Gl} {d : Nat} {I : IF} {L : LF} {b : Bool} (x y p c u : Int32) (h : InvA I L) : StepA G (d + 2) Y_X10_area Y_X11_area [.int x, .int y, .int p, .int c, .int u] I L b := by
  obtain ⟨nm, na, nr, h⟩ := h
  obtain ⟨a1, a2, a3, a4, a5, a6, a7, a8, a9, a10, a11⟩ := id h
  obtain ⟨q4, q5, ⟨q1, q2, q3⟩⟩ := a1
  have hb0 := (nI_b (n := nr) (k := 16) q3 (by omega)).1
  have hb1 : nI nr ≤ 16 := (nI_b (n := nr) (k := 16) q3 (by omega)).2
  have hn2 : ¬ I 72 7 = 16 ↔ I 1 4 < 16 := by rw [q1, q2]; grind
  by_cases hok : ((((0 ≤ x ∧ x ≤ 100) ∧ 0 ≤ y ∧ y ≤ 100) ∧ (0 ≤ p ∧ p ≤ 100000) ∧ (0 ≤ c ∧ c ≤ p) ∧ 0 ≤ u ∧ u ≤ p) ∧ I 1 4 < 16)
  · obtain ⟨hS, hn⟩ := hok
    have hna : nr < 16 := (nI_ltI (a := nr) (b := 16) (by omega) (by omega)).mp (by rw [← q1]; exact hn)
    have c1 := c_X10_area_ok G d x y p c u I L b h.1 hS hna
    generalize hJ : uI (uI (uI (uI (uI (uI I (18 + nr) 0 x) (18 + nr) 1 y) (18 + nr) 2 p) (18 + nr) 3 c) (18 + nr) 4 u) 1 4 (nI (nr + 1)) = J at c1
    have j1 : ∀ k, J 72 k = I 72 k := by intro k; rw [← hJ]; simp (disch := omega) only [uI_ne]
    have c2 := c_X11_area_ok G (d + 1) x y p c u J L b (by rw [j1, q2]) hS hna
    subst hJ
    have hz := a8 nr hna
    have hy := (a9 nr hna).2 (Nat.le_refl _)
    have hm0 := (nI_b (n := nm) (k := 10) q4.2.2 (by omega)).1
    refine ⟨_, _, _, _, _, c1, c2, ⟨nm, na, nr + 1, ⟨⟨?_, ?_, q4.2.2⟩, ⟨?_, ?_, q5.2.2⟩, ?_, ?_, by omega⟩, ?_, ?_, ?_, ?_, ?_, ?_, ?_, ?_, ?_, ?_⟩, ?_, ?_⟩
    · simp (disch := omega) only [uI_ne, uI_nk, uI_eq]; exact q4.1
    · simp (disch := omega) only [uI_ne, uI_nk, uI_eq]; exact q4.2.1
    · simp (disch := omega) only [uI_ne, uI_nk, uI_eq]; exact q5.1
    · simp (disch := omega) only [uI_ne, uI_nk, uI_eq]; exact q5.2.1
    · simp (disch := omega) only [uI_ne, uI_nk, uI_eq]
    · simp (disch := omega) only [uI_ne, uI_nk, uI_eq]
    · unfold IVs at a2 ⊢; simp (disch := omega) only [uI_ne, uI_nk, uI_eq]; exact a2
    · intro m hm; simp (disch := omega) only [uI_ne, uI_nk, uI_eq]; exact a3 m hm
    · intro m hm; simp (disch := omega) only [uI_ne, uI_nk, uI_eq]; exact a4 m hm
    · intro m hm; have := q4.2.2; simp (disch := omega) only [uI_ne, uI_nk, uI_eq]; exact a5 m hm
    · intro m hm; simp (disch := omega) only [uI_ne, uI_nk, uI_eq]; exact a6 m hm
    · intro m hm; simp (disch := omega) only [uI_ne, uI_nk, uI_eq]; exact a7 m hm
    · intro m hm
      by_cases e : m = nr
      · subst e; simp (disch := omega) only [uI_ne, uI_nk, uI_eq]; grind
      · simp (disch := omega) only [uI_ne, uI_nk, uI_eq]; exact a8 m hm
    · intro m hm
      have z := a9 m hm
      by_cases e : m = nr
      · subst e; simp (disch := omega) only [uI_ne, uI_nk, uI_eq]; grind
      · simp (disch := omega) only [uI_ne, uI_nk, uI_eq]; grind
    · unfold IVt at a10 ⊢; simp (disch := omega) only [uI_ne, uI_nk, uI_eq]; exact a10
    · intro m hm; simp (disch := omega) only [uI_ne, uI_nk, uI_eq]; exact a11 m hm
    · intro a ha; funext k; simp (disch := omega) only [uI_ne, uI_nk, uI_eq]
    · simp (disch := omega) only [uI_ne, uI_nk, uI_eq]
  · have c1 := c_X10_area_no G d x y p c u I L b hok
    have c2 := c_X11_area_no G (d + 1) x y p c u I L b (by rw [hn2]; exact hok)
    exact StepA.query h c1 c2
theorem c_X10_channelOf (G : Gl) (d : Nat) {nm na nr : Nat} (v : Int32) (I : IF) (L : LF) (b : Bool) (h : IVc nm na nr I) : MD G (d + 1) Y_X10_channelOf [.ref 0, .int v] (I, L, RR b) (some (.int (if 0 ≤ v ∧ v < I 1 2 then I (4 + v.toNatClampNeg) 6 else -2))) (I, L, RR b) := by
  refine MT.intro m_X10_channelOf rfl (Nat.le_of_ble_eq_true rfl) ?_
  show WQ G (d + 1) Y_X10_channelOf _ 0 [(0, .ref 0), (1, .int v)] [] (I, L, RR b)
  refine wp_aload_n rfl rfl ?_
  refine q_getr rfl rfl (by first | rfl | assumption) rfl rfl ?_
  refine wp_iload_n rfl rfl ?_
  refine cV1 rfl l_10_91 i_X1_isMast m_X1_isMast (by first | rfl | assumption) (by decide) (c_X1_isMast G _ _ _ _ _) rfl (Nat.le_of_ble_eq_true rfl) ?_
  refine wp_if_eq 12 rfl rfl (fun h4 => ?_) (fun h4 => ?_)
  · refine wp_bipush (v := (-2)) rfl rfl ?_
    exact wp_iret rfl rfl (⟨by grind [b2], rfl⟩)
  · have hv := b2_ne.mp h4
    obtain ⟨m, hm, hvm, hcl⟩ := (isM h v).1 hv
    have hm14 : m < 14 := by have := h.1.2.2; omega
    have hsm := sh_mast m hm14
    refine wp_aload_n rfl rfl ?_
    refine q_getr rfl rfl (by first | rfl | assumption) rfl rfl ?_
    refine q_getr rfl rfl (by first | rfl | assumption) rfl rfl ?_
    refine wp_iload_n rfl rfl ?_
    refine q_mast rfl hvm hm14 ?_
    refine q_geti rfl rfl (by first | rfl | assumption) rfl ?_
    refine wp_goto 13 rfl rfl ?_
    exact wp_iret rfl rfl (⟨by grind [b2], rfl⟩)
theorem c_X11_channelOf (G : Gl) (d : Nat) {nm na nr : Nat} (v : Int32) (I : IF) (L : LF) (b : Bool) (h : IVc nm na nr I) : MD G (d + 2) Y_X11_channelOf [.ref 72, .int v] (I, L, RR b) (some (.int (if 0 ≤ v ∧ v < I 1 2 then (if I 72 32 = 0 then -1 else I 95 v.toNatClampNeg) else -2))) (uI I 72 0 0, L, RR b) := by
  refine MT.intro m_X11_channelOf rfl (Nat.le_of_ble_eq_true rfl) ?_
  show WQ G (d + 2) Y_X11_channelOf _ 0 [(0, .ref 72), (1, .int v)] [] (I, L, RR b)
  refine wp_aload_n rfl rfl ?_
  refine wp_iconst (v := 0) rfl rfl ?_
  refine q_puti rfl rfl (by first | rfl | assumption) (Or.inl rfl) rfl ?_
  refine wp_aload_n rfl rfl ?_
  refine wp_iload_n rfl rfl ?_
  refine cV1 rfl l_11_165 i_X11_isMast m_X11_isMast (by first | rfl | assumption) (by decide) (c_X11_isMast G _ _ _ _ _) rfl (Nat.le_of_ble_eq_true rfl) ?_
  refine wp_if_ne 9 rfl rfl (fun h6 => ?_) (fun h6 => ?_)
  · refine wp_aload_n rfl rfl ?_
    refine q_geti rfl rfl (by first | rfl | assumption) rfl ?_
    refine wp_if_eq 17 rfl rfl (fun h11 => ?_) (fun h11 => ?_)
    · refine wp_iconst (v := (-1)) rfl rfl ?_
      exact wp_iret rfl rfl (⟨by have e := (isM h v).2; simp (disch := omega) only [uI_nk, uI_ne] at *; grind [b2], rfl⟩)
    · have hv := (isM h v).2.mp (b2_ne.mp h6)
      obtain ⟨m, hm, hvm, hcl⟩ := (isM h v).1 hv
      have hin : vp_in v 10 := by rw [hvm]; exact vp_in_nI (by have := h.1.2.2; omega) (by omega)
      refine wp_aload_n rfl rfl ?_
      refine q_getr rfl rfl (by first | rfl | assumption) rfl rfl ?_
      refine wp_iload_n rfl rfl ?_
      refine q_iald rfl (by first | rfl | assumption) (by assumption) ?_
      refine wp_goto 18 rfl rfl ?_
      exact wp_iret rfl rfl (⟨by have e := (isM h v).2; simp (disch := omega) only [uI_nk, uI_ne] at *; grind [b2], rfl⟩)
  · refine wp_bipush (v := (-2)) rfl rfl ?_
    refine wp_goto 18 rfl rfl ?_
    exact wp_iret rfl rfl (⟨by have e := (isM h v).2; simp (disch := omega) only [uI_nk, uI_ne] at *; grind [b2], rfl⟩)
theorem s_channelOf {G : Gl} {d : Nat} {I : IF} {L : LF} {b : Bool} (v : Int32) (h : InvA I L) : StepA G (d + 2) Y_X10_channelOf Y_X11_channelOf [.int v] I L b := by
  obtain ⟨nm, na, nr, h⟩ := h
  have c1 := c_X10_channelOf G (d + 1) v I L b h.1
  have c2 := c_X11_channelOf G d v I L b h.1
  refine StepA.query h c1 ?_
  have e : (if 0 ≤ v ∧ v < I 1 2 then (if I 72 32 = 0 then -1 else I 95 v.toNatClampNeg) else -2) = (if 0 ≤ v ∧ v < I 1 2 then I (4 + v.toNatClampNeg) 6 else -2) := by
    by_cases hv : 0 ≤ v ∧ v < I 1 2
    · rw [if_pos hv, if_pos hv]
      obtain ⟨m, hm, -, hcl⟩ := (isM h.1 v).1 hv
      obtain ⟨t1, t2⟩ := h.2.1.2.2.2.2.2.1
      rw [hcl, t1]
      obtain ⟨-, -, p1, p2⟩ := h.2.2.2.2.2.2.1 m (by have := h.1.1.2.2; omega)
      split
      · next hz => rw [p2 (Or.inl hz)]
      · next hz => exact (p1 ⟨t2.resolve_left hz, hm⟩).1
    · rw [if_neg hv, if_neg hv]
  rw [e] at c2
  exact c2
