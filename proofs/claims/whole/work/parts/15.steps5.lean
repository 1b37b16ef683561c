/-! fail, aim, on -/
theorem s_strength {G : Gl} {d : Nat} {I : IF} {L : LF} {b : Bool} (v x : Int32) (h : InvA I L) : StepA G (d + 2) Y_X10_strength Y_X11_strength [.int v, .int x] I L b := by
  obtain ⟨nm, na, nr, h⟩ := h
  exact StepA.query h (c_X10_strength G d v x I L b h) (c_X11_strength G d v x I L b h)
theorem c_X10_fail_ok (G : Gl) (d : Nat) {nm na nr m : Nat} (z : Int32) (I : IF) (L : LF) (b : Bool) (h : IVc nm na nr I) (hm : m < nm) (hz : z = 0 ∨ z = 1) (hne : ¬ I (4 + m) 10 = z) : MD G (d + 1) Y_X10_fail [.ref 0, .int (nI m), .int z] (I, L, RR b) (some (.int 1)) (uI I (4 + m) 10 z, L, RR b) := by
  have hm10 : m < 10 := by have := h.1.2.2; omega
  have hsm := sh_mast m (by omega)
  have hlt : (0 : Int32) ≤ nI m ∧ nI m < I 1 2 := ⟨nI_pos' (by omega), by rw [h.1.1]; exact nI_lt hm (by have := h.1.2.2; omega)⟩
  refine MT.intro m_X10_fail rfl (Nat.le_of_ble_eq_true rfl) ?_
  show WQ G (d + 1) Y_X10_fail _ 0 [(0, .ref 0), (1, .int (nI m)), (2, .int z)] [] (I, L, RR b)
  refine wp_aload_n rfl rfl ?_
  refine q_getr rfl rfl (by first | rfl | assumption) rfl rfl ?_
  refine wp_iload_n rfl rfl ?_
  refine cV1 rfl l_10_91 i_X1_isMast m_X1_isMast (by first | rfl | assumption) (by decide) (c_X1_isMast G _ _ _ _ _) rfl (Nat.le_of_ble_eq_true rfl) ?_
  refine wp_if_eq 13 rfl rfl (fun h4 => ?_) (fun h4 => ?_)
  · exfalso; grind [b2]
  · refine wp_aload_n rfl rfl ?_
    refine q_getr rfl rfl (by first | rfl | assumption) rfl rfl ?_
    refine q_getr rfl rfl (by first | rfl | assumption) rfl rfl ?_
    refine wp_iload_n rfl rfl ?_
    refine q_mast rfl rfl (by omega) ?_
    refine q_geti rfl rfl (by first | rfl | assumption) rfl ?_
    refine wp_iload_n rfl rfl ?_
    refine wp_icmp_ne 15 rfl rfl (fun h12 => ?_) (fun h12 => ?_)
    · refine wp_aload_n rfl rfl ?_
      refine q_getr rfl rfl (by first | rfl | assumption) rfl rfl ?_
      refine q_getr rfl rfl (by first | rfl | assumption) rfl rfl ?_
      refine wp_iload_n rfl rfl ?_
      refine q_mast rfl rfl (by omega) ?_
      refine wp_iload_n rfl rfl ?_
      refine q_putz rfl rfl (by first | rfl | assumption) (Or.inl rfl) rfl (by assumption) ?_
      refine wp_iconst (v := 1) rfl rfl ?_
      exact wp_zret rfl rfl (by first | rfl | exact nb2 _ | assumption) (⟨rfl, rfl⟩)
    · exfalso; grind [b2]
theorem c_X10_fail_no (G : Gl) (d : Nat) {nm na nr : Nat} (v z : Int32) (I : IF) (L : LF) (b : Bool) (h : IVc nm na nr I) (hno : (0 ≤ v ∧ v < I 1 2) → I (4 + v.toNatClampNeg) 10 = z) : MD G (d + 1) Y_X10_fail [.ref 0, .int v, .int z] (I, L, RR b) (some (.int 0)) (I, L, RR b) := by
  refine MT.intro m_X10_fail rfl (Nat.le_of_ble_eq_true rfl) ?_
  show WQ G (d + 1) Y_X10_fail _ 0 [(0, .ref 0), (1, .int v), (2, .int z)] [] (I, L, RR b)
  refine wp_aload_n rfl rfl ?_
  refine q_getr rfl rfl (by first | rfl | assumption) rfl rfl ?_
  refine wp_iload_n rfl rfl ?_
  refine cV1 rfl l_10_91 i_X1_isMast m_X1_isMast (by first | rfl | assumption) (by decide) (c_X1_isMast G _ _ _ _ _) rfl (Nat.le_of_ble_eq_true rfl) ?_
  refine wp_if_eq 13 rfl rfl (fun h4 => ?_) (fun h4 => ?_)
  · refine wp_iconst (v := 0) rfl rfl ?_
    exact wp_zret rfl rfl (by first | rfl | exact nb2 _ | assumption) (⟨rfl, rfl⟩)
  · have hv := b2_ne.mp h4
    obtain ⟨m, hm, hvm, hcl⟩ := (isM h v).1 hv
    have hm14 : m < 14 := by have := h.1.2.2; omega
    have hsm := sh_mast m hm14
    refine wp_aload_n rfl rfl ?_
    refine q_getr rfl rfl (by first | rfl | assumption) rfl rfl ?_
    refine q_getr rfl rfl (by first | rfl | assumption) rfl rfl ?_
    refine wp_iload_n rfl rfl ?_
    refine q_mast rfl hvm hm14 ?_
    refine q_geti rfl rfl (by first | rfl | assumption) rfl ?_
    refine wp_iload_n rfl rfl ?_
    refine wp_icmp_ne 15 rfl rfl (fun h12 => ?_) (fun h12 => ?_)
    · exfalso; grind [b2]
    · refine wp_iconst (v := 0) rfl rfl ?_
      exact wp_zret rfl rfl (by first | rfl | exact nb2 _ | assumption) (⟨rfl, rfl⟩)
theorem c_X11_fail_ok (G : Gl) (d : Nat) {nm na nr m : Nat} (z : Int32) (I : IF) (L : LF) (b : Bool) (h : IVc nm na nr I) (hm : m < nm) (hz : z = 0 ∨ z = 1) (hne : ¬ I 85 m = z) : MD G (d + 2) Y_X11_fail [.ref 72, .int (nI m), .int z] (I, L, RR b) (some (.int 1)) (uI (uI I 72 0 0) 85 m z, L, RR b) := by
  have hm10 : m < 10 := by have := h.1.2.2; omega
  have hlt := (isM h (nI m)).2.mpr ⟨nI_pos' (by omega), by rw [h.1.1]; exact nI_lt hm (by have := h.1.2.2; omega)⟩
  have hin : vp_in (nI m) 10 := vp_in_nI hm10 (by omega)
  have hcl : (nI m).toNatClampNeg = m := nI_clamp (by omega)
  refine MT.intro m_X11_fail rfl (Nat.le_of_ble_eq_true rfl) ?_
  show WQ G (d + 2) Y_X11_fail _ 0 [(0, .ref 72), (1, .int (nI m)), (2, .int z)] [] (I, L, RR b)
  refine wp_aload_n rfl rfl ?_
  refine wp_iconst (v := 0) rfl rfl ?_
  refine q_puti rfl rfl (by first | rfl | assumption) (Or.inl rfl) rfl ?_
  refine wp_aload_n rfl rfl ?_
  refine wp_iload_n rfl rfl ?_
  refine cV1 rfl l_11_165 i_X11_isMast m_X11_isMast (by first | rfl | assumption) (by decide) (c_X11_isMast G _ _ _ _ _) rfl (Nat.le_of_ble_eq_true rfl) ?_
  refine wp_if_eq 13 rfl rfl (fun h6 => ?_) (fun h6 => ?_)
  · exfalso; simp (disch := omega) only [uI_ne, uI_nk, hcl] at *; grind [b2]
  · refine wp_aload_n rfl rfl ?_
    refine q_getr rfl rfl (by first | rfl | assumption) rfl rfl ?_
    refine wp_iload_n rfl rfl ?_
    refine q_zald rfl (by first | rfl | assumption) (by assumption) ?_
    refine wp_iload_n rfl rfl ?_
    refine wp_icmp_ne 15 rfl rfl (fun h12 => ?_) (fun h12 => ?_)
    · refine wp_aload_n rfl rfl ?_
      refine q_getr rfl rfl (by first | rfl | assumption) rfl rfl ?_
      refine wp_iload_n rfl rfl ?_
      refine wp_iload_n rfl rfl ?_
      refine q_zast rfl (by first | rfl | assumption) (by assumption) ?_
      refine wp_iconst (v := 1) rfl rfl ?_
      exact wp_zret rfl rfl (by first | rfl | exact nb2 _ | assumption) (⟨rfl, by rw [hcl, nar01 hz]⟩)
    · exfalso; simp (disch := omega) only [uI_ne, uI_nk, hcl] at *; grind [b2]
theorem c_X11_fail_no (G : Gl) (d : Nat) {nm na nr : Nat} (v z : Int32) (I : IF) (L : LF) (b : Bool) (h : IVc nm na nr I) (hno : (0 ≤ v ∧ v < I 1 2) → I 85 v.toNatClampNeg = z) : MD G (d + 2) Y_X11_fail [.ref 72, .int v, .int z] (I, L, RR b) (some (.int 0)) (uI I 72 0 0, L, RR b) := by
  refine MT.intro m_X11_fail rfl (Nat.le_of_ble_eq_true rfl) ?_
  show WQ G (d + 2) Y_X11_fail _ 0 [(0, .ref 72), (1, .int v), (2, .int z)] [] (I, L, RR b)
  refine wp_aload_n rfl rfl ?_
  refine wp_iconst (v := 0) rfl rfl ?_
  refine q_puti rfl rfl (by first | rfl | assumption) (Or.inl rfl) rfl ?_
  refine wp_aload_n rfl rfl ?_
  refine wp_iload_n rfl rfl ?_
  refine cV1 rfl l_11_165 i_X11_isMast m_X11_isMast (by first | rfl | assumption) (by decide) (c_X11_isMast G _ _ _ _ _) rfl (Nat.le_of_ble_eq_true rfl) ?_
  refine wp_if_eq 13 rfl rfl (fun h6 => ?_) (fun h6 => ?_)
  · refine wp_iconst (v := 0) rfl rfl ?_
    exact wp_zret rfl rfl (by first | rfl | exact nb2 _ | assumption) (⟨rfl, rfl⟩)
  · have hv := (isM h v).2.mp (b2_ne.mp h6)
    obtain ⟨m, hm, hvm, hcl⟩ := (isM h v).1 hv
    have hin : vp_in v 10 := by rw [hvm]; exact vp_in_nI (by have := h.1.2.2; omega) (by omega)
    refine wp_aload_n rfl rfl ?_
    refine q_getr rfl rfl (by first | rfl | assumption) rfl rfl ?_
    refine wp_iload_n rfl rfl ?_
    refine q_zald rfl (by first | rfl | assumption) (by assumption) ?_
    refine wp_iload_n rfl rfl ?_
    refine wp_icmp_ne 15 rfl rfl (fun h12 => ?_) (fun h12 => ?_)
    · exfalso; simp (disch := omega) only [uI_ne] at *; grind [b2]
    · refine wp_iconst (v := 0) rfl rfl ?_
      exact wp_zret rfl rfl (by first | rfl | exact nb2 _ | assumption) (⟨rfl, rfl⟩)
theorem s_fail {G : Gl} {d : Nat} {I : IF} {L : LF} {b : Bool} (v z : Int32) (hz : z = 0 ∨ z = 1) (h : InvA I L) : StepA G (d + 2) Y_X10_fail Y_X11_fail [.int v, .int z] I L b := by
  obtain ⟨nm, na, nr, h⟩ := h
  by_cases hok : (0 ≤ v ∧ v < I 1 2) ∧ ¬ I (4 + v.toNatClampNeg) 10 = z
  · obtain ⟨hv, hne⟩ := hok
    obtain ⟨m, hm, rfl, hcl⟩ := (isM h.1 v).1 hv
    rw [hcl] at hne
    have hm10 : m < 10 := by have := h.1.1.2.2; omega
    obtain ⟨a1, a2, a3, a4, a5, a6, a7, a8, a9, a10, a11⟩ := id h
    have c1 := c_X10_fail_ok G (d + 1) z I L b h.1 hm hz hne
    have c2 := c_X11_fail_ok G d (nm := nm) (na := na) (nr := nr) (m := m) z (uI I (4 + m) 10 z) L b (by
      obtain ⟨⟨u1, u2, u3⟩, ⟨v1, v2, v3⟩, w1, w2, w3⟩ := a1
      refine ⟨⟨?_, ?_, u3⟩, ⟨?_, ?_, v3⟩, ?_, ?_, w3⟩ <;> simp (disch := omega) only [uI_ne] <;> assumption) hm hz (by simp (disch := omega) only [uI_ne]; rw [(a4 m hm10).2.2.1.1]; exact hne)
    refine ⟨_, _, _, _, _, c1, c2, ⟨nm, na, nr, ?_, ?_, ?_, ?_, ?_, ?_, ?_, ?_, ?_, ?_, ?_⟩, ?_, ?_⟩
    · unfold IVc at a1 ⊢; simp (disch := omega) only [uI_ne, uI_nk, uI_eq]; exact a1
    · unfold IVs at a2 ⊢; simp (disch := omega) only [uI_ne, uI_nk, uI_eq]; exact a2
    · intro k hk
      have z3 := a3 k hk
      by_cases e : k = m
      · subst e; simp (disch := omega) only [uI_ne, uI_nk, uI_eq]; exact z3
      · simp (disch := omega) only [uI_ne, uI_nk, uI_eq]; exact z3
    · intro k hk
      have z3 := a4 k hk
      by_cases e : k = m
      · subst e; simp (disch := omega) only [uI_ne, uI_nk, uI_eq]; grind
      · simp (disch := omega) only [uI_ne, uI_nk, uI_eq]; exact z3
    · intro k hk
      have z3 := a5 k hk
      have := a1.1.2.2
      by_cases e : k = m
      · subst e; simp (disch := omega) only [uI_ne, uI_nk, uI_eq]; exact z3
      · simp (disch := omega) only [uI_ne, uI_nk, uI_eq]; exact z3
    · intro k hk; simp (disch := omega) only [uI_ne, uI_nk, uI_eq]; exact a6 k hk
    · intro k hk
      have z3 := a7 k hk
      by_cases e : k = m
      · subst e; simp (disch := omega) only [uI_ne, uI_nk, uI_eq]; exact z3
      · simp (disch := omega) only [uI_ne, uI_nk, uI_eq]; exact z3
    · intro k hk; simp (disch := omega) only [uI_ne, uI_nk, uI_eq]; exact a8 k hk
    · intro k hk; simp (disch := omega) only [uI_ne, uI_nk, uI_eq]; exact a9 k hk
    · unfold IVt at a10 ⊢; simp (disch := omega) only [uI_ne, uI_nk, uI_eq]; exact a10
    · intro k hk; simp (disch := omega) only [uI_ne, uI_nk, uI_eq]; exact a11 k hk
    · intro a ha; funext k; simp (disch := omega) only [uI_ne, uI_nk, uI_eq]
    · simp (disch := omega) only [uI_ne, uI_nk, uI_eq]
  · have hno : (0 ≤ v ∧ v < I 1 2) → I (4 + v.toNatClampNeg) 10 = z := by
      intro hv
      by_cases e : I (4 + v.toNatClampNeg) 10 = z
      · exact e
      · exact absurd ⟨hv, e⟩ hok
    refine StepA.query h (c_X10_fail_no G (d + 1) v z I L b h.1 hno) (c_X11_fail_no G d v z I L b h.1 (fun hv => ?_))
    obtain ⟨m, hm, -, hcl⟩ := (isM h.1 v).1 hv
    rw [← hno hv, hcl]
    exact (h.2.2.2.1 m (by have := h.1.1.2.2; omega)).2.2.1.1
theorem c_X10_aim_ok (G : Gl) (d : Nat) {nm na nr a : Nat} (v : Int32) (I : IF) (L : LF) (b : Bool) (h : IVc nm na nr I) (ha : a < nr) (hv : v = -1 ∨ (0 ≤ v ∧ v < I 1 2)) : MD G (d + 1) Y_X10_aim [.ref 0, .int (nI a), .int v] (I, L, RR b) (some (.int (I (18 + a) 6))) (if I (18 + a) 6 = v then I else uI (uI I (18 + a) 6 v) (18 + a) 7 (I (18 + a) 7 + 1), L, RR b) := by
  have ha16 : a < 16 := by have := h.2.2.2.2; omega
  have hsm := sh_area a (by omega)
  have hlt : (0 : Int32) ≤ nI a ∧ nI a < I 1 4 := ⟨nI_pos' (by omega), by rw [h.2.2.1]; exact nI_lt ha (by have := h.2.2.2.2; omega)⟩
  refine MT.intro m_X10_aim rfl (Nat.le_of_ble_eq_true rfl) ?_
  show WQ G (d + 1) Y_X10_aim _ 0 [(0, .ref 0), (1, .int (nI a)), (2, .int v)] [] (I, L, RR b)
  refine wp_aload_n rfl rfl ?_
  refine q_getr rfl rfl (by first | rfl | assumption) rfl rfl ?_
  refine wp_iload_n rfl rfl ?_
  refine cV1 rfl l_10_163 i_X1_isArea m_X1_isArea (by first | rfl | assumption) (by decide) (c_X1_isArea G _ _ _ _ _) rfl (Nat.le_of_ble_eq_true rfl) ?_
  refine wp_if_eq 13 rfl rfl (fun h4 => ?_) (fun h4 => ?_)
  · exfalso; grind [b2]
  · refine wp_iload_n rfl rfl ?_
    refine wp_iconst (v := (-1)) rfl rfl ?_
    refine wp_icmp_eq 15 rfl rfl (fun h7 => ?_) (fun h7 => ?_)
    · refine wp_aload_n rfl rfl ?_
      refine q_getr rfl rfl (by first | rfl | assumption) rfl rfl ?_
      refine q_getr rfl rfl (by first | rfl | assumption) rfl rfl ?_
      refine wp_iload_n rfl rfl ?_
      refine q_area rfl rfl (by omega) ?_
      refine q_geti rfl rfl (by first | rfl | assumption) rfl ?_
      refine wp_istore_n (lv' := [(3, _), (0, _), (1, _), (2, _)]) rfl rfl (by decide) rfl ?_
      refine wp_aload_n rfl rfl ?_
      refine q_getr rfl rfl (by first | rfl | assumption) rfl rfl ?_
      refine q_getr rfl rfl (by first | rfl | assumption) rfl rfl ?_
      refine wp_iload_n rfl rfl ?_
      refine q_area rfl rfl (by omega) ?_
      refine wp_iload_n rfl rfl ?_
      refine cV1 rfl l_10_169 i_X0_lookAt m_X0_lookAt (by first | rfl | assumption) (by decide) (c_X0_lookAt G _ _ _ _ _ _ hsm) rfl (Nat.le_of_ble_eq_true rfl) ?_
      refine wp_pop rfl rfl ?_
      refine wp_iload_n rfl rfl ?_
      exact wp_iret rfl rfl (⟨rfl, rfl⟩)
    · refine wp_aload_n rfl rfl ?_
      refine q_getr rfl rfl (by first | rfl | assumption) rfl rfl ?_
      refine wp_iload_n rfl rfl ?_
      refine cV1 rfl l_10_91 i_X1_isMast m_X1_isMast (by first | rfl | assumption) (by decide) (c_X1_isMast G _ _ _ _ _) rfl (Nat.le_of_ble_eq_true rfl) ?_
      refine wp_if_ne 15 rfl rfl (fun h12 => ?_) (fun h12 => ?_)
      · refine wp_aload_n rfl rfl ?_
        refine q_getr rfl rfl (by first | rfl | assumption) rfl rfl ?_
        refine q_getr rfl rfl (by first | rfl | assumption) rfl rfl ?_
        refine wp_iload_n rfl rfl ?_
        refine q_area rfl rfl (by omega) ?_
        refine q_geti rfl rfl (by first | rfl | assumption) rfl ?_
        refine wp_istore_n (lv' := [(3, _), (0, _), (1, _), (2, _)]) rfl rfl (by decide) rfl ?_
        refine wp_aload_n rfl rfl ?_
        refine q_getr rfl rfl (by first | rfl | assumption) rfl rfl ?_
        refine q_getr rfl rfl (by first | rfl | assumption) rfl rfl ?_
        refine wp_iload_n rfl rfl ?_
        refine q_area rfl rfl (by omega) ?_
        refine wp_iload_n rfl rfl ?_
        refine cV1 rfl l_10_169 i_X0_lookAt m_X0_lookAt (by first | rfl | assumption) (by decide) (c_X0_lookAt G _ _ _ _ _ _ hsm) rfl (Nat.le_of_ble_eq_true rfl) ?_
        refine wp_pop rfl rfl ?_
        refine wp_iload_n rfl rfl ?_
        exact wp_iret rfl rfl (⟨rfl, rfl⟩)
      · exfalso; grind [b2]
theorem c_X10_aim_no (G : Gl) (d : Nat) (x v : Int32) (I : IF) (L : LF) (b : Bool) (hno : ¬ ((0 ≤ x ∧ x < I 1 4) ∧ (v = -1 ∨ (0 ≤ v ∧ v < I 1 2)))) : MD G (d + 1) Y_X10_aim [.ref 0, .int x, .int v] (I, L, RR b) (some (.int (-2))) (I, L, RR b) := by
  refine MT.intro m_X10_aim rfl (Nat.le_of_ble_eq_true rfl) ?_
  show WQ G (d + 1) Y_X10_aim _ 0 [(0, .ref 0), (1, .int x), (2, .int v)] [] (I, L, RR b)
  refine wp_aload_n rfl rfl ?_
  refine q_getr rfl rfl (by first | rfl | assumption) rfl rfl ?_
  refine wp_iload_n rfl rfl ?_
  refine cV1 rfl l_10_163 i_X1_isArea m_X1_isArea (by first | rfl | assumption) (by decide) (c_X1_isArea G _ _ _ _ _) rfl (Nat.le_of_ble_eq_true rfl) ?_
  refine wp_if_eq 13 rfl rfl (fun h4 => ?_) (fun h4 => ?_)
  · refine wp_bipush (v := (-2)) rfl rfl ?_
    exact wp_iret rfl rfl (⟨rfl, rfl⟩)
  · refine wp_iload_n rfl rfl ?_
    refine wp_iconst (v := (-1)) rfl rfl ?_
    refine wp_icmp_eq 15 rfl rfl (fun h7 => ?_) (fun h7 => ?_)
    · exfalso; grind [b2]
    · refine wp_aload_n rfl rfl ?_
      refine q_getr rfl rfl (by first | rfl | assumption) rfl rfl ?_
      refine wp_iload_n rfl rfl ?_
      refine cV1 rfl l_10_91 i_X1_isMast m_X1_isMast (by first | rfl | assumption) (by decide) (c_X1_isMast G _ _ _ _ _) rfl (Nat.le_of_ble_eq_true rfl) ?_
      refine wp_if_ne 15 rfl rfl (fun h12 => ?_) (fun h12 => ?_)
      · exfalso; grind [b2]
      · refine wp_bipush (v := (-2)) rfl rfl ?_
        exact wp_iret rfl rfl (⟨rfl, rfl⟩)
theorem c_X11_aim_ok (G : Gl) (d : Nat) {nm na nr a : Nat} (v : Int32) (I : IF) (L : LF) (b : Bool) (h : IVc nm na nr I) (ha : a < nr) (hv : v = -1 ∨ (0 ≤ v ∧ v < I 1 2)) : MD G (d + 2) Y_X11_aim [.ref 72, .int (nI a), .int v] (I, L, RR b) (some (.int (I 92 a))) (if I 92 a = v then uI I 72 0 0 else uI (uI (uI I 72 0 0) 92 a v) 93 a (I 93 a + 1), L, RR b) := by
  have ha16 : a < 16 := by have := h.2.2.2.2; omega
  have hlt := (isAr h (nI a)).2.mpr ⟨nI_pos' (by omega), by rw [h.2.2.1]; exact nI_lt ha (by have := h.2.2.2.2; omega)⟩
  have hin : vp_in (nI a) 16 := vp_in_nI ha16 (by omega)
  have hcl : (nI a).toNatClampNeg = a := nI_clamp (by omega)
  have hM := (isM h v).2
  have k1 := c_X11_turned G (d + 1) (nI a) v (uI I 72 0 0) L b hin
  rw [hcl] at k1
  simp (disch := omega) only [uI_ne] at k1
  refine MT.intro m_X11_aim rfl (Nat.le_of_ble_eq_true rfl) ?_
  show WQ G (d + 2) Y_X11_aim _ 0 [(0, .ref 72), (1, .int (nI a)), (2, .int v)] [] (I, L, RR b)
  refine wp_aload_n rfl rfl ?_
  refine wp_iconst (v := 0) rfl rfl ?_
  refine q_puti rfl rfl (by first | rfl | assumption) (Or.inl rfl) rfl ?_
  refine wp_aload_n rfl rfl ?_
  refine wp_iload_n rfl rfl ?_
  refine cV1 rfl l_11_162 i_X11_isArea m_X11_isArea (by first | rfl | assumption) (by decide) (c_X11_isArea G _ _ _ _ _) rfl (Nat.le_of_ble_eq_true rfl) ?_
  refine wp_if_eq 14 rfl rfl (fun h6 => ?_) (fun h6 => ?_)
  · exfalso; simp (disch := omega) only [uI_nk] at *; grind [b2]
  · refine wp_iload_n rfl rfl ?_
    refine wp_iconst (v := (-1)) rfl rfl ?_
    refine wp_icmp_eq 16 rfl rfl (fun h9 => ?_) (fun h9 => ?_)
    · refine wp_aload_n rfl rfl ?_
      refine q_getr rfl rfl (by first | rfl | assumption) rfl rfl ?_
      refine wp_iload_n rfl rfl ?_
      refine q_iald rfl (by first | rfl | assumption) (by assumption) ?_
      refine wp_istore_n (lv' := [(3, _), (0, _), (1, _), (2, _)]) rfl rfl (by decide) rfl ?_
      refine wp_aload_n rfl rfl ?_
      refine wp_iload_n rfl rfl ?_
      refine wp_iload_n rfl rfl ?_
      refine cV1 rfl l_11_168 i_X11_turned m_X11_turned (by first | rfl | assumption) (by decide) (k1) rfl (Nat.le_of_ble_eq_true rfl) ?_
      refine wp_istore (lv' := [(4, _), (3, _), (0, _), (1, _), (2, _)]) rfl (by decide) rfl ?_
      refine wp_iload_n rfl rfl ?_
      exact wp_iret rfl rfl (⟨by rw [hcl]; rfl, rfl⟩)
    · refine wp_aload_n rfl rfl ?_
      refine wp_iload_n rfl rfl ?_
      refine cV1 rfl l_11_165 i_X11_isMast m_X11_isMast (by first | rfl | assumption) (by decide) (c_X11_isMast G _ _ _ _ _) rfl (Nat.le_of_ble_eq_true rfl) ?_
      refine wp_if_ne 16 rfl rfl (fun h13 => ?_) (fun h13 => ?_)
      · refine wp_aload_n rfl rfl ?_
        refine q_getr rfl rfl (by first | rfl | assumption) rfl rfl ?_
        refine wp_iload_n rfl rfl ?_
        refine q_iald rfl (by first | rfl | assumption) (by assumption) ?_
        refine wp_istore_n (lv' := [(3, _), (0, _), (1, _), (2, _)]) rfl rfl (by decide) rfl ?_
        refine wp_aload_n rfl rfl ?_
        refine wp_iload_n rfl rfl ?_
        refine wp_iload_n rfl rfl ?_
        refine cV1 rfl l_11_168 i_X11_turned m_X11_turned (by first | rfl | assumption) (by decide) (k1) rfl (Nat.le_of_ble_eq_true rfl) ?_
        refine wp_istore (lv' := [(4, _), (3, _), (0, _), (1, _), (2, _)]) rfl (by decide) rfl ?_
        refine wp_iload_n rfl rfl ?_
        exact wp_iret rfl rfl (⟨by rw [hcl]; rfl, rfl⟩)
      · exfalso; simp (disch := omega) only [uI_nk] at *; grind [b2]
theorem c_X11_aim_no (G : Gl) (d : Nat) {nm na nr : Nat} (x v : Int32) (I : IF) (L : LF) (b : Bool) (h : IVc nm na nr I) (hno : ¬ ((0 ≤ x ∧ x < I 1 4) ∧ (v = -1 ∨ (0 ≤ v ∧ v < I 1 2)))) : MD G (d + 2) Y_X11_aim [.ref 72, .int x, .int v] (I, L, RR b) (some (.int (-2))) (uI I 72 0 0, L, RR b) := by
  have hM := (isM h v).2
  have hA := (isAr h x).2
  refine MT.intro m_X11_aim rfl (Nat.le_of_ble_eq_true rfl) ?_
  show WQ G (d + 2) Y_X11_aim _ 0 [(0, .ref 72), (1, .int x), (2, .int v)] [] (I, L, RR b)
  refine wp_aload_n rfl rfl ?_
  refine wp_iconst (v := 0) rfl rfl ?_
  refine q_puti rfl rfl (by first | rfl | assumption) (Or.inl rfl) rfl ?_
  refine wp_aload_n rfl rfl ?_
  refine wp_iload_n rfl rfl ?_
  refine cV1 rfl l_11_162 i_X11_isArea m_X11_isArea (by first | rfl | assumption) (by decide) (c_X11_isArea G _ _ _ _ _) rfl (Nat.le_of_ble_eq_true rfl) ?_
  refine wp_if_eq 14 rfl rfl (fun h6 => ?_) (fun h6 => ?_)
  · refine wp_bipush (v := (-2)) rfl rfl ?_
    exact wp_iret rfl rfl (⟨rfl, rfl⟩)
  · refine wp_iload_n rfl rfl ?_
    refine wp_iconst (v := (-1)) rfl rfl ?_
    refine wp_icmp_eq 16 rfl rfl (fun h9 => ?_) (fun h9 => ?_)
    · exfalso; simp (disch := omega) only [uI_nk] at *; grind [b2]
    · refine wp_aload_n rfl rfl ?_
      refine wp_iload_n rfl rfl ?_
      refine cV1 rfl l_11_165 i_X11_isMast m_X11_isMast (by first | rfl | assumption) (by decide) (c_X11_isMast G _ _ _ _ _) rfl (Nat.le_of_ble_eq_true rfl) ?_
      refine wp_if_ne 16 rfl rfl (fun h13 => ?_) (fun h13 => ?_)
      · exfalso; simp (disch := omega) only [uI_nk] at *; grind [b2]
      · refine wp_bipush (v := (-2)) rfl rfl ?_
        exact wp_iret rfl rfl (⟨rfl, rfl⟩)
/-- the aerials of area a turn to v, on both sides -/
theorem IV_look {nm na nr a : Nat} {I J : IF} {L : LF} {v : Int32} (h : IV nm na nr I L) (ha : a < nr) (hv : v = -1 ∨ (0 ≤ v ∧ v < I 1 2)) (hJ : ∀ q k, J q k = if q = 18 + a ∧ k = 6 then v else if q = 18 + a ∧ k = 7 then I (18 + a) 7 + 1 else if q = 92 ∧ k = a then v else if q = 93 ∧ k = a then I 93 a + 1 else if q = 72 ∧ k = 0 then 0 else I q k) : IV nm na nr J L ∧ LSm I J := by
  obtain ⟨a1, a2, a3, a4, a5, a6, a7, a8, a9, a10, a11⟩ := id h
  have ha16 : a < 16 := by have := a1.2.2.2.2; omega
  have hm0 := (nI_b (n := nm) (k := 10) a1.1.2.2 (by omega)).1
  have J0 : ∀ q k, q ≠ 18 + a → q ≠ 92 → q ≠ 93 → ¬ (q = 72 ∧ k = 0) → J q k = I q k := by
    intro q k _ _ _ _
    rw [hJ, if_neg (by omega), if_neg (by omega), if_neg (by omega), if_neg (by omega), if_neg (by omega)]
  have J1 : ∀ j, j ≠ 6 → j ≠ 7 → J (18 + a) j = I (18 + a) j := by
    intro j _ _
    rw [hJ, if_neg (by omega), if_neg (by omega), if_neg (by omega), if_neg (by omega), if_neg (by omega)]
  have J6 : J (18 + a) 6 = v := by rw [hJ, if_pos ⟨rfl, rfl⟩]
  have J7 : J (18 + a) 7 = I (18 + a) 7 + 1 := by rw [hJ, if_neg (by omega), if_pos ⟨rfl, rfl⟩]
  have J92 : J 92 a = v := by rw [hJ, if_neg (by omega), if_neg (by omega), if_pos ⟨rfl, rfl⟩]
  have J93 : J 93 a = I 93 a + 1 := by rw [hJ, if_neg (by omega), if_neg (by omega), if_neg (by omega), if_pos ⟨rfl, rfl⟩]
  refine ⟨⟨?_, ?_, ?_, ?_, ?_, ?_, ?_, ?_, ?_, ?_, ?_⟩, ?_, ?_⟩
  · unfold IVc at a1 ⊢; simp (disch := omega) only [J0]; exact a1
  · unfold IVs at a2 ⊢; simp (disch := omega) only [J0]; exact a2
  · intro k hk; simp (disch := omega) only [J0]; exact a3 k hk
  · intro k hk; simp (disch := omega) only [J0]; exact a4 k hk
  · intro k hk; have := a1.1.2.2; simp (disch := omega) only [J0]; exact a5 k hk
  · intro k hk; simp (disch := omega) only [J0]; exact a6 k hk
  · intro k hk; simp (disch := omega) only [J0]; exact a7 k hk
  · intro k hk
    have z := a8 k hk
    by_cases e : k = a
    · subst e; simp (disch := omega) only [J0, J1, J6, J7, J93]; rw [z.1.2.2.2.2.2.2]; exact ⟨⟨z.1.1, z.1.2.1, z.1.2.2.1, z.1.2.2.2.1, z.1.2.2.2.2.1, z.1.2.2.2.2.2.1, rfl⟩, z.2⟩
    · simp (disch := omega) only [J0]
      rw [hJ 93 k, if_neg (by omega), if_neg (by omega), if_neg (by omega), if_neg (by omega), if_neg (by omega)]
      exact z
  · intro k hk
    have z := a9 k hk
    by_cases e : k = a
    · subst e; simp (disch := omega) only [J1, J6, J92]; rw [a1.1.1] at hv; grind
    · simp (disch := omega) only [J0]
      rw [hJ 92 k, if_neg (by omega), if_neg (by omega), if_neg (by omega), if_neg (by omega), if_neg (by omega)]
      exact z
  · unfold IVt at a10 ⊢; simp (disch := omega) only [J0]; exact a10
  · intro k hk; simp (disch := omega) only [J0]; exact a11 k hk
  · intro q hq; funext k; exact J0 q k (by omega) (by omega) (by omega) (by omega)
  · exact J0 72 12 (by omega) (by omega) (by omega) (by omega)
theorem s_aim {G : Gl} {d : Nat} {I : IF} {L : LF} {b : Bool} (x v : Int32) (h : InvA I L) : StepA G (d + 2) Y_X10_aim Y_X11_aim [.int x, .int v] I L b := by
  obtain ⟨nm, na, nr, h⟩ := h
  by_cases hok : (0 ≤ x ∧ x < I 1 4) ∧ (v = -1 ∨ (0 ≤ v ∧ v < I 1 2))
  · obtain ⟨hx, hv⟩ := hok
    obtain ⟨a, ha, rfl, hcl⟩ := (isAr h.1 x).1 hx
    have ha16 : a < 16 := by have := h.1.2.2.2.2; omega
    have z := (h.2.2.2.2.2.2.2.2.1 a ha16).1 ha
    have c1 := c_X10_aim_ok G (d + 1) v I L b h.1 ha hv
    by_cases e : I (18 + a) 6 = v
    · rw [if_pos e] at c1
      have c2 := c_X11_aim_ok G d v I L b h.1 ha hv
      rw [if_pos (z.1.trans e), z.1] at c2
      exact StepA.query h c1 c2
    · rw [if_neg e] at c1
      generalize hJ : uI (uI I (18 + a) 6 v) (18 + a) 7 (I (18 + a) 7 + 1) = J at c1
      have j0 : ∀ q k, q ≠ 18 + a → J q k = I q k := by intro q k _; rw [← hJ]; simp (disch := omega) only [uI_ne]
      have c2 := c_X11_aim_ok G d (nm := nm) (na := na) (nr := nr) (a := a) v J L b (by have a1 := h.1; unfold IVc at a1 ⊢; simp (disch := omega) only [j0]; exact a1) ha (by rw [j0 1 2 (by omega)]; exact hv)
      rw [j0 92 a (by omega), z.1, if_neg e, j0 93 a (by omega)] at c2
      refine ⟨_, _, _, _, _, c1, c2, ⟨nm, na, nr, (IV_look h ha hv ?_).1⟩, (IV_look (L := L) h ha hv ?_).2⟩
      all_goals
        intro q k
        rw [← hJ]
        unfold uI
        grind
  · exact StepA.query h (c_X10_aim_no G (d + 1) x v I L b hok) (c_X11_aim_no G d x v I L b h.1 hok)
