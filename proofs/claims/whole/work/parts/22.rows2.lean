/-! tear, write -/
theorem slot4 {v : Int32} (h : 0 ≤ v ∧ v ≤ 3) : ∃ s, s < 4 ∧ v = nI s ∧ v.toNatClampNeg = s := by
  obtain ⟨s, hs, rfl⟩ := nI_get (x := v) (n := 4) h.1 (by show v < 4; grind) (by omega)
  exact ⟨s, hs, rfl, nI_clamp (by omega)⟩
theorem c_X10_tear (G : Gl) (d : Nat) (v : Int32) (I : IF) (L : LF) (b : Bool) : MD G (d + 2) Y_X10_tear [.ref 0, .int v] (I, L, RR b) (some (.int (b2 ((0 ≤ v ∧ v ≤ 3) ∧ ¬ I (57 + 2 * v.toNatClampNeg) 2 = -1)))) (if (0 ≤ v ∧ v ≤ 3) ∧ ¬ I (57 + 2 * v.toNatClampNeg) 2 = -1 then uI I (57 + 2 * v.toNatClampNeg) 2 (-1) else I, L, RR b) := by
  refine MT.intro m_X10_tear rfl (Nat.le_of_ble_eq_true rfl) ?_
  show WQ G (d + 2) Y_X10_tear _ 0 [(0, .ref 0), (1, .int v)] [] (I, L, RR b)
  refine wp_iload_n rfl rfl ?_
  refine cS1 rfl l_10_149 s_X10_isSlot m_X10_isSlot (c_X10_isSlot G _ _ _) rfl (Nat.le_of_ble_eq_true rfl) ?_
  refine wp_if_eq 9 rfl rfl (fun h2 => ?_) (fun h2 => ?_)
  · refine wp_iconst (v := 0) rfl rfl ?_
    exact wp_zret rfl rfl (by first | rfl | exact nb2 _ | assumption) (⟨by grind [b2], by grind [b2]⟩)
  · have hv := b2_ne.mp h2
    obtain ⟨s, hs, hvs, hcl⟩ := slot4 hv
    have ha := sh_row s hs
    refine wp_aload_n rfl rfl ?_
    refine q_getr rfl rfl (by first | rfl | assumption) rfl rfl ?_
    refine wp_iload_n rfl rfl ?_
    refine q_rowo rfl hvs hs ?_
    refine cV1 rfl l_10_152 i_X6_isEmpty m_X6_isEmpty (by first | rfl | assumption) (by decide) (c_X6_isEmpty G _ _ _ _ _ ha) rfl (Nat.le_of_ble_eq_true rfl) ?_
    refine wp_if_eq 11 rfl rfl (fun h8 => ?_) (fun h8 => ?_)
    · refine wp_aload_n rfl rfl ?_
      refine q_getr rfl rfl (by first | rfl | assumption) rfl rfl ?_
      refine wp_iload_n rfl rfl ?_
      refine q_rowo rfl hvs hs ?_
      refine wp_iconst (v := (-1)) rfl rfl ?_
      refine q_puti rfl rfl (by first | rfl | assumption) (Or.inl rfl) rfl ?_
      refine wp_iconst (v := 1) rfl rfl ?_
      exact wp_zret rfl rfl (by first | rfl | exact nb2 _ | assumption) (⟨by grind [b2], by grind [b2]⟩)
    · refine wp_iconst (v := 0) rfl rfl ?_
      exact wp_zret rfl rfl (by first | rfl | exact nb2 _ | assumption) (⟨by grind [b2], by grind [b2]⟩)
theorem c_X11_tear (G : Gl) (d : Nat) (v : Int32) (I : IF) (L : LF) (b : Bool) : MD G (d + 2) Y_X11_tear [.ref 72, .int v] (I, L, RR b) (some (.int (b2 ((0 ≤ v ∧ v ≤ 3) ∧ ¬ I 73 v.toNatClampNeg < 0)))) (if (0 ≤ v ∧ v ≤ 3) ∧ ¬ I 73 v.toNatClampNeg < 0 then uI (uI I 72 0 0) 73 v.toNatClampNeg (-1) else uI I 72 0 0, L, RR b) := by
  refine MT.intro m_X11_tear rfl (Nat.le_of_ble_eq_true rfl) ?_
  show WQ G (d + 2) Y_X11_tear _ 0 [(0, .ref 72), (1, .int v)] [] (I, L, RR b)
  refine wp_aload_n rfl rfl ?_
  refine wp_iconst (v := 0) rfl rfl ?_
  refine q_puti rfl rfl (by first | rfl | assumption) (Or.inl rfl) rfl ?_
  refine wp_iload_n rfl rfl ?_
  refine cS1 rfl l_11_123 s_X11_isSlot m_X11_isSlot (c_X11_isSlot G _ _ _) rfl (Nat.le_of_ble_eq_true rfl) ?_
  refine wp_if_eq 11 rfl rfl (fun h5 => ?_) (fun h5 => ?_)
  · refine wp_iconst (v := 0) rfl rfl ?_
    exact wp_zret rfl rfl (by first | rfl | exact nb2 _ | assumption) (⟨by (try simp (disch := omega) only [uI_ne] at *); grind [b2], by (try simp (disch := omega) only [uI_ne] at *); grind [b2]⟩)
  · have hv := b2_ne.mp h5
    obtain ⟨s, hs, hvs, hcl⟩ := slot4 hv
    have hin : vp_in v 4 := by rw [hvs]; exact vp_in_nI hs (by omega)
    refine wp_aload_n rfl rfl ?_
    refine q_getr rfl rfl (by first | rfl | assumption) rfl rfl ?_
    refine wp_iload_n rfl rfl ?_
    refine q_iald rfl (by first | rfl | assumption) (by assumption) ?_
    refine wp_if_ge 13 rfl rfl (fun h10 => ?_) (fun h10 => ?_)
    · refine wp_aload_n rfl rfl ?_
      refine q_getr rfl rfl (by first | rfl | assumption) rfl rfl ?_
      refine wp_iload_n rfl rfl ?_
      refine wp_iconst (v := (-1)) rfl rfl ?_
      refine q_iast rfl (by first | rfl | assumption) (by assumption) ?_
      refine wp_iconst (v := 1) rfl rfl ?_
      exact wp_zret rfl rfl (by first | rfl | exact nb2 _ | assumption) (⟨by (try simp (disch := omega) only [uI_ne] at *); grind [b2], by (try simp (disch := omega) only [uI_ne] at *); grind [b2]⟩)
    · refine wp_iconst (v := 0) rfl rfl ?_
      exact wp_zret rfl rfl (by first | rfl | exact nb2 _ | assumption) (⟨by (try simp (disch := omega) only [uI_ne] at *); grind [b2], by (try simp (disch := omega) only [uI_ne] at *); grind [b2]⟩)
theorem s_tear {G : Gl} {d : Nat} {I : IF} {L : LF} {b : Bool} (v : Int32) (h : InvA I L) : StepA G (d + 2) Y_X10_tear Y_X11_tear [.int v] I L b := by
  obtain ⟨nm, na, nr, h⟩ := h
  have a11 := h.2.2.2.2.2.2.2.2.2.2
  by_cases hok : (0 ≤ v ∧ v ≤ 3) ∧ ¬ I (57 + 2 * v.toNatClampNeg) 2 = -1
  · have c1 := c_X10_tear G d v I L b
    rw [b2_t hok, if_pos hok] at c1
    obtain ⟨hv, hne⟩ := hok
    obtain ⟨s, hs, hvs, hcl⟩ := slot4 hv
    rw [hcl] at c1 hne
    have c2 := c_X11_tear G d v (uI I (57 + 2 * s) 2 (-1)) L b
    rw [hcl, uI_ne (show (73 : Nat) ≠ 57 + 2 * s by omega)] at c2
    have z := a11 s hs
    have hok2 : (0 ≤ v ∧ v ≤ 3) ∧ ¬ I 73 s < 0 := ⟨hv, by grind⟩
    rw [b2_t hok2, if_pos hok2] at c2
    have key := IV_rows (J := uI (uI (uI I (57 + 2 * s) 2 (-1)) 72 0 0) 73 s (-1)) (K := L) h (fun q h1 h2 h3 h4 => by rw [uI_fn h2, uI_fn h4, uI_fn (by omega)]) (fun k hk => by simp (disch := omega) only [uI_ne, uI_nk]) (fun t ht => by
      have z := a11 t ht
      refine ⟨z.1, ?_⟩
      by_cases e : t = s
      · subst e
        simp (disch := omega) only [uI_ne, uI_nk, uI_eq]
        exact Or.inl ⟨trivial, trivial⟩
      · simp (disch := omega) only [uI_ne, uI_nk, uI_eq]
        exact z.2)
    exact ⟨_, _, _, _, _, c1, c2, ⟨nm, na, nr, key.1⟩, key.2⟩
  · have c1 := c_X10_tear G d v I L b
    rw [b2_f hok, if_neg hok] at c1
    have c2 := c_X11_tear G d v I L b
    have hok2 : ¬ ((0 ≤ v ∧ v ≤ 3) ∧ ¬ I 73 v.toNatClampNeg < 0) := by
      intro ⟨hv, h0⟩
      obtain ⟨s, hs, hvs, hcl⟩ := slot4 hv
      rw [hcl] at h0 hok
      have z := a11 s hs
      grind
    rw [b2_f hok2, if_neg hok2] at c2
    exact StepA.query h c1 c2
theorem c_X11_cut (G : Gl) (d : Nat) (x : Int32) (v : Int64) (w : mW) : MD G d Y_X11_cut [.int x, .long v] w (some (.long (cutW x v))) w := by
  refine MT.intro m_X11_cut rfl (Nat.le_of_ble_eq_true rfl) ?_
  show WQ G d Y_X11_cut _ 0 [(0, .int x), (1, .long v)] [] w
  refine wp_iload_n rfl rfl ?_
  refine wp_if_ne 7 rfl rfl (fun h1 => ?_) (fun h1 => ?_)
  · refine wp_iload_n rfl rfl ?_
    refine wp_iconst (v := 1) rfl rfl ?_
    refine wp_icmp_ne 15 rfl rfl (fun h9 => ?_) (fun h9 => ?_)
    · refine wp_iload_n rfl rfl ?_
      refine wp_iconst (v := 2) rfl rfl ?_
      refine wp_icmp_ne 22 rfl rfl (fun h17 => ?_) (fun h17 => ?_)
      · refine wp_lload_n rfl rfl ?_
        exact wp_lret rfl rfl (⟨by simp_all [cutW], rfl⟩)
      · refine wp_lload_n rfl rfl ?_
        refine wp_l2i rfl ?_
        refine wp_i2l rfl ?_
        refine wp_goto 23 rfl rfl ?_
        exact wp_lret rfl rfl (⟨by simp_all [cutW], rfl⟩)
    · refine wp_lload_n rfl rfl ?_
      refine wp_l2i rfl ?_
      refine wp_i2s rfl ?_
      refine wp_i2l rfl ?_
      refine wp_goto 23 rfl rfl ?_
      exact wp_lret rfl rfl (⟨by simp_all [cutW], rfl⟩)
  · refine wp_lload_n rfl rfl ?_
    refine wp_l2i rfl ?_
    refine wp_i2b rfl ?_
    refine wp_i2l rfl ?_
    refine wp_goto 23 rfl rfl ?_
    exact wp_lret rfl rfl (⟨by simp_all [cutW], rfl⟩)
theorem c_X10_write_ok (G : Gl) (d : Nat) {s j : Nat} (v : Int64) (I : IF) (L : LF) (b : Bool) (hs : s < 4) (hj : j < 60) (hne : ¬ I (57 + 2 * s) 2 = -1) (hi : nI j ≤ I (57 + 2 * s) 2 - 1) : MD G (d + 2) Y_X10_write [.ref 0, .int (nI s), .int (nI j), .long v] (I, L, RR b) (some (.int 0)) (I, uL L (58 + 2 * s) j (cutW (I (57 + 2 * s) 1) v), RR b) := by
  have ha := sh_row s hs
  have hs0 : (0 : Int32) ≤ nI s ∧ nI s ≤ 3 := ⟨nI_pos' (by omega), nI_le (b := 3) (by omega) (by omega)⟩
  have hj0 : (0 : Int32) ≤ nI j := nI_pos' (by omega)
  have hcl : (nI j).toNatClampNeg = j := nI_clamp (by omega)
  refine MT.intro m_X10_write rfl (Nat.le_of_ble_eq_true rfl) ?_
  show WQ G (d + 2) Y_X10_write _ 0 [(0, .ref 0), (1, .int (nI s)), (2, .int (nI j)), (3, .long v)] [] (I, L, RR b)
  refine wp_iload_n rfl rfl ?_
  refine cS1 rfl l_10_149 s_X10_isSlot m_X10_isSlot (c_X10_isSlot G _ _ _) rfl (Nat.le_of_ble_eq_true rfl) ?_
  refine wp_if_ne 5 rfl rfl (fun h2 => ?_) (fun h2 => ?_)
  · refine wp_aload_n rfl rfl ?_
    refine q_getr rfl rfl (by first | rfl | assumption) rfl rfl ?_
    refine wp_iload_n rfl rfl ?_
    refine q_rowo rfl rfl hs ?_
    refine wp_astore (lv' := [(5, _), (0, _), (1, _), (2, _), (3, _)]) rfl (by decide) rfl ?_
    refine wp_aload rfl rfl ?_
    refine cV1 rfl l_10_152 i_X6_isEmpty m_X6_isEmpty (by first | rfl | assumption) (by decide) (c_X6_isEmpty G _ _ _ _ _ ha) rfl (Nat.le_of_ble_eq_true rfl) ?_
    refine wp_if_eq 15 rfl rfl (fun h12 => ?_) (fun h12 => ?_)
    · refine wp_iload_n rfl rfl ?_
      refine wp_iconst (v := 0) rfl rfl ?_
      refine wp_aload rfl rfl ?_
      refine q_geti rfl rfl (by first | rfl | assumption) rfl ?_
      refine wp_iconst (v := 1) rfl rfl ?_
      refine wp_isub rfl ?_
      refine cS1 rfl l_10_77 s_X10_isWithin m_X10_isWithin (c_X10_isWithin G _ _ _ _ _) rfl (Nat.le_of_ble_eq_true rfl) ?_
      refine wp_if_ne 25 rfl rfl (fun h22 => ?_) (fun h22 => ?_)
      · refine wp_aload rfl rfl ?_
        refine q_getr rfl rfl (by first | rfl | assumption) rfl (rr_row s hs b) ?_
        refine wp_iload_n rfl rfl ?_
        refine wp_aload rfl rfl ?_
        refine wp_lload_n rfl rfl ?_
        refine cV1 rfl l_10_269 i_X6_cut m_X6_cut (by first | rfl | assumption) (by decide) (c_X6_cut G _ _ _ _ _ _ ha) rfl (Nat.le_of_ble_eq_true rfl) ?_
        refine q_last rfl (sh_rowA s hs) (vp_in_nI hj (by omega)) ?_
        refine wp_iconst (v := 0) rfl rfl ?_
        exact wp_iret rfl rfl (⟨rfl, by rw [hcl]⟩)
      · refine wp_loc (lv' := [(0, _), (1, _), (2, _), (3, _), (5, _)]) [1, 2, 3, 4, 0] rfl ?_
        exfalso; grind [b2]
    · refine wp_loc (lv' := [(0, _), (1, _), (2, _), (3, _), (5, _)]) [1, 2, 3, 4, 0] rfl ?_
      exfalso; grind [b2]
  · exfalso; grind [b2]
theorem c_X10_write_no (G : Gl) (d : Nat) (v x : Int32) (u : Int64) (I : IF) (L : LF) (b : Bool) (hno : ¬ ((0 ≤ v ∧ v ≤ 3) ∧ ¬ I (57 + 2 * v.toNatClampNeg) 2 = -1 ∧ 0 ≤ x ∧ x ≤ I (57 + 2 * v.toNatClampNeg) 2 - 1)) : MD G (d + 2) Y_X10_write [.ref 0, .int v, .int x, .long u] (I, L, RR b) (some (.int (if 0 ≤ v ∧ v ≤ 3 then (if I (57 + 2 * v.toNatClampNeg) 2 = -1 then -5 else -6) else -2))) (I, L, RR b) := by
  refine MT.intro m_X10_write rfl (Nat.le_of_ble_eq_true rfl) ?_
  show WQ G (d + 2) Y_X10_write _ 0 [(0, .ref 0), (1, .int v), (2, .int x), (3, .long u)] [] (I, L, RR b)
  refine wp_iload_n rfl rfl ?_
  refine cS1 rfl l_10_149 s_X10_isSlot m_X10_isSlot (c_X10_isSlot G _ _ _) rfl (Nat.le_of_ble_eq_true rfl) ?_
  refine wp_if_ne 5 rfl rfl (fun h2 => ?_) (fun h2 => ?_)
  · have hv := b2_ne.mp h2
    obtain ⟨s, hs, hvs, hcl⟩ := slot4 hv
    have ha := sh_row s hs
    refine wp_aload_n rfl rfl ?_
    refine q_getr rfl rfl (by first | rfl | assumption) rfl rfl ?_
    refine wp_iload_n rfl rfl ?_
    refine q_rowo rfl hvs hs ?_
    refine wp_astore (lv' := [(5, _), (0, _), (1, _), (2, _), (3, _)]) rfl (by decide) rfl ?_
    refine wp_aload rfl rfl ?_
    refine cV1 rfl l_10_152 i_X6_isEmpty m_X6_isEmpty (by first | rfl | assumption) (by decide) (c_X6_isEmpty G _ _ _ _ _ ha) rfl (Nat.le_of_ble_eq_true rfl) ?_
    refine wp_if_eq 15 rfl rfl (fun h12 => ?_) (fun h12 => ?_)
    · refine wp_iload_n rfl rfl ?_
      refine wp_iconst (v := 0) rfl rfl ?_
      refine wp_aload rfl rfl ?_
      refine q_geti rfl rfl (by first | rfl | assumption) rfl ?_
      refine wp_iconst (v := 1) rfl rfl ?_
      refine wp_isub rfl ?_
      refine cS1 rfl l_10_77 s_X10_isWithin m_X10_isWithin (c_X10_isWithin G _ _ _ _ _) rfl (Nat.le_of_ble_eq_true rfl) ?_
      refine wp_if_ne 25 rfl rfl (fun h22 => ?_) (fun h22 => ?_)
      · refine wp_loc (lv' := [(0, _), (1, _), (2, _), (3, _), (5, _)]) [1, 2, 3, 4, 0] rfl ?_
        exfalso; grind [b2]
      · refine wp_bipush (v := (-6)) rfl rfl ?_
        exact wp_iret rfl rfl (⟨by grind [b2], rfl⟩)
    · refine wp_bipush (v := (-5)) rfl rfl ?_
      exact wp_iret rfl rfl (⟨by grind [b2], rfl⟩)
  · refine wp_bipush (v := (-2)) rfl rfl ?_
    exact wp_iret rfl rfl (⟨by grind [b2], rfl⟩)
theorem c_X11_write_ok (G : Gl) (d : Nat) {s j : Nat} (v : Int64) (I : IF) (L : LF) (b : Bool) (hs : s < 4) (hj : j < 60) (hne : ¬ I 73 s < 0) (hi : nI j ≤ I 74 s - 1) : MD G (d + 2) Y_X11_write [.ref 72, .int (nI s), .int (nI j), .long v] (I, L, RR b) (some (.int 0)) (uI I 72 0 0, uL L 75 (60 * s + j) (cutW (I 73 s) v), RR b) := by
  have hs0 : (0 : Int32) ≤ nI s ∧ nI s ≤ 3 := ⟨nI_pos' (by omega), nI_le (b := 3) (by omega) (by omega)⟩
  have hj0 : (0 : Int32) ≤ nI j := nI_pos' (by omega)
  have hin : vp_in (nI s) 4 := vp_in_nI hs (by omega)
  have hcl : (nI s).toNatClampNeg = s := nI_clamp (by omega)
  have h60 := ix60 hs hj
  have e1 : uI I 72 0 0 73 s = I 73 s := uI_ne (by decide)
  have e2 : uI I 72 0 0 74 s = I 74 s := uI_ne (by decide)
  refine MT.intro m_X11_write rfl (Nat.le_of_ble_eq_true rfl) ?_
  show WQ G (d + 2) Y_X11_write _ 0 [(0, .ref 72), (1, .int (nI s)), (2, .int (nI j)), (3, .long v)] [] (I, L, RR b)
  refine wp_aload_n rfl rfl ?_
  refine wp_iconst (v := 0) rfl rfl ?_
  refine q_puti rfl rfl (by first | rfl | assumption) (Or.inl rfl) rfl ?_
  refine wp_iload_n rfl rfl ?_
  refine cS1 rfl l_11_123 s_X11_isSlot m_X11_isSlot (c_X11_isSlot G _ _ _) rfl (Nat.le_of_ble_eq_true rfl) ?_
  refine wp_if_ne 8 rfl rfl (fun h5 => ?_) (fun h5 => ?_)
  · refine wp_aload_n rfl rfl ?_
    refine q_getr rfl rfl (by first | rfl | assumption) rfl rfl ?_
    refine wp_iload_n rfl rfl ?_
    refine q_iald rfl (by first | rfl | assumption) (by assumption) ?_
    refine wp_if_ge 15 rfl rfl (fun h12 => ?_) (fun h12 => ?_)
    · refine wp_iload_n rfl rfl ?_
      refine wp_i2l rfl ?_
      refine wp_lconst (v := 0) rfl rfl ?_
      refine wp_aload_n rfl rfl ?_
      refine q_getr rfl rfl (by first | rfl | assumption) rfl rfl ?_
      refine wp_iload_n rfl rfl ?_
      refine q_iald rfl (by first | rfl | assumption) (by assumption) ?_
      refine wp_iconst (v := 1) rfl rfl ?_
      refine wp_isub rfl ?_
      refine wp_i2l rfl ?_
      refine cS1 rfl l_11_119 s_X11_in m_X11_in (c_inI G _ _ 0 (uI I 72 0 0 74 (nI s).toNatClampNeg - 1) rfl rfl _) rfl (Nat.le_of_ble_eq_true rfl) ?_
      refine wp_if_ne 29 rfl rfl (fun h26 => ?_) (fun h26 => ?_)
      · refine wp_aload_n rfl rfl ?_
        refine q_getr rfl rfl (by first | rfl | assumption) rfl rfl ?_
        refine wp_bipush (v := 60) rfl rfl ?_
        refine wp_iload_n rfl rfl ?_
        refine wp_imul rfl ?_
        refine wp_iload_n rfl rfl ?_
        refine wp_iadd rfl ?_
        refine wp_aload_n rfl rfl ?_
        refine q_getr rfl rfl (by first | rfl | assumption) rfl rfl ?_
        refine wp_iload_n rfl rfl ?_
        refine q_iald rfl (by first | rfl | assumption) (by assumption) ?_
        refine wp_lload_n rfl rfl ?_
        refine cS1 rfl l_11_127 s_X11_cut m_X11_cut (c_X11_cut G _ _ _ _) rfl (Nat.le_of_ble_eq_true rfl) ?_
        refine q_last rfl (by first | rfl | assumption) h60.2.1 ?_
        refine wp_iconst (v := 0) rfl rfl ?_
        exact wp_iret rfl rfl (⟨rfl, by rw [h60.2.2, hcl, e1]⟩)
      · exfalso; rw [hcl, e2] at h26; grind [b2]
    · exfalso; rw [hcl, e1] at h12; grind [b2]
  · exfalso; grind [b2]
theorem c_X11_write_no (G : Gl) (d : Nat) (v x : Int32) (u : Int64) (I : IF) (L : LF) (b : Bool) (hno : ¬ ((0 ≤ v ∧ v ≤ 3) ∧ ¬ I 73 v.toNatClampNeg < 0 ∧ 0 ≤ x ∧ x ≤ I 74 v.toNatClampNeg - 1)) : MD G (d + 2) Y_X11_write [.ref 72, .int v, .int x, .long u] (I, L, RR b) (some (.int (if 0 ≤ v ∧ v ≤ 3 then (if I 73 v.toNatClampNeg < 0 then -5 else -6) else -2))) (uI I 72 0 0, L, RR b) := by
  refine MT.intro m_X11_write rfl (Nat.le_of_ble_eq_true rfl) ?_
  show WQ G (d + 2) Y_X11_write _ 0 [(0, .ref 72), (1, .int v), (2, .int x), (3, .long u)] [] (I, L, RR b)
  refine wp_aload_n rfl rfl ?_
  refine wp_iconst (v := 0) rfl rfl ?_
  refine q_puti rfl rfl (by first | rfl | assumption) (Or.inl rfl) rfl ?_
  refine wp_iload_n rfl rfl ?_
  refine cS1 rfl l_11_123 s_X11_isSlot m_X11_isSlot (c_X11_isSlot G _ _ _) rfl (Nat.le_of_ble_eq_true rfl) ?_
  refine wp_if_ne 8 rfl rfl (fun h5 => ?_) (fun h5 => ?_)
  · have hv := b2_ne.mp h5
    obtain ⟨s, hs, hvs, hcl⟩ := slot4 hv
    have hin : vp_in v 4 := by rw [hvs]; exact vp_in_nI hs (by omega)
    refine wp_aload_n rfl rfl ?_
    refine q_getr rfl rfl (by first | rfl | assumption) rfl rfl ?_
    refine wp_iload_n rfl rfl ?_
    refine q_iald rfl (by first | rfl | assumption) (by assumption) ?_
    refine wp_if_ge 15 rfl rfl (fun h12 => ?_) (fun h12 => ?_)
    · refine wp_iload_n rfl rfl ?_
      refine wp_i2l rfl ?_
      refine wp_lconst (v := 0) rfl rfl ?_
      refine wp_aload_n rfl rfl ?_
      refine q_getr rfl rfl (by first | rfl | assumption) rfl rfl ?_
      refine wp_iload_n rfl rfl ?_
      refine q_iald rfl (by first | rfl | assumption) (by assumption) ?_
      refine wp_iconst (v := 1) rfl rfl ?_
      refine wp_isub rfl ?_
      refine wp_i2l rfl ?_
      refine cS1 rfl l_11_119 s_X11_in m_X11_in (c_inI G _ _ 0 (uI I 72 0 0 74 v.toNatClampNeg - 1) rfl rfl _) rfl (Nat.le_of_ble_eq_true rfl) ?_
      refine wp_if_ne 29 rfl rfl (fun h26 => ?_) (fun h26 => ?_)
      · exfalso; simp (disch := omega) only [uI_ne] at *; grind [b2]
      · refine wp_bipush (v := (-6)) rfl rfl ?_
        exact wp_iret rfl rfl (⟨by (try simp (disch := omega) only [uI_ne] at *); grind [b2], rfl⟩)
    · refine wp_bipush (v := (-5)) rfl rfl ?_
      exact wp_iret rfl rfl (⟨by (try simp (disch := omega) only [uI_ne] at *); grind [b2], rfl⟩)
  · refine wp_bipush (v := (-2)) rfl rfl ?_
    exact wp_iret rfl rfl (⟨by (try simp (disch := omega) only [uI_ne] at *); grind [b2], rfl⟩)
theorem s_write {G : Gl} {d : Nat} {I : IF} {L : LF} {b : Bool} (v x : Int32) (u : Int64) (h : InvA I L) : StepA G (d + 2) Y_X10_write Y_X11_write [.int v, .int x, .long u] I L b := by
  obtain ⟨nm, na, nr, h⟩ := h
  have a11 := h.2.2.2.2.2.2.2.2.2.2
  by_cases hok : (0 ≤ v ∧ v ≤ 3) ∧ ¬ I (57 + 2 * v.toNatClampNeg) 2 = -1 ∧ 0 ≤ x ∧ x ≤ I (57 + 2 * v.toNatClampNeg) 2 - 1
  · obtain ⟨hv, hne, hx0, hx1⟩ := hok
    obtain ⟨s, hs, hvs, hcl⟩ := slot4 hv
    rw [hcl] at hne hx1
    subst hvs
    have z := a11 s hs
    have z2 := z.2.resolve_left (fun q => hne q.1)
    obtain ⟨j, hj, rfl⟩ := nI_get (x := x) (n := 60) hx0 (by show x < 60; grind) (by omega)
    have c1 := c_X10_write_ok G d u I L b hs hj hne hx1
    have c2 := c_X11_write_ok G d u I (uL L (58 + 2 * s) j (cutW (I (57 + 2 * s) 1) u)) b hs hj (by grind) (by rw [z2.2.1]; exact hx1)
    have key := IV_rows (J := uI I 72 0 0) (K := uL (uL L (58 + 2 * s) j (cutW (I (57 + 2 * s) 1) u)) 75 (60 * s + j) (cutW (I 73 s) u)) h (fun q h1 h2 h3 h4 => uI_fn h4) (fun k hk => uI_nk hk) (fun t ht => by
      have z := a11 t ht
      refine ⟨fun q hq => ?_, ?_⟩
      · by_cases e : t = s
        · subst e
          by_cases e2 : q = j
          · subst e2
            rw [uL_eq, uL_ne (by omega), uL_eq, z2.2.2.2]
          · rw [uL_nk (by omega), uL_ne (by omega), uL_ne (by omega), uL_nk e2]
            exact z.1 q hq
        · rw [uL_nk (by omega), uL_ne (by omega), uL_ne (by omega), uL_ne (by omega)]
          exact z.1 q hq
      · simp (disch := omega) only [uI_ne]
        exact z.2)
    exact ⟨_, _, _, _, _, c1, c2, ⟨nm, na, nr, key.1⟩, key.2⟩
  · refine StepA.query h (c_X10_write_no G d v x u I L b hok) ?_
    have hok2 : ¬ ((0 ≤ v ∧ v ≤ 3) ∧ ¬ I 73 v.toNatClampNeg < 0 ∧ 0 ≤ x ∧ x ≤ I 74 v.toNatClampNeg - 1) := by
      intro ⟨hv, h0, h1, h2⟩
      obtain ⟨s, hs, hvs, hcl⟩ := slot4 hv
      rw [hcl] at h0 h2 hok
      have z := a11 s hs
      grind
    have c2 := c_X11_write_no G d v x u I L b hok2
    have e : (if 0 ≤ v ∧ v ≤ 3 then (if I 73 v.toNatClampNeg < 0 then -5 else -6) else (-2 : Int32)) = (if 0 ≤ v ∧ v ≤ 3 then (if I (57 + 2 * v.toNatClampNeg) 2 = -1 then -5 else -6) else -2) := by
      by_cases hv : 0 ≤ v ∧ v ≤ 3
      · obtain ⟨s, hs, hvs, hcl⟩ := slot4 hv
        rw [if_pos hv, if_pos hv, hcl]
        have z := a11 s hs
        grind
      · rw [if_neg hv, if_neg hv]
    rw [e] at c2
    exact c2
