/-! mast, abroad, area, aim, fail, channelOf, mastOf, areaOf -/
theorem pm1 (x : Int32) : x + 1 - 1 = x := by grind
theorem nar01 {h : Int32} (hh : h = 0 ∨ h = 1) : vp_nar .boolean h = h := by rcases hh with rfl | rfl <;> rfl
theorem nI_b {n k : Nat} (h : n ≤ k) (hk : k < 2 ^ 31) : (0 : Int32) ≤ nI n ∧ nI n ≤ nI k := ⟨nI_pos' (by omega), nI_le h hk⟩
theorem c_X10_mast_ok (G : Gl) (d : Nat) {nm na nr : Nat} (x y p f hh c : Int32) (I : IF) (L : LF) (b : Bool) (h : IVc nm na nr I) (hS : ((0 ≤ x ∧ x ≤ 100) ∧ 0 ≤ y ∧ y ≤ 100) ∧ (1 ≤ p ∧ p ≤ 10000) ∧ 0 ≤ c ∧ c ≤ 11) (hF : f = -1 ∨ (0 ≤ f ∧ f < I 1 2)) (hn : nm < 10) (hp : I 0 10 = -1) (h01 : hh = 0 ∨ hh = 1) : MD G (d + 3) Y_X10_mast [.ref 0, .int x, .int y, .int p, .int f, .int hh, .int c] (I, L, RR b) (some (.int (nI nm))) (uI (uI (uI (uI (uI (uI (uI I (4 + nm) 0 x) (4 + nm) 1 y) (4 + nm) 2 p) (4 + nm) 5 c) (4 + nm) 3 f) (4 + nm) 4 hh) 1 2 (nI (nm + 1)), L, RR b) := by
  have hI := h.1.1
  have hb := nI_lt (a := nm) (b := 10) hn (by omega)
  have hb' : nI nm < 10 := hb
  refine MT.intro m_X10_mast rfl (Nat.le_of_ble_eq_true rfl) ?_
  show WQ G (d + 3) Y_X10_mast _ 0 [(0, .ref 0), (1, .int x), (2, .int y), (3, .int p), (4, .int f), (5, .int hh), (6, .int c)] [] (I, L, RR b)
  refine wp_iload_n rfl rfl ?_
  refine wp_iload_n rfl rfl ?_
  refine wp_iload_n rfl rfl ?_
  refine wp_iload rfl rfl ?_
  refine cS1 rfl l_10_87 s_X10_isFitSender m_X10_isFitSender (c_X10_isFitSender G _ _ _ _ _ _) rfl (Nat.le_of_ble_eq_true rfl) ?_
  refine wp_if_eq 14 rfl rfl (fun h5 => ?_) (fun h5 => ?_)
  · exfalso; grind [b2]
  · refine wp_iload rfl rfl ?_
    refine wp_iconst (v := (-1)) rfl rfl ?_
    refine wp_icmp_eq 16 rfl rfl (fun h8 => ?_) (fun h8 => ?_)
    · refine wp_aload_n rfl rfl ?_
      refine q_getr rfl rfl (by first | rfl | assumption) rfl rfl ?_
      refine q_geti rfl rfl (by first | rfl | assumption) rfl ?_
      refine wp_bipush (v := 10) rfl rfl ?_
      refine wp_icmp_lt 23 rfl rfl (fun h20 => ?_) (fun h20 => ?_)
      · refine wp_aload_n rfl rfl ?_
        refine q_geti rfl rfl (by first | rfl | assumption) rfl ?_
        refine wp_iconst (v := (-1)) rfl rfl ?_
        refine wp_icmp_eq 29 rfl rfl (fun h26 => ?_) (fun h26 => ?_)
        · have hsm := sh_mast nm (by omega)
          refine wp_aload_n rfl rfl ?_
          refine q_getr rfl rfl (by first | rfl | assumption) rfl rfl ?_
          refine q_getr rfl rfl (by first | rfl | assumption) rfl rfl ?_
          refine wp_aload_n rfl rfl ?_
          refine q_getr rfl rfl (by first | rfl | assumption) rfl rfl ?_
          refine q_geti rfl rfl (by first | rfl | assumption) rfl ?_
          refine q_mast rfl hI (by omega) ?_
          refine wp_astore (lv' := [(7, _), (0, _), (1, _), (2, _), (3, _), (4, _), (5, _), (6, _)]) rfl (by decide) rfl ?_
          refine wp_aload rfl rfl ?_
          refine wp_iload_n rfl rfl ?_
          refine wp_iload_n rfl rfl ?_
          refine wp_iload_n rfl rfl ?_
          refine wp_iload rfl rfl ?_
          refine cV0 rfl l_10_102 i_X4_stand m_X4_stand (by first | rfl | assumption) (by decide) (c_X4_stand G _ _ _ _ _ _ _ _ _ hsm) rfl (Nat.le_of_ble_eq_true rfl) ?_
          refine wp_aload rfl rfl ?_
          refine wp_iload rfl rfl ?_
          refine q_puti rfl rfl (by first | rfl | assumption) (Or.inl rfl) rfl ?_
          refine wp_aload rfl rfl ?_
          refine wp_iload rfl rfl ?_
          refine q_putz rfl rfl (by first | rfl | assumption) (Or.inl rfl) rfl (by assumption) ?_
          refine wp_aload_n rfl rfl ?_
          refine q_getr rfl rfl (by first | rfl | assumption) rfl rfl ?_
          refine wp_dup rfl rfl ?_
          refine q_geti rfl rfl (by first | rfl | assumption) rfl ?_
          refine wp_iconst (v := 1) rfl rfl ?_
          refine wp_iadd rfl ?_
          refine q_puti rfl rfl (by first | rfl | assumption) (Or.inl rfl) rfl ?_
          refine wp_aload_n rfl rfl ?_
          refine q_getr rfl rfl (by first | rfl | assumption) rfl rfl ?_
          refine q_geti rfl rfl (by first | rfl | assumption) rfl ?_
          refine wp_iconst (v := 1) rfl rfl ?_
          refine wp_isub rfl ?_
          exact wp_iret rfl rfl (⟨by simp (disch := omega) only [uI_ne, uI_eq]; rw [hI, pm1], by simp (disch := omega) only [uI_ne]; rw [hI, nI_1]⟩)
        · exfalso; grind [b2]
      · exfalso; grind [b2]
    · refine wp_aload_n rfl rfl ?_
      refine q_getr rfl rfl (by first | rfl | assumption) rfl rfl ?_
      refine wp_iload rfl rfl ?_
      refine cV1 rfl l_10_91 i_X1_isMast m_X1_isMast (by first | rfl | assumption) (by decide) (c_X1_isMast G _ _ _ _ _) rfl (Nat.le_of_ble_eq_true rfl) ?_
      refine wp_if_ne 16 rfl rfl (fun h13 => ?_) (fun h13 => ?_)
      · refine wp_aload_n rfl rfl ?_
        refine q_getr rfl rfl (by first | rfl | assumption) rfl rfl ?_
        refine q_geti rfl rfl (by first | rfl | assumption) rfl ?_
        refine wp_bipush (v := 10) rfl rfl ?_
        refine wp_icmp_lt 23 rfl rfl (fun h20 => ?_) (fun h20 => ?_)
        · refine wp_aload_n rfl rfl ?_
          refine q_geti rfl rfl (by first | rfl | assumption) rfl ?_
          refine wp_iconst (v := (-1)) rfl rfl ?_
          refine wp_icmp_eq 29 rfl rfl (fun h26 => ?_) (fun h26 => ?_)
          · have hsm := sh_mast nm (by omega)
            refine wp_aload_n rfl rfl ?_
            refine q_getr rfl rfl (by first | rfl | assumption) rfl rfl ?_
            refine q_getr rfl rfl (by first | rfl | assumption) rfl rfl ?_
            refine wp_aload_n rfl rfl ?_
            refine q_getr rfl rfl (by first | rfl | assumption) rfl rfl ?_
            refine q_geti rfl rfl (by first | rfl | assumption) rfl ?_
            refine q_mast rfl hI (by omega) ?_
            refine wp_astore (lv' := [(7, _), (0, _), (1, _), (2, _), (3, _), (4, _), (5, _), (6, _)]) rfl (by decide) rfl ?_
            refine wp_aload rfl rfl ?_
            refine wp_iload_n rfl rfl ?_
            refine wp_iload_n rfl rfl ?_
            refine wp_iload_n rfl rfl ?_
            refine wp_iload rfl rfl ?_
            refine cV0 rfl l_10_102 i_X4_stand m_X4_stand (by first | rfl | assumption) (by decide) (c_X4_stand G _ _ _ _ _ _ _ _ _ hsm) rfl (Nat.le_of_ble_eq_true rfl) ?_
            refine wp_aload rfl rfl ?_
            refine wp_iload rfl rfl ?_
            refine q_puti rfl rfl (by first | rfl | assumption) (Or.inl rfl) rfl ?_
            refine wp_aload rfl rfl ?_
            refine wp_iload rfl rfl ?_
            refine q_putz rfl rfl (by first | rfl | assumption) (Or.inl rfl) rfl (by assumption) ?_
            refine wp_aload_n rfl rfl ?_
            refine q_getr rfl rfl (by first | rfl | assumption) rfl rfl ?_
            refine wp_dup rfl rfl ?_
            refine q_geti rfl rfl (by first | rfl | assumption) rfl ?_
            refine wp_iconst (v := 1) rfl rfl ?_
            refine wp_iadd rfl ?_
            refine q_puti rfl rfl (by first | rfl | assumption) (Or.inl rfl) rfl ?_
            refine wp_aload_n rfl rfl ?_
            refine q_getr rfl rfl (by first | rfl | assumption) rfl rfl ?_
            refine q_geti rfl rfl (by first | rfl | assumption) rfl ?_
            refine wp_iconst (v := 1) rfl rfl ?_
            refine wp_isub rfl ?_
            exact wp_iret rfl rfl (⟨by simp (disch := omega) only [uI_ne, uI_eq]; rw [hI, pm1], by simp (disch := omega) only [uI_ne]; rw [hI, nI_1]⟩)
          · exfalso; grind [b2]
        · exfalso; grind [b2]
      · exfalso; grind [b2]
theorem c_X10_mast_no (G : Gl) (d : Nat) {nm na nr : Nat} (x y p f hh c : Int32) (I : IF) (L : LF) (b : Bool) (h : IVc nm na nr I) (hno : ¬ ((((0 ≤ x ∧ x ≤ 100) ∧ 0 ≤ y ∧ y ≤ 100) ∧ (1 ≤ p ∧ p ≤ 10000) ∧ 0 ≤ c ∧ c ≤ 11) ∧ (f = -1 ∨ (0 ≤ f ∧ f < I 1 2)) ∧ I 1 2 < 10 ∧ I 0 10 = -1)) : MD G (d + 3) Y_X10_mast [.ref 0, .int x, .int y, .int p, .int f, .int hh, .int c] (I, L, RR b) (some (.int (if (((0 ≤ x ∧ x ≤ 100) ∧ 0 ≤ y ∧ y ≤ 100) ∧ (1 ≤ p ∧ p ≤ 10000) ∧ 0 ≤ c ∧ c ≤ 11) ∧ (f = -1 ∨ (0 ≤ f ∧ f < I 1 2)) then (if I 1 2 < 10 then -9 else -3) else -2))) (I, L, RR b) := by
  refine MT.intro m_X10_mast rfl (Nat.le_of_ble_eq_true rfl) ?_
  show WQ G (d + 3) Y_X10_mast _ 0 [(0, .ref 0), (1, .int x), (2, .int y), (3, .int p), (4, .int f), (5, .int hh), (6, .int c)] [] (I, L, RR b)
  refine wp_iload_n rfl rfl ?_
  refine wp_iload_n rfl rfl ?_
  refine wp_iload_n rfl rfl ?_
  refine wp_iload rfl rfl ?_
  refine cS1 rfl l_10_87 s_X10_isFitSender m_X10_isFitSender (c_X10_isFitSender G _ _ _ _ _ _) rfl (Nat.le_of_ble_eq_true rfl) ?_
  refine wp_if_eq 14 rfl rfl (fun h5 => ?_) (fun h5 => ?_)
  · refine wp_bipush (v := (-2)) rfl rfl ?_
    exact wp_iret rfl rfl (⟨by grind (splits := 30) [b2], rfl⟩)
  · refine wp_iload rfl rfl ?_
    refine wp_iconst (v := (-1)) rfl rfl ?_
    refine wp_icmp_eq 16 rfl rfl (fun h8 => ?_) (fun h8 => ?_)
    · refine wp_aload_n rfl rfl ?_
      refine q_getr rfl rfl (by first | rfl | assumption) rfl rfl ?_
      refine q_geti rfl rfl (by first | rfl | assumption) rfl ?_
      refine wp_bipush (v := 10) rfl rfl ?_
      refine wp_icmp_lt 23 rfl rfl (fun h20 => ?_) (fun h20 => ?_)
      · refine wp_aload_n rfl rfl ?_
        refine q_geti rfl rfl (by first | rfl | assumption) rfl ?_
        refine wp_iconst (v := (-1)) rfl rfl ?_
        refine wp_icmp_eq 29 rfl rfl (fun h26 => ?_) (fun h26 => ?_)
        · exfalso; grind [b2]
        · refine wp_bipush (v := (-9)) rfl rfl ?_
          exact wp_iret rfl rfl (⟨by grind (splits := 30) [b2], rfl⟩)
      · refine wp_bipush (v := (-3)) rfl rfl ?_
        exact wp_iret rfl rfl (⟨by grind (splits := 30) [b2], rfl⟩)
    · refine wp_aload_n rfl rfl ?_
      refine q_getr rfl rfl (by first | rfl | assumption) rfl rfl ?_
      refine wp_iload rfl rfl ?_
      refine cV1 rfl l_10_91 i_X1_isMast m_X1_isMast (by first | rfl | assumption) (by decide) (c_X1_isMast G _ _ _ _ _) rfl (Nat.le_of_ble_eq_true rfl) ?_
      refine wp_if_ne 16 rfl rfl (fun h13 => ?_) (fun h13 => ?_)
      · refine wp_aload_n rfl rfl ?_
        refine q_getr rfl rfl (by first | rfl | assumption) rfl rfl ?_
        refine q_geti rfl rfl (by first | rfl | assumption) rfl ?_
        refine wp_bipush (v := 10) rfl rfl ?_
        refine wp_icmp_lt 23 rfl rfl (fun h20 => ?_) (fun h20 => ?_)
        · refine wp_aload_n rfl rfl ?_
          refine q_geti rfl rfl (by first | rfl | assumption) rfl ?_
          refine wp_iconst (v := (-1)) rfl rfl ?_
          refine wp_icmp_eq 29 rfl rfl (fun h26 => ?_) (fun h26 => ?_)
          · exfalso; grind [b2]
          · refine wp_bipush (v := (-9)) rfl rfl ?_
            exact wp_iret rfl rfl (⟨by grind (splits := 30) [b2], rfl⟩)
        · refine wp_bipush (v := (-3)) rfl rfl ?_
          exact wp_iret rfl rfl (⟨by grind (splits := 30) [b2], rfl⟩)
      · refine wp_bipush (v := (-2)) rfl rfl ?_
        exact wp_iret rfl rfl (⟨by grind (splits := 30) [b2], rfl⟩)
theorem c_X11_mast_ok (G : Gl) (d : Nat) {nm : Nat} (x y p f hh c : Int32) (I : IF) (L : LF) (b : Bool) (h5 : I 72 5 = nI nm) (hS : ((0 ≤ x ∧ x ≤ 100) ∧ 0 ≤ y ∧ y ≤ 100) ∧ (1 ≤ p ∧ p ≤ 10000) ∧ 0 ≤ c ∧ c ≤ 11) (hF : -1 ≤ f ∧ f ≤ I 72 5 - 1) (hn : nm < 10) (hp : I 72 30 = -1) (h01 : hh = 0 ∨ hh = 1) : MD G (d + 2) Y_X11_mast [.ref 72, .int x, .int y, .int p, .int f, .int hh, .int c] (I, L, RR b) (some (.int (nI nm))) (uI (uI (uI (uI (uI (uI (uI (uI I 72 0 0) 77 nm x) 78 nm y) 79 nm p) 80 nm c) 81 nm f) 83 nm hh) 72 5 (nI (nm + 1)), L, RR b) := by
  have hb' : nI nm < 10 := nI_lt (a := nm) (b := 10) hn (by omega)
  have hcl : (nI nm).toNatClampNeg = nm := nI_clamp (by omega)
  refine MT.intro m_X11_mast rfl (Nat.le_of_ble_eq_true rfl) ?_
  show WQ G (d + 2) Y_X11_mast _ 0 [(0, .ref 72), (1, .int x), (2, .int y), (3, .int p), (4, .int f), (5, .int hh), (6, .int c)] [] (I, L, RR b)
  refine wp_aload_n rfl rfl ?_
  refine wp_iconst (v := 0) rfl rfl ?_
  refine q_puti rfl rfl (by first | rfl | assumption) (Or.inl rfl) rfl ?_
  refine wp_iload_n rfl rfl ?_
  refine wp_iload_n rfl rfl ?_
  refine wp_iload_n rfl rfl ?_
  refine wp_iload rfl rfl ?_
  refine cS1 rfl l_11_139 s_X11_isSender m_X11_isSender (c_X11_isSender G _ _ _ _ _ _) rfl (Nat.le_of_ble_eq_true rfl) ?_
  refine wp_if_eq 19 rfl rfl (fun h8 => ?_) (fun h8 => ?_)
  · exfalso; grind [b2]
  · refine wp_iload rfl rfl ?_
    refine wp_i2l rfl ?_
    refine wp_ldc2 (v := (-1)) rfl cl_11_143 ?_
    refine wp_aload_n rfl rfl ?_
    refine q_geti rfl rfl (by first | rfl | assumption) rfl ?_
    refine wp_iconst (v := 1) rfl rfl ?_
    refine wp_isub rfl ?_
    refine wp_i2l rfl ?_
    refine cS1 rfl l_11_119 s_X11_in m_X11_in (c_inI G _ _ (-1) (I 72 5 - 1) rfl rfl _) rfl (Nat.le_of_ble_eq_true rfl) ?_
    refine wp_if_ne 21 rfl rfl (fun h18 => ?_) (fun h18 => ?_)
    · refine wp_aload_n rfl rfl ?_
      refine q_geti rfl rfl (by first | rfl | assumption) rfl ?_
      refine wp_bipush (v := 10) rfl rfl ?_
      refine wp_icmp_ne 27 rfl rfl (fun h24 => ?_) (fun h24 => ?_)
      · refine wp_aload_n rfl rfl ?_
        refine q_geti rfl rfl (by first | rfl | assumption) rfl ?_
        refine wp_iconst (v := (-1)) rfl rfl ?_
        refine wp_icmp_eq 33 rfl rfl (fun h30 => ?_) (fun h30 => ?_)
        · refine wp_aload_n rfl rfl ?_
          refine wp_aload_n rfl rfl ?_
          refine q_geti rfl rfl (by first | rfl | assumption) rfl ?_
          refine wp_iload_n rfl rfl ?_
          refine wp_iload_n rfl rfl ?_
          refine wp_iload_n rfl rfl ?_
          refine wp_iload rfl rfl ?_
          refine cV0 rfl l_11_148 i_X11_sender m_X11_sender (by first | rfl | assumption) (by decide) (c_X11_sender G _ _ _ _ _ _ _ _ _ (by show vp_in (I 72 5) 14; rw [h5]; exact vp_in_nI (by omega) (by omega))) rfl (Nat.le_of_ble_eq_true rfl) ?_
          refine wp_aload_n rfl rfl ?_
          refine q_getr rfl rfl (by first | rfl | assumption) rfl rfl ?_
          refine wp_aload_n rfl rfl ?_
          refine q_geti rfl rfl (by first | rfl | assumption) rfl ?_
          refine wp_iload rfl rfl ?_
          refine q_iast rfl (by first | rfl | assumption) (by show vp_in (I 72 5) 10; rw [h5]; exact vp_in_nI (by omega) (by omega)) ?_
          refine wp_aload_n rfl rfl ?_
          refine q_getr rfl rfl (by first | rfl | assumption) rfl rfl ?_
          refine wp_aload_n rfl rfl ?_
          refine q_geti rfl rfl (by first | rfl | assumption) rfl ?_
          refine wp_iload rfl rfl ?_
          refine q_zast rfl (by first | rfl | assumption) (by show vp_in (I 72 5) 10; rw [h5]; exact vp_in_nI (by omega) (by omega)) ?_
          refine wp_aload_n rfl rfl ?_
          refine wp_dup rfl rfl ?_
          refine q_geti rfl rfl (by first | rfl | assumption) rfl ?_
          refine wp_iconst (v := 1) rfl rfl ?_
          refine wp_iadd rfl ?_
          refine q_puti rfl rfl (by first | rfl | assumption) (Or.inl rfl) rfl ?_
          refine wp_aload_n rfl rfl ?_
          refine q_geti rfl rfl (by first | rfl | assumption) rfl ?_
          refine wp_iconst (v := 1) rfl rfl ?_
          refine wp_isub rfl ?_
          exact wp_iret rfl rfl (⟨by simp (disch := omega) only [uI_ne, uI_nk, uI_eq]; rw [h5, pm1], by simp (disch := omega) only [uI_ne, uI_nk]; rw [h5, nI_1, hcl, nar01 h01]⟩)
        · exfalso; change ¬ I 72 30 = -1 at h30; grind [b2]
      · exfalso; change I 72 5 = 10 at h24; grind [b2]
    · exfalso; grind [b2]
theorem c_X11_mast_no (G : Gl) (d : Nat) (x y p f hh c : Int32) (I : IF) (L : LF) (b : Bool) (hno : ¬ ((((0 ≤ x ∧ x ≤ 100) ∧ 0 ≤ y ∧ y ≤ 100) ∧ (1 ≤ p ∧ p ≤ 10000) ∧ 0 ≤ c ∧ c ≤ 11) ∧ (-1 ≤ f ∧ f ≤ I 72 5 - 1) ∧ ¬ I 72 5 = 10 ∧ I 72 30 = -1)) : MD G (d + 2) Y_X11_mast [.ref 72, .int x, .int y, .int p, .int f, .int hh, .int c] (I, L, RR b) (some (.int (if (((0 ≤ x ∧ x ≤ 100) ∧ 0 ≤ y ∧ y ≤ 100) ∧ (1 ≤ p ∧ p ≤ 10000) ∧ 0 ≤ c ∧ c ≤ 11) ∧ (-1 ≤ f ∧ f ≤ I 72 5 - 1) then (if ¬ I 72 5 = 10 then -9 else -3) else -2))) (uI I 72 0 0, L, RR b) := by
  refine MT.intro m_X11_mast rfl (Nat.le_of_ble_eq_true rfl) ?_
  show WQ G (d + 2) Y_X11_mast _ 0 [(0, .ref 72), (1, .int x), (2, .int y), (3, .int p), (4, .int f), (5, .int hh), (6, .int c)] [] (I, L, RR b)
  refine wp_aload_n rfl rfl ?_
  refine wp_iconst (v := 0) rfl rfl ?_
  refine q_puti rfl rfl (by first | rfl | assumption) (Or.inl rfl) rfl ?_
  refine wp_iload_n rfl rfl ?_
  refine wp_iload_n rfl rfl ?_
  refine wp_iload_n rfl rfl ?_
  refine wp_iload rfl rfl ?_
  refine cS1 rfl l_11_139 s_X11_isSender m_X11_isSender (c_X11_isSender G _ _ _ _ _ _) rfl (Nat.le_of_ble_eq_true rfl) ?_
  refine wp_if_eq 19 rfl rfl (fun h8 => ?_) (fun h8 => ?_)
  · refine wp_bipush (v := (-2)) rfl rfl ?_
    exact wp_iret rfl rfl (⟨by (try simp (disch := omega) only [uI_nk] at *); grind (splits := 30) [b2], rfl⟩)
  · refine wp_iload rfl rfl ?_
    refine wp_i2l rfl ?_
    refine wp_ldc2 (v := (-1)) rfl cl_11_143 ?_
    refine wp_aload_n rfl rfl ?_
    refine q_geti rfl rfl (by first | rfl | assumption) rfl ?_
    refine wp_iconst (v := 1) rfl rfl ?_
    refine wp_isub rfl ?_
    refine wp_i2l rfl ?_
    refine cS1 rfl l_11_119 s_X11_in m_X11_in (c_inI G _ _ (-1) (I 72 5 - 1) rfl rfl _) rfl (Nat.le_of_ble_eq_true rfl) ?_
    refine wp_if_ne 21 rfl rfl (fun h18 => ?_) (fun h18 => ?_)
    · refine wp_aload_n rfl rfl ?_
      refine q_geti rfl rfl (by first | rfl | assumption) rfl ?_
      refine wp_bipush (v := 10) rfl rfl ?_
      refine wp_icmp_ne 27 rfl rfl (fun h24 => ?_) (fun h24 => ?_)
      · refine wp_aload_n rfl rfl ?_
        refine q_geti rfl rfl (by first | rfl | assumption) rfl ?_
        refine wp_iconst (v := (-1)) rfl rfl ?_
        refine wp_icmp_eq 33 rfl rfl (fun h30 => ?_) (fun h30 => ?_)
        · exfalso; (try simp (disch := omega) only [uI_nk] at *); grind (splits := 30) [b2]
        · refine wp_bipush (v := (-9)) rfl rfl ?_
          exact wp_iret rfl rfl (⟨by (try simp (disch := omega) only [uI_nk] at *); grind (splits := 30) [b2], rfl⟩)
      · refine wp_bipush (v := (-3)) rfl rfl ?_
        exact wp_iret rfl rfl (⟨by (try simp (disch := omega) only [uI_nk] at *); grind (splits := 30) [b2], rfl⟩)
    · refine wp_bipush (v := (-2)) rfl rfl ?_
      exact wp_iret rfl rfl (⟨by (try simp (disch := omega) only [uI_nk] at *); grind (splits := 30) [b2], rfl⟩)
theorem s_mast {G : Gl} {d : Nat} {I : IF} {L : LF} {b : Bool} (x y p f hh c : Int32) (h01 : hh = 0 ∨ hh = 1) (h : InvA I L) : StepA G (d + 3) Y_X10_mast Y_X11_mast [.int x, .int y, .int p, .int f, .int hh, .int c] I L b := by
  obtain ⟨nm, na, nr, h⟩ := h
  obtain ⟨a1, a2, a3, a4, a5, a6, a7, a8, a9, a10, a11⟩ := id h
  obtain ⟨⟨q1, q2, q3⟩, q4, q5⟩ := a1
  have hb0 := (nI_b (n := nm) (k := 10) q3 (by omega)).1
  have hb1 : nI nm ≤ 10 := (nI_b (n := nm) (k := 10) q3 (by omega)).2
  have hpl : I 72 30 = I 0 10 := a2.2.2.2.2.1.1
  have hF2 : (-1 ≤ f ∧ f ≤ I 72 5 - 1) ↔ (f = -1 ∨ (0 ≤ f ∧ f < I 1 2)) := by rw [q1, q2]; grind
  have hn2 : ¬ I 72 5 = 10 ↔ I 1 2 < 10 := by rw [q1, q2]; grind
  by_cases hok : ((((0 ≤ x ∧ x ≤ 100) ∧ 0 ≤ y ∧ y ≤ 100) ∧ (1 ≤ p ∧ p ≤ 10000) ∧ 0 ≤ c ∧ c ≤ 11) ∧ (f = -1 ∨ (0 ≤ f ∧ f < I 1 2)) ∧ I 1 2 < 10 ∧ I 0 10 = -1)
  · obtain ⟨hS, hF, hn, hp⟩ := hok
    have hnm : nm < 10 := (nI_ltI (a := nm) (b := 10) (by omega) (by omega)).mp (by rw [← q1]; exact hn)
    have c1 := c_X10_mast_ok G d x y p f hh c I L b h.1 hS hF hnm hp h01
    generalize hJ : uI (uI (uI (uI (uI (uI (uI I (4 + nm) 0 x) (4 + nm) 1 y) (4 + nm) 2 p) (4 + nm) 5 c) (4 + nm) 3 f) (4 + nm) 4 hh) 1 2 (nI (nm + 1)) = J at c1
    have j1 : ∀ k, J 72 k = I 72 k := by intro k; rw [← hJ]; simp (disch := omega) only [uI_ne]
    have c2 := c_X11_mast_ok G (d + 1) x y p f hh c J L b (by rw [j1, q2]) hS (by rw [j1]; exact hF2.mpr hF) hnm (by rw [j1, hpl]; exact hp) h01
    have hF3 : -1 ≤ f ∧ f < nI nm := by rw [← q1]; grind
    have ht0 : I 0 11 = 0 := by
      rcases a2.2.2.2.2.2.1.2 with z | z
      · exact z
      · exact absurd hp (a2.2.2.2.2.2.2.2.2.1 z)
    have hnn : nI nm < nI (nm + 1) := nI_lt (by omega) (by omega)
    subst hJ
    refine ⟨_, _, _, _, _, c1, c2, ⟨nm + 1, na, nr, ⟨⟨?_, ?_, by omega⟩, ⟨?_, ?_, q4.2.2⟩, ?_, ?_, q5.2.2⟩, ?_, ?_, ?_, ?_, ?_, ?_, ?_, ?_, ?_, ?_⟩, ?_, ?_⟩
    · simp (disch := omega) only [uI_ne, uI_nk, uI_eq]
    · simp (disch := omega) only [uI_ne, uI_nk, uI_eq]
    · simp (disch := omega) only [uI_ne, uI_nk, uI_eq]; exact q4.1
    · simp (disch := omega) only [uI_ne, uI_nk, uI_eq]; exact q4.2.1
    · simp (disch := omega) only [uI_ne, uI_nk, uI_eq]; exact q5.1
    · simp (disch := omega) only [uI_ne, uI_nk, uI_eq]; exact q5.2.1
    · unfold IVs at a2 ⊢; simp (disch := omega) only [uI_ne, uI_nk, uI_eq]; exact ⟨a2.1, a2.2.1, a2.2.2.1, a2.2.2.2.1, ⟨a2.2.2.2.2.1.1, a2.2.2.2.2.1.2.imp id (fun z => ⟨z.1, z.2.1, by have := nI_lt (a := 0) (b := nm + 1) (by omega) (by omega); intro hz; rw [hz] at this; exact absurd this (by decide)⟩)⟩, a2.2.2.2.2.2⟩
    · intro m hm
      by_cases e : m = nm
      · subst e; simp (disch := omega) only [uI_ne, uI_nk, uI_eq]; grind
      · simp (disch := omega) only [uI_ne, uI_nk, uI_eq]; exact a3 m hm
    · intro m hm
      have z := a4 m hm
      by_cases e : m = nm
      · subst e; simp (disch := omega) only [uI_ne, uI_nk, uI_eq]; grind
      · simp (disch := omega) only [uI_ne, uI_nk, uI_eq]; grind
    · intro m hm
      by_cases e : m = nm
      · subst e; simp (disch := omega) only [uI_ne, uI_nk, uI_eq]; grind
      · simp (disch := omega) only [uI_ne, uI_nk, uI_eq]; exact a5 m (by omega)
    · intro m hm; simp (disch := omega) only [uI_ne, uI_nk, uI_eq]; exact a6 m hm
    · intro m hm
      have z := a7 m hm
      by_cases e : m = nm
      · subst e; simp (disch := omega) only [uI_ne, uI_nk, uI_eq]; grind
      · simp (disch := omega) only [uI_ne, uI_nk, uI_eq]; grind
    · intro m hm; simp (disch := omega) only [uI_ne, uI_nk, uI_eq]; exact a8 m hm
    · intro m hm; have z := a9 m hm; simp (disch := omega) only [uI_ne, uI_nk, uI_eq]; grind
    · unfold IVt at a10 ⊢; simp (disch := omega) only [uI_ne, uI_nk, uI_eq]; exact a10
    · intro m hm; simp (disch := omega) only [uI_ne, uI_nk, uI_eq]; exact a11 m hm
    · intro a ha; funext k; simp (disch := omega) only [uI_ne, uI_nk, uI_eq]
    · simp (disch := omega) only [uI_ne, uI_nk, uI_eq]
  · have c1 := c_X10_mast_no G d x y p f hh c I L b h.1 hok
    have c2 := c_X11_mast_no G (d + 1) x y p f hh c I L b (by rw [hF2, hn2, hpl]; exact hok)
    simp only [hF2, hn2] at c2
    exact StepA.query h c1 c2
