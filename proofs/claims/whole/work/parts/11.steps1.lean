/-! the plain calls, one by one: terms, fault, deliver, end, weekOf, channelOf, mastOf, areaOf, strength, fail -/
theorem s_terms {G : Gl} {d : Nat} {I : IF} {L : LF} {b : Bool} (l r : Int32) (h : InvA I L) : StepA G (d + 1) Y_X10_terms Y_X11_terms [.int l, .int r] I L b := by
  obtain ⟨nm, na, nr, h⟩ := h
  by_cases hc : (1 ≤ l ∧ l ≤ 1000000) ∧ 1 ≤ r ∧ r ≤ 100
  · have c1 := c_X10_terms G d l r I L b
    rw [if_pos hc, if_pos hc] at c1
    have c2 := c_X11_terms G d l r (uI (uI I 1 6 l) 1 7 r) L b
    rw [if_pos hc, if_pos hc] at c2
    have ho : ∀ a, a ≠ 0 → a ≠ 1 → a ≠ 39 → a ≠ 44 → a ≠ 72 → uI (uI (uI (uI (uI I 1 6 l) 1 7 r) 72 0 0) 72 9 l) 72 10 r a = I a := by
      intro a _ _ _ _ _
      rw [uI_fn, uI_fn, uI_fn, uI_fn, uI_fn] <;> assumption
    refine ⟨_, _, _, _, _, c1, c2, ⟨nm, na, nr, IV_sc h ho rfl rfl h.1 ?_ rfl rfl⟩, LSm_sc ho rfl⟩
    obtain ⟨-, ⟨b1, b2, b3, b4, b5, b6, b7, b8, b9, b10⟩, -⟩ := h
    exact ⟨b1, rfl, ⟨rfl, hc.2⟩, b4, b5, b6, b7, b8, b9, b10⟩
  · have c1 := c_X10_terms G d l r I L b
    rw [if_neg hc, if_neg hc] at c1
    have c2 := c_X11_terms G d l r I L b
    rw [if_neg hc, if_neg hc] at c2
    exact StepA.query h c1 c2
theorem c_X10_fault (G : Gl) (d : Nat) (I : IF) (L : LF) (b : Bool) : MD G d Y_X10_fault [.ref 0] (I, L, RR b) (some (.int (I 0 8))) (I, L, RR b) := by
  refine MT.intro m_X10_fault rfl (Nat.le_of_ble_eq_true rfl) ?_
  show WQ G d Y_X10_fault _ 0 [(0, .ref 0)] [] (I, L, RR b)
  refine wp_aload_n rfl rfl ?_
  refine q_geti rfl rfl (by first | rfl | assumption) rfl ?_
  exact wp_iret rfl rfl (⟨by first | rfl | grind [b2], rfl⟩)
theorem c_X11_fault (G : Gl) (d : Nat) (I : IF) (L : LF) (b : Bool) : MD G d Y_X11_fault [.ref 72] (I, L, RR b) (some (.int (I 72 37))) (uI I 72 0 0, L, RR b) := by
  refine MT.intro m_X11_fault rfl (Nat.le_of_ble_eq_true rfl) ?_
  show WQ G d Y_X11_fault _ 0 [(0, .ref 72)] [] (I, L, RR b)
  refine wp_aload_n rfl rfl ?_
  refine wp_iconst (v := 0) rfl rfl ?_
  refine q_puti rfl rfl (by first | rfl | assumption) (Or.inl rfl) rfl ?_
  refine wp_aload_n rfl rfl ?_
  refine q_geti rfl rfl (by first | rfl | assumption) rfl ?_
  exact wp_iret rfl rfl (⟨by first | rfl | grind [b2], rfl⟩)
theorem s_fault {G : Gl} {d : Nat} {I : IF} {L : LF} {b : Bool} (h : InvA I L) : StepA G d Y_X10_fault Y_X11_fault [] I L b := by
  obtain ⟨nm, na, nr, h⟩ := h
  have c2 := c_X11_fault G d I L b
  rw [h.2.1.2.2.2.2.2.2.1] at c2
  exact StepA.query h (c_X10_fault G d I L b) c2
theorem c_X10_deliver (G : Gl) (d : Nat) (n : Int32) (I : IF) (L : LF) (b : Bool) : MD G (d + 1) Y_X10_deliver [.ref 0, .int n] (I, L, RR b) (some (.int (if (0 ≤ n ∧ n ≤ 1000000) ∧ n ≤ 10000000 - I 0 9 then I 0 9 + n else -2))) (if (0 ≤ n ∧ n ≤ 1000000) ∧ n ≤ 10000000 - I 0 9 then uI I 0 9 (I 0 9 + n) else I, L, RR b) := by
  refine MT.intro m_X10_deliver rfl (Nat.le_of_ble_eq_true rfl) ?_
  show WQ G (d + 1) Y_X10_deliver _ 0 [(0, .ref 0), (1, .int n)] [] (I, L, RR b)
  refine wp_iload_n rfl rfl ?_
  refine wp_iconst (v := 0) rfl rfl ?_
  refine wp_ldc (v := (1000000)) rfl ci_10_76 ?_
  refine cS1 rfl l_10_77 s_X10_isWithin m_X10_isWithin (c_X10_isWithin G _ _ _ _ _) rfl (Nat.le_of_ble_eq_true rfl) ?_
  refine wp_if_eq 11 rfl rfl (fun h4 => ?_) (fun h4 => ?_)
  · refine wp_bipush (v := (-2)) rfl rfl ?_
    exact wp_iret rfl rfl (⟨by (try simp only [uI_eq]); grind [b2], by grind [b2]⟩)
  · refine wp_iload_n rfl rfl ?_
    refine wp_ldc (v := (10000000)) rfl ci_10_221 ?_
    refine wp_aload_n rfl rfl ?_
    refine q_geti rfl rfl (by first | rfl | assumption) rfl ?_
    refine wp_isub rfl ?_
    refine wp_icmp_le 13 rfl rfl (fun h10 => ?_) (fun h10 => ?_)
    · refine wp_aload_n rfl rfl ?_
      refine wp_dup rfl rfl ?_
      refine q_geti rfl rfl (by first | rfl | assumption) rfl ?_
      refine wp_iload_n rfl rfl ?_
      refine wp_iadd rfl ?_
      refine q_puti rfl rfl (by first | rfl | assumption) (Or.inl rfl) rfl ?_
      refine wp_aload_n rfl rfl ?_
      refine q_geti rfl rfl (by first | rfl | assumption) rfl ?_
      exact wp_iret rfl rfl (⟨by (try simp only [uI_eq]); grind [b2], by grind [b2]⟩)
    · refine wp_bipush (v := (-2)) rfl rfl ?_
      exact wp_iret rfl rfl (⟨by (try simp only [uI_eq]); grind [b2], by grind [b2]⟩)
theorem c_X11_deliver (G : Gl) (d : Nat) (n : Int32) (I : IF) (L : LF) (b : Bool) : MD G (d + 1) Y_X11_deliver [.ref 72, .int n] (I, L, RR b) (some (.int (if (0 ≤ n ∧ n ≤ 1000000) ∧ I 72 11 + n ≤ 10000000 then I 72 11 + n else -2))) (if (0 ≤ n ∧ n ≤ 1000000) ∧ I 72 11 + n ≤ 10000000 then uI (uI I 72 0 0) 72 11 (I 72 11 + n) else uI I 72 0 0, L, RR b) := by
  refine MT.intro m_X11_deliver rfl (Nat.le_of_ble_eq_true rfl) ?_
  show WQ G (d + 1) Y_X11_deliver _ 0 [(0, .ref 72), (1, .int n)] [] (I, L, RR b)
  refine wp_aload_n rfl rfl ?_
  refine wp_iconst (v := 0) rfl rfl ?_
  refine q_puti rfl rfl (by first | rfl | assumption) (Or.inl rfl) rfl ?_
  refine wp_iload_n rfl rfl ?_
  refine wp_i2l rfl ?_
  refine wp_lconst (v := 0) rfl rfl ?_
  refine wp_ldc2 (v := (1000000)) rfl cl_11_131 ?_
  refine cS1 rfl l_11_119 s_X11_in m_X11_in (c_inI G _ _ 0 1000000 rfl rfl _) rfl (Nat.le_of_ble_eq_true rfl) ?_
  refine wp_if_eq 15 rfl rfl (fun h8 => ?_) (fun h8 => ?_)
  · refine wp_bipush (v := (-2)) rfl rfl ?_
    exact wp_iret rfl rfl (⟨by (try simp only [uI_eq, uI_nk (show (11 : Nat) ≠ 0 by decide)] at *); grind [b2], by (try simp only [uI_nk (show (11 : Nat) ≠ 0 by decide)] at *); grind [b2]⟩)
  · refine wp_aload_n rfl rfl ?_
    refine q_geti rfl rfl (by first | rfl | assumption) rfl ?_
    refine wp_iload_n rfl rfl ?_
    refine wp_iadd rfl ?_
    refine wp_ldc_w (v := (10000000)) rfl ci_11_334 ?_
    refine wp_icmp_le 17 rfl rfl (fun h14 => ?_) (fun h14 => ?_)
    · refine wp_aload_n rfl rfl ?_
      refine wp_dup rfl rfl ?_
      refine q_geti rfl rfl (by first | rfl | assumption) rfl ?_
      refine wp_iload_n rfl rfl ?_
      refine wp_iadd rfl ?_
      refine q_puti rfl rfl (by first | rfl | assumption) (Or.inl rfl) rfl ?_
      refine wp_aload_n rfl rfl ?_
      refine q_geti rfl rfl (by first | rfl | assumption) rfl ?_
      exact wp_iret rfl rfl (⟨by (try simp only [uI_eq, uI_nk (show (11 : Nat) ≠ 0 by decide)] at *); grind [b2], by (try simp only [uI_nk (show (11 : Nat) ≠ 0 by decide)] at *); grind [b2]⟩)
    · refine wp_bipush (v := (-2)) rfl rfl ?_
      exact wp_iret rfl rfl (⟨by (try simp only [uI_eq, uI_nk (show (11 : Nat) ≠ 0 by decide)] at *); grind [b2], by (try simp only [uI_nk (show (11 : Nat) ≠ 0 by decide)] at *); grind [b2]⟩)
theorem s_deliver {G : Gl} {d : Nat} {I : IF} {L : LF} {b : Bool} (n : Int32) (h : InvA I L) : StepA G (d + 1) Y_X10_deliver Y_X11_deliver [.int n] I L b := by
  obtain ⟨nm, na, nr, h⟩ := h
  obtain ⟨e1, e2, e3⟩ := h.2.1.2.2.2.1
  by_cases hc : (0 ≤ n ∧ n ≤ 1000000) ∧ n ≤ 10000000 - I 0 9
  · have c1 := c_X10_deliver G d n I L b
    rw [if_pos hc, if_pos hc] at c1
    have c2 := c_X11_deliver G d n (uI I 0 9 (I 0 9 + n)) L b
    rw [show uI I 0 9 (I 0 9 + n) 72 11 = I 0 9 from e1] at c2
    have hc2 : (0 ≤ n ∧ n ≤ 1000000) ∧ I 0 9 + n ≤ 10000000 := by grind
    rw [if_pos hc2, if_pos hc2] at c2
    have ho : ∀ a, a ≠ 0 → a ≠ 1 → a ≠ 39 → a ≠ 44 → a ≠ 72 → uI (uI (uI I 0 9 (I 0 9 + n)) 72 0 0) 72 11 (I 0 9 + n) a = I a := by
      intro a _ _ _ _ _
      rw [uI_fn, uI_fn, uI_fn] <;> assumption
    refine ⟨_, _, _, _, _, c1, c2, ⟨nm, na, nr, IV_sc h ho rfl rfl h.1 ?_ rfl rfl⟩, LSm_sc ho rfl⟩
    obtain ⟨-, ⟨b1, b2, b3, b4, b5, b6, b7, b8, b9, b10⟩, -⟩ := h
    exact ⟨b1, b2, b3, ⟨rfl, by show 0 ≤ I 0 9 + n; grind, by show I 0 9 + n ≤ 10000000; grind⟩, b5, b6, b7, b8, b9, b10⟩
  · have c1 := c_X10_deliver G d n I L b
    rw [if_neg hc, if_neg hc] at c1
    have c2 := c_X11_deliver G d n I L b
    rw [e1] at c2
    have hc2 : ¬ ((0 ≤ n ∧ n ≤ 1000000) ∧ I 0 9 + n ≤ 10000000) := by grind
    rw [if_neg hc2, if_neg hc2] at c2
    exact StepA.query h c1 c2
theorem c_X10_end (G : Gl) (d : Nat) (n : Int32) (I : IF) (L : LF) (b : Bool) : MD G (d + 1) Y_X10_end [.ref 0, .int n] (I, L, RR b) (some (.int (if 0 ≤ n ∧ n ≤ I 44 1 then n else -1))) (if 0 ≤ n ∧ n ≤ I 44 1 then uI I 44 1 n else I, L, RR b) := by
  refine MT.intro m_X10_end rfl (Nat.le_of_ble_eq_true rfl) ?_
  show WQ G (d + 1) Y_X10_end _ 0 [(0, .ref 0), (1, .int n)] [] (I, L, RR b)
  refine wp_iload_n rfl rfl ?_
  refine wp_iconst (v := 0) rfl rfl ?_
  refine wp_aload_n rfl rfl ?_
  refine q_getr rfl rfl (by first | rfl | assumption) rfl rfl ?_
  refine q_geti rfl rfl (by first | rfl | assumption) rfl ?_
  refine cS1 rfl l_10_77 s_X10_isWithin m_X10_isWithin (c_X10_isWithin G _ _ _ _ _) rfl (Nat.le_of_ble_eq_true rfl) ?_
  refine wp_if_ne 9 rfl rfl (fun h6 => ?_) (fun h6 => ?_)
  · refine wp_aload_n rfl rfl ?_
    refine q_getr rfl rfl (by first | rfl | assumption) rfl rfl ?_
    refine wp_iload_n rfl rfl ?_
    refine q_puti rfl rfl (by first | rfl | assumption) (Or.inl rfl) rfl ?_
    refine wp_iload_n rfl rfl ?_
    exact wp_iret rfl rfl (⟨by grind [b2], by grind [b2]⟩)
  · refine wp_iconst (v := (-1)) rfl rfl ?_
    exact wp_iret rfl rfl (⟨by grind [b2], by grind [b2]⟩)
theorem c_X11_end (G : Gl) (d : Nat) (n : Int32) (I : IF) (L : LF) (b : Bool) : MD G (d + 1) Y_X11_end [.ref 72, .int n] (I, L, RR b) (some (.int (if 0 ≤ n ∧ n ≤ I 72 36 then n else -1))) (if 0 ≤ n ∧ n ≤ I 72 36 then uI (uI I 72 0 0) 72 36 n else uI I 72 0 0, L, RR b) := by
  refine MT.intro m_X11_end rfl (Nat.le_of_ble_eq_true rfl) ?_
  show WQ G (d + 1) Y_X11_end _ 0 [(0, .ref 72), (1, .int n)] [] (I, L, RR b)
  refine wp_aload_n rfl rfl ?_
  refine wp_iconst (v := 0) rfl rfl ?_
  refine q_puti rfl rfl (by first | rfl | assumption) (Or.inl rfl) rfl ?_
  refine wp_iload_n rfl rfl ?_
  refine wp_i2l rfl ?_
  refine wp_lconst (v := 0) rfl rfl ?_
  refine wp_aload_n rfl rfl ?_
  refine q_geti rfl rfl (by first | rfl | assumption) rfl ?_
  refine wp_i2l rfl ?_
  refine cS1 rfl l_11_119 s_X11_in m_X11_in (c_inI G _ _ 0 (I 72 36) rfl rfl _) rfl (Nat.le_of_ble_eq_true rfl) ?_
  refine wp_if_ne 13 rfl rfl (fun h10 => ?_) (fun h10 => ?_)
  · refine wp_aload_n rfl rfl ?_
    refine wp_iload_n rfl rfl ?_
    refine q_puti rfl rfl (by first | rfl | assumption) (Or.inl rfl) rfl ?_
    refine wp_iload_n rfl rfl ?_
    exact wp_iret rfl rfl (⟨by grind [b2], by grind [b2]⟩)
  · refine wp_iconst (v := (-1)) rfl rfl ?_
    exact wp_iret rfl rfl (⟨by grind [b2], by grind [b2]⟩)
theorem s_end {G : Gl} {d : Nat} {I : IF} {L : LF} {b : Bool} (n : Int32) (h : InvA I L) : StepA G (d + 1) Y_X10_end Y_X11_end [.int n] I L b := by
  obtain ⟨nm, na, nr, h⟩ := h
  obtain ⟨⟨tl, t1, t2, t3⟩, t4⟩ := h.2.2.2.2.2.2.2.2.2.1
  by_cases hc : 0 ≤ n ∧ n ≤ I 44 1
  · have c1 := c_X10_end G d n I L b
    rw [if_pos hc, if_pos hc] at c1
    have c2 := c_X11_end G d n (uI I 44 1 n) L b
    have hc2 : 0 ≤ n ∧ n ≤ uI I 44 1 n 72 36 := by
      show 0 ≤ n ∧ n ≤ I 72 36
      rw [t3, ← t2]; exact hc
    rw [if_pos hc2, if_pos hc2] at c2
    obtain ⟨tn, q1, q2⟩ : ∃ tn, tn < tl + 1 ∧ n = nI tn := by
      refine nI_get hc.1 ?_ (by omega)
      have h5 := hc.2
      rw [t2] at h5
      rw [nI_succ]
      have h6 := nI_ltI (a := tl) (b := tl + 1) (by omega) (by omega)
      rw [nI_succ] at h6
      have h7 := h6.mpr (by omega)
      grind
    obtain ⟨a1, a2, a3, a4, a5, a6, a7, a8, a9, a10, a11⟩ := h
    have ho : ∀ a, a ≠ 44 → a ≠ 72 → uI (uI (uI I 44 1 n) 72 0 0) 72 36 n a = I a := by
      intro a _ _
      rw [uI_fn, uI_fn, uI_fn] <;> assumption
    refine ⟨_, _, _, _, _, c1, c2, ⟨nm, na, nr, a1, a2, IVm_fr a3 (fun m hm => ho _ (by omega) (by omega)) (fun a _ _ => ho _ (by omega) (by omega)), IVk_fr a4 (fun m hm => ho _ (by omega) (by omega)) (fun a _ _ => ho _ (by omega) (by omega)) rfl, IVf_fr a1.1.2.2 a5 (fun m hm => ho _ (by omega) (by omega)) (ho _ (by omega) (by omega)), IVu_fr a6 (fun m hm => ho _ (by omega) (by omega)) (ho _ (by omega) (by omega)), IVp_fr a7 (fun m hm => ho _ (by omega) (by omega)) (fun a _ _ => ho _ (by omega) (by omega)) rfl rfl, IVa_fr a8 (fun m hm => ho _ (by omega) (by omega)) (fun a _ _ => ho _ (by omega) (by omega)), IVl_fr a9 (fun m hm => ho _ (by omega) (by omega)) (ho _ (by omega) (by omega)), ⟨⟨tn, by omega, q2, q2⟩, t4⟩, IVr_fr a11 (fun m hm => ho _ (by omega) (by omega)) (ho _ (by omega) (by omega)) (ho _ (by omega) (by omega))⟩, fun a ha => ho a (by omega) (by omega), rfl⟩
  · have c1 := c_X10_end G d n I L b
    rw [if_neg hc, if_neg hc] at c1
    have c2 := c_X11_end G d n I L b
    have hc2 : ¬ (0 ≤ n ∧ n ≤ I 72 36) := by rw [t3, ← t2]; exact hc
    rw [if_neg hc2, if_neg hc2] at c2
    exact StepA.query h c1 c2
/-- one of the masts, one of the areas -/
theorem isM {nm na nr : Nat} {I : IF} (h : IVc nm na nr I) (v : Int32) : (0 ≤ v ∧ v < I 1 2 → ∃ m, m < nm ∧ v = nI m ∧ v.toNatClampNeg = m) ∧ ((0 ≤ v ∧ v ≤ I 72 5 - 1) ↔ (0 ≤ v ∧ v < I 1 2)) := by
  obtain ⟨⟨h1, h2, h3⟩, -⟩ := h
  refine ⟨fun hv => ?_, ?_⟩
  · rw [h1] at hv
    obtain ⟨m, hm, rfl⟩ := nI_get hv.1 hv.2 (by omega)
    exact ⟨m, hm, rfl, nI_clamp (by omega)⟩
  · rw [h1, h2]
    have a := nI_leI (a := 0) (b := nm) (by omega) (by omega)
    have c := nI_leI (a := nm) (b := 10) (by omega) (by omega)
    have a' : (0 : Int32) ≤ nI nm := a.mpr (by omega)
    have c' : nI nm ≤ (10 : Int32) := c.mpr h3
    grind
theorem isAr {nm na nr : Nat} {I : IF} (h : IVc nm na nr I) (v : Int32) : (0 ≤ v ∧ v < I 1 4 → ∃ m, m < nr ∧ v = nI m ∧ v.toNatClampNeg = m) ∧ ((0 ≤ v ∧ v ≤ I 72 7 - 1) ↔ (0 ≤ v ∧ v < I 1 4)) := by
  obtain ⟨-, -, h1, h2, h3⟩ := h
  refine ⟨fun hv => ?_, ?_⟩
  · rw [h1] at hv
    obtain ⟨m, hm, rfl⟩ := nI_get hv.1 hv.2 (by omega)
    exact ⟨m, hm, rfl, nI_clamp (by omega)⟩
  · rw [h1, h2]
    have a := nI_leI (a := 0) (b := nr) (by omega) (by omega)
    have c := nI_leI (a := nr) (b := 16) (by omega) (by omega)
    have a' : (0 : Int32) ≤ nI nr := a.mpr (by omega)
    have c' : nI nr ≤ (16 : Int32) := c.mpr h3
    grind
theorem c_X10_weekOf (G : Gl) (d : Nat) {nm na nr : Nat} (v : Int32) (I : IF) (L : LF) (b : Bool) (h : IVc nm na nr I) : MD G (d + 1) Y_X10_weekOf [.ref 0, .int v] (I, L, RR b) (some (.int (if 0 ≤ v ∧ v < I 1 2 then I (4 + v.toNatClampNeg) 7 else -2))) (I, L, RR b) := by
  refine MT.intro m_X10_weekOf rfl (Nat.le_of_ble_eq_true rfl) ?_
  show WQ G (d + 1) Y_X10_weekOf _ 0 [(0, .ref 0), (1, .int v)] [] (I, L, RR b)
  refine wp_aload_n rfl rfl ?_
  refine q_getr rfl rfl (by first | rfl | assumption) rfl rfl ?_
  refine wp_iload_n rfl rfl ?_
  refine cV1 rfl l_10_91 i_X1_isMast m_X1_isMast (by first | rfl | assumption) (by decide) (c_X1_isMast G _ _ _ _ _) rfl (Nat.le_of_ble_eq_true rfl) ?_
  refine wp_if_eq 12 rfl rfl (fun h4 => ?_) (fun h4 => ?_)
  · refine wp_bipush (v := (-2)) rfl rfl ?_
    exact wp_iret rfl rfl (⟨by grind [b2], rfl⟩)
  · have hv := b2_ne.mp h4
    obtain ⟨m, hm, hvm, hcl⟩ := (isM h v).1 hv
    have hm14 : m < 14 := by have := h.1.2.2; omega
    have hsm := sh_mast m hm14
    refine wp_aload_n rfl rfl ?_
    refine q_getr rfl rfl (by first | rfl | assumption) rfl rfl ?_
    refine q_getr rfl rfl (by first | rfl | assumption) rfl rfl ?_
    refine wp_iload_n rfl rfl ?_
    refine q_mast rfl hvm hm14 ?_
    refine q_geti rfl rfl (by first | rfl | assumption) rfl ?_
    refine wp_goto 13 rfl rfl ?_
    exact wp_iret rfl rfl (⟨by grind [b2], rfl⟩)
theorem c_X11_weekOf (G : Gl) (d : Nat) {nm na nr : Nat} (v : Int32) (I : IF) (L : LF) (b : Bool) (h : IVc nm na nr I) : MD G (d + 2) Y_X11_weekOf [.ref 72, .int v] (I, L, RR b) (some (.int (if 0 ≤ v ∧ v < I 1 2 then (if I 72 30 = -1 then -1 else I 94 v.toNatClampNeg) else -2))) (uI I 72 0 0, L, RR b) := by
  refine MT.intro m_X11_weekOf rfl (Nat.le_of_ble_eq_true rfl) ?_
  show WQ G (d + 2) Y_X11_weekOf _ 0 [(0, .ref 72), (1, .int v)] [] (I, L, RR b)
  refine wp_aload_n rfl rfl ?_
  refine wp_iconst (v := 0) rfl rfl ?_
  refine q_puti rfl rfl (by first | rfl | assumption) (Or.inl rfl) rfl ?_
  refine wp_aload_n rfl rfl ?_
  refine wp_iload_n rfl rfl ?_
  refine cV1 rfl l_11_165 i_X11_isMast m_X11_isMast (by first | rfl | assumption) (by decide) (c_X11_isMast G _ _ _ _ _) rfl (Nat.le_of_ble_eq_true rfl) ?_
  refine wp_if_ne 9 rfl rfl (fun h6 => ?_) (fun h6 => ?_)
  · refine wp_aload_n rfl rfl ?_
    refine q_geti rfl rfl (by first | rfl | assumption) rfl ?_
    refine wp_iconst (v := (-1)) rfl rfl ?_
    refine wp_icmp_ne 15 rfl rfl (fun h12 => ?_) (fun h12 => ?_)
    · have hv := (isM h v).2.mp (b2_ne.mp h6)
      obtain ⟨m, hm, hvm, hcl⟩ := (isM h v).1 hv
      have hin : vp_in v 10 := by rw [hvm]; exact vp_in_nI (by have := h.1.2.2; omega) (by omega)
      refine wp_aload_n rfl rfl ?_
      refine q_getr rfl rfl (by first | rfl | assumption) rfl rfl ?_
      refine wp_iload_n rfl rfl ?_
      refine q_iald rfl (by first | rfl | assumption) (by assumption) ?_
      exact wp_iret rfl rfl (⟨by have e := (isM h v).2; simp only [uI_nk (show (5 : Nat) ≠ 0 by decide), uI_nk (show (30 : Nat) ≠ 0 by decide), uI_ne (show (94 : Nat) ≠ 72 by decide)] at *; grind [b2], rfl⟩)
    · refine wp_iconst (v := (-1)) rfl rfl ?_
      refine wp_goto 19 rfl rfl ?_
      exact wp_iret rfl rfl (⟨by have e := (isM h v).2; simp only [uI_nk (show (5 : Nat) ≠ 0 by decide), uI_nk (show (30 : Nat) ≠ 0 by decide), uI_ne (show (94 : Nat) ≠ 72 by decide)] at *; grind [b2], rfl⟩)
  · refine wp_bipush (v := (-2)) rfl rfl ?_
    refine wp_goto 19 rfl rfl ?_
    exact wp_iret rfl rfl (⟨by have e := (isM h v).2; simp only [uI_nk (show (5 : Nat) ≠ 0 by decide), uI_nk (show (30 : Nat) ≠ 0 by decide), uI_ne (show (94 : Nat) ≠ 72 by decide)] at *; grind [b2], rfl⟩)
theorem s_weekOf {G : Gl} {d : Nat} {I : IF} {L : LF} {b : Bool} (v : Int32) (h : InvA I L) : StepA G (d + 2) Y_X10_weekOf Y_X11_weekOf [.int v] I L b := by
  obtain ⟨nm, na, nr, h⟩ := h
  have c1 := c_X10_weekOf G (d + 1) v I L b h.1
  have c2 := c_X11_weekOf G d v I L b h.1
  refine StepA.query h c1 ?_
  have e : (if 0 ≤ v ∧ v < I 1 2 then (if I 72 30 = -1 then -1 else I 94 v.toNatClampNeg) else -2) = (if 0 ≤ v ∧ v < I 1 2 then I (4 + v.toNatClampNeg) 7 else -2) := by
    by_cases hv : 0 ≤ v ∧ v < I 1 2
    · rw [if_pos hv, if_pos hv]
      obtain ⟨m, hm, -, hcl⟩ := (isM h.1 v).1 hv
      rw [hcl, h.2.1.2.2.2.2.1.1]
      obtain ⟨p1, p2, -⟩ := h.2.2.2.2.2.2.1 m (by have := h.1.1.2.2; omega)
      split
      · next hz => rw [p2 (Or.inl hz)]
      · next hz => exact (p1 ⟨hz, hm⟩).1
    · rw [if_neg hv, if_neg hv]
  rw [e] at c2
  exact c2
