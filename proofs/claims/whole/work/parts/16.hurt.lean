/-! who is on, who hurts whom, the picture -/
/-- a mast is on: its chain of feeds, at most n long -/
def onC (I : IF) : Nat → Int32 → Bool
  | 0, _ => true
  | n + 1, v => if 0 ≤ v ∧ v < I 1 2 then (if I (4 + v.toNatClampNeg) 10 = 0 then onC I n (I (4 + v.toNatClampNeg) 3) else false) else true
theorem c_X1_isOn (G : Gl) (d : Nat) {nm na nr : Nat} (v : Int32) (I : IF) (L : LF) (b : Bool) (h : IVc nm na nr I) : MD G (d + 1) Y_X1_isOn [.ref 1, .int v] (I, L, RR b) (some (.int (b2 (onC I 10 v = true)))) (I, L, RR b) := by
  have hloop : ∀ (t : Bool) (n i : Nat) (u : Int32), i + n = 10 → onC I n u = t → WQ G (d + 1) Y_X1_isOn (fun r' w'' => r' = some (.int (b2 (t = true))) ∧ w'' = (I, L, RR b)) 4 [(0, .ref 1), (1, .int v), (2, .int u), (3, .int (nI i))] [] (I, L, RR b) := by
    intro t n
    induction n with
    | zero =>
      intro i u hi hu
      have hi10 : i = 10 := by omega
      subst hi10
      simp only [onC] at hu
      refine wp_iload_n rfl rfl ?_
      refine wp_bipush (v := 10) rfl rfl ?_
      refine wp_icmp_ge 27 rfl rfl (fun _ => ?_) (fun h6 => absurd (show (10 : Int32) ≤ nI 10 by decide) h6)
      refine wp_iconst (v := 1) rfl rfl ?_
      exact wp_zret rfl rfl (by first | rfl | exact nb2 _ | assumption) (⟨by rw [← hu]; rfl, rfl⟩)
    | succ n ih =>
      intro i u hi hu
      simp only [onC] at hu
      have hlt : ¬ (10 : Int32) ≤ nI i := nI_ge (a := i) (b := 10) (by omega) (by omega)
      refine wp_iload_n rfl rfl ?_
      refine wp_bipush (v := 10) rfl rfl ?_
      refine wp_icmp_ge 27 rfl rfl (fun h6 => absurd h6 hlt) (fun _ => ?_)
      refine wp_aload_n rfl rfl ?_
      refine wp_iload_n rfl rfl ?_
      refine cV1 rfl l_1_35 i_X1_isMast m_X1_isMast (by first | rfl | assumption) (by decide) (c_X1_isMast G _ _ _ _ _) rfl (Nat.le_of_ble_eq_true rfl) ?_
      refine wp_if_eq 27 rfl rfl (fun h10 => ?_) (fun h10 => ?_)
      · refine wp_iconst (v := 1) rfl rfl ?_
        exact wp_zret rfl rfl (by first | rfl | exact nb2 _ | assumption) (⟨by rw [← hu, if_neg (b2_eq.mp h10)]; rfl, rfl⟩)
      · have hv := b2_ne.mp h10
        obtain ⟨m, hm, hvm, hcl⟩ := (isM h u).1 hv
        have hm14 : m < 14 := by have := h.1.2.2; omega
        have hsm := sh_mast m hm14
        refine wp_aload_n rfl rfl ?_
        refine q_getr rfl rfl (by first | rfl | assumption) rfl rfl ?_
        refine wp_iload_n rfl rfl ?_
        refine q_mast rfl hvm hm14 ?_
        refine q_geti rfl rfl (by first | rfl | assumption) rfl ?_
        refine wp_if_eq 19 rfl rfl (fun h16 => ?_) (fun h16 => ?_)
        · refine wp_aload_n rfl rfl ?_
          refine q_getr rfl rfl (by first | rfl | assumption) rfl rfl ?_
          refine wp_iload_n rfl rfl ?_
          refine q_mast rfl hvm hm14 ?_
          refine q_geti rfl rfl (by first | rfl | assumption) rfl ?_
          refine wp_istore_n (lv' := [(2, _), (0, _), (1, _), (3, _)]) rfl rfl (by decide) rfl ?_
          refine wp_iinc (v := nI (i + 1)) (lv' := [(3, _), (2, _), (0, _), (1, _)]) rfl rfl (nI_1 i) (by decide) rfl ?_
          refine wp_goto 4 rfl rfl ?_
          refine wp_loc (lv' := [(0, _), (1, _), (2, _), (3, _)]) [2, 3, 1, 0] rfl ?_
          exact ih (i + 1) _ (by omega) (by rw [← hu, if_pos hv, hcl, if_pos h16])
        · refine wp_iconst (v := 0) rfl rfl ?_
          exact wp_zret rfl rfl (by first | rfl | exact nb2 _ | assumption) (⟨by rw [← hu, if_pos hv, hcl, if_neg h16]; rfl, rfl⟩)
  refine MT.intro m_X1_isOn rfl (Nat.le_of_ble_eq_true rfl) ?_
  show WQ G (d + 1) Y_X1_isOn _ 0 [(0, .ref 1), (1, .int v)] [] (I, L, RR b)
  refine wp_iload_n rfl rfl ?_
  refine wp_istore_n (lv' := [(2, _), (0, _), (1, _)]) rfl rfl (by decide) rfl ?_
  refine wp_iconst (v := 0) rfl rfl ?_
  refine wp_istore_n (lv' := [(3, _), (2, _), (0, _), (1, _)]) rfl rfl (by decide) rfl ?_
  refine wp_loc (lv' := [(0, _), (1, _), (2, _), (3, _)]) [2, 3, 1, 0] rfl ?_
  exact hloop _ 10 0 v rfl rfl
theorem c_X11_isOn (G : Gl) (d : Nat) {nm na nr : Nat} (v : Int32) (I : IF) (L : LF) (b : Bool) (h : IV nm na nr I L) (hv : v = -1 ∨ ∃ m, m < nm ∧ v = nI m) : MD G d Y_X11_isOn [.ref 72, .int v] (I, L, RR b) (some (.int (b2 (onC I 10 v = true)))) (I, L, RR b) := by
  have hnm : nm ≤ 10 := h.1.1.2.2
  have hloop : ∀ (t : Bool) (n : Nat) (u : Int32), (u = -1 ∨ ∃ m, m < nm ∧ u = nI m ∧ m < n) → onC I n u = t → WQ G d Y_X11_isOn (fun r' w'' => r' = some (.int (b2 (t = true))) ∧ w'' = (I, L, RR b)) 2 [(0, .ref 72), (1, .int v), (2, .int u)] [] (I, L, RR b) := by
    intro t n
    induction n with
    | zero =>
      intro u hu hc
      simp only [onC] at hc
      have hu1 : u = -1 := by
        rcases hu with e | ⟨m, -, -, hm⟩
        · exact e
        · omega
      refine wp_iload_n rfl rfl ?_
      refine wp_iconst (v := (-1)) rfl rfl ?_
      refine wp_icmp_eq 16 rfl rfl (fun h4 => ?_) (fun h4 => ?_)
      · refine wp_iload_n rfl rfl ?_
        refine wp_iconst (v := (-1)) rfl rfl ?_
        refine wp_icmp_ne 21 rfl rfl (fun h18 => ?_) (fun h18 => ?_)
        · exact absurd hu1 h18
        · refine wp_iconst (v := 1) rfl rfl ?_
          refine wp_goto 22 rfl rfl ?_
          exact wp_zret rfl rfl (by first | rfl | exact nb2 _ | assumption) (⟨by rw [← hc]; rfl, rfl⟩)
      · exact absurd hu1 h4
    | succ n ih =>
      intro u hu hc
      simp only [onC] at hc
      rcases hu with hu1 | ⟨m, hm, hum, hmn⟩
      · rw [if_neg (by grind)] at hc
        refine wp_iload_n rfl rfl ?_
        refine wp_iconst (v := (-1)) rfl rfl ?_
        refine wp_icmp_eq 16 rfl rfl (fun h4 => ?_) (fun h4 => ?_)
        · refine wp_iload_n rfl rfl ?_
          refine wp_iconst (v := (-1)) rfl rfl ?_
          refine wp_icmp_ne 21 rfl rfl (fun h18 => ?_) (fun h18 => ?_)
          · exact absurd hu1 h18
          · refine wp_iconst (v := 1) rfl rfl ?_
            refine wp_goto 22 rfl rfl ?_
            exact wp_zret rfl rfl (by first | rfl | exact nb2 _ | assumption) (⟨by rw [← hc]; rfl, rfl⟩)
        · exact absurd hu1 h4
      · have hcl : (nI m).toNatClampNeg = m := nI_clamp (by omega)
        have hpos : (0 : Int32) ≤ nI m := nI_pos' (by omega)
        have hin : vp_in u 10 := by rw [hum]; exact vp_in_nI (by omega) (by omega)
        have z4 := (h.2.2.2.1 m (by omega)).2.2.1
        have z5 := h.2.2.2.2.1 m hm
        have hclu : u.toNatClampNeg = m := by rw [hum]; exact hcl
        have hne : ¬ u = -1 := by rw [hum]; grind
        have hisM : 0 ≤ u ∧ u < I 1 2 := by rw [hum, h.1.1.1]; exact ⟨hpos, nI_lt hm (by omega)⟩
        rw [if_pos hisM, hclu] at hc
        refine wp_iload_n rfl rfl ?_
        refine wp_iconst (v := (-1)) rfl rfl ?_
        refine wp_icmp_eq 16 rfl rfl (fun h4 => absurd h4 hne) (fun _ => ?_)
        refine wp_aload_n rfl rfl ?_
        refine q_getr rfl rfl (by first | rfl | assumption) rfl rfl ?_
        refine wp_iload_n rfl rfl ?_
        refine q_zald rfl (by first | rfl | assumption) (by assumption) ?_
        refine wp_if_ne 16 rfl rfl (fun h9 => ?_) (fun h9 => ?_)
        · rw [hclu, z4.1] at h9
          rw [if_neg h9] at hc
          refine wp_iload_n rfl rfl ?_
          refine wp_iconst (v := (-1)) rfl rfl ?_
          refine wp_icmp_ne 21 rfl rfl (fun _ => ?_) (fun h18 => absurd h18 hne)
          refine wp_iconst (v := 0) rfl rfl ?_
          exact wp_zret rfl rfl (by first | rfl | exact nb2 _ | assumption) (⟨by rw [← hc]; rfl, rfl⟩)
        · rw [hclu, z4.1] at h9
          rw [if_pos h9] at hc
          refine wp_aload_n rfl rfl ?_
          refine q_getr rfl rfl (by first | rfl | assumption) rfl rfl ?_
          refine wp_iload_n rfl rfl ?_
          refine q_iald rfl (by first | rfl | assumption) (by assumption) ?_
          refine wp_istore_n (lv' := [(2, _), (0, _), (1, _)]) rfl rfl (by decide) rfl ?_
          refine wp_goto 2 rfl rfl ?_
          refine wp_loc (lv' := [(0, _), (1, _), (2, _)]) [1, 2, 0] rfl ?_
          rw [hclu, z5.1]
          refine ih _ ?_ hc
          by_cases e : I (4 + m) 3 = -1
          · exact Or.inl e
          · obtain ⟨q, q1, q2⟩ := nI_get (x := I (4 + m) 3) (n := m) (by grind) z5.2.2 (by omega)
            exact Or.inr ⟨q, by omega, q2, by omega⟩
  refine MT.intro m_X11_isOn rfl (Nat.le_of_ble_eq_true rfl) ?_
  show WQ G d Y_X11_isOn _ 0 [(0, .ref 72), (1, .int v)] [] (I, L, RR b)
  refine wp_iload_n rfl rfl ?_
  refine wp_istore_n (lv' := [(2, _), (0, _), (1, _)]) rfl rfl (by decide) rfl ?_
  refine wp_loc (lv' := [(0, _), (1, _), (2, _)]) [1, 2, 0] rfl ?_
  refine hloop _ 10 v ?_ rfl
  rcases hv with e | ⟨m, hm, hvm⟩
  · exact Or.inl e
  · exact Or.inr ⟨m, hm, hvm, by omega⟩
/-- these look at cells below 72 alone -/
theorem onC_cg {I J : IF} (h : ∀ a, a < 72 → J a = I a) : ∀ (n : Nat) (v : Int32), v < I 1 2 → I 1 2 ≤ 10 → (∀ m, m < 10 → nI m < I 1 2 → I (4 + m) 3 < I 1 2) → onC J n v = onC I n v
  | 0, _, _, _, _ => rfl
  | n + 1, v, hv, h10, hf => by
    simp only [onC]
    rw [h 1 (by omega)]
    by_cases hc : 0 ≤ v ∧ v < I 1 2
    · rw [if_pos hc, if_pos hc]
      obtain ⟨m, hm, rfl⟩ := nI_get (x := v) (n := 10) hc.1 (by show v < 10; grind) (by omega)
      rw [nI_clamp (by omega), h (4 + m) (by omega)]
      by_cases hz : I (4 + m) 10 = 0
      · rw [if_pos hz, if_pos hz]
        exact onC_cg h n _ (hf m hm hc.2) h10 hf
      · rw [if_neg hz, if_neg hz]
    · rw [if_neg hc, if_neg hc]
theorem onC_thr {nm na nr : Nat} {I : IF} {L : LF} (h : IV nm na nr I L) (v : Int32) (hv : v < I 1 2) : onC (uI I 72 0 0) 10 v = onC I 10 v := by
  have h10 : I 1 2 ≤ 10 := by rw [h.1.1.1]; exact nI_le (b := 10) h.1.1.2.2 (by omega)
  refine onC_cg (fun a ha => uI_fn (by omega)) 10 v hv h10 (fun m hm hl => ?_)
  have hmn : m < nm := (nI_ltI (by omega) (by have := h.1.1.2.2; omega)).mp (by rw [← h.1.1.1]; exact hl)
  have := h.2.2.2.2.1 m hmn
  grind
theorem c_X10_on (G : Gl) (d : Nat) {nm na nr : Nat} (v : Int32) (I : IF) (L : LF) (b : Bool) (h : IVc nm na nr I) : MD G (d + 2) Y_X10_on [.ref 0, .int v] (I, L, RR b) (some (.int (if 0 ≤ v ∧ v < I 1 2 then b2 (onC I 10 v = true) else -2))) (I, L, RR b) := by
  refine MT.intro m_X10_on rfl (Nat.le_of_ble_eq_true rfl) ?_
  show WQ G (d + 2) Y_X10_on _ 0 [(0, .ref 0), (1, .int v)] [] (I, L, RR b)
  refine wp_aload_n rfl rfl ?_
  refine q_getr rfl rfl (by first | rfl | assumption) rfl rfl ?_
  refine wp_iload_n rfl rfl ?_
  refine cV1 rfl l_10_91 i_X1_isMast m_X1_isMast (by first | rfl | assumption) (by decide) (c_X1_isMast G _ _ _ _ _) rfl (Nat.le_of_ble_eq_true rfl) ?_
  refine wp_if_eq 11 rfl rfl (fun h4 => ?_) (fun h4 => ?_)
  · refine wp_bipush (v := (-2)) rfl rfl ?_
    exact wp_iret rfl rfl (⟨by grind [b2], rfl⟩)
  · refine wp_aload_n rfl rfl ?_
    refine q_getr rfl rfl (by first | rfl | assumption) rfl rfl ?_
    refine wp_iload_n rfl rfl ?_
    refine cV1 rfl l_10_231 i_X1_isOn m_X1_isOn (by first | rfl | assumption) (by decide) (c_X1_isOn G _ _ _ _ _ h) rfl (Nat.le_of_ble_eq_true rfl) ?_
    refine cS1 rfl l_10_234 s_X10_asNumber m_X10_asNumber (c_X10_asNumber G _ _ _) rfl (Nat.le_of_ble_eq_true rfl) ?_
    refine wp_goto 12 rfl rfl ?_
    exact wp_iret rfl rfl (⟨by grind [b2], rfl⟩)
theorem c_X11_on (G : Gl) (d : Nat) {nm na nr : Nat} (v : Int32) (I : IF) (L : LF) (b : Bool) (h : IV nm na nr I L) : MD G (d + 2) Y_X11_on [.ref 72, .int v] (I, L, RR b) (some (.int (if 0 ≤ v ∧ v < I 1 2 then b2 (onC I 10 v = true) else -2))) (uI I 72 0 0, L, RR b) := by
  have e0 : uI I 72 0 0 72 5 = I 72 5 := rfl
  have e := (isM h.1 v).2
  refine MT.intro m_X11_on rfl (Nat.le_of_ble_eq_true rfl) ?_
  show WQ G (d + 2) Y_X11_on _ 0 [(0, .ref 72), (1, .int v)] [] (I, L, RR b)
  refine wp_aload_n rfl rfl ?_
  refine wp_iconst (v := 0) rfl rfl ?_
  refine q_puti rfl rfl (by first | rfl | assumption) (Or.inl rfl) rfl ?_
  refine wp_aload_n rfl rfl ?_
  refine wp_iload_n rfl rfl ?_
  refine cV1 rfl l_11_165 i_X11_isMast m_X11_isMast (by first | rfl | assumption) (by decide) (c_X11_isMast G _ _ _ _ _) rfl (Nat.le_of_ble_eq_true rfl) ?_
  refine wp_if_eq 15 rfl rfl (fun h6 => ?_) (fun h6 => ?_)
  · refine wp_bipush (v := (-2)) rfl rfl ?_
    exact wp_iret rfl rfl (⟨by rw [e0] at h6; grind [b2], rfl⟩)
  · have hv := e.mp (b2_ne.mp h6)
    obtain ⟨m, hm, hvm, hcl⟩ := (isM h.1 v).1 hv
    have hth := onC_thr h v hv.2
    refine wp_aload_n rfl rfl ?_
    refine wp_iload_n rfl rfl ?_
    refine cV1 rfl l_11_341 i_X11_isOn m_X11_isOn (by first | rfl | assumption) (by decide) (c_X11_isOn G _ _ _ _ _ (IV_thr h) (Or.inr ⟨m, hm, hvm⟩)) rfl (Nat.le_of_ble_eq_true rfl) ?_
    refine wp_if_eq 13 rfl rfl (fun h10 => ?_) (fun h10 => ?_)
    · refine wp_iconst (v := 0) rfl rfl ?_
      refine wp_goto 16 rfl rfl ?_
      exact wp_iret rfl rfl (⟨by rw [e0] at h6; grind [b2], rfl⟩)
    · refine wp_iconst (v := 1) rfl rfl ?_
      refine wp_goto 16 rfl rfl ?_
      exact wp_iret rfl rfl (⟨by rw [e0] at h6; grind [b2], rfl⟩)
theorem s_on {G : Gl} {d : Nat} {I : IF} {L : LF} {b : Bool} (v : Int32) (h : InvA I L) : StepA G (d + 2) Y_X10_on Y_X11_on [.int v] I L b := by
  obtain ⟨nm, na, nr, h⟩ := h
  exact StepA.query h (c_X10_on G d v I L b h.1) (c_X11_on G d v I L b h)
