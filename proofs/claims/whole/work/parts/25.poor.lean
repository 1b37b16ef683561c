/-! poor -/
def pok (f : Nat → Int64) (g : Nat → Int32) : Nat → Nat → Bool
  | 0, _ => true
  | n + 1, i => decide (0 ≤ f i ∧ f i ≤ (g i).toInt64) && pok f g n (i + 1)
theorem pok_cg {f f' : Nat → Int64} {g g' : Nat → Int32} : ∀ (n i : Nat), (∀ j, i ≤ j → j < i + n → f j = f' j ∧ g j = g' j) → pok f g n i = pok f' g' n i
  | 0, _, _ => rfl
  | n + 1, i, h => by
    simp only [pok]
    rw [(h i (by omega) (by omega)).1, (h i (by omega) (by omega)).2, pok_cg n (i + 1) (fun j h1 h2 => h j (by omega) (by omega))]
def pwA (q : Nat → Nat × Nat) (f : Nat → Int64) (I : IF) : Nat → IF
  | 0 => I
  | i + 1 => uI (pwA q f I i) (q i).1 (q i).2 (f i).toInt32
theorem c_X10_poor_ok (G : Gl) (d : Nat) {s nr : Nat} (I : IF) (L : LF) (b : Bool) (hs : s < 4) (h4 : I 1 4 = nI nr) (hnr : nr ≤ 16) (hne : ¬ I (57 + 2 * s) 2 = -1) (hsz : nI nr ≤ I (57 + 2 * s) 2) : MD G (d + 2) Y_X10_poor [.ref 0, .int (nI s)] (I, L, RR b) (some (.int (if pok (L (58 + 2 * s)) (fun a => I (18 + a) 2) nr 0 = true then 0 else -4))) (if pok (L (58 + 2 * s)) (fun a => I (18 + a) 2) nr 0 = true then pwA (fun a => (18 + a, 3)) (L (58 + 2 * s)) I nr else I, L, RR b) := by
  have ha := sh_row s hs
  have hs0 : (0 : Int32) ≤ nI s ∧ nI s ≤ 3 := ⟨nI_pos' (by omega), nI_le (b := 3) (by omega) (by omega)⟩
  have hrr := rr_row s hs b
  have hra := sh_rowA s hs
  generalize hf : L (58 + 2 * s) = f
  have hL2 : ∀ (n i : Nat), i + n = nr → WQ G (d + 2) Y_X10_poor (fun r' w'' => r' = some (.int 0) ∧ w'' = (pwA (fun a => (18 + a, 3)) f I nr, L, RR b)) 56 [(0, .ref 0), (1, .int (nI s)), (2, .ref (57 + 2 * s)), (3, .int (nI i))] [] (pwA (fun a => (18 + a, 3)) f I i, L, RR b) := by
    have h14 : ∀ i, i ≤ 16 → pwA (fun a => (18 + a, 3)) f I i 1 4 = nI nr := by
      intro i
      induction i with
      | zero => intro _; exact h4
      | succ i ih => intro hi; simp only [pwA]; rw [uI_ne (by omega)]; exact ih (by omega)
    intro n
    induction n with
    | zero =>
      intro i hi
      have hie : i = nr := by omega
      subst hie
      have hge : pwA (fun a => (18 + a, 3)) f I i 1 4 ≤ nI i := by rw [h14 i hnr]; exact nI_le (Nat.le_refl _) (by omega)
      refine wp_iload_n rfl rfl ?_
      refine wp_aload_n rfl rfl ?_
      refine q_getr rfl rfl (by first | rfl | assumption) rfl rfl ?_
      refine q_geti rfl rfl (by first | rfl | assumption) rfl ?_
      refine wp_icmp_ge 74 rfl rfl (fun _ => ?_) (fun h60 => absurd hge h60)
      refine wp_iconst (v := 0) rfl rfl ?_
      exact wp_iret rfl rfl (⟨rfl, rfl⟩)
    | succ n ih =>
      intro i hi
      have hlt : ¬ pwA (fun a => (18 + a, 3)) f I i 1 4 ≤ nI i := by rw [h14 i (by omega)]; exact nI_ge (by omega) (by omega)
      have hsa := sh_area i (by omega)
      have hcl : (nI i).toNatClampNeg = i := nI_clamp (by omega)
      refine wp_iload_n rfl rfl ?_
      refine wp_aload_n rfl rfl ?_
      refine q_getr rfl rfl (by first | rfl | assumption) rfl rfl ?_
      refine q_geti rfl rfl (by first | rfl | assumption) rfl ?_
      refine wp_icmp_ge 74 rfl rfl (fun h60 => absurd h60 hlt) (fun _ => ?_)
      refine wp_aload_n rfl rfl ?_
      refine q_getr rfl rfl (by first | rfl | assumption) rfl rfl ?_
      refine q_getr rfl rfl (by first | rfl | assumption) rfl rfl ?_
      refine wp_iload_n rfl rfl ?_
      refine q_area rfl rfl (by omega) ?_
      refine wp_aload_n rfl rfl ?_
      refine q_getr rfl rfl (by first | rfl | assumption) rfl hrr ?_
      refine wp_iload_n rfl rfl ?_
      refine q_lald rfl hra (vp_in_nI (by omega) (by omega)) ?_
      refine wp_l2i rfl ?_
      refine q_puti rfl rfl (by first | rfl | assumption) (Or.inl rfl) rfl ?_
      refine wp_iinc (v := nI (i + 1)) (lv' := [(3, _), (0, _), (1, _), (2, _)]) rfl rfl (nI_1 i) (by decide) rfl ?_
      refine wp_goto 56 rfl rfl ?_
      refine wp_loc (lv' := [(0, _), (1, _), (2, _), (3, _)]) [1, 2, 3, 0] rfl ?_
      rw [hcl, hf]
      exact ih (i + 1) (by omega)
  have hL1 : ∀ (t : Bool) (n i : Nat), i + n = nr → pok f (fun a => I (18 + a) 2) n i = t → WQ G (d + 2) Y_X10_poor (fun r' w'' => r' = some (.int (if t = true then 0 else -4)) ∧ w'' = (if t = true then pwA (fun a => (18 + a, 3)) f I nr else I, L, RR b)) 25 [(0, .ref 0), (1, .int (nI s)), (2, .ref (57 + 2 * s)), (3, .int (nI i))] [] (I, L, RR b) := by
    intro t n
    induction n with
    | zero =>
      intro i hi ht
      simp only [pok] at ht
      subst ht
      have hge : I 1 4 ≤ nI i := by rw [h4]; exact nI_le (by omega) (by omega)
      refine wp_iload_n rfl rfl ?_
      refine wp_aload_n rfl rfl ?_
      refine q_getr rfl rfl (by first | rfl | assumption) rfl rfl ?_
      refine q_geti rfl rfl (by first | rfl | assumption) rfl ?_
      refine wp_icmp_ge 54 rfl rfl (fun _ => ?_) (fun h29 => absurd hge h29)
      refine wp_iconst (v := 0) rfl rfl ?_
      refine wp_istore_n (lv' := [(3, _), (0, _), (1, _), (2, _)]) rfl rfl (by decide) rfl ?_
      refine wp_loc (lv' := [(0, _), (1, _), (2, _), (3, _)]) [1, 2, 3, 0] rfl ?_
      exact hL2 nr 0 (by omega)
    | succ n ih =>
      intro i hi ht
      simp only [pok] at ht
      have hlt : ¬ I 1 4 ≤ nI i := by rw [h4]; exact nI_ge (by omega) (by omega)
      have hsa := sh_area i (by omega)
      have hcl : (nI i).toNatClampNeg = i := nI_clamp (by omega)
      refine wp_iload_n rfl rfl ?_
      refine wp_aload_n rfl rfl ?_
      refine q_getr rfl rfl (by first | rfl | assumption) rfl rfl ?_
      refine q_geti rfl rfl (by first | rfl | assumption) rfl ?_
      refine wp_icmp_ge 54 rfl rfl (fun h29 => absurd h29 hlt) (fun _ => ?_)
      refine wp_aload_n rfl rfl ?_
      refine q_getr rfl rfl (by first | rfl | assumption) rfl hrr ?_
      refine wp_iload_n rfl rfl ?_
      refine q_lald rfl hra (vp_in_nI (by omega) (by omega)) ?_
      refine wp_lconst (v := 0) rfl rfl ?_
      refine wp_lcmp rfl ?_
      refine wp_if_lt 50 rfl rfl (fun h36 => ?_) (fun h36 => ?_)
      · have htf : t = false := by
          rw [← ht]
          have : ¬ (0 ≤ f i ∧ f i ≤ (I (18 + i) 2).toInt64) := by
            (try rw [hcl, hf] at h36); (try rw [hcl, hf] at h49); simp only [lg_cmp] at *; grind
          simp [this]
        subst htf
        refine wp_bipush (v := (-4)) rfl rfl ?_
        exact wp_iret rfl rfl ⟨rfl, rfl⟩
      · refine wp_aload_n rfl rfl ?_
        refine q_getr rfl rfl (by first | rfl | assumption) rfl hrr ?_
        refine wp_iload_n rfl rfl ?_
        refine q_lald rfl hra (vp_in_nI (by omega) (by omega)) ?_
        refine wp_aload_n rfl rfl ?_
        refine q_getr rfl rfl (by first | rfl | assumption) rfl rfl ?_
        refine q_getr rfl rfl (by first | rfl | assumption) rfl rfl ?_
        refine wp_iload_n rfl rfl ?_
        refine q_area rfl rfl (by omega) ?_
        refine q_geti rfl rfl (by first | rfl | assumption) rfl ?_
        refine wp_i2l rfl ?_
        refine wp_lcmp rfl ?_
        refine wp_if_le 52 rfl rfl (fun h49 => ?_) (fun h49 => ?_)
        · refine wp_iinc (v := nI (i + 1)) (lv' := [(3, _), (0, _), (1, _), (2, _)]) rfl rfl (nI_1 i) (by decide) rfl ?_
          refine wp_goto 25 rfl rfl ?_
          refine wp_loc (lv' := [(0, _), (1, _), (2, _), (3, _)]) [1, 2, 3, 0] rfl ?_
          refine ih (i + 1) (by omega) ?_
          rw [hcl, hf] at h36 h49
          have : (0 ≤ f i ∧ f i ≤ (I (18 + i) 2).toInt64) := by simp only [lg_cmp] at *; grind
          rw [← ht]
          simp [this]
        · have htf : t = false := by
            rw [← ht]
            have : ¬ (0 ≤ f i ∧ f i ≤ (I (18 + i) 2).toInt64) := by
              (try rw [hcl, hf] at h36); (try rw [hcl, hf] at h49); simp only [lg_cmp] at *; grind
            simp [this]
          subst htf
          refine wp_bipush (v := (-4)) rfl rfl ?_
          exact wp_iret rfl rfl ⟨rfl, rfl⟩
  refine MT.intro m_X10_poor rfl (Nat.le_of_ble_eq_true rfl) ?_
  show WQ G (d + 2) Y_X10_poor _ 0 [(0, .ref 0), (1, .int (nI s))] [] (I, L, RR b)
  refine wp_iload_n rfl rfl ?_
  refine cS1 rfl l_10_149 s_X10_isSlot m_X10_isSlot (c_X10_isSlot G _ _ _) rfl (Nat.le_of_ble_eq_true rfl) ?_
  refine wp_if_ne 5 rfl rfl (fun h2 => ?_) (fun h2 => ?_)
  · refine wp_aload_n rfl rfl ?_
    refine q_getr rfl rfl (by first | rfl | assumption) rfl rfl ?_
    refine wp_iload_n rfl rfl ?_
    refine q_rowo rfl rfl hs ?_
    refine wp_astore_n (lv' := [(2, _), (0, _), (1, _)]) rfl rfl (by decide) rfl ?_
    refine wp_aload_n rfl rfl ?_
    refine cV1 rfl l_10_152 i_X6_isEmpty m_X6_isEmpty (by first | rfl | assumption) (by decide) (c_X6_isEmpty G _ _ _ _ _ ha) rfl (Nat.le_of_ble_eq_true rfl) ?_
    refine wp_if_eq 15 rfl rfl (fun h12 => ?_) (fun h12 => ?_)
    · refine wp_aload_n rfl rfl ?_
      refine q_geti rfl rfl (by first | rfl | assumption) rfl ?_
      refine wp_aload_n rfl rfl ?_
      refine q_getr rfl rfl (by first | rfl | assumption) rfl rfl ?_
      refine q_geti rfl rfl (by first | rfl | assumption) rfl ?_
      refine wp_icmp_ge 23 rfl rfl (fun h20 => ?_) (fun h20 => ?_)
      · refine wp_iconst (v := 0) rfl rfl ?_
        refine wp_istore_n (lv' := [(3, _), (2, _), (0, _), (1, _)]) rfl rfl (by decide) rfl ?_
        refine wp_loc (lv' := [(0, _), (1, _), (2, _), (3, _)]) [2, 3, 1, 0] rfl ?_
        exact hL1 _ nr 0 (by omega) rfl
      · refine wp_loc (lv' := [(0, _), (1, _), (2, _)]) [1, 2, 0] rfl ?_
        exfalso; rw [h4] at h20; exact h20 hsz
    · refine wp_loc (lv' := [(0, _), (1, _), (2, _)]) [1, 2, 0] rfl ?_
      exfalso; grind [b2]
  · exfalso; grind [b2]
theorem c_X10_poor_no (G : Gl) (d : Nat) (v : Int32) (I : IF) (L : LF) (b : Bool) (hno : ¬ ((0 ≤ v ∧ v ≤ 3) ∧ ¬ I (57 + 2 * v.toNatClampNeg) 2 = -1 ∧ I 1 4 ≤ I (57 + 2 * v.toNatClampNeg) 2)) : MD G (d + 2) Y_X10_poor [.ref 0, .int v] (I, L, RR b) (some (.int (if 0 ≤ v ∧ v ≤ 3 then (if I (57 + 2 * v.toNatClampNeg) 2 = -1 then -5 else -6) else -2))) (I, L, RR b) := by
  refine MT.intro m_X10_poor rfl (Nat.le_of_ble_eq_true rfl) ?_
  show WQ G (d + 2) Y_X10_poor _ 0 [(0, .ref 0), (1, .int v)] [] (I, L, RR b)
  refine wp_iload_n rfl rfl ?_
  refine cS1 rfl l_10_149 s_X10_isSlot m_X10_isSlot (c_X10_isSlot G _ _ _) rfl (Nat.le_of_ble_eq_true rfl) ?_
  refine wp_if_ne 5 rfl rfl (fun h2 => ?_) (fun h2 => ?_)
  · have hv := b2_ne.mp h2
    obtain ⟨s, hs, hvs, hcl⟩ := slot4 hv
    have ha := sh_row s hs
    refine wp_aload_n rfl rfl ?_
    refine q_getr rfl rfl (by first | rfl | assumption) rfl rfl ?_
    refine wp_iload_n rfl rfl ?_
    refine q_rowo rfl hvs hs ?_
    refine wp_astore_n (lv' := [(2, _), (0, _), (1, _)]) rfl rfl (by decide) rfl ?_
    refine wp_aload_n rfl rfl ?_
    refine cV1 rfl l_10_152 i_X6_isEmpty m_X6_isEmpty (by first | rfl | assumption) (by decide) (c_X6_isEmpty G _ _ _ _ _ ha) rfl (Nat.le_of_ble_eq_true rfl) ?_
    refine wp_if_eq 15 rfl rfl (fun h12 => ?_) (fun h12 => ?_)
    · refine wp_aload_n rfl rfl ?_
      refine q_geti rfl rfl (by first | rfl | assumption) rfl ?_
      refine wp_aload_n rfl rfl ?_
      refine q_getr rfl rfl (by first | rfl | assumption) rfl rfl ?_
      refine q_geti rfl rfl (by first | rfl | assumption) rfl ?_
      refine wp_icmp_ge 23 rfl rfl (fun h20 => ?_) (fun h20 => ?_)
      · refine wp_loc (lv' := [(0, _), (1, _), (2, _)]) [1, 2, 0] rfl ?_
        exfalso; grind [b2]
      · refine wp_bipush (v := (-6)) rfl rfl ?_
        exact wp_iret rfl rfl (⟨by grind [b2], rfl⟩)
    · refine wp_bipush (v := (-5)) rfl rfl ?_
      exact wp_iret rfl rfl (⟨by grind [b2], rfl⟩)
  · refine wp_bipush (v := (-2)) rfl rfl ?_
    exact wp_iret rfl rfl (⟨by grind [b2], rfl⟩)
theorem c_X11_poor_ok (G : Gl) (d : Nat) {s nr : Nat} (I : IF) (L : LF) (b : Bool) (hs : s < 4) (h7 : I 72 7 = nI nr) (hnr : nr ≤ 16) (hne : ¬ I 73 s < 0) (hsz : nI nr ≤ I 74 s) : MD G (d + 2) Y_X11_poor [.ref 72, .int (nI s)] (I, L, RR b) (some (.int (if pok (fun j => L 75 (60 * s + j)) (I 88) nr 0 = true then 0 else -4))) (if pok (fun j => L 75 (60 * s + j)) (I 88) nr 0 = true then pwA (fun a => (89, a)) (fun j => L 75 (60 * s + j)) (uI I 72 0 0) nr else uI I 72 0 0, L, RR b) := by
  have hs0 : (0 : Int32) ≤ nI s ∧ nI s ≤ 3 := ⟨nI_pos' (by omega), nI_le (b := 3) (by omega) (by omega)⟩
  have hin : vp_in (nI s) 4 := vp_in_nI hs (by omega)
  have hcls : (nI s).toNatClampNeg = s := nI_clamp (by omega)
  generalize hf : (fun j => L 75 (60 * s + j)) = f
  have hfa : ∀ j, L 75 (60 * s + j) = f j := fun j => by rw [← hf]
  have e0 : ∀ q j, q ≠ 72 → uI I 72 0 0 q j = I q j := fun q j hq => uI_ne hq
  have e7 : uI I 72 0 0 72 7 = nI nr := h7
  generalize hJ : uI I 72 0 0 = J at e0 e7
  have hL2 : ∀ (n i : Nat), i + n = nr → WQ G (d + 2) Y_X11_poor (fun r' w'' => r' = some (.int 0) ∧ w'' = (pwA (fun a => (89, a)) f J nr, L, RR b)) 52 [(0, .ref 72), (1, .int (nI s)), (2, .int (nI i))] [] (pwA (fun a => (89, a)) f J i, L, RR b) := by
    have h14 : ∀ i, pwA (fun a => (89, a)) f J i 72 7 = nI nr := by
      intro i
      induction i with
      | zero => exact e7
      | succ i ih => simp only [pwA]; rw [uI_ne (by decide)]; exact ih
    intro n
    induction n with
    | zero =>
      intro i hi
      have hie : i = nr := by omega
      subst hie
      have hge : pwA (fun a => (89, a)) f J i 72 7 ≤ nI i := by rw [h14 i]; exact nI_le (Nat.le_refl _) (by omega)
      refine wp_iload_n rfl rfl ?_
      refine wp_aload_n rfl rfl ?_
      refine q_geti rfl rfl (by first | rfl | assumption) rfl ?_
      refine wp_icmp_ge 71 rfl rfl (fun _ => ?_) (fun h55 => absurd hge h55)
      refine wp_iconst (v := 0) rfl rfl ?_
      exact wp_iret rfl rfl (⟨rfl, rfl⟩)
    | succ n ih =>
      intro i hi
      have hlt : ¬ pwA (fun a => (89, a)) f J i 72 7 ≤ nI i := by rw [h14 i]; exact nI_ge (by omega) (by omega)
      have hcl : (nI i).toNatClampNeg = i := nI_clamp (by omega)
      have h60 := ix60 hs (show i < 60 by omega)
      refine wp_iload_n rfl rfl ?_
      refine wp_aload_n rfl rfl ?_
      refine q_geti rfl rfl (by first | rfl | assumption) rfl ?_
      refine wp_icmp_ge 71 rfl rfl (fun h55 => absurd h55 hlt) (fun _ => ?_)
      refine wp_aload_n rfl rfl ?_
      refine q_getr rfl rfl (by first | rfl | assumption) rfl rfl ?_
      refine wp_iload_n rfl rfl ?_
      refine wp_aload_n rfl rfl ?_
      refine q_getr rfl rfl (by first | rfl | assumption) rfl rfl ?_
      refine wp_bipush (v := 60) rfl rfl ?_
      refine wp_iload_n rfl rfl ?_
      refine wp_imul rfl ?_
      refine wp_iload_n rfl rfl ?_
      refine wp_iadd rfl ?_
      refine q_lald rfl (by first | rfl | assumption) h60.2.1 ?_
      refine wp_l2i rfl ?_
      refine q_iast rfl (by first | rfl | assumption) (vp_in_nI (by omega) (by omega)) ?_
      refine wp_iinc (v := nI (i + 1)) (lv' := [(2, _), (0, _), (1, _)]) rfl rfl (nI_1 i) (by decide) rfl ?_
      refine wp_goto 52 rfl rfl ?_
      refine wp_loc (lv' := [(0, _), (1, _), (2, _)]) [1, 2, 0] rfl ?_
      rw [h60.2.2, hcl, hfa]
      exact ih (i + 1) (by omega)
  have hL1 : ∀ (t : Bool) (n i : Nat), i + n = nr → pok f (I 88) n i = t → WQ G (d + 2) Y_X11_poor (fun r' w'' => r' = some (.int (if t = true then 0 else -4)) ∧ w'' = (if t = true then pwA (fun a => (89, a)) f J nr else J, L, RR b)) 26 [(0, .ref 72), (1, .int (nI s)), (2, .int (nI i))] [] (J, L, RR b) := by
    intro t n
    induction n with
    | zero =>
      intro i hi ht
      simp only [pok] at ht
      subst ht
      have hge : J 72 7 ≤ nI i := by rw [e7]; exact nI_le (by omega) (by omega)
      refine wp_iload_n rfl rfl ?_
      refine wp_aload_n rfl rfl ?_
      refine q_geti rfl rfl (by first | rfl | assumption) rfl ?_
      refine wp_icmp_ge 50 rfl rfl (fun _ => ?_) (fun h29 => absurd hge h29)
      refine wp_iconst (v := 0) rfl rfl ?_
      refine wp_istore_n (lv' := [(2, _), (0, _), (1, _)]) rfl rfl (by decide) rfl ?_
      refine wp_loc (lv' := [(0, _), (1, _), (2, _)]) [1, 2, 0] rfl ?_
      exact hL2 nr 0 (by omega)
    | succ n ih =>
      intro i hi ht
      simp only [pok] at ht
      have hlt : ¬ J 72 7 ≤ nI i := by rw [e7]; exact nI_ge (by omega) (by omega)
      have hcl : (nI i).toNatClampNeg = i := nI_clamp (by omega)
      have h60 := ix60 hs (show i < 60 by omega)
      refine wp_iload_n rfl rfl ?_
      refine wp_aload_n rfl rfl ?_
      refine q_geti rfl rfl (by first | rfl | assumption) rfl ?_
      refine wp_icmp_ge 50 rfl rfl (fun h29 => absurd h29 hlt) (fun _ => ?_)
      refine wp_aload_n rfl rfl ?_
      refine q_getr rfl rfl (by first | rfl | assumption) rfl rfl ?_
      refine wp_bipush (v := 60) rfl rfl ?_
      refine wp_iload_n rfl rfl ?_
      refine wp_imul rfl ?_
      refine wp_iload_n rfl rfl ?_
      refine wp_iadd rfl ?_
      refine q_lald rfl (by first | rfl | assumption) h60.2.1 ?_
      refine wp_lconst (v := 0) rfl rfl ?_
      refine wp_aload_n rfl rfl ?_
      refine q_getr rfl rfl (by first | rfl | assumption) rfl rfl ?_
      refine wp_iload_n rfl rfl ?_
      refine q_iald rfl (by first | rfl | assumption) (vp_in_nI (by omega) (by omega)) ?_
      refine wp_i2l rfl ?_
      refine cS1 rfl l_11_119 s_X11_in m_X11_in (c_in G _ _ _ _ _) rfl (Nat.le_of_ble_eq_true rfl) ?_
      refine wp_if_ne 48 rfl rfl (fun h45 => ?_) (fun h45 => ?_)
      · refine wp_iinc (v := nI (i + 1)) (lv' := [(2, _), (0, _), (1, _)]) rfl rfl (nI_1 i) (by decide) rfl ?_
        refine wp_goto 26 rfl rfl ?_
        refine wp_loc (lv' := [(0, _), (1, _), (2, _)]) [1, 2, 0] rfl ?_
        refine ih (i + 1) (by omega) ?_
        rw [h60.2.2, hcl, e0 88 _ (by decide), hfa] at h45
        rw [← ht]
        simp [b2_ne.mp h45]
      · rw [h60.2.2, hcl, e0 88 _ (by decide), hfa] at h45
        have htf : t = false := by
          rw [← ht]
          simp [b2_eq.mp h45]
        subst htf
        refine wp_bipush (v := (-4)) rfl rfl ?_
        exact wp_iret rfl rfl ⟨rfl, rfl⟩
  refine MT.intro m_X11_poor rfl (Nat.le_of_ble_eq_true rfl) ?_
  show WQ G (d + 2) Y_X11_poor _ 0 [(0, .ref 72), (1, .int (nI s))] [] (I, L, RR b)
  refine wp_aload_n rfl rfl ?_
  refine wp_iconst (v := 0) rfl rfl ?_
  refine q_puti rfl rfl (by first | rfl | assumption) (Or.inl rfl) rfl ?_
  rw [hJ]
  refine wp_iload_n rfl rfl ?_
  refine cS1 rfl l_11_123 s_X11_isSlot m_X11_isSlot (c_X11_isSlot G _ _ _) rfl (Nat.le_of_ble_eq_true rfl) ?_
  refine wp_if_ne 8 rfl rfl (fun h5 => ?_) (fun h5 => ?_)
  · refine wp_aload_n rfl rfl ?_
    refine q_getr rfl rfl (by first | rfl | assumption) rfl rfl ?_
    refine wp_iload_n rfl rfl ?_
    refine q_iald rfl (by first | rfl | assumption) (by assumption) ?_
    refine wp_if_ge 15 rfl rfl (fun h12 => ?_) (fun h12 => ?_)
    · refine wp_aload_n rfl rfl ?_
      refine q_getr rfl rfl (by first | rfl | assumption) rfl rfl ?_
      refine wp_iload_n rfl rfl ?_
      refine q_iald rfl (by first | rfl | assumption) (by assumption) ?_
      refine wp_aload_n rfl rfl ?_
      refine q_geti rfl rfl (by first | rfl | assumption) rfl ?_
      refine wp_icmp_ge 24 rfl rfl (fun h21 => ?_) (fun h21 => ?_)
      · refine wp_iconst (v := 0) rfl rfl ?_
        refine wp_istore_n (lv' := [(2, _), (0, _), (1, _)]) rfl rfl (by decide) rfl ?_
        refine wp_loc (lv' := [(0, _), (1, _), (2, _)]) [1, 2, 0] rfl ?_
        exact hL1 _ nr 0 (by omega) rfl
      · exfalso; rw [hcls, e0 74 _ (by decide), e7] at h21; exact h21 hsz
    · exfalso; rw [hcls, e0 73 _ (by decide)] at h12; grind
  · exfalso; grind [b2]
theorem c_X11_poor_no (G : Gl) (d : Nat) (v : Int32) (I : IF) (L : LF) (b : Bool) (hno : ¬ ((0 ≤ v ∧ v ≤ 3) ∧ ¬ I 73 v.toNatClampNeg < 0 ∧ I 72 7 ≤ I 74 v.toNatClampNeg)) : MD G (d + 2) Y_X11_poor [.ref 72, .int v] (I, L, RR b) (some (.int (if 0 ≤ v ∧ v ≤ 3 then (if I 73 v.toNatClampNeg < 0 then -5 else -6) else -2))) (uI I 72 0 0, L, RR b) := by
  have e7 : uI I 72 0 0 72 7 = I 72 7 := rfl
  refine MT.intro m_X11_poor rfl (Nat.le_of_ble_eq_true rfl) ?_
  show WQ G (d + 2) Y_X11_poor _ 0 [(0, .ref 72), (1, .int v)] [] (I, L, RR b)
  refine wp_aload_n rfl rfl ?_
  refine wp_iconst (v := 0) rfl rfl ?_
  refine q_puti rfl rfl (by first | rfl | assumption) (Or.inl rfl) rfl ?_
  refine wp_iload_n rfl rfl ?_
  refine cS1 rfl l_11_123 s_X11_isSlot m_X11_isSlot (c_X11_isSlot G _ _ _) rfl (Nat.le_of_ble_eq_true rfl) ?_
  refine wp_if_ne 8 rfl rfl (fun h5 => ?_) (fun h5 => ?_)
  · have hv := b2_ne.mp h5
    obtain ⟨s, hs, hvs, hcl⟩ := slot4 hv
    have hin : vp_in v 4 := by rw [hvs]; exact vp_in_nI hs (by omega)
    refine wp_aload_n rfl rfl ?_
    refine q_getr rfl rfl (by first | rfl | assumption) rfl rfl ?_
    refine wp_iload_n rfl rfl ?_
    refine q_iald rfl (by first | rfl | assumption) (by assumption) ?_
    refine wp_if_ge 15 rfl rfl (fun h12 => ?_) (fun h12 => ?_)
    · refine wp_aload_n rfl rfl ?_
      refine q_getr rfl rfl (by first | rfl | assumption) rfl rfl ?_
      refine wp_iload_n rfl rfl ?_
      refine q_iald rfl (by first | rfl | assumption) (by assumption) ?_
      refine wp_aload_n rfl rfl ?_
      refine q_geti rfl rfl (by first | rfl | assumption) rfl ?_
      refine wp_icmp_ge 24 rfl rfl (fun h21 => ?_) (fun h21 => ?_)
      · exfalso; simp (disch := omega) only [uI_ne, uI_nk] at *; grind [b2]
      · refine wp_bipush (v := (-6)) rfl rfl ?_
        exact wp_iret rfl rfl (⟨by (try simp (disch := omega) only [uI_ne, uI_nk] at *); grind [b2], rfl⟩)
    · refine wp_bipush (v := (-5)) rfl rfl ?_
      exact wp_iret rfl rfl (⟨by (try simp (disch := omega) only [uI_ne, uI_nk] at *); grind [b2], rfl⟩)
  · refine wp_bipush (v := (-2)) rfl rfl ?_
    exact wp_iret rfl rfl (⟨by (try simp (disch := omega) only [uI_ne, uI_nk] at *); grind [b2], rfl⟩)
theorem pwA_c {f : Nat → Int64} {I : IF} : ∀ (n a : Nat), (a < n → pwA (fun a => (18 + a, 3)) f I n (18 + a) 3 = (f a).toInt32) ∧ (n ≤ a → pwA (fun a => (18 + a, 3)) f I n (18 + a) 3 = I (18 + a) 3) ∧ (∀ k, k ≠ 3 → pwA (fun a => (18 + a, 3)) f I n (18 + a) k = I (18 + a) k)
  | 0, a => ⟨fun h => absurd h (by omega), fun _ => rfl, fun _ _ => rfl⟩
  | n + 1, a => by
    have ih := pwA_c (f := f) (I := I) n a
    simp only [pwA]
    by_cases e : a = n
    · subst e
      exact ⟨fun _ => uI_eq, fun h => absurd h (by omega), fun k hk => by rw [uI_nk hk]; exact ih.2.2 k hk⟩
    · refine ⟨fun h => ?_, fun h => ?_, fun k hk => ?_⟩
      · rw [uI_ne (by omega)]; exact ih.1 (by omega)
      · rw [uI_ne (by omega)]; exact ih.2.1 (by omega)
      · rw [uI_ne (by omega)]; exact ih.2.2 k hk
theorem pwA_o {f : Nat → Int64} {I : IF} : ∀ (n q : Nat), (q < 18 ∨ 18 + n ≤ q) → pwA (fun a => (18 + a, 3)) f I n q = I q
  | 0, _, _ => rfl
  | n + 1, q, h => by
    simp only [pwA]
    rw [uI_fn (by omega)]
    exact pwA_o n q (by omega)
theorem pwA_m {f : Nat → Int64} {I : IF} : ∀ (n a : Nat), (a < n → pwA (fun a => (89, a)) f I n 89 a = (f a).toInt32) ∧ (n ≤ a → pwA (fun a => (89, a)) f I n 89 a = I 89 a)
  | 0, a => ⟨fun h => absurd h (by omega), fun _ => rfl⟩
  | n + 1, a => by
    have ih := pwA_m (f := f) (I := I) n a
    simp only [pwA]
    by_cases e : a = n
    · subst e
      exact ⟨fun _ => uI_eq, fun h => absurd h (by omega)⟩
    · rw [uI_nk e]
      exact ⟨fun h => ih.1 (by omega), fun h => ih.2 (by omega)⟩
theorem pwA_mo {f : Nat → Int64} {I : IF} : ∀ (n q : Nat), q ≠ 89 → pwA (fun a => (89, a)) f I n q = I q
  | 0, _, _ => rfl
  | n + 1, q, h => by
    simp only [pwA]
    rw [uI_fn h]
    exact pwA_mo n q h
theorem IV_poor {nm na nr : Nat} {I J : IF} {L : LF} (h : IV nm na nr I L) (v : Nat → Int32) (h3 : ∀ a, a < 16 → J (18 + a) 3 = v a ∧ J 89 a = v a) (hk : ∀ a k, a < 16 → k ≠ 3 → J (18 + a) k = I (18 + a) k) (ho : ∀ q, (q < 18 ∨ 34 ≤ q) → q ≠ 89 → q ≠ 72 → J q = I q) (h72 : ∀ k, k ≠ 0 → J 72 k = I 72 k) : IV nm na nr J L ∧ LSm I J := by
  obtain ⟨a1, a2, a3, a4, a5, a6, a7, a8, a9, a10, a11⟩ := id h
  refine ⟨⟨?_, ?_, ?_, ?_, ?_, ?_, ?_, ?_, ?_, ?_, ?_⟩, ?_, ?_⟩
  · unfold IVc at a1 ⊢; simp (disch := omega) only [ho, h72]; exact a1
  · unfold IVs at a2 ⊢; simp (disch := omega) only [ho, h72]; exact a2
  · intro k hk; simp (disch := omega) only [ho]; exact a3 k hk
  · intro k hk; simp (disch := omega) only [ho]; exact a4 k hk
  · intro k hk; have := a1.1.2.2; simp (disch := omega) only [ho]; exact a5 k hk
  · intro k hk; simp (disch := omega) only [ho]; exact a6 k hk
  · intro k hk; simp (disch := omega) only [ho]; exact a7 k hk
  · intro a ha
    have z := a8 a ha
    rw [(h3 a ha).1, (h3 a ha).2]
    simp (disch := omega) only [ho, hk]
    exact ⟨⟨z.1.1, z.1.2.1, z.1.2.2.1, trivial, z.1.2.2.2.2⟩, z.2⟩
  · intro a ha; simp (disch := omega) only [ho, hk]; exact a9 a ha
  · unfold IVt at a10 ⊢; simp (disch := omega) only [ho, h72]; exact a10
  · intro k hk; simp (disch := omega) only [ho]; exact a11 k hk
  · intro q hq; exact ho q (by omega) (by omega) (by omega)
  · exact h72 12 (by decide)
theorem s_poor {G : Gl} {d : Nat} {I : IF} {L : LF} {b : Bool} (v : Int32) (h : InvA I L) : StepA G (d + 2) Y_X10_poor Y_X11_poor [.int v] I L b := by
  obtain ⟨nm, na, nr, h⟩ := h
  have a11 := h.2.2.2.2.2.2.2.2.2.2
  have a8 := h.2.2.2.2.2.2.2.1
  obtain ⟨n4, n7, hnr⟩ := h.1.2.2
  by_cases hok : (0 ≤ v ∧ v ≤ 3) ∧ ¬ I (57 + 2 * v.toNatClampNeg) 2 = -1 ∧ I 1 4 ≤ I (57 + 2 * v.toNatClampNeg) 2
  · obtain ⟨hv, hne, hsz⟩ := hok
    obtain ⟨s, hs, rfl, hcl⟩ := slot4 hv
    rw [hcl] at hne hsz
    have z := a11 s hs
    have z2 := z.2.resolve_left (fun q => hne q.1)
    rw [n4] at hsz
    have c1 := c_X10_poor_ok G d I L b hs n4 hnr hne hsz
    have hpk : pok (fun j => L 75 (60 * s + j)) (I 88) nr 0 = pok (L (58 + 2 * s)) (fun a => I (18 + a) 2) nr 0 := pok_cg nr 0 (fun j _ hj => ⟨z.1 j (by omega), (a8 j (by omega)).1.2.2.1⟩)
    by_cases hp : pok (L (58 + 2 * s)) (fun a => I (18 + a) 2) nr 0 = true
    · rw [if_pos hp, if_pos hp] at c1
      generalize hJ : pwA (fun a => (18 + a, 3)) (L (58 + 2 * s)) I nr = J at c1
      have j0 : ∀ q, 34 ≤ q → J q = I q := fun q hq => by rw [← hJ]; exact pwA_o nr q (by omega)
      have j1 : ∀ q, q < 18 → J q = I q := fun q hq => by rw [← hJ]; exact pwA_o nr q (by omega)
      have jc : ∀ a, (a < nr → J (18 + a) 3 = (L (58 + 2 * s) a).toInt32) ∧ (nr ≤ a → J (18 + a) 3 = I (18 + a) 3) ∧ (∀ k, k ≠ 3 → J (18 + a) k = I (18 + a) k) := fun a => by rw [← hJ]; exact pwA_c nr a
      have c2 := c_X11_poor_ok G d (s := s) (nr := nr) J L b hs (by rw [j0 72 (by omega)]; exact n7) hnr (by rw [j0 73 (by omega)]; grind) (by rw [j0 74 (by omega), z2.2.1]; exact hsz)
      rw [j0 88 (by omega), hpk, if_pos hp, if_pos hp] at c2
      have g0 : ∀ q, q ≠ 89 → pwA (fun a => (89, a)) (fun j => L 75 (60 * s + j)) (uI J 72 0 0) nr q = uI J 72 0 0 q := fun q hq => pwA_mo nr q hq
      have gm : ∀ a, (a < nr → pwA (fun a => (89, a)) (fun j => L 75 (60 * s + j)) (uI J 72 0 0) nr 89 a = (L 75 (60 * s + a)).toInt32) ∧ (nr ≤ a → pwA (fun a => (89, a)) (fun j => L 75 (60 * s + j)) (uI J 72 0 0) nr 89 a = uI J 72 0 0 89 a) := fun a => pwA_m nr a
      generalize pwA (fun a => (89, a)) (fun j => L 75 (60 * s + j)) (uI J 72 0 0) nr = J2 at c2 g0 gm
      have g1 : ∀ q, q ≠ 89 → q ≠ 72 → J2 q = J q := fun q h1 h2 => (g0 q h1).trans (uI_fn h2)
      have key := IV_poor (J := J2) h (fun a => J (18 + a) 3) (fun a ha => by
          refine ⟨by rw [g1 _ (by omega) (by omega)], ?_⟩
          by_cases e : a < nr
          · rw [(gm a).1 e, (jc a).1 e, z.1 a (by omega)]
          · rw [(gm a).2 (by omega), (jc a).2.1 (by omega), uI_ne (by decide), j0 89 (by omega)]
            exact (a8 a ha).1.2.2.2.1)
        (fun a k ha hk => by rw [g1 _ (by omega) (by omega)]; exact (jc a).2.2 k hk)
        (fun q h1 h2 h3 => by
          rw [g1 q h2 h3]
          rcases h1 with h1 | h1
          · exact j1 q h1
          · exact j0 q h1)
        (fun k hk => by rw [g0 72 (by decide), uI_nk hk, j0 72 (by omega)])
      exact ⟨_, _, _, _, _, c1, c2, ⟨nm, na, nr, key.1⟩, key.2⟩
    · rw [if_neg hp, if_neg hp] at c1
      have c2 := c_X11_poor_ok G d (s := s) (nr := nr) I L b hs n7 hnr (by grind) (by rw [z2.2.1]; exact hsz)
      rw [hpk, if_neg hp, if_neg hp] at c2
      exact StepA.query h c1 c2
  · refine StepA.query h (c_X10_poor_no G d v I L b hok) ?_
    have hok2 : ¬ ((0 ≤ v ∧ v ≤ 3) ∧ ¬ I 73 v.toNatClampNeg < 0 ∧ I 72 7 ≤ I 74 v.toNatClampNeg) := by
      intro ⟨hv, h0, h1⟩
      obtain ⟨s, hs, hvs, hcl⟩ := slot4 hv
      rw [hcl] at h0 h1 hok
      rw [n7] at h1
      rw [n4] at hok
      have z := a11 s hs
      grind
    have c2 := c_X11_poor_no G d v I L b hok2
    have e : (if 0 ≤ v ∧ v ≤ 3 then (if I 73 v.toNatClampNeg < 0 then -5 else -6) else (-2 : Int32)) = (if 0 ≤ v ∧ v ≤ 3 then (if I (57 + 2 * v.toNatClampNeg) 2 = -1 then -5 else -6) else -2) := by
      by_cases hv : 0 ≤ v ∧ v ≤ 3
      · obtain ⟨s, hs, hvs, hcl⟩ := slot4 hv
        rw [if_pos hv, if_pos hv, hcl]
        have z := a11 s hs
        grind
      · rw [if_neg hv, if_neg hv]
    rw [e] at c2
    exact c2
