/-! who hurts whom -/
/-- STRENGTH is 0 .. 1000000 -/
theorem stg_b {nm na nr : Nat} {I : IF} {L : LF} (h : IV nm na nr I L) {m a : Nat} (hm : m < 14) (ha : a < 16) : ∃ q : Nat, q ≤ 1000000 ∧ stg I m a = nI q := by
  have z := h.2.2.1 m hm
  have y := h.2.2.2.2.2.2.2.1 a ha
  have hq := sqD_pos z.2.1 z.2.2.1 y.2.1 y.2.2.1
  obtain ⟨p, p1, p2⟩ := nI_of2 (M := 10000) (n := 10000) rfl (by grind) z.2.2.2.1.2
  obtain ⟨q, q1, q2⟩ := nI_of2 (M := 20010) (n := 20010) rfl (by grind) hq.2
  have q3 : 10 ≤ q := (nI_leI (a := 10) (b := q) (by omega) (by omega)).mp (by rw [← q2]; exact hq.1)
  unfold stg strg
  rw [p2, q2, show (1000 : Int32) = nI 1000 from rfl, pk_mul, pk_div (by omega) (by omega) (by omega)]
  refine ⟨1000 * p / q, ?_, rfl⟩
  exact Nat.le_trans (Nat.div_le_div_left q3 (by omega)) (by omega)
/-- own: the mast that the area looks at -/
abbrev ow (I : IF) (a : Nat) : Nat := (I (18 + a) 6).toNatClampNeg
def cldB (I : IF) (a s : Nat) : Bool := decide (((0 ≤ nI s ∧ nI s < I 1 2) ∨ (10 ≤ nI s ∧ nI s - 10 < I 1 3)) ∧ (0 ≤ I (18 + a) 6 ∧ I (18 + a) 6 < I 1 2) ∧ ¬ nI s = I (18 + a) 6 ∧ stg I (ow I a) a < I 1 7 * stg I s a)
theorem c_X1_couldHurt (G : Gl) (d : Nat) {nm na nr s a : Nat} (I : IF) (L : LF) (b : Bool) (h : IV nm na nr I L) (hs : s < 14) (ha : a < 16) : MD G (d + 2) Y_X1_couldHurt [.ref 1, .int (nI s), .ref (18 + a)] (I, L, RR b) (some (.int (b2 (cldB I a s = true)))) (I, L, RR b) := by
  have hsa := sh_area a ha
  have hss := sh_mast s hs
  refine MT.intro m_X1_couldHurt rfl (Nat.le_of_ble_eq_true rfl) ?_
  show WQ G (d + 2) Y_X1_couldHurt _ 0 [(0, .ref 1), (1, .int (nI s)), (2, .ref (18 + a))] [] (I, L, RR b)
  refine wp_aload_n rfl rfl ?_
  refine wp_iload_n rfl rfl ?_
  refine cV1 rfl l_1_65 i_X1_isSender m_X1_isSender (by first | rfl | assumption) (by decide) (c_X1_isSender G _ _ _ _ _) rfl (Nat.le_of_ble_eq_true rfl) ?_
  refine wp_if_eq 13 rfl rfl (fun h3 => ?_) (fun h3 => ?_)
  · refine wp_iconst (v := 0) rfl rfl ?_
    exact wp_zret rfl rfl (by first | rfl | exact nb2 _ | assumption) (⟨by simp only [cldB, ow]; grind [b2], rfl⟩)
  · refine wp_aload_n rfl rfl ?_
    refine wp_aload_n rfl rfl ?_
    refine q_geti rfl rfl (by first | rfl | assumption) rfl ?_
    refine cV1 rfl l_1_35 i_X1_isMast m_X1_isMast (by first | rfl | assumption) (by decide) (c_X1_isMast G _ _ _ _ _) rfl (Nat.le_of_ble_eq_true rfl) ?_
    refine wp_if_eq 13 rfl rfl (fun h8 => ?_) (fun h8 => ?_)
    · refine wp_iconst (v := 0) rfl rfl ?_
      exact wp_zret rfl rfl (by first | rfl | exact nb2 _ | assumption) (⟨by simp only [cldB, ow]; grind [b2], rfl⟩)
    · refine wp_iload_n rfl rfl ?_
      refine wp_aload_n rfl rfl ?_
      refine q_geti rfl rfl (by first | rfl | assumption) rfl ?_
      refine wp_icmp_ne 15 rfl rfl (fun h12 => ?_) (fun h12 => ?_)
      · have hv := b2_ne.mp h8
        obtain ⟨m, hm, hvm, hcl⟩ := (isM h.1 _).1 hv
        have hm14 : m < 14 := by have := h.1.1.2.2; omega
        have hsm := sh_mast m hm14
        refine wp_aload_n rfl rfl ?_
        refine q_geti rfl rfl (by first | rfl | assumption) rfl ?_
        refine wp_aload_n rfl rfl ?_
        refine q_getr rfl rfl (by first | rfl | assumption) rfl rfl ?_
        refine wp_iload_n rfl rfl ?_
        refine q_mast rfl rfl hs ?_
        refine wp_aload_n rfl rfl ?_
        refine cV1 rfl l_1_61 i_X4_strengthAt m_X4_strengthAt (by first | rfl | assumption) (by decide) (d_strengthAt G _ _ h hs ha) rfl (Nat.le_of_ble_eq_true rfl) ?_
        refine wp_imul rfl ?_
        refine wp_aload_n rfl rfl ?_
        refine q_getr rfl rfl (by first | rfl | assumption) rfl rfl ?_
        refine wp_aload_n rfl rfl ?_
        refine q_geti rfl rfl (by first | rfl | assumption) rfl ?_
        refine q_mast rfl hvm hm14 ?_
        refine wp_aload_n rfl rfl ?_
        refine cV1 rfl l_1_61 i_X4_strengthAt m_X4_strengthAt (by first | rfl | assumption) (by decide) (d_strengthAt G _ _ h hm14 ha) rfl (Nat.le_of_ble_eq_true rfl) ?_
        refine wp_icmp_le 34 rfl rfl (fun h31 => ?_) (fun h31 => ?_)
        · refine wp_iconst (v := 0) rfl rfl ?_
          exact wp_zret rfl rfl (by first | rfl | exact nb2 _ | assumption) (⟨by simp only [cldB, ow]; grind [b2], rfl⟩)
        · refine wp_iconst (v := 1) rfl rfl ?_
          refine wp_goto 35 rfl rfl ?_
          exact wp_zret rfl rfl (by first | rfl | exact nb2 _ | assumption) (⟨by simp only [cldB, ow]; grind [b2], rfl⟩)
      · refine wp_iconst (v := 0) rfl rfl ?_
        exact wp_zret rfl rfl (by first | rfl | exact nb2 _ | assumption) (⟨by simp only [cldB, ow]; grind [b2], rfl⟩)
def sndB (I : IF) (s : Nat) : Bool := if s < 10 then onC I 10 (nI s) else decide (I 1 5 < I (4 + s) 8)
theorem c_X1_isSending (G : Gl) (d : Nat) {nm na nr s : Nat} (I : IF) (L : LF) (b : Bool) (h : IV nm na nr I L) (hs : s < 14) : MD G (d + 2) Y_X1_isSending [.ref 1, .int (nI s)] (I, L, RR b) (some (.int (b2 (sndB I s = true)))) (I, L, RR b) := by
  have hss := sh_mast s hs
  refine MT.intro m_X1_isSending rfl (Nat.le_of_ble_eq_true rfl) ?_
  show WQ G (d + 2) Y_X1_isSending _ 0 [(0, .ref 1), (1, .int (nI s))] [] (I, L, RR b)
  refine wp_iload_n rfl rfl ?_
  refine wp_bipush (v := 10) rfl rfl ?_
  refine wp_icmp_ge 7 rfl rfl (fun h2 => ?_) (fun h2 => ?_)
  · have hs10 : ¬ s < 10 := fun z => (nI_ge (a := s) (b := 10) z (by omega)) h2
    refine wp_aload_n rfl rfl ?_
    refine q_geti rfl rfl (by first | rfl | assumption) rfl ?_
    refine wp_aload_n rfl rfl ?_
    refine q_getr rfl rfl (by first | rfl | assumption) rfl rfl ?_
    refine wp_iload_n rfl rfl ?_
    refine q_mast rfl rfl hs ?_
    refine q_geti rfl rfl (by first | rfl | assumption) rfl ?_
    refine wp_icmp_ge 17 rfl rfl (fun h14 => ?_) (fun h14 => ?_)
    · refine wp_iconst (v := 0) rfl rfl ?_
      exact wp_zret rfl rfl (by first | rfl | exact nb2 _ | assumption) (⟨by simp only [sndB]; grind [b2], rfl⟩)
    · refine wp_iconst (v := 1) rfl rfl ?_
      refine wp_goto 18 rfl rfl ?_
      exact wp_zret rfl rfl (by first | rfl | exact nb2 _ | assumption) (⟨by simp only [sndB]; grind [b2], rfl⟩)
  · have hs10 : s < 10 := by rcases Nat.lt_or_ge s 10 with z | z; exact z; exact absurd (nI_le (a := 10) (b := s) z (by omega)) h2
    refine wp_aload_n rfl rfl ?_
    refine wp_iload_n rfl rfl ?_
    refine cV1 rfl l_1_52 i_X1_isOn m_X1_isOn (by first | rfl | assumption) (by decide) (c_X1_isOn G _ _ _ _ _ h.1) rfl (Nat.le_of_ble_eq_true rfl) ?_
    refine wp_goto 18 rfl rfl ?_
    exact wp_zret rfl rfl (by first | rfl | exact nb2 _ | assumption) (⟨by simp only [sndB]; grind [b2], rfl⟩)
def hrtB (I : IF) (a s : Nat) : Bool := cldB I a s && decide (chNow I (4 + s) = chNow I (4 + ow I a)) && sndB I s
/-- the first from i on, of n -/
def fst1 (P : Nat → Bool) : Nat → Nat → Int32
  | 0, _ => -1
  | n + 1, i => if P i = true then nI i else fst1 P n (i + 1)
def hurtF (I : IF) (a : Nat) : Int32 := if 0 ≤ I (18 + a) 6 ∧ I (18 + a) 6 < I 1 2 then fst1 (hrtB I a) 14 0 else -1
theorem c_X1_hurterOf (G : Gl) (d : Nat) {nm na nr a : Nat} (I : IF) (L : LF) (b : Bool) (h : IV nm na nr I L) (ha : a < 16) : MD G (d + 3) Y_X1_hurterOf [.ref 1, .ref (18 + a)] (I, L, RR b) (some (.int (hurtF I a))) (I, L, RR b) := by
  have hsa := sh_area a ha
  have hloop : ∀ (t : Int32) (n i : Nat), i + n = 14 → fst1 (hrtB I a) n i = t → WQ G (d + 3) Y_X1_hurterOf (fun r' w'' => r' = some (.int t) ∧ w'' = (I, L, RR b)) 16 [(0, .ref 1), (1, .ref (18 + a)), (2, .int (chNow I (4 + ow I a))), (3, .int (nI i))] [] (I, L, RR b) := by
    intro t n
    induction n with
    | zero =>
      intro i hi ht
      have hi14 : i = 14 := by omega
      subst hi14
      refine wp_iload_n rfl rfl ?_
      refine wp_bipush (v := 14) rfl rfl ?_
      refine wp_icmp_ge 39 rfl rfl (fun _ => ?_) (fun h18 => absurd (show (14 : Int32) ≤ nI 14 by decide) h18)
      refine wp_iconst (v := (-1)) rfl rfl ?_
      exact wp_iret rfl rfl (⟨by rw [← ht]; rfl, rfl⟩)
    | succ n ih =>
      intro i hi ht
      have hlt : ¬ (14 : Int32) ≤ nI i := nI_ge (a := i) (b := 14) (by omega) (by omega)
      have hss := sh_mast i (by omega)
      simp only [fst1] at ht
      refine wp_iload_n rfl rfl ?_
      refine wp_bipush (v := 14) rfl rfl ?_
      refine wp_icmp_ge 39 rfl rfl (fun h18 => absurd h18 hlt) (fun _ => ?_)
      refine wp_aload_n rfl rfl ?_
      refine wp_iload_n rfl rfl ?_
      refine wp_aload_n rfl rfl ?_
      refine cV1 rfl l_1_75 i_X1_couldHurt m_X1_couldHurt (by first | rfl | assumption) (by decide) (c_X1_couldHurt G _ _ _ _ h (by omega) ha) rfl (Nat.le_of_ble_eq_true rfl) ?_
      refine wp_if_eq 37 rfl rfl (fun h23 => ?_) (fun h23 => ?_)
      · refine wp_iinc (v := nI (i + 1)) (lv' := [(3, _), (0, _), (1, _), (2, _)]) rfl rfl (nI_1 i) (by decide) rfl ?_
        refine wp_goto 16 rfl rfl ?_
        refine wp_loc (lv' := [(0, _), (1, _), (2, _), (3, _)]) [1, 2, 3, 0] rfl ?_
        refine ih (i + 1) (by omega) ?_
        rw [← ht, if_neg]
        simp only [hrtB]
        grind [b2]
      · refine wp_aload_n rfl rfl ?_
        refine q_getr rfl rfl (by first | rfl | assumption) rfl rfl ?_
        refine wp_iload_n rfl rfl ?_
        refine q_mast rfl rfl (by omega) ?_
        refine cV1 rfl l_1_71 i_X4_channelNow m_X4_channelNow (by first | rfl | assumption) (by decide) (c_X4_channelNow G _ _ _ _ _ hss) rfl (Nat.le_of_ble_eq_true rfl) ?_
        refine wp_iload_n rfl rfl ?_
        refine wp_icmp_ne 37 rfl rfl (fun h30 => ?_) (fun h30 => ?_)
        · refine wp_iinc (v := nI (i + 1)) (lv' := [(3, _), (0, _), (1, _), (2, _)]) rfl rfl (nI_1 i) (by decide) rfl ?_
          refine wp_goto 16 rfl rfl ?_
          refine wp_loc (lv' := [(0, _), (1, _), (2, _), (3, _)]) [1, 2, 3, 0] rfl ?_
          refine ih (i + 1) (by omega) ?_
          rw [← ht, if_neg]
          simp only [hrtB]
          grind [b2]
        · refine wp_aload_n rfl rfl ?_
          refine wp_iload_n rfl rfl ?_
          refine cV1 rfl l_1_79 i_X1_isSending m_X1_isSending (by first | rfl | assumption) (by decide) (c_X1_isSending G _ _ _ _ h (by omega)) rfl (Nat.le_of_ble_eq_true rfl) ?_
          refine wp_if_eq 37 rfl rfl (fun h34 => ?_) (fun h34 => ?_)
          · refine wp_iinc (v := nI (i + 1)) (lv' := [(3, _), (0, _), (1, _), (2, _)]) rfl rfl (nI_1 i) (by decide) rfl ?_
            refine wp_goto 16 rfl rfl ?_
            refine wp_loc (lv' := [(0, _), (1, _), (2, _), (3, _)]) [1, 2, 3, 0] rfl ?_
            refine ih (i + 1) (by omega) ?_
            rw [← ht, if_neg]
            simp only [hrtB]
            grind [b2]
          · refine wp_iload_n rfl rfl ?_
            exact wp_iret rfl rfl (⟨by rw [← ht, if_pos]; simp only [hrtB]; grind [b2], rfl⟩)
  refine MT.intro m_X1_hurterOf rfl (Nat.le_of_ble_eq_true rfl) ?_
  show WQ G (d + 3) Y_X1_hurterOf _ 0 [(0, .ref 1), (1, .ref (18 + a))] [] (I, L, RR b)
  refine wp_aload_n rfl rfl ?_
  refine wp_aload_n rfl rfl ?_
  refine q_geti rfl rfl (by first | rfl | assumption) rfl ?_
  refine cV1 rfl l_1_35 i_X1_isMast m_X1_isMast (by first | rfl | assumption) (by decide) (c_X1_isMast G _ _ _ _ _) rfl (Nat.le_of_ble_eq_true rfl) ?_
  refine wp_if_ne 7 rfl rfl (fun h4 => ?_) (fun h4 => ?_)
  · have hv := b2_ne.mp h4
    obtain ⟨m, hm, hvm, hcl⟩ := (isM h.1 _).1 hv
    have hm14 : m < 14 := by have := h.1.1.2.2; omega
    have hsm := sh_mast m hm14
    refine wp_aload_n rfl rfl ?_
    refine q_getr rfl rfl (by first | rfl | assumption) rfl rfl ?_
    refine wp_aload_n rfl rfl ?_
    refine q_geti rfl rfl (by first | rfl | assumption) rfl ?_
    refine q_mast rfl hvm hm14 ?_
    refine cV1 rfl l_1_71 i_X4_channelNow m_X4_channelNow (by first | rfl | assumption) (by decide) (c_X4_channelNow G _ _ _ _ _ hsm) rfl (Nat.le_of_ble_eq_true rfl) ?_
    refine wp_istore_n (lv' := [(2, _), (0, _), (1, _)]) rfl rfl (by decide) rfl ?_
    refine wp_iconst (v := 0) rfl rfl ?_
    refine wp_istore_n (lv' := [(3, _), (2, _), (0, _), (1, _)]) rfl rfl (by decide) rfl ?_
    refine wp_loc (lv' := [(0, _), (1, _), (2, _), (3, _)]) [2, 3, 1, 0] rfl ?_
    rw [← hcl]
    exact hloop _ 14 0 rfl (by unfold hurtF; rw [if_pos hv])
  · refine wp_iconst (v := (-1)) rfl rfl ?_
    exact wp_iret rfl rfl (⟨by unfold hurtF; rw [if_neg (by grind [b2])], rfl⟩)
theorem c_X11_now (G : Gl) (d : Nat) {nm na nr m : Nat} (v : Int32) (I : IF) (L : LF) (b : Bool) (h : IV nm na nr I L) (hm : m < nm) (hv : v = nI m) : MD G d Y_X11_now [.ref 72, .int v] (I, L, RR b) (some (.int (chNow I (4 + m)))) (I, L, RR b) := by
  subst hv
  have hnm : nm ≤ 10 := h.1.1.2.2
  have hcl : (nI m).toNatClampNeg = m := nI_clamp (by omega)
  have hin : vp_in (nI m) 10 := vp_in_nI (by omega) (by omega)
  have hin14 : vp_in (nI m) 14 := vp_in_nI (by omega) (by omega)
  have z3 := h.2.2.1 m (by omega)
  have z4 := h.2.2.2.1 m (by omega)
  have z7 := h.2.2.2.2.2.2.1 m (by omega)
  refine MT.intro m_X11_now rfl (Nat.le_of_ble_eq_true rfl) ?_
  show WQ G d Y_X11_now _ 0 [(0, .ref 72), (1, .int (nI m))] [] (I, L, RR b)
  refine wp_aload_n rfl rfl ?_
  refine q_getr rfl rfl (by first | rfl | assumption) rfl rfl ?_
  refine wp_iload_n rfl rfl ?_
  refine q_zald rfl (by first | rfl | assumption) (by assumption) ?_
  refine wp_if_eq 10 rfl rfl (fun h4 => ?_) (fun h4 => ?_)
  · refine wp_aload_n rfl rfl ?_
    refine q_getr rfl rfl (by first | rfl | assumption) rfl rfl ?_
    refine wp_iload_n rfl rfl ?_
    refine q_iald rfl (by first | rfl | assumption) (by assumption) ?_
    exact wp_iret rfl rfl (⟨by rw [hcl] at *; unfold chNow; grind, rfl⟩)
  · refine wp_aload_n rfl rfl ?_
    refine q_getr rfl rfl (by first | rfl | assumption) rfl rfl ?_
    refine wp_iload_n rfl rfl ?_
    refine q_iald rfl (by first | rfl | assumption) (by assumption) ?_
    refine wp_goto 14 rfl rfl ?_
    exact wp_iret rfl rfl (⟨by rw [hcl] at *; unfold chNow; grind, rfl⟩)
theorem c_X11_hurts (G : Gl) (d : Nat) {nm na nr s a o : Nat} (x y : Int32) (I : IF) (L : LF) (b : Bool) (h : IV nm na nr I L) (hs : s < 14) (ha : a < nr) (hx : x = nI s) (hy : y = nI a) (ho : I (18 + a) 6 = nI o) (hom : o < nm) : MD G (d + 1) Y_X11_hurts [.ref 72, .int x, .int y] (I, L, RR b) (some (.int (b2 (stg I o a < I 1 7 * stg I s a)))) (I, L, RR b) := by
  subst hx
  subst hy
  have hnm : nm ≤ 10 := h.1.1.2.2
  have hnr : nr ≤ 16 := h.1.2.2.2.2
  have hcl : (nI a).toNatClampNeg = a := nI_clamp (by omega)
  have hin : vp_in (nI a) 16 := vp_in_nI (by omega) (by omega)
  have z9 := (h.2.2.2.2.2.2.2.2.1 a (by omega)).1 ha
  have h92 : I 92 a = nI o := z9.1.trans ho
  have hne : ¬ nI o = (-1 : Int32) := by have := nI_pos' (n := o) (by omega); grind
  obtain ⟨q1, e1, e2⟩ := stg_b h hs (show a < 16 by omega)
  obtain ⟨q2, e3, e4⟩ := stg_b h (m := o) (by omega) (show a < 16 by omega)
  obtain ⟨r1, r2, r3⟩ := h.2.1.2.2.1
  obtain ⟨rn, rn1, rn2⟩ := nI_of2 (M := 100) (n := 100) rfl (by grind) r3
  have hprod : rn * q1 ≤ 100000000 := Nat.le_trans (Nat.mul_le_mul rn1 e1) (by omega)
  have hcmp : stg I o a < I 1 7 * stg I s a ↔ q2 < rn * q1 := by
    rw [e2, e4, rn2, pk_mul]
    exact nI_ltI (by omega) (by omega)
  have hlng : ((I 72 10).toInt64 * (stg I s a).toInt64) = lN (rn * q1) ∧ (stg I o a).toInt64 = lN q2 := by
    rw [r1, rn2, e2, e4, nI_l (by omega), nI_l (by omega), nI_l (by omega), lN_mul]
    exact ⟨rfl, rfl⟩
  refine MT.intro m_X11_hurts rfl (Nat.le_of_ble_eq_true rfl) ?_
  show WQ G (d + 1) Y_X11_hurts _ 0 [(0, .ref 72), (1, .int (nI s)), (2, .int (nI a))] [] (I, L, RR b)
  refine wp_aload_n rfl rfl ?_
  refine q_getr rfl rfl (by first | rfl | assumption) rfl rfl ?_
  refine wp_iload_n rfl rfl ?_
  refine q_iald rfl (by first | rfl | assumption) (by assumption) ?_
  refine wp_iconst (v := (-1)) rfl rfl ?_
  refine wp_icmp_eq 27 rfl rfl (fun h5 => ?_) (fun h5 => ?_)
  · rw [hcl, h92] at h5; exact absurd h5 hne
  · refine wp_aload_n rfl rfl ?_
    refine q_geti rfl rfl (by first | rfl | assumption) rfl ?_
    refine wp_i2l rfl ?_
    refine wp_aload_n rfl rfl ?_
    refine wp_iload_n rfl rfl ?_
    refine wp_iload_n rfl rfl ?_
    refine cV1 rfl l_11_172 i_X11_at m_X11_at (by first | rfl | assumption) (by decide) (d_at G _ _ h hs (by omega) rfl rfl) rfl (Nat.le_of_ble_eq_true rfl) ?_
    refine wp_i2l rfl ?_
    refine wp_lmul rfl ?_
    refine wp_aload_n rfl rfl ?_
    refine wp_aload_n rfl rfl ?_
    refine q_getr rfl rfl (by first | rfl | assumption) rfl rfl ?_
    refine wp_iload_n rfl rfl ?_
    refine q_iald rfl (by first | rfl | assumption) (by assumption) ?_
    refine wp_iload_n rfl rfl ?_
    refine cV1 rfl l_11_172 i_X11_at m_X11_at (by first | rfl | assumption) (by decide) (d_at G _ _ h (m := o) (by omega) (by omega) (by rw [hcl]; exact h92) rfl) rfl (Nat.le_of_ble_eq_true rfl) ?_
    refine wp_i2l rfl ?_
    rw [hlng.1, hlng.2]
    refine wp_lcmp rfl ?_
    refine wp_if_le 27 rfl rfl (fun h24 => ?_) (fun h24 => ?_)
    · refine wp_iconst (v := 0) rfl rfl ?_
      exact wp_zret rfl rfl (by first | rfl | exact nb2 _ | assumption) (⟨by have := lN_lt (a := q2) (b := rn * q1) (by omega) (by omega); have := lN_eq (a := q2) (b := rn * q1) (by omega) (by omega); simp only [lg_cmp] at *; grind [b2], rfl⟩)
    · refine wp_iconst (v := 1) rfl rfl ?_
      refine wp_goto 28 rfl rfl ?_
      exact wp_zret rfl rfl (by first | rfl | exact nb2 _ | assumption) (⟨by have := lN_lt (a := q2) (b := rn * q1) (by omega) (by omega); have := lN_eq (a := q2) (b := rn * q1) (by omega) (by omega); simp only [lg_cmp] at *; grind [b2], rfl⟩)
/-- skipping those that don't -/
theorem fst1_skip {P : Nat → Bool} : ∀ (j n i : Nat), (∀ q, i ≤ q → q < i + j → P q = false) → fst1 P (j + n) i = fst1 P n (i + j)
  | 0, n, i, _ => by rw [Nat.zero_add, Nat.add_zero]
  | j + 1, n, i, h => by
    rw [show j + 1 + n = (j + n) + 1 by omega]
    simp only [fst1]
    rw [if_neg (by rw [h i (by omega) (by omega)]; decide), fst1_skip j n (i + 1) (fun q h1 h2 => h q (by omega) (by omega)), show i + 1 + j = i + (j + 1) by omega]
theorem fst1_none {P : Nat → Bool} : ∀ (n i : Nat), (∀ q, i ≤ q → q < i + n → P q = false) → fst1 P n i = -1
  | 0, _, _ => rfl
  | n + 1, i, h => by
    simp only [fst1]
    rw [if_neg (by rw [h i (by omega) (by omega)]; decide), fst1_none n (i + 1) (fun q h1 h2 => h q (by omega) (by omega))]
theorem c_X11_hurtBy (G : Gl) (d : Nat) {nm na nr a : Nat} (y : Int32) (I : IF) (L : LF) (b : Bool) (h : IV nm na nr I L) (ha : a < nr) (hy : y = nI a) : MD G (d + 2) Y_X11_hurtBy [.ref 72, .int y] (I, L, RR b) (some (.int (hurtF I a))) (I, L, RR b) := by
  subst hy
  have hnm : nm ≤ 10 := h.1.1.2.2
  have hna : na ≤ 4 := h.1.2.1.2.2
  have hnr : nr ≤ 16 := h.1.2.2.2.2
  have hcl : (nI a).toNatClampNeg = a := nI_clamp (by omega)
  have hin : vp_in (nI a) 16 := vp_in_nI (by omega) (by omega)
  have z9 := (h.2.2.2.2.2.2.2.2.1 a (by omega)).1 ha
  by_cases hno : I (18 + a) 6 = -1
  · have hF : hurtF I a = -1 := by unfold hurtF; rw [if_neg (by rw [hno]; exact fun z => absurd z.1 (by decide))]
    refine MT.intro m_X11_hurtBy rfl (Nat.le_of_ble_eq_true rfl) ?_
    show WQ G (d + 2) Y_X11_hurtBy _ 0 [(0, .ref 72), (1, .int (nI a))] [] (I, L, RR b)
    refine wp_aload_n rfl rfl ?_
    refine q_getr rfl rfl (by first | rfl | assumption) rfl rfl ?_
    refine wp_iload_n rfl rfl ?_
    refine q_iald rfl (by first | rfl | assumption) (by assumption) ?_
    refine wp_istore_n (lv' := [(2, _), (0, _), (1, _)]) rfl rfl (by decide) rfl ?_
    refine wp_iload_n rfl rfl ?_
    refine wp_iconst (v := (-1)) rfl rfl ?_
    refine wp_icmp_ne 10 rfl rfl (fun h7 => ?_) (fun h7 => ?_)
    · refine wp_loc (lv' := [(0, _), (1, _), (2, _)]) [1, 2, 0] rfl ?_
      rw [hcl, z9.1] at h7; exact absurd hno h7
    · refine wp_iconst (v := (-1)) rfl rfl ?_
      exact wp_iret rfl rfl (⟨by rw [hF], rfl⟩)
  · obtain ⟨o, ho, hoe⟩ := nI_get (x := I (18 + a) 6) (n := nm) (by grind) z9.2.2 (by omega)
    have how : ow I a = o := by show (I (18 + a) 6).toNatClampNeg = o; rw [hoe]; exact nI_clamp (by omega)
    have hisM : 0 ≤ I (18 + a) 6 ∧ I (18 + a) 6 < I 1 2 := by rw [h.1.1.1]; exact ⟨by grind, z9.2.2⟩
    have hF : hurtF I a = fst1 (hrtB I a) 14 0 := by unfold hurtF; rw [if_pos hisM]
    have hcld : ∀ s, s < 14 → (cldB I a s = true ↔ (s < nm ∨ (10 ≤ s ∧ s < 10 + na)) ∧ ¬ s = o ∧ stg I o a < I 1 7 * stg I s a) := by
      intro s hs
      have e1 : (0 ≤ nI s ∧ nI s < I 1 2) ↔ s < nm := by rw [h.1.1.1, nI_ltI (by omega) (by omega)]; exact ⟨fun z => z.2, fun z => ⟨nI_pos' (by omega), z⟩⟩
      have e2 : (10 ≤ nI s ∧ nI s - 10 < I 1 3) ↔ (10 ≤ s ∧ s < 10 + na) := by
        rw [h.1.2.1.1, show (10 : Int32) = nI 10 from rfl, nI_leI (by omega) (by omega)]
        constructor
        · intro ⟨z1, z2⟩
          rw [pk_sub z1, nI_ltI (by omega) (by omega)] at z2
          exact ⟨z1, by omega⟩
        · intro ⟨z1, z2⟩
          rw [pk_sub z1, nI_ltI (by omega) (by omega)]
          exact ⟨z1, by omega⟩
      simp only [cldB, decide_eq_true_eq]
      rw [e1, e2, how, hoe, nI_eq (by omega) (by omega)]
      have := hisM
      rw [hoe] at this
      grind
    have hloop2 : ∀ (t : Int32) (n i : Nat), i + n = na → fst1 (hrtB I a) (n + (4 - na)) (10 + i) = t → WQ G (d + 2) Y_X11_hurtBy (fun r' w'' => r' = some (.int t) ∧ w'' = (I, L, RR b)) 41 [(0, .ref 72), (1, .int (nI a)), (2, .int (nI o)), (3, .int (nI i))] [] (I, L, RR b) := by
      intro t n
      induction n with
      | zero =>
        intro i hi ht
        have hge : I 72 6 ≤ nI i := by rw [h.1.2.1.2.1]; exact nI_le (by omega) (by omega)
        rw [fst1_none _ _ (fun q q1 q2 => ?_)] at ht
        · refine wp_iload_n rfl rfl ?_
          refine wp_aload_n rfl rfl ?_
          refine q_geti rfl rfl (by first | rfl | assumption) rfl ?_
          refine wp_icmp_ge 75 rfl rfl (fun _ => ?_) (fun h44 => absurd hge h44)
          refine wp_iconst (v := (-1)) rfl rfl ?_
          exact wp_iret rfl rfl (⟨by rw [← ht], rfl⟩)
        · simp only [hrtB]
          have := hcld q (by omega)
          grind
      | succ n ih =>
        intro i hi ht
        rw [show n + 1 + (4 - na) = (n + (4 - na)) + 1 by omega] at ht
        simp only [fst1] at ht
        have hlt : ¬ I 72 6 ≤ nI i := by rw [h.1.2.1.2.1]; exact nI_ge (by omega) (by omega)
        have hcli : (nI i).toNatClampNeg = i := nI_clamp (by omega)
        have hin4 : vp_in (nI i) 4 := vp_in_nI (by omega) (by omega)
        have e10 : (10 : Int32) + nI i = nI (10 + i) := nI_add 10 i
        have hcl10 : (nI (10 + i)).toNatClampNeg = 10 + i := nI_clamp (by omega)
        have hin14 : vp_in (10 + nI i) 14 := by rw [e10]; exact vp_in_nI (by omega) (by omega)
        have z6 := h.2.2.2.2.2.1 i (by omega)
        have z3 := h.2.2.1 (10 + i) (by omega)
        have hc := hcld (10 + i) (by omega)
        have hch : chNow I (4 + (10 + i)) = I 80 (10 + i) := by unfold chNow; rw [show 4 + (10 + i) = 14 + i by omega, if_pos z6.2, z3.1.2.2.2, show 4 + (10 + i) = 14 + i by omega]
        have hsn : sndB I (10 + i) = decide (I 72 8 < I 82 i) := by unfold sndB; rw [if_neg (by omega), h.2.1.1.1, z6.1.1, show 4 + (10 + i) = 14 + i by omega]
        refine wp_iload_n rfl rfl ?_
        refine wp_aload_n rfl rfl ?_
        refine q_geti rfl rfl (by first | rfl | assumption) rfl ?_
        refine wp_icmp_ge 75 rfl rfl (fun h44 => absurd h44 hlt) (fun _ => ?_)
        refine wp_aload_n rfl rfl ?_
        refine q_geti rfl rfl (by first | rfl | assumption) rfl ?_
        refine wp_aload_n rfl rfl ?_
        refine q_getr rfl rfl (by first | rfl | assumption) rfl rfl ?_
        refine wp_iload_n rfl rfl ?_
        refine q_iald rfl (by first | rfl | assumption) (by assumption) ?_
        refine wp_icmp_ge 73 rfl rfl (fun h51 => ?_) (fun h51 => ?_)
        · refine wp_iinc (v := nI (i + 1)) (lv' := [(3, _), (0, _), (1, _), (2, _)]) rfl rfl (nI_1 i) (by decide) rfl ?_
          refine wp_goto 41 rfl rfl ?_
          refine wp_loc (lv' := [(0, _), (1, _), (2, _), (3, _)]) [1, 2, 3, 0] rfl ?_
          refine ih (i + 1) (by omega) ?_
          rw [← ht, if_neg, show 10 + (i + 1) = 10 + i + 1 by omega]
          simp only [hrtB, hch, hsn, how]
          rw [hcli] at *
          try rw [e10, hcl10] at *
          grind [b2]
        · refine wp_aload_n rfl rfl ?_
          refine q_getr rfl rfl (by first | rfl | assumption) rfl rfl ?_
          refine wp_bipush (v := 10) rfl rfl ?_
          refine wp_iload_n rfl rfl ?_
          refine wp_iadd rfl ?_
          refine q_iald rfl (by first | rfl | assumption) (by assumption) ?_
          refine wp_aload_n rfl rfl ?_
          refine wp_iload_n rfl rfl ?_
          refine cV1 rfl l_11_344 i_X11_now m_X11_now (by first | rfl | assumption) (by decide) (c_X11_now G _ _ _ _ _ h ho rfl) rfl (Nat.le_of_ble_eq_true rfl) ?_
          refine wp_icmp_ne 73 rfl rfl (fun h61 => ?_) (fun h61 => ?_)
          · refine wp_iinc (v := nI (i + 1)) (lv' := [(3, _), (0, _), (1, _), (2, _)]) rfl rfl (nI_1 i) (by decide) rfl ?_
            refine wp_goto 41 rfl rfl ?_
            refine wp_loc (lv' := [(0, _), (1, _), (2, _), (3, _)]) [1, 2, 3, 0] rfl ?_
            refine ih (i + 1) (by omega) ?_
            rw [← ht, if_neg, show 10 + (i + 1) = 10 + i + 1 by omega]
            simp only [hrtB, hch, hsn, how]
            rw [hcli] at *
            try rw [e10, hcl10] at *
            grind [b2]
          · refine wp_aload_n rfl rfl ?_
            refine wp_bipush (v := 10) rfl rfl ?_
            refine wp_iload_n rfl rfl ?_
            refine wp_iadd rfl ?_
            refine wp_iload_n rfl rfl ?_
            refine cV1 rfl l_11_178 i_X11_hurts m_X11_hurts (by first | rfl | assumption) (by decide) (c_X11_hurts G _ _ _ _ _ _ h (show 10 + i < 14 by omega) ha e10 rfl hoe ho) rfl (Nat.le_of_ble_eq_true rfl) ?_
            refine wp_if_eq 73 rfl rfl (fun h68 => ?_) (fun h68 => ?_)
            · refine wp_iinc (v := nI (i + 1)) (lv' := [(3, _), (0, _), (1, _), (2, _)]) rfl rfl (nI_1 i) (by decide) rfl ?_
              refine wp_goto 41 rfl rfl ?_
              refine wp_loc (lv' := [(0, _), (1, _), (2, _), (3, _)]) [1, 2, 3, 0] rfl ?_
              refine ih (i + 1) (by omega) ?_
              rw [← ht, if_neg, show 10 + (i + 1) = 10 + i + 1 by omega]
              simp only [hrtB, hch, hsn, how]
              rw [hcli] at *
              try rw [e10, hcl10] at *
              grind [b2]
            · refine wp_bipush (v := 10) rfl rfl ?_
              refine wp_iload_n rfl rfl ?_
              refine wp_iadd rfl ?_
              exact wp_iret rfl rfl (⟨by rw [← ht, if_pos, e10]; simp only [hrtB, hch, hsn, how]; rw [hcli] at *; (try rw [e10, hcl10] at *); grind [b2], rfl⟩)
    have hloop1 : ∀ (t : Int32) (n i : Nat), i + n = nm → fst1 (hrtB I a) (n + (14 - nm)) i = t → WQ G (d + 2) Y_X11_hurtBy (fun r' w'' => r' = some (.int t) ∧ w'' = (I, L, RR b)) 12 [(0, .ref 72), (1, .int (nI a)), (2, .int (nI o)), (3, .int (nI i))] [] (I, L, RR b) := by
      intro t n
      induction n with
      | zero =>
        intro i hi ht
        have hge : I 72 5 ≤ nI i := by rw [h.1.1.2.1]; exact nI_le (by omega) (by omega)
        rw [Nat.zero_add, show 14 - nm = (10 - nm) + 4 by omega, fst1_skip (10 - nm) 4 i (fun q q1 q2 => ?_), show i + (10 - nm) = 10 by omega] at ht
        · refine wp_iload_n rfl rfl ?_
          refine wp_aload_n rfl rfl ?_
          refine q_geti rfl rfl (by first | rfl | assumption) rfl ?_
          refine wp_icmp_ge 39 rfl rfl (fun _ => ?_) (fun h15 => absurd hge h15)
          refine wp_iconst (v := 0) rfl rfl ?_
          refine wp_istore_n (lv' := [(3, _), (0, _), (1, _), (2, _)]) rfl rfl (by decide) rfl ?_
          refine wp_loc (lv' := [(0, _), (1, _), (2, _), (3, _)]) [1, 2, 3, 0] rfl ?_
          exact hloop2 t na 0 (by omega) (by rw [show na + (4 - na) = 4 by omega]; exact ht)
        · simp only [hrtB]
          have := hcld q (by omega)
          grind
      | succ n ih =>
        intro i hi ht
        rw [show n + 1 + (14 - nm) = (n + (14 - nm)) + 1 by omega] at ht
        simp only [fst1] at ht
        have hlt : ¬ I 72 5 ≤ nI i := by rw [h.1.1.2.1]; exact nI_ge (by omega) (by omega)
        have hc := hcld i (by omega)
        have hio : nI i = nI o ↔ i = o := nI_eq (by omega) (by omega)
        have hsn : sndB I i = onC I 10 (nI i) := by unfold sndB; rw [if_pos (by omega)]
        refine wp_iload_n rfl rfl ?_
        refine wp_aload_n rfl rfl ?_
        refine q_geti rfl rfl (by first | rfl | assumption) rfl ?_
        refine wp_icmp_ge 39 rfl rfl (fun h15 => absurd h15 hlt) (fun _ => ?_)
        refine wp_iload_n rfl rfl ?_
        refine wp_iload_n rfl rfl ?_
        refine wp_icmp_eq 37 rfl rfl (fun h18 => ?_) (fun h18 => ?_)
        · refine wp_iinc (v := nI (i + 1)) (lv' := [(3, _), (0, _), (1, _), (2, _)]) rfl rfl (nI_1 i) (by decide) rfl ?_
          refine wp_goto 12 rfl rfl ?_
          refine wp_loc (lv' := [(0, _), (1, _), (2, _), (3, _)]) [1, 2, 3, 0] rfl ?_
          refine ih (i + 1) (by omega) ?_
          rw [← ht, if_neg]
          simp only [hrtB, hsn, how]
          grind [b2]
        · refine wp_aload_n rfl rfl ?_
          refine wp_iload_n rfl rfl ?_
          refine cV1 rfl l_11_341 i_X11_isOn m_X11_isOn (by first | rfl | assumption) (by decide) (c_X11_isOn G _ _ _ _ _ h (Or.inr ⟨i, by omega, rfl⟩)) rfl (Nat.le_of_ble_eq_true rfl) ?_
          refine wp_if_eq 37 rfl rfl (fun h22 => ?_) (fun h22 => ?_)
          · refine wp_iinc (v := nI (i + 1)) (lv' := [(3, _), (0, _), (1, _), (2, _)]) rfl rfl (nI_1 i) (by decide) rfl ?_
            refine wp_goto 12 rfl rfl ?_
            refine wp_loc (lv' := [(0, _), (1, _), (2, _), (3, _)]) [1, 2, 3, 0] rfl ?_
            refine ih (i + 1) (by omega) ?_
            rw [← ht, if_neg]
            simp only [hrtB, hsn, how]
            grind [b2]
          · refine wp_aload_n rfl rfl ?_
            refine wp_iload_n rfl rfl ?_
            refine cV1 rfl l_11_344 i_X11_now m_X11_now (by first | rfl | assumption) (by decide) (c_X11_now G _ _ _ _ _ h (show i < nm by omega) rfl) rfl (Nat.le_of_ble_eq_true rfl) ?_
            refine wp_aload_n rfl rfl ?_
            refine wp_iload_n rfl rfl ?_
            refine cV1 rfl l_11_344 i_X11_now m_X11_now (by first | rfl | assumption) (by decide) (c_X11_now G _ _ _ _ _ h ho rfl) rfl (Nat.le_of_ble_eq_true rfl) ?_
            refine wp_icmp_ne 37 rfl rfl (fun h29 => ?_) (fun h29 => ?_)
            · refine wp_iinc (v := nI (i + 1)) (lv' := [(3, _), (0, _), (1, _), (2, _)]) rfl rfl (nI_1 i) (by decide) rfl ?_
              refine wp_goto 12 rfl rfl ?_
              refine wp_loc (lv' := [(0, _), (1, _), (2, _), (3, _)]) [1, 2, 3, 0] rfl ?_
              refine ih (i + 1) (by omega) ?_
              rw [← ht, if_neg]
              simp only [hrtB, hsn, how]
              grind [b2]
            · refine wp_aload_n rfl rfl ?_
              refine wp_iload_n rfl rfl ?_
              refine wp_iload_n rfl rfl ?_
              refine cV1 rfl l_11_178 i_X11_hurts m_X11_hurts (by first | rfl | assumption) (by decide) (c_X11_hurts G _ _ _ _ _ _ h (show i < 14 by omega) ha rfl rfl hoe ho) rfl (Nat.le_of_ble_eq_true rfl) ?_
              refine wp_if_eq 37 rfl rfl (fun h34 => ?_) (fun h34 => ?_)
              · refine wp_iinc (v := nI (i + 1)) (lv' := [(3, _), (0, _), (1, _), (2, _)]) rfl rfl (nI_1 i) (by decide) rfl ?_
                refine wp_goto 12 rfl rfl ?_
                refine wp_loc (lv' := [(0, _), (1, _), (2, _), (3, _)]) [1, 2, 3, 0] rfl ?_
                refine ih (i + 1) (by omega) ?_
                rw [← ht, if_neg]
                simp only [hrtB, hsn, how]
                grind [b2]
              · refine wp_iload_n rfl rfl ?_
                exact wp_iret rfl rfl (⟨by rw [← ht, if_pos]; simp only [hrtB, hsn, how]; grind [b2], rfl⟩)
    refine MT.intro m_X11_hurtBy rfl (Nat.le_of_ble_eq_true rfl) ?_
    show WQ G (d + 2) Y_X11_hurtBy _ 0 [(0, .ref 72), (1, .int (nI a))] [] (I, L, RR b)
    refine wp_aload_n rfl rfl ?_
    refine q_getr rfl rfl (by first | rfl | assumption) rfl rfl ?_
    refine wp_iload_n rfl rfl ?_
    refine q_iald rfl (by first | rfl | assumption) (by assumption) ?_
    refine wp_istore_n (lv' := [(2, _), (0, _), (1, _)]) rfl rfl (by decide) rfl ?_
    refine wp_iload_n rfl rfl ?_
    refine wp_iconst (v := (-1)) rfl rfl ?_
    refine wp_icmp_ne 10 rfl rfl (fun h7 => ?_) (fun h7 => ?_)
    · refine wp_iconst (v := 0) rfl rfl ?_
      refine wp_istore_n (lv' := [(3, _), (2, _), (0, _), (1, _)]) rfl rfl (by decide) rfl ?_
      refine wp_loc (lv' := [(0, _), (1, _), (2, _), (3, _)]) [2, 3, 1, 0] rfl ?_
      rw [hcl, z9.1, hoe]
      exact hloop1 _ nm 0 (by omega) (by rw [show nm + (14 - nm) = 14 by omega, hF])
    · rw [hcl, z9.1] at h7; exact absurd h7 hno
