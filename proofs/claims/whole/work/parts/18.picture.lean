/-! the picture, snow, hurt, turn -/
def picF (I : IF) (a : Nat) : Int32 := if (0 ≤ I (18 + a) 6 ∧ I (18 + a) 6 < I 1 2) ∧ ¬ stg I (ow I a) a < I 1 6 then (if onC I 10 (I (18 + a) 6) = true then (if hurtF I a = -1 then (if ¬ I (4 + ow I a) 9 = 0 ∧ I (18 + a) 5 < I (18 + a) 2 then 4 else 0) else 3) else 2) else 1
theorem c_X1_pictureOf (G : Gl) (d : Nat) {nm na nr a : Nat} (I : IF) (L : LF) (b : Bool) (h : IV nm na nr I L) (ha : a < 16) : MD G (d + 4) Y_X1_pictureOf [.ref 1, .ref (18 + a)] (I, L, RR b) (some (.int (picF I a))) (I, L, RR b) := by
  have hsa := sh_area a ha
  refine MT.intro m_X1_pictureOf rfl (Nat.le_of_ble_eq_true rfl) ?_
  show WQ G (d + 4) Y_X1_pictureOf _ 0 [(0, .ref 1), (1, .ref (18 + a))] [] (I, L, RR b)
  refine wp_aload_n rfl rfl ?_
  refine wp_aload_n rfl rfl ?_
  refine q_geti rfl rfl (by first | rfl | assumption) rfl ?_
  refine cV1 rfl l_1_35 i_X1_isMast m_X1_isMast (by first | rfl | assumption) (by decide) (c_X1_isMast G _ _ _ _ _) rfl (Nat.le_of_ble_eq_true rfl) ?_
  refine wp_if_eq 15 rfl rfl (fun h4 => ?_) (fun h4 => ?_)
  · refine wp_iconst (v := 1) rfl rfl ?_
    exact wp_iret rfl rfl (⟨by simp only [picF, ow]; grind [b2], rfl⟩)
  · have hv := b2_ne.mp h4
    obtain ⟨m, hm, hvm, hcl⟩ := (isM h.1 _).1 hv
    have hm14 : m < 14 := by have := h.1.1.2.2; omega
    have hsm := sh_mast m hm14
    refine wp_aload_n rfl rfl ?_
    refine q_getr rfl rfl (by first | rfl | assumption) rfl rfl ?_
    refine wp_aload_n rfl rfl ?_
    refine q_geti rfl rfl (by first | rfl | assumption) rfl ?_
    refine q_mast rfl hvm hm14 ?_
    refine wp_aload_n rfl rfl ?_
    refine cV1 rfl l_1_61 i_X4_strengthAt m_X4_strengthAt (by first | rfl | assumption) (by decide) (d_strengthAt G _ _ h hm14 ha) rfl (Nat.le_of_ble_eq_true rfl) ?_
    refine wp_aload_n rfl rfl ?_
    refine q_geti rfl rfl (by first | rfl | assumption) rfl ?_
    refine wp_icmp_ge 17 rfl rfl (fun h14 => ?_) (fun h14 => ?_)
    · refine wp_aload_n rfl rfl ?_
      refine wp_aload_n rfl rfl ?_
      refine q_geti rfl rfl (by first | rfl | assumption) rfl ?_
      refine cV1 rfl l_1_52 i_X1_isOn m_X1_isOn (by first | rfl | assumption) (by decide) (c_X1_isOn G _ _ _ _ _ h.1) rfl (Nat.le_of_ble_eq_true rfl) ?_
      refine wp_if_ne 24 rfl rfl (fun h21 => ?_) (fun h21 => ?_)
      · refine wp_aload_n rfl rfl ?_
        refine wp_aload_n rfl rfl ?_
        refine cV1 rfl l_1_82 i_X1_hurterOf m_X1_hurterOf (by first | rfl | assumption) (by decide) (c_X1_hurterOf G _ _ _ _ h ha) rfl (Nat.le_of_ble_eq_true rfl) ?_
        refine wp_iconst (v := (-1)) rfl rfl ?_
        refine wp_icmp_eq 31 rfl rfl (fun h28 => ?_) (fun h28 => ?_)
        · refine wp_aload_n rfl rfl ?_
          refine q_getr rfl rfl (by first | rfl | assumption) rfl rfl ?_
          refine wp_aload_n rfl rfl ?_
          refine q_geti rfl rfl (by first | rfl | assumption) rfl ?_
          refine q_mast rfl hvm hm14 ?_
          refine q_geti rfl rfl (by first | rfl | assumption) rfl ?_
          refine wp_if_eq 45 rfl rfl (fun h37 => ?_) (fun h37 => ?_)
          · refine wp_iconst (v := 0) rfl rfl ?_
            exact wp_iret rfl rfl (⟨by simp only [picF, ow]; grind [b2], rfl⟩)
          · refine wp_aload_n rfl rfl ?_
            refine q_geti rfl rfl (by first | rfl | assumption) rfl ?_
            refine wp_aload_n rfl rfl ?_
            refine q_geti rfl rfl (by first | rfl | assumption) rfl ?_
            refine wp_icmp_ge 45 rfl rfl (fun h42 => ?_) (fun h42 => ?_)
            · refine wp_iconst (v := 0) rfl rfl ?_
              exact wp_iret rfl rfl (⟨by simp only [picF, ow]; grind [b2], rfl⟩)
            · refine wp_iconst (v := 4) rfl rfl ?_
              refine wp_goto 46 rfl rfl ?_
              exact wp_iret rfl rfl (⟨by simp only [picF, ow]; grind [b2], rfl⟩)
        · refine wp_iconst (v := 3) rfl rfl ?_
          exact wp_iret rfl rfl (⟨by simp only [picF, ow]; grind [b2], rfl⟩)
      · refine wp_iconst (v := 2) rfl rfl ?_
        exact wp_iret rfl rfl (⟨by simp only [picF, ow]; grind [b2], rfl⟩)
    · refine wp_iconst (v := 1) rfl rfl ?_
      exact wp_iret rfl rfl (⟨by simp only [picF, ow]; grind [b2], rfl⟩)
theorem c_X11_pictureOf (G : Gl) (d : Nat) {nm na nr a : Nat} (y : Int32) (I : IF) (L : LF) (b : Bool) (h : IV nm na nr I L) (ha : a < nr) (hy : y = nI a) : MD G (d + 3) Y_X11_pictureOf [.ref 72, .int y] (I, L, RR b) (some (.int (picF I a))) (I, L, RR b) := by
  subst hy
  have hnm : nm ≤ 10 := h.1.1.2.2
  have hnr : nr ≤ 16 := h.1.2.2.2.2
  have hcl : (nI a).toNatClampNeg = a := nI_clamp (by omega)
  have hin : vp_in (nI a) 16 := vp_in_nI (by omega) (by omega)
  have z9 := (h.2.2.2.2.2.2.2.2.1 a (by omega)).1 ha
  have z8 := h.2.2.2.2.2.2.2.1 a (by omega)
  by_cases hno : I (18 + a) 6 = -1
  · have hF : picF I a = 1 := by unfold picF; rw [if_neg (by rw [hno]; exact fun z => absurd z.1.1 (by decide))]
    refine MT.intro m_X11_pictureOf rfl (Nat.le_of_ble_eq_true rfl) ?_
    show WQ G (d + 3) Y_X11_pictureOf _ 0 [(0, .ref 72), (1, .int (nI a))] [] (I, L, RR b)
    refine wp_aload_n rfl rfl ?_
    refine q_getr rfl rfl (by first | rfl | assumption) rfl rfl ?_
    refine wp_iload_n rfl rfl ?_
    refine q_iald rfl (by first | rfl | assumption) (by assumption) ?_
    refine wp_istore_n (lv' := [(2, _), (0, _), (1, _)]) rfl rfl (by decide) rfl ?_
    refine wp_iload_n rfl rfl ?_
    refine wp_iconst (v := (-1)) rfl rfl ?_
    refine wp_icmp_eq 15 rfl rfl (fun h7 => ?_) (fun h7 => ?_)
    · refine wp_iconst (v := 1) rfl rfl ?_
      exact wp_iret rfl rfl (⟨by rw [hF], rfl⟩)
    · refine wp_loc (lv' := [(0, _), (1, _), (2, _)]) [1, 2, 0] rfl ?_
      rw [hcl, z9.1] at h7; exact absurd hno h7
  · obtain ⟨o, ho, hoe⟩ := nI_get (x := I (18 + a) 6) (n := nm) (by grind) z9.2.2 (by omega)
    have how : ow I a = o := by show (I (18 + a) 6).toNatClampNeg = o; rw [hoe]; exact nI_clamp (by omega)
    have hisM : 0 ≤ I (18 + a) 6 ∧ I (18 + a) 6 < I 1 2 := by rw [h.1.1.1]; exact ⟨by grind, z9.2.2⟩
    have hclo : (nI o).toNatClampNeg = o := nI_clamp (by omega)
    have hino : vp_in (nI o) 10 := vp_in_nI (by omega) (by omega)
    have z4 := h.2.2.2.1 o (by omega)
    have hst := h.2.1.2.1
    refine MT.intro m_X11_pictureOf rfl (Nat.le_of_ble_eq_true rfl) ?_
    show WQ G (d + 3) Y_X11_pictureOf _ 0 [(0, .ref 72), (1, .int (nI a))] [] (I, L, RR b)
    refine wp_aload_n rfl rfl ?_
    refine q_getr rfl rfl (by first | rfl | assumption) rfl rfl ?_
    refine wp_iload_n rfl rfl ?_
    refine q_iald rfl (by first | rfl | assumption) (by assumption) ?_
    rw [hcl, z9.1, hoe]
    refine wp_istore_n (lv' := [(2, _), (0, _), (1, _)]) rfl rfl (by decide) rfl ?_
    refine wp_iload_n rfl rfl ?_
    refine wp_iconst (v := (-1)) rfl rfl ?_
    refine wp_icmp_eq 15 rfl rfl (fun h7 => ?_) (fun h7 => ?_)
    · exact absurd h7 (by rw [← hoe]; exact hno)
    · refine wp_aload_n rfl rfl ?_
      refine wp_iload_n rfl rfl ?_
      refine wp_iload_n rfl rfl ?_
      refine cV1 rfl l_11_172 i_X11_at m_X11_at (by first | rfl | assumption) (by decide) (d_at G _ _ h (show o < 14 by omega) (show a < 16 by omega) rfl rfl) rfl (Nat.le_of_ble_eq_true rfl) ?_
      refine wp_aload_n rfl rfl ?_
      refine q_geti rfl rfl (by first | rfl | assumption) rfl ?_
      refine wp_icmp_ge 17 rfl rfl (fun h14 => ?_) (fun h14 => ?_)
      · refine wp_aload_n rfl rfl ?_
        refine wp_iload_n rfl rfl ?_
        refine cV1 rfl l_11_341 i_X11_isOn m_X11_isOn (by first | rfl | assumption) (by decide) (c_X11_isOn G _ _ _ _ _ h (Or.inr ⟨o, ho, rfl⟩)) rfl (Nat.le_of_ble_eq_true rfl) ?_
        refine wp_if_ne 23 rfl rfl (fun h20 => ?_) (fun h20 => ?_)
        · refine wp_aload_n rfl rfl ?_
          refine wp_iload_n rfl rfl ?_
          refine cV1 rfl l_11_347 i_X11_hurtBy m_X11_hurtBy (by first | rfl | assumption) (by decide) (c_X11_hurtBy G _ _ _ _ _ h ha rfl) rfl (Nat.le_of_ble_eq_true rfl) ?_
          refine wp_iconst (v := (-1)) rfl rfl ?_
          refine wp_icmp_eq 30 rfl rfl (fun h27 => ?_) (fun h27 => ?_)
          · refine wp_aload_n rfl rfl ?_
            refine q_getr rfl rfl (by first | rfl | assumption) rfl rfl ?_
            refine wp_iload_n rfl rfl ?_
            refine q_zald rfl (by first | rfl | assumption) (by assumption) ?_
            refine wp_if_eq 46 rfl rfl (fun h34 => ?_) (fun h34 => ?_)
            · refine wp_iconst (v := 0) rfl rfl ?_
              exact wp_iret rfl rfl (⟨by simp only [picF, how]; rw [hoe] at *; (try rw [hclo] at *); (try rw [hcl] at *); grind [b2], rfl⟩)
            · refine wp_aload_n rfl rfl ?_
              refine q_getr rfl rfl (by first | rfl | assumption) rfl rfl ?_
              refine wp_iload_n rfl rfl ?_
              refine q_iald rfl (by first | rfl | assumption) (by assumption) ?_
              refine wp_aload_n rfl rfl ?_
              refine q_getr rfl rfl (by first | rfl | assumption) rfl rfl ?_
              refine wp_iload_n rfl rfl ?_
              refine q_iald rfl (by first | rfl | assumption) (by assumption) ?_
              refine wp_icmp_ge 46 rfl rfl (fun h43 => ?_) (fun h43 => ?_)
              · refine wp_iconst (v := 0) rfl rfl ?_
                exact wp_iret rfl rfl (⟨by simp only [picF, how]; rw [hoe] at *; (try rw [hclo] at *); (try rw [hcl] at *); grind [b2], rfl⟩)
              · refine wp_iconst (v := 4) rfl rfl ?_
                refine wp_goto 47 rfl rfl ?_
                exact wp_iret rfl rfl (⟨by simp only [picF, how]; rw [hoe] at *; (try rw [hclo] at *); (try rw [hcl] at *); grind [b2], rfl⟩)
          · refine wp_iconst (v := 3) rfl rfl ?_
            exact wp_iret rfl rfl (⟨by simp only [picF, how]; rw [hoe] at *; (try rw [hclo] at *); (try rw [hcl] at *); grind [b2], rfl⟩)
        · refine wp_iconst (v := 2) rfl rfl ?_
          exact wp_iret rfl rfl (⟨by simp only [picF, how]; rw [hoe] at *; (try rw [hclo] at *); (try rw [hcl] at *); grind [b2], rfl⟩)
      · refine wp_iconst (v := 1) rfl rfl ?_
        exact wp_iret rfl rfl (⟨by simp only [picF, how]; rw [hoe] at *; (try rw [hclo] at *); (try rw [hcl] at *); grind [b2], rfl⟩)
def snwF (I : IF) (a : Nat) : Int32 := if picF I a = 0 then 0 else if picF I a = 4 then I (18 + a) 2 - I (18 + a) 5 else I (18 + a) 2
theorem c_X1_snowOf (G : Gl) (d : Nat) {nm na nr a : Nat} (I : IF) (L : LF) (b : Bool) (h : IV nm na nr I L) (ha : a < 16) : MD G (d + 5) Y_X1_snowOf [.ref 1, .ref (18 + a)] (I, L, RR b) (some (.int (snwF I a))) (I, L, RR b) := by
  have hsa := sh_area a ha
  refine MT.intro m_X1_snowOf rfl (Nat.le_of_ble_eq_true rfl) ?_
  show WQ G (d + 5) Y_X1_snowOf _ 0 [(0, .ref 1), (1, .ref (18 + a))] [] (I, L, RR b)
  refine wp_aload_n rfl rfl ?_
  refine wp_aload_n rfl rfl ?_
  refine cV1 rfl l_1_94 i_X1_pictureOf m_X1_pictureOf (by first | rfl | assumption) (by decide) (c_X1_pictureOf G _ _ _ _ h ha) rfl (Nat.le_of_ble_eq_true rfl) ?_
  refine wp_istore_n (lv' := [(2, _), (0, _), (1, _)]) rfl rfl (by decide) rfl ?_
  refine wp_iload_n rfl rfl ?_
  refine wp_if_ne 8 rfl rfl (fun h5 => ?_) (fun h5 => ?_)
  · refine wp_iload_n rfl rfl ?_
    refine wp_iconst (v := 4) rfl rfl ?_
    refine wp_icmp_ne 17 rfl rfl (fun h10 => ?_) (fun h10 => ?_)
    · refine wp_aload_n rfl rfl ?_
      refine q_geti rfl rfl (by first | rfl | assumption) rfl ?_
      exact wp_iret rfl rfl (⟨by simp only [snwF]; grind, rfl⟩)
    · refine wp_aload_n rfl rfl ?_
      refine q_geti rfl rfl (by first | rfl | assumption) rfl ?_
      refine wp_aload_n rfl rfl ?_
      refine q_geti rfl rfl (by first | rfl | assumption) rfl ?_
      refine wp_isub rfl ?_
      refine wp_goto 19 rfl rfl ?_
      exact wp_iret rfl rfl (⟨by simp only [snwF]; grind, rfl⟩)
  · refine wp_iconst (v := 0) rfl rfl ?_
    exact wp_iret rfl rfl (⟨by simp only [snwF]; grind, rfl⟩)
theorem c_X11_snowOf (G : Gl) (d : Nat) {nm na nr a : Nat} (y : Int32) (I : IF) (L : LF) (b : Bool) (h : IV nm na nr I L) (ha : a < nr) (hy : y = nI a) : MD G (d + 4) Y_X11_snowOf [.ref 72, .int y] (I, L, RR b) (some (.int (snwF I a))) (I, L, RR b) := by
  subst hy
  have hnr : nr ≤ 16 := h.1.2.2.2.2
  have hcl : (nI a).toNatClampNeg = a := nI_clamp (by omega)
  have hin : vp_in (nI a) 16 := vp_in_nI (by omega) (by omega)
  have z8 := h.2.2.2.2.2.2.2.1 a (by omega)
  refine MT.intro m_X11_snowOf rfl (Nat.le_of_ble_eq_true rfl) ?_
  show WQ G (d + 4) Y_X11_snowOf _ 0 [(0, .ref 72), (1, .int (nI a))] [] (I, L, RR b)
  refine wp_aload_n rfl rfl ?_
  refine wp_iload_n rfl rfl ?_
  refine cV1 rfl l_11_350 i_X11_pictureOf m_X11_pictureOf (by first | rfl | assumption) (by decide) (c_X11_pictureOf G _ _ _ _ _ h ha rfl) rfl (Nat.le_of_ble_eq_true rfl) ?_
  refine wp_istore_n (lv' := [(2, _), (0, _), (1, _)]) rfl rfl (by decide) rfl ?_
  refine wp_iload_n rfl rfl ?_
  refine wp_if_ne 8 rfl rfl (fun h5 => ?_) (fun h5 => ?_)
  · refine wp_iload_n rfl rfl ?_
    refine wp_iconst (v := 4) rfl rfl ?_
    refine wp_icmp_ne 21 rfl rfl (fun h10 => ?_) (fun h10 => ?_)
    · refine wp_aload_n rfl rfl ?_
      refine q_getr rfl rfl (by first | rfl | assumption) rfl rfl ?_
      refine wp_iload_n rfl rfl ?_
      refine q_iald rfl (by first | rfl | assumption) (by assumption) ?_
      exact wp_iret rfl rfl (⟨by simp only [snwF]; (try rw [hcl] at *); grind, rfl⟩)
    · refine wp_aload_n rfl rfl ?_
      refine q_getr rfl rfl (by first | rfl | assumption) rfl rfl ?_
      refine wp_iload_n rfl rfl ?_
      refine q_iald rfl (by first | rfl | assumption) (by assumption) ?_
      refine wp_aload_n rfl rfl ?_
      refine q_getr rfl rfl (by first | rfl | assumption) rfl rfl ?_
      refine wp_iload_n rfl rfl ?_
      refine q_iald rfl (by first | rfl | assumption) (by assumption) ?_
      refine wp_isub rfl ?_
      refine wp_goto 25 rfl rfl ?_
      exact wp_iret rfl rfl (⟨by simp only [snwF]; (try rw [hcl] at *); grind, rfl⟩)
  · refine wp_iconst (v := 0) rfl rfl ?_
    refine wp_goto 25 rfl rfl ?_
    exact wp_iret rfl rfl (⟨by simp only [snwF]; (try rw [hcl] at *); grind, rfl⟩)
/-- these look at cells below 72 alone -/
theorem onC_cg2 {nm na nr : Nat} {I J : IF} {L : LF} (h : IV nm na nr I L) (hJ : ∀ a, a < 72 → J a = I a) (v : Int32) (hv : v < I 1 2) : onC J 10 v = onC I 10 v := by
  have h10 : I 1 2 ≤ 10 := by rw [h.1.1.1]; exact nI_le (b := 10) h.1.1.2.2 (by omega)
  refine onC_cg hJ 10 v hv h10 (fun m hm hl => ?_)
  have hmn : m < nm := (nI_ltI (by omega) (by have := h.1.1.2.2; omega)).mp (by rw [← h.1.1.1]; exact hl)
  have := h.2.2.2.2.1 m hmn
  grind
theorem ow_lt {nm na nr a : Nat} {I : IF} {L : LF} (h : IV nm na nr I L) (ha : a < nr) : ow I a < 14 := by
  have hnr : nr ≤ 16 := h.1.2.2.2.2
  have hnm : nm ≤ 10 := h.1.1.2.2
  have z9 := (h.2.2.2.2.2.2.2.2.1 a (by omega)).1 ha
  show (I (18 + a) 6).toNatClampNeg < 14
  by_cases e : I (18 + a) 6 = -1
  · rw [e, show (-1 : Int32).toNatClampNeg = 0 from rfl]; omega
  · obtain ⟨o, ho, hoe⟩ := nI_get (x := I (18 + a) 6) (n := nm) (by grind) z9.2.2 (by omega)
    rw [hoe, nI_clamp (by omega)]; omega
theorem hrtB_cg {nm na nr a s : Nat} {I J : IF} {L : LF} (h : IV nm na nr I L) (ha : a < nr) (hJ : ∀ a, a < 72 → J a = I a) (hs : s < 14) : hrtB J a s = hrtB I a s := by
  have hnr : nr ≤ 16 := h.1.2.2.2.2
  have how := ow_lt h ha
  have ea : J (18 + a) = I (18 + a) := hJ _ (by omega)
  have e1 : J 1 = I 1 := hJ _ (by omega)
  have hst : ∀ m, m < 14 → stg J m a = stg I m a := by intro m hm; unfold stg; rw [ea, hJ (4 + m) (by omega)]
  have hoo : ow J a = ow I a := by unfold ow; rw [ea]
  have hcl : cldB J a s = cldB I a s := by
    unfold cldB
    rw [hoo, ea, e1, hst s hs, hst _ how]
  unfold hrtB
  rw [hcl]
  by_cases hc : cldB I a s = true
  · have hsd : ((0 ≤ nI s ∧ nI s < I 1 2) ∨ (10 ≤ nI s ∧ nI s - 10 < I 1 3)) := by
      simp only [cldB, decide_eq_true_eq] at hc
      exact hc.1
    have e2 : chNow J (4 + s) = chNow I (4 + s) := by unfold chNow; rw [hJ (4 + s) (by omega)]
    have e3 : chNow J (4 + ow J a) = chNow I (4 + ow I a) := by
      rw [hoo]
      unfold chNow
      rw [hJ (4 + ow I a) (by omega)]
    have e4 : sndB J s = sndB I s := by
      unfold sndB
      rw [e1, hJ (4 + s) (by omega)]
      by_cases h10 : s < 10
      · rw [if_pos h10, if_pos h10]
        refine onC_cg2 h hJ _ ?_
        rcases hsd with z | z
        · exact z.2
        · have : nI s < 10 := nI_lt (b := 10) h10 (by omega)
          grind
      · rw [if_neg h10, if_neg h10]
    rw [e2, e3, e4]
  · rw [show cldB I a s = false by simpa using hc]
    simp
theorem fst1_cg {P P' : Nat → Bool} (hb : ∀ s, s < 14 → P' s = P s) : ∀ n i, i + n ≤ 14 → fst1 P' n i = fst1 P n i := by
  intro n
  induction n with
  | zero => intro i _; rfl
  | succ n ih => intro i hi; simp only [fst1]; rw [hb i (by omega), ih (i + 1) (by omega)]
theorem hurtF_cg {nm na nr a : Nat} {I J : IF} {L : LF} (h : IV nm na nr I L) (ha : a < nr) (hJ : ∀ a, a < 72 → J a = I a) : hurtF J a = hurtF I a := by
  have hnr : nr ≤ 16 := h.1.2.2.2.2
  have ea : J (18 + a) = I (18 + a) := hJ _ (by omega)
  have e1 : J 1 = I 1 := hJ _ (by omega)
  unfold hurtF
  rw [ea, e1]
  by_cases hc : 0 ≤ I (18 + a) 6 ∧ I (18 + a) 6 < I 1 2
  · rw [if_pos hc, if_pos hc]
    exact fst1_cg (fun s hs => hrtB_cg h ha hJ hs) 14 0 (by omega)
  · rw [if_neg hc, if_neg hc]
theorem picF_cg {nm na nr a : Nat} {I J : IF} {L : LF} (h : IV nm na nr I L) (ha : a < nr) (hJ : ∀ a, a < 72 → J a = I a) : picF J a = picF I a := by
  have hnr : nr ≤ 16 := h.1.2.2.2.2
  have how := ow_lt h ha
  have ea : J (18 + a) = I (18 + a) := hJ _ (by omega)
  have e1 : J 1 = I 1 := hJ _ (by omega)
  have hoo : ow J a = ow I a := by unfold ow; rw [ea]
  have hst : ∀ m, m < 14 → stg J m a = stg I m a := by intro m hm; unfold stg; rw [ea, hJ (4 + m) (by omega)]
  have z9 := (h.2.2.2.2.2.2.2.2.1 a (by omega)).1 ha
  have h1 := hurtF_cg h ha hJ
  have h2 := onC_cg2 h hJ (I (18 + a) 6) (by rw [h.1.1.1]; exact z9.2.2)
  unfold picF
  rw [hoo, ea, e1, h1, h2, hst _ how, hJ (4 + ow I a) (by omega)]
theorem snwF_cg {nm na nr a : Nat} {I J : IF} {L : LF} (h : IV nm na nr I L) (ha : a < nr) (hJ : ∀ a, a < 72 → J a = I a) : snwF J a = snwF I a := by
  have hnr : nr ≤ 16 := h.1.2.2.2.2
  have ea : J (18 + a) = I (18 + a) := hJ _ (by omega)
  have h1 := picF_cg h ha hJ
  unfold snwF
  rw [ea, h1]
theorem hurtF_thr {nm na nr a : Nat} {I : IF} {L : LF} (h : IV nm na nr I L) (ha : a < nr) : hurtF (uI I 72 0 0) a = hurtF I a ∧ picF (uI I 72 0 0) a = picF I a ∧ snwF (uI I 72 0 0) a = snwF I a := by
  have hJ : ∀ a, a < 72 → uI I 72 0 0 a = I a := fun a ha => uI_fn (by omega)
  exact ⟨hurtF_cg h ha hJ, picF_cg h ha hJ, snwF_cg h ha hJ⟩
theorem c_X10_hurt (G : Gl) (d : Nat) {nm na nr : Nat} (v : Int32) (I : IF) (L : LF) (b : Bool) (h : IV nm na nr I L) : MD G (d + 4) Y_X10_hurt [.ref 0, .int v] (I, L, RR b) (some (.int (if 0 ≤ v ∧ v < I 1 4 then hurtF I v.toNatClampNeg else -1))) (I, L, RR b) := by
  refine MT.intro m_X10_hurt rfl (Nat.le_of_ble_eq_true rfl) ?_
  show WQ G (d + 4) Y_X10_hurt _ 0 [(0, .ref 0), (1, .int v)] [] (I, L, RR b)
  refine wp_aload_n rfl rfl ?_
  refine q_getr rfl rfl (by first | rfl | assumption) rfl rfl ?_
  refine wp_iload_n rfl rfl ?_
  refine cV1 rfl l_10_163 i_X1_isArea m_X1_isArea (by first | rfl | assumption) (by decide) (c_X1_isArea G _ _ _ _ _) rfl (Nat.le_of_ble_eq_true rfl) ?_
  refine wp_if_eq 14 rfl rfl (fun h4 => ?_) (fun h4 => ?_)
  · refine wp_iconst (v := (-1)) rfl rfl ?_
    exact wp_iret rfl rfl (⟨by grind [b2], rfl⟩)
  · have hv := b2_ne.mp h4
    obtain ⟨a, ha, hva, hcl⟩ := (isAr h.1 v).1 hv
    have ha16 : a < 16 := by have := h.1.2.2.2.2; omega
    refine wp_aload_n rfl rfl ?_
    refine q_getr rfl rfl (by first | rfl | assumption) rfl rfl ?_
    refine wp_aload_n rfl rfl ?_
    refine q_getr rfl rfl (by first | rfl | assumption) rfl rfl ?_
    refine q_getr rfl rfl (by first | rfl | assumption) rfl rfl ?_
    refine wp_iload_n rfl rfl ?_
    refine q_area rfl hva ha16 ?_
    refine cV1 rfl l_10_244 i_X1_hurterOf m_X1_hurterOf (by first | rfl | assumption) (by decide) (c_X1_hurterOf G _ _ _ _ h ha16) rfl (Nat.le_of_ble_eq_true rfl) ?_
    refine wp_goto 15 rfl rfl ?_
    exact wp_iret rfl rfl (⟨by grind [b2], rfl⟩)
theorem c_X11_hurt (G : Gl) (d : Nat) {nm na nr : Nat} (v : Int32) (I : IF) (L : LF) (b : Bool) (h : IV nm na nr I L) : MD G (d + 4) Y_X11_hurt [.ref 72, .int v] (I, L, RR b) (some (.int (if 0 ≤ v ∧ v < I 1 4 then hurtF I v.toNatClampNeg else -1))) (uI I 72 0 0, L, RR b) := by
  have e0 : uI I 72 0 0 72 7 = I 72 7 := rfl
  have e := (isAr h.1 v).2
  refine MT.intro m_X11_hurt rfl (Nat.le_of_ble_eq_true rfl) ?_
  show WQ G (d + 4) Y_X11_hurt _ 0 [(0, .ref 72), (1, .int v)] [] (I, L, RR b)
  refine wp_aload_n rfl rfl ?_
  refine wp_iconst (v := 0) rfl rfl ?_
  refine q_puti rfl rfl (by first | rfl | assumption) (Or.inl rfl) rfl ?_
  refine wp_aload_n rfl rfl ?_
  refine wp_iload_n rfl rfl ?_
  refine cV1 rfl l_11_162 i_X11_isArea m_X11_isArea (by first | rfl | assumption) (by decide) (c_X11_isArea G _ _ _ _ _) rfl (Nat.le_of_ble_eq_true rfl) ?_
  refine wp_if_eq 11 rfl rfl (fun h6 => ?_) (fun h6 => ?_)
  · refine wp_iconst (v := (-1)) rfl rfl ?_
    exact wp_iret rfl rfl (⟨by rw [e0] at h6; grind [b2], rfl⟩)
  · have hv := e.mp (b2_ne.mp h6)
    obtain ⟨a, ha, hva, hcl⟩ := (isAr h.1 v).1 hv
    have hth := hurtF_thr h ha
    refine wp_aload_n rfl rfl ?_
    refine wp_iload_n rfl rfl ?_
    refine cV1 rfl l_11_347 i_X11_hurtBy m_X11_hurtBy (by first | rfl | assumption) (by decide) (c_X11_hurtBy G _ _ _ _ _ (IV_thr h) ha hva) rfl (Nat.le_of_ble_eq_true rfl) ?_
    refine wp_goto 12 rfl rfl ?_
    exact wp_iret rfl rfl (⟨by rw [e0] at h6; grind [b2], rfl⟩)
theorem s_hurt {G : Gl} {d : Nat} {I : IF} {L : LF} {b : Bool} (v : Int32) (h : InvA I L) : StepA G (d + 4) Y_X10_hurt Y_X11_hurt [.int v] I L b := by
  obtain ⟨nm, na, nr, h⟩ := h
  exact StepA.query h (c_X10_hurt G d v I L b h) (c_X11_hurt G d v I L b h)
theorem c_X10_picture (G : Gl) (d : Nat) {nm na nr : Nat} (v : Int32) (I : IF) (L : LF) (b : Bool) (h : IV nm na nr I L) : MD G (d + 5) Y_X10_picture [.ref 0, .int v] (I, L, RR b) (some (.int (if 0 ≤ v ∧ v < I 1 4 then picF I v.toNatClampNeg else -2))) (I, L, RR b) := by
  refine MT.intro m_X10_picture rfl (Nat.le_of_ble_eq_true rfl) ?_
  show WQ G (d + 5) Y_X10_picture _ 0 [(0, .ref 0), (1, .int v)] [] (I, L, RR b)
  refine wp_aload_n rfl rfl ?_
  refine q_getr rfl rfl (by first | rfl | assumption) rfl rfl ?_
  refine wp_iload_n rfl rfl ?_
  refine cV1 rfl l_10_163 i_X1_isArea m_X1_isArea (by first | rfl | assumption) (by decide) (c_X1_isArea G _ _ _ _ _) rfl (Nat.le_of_ble_eq_true rfl) ?_
  refine wp_if_eq 14 rfl rfl (fun h4 => ?_) (fun h4 => ?_)
  · refine wp_bipush (v := (-2)) rfl rfl ?_
    exact wp_iret rfl rfl (⟨by grind [b2], rfl⟩)
  · have hv := b2_ne.mp h4
    obtain ⟨a, ha, hva, hcl⟩ := (isAr h.1 v).1 hv
    have ha16 : a < 16 := by have := h.1.2.2.2.2; omega
    refine wp_aload_n rfl rfl ?_
    refine q_getr rfl rfl (by first | rfl | assumption) rfl rfl ?_
    refine wp_aload_n rfl rfl ?_
    refine q_getr rfl rfl (by first | rfl | assumption) rfl rfl ?_
    refine q_getr rfl rfl (by first | rfl | assumption) rfl rfl ?_
    refine wp_iload_n rfl rfl ?_
    refine q_area rfl hva ha16 ?_
    refine cV1 rfl l_10_238 i_X1_pictureOf m_X1_pictureOf (by first | rfl | assumption) (by decide) (c_X1_pictureOf G _ _ _ _ h ha16) rfl (Nat.le_of_ble_eq_true rfl) ?_
    refine wp_goto 15 rfl rfl ?_
    exact wp_iret rfl rfl (⟨by grind [b2], rfl⟩)
theorem c_X11_picture (G : Gl) (d : Nat) {nm na nr : Nat} (v : Int32) (I : IF) (L : LF) (b : Bool) (h : IV nm na nr I L) : MD G (d + 5) Y_X11_picture [.ref 72, .int v] (I, L, RR b) (some (.int (if 0 ≤ v ∧ v < I 1 4 then picF I v.toNatClampNeg else -2))) (uI I 72 0 0, L, RR b) := by
  have e0 : uI I 72 0 0 72 7 = I 72 7 := rfl
  have e := (isAr h.1 v).2
  refine MT.intro m_X11_picture rfl (Nat.le_of_ble_eq_true rfl) ?_
  show WQ G (d + 5) Y_X11_picture _ 0 [(0, .ref 72), (1, .int v)] [] (I, L, RR b)
  refine wp_aload_n rfl rfl ?_
  refine wp_iconst (v := 0) rfl rfl ?_
  refine q_puti rfl rfl (by first | rfl | assumption) (Or.inl rfl) rfl ?_
  refine wp_aload_n rfl rfl ?_
  refine wp_iload_n rfl rfl ?_
  refine cV1 rfl l_11_162 i_X11_isArea m_X11_isArea (by first | rfl | assumption) (by decide) (c_X11_isArea G _ _ _ _ _) rfl (Nat.le_of_ble_eq_true rfl) ?_
  refine wp_if_eq 11 rfl rfl (fun h6 => ?_) (fun h6 => ?_)
  · refine wp_bipush (v := (-2)) rfl rfl ?_
    exact wp_iret rfl rfl (⟨by rw [e0] at h6; grind [b2], rfl⟩)
  · have hv := e.mp (b2_ne.mp h6)
    obtain ⟨a, ha, hva, hcl⟩ := (isAr h.1 v).1 hv
    have hth := hurtF_thr h ha
    refine wp_aload_n rfl rfl ?_
    refine wp_iload_n rfl rfl ?_
    refine cV1 rfl l_11_350 i_X11_pictureOf m_X11_pictureOf (by first | rfl | assumption) (by decide) (c_X11_pictureOf G _ _ _ _ _ (IV_thr h) ha hva) rfl (Nat.le_of_ble_eq_true rfl) ?_
    refine wp_goto 12 rfl rfl ?_
    exact wp_iret rfl rfl (⟨by rw [e0] at h6; grind [b2], rfl⟩)
theorem s_picture {G : Gl} {d : Nat} {I : IF} {L : LF} {b : Bool} (v : Int32) (h : InvA I L) : StepA G (d + 5) Y_X10_picture Y_X11_picture [.int v] I L b := by
  obtain ⟨nm, na, nr, h⟩ := h
  exact StepA.query h (c_X10_picture G d v I L b h) (c_X11_picture G d v I L b h)
theorem c_X10_snow (G : Gl) (d : Nat) {nm na nr : Nat} (v : Int32) (I : IF) (L : LF) (b : Bool) (h : IV nm na nr I L) : MD G (d + 6) Y_X10_snow [.ref 0, .int v] (I, L, RR b) (some (.int (if 0 ≤ v ∧ v < I 1 4 then snwF I v.toNatClampNeg else -2))) (I, L, RR b) := by
  refine MT.intro m_X10_snow rfl (Nat.le_of_ble_eq_true rfl) ?_
  show WQ G (d + 6) Y_X10_snow _ 0 [(0, .ref 0), (1, .int v)] [] (I, L, RR b)
  refine wp_aload_n rfl rfl ?_
  refine q_getr rfl rfl (by first | rfl | assumption) rfl rfl ?_
  refine wp_iload_n rfl rfl ?_
  refine cV1 rfl l_10_163 i_X1_isArea m_X1_isArea (by first | rfl | assumption) (by decide) (c_X1_isArea G _ _ _ _ _) rfl (Nat.le_of_ble_eq_true rfl) ?_
  refine wp_if_eq 14 rfl rfl (fun h4 => ?_) (fun h4 => ?_)
  · refine wp_bipush (v := (-2)) rfl rfl ?_
    exact wp_iret rfl rfl (⟨by grind [b2], rfl⟩)
  · have hv := b2_ne.mp h4
    obtain ⟨a, ha, hva, hcl⟩ := (isAr h.1 v).1 hv
    have ha16 : a < 16 := by have := h.1.2.2.2.2; omega
    refine wp_aload_n rfl rfl ?_
    refine q_getr rfl rfl (by first | rfl | assumption) rfl rfl ?_
    refine wp_aload_n rfl rfl ?_
    refine q_getr rfl rfl (by first | rfl | assumption) rfl rfl ?_
    refine q_getr rfl rfl (by first | rfl | assumption) rfl rfl ?_
    refine wp_iload_n rfl rfl ?_
    refine q_area rfl hva ha16 ?_
    refine cV1 rfl l_10_241 i_X1_snowOf m_X1_snowOf (by first | rfl | assumption) (by decide) (c_X1_snowOf G _ _ _ _ h ha16) rfl (Nat.le_of_ble_eq_true rfl) ?_
    refine wp_goto 15 rfl rfl ?_
    exact wp_iret rfl rfl (⟨by grind [b2], rfl⟩)
theorem c_X11_snow (G : Gl) (d : Nat) {nm na nr : Nat} (v : Int32) (I : IF) (L : LF) (b : Bool) (h : IV nm na nr I L) : MD G (d + 6) Y_X11_snow [.ref 72, .int v] (I, L, RR b) (some (.int (if 0 ≤ v ∧ v < I 1 4 then snwF I v.toNatClampNeg else -2))) (uI I 72 0 0, L, RR b) := by
  have e0 : uI I 72 0 0 72 7 = I 72 7 := rfl
  have e := (isAr h.1 v).2
  refine MT.intro m_X11_snow rfl (Nat.le_of_ble_eq_true rfl) ?_
  show WQ G (d + 6) Y_X11_snow _ 0 [(0, .ref 72), (1, .int v)] [] (I, L, RR b)
  refine wp_aload_n rfl rfl ?_
  refine wp_iconst (v := 0) rfl rfl ?_
  refine q_puti rfl rfl (by first | rfl | assumption) (Or.inl rfl) rfl ?_
  refine wp_aload_n rfl rfl ?_
  refine wp_iload_n rfl rfl ?_
  refine cV1 rfl l_11_162 i_X11_isArea m_X11_isArea (by first | rfl | assumption) (by decide) (c_X11_isArea G _ _ _ _ _) rfl (Nat.le_of_ble_eq_true rfl) ?_
  refine wp_if_eq 11 rfl rfl (fun h6 => ?_) (fun h6 => ?_)
  · refine wp_bipush (v := (-2)) rfl rfl ?_
    exact wp_iret rfl rfl (⟨by rw [e0] at h6; grind [b2], rfl⟩)
  · have hv := e.mp (b2_ne.mp h6)
    obtain ⟨a, ha, hva, hcl⟩ := (isAr h.1 v).1 hv
    have hth := hurtF_thr h ha
    refine wp_aload_n rfl rfl ?_
    refine wp_iload_n rfl rfl ?_
    refine cV1 rfl l_11_353 i_X11_snowOf m_X11_snowOf (by first | rfl | assumption) (by decide) (c_X11_snowOf G _ _ _ _ _ (IV_thr h) ha hva) rfl (Nat.le_of_ble_eq_true rfl) ?_
    refine wp_goto 12 rfl rfl ?_
    exact wp_iret rfl rfl (⟨by rw [e0] at h6; grind [b2], rfl⟩)
theorem s_snow {G : Gl} {d : Nat} {I : IF} {L : LF} {b : Bool} (v : Int32) (h : InvA I L) : StepA G (d + 6) Y_X10_snow Y_X11_snow [.int v] I L b := by
  obtain ⟨nm, na, nr, h⟩ := h
  exact StepA.query h (c_X10_snow G d v I L b h) (c_X11_snow G d v I L b h)
