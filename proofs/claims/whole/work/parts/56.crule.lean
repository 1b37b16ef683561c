/-! the reader's parts: conditions, rules -/
theorem crd_C {G : Gl} {b : Bool} {c0 : Nat} {I0 : IF} {L : LF} {K : Nat → Int32} {P : Nat → Nat} {m n f0 d : Nat} (hk : TKS K P m n I0) (hd : 26 ≤ d) : ∀ f i o j cd J cd0 t, prC K f0 f i = some (o, j, cd) → RS b c0 I0 i cd0 J → c0 + cd0.length ≤ i → i < m → t ≤ i → WQ G (d + 1 + 1) Y_X3_readConds (RQ b c0 I0 L o j (cd0 ++ cd)) 2 [(0, .ref 46), (1, .int (nI t))] [] (J, L, RR b) := by
  have hE := hk.KE
  have hm := hk.1
  have sd := sh_drf b
  have sm : ∀ i o j cd J cd0, prs K f0 3 0 i = some (o, j, cd) → RS b c0 I0 i cd0 J → c0 + cd0.length ≤ i → i ≤ m → MQ2 G (d + 1) Y_X3_readSum [.ref 46, .int 0] (J, L, RR b) (RQ b c0 I0 L o j (cd0 ++ cd)) := fun i o j cd J cd0 h1 h2 h3 h4 => (crd (G := G) (b := b) (c0 := c0) (L := L) hk f0).2.2.2.1 0 i o j cd d J cd0 (by omega) h1 (by omega) h2 h3 h4
  intro f
  induction f with
  | zero => intro i o j cd J cd0 t h; cases h
  | succ f ih =>
    intro i o j cd J cd0 t h hR hlen hi hti
    have hkJ := hR.tks hk
    have h3 : J 47 3 = nI i := hR.2.2.1
    have hlt : ¬ (300 : Int32) ≤ nI t := nI_ge (b := 300) (by omega) (by omega)
    rcases prC_i h with ⟨c1, g1, g2⟩ | ⟨j1, c1, g1, g2⟩
    · subst g2
      refine wp_iload_n rfl rfl ?_
      refine wp_sipush (v := 300) rfl rfl ?_
      refine wp_icmp_ge 45 rfl rfl (fun h4 => absurd h4 hlt) (fun _ => ?_)
      refine wp_aload_n rfl rfl ?_
      refine q_getr rfl rfl (by first | rfl | assumption) rfl rfl ?_
      refine cV0 rfl l_3_47 i_X8_next m_X8_next (by first | rfl | assumption) (by decide) (c_X8_next G _ hi J L b hkJ h3) rfl (Nat.le_of_ble_eq_true rfl) ?_
      refine wp_aload_n rfl rfl ?_
      refine wp_iconst (v := 0) rfl rfl ?_
      refine cVr rfl l_3_65 i_X3_readSum m_X3_readSum (by first | rfl | assumption) (by decide) (sm (i + 1) _ _ _ _ cd0 g1 hR.nxt (by omega) (by omega)) rfl (Nat.le_of_ble_eq_true rfl) (fun r10 w10 hq10 => ?_)
      obtain ⟨J2, rfl, rfl, -, hf⟩ := hq10
      refine wp_if_eq 17 rfl rfl (fun _ => ?_) (fun h11 => absurd rfl h11)
      refine wp_iconst (v := 0) rfl rfl ?_
      exact wp_zret rfl rfl (by first | rfl | exact nb2 _ | assumption) (⟨J2, rfl, rfl, nofun, fun _ => hf rfl⟩)
    · have hb := prs_b hE _ _ _ _ _ _ _ g1 (by omega)
      have hb3 := hb.2.2.1 rfl
      rcases g2 with ⟨nc, e2, e3⟩ | ⟨hc, g2⟩
      · subst e2 e3
        have nc2 : ¬ (K j = -60 ∨ K j = -62 ∨ K j = -61) := nc
        refine wp_iload_n rfl rfl ?_
        refine wp_sipush (v := 300) rfl rfl ?_
        refine wp_icmp_ge 45 rfl rfl (fun h4 => absurd h4 hlt) (fun _ => ?_)
        refine wp_aload_n rfl rfl ?_
        refine q_getr rfl rfl (by first | rfl | assumption) rfl rfl ?_
        refine cV0 rfl l_3_47 i_X8_next m_X8_next (by first | rfl | assumption) (by decide) (c_X8_next G _ hi J L b hkJ h3) rfl (Nat.le_of_ble_eq_true rfl) ?_
        refine wp_aload_n rfl rfl ?_
        refine wp_iconst (v := 0) rfl rfl ?_
        refine cVr rfl l_3_65 i_X3_readSum m_X3_readSum (by first | rfl | assumption) (by decide) (sm (i + 1) _ _ _ _ cd0 g1 hR.nxt (by omega) (by omega)) rfl (Nat.le_of_ble_eq_true rfl) (fun r10 w10 hq10 => ?_)
        obtain ⟨J2, rfl, rfl, ht, -⟩ := hq10
        have hR2 := ht rfl
        refine wp_if_eq 17 rfl rfl (fun h11 => absurd h11 (by decide)) (fun _ => ?_)
        refine wp_aload_n rfl rfl ?_
        refine q_getr rfl rfl (by first | rfl | assumption) rfl rfl ?_
        refine cV1 rfl l_3_32 i_X8_kind m_X8_kind (by first | rfl | assumption) (by decide) (c_X8_kind G _ hb.2.1 J2 L b (hR2.tks hk) hR2.2.2.1) rfl (Nat.le_of_ble_eq_true rfl) ?_
        refine cS1 rfl l_3_78 s_X2_isComparison m_X2_isComparison (c_X2_isComparison G _ _ _) rfl (Nat.le_of_ble_eq_true rfl) ?_
        refine wp_if_ne 19 rfl rfl (fun h16 => absurd h16 (fun z => z (b2_f nc2))) (fun _ => ?_)
        refine wp_iconst (v := 0) rfl rfl ?_
        exact wp_zret rfl rfl (by first | rfl | exact nb2 _ | assumption) (⟨J2, rfl, rfl, nofun, fun _ => ⟨_, hR2⟩⟩)
      · have hc2 : (K j1 = -60 ∨ K j1 = -62 ∨ K j1 = -61) := hc
        have hl1 := hE.lt (isC_no hc)
        rcases g2 with ⟨c2, k1, k2⟩ | ⟨j2, c2, k1, k2⟩
        · subst k2
          refine wp_iload_n rfl rfl ?_
          refine wp_sipush (v := 300) rfl rfl ?_
          refine wp_icmp_ge 45 rfl rfl (fun h4 => absurd h4 hlt) (fun _ => ?_)
          refine wp_aload_n rfl rfl ?_
          refine q_getr rfl rfl (by first | rfl | assumption) rfl rfl ?_
          refine cV0 rfl l_3_47 i_X8_next m_X8_next (by first | rfl | assumption) (by decide) (c_X8_next G _ hi J L b hkJ h3) rfl (Nat.le_of_ble_eq_true rfl) ?_
          refine wp_aload_n rfl rfl ?_
          refine wp_iconst (v := 0) rfl rfl ?_
          refine cVr rfl l_3_65 i_X3_readSum m_X3_readSum (by first | rfl | assumption) (by decide) (sm (i + 1) _ _ _ _ cd0 g1 hR.nxt (by omega) (by omega)) rfl (Nat.le_of_ble_eq_true rfl) (fun r10 w10 hq10 => ?_)
          obtain ⟨J2, rfl, rfl, ht, -⟩ := hq10
          have hR2 := ht rfl
          refine wp_if_eq 17 rfl rfl (fun h11 => absurd h11 (by decide)) (fun _ => ?_)
          refine wp_aload_n rfl rfl ?_
          refine q_getr rfl rfl (by first | rfl | assumption) rfl rfl ?_
          refine cV1 rfl l_3_32 i_X8_kind m_X8_kind (by first | rfl | assumption) (by decide) (c_X8_kind G _ hb.2.1 J2 L b (hR2.tks hk) hR2.2.2.1) rfl (Nat.le_of_ble_eq_true rfl) ?_
          refine cS1 rfl l_3_78 s_X2_isComparison m_X2_isComparison (c_X2_isComparison G _ _ _) rfl (Nat.le_of_ble_eq_true rfl) ?_
          refine wp_if_ne 19 rfl rfl (fun _ => ?_) (fun h16 => absurd h16 (b2_ne.mpr hc2))
          refine wp_aload_n rfl rfl ?_
          refine q_getr rfl rfl (by first | rfl | assumption) rfl rfl ?_
          refine cV1 rfl l_3_32 i_X8_kind m_X8_kind (by first | rfl | assumption) (by decide) (c_X8_kind G _ hb.2.1 J2 L b (hR2.tks hk) hR2.2.2.1) rfl (Nat.le_of_ble_eq_true rfl) ?_
          refine wp_istore_n (lv' := [(2, _), (0, _), (1, _)]) rfl rfl (by decide) rfl ?_
          refine wp_aload_n rfl rfl ?_
          refine q_getr rfl rfl (by first | rfl | assumption) rfl rfl ?_
          refine cV0 rfl l_3_47 i_X8_next m_X8_next (by first | rfl | assumption) (by decide) (c_X8_next G _ hl1 J2 L b (hR2.tks hk) hR2.2.2.1) rfl (Nat.le_of_ble_eq_true rfl) ?_
          refine wp_aload_n rfl rfl ?_
          refine wp_iconst (v := 0) rfl rfl ?_
          refine cVr rfl l_3_65 i_X3_readSum m_X3_readSum (by first | rfl | assumption) (by decide) (sm (j1 + 1) _ _ _ _ _ k1 hR2.nxt (by rw [List.length_append]; omega) (by omega)) rfl (Nat.le_of_ble_eq_true rfl) (fun r28 w28 hq28 => ?_)
          obtain ⟨J3, rfl, rfl, -, hf⟩ := hq28
          refine wp_if_ne 32 rfl rfl (fun h29 => absurd h29 (fun z => z rfl)) (fun _ => ?_)
          refine wp_iconst (v := 0) rfl rfl ?_
          exact wp_zret rfl rfl (by first | rfl | exact nb2 _ | assumption) (⟨J3, rfl, rfl, nofun, fun _ => hf rfl⟩)
        · have hbb := prs_b hE _ _ _ _ _ _ _ k1 (by omega)
          have hbb3 := hbb.2.2.1 rfl
          rcases k2 with ⟨w1, c3, w2, w3⟩ | ⟨w1, w2, w3, w4⟩
          · have hl2 := hE.lv w1 (by decide)
            rw [w3, ← List.append_assoc, ← List.append_assoc, ← List.append_assoc]
            refine wp_iload_n rfl rfl ?_
            refine wp_sipush (v := 300) rfl rfl ?_
            refine wp_icmp_ge 45 rfl rfl (fun h4 => absurd h4 hlt) (fun _ => ?_)
            refine wp_aload_n rfl rfl ?_
            refine q_getr rfl rfl (by first | rfl | assumption) rfl rfl ?_
            refine cV0 rfl l_3_47 i_X8_next m_X8_next (by first | rfl | assumption) (by decide) (c_X8_next G _ hi J L b hkJ h3) rfl (Nat.le_of_ble_eq_true rfl) ?_
            refine wp_aload_n rfl rfl ?_
            refine wp_iconst (v := 0) rfl rfl ?_
            refine cVr rfl l_3_65 i_X3_readSum m_X3_readSum (by first | rfl | assumption) (by decide) (sm (i + 1) _ _ _ _ cd0 g1 hR.nxt (by omega) (by omega)) rfl (Nat.le_of_ble_eq_true rfl) (fun r10 w10 hq10 => ?_)
            obtain ⟨J2, rfl, rfl, ht, -⟩ := hq10
            have hR2 := ht rfl
            refine wp_if_eq 17 rfl rfl (fun h11 => absurd h11 (by decide)) (fun _ => ?_)
            refine wp_aload_n rfl rfl ?_
            refine q_getr rfl rfl (by first | rfl | assumption) rfl rfl ?_
            refine cV1 rfl l_3_32 i_X8_kind m_X8_kind (by first | rfl | assumption) (by decide) (c_X8_kind G _ hb.2.1 J2 L b (hR2.tks hk) hR2.2.2.1) rfl (Nat.le_of_ble_eq_true rfl) ?_
            refine cS1 rfl l_3_78 s_X2_isComparison m_X2_isComparison (c_X2_isComparison G _ _ _) rfl (Nat.le_of_ble_eq_true rfl) ?_
            refine wp_if_ne 19 rfl rfl (fun _ => ?_) (fun h16 => absurd h16 (b2_ne.mpr hc2))
            refine wp_aload_n rfl rfl ?_
            refine q_getr rfl rfl (by first | rfl | assumption) rfl rfl ?_
            refine cV1 rfl l_3_32 i_X8_kind m_X8_kind (by first | rfl | assumption) (by decide) (c_X8_kind G _ hb.2.1 J2 L b (hR2.tks hk) hR2.2.2.1) rfl (Nat.le_of_ble_eq_true rfl) ?_
            refine wp_istore_n (lv' := [(2, _), (0, _), (1, _)]) rfl rfl (by decide) rfl ?_
            refine wp_aload_n rfl rfl ?_
            refine q_getr rfl rfl (by first | rfl | assumption) rfl rfl ?_
            refine cV0 rfl l_3_47 i_X8_next m_X8_next (by first | rfl | assumption) (by decide) (c_X8_next G _ hl1 J2 L b (hR2.tks hk) hR2.2.2.1) rfl (Nat.le_of_ble_eq_true rfl) ?_
            refine wp_aload_n rfl rfl ?_
            refine wp_iconst (v := 0) rfl rfl ?_
            refine cVr rfl l_3_65 i_X3_readSum m_X3_readSum (by first | rfl | assumption) (by decide) (sm (j1 + 1) _ _ _ _ _ k1 hR2.nxt (by rw [List.length_append]; omega) (by omega)) rfl (Nat.le_of_ble_eq_true rfl) (fun r28 w28 hq28 => ?_)
            obtain ⟨J3, rfl, rfl, ht3, -⟩ := hq28
            have hR3 := ht3 rfl
            have hA := hR3.add (K j1)
            refine wp_if_ne 32 rfl rfl (fun _ => ?_) (fun h29 => absurd h29 (show ¬ bI true = 0 by decide))
            refine wp_aload_n rfl rfl ?_
            refine q_getr rfl rfl (by first | rfl | assumption) rfl rfl ?_
            refine wp_iload_n rfl rfl ?_
            refine cV0 rfl l_3_81 i_X2_add m_X2_add (by first | rfl | assumption) (by decide) (c_X2_add G _ _ J3 L b hR3.2.2.2.2.1 (by rw [List.length_append, List.length_append]; omega)) rfl (Nat.le_of_ble_eq_true rfl) ?_
            refine wp_aload_n rfl rfl ?_
            refine q_getr rfl rfl (by first | rfl | assumption) rfl rfl ?_
            refine cV1 rfl l_3_32 i_X8_kind m_X8_kind (by first | rfl | assumption) (by decide) (c_X8_kind G _ hbb.2.1 _ L b (hA.tks hk) hA.2.2.1) rfl (Nat.le_of_ble_eq_true rfl) ?_
            refine wp_bipush (v := (-105)) rfl rfl ?_
            refine wp_icmp_eq 43 rfl rfl (fun _ => ?_) (fun h40 => absurd w1 h40)
            refine wp_iinc (v := nI (t + 1)) (lv' := [(1, _), (2, _), (0, _)]) rfl rfl (nI_1 t) (by decide) rfl ?_
            refine wp_goto 2 rfl rfl ?_
            refine wp_loc (lv' := [(0, _), (1, _)]) [2, 0] rfl ?_
            exact ih j2 _ _ _ _ _ (t + 1) w2 hA (by simp only [List.length_append, List.length_singleton]; omega) hl2 (by omega)
          · subst w2 w3
            rw [w4, ← List.append_assoc, ← List.append_assoc]
            refine wp_iload_n rfl rfl ?_
            refine wp_sipush (v := 300) rfl rfl ?_
            refine wp_icmp_ge 45 rfl rfl (fun h4 => absurd h4 hlt) (fun _ => ?_)
            refine wp_aload_n rfl rfl ?_
            refine q_getr rfl rfl (by first | rfl | assumption) rfl rfl ?_
            refine cV0 rfl l_3_47 i_X8_next m_X8_next (by first | rfl | assumption) (by decide) (c_X8_next G _ hi J L b hkJ h3) rfl (Nat.le_of_ble_eq_true rfl) ?_
            refine wp_aload_n rfl rfl ?_
            refine wp_iconst (v := 0) rfl rfl ?_
            refine cVr rfl l_3_65 i_X3_readSum m_X3_readSum (by first | rfl | assumption) (by decide) (sm (i + 1) _ _ _ _ cd0 g1 hR.nxt (by omega) (by omega)) rfl (Nat.le_of_ble_eq_true rfl) (fun r10 w10 hq10 => ?_)
            obtain ⟨J2, rfl, rfl, ht, -⟩ := hq10
            have hR2 := ht rfl
            refine wp_if_eq 17 rfl rfl (fun h11 => absurd h11 (by decide)) (fun _ => ?_)
            refine wp_aload_n rfl rfl ?_
            refine q_getr rfl rfl (by first | rfl | assumption) rfl rfl ?_
            refine cV1 rfl l_3_32 i_X8_kind m_X8_kind (by first | rfl | assumption) (by decide) (c_X8_kind G _ hb.2.1 J2 L b (hR2.tks hk) hR2.2.2.1) rfl (Nat.le_of_ble_eq_true rfl) ?_
            refine cS1 rfl l_3_78 s_X2_isComparison m_X2_isComparison (c_X2_isComparison G _ _ _) rfl (Nat.le_of_ble_eq_true rfl) ?_
            refine wp_if_ne 19 rfl rfl (fun _ => ?_) (fun h16 => absurd h16 (b2_ne.mpr hc2))
            refine wp_aload_n rfl rfl ?_
            refine q_getr rfl rfl (by first | rfl | assumption) rfl rfl ?_
            refine cV1 rfl l_3_32 i_X8_kind m_X8_kind (by first | rfl | assumption) (by decide) (c_X8_kind G _ hb.2.1 J2 L b (hR2.tks hk) hR2.2.2.1) rfl (Nat.le_of_ble_eq_true rfl) ?_
            refine wp_istore_n (lv' := [(2, _), (0, _), (1, _)]) rfl rfl (by decide) rfl ?_
            refine wp_aload_n rfl rfl ?_
            refine q_getr rfl rfl (by first | rfl | assumption) rfl rfl ?_
            refine cV0 rfl l_3_47 i_X8_next m_X8_next (by first | rfl | assumption) (by decide) (c_X8_next G _ hl1 J2 L b (hR2.tks hk) hR2.2.2.1) rfl (Nat.le_of_ble_eq_true rfl) ?_
            refine wp_aload_n rfl rfl ?_
            refine wp_iconst (v := 0) rfl rfl ?_
            refine cVr rfl l_3_65 i_X3_readSum m_X3_readSum (by first | rfl | assumption) (by decide) (sm (j1 + 1) _ _ _ _ _ k1 hR2.nxt (by rw [List.length_append]; omega) (by omega)) rfl (Nat.le_of_ble_eq_true rfl) (fun r28 w28 hq28 => ?_)
            obtain ⟨J3, rfl, rfl, ht3, -⟩ := hq28
            have hR3 := ht3 rfl
            have hA := hR3.add (K j1)
            refine wp_if_ne 32 rfl rfl (fun _ => ?_) (fun h29 => absurd h29 (show ¬ bI true = 0 by decide))
            refine wp_aload_n rfl rfl ?_
            refine q_getr rfl rfl (by first | rfl | assumption) rfl rfl ?_
            refine wp_iload_n rfl rfl ?_
            refine cV0 rfl l_3_81 i_X2_add m_X2_add (by first | rfl | assumption) (by decide) (c_X2_add G _ _ J3 L b hR3.2.2.2.2.1 (by rw [List.length_append, List.length_append]; omega)) rfl (Nat.le_of_ble_eq_true rfl) ?_
            refine wp_aload_n rfl rfl ?_
            refine q_getr rfl rfl (by first | rfl | assumption) rfl rfl ?_
            refine cV1 rfl l_3_32 i_X8_kind m_X8_kind (by first | rfl | assumption) (by decide) (c_X8_kind G _ hbb.2.1 _ L b (hA.tks hk) hA.2.2.1) rfl (Nat.le_of_ble_eq_true rfl) ?_
            refine wp_bipush (v := (-105)) rfl rfl ?_
            refine wp_icmp_eq 43 rfl rfl (fun h40 => absurd h40 w1) (fun _ => ?_)
            refine wp_iconst (v := 1) rfl rfl ?_
            exact wp_zret rfl rfl (by first | rfl | exact nb2 _ | assumption) (⟨_, rfl, rfl, fun _ => hA, nofun⟩)
theorem c_X3_readConds (G : Gl) (d : Nat) {b : Bool} {c0 : Nat} {I0 : IF} {L : LF} {K : Nat → Int32} {P : Nat → Nat} {m n f0 f i j : Nat} {o : Bool} {cd : List Int32} (hk : TKS K P m n I0) (h : prC K f0 f i = some (o, j, cd)) (h3 : I0 47 3 = nI i) (h5 : I0 (drfA b) 5 = nI c0) (hc : c0 ≤ i) (hi : i < m) : MQ2 G (d + 28) Y_X3_readConds [.ref 46] (I0, L, RR b) (RQ b c0 I0 L o j cd) := by
  refine MT.intro m_X3_readConds rfl (Nat.le_of_ble_eq_true rfl) ?_
  show WQ G (d + 26 + 1 + 1) Y_X3_readConds _ 0 [(0, .ref 46)] [] (I0, L, RR b)
  refine wp_iconst (v := 0) rfl rfl ?_
  refine wp_istore_n (lv' := [(1, _), (0, _)]) rfl rfl (by decide) rfl ?_
  refine wp_loc (lv' := [(0, _), (1, _)]) [1, 0] rfl ?_
  exact crd_C (c0 := c0) hk (show 26 ≤ d + 26 by omega) f i o j cd I0 [] 0 h (RS.refl h3 h5) (by simp only [List.length_nil]; omega) hi (by omega)
theorem c_X3_readSum (G : Gl) (d : Nat) {b : Bool} {c0 : Nat} {I0 : IF} {L : LF} {K : Nat → Int32} {P : Nat → Nat} {m n f0 i j : Nat} {o : Bool} {cd : List Int32} (hk : TKS K P m n I0) (h : prs K f0 3 0 i = some (o, j, cd)) (h3 : I0 47 3 = nI i) (h5 : I0 (drfA b) 5 = nI c0) (hc : c0 ≤ i) (hi : i ≤ m) : MQ2 G (d + 27) Y_X3_readSum [.ref 46, .int 0] (I0, L, RR b) (RQ b c0 I0 L o j cd) :=
  (crd (G := G) (b := b) (c0 := c0) (L := L) hk f0).2.2.2.1 0 i o j cd (d + 26) I0 [] (by omega) h (by omega) (RS.refl h3 h5) (by simp only [List.length_nil]; omega) hi
/-! the draft -/
theorem c_X2_beginSum (G : Gl) (d : Nat) {g c : Nat} (I : IF) (L : LF) (b : Bool) (h6 : I (drfA b) 6 = nI g) (h5 : I (drfA b) 5 = nI c) (hg : g < 10) : MD G d Y_X2_beginSum [.ref (drfA b)] (I, L, RR b) none (uI I (drfA b + 2) g (nI c), L, RR b) := by
  have sd := sh_drf b
  have sdA := (sh_drfA b).2.1
  have hr := (rr_drf b).2.1
  have hlt : ¬ (10 : Int32) ≤ I (drfA b) 6 := by rw [h6]; exact nI_ge (b := 10) (by omega) (by omega)
  have hin : vp_in (I (drfA b) 6) 10 := by rw [h6]; exact vp_in_nI (by omega) (by omega)
  refine MT.intro m_X2_beginSum rfl (Nat.le_of_ble_eq_true rfl) ?_
  show WQ G d Y_X2_beginSum _ 0 [(0, .ref (drfA b))] [] (I, L, RR b)
  refine wp_aload_n rfl rfl ?_
  refine q_geti rfl rfl (by first | rfl | assumption) rfl ?_
  refine wp_bipush (v := 10) rfl rfl ?_
  refine wp_icmp_ge 11 rfl rfl (fun h3 => absurd h3 hlt) (fun _ => ?_)
  refine wp_aload_n rfl rfl ?_
  refine q_getr rfl rfl (by first | rfl | assumption) rfl hr ?_
  refine wp_aload_n rfl rfl ?_
  refine q_geti rfl rfl (by first | rfl | assumption) rfl ?_
  refine wp_aload_n rfl rfl ?_
  refine q_geti rfl rfl (by first | rfl | assumption) rfl ?_
  refine q_iast rfl (by first | rfl | assumption) (by assumption) ?_
  exact wp_vret rfl rfl (⟨rfl, by rw [h6, h5, nI_clamp (by omega)]⟩)
theorem c_X2_endSum (G : Gl) (d : Nat) {g c : Nat} (I : IF) (L : LF) (b : Bool) (h6 : I (drfA b) 6 = nI g) (h5 : I (drfA b) 5 = nI c) (hg : g < 10) : MD G d Y_X2_endSum [.ref (drfA b)] (I, L, RR b) none (uI I (drfA b + 3) g (nI c), L, RR b) := by
  have sd := sh_drf b
  have sdA := (sh_drfA b).2.2.1
  have hr := (rr_drf b).2.2.1
  have hlt : ¬ (10 : Int32) ≤ I (drfA b) 6 := by rw [h6]; exact nI_ge (b := 10) (by omega) (by omega)
  have hin : vp_in (I (drfA b) 6) 10 := by rw [h6]; exact vp_in_nI (by omega) (by omega)
  refine MT.intro m_X2_endSum rfl (Nat.le_of_ble_eq_true rfl) ?_
  show WQ G d Y_X2_endSum _ 0 [(0, .ref (drfA b))] [] (I, L, RR b)
  refine wp_aload_n rfl rfl ?_
  refine q_geti rfl rfl (by first | rfl | assumption) rfl ?_
  refine wp_bipush (v := 10) rfl rfl ?_
  refine wp_icmp_ge 11 rfl rfl (fun h3 => absurd h3 hlt) (fun _ => ?_)
  refine wp_aload_n rfl rfl ?_
  refine q_getr rfl rfl (by first | rfl | assumption) rfl hr ?_
  refine wp_aload_n rfl rfl ?_
  refine q_geti rfl rfl (by first | rfl | assumption) rfl ?_
  refine wp_aload_n rfl rfl ?_
  refine q_geti rfl rfl (by first | rfl | assumption) rfl ?_
  refine q_iast rfl (by first | rfl | assumption) (by assumption) ?_
  exact wp_vret rfl rfl (⟨rfl, by rw [h6, h5, nI_clamp (by omega)]⟩)
theorem c_X2_endGive (G : Gl) (d : Nat) {g c : Nat} (I : IF) (L : LF) (b : Bool) (h6 : I (drfA b) 6 = nI g) (h5 : I (drfA b) 5 = nI c) (hg : g < 10) : MD G d Y_X2_endGive [.ref (drfA b)] (I, L, RR b) none (uI (uI I (drfA b + 4) g (nI c)) (drfA b) 6 (nI (g + 1)), L, RR b) := by
  have sd := sh_drf b
  have sdA := (sh_drfA b).2.2.2
  have hr := (rr_drf b).2.2.2.1
  have hlt : ¬ (10 : Int32) ≤ I (drfA b) 6 := by rw [h6]; exact nI_ge (b := 10) (by omega) (by omega)
  have hin : vp_in (I (drfA b) 6) 10 := by rw [h6]; exact vp_in_nI (by omega) (by omega)
  have e2 : ∀ x v, uI I (drfA b + 4) x v (drfA b) 6 = nI g := fun x v => by rw [uI_ne (by omega)]; exact h6
  refine MT.intro m_X2_endGive rfl (Nat.le_of_ble_eq_true rfl) ?_
  show WQ G d Y_X2_endGive _ 0 [(0, .ref (drfA b))] [] (I, L, RR b)
  refine wp_aload_n rfl rfl ?_
  refine q_geti rfl rfl (by first | rfl | assumption) rfl ?_
  refine wp_bipush (v := 10) rfl rfl ?_
  refine wp_icmp_ge 17 rfl rfl (fun h3 => absurd h3 hlt) (fun _ => ?_)
  refine wp_aload_n rfl rfl ?_
  refine q_getr rfl rfl (by first | rfl | assumption) rfl hr ?_
  refine wp_aload_n rfl rfl ?_
  refine q_geti rfl rfl (by first | rfl | assumption) rfl ?_
  refine wp_aload_n rfl rfl ?_
  refine q_geti rfl rfl (by first | rfl | assumption) rfl ?_
  refine q_iast rfl (by first | rfl | assumption) (by assumption) ?_
  refine wp_aload_n rfl rfl ?_
  refine wp_dup rfl rfl ?_
  refine q_geti rfl rfl (by first | rfl | assumption) rfl ?_
  refine wp_iconst (v := 1) rfl rfl ?_
  refine wp_iadd rfl ?_
  refine q_puti rfl rfl (by first | rfl | assumption) (Or.inl rfl) rfl ?_
  exact wp_vret rfl rfl (⟨rfl, by rw [e2, h6, h5, nI_clamp (by omega), nI_1]⟩)
theorem c_X2_clear (G : Gl) (d : Nat) (I : IF) (L : LF) (b : Bool) : MD G d Y_X2_clear [.ref (drfA b)] (I, L, RR b) none (uI (uI (uI (uI I (drfA b) 5 0) (drfA b) 6 0) (drfA b) 8 0) (drfA b) 9 10000000, L, RR b) := by
  have sd := sh_drf b
  refine MT.intro m_X2_clear rfl (Nat.le_of_ble_eq_true rfl) ?_
  show WQ G d Y_X2_clear _ 0 [(0, .ref (drfA b))] [] (I, L, RR b)
  refine wp_aload_n rfl rfl ?_
  refine wp_iconst (v := 0) rfl rfl ?_
  refine q_puti rfl rfl (by first | rfl | assumption) (Or.inl rfl) rfl ?_
  refine wp_aload_n rfl rfl ?_
  refine wp_iconst (v := 0) rfl rfl ?_
  refine q_puti rfl rfl (by first | rfl | assumption) (Or.inl rfl) rfl ?_
  refine wp_aload_n rfl rfl ?_
  refine wp_iconst (v := 0) rfl rfl ?_
  refine q_puti rfl rfl (by first | rfl | assumption) (Or.inl rfl) rfl ?_
  refine wp_aload_n rfl rfl ?_
  refine wp_ldc (v := (10000000)) rfl ci_2_28 ?_
  refine q_puti rfl rfl (by first | rfl | assumption) (Or.inl rfl) rfl ?_
  exact wp_vret rfl rfl (⟨rfl, rfl⟩)
def cpf (a : Int32) (es : List RE) : Int32 := es.foldl (fun a x => if x.1 = -1 then a else if x.1 < a then x.1 else a) a
def gvs (es : List RE) : List RE := es.filter (fun x => decide (x.1 = -1))
theorem gvs_len (es : List RE) : (gvs es).length ≤ es.length := List.length_filter_le _ _
theorem gvs_g (es : List RE) (x : RE) (h : x.1 = -1) : gvs (es ++ [x]) = gvs es ++ [x] := by
  unfold gvs
  rw [List.filter_append, List.filter_cons, if_pos (by simpa using h)]
  rfl
theorem gvs_c (es : List RE) (x : RE) (h : ¬ x.1 = -1) : gvs (es ++ [x]) = gvs es := by
  unfold gvs
  rw [List.filter_append, List.filter_cons, if_neg (by simpa using h)]
  simp
theorem cpf_g (a : Int32) (es : List RE) (x : RE) (h : x.1 = -1) : cpf a (es ++ [x]) = cpf a es := by
  unfold cpf
  rw [List.foldl_append]
  simp only [List.foldl_cons, List.foldl_nil]
  rw [if_pos h]
theorem cpf_c (a : Int32) (es : List RE) (x : RE) (h : ¬ x.1 = -1) : cpf a (es ++ [x]) = if x.1 < cpf a es then x.1 else cpf a es := by
  unfold cpf
  rw [List.foldl_append]
  simp only [List.foldl_cons, List.foldl_nil]
  rw [if_neg h]
/-- rule g's steps stand in the law at e, within c steps -/
def CO (J : IF) (e c g : Nat) (x : RE) : Prop := ∃ s, s + x.2.1.length + x.2.2.length ≤ c ∧ J (e + 2) g = nI s ∧ J (e + 3) g = nI (s + x.2.1.length) ∧ J (e + 4) g = nI (s + x.2.1.length + x.2.2.length) ∧ (∀ k, k < x.2.1.length → J (e + 1) (s + k) = x.2.1.getD k 0) ∧ ∀ k, k < x.2.2.length → J (e + 1) (s + x.2.1.length + k) = x.2.2.getD k 0
theorem CO.fr {J J2 : IF} {e c c2 g : Nat} {x : RE} (h : CO J e c g x) (h2 : J2 (e + 2) g = J (e + 2) g) (h3 : J2 (e + 3) g = J (e + 3) g) (h4 : J2 (e + 4) g = J (e + 4) g) (h1 : ∀ k, k < c → J2 (e + 1) k = J (e + 1) k) (hc : c ≤ c2) : CO J2 e c2 g x := by
  obtain ⟨s, s1, s2, s3, s4, s5, s6⟩ := h
  exact ⟨s, by omega, by rw [h2]; exact s2, by rw [h3]; exact s3, by rw [h4]; exact s4, fun k hk => by rw [h1 _ (by omega)]; exact s5 k hk, fun k hk => by rw [h1 _ (by omega)]; exact s6 k hk⟩
def FR (b : Bool) (I : IF) (j : Nat) (J : IF) : Prop := (∀ a, a ≠ 47 → (a < drfA b ∨ drfA b + 4 < a) → J a = I a) ∧ (∀ k, k ≠ 3 → J 47 k = I 47 k) ∧ J 47 3 = nI j
theorem FR.tks {b : Bool} {j : Nat} {I J : IF} {K : Nat → Int32} {P : Nat → Nat} {m n : Nat} (h : FR b I j J) (hk : TKS K P m n I) : TKS K P m n J := by
  obtain ⟨r1, r2, r3⟩ := h
  obtain ⟨k1, k2, k3, k4, k5, k6⟩ := hk
  have e := drf_or b
  refine ⟨k1, k2, by rw [r2 2 (by decide)]; exact k3, by rw [r2 4 (by decide)]; exact k4, ?_, k6⟩
  rw [r1 48 (by omega) (by omega), r1 49 (by omega) (by omega)]
  exact k5
theorem FR.rs {b : Bool} {i j c : Nat} {I J J2 : IF} {cd : List Int32} (h : FR b I i J) (h2 : RS b c J j cd J2) : FR b I j J2 := by
  obtain ⟨r1, r2, r3⟩ := h
  obtain ⟨q1, q2, q3, q4, q5, q6, q7⟩ := h2
  exact ⟨fun a h1 h2 => by rw [q1 a h1 (by omega) (by omega)]; exact r1 a h1 h2, fun k hk => by rw [q2 k hk]; exact r2 k hk, q3⟩
theorem FR.nxt {b : Bool} {j : Nat} {I J : IF} (h : FR b I j J) : FR b I (j + 1) (uI J 47 3 (nI (j + 1))) := by
  obtain ⟨r1, r2, r3⟩ := h
  exact ⟨fun a h1 h2 => by rw [uI_fn h1]; exact r1 a h1 h2, fun k hk => by rw [uI_nk hk]; exact r2 k hk, uI_eq⟩
theorem FR.up {b : Bool} {j q k : Nat} {v : Int32} {I J : IF} (h : FR b I j J) (hq : q ≤ 4) : FR b I j (uI J (drfA b + q) k v) := by
  obtain ⟨r1, r2, r3⟩ := h
  have e := drf_or b
  exact ⟨fun a h1 h2 => by rw [uI_fn (by omega)]; exact r1 a h1 h2, fun k hk => by rw [uI_ne (by omega)]; exact r2 k hk, by rw [uI_ne (by omega)]; exact r3⟩
/-- the draft holds the rules es, in c steps; at token j -/
def DR (b : Bool) (I : IF) (c j r : Nat) (es : List RE) (J : IF) : Prop := FR b I j J ∧ J (drfA b) 5 = nI c ∧ c ≤ j ∧ J (drfA b) 6 = nI (gvs es).length ∧ J (drfA b) 8 = nI r ∧ J (drfA b) 9 = cpf 10000000 es ∧ ∀ g x, (gvs es)[g]? = some x → CO J (drfA b) c g x
theorem DR.give {b : Bool} {I J J3 J5 : IF} {c i j1 j2 r : Nat} {es : List RE} {c1 c2 : List Int32} (h : DR b I c i r es J) (h3 : RS b c (uI (uI J 47 3 (nI (i + 1))) (drfA b + 2) (gvs es).length (nI c)) j1 c1 J3) (h5 : RS b (c + c1.length) (uI J3 (drfA b + 3) (gvs es).length (nI (c + c1.length))) j2 c2 J5) (hl : c + c1.length + c2.length ≤ j2) : DR b I (c + c1.length + c2.length) j2 r (es ++ [(-1, c1, c2)]) (uI (uI J5 (drfA b + 4) (gvs es).length (nI (c + c1.length + c2.length))) (drfA b) 6 (nI ((gvs es).length + 1))) := by
  obtain ⟨f0, d5, dc, d6, d8, d9, dco⟩ := h
  have e := drf_or b
  have f1 := (f0.nxt).up (q := 2) (k := (gvs es).length) (v := nI c) (by omega)
  have f3 := f1.rs h3
  have f4 := f3.up (q := 3) (k := (gvs es).length) (v := nI (c + c1.length)) (by omega)
  have f5 := f4.rs h5
  have f6 := (f5.up (q := 4) (k := (gvs es).length) (v := nI (c + c1.length + c2.length)) (by omega)).up (q := 0) (k := 6) (v := nI ((gvs es).length + 1)) (by omega)
  obtain ⟨p1, p2, p3, p4, p5, p6, p7⟩ := h3
  obtain ⟨q1, q2, q3, q4, q5, q6, q7⟩ := h5
  generalize hg : (gvs es).length = g at *
  have fe : ∀ k, k ≠ 5 → J5 (drfA b) k = J (drfA b) k := fun k hk => by
    rw [q4 k hk, uI_ne (by omega), p4 k hk, uI_ne (by omega), uI_ne (by omega)]
  have ge : (gvs (es ++ [((-1 : Int32), c1, c2)])) = gvs es ++ [(-1, c1, c2)] := gvs_g _ _ rfl
  have a2 : ∀ k, J5 (drfA b + 2) k = uI (uI J 47 3 (nI (i + 1))) (drfA b + 2) g (nI c) (drfA b + 2) k := fun k => by
    rw [q1 _ (by omega) (by omega) (by omega), uI_ne (by omega), p1 _ (by omega) (by omega) (by omega)]
  have a3 : ∀ k, J5 (drfA b + 3) k = uI J3 (drfA b + 3) g (nI (c + c1.length)) (drfA b + 3) k := fun k => by
    rw [q1 _ (by omega) (by omega) (by omega)]
  have a4 : ∀ k, J5 (drfA b + 4) k = J (drfA b + 4) k := fun k => by
    rw [q1 _ (by omega) (by omega) (by omega), uI_ne (by omega), p1 _ (by omega) (by omega) (by omega), uI_ne (by omega), uI_ne (by omega)]
  have a1 : ∀ k, k < c + c1.length → J5 (drfA b + 1) k = J3 (drfA b + 1) k := fun k hk => by rw [q6 k hk, uI_ne (by omega)]
  refine ⟨f6, ?_, hl, ?_, ?_, ?_, ?_⟩
  · rw [uI_nk (by decide), uI_ne (by omega)]; exact q5
  · rw [uI_eq, ge, List.length_append, hg]; rfl
  · rw [uI_nk (by decide), uI_ne (by omega), fe 8 (by decide)]; exact d8
  · rw [uI_nk (by decide), uI_ne (by omega), fe 9 (by decide), cpf_g _ _ _ rfl]; exact d9
  · intro g2 x hx
    rw [ge] at hx
    rcases Nat.lt_or_ge g2 g with hlt | hge
    · rw [List.getElem?_append_left (by omega)] at hx
      refine (dco g2 x hx).fr ?_ ?_ ?_ ?_ (by omega)
      · rw [uI_ne (by omega), uI_ne (by omega), a2, uI_nk (by omega), uI_ne (by omega)]
      · rw [uI_ne (by omega), uI_ne (by omega), a3, uI_nk (by omega), p1 _ (by omega) (by omega) (by omega), uI_ne (by omega), uI_ne (by omega)]
      · rw [uI_ne (by omega), uI_nk (by omega), a4]
      · intro k hk
        rw [uI_ne (by omega), uI_ne (by omega), a1 k (by omega), p6 k hk, uI_ne (by omega), uI_ne (by omega)]
    · rw [List.getElem?_append_right (by omega), hg] at hx
      have e0 : g2 - g = 0 := by
        cases hz : g2 - g with
        | zero => rfl
        | succ z => rw [hz] at hx; cases hx
      rw [e0] at hx
      cases hx
      have eg : g2 = g := by omega
      subst eg
      refine ⟨c, Nat.le_refl _, ?_, ?_, ?_, ?_, ?_⟩
      · rw [uI_ne (by omega), uI_ne (by omega), a2, uI_eq]
      · rw [uI_ne (by omega), uI_ne (by omega), a3, uI_eq]
      · rw [uI_ne (by omega), uI_eq]
      · intro k hk
        have hk : k < c1.length := hk
        rw [uI_ne (by omega), uI_ne (by omega), a1 _ (by omega)]
        exact p7 k hk
      · intro k hk
        have hk : k < c2.length := hk
        rw [uI_ne (by omega), uI_ne (by omega)]
        exact q7 k hk
def GQ (b : Bool) (I : IF) (L : LF) (o : Bool) (c j r : Nat) (es : List RE) (v : Option Value) (w : mW) : Prop := ∃ J, v = some (.int (bI o)) ∧ w = (J, L, RR b) ∧ (o = true → DR b I c j r es J) ∧ (o = false → FR b I j J)
theorem c_give_1 (G : Gl) (d : Nat) {b : Bool} {c i j r : Nat} {I J : IF} {L : LF} {K : Nat → Int32} {P : Nat → Nat} {m n f0 : Nat} {es : List RE} {c1 : List Int32} (hk : TKS K P m n I) (hD : DR b I c i r es J) (hes : es.length < 10) (h1 : K i = -102) (h2 : prs K f0 3 0 (i + 1) = some (false, j, c1)) : MQ2 G (d + 29) Y_X3_readGive [.ref 46] (J, L, RR b) (GQ b I L false c j r es) := by
  obtain ⟨f, d5, dc, d6, d8, d9, dco⟩ := id hD
  have hl := hk.KE.lv h1 (by decide)
  have hgl := gvs_len es
  have e := drf_or b
  have sd := sh_drf b
  have f1 := (f.nxt).up (q := 2) (k := (gvs es).length) (v := nI c) (by omega)
  have hs := c_X3_readSum G (d + 1) (L := L) (b := b) (f1.tks hk) h2 f1.2.2 (c0 := c) (by rw [uI_ne (by omega), uI_ne (by omega)]; exact d5) (by omega) (by omega)
  refine MT.intro m_X3_readGive rfl (Nat.le_of_ble_eq_true rfl) ?_
  show WQ G (d + 29) Y_X3_readGive _ 0 [(0, .ref 46)] [] (J, L, RR b)
  refine wp_aload_n rfl rfl ?_
  refine q_getr rfl rfl (by first | rfl | assumption) rfl rfl ?_
  refine cV0 rfl l_3_47 i_X8_next m_X8_next (by first | rfl | assumption) (by decide) (c_X8_next G _ hl J L b (f.tks hk) f.2.2) rfl (Nat.le_of_ble_eq_true rfl) ?_
  refine wp_aload_n rfl rfl ?_
  refine q_getr rfl rfl (by first | rfl | assumption) rfl rfl ?_
  refine cV0 rfl l_3_62 i_X2_beginSum m_X2_beginSum (by first | rfl | assumption) (by decide) (c_X2_beginSum G _ _ L b (g := (gvs es).length) (c := c) (by rw [uI_ne (by omega)]; exact d6) (by rw [uI_ne (by omega)]; exact d5) (by omega)) rfl (Nat.le_of_ble_eq_true rfl) ?_
  refine wp_aload_n rfl rfl ?_
  refine wp_iconst (v := 0) rfl rfl ?_
  refine cVr rfl l_3_65 i_X3_readSum m_X3_readSum (by first | rfl | assumption) (by decide) (hs) rfl (Nat.le_of_ble_eq_true rfl) (fun r8 w8 hq8 => ?_)
  obtain ⟨J2, rfl, rfl, -, hf⟩ := hq8
  obtain ⟨cd', hf⟩ := hf rfl
  refine wp_if_ne 12 rfl rfl (fun h9 => absurd h9 (fun z => z rfl)) (fun _ => ?_)
  refine wp_iconst (v := 0) rfl rfl ?_
  exact wp_zret rfl rfl (by first | rfl | exact nb2 _ | assumption) (⟨J2, rfl, rfl, nofun, fun _ => f1.rs hf⟩)
theorem c_give_2 (G : Gl) (d : Nat) {b : Bool} {c i j j1 r : Nat} {I J : IF} {L : LF} {K : Nat → Int32} {P : Nat → Nat} {m n f0 : Nat} {es : List RE} {c1 c2 : List Int32} (hk : TKS K P m n I) (hD : DR b I c i r es J) (hes : es.length < 10) (h1 : K i = -102) (h2 : prs K f0 3 0 (i + 1) = some (true, j1, c1)) (h4 : K j1 = -104) (h5 : prC K f0 f0 j1 = some (false, j, c2)) : MQ2 G (d + 29) Y_X3_readGive [.ref 46] (J, L, RR b) (GQ b I L false c j r es) := by
  obtain ⟨f, d5, dc, d6, d8, d9, dco⟩ := id hD
  have hE := hk.KE
  have hl := hE.lv h1 (by decide)
  have hl1 := hE.lv h4 (by decide)
  have hgl := gvs_len es
  have e := drf_or b
  have sd := sh_drf b
  have f1 := (f.nxt).up (q := 2) (k := (gvs es).length) (v := nI c) (by omega)
  have hb := prs_b hE _ _ _ _ _ _ _ h2 (by omega)
  have hb3 := hb.2.2.1 rfl
  have hs := c_X3_readSum G (d + 1) (L := L) (b := b) (f1.tks hk) h2 f1.2.2 (c0 := c) (by rw [uI_ne (by omega), uI_ne (by omega)]; exact d5) (by omega) (by omega)
  refine MT.intro m_X3_readGive rfl (Nat.le_of_ble_eq_true rfl) ?_
  show WQ G (d + 29) Y_X3_readGive _ 0 [(0, .ref 46)] [] (J, L, RR b)
  refine wp_aload_n rfl rfl ?_
  refine q_getr rfl rfl (by first | rfl | assumption) rfl rfl ?_
  refine cV0 rfl l_3_47 i_X8_next m_X8_next (by first | rfl | assumption) (by decide) (c_X8_next G _ hl J L b (f.tks hk) f.2.2) rfl (Nat.le_of_ble_eq_true rfl) ?_
  refine wp_aload_n rfl rfl ?_
  refine q_getr rfl rfl (by first | rfl | assumption) rfl rfl ?_
  refine cV0 rfl l_3_62 i_X2_beginSum m_X2_beginSum (by first | rfl | assumption) (by decide) (c_X2_beginSum G _ _ L b (g := (gvs es).length) (c := c) (by rw [uI_ne (by omega)]; exact d6) (by rw [uI_ne (by omega)]; exact d5) (by omega)) rfl (Nat.le_of_ble_eq_true rfl) ?_
  refine wp_aload_n rfl rfl ?_
  refine wp_iconst (v := 0) rfl rfl ?_
  refine cVr rfl l_3_65 i_X3_readSum m_X3_readSum (by first | rfl | assumption) (by decide) (hs) rfl (Nat.le_of_ble_eq_true rfl) (fun r8 w8 hq8 => ?_)
  obtain ⟨J3, rfl, rfl, ht, -⟩ := hq8
  have r3 := ht rfl
  have f3 := f1.rs r3
  have f4 := f3.up (q := 3) (k := (gvs es).length) (v := nI (c + c1.length)) (by omega)
  have hc := c_X3_readConds G d (L := L) (b := b) (f4.tks hk) h5 f4.2.2 (c0 := c + c1.length) (by rw [uI_ne (by omega)]; exact r3.2.2.2.2.1) (by omega) hl1
  refine wp_if_ne 12 rfl rfl (fun _ => ?_) (fun h9 => absurd h9 (show ¬ bI true = 0 by decide))
  refine wp_aload_n rfl rfl ?_
  refine q_getr rfl rfl (by first | rfl | assumption) rfl rfl ?_
  refine cV0 rfl l_3_69 i_X2_endSum m_X2_endSum (by first | rfl | assumption) (by decide) (c_X2_endSum G _ _ L b (g := (gvs es).length) (c := c + c1.length) (by rw [r3.2.2.2.1 6 (by decide), uI_ne (by omega), uI_ne (by omega)]; exact d6) r3.2.2.2.2.1 (by omega)) rfl (Nat.le_of_ble_eq_true rfl) ?_
  refine wp_aload_n rfl rfl ?_
  refine q_getr rfl rfl (by first | rfl | assumption) rfl rfl ?_
  refine cV1 rfl l_3_32 i_X8_kind m_X8_kind (by first | rfl | assumption) (by decide) (c_X8_kind G _ hb.2.1 _ L b (f4.tks hk) f4.2.2) rfl (Nat.le_of_ble_eq_true rfl) ?_
  refine wp_bipush (v := (-104)) rfl rfl ?_
  refine wp_icmp_ne 25 rfl rfl (fun h19 => absurd h4 h19) (fun _ => ?_)
  refine wp_aload_n rfl rfl ?_
  refine cVr rfl l_3_72 i_X3_readConds m_X3_readConds (by first | rfl | assumption) (by decide) (hc) rfl (Nat.le_of_ble_eq_true rfl) (fun r21 w21 hq21 => ?_)
  obtain ⟨J5, rfl, rfl, -, hf⟩ := hq21
  obtain ⟨cd', hf⟩ := hf rfl
  refine wp_if_ne 25 rfl rfl (fun h22 => absurd h22 (fun z => z rfl)) (fun _ => ?_)
  refine wp_iconst (v := 0) rfl rfl ?_
  exact wp_zret rfl rfl (by first | rfl | exact nb2 _ | assumption) (⟨J5, rfl, rfl, nofun, fun _ => f4.rs hf⟩)
theorem c_give_3 (G : Gl) (d : Nat) {b : Bool} {c i j j1 r : Nat} {I J : IF} {L : LF} {K : Nat → Int32} {P : Nat → Nat} {m n f0 : Nat} {es : List RE} {c1 c2 : List Int32} (hk : TKS K P m n I) (hD : DR b I c i r es J) (hes : es.length < 10) (h1 : K i = -102) (h2 : prs K f0 3 0 (i + 1) = some (true, j1, c1)) (h5 : (K j1 = -104 ∧ prC K f0 f0 j1 = some (true, j, c2)) ∨ (¬ K j1 = -104 ∧ j = j1 ∧ c2 = [])) : MQ2 G (d + 29) Y_X3_readGive [.ref 46] (J, L, RR b) (GQ b I L true (c + c1.length + c2.length) j r (es ++ [(-1, c1, c2)])) := by
  obtain ⟨f, d5, dc, d6, d8, d9, dco⟩ := id hD
  have hE := hk.KE
  have hl := hE.lv h1 (by decide)
  have hgl := gvs_len es
  have e := drf_or b
  have sd := sh_drf b
  have f1 := (f.nxt).up (q := 2) (k := (gvs es).length) (v := nI c) (by omega)
  have hb := prs_b hE _ _ _ _ _ _ _ h2 (by omega)
  have hb3 := hb.2.2.1 rfl
  have hs := c_X3_readSum G (d + 1) (L := L) (b := b) (f1.tks hk) h2 f1.2.2 (c0 := c) (by rw [uI_ne (by omega), uI_ne (by omega)]; exact d5) (by omega) (by omega)
  have K25 : ∀ J3 J5, RS b c (uI (uI J 47 3 (nI (i + 1))) (drfA b + 2) (gvs es).length (nI c)) j1 c1 J3 → RS b (c + c1.length) (uI J3 (drfA b + 3) (gvs es).length (nI (c + c1.length))) j c2 J5 → c + c1.length + c2.length ≤ j → WQ G (d + 29) Y_X3_readGive (GQ b I L true (c + c1.length + c2.length) j r (es ++ [(-1, c1, c2)])) 25 [(0, .ref 46)] [] (J5, L, RR b) := by
    intro J3 J5 r3 r5 hlen
    have hfin := hD.give r3 r5 hlen
    have e6 : J5 (drfA b) 6 = nI (gvs es).length := by rw [r5.2.2.2.1 6 (by decide), uI_ne (by omega), r3.2.2.2.1 6 (by decide), uI_ne (by omega), uI_ne (by omega)]; exact d6
    refine wp_aload_n rfl rfl ?_
    refine q_getr rfl rfl (by first | rfl | assumption) rfl rfl ?_
    refine cV0 rfl l_3_75 i_X2_endGive m_X2_endGive (by first | rfl | assumption) (by decide) (c_X2_endGive G _ _ L b (g := (gvs es).length) (c := c + c1.length + c2.length) e6 r5.2.2.2.2.1 (by omega)) rfl (Nat.le_of_ble_eq_true rfl) ?_
    refine wp_iconst (v := 1) rfl rfl ?_
    exact wp_zret rfl rfl (by first | rfl | exact nb2 _ | assumption) (⟨_, rfl, rfl, fun _ => hfin, nofun⟩)
  rcases h5 with ⟨h4, h5⟩ | ⟨h4, e1, e2⟩
  · have hl1 := hE.lv h4 (by decide)
    have hbc := prC_b hE _ _ _ _ _ h5 hl1
    have hbc3 := hbc.2.2 rfl
    refine MT.intro m_X3_readGive rfl (Nat.le_of_ble_eq_true rfl) ?_
    show WQ G (d + 29) Y_X3_readGive _ 0 [(0, .ref 46)] [] (J, L, RR b)
    refine wp_aload_n rfl rfl ?_
    refine q_getr rfl rfl (by first | rfl | assumption) rfl rfl ?_
    refine cV0 rfl l_3_47 i_X8_next m_X8_next (by first | rfl | assumption) (by decide) (c_X8_next G _ hl J L b (f.tks hk) f.2.2) rfl (Nat.le_of_ble_eq_true rfl) ?_
    refine wp_aload_n rfl rfl ?_
    refine q_getr rfl rfl (by first | rfl | assumption) rfl rfl ?_
    refine cV0 rfl l_3_62 i_X2_beginSum m_X2_beginSum (by first | rfl | assumption) (by decide) (c_X2_beginSum G _ _ L b (g := (gvs es).length) (c := c) (by rw [uI_ne (by omega)]; exact d6) (by rw [uI_ne (by omega)]; exact d5) (by omega)) rfl (Nat.le_of_ble_eq_true rfl) ?_
    refine wp_aload_n rfl rfl ?_
    refine wp_iconst (v := 0) rfl rfl ?_
    refine cVr rfl l_3_65 i_X3_readSum m_X3_readSum (by first | rfl | assumption) (by decide) (hs) rfl (Nat.le_of_ble_eq_true rfl) (fun r8 w8 hq8 => ?_)
    obtain ⟨J3, rfl, rfl, ht, -⟩ := hq8
    have r3 := ht rfl
    have f3 := f1.rs r3
    have f4 := f3.up (q := 3) (k := (gvs es).length) (v := nI (c + c1.length)) (by omega)
    have hc := c_X3_readConds G d (L := L) (b := b) (f4.tks hk) h5 f4.2.2 (c0 := c + c1.length) (by rw [uI_ne (by omega)]; exact r3.2.2.2.2.1) (by omega) hl1
    refine wp_if_ne 12 rfl rfl (fun _ => ?_) (fun h9 => absurd h9 (show ¬ bI true = 0 by decide))
    refine wp_aload_n rfl rfl ?_
    refine q_getr rfl rfl (by first | rfl | assumption) rfl rfl ?_
    refine cV0 rfl l_3_69 i_X2_endSum m_X2_endSum (by first | rfl | assumption) (by decide) (c_X2_endSum G _ _ L b (g := (gvs es).length) (c := c + c1.length) (by rw [r3.2.2.2.1 6 (by decide), uI_ne (by omega), uI_ne (by omega)]; exact d6) r3.2.2.2.2.1 (by omega)) rfl (Nat.le_of_ble_eq_true rfl) ?_
    refine wp_aload_n rfl rfl ?_
    refine q_getr rfl rfl (by first | rfl | assumption) rfl rfl ?_
    refine cV1 rfl l_3_32 i_X8_kind m_X8_kind (by first | rfl | assumption) (by decide) (c_X8_kind G _ hb.2.1 _ L b (f4.tks hk) f4.2.2) rfl (Nat.le_of_ble_eq_true rfl) ?_
    refine wp_bipush (v := (-104)) rfl rfl ?_
    refine wp_icmp_ne 25 rfl rfl (fun h19 => absurd h4 h19) (fun _ => ?_)
    refine wp_aload_n rfl rfl ?_
    refine cVr rfl l_3_72 i_X3_readConds m_X3_readConds (by first | rfl | assumption) (by decide) (hc) rfl (Nat.le_of_ble_eq_true rfl) (fun r21 w21 hq21 => ?_)
    obtain ⟨J5, rfl, rfl, ht5, -⟩ := hq21
    refine wp_if_ne 25 rfl rfl (fun _ => ?_) (fun h22 => absurd h22 (show ¬ bI true = 0 by decide))
    exact K25 J3 J5 r3 (ht5 rfl) (by omega)
  · subst e1 e2
    refine MT.intro m_X3_readGive rfl (Nat.le_of_ble_eq_true rfl) ?_
    show WQ G (d + 29) Y_X3_readGive _ 0 [(0, .ref 46)] [] (J, L, RR b)
    refine wp_aload_n rfl rfl ?_
    refine q_getr rfl rfl (by first | rfl | assumption) rfl rfl ?_
    refine cV0 rfl l_3_47 i_X8_next m_X8_next (by first | rfl | assumption) (by decide) (c_X8_next G _ hl J L b (f.tks hk) f.2.2) rfl (Nat.le_of_ble_eq_true rfl) ?_
    refine wp_aload_n rfl rfl ?_
    refine q_getr rfl rfl (by first | rfl | assumption) rfl rfl ?_
    refine cV0 rfl l_3_62 i_X2_beginSum m_X2_beginSum (by first | rfl | assumption) (by decide) (c_X2_beginSum G _ _ L b (g := (gvs es).length) (c := c) (by rw [uI_ne (by omega)]; exact d6) (by rw [uI_ne (by omega)]; exact d5) (by omega)) rfl (Nat.le_of_ble_eq_true rfl) ?_
    refine wp_aload_n rfl rfl ?_
    refine wp_iconst (v := 0) rfl rfl ?_
    refine cVr rfl l_3_65 i_X3_readSum m_X3_readSum (by first | rfl | assumption) (by decide) (hs) rfl (Nat.le_of_ble_eq_true rfl) (fun r8 w8 hq8 => ?_)
    obtain ⟨J3, rfl, rfl, ht, -⟩ := hq8
    have r3 := ht rfl
    have f3 := f1.rs r3
    have f4 := f3.up (q := 3) (k := (gvs es).length) (v := nI (c + c1.length)) (by omega)
    refine wp_if_ne 12 rfl rfl (fun _ => ?_) (fun h9 => absurd h9 (show ¬ bI true = 0 by decide))
    refine wp_aload_n rfl rfl ?_
    refine q_getr rfl rfl (by first | rfl | assumption) rfl rfl ?_
    refine cV0 rfl l_3_69 i_X2_endSum m_X2_endSum (by first | rfl | assumption) (by decide) (c_X2_endSum G _ _ L b (g := (gvs es).length) (c := c + c1.length) (by rw [r3.2.2.2.1 6 (by decide), uI_ne (by omega), uI_ne (by omega)]; exact d6) r3.2.2.2.2.1 (by omega)) rfl (Nat.le_of_ble_eq_true rfl) ?_
    refine wp_aload_n rfl rfl ?_
    refine q_getr rfl rfl (by first | rfl | assumption) rfl rfl ?_
    refine cV1 rfl l_3_32 i_X8_kind m_X8_kind (by first | rfl | assumption) (by decide) (c_X8_kind G _ hb.2.1 _ L b (f4.tks hk) f4.2.2) rfl (Nat.le_of_ble_eq_true rfl) ?_
    refine wp_bipush (v := (-104)) rfl rfl ?_
    refine wp_icmp_ne 25 rfl rfl (fun _ => ?_) (fun h19 => absurd h19 h4)
    exact K25 J3 _ r3 (RS.refl f4.2.2 (by rw [uI_ne (by omega)]; exact r3.2.2.2.2.1)) (by simp only [List.length_nil]; omega)
