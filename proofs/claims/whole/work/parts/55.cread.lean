/-! the reader's parts: sums -/
theorem drf_or (b : Bool) : drfA b = 50 ∨ drfA b = 66 := by cases b <;> simp [drfA]
theorem rr_drf (b : Bool) : RR b (drfA b) 0 = some (drfA b + 1) ∧ RR b (drfA b) 1 = some (drfA b + 2) ∧ RR b (drfA b) 2 = some (drfA b + 3) ∧ RR b (drfA b) 3 = some (drfA b + 4) ∧ RR b (drfA b) 4 = some (drfA b + 5) := by cases b <;> exact ⟨rfl, rfl, rfl, rfl, rfl⟩
theorem sh_drfA (b : Bool) : shp NN (drfA b + 1) = some (.inl (0, 300)) ∧ shp NN (drfA b + 2) = some (.inl (0, 10)) ∧ shp NN (drfA b + 3) = some (.inl (0, 10)) ∧ shp NN (drfA b + 4) = some (.inl (0, 10)) := by cases b <;> exact ⟨rfl, rfl, rfl, rfl⟩
def bI : Bool → Int32
  | true => 1
  | false => 0
/-- since I: token j, and steps cd behind c others -/
def RS (b : Bool) (c : Nat) (I : IF) (j : Nat) (cd : List Int32) (J : IF) : Prop := (∀ a, a ≠ 47 → a ≠ drfA b → a ≠ drfA b + 1 → J a = I a) ∧ (∀ k, k ≠ 3 → J 47 k = I 47 k) ∧ J 47 3 = nI j ∧ (∀ k, k ≠ 5 → J (drfA b) k = I (drfA b) k) ∧ J (drfA b) 5 = nI (c + cd.length) ∧ (∀ k, k < c → J (drfA b + 1) k = I (drfA b + 1) k) ∧ ∀ k, k < cd.length → J (drfA b + 1) (c + k) = cd.getD k 0
theorem RS.tks {b : Bool} {c j : Nat} {I J : IF} {cd : List Int32} {K : Nat → Int32} {P : Nat → Nat} {m n : Nat} (h : RS b c I j cd J) (hk : TKS K P m n I) : TKS K P m n J := by
  obtain ⟨r1, r2, r3, r4, r5, r6, r7⟩ := h
  obtain ⟨k1, k2, k3, k4, k5, k6⟩ := hk
  have e := drf_or b
  refine ⟨k1, k2, by rw [r2 2 (by decide)]; exact k3, by rw [r2 4 (by decide)]; exact k4, ?_, k6⟩
  rw [r1 48 (by omega) (by omega) (by omega), r1 49 (by omega) (by omega) (by omega)]
  exact k5
theorem RS.nxt {b : Bool} {c j : Nat} {I J : IF} {cd : List Int32} (h : RS b c I j cd J) : RS b c I (j + 1) cd (uI J 47 3 (nI (j + 1))) := by
  obtain ⟨r1, r2, r3, r4, r5, r6, r7⟩ := h
  have e := drf_or b
  have e1 : uI J 47 3 (nI (j + 1)) (drfA b) = J (drfA b) := uI_fn (by omega)
  have e2 : uI J 47 3 (nI (j + 1)) (drfA b + 1) = J (drfA b + 1) := uI_fn (by omega)
  refine ⟨fun a h1 h2 h3 => by rw [uI_fn h1]; exact r1 a h1 h2 h3, fun k hk => by rw [uI_nk hk]; exact r2 k hk, uI_eq, ?_, ?_, ?_, ?_⟩
  · rw [e1]; exact r4
  · rw [e1]; exact r5
  · rw [e2]; exact r6
  · rw [e2]; exact r7
theorem getD_app {cd : List Int32} {s : Int32} {k : Nat} (h : k < cd.length) : (cd ++ [s]).getD k 0 = cd.getD k 0 := by
  rw [List.getD_eq_getElem?_getD, List.getD_eq_getElem?_getD, List.getElem?_append_left h]
theorem getD_last {cd : List Int32} {s : Int32} : (cd ++ [s]).getD cd.length 0 = s := by
  rw [List.getD_eq_getElem?_getD, List.getElem?_append_right (Nat.le_refl _), Nat.sub_self]
  rfl
theorem RS.add {b : Bool} {c j : Nat} {I J : IF} {cd : List Int32} (s : Int32) (h : RS b c I j cd J) : RS b c I j (cd ++ [s]) (uI (uI J (drfA b + 1) (c + cd.length) s) (drfA b) 5 (nI (c + cd.length + 1))) := by
  obtain ⟨r1, r2, r3, r4, r5, r6, r7⟩ := h
  have e := drf_or b
  have e1 : uI (uI J (drfA b + 1) (c + cd.length) s) (drfA b) 5 (nI (c + cd.length + 1)) 47 = J 47 := by rw [uI_fn (by omega), uI_fn (by omega)]
  have e2 : ∀ k, uI (uI J (drfA b + 1) (c + cd.length) s) (drfA b) 5 (nI (c + cd.length + 1)) (drfA b + 1) k = uI J (drfA b + 1) (c + cd.length) s (drfA b + 1) k := fun k => uI_ne (by omega)
  refine ⟨fun a h1 h2 h3 => by rw [uI_fn h2, uI_fn h3]; exact r1 a h1 h2 h3, fun k hk => by rw [e1]; exact r2 k hk, by rw [e1]; exact r3, fun k hk => by rw [uI_nk hk, uI_ne (by omega)]; exact r4 k hk, ?_, fun k hk => by rw [e2, uI_nk (by omega)]; exact r6 k hk, fun k hk => ?_⟩
  · rw [uI_eq, List.length_append, List.length_singleton, Nat.add_assoc]
  · rw [e2]
    rw [List.length_append, List.length_singleton] at hk
    by_cases e3 : k = cd.length
    · rw [e3, uI_eq, getD_last]
    · rw [uI_nk (by omega), getD_app (by omega)]; exact r7 k (by omega)
theorem RS.refl {b : Bool} {c j : Nat} {I : IF} (h1 : I 47 3 = nI j) (h2 : I (drfA b) 5 = nI c) : RS b c I j [] I := ⟨fun _ _ _ _ => rfl, fun _ _ => rfl, h1, fun _ _ => rfl, h2, fun _ _ => rfl, fun k hk => absurd hk (Nat.not_lt_zero k)⟩
def RQ (b : Bool) (c : Nat) (I : IF) (L : LF) (o : Bool) (j : Nat) (cd : List Int32) (r : Option Value) (w : mW) : Prop := ∃ J, r = some (.int (bI o)) ∧ w = (J, L, RR b) ∧ (o = true → RS b c I j cd J) ∧ (o = false → ∃ cd', RS b c I j cd' J)
theorem TKS.KE {K : Nat → Int32} {P : Nat → Nat} {m n : Nat} {I : IF} (h : TKS K P m n I) : KE K m := fun k hk => (h.2.2.2.2.2 k hk).1
theorem c_X2_add (G : Gl) (d : Nat) {q : Nat} (s : Int32) (I : IF) (L : LF) (b : Bool) (h : I (drfA b) 5 = nI q) (hq : q < 300) : MD G d Y_X2_add [.ref (drfA b), .int s] (I, L, RR b) none (uI (uI I (drfA b + 1) q s) (drfA b) 5 (nI (q + 1)), L, RR b) := by
  have sd := sh_drf b
  have sdA := (sh_drfA b).1
  have hr := (rr_drf b).1
  have hlt : ¬ (300 : Int32) ≤ I (drfA b) 5 := by rw [h]; exact nI_ge (b := 300) (by omega) (by omega)
  have hin : vp_in (I (drfA b) 5) 300 := by rw [h]; exact vp_in_nI (by omega) (by omega)
  have e2 : ∀ x v, uI I (drfA b + 1) x v (drfA b) 5 = nI q := fun x v => by rw [uI_ne (by omega)]; exact h
  refine MT.intro m_X2_add rfl (Nat.le_of_ble_eq_true rfl) ?_
  show WQ G d Y_X2_add _ 0 [(0, .ref (drfA b)), (1, .int s)] [] (I, L, RR b)
  refine wp_aload_n rfl rfl ?_
  refine q_geti rfl rfl (by first | rfl | assumption) rfl ?_
  refine wp_aload_n rfl rfl ?_
  refine q_getr rfl rfl (by first | rfl | assumption) rfl hr ?_
  refine wp_alen rfl sdA (by decide) rfl ?_
  refine wp_icmp_ge 18 rfl rfl (fun h5 => absurd h5 hlt) (fun _ => ?_)
  refine wp_aload_n rfl rfl ?_
  refine q_getr rfl rfl (by first | rfl | assumption) rfl hr ?_
  refine wp_aload_n rfl rfl ?_
  refine q_geti rfl rfl (by first | rfl | assumption) rfl ?_
  refine wp_iload_n rfl rfl ?_
  refine q_iast rfl (by first | rfl | assumption) (by assumption) ?_
  refine wp_aload_n rfl rfl ?_
  refine wp_dup rfl rfl ?_
  refine q_geti rfl rfl (by first | rfl | assumption) rfl ?_
  refine wp_iconst (v := 1) rfl rfl ?_
  refine wp_iadd rfl ?_
  refine q_puti rfl rfl (by first | rfl | assumption) (Or.inl rfl) rfl ?_
  exact wp_vret rfl rfl (⟨rfl, by rw [e2, h, nI_clamp (by omega), nI_1]⟩)
theorem c_X2_isComparison (G : Gl) (d : Nat) (s : Int32) (w : mW) : MD G d Y_X2_isComparison [.int s] w (some (.int (b2 (s = -60 ∨ s = -62 ∨ s = -61)))) w := by
  refine MT.intro m_X2_isComparison rfl (Nat.le_of_ble_eq_true rfl) ?_
  show WQ G d Y_X2_isComparison _ 0 [(0, .int s)] [] w
  refine wp_iload_n rfl rfl ?_
  refine wp_bipush (v := (-60)) rfl rfl ?_
  refine wp_icmp_eq 9 rfl rfl (fun h2 => ?_) (fun h2 => ?_)
  · refine wp_iconst (v := 1) rfl rfl ?_
    refine wp_goto 12 rfl rfl ?_
    exact wp_zret rfl rfl (by first | rfl | exact nb2 _ | assumption) (⟨by simp only [b2]; simp_all, rfl⟩)
  · refine wp_iload_n rfl rfl ?_
    refine wp_bipush (v := (-62)) rfl rfl ?_
    refine wp_icmp_eq 9 rfl rfl (fun h5 => ?_) (fun h5 => ?_)
    · refine wp_iconst (v := 1) rfl rfl ?_
      refine wp_goto 12 rfl rfl ?_
      exact wp_zret rfl rfl (by first | rfl | exact nb2 _ | assumption) (⟨by simp only [b2]; simp_all, rfl⟩)
    · refine wp_iload_n rfl rfl ?_
      refine wp_bipush (v := (-61)) rfl rfl ?_
      refine wp_icmp_ne 11 rfl rfl (fun h8 => ?_) (fun h8 => ?_)
      · refine wp_iconst (v := 0) rfl rfl ?_
        exact wp_zret rfl rfl (by first | rfl | exact nb2 _ | assumption) (⟨by simp only [b2]; simp_all, rfl⟩)
      · refine wp_iconst (v := 1) rfl rfl ?_
        refine wp_goto 12 rfl rfl ?_
        exact wp_zret rfl rfl (by first | rfl | exact nb2 _ | assumption) (⟨by simp only [b2]; simp_all, rfl⟩)
def CF (G : Gl) (b : Bool) (c0 : Nat) (I0 : IF) (L : LF) (K : Nat → Int32) (m f : Nat) : Prop := ∀ p i o j cd d J cd0, p ≤ 8 → prs K f 0 p i = some (o, j, cd) → 3 * (8 - p) ≤ d → RS b c0 I0 i cd0 J → c0 + cd0.length ≤ i → i ≤ m → MQ2 G (d + 1) Y_X3_readFactor [.ref 46, .int (nI p)] (J, L, RR b) (RQ b c0 I0 L o j (cd0 ++ cd))
def CT (G : Gl) (b : Bool) (c0 : Nat) (I0 : IF) (L : LF) (K : Nat → Int32) (m f : Nat) : Prop := ∀ p i o j cd d J cd0, p ≤ 8 → prs K f 1 p i = some (o, j, cd) → 3 * (8 - p) + 1 ≤ d → RS b c0 I0 i cd0 J → c0 + cd0.length ≤ i → i ≤ m → MQ2 G (d + 1) Y_X3_readTerm [.ref 46, .int (nI p)] (J, L, RR b) (RQ b c0 I0 L o j (cd0 ++ cd))
def CS (G : Gl) (b : Bool) (c0 : Nat) (I0 : IF) (L : LF) (K : Nat → Int32) (m f : Nat) : Prop := ∀ p i o j cd d J cd0, p ≤ 8 → prs K f 3 p i = some (o, j, cd) → 3 * (8 - p) + 2 ≤ d → RS b c0 I0 i cd0 J → c0 + cd0.length ≤ i → i ≤ m → MQ2 G (d + 1) Y_X3_readSum [.ref 46, .int (nI p)] (J, L, RR b) (RQ b c0 I0 L o j (cd0 ++ cd))
def CTl (G : Gl) (b : Bool) (c0 : Nat) (I0 : IF) (L : LF) (K : Nat → Int32) (m f : Nat) : Prop := ∀ p i o j cd d J cd0 t, p ≤ 8 → prs K f 2 p i = some (o, j, cd) → 3 * (8 - p) + 1 ≤ d → RS b c0 I0 i cd0 J → c0 + cd0.length ≤ i → i ≤ m → t ≤ i → WQ G (d + 1) Y_X3_readTerm (RQ b c0 I0 L o j (cd0 ++ cd)) 8 [(0, .ref 46), (1, .int (nI p)), (2, .int (nI t))] [] (J, L, RR b)
def CSl (G : Gl) (b : Bool) (c0 : Nat) (I0 : IF) (L : LF) (K : Nat → Int32) (m f : Nat) : Prop := ∀ p i o j cd d J cd0 t, p ≤ 8 → prs K f 4 p i = some (o, j, cd) → 3 * (8 - p) + 2 ≤ d → RS b c0 I0 i cd0 J → c0 + cd0.length ≤ i → i ≤ m → t ≤ i → WQ G (d + 1) Y_X3_readSum (RQ b c0 I0 L o j (cd0 ++ cd)) 8 [(0, .ref 46), (1, .int (nI p)), (2, .int (nI t))] [] (J, L, RR b)
theorem crd_F {G : Gl} {b : Bool} {c0 : Nat} {I0 : IF} {L : LF} {K : Nat → Int32} {P : Nat → Nat} {m n f : Nat} (hk : TKS K P m n I0) (ihS : CS G b c0 I0 L K m f) : CF G b c0 I0 L K m (f + 1) := by
  intro p i o j cd d J cd0 hp h hd hR hlen hi
  have hkJ := hR.tks hk
  have h3 : J 47 3 = nI i := hR.2.2.1
  have hE := hk.KE
  have hm := hk.1
  have sd := sh_drf b
  have kd : ∀ d', MD G d' Y_X8_kind [.ref 47] (J, L, RR b) (some (.int (K i))) (J, L, RR b) := fun d' => c_X8_kind G d' hi J L b hkJ h3
  rcases prs0_i h with ⟨h1, h2, e3, e4⟩ | ⟨h1, h2, j1, c1, g3, e4, e5⟩ | ⟨h1, h2, j1, c1, g3, g4⟩ | ⟨h1, h2, e3, e4, e5⟩ | ⟨h1, h2, e3, e4⟩
  · subst e3 e4
    refine MT.intro m_X3_readFactor rfl (Nat.le_of_ble_eq_true rfl) ?_
    show WQ G (d + 1) Y_X3_readFactor _ 0 [(0, .ref 46), (1, .int (nI p))] [] (J, L, RR b)
    refine wp_aload_n rfl rfl ?_
    refine q_getr rfl rfl (by first | rfl | assumption) rfl rfl ?_
    refine cV1 rfl l_3_32 i_X8_kind m_X8_kind (by first | rfl | assumption) (by decide) (kd _) rfl (Nat.le_of_ble_eq_true rfl) ?_
    refine wp_bipush (v := (-40)) rfl rfl ?_
    refine wp_icmp_ne 26 rfl rfl (fun h4 => absurd h1 h4) (fun _ => ?_)
    refine wp_iload_n rfl rfl ?_
    refine wp_bipush (v := 8) rfl rfl ?_
    refine wp_icmp_lt 10 rfl rfl (fun h7 => absurd h7 (nI_nlt (b := 8) h2 (by omega))) (fun _ => ?_)
    refine wp_iconst (v := 0) rfl rfl ?_
    exact wp_zret rfl rfl (by first | rfl | exact nb2 _ | assumption) (⟨J, rfl, rfl, nofun, fun _ => ⟨cd0, hR⟩⟩)
  · subst e4 e5
    have hl := hE.lv h1 (by decide)
    obtain ⟨d2, rfl⟩ : ∃ d2, d = d2 + 1 := ⟨d - 1, by omega⟩
    have hs := ihS (p + 1) (i + 1) _ _ _ d2 _ cd0 (by omega) g3 (by omega) hR.nxt (by omega) (by omega)
    refine MT.intro m_X3_readFactor rfl (Nat.le_of_ble_eq_true rfl) ?_
    show WQ G (d2 + 1 + 1) Y_X3_readFactor _ 0 [(0, .ref 46), (1, .int (nI p))] [] (J, L, RR b)
    refine wp_aload_n rfl rfl ?_
    refine q_getr rfl rfl (by first | rfl | assumption) rfl rfl ?_
    refine cV1 rfl l_3_32 i_X8_kind m_X8_kind (by first | rfl | assumption) (by decide) (kd _) rfl (Nat.le_of_ble_eq_true rfl) ?_
    refine wp_bipush (v := (-40)) rfl rfl ?_
    refine wp_icmp_ne 26 rfl rfl (fun h4 => absurd h1 h4) (fun _ => ?_)
    refine wp_iload_n rfl rfl ?_
    refine wp_bipush (v := 8) rfl rfl ?_
    refine wp_icmp_lt 10 rfl rfl (fun _ => ?_) (fun h7 => absurd (show nI p < 8 from nI_lt (b := 8) h2 (by omega)) h7)
    refine wp_aload_n rfl rfl ?_
    refine q_getr rfl rfl (by first | rfl | assumption) rfl rfl ?_
    refine cV0 rfl l_3_47 i_X8_next m_X8_next (by first | rfl | assumption) (by decide) (c_X8_next G _ hl J L b hkJ h3) rfl (Nat.le_of_ble_eq_true rfl) ?_
    refine wp_aload_n rfl rfl ?_
    refine wp_iload_n rfl rfl ?_
    refine wp_iconst (v := 1) rfl rfl ?_
    refine wp_iadd rfl ?_
    rw [nI_1]
    refine cVr rfl l_3_65 i_X3_readSum m_X3_readSum (by first | rfl | assumption) (by decide) (hs) rfl (Nat.le_of_ble_eq_true rfl) (fun r17 w17 hq17 => ?_)
    obtain ⟨J2, rfl, rfl, -, hf⟩ := hq17
    refine wp_if_eq 24 rfl rfl (fun _ => ?_) (fun h18 => absurd rfl h18)
    refine wp_iconst (v := 0) rfl rfl ?_
    exact wp_zret rfl rfl (by first | rfl | exact nb2 _ | assumption) (⟨J2, rfl, rfl, nofun, fun _ => hf rfl⟩)
  · have hl := hE.lv h1 (by decide)
    obtain ⟨d2, rfl⟩ : ∃ d2, d = d2 + 1 := ⟨d - 1, by omega⟩
    have hs := ihS (p + 1) (i + 1) _ _ _ d2 _ cd0 (by omega) g3 (by omega) hR.nxt (by omega) (by omega)
    have hb := prs_b hE _ _ _ _ _ _ _ g3 (by omega)
    rcases g4 with ⟨a1, a2, a3, a4⟩ | ⟨a1, a2, a3⟩
    · subst a2 a3 a4
      have hl2 := hE.lv a1 (by decide)
      refine MT.intro m_X3_readFactor rfl (Nat.le_of_ble_eq_true rfl) ?_
      show WQ G (d2 + 1 + 1) Y_X3_readFactor _ 0 [(0, .ref 46), (1, .int (nI p))] [] (J, L, RR b)
      refine wp_aload_n rfl rfl ?_
      refine q_getr rfl rfl (by first | rfl | assumption) rfl rfl ?_
      refine cV1 rfl l_3_32 i_X8_kind m_X8_kind (by first | rfl | assumption) (by decide) (kd _) rfl (Nat.le_of_ble_eq_true rfl) ?_
      refine wp_bipush (v := (-40)) rfl rfl ?_
      refine wp_icmp_ne 26 rfl rfl (fun h4 => absurd h1 h4) (fun _ => ?_)
      refine wp_iload_n rfl rfl ?_
      refine wp_bipush (v := 8) rfl rfl ?_
      refine wp_icmp_lt 10 rfl rfl (fun _ => ?_) (fun h7 => absurd (show nI p < 8 from nI_lt (b := 8) h2 (by omega)) h7)
      refine wp_aload_n rfl rfl ?_
      refine q_getr rfl rfl (by first | rfl | assumption) rfl rfl ?_
      refine cV0 rfl l_3_47 i_X8_next m_X8_next (by first | rfl | assumption) (by decide) (c_X8_next G _ hl J L b hkJ h3) rfl (Nat.le_of_ble_eq_true rfl) ?_
      refine wp_aload_n rfl rfl ?_
      refine wp_iload_n rfl rfl ?_
      refine wp_iconst (v := 1) rfl rfl ?_
      refine wp_iadd rfl ?_
      rw [nI_1]
      refine cVr rfl l_3_65 i_X3_readSum m_X3_readSum (by first | rfl | assumption) (by decide) (hs) rfl (Nat.le_of_ble_eq_true rfl) (fun r17 w17 hq17 => ?_)
      obtain ⟨J2, rfl, rfl, ht, -⟩ := hq17
      have hR2 := ht rfl
      have hk2 := hR2.tks hk
      refine wp_if_eq 24 rfl rfl (fun h18 => absurd h18 (by decide)) (fun _ => ?_)
      refine wp_aload_n rfl rfl ?_
      refine q_getr rfl rfl (by first | rfl | assumption) rfl rfl ?_
      refine cV1 rfl l_3_32 i_X8_kind m_X8_kind (by first | rfl | assumption) (by decide) (c_X8_kind G _ hb.2.1 J2 L b hk2 hR2.2.2.1) rfl (Nat.le_of_ble_eq_true rfl) ?_
      refine wp_bipush (v := (-41)) rfl rfl ?_
      refine wp_icmp_eq 40 rfl rfl (fun _ => ?_) (fun h23 => absurd a1 h23)
      refine wp_aload_n rfl rfl ?_
      refine q_getr rfl rfl (by first | rfl | assumption) rfl rfl ?_
      refine cV0 rfl l_3_47 i_X8_next m_X8_next (by first | rfl | assumption) (by decide) (c_X8_next G _ hl2 J2 L b hk2 hR2.2.2.1) rfl (Nat.le_of_ble_eq_true rfl) ?_
      refine wp_iconst (v := 1) rfl rfl ?_
      exact wp_zret rfl rfl (by first | rfl | exact nb2 _ | assumption) (⟨_, rfl, rfl, fun _ => hR2.nxt, nofun⟩)
    · subst a2 a3
      refine MT.intro m_X3_readFactor rfl (Nat.le_of_ble_eq_true rfl) ?_
      show WQ G (d2 + 1 + 1) Y_X3_readFactor _ 0 [(0, .ref 46), (1, .int (nI p))] [] (J, L, RR b)
      refine wp_aload_n rfl rfl ?_
      refine q_getr rfl rfl (by first | rfl | assumption) rfl rfl ?_
      refine cV1 rfl l_3_32 i_X8_kind m_X8_kind (by first | rfl | assumption) (by decide) (kd _) rfl (Nat.le_of_ble_eq_true rfl) ?_
      refine wp_bipush (v := (-40)) rfl rfl ?_
      refine wp_icmp_ne 26 rfl rfl (fun h4 => absurd h1 h4) (fun _ => ?_)
      refine wp_iload_n rfl rfl ?_
      refine wp_bipush (v := 8) rfl rfl ?_
      refine wp_icmp_lt 10 rfl rfl (fun _ => ?_) (fun h7 => absurd (show nI p < 8 from nI_lt (b := 8) h2 (by omega)) h7)
      refine wp_aload_n rfl rfl ?_
      refine q_getr rfl rfl (by first | rfl | assumption) rfl rfl ?_
      refine cV0 rfl l_3_47 i_X8_next m_X8_next (by first | rfl | assumption) (by decide) (c_X8_next G _ hl J L b hkJ h3) rfl (Nat.le_of_ble_eq_true rfl) ?_
      refine wp_aload_n rfl rfl ?_
      refine wp_iload_n rfl rfl ?_
      refine wp_iconst (v := 1) rfl rfl ?_
      refine wp_iadd rfl ?_
      rw [nI_1]
      refine cVr rfl l_3_65 i_X3_readSum m_X3_readSum (by first | rfl | assumption) (by decide) (hs) rfl (Nat.le_of_ble_eq_true rfl) (fun r17 w17 hq17 => ?_)
      obtain ⟨J2, rfl, rfl, ht, -⟩ := hq17
      have hR2 := ht rfl
      have hk2 := hR2.tks hk
      refine wp_if_eq 24 rfl rfl (fun h18 => absurd h18 (by decide)) (fun _ => ?_)
      refine wp_aload_n rfl rfl ?_
      refine q_getr rfl rfl (by first | rfl | assumption) rfl rfl ?_
      refine cV1 rfl l_3_32 i_X8_kind m_X8_kind (by first | rfl | assumption) (by decide) (c_X8_kind G _ hb.2.1 J2 L b hk2 hR2.2.2.1) rfl (Nat.le_of_ble_eq_true rfl) ?_
      refine wp_bipush (v := (-41)) rfl rfl ?_
      refine wp_icmp_eq 40 rfl rfl (fun h23 => absurd h23 a1) (fun _ => ?_)
      refine wp_iconst (v := 0) rfl rfl ?_
      exact wp_zret rfl rfl (by first | rfl | exact nb2 _ | assumption) (⟨J2, rfl, rfl, nofun, fun _ => ⟨_, hR2⟩⟩)
  · subst e3 e4 e5
    have hl := hE.l6 h2
    have hnl : ¬ K i < -6 := by grind
    have hA := hR.add (K i)
    refine MT.intro m_X3_readFactor rfl (Nat.le_of_ble_eq_true rfl) ?_
    show WQ G (d + 1) Y_X3_readFactor _ 0 [(0, .ref 46), (1, .int (nI p))] [] (J, L, RR b)
    refine wp_aload_n rfl rfl ?_
    refine q_getr rfl rfl (by first | rfl | assumption) rfl rfl ?_
    refine cV1 rfl l_3_32 i_X8_kind m_X8_kind (by first | rfl | assumption) (by decide) (kd _) rfl (Nat.le_of_ble_eq_true rfl) ?_
    refine wp_bipush (v := (-40)) rfl rfl ?_
    refine wp_icmp_ne 26 rfl rfl (fun _ => ?_) (fun h4 => absurd h4 h1)
    refine wp_aload_n rfl rfl ?_
    refine q_getr rfl rfl (by first | rfl | assumption) rfl rfl ?_
    refine cV1 rfl l_3_32 i_X8_kind m_X8_kind (by first | rfl | assumption) (by decide) (kd _) rfl (Nat.le_of_ble_eq_true rfl) ?_
    refine wp_bipush (v := (-6)) rfl rfl ?_
    refine wp_icmp_lt 38 rfl rfl (fun h30 => absurd h30 hnl) (fun _ => ?_)
    refine wp_aload_n rfl rfl ?_
    refine q_getr rfl rfl (by first | rfl | assumption) rfl rfl ?_
    refine wp_aload_n rfl rfl ?_
    refine q_getr rfl rfl (by first | rfl | assumption) rfl rfl ?_
    refine cV1 rfl l_3_32 i_X8_kind m_X8_kind (by first | rfl | assumption) (by decide) (kd _) rfl (Nat.le_of_ble_eq_true rfl) ?_
    refine cV0 rfl l_3_81 i_X2_add m_X2_add (by first | rfl | assumption) (by decide) (c_X2_add G _ _ J L b hR.2.2.2.2.1 (by omega)) rfl (Nat.le_of_ble_eq_true rfl) ?_
    refine wp_goto 40 rfl rfl ?_
    refine wp_aload_n rfl rfl ?_
    refine q_getr rfl rfl (by first | rfl | assumption) rfl rfl ?_
    refine cV0 rfl l_3_47 i_X8_next m_X8_next (by first | rfl | assumption) (by decide) (c_X8_next G _ hl _ L b (hA.tks hk) hA.2.2.1) rfl (Nat.le_of_ble_eq_true rfl) ?_
    refine wp_iconst (v := 1) rfl rfl ?_
    exact wp_zret rfl rfl (by first | rfl | exact nb2 _ | assumption) (⟨_, rfl, rfl, fun _ => hA.nxt, nofun⟩)
  · have hnl : K i < -6 := by grind
    subst e3 e4
    refine MT.intro m_X3_readFactor rfl (Nat.le_of_ble_eq_true rfl) ?_
    show WQ G (d + 1) Y_X3_readFactor _ 0 [(0, .ref 46), (1, .int (nI p))] [] (J, L, RR b)
    refine wp_aload_n rfl rfl ?_
    refine q_getr rfl rfl (by first | rfl | assumption) rfl rfl ?_
    refine cV1 rfl l_3_32 i_X8_kind m_X8_kind (by first | rfl | assumption) (by decide) (kd _) rfl (Nat.le_of_ble_eq_true rfl) ?_
    refine wp_bipush (v := (-40)) rfl rfl ?_
    refine wp_icmp_ne 26 rfl rfl (fun _ => ?_) (fun h4 => absurd h4 h1)
    refine wp_aload_n rfl rfl ?_
    refine q_getr rfl rfl (by first | rfl | assumption) rfl rfl ?_
    refine cV1 rfl l_3_32 i_X8_kind m_X8_kind (by first | rfl | assumption) (by decide) (kd _) rfl (Nat.le_of_ble_eq_true rfl) ?_
    refine wp_bipush (v := (-6)) rfl rfl ?_
    refine wp_icmp_lt 38 rfl rfl (fun _ => ?_) (fun h30 => absurd hnl h30)
    refine wp_iconst (v := 0) rfl rfl ?_
    exact wp_zret rfl rfl (by first | rfl | exact nb2 _ | assumption) (⟨J, rfl, rfl, nofun, fun _ => ⟨cd0, hR⟩⟩)
theorem crd_Tl {G : Gl} {b : Bool} {c0 : Nat} {I0 : IF} {L : LF} {K : Nat → Int32} {P : Nat → Nat} {m n f : Nat} (hk : TKS K P m n I0) (ihF : CF G b c0 I0 L K m f) (ihL : CTl G b c0 I0 L K m f) : CTl G b c0 I0 L K m (f + 1) := by
  intro p i o j cd d J cd0 t hp h hd hR hlen hi hti
  have hkJ := hR.tks hk
  have h3 : J 47 3 = nI i := hR.2.2.1
  have hE := hk.KE
  have hm := hk.1
  have sd := sh_drf b
  have kd : ∀ d', MD G d' Y_X8_kind [.ref 47] (J, L, RR b) (some (.int (K i))) (J, L, RR b) := fun d' => c_X8_kind G d' hi J L b hkJ h3
  have p8 : p ≤ 8 := hp
  rcases prs2_i h with ⟨h0, hx⟩ | ⟨h0, e1, e2, e3⟩
  · have hl := hE.l2 h0 (by decide) (by decide)
    have hlt : ¬ (300 : Int32) ≤ nI t := nI_ge (b := 300) (by omega) (by omega)
    obtain ⟨d2, rfl⟩ : ∃ d2, d = d2 + 1 := ⟨d - 1, by omega⟩
    have K23 : WQ G (d2 + 1 + 1) Y_X3_readTerm (RQ b c0 I0 L o j (cd0 ++ cd)) 23 [(0, .ref 46), (1, .int (nI p)), (2, .int (nI t)), (3, .int (K i))] [] (J, L, RR b) := by
      rcases hx with ⟨c1, g1, g2⟩ | ⟨j1, c1, c2, g1, g2, g3⟩
      · subst g2
        have hs := ihF p (i + 1) _ _ _ d2 _ cd0 p8 g1 (by omega) hR.nxt (by omega) (by omega)
        refine wp_aload_n rfl rfl ?_
        refine q_getr rfl rfl (by first | rfl | assumption) rfl rfl ?_
        refine cV0 rfl l_3_47 i_X8_next m_X8_next (by first | rfl | assumption) (by decide) (c_X8_next G _ hl J L b hkJ h3) rfl (Nat.le_of_ble_eq_true rfl) ?_
        refine wp_aload_n rfl rfl ?_
        refine wp_iload_n rfl rfl ?_
        refine cVr rfl l_3_88 i_X3_readFactor m_X3_readFactor (by first | rfl | assumption) (by decide) (hs) rfl (Nat.le_of_ble_eq_true rfl) (fun r28 w28 hq28 => ?_)
        obtain ⟨J2, rfl, rfl, -, hf⟩ := hq28
        refine wp_if_ne 32 rfl rfl (fun h29 => absurd h29 (fun z => z rfl)) (fun _ => ?_)
        refine wp_iconst (v := 0) rfl rfl ?_
        exact wp_zret rfl rfl (by first | rfl | exact nb2 _ | assumption) (⟨J2, rfl, rfl, nofun, fun _ => hf rfl⟩)
      · have hs := ihF p (i + 1) _ _ _ d2 _ cd0 p8 g1 (by omega) hR.nxt (by omega) (by omega)
        have hb := prs_b hE _ _ _ _ _ _ _ g1 (by omega)
        have hb3 := hb.2.2.1 rfl
        rw [g3, ← List.append_assoc, ← List.append_assoc]
        refine wp_aload_n rfl rfl ?_
        refine q_getr rfl rfl (by first | rfl | assumption) rfl rfl ?_
        refine cV0 rfl l_3_47 i_X8_next m_X8_next (by first | rfl | assumption) (by decide) (c_X8_next G _ hl J L b hkJ h3) rfl (Nat.le_of_ble_eq_true rfl) ?_
        refine wp_aload_n rfl rfl ?_
        refine wp_iload_n rfl rfl ?_
        refine cVr rfl l_3_88 i_X3_readFactor m_X3_readFactor (by first | rfl | assumption) (by decide) (hs) rfl (Nat.le_of_ble_eq_true rfl) (fun r28 w28 hq28 => ?_)
        obtain ⟨J2, rfl, rfl, ht, -⟩ := hq28
        have hR2 := ht rfl
        refine wp_if_ne 32 rfl rfl (fun _ => ?_) (fun h29 => absurd h29 (show ¬ bI true = 0 by decide))
        refine wp_aload_n rfl rfl ?_
        refine q_getr rfl rfl (by first | rfl | assumption) rfl rfl ?_
        refine wp_iload_n rfl rfl ?_
        refine cV0 rfl l_3_81 i_X2_add m_X2_add (by first | rfl | assumption) (by decide) (c_X2_add G _ _ J2 L b hR2.2.2.2.2.1 (by rw [List.length_append]; omega)) rfl (Nat.le_of_ble_eq_true rfl) ?_
        refine wp_iinc (v := nI (t + 1)) (lv' := [(2, _), (0, _), (1, _), (3, _)]) rfl rfl (nI_1 t) (by decide) rfl ?_
        refine wp_goto 8 rfl rfl ?_
        refine wp_loc (lv' := [(0, _), (1, _), (2, _)]) [1, 2, 0] rfl ?_
        exact ihL p j1 _ _ _ _ _ _ (t + 1) p8 g2 hd (hR2.add (K i)) (by rw [List.length_append, List.length_append, List.length_singleton]; omega) hb.2.1 (by omega)
    have hs2 : ∀ x, ¬ K i = x → K i = -42 ∨ K i = -47 := fun _ _ => h0
    refine wp_iload_n rfl rfl ?_
    refine wp_sipush (v := 300) rfl rfl ?_
    refine wp_icmp_ge 38 rfl rfl (fun h10 => absurd h10 hlt) (fun _ => ?_)
    refine wp_aload_n rfl rfl ?_
    refine q_getr rfl rfl (by first | rfl | assumption) rfl rfl ?_
    refine cV1 rfl l_3_32 i_X8_kind m_X8_kind (by first | rfl | assumption) (by decide) (kd _) rfl (Nat.le_of_ble_eq_true rfl) ?_
    refine wp_istore_n (lv' := [(3, _), (0, _), (1, _), (2, _)]) rfl rfl (by decide) rfl ?_
    refine wp_iload_n rfl rfl ?_
    refine wp_bipush (v := (-42)) rfl rfl ?_
    refine wp_icmp_eq 23 rfl rfl (fun h17 => ?_) (fun h17 => ?_)
    · refine wp_loc (lv' := [(0, _), (1, _), (2, _), (3, _)]) [1, 2, 3, 0] rfl ?_
      exact K23
    · refine wp_iload_n rfl rfl ?_
      refine wp_bipush (v := (-47)) rfl rfl ?_
      refine wp_icmp_eq 23 rfl rfl (fun h20 => ?_) (fun h20 => ?_)
      · refine wp_loc (lv' := [(0, _), (1, _), (2, _), (3, _)]) [1, 2, 3, 0] rfl ?_
        exact K23
      · exact absurd h0 (fun z => z.elim h17 h20)
  · subst e1 e2 e3
    rw [List.append_nil]
    have hn1 : ¬ K j = -42 := fun z => h0 (Or.inl z)
    have hn2 : ¬ K j = -47 := fun z => h0 (Or.inr z)
    refine wp_iload_n rfl rfl ?_
    refine wp_sipush (v := 300) rfl rfl ?_
    refine wp_icmp_ge 38 rfl rfl (fun h10 => ?_) (fun h10 => ?_)
    · refine wp_iconst (v := 1) rfl rfl ?_
      exact wp_zret rfl rfl (by first | rfl | exact nb2 _ | assumption) (⟨J, rfl, rfl, fun _ => hR, nofun⟩)
    · refine wp_aload_n rfl rfl ?_
      refine q_getr rfl rfl (by first | rfl | assumption) rfl rfl ?_
      refine cV1 rfl l_3_32 i_X8_kind m_X8_kind (by first | rfl | assumption) (by decide) (kd _) rfl (Nat.le_of_ble_eq_true rfl) ?_
      refine wp_istore_n (lv' := [(3, _), (0, _), (1, _), (2, _)]) rfl rfl (by decide) rfl ?_
      refine wp_iload_n rfl rfl ?_
      refine wp_bipush (v := (-42)) rfl rfl ?_
      refine wp_icmp_eq 23 rfl rfl (fun h17 => absurd h17 hn1) (fun _ => ?_)
      refine wp_iload_n rfl rfl ?_
      refine wp_bipush (v := (-47)) rfl rfl ?_
      refine wp_icmp_eq 23 rfl rfl (fun h20 => absurd h20 hn2) (fun _ => ?_)
      refine wp_iconst (v := 1) rfl rfl ?_
      exact wp_zret rfl rfl (by first | rfl | exact nb2 _ | assumption) (⟨J, rfl, rfl, fun _ => hR, nofun⟩)
theorem crd_T {G : Gl} {b : Bool} {c0 : Nat} {I0 : IF} {L : LF} {K : Nat → Int32} {P : Nat → Nat} {m n f : Nat} (hk : TKS K P m n I0) (ihF : CF G b c0 I0 L K m f) (ihL : CTl G b c0 I0 L K m f) : CT G b c0 I0 L K m (f + 1) := by
  intro p i o j cd d J cd0 hp h hd hR hlen hi
  have hE := hk.KE
  have hm := hk.1
  obtain ⟨d2, rfl⟩ : ∃ d2, d = d2 + 1 := ⟨d - 1, by omega⟩
  rcases prs1_i h with ⟨c1, g1, g2⟩ | ⟨j1, c1, c2, g1, g2, g3⟩
  · subst g2
    have hs := ihF p i _ _ _ d2 _ cd0 hp g1 (by omega) hR (by omega) (by omega)
    refine MT.intro m_X3_readTerm rfl (Nat.le_of_ble_eq_true rfl) ?_
    show WQ G (d2 + 1 + 1) Y_X3_readTerm _ 0 [(0, .ref 46), (1, .int (nI p))] [] (J, L, RR b)
    refine wp_aload_n rfl rfl ?_
    refine wp_iload_n rfl rfl ?_
    refine cVr rfl l_3_88 i_X3_readFactor m_X3_readFactor (by first | rfl | assumption) (by decide) (hs) rfl (Nat.le_of_ble_eq_true rfl) (fun r2 w2 hq2 => ?_)
    obtain ⟨J2, rfl, rfl, -, hf⟩ := hq2
    refine wp_if_ne 6 rfl rfl (fun h3 => absurd h3 (fun z => z rfl)) (fun _ => ?_)
    refine wp_iconst (v := 0) rfl rfl ?_
    exact wp_zret rfl rfl (by first | rfl | exact nb2 _ | assumption) (⟨J2, rfl, rfl, nofun, fun _ => hf rfl⟩)
  · have hs := ihF p i _ _ _ d2 _ cd0 hp g1 (by omega) hR (by omega) (by omega)
    have hb := prs_b hE _ _ _ _ _ _ _ g1 (by omega)
    have hb3 := hb.2.2.1 rfl
    have hb4 := hb.2.2.2 rfl (Or.inl rfl)
    rw [g3, ← List.append_assoc]
    refine MT.intro m_X3_readTerm rfl (Nat.le_of_ble_eq_true rfl) ?_
    show WQ G (d2 + 1 + 1) Y_X3_readTerm _ 0 [(0, .ref 46), (1, .int (nI p))] [] (J, L, RR b)
    refine wp_aload_n rfl rfl ?_
    refine wp_iload_n rfl rfl ?_
    refine cVr rfl l_3_88 i_X3_readFactor m_X3_readFactor (by first | rfl | assumption) (by decide) (hs) rfl (Nat.le_of_ble_eq_true rfl) (fun r2 w2 hq2 => ?_)
    obtain ⟨J2, rfl, rfl, ht, -⟩ := hq2
    refine wp_if_ne 6 rfl rfl (fun _ => ?_) (fun h3 => absurd h3 (show ¬ bI true = 0 by decide))
    refine wp_iconst (v := 1) rfl rfl ?_
    refine wp_istore_n (lv' := [(2, _), (0, _), (1, _)]) rfl rfl (by decide) rfl ?_
    refine wp_loc (lv' := [(0, _), (1, _), (2, _)]) [1, 2, 0] rfl ?_
    exact ihL p j1 _ _ _ _ _ _ 1 hp g2 hd (ht rfl) (by rw [List.length_append]; omega) hb.2.1 (by omega)
theorem crd_Sl {G : Gl} {b : Bool} {c0 : Nat} {I0 : IF} {L : LF} {K : Nat → Int32} {P : Nat → Nat} {m n f : Nat} (hk : TKS K P m n I0) (ihT : CT G b c0 I0 L K m f) (ihL : CSl G b c0 I0 L K m f) : CSl G b c0 I0 L K m (f + 1) := by
  intro p i o j cd d J cd0 t hp h hd hR hlen hi hti
  have hkJ := hR.tks hk
  have h3 : J 47 3 = nI i := hR.2.2.1
  have hE := hk.KE
  have hm := hk.1
  have sd := sh_drf b
  have kd : ∀ d', MD G d' Y_X8_kind [.ref 47] (J, L, RR b) (some (.int (K i))) (J, L, RR b) := fun d' => c_X8_kind G d' hi J L b hkJ h3
  have p8 : p ≤ 8 := hp
  rcases prs4_i h with ⟨h0, hx⟩ | ⟨h0, e1, e2, e3⟩
  · have hl := hE.l2 h0 (by decide) (by decide)
    have hlt : ¬ (300 : Int32) ≤ nI t := nI_ge (b := 300) (by omega) (by omega)
    obtain ⟨d2, rfl⟩ : ∃ d2, d = d2 + 1 := ⟨d - 1, by omega⟩
    have K23 : WQ G (d2 + 1 + 1) Y_X3_readSum (RQ b c0 I0 L o j (cd0 ++ cd)) 23 [(0, .ref 46), (1, .int (nI p)), (2, .int (nI t)), (3, .int (K i))] [] (J, L, RR b) := by
      rcases hx with ⟨c1, g1, g2⟩ | ⟨j1, c1, c2, g1, g2, g3⟩
      · subst g2
        have hs := ihT p (i + 1) _ _ _ d2 _ cd0 p8 g1 (by omega) hR.nxt (by omega) (by omega)
        refine wp_aload_n rfl rfl ?_
        refine q_getr rfl rfl (by first | rfl | assumption) rfl rfl ?_
        refine cV0 rfl l_3_47 i_X8_next m_X8_next (by first | rfl | assumption) (by decide) (c_X8_next G _ hl J L b hkJ h3) rfl (Nat.le_of_ble_eq_true rfl) ?_
        refine wp_aload_n rfl rfl ?_
        refine wp_iload_n rfl rfl ?_
        refine cVr rfl l_3_85 i_X3_readTerm m_X3_readTerm (by first | rfl | assumption) (by decide) (hs) rfl (Nat.le_of_ble_eq_true rfl) (fun r28 w28 hq28 => ?_)
        obtain ⟨J2, rfl, rfl, -, hf⟩ := hq28
        refine wp_if_ne 32 rfl rfl (fun h29 => absurd h29 (fun z => z rfl)) (fun _ => ?_)
        refine wp_iconst (v := 0) rfl rfl ?_
        exact wp_zret rfl rfl (by first | rfl | exact nb2 _ | assumption) (⟨J2, rfl, rfl, nofun, fun _ => hf rfl⟩)
      · have hs := ihT p (i + 1) _ _ _ d2 _ cd0 p8 g1 (by omega) hR.nxt (by omega) (by omega)
        have hb := prs_b hE _ _ _ _ _ _ _ g1 (by omega)
        have hb3 := hb.2.2.1 rfl
        rw [g3, ← List.append_assoc, ← List.append_assoc]
        refine wp_aload_n rfl rfl ?_
        refine q_getr rfl rfl (by first | rfl | assumption) rfl rfl ?_
        refine cV0 rfl l_3_47 i_X8_next m_X8_next (by first | rfl | assumption) (by decide) (c_X8_next G _ hl J L b hkJ h3) rfl (Nat.le_of_ble_eq_true rfl) ?_
        refine wp_aload_n rfl rfl ?_
        refine wp_iload_n rfl rfl ?_
        refine cVr rfl l_3_85 i_X3_readTerm m_X3_readTerm (by first | rfl | assumption) (by decide) (hs) rfl (Nat.le_of_ble_eq_true rfl) (fun r28 w28 hq28 => ?_)
        obtain ⟨J2, rfl, rfl, ht, -⟩ := hq28
        have hR2 := ht rfl
        refine wp_if_ne 32 rfl rfl (fun _ => ?_) (fun h29 => absurd h29 (show ¬ bI true = 0 by decide))
        refine wp_aload_n rfl rfl ?_
        refine q_getr rfl rfl (by first | rfl | assumption) rfl rfl ?_
        refine wp_iload_n rfl rfl ?_
        refine cV0 rfl l_3_81 i_X2_add m_X2_add (by first | rfl | assumption) (by decide) (c_X2_add G _ _ J2 L b hR2.2.2.2.2.1 (by rw [List.length_append]; omega)) rfl (Nat.le_of_ble_eq_true rfl) ?_
        refine wp_iinc (v := nI (t + 1)) (lv' := [(2, _), (0, _), (1, _), (3, _)]) rfl rfl (nI_1 t) (by decide) rfl ?_
        refine wp_goto 8 rfl rfl ?_
        refine wp_loc (lv' := [(0, _), (1, _), (2, _)]) [1, 2, 0] rfl ?_
        exact ihL p j1 _ _ _ _ _ _ (t + 1) p8 g2 hd (hR2.add (K i)) (by rw [List.length_append, List.length_append, List.length_singleton]; omega) hb.2.1 (by omega)
    have hs2 : ∀ x, ¬ K i = x → K i = -43 ∨ K i = -45 := fun _ _ => h0
    refine wp_iload_n rfl rfl ?_
    refine wp_sipush (v := 300) rfl rfl ?_
    refine wp_icmp_ge 38 rfl rfl (fun h10 => absurd h10 hlt) (fun _ => ?_)
    refine wp_aload_n rfl rfl ?_
    refine q_getr rfl rfl (by first | rfl | assumption) rfl rfl ?_
    refine cV1 rfl l_3_32 i_X8_kind m_X8_kind (by first | rfl | assumption) (by decide) (kd _) rfl (Nat.le_of_ble_eq_true rfl) ?_
    refine wp_istore_n (lv' := [(3, _), (0, _), (1, _), (2, _)]) rfl rfl (by decide) rfl ?_
    refine wp_iload_n rfl rfl ?_
    refine wp_bipush (v := (-43)) rfl rfl ?_
    refine wp_icmp_eq 23 rfl rfl (fun h17 => ?_) (fun h17 => ?_)
    · refine wp_loc (lv' := [(0, _), (1, _), (2, _), (3, _)]) [1, 2, 3, 0] rfl ?_
      exact K23
    · refine wp_iload_n rfl rfl ?_
      refine wp_bipush (v := (-45)) rfl rfl ?_
      refine wp_icmp_eq 23 rfl rfl (fun h20 => ?_) (fun h20 => ?_)
      · refine wp_loc (lv' := [(0, _), (1, _), (2, _), (3, _)]) [1, 2, 3, 0] rfl ?_
        exact K23
      · exact absurd h0 (fun z => z.elim h17 h20)
  · subst e1 e2 e3
    rw [List.append_nil]
    have hn1 : ¬ K j = -43 := fun z => h0 (Or.inl z)
    have hn2 : ¬ K j = -45 := fun z => h0 (Or.inr z)
    refine wp_iload_n rfl rfl ?_
    refine wp_sipush (v := 300) rfl rfl ?_
    refine wp_icmp_ge 38 rfl rfl (fun h10 => ?_) (fun h10 => ?_)
    · refine wp_iconst (v := 1) rfl rfl ?_
      exact wp_zret rfl rfl (by first | rfl | exact nb2 _ | assumption) (⟨J, rfl, rfl, fun _ => hR, nofun⟩)
    · refine wp_aload_n rfl rfl ?_
      refine q_getr rfl rfl (by first | rfl | assumption) rfl rfl ?_
      refine cV1 rfl l_3_32 i_X8_kind m_X8_kind (by first | rfl | assumption) (by decide) (kd _) rfl (Nat.le_of_ble_eq_true rfl) ?_
      refine wp_istore_n (lv' := [(3, _), (0, _), (1, _), (2, _)]) rfl rfl (by decide) rfl ?_
      refine wp_iload_n rfl rfl ?_
      refine wp_bipush (v := (-43)) rfl rfl ?_
      refine wp_icmp_eq 23 rfl rfl (fun h17 => absurd h17 hn1) (fun _ => ?_)
      refine wp_iload_n rfl rfl ?_
      refine wp_bipush (v := (-45)) rfl rfl ?_
      refine wp_icmp_eq 23 rfl rfl (fun h20 => absurd h20 hn2) (fun _ => ?_)
      refine wp_iconst (v := 1) rfl rfl ?_
      exact wp_zret rfl rfl (by first | rfl | exact nb2 _ | assumption) (⟨J, rfl, rfl, fun _ => hR, nofun⟩)
theorem crd_S {G : Gl} {b : Bool} {c0 : Nat} {I0 : IF} {L : LF} {K : Nat → Int32} {P : Nat → Nat} {m n f : Nat} (hk : TKS K P m n I0) (ihT : CT G b c0 I0 L K m f) (ihL : CSl G b c0 I0 L K m f) : CS G b c0 I0 L K m (f + 1) := by
  intro p i o j cd d J cd0 hp h hd hR hlen hi
  have hE := hk.KE
  have hm := hk.1
  obtain ⟨d2, rfl⟩ : ∃ d2, d = d2 + 1 := ⟨d - 1, by omega⟩
  rcases prs3_i h with ⟨c1, g1, g2⟩ | ⟨j1, c1, c2, g1, g2, g3⟩
  · subst g2
    have hs := ihT p i _ _ _ d2 _ cd0 hp g1 (by omega) hR (by omega) (by omega)
    refine MT.intro m_X3_readSum rfl (Nat.le_of_ble_eq_true rfl) ?_
    show WQ G (d2 + 1 + 1) Y_X3_readSum _ 0 [(0, .ref 46), (1, .int (nI p))] [] (J, L, RR b)
    refine wp_aload_n rfl rfl ?_
    refine wp_iload_n rfl rfl ?_
    refine cVr rfl l_3_85 i_X3_readTerm m_X3_readTerm (by first | rfl | assumption) (by decide) (hs) rfl (Nat.le_of_ble_eq_true rfl) (fun r2 w2 hq2 => ?_)
    obtain ⟨J2, rfl, rfl, -, hf⟩ := hq2
    refine wp_if_ne 6 rfl rfl (fun h3 => absurd h3 (fun z => z rfl)) (fun _ => ?_)
    refine wp_iconst (v := 0) rfl rfl ?_
    exact wp_zret rfl rfl (by first | rfl | exact nb2 _ | assumption) (⟨J2, rfl, rfl, nofun, fun _ => hf rfl⟩)
  · have hs := ihT p i _ _ _ d2 _ cd0 hp g1 (by omega) hR (by omega) (by omega)
    have hb := prs_b hE _ _ _ _ _ _ _ g1 (by omega)
    have hb3 := hb.2.2.1 rfl
    have hb4 := hb.2.2.2 rfl (Or.inr (Or.inl rfl))
    rw [g3, ← List.append_assoc]
    refine MT.intro m_X3_readSum rfl (Nat.le_of_ble_eq_true rfl) ?_
    show WQ G (d2 + 1 + 1) Y_X3_readSum _ 0 [(0, .ref 46), (1, .int (nI p))] [] (J, L, RR b)
    refine wp_aload_n rfl rfl ?_
    refine wp_iload_n rfl rfl ?_
    refine cVr rfl l_3_85 i_X3_readTerm m_X3_readTerm (by first | rfl | assumption) (by decide) (hs) rfl (Nat.le_of_ble_eq_true rfl) (fun r2 w2 hq2 => ?_)
    obtain ⟨J2, rfl, rfl, ht, -⟩ := hq2
    refine wp_if_ne 6 rfl rfl (fun _ => ?_) (fun h3 => absurd h3 (show ¬ bI true = 0 by decide))
    refine wp_iconst (v := 1) rfl rfl ?_
    refine wp_istore_n (lv' := [(2, _), (0, _), (1, _)]) rfl rfl (by decide) rfl ?_
    refine wp_loc (lv' := [(0, _), (1, _), (2, _)]) [1, 2, 0] rfl ?_
    exact ihL p j1 _ _ _ _ _ _ 1 hp g2 hd (ht rfl) (by rw [List.length_append]; omega) hb.2.1 (by omega)
theorem crd {G : Gl} {b : Bool} {c0 : Nat} {I0 : IF} {L : LF} {K : Nat → Int32} {P : Nat → Nat} {m n : Nat} (hk : TKS K P m n I0) : ∀ f, CF G b c0 I0 L K m f ∧ CT G b c0 I0 L K m f ∧ CTl G b c0 I0 L K m f ∧ CS G b c0 I0 L K m f ∧ CSl G b c0 I0 L K m f := by
  intro f
  induction f with
  | zero => exact ⟨fun _ _ _ _ _ _ _ _ _ h => (by cases h), fun _ _ _ _ _ _ _ _ _ h => (by cases h), fun _ _ _ _ _ _ _ _ _ _ h => (by cases h), fun _ _ _ _ _ _ _ _ _ h => (by cases h), fun _ _ _ _ _ _ _ _ _ _ h => (by cases h)⟩
  | succ f ih =>
    obtain ⟨i1, i2, i3, i4, i5⟩ := ih
    exact ⟨crd_F hk i4, crd_T hk i1 i3, crd_Tl hk i1 i3, crd_S hk i2 i5, crd_Sl hk i2 i5⟩
