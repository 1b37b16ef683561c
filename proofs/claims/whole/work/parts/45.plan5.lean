/-! the plan, in the class: the call -/
def Wk (P : PL) (W : Nat) : Prop := 1 ≤ W ∧ W ≤ 52 ∧ FW P W (allS P) ∧ ∀ w, w < W → ¬ FW P w (allS P)
def Wn (P : PL) : Prop := ∀ w, w ≤ 52 → ¬ FW P w (allS P)
theorem Wk_uniq {P : PL} {W V : Nat} (h1 : Wk P W) (h2 : Wk P V) : W = V := by
  rcases Nat.lt_trichotomy W V with e | e | e
  · exact absurd h1.2.2.1 (h2.2.2.2 W e)
  · exact e
  · exact absurd h2.2.2.1 (h1.2.2.2 V e)
theorem Wk_n {P : PL} {W : Nat} (h1 : Wk P W) (h2 : Wn P) : False := h2 W h1.2.1 h1.2.2.1
theorem asW_cg {P : PL} {W m : Nat} {z y : Nat → Int32} (h : z m = y m) : ∀ w, asW P W z w m = asW P W y w m
  | 0 => h
  | w + 1 => by simp only [asW]; rw [asW_cg h w]
theorem PI_wk {P : PL} {I J : IF} (h : PI P I) (hn : pN P ≤ 10) (f1 : ∀ q, (q < 4 ∨ 13 < q) → J q = I q) (f2 : ∀ m, m < 10 → ∀ k, k ≠ 7 → J (4 + m) k = I (4 + m) k) : PI P J :=
  PI_cg h (f1 1 (by omega)) (fun m k hm _ h7 => f2 m hm k h7) hn
theorem c_X5_pickSets (G : Gl) (d : Nat) {P : PL} (hp : plok P) {W : Nat} {D : Nat → Nat} {v : Int64} (hW : W ≤ 52) (hB : BW P W W 0) (hwd : ∀ w, w < 52 → pW P w = !wnd v w) (I : IF) (L : LF) (b : Bool) (hI : PI P I) (hC : I 34 4 = nI (pC P)) (hD : ∀ S, S < 1024 → I 36 S = zI (D S)) (hL : CHL P W D) (hDb : ∀ x, D x ≤ W * pC P + 1) : MQ2 G (d + 3) Y_X5_pickSets [.ref 34, .ref 1, .int (nI W), .long v] (I, L, RR b) (fun r w2 => r = none ∧ ∃ J : IF, w2 = (J, L, RR b) ∧ (∀ q, (q < 4 ∨ 13 < q) → J q = I q) ∧ ∀ m, m < 10 → (∀ k, k ≠ 7 → J (4 + m) k = I (4 + m) k) ∧ J (4 + m) 7 = asW P W (fun m => I (4 + m) 7) W m) := by
  generalize hQ : (fun (r : Option Value) (w2 : mW) => r = none ∧ ∃ J : IF, w2 = (J, L, RR b) ∧ (∀ q, (q < 4 ∨ 13 < q) → J q = I q) ∧ ∀ m, m < 10 → (∀ k, k ≠ 7 → J (4 + m) k = I (4 + m) k) ∧ J (4 + m) 7 = asW P W (fun m => I (4 + m) 7) W m) = Q
  obtain ⟨n1, n2, c1, c2, hfd⟩ := id hp
  have loop : ∀ (p i : Nat), i + p = W → ∀ J : IF, (∀ q, (q < 4 ∨ 13 < q) → J q = I q) → (∀ m, m < 10 → (∀ k, k ≠ 7 → J (4 + m) k = I (4 + m) k) ∧ J (4 + m) 7 = asW P W (fun m => I (4 + m) 7) i m) → WQ G (d + 3) Y_X5_pickSets Q 4 [(0, .ref 34), (1, .ref 1), (2, .int (nI W)), (3, .long v), (5, .int (nI (pkS P W i))), (6, .int (nI i))] [] (J, L, RR b) := by
    intro p
    induction p with
    | zero =>
      intro i hi J f1 f2
      have hie : i = W := by omega
      subst hie
      have hge : nI i ≤ nI i := nI_le (Nat.le_refl _) (by omega)
      refine wp_iload rfl rfl ?_
      refine wp_iload_n rfl rfl ?_
      refine wp_icmp_ge 20 rfl rfl (fun _ => ?_) (fun h6 => absurd hge h6)
      exact wp_vret rfl rfl (by rw [← hQ]; exact ⟨rfl, J, rfl, f1, f2⟩)
    | succ p ih =>
      intro i hi J f1 f2
      have hlt : ¬ nI W ≤ nI i := nI_ge (by omega) (by omega)
      have hwi : b2 (wnd v i = true) = b2 (pW P i = false) := b2_cg (by rw [hwd i (by omega)]; simp)
      obtain ⟨l1, l2, l3⟩ := ls_ok hB (w := i) (by omega)
      have p1 := (pk_ok hB i (by omega)).1
      have cl := c_X5_leastSet G d hp hW (w := i) (by omega) p1 l1 l2 l3 J L b (PI_wk hI n2 f1 (fun m hm => (f2 m hm).1)) (by rw [f1 34 (by omega)]; exact hC) (fun S hS => by rw [f1 36 (by omega)]; exact hD S hS) hL hDb
      refine wp_iload rfl rfl ?_
      refine wp_iload_n rfl rfl ?_
      refine wp_icmp_ge 20 rfl rfl (fun h6 => absurd h6 hlt) (fun _ => ?_)
      refine wp_iload rfl rfl ?_
      refine wp_aload_n rfl rfl ?_
      refine wp_aload_n rfl rfl ?_
      refine wp_iload rfl rfl ?_
      refine wp_iload rfl rfl ?_
      refine wp_lload_n rfl rfl ?_
      refine wp_iload rfl rfl ?_
      refine cS1 rfl l_5_53 s_X5_isWindy m_X5_isWindy (c_X5_isWindy G _ _ _ _) rfl (Nat.le_of_ble_eq_true rfl) ?_
      rw [hwi]
      refine cVr rfl l_5_100 i_X5_leastSet m_X5_leastSet (by first | rfl | assumption) (by decide) (cl) rfl (Nat.le_of_ble_eq_true rfl) (fun r15 w15 hq15 => ?_)
      obtain ⟨rfl, J2, rfl, g1, g2⟩ := hq15
      refine wp_ior rfl ?_
      refine wp_istore (lv' := [(5, _), (0, _), (1, _), (2, _), (3, _), (6, _)]) rfl (by decide) rfl ?_
      refine wp_iinc (v := nI (i + 1)) (lv' := [(6, _), (5, _), (0, _), (1, _), (2, _), (3, _)]) rfl rfl (nI_1 i) (by decide) rfl ?_
      refine wp_goto 4 rfl rfl ?_
      refine wp_loc (lv' := [(0, _), (1, _), (2, _), (3, _), (5, _), (6, _)]) [2, 3, 4, 5, 1, 0] rfl ?_
      rw [nI_or]
      refine ih (i + 1) (by omega) J2 (fun q hq => (g1 q hq).trans (f1 q hq)) (fun m hm => ⟨fun k hk => ((g2 m hm).1 k hk).trans ((f2 m hm).1 k hk), ?_⟩)
      rw [(g2 m hm).2, (f2 m hm).2]
      rfl
  refine MT.intro m_X5_pickSets rfl (Nat.le_of_ble_eq_true rfl) ?_
  show WQ G (d + 3) Y_X5_pickSets Q 0 [(0, .ref 34), (1, .ref 1), (2, .int (nI W)), (3, .long v)] [] (I, L, RR b)
  refine wp_iconst (v := 0) rfl rfl ?_
  refine wp_istore (lv' := [(5, _), (0, _), (1, _), (2, _), (3, _)]) rfl (by decide) rfl ?_
  refine wp_iconst (v := 0) rfl rfl ?_
  refine wp_istore (lv' := [(6, _), (5, _), (0, _), (1, _), (2, _), (3, _)]) rfl (by decide) rfl ?_
  refine wp_loc (lv' := [(0, _), (1, _), (2, _), (3, _), (5, _), (6, _)]) [2, 3, 4, 5, 1, 0] rfl ?_
  exact loop W 0 (by omega) I (fun q _ => rfl) (fun m hm => ⟨fun k _ => rfl, rfl⟩)
theorem wk_of {P : PL} (hp : plok P) {D : Nat → Nat} (hD : CHD P D) (h : D (allS P) ≤ 52 * pC P) : 1 ≤ D (allS P) ∧ Wk P ((D (allS P) - 1) / pC P + 1) := by
  obtain ⟨n1, n2, c1, c2, hfd⟩ := id hp
  have ha : allS P ≠ 0 := by
    unfold allS
    have := Nat.pow_le_pow_right (n := 2) (by decide) n1
    omega
  have hD1 : 1 ≤ D (allS P) := by
    rcases hD.2.2 _ (all_lt P) ha with e | ⟨S, m, _, _, _, _, e⟩
    · omega
    · omega
  have hk : ∀ w, w ≤ 52 → (FW P w (allS P) ↔ D (allS P) ≤ w * pC P) := fun w hw => wk_iff hp hD hw
  have q1 : (D (allS P) - 1) / pC P < 52 := (Nat.div_lt_iff_lt_mul c1).mpr (by omega)
  refine ⟨hD1, Nat.le_add_left 1 _, by omega, (hk _ (by omega)).mpr ?_, fun w hw => ?_⟩
  · have := Nat.lt_mul_div_succ (D (allS P) - 1) c1
    rw [Nat.mul_comm] at this
    omega
  · intro z
    have z2 := (hk w (by omega)).mp z
    have : (D (allS P) - 1) / pC P < w := (Nat.div_lt_iff_lt_mul c1).mpr (by omega)
    omega
theorem wn_of {P : PL} (hp : plok P) {D : Nat → Nat} (hD : CHD P D) (h : ¬ D (allS P) ≤ 52 * pC P) : Wn P := fun w hw z => by
  have := (wk_iff hp hD hw).mp z
  exact h (Nat.le_trans this (Nat.mul_le_mul_right _ hw))
theorem c_X5_schedule (G : Gl) (d : Nat) {P : PL} (hp : plok P) {v : Int64} (hwd : ∀ w, w < 52 → pW P w = !wnd v w) (I : IF) (L : LF) (b : Bool) (hI : PI P I) : MQ2 G (d + 4) Y_X5_schedule [.ref 34, .ref 1, .int (nI (pC P)), .long v] (I, L, RR b) (fun r w2 => ∃ J : IF, w2 = (J, L, RR b) ∧ (∀ q, (q < 4 ∨ (13 < q ∧ q < 34) ∨ 38 < q) → J q = I q) ∧ (∀ m, m < 10 → ∀ k, k ≠ 7 → J (4 + m) k = I (4 + m) k) ∧ ((∃ W, Wk P W ∧ r = some (.int (nI W)) ∧ ∀ m, m < 10 → J (4 + m) 7 = asW P W (fun m => I (4 + m) 7) W m) ∨ (Wn P ∧ r = some (.int (-1)) ∧ ∀ m, m < 10 → J (4 + m) 7 = I (4 + m) 7))) := by
  generalize hQ : (fun (r : Option Value) (w2 : mW) => ∃ J : IF, w2 = (J, L, RR b) ∧ (∀ q, (q < 4 ∨ (13 < q ∧ q < 34) ∨ 38 < q) → J q = I q) ∧ (∀ m, m < 10 → ∀ k, k ≠ 7 → J (4 + m) k = I (4 + m) k) ∧ ((∃ W, Wk P W ∧ r = some (.int (nI W)) ∧ ∀ m, m < 10 → J (4 + m) 7 = asW P W (fun m => I (4 + m) 7) W m) ∨ (Wn P ∧ r = some (.int (-1)) ∧ ∀ m, m < 10 → J (4 + m) 7 = I (4 + m) 7))) = Q
  obtain ⟨n1, n2, c1, c2, hfd⟩ := id hp
  have hall := all_lt P
  have h1024 := two10 n2
  have hne : ¬ I 1 2 = 0 := by rw [hI.1]; exact nI_ne0 (by omega) (by omega)
  have hc1 : (1 : Int32) ≤ nI (pC P) := nI_le (a := 1) c1 (by omega)
  have hinA : vp_in (nI (allS P)) 1024 := vp_in_nI (by omega) (by omega)
  have hclA : (nI (allS P)).toNatClampNeg = allS P := nI_clamp (by omega)
  have last : ∀ (J : IF) (D : Nat → Nat), (∀ q, q ≠ 34 → q ≠ 35 → q ≠ 37 → q ≠ 38 → J q = I q) → PI P J → PC P J → CHD P D → D (allS P) ≤ 52 * pC P → (∀ S, S < 1024 → J 35 S = nI (D S)) → WQ G (d + 4) Y_X5_schedule Q 31 [(0, .ref 34), (1, .ref 1), (2, .int (nI (pC P))), (3, .long v), (5, .int (nI (D (allS P))))] [] (J, L, RR b) := by
    intro J D f1 hPJ hCJ hD hle f2
    obtain ⟨w1, w2⟩ := wk_of hp hD hle
    have hcne : ¬ J 34 4 = 0 := by rw [hCJ.1]; exact nI_ne0 (by omega) (by omega)
    have e1 : nI (D (allS P)) - 1 = nI (D (allS P) - 1) := nI_m1 (by omega)
    have e2 : nI (D (allS P) - 1) / J 34 4 = nI ((D (allS P) - 1) / pC P) := by rw [hCJ.1, pk_div (by omega) (by omega) (by omega)]
    generalize hWW : (D (allS P) - 1) / pC P = V at *
    have cl := c_X5_findLatest G (d + 1) hp w2.2.1 J L b hPJ hCJ
    refine wp_iload rfl rfl ?_
    refine wp_iconst (v := 1) rfl rfl ?_
    refine wp_isub rfl ?_
    refine wp_aload_n rfl rfl ?_
    refine q_geti rfl rfl (by first | rfl | assumption) rfl ?_
    rw [e1]
    refine wp_idiv rfl hcne ?_
    rw [e2]
    refine wp_iconst (v := 1) rfl rfl ?_
    refine wp_iadd rfl ?_
    rw [nI_1]
    refine wp_istore (lv' := [(6, _), (0, _), (1, _), (2, _), (3, _), (5, _)]) rfl (by decide) rfl ?_
    refine wp_aload_n rfl rfl ?_
    refine wp_aload_n rfl rfl ?_
    refine wp_iload rfl rfl ?_
    refine cVr rfl l_5_45 i_X5_findLatest m_X5_findLatest (by first | rfl | assumption) (by decide) (cl) rfl (Nat.le_of_ble_eq_true rfl) (fun r43 w43 hq43 => ?_)
    obtain ⟨rfl, J2, DL, rfl, g1, g2, g3, g4⟩ := hq43
    have cp := c_X5_pickSets G d hp w2.2.1 (B0 w2.2.2.1) hwd J2 L b (PI_cg hPJ (g1 1 (by omega)) (fun m k hm _ _ => by rw [g1 (4 + m) (by omega)]) n2) (by rw [g1 34 (by omega)]; exact hCJ.1) g2 g3 g4
    refine wp_aload_n rfl rfl ?_
    refine wp_aload_n rfl rfl ?_
    refine wp_iload rfl rfl ?_
    refine wp_lload_n rfl rfl ?_
    refine cVr rfl l_5_49 i_X5_pickSets m_X5_pickSets (by first | rfl | assumption) (by decide) (cp) rfl (Nat.le_of_ble_eq_true rfl) (fun r48 w48 hq48 => ?_)
    obtain ⟨rfl, J3, rfl, k1, k2⟩ := hq48
    refine wp_iload rfl rfl ?_
    exact wp_iret rfl rfl (by rw [← hQ]; exact ⟨J3, rfl, fun q hq => by rw [k1 q (by omega), g1 q (by omega), f1 q (by omega) (by omega) (by omega) (by omega)], fun m hm k hk => by rw [(k2 m hm).1 k hk, g1 (4 + m) (by omega), f1 (4 + m) (by omega) (by omega) (by omega) (by omega)], Or.inl ⟨V + 1, w2, rfl, fun m hm => by rw [(k2 m hm).2]; exact asW_cg (by rw [g1 (4 + m) (by omega), f1 (4 + m) (by omega) (by omega) (by omega) (by omega)]) _⟩⟩)
  have hPI1 : PI P (uI I 34 4 (nI (pC P))) := PI_cg hI (uI_fn (by decide)) (fun m k hm _ _ => uI_ne (by omega)) n2
  have cc := c_X5_findCalm G (d + 2) (P := P) v hwd (uI I 34 4 (nI (pC P))) L b
  refine MT.intro m_X5_schedule rfl (Nat.le_of_ble_eq_true rfl) ?_
  show WQ G (d + 4) Y_X5_schedule Q 0 [(0, .ref 34), (1, .ref 1), (2, .int (nI (pC P))), (3, .long v)] [] (I, L, RR b)
  refine wp_aload_n rfl rfl ?_
  refine q_geti rfl rfl (by first | rfl | assumption) rfl ?_
  refine wp_if_eq 6 rfl rfl (fun h2 => absurd h2 hne) (fun _ => ?_)
  refine wp_iload_n rfl rfl ?_
  refine wp_iconst (v := 1) rfl rfl ?_
  refine wp_icmp_ge 8 rfl rfl (fun _ => ?_) (fun h5 => absurd hc1 h5)
  refine wp_aload_n rfl rfl ?_
  refine wp_iload_n rfl rfl ?_
  refine q_puti rfl rfl (by first | rfl | assumption) (Or.inl rfl) rfl ?_
  refine wp_aload_n rfl rfl ?_
  refine wp_lload_n rfl rfl ?_
  refine cVr rfl l_5_33 i_X5_findCalm m_X5_findCalm (by first | rfl | assumption) (by decide) (cc) rfl (Nat.le_of_ble_eq_true rfl) (fun r13 w13 hq13 => ?_)
  obtain ⟨rfl, J1, rfl, g1, g2, g3⟩ := hq13
  have hPJ : PI P J1 := PI_cg hPI1 (g1 1 (by decide) (by decide)) (fun m k hm _ _ => by rw [g1 (4 + m) (by omega) (by omega)]) n2
  have hCJ : PC P J1 := ⟨by rw [g1 34 (by decide) (by decide), uI_eq], g2, g3⟩
  have cs := c_X5_findSoonest G (d + 1) hp J1 L b hPJ hCJ
  refine wp_aload_n rfl rfl ?_
  refine wp_aload_n rfl rfl ?_
  refine cVr rfl l_5_37 i_X5_findSoonest m_X5_findSoonest (by first | rfl | assumption) (by decide) (cs) rfl (Nat.le_of_ble_eq_true rfl) (fun r16 w16 hq16 => ?_)
  obtain ⟨rfl, J2, D, rfl, k1, k2, k3, k4⟩ := hq16
  have hPJ2 : PI P J2 := PI_cg hPJ (k1 1 (by decide)) (fun m k hm _ _ => by rw [k1 (4 + m) (by omega)]) n2
  have hCJ2 : PC P J2 := PC_cg hCJ (by rw [k1 34 (by decide)]) (k1 37 (by decide)) (k1 38 (by decide))
  have e35 : J2 35 (nI (allS P)).toNatClampNeg = nI (D (allS P)) := by rw [hclA]; exact k2 _ (by omega)
  have e52 : (52 : Int32) * J2 34 4 = nI (52 * pC P) := by rw [hCJ2.1]; exact nI_mul2 52 _
  have hcmp : nI (D (allS P)) ≤ nI (52 * pC P) ↔ D (allS P) ≤ 52 * pC P := nI_leI (by have := k4 (allS P); omega) (by omega)
  have f1 : ∀ q, q ≠ 34 → q ≠ 35 → q ≠ 37 → q ≠ 38 → J2 q = I q := fun q a1 a2 a3 a4 => by rw [k1 q a2, g1 q a3 a4, uI_fn a1]
  refine wp_aload_n rfl rfl ?_
  refine q_getr rfl rfl (by first | rfl | assumption) rfl rfl ?_
  refine wp_aload_n rfl rfl ?_
  refine cS1 rfl l_5_41 s_X5_allOf m_X5_allOf (c_X5_allOf G _ hp _ _ _ hPJ2) rfl (Nat.le_of_ble_eq_true rfl) ?_
  refine q_iald rfl (by first | rfl | assumption) hinA ?_
  rw [e35]
  refine wp_istore (lv' := [(5, _), (0, _), (1, _), (2, _), (3, _)]) rfl (by decide) rfl ?_
  refine wp_iload rfl rfl ?_
  refine wp_bipush (v := 52) rfl rfl ?_
  refine wp_aload_n rfl rfl ?_
  refine q_geti rfl rfl (by first | rfl | assumption) rfl ?_
  refine wp_imul rfl ?_
  rw [e52]
  refine wp_icmp_le 31 rfl rfl (fun h28 => ?_) (fun h28 => ?_)
  · refine wp_loc (lv' := [(0, _), (1, _), (2, _), (3, _), (5, _)]) [1, 2, 3, 4, 0] rfl ?_
    exact last J2 D f1 hPJ2 hCJ2 k3 (hcmp.mp h28) k2
  · refine wp_iconst (v := (-1)) rfl rfl ?_
    exact wp_iret rfl rfl (by rw [← hQ]; exact ⟨J2, rfl, fun q hq => f1 q (by omega) (by omega) (by omega) (by omega), fun m hm k hk => by rw [f1 (4 + m) (by omega) (by omega) (by omega) (by omega)], Or.inr ⟨wn_of hp k3 (fun z => h28 (hcmp.mpr z)), rfl, fun m hm => by rw [f1 (4 + m) (by omega) (by omega) (by omega) (by omega)]⟩⟩)
theorem c_X10_plan_w (G : Gl) (d : Nat) (c : Int32) (v : Int64) (I : IF) (L : LF) (b : Bool) (h : ¬ (1 ≤ c ∧ c ≤ 3)) : MD G (d + 1) Y_X10_plan [.ref 0, .int c, .long v] (I, L, RR b) (some (.int (-2))) (I, L, RR b) := by
  refine MT.intro m_X10_plan rfl (Nat.le_of_ble_eq_true rfl) ?_
  show WQ G (d + 1) Y_X10_plan _ 0 [(0, .ref 0), (1, .int c), (2, .long v)] [] (I, L, RR b)
  refine wp_iload_n rfl rfl ?_
  refine wp_iconst (v := 1) rfl rfl ?_
  refine wp_iconst (v := 3) rfl rfl ?_
  refine cS1 rfl l_10_77 s_X10_isWithin m_X10_isWithin (c_X10_isWithin G _ _ _ _ _) rfl (Nat.le_of_ble_eq_true rfl) ?_
  refine wp_if_ne 7 rfl rfl (fun h4 => ?_) (fun h4 => ?_)
  · exact absurd (b2_ne.mp h4) h
  · refine wp_bipush (v := (-2)) rfl rfl ?_
    exact wp_iret rfl rfl (⟨rfl, rfl⟩)
theorem c_X10_plan_9 (G : Gl) (d : Nat) (c : Int32) (v : Int64) (I : IF) (L : LF) (b : Bool) (h : 1 ≤ c ∧ c ≤ 3) (h5 : ¬ I 1 5 ≤ 0) : MD G (d + 1) Y_X10_plan [.ref 0, .int c, .long v] (I, L, RR b) (some (.int (-9))) (I, L, RR b) := by
  refine MT.intro m_X10_plan rfl (Nat.le_of_ble_eq_true rfl) ?_
  show WQ G (d + 1) Y_X10_plan _ 0 [(0, .ref 0), (1, .int c), (2, .long v)] [] (I, L, RR b)
  refine wp_iload_n rfl rfl ?_
  refine wp_iconst (v := 1) rfl rfl ?_
  refine wp_iconst (v := 3) rfl rfl ?_
  refine cS1 rfl l_10_77 s_X10_isWithin m_X10_isWithin (c_X10_isWithin G _ _ _ _ _) rfl (Nat.le_of_ble_eq_true rfl) ?_
  refine wp_if_ne 7 rfl rfl (fun h4 => ?_) (fun h4 => ?_)
  · refine wp_aload_n rfl rfl ?_
    refine q_getr rfl rfl (by first | rfl | assumption) rfl rfl ?_
    refine q_geti rfl rfl (by first | rfl | assumption) rfl ?_
    refine wp_if_le 13 rfl rfl (fun h10 => absurd h10 h5) (fun _ => ?_)
    refine wp_bipush (v := (-9)) rfl rfl ?_
    exact wp_iret rfl rfl (⟨rfl, rfl⟩)
  · exact absurd h (by first | exact b2_eq.mp h4 | exact b2_eq.mp (Classical.not_not.mp h4))
/-- what the class's plan leaves: r the answer, z the weeks of masts -/
def plJ (I J : IF) (nm : Nat) (r : Int32) (z : Nat → Int32) : Prop := (∀ q, q ≠ 0 → (q < 4 ∨ (13 < q ∧ q < 34) ∨ 38 < q) → J q = I q) ∧ (∀ k, k ≠ 10 → k ≠ 11 → J 0 k = I 0 k) ∧ J 0 10 = r ∧ J 0 11 = 0 ∧ ∀ m, m < 10 → (∀ k, k ≠ 6 → k ≠ 7 → J (4 + m) k = I (4 + m) k) ∧ (J (4 + m) 6 = if m < nm then -1 else I (4 + m) 6) ∧ J (4 + m) 7 = z m
theorem c_X10_plan (G : Gl) (d : Nat) {nm : Nat} (c : Int32) (v : Int64) (I : IF) (L : LF) (b : Bool) (h : 1 ≤ c ∧ c ≤ 3) (h5 : I 1 5 ≤ 0) (h12 : I 1 2 = nI nm) (hn : nm ≤ 10) (S : Option Value → mW → Prop)
    (hS : ∀ J : IF, (∀ q, q ≠ 0 → (q < 4 ∨ 13 < q) → J q = I q) → (∀ k, k ≠ 11 → J 0 k = I 0 k) → J 0 11 = 0 → (∀ m, m < 10 → (∀ k, k ≠ 6 → k ≠ 7 → J (4 + m) k = I (4 + m) k) ∧ (J (4 + m) 6 = if m < nm then -1 else I (4 + m) 6) ∧ J (4 + m) 7 = if m < nm then -1 else I (4 + m) 7) → MQ2 G (d + 4) Y_X5_schedule [.ref 34, .ref 1, .int c, .long v] (J, L, RR b) (fun r w2 => ∃ (x : Int32) (J2 : IF), r = some (.int x) ∧ w2 = (J2, L, RR b) ∧ S (some (.int x)) (uI J2 0 10 x, L, RR b))) : MQ2 G (d + 5) Y_X10_plan [.ref 0, .int c, .long v] (I, L, RR b) S := by
  have loop : ∀ (p i : Nat), i + p = nm → ∀ J : IF, (∀ q, q ≠ 0 → (q < 4 ∨ 13 < q) → J q = I q) → (∀ k, k ≠ 11 → J 0 k = I 0 k) → J 0 11 = 0 → (∀ m, m < 10 → (∀ k, k ≠ 6 → k ≠ 7 → J (4 + m) k = I (4 + m) k) ∧ (J (4 + m) 6 = if m < nm then -1 else I (4 + m) 6) ∧ J (4 + m) 7 = if m < i then -1 else I (4 + m) 7) → WQ G (d + 5) Y_X10_plan S 17 [(0, .ref 0), (1, .int c), (2, .long v), (4, .int (nI i))] [] (J, L, RR b) := by
    intro p
    induction p with
    | zero =>
      intro i hi J f1 f2 f3 f4
      have hie : i = nm := by omega
      subst hie
      have hge : J 1 2 ≤ nI i := by rw [f1 1 (by omega) (by omega), h12]; exact nI_le (Nat.le_refl _) (by omega)
      have cs := hS J f1 f2 f3 f4
      refine wp_iload rfl rfl ?_
      refine wp_aload_n rfl rfl ?_
      refine q_getr rfl rfl (by first | rfl | assumption) rfl rfl ?_
      refine q_geti rfl rfl (by first | rfl | assumption) rfl ?_
      refine wp_icmp_ge 31 rfl rfl (fun _ => ?_) (fun h21 => absurd hge h21)
      refine wp_aload_n rfl rfl ?_
      refine wp_aload_n rfl rfl ?_
      refine q_getr rfl rfl (by first | rfl | assumption) rfl rfl ?_
      refine wp_aload_n rfl rfl ?_
      refine q_getr rfl rfl (by first | rfl | assumption) rfl rfl ?_
      refine wp_iload_n rfl rfl ?_
      refine wp_lload_n rfl rfl ?_
      refine cVr rfl l_10_189 i_X5_schedule m_X5_schedule (by first | rfl | assumption) (by decide) (cs) rfl (Nat.le_of_ble_eq_true rfl) (fun r38 w38 hq38 => ?_)
      obtain ⟨x, J2, rfl, rfl, hx⟩ := hq38
      refine q_puti rfl rfl (by first | rfl | assumption) (Or.inl rfl) rfl ?_
      refine wp_aload_n rfl rfl ?_
      refine q_geti rfl rfl (by first | rfl | assumption) rfl ?_
      rw [uI_eq]
      exact wp_iret rfl rfl (hx)
    | succ p ih =>
      intro i hi J f1 f2 f3 f4
      have hlt : ¬ J 1 2 ≤ nI i := by rw [f1 1 (by omega) (by omega), h12]; exact nI_ge (by omega) (by omega)
      have hsm := sh_mast i (by omega)
      refine wp_iload rfl rfl ?_
      refine wp_aload_n rfl rfl ?_
      refine q_getr rfl rfl (by first | rfl | assumption) rfl rfl ?_
      refine q_geti rfl rfl (by first | rfl | assumption) rfl ?_
      refine wp_icmp_ge 31 rfl rfl (fun h21 => absurd h21 hlt) (fun _ => ?_)
      refine wp_aload_n rfl rfl ?_
      refine q_getr rfl rfl (by first | rfl | assumption) rfl rfl ?_
      refine q_getr rfl rfl (by first | rfl | assumption) rfl rfl ?_
      refine wp_iload rfl rfl ?_
      refine q_mast rfl rfl (by omega) ?_
      refine wp_iconst (v := (-1)) rfl rfl ?_
      refine q_puti rfl rfl (by first | rfl | assumption) (Or.inl rfl) rfl ?_
      refine wp_iinc (v := nI (i + 1)) (lv' := [(4, _), (0, _), (1, _), (2, _)]) rfl rfl (nI_1 i) (by decide) rfl ?_
      refine wp_goto 17 rfl rfl ?_
      refine wp_loc (lv' := [(0, _), (1, _), (2, _), (4, _)]) [1, 2, 3, 0] rfl ?_
      refine ih (i + 1) (by omega) _ (fun q h0 hq => by rw [uI_fn (by omega)]; exact f1 q h0 hq) (fun k hk => by rw [uI_ne (by omega)]; exact f2 k hk) (by rw [uI_ne (by omega)]; exact f3) (fun m hm => ?_)
      by_cases e : m = i
      · subst e
        refine ⟨fun k a1 a2 => by rw [uI_nk a2]; exact (f4 m hm).1 k a1 a2, by rw [uI_nk (by decide)]; exact (f4 m hm).2.1, by rw [uI_eq, if_pos (by omega)]⟩
      · refine ⟨fun k a1 a2 => by rw [uI_ne (by omega)]; exact (f4 m hm).1 k a1 a2, by rw [uI_ne (by omega)]; exact (f4 m hm).2.1, ?_⟩
        rw [uI_ne (by omega), (f4 m hm).2.2]
        by_cases e2 : m < i
        · rw [if_pos e2, if_pos (by omega)]
        · rw [if_neg e2, if_neg (by omega)]
  have cd := c_X10_dropChannels G (d + 4) I L b h12 hn
  refine MT.intro m_X10_plan rfl (Nat.le_of_ble_eq_true rfl) ?_
  show WQ G (d + 5) Y_X10_plan S 0 [(0, .ref 0), (1, .int c), (2, .long v)] [] (I, L, RR b)
  refine wp_iload_n rfl rfl ?_
  refine wp_iconst (v := 1) rfl rfl ?_
  refine wp_iconst (v := 3) rfl rfl ?_
  refine cS1 rfl l_10_77 s_X10_isWithin m_X10_isWithin (c_X10_isWithin G _ _ _ _ _) rfl (Nat.le_of_ble_eq_true rfl) ?_
  refine wp_if_ne 7 rfl rfl (fun h4 => ?_) (fun h4 => ?_)
  · refine wp_aload_n rfl rfl ?_
    refine q_getr rfl rfl (by first | rfl | assumption) rfl rfl ?_
    refine q_geti rfl rfl (by first | rfl | assumption) rfl ?_
    refine wp_if_le 13 rfl rfl (fun _ => ?_) (fun h10 => absurd h5 h10)
    refine wp_aload_n rfl rfl ?_
    refine cVr rfl l_10_185 i_X10_dropChannels m_X10_dropChannels (by first | rfl | assumption) (by decide) (cd) rfl (Nat.le_of_ble_eq_true rfl) (fun r14 w14 hq14 => ?_)
    obtain ⟨rfl, J1, rfl, g1, g2, g3, g4⟩ := hq14
    refine wp_iconst (v := 0) rfl rfl ?_
    refine wp_istore (lv' := [(4, _), (0, _), (1, _), (2, _)]) rfl (by decide) rfl ?_
    refine wp_loc (lv' := [(0, _), (1, _), (2, _), (4, _)]) [1, 2, 3, 0] rfl ?_
    exact loop nm 0 (by omega) J1 g1 g2 g3 (fun m hm => ⟨fun k a1 _ => (g4 m hm).1 k a1, (g4 m hm).2, by rw [if_neg (by omega)]; exact (g4 m hm).1 7 (by decide)⟩)
  · exact absurd h (by first | exact b2_eq.mp h4 | exact b2_eq.mp (Classical.not_not.mp h4))
