/-! channels: the class's call -/
theorem nI_m1 {n : Nat} (h : 0 < n) : nI n - 1 = nI (n - 1) := by
  have := nI_pred (n - 1)
  rw [show n - 1 + 1 = n by omega] at this
  exact this
theorem c_X9_search (G : Gl) (d : Nat) {nm na nr : Nat} (I : IF) (L : LF) (b : Bool) (h : IW nm na nr I) (hn0 : 0 < nm) {S : Int32 × Nat × (Nat → Nat)} (hS : srch (okB I nm na nr) (nm - 1) 20000 0 (fun _ => 0) = S) : MQ2 G (d + 4) Y_X9_search [.ref 39, .ref 1] (I, L, RR b) (fun r w => r = some (.int (if S.1 = 1 then bcF (usd S.2.2 nm) else S.1)) ∧ ∃ J : IF, w = (J, L, RR b) ∧ (∀ q, (q < 4 ∨ (13 < q ∧ q < 39) ∨ 43 < q) → J q = I q) ∧ J 39 4 = nI S.2.1 ∧ ∀ m, m < 10 → (∀ k, k ≠ 6 → J (4 + m) k = I (4 + m) k) ∧ J (4 + m) 6 = if S.1 = 1 ∧ m < nm then nI (S.2.2 m) else I (4 + m) 6) := by
  have hn : nm ≤ 10 := h.1.1.2.2
  have h12 : I 1 2 = nI nm := h.1.1.1
  generalize hQ : (fun (r : Option Value) (w : mW) => r = some (.int (if S.1 = 1 then bcF (usd S.2.2 nm) else S.1)) ∧ ∃ J : IF, w = (J, L, RR b) ∧ (∀ q, (q < 4 ∨ (13 < q ∧ q < 39) ∨ 43 < q) → J q = I q) ∧ J 39 4 = nI S.2.1 ∧ ∀ m, m < 10 → (∀ k, k ≠ 6 → J (4 + m) k = I (4 + m) k) ∧ J (4 + m) 6 = if S.1 = 1 ∧ m < nm then nI (S.2.2 m) else I (4 + m) 6) = Q
  have found : S.1 = 1 → (∀ m, m < nm → S.2.2 m ≤ 11) → ∀ (p i : Nat), i + p = nm → ∀ J : IF, (∀ q, (q < 4 ∨ (13 < q ∧ q < 39) ∨ 43 < q) → J q = I q) → J 39 4 = nI S.2.1 → (∀ m, m < nm → J 43 m = nI (S.2.2 m)) → (∀ m, m < 10 → (∀ k, k ≠ 6 → J (4 + m) k = I (4 + m) k) ∧ J (4 + m) 6 = if m < i then nI (S.2.2 m) else I (4 + m) 6) → WQ G (d + 4) Y_X9_search Q 35 [(0, .ref 39), (1, .ref 1), (2, .int S.1), (3, .int (usd S.2.2 i)), (4, .int (nI i))] [] (J, L, RR b) := by
    intro hS1 hlt p
    induction p with
    | zero =>
      intro i hi J f1 f2 f3 f4
      have hie : i = nm := by omega
      subst hie
      have hge : J 1 2 ≤ nI i := by rw [f1 1 (by omega), h12]; exact nI_le (Nat.le_refl _) (by omega)
      refine wp_iload rfl rfl ?_
      refine wp_aload_n rfl rfl ?_
      refine q_geti rfl rfl (by first | rfl | assumption) rfl ?_
      refine wp_icmp_ge 59 rfl rfl (fun _ => ?_) (fun h38 => absurd hge h38)
      refine wp_iload_n rfl rfl ?_
      refine cS1 rfl l_9_51 s_J6_bitCount_0f7a4 m_J6_bitCount_0f7a4 (c_bitCount G _ _ _) rfl (Nat.le_of_ble_eq_true rfl) ?_
      exact wp_iret rfl rfl (by rw [← hQ, if_pos hS1]; exact ⟨rfl, J, rfl, f1, f2, fun m hm => ⟨(f4 m hm).1, by rw [(f4 m hm).2]; by_cases e : m < i; rw [if_pos e, if_pos ⟨hS1, e⟩]; rw [if_neg e, if_neg (fun z => e z.2)]⟩⟩)
    | succ p ih =>
      intro i hi J f1 f2 f3 f4
      have hlt2 : ¬ J 1 2 ≤ nI i := by rw [f1 1 (by omega), h12]; exact nI_ge (by omega) (by omega)
      have hin : vp_in (nI i) 10 := vp_in_nI (by omega) (by omega)
      have hcl : (nI i).toNatClampNeg = i := nI_clamp (by omega)
      have hsm := sh_mast i (by omega)
      have e43 : J 43 (nI i).toNatClampNeg = nI (S.2.2 i) := by rw [hcl]; exact f3 i (by omega)
      refine wp_iload rfl rfl ?_
      refine wp_aload_n rfl rfl ?_
      refine q_geti rfl rfl (by first | rfl | assumption) rfl ?_
      refine wp_icmp_ge 59 rfl rfl (fun h38 => absurd h38 hlt2) (fun _ => ?_)
      refine wp_aload_n rfl rfl ?_
      refine q_getr rfl rfl (by first | rfl | assumption) rfl rfl ?_
      refine wp_iload rfl rfl ?_
      refine q_mast rfl rfl (by omega) ?_
      refine wp_aload_n rfl rfl ?_
      refine q_getr rfl rfl (by first | rfl | assumption) rfl rfl ?_
      refine wp_iload rfl rfl ?_
      refine q_iald rfl (by first | rfl | assumption) (by assumption) ?_
      refine q_puti rfl rfl (by first | rfl | assumption) (Or.inl rfl) rfl ?_
      refine wp_iload_n rfl rfl ?_
      refine wp_iconst (v := 1) rfl rfl ?_
      refine wp_aload_n rfl rfl ?_
      refine q_getr rfl rfl (by first | rfl | assumption) rfl rfl ?_
      refine wp_iload rfl rfl ?_
      refine q_iald rfl (by first | rfl | assumption) (by assumption) ?_
      refine wp_ishl rfl ?_
      refine wp_ior rfl ?_
      refine wp_istore_n (lv' := [(3, _), (0, _), (1, _), (2, _), (4, _)]) rfl rfl (by decide) rfl ?_
      refine wp_iinc (v := nI (i + 1)) (lv' := [(4, _), (3, _), (0, _), (1, _), (2, _)]) rfl rfl (nI_1 i) (by decide) rfl ?_
      refine wp_goto 35 rfl rfl ?_
      refine wp_loc (lv' := [(0, _), (1, _), (2, _), (3, _), (4, _)]) [2, 3, 4, 1, 0] rfl ?_
      rw [uI_ne (show (43 : Nat) ≠ 4 + i by omega), e43]
      refine ih (i + 1) (by omega) _ (fun q hq => by rw [uI_fn (by omega)]; exact f1 q hq) (by rw [uI_ne (by omega)]; exact f2) (fun m hm => by rw [uI_ne (by omega)]; exact f3 m hm) (fun m hm => ⟨fun k hk => ?_, ?_⟩)
      · by_cases e : m = i
        · subst e; rw [uI_nk hk]; exact (f4 m hm).1 k hk
        · rw [uI_ne (by omega)]; exact (f4 m hm).1 k hk
      · by_cases e : m = i
        · subst e; rw [uI_eq, if_pos (by omega)]
        · rw [uI_ne (by omega), (f4 m hm).2]
          by_cases e2 : m < i
          · rw [if_pos e2, if_pos (by omega)]
          · rw [if_neg e2, if_neg (by omega)]
  have mid : ∀ (J : IF), (∀ q, (q < 40 ∨ 41 < q) → J q = I q) → (∀ m, m < nm → ∀ s, s < 14 → bt (J 40 m) s = nrB I nm na nr m s) → (∀ m, m < nm → ∀ c, c < 12 → bt (J 41 m) c = bnB I nm na nr m c) → WQ G (d + 4) Y_X9_search Q 19 [(0, .ref 39), (1, .ref 1)] [] (J, L, RR b) := by
    intro J f1 f2 f3
    have e12 : J 1 2 - 1 = nI (nm - 1) := by rw [f1 1 (by omega), h12]; exact nI_m1 hn0
    have ct := c_X9_tryChannels G (d + 1) I J L b hn0 hn (fun q hq => f1 q (by omega)) f2 f3 hS
    refine wp_aload_n rfl rfl ?_
    refine wp_aload_n rfl rfl ?_
    refine q_geti rfl rfl (by first | rfl | assumption) rfl ?_
    refine wp_iconst (v := 1) rfl rfl ?_
    refine wp_isub rfl ?_
    rw [e12]
    refine cVr rfl l_9_38 i_X9_tryChannels m_X9_tryChannels (by first | rfl | assumption) (by decide) (ct) rfl (Nat.le_of_ble_eq_true rfl) (fun r24 w24 hq24 => ?_)
    obtain ⟨rfl, J3, rfl, g1, g2, g3⟩ := hq24
    refine wp_istore_n (lv' := [(2, _), (0, _), (1, _)]) rfl rfl (by decide) rfl ?_
    refine wp_iload_n rfl rfl ?_
    refine wp_iconst (v := 1) rfl rfl ?_
    refine wp_icmp_eq 31 rfl rfl (fun h28 => ?_) (fun h28 => ?_)
    · refine wp_loc (lv' := [(0, _), (1, _), (2, _)]) [1, 2, 0] rfl ?_
      have hS1 : S.1 = 1 := h28
      have hb := srch_found (ok := okB I nm na nr) (last := nm - 1) 20000 0 (fun _ => 0) (Nat.le_refl _) ⟨by omega, fun l _ => Nat.zero_le _, rfl⟩ (by rw [hS]; exact hS1)
      rw [hS] at hb
      refine wp_iconst (v := 0) rfl rfl ?_
      refine wp_istore_n (lv' := [(3, _), (0, _), (1, _), (2, _)]) rfl rfl (by decide) rfl ?_
      refine wp_iconst (v := 0) rfl rfl ?_
      refine wp_istore (lv' := [(4, _), (3, _), (0, _), (1, _), (2, _)]) rfl (by decide) rfl ?_
      refine wp_loc (lv' := [(0, _), (1, _), (2, _), (3, _), (4, _)]) [2, 3, 4, 1, 0] rfl ?_
      refine found hS1 (fun m hm => hb m (by omega)) nm 0 (by omega) J3 (fun q hq => g1 q (by omega)) g2 (g3 hS1) (fun m hm => ⟨fun k hk => by rw [g1 (4 + m) (by omega)], by rw [if_neg (by omega), g1 (4 + m) (by omega)]⟩)
    · refine wp_iload_n rfl rfl ?_
      exact wp_iret rfl rfl (by rw [← hQ, if_neg h28]; exact ⟨rfl, J3, rfl, fun q hq => g1 q (by omega), g2, fun m hm => ⟨fun k hk => by rw [g1 (4 + m) (by omega)], by rw [if_neg (fun z => h28 z.1), g1 (4 + m) (by omega)]⟩⟩)
  have ban : ∀ (p i : Nat), i + p = nm → ∀ (J : IF), (∀ q, (q < 40 ∨ 41 < q) → J q = I q) → (∀ m, m < nm → ∀ s, s < 14 → bt (J 40 m) s = nrB I nm na nr m s) → (∀ m, m < i → ∀ c, c < 12 → bt (J 41 m) c = bnB I nm na nr m c) → WQ G (d + 4) Y_X9_search Q 5 [(0, .ref 39), (1, .ref 1), (2, .int (nI i))] [] (J, L, RR b) := by
    intro p
    induction p with
    | zero =>
      intro i hi J f1 f2 f3
      have hie : i = nm := by omega
      subst hie
      have hge : J 1 2 ≤ nI i := by rw [f1 1 (by omega), h12]; exact nI_le (Nat.le_refl _) (by omega)
      refine wp_iload_n rfl rfl ?_
      refine wp_aload_n rfl rfl ?_
      refine q_geti rfl rfl (by first | rfl | assumption) rfl ?_
      refine wp_icmp_ge 19 rfl rfl (fun _ => ?_) (fun h8 => absurd hge h8)
      refine wp_loc (lv' := [(0, _), (1, _)]) [0, 1] rfl ?_
      exact mid J f1 f2 f3
    | succ p ih =>
      intro i hi J f1 f2 f3
      have hlt2 : ¬ J 1 2 ≤ nI i := by rw [f1 1 (by omega), h12]; exact nI_ge (by omega) (by omega)
      have hin : vp_in (nI i) 10 := vp_in_nI (by omega) (by omega)
      have hcl : (nI i).toNatClampNeg = i := nI_clamp (by omega)
      have hJW : IW nm na nr J := IW_tun h (fun q hq => f1 q (by omega))
      have cb := c_X9_bannedFor G (d + 2) (m := i) J L b hJW (by omega)
      refine wp_iload_n rfl rfl ?_
      refine wp_aload_n rfl rfl ?_
      refine q_geti rfl rfl (by first | rfl | assumption) rfl ?_
      refine wp_icmp_ge 19 rfl rfl (fun h8 => absurd h8 hlt2) (fun _ => ?_)
      refine wp_aload_n rfl rfl ?_
      refine q_getr rfl rfl (by first | rfl | assumption) rfl rfl ?_
      refine wp_iload_n rfl rfl ?_
      refine wp_aload_n rfl rfl ?_
      refine wp_aload_n rfl rfl ?_
      refine wp_iload_n rfl rfl ?_
      refine cVr rfl l_9_34 i_X9_bannedFor m_X9_bannedFor (by first | rfl | assumption) (by decide) (cb) rfl (Nat.le_of_ble_eq_true rfl) (fun r15 w15 hq15 => ?_)
      obtain ⟨rfl, v, rfl, hv⟩ := hq15
      refine q_iast rfl (by first | rfl | assumption) (by assumption) ?_
      refine wp_iinc (v := nI (i + 1)) (lv' := [(2, _), (0, _), (1, _)]) rfl rfl (nI_1 i) (by decide) rfl ?_
      refine wp_goto 5 rfl rfl ?_
      refine wp_loc (lv' := [(0, _), (1, _), (2, _)]) [1, 2, 0] rfl ?_
      rw [hcl]
      refine ih (i + 1) (by omega) _ (fun q hq => by rw [uI_fn (by omega)]; exact f1 q hq) (fun m hm s hs => by rw [uI_ne (by decide)]; exact f2 m hm s hs) (fun m hm c hc => ?_)
      by_cases e : m = i
      · subst e
        rw [uI_eq]
        apply bool_iff
        rw [hv c hc]
        unfold bnB
        rw [exB_iff]
        constructor
        · rintro ⟨s, z1, z2, z3⟩
          rw [f2 m (by omega) s z1] at z2
          simp (disch := omega) only [f1] at z3
          exact ⟨s, z1, by rw [z2, Bool.true_and]; exact decide_eq_true z3⟩
        · rintro ⟨s, z1, z2⟩
          rw [Bool.and_eq_true, decide_eq_true_eq] at z2
          refine ⟨s, z1, by rw [f2 m (by omega) s z1]; exact z2.1, ?_⟩
          simp (disch := omega) only [f1]
          exact z2.2
      · rw [uI_nk e]; exact f3 m (by omega) c hc
  have cf := c_X9_findNear G d I L b h
  refine MT.intro m_X9_search rfl (Nat.le_of_ble_eq_true rfl) ?_
  show WQ G (d + 4) Y_X9_search Q 0 [(0, .ref 39), (1, .ref 1)] [] (I, L, RR b)
  refine wp_aload_n rfl rfl ?_
  refine wp_aload_n rfl rfl ?_
  refine cVr rfl l_9_24 i_X9_findNear m_X9_findNear (by first | rfl | assumption) (by decide) (cf) rfl (Nat.le_of_ble_eq_true rfl) (fun r2 w2 hq2 => ?_)
  obtain ⟨rfl, J1, rfl, g1, g2⟩ := hq2
  refine wp_iconst (v := 0) rfl rfl ?_
  refine wp_istore_n (lv' := [(2, _), (0, _), (1, _)]) rfl rfl (by decide) rfl ?_
  refine wp_loc (lv' := [(0, _), (1, _), (2, _)]) [1, 2, 0] rfl ?_
  exact ban nm 0 (by omega) J1 (fun q hq => g1 q (by omega)) g2 (fun m hm => absurd hm (by omega))
theorem c_X10_dropChannels (G : Gl) (d : Nat) {nm : Nat} (I : IF) (L : LF) (b : Bool) (h12 : I 1 2 = nI nm) (hn : nm ≤ 10) : MQ2 G d Y_X10_dropChannels [.ref 0] (I, L, RR b) (fun r w => r = none ∧ ∃ J : IF, w = (J, L, RR b) ∧ (∀ q, q ≠ 0 → (q < 4 ∨ 13 < q) → J q = I q) ∧ (∀ k, k ≠ 11 → J 0 k = I 0 k) ∧ J 0 11 = 0 ∧ ∀ m, m < 10 → (∀ k, k ≠ 6 → J (4 + m) k = I (4 + m) k) ∧ J (4 + m) 6 = if m < nm then -1 else I (4 + m) 6) := by
  generalize hQ : (fun (r : Option Value) (w : mW) => r = none ∧ ∃ J : IF, w = (J, L, RR b) ∧ (∀ q, q ≠ 0 → (q < 4 ∨ 13 < q) → J q = I q) ∧ (∀ k, k ≠ 11 → J 0 k = I 0 k) ∧ J 0 11 = 0 ∧ ∀ m, m < 10 → (∀ k, k ≠ 6 → J (4 + m) k = I (4 + m) k) ∧ J (4 + m) 6 = if m < nm then -1 else I (4 + m) 6) = Q
  have loop : ∀ (p i : Nat), i + p = nm → ∀ J : IF, (∀ q, q ≠ 0 → (q < 4 ∨ 13 < q) → J q = I q) → (∀ k, k ≠ 11 → J 0 k = I 0 k) → J 0 11 = 0 → (∀ m, m < 10 → (∀ k, k ≠ 6 → J (4 + m) k = I (4 + m) k) ∧ J (4 + m) 6 = if m < i then -1 else I (4 + m) 6) → WQ G d Y_X10_dropChannels Q 5 [(0, .ref 0), (1, .int (nI i))] [] (J, L, RR b) := by
    intro p
    induction p with
    | zero =>
      intro i hi J f1 f2 f3 f4
      have hie : i = nm := by omega
      subst hie
      have hge : J 1 2 ≤ nI i := by rw [f1 1 (by omega) (by omega), h12]; exact nI_le (Nat.le_refl _) (by omega)
      refine wp_iload_n rfl rfl ?_
      refine wp_aload_n rfl rfl ?_
      refine q_getr rfl rfl (by first | rfl | assumption) rfl rfl ?_
      refine q_geti rfl rfl (by first | rfl | assumption) rfl ?_
      refine wp_icmp_ge 19 rfl rfl (fun _ => ?_) (fun h9 => absurd hge h9)
      exact wp_vret rfl rfl (by rw [← hQ]; exact ⟨rfl, J, rfl, f1, f2, f3, f4⟩)
    | succ p ih =>
      intro i hi J f1 f2 f3 f4
      have hlt2 : ¬ J 1 2 ≤ nI i := by rw [f1 1 (by omega) (by omega), h12]; exact nI_ge (by omega) (by omega)
      have hsm := sh_mast i (by omega)
      refine wp_iload_n rfl rfl ?_
      refine wp_aload_n rfl rfl ?_
      refine q_getr rfl rfl (by first | rfl | assumption) rfl rfl ?_
      refine q_geti rfl rfl (by first | rfl | assumption) rfl ?_
      refine wp_icmp_ge 19 rfl rfl (fun h9 => absurd h9 hlt2) (fun _ => ?_)
      refine wp_aload_n rfl rfl ?_
      refine q_getr rfl rfl (by first | rfl | assumption) rfl rfl ?_
      refine q_getr rfl rfl (by first | rfl | assumption) rfl rfl ?_
      refine wp_iload_n rfl rfl ?_
      refine q_mast rfl rfl (by omega) ?_
      refine wp_iconst (v := (-1)) rfl rfl ?_
      refine q_puti rfl rfl (by first | rfl | assumption) (Or.inl rfl) rfl ?_
      refine wp_iinc (v := nI (i + 1)) (lv' := [(1, _), (0, _)]) rfl rfl (nI_1 i) (by decide) rfl ?_
      refine wp_goto 5 rfl rfl ?_
      refine wp_loc (lv' := [(0, _), (1, _)]) [1, 0] rfl ?_
      refine ih (i + 1) (by omega) _ (fun q h0 hq => by rw [uI_fn (by omega)]; exact f1 q h0 hq) (fun k hk => by rw [uI_ne (by omega)]; exact f2 k hk) (by rw [uI_ne (by omega)]; exact f3) (fun m hm => ⟨fun k hk => ?_, ?_⟩)
      · by_cases e : m = i
        · subst e; rw [uI_nk hk]; exact (f4 m hm).1 k hk
        · rw [uI_ne (by omega)]; exact (f4 m hm).1 k hk
      · by_cases e : m = i
        · subst e; rw [uI_eq, if_pos (by omega)]
        · rw [uI_ne (by omega), (f4 m hm).2]
          by_cases e2 : m < i
          · rw [if_pos e2, if_pos (by omega)]
          · rw [if_neg e2, if_neg (by omega)]
  refine MT.intro m_X10_dropChannels rfl (Nat.le_of_ble_eq_true rfl) ?_
  show WQ G d Y_X10_dropChannels Q 0 [(0, .ref 0)] [] (I, L, RR b)
  refine wp_aload_n rfl rfl ?_
  refine wp_iconst (v := 0) rfl rfl ?_
  refine q_putz rfl rfl (by first | rfl | assumption) (Or.inl rfl) rfl (Or.inl rfl) ?_
  refine wp_iconst (v := 0) rfl rfl ?_
  refine wp_istore_n (lv' := [(1, _), (0, _)]) rfl rfl (by decide) rfl ?_
  refine wp_loc (lv' := [(0, _), (1, _)]) [1, 0] rfl ?_
  exact loop nm 0 (by omega) _ (fun q h0 hq => uI_fn h0) (fun k hk => uI_nk hk) uI_eq (fun m hm => ⟨fun k hk => uI_ne (by omega), by rw [if_neg (by omega), uI_ne (by omega)]⟩)
/-- the search looks at these cells alone -/
theorem hO_cg {I J : IF} {nr s m : Nat} (h1 : J 1 7 = I 1 7) (hm : ∀ m k, m < 14 → k ≠ 6 → J (4 + m) k = I (4 + m) k) (ha : ∀ a, a < 16 → J (18 + a) = I (18 + a)) (hnr : nr ≤ 16) (hs : s < 14) (hm14 : m < 14) : hO J nr s m = hO I nr s m := by
  unfold hO
  refine exB_cg nr (fun a ha2 => ?_)
  have e1 : ∀ m, m < 14 → stg J m a = stg I m a := fun m hm2 => by unfold stg; simp (disch := omega) only [hm, ha]
  rw [ha a (by omega), h1, e1 m hm14, e1 s hs]
theorem nrB_cg {I J : IF} {nm na nr s m : Nat} (h1 : J 1 7 = I 1 7) (hm : ∀ m k, m < 14 → k ≠ 6 → J (4 + m) k = I (4 + m) k) (ha : ∀ a, a < 16 → J (18 + a) = I (18 + a)) (hnr : nr ≤ 16) (hs : s < 14) (hm14 : m < 14) : nrB J nm na nr m s = nrB I nm na nr m s := by
  unfold nrB
  rw [hO_cg h1 hm ha hnr hs hm14, hO_cg h1 hm ha hnr hm14 hs]
theorem okB_cg {I J : IF} {nm na nr m : Nat} (h1 : J 1 7 = I 1 7) (hm : ∀ m k, m < 14 → k ≠ 6 → J (4 + m) k = I (4 + m) k) (ha : ∀ a, a < 16 → J (18 + a) = I (18 + a)) (hnr : nr ≤ 16) (hm14 : m < 14) (ch : Nat → Nat) : okB J nm na nr ch m = okB I nm na nr ch m := by
  unfold okB bnB
  congr 2
  · refine exB_cg 14 (fun s hs => ?_)
    rw [nrB_cg h1 hm ha hnr hs hm14]
    simp (disch := omega) only [hm]
  · refine exB_cg m (fun s hs => ?_)
    rw [nrB_cg h1 hm ha hnr (by omega) hm14]
theorem srch_cg {ok ok' : (Nat → Nat) → Nat → Bool} {last : Nat} (h : ∀ ch m, m ≤ last → ok ch m = ok' ch m) : ∀ (f at_ : Nat) (ch : Nat → Nat), at_ ≤ last → srch ok last f at_ ch = srch ok' last f at_ ch
  | 0, _, _, _ => rfl
  | f + 1, at_, ch, hl => by
    simp only [srch]
    rw [h ch at_ hl]
    split
    · split
      · rfl
      · exact srch_cg h f _ _ (by omega)
    · cases ha : adv ch at_ with
      | none => rfl
      | some j => exact srch_cg h f _ _ (by have := (adv_some at_ j ha).1; omega)
theorem c_X10_channels_no (G : Gl) (d : Nat) (I : IF) (L : LF) (b : Bool) (hno : I 0 10 = -1 ∨ ¬ I 1 5 ≤ 0) : MD G d Y_X10_channels [.ref 0] (I, L, RR b) (some (.int (-9))) (I, L, RR b) := by
  cases d with
  | zero =>
    refine MT.intro m_X10_channels rfl (Nat.le_of_ble_eq_true rfl) ?_
    show WQ G 0 Y_X10_channels _ 0 [(0, .ref 0)] [] (I, L, RR b)
    refine wp_aload_n rfl rfl ?_
    refine q_geti rfl rfl (by first | rfl | assumption) rfl ?_
    refine wp_iconst (v := (-1)) rfl rfl ?_
    refine wp_icmp_eq 8 rfl rfl (fun h3 => ?_) (fun h3 => ?_)
    · refine wp_bipush (v := (-9)) rfl rfl ?_
      exact wp_iret rfl rfl (⟨rfl, rfl⟩)
    · refine wp_aload_n rfl rfl ?_
      refine q_getr rfl rfl (by first | rfl | assumption) rfl rfl ?_
      refine q_geti rfl rfl (by first | rfl | assumption) rfl ?_
      refine wp_if_le 10 rfl rfl (fun h7 => ?_) (fun h7 => ?_)
      · exact absurd h7 (by grind)
      · refine wp_bipush (v := (-9)) rfl rfl ?_
        exact wp_iret rfl rfl (⟨rfl, rfl⟩)
  | succ d =>
    refine MT.intro m_X10_channels rfl (Nat.le_of_ble_eq_true rfl) ?_
    show WQ G (d + 1) Y_X10_channels _ 0 [(0, .ref 0)] [] (I, L, RR b)
    refine wp_aload_n rfl rfl ?_
    refine q_geti rfl rfl (by first | rfl | assumption) rfl ?_
    refine wp_iconst (v := (-1)) rfl rfl ?_
    refine wp_icmp_eq 8 rfl rfl (fun h3 => ?_) (fun h3 => ?_)
    · refine wp_bipush (v := (-9)) rfl rfl ?_
      exact wp_iret rfl rfl (⟨rfl, rfl⟩)
    · refine wp_aload_n rfl rfl ?_
      refine q_getr rfl rfl (by first | rfl | assumption) rfl rfl ?_
      refine q_geti rfl rfl (by first | rfl | assumption) rfl ?_
      refine wp_if_le 10 rfl rfl (fun h7 => ?_) (fun h7 => ?_)
      · exact absurd h7 (by grind)
      · refine wp_bipush (v := (-9)) rfl rfl ?_
        exact wp_iret rfl rfl (⟨rfl, rfl⟩)
theorem c_X10_channels (G : Gl) (d : Nat) {nm na nr : Nat} (I : IF) (L : LF) (b : Bool) (h : IW nm na nr I) (hn0 : 0 < nm) (h10 : ¬ I 0 10 = -1) (h5 : I 1 5 ≤ 0) {S : Int32 × Nat × (Nat → Nat)} (hS : srch (okB I nm na nr) (nm - 1) 20000 0 (fun _ => 0) = S) : MQ2 G (d + 5) Y_X10_channels [.ref 0] (I, L, RR b) (fun r w => r = some (.int (if S.1 = 1 then bcF (usd S.2.2 nm) else S.1)) ∧ ∃ J : IF, w = (J, L, RR b) ∧ (∀ q, q ≠ 0 → (q < 4 ∨ (13 < q ∧ q < 39) ∨ 43 < q) → J q = I q) ∧ (∀ k, k ≠ 11 → J 0 k = I 0 k) ∧ J 0 11 = b2 (S.1 = 1) ∧ J 39 4 = nI S.2.1 ∧ ∀ m, m < 10 → (∀ k, k ≠ 6 → J (4 + m) k = I (4 + m) k) ∧ J (4 + m) 6 = if m < nm then (if S.1 = 1 then nI (S.2.2 m) else -1) else I (4 + m) 6) := by
  have hn : nm ≤ 10 := h.1.1.2.2
  have hnr : nr ≤ 16 := h.1.2.2.2.2
  have h12 : I 1 2 = nI nm := h.1.1.1
  have hb := srch_found (ok := okB I nm na nr) (last := nm - 1) 20000 0 (fun _ => 0) (Nat.le_refl _) ⟨by omega, fun l _ => Nat.zero_le _, rfl⟩
  have hr := srch_res (ok := okB I nm na nr) (last := nm - 1) 20000 0 (fun _ => 0)
  rw [hS] at hb hr
  have hpos : ¬ (if S.1 = 1 then bcF (usd S.2.2 nm) else S.1) ≤ 0 ↔ S.1 = 1 := by
    by_cases e : S.1 = 1
    · rw [if_pos e]
      have := (usd_bc (ch := S.2.2) (n := nm) (fun m hm => by have := hb e m (by omega); omega) hn0).2
      grind
    · rw [if_neg e]
      rcases hr with z | z | z
      · exact absurd z e
      · rw [z]; decide
      · rw [z]; decide
  have cd := c_X10_dropChannels G (d + 4) I L b h12 hn
  refine MT.intro m_X10_channels rfl (Nat.le_of_ble_eq_true rfl) ?_
  show WQ G (d + 5) Y_X10_channels _ 0 [(0, .ref 0)] [] (I, L, RR b)
  refine wp_aload_n rfl rfl ?_
  refine q_geti rfl rfl (by first | rfl | assumption) rfl ?_
  refine wp_iconst (v := (-1)) rfl rfl ?_
  refine wp_icmp_eq 8 rfl rfl (fun h3 => absurd h3 h10) (fun _ => ?_)
  refine wp_aload_n rfl rfl ?_
  refine q_getr rfl rfl (by first | rfl | assumption) rfl rfl ?_
  refine q_geti rfl rfl (by first | rfl | assumption) rfl ?_
  refine wp_if_le 10 rfl rfl (fun _ => ?_) (fun h7 => absurd h5 h7)
  refine wp_aload_n rfl rfl ?_
  refine cVr rfl l_10_185 i_X10_dropChannels m_X10_dropChannels (by first | rfl | assumption) (by decide) (cd) rfl (Nat.le_of_ble_eq_true rfl) (fun r11 w11 hq11 => ?_)
  obtain ⟨rfl, J1, rfl, g1, g2, g3, g4⟩ := hq11
  have gm : ∀ m k, m < 14 → k ≠ 6 → J1 (4 + m) k = I (4 + m) k := fun m k hm hk => by
    rcases Nat.lt_or_ge m 10 with e | e
    · exact (g4 m e).1 k hk
    · rw [g1 (4 + m) (by omega) (by omega)]
  have hW1 : IW nm na nr J1 := IW_fr h (fun k _ => by rw [g1 1 (by omega) (by omega)]) (fun k _ => by rw [g1 72 (by omega) (by omega)]) (fun m k hm h6 _ _ => gm m k hm h6) (fun a k ha _ => by rw [g1 (18 + a) (by omega) (by omega)]) (fun a ha => by rw [g1 (18 + a) (by omega) (by omega)]) (fun q hq => g1 q (by omega) (by omega))
  have hS1 : srch (okB J1 nm na nr) (nm - 1) 20000 0 (fun _ => 0) = S := by
    rw [← hS]
    exact srch_cg (fun ch m hm => okB_cg (by rw [g1 1 (by omega) (by omega)]) gm (fun a ha => g1 (18 + a) (by omega) (by omega)) hnr (by omega) ch) 20000 0 _ (by omega)
  have cs := c_X9_search G d J1 L b hW1 hn0 hS1
  refine wp_aload_n rfl rfl ?_
  refine q_getr rfl rfl (by first | rfl | assumption) rfl rfl ?_
  refine wp_aload_n rfl rfl ?_
  refine q_getr rfl rfl (by first | rfl | assumption) rfl rfl ?_
  refine cVr rfl l_10_193 i_X9_search m_X9_search (by first | rfl | assumption) (by decide) (cs) rfl (Nat.le_of_ble_eq_true rfl) (fun r16 w16 hq16 => ?_)
  obtain ⟨rfl, J2, rfl, k1, k2, k3⟩ := hq16
  refine wp_istore_n (lv' := [(1, _), (0, _)]) rfl rfl (by decide) rfl ?_
  refine wp_aload_n rfl rfl ?_
  refine wp_iload_n rfl rfl ?_
  refine wp_if_le 23 rfl rfl (fun h20 => ?_) (fun h20 => ?_)
  · refine wp_iconst (v := 0) rfl rfl ?_
    refine q_putz rfl rfl (by first | rfl | assumption) (Or.inl rfl) rfl (by first | exact Or.inl rfl | exact Or.inr rfl) ?_
    refine wp_iload_n rfl rfl ?_
    exact wp_iret rfl rfl (by
refine ⟨rfl, _, rfl, fun q h0 hq => ?_, fun k hk => ?_, ?_, ?_, fun m hm => ⟨fun k hk => ?_, ?_⟩⟩
· rw [uI_fn h0, k1 q hq, g1 q h0 (by omega)]
· rw [uI_nk hk, k1 0 (by omega), g2 k hk]
· rw [uI_eq]; first | exact (b2_t (hpos.mp h20)).symm | exact (b2_f (fun z => (hpos.mpr z) h20)).symm
· rw [uI_ne (by decide)]; exact k2
· rw [uI_ne (by omega), (k3 m hm).1 k hk, (g4 m hm).1 k hk]
· rw [uI_ne (by omega), (k3 m hm).2, (g4 m hm).2]
  by_cases e1 : S.1 = 1 <;> by_cases e2 : m < nm <;> simp [e1, e2])
  · refine wp_iconst (v := 1) rfl rfl ?_
    refine wp_goto 24 rfl rfl ?_
    refine q_putz rfl rfl (by first | rfl | assumption) (Or.inl rfl) rfl (by first | exact Or.inl rfl | exact Or.inr rfl) ?_
    refine wp_iload_n rfl rfl ?_
    exact wp_iret rfl rfl (by
refine ⟨rfl, _, rfl, fun q h0 hq => ?_, fun k hk => ?_, ?_, ?_, fun m hm => ⟨fun k hk => ?_, ?_⟩⟩
· rw [uI_fn h0, k1 q hq, g1 q h0 (by omega)]
· rw [uI_nk hk, k1 0 (by omega), g2 k hk]
· rw [uI_eq]; first | exact (b2_t (hpos.mp h20)).symm | exact (b2_f (fun z => (hpos.mpr z) h20)).symm
· rw [uI_ne (by decide)]; exact k2
· rw [uI_ne (by omega), (k3 m hm).1 k hk, (g4 m hm).1 k hk]
· rw [uI_ne (by omega), (k3 m hm).2, (g4 m hm).2]
  by_cases e1 : S.1 = 1 <;> by_cases e2 : m < nm <;> simp [e1, e2])
