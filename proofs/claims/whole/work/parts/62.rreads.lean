/-! the reference reads a text -/
theorem ST.nt {T : Nat → Int32} {n i : Nat} {I0 J : IF} {L0 L : LF} {es : List RE} (h : ST T n I0 L0 i es J L) : ROK T n (uI J 72 48 (nI (es.length + 1))) L 0 i (uI J 72 48 (nI (es.length + 1))) L := ⟨RG.refl, h.2.1.i (by decide), by rw [uI_nk (by decide)]; exact h.2.2.1, by rw [uI_nk (by decide)]; exact h.2.2.2.1, rfl⟩
theorem ST.go {T : Nat → Int32} {n i j : Nat} {I0 J J4 : IF} {L0 L L4 : LF} {es : List RE} (h : ST T n I0 L0 i es J L) (hR : ROK T n (uI J 72 48 (nI (es.length + 1))) L 0 j J4 L4) : RX I0 L0 J4 L4 ∧ TS T n (ps T n j) J4 L4 ∧ J4 72 47 = 0 ∧ J4 72 52 = 0 ∧ J4 72 37 = I0 72 37 ∧ J4 72 48 = nI (es.length + 1) ∧ J4 72 49 = cpr es ∧ J4 72 53 = bI (gst (L0 101) es).1 ∧ L4 72 51 = (gst (L0 101) es).2 := by
  obtain ⟨s1, s2, s3, s4, s5, s6, s7, s8, s9⟩ := h
  obtain ⟨r1, r2, r3, r4, r5⟩ := hR
  refine ⟨(s1.i (Or.inl rfl)).rg r1, r2, r3, r4, by rw [r5, uI_nk (by decide)]; exact s5, ?_, ?_, ?_, ?_⟩
  · rw [r1.2.1 48 (by decide) (by decide) (by decide) (by decide) (by decide) (by decide), uI_eq]
  · rw [r1.2.1 49 (by decide) (by decide) (by decide) (by decide) (by decide) (by decide), uI_nk (by decide)]; exact s7
  · rw [r1.2.1 53 (by decide) (by decide) (by decide) (by decide) (by decide) (by decide), uI_nk (by decide)]; exact s8
  · rw [r1.2.2.2 51 (by decide)]; exact s9
theorem ST.bad {T : Nat → Int32} {n i j : Nat} {I0 J J4 : IF} {L0 L L4 : LF} {es : List RE} (h : ST T n I0 L0 i es J L) (hR : RBD T n (uI J 72 48 (nI (es.length + 1))) L j J4 L4) : SB T n I0 L0 j J4 L4 := SB.of (h.1.i (Or.inl rfl)) hR
def UQ (T : Nat → Int32) (n : Nat) (I0 : IF) (L0 : LF) (b : Bool) (o : Bool) (j : Nat) (es : List RE) (r : Option Value) (w : mW) : Prop := r = none ∧ ∃ J L, w = (J, L, RR b) ∧ (o = true → ST T n I0 L0 j es J L) ∧ (o = false → SB T n I0 L0 j J L)
theorem u_full (G : Gl) (d : Nat) {T : Nat → Int32} {n t i : Nat} {I0 J : IF} {L0 L : LF} {b : Bool} {es : List RE} (hx : RTX T n t I0) (h : ST T n I0 L0 i es J L) (hl : es.length = 10) : MQ2 G (d + 33) Y_X11_rule [.ref 72] (J, L, RR b) (UQ T n I0 L0 b false i es) := by
  have e48 : J 72 48 = 10 := by rw [h.2.2.2.2.2.1, hl]; rfl
  have his := r_is G (d + 28) (b := b) (j := 6) (v := -102) (h.1.rtx hx) h.ok (by decide) (by decide)
  refine MT.intro m_X11_rule rfl (Nat.le_of_ble_eq_true rfl) ?_
  show WQ G (d + 33) Y_X11_rule _ 0 [(0, .ref 72)] [] (J, L, RR b)
  refine wp_aload_n rfl rfl ?_
  refine wp_ldcT (tx := "give") rfl (List.mem_of_getElem? (i := 10) rfl) ?_
  refine cV1 rfl l_11_268 i_X11_is m_X11_is (by first | rfl | assumption) (by decide) (his) rfl (Nat.le_of_ble_eq_true rfl) ?_
  refine wp_istore_n (lv' := [(1, _), (0, _)]) rfl rfl (by decide) rfl ?_
  refine wp_aload_n rfl rfl ?_
  refine q_geti rfl rfl (by first | rfl | assumption) rfl ?_
  refine wp_bipush (v := 10) rfl rfl ?_
  refine wp_icmp_eq 14 rfl rfl (fun _ => ?_) (fun h7 => absurd e48 h7)
  refine wp_aload_n rfl rfl ?_
  refine cVr rfl l_11_258 i_X11_bad m_X11_bad (by first | rfl | assumption) (by decide) (r_bad G _ h.ok) rfl (Nat.le_of_ble_eq_true rfl) (fun r15 w15 hq15 => ?_)
  obtain ⟨rfl, J2, rfl, hB⟩ := hq15
  exact wp_vret rfl rfl (⟨rfl, J2, L, rfl, nofun, fun _ => SB.of h.1 hB⟩)
theorem u_none (G : Gl) (d : Nat) {T : Nat → Int32} {n t i : Nat} {I0 J : IF} {L0 L : LF} {b : Bool} {es : List RE} (hx : RTX T n t I0) (h : ST T n I0 L0 i es J L) (h1 : ¬ KK T n i = -102) (h2 : ¬ KK T n i = -103) (hl : es.length < 10) : MQ2 G (d + 33) Y_X11_rule [.ref 72] (J, L, RR b) (UQ T n I0 L0 b false i es) := by
  have e48 : ¬ J 72 48 = 10 := fun z => by
    rw [h.2.2.2.2.2.1] at z
    have := (nI_eq (a := es.length) (b := 10) (by omega) (by omega)).mp z
    omega
  have his := r_is G (d + 28) (b := b) (j := 6) (v := -102) (h.1.rtx hx) h.ok (by decide) (by decide)
  have his2 := r_is G (d + 28) (b := b) (j := 7) (v := -103) (h.1.rtx hx) h.ok (by decide) (by decide)
  refine MT.intro m_X11_rule rfl (Nat.le_of_ble_eq_true rfl) ?_
  show WQ G (d + 33) Y_X11_rule _ 0 [(0, .ref 72)] [] (J, L, RR b)
  refine wp_aload_n rfl rfl ?_
  refine wp_ldcT (tx := "give") rfl (List.mem_of_getElem? (i := 10) rfl) ?_
  refine cV1 rfl l_11_268 i_X11_is m_X11_is (by first | rfl | assumption) (by decide) (his) rfl (Nat.le_of_ble_eq_true rfl) ?_
  refine wp_istore_n (lv' := [(1, _), (0, _)]) rfl rfl (by decide) rfl ?_
  refine wp_aload_n rfl rfl ?_
  refine q_geti rfl rfl (by first | rfl | assumption) rfl ?_
  refine wp_bipush (v := 10) rfl rfl ?_
  refine wp_icmp_eq 14 rfl rfl (fun h7 => absurd h7 e48) (fun _ => ?_)
  refine wp_iload_n rfl rfl ?_
  refine wp_if_ne 17 rfl rfl (fun h9 => absurd (b2_f h1) h9) (fun _ => ?_)
  refine wp_aload_n rfl rfl ?_
  refine wp_ldcT (tx := "cap") rfl (List.mem_of_getElem? (i := 11) rfl) ?_
  refine cV1 rfl l_11_268 i_X11_is m_X11_is (by first | rfl | assumption) (by decide) (his2) rfl (Nat.le_of_ble_eq_true rfl) ?_
  refine wp_if_ne 17 rfl rfl (fun h13 => absurd (b2_f h2) h13) (fun _ => ?_)
  refine wp_aload_n rfl rfl ?_
  refine cVr rfl l_11_258 i_X11_bad m_X11_bad (by first | rfl | assumption) (by decide) (r_bad G _ h.ok) rfl (Nat.le_of_ble_eq_true rfl) (fun r15 w15 hq15 => ?_)
  obtain ⟨rfl, J2, rfl, hB⟩ := hq15
  exact wp_vret rfl rfl (⟨rfl, J2, L, rfl, nofun, fun _ => SB.of h.1 hB⟩)
theorem u_cap (G : Gl) (d : Nat) {T : Nat → Int32} {n t i : Nat} {I0 J : IF} {L0 L : LF} {b : Bool} {es : List RE} (hx : RTX T n t I0) (h : ST T n I0 L0 i es J L) (h1 : ¬ KK T n i = -102) (h2 : KK T n i = -103) (hl : es.length < 10) (h3 : 0 ≤ KK T n (i + 1)) : MQ2 G (d + 33) Y_X11_rule [.ref 72] (J, L, RR b) (UQ T n I0 L0 b true (i + 2) (es ++ [(KK T n (i + 1), [], [])])) := by
  have e48 : ¬ J 72 48 = 10 := fun z => by
    rw [h.2.2.2.2.2.1] at z
    have := (nI_eq (a := es.length) (b := 10) (by omega) (by omega)).mp z
    omega
  have e48b : J 72 48 + 1 = nI (es.length + 1) := by rw [h.2.2.2.2.2.1, nI_1]
  have his := r_is G (d + 28) (b := b) (j := 6) (v := -102) (h.1.rtx hx) h.ok (by decide) (by decide)
  have his2 := r_is G (d + 28) (b := b) (j := 7) (v := -103) (h.1.rtx hx) h.ok (by decide) (by decide)
  have hx1 : RTX T n t (uI J 72 48 (nI (es.length + 1))) := (h.1.i (Or.inl rfl)).rtx hx
  have hnx := r_next G (d + 31) (b := b) hx1 h.nt (by rw [h2]; decide)
  have hne : ¬ KK T n (i + 1) = -1 := fun z => by rw [z] at h3; exact absurd h3 (by decide)
  have K44 : ∀ (v : Int32) (J3 : IF) (L3 : LF) (x1 : Int32), ROK T n (uI J 72 48 (nI (es.length + 1))) L 0 (i + 2) J3 L3 → v = cp1 (cpr es) (KK T n (i + 1), [], []) → WQ G (d + 33) Y_X11_rule (UQ T n I0 L0 b true (i + 2) (es ++ [(KK T n (i + 1), [], [])])) 44 [(0, .ref 72), (1, .int x1), (2, .int (KK T n (i + 1)))] [.int v, .ref 72] (J3, L3, RR b) := by
    intro v J3 L3 x1 hR3 hv
    obtain ⟨g1, g2, g3, g4, g5, g6, g7, g8, g9⟩ := h.go hR3
    have hg : gst (L0 101) (es ++ [(KK T n (i + 1), [], [])]) = gst (L0 101) es := by rw [gst_s]; unfold gs1; rw [if_neg (fun z => hne z.1)]
    refine q_puti rfl rfl (by first | rfl | assumption) (Or.inl rfl) rfl ?_
    exact wp_vret rfl rfl (⟨rfl, _, L3, rfl, fun _ => ⟨g1.i (Or.inr (Or.inl rfl)), g2.i (by decide), by rw [uI_nk (by decide)]; exact g3, by rw [uI_nk (by decide)]; exact g4, by rw [uI_nk (by decide)]; exact g5, by rw [uI_nk (by decide), List.length_append, List.length_singleton]; exact g6, by rw [uI_eq, cpr_s]; exact hv, by rw [uI_nk (by decide), hg]; exact g8, by rw [hg]; exact g9⟩, nofun⟩)
  refine MT.intro m_X11_rule rfl (Nat.le_of_ble_eq_true rfl) ?_
  show WQ G (d + 33) Y_X11_rule _ 0 [(0, .ref 72)] [] (J, L, RR b)
  refine wp_aload_n rfl rfl ?_
  refine wp_ldcT (tx := "give") rfl (List.mem_of_getElem? (i := 10) rfl) ?_
  refine cV1 rfl l_11_268 i_X11_is m_X11_is (by first | rfl | assumption) (by decide) (his) rfl (Nat.le_of_ble_eq_true rfl) ?_
  refine wp_istore_n (lv' := [(1, _), (0, _)]) rfl rfl (by decide) rfl ?_
  refine wp_aload_n rfl rfl ?_
  refine q_geti rfl rfl (by first | rfl | assumption) rfl ?_
  refine wp_bipush (v := 10) rfl rfl ?_
  refine wp_icmp_eq 14 rfl rfl (fun h7 => absurd h7 e48) (fun _ => ?_)
  refine wp_iload_n rfl rfl ?_
  refine wp_if_ne 17 rfl rfl (fun h9 => absurd (b2_f h1) h9) (fun _ => ?_)
  refine wp_aload_n rfl rfl ?_
  refine wp_ldcT (tx := "cap") rfl (List.mem_of_getElem? (i := 11) rfl) ?_
  refine cV1 rfl l_11_268 i_X11_is m_X11_is (by first | rfl | assumption) (by decide) (his2) rfl (Nat.le_of_ble_eq_true rfl) ?_
  refine wp_if_ne 17 rfl rfl (fun _ => ?_) (fun h13 => absurd h13 (b2_ne.mpr h2))
  refine wp_aload_n rfl rfl ?_
  refine wp_dup rfl rfl ?_
  refine q_geti rfl rfl (by first | rfl | assumption) rfl ?_
  refine wp_iconst (v := 1) rfl rfl ?_
  refine wp_iadd rfl ?_
  rw [e48b]
  refine q_puti rfl rfl (by first | rfl | assumption) (Or.inl rfl) rfl ?_
  refine wp_aload_n rfl rfl ?_
  refine cVr rfl l_11_261 i_X11_next m_X11_next (by first | rfl | assumption) (by decide) (hnx) rfl (Nat.le_of_ble_eq_true rfl) (fun r24 w24 hq24 => ?_)
  obtain ⟨rfl, J2, L2, rfl, hR2⟩ := hq24
  refine wp_iload_n rfl rfl ?_
  refine wp_if_ne 46 rfl rfl (fun h26 => absurd (b2_f h1) h26) (fun _ => ?_)
  refine wp_aload_n rfl rfl ?_
  refine cVr rfl l_11_264 i_X11_whole m_X11_whole (by first | rfl | assumption) (by decide) (r_whole G (d + 30) hx1 hR2 h3) rfl (Nat.le_of_ble_eq_true rfl) (fun r28 w28 hq28 => ?_)
  obtain ⟨rfl, J3, L3, rfl, hR3⟩ := hq28
  have g52 : ¬ ¬ J3 72 52 = 0 := fun z => z hR3.2.2.2.1
  have g49 : J3 72 49 = cpr es := (h.go hR3).2.2.2.2.2.2.1
  have cA : J3 72 49 = -1 → KK T n (i + 1) = cp1 (cpr es) (KK T n (i + 1), [], []) := fun z => by unfold cp1; rw [if_neg hne, ← g49, if_pos z]
  have cB : ¬ J3 72 49 = -1 → (if KK T n (i + 1) < J3 72 49 then KK T n (i + 1) else J3 72 49) = cp1 (cpr es) (KK T n (i + 1), [], []) := fun z => by unfold cp1; rw [if_neg hne, ← g49, if_neg z]
  refine wp_istore_n (lv' := [(2, _), (1, _), (0, _)]) rfl rfl (by decide) rfl ?_
  refine wp_aload_n rfl rfl ?_
  refine q_geti rfl rfl (by first | rfl | assumption) rfl ?_
  refine wp_if_ne 45 rfl rfl (fun h32 => absurd h32 g52) (fun _ => ?_)
  refine wp_aload_n rfl rfl ?_
  refine wp_aload_n rfl rfl ?_
  refine q_geti rfl rfl (by first | rfl | assumption) rfl ?_
  refine wp_iconst (v := (-1)) rfl rfl ?_
  refine wp_icmp_ne 40 rfl rfl (fun h37 => ?_) (fun h37 => ?_)
  · refine wp_aload_n rfl rfl ?_
    refine q_geti rfl rfl (by first | rfl | assumption) rfl ?_
    refine wp_iload_n rfl rfl ?_
    refine q_mmin rfl l_11_305 (Nat.le_of_ble_eq_true rfl) ?_
    refine wp_loc (lv' := [(0, _), (1, _), (2, _)]) [2, 1, 0] rfl ?_
    exact K44 _ J3 L3 _ hR3 (by first | exact cA h37 | exact cB h37)
  · refine wp_iload_n rfl rfl ?_
    refine wp_goto 44 rfl rfl ?_
    refine wp_loc (lv' := [(0, _), (1, _), (2, _)]) [2, 1, 0] rfl ?_
    exact K44 _ J3 L3 _ hR3 (by first | exact cA h37 | exact cB h37)
theorem u_cap0 (G : Gl) (d : Nat) {T : Nat → Int32} {n t i : Nat} {I0 J : IF} {L0 L : LF} {b : Bool} {es : List RE} (hx : RTX T n t I0) (h : ST T n I0 L0 i es J L) (h1 : ¬ KK T n i = -102) (h2 : KK T n i = -103) (hl : es.length < 10) (h3 : ¬ 0 ≤ KK T n (i + 1)) : MQ2 G (d + 33) Y_X11_rule [.ref 72] (J, L, RR b) (UQ T n I0 L0 b false (i + 1) es) := by
  have e48 : ¬ J 72 48 = 10 := fun z => by
    rw [h.2.2.2.2.2.1] at z
    have := (nI_eq (a := es.length) (b := 10) (by omega) (by omega)).mp z
    omega
  have e48b : J 72 48 + 1 = nI (es.length + 1) := by rw [h.2.2.2.2.2.1, nI_1]
  have his := r_is G (d + 28) (b := b) (j := 6) (v := -102) (h.1.rtx hx) h.ok (by decide) (by decide)
  have his2 := r_is G (d + 28) (b := b) (j := 7) (v := -103) (h.1.rtx hx) h.ok (by decide) (by decide)
  have hx1 : RTX T n t (uI J 72 48 (nI (es.length + 1))) := (h.1.i (Or.inl rfl)).rtx hx
  have hnx := r_next G (d + 31) (b := b) hx1 h.nt (by rw [h2]; decide)
  refine MT.intro m_X11_rule rfl (Nat.le_of_ble_eq_true rfl) ?_
  show WQ G (d + 33) Y_X11_rule _ 0 [(0, .ref 72)] [] (J, L, RR b)
  refine wp_aload_n rfl rfl ?_
  refine wp_ldcT (tx := "give") rfl (List.mem_of_getElem? (i := 10) rfl) ?_
  refine cV1 rfl l_11_268 i_X11_is m_X11_is (by first | rfl | assumption) (by decide) (his) rfl (Nat.le_of_ble_eq_true rfl) ?_
  refine wp_istore_n (lv' := [(1, _), (0, _)]) rfl rfl (by decide) rfl ?_
  refine wp_aload_n rfl rfl ?_
  refine q_geti rfl rfl (by first | rfl | assumption) rfl ?_
  refine wp_bipush (v := 10) rfl rfl ?_
  refine wp_icmp_eq 14 rfl rfl (fun h7 => absurd h7 e48) (fun _ => ?_)
  refine wp_iload_n rfl rfl ?_
  refine wp_if_ne 17 rfl rfl (fun h9 => absurd (b2_f h1) h9) (fun _ => ?_)
  refine wp_aload_n rfl rfl ?_
  refine wp_ldcT (tx := "cap") rfl (List.mem_of_getElem? (i := 11) rfl) ?_
  refine cV1 rfl l_11_268 i_X11_is m_X11_is (by first | rfl | assumption) (by decide) (his2) rfl (Nat.le_of_ble_eq_true rfl) ?_
  refine wp_if_ne 17 rfl rfl (fun _ => ?_) (fun h13 => absurd h13 (b2_ne.mpr h2))
  refine wp_aload_n rfl rfl ?_
  refine wp_dup rfl rfl ?_
  refine q_geti rfl rfl (by first | rfl | assumption) rfl ?_
  refine wp_iconst (v := 1) rfl rfl ?_
  refine wp_iadd rfl ?_
  rw [e48b]
  refine q_puti rfl rfl (by first | rfl | assumption) (Or.inl rfl) rfl ?_
  refine wp_aload_n rfl rfl ?_
  refine cVr rfl l_11_261 i_X11_next m_X11_next (by first | rfl | assumption) (by decide) (hnx) rfl (Nat.le_of_ble_eq_true rfl) (fun r24 w24 hq24 => ?_)
  obtain ⟨rfl, J2, L2, rfl, hR2⟩ := hq24
  refine wp_iload_n rfl rfl ?_
  refine wp_if_ne 46 rfl rfl (fun h26 => absurd (b2_f h1) h26) (fun _ => ?_)
  refine wp_aload_n rfl rfl ?_
  refine cVr rfl l_11_264 i_X11_whole m_X11_whole (by first | rfl | assumption) (by decide) (r_whole0 G (d + 30) hR2 h3) rfl (Nat.le_of_ble_eq_true rfl) (fun r28 w28 hq28 => ?_)
  obtain ⟨rfl, J3, L3, rfl, hB⟩ := hq28
  have g52 : ¬ J3 72 52 = 0 := by rw [hB.2.1]; decide
  refine wp_istore_n (lv' := [(2, _), (1, _), (0, _)]) rfl rfl (by decide) rfl ?_
  refine wp_aload_n rfl rfl ?_
  refine q_geti rfl rfl (by first | rfl | assumption) rfl ?_
  refine wp_if_ne 45 rfl rfl (fun _ => ?_) (fun h32 => absurd h32 g52)
  exact wp_vret rfl rfl (⟨rfl, J3, L3, rfl, nofun, fun _ => h.bad hB⟩)
theorem u_give1 (G : Gl) (d : Nat) {T : Nat → Int32} {n t i j f0 : Nat} {I0 J : IF} {L0 L : LF} {b : Bool} {es : List RE} {c1 : List Int32} (hx : RTX T n t I0) (h : ST T n I0 L0 i es J L) (h1 : KK T n i = -102) (hl : es.length < 10) (h2 : prs (KK T n) f0 3 0 (i + 1) = some (false, j, c1)) : MQ2 G (d + 33) Y_X11_rule [.ref 72] (J, L, RR b) (UQ T n I0 L0 b false j es) := by
  have e48 : ¬ J 72 48 = 10 := fun z => by
    rw [h.2.2.2.2.2.1] at z
    have := (nI_eq (a := es.length) (b := 10) (by omega) (by omega)).mp z
    omega
  have e48b : J 72 48 + 1 = nI (es.length + 1) := by rw [h.2.2.2.2.2.1, nI_1]
  have his := r_is G (d + 28) (b := b) (j := 6) (v := -102) (h.1.rtx hx) h.ok (by decide) (by decide)
  have hx1 : RTX T n t (uI J 72 48 (nI (es.length + 1))) := (h.1.i (Or.inl rfl)).rtx hx
  have hnx := r_next G (d + 31) (b := b) hx1 h.nt (by rw [h1]; decide)
  refine MT.intro m_X11_rule rfl (Nat.le_of_ble_eq_true rfl) ?_
  show WQ G (d + 33) Y_X11_rule _ 0 [(0, .ref 72)] [] (J, L, RR b)
  refine wp_aload_n rfl rfl ?_
  refine wp_ldcT (tx := "give") rfl (List.mem_of_getElem? (i := 10) rfl) ?_
  refine cV1 rfl l_11_268 i_X11_is m_X11_is (by first | rfl | assumption) (by decide) (his) rfl (Nat.le_of_ble_eq_true rfl) ?_
  refine wp_istore_n (lv' := [(1, _), (0, _)]) rfl rfl (by decide) rfl ?_
  refine wp_aload_n rfl rfl ?_
  refine q_geti rfl rfl (by first | rfl | assumption) rfl ?_
  refine wp_bipush (v := 10) rfl rfl ?_
  refine wp_icmp_eq 14 rfl rfl (fun h7 => absurd h7 e48) (fun _ => ?_)
  refine wp_iload_n rfl rfl ?_
  refine wp_if_ne 17 rfl rfl (fun _ => ?_) (fun h9 => absurd h9 (b2_ne.mpr h1))
  refine wp_aload_n rfl rfl ?_
  refine wp_dup rfl rfl ?_
  refine q_geti rfl rfl (by first | rfl | assumption) rfl ?_
  refine wp_iconst (v := 1) rfl rfl ?_
  refine wp_iadd rfl ?_
  rw [e48b]
  refine q_puti rfl rfl (by first | rfl | assumption) (Or.inl rfl) rfl ?_
  refine wp_aload_n rfl rfl ?_
  refine cVr rfl l_11_261 i_X11_next m_X11_next (by first | rfl | assumption) (by decide) (hnx) rfl (Nat.le_of_ble_eq_true rfl) (fun r24 w24 hq24 => ?_)
  obtain ⟨rfl, J2, L2, rfl, hR2⟩ := hq24
  refine wp_iload_n rfl rfl ?_
  refine wp_if_ne 46 rfl rfl (fun _ => ?_) (fun h26 => absurd h26 (b2_ne.mpr h1))
  refine wp_aload_n rfl rfl ?_
  refine cVr rfl l_11_284 i_X11_sum m_X11_sum (by first | rfl | assumption) (by decide) (r_sum G (d + 1) hx1 h2 hR2) rfl (Nat.le_of_ble_eq_true rfl) (fun r47 w47 hq47 => ?_)
  obtain ⟨v, J3, L3, rfl, rfl, -, hf⟩ := hq47
  have hB := hf rfl
  have g52 : ¬ J3 72 52 = 0 := by rw [hB.2.1]; decide
  refine wp_lstore_n (lv' := [(2, _), (1, _), (0, _)]) rfl rfl (by decide) rfl ?_
  refine wp_aload_n rfl rfl ?_
  refine wp_ldcT (tx := "if") rfl (List.mem_of_getElem? (i := 18) rfl) ?_
  refine cV1 rfl l_11_268 i_X11_is m_X11_is (by first | rfl | assumption) (by decide) (r_is0 G _ _ hB) rfl (Nat.le_of_ble_eq_true rfl) ?_
  refine wp_if_eq 56 rfl rfl (fun _ => ?_) (fun h52 => absurd rfl h52)
  refine wp_iconst (v := 1) rfl rfl ?_
  refine wp_goto 59 rfl rfl ?_
  refine wp_istore (lv' := [(4, _), (2, _), (1, _), (0, _)]) rfl (by decide) rfl ?_
  refine wp_aload_n rfl rfl ?_
  refine q_geti rfl rfl (by first | rfl | assumption) rfl ?_
  refine wp_if_ne 68 rfl rfl (fun _ => ?_) (fun h62 => absurd h62 g52)
  exact wp_vret rfl rfl (⟨rfl, J3, L3, rfl, nofun, fun _ => h.bad hB⟩)
theorem u_give2 (G : Gl) (d : Nat) {T : Nat → Int32} {n t i j j1 f0 : Nat} {I0 J : IF} {L0 L : LF} {b : Bool} {es : List RE} {c1 c2 : List Int32} (hx : RTX T n t I0) (h : ST T n I0 L0 i es J L) (h1 : KK T n i = -102) (hl : es.length < 10) (h2 : prs (KK T n) f0 3 0 (i + 1) = some (true, j1, c1)) (h4 : KK T n j1 = -104) (h5 : prC (KK T n) f0 f0 j1 = some (false, j, c2)) : MQ2 G (d + 33) Y_X11_rule [.ref 72] (J, L, RR b) (UQ T n I0 L0 b false j es) := by
  have e48 : ¬ J 72 48 = 10 := fun z => by
    rw [h.2.2.2.2.2.1] at z
    have := (nI_eq (a := es.length) (b := 10) (by omega) (by omega)).mp z
    omega
  have e48b : J 72 48 + 1 = nI (es.length + 1) := by rw [h.2.2.2.2.2.1, nI_1]
  have his := r_is G (d + 28) (b := b) (j := 6) (v := -102) (h.1.rtx hx) h.ok (by decide) (by decide)
  have hx1 : RTX T n t (uI J 72 48 (nI (es.length + 1))) := (h.1.i (Or.inl rfl)).rtx hx
  have hnx := r_next G (d + 31) (b := b) hx1 h.nt (by rw [h1]; decide)
  refine MT.intro m_X11_rule rfl (Nat.le_of_ble_eq_true rfl) ?_
  show WQ G (d + 33) Y_X11_rule _ 0 [(0, .ref 72)] [] (J, L, RR b)
  refine wp_aload_n rfl rfl ?_
  refine wp_ldcT (tx := "give") rfl (List.mem_of_getElem? (i := 10) rfl) ?_
  refine cV1 rfl l_11_268 i_X11_is m_X11_is (by first | rfl | assumption) (by decide) (his) rfl (Nat.le_of_ble_eq_true rfl) ?_
  refine wp_istore_n (lv' := [(1, _), (0, _)]) rfl rfl (by decide) rfl ?_
  refine wp_aload_n rfl rfl ?_
  refine q_geti rfl rfl (by first | rfl | assumption) rfl ?_
  refine wp_bipush (v := 10) rfl rfl ?_
  refine wp_icmp_eq 14 rfl rfl (fun h7 => absurd h7 e48) (fun _ => ?_)
  refine wp_iload_n rfl rfl ?_
  refine wp_if_ne 17 rfl rfl (fun _ => ?_) (fun h9 => absurd h9 (b2_ne.mpr h1))
  refine wp_aload_n rfl rfl ?_
  refine wp_dup rfl rfl ?_
  refine q_geti rfl rfl (by first | rfl | assumption) rfl ?_
  refine wp_iconst (v := 1) rfl rfl ?_
  refine wp_iadd rfl ?_
  rw [e48b]
  refine q_puti rfl rfl (by first | rfl | assumption) (Or.inl rfl) rfl ?_
  refine wp_aload_n rfl rfl ?_
  refine cVr rfl l_11_261 i_X11_next m_X11_next (by first | rfl | assumption) (by decide) (hnx) rfl (Nat.le_of_ble_eq_true rfl) (fun r24 w24 hq24 => ?_)
  obtain ⟨rfl, J2, L2, rfl, hR2⟩ := hq24
  refine wp_iload_n rfl rfl ?_
  refine wp_if_ne 46 rfl rfl (fun _ => ?_) (fun h26 => absurd h26 (b2_ne.mpr h1))
  refine wp_aload_n rfl rfl ?_
  refine cVr rfl l_11_284 i_X11_sum m_X11_sum (by first | rfl | assumption) (by decide) (r_sum G (d + 1) hx1 h2 hR2) rfl (Nat.le_of_ble_eq_true rfl) (fun r47 w47 hq47 => ?_)
  obtain ⟨v, J3, L3, rfl, rfl, ht, -⟩ := hq47
  obtain ⟨hR3, hv⟩ := ht rfl
  refine wp_lstore_n (lv' := [(2, _), (1, _), (0, _)]) rfl rfl (by decide) rfl ?_
  refine wp_aload_n rfl rfl ?_
  refine wp_ldcT (tx := "if") rfl (List.mem_of_getElem? (i := 18) rfl) ?_
  refine cV1 rfl l_11_268 i_X11_is m_X11_is (by first | rfl | assumption) (by decide) (r_is G (d + 28) (j := 8) (v := -104) hx1 hR3 (by decide) (by decide)) rfl (Nat.le_of_ble_eq_true rfl) ?_
  refine wp_if_eq 56 rfl rfl (fun h52 => absurd h52 (fun z => (b2_eq.mp z) h4)) (fun _ => ?_)
  refine wp_aload_n rfl rfl ?_
  refine cVr rfl l_11_312 i_X11_conds m_X11_conds (by first | rfl | assumption) (by decide) (r_conds G d hx1 h5 (by rw [h4]; decide) hR3) rfl (Nat.le_of_ble_eq_true rfl) (fun r54 w54 hq54 => ?_)
  obtain ⟨a, J4, L4, rfl, rfl, -, hf⟩ := hq54
  have hB := hf rfl
  have g52 : ¬ J4 72 52 = 0 := by rw [hB.2.1]; decide
  refine wp_if_eq 58 rfl rfl (fun h55 => ?_) (fun h55 => ?_)
  · refine wp_iconst (v := 0) rfl rfl ?_
    refine wp_istore (lv' := [(4, _), (2, _), (1, _), (0, _)]) rfl (by decide) rfl ?_
    refine wp_aload_n rfl rfl ?_
    refine q_geti rfl rfl (by first | rfl | assumption) rfl ?_
    refine wp_if_ne 68 rfl rfl (fun _ => ?_) (fun h62 => absurd h62 g52)
    exact wp_vret rfl rfl (⟨rfl, J4, L4, rfl, nofun, fun _ => h.bad hB⟩)
  · refine wp_iconst (v := 1) rfl rfl ?_
    refine wp_goto 59 rfl rfl ?_
    refine wp_istore (lv' := [(4, _), (2, _), (1, _), (0, _)]) rfl (by decide) rfl ?_
    refine wp_aload_n rfl rfl ?_
    refine q_geti rfl rfl (by first | rfl | assumption) rfl ?_
    refine wp_if_ne 68 rfl rfl (fun _ => ?_) (fun h62 => absurd h62 g52)
    exact wp_vret rfl rfl (⟨rfl, J4, L4, rfl, nofun, fun _ => h.bad hB⟩)
theorem u_give3 (G : Gl) (d : Nat) {T : Nat → Int32} {n t i j j1 f0 : Nat} {I0 J : IF} {L0 L : LF} {b : Bool} {es : List RE} {c1 c2 : List Int32} (hx : RTX T n t I0) (h : ST T n I0 L0 i es J L) (h1 : KK T n i = -102) (hl : es.length < 10) (h2 : prs (KK T n) f0 3 0 (i + 1) = some (true, j1, c1)) (h5 : (KK T n j1 = -104 ∧ prC (KK T n) f0 f0 j1 = some (true, j, c2)) ∨ (¬ KK T n j1 = -104 ∧ j = j1 ∧ c2 = [])) : MQ2 G (d + 33) Y_X11_rule [.ref 72] (J, L, RR b) (UQ T n I0 L0 b true j (es ++ [(-1, c1, c2)])) := by
  have e48 : ¬ J 72 48 = 10 := fun z => by
    rw [h.2.2.2.2.2.1] at z
    have := (nI_eq (a := es.length) (b := 10) (by omega) (by omega)).mp z
    omega
  have e48b : J 72 48 + 1 = nI (es.length + 1) := by rw [h.2.2.2.2.2.1, nI_1]
  have his := r_is G (d + 28) (b := b) (j := 6) (v := -102) (h.1.rtx hx) h.ok (by decide) (by decide)
  have hx1 : RTX T n t (uI J 72 48 (nI (es.length + 1))) := (h.1.i (Or.inl rfl)).rtx hx
  have hnx := r_next G (d + 31) (b := b) hx1 h.nt (by rw [h1]; decide)
  have eF : L 101 = L0 101 := h.1.2.2.1 101 (by decide)
  have K59 : ∀ (a : Bool) (x1 : Int32) (v : Int64) (J4 : IF) (L4 : LF), ROK T n (uI J 72 48 (nI (es.length + 1))) L 0 j J4 L4 → RV (L 101) 19 c1 v → CV (L 101) c2 a → WQ G (d + 33) Y_X11_rule (UQ T n I0 L0 b true j (es ++ [(-1, c1, c2)])) 59 [(0, .ref 72), (1, .int x1), (2, .long v)] [.int (bI a)] (J4, L4, RR b) := by
    intro a x1 v J4 L4 hR4 hv hc
    obtain ⟨g1, g2, g3, g4, g5, g6, g7, g8, g9⟩ := h.go hR4
    rw [eF] at hv hc
    have hvl := hv.wo
    have hcb := hc.b
    have g52 : ¬ ¬ J4 72 52 = 0 := fun z => z g4
    have hcp : cpr (es ++ [((-1 : Int32), c1, c2)]) = cpr es := by rw [cpr_s]; unfold cp1; rw [if_pos rfl]
    have hln : (es ++ [((-1 : Int32), c1, c2)]).length = es.length + 1 := by rw [List.length_append, List.length_singleton]
    have same : gst (L0 101) (es ++ [((-1 : Int32), c1, c2)]) = gst (L0 101) es → ST T n I0 L0 j (es ++ [(-1, c1, c2)]) J4 L4 := fun e => ⟨g1, g2, g3, g4, g5, by rw [hln]; exact g6, by rw [hcp]; exact g7, by rw [e]; exact g8, by rw [e]; exact g9⟩
    cases a with
    | false =>
      have e : gst (L0 101) (es ++ [((-1 : Int32), c1, c2)]) = gst (L0 101) es := by rw [gst_s]; unfold gs1; rw [if_neg (fun z => by have := z.2.2; rw [hcb] at this; cases this)]
      refine wp_istore (lv' := [(4, _), (0, _), (1, _), (2, _)]) rfl (by decide) rfl ?_
      refine wp_aload_n rfl rfl ?_
      refine q_geti rfl rfl (by first | rfl | assumption) rfl ?_
      refine wp_if_ne 68 rfl rfl (fun h62 => absurd h62 g52) (fun _ => ?_)
      refine wp_iload rfl rfl ?_
      refine wp_if_eq 68 rfl rfl (fun _ => ?_) (fun h64 => absurd rfl h64)
      exact wp_vret rfl rfl (⟨rfl, J4, L4, rfl, fun _ => same e, nofun⟩)
    | true =>
      cases hg : (gst (L0 101) es).1 with
      | true =>
        have e : gst (L0 101) (es ++ [((-1 : Int32), c1, c2)]) = gst (L0 101) es := by rw [gst_s]; unfold gs1; rw [if_neg (fun z => by have := z.2.1; rw [hg] at this; cases this)]
        have e53 : ¬ J4 72 53 = 0 := by rw [g8, hg]; decide
        refine wp_istore (lv' := [(4, _), (0, _), (1, _), (2, _)]) rfl (by decide) rfl ?_
        refine wp_aload_n rfl rfl ?_
        refine q_geti rfl rfl (by first | rfl | assumption) rfl ?_
        refine wp_if_ne 68 rfl rfl (fun h62 => absurd h62 g52) (fun _ => ?_)
        refine wp_iload rfl rfl ?_
        refine wp_if_eq 68 rfl rfl (fun h64 => absurd h64 (by decide)) (fun _ => ?_)
        refine wp_aload_n rfl rfl ?_
        refine q_geti rfl rfl (by first | rfl | assumption) rfl ?_
        refine wp_if_eq 69 rfl rfl (fun h67 => absurd h67 e53) (fun _ => ?_)
        exact wp_vret rfl rfl (⟨rfl, J4, L4, rfl, fun _ => same e, nofun⟩)
      | false =>
        have e : gst (L0 101) (es ++ [((-1 : Int32), c1, c2)]) = (true, v) := by rw [gst_s]; unfold gs1; rw [if_pos ⟨rfl, hg, hcb⟩, hvl]
        have e53 : J4 72 53 = 0 := by rw [g8, hg]; rfl
        refine wp_istore (lv' := [(4, _), (0, _), (1, _), (2, _)]) rfl (by decide) rfl ?_
        refine wp_aload_n rfl rfl ?_
        refine q_geti rfl rfl (by first | rfl | assumption) rfl ?_
        refine wp_if_ne 68 rfl rfl (fun h62 => absurd h62 g52) (fun _ => ?_)
        refine wp_iload rfl rfl ?_
        refine wp_if_eq 68 rfl rfl (fun h64 => absurd h64 (by decide)) (fun _ => ?_)
        refine wp_aload_n rfl rfl ?_
        refine q_geti rfl rfl (by first | rfl | assumption) rfl ?_
        refine wp_if_eq 69 rfl rfl (fun _ => ?_) (fun h67 => absurd e53 h67)
        refine wp_aload_n rfl rfl ?_
        refine wp_lload_n rfl rfl ?_
        refine q_putl rfl rfl (by first | rfl | assumption) (Or.inl rfl) rfl ?_
        refine wp_aload_n rfl rfl ?_
        refine wp_iconst (v := 1) rfl rfl ?_
        refine q_putz rfl rfl (by first | rfl | assumption) (Or.inl rfl) rfl (Or.inr rfl) ?_
        exact wp_vret rfl rfl (⟨rfl, _, _, rfl, fun _ => ⟨(g1.i (Or.inr (Or.inr rfl))).l, ⟨by rw [uI_nk (by decide)]; exact g2.1, by rw [uI_nk (by decide)]; exact g2.2.1, by rw [uI_nk (by decide)]; exact g2.2.2.1, fun z => by rw [uL_nk (by decide)]; exact g2.2.2.2 z⟩, by rw [uI_nk (by decide)]; exact g3, by rw [uI_nk (by decide)]; exact g4, by rw [uI_nk (by decide)]; exact g5, by rw [uI_nk (by decide), hln]; exact g6, by rw [uI_nk (by decide), hcp]; exact g7, by rw [uI_eq, e]; rfl, by rw [uL_eq, e]⟩, nofun⟩)
  refine MT.intro m_X11_rule rfl (Nat.le_of_ble_eq_true rfl) ?_
  show WQ G (d + 33) Y_X11_rule _ 0 [(0, .ref 72)] [] (J, L, RR b)
  refine wp_aload_n rfl rfl ?_
  refine wp_ldcT (tx := "give") rfl (List.mem_of_getElem? (i := 10) rfl) ?_
  refine cV1 rfl l_11_268 i_X11_is m_X11_is (by first | rfl | assumption) (by decide) (his) rfl (Nat.le_of_ble_eq_true rfl) ?_
  refine wp_istore_n (lv' := [(1, _), (0, _)]) rfl rfl (by decide) rfl ?_
  refine wp_aload_n rfl rfl ?_
  refine q_geti rfl rfl (by first | rfl | assumption) rfl ?_
  refine wp_bipush (v := 10) rfl rfl ?_
  refine wp_icmp_eq 14 rfl rfl (fun h7 => absurd h7 e48) (fun _ => ?_)
  refine wp_iload_n rfl rfl ?_
  refine wp_if_ne 17 rfl rfl (fun _ => ?_) (fun h9 => absurd h9 (b2_ne.mpr h1))
  refine wp_aload_n rfl rfl ?_
  refine wp_dup rfl rfl ?_
  refine q_geti rfl rfl (by first | rfl | assumption) rfl ?_
  refine wp_iconst (v := 1) rfl rfl ?_
  refine wp_iadd rfl ?_
  rw [e48b]
  refine q_puti rfl rfl (by first | rfl | assumption) (Or.inl rfl) rfl ?_
  refine wp_aload_n rfl rfl ?_
  refine cVr rfl l_11_261 i_X11_next m_X11_next (by first | rfl | assumption) (by decide) (hnx) rfl (Nat.le_of_ble_eq_true rfl) (fun r24 w24 hq24 => ?_)
  obtain ⟨rfl, J2, L2, rfl, hR2⟩ := hq24
  refine wp_iload_n rfl rfl ?_
  refine wp_if_ne 46 rfl rfl (fun _ => ?_) (fun h26 => absurd h26 (b2_ne.mpr h1))
  refine wp_aload_n rfl rfl ?_
  refine cVr rfl l_11_284 i_X11_sum m_X11_sum (by first | rfl | assumption) (by decide) (r_sum G (d + 1) hx1 h2 hR2) rfl (Nat.le_of_ble_eq_true rfl) (fun r47 w47 hq47 => ?_)
  obtain ⟨v, J3, L3, rfl, rfl, ht, -⟩ := hq47
  obtain ⟨hR3, hv⟩ := ht rfl
  refine wp_lstore_n (lv' := [(2, _), (1, _), (0, _)]) rfl rfl (by decide) rfl ?_
  refine wp_aload_n rfl rfl ?_
  refine wp_ldcT (tx := "if") rfl (List.mem_of_getElem? (i := 18) rfl) ?_
  refine cV1 rfl l_11_268 i_X11_is m_X11_is (by first | rfl | assumption) (by decide) (r_is G (d + 28) (j := 8) (v := -104) hx1 hR3 (by decide) (by decide)) rfl (Nat.le_of_ble_eq_true rfl) ?_
  refine wp_if_eq 56 rfl rfl (fun h52 => ?_) (fun h52 => ?_)
  · refine wp_loc (lv' := [(0, _), (1, _), (2, _)]) [2, 1, 0] rfl ?_
    rcases h5 with ⟨h4, h5⟩ | ⟨h4, e1, e2⟩
    · exact absurd h4 (b2_eq.mp h52)
    · rw [e1, e2] at K59 ⊢
      refine wp_iconst (v := 1) rfl rfl ?_
      refine wp_goto 59 rfl rfl ?_
      exact K59 true _ v J3 L3 hR3 hv CV.nil
  · refine wp_loc (lv' := [(0, _), (1, _), (2, _)]) [2, 1, 0] rfl ?_
    rcases h5 with ⟨h4, h5⟩ | ⟨h4, _, _⟩
    · refine wp_aload_n rfl rfl ?_
      refine cVr rfl l_11_312 i_X11_conds m_X11_conds rfl (by decide) (r_conds G d hx1 h5 (by rw [h4]; decide) hR3) rfl (Nat.le_of_ble_eq_true rfl) (fun r54 w54 hq54 => ?_)
      obtain ⟨a, J4, L4, rfl, rfl, ht4, -⟩ := hq54
      obtain ⟨hR4, hc4⟩ := ht4 rfl
      cases a with
      | true =>
        refine wp_if_eq 58 rfl rfl (fun z => absurd z (by decide)) (fun _ => ?_)
        refine wp_iconst (v := 1) rfl rfl ?_
        refine wp_goto 59 rfl rfl ?_
        exact K59 true _ v J4 L4 hR4 hv hc4
      | false =>
        refine wp_if_eq 58 rfl rfl (fun _ => ?_) (fun z => absurd rfl z)
        refine wp_iconst (v := 0) rfl rfl ?_
        exact K59 false _ v J4 L4 hR4 hv hc4
    · exact absurd (b2_ne.mp h52) h4
