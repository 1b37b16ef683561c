/-! the reference's sums -/
theorem ROK.op {T : Nat → Int32} {n p p2 i : Nat} {I0 J : IF} {L0 L : LF} (h : ROK T n I0 L0 p i J L) : ROK T n I0 L0 p2 i (uI J 72 47 (nI p2)) L := by
  obtain ⟨a1, ⟨b1, b2, b3, b4⟩, a3, a4, a5⟩ := h
  exact ⟨a1.i (Or.inr (Or.inr (Or.inr (Or.inr (Or.inl rfl))))), ⟨by rw [uI_nk (by decide)]; exact b1, by rw [uI_nk (by decide)]; exact b2, by rw [uI_nk (by decide)]; exact b3, b4⟩, uI_eq, by rw [uI_nk (by decide)]; exact a4, by rw [uI_nk (by decide)]; exact a5⟩
def SQ (T : Nat → Int32) (n : Nat) (I0 : IF) (L0 : LF) (b : Bool) (p : Nat) (o : Bool) (j nd : Nat) (cd : List Int32) (r : Option Value) (w : mW) : Prop := ∃ v J L, r = some (.long v) ∧ w = (J, L, RR b) ∧ (o = true → ROK T n I0 L0 p j J L ∧ RV (L0 101) nd cd v) ∧ (o = false → RBD T n I0 L0 j J L)
def CFr (G : Gl) (b : Bool) (T : Nat → Int32) (n : Nat) (I0 : IF) (L0 : LF) (f : Nat) : Prop := ∀ p i o j cd d J L, p ≤ 8 → prs (KK T n) f 0 p i = some (o, j, cd) → 3 * (8 - p) + 4 ≤ d → ROK T n I0 L0 p i J L → MQ2 G (d + 1) Y_X11_factor [.ref 72] (J, L, RR b) (SQ T n I0 L0 b p o j (need 0 p) cd)
def CTr (G : Gl) (b : Bool) (T : Nat → Int32) (n : Nat) (I0 : IF) (L0 : LF) (f : Nat) : Prop := ∀ p i o j cd d J L, p ≤ 8 → prs (KK T n) f 1 p i = some (o, j, cd) → 3 * (8 - p) + 5 ≤ d → ROK T n I0 L0 p i J L → MQ2 G (d + 1) Y_X11_term [.ref 72] (J, L, RR b) (SQ T n I0 L0 b p o j (need 1 p) cd)
def CSr (G : Gl) (b : Bool) (T : Nat → Int32) (n : Nat) (I0 : IF) (L0 : LF) (f : Nat) : Prop := ∀ p i o j cd d J L, p ≤ 8 → prs (KK T n) f 3 p i = some (o, j, cd) → 3 * (8 - p) + 6 ≤ d → ROK T n I0 L0 p i J L → MQ2 G (d + 1) Y_X11_sum [.ref 72] (J, L, RR b) (SQ T n I0 L0 b p o j (need 3 p) cd)
def CTlr (G : Gl) (b : Bool) (T : Nat → Int32) (n : Nat) (I0 : IF) (L0 : LF) (f : Nat) : Prop := ∀ p i o j cd d J L c0 v, p ≤ 8 → prs (KK T n) f 2 p i = some (o, j, cd) → 3 * (8 - p) + 5 ≤ d → ROK T n I0 L0 p i J L → RV (L0 101) (need 1 p) c0 v → WQ G (d + 1) Y_X11_term (SQ T n I0 L0 b p o j (need 1 p) (c0 ++ cd)) 3 [(0, .ref 72), (1, .long v)] [] (J, L, RR b)
def CSlr (G : Gl) (b : Bool) (T : Nat → Int32) (n : Nat) (I0 : IF) (L0 : LF) (f : Nat) : Prop := ∀ p i o j cd d J L c0 v, p ≤ 8 → prs (KK T n) f 4 p i = some (o, j, cd) → 3 * (8 - p) + 6 ≤ d → ROK T n I0 L0 p i J L → RV (L0 101) (need 3 p) c0 v → WQ G (d + 1) Y_X11_sum (SQ T n I0 L0 b p o j (need 3 p) (c0 ++ cd)) 3 [(0, .ref 72), (1, .long v)] [] (J, L, RR b)
theorem rrd_F {G : Gl} {b : Bool} {T : Nat → Int32} {n t : Nat} {I0 : IF} {L0 : LF} {f : Nat} (hx : RTX T n t I0) (ihS : CSr G b T n I0 L0 f) : CFr G b T n I0 L0 (f + 1) := by
  intro p i o j cd d J L hp h hd hR
  obtain ⟨d4, rfl⟩ : ∃ d4, d = d4 + 4 := ⟨d - 4, by omega⟩
  have e52 : J 72 52 = 0 := hR.2.2.2.1
  have e46 : J 72 46 = srt T n (ps T n i) := hR.2.1.2.2.1
  have hnum := (KK_num (T := T) (n := n) (i := i)).1
  have hI : ∀ (q : Nat) (v : Int32), q < 10 → wkd q = v → MD G (d4 + 4) Y_X11_is [.ref 72, .ref (1000001 + q)] (J, L, RR b) (some (.int (b2 (KK T n i = v)))) (J, L, RR b) := fun q v hq hv => r_is G d4 hx hR hq hv
  have hsg := r_sign G (d4 + 3) (b := b) (c := 40) (v := -40) hx hR (by decide) (by decide)
  rcases prs0_i h with ⟨h1, h2, e3, e4⟩ | ⟨h1, h2, j1, c1, g3, e4, e5⟩ | ⟨h1, h2, j1, c1, g3, g4⟩ | ⟨h1, h2, e3, e4, e5⟩ | ⟨h1, h2, e3, e4⟩
  · have nw : ∀ v : Int32, -6 ≤ v → ¬ KK T n i = v := fun v hv z => by rw [← z, h1] at hv; exact absurd hv (by decide)
    have ns : ¬ J 72 46 = 2 := by rw [e46]; exact fun z => absurd (hnum.mpr z) (by rw [h1]; decide)
    have e47 : ¬ ¬ J 72 47 = 8 := fun z => z (by rw [hR.2.2.1, show p = 8 by omega]; rfl)
    have hbd := r_bad G (d4 + 4) (b := b) hR
    rw [e3, e4]
    refine MT.intro m_X11_factor rfl (Nat.le_of_ble_eq_true rfl) ?_
    show WQ G (d4 + 4 + 1) Y_X11_factor _ 0 [(0, .ref 72)] [] (J, L, RR b)
    refine wp_aload_n rfl rfl ?_
    refine q_geti rfl rfl (by first | rfl | assumption) rfl ?_
    refine wp_if_eq 5 rfl rfl (fun _ => ?_) (fun h2 => absurd e52 h2)
    refine wp_aload_n rfl rfl ?_
    refine q_geti rfl rfl (by first | rfl | assumption) rfl ?_
    refine wp_iconst (v := 2) rfl rfl ?_
    refine wp_icmp_ne 13 rfl rfl (fun _ => ?_) (fun h8 => absurd h8 ns)
    refine wp_aload_n rfl rfl ?_
    refine wp_ldcT (tx := "homes") rfl (List.mem_of_getElem? (i := 12) rfl) ?_
    refine cV1 rfl l_11_268 i_X11_is m_X11_is (by first | rfl | assumption) (by decide) (hI 0 (-1) (by decide) (by decide)) rfl (Nat.le_of_ble_eq_true rfl) ?_
    refine wp_if_eq 19 rfl rfl (fun _ => ?_) (fun h16 => absurd (b2_f (nw (-1) (by decide))) h16)
    refine wp_aload_n rfl rfl ?_
    refine wp_ldcT (tx := "poor") rfl (List.mem_of_getElem? (i := 13) rfl) ?_
    refine cV1 rfl l_11_268 i_X11_is m_X11_is (by first | rfl | assumption) (by decide) (hI 1 (-2) (by decide) (by decide)) rfl (Nat.le_of_ble_eq_true rfl) ?_
    refine wp_if_eq 25 rfl rfl (fun _ => ?_) (fun h22 => absurd (b2_f (nw (-2) (by decide))) h22)
    refine wp_aload_n rfl rfl ?_
    refine wp_ldcT (tx := "aged") rfl (List.mem_of_getElem? (i := 14) rfl) ?_
    refine cV1 rfl l_11_268 i_X11_is m_X11_is (by first | rfl | assumption) (by decide) (hI 2 (-3) (by decide) (by decide)) rfl (Nat.le_of_ble_eq_true rfl) ?_
    refine wp_if_eq 31 rfl rfl (fun _ => ?_) (fun h28 => absurd (b2_f (nw (-3) (by decide))) h28)
    refine wp_aload_n rfl rfl ?_
    refine wp_ldcT (tx := "boxes") rfl (List.mem_of_getElem? (i := 15) rfl) ?_
    refine cV1 rfl l_11_268 i_X11_is m_X11_is (by first | rfl | assumption) (by decide) (hI 3 (-4) (by decide) (by decide)) rfl (Nat.le_of_ble_eq_true rfl) ?_
    refine wp_if_eq 37 rfl rfl (fun _ => ?_) (fun h34 => absurd (b2_f (nw (-4) (by decide))) h34)
    refine wp_aload_n rfl rfl ?_
    refine wp_ldcT (tx := "week") rfl (List.mem_of_getElem? (i := 16) rfl) ?_
    refine cV1 rfl l_11_268 i_X11_is m_X11_is (by first | rfl | assumption) (by decide) (hI 4 (-5) (by decide) (by decide)) rfl (Nat.le_of_ble_eq_true rfl) ?_
    refine wp_if_eq 43 rfl rfl (fun _ => ?_) (fun h40 => absurd (b2_f (nw (-5) (by decide))) h40)
    refine wp_aload_n rfl rfl ?_
    refine wp_ldcT (tx := "stock") rfl (List.mem_of_getElem? (i := 17) rfl) ?_
    refine cV1 rfl l_11_268 i_X11_is m_X11_is (by first | rfl | assumption) (by decide) (hI 5 (-6) (by decide) (by decide)) rfl (Nat.le_of_ble_eq_true rfl) ?_
    refine wp_if_eq 49 rfl rfl (fun _ => ?_) (fun h46 => absurd (b2_f (nw (-6) (by decide))) h46)
    refine wp_iconst (v := (-1)) rfl rfl ?_
    refine wp_istore_n (lv' := [(1, _), (0, _)]) rfl rfl (by decide) rfl ?_
    refine wp_iload_n rfl rfl ?_
    refine wp_iconst (v := (-1)) rfl rfl ?_
    refine wp_icmp_eq 61 rfl rfl (fun _ => ?_) (fun h53 => absurd rfl h53)
    refine wp_aload_n rfl rfl ?_
    refine wp_bipush (v := 40) rfl rfl ?_
    refine cV1 rfl l_11_278 i_X11_isSign m_X11_isSign (by first | rfl | assumption) (by decide) (hsg) rfl (Nat.le_of_ble_eq_true rfl) ?_
    refine wp_if_eq 69 rfl rfl (fun h64 => absurd h64 (fun z => (b2_eq.mp z) h1)) (fun _ => ?_)
    refine wp_aload_n rfl rfl ?_
    refine q_geti rfl rfl (by first | rfl | assumption) rfl ?_
    refine wp_bipush (v := 8) rfl rfl ?_
    refine wp_icmp_ne 73 rfl rfl (fun h68 => absurd h68 e47) (fun _ => ?_)
    refine wp_aload_n rfl rfl ?_
    refine cVr rfl l_11_258 i_X11_bad m_X11_bad (by first | rfl | assumption) (by decide) (hbd) rfl (Nat.le_of_ble_eq_true rfl) (fun r70 w70 hq70 => ?_)
    obtain ⟨rfl, J2, rfl, hB⟩ := hq70
    refine wp_lconst (v := 0) rfl rfl ?_
    exact wp_lret rfl rfl (⟨0, J2, L, rfl, rfl, nofun, fun _ => hB⟩)
  · have nw : ∀ v : Int32, -6 ≤ v → ¬ KK T n i = v := fun v hv z => by rw [← z, h1] at hv; exact absurd hv (by decide)
    have ns : ¬ J 72 46 = 2 := by rw [e46]; exact fun z => absurd (hnum.mpr z) (by rw [h1]; decide)
    have e47 : ¬ J 72 47 = 8 := fun z => by
      rw [hR.2.2.1] at z
      have := (nI_eq (a := p) (b := 8) (by omega) (by omega)).mp z
      omega
    have hO := hR.op (p2 := p + 1)
    have hnx := r_next G (d4 + 3) (b := b) hx hO (by rw [h1]; decide)
    have e47b : J 72 47 + 1 = nI (p + 1) := by rw [hR.2.2.1, nI_1]
    rw [e4, e5]
    refine MT.intro m_X11_factor rfl (Nat.le_of_ble_eq_true rfl) ?_
    show WQ G (d4 + 4 + 1) Y_X11_factor _ 0 [(0, .ref 72)] [] (J, L, RR b)
    refine wp_aload_n rfl rfl ?_
    refine q_geti rfl rfl (by first | rfl | assumption) rfl ?_
    refine wp_if_eq 5 rfl rfl (fun _ => ?_) (fun h2 => absurd e52 h2)
    refine wp_aload_n rfl rfl ?_
    refine q_geti rfl rfl (by first | rfl | assumption) rfl ?_
    refine wp_iconst (v := 2) rfl rfl ?_
    refine wp_icmp_ne 13 rfl rfl (fun _ => ?_) (fun h8 => absurd h8 ns)
    refine wp_aload_n rfl rfl ?_
    refine wp_ldcT (tx := "homes") rfl (List.mem_of_getElem? (i := 12) rfl) ?_
    refine cV1 rfl l_11_268 i_X11_is m_X11_is (by first | rfl | assumption) (by decide) (hI 0 (-1) (by decide) (by decide)) rfl (Nat.le_of_ble_eq_true rfl) ?_
    refine wp_if_eq 19 rfl rfl (fun _ => ?_) (fun h16 => absurd (b2_f (nw (-1) (by decide))) h16)
    refine wp_aload_n rfl rfl ?_
    refine wp_ldcT (tx := "poor") rfl (List.mem_of_getElem? (i := 13) rfl) ?_
    refine cV1 rfl l_11_268 i_X11_is m_X11_is (by first | rfl | assumption) (by decide) (hI 1 (-2) (by decide) (by decide)) rfl (Nat.le_of_ble_eq_true rfl) ?_
    refine wp_if_eq 25 rfl rfl (fun _ => ?_) (fun h22 => absurd (b2_f (nw (-2) (by decide))) h22)
    refine wp_aload_n rfl rfl ?_
    refine wp_ldcT (tx := "aged") rfl (List.mem_of_getElem? (i := 14) rfl) ?_
    refine cV1 rfl l_11_268 i_X11_is m_X11_is (by first | rfl | assumption) (by decide) (hI 2 (-3) (by decide) (by decide)) rfl (Nat.le_of_ble_eq_true rfl) ?_
    refine wp_if_eq 31 rfl rfl (fun _ => ?_) (fun h28 => absurd (b2_f (nw (-3) (by decide))) h28)
    refine wp_aload_n rfl rfl ?_
    refine wp_ldcT (tx := "boxes") rfl (List.mem_of_getElem? (i := 15) rfl) ?_
    refine cV1 rfl l_11_268 i_X11_is m_X11_is (by first | rfl | assumption) (by decide) (hI 3 (-4) (by decide) (by decide)) rfl (Nat.le_of_ble_eq_true rfl) ?_
    refine wp_if_eq 37 rfl rfl (fun _ => ?_) (fun h34 => absurd (b2_f (nw (-4) (by decide))) h34)
    refine wp_aload_n rfl rfl ?_
    refine wp_ldcT (tx := "week") rfl (List.mem_of_getElem? (i := 16) rfl) ?_
    refine cV1 rfl l_11_268 i_X11_is m_X11_is (by first | rfl | assumption) (by decide) (hI 4 (-5) (by decide) (by decide)) rfl (Nat.le_of_ble_eq_true rfl) ?_
    refine wp_if_eq 43 rfl rfl (fun _ => ?_) (fun h40 => absurd (b2_f (nw (-5) (by decide))) h40)
    refine wp_aload_n rfl rfl ?_
    refine wp_ldcT (tx := "stock") rfl (List.mem_of_getElem? (i := 17) rfl) ?_
    refine cV1 rfl l_11_268 i_X11_is m_X11_is (by first | rfl | assumption) (by decide) (hI 5 (-6) (by decide) (by decide)) rfl (Nat.le_of_ble_eq_true rfl) ?_
    refine wp_if_eq 49 rfl rfl (fun _ => ?_) (fun h46 => absurd (b2_f (nw (-6) (by decide))) h46)
    refine wp_iconst (v := (-1)) rfl rfl ?_
    refine wp_istore_n (lv' := [(1, _), (0, _)]) rfl rfl (by decide) rfl ?_
    refine wp_iload_n rfl rfl ?_
    refine wp_iconst (v := (-1)) rfl rfl ?_
    refine wp_icmp_eq 61 rfl rfl (fun _ => ?_) (fun h53 => absurd rfl h53)
    refine wp_aload_n rfl rfl ?_
    refine wp_bipush (v := 40) rfl rfl ?_
    refine cV1 rfl l_11_278 i_X11_isSign m_X11_isSign (by first | rfl | assumption) (by decide) (hsg) rfl (Nat.le_of_ble_eq_true rfl) ?_
    refine wp_if_eq 69 rfl rfl (fun h64 => absurd h64 (fun z => (b2_eq.mp z) h1)) (fun _ => ?_)
    refine wp_aload_n rfl rfl ?_
    refine q_geti rfl rfl (by first | rfl | assumption) rfl ?_
    refine wp_bipush (v := 8) rfl rfl ?_
    refine wp_icmp_ne 73 rfl rfl (fun _ => ?_) (fun h68 => absurd h68 e47)
    refine wp_aload_n rfl rfl ?_
    refine wp_dup rfl rfl ?_
    refine q_geti rfl rfl (by first | rfl | assumption) rfl ?_
    refine wp_iconst (v := 1) rfl rfl ?_
    refine wp_iadd rfl ?_
    rw [e47b]
    refine q_puti rfl rfl (by first | rfl | assumption) (Or.inl rfl) rfl ?_
    refine wp_aload_n rfl rfl ?_
    refine cVr rfl l_11_261 i_X11_next m_X11_next (by first | rfl | assumption) (by decide) (hnx) rfl (Nat.le_of_ble_eq_true rfl) (fun r80 w80 hq80 => ?_)
    obtain ⟨rfl, J2, L2, rfl, hR2⟩ := hq80
    refine wp_aload_n rfl rfl ?_
    refine cVr rfl l_11_284 i_X11_sum m_X11_sum (by first | rfl | assumption) (by decide) (ihS (p + 1) (i + 1) _ _ _ (d4 + 3) _ _ (by omega) g3 (by omega) hR2) rfl (Nat.le_of_ble_eq_true rfl) (fun r82 w82 hq82 => ?_)
    obtain ⟨v3, J3, L3, rfl, rfl, -, hf⟩ := hq82
    have hB := hf rfl
    refine wp_lstore_n (lv' := [(2, _), (1, _), (0, _)]) rfl rfl (by decide) rfl ?_
    refine wp_aload_n rfl rfl ?_
    refine wp_bipush (v := 41) rfl rfl ?_
    refine cV1 rfl l_11_278 i_X11_isSign m_X11_isSign (by first | rfl | assumption) (by decide) (r_sign0 G _ _ hB) rfl (Nat.le_of_ble_eq_true rfl) ?_
    refine wp_if_ne 92 rfl rfl (fun h87 => absurd rfl h87) (fun _ => ?_)
    refine wp_aload_n rfl rfl ?_
    refine cVr rfl l_11_258 i_X11_bad m_X11_bad (by first | rfl | assumption) (by decide) (r_bad2 G _ hB) rfl (Nat.le_of_ble_eq_true rfl) (fun r89 w89 hq89 => ?_)
    obtain ⟨rfl, J4, rfl, hB4⟩ := hq89
    refine wp_lconst (v := 0) rfl rfl ?_
    exact wp_lret rfl rfl (⟨0, J4, L3, rfl, rfl, nofun, fun _ => hB4⟩)
  · have nw : ∀ v : Int32, -6 ≤ v → ¬ KK T n i = v := fun v hv z => by rw [← z, h1] at hv; exact absurd hv (by decide)
    have ns : ¬ J 72 46 = 2 := by rw [e46]; exact fun z => absurd (hnum.mpr z) (by rw [h1]; decide)
    have e47 : ¬ J 72 47 = 8 := fun z => by
      rw [hR.2.2.1] at z
      have := (nI_eq (a := p) (b := 8) (by omega) (by omega)).mp z
      omega
    have hO := hR.op (p2 := p + 1)
    have hnx := r_next G (d4 + 3) (b := b) hx hO (by rw [h1]; decide)
    have e47b : J 72 47 + 1 = nI (p + 1) := by rw [hR.2.2.1, nI_1]
    have K83 : ∀ (v3 : Int64) (J3 : IF) (L3 : LF), ROK T n I0 L0 (p + 1) j1 J3 L3 → RV (L0 101) (need 3 (p + 1)) c1 v3 → WQ G (d4 + 4 + 1) Y_X11_factor (SQ T n I0 L0 b p o j (need 0 p) cd) 83 [(0, .ref 72), (1, .int (-1))] [.long v3] (J3, L3, RR b) := by
      intro v3 J3 L3 hR3 hV
      have hsg3 := r_sign G (d4 + 3) (b := b) (c := 41) (v := -41) hx hR3 (by decide) (by decide)
      rcases g4 with ⟨a1, a2, a3, a4⟩ | ⟨a1, a2, a3⟩
      · have hO3 := hR3.op (p2 := p)
        have hnx3 := r_next G (d4 + 3) (b := b) hx hO3 (by rw [a1]; decide)
        have e47c : J3 72 47 - 1 = nI p := by rw [hR3.2.2.1, nI_pred]
        rw [a2, a3, a4]
        refine wp_lstore_n (lv' := [(2, _), (0, _), (1, _)]) rfl rfl (by decide) rfl ?_
        refine wp_aload_n rfl rfl ?_
        refine wp_bipush (v := 41) rfl rfl ?_
        refine cV1 rfl l_11_278 i_X11_isSign m_X11_isSign (by first | rfl | assumption) (by decide) (hsg3) rfl (Nat.le_of_ble_eq_true rfl) ?_
        refine wp_if_ne 92 rfl rfl (fun _ => ?_) (fun h87 => absurd h87 (b2_ne.mpr a1))
        refine wp_aload_n rfl rfl ?_
        refine wp_dup rfl rfl ?_
        refine q_geti rfl rfl (by first | rfl | assumption) rfl ?_
        refine wp_iconst (v := 1) rfl rfl ?_
        refine wp_isub rfl ?_
        rw [e47c]
        refine q_puti rfl rfl (by first | rfl | assumption) (Or.inl rfl) rfl ?_
        refine wp_aload_n rfl rfl ?_
        refine cVr rfl l_11_261 i_X11_next m_X11_next (by first | rfl | assumption) (by decide) (hnx3) rfl (Nat.le_of_ble_eq_true rfl) (fun r99 w99 hq99 => ?_)
        obtain ⟨rfl, J4, L4, rfl, hR4⟩ := hq99
        refine wp_lload_n rfl rfl ?_
        exact wp_lret rfl rfl (⟨v3, J4, L4, rfl, rfl, fun _ => ⟨hR4, hV.mono (by unfold need; simp; omega)⟩, nofun⟩)
      · rw [a2, a3]
        refine wp_lstore_n (lv' := [(2, _), (0, _), (1, _)]) rfl rfl (by decide) rfl ?_
        refine wp_aload_n rfl rfl ?_
        refine wp_bipush (v := 41) rfl rfl ?_
        refine cV1 rfl l_11_278 i_X11_isSign m_X11_isSign (by first | rfl | assumption) (by decide) (hsg3) rfl (Nat.le_of_ble_eq_true rfl) ?_
        refine wp_if_ne 92 rfl rfl (fun h87 => absurd (b2_f a1) h87) (fun _ => ?_)
        refine wp_aload_n rfl rfl ?_
        refine cVr rfl l_11_258 i_X11_bad m_X11_bad (by first | rfl | assumption) (by decide) (r_bad G _ hR3) rfl (Nat.le_of_ble_eq_true rfl) (fun r89 w89 hq89 => ?_)
        obtain ⟨rfl, J4, rfl, hB4⟩ := hq89
        refine wp_lconst (v := 0) rfl rfl ?_
        exact wp_lret rfl rfl (⟨0, J4, L3, rfl, rfl, nofun, fun _ => hB4⟩)
    refine MT.intro m_X11_factor rfl (Nat.le_of_ble_eq_true rfl) ?_
    show WQ G (d4 + 4 + 1) Y_X11_factor _ 0 [(0, .ref 72)] [] (J, L, RR b)
    refine wp_aload_n rfl rfl ?_
    refine q_geti rfl rfl (by first | rfl | assumption) rfl ?_
    refine wp_if_eq 5 rfl rfl (fun _ => ?_) (fun h2 => absurd e52 h2)
    refine wp_aload_n rfl rfl ?_
    refine q_geti rfl rfl (by first | rfl | assumption) rfl ?_
    refine wp_iconst (v := 2) rfl rfl ?_
    refine wp_icmp_ne 13 rfl rfl (fun _ => ?_) (fun h8 => absurd h8 ns)
    refine wp_aload_n rfl rfl ?_
    refine wp_ldcT (tx := "homes") rfl (List.mem_of_getElem? (i := 12) rfl) ?_
    refine cV1 rfl l_11_268 i_X11_is m_X11_is (by first | rfl | assumption) (by decide) (hI 0 (-1) (by decide) (by decide)) rfl (Nat.le_of_ble_eq_true rfl) ?_
    refine wp_if_eq 19 rfl rfl (fun _ => ?_) (fun h16 => absurd (b2_f (nw (-1) (by decide))) h16)
    refine wp_aload_n rfl rfl ?_
    refine wp_ldcT (tx := "poor") rfl (List.mem_of_getElem? (i := 13) rfl) ?_
    refine cV1 rfl l_11_268 i_X11_is m_X11_is (by first | rfl | assumption) (by decide) (hI 1 (-2) (by decide) (by decide)) rfl (Nat.le_of_ble_eq_true rfl) ?_
    refine wp_if_eq 25 rfl rfl (fun _ => ?_) (fun h22 => absurd (b2_f (nw (-2) (by decide))) h22)
    refine wp_aload_n rfl rfl ?_
    refine wp_ldcT (tx := "aged") rfl (List.mem_of_getElem? (i := 14) rfl) ?_
    refine cV1 rfl l_11_268 i_X11_is m_X11_is (by first | rfl | assumption) (by decide) (hI 2 (-3) (by decide) (by decide)) rfl (Nat.le_of_ble_eq_true rfl) ?_
    refine wp_if_eq 31 rfl rfl (fun _ => ?_) (fun h28 => absurd (b2_f (nw (-3) (by decide))) h28)
    refine wp_aload_n rfl rfl ?_
    refine wp_ldcT (tx := "boxes") rfl (List.mem_of_getElem? (i := 15) rfl) ?_
    refine cV1 rfl l_11_268 i_X11_is m_X11_is (by first | rfl | assumption) (by decide) (hI 3 (-4) (by decide) (by decide)) rfl (Nat.le_of_ble_eq_true rfl) ?_
    refine wp_if_eq 37 rfl rfl (fun _ => ?_) (fun h34 => absurd (b2_f (nw (-4) (by decide))) h34)
    refine wp_aload_n rfl rfl ?_
    refine wp_ldcT (tx := "week") rfl (List.mem_of_getElem? (i := 16) rfl) ?_
    refine cV1 rfl l_11_268 i_X11_is m_X11_is (by first | rfl | assumption) (by decide) (hI 4 (-5) (by decide) (by decide)) rfl (Nat.le_of_ble_eq_true rfl) ?_
    refine wp_if_eq 43 rfl rfl (fun _ => ?_) (fun h40 => absurd (b2_f (nw (-5) (by decide))) h40)
    refine wp_aload_n rfl rfl ?_
    refine wp_ldcT (tx := "stock") rfl (List.mem_of_getElem? (i := 17) rfl) ?_
    refine cV1 rfl l_11_268 i_X11_is m_X11_is (by first | rfl | assumption) (by decide) (hI 5 (-6) (by decide) (by decide)) rfl (Nat.le_of_ble_eq_true rfl) ?_
    refine wp_if_eq 49 rfl rfl (fun _ => ?_) (fun h46 => absurd (b2_f (nw (-6) (by decide))) h46)
    refine wp_iconst (v := (-1)) rfl rfl ?_
    refine wp_istore_n (lv' := [(1, _), (0, _)]) rfl rfl (by decide) rfl ?_
    refine wp_iload_n rfl rfl ?_
    refine wp_iconst (v := (-1)) rfl rfl ?_
    refine wp_icmp_eq 61 rfl rfl (fun _ => ?_) (fun h53 => absurd rfl h53)
    refine wp_aload_n rfl rfl ?_
    refine wp_bipush (v := 40) rfl rfl ?_
    refine cV1 rfl l_11_278 i_X11_isSign m_X11_isSign (by first | rfl | assumption) (by decide) (hsg) rfl (Nat.le_of_ble_eq_true rfl) ?_
    refine wp_if_eq 69 rfl rfl (fun h64 => absurd h64 (fun z => (b2_eq.mp z) h1)) (fun _ => ?_)
    refine wp_aload_n rfl rfl ?_
    refine q_geti rfl rfl (by first | rfl | assumption) rfl ?_
    refine wp_bipush (v := 8) rfl rfl ?_
    refine wp_icmp_ne 73 rfl rfl (fun _ => ?_) (fun h68 => absurd h68 e47)
    refine wp_aload_n rfl rfl ?_
    refine wp_dup rfl rfl ?_
    refine q_geti rfl rfl (by first | rfl | assumption) rfl ?_
    refine wp_iconst (v := 1) rfl rfl ?_
    refine wp_iadd rfl ?_
    rw [e47b]
    refine q_puti rfl rfl (by first | rfl | assumption) (Or.inl rfl) rfl ?_
    refine wp_aload_n rfl rfl ?_
    refine cVr rfl l_11_261 i_X11_next m_X11_next (by first | rfl | assumption) (by decide) (hnx) rfl (Nat.le_of_ble_eq_true rfl) (fun r80 w80 hq80 => ?_)
    obtain ⟨rfl, J2, L2, rfl, hR2⟩ := hq80
    refine wp_aload_n rfl rfl ?_
    refine cVr rfl l_11_284 i_X11_sum m_X11_sum (by first | rfl | assumption) (by decide) (ihS (p + 1) (i + 1) _ _ _ (d4 + 3) _ _ (by omega) g3 (by omega) hR2) rfl (Nat.le_of_ble_eq_true rfl) (fun r82 w82 hq82 => ?_)
    obtain ⟨v3, J3, L3, rfl, rfl, ht, -⟩ := hq82
    refine wp_loc (lv' := [(0, _), (1, _)]) [1, 0] rfl ?_
    exact K83 v3 J3 L3 (ht rfl).1 (ht rfl).2
  · have hV1 := RV.one (F := L0 101) h2
    have hne : ¬ KK T n i = -100 := fun z => by rw [z] at h2; exact absurd h2 (by decide)
    by_cases h0 : 0 ≤ KK T n i
    · have ys : ¬ ¬ J 72 46 = 2 := fun z => z (by rw [e46]; exact hnum.mp h0)
      have hwh := r_whole G (d4 + 2) (b := b) hx hR h0
      rw [if_pos h0] at hV1
      rw [e3, e4, e5]
      refine MT.intro m_X11_factor rfl (Nat.le_of_ble_eq_true rfl) ?_
      show WQ G (d4 + 4 + 1) Y_X11_factor _ 0 [(0, .ref 72)] [] (J, L, RR b)
      refine wp_aload_n rfl rfl ?_
      refine q_geti rfl rfl (by first | rfl | assumption) rfl ?_
      refine wp_if_eq 5 rfl rfl (fun _ => ?_) (fun h2 => absurd e52 h2)
      refine wp_aload_n rfl rfl ?_
      refine q_geti rfl rfl (by first | rfl | assumption) rfl ?_
      refine wp_iconst (v := 2) rfl rfl ?_
      refine wp_icmp_ne 13 rfl rfl (fun h8 => absurd h8 ys) (fun _ => ?_)
      refine wp_aload_n rfl rfl ?_
      refine cVr rfl l_11_264 i_X11_whole m_X11_whole (by first | rfl | assumption) (by decide) (hwh) rfl (Nat.le_of_ble_eq_true rfl) (fun r10 w10 hq10 => ?_)
      obtain ⟨rfl, J2, L2, rfl, hR2⟩ := hq10
      refine wp_i2l rfl ?_
      exact wp_lret rfl rfl (⟨_, J2, L2, rfl, rfl, fun _ => ⟨hR2, hV1.mono (by unfold need; simp)⟩, nofun⟩)
    · have ns : ¬ J 72 46 = 2 := by rw [e46]; exact fun z => h0 (hnum.mpr z)
      have hnx := r_next G (d4 + 3) (b := b) hx hR hne
      rw [if_neg h0] at hV1
      have K50 : ∀ v : Int32, v = -1 - KK T n i → WQ G (d4 + 4 + 1) Y_X11_factor (SQ T n I0 L0 b p o j (need 0 p) cd) 50 [(0, .ref 72)] [.int v] (J, L, RR b) := by
        intro v hv
        have hin : vp_in v 6 := vpin (n := 6) (by grind) (by show v < 6; grind) (by omega)
        have hv1 : ¬ v = -1 := by grind
        have hcx : v.toNatClampNeg = fcx (KK T n i) := by unfold fcx; rw [hv]
        rw [e3, e4, e5]
        refine wp_istore_n (lv' := [(1, _), (0, _)]) rfl rfl (by decide) rfl ?_
        refine wp_iload_n rfl rfl ?_
        refine wp_iconst (v := (-1)) rfl rfl ?_
        refine wp_icmp_eq 61 rfl rfl (fun h53 => absurd h53 hv1) (fun _ => ?_)
        refine wp_aload_n rfl rfl ?_
        refine cVr rfl l_11_261 i_X11_next m_X11_next (by first | rfl | assumption) (by decide) (hnx) rfl (Nat.le_of_ble_eq_true rfl) (fun r55 w55 hq55 => ?_)
        obtain ⟨rfl, J2, L2, rfl, hR2⟩ := hq55
        have e101 : L2 101 = L0 101 := hR2.1.2.2.1 101 (by decide)
        refine wp_aload_n rfl rfl ?_
        refine q_getr rfl rfl (by first | rfl | assumption) rfl rfl ?_
        refine wp_iload_n rfl rfl ?_
        refine q_lald rfl (by first | rfl | assumption) (by assumption) ?_
        rw [hcx, e101]
        exact wp_lret rfl rfl (⟨_, J2, L2, rfl, rfl, fun _ => ⟨hR2, hV1.mono (by unfold need; simp)⟩, nofun⟩)
      refine MT.intro m_X11_factor rfl (Nat.le_of_ble_eq_true rfl) ?_
      show WQ G (d4 + 4 + 1) Y_X11_factor _ 0 [(0, .ref 72)] [] (J, L, RR b)
      refine wp_aload_n rfl rfl ?_
      refine q_geti rfl rfl (by first | rfl | assumption) rfl ?_
      refine wp_if_eq 5 rfl rfl (fun _ => ?_) (fun h2 => absurd e52 h2)
      refine wp_aload_n rfl rfl ?_
      refine q_geti rfl rfl (by first | rfl | assumption) rfl ?_
      refine wp_iconst (v := 2) rfl rfl ?_
      refine wp_icmp_ne 13 rfl rfl (fun _ => ?_) (fun h8 => absurd h8 ns)
      refine wp_aload_n rfl rfl ?_
      refine wp_ldcT (tx := "homes") rfl (List.mem_of_getElem? (i := 12) rfl) ?_
      refine cV1 rfl l_11_268 i_X11_is m_X11_is (by first | rfl | assumption) (by decide) (hI 0 (-1) (by decide) (by decide)) rfl (Nat.le_of_ble_eq_true rfl) ?_
      refine wp_if_eq 19 rfl rfl (fun h16 => ?_) (fun h16 => ?_)
      · refine wp_aload_n rfl rfl ?_
        refine wp_ldcT (tx := "poor") rfl (List.mem_of_getElem? (i := 13) rfl) ?_
        refine cV1 rfl l_11_268 i_X11_is m_X11_is (by first | rfl | assumption) (by decide) (hI 1 (-2) (by decide) (by decide)) rfl (Nat.le_of_ble_eq_true rfl) ?_
        refine wp_if_eq 25 rfl rfl (fun h22 => ?_) (fun h22 => ?_)
        · refine wp_aload_n rfl rfl ?_
          refine wp_ldcT (tx := "aged") rfl (List.mem_of_getElem? (i := 14) rfl) ?_
          refine cV1 rfl l_11_268 i_X11_is m_X11_is (by first | rfl | assumption) (by decide) (hI 2 (-3) (by decide) (by decide)) rfl (Nat.le_of_ble_eq_true rfl) ?_
          refine wp_if_eq 31 rfl rfl (fun h28 => ?_) (fun h28 => ?_)
          · refine wp_aload_n rfl rfl ?_
            refine wp_ldcT (tx := "boxes") rfl (List.mem_of_getElem? (i := 15) rfl) ?_
            refine cV1 rfl l_11_268 i_X11_is m_X11_is (by first | rfl | assumption) (by decide) (hI 3 (-4) (by decide) (by decide)) rfl (Nat.le_of_ble_eq_true rfl) ?_
            refine wp_if_eq 37 rfl rfl (fun h34 => ?_) (fun h34 => ?_)
            · refine wp_aload_n rfl rfl ?_
              refine wp_ldcT (tx := "week") rfl (List.mem_of_getElem? (i := 16) rfl) ?_
              refine cV1 rfl l_11_268 i_X11_is m_X11_is (by first | rfl | assumption) (by decide) (hI 4 (-5) (by decide) (by decide)) rfl (Nat.le_of_ble_eq_true rfl) ?_
              refine wp_if_eq 43 rfl rfl (fun h40 => ?_) (fun h40 => ?_)
              · refine wp_aload_n rfl rfl ?_
                refine wp_ldcT (tx := "stock") rfl (List.mem_of_getElem? (i := 17) rfl) ?_
                refine cV1 rfl l_11_268 i_X11_is m_X11_is (by first | rfl | assumption) (by decide) (hI 5 (-6) (by decide) (by decide)) rfl (Nat.le_of_ble_eq_true rfl) ?_
                refine wp_if_eq 49 rfl rfl (fun h46 => ?_) (fun h46 => ?_)
                · refine wp_iconst (v := (-1)) rfl rfl ?_
                  exact K50 _ (by clear hnx K50 hI hsg hV1; simp only [b2_ne, b2_eq] at *; grind)
                · refine wp_iconst (v := 5) rfl rfl ?_
                  refine wp_goto 50 rfl rfl ?_
                  exact K50 _ (by clear hnx K50 hI hsg hV1; simp only [b2_ne, b2_eq] at *; grind)
              · refine wp_iconst (v := 4) rfl rfl ?_
                refine wp_goto 50 rfl rfl ?_
                exact K50 _ (by clear hnx K50 hI hsg hV1; simp only [b2_ne, b2_eq] at *; grind)
            · refine wp_iconst (v := 3) rfl rfl ?_
              refine wp_goto 50 rfl rfl ?_
              exact K50 _ (by clear hnx K50 hI hsg hV1; simp only [b2_ne, b2_eq] at *; grind)
          · refine wp_iconst (v := 2) rfl rfl ?_
            refine wp_goto 50 rfl rfl ?_
            exact K50 _ (by clear hnx K50 hI hsg hV1; simp only [b2_ne, b2_eq] at *; grind)
        · refine wp_iconst (v := 1) rfl rfl ?_
          refine wp_goto 50 rfl rfl ?_
          exact K50 _ (by clear hnx K50 hI hsg hV1; simp only [b2_ne, b2_eq] at *; grind)
      · refine wp_iconst (v := 0) rfl rfl ?_
        refine wp_goto 50 rfl rfl ?_
        exact K50 _ (by clear hnx K50 hI hsg hV1; simp only [b2_ne, b2_eq] at *; grind)
  · have nw : ∀ v : Int32, -6 ≤ v → ¬ KK T n i = v := fun v hv z => h2 (by rw [z]; exact hv)
    have ns : ¬ J 72 46 = 2 := by rw [e46]; exact fun z => h2 (by have := hnum.mpr z; grind)
    have hbd := r_bad G (d4 + 4) (b := b) hR
    rw [e3, e4]
    refine MT.intro m_X11_factor rfl (Nat.le_of_ble_eq_true rfl) ?_
    show WQ G (d4 + 4 + 1) Y_X11_factor _ 0 [(0, .ref 72)] [] (J, L, RR b)
    refine wp_aload_n rfl rfl ?_
    refine q_geti rfl rfl (by first | rfl | assumption) rfl ?_
    refine wp_if_eq 5 rfl rfl (fun _ => ?_) (fun h2 => absurd e52 h2)
    refine wp_aload_n rfl rfl ?_
    refine q_geti rfl rfl (by first | rfl | assumption) rfl ?_
    refine wp_iconst (v := 2) rfl rfl ?_
    refine wp_icmp_ne 13 rfl rfl (fun _ => ?_) (fun h8 => absurd h8 ns)
    refine wp_aload_n rfl rfl ?_
    refine wp_ldcT (tx := "homes") rfl (List.mem_of_getElem? (i := 12) rfl) ?_
    refine cV1 rfl l_11_268 i_X11_is m_X11_is (by first | rfl | assumption) (by decide) (hI 0 (-1) (by decide) (by decide)) rfl (Nat.le_of_ble_eq_true rfl) ?_
    refine wp_if_eq 19 rfl rfl (fun _ => ?_) (fun h16 => absurd (b2_f (nw (-1) (by decide))) h16)
    refine wp_aload_n rfl rfl ?_
    refine wp_ldcT (tx := "poor") rfl (List.mem_of_getElem? (i := 13) rfl) ?_
    refine cV1 rfl l_11_268 i_X11_is m_X11_is (by first | rfl | assumption) (by decide) (hI 1 (-2) (by decide) (by decide)) rfl (Nat.le_of_ble_eq_true rfl) ?_
    refine wp_if_eq 25 rfl rfl (fun _ => ?_) (fun h22 => absurd (b2_f (nw (-2) (by decide))) h22)
    refine wp_aload_n rfl rfl ?_
    refine wp_ldcT (tx := "aged") rfl (List.mem_of_getElem? (i := 14) rfl) ?_
    refine cV1 rfl l_11_268 i_X11_is m_X11_is (by first | rfl | assumption) (by decide) (hI 2 (-3) (by decide) (by decide)) rfl (Nat.le_of_ble_eq_true rfl) ?_
    refine wp_if_eq 31 rfl rfl (fun _ => ?_) (fun h28 => absurd (b2_f (nw (-3) (by decide))) h28)
    refine wp_aload_n rfl rfl ?_
    refine wp_ldcT (tx := "boxes") rfl (List.mem_of_getElem? (i := 15) rfl) ?_
    refine cV1 rfl l_11_268 i_X11_is m_X11_is (by first | rfl | assumption) (by decide) (hI 3 (-4) (by decide) (by decide)) rfl (Nat.le_of_ble_eq_true rfl) ?_
    refine wp_if_eq 37 rfl rfl (fun _ => ?_) (fun h34 => absurd (b2_f (nw (-4) (by decide))) h34)
    refine wp_aload_n rfl rfl ?_
    refine wp_ldcT (tx := "week") rfl (List.mem_of_getElem? (i := 16) rfl) ?_
    refine cV1 rfl l_11_268 i_X11_is m_X11_is (by first | rfl | assumption) (by decide) (hI 4 (-5) (by decide) (by decide)) rfl (Nat.le_of_ble_eq_true rfl) ?_
    refine wp_if_eq 43 rfl rfl (fun _ => ?_) (fun h40 => absurd (b2_f (nw (-5) (by decide))) h40)
    refine wp_aload_n rfl rfl ?_
    refine wp_ldcT (tx := "stock") rfl (List.mem_of_getElem? (i := 17) rfl) ?_
    refine cV1 rfl l_11_268 i_X11_is m_X11_is (by first | rfl | assumption) (by decide) (hI 5 (-6) (by decide) (by decide)) rfl (Nat.le_of_ble_eq_true rfl) ?_
    refine wp_if_eq 49 rfl rfl (fun _ => ?_) (fun h46 => absurd (b2_f (nw (-6) (by decide))) h46)
    refine wp_iconst (v := (-1)) rfl rfl ?_
    refine wp_istore_n (lv' := [(1, _), (0, _)]) rfl rfl (by decide) rfl ?_
    refine wp_iload_n rfl rfl ?_
    refine wp_iconst (v := (-1)) rfl rfl ?_
    refine wp_icmp_eq 61 rfl rfl (fun _ => ?_) (fun h53 => absurd rfl h53)
    refine wp_aload_n rfl rfl ?_
    refine wp_bipush (v := 40) rfl rfl ?_
    refine cV1 rfl l_11_278 i_X11_isSign m_X11_isSign (by first | rfl | assumption) (by decide) (hsg) rfl (Nat.le_of_ble_eq_true rfl) ?_
    refine wp_if_eq 69 rfl rfl (fun _ => ?_) (fun h64 => absurd (b2_f h1) h64)
    refine wp_aload_n rfl rfl ?_
    refine cVr rfl l_11_258 i_X11_bad m_X11_bad (by first | rfl | assumption) (by decide) (hbd) rfl (Nat.le_of_ble_eq_true rfl) (fun r70 w70 hq70 => ?_)
    obtain ⟨rfl, J2, rfl, hB⟩ := hq70
    refine wp_lconst (v := 0) rfl rfl ?_
    exact wp_lret rfl rfl (⟨0, J2, L, rfl, rfl, nofun, fun _ => hB⟩)
theorem rrd_Tb {G : Gl} {b : Bool} {T : Nat → Int32} {n p j nd d : Nat} {I0 J : IF} {L0 L : LF} {cd : List Int32} (v : Int64) (h : RBD T n I0 L0 j J L) : WQ G (d + 1) Y_X11_term (SQ T n I0 L0 b p false j nd cd) 3 [(0, .ref 72), (1, .long v)] [] (J, L, RR b) := by
  refine wp_aload_n rfl rfl ?_
  refine wp_bipush (v := 42) rfl rfl ?_
  refine cV1 rfl l_11_278 i_X11_isSign m_X11_isSign (by first | rfl | assumption) (by decide) (r_sign0 G _ _ h) rfl (Nat.le_of_ble_eq_true rfl) ?_
  refine wp_if_ne 11 rfl rfl (fun h6 => absurd rfl h6) (fun _ => ?_)
  refine wp_aload_n rfl rfl ?_
  refine wp_bipush (v := 47) rfl rfl ?_
  refine cV1 rfl l_11_278 i_X11_isSign m_X11_isSign (by first | rfl | assumption) (by decide) (r_sign0 G _ _ h) rfl (Nat.le_of_ble_eq_true rfl) ?_
  refine wp_if_eq 44 rfl rfl (fun _ => ?_) (fun h10 => absurd rfl h10)
  refine wp_lload_n rfl rfl ?_
  exact wp_lret rfl rfl (⟨v, J, L, rfl, rfl, nofun, fun _ => h⟩)
theorem rrd_Tl {G : Gl} {b : Bool} {T : Nat → Int32} {n t : Nat} {I0 : IF} {L0 : LF} {f : Nat} (hx : RTX T n t I0) (ihF : CFr G b T n I0 L0 f) (ihL : CTlr G b T n I0 L0 f) : CTlr G b T n I0 L0 (f + 1) := by
  intro p i o j cd d J L c0 v hp h hd hR hV
  obtain ⟨d5, rfl⟩ : ∃ d5, d = d5 + 5 := ⟨d - 5, by omega⟩
  have s1 := r_sign G (d5 + 4) (b := b) (c := 42) (v := -42) hx hR (by decide) (by decide)
  have s2 := r_sign G (d5 + 4) (b := b) (c := 47) (v := -47) hx hR (by decide) (by decide)
  rcases prs2_i h with ⟨h0, hy⟩ | ⟨h0, e1, e2, e3⟩
  · have hne : ¬ KK T n i = -100 := by rcases h0 with z | z <;> rw [z] <;> decide
    have hnx := r_next G (d5 + 4) (b := b) hx hR hne
    have K20 : ∀ (w : Int64) (J2 : IF) (L2 : LF), WQ G (d5 + 5 + 1) Y_X11_term (SQ T n I0 L0 b p o j (need 1 p) (c0 ++ cd)) 3 [(0, .ref 72), (1, .long (cmb (KK T n i) v w))] [] (J2, L2, RR b) → WQ G (d5 + 5 + 1) Y_X11_term (SQ T n I0 L0 b p o j (need 1 p) (c0 ++ cd)) 20 [(0, .ref 72), (1, .long v), (3, .int (b2 (KK T n i = -42))), (4, .long w)] [] (J2, L2, RR b) := by
      intro w J2 L2 K3
      have K3b : ∀ x, x = cmb (KK T n i) v w → WQ G (d5 + 5 + 1) Y_X11_term (SQ T n I0 L0 b p o j (need 1 p) (c0 ++ cd)) 3 [(0, .ref 72), (1, .long x)] [] (J2, L2, RR b) := fun x e => by rw [e]; exact K3
      have c1 : ¬ b2 (KK T n i = -42) = 0 → v * w = cmb (KK T n i) v w := fun z => by rw [b2_ne.mp z]; rfl
      have c2 : b2 (KK T n i = -42) = 0 → lg_cmp w 0 = 0 → (0 : Int64) = cmb (KK T n i) v w := fun z y => by
        rw [h0.resolve_left (b2_eq.mp z), lgc_eq.mp y]; rfl
      have c3 : b2 (KK T n i = -42) = 0 → ¬ lg_cmp w 0 = 0 → lg_cmp w (-1) = 0 → -v = cmb (KK T n i) v w := fun z y x => by
        rw [h0.resolve_left (b2_eq.mp z), lgc_eq.mp x]; rfl
      have c4 : b2 (KK T n i = -42) = 0 → ¬ lg_cmp w 0 = 0 → ¬ lg_cmp w (-1) = 0 → v / w = cmb (KK T n i) v w := fun z y x => by
        rw [h0.resolve_left (b2_eq.mp z)]
        unfold cmb
        rw [if_neg (by decide), if_neg (by decide), if_neg (by decide), if_neg (fun q => y (lgc_eq.mpr q)), if_neg (fun q => x (lgc_eq.mpr q))]
      refine wp_iload_n rfl rfl ?_
      refine wp_if_eq 26 rfl rfl (fun h21 => ?_) (fun h21 => ?_)
      · refine wp_lload rfl rfl ?_
        refine wp_lconst (v := 0) rfl rfl ?_
        refine wp_lcmp rfl ?_
        refine wp_if_ne 32 rfl rfl (fun h29 => ?_) (fun h29 => ?_)
        · refine wp_lload rfl rfl ?_
          refine wp_ldc2 (v := (-1)) rfl cl_11_143 ?_
          refine wp_lcmp rfl ?_
          refine wp_if_ne 39 rfl rfl (fun h35 => ?_) (fun h35 => ?_)
          · refine wp_lload_n rfl rfl ?_
            refine wp_lload rfl rfl ?_
            refine wp_ldiv rfl (fun z => h29 (lgc_eq.mpr z)) ?_
            refine wp_lstore_n (lv' := [(1, _), (0, _), (3, _), (4, _)]) rfl rfl (by decide) rfl ?_
            refine wp_goto 3 rfl rfl ?_
            refine wp_loc (lv' := [(0, _), (1, _)]) [1, 0] rfl ?_
            exact K3b _ (by first | exact c1 (by assumption) | exact c2 (by assumption) (by assumption) | exact c3 (by assumption) (by assumption) (by assumption) | exact c4 (by assumption) (by assumption) (by assumption))
          · refine wp_lload_n rfl rfl ?_
            refine wp_lneg rfl ?_
            refine wp_goto 42 rfl rfl ?_
            refine wp_lstore_n (lv' := [(1, _), (0, _), (3, _), (4, _)]) rfl rfl (by decide) rfl ?_
            refine wp_goto 3 rfl rfl ?_
            refine wp_loc (lv' := [(0, _), (1, _)]) [1, 0] rfl ?_
            exact K3b _ (by first | exact c1 (by assumption) | exact c2 (by assumption) (by assumption) | exact c3 (by assumption) (by assumption) (by assumption) | exact c4 (by assumption) (by assumption) (by assumption))
        · refine wp_lconst (v := 0) rfl rfl ?_
          refine wp_goto 42 rfl rfl ?_
          refine wp_lstore_n (lv' := [(1, _), (0, _), (3, _), (4, _)]) rfl rfl (by decide) rfl ?_
          refine wp_goto 3 rfl rfl ?_
          refine wp_loc (lv' := [(0, _), (1, _)]) [1, 0] rfl ?_
          exact K3b _ (by first | exact c1 (by assumption) | exact c2 (by assumption) (by assumption) | exact c3 (by assumption) (by assumption) (by assumption) | exact c4 (by assumption) (by assumption) (by assumption))
      · refine wp_lload_n rfl rfl ?_
        refine wp_lload rfl rfl ?_
        refine wp_lmul rfl ?_
        refine wp_goto 42 rfl rfl ?_
        refine wp_lstore_n (lv' := [(1, _), (0, _), (3, _), (4, _)]) rfl rfl (by decide) rfl ?_
        refine wp_goto 3 rfl rfl ?_
        refine wp_loc (lv' := [(0, _), (1, _)]) [1, 0] rfl ?_
        exact K3b _ (by first | exact c1 (by assumption) | exact c2 (by assumption) (by assumption) | exact c3 (by assumption) (by assumption) (by assumption) | exact c4 (by assumption) (by assumption) (by assumption))
    have K11 : WQ G (d5 + 5 + 1) Y_X11_term (SQ T n I0 L0 b p o j (need 1 p) (c0 ++ cd)) 11 [(0, .ref 72), (1, .long v)] [] (J, L, RR b) := by
      rcases hy with ⟨c1, g1, g2⟩ | ⟨j1, c1, c2, g1, g2, g3⟩
      · subst g2
        refine wp_aload_n rfl rfl ?_
        refine wp_bipush (v := 42) rfl rfl ?_
        refine cV1 rfl l_11_278 i_X11_isSign m_X11_isSign (by first | rfl | assumption) (by decide) (s1) rfl (Nat.le_of_ble_eq_true rfl) ?_
        refine wp_istore_n (lv' := [(3, _), (0, _), (1, _)]) rfl rfl (by decide) rfl ?_
        refine wp_aload_n rfl rfl ?_
        refine cVr rfl l_11_261 i_X11_next m_X11_next (by first | rfl | assumption) (by decide) (hnx) rfl (Nat.le_of_ble_eq_true rfl) (fun r16 w16 hq16 => ?_)
        obtain ⟨rfl, J2, L2, rfl, hR2⟩ := hq16
        refine wp_aload_n rfl rfl ?_
        refine cVr rfl l_11_288 i_X11_factor m_X11_factor (by first | rfl | assumption) (by decide) (ihF p (i + 1) _ _ _ (d5 + 4) _ _ hp g1 (by omega) hR2) rfl (Nat.le_of_ble_eq_true rfl) (fun r18 w18 hq18 => ?_)
        obtain ⟨w, J3, L3, rfl, rfl, -, hf⟩ := hq18
        refine wp_lstore (lv' := [(4, _), (3, _), (0, _), (1, _)]) rfl (by decide) rfl ?_
        refine wp_loc (lv' := [(0, _), (1, _), (3, _), (4, _)]) [2, 3, 1, 0] rfl ?_
        exact K20 w J3 L3 (rrd_Tb _ (hf rfl))
      · rw [g3, ← List.append_assoc] at K20 ⊢
        refine wp_aload_n rfl rfl ?_
        refine wp_bipush (v := 42) rfl rfl ?_
        refine cV1 rfl l_11_278 i_X11_isSign m_X11_isSign (by first | rfl | assumption) (by decide) (s1) rfl (Nat.le_of_ble_eq_true rfl) ?_
        refine wp_istore_n (lv' := [(3, _), (0, _), (1, _)]) rfl rfl (by decide) rfl ?_
        refine wp_aload_n rfl rfl ?_
        refine cVr rfl l_11_261 i_X11_next m_X11_next (by first | rfl | assumption) (by decide) (hnx) rfl (Nat.le_of_ble_eq_true rfl) (fun r16 w16 hq16 => ?_)
        obtain ⟨rfl, J2, L2, rfl, hR2⟩ := hq16
        refine wp_aload_n rfl rfl ?_
        refine cVr rfl l_11_288 i_X11_factor m_X11_factor (by first | rfl | assumption) (by decide) (ihF p (i + 1) _ _ _ (d5 + 4) _ _ hp g1 (by omega) hR2) rfl (Nat.le_of_ble_eq_true rfl) (fun r18 w18 hq18 => ?_)
        obtain ⟨w, J3, L3, rfl, rfl, ht, -⟩ := hq18
        have hop := RV.op (n := need 0 p) (s := KK T n i) (hV.mono (by unfold need; simp)) (ht rfl).2 (h0.elim (fun e => Or.inr (Or.inr (Or.inl e))) (fun e => Or.inr (Or.inr (Or.inr e))))
        have hop2 : RV (L0 101) (need 1 p) (c0 ++ (c1 ++ [KK T n i])) (cmb (KK T n i) v w) := hop.mono (by unfold need; simp)
        refine wp_lstore (lv' := [(4, _), (3, _), (0, _), (1, _)]) rfl (by decide) rfl ?_
        refine wp_loc (lv' := [(0, _), (1, _), (3, _), (4, _)]) [2, 3, 1, 0] rfl ?_
        exact K20 w J3 L3 (ihL p j1 _ _ _ _ _ _ _ _ hp g2 hd (ht rfl).1 hop2)
    refine wp_aload_n rfl rfl ?_
    refine wp_bipush (v := 42) rfl rfl ?_
    refine cV1 rfl l_11_278 i_X11_isSign m_X11_isSign (by first | rfl | assumption) (by decide) (s1) rfl (Nat.le_of_ble_eq_true rfl) ?_
    refine wp_if_ne 11 rfl rfl (fun h6 => ?_) (fun h6 => ?_)
    · exact K11
    · refine wp_aload_n rfl rfl ?_
      refine wp_bipush (v := 47) rfl rfl ?_
      refine cV1 rfl l_11_278 i_X11_isSign m_X11_isSign (by first | rfl | assumption) (by decide) (s2) rfl (Nat.le_of_ble_eq_true rfl) ?_
      refine wp_if_eq 44 rfl rfl (fun h10 => ?_) (fun h10 => ?_)
      · exact absurd h0 (fun z => z.elim (b2_eq.mp h6) (b2_eq.mp h10))
      · exact K11
  · rw [e1, e2, e3, List.append_nil]
    refine wp_aload_n rfl rfl ?_
    refine wp_bipush (v := 42) rfl rfl ?_
    refine cV1 rfl l_11_278 i_X11_isSign m_X11_isSign (by first | rfl | assumption) (by decide) (s1) rfl (Nat.le_of_ble_eq_true rfl) ?_
    refine wp_if_ne 11 rfl rfl (fun h6 => absurd (b2_f (fun z => h0 (Or.inl z))) h6) (fun _ => ?_)
    refine wp_aload_n rfl rfl ?_
    refine wp_bipush (v := 47) rfl rfl ?_
    refine cV1 rfl l_11_278 i_X11_isSign m_X11_isSign (by first | rfl | assumption) (by decide) (s2) rfl (Nat.le_of_ble_eq_true rfl) ?_
    refine wp_if_eq 44 rfl rfl (fun _ => ?_) (fun h10 => absurd (b2_f (fun z => h0 (Or.inr z))) h10)
    refine wp_lload_n rfl rfl ?_
    exact wp_lret rfl rfl (⟨v, J, L, rfl, rfl, fun _ => ⟨hR, hV⟩, nofun⟩)
theorem rrd_T {G : Gl} {b : Bool} {T : Nat → Int32} {n : Nat} {I0 : IF} {L0 : LF} {f : Nat} (ihF : CFr G b T n I0 L0 f) (ihL : CTlr G b T n I0 L0 f) : CTr G b T n I0 L0 (f + 1) := by
  intro p i o j cd d J L hp h hd hR
  obtain ⟨d5, rfl⟩ : ∃ d5, d = d5 + 5 := ⟨d - 5, by omega⟩
  rcases prs1_i h with ⟨c1, g1, g2⟩ | ⟨j1, c1, c2, g1, g2, g3⟩
  · subst g2
    refine MT.intro m_X11_term rfl (Nat.le_of_ble_eq_true rfl) ?_
    show WQ G (d5 + 5 + 1) Y_X11_term _ 0 [(0, .ref 72)] [] (J, L, RR b)
    refine wp_aload_n rfl rfl ?_
    refine cVr rfl l_11_288 i_X11_factor m_X11_factor (by first | rfl | assumption) (by decide) (ihF p i _ _ _ (d5 + 4) _ _ hp g1 (by omega) hR) rfl (Nat.le_of_ble_eq_true rfl) (fun r1 w1 hq1 => ?_)
    obtain ⟨w, J3, L3, rfl, rfl, -, hf⟩ := hq1
    refine wp_lstore_n (lv' := [(1, _), (0, _)]) rfl rfl (by decide) rfl ?_
    refine wp_loc (lv' := [(0, _), (1, _)]) [1, 0] rfl ?_
    exact rrd_Tb _ (hf rfl)
  · rw [g3]
    refine MT.intro m_X11_term rfl (Nat.le_of_ble_eq_true rfl) ?_
    show WQ G (d5 + 5 + 1) Y_X11_term _ 0 [(0, .ref 72)] [] (J, L, RR b)
    refine wp_aload_n rfl rfl ?_
    refine cVr rfl l_11_288 i_X11_factor m_X11_factor (by first | rfl | assumption) (by decide) (ihF p i _ _ _ (d5 + 4) _ _ hp g1 (by omega) hR) rfl (Nat.le_of_ble_eq_true rfl) (fun r1 w1 hq1 => ?_)
    obtain ⟨w, J3, L3, rfl, rfl, ht, -⟩ := hq1
    refine wp_lstore_n (lv' := [(1, _), (0, _)]) rfl rfl (by decide) rfl ?_
    refine wp_loc (lv' := [(0, _), (1, _)]) [1, 0] rfl ?_
    exact ihL p j1 _ _ _ _ _ _ _ _ hp g2 hd (ht rfl).1 ((ht rfl).2.mono (by unfold need; simp))
theorem rrd_Sb {G : Gl} {b : Bool} {T : Nat → Int32} {n p j nd d : Nat} {I0 J : IF} {L0 L : LF} {cd : List Int32} (v : Int64) (h : RBD T n I0 L0 j J L) : WQ G (d + 1) Y_X11_sum (SQ T n I0 L0 b p false j nd cd) 3 [(0, .ref 72), (1, .long v)] [] (J, L, RR b) := by
  refine wp_aload_n rfl rfl ?_
  refine wp_bipush (v := 43) rfl rfl ?_
  refine cV1 rfl l_11_278 i_X11_isSign m_X11_isSign (by first | rfl | assumption) (by decide) (r_sign0 G _ _ h) rfl (Nat.le_of_ble_eq_true rfl) ?_
  refine wp_if_ne 11 rfl rfl (fun h6 => absurd rfl h6) (fun _ => ?_)
  refine wp_aload_n rfl rfl ?_
  refine wp_bipush (v := 45) rfl rfl ?_
  refine cV1 rfl l_11_278 i_X11_isSign m_X11_isSign (by first | rfl | assumption) (by decide) (r_sign0 G _ _ h) rfl (Nat.le_of_ble_eq_true rfl) ?_
  refine wp_if_eq 31 rfl rfl (fun _ => ?_) (fun h10 => absurd rfl h10)
  refine wp_lload_n rfl rfl ?_
  exact wp_lret rfl rfl (⟨v, J, L, rfl, rfl, nofun, fun _ => h⟩)
theorem rrd_Sl {G : Gl} {b : Bool} {T : Nat → Int32} {n t : Nat} {I0 : IF} {L0 : LF} {f : Nat} (hx : RTX T n t I0) (ihT : CTr G b T n I0 L0 f) (ihL : CSlr G b T n I0 L0 f) : CSlr G b T n I0 L0 (f + 1) := by
  intro p i o j cd d J L c0 v hp h hd hR hV
  obtain ⟨d5, rfl⟩ : ∃ d5, d = d5 + 6 := ⟨d - 6, by omega⟩
  have s1 := r_sign G (d5 + 5) (b := b) (c := 43) (v := -43) hx hR (by decide) (by decide)
  have s2 := r_sign G (d5 + 5) (b := b) (c := 45) (v := -45) hx hR (by decide) (by decide)
  rcases prs4_i h with ⟨h0, hy⟩ | ⟨h0, e1, e2, e3⟩
  · have hne : ¬ KK T n i = -100 := by rcases h0 with z | z <;> rw [z] <;> decide
    have hnx := r_next G (d5 + 5) (b := b) hx hR hne
    have K20 : ∀ (w : Int64) (J2 : IF) (L2 : LF), WQ G (d5 + 6 + 1) Y_X11_sum (SQ T n I0 L0 b p o j (need 3 p) (c0 ++ cd)) 3 [(0, .ref 72), (1, .long (cmb (KK T n i) v w))] [] (J2, L2, RR b) → WQ G (d5 + 6 + 1) Y_X11_sum (SQ T n I0 L0 b p o j (need 3 p) (c0 ++ cd)) 20 [(0, .ref 72), (1, .long v), (3, .int (b2 (KK T n i = -43))), (4, .long w)] [] (J2, L2, RR b) := by
      intro w J2 L2 K3
      have K3b : ∀ x, x = cmb (KK T n i) v w → WQ G (d5 + 6 + 1) Y_X11_sum (SQ T n I0 L0 b p o j (need 3 p) (c0 ++ cd)) 3 [(0, .ref 72), (1, .long x)] [] (J2, L2, RR b) := fun x e => by rw [e]; exact K3
      have c1 : ¬ b2 (KK T n i = -43) = 0 → v + w = cmb (KK T n i) v w := fun z => by rw [b2_ne.mp z]; rfl
      have c2 : b2 (KK T n i = -43) = 0 → v - w = cmb (KK T n i) v w := fun z => by rw [h0.resolve_left (b2_eq.mp z)]; rfl
      refine wp_iload_n rfl rfl ?_
      refine wp_if_eq 26 rfl rfl (fun h21 => ?_) (fun h21 => ?_)
      · refine wp_lload_n rfl rfl ?_
        refine wp_lload rfl rfl ?_
        refine wp_lsub rfl ?_
        refine wp_lstore_n (lv' := [(1, _), (0, _), (3, _), (4, _)]) rfl rfl (by decide) rfl ?_
        refine wp_goto 3 rfl rfl ?_
        refine wp_loc (lv' := [(0, _), (1, _)]) [1, 0] rfl ?_
        exact K3b _ (by first | exact c1 (by assumption) | exact c2 (by assumption))
      · refine wp_lload_n rfl rfl ?_
        refine wp_lload rfl rfl ?_
        refine wp_ladd rfl ?_
        refine wp_goto 29 rfl rfl ?_
        refine wp_lstore_n (lv' := [(1, _), (0, _), (3, _), (4, _)]) rfl rfl (by decide) rfl ?_
        refine wp_goto 3 rfl rfl ?_
        refine wp_loc (lv' := [(0, _), (1, _)]) [1, 0] rfl ?_
        exact K3b _ (by first | exact c1 (by assumption) | exact c2 (by assumption))
    have K11 : WQ G (d5 + 6 + 1) Y_X11_sum (SQ T n I0 L0 b p o j (need 3 p) (c0 ++ cd)) 11 [(0, .ref 72), (1, .long v)] [] (J, L, RR b) := by
      rcases hy with ⟨c1, g1, g2⟩ | ⟨j1, c1, c2, g1, g2, g3⟩
      · subst g2
        refine wp_aload_n rfl rfl ?_
        refine wp_bipush (v := 43) rfl rfl ?_
        refine cV1 rfl l_11_278 i_X11_isSign m_X11_isSign (by first | rfl | assumption) (by decide) (s1) rfl (Nat.le_of_ble_eq_true rfl) ?_
        refine wp_istore_n (lv' := [(3, _), (0, _), (1, _)]) rfl rfl (by decide) rfl ?_
        refine wp_aload_n rfl rfl ?_
        refine cVr rfl l_11_261 i_X11_next m_X11_next (by first | rfl | assumption) (by decide) (hnx) rfl (Nat.le_of_ble_eq_true rfl) (fun r16 w16 hq16 => ?_)
        obtain ⟨rfl, J2, L2, rfl, hR2⟩ := hq16
        refine wp_aload_n rfl rfl ?_
        refine cVr rfl l_11_291 i_X11_term m_X11_term (by first | rfl | assumption) (by decide) (ihT p (i + 1) _ _ _ (d5 + 5) _ _ hp g1 (by omega) hR2) rfl (Nat.le_of_ble_eq_true rfl) (fun r18 w18 hq18 => ?_)
        obtain ⟨w, J3, L3, rfl, rfl, -, hf⟩ := hq18
        refine wp_lstore (lv' := [(4, _), (3, _), (0, _), (1, _)]) rfl (by decide) rfl ?_
        refine wp_loc (lv' := [(0, _), (1, _), (3, _), (4, _)]) [2, 3, 1, 0] rfl ?_
        exact K20 w J3 L3 (rrd_Sb _ (hf rfl))
      · rw [g3, ← List.append_assoc] at K20 ⊢
        refine wp_aload_n rfl rfl ?_
        refine wp_bipush (v := 43) rfl rfl ?_
        refine cV1 rfl l_11_278 i_X11_isSign m_X11_isSign (by first | rfl | assumption) (by decide) (s1) rfl (Nat.le_of_ble_eq_true rfl) ?_
        refine wp_istore_n (lv' := [(3, _), (0, _), (1, _)]) rfl rfl (by decide) rfl ?_
        refine wp_aload_n rfl rfl ?_
        refine cVr rfl l_11_261 i_X11_next m_X11_next (by first | rfl | assumption) (by decide) (hnx) rfl (Nat.le_of_ble_eq_true rfl) (fun r16 w16 hq16 => ?_)
        obtain ⟨rfl, J2, L2, rfl, hR2⟩ := hq16
        refine wp_aload_n rfl rfl ?_
        refine cVr rfl l_11_291 i_X11_term m_X11_term (by first | rfl | assumption) (by decide) (ihT p (i + 1) _ _ _ (d5 + 5) _ _ hp g1 (by omega) hR2) rfl (Nat.le_of_ble_eq_true rfl) (fun r18 w18 hq18 => ?_)
        obtain ⟨w, J3, L3, rfl, rfl, ht, -⟩ := hq18
        have hop := RV.op (n := need 1 p) (s := KK T n i) (hV.mono (by unfold need; simp)) (ht rfl).2 (h0.elim (fun e => Or.inl e) (fun e => Or.inr (Or.inl e)))
        have hop2 : RV (L0 101) (need 3 p) (c0 ++ (c1 ++ [KK T n i])) (cmb (KK T n i) v w) := hop.mono (by unfold need; simp)
        refine wp_lstore (lv' := [(4, _), (3, _), (0, _), (1, _)]) rfl (by decide) rfl ?_
        refine wp_loc (lv' := [(0, _), (1, _), (3, _), (4, _)]) [2, 3, 1, 0] rfl ?_
        exact K20 w J3 L3 (ihL p j1 _ _ _ _ _ _ _ _ hp g2 hd (ht rfl).1 hop2)
    refine wp_aload_n rfl rfl ?_
    refine wp_bipush (v := 43) rfl rfl ?_
    refine cV1 rfl l_11_278 i_X11_isSign m_X11_isSign (by first | rfl | assumption) (by decide) (s1) rfl (Nat.le_of_ble_eq_true rfl) ?_
    refine wp_if_ne 11 rfl rfl (fun h6 => ?_) (fun h6 => ?_)
    · exact K11
    · refine wp_aload_n rfl rfl ?_
      refine wp_bipush (v := 45) rfl rfl ?_
      refine cV1 rfl l_11_278 i_X11_isSign m_X11_isSign (by first | rfl | assumption) (by decide) (s2) rfl (Nat.le_of_ble_eq_true rfl) ?_
      refine wp_if_eq 31 rfl rfl (fun h10 => ?_) (fun h10 => ?_)
      · exact absurd h0 (fun z => z.elim (b2_eq.mp h6) (b2_eq.mp h10))
      · exact K11
  · rw [e1, e2, e3, List.append_nil]
    refine wp_aload_n rfl rfl ?_
    refine wp_bipush (v := 43) rfl rfl ?_
    refine cV1 rfl l_11_278 i_X11_isSign m_X11_isSign (by first | rfl | assumption) (by decide) (s1) rfl (Nat.le_of_ble_eq_true rfl) ?_
    refine wp_if_ne 11 rfl rfl (fun h6 => absurd (b2_f (fun z => h0 (Or.inl z))) h6) (fun _ => ?_)
    refine wp_aload_n rfl rfl ?_
    refine wp_bipush (v := 45) rfl rfl ?_
    refine cV1 rfl l_11_278 i_X11_isSign m_X11_isSign (by first | rfl | assumption) (by decide) (s2) rfl (Nat.le_of_ble_eq_true rfl) ?_
    refine wp_if_eq 31 rfl rfl (fun _ => ?_) (fun h10 => absurd (b2_f (fun z => h0 (Or.inr z))) h10)
    refine wp_lload_n rfl rfl ?_
    exact wp_lret rfl rfl (⟨v, J, L, rfl, rfl, fun _ => ⟨hR, hV⟩, nofun⟩)
theorem rrd_S {G : Gl} {b : Bool} {T : Nat → Int32} {n : Nat} {I0 : IF} {L0 : LF} {f : Nat} (ihT : CTr G b T n I0 L0 f) (ihL : CSlr G b T n I0 L0 f) : CSr G b T n I0 L0 (f + 1) := by
  intro p i o j cd d J L hp h hd hR
  obtain ⟨d5, rfl⟩ : ∃ d5, d = d5 + 6 := ⟨d - 6, by omega⟩
  rcases prs3_i h with ⟨c1, g1, g2⟩ | ⟨j1, c1, c2, g1, g2, g3⟩
  · subst g2
    refine MT.intro m_X11_sum rfl (Nat.le_of_ble_eq_true rfl) ?_
    show WQ G (d5 + 6 + 1) Y_X11_sum _ 0 [(0, .ref 72)] [] (J, L, RR b)
    refine wp_aload_n rfl rfl ?_
    refine cVr rfl l_11_291 i_X11_term m_X11_term (by first | rfl | assumption) (by decide) (ihT p i _ _ _ (d5 + 5) _ _ hp g1 (by omega) hR) rfl (Nat.le_of_ble_eq_true rfl) (fun r1 w1 hq1 => ?_)
    obtain ⟨w, J3, L3, rfl, rfl, -, hf⟩ := hq1
    refine wp_lstore_n (lv' := [(1, _), (0, _)]) rfl rfl (by decide) rfl ?_
    refine wp_loc (lv' := [(0, _), (1, _)]) [1, 0] rfl ?_
    exact rrd_Sb _ (hf rfl)
  · rw [g3]
    refine MT.intro m_X11_sum rfl (Nat.le_of_ble_eq_true rfl) ?_
    show WQ G (d5 + 6 + 1) Y_X11_sum _ 0 [(0, .ref 72)] [] (J, L, RR b)
    refine wp_aload_n rfl rfl ?_
    refine cVr rfl l_11_291 i_X11_term m_X11_term (by first | rfl | assumption) (by decide) (ihT p i _ _ _ (d5 + 5) _ _ hp g1 (by omega) hR) rfl (Nat.le_of_ble_eq_true rfl) (fun r1 w1 hq1 => ?_)
    obtain ⟨w, J3, L3, rfl, rfl, ht, -⟩ := hq1
    refine wp_lstore_n (lv' := [(1, _), (0, _)]) rfl rfl (by decide) rfl ?_
    refine wp_loc (lv' := [(0, _), (1, _)]) [1, 0] rfl ?_
    exact ihL p j1 _ _ _ _ _ _ _ _ hp g2 hd (ht rfl).1 ((ht rfl).2.mono (by unfold need; simp))
theorem rrd {G : Gl} {b : Bool} {T : Nat → Int32} {n t : Nat} {I0 : IF} {L0 : LF} (hx : RTX T n t I0) : ∀ f, CFr G b T n I0 L0 f ∧ CTr G b T n I0 L0 f ∧ CTlr G b T n I0 L0 f ∧ CSr G b T n I0 L0 f ∧ CSlr G b T n I0 L0 f := by
  intro f
  induction f with
  | zero => exact ⟨fun _ _ _ _ _ _ _ _ _ h => (by cases h), fun _ _ _ _ _ _ _ _ _ h => (by cases h), fun _ _ _ _ _ _ _ _ _ _ _ h => (by cases h), fun _ _ _ _ _ _ _ _ _ h => (by cases h), fun _ _ _ _ _ _ _ _ _ _ _ h => (by cases h)⟩
  | succ f ih =>
    obtain ⟨i1, i2, i3, i4, i5⟩ := ih
    exact ⟨rrd_F hx i4, rrd_T i1 i3, rrd_Tl hx i1 i3, rrd_S i2 i5, rrd_Sl hx i2 i5⟩
