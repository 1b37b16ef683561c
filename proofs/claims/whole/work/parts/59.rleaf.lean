/-! what the reference sees of a token -/
theorem KK_l {T : Nat → Int32} {n i : Nat} (h : ps T n i < n) : KK T n i = knd T n (ps T n i) := by unfold KK; rw [if_pos h]
theorem KK_g {T : Nat → Int32} {n i : Nat} (h : ¬ ps T n i < n) : KK T n i = -100 := by unfold KK; rw [if_neg h]
theorem neg_inj {x y : Int32} (h : -x = -y) : x = y := by grind
theorem sg_no : ∀ c : Int32, isSg c = true → ¬ c = 100 ∧ ¬ c = 101 ∧ -c < 0 ∧ ∀ j, j < 10 → ¬ wkd j = -c := by
  intro c h
  unfold isSg at h
  rw [decide_eq_true_eq] at h
  rcases h with h | h | h | h | h | h | h | h | h | h <;> rw [h] <;> decide +kernel
theorem knd_cs (T : Nat → Int32) (n q : Nat) : (isLt (T q) = true ∧ knd T n q = wky T q (te T n q)) ∨ (¬ isLt (T q) = true ∧ isDg (T q) = true ∧ 999999 < nvl T (te T n q - q) q 0 ∧ knd T n q = -101) ∨ (¬ isLt (T q) = true ∧ isDg (T q) = true ∧ ¬ 999999 < nvl T (te T n q - q) q 0 ∧ knd T n q = nI (nvl T (te T n q - q) q 0)) ∨ (¬ isLt (T q) = true ∧ ¬ isDg (T q) = true ∧ isSg (T q) = true ∧ knd T n q = -(T q)) ∨ (¬ isLt (T q) = true ∧ ¬ isDg (T q) = true ∧ ¬ isSg (T q) = true ∧ knd T n q = -101) := by
  by_cases h1 : isLt (T q) = true
  · refine Or.inl ⟨h1, ?_⟩
    rw [knd_t (lt_dg h1), if_pos h1]
  · by_cases h2 : isDg (T q) = true
    · by_cases h3 : 999999 < nvl T (te T n q - q) q 0
      · exact Or.inr (Or.inl ⟨h1, h2, h3, by rw [knd_d h2, if_pos h3]⟩)
      · exact Or.inr (Or.inr (Or.inl ⟨h1, h2, h3, by rw [knd_d h2, if_neg h3]⟩))
    · by_cases h3 : isSg (T q) = true
      · exact Or.inr (Or.inr (Or.inr (Or.inl ⟨h1, h2, h3, by rw [knd_t h2, if_neg h1, if_pos h3]⟩)))
      · exact Or.inr (Or.inr (Or.inr (Or.inr ⟨h1, h2, h3, by rw [knd_t h2, if_neg h1, if_neg h3]⟩)))
theorem nI_nn {a : Nat} (h : ¬ 999999 < a) : 0 ≤ nI a ∧ nI a ≤ 999999 := ⟨nI_pos' (by omega), nI_le (b := 999999) (by omega) (by omega)⟩
theorem KK_sign {T : Nat → Int32} {n i : Nat} {c : Int32} (hc : isSg c = true) : KK T n i = -c ↔ (srt T n (ps T n i) = 3 ∧ T (ps T n i) = c) := by
  obtain ⟨s1, s2, s3, s4⟩ := sg_no c hc
  by_cases hq : ps T n i < n
  · rw [KK_l hq]
    generalize ps T n i = q at hq
    unfold srt
    rw [if_pos hq]
    rcases knd_cs T n q with ⟨a1, a2⟩ | ⟨a1, a2, a3, a4⟩ | ⟨a1, a2, a3, a4⟩ | ⟨a1, a2, a3, a4⟩ | ⟨a1, a2, a3, a4⟩
    · rw [a2, if_pos a1]
      constructor
      · intro h
        rcases wky_or T q (te T n q) with ⟨j, j1, j2, j3⟩ | ⟨_, j2⟩
        · exact absurd (j3.symm.trans h) (s4 j j1)
        · exact absurd (neg_inj (j2.symm.trans h)).symm s2
      · exact fun z => absurd z.1 (by decide)
    · rw [a4, if_neg a1, if_pos a2, if_pos a3]
      exact ⟨fun h => absurd (neg_inj h).symm s2, fun z => absurd z.1 (by decide)⟩
    · rw [a4, if_neg a1, if_pos a2, if_neg a3]
      refine ⟨fun h => ?_, fun z => absurd z.1 (by decide)⟩
      have := (nI_nn a3).1
      rw [h] at this
      grind
    · rw [a4, if_neg a1, if_neg a2, if_pos a3]
      exact ⟨fun h => ⟨rfl, neg_inj h⟩, fun z => by rw [z.2]⟩
    · rw [a4, if_neg a1, if_neg a2, if_neg a3]
      exact ⟨fun h => absurd (neg_inj h).symm s2, fun z => absurd z.1 (by decide)⟩
  · rw [KK_g hq]
    unfold srt
    rw [if_neg hq]
    exact ⟨fun h => absurd (neg_inj h).symm s1, fun z => absurd z.1 (by decide)⟩
theorem wkd_m : ∀ j, j < 10 → ¬ wkd j = -100 ∧ ¬ wkd j = -101 ∧ wkd j < 0 := by decide +kernel
theorem KK_word {T : Nat → Int32} {n i j : Nat} (hj : j < 10) : KK T n i = wkd j ↔ (srt T n (ps T n i) = 1 ∧ wdB T (ps T n i) (te T n (ps T n i)) j = true) := by
  obtain ⟨s1, s2, s3⟩ := wkd_m j hj
  by_cases hq : ps T n i < n
  · rw [KK_l hq]
    generalize ps T n i = q at hq
    unfold srt
    rw [if_pos hq]
    rcases knd_cs T n q with ⟨a1, a2⟩ | ⟨a1, a2, a3, a4⟩ | ⟨a1, a2, a3, a4⟩ | ⟨a1, a2, a3, a4⟩ | ⟨a1, a2, a3, a4⟩
    · rw [a2, if_pos a1, wky_iff hj]
      exact ⟨fun h => ⟨rfl, h⟩, fun z => z.2⟩
    · rw [a4, if_neg a1, if_pos a2, if_pos a3]
      exact ⟨fun h => absurd h.symm s2, fun z => absurd z.1 (by decide)⟩
    · rw [a4, if_neg a1, if_pos a2, if_neg a3]
      refine ⟨fun h => ?_, fun z => absurd z.1 (by decide)⟩
      have := (nI_nn a3).1
      rw [h] at this
      grind
    · rw [a4, if_neg a1, if_neg a2, if_pos a3]
      exact ⟨fun h => absurd h.symm ((sg_no _ a3).2.2.2 j hj), fun z => absurd z.1 (by decide)⟩
    · rw [a4, if_neg a1, if_neg a2, if_neg a3]
      exact ⟨fun h => absurd h.symm s2, fun z => absurd z.1 (by decide)⟩
  · rw [KK_g hq]
    unfold srt
    rw [if_neg hq]
    exact ⟨fun h => absurd h.symm s1, fun z => absurd z.1 (by decide)⟩
theorem KK_num {T : Nat → Int32} {n i : Nat} : (0 ≤ KK T n i ↔ srt T n (ps T n i) = 2) ∧ (0 ≤ KK T n i → KK T n i = nI (nvl T (te T n (ps T n i) - ps T n i) (ps T n i) 0)) ∧ KK T n i ≤ 999999 := by
  by_cases hq : ps T n i < n
  · rw [KK_l hq]
    generalize ps T n i = q at hq
    unfold srt
    rw [if_pos hq]
    rcases knd_cs T n q with ⟨a1, a2⟩ | ⟨a1, a2, a3, a4⟩ | ⟨a1, a2, a3, a4⟩ | ⟨a1, a2, a3, a4⟩ | ⟨a1, a2, a3, a4⟩
    · rw [a2, if_pos a1]
      have hneg : wky T q (te T n q) < 0 := by
        rcases wky_or T q (te T n q) with ⟨j, j1, j2, j3⟩ | ⟨_, j2⟩
        · rw [j3]; exact (wkd_m j j1).2.2
        · rw [j2]; decide
      refine ⟨⟨fun h => ?_, fun z => absurd z (by decide)⟩, fun h => ?_, by grind⟩
      · grind
      · grind
    · rw [a4, if_neg a1, if_pos a2, if_pos a3]
      exact ⟨⟨fun h => absurd h (by decide), fun z => absurd z (by decide)⟩, fun h => absurd h (by decide), by decide⟩
    · rw [a4, if_neg a1, if_pos a2, if_neg a3]
      exact ⟨⟨fun _ => rfl, fun _ => (nI_nn a3).1⟩, fun _ => rfl, (nI_nn a3).2⟩
    · rw [a4, if_neg a1, if_neg a2, if_pos a3]
      have hneg := (sg_no _ a3).2.2.1
      refine ⟨⟨fun h => ?_, fun z => absurd z (by decide)⟩, fun h => ?_, by grind⟩
      · grind
      · grind
    · rw [a4, if_neg a1, if_neg a2, if_neg a3]
      exact ⟨⟨fun h => absurd h (by decide), fun z => absurd z (by decide)⟩, fun h => absurd h (by decide), by decide⟩
  · rw [KK_g hq]
    unfold srt
    rw [if_neg hq]
    exact ⟨⟨fun h => absurd h (by decide), fun z => absurd z (by decide)⟩, fun h => absurd h (by decide), by decide⟩
theorem srt_0 {T : Nat → Int32} {n i : Nat} : srt T n (ps T n i) = 0 ↔ KK T n i = -100 := by
  rw [KK_end]
  unfold srt
  constructor
  · intro h z
    rw [if_pos z] at h
    revert h
    split
    · decide
    · split
      · split <;> decide
      · split <;> decide
  · intro z
    rw [if_neg z]
/-- since I0, L0 the reference has gone on reading -/
def RG (I0 : IF) (L0 : LF) (J : IF) (L : LF) : Prop := (∀ a, a ≠ 72 → J a = I0 a) ∧ (∀ k, k ≠ 37 → k ≠ 44 → k ≠ 45 → k ≠ 46 → k ≠ 47 → k ≠ 52 → J 72 k = I0 72 k) ∧ (∀ a, a ≠ 72 → L a = L0 a) ∧ ∀ k, k ≠ 50 → L 72 k = L0 72 k
def ROK (T : Nat → Int32) (n : Nat) (I0 : IF) (L0 : LF) (p i : Nat) (J : IF) (L : LF) : Prop := RG I0 L0 J L ∧ TS T n (ps T n i) J L ∧ J 72 47 = nI p ∧ J 72 52 = 0 ∧ J 72 37 = I0 72 37
def RBD (T : Nat → Int32) (n : Nat) (I0 : IF) (L0 : LF) (j : Nat) (J : IF) (L : LF) : Prop := RG I0 L0 J L ∧ J 72 52 = 1 ∧ J 72 37 = nI (ps T n j)
theorem RG.refl {I0 : IF} {L0 : LF} : RG I0 L0 I0 L0 := ⟨fun _ _ => rfl, fun _ _ _ _ _ _ _ => rfl, fun _ _ => rfl, fun _ _ => rfl⟩
theorem RG.rtx {T : Nat → Int32} {n t : Nat} {I J : IF} {L L2 : LF} (h : RG I L J L2) (hx : RTX T n t I) : RTX T n t J := hx.fr (h.1 97 (by decide)) (h.2.1 42 (by decide) (by decide) (by decide) (by decide) (by decide) (by decide)) (h.2.1 43 (by decide) (by decide) (by decide) (by decide) (by decide) (by decide))
theorem RG.fr {I0 J J2 : IF} {L0 L L2 : LF} (h : RG I0 L0 J L) (h2 : RFr J L J2 L2) : RG I0 L0 J2 L2 := by
  obtain ⟨a1, a2, a3, a4⟩ := h
  obtain ⟨b1, b2, b3, b4⟩ := h2
  exact ⟨fun a ha => by rw [b1 a ha]; exact a1 a ha, fun k c1 c2 c3 c4 c5 c6 => by rw [b2 k c2 c3 c4]; exact a2 k c1 c2 c3 c4 c5 c6, fun a ha => by rw [b3 a ha]; exact a3 a ha, fun k hk => by rw [b4 k hk]; exact a4 k hk⟩
theorem RG.tr {I0 J J2 : IF} {L0 L L2 : LF} (h : RG I0 L0 J L) (h2 : RG J L J2 L2) : RG I0 L0 J2 L2 := by
  obtain ⟨a1, a2, a3, a4⟩ := h
  obtain ⟨b1, b2, b3, b4⟩ := h2
  exact ⟨fun a ha => by rw [b1 a ha]; exact a1 a ha, fun k c1 c2 c3 c4 c5 c6 => by rw [b2 k c1 c2 c3 c4 c5 c6]; exact a2 k c1 c2 c3 c4 c5 c6, fun a ha => by rw [b3 a ha]; exact a3 a ha, fun k hk => by rw [b4 k hk]; exact a4 k hk⟩
theorem RG.i {I0 J : IF} {L0 L : LF} {k : Nat} {v : Int32} (h : RG I0 L0 J L) (hk : k = 37 ∨ k = 44 ∨ k = 45 ∨ k = 46 ∨ k = 47 ∨ k = 52) : RG I0 L0 (uI J 72 k v) L := by
  obtain ⟨a1, a2, a3, a4⟩ := h
  exact ⟨fun a ha => by rw [uI_fn ha]; exact a1 a ha, fun q c1 c2 c3 c4 c5 c6 => by rw [uI_nk (by omega)]; exact a2 q c1 c2 c3 c4 c5 c6, a3, a4⟩
/-- the next token, where one stands there -/
theorem ROK.nx {T : Nat → Int32} {n p i : Nat} {I0 J J2 : IF} {L0 L L2 : LF} (h : ROK T n I0 L0 p i J L) (hF : RFr J L J2 L2) (hT : TS T n (ps T n (i + 1)) J2 L2) : ROK T n I0 L0 p (i + 1) J2 L2 := by
  obtain ⟨a1, a2, a3, a4, a5⟩ := h
  exact ⟨a1.fr hF, hT, by rw [hF.2.1 47 (by decide) (by decide) (by decide)]; exact a3, by rw [hF.2.1 52 (by decide) (by decide) (by decide)]; exact a4, by rw [hF.2.1 37 (by decide) (by decide) (by decide)]; exact a5⟩
theorem ps_lt {T : Nat → Int32} {n i : Nat} (h : ¬ KK T n i = -100) : ps T n i < n := Classical.byContradiction (fun z => h (KK_g z))
theorem ps_s {T : Nat → Int32} {n i : Nat} (h : ps T n i < n) : ps T n (i + 1) = sk T n (te T n (ps T n i)) := by simp only [ps]; rw [if_pos h]
theorem r_next (G : Gl) (d : Nat) {T : Nat → Int32} {n t p i : Nat} {I0 J : IF} {L0 L : LF} {b : Bool} (hx : RTX T n t I0) (h : ROK T n I0 L0 p i J L) (hK : ¬ KK T n i = -100) : MQ2 G (d + 1) Y_X11_next [.ref 72] (J, L, RR b) (fun r w => r = none ∧ ∃ J2 L2, w = (J2, L2, RR b) ∧ ROK T n I0 L0 p (i + 1) J2 L2) := by
  have hq := ps_lt hK
  have ht : tE T n (ps T n i) = te T n (ps T n i) := by unfold tE; rw [if_pos hq]
  have h44 := h.2.1.1
  rw [ht] at h44
  refine (c_X11_next G d J L b (h.1.rtx hx) h44 (te_b hq).2).mono (fun r w hh => ?_)
  obtain ⟨e1, J2, L2, e2, e3, e4⟩ := hh
  refine ⟨e1, J2, L2, e2, h.nx e3 ?_⟩
  rw [ps_s hq]
  exact e4
theorem r_bad (G : Gl) (d : Nat) {T : Nat → Int32} {n p i : Nat} {I0 J : IF} {L0 L : LF} {b : Bool} (h : ROK T n I0 L0 p i J L) : MQ2 G d Y_X11_bad [.ref 72] (J, L, RR b) (fun r w => r = none ∧ ∃ J2, w = (J2, L, RR b) ∧ RBD T n I0 L0 i J2 L) := by
  obtain ⟨a1, a2, a3, a4, a5⟩ := h
  have hn : ¬ ¬ J 72 52 = 0 := fun z => z a4
  refine MT.intro m_X11_bad rfl (Nat.le_of_ble_eq_true rfl) ?_
  show WQ G d Y_X11_bad _ 0 [(0, .ref 72)] [] (J, L, RR b)
  refine wp_aload_n rfl rfl ?_
  refine q_geti rfl rfl (by first | rfl | assumption) rfl ?_
  refine wp_if_ne 7 rfl rfl (fun h2 => absurd h2 hn) (fun _ => ?_)
  refine wp_aload_n rfl rfl ?_
  refine wp_aload_n rfl rfl ?_
  refine q_geti rfl rfl (by first | rfl | assumption) rfl ?_
  refine q_puti rfl rfl (by first | rfl | assumption) (Or.inl rfl) rfl ?_
  refine wp_aload_n rfl rfl ?_
  refine wp_iconst (v := 1) rfl rfl ?_
  refine q_putz rfl rfl (by first | rfl | assumption) (Or.inl rfl) rfl (Or.inr rfl) ?_
  exact wp_vret rfl rfl (⟨rfl, _, rfl, (a1.i (Or.inl rfl)).i (Or.inr (Or.inr (Or.inr (Or.inr (Or.inr rfl))))), uI_eq, by rw [uI_nk (by decide), uI_eq]; exact a2.2.1⟩)
theorem r_bad2 (G : Gl) (d : Nat) {T : Nat → Int32} {n i : Nat} {I0 J : IF} {L0 L : LF} {b : Bool} (h : RBD T n I0 L0 i J L) : MQ2 G d Y_X11_bad [.ref 72] (J, L, RR b) (fun r w => r = none ∧ ∃ J2, w = (J2, L, RR b) ∧ RBD T n I0 L0 i J2 L) := by
  obtain ⟨a1, a2, a3⟩ := h
  have hn : ¬ J 72 52 = 0 := by rw [a2]; decide
  refine MT.intro m_X11_bad rfl (Nat.le_of_ble_eq_true rfl) ?_
  show WQ G d Y_X11_bad _ 0 [(0, .ref 72)] [] (J, L, RR b)
  refine wp_aload_n rfl rfl ?_
  refine q_geti rfl rfl (by first | rfl | assumption) rfl ?_
  refine wp_if_ne 7 rfl rfl (fun _ => ?_) (fun h2 => absurd h2 hn)
  refine wp_aload_n rfl rfl ?_
  refine wp_iconst (v := 1) rfl rfl ?_
  refine q_putz rfl rfl (by first | rfl | assumption) (Or.inl rfl) rfl (Or.inr rfl) ?_
  exact wp_vret rfl rfl (⟨rfl, _, rfl, a1.i (Or.inr (Or.inr (Or.inr (Or.inr (Or.inr rfl))))), uI_eq, by rw [uI_nk (by decide)]; exact a3⟩)
theorem r_sign (G : Gl) (d : Nat) {T : Nat → Int32} {n t p i : Nat} {I0 J : IF} {L0 L : LF} {b : Bool} {c v : Int32} (hx : RTX T n t I0) (h : ROK T n I0 L0 p i J L) (hc : isSg c = true) (hv : -c = v) : MD G (d + 1) Y_X11_isSign [.ref 72, .int c] (J, L, RR b) (some (.int (b2 (KK T n i = v)))) (J, L, RR b) := by
  subst hv
  have hk := KK_sign (T := T) (n := n) (i := i) hc
  obtain ⟨a1, ⟨a2, a3, a4, a5⟩, a6, a7, a8⟩ := h
  have hn : ¬ ¬ J 72 52 = 0 := fun z => z a7
  have hps := (ps_b (T := T) (n := n) i).1
  have hn3 := hx.2.1
  have hsee := c_X11_see G d (k := ps T n i) (by omega) J L b (a1.rtx hx)
  by_cases h3 : srt T n (ps T n i) = 3
  · have hq : ps T n i < n := by
      apply Classical.byContradiction
      intro z
      unfold srt at h3
      rw [if_neg z] at h3
      exact absurd h3 (by decide)
    have hs : seeT T n (ps T n i) = T (ps T n i) := by unfold seeT; rw [if_pos hq]
    rw [hs] at hsee
    have e6 : ¬ ¬ J 72 46 = 3 := fun z => z (by rw [a4]; exact h3)
    refine MT.intro m_X11_isSign rfl (Nat.le_of_ble_eq_true rfl) ?_
    show WQ G (d + 1) Y_X11_isSign _ 0 [(0, .ref 72), (1, .int c)] [] (J, L, RR b)
    refine wp_aload_n rfl rfl ?_
    refine q_geti rfl rfl (by first | rfl | assumption) rfl ?_
    refine wp_if_ne 15 rfl rfl (fun h2 => absurd h2 hn) (fun _ => ?_)
    refine wp_aload_n rfl rfl ?_
    refine q_geti rfl rfl (by first | rfl | assumption) rfl ?_
    refine wp_iconst (v := 3) rfl rfl ?_
    refine wp_icmp_ne 15 rfl rfl (fun h6 => absurd h6 e6) (fun _ => ?_)
    refine wp_aload_n rfl rfl ?_
    refine wp_aload_n rfl rfl ?_
    refine q_geti rfl rfl (by first | rfl | assumption) rfl ?_
    rw [a3]
    refine cV1 rfl l_11_225 i_X11_see m_X11_see (by first | rfl | assumption) (by decide) (hsee) rfl (Nat.le_of_ble_eq_true rfl) ?_
    refine wp_iload_n rfl rfl ?_
    refine wp_icmp_ne 15 rfl rfl (fun h12 => ?_) (fun h12 => ?_)
    · refine wp_iconst (v := 0) rfl rfl ?_
      exact wp_zret rfl rfl (by first | rfl | exact nb2 _ | assumption) (⟨by first | rw [b2_f (fun z => h12 (hk.mp z).2)] | rw [b2_t (hk.mpr ⟨h3, h12⟩)], rfl⟩)
    · refine wp_iconst (v := 1) rfl rfl ?_
      refine wp_goto 16 rfl rfl ?_
      exact wp_zret rfl rfl (by first | rfl | exact nb2 _ | assumption) (⟨by first | rw [b2_f (fun z => h12 (hk.mp z).2)] | rw [b2_t (hk.mpr ⟨h3, h12⟩)], rfl⟩)
  · have e6 : ¬ J 72 46 = 3 := by rw [a4]; exact h3
    refine MT.intro m_X11_isSign rfl (Nat.le_of_ble_eq_true rfl) ?_
    show WQ G (d + 1) Y_X11_isSign _ 0 [(0, .ref 72), (1, .int c)] [] (J, L, RR b)
    refine wp_aload_n rfl rfl ?_
    refine q_geti rfl rfl (by first | rfl | assumption) rfl ?_
    refine wp_if_ne 15 rfl rfl (fun h2 => absurd h2 hn) (fun _ => ?_)
    refine wp_aload_n rfl rfl ?_
    refine q_geti rfl rfl (by first | rfl | assumption) rfl ?_
    refine wp_iconst (v := 3) rfl rfl ?_
    refine wp_icmp_ne 15 rfl rfl (fun _ => ?_) (fun h6 => absurd h6 e6)
    refine wp_iconst (v := 0) rfl rfl ?_
    exact wp_zret rfl rfl (by first | rfl | exact nb2 _ | assumption) (⟨by rw [b2_f (fun z => h3 (hk.mp z).1)], rfl⟩)
theorem r_sign0 (G : Gl) (d : Nat) {T : Nat → Int32} {n i : Nat} {I0 J : IF} {L0 L : LF} {b : Bool} (c : Int32) (h : RBD T n I0 L0 i J L) : MD G d Y_X11_isSign [.ref 72, .int c] (J, L, RR b) (some (.int 0)) (J, L, RR b) := by
  have hn : ¬ J 72 52 = 0 := by rw [h.2.1]; decide
  refine MT.intro m_X11_isSign rfl (Nat.le_of_ble_eq_true rfl) ?_
  show WQ G d Y_X11_isSign _ 0 [(0, .ref 72), (1, .int c)] [] (J, L, RR b)
  refine wp_aload_n rfl rfl ?_
  refine q_geti rfl rfl (by first | rfl | assumption) rfl ?_
  refine wp_if_ne 15 rfl rfl (fun _ => ?_) (fun h2 => absurd h2 hn)
  refine wp_iconst (v := 0) rfl rfl ?_
  exact wp_zret rfl rfl (by first | rfl | exact nb2 _ | assumption) (⟨rfl, rfl⟩)
theorem r_is0 (G : Gl) (d : Nat) {T : Nat → Int32} {n i : Nat} {I0 J : IF} {L0 L : LF} {b : Bool} (x : Nat) (h : RBD T n I0 L0 i J L) : MD G d Y_X11_is [.ref 72, .ref x] (J, L, RR b) (some (.int 0)) (J, L, RR b) := by
  have hn : ¬ J 72 52 = 0 := by rw [h.2.1]; decide
  refine MT.intro m_X11_is rfl (Nat.le_of_ble_eq_true rfl) ?_
  show WQ G d Y_X11_is _ 0 [(0, .ref 72), (1, .ref x)] [] (J, L, RR b)
  refine wp_aload_n rfl rfl ?_
  refine q_geti rfl rfl (by first | rfl | assumption) rfl ?_
  refine wp_if_ne 17 rfl rfl (fun _ => ?_) (fun h2 => absurd h2 hn)
  refine wp_iconst (v := 0) rfl rfl ?_
  refine wp_istore_n (lv' := [(2, _), (0, _), (1, _)]) rfl rfl (by decide) rfl ?_
  refine wp_iconst (v := 0) rfl rfl ?_
  refine wp_istore_n (lv' := [(3, _), (2, _), (0, _), (1, _)]) rfl rfl (by decide) rfl ?_
  refine wp_iload_n rfl rfl ?_
  refine wp_if_eq 43 rfl rfl (fun _ => ?_) (fun h22 => absurd rfl h22)
  refine wp_iload_n rfl rfl ?_
  exact wp_zret rfl rfl (by first | rfl | exact nb2 _ | assumption) (⟨rfl, rfl⟩)
theorem r_is (G : Gl) (d : Nat) {T : Nat → Int32} {n t p i j : Nat} {I0 J : IF} {L0 L : LF} {b : Bool} {v : Int32} (hx : RTX T n t I0) (h : ROK T n I0 L0 p i J L) (hj : j < 10) (hv : wkd j = v) : MD G (d + 4) Y_X11_is [.ref 72, .ref (1000001 + j)] (J, L, RR b) (some (.int (b2 (KK T n i = v)))) (J, L, RR b) := by
  subst hv
  have hk := KK_word (T := T) (n := n) (i := i) hj
  have hl := stl_lt j hj
  obtain ⟨a1, ⟨a2, a3, a4, a5⟩, a6, a7, a8⟩ := h
  have hn : ¬ ¬ J 72 52 = 0 := fun z => z a7
  have hps := (ps_b (T := T) (n := n) i).1
  have hn3 := hx.2.1
  have hlen : ∀ d', MD G (d' + 1) Y_J0_length_8abf5 [.ref (1000001 + j)] (J, L, RR b) (some (.int (nI (STL.getD j 0)))) (J, L, RR b) := fun d' => c_length G d' j hj _
  have z21 : ∀ (k : Int32), b2 (KK T n i = wkd j) = 0 → WQ G (d + 4) Y_X11_is (fun r' w'' => r' = some (.int (b2 (KK T n i = wkd j))) ∧ w'' = (J, L, RR b)) 21 [(0, .ref 72), (1, .ref (1000001 + j)), (2, .int 0), (3, .int k)] [] (J, L, RR b) := by
    intro k hz
    refine wp_iload_n rfl rfl ?_
    refine wp_if_eq 43 rfl rfl (fun _ => ?_) (fun h22 => absurd rfl h22)
    refine wp_iload_n rfl rfl ?_
    exact wp_zret rfl rfl (by first | rfl | exact nb2 _ | assumption) (⟨by rw [hz], rfl⟩)
  by_cases h1 : srt T n (ps T n i) = 1
  · have hq : ps T n i < n := by
      apply Classical.byContradiction
      intro z
      unfold srt at h1
      rw [if_neg z] at h1
      exact absurd h1 (by decide)
    have e6 : ¬ ¬ J 72 46 = 1 := fun z => z (by rw [a4]; exact h1)
    obtain ⟨te1, te2⟩ := te_b (T := T) hq
    have ht : tE T n (ps T n i) = te T n (ps T n i) := by unfold tE; rw [if_pos hq]
    rw [ht] at a2
    have esub : J 72 44 - J 72 45 = nI (te T n (ps T n i) - ps T n i) := by rw [a2, a3, pk_sub (by omega)]
    have hle : nI (te T n (ps T n i) - ps T n i) = nI (STL.getD j 0) ↔ te T n (ps T n i) - ps T n i = STL.getD j 0 := nI_eq (by omega) (by omega)
    by_cases hln : te T n (ps T n i) - ps T n i = STL.getD j 0
    · have loop : ∀ (r k : Nat), k + r = STL.getD j 0 → (∀ l, l < k → T (ps T n i + l) = chr j l) → WQ G (d + 4) Y_X11_is (fun r' w'' => r' = some (.int (b2 (KK T n i = wkd j))) ∧ w'' = (J, L, RR b)) 21 [(0, .ref 72), (1, .ref (1000001 + j)), (2, .int 1), (3, .int (nI k))] [] (J, L, RR b) := by
        intro r
        induction r with
        | zero =>
          intro k hkr hm
          have hge : nI (STL.getD j 0) ≤ nI k := nI_le (by omega) (by omega)
          have hyes : b2 (KK T n i = wkd j) = 1 := b2_t (hk.mpr ⟨h1, wd_iff.mpr ⟨by omega, fun l hl2 => hm l (by omega)⟩⟩)
          refine wp_iload_n rfl rfl ?_
          refine wp_if_eq 43 rfl rfl (fun h22 => absurd h22 (by decide)) (fun _ => ?_)
          refine wp_iload_n rfl rfl ?_
          refine wp_aload_n rfl rfl ?_
          refine cT1 hj rfl rfl l_11_249 i_J0_length_8abf5 m_J0_length_8abf5 (c_length G (d + 2) j hj _) rfl (Nat.le_of_ble_eq_true rfl) ?_
          refine wp_icmp_ge 43 rfl rfl (fun _ => ?_) (fun h26 => absurd hge h26)
          refine wp_iload_n rfl rfl ?_
          exact wp_zret rfl rfl (by first | rfl | exact nb2 _ | assumption) (⟨by rw [hyes], rfl⟩)
        | succ r ih =>
          intro k hkr hm
          have hlt : ¬ nI (STL.getD j 0) ≤ nI k := nI_ge (by omega) (by omega)
          have hs : seeT T n (ps T n i + k) = T (ps T n i + k) := by unfold seeT; rw [if_pos (by omega)]
          have hsee := c_X11_see G (d + 3) (k := ps T n i + k) (by omega) J L b (a1.rtx hx)
          rw [hs] at hsee
          refine wp_iload_n rfl rfl ?_
          refine wp_if_eq 43 rfl rfl (fun h22 => absurd h22 (by decide)) (fun _ => ?_)
          refine wp_iload_n rfl rfl ?_
          refine wp_aload_n rfl rfl ?_
          refine cT1 hj rfl rfl l_11_249 i_J0_length_8abf5 m_J0_length_8abf5 (c_length G (d + 2) j hj _) rfl (Nat.le_of_ble_eq_true rfl) ?_
          refine wp_icmp_ge 43 rfl rfl (fun h26 => absurd h26 hlt) (fun _ => ?_)
          refine wp_aload_n rfl rfl ?_
          refine wp_aload_n rfl rfl ?_
          refine q_geti rfl rfl (by first | rfl | assumption) rfl ?_
          refine wp_iload_n rfl rfl ?_
          refine wp_iadd rfl ?_
          rw [a3, nI_add]
          refine cV1 rfl l_11_225 i_X11_see m_X11_see (by first | rfl | assumption) (by decide) (hsee) rfl (Nat.le_of_ble_eq_true rfl) ?_
          refine wp_aload_n rfl rfl ?_
          refine wp_iload_n rfl rfl ?_
          refine cT1 hj rfl rfl l_11_254 i_J0_charAt_5068e m_J0_charAt_5068e (c_charAt G d j k hj (by omega) _) rfl (Nat.le_of_ble_eq_true rfl) ?_
          refine wp_icmp_ne 39 rfl rfl (fun h36 => ?_) (fun h36 => ?_)
          · refine wp_iconst (v := 0) rfl rfl ?_
            refine wp_istore_n (lv' := [(2, _), (0, _), (1, _), (3, _)]) rfl rfl (by decide) rfl ?_
            refine wp_iinc (v := nI (k + 1)) (lv' := [(3, _), (2, _), (0, _), (1, _)]) rfl rfl (nI_1 k) (by decide) rfl ?_
            refine wp_goto 21 rfl rfl ?_
            refine wp_loc (lv' := [(0, _), (1, _), (2, _), (3, _)]) [2, 3, 1, 0] rfl ?_
            first
              | exact ih (k + 1) (by omega) (fun l hl2 => (Nat.lt_succ_iff_lt_or_eq.mp hl2).elim (hm l) (fun e => by rw [e]; exact h36))
              | exact z21 _ (b2_f (fun z => h36 ((wd_iff.mp (hk.mp z).2).2 k (by omega))))
          · refine wp_iconst (v := 1) rfl rfl ?_
            refine wp_goto 40 rfl rfl ?_
            refine wp_istore_n (lv' := [(2, _), (0, _), (1, _), (3, _)]) rfl rfl (by decide) rfl ?_
            refine wp_iinc (v := nI (k + 1)) (lv' := [(3, _), (2, _), (0, _), (1, _)]) rfl rfl (nI_1 k) (by decide) rfl ?_
            refine wp_goto 21 rfl rfl ?_
            refine wp_loc (lv' := [(0, _), (1, _), (2, _), (3, _)]) [2, 3, 1, 0] rfl ?_
            first
              | exact ih (k + 1) (by omega) (fun l hl2 => (Nat.lt_succ_iff_lt_or_eq.mp hl2).elim (hm l) (fun e => by rw [e]; exact h36))
              | exact z21 _ (b2_f (fun z => h36 ((wd_iff.mp (hk.mp z).2).2 k (by omega))))
      refine MT.intro m_X11_is rfl (Nat.le_of_ble_eq_true rfl) ?_
      show WQ G (d + 4) Y_X11_is _ 0 [(0, .ref 72), (1, .ref (1000001 + j))] [] (J, L, RR b)
      refine wp_aload_n rfl rfl ?_
      refine q_geti rfl rfl (by first | rfl | assumption) rfl ?_
      refine wp_if_ne 17 rfl rfl (fun h2 => absurd h2 hn) (fun _ => ?_)
      refine wp_aload_n rfl rfl ?_
      refine q_geti rfl rfl (by first | rfl | assumption) rfl ?_
      refine wp_iconst (v := 1) rfl rfl ?_
      refine wp_icmp_ne 17 rfl rfl (fun h6 => absurd h6 e6) (fun _ => ?_)
      refine wp_aload_n rfl rfl ?_
      refine q_geti rfl rfl (by first | rfl | assumption) rfl ?_
      refine wp_aload_n rfl rfl ?_
      refine q_geti rfl rfl (by first | rfl | assumption) rfl ?_
      refine wp_isub rfl ?_
      rw [esub]
      refine wp_aload_n rfl rfl ?_
      refine cT1 hj rfl rfl l_11_249 i_J0_length_8abf5 m_J0_length_8abf5 (c_length G (d + 2) j hj _) rfl (Nat.le_of_ble_eq_true rfl) ?_
      refine wp_icmp_ne 17 rfl rfl (fun h14 => absurd (hle.mpr hln) h14) (fun _ => ?_)
      refine wp_iconst (v := 1) rfl rfl ?_
      refine wp_goto 18 rfl rfl ?_
      refine wp_istore_n (lv' := [(2, _), (0, _), (1, _)]) rfl rfl (by decide) rfl ?_
      refine wp_iconst (v := 0) rfl rfl ?_
      refine wp_istore_n (lv' := [(3, _), (2, _), (0, _), (1, _)]) rfl rfl (by decide) rfl ?_
      refine wp_loc (lv' := [(0, _), (1, _), (2, _), (3, _)]) [2, 3, 1, 0] rfl ?_
      exact loop (STL.getD j 0) 0 (by omega) (fun l hl2 => absurd hl2 (by omega))
    · have hno : b2 (KK T n i = wkd j) = 0 := b2_f (fun z => hln (by have := (wd_iff.mp (hk.mp z).2).1; omega))
      refine MT.intro m_X11_is rfl (Nat.le_of_ble_eq_true rfl) ?_
      show WQ G (d + 4) Y_X11_is _ 0 [(0, .ref 72), (1, .ref (1000001 + j))] [] (J, L, RR b)
      refine wp_aload_n rfl rfl ?_
      refine q_geti rfl rfl (by first | rfl | assumption) rfl ?_
      refine wp_if_ne 17 rfl rfl (fun h2 => absurd h2 hn) (fun _ => ?_)
      refine wp_aload_n rfl rfl ?_
      refine q_geti rfl rfl (by first | rfl | assumption) rfl ?_
      refine wp_iconst (v := 1) rfl rfl ?_
      refine wp_icmp_ne 17 rfl rfl (fun h6 => absurd h6 e6) (fun _ => ?_)
      refine wp_aload_n rfl rfl ?_
      refine q_geti rfl rfl (by first | rfl | assumption) rfl ?_
      refine wp_aload_n rfl rfl ?_
      refine q_geti rfl rfl (by first | rfl | assumption) rfl ?_
      refine wp_isub rfl ?_
      rw [esub]
      refine wp_aload_n rfl rfl ?_
      refine cT1 hj rfl rfl l_11_249 i_J0_length_8abf5 m_J0_length_8abf5 (c_length G (d + 2) j hj _) rfl (Nat.le_of_ble_eq_true rfl) ?_
      refine wp_icmp_ne 17 rfl rfl (fun _ => ?_) (fun h14 => absurd h14 (fun z => hln (hle.mp z)))
      refine wp_iconst (v := 0) rfl rfl ?_
      refine wp_istore_n (lv' := [(2, _), (0, _), (1, _)]) rfl rfl (by decide) rfl ?_
      refine wp_iconst (v := 0) rfl rfl ?_
      refine wp_istore_n (lv' := [(3, _), (2, _), (0, _), (1, _)]) rfl rfl (by decide) rfl ?_
      refine wp_loc (lv' := [(0, _), (1, _), (2, _), (3, _)]) [2, 3, 1, 0] rfl ?_
      exact z21 _ hno
  · have e6 : ¬ J 72 46 = 1 := by rw [a4]; exact h1
    have hno : b2 (KK T n i = wkd j) = 0 := b2_f (fun z => h1 (hk.mp z).1)
    refine MT.intro m_X11_is rfl (Nat.le_of_ble_eq_true rfl) ?_
    show WQ G (d + 4) Y_X11_is _ 0 [(0, .ref 72), (1, .ref (1000001 + j))] [] (J, L, RR b)
    refine wp_aload_n rfl rfl ?_
    refine q_geti rfl rfl (by first | rfl | assumption) rfl ?_
    refine wp_if_ne 17 rfl rfl (fun h2 => absurd h2 hn) (fun _ => ?_)
    refine wp_aload_n rfl rfl ?_
    refine q_geti rfl rfl (by first | rfl | assumption) rfl ?_
    refine wp_iconst (v := 1) rfl rfl ?_
    refine wp_icmp_ne 17 rfl rfl (fun _ => ?_) (fun h6 => absurd h6 e6)
    refine wp_iconst (v := 0) rfl rfl ?_
    refine wp_istore_n (lv' := [(2, _), (0, _), (1, _)]) rfl rfl (by decide) rfl ?_
    refine wp_iconst (v := 0) rfl rfl ?_
    refine wp_istore_n (lv' := [(3, _), (2, _), (0, _), (1, _)]) rfl rfl (by decide) rfl ?_
    refine wp_loc (lv' := [(0, _), (1, _), (2, _), (3, _)]) [2, 3, 1, 0] rfl ?_
    exact z21 _ hno
theorem r_whole (G : Gl) (d : Nat) {T : Nat → Int32} {n t p i : Nat} {I0 J : IF} {L0 L : LF} {b : Bool} (hx : RTX T n t I0) (h : ROK T n I0 L0 p i J L) (hK : 0 ≤ KK T n i) : MQ2 G (d + 2) Y_X11_whole [.ref 72] (J, L, RR b) (fun r w => r = some (.int (KK T n i)) ∧ ∃ J2 L2, w = (J2, L2, RR b) ∧ ROK T n I0 L0 p (i + 1) J2 L2) := by
  obtain ⟨k1, k2, k3⟩ := KK_num (T := T) (n := n) (i := i)
  have h2s := k1.mp hK
  have hne : ¬ KK T n i = -100 := fun z => by rw [z] at hK; exact absurd hK (by decide)
  have hnx := r_next G d (b := b) hx h hne
  obtain ⟨a1, ⟨a2, a3, a4, a5⟩, a6, a7, a8⟩ := h
  have hn : ¬ ¬ J 72 52 = 0 := fun z => z a7
  have e6 : J 72 46 = 2 := by rw [a4]; exact h2s
  have eL : (L 72 50).toInt32 = KK T n i := by rw [a5 h2s, lN_i, k2 hK]
  refine MT.intro m_X11_whole rfl (Nat.le_of_ble_eq_true rfl) ?_
  show WQ G (d + 2) Y_X11_whole _ 0 [(0, .ref 72)] [] (J, L, RR b)
  refine wp_aload_n rfl rfl ?_
  refine q_geti rfl rfl (by first | rfl | assumption) rfl ?_
  refine wp_if_ne 7 rfl rfl (fun h2 => absurd h2 hn) (fun _ => ?_)
  refine wp_aload_n rfl rfl ?_
  refine q_geti rfl rfl (by first | rfl | assumption) rfl ?_
  refine wp_iconst (v := 2) rfl rfl ?_
  refine wp_icmp_eq 11 rfl rfl (fun _ => ?_) (fun h6 => absurd e6 h6)
  refine wp_aload_n rfl rfl ?_
  refine q_getl rfl rfl (by first | rfl | assumption) rfl ?_
  refine wp_l2i rfl ?_
  rw [eL]
  refine wp_istore_n (lv' := [(1, _), (0, _)]) rfl rfl (by decide) rfl ?_
  refine wp_aload_n rfl rfl ?_
  refine cVr rfl l_11_261 i_X11_next m_X11_next (by first | rfl | assumption) (by decide) (hnx) rfl (Nat.le_of_ble_eq_true rfl) (fun r16 w16 hq16 => ?_)
  obtain ⟨rfl, J2, L2, rfl, hR⟩ := hq16
  refine wp_iload_n rfl rfl ?_
  exact wp_iret rfl rfl (⟨rfl, J2, L2, rfl, hR⟩)
theorem r_whole0 (G : Gl) (d : Nat) {T : Nat → Int32} {n p i : Nat} {I0 J : IF} {L0 L : LF} {b : Bool} (h : ROK T n I0 L0 p i J L) (hK : ¬ 0 ≤ KK T n i) : MQ2 G (d + 2) Y_X11_whole [.ref 72] (J, L, RR b) (fun r w => r = some (.int 0) ∧ ∃ J2 L2, w = (J2, L2, RR b) ∧ RBD T n I0 L0 i J2 L2) := by
  obtain ⟨k1, k2, k3⟩ := KK_num (T := T) (n := n) (i := i)
  have hbd := r_bad G (d + 1) (b := b) h
  obtain ⟨a1, ⟨a2, a3, a4, a5⟩, a6, a7, a8⟩ := h
  have hn : ¬ ¬ J 72 52 = 0 := fun z => z a7
  have e6 : ¬ J 72 46 = 2 := by rw [a4]; exact fun z => hK (k1.mpr z)
  refine MT.intro m_X11_whole rfl (Nat.le_of_ble_eq_true rfl) ?_
  show WQ G (d + 2) Y_X11_whole _ 0 [(0, .ref 72)] [] (J, L, RR b)
  refine wp_aload_n rfl rfl ?_
  refine q_geti rfl rfl (by first | rfl | assumption) rfl ?_
  refine wp_if_ne 7 rfl rfl (fun h2 => absurd h2 hn) (fun _ => ?_)
  refine wp_aload_n rfl rfl ?_
  refine q_geti rfl rfl (by first | rfl | assumption) rfl ?_
  refine wp_iconst (v := 2) rfl rfl ?_
  refine wp_icmp_eq 11 rfl rfl (fun h6 => absurd h6 e6) (fun _ => ?_)
  refine wp_aload_n rfl rfl ?_
  refine cVr rfl l_11_258 i_X11_bad m_X11_bad (by first | rfl | assumption) (by decide) (hbd) rfl (Nat.le_of_ble_eq_true rfl) (fun r8 w8 hq8 => ?_)
  obtain ⟨rfl, J2, rfl, hR⟩ := hq8
  refine wp_iconst (v := 0) rfl rfl ?_
  exact wp_iret rfl rfl (⟨rfl, J2, L, rfl, hR⟩)
