/-! plan: the step -/
theorem as_out {P : PL} {W m : Nat} {z : Nat → Int32} (h0 : BW P W W 0) (hm : pN P ≤ m) : ∀ w, w ≤ W → asW P W z w m = z m
  | 0, _ => rfl
  | w + 1, hw => by
    simp only [asW]
    rw [if_neg (by rw [bits_of_lt (ls_ok h0 (w := w) (by omega)).1 hm]; decide)]
    exact as_out h0 hm w (by omega)
theorem c_X11_plan_w (G : Gl) (d : Nat) (c : Int32) (v : Int64) (I : IF) (L : LF) (b : Bool) (h : ¬ (1 ≤ c ∧ c ≤ 3)) : MD G (d + 1) Y_X11_plan [.ref 72, .int c, .long v] (I, L, RR b) (some (.int (-2))) (uI I 72 0 0, L, RR b) := by
  refine MT.intro m_X11_plan rfl (Nat.le_of_ble_eq_true rfl) ?_
  show WQ G (d + 1) Y_X11_plan _ 0 [(0, .ref 72), (1, .int c), (2, .long v)] [] (I, L, RR b)
  refine wp_aload_n rfl rfl ?_
  refine wp_iconst (v := 0) rfl rfl ?_
  refine q_puti rfl rfl (by first | rfl | assumption) (Or.inl rfl) rfl ?_
  refine wp_iload_n rfl rfl ?_
  refine wp_i2l rfl ?_
  refine wp_lconst (v := 1) rfl rfl ?_
  refine wp_ldc2 (v := (3)) rfl cl_11_117 ?_
  refine cS1 rfl l_11_119 s_X11_in m_X11_in (c_inI G _ _ 1 3 rfl rfl _) rfl (Nat.le_of_ble_eq_true rfl) ?_
  refine wp_if_ne 11 rfl rfl (fun h8 => ?_) (fun h8 => ?_)
  · exact absurd (b2_ne.mp h8) h
  · refine wp_bipush (v := (-2)) rfl rfl ?_
    exact wp_iret rfl rfl (⟨rfl, rfl⟩)
theorem c_X11_plan_9 (G : Gl) (d : Nat) (c : Int32) (v : Int64) (I : IF) (L : LF) (b : Bool) (h : 1 ≤ c ∧ c ≤ 3) (hk : ¬ I 72 8 ≤ 0) : MD G (d + 1) Y_X11_plan [.ref 72, .int c, .long v] (I, L, RR b) (some (.int (-9))) (uI I 72 0 0, L, RR b) := by
  refine MT.intro m_X11_plan rfl (Nat.le_of_ble_eq_true rfl) ?_
  show WQ G (d + 1) Y_X11_plan _ 0 [(0, .ref 72), (1, .int c), (2, .long v)] [] (I, L, RR b)
  refine wp_aload_n rfl rfl ?_
  refine wp_iconst (v := 0) rfl rfl ?_
  refine q_puti rfl rfl (by first | rfl | assumption) (Or.inl rfl) rfl ?_
  refine wp_iload_n rfl rfl ?_
  refine wp_i2l rfl ?_
  refine wp_lconst (v := 1) rfl rfl ?_
  refine wp_ldc2 (v := (3)) rfl cl_11_117 ?_
  refine cS1 rfl l_11_119 s_X11_in m_X11_in (c_inI G _ _ 1 3 rfl rfl _) rfl (Nat.le_of_ble_eq_true rfl) ?_
  refine wp_if_ne 11 rfl rfl (fun h8 => ?_) (fun h8 => ?_)
  · refine wp_aload_n rfl rfl ?_
    refine q_geti rfl rfl (by first | rfl | assumption) rfl ?_
    rw [uI_nk (by decide)]
    refine wp_if_le 16 rfl rfl (fun h13 => absurd h13 hk) (fun _ => ?_)
    refine wp_bipush (v := (-9)) rfl rfl ?_
    exact wp_iret rfl rfl (⟨rfl, rfl⟩)
  · exact absurd h (b2_eq.mp h8)
theorem c_X11_plan_0 (G : Gl) (d : Nat) (c : Int32) (v : Int64) (I : IF) (L : LF) (b : Bool) (h : 1 ≤ c ∧ c ≤ 3) (hk : I 72 8 ≤ 0) (h0 : I 72 5 = 0) : MD G (d + 1) Y_X11_plan [.ref 72, .int c, .long v] (I, L, RR b) (some (.int (-1))) (uI (uI (uI I 72 0 0) 72 32 0) 72 30 (-1), L, RR b) := by
  have hz : uI (uI I 72 0 0) 72 32 0 72 5 = 0 := by rw [uI_nk (by decide), uI_nk (by decide)]; exact h0
  refine MT.intro m_X11_plan rfl (Nat.le_of_ble_eq_true rfl) ?_
  show WQ G (d + 1) Y_X11_plan _ 0 [(0, .ref 72), (1, .int c), (2, .long v)] [] (I, L, RR b)
  refine wp_aload_n rfl rfl ?_
  refine wp_iconst (v := 0) rfl rfl ?_
  refine q_puti rfl rfl (by first | rfl | assumption) (Or.inl rfl) rfl ?_
  refine wp_iload_n rfl rfl ?_
  refine wp_i2l rfl ?_
  refine wp_lconst (v := 1) rfl rfl ?_
  refine wp_ldc2 (v := (3)) rfl cl_11_117 ?_
  refine cS1 rfl l_11_119 s_X11_in m_X11_in (c_inI G _ _ 1 3 rfl rfl _) rfl (Nat.le_of_ble_eq_true rfl) ?_
  refine wp_if_ne 11 rfl rfl (fun h8 => ?_) (fun h8 => ?_)
  · refine wp_aload_n rfl rfl ?_
    refine q_geti rfl rfl (by first | rfl | assumption) rfl ?_
    rw [uI_nk (by decide)]
    refine wp_if_le 16 rfl rfl (fun _ => ?_) (fun h13 => absurd hk h13)
    refine wp_aload_n rfl rfl ?_
    refine wp_iconst (v := 0) rfl rfl ?_
    refine q_putz rfl rfl (by first | rfl | assumption) (Or.inl rfl) rfl (Or.inl rfl) ?_
    refine wp_aload_n rfl rfl ?_
    refine wp_aload_n rfl rfl ?_
    refine q_geti rfl rfl (by first | rfl | assumption) rfl ?_
    refine wp_if_ne 25 rfl rfl (fun h22 => ?_) (fun h22 => ?_)
    · exact absurd hz h22
    · refine wp_iconst (v := (-1)) rfl rfl ?_
      refine wp_goto 29 rfl rfl ?_
      refine q_puti rfl rfl (by first | rfl | assumption) (Or.inl rfl) rfl ?_
      refine wp_aload_n rfl rfl ?_
      refine q_geti rfl rfl (by first | rfl | assumption) rfl ?_
      refine wp_iconst (v := (-1)) rfl rfl ?_
      rw [uI_eq]
      refine wp_icmp_ne 36 rfl rfl (fun h33 => ?_) (fun h33 => ?_)
      · exact absurd rfl h33
      · refine wp_iconst (v := (-1)) rfl rfl ?_
        exact wp_iret rfl rfl (⟨rfl, rfl⟩)
  · exact absurd h (b2_eq.mp h8)
theorem c_X5_schedule_0 (G : Gl) (d : Nat) (c : Int32) (v : Int64) (I : IF) (L : LF) (b : Bool) (h0 : I 1 2 = 0) : MD G d Y_X5_schedule [.ref 34, .ref 1, .int c, .long v] (I, L, RR b) (some (.int (-1))) (I, L, RR b) := by
  refine MT.intro m_X5_schedule rfl (Nat.le_of_ble_eq_true rfl) ?_
  show WQ G d Y_X5_schedule _ 0 [(0, .ref 34), (1, .ref 1), (2, .int c), (3, .long v)] [] (I, L, RR b)
  refine wp_aload_n rfl rfl ?_
  refine q_geti rfl rfl (by first | rfl | assumption) rfl ?_
  refine wp_if_eq 6 rfl rfl (fun _ => ?_) (fun h2 => absurd h0 h2)
  refine wp_iconst (v := (-1)) rfl rfl ?_
  exact wp_iret rfl rfl (⟨rfl, rfl⟩)
theorem IV_plan {nm na nr : Nat} {I J : IF} {L : LF} (h : IV nm na nr I L) (h5 : I 1 5 ≤ 0) {x : Int32} {z : Nat → Int32} (hx : x = -1 ∨ (1 ≤ x ∧ x ≤ 52 ∧ ¬ I 1 2 = 0))
    (e0 : ∀ q, q ≠ 0 → (q < 4 ∨ (13 < q ∧ q < 34) ∨ 38 < q) → q ≠ 72 → q ≠ 94 → q ≠ 99 → J q = I q) (e72 : ∀ k, k ≠ 0 → k ≠ 30 → k ≠ 32 → J 72 k = I 72 k) (e00 : ∀ k, k ≠ 10 → k ≠ 11 → J 0 k = I 0 k) (e10 : J 0 10 = x) (e11 : J 0 11 = 0) (e30 : J 72 30 = x) (e32 : J 72 32 = 0)
    (em : ∀ m k, m < 10 → k ≠ 6 → k ≠ 7 → J (4 + m) k = I (4 + m) k) (e6 : ∀ m, m < 10 → J (4 + m) 6 = if m < nm then -1 else I (4 + m) 6) (e7 : ∀ m, m < 10 → J (4 + m) 7 = z m) (hz1 : ∀ m, m < 10 → ¬ x = -1 → m < nm → J 94 m = z m ∧ 0 ≤ z m ∧ z m ≤ 51) (hz2 : ∀ m, m < 10 → (x = -1 ∨ nm ≤ m) → z m = -1) : IV nm na nr J L ∧ LSm I J := by
  obtain ⟨a1, a2, a3, a4, a5, a6, a7, a8, a9, a10, a11⟩ := id h
  have hn := a1.1.2.2
  have em2 : ∀ m k, m < 14 → k ≠ 6 → k ≠ 7 → J (4 + m) k = I (4 + m) k := fun m k hm h6 h7 => by
    rcases Nat.lt_or_ge m 10 with e | e
    · exact em m k e h6 h7
    · rw [e0 (4 + m) (by omega) (by omega) (by omega) (by omega) (by omega)]
  have hw0 : I 1 5 = 0 := by have := a2.1.2.1; grind
  refine ⟨⟨?_, ?_, ?_, ?_, ?_, ?_, ?_, ?_, ?_, ?_, ?_⟩, ?_, ?_⟩
  · unfold IVc at a1 ⊢; simp (disch := omega) only [e0, e72]; exact a1
  · unfold IVs at a2 ⊢
    simp (disch := omega) only [e0, e72, e00]
    rw [e10, e11, e30, e32]
    exact ⟨a2.1, a2.2.1, a2.2.2.1, a2.2.2.2.1, ⟨rfl, hx⟩, ⟨rfl, Or.inl rfl⟩, a2.2.2.2.2.2.2.1, a2.2.2.2.2.2.2.2.1, fun y => absurd y (by decide), fun y => absurd y (by rw [hw0]; decide)⟩
  · intro k hk; simp (disch := omega) only [e0, em2]; exact a3 k hk
  · intro k hk
    have y := a4 k hk
    have hz : I (4 + k) 9 = 0 := by
      apply Classical.byContradiction
      intro t
      exact absurd (y.2.2.2.1 t).2 (by rw [hw0]; decide)
    simp (disch := omega) only [e0, em2]
    exact ⟨y.1, y.2.1, y.2.2.1, fun t => absurd hz t, y.2.2.2.2⟩
  · intro k hk; simp (disch := omega) only [e0, em2]; exact a5 k hk
  · intro k hk
    have e := em2 (10 + k)
    rw [show 4 + (10 + k) = 14 + k by omega] at e
    simp (disch := omega) only [e0, e]
    exact a6 k hk
  · intro m hm
    have y := a7 m hm
    rw [e10, e11, e7 m hm, e6 m hm]
    refine ⟨fun t => hz1 m hm t.1 t.2, fun t => hz2 m hm t, fun t => absurd t.1 (by decide), fun _ => ?_⟩
    by_cases e : m < nm
    · rw [if_pos e]
    · rw [if_neg e]; exact y.2.2.2 (Or.inr (by omega))
  · intro a ha; simp (disch := omega) only [e0]; exact a8 a ha
  · intro a ha; simp (disch := omega) only [e0]; exact a9 a ha
  · unfold IVt at a10 ⊢; simp (disch := omega) only [e0, e72]; exact a10
  · intro k hk; simp (disch := omega) only [e0]; exact a11 k hk
  · intro q hq; exact e0 q (by omega) (by omega) (by omega) (by omega) (by omega)
  · exact e72 12 (by decide) (by decide) (by decide)
/-- the plan's data, as the land has them -/
def plP (I : IF) (nm c : Nat) (v : Int64) : PL := (nm, c, fun w => !wnd v w, fun m => decide (I (4 + m) 4 = 1), fun m => if I (4 + m) 3 = -1 then none else some (I (4 + m) 3).toNatClampNeg)
theorem plP_f {nm na nr m : Nat} {I : IF} {L : LF} (h : IV nm na nr I L) (hm : m < nm) (c : Nat) (v : Int64) : (pF (plP I nm c v) m = none ∧ I (4 + m) 3 = -1) ∨ ∃ f, f < m ∧ pF (plP I nm c v) m = some f ∧ I (4 + m) 3 = nI f := by
  obtain ⟨h1, h2, h3⟩ := h.2.2.2.2.1 m hm
  have hn := h.1.1.2.2
  by_cases e : I (4 + m) 3 = -1
  · exact Or.inl ⟨if_pos e, e⟩
  · obtain ⟨f, hf, ef⟩ := nI_get (x := I (4 + m) 3) (n := m) (by grind) h3 (by omega)
    refine Or.inr ⟨f, hf, ?_, ef⟩
    show (if I (4 + m) 3 = -1 then none else some (I (4 + m) 3).toNatClampNeg) = some f
    rw [if_neg e, ef, nI_clamp (by omega)]
theorem plP_ok {nm na nr c : Nat} {I : IF} {L : LF} {v : Int64} (h : IV nm na nr I L) (hn0 : 1 ≤ nm) (hc : 1 ≤ c) (hc3 : c ≤ 3) : plok (plP I nm c v) := by
  refine ⟨hn0, h.1.1.2.2, hc, hc3, fun m f hm hf => ?_⟩
  rcases plP_f h hm c v with ⟨e, -⟩ | ⟨f2, h1, h2, -⟩
  · rw [e] at hf; cases hf
  · rw [h2] at hf; cases hf; exact h1
theorem plP_3 {nm na nr m : Nat} {I : IF} {L : LF} (h : IV nm na nr I L) (hm : m < nm) (c : Nat) (v : Int64) : I (4 + m) 3 = (match pF (plP I nm c v) m with | none => -1 | some f => nI f) := by
  rcases plP_f h hm c v with ⟨e, e2⟩ | ⟨f2, h1, h2, h3⟩
  · rw [e]; exact e2
  · rw [h2]; exact h3
theorem plP_4 {nm na nr m : Nat} {I : IF} {L : LF} (h : IV nm na nr I L) (hm : m < nm) (c : Nat) (v : Int64) : I (4 + m) 4 = b2 (pH (plP I nm c v) m = true) := by
  have hn := h.1.1.2.2
  obtain ⟨-, z⟩ := (h.2.2.2.1 m (by omega)).1
  show _ = b2 (decide (I (4 + m) 4 = 1) = true)
  rcases z with e | e
  · rw [e]; rfl
  · rw [e]; rfl
theorem s_plan {G : Gl} {d : Nat} {Inv : IF → LF → Bool → Prop} {I : IF} {L : LF} {b : Bool} (c : Int32) (v : Int64) (h : InvA I L) (hI : ∀ I2 L2, InvA I2 L2 → LSm I I2 → Inv I2 L2 b) : Step Inv G (d + 5) Y_X10_plan Y_X11_plan [.int c, .long v] I L b := by
  obtain ⟨nm, na, nr, h⟩ := h
  obtain ⟨a1, a2, a3, a4, a5, a6, a7, a8, a9, a10, a11⟩ := id h
  have hn := a1.1.2.2
  by_cases hc : 1 ≤ c ∧ c ≤ 3
  · by_cases h5 : I 1 5 ≤ 0
    · have hk8 : I 72 8 ≤ 0 := by rw [a2.1.1]; exact h5
      rcases Nat.eq_zero_or_pos nm with hz | hn0
      · subst hz
        have h12 : I 1 2 = 0 := a1.1.1
        refine c_X10_plan G d (nm := 0) c v I L b hc h5 a1.1.1 (by omega) _ (fun J f1 f2 f3 f4 => ?_)
        refine (c_X5_schedule_0 G _ c v J L b (by rw [f1 1 (by omega) (by omega)]; exact h12)).mono (fun r w2 hq => ?_)
        obtain ⟨rfl, rfl⟩ := hq
        refine ⟨_, J, rfl, rfl, _, uI J 0 10 (-1), L, b, rfl, rfl, ?_⟩
        have e7 : ∀ k, uI J 0 10 (-1) 72 k = I 72 k := fun k => by rw [uI_ne (by decide), f1 72 (by decide) (by decide)]
        refine (c_X11_plan_0 G (d + 4) c v (uI J 0 10 (-1)) L b hc (by rw [e7]; exact hk8) (by rw [e7]; exact a1.1.2.1)).mono (fun r2 w3 hq2 => ?_)
        obtain ⟨rfl, rfl⟩ := hq2
        have key := IV_plan (J := uI (uI (uI (uI J 0 10 (-1)) 72 0 0) 72 32 0) 72 30 (-1)) h h5 (x := -1) (z := fun m => I (4 + m) 7) (Or.inl rfl)
          (fun q b1 b2 b3 b4 b5 => by rw [uI_fn b3, uI_fn b3, uI_fn b3, uI_fn b1]; exact f1 q b1 (by omega))
          (fun k b1 b2 b3 => by rw [uI_nk b2, uI_nk b3, uI_nk b1, e7])
          (fun k b1 b2 => by rw [uI_ne (by decide), uI_ne (by decide), uI_ne (by decide), uI_nk b1]; exact f2 k b2)
          (by rw [uI_ne (by decide), uI_ne (by decide), uI_ne (by decide), uI_eq]) (by rw [uI_ne (by decide), uI_ne (by decide), uI_ne (by decide), uI_nk (by decide)]; exact f3) uI_eq (by rw [uI_nk (by decide), uI_eq])
          (fun m k hm h6 h7 => by rw [uI_ne (by omega), uI_ne (by omega), uI_ne (by omega), uI_ne (by omega)]; exact (f4 m hm).1 k h6 h7)
          (fun m hm => by rw [uI_ne (by omega), uI_ne (by omega), uI_ne (by omega), uI_ne (by omega)]; exact (f4 m hm).2.1)
          (fun m hm => by rw [uI_ne (by omega), uI_ne (by omega), uI_ne (by omega), uI_ne (by omega), (f4 m hm).2.2, if_neg (by omega)])
          (fun m hm y => absurd rfl y) (fun m hm _ => (a7 m hm).2.1 (Or.inr (by omega)))
        exact ⟨_, L, rfl, rfl, hI _ L ⟨0, na, nr, key.1⟩ key.2⟩
      · obtain ⟨cn, hcn, ec⟩ := nI_of2 (x := c) (M := 3) (n := 3) rfl (by grind) hc.2
        have hcn1 : 1 ≤ cn := (nI_leI (a := 1) (b := cn) (by omega) (by omega)).mp (by rw [← ec]; exact hc.1)
        have hp := plP_ok (c := cn) (v := v) h hn0 hcn1 hcn
        have hwd : ∀ w, w < 52 → pW (plP I nm cn v) w = !wnd v w := fun w _ => rfl
        have hne : ¬ I 1 2 = 0 := by rw [a1.1.1]; exact nI_ne0 hn0 (by omega)
        refine c_X10_plan G d (nm := nm) c v I L b hc h5 a1.1.1 hn _ (fun J f1 f2 f3 f4 => ?_)
        have hPJ : PI (plP I nm cn v) J := ⟨by rw [f1 1 (by omega) (by omega)]; exact a1.1.1, fun m hm => by
          have hm2 : m < nm := hm
          rw [(f4 m (by omega)).1 4 (by decide) (by decide), (f4 m (by omega)).1 3 (by decide) (by decide)]
          exact ⟨plP_4 h hm cn v, plP_3 h hm cn v⟩⟩
        have cs := c_X5_schedule G d hp hwd J L b hPJ
        rw [ec]
        refine cs.mono (fun r w2 hq => ?_)
        obtain ⟨J2, rfl, g1, g2, g3⟩ := hq
        have fin : ∀ (x : Int32) (z : Nat → Int32), r = some (.int x) → (∀ m, m < 10 → J2 (4 + m) 7 = z m) → (x = -1 ∨ (1 ≤ x ∧ x ≤ 52)) → (∀ m, m < 10 → (x = -1 ∨ nm ≤ m) → z m = -1) → (∀ (y : Int32) (J3 : IF), plM (plP I nm cn v) (uI J2 0 10 x) J3 y → y = x ∧ ∀ m, m < 10 → ¬ x = -1 → m < nm → J3 94 m = z m ∧ 0 ≤ z m ∧ z m ≤ 51) → ∃ (x : Int32) (J2' : IF), r = some (.int x) ∧ (J2, L, RR b) = (J2', L, RR b) ∧ ∃ (v_1 : Int32) (I1 : IF) (L1 : LF) (b1 : Bool), some (Value.int x) = some (.int v_1) ∧ (uI J2' 0 10 x, L, RR b) = (I1, L1, RR b1) ∧ MQ2 G (d + 5) Y_X11_plan (.ref 72 :: [.int (nI cn), .long v]) (uI J2' 0 10 x, L, RR b) (fun r2 w2 => ∃ (I2 : IF) (L2 : LF), r2 = some (.int v_1) ∧ w2 = (I2, L2, RR b1) ∧ Inv I2 L2 b1) := by
          intro x z hr hz hx hz2 hM
          have e7 : ∀ q, q ≠ 0 → (q < 4 ∨ (13 < q ∧ q < 34) ∨ 38 < q) → uI J2 0 10 x q = I q := fun q b1 b2 => by rw [uI_fn b1, g1 q b2, f1 q b1 (by omega)]
          have hPM : PM (plP I nm cn v) (uI J2 0 10 x) := ⟨by rw [e7 72 (by decide) (by decide)]; exact a1.1.2.1, fun m hm => by
            have hm2 : m < nm := hm
            rw [e7 83 (by decide) (by decide), e7 81 (by decide) (by decide), (a4 m (by omega)).1.1, (a5 m hm2).1]
            exact ⟨plP_4 h hm cn v, plP_3 h hm cn v⟩⟩
          refine ⟨x, J2, hr, rfl, x, uI J2 0 10 x, L, b, rfl, rfl, ?_⟩
          refine (c_X11_plan G (d + 2) hp hwd (uI J2 0 10 x) L b hPM (by rw [e7 72 (by decide) (by decide)]; exact hk8)).mono (fun r2 w3 hq2 => ?_)
          obtain ⟨y, J3, rfl, rfl, hpl⟩ := hq2
          obtain ⟨rfl, hz1⟩ := hM y J3 hpl
          obtain ⟨m1, m2, m3, m4, -⟩ := hpl
          have key := IV_plan (J := J3) h h5 (x := y) (z := z) (hx.imp id (fun t => ⟨t.1, t.2, hne⟩))
            (fun q b1 b2 b3 b4 b5 => by rw [m1 q b3 b4 b5]; exact e7 q b1 b2)
            (fun k b1 b2 b3 => by rw [m2 k b1 b2 b3, e7 72 (by decide) (by decide)])
            (fun k b1 b2 => by rw [m1 0 (by decide) (by decide) (by decide), uI_nk b1, g1 0 (by omega)]; exact f2 k b2)
            (by rw [m1 0 (by decide) (by decide) (by decide), uI_eq]) (by rw [m1 0 (by decide) (by decide) (by decide), uI_nk (by decide), g1 0 (by omega)]; exact f3) m3 m4
            (fun m k hm h6 h7 => by rw [m1 (4 + m) (by omega) (by omega) (by omega), uI_ne (by omega), g2 m hm k h7]; exact (f4 m hm).1 k h6 h7)
            (fun m hm => by rw [m1 (4 + m) (by omega) (by omega) (by omega), uI_ne (by omega), g2 m hm 6 (by decide)]; exact (f4 m hm).2.1)
            (fun m hm => by rw [m1 (4 + m) (by omega) (by omega) (by omega), uI_ne (by omega)]; exact hz m hm)
            hz1 hz2
          exact ⟨J3, L, rfl, rfl, hI J3 L ⟨nm, na, nr, key.1⟩ key.2⟩
        have hj7 : ∀ m, m < 10 → J (4 + m) 7 = -1 := fun m hm => by
          rw [(f4 m hm).2.2]
          by_cases e : m < nm
          · rw [if_pos e]
          · rw [if_neg e]; exact (a7 m hm).2.1 (Or.inr (by omega))
        rcases g3 with ⟨W, hW, hr, g4⟩ | ⟨hW, hr, g4⟩
        · have hW1 := hW.1
          have hW52 := hW.2.1
          have hB := B0 hW.2.2.1
          refine fin (nI W) (fun m => asW (plP I nm cn v) W (fun m => J (4 + m) 7) W m) hr g4 (Or.inr ⟨nI_le (a := 1) hW1 (by omega), nI_le (b := 52) hW52 (by omega)⟩) (fun m hm y => ?_) (fun y J3 hpl => ?_)
          · rcases y with y | y
            · exact absurd y (by have := nI_pos' (n := W) (by omega); grind)
            · show asW (plP I nm cn v) W (fun m => J (4 + m) 7) W m = -1
              rw [as_out hB y W (Nat.le_refl _)]
              exact hj7 m hm
          · obtain ⟨-, -, -, -, q5⟩ := hpl
            rcases q5 with ⟨V, hV, hy, q6⟩ | ⟨hV, hy⟩
            · have hVW := Wk_uniq hV hW
              subst hVW
              refine ⟨hy, fun m hm _ hmn => ?_⟩
              obtain ⟨t, t1, t2⟩ := as_ok (P := plP I nm cn v) (W := V) (m := m) V (pk_all hB hmn)
              show J3 94 m = asW (plP I nm cn v) V (fun m => J (4 + m) 7) V m ∧ 0 ≤ asW (plP I nm cn v) V (fun m => J (4 + m) 7) V m ∧ asW (plP I nm cn v) V (fun m => J (4 + m) 7) V m ≤ 51
              rw [q6 m hmn, t2, t2]
              exact ⟨rfl, nI_pos' (by omega), nI_le (b := 51) (by omega) (by omega)⟩
            · exact absurd hW (fun z => Wk_n z hV)
        · refine fin (-1) (fun m => J (4 + m) 7) hr g4 (Or.inl rfl) (fun m hm _ => hj7 m hm) (fun y J3 hpl => ?_)
          obtain ⟨-, -, -, -, q5⟩ := hpl
          rcases q5 with ⟨V, hV, hy, q6⟩ | ⟨hV, hy⟩
          · exact absurd hV (fun z => Wk_n z hW)
          · exact ⟨hy, fun m hm y => absurd rfl y⟩
    · exact Step.ofA (StepA.query h (c_X10_plan_9 G (d + 4) c v I L b hc h5) (c_X11_plan_9 G (d + 4) c v I L b hc (by rw [a2.1.1]; exact h5))) hI
  · exact Step.ofA (StepA.query h (c_X10_plan_w G (d + 4) c v I L b hc) (c_X11_plan_w G (d + 4) c v I L b hc)) hI
