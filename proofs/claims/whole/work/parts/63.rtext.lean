/-! the reference reads a text, all rules -/
def OQ (T : Nat → Int32) (n f0 : Nat) (I0 : IF) (L0 : LF) (b : Bool) (r : Nat) (es0 : List RE) (o : Bool) (j : Nat) (es : List RE) (x : Option Value) (w : mW) : Prop := x = none ∧ ∃ J L, w = (J, L, RR b) ∧ ((o = false ∧ SB T n I0 L0 j J L) ∨ ∃ r2 e j0, r = r2 + 1 ∧ ST T n I0 L0 j0 (es0 ++ [e]) J L ∧ prA (KK T n) e j0 (prR (KK T n) f0 r2 (j0 + 1)) = some (o, j, es))
theorem UQ.bad {T : Nat → Int32} {n f0 r j : Nat} {I0 : IF} {L0 : LF} {b : Bool} {es0 es1 es : List RE} {x : Option Value} {w : mW} (h : UQ T n I0 L0 b false j es1 x w) : OQ T n f0 I0 L0 b r es0 false j es x w := by
  obtain ⟨h1, J, L, h2, -, h3⟩ := h
  exact ⟨h1, J, L, h2, Or.inl ⟨rfl, h3 rfl⟩⟩
theorem UQ.yes {T : Nat → Int32} {n f0 r2 j j0 : Nat} {I0 : IF} {L0 : LF} {b o : Bool} {es0 es : List RE} {e : RE} {x : Option Value} {w : mW} (h : UQ T n I0 L0 b true j0 (es0 ++ [e]) x w) (hA : prA (KK T n) e j0 (prR (KK T n) f0 r2 (j0 + 1)) = some (o, j, es)) : OQ T n f0 I0 L0 b (r2 + 1) es0 o j es x w := by
  obtain ⟨h1, J, L, h2, h3, -⟩ := h
  exact ⟨h1, J, L, h2, Or.inr ⟨r2, e, j0, rfl, h3 rfl, hA⟩⟩
theorem u_all (G : Gl) (d : Nat) {T : Nat → Int32} {n t f0 r i j : Nat} {I0 J : IF} {L0 L : LF} {b o : Bool} {es0 es : List RE} (hx : RTX T n t I0) (h : ST T n I0 L0 i es0 J L) (hl : es0.length + r = 10) (hp : prR (KK T n) f0 r i = some (o, j, es)) : MQ2 G (d + 33) Y_X11_rule [.ref 72] (J, L, RR b) (OQ T n f0 I0 L0 b r es0 o j es) := by
  cases r with
  | zero =>
    have e1 : some (false, i, ([] : List RE)) = some (o, j, es) := hp
    cases e1
    exact (u_full G d hx h (by omega)).mono (fun _ _ z => z.bad)
  | succ r =>
    rcases prR_i hp with ⟨h1, h2⟩ | ⟨h1, h2, h3⟩ | ⟨h1, h2, h3, h4⟩
    · rcases h2 with ⟨c1, g1, g2⟩ | ⟨j1, c1, g1, g2⟩
      · rw [g2]
        exact (u_give1 G d hx h h1 (by omega) g1).mono (fun _ _ z => z.bad)
      · rcases g2 with ⟨h4, c2, g3, g4⟩ | ⟨j2, c2, g3, g4⟩
        · rw [g4]
          exact (u_give2 G d hx h h1 (by omega) g1 h4 g3).mono (fun _ _ z => z.bad)
        · exact (u_give3 G d hx h h1 (by omega) g1 g3).mono (fun _ _ z => z.yes g4)
    · rcases h3 with ⟨h3, h4⟩ | ⟨h3, e4, e5⟩
      · exact (u_cap G d hx h h1 h2 (by omega) h3).mono (fun _ _ z => z.yes h4)
      · rw [e4, e5]
        exact (u_cap0 G d hx h h1 h2 (by omega) h3).mono (fun _ _ z => z.bad)
    · rw [h3, h4]
      exact (u_none G d hx h h1 h2 (by omega)).mono (fun _ _ z => z.bad)
theorem ST.nx {T : Nat → Int32} {n i : Nat} {I0 J J2 : IF} {L0 L L2 : LF} {es : List RE} (h : ST T n I0 L0 i es J L) (hR : ROK T n J L 0 (i + 1) J2 L2) : ST T n I0 L0 (i + 1) es J2 L2 := by
  obtain ⟨s1, s2, s3, s4, s5, s6, s7, s8, s9⟩ := h
  obtain ⟨r1, r2, r3, r4, r5⟩ := hR
  refine ⟨s1.rg r1, r2, r3, r4, by rw [r5]; exact s5, ?_, ?_, ?_, ?_⟩
  · rw [r1.2.1 48 (by decide) (by decide) (by decide) (by decide) (by decide) (by decide)]; exact s6
  · rw [r1.2.1 49 (by decide) (by decide) (by decide) (by decide) (by decide) (by decide)]; exact s7
  · rw [r1.2.1 53 (by decide) (by decide) (by decide) (by decide) (by decide) (by decide)]; exact s8
  · rw [r1.2.2.2 51 (by decide)]; exact s9
theorem UQ.any {T : Nat → Int32} {n j : Nat} {I0 : IF} {L0 : LF} {b : Bool} {es es2 : List RE} {x : Option Value} {w : mW} (h : UQ T n I0 L0 b false j es x w) : UQ T n I0 L0 b false j es2 x w := by
  obtain ⟨h1, J, L, h2, -, h3⟩ := h
  exact ⟨h1, J, L, h2, nofun, h3⟩
theorem v_bad {G : Gl} {d : Nat} {T : Nat → Int32} {n j : Nat} {I0 : IF} {L0 : LF} {b : Bool} {x1 : Int32} {es : List RE} {Q : Option Value → mW → Prop} (J : IF) (L : LF) (h : SB T n I0 L0 j J L) (hQ : ∀ v w, UQ T n I0 L0 b false j es v w → Q v w) : WQ G (d + 34) Y_X11_reads Q 40 [(0, .ref 72), (1, .int x1)] [] (J, L, RR b) := by
  have hbd := r_bad2 G (d + 33) (b := b) h.bd
  refine wp_aload_n rfl rfl ?_
  refine wp_bipush (v := 59) rfl rfl ?_
  refine cV1 rfl l_11_278 i_X11_isSign m_X11_isSign (by first | rfl | assumption) (by decide) (r_sign0 G _ _ h.bd) rfl (Nat.le_of_ble_eq_true rfl) ?_
  refine wp_if_eq 49 rfl rfl (fun _ => ?_) (fun h43 => absurd rfl h43)
  refine wp_aload_n rfl rfl ?_
  refine q_geti rfl rfl (by first | rfl | assumption) rfl ?_
  refine wp_if_eq 54 rfl rfl (fun h51 => ?_) (fun h51 => ?_)
  · exact wp_vret rfl rfl (hQ _ _ ⟨rfl, J, L, rfl, nofun, fun _ => h⟩)
  · refine wp_aload_n rfl rfl ?_
    refine cVr rfl l_11_258 i_X11_bad m_X11_bad (by first | rfl | assumption) (by decide) (hbd) rfl (Nat.le_of_ble_eq_true rfl) (fun r53 w53 hq53 => ?_)
    obtain ⟨rfl, J2, rfl, hB⟩ := hq53
    exact wp_vret rfl rfl (hQ _ _ ⟨rfl, J2, L, rfl, nofun, fun _ => SB.of h.1 hB⟩)
theorem v_loop {G : Gl} {d : Nat} {T : Nat → Int32} {n t f0 : Nat} {I0 : IF} {L0 : LF} {b : Bool} {x1 : Int32} (hx : RTX T n t I0) : ∀ (r : Nat) (e : RE) (j0 : Nat) (es0 : List RE) (o : Bool) (j : Nat) (es : List RE) (J : IF) (L : LF) (Q : Option Value → mW → Prop), es0.length + 1 + r = 10 → ST T n I0 L0 j0 (es0 ++ [e]) J L → prA (KK T n) e j0 (prR (KK T n) f0 r (j0 + 1)) = some (o, j, es) → (∀ v w, UQ T n I0 L0 b o j (es0 ++ es) v w → Q v w) → WQ G (d + 34) Y_X11_reads Q 40 [(0, .ref 72), (1, .int x1)] [] (J, L, RR b) := by
  intro r
  induction r with
  | zero =>
    intro e j0 es0 o j es J L Q hl hS hA hQ
    have hx1 := hS.1.rtx hx
    have hsg := r_sign G (d + 32) (b := b) (c := 59) (v := -59) hx1 hS.ok (by decide) (by decide)
    have e46 : J 72 46 = srt T n (ps T n j0) := hS.2.1.2.2.1
    have hln : (es0 ++ [e]).length = 10 := by rw [List.length_append, List.length_singleton]; omega
    rcases prA_i hA with ⟨a1, a2, a3, a4⟩ | ⟨a1, o1, es1, a2, a3, a4⟩ | ⟨a1, a2, a3, a4⟩
    · have n59 : ¬ KK T n j0 = -59 := by rw [a1]; decide
      have e0 : J 72 46 = 0 := by rw [e46]; exact srt_0.mpr a1
      refine wp_aload_n rfl rfl ?_
      refine wp_bipush (v := 59) rfl rfl ?_
      refine cV1 rfl l_11_278 i_X11_isSign m_X11_isSign (by first | rfl | assumption) (by decide) (hsg) rfl (Nat.le_of_ble_eq_true rfl) ?_
      refine wp_if_eq 49 rfl rfl (fun _ => ?_) (fun h43 => absurd (b2_f n59) h43)
      refine wp_aload_n rfl rfl ?_
      refine q_geti rfl rfl (by first | rfl | assumption) rfl ?_
      refine wp_if_eq 54 rfl rfl (fun _ => ?_) (fun h51 => absurd e0 h51)
      exact wp_vret rfl rfl (hQ _ _ ⟨rfl, J, L, rfl, fun _ => by rw [a3, a4]; exact hS, fun z => (by rw [a2] at z; cases z)⟩)
    · have hnx := r_next G (d + 32) (b := b) hx1 hS.ok (by rw [a1]; decide)
      have e1 : some (false, j0 + 1, ([] : List RE)) = some (o1, j, es1) := a2
      cases e1
      refine wp_aload_n rfl rfl ?_
      refine wp_bipush (v := 59) rfl rfl ?_
      refine cV1 rfl l_11_278 i_X11_isSign m_X11_isSign (by first | rfl | assumption) (by decide) (hsg) rfl (Nat.le_of_ble_eq_true rfl) ?_
      refine wp_if_eq 49 rfl rfl (fun h43 => absurd h43 (fun z => (b2_eq.mp z) a1)) (fun _ => ?_)
      refine wp_aload_n rfl rfl ?_
      refine cVr rfl l_11_261 i_X11_next m_X11_next (by first | rfl | assumption) (by decide) (hnx) rfl (Nat.le_of_ble_eq_true rfl) (fun r45 w45 hq45 => ?_)
      obtain ⟨rfl, J2, L2, rfl, hR2⟩ := hq45
      refine wp_aload_n rfl rfl ?_
      refine cVr rfl l_11_322 i_X11_rule m_X11_rule (by first | rfl | assumption) (by decide) (u_full G d hx (hS.nx hR2) hln) rfl (Nat.le_of_ble_eq_true rfl) (fun r47 w47 hq47 => ?_)
      obtain ⟨rfl, J3, L3, rfl, -, hB⟩ := hq47
      refine wp_goto 40 rfl rfl ?_
      exact v_bad J3 L3 (hB rfl) (es := es0 ++ es) (fun v w z => hQ v w (by rw [a3]; exact z))
    · have n0 : ¬ J 72 46 = 0 := by rw [e46]; exact fun z => a1 (srt_0.mp z)
      refine wp_aload_n rfl rfl ?_
      refine wp_bipush (v := 59) rfl rfl ?_
      refine cV1 rfl l_11_278 i_X11_isSign m_X11_isSign (by first | rfl | assumption) (by decide) (hsg) rfl (Nat.le_of_ble_eq_true rfl) ?_
      refine wp_if_eq 49 rfl rfl (fun _ => ?_) (fun h43 => absurd (b2_f a2) h43)
      refine wp_aload_n rfl rfl ?_
      refine q_geti rfl rfl (by first | rfl | assumption) rfl ?_
      refine wp_if_eq 54 rfl rfl (fun h51 => absurd h51 n0) (fun _ => ?_)
      refine wp_aload_n rfl rfl ?_
      refine cVr rfl l_11_258 i_X11_bad m_X11_bad (by first | rfl | assumption) (by decide) (r_bad G _ hS.ok) rfl (Nat.le_of_ble_eq_true rfl) (fun r53 w53 hq53 => ?_)
      obtain ⟨rfl, J2, rfl, hB⟩ := hq53
      exact wp_vret rfl rfl (hQ _ _ ⟨rfl, J2, L, rfl, fun z => (by rw [a3] at z; cases z), fun _ => by rw [a4]; exact SB.of hS.1 hB⟩)
  | succ r ih =>
    intro e j0 es0 o j es J L Q hl hS hA hQ
    have hx1 := hS.1.rtx hx
    have hsg := r_sign G (d + 32) (b := b) (c := 59) (v := -59) hx1 hS.ok (by decide) (by decide)
    have e46 : J 72 46 = srt T n (ps T n j0) := hS.2.1.2.2.1
    have hln : (es0 ++ [e]).length = es0.length + 1 := by rw [List.length_append, List.length_singleton]
    rcases prA_i hA with ⟨a1, a2, a3, a4⟩ | ⟨a1, o1, es1, a2, a3, a4⟩ | ⟨a1, a2, a3, a4⟩
    · have n59 : ¬ KK T n j0 = -59 := by rw [a1]; decide
      have e0 : J 72 46 = 0 := by rw [e46]; exact srt_0.mpr a1
      refine wp_aload_n rfl rfl ?_
      refine wp_bipush (v := 59) rfl rfl ?_
      refine cV1 rfl l_11_278 i_X11_isSign m_X11_isSign (by first | rfl | assumption) (by decide) (hsg) rfl (Nat.le_of_ble_eq_true rfl) ?_
      refine wp_if_eq 49 rfl rfl (fun _ => ?_) (fun h43 => absurd (b2_f n59) h43)
      refine wp_aload_n rfl rfl ?_
      refine q_geti rfl rfl (by first | rfl | assumption) rfl ?_
      refine wp_if_eq 54 rfl rfl (fun _ => ?_) (fun h51 => absurd e0 h51)
      exact wp_vret rfl rfl (hQ _ _ ⟨rfl, J, L, rfl, fun _ => by rw [a3, a4]; exact hS, fun z => (by rw [a2] at z; cases z)⟩)
    · have hnx := r_next G (d + 32) (b := b) hx1 hS.ok (by rw [a1]; decide)
      have hQ2 : ∀ v w, UQ T n I0 L0 b o1 j ((es0 ++ [e]) ++ es1) v w → Q v w := by
        intro v w hv
        subst a3
        cases o with
        | true =>
          rw [List.append_assoc] at hv
          rw [a4 rfl] at hQ
          exact hQ v w hv
        | false => exact hQ v w hv.any
      refine wp_aload_n rfl rfl ?_
      refine wp_bipush (v := 59) rfl rfl ?_
      refine cV1 rfl l_11_278 i_X11_isSign m_X11_isSign (by first | rfl | assumption) (by decide) (hsg) rfl (Nat.le_of_ble_eq_true rfl) ?_
      refine wp_if_eq 49 rfl rfl (fun h43 => absurd h43 (fun z => (b2_eq.mp z) a1)) (fun _ => ?_)
      refine wp_aload_n rfl rfl ?_
      refine cVr rfl l_11_261 i_X11_next m_X11_next (by first | rfl | assumption) (by decide) (hnx) rfl (Nat.le_of_ble_eq_true rfl) (fun r45 w45 hq45 => ?_)
      obtain ⟨rfl, J2, L2, rfl, hR2⟩ := hq45
      refine wp_aload_n rfl rfl ?_
      refine cVr rfl l_11_322 i_X11_rule m_X11_rule (by first | rfl | assumption) (by decide) (u_all G d hx (hS.nx hR2) (by omega) a2) rfl (Nat.le_of_ble_eq_true rfl) (fun r47 w47 hq47 => ?_)
      obtain ⟨rfl, J3, L3, rfl, hc⟩ := hq47
      refine wp_goto 40 rfl rfl ?_
      rcases hc with ⟨k1, k2⟩ | ⟨r2, e2, j2, k1, k2, k3⟩
      · exact v_bad J3 L3 k2 (es := (es0 ++ [e]) ++ es1) (fun v w z => hQ2 v w (by rw [k1]; exact z))
      · have kr : r2 = r := by omega
        subst kr
        exact ih e2 j2 (es0 ++ [e]) o1 j es1 J3 L3 Q (by omega) k2 k3 hQ2
    · have n0 : ¬ J 72 46 = 0 := by rw [e46]; exact fun z => a1 (srt_0.mp z)
      refine wp_aload_n rfl rfl ?_
      refine wp_bipush (v := 59) rfl rfl ?_
      refine cV1 rfl l_11_278 i_X11_isSign m_X11_isSign (by first | rfl | assumption) (by decide) (hsg) rfl (Nat.le_of_ble_eq_true rfl) ?_
      refine wp_if_eq 49 rfl rfl (fun _ => ?_) (fun h43 => absurd (b2_f a2) h43)
      refine wp_aload_n rfl rfl ?_
      refine q_geti rfl rfl (by first | rfl | assumption) rfl ?_
      refine wp_if_eq 54 rfl rfl (fun h51 => absurd h51 n0) (fun _ => ?_)
      refine wp_aload_n rfl rfl ?_
      refine cVr rfl l_11_258 i_X11_bad m_X11_bad (by first | rfl | assumption) (by decide) (r_bad G _ hS.ok) rfl (Nat.le_of_ble_eq_true rfl) (fun r53 w53 hq53 => ?_)
      obtain ⟨rfl, J2, rfl, hB⟩ := hq53
      exact wp_vret rfl rfl (hQ _ _ ⟨rfl, J2, L, rfl, fun z => (by rw [a3] at z; cases z), fun _ => by rw [a4]; exact SB.of hS.1 hB⟩)
/-- what a reading leaves -/
def VQ (T : Nat → Int32) (n : Nat) (I : IF) (L : LF) (b o : Bool) (j : Nat) (es : List RE) (r : Option Value) (w : mW) : Prop := r = none ∧ ∃ J L2, w = (J, L2, RR b) ∧ ((∀ a, a ≠ 72 → J a = I a) ∧ (∀ k, k ≠ 37 → (k < 42 ∨ 53 < k) → J 72 k = I 72 k) ∧ ∀ a, a ≠ 72 → L2 a = L a) ∧ (o = true → J 72 52 = 0 ∧ J 72 37 = I 72 37 ∧ J 72 48 = nI es.length ∧ J 72 49 = cpr es ∧ L2 72 51 = (gst (L 101) es).2) ∧ (o = false → J 72 52 = 1 ∧ J 72 37 = nI (ps T n j))
theorem c_X11_reads (G : Gl) (d : Nat) {T : Nat → Int32} {n t f0 j : Nat} {o b : Bool} {es : List RE} (I : IF) (L : LF) (ht : t ≤ 1) (hn : n ≤ 300) (h98 : I 98 t = nI n) (h97 : ∀ k, k < n → I 97 (300 * t + k) = T k) (hp : prT (KK T n) f0 = some (o, j, es)) : MQ2 G (d + 34) Y_X11_reads [.ref 72, .int (nI t)] (I, L, RR b) (VQ T n I L b o j es) := by
  have hin : vp_in (nI t) 2 := vp_in_nI (by omega) (by omega)
  have hcl : (nI t).toNatClampNeg = t := nI_clamp (by omega)
  have hrow : (300 : Int32) * nI t = nI (300 * t) := pk_mul 300 t
  unfold prT at hp
  generalize hI1 : uI (uI (uI (uI (uI (uI (uI (uI I 72 42 (nI (300 * t))) 72 43 (nI n)) 72 44 0) 72 47 0) 72 48 0) 72 49 (-1)) 72 52 0) 72 53 0 = I1
  have fo : ∀ a, a ≠ 72 → I1 a = I a := fun a ha => by rw [← hI1, uI_fn ha, uI_fn ha, uI_fn ha, uI_fn ha, uI_fn ha, uI_fn ha, uI_fn ha, uI_fn ha]
  have fk : ∀ k, (k < 42 ∨ 53 < k) → I1 72 k = I 72 k := fun k hk => by rw [← hI1, uI_nk (by omega), uI_nk (by omega), uI_nk (by omega), uI_nk (by omega), uI_nk (by omega), uI_nk (by omega), uI_nk (by omega), uI_nk (by omega)]
  have v42 : I1 72 42 = nI (300 * t) := by rw [← hI1]; simp (disch := omega) only [uI_nk, uI_eq]
  have v43 : I1 72 43 = nI n := by rw [← hI1]; simp (disch := omega) only [uI_nk, uI_eq]
  have v44 : I1 72 44 = nI 0 := by rw [← hI1]; simp (disch := omega) only [uI_nk, uI_eq]; rfl
  have v47 : I1 72 47 = 0 := by rw [← hI1]; simp (disch := omega) only [uI_nk, uI_eq]
  have v48 : I1 72 48 = 0 := by rw [← hI1]; simp (disch := omega) only [uI_nk, uI_eq]
  have v49 : I1 72 49 = -1 := by rw [← hI1]; simp (disch := omega) only [uI_nk, uI_eq]
  have v52 : I1 72 52 = 0 := by rw [← hI1]; simp (disch := omega) only [uI_nk, uI_eq]
  have v53 : I1 72 53 = 0 := by rw [← hI1]; simp (disch := omega) only [uI_nk, uI_eq]
  have hx : RTX T n t I1 := ⟨ht, hn, v42, v43, fun k hk => by rw [fo 97 (by decide)]; exact h97 k hk⟩
  have hnx := c_X11_next G (d + 32) I1 (uL L 72 51 0) b hx v44 (Nat.zero_le _)
  have e101 : uL L 72 51 0 101 = L 101 := uL_fn (by decide)
  have fin : ∀ v w, UQ T n I1 (uL L 72 51 0) b o j es v w → VQ T n I L b o j es v w := by
    intro v w hu
    obtain ⟨u1, J, L2, u2, u3, u4⟩ := hu
    have fr : ∀ {J : IF} {L2 : LF}, RX I1 (uL L 72 51 0) J L2 → (∀ a, a ≠ 72 → J a = I a) ∧ (∀ k, k ≠ 37 → (k < 42 ∨ 53 < k) → J 72 k = I 72 k) ∧ ∀ a, a ≠ 72 → L2 a = L a := fun {J L2} hX => ⟨fun a ha => by rw [hX.1 a ha]; exact fo a ha, fun k k1 k2 => by rw [hX.2.1 k k1 (by omega) (by omega) (by omega)]; exact fk k k2, fun a ha => by rw [hX.2.2.1 a ha, uL_fn ha]⟩
    cases o with
    | true =>
      obtain ⟨s1, s2, s3, s4, s5, s6, s7, s8, s9⟩ := u3 rfl
      rw [e101] at s9
      exact ⟨u1, J, L2, u2, fr s1, fun _ => ⟨s4, by rw [s5]; exact fk 37 (by omega), s6, s7, s9⟩, nofun⟩
    | false =>
      obtain ⟨s1, s2, s3⟩ := u4 rfl
      exact ⟨u1, J, L2, u2, fr s1, nofun, fun _ => ⟨s2, s3⟩⟩
  refine MT.intro m_X11_reads rfl (Nat.le_of_ble_eq_true rfl) ?_
  show WQ G (d + 34) Y_X11_reads _ 0 [(0, .ref 72), (1, .int (nI t))] [] (I, L, RR b)
  refine wp_aload_n rfl rfl ?_
  refine wp_sipush (v := 300) rfl rfl ?_
  refine wp_iload_n rfl rfl ?_
  refine wp_imul rfl ?_
  rw [hrow]
  refine q_puti rfl rfl (by first | rfl | assumption) (Or.inl rfl) rfl ?_
  refine wp_aload_n rfl rfl ?_
  refine wp_aload_n rfl rfl ?_
  refine q_getr rfl rfl (by first | rfl | assumption) rfl rfl ?_
  refine wp_iload_n rfl rfl ?_
  refine q_iald rfl (by first | rfl | assumption) hin ?_
  rw [hcl, show uI I 72 42 (nI (300 * t)) 98 t = nI n by rw [uI_ne (by decide)]; exact h98]
  refine q_puti rfl rfl (by first | rfl | assumption) (Or.inl rfl) rfl ?_
  refine wp_aload_n rfl rfl ?_
  refine wp_iconst (v := 0) rfl rfl ?_
  refine q_puti rfl rfl (by first | rfl | assumption) (Or.inl rfl) rfl ?_
  refine wp_aload_n rfl rfl ?_
  refine wp_iconst (v := 0) rfl rfl ?_
  refine q_puti rfl rfl (by first | rfl | assumption) (Or.inl rfl) rfl ?_
  refine wp_aload_n rfl rfl ?_
  refine wp_iconst (v := 0) rfl rfl ?_
  refine q_puti rfl rfl (by first | rfl | assumption) (Or.inl rfl) rfl ?_
  refine wp_aload_n rfl rfl ?_
  refine wp_iconst (v := (-1)) rfl rfl ?_
  refine q_puti rfl rfl (by first | rfl | assumption) (Or.inl rfl) rfl ?_
  refine wp_aload_n rfl rfl ?_
  refine wp_lconst (v := 0) rfl rfl ?_
  refine q_putl rfl rfl (by first | rfl | assumption) (Or.inl rfl) rfl ?_
  refine wp_aload_n rfl rfl ?_
  refine wp_iconst (v := 0) rfl rfl ?_
  refine q_putz rfl rfl (by first | rfl | assumption) (Or.inl rfl) rfl (Or.inl rfl) ?_
  refine wp_aload_n rfl rfl ?_
  refine wp_iconst (v := 0) rfl rfl ?_
  refine q_putz rfl rfl (by first | rfl | assumption) (Or.inl rfl) rfl (Or.inl rfl) ?_
  rw [show uI (uI (uI (uI (uI (uI (uI (uI I 72 42 (nI (300 * t))) 72 43 (nI n)) 72 44 0) 72 47 0) 72 48 0) 72 49 (-1)) 72 52 0) 72 53 0 = I1 from hI1]
  refine wp_aload_n rfl rfl ?_
  refine cVr rfl l_11_261 i_X11_next m_X11_next (by first | rfl | assumption) (by decide) (hnx) rfl (Nat.le_of_ble_eq_true rfl) (fun r33 w33 hq33 => ?_)
  obtain ⟨rfl, J, L2, rfl, hF, hT⟩ := hq33
  have hS : ST T n I1 (uL L 72 51 0) 0 [] J L2 := ⟨⟨hF.1, fun k _ k2 _ _ => hF.2.1 k (by omega) (by omega) (by omega), hF.2.2.1, fun k k1 _ => hF.2.2.2 k k1⟩, hT, by rw [hF.2.1 47 (by decide) (by decide) (by decide)]; exact v47, by rw [hF.2.1 52 (by decide) (by decide) (by decide)]; exact v52, hF.2.1 37 (by decide) (by decide) (by decide), by rw [hF.2.1 48 (by decide) (by decide) (by decide)]; exact v48, by rw [hF.2.1 49 (by decide) (by decide) (by decide)]; exact v49, by rw [hF.2.1 53 (by decide) (by decide) (by decide)]; exact v53, by rw [hF.2.2.2 51 (by decide)]; exact uL_eq⟩
  have e46 : J 72 46 = srt T n (ps T n 0) := hS.2.1.2.2.1
  refine wp_aload_n rfl rfl ?_
  refine q_geti rfl rfl (by first | rfl | assumption) rfl ?_
  refine wp_if_ne 38 rfl rfl (fun h36 => ?_) (fun h36 => ?_)
  · refine wp_aload_n rfl rfl ?_
    refine cVr rfl l_11_322 i_X11_rule m_X11_rule (by first | rfl | assumption) (by decide) (u_all G d hx hS (r := 10) rfl (by rw [if_neg (fun z => h36 (show J 72 46 = 0 by rw [e46]; exact srt_0.mpr z))] at hp; exact hp)) rfl (Nat.le_of_ble_eq_true rfl) (fun r39 w39 hq39 => ?_)
    obtain ⟨rfl, J3, L3, rfl, hc⟩ := hq39
    rcases hc with ⟨k1, k2⟩ | ⟨r2, e2, j2, k1, k2, k3⟩
    · exact v_bad J3 L3 k2 (es := es) (fun v w z => fin v w (by rw [k1]; exact z))
    · have kr : r2 = 9 := by omega
      subst kr
      exact v_loop hx 9 e2 j2 [] o j es J3 L3 _ rfl k2 k3 fin
  · have k0 : KK T n 0 = -100 := srt_0.mp (by rw [← e46]; exact h36)
    rw [if_pos k0] at hp
    cases hp
    exact wp_vret rfl rfl (fin _ _ ⟨rfl, J, L2, rfl, fun _ => hS, nofun⟩)
