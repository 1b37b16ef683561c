/-! the reference's conditions and rules -/
theorem all_eq {a : Bool} {c s : Int32} {v w : Int64} (hc : (c = 0 ∧ s = -60) ∨ (c = 1 ∧ s = -62) ∨ (c = 2 ∧ s = -61)) :
    (bI a = 0 → (0 : Int32) = bI (a && cmpB s v w)) ∧ (¬ bI a = 0 → c = 0 → 0 ≤ lg_cmp v w → (0 : Int32) = bI (a && cmpB s v w)) ∧ (¬ bI a = 0 → c = 0 → ¬ 0 ≤ lg_cmp v w → (1 : Int32) = bI (a && cmpB s v w)) ∧ (¬ bI a = 0 → ¬ c = 0 → c = 1 → lg_cmp v w ≤ 0 → (0 : Int32) = bI (a && cmpB s v w)) ∧ (¬ bI a = 0 → ¬ c = 0 → c = 1 → ¬ lg_cmp v w ≤ 0 → (1 : Int32) = bI (a && cmpB s v w)) ∧ (¬ bI a = 0 → ¬ c = 0 → ¬ c = 1 → ¬ lg_cmp v w = 0 → (0 : Int32) = bI (a && cmpB s v w)) ∧ (¬ bI a = 0 → ¬ c = 0 → ¬ c = 1 → lg_cmp v w = 0 → (1 : Int32) = bI (a && cmpB s v w)) := by
  have s0 : c = 0 → s = -60 := fun z => by rcases hc with ⟨e1, e2⟩ | ⟨e1, e2⟩ | ⟨e1, e2⟩ <;> first | exact e2 | (rw [e1] at z; exact absurd z (by decide))
  have s1 : c = 1 → s = -62 := fun z => by rcases hc with ⟨e1, e2⟩ | ⟨e1, e2⟩ | ⟨e1, e2⟩ <;> first | exact e2 | (rw [e1] at z; exact absurd z (by decide))
  have s2 : ¬ c = 0 → ¬ c = 1 → s = -61 := fun z y => by rcases hc with ⟨e1, e2⟩ | ⟨e1, e2⟩ | ⟨e1, e2⟩ <;> first | exact e2 | exact absurd e1 z | exact absurd e1 y
  have m0 : cmpB (-60) v w = decide (v < w) := rfl
  have m1 : cmpB (-62) v w = decide (w < v) := rfl
  have m2 : cmpB (-61) v w = decide (v = w) := rfl
  cases a with
  | false => exact ⟨fun _ => rfl, fun z => absurd rfl z, fun z => absurd rfl z, fun z => absurd rfl z, fun z => absurd rfl z, fun z => absurd rfl z, fun z => absurd rfl z⟩
  | true =>
    rw [Bool.true_and]
    refine ⟨fun z => absurd z (by decide), fun _ z y => ?_, fun _ z y => ?_, fun _ _ z y => ?_, fun _ _ z y => ?_, fun _ z1 z2 y => ?_, fun _ z1 z2 y => ?_⟩
    · rw [s0 z, m0, decide_eq_false (by have := lgc_ge.mp y; grind)]; rfl
    · rw [s0 z, m0, decide_eq_true (by have := mt lgc_ge.mpr y; grind)]; rfl
    · rw [s1 z, m1, decide_eq_false (by have := lgc_le.mp y; grind)]; rfl
    · rw [s1 z, m1, decide_eq_true (by have := mt lgc_le.mpr y; grind)]; rfl
    · rw [s2 z1 z2, m2, decide_eq_false (fun q => y (lgc_eq.mpr q))]; rfl
    · rw [s2 z1 z2, m2, decide_eq_true (lgc_eq.mp y)]; rfl
def DQ (T : Nat → Int32) (n : Nat) (I0 : IF) (L0 : LF) (b : Bool) (o : Bool) (j : Nat) (cd : List Int32) (r : Option Value) (w : mW) : Prop := ∃ a J L, r = some (.int (bI a)) ∧ w = (J, L, RR b) ∧ (o = true → ROK T n I0 L0 0 j J L ∧ CV (L0 101) cd a) ∧ (o = false → RBD T n I0 L0 j J L)
theorem nbI (a : Bool) : narrow .boolean (.int (bI a)) = .int (bI a) := by cases a <;> rfl
theorem rrd_C {G : Gl} {b : Bool} {T : Nat → Int32} {n t f0 d : Nat} {I0 : IF} {L0 : LF} (hx : RTX T n t I0) (hd : 30 ≤ d) : ∀ f i o j cd J L c0 a, prC (KK T n) f0 f i = some (o, j, cd) → ¬ KK T n i = -100 → ROK T n I0 L0 0 i J L → CV (L0 101) c0 a → WQ G (d + 1 + 1) Y_X11_conds (DQ T n I0 L0 b o j (c0 ++ cd)) 4 [(0, .ref 72), (1, .int (bI a)), (2, .int 1)] [] (J, L, RR b) := by
  have sm : ∀ i o j cd J L, prs (KK T n) f0 3 0 i = some (o, j, cd) → ROK T n I0 L0 0 i J L → MQ2 G (d + 1) Y_X11_sum [.ref 72] (J, L, RR b) (SQ T n I0 L0 b 0 o j 19 cd) := fun i o j cd J L h1 h2 => (rrd (G := G) (b := b) (L0 := L0) hx f0).2.2.2.1 0 i o j cd d J L (by omega) h1 (by omega) h2
  obtain ⟨d3, hd3⟩ : ∃ d3, d + 1 = d3 + 4 := ⟨d - 3, by omega⟩
  have Kz : ∀ (x : Bool) (j : Nat) (cd : List Int32) (J : IF) (L : LF), RBD T n I0 L0 j J L → WQ G (d + 1 + 1) Y_X11_conds (DQ T n I0 L0 b false j cd) 4 [(0, .ref 72), (1, .int (bI x)), (2, .int 0)] [] (J, L, RR b) := by
    intro x j cd J L hB
    refine wp_iload_n rfl rfl ?_
    refine wp_if_eq 73 rfl rfl (fun _ => ?_) (fun h5 => absurd rfl h5)
    refine wp_iload_n rfl rfl ?_
    exact wp_zret rfl rfl (nbI _) (⟨x, J, L, rfl, rfl, nofun, fun _ => hB⟩)
  intro f
  induction f with
  | zero => intro i o j cd J L c0 a h; cases h
  | succ f ih =>
    intro i o j cd J L c0 a h hK hR hV
    have hnx := r_next G d (b := b) hx hR hK
    rcases prC_i h with ⟨c1, g1, g2⟩ | ⟨j1, c1, g1, g2⟩
    · subst g2
      refine wp_iload_n rfl rfl ?_
      refine wp_if_eq 73 rfl rfl (fun h5 => absurd h5 (by decide)) (fun _ => ?_)
      refine wp_aload_n rfl rfl ?_
      refine cVr rfl l_11_261 i_X11_next m_X11_next (by first | rfl | assumption) (by decide) (hnx) rfl (Nat.le_of_ble_eq_true rfl) (fun r7 w7 hq7 => ?_)
      obtain ⟨rfl, J2, L2, rfl, hR2⟩ := hq7
      refine wp_aload_n rfl rfl ?_
      refine cVr rfl l_11_284 i_X11_sum m_X11_sum (by first | rfl | assumption) (by decide) (sm (i + 1) _ _ _ _ _ g1 hR2) rfl (Nat.le_of_ble_eq_true rfl) (fun r9 w9 hq9 => ?_)
      obtain ⟨v, J3, L3, rfl, rfl, -, hf⟩ := hq9
      have hB := hf rfl
      refine wp_lstore_n (lv' := [(3, _), (0, _), (1, _), (2, _)]) rfl rfl (by decide) rfl ?_
      refine wp_aload_n rfl rfl ?_
      refine wp_bipush (v := 60) rfl rfl ?_
      refine cV1 rfl l_11_278 i_X11_isSign m_X11_isSign (by first | rfl | assumption) (by decide) (r_sign0 G _ _ hB) rfl (Nat.le_of_ble_eq_true rfl) ?_
      refine wp_if_eq 17 rfl rfl (fun _ => ?_) (fun h14 => absurd rfl h14)
      refine wp_aload_n rfl rfl ?_
      refine wp_bipush (v := 62) rfl rfl ?_
      refine cV1 rfl l_11_278 i_X11_isSign m_X11_isSign (by first | rfl | assumption) (by decide) (r_sign0 G _ _ hB) rfl (Nat.le_of_ble_eq_true rfl) ?_
      refine wp_if_eq 23 rfl rfl (fun _ => ?_) (fun h20 => absurd rfl h20)
      refine wp_aload_n rfl rfl ?_
      refine wp_bipush (v := 61) rfl rfl ?_
      refine cV1 rfl l_11_278 i_X11_isSign m_X11_isSign (by first | rfl | assumption) (by decide) (r_sign0 G _ _ hB) rfl (Nat.le_of_ble_eq_true rfl) ?_
      refine wp_if_eq 29 rfl rfl (fun _ => ?_) (fun h26 => absurd rfl h26)
      refine wp_iconst (v := (-1)) rfl rfl ?_
      refine wp_istore (lv' := [(5, _), (3, _), (0, _), (1, _), (2, _)]) rfl (by decide) rfl ?_
      refine wp_iload rfl rfl ?_
      refine wp_iconst (v := (-1)) rfl rfl ?_
      refine wp_icmp_ne 38 rfl rfl (fun h33 => absurd h33 (fun z => z rfl)) (fun _ => ?_)
      refine wp_aload_n rfl rfl ?_
      refine cVr rfl l_11_258 i_X11_bad m_X11_bad (by first | rfl | assumption) (by decide) (r_bad2 G _ hB) rfl (Nat.le_of_ble_eq_true rfl) (fun r35 w35 hq35 => ?_)
      obtain ⟨rfl, J4, rfl, hB4⟩ := hq35
      refine wp_iconst (v := 0) rfl rfl ?_
      exact wp_zret rfl rfl (by first | rfl | exact nb2 _ | assumption) (⟨false, J4, L3, rfl, rfl, nofun, fun _ => hB4⟩)
    · rcases g2 with ⟨nc, e2, e3⟩ | ⟨hc, g2⟩
      · rw [e2, e3]
        have n1 : ¬ KK T n j1 = -60 := fun z => nc (Or.inl z)
        have n2 : ¬ KK T n j1 = -62 := fun z => nc (Or.inr (Or.inl z))
        have n3 : ¬ KK T n j1 = -61 := fun z => nc (Or.inr (Or.inr z))
        refine wp_iload_n rfl rfl ?_
        refine wp_if_eq 73 rfl rfl (fun h5 => absurd h5 (by decide)) (fun _ => ?_)
        refine wp_aload_n rfl rfl ?_
        refine cVr rfl l_11_261 i_X11_next m_X11_next (by first | rfl | assumption) (by decide) (hnx) rfl (Nat.le_of_ble_eq_true rfl) (fun r7 w7 hq7 => ?_)
        obtain ⟨rfl, J2, L2, rfl, hR2⟩ := hq7
        refine wp_aload_n rfl rfl ?_
        refine cVr rfl l_11_284 i_X11_sum m_X11_sum (by first | rfl | assumption) (by decide) (sm (i + 1) _ _ _ _ _ g1 hR2) rfl (Nat.le_of_ble_eq_true rfl) (fun r9 w9 hq9 => ?_)
        obtain ⟨v, J3, L3, rfl, rfl, ht, -⟩ := hq9
        have hR3 := (ht rfl).1
        refine wp_lstore_n (lv' := [(3, _), (0, _), (1, _), (2, _)]) rfl rfl (by decide) rfl ?_
        refine wp_aload_n rfl rfl ?_
        refine wp_bipush (v := 60) rfl rfl ?_
        refine cV1 rfl l_11_278 i_X11_isSign m_X11_isSign (by first | rfl | assumption) (by decide) (r_sign G d (c := 60) (v := -60) hx hR3 (by decide) (by decide)) rfl (Nat.le_of_ble_eq_true rfl) ?_
        refine wp_if_eq 17 rfl rfl (fun _ => ?_) (fun h14 => absurd (b2_f n1) h14)
        refine wp_aload_n rfl rfl ?_
        refine wp_bipush (v := 62) rfl rfl ?_
        refine cV1 rfl l_11_278 i_X11_isSign m_X11_isSign (by first | rfl | assumption) (by decide) (r_sign G d (c := 62) (v := -62) hx hR3 (by decide) (by decide)) rfl (Nat.le_of_ble_eq_true rfl) ?_
        refine wp_if_eq 23 rfl rfl (fun _ => ?_) (fun h20 => absurd (b2_f n2) h20)
        refine wp_aload_n rfl rfl ?_
        refine wp_bipush (v := 61) rfl rfl ?_
        refine cV1 rfl l_11_278 i_X11_isSign m_X11_isSign (by first | rfl | assumption) (by decide) (r_sign G d (c := 61) (v := -61) hx hR3 (by decide) (by decide)) rfl (Nat.le_of_ble_eq_true rfl) ?_
        refine wp_if_eq 29 rfl rfl (fun _ => ?_) (fun h26 => absurd (b2_f n3) h26)
        refine wp_iconst (v := (-1)) rfl rfl ?_
        refine wp_istore (lv' := [(5, _), (3, _), (0, _), (1, _), (2, _)]) rfl (by decide) rfl ?_
        refine wp_iload rfl rfl ?_
        refine wp_iconst (v := (-1)) rfl rfl ?_
        refine wp_icmp_ne 38 rfl rfl (fun h33 => absurd h33 (fun z => z rfl)) (fun _ => ?_)
        refine wp_aload_n rfl rfl ?_
        refine cVr rfl l_11_258 i_X11_bad m_X11_bad (by first | rfl | assumption) (by decide) (r_bad G _ hR3) rfl (Nat.le_of_ble_eq_true rfl) (fun r35 w35 hq35 => ?_)
        obtain ⟨rfl, J4, rfl, hB4⟩ := hq35
        refine wp_iconst (v := 0) rfl rfl ?_
        exact wp_zret rfl rfl (by first | rfl | exact nb2 _ | assumption) (⟨false, J4, L3, rfl, rfl, nofun, fun _ => hB4⟩)
      · have K30 : ∀ (c : Int32) (v : Int64) (J3 : IF) (L3 : LF), ((c = 0 ∧ KK T n j1 = -60) ∨ (c = 1 ∧ KK T n j1 = -62) ∨ (c = 2 ∧ KK T n j1 = -61)) → ROK T n I0 L0 0 j1 J3 L3 → RV (L0 101) 19 c1 v → WQ G (d + 1 + 1) Y_X11_conds (DQ T n I0 L0 b o j (c0 ++ cd)) 30 [(0, .ref 72), (1, .int (bI a)), (2, .int 1), (3, .long v)] [.int c] (J3, L3, RR b) := by
          intro c v J3 L3 hcc hR3 hv1
          have hcn : ¬ c = -1 := by rcases hcc with ⟨e, _⟩ | ⟨e, _⟩ | ⟨e, _⟩ <;> rw [e] <;> decide
          have hK3 : ¬ KK T n j1 = -100 := isC_no hc
          have hnx3 := r_next G d (b := b) hx hR3 hK3
          have K43 : ∀ (w : Int64) (J4 : IF) (L4 : LF), WQ G (d + 1 + 1) Y_X11_conds (DQ T n I0 L0 b o j (c0 ++ cd)) 68 [(0, .ref 72), (1, .int (bI (a && cmpB (KK T n j1) v w)))] [] (J4, L4, RR b) → WQ G (d + 1 + 1) Y_X11_conds (DQ T n I0 L0 b o j (c0 ++ cd)) 43 [(0, .ref 72), (1, .int (bI a)), (3, .long v), (5, .int c), (6, .long w)] [] (J4, L4, RR b) := by
            intro w J4 L4 K68
            obtain ⟨q1, q2, q3, q4, q5, q6, q7⟩ := all_eq (a := a) (v := v) (w := w) hcc
            have K67 : ∀ x : Int32, x = bI (a && cmpB (KK T n j1) v w) → WQ G (d + 1 + 1) Y_X11_conds (DQ T n I0 L0 b o j (c0 ++ cd)) 67 [(0, .ref 72), (1, .int (bI a)), (3, .long v), (5, .int c), (6, .long w)] [.int x] (J4, L4, RR b) := by
              intro x e
              rw [e]
              refine wp_istore_n (lv' := [(1, _), (0, _), (3, _), (5, _), (6, _)]) rfl rfl (by decide) rfl ?_
              refine wp_loc (lv' := [(0, _), (1, _)]) [1, 0] rfl ?_
              exact K68
            refine wp_iload_n rfl rfl ?_
            refine wp_if_eq 66 rfl rfl (fun h44 => ?_) (fun h44 => ?_)
            · refine wp_iconst (v := 0) rfl rfl ?_
              exact K67 _ (by first | exact q1 (by assumption) | exact q2 (by assumption) (by assumption) (by assumption) | exact q3 (by assumption) (by assumption) (by assumption) | exact q4 (by assumption) (by assumption) (by assumption) (by assumption) | exact q5 (by assumption) (by assumption) (by assumption) (by assumption) | exact q6 (by assumption) (by assumption) (by assumption) (by assumption) | exact q7 (by assumption) (by assumption) (by assumption) (by assumption))
            · refine wp_iload rfl rfl ?_
              refine wp_if_ne 52 rfl rfl (fun h46 => ?_) (fun h46 => ?_)
              · refine wp_iload rfl rfl ?_
                refine wp_iconst (v := 1) rfl rfl ?_
                refine wp_icmp_ne 60 rfl rfl (fun h54 => ?_) (fun h54 => ?_)
                · refine wp_lload_n rfl rfl ?_
                  refine wp_lload rfl rfl ?_
                  refine wp_lcmp rfl ?_
                  refine wp_if_ne 66 rfl rfl (fun h63 => ?_) (fun h63 => ?_)
                  · refine wp_iconst (v := 0) rfl rfl ?_
                    exact K67 _ (by first | exact q1 (by assumption) | exact q2 (by assumption) (by assumption) (by assumption) | exact q3 (by assumption) (by assumption) (by assumption) | exact q4 (by assumption) (by assumption) (by assumption) (by assumption) | exact q5 (by assumption) (by assumption) (by assumption) (by assumption) | exact q6 (by assumption) (by assumption) (by assumption) (by assumption) | exact q7 (by assumption) (by assumption) (by assumption) (by assumption))
                  · refine wp_iconst (v := 1) rfl rfl ?_
                    refine wp_goto 67 rfl rfl ?_
                    exact K67 _ (by first | exact q1 (by assumption) | exact q2 (by assumption) (by assumption) (by assumption) | exact q3 (by assumption) (by assumption) (by assumption) | exact q4 (by assumption) (by assumption) (by assumption) (by assumption) | exact q5 (by assumption) (by assumption) (by assumption) (by assumption) | exact q6 (by assumption) (by assumption) (by assumption) (by assumption) | exact q7 (by assumption) (by assumption) (by assumption) (by assumption))
                · refine wp_lload_n rfl rfl ?_
                  refine wp_lload rfl rfl ?_
                  refine wp_lcmp rfl ?_
                  refine wp_if_le 66 rfl rfl (fun h58 => ?_) (fun h58 => ?_)
                  · refine wp_iconst (v := 0) rfl rfl ?_
                    exact K67 _ (by first | exact q1 (by assumption) | exact q2 (by assumption) (by assumption) (by assumption) | exact q3 (by assumption) (by assumption) (by assumption) | exact q4 (by assumption) (by assumption) (by assumption) (by assumption) | exact q5 (by assumption) (by assumption) (by assumption) (by assumption) | exact q6 (by assumption) (by assumption) (by assumption) (by assumption) | exact q7 (by assumption) (by assumption) (by assumption) (by assumption))
                  · refine wp_goto 64 rfl rfl ?_
                    refine wp_iconst (v := 1) rfl rfl ?_
                    refine wp_goto 67 rfl rfl ?_
                    exact K67 _ (by first | exact q1 (by assumption) | exact q2 (by assumption) (by assumption) (by assumption) | exact q3 (by assumption) (by assumption) (by assumption) | exact q4 (by assumption) (by assumption) (by assumption) (by assumption) | exact q5 (by assumption) (by assumption) (by assumption) (by assumption) | exact q6 (by assumption) (by assumption) (by assumption) (by assumption) | exact q7 (by assumption) (by assumption) (by assumption) (by assumption))
              · refine wp_lload_n rfl rfl ?_
                refine wp_lload rfl rfl ?_
                refine wp_lcmp rfl ?_
                refine wp_if_ge 66 rfl rfl (fun h50 => ?_) (fun h50 => ?_)
                · refine wp_iconst (v := 0) rfl rfl ?_
                  exact K67 _ (by first | exact q1 (by assumption) | exact q2 (by assumption) (by assumption) (by assumption) | exact q3 (by assumption) (by assumption) (by assumption) | exact q4 (by assumption) (by assumption) (by assumption) (by assumption) | exact q5 (by assumption) (by assumption) (by assumption) (by assumption) | exact q6 (by assumption) (by assumption) (by assumption) (by assumption) | exact q7 (by assumption) (by assumption) (by assumption) (by assumption))
                · refine wp_goto 64 rfl rfl ?_
                  refine wp_iconst (v := 1) rfl rfl ?_
                  refine wp_goto 67 rfl rfl ?_
                  exact K67 _ (by first | exact q1 (by assumption) | exact q2 (by assumption) (by assumption) (by assumption) | exact q3 (by assumption) (by assumption) (by assumption) | exact q4 (by assumption) (by assumption) (by assumption) (by assumption) | exact q5 (by assumption) (by assumption) (by assumption) (by assumption) | exact q6 (by assumption) (by assumption) (by assumption) (by assumption) | exact q7 (by assumption) (by assumption) (by assumption) (by assumption))
          rcases g2 with ⟨c2, k1, k2⟩ | ⟨j2, c2, k1, k2⟩
          · subst k2
            have K68 : ∀ (x : Bool) (J4 : IF) (L4 : LF), RBD T n I0 L0 j J4 L4 → WQ G (d + 1 + 1) Y_X11_conds (DQ T n I0 L0 b false j (c0 ++ cd)) 68 [(0, .ref 72), (1, .int (bI x))] [] (J4, L4, RR b) := by
              intro x J4 L4 hB
              refine wp_aload_n rfl rfl ?_
              refine wp_ldcT (tx := "and") rfl (List.mem_of_getElem? (i := 19) rfl) ?_
              refine cV1 rfl l_11_268 i_X11_is m_X11_is (by first | rfl | assumption) (by decide) (r_is0 G _ _ hB) rfl (Nat.le_of_ble_eq_true rfl) ?_
              refine wp_istore_n (lv' := [(2, _), (0, _), (1, _)]) rfl rfl (by decide) rfl ?_
              refine wp_goto 4 rfl rfl ?_
              refine wp_loc (lv' := [(0, _), (1, _), (2, _)]) [1, 2, 0] rfl ?_
              exact Kz x j _ J4 L4 hB
            refine wp_istore (lv' := [(5, _), (0, _), (1, _), (2, _), (3, _)]) rfl (by decide) rfl ?_
            refine wp_iload rfl rfl ?_
            refine wp_iconst (v := (-1)) rfl rfl ?_
            refine wp_icmp_ne 38 rfl rfl (fun _ => ?_) (fun h33 => absurd h33 hcn)
            refine wp_aload_n rfl rfl ?_
            refine cVr rfl l_11_261 i_X11_next m_X11_next (by first | rfl | assumption) (by decide) (hnx3) rfl (Nat.le_of_ble_eq_true rfl) (fun r39 w39 hq39 => ?_)
            obtain ⟨rfl, J5, L5, rfl, hR5⟩ := hq39
            refine wp_aload_n rfl rfl ?_
            refine cVr rfl l_11_284 i_X11_sum m_X11_sum (by first | rfl | assumption) (by decide) (sm (j1 + 1) _ _ _ _ _ k1 hR5) rfl (Nat.le_of_ble_eq_true rfl) (fun r41 w41 hq41 => ?_)
            obtain ⟨w, J6, L6, rfl, rfl, -, hf⟩ := hq41
            refine wp_lstore (lv' := [(6, _), (5, _), (0, _), (1, _), (2, _), (3, _)]) rfl (by decide) rfl ?_
            refine wp_loc (lv' := [(0, _), (1, _), (3, _), (5, _), (6, _)]) [2, 3, 5, 1, 0] rfl ?_
            exact K43 w J6 L6 (K68 _ J6 L6 (hf rfl))
          · refine wp_istore (lv' := [(5, _), (0, _), (1, _), (2, _), (3, _)]) rfl (by decide) rfl ?_
            refine wp_iload rfl rfl ?_
            refine wp_iconst (v := (-1)) rfl rfl ?_
            refine wp_icmp_ne 38 rfl rfl (fun _ => ?_) (fun h33 => absurd h33 hcn)
            refine wp_aload_n rfl rfl ?_
            refine cVr rfl l_11_261 i_X11_next m_X11_next (by first | rfl | assumption) (by decide) (hnx3) rfl (Nat.le_of_ble_eq_true rfl) (fun r39 w39 hq39 => ?_)
            obtain ⟨rfl, J5, L5, rfl, hR5⟩ := hq39
            refine wp_aload_n rfl rfl ?_
            refine cVr rfl l_11_284 i_X11_sum m_X11_sum (by first | rfl | assumption) (by decide) (sm (j1 + 1) _ _ _ _ _ k1 hR5) rfl (Nat.le_of_ble_eq_true rfl) (fun r41 w41 hq41 => ?_)
            obtain ⟨w, J6, L6, rfl, rfl, ht6, -⟩ := hq41
            refine wp_lstore (lv' := [(6, _), (5, _), (0, _), (1, _), (2, _), (3, _)]) rfl (by decide) rfl ?_
            refine wp_loc (lv' := [(0, _), (1, _), (3, _), (5, _), (6, _)]) [2, 3, 5, 1, 0] rfl ?_
            refine K43 w J6 L6 ?_
            obtain ⟨hR6, hv2⟩ := ht6 rfl
            have hsn := hV.snoc (s := KK T n j1) hv1 hv2 hc
            have his := r_is G d3 (b := b) (j := 9) (v := -105) hx hR6 (by decide) (by decide)
            rw [← hd3] at his
            rcases k2 with ⟨w1, c3, w2, w3⟩ | ⟨w1, w2, w3, w4⟩
            · have hne : ¬ KK T n j2 = -100 := by rw [w1]; decide
              have hg := ih j2 _ _ _ _ _ _ _ w2 hne hR6 hsn
              rw [w3, ← List.append_assoc]
              rw [b2_t w1] at his
              refine wp_aload_n rfl rfl ?_
              refine wp_ldcT (tx := "and") rfl (List.mem_of_getElem? (i := 19) rfl) ?_
              refine cV1 rfl l_11_268 i_X11_is m_X11_is rfl (by decide) his rfl (Nat.le_of_ble_eq_true rfl) ?_
              refine wp_istore_n (lv' := [(2, _), (0, _), (1, _)]) rfl rfl (by decide) rfl ?_
              refine wp_goto 4 rfl rfl ?_
              refine wp_loc (lv' := [(0, _), (1, _), (2, _)]) [1, 2, 0] rfl ?_
              exact hg
            · rw [b2_f w1] at his
              rw [w2, w3, w4]
              refine wp_aload_n rfl rfl ?_
              refine wp_ldcT (tx := "and") rfl (List.mem_of_getElem? (i := 19) rfl) ?_
              refine cV1 rfl l_11_268 i_X11_is m_X11_is rfl (by decide) his rfl (Nat.le_of_ble_eq_true rfl) ?_
              refine wp_istore_n (lv' := [(2, _), (0, _), (1, _)]) rfl rfl (by decide) rfl ?_
              refine wp_goto 4 rfl rfl ?_
              refine wp_iload_n rfl rfl ?_
              refine wp_if_eq 73 rfl rfl (fun _ => ?_) (fun z => absurd rfl z)
              refine wp_iload_n rfl rfl ?_
              exact wp_zret rfl rfl (nbI _) ⟨_, J6, L6, rfl, rfl, fun _ => ⟨hR6, hsn⟩, nofun⟩
        have hcs : KK T n j1 = -60 ∨ KK T n j1 = -62 ∨ KK T n j1 = -61 := hc
        refine wp_iload_n rfl rfl ?_
        refine wp_if_eq 73 rfl rfl (fun h5 => absurd h5 (by decide)) (fun _ => ?_)
        refine wp_aload_n rfl rfl ?_
        refine cVr rfl l_11_261 i_X11_next m_X11_next (by first | rfl | assumption) (by decide) (hnx) rfl (Nat.le_of_ble_eq_true rfl) (fun r7 w7 hq7 => ?_)
        obtain ⟨rfl, J2, L2, rfl, hR2⟩ := hq7
        refine wp_aload_n rfl rfl ?_
        refine cVr rfl l_11_284 i_X11_sum m_X11_sum (by first | rfl | assumption) (by decide) (sm (i + 1) _ _ _ _ _ g1 hR2) rfl (Nat.le_of_ble_eq_true rfl) (fun r9 w9 hq9 => ?_)
        obtain ⟨v, J3, L3, rfl, rfl, ht, -⟩ := hq9
        obtain ⟨hR3, hv1⟩ := ht rfl
        refine wp_lstore_n (lv' := [(3, _), (0, _), (1, _), (2, _)]) rfl rfl (by decide) rfl ?_
        refine wp_aload_n rfl rfl ?_
        refine wp_bipush (v := 60) rfl rfl ?_
        refine cV1 rfl l_11_278 i_X11_isSign m_X11_isSign (by first | rfl | assumption) (by decide) (r_sign G d (c := 60) (v := -60) hx hR3 (by decide) (by decide)) rfl (Nat.le_of_ble_eq_true rfl) ?_
        refine wp_if_eq 17 rfl rfl (fun h14 => ?_) (fun h14 => ?_)
        · refine wp_aload_n rfl rfl ?_
          refine wp_bipush (v := 62) rfl rfl ?_
          refine cV1 rfl l_11_278 i_X11_isSign m_X11_isSign (by first | rfl | assumption) (by decide) (r_sign G d (c := 62) (v := -62) hx hR3 (by decide) (by decide)) rfl (Nat.le_of_ble_eq_true rfl) ?_
          refine wp_if_eq 23 rfl rfl (fun h20 => ?_) (fun h20 => ?_)
          · refine wp_aload_n rfl rfl ?_
            refine wp_bipush (v := 61) rfl rfl ?_
            refine cV1 rfl l_11_278 i_X11_isSign m_X11_isSign (by first | rfl | assumption) (by decide) (r_sign G d (c := 61) (v := -61) hx hR3 (by decide) (by decide)) rfl (Nat.le_of_ble_eq_true rfl) ?_
            refine wp_if_eq 29 rfl rfl (fun h26 => ?_) (fun h26 => ?_)
            · exact absurd hcs (fun z => z.elim (b2_eq.mp h14) (fun y => y.elim (b2_eq.mp h20) (b2_eq.mp h26)))
            · refine wp_iconst (v := 2) rfl rfl ?_
              refine wp_goto 30 rfl rfl ?_
              refine wp_loc (lv' := [(0, _), (1, _), (2, _), (3, _)]) [1, 2, 3, 0] rfl ?_
              exact K30 _ v J3 L3 (by first | exact Or.inl ⟨rfl, b2_ne.mp h14⟩ | exact Or.inr (Or.inl ⟨rfl, b2_ne.mp h20⟩) | exact Or.inr (Or.inr ⟨rfl, b2_ne.mp h26⟩)) hR3 hv1
          · refine wp_iconst (v := 1) rfl rfl ?_
            refine wp_goto 30 rfl rfl ?_
            refine wp_loc (lv' := [(0, _), (1, _), (2, _), (3, _)]) [1, 2, 3, 0] rfl ?_
            exact K30 _ v J3 L3 (by first | exact Or.inl ⟨rfl, b2_ne.mp h14⟩ | exact Or.inr (Or.inl ⟨rfl, b2_ne.mp h20⟩) | exact Or.inr (Or.inr ⟨rfl, b2_ne.mp h26⟩)) hR3 hv1
        · refine wp_iconst (v := 0) rfl rfl ?_
          refine wp_goto 30 rfl rfl ?_
          refine wp_loc (lv' := [(0, _), (1, _), (2, _), (3, _)]) [1, 2, 3, 0] rfl ?_
          exact K30 _ v J3 L3 (by first | exact Or.inl ⟨rfl, b2_ne.mp h14⟩ | exact Or.inr (Or.inl ⟨rfl, b2_ne.mp h20⟩) | exact Or.inr (Or.inr ⟨rfl, b2_ne.mp h26⟩)) hR3 hv1
theorem r_conds (G : Gl) (d : Nat) {b : Bool} {T : Nat → Int32} {n t f0 f i j : Nat} {I0 J : IF} {L0 L : LF} {o : Bool} {cd : List Int32} (hx : RTX T n t I0) (h : prC (KK T n) f0 f i = some (o, j, cd)) (hK : ¬ KK T n i = -100) (hR : ROK T n I0 L0 0 i J L) : MQ2 G (d + 32) Y_X11_conds [.ref 72] (J, L, RR b) (DQ T n I0 L0 b o j cd) := by
  refine MT.intro m_X11_conds rfl (Nat.le_of_ble_eq_true rfl) ?_
  show WQ G (d + 30 + 1 + 1) Y_X11_conds _ 0 [(0, .ref 72)] [] (J, L, RR b)
  refine wp_iconst (v := 1) rfl rfl ?_
  refine wp_istore_n (lv' := [(1, _), (0, _)]) rfl rfl (by decide) rfl ?_
  refine wp_iconst (v := 1) rfl rfl ?_
  refine wp_istore_n (lv' := [(2, _), (1, _), (0, _)]) rfl rfl (by decide) rfl ?_
  refine wp_loc (lv' := [(0, _), (1, _), (2, _)]) [2, 1, 0] rfl ?_
  exact rrd_C hx (show 30 ≤ d + 30 by omega) f i o j cd J L [] true h hK hR CV.nil
theorem r_sum (G : Gl) (d : Nat) {b : Bool} {T : Nat → Int32} {n t f0 i j : Nat} {I0 J : IF} {L0 L : LF} {o : Bool} {cd : List Int32} (hx : RTX T n t I0) (h : prs (KK T n) f0 3 0 i = some (o, j, cd)) (hR : ROK T n I0 L0 0 i J L) : MQ2 G (d + 31) Y_X11_sum [.ref 72] (J, L, RR b) (SQ T n I0 L0 b 0 o j 19 cd) :=
  (rrd (G := G) (b := b) (L0 := L0) hx f0).2.2.2.1 0 i o j cd (d + 30) J L (by omega) h (by omega) hR
/-! the worth of rules -/
def vl (F : Nat → Int64) (c : List Int32) : Int64 := match run F c [] with
  | some (_, v :: _) => v
  | _ => 0
def cvb (F : Nat → Int64) (c : List Int32) : Bool := match run F c [] with
  | some (a, _) => a
  | none => false
theorem RV.wo {F : Nat → Int64} {c : List Int32} {v : Int64} (h : RV F 19 c v) : vl F c = v := by
  have := h [] (by decide)
  unfold vl
  rw [this]
theorem CV.b {F : Nat → Int64} {c : List Int32} {a : Bool} (h : CV F c a) : cvb F c = a := by
  unfold CV at h
  unfold cvb
  rw [h]
def gs1 (F : Nat → Int64) (s : Bool × Int64) (e : RE) : Bool × Int64 := if e.1 = -1 ∧ s.1 = false ∧ cvb F e.2.2 = true then (true, vl F e.2.1) else s
def gst (F : Nat → Int64) (es : List RE) : Bool × Int64 := es.foldl (gs1 F) (false, 0)
theorem gst_s (F : Nat → Int64) (es : List RE) (e : RE) : gst F (es ++ [e]) = gs1 F (gst F es) e := by unfold gst; rw [List.foldl_append]; rfl
def cp1 (a : Int32) (e : RE) : Int32 := if e.1 = -1 then a else if a = -1 then e.1 else if e.1 < a then e.1 else a
def cpr (es : List RE) : Int32 := es.foldl cp1 (-1)
theorem cpr_s (es : List RE) (e : RE) : cpr (es ++ [e]) = cp1 (cpr es) e := by unfold cpr; rw [List.foldl_append]; rfl
/-- since I0, L0: rules es read, token i before the reference -/
def RX (I0 : IF) (L0 : LF) (J : IF) (L : LF) : Prop := (∀ a, a ≠ 72 → J a = I0 a) ∧ (∀ k, k ≠ 37 → (k < 44 ∨ 49 < k) → k ≠ 52 → k ≠ 53 → J 72 k = I0 72 k) ∧ (∀ a, a ≠ 72 → L a = L0 a) ∧ ∀ k, k ≠ 50 → k ≠ 51 → L 72 k = L0 72 k
def ST (T : Nat → Int32) (n : Nat) (I0 : IF) (L0 : LF) (i : Nat) (es : List RE) (J : IF) (L : LF) : Prop := RX I0 L0 J L ∧ TS T n (ps T n i) J L ∧ J 72 47 = 0 ∧ J 72 52 = 0 ∧ J 72 37 = I0 72 37 ∧ J 72 48 = nI es.length ∧ J 72 49 = cpr es ∧ J 72 53 = bI (gst (L0 101) es).1 ∧ L 72 51 = (gst (L0 101) es).2
def SB (T : Nat → Int32) (n : Nat) (I0 : IF) (L0 : LF) (j : Nat) (J : IF) (L : LF) : Prop := RX I0 L0 J L ∧ J 72 52 = 1 ∧ J 72 37 = nI (ps T n j)
theorem RX.rg {I0 J J2 : IF} {L0 L L2 : LF} (h : RX I0 L0 J L) (h2 : RG J L J2 L2) : RX I0 L0 J2 L2 := by
  obtain ⟨a1, a2, a3, a4⟩ := h
  obtain ⟨b1, b2, b3, b4⟩ := h2
  exact ⟨fun a ha => by rw [b1 a ha]; exact a1 a ha, fun k c1 c2 c3 c4 => by rw [b2 k c1 (by omega) (by omega) (by omega) (by omega) c3]; exact a2 k c1 c2 c3 c4, fun a ha => by rw [b3 a ha]; exact a3 a ha, fun k hk hk2 => by rw [b4 k hk]; exact a4 k hk hk2⟩
theorem RX.i {I0 J : IF} {L0 L : LF} {k : Nat} {v : Int32} (h : RX I0 L0 J L) (hk : k = 48 ∨ k = 49 ∨ k = 53) : RX I0 L0 (uI J 72 k v) L := by
  obtain ⟨a1, a2, a3, a4⟩ := h
  exact ⟨fun a ha => by rw [uI_fn ha]; exact a1 a ha, fun q c1 c2 c3 c4 => by rw [uI_nk (by omega)]; exact a2 q c1 c2 c3 c4, a3, a4⟩
theorem RX.l {I0 J : IF} {L0 L : LF} {v : Int64} (h : RX I0 L0 J L) : RX I0 L0 J (uL L 72 51 v) := by
  obtain ⟨a1, a2, a3, a4⟩ := h
  exact ⟨a1, a2, fun a ha => by rw [uL_fn ha]; exact a3 a ha, fun k hk hk2 => by rw [uL_nk hk2]; exact a4 k hk hk2⟩
theorem RX.rtx {T : Nat → Int32} {n t : Nat} {I J : IF} {L L2 : LF} (h : RX I L J L2) (hx : RTX T n t I) : RTX T n t J := hx.fr (h.1 97 (by decide)) (h.2.1 42 (by decide) (by decide) (by decide) (by decide)) (h.2.1 43 (by decide) (by decide) (by decide) (by decide))
theorem ST.ok {T : Nat → Int32} {n i : Nat} {I0 J : IF} {L0 L : LF} {es : List RE} (h : ST T n I0 L0 i es J L) : ROK T n J L 0 i J L := ⟨RG.refl, h.2.1, h.2.2.1, h.2.2.2.1, rfl⟩
theorem SB.bd {T : Nat → Int32} {n j : Nat} {I0 J : IF} {L0 L : LF} (h : SB T n I0 L0 j J L) : RBD T n J L j J L := ⟨RG.refl, h.2.1, h.2.2⟩
theorem SB.of {T : Nat → Int32} {n j : Nat} {I0 J J2 : IF} {L0 L L2 : LF} (h : RX I0 L0 J L) (h2 : RBD T n J L j J2 L2) : SB T n I0 L0 j J2 L2 := ⟨h.rg h2.1, h2.2.1, h2.2.2⟩
theorem TS.i {T : Nat → Int32} {n q k : Nat} {J : IF} {L : LF} {v : Int32} (h : TS T n q J L) (hk : k ≠ 44 ∧ k ≠ 45 ∧ k ≠ 46) : TS T n q (uI J 72 k v) L := by
  obtain ⟨b1, b2, b3, b4⟩ := h
  exact ⟨by rw [uI_nk (by omega)]; exact b1, by rw [uI_nk (by omega)]; exact b2, by rw [uI_nk (by omega)]; exact b3, b4⟩
