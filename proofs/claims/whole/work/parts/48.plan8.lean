/-! the plan, in the reference: the call -/
def FRp (I : IF) (W : Nat) (J : IF) : Prop := (∀ q, q ≠ 72 → q ≠ 94 → q ≠ 99 → J q = I q) ∧ (∀ k, k ≠ 0 → k ≠ 30 → k ≠ 32 → J 72 k = I 72 k) ∧ J 72 30 = nI W ∧ J 72 32 = 0
theorem FRp.u {I J : IF} {W a k : Nat} {x : Int32} (h : FRp I W J) (ha : a = 94 ∨ a = 99) : FRp I W (uI J a k x) := by
  obtain ⟨h1, h2, h3, h4⟩ := h
  have hn : 72 ≠ a := by omega
  exact ⟨fun q a1 a2 a3 => by rw [uI_fn (by omega)]; exact h1 q a1 a2 a3, fun q a1 a2 a3 => by rw [uI_ne hn]; exact h2 q a1 a2 a3, by rw [uI_ne hn]; exact h3, by rw [uI_ne hn]; exact h4⟩
theorem FRp.pm {P : PL} {I J : IF} {W : Nat} (h : FRp I W J) (hI : PM P I) : PM P J := PM_cg hI (h.2.1 5 (by decide) (by decide) (by decide)) (h.1 83 (by decide) (by decide) (by decide)) (h.1 81 (by decide) (by decide) (by decide))
theorem BW_s {P : PL} {W w S : Nat} (hw : w < W) : BW P W (W - w) S ↔ ∃ x, x < 2 ^ pN P ∧ mayP P x S w ∧ BW P W (W - (w + 1)) (S ||| x) := by
  rw [show W - w = (W - (w + 1)) + 1 by omega]
  show (∃ set, set < 2 ^ pN P ∧ mayP P set S (W - (W - (w + 1) + 1)) ∧ BW P W (W - (w + 1)) (S ||| set)) ↔ _
  rw [show W - (W - (w + 1) + 1) = w by omega]
theorem p_pick (G : Gl) (d : Nat) {P : PL} (hp : plok P) {v : Int64} (hwd : ∀ w, w < 52 → pW P w = !wnd v w) {W : Nat} (hW : Wk P W) (I : IF) (L : LF) (b : Bool) (hI : PM P I) (Q : Option Value → mW → Prop) (hQ : ∀ J, FRp I W J → (∀ m, m < pN P → J 94 m = asW P W (I 94) W m) → Q (some (.int (nI W))) (J, L, RR b)) : ∀ (p i : Nat), i + p = W → ∀ J : IF, FRp I W J → (∀ u, u ≤ W → TB P J u (BW P W (W - u))) → (∀ m, m < pN P → J 94 m = asW P W (I 94) i m) → WQ G (d + 3) Y_X11_plan Q 144 [(0, .ref 72), (1, .int (nI (pC P))), (2, .long v), (4, .int (nI (allS P))), (5, .int (nI (pkS P W i))), (6, .int (nI i))] [] (J, L, RR b) := by
  obtain ⟨n1, n2, c1, c2, hfd⟩ := id hp
  have hall := all_lt P
  have h1024 := two10 n2
  have hW52 := hW.2.1
  have hB := B0 hW.2.2.1
  intro p
  induction p with
  | zero =>
    intro i hi J f1 f2 f3
    have hie : i = W := by omega
    subst hie
    have hge : J 72 30 ≤ nI i := by rw [f1.2.2.1]; exact nI_le (Nat.le_refl _) (by omega)
    refine wp_iload rfl rfl ?_
    refine wp_aload_n rfl rfl ?_
    refine q_geti rfl rfl (by first | rfl | assumption) rfl ?_
    refine wp_icmp_ge 199 rfl rfl (fun _ => ?_) (fun h147 => absurd hge h147)
    refine wp_aload_n rfl rfl ?_
    refine q_geti rfl rfl (by first | rfl | assumption) rfl ?_
    rw [f1.2.2.1]
    exact wp_iret rfl rfl (hQ J f1 f3)
  | succ p ih =>
    intro i hi J f1 f2 f3
    have hlt : ¬ J 72 30 ≤ nI i := by rw [f1.2.2.1]; exact nI_ge (by omega) (by omega)
    obtain ⟨l1, l2, l3⟩ := ls_ok hB (w := i) (by omega)
    have p1 := (pk_ok hB i (by omega)).1
    have hii : nI i + 1 = nI (i + 1) := nI_1 i
    generalize hs0 : lsW P W i (pkS P W i) = s0 at l1 l2 l3
    have hnext : pkS P W i ||| s0 = pkS P W (i + 1) := by rw [← hs0]; rfl
    have asg : ∀ (p m : Nat), m + p = pN P → ∀ J : IF, FRp I W J → (∀ u, u ≤ W → TB P J u (BW P W (W - u))) → (∀ j, j < pN P → J 94 j = if j < m ∧ s0.testBit j = true then nI i else asW P W (I 94) i j) → WQ G (d + 3) Y_X11_plan Q 175 [(0, .ref 72), (1, .int (nI (pC P))), (2, .long v), (4, .int (nI (allS P))), (5, .int (nI (pkS P W i))), (6, .int (nI i)), (7, .int (nI s0)), (8, .int (nI m))] [] (J, L, RR b) := by
      intro p
      induction p with
      | zero =>
        intro m hm J f1 f2 f3
        have hme : m = pN P := by omega
        subst hme
        have hge : J 72 5 ≤ nI (pN P) := by rw [(f1.pm hI).1]; exact nI_le (Nat.le_refl _) (by omega)
        refine wp_iload rfl rfl ?_
        refine wp_aload_n rfl rfl ?_
        refine q_geti rfl rfl (by first | rfl | assumption) rfl ?_
        refine wp_icmp_ge 193 rfl rfl (fun _ => ?_) (fun h178 => absurd hge h178)
        refine wp_iload rfl rfl ?_
        refine wp_iload rfl rfl ?_
        refine wp_ior rfl ?_
        refine wp_istore (lv' := [(5, _), (0, _), (1, _), (2, _), (4, _), (6, _), (7, _), (8, _)]) rfl (by decide) rfl ?_
        refine wp_iinc (v := nI (i + 1)) (lv' := [(6, _), (5, _), (0, _), (1, _), (2, _), (4, _), (7, _), (8, _)]) rfl rfl (nI_1 i) (by decide) rfl ?_
        refine wp_goto 144 rfl rfl ?_
        refine wp_loc (lv' := [(0, _), (1, _), (2, _), (4, _), (5, _), (6, _)]) [2, 3, 4, 5, 1, 0] rfl ?_
        rw [nI_or, hnext]
        refine ih (i + 1) (by omega) J f1 f2 (fun j hj => ?_)
        rw [f3 j hj]
        simp only [asW]
        rw [hs0]
        by_cases e : s0.testBit j = true
        · rw [if_pos ⟨hj, e⟩, if_pos e]
        · rw [if_neg (fun z => e z.2), if_neg e]
      | succ p ihp =>
        intro m hm J f1 f2 f3
        have hlt2 : ¬ J 72 5 ≤ nI m := by rw [(f1.pm hI).1]; exact nI_ge (by omega) (by omega)
        have hin : vp_in (nI m) 10 := vp_in_nI (by omega) (by omega)
        have hcl : (nI m).toNatClampNeg = m := nI_clamp (by omega)
        refine wp_iload rfl rfl ?_
        refine wp_aload_n rfl rfl ?_
        refine q_geti rfl rfl (by first | rfl | assumption) rfl ?_
        refine wp_icmp_ge 193 rfl rfl (fun h178 => absurd h178 hlt2) (fun _ => ?_)
        refine wp_iload rfl rfl ?_
        refine wp_iload rfl rfl ?_
        refine wp_ishr rfl ?_
        refine wp_iconst (v := 1) rfl rfl ?_
        refine wp_iand rfl ?_
        rw [bit1 _ (by omega), bt_nI (by omega)]
        refine wp_iconst (v := 1) rfl rfl ?_
        refine wp_icmp_ne 191 rfl rfl (fun h185 => ?_) (fun h185 => ?_)
        · refine wp_iinc (v := nI (m + 1)) (lv' := [(8, _), (0, _), (1, _), (2, _), (4, _), (5, _), (6, _), (7, _)]) rfl rfl (nI_1 m) (by decide) rfl ?_
          refine wp_goto 175 rfl rfl ?_
          refine wp_loc (lv' := [(0, _), (1, _), (2, _), (4, _), (5, _), (6, _), (7, _), (8, _)]) [1, 2, 3, 4, 5, 6, 7, 0] rfl ?_
          first
          | (have hb : ¬ s0.testBit m = true := fun z => h185 (b2_t z)
             refine ihp (m + 1) (by omega) J f1 f2 (fun j hj => ?_)
             rw [f3 j hj]
             by_cases e : j < m ∧ s0.testBit j = true
             · rw [if_pos e, if_pos ⟨by omega, e.2⟩]
             · rw [if_neg e, if_neg (fun z => e ⟨by rcases Nat.lt_or_ge j m with y | y; exact y; exact absurd z.2 (by rw [show j = m by omega]; exact hb), z.2⟩)])
          | (have hb : s0.testBit m = true := Classical.byContradiction (fun z => by rw [b2_f z] at h185; exact absurd h185 (by decide))
             rw [hcl]
             refine ihp (m + 1) (by omega) _ (f1.u (Or.inl rfl)) (fun u hu => (f2 u hu).cg (fun S hS => uI_ne (by decide))) (fun j hj => ?_)
             by_cases e : j = m
             · rw [e, uI_eq, if_pos ⟨by omega, hb⟩]
             · rw [uI_nk e, f3 j hj]
               by_cases e2 : j < m ∧ s0.testBit j = true
               · rw [if_pos e2, if_pos ⟨by omega, e2.2⟩]
               · rw [if_neg e2, if_neg (fun z => e2 ⟨by omega, z.2⟩)])
        · refine wp_aload_n rfl rfl ?_
          refine q_getr rfl rfl (by first | rfl | assumption) rfl rfl ?_
          refine wp_iload rfl rfl ?_
          refine wp_iload rfl rfl ?_
          refine q_iast rfl (by first | rfl | assumption) hin ?_
          refine wp_iinc (v := nI (m + 1)) (lv' := [(8, _), (0, _), (1, _), (2, _), (4, _), (5, _), (6, _), (7, _)]) rfl rfl (nI_1 m) (by decide) rfl ?_
          refine wp_goto 175 rfl rfl ?_
          refine wp_loc (lv' := [(0, _), (1, _), (2, _), (4, _), (5, _), (6, _), (7, _), (8, _)]) [1, 2, 3, 4, 5, 6, 7, 0] rfl ?_
          first
          | (have hb : ¬ s0.testBit m = true := fun z => h185 (b2_t z)
             refine ihp (m + 1) (by omega) J f1 f2 (fun j hj => ?_)
             rw [f3 j hj]
             by_cases e : j < m ∧ s0.testBit j = true
             · rw [if_pos e, if_pos ⟨by omega, e.2⟩]
             · rw [if_neg e, if_neg (fun z => e ⟨by rcases Nat.lt_or_ge j m with y | y; exact y; exact absurd z.2 (by rw [show j = m by omega]; exact hb), z.2⟩)])
          | (have hb : s0.testBit m = true := Classical.byContradiction (fun z => by rw [b2_f z] at h185; exact absurd h185 (by decide))
             rw [hcl]
             refine ihp (m + 1) (by omega) _ (f1.u (Or.inl rfl)) (fun u hu => (f2 u hu).cg (fun S hS => uI_ne (by decide))) (fun j hj => ?_)
             by_cases e : j = m
             · rw [e, uI_eq, if_pos ⟨by omega, hb⟩]
             · rw [uI_nk e, f3 j hj]
               by_cases e2 : j < m ∧ s0.testBit j = true
               · rw [if_pos e2, if_pos ⟨by omega, e2.2⟩]
               · rw [if_neg e2, if_neg (fun z => e2 ⟨by omega, z.2⟩)])
    have srch : ∀ (p s : Nat), s + p = s0 → WQ G (d + 3) Y_X11_plan Q 150 [(0, .ref 72), (1, .int (nI (pC P))), (2, .long v), (4, .int (nI (allS P))), (5, .int (nI (pkS P W i))), (6, .int (nI i)), (7, .int (nI s))] [] (J, L, RR b) := by
      intro p
      induction p with
      | zero =>
        intro s hs
        have hse : s = s0 := by omega
        subst hse
        obtain ⟨q1, q2⟩ := cnB_iff.mp l2
        have hor : pkS P W i ||| s < 2 ^ pN P := or_lt p1 l1
        have hin : vp_in (nI (1024 * (i + 1) + (pkS P W i ||| s))) 54272 := vp_in_nI (by omega) (by omega)
        have hcl : (nI (1024 * (i + 1) + (pkS P W i ||| s))).toNatClampNeg = 1024 * (i + 1) + (pkS P W i ||| s) := nI_clamp (by omega)
        have hyes := ((f2 (i + 1) (by omega)).ne hor).mpr q2
        refine wp_aload_n rfl rfl ?_
        refine q_getr rfl rfl (by first | rfl | assumption) rfl rfl ?_
        refine wp_sipush (v := 1024) rfl rfl ?_
        refine wp_iload rfl rfl ?_
        refine wp_iconst (v := 1) rfl rfl ?_
        refine wp_iadd rfl ?_
        rw [hii]
        refine wp_imul rfl ?_
        refine wp_iload rfl rfl ?_
        refine wp_iload rfl rfl ?_
        refine wp_ior rfl ?_
        rw [nI_or]
        refine wp_iadd rfl ?_
        rw [ix1]
        refine q_zald rfl (by first | rfl | assumption) hin ?_
        rw [hcl]
        refine wp_if_eq 171 rfl rfl (fun h162 => absurd h162 hyes) (fun _ => ?_)
        refine wp_aload_n rfl rfl ?_
        refine wp_iload rfl rfl ?_
        refine wp_iload rfl rfl ?_
        refine wp_iload rfl rfl ?_
        refine wp_iload_n rfl rfl ?_
        refine wp_lload_n rfl rfl ?_
        refine cV1 rfl l_11_185 i_X11_may m_X11_may (by first | rfl | assumption) (by decide) (c_X11_may G _ hp (hwd i (by omega)) (by omega) _ _ _ (f1.pm hI)) rfl (Nat.le_of_ble_eq_true rfl) ?_
        refine wp_if_ne 173 rfl rfl (fun h170 => ?_) (fun h170 => ?_)
        · refine wp_iconst (v := 0) rfl rfl ?_
          refine wp_istore (lv' := [(8, _), (0, _), (1, _), (2, _), (4, _), (5, _), (6, _), (7, _)]) rfl (by decide) rfl ?_
          refine wp_loc (lv' := [(0, _), (1, _), (2, _), (4, _), (5, _), (6, _), (7, _), (8, _)]) [1, 2, 3, 4, 5, 6, 7, 0] rfl ?_
          exact asg (pN P) 0 (by omega) J f1 f2 (fun j hj => by rw [if_neg (by omega)]; exact f3 j hj)
        · exact absurd (mayB_iff.mpr q1) (b2_eq.mp h170)
      | succ p ihp =>
        intro s hs
        have hno := l3 s (by omega)
        have hsl : s < 2 ^ pN P := by omega
        have hor : pkS P W i ||| s < 2 ^ pN P := or_lt p1 hsl
        have hin : vp_in (nI (1024 * (i + 1) + (pkS P W i ||| s))) 54272 := vp_in_nI (by omega) (by omega)
        have hcl : (nI (1024 * (i + 1) + (pkS P W i ||| s))).toNatClampNeg = 1024 * (i + 1) + (pkS P W i ||| s) := nI_clamp (by omega)
        refine wp_aload_n rfl rfl ?_
        refine q_getr rfl rfl (by first | rfl | assumption) rfl rfl ?_
        refine wp_sipush (v := 1024) rfl rfl ?_
        refine wp_iload rfl rfl ?_
        refine wp_iconst (v := 1) rfl rfl ?_
        refine wp_iadd rfl ?_
        rw [hii]
        refine wp_imul rfl ?_
        refine wp_iload rfl rfl ?_
        refine wp_iload rfl rfl ?_
        refine wp_ior rfl ?_
        rw [nI_or]
        refine wp_iadd rfl ?_
        rw [ix1]
        refine q_zald rfl (by first | rfl | assumption) hin ?_
        rw [hcl]
        refine wp_if_eq 171 rfl rfl (fun h162 => ?_) (fun h162 => ?_)
        · refine wp_iinc (v := nI (s + 1)) (lv' := [(7, _), (0, _), (1, _), (2, _), (4, _), (5, _), (6, _)]) rfl rfl (nI_1 s) (by decide) rfl ?_
          refine wp_goto 150 rfl rfl ?_
          refine wp_loc (lv' := [(0, _), (1, _), (2, _), (4, _), (5, _), (6, _), (7, _)]) [1, 2, 3, 4, 5, 6, 0] rfl ?_
          exact ihp (s + 1) (by omega)
        · refine wp_aload_n rfl rfl ?_
          refine wp_iload rfl rfl ?_
          refine wp_iload rfl rfl ?_
          refine wp_iload rfl rfl ?_
          refine wp_iload_n rfl rfl ?_
          refine wp_lload_n rfl rfl ?_
          refine cV1 rfl l_11_185 i_X11_may m_X11_may (by first | rfl | assumption) (by decide) (c_X11_may G _ hp (hwd i (by omega)) (by omega) _ _ _ (f1.pm hI)) rfl (Nat.le_of_ble_eq_true rfl) ?_
          refine wp_if_ne 173 rfl rfl (fun h170 => ?_) (fun h170 => ?_)
          · exact absurd (cnB_iff.mpr ⟨mayB_iff.mp (b2_ne.mp h170), ((f2 (i + 1) (by omega)).ne hor).mp h162⟩) (by rw [hno]; decide)
          · refine wp_iinc (v := nI (s + 1)) (lv' := [(7, _), (0, _), (1, _), (2, _), (4, _), (5, _), (6, _)]) rfl rfl (nI_1 s) (by decide) rfl ?_
            refine wp_goto 150 rfl rfl ?_
            refine wp_loc (lv' := [(0, _), (1, _), (2, _), (4, _), (5, _), (6, _), (7, _)]) [1, 2, 3, 4, 5, 6, 0] rfl ?_
            exact ihp (s + 1) (by omega)
    refine wp_iload rfl rfl ?_
    refine wp_aload_n rfl rfl ?_
    refine q_geti rfl rfl (by first | rfl | assumption) rfl ?_
    refine wp_icmp_ge 199 rfl rfl (fun h147 => absurd h147 hlt) (fun _ => ?_)
    refine wp_iconst (v := 0) rfl rfl ?_
    refine wp_istore (lv' := [(7, _), (0, _), (1, _), (2, _), (4, _), (5, _), (6, _)]) rfl (by decide) rfl ?_
    refine wp_loc (lv' := [(0, _), (1, _), (2, _), (4, _), (5, _), (6, _), (7, _)]) [1, 2, 3, 4, 5, 6, 0] rfl ?_
    exact srch s0 0 (by omega)
theorem p_back (G : Gl) (d : Nat) {P : PL} (hp : plok P) {v : Int64} (hwd : ∀ w, w < 52 → pW P w = !wnd v w) {W : Nat} (hW : Wk P W) (I : IF) (L : LF) (b : Bool) (hI : PM P I) (Q : Option Value → mW → Prop) (hQ : ∀ J, FRp I W J → (∀ m, m < pN P → J 94 m = asW P W (I 94) W m) → Q (some (.int (nI W))) (J, L, RR b)) : ∀ (t : Nat), t ≤ W → ∀ J : IF, FRp I W J → J 94 = I 94 → (∀ u, t ≤ u → u ≤ W → TB P J u (BW P W (W - u))) → WQ G (d + 3) Y_X11_plan Q 70 [(0, .ref 72), (1, .int (nI (pC P))), (2, .long v), (4, .int (nI (allS P))), (5, .int (zI t))] [] (J, L, RR b) := by
  obtain ⟨n1, n2, c1, c2, hfd⟩ := id hp
  have hall := all_lt P
  have h1024 := two10 n2
  have hall2 : allS P + 1 = 2 ^ pN P := by unfold allS at hall ⊢; omega
  have hW52 := hW.2.1
  intro t
  induction t with
  | zero =>
    intro _ J f1 f0 f2
    refine wp_iload rfl rfl ?_
    refine wp_if_lt 140 rfl rfl (fun _ => ?_) (fun h71 => absurd (show zI 0 < 0 by decide) h71)
    refine wp_iconst (v := 0) rfl rfl ?_
    refine wp_istore (lv' := [(5, _), (0, _), (1, _), (2, _), (4, _)]) rfl (by decide) rfl ?_
    refine wp_iconst (v := 0) rfl rfl ?_
    refine wp_istore (lv' := [(6, _), (5, _), (0, _), (1, _), (2, _), (4, _)]) rfl (by decide) rfl ?_
    refine wp_loc (lv' := [(0, _), (1, _), (2, _), (4, _), (5, _), (6, _)]) [2, 3, 4, 5, 1, 0] rfl ?_
    exact p_pick G d hp hwd hW I L b hI Q hQ W 0 (by omega) J f1 (fun u hu => f2 u (Nat.zero_le _) hu) (fun m hm => by rw [f0]; rfl)
  | succ w ih =>
    intro htW J f1 f0 f2
    rw [zI_s]
    have hge : ¬ nI w < (0 : Int32) := nI_pos (by omega)
    have hdec : nI w + Int32.ofInt (-1) = zI w := by rw [show Int32.ofInt (-1) = (-1 : Int32) from rfl]; unfold zI; grind
    have hii : nI w + 1 = nI (w + 1) := nI_1 w
    have dn : ∀ (p k : Nat), k + p = 2 ^ pN P → ∀ J : IF, FRp I W J → J 94 = I 94 → (∀ u, w + 1 ≤ u → u ≤ W → TB P J u (BW P W (W - u))) → (∀ S, S < k → (J 99 (1024 * w + S) = 0 ∨ J 99 (1024 * w + S) = 1) ∧ (J 99 (1024 * w + S) = 1 ↔ BW P W (W - w) S)) → WQ G (d + 3) Y_X11_plan Q 74 [(0, .ref 72), (1, .int (nI (pC P))), (2, .long v), (4, .int (nI (allS P))), (5, .int (nI w)), (6, .int (nI k))] [] (J, L, RR b) := by
      intro p
      induction p with
      | zero =>
        intro k hk J f1 f0 f2 f3
        have hgt : nI (allS P) < nI k := nI_lt (by omega) (by omega)
        refine wp_iload rfl rfl ?_
        refine wp_iload rfl rfl ?_
        refine wp_icmp_gt 138 rfl rfl (fun _ => ?_) (fun h76 => absurd hgt h76)
        refine wp_iinc (v := zI w) (lv' := [(5, _), (0, _), (1, _), (2, _), (4, _), (6, _)]) rfl rfl (hdec) (by decide) rfl ?_
        refine wp_goto 70 rfl rfl ?_
        refine wp_loc (lv' := [(0, _), (1, _), (2, _), (4, _), (5, _)]) [1, 2, 3, 4, 0] rfl ?_
        refine ih (by omega) J f1 f0 (fun u hu1 hu2 => ?_)
        rcases Nat.lt_or_ge w u with e | e
        · exact f2 u e hu2
        · rw [show u = w by omega]; exact fun S hS => f3 S (by omega)
      | succ p ihp =>
        intro k hk J f1 f0 f2 f3
        have hkl : k < 2 ^ pN P := by omega
        have hngt : ¬ nI (allS P) < nI k := nI_nlt (by omega) (by omega)
        have hin : vp_in (nI (1024 * w + k)) 54272 := vp_in_nI (by omega) (by omega)
        have hcl : (nI (1024 * w + k)).toNatClampNeg = 1024 * w + k := nI_clamp (by omega)
        have hr := rst_lt hkl
        have hbs := BW_s (P := P) (W := W) (w := w) (S := k) (by omega)
        have st127 : ∀ x : Int32, (x = 0 ∧ ¬ BW P W (W - w) k) ∨ (x = 1 ∧ BW P W (W - w) k) → WQ G (d + 3) Y_X11_plan Q 127 [(0, .ref 72), (1, .int (nI (pC P))), (2, .long v), (4, .int (nI (allS P))), (5, .int (nI w)), (6, .int (nI k)), (7, .int x)] [] (J, L, RR b) := by
          intro x hx
          have hx01 : x = 0 ∨ x = 1 := hx.imp (fun z => z.1) (fun z => z.1)
          refine wp_aload_n rfl rfl ?_
          refine q_getr rfl rfl (by first | rfl | assumption) rfl rfl ?_
          refine wp_sipush (v := 1024) rfl rfl ?_
          refine wp_iload rfl rfl ?_
          refine wp_imul rfl ?_
          refine wp_iload rfl rfl ?_
          refine wp_iadd rfl ?_
          rw [ix1]
          refine wp_iload rfl rfl ?_
          refine q_zast rfl (by first | rfl | assumption) hin ?_
          refine wp_iinc (v := nI (k + 1)) (lv' := [(6, _), (0, _), (1, _), (2, _), (4, _), (5, _), (7, _)]) rfl rfl (nI_1 k) (by decide) rfl ?_
          refine wp_goto 74 rfl rfl ?_
          refine wp_loc (lv' := [(0, _), (1, _), (2, _), (4, _), (5, _), (6, _)]) [1, 2, 3, 4, 5, 0] rfl ?_
          rw [hcl, nar01 hx01]
          refine ihp (k + 1) (by omega) _ (f1.u (Or.inr rfl)) (by rw [uI_fn (by decide)]; exact f0) (fun u hu1 hu2 => (f2 u hu1 hu2).oth n2 (by omega) (by omega)) (fun S hS => ?_)
          by_cases e : S = k
          · rw [e, uI_eq]
            rcases hx with ⟨rfl, z⟩ | ⟨rfl, z⟩
            · exact ⟨Or.inl rfl, ⟨fun y => absurd y (by decide), fun y => absurd y z⟩⟩
            · exact ⟨Or.inr rfl, ⟨fun _ => z, fun _ => rfl⟩⟩
          · rw [uI_nk (by omega)]; exact f3 S (by omega)
        have out1 : BW P W (W - w) k → ∀ y : Int32, WQ G (d + 3) Y_X11_plan Q 87 [(0, .ref 72), (1, .int (nI (pC P))), (2, .long v), (4, .int (nI (allS P))), (5, .int (nI w)), (6, .int (nI k)), (7, .int 1), (8, .int (nI (rst P k))), (9, .int y)] [] (J, L, RR b) := by
          intro hb y
          refine wp_iload rfl rfl ?_
          refine wp_if_lt 127 rfl rfl (fun h88 => ?_) (fun h88 => ?_)
          · refine wp_loc (lv' := [(0, _), (1, _), (2, _), (4, _), (5, _), (6, _), (7, _)]) [0, 1, 2, 3, 4, 5, 6] rfl ?_
            exact st127 1 (Or.inr ⟨rfl, hb⟩)
          · refine wp_iload rfl rfl ?_
            refine wp_if_ne 127 rfl rfl (fun _ => ?_) (fun h90 => absurd h90 (show ¬ (1 : Int32) = 0 by decide))
            refine wp_loc (lv' := [(0, _), (1, _), (2, _), (4, _), (5, _), (6, _), (7, _)]) [0, 1, 2, 3, 4, 5, 6] rfl ?_
            exact st127 1 (Or.inr ⟨rfl, hb⟩)
        have out0 : (∀ x, x < 2 ^ pN P → ¬ (mayP P x k w ∧ BW P W (W - (w + 1)) (k ||| x))) → WQ G (d + 3) Y_X11_plan Q 87 [(0, .ref 72), (1, .int (nI (pC P))), (2, .long v), (4, .int (nI (allS P))), (5, .int (nI w)), (6, .int (nI k)), (7, .int 0), (8, .int (nI (rst P k))), (9, .int (zI 0))] [] (J, L, RR b) := by
          intro hno
          refine wp_iload rfl rfl ?_
          refine wp_if_lt 127 rfl rfl (fun _ => ?_) (fun h88 => absurd (show zI 0 < 0 by decide) h88)
          refine wp_loc (lv' := [(0, _), (1, _), (2, _), (4, _), (5, _), (6, _), (7, _)]) [0, 1, 2, 3, 4, 5, 6] rfl ?_
          exact st127 0 (Or.inl ⟨rfl, fun z => by obtain ⟨x, x1, x2⟩ := hbs.mp z; exact hno x x1 x2⟩)
        have sets : ∀ (n t : Nat) (y : Int32), y = zI t → t ≤ n → (t = 0 ∨ (t - 1) &&& rst P k = t - 1) → (∀ x, t ≤ x → x < 2 ^ pN P → ¬ (mayP P x k w ∧ BW P W (W - (w + 1)) (k ||| x))) → WQ G (d + 3) Y_X11_plan Q 87 [(0, .ref 72), (1, .int (nI (pC P))), (2, .long v), (4, .int (nI (allS P))), (5, .int (nI w)), (6, .int (nI k)), (7, .int 0), (8, .int (nI (rst P k))), (9, .int y)] [] (J, L, RR b) := by
          intro n
          induction n with
          | zero =>
            intro t y hy ht hsub hno
            subst hy
            have ht0 : t = 0 := by omega
            subst ht0
            exact out0 (fun x hx => hno x (Nat.zero_le _) hx)
          | succ n ihn =>
            intro t y hy ht hsub hno
            subst hy
            cases t with
            | zero => exact out0 (fun x hx => hno x (Nat.zero_le _) hx)
            | succ s =>
              have hsub : s &&& rst P k = s := by rcases hsub with z | z; omega; exact z
              obtain ⟨hs1, hs2⟩ := (sub_iff hkl).mp hsub
              rw [zI_s]
              have hge2 : ¬ nI s < (0 : Int32) := nI_pos (by omega)
              have hor : k ||| s < 2 ^ pN P := or_lt hkl hs1
              have hin2 : vp_in (nI (1024 * (w + 1) + (k ||| s))) 54272 := vp_in_nI (by omega) (by omega)
              have hcl2 : (nI (1024 * (w + 1) + (k ||| s))).toNatClampNeg = 1024 * (w + 1) + (k ||| s) := nI_clamp (by omega)
              have hrow := f2 (w + 1) (Nat.le_refl _) htW
              have tail : ∀ x : Int32, (x = 0 ∧ ¬ (mayP P s k w ∧ BW P W (W - (w + 1)) (k ||| s))) ∨ (x = 1 ∧ mayP P s k w ∧ BW P W (W - (w + 1)) (k ||| s)) → WQ G (d + 3) Y_X11_plan Q 115 [(0, .ref 72), (1, .int (nI (pC P))), (2, .long v), (4, .int (nI (allS P))), (5, .int (nI w)), (6, .int (nI k)), (7, .int 0), (8, .int (nI (rst P k))), (9, .int (nI s))] [.int x] (J, L, RR b) := by
                intro x hx
                rcases hx with ⟨rfl, hx⟩ | ⟨rfl, hx⟩
                · by_cases hs0 : s = 0
                  · subst hs0
                    refine wp_istore (lv' := [(7, _), (0, _), (1, _), (2, _), (4, _), (5, _), (6, _), (8, _), (9, _)]) rfl (by decide) rfl ?_
                    refine wp_iload rfl rfl ?_
                    refine wp_if_ne 120 rfl rfl (fun h117 => absurd (show nI 0 = 0 from rfl) h117) (fun _ => ?_)
                    refine wp_iconst (v := (-1)) rfl rfl ?_
                    refine wp_goto 125 rfl rfl ?_
                    refine wp_istore (lv' := [(9, _), (7, _), (0, _), (1, _), (2, _), (4, _), (5, _), (6, _), (8, _)]) rfl (by decide) rfl ?_
                    refine wp_goto 87 rfl rfl ?_
                    refine wp_loc (lv' := [(0, _), (1, _), (2, _), (4, _), (5, _), (6, _), (7, _), (8, _), (9, _)]) [2, 3, 4, 5, 6, 7, 1, 8, 0] rfl ?_
                    refine out0 (fun x hx1 => ?_)
                    by_cases e : x = 0
                    · rw [e]; exact hx
                    · exact hno x (by omega) hx1
                  · have hne : ¬ nI s = 0 := nI_ne0 (by omega) (by omega)
                    have hle := Nat.and_le_left (n := s - 1) (m := rst P k)
                    refine wp_istore (lv' := [(7, _), (0, _), (1, _), (2, _), (4, _), (5, _), (6, _), (8, _), (9, _)]) rfl (by decide) rfl ?_
                    refine wp_iload rfl rfl ?_
                    refine wp_if_ne 120 rfl rfl (fun _ => ?_) (fun h117 => absurd h117 hne)
                    refine wp_iload rfl rfl ?_
                    refine wp_iconst (v := 1) rfl rfl ?_
                    refine wp_isub rfl ?_
                    refine wp_iload rfl rfl ?_
                    refine wp_iand rfl ?_
                    rw [nI_sub1 (by omega)]
                    refine wp_istore (lv' := [(9, _), (7, _), (0, _), (1, _), (2, _), (4, _), (5, _), (6, _), (8, _)]) rfl (by decide) rfl ?_
                    refine wp_goto 87 rfl rfl ?_
                    refine wp_loc (lv' := [(0, _), (1, _), (2, _), (4, _), (5, _), (6, _), (7, _), (8, _), (9, _)]) [2, 3, 4, 5, 6, 7, 1, 8, 0] rfl ?_
                    refine ihn (((s - 1) &&& rst P k) + 1) _ (zI_s _).symm (by omega) (Or.inr ?_) (fun x hx1 hx2 => ?_)
                    · rw [Nat.add_sub_cancel, Nat.and_assoc, Nat.and_self]
                    · intro hm
                      have hsx : s ≤ x := Classical.byContradiction (fun z => by
                        have := sub_prev s (rst P k) s x (Nat.le_refl _) hsub ((sub_iff hkl).mpr ⟨hx2, hm.1.1⟩) (by omega)
                        omega)
                      by_cases e : x = s
                      · rw [e] at hm; exact hx hm
                      · exact hno x (by omega) hx2 hm
                · have hb : BW P W (W - w) k := hbs.mpr ⟨s, hs1, hx⟩
                  refine wp_istore (lv' := [(7, _), (0, _), (1, _), (2, _), (4, _), (5, _), (6, _), (8, _), (9, _)]) rfl (by decide) rfl ?_
                  refine wp_iload rfl rfl ?_
                  refine wp_if_ne 120 rfl rfl (fun h117 => ?_) (fun h117 => ?_)
                  · refine wp_iload rfl rfl ?_
                    refine wp_iconst (v := 1) rfl rfl ?_
                    refine wp_isub rfl ?_
                    refine wp_iload rfl rfl ?_
                    refine wp_iand rfl ?_
                    refine wp_istore (lv' := [(9, _), (7, _), (0, _), (1, _), (2, _), (4, _), (5, _), (6, _), (8, _)]) rfl (by decide) rfl ?_
                    refine wp_goto 87 rfl rfl ?_
                    refine wp_loc (lv' := [(0, _), (1, _), (2, _), (4, _), (5, _), (6, _), (7, _), (8, _), (9, _)]) [2, 3, 4, 5, 6, 7, 1, 8, 0] rfl ?_
                    exact out1 hb _
                  · refine wp_iconst (v := (-1)) rfl rfl ?_
                    refine wp_goto 125 rfl rfl ?_
                    refine wp_istore (lv' := [(9, _), (7, _), (0, _), (1, _), (2, _), (4, _), (5, _), (6, _), (8, _)]) rfl (by decide) rfl ?_
                    refine wp_goto 87 rfl rfl ?_
                    refine wp_loc (lv' := [(0, _), (1, _), (2, _), (4, _), (5, _), (6, _), (7, _), (8, _), (9, _)]) [2, 3, 4, 5, 6, 7, 1, 8, 0] rfl ?_
                    exact out1 hb _
              refine wp_iload rfl rfl ?_
              refine wp_if_lt 127 rfl rfl (fun h88 => absurd h88 hge2) (fun _ => ?_)
              refine wp_iload rfl rfl ?_
              refine wp_if_ne 127 rfl rfl (fun h90 => absurd (show (0 : Int32) = 0 from rfl) h90) (fun _ => ?_)
              refine wp_aload_n rfl rfl ?_
              refine q_getr rfl rfl (by first | rfl | assumption) rfl rfl ?_
              refine wp_sipush (v := 1024) rfl rfl ?_
              refine wp_iload rfl rfl ?_
              refine wp_iconst (v := 1) rfl rfl ?_
              refine wp_iadd rfl ?_
              rw [hii]
              refine wp_imul rfl ?_
              refine wp_iload rfl rfl ?_
              refine wp_iload rfl rfl ?_
              refine wp_ior rfl ?_
              rw [nI_or]
              refine wp_iadd rfl ?_
              rw [ix1]
              refine q_zald rfl (by first | rfl | assumption) hin2 ?_
              rw [hcl2]
              refine wp_if_eq 114 rfl rfl (fun h103 => ?_) (fun h103 => ?_)
              · refine wp_iconst (v := 0) rfl rfl ?_
                first
                | exact tail 1 (Or.inr ⟨rfl, mayB_iff.mp (b2_ne.mp h111), (hrow.ne hor).mp h103⟩)
                | exact tail 0 (Or.inl ⟨rfl, fun z => b2_eq.mp h111 (mayB_iff.mpr z.1)⟩)
                | exact tail 0 (Or.inl ⟨rfl, fun z => (hrow.eq hor).mp h103 z.2⟩)
              · refine wp_aload_n rfl rfl ?_
                refine wp_iload rfl rfl ?_
                refine wp_iload rfl rfl ?_
                refine wp_iload rfl rfl ?_
                refine wp_iload_n rfl rfl ?_
                refine wp_lload_n rfl rfl ?_
                refine cV1 rfl l_11_185 i_X11_may m_X11_may (by first | rfl | assumption) (by decide) (c_X11_may G _ hp (hwd w (by omega)) (by omega) _ _ _ (f1.pm hI)) rfl (Nat.le_of_ble_eq_true rfl) ?_
                refine wp_if_eq 114 rfl rfl (fun h111 => ?_) (fun h111 => ?_)
                · refine wp_iconst (v := 0) rfl rfl ?_
                  first
                  | exact tail 1 (Or.inr ⟨rfl, mayB_iff.mp (b2_ne.mp h111), (hrow.ne hor).mp h103⟩)
                  | exact tail 0 (Or.inl ⟨rfl, fun z => b2_eq.mp h111 (mayB_iff.mpr z.1)⟩)
                  | exact tail 0 (Or.inl ⟨rfl, fun z => (hrow.eq hor).mp h103 z.2⟩)
                · refine wp_iconst (v := 1) rfl rfl ?_
                  refine wp_goto 115 rfl rfl ?_
                  first
                  | exact tail 1 (Or.inr ⟨rfl, mayB_iff.mp (b2_ne.mp h111), (hrow.ne hor).mp h103⟩)
                  | exact tail 0 (Or.inl ⟨rfl, fun z => b2_eq.mp h111 (mayB_iff.mpr z.1)⟩)
                  | exact tail 0 (Or.inl ⟨rfl, fun z => (hrow.eq hor).mp h103 z.2⟩)
        refine wp_iload rfl rfl ?_
        refine wp_iload rfl rfl ?_
        refine wp_icmp_gt 138 rfl rfl (fun h76 => absurd h76 hngt) (fun _ => ?_)
        refine wp_iconst (v := 0) rfl rfl ?_
        refine wp_istore (lv' := [(7, _), (0, _), (1, _), (2, _), (4, _), (5, _), (6, _)]) rfl (by decide) rfl ?_
        refine wp_iload rfl rfl ?_
        refine wp_iload rfl rfl ?_
        refine wp_iconst (v := (-1)) rfl rfl ?_
        refine wp_ixor rfl ?_
        refine wp_iand rfl ?_
        rw [nI_rst n2 hkl]
        refine wp_istore (lv' := [(8, _), (7, _), (0, _), (1, _), (2, _), (4, _), (5, _), (6, _)]) rfl (by decide) rfl ?_
        refine wp_iload rfl rfl ?_
        refine wp_istore (lv' := [(9, _), (8, _), (7, _), (0, _), (1, _), (2, _), (4, _), (5, _), (6, _)]) rfl (by decide) rfl ?_
        refine wp_loc (lv' := [(0, _), (1, _), (2, _), (4, _), (5, _), (6, _), (7, _), (8, _), (9, _)]) [3, 4, 5, 6, 7, 8, 2, 1, 0] rfl ?_
        refine sets (rst P k + 1) (rst P k + 1) _ (zI_s _).symm (Nat.le_refl _) (Or.inr (by rw [Nat.add_sub_cancel, Nat.and_self])) (fun x hx1 hx2 hm => ?_)
        have h1 := (sub_iff hkl).mpr ⟨hx2, hm.1.1⟩
        have h2 : x ≤ rst P k := by rw [← h1]; exact Nat.and_le_right
        omega
    refine wp_iload rfl rfl ?_
    refine wp_if_lt 140 rfl rfl (fun h71 => absurd h71 hge) (fun _ => ?_)
    refine wp_iconst (v := 0) rfl rfl ?_
    refine wp_istore (lv' := [(6, _), (0, _), (1, _), (2, _), (4, _), (5, _)]) rfl (by decide) rfl ?_
    refine wp_loc (lv' := [(0, _), (1, _), (2, _), (4, _), (5, _), (6, _)]) [1, 2, 3, 4, 5, 0] rfl ?_
    exact dn (2 ^ pN P) 0 (by omega) J f1 f0 f2 (fun S hS => absurd hS (by omega))
theorem p_top (G : Gl) (d : Nat) {P : PL} (hp : plok P) {v : Int64} (hwd : ∀ w, w < 52 → pW P w = !wnd v w) {W : Nat} (hW : Wk P W) (I : IF) (L : LF) (b : Bool) (hI : PM P I) (Q : Option Value → mW → Prop) (hQ : ∀ J, FRp I W J → (∀ m, m < pN P → J 94 m = asW P W (I 94) W m) → Q (some (.int (nI W))) (J, L, RR b)) : ∀ (p k : Nat), k + p = 1024 → ∀ J : IF, FRp I W J → J 94 = I 94 → (∀ S, S < k → J 99 (1024 * W + S) = b2 (S = allS P)) → WQ G (d + 3) Y_X11_plan Q 45 [(0, .ref 72), (1, .int (nI (pC P))), (2, .long v), (4, .int (nI (allS P))), (5, .int (nI k))] [] (J, L, RR b) := by
  obtain ⟨n1, n2, c1, c2, hfd⟩ := id hp
  have hall := all_lt P
  have h1024 := two10 n2
  have hW52 := hW.2.1
  have hW1 := hW.1
  intro p
  induction p with
  | zero =>
    intro k hk J f1 f0 f4
    have hke : k = 1024 := by omega
    subst hke
    have e30 : J 72 30 - 1 = zI W := by rw [f1.2.2.1]; rfl
    refine wp_iload rfl rfl ?_
    refine wp_sipush (v := 1024) rfl rfl ?_
    refine wp_icmp_ge 65 rfl rfl (fun _ => ?_) (fun h47 => absurd (show (1024 : Int32) ≤ nI 1024 by decide) h47)
    refine wp_aload_n rfl rfl ?_
    refine q_geti rfl rfl (by first | rfl | assumption) rfl ?_
    refine wp_iconst (v := 1) rfl rfl ?_
    refine wp_isub rfl ?_
    rw [e30]
    refine wp_istore (lv' := [(5, _), (0, _), (1, _), (2, _), (4, _)]) rfl (by decide) rfl ?_
    refine wp_loc (lv' := [(0, _), (1, _), (2, _), (4, _), (5, _)]) [1, 2, 3, 4, 0] rfl ?_
    refine p_back G d hp hwd hW I L b hI Q hQ W (Nat.le_refl _) J f1 f0 (fun u hu1 hu2 => ?_)
    have hu : u = W := by omega
    subst hu
    intro S hS
    rw [f4 S (by omega), Nat.sub_self]
    refine ⟨b2_01 _, ?_⟩
    show _ ↔ S = allS P
    by_cases e : S = allS P
    · rw [b2_t e]; simp [e]
    · rw [b2_f e]; simp [e]
  | succ p ihp =>
    intro k hk J f1 f0 f4
    have hlt2 : ¬ (1024 : Int32) ≤ nI k := nI_ge (a := k) (b := 1024) (by omega) (by omega)
    have hin : vp_in (nI (1024 * W + k)) 54272 := vp_in_nI (by omega) (by omega)
    have hcl : (nI (1024 * W + k)).toNatClampNeg = 1024 * W + k := nI_clamp (by omega)
    have hz : nI k = nI (allS P) ↔ k = allS P := nI_eq (by omega) (by omega)
    have nx : ∀ x : Int32, x = b2 (k = allS P) → WQ G (d + 3) Y_X11_plan Q 62 [(0, .ref 72), (1, .int (nI (pC P))), (2, .long v), (4, .int (nI (allS P))), (5, .int (nI k))] [.int x, .int (nI (1024 * W + k)), .ref 99] (J, L, RR b) := by
      intro x hx
      subst hx
      refine q_zast rfl (by first | rfl | assumption) (by assumption) ?_
      refine wp_iinc (v := nI (k + 1)) (lv' := [(5, _), (0, _), (1, _), (2, _), (4, _)]) rfl rfl (nI_1 k) (by decide) rfl ?_
      refine wp_goto 45 rfl rfl ?_
      refine wp_loc (lv' := [(0, _), (1, _), (2, _), (4, _), (5, _)]) [1, 2, 3, 4, 0] rfl ?_
      rw [hcl, nar01 (b2_01 _)]
      refine ihp (k + 1) (by omega) _ (f1.u (Or.inr rfl)) (by rw [uI_fn (by decide)]; exact f0) (fun S hS => ?_)
      by_cases e : S = k
      · rw [e, uI_eq]
      · rw [uI_nk (by omega)]; exact f4 S (by omega)
    refine wp_iload rfl rfl ?_
    refine wp_sipush (v := 1024) rfl rfl ?_
    refine wp_icmp_ge 65 rfl rfl (fun h47 => absurd h47 hlt2) (fun _ => ?_)
    refine wp_aload_n rfl rfl ?_
    refine q_getr rfl rfl (by first | rfl | assumption) rfl rfl ?_
    refine wp_sipush (v := 1024) rfl rfl ?_
    refine wp_aload_n rfl rfl ?_
    refine q_geti rfl rfl (by first | rfl | assumption) rfl ?_
    rw [f1.2.2.1]
    refine wp_imul rfl ?_
    refine wp_iload rfl rfl ?_
    refine wp_iadd rfl ?_
    rw [ix1]
    refine wp_iload rfl rfl ?_
    refine wp_iload rfl rfl ?_
    refine wp_icmp_ne 61 rfl rfl (fun h58 => ?_) (fun h58 => ?_)
    · refine wp_iconst (v := 0) rfl rfl ?_
      first
      | exact nx _ (by rw [b2_t (hz.mp h58)])
      | exact nx _ (by rw [b2_f (fun z => h58 (hz.mpr z))])
    · refine wp_iconst (v := 1) rfl rfl ?_
      refine wp_goto 62 rfl rfl ?_
      first
      | exact nx _ (by rw [b2_t (hz.mp h58)])
      | exact nx _ (by rw [b2_f (fun z => h58 (hz.mpr z))])
/-- what the reference's plan leaves -/
def plM (P : PL) (I J : IF) (r : Int32) : Prop := (∀ q, q ≠ 72 → q ≠ 94 → q ≠ 99 → J q = I q) ∧ (∀ k, k ≠ 0 → k ≠ 30 → k ≠ 32 → J 72 k = I 72 k) ∧ J 72 30 = r ∧ J 72 32 = 0 ∧ ((∃ W, Wk P W ∧ r = nI W ∧ ∀ m, m < pN P → J 94 m = asW P W (I 94) W m) ∨ (Wn P ∧ r = -1))
theorem c_X11_plan (G : Gl) (d : Nat) {P : PL} (hp : plok P) {v : Int64} (hwd : ∀ w, w < 52 → pW P w = !wnd v w) (I : IF) (L : LF) (b : Bool) (hI : PM P I) (hk8 : I 72 8 ≤ 0) : MQ2 G (d + 3) Y_X11_plan [.ref 72, .int (nI (pC P)), .long v] (I, L, RR b) (fun r w2 => ∃ (x : Int32) (J : IF), r = some (.int x) ∧ w2 = (J, L, RR b) ∧ plM P I J x) := by
  generalize hQ : (fun (r : Option Value) (w2 : mW) => ∃ (x : Int32) (J : IF), r = some (.int x) ∧ w2 = (J, L, RR b) ∧ plM P I J x) = Q
  obtain ⟨n1, n2, c1, c2, hfd⟩ := id hp
  have hcr : 1 ≤ nI (pC P) ∧ nI (pC P) ≤ 3 := ⟨nI_le (a := 1) c1 (by omega), nI_le (b := 3) c2 (by omega)⟩
  have hne : ¬ uI (uI I 72 0 0) 72 32 0 72 5 = 0 := by rw [uI_nk (by decide), uI_nk (by decide), hI.1]; exact nI_ne0 (by omega) (by omega)
  have hP1 : PM P (uI (uI I 72 0 0) 72 32 0) := PM_cg hI (by rw [uI_nk (by decide), uI_nk (by decide)]) (by rw [uI_fn (by decide), uI_fn (by decide)]) (by rw [uI_fn (by decide), uI_fn (by decide)])
  have cf := c_X11_fewest G d hp hwd (uI (uI I 72 0 0) 72 32 0) L b hP1
  refine MT.intro m_X11_plan rfl (Nat.le_of_ble_eq_true rfl) ?_
  show WQ G (d + 3) Y_X11_plan Q 0 [(0, .ref 72), (1, .int (nI (pC P))), (2, .long v)] [] (I, L, RR b)
  refine wp_aload_n rfl rfl ?_
  refine wp_iconst (v := 0) rfl rfl ?_
  refine q_puti rfl rfl (by first | rfl | assumption) (Or.inl rfl) rfl ?_
  refine wp_iload_n rfl rfl ?_
  refine wp_i2l rfl ?_
  refine wp_lconst (v := 1) rfl rfl ?_
  refine wp_ldc2 (v := (3)) rfl cl_11_117 ?_
  refine cS1 rfl l_11_119 s_X11_in m_X11_in (c_inI G _ _ 1 3 rfl rfl _) rfl (Nat.le_of_ble_eq_true rfl) ?_
  refine wp_if_ne 11 rfl rfl (fun h8 => ?_) (fun h8 => ?_)
  · refine wp_aload_n rfl rfl ?_
    refine q_geti rfl rfl (by first | rfl | assumption) rfl ?_
    rw [uI_nk (by decide)]
    refine wp_if_le 16 rfl rfl (fun _ => ?_) (fun h13 => absurd hk8 h13)
    refine wp_aload_n rfl rfl ?_
    refine wp_iconst (v := 0) rfl rfl ?_
    refine q_putz rfl rfl (by first | rfl | assumption) (Or.inl rfl) rfl (Or.inl rfl) ?_
    refine wp_aload_n rfl rfl ?_
    refine wp_aload_n rfl rfl ?_
    refine q_geti rfl rfl (by first | rfl | assumption) rfl ?_
    refine wp_if_ne 25 rfl rfl (fun h22 => ?_) (fun h22 => ?_)
    · refine wp_aload_n rfl rfl ?_
      refine wp_iload_n rfl rfl ?_
      refine wp_lload_n rfl rfl ?_
      refine cVr rfl l_11_196 i_X11_fewest m_X11_fewest (by first | rfl | assumption) (by decide) (cf) rfl (Nat.le_of_ble_eq_true rfl) (fun r28 w28 hq28 => ?_)
      obtain ⟨J1, rfl, g1, g2⟩ := hq28
      have e72 : ∀ k, k ≠ 0 → k ≠ 32 → J1 72 k = I 72 k := fun k a1 a2 => by rw [g1 72 (by decide), uI_nk a2, uI_nk a1]
      have e32 : J1 72 32 = 0 := by rw [g1 72 (by decide), uI_eq]
      have eo : ∀ q, q ≠ 72 → q ≠ 99 → J1 q = I q := fun q a1 a2 => by rw [g1 q a2, uI_fn a1, uI_fn a1]
      rcases g2 with ⟨W, hW, rfl⟩ | ⟨hW, rfl⟩
      · have hW1 := hW.1
        have hW52 := hW.2.1
        have hfr : FRp I W (uI J1 72 30 (nI W)) := ⟨fun q a1 a2 a3 => by rw [uI_fn a1]; exact eo q a1 a3, fun k a1 a2 a3 => by rw [uI_nk a2]; exact e72 k a1 a3, uI_eq, by rw [uI_nk (by decide)]; exact e32⟩
        have hneg : ¬ nI W = (-1 : Int32) := by have := nI_pos' (n := W) (by omega); grind
        have eall : (1 : Int32) <<< (uI J1 72 30 (nI W) 72 5 &&& 31) - 1 = nI (allS P) := by
          rw [(hfr.pm hI).1, sh1 _ (by omega)]
          exact nI_m1 (Nat.two_pow_pos _)
        have top := p_top G d hp hwd hW I L b hI Q (fun J a1 a2 => by rw [← hQ]; exact ⟨_, J, rfl, rfl, a1.1, a1.2.1, a1.2.2.1, a1.2.2.2, Or.inl ⟨W, hW, rfl, a2⟩⟩) 1024 0 (by omega) (uI J1 72 30 (nI W)) hfr (by rw [uI_fn (by decide)]; exact eo 94 (by decide) (by decide)) (fun S hS => absurd hS (by omega))
        refine q_puti rfl rfl (by first | rfl | assumption) (Or.inl rfl) rfl ?_
        refine wp_aload_n rfl rfl ?_
        refine q_geti rfl rfl (by first | rfl | assumption) rfl ?_
        rw [uI_eq]
        refine wp_iconst (v := (-1)) rfl rfl ?_
        refine wp_icmp_ne 36 rfl rfl (fun _ => ?_) (fun h33 => absurd h33 hneg)
        refine wp_iconst (v := 1) rfl rfl ?_
        refine wp_aload_n rfl rfl ?_
        refine q_geti rfl rfl (by first | rfl | assumption) rfl ?_
        refine wp_ishl rfl ?_
        refine wp_iconst (v := 1) rfl rfl ?_
        refine wp_isub rfl ?_
        rw [eall]
        refine wp_istore (lv' := [(4, _), (0, _), (1, _), (2, _)]) rfl (by decide) rfl ?_
        refine wp_iconst (v := 0) rfl rfl ?_
        refine wp_istore (lv' := [(5, _), (4, _), (0, _), (1, _), (2, _)]) rfl (by decide) rfl ?_
        refine wp_loc (lv' := [(0, _), (1, _), (2, _), (4, _), (5, _)]) [2, 3, 4, 1, 0] rfl ?_
        exact top
      refine q_puti rfl rfl (by first | rfl | assumption) (Or.inl rfl) rfl ?_
      refine wp_aload_n rfl rfl ?_
      refine q_geti rfl rfl (by first | rfl | assumption) rfl ?_
      refine wp_iconst (v := (-1)) rfl rfl ?_
      rw [uI_eq]
      refine wp_icmp_ne 36 rfl rfl (fun h33 => ?_) (fun h33 => ?_)
      · exact absurd rfl h33
      · refine wp_iconst (v := (-1)) rfl rfl ?_
        exact wp_iret rfl rfl (by rw [← hQ]; exact ⟨_, _, rfl, rfl, fun q a1 a2 a3 => by rw [uI_fn a1]; exact eo q a1 a3, fun k a1 a2 a3 => by rw [uI_nk a2]; exact e72 k a1 a3, uI_eq, by rw [uI_nk (by decide)]; exact e32, Or.inr ⟨hW, rfl⟩⟩)
    · exact absurd h22 hne
  · exact absurd hcr (b2_eq.mp h8)
