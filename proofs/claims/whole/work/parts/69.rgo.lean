/-! go: the reference's call -/
theorem prt_L2 {t : Int64} {m : Nat} (hm : m < 2 ^ 31) : (if lN m < (if t < 0 then 0 else t) then lN m else (if t < 0 then 0 else t)) = lN (prt t m) := by
  rw [← prt_L hm]
  grind
def HB (Z : Nat → Nat → Int64) (H : Nat → Nat) (C0 s0 k : Nat) (I : IF) (L : LF) (J : IF) (L2 : LF) : Prop := (∀ q, q ≠ 72 → q ≠ 91 → J q = I q) ∧ (∀ q, q ≠ 0 → q ≠ 11 → (q < 42 ∨ 53 < q) → J 72 q = I 72 q) ∧ J 72 11 = nI (gvS Z H C0 s0 k) ∧ (∀ a, a < 16 → J 91 a = if a < k then I 91 a + nI (qv Z H C0 s0 a (gvS Z H C0 s0 a)) else I 91 a) ∧ ∀ q, q ≠ 72 → q ≠ 101 → L2 q = L q
def NB (k : Nat) (I J : IF) : Prop := (∀ a, a ≠ 84 → J a = I a) ∧ ∀ m, m < 10 → J 84 m = if m < k ∧ I 94 m = I 72 8 then 1 else I 84 m
theorem c_X11_go_no (G : Gl) (d : Nat) (I : IF) (L : LF) (b : Bool) (h : I 72 8 = 52 ∨ I 72 30 = -1 ∨ I 72 32 = 0) : MD G d Y_X11_go [.ref 72] (I, L, RR b) (some (.int (-9))) (uI I 72 0 0, L, RR b) := by
  have h2 : uI I 72 0 0 72 8 = 52 ∨ uI I 72 0 0 72 30 = -1 ∨ uI I 72 0 0 72 32 = 0 := by rw [uI_nk (by decide), uI_nk (by decide), uI_nk (by decide)]; exact h
  refine MT.intro m_X11_go rfl (Nat.le_of_ble_eq_true rfl) ?_
  show WQ G d Y_X11_go _ 0 [(0, .ref 72)] [] (I, L, RR b)
  refine wp_aload_n rfl rfl ?_
  refine wp_iconst (v := 0) rfl rfl ?_
  refine q_puti rfl rfl (by first | rfl | assumption) (Or.inl rfl) rfl ?_
  refine wp_aload_n rfl rfl ?_
  refine q_geti rfl rfl (by first | rfl | assumption) rfl ?_
  refine wp_bipush (v := 52) rfl rfl ?_
  refine wp_icmp_eq 14 rfl rfl (fun h6 => ?_) (fun h6 => ?_)
  · refine wp_bipush (v := (-9)) rfl rfl ?_
    exact wp_iret rfl rfl (⟨rfl, rfl⟩)
  · refine wp_aload_n rfl rfl ?_
    refine q_geti rfl rfl (by first | rfl | assumption) rfl ?_
    refine wp_iconst (v := (-1)) rfl rfl ?_
    refine wp_icmp_eq 14 rfl rfl (fun h10 => ?_) (fun h10 => ?_)
    · refine wp_bipush (v := (-9)) rfl rfl ?_
      exact wp_iret rfl rfl (⟨rfl, rfl⟩)
    · refine wp_aload_n rfl rfl ?_
      refine q_geti rfl rfl (by first | rfl | assumption) rfl ?_
      refine wp_if_ne 16 rfl rfl (fun h13 => ?_) (fun h13 => ?_)
      · exact absurd h2 (fun z => z.elim h6 (fun y => y.elim h10 h13))
      · refine wp_bipush (v := (-9)) rfl rfl ?_
        exact wp_iret rfl rfl (⟨rfl, rfl⟩)
theorem c_X11_go (G : Gl) (d : Nat) {T : Nat → Int32} {n j nm nr C0 s0 : Nat} {es : List RE} {Z : Nat → Nat → Int64} {H : Nat → Nat} {b : Bool} {I : IF} {L : LF} (hw : ¬ I 72 8 = 52) (hpl : ¬ I 72 30 = -1) (htu : ¬ I 72 32 = 0) (h5 : I 72 5 = nI nm) (hnm : nm ≤ 10) (h7 : I 72 7 = nI nr) (hnr : nr ≤ 16) (h11 : I 72 11 = nI s0) (hs0 : s0 ≤ 10000000) (hC0 : C0 ≤ 10000000) (hcap : (cpr es = -1 ∧ C0 = 10000000) ∨ (cpr es = nI C0 ∧ ¬ cpr es = -1)) (hn : n ≤ 300) (h98 : I 98 0 = nI n) (h97 : ∀ k, k < n → I 97 k = T k) (hp : prT (KK T n) fu0 = some (true, j, es)) (hZ : ∀ a s, a < 16 → Z a s = gl (fct6 (I 88 a) (I 89 a) (I 90 a) (I 91 a) (I 72 8) (nI s)) (gvs es)) (hH : ∀ a, a < 16 → I 88 a - I 91 a = nI (H a) ∧ H a ≤ 100000) : MQ2 G (d + 35) Y_X11_go [.ref 72] (I, L, RR b) (fun r w => r = some (.int (I 72 8 + 1)) ∧ ∃ J1 J2 L2, w = (uI J2 72 8 (I 72 8 + 1), L2, RR b) ∧ HB Z H C0 s0 nr I L J1 L2 ∧ NB nm J1 J2) := by
  suffices HH : ∀ Q : Option Value → mW → Prop, (∀ J1 J2 L2, HB Z H C0 s0 nr I L J1 L2 → NB nm J1 J2 → Q (some (.int (I 72 8 + 1))) (uI J2 72 8 (I 72 8 + 1), L2, RR b)) → MQ2 G (d + 35) Y_X11_go [.ref 72] (I, L, RR b) Q from HH _ (fun J1 J2 L2 a1 a2 => ⟨rfl, J1, J2, L2, rfl, a1, a2⟩)
  intro Q hQ
  have gle := gvS_le Z H C0 s0
  have K130 : ∀ (J1 : IF) (L2 : LF) (x1 : Int64) (x3 : Int32), HB Z H C0 s0 nr I L J1 L2 → WQ G (d + 35) Y_X11_go Q 130 [(0, .ref 72), (1, .long x1), (3, .int x3)] [] (J1, L2, RR b) := by
    intro J1 L2 x1 x3 hB
    obtain ⟨g1, g2, g3, g4, g5⟩ := id hB
    have e8 : J1 72 8 = I 72 8 := g2 8 (by decide) (by decide) (by omega)
    have e5 : J1 72 5 = nI nm := by rw [g2 5 (by decide) (by decide) (by omega)]; exact h5
    have loop : ∀ (p k : Nat) (J : IF), k + p = nm → NB k J1 J → WQ G (d + 35) Y_X11_go Q 132 [(0, .ref 72), (1, .long x1), (3, .int (nI k))] [] (J, L2, RR b) := by
      intro p
      induction p with
      | zero =>
        intro k J hk hM
        have hkn : k = nm := by omega
        subst hkn
        have jj : J 72 = J1 72 := hM.1 72 (by omega)
        have hge : J 72 5 ≤ nI k := by rw [jj, e5]; exact nI_le (by omega) (by omega)
        refine wp_iload_n rfl rfl ?_
        refine wp_aload_n rfl rfl ?_
        refine q_geti rfl rfl (by first | rfl | assumption) rfl ?_
        refine wp_icmp_ge 150 rfl rfl (fun _ => ?_) (fun h135 => absurd hge h135)
        refine wp_aload_n rfl rfl ?_
        refine wp_dup rfl rfl ?_
        refine q_geti rfl rfl (by first | rfl | assumption) rfl ?_
        refine wp_iconst (v := 1) rfl rfl ?_
        refine wp_iadd rfl ?_
        rw [jj, e8]
        refine q_puti rfl rfl (by first | rfl | assumption) (Or.inl rfl) rfl ?_
        refine wp_aload_n rfl rfl ?_
        refine q_geti rfl rfl (by first | rfl | assumption) rfl ?_
        rw [uI_eq]
        exact wp_iret rfl rfl (hQ J1 J L2 hB hM)
      | succ p ih =>
        intro k J hk hM
        have jj : J 72 = J1 72 := hM.1 72 (by omega)
        have hlt : ¬ J 72 5 ≤ nI k := by rw [jj, e5]; exact nI_ge (by omega) (by omega)
        have hk10 : k < 10 := by omega
        have hin : vp_in (nI k) 10 := vp_in_nI (by omega) (by omega)
        have hcl : (nI k).toNatClampNeg = k := nI_clamp (by omega)
        have e94 : J 94 k = J1 94 k := by rw [hM.1 94 (by decide)]
        have e8j : J 72 8 = J1 72 8 := by rw [jj]
        have nx : ∀ J3 : IF, (∀ a, a ≠ 84 → J3 a = J a) → (∀ m, m < 10 → J3 84 m = if m = k ∧ J1 94 k = J1 72 8 then 1 else J 84 m) → NB (k + 1) J1 J3 := by
          intro J3 z1 z3
          refine ⟨fun a ha => by rw [z1 a ha]; exact hM.1 a ha, fun m hm => ?_⟩
          rw [z3 m hm, hM.2 m hm]
          by_cases e : m = k
          · subst e
            by_cases e2 : J1 94 m = J1 72 8
            · rw [if_pos ⟨rfl, e2⟩, if_pos ⟨by omega, e2⟩]
            · rw [if_neg (fun z => e2 z.2), if_neg (fun z => e2 z.2), if_neg (fun z => e2 z.2)]
          · rw [if_neg (fun z => e z.1)]
            by_cases e2 : m < k ∧ J1 94 m = J1 72 8
            · rw [if_pos e2, if_pos ⟨by omega, e2.2⟩]
            · rw [if_neg e2, if_neg (fun z => e2 ⟨by omega, z.2⟩)]
        have K148 : ∀ J3 : IF, NB (k + 1) J1 J3 → WQ G (d + 35) Y_X11_go Q 148 [(0, .ref 72), (1, .long x1), (3, .int (nI k))] [] (J3, L2, RR b) := by
          intro J3 hM3
          refine wp_iinc (v := nI (k + 1)) (lv' := [(3, _), (0, _), (1, _)]) rfl rfl (nI_1 k) (by decide) rfl ?_
          refine wp_goto 132 rfl rfl ?_
          refine wp_loc (lv' := [(0, _), (1, _), (3, _)]) [1, 2, 0] rfl ?_
          exact ih (k + 1) J3 (by omega) hM3
        by_cases he : J1 94 k = J1 72 8
        · have hne : ¬ ¬ J 94 k = J 72 8 := fun z => z (by rw [e94, e8j]; exact he)
          refine wp_iload_n rfl rfl ?_
          refine wp_aload_n rfl rfl ?_
          refine q_geti rfl rfl (by first | rfl | assumption) rfl ?_
          refine wp_icmp_ge 150 rfl rfl (fun h135 => absurd h135 hlt) (fun _ => ?_)
          refine wp_aload_n rfl rfl ?_
          refine q_getr rfl rfl (by first | rfl | assumption) rfl rfl ?_
          refine wp_iload_n rfl rfl ?_
          refine q_iald rfl (by first | rfl | assumption) hin ?_
          rw [hcl]
          refine wp_aload_n rfl rfl ?_
          refine q_geti rfl rfl (by first | rfl | assumption) rfl ?_
          refine wp_icmp_ne 148 rfl rfl (fun h142 => absurd h142 hne) (fun _ => ?_)
          refine wp_aload_n rfl rfl ?_
          refine q_getr rfl rfl (by first | rfl | assumption) rfl rfl ?_
          refine wp_iload_n rfl rfl ?_
          refine wp_iconst (v := 1) rfl rfl ?_
          refine q_zast rfl (by first | rfl | assumption) hin ?_
          rw [hcl, show vp_nar .boolean 1 = 1 from rfl]
          refine K148 _ (nx _ (fun a ha => uI_fn ha) (fun m hm => ?_))
          by_cases e : m = k
          · subst e; rw [if_pos ⟨rfl, he⟩]; exact uI_eq
          · rw [if_neg (fun z => e z.1)]; exact uI_nk e
        · have hne : ¬ J 94 k = J 72 8 := by rw [e94, e8j]; exact he
          refine wp_iload_n rfl rfl ?_
          refine wp_aload_n rfl rfl ?_
          refine q_geti rfl rfl (by first | rfl | assumption) rfl ?_
          refine wp_icmp_ge 150 rfl rfl (fun h135 => absurd h135 hlt) (fun _ => ?_)
          refine wp_aload_n rfl rfl ?_
          refine q_getr rfl rfl (by first | rfl | assumption) rfl rfl ?_
          refine wp_iload_n rfl rfl ?_
          refine q_iald rfl (by first | rfl | assumption) hin ?_
          rw [hcl]
          refine wp_aload_n rfl rfl ?_
          refine q_geti rfl rfl (by first | rfl | assumption) rfl ?_
          refine wp_icmp_ne 148 rfl rfl (fun _ => ?_) (fun h142 => absurd h142 hne)
          exact K148 J (nx J (fun _ _ => rfl) (fun m hm => by rw [if_neg (fun z => he z.2)]))
    refine wp_iconst (v := 0) rfl rfl ?_
    refine wp_istore_n (lv' := [(3, _), (0, _), (1, _)]) rfl rfl (by decide) rfl ?_
    refine wp_loc (lv' := [(0, _), (1, _), (3, _)]) [1, 2, 0] rfl ?_
    exact loop nm 0 J1 (by omega) ⟨fun _ _ => rfl, fun m hm => by rw [if_neg (fun z => by omega)]⟩
  have loop : ∀ (p k : Nat) (J : IF) (L2 : LF), k + p = nr → HB Z H C0 s0 k I L J L2 → WQ G (d + 35) Y_X11_go Q 20 [(0, .ref 72), (1, .long (lN (s0 - gvS Z H C0 s0 k))), (3, .int (nI k))] [] (J, L2, RR b) := by
    intro p
    induction p with
    | zero =>
      intro k J L2 hk hB
      have hkn : k = nr := by omega
      subst hkn
      have hge : J 72 7 ≤ nI k := by rw [hB.2.1 7 (by decide) (by decide) (by omega), h7]; exact nI_le (by omega) (by omega)
      refine wp_iload_n rfl rfl ?_
      refine wp_aload_n rfl rfl ?_
      refine q_geti rfl rfl (by first | rfl | assumption) rfl ?_
      refine wp_icmp_ge 130 rfl rfl (fun _ => ?_) (fun h23 => absurd hge h23)
      exact K130 J L2 _ _ hB
    | succ p ih =>
      intro k J L2 hk hB
      obtain ⟨g1, g2, g3, g4, g5⟩ := id hB
      have hlt : ¬ J 72 7 ≤ nI k := by rw [g2 7 (by decide) (by decide) (by omega), h7]; exact nI_ge (by omega) (by omega)
      have hk16 : k < 16 := by omega
      have hin : vp_in (nI k) 16 := vp_in_nI (by omega) (by omega)
      have hcl : (nI k).toNatClampNeg = k := nI_clamp (by omega)
      have i6 : ∀ k, k < 6 → vp_in (nI k) 6 := fun k hk => vp_in_nI hk (by omega)
      have g91 : J 91 k = I 91 k := by rw [g4 k hk16, if_neg (by omega)]
      have gk := gle k
      obtain ⟨q1, q2, q3⟩ := qv_le Z H C0 s0 k (gvS Z H C0 s0 k)
      have hHk := (hH k hk16).2
      generalize hL6 : uL (uL (uL (uL (uL (uL L2 101 0 (J 88 k).toInt64) 101 1 (J 89 k).toInt64) 101 2 (J 90 k).toInt64) 101 3 (J 91 k).toInt64) 101 4 (J 72 8).toInt64) 101 5 (J 72 11).toInt64 = L6
      have l6o : ∀ q, q ≠ 101 → L6 q = L2 q := fun q hq => by rw [← hL6, uL_fn hq, uL_fn hq, uL_fn hq, uL_fn hq, uL_fn hq, uL_fn hq]
      have hF : ∀ u, u < 6 → L6 101 u = fct6 (J 88 k) (J 89 k) (J 90 k) (J 91 k) (J 72 8) (J 72 11) u := by
        intro u hu
        rw [← hL6]
        rcases (show u = 0 ∨ u = 1 ∨ u = 2 ∨ u = 3 ∨ u = 4 ∨ u = 5 by omega) with rfl | rfl | rfl | rfl | rfl | rfl <;> simp (disch := omega) only [uL_nk, uL_eq] <;> rfl
      have hval : (gst (L6 101) es).2 = Z k (gvS Z H C0 s0 k) := by
        rw [gst_gl, gl_cg hF, hZ k _ hk16, g1 88 (by decide) (by decide), g1 89 (by decide) (by decide), g1 90 (by decide) (by decide), g91, g2 8 (by decide) (by decide) (by omega), g3]
      have hrd := c_X11_reads G d (b := b) (t := 0) J L6 (by omega) hn (by rw [g1 98 (by decide) (by decide)]; exact h98) (fun u hu => by rw [g1 97 (by decide) (by decide), show 300 * 0 + u = u by omega]; exact h97 u hu) hp
      have hsk : gvS Z H C0 s0 (k + 1) = gvS Z H C0 s0 k - qv Z H C0 s0 k (gvS Z H C0 s0 k) := rfl
      generalize hsv : gvS Z H C0 s0 k = s at *
      generalize hq : qv Z H C0 s0 k s = q at *
      have hqd : prt (Z k s) (min (H k) (min s (C0 - (s0 - s)))) = q := by rw [← hq]; rfl
      have K108 : ∀ (J2 : IF) (L3 : LF), (∀ a, a ≠ 72 → J2 a = J a) → (∀ u, (u < 42 ∨ 53 < u) → J2 72 u = J 72 u) → (∀ a, a ≠ 72 → L3 a = L6 a) → WQ G (d + 35) Y_X11_go Q 108 [(0, .ref 72), (1, .long (lN (s0 - s))), (3, .int (nI k)), (4, .long (lN q))] [] (J2, L3, RR b) := by
        intro J2 L3 f1 f2 f3
        have e91 : J2 91 k = I 91 k := by rw [f1 91 (by decide)]; exact g91
        have e11 : ∀ v, uI J2 91 k v 72 11 = nI s := fun v => by rw [uI_ne (by decide), f2 11 (by omega)]; exact g3
        have hg := ih (k + 1) (uI (uI J2 91 k (I 91 k + nI q)) 72 11 (nI (s - q))) L3 (by omega) ⟨fun a a1 a2 => by rw [uI_fn a1, uI_fn a2, f1 a a1]; exact g1 a a1 a2, fun u u1 u2 u3 => by rw [uI_nk u2, uI_ne (by decide), f2 u u3]; exact g2 u u1 u2 u3, by rw [uI_eq, hsk], fun a ha => ?_, fun a a1 a2 => by rw [f3 a a1, l6o a a2]; exact g5 a a1 a2⟩
        · rw [hsk, show s0 - (s - q) = s0 - s + q by omega, ← lN_add] at hg
          refine wp_aload_n rfl rfl ?_
          refine q_getr rfl rfl (by first | rfl | assumption) rfl rfl ?_
          refine wp_iload_n rfl rfl ?_
          refine wp_dup2 rfl rfl rfl ?_
          refine q_iald rfl (by first | rfl | assumption) hin ?_
          rw [hcl, e91]
          refine wp_lload rfl rfl ?_
          refine wp_l2i rfl ?_
          rw [lN_i]
          refine wp_iadd rfl ?_
          refine q_iast rfl (by first | rfl | assumption) hin ?_
          rw [hcl]
          refine wp_aload_n rfl rfl ?_
          refine wp_dup rfl rfl ?_
          refine q_geti rfl rfl (by first | rfl | assumption) rfl ?_
          rw [e11]
          refine wp_lload rfl rfl ?_
          refine wp_l2i rfl ?_
          rw [lN_i]
          refine wp_isub rfl ?_
          rw [pk_sub q2]
          refine q_puti rfl rfl (by first | rfl | assumption) (Or.inl rfl) rfl ?_
          refine wp_lload_n rfl rfl ?_
          refine wp_lload rfl rfl ?_
          refine wp_ladd rfl ?_
          refine wp_lstore_n (lv' := [(1, _), (0, _), (3, _), (4, _)]) rfl rfl (by decide) rfl ?_
          refine wp_iinc (v := nI (k + 1)) (lv' := [(3, _), (1, _), (0, _), (4, _)]) rfl rfl (nI_1 k) (by decide) rfl ?_
          refine wp_goto 20 rfl rfl ?_
          refine wp_loc (lv' := [(0, _), (1, _), (3, _)]) [2, 1, 0] rfl ?_
          exact hg
        · rw [uI_ne (by decide)]
          by_cases e : a = k
          · subst e; rw [uI_eq, if_pos (by omega), hsv, hq]
          · rw [uI_nk e, f1 91 (by decide), g4 a ha]
            by_cases e2 : a < k
            · rw [if_pos e2, if_pos (by omega)]
            · rw [if_neg e2, if_neg (by omega)]
      have n1 : (if nI s < nI (H k) then nI s else nI (H k)) = nI (min (H k) s) := by
        have := nI_ltI (a := s) (b := H k) (by omega) (by omega)
        by_cases z : s < H k
        · rw [if_pos (this.mpr z), show min (H k) s = s by omega]
        · rw [if_neg (mt this.mp z), show min (H k) s = H k by omega]
      have n2 : (nI (min (H k) s)).toInt64 = lN (min (H k) s) := nI_l (by omega)
      have n3 := prt_L2 (t := Z k s) (m := min (H k) s) (by omega)
      have pm : prt (Z k s) (min (H k) s) ≤ s := by unfold prt; omega
      refine wp_iload_n rfl rfl ?_
      refine wp_aload_n rfl rfl ?_
      refine q_geti rfl rfl (by first | rfl | assumption) rfl ?_
      refine wp_icmp_ge 130 rfl rfl (fun h23 => absurd h23 hlt) (fun _ => ?_)
      refine wp_aload_n rfl rfl ?_
      refine q_getr rfl rfl (by first | rfl | assumption) rfl rfl ?_
      refine wp_iconst (v := 0) rfl rfl ?_
      refine wp_aload_n rfl rfl ?_
      refine q_getr rfl rfl (by first | rfl | assumption) rfl rfl ?_
      refine wp_iload_n rfl rfl ?_
      refine q_iald rfl (by first | rfl | assumption) hin ?_
      rw [hcl]
      refine wp_i2l rfl ?_
      refine q_last rfl (by first | rfl | assumption) (i6 0 (by omega)) ?_
      refine wp_aload_n rfl rfl ?_
      refine q_getr rfl rfl (by first | rfl | assumption) rfl rfl ?_
      refine wp_iconst (v := 1) rfl rfl ?_
      refine wp_aload_n rfl rfl ?_
      refine q_getr rfl rfl (by first | rfl | assumption) rfl rfl ?_
      refine wp_iload_n rfl rfl ?_
      refine q_iald rfl (by first | rfl | assumption) hin ?_
      rw [hcl]
      refine wp_i2l rfl ?_
      refine q_last rfl (by first | rfl | assumption) (i6 1 (by omega)) ?_
      refine wp_aload_n rfl rfl ?_
      refine q_getr rfl rfl (by first | rfl | assumption) rfl rfl ?_
      refine wp_iconst (v := 2) rfl rfl ?_
      refine wp_aload_n rfl rfl ?_
      refine q_getr rfl rfl (by first | rfl | assumption) rfl rfl ?_
      refine wp_iload_n rfl rfl ?_
      refine q_iald rfl (by first | rfl | assumption) hin ?_
      rw [hcl]
      refine wp_i2l rfl ?_
      refine q_last rfl (by first | rfl | assumption) (i6 2 (by omega)) ?_
      refine wp_aload_n rfl rfl ?_
      refine q_getr rfl rfl (by first | rfl | assumption) rfl rfl ?_
      refine wp_iconst (v := 3) rfl rfl ?_
      refine wp_aload_n rfl rfl ?_
      refine q_getr rfl rfl (by first | rfl | assumption) rfl rfl ?_
      refine wp_iload_n rfl rfl ?_
      refine q_iald rfl (by first | rfl | assumption) hin ?_
      rw [hcl]
      refine wp_i2l rfl ?_
      refine q_last rfl (by first | rfl | assumption) (i6 3 (by omega)) ?_
      refine wp_aload_n rfl rfl ?_
      refine q_getr rfl rfl (by first | rfl | assumption) rfl rfl ?_
      refine wp_iconst (v := 4) rfl rfl ?_
      refine wp_aload_n rfl rfl ?_
      refine q_geti rfl rfl (by first | rfl | assumption) rfl ?_
      refine wp_i2l rfl ?_
      refine q_last rfl (by first | rfl | assumption) (i6 4 (by omega)) ?_
      refine wp_aload_n rfl rfl ?_
      refine q_getr rfl rfl (by first | rfl | assumption) rfl rfl ?_
      refine wp_iconst (v := 5) rfl rfl ?_
      refine wp_aload_n rfl rfl ?_
      refine q_geti rfl rfl (by first | rfl | assumption) rfl ?_
      refine wp_i2l rfl ?_
      refine q_last rfl (by first | rfl | assumption) (i6 5 (by omega)) ?_
      rw [show uL (uL (uL (uL (uL (uL L2 101 (0 : Int32).toNatClampNeg (J 88 k).toInt64) 101 (1 : Int32).toNatClampNeg (J 89 k).toInt64) 101 (2 : Int32).toNatClampNeg (J 90 k).toInt64) 101 (3 : Int32).toNatClampNeg (J 91 k).toInt64) 101 (4 : Int32).toNatClampNeg (J 72 8).toInt64) 101 (5 : Int32).toNatClampNeg (J 72 11).toInt64 = L6 from hL6]
      refine wp_aload_n rfl rfl ?_
      refine wp_iconst (v := 0) rfl rfl ?_
      refine cVr rfl l_11_325 i_X11_reads m_X11_reads (by first | rfl | assumption) (by decide) (hrd) rfl (Nat.le_of_ble_eq_true rfl) (fun r76 w76 hq76 => ?_)
      obtain ⟨rfl, J2, L3, rfl, ⟨f1, f2, f3⟩, ht, -⟩ := hq76
      obtain ⟨v1, v2, v3, v4, v5⟩ := ht rfl
      have f2b : ∀ u, (u < 42 ∨ 53 < u) → J2 72 u = J 72 u := fun u hu => by
        by_cases e : u = 37
        · rw [e]; exact v2
        · exact f2 u e hu
      have e89 : J2 88 k - J2 91 k = nI (H k) := by rw [f1 88 (by decide), f1 91 (by decide), g91, g1 88 (by decide) (by decide)]; exact (hH k hk16).1
      have e11 : J2 72 11 = nI s := by rw [f2b 11 (by omega)]; exact g3
      refine wp_lconst (v := 0) rfl rfl ?_
      refine wp_aload_n rfl rfl ?_
      refine q_getl rfl rfl (by first | rfl | assumption) rfl ?_
      rw [v5, hval]
      refine q_mmaxL rfl l_11_335 (Nat.le_of_ble_eq_true rfl) ?_
      refine wp_aload_n rfl rfl ?_
      refine q_getr rfl rfl (by first | rfl | assumption) rfl rfl ?_
      refine wp_iload_n rfl rfl ?_
      refine q_iald rfl (by first | rfl | assumption) hin ?_
      rw [hcl]
      refine wp_aload_n rfl rfl ?_
      refine q_getr rfl rfl (by first | rfl | assumption) rfl rfl ?_
      refine wp_iload_n rfl rfl ?_
      refine q_iald rfl (by first | rfl | assumption) hin ?_
      rw [hcl]
      refine wp_isub rfl ?_
      rw [e89]
      refine wp_aload_n rfl rfl ?_
      refine q_geti rfl rfl (by first | rfl | assumption) rfl ?_
      rw [e11]
      refine q_mmin rfl l_11_305 (Nat.le_of_ble_eq_true rfl) ?_
      rw [n1]
      refine wp_i2l rfl ?_
      rw [n2]
      refine q_mminL rfl l_11_339 (Nat.le_of_ble_eq_true rfl) ?_
      rw [n3]
      refine wp_lstore (lv' := [(4, _), (0, _), (1, _), (3, _)]) rfl (by decide) rfl ?_
      refine wp_aload_n rfl rfl ?_
      refine q_geti rfl rfl (by first | rfl | assumption) rfl ?_
      refine wp_iconst (v := (-1)) rfl rfl ?_
      refine wp_icmp_eq 108 rfl rfl (fun h99 => ?_) (fun h99 => ?_)
      · refine wp_loc (lv' := [(0, _), (1, _), (3, _), (4, _)]) [1, 2, 3, 0] rfl ?_
        rcases hcap with ⟨c1, c2⟩ | ⟨c1, c2⟩
        · rw [show prt (Z k s) (min (H k) s) = q by rw [← hqd]; unfold prt; omega]
          exact K108 J2 L3 f1 f2b f3
        · exact absurd (show cpr es = -1 by rw [← v4]; exact h99) c2
      · refine wp_loc (lv' := [(0, _), (1, _), (3, _), (4, _)]) [1, 2, 3, 0] rfl ?_
        rcases hcap with ⟨c1, _⟩ | ⟨c1, c2⟩
        · exact absurd (show J2 72 49 = -1 by rw [v4]; exact c1) h99
        · have m1 : (nI C0).toInt64 = lN C0 := nI_l (by omega)
          have m2 : lN C0 - lN (s0 - s) = lN (C0 - (s0 - s)) := lN_sub (by omega)
          have m3 : (if lN (C0 - (s0 - s)) < lN (prt (Z k s) (min (H k) s)) then lN (C0 - (s0 - s)) else lN (prt (Z k s) (min (H k) s))) = lN q := by
            have := lN_lt (a := C0 - (s0 - s)) (b := prt (Z k s) (min (H k) s)) (by omega) (by omega)
            rw [← hqd]
            by_cases z : C0 - (s0 - s) < prt (Z k s) (min (H k) s)
            · rw [if_pos (this.mpr z), show prt (Z k s) (min (H k) (min s (C0 - (s0 - s)))) = C0 - (s0 - s) by unfold prt at *; omega]
            · rw [if_neg (mt this.mp z), show prt (Z k s) (min (H k) (min s (C0 - (s0 - s)))) = prt (Z k s) (min (H k) s) by unfold prt at *; omega]
          have e49 : J2 72 49 = nI C0 := by rw [v4]; exact c1
          refine wp_lload rfl rfl ?_
          refine wp_aload_n rfl rfl ?_
          refine q_geti rfl rfl rfl rfl ?_
          rw [e49]
          refine wp_i2l rfl ?_
          refine wp_lload_n rfl rfl ?_
          refine wp_lsub rfl ?_
          rw [m1, m2]
          refine q_mminL rfl l_11_339 (Nat.le_of_ble_eq_true rfl) ?_
          rw [m3]
          refine wp_lstore (lv' := [(4, _), (0, _), (1, _), (3, _)]) rfl (by decide) rfl ?_
          refine wp_loc (lv' := [(0, _), (1, _), (3, _), (4, _)]) [1, 2, 3, 0] rfl ?_
          exact K108 J2 L3 f1 f2b f3
  generalize hI0 : uI I 72 0 0 = I0
  have i8 : ∀ q, q ≠ 0 → I0 72 q = I 72 q := fun q hq => by rw [← hI0]; exact uI_nk hq
  have w1 : ¬ I0 72 8 = 52 := by rw [i8 8 (by decide)]; exact hw
  have w2 : ¬ I0 72 30 = -1 := by rw [i8 30 (by decide)]; exact hpl
  have w3 : ¬ I0 72 32 = 0 := by rw [i8 32 (by decide)]; exact htu
  have hg := loop nr 0 I0 L (by omega) ⟨fun q q1 _ => by rw [← hI0]; exact uI_fn q1, fun q q1 _ _ => i8 q q1, by rw [i8 11 (by decide)]; exact h11, fun a ha => by rw [if_neg (by omega), ← hI0]; exact uI_ne (by decide), fun _ _ _ => rfl⟩
  rw [show s0 - gvS Z H C0 s0 0 = 0 by show s0 - s0 = 0; omega] at hg
  refine MT.intro m_X11_go rfl (Nat.le_of_ble_eq_true rfl) ?_
  show WQ G (d + 35) Y_X11_go Q 0 [(0, .ref 72)] [] (I, L, RR b)
  refine wp_aload_n rfl rfl ?_
  refine wp_iconst (v := 0) rfl rfl ?_
  refine q_puti rfl rfl (by first | rfl | assumption) (Or.inl rfl) rfl ?_
  rw [hI0]
  refine wp_aload_n rfl rfl ?_
  refine q_geti rfl rfl (by first | rfl | assumption) rfl ?_
  refine wp_bipush (v := 52) rfl rfl ?_
  refine wp_icmp_eq 14 rfl rfl (fun h6 => absurd h6 w1) (fun _ => ?_)
  refine wp_aload_n rfl rfl ?_
  refine q_geti rfl rfl (by first | rfl | assumption) rfl ?_
  refine wp_iconst (v := (-1)) rfl rfl ?_
  refine wp_icmp_eq 14 rfl rfl (fun h10 => absurd h10 w2) (fun _ => ?_)
  refine wp_aload_n rfl rfl ?_
  refine q_geti rfl rfl (by first | rfl | assumption) rfl ?_
  refine wp_if_ne 16 rfl rfl (fun _ => ?_) (fun h13 => absurd h13 w3)
  refine wp_lconst (v := 0) rfl rfl ?_
  refine wp_lstore_n (lv' := [(1, _), (0, _)]) rfl rfl (by decide) rfl ?_
  refine wp_iconst (v := 0) rfl rfl ?_
  refine wp_istore_n (lv' := [(3, _), (1, _), (0, _)]) rfl rfl (by decide) rfl ?_
  refine wp_loc (lv' := [(0, _), (1, _), (3, _)]) [2, 1, 0] rfl ?_
  exact hg
