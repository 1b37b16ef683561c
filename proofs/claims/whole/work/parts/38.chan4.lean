/-! channels: the reference's -/
theorem c_X11_hurtsOne (G : Gl) (d : Nat) {nm na nr s m : Nat} (I : IF) (L : LF) (b : Bool) (h : IW nm na nr I) (hs : s < 14) (hm : m < nm) : MD G (d + 2) Y_X11_hurtsOne [.ref 72, .int (nI s), .int (nI m)] (I, L, RR b) (some (.int (b2 (hO I nr s m = true)))) (I, L, RR b) := by
  have hn : nm ≤ 10 := h.1.1.2.2
  have hnr : nr ≤ 16 := h.1.2.2.2.2
  have h7 : I 72 7 = nI nr := h.1.2.2.2.1
  have loop : ∀ (p i : Nat), i + p = nr → (∀ a, a < i → ¬ (I (18 + a) 6 = nI m ∧ stg I m a < I 1 7 * stg I s a)) → WQ G (d + 2) Y_X11_hurtsOne (fun r' w'' => r' = some (.int (b2 (hO I nr s m = true))) ∧ w'' = (I, L, RR b)) 2 [(0, .ref 72), (1, .int (nI s)), (2, .int (nI m)), (3, .int (nI i))] [] (I, L, RR b) := by
    intro p
    induction p with
    | zero =>
      intro i hi hno
      have hie : i = nr := by omega
      subst hie
      have hge : I 72 7 ≤ nI i := by rw [h7]; exact nI_le (Nat.le_refl _) (by omega)
      have hf : ¬ hO I i s m = true := by
        unfold hO
        rw [exB_iff]
        rintro ⟨a, z1, z2⟩
        exact hno a z1 (of_decide_eq_true z2)
      refine wp_iload_n rfl rfl ?_
      refine wp_aload_n rfl rfl ?_
      refine q_geti rfl rfl (by first | rfl | assumption) rfl ?_
      refine wp_icmp_ge 21 rfl rfl (fun _ => ?_) (fun h5 => absurd hge h5)
      refine wp_iconst (v := 0) rfl rfl ?_
      exact wp_zret rfl rfl (by first | rfl | exact nb2 _ | assumption) (⟨by rw [b2_f hf], rfl⟩)
    | succ p ih =>
      intro i hi hno
      have hlt : ¬ I 72 7 ≤ nI i := by rw [h7]; exact nI_ge (by omega) (by omega)
      have hin : vp_in (nI i) 16 := vp_in_nI (by omega) (by omega)
      have hcl : (nI i).toNatClampNeg = i := nI_clamp (by omega)
      have z9 := (h.2.2.2.1 i (by omega)).1 (by omega)
      have next : ¬ (I (18 + i) 6 = nI m ∧ stg I m i < I 1 7 * stg I s i) → WQ G (d + 2) Y_X11_hurtsOne (fun r' w'' => r' = some (.int (b2 (hO I nr s m = true))) ∧ w'' = (I, L, RR b)) 2 [(0, .ref 72), (1, .int (nI s)), (2, .int (nI m)), (3, .int (nI (i + 1)))] [] (I, L, RR b) := fun hz => ih (i + 1) (by omega) (fun a ha => by
        rcases Nat.lt_or_ge a i with e | e
        · exact hno a e
        · rw [show a = i by omega]; exact hz)
      by_cases e6 : I (18 + i) 6 = nI m
      · by_cases hc : stg I m i < I 1 7 * stg I s i
        · have ht : hO I nr s m = true := by unfold hO; rw [exB_iff]; exact ⟨i, by omega, decide_eq_true ⟨e6, hc⟩⟩
          refine wp_iload_n rfl rfl ?_
          refine wp_aload_n rfl rfl ?_
          refine q_geti rfl rfl (by first | rfl | assumption) rfl ?_
          refine wp_icmp_ge 21 rfl rfl (fun h5 => absurd h5 hlt) (fun _ => ?_)
          refine wp_aload_n rfl rfl ?_
          refine q_getr rfl rfl (by first | rfl | assumption) rfl rfl ?_
          refine wp_iload_n rfl rfl ?_
          refine q_iald rfl (by first | rfl | assumption) (by assumption) ?_
          refine wp_iload_n rfl rfl ?_
          refine wp_icmp_ne 19 rfl rfl (fun h11 => ?_) (fun h11 => ?_)
          · exact absurd (by rw [hcl, z9.1]; exact e6) h11
          · refine wp_aload_n rfl rfl ?_
            refine wp_iload_n rfl rfl ?_
            refine wp_iload_n rfl rfl ?_
            refine cV1 rfl l_11_178 i_X11_hurts m_X11_hurts (by first | rfl | assumption) (by decide) (c_hurtsW G _ _ _ _ _ _ h hs (a := i) (o := m) (by omega) rfl rfl e6 hm) rfl (Nat.le_of_ble_eq_true rfl) ?_
            refine wp_if_eq 19 rfl rfl (fun h16 => ?_) (fun h16 => ?_)
            · exact absurd hc (b2_eq.mp h16)
            · refine wp_iconst (v := 1) rfl rfl ?_
              exact wp_zret rfl rfl (by first | rfl | exact nb2 _ | assumption) (⟨by rw [b2_t ht], rfl⟩)
        · refine wp_iload_n rfl rfl ?_
          refine wp_aload_n rfl rfl ?_
          refine q_geti rfl rfl (by first | rfl | assumption) rfl ?_
          refine wp_icmp_ge 21 rfl rfl (fun h5 => absurd h5 hlt) (fun _ => ?_)
          refine wp_aload_n rfl rfl ?_
          refine q_getr rfl rfl (by first | rfl | assumption) rfl rfl ?_
          refine wp_iload_n rfl rfl ?_
          refine q_iald rfl (by first | rfl | assumption) (by assumption) ?_
          refine wp_iload_n rfl rfl ?_
          refine wp_icmp_ne 19 rfl rfl (fun h11 => ?_) (fun h11 => ?_)
          · exact absurd (by rw [hcl, z9.1]; exact e6) h11
          · refine wp_aload_n rfl rfl ?_
            refine wp_iload_n rfl rfl ?_
            refine wp_iload_n rfl rfl ?_
            refine cV1 rfl l_11_178 i_X11_hurts m_X11_hurts (by first | rfl | assumption) (by decide) (c_hurtsW G _ _ _ _ _ _ h hs (a := i) (o := m) (by omega) rfl rfl e6 hm) rfl (Nat.le_of_ble_eq_true rfl) ?_
            refine wp_if_eq 19 rfl rfl (fun h16 => ?_) (fun h16 => ?_)
            · refine wp_iinc (v := nI (i + 1)) (lv' := [(3, _), (0, _), (1, _), (2, _)]) rfl rfl (nI_1 i) (by decide) rfl ?_
              refine wp_goto 2 rfl rfl ?_
              refine wp_loc (lv' := [(0, _), (1, _), (2, _), (3, _)]) [1, 2, 3, 0] rfl ?_
              exact next (fun z => hc z.2)
            · exact absurd (b2_ne.mp h16) hc
      · refine wp_iload_n rfl rfl ?_
        refine wp_aload_n rfl rfl ?_
        refine q_geti rfl rfl (by first | rfl | assumption) rfl ?_
        refine wp_icmp_ge 21 rfl rfl (fun h5 => absurd h5 hlt) (fun _ => ?_)
        refine wp_aload_n rfl rfl ?_
        refine q_getr rfl rfl (by first | rfl | assumption) rfl rfl ?_
        refine wp_iload_n rfl rfl ?_
        refine q_iald rfl (by first | rfl | assumption) (by assumption) ?_
        refine wp_iload_n rfl rfl ?_
        refine wp_icmp_ne 19 rfl rfl (fun h11 => ?_) (fun h11 => ?_)
        · refine wp_iinc (v := nI (i + 1)) (lv' := [(3, _), (0, _), (1, _), (2, _)]) rfl rfl (nI_1 i) (by decide) rfl ?_
          refine wp_goto 2 rfl rfl ?_
          refine wp_loc (lv' := [(0, _), (1, _), (2, _), (3, _)]) [1, 2, 3, 0] rfl ?_
          exact next (fun z => e6 z.1)
        · exact absurd (by rw [hcl, z9.1] at h11; exact h11) e6
  refine MT.intro m_X11_hurtsOne rfl (Nat.le_of_ble_eq_true rfl) ?_
  show WQ G (d + 2) Y_X11_hurtsOne _ 0 [(0, .ref 72), (1, .int (nI s)), (2, .int (nI m))] [] (I, L, RR b)
  refine wp_iconst (v := 0) rfl rfl ?_
  refine wp_istore_n (lv' := [(3, _), (0, _), (1, _), (2, _)]) rfl rfl (by decide) rfl ?_
  refine wp_loc (lv' := [(0, _), (1, _), (2, _), (3, _)]) [1, 2, 3, 0] rfl ?_
  exact loop nr 0 (by omega) (fun a ha => absurd ha (by omega))
/-- what bars a channel, as the reference asks for it -/
def bdM (I : IF) (nm na nr m : Nat) (ch : Nat → Nat) (n : Nat) : Prop := nrB I nm na nr m n = true ∧ ((n < m ∧ ch n = ch m) ∨ (I (4 + m) 7 < I (4 + n) 7 ∧ I (4 + n) 5 = nI (ch m)))
def bdA (I : IF) (nm na nr m : Nat) (ch : Nat → Nat) (k : Nat) : Prop := nrB I nm na nr m (10 + k) = true ∧ I (4 + m) 7 < I (14 + k) 8 ∧ I (14 + k) 5 = nI (ch m)
theorem ok_iff {I : IF} {nm na nr m : Nat} {ch : Nat → Nat} (hm : m < nm) (hn : nm ≤ 10) (hna : na ≤ 4) : okB I nm na nr ch m = true ↔ (∀ n, n < nm → ¬ bdM I nm na nr m ch n) ∧ ∀ k, k < na → ¬ bdA I nm na nr m ch k := by
  have hlow : ∀ s, s < 10 → nrB I nm na nr m s = true → s < nm := by
    intro s hs hz
    unfold nrB at hz
    rw [if_pos hs, Bool.and_eq_true, decide_eq_true_eq] at hz
    exact hz.1.1
  have hhi : ∀ s, 10 ≤ s → nrB I nm na nr m s = true → s - 10 < na := by
    intro s hs hz
    unfold nrB at hz
    rw [if_neg (by omega), Bool.and_eq_true, decide_eq_true_eq] at hz
    exact hz.1
  unfold okB
  rw [Bool.not_eq_true', Bool.or_eq_false_iff]
  have e1 : bnB I nm na nr m (ch m) = true ↔ (∃ n, n < nm ∧ nrB I nm na nr m n = true ∧ I (4 + m) 7 < I (4 + n) 7 ∧ I (4 + n) 5 = nI (ch m)) ∨ ∃ k, k < na ∧ bdA I nm na nr m ch k := by
    unfold bnB
    rw [exB_iff]
    constructor
    · rintro ⟨s, z1, z2⟩
      rw [Bool.and_eq_true, decide_eq_true_eq] at z2
      obtain ⟨z2, z3, z4⟩ := z2
      rcases Nat.lt_or_ge s 10 with e | e
      · rw [if_pos e] at z3
        exact Or.inl ⟨s, hlow s e z2, z2, z3, z4⟩
      · rw [if_neg (by omega)] at z3
        refine Or.inr ⟨s - 10, hhi s e z2, ?_⟩
        unfold bdA
        rw [show 10 + (s - 10) = s by omega, show 14 + (s - 10) = 4 + s by omega]
        exact ⟨z2, z3, z4⟩
    · rintro (⟨n, z1, z2, z3, z4⟩ | ⟨k, z1, z2, z3, z4⟩)
      · refine ⟨n, by omega, ?_⟩
        rw [z2, if_pos (by omega), Bool.true_and]
        exact decide_eq_true ⟨z3, z4⟩
      · refine ⟨10 + k, by omega, ?_⟩
        rw [z2, if_neg (by omega), Bool.true_and, show 4 + (10 + k) = 14 + k by omega]
        exact decide_eq_true ⟨z3, z4⟩
  have e2 : exB (fun j => nrB I nm na nr m j && decide (ch j = ch m)) m = true ↔ ∃ n, n < nm ∧ nrB I nm na nr m n = true ∧ n < m ∧ ch n = ch m := by
    rw [exB_iff]
    constructor
    · rintro ⟨s, z1, z2⟩
      rw [Bool.and_eq_true, decide_eq_true_eq] at z2
      exact ⟨s, by omega, z2.1, z1, z2.2⟩
    · rintro ⟨n, z1, z2, z3, z4⟩
      exact ⟨n, z3, by rw [z2, Bool.true_and]; exact decide_eq_true z4⟩
  rw [← Bool.not_eq_true, ← Bool.not_eq_true, e1, e2]
  unfold bdM
  constructor
  · rintro ⟨z1, z2⟩
    refine ⟨fun n hn2 hz => ?_, fun k hk hz => z1 (Or.inr ⟨k, hk, hz⟩)⟩
    rcases hz.2 with z | z
    · exact z2 ⟨n, hn2, hz.1, z⟩
    · exact z1 (Or.inl ⟨n, hn2, hz.1, z⟩)
  · rintro ⟨z1, z2⟩
    refine ⟨?_, ?_⟩
    · rintro (⟨n, y1, y2, y3⟩ | ⟨k, y1, y2⟩)
      · exact z1 n y1 ⟨y2, Or.inr y3⟩
      · exact z2 k y1 y2
    · rintro ⟨n, y1, y2, y3⟩
      exact z1 n y1 ⟨y2, Or.inl y3⟩
theorem nrB_self {I : IF} {nm na nr m : Nat} (hm : m < 10) : ¬ nrB I nm na nr m m = true := by
  unfold nrB
  rw [if_pos hm, Bool.and_eq_true, decide_eq_true_eq]
  exact fun z => z.1.2 rfl
theorem ix14 {m s : Nat} (hm : m < 10) (hs : s < 14) : (14 : Int32) * nI m + nI s = nI (14 * m + s) ∧ vp_in ((14 : Int32) * nI m + nI s) 196 ∧ ((14 : Int32) * nI m + nI s).toNatClampNeg = 14 * m + s := by
  have e : (14 : Int32) * nI m + nI s = nI (14 * m + s) := by rw [show (14 : Int32) = nI 14 from rfl, pk_mul, nI_add]
  rw [e]
  exact ⟨rfl, vp_in_nI (by omega) (by omega), nI_clamp (by omega)⟩
/-- the reference's world while it looks -/
def MWd (I : IF) (nm na nr : Nat) (J : IF) : Prop := (∀ q, q ≠ 72 → q ≠ 95 → q ≠ 100 → J q = I q) ∧ (∀ k, k ≠ 0 → k ≠ 31 → k ≠ 32 → J 72 k = I 72 k) ∧ ∀ m s, m < nm → s < 10 + na → J 100 (14 * m + s) = b2 (nrB I nm na nr m s = true)
theorem c_X11_goes (G : Gl) (d : Nat) {nm na nr m : Nat} {x y : Int32} (I J : IF) (L : LF) (b : Bool) (h : IW nm na nr I) (hp : ∀ m, m < nm → I 94 m = I (4 + m) 7) (hu : ∀ k, k < 4 → I 82 k = I (14 + k) 8) (hJ : MWd I nm na nr J) (hm : m < nm) {ch : Nat → Nat} (hch : ∀ l, l ≤ m → J 95 l = nI (ch l)) (hch2 : ∀ l, l ≤ m → ch l ≤ 11) (hx : x = nI m) (hy : y = nI (ch m)) : MD G d Y_X11_goes [.ref 72, .int x, .int y] (J, L, RR b) (some (.int (b2 (okB I nm na nr ch m = true)))) (J, L, RR b) := by
  subst hx
  subst hy
  have hn : nm ≤ 10 := h.1.1.2.2
  have hna : na ≤ 4 := h.1.2.1.2.2
  obtain ⟨j1, j2, j3⟩ := hJ
  have h5 : J 72 5 = nI nm := by rw [j2 5 (by decide) (by decide) (by decide)]; exact h.1.1.2.1
  have h6 : J 72 6 = nI na := by rw [j2 6 (by decide) (by decide) (by decide)]; exact h.1.2.1.2.1
  have hinm : vp_in (nI m) 10 := vp_in_nI (by omega) (by omega)
  have hclm : (nI m).toNatClampNeg = m := nI_clamp (by omega)
  have epl : ∀ n, n < nm → J 94 n = I (4 + n) 7 := fun n hn2 => by rw [j1 94 (by decide) (by decide) (by decide)]; exact hp n hn2
  have eold : ∀ n, n < 14 → J 80 n = I (4 + n) 5 := fun n hn2 => by rw [j1 80 (by decide) (by decide) (by decide)]; exact (h.2.1 n hn2).1.2.2.2
  have eun : ∀ k, k < 4 → J 82 k = I (14 + k) 8 := fun k hk => by rw [j1 82 (by decide) (by decide) (by decide)]; exact hu k hk
  have fin0 : ∀ lv, ¬ okB I nm na nr ch m = true → WQ G d Y_X11_goes (fun r' w'' => r' = some (.int (b2 (okB I nm na nr ch m = true))) ∧ w'' = (J, L, RR b)) 29 lv [.int 0] (J, L, RR b) := fun lv hz => by
    rw [b2_f hz]
    exact wp_zret rfl rfl rfl ⟨rfl, rfl⟩
  have fin1 : ∀ lv, ¬ okB I nm na nr ch m = true → WQ G d Y_X11_goes (fun r' w'' => r' = some (.int (b2 (okB I nm na nr ch m = true))) ∧ w'' = (J, L, RR b)) 46 lv [.int 0] (J, L, RR b) := fun lv hz => by
    rw [b2_f hz]
    exact wp_zret rfl rfl rfl ⟨rfl, rfl⟩
  have fin2 : ∀ lv, ¬ okB I nm na nr ch m = true → WQ G d Y_X11_goes (fun r' w'' => r' = some (.int (b2 (okB I nm na nr ch m = true))) ∧ w'' = (J, L, RR b)) 84 lv [.int 0] (J, L, RR b) := fun lv hz => by
    rw [b2_f hz]
    exact wp_zret rfl rfl rfl ⟨rfl, rfl⟩
  have loop2 : (∀ n, n < nm → ¬ bdM I nm na nr m ch n) → ∀ (p i : Nat), i + p = na → (∀ k, k < i → ¬ bdA I nm na nr m ch k) → WQ G d Y_X11_goes (fun r' w'' => r' = some (.int (b2 (okB I nm na nr ch m = true))) ∧ w'' = (J, L, RR b)) 51 [(0, .ref 72), (1, .int (nI m)), (2, .int (nI (ch m))), (3, .int (nI i))] [] (J, L, RR b) := by
    intro hM p
    induction p with
    | zero =>
      intro i hi hno
      have hie : i = na := by omega
      subst hie
      have hge : J 72 6 ≤ nI i := by rw [h6]; exact nI_le (Nat.le_refl _) (by omega)
      refine wp_iload_n rfl rfl ?_
      refine wp_aload_n rfl rfl ?_
      refine q_geti rfl rfl (by first | rfl | assumption) rfl ?_
      refine wp_icmp_ge 87 rfl rfl (fun _ => ?_) (fun h54 => absurd hge h54)
      refine wp_iconst (v := 1) rfl rfl ?_
      exact wp_zret rfl rfl (by first | rfl | exact nb2 _ | assumption) (⟨by rw [b2_t ((ok_iff hm hn hna).mpr ⟨hM, hno⟩)], rfl⟩)
    | succ p ih =>
      intro i hi hno
      have hlt : ¬ J 72 6 ≤ nI i := by rw [h6]; exact nI_ge (by omega) (by omega)
      have e14 : (14 : Int32) * nI m + 10 + nI i = (14 : Int32) * nI m + nI (10 + i) := by rw [← nI_add 10 i]; show _ = _ + (10 + nI i); grind
      obtain ⟨-, x2, x3⟩ := ix14 (m := m) (s := 10 + i) (by omega) (by omega)
      have hini : vp_in (nI i) 4 := vp_in_nI (by omega) (by omega)
      have hcli : (nI i).toNatClampNeg = i := nI_clamp (by omega)
      have e10 : (10 : Int32) + nI i = nI (10 + i) := nI_add 10 i
      have hinz : vp_in (nI (10 + i)) 14 := vp_in_nI (by omega) (by omega)
      have hclz : (nI (10 + i)).toNatClampNeg = 10 + i := nI_clamp (by omega)
      have next : ¬ bdA I nm na nr m ch i → WQ G d Y_X11_goes (fun r' w'' => r' = some (.int (b2 (okB I nm na nr ch m = true))) ∧ w'' = (J, L, RR b)) 51 [(0, .ref 72), (1, .int (nI m)), (2, .int (nI (ch m))), (3, .int (nI (i + 1)))] [] (J, L, RR b) := fun hz => ih (i + 1) (by omega) (fun k hk => by
        rcases Nat.lt_or_ge k i with e | e
        · exact hno k e
        · rw [show k = i by omega]; exact hz)
      have en := j3 m (10 + i) hm (by omega)
      refine wp_iload_n rfl rfl ?_
      refine wp_aload_n rfl rfl ?_
      refine q_geti rfl rfl (by first | rfl | assumption) rfl ?_
      refine wp_icmp_ge 87 rfl rfl (fun h54 => absurd h54 hlt) (fun _ => ?_)
      refine wp_aload_n rfl rfl ?_
      refine q_getr rfl rfl (by first | rfl | assumption) rfl rfl ?_
      refine wp_bipush (v := 14) rfl rfl ?_
      refine wp_iload_n rfl rfl ?_
      refine wp_imul rfl ?_
      refine wp_bipush (v := 10) rfl rfl ?_
      refine wp_iadd rfl ?_
      refine wp_iload_n rfl rfl ?_
      refine wp_iadd rfl ?_
      rw [e14]
      refine q_zald rfl (by first | rfl | assumption) x2 ?_
      rw [x3, en]
      refine wp_if_eq 85 rfl rfl (fun h65 => ?_) (fun h65 => ?_)
      · refine wp_iinc (v := nI (i + 1)) (lv' := [(3, _), (0, _), (1, _), (2, _)]) rfl rfl (nI_1 i) (by decide) rfl ?_
        refine wp_goto 51 rfl rfl ?_
        refine wp_loc (lv' := [(0, _), (1, _), (2, _), (3, _)]) [1, 2, 3, 0] rfl ?_
        first
        | exact next (fun z => (b2_eq.mp h65) z.1)
        | exact next (fun z => by rw [hcli, hclm, eun i (by omega), epl m hm] at h74; exact absurd z.2.1 (by grind))
        | exact next (fun z => h82 (by rw [hclz, eold (10 + i) (by omega), show 4 + (10 + i) = 14 + i by omega]; exact z.2.2))
      · refine wp_aload_n rfl rfl ?_
        refine q_getr rfl rfl (by first | rfl | assumption) rfl rfl ?_
        refine wp_iload_n rfl rfl ?_
        refine q_iald rfl (by first | rfl | assumption) (by assumption) ?_
        refine wp_aload_n rfl rfl ?_
        refine q_getr rfl rfl (by first | rfl | assumption) rfl rfl ?_
        refine wp_iload_n rfl rfl ?_
        refine q_iald rfl (by first | rfl | assumption) (by assumption) ?_
        refine wp_icmp_le 85 rfl rfl (fun h74 => ?_) (fun h74 => ?_)
        · refine wp_iinc (v := nI (i + 1)) (lv' := [(3, _), (0, _), (1, _), (2, _)]) rfl rfl (nI_1 i) (by decide) rfl ?_
          refine wp_goto 51 rfl rfl ?_
          refine wp_loc (lv' := [(0, _), (1, _), (2, _), (3, _)]) [1, 2, 3, 0] rfl ?_
          first
          | exact next (fun z => (b2_eq.mp h65) z.1)
          | exact next (fun z => by rw [hcli, hclm, eun i (by omega), epl m hm] at h74; exact absurd z.2.1 (by grind))
          | exact next (fun z => h82 (by rw [hclz, eold (10 + i) (by omega), show 4 + (10 + i) = 14 + i by omega]; exact z.2.2))
        · refine wp_aload_n rfl rfl ?_
          refine q_getr rfl rfl (by first | rfl | assumption) rfl rfl ?_
          refine wp_bipush (v := 10) rfl rfl ?_
          refine wp_iload_n rfl rfl ?_
          refine wp_iadd rfl ?_
          rw [e10]
          refine q_iald rfl (by first | rfl | assumption) hinz ?_
          refine wp_iload_n rfl rfl ?_
          refine wp_icmp_ne 85 rfl rfl (fun h82 => ?_) (fun h82 => ?_)
          · refine wp_iinc (v := nI (i + 1)) (lv' := [(3, _), (0, _), (1, _), (2, _)]) rfl rfl (nI_1 i) (by decide) rfl ?_
            refine wp_goto 51 rfl rfl ?_
            refine wp_loc (lv' := [(0, _), (1, _), (2, _), (3, _)]) [1, 2, 3, 0] rfl ?_
            first
            | exact next (fun z => (b2_eq.mp h65) z.1)
            | exact next (fun z => by rw [hcli, hclm, eun i (by omega), epl m hm] at h74; exact absurd z.2.1 (by grind))
            | exact next (fun z => h82 (by rw [hclz, eold (10 + i) (by omega), show 4 + (10 + i) = 14 + i by omega]; exact z.2.2))
          · refine wp_iconst (v := 0) rfl rfl ?_
            refine fin2 _ (fun z => ((ok_iff hm hn hna).mp z).2 i (by omega) ⟨b2_ne.mp h65, ?_, ?_⟩)
            · rw [hcli, hclm, eun i (by omega), epl m hm] at h74; grind
            · have := h82; rw [hclz, eold (10 + i) (by omega), show 4 + (10 + i) = 14 + i by omega] at this; exact this
  have loop1 : ∀ (p i : Nat), i + p = nm → (∀ n, n < i → ¬ bdM I nm na nr m ch n) → WQ G d Y_X11_goes (fun r' w'' => r' = some (.int (b2 (okB I nm na nr ch m = true))) ∧ w'' = (J, L, RR b)) 2 [(0, .ref 72), (1, .int (nI m)), (2, .int (nI (ch m))), (3, .int (nI i))] [] (J, L, RR b) := by
    intro p
    induction p with
    | zero =>
      intro i hi hno
      have hie : i = nm := by omega
      subst hie
      have hge : J 72 5 ≤ nI i := by rw [h5]; exact nI_le (Nat.le_refl _) (by omega)
      refine wp_iload_n rfl rfl ?_
      refine wp_aload_n rfl rfl ?_
      refine q_geti rfl rfl (by first | rfl | assumption) rfl ?_
      refine wp_icmp_ge 49 rfl rfl (fun _ => ?_) (fun h5 => absurd hge h5)
      refine wp_iconst (v := 0) rfl rfl ?_
      refine wp_istore_n (lv' := [(3, _), (0, _), (1, _), (2, _)]) rfl rfl (by decide) rfl ?_
      refine wp_loc (lv' := [(0, _), (1, _), (2, _), (3, _)]) [1, 2, 3, 0] rfl ?_
      exact loop2 hno na 0 (by omega) (fun k hk => absurd hk (by omega))
    | succ p ih =>
      intro i hi hno
      have hlt : ¬ J 72 5 ≤ nI i := by rw [h5]; exact nI_ge (by omega) (by omega)
      obtain ⟨-, x2, x3⟩ := ix14 (m := m) (s := i) (by omega) (by omega)
      have hini : vp_in (nI i) 10 := vp_in_nI (by omega) (by omega)
      have hini4 : vp_in (nI i) 14 := vp_in_nI (by omega) (by omega)
      have hcli : (nI i).toNatClampNeg = i := nI_clamp (by omega)
      have next : ¬ bdM I nm na nr m ch i → WQ G d Y_X11_goes (fun r' w'' => r' = some (.int (b2 (okB I nm na nr ch m = true))) ∧ w'' = (J, L, RR b)) 2 [(0, .ref 72), (1, .int (nI m)), (2, .int (nI (ch m))), (3, .int (nI (i + 1)))] [] (J, L, RR b) := fun hz => ih (i + 1) (by omega) (fun k hk => by
        rcases Nat.lt_or_ge k i with e | e
        · exact hno k e
        · rw [show k = i by omega]; exact hz)
      have en := j3 m i hm (by omega)
      by_cases ei : i = m
      · have hei : nI i = nI m := by rw [ei]
        refine wp_iload_n rfl rfl ?_
        refine wp_aload_n rfl rfl ?_
        refine q_geti rfl rfl (by first | rfl | assumption) rfl ?_
        refine wp_icmp_ge 49 rfl rfl (fun h5 => absurd h5 hlt) (fun _ => ?_)
        refine wp_iload_n rfl rfl ?_
        refine wp_iload_n rfl rfl ?_
        refine wp_icmp_eq 47 rfl rfl (fun _ => ?_) (fun h8 => absurd hei h8)
        refine wp_iinc (v := nI (i + 1)) (lv' := [(3, _), (0, _), (1, _), (2, _)]) rfl rfl (nI_1 i) (by decide) rfl ?_
        refine wp_goto 2 rfl rfl ?_
        refine wp_loc (lv' := [(0, _), (1, _), (2, _), (3, _)]) [1, 2, 3, 0] rfl ?_
        exact next (fun z => nrB_self (m := m) (by omega) (by rw [ei] at z; exact z.1))
      · have hei : ¬ nI i = nI m := fun z => ei ((nI_eq (by omega) (by omega)).mp z)
        by_cases hnr : nrB I nm na nr m i = true
        · have first2 : (i < m → ¬ ch i = ch m) → WQ G d Y_X11_goes (fun r' w'' => r' = some (.int (b2 (okB I nm na nr ch m = true))) ∧ w'' = (J, L, RR b)) 30 [(0, .ref 72), (1, .int (nI m)), (2, .int (nI (ch m))), (3, .int (nI i))] [] (J, L, RR b) := by
            intro hnc
            refine wp_aload_n rfl rfl ?_
            refine q_getr rfl rfl (by first | rfl | assumption) rfl rfl ?_
            refine wp_iload_n rfl rfl ?_
            refine q_iald rfl (by first | rfl | assumption) (by assumption) ?_
            refine wp_aload_n rfl rfl ?_
            refine q_getr rfl rfl (by first | rfl | assumption) rfl rfl ?_
            refine wp_iload_n rfl rfl ?_
            refine q_iald rfl (by first | rfl | assumption) (by assumption) ?_
            refine wp_icmp_le 47 rfl rfl (fun h38 => ?_) (fun h38 => ?_)
            · refine wp_iinc (v := nI (i + 1)) (lv' := [(3, _), (0, _), (1, _), (2, _)]) rfl rfl (nI_1 i) (by decide) rfl ?_
              refine wp_goto 2 rfl rfl ?_
              refine wp_loc (lv' := [(0, _), (1, _), (2, _), (3, _)]) [1, 2, 3, 0] rfl ?_
              first
              | exact next (fun z => z.2.elim (fun y => hnc y.1 y.2) (fun y => by rw [hcli, hclm, epl i (by omega), epl m hm] at h38; exact absurd y.1 (by grind)))
              | exact next (fun z => z.2.elim (fun y => hnc y.1 y.2) (fun y => h44 (by rw [hcli, eold i (by omega)]; exact y.2)))
            · refine wp_aload_n rfl rfl ?_
              refine q_getr rfl rfl (by first | rfl | assumption) rfl rfl ?_
              refine wp_iload_n rfl rfl ?_
              refine q_iald rfl (by first | rfl | assumption) (by assumption) ?_
              refine wp_iload_n rfl rfl ?_
              refine wp_icmp_ne 47 rfl rfl (fun h44 => ?_) (fun h44 => ?_)
              · refine wp_iinc (v := nI (i + 1)) (lv' := [(3, _), (0, _), (1, _), (2, _)]) rfl rfl (nI_1 i) (by decide) rfl ?_
                refine wp_goto 2 rfl rfl ?_
                refine wp_loc (lv' := [(0, _), (1, _), (2, _), (3, _)]) [1, 2, 3, 0] rfl ?_
                first
                | exact next (fun z => z.2.elim (fun y => hnc y.1 y.2) (fun y => by rw [hcli, hclm, epl i (by omega), epl m hm] at h38; exact absurd y.1 (by grind)))
                | exact next (fun z => z.2.elim (fun y => hnc y.1 y.2) (fun y => h44 (by rw [hcli, eold i (by omega)]; exact y.2)))
              · refine wp_iconst (v := 0) rfl rfl ?_
                refine fin1 _ (fun z => ((ok_iff hm hn hna).mp z).1 i (by omega) ⟨hnr, Or.inr ⟨?_, ?_⟩⟩)
                · rw [hcli, hclm, epl i (by omega), epl m hm] at h38; grind
                · have := h44; rw [hcli, eold i (by omega)] at this; exact this
          by_cases him : i < m
          · have hilt : ¬ nI m ≤ nI i := nI_ge him (by omega)
            by_cases hcc : ch i = ch m
            · refine wp_iload_n rfl rfl ?_
              refine wp_aload_n rfl rfl ?_
              refine q_geti rfl rfl (by first | rfl | assumption) rfl ?_
              refine wp_icmp_ge 49 rfl rfl (fun h5 => absurd h5 hlt) (fun _ => ?_)
              refine wp_iload_n rfl rfl ?_
              refine wp_iload_n rfl rfl ?_
              refine wp_icmp_eq 47 rfl rfl (fun h8 => absurd h8 hei) (fun _ => ?_)
              refine wp_aload_n rfl rfl ?_
              refine q_getr rfl rfl (by first | rfl | assumption) rfl rfl ?_
              refine wp_bipush (v := 14) rfl rfl ?_
              refine wp_iload_n rfl rfl ?_
              refine wp_imul rfl ?_
              refine wp_iload_n rfl rfl ?_
              refine wp_iadd rfl ?_
              refine q_zald rfl (by first | rfl | assumption) x2 ?_
              rw [x3, en, b2_t hnr]
              refine wp_if_ne 19 rfl rfl (fun _ => ?_) (fun h17 => absurd h17 (by decide))
              refine wp_iload_n rfl rfl ?_
              refine wp_iload_n rfl rfl ?_
              refine wp_icmp_ge 30 rfl rfl (fun h21 => absurd h21 hilt) (fun _ => ?_)
              refine wp_aload_n rfl rfl ?_
              refine q_getr rfl rfl (by first | rfl | assumption) rfl rfl ?_
              refine wp_iload_n rfl rfl ?_
              refine q_iald rfl (by first | rfl | assumption) (by assumption) ?_
              refine wp_iload_n rfl rfl ?_
              refine wp_icmp_ne 30 rfl rfl (fun h27 => ?_) (fun h27 => ?_)
              · exact absurd (by rw [hcli, hch i (by omega), hcc]) h27
              · refine wp_iconst (v := 0) rfl rfl ?_
                exact fin0 _ (fun z => ((ok_iff hm hn hna).mp z).1 i (by omega) ⟨hnr, Or.inl ⟨him, hcc⟩⟩)
            · refine wp_iload_n rfl rfl ?_
              refine wp_aload_n rfl rfl ?_
              refine q_geti rfl rfl (by first | rfl | assumption) rfl ?_
              refine wp_icmp_ge 49 rfl rfl (fun h5 => absurd h5 hlt) (fun _ => ?_)
              refine wp_iload_n rfl rfl ?_
              refine wp_iload_n rfl rfl ?_
              refine wp_icmp_eq 47 rfl rfl (fun h8 => absurd h8 hei) (fun _ => ?_)
              refine wp_aload_n rfl rfl ?_
              refine q_getr rfl rfl (by first | rfl | assumption) rfl rfl ?_
              refine wp_bipush (v := 14) rfl rfl ?_
              refine wp_iload_n rfl rfl ?_
              refine wp_imul rfl ?_
              refine wp_iload_n rfl rfl ?_
              refine wp_iadd rfl ?_
              refine q_zald rfl (by first | rfl | assumption) x2 ?_
              rw [x3, en, b2_t hnr]
              refine wp_if_ne 19 rfl rfl (fun _ => ?_) (fun h17 => absurd h17 (by decide))
              refine wp_iload_n rfl rfl ?_
              refine wp_iload_n rfl rfl ?_
              refine wp_icmp_ge 30 rfl rfl (fun h21 => absurd h21 hilt) (fun _ => ?_)
              refine wp_aload_n rfl rfl ?_
              refine q_getr rfl rfl (by first | rfl | assumption) rfl rfl ?_
              refine wp_iload_n rfl rfl ?_
              refine q_iald rfl (by first | rfl | assumption) (by assumption) ?_
              refine wp_iload_n rfl rfl ?_
              refine wp_icmp_ne 30 rfl rfl (fun h27 => ?_) (fun h27 => ?_)
              · exact first2 (fun _ => hcc)
              · exact absurd h27 (by rw [hcli, hch i (by omega), nI_eq (by have := hch2 i (by omega); omega) (by have := hch2 m (by omega); omega)]; exact hcc)
          · have hige : nI m ≤ nI i := nI_le (by omega) (by omega)
            refine wp_iload_n rfl rfl ?_
            refine wp_aload_n rfl rfl ?_
            refine q_geti rfl rfl (by first | rfl | assumption) rfl ?_
            refine wp_icmp_ge 49 rfl rfl (fun h5 => absurd h5 hlt) (fun _ => ?_)
            refine wp_iload_n rfl rfl ?_
            refine wp_iload_n rfl rfl ?_
            refine wp_icmp_eq 47 rfl rfl (fun h8 => absurd h8 hei) (fun _ => ?_)
            refine wp_aload_n rfl rfl ?_
            refine q_getr rfl rfl (by first | rfl | assumption) rfl rfl ?_
            refine wp_bipush (v := 14) rfl rfl ?_
            refine wp_iload_n rfl rfl ?_
            refine wp_imul rfl ?_
            refine wp_iload_n rfl rfl ?_
            refine wp_iadd rfl ?_
            refine q_zald rfl (by first | rfl | assumption) x2 ?_
            rw [x3, en, b2_t hnr]
            refine wp_if_ne 19 rfl rfl (fun _ => ?_) (fun h17 => absurd h17 (by decide))
            refine wp_iload_n rfl rfl ?_
            refine wp_iload_n rfl rfl ?_
            refine wp_icmp_ge 30 rfl rfl (fun _ => ?_) (fun h21 => absurd hige h21)
            exact first2 (fun z => absurd z him)
        · refine wp_iload_n rfl rfl ?_
          refine wp_aload_n rfl rfl ?_
          refine q_geti rfl rfl (by first | rfl | assumption) rfl ?_
          refine wp_icmp_ge 49 rfl rfl (fun h5 => absurd h5 hlt) (fun _ => ?_)
          refine wp_iload_n rfl rfl ?_
          refine wp_iload_n rfl rfl ?_
          refine wp_icmp_eq 47 rfl rfl (fun h8 => absurd h8 hei) (fun _ => ?_)
          refine wp_aload_n rfl rfl ?_
          refine q_getr rfl rfl (by first | rfl | assumption) rfl rfl ?_
          refine wp_bipush (v := 14) rfl rfl ?_
          refine wp_iload_n rfl rfl ?_
          refine wp_imul rfl ?_
          refine wp_iload_n rfl rfl ?_
          refine wp_iadd rfl ?_
          refine q_zald rfl (by first | rfl | assumption) x2 ?_
          rw [x3, en, b2_f hnr]
          refine wp_if_ne 19 rfl rfl (fun h17 => absurd h17 (by decide)) (fun _ => ?_)
          refine wp_goto 47 rfl rfl ?_
          refine wp_iinc (v := nI (i + 1)) (lv' := [(3, _), (0, _), (1, _), (2, _)]) rfl rfl (nI_1 i) (by decide) rfl ?_
          refine wp_goto 2 rfl rfl ?_
          refine wp_loc (lv' := [(0, _), (1, _), (2, _), (3, _)]) [1, 2, 3, 0] rfl ?_
          exact next (fun z => hnr z.1)
  refine MT.intro m_X11_goes rfl (Nat.le_of_ble_eq_true rfl) ?_
  show WQ G d Y_X11_goes _ 0 [(0, .ref 72), (1, .int (nI m)), (2, .int (nI (ch m)))] [] (J, L, RR b)
  refine wp_iconst (v := 0) rfl rfl ?_
  refine wp_istore_n (lv' := [(3, _), (0, _), (1, _), (2, _)]) rfl rfl (by decide) rfl ?_
  refine wp_loc (lv' := [(0, _), (1, _), (2, _), (3, _)]) [1, 2, 3, 0] rfl ?_
  exact loop1 nm 0 (by omega) (fun n hn2 => absurd hn2 (by omega))
theorem c_X11_unlike (G : Gl) (d : Nat) {nm : Nat} (J : IF) (L : LF) (b : Bool) (h5 : J 72 5 = nI nm) (hn : nm ≤ 10) {ch : Nat → Nat} (hch : ∀ l, l < nm → J 95 l = nI (ch l)) : MD G d Y_X11_unlike [.ref 72] (J, L, RR b) (some (.int (pcF (usd ch nm) 12))) (J, L, RR b) := by
  have loop2 : ∀ (p i : Nat), i + p = 12 → WQ G d Y_X11_unlike (fun r' w'' => r' = some (.int (pcF (usd ch nm) 12)) ∧ w'' = (J, L, RR b)) 23 [(0, .ref 72), (1, .int (usd ch nm)), (2, .int (pcF (usd ch nm) i)), (3, .int (nI i))] [] (J, L, RR b) := by
    intro p
    induction p with
    | zero =>
      intro i hi
      have hie : i = 12 := by omega
      subst hie
      refine wp_iload_n rfl rfl ?_
      refine wp_bipush (v := 12) rfl rfl ?_
      refine wp_icmp_ge 36 rfl rfl (fun _ => ?_) (fun h25 => absurd (show (12 : Int32) ≤ nI 12 by decide) h25)
      refine wp_iload_n rfl rfl ?_
      exact wp_iret rfl rfl (⟨rfl, rfl⟩)
    | succ p ih =>
      intro i hi
      have hlt : ¬ (12 : Int32) ≤ nI i := nI_ge (a := i) (b := 12) (by omega) (by omega)
      refine wp_iload_n rfl rfl ?_
      refine wp_bipush (v := 12) rfl rfl ?_
      refine wp_icmp_ge 36 rfl rfl (fun h25 => absurd h25 hlt) (fun _ => ?_)
      refine wp_iload_n rfl rfl ?_
      refine wp_iload_n rfl rfl ?_
      refine wp_iload_n rfl rfl ?_
      refine wp_ishr rfl ?_
      refine wp_iconst (v := 1) rfl rfl ?_
      refine wp_iand rfl ?_
      refine wp_iadd rfl ?_
      refine wp_istore_n (lv' := [(2, _), (0, _), (1, _), (3, _)]) rfl rfl (by decide) rfl ?_
      refine wp_iinc (v := nI (i + 1)) (lv' := [(3, _), (2, _), (0, _), (1, _)]) rfl rfl (nI_1 i) (by decide) rfl ?_
      refine wp_goto 23 rfl rfl ?_
      refine wp_loc (lv' := [(0, _), (1, _), (2, _), (3, _)]) [2, 3, 1, 0] rfl ?_
      exact ih (i + 1) (by omega)
  have loop1 : ∀ (p i : Nat), i + p = nm → WQ G d Y_X11_unlike (fun r' w'' => r' = some (.int (pcF (usd ch nm) 12)) ∧ w'' = (J, L, RR b)) 4 [(0, .ref 72), (1, .int (usd ch i)), (2, .int (nI i))] [] (J, L, RR b) := by
    intro p
    induction p with
    | zero =>
      intro i hi
      have hie : i = nm := by omega
      subst hie
      have hge : J 72 5 ≤ nI i := by rw [h5]; exact nI_le (Nat.le_refl _) (by omega)
      refine wp_iload_n rfl rfl ?_
      refine wp_aload_n rfl rfl ?_
      refine q_geti rfl rfl (by first | rfl | assumption) rfl ?_
      refine wp_icmp_ge 19 rfl rfl (fun _ => ?_) (fun h7 => absurd hge h7)
      refine wp_iconst (v := 0) rfl rfl ?_
      refine wp_istore_n (lv' := [(2, _), (0, _), (1, _)]) rfl rfl (by decide) rfl ?_
      refine wp_iconst (v := 0) rfl rfl ?_
      refine wp_istore_n (lv' := [(3, _), (2, _), (0, _), (1, _)]) rfl rfl (by decide) rfl ?_
      refine wp_loc (lv' := [(0, _), (1, _), (2, _), (3, _)]) [2, 3, 1, 0] rfl ?_
      exact loop2 12 0 (by omega)
    | succ p ih =>
      intro i hi
      have hlt : ¬ J 72 5 ≤ nI i := by rw [h5]; exact nI_ge (by omega) (by omega)
      have hin : vp_in (nI i) 10 := vp_in_nI (by omega) (by omega)
      have hcl : (nI i).toNatClampNeg = i := nI_clamp (by omega)
      refine wp_iload_n rfl rfl ?_
      refine wp_aload_n rfl rfl ?_
      refine q_geti rfl rfl (by first | rfl | assumption) rfl ?_
      refine wp_icmp_ge 19 rfl rfl (fun h7 => absurd h7 hlt) (fun _ => ?_)
      refine wp_iload_n rfl rfl ?_
      refine wp_iconst (v := 1) rfl rfl ?_
      refine wp_aload_n rfl rfl ?_
      refine q_getr rfl rfl (by first | rfl | assumption) rfl rfl ?_
      refine wp_iload_n rfl rfl ?_
      refine q_iald rfl (by first | rfl | assumption) (by assumption) ?_
      refine wp_ishl rfl ?_
      refine wp_ior rfl ?_
      refine wp_istore_n (lv' := [(1, _), (0, _), (2, _)]) rfl rfl (by decide) rfl ?_
      refine wp_iinc (v := nI (i + 1)) (lv' := [(2, _), (1, _), (0, _)]) rfl rfl (nI_1 i) (by decide) rfl ?_
      refine wp_goto 4 rfl rfl ?_
      refine wp_loc (lv' := [(0, _), (1, _), (2, _)]) [2, 1, 0] rfl ?_
      rw [hcl, hch i (by omega)]
      exact ih (i + 1) (by omega)
  refine MT.intro m_X11_unlike rfl (Nat.le_of_ble_eq_true rfl) ?_
  show WQ G d Y_X11_unlike _ 0 [(0, .ref 72)] [] (J, L, RR b)
  refine wp_iconst (v := 0) rfl rfl ?_
  refine wp_istore_n (lv' := [(1, _), (0, _)]) rfl rfl (by decide) rfl ?_
  refine wp_iconst (v := 0) rfl rfl ?_
  refine wp_istore_n (lv' := [(2, _), (1, _), (0, _)]) rfl rfl (by decide) rfl ?_
  refine wp_loc (lv' := [(0, _), (1, _), (2, _)]) [2, 1, 0] rfl ?_
  exact loop1 nm 0 (by omega)
