/-! blame -/
/-- the masts of the areas of a kind -/
def blS (P : Nat → Bool) (m : Nat → Int32) : Nat → Int32
  | 0 => 0
  | i + 1 => if ¬ m i = -1 ∧ P i = true then blS P m i ||| (1 <<< (m i &&& 31)) else blS P m i
theorem blS_bt {P : Nat → Bool} {m : Nat → Int32} : ∀ (n : Nat), (∀ a, a < n → m a = -1 ∨ ∃ j, j < 10 ∧ m a = nI j) → ∀ q, q < 32 → (bt (blS P m n) q = true ↔ ∃ a, a < n ∧ P a = true ∧ m a = nI q)
  | 0, _, q, hq => by
    simp only [blS]
    rw [b_0]
    exact ⟨fun h => absurd h (by decide), fun ⟨a, h, _⟩ => absurd h (by omega)⟩
  | n + 1, h, q, hq => by
    have ih := blS_bt (P := P) (m := m) n (fun a ha => h a (by omega)) q hq
    simp only [blS]
    split
    · next hc =>
      obtain ⟨j, hj, e⟩ := (h n (by omega)).resolve_left hc.1
      rw [b_or, e, b_shl j (by omega) 1 hq, Bool.or_eq_true, ih]
      have e1 : (decide (j ≤ q) && bt 1 (q - j)) = true ↔ q = j := by
        rw [b_1 (q - j) (by omega)]
        simp
        omega
      rw [e1]
      constructor
      · rintro (⟨a, h1, h2, h3⟩ | rfl)
        · exact ⟨a, by omega, h2, h3⟩
        · exact ⟨n, by omega, hc.2, e⟩
      · rintro ⟨a, h1, h2, h3⟩
        by_cases ea : a = n
        · subst ea
          right
          rw [e] at h3
          exact ((nI_eq (by omega) (by omega)).mp h3).symm
        · exact Or.inl ⟨a, by omega, h2, h3⟩
    · next hc =>
      rw [ih]
      constructor
      · rintro ⟨a, h1, h2, h3⟩
        exact ⟨a, by omega, h2, h3⟩
      · rintro ⟨a, h1, h2, h3⟩
        by_cases ea : a = n
        · subst ea
          exfalso
          apply hc
          refine ⟨?_, h2⟩
          rw [h3]
          have := nI_pos' (n := q) (by omega)
          grind
        · exact ⟨a, by omega, h2, h3⟩
theorem set_rng (x : Int32) {n : Nat} (hn : n ≤ 16) : x >>> (nI n &&& 31) = 0 ↔ 0 ≤ x ∧ x ≤ (1 <<< (nI n &&& 31)) - 1 := by
  have hs := s_l n (by omega)
  have hp : 2 ^ n ≤ 65536 := Nat.pow_le_pow_right (n := 2) (by omega) hn
  have hp1 : 1 ≤ 2 ^ n := Nat.one_le_two_pow
  have e1 : (1 : Int32) <<< (nI n &&& 31) = nI (2 ^ n) := by
    have := pk_shlN (n := 1) (nI n &&& 31) n hs (by omega)
    rw [Nat.one_mul] at this
    exact this
  have e2 : nI (2 ^ n) - 1 = nI (2 ^ n - 1) := pk_sub (a := 2 ^ n) (b := 1) hp1
  rw [e1, e2, ← Int32.toInt_inj, pk_shr x _ n hs, Int32.le_iff_toInt_le, Int32.le_iff_toInt_le, nI_toInt (by omega), Int.shiftRight_eq_div_pow, show (0 : Int32).toInt = 0 from rfl]
  have hpi : (0 : Int) < ((2 ^ n : Nat) : Int) := by omega
  rw [show ((2 : Nat) ^ n : Nat) = 2 ^ n from rfl]
  constructor
  · intro h
    have h1 := Int.emod_nonneg x.toInt (b := ((2 ^ n : Nat) : Int)) (by omega)
    have h2 := Int.emod_lt_of_pos x.toInt hpi
    have h3 := Int.emod_add_mul_ediv x.toInt ((2 ^ n : Nat) : Int)
    rw [h, Int.mul_zero, Int.add_zero] at h3
    omega
  · intro ⟨h1, h2⟩
    exact Int.ediv_eq_zero_of_lt h1 (by omega)
def blmF (P : Nat → Bool) (m : Nat → Int32) (n : Nat) : Int32 := if blS P m n &&& blS (fun a => !P a) m n = 0 then blS P m n else -1
theorem c_X10_blame (G : Gl) (d : Nat) {nm na nr : Nat} (x : Int32) (I : IF) (L : LF) (b : Bool) (h : IV nm na nr I L) : MD G (d + 1) Y_X10_blame [.ref 0, .int x] (I, L, RR b) (some (.int (if x >>> (nI nr &&& 31) = 0 then blmF (bt x) (fun a => I (18 + a) 6) nr else -2))) (I, L, RR b) := by
  have hnr : nr ≤ 16 := h.1.2.2.2.2
  have h4 := h.1.2.2.1
  have hloop : ∀ (n i : Nat), i + n = nr → WQ G (d + 1) Y_X10_blame (fun r' w'' => r' = some (.int (blmF (bt x) (fun a => I (18 + a) 6) nr)) ∧ w'' = (I, L, RR b)) 14 [(0, .ref 0), (1, .int x), (2, .int (blS (bt x) (fun a => I (18 + a) 6) i)), (3, .int (blS (fun a => !bt x a) (fun a => I (18 + a) 6) i)), (4, .int (nI i))] [] (I, L, RR b) := by
    intro n
    induction n with
    | zero =>
      intro i hi
      have hie : i = nr := by omega
      subst hie
      have hge : I 1 4 ≤ nI i := by rw [h4]; exact nI_le (Nat.le_refl _) (by omega)
      refine wp_iload rfl rfl ?_
      refine wp_aload_n rfl rfl ?_
      refine q_getr rfl rfl (by first | rfl | assumption) rfl rfl ?_
      refine q_geti rfl rfl (by first | rfl | assumption) rfl ?_
      refine wp_icmp_ge 51 rfl rfl (fun _ => ?_) (fun h18 => absurd hge h18)
      refine wp_iload_n rfl rfl ?_
      refine wp_iload_n rfl rfl ?_
      refine wp_iand rfl ?_
      refine wp_if_ne 57 rfl rfl (fun h54 => ?_) (fun h54 => ?_)
      · refine wp_iconst (v := (-1)) rfl rfl ?_
        exact wp_iret rfl rfl (⟨by unfold blmF; grind, rfl⟩)
      · refine wp_iload_n rfl rfl ?_
        refine wp_goto 58 rfl rfl ?_
        exact wp_iret rfl rfl (⟨by unfold blmF; grind, rfl⟩)
    | succ n ih =>
      intro i hi
      have hlt : ¬ I 1 4 ≤ nI i := by rw [h4]; exact nI_ge (by omega) (by omega)
      have hsa := sh_area i (by omega)
      have hbit := bit1 x (a := i) (by omega)
      have s1 : blS (bt x) (fun a => I (18 + a) 6) (i + 1) = if ¬ I (18 + i) 6 = -1 ∧ bt x i = true then blS (bt x) (fun a => I (18 + a) 6) i ||| (1 <<< (I (18 + i) 6 &&& 31)) else blS (bt x) (fun a => I (18 + a) 6) i := rfl
      have s2 : blS (fun a => !bt x a) (fun a => I (18 + a) 6) (i + 1) = if ¬ I (18 + i) 6 = -1 ∧ (!bt x i) = true then blS (fun a => !bt x a) (fun a => I (18 + a) 6) i ||| (1 <<< (I (18 + i) 6 &&& 31)) else blS (fun a => !bt x a) (fun a => I (18 + a) 6) i := rfl
      have J49 : ∀ y1 y2 y5 : Int32, y1 = blS (bt x) (fun a => I (18 + a) 6) (i + 1) → y2 = blS (fun a => !bt x a) (fun a => I (18 + a) 6) (i + 1) → WQ G (d + 1) Y_X10_blame (fun r' w'' => r' = some (.int (blmF (bt x) (fun a => I (18 + a) 6) nr)) ∧ w'' = (I, L, RR b)) 49 [(0, .ref 0), (1, .int x), (2, .int y1), (3, .int y2), (4, .int (nI i)), (5, .int y5)] [] (I, L, RR b) := by
        intro y1 y2 y5 e1 e2
        rw [e1, e2]
        refine wp_iinc (v := nI (i + 1)) (lv' := [(4, _), (0, _), (1, _), (2, _), (3, _), (5, _)]) rfl rfl (nI_1 i) (by decide) rfl ?_
        refine wp_goto 14 rfl rfl ?_
        refine wp_loc (lv' := [(0, _), (1, _), (2, _), (3, _), (4, _)]) [1, 2, 3, 4, 0] rfl ?_
        exact ih (i + 1) (by omega)
      refine wp_iload rfl rfl ?_
      refine wp_aload_n rfl rfl ?_
      refine q_getr rfl rfl (by first | rfl | assumption) rfl rfl ?_
      refine q_geti rfl rfl (by first | rfl | assumption) rfl ?_
      refine wp_icmp_ge 51 rfl rfl (fun h18 => absurd h18 hlt) (fun _ => ?_)
      refine wp_aload_n rfl rfl ?_
      refine q_getr rfl rfl (by first | rfl | assumption) rfl rfl ?_
      refine q_getr rfl rfl (by first | rfl | assumption) rfl rfl ?_
      refine wp_iload rfl rfl ?_
      refine q_area rfl rfl (by omega) ?_
      refine q_geti rfl rfl (by first | rfl | assumption) rfl ?_
      refine wp_istore (lv' := [(5, _), (0, _), (1, _), (2, _), (3, _), (4, _)]) rfl (by decide) rfl ?_
      refine wp_iload rfl rfl ?_
      refine wp_iconst (v := (-1)) rfl rfl ?_
      refine wp_icmp_eq 40 rfl rfl (fun h28 => ?_) (fun h28 => ?_)
      · refine wp_iload rfl rfl ?_
        refine wp_iconst (v := (-1)) rfl rfl ?_
        refine wp_icmp_eq 49 rfl rfl (fun h42 => ?_) (fun h42 => ?_)
        · refine wp_loc (lv' := [(0, _), (1, _), (2, _), (3, _), (4, _), (5, _)]) [1, 2, 3, 4, 5, 0] rfl ?_
          exact J49 _ _ _ (by rw [s1]; (try rw [hbit] at h32); grind [b2]) (by rw [s2]; (try rw [hbit] at h32); grind [b2])
        · refine wp_iload_n rfl rfl ?_
          refine wp_iconst (v := 1) rfl rfl ?_
          refine wp_iload rfl rfl ?_
          refine wp_ishl rfl ?_
          refine wp_ior rfl ?_
          refine wp_istore_n (lv' := [(3, _), (5, _), (0, _), (1, _), (2, _), (4, _)]) rfl rfl (by decide) rfl ?_
          refine wp_loc (lv' := [(0, _), (1, _), (2, _), (3, _), (4, _), (5, _)]) [2, 3, 4, 0, 5, 1] rfl ?_
          exact J49 _ _ _ (by rw [s1]; (try rw [hbit] at h32); grind [b2]) (by rw [s2]; (try rw [hbit] at h32); grind [b2])
      · refine wp_iload_n rfl rfl ?_
        refine wp_iload rfl rfl ?_
        refine cS1 rfl l_10_247 s_X10_isIn m_X10_isIn (c_X10_isIn G _ _ _ _) rfl (Nat.le_of_ble_eq_true rfl) ?_
        refine wp_if_eq 40 rfl rfl (fun h32 => ?_) (fun h32 => ?_)
        · refine wp_iload rfl rfl ?_
          refine wp_iconst (v := (-1)) rfl rfl ?_
          refine wp_icmp_eq 49 rfl rfl (fun h42 => ?_) (fun h42 => ?_)
          · refine wp_loc (lv' := [(0, _), (1, _), (2, _), (3, _), (4, _), (5, _)]) [1, 2, 3, 4, 5, 0] rfl ?_
            exact J49 _ _ _ (by rw [s1]; (try rw [hbit] at h32); grind [b2]) (by rw [s2]; (try rw [hbit] at h32); grind [b2])
          · refine wp_iload_n rfl rfl ?_
            refine wp_iconst (v := 1) rfl rfl ?_
            refine wp_iload rfl rfl ?_
            refine wp_ishl rfl ?_
            refine wp_ior rfl ?_
            refine wp_istore_n (lv' := [(3, _), (5, _), (0, _), (1, _), (2, _), (4, _)]) rfl rfl (by decide) rfl ?_
            refine wp_loc (lv' := [(0, _), (1, _), (2, _), (3, _), (4, _), (5, _)]) [2, 3, 4, 0, 5, 1] rfl ?_
            exact J49 _ _ _ (by rw [s1]; (try rw [hbit] at h32); grind [b2]) (by rw [s2]; (try rw [hbit] at h32); grind [b2])
        · refine wp_iload_n rfl rfl ?_
          refine wp_iconst (v := 1) rfl rfl ?_
          refine wp_iload rfl rfl ?_
          refine wp_ishl rfl ?_
          refine wp_ior rfl ?_
          refine wp_istore_n (lv' := [(2, _), (5, _), (0, _), (1, _), (3, _), (4, _)]) rfl rfl (by decide) rfl ?_
          refine wp_goto 49 rfl rfl ?_
          refine wp_loc (lv' := [(0, _), (1, _), (2, _), (3, _), (4, _), (5, _)]) [2, 3, 0, 4, 5, 1] rfl ?_
          exact J49 _ _ _ (by rw [s1]; (try rw [hbit] at h32); grind [b2]) (by rw [s2]; (try rw [hbit] at h32); grind [b2])
  refine MT.intro m_X10_blame rfl (Nat.le_of_ble_eq_true rfl) ?_
  show WQ G (d + 1) Y_X10_blame _ 0 [(0, .ref 0), (1, .int x)] [] (I, L, RR b)
  refine wp_iload_n rfl rfl ?_
  refine wp_aload_n rfl rfl ?_
  refine q_getr rfl rfl (by first | rfl | assumption) rfl rfl ?_
  refine q_geti rfl rfl (by first | rfl | assumption) rfl ?_
  refine wp_ishr rfl ?_
  refine wp_if_eq 8 rfl rfl (fun h5 => ?_) (fun h5 => ?_)
  · refine wp_iconst (v := 0) rfl rfl ?_
    refine wp_istore_n (lv' := [(2, _), (0, _), (1, _)]) rfl rfl (by decide) rfl ?_
    refine wp_iconst (v := 0) rfl rfl ?_
    refine wp_istore_n (lv' := [(3, _), (2, _), (0, _), (1, _)]) rfl rfl (by decide) rfl ?_
    refine wp_iconst (v := 0) rfl rfl ?_
    refine wp_istore (lv' := [(4, _), (3, _), (2, _), (0, _), (1, _)]) rfl (by decide) rfl ?_
    refine wp_loc (lv' := [(0, _), (1, _), (2, _), (3, _), (4, _)]) [3, 4, 2, 1, 0] rfl ?_
    rw [h4] at h5
    rw [if_pos h5]
    exact hloop nr 0 (by omega)
  · rw [h4] at h5
    refine wp_bipush (v := (-2)) rfl rfl ?_
    exact wp_iret rfl rfl ⟨by rw [if_neg h5], rfl⟩
theorem c_X11_blame (G : Gl) (d : Nat) {nm na nr : Nat} (x : Int32) (I : IF) (L : LF) (b : Bool) (h : IV nm na nr I L) : MD G (d + 1) Y_X11_blame [.ref 72, .int x] (I, L, RR b) (some (.int (if x >>> (nI nr &&& 31) = 0 then blmF (bt x) (fun a => I (18 + a) 6) nr else -2))) (uI I 72 0 0, L, RR b) := by
  have hnr : nr ≤ 16 := h.1.2.2.2.2
  have hnm : nm ≤ 10 := h.1.1.2.2
  have h7 : uI I 72 0 0 72 7 = nI nr := h.1.2.2.2.1
  have e92 : ∀ k, uI I 72 0 0 92 k = I 92 k := fun k => uI_ne (by decide)
  generalize hJ : uI I 72 0 0 = J at *
  have hae : ∀ a, a < nr → J 92 a = I (18 + a) 6 ∧ (I (18 + a) 6 = -1 ∨ ∃ j, j < 10 ∧ I (18 + a) 6 = nI j) := by
    intro a ha
    have z := (h.2.2.2.2.2.2.2.2.1 a (by omega)).1 ha
    refine ⟨(e92 a).trans z.1, ?_⟩
    by_cases e : I (18 + a) 6 = -1
    · exact Or.inl e
    · obtain ⟨j, h1, h2⟩ := nI_get (x := I (18 + a) 6) (n := nm) (by grind) z.2.2 (by omega)
      exact Or.inr ⟨j, by omega, h2⟩
  generalize hm : (fun a => I (18 + a) 6) = m
  have hma : ∀ a, I (18 + a) 6 = m a := fun a => by rw [← hm]
  have hmb : ∀ a, a < nr → J 92 a = m a ∧ (m a = -1 ∨ ∃ j, j < 10 ∧ m a = nI j) := fun a ha => by rw [← hma]; exact hae a ha
  have hB := blS_bt (P := bt x) (m := m) nr (fun a ha => (hmb a ha).2)
  have hC := blS_bt (P := fun a => !bt x a) (m := m) nr (fun a ha => (hmb a ha).2)
  have hz : blS (bt x) m nr &&& blS (fun a => !bt x a) m nr = 0 ↔ ∀ a, a < nr → bt x a = false → ∀ q, q < 10 → m a = nI q → bt (blS (bt x) m nr) q = false := by
    constructor
    · intro e a ha hx q hq hmq
      have h1 : bt (blS (fun a => !bt x a) m nr) q = true := (hC q (by omega)).mpr ⟨a, ha, by simp [hx], hmq⟩
      have h2 := b_and (blS (bt x) m nr) (blS (fun a => !bt x a) m nr) q
      rw [e, b_0, h1] at h2
      simpa using h2.symm
    · intro hall
      apply b_ext
      intro q hq
      rw [b_and, b_0]
      cases e1 : bt (blS (fun a => !bt x a) m nr) q with
      | false => simp
      | true =>
        obtain ⟨a, ha, hx, hmq⟩ := (hC q hq).mp e1
        have hq10 : q < 10 := by
          rcases (hmb a ha).2 with e2 | ⟨j, hj, e2⟩
          · rw [hmq] at e2
            exfalso
            have := nI_pos' (n := q) (by omega)
            grind
          · have := (nI_eq (a := q) (b := j) (by omega) (by omega)).mp (hmq.symm.trans e2)
            omega
        rw [hall a ha (by simpa using hx) q hq10 hmq]
        simp
  generalize hbl : blS (bt x) m nr = BL
  have loop2 : ∀ (n i : Nat), i + n = nr → (∀ a, a < i → bt x a = false → ∀ q, q < 10 → m a = nI q → bt BL q = false) → WQ G (d + 1) Y_X11_blame (fun r' w'' => r' = some (.int (blmF (bt x) m nr)) ∧ w'' = (J, L, RR b)) 51 [(0, .ref 72), (1, .int x), (2, .int BL), (3, .int (nI i))] [] (J, L, RR b) := by
    intro n
    induction n with
    | zero =>
      intro i hi hall
      have hie : i = nr := by omega
      subst hie
      have hge : J 72 7 ≤ nI i := by rw [h7]; exact nI_le (Nat.le_refl _) (by omega)
      have hF : blmF (bt x) m i = BL := by unfold blmF; rw [if_pos (hz.mpr (by rw [hbl]; exact hall)), hbl]
      refine wp_iload_n rfl rfl ?_
      refine wp_aload_n rfl rfl ?_
      refine q_geti rfl rfl (by first | rfl | assumption) rfl ?_
      refine wp_icmp_ge 81 rfl rfl (fun _ => ?_) (fun h54 => absurd hge h54)
      refine wp_iload_n rfl rfl ?_
      exact wp_iret rfl rfl (⟨by rw [hF], rfl⟩)
    | succ n ih =>
      intro i hi hall
      have hlt : ¬ J 72 7 ≤ nI i := by rw [h7]; exact nI_ge (by omega) (by omega)
      have hbit := bit1 x (a := i) (by omega)
      have hcl : (nI i).toNatClampNeg = i := nI_clamp (by omega)
      have hmi := hmb i (by omega)
      refine wp_iload_n rfl rfl ?_
      refine wp_aload_n rfl rfl ?_
      refine q_geti rfl rfl (by first | rfl | assumption) rfl ?_
      refine wp_icmp_ge 81 rfl rfl (fun h54 => absurd h54 hlt) (fun _ => ?_)
      refine wp_iload_n rfl rfl ?_
      refine wp_iload_n rfl rfl ?_
      refine wp_ishr rfl ?_
      refine wp_iconst (v := 1) rfl rfl ?_
      refine wp_iand rfl ?_
      refine wp_if_ne 79 rfl rfl (fun h60 => ?_) (fun h60 => ?_)
      · refine wp_iinc (v := nI (i + 1)) (lv' := [(3, _), (0, _), (1, _), (2, _)]) rfl rfl (nI_1 i) (by decide) rfl ?_
        refine wp_goto 51 rfl rfl ?_
        refine wp_loc (lv' := [(0, _), (1, _), (2, _), (3, _)]) [1, 2, 3, 0] rfl ?_
        refine ih (i + 1) (by omega) (fun a ha hx q hq hmq2 => ?_)
        by_cases ea : a = i
        · subst ea
          first
          | (rw [hbit, b2_f (by rw [hx]; decide)] at h60; exact absurd rfl h60)
          | (rw [hcl, hmi.1] at h66; rw [hmq2] at h66; exfalso; have := nI_pos' (n := q) (by omega); grind)
          | (have hqq : q = q0 := (nI_eq (by omega) (by omega)).mp (hmq2.symm.trans hmq)
             subst hqq
             rw [hcl, hmi.1, hmq, hb2] at h76
             cases e3 : bt BL q with
             | false => rfl
             | true => rw [b2_t e3] at h76; exact absurd rfl h76)
        · exact hall a (by omega) hx q hq hmq2
      · refine wp_aload_n rfl rfl ?_
        refine q_getr rfl rfl (by first | rfl | assumption) rfl rfl ?_
        refine wp_iload_n rfl rfl ?_
        refine q_iald rfl (by first | rfl | assumption) (vp_in_nI (by omega) (by omega)) ?_
        refine wp_iconst (v := (-1)) rfl rfl ?_
        refine wp_icmp_eq 79 rfl rfl (fun h66 => ?_) (fun h66 => ?_)
        · refine wp_iinc (v := nI (i + 1)) (lv' := [(3, _), (0, _), (1, _), (2, _)]) rfl rfl (nI_1 i) (by decide) rfl ?_
          refine wp_goto 51 rfl rfl ?_
          refine wp_loc (lv' := [(0, _), (1, _), (2, _), (3, _)]) [1, 2, 3, 0] rfl ?_
          refine ih (i + 1) (by omega) (fun a ha hx q hq hmq2 => ?_)
          by_cases ea : a = i
          · subst ea
            first
            | (rw [hbit, b2_f (by rw [hx]; decide)] at h60; exact absurd rfl h60)
            | (rw [hcl, hmi.1] at h66; rw [hmq2] at h66; exfalso; have := nI_pos' (n := q) (by omega); grind)
            | (have hqq : q = q0 := (nI_eq (by omega) (by omega)).mp (hmq2.symm.trans hmq)
               subst hqq
               rw [hcl, hmi.1, hmq, hb2] at h76
               cases e3 : bt BL q with
               | false => rfl
               | true => rw [b2_t e3] at h76; exact absurd rfl h76)
          · exact hall a (by omega) hx q hq hmq2
        · rw [hbit] at h60
          have hxi : bt x i = false := by simpa using b2_eq.mp h60
          rw [hcl, hmi.1] at h66
          obtain ⟨q0, hq0, hmq⟩ := hmi.2.resolve_left h66
          have hb2 := bit1 BL (a := q0) (by omega)
          refine wp_iload_n rfl rfl ?_
          refine wp_aload_n rfl rfl ?_
          refine q_getr rfl rfl (by first | rfl | assumption) rfl rfl ?_
          refine wp_iload_n rfl rfl ?_
          refine q_iald rfl (by first | rfl | assumption) (vp_in_nI (by omega) (by omega)) ?_
          refine wp_ishr rfl ?_
          refine wp_iconst (v := 1) rfl rfl ?_
          refine wp_iand rfl ?_
          refine wp_iconst (v := 1) rfl rfl ?_
          refine wp_icmp_ne 79 rfl rfl (fun h76 => ?_) (fun h76 => ?_)
          · refine wp_iinc (v := nI (i + 1)) (lv' := [(3, _), (0, _), (1, _), (2, _)]) rfl rfl (nI_1 i) (by decide) rfl ?_
            refine wp_goto 51 rfl rfl ?_
            refine wp_loc (lv' := [(0, _), (1, _), (2, _), (3, _)]) [1, 2, 3, 0] rfl ?_
            refine ih (i + 1) (by omega) (fun a ha hx q hq hmq2 => ?_)
            by_cases ea : a = i
            · subst ea
              first
              | (rw [hbit, b2_f (by rw [hx]; decide)] at h60; exact absurd rfl h60)
              | (rw [hcl, hmi.1] at h66; rw [hmq2] at h66; exfalso; have := nI_pos' (n := q) (by omega); grind)
              | (have hqq : q = q0 := (nI_eq (by omega) (by omega)).mp (hmq2.symm.trans hmq)
                 subst hqq
                 rw [hcl, hmi.1, hmq, hb2] at h76
                 cases e3 : bt BL q with
                 | false => rfl
                 | true => rw [b2_t e3] at h76; exact absurd rfl h76)
            · exact hall a (by omega) hx q hq hmq2
          · rw [hcl, hmi.1, hmq, hb2] at h76
            have hbq : bt BL q0 = true := by
              by_cases e : bt BL q0 = true
              · exact e
              · rw [b2_f e] at h76; exact absurd h76 (by decide)
            refine wp_iconst (v := (-1)) rfl rfl ?_
            exact wp_iret rfl rfl (⟨by unfold blmF; rw [if_neg (fun e => by have := hz.mp e i (by omega) hxi q0 hq0 hmq; rw [hbl, hbq] at this; cases this)], rfl⟩)
  have loop1 : ∀ (n i : Nat), i + n = nr → WQ G (d + 1) Y_X11_blame (fun r' w'' => r' = some (.int (blmF (bt x) m nr)) ∧ w'' = (J, L, RR b)) 21 [(0, .ref 72), (1, .int x), (2, .int (blS (bt x) m i)), (3, .int (nI i))] [] (J, L, RR b) := by
    intro n
    induction n with
    | zero =>
      intro i hi
      have hie : i = nr := by omega
      subst hie
      have hge : J 72 7 ≤ nI i := by rw [h7]; exact nI_le (Nat.le_refl _) (by omega)
      refine wp_iload_n rfl rfl ?_
      refine wp_aload_n rfl rfl ?_
      refine q_geti rfl rfl (by first | rfl | assumption) rfl ?_
      refine wp_icmp_ge 49 rfl rfl (fun _ => ?_) (fun h24 => absurd hge h24)
      refine wp_iconst (v := 0) rfl rfl ?_
      refine wp_istore_n (lv' := [(3, _), (0, _), (1, _), (2, _)]) rfl rfl (by decide) rfl ?_
      refine wp_loc (lv' := [(0, _), (1, _), (2, _), (3, _)]) [1, 2, 3, 0] rfl ?_
      rw [hbl]
      exact loop2 i 0 (by omega) (fun a ha => absurd ha (by omega))
    | succ n ih =>
      intro i hi
      have hlt : ¬ J 72 7 ≤ nI i := by rw [h7]; exact nI_ge (by omega) (by omega)
      have hbit := bit1 x (a := i) (by omega)
      have hcl : (nI i).toNatClampNeg = i := nI_clamp (by omega)
      have hmi := (hmb i (by omega)).1
      have s1 : blS (bt x) m (i + 1) = if ¬ m i = -1 ∧ bt x i = true then blS (bt x) m i ||| (1 <<< (m i &&& 31)) else blS (bt x) m i := rfl
      have J47 : ∀ y1 : Int32, y1 = blS (bt x) m (i + 1) → WQ G (d + 1) Y_X11_blame (fun r' w'' => r' = some (.int (blmF (bt x) m nr)) ∧ w'' = (J, L, RR b)) 47 [(0, .ref 72), (1, .int x), (2, .int y1), (3, .int (nI i))] [] (J, L, RR b) := by
        intro y1 e1
        rw [e1]
        refine wp_iinc (v := nI (i + 1)) (lv' := [(3, _), (0, _), (1, _), (2, _)]) rfl rfl (nI_1 i) (by decide) rfl ?_
        refine wp_goto 21 rfl rfl ?_
        refine wp_loc (lv' := [(0, _), (1, _), (2, _), (3, _)]) [1, 2, 3, 0] rfl ?_
        exact ih (i + 1) (by omega)
      refine wp_iload_n rfl rfl ?_
      refine wp_aload_n rfl rfl ?_
      refine q_geti rfl rfl (by first | rfl | assumption) rfl ?_
      refine wp_icmp_ge 49 rfl rfl (fun h24 => absurd h24 hlt) (fun _ => ?_)
      refine wp_iload_n rfl rfl ?_
      refine wp_iload_n rfl rfl ?_
      refine wp_ishr rfl ?_
      refine wp_iconst (v := 1) rfl rfl ?_
      refine wp_iand rfl ?_
      refine wp_iconst (v := 1) rfl rfl ?_
      refine wp_icmp_ne 47 rfl rfl (fun h31 => ?_) (fun h31 => ?_)
      · refine J47 _ ?_
        rw [s1]
        (try rw [hcl, hmi] at h37)
        rw [hbit] at h31
        (try rw [hcl, hmi])
        grind [b2]
      · refine wp_aload_n rfl rfl ?_
        refine q_getr rfl rfl (by first | rfl | assumption) rfl rfl ?_
        refine wp_iload_n rfl rfl ?_
        refine q_iald rfl (by first | rfl | assumption) (vp_in_nI (by omega) (by omega)) ?_
        refine wp_iconst (v := (-1)) rfl rfl ?_
        refine wp_icmp_eq 47 rfl rfl (fun h37 => ?_) (fun h37 => ?_)
        · refine J47 _ ?_
          rw [s1]
          (try rw [hcl, hmi] at h37)
          rw [hbit] at h31
          (try rw [hcl, hmi])
          grind [b2]
        · refine wp_iload_n rfl rfl ?_
          refine wp_iconst (v := 1) rfl rfl ?_
          refine wp_aload_n rfl rfl ?_
          refine q_getr rfl rfl (by first | rfl | assumption) rfl rfl ?_
          refine wp_iload_n rfl rfl ?_
          refine q_iald rfl (by first | rfl | assumption) (vp_in_nI (by omega) (by omega)) ?_
          refine wp_ishl rfl ?_
          refine wp_ior rfl ?_
          refine wp_istore_n (lv' := [(2, _), (0, _), (1, _), (3, _)]) rfl rfl (by decide) rfl ?_
          refine wp_loc (lv' := [(0, _), (1, _), (2, _), (3, _)]) [1, 2, 0, 3] rfl ?_
          refine J47 _ ?_
          rw [s1]
          (try rw [hcl, hmi] at h37)
          rw [hbit] at h31
          (try rw [hcl, hmi])
          grind [b2]
  have hrg := set_rng x hnr
  refine MT.intro m_X11_blame rfl (Nat.le_of_ble_eq_true rfl) ?_
  show WQ G (d + 1) Y_X11_blame _ 0 [(0, .ref 72), (1, .int x)] [] (I, L, RR b)
  refine wp_aload_n rfl rfl ?_
  refine wp_iconst (v := 0) rfl rfl ?_
  refine q_puti rfl rfl (by first | rfl | assumption) (Or.inl rfl) rfl ?_
  rw [hJ]
  refine wp_iload_n rfl rfl ?_
  refine wp_i2l rfl ?_
  refine wp_lconst (v := 0) rfl rfl ?_
  refine wp_iconst (v := 1) rfl rfl ?_
  refine wp_aload_n rfl rfl ?_
  refine q_geti rfl rfl (by first | rfl | assumption) rfl ?_
  refine wp_ishl rfl ?_
  refine wp_iconst (v := 1) rfl rfl ?_
  refine wp_isub rfl ?_
  refine wp_i2l rfl ?_
  refine cS1 rfl l_11_119 s_X11_in m_X11_in (c_inI G _ _ 0 ((1 : Int32) <<< (J 72 7 &&& 31) - 1) rfl rfl _) rfl (Nat.le_of_ble_eq_true rfl) ?_
  refine wp_if_ne 17 rfl rfl (fun h14 => ?_) (fun h14 => ?_)
  · refine wp_iconst (v := 0) rfl rfl ?_
    refine wp_istore_n (lv' := [(2, _), (0, _), (1, _)]) rfl rfl (by decide) rfl ?_
    refine wp_iconst (v := 0) rfl rfl ?_
    refine wp_istore_n (lv' := [(3, _), (2, _), (0, _), (1, _)]) rfl rfl (by decide) rfl ?_
    refine wp_loc (lv' := [(0, _), (1, _), (2, _), (3, _)]) [2, 3, 1, 0] rfl ?_
    rw [h7] at h14
    rw [if_pos (hrg.mpr (b2_ne.mp h14))]
    exact loop1 nr 0 (by omega)
  · rw [h7] at h14
    refine wp_bipush (v := (-2)) rfl rfl ?_
    exact wp_iret rfl rfl ⟨by rw [if_neg (fun e => (b2_eq.mp h14) (hrg.mp e))], rfl⟩
theorem s_blame {G : Gl} {d : Nat} {I : IF} {L : LF} {b : Bool} (x : Int32) (h : InvA I L) : StepA G (d + 1) Y_X10_blame Y_X11_blame [.int x] I L b := by
  obtain ⟨nm, na, nr, h⟩ := h
  exact StepA.query h (c_X10_blame G d x I L b h) (c_X11_blame G d x I L b h)
