/-! turn -/
def bstG (f : Nat → Nat → Int32) (a : Nat) : Nat → Nat → Int32 → Int32
  | 0, _, u => u
  | n + 1, i, u => bstG f a n (i + 1) (if u = -1 ∨ f u.toNatClampNeg a < f i a then nI i else u)
theorem bstG_cg {f g : Nat → Nat → Int32} {a : Nat} (h : ∀ m, m < 14 → f m a = g m a) : ∀ (n i : Nat) (u : Int32), i + n ≤ 10 → (u = -1 ∨ ∃ j, j < i ∧ u = nI j) → bstG f a n i u = bstG g a n i u
  | 0, _, _, _, _ => rfl
  | n + 1, i, u, hi, hu => by
    simp only [bstG]
    have e : (if u = -1 ∨ f u.toNatClampNeg a < f i a then nI i else u) = (if u = -1 ∨ g u.toNatClampNeg a < g i a then nI i else u) := by
      rcases hu with rfl | ⟨j, hj, rfl⟩
      · rw [if_pos (Or.inl rfl), if_pos (Or.inl rfl)]
      · rw [nI_clamp (by omega), h j (by omega), h i (by omega)]
    rw [e]
    refine bstG_cg h n (i + 1) _ (by omega) ?_
    split
    · exact Or.inr ⟨i, by omega, rfl⟩
    · rcases hu with e | ⟨j, hj, e⟩
      · exact Or.inl e
      · exact Or.inr ⟨j, by omega, e⟩
theorem bstG_b {f : Nat → Nat → Int32} {a : Nat} : ∀ (n i : Nat) (u : Int32), (u = -1 ∨ ∃ j, j < i ∧ u = nI j) → (bstG f a n i u = -1 ∨ ∃ j, j < i + n ∧ bstG f a n i u = nI j)
  | 0, _, _, hu => hu
  | n + 1, i, u, hu => by
    simp only [bstG]
    have := bstG_b (f := f) (a := a) n (i + 1) (if u = -1 ∨ f u.toNatClampNeg a < f i a then nI i else u) (by
      split
      · exact Or.inr ⟨i, by omega, rfl⟩
      · rcases hu with e | ⟨j, hj, e⟩
        · exact Or.inl e
        · exact Or.inr ⟨j, by omega, e⟩)
    rwa [show i + 1 + n = i + (n + 1) by omega] at this
theorem c_X1_strongestAt (G : Gl) (d : Nat) {nm a : Nat} (I : IF) (L : LF) (b : Bool) (h1 : I 1 2 = nI nm) (hnm : nm ≤ 10) (ha : a < 16) (hsq : ∀ m, m < 14 → ¬ sqD (I (4 + m) 0) (I (4 + m) 1) (I (18 + a) 0) (I (18 + a) 1) = 0) (hst : ∀ m, m < 14 → 0 ≤ stg I m a) : MD G (d + 1) Y_X1_strongestAt [.ref 1, .ref (18 + a)] (I, L, RR b) (some (.int (bstG (stg I) a nm 0 (-1)))) (I, L, RR b) := by
  have hsa := sh_area a ha
  have hloop : ∀ (t : Int32) (n i : Nat) (u s : Int32), i + n = nm → ((u = -1 ∧ s = -1) ∨ ∃ j, j < i ∧ u = nI j ∧ s = stg I j a) → bstG (stg I) a n i u = t → WQ G (d + 1) Y_X1_strongestAt (fun r' w'' => r' = some (.int t) ∧ w'' = (I, L, RR b)) 6 [(0, .ref 1), (1, .ref (18 + a)), (2, .int u), (3, .int s), (4, .int (nI i))] [] (I, L, RR b) := by
    intro t n
    induction n with
    | zero =>
      intro i u s hi hu ht
      have hge : I 1 2 ≤ nI i := by rw [h1]; exact nI_le (by omega) (by omega)
      simp only [bstG] at ht
      refine wp_iload rfl rfl ?_
      refine wp_aload_n rfl rfl ?_
      refine q_geti rfl rfl (by first | rfl | assumption) rfl ?_
      refine wp_icmp_ge 26 rfl rfl (fun _ => ?_) (fun h9 => absurd hge h9)
      refine wp_iload_n rfl rfl ?_
      exact wp_iret rfl rfl (⟨by rw [← ht], rfl⟩)
    | succ n ih =>
      intro i u s hi hu ht
      have hlt : ¬ I 1 2 ≤ nI i := by rw [h1]; exact nI_ge (by omega) (by omega)
      have hss := sh_mast i (by omega)
      simp only [bstG] at ht
      have hcond : (u = -1 ∨ stg I u.toNatClampNeg a < stg I i a) ↔ s < stg I i a := by
        rcases hu with ⟨rfl, rfl⟩ | ⟨j, hj, rfl, rfl⟩
        · have := hst i (by omega); grind
        · rw [nI_clamp (by omega)]
          have : ¬ nI j = (-1 : Int32) := by have := nI_pos' (n := j) (by omega); grind
          grind
      refine wp_iload rfl rfl ?_
      refine wp_aload_n rfl rfl ?_
      refine q_geti rfl rfl (by first | rfl | assumption) rfl ?_
      refine wp_icmp_ge 26 rfl rfl (fun h9 => absurd h9 hlt) (fun _ => ?_)
      refine wp_aload_n rfl rfl ?_
      refine q_getr rfl rfl (by first | rfl | assumption) rfl rfl ?_
      refine wp_iload rfl rfl ?_
      refine q_mast rfl rfl (by omega) ?_
      refine wp_aload_n rfl rfl ?_
      refine cV1 rfl l_1_61 i_X4_strengthAt m_X4_strengthAt (by first | rfl | assumption) (by decide) (c_X4_strengthAt G _ _ _ _ _ _ hss hsa (hsq i (by omega))) rfl (Nat.le_of_ble_eq_true rfl) ?_
      refine wp_istore (lv' := [(5, _), (0, _), (1, _), (2, _), (3, _), (4, _)]) rfl (by decide) rfl ?_
      refine wp_iload rfl rfl ?_
      refine wp_iload_n rfl rfl ?_
      refine wp_icmp_le 24 rfl rfl (fun h19 => ?_) (fun h19 => ?_)
      · refine wp_loc (lv' := [(0, _), (1, _), (2, _), (3, _), (4, _)]) [1, 2, 3, 4, 5] rfl ?_
        first
        | (have hc : s < stg I i a := by (first | exact h19 | (show s < strg (I (4 + i) 2) (I (4 + i) 0) (I (4 + i) 1) (I (18 + a) 0) (I (18 + a) 1); grind))
           rw [if_pos (hcond.mpr hc)] at ht
           refine wp_iinc (v := nI (i + 1)) (lv' := [(4, _), (0, _), (1, _), (2, _), (3, _)]) rfl rfl (nI_1 i) (by decide) rfl ?_
           refine wp_goto 6 rfl rfl ?_
           refine wp_loc (lv' := [(0, _), (1, _), (2, _), (3, _), (4, _)]) [1, 2, 3, 4, 0] rfl ?_
           exact ih (i + 1) _ _ (by omega) (Or.inr ⟨i, by omega, rfl, rfl⟩) ht)
        | (have hc : ¬ s < stg I i a := by (show ¬ s < strg (I (4 + i) 2) (I (4 + i) 0) (I (4 + i) 1) (I (18 + a) 0) (I (18 + a) 1); grind)
           rw [if_neg (fun z => hc (hcond.mp z))] at ht
           refine wp_iinc (v := nI (i + 1)) (lv' := [(4, _), (0, _), (1, _), (2, _), (3, _)]) rfl rfl (nI_1 i) (by decide) rfl ?_
           refine wp_goto 6 rfl rfl ?_
           refine wp_loc (lv' := [(0, _), (1, _), (2, _), (3, _), (4, _)]) [1, 2, 3, 4, 0] rfl ?_
           exact ih (i + 1) _ _ (by omega) (hu.imp id (fun ⟨j, e1, e2, e3⟩ => ⟨j, by omega, e2, e3⟩)) ht)
      · refine wp_iload rfl rfl ?_
        refine wp_istore_n (lv' := [(2, _), (5, _), (0, _), (1, _), (3, _), (4, _)]) rfl rfl (by decide) rfl ?_
        refine wp_iload rfl rfl ?_
        refine wp_istore_n (lv' := [(3, _), (2, _), (5, _), (0, _), (1, _), (4, _)]) rfl rfl (by decide) rfl ?_
        refine wp_loc (lv' := [(0, _), (1, _), (2, _), (3, _), (4, _)]) [3, 4, 1, 0, 5] rfl ?_
        first
        | (have hc : s < stg I i a := by (first | exact h19 | (show s < strg (I (4 + i) 2) (I (4 + i) 0) (I (4 + i) 1) (I (18 + a) 0) (I (18 + a) 1); grind))
           rw [if_pos (hcond.mpr hc)] at ht
           refine wp_iinc (v := nI (i + 1)) (lv' := [(4, _), (0, _), (1, _), (2, _), (3, _)]) rfl rfl (nI_1 i) (by decide) rfl ?_
           refine wp_goto 6 rfl rfl ?_
           refine wp_loc (lv' := [(0, _), (1, _), (2, _), (3, _), (4, _)]) [1, 2, 3, 4, 0] rfl ?_
           exact ih (i + 1) _ _ (by omega) (Or.inr ⟨i, by omega, rfl, rfl⟩) ht)
        | (have hc : ¬ s < stg I i a := by (show ¬ s < strg (I (4 + i) 2) (I (4 + i) 0) (I (4 + i) 1) (I (18 + a) 0) (I (18 + a) 1); grind)
           rw [if_neg (fun z => hc (hcond.mp z))] at ht
           refine wp_iinc (v := nI (i + 1)) (lv' := [(4, _), (0, _), (1, _), (2, _), (3, _)]) rfl rfl (nI_1 i) (by decide) rfl ?_
           refine wp_goto 6 rfl rfl ?_
           refine wp_loc (lv' := [(0, _), (1, _), (2, _), (3, _), (4, _)]) [1, 2, 3, 4, 0] rfl ?_
           exact ih (i + 1) _ _ (by omega) (hu.imp id (fun ⟨j, e1, e2, e3⟩ => ⟨j, by omega, e2, e3⟩)) ht)
  refine MT.intro m_X1_strongestAt rfl (Nat.le_of_ble_eq_true rfl) ?_
  show WQ G (d + 1) Y_X1_strongestAt _ 0 [(0, .ref 1), (1, .ref (18 + a))] [] (I, L, RR b)
  refine wp_iconst (v := (-1)) rfl rfl ?_
  refine wp_istore_n (lv' := [(2, _), (0, _), (1, _)]) rfl rfl (by decide) rfl ?_
  refine wp_iconst (v := (-1)) rfl rfl ?_
  refine wp_istore_n (lv' := [(3, _), (2, _), (0, _), (1, _)]) rfl rfl (by decide) rfl ?_
  refine wp_iconst (v := 0) rfl rfl ?_
  refine wp_istore (lv' := [(4, _), (3, _), (2, _), (0, _), (1, _)]) rfl (by decide) rfl ?_
  refine wp_loc (lv' := [(0, _), (1, _), (2, _), (3, _), (4, _)]) [3, 4, 2, 1, 0] rfl ?_
  exact hloop _ nm 0 (-1) (-1) (by omega) (Or.inl ⟨rfl, rfl⟩) rfl
/-- the aerials turn, area by area -/
def lk1 (v : Nat → Int32) (J : IF) (i : Nat) : IF := if J (18 + i) 6 = v i then J else uI (uI J (18 + i) 6 (v i)) (18 + i) 7 (J (18 + i) 7 + 1)
def tW (v : Nat → Int32) (I : IF) : Nat → IF
  | 0 => I
  | i + 1 => lk1 v (tW v I i) i
def tN (f v : Nat → Int32) : Nat → Int32
  | 0 => 0
  | i + 1 => tN f v i + b2 (¬ f i = v i)
theorem tW_o {v : Nat → Int32} {I : IF} : ∀ (n q : Nat), (q < 18 ∨ 18 + n ≤ q) → tW v I n q = I q
  | 0, _, _ => rfl
  | n + 1, q, h => by
    simp only [tW, lk1]
    split
    · exact tW_o n q (by omega)
    · rw [uI_fn (by omega), uI_fn (by omega)]
      exact tW_o n q (by omega)
theorem tW_k {v : Nat → Int32} {I : IF} : ∀ (n q k : Nat), k ≠ 6 → k ≠ 7 → tW v I n q k = I q k
  | 0, _, _, _, _ => rfl
  | n + 1, q, k, h6, h7 => by
    simp only [tW, lk1]
    split
    · exact tW_k n q k h6 h7
    · by_cases e : q = 18 + n
      · subst e
        rw [uI_nk h7, uI_nk h6]
        exact tW_k n _ k h6 h7
      · rw [uI_ne e, uI_ne e]
        exact tW_k n q k h6 h7
theorem tW_a {v : Nat → Int32} {I : IF} : ∀ (n a : Nat), a < n → tW v I n (18 + a) 6 = v a ∧ tW v I n (18 + a) 7 = I (18 + a) 7 + b2 (¬ I (18 + a) 6 = v a)
  | n + 1, a, h => by
    simp only [tW, lk1]
    by_cases e : a = n
    · subst e
      rw [tW_o (v := v) (I := I) a (18 + a) (by omega)]
      split
      · next hz =>
        rw [tW_o (v := v) (I := I) a (18 + a) (by omega)]
        exact ⟨hz, by rw [b2_f (by grind)]; grind⟩
      · next hz =>
        rw [uI_nk (by decide), uI_eq, uI_eq]
        exact ⟨rfl, by rw [b2_t hz]⟩
    · have := tW_a (v := v) (I := I) n a (by omega)
      split
      · exact this
      · rw [uI_ne (by omega), uI_ne (by omega), uI_ne (by omega), uI_ne (by omega)]
        exact this
theorem c_X10_turn (G : Gl) (d : Nat) {nm na nr : Nat} (I : IF) (L : LF) (b : Bool) (h : IV nm na nr I L) : MD G (d + 2) Y_X10_turn [.ref 0] (I, L, RR b) (some (.int (tN (fun a => I (18 + a) 6) (fun a => bstG (stg I) a nm 0 (-1)) nr))) (tW (fun a => bstG (stg I) a nm 0 (-1)) I nr, L, RR b) := by
  have hnm : nm ≤ 10 := h.1.1.2.2
  have hnr : nr ≤ 16 := h.1.2.2.2.2
  generalize hv : (fun a => bstG (stg I) a nm 0 (-1)) = v
  have hva : ∀ a, bstG (stg I) a nm 0 (-1) = v a := fun a => by rw [← hv]
  have hloop : ∀ (n i : Nat), i + n = nr → WQ G (d + 2) Y_X10_turn (fun r' w'' => r' = some (.int (tN (fun a => I (18 + a) 6) v nr)) ∧ w'' = (tW v I nr, L, RR b)) 4 [(0, .ref 0), (1, .int (tN (fun a => I (18 + a) 6) v i)), (2, .int (nI i))] [] (tW v I i, L, RR b) := by
    intro n
    induction n with
    | zero =>
      intro i hi
      have hin : i = nr := by omega
      subst hin
      have hge : tW v I i 1 4 ≤ nI i := by rw [tW_o i 1 (by omega), h.1.2.2.1]; exact nI_le (by omega) (by omega)
      refine wp_iload_n rfl rfl ?_
      refine wp_aload_n rfl rfl ?_
      refine q_getr rfl rfl (by first | rfl | assumption) rfl rfl ?_
      refine q_geti rfl rfl (by first | rfl | assumption) rfl ?_
      refine wp_icmp_ge 27 rfl rfl (fun _ => ?_) (fun h8 => absurd hge h8)
      refine wp_iload_n rfl rfl ?_
      exact wp_iret rfl rfl (⟨rfl, rfl⟩)
    | succ n ih =>
      intro i hi
      have hlt : ¬ tW v I i 1 4 ≤ nI i := by rw [tW_o i 1 (by omega), h.1.2.2.1]; exact nI_ge (by omega) (by omega)
      have hsa := sh_area i (by omega)
      have hJ4 : ∀ m, m < 14 → tW v I i (4 + m) = I (4 + m) := fun m hm => tW_o i _ (by omega)
      have hst : ∀ m, m < 14 → stg (tW v I i) m i = stg I m i := by intro m hm; unfold stg; rw [hJ4 m hm, tW_o i (18 + i) (by omega)]
      have cs := c_X1_strongestAt G d (a := i) (nm := nm) (tW v I i) L b (by rw [tW_o i 1 (by omega)]; exact h.1.1.1) hnm (by omega) (fun m hm => by rw [hJ4 m hm, tW_o i (18 + i) (by omega)]; exact sq_ne h hm (by omega)) (fun m hm => by rw [hst m hm]; obtain ⟨q, q1, q2⟩ := stg_b h hm (show i < 16 by omega); rw [q2]; exact nI_pos' (by omega))
      rw [bstG_cg hst nm 0 (-1) (by omega) (Or.inl rfl), hva i] at cs
      have hstep : tW v I (i + 1) = (if tW v I i (18 + i) 6 = v i then tW v I i else uI (uI (tW v I i) (18 + i) 6 (v i)) (18 + i) 7 (tW v I i (18 + i) 7 + 1)) := rfl
      have hcnt : tN (fun a => I (18 + a) 6) v (i + 1) = tN (fun a => I (18 + a) 6) v i + b2 (¬ I (18 + i) 6 = v i) := rfl
      have e6 : tW v I i (18 + i) 6 = I (18 + i) 6 := by rw [tW_o i (18 + i) (by omega)]
      refine wp_iload_n rfl rfl ?_
      refine wp_aload_n rfl rfl ?_
      refine q_getr rfl rfl (by first | rfl | assumption) rfl rfl ?_
      refine q_geti rfl rfl (by first | rfl | assumption) rfl ?_
      refine wp_icmp_ge 27 rfl rfl (fun h8 => absurd h8 hlt) (fun _ => ?_)
      refine wp_aload_n rfl rfl ?_
      refine q_getr rfl rfl (by first | rfl | assumption) rfl rfl ?_
      refine q_getr rfl rfl (by first | rfl | assumption) rfl rfl ?_
      refine wp_iload_n rfl rfl ?_
      refine q_area rfl rfl (by omega) ?_
      refine wp_aload_n rfl rfl ?_
      refine q_getr rfl rfl (by first | rfl | assumption) rfl rfl ?_
      refine wp_aload_n rfl rfl ?_
      refine q_getr rfl rfl (by first | rfl | assumption) rfl rfl ?_
      refine q_getr rfl rfl (by first | rfl | assumption) rfl rfl ?_
      refine wp_iload_n rfl rfl ?_
      refine q_area rfl rfl (by omega) ?_
      refine cV1 rfl l_10_172 i_X1_strongestAt m_X1_strongestAt (by first | rfl | assumption) (by decide) (cs) rfl (Nat.le_of_ble_eq_true rfl) ?_
      refine cV1 rfl l_10_169 i_X0_lookAt m_X0_lookAt (by first | rfl | assumption) (by decide) (c_X0_lookAt G _ _ _ _ _ _ hsa) rfl (Nat.le_of_ble_eq_true rfl) ?_
      rw [← hstep, e6]
      refine wp_if_eq 25 rfl rfl (fun h23 => ?_) (fun h23 => ?_)
      · refine wp_iinc (v := nI (i + 1)) (lv' := [(2, _), (0, _), (1, _)]) rfl rfl (nI_1 i) (by decide) rfl ?_
        skip
        refine wp_goto 4 rfl rfl ?_
        refine wp_loc (lv' := [(0, _), (1, _), (2, _)]) [1, 2, 0] rfl ?_
        first
        | exact ih (i + 1) (by omega)
        | (have hz := b2_eq.mp h23
           have e9 : tN (fun a => I (18 + a) 6) v (i + 1) = tN (fun a => I (18 + a) 6) v i := by rw [hcnt, b2_f hz]; grind
           rw [← e9]
           exact ih (i + 1) (by omega))
      · refine wp_iinc (v := tN (fun a => I (18 + a) 6) v (i + 1)) (lv' := [(1, _), (0, _), (2, _)]) rfl rfl ((by rw [hcnt, b2_t (b2_ne.mp h23)]; rfl)) (by decide) rfl ?_
        refine wp_iinc (v := nI (i + 1)) (lv' := [(2, _), (1, _), (0, _)]) rfl rfl (nI_1 i) (by decide) rfl ?_
        skip
        refine wp_goto 4 rfl rfl ?_
        refine wp_loc (lv' := [(0, _), (1, _), (2, _)]) [2, 1, 0] rfl ?_
        first
        | exact ih (i + 1) (by omega)
        | (have hz := b2_eq.mp h23
           have e9 : tN (fun a => I (18 + a) 6) v (i + 1) = tN (fun a => I (18 + a) 6) v i := by rw [hcnt, b2_f hz]; grind
           rw [← e9]
           exact ih (i + 1) (by omega))
  refine MT.intro m_X10_turn rfl (Nat.le_of_ble_eq_true rfl) ?_
  show WQ G (d + 2) Y_X10_turn _ 0 [(0, .ref 0)] [] (I, L, RR b)
  refine wp_iconst (v := 0) rfl rfl ?_
  refine wp_istore_n (lv' := [(1, _), (0, _)]) rfl rfl (by decide) rfl ?_
  refine wp_iconst (v := 0) rfl rfl ?_
  refine wp_istore_n (lv' := [(2, _), (1, _), (0, _)]) rfl rfl (by decide) rfl ?_
  refine wp_loc (lv' := [(0, _), (1, _), (2, _)]) [2, 1, 0] rfl ?_
  exact hloop nr 0 (by omega)
