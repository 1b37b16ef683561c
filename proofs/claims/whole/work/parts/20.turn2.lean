/-! turn, the reference's -/
def stgM (I : IF) (m a : Nat) : Int32 := strg (I 79 m) (I 77 m) (I 78 m) (I 86 a) (I 87 a)
def lk2 (v : Nat → Int32) (J : IF) (i : Nat) : IF := if J 92 i = v i then J else uI (uI J 92 i (v i)) 93 i (J 93 i + 1)
def tW2 (v : Nat → Int32) (I : IF) : Nat → IF
  | 0 => I
  | i + 1 => lk2 v (tW2 v I i) i
theorem tW2_o {v : Nat → Int32} {I : IF} : ∀ (n q : Nat), q ≠ 92 → q ≠ 93 → tW2 v I n q = I q
  | 0, _, _, _ => rfl
  | n + 1, q, h2, h3 => by
    simp only [tW2, lk2]
    split
    · exact tW2_o n q h2 h3
    · rw [uI_fn h3, uI_fn h2]
      exact tW2_o n q h2 h3
theorem tW2_k {v : Nat → Int32} {I : IF} : ∀ (n k : Nat), n ≤ k → tW2 v I n 92 k = I 92 k ∧ tW2 v I n 93 k = I 93 k
  | 0, _, _ => ⟨rfl, rfl⟩
  | n + 1, k, h => by
    simp only [tW2, lk2]
    split
    · exact tW2_k n k (by omega)
    · rw [uI_ne (by decide), uI_nk (by omega), uI_nk (by omega), uI_ne (by decide)]
      exact tW2_k n k (by omega)
theorem tW2_a {v : Nat → Int32} {I : IF} : ∀ (n a : Nat), a < n → tW2 v I n 92 a = v a ∧ tW2 v I n 93 a = I 93 a + b2 (¬ I 92 a = v a)
  | n + 1, a, h => by
    simp only [tW2, lk2]
    by_cases e : a = n
    · subst e
      have hk := tW2_k (v := v) (I := I) a a (Nat.le_refl _)
      rw [hk.1]
      split
      · next hz =>
        rw [hk.1, hk.2]
        exact ⟨hz, by rw [b2_f (by grind)]; grind⟩
      · next hz =>
        rw [uI_ne (by decide), uI_eq, uI_eq, hk.2]
        exact ⟨rfl, by rw [b2_t hz]⟩
    · have := tW2_a (v := v) (I := I) n a (by omega)
      split
      · exact this
      · rw [uI_ne (by decide), uI_nk (by omega), uI_nk (by omega), uI_ne (by decide)]
        exact this
theorem tN_cg {f g v : Nat → Int32} : ∀ n, (∀ a, a < n → f a = g a) → tN f v n = tN g v n
  | 0, _ => rfl
  | n + 1, h => by
    simp only [tN]
    rw [tN_cg n (fun a ha => h a (by omega)), h n (by omega)]
theorem tN_cg2 {f g v v' : Nat → Int32} : ∀ n, (∀ a, a < n → f a = g a) → (∀ a, a < n → v a = v' a) → tN f v n = tN g v' n
  | 0, _, _ => rfl
  | n + 1, h, h' => by
    simp only [tN]
    rw [tN_cg2 n (fun a ha => h a (by omega)) (fun a ha => h' a (by omega)), h n (by omega), h' n (by omega)]
theorem c_X11_turn (G : Gl) (d : Nat) {nm nr : Nat} (I : IF) (L : LF) (b : Bool) (h5 : I 72 5 = nI nm) (hnm : nm ≤ 10) (h7 : I 72 7 = nI nr) (hnr : nr ≤ 16) (hsq : ∀ m a, m < 14 → a < 16 → ¬ sqD (I 77 m) (I 78 m) (I 86 a) (I 87 a) = 0) : MD G (d + 1) Y_X11_turn [.ref 72] (I, L, RR b) (some (.int (tN (I 92) (fun a => bstG (stgM I) a nm 0 (-1)) nr))) (tW2 (fun a => bstG (stgM I) a nm 0 (-1)) (uI I 72 0 0) nr, L, RR b) := by
  generalize hv : (fun a => bstG (stgM I) a nm 0 (-1)) = v
  have hva : ∀ a, bstG (stgM I) a nm 0 (-1) = v a := fun a => by rw [← hv]
  generalize hI0 : uI I 72 0 0 = I0
  have hI0o : ∀ q, q ≠ 72 → I0 q = I q := by intro q hq; rw [← hI0]; exact uI_fn hq
  have hI05 : I0 72 5 = nI nm := by rw [← hI0, uI_nk (by decide)]; exact h5
  have hI07 : I0 72 7 = nI nr := by rw [← hI0, uI_nk (by decide)]; exact h7
  have inner : ∀ (i : Nat) (hi : i < nr) (c : Int32) (n k : Nat) (u : Int32), k + n = nm → (u = -1 ∨ ∃ j, j < k ∧ u = nI j) → bstG (stgM I) i n k u = v i →
      WQ G (d + 1) Y_X11_turn (fun r' w'' => r' = some (.int (tN (I 92) v nr)) ∧ w'' = (tW2 v I0 nr, L, RR b)) 35 [(0, .ref 72), (1, .int c), (2, .int (nI i)), (3, .int (v i))] [] (tW2 v I0 i, L, RR b) →
      WQ G (d + 1) Y_X11_turn (fun r' w'' => r' = some (.int (tN (I 92) v nr)) ∧ w'' = (tW2 v I0 nr, L, RR b)) 15 [(0, .ref 72), (1, .int c), (2, .int (nI i)), (3, .int u), (4, .int (nI k))] [] (tW2 v I0 i, L, RR b) := by
    intro i hi c n
    have hJo : ∀ q, q ≠ 92 → q ≠ 93 → tW2 v I0 i q = I0 q := fun q => tW2_o i q
    have hini : vp_in (nI i) 16 := vp_in_nI (by omega) (by omega)
    have hcli : (nI i).toNatClampNeg = i := nI_clamp (by omega)
    have cat : ∀ m : Nat, m < 14 → ∀ x : Int32, x = nI m → MD G d Y_X11_at [.ref 72, .int x, .int (nI i)] (tW2 v I0 i, L, RR b) (some (.int (stgM I m i))) (tW2 v I0 i, L, RR b) := by
      intro m hm x hx
      subst hx
      have hclm : (nI m).toNatClampNeg = m := nI_clamp (by omega)
      have k1 := c_X11_at G d (nI m) (nI i) (tW2 v I0 i) L b (vp_in_nI hm (by omega)) hini (by
        rw [hclm, hcli]
        simp (disch := omega) only [hJo, hI0o]
        exact hsq m i hm (by omega))
      rw [hclm, hcli] at k1
      simp (disch := omega) only [hJo, hI0o] at k1
      exact k1
    induction n with
    | zero =>
      intro k u hk hu ht K
      have hge : tW2 v I0 i 72 5 ≤ nI k := by rw [hJo 72 (by decide) (by decide), hI05]; exact nI_le (by omega) (by omega)
      simp only [bstG] at ht
      refine wp_iload rfl rfl ?_
      refine wp_aload_n rfl rfl ?_
      refine q_geti rfl rfl (by first | rfl | assumption) rfl ?_
      refine wp_icmp_ge 35 rfl rfl (fun _ => ?_) (fun h18 => absurd hge h18)
      refine wp_loc (lv' := [(0, _), (1, _), (2, _), (3, _)]) [0, 1, 2, 3] rfl ?_
      rw [ht]
      exact K
    | succ n ih =>
      intro k u hk hu ht K
      have hlt : ¬ tW2 v I0 i 72 5 ≤ nI k := by rw [hJo 72 (by decide) (by decide), hI05]; exact nI_ge (by omega) (by omega)
      simp only [bstG] at ht
      rcases hu with hu1 | ⟨j, hj, hu1⟩
      · rw [if_pos (Or.inl hu1)] at ht
        refine wp_iload rfl rfl ?_
        refine wp_aload_n rfl rfl ?_
        refine q_geti rfl rfl (by first | rfl | assumption) rfl ?_
        refine wp_icmp_ge 35 rfl rfl (fun h18 => absurd h18 hlt) (fun _ => ?_)
        refine wp_iload_n rfl rfl ?_
        refine wp_iconst (v := (-1)) rfl rfl ?_
        refine wp_icmp_eq 31 rfl rfl (fun _ => ?_) (fun h21 => absurd hu1 h21)
        refine wp_iload rfl rfl ?_
        refine wp_istore_n (lv' := [(3, _), (0, _), (1, _), (2, _), (4, _)]) rfl rfl (by decide) rfl ?_
        refine wp_iinc (v := nI (k + 1)) (lv' := [(4, _), (3, _), (0, _), (1, _), (2, _)]) rfl rfl (nI_1 k) (by decide) rfl ?_
        refine wp_goto 15 rfl rfl ?_
        refine wp_loc (lv' := [(0, _), (1, _), (2, _), (3, _), (4, _)]) [2, 3, 4, 1, 0] rfl ?_
        exact ih (k + 1) (nI k) (by omega) (Or.inr ⟨k, by omega, rfl⟩) ht K
      · have hne : ¬ u = -1 := by rw [hu1]; have := nI_pos' (n := j) (by omega); grind
        have hclj : u.toNatClampNeg = j := by rw [hu1]; exact nI_clamp (by omega)
        rw [hclj] at ht
        by_cases hc : stgM I j i < stgM I k i
        · rw [if_pos (Or.inr hc)] at ht
          refine wp_iload rfl rfl ?_
          refine wp_aload_n rfl rfl ?_
          refine q_geti rfl rfl (by first | rfl | assumption) rfl ?_
          refine wp_icmp_ge 35 rfl rfl (fun h18 => absurd h18 hlt) (fun _ => ?_)
          refine wp_iload_n rfl rfl ?_
          refine wp_iconst (v := (-1)) rfl rfl ?_
          refine wp_icmp_eq 31 rfl rfl (fun h21 => absurd h21 hne) (fun _ => ?_)
          refine wp_aload_n rfl rfl ?_
          refine wp_iload rfl rfl ?_
          refine wp_iload_n rfl rfl ?_
          refine cV1 rfl l_11_172 i_X11_at m_X11_at (by first | rfl | assumption) (by decide) (cat k (by omega) _ rfl) rfl (Nat.le_of_ble_eq_true rfl) ?_
          refine wp_aload_n rfl rfl ?_
          refine wp_iload_n rfl rfl ?_
          refine wp_iload_n rfl rfl ?_
          refine cV1 rfl l_11_172 i_X11_at m_X11_at (by first | rfl | assumption) (by decide) (cat j (by omega) _ hu1) rfl (Nat.le_of_ble_eq_true rfl) ?_
          refine wp_icmp_le 33 rfl rfl (fun h30 => ?_) (fun h30 => ?_)
          · exact absurd h30 (by grind)
          · refine wp_iload rfl rfl ?_
            refine wp_istore_n (lv' := [(3, _), (0, _), (1, _), (2, _), (4, _)]) rfl rfl (by decide) rfl ?_
            refine wp_iinc (v := nI (k + 1)) (lv' := [(4, _), (3, _), (0, _), (1, _), (2, _)]) rfl rfl (nI_1 k) (by decide) rfl ?_
            refine wp_goto 15 rfl rfl ?_
            refine wp_loc (lv' := [(0, _), (1, _), (2, _), (3, _), (4, _)]) [2, 3, 4, 1, 0] rfl ?_
            exact ih (k + 1) (nI k) (by omega) (Or.inr ⟨k, by omega, rfl⟩) ht K
        · rw [if_neg (by grind)] at ht
          refine wp_iload rfl rfl ?_
          refine wp_aload_n rfl rfl ?_
          refine q_geti rfl rfl (by first | rfl | assumption) rfl ?_
          refine wp_icmp_ge 35 rfl rfl (fun h18 => absurd h18 hlt) (fun _ => ?_)
          refine wp_iload_n rfl rfl ?_
          refine wp_iconst (v := (-1)) rfl rfl ?_
          refine wp_icmp_eq 31 rfl rfl (fun h21 => absurd h21 hne) (fun _ => ?_)
          refine wp_aload_n rfl rfl ?_
          refine wp_iload rfl rfl ?_
          refine wp_iload_n rfl rfl ?_
          refine cV1 rfl l_11_172 i_X11_at m_X11_at (by first | rfl | assumption) (by decide) (cat k (by omega) _ rfl) rfl (Nat.le_of_ble_eq_true rfl) ?_
          refine wp_aload_n rfl rfl ?_
          refine wp_iload_n rfl rfl ?_
          refine wp_iload_n rfl rfl ?_
          refine cV1 rfl l_11_172 i_X11_at m_X11_at (by first | rfl | assumption) (by decide) (cat j (by omega) _ hu1) rfl (Nat.le_of_ble_eq_true rfl) ?_
          refine wp_icmp_le 33 rfl rfl (fun h30 => ?_) (fun h30 => ?_)
          · refine wp_iinc (v := nI (k + 1)) (lv' := [(4, _), (0, _), (1, _), (2, _), (3, _)]) rfl rfl (nI_1 k) (by decide) rfl ?_
            refine wp_goto 15 rfl rfl ?_
            refine wp_loc (lv' := [(0, _), (1, _), (2, _), (3, _), (4, _)]) [1, 2, 3, 4, 0] rfl ?_
            exact ih (k + 1) u (by omega) (Or.inr ⟨j, by omega, hu1⟩) ht K
          · exact absurd (by grind) h30
  have outer : ∀ (n i : Nat), i + n = nr → WQ G (d + 1) Y_X11_turn (fun r' w'' => r' = some (.int (tN (I 92) v nr)) ∧ w'' = (tW2 v I0 nr, L, RR b)) 7 [(0, .ref 72), (1, .int (tN (I 92) v i)), (2, .int (nI i))] [] (tW2 v I0 i, L, RR b) := by
    intro n
    induction n with
    | zero =>
      intro i hi
      have hin : i = nr := by omega
      subst hin
      have hge : tW2 v I0 i 72 7 ≤ nI i := by rw [tW2_o i 72 (by decide) (by decide), hI07]; exact nI_le (by omega) (by omega)
      refine wp_iload_n rfl rfl ?_
      refine wp_aload_n rfl rfl ?_
      refine q_geti rfl rfl (by first | rfl | assumption) rfl ?_
      refine wp_icmp_ge 48 rfl rfl (fun _ => ?_) (fun h10 => absurd hge h10)
      refine wp_iload_n rfl rfl ?_
      exact wp_iret rfl rfl (⟨rfl, rfl⟩)
    | succ n ih =>
      intro i hi
      have hlt : ¬ tW2 v I0 i 72 7 ≤ nI i := by rw [tW2_o i 72 (by decide) (by decide), hI07]; exact nI_ge (by omega) (by omega)
      have hini : vp_in (nI i) 16 := vp_in_nI (by omega) (by omega)
      have hcli : (nI i).toNatClampNeg = i := nI_clamp (by omega)
      have hstep : tW2 v I0 (i + 1) = (if tW2 v I0 i 92 i = v i then tW2 v I0 i else uI (uI (tW2 v I0 i) 92 i (v i)) 93 i (tW2 v I0 i 93 i + 1)) := rfl
      have e92 : tW2 v I0 i 92 i = I 92 i := by rw [(tW2_k i i (Nat.le_refl _)).1, hI0o 92 (by decide)]
      have hcnt : tN (I 92) v (i + 1) = tN (I 92) v i + b2 (¬ I 92 i = v i) := rfl
      have ct := c_X11_turned G d (nI i) (v i) (tW2 v I0 i) L b hini
      rw [hcli, ← hstep, e92] at ct
      have K : WQ G (d + 1) Y_X11_turn (fun r' w'' => r' = some (.int (tN (I 92) v nr)) ∧ w'' = (tW2 v I0 nr, L, RR b)) 35 [(0, .ref 72), (1, .int (tN (I 92) v i)), (2, .int (nI i)), (3, .int (v i))] [] (tW2 v I0 i, L, RR b) := by
        refine wp_iload_n rfl rfl ?_
        refine wp_aload_n rfl rfl ?_
        refine wp_iload_n rfl rfl ?_
        refine wp_iload_n rfl rfl ?_
        refine cV1 rfl l_11_168 i_X11_turned m_X11_turned (by first | rfl | assumption) (by decide) (ct) rfl (Nat.le_of_ble_eq_true rfl) ?_
        refine wp_if_eq 43 rfl rfl (fun h40 => ?_) (fun h40 => ?_)
        · refine wp_iconst (v := 0) rfl rfl ?_
          refine wp_iadd rfl ?_
          refine wp_istore_n (lv' := [(1, _), (0, _), (2, _), (3, _)]) rfl rfl (by decide) rfl ?_
          refine wp_iinc (v := nI (i + 1)) (lv' := [(2, _), (1, _), (0, _), (3, _)]) rfl rfl (nI_1 i) (by decide) rfl ?_
          refine wp_goto 7 rfl rfl ?_
          refine wp_loc (lv' := [(0, _), (1, _), (2, _)]) [2, 1, 0] rfl ?_
          rw [show tN (I 92) v i + _ = tN (I 92) v (i + 1) by rw [hcnt]; first | rw [b2_f (b2_eq.mp h40)] | rw [b2_t (b2_ne.mp h40)]]
          exact ih (i + 1) (by omega)
        · refine wp_iconst (v := 1) rfl rfl ?_
          refine wp_goto 44 rfl rfl ?_
          refine wp_iadd rfl ?_
          refine wp_istore_n (lv' := [(1, _), (0, _), (2, _), (3, _)]) rfl rfl (by decide) rfl ?_
          refine wp_iinc (v := nI (i + 1)) (lv' := [(2, _), (1, _), (0, _), (3, _)]) rfl rfl (nI_1 i) (by decide) rfl ?_
          refine wp_goto 7 rfl rfl ?_
          refine wp_loc (lv' := [(0, _), (1, _), (2, _)]) [2, 1, 0] rfl ?_
          rw [show tN (I 92) v i + _ = tN (I 92) v (i + 1) by rw [hcnt]; first | rw [b2_f (b2_eq.mp h40)] | rw [b2_t (b2_ne.mp h40)]]
          exact ih (i + 1) (by omega)
      refine wp_iload_n rfl rfl ?_
      refine wp_aload_n rfl rfl ?_
      refine q_geti rfl rfl (by first | rfl | assumption) rfl ?_
      refine wp_icmp_ge 48 rfl rfl (fun h10 => absurd h10 hlt) (fun _ => ?_)
      refine wp_iconst (v := (-1)) rfl rfl ?_
      refine wp_istore_n (lv' := [(3, _), (0, _), (1, _), (2, _)]) rfl rfl (by decide) rfl ?_
      refine wp_iconst (v := 0) rfl rfl ?_
      refine wp_istore (lv' := [(4, _), (3, _), (0, _), (1, _), (2, _)]) rfl (by decide) rfl ?_
      refine wp_loc (lv' := [(0, _), (1, _), (2, _), (3, _), (4, _)]) [2, 3, 4, 1, 0] rfl ?_
      exact inner i (by omega) _ nm 0 (-1) (by omega) (Or.inl rfl) (hva i) K
  refine MT.intro m_X11_turn rfl (Nat.le_of_ble_eq_true rfl) ?_
  show WQ G (d + 1) Y_X11_turn _ 0 [(0, .ref 72)] [] (I, L, RR b)
  refine wp_aload_n rfl rfl ?_
  refine wp_iconst (v := 0) rfl rfl ?_
  refine q_puti rfl rfl (by first | rfl | assumption) (Or.inl rfl) rfl ?_
  rw [hI0]
  refine wp_iconst (v := 0) rfl rfl ?_
  refine wp_istore_n (lv' := [(1, _), (0, _)]) rfl rfl (by decide) rfl ?_
  refine wp_iconst (v := 0) rfl rfl ?_
  refine wp_istore_n (lv' := [(2, _), (1, _), (0, _)]) rfl rfl (by decide) rfl ?_
  refine wp_loc (lv' := [(0, _), (1, _), (2, _)]) [2, 1, 0] rfl ?_
  exact outer nr 0 (by omega)
/-- all aerials turn, on both sides -/
theorem IV_looks {nm na nr : Nat} {I J : IF} {L : LF} {v c : Nat → Int32} (h : IV nm na nr I L) (hv : ∀ a, a < nr → v a = -1 ∨ (0 ≤ v a ∧ v a < I 1 2)) (h6 : ∀ a, a < nr → J (18 + a) 6 = v a) (h7 : ∀ a, a < nr → J (18 + a) 7 = I (18 + a) 7 + c a) (h92 : ∀ a, a < nr → J 92 a = v a) (h93 : ∀ a, a < nr → J 93 a = I 93 a + c a) (hk : ∀ a k, a < 16 → k ≠ 6 → k ≠ 7 → J (18 + a) k = I (18 + a) k) (hn : ∀ a, nr ≤ a → a < 16 → J (18 + a) = I (18 + a)) (hn2 : ∀ a, nr ≤ a → J 92 a = I 92 a ∧ J 93 a = I 93 a) (ho : ∀ q, (q < 18 ∨ 34 ≤ q) → q ≠ 92 → q ≠ 93 → q ≠ 72 → J q = I q) (h72 : ∀ k, k ≠ 0 → J 72 k = I 72 k) : IV nm na nr J L ∧ LSm I J := by
  obtain ⟨a1, a2, a3, a4, a5, a6, a7, a8, a9, a10, a11⟩ := id h
  have hnr : nr ≤ 16 := a1.2.2.2.2
  refine ⟨⟨?_, ?_, ?_, ?_, ?_, ?_, ?_, ?_, ?_, ?_, ?_⟩, ?_, ?_⟩
  · unfold IVc at a1 ⊢; simp (disch := omega) only [ho, h72]; exact a1
  · unfold IVs at a2 ⊢; simp (disch := omega) only [ho, h72]; exact a2
  · intro k hk; simp (disch := omega) only [ho]; exact a3 k hk
  · intro k hk; simp (disch := omega) only [ho]; exact a4 k hk
  · intro k hk; have := a1.1.2.2; simp (disch := omega) only [ho]; exact a5 k hk
  · intro k hk; simp (disch := omega) only [ho]; exact a6 k hk
  · intro k hk; simp (disch := omega) only [ho]; exact a7 k hk
  · intro a ha
    have z := a8 a ha
    by_cases e : a < nr
    · simp (disch := omega) only [ho, hk, h7 a e, h93 a e]
      rw [z.1.2.2.2.2.2.2]
      exact ⟨⟨z.1.1, z.1.2.1, z.1.2.2.1, z.1.2.2.2.1, z.1.2.2.2.2.1, z.1.2.2.2.2.2.1, rfl⟩, z.2⟩
    · rw [hn a (by omega) ha, (hn2 a (by omega)).2]
      simp (disch := omega) only [ho]
      exact z
  · intro a ha
    have z := a9 a ha
    by_cases e : a < nr
    · have hva := hv a e
      rw [a1.1.1] at hva
      have hm0 := (nI_b (n := nm) (k := 10) a1.1.2.2 (by omega)).1
      rw [h6 a e, h92 a e]
      exact ⟨fun _ => ⟨rfl, by grind, by grind⟩, fun z => absurd e (by omega)⟩
    · rw [hn a (by omega) ha, (hn2 a (by omega)).1]
      exact z
  · unfold IVt at a10 ⊢; simp (disch := omega) only [ho, h72]; exact a10
  · intro k hk; simp (disch := omega) only [ho]; exact a11 k hk
  · intro q hq; exact ho q (by omega) (by omega) (by omega) (by omega)
  · exact h72 12 (by decide)
theorem s_turn {G : Gl} {d : Nat} {I : IF} {L : LF} {b : Bool} (h : InvA I L) : StepA G (d + 2) Y_X10_turn Y_X11_turn [] I L b := by
  obtain ⟨nm, na, nr, h⟩ := h
  have hnm : nm ≤ 10 := h.1.1.2.2
  have hnr : nr ≤ 16 := h.1.2.2.2.2
  have c1 := c_X10_turn G d I L b h
  generalize hv : (fun a => bstG (stg I) a nm 0 (-1)) = v at c1
  have hva : ∀ a, bstG (stg I) a nm 0 (-1) = v a := fun a => by rw [← hv]
  generalize hJ : tW v I nr = J at c1
  have hJo : ∀ q, 34 ≤ q → J q = I q := by intro q hq; rw [← hJ]; exact tW_o nr q (by omega)
  have c2 := c_X11_turn G (d + 1) (nm := nm) (nr := nr) J L b (by rw [hJo 72 (by omega)]; exact h.1.1.2.1) hnm (by rw [hJo 72 (by omega)]; exact h.1.2.2.2.1) hnr (fun m a hm ha => by
    simp (disch := omega) only [hJo]
    rw [(stg_m h hm ha).2]
    exact sq_ne h hm ha)
  have hvM : ∀ a, a < 16 → bstG (stgM J) a nm 0 (-1) = v a := by
    intro a ha
    rw [← hva a]
    refine bstG_cg (fun m hm => ?_) nm 0 (-1) (by omega) (Or.inl rfl)
    unfold stgM
    simp (disch := omega) only [hJo]
    exact (stg_m h hm ha).1
  generalize hv2 : (fun a => bstG (stgM J) a nm 0 (-1)) = v2 at c2
  have hv2a : ∀ a, a < 16 → v2 a = v a := fun a ha => by rw [← hv2]; exact hvM a ha
  have z9 : ∀ a, a < nr → I 92 a = I (18 + a) 6 := fun a ha => ((h.2.2.2.2.2.2.2.2.1 a (by omega)).1 ha).1
  have hcnt : tN (J 92) v2 nr = tN (fun a => I (18 + a) 6) v nr := tN_cg2 nr (fun a ha => (congrFun (hJo 92 (by omega)) a).trans (z9 a ha)) (fun a ha => hv2a a (by omega))
  rw [hcnt] at c2
  have g0 : ∀ q, q ≠ 72 → q ≠ 92 → q ≠ 93 → tW2 v2 (uI J 72 0 0) nr q = J q := fun q h1 h2 h3 => (tW2_o nr q h2 h3).trans (uI_fn h1)
  have g72 : ∀ k, k ≠ 0 → tW2 v2 (uI J 72 0 0) nr 72 k = J 72 k := fun k hk => (congrFun (tW2_o nr 72 (by decide) (by decide)) k).trans (uI_nk hk)
  have g92 : ∀ a, a < nr → tW2 v2 (uI J 72 0 0) nr 92 a = v a ∧ tW2 v2 (uI J 72 0 0) nr 93 a = J 93 a + b2 (¬ J 92 a = v a) := by
    intro a ha
    have k1 := tW2_a (v := v2) (I := uI J 72 0 0) nr a ha
    rw [hv2a a (by omega), uI_ne (show (93 : Nat) ≠ 72 by decide), uI_ne (show (92 : Nat) ≠ 72 by decide)] at k1
    exact k1
  have g92' : ∀ a, nr ≤ a → tW2 v2 (uI J 72 0 0) nr 92 a = J 92 a ∧ tW2 v2 (uI J 72 0 0) nr 93 a = J 93 a := by
    intro a ha
    have k1 := tW2_k (v := v2) (I := uI J 72 0 0) nr a ha
    rw [uI_ne (show (93 : Nat) ≠ 72 by decide), uI_ne (show (92 : Nat) ≠ 72 by decide)] at k1
    exact k1
  generalize tW2 v2 (uI J 72 0 0) nr = J2 at c2 g0 g72 g92 g92'
  have t6 : ∀ a, a < nr → J (18 + a) 6 = v a ∧ J (18 + a) 7 = I (18 + a) 7 + b2 (¬ I (18 + a) 6 = v a) := fun a ha => by rw [← hJ]; exact tW_a nr a ha
  have tk : ∀ q k, k ≠ 6 → k ≠ 7 → J q k = I q k := fun q k h6 h7 => by rw [← hJ]; exact tW_k nr q k h6 h7
  have to : ∀ q, (q < 18 ∨ 18 + nr ≤ q) → J q = I q := fun q hq => by rw [← hJ]; exact tW_o nr q hq
  have key := IV_looks (I := I) (J := J2) (L := L) (v := v) (c := fun a => b2 (¬ I (18 + a) 6 = v a)) h (fun a ha => by
        rw [← hva a]
        rcases bstG_b (f := stg I) (a := a) nm 0 (-1) (Or.inl rfl) with e | ⟨j, hj, e⟩
        · exact Or.inl e
        · rw [e, h.1.1.1]; exact Or.inr ⟨nI_pos' (by omega), nI_lt (by omega) (by omega)⟩)
      (fun a ha => by rw [g0 _ (by omega) (by omega) (by omega)]; exact (t6 a ha).1)
      (fun a ha => by rw [g0 _ (by omega) (by omega) (by omega)]; exact (t6 a ha).2)
      (fun a ha => (g92 a ha).1)
      (fun a ha => by rw [(g92 a ha).2, hJo 93 (by omega), hJo 92 (by omega), z9 a ha])
      (fun a k ha h6 h7 => by rw [g0 _ (by omega) (by omega) (by omega)]; exact tk _ k h6 h7)
      (fun a h1 h2 => by rw [g0 _ (by omega) (by omega) (by omega)]; exact to _ (by omega))
      (fun a h1 => by rw [(g92' a h1).1, (g92' a h1).2, hJo 92 (by omega), hJo 93 (by omega)]; exact ⟨rfl, rfl⟩)
      (fun q h1 h2 h3 h4 => by rw [g0 q h4 h2 h3]; exact to q (by omega))
      (fun k hk => by rw [g72 k hk, hJo 72 (by omega)])
  exact ⟨_, _, _, _, _, c1, c2, ⟨nm, na, nr, key.1⟩, key.2⟩
