/-! the class's tokens -/
theorem rE_all {T : Nat → Int32} {n : Nat} {p : Int32 → Bool} : ∀ (f i : Nat), n - i ≤ f → ∀ k, i ≤ k → k < rE T n p i → p (T k) = true := by
  intro f
  induction f with
  | zero => intro i hi k h1 h2; rw [rE_f (by omega)] at h2; omega
  | succ f ih =>
    intro i hi k h1 h2
    by_cases h : i < n ∧ p (T i) = true
    · rw [rE_t h.1 h.2] at h2
      by_cases e : k = i
      · rw [e]; exact h.2
      · exact ih (i + 1) (by omega) k (by omega) h2
    · rw [rE_f h] at h2; omega
theorem c_X7_at (G : Gl) (d : Nat) {n i : Nat} {x : Int32} (hx : x = nI i) (hn : n ≤ 300) (hi : i ≤ 1000) (I : IF) (L : LF) (b : Bool) (h : I 44 1 = nI n) : MD G d Y_X7_at [.ref 44, .int x] (I, L, RR b) (some (.int (if i < n then I 45 i else -1))) (I, L, RR b) := by
  subst hx
  have hp : ¬ nI i < 0 := nI_pos (by omega)
  by_cases hlt : i < n
  · rw [if_pos hlt]
    have h1 : ¬ I 44 1 ≤ nI i := by rw [h]; exact nI_ge hlt (by omega)
    have hin : vp_in (nI i) 300 := vp_in_nI (by omega) (by omega)
    have hcl : (nI i).toNatClampNeg = i := nI_clamp (by omega)
    refine MT.intro m_X7_at rfl (Nat.le_of_ble_eq_true rfl) ?_
    show WQ G d Y_X7_at _ 0 [(0, .ref 44), (1, .int (nI i))] [] (I, L, RR b)
    refine wp_iload_n rfl rfl ?_
    refine wp_if_lt 11 rfl rfl (fun h1 => absurd h1 hp) (fun _ => ?_)
    refine wp_iload_n rfl rfl ?_
    refine wp_aload_n rfl rfl ?_
    refine q_geti rfl rfl (by first | rfl | assumption) rfl ?_
    refine wp_icmp_ge 11 rfl rfl (fun h5 => absurd h5 h1) (fun _ => ?_)
    refine wp_aload_n rfl rfl ?_
    refine q_getr rfl rfl (by first | rfl | assumption) rfl rfl ?_
    refine wp_iload_n rfl rfl ?_
    refine q_bald rfl (by first | rfl | assumption) (by assumption) ?_
    refine wp_goto 12 rfl rfl ?_
    exact wp_iret rfl rfl (⟨by rw [hcl], rfl⟩)
  · rw [if_neg hlt]
    have h1 : I 44 1 ≤ nI i := by rw [h]; exact nI_le (by omega) (by omega)
    refine MT.intro m_X7_at rfl (Nat.le_of_ble_eq_true rfl) ?_
    show WQ G d Y_X7_at _ 0 [(0, .ref 44), (1, .int (nI i))] [] (I, L, RR b)
    refine wp_iload_n rfl rfl ?_
    refine wp_if_lt 11 rfl rfl (fun h1 => absurd h1 hp) (fun _ => ?_)
    refine wp_iload_n rfl rfl ?_
    refine wp_aload_n rfl rfl ?_
    refine q_geti rfl rfl (by first | rfl | assumption) rfl ?_
    refine wp_icmp_ge 11 rfl rfl (fun _ => ?_) (fun h5 => absurd h1 h5)
    refine wp_iconst (v := (-1)) rfl rfl ?_
    exact wp_iret rfl rfl (⟨rfl, rfl⟩)
theorem c_X8_isBlank (G : Gl) (d : Nat) (c : Int32) (w : mW) : MD G d Y_X8_isBlank [.int c] w (some (.int (b2 (isBl c = true)))) w := by
  refine MT.intro m_X8_isBlank rfl (Nat.le_of_ble_eq_true rfl) ?_
  show WQ G d Y_X8_isBlank _ 0 [(0, .int c)] [] w
  refine wp_iload_n rfl rfl ?_
  refine wp_bipush (v := 32) rfl rfl ?_
  refine wp_icmp_eq 6 rfl rfl (fun h2 => ?_) (fun h2 => ?_)
  · refine wp_iconst (v := 1) rfl rfl ?_
    refine wp_goto 9 rfl rfl ?_
    exact wp_zret rfl rfl (by first | rfl | exact nb2 _ | assumption) (⟨by unfold isBl; grind [b2], rfl⟩)
  · refine wp_iload_n rfl rfl ?_
    refine wp_bipush (v := 10) rfl rfl ?_
    refine wp_icmp_ne 8 rfl rfl (fun h5 => ?_) (fun h5 => ?_)
    · refine wp_iconst (v := 0) rfl rfl ?_
      exact wp_zret rfl rfl (by first | rfl | exact nb2 _ | assumption) (⟨by unfold isBl; grind [b2], rfl⟩)
    · refine wp_iconst (v := 1) rfl rfl ?_
      refine wp_goto 9 rfl rfl ?_
      exact wp_zret rfl rfl (by first | rfl | exact nb2 _ | assumption) (⟨by unfold isBl; grind [b2], rfl⟩)
theorem c_X8_isDigit (G : Gl) (d : Nat) (c : Int32) (w : mW) : MD G d Y_X8_isDigit [.int c] w (some (.int (b2 (isDg c = true)))) w := by
  refine MT.intro m_X8_isDigit rfl (Nat.le_of_ble_eq_true rfl) ?_
  show WQ G d Y_X8_isDigit _ 0 [(0, .int c)] [] w
  refine wp_iload_n rfl rfl ?_
  refine wp_bipush (v := 48) rfl rfl ?_
  refine wp_icmp_lt 8 rfl rfl (fun h2 => ?_) (fun h2 => ?_)
  · refine wp_iconst (v := 0) rfl rfl ?_
    exact wp_zret rfl rfl (by first | rfl | exact nb2 _ | assumption) (⟨by unfold isDg; grind [b2], rfl⟩)
  · refine wp_iload_n rfl rfl ?_
    refine wp_bipush (v := 57) rfl rfl ?_
    refine wp_icmp_gt 8 rfl rfl (fun h5 => ?_) (fun h5 => ?_)
    · refine wp_iconst (v := 0) rfl rfl ?_
      exact wp_zret rfl rfl (by first | rfl | exact nb2 _ | assumption) (⟨by unfold isDg; grind [b2], rfl⟩)
    · refine wp_iconst (v := 1) rfl rfl ?_
      refine wp_goto 9 rfl rfl ?_
      exact wp_zret rfl rfl (by first | rfl | exact nb2 _ | assumption) (⟨by unfold isDg; grind [b2], rfl⟩)
theorem c_X8_isLetter (G : Gl) (d : Nat) (c : Int32) (w : mW) : MD G d Y_X8_isLetter [.int c] w (some (.int (b2 (isLt c = true)))) w := by
  refine MT.intro m_X8_isLetter rfl (Nat.le_of_ble_eq_true rfl) ?_
  show WQ G d Y_X8_isLetter _ 0 [(0, .int c)] [] w
  refine wp_iload_n rfl rfl ?_
  refine wp_bipush (v := 97) rfl rfl ?_
  refine wp_icmp_lt 8 rfl rfl (fun h2 => ?_) (fun h2 => ?_)
  · refine wp_iconst (v := 0) rfl rfl ?_
    exact wp_zret rfl rfl (by first | rfl | exact nb2 _ | assumption) (⟨by unfold isLt; grind [b2], rfl⟩)
  · refine wp_iload_n rfl rfl ?_
    refine wp_bipush (v := 122) rfl rfl ?_
    refine wp_icmp_gt 8 rfl rfl (fun h5 => ?_) (fun h5 => ?_)
    · refine wp_iconst (v := 0) rfl rfl ?_
      exact wp_zret rfl rfl (by first | rfl | exact nb2 _ | assumption) (⟨by unfold isLt; grind [b2], rfl⟩)
    · refine wp_iconst (v := 1) rfl rfl ?_
      refine wp_goto 9 rfl rfl ?_
      exact wp_zret rfl rfl (by first | rfl | exact nb2 _ | assumption) (⟨by unfold isLt; grind [b2], rfl⟩)
theorem c_X8_isSign (G : Gl) (d : Nat) (c : Int32) (w : mW) : MD G d Y_X8_isSign [.int c] w (some (.int (b2 (isSg c = true)))) w := by
  refine MT.intro m_X8_isSign rfl (Nat.le_of_ble_eq_true rfl) ?_
  show WQ G d Y_X8_isSign _ 0 [(0, .int c)] [] w
  refine wp_iload_n rfl rfl ?_
  by_cases e1_0 : c = 40
  · subst e1_0
    refine wp_tsIn 2 rfl (by decide) (by decide) rfl rfl ?_
    refine wp_iconst (v := 1) rfl rfl ?_
    exact wp_zret rfl rfl (by first | rfl | exact nb2 _ | assumption) (⟨by first | rfl | (rw [b2_f]; unfold isSg; rw [decide_eq_true_eq]; rintro (h | h | h | h | h | h | h | h | h | h) <;> contradiction), rfl⟩)
  by_cases e1_1 : c = 41
  · subst e1_1
    refine wp_tsIn 2 rfl (by decide) (by decide) rfl rfl ?_
    refine wp_iconst (v := 1) rfl rfl ?_
    exact wp_zret rfl rfl (by first | rfl | exact nb2 _ | assumption) (⟨by first | rfl | (rw [b2_f]; unfold isSg; rw [decide_eq_true_eq]; rintro (h | h | h | h | h | h | h | h | h | h) <;> contradiction), rfl⟩)
  by_cases e1_2 : c = 42
  · subst e1_2
    refine wp_tsIn 2 rfl (by decide) (by decide) rfl rfl ?_
    refine wp_iconst (v := 1) rfl rfl ?_
    exact wp_zret rfl rfl (by first | rfl | exact nb2 _ | assumption) (⟨by first | rfl | (rw [b2_f]; unfold isSg; rw [decide_eq_true_eq]; rintro (h | h | h | h | h | h | h | h | h | h) <;> contradiction), rfl⟩)
  by_cases e1_3 : c = 43
  · subst e1_3
    refine wp_tsIn 2 rfl (by decide) (by decide) rfl rfl ?_
    refine wp_iconst (v := 1) rfl rfl ?_
    exact wp_zret rfl rfl (by first | rfl | exact nb2 _ | assumption) (⟨by first | rfl | (rw [b2_f]; unfold isSg; rw [decide_eq_true_eq]; rintro (h | h | h | h | h | h | h | h | h | h) <;> contradiction), rfl⟩)
  by_cases e1_4 : c = 44
  · subst e1_4
    refine wp_tsIn 4 rfl (by decide) (by decide) rfl rfl ?_
    refine wp_iconst (v := 0) rfl rfl ?_
    exact wp_zret rfl rfl (by first | rfl | exact nb2 _ | assumption) (⟨by first | rfl | (rw [b2_f]; unfold isSg; rw [decide_eq_true_eq]; rintro (h | h | h | h | h | h | h | h | h | h) <;> contradiction), rfl⟩)
  by_cases e1_5 : c = 45
  · subst e1_5
    refine wp_tsIn 2 rfl (by decide) (by decide) rfl rfl ?_
    refine wp_iconst (v := 1) rfl rfl ?_
    exact wp_zret rfl rfl (by first | rfl | exact nb2 _ | assumption) (⟨by first | rfl | (rw [b2_f]; unfold isSg; rw [decide_eq_true_eq]; rintro (h | h | h | h | h | h | h | h | h | h) <;> contradiction), rfl⟩)
  by_cases e1_6 : c = 46
  · subst e1_6
    refine wp_tsIn 4 rfl (by decide) (by decide) rfl rfl ?_
    refine wp_iconst (v := 0) rfl rfl ?_
    exact wp_zret rfl rfl (by first | rfl | exact nb2 _ | assumption) (⟨by first | rfl | (rw [b2_f]; unfold isSg; rw [decide_eq_true_eq]; rintro (h | h | h | h | h | h | h | h | h | h) <;> contradiction), rfl⟩)
  by_cases e1_7 : c = 47
  · subst e1_7
    refine wp_tsIn 2 rfl (by decide) (by decide) rfl rfl ?_
    refine wp_iconst (v := 1) rfl rfl ?_
    exact wp_zret rfl rfl (by first | rfl | exact nb2 _ | assumption) (⟨by first | rfl | (rw [b2_f]; unfold isSg; rw [decide_eq_true_eq]; rintro (h | h | h | h | h | h | h | h | h | h) <;> contradiction), rfl⟩)
  by_cases e1_8 : c = 48
  · subst e1_8
    refine wp_tsIn 4 rfl (by decide) (by decide) rfl rfl ?_
    refine wp_iconst (v := 0) rfl rfl ?_
    exact wp_zret rfl rfl (by first | rfl | exact nb2 _ | assumption) (⟨by first | rfl | (rw [b2_f]; unfold isSg; rw [decide_eq_true_eq]; rintro (h | h | h | h | h | h | h | h | h | h) <;> contradiction), rfl⟩)
  by_cases e1_9 : c = 49
  · subst e1_9
    refine wp_tsIn 4 rfl (by decide) (by decide) rfl rfl ?_
    refine wp_iconst (v := 0) rfl rfl ?_
    exact wp_zret rfl rfl (by first | rfl | exact nb2 _ | assumption) (⟨by first | rfl | (rw [b2_f]; unfold isSg; rw [decide_eq_true_eq]; rintro (h | h | h | h | h | h | h | h | h | h) <;> contradiction), rfl⟩)
  by_cases e1_10 : c = 50
  · subst e1_10
    refine wp_tsIn 4 rfl (by decide) (by decide) rfl rfl ?_
    refine wp_iconst (v := 0) rfl rfl ?_
    exact wp_zret rfl rfl (by first | rfl | exact nb2 _ | assumption) (⟨by first | rfl | (rw [b2_f]; unfold isSg; rw [decide_eq_true_eq]; rintro (h | h | h | h | h | h | h | h | h | h) <;> contradiction), rfl⟩)
  by_cases e1_11 : c = 51
  · subst e1_11
    refine wp_tsIn 4 rfl (by decide) (by decide) rfl rfl ?_
    refine wp_iconst (v := 0) rfl rfl ?_
    exact wp_zret rfl rfl (by first | rfl | exact nb2 _ | assumption) (⟨by first | rfl | (rw [b2_f]; unfold isSg; rw [decide_eq_true_eq]; rintro (h | h | h | h | h | h | h | h | h | h) <;> contradiction), rfl⟩)
  by_cases e1_12 : c = 52
  · subst e1_12
    refine wp_tsIn 4 rfl (by decide) (by decide) rfl rfl ?_
    refine wp_iconst (v := 0) rfl rfl ?_
    exact wp_zret rfl rfl (by first | rfl | exact nb2 _ | assumption) (⟨by first | rfl | (rw [b2_f]; unfold isSg; rw [decide_eq_true_eq]; rintro (h | h | h | h | h | h | h | h | h | h) <;> contradiction), rfl⟩)
  by_cases e1_13 : c = 53
  · subst e1_13
    refine wp_tsIn 4 rfl (by decide) (by decide) rfl rfl ?_
    refine wp_iconst (v := 0) rfl rfl ?_
    exact wp_zret rfl rfl (by first | rfl | exact nb2 _ | assumption) (⟨by first | rfl | (rw [b2_f]; unfold isSg; rw [decide_eq_true_eq]; rintro (h | h | h | h | h | h | h | h | h | h) <;> contradiction), rfl⟩)
  by_cases e1_14 : c = 54
  · subst e1_14
    refine wp_tsIn 4 rfl (by decide) (by decide) rfl rfl ?_
    refine wp_iconst (v := 0) rfl rfl ?_
    exact wp_zret rfl rfl (by first | rfl | exact nb2 _ | assumption) (⟨by first | rfl | (rw [b2_f]; unfold isSg; rw [decide_eq_true_eq]; rintro (h | h | h | h | h | h | h | h | h | h) <;> contradiction), rfl⟩)
  by_cases e1_15 : c = 55
  · subst e1_15
    refine wp_tsIn 4 rfl (by decide) (by decide) rfl rfl ?_
    refine wp_iconst (v := 0) rfl rfl ?_
    exact wp_zret rfl rfl (by first | rfl | exact nb2 _ | assumption) (⟨by first | rfl | (rw [b2_f]; unfold isSg; rw [decide_eq_true_eq]; rintro (h | h | h | h | h | h | h | h | h | h) <;> contradiction), rfl⟩)
  by_cases e1_16 : c = 56
  · subst e1_16
    refine wp_tsIn 4 rfl (by decide) (by decide) rfl rfl ?_
    refine wp_iconst (v := 0) rfl rfl ?_
    exact wp_zret rfl rfl (by first | rfl | exact nb2 _ | assumption) (⟨by first | rfl | (rw [b2_f]; unfold isSg; rw [decide_eq_true_eq]; rintro (h | h | h | h | h | h | h | h | h | h) <;> contradiction), rfl⟩)
  by_cases e1_17 : c = 57
  · subst e1_17
    refine wp_tsIn 4 rfl (by decide) (by decide) rfl rfl ?_
    refine wp_iconst (v := 0) rfl rfl ?_
    exact wp_zret rfl rfl (by first | rfl | exact nb2 _ | assumption) (⟨by first | rfl | (rw [b2_f]; unfold isSg; rw [decide_eq_true_eq]; rintro (h | h | h | h | h | h | h | h | h | h) <;> contradiction), rfl⟩)
  by_cases e1_18 : c = 58
  · subst e1_18
    refine wp_tsIn 4 rfl (by decide) (by decide) rfl rfl ?_
    refine wp_iconst (v := 0) rfl rfl ?_
    exact wp_zret rfl rfl (by first | rfl | exact nb2 _ | assumption) (⟨by first | rfl | (rw [b2_f]; unfold isSg; rw [decide_eq_true_eq]; rintro (h | h | h | h | h | h | h | h | h | h) <;> contradiction), rfl⟩)
  by_cases e1_19 : c = 59
  · subst e1_19
    refine wp_tsIn 2 rfl (by decide) (by decide) rfl rfl ?_
    refine wp_iconst (v := 1) rfl rfl ?_
    exact wp_zret rfl rfl (by first | rfl | exact nb2 _ | assumption) (⟨by first | rfl | (rw [b2_f]; unfold isSg; rw [decide_eq_true_eq]; rintro (h | h | h | h | h | h | h | h | h | h) <;> contradiction), rfl⟩)
  by_cases e1_20 : c = 60
  · subst e1_20
    refine wp_tsIn 2 rfl (by decide) (by decide) rfl rfl ?_
    refine wp_iconst (v := 1) rfl rfl ?_
    exact wp_zret rfl rfl (by first | rfl | exact nb2 _ | assumption) (⟨by first | rfl | (rw [b2_f]; unfold isSg; rw [decide_eq_true_eq]; rintro (h | h | h | h | h | h | h | h | h | h) <;> contradiction), rfl⟩)
  by_cases e1_21 : c = 61
  · subst e1_21
    refine wp_tsIn 2 rfl (by decide) (by decide) rfl rfl ?_
    refine wp_iconst (v := 1) rfl rfl ?_
    exact wp_zret rfl rfl (by first | rfl | exact nb2 _ | assumption) (⟨by first | rfl | (rw [b2_f]; unfold isSg; rw [decide_eq_true_eq]; rintro (h | h | h | h | h | h | h | h | h | h) <;> contradiction), rfl⟩)
  by_cases e1_22 : c = 62
  · subst e1_22
    refine wp_tsIn 2 rfl (by decide) (by decide) rfl rfl ?_
    refine wp_iconst (v := 1) rfl rfl ?_
    exact wp_zret rfl rfl (by first | rfl | exact nb2 _ | assumption) (⟨by first | rfl | (rw [b2_f]; unfold isSg; rw [decide_eq_true_eq]; rintro (h | h | h | h | h | h | h | h | h | h) <;> contradiction), rfl⟩)
  refine wp_tsOut 4 rfl (by have a0 := lv_neT e1_0 (a := 40) rfl; have a1 := lv_neT e1_1 (a := 41) rfl; have a2 := lv_neT e1_2 (a := 42) rfl; have a3 := lv_neT e1_3 (a := 43) rfl; have a4 := lv_neT e1_4 (a := 44) rfl; have a5 := lv_neT e1_5 (a := 45) rfl; have a6 := lv_neT e1_6 (a := 46) rfl; have a7 := lv_neT e1_7 (a := 47) rfl; have a8 := lv_neT e1_8 (a := 48) rfl; have a9 := lv_neT e1_9 (a := 49) rfl; have a10 := lv_neT e1_10 (a := 50) rfl; have a11 := lv_neT e1_11 (a := 51) rfl; have a12 := lv_neT e1_12 (a := 52) rfl; have a13 := lv_neT e1_13 (a := 53) rfl; have a14 := lv_neT e1_14 (a := 54) rfl; have a15 := lv_neT e1_15 (a := 55) rfl; have a16 := lv_neT e1_16 (a := 56) rfl; have a17 := lv_neT e1_17 (a := 57) rfl; have a18 := lv_neT e1_18 (a := 58) rfl; have a19 := lv_neT e1_19 (a := 59) rfl; have a20 := lv_neT e1_20 (a := 60) rfl; have a21 := lv_neT e1_21 (a := 61) rfl; have a22 := lv_neT e1_22 (a := 62) rfl; omega) rfl ?_
  refine wp_iconst (v := 0) rfl rfl ?_
  exact wp_zret rfl rfl (by first | rfl | exact nb2 _ | assumption) (⟨by first | rfl | (rw [b2_f]; unfold isSg; rw [decide_eq_true_eq]; rintro (h | h | h | h | h | h | h | h | h | h) <;> contradiction), rfl⟩)
theorem c_X7_has (G : Gl) (d : Nat) {n i e j : Nat} (hj : j < 10) (hn : n ≤ 300) (hie : i ≤ e) (hen : e ≤ n) (I : IF) (L : LF) (b : Bool) (h : I 44 1 = nI n) : MD G (d + 4) Y_X7_has [.ref 44, .ref (txt j), .int (nI i), .int (nI e)] (I, L, RR b) (some (.int (b2 (wdB (I 45) i e j = true)))) (I, L, RR b) := by
  have hl := stl_lt j hj
  suffices H : ∀ Q, Q = (fun (r : Option Value) (w2 : mW) => r = some (.int (b2 (wdB (I 45) i e j = true))) ∧ w2 = (I, L, RR b)) → MQ2 G (d + 4) Y_X7_has [.ref 44, .ref (txt j), .int (nI i), .int (nI e)] (I, L, RR b) Q from H _ rfl
  intro Q hQ
  have hsub : nI e - nI i = nI (e - i) := pk_sub hie
  have loop : e = i + STL.getD j 0 → ∀ (p k : Nat), k + p = STL.getD j 0 → (∀ l, l < k → I 45 (i + l) = chr j l) → WQ G (d + 4) Y_X7_has Q 10 [(0, .ref 44), (1, .ref (txt j)), (2, .int (nI i)), (3, .int (nI e)), (4, .int (nI k))] [] (I, L, RR b) := by
    intro he p
    induction p with
    | zero =>
      intro k hk hv
      have hge : nI (STL.getD j 0) ≤ nI k := nI_le (by omega) (by omega)
      refine wp_iload rfl rfl ?_
      refine wp_aload_n rfl rfl ?_
      refine cT1 hj rfl rfl l_7_23 i_J0_length_8abf5 m_J0_length_8abf5 (c_length G _ j hj _) rfl (Nat.le_of_ble_eq_true rfl) ?_
      refine wp_icmp_ge 27 rfl rfl (fun _ => ?_) (fun h13 => absurd hge h13)
      refine wp_iconst (v := 1) rfl rfl ?_
      exact wp_zret rfl rfl (by first | rfl | exact nb2 _ | assumption) (by rw [hQ]; exact ⟨by rw [b2_t (wd_iff.mpr ⟨he, fun l hl2 => hv l (by omega)⟩)], rfl⟩)
    | succ p ih =>
      intro k hk hv
      have hlt : ¬ nI (STL.getD j 0) ≤ nI k := nI_ge (by omega) (by omega)
      have hat := c_X7_at G (d + 3) (n := n) (i := i + k) (x := nI i + nI k) (nI_add i k) hn (by omega) I L b h
      rw [if_pos (by omega)] at hat
      refine wp_iload rfl rfl ?_
      refine wp_aload_n rfl rfl ?_
      refine cT1 hj rfl rfl l_7_23 i_J0_length_8abf5 m_J0_length_8abf5 (c_length G _ j hj _) rfl (Nat.le_of_ble_eq_true rfl) ?_
      refine wp_icmp_ge 27 rfl rfl (fun h13 => absurd h13 hlt) (fun _ => ?_)
      refine wp_aload_n rfl rfl ?_
      refine wp_iload_n rfl rfl ?_
      refine wp_iload rfl rfl ?_
      refine wp_iadd rfl ?_
      refine cV1 rfl l_7_28 i_X7_at m_X7_at (by first | rfl | assumption) (by decide) (hat) rfl (Nat.le_of_ble_eq_true rfl) ?_
      refine wp_aload_n rfl rfl ?_
      refine wp_iload rfl rfl ?_
      refine cT1 hj rfl rfl l_7_32 i_J0_charAt_5068e m_J0_charAt_5068e (c_charAt G d j k hj (by omega) _) rfl (Nat.le_of_ble_eq_true rfl) ?_
      refine wp_icmp_eq 25 rfl rfl (fun h22 => ?_) (fun h22 => ?_)
      · refine wp_iinc (v := nI (k + 1)) (lv' := [(4, _), (0, _), (1, _), (2, _), (3, _)]) rfl rfl (nI_1 k) (by decide) rfl ?_
        refine wp_goto 10 rfl rfl ?_
        refine wp_loc (lv' := [(0, _), (1, _), (2, _), (3, _), (4, _)]) [1, 2, 3, 4, 0] rfl ?_
        refine ih (k + 1) (by omega) (fun l hl2 => ?_)
        by_cases e2 : l = k
        · rw [e2]; exact h22
        · exact hv l (by omega)
      · refine wp_iconst (v := 0) rfl rfl ?_
        exact wp_zret rfl rfl (by first | rfl | exact nb2 _ | assumption) (by rw [hQ]; exact ⟨by rw [b2_f (fun z => h22 ((wd_iff.mp z).2 k (by omega)))], rfl⟩)
  have hq : nI (e - i) = nI (STL.getD j 0) ↔ e - i = STL.getD j 0 := nI_eq (by omega) (by omega)
  refine MT.intro m_X7_has rfl (Nat.le_of_ble_eq_true rfl) ?_
  show WQ G (d + 4) Y_X7_has Q 0 [(0, .ref 44), (1, .ref (txt j)), (2, .int (nI i)), (3, .int (nI e))] [] (I, L, RR b)
  refine wp_iload_n rfl rfl ?_
  refine wp_iload_n rfl rfl ?_
  refine wp_isub rfl ?_
  rw [hsub]
  refine wp_aload_n rfl rfl ?_
  refine cT1 hj rfl rfl l_7_23 i_J0_length_8abf5 m_J0_length_8abf5 (c_length G _ j hj _) rfl (Nat.le_of_ble_eq_true rfl) ?_
  refine wp_icmp_eq 8 rfl rfl (fun h5 => ?_) (fun h5 => ?_)
  · refine wp_iconst (v := 0) rfl rfl ?_
    refine wp_istore (lv' := [(4, _), (0, _), (1, _), (2, _), (3, _)]) rfl (by decide) rfl ?_
    refine wp_loc (lv' := [(0, _), (1, _), (2, _), (3, _), (4, _)]) [1, 2, 3, 4, 0] rfl ?_
    exact loop (by have := hq.mp h5; omega) (STL.getD j 0) 0 (by omega) (fun l hl2 => absurd hl2 (by omega))
  · refine wp_iconst (v := 0) rfl rfl ?_
    exact wp_zret rfl rfl (by first | rfl | exact nb2 _ | assumption) (by rw [hQ]; exact ⟨by rw [b2_f (fun z => h5 (hq.mpr (by have := (wd_iff.mp z).1; omega)))], rfl⟩)
/-- the facts, and the words of rules -/
def fky (T : Nat → Int32) (i e : Nat) : Int32 := if wdB T i e 0 = true then -1 else if wdB T i e 1 = true then -2 else if wdB T i e 2 = true then -3 else if wdB T i e 3 = true then -4 else if wdB T i e 4 = true then -5 else if wdB T i e 5 = true then -6 else -101
def rky (T : Nat → Int32) (i e : Nat) : Int32 := if wdB T i e 6 = true then -102 else if wdB T i e 7 = true then -103 else if wdB T i e 8 = true then -104 else if wdB T i e 9 = true then -105 else -101
theorem fr_wky (T : Nat → Int32) (i e : Nat) : (if fky T i e = -101 then rky T i e else fky T i e) = wky T i e := by
  unfold fky wky rky
  by_cases h0 : wdB T i e 0 = true
  · simp only [if_pos h0]; rfl
  · by_cases h1 : wdB T i e 1 = true
    · simp only [if_neg h0, if_pos h1]; rfl
    · by_cases h2 : wdB T i e 2 = true
      · simp only [if_neg h0, if_neg h1, if_pos h2]; rfl
      · by_cases h3 : wdB T i e 3 = true
        · simp only [if_neg h0, if_neg h1, if_neg h2, if_pos h3]; rfl
        · by_cases h4 : wdB T i e 4 = true
          · simp only [if_neg h0, if_neg h1, if_neg h2, if_neg h3, if_pos h4]; rfl
          · by_cases h5 : wdB T i e 5 = true
            · simp only [if_neg h0, if_neg h1, if_neg h2, if_neg h3, if_neg h4, if_pos h5]; rfl
            · simp only [if_neg h0, if_neg h1, if_neg h2, if_neg h3, if_neg h4, if_neg h5]; rfl
theorem c_X8_kindOfFact (G : Gl) (d : Nat) {n i e : Nat} (hn : n ≤ 300) (hie : i ≤ e) (hen : e ≤ n) (I : IF) (L : LF) (b : Bool) (h : I 44 1 = nI n) : MD G (d + 5) Y_X8_kindOfFact [.ref 44, .int (nI i), .int (nI e)] (I, L, RR b) (some (.int (fky (I 45) i e))) (I, L, RR b) := by
  have hh : ∀ j, j < 10 → MD G (d + 4) Y_X7_has [.ref 44, .ref (1000001 + j), .int (nI i), .int (nI e)] (I, L, RR b) (some (.int (b2 (wdB (I 45) i e j = true)))) (I, L, RR b) := fun j hj => c_X7_has G d hj hn hie hen I L b h
  refine MT.intro m_X8_kindOfFact rfl (Nat.le_of_ble_eq_true rfl) ?_
  show WQ G (d + 5) Y_X8_kindOfFact _ 0 [(0, .ref 44), (1, .int (nI i)), (2, .int (nI e))] [] (I, L, RR b)
  refine wp_aload_n rfl rfl ?_
  refine wp_ldcS (tx := "homes") rfl (List.mem_of_getElem? (i := 0) rfl) ?_
  refine wp_iload_n rfl rfl ?_
  refine wp_iload_n rfl rfl ?_
  refine cV1 rfl l_8_72 i_X7_has m_X7_has (by first | rfl | assumption) (by decide) (hh 0 (by decide)) rfl (Nat.le_of_ble_eq_true rfl) ?_
  refine wp_if_eq 8 rfl rfl (fun h5 => ?_) (fun h5 => ?_)
  · refine wp_aload_n rfl rfl ?_
    refine wp_ldcS (tx := "poor") rfl (List.mem_of_getElem? (i := 1) rfl) ?_
    refine wp_iload_n rfl rfl ?_
    refine wp_iload_n rfl rfl ?_
    refine cV1 rfl l_8_72 i_X7_has m_X7_has (by first | rfl | assumption) (by decide) (hh 1 (by decide)) rfl (Nat.le_of_ble_eq_true rfl) ?_
    refine wp_if_eq 16 rfl rfl (fun h13 => ?_) (fun h13 => ?_)
    · refine wp_aload_n rfl rfl ?_
      refine wp_ldcS (tx := "aged") rfl (List.mem_of_getElem? (i := 2) rfl) ?_
      refine wp_iload_n rfl rfl ?_
      refine wp_iload_n rfl rfl ?_
      refine cV1 rfl l_8_72 i_X7_has m_X7_has (by first | rfl | assumption) (by decide) (hh 2 (by decide)) rfl (Nat.le_of_ble_eq_true rfl) ?_
      refine wp_if_eq 24 rfl rfl (fun h21 => ?_) (fun h21 => ?_)
      · refine wp_aload_n rfl rfl ?_
        refine wp_ldcS (tx := "boxes") rfl (List.mem_of_getElem? (i := 3) rfl) ?_
        refine wp_iload_n rfl rfl ?_
        refine wp_iload_n rfl rfl ?_
        refine cV1 rfl l_8_72 i_X7_has m_X7_has (by first | rfl | assumption) (by decide) (hh 3 (by decide)) rfl (Nat.le_of_ble_eq_true rfl) ?_
        refine wp_if_eq 32 rfl rfl (fun h29 => ?_) (fun h29 => ?_)
        · refine wp_aload_n rfl rfl ?_
          refine wp_ldcS (tx := "week") rfl (List.mem_of_getElem? (i := 4) rfl) ?_
          refine wp_iload_n rfl rfl ?_
          refine wp_iload_n rfl rfl ?_
          refine cV1 rfl l_8_72 i_X7_has m_X7_has (by first | rfl | assumption) (by decide) (hh 4 (by decide)) rfl (Nat.le_of_ble_eq_true rfl) ?_
          refine wp_if_eq 40 rfl rfl (fun h37 => ?_) (fun h37 => ?_)
          · refine wp_aload_n rfl rfl ?_
            refine wp_ldcS (tx := "stock") rfl (List.mem_of_getElem? (i := 5) rfl) ?_
            refine wp_iload_n rfl rfl ?_
            refine wp_iload_n rfl rfl ?_
            refine cV1 rfl l_8_72 i_X7_has m_X7_has (by first | rfl | assumption) (by decide) (hh 5 (by decide)) rfl (Nat.le_of_ble_eq_true rfl) ?_
            refine wp_if_eq 48 rfl rfl (fun h45 => ?_) (fun h45 => ?_)
            · refine wp_bipush (v := (-101)) rfl rfl ?_
              exact wp_iret rfl rfl (⟨by unfold fky; simp only [b2_ne, b2_eq] at *; simp_all, rfl⟩)
            · refine wp_bipush (v := (-6)) rfl rfl ?_
              refine wp_goto 49 rfl rfl ?_
              exact wp_iret rfl rfl (⟨by unfold fky; simp only [b2_ne, b2_eq] at *; simp_all, rfl⟩)
          · refine wp_bipush (v := (-5)) rfl rfl ?_
            exact wp_iret rfl rfl (⟨by unfold fky; simp only [b2_ne, b2_eq] at *; simp_all, rfl⟩)
        · refine wp_bipush (v := (-4)) rfl rfl ?_
          exact wp_iret rfl rfl (⟨by unfold fky; simp only [b2_ne, b2_eq] at *; simp_all, rfl⟩)
      · refine wp_bipush (v := (-3)) rfl rfl ?_
        exact wp_iret rfl rfl (⟨by unfold fky; simp only [b2_ne, b2_eq] at *; simp_all, rfl⟩)
    · refine wp_bipush (v := (-2)) rfl rfl ?_
      exact wp_iret rfl rfl (⟨by unfold fky; simp only [b2_ne, b2_eq] at *; simp_all, rfl⟩)
  · refine wp_iconst (v := (-1)) rfl rfl ?_
    exact wp_iret rfl rfl (⟨by unfold fky; simp only [b2_ne, b2_eq] at *; simp_all, rfl⟩)
theorem c_X8_kindOfRuleWord (G : Gl) (d : Nat) {n i e : Nat} (hn : n ≤ 300) (hie : i ≤ e) (hen : e ≤ n) (I : IF) (L : LF) (b : Bool) (h : I 44 1 = nI n) : MD G (d + 5) Y_X8_kindOfRuleWord [.ref 44, .int (nI i), .int (nI e)] (I, L, RR b) (some (.int (rky (I 45) i e))) (I, L, RR b) := by
  have hh : ∀ j, j < 10 → MD G (d + 4) Y_X7_has [.ref 44, .ref (1000001 + j), .int (nI i), .int (nI e)] (I, L, RR b) (some (.int (b2 (wdB (I 45) i e j = true)))) (I, L, RR b) := fun j hj => c_X7_has G d hj hn hie hen I L b h
  refine MT.intro m_X8_kindOfRuleWord rfl (Nat.le_of_ble_eq_true rfl) ?_
  show WQ G (d + 5) Y_X8_kindOfRuleWord _ 0 [(0, .ref 44), (1, .int (nI i)), (2, .int (nI e))] [] (I, L, RR b)
  refine wp_aload_n rfl rfl ?_
  refine wp_ldcS (tx := "give") rfl (List.mem_of_getElem? (i := 6) rfl) ?_
  refine wp_iload_n rfl rfl ?_
  refine wp_iload_n rfl rfl ?_
  refine cV1 rfl l_8_72 i_X7_has m_X7_has (by first | rfl | assumption) (by decide) (hh 6 (by decide)) rfl (Nat.le_of_ble_eq_true rfl) ?_
  refine wp_if_eq 8 rfl rfl (fun h5 => ?_) (fun h5 => ?_)
  · refine wp_aload_n rfl rfl ?_
    refine wp_ldcS (tx := "cap") rfl (List.mem_of_getElem? (i := 7) rfl) ?_
    refine wp_iload_n rfl rfl ?_
    refine wp_iload_n rfl rfl ?_
    refine cV1 rfl l_8_72 i_X7_has m_X7_has (by first | rfl | assumption) (by decide) (hh 7 (by decide)) rfl (Nat.le_of_ble_eq_true rfl) ?_
    refine wp_if_eq 16 rfl rfl (fun h13 => ?_) (fun h13 => ?_)
    · refine wp_aload_n rfl rfl ?_
      refine wp_ldcS (tx := "if") rfl (List.mem_of_getElem? (i := 8) rfl) ?_
      refine wp_iload_n rfl rfl ?_
      refine wp_iload_n rfl rfl ?_
      refine cV1 rfl l_8_72 i_X7_has m_X7_has (by first | rfl | assumption) (by decide) (hh 8 (by decide)) rfl (Nat.le_of_ble_eq_true rfl) ?_
      refine wp_if_eq 24 rfl rfl (fun h21 => ?_) (fun h21 => ?_)
      · refine wp_aload_n rfl rfl ?_
        refine wp_ldcS (tx := "and") rfl (List.mem_of_getElem? (i := 9) rfl) ?_
        refine wp_iload_n rfl rfl ?_
        refine wp_iload_n rfl rfl ?_
        refine cV1 rfl l_8_72 i_X7_has m_X7_has (by first | rfl | assumption) (by decide) (hh 9 (by decide)) rfl (Nat.le_of_ble_eq_true rfl) ?_
        refine wp_if_eq 32 rfl rfl (fun h29 => ?_) (fun h29 => ?_)
        · refine wp_bipush (v := (-101)) rfl rfl ?_
          exact wp_iret rfl rfl (⟨by unfold rky; simp only [b2_ne, b2_eq] at *; simp_all, rfl⟩)
        · refine wp_bipush (v := (-105)) rfl rfl ?_
          refine wp_goto 33 rfl rfl ?_
          exact wp_iret rfl rfl (⟨by unfold rky; simp only [b2_ne, b2_eq] at *; simp_all, rfl⟩)
      · refine wp_bipush (v := (-104)) rfl rfl ?_
        exact wp_iret rfl rfl (⟨by unfold rky; simp only [b2_ne, b2_eq] at *; simp_all, rfl⟩)
    · refine wp_bipush (v := (-103)) rfl rfl ?_
      exact wp_iret rfl rfl (⟨by unfold rky; simp only [b2_ne, b2_eq] at *; simp_all, rfl⟩)
  · refine wp_bipush (v := (-102)) rfl rfl ?_
    exact wp_iret rfl rfl (⟨by unfold rky; simp only [b2_ne, b2_eq] at *; simp_all, rfl⟩)
