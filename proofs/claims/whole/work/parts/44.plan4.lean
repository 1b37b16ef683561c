/-! the plan, in the class: the sets that are picked -/
def alw (P : PL) (set done w : Nat) : Nat → Bool
  | 0 => true
  | n + 1 => alw P set done w n && (!set.testBit n || (okH P n w && fdB P (done ||| set) n))
theorem alw_iff {P : PL} {set done w : Nat} : ∀ n, alw P set done w n = true ↔ ∀ m, m < n → set.testBit m = true → okH P m w = true ∧ fdB P (done ||| set) m = true
  | 0 => ⟨fun _ m h => absurd h (by omega), fun _ => rfl⟩
  | n + 1 => by
    simp only [alw, Bool.and_eq_true, alw_iff n]
    constructor
    · rintro ⟨h1, h2⟩ m hm hb
      rcases Nat.lt_or_ge m n with e | e
      · exact h1 m e hb
      · rw [show m = n by omega] at hb ⊢
        rw [hb] at h2
        simpa using h2
    · intro h
      refine ⟨fun m hm hb => h m (by omega) hb, ?_⟩
      cases hb : set.testBit n with
      | false => rfl
      | true => have := h n (by omega) hb; simp [this.1, this.2]
def mayB (P : PL) (set done w : Nat) : Bool := decide (set &&& done = 0) && (decide (cnt set 10 ≤ pC P) && alw P set done w (pN P))
theorem mayB_iff {P : PL} {set done w : Nat} : mayB P set done w = true ↔ mayP P set done w := by
  unfold mayB mayP
  rw [Bool.and_eq_true, Bool.and_eq_true, decide_eq_true_eq, decide_eq_true_eq, alw_iff]
theorem pcF_cnt {s : Nat} : ∀ k, k ≤ 32 → pcF (nI s) k = nI (cnt s k)
  | 0, _ => rfl
  | k + 1, h => by
    simp only [pcF, cnt]
    rw [pcF_cnt k (by omega), bit1 _ (by omega), bt_nI (by omega)]
    by_cases e : s.testBit k = true
    · rw [b2_t e, if_pos e]; exact nI_1 _
    · rw [b2_f e, if_neg e]
      show nI (cnt s k) + 0 = nI (cnt s k + 0)
      rw [Nat.add_zero]; grind
theorem cnt_b {s : Nat} : ∀ k, cnt s k ≤ k
  | 0 => Nat.le_refl _
  | k + 1 => by
    have := cnt_b (s := s) k
    simp only [cnt]
    split <;> omega
theorem bcN {s : Nat} (h : s < 1024) : bcF (nI s) = nI (cnt s 10) := by rw [(bc_a s h).2.1, pcF_cnt 10 (by omega)]
theorem c_X5_isAllowed (G : Gl) (d : Nat) {P : PL} (hp : plok P) {set done w : Nat} (I : IF) (L : LF) (b : Bool) (h : PI P I) : MD G (d + 1) Y_X5_isAllowed [.ref 1, .int (nI set), .int (nI done), .int (b2 (pW P w = false))] (I, L, RR b) (some (.int (b2 (alw P set done w (pN P) = true)))) (I, L, RR b) := by
  have hn := hp.2.1
  suffices H : ∀ Q, Q = (fun (r : Option Value) (w2 : mW) => r = some (.int (b2 (alw P set done w (pN P) = true))) ∧ w2 = (I, L, RR b)) → MQ2 G (d + 1) Y_X5_isAllowed [.ref 1, .int (nI set), .int (nI done), .int (b2 (pW P w = false))] (I, L, RR b) Q from H _ rfl
  intro Q hQ
  have loop : ∀ (p i : Nat), i + p = pN P → (∀ m, m < i → set.testBit m = true → okH P m w = true ∧ fdB P (done ||| set) m = true) → WQ G (d + 1) Y_X5_isAllowed Q 2 [(0, .ref 1), (1, .int (nI set)), (2, .int (nI done)), (3, .int (b2 (pW P w = false))), (4, .int (nI i))] [] (I, L, RR b) := by
    intro p
    induction p with
    | zero =>
      intro i hi hv
      have hie : i = pN P := by omega
      subst hie
      have hge : I 1 2 ≤ nI (pN P) := by rw [h.1]; exact nI_le (Nat.le_refl _) (by omega)
      refine wp_iload rfl rfl ?_
      refine wp_aload_n rfl rfl ?_
      refine q_geti rfl rfl (by first | rfl | assumption) rfl ?_
      refine wp_icmp_ge 41 rfl rfl (fun _ => ?_) (fun h5 => absurd hge h5)
      refine wp_iconst (v := 1) rfl rfl ?_
      exact wp_zret rfl rfl (by first | rfl | exact nb2 _ | assumption) (by rw [hQ]; exact ⟨by rw [b2_t ((alw_iff _).mpr hv)], rfl⟩)
    | succ p ih =>
      intro i hi hv
      have hlt : ¬ I 1 2 ≤ nI i := by rw [h.1]; exact nI_ge (by omega) (by omega)
      have hsi := sh_mast i (by omega)
      have hhi : I (4 + i) 4 = b2 (pH P i = true) := (h.2 i (by omega)).1
      have hf3 := (h.2 i (by omega)).2
      have hin1 : ∀ w, MD G d Y_X10_isIn [.int (nI set), .int (nI i)] w (some (.int (b2 (set.testBit i = true)))) w := fun w => by
        have := c_isIn G d (nI set) (x := nI i) rfl (show i < 32 by omega) w
        rw [bt_nI (by omega)] at this
        exact this
      have nx39 : (set.testBit i = true → okH P i w = true ∧ fdB P (done ||| set) i = true) → WQ G (d + 1) Y_X5_isAllowed Q 39 [(0, .ref 1), (1, .int (nI set)), (2, .int (nI done)), (3, .int (b2 (pW P w = false))), (4, .int (nI i))] [] (I, L, RR b) := by
        intro hx
        refine wp_iinc (v := nI (i + 1)) (lv' := [(4, _), (0, _), (1, _), (2, _), (3, _)]) rfl rfl (nI_1 i) (by decide) rfl ?_
        refine wp_goto 2 rfl rfl ?_
        refine wp_loc (lv' := [(0, _), (1, _), (2, _), (3, _), (4, _)]) [1, 2, 3, 4, 0] rfl ?_
        refine ih (i + 1) (by omega) (fun m hm hb => ?_)
        rcases Nat.lt_or_ge m i with e | e
        · exact hv m e hb
        · rw [show m = i by omega] at hb ⊢
          exact hx hb
      have tail : ∀ x : Int32, x = b2 (fdB P (done ||| set) i = true) → WQ G (d + 1) Y_X5_isAllowed Q 25 [(0, .ref 1), (1, .int (nI set)), (2, .int (nI done)), (3, .int (b2 (pW P w = false))), (4, .int (nI i)), (5, .ref (4 + i))] [.int x] (I, L, RR b) := by
        intro x hx
        subst hx
        refine wp_istore (lv' := [(6, _), (0, _), (1, _), (2, _), (3, _), (4, _), (5, _)]) rfl (by decide) rfl ?_
        refine wp_iload_n rfl rfl ?_
        refine wp_iload rfl rfl ?_
        refine cN1 rfl ln_5_57 s_X10_isIn m_X10_isIn (hin1 _) rfl (Nat.le_of_ble_eq_true rfl) ?_
        refine wp_if_eq 39 rfl rfl (fun h29 => ?_) (fun h29 => ?_)
        · refine wp_loc (lv' := [(0, _), (1, _), (2, _), (3, _), (4, _)]) [1, 2, 3, 4, 5] rfl ?_
          first
          | exact nx39 (fun hb => absurd hb (b2_eq.mp h29))
          | exact nx39 (fun hb => ⟨by have z1 := b2_eq.mp h33; unfold okH; simp at z1; simp [z1], b2_ne.mp h31⟩)
          | exact nx39 (fun hb => ⟨by have z1 := b2_eq.mp h36; unfold okH; simp at z1; simp [z1], b2_ne.mp h31⟩)
        · refine wp_iload rfl rfl ?_
          refine wp_if_eq 37 rfl rfl (fun h31 => ?_) (fun h31 => ?_)
          · refine wp_iconst (v := 0) rfl rfl ?_
            exact wp_zret rfl rfl (by first | rfl | exact nb2 _ | assumption) (by rw [hQ]; exact ⟨by rw [b2_f (fun z => by have y := (alw_iff _).mp z i (by omega) (b2_ne.mp h29); first | exact absurd y.2 (b2_eq.mp h31) | (have y1 := y.1; unfold okH at y1; have z1 := b2_ne.mp h33; have z2 := b2_ne.mp h36; rw [z1, z2] at y1; simp at y1))], rfl⟩)
          · refine wp_iload_n rfl rfl ?_
            refine wp_if_eq 39 rfl rfl (fun h33 => ?_) (fun h33 => ?_)
            · refine wp_loc (lv' := [(0, _), (1, _), (2, _), (3, _), (4, _)]) [1, 2, 3, 4, 5] rfl ?_
              first
              | exact nx39 (fun hb => absurd hb (b2_eq.mp h29))
              | exact nx39 (fun hb => ⟨by have z1 := b2_eq.mp h33; unfold okH; simp at z1; simp [z1], b2_ne.mp h31⟩)
              | exact nx39 (fun hb => ⟨by have z1 := b2_eq.mp h36; unfold okH; simp at z1; simp [z1], b2_ne.mp h31⟩)
            · refine wp_aload rfl rfl ?_
              refine q_geti rfl rfl (by first | rfl | assumption) rfl ?_
              rw [hhi]
              refine wp_if_eq 39 rfl rfl (fun h36 => ?_) (fun h36 => ?_)
              · refine wp_loc (lv' := [(0, _), (1, _), (2, _), (3, _), (4, _)]) [1, 2, 3, 4, 5] rfl ?_
                first
                | exact nx39 (fun hb => absurd hb (b2_eq.mp h29))
                | exact nx39 (fun hb => ⟨by have z1 := b2_eq.mp h33; unfold okH; simp at z1; simp [z1], b2_ne.mp h31⟩)
                | exact nx39 (fun hb => ⟨by have z1 := b2_eq.mp h36; unfold okH; simp at z1; simp [z1], b2_ne.mp h31⟩)
              · refine wp_iconst (v := 0) rfl rfl ?_
                exact wp_zret rfl rfl (by first | rfl | exact nb2 _ | assumption) (by rw [hQ]; exact ⟨by rw [b2_f (fun z => by have y := (alw_iff _).mp z i (by omega) (b2_ne.mp h29); first | exact absurd y.2 (b2_eq.mp h31) | (have y1 := y.1; unfold okH at y1; have z1 := b2_ne.mp h33; have z2 := b2_ne.mp h36; rw [z1, z2] at y1; simp at y1))], rfl⟩)
      cases hf : pF P i with
      | none =>
        rw [hf] at hf3
        have hf3 : I (4 + i) 3 = -1 := hf3
        have e : fdB P (done ||| set) i = true := by unfold fdB; rw [hf]
        refine wp_iload rfl rfl ?_
        refine wp_aload_n rfl rfl ?_
        refine q_geti rfl rfl (by first | rfl | assumption) rfl ?_
        refine wp_icmp_ge 41 rfl rfl (fun h5 => absurd h5 hlt) (fun _ => ?_)
        refine wp_aload_n rfl rfl ?_
        refine q_getr rfl rfl (by first | rfl | assumption) rfl rfl ?_
        refine wp_iload rfl rfl ?_
        refine q_mast rfl rfl (by omega) ?_
        refine wp_astore (lv' := [(5, _), (0, _), (1, _), (2, _), (3, _), (4, _)]) rfl (by decide) rfl ?_
        refine wp_aload rfl rfl ?_
        refine q_geti rfl rfl (by first | rfl | assumption) rfl ?_
        refine wp_iconst (v := (-1)) rfl rfl ?_
        refine wp_icmp_eq 22 rfl rfl (fun _ => ?_) (fun h14 => absurd hf3 h14)
        refine wp_iconst (v := 1) rfl rfl ?_
        refine wp_goto 25 rfl rfl ?_
        refine wp_loc (lv' := [(0, _), (1, _), (2, _), (3, _), (4, _), (5, _)]) [1, 2, 3, 4, 5, 0] rfl ?_
        exact tail _ (by rw [b2_t e])
      | some f =>
        rw [hf] at hf3
        have hf3 : I (4 + i) 3 = nI f := hf3
        have hfm := hp.2.2.2.2 i f (by omega) hf
        have hne : ¬ I (4 + i) 3 = -1 := by rw [hf3]; have := nI_pos' (n := f) (by omega); grind
        have e : fdB P (done ||| set) i = (done ||| set).testBit f := by unfold fdB; rw [hf]
        have hin2 : ∀ w, MD G d Y_X10_isIn [.int (nI (done ||| set)), .int (I (4 + i) 3)] w (some (.int (b2 ((done ||| set).testBit f = true)))) w := fun w => by
          have := c_isIn G d (nI (done ||| set)) (x := I (4 + i) 3) hf3 (show f < 32 by omega) w
          rw [bt_nI (by omega)] at this
          exact this
        refine wp_iload rfl rfl ?_
        refine wp_aload_n rfl rfl ?_
        refine q_geti rfl rfl (by first | rfl | assumption) rfl ?_
        refine wp_icmp_ge 41 rfl rfl (fun h5 => absurd h5 hlt) (fun _ => ?_)
        refine wp_aload_n rfl rfl ?_
        refine q_getr rfl rfl (by first | rfl | assumption) rfl rfl ?_
        refine wp_iload rfl rfl ?_
        refine q_mast rfl rfl (by omega) ?_
        refine wp_astore (lv' := [(5, _), (0, _), (1, _), (2, _), (3, _), (4, _)]) rfl (by decide) rfl ?_
        refine wp_aload rfl rfl ?_
        refine q_geti rfl rfl (by first | rfl | assumption) rfl ?_
        refine wp_iconst (v := (-1)) rfl rfl ?_
        refine wp_icmp_eq 22 rfl rfl (fun h14 => absurd h14 hne) (fun _ => ?_)
        refine wp_iload_n rfl rfl ?_
        refine wp_iload_n rfl rfl ?_
        refine wp_ior rfl ?_
        rw [nI_or]
        refine wp_aload rfl rfl ?_
        refine q_geti rfl rfl (by first | rfl | assumption) rfl ?_
        refine cN1 rfl ln_5_57 s_X10_isIn m_X10_isIn (hin2 _) rfl (Nat.le_of_ble_eq_true rfl) ?_
        refine wp_if_eq 24 rfl rfl (fun h21 => ?_) (fun h21 => ?_)
        · refine wp_iconst (v := 0) rfl rfl ?_
          refine wp_loc (lv' := [(0, _), (1, _), (2, _), (3, _), (4, _), (5, _)]) [1, 2, 3, 4, 5, 0] rfl ?_
          first
          | exact tail _ (by rw [e, b2_t (b2_ne.mp h21)])
          | exact tail _ (by rw [e, b2_f (b2_eq.mp h21)])
        · refine wp_iconst (v := 1) rfl rfl ?_
          refine wp_goto 25 rfl rfl ?_
          refine wp_loc (lv' := [(0, _), (1, _), (2, _), (3, _), (4, _), (5, _)]) [1, 2, 3, 4, 5, 0] rfl ?_
          first
          | exact tail _ (by rw [e, b2_t (b2_ne.mp h21)])
          | exact tail _ (by rw [e, b2_f (b2_eq.mp h21)])
  refine MT.intro m_X5_isAllowed rfl (Nat.le_of_ble_eq_true rfl) ?_
  show WQ G (d + 1) Y_X5_isAllowed Q 0 [(0, .ref 1), (1, .int (nI set)), (2, .int (nI done)), (3, .int (b2 (pW P w = false)))] [] (I, L, RR b)
  refine wp_iconst (v := 0) rfl rfl ?_
  refine wp_istore (lv' := [(4, _), (0, _), (1, _), (2, _), (3, _)]) rfl (by decide) rfl ?_
  refine wp_loc (lv' := [(0, _), (1, _), (2, _), (3, _), (4, _)]) [1, 2, 3, 4, 0] rfl ?_
  exact loop (pN P) 0 (by omega) (fun m hm => absurd hm (by omega))
theorem c_X5_leastSet (G : Gl) (d : Nat) {P : PL} (hp : plok P) {W w done s0 : Nat} {D : Nat → Nat} (hW : W ≤ 52) (hw : w < W) (hdn : done < 2 ^ pN P) (hs0 : s0 < 2 ^ pN P) (hc1 : cnB P W w done s0 = true) (hc2 : ∀ t, t < s0 → cnB P W w done t = false) (I : IF) (L : LF) (b : Bool) (hI : PI P I) (hC : I 34 4 = nI (pC P)) (hD : ∀ S, S < 1024 → I 36 S = zI (D S)) (hL : CHL P W D) (hDb : ∀ x, D x ≤ W * pC P + 1) : MQ2 G (d + 2) Y_X5_leastSet [.ref 34, .ref 1, .int (nI done), .int (nI w), .int (b2 (pW P w = false))] (I, L, RR b) (fun r w2 => r = some (.int (nI s0)) ∧ ∃ J : IF, w2 = (J, L, RR b) ∧ (∀ q, (q < 4 ∨ 13 < q) → J q = I q) ∧ ∀ m, m < 10 → (∀ k, k ≠ 7 → J (4 + m) k = I (4 + m) k) ∧ J (4 + m) 7 = if s0.testBit m = true then nI w else I (4 + m) 7) := by
  generalize hQ : (fun (r : Option Value) (w2 : mW) => r = some (.int (nI s0)) ∧ ∃ J : IF, w2 = (J, L, RR b) ∧ (∀ q, (q < 4 ∨ 13 < q) → J q = I q) ∧ ∀ m, m < 10 → (∀ k, k ≠ 7 → J (4 + m) k = I (4 + m) k) ∧ J (4 + m) 7 = if s0.testBit m = true then nI w else I (4 + m) 7) = Q
  obtain ⟨n1, n2, c1, c2, hfd⟩ := id hp
  have hall := all_lt P
  have h1024 := two10 n2
  have hWc : W * pC P ≤ 52 * pC P := Nat.mul_le_mul_right _ hW
  have hwc : (w + 1) * pC P ≤ W * pC P := Nat.mul_le_mul_right _ hw
  have hsm : ∀ m, s0.testBit m = true → m < pN P := fun m e => Classical.byContradiction (fun z => by rw [bits_of_lt hs0 (by omega)] at e; cases e)
  have fin : ∀ (p i : Nat), i + p = pN P → ∀ J : IF, (∀ q, (q < 4 ∨ 13 < q) → J q = I q) → (∀ m, m < 10 → (∀ k, k ≠ 7 → J (4 + m) k = I (4 + m) k) ∧ J (4 + m) 7 = if m < i ∧ s0.testBit m = true then nI w else I (4 + m) 7) → WQ G (d + 2) Y_X5_leastSet Q 38 [(0, .ref 34), (1, .ref 1), (2, .int (nI done)), (3, .int (nI w)), (4, .int (b2 (pW P w = false))), (5, .int (nI (allS P))), (6, .int (nI s0)), (7, .int (nI i))] [] (J, L, RR b) := by
    intro p
    induction p with
    | zero =>
      intro i hi J f1 f2
      have hie : i = pN P := by omega
      have hge : J 1 2 ≤ nI i := by rw [f1 1 (by omega), hI.1]; exact nI_le (by omega) (by omega)
      refine wp_iload rfl rfl ?_
      refine wp_aload_n rfl rfl ?_
      refine q_geti rfl rfl (by first | rfl | assumption) rfl ?_
      refine wp_icmp_ge 54 rfl rfl (fun _ => ?_) (fun h41 => absurd hge h41)
      refine wp_iload rfl rfl ?_
      exact wp_iret rfl rfl (by rw [← hQ]; exact ⟨rfl, J, rfl, f1, fun m hm => ⟨(f2 m hm).1, by rw [(f2 m hm).2]; by_cases e : s0.testBit m = true; rw [if_pos e, if_pos ⟨by have := hsm m e; omega, e⟩]; rw [if_neg e, if_neg (fun z => e z.2)]⟩⟩)
    | succ p ih =>
      intro i hi J f1 f2
      have hlt : ¬ J 1 2 ≤ nI i := by rw [f1 1 (by omega), hI.1]; exact nI_ge (by omega) (by omega)
      have hsi := sh_mast i (by omega)
      have hin1 : ∀ w, MD G (d + 1) Y_X10_isIn [.int (nI s0), .int (nI i)] w (some (.int (b2 (s0.testBit i = true)))) w := fun w => by
        have := c_isIn G (d + 1) (nI s0) (x := nI i) rfl (show i < 32 by omega) w
        rw [bt_nI (by omega)] at this
        exact this
      refine wp_iload rfl rfl ?_
      refine wp_aload_n rfl rfl ?_
      refine q_geti rfl rfl (by first | rfl | assumption) rfl ?_
      refine wp_icmp_ge 54 rfl rfl (fun h41 => absurd h41 hlt) (fun _ => ?_)
      refine wp_iload rfl rfl ?_
      refine wp_iload rfl rfl ?_
      refine cN1 rfl ln_5_57 s_X10_isIn m_X10_isIn (hin1 _) rfl (Nat.le_of_ble_eq_true rfl) ?_
      refine wp_if_eq 52 rfl rfl (fun h45 => ?_) (fun h45 => ?_)
      · refine wp_iinc (v := nI (i + 1)) (lv' := [(7, _), (0, _), (1, _), (2, _), (3, _), (4, _), (5, _), (6, _)]) rfl rfl (nI_1 i) (by decide) rfl ?_
        refine wp_goto 38 rfl rfl ?_
        refine wp_loc (lv' := [(0, _), (1, _), (2, _), (3, _), (4, _), (5, _), (6, _), (7, _)]) [1, 2, 3, 4, 5, 6, 7, 0] rfl ?_
        first
        | (have hb := b2_eq.mp h45
           refine ih (i + 1) (by omega) J f1 (fun m hm => ⟨(f2 m hm).1, ?_⟩)
           rw [(f2 m hm).2]
           by_cases e : m < i ∧ s0.testBit m = true
           · rw [if_pos e, if_pos ⟨by omega, e.2⟩]
           · rw [if_neg e, if_neg (fun z => e ⟨by rcases Nat.lt_or_ge m i with y | y; exact y; exact absurd z.2 (by rw [show m = i by omega]; exact hb), z.2⟩)])
        | (have hb := b2_ne.mp h45
           refine ih (i + 1) (by omega) _ (fun q hq => by rw [uI_fn (by omega)]; exact f1 q hq) (fun m hm => ⟨fun k hk => ?_, ?_⟩)
           · by_cases e : m = i
             · subst e; rw [uI_nk hk]; exact (f2 m hm).1 k hk
             · rw [uI_ne (by omega)]; exact (f2 m hm).1 k hk
           · by_cases e : m = i
             · subst e; rw [uI_eq, if_pos ⟨by omega, hb⟩]
             · rw [uI_ne (by omega), (f2 m hm).2]
               by_cases e2 : m < i ∧ s0.testBit m = true
               · rw [if_pos e2, if_pos ⟨by omega, e2.2⟩]
               · rw [if_neg e2, if_neg (fun z => e2 ⟨by omega, z.2⟩)])
      · refine wp_aload_n rfl rfl ?_
        refine q_getr rfl rfl (by first | rfl | assumption) rfl rfl ?_
        refine wp_iload rfl rfl ?_
        refine q_mast rfl rfl (by omega) ?_
        refine wp_iload_n rfl rfl ?_
        refine q_puti rfl rfl (by first | rfl | assumption) (Or.inl rfl) rfl ?_
        refine wp_iinc (v := nI (i + 1)) (lv' := [(7, _), (0, _), (1, _), (2, _), (3, _), (4, _), (5, _), (6, _)]) rfl rfl (nI_1 i) (by decide) rfl ?_
        refine wp_goto 38 rfl rfl ?_
        refine wp_loc (lv' := [(0, _), (1, _), (2, _), (3, _), (4, _), (5, _), (6, _), (7, _)]) [1, 2, 3, 4, 5, 6, 7, 0] rfl ?_
        first
        | (have hb := b2_eq.mp h45
           refine ih (i + 1) (by omega) J f1 (fun m hm => ⟨(f2 m hm).1, ?_⟩)
           rw [(f2 m hm).2]
           by_cases e : m < i ∧ s0.testBit m = true
           · rw [if_pos e, if_pos ⟨by omega, e.2⟩]
           · rw [if_neg e, if_neg (fun z => e ⟨by rcases Nat.lt_or_ge m i with y | y; exact y; exact absurd z.2 (by rw [show m = i by omega]; exact hb), z.2⟩)])
        | (have hb := b2_ne.mp h45
           refine ih (i + 1) (by omega) _ (fun q hq => by rw [uI_fn (by omega)]; exact f1 q hq) (fun m hm => ⟨fun k hk => ?_, ?_⟩)
           · by_cases e : m = i
             · subst e; rw [uI_nk hk]; exact (f2 m hm).1 k hk
             · rw [uI_ne (by omega)]; exact (f2 m hm).1 k hk
           · by_cases e : m = i
             · subst e; rw [uI_eq, if_pos ⟨by omega, hb⟩]
             · rw [uI_ne (by omega), (f2 m hm).2]
               by_cases e2 : m < i ∧ s0.testBit m = true
               · rw [if_pos e2, if_pos ⟨by omega, e2.2⟩]
               · rw [if_neg e2, if_neg (fun z => e2 ⟨by omega, z.2⟩)])
  have body : ∀ i, i < 2 ^ pN P → (cnB P W w done i = false → WQ G (d + 2) Y_X5_leastSet Q 56 [(0, .ref 34), (1, .ref 1), (2, .int (nI done)), (3, .int (nI w)), (4, .int (b2 (pW P w = false))), (5, .int (nI (allS P))), (6, .int (nI i))] [] (I, L, RR b)) → (cnB P W w done i = true → WQ G (d + 2) Y_X5_leastSet Q 36 [(0, .ref 34), (1, .ref 1), (2, .int (nI done)), (3, .int (nI w)), (4, .int (b2 (pW P w = false))), (5, .int (nI (allS P))), (6, .int (nI i))] [] (I, L, RR b)) → WQ G (d + 2) Y_X5_leastSet Q 5 [(0, .ref 34), (1, .ref 1), (2, .int (nI done)), (3, .int (nI w)), (4, .int (b2 (pW P w = false))), (5, .int (nI (allS P))), (6, .int (nI i))] [] (I, L, RR b) := by
    intro i hi nx hit
    have hngt : ¬ nI (allS P) < nI i := nI_nlt (by unfold allS; omega) (by omega)
    have hor : done ||| i < 2 ^ pN P := or_lt hdn hi
    have hin : vp_in (nI (done ||| i)) 1024 := vp_in_nI (by omega) (by omega)
    have e36 : I 36 (nI (done ||| i)).toNatClampNeg = zI (D (done ||| i)) := by rw [nI_clamp (by omega)]; exact hD _ (by omega)
    have hDi := hDb (done ||| i)
    have hand : i &&& done ≤ i := Nat.and_le_left
    have hcb := cnt_b (s := i) 10
    have t1 : nI (i &&& done) = 0 ↔ i &&& done = 0 := nI_eq (a := i &&& done) (b := 0) (by omega) (by omega)
    have t2 : zI (D (done ||| i)) < nI ((w + 1) * pC P) ↔ ¬ (w + 1) * pC P + 1 ≤ D (done ||| i) := by rw [zI_lt (by omega) (by omega)]; omega
    have t3 : nI (pC P) < nI (cnt i 10) ↔ ¬ cnt i 10 ≤ pC P := by rw [nI_ltI (by omega) (by omega)]; omega
    have t4 : BW P W (W - (w + 1)) (done ||| i) ↔ (w + 1) * pC P + 1 ≤ D (done ||| i) := by
      have a := BW_L hp hL (W - (w + 1)) (by omega) (done ||| i) hor
      have c := L_BW hp hL (W - (w + 1)) (by omega) (done ||| i) hor
      rw [show W - (W - (w + 1)) = w + 1 by omega] at a c
      exact ⟨a, c⟩
    have t5 : cnB P W w done i = true ↔ (i &&& done = 0 ∧ cnt i 10 ≤ pC P ∧ alw P i done w (pN P) = true) ∧ (w + 1) * pC P + 1 ≤ D (done ||| i) := by
      rw [cnB_iff, t4]
      unfold mayP
      rw [alw_iff]
    have nof : ¬ ((i &&& done = 0 ∧ cnt i 10 ≤ pC P ∧ alw P i done w (pN P) = true) ∧ (w + 1) * pC P + 1 ≤ D (done ||| i)) → cnB P W w done i = false := fun z => by
      cases hcc : cnB P W w done i with
      | false => rfl
      | true => exact absurd (t5.mp hcc) z
    refine wp_iload rfl rfl ?_
    refine wp_iload rfl rfl ?_
    refine wp_icmp_gt 58 rfl rfl (fun h7 => absurd h7 hngt) (fun _ => ?_)
    refine wp_iload rfl rfl ?_
    refine wp_iload_n rfl rfl ?_
    refine wp_iand rfl ?_
    rw [nI_and]
    refine wp_if_ne 56 rfl rfl (fun h11 => ?_) (fun h11 => ?_)
    · first
      | exact nx (nof (fun z => h11 (t1.mpr z.1.1)))
      | exact nx (nof (fun z => t2.mp h24 z.2))
      | exact nx (nof (fun z => t3.mp h29 z.1.2.1))
      | exact nx (nof (fun z => b2_eq.mp h35 z.1.2.2))
    · refine wp_aload_n rfl rfl ?_
      refine q_getr rfl rfl (by first | rfl | assumption) rfl rfl ?_
      refine wp_iload_n rfl rfl ?_
      refine wp_iload rfl rfl ?_
      refine wp_ior rfl ?_
      rw [nI_or]
      refine q_iald rfl (by first | rfl | assumption) hin ?_
      rw [e36]
      refine wp_iload_n rfl rfl ?_
      refine wp_iconst (v := 1) rfl rfl ?_
      refine wp_iadd rfl ?_
      rw [nI_1]
      refine wp_aload_n rfl rfl ?_
      refine q_geti rfl rfl (by first | rfl | assumption) rfl ?_
      refine wp_imul rfl ?_
      rw [hC, nI_mul2]
      refine wp_icmp_lt 56 rfl rfl (fun h24 => ?_) (fun h24 => ?_)
      · first
        | exact nx (nof (fun z => h11 (t1.mpr z.1.1)))
        | exact nx (nof (fun z => t2.mp h24 z.2))
        | exact nx (nof (fun z => t3.mp h29 z.1.2.1))
        | exact nx (nof (fun z => b2_eq.mp h35 z.1.2.2))
      · refine wp_iload rfl rfl ?_
        refine cS1 rfl l_5_104 s_J6_bitCount_0f7a4 m_J6_bitCount_0f7a4 (c_bitCount G _ _ _) rfl (Nat.le_of_ble_eq_true rfl) ?_
        rw [bcN (by omega)]
        refine wp_aload_n rfl rfl ?_
        refine q_geti rfl rfl (by first | rfl | assumption) rfl ?_
        rw [hC]
        refine wp_icmp_gt 56 rfl rfl (fun h29 => ?_) (fun h29 => ?_)
        · first
          | exact nx (nof (fun z => h11 (t1.mpr z.1.1)))
          | exact nx (nof (fun z => t2.mp h24 z.2))
          | exact nx (nof (fun z => t3.mp h29 z.1.2.1))
          | exact nx (nof (fun z => b2_eq.mp h35 z.1.2.2))
        · refine wp_aload_n rfl rfl ?_
          refine wp_iload rfl rfl ?_
          refine wp_iload_n rfl rfl ?_
          refine wp_iload rfl rfl ?_
          refine cS1 rfl l_5_110 s_X5_isAllowed m_X5_isAllowed (c_X5_isAllowed G _ hp _ _ _ hI) rfl (Nat.le_of_ble_eq_true rfl) ?_
          refine wp_if_eq 56 rfl rfl (fun h35 => ?_) (fun h35 => ?_)
          · first
            | exact nx (nof (fun z => h11 (t1.mpr z.1.1)))
            | exact nx (nof (fun z => t2.mp h24 z.2))
            | exact nx (nof (fun z => t3.mp h29 z.1.2.1))
            | exact nx (nof (fun z => b2_eq.mp h35 z.1.2.2))
          · exact hit (t5.mpr ⟨⟨t1.mp h11, Classical.byContradiction (fun z => h29 (t3.mpr z)), b2_ne.mp h35⟩, Classical.byContradiction (fun z => h24 (t2.mpr z))⟩)
  have loop : ∀ (p i : Nat), i + p = s0 → WQ G (d + 2) Y_X5_leastSet Q 5 [(0, .ref 34), (1, .ref 1), (2, .int (nI done)), (3, .int (nI w)), (4, .int (b2 (pW P w = false))), (5, .int (nI (allS P))), (6, .int (nI i))] [] (I, L, RR b) := by
    intro p
    induction p with
    | zero =>
      intro i hi
      have hie : i = s0 := by omega
      subst hie
      refine body i hs0 (fun z => by rw [hc1] at z; cases z) (fun _ => ?_)
      refine wp_iconst (v := 0) rfl rfl ?_
      refine wp_istore (lv' := [(7, _), (0, _), (1, _), (2, _), (3, _), (4, _), (5, _), (6, _)]) rfl (by decide) rfl ?_
      refine wp_loc (lv' := [(0, _), (1, _), (2, _), (3, _), (4, _), (5, _), (6, _), (7, _)]) [1, 2, 3, 4, 5, 6, 7, 0] rfl ?_
      exact fin (pN P) 0 (by omega) I (fun q _ => rfl) (fun m hm => ⟨fun k _ => rfl, by rw [if_neg (by omega)]⟩)
    | succ p ih =>
      intro i hi
      refine body i (by omega) (fun _ => ?_) (fun z => by rw [hc2 i (by omega)] at z; cases z)
      refine wp_iinc (v := nI (i + 1)) (lv' := [(6, _), (0, _), (1, _), (2, _), (3, _), (4, _), (5, _)]) rfl rfl (nI_1 i) (by decide) rfl ?_
      refine wp_goto 5 rfl rfl ?_
      refine wp_loc (lv' := [(0, _), (1, _), (2, _), (3, _), (4, _), (5, _), (6, _)]) [1, 2, 3, 4, 5, 6, 0] rfl ?_
      exact ih (i + 1) (by omega)
  refine MT.intro m_X5_leastSet rfl (Nat.le_of_ble_eq_true rfl) ?_
  show WQ G (d + 2) Y_X5_leastSet Q 0 [(0, .ref 34), (1, .ref 1), (2, .int (nI done)), (3, .int (nI w)), (4, .int (b2 (pW P w = false)))] [] (I, L, RR b)
  refine wp_aload_n rfl rfl ?_
  refine cS1 rfl l_5_41 s_X5_allOf m_X5_allOf (c_X5_allOf G _ hp _ _ _ hI) rfl (Nat.le_of_ble_eq_true rfl) ?_
  refine wp_istore (lv' := [(5, _), (0, _), (1, _), (2, _), (3, _), (4, _)]) rfl (by decide) rfl ?_
  refine wp_iconst (v := 0) rfl rfl ?_
  refine wp_istore (lv' := [(6, _), (5, _), (0, _), (1, _), (2, _), (3, _), (4, _)]) rfl (by decide) rfl ?_
  refine wp_loc (lv' := [(0, _), (1, _), (2, _), (3, _), (4, _), (5, _), (6, _)]) [2, 3, 4, 5, 6, 1, 0] rfl ?_
  exact loop s0 0 (by omega)
