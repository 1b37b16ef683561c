/-! the plan, in the reference: sets that may be, and the fewest weeks -/
theorem l01 (x : Int64) : x &&& 1 = 0 ∨ x &&& 1 = 1 := by
  have h : (x &&& 1).toBitVec = x.toBitVec &&& 1#64 := Int64.toBitVec_and ..
  have h2 : (x.toBitVec &&& 1#64).toNat = x.toBitVec.toNat % 2 := by
    rw [BitVec.toNat_and]
    exact Nat.and_one_is_mod _
  rcases Nat.mod_two_eq_zero_or_one x.toBitVec.toNat with e | e
  · exact Or.inl (Int64.toBitVec_inj.mp (by rw [h]; apply BitVec.eq_of_toNat_eq; rw [h2, e]; rfl))
  · exact Or.inr (Int64.toBitVec_inj.mp (by rw [h]; apply BitVec.eq_of_toNat_eq; rw [h2, e]; rfl))
theorem lc1 (x : Int64) : lg_cmp (x &&& 1) 1 = 0 ↔ ¬ x &&& 1 = 0 := by
  rcases l01 x with h | h <;> rw [h] <;> decide
/-- the land as the reference's plan sees it -/
def PM (P : PL) (I : IF) : Prop := I 72 5 = nI (pN P) ∧ ∀ m, m < pN P → I 83 m = b2 (pH P m = true) ∧ I 81 m = (match pF P m with | none => -1 | some f => nI f)
theorem PM_cg {P : PL} {I J : IF} (h : PM P I) (h1 : J 72 5 = I 72 5) (h2 : J 83 = I 83) (h3 : J 81 = I 81) : PM P J := by
  unfold PM
  rw [h1, h2, h3]
  exact h
theorem c_X11_sizeOf (G : Gl) (d : Nat) (s : Nat) (w : mW) : MD G d Y_X11_sizeOf [.int (nI s)] w (some (.int (nI (cnt s 10)))) w := by
  suffices H : ∀ Q, Q = (fun (r : Option Value) (w2 : mW) => r = some (.int (nI (cnt s 10))) ∧ w2 = w) → MQ2 G d Y_X11_sizeOf [.int (nI s)] w Q from H _ rfl
  intro Q hQ
  have loop : ∀ (p i : Nat), i + p = 10 → WQ G d Y_X11_sizeOf Q 4 [(0, .int (nI s)), (1, .int (pcF (nI s) i)), (2, .int (nI i))] [] w := by
    intro p
    induction p with
    | zero =>
      intro i hi
      have hie : i = 10 := by omega
      subst hie
      refine wp_iload_n rfl rfl ?_
      refine wp_bipush (v := 10) rfl rfl ?_
      refine wp_icmp_ge 17 rfl rfl (fun _ => ?_) (fun h6 => absurd (show (10 : Int32) ≤ nI 10 by decide) h6)
      refine wp_iload_n rfl rfl ?_
      exact wp_iret rfl rfl (by rw [hQ, pcF_cnt 10 (by omega)]; exact ⟨rfl, rfl⟩)
    | succ p ih =>
      intro i hi
      have hlt : ¬ (10 : Int32) ≤ nI i := nI_ge (a := i) (b := 10) (by omega) (by omega)
      refine wp_iload_n rfl rfl ?_
      refine wp_bipush (v := 10) rfl rfl ?_
      refine wp_icmp_ge 17 rfl rfl (fun h6 => absurd h6 hlt) (fun _ => ?_)
      refine wp_iload_n rfl rfl ?_
      refine wp_iload_n rfl rfl ?_
      refine wp_iload_n rfl rfl ?_
      refine wp_ishr rfl ?_
      refine wp_iconst (v := 1) rfl rfl ?_
      refine wp_iand rfl ?_
      refine wp_iadd rfl ?_
      refine wp_istore_n (lv' := [(1, _), (0, _), (2, _)]) rfl rfl (by decide) rfl ?_
      refine wp_iinc (v := nI (i + 1)) (lv' := [(2, _), (1, _), (0, _)]) rfl rfl (nI_1 i) (by decide) rfl ?_
      refine wp_goto 4 rfl rfl ?_
      refine wp_loc (lv' := [(0, _), (1, _), (2, _)]) [2, 1, 0] rfl ?_
      exact ih (i + 1) (by omega)
  refine MT.intro m_X11_sizeOf rfl (Nat.le_of_ble_eq_true rfl) ?_
  show WQ G d Y_X11_sizeOf Q 0 [(0, .int (nI s))] [] w
  refine wp_iconst (v := 0) rfl rfl ?_
  refine wp_istore_n (lv' := [(1, _), (0, _)]) rfl rfl (by decide) rfl ?_
  refine wp_iconst (v := 0) rfl rfl ?_
  refine wp_istore_n (lv' := [(2, _), (1, _), (0, _)]) rfl rfl (by decide) rfl ?_
  refine wp_loc (lv' := [(0, _), (1, _), (2, _)]) [2, 1, 0] rfl ?_
  exact loop 10 0 (by omega)
theorem c_X11_may (G : Gl) (d : Nat) {P : PL} (hp : plok P) {s done w : Nat} {v : Int64} (hw : pW P w = !wnd v w) (hs : s < 1024) (I : IF) (L : LF) (b : Bool) (h : PM P I) : MD G (d + 1) Y_X11_may [.ref 72, .int (nI s), .int (nI done), .int (nI w), .int (nI (pC P)), .long v] (I, L, RR b) (some (.int (b2 (mayB P s done w = true)))) (I, L, RR b) := by
  obtain ⟨n1, n2, c1, c2, hfd⟩ := id hp
  suffices H : ∀ Q, Q = (fun (r : Option Value) (w2 : mW) => r = some (.int (b2 (mayB P s done w = true))) ∧ w2 = (I, L, RR b)) → MQ2 G (d + 1) Y_X11_may [.ref 72, .int (nI s), .int (nI done), .int (nI w), .int (nI (pC P)), .long v] (I, L, RR b) Q from H _ rfl
  intro Q hQ
  have hcb := cnt_b (s := s) 10
  have loop : s &&& done = 0 → cnt s 10 ≤ pC P → ∀ (p i : Nat), i + p = pN P → (∀ m, m < i → s.testBit m = true → okH P m w = true ∧ fdB P (done ||| s) m = true) → WQ G (d + 1) Y_X11_may Q 12 [(0, .ref 72), (1, .int (nI s)), (2, .int (nI done)), (3, .int (nI w)), (4, .int (nI (pC P))), (5, .long v), (7, .int (nI i))] [] (I, L, RR b) := by
    intro hA hB p
    induction p with
    | zero =>
      intro i hi hv
      have hie : i = pN P := by omega
      subst hie
      have hge : I 72 5 ≤ nI (pN P) := by rw [h.1]; exact nI_le (Nat.le_refl _) (by omega)
      refine wp_iload rfl rfl ?_
      refine wp_aload_n rfl rfl ?_
      refine q_geti rfl rfl (by first | rfl | assumption) rfl ?_
      refine wp_icmp_ge 59 rfl rfl (fun _ => ?_) (fun h15 => absurd hge h15)
      refine wp_iconst (v := 1) rfl rfl ?_
      exact wp_zret rfl rfl (by first | rfl | exact nb2 _ | assumption) (by rw [hQ]; exact ⟨by rw [b2_t (mayB_iff.mpr ⟨hA, hB, hv⟩)], rfl⟩)
    | succ p ih =>
      intro i hi hv
      have hlt : ¬ I 72 5 ≤ nI i := by rw [h.1]; exact nI_ge (by omega) (by omega)
      have hin : vp_in (nI i) 10 := vp_in_nI (by omega) (by omega)
      have hcl : (nI i).toNatClampNeg = i := nI_clamp (by omega)
      have hhi : I 83 (nI i).toNatClampNeg = b2 (pH P i = true) := by rw [hcl]; exact (h.2 i (by omega)).1
      have hf3 := (h.2 i (by omega)).2
      have nx57 : (s.testBit i = true → okH P i w = true ∧ fdB P (done ||| s) i = true) → WQ G (d + 1) Y_X11_may Q 57 [(0, .ref 72), (1, .int (nI s)), (2, .int (nI done)), (3, .int (nI w)), (4, .int (nI (pC P))), (5, .long v), (7, .int (nI i))] [] (I, L, RR b) := by
        intro hx
        refine wp_iinc (v := nI (i + 1)) (lv' := [(7, _), (0, _), (1, _), (2, _), (3, _), (4, _), (5, _)]) rfl rfl (nI_1 i) (by decide) rfl ?_
        refine wp_goto 12 rfl rfl ?_
        refine wp_loc (lv' := [(0, _), (1, _), (2, _), (3, _), (4, _), (5, _), (7, _)]) [1, 2, 3, 4, 5, 6, 0] rfl ?_
        refine ih (i + 1) (by omega) (fun m hm hb => ?_)
        rcases Nat.lt_or_ge m i with e | e
        · exact hv m e hb
        · rw [show m = i by omega] at hb ⊢
          exact hx hb
      have no : s.testBit i = true → ¬ (okH P i w = true ∧ fdB P (done ||| s) i = true) → ¬ mayB P s done w = true := fun hb hx z => hx ((mayB_iff.mp z).2.2 i (by omega) hb)
      have tail : s.testBit i = true → okH P i w = true → WQ G (d + 1) Y_X11_may Q 38 [(0, .ref 72), (1, .int (nI s)), (2, .int (nI done)), (3, .int (nI w)), (4, .int (nI (pC P))), (5, .long v), (7, .int (nI i))] [] (I, L, RR b) := by
        intro hb hok
        cases hf : pF P i with
        | none =>
          rw [hf] at hf3
          have hf3 : I 81 (nI i).toNatClampNeg = -1 := by rw [hcl]; exact hf3
          have e : fdB P (done ||| s) i = true := by unfold fdB; rw [hf]
          refine wp_aload_n rfl rfl ?_
          refine q_getr rfl rfl (by first | rfl | assumption) rfl rfl ?_
          refine wp_iload rfl rfl ?_
          refine q_iald rfl (by first | rfl | assumption) (by assumption) ?_
          refine wp_iconst (v := (-1)) rfl rfl ?_
          refine wp_icmp_eq 57 rfl rfl (fun _ => ?_) (fun h43 => absurd hf3 h43)
          exact nx57 (fun _ => ⟨hok, e⟩)
        | some f =>
          rw [hf] at hf3
          have hf3 : I 81 (nI i).toNatClampNeg = nI f := by rw [hcl]; exact hf3
          have hfm := hfd i f (by omega) hf
          have hne : ¬ I 81 (nI i).toNatClampNeg = -1 := by rw [hf3]; have := nI_pos' (n := f) (by omega); grind
          have e : fdB P (done ||| s) i = (done ||| s).testBit f := by unfold fdB; rw [hf]
          refine wp_aload_n rfl rfl ?_
          refine q_getr rfl rfl (by first | rfl | assumption) rfl rfl ?_
          refine wp_iload rfl rfl ?_
          refine q_iald rfl (by first | rfl | assumption) (by assumption) ?_
          refine wp_iconst (v := (-1)) rfl rfl ?_
          refine wp_icmp_eq 57 rfl rfl (fun h43 => absurd h43 hne) (fun _ => ?_)
          refine wp_iload_n rfl rfl ?_
          refine wp_iload_n rfl rfl ?_
          refine wp_ior rfl ?_
          rw [nI_or]
          refine wp_aload_n rfl rfl ?_
          refine q_getr rfl rfl (by first | rfl | assumption) rfl rfl ?_
          refine wp_iload rfl rfl ?_
          refine q_iald rfl (by first | rfl | assumption) (by assumption) ?_
          rw [hf3]
          refine wp_ishr rfl ?_
          refine wp_iconst (v := 1) rfl rfl ?_
          refine wp_iand rfl ?_
          rw [bit1 _ (by omega), bt_nI (by omega)]
          refine wp_if_ne 57 rfl rfl (fun h54 => ?_) (fun h54 => ?_)
          · exact nx57 (fun _ => ⟨hok, by rw [e]; exact b2_ne.mp h54⟩)
          · refine wp_iconst (v := 0) rfl rfl ?_
            exact wp_zret rfl rfl (by first | rfl | exact nb2 _ | assumption) (by rw [hQ]; exact ⟨by rw [b2_f (no hb (fun z => b2_eq.mp h54 (by rw [← e]; exact z.2)))], rfl⟩)
      refine wp_iload rfl rfl ?_
      refine wp_aload_n rfl rfl ?_
      refine q_geti rfl rfl (by first | rfl | assumption) rfl ?_
      refine wp_icmp_ge 59 rfl rfl (fun h15 => absurd h15 hlt) (fun _ => ?_)
      refine wp_iload_n rfl rfl ?_
      refine wp_iload rfl rfl ?_
      refine wp_ishr rfl ?_
      refine wp_iconst (v := 1) rfl rfl ?_
      refine wp_iand rfl ?_
      rw [bit1 _ (by omega), bt_nI (by omega)]
      refine wp_if_ne 23 rfl rfl (fun h21 => ?_) (fun h21 => ?_)
      · refine wp_aload_n rfl rfl ?_
        refine q_getr rfl rfl (by first | rfl | assumption) rfl rfl ?_
        refine wp_iload rfl rfl ?_
        refine q_zald rfl (by first | rfl | assumption) (by assumption) ?_
        rw [hhi]
        refine wp_if_eq 38 rfl rfl (fun h27 => ?_) (fun h27 => ?_)
        · first
          | exact tail (b2_ne.mp h21) (by have z := b2_eq.mp h27; unfold okH; simp at z; simp [z])
          | exact tail (b2_ne.mp h21) (by have z : wnd v w = false := decide_eq_false (fun y => h35 ((lc1 _).mpr y)); unfold okH; rw [hw, z]; simp)
        · refine wp_lload rfl rfl ?_
          refine wp_iload_n rfl rfl ?_
          refine wp_lshr rfl ?_
          refine wp_lconst (v := 1) rfl rfl ?_
          refine wp_land rfl ?_
          refine wp_lconst (v := 1) rfl rfl ?_
          refine wp_lcmp rfl ?_
          refine wp_if_ne 38 rfl rfl (fun h35 => ?_) (fun h35 => ?_)
          · first
            | exact tail (b2_ne.mp h21) (by have z := b2_eq.mp h27; unfold okH; simp at z; simp [z])
            | exact tail (b2_ne.mp h21) (by have z : wnd v w = false := decide_eq_false (fun y => h35 ((lc1 _).mpr y)); unfold okH; rw [hw, z]; simp)
          · refine wp_iconst (v := 0) rfl rfl ?_
            exact wp_zret rfl rfl (by first | rfl | exact nb2 _ | assumption) (by rw [hQ]; exact ⟨by rw [b2_f (no (b2_ne.mp h21) (fun z => by have z1 := z.1; unfold okH at z1; have y : wnd v w = true := decide_eq_true ((lc1 _).mp h35); rw [hw, y, b2_ne.mp h27] at z1; simp at z1))], rfl⟩)
      · refine wp_goto 57 rfl rfl ?_
        exact nx57 (fun hb => absurd hb (b2_eq.mp h21))
  have hand : s &&& done ≤ s := Nat.and_le_left
  refine MT.intro m_X11_may rfl (Nat.le_of_ble_eq_true rfl) ?_
  show WQ G (d + 1) Y_X11_may Q 0 [(0, .ref 72), (1, .int (nI s)), (2, .int (nI done)), (3, .int (nI w)), (4, .int (nI (pC P))), (5, .long v)] [] (I, L, RR b)
  refine wp_iload_n rfl rfl ?_
  refine wp_iload_n rfl rfl ?_
  refine wp_iand rfl ?_
  rw [nI_and]
  refine wp_if_ne 8 rfl rfl (fun h3 => ?_) (fun h3 => ?_)
  · refine wp_iconst (v := 0) rfl rfl ?_
    exact wp_zret rfl rfl (by first | rfl | exact nb2 _ | assumption) (by rw [hQ]; exact ⟨by rw [b2_f (fun z => by have y := mayB_iff.mp z; first | exact h3 (by rw [y.1]; rfl) | exact h7 (nI_le y.2.1 (by omega)))], rfl⟩)
  · refine wp_iload_n rfl rfl ?_
    refine cS1 rfl l_11_181 s_X11_sizeOf m_X11_sizeOf (c_X11_sizeOf G _ _ _) rfl (Nat.le_of_ble_eq_true rfl) ?_
    refine wp_iload rfl rfl ?_
    refine wp_icmp_le 10 rfl rfl (fun h7 => ?_) (fun h7 => ?_)
    · refine wp_iconst (v := 0) rfl rfl ?_
      refine wp_istore (lv' := [(7, _), (0, _), (1, _), (2, _), (3, _), (4, _), (5, _)]) rfl (by decide) rfl ?_
      refine wp_loc (lv' := [(0, _), (1, _), (2, _), (3, _), (4, _), (5, _), (7, _)]) [1, 2, 3, 4, 5, 6, 0] rfl ?_
      exact loop ((nI_eq (a := s &&& done) (b := 0) (by omega) (by omega)).mp h3) ((nI_leI (by omega) (by omega)).mp h7) (pN P) 0 (by omega) (fun m hm => absurd hm (by omega))
    · refine wp_iconst (v := 0) rfl rfl ?_
      exact wp_zret rfl rfl (by first | rfl | exact nb2 _ | assumption) (by rw [hQ]; exact ⟨by rw [b2_f (fun z => by have y := mayB_iff.mp z; first | exact h3 (by rw [y.1]; rfl) | exact h7 (nI_le y.2.1 (by omega)))], rfl⟩)
/-! the sets within a rest, one by one downwards -/
theorem sub_prev : ∀ (n r s t : Nat), s ≤ n → s &&& r = s → t &&& r = t → t < s → t ≤ (s - 1) &&& r
  | 0, _, s, t, h, _, _, h2 => by omega
  | n + 1, r, s, t, h, hs, ht, hlt => by
    have ds : s / 2 &&& r / 2 = s / 2 := by rw [← Nat.and_div_two, hs]
    have dt : t / 2 &&& r / 2 = t / 2 := by rw [← Nat.and_div_two, ht]
    have b0 : ∀ x, x &&& r = x → x % 2 ≤ r % 2 := fun x hx => by
      have h1 : (x &&& r).testBit 0 = x.testBit 0 := by rw [hx]
      rw [Nat.testBit_and, Nat.testBit_zero, Nat.testBit_zero] at h1
      rcases Nat.mod_two_eq_zero_or_one x with e | e
      · omega
      · rcases Nat.mod_two_eq_zero_or_one r with e2 | e2
        · simp [e, e2] at h1
        · omega
    have q := Nat.div_add_mod ((s - 1) &&& r) 2
    rw [Nat.and_div_two] at q
    have qm : ((s - 1) &&& r) % 2 = (s - 1) % 2 * (r % 2) := by
      have h1 : ((s - 1) &&& r).testBit 0 = ((s - 1).testBit 0 && r.testBit 0) := Nat.testBit_and ..
      rw [Nat.testBit_zero, Nat.testBit_zero, Nat.testBit_zero] at h1
      rcases Nat.mod_two_eq_zero_or_one (s - 1) with e | e <;> rcases Nat.mod_two_eq_zero_or_one r with e2 | e2 <;> rcases Nat.mod_two_eq_zero_or_one ((s - 1) &&& r) with e3 | e3 <;> simp [e, e2, e3] at h1 ⊢
    have hbt := b0 t ht
    have hbs := b0 s hs
    rcases Nat.mod_two_eq_zero_or_one s with e | e
    · have e1 : (s - 1) % 2 = 1 := by omega
      have e2 : (s - 1) / 2 = s / 2 - 1 := by omega
      have ih := sub_prev n (r / 2) (s / 2) (t / 2) (by omega) ds dt (by omega)
      rw [e2] at q
      rw [e1, Nat.one_mul] at qm
      omega
    · have e2 : (s - 1) / 2 = s / 2 := by omega
      rw [e2, ds] at q
      omega
/-- what is left behind a set -/
def rst (P : PL) (done : Nat) : Nat := allS P ^^^ done
theorem rst_tb {P : PL} {done i : Nat} (hd : done < 2 ^ pN P) : (rst P done).testBit i = (decide (i < pN P) && !done.testBit i) := by
  unfold rst allS
  rw [Nat.testBit_xor, Nat.testBit_two_pow_sub_one]
  by_cases h : i < pN P
  · simp [h]
  · rw [bits_of_lt hd (by omega)]; simp [h]
theorem rst_lt {P : PL} {done : Nat} (hd : done < 2 ^ pN P) : rst P done < 2 ^ pN P := Nat.xor_lt_two_pow (all_lt P) hd
theorem sub_iff {P : PL} {done x : Nat} (hd : done < 2 ^ pN P) : x &&& rst P done = x ↔ x < 2 ^ pN P ∧ x &&& done = 0 := by
  constructor
  · intro h
    refine ⟨Nat.lt_of_le_of_lt (by rw [← h]; exact Nat.and_le_right) (rst_lt hd), ?_⟩
    apply Nat.eq_of_testBit_eq
    intro i
    have h1 : (x &&& rst P done).testBit i = x.testBit i := by rw [h]
    rw [Nat.testBit_and, rst_tb hd] at h1
    rw [Nat.testBit_and, Nat.zero_testBit]
    cases hx : x.testBit i <;> cases hy : done.testBit i <;> simp [hx, hy] at h1 ⊢
  · rintro ⟨h1, h2⟩
    apply Nat.eq_of_testBit_eq
    intro i
    rw [Nat.testBit_and, rst_tb hd]
    cases hx : x.testBit i with
    | false => rfl
    | true =>
      have hi : i < pN P := Classical.byContradiction (fun z => by rw [bits_of_lt h1 (by omega)] at hx; cases hx)
      rw [and0 h2 hx]
      simp [hi]
theorem nI_rst {P : PL} {done : Nat} (hn : pN P ≤ 10) (hd : done < 2 ^ pN P) : nI (allS P) &&& (nI done ^^^ (-1)) = nI (rst P done) := by
  apply b_ext
  intro i hi
  rw [b_and, b_xor, b_m1 i hi, bt_nI hi, bt_nI hi, bt_nI hi, rst_tb hd]
  unfold allS
  rw [Nat.testBit_two_pow_sub_one]
  cases done.testBit i <;> simp
theorem nI_sub1 {s r : Nat} (h : 0 < s) : (nI s - 1) &&& nI r = nI ((s - 1) &&& r) := by rw [nI_m1 h, nI_and]
/-! the table -/
def TB (P : PL) (J : IF) (w : Nat) (p : Nat → Prop) : Prop := ∀ S, S < 2 ^ pN P → (J 99 (1024 * w + S) = 0 ∨ J 99 (1024 * w + S) = 1) ∧ (J 99 (1024 * w + S) = 1 ↔ p S)
theorem TB.cg {P : PL} {J K : IF} {w : Nat} {p : Nat → Prop} (h : TB P J w p) (e : ∀ S, S < 2 ^ pN P → K 99 (1024 * w + S) = J 99 (1024 * w + S)) : TB P K w p := fun S hS => by rw [e S hS]; exact h S hS
theorem TB.to {P : PL} {J : IF} {w : Nat} {p q : Nat → Prop} (h : TB P J w p) (e : ∀ S, S < 2 ^ pN P → (p S ↔ q S)) : TB P J w q := fun S hS => ⟨(h S hS).1, (h S hS).2.trans (e S hS)⟩
theorem TB.ne {P : PL} {J : IF} {w S : Nat} {p : Nat → Prop} (h : TB P J w p) (hS : S < 2 ^ pN P) : ¬ J 99 (1024 * w + S) = 0 ↔ p S := by
  rw [← (h S hS).2]
  rcases (h S hS).1 with e | e <;> rw [e] <;> decide
theorem TB.eq {P : PL} {J : IF} {w S : Nat} {p : Nat → Prop} (h : TB P J w p) (hS : S < 2 ^ pN P) : J 99 (1024 * w + S) = 0 ↔ ¬ p S := by
  rw [← h.ne hS]
  simp
theorem TB.one {P : PL} {J : IF} {w T : Nat} {p : Nat → Prop} (h : TB P J w p) : TB P (uI J 99 (1024 * w + T) 1) w (fun S => p S ∨ S = T) := fun S hS => by
  by_cases e : S = T
  · subst e
    rw [uI_eq]
    exact ⟨Or.inr rfl, ⟨fun _ => Or.inr rfl, fun _ => rfl⟩⟩
  · rw [uI_nk (by omega)]
    exact ⟨(h S hS).1, (h S hS).2.trans ⟨fun z => Or.inl z, fun z => z.elim id (fun y => absurd y e)⟩⟩
theorem TB.oth {P : PL} {J : IF} {w u T : Nat} {x : Int32} {p : Nat → Prop} (hn : pN P ≤ 10) (h : TB P J w p) (hu : u ≠ w) (hT : T < 1024) : TB P (uI J 99 (1024 * u + T) x) w p := h.cg (fun S hS => uI_nk (by have := two10 hn; omega))
theorem ix1 (w k : Nat) : (1024 : Int32) * nI w + nI k = nI (1024 * w + k) := by
  rw [show (1024 : Int32) = nI 1024 from rfl, nI_mul2, nI_add]
