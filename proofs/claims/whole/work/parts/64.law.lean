/-! law: both sides -/
theorem law_or (b : Bool) : (lawA b = 50 ∧ drfA b = 66) ∨ (lawA b = 66 ∧ drfA b = 50) := by cases b <;> simp [lawA, drfA]
theorem lawA_not (b : Bool) : lawA (!b) = drfA b := by cases b <;> rfl
theorem rr_sw (b : Bool) : uR (uR (RR b) 46 1 (some (lawA b))) 0 7 (some (drfA b)) = RR (!b) := by
  funext a k
  by_cases h0 : a = 0
  · subst h0
    by_cases h7 : k = 7
    · subst h7; cases b <;> rfl
    · have e : uR (uR (RR b) 46 1 (some (lawA b))) 0 7 (some (drfA b)) 0 k = RR b 0 k := by
        unfold uR
        rw [if_pos rfl, if_neg h7, if_neg (by decide)]
      rw [e]
      match k, h7 with
      | 0, _ => cases b <;> rfl
      | 1, _ => cases b <;> rfl
      | 2, _ => cases b <;> rfl
      | 3, _ => cases b <;> rfl
      | 4, _ => cases b <;> rfl
      | 5, _ => cases b <;> rfl
      | 6, _ => cases b <;> rfl
      | 7, h => exact absurd rfl h
      | k + 8, _ => cases b <;> rfl
  · by_cases h46 : a = 46
    · subst h46
      by_cases h1 : k = 1
      · subst h1; cases b <;> rfl
      · have e : uR (uR (RR b) 46 1 (some (lawA b))) 0 7 (some (drfA b)) 46 k = RR b 46 k := by
          unfold uR
          rw [if_neg (by decide), if_pos rfl, if_neg h1]
        rw [e]
        match k, h1 with
        | 0, _ => cases b <;> rfl
        | 1, h => exact absurd rfl h
        | k + 2, _ => cases b <;> rfl
    · have e : uR (uR (RR b) 46 1 (some (lawA b))) 0 7 (some (drfA b)) a k = RR b a k := by
        unfold uR
        rw [if_neg h0, if_neg h46]
      rw [e]
      have g : ∀ b, RR b a k = (match Nat.beq a 2 with
        | true => if k < 14 then some (4 + k) else none
        | false => match Nat.beq a 3 with
          | true => if k < 16 then some (18 + k) else none
          | false => match Nat.beq a 56 with
            | true => if k < 4 then some (57 + 2 * k) else none
            | false => rr1 (rrT b) a k) := fun b => rfl
      have g2 : ∀ b, rr1 (rrT b) a k = rr1 ((rrT b).drop 1) a k := fun b => by
        show (match Nat.beq 0 a with | true => _ | false => _) = _
        rw [beq_n (by omega)]
        rfl
      have g3 : rr1 ((rrT b).drop 1) a k = rr1 ((rrT (!b)).drop 1) a k := by
        have h5 : Nat.beq 46 a = false := beq_n (by omega)
        cases b <;> (simp only [rrT, List.drop_succ_cons, List.drop_zero, rr1]; rw [h5])
      rw [g b, g (!b), g2 b, g2 (!b), g3]
theorem c_X3_exchange (G : Gl) (d : Nat) (I : IF) (L : LF) (b : Bool) : MD G d Y_X3_exchange [.ref 46, .ref (lawA b)] (I, L, RR b) (some (.ref (drfA b))) (I, L, uR (RR b) 46 1 (some (lawA b))) := by
  refine MT.intro m_X3_exchange rfl (Nat.le_of_ble_eq_true rfl) ?_
  show WQ G d Y_X3_exchange _ 0 [(0, .ref 46), (1, .ref (lawA b))] [] (I, L, RR b)
  refine wp_aload_n rfl rfl ?_
  refine q_getr rfl rfl (by first | rfl | assumption) rfl rfl ?_
  refine wp_astore_n (lv' := [(2, _), (0, _), (1, _)]) rfl rfl (by decide) rfl ?_
  refine wp_aload_n rfl rfl ?_
  refine wp_aload_n rfl rfl ?_
  refine q_putr rfl rfl (by first | rfl | assumption) (Or.inl rfl) rfl ?_
  refine wp_aload_n rfl rfl ?_
  exact wp_aret rfl rfl (⟨rfl, rfl⟩)
theorem c_X10_law_t (G : Gl) (d : Nat) {n f0 j : Nat} {es : List RE} (hn : n ≤ 300) (I : IF) (L : LF) (b : Bool) (h : I 44 1 = nI n) (hp : prT (KK (I 45) n) f0 = some (true, j, es)) : MQ2 G (d + 31) Y_X10_law [.ref 0] (I, L, RR b) (fun r w => r = some (.int (nI es.length)) ∧ ∃ I1 J c, w = (uI (uI J 0 8 (-1)) 44 1 0, L, RR (!b)) ∧ (∀ a, a ≠ 47 → a ≠ 48 → a ≠ 49 → a ≠ drfA b → I1 a = I a) ∧ DR b I1 c j es.length es J) := by
  have hf := c_X3_faultOf G d hn I L b h hp
  have sl := sh_law (!b)
  refine MT.intro m_X10_law rfl (Nat.le_of_ble_eq_true rfl) ?_
  show WQ G (d + 31) Y_X10_law _ 0 [(0, .ref 0)] [] (I, L, RR b)
  refine wp_aload_n rfl rfl ?_
  refine wp_aload_n rfl rfl ?_
  refine q_getr rfl rfl (by first | rfl | assumption) rfl rfl ?_
  refine wp_aload_n rfl rfl ?_
  refine q_getr rfl rfl (by first | rfl | assumption) rfl rfl ?_
  refine cVr rfl l_10_210 i_X3_faultOf m_X3_faultOf (by first | rfl | assumption) (by decide) (hf) rfl (Nat.le_of_ble_eq_true rfl) (fun r5 w5 hq5 => ?_)
  obtain ⟨I1, i1, J, c, rfl, hD, -⟩ := hq5
  obtain ⟨rfl, hD2⟩ := hD rfl
  have e8 : J (lawA (!b)) 8 = nI es.length := by rw [lawA_not]; exact hD2.2.2.2.2.1
  have lo := law_or (!b)
  refine q_puti rfl rfl (by first | rfl | assumption) (Or.inl rfl) rfl ?_
  refine wp_aload_n rfl rfl ?_
  refine q_getr rfl rfl (by first | rfl | assumption) rfl rfl ?_
  refine wp_iconst (v := 0) rfl rfl ?_
  refine q_puti rfl rfl (by first | rfl | assumption) (Or.inl rfl) rfl ?_
  refine wp_aload_n rfl rfl ?_
  refine q_geti rfl rfl (by first | rfl | assumption) rfl ?_
  refine wp_iconst (v := (-1)) rfl rfl ?_
  refine wp_icmp_eq 17 rfl rfl (fun _ => ?_) (fun h14 => absurd rfl h14)
  refine wp_aload_n rfl rfl ?_
  refine wp_aload_n rfl rfl ?_
  refine q_getr rfl rfl (by first | rfl | assumption) rfl rfl ?_
  refine wp_aload_n rfl rfl ?_
  refine q_getr rfl rfl (by first | rfl | assumption) rfl rfl ?_
  refine cV1 rfl l_10_214 i_X3_exchange m_X3_exchange (by first | rfl | assumption) (by decide) (c_X3_exchange G _ _ _ _) rfl (Nat.le_of_ble_eq_true rfl) ?_
  refine q_putr rfl rfl (by first | rfl | assumption) (Or.inl rfl) rfl ?_
  rw [rr_sw b]
  refine wp_aload_n rfl rfl ?_
  refine q_getr rfl rfl (by first | rfl | assumption) rfl rfl ?_
  refine q_geti rfl rfl (by first | rfl | assumption) rfl ?_
  exact wp_iret rfl rfl (⟨by rw [show uI (uI J 0 8 (-1)) 44 1 0 (lawA (!b)) 8 = nI es.length by rw [uI_ne (by omega), uI_ne (by omega)]; exact e8], I1, J, c, rfl, i1, hD2⟩)
theorem c_X10_law_f (G : Gl) (d : Nat) {n f0 j : Nat} {es : List RE} (hn : n ≤ 300) (I : IF) (L : LF) (b : Bool) (h : I 44 1 = nI n) (hp : prT (KK (I 45) n) f0 = some (false, j, es)) : MQ2 G (d + 31) Y_X10_law [.ref 0] (I, L, RR b) (fun r w => r = some (.int (-4)) ∧ ∃ I1 J, w = (uI (uI J 0 8 (nI (ps (I 45) n j))) 44 1 0, L, RR b) ∧ (∀ a, a ≠ 47 → a ≠ 48 → a ≠ 49 → a ≠ drfA b → I1 a = I a) ∧ FR b I1 j J) := by
  have hf := c_X3_faultOf G d hn I L b h hp
  have hpb := (ps_b (T := I 45) (n := n) j).1
  have hne : ¬ nI (ps (I 45) n j) = -1 := fun z => by
    have := nI_pos' (n := ps (I 45) n j) (by omega)
    rw [z] at this
    exact absurd this (by decide)
  refine MT.intro m_X10_law rfl (Nat.le_of_ble_eq_true rfl) ?_
  show WQ G (d + 31) Y_X10_law _ 0 [(0, .ref 0)] [] (I, L, RR b)
  refine wp_aload_n rfl rfl ?_
  refine wp_aload_n rfl rfl ?_
  refine q_getr rfl rfl (by first | rfl | assumption) rfl rfl ?_
  refine wp_aload_n rfl rfl ?_
  refine q_getr rfl rfl (by first | rfl | assumption) rfl rfl ?_
  refine cVr rfl l_10_210 i_X3_faultOf m_X3_faultOf (by first | rfl | assumption) (by decide) (hf) rfl (Nat.le_of_ble_eq_true rfl) (fun r5 w5 hq5 => ?_)
  obtain ⟨I1, i1, J, c, rfl, -, hD⟩ := hq5
  obtain ⟨rfl, hD2⟩ := hD rfl
  refine q_puti rfl rfl (by first | rfl | assumption) (Or.inl rfl) rfl ?_
  refine wp_aload_n rfl rfl ?_
  refine q_getr rfl rfl (by first | rfl | assumption) rfl rfl ?_
  refine wp_iconst (v := 0) rfl rfl ?_
  refine q_puti rfl rfl (by first | rfl | assumption) (Or.inl rfl) rfl ?_
  refine wp_aload_n rfl rfl ?_
  refine q_geti rfl rfl (by first | rfl | assumption) rfl ?_
  refine wp_iconst (v := (-1)) rfl rfl ?_
  refine wp_icmp_eq 17 rfl rfl (fun h14 => absurd h14 hne) (fun _ => ?_)
  refine wp_bipush (v := (-4)) rfl rfl ?_
  exact wp_iret rfl rfl (⟨rfl, I1, J, rfl, i1, hD2⟩)
/-! the reference -/
def wrX (t : Nat) (f : Nat → Int32) (I : IF) : Nat → IF
  | 0 => I
  | n + 1 => uI (wrX t f I n) 97 (t + n) (f n)
theorem wrX_o {t : Nat} {f : Nat → Int32} {I : IF} : ∀ (n q : Nat), q ≠ 97 → wrX t f I n q = I q
  | 0, _, _ => rfl
  | n + 1, q, h => by simp only [wrX]; rw [uI_fn h]; exact wrX_o n q h
theorem wrX_a {t : Nat} {f : Nat → Int32} {I : IF} : ∀ (n j : Nat), wrX t f I n 97 j = if t ≤ j ∧ j < t + n then f (j - t) else I 97 j
  | 0, j => by rw [if_neg (by omega)]; rfl
  | n + 1, j => by
    simp only [wrX]
    by_cases e : j = t + n
    · subst e; rw [uI_eq, if_pos (by omega), Nat.add_sub_cancel_left]
    · rw [uI_nk e, wrX_a n j]
      by_cases e2 : t ≤ j ∧ j < t + n
      · rw [if_pos e2, if_pos (by omega)]
      · rw [if_neg e2, if_neg (by omega)]
def FRL (I : IF) (L : LF) (J : IF) (L2 : LF) : Prop := (∀ a, a ≠ 72 → a ≠ 97 → a ≠ 98 → J a = I a) ∧ (∀ k, k ≠ 0 → k ≠ 12 → k ≠ 36 → k ≠ 37 → (k < 42 ∨ 53 < k) → J 72 k = I 72 k) ∧ ∀ a, a ≠ 72 → L2 a = L a
theorem c_X11_law (G : Gl) (d : Nat) {T : Nat → Int32} {n f0 j : Nat} {o : Bool} {es : List RE} (hn : n ≤ 300) (I : IF) (L : LF) (b : Bool) (h : I 72 36 = nI n) (hT : ∀ k, k < n → I 96 k = T k ∧ vp_nar .byte (T k) = T k) (hp : prT (KK T n) f0 = some (o, j, es)) : MQ2 G (d + 35) Y_X11_law [.ref 72] (I, L, RR b) (fun r w => ∃ J L2, w = (J, L2, RR b) ∧ FRL I L J L2 ∧ J 72 36 = 0 ∧ (o = true → r = some (.int (nI es.length)) ∧ J 72 37 = -1 ∧ J 72 12 = nI es.length ∧ J 98 0 = nI n ∧ ∀ k, k < n → J 97 k = T k) ∧ (o = false → r = some (.int (-4)) ∧ J 72 37 = nI (ps T n j) ∧ J 72 12 = I 72 12 ∧ J 98 0 = I 98 0 ∧ ∀ k, k < 300 → J 97 k = I 97 k)) := by
  suffices H : ∀ Q : Option Value → mW → Prop, (∀ r J L2, FRL I L J L2 → J 72 36 = 0 → (o = true → r = some (.int (nI es.length)) ∧ J 72 37 = -1 ∧ J 72 12 = nI es.length ∧ J 98 0 = nI n ∧ ∀ k, k < n → J 97 k = T k) → (o = false → r = some (.int (-4)) ∧ J 72 37 = nI (ps T n j) ∧ J 72 12 = I 72 12 ∧ J 98 0 = I 98 0 ∧ ∀ k, k < 300 → J 97 k = I 97 k) → Q r (J, L2, RR b)) → MQ2 G (d + 35) Y_X11_law [.ref 72] (I, L, RR b) Q from H _ (fun r J L2 a1 a2 a3 a4 => ⟨J, L2, rfl, a1, a2, a3, a4⟩)
  intro Q hQ
  generalize hI0 : uI I 72 0 0 = I0
  have i0 : ∀ a, a ≠ 72 → I0 a = I a := fun a ha => by rw [← hI0]; exact uI_fn ha
  have i0k : ∀ k, k ≠ 0 → I0 72 k = I 72 k := fun k hk => by rw [← hI0]; exact uI_nk hk
  have e36 : ∀ m, wrX 300 T I0 m 72 36 = nI n := fun m => by rw [wrX_o m 72 (by decide), i0k 36 (by decide)]; exact h
  generalize hJ3 : uI (uI (uI (wrX 300 T I0 n) 98 1 (nI n)) 72 36 0) 72 37 (-1) = J3
  have j98 : J3 98 1 = nI n := by rw [← hJ3, uI_ne (by decide), uI_ne (by decide), uI_eq]
  have j980 : J3 98 0 = I 98 0 := by rw [← hJ3, uI_ne (by decide), uI_ne (by decide), uI_nk (by decide), wrX_o n 98 (by decide), i0 98 (by decide)]
  have j97 : ∀ k, J3 97 k = wrX 300 T I0 n 97 k := fun k => by rw [← hJ3, uI_ne (by decide), uI_ne (by decide), uI_ne (by decide)]
  have j97a : ∀ k, k < n → J3 97 (300 * 1 + k) = T k := fun k hk => by rw [j97, wrX_a, if_pos (by omega), show 300 * 1 + k - 300 = k by omega]
  have j97b : ∀ k, k < 300 → J3 97 k = I 97 k := fun k hk => by rw [j97, wrX_a, if_neg (by omega), i0 97 (by decide)]
  have j3o : ∀ a, a ≠ 72 → a ≠ 97 → a ≠ 98 → J3 a = I a := fun a a1 a2 a3 => by rw [← hJ3, uI_fn a1, uI_fn a1, uI_fn a3, wrX_o n a a2, i0 a a1]
  have j3k : ∀ k, k ≠ 0 → k ≠ 36 → k ≠ 37 → J3 72 k = I 72 k := fun k k1 k2 k3 => by rw [← hJ3, uI_nk k3, uI_nk k2, uI_ne (by decide), wrX_o n 72 (by decide), i0k k k1]
  have j36 : J3 72 36 = 0 := by rw [← hJ3, uI_nk (by decide), uI_eq]
  have j37 : J3 72 37 = -1 := by rw [← hJ3, uI_eq]
  have hrd := c_X11_reads G d (b := b) (t := 1) J3 L (by omega) hn j98 j97a hp
  have K36 : ∀ (J : IF) (L2 : LF) (x1 : Int32), VQ T n J3 L b o j es none (J, L2, RR b) → WQ G (d + 35) Y_X11_law Q 36 [(0, .ref 72), (1, .int x1)] [] (J, L2, RR b) := by
    intro J L2 x1 hv
    obtain ⟨-, J', L2', hw, ⟨f1, f2, f3⟩, ht, hf⟩ := hv
    cases hw
    have q36 : J 72 36 = 0 := by rw [f2 36 (by decide) (by omega)]; exact j36
    cases o with
    | false =>
      obtain ⟨b1, b2⟩ := hf rfl
      have n52 : ¬ J 72 52 = 0 := by rw [b1]; decide
      refine wp_aload_n rfl rfl ?_
      refine q_geti rfl rfl (by first | rfl | assumption) rfl ?_
      refine wp_if_eq 41 rfl rfl (fun h38 => absurd h38 n52) (fun _ => ?_)
      refine wp_bipush (v := (-4)) rfl rfl ?_
      exact wp_iret rfl rfl (hQ _ J L2 ⟨fun a a1 a2 a3 => by rw [f1 a a1]; exact j3o a a1 a2 a3, fun k k1 k2 k3 k4 k5 => by rw [f2 k k4 k5]; exact j3k k k1 k3 k4, f3⟩ q36 nofun (fun _ => ⟨rfl, b2, by rw [f2 12 (by decide) (by omega)]; exact j3k 12 (by decide) (by decide) (by decide), by rw [f1 98 (by decide)]; exact j980, fun k hk => by rw [f1 97 (by decide)]; exact j97b k hk⟩))
    | true =>
      obtain ⟨b1, b2, b3, b4, b5⟩ := ht rfl
      have g98 : ∀ m, wrX 0 T J m 98 1 = nI n := fun m => by rw [wrX_o m 98 (by decide), f1 98 (by decide)]; exact j98
      have g97 : ∀ m k, m ≤ 300 → k < n → wrX 0 T J m 97 (300 + k) = T k := fun m k hm hk => by
        rw [wrX_a, if_neg (by omega), f1 97 (by decide)]
        exact j97a k hk
      have g48 : ∀ m, wrX 0 T J m 72 48 = nI es.length := fun m => by rw [wrX_o m 72 (by decide)]; exact b3
      have loop : ∀ (p k : Nat), k + p = n → WQ G (d + 35) Y_X11_law Q 43 [(0, .ref 72), (1, .int (nI k))] [] (wrX 0 T J k, L2, RR b) := by
        intro p
        induction p with
        | zero =>
          intro k hk
          have hkn : k = n := by omega
          subst hkn
          have hge : wrX 0 T J k 98 1 ≤ nI k := by rw [g98]; exact nI_le (Nat.le_refl _) (by omega)
          have e48 : uI (wrX 0 T J k) 98 0 (nI k) 72 48 = nI es.length := by rw [uI_ne (by decide)]; exact g48 k
          refine wp_iload_n rfl rfl ?_
          refine wp_aload_n rfl rfl ?_
          refine q_getr rfl rfl (by first | rfl | assumption) rfl rfl ?_
          refine wp_iconst (v := 1) rfl rfl ?_
          refine q_iald rfl (by first | rfl | assumption) (vp_in_nI (n := 1) (N := 2) (by omega) (by omega)) ?_
          refine wp_icmp_ge 61 rfl rfl (fun _ => ?_) (fun h48 => absurd hge h48)
          refine wp_aload_n rfl rfl ?_
          refine q_getr rfl rfl (by first | rfl | assumption) rfl rfl ?_
          refine wp_iconst (v := 0) rfl rfl ?_
          refine wp_aload_n rfl rfl ?_
          refine q_getr rfl rfl (by first | rfl | assumption) rfl rfl ?_
          refine wp_iconst (v := 1) rfl rfl ?_
          refine q_iald rfl (by first | rfl | assumption) (vp_in_nI (n := 1) (N := 2) (by omega) (by omega)) ?_
          rw [show (1 : Int32).toNatClampNeg = 1 from rfl, g98]
          refine q_iast rfl (by first | rfl | assumption) (vp_in_nI (n := 0) (N := 2) (by omega) (by omega)) ?_
          rw [show (0 : Int32).toNatClampNeg = 0 from rfl]
          refine wp_aload_n rfl rfl ?_
          refine wp_aload_n rfl rfl ?_
          refine q_geti rfl rfl (by first | rfl | assumption) rfl ?_
          rw [e48]
          refine q_puti rfl rfl (by first | rfl | assumption) (Or.inl rfl) rfl ?_
          refine wp_aload_n rfl rfl ?_
          refine q_geti rfl rfl (by first | rfl | assumption) rfl ?_
          exact wp_iret rfl rfl (hQ _ _ L2 ⟨fun a a1 a2 a3 => by rw [uI_fn a1, uI_fn a3, wrX_o k a a2, f1 a a1]; exact j3o a a1 a2 a3, fun q k1 k2 k3 k4 k5 => by rw [uI_nk k2, uI_ne (by decide), wrX_o k 72 (by decide), f2 q k4 k5]; exact j3k q k1 k3 k4, f3⟩ (by rw [uI_nk (by decide), uI_ne (by decide), wrX_o k 72 (by decide)]; exact q36) (fun _ => ⟨by rw [uI_eq], by rw [uI_nk (by decide), uI_ne (by decide), wrX_o k 72 (by decide), b2]; exact j37, uI_eq, by rw [uI_ne (by decide), uI_eq], fun q hq => by rw [uI_ne (by decide), uI_ne (by decide), wrX_a, if_pos (by omega), Nat.sub_zero]⟩) nofun)
        | succ p ih =>
          intro k hk
          have hlt : ¬ wrX 0 T J k 98 1 ≤ nI k := by rw [g98]; exact nI_ge (by omega) (by omega)
          have e300 : (300 : Int32) + nI k = nI (300 + k) := nI_add 300 k
          have hin1 : vp_in ((300 : Int32) + nI k) 600 := by rw [e300]; exact vp_in_nI (by omega) (by omega)
          have hin2 : vp_in (nI k) 600 := vp_in_nI (by omega) (by omega)
          have hg := ih (k + 1) (by omega)
          have ew : wrX 0 T J (k + 1) = uI (wrX 0 T J k) 97 k (T k) := by simp only [wrX]; rw [Nat.zero_add]
          rw [ew] at hg
          refine wp_iload_n rfl rfl ?_
          refine wp_aload_n rfl rfl ?_
          refine q_getr rfl rfl (by first | rfl | assumption) rfl rfl ?_
          refine wp_iconst (v := 1) rfl rfl ?_
          refine q_iald rfl (by first | rfl | assumption) (vp_in_nI (n := 1) (N := 2) (by omega) (by omega)) ?_
          refine wp_icmp_ge 61 rfl rfl (fun h48 => absurd h48 hlt) (fun _ => ?_)
          refine wp_aload_n rfl rfl ?_
          refine q_getr rfl rfl (by first | rfl | assumption) rfl rfl ?_
          refine wp_iload_n rfl rfl ?_
          refine wp_aload_n rfl rfl ?_
          refine q_getr rfl rfl (by first | rfl | assumption) rfl rfl ?_
          refine wp_sipush (v := 300) rfl rfl ?_
          refine wp_iload_n rfl rfl ?_
          refine wp_iadd rfl ?_
          refine q_bald rfl (by first | rfl | assumption) hin1 ?_
          rw [e300, nI_clamp (by omega), g97 k k (by omega) (by omega)]
          refine q_bast rfl (by first | rfl | assumption) hin2 ?_
          rw [(hT k (by omega)).2, nI_clamp (by omega)]
          refine wp_iinc (v := nI (k + 1)) (lv' := [(1, _), (0, _)]) rfl rfl (nI_1 k) (by decide) rfl ?_
          refine wp_goto 43 rfl rfl ?_
          refine wp_loc (lv' := [(0, _), (1, _)]) [1, 0] rfl ?_
          exact hg
      refine wp_aload_n rfl rfl ?_
      refine q_geti rfl rfl (by first | rfl | assumption) rfl ?_
      refine wp_if_eq 41 rfl rfl (fun _ => ?_) (fun h38 => absurd b1 h38)
      refine wp_iconst (v := 0) rfl rfl ?_
      refine wp_istore_n (lv' := [(1, _), (0, _)]) rfl rfl (by decide) rfl ?_
      refine wp_loc (lv' := [(0, _), (1, _)]) [1, 0] rfl ?_
      exact loop n 0 (by omega)
  have loop : ∀ (p k : Nat), k + p = n → WQ G (d + 35) Y_X11_law Q 5 [(0, .ref 72), (1, .int (nI k))] [] (wrX 300 T I0 k, L, RR b) := by
    intro p
    induction p with
    | zero =>
      intro k hk
      have hkn : k = n := by omega
      subst hkn
      have hge : wrX 300 T I0 k 72 36 ≤ nI k := by rw [e36]; exact nI_le (Nat.le_refl _) (by omega)
      refine wp_iload_n rfl rfl ?_
      refine wp_aload_n rfl rfl ?_
      refine q_geti rfl rfl (by first | rfl | assumption) rfl ?_
      refine wp_icmp_ge 21 rfl rfl (fun _ => ?_) (fun h8 => absurd hge h8)
      refine wp_aload_n rfl rfl ?_
      refine q_getr rfl rfl (by first | rfl | assumption) rfl rfl ?_
      refine wp_iconst (v := 1) rfl rfl ?_
      refine wp_aload_n rfl rfl ?_
      refine q_geti rfl rfl (by first | rfl | assumption) rfl ?_
      rw [e36]
      refine q_iast rfl (by first | rfl | assumption) (vp_in_nI (n := 1) (N := 2) (by omega) (by omega)) ?_
      rw [show (1 : Int32).toNatClampNeg = 1 from rfl]
      refine wp_aload_n rfl rfl ?_
      refine wp_iconst (v := 0) rfl rfl ?_
      refine q_puti rfl rfl (by first | rfl | assumption) (Or.inl rfl) rfl ?_
      refine wp_aload_n rfl rfl ?_
      refine wp_iconst (v := (-1)) rfl rfl ?_
      refine q_puti rfl rfl (by first | rfl | assumption) (Or.inl rfl) rfl ?_
      rw [show uI (uI (uI (wrX 300 T I0 k) 98 1 (nI k)) 72 36 0) 72 37 (-1) = J3 from hJ3]
      refine wp_aload_n rfl rfl ?_
      refine wp_iconst (v := 1) rfl rfl ?_
      refine cVr rfl l_11_325 i_X11_reads m_X11_reads (by first | rfl | assumption) (by decide) (hrd) rfl (Nat.le_of_ble_eq_true rfl) (fun r35 w35 hq35 => ?_)
      obtain ⟨rfl, J, L2, rfl, hz⟩ := hq35
      exact K36 J L2 _ ⟨rfl, J, L2, rfl, hz⟩
    | succ p ih =>
      intro k hk
      have hlt : ¬ wrX 300 T I0 k 72 36 ≤ nI k := by rw [e36]; exact nI_ge (by omega) (by omega)
      have e300 : (300 : Int32) + nI k = nI (300 + k) := nI_add 300 k
      have hin1 : vp_in ((300 : Int32) + nI k) 600 := by rw [e300]; exact vp_in_nI (by omega) (by omega)
      have hin2 : vp_in (nI k) 300 := vp_in_nI (by omega) (by omega)
      have hg := ih (k + 1) (by omega)
      have e96 : wrX 300 T I0 k 96 k = T k := by rw [wrX_o k 96 (by decide), i0 96 (by decide)]; exact (hT k (by omega)).1
      refine wp_iload_n rfl rfl ?_
      refine wp_aload_n rfl rfl ?_
      refine q_geti rfl rfl (by first | rfl | assumption) rfl ?_
      refine wp_icmp_ge 21 rfl rfl (fun h8 => absurd h8 hlt) (fun _ => ?_)
      refine wp_aload_n rfl rfl ?_
      refine q_getr rfl rfl (by first | rfl | assumption) rfl rfl ?_
      refine wp_sipush (v := 300) rfl rfl ?_
      refine wp_iload_n rfl rfl ?_
      refine wp_iadd rfl ?_
      refine wp_aload_n rfl rfl ?_
      refine q_getr rfl rfl (by first | rfl | assumption) rfl rfl ?_
      refine wp_iload_n rfl rfl ?_
      refine q_bald rfl (by first | rfl | assumption) hin2 ?_
      rw [nI_clamp (by omega), e96]
      refine q_bast rfl (by first | rfl | assumption) hin1 ?_
      rw [(hT k (by omega)).2, e300, nI_clamp (by omega)]
      refine wp_iinc (v := nI (k + 1)) (lv' := [(1, _), (0, _)]) rfl rfl (nI_1 k) (by decide) rfl ?_
      refine wp_goto 5 rfl rfl ?_
      refine wp_loc (lv' := [(0, _), (1, _)]) [1, 0] rfl ?_
      exact hg
  refine MT.intro m_X11_law rfl (Nat.le_of_ble_eq_true rfl) ?_
  show WQ G (d + 35) Y_X11_law Q 0 [(0, .ref 72)] [] (I, L, RR b)
  refine wp_aload_n rfl rfl ?_
  refine wp_iconst (v := 0) rfl rfl ?_
  refine q_puti rfl rfl (by first | rfl | assumption) (Or.inl rfl) rfl ?_
  rw [hI0]
  refine wp_iconst (v := 0) rfl rfl ?_
  refine wp_istore_n (lv' := [(1, _), (0, _)]) rfl rfl (by decide) rfl ?_
  refine wp_loc (lv' := [(0, _), (1, _)]) [1, 0] rfl ?_
  exact loop n 0 (by omega)
