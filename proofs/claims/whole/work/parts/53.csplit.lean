/-! a text split into its tokens -/
theorem dgt_ok {c : Int32} (h : isDg c = true) : c - 48 = nI (dgt c) ∧ dgt c ≤ 9 := by
  unfold isDg at h
  rw [decide_eq_true_eq] at h
  obtain ⟨m, m1, m2⟩ := nI_get (x := c - 48) (n := 10) (by grind) (by show c - 48 < 10; grind) (by omega)
  have : dgt c = m := by unfold dgt; rw [m2]; exact nI_clamp (by omega)
  rw [this]
  exact ⟨m2, by omega⟩
theorem dgt_st {c : Int32} {a : Nat} (h : isDg c = true) : nI a * 10 + c - 48 = nI (10 * a + dgt c) := by
  rw [show nI a * 10 + c - 48 = nI a * 10 + (c - 48) by grind, (dgt_ok h).1, show (10 : Int32) = nI 10 from rfl, pk_mul, nI_add, Nat.mul_comm]
theorem mil_le {a : Nat} : mil a ≤ 1000000 := by unfold mil; split <;> omega
theorem c_X8_numberOf (G : Gl) (d : Nat) {n i e : Nat} (hn : n ≤ 300) (hie : i ≤ e) (hen : e ≤ n) (I : IF) (L : LF) (b : Bool) (h : I 44 1 = nI n) (hdg : ∀ k, i ≤ k → k < e → isDg (I 45 k) = true) : MD G (d + 1) Y_X8_numberOf [.ref 44, .int (nI i), .int (nI e)] (I, L, RR b) (some (.int (if 999999 < nvl (I 45) (e - i) i 0 then -101 else nI (nvl (I 45) (e - i) i 0)))) (I, L, RR b) := by
  generalize hR : (if 999999 < nvl (I 45) (e - i) i 0 then (-101 : Int32) else nI (nvl (I 45) (e - i) i 0)) = res
  have loop : ∀ (p k a : Nat), k + p = e → i ≤ k → a ≤ 1000000 → nvl (I 45) p k a = nvl (I 45) (e - i) i 0 → WQ G (d + 1) Y_X8_numberOf (fun r' w'' => r' = some (.int res) ∧ w'' = (I, L, RR b)) 4 [(0, .ref 44), (1, .int (nI i)), (2, .int (nI e)), (3, .int (nI a)), (4, .int (nI k))] [] (I, L, RR b) := by
    intro p
    induction p with
    | zero =>
      intro k a hk hik ha hv
      have hge : nI e ≤ nI k := nI_le (by omega) (by omega)
      have hv2 : a = nvl (I 45) (e - i) i 0 := hv
      have hc : nI a ≤ 999999 ↔ a ≤ 999999 := nI_leI (b := 999999) (by omega) (by omega)
      refine wp_iload rfl rfl ?_
      refine wp_iload_n rfl rfl ?_
      refine wp_icmp_ge 21 rfl rfl (fun _ => ?_) (fun h6 => absurd hge h6)
      refine wp_iload_n rfl rfl ?_
      refine wp_ldc (v := (999999)) rfl ci_8_60 ?_
      refine wp_icmp_le 26 rfl rfl (fun h23 => ?_) (fun h23 => ?_)
      · refine wp_iload_n rfl rfl ?_
        exact wp_iret rfl rfl (⟨by rw [← hR, ← hv2]; first | rw [if_pos (by have := mt hc.mpr h23; omega)] | rw [if_neg (by have := hc.mp h23; omega)], rfl⟩)
      · refine wp_bipush (v := (-101)) rfl rfl ?_
        refine wp_goto 27 rfl rfl ?_
        exact wp_iret rfl rfl (⟨by rw [← hR, ← hv2]; first | rw [if_pos (by have := mt hc.mpr h23; omega)] | rw [if_neg (by have := hc.mp h23; omega)], rfl⟩)
    | succ p ih =>
      intro k a hk hik ha hv
      have hlt : ¬ nI e ≤ nI k := nI_ge (by omega) (by omega)
      have hat := c_X7_at G d (n := n) (i := k) (x := nI k) rfl hn (by omega) I L b h
      rw [if_pos (by omega)] at hat
      have hdk := hdg k hik (by omega)
      have hst := dgt_st (a := a) hdk
      have hd9 := (dgt_ok hdk).2
      have hmin : (if (1000000 : Int32) < nI (10 * a + dgt (I 45 k)) then (1000000 : Int32) else nI (10 * a + dgt (I 45 k))) = nI (mil (10 * a + dgt (I 45 k))) := by
        have := nI_ltI (a := 1000000) (b := 10 * a + dgt (I 45 k)) (by omega) (by omega)
        have this : (1000000 : Int32) < nI (10 * a + dgt (I 45 k)) ↔ 1000000 < 10 * a + dgt (I 45 k) := this
        unfold mil
        by_cases q : 1000000 < 10 * a + dgt (I 45 k)
        · rw [if_pos (this.mpr q), if_pos q]; rfl
        · rw [if_neg (mt this.mp q), if_neg q]
      refine wp_iload rfl rfl ?_
      refine wp_iload_n rfl rfl ?_
      refine wp_icmp_ge 21 rfl rfl (fun h6 => absurd h6 hlt) (fun _ => ?_)
      refine wp_iload_n rfl rfl ?_
      refine wp_bipush (v := 10) rfl rfl ?_
      refine wp_imul rfl ?_
      refine wp_aload_n rfl rfl ?_
      refine wp_iload rfl rfl ?_
      refine cV1 rfl l_8_33 i_X7_at m_X7_at (by first | rfl | assumption) (by decide) (hat) rfl (Nat.le_of_ble_eq_true rfl) ?_
      refine wp_iadd rfl ?_
      refine wp_bipush (v := 48) rfl rfl ?_
      refine wp_isub rfl ?_
      rw [hst]
      refine wp_ldc (v := (1000000)) rfl ci_8_53 ?_
      refine q_mmin rfl l_8_54 (Nat.le_of_ble_eq_true rfl) ?_
      rw [hmin]
      refine wp_istore_n (lv' := [(3, _), (0, _), (1, _), (2, _), (4, _)]) rfl rfl (by decide) rfl ?_
      refine wp_iinc (v := nI (k + 1)) (lv' := [(4, _), (3, _), (0, _), (1, _), (2, _)]) rfl rfl (nI_1 k) (by decide) rfl ?_
      refine wp_goto 4 rfl rfl ?_
      refine wp_loc (lv' := [(0, _), (1, _), (2, _), (3, _), (4, _)]) [2, 3, 4, 1, 0] rfl ?_
      exact ih (k + 1) _ (by omega) (by omega) mil_le hv
  refine MT.intro m_X8_numberOf rfl (Nat.le_of_ble_eq_true rfl) ?_
  show WQ G (d + 1) Y_X8_numberOf _ 0 [(0, .ref 44), (1, .int (nI i)), (2, .int (nI e))] [] (I, L, RR b)
  refine wp_iconst (v := 0) rfl rfl ?_
  refine wp_istore_n (lv' := [(3, _), (0, _), (1, _), (2, _)]) rfl rfl (by decide) rfl ?_
  refine wp_iload_n rfl rfl ?_
  refine wp_istore (lv' := [(4, _), (3, _), (0, _), (1, _), (2, _)]) rfl (by decide) rfl ?_
  refine wp_loc (lv' := [(0, _), (1, _), (2, _), (3, _), (4, _)]) [2, 3, 4, 1, 0] rfl ?_
  exact loop (e - i) i 0 (by omega) (by omega) (by omega) rfl
theorem c_X8_kindOfText (G : Gl) (d : Nat) {n i e : Nat} (hn : n ≤ 300) (hi : i < n) (hie : i ≤ e) (hen : e ≤ n) (I : IF) (L : LF) (b : Bool) (h : I 44 1 = nI n) : MD G (d + 6) Y_X8_kindOfText [.ref 44, .int (nI i), .int (nI e)] (I, L, RR b) (some (.int (if isLt (I 45 i) = true then wky (I 45) i e else if isSg (I 45 i) = true then -(I 45 i) else -101))) (I, L, RR b) := by
  have hat : ∀ d', MD G d' Y_X7_at [.ref 44, .int (nI i)] (I, L, RR b) (some (.int (I 45 i))) (I, L, RR b) := fun d' => by
    have := c_X7_at G d' (n := n) (i := i) (x := nI i) rfl hn (by omega) I L b h
    rw [if_pos hi] at this
    exact this
  have hfr := fr_wky (I 45) i e
  refine MT.intro m_X8_kindOfText rfl (Nat.le_of_ble_eq_true rfl) ?_
  show WQ G (d + 6) Y_X8_kindOfText _ 0 [(0, .ref 44), (1, .int (nI i)), (2, .int (nI e))] [] (I, L, RR b)
  refine wp_aload_n rfl rfl ?_
  refine wp_iload_n rfl rfl ?_
  refine cV1 rfl l_8_33 i_X7_at m_X7_at (by first | rfl | assumption) (by decide) (hat _) rfl (Nat.le_of_ble_eq_true rfl) ?_
  refine cS1 rfl l_8_40 s_X8_isLetter m_X8_isLetter (c_X8_isLetter G _ _ _) rfl (Nat.le_of_ble_eq_true rfl) ?_
  refine wp_if_eq 20 rfl rfl (fun h4 => ?_) (fun h4 => ?_)
  · refine wp_aload_n rfl rfl ?_
    refine wp_iload_n rfl rfl ?_
    refine cV1 rfl l_8_33 i_X7_at m_X7_at (by first | rfl | assumption) (by decide) (hat _) rfl (Nat.le_of_ble_eq_true rfl) ?_
    refine cS1 rfl l_8_67 s_X8_isSign m_X8_isSign (c_X8_isSign G _ _ _) rfl (Nat.le_of_ble_eq_true rfl) ?_
    refine wp_if_eq 30 rfl rfl (fun h24 => ?_) (fun h24 => ?_)
    · refine wp_bipush (v := (-101)) rfl rfl ?_
      exact wp_iret rfl rfl (⟨by simp only [b2_ne, b2_eq] at *; simp_all, rfl⟩)
    · refine wp_aload_n rfl rfl ?_
      refine wp_iload_n rfl rfl ?_
      refine cV1 rfl l_8_33 i_X7_at m_X7_at (by first | rfl | assumption) (by decide) (hat _) rfl (Nat.le_of_ble_eq_true rfl) ?_
      refine wp_ineg rfl ?_
      refine wp_goto 31 rfl rfl ?_
      exact wp_iret rfl rfl (⟨by simp only [b2_ne, b2_eq] at *; simp_all, rfl⟩)
  · refine wp_aload_n rfl rfl ?_
    refine wp_iload_n rfl rfl ?_
    refine wp_iload_n rfl rfl ?_
    refine cS1 rfl l_8_61 s_X8_kindOfFact m_X8_kindOfFact (c_X8_kindOfFact G d hn hie hen I L b h) rfl (Nat.le_of_ble_eq_true rfl) ?_
    refine wp_istore_n (lv' := [(3, _), (0, _), (1, _), (2, _)]) rfl rfl (by decide) rfl ?_
    refine wp_iload_n rfl rfl ?_
    refine wp_bipush (v := (-101)) rfl rfl ?_
    refine wp_icmp_ne 18 rfl rfl (fun h12 => ?_) (fun h12 => ?_)
    · refine wp_iload_n rfl rfl ?_
      exact wp_iret rfl rfl (⟨by simp only [b2_ne, b2_eq] at *; simp_all, rfl⟩)
    · refine wp_aload_n rfl rfl ?_
      refine wp_iload_n rfl rfl ?_
      refine wp_iload_n rfl rfl ?_
      refine cS1 rfl l_8_64 s_X8_kindOfRuleWord m_X8_kindOfRuleWord (c_X8_kindOfRuleWord G d hn hie hen I L b h) rfl (Nat.le_of_ble_eq_true rfl) ?_
      refine wp_goto 19 rfl rfl ?_
      exact wp_iret rfl rfl (⟨by simp only [b2_ne, b2_eq] at *; simp_all, rfl⟩)
def tv (T : Nat → Int32) (n : Nat) (f : Int32) (u : Nat) : Nat := if isLt f = true then rE T n isLt u else if isDg f = true then rE T n isDg u else u
theorem lt_dg {f : Int32} (h : isLt f = true) : ¬ isDg f = true := by
  unfold isLt at h
  unfold isDg
  rw [decide_eq_true_eq] at *
  grind
theorem tv_stop {T : Nat → Int32} {n u : Nat} {f : Int32} (h : ¬ (u < n ∧ (isLt f = true ∧ isLt (T u) = true ∨ isDg f = true ∧ isDg (T u) = true))) : tv T n f u = u := by
  unfold tv
  split
  · next h1 => exact rE_f (fun z => h ⟨z.1, Or.inl ⟨h1, z.2⟩⟩)
  · split
    · next h1 => exact rE_f (fun z => h ⟨z.1, Or.inr ⟨h1, z.2⟩⟩)
    · rfl
theorem tv_go {T : Nat → Int32} {n u : Nat} {f : Int32} (h0 : u < n) (h : isLt f = true ∧ isLt (T u) = true ∨ isDg f = true ∧ isDg (T u) = true) : tv T n f (u + 1) = tv T n f u := by
  unfold tv
  rcases h with ⟨h1, h2⟩ | ⟨h1, h2⟩
  · rw [if_pos h1, if_pos h1, rE_t h0 h2]
  · have h3 : ¬ isLt f = true := fun z => lt_dg z h1
    rw [if_neg h3, if_neg h3, if_pos h1, if_pos h1, rE_t h0 h2]
theorem te_tv (T : Nat → Int32) (n i : Nat) : te T n i = tv T n (T i) (i + 1) := rfl
theorem sk_t {T : Nat → Int32} {n q : Nat} (h : q < n) (hb : isBl (T q) = true) : sk T n (q + 1) = sk T n q := (rE_t h hb).symm
theorem sk_f {T : Nat → Int32} {n q : Nat} (h : ¬ (q < n ∧ isBl (T q) = true)) : sk T n q = q := rE_f h
theorem te_dg {T : Nat → Int32} {n i : Nat} (h : i < n) (hd : isDg (T i) = true) : ∀ k, i ≤ k → k < te T n i → isDg (T k) = true := by
  intro k h1 h2
  by_cases e : k = i
  · rw [e]; exact hd
  · have h3 : ¬ isLt (T i) = true := fun z => lt_dg z hd
    unfold te at h2
    rw [if_neg h3, if_pos hd] at h2
    exact rE_all n (i + 1) (by omega) k (by omega) h2
theorem knd_d {T : Nat → Int32} {n i : Nat} (hd : isDg (T i) = true) : knd T n i = (if 999999 < nvl T (te T n i - i) i 0 then -101 else nI (nvl T (te T n i - i) i 0)) := by unfold knd; rw [if_pos hd]
theorem knd_t {T : Nat → Int32} {n i : Nat} (hd : ¬ isDg (T i) = true) : knd T n i = (if isLt (T i) = true then wky T i (te T n i) else if isSg (T i) = true then -(T i) else -101) := by unfold knd; rw [if_neg hd]
def SPL (T : Nat → Int32) (n c : Nat) (I J : IF) : Prop := (∀ a, a ≠ 47 → a ≠ 48 → a ≠ 49 → J a = I a) ∧ J 47 2 = nI c ∧ J 47 3 = 0 ∧ J 47 4 = nI n ∧ ∀ k, k < c → J 48 k = KK T n k ∧ J 49 k = nI (ps T n k)
theorem SPL_new {T : Nat → Int32} {n c q : Nat} {I J : IF} (h : SPL T n c I J) (hq : ps T n c = q) (hn : q < n) : SPL T n (c + 1) I (uI (uI (uI J 48 c (knd T n q)) 49 c (nI q)) 47 2 (nI (c + 1))) := by
  obtain ⟨s1, s2, s3, s4, s5⟩ := h
  refine ⟨fun a h1 h2 h3 => ?_, uI_eq, ?_, ?_, fun k hk => ?_⟩
  · rw [uI_fn h1, uI_fn h3, uI_fn h2]; exact s1 a h1 h2 h3
  · rw [uI_nk (by decide), uI_ne (by decide), uI_ne (by decide)]; exact s3
  · rw [uI_nk (by decide), uI_ne (by decide), uI_ne (by decide)]; exact s4
  · by_cases e : k = c
    · subst e
      rw [uI_ne (by decide), uI_ne (by decide), uI_eq, uI_ne (by decide), uI_eq, hq]
      refine ⟨?_, rfl⟩
      unfold KK
      rw [hq, if_pos hn]
    · rw [uI_ne (by decide), uI_ne (by decide), uI_nk e, uI_ne (by decide), uI_nk e, uI_ne (by decide)]
      exact s5 k (by omega)
theorem c_X8_split (G : Gl) (d : Nat) {n : Nat} (hn : n ≤ 300) (I : IF) (L : LF) (b : Bool) (h : I 44 1 = nI n) : MQ2 G (d + 7) Y_X8_split [.ref 47, .ref 44] (I, L, RR b) (fun r w => r = none ∧ ∃ (c : Nat) (J : IF), w = (J, L, RR b) ∧ c ≤ 300 ∧ ps (I 45) n c = n ∧ SPL (I 45) n c I J) := by
  generalize hT : I 45 = T
  suffices H : ∀ Q : Option Value → mW → Prop, (∀ (c : Nat) (J : IF), c ≤ 300 → ps T n c = n → SPL T n c I J → Q none (J, L, RR b)) → MQ2 G (d + 7) Y_X8_split [.ref 47, .ref 44] (I, L, RR b) Q from H _ (fun c J a1 a2 a3 => ⟨rfl, c, J, rfl, a1, a2, a3⟩)
  intro Q hQ
  have loop : ∀ (p q c : Nat) (J : IF) (x2 : Int32), q + p = n → c ≤ q → sk T n q = ps T n c → SPL T n c I J → WQ G (d + 7) Y_X8_split Q 14 [(0, .ref 47), (1, .ref 44), (2, .int x2), (3, .int (nI q))] [] (J, L, RR b) := by
    intro p
    induction p using Nat.strongRecOn with
    | ind p ih =>
      intro q c J x2 hp hcq hps hS
      obtain ⟨s1, s2, s3, s4, s5⟩ := id hS
      by_cases hqn : q < n
      · have hT2 : J 45 = T := by rw [s1 45 (by decide) (by decide) (by decide)]; exact hT
        have h44 : J 44 1 = nI n := by rw [s1 44 (by decide) (by decide) (by decide)]; exact h
        have hat : ∀ u d', u < n → MD G d' Y_X7_at [.ref 44, .int (nI u)] (J, L, RR b) (some (.int (T u))) (J, L, RR b) := fun u d' hu => by
          have := c_X7_at G d' (n := n) (i := u) (x := nI u) rfl hn (by omega) J L b h44
          rw [if_pos hu, hT2] at this
          exact this
        have f17 : ¬ J 47 4 ≤ nI q := by rw [s4]; exact nI_ge hqn (by omega)
        have f23 : ¬ (300 : Int32) ≤ J 47 2 := by rw [s2]; exact nI_ge (b := 300) (by omega) (by omega)
        have hin : vp_in (J 47 2) 300 := by rw [s2]; exact vp_in_nI (by omega) (by omega)
        have hcl : (J 47 2).toNatClampNeg = c := by rw [s2]; exact nI_clamp (by omega)
        by_cases hbl : isBl (T q) = true
        · refine wp_iload_n rfl rfl ?_
          refine wp_aload_n rfl rfl ?_
          refine q_geti rfl rfl (by first | rfl | assumption) rfl ?_
          refine wp_icmp_ge 90 rfl rfl (fun h17 => absurd h17 f17) (fun _ => ?_)
          refine wp_aload_n rfl rfl ?_
          refine q_geti rfl rfl (by first | rfl | assumption) rfl ?_
          refine wp_aload_n rfl rfl ?_
          refine q_getr rfl rfl (by first | rfl | assumption) rfl rfl ?_
          refine wp_alen rfl rfl (by decide) rfl ?_
          refine wp_icmp_ge 90 rfl rfl (fun h23 => absurd h23 f23) (fun _ => ?_)
          refine wp_aload_n rfl rfl ?_
          refine wp_iload_n rfl rfl ?_
          refine cV1 rfl l_8_33 i_X7_at m_X7_at (by first | rfl | assumption) (by decide) (hat q _ hqn) rfl (Nat.le_of_ble_eq_true rfl) ?_
          refine wp_istore (lv' := [(4, _), (0, _), (1, _), (2, _), (3, _)]) rfl (by decide) rfl ?_
          refine wp_iload_n rfl rfl ?_
          refine wp_iconst (v := 1) rfl rfl ?_
          refine wp_iadd rfl ?_
          rw [nI_1]
          refine wp_istore_n (lv' := [(2, _), (4, _), (0, _), (1, _), (3, _)]) rfl rfl (by decide) rfl ?_
          refine wp_iload rfl rfl ?_
          refine cS1 rfl l_8_36 s_X8_isBlank m_X8_isBlank (c_X8_isBlank G _ _ _) rfl (Nat.le_of_ble_eq_true rfl) ?_
          refine wp_if_eq 36 rfl rfl (fun h34 => ?_) (fun h34 => ?_)
          · refine wp_loc (lv' := [(0, _), (1, _), (2, _), (3, _), (4, _)]) [2, 3, 0, 4, 1] rfl ?_
            exact absurd hbl (b2_eq.mp h34)
          · refine wp_goto 87 rfl rfl ?_
            refine wp_iload_n rfl rfl ?_
            refine wp_istore_n (lv' := [(3, _), (2, _), (4, _), (0, _), (1, _)]) rfl rfl (by decide) rfl ?_
            refine wp_goto 14 rfl rfl ?_
            refine wp_loc (lv' := [(0, _), (1, _), (2, _), (3, _)]) [3, 4, 1, 0] rfl ?_
            exact ih (n - (q + 1)) (by omega) (q + 1) c J _ (by omega) (by omega) (by rw [sk_t hqn hbl]; exact hps) hS
        · have hskq : sk T n q = q := sk_f (fun z => hbl z.2)
          have hq : ps T n c = q := by rw [← hps]; exact hskq
          obtain ⟨te1, te2⟩ := te_b (T := T) hqn
          have K58 : WQ G (d + 7) Y_X8_split Q 58 [(0, .ref 47), (1, .ref 44), (2, .int (nI (te T n q))), (3, .int (nI q)), (4, .int (T q))] [] (J, L, RR b) := by
            have e2 : ∀ x v, uI J 48 x v 47 2 = nI c := fun x v => by rw [uI_ne (by decide)]; exact s2
            have e3 : ∀ x v y u, uI (uI J 48 x v) 49 y u 47 2 = nI c := fun x v y u => by rw [uI_ne (by decide), uI_ne (by decide)]; exact s2
            have fin : SPL T n (c + 1) I (uI (uI (uI J 48 c (knd T n q)) 49 c (nI q)) 47 2 (nI (c + 1))) := SPL_new hS hq hqn
            have nxt : ∀ x2, WQ G (d + 7) Y_X8_split Q 14 [(0, .ref 47), (1, .ref 44), (2, .int x2), (3, .int (nI (te T n q)))] [] (uI (uI (uI J 48 c (knd T n q)) 49 c (nI q)) 47 2 (nI (c + 1)), L, RR b) := fun x2 => ih (n - te T n q) (by omega) (te T n q) (c + 1) _ x2 (by omega) (by omega) (by simp only [ps]; rw [hq, if_pos hqn]) fin
            by_cases hdg : isDg (T q) = true
            · have hnum := c_X8_numberOf G (d + 5) hn (Nat.le_of_lt te1) te2 J L b h44 (by rw [hT2]; exact te_dg hqn hdg)
              rw [hT2, ← knd_d hdg] at hnum
              refine wp_aload_n rfl rfl ?_
              refine q_getr rfl rfl (by first | rfl | assumption) rfl rfl ?_
              refine wp_aload_n rfl rfl ?_
              refine q_geti rfl rfl (by first | rfl | assumption) rfl ?_
              refine wp_iload rfl rfl ?_
              refine cS1 rfl l_8_43 s_X8_isDigit m_X8_isDigit (c_X8_isDigit G _ _ _) rfl (Nat.le_of_ble_eq_true rfl) ?_
              refine wp_if_eq 70 rfl rfl (fun h64 => absurd (b2_eq.mp h64) (fun z => z hdg)) (fun _ => ?_)
              refine wp_aload_n rfl rfl ?_
              refine wp_iload_n rfl rfl ?_
              refine wp_iload_n rfl rfl ?_
              refine cS1 rfl l_8_46 s_X8_numberOf m_X8_numberOf (hnum) rfl (Nat.le_of_ble_eq_true rfl) ?_
              refine wp_goto 74 rfl rfl ?_
              refine q_iast rfl (by first | rfl | assumption) hin ?_
              refine wp_aload_n rfl rfl ?_
              refine q_getr rfl rfl (by first | rfl | assumption) rfl rfl ?_
              refine wp_aload_n rfl rfl ?_
              refine q_geti rfl rfl (by first | rfl | assumption) rfl ?_
              refine wp_iload_n rfl rfl ?_
              refine q_iast rfl (by first | rfl | assumption) (by rw [e2]; exact vp_in_nI (by omega) (by omega)) ?_
              refine wp_aload_n rfl rfl ?_
              refine wp_dup rfl rfl ?_
              refine q_geti rfl rfl (by first | rfl | assumption) rfl ?_
              refine wp_iconst (v := 1) rfl rfl ?_
              refine wp_iadd rfl ?_
              refine q_puti rfl rfl (by first | rfl | assumption) (Or.inl rfl) rfl ?_
              refine wp_iload_n rfl rfl ?_
              refine wp_istore_n (lv' := [(3, _), (0, _), (1, _), (2, _), (4, _)]) rfl rfl (by decide) rfl ?_
              refine wp_goto 14 rfl rfl ?_
              refine wp_loc (lv' := [(0, _), (1, _), (2, _), (3, _)]) [1, 2, 3, 0] rfl ?_
              rw [e3, e2, s2, nI_clamp (by omega), nI_1]
              exact nxt _
            · have hknd := c_X8_kindOfText G d hn hqn (Nat.le_of_lt te1) te2 J L b h44
              rw [hT2, ← knd_t hdg] at hknd
              refine wp_aload_n rfl rfl ?_
              refine q_getr rfl rfl (by first | rfl | assumption) rfl rfl ?_
              refine wp_aload_n rfl rfl ?_
              refine q_geti rfl rfl (by first | rfl | assumption) rfl ?_
              refine wp_iload rfl rfl ?_
              refine cS1 rfl l_8_43 s_X8_isDigit m_X8_isDigit (c_X8_isDigit G _ _ _) rfl (Nat.le_of_ble_eq_true rfl) ?_
              refine wp_if_eq 70 rfl rfl (fun _ => ?_) (fun h64 => absurd (b2_f hdg) h64)
              refine wp_aload_n rfl rfl ?_
              refine wp_iload_n rfl rfl ?_
              refine wp_iload_n rfl rfl ?_
              refine cS1 rfl l_8_50 s_X8_kindOfText m_X8_kindOfText (hknd) rfl (Nat.le_of_ble_eq_true rfl) ?_
              refine q_iast rfl (by first | rfl | assumption) hin ?_
              refine wp_aload_n rfl rfl ?_
              refine q_getr rfl rfl (by first | rfl | assumption) rfl rfl ?_
              refine wp_aload_n rfl rfl ?_
              refine q_geti rfl rfl (by first | rfl | assumption) rfl ?_
              refine wp_iload_n rfl rfl ?_
              refine q_iast rfl (by first | rfl | assumption) (by rw [e2]; exact vp_in_nI (by omega) (by omega)) ?_
              refine wp_aload_n rfl rfl ?_
              refine wp_dup rfl rfl ?_
              refine q_geti rfl rfl (by first | rfl | assumption) rfl ?_
              refine wp_iconst (v := 1) rfl rfl ?_
              refine wp_iadd rfl ?_
              refine q_puti rfl rfl (by first | rfl | assumption) (Or.inl rfl) rfl ?_
              refine wp_iload_n rfl rfl ?_
              refine wp_istore_n (lv' := [(3, _), (0, _), (1, _), (2, _), (4, _)]) rfl rfl (by decide) rfl ?_
              refine wp_goto 14 rfl rfl ?_
              refine wp_loc (lv' := [(0, _), (1, _), (2, _), (3, _)]) [1, 2, 3, 0] rfl ?_
              rw [e3, e2, s2, nI_clamp (by omega), nI_1]
              exact nxt _
          have inner : ∀ (p2 u : Nat), u + p2 = n → q < u → tv T n (T q) u = te T n q → WQ G (d + 7) Y_X8_split Q 36 [(0, .ref 47), (1, .ref 44), (2, .int (nI u)), (3, .int (nI q)), (4, .int (T q))] [] (J, L, RR b) := by
            intro p2
            induction p2 with
            | zero =>
              intro u hu hqu htv
              have hge : J 47 4 ≤ nI u := by rw [s4]; exact nI_le (by omega) (by omega)
              rw [tv_stop (by omega)] at htv
              rw [htv]
              rw [htv] at hge
              refine wp_iload_n rfl rfl ?_
              refine wp_aload_n rfl rfl ?_
              refine q_geti rfl rfl (by first | rfl | assumption) rfl ?_
              refine wp_icmp_ge 58 rfl rfl (fun _ => ?_) (fun h39 => absurd hge h39)
              exact K58
            | succ p2 ih2 =>
              intro u hu hqu htv
              have hlt : ¬ J 47 4 ≤ nI u := by rw [s4]; exact nI_ge (by omega) (by omega)
              have go : (isLt (T q) = true ∧ isLt (T u) = true ∨ isDg (T q) = true ∧ isDg (T u) = true) → WQ G (d + 7) Y_X8_split Q 36 [(0, .ref 47), (1, .ref 44), (2, .int (nI (u + 1))), (3, .int (nI q)), (4, .int (T q))] [] (J, L, RR b) := fun z => ih2 (u + 1) (by omega) (by omega) (by rw [tv_go (by omega) z]; exact htv)
              have stp : ¬ (isLt (T q) = true ∧ isLt (T u) = true ∨ isDg (T q) = true ∧ isDg (T u) = true) → WQ G (d + 7) Y_X8_split Q 58 [(0, .ref 47), (1, .ref 44), (2, .int (nI u)), (3, .int (nI q)), (4, .int (T q))] [] (J, L, RR b) := fun z => by
                rw [tv_stop (fun y => z y.2)] at htv
                rw [htv]
                exact K58
              refine wp_iload_n rfl rfl ?_
              refine wp_aload_n rfl rfl ?_
              refine q_geti rfl rfl (by first | rfl | assumption) rfl ?_
              refine wp_icmp_ge 58 rfl rfl (fun h39 => absurd h39 hlt) (fun _ => ?_)
              refine wp_iload rfl rfl ?_
              refine cS1 rfl l_8_40 s_X8_isLetter m_X8_isLetter (c_X8_isLetter G _ _ _) rfl (Nat.le_of_ble_eq_true rfl) ?_
              refine wp_if_eq 48 rfl rfl (fun h42 => ?_) (fun h42 => ?_)
              · refine wp_iload rfl rfl ?_
                refine cS1 rfl l_8_43 s_X8_isDigit m_X8_isDigit (c_X8_isDigit G _ _ _) rfl (Nat.le_of_ble_eq_true rfl) ?_
                refine wp_if_eq 58 rfl rfl (fun h50 => ?_) (fun h50 => ?_)
                · exact stp (by simp only [b2_ne, b2_eq] at *; simp_all)
                · refine wp_aload_n rfl rfl ?_
                  refine wp_iload_n rfl rfl ?_
                  refine cV1 rfl l_8_33 i_X7_at m_X7_at (by first | rfl | assumption) (by decide) (hat u _ (by omega)) rfl (Nat.le_of_ble_eq_true rfl) ?_
                  refine cS1 rfl l_8_43 s_X8_isDigit m_X8_isDigit (c_X8_isDigit G _ _ _) rfl (Nat.le_of_ble_eq_true rfl) ?_
                  refine wp_if_eq 58 rfl rfl (fun h55 => ?_) (fun h55 => ?_)
                  · exact stp (by simp only [b2_ne, b2_eq] at *; simp_all)
                  · refine wp_iinc (v := nI (u + 1)) (lv' := [(2, _), (0, _), (1, _), (3, _), (4, _)]) rfl rfl (nI_1 u) (by decide) rfl ?_
                    refine wp_goto 36 rfl rfl ?_
                    refine wp_loc (lv' := [(0, _), (1, _), (2, _), (3, _), (4, _)]) [1, 2, 0, 3, 4] rfl ?_
                    exact go (by simp only [b2_ne, b2_eq] at *; simp_all)
              · refine wp_aload_n rfl rfl ?_
                refine wp_iload_n rfl rfl ?_
                refine cV1 rfl l_8_33 i_X7_at m_X7_at (by first | rfl | assumption) (by decide) (hat u _ (by omega)) rfl (Nat.le_of_ble_eq_true rfl) ?_
                refine cS1 rfl l_8_40 s_X8_isLetter m_X8_isLetter (c_X8_isLetter G _ _ _) rfl (Nat.le_of_ble_eq_true rfl) ?_
                refine wp_if_ne 56 rfl rfl (fun h47 => ?_) (fun h47 => ?_)
                · refine wp_iinc (v := nI (u + 1)) (lv' := [(2, _), (0, _), (1, _), (3, _), (4, _)]) rfl rfl (nI_1 u) (by decide) rfl ?_
                  refine wp_goto 36 rfl rfl ?_
                  refine wp_loc (lv' := [(0, _), (1, _), (2, _), (3, _), (4, _)]) [1, 2, 0, 3, 4] rfl ?_
                  exact go (by simp only [b2_ne, b2_eq] at *; simp_all)
                · refine wp_iload rfl rfl ?_
                  refine cS1 rfl l_8_43 s_X8_isDigit m_X8_isDigit (c_X8_isDigit G _ _ _) rfl (Nat.le_of_ble_eq_true rfl) ?_
                  refine wp_if_eq 58 rfl rfl (fun h50 => ?_) (fun h50 => ?_)
                  · exact stp (by simp only [b2_ne, b2_eq] at *; simp_all)
                  · refine wp_aload_n rfl rfl ?_
                    refine wp_iload_n rfl rfl ?_
                    refine cV1 rfl l_8_33 i_X7_at m_X7_at (by first | rfl | assumption) (by decide) (hat u _ (by omega)) rfl (Nat.le_of_ble_eq_true rfl) ?_
                    refine cS1 rfl l_8_43 s_X8_isDigit m_X8_isDigit (c_X8_isDigit G _ _ _) rfl (Nat.le_of_ble_eq_true rfl) ?_
                    refine wp_if_eq 58 rfl rfl (fun h55 => ?_) (fun h55 => ?_)
                    · exact stp (by simp only [b2_ne, b2_eq] at *; simp_all)
                    · refine wp_iinc (v := nI (u + 1)) (lv' := [(2, _), (0, _), (1, _), (3, _), (4, _)]) rfl rfl (nI_1 u) (by decide) rfl ?_
                      refine wp_goto 36 rfl rfl ?_
                      refine wp_loc (lv' := [(0, _), (1, _), (2, _), (3, _), (4, _)]) [1, 2, 0, 3, 4] rfl ?_
                      exact go (by simp only [b2_ne, b2_eq] at *; simp_all)
          refine wp_iload_n rfl rfl ?_
          refine wp_aload_n rfl rfl ?_
          refine q_geti rfl rfl (by first | rfl | assumption) rfl ?_
          refine wp_icmp_ge 90 rfl rfl (fun h17 => absurd h17 f17) (fun _ => ?_)
          refine wp_aload_n rfl rfl ?_
          refine q_geti rfl rfl (by first | rfl | assumption) rfl ?_
          refine wp_aload_n rfl rfl ?_
          refine q_getr rfl rfl (by first | rfl | assumption) rfl rfl ?_
          refine wp_alen rfl rfl (by decide) rfl ?_
          refine wp_icmp_ge 90 rfl rfl (fun h23 => absurd h23 f23) (fun _ => ?_)
          refine wp_aload_n rfl rfl ?_
          refine wp_iload_n rfl rfl ?_
          refine cV1 rfl l_8_33 i_X7_at m_X7_at (by first | rfl | assumption) (by decide) (hat q _ hqn) rfl (Nat.le_of_ble_eq_true rfl) ?_
          refine wp_istore (lv' := [(4, _), (0, _), (1, _), (2, _), (3, _)]) rfl (by decide) rfl ?_
          refine wp_iload_n rfl rfl ?_
          refine wp_iconst (v := 1) rfl rfl ?_
          refine wp_iadd rfl ?_
          rw [nI_1]
          refine wp_istore_n (lv' := [(2, _), (4, _), (0, _), (1, _), (3, _)]) rfl rfl (by decide) rfl ?_
          refine wp_iload rfl rfl ?_
          refine cS1 rfl l_8_36 s_X8_isBlank m_X8_isBlank (c_X8_isBlank G _ _ _) rfl (Nat.le_of_ble_eq_true rfl) ?_
          refine wp_if_eq 36 rfl rfl (fun _ => ?_) (fun h34 => absurd (b2_f hbl) h34)
          refine wp_loc (lv' := [(0, _), (1, _), (2, _), (3, _), (4, _)]) [2, 3, 0, 4, 1] rfl ?_
          exact inner (n - (q + 1)) (q + 1) (by omega) (by omega) (te_tv T n q).symm
      · have hge : J 47 4 ≤ nI q := by rw [s4]; exact nI_le (by omega) (by omega)
        have hqe : q = n := by omega
        refine wp_iload_n rfl rfl ?_
        refine wp_aload_n rfl rfl ?_
        refine q_geti rfl rfl (by first | rfl | assumption) rfl ?_
        refine wp_icmp_ge 90 rfl rfl (fun _ => ?_) (fun h17 => absurd hge h17)
        exact wp_vret rfl rfl (hQ c J (by omega) (by rw [← hps, sk_f (fun z => hqn z.1)]; exact hqe) hS)
  refine MT.intro m_X8_split rfl (Nat.le_of_ble_eq_true rfl) ?_
  show WQ G (d + 7) Y_X8_split Q 0 [(0, .ref 47), (1, .ref 44)] [] (I, L, RR b)
  refine wp_aload_n rfl rfl ?_
  refine wp_aload_n rfl rfl ?_
  refine q_geti rfl rfl (by first | rfl | assumption) rfl ?_
  refine q_puti rfl rfl (by first | rfl | assumption) (Or.inl rfl) rfl ?_
  refine wp_aload_n rfl rfl ?_
  refine wp_iconst (v := 0) rfl rfl ?_
  refine q_puti rfl rfl (by first | rfl | assumption) (Or.inl rfl) rfl ?_
  refine wp_aload_n rfl rfl ?_
  refine wp_iconst (v := 0) rfl rfl ?_
  refine q_puti rfl rfl (by first | rfl | assumption) (Or.inl rfl) rfl ?_
  refine wp_iconst (v := 0) rfl rfl ?_
  refine wp_istore_n (lv' := [(2, _), (0, _), (1, _)]) rfl rfl (by decide) rfl ?_
  refine wp_iconst (v := 0) rfl rfl ?_
  refine wp_istore_n (lv' := [(3, _), (2, _), (0, _), (1, _)]) rfl rfl (by decide) rfl ?_
  refine wp_loc (lv' := [(0, _), (1, _), (2, _), (3, _)]) [2, 3, 1, 0] rfl ?_
  rw [h]
  exact loop n 0 0 _ _ (by omega) (by omega) rfl ⟨fun a h1 _ _ => by rw [uI_fn h1, uI_fn h1, uI_fn h1], rfl, rfl, rfl, fun k hk => absurd hk (by omega)⟩
/-- the tokens, as the readers see them -/
def TKS (K : Nat → Int32) (P : Nat → Nat) (c n : Nat) (I : IF) : Prop := c ≤ 300 ∧ n ≤ 300 ∧ I 47 2 = nI c ∧ I 47 4 = nI n ∧ (∀ k, k < c → I 48 k = K k ∧ I 49 k = nI (P k)) ∧ ∀ k, c ≤ k → K k = -100 ∧ P k = n
theorem ps_end {T : Nat → Int32} {n c : Nat} (h : ps T n c = n) : ∀ k, c ≤ k → ps T n k = n := by
  intro k
  induction k with
  | zero => intro hk; rw [show c = 0 by omega] at h; exact h
  | succ k ih =>
    intro hk
    by_cases e : c = k + 1
    · rw [← e]; exact h
    · simp only [ps]
      rw [if_neg (by have := ih (by omega); omega)]
theorem SPL_TKS {T : Nat → Int32} {n c : Nat} {I J : IF} (hn : n ≤ 300) (hc : c ≤ 300) (he : ps T n c = n) (h : SPL T n c I J) : TKS (KK T n) (ps T n) c n J := by
  obtain ⟨s1, s2, s3, s4, s5⟩ := h
  refine ⟨hc, hn, s2, s4, s5, fun k hk => ?_⟩
  have := ps_end he k hk
  exact ⟨KK_end.mpr (by omega), this⟩
theorem c_X8_kind (G : Gl) (d : Nat) {K : Nat → Int32} {P : Nat → Nat} {c n i : Nat} (hi : i ≤ c) (I : IF) (L : LF) (b : Bool) (hk : TKS K P c n I) (h3 : I 47 3 = nI i) : MD G d Y_X8_kind [.ref 47] (I, L, RR b) (some (.int (K i))) (I, L, RR b) := by
  obtain ⟨hc, hn, h2, h4, h5, h6⟩ := hk
  have hcl : (I 47 3).toNatClampNeg = i := by rw [h3]; exact nI_clamp (by omega)
  by_cases hlt : i < c
  · have h1 : ¬ I 47 2 ≤ I 47 3 := by rw [h2, h3]; exact nI_ge hlt (by omega)
    have hin : vp_in (I 47 3) 300 := by rw [h3]; exact vp_in_nI (by omega) (by omega)
    refine MT.intro m_X8_kind rfl (Nat.le_of_ble_eq_true rfl) ?_
    show WQ G d Y_X8_kind _ 0 [(0, .ref 47)] [] (I, L, RR b)
    refine wp_aload_n rfl rfl ?_
    refine q_geti rfl rfl (by first | rfl | assumption) rfl ?_
    refine wp_aload_n rfl rfl ?_
    refine q_geti rfl rfl (by first | rfl | assumption) rfl ?_
    refine wp_icmp_ge 11 rfl rfl (fun h4 => absurd h4 h1) (fun _ => ?_)
    refine wp_aload_n rfl rfl ?_
    refine q_getr rfl rfl (by first | rfl | assumption) rfl rfl ?_
    refine wp_aload_n rfl rfl ?_
    refine q_geti rfl rfl (by first | rfl | assumption) rfl ?_
    refine q_iald rfl (by first | rfl | assumption) (by assumption) ?_
    refine wp_goto 12 rfl rfl ?_
    exact wp_iret rfl rfl (⟨by rw [hcl, (h5 i hlt).1], rfl⟩)
  · have h1 : I 47 2 ≤ I 47 3 := by rw [h2, h3]; exact nI_le (by omega) (by omega)
    refine MT.intro m_X8_kind rfl (Nat.le_of_ble_eq_true rfl) ?_
    show WQ G d Y_X8_kind _ 0 [(0, .ref 47)] [] (I, L, RR b)
    refine wp_aload_n rfl rfl ?_
    refine q_geti rfl rfl (by first | rfl | assumption) rfl ?_
    refine wp_aload_n rfl rfl ?_
    refine q_geti rfl rfl (by first | rfl | assumption) rfl ?_
    refine wp_icmp_ge 11 rfl rfl (fun _ => ?_) (fun h4 => absurd h1 h4)
    refine wp_bipush (v := (-100)) rfl rfl ?_
    exact wp_iret rfl rfl (⟨by rw [(h6 i (by omega)).1], rfl⟩)
theorem c_X8_place (G : Gl) (d : Nat) {K : Nat → Int32} {P : Nat → Nat} {c n i : Nat} (hi : i ≤ c) (I : IF) (L : LF) (b : Bool) (hk : TKS K P c n I) (h3 : I 47 3 = nI i) : MD G d Y_X8_place [.ref 47] (I, L, RR b) (some (.int (nI (P i)))) (I, L, RR b) := by
  obtain ⟨hc, hn, h2, h4, h5, h6⟩ := hk
  have hcl : (I 47 3).toNatClampNeg = i := by rw [h3]; exact nI_clamp (by omega)
  by_cases hlt : i < c
  · have h1 : ¬ I 47 2 ≤ I 47 3 := by rw [h2, h3]; exact nI_ge hlt (by omega)
    have hin : vp_in (I 47 3) 300 := by rw [h3]; exact vp_in_nI (by omega) (by omega)
    refine MT.intro m_X8_place rfl (Nat.le_of_ble_eq_true rfl) ?_
    show WQ G d Y_X8_place _ 0 [(0, .ref 47)] [] (I, L, RR b)
    refine wp_aload_n rfl rfl ?_
    refine q_geti rfl rfl (by first | rfl | assumption) rfl ?_
    refine wp_aload_n rfl rfl ?_
    refine q_geti rfl rfl (by first | rfl | assumption) rfl ?_
    refine wp_icmp_ge 11 rfl rfl (fun h4 => absurd h4 h1) (fun _ => ?_)
    refine wp_aload_n rfl rfl ?_
    refine q_getr rfl rfl (by first | rfl | assumption) rfl rfl ?_
    refine wp_aload_n rfl rfl ?_
    refine q_geti rfl rfl (by first | rfl | assumption) rfl ?_
    refine q_iald rfl (by first | rfl | assumption) (by assumption) ?_
    refine wp_goto 13 rfl rfl ?_
    exact wp_iret rfl rfl (⟨by rw [hcl, (h5 i hlt).2], rfl⟩)
  · have h1 : I 47 2 ≤ I 47 3 := by rw [h2, h3]; exact nI_le (by omega) (by omega)
    refine MT.intro m_X8_place rfl (Nat.le_of_ble_eq_true rfl) ?_
    show WQ G d Y_X8_place _ 0 [(0, .ref 47)] [] (I, L, RR b)
    refine wp_aload_n rfl rfl ?_
    refine q_geti rfl rfl (by first | rfl | assumption) rfl ?_
    refine wp_aload_n rfl rfl ?_
    refine q_geti rfl rfl (by first | rfl | assumption) rfl ?_
    refine wp_icmp_ge 11 rfl rfl (fun _ => ?_) (fun h4 => absurd h1 h4)
    refine wp_aload_n rfl rfl ?_
    refine q_geti rfl rfl (by first | rfl | assumption) rfl ?_
    exact wp_iret rfl rfl (⟨by rw [(h6 i (by omega)).2, h4], rfl⟩)
theorem c_X8_next (G : Gl) (d : Nat) {K : Nat → Int32} {P : Nat → Nat} {c n i : Nat} (hi : i < c) (I : IF) (L : LF) (b : Bool) (hk : TKS K P c n I) (h3 : I 47 3 = nI i) : MD G d Y_X8_next [.ref 47] (I, L, RR b) none (uI I 47 3 (nI (i + 1)), L, RR b) := by
  obtain ⟨hc, hn, h2, h4, h5, h6⟩ := hk
  have h1 : ¬ I 47 2 ≤ I 47 3 := by rw [h2, h3]; exact nI_ge hi (by omega)
  refine MT.intro m_X8_next rfl (Nat.le_of_ble_eq_true rfl) ?_
  show WQ G d Y_X8_next _ 0 [(0, .ref 47)] [] (I, L, RR b)
  refine wp_aload_n rfl rfl ?_
  refine q_geti rfl rfl (by first | rfl | assumption) rfl ?_
  refine wp_aload_n rfl rfl ?_
  refine q_geti rfl rfl (by first | rfl | assumption) rfl ?_
  refine wp_icmp_ge 11 rfl rfl (fun h4 => absurd h4 h1) (fun _ => ?_)
  refine wp_aload_n rfl rfl ?_
  refine wp_dup rfl rfl ?_
  refine q_geti rfl rfl (by first | rfl | assumption) rfl ?_
  refine wp_iconst (v := 1) rfl rfl ?_
  refine wp_iadd rfl ?_
  refine q_puti rfl rfl (by first | rfl | assumption) (Or.inl rfl) rfl ?_
  exact wp_vret rfl rfl (⟨rfl, by rw [h3, nI_1]⟩)
