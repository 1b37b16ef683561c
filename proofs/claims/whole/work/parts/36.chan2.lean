/-! channels: the class's search -/
theorem c_X9_begin (G : Gl) (d : Nat) {n : Nat} (I : IF) (L : LF) (b : Bool) (hn : n < 10) (hch : ∀ m, m < n → ∃ c, c < 12 ∧ I 43 m = nI c) : MQ2 G (d + 1) Y_X9_begin [.ref 39, .int (nI n)] (I, L, RR b) (fun r w => r = none ∧ ∃ J : IF, w = (J, L, RR b) ∧ (∀ q, q ≠ 42 → q ≠ 43 → J q = I q) ∧ (∀ k, k ≠ n → J 42 k = I 42 k ∧ J 43 k = I 43 k) ∧ J 43 n = 0 ∧ ∀ c, c < 12 → (bt (J 42 n) c = true ↔ bt (I 41 n) c = true ∨ ∃ m, m < n ∧ bt (I 40 n) m = true ∧ I 43 m = nI c)) := by
  have hin : vp_in (nI n) 10 := vp_in_nI (by omega) (by omega)
  have hcl : (nI n).toNatClampNeg = n := nI_clamp (by omega)
  generalize hQ : (fun (r : Option Value) (w : mW) => r = none ∧ ∃ J : IF, w = (J, L, RR b) ∧ (∀ q, q ≠ 42 → q ≠ 43 → J q = I q) ∧ (∀ k, k ≠ n → J 42 k = I 42 k ∧ J 43 k = I 43 k) ∧ J 43 n = 0 ∧ ∀ c, c < 12 → (bt (J 42 n) c = true ↔ bt (I 41 n) c = true ∨ ∃ m, m < n ∧ bt (I 40 n) m = true ∧ I 43 m = nI c)) = Q
  have loop : ∀ (p i : Nat), i + p = n → ∀ J : IF, (∀ q, q ≠ 42 → q ≠ 43 → J q = I q) → (∀ k, k ≠ n → J 42 k = I 42 k ∧ J 43 k = I 43 k) → J 43 n = 0 → (∀ c, c < 12 → (bt (J 42 n) c = true ↔ bt (I 41 n) c = true ∨ ∃ m, m < i ∧ bt (I 40 n) m = true ∧ I 43 m = nI c)) → WQ G (d + 1) Y_X9_begin Q 15 [(0, .ref 39), (1, .int (nI n)), (2, .int (nI i))] [] (J, L, RR b) := by
    intro p
    induction p with
    | zero =>
      intro i hi J h1 h2 h3 h4
      have hie : i = n := by omega
      subst hie
      refine wp_iload_n rfl rfl ?_
      refine wp_iload_n rfl rfl ?_
      refine wp_icmp_ge 40 rfl rfl (fun _ => ?_) (fun h17 => absurd (nI_le (Nat.le_refl i) (by omega)) h17)
      exact wp_vret rfl rfl (by rw [← hQ]; exact ⟨rfl, J, rfl, h1, h2, h3, h4⟩)
    | succ p ih =>
      intro i hi J h1 h2 h3 h4
      have hlt : ¬ nI n ≤ nI i := nI_ge (by omega) (by omega)
      have hin2 : vp_in (nI i) 10 := vp_in_nI (by omega) (by omega)
      have hcli : (nI i).toNatClampNeg = i := nI_clamp (by omega)
      have e40 : J 40 = I 40 := h1 40 (by decide) (by decide)
      obtain ⟨c0, hc0, ec0⟩ := hch i (by omega)
      have e43 : J 43 i = nI c0 := by rw [(h2 i (by omega)).2]; exact ec0
      have next : ∀ J2 : IF, (∀ q, q ≠ 42 → J2 q = J q) → (∀ k, k ≠ n → J2 42 k = J 42 k) → (∀ c, c < 12 → (bt (J2 42 n) c = true ↔ bt (J 42 n) c = true ∨ (bt (I 40 n) i = true ∧ c = c0))) → WQ G (d + 1) Y_X9_begin Q 15 [(0, .ref 39), (1, .int (nI n)), (2, .int (nI (i + 1)))] [] (J2, L, RR b) := by
        intro J2 g1 g2 g3
        refine ih (i + 1) (by omega) J2 (fun q h42 h43 => (g1 q h42).trans (h1 q h42 h43)) (fun k hk => ⟨(g2 k hk).trans (h2 k hk).1, by rw [g1 43 (by decide)]; exact (h2 k hk).2⟩) (by rw [g1 43 (by decide)]; exact h3) (fun c hc => ?_)
        rw [g3 c hc, h4 c hc]
        constructor
        · rintro ((z | ⟨m, z1, z2⟩) | ⟨z1, z2⟩)
          · exact Or.inl z
          · exact Or.inr ⟨m, by omega, z2⟩
          · exact Or.inr ⟨i, by omega, z1, by rw [ec0, z2]⟩
        · rintro (z | ⟨m, z1, z2, z3⟩)
          · exact Or.inl (Or.inl z)
          · rcases Nat.lt_or_ge m i with e | e
            · exact Or.inl (Or.inr ⟨m, e, z2, z3⟩)
            · have : m = i := by omega
              subst this
              exact Or.inr ⟨z2, by rw [ec0] at z3; exact ((nI_eq (by omega) (by omega)).mp z3).symm⟩
      refine wp_iload_n rfl rfl ?_
      refine wp_iload_n rfl rfl ?_
      refine wp_icmp_ge 40 rfl rfl (fun h17 => absurd h17 hlt) (fun _ => ?_)
      refine wp_aload_n rfl rfl ?_
      refine q_getr rfl rfl (by first | rfl | assumption) rfl rfl ?_
      refine wp_iload_n rfl rfl ?_
      refine q_iald rfl (by first | rfl | assumption) (by assumption) ?_
      refine wp_iload_n rfl rfl ?_
      refine cN1 rfl ln_9_88 s_X10_isIn m_X10_isIn (c_isIn G _ _ rfl (by omega) _) rfl (Nat.le_of_ble_eq_true rfl) ?_
      refine wp_if_eq 38 rfl rfl (fun h24 => ?_) (fun h24 => ?_)
      · refine wp_iinc (v := nI (i + 1)) (lv' := [(2, _), (0, _), (1, _)]) rfl rfl (nI_1 i) (by decide) rfl ?_
        refine wp_goto 15 rfl rfl ?_
        refine wp_loc (lv' := [(0, _), (1, _), (2, _)]) [1, 2, 0] rfl ?_
        first
        | (have hno : ¬ bt (I 40 n) i = true := by (have := b2_eq.mp h24; rw [hcl, e40] at this; exact this)
           exact next J (fun q _ => rfl) (fun k _ => rfl) (fun c hc => by grind))
        | (have hye : bt (I 40 n) i = true := by (have := b2_ne.mp h24; rw [hcl, e40] at this; exact this)
           rw [hcl, hcli, e43]
           refine next _ (fun q hq => uI_fn hq) (fun k hk => uI_nk hk) (fun c hc => ?_)
           rw [uI_eq, bt_add (by omega) (by omega), Bool.or_eq_true, decide_eq_true_eq]
           grind)
      · refine wp_aload_n rfl rfl ?_
        refine q_getr rfl rfl (by first | rfl | assumption) rfl rfl ?_
        refine wp_iload_n rfl rfl ?_
        refine wp_dup2 rfl rfl rfl ?_
        refine q_iald rfl (by first | rfl | assumption) (by assumption) ?_
        refine wp_iconst (v := 1) rfl rfl ?_
        refine wp_aload_n rfl rfl ?_
        refine q_getr rfl rfl (by first | rfl | assumption) rfl rfl ?_
        refine wp_iload_n rfl rfl ?_
        refine q_iald rfl (by first | rfl | assumption) (by assumption) ?_
        refine wp_ishl rfl ?_
        refine wp_ior rfl ?_
        refine q_iast rfl (by first | rfl | assumption) (by assumption) ?_
        refine wp_iinc (v := nI (i + 1)) (lv' := [(2, _), (0, _), (1, _)]) rfl rfl (nI_1 i) (by decide) rfl ?_
        refine wp_goto 15 rfl rfl ?_
        refine wp_loc (lv' := [(0, _), (1, _), (2, _)]) [1, 2, 0] rfl ?_
        first
        | (have hno : ¬ bt (I 40 n) i = true := by (have := b2_eq.mp h24; rw [hcl, e40] at this; exact this)
           exact next J (fun q _ => rfl) (fun k _ => rfl) (fun c hc => by grind))
        | (have hye : bt (I 40 n) i = true := by (have := b2_ne.mp h24; rw [hcl, e40] at this; exact this)
           rw [hcl, hcli, e43]
           refine next _ (fun q hq => uI_fn hq) (fun k hk => uI_nk hk) (fun c hc => ?_)
           rw [uI_eq, bt_add (by omega) (by omega), Bool.or_eq_true, decide_eq_true_eq]
           grind)
  refine MT.intro m_X9_begin rfl (Nat.le_of_ble_eq_true rfl) ?_
  show WQ G (d + 1) Y_X9_begin Q 0 [(0, .ref 39), (1, .int (nI n))] [] (I, L, RR b)
  refine wp_aload_n rfl rfl ?_
  refine q_getr rfl rfl (by first | rfl | assumption) rfl rfl ?_
  refine wp_iload_n rfl rfl ?_
  refine wp_iconst (v := 0) rfl rfl ?_
  refine q_iast rfl (by first | rfl | assumption) (by assumption) ?_
  refine wp_aload_n rfl rfl ?_
  refine q_getr rfl rfl (by first | rfl | assumption) rfl rfl ?_
  refine wp_iload_n rfl rfl ?_
  refine wp_aload_n rfl rfl ?_
  refine q_getr rfl rfl (by first | rfl | assumption) rfl rfl ?_
  refine wp_iload_n rfl rfl ?_
  refine q_iald rfl (by first | rfl | assumption) (by assumption) ?_
  refine q_iast rfl (by first | rfl | assumption) (by assumption) ?_
  refine wp_iconst (v := 0) rfl rfl ?_
  refine wp_istore_n (lv' := [(2, _), (0, _), (1, _)]) rfl rfl (by decide) rfl ?_
  refine wp_loc (lv' := [(0, _), (1, _), (2, _)]) [1, 2, 0] rfl ?_
  rw [hcl]
  refine loop n 0 (by omega) _ (fun q h42 h43 => by rw [uI_fn h42, uI_fn h43]) (fun k hk => ⟨by rw [uI_nk hk, uI_ne (by decide)], by rw [uI_ne (by decide), uI_nk hk]⟩) (by rw [uI_ne (by decide), uI_eq]) (fun c hc => ?_)
  rw [uI_eq, uI_ne (by decide)]
  exact ⟨fun z => Or.inl z, fun z => z.elim id (fun ⟨m, hm, _⟩ => absurd hm (by omega))⟩
theorem c_X9_lastWithMore (G : Gl) (d : Nat) {n : Nat} (ch : Nat → Nat) (I : IF) (L : LF) (b : Bool) (hn : n < 10) (hch : ∀ m, m ≤ n → I 43 m = nI (ch m) ∧ ch m ≤ 11) : MD G d Y_X9_lastWithMore [.ref 39, .int (nI n)] (I, L, RR b) (some (.int (match adv ch n with | none => -1 | some j => nI j))) (I, L, RR b) := by
  have loop : ∀ (i : Nat), i ≤ n → WQ G d Y_X9_lastWithMore (fun r' w'' => r' = some (.int (match adv ch i with | none => -1 | some j => nI j)) ∧ w'' = (I, L, RR b)) 2 [(0, .ref 39), (1, .int (nI n)), (2, .int (nI i))] [] (I, L, RR b) := by
    intro i
    induction i with
    | zero =>
      intro hi
      have hc := hch 0 hi
      have hin : vp_in (nI 0) 10 := vp_in_nI (by omega) (by omega)
      have hz : ¬ nI 0 < (0 : Int32) := by decide
      have e0 : I 43 (nI 0).toNatClampNeg = nI (ch 0) := by rw [nI_clamp (by omega)]; exact hc.1
      simp only [adv]
      by_cases h11 : ch 0 < 11
      · rw [if_pos h11]
        have h12 : I 43 (nI 0).toNatClampNeg < 11 := by rw [e0]; exact nI_lt (b := 11) h11 (by omega)
        refine wp_iload_n rfl rfl ?_
        refine wp_if_lt 12 rfl rfl (fun h3 => absurd h3 hz) (fun _ => ?_)
        refine wp_aload_n rfl rfl ?_
        refine q_getr rfl rfl (by first | rfl | assumption) rfl rfl ?_
        refine wp_iload_n rfl rfl ?_
        refine q_iald rfl (by first | rfl | assumption) (by assumption) ?_
        refine wp_bipush (v := 11) rfl rfl ?_
        refine wp_icmp_lt 12 rfl rfl (fun _ => ?_) (fun h9 => absurd h12 h9)
        refine wp_iload_n rfl rfl ?_
        exact wp_iret rfl rfl (⟨rfl, rfl⟩)
      · rw [if_neg h11]
        have h12 : ¬ I 43 (nI 0).toNatClampNeg < 11 := by rw [e0]; exact nI_nlt (b := 11) (by omega) (by omega)
        refine wp_iload_n rfl rfl ?_
        refine wp_if_lt 12 rfl rfl (fun h3 => absurd h3 hz) (fun _ => ?_)
        refine wp_aload_n rfl rfl ?_
        refine q_getr rfl rfl (by first | rfl | assumption) rfl rfl ?_
        refine wp_iload_n rfl rfl ?_
        refine q_iald rfl (by first | rfl | assumption) (by assumption) ?_
        refine wp_bipush (v := 11) rfl rfl ?_
        refine wp_icmp_lt 12 rfl rfl (fun h9 => absurd h9 h12) (fun _ => ?_)
        refine wp_iinc (lv' := [(2, _), (0, _), (1, _)]) rfl rfl rfl (by decide) rfl ?_
        refine wp_goto 2 rfl rfl ?_
        refine wp_loc (lv' := [(0, _), (1, _), (2, _)]) [1, 2, 0] rfl ?_
        refine wp_iload_n rfl rfl ?_
        refine wp_if_lt 12 rfl rfl (fun _ => ?_) (fun h => absurd (by decide) h)
        refine wp_iload_n rfl rfl ?_
        exact wp_iret rfl rfl ⟨rfl, rfl⟩
    | succ i ih =>
      intro hi
      have hc := hch (i + 1) hi
      have hin : vp_in (nI (i + 1)) 10 := vp_in_nI (by omega) (by omega)
      have hz : ¬ nI (i + 1) < (0 : Int32) := nI_pos (by omega)
      have e0 : I 43 (nI (i + 1)).toNatClampNeg = nI (ch (i + 1)) := by rw [nI_clamp (by omega)]; exact hc.1
      simp only [adv]
      by_cases h11 : ch (i + 1) < 11
      · rw [if_pos h11]
        have h12 : I 43 (nI (i + 1)).toNatClampNeg < 11 := by rw [e0]; exact nI_lt (b := 11) h11 (by omega)
        refine wp_iload_n rfl rfl ?_
        refine wp_if_lt 12 rfl rfl (fun h3 => absurd h3 hz) (fun _ => ?_)
        refine wp_aload_n rfl rfl ?_
        refine q_getr rfl rfl (by first | rfl | assumption) rfl rfl ?_
        refine wp_iload_n rfl rfl ?_
        refine q_iald rfl (by first | rfl | assumption) (by assumption) ?_
        refine wp_bipush (v := 11) rfl rfl ?_
        refine wp_icmp_lt 12 rfl rfl (fun _ => ?_) (fun h9 => absurd h12 h9)
        refine wp_iload_n rfl rfl ?_
        exact wp_iret rfl rfl (⟨rfl, rfl⟩)
      · rw [if_neg h11]
        have h12 : ¬ I 43 (nI (i + 1)).toNatClampNeg < 11 := by rw [e0]; exact nI_nlt (b := 11) (by omega) (by omega)
        have hdec : nI (i + 1) + Int32.ofInt (-1) = nI i := by rw [show Int32.ofInt (-1) = (-1 : Int32) from rfl]; have := nI_pred i; grind
        refine wp_iload_n rfl rfl ?_
        refine wp_if_lt 12 rfl rfl (fun h3 => absurd h3 hz) (fun _ => ?_)
        refine wp_aload_n rfl rfl ?_
        refine q_getr rfl rfl (by first | rfl | assumption) rfl rfl ?_
        refine wp_iload_n rfl rfl ?_
        refine q_iald rfl (by first | rfl | assumption) (by assumption) ?_
        refine wp_bipush (v := 11) rfl rfl ?_
        refine wp_icmp_lt 12 rfl rfl (fun h9 => absurd h9 h12) (fun _ => ?_)
        refine wp_iinc (v := nI i) (lv' := [(2, _), (0, _), (1, _)]) rfl rfl (hdec) (by decide) rfl ?_
        refine wp_goto 2 rfl rfl ?_
        refine wp_loc (lv' := [(0, _), (1, _), (2, _)]) [1, 2, 0] rfl ?_
        exact ih (by omega)
  refine MT.intro m_X9_lastWithMore rfl (Nat.le_of_ble_eq_true rfl) ?_
  show WQ G d Y_X9_lastWithMore _ 0 [(0, .ref 39), (1, .int (nI n))] [] (I, L, RR b)
  refine wp_iload_n rfl rfl ?_
  refine wp_istore_n (lv' := [(2, _), (0, _), (1, _)]) rfl rfl (by decide) rfl ?_
  refine wp_loc (lv' := [(0, _), (1, _), (2, _)]) [1, 2, 0] rfl ?_
  exact loop n (Nat.le_refl _)
/-- a found plan of channels has them all below 12 -/
theorem srch_found {ok : (Nat → Nat) → Nat → Bool} {last : Nat} : ∀ (f at_ : Nat) (ch : Nat → Nat), f ≤ 20000 → lkI last f at_ ch → (srch ok last f at_ ch).1 = 1 → ∀ l, l ≤ last → (srch ok last f at_ ch).2.2 l ≤ 11
  | 0, at_, ch, _, _, h => by simp only [srch] at h; exact absurd h (by decide)
  | f + 1, at_, ch, hf, hl, h => by
    simp only [srch] at h ⊢
    split at h
    · next hok =>
      rw [if_pos hok]
      split at h
      · next hla =>
        rw [if_pos hla]
        exact fun l hl2 => hl.2.1 l (by omega)
      · next hla =>
        rw [if_neg hla]
        exact srch_found f _ _ (by omega) (lkI_next hl hf (by omega)) h
    · next hok =>
      rw [if_neg hok]
      cases ha : adv ch at_ with
      | none => rw [ha] at h; exact absurd (show (-1 : Int32) = 1 from h) (by decide)
      | some j =>
        rw [ha] at h
        exact srch_found f _ _ (by omega) (lkI_some hl hf ha) h
theorem srch_res {ok : (Nat → Nat) → Nat → Bool} {last : Nat} : ∀ (f at_ : Nat) (ch : Nat → Nat), (srch ok last f at_ ch).1 = 1 ∨ (srch ok last f at_ ch).1 = -1 ∨ (srch ok last f at_ ch).1 = -4
  | 0, _, _ => Or.inr (Or.inr rfl)
  | f + 1, at_, ch => by
    simp only [srch]
    split
    · split
      · exact Or.inl rfl
      · exact srch_res f _ _
    · cases adv ch at_ with
      | none => exact Or.inr (Or.inl rfl)
      | some j => exact srch_res f _ _
/-- the class's arrays at a look -/
def TW (I : IF) (nm na nr at_ : Nat) (ch : Nat → Nat) (J : IF) : Prop := (∀ q, (q < 39 ∨ 43 < q) → J q = I q) ∧ (∀ m, m < nm → ∀ s, s < 14 → bt (J 40 m) s = nrB I nm na nr m s) ∧ (∀ m, m < nm → ∀ c, c < 12 → bt (J 41 m) c = bnB I nm na nr m c) ∧ (∀ l, l ≤ at_ → J 43 l = nI (ch l)) ∧ ∀ l, l ≤ at_ → ∀ c, c < 12 → bt (J 42 l) c = (bnB I nm na nr l c || exB (fun j => nrB I nm na nr l j && decide (ch j = c)) l)
theorem c_X9_tryChannels (G : Gl) (d : Nat) {nm na nr : Nat} (I J0 : IF) (L : LF) (b : Bool) (hn0 : 0 < nm) (hn : nm ≤ 10) (hJ : ∀ q, (q < 39 ∨ 43 < q) → J0 q = I q) (hN : ∀ m, m < nm → ∀ s, s < 14 → bt (J0 40 m) s = nrB I nm na nr m s) (hB : ∀ m, m < nm → ∀ c, c < 12 → bt (J0 41 m) c = bnB I nm na nr m c) {S : Int32 × Nat × (Nat → Nat)} (hS : srch (okB I nm na nr) (nm - 1) 20000 0 (fun _ => 0) = S) : MQ2 G (d + 2) Y_X9_tryChannels [.ref 39, .int (nI (nm - 1))] (J0, L, RR b) (fun r w => r = some (.int S.1) ∧ ∃ J : IF, w = (J, L, RR b) ∧ (∀ q, (q < 39 ∨ 43 < q) → J q = I q) ∧ J 39 4 = nI S.2.1 ∧ (S.1 = 1 → ∀ m, m < nm → J 43 m = nI (S.2.2 m))) := by
  generalize hQ : (fun (r : Option Value) (w : mW) => r = some (.int S.1) ∧ ∃ J : IF, w = (J, L, RR b) ∧ (∀ q, (q < 39 ∨ 43 < q) → J q = I q) ∧ J 39 4 = nI S.2.1 ∧ (S.1 = 1 → ∀ m, m < nm → J 43 m = nI (S.2.2 m))) = Q
  have loop : ∀ (f at_ : Nat) (ch : Nat → Nat) (J : IF), f ≤ 20000 → J 39 4 = nI (20001 - f) → lkI (nm - 1) f at_ ch → TW I nm na nr at_ ch J → srch (okB I nm na nr) (nm - 1) f at_ ch = S → WQ G (d + 2) Y_X9_tryChannels Q 8 [(0, .ref 39), (1, .int (nI (nm - 1))), (2, .int (nI at_))] [] (J, L, RR b) := by
    intro f
    induction f with
    | zero =>
      intro at_ ch J hf h4 hl hT hs
      have hgt : (20000 : Int32) < J 39 4 := by rw [h4]; decide
      simp only [srch] at hs
      refine wp_aload_n rfl rfl ?_
      refine q_geti rfl rfl (by first | rfl | assumption) rfl ?_
      refine wp_sipush (v := 20000) rfl rfl ?_
      refine wp_icmp_gt 55 rfl rfl (fun _ => ?_) (fun h11 => absurd hgt h11)
      refine wp_aload_n rfl rfl ?_
      refine wp_sipush (v := 20000) rfl rfl ?_
      refine q_puti rfl rfl (by first | rfl | assumption) (Or.inl rfl) rfl ?_
      refine wp_bipush (v := (-4)) rfl rfl ?_
      exact wp_iret rfl rfl (by rw [← hQ, ← hs]; exact ⟨rfl, _, rfl, fun q hq => by rw [uI_fn (by omega)]; exact hT.1 q hq, uI_eq, fun z => absurd (show (-4 : Int32) = 1 from z) (by decide)⟩)
    | succ f ih =>
      intro at_ ch J hf h4 hl hT hs
      obtain ⟨t1, t2, t3, t4, t5⟩ := id hT
      have hat : at_ < nm := by have := hl.1; omega
      have hle : ¬ (20000 : Int32) < J 39 4 := by rw [h4]; exact nI_nlt (a := 20000) (b := 20001 - (f + 1)) (by omega) (by omega)
      have hin : vp_in (nI at_) 10 := vp_in_nI (by omega) (by omega)
      have hcl : (nI at_).toNatClampNeg = at_ := nI_clamp (by omega)
      have hc11 := hl.2.1 at_ (Nat.le_refl _)
      have hbt : bt (J 42 at_) (ch at_) = !okB I nm na nr ch at_ := by rw [t5 at_ (Nat.le_refl _) _ (by omega)]; unfold okB; simp
      have hlook : J 39 4 + 1 = nI (20001 - f) := by rw [h4, nI_1]; congr 1; omega
      simp only [srch] at hs
      by_cases hok : okB I nm na nr ch at_ = true
      · rw [if_pos hok] at hs
        by_cases hla : nm - 1 ≤ at_
        · rw [if_pos hla] at hs
          have hlt : ¬ nI at_ < nI (nm - 1) := nI_nlt (by omega) (by omega)
          refine wp_aload_n rfl rfl ?_
          refine q_geti rfl rfl (by first | rfl | assumption) rfl ?_
          refine wp_sipush (v := 20000) rfl rfl ?_
          refine wp_icmp_gt 55 rfl rfl (fun h11 => absurd h11 hle) (fun _ => ?_)
          refine wp_aload_n rfl rfl ?_
          refine q_getr rfl rfl (by first | rfl | assumption) rfl rfl ?_
          refine wp_iload_n rfl rfl ?_
          refine q_iald rfl (by first | rfl | assumption) (by assumption) ?_
          refine wp_aload_n rfl rfl ?_
          refine q_getr rfl rfl (by first | rfl | assumption) rfl rfl ?_
          refine wp_iload_n rfl rfl ?_
          refine q_iald rfl (by first | rfl | assumption) (by assumption) ?_
          refine cN1 rfl ln_9_88 s_X10_isIn m_X10_isIn (c_isIn G _ _ (x := J 43 (nI at_).toNatClampNeg) (a := ch at_) (by rw [hcl]; exact t4 at_ (Nat.le_refl _)) (by omega) _) rfl (Nat.le_of_ble_eq_true rfl) ?_
          refine wp_if_eq 39 rfl rfl (fun h21 => ?_) (fun h21 => ?_)
          · refine wp_iload_n rfl rfl ?_
            refine wp_iload_n rfl rfl ?_
            refine wp_icmp_lt 44 rfl rfl (fun h41 => absurd h41 hlt) (fun _ => ?_)
            refine wp_iconst (v := 1) rfl rfl ?_
            exact wp_iret rfl rfl (by rw [← hQ, ← hs]; exact ⟨rfl, J, rfl, t1, by rw [h4]; show nI (20001 - (f + 1)) = nI (20000 - f); congr 1; omega, fun _ m hm => t4 m (by omega)⟩)
          · exact absurd (b2_ne.mp h21) (by rw [hcl, hbt, hok]; decide)
        · rw [if_neg hla] at hs
          have hlt : nI at_ < nI (nm - 1) := nI_lt (by omega) (by omega)
          have cb := c_X9_begin G d (n := at_ + 1) J L b (by omega) (fun m hm => ⟨ch m, by have := hl.2.1 m (by omega); omega, t4 m (by omega)⟩)
          refine wp_aload_n rfl rfl ?_
          refine q_geti rfl rfl (by first | rfl | assumption) rfl ?_
          refine wp_sipush (v := 20000) rfl rfl ?_
          refine wp_icmp_gt 55 rfl rfl (fun h11 => absurd h11 hle) (fun _ => ?_)
          refine wp_aload_n rfl rfl ?_
          refine q_getr rfl rfl (by first | rfl | assumption) rfl rfl ?_
          refine wp_iload_n rfl rfl ?_
          refine q_iald rfl (by first | rfl | assumption) (by assumption) ?_
          refine wp_aload_n rfl rfl ?_
          refine q_getr rfl rfl (by first | rfl | assumption) rfl rfl ?_
          refine wp_iload_n rfl rfl ?_
          refine q_iald rfl (by first | rfl | assumption) (by assumption) ?_
          refine cN1 rfl ln_9_88 s_X10_isIn m_X10_isIn (c_isIn G _ _ (x := J 43 (nI at_).toNatClampNeg) (a := ch at_) (by rw [hcl]; exact t4 at_ (Nat.le_refl _)) (by omega) _) rfl (Nat.le_of_ble_eq_true rfl) ?_
          refine wp_if_eq 39 rfl rfl (fun h21 => ?_) (fun h21 => ?_)
          · refine wp_iload_n rfl rfl ?_
            refine wp_iload_n rfl rfl ?_
            refine wp_icmp_lt 44 rfl rfl (fun _ => ?_) (fun h41 => absurd hlt h41)
            refine wp_iinc (v := nI (at_ + 1)) (lv' := [(2, _), (0, _), (1, _)]) rfl rfl (nI_1 at_) (by decide) rfl ?_
            refine wp_aload_n rfl rfl ?_
            refine wp_iload_n rfl rfl ?_
            refine cVr rfl l_9_95 i_X9_begin m_X9_begin (by first | rfl | assumption) (by decide) (cb) rfl (Nat.le_of_ble_eq_true rfl) (fun r47 w47 hq47 => ?_)
            obtain ⟨rfl, J2, rfl, g1, g2, g3, g4⟩ := hq47
            refine wp_aload_n rfl rfl ?_
            refine wp_dup rfl rfl ?_
            refine q_geti rfl rfl (by first | rfl | assumption) rfl ?_
            refine wp_iconst (v := 1) rfl rfl ?_
            refine wp_iadd rfl ?_
            refine q_puti rfl rfl (by first | rfl | assumption) (Or.inl rfl) rfl ?_
            refine wp_goto 8 rfl rfl ?_
            refine wp_loc (lv' := [(0, _), (1, _), (2, _)]) [1, 2, 0] rfl ?_
            have e394 : J2 39 4 + 1 = nI (20001 - f) := by rw [g1 39 (by decide) (by decide)]; exact hlook
            rw [e394]
            refine ih (at_ + 1) (up ch (at_ + 1) 0) _ (by omega) uI_eq (lkI_next hl hf (by omega)) ⟨fun q hq => ?_, fun m hm s hs => ?_, fun m hm c hc => ?_, fun l hl2 => ?_, fun l hl2 c hc => ?_⟩ hs
            · rw [uI_fn (by omega), g1 q (by omega) (by omega)]; exact t1 q hq
            · rw [uI_ne (by decide), g1 40 (by decide) (by decide)]; exact t2 m hm s hs
            · rw [uI_ne (by decide), g1 41 (by decide) (by decide)]; exact t3 m hm c hc
            · rw [uI_ne (by decide)]
              by_cases e : l = at_ + 1
              · subst e; rw [g3, up_eq]; rfl
              · rw [(g2 l e).2, up_ne e]; exact t4 l (by omega)
            · rw [uI_ne (by decide)]
              by_cases e : l = at_ + 1
              · subst e
                apply bool_iff
                rw [g4 c hc, t3 (at_ + 1) (by omega) c hc, Bool.or_eq_true, exB_iff]
                refine or_congr Iff.rfl ⟨?_, ?_⟩
                · rintro ⟨m, z1, z2, z3⟩
                  rw [t2 (at_ + 1) (by omega) m (by omega)] at z2
                  rw [t4 m (by omega), nI_eq (by have := hl.2.1 m (by omega); omega) (by omega)] at z3
                  exact ⟨m, z1, by rw [up_ne (by omega), z2, z3]; simp⟩
                · rintro ⟨m, z1, z2⟩
                  rw [up_ne (by omega), Bool.and_eq_true, decide_eq_true_eq] at z2
                  exact ⟨m, z1, by rw [t2 (at_ + 1) (by omega) m (by omega)]; exact z2.1, by rw [t4 m (by omega), z2.2]⟩
              · rw [(g2 l e).1, t5 l (by omega) c hc]
                congr 1
                exact exB_cg l (fun j hj => by rw [up_ne (by omega)])
          · exact absurd (b2_ne.mp h21) (by rw [hcl, hbt, hok]; decide)
      · rw [if_neg hok] at hs
        have cl := c_X9_lastWithMore G (d + 1) ch J L b (n := at_) (by omega) (fun m hm => ⟨t4 m hm, hl.2.1 m hm⟩)
        cases ha : adv ch at_ with
        | none =>
          rw [ha] at hs cl
          refine wp_aload_n rfl rfl ?_
          refine q_geti rfl rfl (by first | rfl | assumption) rfl ?_
          refine wp_sipush (v := 20000) rfl rfl ?_
          refine wp_icmp_gt 55 rfl rfl (fun h11 => absurd h11 hle) (fun _ => ?_)
          refine wp_aload_n rfl rfl ?_
          refine q_getr rfl rfl (by first | rfl | assumption) rfl rfl ?_
          refine wp_iload_n rfl rfl ?_
          refine q_iald rfl (by first | rfl | assumption) (by assumption) ?_
          refine wp_aload_n rfl rfl ?_
          refine q_getr rfl rfl (by first | rfl | assumption) rfl rfl ?_
          refine wp_iload_n rfl rfl ?_
          refine q_iald rfl (by first | rfl | assumption) (by assumption) ?_
          refine cN1 rfl ln_9_88 s_X10_isIn m_X10_isIn (c_isIn G _ _ (x := J 43 (nI at_).toNatClampNeg) (a := ch at_) (by rw [hcl]; exact t4 at_ (Nat.le_refl _)) (by omega) _) rfl (Nat.le_of_ble_eq_true rfl) ?_
          refine wp_if_eq 39 rfl rfl (fun h21 => ?_) (fun h21 => ?_)
          · exact absurd (by rw [hcl, hbt]; simp [hok]) (b2_eq.mp h21)
          · refine wp_aload_n rfl rfl ?_
            refine wp_iload_n rfl rfl ?_
            refine cV1 rfl l_9_102 i_X9_lastWithMore m_X9_lastWithMore (by first | rfl | assumption) (by decide) (cl) rfl (Nat.le_of_ble_eq_true rfl) ?_
            refine wp_istore_n (lv' := [(2, _), (0, _), (1, _)]) rfl rfl (by decide) rfl ?_
            refine wp_iload_n rfl rfl ?_
            refine wp_if_ge 30 rfl rfl (fun h27 => absurd h27 (by decide)) (fun _ => ?_)
            refine wp_iconst (v := (-1)) rfl rfl ?_
            exact wp_iret rfl rfl (by rw [← hQ, ← hs]; exact ⟨rfl, J, rfl, t1, by rw [h4]; show nI (20001 - (f + 1)) = nI (20000 - f); congr 1; omega, fun z => absurd (show (-1 : Int32) = 1 from z) (by decide)⟩)
        | some j =>
          rw [ha] at hs cl
          obtain ⟨a1, a2, a3⟩ := adv_some at_ j ha
          have hinj : vp_in (nI j) 10 := vp_in_nI (by omega) (by omega)
          have hclj : (nI j).toNatClampNeg = j := nI_clamp (by omega)
          refine wp_aload_n rfl rfl ?_
          refine q_geti rfl rfl (by first | rfl | assumption) rfl ?_
          refine wp_sipush (v := 20000) rfl rfl ?_
          refine wp_icmp_gt 55 rfl rfl (fun h11 => absurd h11 hle) (fun _ => ?_)
          refine wp_aload_n rfl rfl ?_
          refine q_getr rfl rfl (by first | rfl | assumption) rfl rfl ?_
          refine wp_iload_n rfl rfl ?_
          refine q_iald rfl (by first | rfl | assumption) (by assumption) ?_
          refine wp_aload_n rfl rfl ?_
          refine q_getr rfl rfl (by first | rfl | assumption) rfl rfl ?_
          refine wp_iload_n rfl rfl ?_
          refine q_iald rfl (by first | rfl | assumption) (by assumption) ?_
          refine cN1 rfl ln_9_88 s_X10_isIn m_X10_isIn (c_isIn G _ _ (x := J 43 (nI at_).toNatClampNeg) (a := ch at_) (by rw [hcl]; exact t4 at_ (Nat.le_refl _)) (by omega) _) rfl (Nat.le_of_ble_eq_true rfl) ?_
          refine wp_if_eq 39 rfl rfl (fun h21 => ?_) (fun h21 => ?_)
          · exact absurd (by rw [hcl, hbt]; simp [hok]) (b2_eq.mp h21)
          · refine wp_aload_n rfl rfl ?_
            refine wp_iload_n rfl rfl ?_
            refine cV1 rfl l_9_102 i_X9_lastWithMore m_X9_lastWithMore (by first | rfl | assumption) (by decide) (cl) rfl (Nat.le_of_ble_eq_true rfl) ?_
            refine wp_istore_n (lv' := [(2, _), (0, _), (1, _)]) rfl rfl (by decide) rfl ?_
            refine wp_iload_n rfl rfl ?_
            refine wp_if_ge 30 rfl rfl (fun _ => ?_) (fun h27 => absurd (nI_pos' (by omega)) h27)
            refine wp_aload_n rfl rfl ?_
            refine q_getr rfl rfl (by first | rfl | assumption) rfl rfl ?_
            refine wp_iload_n rfl rfl ?_
            refine wp_dup2 rfl rfl rfl ?_
            refine q_iald rfl (by first | rfl | assumption) (by assumption) ?_
            refine wp_iconst (v := 1) rfl rfl ?_
            refine wp_iadd rfl ?_
            refine q_iast rfl (by first | rfl | assumption) (by assumption) ?_
            refine wp_goto 48 rfl rfl ?_
            refine wp_aload_n rfl rfl ?_
            refine wp_dup rfl rfl ?_
            refine q_geti rfl rfl (by first | rfl | assumption) rfl ?_
            refine wp_iconst (v := 1) rfl rfl ?_
            refine wp_iadd rfl ?_
            refine q_puti rfl rfl (by first | rfl | assumption) (Or.inl rfl) rfl ?_
            refine wp_goto 8 rfl rfl ?_
            refine wp_loc (lv' := [(0, _), (1, _), (2, _)]) [1, 2, 0] rfl ?_
            rw [hclj, t4 j (by omega), nI_1, uI_ne (show (39 : Nat) ≠ 43 by decide), hlook]
            refine ih j (up ch j (ch j + 1)) _ (by omega) uI_eq (lkI_some hl hf ha) ⟨fun q hq => ?_, fun m hm s hs => ?_, fun m hm c hc => ?_, fun l hl2 => ?_, fun l hl2 c hc => ?_⟩ hs
            · rw [uI_fn (by omega), uI_fn (by omega)]; exact t1 q hq
            · rw [uI_ne (by decide), uI_ne (by decide)]; exact t2 m hm s hs
            · rw [uI_ne (by decide), uI_ne (by decide)]; exact t3 m hm c hc
            · rw [uI_ne (by decide)]
              by_cases e : l = j
              · subst e; rw [uI_eq, up_eq]
              · rw [uI_nk e, up_ne e]; exact t4 l (by omega)
            · rw [uI_ne (by decide), uI_ne (by decide), t5 l (by omega) c hc]
              congr 1
              exact exB_cg l (fun q hq => by rw [up_ne (by omega)])
  have cb0 := c_X9_begin G d (n := 0) J0 L b (by omega) (fun m hm => absurd hm (by omega))
  refine MT.intro m_X9_tryChannels rfl (Nat.le_of_ble_eq_true rfl) ?_
  show WQ G (d + 2) Y_X9_tryChannels Q 0 [(0, .ref 39), (1, .int (nI (nm - 1)))] [] (J0, L, RR b)
  refine wp_iconst (v := 0) rfl rfl ?_
  refine wp_istore_n (lv' := [(2, _), (0, _), (1, _)]) rfl rfl (by decide) rfl ?_
  refine wp_aload_n rfl rfl ?_
  refine wp_iload_n rfl rfl ?_
  refine cVr rfl l_9_95 i_X9_begin m_X9_begin (by first | rfl | assumption) (by decide) (cb0) rfl (Nat.le_of_ble_eq_true rfl) (fun r4 w4 hq4 => ?_)
  obtain ⟨rfl, J2, rfl, g1, g2, g3, g4⟩ := hq4
  refine wp_aload_n rfl rfl ?_
  refine wp_iconst (v := 1) rfl rfl ?_
  refine q_puti rfl rfl (by first | rfl | assumption) (Or.inl rfl) rfl ?_
  refine wp_loc (lv' := [(0, _), (1, _), (2, _)]) [1, 2, 0] rfl ?_
  refine loop 20000 0 (fun _ => 0) _ (Nat.le_refl _) uI_eq ⟨by omega, fun l _ => Nat.zero_le _, rfl⟩ ⟨fun q hq => ?_, fun m hm s hs => ?_, fun m hm c hc => ?_, fun l hl2 => ?_, fun l hl2 c hc => ?_⟩ hS
  · rw [uI_fn (by omega), g1 q (by omega) (by omega)]; exact hJ q hq
  · rw [uI_ne (by decide), g1 40 (by decide) (by decide)]; exact hN m hm s hs
  · rw [uI_ne (by decide), g1 41 (by decide) (by decide)]; exact hB m hm c hc
  · rw [uI_ne (by decide), show l = 0 by omega, g3]; rfl
  · rw [uI_ne (by decide), show l = 0 by omega]
    apply bool_iff
    rw [g4 c hc, hB 0 hn0 c hc]
    simp [exB]
