/-! channels: the reference's call, and the step -/
theorem MW_W {nm na nr : Nat} {I J : IF} (h : IW nm na nr I) (h1 : ∀ q, q ≠ 72 → q ≠ 95 → q ≠ 100 → J q = I q) (h2 : ∀ k, k ≠ 0 → k ≠ 31 → k ≠ 32 → J 72 k = I 72 k) : IW nm na nr J :=
  IW_fr h (fun k _ => by rw [h1 1 (by omega) (by omega) (by omega)]) (fun k hk => h2 k (by omega) (by omega) (by omega)) (fun m k hm _ _ _ => by rw [h1 (4 + m) (by omega) (by omega) (by omega)]) (fun a k ha _ => by rw [h1 (18 + a) (by omega) (by omega) (by omega)]) (fun a ha => by rw [h1 (18 + a) (by omega) (by omega) (by omega)]) (fun q hq => h1 q (by omega) (by omega) (by omega))
theorem MW_hO {nr s m : Nat} {I J : IF} (h1 : ∀ q, q ≠ 72 → q ≠ 95 → q ≠ 100 → J q = I q) (hnr : nr ≤ 16) (hs : s < 14) (hm : m < 14) : hO J nr s m = hO I nr s m :=
  hO_cg (by rw [h1 1 (by omega) (by omega) (by omega)]) (fun m k hm _ => by rw [h1 (4 + m) (by omega) (by omega) (by omega)]) (fun a ha => h1 (18 + a) (by omega) (by omega) (by omega)) hnr hs hm
theorem c_X11_channels_no (G : Gl) (d : Nat) (I : IF) (L : LF) (b : Bool) (hno : I 72 30 = -1 ∨ ¬ I 72 8 ≤ 0) : MD G d Y_X11_channels [.ref 72] (I, L, RR b) (some (.int (-9))) (uI I 72 0 0, L, RR b) := by
  cases d with
  | zero =>
    refine MT.intro m_X11_channels rfl (Nat.le_of_ble_eq_true rfl) ?_
    show WQ G 0 Y_X11_channels _ 0 [(0, .ref 72)] [] (I, L, RR b)
    refine wp_aload_n rfl rfl ?_
    refine wp_iconst (v := 0) rfl rfl ?_
    refine q_puti rfl rfl (by first | rfl | assumption) (Or.inl rfl) rfl ?_
    refine wp_aload_n rfl rfl ?_
    refine q_geti rfl rfl (by first | rfl | assumption) rfl ?_
    refine wp_iconst (v := (-1)) rfl rfl ?_
    refine wp_icmp_eq 10 rfl rfl (fun h6 => ?_) (fun h6 => ?_)
    · refine wp_bipush (v := (-9)) rfl rfl ?_
      exact wp_iret rfl rfl (⟨rfl, rfl⟩)
    · refine wp_aload_n rfl rfl ?_
      refine q_geti rfl rfl (by first | rfl | assumption) rfl ?_
      refine wp_if_le 12 rfl rfl (fun h9 => ?_) (fun h9 => ?_)
      · exact absurd h9 (by simp (disch := omega) only [uI_ne, uI_nk] at *; grind)
      · refine wp_bipush (v := (-9)) rfl rfl ?_
        exact wp_iret rfl rfl (⟨rfl, rfl⟩)
  | succ d =>
    refine MT.intro m_X11_channels rfl (Nat.le_of_ble_eq_true rfl) ?_
    show WQ G (d + 1) Y_X11_channels _ 0 [(0, .ref 72)] [] (I, L, RR b)
    refine wp_aload_n rfl rfl ?_
    refine wp_iconst (v := 0) rfl rfl ?_
    refine q_puti rfl rfl (by first | rfl | assumption) (Or.inl rfl) rfl ?_
    refine wp_aload_n rfl rfl ?_
    refine q_geti rfl rfl (by first | rfl | assumption) rfl ?_
    refine wp_iconst (v := (-1)) rfl rfl ?_
    refine wp_icmp_eq 10 rfl rfl (fun h6 => ?_) (fun h6 => ?_)
    · refine wp_bipush (v := (-9)) rfl rfl ?_
      exact wp_iret rfl rfl (⟨rfl, rfl⟩)
    · refine wp_aload_n rfl rfl ?_
      refine q_geti rfl rfl (by first | rfl | assumption) rfl ?_
      refine wp_if_le 12 rfl rfl (fun h9 => ?_) (fun h9 => ?_)
      · exact absurd h9 (by simp (disch := omega) only [uI_ne, uI_nk] at *; grind)
      · refine wp_bipush (v := (-9)) rfl rfl ?_
        exact wp_iret rfl rfl (⟨rfl, rfl⟩)
theorem c_X11_channels (G : Gl) (d : Nat) {nm na nr : Nat} (I : IF) (L : LF) (b : Bool) (h : IW nm na nr I) (hn0 : 0 < nm) (hp : ∀ m, m < nm → I 94 m = I (4 + m) 7) (hu : ∀ k, k < 4 → I 82 k = I (14 + k) 8) (h30 : ¬ I 72 30 = -1) (h8 : I 72 8 ≤ 0) {S : Int32 × Nat × (Nat → Nat)} (hS : srch (okB I nm na nr) (nm - 1) 20000 0 (fun _ => 0) = S) : MQ2 G (d + 3) Y_X11_channels [.ref 72] (I, L, RR b) (fun r w => r = some (.int (if S.1 = 1 then pcF (usd S.2.2 nm) 12 else S.1)) ∧ ∃ J : IF, w = (J, L, RR b) ∧ (∀ q, q ≠ 72 → q ≠ 95 → q ≠ 100 → J q = I q) ∧ (∀ k, k ≠ 0 → k ≠ 31 → k ≠ 32 → J 72 k = I 72 k) ∧ J 72 31 = nI S.2.1 ∧ J 72 32 = b2 (S.1 = 1) ∧ (S.1 = 1 → ∀ m, m < nm → J 95 m = nI (S.2.2 m))) := by
  have hn : nm ≤ 10 := h.1.1.2.2
  have hna : na ≤ 4 := h.1.2.1.2.2
  have hnr : nr ≤ 16 := h.1.2.2.2.2
  have i5 : I 72 5 = nI nm := h.1.1.2.1
  have i6 : I 72 6 = nI na := h.1.2.1.2.1
  generalize hQ : (fun (r : Option Value) (w : mW) => r = some (.int (if S.1 = 1 then pcF (usd S.2.2 nm) 12 else S.1)) ∧ ∃ J : IF, w = (J, L, RR b) ∧ (∀ q, q ≠ 72 → q ≠ 95 → q ≠ 100 → J q = I q) ∧ (∀ k, k ≠ 0 → k ≠ 31 → k ≠ 32 → J 72 k = I 72 k) ∧ J 72 31 = nI S.2.1 ∧ J 72 32 = b2 (S.1 = 1) ∧ (S.1 = 1 → ∀ m, m < nm → J 95 m = nI (S.2.2 m))) = Q
  -- a failing candidate: the next one, or the end
  have advL : ∀ (ch : Nat → Nat) (lk : Int32), ∀ (at_ : Nat), at_ < nm → (∀ l, l ≤ at_ → ch l ≤ 11) → ∀ J : IF, MWd I nm na nr J → J 72 32 = 0 → J 72 31 = lk → (∀ l, l ≤ at_ → J 95 l = nI (ch l)) →
      (∀ j J2, adv ch at_ = some j → MWd I nm na nr J2 → J2 72 32 = 0 → J2 72 31 = lk → (∀ l, l ≤ j → J2 95 l = nI (up ch j (ch j + 1) l)) → WQ G (d + 3) Y_X11_channels Q 97 [(0, .ref 72), (1, .int (nI j))] [] (J2, L, RR b)) →
      (adv ch at_ = none → ∀ J2, MWd I nm na nr J2 → J2 72 32 = 0 → J2 72 31 = lk → Q (some (.int (-1))) (J2, L, RR b)) → WQ G (d + 3) Y_X11_channels Q 79 [(0, .ref 72), (1, .int (nI at_))] [] (J, L, RR b) := by
    intro ch lk at_
    induction at_ with
    | zero =>
      intro hat hc J hJ h32 h31 h95 K1 K2
      have hz : ¬ nI 0 < (0 : Int32) := by decide
      have hin : vp_in (nI 0) 10 := vp_in_nI (by omega) (by omega)
      have hcl : (nI 0).toNatClampNeg = 0 := rfl
      have hc0 := hc 0 (Nat.le_refl _)
      have hJ2 : MWd I nm na nr (uI J 95 0 (nI (ch 0 + 1))) := ⟨fun q a1 a2 a3 => by rw [uI_fn a2]; exact hJ.1 q a1 a2 a3, fun k a1 a2 a3 => by rw [uI_ne (by decide)]; exact hJ.2.1 k a1 a2 a3, fun m s hm hs => by rw [uI_ne (by decide)]; exact hJ.2.2 m s hm hs⟩
      by_cases h11 : ch 0 < 11
      · have hne : ¬ nI (ch 0 + 1) = (12 : Int32) := fun z => by have := (nI_eq (a := ch 0 + 1) (b := 12) (by omega) (by omega)).mp z; omega
        have ha : adv ch 0 = some 0 := by simp only [adv]; rw [if_pos h11]
        refine wp_iload_n rfl rfl ?_
        refine wp_if_lt 141 rfl rfl (fun h80 => absurd h80 hz) (fun _ => ?_)
        refine wp_aload_n rfl rfl ?_
        refine q_getr rfl rfl (by first | rfl | assumption) rfl rfl ?_
        refine wp_iload_n rfl rfl ?_
        refine wp_dup2 rfl rfl rfl ?_
        refine q_iald rfl (by first | rfl | assumption) (by assumption) ?_
        refine wp_iconst (v := 1) rfl rfl ?_
        refine wp_iadd rfl ?_
        rw [hcl, h95 0 (Nat.le_refl _), nI_1]
        refine q_iast rfl (by first | rfl | assumption) (by assumption) ?_
        refine wp_aload_n rfl rfl ?_
        refine q_getr rfl rfl (by first | rfl | assumption) rfl rfl ?_
        refine wp_iload_n rfl rfl ?_
        refine q_iald rfl (by first | rfl | assumption) (by assumption) ?_
        refine wp_bipush (v := 12) rfl rfl ?_
        rw [hcl, uI_eq]
        refine wp_icmp_ne 97 rfl rfl (fun _ => ?_) (fun h94 => absurd h94 hne)
        exact K1 0 _ ha hJ2 (by rw [uI_ne (by decide)]; exact h32) (by rw [uI_ne (by decide)]; exact h31) (fun l hl => by rw [show l = 0 by omega, uI_eq, up_eq])
      · have he : nI (ch 0 + 1) = (12 : Int32) := by rw [show ch 0 + 1 = 12 by omega]; rfl
        have ha : adv ch 0 = none := by simp only [adv]; rw [if_neg h11]
        refine wp_iload_n rfl rfl ?_
        refine wp_if_lt 141 rfl rfl (fun h80 => absurd h80 hz) (fun _ => ?_)
        refine wp_aload_n rfl rfl ?_
        refine q_getr rfl rfl (by first | rfl | assumption) rfl rfl ?_
        refine wp_iload_n rfl rfl ?_
        refine wp_dup2 rfl rfl rfl ?_
        refine q_iald rfl (by first | rfl | assumption) (by assumption) ?_
        refine wp_iconst (v := 1) rfl rfl ?_
        refine wp_iadd rfl ?_
        rw [hcl, h95 0 (Nat.le_refl _), nI_1]
        refine q_iast rfl (by first | rfl | assumption) (by assumption) ?_
        refine wp_aload_n rfl rfl ?_
        refine q_getr rfl rfl (by first | rfl | assumption) rfl rfl ?_
        refine wp_iload_n rfl rfl ?_
        refine q_iald rfl (by first | rfl | assumption) (by assumption) ?_
        refine wp_bipush (v := 12) rfl rfl ?_
        rw [hcl, uI_eq]
        refine wp_icmp_ne 97 rfl rfl (fun h94 => absurd he h94) (fun _ => ?_)
        refine wp_iinc (lv' := [(1, _), (0, _)]) rfl rfl rfl (by decide) rfl ?_
        refine wp_goto 79 rfl rfl ?_
        refine wp_loc (lv' := [(0, _), (1, _)]) [1, 0] rfl ?_
        refine wp_iload_n rfl rfl ?_
        refine wp_if_lt 141 rfl rfl (fun _ => ?_) (fun h => absurd (by decide) h)
        refine wp_iconst (v := (-1)) rfl rfl ?_
        exact wp_iret rfl rfl (K2 ha _ hJ2 (by rw [uI_ne (by decide)]; exact h32) (by rw [uI_ne (by decide)]; exact h31))
    | succ at_ ih =>
      intro hat hc J hJ h32 h31 h95 K1 K2
      have hz : ¬ nI (at_ + 1) < (0 : Int32) := nI_pos (by omega)
      have hin : vp_in (nI (at_ + 1)) 10 := vp_in_nI (by omega) (by omega)
      have hcl : (nI (at_ + 1)).toNatClampNeg = at_ + 1 := nI_clamp (by omega)
      have hc0 := hc (at_ + 1) (Nat.le_refl _)
      have hJ2 : MWd I nm na nr (uI J 95 (at_ + 1) (nI (ch (at_ + 1) + 1))) := ⟨fun q a1 a2 a3 => by rw [uI_fn a2]; exact hJ.1 q a1 a2 a3, fun k a1 a2 a3 => by rw [uI_ne (by decide)]; exact hJ.2.1 k a1 a2 a3, fun m s hm hs => by rw [uI_ne (by decide)]; exact hJ.2.2 m s hm hs⟩
      by_cases h11 : ch (at_ + 1) < 11
      · have hne : ¬ nI (ch (at_ + 1) + 1) = (12 : Int32) := fun z => by have := (nI_eq (a := ch (at_ + 1) + 1) (b := 12) (by omega) (by omega)).mp z; omega
        have ha : adv ch (at_ + 1) = some (at_ + 1) := by simp only [adv]; rw [if_pos h11]
        refine wp_iload_n rfl rfl ?_
        refine wp_if_lt 141 rfl rfl (fun h80 => absurd h80 hz) (fun _ => ?_)
        refine wp_aload_n rfl rfl ?_
        refine q_getr rfl rfl (by first | rfl | assumption) rfl rfl ?_
        refine wp_iload_n rfl rfl ?_
        refine wp_dup2 rfl rfl rfl ?_
        refine q_iald rfl (by first | rfl | assumption) (by assumption) ?_
        refine wp_iconst (v := 1) rfl rfl ?_
        refine wp_iadd rfl ?_
        rw [hcl, h95 (at_ + 1) (Nat.le_refl _), nI_1]
        refine q_iast rfl (by first | rfl | assumption) (by assumption) ?_
        refine wp_aload_n rfl rfl ?_
        refine q_getr rfl rfl (by first | rfl | assumption) rfl rfl ?_
        refine wp_iload_n rfl rfl ?_
        refine q_iald rfl (by first | rfl | assumption) (by assumption) ?_
        refine wp_bipush (v := 12) rfl rfl ?_
        rw [hcl, uI_eq]
        refine wp_icmp_ne 97 rfl rfl (fun _ => ?_) (fun h94 => absurd h94 hne)
        exact K1 (at_ + 1) _ ha hJ2 (by rw [uI_ne (by decide)]; exact h32) (by rw [uI_ne (by decide)]; exact h31) (fun l hl => by
          by_cases e : l = at_ + 1
          · rw [e, uI_eq, up_eq]
          · rw [uI_nk e, up_ne e]; exact h95 l (by omega))
      · have he : nI (ch (at_ + 1) + 1) = (12 : Int32) := by rw [show ch (at_ + 1) + 1 = 12 by omega]; rfl
        have ha : adv ch (at_ + 1) = adv ch at_ := by simp only [adv]; rw [if_neg h11]
        have hdec : nI (at_ + 1) + Int32.ofInt (-1) = nI at_ := by rw [show Int32.ofInt (-1) = (-1 : Int32) from rfl]; have := nI_pred at_; grind
        refine wp_iload_n rfl rfl ?_
        refine wp_if_lt 141 rfl rfl (fun h80 => absurd h80 hz) (fun _ => ?_)
        refine wp_aload_n rfl rfl ?_
        refine q_getr rfl rfl (by first | rfl | assumption) rfl rfl ?_
        refine wp_iload_n rfl rfl ?_
        refine wp_dup2 rfl rfl rfl ?_
        refine q_iald rfl (by first | rfl | assumption) (by assumption) ?_
        refine wp_iconst (v := 1) rfl rfl ?_
        refine wp_iadd rfl ?_
        rw [hcl, h95 (at_ + 1) (Nat.le_refl _), nI_1]
        refine q_iast rfl (by first | rfl | assumption) (by assumption) ?_
        refine wp_aload_n rfl rfl ?_
        refine q_getr rfl rfl (by first | rfl | assumption) rfl rfl ?_
        refine wp_iload_n rfl rfl ?_
        refine q_iald rfl (by first | rfl | assumption) (by assumption) ?_
        refine wp_bipush (v := 12) rfl rfl ?_
        rw [hcl, uI_eq]
        refine wp_icmp_ne 97 rfl rfl (fun h94 => absurd he h94) (fun _ => ?_)
        refine wp_iinc (v := nI at_) (lv' := [(1, _), (0, _)]) rfl rfl (hdec) (by decide) rfl ?_
        refine wp_goto 79 rfl rfl ?_
        refine wp_loc (lv' := [(0, _), (1, _)]) [1, 0] rfl ?_
        exact ih (by omega) (fun l hl => hc l (by omega)) _ hJ2 (by rw [uI_ne (by decide)]; exact h32) (by rw [uI_ne (by decide)]; exact h31) (fun l hl => by rw [uI_nk (by omega)]; exact h95 l (by omega)) (fun j J2 hj => K1 j J2 (ha.trans hj)) (fun hj => K2 (ha.trans hj))
  -- one look
  have look : ∀ (f at_ : Nat) (ch : Nat → Nat) (J : IF), f + 1 ≤ 20000 → J 72 31 = nI (20000 - (f + 1)) → J 72 32 = 0 → lkI (nm - 1) (f + 1) at_ ch → MWd I nm na nr J → (∀ l, l ≤ at_ → J 95 l = nI (ch l)) → srch (okB I nm na nr) (nm - 1) (f + 1) at_ ch = S → WQ G (d + 3) Y_X11_channels Q 97 [(0, .ref 72), (1, .int (nI at_))] [] (J, L, RR b) := by
    intro f
    induction f with
    | zero =>
      intro at_ ch J hf h31 h32 hl hJ h95 hs
      have hat : at_ < nm := by have := hl.1; omega
      have hin : vp_in (nI at_) 10 := vp_in_nI (by omega) (by omega)
      have hcl : (nI at_).toNatClampNeg = at_ := nI_clamp (by omega)
      have e31 : J 72 31 + 1 = 20000 := by rw [h31]; decide
      have hJ2 : MWd I nm na nr (uI J 72 31 20000) := ⟨fun q a1 a2 a3 => by rw [uI_fn a1]; exact hJ.1 q a1 a2 a3, fun k a1 a2 a3 => by rw [uI_nk a2]; exact hJ.2.1 k a1 a2 a3, fun m s hm hs => by rw [uI_ne (by decide)]; exact hJ.2.2 m s hm hs⟩
      have cg := c_X11_goes G (d + 2) (x := nI at_) (y := J 95 at_) I (uI J 72 31 20000) L b h hp hu hJ2 hat (ch := ch) (fun l hl2 => by rw [uI_ne (by decide)]; exact h95 l hl2) (fun l hl2 => hl.2.1 l hl2) rfl (h95 at_ (Nat.le_refl _))
      have j5 : uI J 72 31 20000 72 5 - 1 = nI (nm - 1) := by rw [uI_nk (by decide), hJ.2.1 5 (by decide) (by decide) (by decide), i5]; exact nI_m1 hn0
      have end4 : S.1 = -4 → S.2.1 = 20000 → Q (some (.int (-4))) (uI J 72 31 20000, L, RR b) := fun z1 z2 => by
        rw [← hQ]
        have z3 : ¬ S.1 = 1 := by rw [z1]; decide
        rw [if_neg z3, z1]
        exact ⟨rfl, _, rfl, hJ2.1, hJ2.2.1, by rw [uI_eq, z2]; rfl, by rw [uI_nk (by decide), h32]; rfl, fun z => absurd z (by decide)⟩
      simp only [srch] at hs
      by_cases hok : okB I nm na nr ch at_ = true
      · rw [if_pos hok] at hs
        rw [b2_t hok] at cg
        by_cases hla : nm - 1 ≤ at_
        · rw [if_pos hla] at hs
          have he : nI at_ = nI (nm - 1) := by congr 1; omega
          have cu := c_X11_unlike G (d + 2) (nm := nm) (uI (uI J 72 31 20000) 72 32 1) L b (by rw [uI_nk (by decide), uI_nk (by decide), hJ.2.1 5 (by decide) (by decide) (by decide)]; exact i5) hn (ch := ch) (fun l hl2 => by rw [uI_ne (by decide), uI_ne (by decide)]; exact h95 l (by omega))
          refine wp_aload_n rfl rfl ?_
          refine wp_dup rfl rfl ?_
          refine q_geti rfl rfl (by first | rfl | assumption) rfl ?_
          refine wp_iconst (v := 1) rfl rfl ?_
          refine wp_iadd rfl ?_
          rw [e31]
          refine q_puti rfl rfl (by first | rfl | assumption) (Or.inl rfl) rfl ?_
          refine wp_aload_n rfl rfl ?_
          refine wp_iload_n rfl rfl ?_
          refine wp_aload_n rfl rfl ?_
          refine q_getr rfl rfl (by first | rfl | assumption) rfl rfl ?_
          refine wp_iload_n rfl rfl ?_
          refine q_iald rfl rfl hin ?_
          rw [hcl, uI_ne (show (95 : Nat) ≠ 72 by decide)]
          refine cV1 rfl l_11_206 i_X11_goes m_X11_goes (by first | rfl | assumption) (by decide) (cg) rfl (Nat.le_of_ble_eq_true rfl) ?_
          refine wp_istore_n (lv' := [(2, _), (0, _), (1, _)]) rfl rfl (by decide) rfl ?_
          refine wp_iload_n rfl rfl ?_
          refine wp_if_eq 125 rfl rfl (fun h112 => absurd h112 (by decide)) (fun _ => ?_)
          refine wp_iload_n rfl rfl ?_
          refine wp_aload_n rfl rfl ?_
          refine q_geti rfl rfl (by first | rfl | assumption) rfl ?_
          refine wp_iconst (v := 1) rfl rfl ?_
          refine wp_isub rfl ?_
          rw [j5]
          refine wp_icmp_ne 125 rfl rfl (fun h118 => absurd he h118) (fun _ => ?_)
          refine wp_aload_n rfl rfl ?_
          refine wp_iconst (v := 1) rfl rfl ?_
          refine q_putz rfl rfl (by first | rfl | assumption) (Or.inl rfl) rfl (Or.inr rfl) ?_
          refine wp_aload_n rfl rfl ?_
          refine cV1 rfl l_11_209 i_X11_unlike m_X11_unlike (by first | rfl | assumption) (by decide) (cu) rfl (Nat.le_of_ble_eq_true rfl) ?_
          exact wp_iret rfl rfl (by
rw [← hQ, ← hs]
refine ⟨rfl, _, rfl, fun q a1 a2 a3 => ?_, fun k a1 a2 a3 => ?_, ?_, ?_, fun _ m hm => ?_⟩
· rw [uI_fn a1]; exact hJ2.1 q a1 a2 a3
· rw [uI_nk a3]; exact hJ2.2.1 k a1 a2 a3
· rw [uI_nk (by decide), uI_eq]; rfl
· rw [uI_eq]; rfl
· rw [uI_ne (by decide), uI_ne (by decide)]; exact h95 m (by omega))
        · rw [if_neg hla] at hs
          try simp only [srch] at hs
          have he : ¬ nI at_ = nI (nm - 1) := fun z => by have := (nI_eq (by omega) (by omega)).mp z; omega
          refine wp_aload_n rfl rfl ?_
          refine wp_dup rfl rfl ?_
          refine q_geti rfl rfl (by first | rfl | assumption) rfl ?_
          refine wp_iconst (v := 1) rfl rfl ?_
          refine wp_iadd rfl ?_
          rw [e31]
          refine q_puti rfl rfl (by first | rfl | assumption) (Or.inl rfl) rfl ?_
          refine wp_aload_n rfl rfl ?_
          refine wp_iload_n rfl rfl ?_
          refine wp_aload_n rfl rfl ?_
          refine q_getr rfl rfl (by first | rfl | assumption) rfl rfl ?_
          refine wp_iload_n rfl rfl ?_
          refine q_iald rfl rfl hin ?_
          rw [hcl, uI_ne (show (95 : Nat) ≠ 72 by decide)]
          refine cV1 rfl l_11_206 i_X11_goes m_X11_goes (by first | rfl | assumption) (by decide) (cg) rfl (Nat.le_of_ble_eq_true rfl) ?_
          refine wp_istore_n (lv' := [(2, _), (0, _), (1, _)]) rfl rfl (by decide) rfl ?_
          refine wp_iload_n rfl rfl ?_
          refine wp_if_eq 125 rfl rfl (fun h112 => absurd h112 (by decide)) (fun _ => ?_)
          refine wp_iload_n rfl rfl ?_
          refine wp_aload_n rfl rfl ?_
          refine q_geti rfl rfl (by first | rfl | assumption) rfl ?_
          refine wp_iconst (v := 1) rfl rfl ?_
          refine wp_isub rfl ?_
          rw [j5]
          refine wp_icmp_ne 125 rfl rfl (fun _ => ?_) (fun h118 => absurd h118 he)
          refine wp_aload_n rfl rfl ?_
          refine q_geti rfl rfl (by first | rfl | assumption) rfl ?_
          refine wp_sipush (v := 20000) rfl rfl ?_
          refine wp_icmp_ne 131 rfl rfl (fun h128 => absurd uI_eq h128) (fun _ => ?_)
          refine wp_bipush (v := (-4)) rfl rfl ?_
          exact wp_iret rfl rfl (end4 (by rw [← hs]) (by rw [← hs]))
      · rw [if_neg hok] at hs
        rw [b2_f hok] at cg
        have hS4 : S.1 = -4 ∧ S.2.1 = 20000 := by
          cases ha : adv ch at_ with
          | none => exact absurd rfl (lkI_none hl hf ha)
          | some j => rw [ha] at hs; simp only [srch] at hs; rw [← hs]; exact ⟨rfl, rfl⟩
        refine wp_aload_n rfl rfl ?_
        refine wp_dup rfl rfl ?_
        refine q_geti rfl rfl (by first | rfl | assumption) rfl ?_
        refine wp_iconst (v := 1) rfl rfl ?_
        refine wp_iadd rfl ?_
        rw [e31]
        refine q_puti rfl rfl (by first | rfl | assumption) (Or.inl rfl) rfl ?_
        refine wp_aload_n rfl rfl ?_
        refine wp_iload_n rfl rfl ?_
        refine wp_aload_n rfl rfl ?_
        refine q_getr rfl rfl (by first | rfl | assumption) rfl rfl ?_
        refine wp_iload_n rfl rfl ?_
        refine q_iald rfl rfl hin ?_
        rw [hcl, uI_ne (show (95 : Nat) ≠ 72 by decide)]
        refine cV1 rfl l_11_206 i_X11_goes m_X11_goes (by first | rfl | assumption) (by decide) (cg) rfl (Nat.le_of_ble_eq_true rfl) ?_
        refine wp_istore_n (lv' := [(2, _), (0, _), (1, _)]) rfl rfl (by decide) rfl ?_
        refine wp_iload_n rfl rfl ?_
        refine wp_if_eq 125 rfl rfl (fun _ => ?_) (fun h112 => absurd rfl h112)
        refine wp_aload_n rfl rfl ?_
        refine q_geti rfl rfl (by first | rfl | assumption) rfl ?_
        refine wp_sipush (v := 20000) rfl rfl ?_
        refine wp_icmp_ne 131 rfl rfl (fun h128 => absurd uI_eq h128) (fun _ => ?_)
        refine wp_bipush (v := (-4)) rfl rfl ?_
        exact wp_iret rfl rfl (end4 hS4.1 hS4.2)
    | succ f ih =>
      intro at_ ch J hf h31 h32 hl hJ h95 hs
      have hat : at_ < nm := by have := hl.1; omega
      have hin : vp_in (nI at_) 10 := vp_in_nI (by omega) (by omega)
      have hcl : (nI at_).toNatClampNeg = at_ := nI_clamp (by omega)
      have e31 : J 72 31 + 1 = nI (20000 - (f + 1)) := by rw [h31, nI_1]; congr 1; omega
      have hJ2 : MWd I nm na nr (uI J 72 31 (nI (20000 - (f + 1)))) := ⟨fun q a1 a2 a3 => by rw [uI_fn a1]; exact hJ.1 q a1 a2 a3, fun k a1 a2 a3 => by rw [uI_nk a2]; exact hJ.2.1 k a1 a2 a3, fun m s hm hs => by rw [uI_ne (by decide)]; exact hJ.2.2 m s hm hs⟩
      have h95b : ∀ l, l ≤ at_ → uI J 72 31 (nI (20000 - (f + 1))) 95 l = nI (ch l) := fun l hl2 => by rw [uI_ne (by decide)]; exact h95 l hl2
      have h32b : uI J 72 31 (nI (20000 - (f + 1))) 72 32 = 0 := by rw [uI_nk (by decide)]; exact h32
      have cg := c_X11_goes G (d + 2) (x := nI at_) (y := J 95 at_) I (uI J 72 31 (nI (20000 - (f + 1)))) L b h hp hu hJ2 hat (ch := ch) h95b (fun l hl2 => hl.2.1 l hl2) rfl (h95 at_ (Nat.le_refl _))
      have j5 : uI J 72 31 (nI (20000 - (f + 1))) 72 5 - 1 = nI (nm - 1) := by rw [uI_nk (by decide), hJ.2.1 5 (by decide) (by decide) (by decide), i5]; exact nI_m1 hn0
      have hlk : ¬ uI J 72 31 (nI (20000 - (f + 1))) 72 31 = (20000 : Int32) := by
        rw [uI_eq]
        intro z
        have := (nI_eq (a := 20000 - (f + 1)) (b := 20000) (by omega) (by omega)).mp z
        omega
      rw [srch] at hs
      by_cases hok : okB I nm na nr ch at_ = true
      · rw [if_pos hok] at hs
        rw [b2_t hok] at cg
        by_cases hla : nm - 1 ≤ at_
        · rw [if_pos hla] at hs
          have he : nI at_ = nI (nm - 1) := by congr 1; omega
          have cu := c_X11_unlike G (d + 2) (nm := nm) (uI (uI J 72 31 (nI (20000 - (f + 1)))) 72 32 1) L b (by rw [uI_nk (by decide), uI_nk (by decide), hJ.2.1 5 (by decide) (by decide) (by decide)]; exact i5) hn (ch := ch) (fun l hl2 => by rw [uI_ne (by decide)]; exact h95b l (by omega))
          refine wp_aload_n rfl rfl ?_
          refine wp_dup rfl rfl ?_
          refine q_geti rfl rfl (by first | rfl | assumption) rfl ?_
          refine wp_iconst (v := 1) rfl rfl ?_
          refine wp_iadd rfl ?_
          rw [e31]
          refine q_puti rfl rfl (by first | rfl | assumption) (Or.inl rfl) rfl ?_
          refine wp_aload_n rfl rfl ?_
          refine wp_iload_n rfl rfl ?_
          refine wp_aload_n rfl rfl ?_
          refine q_getr rfl rfl (by first | rfl | assumption) rfl rfl ?_
          refine wp_iload_n rfl rfl ?_
          refine q_iald rfl rfl hin ?_
          rw [hcl, uI_ne (show (95 : Nat) ≠ 72 by decide)]
          refine cV1 rfl l_11_206 i_X11_goes m_X11_goes (by first | rfl | assumption) (by decide) (cg) rfl (Nat.le_of_ble_eq_true rfl) ?_
          refine wp_istore_n (lv' := [(2, _), (0, _), (1, _)]) rfl rfl (by decide) rfl ?_
          refine wp_iload_n rfl rfl ?_
          refine wp_if_eq 125 rfl rfl (fun h112 => absurd h112 (by decide)) (fun _ => ?_)
          refine wp_iload_n rfl rfl ?_
          refine wp_aload_n rfl rfl ?_
          refine q_geti rfl rfl (by first | rfl | assumption) rfl ?_
          refine wp_iconst (v := 1) rfl rfl ?_
          refine wp_isub rfl ?_
          rw [j5]
          refine wp_icmp_ne 125 rfl rfl (fun h118 => absurd he h118) (fun _ => ?_)
          refine wp_aload_n rfl rfl ?_
          refine wp_iconst (v := 1) rfl rfl ?_
          refine q_putz rfl rfl (by first | rfl | assumption) (Or.inl rfl) rfl (Or.inr rfl) ?_
          refine wp_aload_n rfl rfl ?_
          refine cV1 rfl l_11_209 i_X11_unlike m_X11_unlike (by first | rfl | assumption) (by decide) (cu) rfl (Nat.le_of_ble_eq_true rfl) ?_
          exact wp_iret rfl rfl (by
rw [← hQ, ← hs]
refine ⟨rfl, _, rfl, fun q a1 a2 a3 => ?_, fun k a1 a2 a3 => ?_, ?_, ?_, fun _ m hm => ?_⟩
· rw [uI_fn a1]; exact hJ2.1 q a1 a2 a3
· rw [uI_nk a3]; exact hJ2.2.1 k a1 a2 a3
· rw [uI_nk (by decide), uI_eq]
· rw [uI_eq]; rfl
· rw [uI_ne (by decide)]; exact h95b m (by omega))
        · rw [if_neg hla] at hs
          have he : ¬ nI at_ = nI (nm - 1) := fun z => by have := (nI_eq (by omega) (by omega)).mp z; omega
          have hz : ¬ nI (at_ + 1) < (0 : Int32) := nI_pos (by omega)
          have hin1 : vp_in (nI (at_ + 1)) 10 := vp_in_nI (by omega) (by omega)
          have hcl1 : (nI (at_ + 1)).toNatClampNeg = at_ + 1 := nI_clamp (by omega)
          refine wp_aload_n rfl rfl ?_
          refine wp_dup rfl rfl ?_
          refine q_geti rfl rfl (by first | rfl | assumption) rfl ?_
          refine wp_iconst (v := 1) rfl rfl ?_
          refine wp_iadd rfl ?_
          rw [e31]
          refine q_puti rfl rfl (by first | rfl | assumption) (Or.inl rfl) rfl ?_
          refine wp_aload_n rfl rfl ?_
          refine wp_iload_n rfl rfl ?_
          refine wp_aload_n rfl rfl ?_
          refine q_getr rfl rfl (by first | rfl | assumption) rfl rfl ?_
          refine wp_iload_n rfl rfl ?_
          refine q_iald rfl rfl hin ?_
          rw [hcl, uI_ne (show (95 : Nat) ≠ 72 by decide)]
          refine cV1 rfl l_11_206 i_X11_goes m_X11_goes (by first | rfl | assumption) (by decide) (cg) rfl (Nat.le_of_ble_eq_true rfl) ?_
          refine wp_istore_n (lv' := [(2, _), (0, _), (1, _)]) rfl rfl (by decide) rfl ?_
          refine wp_iload_n rfl rfl ?_
          refine wp_if_eq 125 rfl rfl (fun h112 => absurd h112 (by decide)) (fun _ => ?_)
          refine wp_iload_n rfl rfl ?_
          refine wp_aload_n rfl rfl ?_
          refine q_geti rfl rfl (by first | rfl | assumption) rfl ?_
          refine wp_iconst (v := 1) rfl rfl ?_
          refine wp_isub rfl ?_
          rw [j5]
          refine wp_icmp_ne 125 rfl rfl (fun _ => ?_) (fun h118 => absurd h118 he)
          refine wp_aload_n rfl rfl ?_
          refine q_geti rfl rfl (by first | rfl | assumption) rfl ?_
          refine wp_sipush (v := 20000) rfl rfl ?_
          refine wp_icmp_ne 131 rfl rfl (fun _ => ?_) (fun h128 => absurd h128 hlk)
          refine wp_iload_n rfl rfl ?_
          refine wp_if_ne 134 rfl rfl (fun _ => ?_) (fun h132 => absurd h132 (by decide))
          refine wp_iinc (v := nI (at_ + 1)) (lv' := [(1, _), (2, _), (0, _)]) rfl rfl (nI_1 at_) (by decide) rfl ?_
          refine wp_aload_n rfl rfl ?_
          refine q_getr rfl rfl (by first | rfl | assumption) rfl rfl ?_
          refine wp_iload_n rfl rfl ?_
          refine wp_iconst (v := (-1)) rfl rfl ?_
          refine q_iast rfl (by first | rfl | assumption) (by assumption) ?_
          refine wp_goto 79 rfl rfl ?_
          refine wp_iload_n rfl rfl ?_
          refine wp_if_lt 141 rfl rfl (fun h80 => absurd h80 hz) (fun _ => ?_)
          refine wp_aload_n rfl rfl ?_
          refine q_getr rfl rfl (by first | rfl | assumption) rfl rfl ?_
          refine wp_iload_n rfl rfl ?_
          refine wp_dup2 rfl rfl rfl ?_
          refine q_iald rfl (by first | rfl | assumption) (by assumption) ?_
          refine wp_iconst (v := 1) rfl rfl ?_
          refine wp_iadd rfl ?_
          rw [hcl1, uI_eq]
          refine q_iast rfl (by first | rfl | assumption) (by assumption) ?_
          refine wp_aload_n rfl rfl ?_
          refine q_getr rfl rfl (by first | rfl | assumption) rfl rfl ?_
          refine wp_iload_n rfl rfl ?_
          refine q_iald rfl (by first | rfl | assumption) (by assumption) ?_
          refine wp_bipush (v := 12) rfl rfl ?_
          rw [hcl1, uI_eq]
          refine wp_icmp_ne 97 rfl rfl (fun _ => ?_) (fun h94 => absurd h94 (by decide))
          refine wp_loc (lv' := [(0, _), (1, _)]) [2, 0] rfl ?_
          refine ih (at_ + 1) (up ch (at_ + 1) 0) _ (by omega) (by rw [uI_ne (by decide), uI_ne (by decide), uI_eq]) (by rw [uI_ne (by decide), uI_ne (by decide)]; exact h32b) (lkI_next hl hf (by omega)) ⟨fun q a1 a2 a3 => by rw [uI_fn a2, uI_fn a2]; exact hJ2.1 q a1 a2 a3, fun k a1 a2 a3 => by rw [uI_ne (by decide), uI_ne (by decide)]; exact hJ2.2.1 k a1 a2 a3, fun m s hm hs => by rw [uI_ne (by decide), uI_ne (by decide)]; exact hJ2.2.2 m s hm hs⟩ (fun l hl2 => ?_) hs
          by_cases e : l = at_ + 1
          · rw [e, uI_eq, up_eq]; rfl
          · rw [uI_nk e, uI_nk e, up_ne e]; exact h95b l (by omega)
      · rw [if_neg hok] at hs
        rw [b2_f hok] at cg
        refine wp_aload_n rfl rfl ?_
        refine wp_dup rfl rfl ?_
        refine q_geti rfl rfl (by first | rfl | assumption) rfl ?_
        refine wp_iconst (v := 1) rfl rfl ?_
        refine wp_iadd rfl ?_
        rw [e31]
        refine q_puti rfl rfl (by first | rfl | assumption) (Or.inl rfl) rfl ?_
        refine wp_aload_n rfl rfl ?_
        refine wp_iload_n rfl rfl ?_
        refine wp_aload_n rfl rfl ?_
        refine q_getr rfl rfl (by first | rfl | assumption) rfl rfl ?_
        refine wp_iload_n rfl rfl ?_
        refine q_iald rfl rfl hin ?_
        rw [hcl, uI_ne (show (95 : Nat) ≠ 72 by decide)]
        refine cV1 rfl l_11_206 i_X11_goes m_X11_goes (by first | rfl | assumption) (by decide) (cg) rfl (Nat.le_of_ble_eq_true rfl) ?_
        refine wp_istore_n (lv' := [(2, _), (0, _), (1, _)]) rfl rfl (by decide) rfl ?_
        refine wp_iload_n rfl rfl ?_
        refine wp_if_eq 125 rfl rfl (fun _ => ?_) (fun h112 => absurd rfl h112)
        refine wp_aload_n rfl rfl ?_
        refine q_geti rfl rfl (by first | rfl | assumption) rfl ?_
        refine wp_sipush (v := 20000) rfl rfl ?_
        refine wp_icmp_ne 131 rfl rfl (fun _ => ?_) (fun h128 => absurd h128 hlk)
        refine wp_iload_n rfl rfl ?_
        refine wp_if_ne 134 rfl rfl (fun h132 => absurd h132 (by decide)) (fun _ => ?_)
        refine wp_goto 79 rfl rfl ?_
        refine wp_loc (lv' := [(0, _), (1, _)]) [1, 2] rfl ?_
        refine advL ch (nI (20000 - (f + 1))) at_ hat (fun l hl2 => hl.2.1 l hl2) _ hJ2 h32b uI_eq h95b (fun j J2 hj a1 a2 a3 a4 => ?_) (fun hj J2 a1 a2 a3 => ?_)
        · rw [hj] at hs
          exact ih j (up ch j (ch j + 1)) J2 (by omega) a3 a2 (lkI_some hl hf hj) a1 a4 hs
        · rw [hj] at hs
          rw [← hQ, ← hs]
          exact ⟨rfl, J2, rfl, a1.1, a1.2.1, a3, by rw [a2]; rfl, fun z => absurd (show (-1 : Int32) = 1 from z) (by decide)⟩
  have begin_ : ∀ J : IF, MWd I nm na nr J → J 72 31 = 0 → J 72 32 = 0 → WQ G (d + 3) Y_X11_channels Q 72 [(0, .ref 72)] [] (J, L, RR b) := by
    intro J hJ h31 h32
    have hin : vp_in (0 : Int32) 10 := vp_in_nI (n := 0) (by omega) (by omega)
    have hcl : (0 : Int32).toNatClampNeg = 0 := rfl
    refine wp_iconst (v := 0) rfl rfl ?_
    refine wp_istore_n (lv' := [(1, _), (0, _)]) rfl rfl (by decide) rfl ?_
    refine wp_aload_n rfl rfl ?_
    refine q_getr rfl rfl (by first | rfl | assumption) rfl rfl ?_
    refine wp_iconst (v := 0) rfl rfl ?_
    refine wp_iconst (v := (-1)) rfl rfl ?_
    refine q_iast rfl (by first | rfl | assumption) (by assumption) ?_
    refine wp_iload_n rfl rfl ?_
    refine wp_if_lt 141 rfl rfl (fun h80 => absurd h80 (by decide)) (fun _ => ?_)
    refine wp_aload_n rfl rfl ?_
    refine q_getr rfl rfl (by first | rfl | assumption) rfl rfl ?_
    refine wp_iload_n rfl rfl ?_
    refine wp_dup2 rfl rfl rfl ?_
    refine q_iald rfl (by first | rfl | assumption) (by assumption) ?_
    refine wp_iconst (v := 1) rfl rfl ?_
    refine wp_iadd rfl ?_
    rw [hcl, uI_eq]
    refine q_iast rfl (by first | rfl | assumption) (by assumption) ?_
    refine wp_aload_n rfl rfl ?_
    refine q_getr rfl rfl (by first | rfl | assumption) rfl rfl ?_
    refine wp_iload_n rfl rfl ?_
    refine q_iald rfl (by first | rfl | assumption) (by assumption) ?_
    refine wp_bipush (v := 12) rfl rfl ?_
    rw [hcl, uI_eq]
    refine wp_icmp_ne 97 rfl rfl (fun _ => ?_) (fun h94 => absurd h94 (by decide))
    refine wp_loc (lv' := [(0, _), (1, _)]) [1, 0] rfl ?_
    refine look 19999 0 (fun _ => 0) _ (Nat.le_refl _) (by rw [uI_ne (by decide), uI_ne (by decide), h31]; rfl) (by rw [uI_ne (by decide), uI_ne (by decide)]; exact h32) ⟨by omega, fun l _ => Nat.zero_le _, rfl⟩ ⟨fun q a1 a2 a3 => by rw [uI_fn a2, uI_fn a2]; exact hJ.1 q a1 a2 a3, fun k a1 a2 a3 => by rw [uI_ne (by decide), uI_ne (by decide)]; exact hJ.2.1 k a1 a2 a3, fun m s hm hs => by rw [uI_ne (by decide), uI_ne (by decide)]; exact hJ.2.2 m s hm hs⟩ (fun l hl2 => by rw [show l = 0 by omega, uI_eq]; rfl) hS
  -- who is near whom
  have nearL : ∀ (p i : Nat), i + p = nm → ∀ J : IF, (∀ q, q ≠ 72 → q ≠ 95 → q ≠ 100 → J q = I q) → (∀ k, k ≠ 0 → k ≠ 31 → k ≠ 32 → J 72 k = I 72 k) → (∀ m s, m < i → m < nm → s < 10 + na → J 100 (14 * m + s) = b2 (nrB I nm na nr m s = true)) → J 72 31 = 0 → J 72 32 = 0 → WQ G (d + 3) Y_X11_channels Q 20 [(0, .ref 72), (1, .int (nI i))] [] (J, L, RR b) := by
    intro p
    induction p with
    | zero =>
      intro i hi J f1 f2 f3 f4 f5
      have hie : i = nm := by omega
      subst hie
      have hge : J 72 5 ≤ nI i := by rw [f2 5 (by decide) (by decide) (by decide), i5]; exact nI_le (Nat.le_refl _) (by omega)
      refine wp_iload_n rfl rfl ?_
      refine wp_aload_n rfl rfl ?_
      refine q_geti rfl rfl (by first | rfl | assumption) rfl ?_
      refine wp_icmp_ge 72 rfl rfl (fun _ => ?_) (fun h23 => absurd hge h23)
      refine wp_loc (lv' := [(0, _)]) [0] rfl ?_
      exact begin_ J ⟨f1, f2, fun m s hm hs => f3 m s hm hm hs⟩ f4 f5
    | succ p ih =>
      intro i hi J f1 f2 f3 f4 f5
      have hlt : ¬ J 72 5 ≤ nI i := by rw [f2 5 (by decide) (by decide) (by decide), i5]; exact nI_ge (by omega) (by omega)
      have inner : ∀ (p2 k : Nat), k + p2 = 10 + na → ∀ J : IF, (∀ q, q ≠ 72 → q ≠ 95 → q ≠ 100 → J q = I q) → (∀ k, k ≠ 0 → k ≠ 31 → k ≠ 32 → J 72 k = I 72 k) → (∀ m s, (m < i ∨ (m = i ∧ s < k)) → m < nm → s < 10 + na → J 100 (14 * m + s) = b2 (nrB I nm na nr m s = true)) → J 72 31 = 0 → J 72 32 = 0 → WQ G (d + 3) Y_X11_channels Q 26 [(0, .ref 72), (1, .int (nI i)), (2, .int (nI k))] [] (J, L, RR b) := by
        intro p2
        induction p2 with
        | zero =>
          intro k hk J f1 f2 f3 f4 f5
          have hge : (10 : Int32) + J 72 6 ≤ nI k := by rw [f2 6 (by decide) (by decide) (by decide), i6, show (10 : Int32) + nI na = nI (10 + na) from nI_add 10 na]; exact nI_le (by omega) (by omega)
          refine wp_iload_n rfl rfl ?_
          refine wp_bipush (v := 10) rfl rfl ?_
          refine wp_aload_n rfl rfl ?_
          refine q_geti rfl rfl (by first | rfl | assumption) rfl ?_
          refine wp_iadd rfl ?_
          refine wp_icmp_ge 70 rfl rfl (fun _ => ?_) (fun h31 => absurd hge h31)
          refine wp_iinc (v := nI (i + 1)) (lv' := [(1, _), (0, _), (2, _)]) rfl rfl (nI_1 i) (by decide) rfl ?_
          refine wp_goto 20 rfl rfl ?_
          refine wp_loc (lv' := [(0, _), (1, _)]) [1, 0] rfl ?_
          exact ih (i + 1) (by omega) J f1 f2 (fun m s hm hm2 hs => f3 m s (by omega) hm2 hs) f4 f5
        | succ p2 ih2 =>
          intro k hk J f1 f2 f3 f4 f5
          have hlt2 : ¬ (10 : Int32) + J 72 6 ≤ nI k := by rw [f2 6 (by decide) (by decide) (by decide), i6, show (10 : Int32) + nI na = nI (10 + na) from nI_add 10 na]; exact nI_ge (by omega) (by omega)
          obtain ⟨-, x2, x3⟩ := ix14 (m := i) (s := k) (by omega) (by omega)
          have hW := MW_W h f1 f2
          have store : ∀ v : Int32, v = b2 (nrB I nm na nr i k = true) → WQ G (d + 3) Y_X11_channels Q 67 [(0, .ref 72), (1, .int (nI i)), (2, .int (nI k))] [.int v, .int (14 * nI i + nI k), .ref 100] (J, L, RR b) := by
            intro v hv
            refine q_zast rfl (by first | rfl | assumption) x2 ?_
            refine wp_iinc (v := nI (k + 1)) (lv' := [(2, _), (0, _), (1, _)]) rfl rfl (nI_1 k) (by decide) rfl ?_
            refine wp_goto 26 rfl rfl ?_
            refine wp_loc (lv' := [(0, _), (1, _), (2, _)]) [1, 2, 0] rfl ?_
            rw [x3]
            have env : vp_nar .boolean v = b2 (nrB I nm na nr i k = true) := by rw [hv]; exact nar01 (b2_01 _)
            rw [env]
            refine ih2 (k + 1) (by omega) _ (fun q a1 a2 a3 => by rw [uI_fn a3]; exact f1 q a1 a2 a3) (fun k a1 a2 a3 => by rw [uI_ne (by decide)]; exact f2 k a1 a2 a3) (fun m s hm hm2 hs => ?_) (by rw [uI_ne (by decide)]; exact f4) (by rw [uI_ne (by decide)]; exact f5)
            by_cases e : m = i ∧ s = k
            · rw [e.1, e.2, uI_eq]
            · rw [uI_nk (by omega)]; exact f3 m s (by omega) hm2 hs
          by_cases hk10 : k < 10
          · have hk10a : ¬ (10 : Int32) ≤ nI k := nI_ge (a := k) (b := 10) (by omega) (by omega)
            by_cases hkn : k < nm
            · have hkna : ¬ J 72 5 ≤ nI k := by rw [f2 5 (by decide) (by decide) (by decide), i5]; exact nI_ge (by omega) (by omega)
              have c1 := c_X11_hurtsOne G d (s := k) (m := i) J L b hW (by omega) (by omega)
              have c2 := c_X11_hurtsOne G d (s := i) (m := k) J L b hW (by omega) hkn
              rw [MW_hO f1 hnr (by omega) (by omega)] at c1 c2
              by_cases hki : k = i
              · have hkia : nI k = nI i := by rw [hki]
                refine wp_iload_n rfl rfl ?_
                refine wp_bipush (v := 10) rfl rfl ?_
                refine wp_aload_n rfl rfl ?_
                refine q_geti rfl rfl (by first | rfl | assumption) rfl ?_
                refine wp_iadd rfl ?_
                refine wp_icmp_ge 70 rfl rfl (fun h31 => absurd h31 hlt2) (fun _ => ?_)
                refine wp_aload_n rfl rfl ?_
                refine q_getr rfl rfl (by first | rfl | assumption) rfl rfl ?_
                refine wp_bipush (v := 14) rfl rfl ?_
                refine wp_iload_n rfl rfl ?_
                refine wp_imul rfl ?_
                refine wp_iload_n rfl rfl ?_
                refine wp_iadd rfl ?_
                refine wp_iload_n rfl rfl ?_
                refine wp_bipush (v := 10) rfl rfl ?_
                refine wp_icmp_ge 63 rfl rfl (fun h41 => absurd h41 hk10a) (fun _ => ?_)
                refine wp_iload_n rfl rfl ?_
                refine wp_aload_n rfl rfl ?_
                refine q_geti rfl rfl (by first | rfl | assumption) rfl ?_
                refine wp_icmp_ge 61 rfl rfl (fun h45 => absurd h45 hkna) (fun _ => ?_)
                refine wp_iload_n rfl rfl ?_
                refine wp_iload_n rfl rfl ?_
                refine wp_icmp_eq 61 rfl rfl (fun _ => ?_) (fun h48 => absurd hkia h48)
                refine wp_iconst (v := 0) rfl rfl ?_
                refine wp_goto 67 rfl rfl ?_
                exact store 0 (b2_f (fun z => nrB_self (m := i) (by omega) (by rw [hki] at z; exact z))).symm
              · have hkia : ¬ nI k = nI i := fun z => hki ((nI_eq (by omega) (by omega)).mp z)
                have hnrI : nrB I nm na nr i k = true ↔ (hO I nr k i = true ∨ hO I nr i k = true) := by
                  unfold nrB
                  rw [if_pos hk10, Bool.and_eq_true, Bool.or_eq_true, decide_eq_true_eq]
                  exact ⟨fun z => z.2, fun z => ⟨⟨hkn, hki⟩, z⟩⟩
                refine wp_iload_n rfl rfl ?_
                refine wp_bipush (v := 10) rfl rfl ?_
                refine wp_aload_n rfl rfl ?_
                refine q_geti rfl rfl (by first | rfl | assumption) rfl ?_
                refine wp_iadd rfl ?_
                refine wp_icmp_ge 70 rfl rfl (fun h31 => absurd h31 hlt2) (fun _ => ?_)
                refine wp_aload_n rfl rfl ?_
                refine q_getr rfl rfl (by first | rfl | assumption) rfl rfl ?_
                refine wp_bipush (v := 14) rfl rfl ?_
                refine wp_iload_n rfl rfl ?_
                refine wp_imul rfl ?_
                refine wp_iload_n rfl rfl ?_
                refine wp_iadd rfl ?_
                refine wp_iload_n rfl rfl ?_
                refine wp_bipush (v := 10) rfl rfl ?_
                refine wp_icmp_ge 63 rfl rfl (fun h41 => absurd h41 hk10a) (fun _ => ?_)
                refine wp_iload_n rfl rfl ?_
                refine wp_aload_n rfl rfl ?_
                refine q_geti rfl rfl (by first | rfl | assumption) rfl ?_
                refine wp_icmp_ge 61 rfl rfl (fun h45 => absurd h45 hkna) (fun _ => ?_)
                refine wp_iload_n rfl rfl ?_
                refine wp_iload_n rfl rfl ?_
                refine wp_icmp_eq 61 rfl rfl (fun h48 => absurd h48 hkia) (fun _ => ?_)
                refine wp_aload_n rfl rfl ?_
                refine wp_iload_n rfl rfl ?_
                refine wp_iload_n rfl rfl ?_
                refine cV1 rfl l_11_203 i_X11_hurtsOne m_X11_hurtsOne (by first | rfl | assumption) (by decide) (c1) rfl (Nat.le_of_ble_eq_true rfl) ?_
                refine wp_if_ne 59 rfl rfl (fun h53 => ?_) (fun h53 => ?_)
                · refine wp_iconst (v := 1) rfl rfl ?_
                  refine wp_goto 67 rfl rfl ?_
                  first
                  | exact store 1 (b2_t (hnrI.mpr (Or.inl (b2_ne.mp h53)))).symm
                  | exact store 1 (b2_t (hnrI.mpr (Or.inr (b2_ne.mp h58)))).symm
                  | exact store 0 (b2_f (fun z => (hnrI.mp z).elim (b2_eq.mp h53) (b2_eq.mp h58))).symm
                · refine wp_aload_n rfl rfl ?_
                  refine wp_iload_n rfl rfl ?_
                  refine wp_iload_n rfl rfl ?_
                  refine cV1 rfl l_11_203 i_X11_hurtsOne m_X11_hurtsOne (by first | rfl | assumption) (by decide) (c2) rfl (Nat.le_of_ble_eq_true rfl) ?_
                  refine wp_if_eq 61 rfl rfl (fun h58 => ?_) (fun h58 => ?_)
                  · refine wp_iconst (v := 0) rfl rfl ?_
                    refine wp_goto 67 rfl rfl ?_
                    first
                    | exact store 1 (b2_t (hnrI.mpr (Or.inl (b2_ne.mp h53)))).symm
                    | exact store 1 (b2_t (hnrI.mpr (Or.inr (b2_ne.mp h58)))).symm
                    | exact store 0 (b2_f (fun z => (hnrI.mp z).elim (b2_eq.mp h53) (b2_eq.mp h58))).symm
                  · refine wp_iconst (v := 1) rfl rfl ?_
                    refine wp_goto 67 rfl rfl ?_
                    first
                    | exact store 1 (b2_t (hnrI.mpr (Or.inl (b2_ne.mp h53)))).symm
                    | exact store 1 (b2_t (hnrI.mpr (Or.inr (b2_ne.mp h58)))).symm
                    | exact store 0 (b2_f (fun z => (hnrI.mp z).elim (b2_eq.mp h53) (b2_eq.mp h58))).symm
            · have hkna : J 72 5 ≤ nI k := by rw [f2 5 (by decide) (by decide) (by decide), i5]; exact nI_le (by omega) (by omega)
              refine wp_iload_n rfl rfl ?_
              refine wp_bipush (v := 10) rfl rfl ?_
              refine wp_aload_n rfl rfl ?_
              refine q_geti rfl rfl (by first | rfl | assumption) rfl ?_
              refine wp_iadd rfl ?_
              refine wp_icmp_ge 70 rfl rfl (fun h31 => absurd h31 hlt2) (fun _ => ?_)
              refine wp_aload_n rfl rfl ?_
              refine q_getr rfl rfl (by first | rfl | assumption) rfl rfl ?_
              refine wp_bipush (v := 14) rfl rfl ?_
              refine wp_iload_n rfl rfl ?_
              refine wp_imul rfl ?_
              refine wp_iload_n rfl rfl ?_
              refine wp_iadd rfl ?_
              refine wp_iload_n rfl rfl ?_
              refine wp_bipush (v := 10) rfl rfl ?_
              refine wp_icmp_ge 63 rfl rfl (fun h41 => absurd h41 hk10a) (fun _ => ?_)
              refine wp_iload_n rfl rfl ?_
              refine wp_aload_n rfl rfl ?_
              refine q_geti rfl rfl (by first | rfl | assumption) rfl ?_
              refine wp_icmp_ge 61 rfl rfl (fun _ => ?_) (fun h45 => absurd hkna h45)
              refine wp_iconst (v := 0) rfl rfl ?_
              refine wp_goto 67 rfl rfl ?_
              refine store 0 (b2_f (fun z => ?_)).symm
              unfold nrB at z
              rw [if_pos hk10, Bool.and_eq_true, decide_eq_true_eq] at z
              exact hkn z.1.1
          · have hk10a : (10 : Int32) ≤ nI k := nI_le (a := 10) (b := k) (by omega) (by omega)
            have c1 := c_X11_hurtsOne G d (s := k) (m := i) J L b hW (by omega) (by omega)
            rw [MW_hO f1 hnr (by omega) (by omega)] at c1
            refine wp_iload_n rfl rfl ?_
            refine wp_bipush (v := 10) rfl rfl ?_
            refine wp_aload_n rfl rfl ?_
            refine q_geti rfl rfl (by first | rfl | assumption) rfl ?_
            refine wp_iadd rfl ?_
            refine wp_icmp_ge 70 rfl rfl (fun h31 => absurd h31 hlt2) (fun _ => ?_)
            refine wp_aload_n rfl rfl ?_
            refine q_getr rfl rfl (by first | rfl | assumption) rfl rfl ?_
            refine wp_bipush (v := 14) rfl rfl ?_
            refine wp_iload_n rfl rfl ?_
            refine wp_imul rfl ?_
            refine wp_iload_n rfl rfl ?_
            refine wp_iadd rfl ?_
            refine wp_iload_n rfl rfl ?_
            refine wp_bipush (v := 10) rfl rfl ?_
            refine wp_icmp_ge 63 rfl rfl (fun _ => ?_) (fun h41 => absurd hk10a h41)
            refine wp_aload_n rfl rfl ?_
            refine wp_iload_n rfl rfl ?_
            refine wp_iload_n rfl rfl ?_
            refine cV1 rfl l_11_203 i_X11_hurtsOne m_X11_hurtsOne (by first | rfl | assumption) (by decide) (c1) rfl (Nat.le_of_ble_eq_true rfl) ?_
            refine store _ (b2_cg ?_)
            unfold nrB
            rw [if_neg hk10, Bool.and_eq_true, decide_eq_true_eq]
            exact ⟨fun z => ⟨by omega, z⟩, fun z => z.2⟩
      refine wp_iload_n rfl rfl ?_
      refine wp_aload_n rfl rfl ?_
      refine q_geti rfl rfl (by first | rfl | assumption) rfl ?_
      refine wp_icmp_ge 72 rfl rfl (fun h23 => absurd h23 hlt) (fun _ => ?_)
      refine wp_iconst (v := 0) rfl rfl ?_
      refine wp_istore_n (lv' := [(2, _), (0, _), (1, _)]) rfl rfl (by decide) rfl ?_
      refine wp_loc (lv' := [(0, _), (1, _), (2, _)]) [1, 2, 0] rfl ?_
      exact inner (10 + na) 0 (by omega) J f1 f2 (fun m s hm hm2 hs => f3 m s (by omega) hm2 hs) f4 f5
  refine MT.intro m_X11_channels rfl (Nat.le_of_ble_eq_true rfl) ?_
  show WQ G (d + 3) Y_X11_channels Q 0 [(0, .ref 72)] [] (I, L, RR b)
  refine wp_aload_n rfl rfl ?_
  refine wp_iconst (v := 0) rfl rfl ?_
  refine q_puti rfl rfl (by first | rfl | assumption) (Or.inl rfl) rfl ?_
  refine wp_aload_n rfl rfl ?_
  refine q_geti rfl rfl (by first | rfl | assumption) rfl ?_
  refine wp_iconst (v := (-1)) rfl rfl ?_
  refine wp_icmp_eq 10 rfl rfl (fun h6 => absurd (by rw [uI_nk (by decide)] at h6; exact h6) h30) (fun _ => ?_)
  refine wp_aload_n rfl rfl ?_
  refine q_geti rfl rfl (by first | rfl | assumption) rfl ?_
  rw [uI_nk (by decide)]
  refine wp_if_le 12 rfl rfl (fun _ => ?_) (fun h9 => absurd h8 h9)
  refine wp_aload_n rfl rfl ?_
  refine wp_iconst (v := 0) rfl rfl ?_
  refine q_putz rfl rfl (by first | rfl | assumption) (Or.inl rfl) rfl (Or.inl rfl) ?_
  refine wp_aload_n rfl rfl ?_
  refine wp_iconst (v := 0) rfl rfl ?_
  refine q_puti rfl rfl (by first | rfl | assumption) (Or.inl rfl) rfl ?_
  refine wp_iconst (v := 0) rfl rfl ?_
  refine wp_istore_n (lv' := [(1, _), (0, _)]) rfl rfl (by decide) rfl ?_
  refine wp_loc (lv' := [(0, _), (1, _)]) [1, 0] rfl ?_
  refine nearL nm 0 (by omega) _ (fun q a1 a2 a3 => by rw [uI_fn a1, uI_fn a1, uI_fn a1]) (fun k a1 a2 a3 => by rw [uI_nk a2, uI_nk a3, uI_nk a1]) (fun m s hm => absurd hm (by omega)) uI_eq (by rw [uI_nk (by decide), uI_eq])
theorem IV_chan {nm na nr : Nat} {I J J2 : IF} {L : LF} (h : IV nm na nr I L) (h5 : I 1 5 ≤ 0) (h10 : ¬ I 0 10 = -1) {S : Int32 × Nat × (Nat → Nat)} (hb : S.1 = 1 → ∀ m, m < nm → S.2.2 m ≤ 11)
    (f1 : ∀ q, q ≠ 0 → (q < 4 ∨ (13 < q ∧ q < 39) ∨ 43 < q) → J q = I q) (f2 : ∀ k, k ≠ 11 → J 0 k = I 0 k) (f3 : J 0 11 = b2 (S.1 = 1)) (f4 : J 39 4 = nI S.2.1) (f5 : ∀ m, m < 10 → (∀ k, k ≠ 6 → J (4 + m) k = I (4 + m) k) ∧ J (4 + m) 6 = if m < nm then (if S.1 = 1 then nI (S.2.2 m) else -1) else I (4 + m) 6)
    (g1 : ∀ q, q ≠ 72 → q ≠ 95 → q ≠ 100 → J2 q = J q) (g2 : ∀ k, k ≠ 0 → k ≠ 31 → k ≠ 32 → J2 72 k = J 72 k) (g3 : J2 72 31 = nI S.2.1) (g4 : J2 72 32 = b2 (S.1 = 1)) (g5 : S.1 = 1 → ∀ m, m < nm → J2 95 m = nI (S.2.2 m)) : IV nm na nr J2 L ∧ LSm I J2 := by
  obtain ⟨a1, a2, a3, a4, a5, a6, a7, a8, a9, a10, a11⟩ := id h
  have hn := a1.1.2.2
  have e0 : ∀ q, q ≠ 0 → (q < 4 ∨ (13 < q ∧ q < 39) ∨ 43 < q) → q ≠ 72 → q ≠ 95 → q ≠ 100 → J2 q = I q := fun q b1 b2 b3 b4 b5 => (g1 q b3 b4 b5).trans (f1 q b1 b2)
  have e72 : ∀ k, k ≠ 0 → k ≠ 31 → k ≠ 32 → J2 72 k = I 72 k := fun k b1 b2 b3 => by rw [g2 k b1 b2 b3, f1 72 (by omega) (by omega)]
  have e00 : ∀ k, k ≠ 11 → J2 0 k = I 0 k := fun k hk => by rw [g1 0 (by omega) (by omega) (by omega), f2 k hk]
  have e011 : J2 0 11 = b2 (S.1 = 1) := by rw [g1 0 (by omega) (by omega) (by omega), f3]
  have em : ∀ m k, m < 14 → k ≠ 6 → J2 (4 + m) k = I (4 + m) k := fun m k hm hk => by
    rw [g1 (4 + m) (by omega) (by omega) (by omega)]
    rcases Nat.lt_or_ge m 10 with e | e
    · exact (f5 m e).1 k hk
    · rw [f1 (4 + m) (by omega) (by omega)]
  have e6 : ∀ m, m < 10 → J2 (4 + m) 6 = if m < nm then (if S.1 = 1 then nI (S.2.2 m) else -1) else I (4 + m) 6 := fun m hm => by rw [g1 (4 + m) (by omega) (by omega) (by omega)]; exact (f5 m hm).2
  have e394 : J2 39 4 = nI S.2.1 := by rw [g1 39 (by omega) (by omega) (by omega), f4]
  have hb01 := b2_01 (S.1 = 1)
  have hw0 : I 1 5 = 0 := by have := a2.1.2.1; grind
  refine ⟨⟨?_, ?_, ?_, ?_, ?_, ?_, ?_, ?_, ?_, ?_, ?_⟩, ?_, ?_⟩
  · unfold IVc at a1 ⊢; simp (disch := omega) only [e0, e72]; exact a1
  · unfold IVs at a2 ⊢
    simp (disch := omega) only [e0, e72, e00]
    rw [e011, g4, g3, e394]
    exact ⟨a2.1, a2.2.1, a2.2.2.1, a2.2.2.2.1, a2.2.2.2.2.1, ⟨rfl, hb01⟩, a2.2.2.2.2.2.2.1, rfl, fun _ => h10, fun z => absurd z (by rw [hw0]; decide)⟩
  · intro k hk; simp (disch := omega) only [e0, em]; exact a3 k hk
  · intro k hk
    have z := a4 k hk
    have hz : I (4 + k) 9 = 0 := by
      apply Classical.byContradiction
      intro y
      exact absurd (z.2.2.2.1 y).2 (by rw [hw0]; decide)
    simp (disch := omega) only [e0, em]
    exact ⟨z.1, z.2.1, z.2.2.1, fun y => absurd hz y, z.2.2.2.2⟩
  · intro k hk; simp (disch := omega) only [e0, em]; exact a5 k hk
  · intro k hk
    have e := em (10 + k)
    rw [show 4 + (10 + k) = 14 + k by omega] at e
    simp (disch := omega) only [e0, e]
    exact a6 k hk
  · intro m hm
    have z := a7 m hm
    simp (disch := omega) only [e0, em, e00]
    rw [e011, e6 m hm]
    refine ⟨z.1, z.2.1, fun y => ?_, fun y => ?_⟩
    · have hS : S.1 = 1 := Classical.byContradiction (fun w => by rw [b2_f w] at y; exact absurd y.1 (by decide))
      rw [if_pos y.2, if_pos hS, g5 hS m y.2]
      have := hb hS m y.2
      exact ⟨rfl, nI_pos' (by omega), nI_le (b := 11) this (by omega)⟩
    · by_cases e : m < nm
      · rw [if_pos e]
        rcases y with y | y
        · have hS : ¬ S.1 = 1 := fun w => by rw [b2_t w] at y; exact absurd y (by decide)
          rw [if_neg hS]
        · omega
      · rw [if_neg e]; exact z.2.2.2 (Or.inr (by omega))
  · intro a ha; simp (disch := omega) only [e0]; exact a8 a ha
  · intro a ha; simp (disch := omega) only [e0]; exact a9 a ha
  · unfold IVt at a10 ⊢; simp (disch := omega) only [e0, e72]; exact a10
  · intro k hk; simp (disch := omega) only [e0]; exact a11 k hk
  · intro q hq; exact e0 q (by omega) (by omega) (by omega) (by omega) (by omega)
  · exact e72 12 (by decide) (by decide) (by decide)
theorem s_channels {G : Gl} {d : Nat} {Inv : IF → LF → Bool → Prop} {I : IF} {L : LF} {b : Bool} (h : InvA I L) (hI : ∀ I2 L2, InvA I2 L2 → LSm I I2 → Inv I2 L2 b) : Step Inv G (d + 5) Y_X10_channels Y_X11_channels [] I L b := by
  obtain ⟨nm, na, nr, h⟩ := h
  have a2 := h.2.1
  by_cases hno : I 0 10 = -1 ∨ ¬ I 1 5 ≤ 0
  · refine Step.ofA (StepA.query h (c_X10_channels_no G _ I L b hno) (c_X11_channels_no G _ I L b ?_)) hI
    rw [a2.2.2.2.2.1.1, a2.1.1]
    exact hno
  · have h10 : ¬ I 0 10 = -1 := fun z => hno (Or.inl z)
    have h5 : I 1 5 ≤ 0 := Classical.byContradiction (fun z => hno (Or.inr z))
    have hn : nm ≤ 10 := h.1.1.2.2
    have hnr : nr ≤ 16 := h.1.2.2.2.2
    have hn0 : 0 < nm := by
      rcases a2.2.2.2.2.1.2 with z | z
      · exact absurd z h10
      · apply Classical.byContradiction
        intro y
        apply z.2.2
        rw [h.1.1.1, show nm = 0 by omega]
        rfl
    obtain ⟨S, hS⟩ : ∃ S, srch (okB I nm na nr) (nm - 1) 20000 0 (fun _ => 0) = S := ⟨_, rfl⟩
    have hb := srch_found (ok := okB I nm na nr) (last := nm - 1) 20000 0 (fun _ => 0) (Nat.le_refl _) ⟨by omega, fun l _ => Nat.zero_le _, rfl⟩
    rw [hS] at hb
    refine (c_X10_channels G d I L b h.toW hn0 h10 h5 hS).mono (fun r w1 hq => ?_)
    obtain ⟨rfl, J, rfl, f1, f2, f3, f4, f5⟩ := hq
    refine ⟨_, J, L, b, rfl, rfl, ?_⟩
    have gm : ∀ m k, m < 14 → k ≠ 6 → J (4 + m) k = I (4 + m) k := fun m k hm hk => by
      rcases Nat.lt_or_ge m 10 with e | e
      · exact (f5 m e).1 k hk
      · rw [f1 (4 + m) (by omega) (by omega)]
    have hW : IW nm na nr J := IW_fr h.toW (fun k _ => by rw [f1 1 (by omega) (by omega)]) (fun k _ => by rw [f1 72 (by omega) (by omega)]) (fun m k hm h6 _ _ => gm m k hm h6) (fun a k ha _ => by rw [f1 (18 + a) (by omega) (by omega)]) (fun a ha => by rw [f1 (18 + a) (by omega) (by omega)]) (fun q hq => f1 q (by omega) (by omega))
    have hS2 : srch (okB J nm na nr) (nm - 1) 20000 0 (fun _ => 0) = S := by
      rw [← hS]
      exact srch_cg (fun ch m hm => okB_cg (by rw [f1 1 (by omega) (by omega)]) gm (fun a ha => f1 (18 + a) (by omega) (by omega)) hnr (by omega) ch) 20000 0 _ (by omega)
    have c2 := c_X11_channels G (d + 2) J L b hW hn0 (fun m hm => by rw [f1 94 (by omega) (by omega), gm m 7 (by omega) (by decide)]; exact ((h.2.2.2.2.2.2.1 m (by omega)).1 ⟨h10, hm⟩).1) (fun k hk => by rw [f1 82 (by omega) (by omega), f1 (14 + k) (by omega) (by omega)]; exact (h.2.2.2.2.2.1 k hk).1.1) (by rw [f1 72 (by omega) (by omega), a2.2.2.2.2.1.1]; exact h10) (by rw [f1 72 (by omega) (by omega), a2.1.1]; exact h5) hS2
    refine c2.mono (fun r2 w2 hq2 => ?_)
    obtain ⟨rfl, J2, rfl, g1, g2, g3, g4, g5⟩ := hq2
    have key := IV_chan h h5 h10 (fun z m hm => hb z m (by omega)) f1 f2 f3 f4 f5 g1 g2 g3 g4 g5
    refine ⟨J2, L, ?_, rfl, hI J2 L ⟨nm, na, nr, key.1⟩ key.2⟩
    by_cases e : S.1 = 1
    · rw [if_pos e, if_pos e, (usd_bc (ch := S.2.2) (n := nm) (fun m hm => by have := hb e m (by omega); omega) hn0).1]
    · rw [if_neg e, if_neg e]
