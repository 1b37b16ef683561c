/-! the reference's tokens -/
theorem lgc_lt {x y : Int64} : lg_cmp x y < 0 ↔ x < y := by unfold lg_cmp; grind
theorem lgc_ge {x y : Int64} : 0 ≤ lg_cmp x y ↔ y ≤ x := by unfold lg_cmp; grind
theorem lgc_gt {x y : Int64} : 0 < lg_cmp x y ↔ y < x := by unfold lg_cmp; grind
theorem lgc_le {x y : Int64} : lg_cmp x y ≤ 0 ↔ x ≤ y := by unfold lg_cmp; grind
theorem lgc_eq {x y : Int64} : lg_cmp x y = 0 ↔ x = y := by unfold lg_cmp; grind
/-- text t of the reference, n bytes T -/
def RTX (T : Nat → Int32) (n t : Nat) (I : IF) : Prop := t ≤ 1 ∧ n ≤ 300 ∧ I 72 42 = nI (300 * t) ∧ I 72 43 = nI n ∧ ∀ k, k < n → I 97 (300 * t + k) = T k
def seeT (T : Nat → Int32) (n k : Nat) : Int32 := if k < n then T k else 0
theorem c_X11_see (G : Gl) (d : Nat) {T : Nat → Int32} {n t k : Nat} (hk : k ≤ 1000) (I : IF) (L : LF) (b : Bool) (h : RTX T n t I) : MD G d Y_X11_see [.ref 72, .int (nI k)] (I, L, RR b) (some (.int (seeT T n k))) (I, L, RR b) := by
  obtain ⟨t1, t2, t3, t4, t5⟩ := h
  unfold seeT
  by_cases hlt : k < n
  · rw [if_pos hlt]
    have h1 : ¬ I 72 43 ≤ nI k := by rw [t4]; exact nI_ge hlt (by omega)
    have e : I 72 42 + nI k = nI (300 * t + k) := by rw [t3, nI_add]
    have hin : vp_in (I 72 42 + nI k) 600 := by rw [e]; exact vp_in_nI (by omega) (by omega)
    refine MT.intro m_X11_see rfl (Nat.le_of_ble_eq_true rfl) ?_
    show WQ G d Y_X11_see _ 0 [(0, .ref 72), (1, .int (nI k))] [] (I, L, RR b)
    refine wp_iload_n rfl rfl ?_
    refine wp_aload_n rfl rfl ?_
    refine q_geti rfl rfl (by first | rfl | assumption) rfl ?_
    refine wp_icmp_ge 12 rfl rfl (fun h3 => absurd h3 h1) (fun _ => ?_)
    refine wp_aload_n rfl rfl ?_
    refine q_getr rfl rfl (by first | rfl | assumption) rfl rfl ?_
    refine wp_aload_n rfl rfl ?_
    refine q_geti rfl rfl (by first | rfl | assumption) rfl ?_
    refine wp_iload_n rfl rfl ?_
    refine wp_iadd rfl ?_
    refine q_bald rfl (by first | rfl | assumption) (by assumption) ?_
    refine wp_goto 13 rfl rfl ?_
    exact wp_iret rfl rfl (⟨by rw [e, nI_clamp (by omega), t5 k hlt], rfl⟩)
  · rw [if_neg hlt]
    have h1 : I 72 43 ≤ nI k := by rw [t4]; exact nI_le (by omega) (by omega)
    refine MT.intro m_X11_see rfl (Nat.le_of_ble_eq_true rfl) ?_
    show WQ G d Y_X11_see _ 0 [(0, .ref 72), (1, .int (nI k))] [] (I, L, RR b)
    refine wp_iload_n rfl rfl ?_
    refine wp_aload_n rfl rfl ?_
    refine q_geti rfl rfl (by first | rfl | assumption) rfl ?_
    refine wp_icmp_ge 12 rfl rfl (fun _ => ?_) (fun h3 => absurd h1 h3)
    refine wp_iconst (v := 0) rfl rfl ?_
    exact wp_iret rfl rfl (⟨rfl, rfl⟩)
theorem c_X11_isLetter (G : Gl) (d : Nat) (c : Int32) (w : mW) : MD G d Y_X11_isLetter [.int c] w (some (.int (b2 (isLt c = true)))) w := by
  refine MT.intro m_X11_isLetter rfl (Nat.le_of_ble_eq_true rfl) ?_
  show WQ G d Y_X11_isLetter _ 0 [(0, .int c)] [] w
  refine wp_iload_n rfl rfl ?_
  refine wp_bipush (v := 97) rfl rfl ?_
  refine wp_icmp_lt 8 rfl rfl (fun h2 => ?_) (fun h2 => ?_)
  · refine wp_iconst (v := 0) rfl rfl ?_
    exact wp_zret rfl rfl (by first | rfl | exact nb2 _ | assumption) (⟨by unfold isLt; grind [b2], rfl⟩)
  · refine wp_iload_n rfl rfl ?_
    refine wp_bipush (v := 122) rfl rfl ?_
    refine wp_icmp_gt 8 rfl rfl (fun h5 => ?_) (fun h5 => ?_)
    · refine wp_iconst (v := 0) rfl rfl ?_
      exact wp_zret rfl rfl (by first | rfl | exact nb2 _ | assumption) (⟨by unfold isLt; grind [b2], rfl⟩)
    · refine wp_iconst (v := 1) rfl rfl ?_
      refine wp_goto 9 rfl rfl ?_
      exact wp_zret rfl rfl (by first | rfl | exact nb2 _ | assumption) (⟨by unfold isLt; grind [b2], rfl⟩)
theorem c_X11_isDigit (G : Gl) (d : Nat) (c : Int32) (w : mW) : MD G d Y_X11_isDigit [.int c] w (some (.int (b2 (isDg c = true)))) w := by
  refine MT.intro m_X11_isDigit rfl (Nat.le_of_ble_eq_true rfl) ?_
  show WQ G d Y_X11_isDigit _ 0 [(0, .int c)] [] w
  refine wp_iload_n rfl rfl ?_
  refine wp_bipush (v := 48) rfl rfl ?_
  refine wp_icmp_lt 8 rfl rfl (fun h2 => ?_) (fun h2 => ?_)
  · refine wp_iconst (v := 0) rfl rfl ?_
    exact wp_zret rfl rfl (by first | rfl | exact nb2 _ | assumption) (⟨by unfold isDg; grind [b2], rfl⟩)
  · refine wp_iload_n rfl rfl ?_
    refine wp_bipush (v := 57) rfl rfl ?_
    refine wp_icmp_gt 8 rfl rfl (fun h5 => ?_) (fun h5 => ?_)
    · refine wp_iconst (v := 0) rfl rfl ?_
      exact wp_zret rfl rfl (by first | rfl | exact nb2 _ | assumption) (⟨by unfold isDg; grind [b2], rfl⟩)
    · refine wp_iconst (v := 1) rfl rfl ?_
      refine wp_goto 9 rfl rfl ?_
      exact wp_zret rfl rfl (by first | rfl | exact nb2 _ | assumption) (⟨by unfold isDg; grind [b2], rfl⟩)
def srt (T : Nat → Int32) (n q : Nat) : Int32 := if q < n then (if isLt (T q) = true then 1 else if isDg (T q) = true then (if 999999 < nvl T (te T n q - q) q 0 then 4 else 2) else if isSg (T q) = true then 3 else 4) else 0
def tE (T : Nat → Int32) (n q : Nat) : Nat := if q < n then te T n q else n
/-- the token at q stands before the reference -/
def TS (T : Nat → Int32) (n q : Nat) (J : IF) (L : LF) : Prop := J 72 44 = nI (tE T n q) ∧ J 72 45 = nI q ∧ J 72 46 = srt T n q ∧ (srt T n q = 2 → L 72 50 = lN (nvl T (te T n q - q) q 0))
def RFr (I : IF) (L : LF) (J : IF) (L2 : LF) : Prop := (∀ a, a ≠ 72 → J a = I a) ∧ (∀ k, k ≠ 44 → k ≠ 45 → k ≠ 46 → J 72 k = I 72 k) ∧ (∀ a, a ≠ 72 → L2 a = L a) ∧ ∀ k, k ≠ 50 → L2 72 k = L 72 k
theorem RFr.refl {I : IF} {L : LF} : RFr I L I L := ⟨fun _ _ => rfl, fun _ _ _ _ => rfl, fun _ _ => rfl, fun _ _ => rfl⟩
theorem RFr.i {I J : IF} {L L2 : LF} {k : Nat} {v : Int32} (h : RFr I L J L2) (hk : k = 44 ∨ k = 45 ∨ k = 46) : RFr I L (uI J 72 k v) L2 := by
  obtain ⟨h1, h2, h3, h4⟩ := h
  exact ⟨fun a ha => by rw [uI_fn ha]; exact h1 a ha, fun q a1 a2 a3 => by rw [uI_nk (by omega)]; exact h2 q a1 a2 a3, h3, h4⟩
theorem uL_fn {I : LF} {a k a' : Nat} {v : Int64} (h : a' ≠ a) : uL I a k v a' = I a' := by funext k'; exact uL_ne h
theorem RFr.l {I J : IF} {L L2 : LF} {v : Int64} (h : RFr I L J L2) : RFr I L J (uL L2 72 50 v) := by
  obtain ⟨h1, h2, h3, h4⟩ := h
  exact ⟨h1, h2, fun a ha => by rw [uL_fn ha]; exact h3 a ha, fun k hk => by rw [uL_nk hk]; exact h4 k hk⟩
theorem RTX.fr {T : Nat → Int32} {n t : Nat} {I J : IF} (h : RTX T n t I) (h1 : J 97 = I 97) (h2 : J 72 42 = I 72 42) (h3 : J 72 43 = I 72 43) : RTX T n t J := by
  unfold RTX
  rw [h1, h2, h3]
  exact h
theorem RFr.rtx {T : Nat → Int32} {n t : Nat} {I J : IF} {L L2 : LF} (h : RFr I L J L2) (hx : RTX T n t I) : RTX T n t J := hx.fr (h.1 97 (by decide)) (h.2.1 42 (by decide) (by decide) (by decide)) (h.2.1 43 (by decide) (by decide) (by decide))
theorem see_bl {T : Nat → Int32} {n u : Nat} (h : u < n) : (seeT T n u = 32 ∨ seeT T n u = 10) ↔ isBl (T u) = true := by unfold seeT isBl; rw [if_pos h, decide_eq_true_eq]
theorem see_lt {T : Nat → Int32} {n u : Nat} : isLt (seeT T n u) = true ↔ u < n ∧ isLt (T u) = true := by
  unfold seeT
  by_cases h : u < n
  · rw [if_pos h]; exact ⟨fun z => ⟨h, z⟩, fun z => z.2⟩
  · rw [if_neg h]; exact ⟨fun z => absurd z (by decide), fun z => absurd z.1 h⟩
theorem see_dg {T : Nat → Int32} {n u : Nat} : isDg (seeT T n u) = true ↔ u < n ∧ isDg (T u) = true := by
  unfold seeT
  by_cases h : u < n
  · rw [if_pos h]; exact ⟨fun z => ⟨h, z⟩, fun z => z.2⟩
  · rw [if_neg h]; exact ⟨fun z => absurd z (by decide), fun z => absurd z.1 h⟩
/-- the reference's number: above a million it may be more than ours -/
def rst1 (r d : Nat) : Nat := if r < 1000000 then 10 * r + d else 1000000
theorem rst1_mil {r a d : Nat} (h : mil r = a) (hd : d ≤ 9) : mil (rst1 r d) = mil (10 * a + d) ∧ rst1 r d < 10000000 := by
  unfold mil rst1 at *
  split <;> split at h <;> (refine ⟨?_, by omega⟩) <;> split <;> (try split) <;> omega
theorem dgtL {c : Int32} {r : Nat} (h : isDg c = true) (hr : r < 1000000) : lN 10 * lN r + c.toInt64 - 48 = lN (10 * r + dgt c) := by
  obtain ⟨h1, h2⟩ := dgt_ok h
  have e : c = nI (dgt c + 48) := by rw [← nI_add, ← h1, show nI 48 = (48 : Int32) from rfl]; grind
  have e2 : c.toInt64 = lN (dgt c + 48) := by
    have := nI_l (n := dgt c + 48) (by omega)
    rw [← e] at this
    exact this
  rw [e2, lN_mul, lN_add, show (48 : Int64) = lN 48 from rfl, lN_sub (by omega)]
  congr 1
theorem c_X11_next (G : Gl) (d : Nat) {T : Nat → Int32} {n t e : Nat} (I : IF) (L : LF) (b : Bool) (h : RTX T n t I) (h44 : I 72 44 = nI e) (hen : e ≤ n) : MQ2 G (d + 1) Y_X11_next [.ref 72] (I, L, RR b) (fun r w => r = none ∧ ∃ J L2, w = (J, L2, RR b) ∧ RFr I L J L2 ∧ TS T n (sk T n e) J L2) := by
  have hn := h.2.1
  suffices H : ∀ Q : Option Value → mW → Prop, (∀ J L2, RFr I L J L2 → TS T n (sk T n e) J L2 → Q none (J, L2, RR b)) → MQ2 G (d + 1) Y_X11_next [.ref 72] (I, L, RR b) Q from H _ (fun J L2 a1 a2 => ⟨rfl, J, L2, rfl, a1, a2⟩)
  intro Q hQ
  have K24 : ∀ (u : Nat) (J : IF) (L2 : LF), u ≤ n → RFr I L J L2 → J 72 44 = nI u → sk T n u = u → sk T n e = u → WQ G (d + 1) Y_X11_next Q 24 [(0, .ref 72)] [] (J, L2, RR b) := by
    intro u J L2 hu hF h4 hsu hse
    rw [hse] at hQ
    generalize hJ1 : uI J 72 45 (nI u) = J1
    have hF1 : RFr I L J1 L2 := by rw [← hJ1]; exact hF.i (Or.inr (Or.inl rfl))
    have j44 : J1 72 44 = nI u := by rw [← hJ1, uI_nk (by decide)]; exact h4
    have j45 : J1 72 45 = nI u := by rw [← hJ1]; exact uI_eq
    have j43 : J1 72 43 = nI n := (hF1.rtx h).2.2.2.1
    have hsee : MD G d Y_X11_see [.ref 72, .int (nI u)] (J1, L2, RR b) (some (.int (seeT T n u))) (J1, L2, RR b) := c_X11_see G d (by omega) J1 L2 b (hF1.rtx h)
    by_cases hun : u = n
    · have hs : srt T n u = 0 := by unfold srt; rw [if_neg (by omega)]
      have ht : tE T n u = u := by unfold tE; rw [if_neg (by omega), hun]
      have e43 : ¬ ¬ J1 72 44 = J1 72 43 := fun z => z (by rw [j44, j43, hun])
      refine wp_aload_n rfl rfl ?_
      refine wp_aload_n rfl rfl ?_
      refine q_geti rfl rfl (by first | rfl | assumption) rfl ?_
      rw [h4]
      refine q_puti rfl rfl (by first | rfl | assumption) (Or.inl rfl) rfl ?_
      rw [hJ1]
      refine wp_aload_n rfl rfl ?_
      refine wp_aload_n rfl rfl ?_
      refine q_geti rfl rfl (by first | rfl | assumption) rfl ?_
      rw [j44]
      refine cV1 rfl l_11_225 i_X11_see m_X11_see (by first | rfl | assumption) (by decide) (hsee) rfl (Nat.le_of_ble_eq_true rfl) ?_
      refine wp_istore_n (lv' := [(1, _), (0, _)]) rfl rfl (by decide) rfl ?_
      refine wp_aload_n rfl rfl ?_
      refine q_geti rfl rfl (by first | rfl | assumption) rfl ?_
      refine wp_aload_n rfl rfl ?_
      refine q_geti rfl rfl (by first | rfl | assumption) rfl ?_
      refine wp_icmp_ne 42 rfl rfl (fun h37 => absurd h37 e43) (fun _ => ?_)
      refine wp_aload_n rfl rfl ?_
      refine wp_iconst (v := 0) rfl rfl ?_
      refine q_puti rfl rfl (by first | rfl | assumption) (Or.inl rfl) rfl ?_
      refine wp_goto 154 rfl rfl ?_
      exact wp_vret rfl rfl (hQ _ _ (hF1.i (Or.inr (Or.inr rfl))) ⟨by rw [uI_nk (by decide), ht]; exact j44, by rw [uI_nk (by decide)]; exact j45, by rw [uI_eq, hs], fun z => by rw [hs] at z; exact absurd z (by decide)⟩)
    · have hlt : u < n := by omega
      have e43 : ¬ J1 72 44 = J1 72 43 := fun z => hun ((nI_eq (by omega) (by omega)).mp (by rw [← j44, ← j43]; exact z))
      have hst : seeT T n u = T u := by unfold seeT; rw [if_pos hlt]
      have ht : tE T n u = te T n u := by unfold tE; rw [if_pos hlt]
      obtain ⟨te1, te2⟩ := te_b (T := T) hlt
      rw [hst] at hsee
      by_cases hL : isLt (T u) = true
      · have hs : srt T n u = 1 := by unfold srt; rw [if_pos hlt, if_pos hL]
        have hte : te T n u = rE T n isLt u := by unfold te; rw [if_pos hL, rE_t hlt hL]
        have loop : ∀ (p v : Nat) (J2 : IF), v + p = n → RFr I L J2 L2 → J2 72 44 = nI v → J2 72 45 = nI u → J2 72 46 = 1 → rE T n isLt v = te T n u → WQ G (d + 1) Y_X11_next Q 48 [(0, .ref 72), (1, .int (T u))] [] (J2, L2, RR b) := by
          intro p
          induction p with
          | zero =>
            intro v J2 hv hF2 k4 k5 k6 hr
            have hns : ¬ isLt (seeT T n v) = true := fun z => by have := (see_lt.mp z).1; omega
            rw [rE_f (by omega)] at hr
            refine wp_aload_n rfl rfl ?_
            refine wp_aload_n rfl rfl ?_
            refine q_geti rfl rfl (by first | rfl | assumption) rfl ?_
            rw [k4]
            refine cV1 rfl l_11_225 i_X11_see m_X11_see (by first | rfl | assumption) (by decide) (c_X11_see G d (by omega) J2 L2 b (hF2.rtx h)) rfl (Nat.le_of_ble_eq_true rfl) ?_
            refine cS1 rfl l_11_234 s_X11_isLetter m_X11_isLetter (c_X11_isLetter G _ _ _) rfl (Nat.le_of_ble_eq_true rfl) ?_
            refine wp_if_eq 154 rfl rfl (fun _ => ?_) (fun h53 => absurd (b2_f hns) h53)
            exact wp_vret rfl rfl (hQ _ _ hF2 ⟨by rw [k4, ht, hr], k5, by rw [k6, hs], fun z => by rw [hs] at z; exact absurd z (by decide)⟩)
          | succ p ih =>
            intro v J2 hv hF2 k4 k5 k6 hr
            have goon : isLt (T v) = true → WQ G (d + 1) Y_X11_next Q 48 [(0, .ref 72), (1, .int (T u))] [] (uI J2 72 44 (nI (v + 1)), L2, RR b) := fun z => ih (v + 1) _ (by omega) (hF2.i (Or.inl rfl)) uI_eq (by rw [uI_nk (by decide)]; exact k5) (by rw [uI_nk (by decide)]; exact k6) (by rw [← rE_t (by omega) z]; exact hr)
            refine wp_aload_n rfl rfl ?_
            refine wp_aload_n rfl rfl ?_
            refine q_geti rfl rfl (by first | rfl | assumption) rfl ?_
            rw [k4]
            refine cV1 rfl l_11_225 i_X11_see m_X11_see (by first | rfl | assumption) (by decide) (c_X11_see G d (by omega) J2 L2 b (hF2.rtx h)) rfl (Nat.le_of_ble_eq_true rfl) ?_
            refine cS1 rfl l_11_234 s_X11_isLetter m_X11_isLetter (c_X11_isLetter G _ _ _) rfl (Nat.le_of_ble_eq_true rfl) ?_
            refine wp_if_eq 154 rfl rfl (fun h53 => ?_) (fun h53 => ?_)
            · exact wp_vret rfl rfl (hQ _ _ hF2 ⟨by rw [k4, ht, ← hr, rE_f (fun z => (b2_eq.mp h53) (see_lt.mpr z))], k5, by rw [k6, hs], fun z => by rw [hs] at z; exact absurd z (by decide)⟩)
            · refine wp_aload_n rfl rfl ?_
              refine wp_dup rfl rfl ?_
              refine q_geti rfl rfl (by first | rfl | assumption) rfl ?_
              refine wp_iconst (v := 1) rfl rfl ?_
              refine wp_iadd rfl ?_
              rw [k4, nI_1]
              refine q_puti rfl rfl (by first | rfl | assumption) (Or.inl rfl) rfl ?_
              refine wp_goto 48 rfl rfl ?_
              exact goon ((see_lt.mp (b2_ne.mp h53)).2)
        refine wp_aload_n rfl rfl ?_
        refine wp_aload_n rfl rfl ?_
        refine q_geti rfl rfl (by first | rfl | assumption) rfl ?_
        rw [h4]
        refine q_puti rfl rfl (by first | rfl | assumption) (Or.inl rfl) rfl ?_
        rw [hJ1]
        refine wp_aload_n rfl rfl ?_
        refine wp_aload_n rfl rfl ?_
        refine q_geti rfl rfl (by first | rfl | assumption) rfl ?_
        rw [j44]
        refine cV1 rfl l_11_225 i_X11_see m_X11_see (by first | rfl | assumption) (by decide) (hsee) rfl (Nat.le_of_ble_eq_true rfl) ?_
        refine wp_istore_n (lv' := [(1, _), (0, _)]) rfl rfl (by decide) rfl ?_
        refine wp_aload_n rfl rfl ?_
        refine q_geti rfl rfl (by first | rfl | assumption) rfl ?_
        refine wp_aload_n rfl rfl ?_
        refine q_geti rfl rfl (by first | rfl | assumption) rfl ?_
        refine wp_icmp_ne 42 rfl rfl (fun _ => ?_) (fun h37 => absurd h37 e43)
        refine wp_iload_n rfl rfl ?_
        refine cS1 rfl l_11_234 s_X11_isLetter m_X11_isLetter (c_X11_isLetter G _ _ _) rfl (Nat.le_of_ble_eq_true rfl) ?_
        refine wp_if_eq 61 rfl rfl (fun h44 => absurd h44 (fun z => (b2_eq.mp z) hL)) (fun _ => ?_)
        refine wp_aload_n rfl rfl ?_
        refine wp_iconst (v := 1) rfl rfl ?_
        refine q_puti rfl rfl (by first | rfl | assumption) (Or.inl rfl) rfl ?_
        refine wp_loc (lv' := [(0, _), (1, _)]) [1, 0] rfl ?_
        exact loop (n - u) u _ (by omega) (hF1.i (Or.inr (Or.inr rfl))) (by rw [uI_nk (by decide)]; exact j44) (by rw [uI_nk (by decide)]; exact j45) uI_eq hte.symm
      · by_cases hD : isDg (T u) = true
        · have hte : te T n u = rE T n isDg u := by unfold te; rw [if_neg hL, if_pos hD, rE_t hlt hD]
          have hsr : srt T n u = if 999999 < nvl T (te T n u - u) u 0 then 4 else 2 := by unfold srt; rw [if_pos hlt, if_neg hL, if_pos hD]
          have K104 : ∀ (r : Nat) (J2 : IF) (L3 : LF), r < 10000000 → RFr I L J2 L3 → J2 72 44 = nI (te T n u) → J2 72 45 = nI u → J2 72 46 = 2 → L3 72 50 = lN r → mil r = nvl T (te T n u - u) u 0 → WQ G (d + 1) Y_X11_next Q 104 [(0, .ref 72), (1, .int (T u))] [] (J2, L3, RR b) := by
            intro r J2 L3 hr hF2 k4 k5 k6 kl hm
            by_cases hbig : 1000000 ≤ r
            · have hm2 : nvl T (te T n u - u) u 0 = 1000000 := by rw [← hm]; unfold mil; split <;> omega
              have hs : srt T n u = 4 := by rw [hsr, hm2, if_pos (by decide)]
              have hng : ¬ lg_cmp (L3 72 50) 1000000 < 0 := fun z => by
                have := lgc_lt.mp z
                rw [kl, show (1000000 : Int64) = lN 1000000 from rfl, lN_lt (by omega) (by omega)] at this
                omega
              refine wp_aload_n rfl rfl ?_
              refine q_getl rfl rfl (by first | rfl | assumption) rfl ?_
              refine wp_ldc2 (v := (1000000)) rfl cl_11_131 ?_
              refine wp_lcmp rfl ?_
              refine wp_if_lt 154 rfl rfl (fun h108 => absurd h108 hng) (fun _ => ?_)
              refine wp_aload_n rfl rfl ?_
              refine wp_iconst (v := 4) rfl rfl ?_
              refine q_puti rfl rfl (by first | rfl | assumption) (Or.inl rfl) rfl ?_
              refine wp_goto 154 rfl rfl ?_
              exact wp_vret rfl rfl (hQ _ _ (hF2.i (Or.inr (Or.inr rfl))) ⟨by rw [uI_nk (by decide), ht]; exact k4, by rw [uI_nk (by decide)]; exact k5, by rw [uI_eq, hs], fun z => by rw [hs] at z; exact absurd z (by decide)⟩)
            · have hm2 : nvl T (te T n u - u) u 0 = r := by rw [← hm]; unfold mil; rw [if_neg (by omega)]
              have hs : srt T n u = 2 := by rw [hsr, hm2, if_neg (by omega)]
              have hg : lg_cmp (L3 72 50) 1000000 < 0 := lgc_lt.mpr (by rw [kl, show (1000000 : Int64) = lN 1000000 from rfl, lN_lt (by omega) (by omega)]; omega)
              refine wp_aload_n rfl rfl ?_
              refine q_getl rfl rfl (by first | rfl | assumption) rfl ?_
              refine wp_ldc2 (v := (1000000)) rfl cl_11_131 ?_
              refine wp_lcmp rfl ?_
              refine wp_if_lt 154 rfl rfl (fun _ => ?_) (fun h108 => absurd hg h108)
              exact wp_vret rfl rfl (hQ _ _ hF2 ⟨by rw [k4, ht], k5, by rw [k6, hs], fun _ => by rw [kl, hm2]⟩)
          have loop : ∀ (p v r a : Nat) (J2 : IF) (L3 : LF), v + p = n → u ≤ v → r < 10000000 → mil r = a → RFr I L J2 L3 → J2 72 44 = nI v → J2 72 45 = nI u → J2 72 46 = 2 → L3 72 50 = lN r → rE T n isDg v = te T n u → nvl T (te T n u - v) v a = nvl T (te T n u - u) u 0 → WQ G (d + 1) Y_X11_next Q 70 [(0, .ref 72), (1, .int (T u))] [] (J2, L3, RR b) := by
            intro p
            induction p with
            | zero =>
              intro v r a J2 L3 hv huv hr hm hF2 k4 k5 k6 kl hrE hnv
              have hns : ¬ isDg (seeT T n v) = true := fun z => by have := (see_dg.mp z).1; omega
              rw [rE_f (by omega)] at hrE
              rw [← hrE, Nat.sub_self] at hnv
              have hnv : a = nvl T (v - u) u 0 := hnv
              rw [hrE] at hnv
              refine wp_aload_n rfl rfl ?_
              refine wp_aload_n rfl rfl ?_
              refine q_geti rfl rfl (by first | rfl | assumption) rfl ?_
              rw [k4]
              refine cV1 rfl l_11_225 i_X11_see m_X11_see (by first | rfl | assumption) (by decide) (c_X11_see G d (by omega) J2 L3 b (hF2.rtx h)) rfl (Nat.le_of_ble_eq_true rfl) ?_
              refine cS1 rfl l_11_237 s_X11_isDigit m_X11_isDigit (c_X11_isDigit G _ _ _) rfl (Nat.le_of_ble_eq_true rfl) ?_
              refine wp_if_eq 104 rfl rfl (fun _ => ?_) (fun h75 => absurd (b2_f hns) h75)
              exact K104 r J2 L3 hr hF2 (by rw [k4, hrE]) k5 k6 kl (by rw [hm]; exact hnv)
            | succ p ih =>
              intro v r a J2 L3 hv huv hr hm hF2 k4 k5 k6 kl hrE hnv
              by_cases hdv : isDg (T v) = true
              · have hsv : seeT T n v = T v := by unfold seeT; rw [if_pos (by omega)]
                have hd9 := (dgt_ok hdv).2
                obtain ⟨m1, m2⟩ := rst1_mil hm hd9
                have hrE2 : rE T n isDg (v + 1) = te T n u := by rw [← rE_t (by omega) hdv]; exact hrE
                have hvt : v + 1 ≤ te T n u := by rw [← hrE2]; exact (rE_b n (v + 1) (by omega)).1
                have hnv2 : nvl T (te T n u - (v + 1)) (v + 1) (mil (10 * a + dgt (T v))) = nvl T (te T n u - u) u 0 := by
                  rw [← hnv, show te T n u - v = (te T n u - (v + 1)) + 1 by omega]
                  rfl
                have hsee2 := c_X11_see G d (k := v) (by omega) J2 L3 b (hF2.rtx h)
                rw [hsv] at hsee2
                have goon : WQ G (d + 1) Y_X11_next Q 70 [(0, .ref 72), (1, .int (T u))] [] (uI J2 72 44 (nI (v + 1)), uL L3 72 50 (lN (rst1 r (dgt (T v)))), RR b) := ih (v + 1) _ _ _ _ (by omega) (by omega) m2 m1 ((hF2.i (Or.inl rfl)).l) uI_eq (by rw [uI_nk (by decide)]; exact k5) (by rw [uI_nk (by decide)]; exact k6) uL_eq hrE2 hnv2
                have K96 : WQ G (d + 1) Y_X11_next Q 96 [(0, .ref 72), (1, .int (T u))] [.long (lN (rst1 r (dgt (T v)))), .ref 72] (J2, L3, RR b) := by
                  refine q_putl rfl rfl (by first | rfl | assumption) (Or.inl rfl) rfl ?_
                  refine wp_aload_n rfl rfl ?_
                  refine wp_dup rfl rfl ?_
                  refine q_geti rfl rfl (by first | rfl | assumption) rfl ?_
                  refine wp_iconst (v := 1) rfl rfl ?_
                  refine wp_iadd rfl ?_
                  rw [k4, nI_1]
                  refine q_puti rfl rfl (by first | rfl | assumption) (Or.inl rfl) rfl ?_
                  refine wp_goto 70 rfl rfl ?_
                  exact goon
                by_cases hbig : 1000000 ≤ r
                · have hge : 0 ≤ lg_cmp (L3 72 50) 1000000 := lgc_ge.mpr (by rw [kl, show (1000000 : Int64) = lN 1000000 from rfl, lN_le (by omega) (by omega)]; exact hbig)
                  have er : rst1 r (dgt (T v)) = 1000000 := by unfold rst1; rw [if_neg (by omega)]
                  rw [er] at K96
                  refine wp_aload_n rfl rfl ?_
                  refine wp_aload_n rfl rfl ?_
                  refine q_geti rfl rfl (by first | rfl | assumption) rfl ?_
                  rw [k4]
                  refine cV1 rfl l_11_225 i_X11_see m_X11_see (by first | rfl | assumption) (by decide) (hsee2) rfl (Nat.le_of_ble_eq_true rfl) ?_
                  refine cS1 rfl l_11_237 s_X11_isDigit m_X11_isDigit (c_X11_isDigit G _ _ _) rfl (Nat.le_of_ble_eq_true rfl) ?_
                  refine wp_if_eq 104 rfl rfl (fun h75 => absurd h75 (fun z => (b2_eq.mp z) hdv)) (fun _ => ?_)
                  refine wp_aload_n rfl rfl ?_
                  refine wp_aload_n rfl rfl ?_
                  refine q_getl rfl rfl (by first | rfl | assumption) rfl ?_
                  refine wp_ldc2 (v := (1000000)) rfl cl_11_131 ?_
                  refine wp_lcmp rfl ?_
                  refine wp_if_ge 95 rfl rfl (fun _ => ?_) (fun h81 => absurd hge h81)
                  refine wp_ldc2 (v := (1000000)) rfl cl_11_131 ?_
                  exact K96
                · have hge : ¬ 0 ≤ lg_cmp (L3 72 50) 1000000 := fun z => by
                    have := lgc_ge.mp z
                    rw [kl, show (1000000 : Int64) = lN 1000000 from rfl, lN_le (by omega) (by omega)] at this
                    omega
                  have er : rst1 r (dgt (T v)) = 10 * r + dgt (T v) := by unfold rst1; rw [if_pos (by omega)]
                  have eL := dgtL (r := r) hdv (by omega)
                  have eL2 : (10 : Int64) * lN r + (T v).toInt64 - 48 = lN (10 * r + dgt (T v)) := eL
                  rw [er] at K96
                  refine wp_aload_n rfl rfl ?_
                  refine wp_aload_n rfl rfl ?_
                  refine q_geti rfl rfl (by first | rfl | assumption) rfl ?_
                  rw [k4]
                  refine cV1 rfl l_11_225 i_X11_see m_X11_see (by first | rfl | assumption) (by decide) (hsee2) rfl (Nat.le_of_ble_eq_true rfl) ?_
                  refine cS1 rfl l_11_237 s_X11_isDigit m_X11_isDigit (c_X11_isDigit G _ _ _) rfl (Nat.le_of_ble_eq_true rfl) ?_
                  refine wp_if_eq 104 rfl rfl (fun h75 => absurd h75 (fun z => (b2_eq.mp z) hdv)) (fun _ => ?_)
                  refine wp_aload_n rfl rfl ?_
                  refine wp_aload_n rfl rfl ?_
                  refine q_getl rfl rfl (by first | rfl | assumption) rfl ?_
                  refine wp_ldc2 (v := (1000000)) rfl cl_11_131 ?_
                  refine wp_lcmp rfl ?_
                  refine wp_if_ge 95 rfl rfl (fun h81 => absurd h81 hge) (fun _ => ?_)
                  refine wp_ldc2 (v := (10)) rfl cl_11_176 ?_
                  refine wp_aload_n rfl rfl ?_
                  refine q_getl rfl rfl (by first | rfl | assumption) rfl ?_
                  refine wp_lmul rfl ?_
                  refine wp_aload_n rfl rfl ?_
                  refine wp_aload_n rfl rfl ?_
                  refine q_geti rfl rfl (by first | rfl | assumption) rfl ?_
                  rw [k4]
                  refine cV1 rfl l_11_225 i_X11_see m_X11_see (by first | rfl | assumption) (by decide) (hsee2) rfl (Nat.le_of_ble_eq_true rfl) ?_
                  refine wp_i2l rfl ?_
                  refine wp_ladd rfl ?_
                  refine wp_ldc2 (v := (48)) rfl cl_11_244 ?_
                  refine wp_lsub rfl ?_
                  rw [kl, eL2]
                  refine wp_goto 96 rfl rfl ?_
                  exact K96
              · have hns : ¬ isDg (seeT T n v) = true := fun z => hdv (see_dg.mp z).2
                rw [rE_f (fun z => hdv z.2)] at hrE
                rw [← hrE, Nat.sub_self] at hnv
                have hnv : a = nvl T (v - u) u 0 := hnv
                rw [hrE] at hnv
                refine wp_aload_n rfl rfl ?_
                refine wp_aload_n rfl rfl ?_
                refine q_geti rfl rfl (by first | rfl | assumption) rfl ?_
                rw [k4]
                refine cV1 rfl l_11_225 i_X11_see m_X11_see (by first | rfl | assumption) (by decide) (c_X11_see G d (by omega) J2 L3 b (hF2.rtx h)) rfl (Nat.le_of_ble_eq_true rfl) ?_
                refine cS1 rfl l_11_237 s_X11_isDigit m_X11_isDigit (c_X11_isDigit G _ _ _) rfl (Nat.le_of_ble_eq_true rfl) ?_
                refine wp_if_eq 104 rfl rfl (fun _ => ?_) (fun h75 => absurd (b2_f hns) h75)
                exact K104 r J2 L3 hr hF2 (by rw [k4, hrE]) k5 k6 kl (by rw [hm]; exact hnv)
          refine wp_aload_n rfl rfl ?_
          refine wp_aload_n rfl rfl ?_
          refine q_geti rfl rfl (by first | rfl | assumption) rfl ?_
          rw [h4]
          refine q_puti rfl rfl (by first | rfl | assumption) (Or.inl rfl) rfl ?_
          rw [hJ1]
          refine wp_aload_n rfl rfl ?_
          refine wp_aload_n rfl rfl ?_
          refine q_geti rfl rfl (by first | rfl | assumption) rfl ?_
          rw [j44]
          refine cV1 rfl l_11_225 i_X11_see m_X11_see (by first | rfl | assumption) (by decide) (hsee) rfl (Nat.le_of_ble_eq_true rfl) ?_
          refine wp_istore_n (lv' := [(1, _), (0, _)]) rfl rfl (by decide) rfl ?_
          refine wp_aload_n rfl rfl ?_
          refine q_geti rfl rfl (by first | rfl | assumption) rfl ?_
          refine wp_aload_n rfl rfl ?_
          refine q_geti rfl rfl (by first | rfl | assumption) rfl ?_
          refine wp_icmp_ne 42 rfl rfl (fun _ => ?_) (fun h37 => absurd h37 e43)
          refine wp_iload_n rfl rfl ?_
          refine cS1 rfl l_11_234 s_X11_isLetter m_X11_isLetter (c_X11_isLetter G _ _ _) rfl (Nat.le_of_ble_eq_true rfl) ?_
          refine wp_if_eq 61 rfl rfl (fun _ => ?_) (fun h44 => absurd (b2_f hL) h44)
          refine wp_iload_n rfl rfl ?_
          refine cS1 rfl l_11_237 s_X11_isDigit m_X11_isDigit (c_X11_isDigit G _ _ _) rfl (Nat.le_of_ble_eq_true rfl) ?_
          refine wp_if_eq 113 rfl rfl (fun h63 => absurd h63 (fun z => (b2_eq.mp z) hD)) (fun _ => ?_)
          refine wp_aload_n rfl rfl ?_
          refine wp_iconst (v := 2) rfl rfl ?_
          refine q_puti rfl rfl (by first | rfl | assumption) (Or.inl rfl) rfl ?_
          refine wp_aload_n rfl rfl ?_
          refine wp_lconst (v := 0) rfl rfl ?_
          refine q_putl rfl rfl (by first | rfl | assumption) (Or.inl rfl) rfl ?_
          refine wp_loc (lv' := [(0, _), (1, _)]) [1, 0] rfl ?_
          exact loop (n - u) u 0 0 _ _ (by omega) (Nat.le_refl _) (by omega) rfl ((hF1.i (Or.inr (Or.inr rfl))).l) (by rw [uI_nk (by decide)]; exact j44) (by rw [uI_nk (by decide)]; exact j45) uI_eq uL_eq hte.symm rfl
        · have hte : te T n u = u + 1 := by unfold te; rw [if_neg hL, if_neg hD]
          have K147 : ∀ v : Int32, v = srt T n u → WQ G (d + 1) Y_X11_next Q 147 [(0, .ref 72), (1, .int (T u))] [.int v, .ref 72] (J1, L2, RR b) := by
            intro v hv
            have hne : ¬ srt T n u = 2 := by
              unfold srt
              rw [if_pos hlt, if_neg hL, if_neg hD]
              split <;> decide
            have q4 : uI J1 72 46 v 72 44 = nI u := by rw [uI_nk (by decide)]; exact j44
            refine q_puti rfl rfl (by first | rfl | assumption) (Or.inl rfl) rfl ?_
            refine wp_aload_n rfl rfl ?_
            refine wp_dup rfl rfl ?_
            refine q_geti rfl rfl (by first | rfl | assumption) rfl ?_
            refine wp_iconst (v := 1) rfl rfl ?_
            refine wp_iadd rfl ?_
            rw [q4, nI_1]
            refine q_puti rfl rfl (by first | rfl | assumption) (Or.inl rfl) rfl ?_
            exact wp_vret rfl rfl (hQ _ _ ((hF1.i (Or.inr (Or.inr rfl))).i (Or.inl rfl)) ⟨by rw [uI_eq, ht, hte], by rw [uI_nk (by decide), uI_nk (by decide)]; exact j45, by rw [uI_nk (by decide), uI_eq, hv], fun z => absurd z hne⟩)
          have hs3 : isSg (T u) = true → srt T n u = 3 := fun z => by unfold srt; rw [if_pos hlt, if_neg hL, if_neg hD, if_pos z]
          have hs4 : ¬ isSg (T u) = true → srt T n u = 4 := fun z => by unfold srt; rw [if_pos hlt, if_neg hL, if_neg hD, if_neg z]
          have hsg : isSg (T u) = true ↔ (T u = 43 ∨ T u = 45 ∨ T u = 42 ∨ T u = 47 ∨ T u = 40 ∨ T u = 41 ∨ T u = 60 ∨ T u = 62 ∨ T u = 61 ∨ T u = 59) := by unfold isSg; rw [decide_eq_true_eq]
          refine wp_aload_n rfl rfl ?_
          refine wp_aload_n rfl rfl ?_
          refine q_geti rfl rfl (by first | rfl | assumption) rfl ?_
          rw [h4]
          refine q_puti rfl rfl (by first | rfl | assumption) (Or.inl rfl) rfl ?_
          rw [hJ1]
          refine wp_aload_n rfl rfl ?_
          refine wp_aload_n rfl rfl ?_
          refine q_geti rfl rfl (by first | rfl | assumption) rfl ?_
          rw [j44]
          refine cV1 rfl l_11_225 i_X11_see m_X11_see (by first | rfl | assumption) (by decide) (hsee) rfl (Nat.le_of_ble_eq_true rfl) ?_
          refine wp_istore_n (lv' := [(1, _), (0, _)]) rfl rfl (by decide) rfl ?_
          refine wp_aload_n rfl rfl ?_
          refine q_geti rfl rfl (by first | rfl | assumption) rfl ?_
          refine wp_aload_n rfl rfl ?_
          refine q_geti rfl rfl (by first | rfl | assumption) rfl ?_
          refine wp_icmp_ne 42 rfl rfl (fun _ => ?_) (fun h37 => absurd h37 e43)
          refine wp_iload_n rfl rfl ?_
          refine cS1 rfl l_11_234 s_X11_isLetter m_X11_isLetter (c_X11_isLetter G _ _ _) rfl (Nat.le_of_ble_eq_true rfl) ?_
          refine wp_if_eq 61 rfl rfl (fun _ => ?_) (fun h44 => absurd (b2_f hL) h44)
          refine wp_iload_n rfl rfl ?_
          refine cS1 rfl l_11_237 s_X11_isDigit m_X11_isDigit (c_X11_isDigit G _ _ _) rfl (Nat.le_of_ble_eq_true rfl) ?_
          refine wp_if_eq 113 rfl rfl (fun _ => ?_) (fun h63 => absurd (b2_f hD) h63)
          refine wp_aload_n rfl rfl ?_
          refine wp_iload_n rfl rfl ?_
          refine wp_bipush (v := 43) rfl rfl ?_
          refine wp_icmp_eq 144 rfl rfl (fun h116 => ?_) (fun h116 => ?_)
          · refine wp_iconst (v := 3) rfl rfl ?_
            refine wp_goto 147 rfl rfl ?_
            refine wp_loc (lv' := [(0, _), (1, _)]) [1, 0] rfl ?_
            exact K147 _ (by first | exact (hs3 (hsg.mpr (by simp only [*, true_or, or_true]))).symm | exact (hs4 (fun z => by have := hsg.mp z; simp only [*, or_self] at this)).symm)
          · refine wp_iload_n rfl rfl ?_
            refine wp_bipush (v := 45) rfl rfl ?_
            refine wp_icmp_eq 144 rfl rfl (fun h119 => ?_) (fun h119 => ?_)
            · refine wp_iconst (v := 3) rfl rfl ?_
              refine wp_goto 147 rfl rfl ?_
              refine wp_loc (lv' := [(0, _), (1, _)]) [1, 0] rfl ?_
              exact K147 _ (by first | exact (hs3 (hsg.mpr (by simp only [*, true_or, or_true]))).symm | exact (hs4 (fun z => by have := hsg.mp z; simp only [*, or_self] at this)).symm)
            · refine wp_iload_n rfl rfl ?_
              refine wp_bipush (v := 42) rfl rfl ?_
              refine wp_icmp_eq 144 rfl rfl (fun h122 => ?_) (fun h122 => ?_)
              · refine wp_iconst (v := 3) rfl rfl ?_
                refine wp_goto 147 rfl rfl ?_
                refine wp_loc (lv' := [(0, _), (1, _)]) [1, 0] rfl ?_
                exact K147 _ (by first | exact (hs3 (hsg.mpr (by simp only [*, true_or, or_true]))).symm | exact (hs4 (fun z => by have := hsg.mp z; simp only [*, or_self] at this)).symm)
              · refine wp_iload_n rfl rfl ?_
                refine wp_bipush (v := 47) rfl rfl ?_
                refine wp_icmp_eq 144 rfl rfl (fun h125 => ?_) (fun h125 => ?_)
                · refine wp_iconst (v := 3) rfl rfl ?_
                  refine wp_goto 147 rfl rfl ?_
                  refine wp_loc (lv' := [(0, _), (1, _)]) [1, 0] rfl ?_
                  exact K147 _ (by first | exact (hs3 (hsg.mpr (by simp only [*, true_or, or_true]))).symm | exact (hs4 (fun z => by have := hsg.mp z; simp only [*, or_self] at this)).symm)
                · refine wp_iload_n rfl rfl ?_
                  refine wp_bipush (v := 40) rfl rfl ?_
                  refine wp_icmp_eq 144 rfl rfl (fun h128 => ?_) (fun h128 => ?_)
                  · refine wp_iconst (v := 3) rfl rfl ?_
                    refine wp_goto 147 rfl rfl ?_
                    refine wp_loc (lv' := [(0, _), (1, _)]) [1, 0] rfl ?_
                    exact K147 _ (by first | exact (hs3 (hsg.mpr (by simp only [*, true_or, or_true]))).symm | exact (hs4 (fun z => by have := hsg.mp z; simp only [*, or_self] at this)).symm)
                  · refine wp_iload_n rfl rfl ?_
                    refine wp_bipush (v := 41) rfl rfl ?_
                    refine wp_icmp_eq 144 rfl rfl (fun h131 => ?_) (fun h131 => ?_)
                    · refine wp_iconst (v := 3) rfl rfl ?_
                      refine wp_goto 147 rfl rfl ?_
                      refine wp_loc (lv' := [(0, _), (1, _)]) [1, 0] rfl ?_
                      exact K147 _ (by first | exact (hs3 (hsg.mpr (by simp only [*, true_or, or_true]))).symm | exact (hs4 (fun z => by have := hsg.mp z; simp only [*, or_self] at this)).symm)
                    · refine wp_iload_n rfl rfl ?_
                      refine wp_bipush (v := 60) rfl rfl ?_
                      refine wp_icmp_eq 144 rfl rfl (fun h134 => ?_) (fun h134 => ?_)
                      · refine wp_iconst (v := 3) rfl rfl ?_
                        refine wp_goto 147 rfl rfl ?_
                        refine wp_loc (lv' := [(0, _), (1, _)]) [1, 0] rfl ?_
                        exact K147 _ (by first | exact (hs3 (hsg.mpr (by simp only [*, true_or, or_true]))).symm | exact (hs4 (fun z => by have := hsg.mp z; simp only [*, or_self] at this)).symm)
                      · refine wp_iload_n rfl rfl ?_
                        refine wp_bipush (v := 62) rfl rfl ?_
                        refine wp_icmp_eq 144 rfl rfl (fun h137 => ?_) (fun h137 => ?_)
                        · refine wp_iconst (v := 3) rfl rfl ?_
                          refine wp_goto 147 rfl rfl ?_
                          refine wp_loc (lv' := [(0, _), (1, _)]) [1, 0] rfl ?_
                          exact K147 _ (by first | exact (hs3 (hsg.mpr (by simp only [*, true_or, or_true]))).symm | exact (hs4 (fun z => by have := hsg.mp z; simp only [*, or_self] at this)).symm)
                        · refine wp_iload_n rfl rfl ?_
                          refine wp_bipush (v := 61) rfl rfl ?_
                          refine wp_icmp_eq 144 rfl rfl (fun h140 => ?_) (fun h140 => ?_)
                          · refine wp_iconst (v := 3) rfl rfl ?_
                            refine wp_goto 147 rfl rfl ?_
                            refine wp_loc (lv' := [(0, _), (1, _)]) [1, 0] rfl ?_
                            exact K147 _ (by first | exact (hs3 (hsg.mpr (by simp only [*, true_or, or_true]))).symm | exact (hs4 (fun z => by have := hsg.mp z; simp only [*, or_self] at this)).symm)
                          · refine wp_iload_n rfl rfl ?_
                            refine wp_bipush (v := 59) rfl rfl ?_
                            refine wp_icmp_ne 146 rfl rfl (fun h143 => ?_) (fun h143 => ?_)
                            · refine wp_iconst (v := 4) rfl rfl ?_
                              refine wp_loc (lv' := [(0, _), (1, _)]) [1, 0] rfl ?_
                              exact K147 _ (by first | exact (hs3 (hsg.mpr (by simp only [*, true_or, or_true]))).symm | exact (hs4 (fun z => by have := hsg.mp z; simp only [*, or_self] at this)).symm)
                            · refine wp_iconst (v := 3) rfl rfl ?_
                              refine wp_goto 147 rfl rfl ?_
                              refine wp_loc (lv' := [(0, _), (1, _)]) [1, 0] rfl ?_
                              exact K147 _ (by first | exact (hs3 (hsg.mpr (by simp only [*, true_or, or_true]))).symm | exact (hs4 (fun z => by have := hsg.mp z; simp only [*, or_self] at this)).symm)
  have loop : ∀ (p u : Nat) (J : IF), u + p = n → RFr I L J L → J 72 44 = nI u → sk T n u = sk T n e → WQ G (d + 1) Y_X11_next Q 0 [(0, .ref 72)] [] (J, L, RR b) := by
    intro p
    induction p with
    | zero =>
      intro u J hu hF k4 hsk
      have hge : J 72 43 ≤ J 72 44 := by rw [k4, (hF.rtx h).2.2.2.1]; exact nI_le (by omega) (by omega)
      have hsu : sk T n u = u := sk_f (by omega)
      refine wp_aload_n rfl rfl ?_
      refine q_geti rfl rfl (by first | rfl | assumption) rfl ?_
      refine wp_aload_n rfl rfl ?_
      refine q_geti rfl rfl (by first | rfl | assumption) rfl ?_
      refine wp_icmp_ge 24 rfl rfl (fun _ => ?_) (fun h4 => absurd hge h4)
      exact K24 u J L (by omega) hF k4 hsu (by rw [← hsk]; exact hsu)
    | succ p ih =>
      intro u J hu hF k4 hsk
      have hlt : ¬ J 72 43 ≤ J 72 44 := by rw [k4, (hF.rtx h).2.2.2.1]; exact nI_ge (by omega) (by omega)
      have hsee : MD G d Y_X11_see [.ref 72, .int (nI u)] (J, L, RR b) (some (.int (seeT T n u))) (J, L, RR b) := c_X11_see G d (by omega) J L b (hF.rtx h)
      have hbl := see_bl (T := T) (n := n) (u := u) (by omega)
      have goon : isBl (T u) = true → WQ G (d + 1) Y_X11_next Q 0 [(0, .ref 72)] [] (uI J 72 44 (nI (u + 1)), L, RR b) := fun z => ih (u + 1) _ (by omega) (hF.i (Or.inl rfl)) uI_eq (by rw [sk_t (by omega) z]; exact hsk)
      have K17 : isBl (T u) = true → WQ G (d + 1) Y_X11_next Q 17 [(0, .ref 72)] [] (J, L, RR b) := by
        intro z
        refine wp_aload_n rfl rfl ?_
        refine wp_dup rfl rfl ?_
        refine q_geti rfl rfl (by first | rfl | assumption) rfl ?_
        refine wp_iconst (v := 1) rfl rfl ?_
        refine wp_iadd rfl ?_
        rw [k4, nI_1]
        refine q_puti rfl rfl (by first | rfl | assumption) (Or.inl rfl) rfl ?_
        refine wp_goto 0 rfl rfl ?_
        exact goon z
      refine wp_aload_n rfl rfl ?_
      refine q_geti rfl rfl (by first | rfl | assumption) rfl ?_
      refine wp_aload_n rfl rfl ?_
      refine q_geti rfl rfl (by first | rfl | assumption) rfl ?_
      refine wp_icmp_ge 24 rfl rfl (fun h4 => absurd h4 hlt) (fun _ => ?_)
      refine wp_aload_n rfl rfl ?_
      refine wp_aload_n rfl rfl ?_
      refine q_geti rfl rfl (by first | rfl | assumption) rfl ?_
      rw [k4]
      refine cV1 rfl l_11_225 i_X11_see m_X11_see (by first | rfl | assumption) (by decide) (hsee) rfl (Nat.le_of_ble_eq_true rfl) ?_
      refine wp_bipush (v := 32) rfl rfl ?_
      refine wp_icmp_eq 17 rfl rfl (fun h10 => ?_) (fun h10 => ?_)
      · exact K17 (hbl.mp (by first | exact Or.inl (by assumption) | exact Or.inr (by assumption)))
      · refine wp_aload_n rfl rfl ?_
        refine wp_aload_n rfl rfl ?_
        refine q_geti rfl rfl (by first | rfl | assumption) rfl ?_
        rw [k4]
        refine cV1 rfl l_11_225 i_X11_see m_X11_see (by first | rfl | assumption) (by decide) (hsee) rfl (Nat.le_of_ble_eq_true rfl) ?_
        refine wp_bipush (v := 10) rfl rfl ?_
        refine wp_icmp_ne 24 rfl rfl (fun h16 => ?_) (fun h16 => ?_)
        · exact K24 u J L (by omega) hF k4 (sk_f (fun z => (not_or.mpr ⟨h10, h16⟩) (hbl.mpr z.2))) (by rw [← hsk]; exact sk_f (fun z => (not_or.mpr ⟨h10, h16⟩) (hbl.mpr z.2)))
        · exact K17 (hbl.mp (by first | exact Or.inl (by assumption) | exact Or.inr (by assumption)))
  refine MT.intro m_X11_next rfl (Nat.le_of_ble_eq_true rfl) ?_
  exact loop (n - e) e I (by omega) RFr.refl h44 rfl
