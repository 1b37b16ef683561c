/-! the plan, in the reference: the fewest weeks -/
theorem fw0 {P : PL} (hp : plok P) : ¬ FW P 0 (allS P) := by
  show ¬ allS P = 0
  unfold allS
  have := Nat.pow_le_pow_right (n := 2) (by decide) hp.1
  omega
theorem c_X11_fewest (G : Gl) (d : Nat) {P : PL} (hp : plok P) {v : Int64} (hwd : ∀ w, w < 52 → pW P w = !wnd v w) (I : IF) (L : LF) (b : Bool) (hI : PM P I) : MQ2 G (d + 2) Y_X11_fewest [.ref 72, .int (nI (pC P)), .long v] (I, L, RR b) (fun r w2 => ∃ J : IF, w2 = (J, L, RR b) ∧ (∀ q, q ≠ 99 → J q = I q) ∧ ((∃ W, Wk P W ∧ r = some (.int (nI W))) ∨ (Wn P ∧ r = some (.int (-1))))) := by
  generalize hQ : (fun (r : Option Value) (w2 : mW) => ∃ J : IF, w2 = (J, L, RR b) ∧ (∀ q, q ≠ 99 → J q = I q) ∧ ((∃ W, Wk P W ∧ r = some (.int (nI W))) ∨ (Wn P ∧ r = some (.int (-1))))) = Q
  obtain ⟨n1, n2, c1, c2, hfd⟩ := id hp
  have hall := all_lt P
  have h1024 := two10 n2
  have hall2 : allS P + 1 = 2 ^ pN P := by unfold allS at hall ⊢; omega
  have week : ∀ (p i : Nat), i + p = 52 → ∀ J : IF, (∀ q, q ≠ 99 → J q = I q) → TB P J i (FW P i) → (∀ u, u ≤ i → ¬ FW P u (allS P)) → WQ G (d + 2) Y_X11_fewest Q 27 [(0, .ref 72), (1, .int (nI (pC P))), (2, .long v), (4, .int (nI (allS P))), (5, .ref 99), (6, .int (nI i))] [] (J, L, RR b) := by
    intro p
    induction p with
    | zero =>
      intro i hi J f1 f2 f3
      have hie : i = 52 := by omega
      subst hie
      refine wp_iload rfl rfl ?_
      refine wp_bipush (v := 52) rfl rfl ?_
      refine wp_icmp_ge 120 rfl rfl (fun _ => ?_) (fun h29 => absurd (show (52 : Int32) ≤ nI 52 by decide) h29)
      refine wp_iconst (v := (-1)) rfl rfl ?_
      exact wp_iret rfl rfl (by rw [← hQ]; exact ⟨J, rfl, f1, Or.inr ⟨fun w hw => f3 w hw, rfl⟩⟩)
    | succ p ih =>
      intro i hi J f1 f2 f3
      have hlt : ¬ (52 : Int32) ≤ nI i := nI_ge (a := i) (b := 52) (by omega) (by omega)
      have hii : nI i + 1 = nI (i + 1) := nI_1 i
      have chk : ∀ J : IF, (∀ q, q ≠ 99 → J q = I q) → TB P J (i + 1) (FW P (i + 1)) → WQ G (d + 2) Y_X11_fewest Q 104 [(0, .ref 72), (1, .int (nI (pC P))), (2, .long v), (4, .int (nI (allS P))), (5, .ref 99), (6, .int (nI i))] [] (J, L, RR b) := by
        intro J f1 f2
        have hin : vp_in (nI (1024 * (i + 1) + allS P)) 54272 := vp_in_nI (by omega) (by omega)
        have hcl : (nI (1024 * (i + 1) + allS P)).toNatClampNeg = 1024 * (i + 1) + allS P := nI_clamp (by omega)
        refine wp_aload rfl rfl ?_
        refine wp_sipush (v := 1024) rfl rfl ?_
        refine wp_iload rfl rfl ?_
        refine wp_iconst (v := 1) rfl rfl ?_
        refine wp_iadd rfl ?_
        rw [hii]
        refine wp_imul rfl ?_
        refine wp_iload rfl rfl ?_
        refine wp_iadd rfl ?_
        rw [ix1]
        refine q_zald rfl (by first | rfl | assumption) hin ?_
        rw [hcl]
        refine wp_if_eq 118 rfl rfl (fun h113 => ?_) (fun h113 => ?_)
        · refine wp_iinc (v := nI (i + 1)) (lv' := [(6, _), (0, _), (1, _), (2, _), (4, _), (5, _)]) rfl rfl (nI_1 i) (by decide) rfl ?_
          refine wp_goto 27 rfl rfl ?_
          refine wp_loc (lv' := [(0, _), (1, _), (2, _), (4, _), (5, _), (6, _)]) [1, 2, 3, 4, 5, 0] rfl ?_
          refine ih (i + 1) (by omega) J f1 f2 (fun u hu => ?_)
          rcases Nat.lt_or_ge u (i + 1) with e | e
          · exact f3 u (by omega)
          · rw [show u = i + 1 by omega]; exact (f2.eq hall).mp h113
        · refine wp_iload rfl rfl ?_
          refine wp_iconst (v := 1) rfl rfl ?_
          refine wp_iadd rfl ?_
          rw [hii]
          exact wp_iret rfl rfl (by rw [← hQ]; exact ⟨J, rfl, f1, Or.inl ⟨i + 1, ⟨by omega, by omega, (f2.ne hall).mp h113, fun u hu => f3 u (by omega)⟩, rfl⟩⟩)
      have dn : ∀ (p k : Nat), k + p = 2 ^ pN P → ∀ J : IF, (∀ q, q ≠ 99 → J q = I q) → TB P J i (FW P i) → TB P J (i + 1) (fun T => ∃ S x, S < k ∧ x < 2 ^ pN P ∧ FW P i S ∧ mayP P x S i ∧ T = S ||| x) → WQ G (d + 2) Y_X11_fewest Q 49 [(0, .ref 72), (1, .int (nI (pC P))), (2, .long v), (4, .int (nI (allS P))), (5, .ref 99), (6, .int (nI i)), (7, .int (nI k))] [] (J, L, RR b) := by
        intro p
        induction p with
        | zero =>
          intro k hk J f1 f2 f4
          have hgt : nI (allS P) < nI k := nI_lt (by omega) (by omega)
          refine wp_iload rfl rfl ?_
          refine wp_iload rfl rfl ?_
          refine wp_icmp_gt 104 rfl rfl (fun _ => ?_) (fun h51 => absurd hgt h51)
          refine wp_loc (lv' := [(0, _), (1, _), (2, _), (4, _), (5, _), (6, _)]) [0, 1, 2, 3, 4, 5] rfl ?_
          refine chk J f1 (f4.to (fun T hT => ?_))
          rw [show k = 2 ^ pN P by omega]
          constructor
          · rintro ⟨S, x, a1, a2, a3, a4, a5⟩; exact ⟨S, x, a1, a2, a3, a4, a5⟩
          · rintro ⟨S, x, a1, a2, a3, a4, a5⟩; exact ⟨S, x, a1, a2, a3, a4, a5⟩
        | succ p ihp =>
          intro k hk J f1 f2 f4
          have hkl : k < 2 ^ pN P := by omega
          have hngt : ¬ nI (allS P) < nI k := nI_nlt (by omega) (by omega)
          have hin : vp_in (nI (1024 * i + k)) 54272 := vp_in_nI (by omega) (by omega)
          have hcl : (nI (1024 * i + k)).toNatClampNeg = 1024 * i + k := nI_clamp (by omega)
          have hr := rst_lt hkl
          have nx : ∀ J : IF, (∀ q, q ≠ 99 → J q = I q) → TB P J i (FW P i) → TB P J (i + 1) (fun T => ∃ S x, S < k + 1 ∧ x < 2 ^ pN P ∧ FW P i S ∧ mayP P x S i ∧ T = S ||| x) → WQ G (d + 2) Y_X11_fewest Q 102 [(0, .ref 72), (1, .int (nI (pC P))), (2, .long v), (4, .int (nI (allS P))), (5, .ref 99), (6, .int (nI i)), (7, .int (nI k))] [] (J, L, RR b) := by
            intro J f1 f2 f4
            refine wp_iinc (v := nI (k + 1)) (lv' := [(7, _), (0, _), (1, _), (2, _), (4, _), (5, _), (6, _)]) rfl rfl (nI_1 k) (by decide) rfl ?_
            refine wp_goto 49 rfl rfl ?_
            refine wp_loc (lv' := [(0, _), (1, _), (2, _), (4, _), (5, _), (6, _), (7, _)]) [1, 2, 3, 4, 5, 6, 0] rfl ?_
            exact ihp (k + 1) (by omega) J f1 f2 f4
          have sets : FW P i k → ∀ (n t : Nat) (y : Int32), y = zI t → t ≤ n → (t = 0 ∨ (t - 1) &&& rst P k = t - 1) → ∀ J : IF, (∀ q, q ≠ 99 → J q = I q) → TB P J i (FW P i) → TB P J (i + 1) (fun T => (∃ S x, S < k ∧ x < 2 ^ pN P ∧ FW P i S ∧ mayP P x S i ∧ T = S ||| x) ∨ ∃ x, t ≤ x ∧ x < 2 ^ pN P ∧ mayP P x k i ∧ T = k ||| x) → WQ G (d + 2) Y_X11_fewest Q 69 [(0, .ref 72), (1, .int (nI (pC P))), (2, .long v), (4, .int (nI (allS P))), (5, .ref 99), (6, .int (nI i)), (7, .int (nI k)), (8, .int (nI (rst P k))), (9, .int y)] [] (J, L, RR b) := by
            intro hFk n
            have fin0 : ∀ J : IF, (∀ q, q ≠ 99 → J q = I q) → TB P J i (FW P i) → TB P J (i + 1) (fun T => (∃ S x, S < k ∧ x < 2 ^ pN P ∧ FW P i S ∧ mayP P x S i ∧ T = S ||| x) ∨ ∃ x, 0 ≤ x ∧ x < 2 ^ pN P ∧ mayP P x k i ∧ T = k ||| x) → WQ G (d + 2) Y_X11_fewest Q 69 [(0, .ref 72), (1, .int (nI (pC P))), (2, .long v), (4, .int (nI (allS P))), (5, .ref 99), (6, .int (nI i)), (7, .int (nI k)), (8, .int (nI (rst P k))), (9, .int (zI 0))] [] (J, L, RR b) := by
              intro J f1 f2 f4
              refine wp_iload rfl rfl ?_
              refine wp_if_lt 102 rfl rfl (fun _ => ?_) (fun h70 => absurd (show zI 0 < 0 by decide) h70)
              refine wp_loc (lv' := [(0, _), (1, _), (2, _), (4, _), (5, _), (6, _), (7, _)]) [0, 1, 2, 3, 4, 5, 6] rfl ?_
              refine nx J f1 f2 (f4.to (fun T hT => ?_))
              constructor
              · rintro (⟨S, x, a1, a2, a3, a4, a5⟩ | ⟨x, a1, a2, a3, a4⟩)
                · exact ⟨S, x, by omega, a2, a3, a4, a5⟩
                · exact ⟨k, x, by omega, a2, hFk, a3, a4⟩
              · rintro ⟨S, x, a1, a2, a3, a4, a5⟩
                rcases Nat.lt_or_ge S k with e | e
                · exact Or.inl ⟨S, x, e, a2, a3, a4, a5⟩
                · have hSk : S = k := by omega
                  rw [hSk] at a4 a5
                  exact Or.inr ⟨x, Nat.zero_le _, a2, a4, a5⟩
            induction n with
            | zero =>
              intro t y hy ht hsub J f1 f2 f4
              subst hy
              have ht0 : t = 0 := by omega
              subst ht0
              exact fin0 J f1 f2 f4
            | succ n ihn =>
              intro t y hy ht hsub J f1 f2 f4
              subst hy
              cases t with
              | zero => exact fin0 J f1 f2 f4
              | succ s =>
                have hsub : s &&& rst P k = s := by rcases hsub with z | z; omega; exact z
                obtain ⟨hs1, hs2⟩ := (sub_iff hkl).mp hsub
                rw [zI_s]
                have hge : ¬ nI s < (0 : Int32) := nI_pos (by omega)
                have hPJ : PM P J := PM_cg hI (by rw [f1 72 (by decide)]) (f1 83 (by decide)) (f1 81 (by decide))
                have hor : k ||| s < 2 ^ pN P := or_lt hkl hs1
                have hin2 : vp_in (nI (1024 * (i + 1) + (k ||| s))) 54272 := vp_in_nI (by omega) (by omega)
                have hcl2 : (nI (1024 * (i + 1) + (k ||| s))).toNatClampNeg = 1024 * (i + 1) + (k ||| s) := nI_clamp (by omega)
                have step : ∀ J : IF, (∀ q, q ≠ 99 → J q = I q) → TB P J i (FW P i) → TB P J (i + 1) (fun T => (∃ S x, S < k ∧ x < 2 ^ pN P ∧ FW P i S ∧ mayP P x S i ∧ T = S ||| x) ∨ ∃ x, s ≤ x ∧ x < 2 ^ pN P ∧ mayP P x k i ∧ T = k ||| x) → WQ G (d + 2) Y_X11_fewest Q 91 [(0, .ref 72), (1, .int (nI (pC P))), (2, .long v), (4, .int (nI (allS P))), (5, .ref 99), (6, .int (nI i)), (7, .int (nI k)), (8, .int (nI (rst P k))), (9, .int (nI s))] [] (J, L, RR b) := by
                  intro J f1 f2 f4
                  by_cases hs0 : s = 0
                  · subst hs0
                    refine wp_iload rfl rfl ?_
                    refine wp_if_ne 95 rfl rfl (fun h92 => absurd (show nI 0 = 0 from rfl) h92) (fun _ => ?_)
                    refine wp_iconst (v := (-1)) rfl rfl ?_
                    refine wp_goto 100 rfl rfl ?_
                    refine wp_istore (lv' := [(9, _), (0, _), (1, _), (2, _), (4, _), (5, _), (6, _), (7, _), (8, _)]) rfl (by decide) rfl ?_
                    refine wp_goto 69 rfl rfl ?_
                    refine wp_loc (lv' := [(0, _), (1, _), (2, _), (4, _), (5, _), (6, _), (7, _), (8, _), (9, _)]) [1, 2, 3, 4, 5, 6, 7, 8, 0] rfl ?_
                    exact fin0 J f1 f2 f4
                  · have hne : ¬ nI s = 0 := nI_ne0 (by omega) (by omega)
                    have hnx : ∀ x, x < 2 ^ pN P → mayP P x k i → ((s - 1) &&& rst P k) + 1 ≤ x → s ≤ x := fun x hx hm hle => Classical.byContradiction (fun z => by
                      have := sub_prev s (rst P k) s x (Nat.le_refl _) hsub ((sub_iff hkl).mpr ⟨hx, hm.1⟩) (by omega)
                      omega)
                    have hle := Nat.and_le_left (n := s - 1) (m := rst P k)
                    refine wp_iload rfl rfl ?_
                    refine wp_if_ne 95 rfl rfl (fun _ => ?_) (fun h92 => absurd h92 hne)
                    refine wp_iload rfl rfl ?_
                    refine wp_iconst (v := 1) rfl rfl ?_
                    refine wp_isub rfl ?_
                    refine wp_iload rfl rfl ?_
                    refine wp_iand rfl ?_
                    rw [nI_sub1 (by omega)]
                    refine wp_istore (lv' := [(9, _), (0, _), (1, _), (2, _), (4, _), (5, _), (6, _), (7, _), (8, _)]) rfl (by decide) rfl ?_
                    refine wp_goto 69 rfl rfl ?_
                    refine wp_loc (lv' := [(0, _), (1, _), (2, _), (4, _), (5, _), (6, _), (7, _), (8, _), (9, _)]) [1, 2, 3, 4, 5, 6, 7, 8, 0] rfl ?_
                    refine ihn (((s - 1) &&& rst P k) + 1) _ (zI_s _).symm (by omega) (Or.inr ?_) J f1 f2 (f4.to (fun T hT => ?_))
                    · rw [Nat.add_sub_cancel, Nat.and_assoc, Nat.and_self]
                    · constructor
                      · rintro (z | ⟨x, a1, a2, a3, a4⟩)
                        · exact Or.inl z
                        · exact Or.inr ⟨x, by omega, a2, a3, a4⟩
                      · rintro (z | ⟨x, a1, a2, a3, a4⟩)
                        · exact Or.inl z
                        · exact Or.inr ⟨x, hnx x a2 a3 a1, a2, a3, a4⟩
                refine wp_iload rfl rfl ?_
                refine wp_if_lt 102 rfl rfl (fun h70 => absurd h70 hge) (fun _ => ?_)
                refine wp_aload_n rfl rfl ?_
                refine wp_iload rfl rfl ?_
                refine wp_iload rfl rfl ?_
                refine wp_iload rfl rfl ?_
                refine wp_iload_n rfl rfl ?_
                refine wp_lload_n rfl rfl ?_
                refine cV1 rfl l_11_185 i_X11_may m_X11_may (by first | rfl | assumption) (by decide) (c_X11_may G _ hp (hwd i (by omega)) (by omega) _ _ _ hPJ) rfl (Nat.le_of_ble_eq_true rfl) ?_
                refine wp_if_eq 91 rfl rfl (fun h78 => ?_) (fun h78 => ?_)
                · first
                  | (have hno := fun z => b2_eq.mp h78 (mayB_iff.mpr z)
                     refine step J f1 f2 (f4.to (fun T hT => ?_))
                     constructor
                     · rintro (z | ⟨x, a1, a2, a3, a4⟩)
                       · exact Or.inl z
                       · exact Or.inr ⟨x, by omega, a2, a3, a4⟩
                     · rintro (z | ⟨x, a1, a2, a3, a4⟩)
                       · exact Or.inl z
                       · exact Or.inr ⟨x, Nat.lt_of_le_of_ne a1 (fun z => hno (by rw [z]; exact a3)), a2, a3, a4⟩)
                  | (have hyes := mayB_iff.mp (b2_ne.mp h78)
                     rw [hcl2, nar01 (Or.inr rfl)]
                     refine step _ (fun q hq => by rw [uI_fn hq]; exact f1 q hq) (f2.oth n2 (by omega) (by omega)) (f4.one.to (fun T hT => ?_))
                     constructor
                     · rintro ((z | ⟨x, a1, a2, a3, a4⟩) | z)
                       · exact Or.inl z
                       · exact Or.inr ⟨x, by omega, a2, a3, a4⟩
                       · exact Or.inr ⟨s, Nat.le_refl _, hs1, hyes, z⟩
                     · rintro (z | ⟨x, a1, a2, a3, a4⟩)
                       · exact Or.inl (Or.inl z)
                       · by_cases e : x = s
                         · rw [e] at a4; exact Or.inr a4
                         · exact Or.inl (Or.inr ⟨x, by omega, a2, a3, a4⟩))
                · refine wp_aload rfl rfl ?_
                  refine wp_sipush (v := 1024) rfl rfl ?_
                  refine wp_iload rfl rfl ?_
                  refine wp_iconst (v := 1) rfl rfl ?_
                  refine wp_iadd rfl ?_
                  rw [hii]
                  refine wp_imul rfl ?_
                  refine wp_iload rfl rfl ?_
                  refine wp_iload rfl rfl ?_
                  refine wp_ior rfl ?_
                  rw [nI_or]
                  refine wp_iadd rfl ?_
                  rw [ix1]
                  refine wp_iconst (v := 1) rfl rfl ?_
                  refine q_zast rfl (by first | rfl | assumption) hin2 ?_
                  first
                  | (have hno := fun z => b2_eq.mp h78 (mayB_iff.mpr z)
                     refine step J f1 f2 (f4.to (fun T hT => ?_))
                     constructor
                     · rintro (z | ⟨x, a1, a2, a3, a4⟩)
                       · exact Or.inl z
                       · exact Or.inr ⟨x, by omega, a2, a3, a4⟩
                     · rintro (z | ⟨x, a1, a2, a3, a4⟩)
                       · exact Or.inl z
                       · exact Or.inr ⟨x, Nat.lt_of_le_of_ne a1 (fun z => hno (by rw [z]; exact a3)), a2, a3, a4⟩)
                  | (have hyes := mayB_iff.mp (b2_ne.mp h78)
                     rw [hcl2, nar01 (Or.inr rfl)]
                     refine step _ (fun q hq => by rw [uI_fn hq]; exact f1 q hq) (f2.oth n2 (by omega) (by omega)) (f4.one.to (fun T hT => ?_))
                     constructor
                     · rintro ((z | ⟨x, a1, a2, a3, a4⟩) | z)
                       · exact Or.inl z
                       · exact Or.inr ⟨x, by omega, a2, a3, a4⟩
                       · exact Or.inr ⟨s, Nat.le_refl _, hs1, hyes, z⟩
                     · rintro (z | ⟨x, a1, a2, a3, a4⟩)
                       · exact Or.inl (Or.inl z)
                       · by_cases e : x = s
                         · rw [e] at a4; exact Or.inr a4
                         · exact Or.inl (Or.inr ⟨x, by omega, a2, a3, a4⟩))
          refine wp_iload rfl rfl ?_
          refine wp_iload rfl rfl ?_
          refine wp_icmp_gt 104 rfl rfl (fun h51 => absurd h51 hngt) (fun _ => ?_)
          refine wp_aload rfl rfl ?_
          refine wp_sipush (v := 1024) rfl rfl ?_
          refine wp_iload rfl rfl ?_
          refine wp_imul rfl ?_
          refine wp_iload rfl rfl ?_
          refine wp_iadd rfl ?_
          rw [ix1]
          refine q_zald rfl (by first | rfl | assumption) hin ?_
          rw [hcl]
          refine wp_if_ne 61 rfl rfl (fun h59 => ?_) (fun h59 => ?_)
          · refine wp_iload rfl rfl ?_
            refine wp_iload rfl rfl ?_
            refine wp_iconst (v := (-1)) rfl rfl ?_
            refine wp_ixor rfl ?_
            refine wp_iand rfl ?_
            rw [nI_rst n2 hkl]
            refine wp_istore (lv' := [(8, _), (0, _), (1, _), (2, _), (4, _), (5, _), (6, _), (7, _)]) rfl (by decide) rfl ?_
            refine wp_iload rfl rfl ?_
            refine wp_istore (lv' := [(9, _), (8, _), (0, _), (1, _), (2, _), (4, _), (5, _), (6, _), (7, _)]) rfl (by decide) rfl ?_
            refine wp_loc (lv' := [(0, _), (1, _), (2, _), (4, _), (5, _), (6, _), (7, _), (8, _), (9, _)]) [2, 3, 4, 5, 6, 7, 8, 1, 0] rfl ?_
            refine sets ((f2.ne hkl).mp h59) (rst P k + 1) (rst P k + 1) _ (zI_s _).symm (Nat.le_refl _) (Or.inr (by rw [Nat.add_sub_cancel, Nat.and_self])) J f1 f2 (f4.to (fun T hT => ?_))
            constructor
            · exact fun z => Or.inl z
            · rintro (z | ⟨x, a1, a2, a3, a4⟩)
              · exact z
              · have h1 := (sub_iff hkl).mpr ⟨a2, a3.1⟩
                have h2 : x ≤ rst P k := by rw [← h1]; exact Nat.and_le_right
                omega
          · refine wp_goto 102 rfl rfl ?_
            have hno := (f2.eq hkl).mp h59
            refine nx J f1 f2 (f4.to (fun T hT => ?_))
            constructor
            · rintro ⟨S, x, a1, a2⟩; exact ⟨S, x, by omega, a2⟩
            · rintro ⟨S, x, a1, a2, a3, a4⟩
              refine ⟨S, x, ?_, a2, a3, a4⟩
              rcases Nat.lt_or_ge S k with e | e
              · exact e
              · rw [show S = k by omega] at a3; exact absurd a3 hno
      have clr : ∀ (p k : Nat), k + p = 1024 → ∀ J : IF, (∀ q, q ≠ 99 → J q = I q) → TB P J i (FW P i) → (∀ S, S < k → J 99 (1024 * (i + 1) + S) = 0) → WQ G (d + 2) Y_X11_fewest Q 32 [(0, .ref 72), (1, .int (nI (pC P))), (2, .long v), (4, .int (nI (allS P))), (5, .ref 99), (6, .int (nI i)), (7, .int (nI k))] [] (J, L, RR b) := by
        intro p
        induction p with
        | zero =>
          intro k hk J f1 f2 f4
          have hke : k = 1024 := by omega
          subst hke
          refine wp_iload rfl rfl ?_
          refine wp_sipush (v := 1024) rfl rfl ?_
          refine wp_icmp_ge 47 rfl rfl (fun _ => ?_) (fun h34 => absurd (show (1024 : Int32) ≤ nI 1024 by decide) h34)
          refine wp_iconst (v := 0) rfl rfl ?_
          refine wp_istore (lv' := [(7, _), (0, _), (1, _), (2, _), (4, _), (5, _), (6, _)]) rfl (by decide) rfl ?_
          refine wp_loc (lv' := [(0, _), (1, _), (2, _), (4, _), (5, _), (6, _), (7, _)]) [1, 2, 3, 4, 5, 6, 0] rfl ?_
          refine dn (2 ^ pN P) 0 (by omega) J f1 f2 (fun S hS => ?_)
          rw [f4 S (by omega)]
          refine ⟨Or.inl rfl, ⟨fun z => absurd z (by decide), ?_⟩⟩
          rintro ⟨S0, x, a1, a2⟩
          omega
        | succ p ihp =>
          intro k hk J f1 f2 f4
          have hlt2 : ¬ (1024 : Int32) ≤ nI k := nI_ge (a := k) (b := 1024) (by omega) (by omega)
          have hin : vp_in (nI (1024 * (i + 1) + k)) 54272 := vp_in_nI (by omega) (by omega)
          have hcl : (nI (1024 * (i + 1) + k)).toNatClampNeg = 1024 * (i + 1) + k := nI_clamp (by omega)
          refine wp_iload rfl rfl ?_
          refine wp_sipush (v := 1024) rfl rfl ?_
          refine wp_icmp_ge 47 rfl rfl (fun h34 => absurd h34 hlt2) (fun _ => ?_)
          refine wp_aload rfl rfl ?_
          refine wp_sipush (v := 1024) rfl rfl ?_
          refine wp_iload rfl rfl ?_
          refine wp_iconst (v := 1) rfl rfl ?_
          refine wp_iadd rfl ?_
          rw [hii]
          refine wp_imul rfl ?_
          refine wp_iload rfl rfl ?_
          refine wp_iadd rfl ?_
          rw [ix1]
          refine wp_iconst (v := 0) rfl rfl ?_
          refine q_zast rfl (by first | rfl | assumption) hin ?_
          refine wp_iinc (v := nI (k + 1)) (lv' := [(7, _), (0, _), (1, _), (2, _), (4, _), (5, _), (6, _)]) rfl rfl (nI_1 k) (by decide) rfl ?_
          refine wp_goto 32 rfl rfl ?_
          refine wp_loc (lv' := [(0, _), (1, _), (2, _), (4, _), (5, _), (6, _), (7, _)]) [1, 2, 3, 4, 5, 6, 0] rfl ?_
          rw [hcl, nar01 (Or.inl rfl)]
          refine ihp (k + 1) (by omega) _ (fun q hq => by rw [uI_fn hq]; exact f1 q hq) (f2.oth n2 (by omega) (by omega)) (fun S hS => ?_)
          by_cases e : S = k
          · rw [e, uI_eq]
          · rw [uI_nk (by omega)]; exact f4 S (by omega)
      refine wp_iload rfl rfl ?_
      refine wp_bipush (v := 52) rfl rfl ?_
      refine wp_icmp_ge 120 rfl rfl (fun h29 => absurd h29 hlt) (fun _ => ?_)
      refine wp_iconst (v := 0) rfl rfl ?_
      refine wp_istore (lv' := [(7, _), (0, _), (1, _), (2, _), (4, _), (5, _), (6, _)]) rfl (by decide) rfl ?_
      refine wp_loc (lv' := [(0, _), (1, _), (2, _), (4, _), (5, _), (6, _), (7, _)]) [1, 2, 3, 4, 5, 6, 0] rfl ?_
      exact clr 1024 0 (by omega) J f1 f2 (fun S hS => absurd hS (by omega))
  have ini : ∀ (p k : Nat), k + p = 1024 → ∀ J : IF, (∀ q, q ≠ 99 → J q = I q) → (∀ S, S < k → J 99 (1024 * 0 + S) = b2 (S = 0)) → WQ G (d + 2) Y_X11_fewest Q 12 [(0, .ref 72), (1, .int (nI (pC P))), (2, .long v), (4, .int (nI (allS P))), (5, .ref 99), (6, .int (nI k))] [] (J, L, RR b) := by
    intro p
    induction p with
    | zero =>
      intro k hk J f1 f4
      have hke : k = 1024 := by omega
      subst hke
      refine wp_iload rfl rfl ?_
      refine wp_sipush (v := 1024) rfl rfl ?_
      refine wp_icmp_ge 25 rfl rfl (fun _ => ?_) (fun h14 => absurd (show (1024 : Int32) ≤ nI 1024 by decide) h14)
      refine wp_iconst (v := 0) rfl rfl ?_
      refine wp_istore (lv' := [(6, _), (0, _), (1, _), (2, _), (4, _), (5, _)]) rfl (by decide) rfl ?_
      refine wp_loc (lv' := [(0, _), (1, _), (2, _), (4, _), (5, _), (6, _)]) [1, 2, 3, 4, 5, 0] rfl ?_
      refine week 52 0 (by omega) J f1 (fun S hS => ?_) (fun u hu => by rw [show u = 0 by omega]; exact fw0 hp)
      rw [f4 S (by omega)]
      refine ⟨b2_01 _, ?_⟩
      show _ ↔ S = 0
      by_cases e : S = 0
      · rw [b2_t e]; simp [e]
      · rw [b2_f e]; simp [e]
    | succ p ihp =>
      intro k hk J f1 f4
      have hlt2 : ¬ (1024 : Int32) ≤ nI k := nI_ge (a := k) (b := 1024) (by omega) (by omega)
      have hin : vp_in (nI k) 54272 := vp_in_nI (by omega) (by omega)
      have hcl : (nI k).toNatClampNeg = k := nI_clamp (by omega)
      have nx : ∀ x : Int32, x = b2 (k = 0) → WQ G (d + 2) Y_X11_fewest Q 22 [(0, .ref 72), (1, .int (nI (pC P))), (2, .long v), (4, .int (nI (allS P))), (5, .ref 99), (6, .int (nI k))] [.int x, .int (nI k), .ref 99] (J, L, RR b) := by
        intro x hx
        subst hx
        refine q_zast rfl (by first | rfl | assumption) (by assumption) ?_
        refine wp_iinc (v := nI (k + 1)) (lv' := [(6, _), (0, _), (1, _), (2, _), (4, _), (5, _)]) rfl rfl (nI_1 k) (by decide) rfl ?_
        refine wp_goto 12 rfl rfl ?_
        refine wp_loc (lv' := [(0, _), (1, _), (2, _), (4, _), (5, _), (6, _)]) [1, 2, 3, 4, 5, 0] rfl ?_
        rw [hcl, nar01 (b2_01 _)]
        refine ihp (k + 1) (by omega) _ (fun q hq => by rw [uI_fn hq]; exact f1 q hq) (fun S hS => ?_)
        by_cases e : S = k
        · rw [e, show 1024 * 0 + k = k by omega, uI_eq]
        · rw [uI_nk (by omega)]; exact f4 S (by omega)
      have hz : nI k = 0 ↔ k = 0 := nI_eq (a := k) (b := 0) (by omega) (by omega)
      refine wp_iload rfl rfl ?_
      refine wp_sipush (v := 1024) rfl rfl ?_
      refine wp_icmp_ge 25 rfl rfl (fun h14 => absurd h14 hlt2) (fun _ => ?_)
      refine wp_aload rfl rfl ?_
      refine wp_iload rfl rfl ?_
      refine wp_iload rfl rfl ?_
      refine wp_if_ne 21 rfl rfl (fun h18 => ?_) (fun h18 => ?_)
      · refine wp_iconst (v := 0) rfl rfl ?_
        first
        | exact nx _ (by rw [b2_t (hz.mp h18)])
        | exact nx _ (by rw [b2_f (fun z => h18 (hz.mpr z))])
      · refine wp_iconst (v := 1) rfl rfl ?_
        refine wp_goto 22 rfl rfl ?_
        first
        | exact nx _ (by rw [b2_t (hz.mp h18)])
        | exact nx _ (by rw [b2_f (fun z => h18 (hz.mpr z))])
  have e0 : (1 : Int32) <<< (I 72 5 &&& 31) - 1 = nI (allS P) := by
    rw [hI.1, sh1 _ (by omega)]
    exact nI_m1 (Nat.two_pow_pos _)
  refine MT.intro m_X11_fewest rfl (Nat.le_of_ble_eq_true rfl) ?_
  show WQ G (d + 2) Y_X11_fewest Q 0 [(0, .ref 72), (1, .int (nI (pC P))), (2, .long v)] [] (I, L, RR b)
  refine wp_iconst (v := 1) rfl rfl ?_
  refine wp_aload_n rfl rfl ?_
  refine q_geti rfl rfl (by first | rfl | assumption) rfl ?_
  refine wp_ishl rfl ?_
  refine wp_iconst (v := 1) rfl rfl ?_
  refine wp_isub rfl ?_
  rw [e0]
  refine wp_istore (lv' := [(4, _), (0, _), (1, _), (2, _)]) rfl (by decide) rfl ?_
  refine wp_aload_n rfl rfl ?_
  refine q_getr rfl rfl (by first | rfl | assumption) rfl rfl ?_
  refine wp_astore (lv' := [(5, _), (4, _), (0, _), (1, _), (2, _)]) rfl (by decide) rfl ?_
  refine wp_iconst (v := 0) rfl rfl ?_
  refine wp_istore (lv' := [(6, _), (5, _), (4, _), (0, _), (1, _), (2, _)]) rfl (by decide) rfl ?_
  refine wp_loc (lv' := [(0, _), (1, _), (2, _), (4, _), (5, _), (6, _)]) [3, 4, 5, 2, 1, 0] rfl ?_
  exact ini 1024 0 (by omega) I (fun q _ => rfl) (fun S hS => absurd hS (by omega))
