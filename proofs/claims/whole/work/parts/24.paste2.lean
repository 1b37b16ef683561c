/-! paste, the rest -/
theorem c_X11_paste_no (G : Gl) (d : Nat) (v i t k n : Int32) (I : IF) (L : LF) (b : Bool) (hsz : ∀ s, s < 4 → ¬ I 73 s < 0 → 0 ≤ I 74 s ∧ I 74 s ≤ 60) (hno : ¬ ((0 ≤ v ∧ v ≤ 3) ∧ (0 ≤ t ∧ t ≤ 3) ∧ ¬ I 73 v.toNatClampNeg < 0 ∧ ¬ I 73 t.toNatClampNeg < 0 ∧ I 73 v.toNatClampNeg = I 73 t.toNatClampNeg ∧ (0 ≤ i ∧ 0 ≤ n ∧ i ≤ I 74 v.toNatClampNeg ∧ n ≤ I 74 v.toNatClampNeg - i) ∧ (0 ≤ k ∧ 0 ≤ n ∧ k ≤ I 74 t.toNatClampNeg ∧ n ≤ I 74 t.toNatClampNeg - k))) : MD G (d + 2) Y_X11_paste [.ref 72, .int v, .int i, .int t, .int k, .int n] (I, L, RR b) (some (.int (if (0 ≤ v ∧ v ≤ 3) ∧ (0 ≤ t ∧ t ≤ 3) then (if I 73 v.toNatClampNeg < 0 ∨ I 73 t.toNatClampNeg < 0 then -5 else if I 73 v.toNatClampNeg = I 73 t.toNatClampNeg then -6 else -7) else -2))) (uI I 72 0 0, L, RR b) := by
  have key : ∀ (x y z : Int32), 0 ≤ x → 0 ≤ y → 0 ≤ z → z ≤ 60 → ¬ (x ≤ z ∧ y ≤ z - x) → 0 < lg_cmp (x.toInt64 + y.toInt64) z.toInt64 := by
    intro x y z hx hy hz hz6 hn
    obtain ⟨a, ha, rfl⟩ := nI_of (x := x) (by grind)
    obtain ⟨c, hc, rfl⟩ := nI_of (x := y) (by grind)
    obtain ⟨q, hq, rfl⟩ := nI_of (x := z) (by grind)
    rw [l64s ha hc hq]
    have hq6 : q ≤ 60 := (nI_leI (a := q) (b := 60) hq (by omega)).mp hz6
    rcases Nat.lt_or_ge q (a + c) with h | h
    · exact h
    · exfalso
      apply hn
      refine ⟨nI_le (by omega) hq, ?_⟩
      rw [pk_sub (by omega)]
      exact nI_le (by omega) (by omega)
  have e0 : ∀ q j, q ≠ 72 → uI I 72 0 0 q j = I q j := fun q j hq => uI_ne hq
  generalize hJ : uI I 72 0 0 = J at e0
  refine MT.intro m_X11_paste rfl (Nat.le_of_ble_eq_true rfl) ?_
  show WQ G (d + 2) Y_X11_paste _ 0 [(0, .ref 72), (1, .int v), (2, .int i), (3, .int t), (4, .int k), (5, .int n)] [] (I, L, RR b)
  refine wp_aload_n rfl rfl ?_
  refine wp_iconst (v := 0) rfl rfl ?_
  refine q_puti rfl rfl (by first | rfl | assumption) (Or.inl rfl) rfl ?_
  rw [hJ]
  refine wp_iload_n rfl rfl ?_
  refine cS1 rfl l_11_123 s_X11_isSlot m_X11_isSlot (c_X11_isSlot G _ _ _) rfl (Nat.le_of_ble_eq_true rfl) ?_
  refine wp_if_eq 9 rfl rfl (fun h5 => ?_) (fun h5 => ?_)
  · refine wp_bipush (v := (-2)) rfl rfl ?_
    exact wp_iret rfl rfl (⟨by (try simp only [hcl, hcl2, e0 73 _ (show (73 : Nat) ≠ 72 by decide)] at *); simp only [b2_eq, b2_ne] at *; grind (splits := 30), rfl⟩)
  · refine wp_iload_n rfl rfl ?_
    refine cS1 rfl l_11_123 s_X11_isSlot m_X11_isSlot (c_X11_isSlot G _ _ _) rfl (Nat.le_of_ble_eq_true rfl) ?_
    refine wp_if_ne 11 rfl rfl (fun h8 => ?_) (fun h8 => ?_)
    · have hv := b2_ne.mp h5
      have hu := b2_ne.mp h8
      obtain ⟨s1, hs1, hvs, hcl⟩ := slot4 hv
      obtain ⟨s2, hs2, hts, hcl2⟩ := slot4 hu
      have hin : vp_in v 4 := by rw [hvs]; exact vp_in_nI hs1 (by omega)
      have hin2 : vp_in t 4 := by rw [hts]; exact vp_in_nI hs2 (by omega)
      have z1 := hsz s1 hs1
      have z2 := hsz s2 hs2
      rw [hcl, hcl2] at hno
      rw [hcl, hcl2]
      refine wp_aload_n rfl rfl ?_
      refine q_getr rfl rfl (by first | rfl | assumption) rfl rfl ?_
      refine wp_iload_n rfl rfl ?_
      refine q_iald rfl (by first | rfl | assumption) (by assumption) ?_
      refine wp_if_lt 21 rfl rfl (fun h15 => ?_) (fun h15 => ?_)
      · refine wp_bipush (v := (-5)) rfl rfl ?_
        exact wp_iret rfl rfl (⟨by (try simp only [hcl, hcl2, e0 73 _ (show (73 : Nat) ≠ 72 by decide)] at *); simp only [b2_eq, b2_ne] at *; grind (splits := 30), rfl⟩)
      · refine wp_aload_n rfl rfl ?_
        refine q_getr rfl rfl (by first | rfl | assumption) rfl rfl ?_
        refine wp_iload_n rfl rfl ?_
        refine q_iald rfl (by first | rfl | assumption) (by assumption) ?_
        refine wp_if_ge 23 rfl rfl (fun h20 => ?_) (fun h20 => ?_)
        · refine wp_aload_n rfl rfl ?_
          refine q_getr rfl rfl (by first | rfl | assumption) rfl rfl ?_
          refine wp_iload_n rfl rfl ?_
          refine q_iald rfl (by first | rfl | assumption) (by assumption) ?_
          refine wp_aload_n rfl rfl ?_
          refine q_getr rfl rfl (by first | rfl | assumption) rfl rfl ?_
          refine wp_iload_n rfl rfl ?_
          refine q_iald rfl (by first | rfl | assumption) (by assumption) ?_
          refine wp_icmp_eq 34 rfl rfl (fun h31 => ?_) (fun h31 => ?_)
          · refine wp_iload_n rfl rfl ?_
            refine wp_if_lt 64 rfl rfl (fun h35 => ?_) (fun h35 => ?_)
            · refine wp_bipush (v := (-6)) rfl rfl ?_
              exact wp_iret rfl rfl (⟨by (try simp only [hcl, hcl2, e0 73 _ (show (73 : Nat) ≠ 72 by decide)] at *); simp only [b2_eq, b2_ne] at *; grind (splits := 30), rfl⟩)
            · refine wp_iload rfl rfl ?_
              refine wp_if_lt 64 rfl rfl (fun h37 => ?_) (fun h37 => ?_)
              · refine wp_bipush (v := (-6)) rfl rfl ?_
                exact wp_iret rfl rfl (⟨by (try simp only [hcl, hcl2, e0 73 _ (show (73 : Nat) ≠ 72 by decide)] at *); simp only [b2_eq, b2_ne] at *; grind (splits := 30), rfl⟩)
              · refine wp_iload rfl rfl ?_
                refine wp_if_lt 64 rfl rfl (fun h39 => ?_) (fun h39 => ?_)
                · refine wp_bipush (v := (-6)) rfl rfl ?_
                  exact wp_iret rfl rfl (⟨by (try simp only [hcl, hcl2, e0 73 _ (show (73 : Nat) ≠ 72 by decide)] at *); simp only [b2_eq, b2_ne] at *; grind (splits := 30), rfl⟩)
                · refine wp_iload_n rfl rfl ?_
                  refine wp_i2l rfl ?_
                  refine wp_iload rfl rfl ?_
                  refine wp_i2l rfl ?_
                  refine wp_ladd rfl ?_
                  refine wp_aload_n rfl rfl ?_
                  refine q_getr rfl rfl (by first | rfl | assumption) rfl rfl ?_
                  refine wp_iload_n rfl rfl ?_
                  refine q_iald rfl (by first | rfl | assumption) (by assumption) ?_
                  refine wp_i2l rfl ?_
                  refine wp_lcmp rfl ?_
                  refine wp_if_gt 64 rfl rfl (fun h51 => ?_) (fun h51 => ?_)
                  · refine wp_bipush (v := (-6)) rfl rfl ?_
                    exact wp_iret rfl rfl (⟨by (try simp only [hcl, hcl2, e0 73 _ (show (73 : Nat) ≠ 72 by decide)] at *); simp only [b2_eq, b2_ne] at *; grind (splits := 30), rfl⟩)
                  · refine wp_iload rfl rfl ?_
                    refine wp_i2l rfl ?_
                    refine wp_iload rfl rfl ?_
                    refine wp_i2l rfl ?_
                    refine wp_ladd rfl ?_
                    refine wp_aload_n rfl rfl ?_
                    refine q_getr rfl rfl (by first | rfl | assumption) rfl rfl ?_
                    refine wp_iload_n rfl rfl ?_
                    refine q_iald rfl (by first | rfl | assumption) (by assumption) ?_
                    refine wp_i2l rfl ?_
                    refine wp_lcmp rfl ?_
                    refine wp_if_le 66 rfl rfl (fun h63 => ?_) (fun h63 => ?_)
                    · exfalso
                      rw [hcl, e0 74 _ (by decide)] at h51
                      rw [hcl2, e0 74 _ (by decide)] at h63
                      simp only [hcl, hcl2, e0 73 _ (show (73 : Nat) ≠ 72 by decide)] at h15 h20 h31
                      have k1 := key i n (I 74 s1) (by grind) (by grind) (by grind) (by grind)
                      have k2 := key k n (I 74 s2) (by grind) (by grind) (by grind) (by grind)
                      grind
                    · refine wp_bipush (v := (-6)) rfl rfl ?_
                      exact wp_iret rfl rfl (⟨by (try simp only [hcl, hcl2, e0 73 _ (show (73 : Nat) ≠ 72 by decide)] at *); simp only [b2_eq, b2_ne] at *; grind (splits := 30), rfl⟩)
          · refine wp_bipush (v := (-7)) rfl rfl ?_
            exact wp_iret rfl rfl (⟨by (try simp only [hcl, hcl2, e0 73 _ (show (73 : Nat) ≠ 72 by decide)] at *); simp only [b2_eq, b2_ne] at *; grind (splits := 30), rfl⟩)
        · refine wp_bipush (v := (-5)) rfl rfl ?_
          exact wp_iret rfl rfl (⟨by (try simp only [hcl, hcl2, e0 73 _ (show (73 : Nat) ≠ 72 by decide)] at *); simp only [b2_eq, b2_ne] at *; grind (splits := 30), rfl⟩)
    · refine wp_bipush (v := (-2)) rfl rfl ?_
      exact wp_iret rfl rfl (⟨by (try simp only [hcl, hcl2, e0 73 _ (show (73 : Nat) ≠ 72 by decide)] at *); simp only [b2_eq, b2_ne] at *; grind (splits := 30), rfl⟩)
theorem s_paste {G : Gl} {d : Nat} {I : IF} {L : LF} {b : Bool} (v i t k n : Int32) (h : InvA I L) : StepA G (d + 2) Y_X10_paste Y_X11_paste [.int v, .int i, .int t, .int k, .int n] I L b := by
  obtain ⟨nm, na, nr, h⟩ := h
  have a11 := h.2.2.2.2.2.2.2.2.2.2
  by_cases hok : (0 ≤ v ∧ v ≤ 3) ∧ (0 ≤ t ∧ t ≤ 3) ∧ ¬ I (57 + 2 * v.toNatClampNeg) 2 = -1 ∧ ¬ I (57 + 2 * t.toNatClampNeg) 2 = -1 ∧ I (57 + 2 * v.toNatClampNeg) 1 = I (57 + 2 * t.toNatClampNeg) 1 ∧ (0 ≤ i ∧ 0 ≤ n ∧ i ≤ I (57 + 2 * v.toNatClampNeg) 2 ∧ n ≤ I (57 + 2 * v.toNatClampNeg) 2 - i) ∧ (0 ≤ k ∧ 0 ≤ n ∧ k ≤ I (57 + 2 * t.toNatClampNeg) 2 ∧ n ≤ I (57 + 2 * t.toNatClampNeg) 2 - k)
  · obtain ⟨hv, ht, e1, e2, e3, ⟨i0, n0, i1, i2⟩, k0, -, k1, k2⟩ := hok
    obtain ⟨s, hs, rfl, hcl⟩ := slot4 hv
    obtain ⟨u, hu, rfl, hcl2⟩ := slot4 ht
    rw [hcl] at e1 e3 i1 i2
    rw [hcl2] at e2 e3 k1 k2
    have z1 := (a11 s hs).2.resolve_left (fun q => e1 q.1)
    have z2 := (a11 u hu).2.resolve_left (fun q => e2 q.1)
    obtain ⟨ss, hss, es⟩ := nI_of2 (x := I (57 + 2 * s) 2) (M := 60) (n := 60) rfl (by grind) z1.1.2
    obtain ⟨su, hsu, eu⟩ := nI_of2 (x := I (57 + 2 * u) 2) (M := 60) (n := 60) rfl (by grind) z2.1.2
    obtain ⟨ii, hii, rfl⟩ := nI_of2 (x := i) (M := 60) (n := 60) rfl (by grind) (by grind)
    obtain ⟨kk, hkk, rfl⟩ := nI_of2 (x := k) (M := 60) (n := 60) rfl (by grind) (by grind)
    have hik : ii ≤ ss := (nI_leI (by omega) (by omega)).mp (by rw [← es]; exact i1)
    have hkk2 : kk ≤ su := (nI_leI (by omega) (by omega)).mp (by rw [← eu]; exact k1)
    have i2' : n ≤ nI (ss - ii) := by rw [← pk_sub hik, ← es]; exact i2
    have k2' : n ≤ nI (su - kk) := by rw [← pk_sub hkk2, ← eu]; exact k2
    obtain ⟨nn, hnn, rfl⟩ := nI_of (x := n) (by grind)
    have hn1 : nn ≤ ss - ii := (nI_leI hnn (by omega)).mp i2'
    have hn2 : nn ≤ su - kk := (nI_leI hnn (by omega)).mp k2'
    have c1 := c_X10_paste_ok G d I L b hs hu (show ii + nn ≤ 60 by omega) (show kk + nn ≤ 60 by omega) e1 e2 e3 ⟨i1, i2⟩ ⟨k1, k2⟩
    have c2 := c_X11_paste_ok G d I (cpL L (58 + 2 * s) (58 + 2 * u) ii kk nn) b hs hu (show ii + nn ≤ 60 by omega) (show kk + nn ≤ 60 by omega) (by grind) (by grind) (by rw [← z1.2.2.2, ← z2.2.2.2]; exact e3) (z1.2.1.trans es) (z2.2.1.trans eu) hss hsu (by omega) (by omega)
    have key := IV_rows (J := uI I 72 0 0) (K := bkL (mvL (cpL L (58 + 2 * s) (58 + 2 * u) ii kk nn) (60 * s + ii) nn) (60 * u + kk) nn) h (fun q h1 h2 h3 h4 => uI_fn h4) (fun k hk => uI_nk hk) (fun t ht => by
      have z := a11 t ht
      refine ⟨fun q hq => ?_, ?_⟩
      · have hR : bkL (mvL (cpL L (58 + 2 * s) (58 + 2 * u) ii kk nn) (60 * s + ii) nn) (60 * u + kk) nn (58 + 2 * t) q = cpL L (58 + 2 * s) (58 + 2 * u) ii kk nn (58 + 2 * t) q := by
          unfold bkL mvL
          rw [if_neg (by omega), if_neg (by omega)]
        rw [hR]
        by_cases e : t = u
        · subst e
          by_cases e2 : kk ≤ q ∧ q < kk + nn
          · have hL : bkL (mvL (cpL L (58 + 2 * s) (58 + 2 * t) ii kk nn) (60 * s + ii) nn) (60 * t + kk) nn 75 (60 * t + q) = L 75 (60 * s + ii + (60 * t + q - (60 * t + kk))) := by
              unfold bkL mvL cpL
              rw [if_pos (by omega), if_pos (by omega), if_neg (by omega)]
            have hC : cpL L (58 + 2 * s) (58 + 2 * t) ii kk nn (58 + 2 * t) q = L (58 + 2 * s) (ii + (q - kk)) := by
              unfold cpL va_cpy
              rw [if_pos rfl, if_pos e2]
            rw [hL, hC, show 60 * s + ii + (60 * t + q - (60 * t + kk)) = 60 * s + (ii + (q - kk)) by omega]
            exact (a11 s hs).1 _ (by omega)
          · have hL : bkL (mvL (cpL L (58 + 2 * s) (58 + 2 * t) ii kk nn) (60 * s + ii) nn) (60 * t + kk) nn 75 (60 * t + q) = L 75 (60 * t + q) := by
              unfold bkL mvL cpL
              rw [if_neg (by omega), if_neg (by omega), if_neg (by omega)]
            have hC : cpL L (58 + 2 * s) (58 + 2 * t) ii kk nn (58 + 2 * t) q = L (58 + 2 * t) q := by
              unfold cpL va_cpy
              rw [if_pos rfl, if_neg e2]
            rw [hL, hC]
            exact z.1 q hq
        · have hL : bkL (mvL (cpL L (58 + 2 * s) (58 + 2 * u) ii kk nn) (60 * s + ii) nn) (60 * u + kk) nn 75 (60 * t + q) = L 75 (60 * t + q) := by
            unfold bkL mvL cpL
            rw [if_neg (by omega), if_neg (by omega), if_neg (by omega)]
          have hC : cpL L (58 + 2 * s) (58 + 2 * u) ii kk nn (58 + 2 * t) q = L (58 + 2 * t) q := by
            unfold cpL
            rw [if_neg (by omega)]
          rw [hL, hC]
          exact z.1 q hq
      · simp (disch := omega) only [uI_ne]
        exact z.2)
    exact ⟨_, _, _, _, _, c1, c2, ⟨nm, na, nr, key.1⟩, key.2⟩
  · have hsz : ∀ s, s < 4 → ¬ I 73 s < 0 → 0 ≤ I 74 s ∧ I 74 s ≤ 60 := by
      intro s hs hn
      have z := a11 s hs
      grind
    have hrel : ∀ s, s < 4 → (I 73 s < 0 ↔ I (57 + 2 * s) 2 = -1) ∧ (¬ I 73 s < 0 → I 74 s = I (57 + 2 * s) 2 ∧ I (57 + 2 * s) 1 = I 73 s) := by
      intro s hs
      have z := a11 s hs
      grind
    refine StepA.query h (c_X10_paste_no G d v i t k n I L b hok) ?_
    have hok2 : ¬ ((0 ≤ v ∧ v ≤ 3) ∧ (0 ≤ t ∧ t ≤ 3) ∧ ¬ I 73 v.toNatClampNeg < 0 ∧ ¬ I 73 t.toNatClampNeg < 0 ∧ I 73 v.toNatClampNeg = I 73 t.toNatClampNeg ∧ (0 ≤ i ∧ 0 ≤ n ∧ i ≤ I 74 v.toNatClampNeg ∧ n ≤ I 74 v.toNatClampNeg - i) ∧ (0 ≤ k ∧ 0 ≤ n ∧ k ≤ I 74 t.toNatClampNeg ∧ n ≤ I 74 t.toNatClampNeg - k)) := by
      intro ⟨hv, ht, e1, e2, e3, e4, e5⟩
      apply hok
      obtain ⟨s, hs, -, hcl⟩ := slot4 hv
      obtain ⟨u, hu, -, hcl2⟩ := slot4 ht
      rw [hcl] at e1 e3 e4 ⊢
      rw [hcl2] at e2 e3 e5 ⊢
      have y1 := hrel s hs
      have y2 := hrel u hu
      refine ⟨hv, ht, fun q => e1 (y1.1.mpr q), fun q => e2 (y2.1.mpr q), ?_, ?_, ?_⟩
      · rw [(y1.2 e1).2, (y2.2 e2).2, e3]
      · rw [← (y1.2 e1).1]; exact e4
      · rw [← (y2.2 e2).1]; exact e5
    have c2 := c_X11_paste_no G d v i t k n I L b hsz hok2
    have e : (if (0 ≤ v ∧ v ≤ 3) ∧ (0 ≤ t ∧ t ≤ 3) then (if I 73 v.toNatClampNeg < 0 ∨ I 73 t.toNatClampNeg < 0 then -5 else if I 73 v.toNatClampNeg = I 73 t.toNatClampNeg then -6 else -7) else (-2 : Int32)) = (if (0 ≤ v ∧ v ≤ 3) ∧ (0 ≤ t ∧ t ≤ 3) then (if I (57 + 2 * v.toNatClampNeg) 2 = -1 ∨ I (57 + 2 * t.toNatClampNeg) 2 = -1 then -5 else if I (57 + 2 * v.toNatClampNeg) 1 = I (57 + 2 * t.toNatClampNeg) 1 then -6 else -7) else -2) := by
      by_cases hv : (0 ≤ v ∧ v ≤ 3) ∧ (0 ≤ t ∧ t ≤ 3)
      · obtain ⟨s, hs, -, hcl⟩ := slot4 hv.1
        obtain ⟨u, hu, -, hcl2⟩ := slot4 hv.2
        rw [if_pos hv, if_pos hv, hcl, hcl2]
        have y1 := hrel s hs
        have y2 := hrel u hu
        grind
      · rw [if_neg hv, if_neg hv]
    rw [e] at c2
    exact c2
