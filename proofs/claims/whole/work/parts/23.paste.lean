/-! paste -/
theorem sy_i : Cond.initialized "java/lang/System" ∈ goodL := mem_at 73 (by decide +kernel) rfl
theorem sy_l : Cond.methodLink (RN 10) 279 arraycopyName ∈ goodL := mem_at 981 (by decide +kernel) rfl
theorem sy_s : Cond.static arraycopyName ∈ goodL := mem_at 982 (by decide +kernel) rfl
theorem sy_n : Cond.native arraycopyName ∈ goodL := mem_at 983 (by decide +kernel) rfl
theorem W.sz {p : Program} {l : Launch} {e : Env} {R : Room} {s : State} {m : MethodId} {args : Array Value} {below : List Frame} {meth : Method} {c : Code} {H : Heap} {locs : List Loc} {cells slots M : Nat} {Q : State → Prop} {g : JFrame} (hs : s.heap.size + cells ≤ M) (kk : H.size ≤ M → W p l e R s m args below meth c H locs cells slots Q g) : W p l e R s m args below meth c H locs cells slots Q g :=
  fun T hT X => kk (by rw [← hT]; exact Nat.le_trans X.heapSize hs) T hT X
def cpL (L : LF) (a0 a sp dp n : Nat) : LF := fun a' k' => if a' = a then va_cpy (L a0) (L a) sp dp n k' else L a' k'
theorem q_copy {G : Gl} {Q : Option Value → mW → Prop} {k d a0 a n0 n1 : Nat} {lv : List (Nat × Value)} {pc : Nat} {I : IF} {L : LF} {R : RF} {sp dp n : Int32} (hd : nx Y_X10_paste k = some (pc, .invokestatic 279, 3)) (hs0 : shp NN a0 = some (.inl (3, n0))) (hs1 : shp NN a = some (.inl (3, n1))) (h1 : ¬ sp < 0) (h2 : ¬ dp < 0) (h3 : ¬ n < 0) (h4 : sp.toNatClampNeg + n.toNatClampNeg ≤ n0) (h5 : dp.toNatClampNeg + n.toNatClampNeg ≤ n1)
    (kk : WQ G d Y_X10_paste Q (k + 1) lv [] (I, cpL L a0 a sp.toNatClampNeg dp.toNatClampNeg n.toNatClampNeg, R)) : WQ G d Y_X10_paste Q k lv [.int n, .int dp, .ref a, .int sp, .ref a0] (I, L, R) := by
  intro p e s m args below meth c C H locs ls hr hS hh
  obtain ⟨hx, hb, hrt, hml, hown, hts, hlk, hnm, hK, hO, hc⟩ := id C
  obtain ⟨d1, d2⟩ := nx_dec hc hd
  obtain ⟨b1, b2⟩ := arr_at (G := G) (w := (I, L, R)) hs0
  obtain ⟨a1, a2⟩ := arr_at (G := G) (w := (I, L, R)) hs1
  obtain ⟨s1, s2, s3⟩ := shp_spec hs1
  show W _ _ _ _ _ _ _ _ _ _ _ _ _ _ _ (F0 m (pcO Y_X10_paste k) ls [.int n, .int dp, .ref (ra G a), .int sp, .ref (ra G a0)])
  rw [a2, b2]
  refine va_copyl (f := L a0) (g := L a) (ty := .long) (rest := []) hx hb (hml.trans hh.1.symm) hown (hts _ sy_l) (hts _ sy_n) (hts _ sy_s) (hts _ sy_i) hK hr.2 cells_D hS a0 a 3 3 b1 a1 rfl rfl rfl h1 h2 h3 h4 h5 (fun _ _ => rfl) (by show 1 ≤ d + 1; omega) (by show 0 + _ ≤ 60 * d + 60; rw [show nativeFrameWords "java/lang/System" "arraycopy" 5 = 7 from rfl]; omega) d1 (fun H1 locs1 hP1 hD1 hS1 => ?_)
  refine W.sz (M := gb G + NN) (by have := hS.1; rw [hr.1] at this; exact this) (fun hle => ?_)
  have hcell : cellE G (I, cpL L a0 a sp.toNatClampNeg dp.toNatClampNeg n.toNatClampNeg, R) a = .inl (gA G 3, n1, .inr (.inl (va_cpy (L a0) (L a) sp.toNatClampNeg dp.toNatClampNeg n.toNatClampNeg))) := by
    rw [cell_arr s2]
    show Sum.inl (gA G 3, n1, Sum.inr (Sum.inl (cpL L a0 a sp.toNatClampNeg dp.toNatClampNeg n.toNatClampNeg a))) = _
    rw [show cpL L a0 a sp.toNatClampNeg dp.toNatClampNeg n.toNatClampNeg a = va_cpy (L a0) (L a) sp.toNatClampNeg dp.toNatClampNeg n.toNatClampNeg by funext q; simp [cpL]]
  rw [cells_set (w := (I, L, R)) (w' := (I, cpL L a0 a sp.toNatClampNeg dp.toNatClampNeg n.toNatClampNeg, R)) hcell (fun j hj => cell_other rfl (by funext q; simp [cpL, hj]) rfl)] at hP1
  have hlast := (hP1 (NN - 1) _ (cells_at (by decide))).lt
  have hsz : H1.size = gb G + NN := by
    have h9 : gb G + (NN - 1) < H1.size := hlast
    omega
  have K := kk p e s m args below meth c C H1 locs1 ls ⟨hsz, hP1⟩ hS1 hh
  rw [d2] at K
  exact K
theorem c_X10_paste_ok (G : Gl) (d : Nat) {s t i k n : Nat} (I : IF) (L : LF) (b : Bool) (hs : s < 4) (ht : t < 4) (hi : i + n ≤ 60) (hk : k + n ≤ 60) (hes : ¬ I (57 + 2 * s) 2 = -1) (het : ¬ I (57 + 2 * t) 2 = -1) (hw : I (57 + 2 * s) 1 = I (57 + 2 * t) 1) (hrs : nI i ≤ I (57 + 2 * s) 2 ∧ nI n ≤ I (57 + 2 * s) 2 - nI i) (hrt : nI k ≤ I (57 + 2 * t) 2 ∧ nI n ≤ I (57 + 2 * t) 2 - nI k) : MD G (d + 2) Y_X10_paste [.ref 0, .int (nI s), .int (nI i), .int (nI t), .int (nI k), .int (nI n)] (I, L, RR b) (some (.int 0)) (I, cpL L (58 + 2 * s) (58 + 2 * t) i k n, RR b) := by
  have ha := sh_row s hs
  have hb := sh_row t ht
  have hs0 : (0 : Int32) ≤ nI s ∧ nI s ≤ 3 := ⟨nI_pos' (by omega), nI_le (b := 3) (by omega) (by omega)⟩
  have ht0 : (0 : Int32) ≤ nI t ∧ nI t ≤ 3 := ⟨nI_pos' (by omega), nI_le (b := 3) (by omega) (by omega)⟩
  have hi0 : (0 : Int32) ≤ nI i := nI_pos' (by omega)
  have hk0 : (0 : Int32) ≤ nI k := nI_pos' (by omega)
  have hn0 : (0 : Int32) ≤ nI n := nI_pos' (by omega)
  have c1 : (nI i).toNatClampNeg = i := nI_clamp (by omega)
  have c2 : (nI k).toNatClampNeg = k := nI_clamp (by omega)
  have c3 : (nI n).toNatClampNeg = n := nI_clamp (by omega)
  refine MT.intro m_X10_paste rfl (Nat.le_of_ble_eq_true rfl) ?_
  show WQ G (d + 2) Y_X10_paste _ 0 [(0, .ref 0), (1, .int (nI s)), (2, .int (nI i)), (3, .int (nI t)), (4, .int (nI k)), (5, .int (nI n))] [] (I, L, RR b)
  refine wp_iload_n rfl rfl ?_
  refine cS1 rfl l_10_149 s_X10_isSlot m_X10_isSlot (c_X10_isSlot G _ _ _) rfl (Nat.le_of_ble_eq_true rfl) ?_
  refine wp_if_eq 6 rfl rfl (fun h2 => ?_) (fun h2 => ?_)
  · exfalso; grind [b2]
  · refine wp_iload_n rfl rfl ?_
    refine cS1 rfl l_10_149 s_X10_isSlot m_X10_isSlot (c_X10_isSlot G _ _ _) rfl (Nat.le_of_ble_eq_true rfl) ?_
    refine wp_if_ne 8 rfl rfl (fun h5 => ?_) (fun h5 => ?_)
    · refine wp_aload_n rfl rfl ?_
      refine q_getr rfl rfl (by first | rfl | assumption) rfl rfl ?_
      refine wp_iload_n rfl rfl ?_
      refine q_rowo rfl rfl hs ?_
      refine wp_astore (lv' := [(6, _), (0, _), (1, _), (2, _), (3, _), (4, _), (5, _)]) rfl (by decide) rfl ?_
      refine wp_aload_n rfl rfl ?_
      refine q_getr rfl rfl (by first | rfl | assumption) rfl rfl ?_
      refine wp_iload_n rfl rfl ?_
      refine q_rowo rfl rfl ht ?_
      refine wp_astore (lv' := [(7, _), (6, _), (0, _), (1, _), (2, _), (3, _), (4, _), (5, _)]) rfl (by decide) rfl ?_
      refine wp_aload rfl rfl ?_
      refine cV1 rfl l_10_152 i_X6_isEmpty m_X6_isEmpty (by first | rfl | assumption) (by decide) (c_X6_isEmpty G _ _ _ _ _ ha) rfl (Nat.le_of_ble_eq_true rfl) ?_
      refine wp_if_ne 24 rfl rfl (fun h20 => ?_) (fun h20 => ?_)
      · refine wp_loc (lv' := [(0, _), (1, _), (2, _), (3, _), (4, _), (5, _), (6, _), (7, _)]) [2, 3, 4, 5, 6, 7, 1, 0] rfl ?_
        exfalso; grind [b2]
      · refine wp_aload rfl rfl ?_
        refine cV1 rfl l_10_152 i_X6_isEmpty m_X6_isEmpty (by first | rfl | assumption) (by decide) (c_X6_isEmpty G _ _ _ _ _ hb) rfl (Nat.le_of_ble_eq_true rfl) ?_
        refine wp_if_eq 26 rfl rfl (fun h23 => ?_) (fun h23 => ?_)
        · refine wp_aload rfl rfl ?_
          refine q_geti rfl rfl (by first | rfl | assumption) rfl ?_
          refine wp_aload rfl rfl ?_
          refine q_geti rfl rfl (by first | rfl | assumption) rfl ?_
          refine wp_icmp_eq 33 rfl rfl (fun h30 => ?_) (fun h30 => ?_)
          · refine wp_aload rfl rfl ?_
            refine wp_iload_n rfl rfl ?_
            refine wp_iload rfl rfl ?_
            refine cV1 rfl l_10_276 i_X6_reaches m_X6_reaches (by first | rfl | assumption) (by decide) (c_X6_reaches G _ _ _ _ _ _ _ ha) rfl (Nat.le_of_ble_eq_true rfl) ?_
            refine wp_if_eq 43 rfl rfl (fun h37 => ?_) (fun h37 => ?_)
            · refine wp_loc (lv' := [(0, _), (1, _), (2, _), (3, _), (4, _), (5, _), (6, _), (7, _)]) [2, 3, 4, 5, 6, 7, 1, 0] rfl ?_
              exfalso; grind [b2]
            · refine wp_aload rfl rfl ?_
              refine wp_iload rfl rfl ?_
              refine wp_iload rfl rfl ?_
              refine cV1 rfl l_10_276 i_X6_reaches m_X6_reaches (by first | rfl | assumption) (by decide) (c_X6_reaches G _ _ _ _ _ _ _ hb) rfl (Nat.le_of_ble_eq_true rfl) ?_
              refine wp_if_ne 45 rfl rfl (fun h42 => ?_) (fun h42 => ?_)
              · refine wp_aload rfl rfl ?_
                refine q_getr rfl rfl (by first | rfl | assumption) rfl (rr_row s hs b) ?_
                refine wp_iload_n rfl rfl ?_
                refine wp_aload rfl rfl ?_
                refine q_getr rfl rfl (by first | rfl | assumption) rfl (rr_row t ht b) ?_
                refine wp_iload rfl rfl ?_
                refine wp_iload rfl rfl ?_
                refine q_copy rfl (sh_rowA s hs) (sh_rowA t ht) (nI_pos (by omega)) (nI_pos (by omega)) (nI_pos (by omega)) (by rw [c1, c3]; exact hi) (by rw [c2, c3]; exact hk) ?_
                refine wp_iconst (v := 0) rfl rfl ?_
                exact wp_iret rfl rfl (⟨rfl, by rw [c1, c2, c3]⟩)
              · refine wp_loc (lv' := [(0, _), (1, _), (2, _), (3, _), (4, _), (5, _), (6, _), (7, _)]) [2, 3, 4, 5, 6, 7, 1, 0] rfl ?_
                exfalso; grind [b2]
          · refine wp_loc (lv' := [(0, _), (1, _), (2, _), (3, _), (4, _), (5, _), (6, _), (7, _)]) [2, 3, 4, 5, 6, 7, 1, 0] rfl ?_
            exfalso; grind [b2]
        · refine wp_loc (lv' := [(0, _), (1, _), (2, _), (3, _), (4, _), (5, _), (6, _), (7, _)]) [2, 3, 4, 5, 6, 7, 1, 0] rfl ?_
          exfalso; grind [b2]
    · exfalso; grind [b2]
theorem c_X10_paste_no (G : Gl) (d : Nat) (v i t k n : Int32) (I : IF) (L : LF) (b : Bool) (hno : ¬ ((0 ≤ v ∧ v ≤ 3) ∧ (0 ≤ t ∧ t ≤ 3) ∧ ¬ I (57 + 2 * v.toNatClampNeg) 2 = -1 ∧ ¬ I (57 + 2 * t.toNatClampNeg) 2 = -1 ∧ I (57 + 2 * v.toNatClampNeg) 1 = I (57 + 2 * t.toNatClampNeg) 1 ∧ (0 ≤ i ∧ 0 ≤ n ∧ i ≤ I (57 + 2 * v.toNatClampNeg) 2 ∧ n ≤ I (57 + 2 * v.toNatClampNeg) 2 - i) ∧ (0 ≤ k ∧ 0 ≤ n ∧ k ≤ I (57 + 2 * t.toNatClampNeg) 2 ∧ n ≤ I (57 + 2 * t.toNatClampNeg) 2 - k))) : MD G (d + 2) Y_X10_paste [.ref 0, .int v, .int i, .int t, .int k, .int n] (I, L, RR b) (some (.int (if (0 ≤ v ∧ v ≤ 3) ∧ (0 ≤ t ∧ t ≤ 3) then (if I (57 + 2 * v.toNatClampNeg) 2 = -1 ∨ I (57 + 2 * t.toNatClampNeg) 2 = -1 then -5 else if I (57 + 2 * v.toNatClampNeg) 1 = I (57 + 2 * t.toNatClampNeg) 1 then -6 else -7) else -2))) (I, L, RR b) := by
  refine MT.intro m_X10_paste rfl (Nat.le_of_ble_eq_true rfl) ?_
  show WQ G (d + 2) Y_X10_paste _ 0 [(0, .ref 0), (1, .int v), (2, .int i), (3, .int t), (4, .int k), (5, .int n)] [] (I, L, RR b)
  refine wp_iload_n rfl rfl ?_
  refine cS1 rfl l_10_149 s_X10_isSlot m_X10_isSlot (c_X10_isSlot G _ _ _) rfl (Nat.le_of_ble_eq_true rfl) ?_
  refine wp_if_eq 6 rfl rfl (fun h2 => ?_) (fun h2 => ?_)
  · refine wp_bipush (v := (-2)) rfl rfl ?_
    exact wp_iret rfl rfl (⟨by simp only [b2_eq, b2_ne] at *; grind (splits := 30), rfl⟩)
  · refine wp_iload_n rfl rfl ?_
    refine cS1 rfl l_10_149 s_X10_isSlot m_X10_isSlot (c_X10_isSlot G _ _ _) rfl (Nat.le_of_ble_eq_true rfl) ?_
    refine wp_if_ne 8 rfl rfl (fun h5 => ?_) (fun h5 => ?_)
    · have hv := b2_ne.mp h2
      have hu := b2_ne.mp h5
      obtain ⟨s1, hs1, hvs, hcl⟩ := slot4 hv
      obtain ⟨s2, hs2, hts, hcl2⟩ := slot4 hu
      have ha := sh_row s1 hs1
      have hb := sh_row s2 hs2
      rw [hcl, hcl2] at hno
      rw [hcl, hcl2]
      refine wp_aload_n rfl rfl ?_
      refine q_getr rfl rfl (by first | rfl | assumption) rfl rfl ?_
      refine wp_iload_n rfl rfl ?_
      refine q_rowo rfl hvs hs1 ?_
      refine wp_astore (lv' := [(6, _), (0, _), (1, _), (2, _), (3, _), (4, _), (5, _)]) rfl (by decide) rfl ?_
      refine wp_aload_n rfl rfl ?_
      refine q_getr rfl rfl (by first | rfl | assumption) rfl rfl ?_
      refine wp_iload_n rfl rfl ?_
      refine q_rowo rfl hts hs2 ?_
      refine wp_astore (lv' := [(7, _), (6, _), (0, _), (1, _), (2, _), (3, _), (4, _), (5, _)]) rfl (by decide) rfl ?_
      refine wp_aload rfl rfl ?_
      refine cV1 rfl l_10_152 i_X6_isEmpty m_X6_isEmpty (by first | rfl | assumption) (by decide) (c_X6_isEmpty G _ _ _ _ _ ha) rfl (Nat.le_of_ble_eq_true rfl) ?_
      refine wp_if_ne 24 rfl rfl (fun h20 => ?_) (fun h20 => ?_)
      · refine wp_bipush (v := (-5)) rfl rfl ?_
        exact wp_iret rfl rfl (⟨by simp only [b2_eq, b2_ne] at *; grind (splits := 30), rfl⟩)
      · refine wp_aload rfl rfl ?_
        refine cV1 rfl l_10_152 i_X6_isEmpty m_X6_isEmpty (by first | rfl | assumption) (by decide) (c_X6_isEmpty G _ _ _ _ _ hb) rfl (Nat.le_of_ble_eq_true rfl) ?_
        refine wp_if_eq 26 rfl rfl (fun h23 => ?_) (fun h23 => ?_)
        · refine wp_aload rfl rfl ?_
          refine q_geti rfl rfl (by first | rfl | assumption) rfl ?_
          refine wp_aload rfl rfl ?_
          refine q_geti rfl rfl (by first | rfl | assumption) rfl ?_
          refine wp_icmp_eq 33 rfl rfl (fun h30 => ?_) (fun h30 => ?_)
          · refine wp_aload rfl rfl ?_
            refine wp_iload_n rfl rfl ?_
            refine wp_iload rfl rfl ?_
            refine cV1 rfl l_10_276 i_X6_reaches m_X6_reaches (by first | rfl | assumption) (by decide) (c_X6_reaches G _ _ _ _ _ _ _ ha) rfl (Nat.le_of_ble_eq_true rfl) ?_
            refine wp_if_eq 43 rfl rfl (fun h37 => ?_) (fun h37 => ?_)
            · refine wp_bipush (v := (-6)) rfl rfl ?_
              exact wp_iret rfl rfl (⟨by simp only [b2_eq, b2_ne] at *; grind (splits := 30), rfl⟩)
            · refine wp_aload rfl rfl ?_
              refine wp_iload rfl rfl ?_
              refine wp_iload rfl rfl ?_
              refine cV1 rfl l_10_276 i_X6_reaches m_X6_reaches (by first | rfl | assumption) (by decide) (c_X6_reaches G _ _ _ _ _ _ _ hb) rfl (Nat.le_of_ble_eq_true rfl) ?_
              refine wp_if_ne 45 rfl rfl (fun h42 => ?_) (fun h42 => ?_)
              · refine wp_loc (lv' := [(0, _), (1, _), (2, _), (3, _), (4, _), (5, _), (6, _), (7, _)]) [2, 3, 4, 5, 6, 7, 1, 0] rfl ?_
                exfalso; simp only [b2_eq, b2_ne] at *; grind (splits := 30)
              · refine wp_bipush (v := (-6)) rfl rfl ?_
                exact wp_iret rfl rfl (⟨by simp only [b2_eq, b2_ne] at *; grind (splits := 30), rfl⟩)
          · refine wp_bipush (v := (-7)) rfl rfl ?_
            exact wp_iret rfl rfl (⟨by simp only [b2_eq, b2_ne] at *; grind (splits := 30), rfl⟩)
        · refine wp_bipush (v := (-5)) rfl rfl ?_
          exact wp_iret rfl rfl (⟨by simp only [b2_eq, b2_ne] at *; grind (splits := 30), rfl⟩)
    · refine wp_bipush (v := (-2)) rfl rfl ?_
      exact wp_iret rfl rfl (⟨by simp only [b2_eq, b2_ne] at *; grind (splits := 30), rfl⟩)
/-- the reference's paste: first into its own row, then out of it -/
def mvL (L : LF) (f n : Nat) : LF := fun a' k' => if a' = 76 ∧ k' < n then L 75 (f + k') else L a' k'
theorem mvL_s (L : LF) (f n : Nat) : uL (mvL L f n) 76 n (L 75 (f + n)) = mvL L f (n + 1) := by
  funext a' k'
  unfold uL mvL
  by_cases e : a' = 76
  · subst e
    by_cases k1 : k' = n
    · subst k1; simp
    · simp [k1, show k' < n + 1 ↔ k' < n by omega]
  · simp [e]
theorem mvL_0 (L : LF) (f : Nat) : mvL L f 0 = L := by funext a' k'; simp [mvL]
def bkL (L : LF) (g n : Nat) : LF := fun a' k' => if a' = 75 ∧ g ≤ k' ∧ k' < g + n then L 76 (k' - g) else L a' k'
theorem bkL_s (L : LF) (g n : Nat) : uL (bkL L g n) 75 (g + n) (L 76 n) = bkL L g (n + 1) := by
  funext a' k'
  unfold uL bkL
  by_cases e : a' = 75
  · subst e
    by_cases k1 : k' = g + n
    · subst k1; simp
    · simp [k1, show (g ≤ k' ∧ k' < g + (n + 1)) ↔ (g ≤ k' ∧ k' < g + n) by omega]
  · simp [e]
theorem bkL_0 (L : LF) (g : Nat) : bkL L g 0 = L := by
  funext a' k'
  unfold bkL
  rw [if_neg (by omega)]
theorem l64s {a b c : Nat} (ha : a < 2 ^ 31) (hb : b < 2 ^ 31) (hc : c < 2 ^ 31) : (0 < lg_cmp ((nI a).toInt64 + (nI b).toInt64) (nI c).toInt64) ↔ c < a + b := by
  rw [nI_l ha, nI_l hb, nI_l hc, lN_add]
  have e1 := pk_lLT (a := c) (b := a + b) (by omega) (by omega)
  unfold lg_cmp
  by_cases h : c < a + b
  · rw [if_pos (e1.mpr h)]; simp [h]
  · rw [if_neg (fun z => h (e1.mp z))]
    split <;> simp [h]
theorem c_X11_paste_ok (G : Gl) (d : Nat) {s t i k n : Nat} (I : IF) (L : LF) (b : Bool) (hs : s < 4) (ht : t < 4) (hi : i + n ≤ 60) (hk : k + n ≤ 60) (hes : ¬ I 73 s < 0) (het : ¬ I 73 t < 0) (hw : I 73 s = I 73 t) {ss st : Nat} (hss : I 74 s = nI ss) (hst : I 74 t = nI st) (hss6 : ss ≤ 60) (hst6 : st ≤ 60) (his : i + n ≤ ss) (hks : k + n ≤ st) : MD G (d + 2) Y_X11_paste [.ref 72, .int (nI s), .int (nI i), .int (nI t), .int (nI k), .int (nI n)] (I, L, RR b) (some (.int 0)) (uI I 72 0 0, bkL (mvL L (60 * s + i) n) (60 * t + k) n, RR b) := by
  have hs0 : (0 : Int32) ≤ nI s ∧ nI s ≤ 3 := ⟨nI_pos' (by omega), nI_le (b := 3) (by omega) (by omega)⟩
  have ht0 : (0 : Int32) ≤ nI t ∧ nI t ≤ 3 := ⟨nI_pos' (by omega), nI_le (b := 3) (by omega) (by omega)⟩
  have hi0 : ¬ nI i < 0 := nI_pos (by omega)
  have hk0 : ¬ nI k < 0 := nI_pos (by omega)
  have hn0 : ¬ nI n < 0 := nI_pos (by omega)
  have hin : vp_in (nI s) 4 := vp_in_nI hs (by omega)
  have hin2 : vp_in (nI t) 4 := vp_in_nI ht (by omega)
  have hcl : (nI s).toNatClampNeg = s := nI_clamp (by omega)
  have hcl2 : (nI t).toNatClampNeg = t := nI_clamp (by omega)
  generalize hJ : uI I 72 0 0 = J
  have e1 : ∀ q, J 73 q = I 73 q := fun q => by rw [← hJ]; exact uI_ne (by decide)
  have e2 : ∀ q, J 74 q = I 74 q := fun q => by rw [← hJ]; exact uI_ne (by decide)
  have hl2 : ∀ (K : LF) (m j : Nat), j + m = n → WQ G (d + 2) Y_X11_paste (fun r' w'' => r' = some (.int 0) ∧ w'' = (J, bkL K (60 * t + k) n, RR b)) 89 [(0, .ref 72), (1, .int (nI s)), (2, .int (nI i)), (3, .int (nI t)), (4, .int (nI k)), (5, .int (nI n)), (6, .int (nI j))] [] (J, bkL K (60 * t + k) j, RR b) := by
    intro K m
    induction m with
    | zero =>
      intro j hj
      have hje : j = n := by omega
      subst hje
      refine wp_iload rfl rfl ?_
      refine wp_iload rfl rfl ?_
      refine wp_icmp_ge 108 rfl rfl (fun _ => ?_) (fun h91 => absurd (nI_le (Nat.le_refl _) (by omega)) h91)
      refine wp_iconst (v := 0) rfl rfl ?_
      exact wp_iret rfl rfl (⟨rfl, rfl⟩)
    | succ m ih =>
      intro j hj
      have hlt : ¬ nI n ≤ nI j := nI_ge (by omega) (by omega)
      have hx : (60 : Int32) * nI t + nI k + nI j = nI (60 * t + k + j) := by rw [show (60 : Int32) = nI 60 from rfl, pk_mul, nI_add, nI_add]
      have hcx : (nI (60 * t + k + j)).toNatClampNeg = 60 * t + k + j := nI_clamp (by omega)
      have hcj : (nI j).toNatClampNeg = j := nI_clamp (by omega)
      have eb : bkL K (60 * t + k) j 76 j = K 76 j := by unfold bkL; rw [if_neg (by omega)]
      refine wp_iload rfl rfl ?_
      refine wp_iload rfl rfl ?_
      refine wp_icmp_ge 108 rfl rfl (fun h91 => absurd h91 hlt) (fun _ => ?_)
      refine wp_aload_n rfl rfl ?_
      refine q_getr rfl rfl (by first | rfl | assumption) rfl rfl ?_
      refine wp_bipush (v := 60) rfl rfl ?_
      refine wp_iload_n rfl rfl ?_
      refine wp_imul rfl ?_
      refine wp_iload rfl rfl ?_
      refine wp_iadd rfl ?_
      refine wp_iload rfl rfl ?_
      refine wp_iadd rfl ?_
      refine wp_aload_n rfl rfl ?_
      refine q_getr rfl rfl (by first | rfl | assumption) rfl rfl ?_
      refine wp_iload rfl rfl ?_
      refine q_lald rfl (by first | rfl | assumption) (vp_in_nI (by omega) (by omega)) ?_
      refine q_last rfl (by first | rfl | assumption) (by rw [hx]; exact vp_in_nI (by omega) (by omega)) ?_
      refine wp_iinc (v := nI (j + 1)) (lv' := [(6, _), (0, _), (1, _), (2, _), (3, _), (4, _), (5, _)]) rfl rfl (nI_1 j) (by decide) rfl ?_
      refine wp_goto 89 rfl rfl ?_
      refine wp_loc (lv' := [(0, _), (1, _), (2, _), (3, _), (4, _), (5, _), (6, _)]) [1, 2, 3, 4, 5, 6, 0] rfl ?_
      rw [hx, hcx, hcj, eb, bkL_s]
      exact ih (j + 1) (by omega)
  have hl1 : ∀ (m j : Nat), j + m = n → WQ G (d + 2) Y_X11_paste (fun r' w'' => r' = some (.int 0) ∧ w'' = (J, bkL (mvL L (60 * s + i) n) (60 * t + k) n, RR b)) 68 [(0, .ref 72), (1, .int (nI s)), (2, .int (nI i)), (3, .int (nI t)), (4, .int (nI k)), (5, .int (nI n)), (6, .int (nI j))] [] (J, mvL L (60 * s + i) j, RR b) := by
    intro m
    induction m with
    | zero =>
      intro j hj
      have hje : j = n := by omega
      subst hje
      refine wp_iload rfl rfl ?_
      refine wp_iload rfl rfl ?_
      refine wp_icmp_ge 87 rfl rfl (fun _ => ?_) (fun h70 => absurd (nI_le (Nat.le_refl _) (by omega)) h70)
      refine wp_iconst (v := 0) rfl rfl ?_
      refine wp_istore (lv' := [(6, _), (0, _), (1, _), (2, _), (3, _), (4, _), (5, _)]) rfl (by decide) rfl ?_
      refine wp_loc (lv' := [(0, _), (1, _), (2, _), (3, _), (4, _), (5, _), (6, _)]) [1, 2, 3, 4, 5, 6, 0] rfl ?_
      have := hl2 (mvL L (60 * s + i) j) j 0 (by omega)
      rw [bkL_0] at this
      exact this
    | succ m ih =>
      intro j hj
      have hlt : ¬ nI n ≤ nI j := nI_ge (by omega) (by omega)
      have hx : (60 : Int32) * nI s + nI i + nI j = nI (60 * s + i + j) := by rw [show (60 : Int32) = nI 60 from rfl, pk_mul, nI_add, nI_add]
      have hcx : (nI (60 * s + i + j)).toNatClampNeg = 60 * s + i + j := nI_clamp (by omega)
      have hcj : (nI j).toNatClampNeg = j := nI_clamp (by omega)
      have eb : mvL L (60 * s + i) j 75 (60 * s + i + j) = L 75 (60 * s + i + j) := by unfold mvL; rw [if_neg (by omega)]
      refine wp_iload rfl rfl ?_
      refine wp_iload rfl rfl ?_
      refine wp_icmp_ge 87 rfl rfl (fun h70 => absurd h70 hlt) (fun _ => ?_)
      refine wp_aload_n rfl rfl ?_
      refine q_getr rfl rfl (by first | rfl | assumption) rfl rfl ?_
      refine wp_iload rfl rfl ?_
      refine wp_aload_n rfl rfl ?_
      refine q_getr rfl rfl (by first | rfl | assumption) rfl rfl ?_
      refine wp_bipush (v := 60) rfl rfl ?_
      refine wp_iload_n rfl rfl ?_
      refine wp_imul rfl ?_
      refine wp_iload_n rfl rfl ?_
      refine wp_iadd rfl ?_
      refine wp_iload rfl rfl ?_
      refine wp_iadd rfl ?_
      refine q_lald rfl (by first | rfl | assumption) (by rw [hx]; exact vp_in_nI (by omega) (by omega)) ?_
      refine q_last rfl (by first | rfl | assumption) (vp_in_nI (by omega) (by omega)) ?_
      refine wp_iinc (v := nI (j + 1)) (lv' := [(6, _), (0, _), (1, _), (2, _), (3, _), (4, _), (5, _)]) rfl rfl (nI_1 j) (by decide) rfl ?_
      refine wp_goto 68 rfl rfl ?_
      refine wp_loc (lv' := [(0, _), (1, _), (2, _), (3, _), (4, _), (5, _), (6, _)]) [1, 2, 3, 4, 5, 6, 0] rfl ?_
      rw [hx, hcx, hcj, eb, mvL_s]
      exact ih (j + 1) (by omega)
  refine MT.intro m_X11_paste rfl (Nat.le_of_ble_eq_true rfl) ?_
  show WQ G (d + 2) Y_X11_paste _ 0 [(0, .ref 72), (1, .int (nI s)), (2, .int (nI i)), (3, .int (nI t)), (4, .int (nI k)), (5, .int (nI n))] [] (I, L, RR b)
  refine wp_aload_n rfl rfl ?_
  refine wp_iconst (v := 0) rfl rfl ?_
  refine q_puti rfl rfl (by first | rfl | assumption) (Or.inl rfl) rfl ?_
  rw [hJ]
  refine wp_iload_n rfl rfl ?_
  refine cS1 rfl l_11_123 s_X11_isSlot m_X11_isSlot (c_X11_isSlot G _ _ _) rfl (Nat.le_of_ble_eq_true rfl) ?_
  refine wp_if_eq 9 rfl rfl (fun h5 => ?_) (fun h5 => ?_)
  · exfalso; grind [b2]
  · refine wp_iload_n rfl rfl ?_
    refine cS1 rfl l_11_123 s_X11_isSlot m_X11_isSlot (c_X11_isSlot G _ _ _) rfl (Nat.le_of_ble_eq_true rfl) ?_
    refine wp_if_ne 11 rfl rfl (fun h8 => ?_) (fun h8 => ?_)
    · refine wp_aload_n rfl rfl ?_
      refine q_getr rfl rfl (by first | rfl | assumption) rfl rfl ?_
      refine wp_iload_n rfl rfl ?_
      refine q_iald rfl (by first | rfl | assumption) (by assumption) ?_
      refine wp_if_lt 21 rfl rfl (fun h15 => ?_) (fun h15 => ?_)
      · rw [hcl, e1] at h15; exact absurd h15 hes
      · refine wp_aload_n rfl rfl ?_
        refine q_getr rfl rfl (by first | rfl | assumption) rfl rfl ?_
        refine wp_iload_n rfl rfl ?_
        refine q_iald rfl (by first | rfl | assumption) (by assumption) ?_
        refine wp_if_ge 23 rfl rfl (fun h20 => ?_) (fun h20 => ?_)
        · refine wp_aload_n rfl rfl ?_
          refine q_getr rfl rfl (by first | rfl | assumption) rfl rfl ?_
          refine wp_iload_n rfl rfl ?_
          refine q_iald rfl (by first | rfl | assumption) (by assumption) ?_
          refine wp_aload_n rfl rfl ?_
          refine q_getr rfl rfl (by first | rfl | assumption) rfl rfl ?_
          refine wp_iload_n rfl rfl ?_
          refine q_iald rfl (by first | rfl | assumption) (by assumption) ?_
          refine wp_icmp_eq 34 rfl rfl (fun h31 => ?_) (fun h31 => ?_)
          · refine wp_iload_n rfl rfl ?_
            refine wp_if_lt 64 rfl rfl (fun h35 => ?_) (fun h35 => ?_)
            · exact absurd h35 hi0
            · refine wp_iload rfl rfl ?_
              refine wp_if_lt 64 rfl rfl (fun h37 => ?_) (fun h37 => ?_)
              · exact absurd h37 hk0
              · refine wp_iload rfl rfl ?_
                refine wp_if_lt 64 rfl rfl (fun h39 => ?_) (fun h39 => ?_)
                · exact absurd h39 hn0
                · refine wp_iload_n rfl rfl ?_
                  refine wp_i2l rfl ?_
                  refine wp_iload rfl rfl ?_
                  refine wp_i2l rfl ?_
                  refine wp_ladd rfl ?_
                  refine wp_aload_n rfl rfl ?_
                  refine q_getr rfl rfl (by first | rfl | assumption) rfl rfl ?_
                  refine wp_iload_n rfl rfl ?_
                  refine q_iald rfl (by first | rfl | assumption) (by assumption) ?_
                  refine wp_i2l rfl ?_
                  refine wp_lcmp rfl ?_
                  refine wp_if_gt 64 rfl rfl (fun h51 => ?_) (fun h51 => ?_)
                  · rw [hcl, e2, hss] at h51; exact absurd ((l64s (by omega) (by omega) (by omega)).mp h51) (by omega)
                  · refine wp_iload rfl rfl ?_
                    refine wp_i2l rfl ?_
                    refine wp_iload rfl rfl ?_
                    refine wp_i2l rfl ?_
                    refine wp_ladd rfl ?_
                    refine wp_aload_n rfl rfl ?_
                    refine q_getr rfl rfl (by first | rfl | assumption) rfl rfl ?_
                    refine wp_iload_n rfl rfl ?_
                    refine q_iald rfl (by first | rfl | assumption) (by assumption) ?_
                    refine wp_i2l rfl ?_
                    refine wp_lcmp rfl ?_
                    refine wp_if_le 66 rfl rfl (fun h63 => ?_) (fun h63 => ?_)
                    · refine wp_iconst (v := 0) rfl rfl ?_
                      refine wp_istore (lv' := [(6, _), (0, _), (1, _), (2, _), (3, _), (4, _), (5, _)]) rfl (by decide) rfl ?_
                      refine wp_loc (lv' := [(0, _), (1, _), (2, _), (3, _), (4, _), (5, _), (6, _)]) [1, 2, 3, 4, 5, 6, 0] rfl ?_
                      have := hl1 n 0 (by omega)
                      rw [mvL_0] at this
                      exact this
                    · rw [hcl2, e2, hst] at h63; exact absurd ((l64s (a := k) (b := n) (c := st) (by omega) (by omega) (by omega)).mp (by grind)) (by omega)
          · rw [hcl, hcl2, e1, e1] at h31; exact absurd hw h31
        · rw [hcl2, e1] at h20; exfalso; grind
    · exfalso; grind [b2]
