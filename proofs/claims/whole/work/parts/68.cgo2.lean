/-! go: the class's call -/
/-- what is told for area a at stock s -/
def Zt (I : IF) (es : List RE) (a s : Nat) : Int64 := gl (fct6 (I (18 + a) 2) (I (18 + a) 3) (I (18 + a) 4) (I (18 + a) 5) (I 1 5) (nI s)) (gvs es)
def hNt (I : IF) (a : Nat) : Nat := (I (18 + a) 2 - I (18 + a) 5).toNatClampNeg
/-- the world once areas up to k have theirs -/
def GB (b : Bool) (es : List RE) (C0 s0 k : Nat) (I : IF) (L : LF) (J : IF) (L2 : LF) : Prop := (∀ q, q ≠ 0 → q ≠ 65 → q ≠ lawA b → (q < 18 ∨ 33 < q) → J q = I q) ∧ (∀ q, q ≠ 9 → J 0 q = I 0 q) ∧ J 0 9 = nI (gvS (Zt I es) (hNt I) C0 s0 k) ∧ (∀ a, a < 16 → (∀ q, q ≠ 5 → J (18 + a) q = I (18 + a) q) ∧ J (18 + a) 5 = if a < k then I (18 + a) 5 + nI (qv (Zt I es) (hNt I) C0 s0 a (gvS (Zt I es) (hNt I) C0 s0 a)) else I (18 + a) 5) ∧ (∀ q, q ≠ 7 → J (lawA b) q = I (lawA b) q) ∧ ∀ q, q ≠ lawA b + 5 → L2 q = L q
theorem c_giveBoxes (G : Gl) (d : Nat) {b : Bool} {I : IF} {L : LF} {es : List RE} {nr C0 s0 : Nat} (hL : LWO I (lawA b) es) (hl : es.length ≤ 10) (hok : ∀ e, e ∈ es → REok e) (hnr : nr ≤ 16) (h4 : I 1 4 = nI nr) (h9 : I 0 9 = nI s0) (hs0 : s0 ≤ 10000000) (hC : I (lawA b) 9 = nI C0) (hC0 : C0 ≤ 10000000) (hh : ∀ a, a < 16 → 0 ≤ I (18 + a) 5 ∧ I (18 + a) 5 ≤ I (18 + a) 2 ∧ I (18 + a) 2 ≤ 100000) : MQ2 G (d + 5) Y_X10_giveBoxes [.ref 0] (I, L, RR b) (fun r w => r = none ∧ ∃ J L2, w = (J, L2, RR b) ∧ GB b es C0 s0 nr I L J L2) := by
  have lo := law_or b
  have sl := sh_law b
  have hN : ∀ a, a < 16 → I (18 + a) 2 - I (18 + a) 5 = nI (hNt I a) ∧ hNt I a ≤ 100000 := by
    intro a ha
    obtain ⟨x1, x2, x3⟩ := hh a ha
    obtain ⟨m, m1, m2⟩ := nI_get (x := I (18 + a) 2 - I (18 + a) 5) (n := 100001) (by grind) (by show _ < (100001 : Int32); grind) (by omega)
    unfold hNt
    rw [m2, nI_clamp (by omega)]
    exact ⟨rfl, by omega⟩
  generalize hZ : Zt I es = Z
  generalize hH : hNt I = H at hN
  have gle := gvS_le Z H C0 s0
  have loop : ∀ (p k : Nat) (J : IF) (L2 : LF), k + p = nr → GB b es C0 s0 k I L J L2 → WQ G (d + 5) Y_X10_giveBoxes (fun r w => r = none ∧ ∃ J L2, w = (J, L2, RR b) ∧ GB b es C0 s0 nr I L J L2) 6 [(0, .ref 0), (1, .int (nI (C0 - (s0 - gvS Z H C0 s0 k)))), (2, .int (nI k))] [] (J, L2, RR b) := by
    intro p
    induction p with
    | zero =>
      intro k J L2 hk hG
      have hkn : k = nr := by omega
      subst hkn
      have hge : J 1 4 ≤ nI k := by rw [hG.1 1 (by omega) (by omega) (by omega) (by omega), h4]; exact nI_le (by omega) (by omega)
      refine wp_iload_n rfl rfl ?_
      refine wp_aload_n rfl rfl ?_
      refine q_getr rfl rfl (by first | rfl | assumption) rfl rfl ?_
      refine q_geti rfl rfl (by first | rfl | assumption) rfl ?_
      refine wp_icmp_ge 42 rfl rfl (fun _ => ?_) (fun h10 => absurd hge h10)
      exact wp_vret rfl rfl (⟨rfl, J, L2, rfl, hG⟩)
    | succ p ih =>
      intro k J L2 hk hG
      have hlt : ¬ J 1 4 ≤ nI k := by rw [hG.1 1 (by omega) (by omega) (by omega) (by omega), h4]; exact nI_ge (by omega) (by omega)
      obtain ⟨g1, g2, g3, g4, g5, g6⟩ := hG
      rw [hZ, hH] at g3 g4
      have hk16 : k < 16 := by omega
      have sa := sh_area k hk16
      obtain ⟨ga1, ga2⟩ := g4 k hk16
      rw [if_neg (by omega)] at ga2
      have gk := gle k
      obtain ⟨q1, q2, q3⟩ := qv_le Z H C0 s0 k (gvS Z H C0 s0 k)
      have hLJ : LWO J (lawA b) es := hL.fr g5 (fun q h1 h4 => g1 _ (by omega) (by omega) (by omega) (by omega))
      have hp := c_portion G d (L := L2) (C := C0 - (s0 - gvS Z H C0 s0 k)) hLJ hl hok hk16 g3 (by omega) (by omega) (by rw [ga1 2 (by decide), ga2]; exact (hN k hk16).1) (by have := (hN k hk16).2; omega)
      have hval : gl (fct6 (J (18 + k) 2) (J (18 + k) 3) (J (18 + k) 4) (J (18 + k) 5) (J 1 5) (J 0 9)) (gvs es) = Z k (gvS Z H C0 s0 k) := by
        have zk : ∀ s, Z k s = gl (fct6 (I (18 + k) 2) (I (18 + k) 3) (I (18 + k) 4) (I (18 + k) 5) (I 1 5) (nI s)) (gvs es) := fun s => by rw [← hZ]; rfl
        rw [zk, ga1 2 (by decide), ga1 3 (by decide), ga1 4 (by decide), ga2, g1 1 (by omega) (by omega) (by omega) (by omega), g3]
      rw [hval] at hp
      have hp2 : prt (Z k (gvS Z H C0 s0 k)) (min (H k) (min (gvS Z H C0 s0 k) (C0 - (s0 - gvS Z H C0 s0 k)))) = qv Z H C0 s0 k (gvS Z H C0 s0 k) := rfl
      rw [hp2] at hp
      generalize hq : qv Z H C0 s0 k (gvS Z H C0 s0 k) = q at *
      have hsk : gvS Z H C0 s0 (k + 1) = gvS Z H C0 s0 k - q := by simp only [gvS]; rw [hq]
      refine wp_iload_n rfl rfl ?_
      refine wp_aload_n rfl rfl ?_
      refine q_getr rfl rfl (by first | rfl | assumption) rfl rfl ?_
      refine q_geti rfl rfl (by first | rfl | assumption) rfl ?_
      refine wp_icmp_ge 42 rfl rfl (fun h10 => absurd h10 hlt) (fun _ => ?_)
      refine wp_aload_n rfl rfl ?_
      refine wp_aload_n rfl rfl ?_
      refine q_getr rfl rfl (by first | rfl | assumption) rfl rfl ?_
      refine q_getr rfl rfl (by first | rfl | assumption) rfl rfl ?_
      refine wp_iload_n rfl rfl ?_
      refine q_area rfl rfl hk16 ?_
      refine wp_iload_n rfl rfl ?_
      refine cVr rfl l_10_288 i_X10_portionOf m_X10_portionOf (by first | rfl | assumption) (by decide) (hp) rfl (Nat.le_of_ble_eq_true rfl) (fun r18 w18 hq18 => ?_)
      obtain ⟨rfl, J2, L3, rfl, k1, k2, k3⟩ := hq18
      have e5 : J2 (18 + k) 5 = I (18 + k) 5 := by rw [k1 _ (by omega) (by omega)]; exact ga2
      have e9 : J2 0 9 = nI (gvS Z H C0 s0 k) := by rw [k1 0 (by omega) (by omega)]; exact g3
      refine wp_istore_n (lv' := [(3, _), (0, _), (1, _), (2, _)]) rfl rfl (by decide) rfl ?_
      refine wp_aload_n rfl rfl ?_
      refine q_getr rfl rfl (by first | rfl | assumption) rfl rfl ?_
      refine q_getr rfl rfl (by first | rfl | assumption) rfl rfl ?_
      refine wp_iload_n rfl rfl ?_
      refine q_area rfl rfl hk16 ?_
      refine wp_dup rfl rfl ?_
      refine q_geti rfl rfl (by first | rfl | assumption) rfl ?_
      refine wp_iload_n rfl rfl ?_
      refine wp_iadd rfl ?_
      rw [e5]
      refine q_puti rfl rfl (by first | rfl | assumption) (Or.inl rfl) rfl ?_
      refine wp_aload_n rfl rfl ?_
      refine wp_dup rfl rfl ?_
      refine q_geti rfl rfl (by first | rfl | assumption) rfl ?_
      refine wp_iload_n rfl rfl ?_
      refine wp_isub rfl ?_
      rw [uI_ne (by omega), e9, pk_sub q2]
      refine q_puti rfl rfl (by first | rfl | assumption) (Or.inl rfl) rfl ?_
      refine wp_iload_n rfl rfl ?_
      refine wp_iload_n rfl rfl ?_
      refine wp_isub rfl ?_
      rw [pk_sub q3]
      refine wp_istore_n (lv' := [(1, _), (3, _), (0, _), (2, _)]) rfl rfl (by decide) rfl ?_
      refine wp_iinc (v := nI (k + 1)) (lv' := [(2, _), (1, _), (3, _), (0, _)]) rfl rfl (nI_1 k) (by decide) rfl ?_
      refine wp_goto 6 rfl rfl ?_
      refine wp_loc (lv' := [(0, _), (1, _), (2, _)]) [3, 1, 0] rfl ?_
      have hg := ih (k + 1) (uI (uI J2 (18 + k) 5 (I (18 + k) 5 + nI q)) 0 9 (nI (gvS Z H C0 s0 k - q))) L3 (by omega) ⟨fun a a1 a2 a3 a4 => by rw [uI_fn a1, uI_fn (by omega), k1 a a2 a3]; exact g1 a a1 a2 a3 a4, fun a ha => by rw [uI_nk ha, uI_ne (by omega), k1 0 (by omega) (by omega)]; exact g2 a ha, by rw [uI_eq, hZ, hH, hsk], fun a ha => ⟨fun u hu => ?_, ?_⟩, fun u hu => by rw [uI_ne (by omega), uI_ne (by omega), k2 u hu]; exact g5 u hu, fun u hu => by rw [k3 u hu]; exact g6 u hu⟩
      · rw [hsk, show C0 - (s0 - (gvS Z H C0 s0 k - q)) = C0 - (s0 - gvS Z H C0 s0 k) - q by omega] at hg
        exact hg
      · rw [uI_ne (by omega)]
        by_cases e : a = k
        · subst e; rw [uI_nk hu, k1 _ (by omega) (by omega)]; exact ga1 u hu
        · rw [uI_ne (by omega), k1 _ (by omega) (by omega)]; exact (g4 a ha).1 u hu
      · rw [uI_ne (by omega), hZ, hH]
        by_cases e : a = k
        · subst e; rw [uI_eq, if_pos (by omega), hq]
        · rw [uI_ne (by omega), k1 _ (by omega) (by omega), (g4 a ha).2]
          by_cases e2 : a < k
          · rw [if_pos e2, if_pos (by omega)]
          · rw [if_neg e2, if_neg (by omega)]
  refine MT.intro m_X10_giveBoxes rfl (Nat.le_of_ble_eq_true rfl) ?_
  show WQ G (d + 5) Y_X10_giveBoxes _ 0 [(0, .ref 0)] [] (I, L, RR b)
  refine wp_aload_n rfl rfl ?_
  refine q_getr rfl rfl (by first | rfl | assumption) rfl rfl ?_
  refine q_geti rfl rfl (by first | rfl | assumption) rfl ?_
  refine wp_istore_n (lv' := [(1, _), (0, _)]) rfl rfl (by decide) rfl ?_
  refine wp_iconst (v := 0) rfl rfl ?_
  refine wp_istore_n (lv' := [(2, _), (1, _), (0, _)]) rfl rfl (by decide) rfl ?_
  refine wp_loc (lv' := [(0, _), (1, _), (2, _)]) [2, 1, 0] rfl ?_
  have hg := loop nr 0 I L (by omega) ⟨fun _ _ _ _ _ => rfl, fun _ _ => rfl, h9, fun a ha => ⟨fun _ _ => rfl, by rw [if_neg (by omega)]⟩, fun _ _ => rfl, fun _ _ => rfl⟩
  rw [show C0 - (s0 - gvS Z H C0 s0 0) = C0 by show C0 - (s0 - s0) = C0; omega] at hg
  rw [hC]
  exact hg
/-- the masts of this week are new now, up to k -/
def MB (k : Nat) (I J : IF) : Prop := (∀ a, (a < 4 ∨ 13 < a) → J a = I a) ∧ ∀ m, m < 10 → (∀ q, q ≠ 9 → J (4 + m) q = I (4 + m) q) ∧ J (4 + m) 9 = if m < k ∧ I (4 + m) 7 = I 1 5 then 1 else I (4 + m) 9
theorem c_X10_go_no (G : Gl) (d : Nat) (I : IF) (L : LF) (b : Bool) (h : 52 ≤ I 1 5 ∨ I 0 10 = -1 ∨ I 0 11 = 0) : MD G d Y_X10_go [.ref 0] (I, L, RR b) (some (.int (-9))) (I, L, RR b) := by
  refine MT.intro m_X10_go rfl (Nat.le_of_ble_eq_true rfl) ?_
  show WQ G d Y_X10_go _ 0 [(0, .ref 0)] [] (I, L, RR b)
  refine wp_aload_n rfl rfl ?_
  refine q_getr rfl rfl (by first | rfl | assumption) rfl rfl ?_
  refine q_geti rfl rfl (by first | rfl | assumption) rfl ?_
  refine wp_bipush (v := 52) rfl rfl ?_
  refine wp_icmp_ge 12 rfl rfl (fun h4 => ?_) (fun h4 => ?_)
  · refine wp_bipush (v := (-9)) rfl rfl ?_
    exact wp_iret rfl rfl (⟨rfl, rfl⟩)
  · refine wp_aload_n rfl rfl ?_
    refine q_geti rfl rfl (by first | rfl | assumption) rfl ?_
    refine wp_iconst (v := (-1)) rfl rfl ?_
    refine wp_icmp_eq 12 rfl rfl (fun h8 => ?_) (fun h8 => ?_)
    · refine wp_bipush (v := (-9)) rfl rfl ?_
      exact wp_iret rfl rfl (⟨rfl, rfl⟩)
    · refine wp_aload_n rfl rfl ?_
      refine q_geti rfl rfl (by first | rfl | assumption) rfl ?_
      refine wp_if_ne 14 rfl rfl (fun h11 => ?_) (fun h11 => ?_)
      · exact absurd h (fun z => z.elim h4 (fun y => y.elim h8 h11))
      · refine wp_bipush (v := (-9)) rfl rfl ?_
        exact wp_iret rfl rfl (⟨rfl, rfl⟩)
theorem c_X10_go (G : Gl) (d : Nat) {b : Bool} {I : IF} {L : LF} {es : List RE} {nm nr C0 s0 : Nat} (hw : ¬ 52 ≤ I 1 5) (hpl : ¬ I 0 10 = -1) (htu : ¬ I 0 11 = 0) (hL : LWO I (lawA b) es) (hl : es.length ≤ 10) (hok : ∀ e, e ∈ es → REok e) (hnm : nm ≤ 10) (h2 : I 1 2 = nI nm) (hnr : nr ≤ 16) (h4 : I 1 4 = nI nr) (h9 : I 0 9 = nI s0) (hs0 : s0 ≤ 10000000) (hC : I (lawA b) 9 = nI C0) (hC0 : C0 ≤ 10000000) (hh : ∀ a, a < 16 → 0 ≤ I (18 + a) 5 ∧ I (18 + a) 5 ≤ I (18 + a) 2 ∧ I (18 + a) 2 ≤ 100000) : MQ2 G (d + 6) Y_X10_go [.ref 0] (I, L, RR b) (fun r w => r = some (.int (I 1 5 + 1)) ∧ ∃ J1 J2 L2, w = (uI J2 1 5 (I 1 5 + 1), L2, RR b) ∧ GB b es C0 s0 nr I L J1 L2 ∧ MB nm J1 J2) := by
  have lo := law_or b
  have hgb := c_giveBoxes G d (L := L) hL hl hok hnr h4 h9 hs0 hC hC0 hh
  have loop : ∀ (J1 : IF) (L2 : LF), GB b es C0 s0 nr I L J1 L2 → ∀ (p k : Nat) (J : IF), k + p = nm → MB k J1 J → WQ G (d + 6) Y_X10_go (fun r w => r = some (.int (I 1 5 + 1)) ∧ ∃ J1 J2 L2, w = (uI J2 1 5 (I 1 5 + 1), L2, RR b) ∧ GB b es C0 s0 nr I L J1 L2 ∧ MB nm J1 J2) 18 [(0, .ref 0), (1, .int (nI k))] [] (J, L2, RR b) := by
    intro J1 L2 hG p
    have j1 : J1 1 = I 1 := hG.1 1 (by omega) (by omega) (by omega) (by omega)
    induction p with
    | zero =>
      intro k J hk hM
      have hkn : k = nm := by omega
      subst hkn
      have jj : J 1 = I 1 := by rw [hM.1 1 (by omega)]; exact j1
      have hge : J 1 2 ≤ nI k := by rw [jj, h2]; exact nI_le (by omega) (by omega)
      refine wp_iload_n rfl rfl ?_
      refine wp_aload_n rfl rfl ?_
      refine q_getr rfl rfl (by first | rfl | assumption) rfl rfl ?_
      refine q_geti rfl rfl (by first | rfl | assumption) rfl ?_
      refine wp_icmp_ge 42 rfl rfl (fun _ => ?_) (fun h22 => absurd hge h22)
      refine wp_aload_n rfl rfl ?_
      refine q_getr rfl rfl (by first | rfl | assumption) rfl rfl ?_
      refine wp_dup rfl rfl ?_
      refine q_geti rfl rfl (by first | rfl | assumption) rfl ?_
      refine wp_iconst (v := 1) rfl rfl ?_
      refine wp_iadd rfl ?_
      rw [jj]
      refine q_puti rfl rfl (by first | rfl | assumption) (Or.inl rfl) rfl ?_
      refine wp_aload_n rfl rfl ?_
      refine q_getr rfl rfl (by first | rfl | assumption) rfl rfl ?_
      refine q_geti rfl rfl (by first | rfl | assumption) rfl ?_
      exact wp_iret rfl rfl (⟨by rw [uI_eq], J1, J, L2, rfl, hG, hM⟩)
    | succ p ih =>
      intro k J hk hM
      have jj : J 1 = I 1 := by rw [hM.1 1 (by omega)]; exact j1
      have hlt : ¬ J 1 2 ≤ nI k := by rw [jj, h2]; exact nI_ge (by omega) (by omega)
      have sm := sh_mast k (by omega)
      have hk10 : k < 10 := by omega
      have e7 : J (4 + k) 7 = J1 (4 + k) 7 := (hM.2 k hk10).1 7 (by decide)
      have e15 : J 1 5 = J1 1 5 := by rw [jj, j1]
      have nx : ∀ J3 : IF, (∀ a, (a < 4 ∨ 13 < a) → J3 a = J a) → (∀ m, m < 10 → ∀ q, q ≠ 9 → J3 (4 + m) q = J (4 + m) q) → (∀ m, m < 10 → J3 (4 + m) 9 = if m = k ∧ J1 (4 + k) 7 = J1 1 5 then 1 else J (4 + m) 9) → MB (k + 1) J1 J3 := by
        intro J3 z1 z2 z3
        refine ⟨fun a ha => by rw [z1 a ha]; exact hM.1 a ha, fun m hm => ⟨fun q hq => by rw [z2 m hm q hq]; exact (hM.2 m hm).1 q hq, ?_⟩⟩
        rw [z3 m hm, (hM.2 m hm).2]
        by_cases e : m = k
        · subst e
          by_cases e2 : J1 (4 + m) 7 = J1 1 5
          · rw [if_pos ⟨rfl, e2⟩, if_pos ⟨by omega, e2⟩]
          · rw [if_neg (fun z => e2 z.2), if_neg (fun z => e2 z.2), if_neg (fun z => e2 z.2)]
        · rw [if_neg (fun z => e z.1)]
          by_cases e2 : m < k ∧ J1 (4 + m) 7 = J1 1 5
          · rw [if_pos e2, if_pos ⟨by omega, e2.2⟩]
          · rw [if_neg e2, if_neg (fun z => e2 ⟨by omega, z.2⟩)]
      have K40 : ∀ J3 : IF, MB (k + 1) J1 J3 → WQ G (d + 6) Y_X10_go (fun r w => r = some (.int (I 1 5 + 1)) ∧ ∃ J1 J2 L2, w = (uI J2 1 5 (I 1 5 + 1), L2, RR b) ∧ GB b es C0 s0 nr I L J1 L2 ∧ MB nm J1 J2) 40 [(0, .ref 0), (1, .int (nI k))] [] (J3, L2, RR b) := by
        intro J3 hM3
        refine wp_iinc (v := nI (k + 1)) (lv' := [(1, _), (0, _)]) rfl rfl (nI_1 k) (by decide) rfl ?_
        refine wp_goto 18 rfl rfl ?_
        refine wp_loc (lv' := [(0, _), (1, _)]) [1, 0] rfl ?_
        exact ih (k + 1) J3 (by omega) hM3
      by_cases he : J1 (4 + k) 7 = J1 1 5
      · have hne : ¬ ¬ J (4 + k) 7 = J 1 5 := fun z => z (by rw [e7, e15]; exact he)
        refine wp_iload_n rfl rfl ?_
        refine wp_aload_n rfl rfl ?_
        refine q_getr rfl rfl (by first | rfl | assumption) rfl rfl ?_
        refine q_geti rfl rfl (by first | rfl | assumption) rfl ?_
        refine wp_icmp_ge 42 rfl rfl (fun h22 => absurd h22 hlt) (fun _ => ?_)
        refine wp_aload_n rfl rfl ?_
        refine q_getr rfl rfl (by first | rfl | assumption) rfl rfl ?_
        refine q_getr rfl rfl (by first | rfl | assumption) rfl rfl ?_
        refine wp_iload_n rfl rfl ?_
        refine q_mast rfl rfl (by omega) ?_
        refine q_geti rfl rfl (by first | rfl | assumption) rfl ?_
        refine wp_aload_n rfl rfl ?_
        refine q_getr rfl rfl (by first | rfl | assumption) rfl rfl ?_
        refine q_geti rfl rfl (by first | rfl | assumption) rfl ?_
        refine wp_icmp_ne 40 rfl rfl (fun h32 => absurd h32 hne) (fun _ => ?_)
        refine wp_aload_n rfl rfl ?_
        refine q_getr rfl rfl (by first | rfl | assumption) rfl rfl ?_
        refine q_getr rfl rfl (by first | rfl | assumption) rfl rfl ?_
        refine wp_iload_n rfl rfl ?_
        refine q_mast rfl rfl (by omega) ?_
        refine wp_iconst (v := 1) rfl rfl ?_
        refine q_putz rfl rfl (by first | rfl | assumption) (Or.inl rfl) rfl (Or.inr rfl) ?_
        refine K40 _ (nx _ (fun a ha => uI_fn (by omega)) (fun m hm q hq => ?_) (fun m hm => ?_))
        · by_cases e : m = k
          · subst e; exact uI_nk hq
          · exact uI_ne (by omega)
        · by_cases e : m = k
          · subst e; rw [if_pos ⟨rfl, he⟩]; exact uI_eq
          · rw [if_neg (fun z => e z.1)]; exact uI_ne (by omega)
      · have hne : ¬ J (4 + k) 7 = J 1 5 := by rw [e7, e15]; exact he
        refine wp_iload_n rfl rfl ?_
        refine wp_aload_n rfl rfl ?_
        refine q_getr rfl rfl (by first | rfl | assumption) rfl rfl ?_
        refine q_geti rfl rfl (by first | rfl | assumption) rfl ?_
        refine wp_icmp_ge 42 rfl rfl (fun h22 => absurd h22 hlt) (fun _ => ?_)
        refine wp_aload_n rfl rfl ?_
        refine q_getr rfl rfl (by first | rfl | assumption) rfl rfl ?_
        refine q_getr rfl rfl (by first | rfl | assumption) rfl rfl ?_
        refine wp_iload_n rfl rfl ?_
        refine q_mast rfl rfl (by omega) ?_
        refine q_geti rfl rfl (by first | rfl | assumption) rfl ?_
        refine wp_aload_n rfl rfl ?_
        refine q_getr rfl rfl (by first | rfl | assumption) rfl rfl ?_
        refine q_geti rfl rfl (by first | rfl | assumption) rfl ?_
        refine wp_icmp_ne 40 rfl rfl (fun _ => ?_) (fun h32 => absurd h32 hne)
        exact K40 J (nx J (fun _ _ => rfl) (fun _ _ _ _ => rfl) (fun m hm => by rw [if_neg (fun z => he z.2)]))
  refine MT.intro m_X10_go rfl (Nat.le_of_ble_eq_true rfl) ?_
  show WQ G (d + 6) Y_X10_go _ 0 [(0, .ref 0)] [] (I, L, RR b)
  refine wp_aload_n rfl rfl ?_
  refine q_getr rfl rfl (by first | rfl | assumption) rfl rfl ?_
  refine q_geti rfl rfl (by first | rfl | assumption) rfl ?_
  refine wp_bipush (v := 52) rfl rfl ?_
  refine wp_icmp_ge 12 rfl rfl (fun h4 => absurd h4 hw) (fun _ => ?_)
  refine wp_aload_n rfl rfl ?_
  refine q_geti rfl rfl (by first | rfl | assumption) rfl ?_
  refine wp_iconst (v := (-1)) rfl rfl ?_
  refine wp_icmp_eq 12 rfl rfl (fun h8 => absurd h8 hpl) (fun _ => ?_)
  refine wp_aload_n rfl rfl ?_
  refine q_geti rfl rfl (by first | rfl | assumption) rfl ?_
  refine wp_if_ne 14 rfl rfl (fun _ => ?_) (fun h11 => absurd h11 htu)
  refine wp_aload_n rfl rfl ?_
  refine cVr rfl l_10_222 i_X10_giveBoxes m_X10_giveBoxes (by first | rfl | assumption) (by decide) (hgb) rfl (Nat.le_of_ble_eq_true rfl) (fun r15 w15 hq15 => ?_)
  obtain ⟨rfl, J1, L2, rfl, hG⟩ := hq15
  refine wp_iconst (v := 0) rfl rfl ?_
  refine wp_istore_n (lv' := [(1, _), (0, _)]) rfl rfl (by decide) rfl ?_
  refine wp_loc (lv' := [(0, _), (1, _)]) [1, 0] rfl ?_
  exact loop J1 L2 hG nm 0 J1 (by omega) ⟨fun _ _ => rfl, fun m hm => ⟨fun _ _ => rfl, by rw [if_neg (fun z => by omega)]⟩⟩
