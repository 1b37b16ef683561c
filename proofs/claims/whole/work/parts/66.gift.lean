/-! what the law in force gives -/
theorem rr_law (b : Bool) : RR b (lawA b) 0 = some (lawA b + 1) ∧ RR b (lawA b) 1 = some (lawA b + 2) ∧ RR b (lawA b) 2 = some (lawA b + 3) ∧ RR b (lawA b) 3 = some (lawA b + 4) ∧ RR b (lawA b) 4 = some (lawA b + 5) := by cases b <;> exact ⟨rfl, rfl, rfl, rfl, rfl⟩
theorem sh_lawA (b : Bool) : shp NN (lawA b + 1) = some (.inl (0, 300)) ∧ shp NN (lawA b + 2) = some (.inl (0, 10)) ∧ shp NN (lawA b + 3) = some (.inl (0, 10)) ∧ shp NN (lawA b + 4) = some (.inl (0, 10)) ∧ shp NN (lawA b + 5) = some (.inl (3, 20)) := by cases b <;> exact ⟨rfl, rfl, rfl, rfl, rfl⟩
def LFr (e : Nat) (I : IF) (L : LF) (J : IF) (L2 : LF) : Prop := (∀ a, a ≠ e → J a = I a) ∧ (∀ k, k ≠ 7 → J e k = I e k) ∧ ∀ a, a ≠ e + 5 → L2 a = L a
theorem LFr.refl {e : Nat} {I : IF} {L : LF} : LFr e I L I L := ⟨fun _ _ => rfl, fun _ _ => rfl, fun _ _ => rfl⟩
theorem LFr.tr {e : Nat} {I J J2 : IF} {L L2 L3 : LF} (h : LFr e I L J L2) (h2 : LFr e J L2 J2 L3) : LFr e I L J2 L3 := ⟨fun a ha => by rw [h2.1 a ha]; exact h.1 a ha, fun k hk => by rw [h2.2.1 k hk]; exact h.2.1 k hk, fun a ha => by rw [h2.2.2 a ha]; exact h.2.2 a ha⟩
theorem LFr.i {e : Nat} {I J : IF} {L L2 : LF} {v : Int32} (h : LFr e I L J L2) : LFr e I L (uI J e 7 v) L2 := ⟨fun a ha => by rw [uI_fn ha]; exact h.1 a ha, fun k hk => by rw [uI_nk hk]; exact h.2.1 k hk, h.2.2⟩
theorem LFr.l {e k : Nat} {I J : IF} {L L2 : LF} {v : Int64} (h : LFr e I L J L2) : LFr e I L J (uL L2 (e + 5) k v) := ⟨h.1, h.2.1, fun a ha => by rw [uL_fn ha]; exact h.2.2 a ha⟩
theorem c_X2_push (G : Gl) (d : Nat) {q : Nat} (v : Int64) (I : IF) (L : LF) (b : Bool) (h : I (lawA b) 7 = nI q) (hq : q < 20) : MD G d Y_X2_push [.ref (lawA b), .long v] (I, L, RR b) none (uI I (lawA b) 7 (nI (q + 1)), uL L (lawA b + 5) q v, RR b) := by
  have sl := sh_law b
  have slA := (sh_lawA b).2.2.2.2
  have hr := (rr_law b).2.2.2.2
  have hlt : ¬ (20 : Int32) ≤ I (lawA b) 7 := by rw [h]; exact nI_ge (b := 20) (by omega) (by omega)
  have hin : vp_in (I (lawA b) 7) 20 := by rw [h]; exact vp_in_nI (by omega) (by omega)
  refine MT.intro m_X2_push rfl (Nat.le_of_ble_eq_true rfl) ?_
  show WQ G d Y_X2_push _ 0 [(0, .ref (lawA b)), (1, .long v)] [] (I, L, RR b)
  refine wp_aload_n rfl rfl ?_
  refine q_geti rfl rfl (by first | rfl | assumption) rfl ?_
  refine wp_aload_n rfl rfl ?_
  refine q_getr rfl rfl (by first | rfl | assumption) rfl hr ?_
  refine wp_alen rfl slA (by decide) rfl ?_
  refine wp_icmp_ge 18 rfl rfl (fun h5 => absurd h5 hlt) (fun _ => ?_)
  refine wp_aload_n rfl rfl ?_
  refine q_getr rfl rfl (by first | rfl | assumption) rfl hr ?_
  refine wp_aload_n rfl rfl ?_
  refine q_geti rfl rfl (by first | rfl | assumption) rfl ?_
  refine wp_lload_n rfl rfl ?_
  refine q_last rfl (by first | rfl | assumption) (by assumption) ?_
  refine wp_aload_n rfl rfl ?_
  refine wp_dup rfl rfl ?_
  refine q_geti rfl rfl (by first | rfl | assumption) rfl ?_
  refine wp_iconst (v := 1) rfl rfl ?_
  refine wp_iadd rfl ?_
  refine q_puti rfl rfl (by first | rfl | assumption) (Or.inl rfl) rfl ?_
  exact wp_vret rfl rfl (⟨rfl, by rw [h, nI_clamp (by omega), nI_1]⟩)
theorem c_X2_pop (G : Gl) (d : Nat) {q : Nat} (I : IF) (L : LF) (b : Bool) (h : I (lawA b) 7 = nI (q + 1)) (hq : q < 20) : MD G d Y_X2_pop [.ref (lawA b)] (I, L, RR b) (some (.long (L (lawA b + 5) q))) (uI I (lawA b) 7 (nI q), L, RR b) := by
  have sl := sh_law b
  have slA := (sh_lawA b).2.2.2.2
  have hr := (rr_law b).2.2.2.2
  have hne : ¬ I (lawA b) 7 = 0 := by rw [h]; exact nI_ne0 (by omega) (by omega)
  have em : I (lawA b) 7 - 1 = nI q := by rw [h, nI_pred]
  have hin : vp_in (uI I (lawA b) 7 (nI q) (lawA b) 7) 20 := by rw [uI_eq]; exact vp_in_nI (by omega) (by omega)
  refine MT.intro m_X2_pop rfl (Nat.le_of_ble_eq_true rfl) ?_
  show WQ G d Y_X2_pop _ 0 [(0, .ref (lawA b))] [] (I, L, RR b)
  refine wp_aload_n rfl rfl ?_
  refine q_geti rfl rfl (by first | rfl | assumption) rfl ?_
  refine wp_if_ne 5 rfl rfl (fun _ => ?_) (fun h2 => absurd h2 hne)
  refine wp_aload_n rfl rfl ?_
  refine wp_dup rfl rfl ?_
  refine q_geti rfl rfl (by first | rfl | assumption) rfl ?_
  refine wp_iconst (v := 1) rfl rfl ?_
  refine wp_isub rfl ?_
  rw [em]
  refine q_puti rfl rfl (by first | rfl | assumption) (Or.inl rfl) rfl ?_
  refine wp_aload_n rfl rfl ?_
  refine q_getr rfl rfl (by first | rfl | assumption) rfl hr ?_
  refine wp_aload_n rfl rfl ?_
  refine q_geti rfl rfl (by first | rfl | assumption) rfl ?_
  refine q_lald rfl (by first | rfl | assumption) hin ?_
  exact wp_lret rfl rfl (⟨by rw [uI_eq, nI_clamp (by omega)], rfl⟩)
theorem c_X2_compares (G : Gl) (d : Nat) {s : Int32} (l r : Int64) (w : mW) (hs : s = -60 ∨ s = -62 ∨ s = -61) : MD G d Y_X2_compares [.int s, .long l, .long r] w (some (.int (bI (cmpB s l r)))) w := by
  have m0 : cmpB (-60) l r = decide (l < r) := rfl
  have m1 : cmpB (-62) l r = decide (r < l) := rfl
  have m2 : cmpB (-61) l r = decide (l = r) := rfl
  rcases hs with e | e | e
  · subst e
    refine MT.intro m_X2_compares rfl (Nat.le_of_ble_eq_true rfl) ?_
    show WQ G d Y_X2_compares _ 0 [(0, .int (-60)), (1, .long l), (3, .long r)] [] w
    refine wp_iload_n rfl rfl ?_
    refine wp_bipush (v := (-60)) rfl rfl ?_
    refine wp_icmp_ne 11 rfl rfl (fun h2 => absurd rfl h2) (fun _ => ?_)
    refine wp_lload_n rfl rfl ?_
    refine wp_lload_n rfl rfl ?_
    refine wp_lcmp rfl ?_
    refine wp_if_ge 9 rfl rfl (fun h6 => ?_) (fun h6 => ?_)
    · refine wp_iconst (v := 0) rfl rfl ?_
      exact wp_zret rfl rfl (by first | rfl | exact nb2 _ | assumption) (⟨by rw [m0]; first | (rw [decide_eq_false (by have := lgc_ge.mp h6; grind)]; rfl) | (rw [decide_eq_true (by have := mt lgc_ge.mpr h6; grind)]; rfl), rfl⟩)
    · refine wp_iconst (v := 1) rfl rfl ?_
      refine wp_goto 10 rfl rfl ?_
      exact wp_zret rfl rfl (by first | rfl | exact nb2 _ | assumption) (⟨by rw [m0]; first | (rw [decide_eq_false (by have := lgc_ge.mp h6; grind)]; rfl) | (rw [decide_eq_true (by have := mt lgc_ge.mpr h6; grind)]; rfl), rfl⟩)
  · subst e
    refine MT.intro m_X2_compares rfl (Nat.le_of_ble_eq_true rfl) ?_
    show WQ G d Y_X2_compares _ 0 [(0, .int (-62)), (1, .long l), (3, .long r)] [] w
    refine wp_iload_n rfl rfl ?_
    refine wp_bipush (v := (-60)) rfl rfl ?_
    refine wp_icmp_ne 11 rfl rfl (fun _ => ?_) (fun h2 => absurd h2 (by decide))
    refine wp_iload_n rfl rfl ?_
    refine wp_bipush (v := (-62)) rfl rfl ?_
    refine wp_icmp_ne 22 rfl rfl (fun h13 => absurd rfl h13) (fun _ => ?_)
    refine wp_lload_n rfl rfl ?_
    refine wp_lload_n rfl rfl ?_
    refine wp_lcmp rfl ?_
    refine wp_if_le 20 rfl rfl (fun h17 => ?_) (fun h17 => ?_)
    · refine wp_iconst (v := 0) rfl rfl ?_
      refine wp_goto 29 rfl rfl ?_
      exact wp_zret rfl rfl (by first | rfl | exact nb2 _ | assumption) (⟨by rw [m1]; first | (rw [decide_eq_false (by have := lgc_le.mp h17; grind)]; rfl) | (rw [decide_eq_true (by have := mt lgc_le.mpr h17; grind)]; rfl), rfl⟩)
    · refine wp_iconst (v := 1) rfl rfl ?_
      refine wp_goto 29 rfl rfl ?_
      exact wp_zret rfl rfl (by first | rfl | exact nb2 _ | assumption) (⟨by rw [m1]; first | (rw [decide_eq_false (by have := lgc_le.mp h17; grind)]; rfl) | (rw [decide_eq_true (by have := mt lgc_le.mpr h17; grind)]; rfl), rfl⟩)
  · subst e
    refine MT.intro m_X2_compares rfl (Nat.le_of_ble_eq_true rfl) ?_
    show WQ G d Y_X2_compares _ 0 [(0, .int (-61)), (1, .long l), (3, .long r)] [] w
    refine wp_iload_n rfl rfl ?_
    refine wp_bipush (v := (-60)) rfl rfl ?_
    refine wp_icmp_ne 11 rfl rfl (fun _ => ?_) (fun h2 => absurd h2 (by decide))
    refine wp_iload_n rfl rfl ?_
    refine wp_bipush (v := (-62)) rfl rfl ?_
    refine wp_icmp_ne 22 rfl rfl (fun _ => ?_) (fun h13 => absurd h13 (by decide))
    refine wp_lload_n rfl rfl ?_
    refine wp_lload_n rfl rfl ?_
    refine wp_lcmp rfl ?_
    refine wp_if_ne 28 rfl rfl (fun h25 => ?_) (fun h25 => ?_)
    · refine wp_iconst (v := 0) rfl rfl ?_
      exact wp_zret rfl rfl (by first | rfl | exact nb2 _ | assumption) (⟨by rw [m2]; first | (rw [decide_eq_false (fun q => h25 (lgc_eq.mpr q))]; rfl) | (rw [decide_eq_true (lgc_eq.mp h25)]; rfl), rfl⟩)
    · refine wp_iconst (v := 1) rfl rfl ?_
      refine wp_goto 29 rfl rfl ?_
      exact wp_zret rfl rfl (by first | rfl | exact nb2 _ | assumption) (⟨by rw [m2]; first | (rw [decide_eq_false (fun q => h25 (lgc_eq.mpr q))]; rfl) | (rw [decide_eq_true (lgc_eq.mp h25)]; rfl), rfl⟩)
theorem c_X2_quotient (G : Gl) (d : Nat) (l r : Int64) (w : mW) : MD G d Y_X2_quotient [.long l, .long r] w (some (.long (if r = 0 then 0 else if r = -1 then -l else l / r))) w := by
  by_cases h0 : r = 0
  · rw [if_pos h0]
    have e0 : ¬ ¬ lg_cmp r 0 = 0 := fun z => z (lgc_eq.mpr h0)
    refine MT.intro m_X2_quotient rfl (Nat.le_of_ble_eq_true rfl) ?_
    show WQ G d Y_X2_quotient _ 0 [(0, .long l), (2, .long r)] [] w
    refine wp_lload_n rfl rfl ?_
    refine wp_lconst (v := 0) rfl rfl ?_
    refine wp_lcmp rfl ?_
    refine wp_if_ne 6 rfl rfl (fun h3 => absurd h3 e0) (fun _ => ?_)
    refine wp_lconst (v := 0) rfl rfl ?_
    exact wp_lret rfl rfl (⟨rfl, rfl⟩)
  · rw [if_neg h0]
    have e0 : ¬ lg_cmp r 0 = 0 := fun z => h0 (lgc_eq.mp z)
    by_cases h1 : r = -1
    · rw [if_pos h1]
      have e1 : ¬ ¬ lg_cmp r (-1) = 0 := fun z => z (lgc_eq.mpr h1)
      refine MT.intro m_X2_quotient rfl (Nat.le_of_ble_eq_true rfl) ?_
      show WQ G d Y_X2_quotient _ 0 [(0, .long l), (2, .long r)] [] w
      refine wp_lload_n rfl rfl ?_
      refine wp_lconst (v := 0) rfl rfl ?_
      refine wp_lcmp rfl ?_
      refine wp_if_ne 6 rfl rfl (fun _ => ?_) (fun h3 => absurd h3 e0)
      refine wp_lload_n rfl rfl ?_
      refine wp_ldc2 (v := (-1)) rfl cl_2_73 ?_
      refine wp_lcmp rfl ?_
      refine wp_if_ne 13 rfl rfl (fun h9 => absurd h9 e1) (fun _ => ?_)
      refine wp_lload_n rfl rfl ?_
      refine wp_lneg rfl ?_
      refine wp_goto 16 rfl rfl ?_
      exact wp_lret rfl rfl (⟨rfl, rfl⟩)
    · rw [if_neg h1]
      have e1 : ¬ lg_cmp r (-1) = 0 := fun z => h1 (lgc_eq.mp z)
      refine MT.intro m_X2_quotient rfl (Nat.le_of_ble_eq_true rfl) ?_
      show WQ G d Y_X2_quotient _ 0 [(0, .long l), (2, .long r)] [] w
      refine wp_lload_n rfl rfl ?_
      refine wp_lconst (v := 0) rfl rfl ?_
      refine wp_lcmp rfl ?_
      refine wp_if_ne 6 rfl rfl (fun _ => ?_) (fun h3 => absurd h3 e0)
      refine wp_lload_n rfl rfl ?_
      refine wp_ldc2 (v := (-1)) rfl cl_2_73 ?_
      refine wp_lcmp rfl ?_
      refine wp_if_ne 13 rfl rfl (fun _ => ?_) (fun h9 => absurd h9 e1)
      refine wp_lload_n rfl rfl ?_
      refine wp_lload_n rfl rfl ?_
      refine wp_ldiv rfl h0 ?_
      exact wp_lret rfl rfl (⟨rfl, rfl⟩)
theorem c_X2_combined (G : Gl) (d : Nat) (s : Int32) (l r : Int64) (w : mW) : MD G (d + 1) Y_X2_combined [.int s, .long l, .long r] w (some (.long (cmb s l r))) w := by
  have q4 : (if r = 0 then 0 else if r = -1 then -l else l / r) = cmb (-44) l r := rfl
  refine MT.intro m_X2_combined rfl (Nat.le_of_ble_eq_true rfl) ?_
  show WQ G (d + 1) Y_X2_combined _ 0 [(0, .int s), (1, .long l), (3, .long r)] [] w
  refine wp_iload_n rfl rfl ?_
  by_cases e1_0 : s = (-45)
  · subst e1_0
    refine wp_tsIn 6 rfl (by decide) (by decide) rfl rfl ?_
    refine wp_lload_n rfl rfl ?_
    refine wp_lload_n rfl rfl ?_
    refine wp_lsub rfl ?_
    exact wp_lret rfl rfl (⟨by first | rfl | (unfold cmb; rw [if_neg e1_2, if_neg e1_0, if_neg e1_3]), rfl⟩)
  by_cases e1_1 : s = (-44)
  · subst e1_1
    refine wp_tsIn 14 rfl (by decide) (by decide) rfl rfl ?_
    refine wp_lload_n rfl rfl ?_
    refine wp_lload_n rfl rfl ?_
    refine cS1 rfl l_2_69 s_X2_quotient m_X2_quotient (c_X2_quotient G _ _ _ _) rfl (Nat.le_of_ble_eq_true rfl) ?_
    exact wp_lret rfl rfl (⟨by first | rfl | (unfold cmb; rw [if_neg e1_2, if_neg e1_0, if_neg e1_3]), rfl⟩)
  by_cases e1_2 : s = (-43)
  · subst e1_2
    refine wp_tsIn 2 rfl (by decide) (by decide) rfl rfl ?_
    refine wp_lload_n rfl rfl ?_
    refine wp_lload_n rfl rfl ?_
    refine wp_ladd rfl ?_
    exact wp_lret rfl rfl (⟨by first | rfl | (unfold cmb; rw [if_neg e1_2, if_neg e1_0, if_neg e1_3]), rfl⟩)
  by_cases e1_3 : s = (-42)
  · subst e1_3
    refine wp_tsIn 10 rfl (by decide) (by decide) rfl rfl ?_
    refine wp_lload_n rfl rfl ?_
    refine wp_lload_n rfl rfl ?_
    refine wp_lmul rfl ?_
    exact wp_lret rfl rfl (⟨by first | rfl | (unfold cmb; rw [if_neg e1_2, if_neg e1_0, if_neg e1_3]), rfl⟩)
  refine wp_tsOut 14 rfl (by have a0 := lv_neT e1_0 (a := (-45)) rfl; have a1 := lv_neT e1_1 (a := (-44)) rfl; have a2 := lv_neT e1_2 (a := (-43)) rfl; have a3 := lv_neT e1_3 (a := (-42)) rfl; omega) rfl ?_
  refine wp_lload_n rfl rfl ?_
  refine wp_lload_n rfl rfl ?_
  refine cS1 rfl l_2_69 s_X2_quotient m_X2_quotient (c_X2_quotient G _ _ _ _) rfl (Nat.le_of_ble_eq_true rfl) ?_
  exact wp_lret rfl rfl (⟨by first | rfl | (unfold cmb; rw [if_neg e1_2, if_neg e1_0, if_neg e1_3]), rfl⟩)
def SK (f : Nat → Int64) : List Int64 → Prop
  | [] => True
  | v :: st => f st.length = v ∧ SK f st
theorem SK.fr {f g : Nat → Int64} : ∀ {st : List Int64}, SK f st → (∀ k, k < st.length → g k = f k) → SK g st
  | [], _, _ => trivial
  | v :: st, h, hg => ⟨by rw [hg st.length (by simp)]; exact h.1, SK.fr h.2 (fun k hk => hg k (by simp only [List.length_cons]; omega))⟩
def HQ (e : Nat) (I : IF) (L : LF) (b o : Bool) (st : List Int64) (r : Option Value) (w : mW) : Prop := r = some (.int (bI o)) ∧ ∃ J L2, w = (J, L2, RR b) ∧ LFr e I L J L2 ∧ (o = true → SK (L2 (e + 5)) st ∧ J e 7 = nI st.length)
theorem hld {G : Gl} {d : Nat} {b o : Bool} {I : IF} {L : LF} {to : Nat} {x1 : Int32} {st1 : List Int64} (hto : to ≤ 300) : ∀ (c : List Int32) (i : Nat) (st : List Int64) (J : IF) (L2 : LF), i + c.length = to → (∀ k, k < c.length → I (lawA b + 1) (i + k) = c.getD k 0) → LFr (lawA b) I L J L2 → J (lawA b) 7 = nI st.length → SK (L2 (lawA b + 5)) st → st.length ≤ 20 → run (fun k => (I 65 k).toInt64) c st = some (o, st1) → WQ G (d + 2) Y_X2_holds (HQ (lawA b) I L b o st1) 5 [(0, .ref (lawA b)), (1, .int x1), (2, .int (nI to)), (3, .ref 65), (4, .int (nI i))] [] (J, L2, RR b) := by
  have sl := sh_law b
  have slA := (sh_lawA b).1
  have hr := (rr_law b).1
  have lo := law_or b
  intro c
  induction c with
  | nil =>
    intro i st J L2 hi hc hF h7 hK hst hrun
    simp only [List.length_nil] at hi
    have hge : nI to ≤ nI i := nI_le (by omega) (by omega)
    have e1 : some (true, st) = some (o, st1) := hrun
    cases e1
    refine wp_iload rfl rfl ?_
    refine wp_iload_n rfl rfl ?_
    refine wp_icmp_ge 57 rfl rfl (fun _ => ?_) (fun h7 => absurd hge h7)
    refine wp_iconst (v := 1) rfl rfl ?_
    exact wp_zret rfl rfl (by first | rfl | exact nb2 _ | assumption) (⟨rfl, J, L2, rfl, hF, fun _ => ⟨hK, h7⟩⟩)
  | cons s c ih =>
    intro i st J L2 hi hc hF h7 hK hst hrun
    simp only [List.length_cons] at hi
    have hlt : ¬ nI to ≤ nI i := nI_ge (by omega) (by omega)
    have hin : vp_in (nI i) 300 := vp_in_nI (by omega) (by omega)
    have hcl : (nI i).toNatClampNeg = i := nI_clamp (by omega)
    have hs : J (lawA b + 1) i = s := by
      rw [hF.1 _ (by omega)]
      exact hc 0 (by simp)
    have hc2 : ∀ k, k < c.length → I (lawA b + 1) (i + 1 + k) = c.getD k 0 := fun k hk => by
      have := hc (k + 1) (by simp only [List.length_cons]; omega)
      rw [show i + 1 + k = i + (k + 1) by omega, this]
      rfl
    have nxt := fun st2 J2 L3 => ih (i + 1) st2 J2 L3 (by omega) hc2
    have K55 : ∀ (st2 : List Int64) (J2 : IF) (L3 : LF), LFr (lawA b) I L J2 L3 → J2 (lawA b) 7 = nI st2.length → SK (L3 (lawA b + 5)) st2 → st2.length ≤ 20 → run (fun k => (I 65 k).toInt64) c st2 = some (o, st1) → WQ G (d + 2) Y_X2_holds (HQ (lawA b) I L b o st1) 55 [(0, .ref (lawA b)), (1, .int x1), (2, .int (nI to)), (3, .ref 65), (4, .int (nI i))] [] (J2, L3, RR b) := by
      intro st2 J2 L3 k1 k2 k3 k4 k5
      refine wp_iinc (v := nI (i + 1)) (lv' := [(4, _), (0, _), (1, _), (2, _), (3, _)]) rfl rfl (nI_1 i) (by decide) rfl ?_
      refine wp_goto 5 rfl rfl ?_
      refine wp_loc (lv' := [(0, _), (1, _), (2, _), (3, _), (4, _)]) [1, 2, 3, 4, 0] rfl ?_
      exact nxt st2 J2 L3 k1 k2 k3 k4 k5
    have psh : ∀ (st2 : List Int64) (J2 : IF) (L3 : LF) (v : Int64), LFr (lawA b) I L J2 L3 → SK (L3 (lawA b + 5)) st2 → st2.length < 20 → run (fun k => (I 65 k).toInt64) c (v :: st2) = some (o, st1) → WQ G (d + 2) Y_X2_holds (HQ (lawA b) I L b o st1) 55 [(0, .ref (lawA b)), (1, .int x1), (2, .int (nI to)), (3, .ref 65), (4, .int (nI i))] [] (uI J2 (lawA b) 7 (nI (st2.length + 1)), uL L3 (lawA b + 5) st2.length v, RR b) := fun st2 J2 L3 v k1 k3 k4 k5 => K55 (v :: st2) _ _ k1.i.l (by rw [uI_eq]; rfl) ⟨uL_eq, k3.fr (fun k hk => uL_nk (by omega))⟩ (by simp only [List.length_cons]; omega) k5
    simp only [run] at hrun
    by_cases h0 : 0 ≤ s
    · rw [if_pos h0] at hrun
      have hn0 : ¬ s < 0 := by grind
      by_cases h20 : st.length < 20
      · rw [if_pos h20] at hrun
        refine wp_iload rfl rfl ?_
        refine wp_iload_n rfl rfl ?_
        refine wp_icmp_ge 57 rfl rfl (fun h7 => absurd h7 hlt) (fun _ => ?_)
        refine wp_aload_n rfl rfl ?_
        refine q_getr rfl rfl (by first | rfl | assumption) rfl hr ?_
        refine wp_iload rfl rfl ?_
        refine q_iald rfl (by first | rfl | assumption) hin ?_
        rw [hcl, hs]
        refine wp_istore (lv' := [(5, _), (0, _), (1, _), (2, _), (3, _), (4, _)]) rfl (by decide) rfl ?_
        refine wp_iload rfl rfl ?_
        refine wp_if_lt 20 rfl rfl (fun h14 => absurd h14 hn0) (fun _ => ?_)
        refine wp_aload_n rfl rfl ?_
        refine wp_iload rfl rfl ?_
        refine wp_i2l rfl ?_
        refine cV0 rfl l_2_53 i_X2_push m_X2_push (by first | rfl | assumption) (by decide) (c_X2_push G _ _ _ _ _ h7 h20) rfl (Nat.le_of_ble_eq_true rfl) ?_
        refine wp_goto 55 rfl rfl ?_
        refine wp_loc (lv' := [(0, _), (1, _), (2, _), (3, _), (4, _)]) [1, 2, 3, 4, 5] rfl ?_
        exact psh st J L2 _ hF hK h20 hrun
      · rw [if_neg h20] at hrun; cases hrun
    · rw [if_neg h0] at hrun
      have hn0 : s < 0 := by grind
      by_cases h6 : -6 ≤ s
      · rw [if_pos h6] at hrun
        have hn6 : ¬ s < -6 := by grind
        by_cases h20 : st.length < 20
        · rw [if_pos h20] at hrun
          have hin6 : vp_in (-1 - s) 6 := vpin (n := 6) (by grind) (by show -1 - s < 6; grind) (by omega)
          have e65 : J 65 (-1 - s).toNatClampNeg = I 65 (fcx s) := by rw [hF.1 65 (by omega)]; rfl
          refine wp_iload rfl rfl ?_
          refine wp_iload_n rfl rfl ?_
          refine wp_icmp_ge 57 rfl rfl (fun h7 => absurd h7 hlt) (fun _ => ?_)
          refine wp_aload_n rfl rfl ?_
          refine q_getr rfl rfl (by first | rfl | assumption) rfl hr ?_
          refine wp_iload rfl rfl ?_
          refine q_iald rfl (by first | rfl | assumption) hin ?_
          rw [hcl, hs]
          refine wp_istore (lv' := [(5, _), (0, _), (1, _), (2, _), (3, _), (4, _)]) rfl (by decide) rfl ?_
          refine wp_iload rfl rfl ?_
          refine wp_if_lt 20 rfl rfl (fun _ => ?_) (fun h14 => absurd hn0 h14)
          refine wp_iload rfl rfl ?_
          refine wp_bipush (v := (-6)) rfl rfl ?_
          refine wp_icmp_lt 32 rfl rfl (fun h22 => absurd h22 hn6) (fun _ => ?_)
          refine wp_aload_n rfl rfl ?_
          refine wp_aload_n rfl rfl ?_
          refine wp_iconst (v := (-1)) rfl rfl ?_
          refine wp_iload rfl rfl ?_
          refine wp_isub rfl ?_
          refine q_iald rfl (by first | rfl | assumption) hin6 ?_
          rw [e65]
          refine wp_i2l rfl ?_
          refine cV0 rfl l_2_53 i_X2_push m_X2_push (by first | rfl | assumption) (by decide) (c_X2_push G _ _ _ _ _ h7 h20) rfl (Nat.le_of_ble_eq_true rfl) ?_
          refine wp_goto 55 rfl rfl ?_
          refine wp_loc (lv' := [(0, _), (1, _), (2, _), (3, _), (4, _)]) [1, 2, 3, 4, 5] rfl ?_
          exact psh st J L2 _ hF hK h20 hrun
        · rw [if_neg h20] at hrun; cases hrun
      · rw [if_neg h6] at hrun
        have hn6 : s < -6 := by grind
        match st, hst, hK, h7, hrun with
        | [], _, _, _, hrun => cases hrun
        | [_], _, _, _, hrun => cases hrun
        | r :: l :: q, hst, hK, h7, hrun =>
          simp only at hrun
          obtain ⟨kr, kl, kq⟩ := hK
          have kr2 : L2 (lawA b + 5) (q.length + 1) = r := kr
          simp only [List.length_cons] at hst
          have p7 : J (lawA b) 7 = nI (q.length + 1 + 1) := h7
          have pop1 : ∀ d', MD G d' Y_X2_pop [.ref (lawA b)] (J, L2, RR b) (some (.long r)) (uI J (lawA b) 7 (nI (q.length + 1)), L2, RR b) := fun d' => by
            have := c_X2_pop G d' J L2 b p7 (by omega)
            rw [kr2] at this
            exact this
          have pop2 : ∀ d', MD G d' Y_X2_pop [.ref (lawA b)] (uI J (lawA b) 7 (nI (q.length + 1)), L2, RR b) (some (.long l)) (uI (uI J (lawA b) 7 (nI (q.length + 1))) (lawA b) 7 (nI q.length), L2, RR b) := fun d' => by
            have := c_X2_pop G d' (uI J (lawA b) 7 (nI (q.length + 1))) L2 b (q := q.length) uI_eq (by omega)
            rw [kl] at this
            exact this
          by_cases hcp : s = -60 ∨ s = -62 ∨ s = -61
          · rw [if_pos hcp] at hrun
            by_cases hcm : cmpB s l r = true
            · rw [if_pos hcm] at hrun
              have hcmp := fun d' => c_X2_compares G d' l r (uI (uI J (lawA b) 7 (nI (q.length + 1))) (lawA b) 7 (nI q.length), L2, RR b) hcp
              rw [hcm] at hcmp
              refine wp_iload rfl rfl ?_
              refine wp_iload_n rfl rfl ?_
              refine wp_icmp_ge 57 rfl rfl (fun h7 => absurd h7 hlt) (fun _ => ?_)
              refine wp_aload_n rfl rfl ?_
              refine q_getr rfl rfl (by first | rfl | assumption) rfl hr ?_
              refine wp_iload rfl rfl ?_
              refine q_iald rfl (by first | rfl | assumption) hin ?_
              rw [hcl, hs]
              refine wp_istore (lv' := [(5, _), (0, _), (1, _), (2, _), (3, _), (4, _)]) rfl (by decide) rfl ?_
              refine wp_iload rfl rfl ?_
              refine wp_if_lt 20 rfl rfl (fun _ => ?_) (fun h14 => absurd hn0 h14)
              refine wp_iload rfl rfl ?_
              refine wp_bipush (v := (-6)) rfl rfl ?_
              refine wp_icmp_lt 32 rfl rfl (fun _ => ?_) (fun h22 => absurd hn6 h22)
              refine wp_aload_n rfl rfl ?_
              refine cV1 rfl l_2_46 i_X2_pop m_X2_pop (by first | rfl | assumption) (by decide) (pop1 _) rfl (Nat.le_of_ble_eq_true rfl) ?_
              refine wp_lstore (lv' := [(6, _), (5, _), (0, _), (1, _), (2, _), (3, _), (4, _)]) rfl (by decide) rfl ?_
              refine wp_aload_n rfl rfl ?_
              refine cV1 rfl l_2_46 i_X2_pop m_X2_pop (by first | rfl | assumption) (by decide) (pop2 _) rfl (Nat.le_of_ble_eq_true rfl) ?_
              refine wp_lstore (lv' := [(8, _), (6, _), (5, _), (0, _), (1, _), (2, _), (3, _), (4, _)]) rfl (by decide) rfl ?_
              refine wp_iload rfl rfl ?_
              refine cS1 rfl l_2_57 s_X2_isComparison m_X2_isComparison (c_X2_isComparison G _ _ _) rfl (Nat.le_of_ble_eq_true rfl) ?_
              refine wp_if_ne 48 rfl rfl (fun _ => ?_) (fun h40 => absurd h40 (b2_ne.mpr hcp))
              refine wp_iload rfl rfl ?_
              refine wp_lload rfl rfl ?_
              refine wp_lload rfl rfl ?_
              refine cS1 rfl l_2_65 s_X2_compares m_X2_compares (hcmp _) rfl (Nat.le_of_ble_eq_true rfl) ?_
              refine wp_if_ne 55 rfl rfl (fun _ => ?_) (fun h52 => absurd h52 (show ¬ bI true = 0 by decide))
              refine wp_loc (lv' := [(0, _), (1, _), (2, _), (3, _), (4, _)]) [3, 4, 5, 6, 7] rfl ?_
              exact K55 q _ _ hF.i.i uI_eq kq (by omega) hrun
            · rw [if_neg hcm] at hrun
              cases hrun
              have hcf : cmpB s l r = false := by cases hz : cmpB s l r with
                | true => exact absurd hz hcm
                | false => rfl
              have hcmp := fun d' => c_X2_compares G d' l r (uI (uI J (lawA b) 7 (nI (q.length + 1))) (lawA b) 7 (nI q.length), L2, RR b) hcp
              rw [hcf] at hcmp
              refine wp_iload rfl rfl ?_
              refine wp_iload_n rfl rfl ?_
              refine wp_icmp_ge 57 rfl rfl (fun h7 => absurd h7 hlt) (fun _ => ?_)
              refine wp_aload_n rfl rfl ?_
              refine q_getr rfl rfl (by first | rfl | assumption) rfl hr ?_
              refine wp_iload rfl rfl ?_
              refine q_iald rfl (by first | rfl | assumption) hin ?_
              rw [hcl, hs]
              refine wp_istore (lv' := [(5, _), (0, _), (1, _), (2, _), (3, _), (4, _)]) rfl (by decide) rfl ?_
              refine wp_iload rfl rfl ?_
              refine wp_if_lt 20 rfl rfl (fun _ => ?_) (fun h14 => absurd hn0 h14)
              refine wp_iload rfl rfl ?_
              refine wp_bipush (v := (-6)) rfl rfl ?_
              refine wp_icmp_lt 32 rfl rfl (fun _ => ?_) (fun h22 => absurd hn6 h22)
              refine wp_aload_n rfl rfl ?_
              refine cV1 rfl l_2_46 i_X2_pop m_X2_pop (by first | rfl | assumption) (by decide) (pop1 _) rfl (Nat.le_of_ble_eq_true rfl) ?_
              refine wp_lstore (lv' := [(6, _), (5, _), (0, _), (1, _), (2, _), (3, _), (4, _)]) rfl (by decide) rfl ?_
              refine wp_aload_n rfl rfl ?_
              refine cV1 rfl l_2_46 i_X2_pop m_X2_pop (by first | rfl | assumption) (by decide) (pop2 _) rfl (Nat.le_of_ble_eq_true rfl) ?_
              refine wp_lstore (lv' := [(8, _), (6, _), (5, _), (0, _), (1, _), (2, _), (3, _), (4, _)]) rfl (by decide) rfl ?_
              refine wp_iload rfl rfl ?_
              refine cS1 rfl l_2_57 s_X2_isComparison m_X2_isComparison (c_X2_isComparison G _ _ _) rfl (Nat.le_of_ble_eq_true rfl) ?_
              refine wp_if_ne 48 rfl rfl (fun _ => ?_) (fun h40 => absurd h40 (b2_ne.mpr hcp))
              refine wp_iload rfl rfl ?_
              refine wp_lload rfl rfl ?_
              refine wp_lload rfl rfl ?_
              refine cS1 rfl l_2_65 s_X2_compares m_X2_compares (hcmp _) rfl (Nat.le_of_ble_eq_true rfl) ?_
              refine wp_if_ne 55 rfl rfl (fun h52 => absurd rfl h52) (fun _ => ?_)
              refine wp_iconst (v := 0) rfl rfl ?_
              exact wp_zret rfl rfl (by first | rfl | exact nb2 _ | assumption) (⟨rfl, _, L2, rfl, hF.i.i, nofun⟩)
          · rw [if_neg hcp] at hrun
            have hps := c_X2_push G (d + 1) (cmb s l r) (uI (uI J (lawA b) 7 (nI (q.length + 1))) (lawA b) 7 (nI q.length)) L2 b (q := q.length) uI_eq (by omega)
            refine wp_iload rfl rfl ?_
            refine wp_iload_n rfl rfl ?_
            refine wp_icmp_ge 57 rfl rfl (fun h7 => absurd h7 hlt) (fun _ => ?_)
            refine wp_aload_n rfl rfl ?_
            refine q_getr rfl rfl (by first | rfl | assumption) rfl hr ?_
            refine wp_iload rfl rfl ?_
            refine q_iald rfl (by first | rfl | assumption) hin ?_
            rw [hcl, hs]
            refine wp_istore (lv' := [(5, _), (0, _), (1, _), (2, _), (3, _), (4, _)]) rfl (by decide) rfl ?_
            refine wp_iload rfl rfl ?_
            refine wp_if_lt 20 rfl rfl (fun _ => ?_) (fun h14 => absurd hn0 h14)
            refine wp_iload rfl rfl ?_
            refine wp_bipush (v := (-6)) rfl rfl ?_
            refine wp_icmp_lt 32 rfl rfl (fun _ => ?_) (fun h22 => absurd hn6 h22)
            refine wp_aload_n rfl rfl ?_
            refine cV1 rfl l_2_46 i_X2_pop m_X2_pop (by first | rfl | assumption) (by decide) (pop1 _) rfl (Nat.le_of_ble_eq_true rfl) ?_
            refine wp_lstore (lv' := [(6, _), (5, _), (0, _), (1, _), (2, _), (3, _), (4, _)]) rfl (by decide) rfl ?_
            refine wp_aload_n rfl rfl ?_
            refine cV1 rfl l_2_46 i_X2_pop m_X2_pop (by first | rfl | assumption) (by decide) (pop2 _) rfl (Nat.le_of_ble_eq_true rfl) ?_
            refine wp_lstore (lv' := [(8, _), (6, _), (5, _), (0, _), (1, _), (2, _), (3, _), (4, _)]) rfl (by decide) rfl ?_
            refine wp_iload rfl rfl ?_
            refine cS1 rfl l_2_57 s_X2_isComparison m_X2_isComparison (c_X2_isComparison G _ _ _) rfl (Nat.le_of_ble_eq_true rfl) ?_
            refine wp_if_ne 48 rfl rfl (fun h40 => absurd (b2_f hcp) h40) (fun _ => ?_)
            refine wp_aload_n rfl rfl ?_
            refine wp_iload rfl rfl ?_
            refine wp_lload rfl rfl ?_
            refine wp_lload rfl rfl ?_
            refine cS1 rfl l_2_61 s_X2_combined m_X2_combined (c_X2_combined G d _ _ _ _) rfl (Nat.le_of_ble_eq_true rfl) ?_
            refine cV0 rfl l_2_53 i_X2_push m_X2_push (by first | rfl | assumption) (by decide) (hps) rfl (Nat.le_of_ble_eq_true rfl) ?_
            refine wp_goto 55 rfl rfl ?_
            refine wp_loc (lv' := [(0, _), (1, _), (2, _), (3, _), (4, _)]) [3, 4, 5, 6, 7] rfl ?_
            exact psh q _ L2 _ hF.i.i kq (by omega) hrun
theorem c_X2_holds (G : Gl) (d : Nat) {b o : Bool} {I : IF} {L : LF} {s : Nat} {c : List Int32} {st1 : List Int64} (hs : s + c.length ≤ 300) (hc : ∀ k, k < c.length → I (lawA b + 1) (s + k) = c.getD k 0) (hrun : run (fun k => (I 65 k).toInt64) c [] = some (o, st1)) : MQ2 G (d + 2) Y_X2_holds [.ref (lawA b), .int (nI s), .int (nI (s + c.length)), .ref 65] (I, L, RR b) (HQ (lawA b) I L b o st1) := by
  have sl := sh_law b
  refine MT.intro m_X2_holds rfl (Nat.le_of_ble_eq_true rfl) ?_
  show WQ G (d + 2) Y_X2_holds _ 0 [(0, .ref (lawA b)), (1, .int (nI s)), (2, .int (nI (s + c.length))), (3, .ref 65)] [] (I, L, RR b)
  refine wp_aload_n rfl rfl ?_
  refine wp_iconst (v := 0) rfl rfl ?_
  refine q_puti rfl rfl (by first | rfl | assumption) (Or.inl rfl) rfl ?_
  refine wp_iload_n rfl rfl ?_
  refine wp_istore (lv' := [(4, _), (0, _), (1, _), (2, _), (3, _)]) rfl (by decide) rfl ?_
  refine wp_loc (lv' := [(0, _), (1, _), (2, _), (3, _), (4, _)]) [1, 2, 3, 4, 0] rfl ?_
  exact hld hs c s [] _ L rfl hc LFr.refl.i uI_eq trivial (by decide) hrun
def gl (F : Nat → Int64) : List RE → Int64
  | [] => 0
  | x :: r => if cvb F x.2.2 = true then vl F x.2.1 else gl F r
theorem gst_t {F : Nat → Int64} {v : Int64} : ∀ es : List RE, es.foldl (gs1 F) (true, v) = (true, v)
  | [] => rfl
  | e :: es => by
    have : gs1 F (true, v) e = (true, v) := by unfold gs1; rw [if_neg (fun z => by cases z.2.1)]
    rw [List.foldl_cons, this]
    exact gst_t es
theorem gst_gl (F : Nat → Int64) : ∀ es : List RE, (gst F es).2 = gl F (gvs es)
  | [] => rfl
  | e :: es => by
    have ih := gst_gl F es
    unfold gst at *
    rw [List.foldl_cons]
    unfold gvs at *
    rw [List.filter_cons]
    by_cases h1 : e.1 = -1
    · rw [if_pos (by simpa using h1)]
      simp only [gl]
      by_cases h2 : cvb F e.2.2 = true
      · rw [if_pos h2]
        have : gs1 F (false, 0) e = (true, vl F e.2.1) := by unfold gs1; rw [if_pos ⟨h1, rfl, h2⟩]
        rw [this, gst_t]
      · rw [if_neg h2]
        have : gs1 F (false, 0) e = (false, 0) := by unfold gs1; rw [if_neg (fun z => h2 z.2.2)]
        rw [this]
        exact ih
    · rw [if_neg (by simpa using h1)]
      have : gs1 F (false, 0) e = (false, 0) := by unfold gs1; rw [if_neg (fun z => h1 z.1)]
      rw [this]
      exact ih
theorem c_X2_gift (G : Gl) (d : Nat) {b : Bool} {I : IF} {L : LF} {es : List RE} (hL : LWO I (lawA b) es) (hl : es.length ≤ 10) (hok : ∀ e, e ∈ es → REok e) : MQ2 G (d + 3) Y_X2_gift [.ref (lawA b), .ref 65] (I, L, RR b) (fun r w => r = some (.long (gl (fun k => (I 65 k).toInt64) (gvs es))) ∧ ∃ J L2, w = (J, L2, RR b) ∧ LFr (lawA b) I L J L2) := by
  have sl := sh_law b
  obtain ⟨sa1, sa2, sa3, sa4, sa5⟩ := sh_lawA b
  obtain ⟨r1, r2, r3, r4, r5⟩ := rr_law b
  have lo := law_or b
  obtain ⟨l1, l2, l3, l4⟩ := hL
  have hgl := gvs_len es
  have hok2 : ∀ x, x ∈ gvs es → ∀ F, (∃ v, RV F 19 x.2.1 v) ∧ ∃ a, CV F x.2.2 a := by
    intro x hx F
    unfold gvs at hx
    rw [List.mem_filter] at hx
    have h1 : x.1 = -1 := by simpa using hx.2
    rcases hok x hx.1 with ⟨_, z⟩ | ⟨z, _⟩
    · exact z F
    · rw [h1] at z; exact absurd z (by decide)
  generalize hF : (fun k => (I 65 k).toInt64) = F
  generalize hg : gvs es = gs at *
  have loop : ∀ (p g : Nat) (J : IF) (L2 : LF), g + p = gs.length → LFr (lawA b) I L J L2 → gl F (gs.drop g) = gl F gs → WQ G (d + 3) Y_X2_gift (fun r w => r = some (.long (gl F gs)) ∧ ∃ J L2, w = (J, L2, RR b) ∧ LFr (lawA b) I L J L2) 2 [(0, .ref (lawA b)), (1, .ref 65), (2, .int (nI g))] [] (J, L2, RR b) := by
    intro p
    induction p with
    | zero =>
      intro g J L2 hgp hJ hv
      have hge : J (lawA b) 6 ≤ nI g := by rw [hJ.2.1 6 (by decide), l1]; exact nI_le (by omega) (by omega)
      rw [List.drop_eq_nil_of_le (by omega)] at hv
      have hv : (0 : Int64) = gl F gs := hv
      refine wp_iload_n rfl rfl ?_
      refine wp_aload_n rfl rfl ?_
      refine q_geti rfl rfl (by first | rfl | assumption) rfl ?_
      refine wp_icmp_ge 35 rfl rfl (fun _ => ?_) (fun h5 => absurd hge h5)
      refine wp_lconst (v := 0) rfl rfl ?_
      exact wp_lret rfl rfl (⟨by rw [hv], J, L2, rfl, hJ⟩)
    | succ p ih =>
      intro g J L2 hgp hJ hv
      have hlt : ¬ J (lawA b) 6 ≤ nI g := by rw [hJ.2.1 6 (by decide), l1]; exact nI_ge (by omega) (by omega)
      have hin : vp_in (nI g) 10 := vp_in_nI (by omega) (by omega)
      have hcl : (nI g).toNatClampNeg = g := nI_clamp (by omega)
      have hgl2 : g < gs.length := by omega
      have hx : gs[g]? = some gs[g] := List.getElem?_eq_getElem hgl2
      rw [List.drop_eq_getElem_cons hgl2] at hv
      generalize gs[g] = x at hx hv
      have hmem : x ∈ gs := List.mem_of_getElem? hx
      obtain ⟨s, s1, s2, s3, s4, s5, s6⟩ := l4 g x hx
      obtain ⟨⟨v, hV⟩, ⟨a, hA⟩⟩ := hok2 x hmem F
      have e2 : J (lawA b + 2) g = nI s := by rw [hJ.1 _ (by omega)]; exact s2
      have e3 : J (lawA b + 3) g = nI (s + x.2.1.length) := by rw [hJ.1 _ (by omega)]; exact s3
      have e4 : J (lawA b + 4) g = nI (s + x.2.1.length + x.2.2.length) := by rw [hJ.1 _ (by omega)]; exact s4
      have hFJ : ∀ J' : IF, (∀ a, a ≠ lawA b → J' a = I a) → (fun k => (J' 65 k).toInt64) = F := fun J' z => by rw [← hF, z 65 (by omega)]
      have hc := c_X2_holds G d (b := b) (I := J) (L := L2) (s := s + x.2.1.length) (c := x.2.2) (by omega) (fun k hk => by rw [hJ.1 _ (by omega)]; exact s6 k hk) (by rw [hFJ J hJ.1]; exact hA)
      have hAb := hA.b
      have hVw := hV.wo
      cases a with
      | false =>
        have hv2 : gl F (gs.drop (g + 1)) = gl F gs := by
          rw [← hv]
          simp only [gl]
          rw [if_neg (by rw [hAb]; decide)]
        refine wp_iload_n rfl rfl ?_
        refine wp_aload_n rfl rfl ?_
        refine q_geti rfl rfl (by first | rfl | assumption) rfl ?_
        refine wp_icmp_ge 35 rfl rfl (fun h5 => absurd h5 hlt) (fun _ => ?_)
        refine wp_aload_n rfl rfl ?_
        refine wp_aload_n rfl rfl ?_
        refine q_getr rfl rfl (by first | rfl | assumption) rfl r3 ?_
        refine wp_iload_n rfl rfl ?_
        refine q_iald rfl (by first | rfl | assumption) hin ?_
        rw [hcl, e3]
        refine wp_aload_n rfl rfl ?_
        refine q_getr rfl rfl (by first | rfl | assumption) rfl r4 ?_
        refine wp_iload_n rfl rfl ?_
        refine q_iald rfl (by first | rfl | assumption) hin ?_
        rw [hcl, e4]
        refine wp_aload_n rfl rfl ?_
        refine cVr rfl l_2_42 i_X2_holds m_X2_holds (by first | rfl | assumption) (by decide) (hc) rfl (Nat.le_of_ble_eq_true rfl) (fun r16 w16 hq16 => ?_)
        obtain ⟨rfl, J2, L3, rfl, hJ2, -⟩ := hq16
        refine wp_if_eq 33 rfl rfl (fun _ => ?_) (fun h17 => absurd rfl h17)
        refine wp_iinc (v := nI (g + 1)) (lv' := [(2, _), (0, _), (1, _)]) rfl rfl (nI_1 g) (by decide) rfl ?_
        refine wp_goto 2 rfl rfl ?_
        refine wp_loc (lv' := [(0, _), (1, _), (2, _)]) [1, 2, 0] rfl ?_
        exact ih (g + 1) J2 L3 (by omega) (hJ.tr hJ2) hv2
      | true =>
        have hv2 : v = gl F gs := by
          rw [← hv]
          simp only [gl]
          rw [if_pos hAb, hVw]
        refine wp_iload_n rfl rfl ?_
        refine wp_aload_n rfl rfl ?_
        refine q_geti rfl rfl (by first | rfl | assumption) rfl ?_
        refine wp_icmp_ge 35 rfl rfl (fun h5 => absurd h5 hlt) (fun _ => ?_)
        refine wp_aload_n rfl rfl ?_
        refine wp_aload_n rfl rfl ?_
        refine q_getr rfl rfl (by first | rfl | assumption) rfl r3 ?_
        refine wp_iload_n rfl rfl ?_
        refine q_iald rfl (by first | rfl | assumption) hin ?_
        rw [hcl, e3]
        refine wp_aload_n rfl rfl ?_
        refine q_getr rfl rfl (by first | rfl | assumption) rfl r4 ?_
        refine wp_iload_n rfl rfl ?_
        refine q_iald rfl (by first | rfl | assumption) hin ?_
        rw [hcl, e4]
        refine wp_aload_n rfl rfl ?_
        refine cVr rfl l_2_42 i_X2_holds m_X2_holds (by first | rfl | assumption) (by decide) (hc) rfl (Nat.le_of_ble_eq_true rfl) (fun r16 w16 hq16 => ?_)
        obtain ⟨rfl, J2, L3, rfl, hJ2, -⟩ := hq16
        have hT := hJ.tr hJ2
        have e2b : J2 (lawA b + 2) g = nI s := by rw [hT.1 _ (by omega)]; exact s2
        have e3b : J2 (lawA b + 3) g = nI (s + x.2.1.length) := by rw [hT.1 _ (by omega)]; exact s3
        have hc2 := c_X2_holds G d (b := b) (I := J2) (L := L3) (s := s) (c := x.2.1) (by omega) (fun k hk => by rw [hT.1 _ (by omega)]; exact s5 k hk) (by rw [hFJ J2 hT.1]; exact hV [] (by decide))
        refine wp_if_eq 33 rfl rfl (fun h17 => absurd h17 (by decide)) (fun _ => ?_)
        refine wp_aload_n rfl rfl ?_
        refine wp_aload_n rfl rfl ?_
        refine q_getr rfl rfl (by first | rfl | assumption) rfl r2 ?_
        refine wp_iload_n rfl rfl ?_
        refine q_iald rfl (by first | rfl | assumption) hin ?_
        rw [hcl, e2b]
        refine wp_aload_n rfl rfl ?_
        refine q_getr rfl rfl (by first | rfl | assumption) rfl r3 ?_
        refine wp_iload_n rfl rfl ?_
        refine q_iald rfl (by first | rfl | assumption) hin ?_
        rw [hcl, e3b]
        refine wp_aload_n rfl rfl ?_
        refine cVr rfl l_2_42 i_X2_holds m_X2_holds (by first | rfl | assumption) (by decide) (hc2) rfl (Nat.le_of_ble_eq_true rfl) (fun r28 w28 hq28 => ?_)
        obtain ⟨rfl, J3, L4, rfl, hJ3, hs3⟩ := hq28
        obtain ⟨⟨k1, _⟩, k2⟩ := hs3 rfl
        have hpop := c_X2_pop G (d + 2) J3 L4 b (q := 0) k2 (by omega)
        refine wp_pop rfl rfl ?_
        refine wp_aload_n rfl rfl ?_
        refine cV1 rfl l_2_46 i_X2_pop m_X2_pop (by first | rfl | assumption) (by decide) (hpop) rfl (Nat.le_of_ble_eq_true rfl) ?_
        exact wp_lret rfl rfl (⟨by rw [show L4 (lawA b + 5) 0 = v from k1, hv2], _, L4, rfl, (hT.tr hJ3).i⟩)
  refine MT.intro m_X2_gift rfl (Nat.le_of_ble_eq_true rfl) ?_
  show WQ G (d + 3) Y_X2_gift _ 0 [(0, .ref (lawA b)), (1, .ref 65)] [] (I, L, RR b)
  refine wp_iconst (v := 0) rfl rfl ?_
  refine wp_istore_n (lv' := [(2, _), (0, _), (1, _)]) rfl rfl (by decide) rfl ?_
  refine wp_loc (lv' := [(0, _), (1, _), (2, _)]) [1, 2, 0] rfl ?_
  exact loop gs.length 0 I L (by omega) LFr.refl rfl
