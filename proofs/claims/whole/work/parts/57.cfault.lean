/-! caps, and all rules -/
theorem DR.cap {b : Bool} {I J : IF} {c i r : Nat} {es : List RE} {v : Int32} (h : DR b I c i r es J) (hv : 0 ≤ v) : DR b I c (i + 2) r (es ++ [(v, [], [])]) (uI (uI (uI J 47 3 (nI (i + 1))) (drfA b) 9 (if v < cpf 10000000 es then v else cpf 10000000 es)) 47 3 (nI (i + 2))) := by
  obtain ⟨f0, d5, dc, d6, d8, d9, dco⟩ := h
  have e := drf_or b
  have hne : ¬ v = -1 := fun z => by rw [z] at hv; exact absurd hv (by decide)
  have f1 := ((f0.nxt).up (q := 0) (k := 9) (v := if v < cpf 10000000 es then v else cpf 10000000 es) (by omega)).nxt
  have ge : gvs (es ++ [(v, [], [])]) = gvs es := gvs_c _ _ hne
  refine ⟨f1, ?_, by omega, ?_, ?_, ?_, ?_⟩
  · rw [uI_ne (by omega), uI_nk (by decide), uI_ne (by omega)]; exact d5
  · rw [uI_ne (by omega), uI_nk (by decide), uI_ne (by omega), ge]; exact d6
  · rw [uI_ne (by omega), uI_nk (by decide), uI_ne (by omega)]; exact d8
  · rw [uI_ne (by omega), uI_eq, cpf_c _ _ _ hne]
  · intro g x hx
    rw [ge] at hx
    refine (dco g x hx).fr ?_ ?_ ?_ ?_ (Nat.le_refl _)
    · rw [uI_ne (by omega), uI_ne (by omega), uI_ne (by omega)]
    · rw [uI_ne (by omega), uI_ne (by omega), uI_ne (by omega)]
    · rw [uI_ne (by omega), uI_ne (by omega), uI_ne (by omega)]
    · intro k hk
      rw [uI_ne (by omega), uI_ne (by omega), uI_ne (by omega)]
theorem DR.rul {b : Bool} {I J : IF} {c i r : Nat} {es : List RE} (h : DR b I c i r es J) : DR b I c i (r + 1) es (uI J (drfA b) 8 (nI (r + 1))) := by
  obtain ⟨f0, d5, dc, d6, d8, d9, dco⟩ := h
  have e := drf_or b
  have f1 := f0.up (q := 0) (k := 8) (v := nI (r + 1)) (by omega)
  refine ⟨f1, ?_, dc, ?_, uI_eq, ?_, ?_⟩
  · rw [uI_nk (by decide)]; exact d5
  · rw [uI_nk (by decide)]; exact d6
  · rw [uI_nk (by decide)]; exact d9
  · intro g x hx
    refine (dco g x hx).fr ?_ ?_ ?_ ?_ (Nat.le_refl _)
    · rw [uI_ne (by omega)]
    · rw [uI_ne (by omega)]
    · rw [uI_ne (by omega)]
    · intro k hk
      rw [uI_ne (by omega)]
theorem DR.nxt {b : Bool} {I J : IF} {c i r : Nat} {es : List RE} (h : DR b I c i r es J) : DR b I c (i + 1) r es (uI J 47 3 (nI (i + 1))) := by
  obtain ⟨f0, d5, dc, d6, d8, d9, dco⟩ := h
  have e := drf_or b
  refine ⟨f0.nxt, ?_, by omega, ?_, ?_, ?_, ?_⟩
  · rw [uI_ne (by omega)]; exact d5
  · rw [uI_ne (by omega)]; exact d6
  · rw [uI_ne (by omega)]; exact d8
  · rw [uI_ne (by omega)]; exact d9
  · intro g x hx
    refine (dco g x hx).fr ?_ ?_ ?_ ?_ (Nat.le_refl _)
    · rw [uI_ne (by omega)]
    · rw [uI_ne (by omega)]
    · rw [uI_ne (by omega)]
    · intro k hk
      rw [uI_ne (by omega)]
theorem c_cap_1 (G : Gl) (d : Nat) {b : Bool} {c i r : Nat} {I J : IF} {L : LF} {K : Nat → Int32} {P : Nat → Nat} {m n : Nat} {es : List RE} (hk : TKS K P m n I) (hD : DR b I c i r es J) (hi : i ≤ m) (h1 : ¬ K i = -103) : MQ2 G (d + 1) Y_X3_readCap [.ref 46] (J, L, RR b) (GQ b I L false c i r es) := by
  have f := hD.1
  refine MT.intro m_X3_readCap rfl (Nat.le_of_ble_eq_true rfl) ?_
  show WQ G (d + 1) Y_X3_readCap _ 0 [(0, .ref 46)] [] (J, L, RR b)
  refine wp_aload_n rfl rfl ?_
  refine q_getr rfl rfl (by first | rfl | assumption) rfl rfl ?_
  refine cV1 rfl l_3_32 i_X8_kind m_X8_kind (by first | rfl | assumption) (by decide) (c_X8_kind G _ hi J L b (f.tks hk) f.2.2) rfl (Nat.le_of_ble_eq_true rfl) ?_
  refine wp_bipush (v := (-103)) rfl rfl ?_
  refine wp_icmp_eq 7 rfl rfl (fun h4 => absurd h4 h1) (fun _ => ?_)
  refine wp_iconst (v := 0) rfl rfl ?_
  exact wp_zret rfl rfl (by first | rfl | exact nb2 _ | assumption) (⟨J, rfl, rfl, nofun, fun _ => f⟩)
theorem c_cap_2 (G : Gl) (d : Nat) {b : Bool} {c i r : Nat} {I J : IF} {L : LF} {K : Nat → Int32} {P : Nat → Nat} {m n : Nat} {es : List RE} (hk : TKS K P m n I) (hD : DR b I c i r es J) (h1 : K i = -103) (h2 : ¬ 0 ≤ K (i + 1)) : MQ2 G (d + 1) Y_X3_readCap [.ref 46] (J, L, RR b) (GQ b I L false c (i + 1) r es) := by
  have f := hD.1
  have hl := hk.KE.lv h1 (by decide)
  have f1 := f.nxt
  refine MT.intro m_X3_readCap rfl (Nat.le_of_ble_eq_true rfl) ?_
  show WQ G (d + 1) Y_X3_readCap _ 0 [(0, .ref 46)] [] (J, L, RR b)
  refine wp_aload_n rfl rfl ?_
  refine q_getr rfl rfl (by first | rfl | assumption) rfl rfl ?_
  refine cV1 rfl l_3_32 i_X8_kind m_X8_kind (by first | rfl | assumption) (by decide) (c_X8_kind G _ (Nat.le_of_lt hl) J L b (f.tks hk) f.2.2) rfl (Nat.le_of_ble_eq_true rfl) ?_
  refine wp_bipush (v := (-103)) rfl rfl ?_
  refine wp_icmp_eq 7 rfl rfl (fun _ => ?_) (fun h4 => absurd h1 h4)
  refine wp_aload_n rfl rfl ?_
  refine q_getr rfl rfl (by first | rfl | assumption) rfl rfl ?_
  refine cV0 rfl l_3_47 i_X8_next m_X8_next (by first | rfl | assumption) (by decide) (c_X8_next G _ hl J L b (f.tks hk) f.2.2) rfl (Nat.le_of_ble_eq_true rfl) ?_
  refine wp_aload_n rfl rfl ?_
  refine q_getr rfl rfl (by first | rfl | assumption) rfl rfl ?_
  refine cV1 rfl l_3_32 i_X8_kind m_X8_kind (by first | rfl | assumption) (by decide) (c_X8_kind G _ hl _ L b (f1.tks hk) f1.2.2) rfl (Nat.le_of_ble_eq_true rfl) ?_
  refine wp_if_ge 16 rfl rfl (fun h13 => absurd h13 h2) (fun _ => ?_)
  refine wp_iconst (v := 0) rfl rfl ?_
  exact wp_zret rfl rfl (by first | rfl | exact nb2 _ | assumption) (⟨_, rfl, rfl, nofun, fun _ => f1⟩)
theorem c_cap_3 (G : Gl) (d : Nat) {b : Bool} {c i r : Nat} {I J : IF} {L : LF} {K : Nat → Int32} {P : Nat → Nat} {m n : Nat} {es : List RE} (hk : TKS K P m n I) (hD : DR b I c i r es J) (h1 : K i = -103) (h2 : 0 ≤ K (i + 1)) : MQ2 G (d + 1) Y_X3_readCap [.ref 46] (J, L, RR b) (GQ b I L true c (i + 2) r (es ++ [(K (i + 1), [], [])])) := by
  have f := hD.1
  have hl := hk.KE.lv h1 (by decide)
  have hl2 := hk.KE.l0 h2
  have f1 := f.nxt
  have sd := sh_drf b
  have e := drf_or b
  have e9 : uI J 47 3 (nI (i + 1)) (drfA b) 9 = cpf 10000000 es := by rw [uI_ne (by omega)]; exact hD.2.2.2.2.2.1
  have f2 := f1.up (q := 0) (k := 9) (v := if K (i + 1) < cpf 10000000 es then K (i + 1) else cpf 10000000 es) (by omega)
  have hfin := hD.cap h2
  refine MT.intro m_X3_readCap rfl (Nat.le_of_ble_eq_true rfl) ?_
  show WQ G (d + 1) Y_X3_readCap _ 0 [(0, .ref 46)] [] (J, L, RR b)
  refine wp_aload_n rfl rfl ?_
  refine q_getr rfl rfl (by first | rfl | assumption) rfl rfl ?_
  refine cV1 rfl l_3_32 i_X8_kind m_X8_kind (by first | rfl | assumption) (by decide) (c_X8_kind G _ (Nat.le_of_lt hl) J L b (f.tks hk) f.2.2) rfl (Nat.le_of_ble_eq_true rfl) ?_
  refine wp_bipush (v := (-103)) rfl rfl ?_
  refine wp_icmp_eq 7 rfl rfl (fun _ => ?_) (fun h4 => absurd h1 h4)
  refine wp_aload_n rfl rfl ?_
  refine q_getr rfl rfl (by first | rfl | assumption) rfl rfl ?_
  refine cV0 rfl l_3_47 i_X8_next m_X8_next (by first | rfl | assumption) (by decide) (c_X8_next G _ hl J L b (f.tks hk) f.2.2) rfl (Nat.le_of_ble_eq_true rfl) ?_
  refine wp_aload_n rfl rfl ?_
  refine q_getr rfl rfl (by first | rfl | assumption) rfl rfl ?_
  refine cV1 rfl l_3_32 i_X8_kind m_X8_kind (by first | rfl | assumption) (by decide) (c_X8_kind G _ hl _ L b (f1.tks hk) f1.2.2) rfl (Nat.le_of_ble_eq_true rfl) ?_
  refine wp_if_ge 16 rfl rfl (fun _ => ?_) (fun h13 => absurd h2 h13)
  refine wp_aload_n rfl rfl ?_
  refine q_getr rfl rfl (by first | rfl | assumption) rfl rfl ?_
  refine wp_aload_n rfl rfl ?_
  refine q_getr rfl rfl (by first | rfl | assumption) rfl rfl ?_
  refine q_geti rfl rfl (by first | rfl | assumption) rfl ?_
  refine wp_aload_n rfl rfl ?_
  refine q_getr rfl rfl (by first | rfl | assumption) rfl rfl ?_
  refine cV1 rfl l_3_32 i_X8_kind m_X8_kind (by first | rfl | assumption) (by decide) (c_X8_kind G _ hl _ L b (f1.tks hk) f1.2.2) rfl (Nat.le_of_ble_eq_true rfl) ?_
  refine q_mmin rfl l_3_56 (Nat.le_of_ble_eq_true rfl) ?_
  rw [e9]
  refine q_puti rfl rfl (by first | rfl | assumption) (Or.inl rfl) rfl ?_
  refine wp_aload_n rfl rfl ?_
  refine q_getr rfl rfl (by first | rfl | assumption) rfl rfl ?_
  refine cV0 rfl l_3_47 i_X8_next m_X8_next (by first | rfl | assumption) (by decide) (c_X8_next G _ hl2 _ L b (f2.tks hk) f2.2.2) rfl (Nat.le_of_ble_eq_true rfl) ?_
  refine wp_iconst (v := 1) rfl rfl ?_
  exact wp_zret rfl rfl (by first | rfl | exact nb2 _ | assumption) (⟨_, rfl, rfl, fun _ => hfin, nofun⟩)
def FQ (b : Bool) (I : IF) (L : LF) (P : Nat → Nat) (o : Bool) (j : Nat) (es : List RE) (v : Option Value) (w : mW) : Prop := ∃ J c, w = (J, L, RR b) ∧ (o = true → v = some (.int (-1)) ∧ DR b I c j es.length es J) ∧ (o = false → v = some (.int (nI (P j))) ∧ FR b I j J)
theorem cfl {G : Gl} {d : Nat} {b : Bool} {I : IF} {L : LF} {K : Nat → Int32} {P : Nat → Nat} {m n f0 : Nat} (hk : TKS K P m n I) : ∀ (r i c : Nat) (es0 : List RE) (o : Bool) (j : Nat) (es : List RE) (J : IF) (Q : Option Value → mW → Prop), es0.length + r = 10 → DR b I c i es0.length es0 J → i ≤ m → prR K f0 r i = some (o, j, es) → (∀ v w, FQ b I L P o j (es0 ++ es) v w → Q v w) → WQ G (d + 30) Y_X3_faultOf Q 16 [(0, .ref 46), (1, .ref 44), (2, .int (nI es0.length))] [] (J, L, RR b) := by
  have hE := hk.KE
  have sd := sh_drf b
  have K57 : ∀ (j : Nat) (J : IF) (t : Int32) (es : List RE) (Q : Option Value → mW → Prop), FR b I j J → j ≤ m → (∀ v w, FQ b I L P false j es v w → Q v w) → WQ G (d + 30) Y_X3_faultOf Q 57 [(0, .ref 46), (1, .ref 44), (2, .int t)] [] (J, L, RR b) := by
    intro j J t es Q f hj hQ
    refine wp_aload_n rfl rfl ?_
    refine q_getr rfl rfl (by first | rfl | assumption) rfl rfl ?_
    refine cV1 rfl l_3_50 i_X8_place m_X8_place (by first | rfl | assumption) (by decide) (c_X8_place G _ hj J L b (f.tks hk) f.2.2) rfl (Nat.le_of_ble_eq_true rfl) ?_
    exact wp_iret rfl rfl (hQ _ _ ⟨J, 0, rfl, nofun, fun _ => ⟨rfl, f⟩⟩)
  intro r
  induction r with
  | zero =>
    intro i c es0 o j es J Q hlen hD hi h hQ
    cases h
    have hge : (10 : Int32) ≤ nI es0.length := nI_le (a := 10) (by omega) (by omega)
    refine wp_iload_n rfl rfl ?_
    refine wp_bipush (v := 10) rfl rfl ?_
    refine wp_icmp_ge 57 rfl rfl (fun _ => ?_) (fun h18 => absurd hge h18)
    exact K57 _ J _ _ Q hD.1 hi hQ
  | succ r ih =>
    intro i c es0 o j es J Q hlen hD hi h hQ
    have hlt : ¬ (10 : Int32) ≤ nI es0.length := nI_ge (b := 10) (by omega) (by omega)
    have f := hD.1
    have K32 : ∀ (e : RE) (c2 j0 : Nat) (J2 : IF), DR b I c2 j0 es0.length (es0 ++ [e]) J2 → j0 ≤ m → prA K e j0 (prR K f0 r (j0 + 1)) = some (o, j, es) → WQ G (d + 30) Y_X3_faultOf Q 32 [(0, .ref 46), (1, .ref 44), (2, .int (nI es0.length))] [] (J2, L, RR b) := by
      intro e c2 j0 J2 hD2 hj0 hA
      have hD3 := hD2.rul
      have f3 := hD3.1
      have hl1 : (es0 ++ [e]).length = es0.length + 1 := by rw [List.length_append, List.length_singleton]
      have e8 : J2 (drfA b) 8 + 1 = nI (es0.length + 1) := by rw [hD2.2.2.2.2.1, nI_1]
      rcases prA_i hA with ⟨a1, a2, a3, a4⟩ | ⟨a1, o1, es1, a2, a3, a4⟩ | ⟨a1, a2, a3, a4⟩
      · subst a2 a3 a4
        refine wp_aload_n rfl rfl ?_
        refine q_getr rfl rfl (by first | rfl | assumption) rfl rfl ?_
        refine wp_dup rfl rfl ?_
        refine q_geti rfl rfl (by first | rfl | assumption) rfl ?_
        refine wp_iconst (v := 1) rfl rfl ?_
        refine wp_iadd rfl ?_
        rw [e8]
        refine q_puti rfl rfl (by first | rfl | assumption) (Or.inl rfl) rfl ?_
        refine wp_aload_n rfl rfl ?_
        refine q_getr rfl rfl (by first | rfl | assumption) rfl rfl ?_
        refine cV1 rfl l_3_32 i_X8_kind m_X8_kind (by first | rfl | assumption) (by decide) (c_X8_kind G _ hj0 _ L b (f3.tks hk) f3.2.2) rfl (Nat.le_of_ble_eq_true rfl) ?_
        refine wp_bipush (v := (-100)) rfl rfl ?_
        refine wp_icmp_ne 46 rfl rfl (fun h43 => absurd a1 h43) (fun _ => ?_)
        refine wp_iconst (v := (-1)) rfl rfl ?_
        exact wp_iret rfl rfl (hQ _ _ ⟨_, c2, rfl, fun _ => ⟨rfl, by rw [hl1]; exact hD3⟩, nofun⟩)
      · have hl2 := hE.lv a1 (by decide)
        have hn1 : ¬ K j0 = -100 := by rw [a1]; decide
        have hQ2 : ∀ v w, FQ b I L P o1 j ((es0 ++ [e]) ++ es1) v w → Q v w := by
          intro v w hv
          subst a3
          cases o with
          | true =>
            rw [List.append_assoc] at hv
            have := a4 rfl
            rw [this] at hQ
            exact hQ v w hv
          | false =>
            obtain ⟨J9, c9, q1, q2, q3⟩ := hv
            exact hQ v w ⟨J9, c9, q1, nofun, q3⟩
        have hg := ih (j0 + 1) c2 (es0 ++ [e]) o1 j es1 _ Q (by omega) (by rw [hl1]; exact hD3.nxt) (by omega) a2 hQ2
        rw [hl1] at hg
        refine wp_aload_n rfl rfl ?_
        refine q_getr rfl rfl (by first | rfl | assumption) rfl rfl ?_
        refine wp_dup rfl rfl ?_
        refine q_geti rfl rfl (by first | rfl | assumption) rfl ?_
        refine wp_iconst (v := 1) rfl rfl ?_
        refine wp_iadd rfl ?_
        rw [e8]
        refine q_puti rfl rfl (by first | rfl | assumption) (Or.inl rfl) rfl ?_
        refine wp_aload_n rfl rfl ?_
        refine q_getr rfl rfl (by first | rfl | assumption) rfl rfl ?_
        refine cV1 rfl l_3_32 i_X8_kind m_X8_kind (by first | rfl | assumption) (by decide) (c_X8_kind G _ hj0 _ L b (f3.tks hk) f3.2.2) rfl (Nat.le_of_ble_eq_true rfl) ?_
        refine wp_bipush (v := (-100)) rfl rfl ?_
        refine wp_icmp_ne 46 rfl rfl (fun _ => ?_) (fun h43 => absurd h43 hn1)
        refine wp_aload_n rfl rfl ?_
        refine q_getr rfl rfl (by first | rfl | assumption) rfl rfl ?_
        refine cV1 rfl l_3_32 i_X8_kind m_X8_kind (by first | rfl | assumption) (by decide) (c_X8_kind G _ hj0 _ L b (f3.tks hk) f3.2.2) rfl (Nat.le_of_ble_eq_true rfl) ?_
        refine wp_bipush (v := (-59)) rfl rfl ?_
        refine wp_icmp_eq 52 rfl rfl (fun _ => ?_) (fun h50 => absurd a1 h50)
        refine wp_aload_n rfl rfl ?_
        refine q_getr rfl rfl (by first | rfl | assumption) rfl rfl ?_
        refine cV0 rfl l_3_47 i_X8_next m_X8_next (by first | rfl | assumption) (by decide) (c_X8_next G _ hl2 _ L b (f3.tks hk) f3.2.2) rfl (Nat.le_of_ble_eq_true rfl) ?_
        refine wp_iinc (v := nI (es0.length + 1)) (lv' := [(2, _), (0, _), (1, _)]) rfl rfl (nI_1 _) (by decide) rfl ?_
        refine wp_goto 16 rfl rfl ?_
        refine wp_loc (lv' := [(0, _), (1, _), (2, _)]) [1, 2, 0] rfl ?_
        exact hg
      · subst a3 a4
        refine wp_aload_n rfl rfl ?_
        refine q_getr rfl rfl (by first | rfl | assumption) rfl rfl ?_
        refine wp_dup rfl rfl ?_
        refine q_geti rfl rfl (by first | rfl | assumption) rfl ?_
        refine wp_iconst (v := 1) rfl rfl ?_
        refine wp_iadd rfl ?_
        rw [e8]
        refine q_puti rfl rfl (by first | rfl | assumption) (Or.inl rfl) rfl ?_
        refine wp_aload_n rfl rfl ?_
        refine q_getr rfl rfl (by first | rfl | assumption) rfl rfl ?_
        refine cV1 rfl l_3_32 i_X8_kind m_X8_kind (by first | rfl | assumption) (by decide) (c_X8_kind G _ hj0 _ L b (f3.tks hk) f3.2.2) rfl (Nat.le_of_ble_eq_true rfl) ?_
        refine wp_bipush (v := (-100)) rfl rfl ?_
        refine wp_icmp_ne 46 rfl rfl (fun _ => ?_) (fun h43 => absurd h43 a1)
        refine wp_aload_n rfl rfl ?_
        refine q_getr rfl rfl (by first | rfl | assumption) rfl rfl ?_
        refine cV1 rfl l_3_32 i_X8_kind m_X8_kind (by first | rfl | assumption) (by decide) (c_X8_kind G _ hj0 _ L b (f3.tks hk) f3.2.2) rfl (Nat.le_of_ble_eq_true rfl) ?_
        refine wp_bipush (v := (-59)) rfl rfl ?_
        refine wp_icmp_eq 52 rfl rfl (fun h50 => absurd h50 a2) (fun _ => ?_)
        refine wp_goto 57 rfl rfl ?_
        exact K57 _ _ _ _ Q f3 hj0 hQ
    have hkd : ∀ d', MD G d' Y_X8_kind [.ref 47] (J, L, RR b) (some (.int (K i))) (J, L, RR b) := fun d' => c_X8_kind G d' hi J L b (f.tks hk) f.2.2
    rcases prR_i h with ⟨h1, h2⟩ | ⟨h1, h2, h3⟩ | ⟨h1, h2, h3, h4⟩
    · have hl := hE.lv h1 (by decide)
      rcases h2 with ⟨c1, g1, g2⟩ | ⟨j1, c1, g1, g2⟩
      · subst g2
        have hb := prs_b hE _ _ _ _ _ _ _ g1 (by omega)
        refine wp_iload_n rfl rfl ?_
        refine wp_bipush (v := 10) rfl rfl ?_
        refine wp_icmp_ge 57 rfl rfl (fun h18 => absurd h18 hlt) (fun _ => ?_)
        refine wp_aload_n rfl rfl ?_
        refine q_getr rfl rfl (by first | rfl | assumption) rfl rfl ?_
        refine cV1 rfl l_3_32 i_X8_kind m_X8_kind (by first | rfl | assumption) (by decide) (hkd _) rfl (Nat.le_of_ble_eq_true rfl) ?_
        refine wp_bipush (v := (-102)) rfl rfl ?_
        refine wp_icmp_ne 28 rfl rfl (fun h23 => absurd h1 h23) (fun _ => ?_)
        refine wp_aload_n rfl rfl ?_
        refine cVr rfl l_3_36 i_X3_readGive m_X3_readGive (by first | rfl | assumption) (by decide) (c_give_1 G d hk hD (by omega) h1 g1) rfl (Nat.le_of_ble_eq_true rfl) (fun r25 w25 hq25 => ?_)
        obtain ⟨J2, rfl, rfl, -, hf⟩ := hq25
        refine wp_if_ne 32 rfl rfl (fun h26 => absurd h26 (fun z => z rfl)) (fun _ => ?_)
        refine wp_goto 57 rfl rfl ?_
        exact K57 _ _ _ _ Q (hf rfl) hb.2.1 hQ
      · have hb := prs_b hE _ _ _ _ _ _ _ g1 (by omega)
        rcases g2 with ⟨h4, c2, g3, g4⟩ | ⟨j2, c2, g3, g4⟩
        · subst g4
          have hl1 := hE.lv h4 (by decide)
          have hbc := prC_b hE _ _ _ _ _ g3 hl1
          refine wp_iload_n rfl rfl ?_
          refine wp_bipush (v := 10) rfl rfl ?_
          refine wp_icmp_ge 57 rfl rfl (fun h18 => absurd h18 hlt) (fun _ => ?_)
          refine wp_aload_n rfl rfl ?_
          refine q_getr rfl rfl (by first | rfl | assumption) rfl rfl ?_
          refine cV1 rfl l_3_32 i_X8_kind m_X8_kind (by first | rfl | assumption) (by decide) (hkd _) rfl (Nat.le_of_ble_eq_true rfl) ?_
          refine wp_bipush (v := (-102)) rfl rfl ?_
          refine wp_icmp_ne 28 rfl rfl (fun h23 => absurd h1 h23) (fun _ => ?_)
          refine wp_aload_n rfl rfl ?_
          refine cVr rfl l_3_36 i_X3_readGive m_X3_readGive (by first | rfl | assumption) (by decide) (c_give_2 G d hk hD (by omega) h1 g1 h4 g3) rfl (Nat.le_of_ble_eq_true rfl) (fun r25 w25 hq25 => ?_)
          obtain ⟨J2, rfl, rfl, -, hf⟩ := hq25
          refine wp_if_ne 32 rfl rfl (fun h26 => absurd h26 (fun z => z rfl)) (fun _ => ?_)
          refine wp_goto 57 rfl rfl ?_
          exact K57 _ _ _ _ Q (hf rfl) hbc.2.1 hQ
        · have hj2 : j2 ≤ m := by
            rcases g3 with ⟨k1, k2⟩ | ⟨k1, k2, k3⟩
            · exact (prC_b hE _ _ _ _ _ k2 (hE.lv k1 (by decide))).2.1
            · rw [k2]; exact hb.2.1
          refine wp_iload_n rfl rfl ?_
          refine wp_bipush (v := 10) rfl rfl ?_
          refine wp_icmp_ge 57 rfl rfl (fun h18 => absurd h18 hlt) (fun _ => ?_)
          refine wp_aload_n rfl rfl ?_
          refine q_getr rfl rfl (by first | rfl | assumption) rfl rfl ?_
          refine cV1 rfl l_3_32 i_X8_kind m_X8_kind (by first | rfl | assumption) (by decide) (hkd _) rfl (Nat.le_of_ble_eq_true rfl) ?_
          refine wp_bipush (v := (-102)) rfl rfl ?_
          refine wp_icmp_ne 28 rfl rfl (fun h23 => absurd h1 h23) (fun _ => ?_)
          refine wp_aload_n rfl rfl ?_
          refine cVr rfl l_3_36 i_X3_readGive m_X3_readGive (by first | rfl | assumption) (by decide) (c_give_3 G d hk hD (by omega) h1 g1 g3) rfl (Nat.le_of_ble_eq_true rfl) (fun r25 w25 hq25 => ?_)
          obtain ⟨J2, rfl, rfl, ht, -⟩ := hq25
          refine wp_if_ne 32 rfl rfl (fun _ => ?_) (fun h26 => absurd h26 (show ¬ bI true = 0 by decide))
          exact K32 _ _ _ _ (ht rfl) hj2 g4
    · rcases h3 with ⟨h3, h4⟩ | ⟨h3, e4, e5⟩
      · have hl2 := hE.l0 h3
        refine wp_iload_n rfl rfl ?_
        refine wp_bipush (v := 10) rfl rfl ?_
        refine wp_icmp_ge 57 rfl rfl (fun h18 => absurd h18 hlt) (fun _ => ?_)
        refine wp_aload_n rfl rfl ?_
        refine q_getr rfl rfl (by first | rfl | assumption) rfl rfl ?_
        refine cV1 rfl l_3_32 i_X8_kind m_X8_kind (by first | rfl | assumption) (by decide) (hkd _) rfl (Nat.le_of_ble_eq_true rfl) ?_
        refine wp_bipush (v := (-102)) rfl rfl ?_
        refine wp_icmp_ne 28 rfl rfl (fun _ => ?_) (fun h23 => absurd h23 h1)
        refine wp_aload_n rfl rfl ?_
        refine cVr rfl l_3_40 i_X3_readCap m_X3_readCap (by first | rfl | assumption) (by decide) (c_cap_3 G (d + 28) hk hD h2 h3) rfl (Nat.le_of_ble_eq_true rfl) (fun r29 w29 hq29 => ?_)
        obtain ⟨J2, rfl, rfl, ht, -⟩ := hq29
        refine wp_if_ne 32 rfl rfl (fun _ => ?_) (fun h30 => absurd h30 (show ¬ bI true = 0 by decide))
        exact K32 _ _ _ _ (ht rfl) (by omega) h4
      · subst e4 e5
        have hl := hE.lv h2 (by decide)
        refine wp_iload_n rfl rfl ?_
        refine wp_bipush (v := 10) rfl rfl ?_
        refine wp_icmp_ge 57 rfl rfl (fun h18 => absurd h18 hlt) (fun _ => ?_)
        refine wp_aload_n rfl rfl ?_
        refine q_getr rfl rfl (by first | rfl | assumption) rfl rfl ?_
        refine cV1 rfl l_3_32 i_X8_kind m_X8_kind (by first | rfl | assumption) (by decide) (hkd _) rfl (Nat.le_of_ble_eq_true rfl) ?_
        refine wp_bipush (v := (-102)) rfl rfl ?_
        refine wp_icmp_ne 28 rfl rfl (fun _ => ?_) (fun h23 => absurd h23 h1)
        refine wp_aload_n rfl rfl ?_
        refine cVr rfl l_3_40 i_X3_readCap m_X3_readCap (by first | rfl | assumption) (by decide) (c_cap_2 G (d + 28) hk hD h2 h3) rfl (Nat.le_of_ble_eq_true rfl) (fun r29 w29 hq29 => ?_)
        obtain ⟨J2, rfl, rfl, -, hf⟩ := hq29
        refine wp_if_ne 32 rfl rfl (fun h30 => absurd h30 (fun z => z rfl)) (fun _ => ?_)
        refine wp_goto 57 rfl rfl ?_
        exact K57 _ _ _ _ Q (hf rfl) (by omega) hQ
    · rw [h4] at hQ
      rw [h3] at hQ
      refine wp_iload_n rfl rfl ?_
      refine wp_bipush (v := 10) rfl rfl ?_
      refine wp_icmp_ge 57 rfl rfl (fun h18 => absurd h18 hlt) (fun _ => ?_)
      refine wp_aload_n rfl rfl ?_
      refine q_getr rfl rfl (by first | rfl | assumption) rfl rfl ?_
      refine cV1 rfl l_3_32 i_X8_kind m_X8_kind (by first | rfl | assumption) (by decide) (hkd _) rfl (Nat.le_of_ble_eq_true rfl) ?_
      refine wp_bipush (v := (-102)) rfl rfl ?_
      refine wp_icmp_ne 28 rfl rfl (fun _ => ?_) (fun h23 => absurd h23 h1)
      refine wp_aload_n rfl rfl ?_
      refine cVr rfl l_3_40 i_X3_readCap m_X3_readCap (by first | rfl | assumption) (by decide) (c_cap_1 G (d + 28) hk hD hi h2) rfl (Nat.le_of_ble_eq_true rfl) (fun r29 w29 hq29 => ?_)
      obtain ⟨J2, rfl, rfl, -, hf⟩ := hq29
      refine wp_if_ne 32 rfl rfl (fun h30 => absurd h30 (fun z => z rfl)) (fun _ => ?_)
      refine wp_goto 57 rfl rfl ?_
      exact K57 _ _ _ _ Q (hf rfl) hi hQ
/-- the text's fault, and the draft behind it; I is the world once split and cleared -/
theorem c_X3_faultOf (G : Gl) (d : Nat) {n f0 j : Nat} {o : Bool} {es : List RE} (hn : n ≤ 300) (I : IF) (L : LF) (b : Bool) (h : I 44 1 = nI n) (hp : prT (KK (I 45) n) f0 = some (o, j, es)) : MQ2 G (d + 30) Y_X3_faultOf [.ref 46, .ref 44] (I, L, RR b) (fun v w => ∃ I1, (∀ a, a ≠ 47 → a ≠ 48 → a ≠ 49 → a ≠ drfA b → I1 a = I a) ∧ FQ b I1 L (ps (I 45) n) o j es v w) := by
  have e := drf_or b
  have sd := sh_drf b
  have hsp := c_X8_split G (d + 22) hn I L b h
  generalize hT : I 45 = T at *
  unfold prT at hp
  refine MT.intro m_X3_faultOf rfl (Nat.le_of_ble_eq_true rfl) ?_
  show WQ G (d + 30) Y_X3_faultOf _ 0 [(0, .ref 46), (1, .ref 44)] [] (I, L, RR b)
  refine wp_aload_n rfl rfl ?_
  refine q_getr rfl rfl (by first | rfl | assumption) rfl rfl ?_
  refine wp_aload_n rfl rfl ?_
  refine cVr rfl l_3_25 i_X8_split m_X8_split (by first | rfl | assumption) (by decide) (hsp) rfl (Nat.le_of_ble_eq_true rfl) (fun r3 w3 hq3 => ?_)
  obtain ⟨rfl, m, J, rfl, hm, he, hS⟩ := hq3
  have hk := SPL_TKS hn hm he hS
  obtain ⟨s1, s2, s3, s4, s5⟩ := hS
  generalize hJ1 : uI (uI (uI (uI J (drfA b) 5 0) (drfA b) 6 0) (drfA b) 8 0) (drfA b) 9 10000000 = J1
  have fo : ∀ a, a ≠ drfA b → J1 a = J a := fun a ha => by rw [← hJ1, uI_fn ha, uI_fn ha, uI_fn ha, uI_fn ha]
  have hk1 : TKS (KK T n) (ps T n) m n J1 := by
    obtain ⟨k1, k2, k3, k4, k5, k6⟩ := hk
    refine ⟨k1, k2, by rw [fo 47 (by omega)]; exact k3, by rw [fo 47 (by omega)]; exact k4, ?_, k6⟩
    rw [fo 48 (by omega), fo 49 (by omega)]
    exact k5
  have h3 : J1 47 3 = nI 0 := by rw [fo 47 (by omega)]; exact s3
  have hD : DR b J1 0 0 0 [] J1 := ⟨⟨fun _ _ _ => rfl, fun _ _ => rfl, h3⟩, by rw [← hJ1, uI_nk (by decide), uI_nk (by decide), uI_nk (by decide), uI_eq]; rfl, Nat.le_refl _, by rw [← hJ1, uI_nk (by decide), uI_nk (by decide), uI_eq]; rfl, by rw [← hJ1, uI_nk (by decide), uI_eq]; rfl, by rw [← hJ1, uI_eq]; rfl, fun g x hx => by cases hx⟩
  have hI1 : ∀ a, a ≠ 47 → a ≠ 48 → a ≠ 49 → a ≠ drfA b → J1 a = I a := fun a a1 a2 a3 a4 => by rw [fo a a4]; exact s1 a a1 a2 a3
  have hcl := c_X2_clear G (d + 29) J L b
  rw [hJ1] at hcl
  refine wp_aload_n rfl rfl ?_
  refine q_getr rfl rfl (by first | rfl | assumption) rfl rfl ?_
  refine cV0 rfl l_3_29 i_X2_clear m_X2_clear (by first | rfl | assumption) (by decide) (hcl) rfl (Nat.le_of_ble_eq_true rfl) ?_
  refine wp_aload_n rfl rfl ?_
  refine q_getr rfl rfl (by first | rfl | assumption) rfl rfl ?_
  refine cV1 rfl l_3_32 i_X8_kind m_X8_kind (by first | rfl | assumption) (by decide) (c_X8_kind G _ (Nat.zero_le m) J1 L b hk1 h3) rfl (Nat.le_of_ble_eq_true rfl) ?_
  refine wp_bipush (v := (-100)) rfl rfl ?_
  refine wp_icmp_ne 14 rfl rfl (fun h11 => ?_) (fun h11 => ?_)
  · rw [if_neg h11] at hp
    refine wp_iconst (v := 0) rfl rfl ?_
    refine wp_istore_n (lv' := [(2, _), (0, _), (1, _)]) rfl rfl (by decide) rfl ?_
    refine wp_loc (lv' := [(0, _), (1, _), (2, _)]) [1, 2, 0] rfl ?_
    exact cfl hk1 10 0 0 [] o j es J1 _ rfl hD (Nat.zero_le m) hp (fun v w hv => ⟨J1, hI1, hv⟩)
  · rw [if_pos h11] at hp
    cases hp
    refine wp_iconst (v := (-1)) rfl rfl ?_
    exact wp_iret rfl rfl ⟨J1, hI1, J1, 0, rfl, fun _ => ⟨rfl, hD⟩, nofun⟩
