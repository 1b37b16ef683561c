/-! the plan, in the class: the two tables -/
theorem two10 {n : Nat} (h : n ≤ 10) : 2 ^ n ≤ 1024 := by
  have h1 : 2 ^ n ≤ 2 ^ 10 := Nat.pow_le_pow_right (by decide) h
  have h2 : 2 ^ 10 = 1024 := by decide
  omega
theorem fol_n {P : PL} {S m : Nat} (h : folB P S m = true) : S.testBit m = false := by
  unfold folB at h
  rw [Bool.and_eq_true] at h
  simpa using h.1
theorem fol_all {P : PL} {m : Nat} (hm : m < pN P) : folB P (allS P) m = false := by
  unfold folB allS
  rw [Nat.testBit_two_pow_sub_one]
  simp [hm]
theorem fst_le {P : PL} (hp : plok P) (h : Bool) (t : Nat) : fstN P h t ≤ 156 := by
  have := hp.2.2.2.1
  rcases fst_cap hp h t with z | z
  · have : 52 * pC P ≤ 52 * 3 := Nat.mul_le_mul_left _ this
    omega
  · omega
theorem lst_le {P : PL} (hp : plok P) (h : Bool) (v : Nat) : lstN P h v ≤ v := by
  cases hx : lstN P h v with
  | zero => exact Nat.zero_le _
  | succ x => have := (lst_real hp hx).1; omega
def upN (D : Nat → Nat) (T v : Nat) : Nat → Nat := fun x => if x = T then (if v < D T then v else D T) else D x
theorem upN_ne {D : Nat → Nat} {T v x : Nat} (h : x ≠ T) : upN D T v x = D x := if_neg h
theorem upN_s {D : Nat → Nat} {T v : Nat} : upN D T v T = if v < D T then v else D T := if_pos rfl
theorem upN_le {D : Nat → Nat} {T v : Nat} (x : Nat) : upN D T v x ≤ D x := by
  by_cases e : x = T
  · subst e
    rw [upN_s]
    split <;> omega
  · rw [upN_ne e]; exact Nat.le_refl _
theorem upN_T {D : Nat → Nat} {T v : Nat} : upN D T v T ≤ v := by
  rw [upN_s]
  split <;> omega
theorem upN_or (D : Nat → Nat) (T v : Nat) : upN D T v T = v ∨ upN D T v T = D T := by
  rw [upN_s]
  split
  · exact Or.inl rfl
  · exact Or.inr rfl
def CDi (P : PL) (i k : Nat) (D : Nat → Nat) : Prop := D 0 = 0 ∧ (∀ x, D x ≤ 157) ∧ (∀ S m, (S < i ∨ (S = i ∧ m < k)) → S < 2 ^ pN P → m < pN P → folB P S m = true → D (S ||| 2 ^ m) ≤ fstN P (pH P m) (D S) + 1) ∧ ∀ T, T < 2 ^ pN P → T ≠ 0 → D T = 157 ∨ ∃ S m, S ≤ i ∧ S < 2 ^ pN P ∧ m < pN P ∧ folB P S m = true ∧ T = S ||| 2 ^ m ∧ D T = fstN P (pH P m) (D S) + 1
theorem cd_0 (P : PL) : CDi P 0 0 (fun x => if x = 0 then 0 else 157) :=
  ⟨rfl, fun x => by dsimp only; split <;> omega, fun S m h => by omega, fun T _ h => Or.inl (if_neg h)⟩
theorem cd_no {P : PL} {i k : Nat} {D : Nat → Nat} (hf : ¬ folB P i k = true) (h : CDi P i k D) : CDi P i (k + 1) D := by
  obtain ⟨h1, h2, h3, h4⟩ := h
  refine ⟨h1, h2, fun S m hs hS hm hf2 => ?_, h4⟩
  rcases hs with a | ⟨a, b⟩
  · exact h3 S m (Or.inl a) hS hm hf2
  · rcases Nat.lt_or_ge m k with e | e
    · exact h3 S m (Or.inr ⟨a, e⟩) hS hm hf2
    · rw [a, show m = k by omega] at hf2
      exact absurd hf2 hf
theorem cd_up {P : PL} {i k : Nat} {D : Nat → Nat} (hp : plok P) (hi : i < 2 ^ pN P) (hk : k < pN P) (hf : folB P i k = true) (h : CDi P i k D) : CDi P i (k + 1) (upN D (i ||| 2 ^ k) (fstN P (pH P k) (D i) + 1)) := by
  obtain ⟨h1, h2, h3, h4⟩ := h
  have hlt : i < i ||| 2 ^ k := lt_or (fol_n hf)
  generalize hv : fstN P (pH P k) (D i) + 1 = v
  have hne : ∀ x, x ≤ i → upN D (i ||| 2 ^ k) v x = D x := fun x hx => upN_ne (by omega)
  refine ⟨by rw [hne 0 (Nat.zero_le _)]; exact h1, fun x => Nat.le_trans (upN_le x) (h2 x), fun S m hs hS hm hf2 => ?_, fun T hT hT0 => ?_⟩
  · have hSi : S ≤ i := by omega
    rw [hne S hSi]
    rcases hs with a | ⟨a, b⟩
    · exact Nat.le_trans (upN_le _) (h3 S m (Or.inl a) hS hm hf2)
    · rcases Nat.lt_or_ge m k with e | e
      · exact Nat.le_trans (upN_le _) (h3 S m (Or.inr ⟨a, e⟩) hS hm hf2)
      · have hmk : m = k := by omega
        rw [a, hmk, hv]
        exact upN_T
  · by_cases e : T = i ||| 2 ^ k
    · rcases upN_or D (i ||| 2 ^ k) v with z | z
      · exact Or.inr ⟨i, k, Nat.le_refl _, hi, hk, hf, e, by rw [hne i (Nat.le_refl _), e, z, hv]⟩
      · rcases h4 T hT hT0 with y | ⟨S, m, a1, a2, a3, a4, a5, a6⟩
        · exact Or.inl (by rw [e, z, ← e]; exact y)
        · exact Or.inr ⟨S, m, a1, a2, a3, a4, a5, by rw [hne S a1, ← a6, e, z]⟩
    · rcases h4 T hT hT0 with y | ⟨S, m, a1, a2, a3, a4, a5, a6⟩
      · exact Or.inl (by rw [upN_ne e]; exact y)
      · exact Or.inr ⟨S, m, a1, a2, a3, a4, a5, by rw [hne S a1, upN_ne e]; exact a6⟩
theorem cd_nx {P : PL} {i : Nat} {D : Nat → Nat} (h : CDi P i (pN P) D) : CDi P (i + 1) 0 D := by
  obtain ⟨h1, h2, h3, h4⟩ := h
  refine ⟨h1, h2, fun S m hs hS hm hf => h3 S m (by omega) hS hm hf, fun T hT hT0 => ?_⟩
  rcases h4 T hT hT0 with y | ⟨S, m, a1, a2⟩
  · exact Or.inl y
  · exact Or.inr ⟨S, m, by omega, a2⟩
theorem cd_end {P : PL} {D : Nat → Nat} (h : CDi P (allS P) 0 D) : CHD P D := by
  obtain ⟨h1, h2, h3, h4⟩ := h
  refine ⟨h1, fun S m hS hm hf => ?_, fun T hT hT0 => ?_⟩
  · have hne : S ≠ allS P := fun z => by rw [z, fol_all hm] at hf; cases hf
    have : S < allS P := by unfold allS at hne ⊢; omega
    exact h3 S m (Or.inl this) hS hm hf
  · rcases h4 T hT hT0 with y | ⟨S, m, a1, a2⟩
    · exact Or.inl y
    · exact Or.inr ⟨S, m, a2⟩
theorem PC_cg {P : PL} {I J : IF} (h : PC P I) (h1 : J 34 4 = I 34 4) (h2 : J 37 = I 37) (h3 : J 38 = I 38) : PC P J := by
  unfold PC
  rw [h1, h2, h3]
  exact h
theorem nI_min {a b : Nat} (ha : a < 2 ^ 31) (hb : b < 2 ^ 31) : (if nI b < nI a then nI b else nI a) = nI (if b < a then b else a) := by
  by_cases h : b < a
  · rw [if_pos h, if_pos (nI_lt h ha)]
  · rw [if_neg h, if_neg (nI_nlt (by omega) hb)]
theorem c_X5_findSoonest (G : Gl) (d : Nat) {P : PL} (hp : plok P) (I : IF) (L : LF) (b : Bool) (hI : PI P I) (hc : PC P I) : MQ2 G (d + 2) Y_X5_findSoonest [.ref 34, .ref 1] (I, L, RR b) (fun r w => r = none ∧ ∃ (J : IF) (D : Nat → Nat), w = (J, L, RR b) ∧ (∀ q, q ≠ 35 → J q = I q) ∧ (∀ S, S < 1024 → J 35 S = nI (D S)) ∧ CHD P D ∧ ∀ x, D x ≤ 157) := by
  generalize hQ : (fun (r : Option Value) (w : mW) => r = none ∧ ∃ (J : IF) (D : Nat → Nat), w = (J, L, RR b) ∧ (∀ q, q ≠ 35 → J q = I q) ∧ (∀ S, S < 1024 → J 35 S = nI (D S)) ∧ CHD P D ∧ ∀ x, D x ≤ 157) = Q
  obtain ⟨n1, n2, c1, c2, hfd⟩ := id hp
  have hall := all_lt P
  have h1024 := two10 n2
  have outer : ∀ (p i : Nat), i + p = allS P → ∀ (J : IF) (D : Nat → Nat), (∀ q, q ≠ 35 → J q = I q) → (∀ S, S < 1024 → J 35 S = nI (D S)) → CDi P i 0 D → WQ G (d + 2) Y_X5_findSoonest Q 14 [(0, .ref 34), (1, .ref 1), (2, .int (nI (allS P))), (3, .int (nI i))] [] (J, L, RR b) := by
    intro p
    induction p with
    | zero =>
      intro i hi J D f1 f2 f3
      have hie : i = allS P := by omega
      have hge : nI (allS P) ≤ nI i := nI_le (by omega) (by omega)
      refine wp_iload_n rfl rfl ?_
      refine wp_iload_n rfl rfl ?_
      refine wp_icmp_ge 65 rfl rfl (fun _ => ?_) (fun h16 => absurd hge h16)
      exact wp_vret rfl rfl (by rw [← hQ]; exact ⟨rfl, J, D, rfl, f1, f2, cd_end (by rw [← hie]; exact f3), f3.2.1⟩)
    | succ p ih =>
      intro i hi J D f1 f2 f3
      have hlt : ¬ nI (allS P) ≤ nI i := nI_ge (by omega) (by omega)
      have inner : ∀ (p k : Nat), k + p = pN P → ∀ (J : IF) (D : Nat → Nat), (∀ q, q ≠ 35 → J q = I q) → (∀ S, S < 1024 → J 35 S = nI (D S)) → CDi P i k D → WQ G (d + 2) Y_X5_findSoonest Q 19 [(0, .ref 34), (1, .ref 1), (2, .int (nI (allS P))), (3, .int (nI i)), (4, .int (nI k))] [] (J, L, RR b) := by
        intro p
        induction p with
        | zero =>
          intro k hk J D f1 f2 f3
          have hke : k = pN P := by omega
          subst hke
          have hge : J 1 2 ≤ nI (pN P) := by rw [f1 1 (by omega), hI.1]; exact nI_le (Nat.le_refl _) (by omega)
          refine wp_iload rfl rfl ?_
          refine wp_aload_n rfl rfl ?_
          refine q_geti rfl rfl (by first | rfl | assumption) rfl ?_
          refine wp_icmp_ge 63 rfl rfl (fun _ => ?_) (fun h22 => absurd hge h22)
          refine wp_iinc (v := nI (i + 1)) (lv' := [(3, _), (0, _), (1, _), (2, _), (4, _)]) rfl rfl (nI_1 i) (by decide) rfl ?_
          refine wp_goto 14 rfl rfl ?_
          refine wp_loc (lv' := [(0, _), (1, _), (2, _), (3, _)]) [1, 2, 3, 0] rfl ?_
          exact ih (i + 1) (by omega) J D f1 f2 (cd_nx f3)
        | succ p ihp =>
          intro k hk J D f1 f2 f3
          have hlt2 : ¬ J 1 2 ≤ nI k := by rw [f1 1 (by omega), hI.1]; exact nI_ge (by omega) (by omega)
          have hsk := sh_mast k (by omega)
          have hPJ : PI P J := PI_cg hI (f1 1 (by omega)) (fun m k hm _ _ => by rw [f1 (4 + m) (by omega)]) n2
          have hCJ : PC P J := PC_cg hc (by rw [f1 34 (by omega)]) (f1 37 (by omega)) (f1 38 (by omega))
          have hhi : J (4 + k) 4 = b2 (pH P k = true) := (hPJ.2 k (by omega)).1
          have hin : vp_in (nI i) 1024 := vp_in_nI (by omega) (by omega)
          have e35 : J 35 (nI i).toNatClampNeg = nI (D i) := by rw [nI_clamp (by omega)]; exact f2 i (by omega)
          have hT : i ||| 2 ^ k < 2 ^ pN P := or_lt (by omega) (Nat.pow_lt_pow_right (by decide) (by omega))
          have hin2 : vp_in (nI (i ||| 2 ^ k)) 1024 := vp_in_nI (by omega) (by omega)
          have hclT : (nI (i ||| 2 ^ k)).toNatClampNeg = i ||| 2 ^ k := nI_clamp (by omega)
          have e35T : J 35 (nI (i ||| 2 ^ k)).toNatClampNeg = nI (D (i ||| 2 ^ k)) := by rw [hclT]; exact f2 _ (by omega)
          have hD157 := f3.2.1
          have hfle := fst_le hp (pH P k) (D i)
          have hmin := nI_min (a := D (i ||| 2 ^ k)) (b := fstN P (pH P k) (D i) + 1) (by have := hD157 (i ||| 2 ^ k); omega) (by omega)
          refine wp_iload rfl rfl ?_
          refine wp_aload_n rfl rfl ?_
          refine q_geti rfl rfl (by first | rfl | assumption) rfl ?_
          refine wp_icmp_ge 63 rfl rfl (fun h22 => absurd h22 hlt2) (fun _ => ?_)
          refine wp_aload_n rfl rfl ?_
          refine q_getr rfl rfl (by first | rfl | assumption) rfl rfl ?_
          refine wp_iload rfl rfl ?_
          refine q_mast rfl rfl (by omega) ?_
          refine wp_iload rfl rfl ?_
          refine wp_iload_n rfl rfl ?_
          refine cS1 rfl l_5_76 s_X5_canFollow m_X5_canFollow (c_X5_canFollow G _ hp _ _ _ hPJ (by omega)) rfl (Nat.le_of_ble_eq_true rfl) ?_
          refine wp_if_eq 61 rfl rfl (fun h30 => ?_) (fun h30 => ?_)
          · refine wp_iinc (v := nI (k + 1)) (lv' := [(4, _), (0, _), (1, _), (2, _), (3, _)]) rfl rfl (nI_1 k) (by decide) rfl ?_
            refine wp_goto 19 rfl rfl ?_
            refine wp_loc (lv' := [(0, _), (1, _), (2, _), (3, _), (4, _)]) [1, 2, 3, 4, 0] rfl ?_
            first
            | exact ihp (k + 1) (by omega) J D f1 f2 (cd_no (b2_eq.mp h30) f3)
            | (rw [hclT]
               refine ihp (k + 1) (by omega) _ (upN D (i ||| 2 ^ k) (fstN P (pH P k) (D i) + 1)) (fun q hq => by rw [uI_fn hq]; exact f1 q hq) (fun S hS => ?_) (cd_up hp (by omega) (by omega) (b2_ne.mp h30) f3)
               by_cases e : S = i ||| 2 ^ k
               · rw [e, uI_eq, upN_s]
               · rw [uI_nk e, upN_ne e]; exact f2 S hS)
          · refine wp_iload_n rfl rfl ?_
            refine wp_iconst (v := 1) rfl rfl ?_
            refine wp_iload rfl rfl ?_
            refine wp_ishl rfl ?_
            refine wp_ior rfl ?_
            rw [nI_bit (by omega)]
            refine wp_istore (lv' := [(5, _), (0, _), (1, _), (2, _), (3, _), (4, _)]) rfl (by decide) rfl ?_
            refine wp_aload_n rfl rfl ?_
            refine wp_aload_n rfl rfl ?_
            refine q_getr rfl rfl (by first | rfl | assumption) rfl rfl ?_
            refine wp_iload rfl rfl ?_
            refine q_mast rfl rfl (by omega) ?_
            refine q_geti rfl rfl (by first | rfl | assumption) rfl ?_
            rw [hhi]
            refine wp_aload_n rfl rfl ?_
            refine q_getr rfl rfl (by first | rfl | assumption) rfl rfl ?_
            refine wp_iload_n rfl rfl ?_
            refine q_iald rfl (by first | rfl | assumption) hin ?_
            rw [e35]
            refine cV1 rfl l_5_84 i_X5_firstTurn m_X5_firstTurn (by first | rfl | assumption) (by decide) (c_X5_firstTurn G _ hp _ _ _ _ hCJ (hD157 i)) rfl (Nat.le_of_ble_eq_true rfl) ?_
            refine wp_istore (lv' := [(6, _), (5, _), (0, _), (1, _), (2, _), (3, _), (4, _)]) rfl (by decide) rfl ?_
            refine wp_aload_n rfl rfl ?_
            refine q_getr rfl rfl (by first | rfl | assumption) rfl rfl ?_
            refine wp_iload rfl rfl ?_
            refine wp_aload_n rfl rfl ?_
            refine q_getr rfl rfl (by first | rfl | assumption) rfl rfl ?_
            refine wp_iload rfl rfl ?_
            refine q_iald rfl (by first | rfl | assumption) hin2 ?_
            rw [e35T]
            refine wp_iload rfl rfl ?_
            refine wp_iconst (v := 1) rfl rfl ?_
            refine wp_iadd rfl ?_
            rw [nI_1]
            refine q_mmin rfl l_5_88 (Nat.le_of_ble_eq_true rfl) ?_
            rw [hmin]
            refine q_iast rfl (by first | rfl | assumption) hin2 ?_
            refine wp_iinc (v := nI (k + 1)) (lv' := [(4, _), (6, _), (5, _), (0, _), (1, _), (2, _), (3, _)]) rfl rfl (nI_1 k) (by decide) rfl ?_
            refine wp_goto 19 rfl rfl ?_
            refine wp_loc (lv' := [(0, _), (1, _), (2, _), (3, _), (4, _)]) [3, 4, 5, 6, 0] rfl ?_
            first
            | exact ihp (k + 1) (by omega) J D f1 f2 (cd_no (b2_eq.mp h30) f3)
            | (rw [hclT]
               refine ihp (k + 1) (by omega) _ (upN D (i ||| 2 ^ k) (fstN P (pH P k) (D i) + 1)) (fun q hq => by rw [uI_fn hq]; exact f1 q hq) (fun S hS => ?_) (cd_up hp (by omega) (by omega) (b2_ne.mp h30) f3)
               by_cases e : S = i ||| 2 ^ k
               · rw [e, uI_eq, upN_s]
               · rw [uI_nk e, upN_ne e]; exact f2 S hS)
      refine wp_iload_n rfl rfl ?_
      refine wp_iload_n rfl rfl ?_
      refine wp_icmp_ge 65 rfl rfl (fun h16 => absurd h16 hlt) (fun _ => ?_)
      refine wp_iconst (v := 0) rfl rfl ?_
      refine wp_istore (lv' := [(4, _), (0, _), (1, _), (2, _), (3, _)]) rfl (by decide) rfl ?_
      refine wp_loc (lv' := [(0, _), (1, _), (2, _), (3, _), (4, _)]) [1, 2, 3, 4, 0] rfl ?_
      exact inner (pN P) 0 (by omega) J D f1 f2 f3
  have hin0 : vp_in (0 : Int32) 1024 := vp_in_nI (n := 0) (by omega) (by omega)
  refine MT.intro m_X5_findSoonest rfl (Nat.le_of_ble_eq_true rfl) ?_
  show WQ G (d + 2) Y_X5_findSoonest Q 0 [(0, .ref 34), (1, .ref 1)] [] (I, L, RR b)
  refine wp_aload_n rfl rfl ?_
  refine cS1 rfl l_5_41 s_X5_allOf m_X5_allOf (c_X5_allOf G _ hp _ _ _ hI) rfl (Nat.le_of_ble_eq_true rfl) ?_
  refine wp_istore_n (lv' := [(2, _), (0, _), (1, _)]) rfl rfl (by decide) rfl ?_
  refine wp_aload_n rfl rfl ?_
  refine q_getr rfl rfl (by first | rfl | assumption) rfl rfl ?_
  refine wp_sipush (v := 157) rfl rfl ?_
  refine cS0 rfl l_5_66 s_J7_fill_53178 m_J7_fill_53178 (c_fillI G _ (a := 35) (len := 1024) _ _ _ _ rfl (by decide)) rfl (Nat.le_of_ble_eq_true rfl) ?_
  refine wp_aload_n rfl rfl ?_
  refine q_getr rfl rfl (by first | rfl | assumption) rfl rfl ?_
  refine wp_iconst (v := 0) rfl rfl ?_
  refine wp_iconst (v := 0) rfl rfl ?_
  refine q_iast rfl (by first | rfl | assumption) hin0 ?_
  refine wp_iconst (v := 0) rfl rfl ?_
  refine wp_istore_n (lv' := [(3, _), (2, _), (0, _), (1, _)]) rfl rfl (by decide) rfl ?_
  refine wp_loc (lv' := [(0, _), (1, _), (2, _), (3, _)]) [2, 3, 1, 0] rfl ?_
  refine outer (allS P) 0 (by omega) _ (fun x => if x = 0 then 0 else 157) (fun q hq => ?_) (fun S hS => ?_) (cd_0 P)
  · rw [uI_fn hq]; funext k; unfold flI; rw [if_neg (fun z => hq z.1)]
  · show uI _ 35 0 0 35 S = _
    by_cases e : S = 0
    · rw [e, uI_eq, if_pos rfl]; rfl
    · rw [uI_nk e, if_neg e]; unfold flI; rw [if_pos ⟨rfl, hS⟩]; rfl
/-! the last turns -/
def mxN (D : Nat → Nat) (T v : Nat) : Nat → Nat := fun x => if x = T then (if D T < v then v else D T) else D x
theorem mxN_ne {D : Nat → Nat} {T v x : Nat} (h : x ≠ T) : mxN D T v x = D x := if_neg h
theorem mxN_s {D : Nat → Nat} {T v : Nat} : mxN D T v T = if D T < v then v else D T := if_pos rfl
def CLi (P : PL) (W i k : Nat) (L : Nat → Nat) : Prop := L (allS P) = W * pC P + 1 ∧ (∀ x, L x ≤ W * pC P + 1) ∧ (∀ S, S < i → L S = 0) ∧ (∀ S m, (i < S ∨ (S = i ∧ m < k)) → S < 2 ^ pN P → m < pN P → folB P S m = true → lstN P (pH P m) (L (S ||| 2 ^ m)) ≤ L S) ∧ ∀ S, S < 2 ^ pN P → S ≠ allS P → L S = 0 ∨ ∃ m, m < pN P ∧ folB P S m = true ∧ L S = lstN P (pH P m) (L (S ||| 2 ^ m))
theorem cl_0 (P : PL) (W : Nat) : CLi P W (allS P) (pN P) (fun x => if x = allS P then W * pC P + 1 else 0) := by
  refine ⟨if_pos rfl, fun x => ?_, fun S h => if_neg (by omega), fun S m h hS hm hf => ?_, fun S _ h => Or.inl (if_neg h)⟩
  · dsimp only
    split <;> omega
  · have : S = allS P := by unfold allS at h ⊢; omega
    rw [this, fol_all hm] at hf
    cases hf
theorem cl_no {P : PL} {W i k : Nat} {L : Nat → Nat} (hf : ¬ folB P i k = true) (h : CLi P W i k L) : CLi P W i (k + 1) L := by
  obtain ⟨h1, h2, h3, h4, h5⟩ := h
  refine ⟨h1, h2, h3, fun S m hs hS hm hf2 => ?_, h5⟩
  rcases hs with a | ⟨a, b⟩
  · exact h4 S m (Or.inl a) hS hm hf2
  · rcases Nat.lt_or_ge m k with e | e
    · exact h4 S m (Or.inr ⟨a, e⟩) hS hm hf2
    · rw [a, show m = k by omega] at hf2
      exact absurd hf2 hf
theorem cl_up {P : PL} {W i k : Nat} {L : Nat → Nat} (hp : plok P) (hi : i < 2 ^ pN P) (hia : i ≠ allS P) (hk : k < pN P) (hf : folB P i k = true) (h : CLi P W i k L) : CLi P W i (k + 1) (mxN L i (lstN P (pH P k) (L (i ||| 2 ^ k)))) := by
  obtain ⟨h1, h2, h3, h4, h5⟩ := h
  generalize hv : lstN P (pH P k) (L (i ||| 2 ^ k)) = v
  have hvb : v ≤ W * pC P + 1 := by rw [← hv]; exact Nat.le_trans (lst_le hp _ _) (h2 _)
  have hgt : ∀ S m, i ≤ S → folB P S m = true → mxN L i v (S ||| 2 ^ m) = L (S ||| 2 ^ m) := fun S m hS hf => mxN_ne (by have := lt_or (fol_n hf); omega)
  refine ⟨by rw [mxN_ne (fun z => hia z.symm)]; exact h1, fun x => ?_, fun S hS => by rw [mxN_ne (by omega)]; exact h3 S hS, fun S m hs hS hm hf2 => ?_, fun S hS hSa => ?_⟩
  · by_cases e : x = i
    · subst e
      rw [mxN_s]
      have := h2 x
      split <;> omega
    · rw [mxN_ne e]; exact h2 x
  · rw [hgt S m (by omega) hf2]
    by_cases e : S = i
    · subst e
      rw [mxN_s]
      rcases Nat.lt_or_ge m k with e2 | e2
      · have := h4 S m (Or.inr ⟨rfl, e2⟩) hS hm hf2
        split <;> omega
      · rw [show m = k by omega, hv]
        split <;> omega
    · rw [mxN_ne e]
      exact h4 S m (by omega) hS hm hf2
  · by_cases e : S = i
    · subst e
      rw [mxN_s]
      split
      · exact Or.inr ⟨k, hk, hf, by rw [hgt S k (Nat.le_refl _) hf, hv]⟩
      · rcases h5 S hS hSa with y | ⟨m, a1, a2, a3⟩
        · exact Or.inl y
        · exact Or.inr ⟨m, a1, a2, by rw [hgt S m (Nat.le_refl _) a2]; exact a3⟩
    · rw [mxN_ne e]
      rcases Nat.lt_or_ge S i with e2 | e2
      · exact Or.inl (h3 S e2)
      · rcases h5 S hS hSa with y | ⟨m, a1, a2, a3⟩
        · exact Or.inl y
        · exact Or.inr ⟨m, a1, a2, by rw [hgt S m e2 a2]; exact a3⟩
theorem cl_nx {P : PL} {W i : Nat} {L : Nat → Nat} (h : CLi P W (i + 1) (pN P) L) : CLi P W i 0 L := by
  obtain ⟨h1, h2, h3, h4, h5⟩ := h
  exact ⟨h1, h2, fun S hS => h3 S (by omega), fun S m hs hS hm hf => h4 S m (by omega) hS hm hf, h5⟩
theorem cl_end {P : PL} {W : Nat} {L : Nat → Nat} (h : CLi P W 0 (pN P) L) : CHL P W L := by
  obtain ⟨h1, h2, h3, h4, h5⟩ := h
  exact ⟨h1, fun S m hS hm hf => h4 S m (by omega) hS hm hf, h5⟩
theorem zI_max {a b : Nat} (ha : a < 2 ^ 30) (hb : b < 2 ^ 30) : (if zI a < zI b then zI b else zI a) = zI (if a < b then b else a) := by
  by_cases h : a < b
  · rw [if_pos h, if_pos ((zI_ltz ha hb).mpr h)]
  · rw [if_neg h, if_neg (fun z => h ((zI_ltz ha hb).mp z))]
theorem c_X5_findLatest (G : Gl) (d : Nat) {P : PL} (hp : plok P) {W : Nat} (hW : W ≤ 52) (I : IF) (L : LF) (b : Bool) (hI : PI P I) (hc : PC P I) : MQ2 G (d + 2) Y_X5_findLatest [.ref 34, .ref 1, .int (nI W)] (I, L, RR b) (fun r w => r = none ∧ ∃ (J : IF) (D : Nat → Nat), w = (J, L, RR b) ∧ (∀ q, q ≠ 36 → J q = I q) ∧ (∀ S, S < 1024 → J 36 S = zI (D S)) ∧ CHL P W D ∧ ∀ x, D x ≤ W * pC P + 1) := by
  generalize hQ : (fun (r : Option Value) (w : mW) => r = none ∧ ∃ (J : IF) (D : Nat → Nat), w = (J, L, RR b) ∧ (∀ q, q ≠ 36 → J q = I q) ∧ (∀ S, S < 1024 → J 36 S = zI (D S)) ∧ CHL P W D ∧ ∀ x, D x ≤ W * pC P + 1) = Q
  obtain ⟨n1, n2, c1, c2, hfd⟩ := id hp
  have hall := all_lt P
  have h1024 := two10 n2
  have hWc : W * pC P ≤ 52 * pC P := Nat.mul_le_mul_right _ hW
  have hWc2 : 52 * pC P ≤ 156 := by omega
  have outer : ∀ (i : Nat), i ≤ allS P → ∀ (J : IF) (D : Nat → Nat), (∀ q, q ≠ 36 → J q = I q) → (∀ S, S < 1024 → J 36 S = zI (D S)) → CLi P W i (pN P) D → WQ G (d + 2) Y_X5_findLatest Q 19 [(0, .ref 34), (1, .ref 1), (2, .int (nI W)), (3, .int (nI (allS P))), (4, .int (zI i))] [] (J, L, RR b) := by
    intro i
    induction i with
    | zero =>
      intro hi J D f1 f2 f3
      refine wp_iload rfl rfl ?_
      refine wp_if_lt 67 rfl rfl (fun _ => ?_) (fun h20 => absurd (show zI 0 < 0 by decide) h20)
      exact wp_vret rfl rfl (by rw [← hQ]; exact ⟨rfl, J, D, rfl, f1, f2, cl_end f3, f3.2.1⟩)
    | succ i ih =>
      intro hi J D f1 f2 f3
      rw [zI_s]
      have hge : ¬ nI i < (0 : Int32) := nI_pos (by omega)
      have hdec : nI i + Int32.ofInt (-1) = zI i := by rw [show Int32.ofInt (-1) = (-1 : Int32) from rfl]; unfold zI; grind
      have inner : ∀ (p k : Nat), k + p = pN P → ∀ (J : IF) (D : Nat → Nat), (∀ q, q ≠ 36 → J q = I q) → (∀ S, S < 1024 → J 36 S = zI (D S)) → CLi P W i k D → WQ G (d + 2) Y_X5_findLatest Q 23 [(0, .ref 34), (1, .ref 1), (2, .int (nI W)), (3, .int (nI (allS P))), (4, .int (nI i)), (5, .int (nI k))] [] (J, L, RR b) := by
        intro p
        induction p with
        | zero =>
          intro k hk J D f1 f2 f3
          have hke : k = pN P := by omega
          subst hke
          have hge : J 1 2 ≤ nI (pN P) := by rw [f1 1 (by omega), hI.1]; exact nI_le (Nat.le_refl _) (by omega)
          refine wp_iload rfl rfl ?_
          refine wp_aload_n rfl rfl ?_
          refine q_geti rfl rfl (by first | rfl | assumption) rfl ?_
          refine wp_icmp_ge 65 rfl rfl (fun _ => ?_) (fun h26 => absurd hge h26)
          refine wp_iinc (v := zI i) (lv' := [(4, _), (0, _), (1, _), (2, _), (3, _), (5, _)]) rfl rfl (hdec) (by decide) rfl ?_
          refine wp_goto 19 rfl rfl ?_
          refine wp_loc (lv' := [(0, _), (1, _), (2, _), (3, _), (4, _)]) [1, 2, 3, 4, 0] rfl ?_
          exact ih (by omega) J D f1 f2 f3
        | succ p ihp =>
          intro k hk J D f1 f2 f3
          have hlt2 : ¬ J 1 2 ≤ nI k := by rw [f1 1 (by omega), hI.1]; exact nI_ge (by omega) (by omega)
          have hsk := sh_mast k (by omega)
          have hPJ : PI P J := PI_cg hI (f1 1 (by omega)) (fun m k hm _ _ => by rw [f1 (4 + m) (by omega)]) n2
          have hCJ : PC P J := PC_cg hc (by rw [f1 34 (by omega)]) (f1 37 (by omega)) (f1 38 (by omega))
          have hhi : J (4 + k) 4 = b2 (pH P k = true) := (hPJ.2 k (by omega)).1
          have hin : vp_in (nI i) 1024 := vp_in_nI (by omega) (by omega)
          have hcl : (nI i).toNatClampNeg = i := nI_clamp (by omega)
          have e36 : J 36 (nI i).toNatClampNeg = zI (D i) := by rw [hcl]; exact f2 i (by omega)
          have hT : i ||| 2 ^ k < 2 ^ pN P := or_lt (by omega) (Nat.pow_lt_pow_right (by decide) (by omega))
          have hin2 : vp_in (nI (i ||| 2 ^ k)) 1024 := vp_in_nI (by omega) (by omega)
          have e36T : J 36 (nI (i ||| 2 ^ k)).toNatClampNeg = zI (D (i ||| 2 ^ k)) := by rw [nI_clamp (by omega)]; exact f2 _ (by omega)
          have hDb := f3.2.1
          have hvb := Nat.le_trans (lst_le hp (pH P k) (D (i ||| 2 ^ k))) (hDb _)
          have hmax := zI_max (a := D i) (b := lstN P (pH P k) (D (i ||| 2 ^ k))) (by have := hDb i; omega) (by omega)
          refine wp_iload rfl rfl ?_
          refine wp_aload_n rfl rfl ?_
          refine q_geti rfl rfl (by first | rfl | assumption) rfl ?_
          refine wp_icmp_ge 65 rfl rfl (fun h26 => absurd h26 hlt2) (fun _ => ?_)
          refine wp_aload_n rfl rfl ?_
          refine q_getr rfl rfl (by first | rfl | assumption) rfl rfl ?_
          refine wp_iload rfl rfl ?_
          refine q_mast rfl rfl (by omega) ?_
          refine wp_iload rfl rfl ?_
          refine wp_iload rfl rfl ?_
          refine cS1 rfl l_5_76 s_X5_canFollow m_X5_canFollow (c_X5_canFollow G _ hp _ _ _ hPJ (by omega)) rfl (Nat.le_of_ble_eq_true rfl) ?_
          refine wp_if_eq 63 rfl rfl (fun h34 => ?_) (fun h34 => ?_)
          · refine wp_iinc (v := nI (k + 1)) (lv' := [(5, _), (0, _), (1, _), (2, _), (3, _), (4, _)]) rfl rfl (nI_1 k) (by decide) rfl ?_
            refine wp_goto 23 rfl rfl ?_
            refine wp_loc (lv' := [(0, _), (1, _), (2, _), (3, _), (4, _), (5, _)]) [1, 2, 3, 4, 5, 0] rfl ?_
            first
            | exact ihp (k + 1) (by omega) J D f1 f2 (cl_no (b2_eq.mp h34) f3)
            | (rw [hcl]
               refine ihp (k + 1) (by omega) _ (mxN D i (lstN P (pH P k) (D (i ||| 2 ^ k)))) (fun q hq => by rw [uI_fn hq]; exact f1 q hq) (fun S hS => ?_) (cl_up hp (by omega) (by omega) (by omega) (b2_ne.mp h34) f3)
               by_cases e : S = i
               · rw [e, uI_eq, mxN_s]
               · rw [uI_nk e, mxN_ne e]; exact f2 S hS)
          · refine wp_aload_n rfl rfl ?_
            refine wp_aload_n rfl rfl ?_
            refine q_getr rfl rfl (by first | rfl | assumption) rfl rfl ?_
            refine wp_iload rfl rfl ?_
            refine q_mast rfl rfl (by omega) ?_
            refine q_geti rfl rfl (by first | rfl | assumption) rfl ?_
            rw [hhi]
            refine wp_aload_n rfl rfl ?_
            refine q_getr rfl rfl (by first | rfl | assumption) rfl rfl ?_
            refine wp_iload rfl rfl ?_
            refine wp_iconst (v := 1) rfl rfl ?_
            refine wp_iload rfl rfl ?_
            refine wp_ishl rfl ?_
            refine wp_ior rfl ?_
            rw [nI_bit (by omega)]
            refine q_iald rfl (by first | rfl | assumption) hin2 ?_
            rw [e36T]
            refine wp_iconst (v := 1) rfl rfl ?_
            refine wp_isub rfl ?_
            refine cV1 rfl l_5_94 i_X5_lastTurn m_X5_lastTurn (by first | rfl | assumption) (by decide) (c_X5_lastTurn G _ hp _ _ _ _ hCJ (by have := hDb (i ||| 2 ^ k); omega)) rfl (Nat.le_of_ble_eq_true rfl) ?_
            refine wp_istore (lv' := [(6, _), (0, _), (1, _), (2, _), (3, _), (4, _), (5, _)]) rfl (by decide) rfl ?_
            refine wp_aload_n rfl rfl ?_
            refine q_getr rfl rfl (by first | rfl | assumption) rfl rfl ?_
            refine wp_iload rfl rfl ?_
            refine wp_aload_n rfl rfl ?_
            refine q_getr rfl rfl (by first | rfl | assumption) rfl rfl ?_
            refine wp_iload rfl rfl ?_
            refine q_iald rfl (by first | rfl | assumption) hin ?_
            rw [e36]
            refine wp_iload rfl rfl ?_
            refine q_mmax rfl l_5_97 (Nat.le_of_ble_eq_true rfl) ?_
            rw [hmax]
            refine q_iast rfl (by first | rfl | assumption) hin ?_
            refine wp_iinc (v := nI (k + 1)) (lv' := [(5, _), (6, _), (0, _), (1, _), (2, _), (3, _), (4, _)]) rfl rfl (nI_1 k) (by decide) rfl ?_
            refine wp_goto 23 rfl rfl ?_
            refine wp_loc (lv' := [(0, _), (1, _), (2, _), (3, _), (4, _), (5, _)]) [2, 3, 4, 5, 6, 0] rfl ?_
            first
            | exact ihp (k + 1) (by omega) J D f1 f2 (cl_no (b2_eq.mp h34) f3)
            | (rw [hcl]
               refine ihp (k + 1) (by omega) _ (mxN D i (lstN P (pH P k) (D (i ||| 2 ^ k)))) (fun q hq => by rw [uI_fn hq]; exact f1 q hq) (fun S hS => ?_) (cl_up hp (by omega) (by omega) (by omega) (b2_ne.mp h34) f3)
               by_cases e : S = i
               · rw [e, uI_eq, mxN_s]
               · rw [uI_nk e, mxN_ne e]; exact f2 S hS)
      refine wp_iload rfl rfl ?_
      refine wp_if_lt 67 rfl rfl (fun h20 => absurd h20 hge) (fun _ => ?_)
      refine wp_iconst (v := 0) rfl rfl ?_
      refine wp_istore (lv' := [(5, _), (0, _), (1, _), (2, _), (3, _), (4, _)]) rfl (by decide) rfl ?_
      refine wp_loc (lv' := [(0, _), (1, _), (2, _), (3, _), (4, _), (5, _)]) [1, 2, 3, 4, 5, 0] rfl ?_
      exact inner (pN P) 0 (by omega) J D f1 f2 (cl_nx f3)
  have hinA : vp_in (nI (allS P)) 1024 := vp_in_nI (by omega) (by omega)
  have hclA : (nI (allS P)).toNatClampNeg = allS P := nI_clamp (by omega)
  have hm : ∀ J : IF, J 34 4 = I 34 4 → nI W * J 34 4 = zI (W * pC P + 1) := fun J hJ => by rw [hJ, hc.1, nI_mul2, zI_s]
  refine MT.intro m_X5_findLatest rfl (Nat.le_of_ble_eq_true rfl) ?_
  show WQ G (d + 2) Y_X5_findLatest Q 0 [(0, .ref 34), (1, .ref 1), (2, .int (nI W))] [] (I, L, RR b)
  refine wp_aload_n rfl rfl ?_
  refine cS1 rfl l_5_41 s_X5_allOf m_X5_allOf (c_X5_allOf G _ hp _ _ _ hI) rfl (Nat.le_of_ble_eq_true rfl) ?_
  refine wp_istore_n (lv' := [(3, _), (0, _), (1, _), (2, _)]) rfl rfl (by decide) rfl ?_
  refine wp_aload_n rfl rfl ?_
  refine q_getr rfl rfl (by first | rfl | assumption) rfl rfl ?_
  refine wp_iconst (v := (-1)) rfl rfl ?_
  refine cS0 rfl l_5_66 s_J7_fill_53178 m_J7_fill_53178 (c_fillI G _ (a := 36) (len := 1024) _ _ _ _ rfl (by decide)) rfl (Nat.le_of_ble_eq_true rfl) ?_
  refine wp_aload_n rfl rfl ?_
  refine q_getr rfl rfl (by first | rfl | assumption) rfl rfl ?_
  refine wp_iload_n rfl rfl ?_
  refine wp_iload_n rfl rfl ?_
  refine wp_aload_n rfl rfl ?_
  refine q_geti rfl rfl (by first | rfl | assumption) rfl ?_
  refine wp_imul rfl ?_
  rw [hm _ (by unfold flI; rw [if_neg (by omega)])]
  refine q_iast rfl (by first | rfl | assumption) hinA ?_
  refine wp_iload_n rfl rfl ?_
  refine wp_iconst (v := 1) rfl rfl ?_
  refine wp_isub rfl ?_
  rw [show nI (allS P) - 1 = zI (allS P) from rfl]
  refine wp_istore (lv' := [(4, _), (3, _), (0, _), (1, _), (2, _)]) rfl (by decide) rfl ?_
  refine wp_loc (lv' := [(0, _), (1, _), (2, _), (3, _), (4, _)]) [2, 3, 4, 1, 0] rfl ?_
  rw [hclA]
  refine outer (allS P) (Nat.le_refl _) _ (fun x => if x = allS P then W * pC P + 1 else 0) (fun q hq => ?_) (fun S hS => ?_) (cl_0 P W)
  · rw [uI_fn hq]; funext k; unfold flI; rw [if_neg (fun z => hq z.1)]
  · by_cases e : S = allS P
    · rw [e, uI_eq, if_pos rfl]
    · rw [uI_nk e, if_neg e]; unfold flI; rw [if_pos ⟨rfl, hS⟩]; rfl
