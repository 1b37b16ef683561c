/-! channels: near senders and the channels that stay, in the class -/
/-- what the search looks at, of both sides: it stands also where the rest does not agree yet -/
def IW (nm na nr : Nat) (I : IF) : Prop := IVc nm na nr I ∧ IVm I ∧ IVa I ∧ IVl nm nr I ∧ (I 72 10 = I 1 7 ∧ 1 ≤ I 1 7 ∧ I 1 7 ≤ 100)
theorem IV.toW {nm na nr : Nat} {I : IF} {L : LF} (h : IV nm na nr I L) : IW nm na nr I := ⟨h.1, h.2.2.1, h.2.2.2.2.2.2.2.1, h.2.2.2.2.2.2.2.2.1, h.2.1.2.2.1⟩
theorem sq_neW {nm na nr : Nat} {I : IF} (h : IW nm na nr I) {m a : Nat} (hm : m < 14) (ha : a < 16) : ¬ sqD (I (4 + m) 0) (I (4 + m) 1) (I (18 + a) 0) (I (18 + a) 1) = 0 := by
  have z := h.2.1 m hm
  have y := h.2.2.1 a ha
  have := sqD_pos z.2.1 z.2.2.1 y.2.1 y.2.2.1
  grind
theorem stg_mW {nm na nr : Nat} {I : IF} (h : IW nm na nr I) {m a : Nat} (hm : m < 14) (ha : a < 16) : strg (I 79 m) (I 77 m) (I 78 m) (I 86 a) (I 87 a) = stg I m a ∧ sqD (I 77 m) (I 78 m) (I 86 a) (I 87 a) = sqD (I (4 + m) 0) (I (4 + m) 1) (I (18 + a) 0) (I (18 + a) 1) := by
  have z := h.2.1 m hm
  have y := h.2.2.1 a ha
  unfold stg
  rw [z.1.1, z.1.2.1, z.1.2.2.1, y.1.1, y.1.2.1]
  exact ⟨rfl, rfl⟩
theorem stg_bW {nm na nr : Nat} {I : IF} (h : IW nm na nr I) {m a : Nat} (hm : m < 14) (ha : a < 16) : ∃ q : Nat, q ≤ 1000000 ∧ stg I m a = nI q := by
  have z := h.2.1 m hm
  have y := h.2.2.1 a ha
  have hq := sqD_pos z.2.1 z.2.2.1 y.2.1 y.2.2.1
  obtain ⟨p, p1, p2⟩ := nI_of2 (M := 10000) (n := 10000) rfl (by grind) z.2.2.2.1.2
  obtain ⟨q, q1, q2⟩ := nI_of2 (M := 20010) (n := 20010) rfl (by grind) hq.2
  have q3 : 10 ≤ q := (nI_leI (a := 10) (b := q) (by omega) (by omega)).mp (by rw [← q2]; exact hq.1)
  unfold stg strg
  rw [p2, q2, show (1000 : Int32) = nI 1000 from rfl, pk_mul, pk_div (by omega) (by omega) (by omega)]
  refine ⟨1000 * p / q, ?_, rfl⟩
  exact Nat.le_trans (Nat.div_le_div_left q3 (by omega)) (by omega)
theorem d_strengthAtW (G : Gl) (d : Nat) {nm na nr m a : Nat} {I : IF} {L : LF} (R : RF) (h : IW nm na nr I) (hm : m < 14) (ha : a < 16) : MD G d Y_X4_strengthAt [.ref (4 + m), .ref (18 + a)] (I, L, R) (some (.int (stg I m a))) (I, L, R) :=
  c_X4_strengthAt G d (4 + m) (18 + a) I L R (sh_mast m hm) (sh_area a ha) (sq_neW h hm ha)
theorem d_atW (G : Gl) (d : Nat) {nm na nr m a : Nat} {I : IF} {L : LF} (b : Bool) (h : IW nm na nr I) (hm : m < 14) (ha : a < 16) {x y : Int32} (hx : x = nI m) (hy : y = nI a) : MD G d Y_X11_at [.ref 72, .int x, .int y] (I, L, RR b) (some (.int (stg I m a))) (I, L, RR b) := by
  subst hx
  subst hy
  have c1 : (nI m).toNatClampNeg = m := nI_clamp (by omega)
  have c2 : (nI a).toNatClampNeg = a := nI_clamp (by omega)
  have k := c_X11_at G d (nI m) (nI a) I L b (vp_in_nI hm (by omega)) (vp_in_nI ha (by omega)) (by rw [c1, c2, (stg_mW h hm ha).2]; exact sq_neW h hm ha)
  rw [c1, c2, (stg_mW h hm ha).1] at k
  exact k
theorem c_couldHurtW (G : Gl) (d : Nat) {nm na nr s a : Nat} (I : IF) (L : LF) (b : Bool) (h : IW nm na nr I) (hs : s < 14) (ha : a < 16) : MD G (d + 2) Y_X1_couldHurt [.ref 1, .int (nI s), .ref (18 + a)] (I, L, RR b) (some (.int (b2 (cldB I a s = true)))) (I, L, RR b) := by
  have hsa := sh_area a ha
  have hss := sh_mast s hs
  refine MT.intro m_X1_couldHurt rfl (Nat.le_of_ble_eq_true rfl) ?_
  show WQ G (d + 2) Y_X1_couldHurt _ 0 [(0, .ref 1), (1, .int (nI s)), (2, .ref (18 + a))] [] (I, L, RR b)
  refine wp_aload_n rfl rfl ?_
  refine wp_iload_n rfl rfl ?_
  refine cV1 rfl l_1_65 i_X1_isSender m_X1_isSender (by first | rfl | assumption) (by decide) (c_X1_isSender G _ _ _ _ _) rfl (Nat.le_of_ble_eq_true rfl) ?_
  refine wp_if_eq 13 rfl rfl (fun h3 => ?_) (fun h3 => ?_)
  · refine wp_iconst (v := 0) rfl rfl ?_
    exact wp_zret rfl rfl (by first | rfl | exact nb2 _ | assumption) (⟨by simp only [cldB, ow]; grind [b2], rfl⟩)
  · refine wp_aload_n rfl rfl ?_
    refine wp_aload_n rfl rfl ?_
    refine q_geti rfl rfl (by first | rfl | assumption) rfl ?_
    refine cV1 rfl l_1_35 i_X1_isMast m_X1_isMast (by first | rfl | assumption) (by decide) (c_X1_isMast G _ _ _ _ _) rfl (Nat.le_of_ble_eq_true rfl) ?_
    refine wp_if_eq 13 rfl rfl (fun h8 => ?_) (fun h8 => ?_)
    · refine wp_iconst (v := 0) rfl rfl ?_
      exact wp_zret rfl rfl (by first | rfl | exact nb2 _ | assumption) (⟨by simp only [cldB, ow]; grind [b2], rfl⟩)
    · refine wp_iload_n rfl rfl ?_
      refine wp_aload_n rfl rfl ?_
      refine q_geti rfl rfl (by first | rfl | assumption) rfl ?_
      refine wp_icmp_ne 15 rfl rfl (fun h12 => ?_) (fun h12 => ?_)
      · have hv := b2_ne.mp h8
        obtain ⟨m, hm, hvm, hcl⟩ := (isM h.1 _).1 hv
        have hm14 : m < 14 := by have := h.1.1.2.2; omega
        have hsm := sh_mast m hm14
        refine wp_aload_n rfl rfl ?_
        refine q_geti rfl rfl (by first | rfl | assumption) rfl ?_
        refine wp_aload_n rfl rfl ?_
        refine q_getr rfl rfl (by first | rfl | assumption) rfl rfl ?_
        refine wp_iload_n rfl rfl ?_
        refine q_mast rfl rfl hs ?_
        refine wp_aload_n rfl rfl ?_
        refine cV1 rfl l_1_61 i_X4_strengthAt m_X4_strengthAt (by first | rfl | assumption) (by decide) (d_strengthAtW G _ _ h hs ha) rfl (Nat.le_of_ble_eq_true rfl) ?_
        refine wp_imul rfl ?_
        refine wp_aload_n rfl rfl ?_
        refine q_getr rfl rfl (by first | rfl | assumption) rfl rfl ?_
        refine wp_aload_n rfl rfl ?_
        refine q_geti rfl rfl (by first | rfl | assumption) rfl ?_
        refine q_mast rfl hvm hm14 ?_
        refine wp_aload_n rfl rfl ?_
        refine cV1 rfl l_1_61 i_X4_strengthAt m_X4_strengthAt (by first | rfl | assumption) (by decide) (d_strengthAtW G _ _ h hm14 ha) rfl (Nat.le_of_ble_eq_true rfl) ?_
        refine wp_icmp_le 34 rfl rfl (fun h31 => ?_) (fun h31 => ?_)
        · refine wp_iconst (v := 0) rfl rfl ?_
          exact wp_zret rfl rfl (by first | rfl | exact nb2 _ | assumption) (⟨by simp only [cldB, ow]; grind [b2], rfl⟩)
        · refine wp_iconst (v := 1) rfl rfl ?_
          refine wp_goto 35 rfl rfl ?_
          exact wp_zret rfl rfl (by first | rfl | exact nb2 _ | assumption) (⟨by simp only [cldB, ow]; grind [b2], rfl⟩)
      · refine wp_iconst (v := 0) rfl rfl ?_
        exact wp_zret rfl rfl (by first | rfl | exact nb2 _ | assumption) (⟨by simp only [cldB, ow]; grind [b2], rfl⟩)
theorem c_hurtsW (G : Gl) (d : Nat) {nm na nr s a o : Nat} (x y : Int32) (I : IF) (L : LF) (b : Bool) (h : IW nm na nr I) (hs : s < 14) (ha : a < nr) (hx : x = nI s) (hy : y = nI a) (ho : I (18 + a) 6 = nI o) (hom : o < nm) : MD G (d + 1) Y_X11_hurts [.ref 72, .int x, .int y] (I, L, RR b) (some (.int (b2 (stg I o a < I 1 7 * stg I s a)))) (I, L, RR b) := by
  subst hx
  subst hy
  have hnm : nm ≤ 10 := h.1.1.2.2
  have hnr : nr ≤ 16 := h.1.2.2.2.2
  have hcl : (nI a).toNatClampNeg = a := nI_clamp (by omega)
  have hin : vp_in (nI a) 16 := vp_in_nI (by omega) (by omega)
  have z9 := (h.2.2.2.1 a (by omega)).1 ha
  have h92 : I 92 a = nI o := z9.1.trans ho
  have hne : ¬ nI o = (-1 : Int32) := by have := nI_pos' (n := o) (by omega); grind
  obtain ⟨q1, e1, e2⟩ := stg_bW h hs (show a < 16 by omega)
  obtain ⟨q2, e3, e4⟩ := stg_bW h (m := o) (by omega) (show a < 16 by omega)
  obtain ⟨r1, r2, r3⟩ := h.2.2.2.2
  obtain ⟨rn, rn1, rn2⟩ := nI_of2 (M := 100) (n := 100) rfl (by grind) r3
  have hprod : rn * q1 ≤ 100000000 := Nat.le_trans (Nat.mul_le_mul rn1 e1) (by omega)
  have hcmp : stg I o a < I 1 7 * stg I s a ↔ q2 < rn * q1 := by
    rw [e2, e4, rn2, pk_mul]
    exact nI_ltI (by omega) (by omega)
  have hlng : ((I 72 10).toInt64 * (stg I s a).toInt64) = lN (rn * q1) ∧ (stg I o a).toInt64 = lN q2 := by
    rw [r1, rn2, e2, e4, nI_l (by omega), nI_l (by omega), nI_l (by omega), lN_mul]
    exact ⟨rfl, rfl⟩
  refine MT.intro m_X11_hurts rfl (Nat.le_of_ble_eq_true rfl) ?_
  show WQ G (d + 1) Y_X11_hurts _ 0 [(0, .ref 72), (1, .int (nI s)), (2, .int (nI a))] [] (I, L, RR b)
  refine wp_aload_n rfl rfl ?_
  refine q_getr rfl rfl (by first | rfl | assumption) rfl rfl ?_
  refine wp_iload_n rfl rfl ?_
  refine q_iald rfl (by first | rfl | assumption) (by assumption) ?_
  refine wp_iconst (v := (-1)) rfl rfl ?_
  refine wp_icmp_eq 27 rfl rfl (fun h5 => ?_) (fun h5 => ?_)
  · rw [hcl, h92] at h5; exact absurd h5 hne
  · refine wp_aload_n rfl rfl ?_
    refine q_geti rfl rfl (by first | rfl | assumption) rfl ?_
    refine wp_i2l rfl ?_
    refine wp_aload_n rfl rfl ?_
    refine wp_iload_n rfl rfl ?_
    refine wp_iload_n rfl rfl ?_
    refine cV1 rfl l_11_172 i_X11_at m_X11_at (by first | rfl | assumption) (by decide) (d_atW G _ _ h hs (by omega) rfl rfl) rfl (Nat.le_of_ble_eq_true rfl) ?_
    refine wp_i2l rfl ?_
    refine wp_lmul rfl ?_
    refine wp_aload_n rfl rfl ?_
    refine wp_aload_n rfl rfl ?_
    refine q_getr rfl rfl (by first | rfl | assumption) rfl rfl ?_
    refine wp_iload_n rfl rfl ?_
    refine q_iald rfl (by first | rfl | assumption) (by assumption) ?_
    refine wp_iload_n rfl rfl ?_
    refine cV1 rfl l_11_172 i_X11_at m_X11_at (by first | rfl | assumption) (by decide) (d_atW G _ _ h (m := o) (by omega) (by omega) (by rw [hcl]; exact h92) rfl) rfl (Nat.le_of_ble_eq_true rfl) ?_
    refine wp_i2l rfl ?_
    rw [hlng.1, hlng.2]
    refine wp_lcmp rfl ?_
    refine wp_if_le 27 rfl rfl (fun h24 => ?_) (fun h24 => ?_)
    · refine wp_iconst (v := 0) rfl rfl ?_
      exact wp_zret rfl rfl (by first | rfl | exact nb2 _ | assumption) (⟨by have := lN_lt (a := q2) (b := rn * q1) (by omega) (by omega); have := lN_eq (a := q2) (b := rn * q1) (by omega) (by omega); simp only [lg_cmp] at *; grind [b2], rfl⟩)
    · refine wp_iconst (v := 1) rfl rfl ?_
      refine wp_goto 28 rfl rfl ?_
      exact wp_zret rfl rfl (by first | rfl | exact nb2 _ | assumption) (⟨by have := lN_lt (a := q2) (b := rn * q1) (by omega) (by omega); have := lN_eq (a := q2) (b := rn * q1) (by omega) (by omega); simp only [lg_cmp] at *; grind [b2], rfl⟩)
def exB (p : Nat → Bool) : Nat → Bool
  | 0 => false
  | n + 1 => exB p n || p n
theorem exB_iff {p : Nat → Bool} : ∀ n, exB p n = true ↔ ∃ a, a < n ∧ p a = true
  | 0 => ⟨fun h => absurd h (by simp [exB]), fun ⟨a, h, _⟩ => absurd h (by omega)⟩
  | n + 1 => by
    simp only [exB, Bool.or_eq_true, exB_iff n]
    constructor
    · rintro (⟨a, h1, h2⟩ | h)
      · exact ⟨a, by omega, h2⟩
      · exact ⟨n, by omega, h⟩
    · rintro ⟨a, h1, h2⟩
      rcases Nat.lt_or_ge a n with e | e
      · exact Or.inl ⟨a, e, h2⟩
      · rw [show a = n by omega] at h2; exact Or.inr h2
theorem exB_cg {p q : Nat → Bool} : ∀ n, (∀ a, a < n → p a = q a) → exB p n = exB q n
  | 0, _ => rfl
  | n + 1, h => by simp only [exB]; rw [exB_cg n (fun a ha => h a (by omega)), h n (by omega)]
theorem bool_iff {a b : Bool} (h : a = true ↔ b = true) : a = b := by cases a <;> cases b <;> simp_all
/-- sender s would hurt an area that looks at mast m -/
def hO (I : IF) (nr s m : Nat) : Bool := exB (fun a => decide (I (18 + a) 6 = nI m ∧ stg I m a < I 1 7 * stg I s a)) nr
def nrB (I : IF) (nm na nr m s : Nat) : Bool := if s < 10 then decide (s < nm ∧ s ≠ m) && (hO I nr s m || hO I nr m s) else decide (s - 10 < na) && hO I nr s m
def bnB (I : IF) (nm na nr m c : Nat) : Bool := exB (fun s => nrB I nm na nr m s && decide (I (4 + m) 7 < (if s < 10 then I (4 + s) 7 else I (4 + s) 8) ∧ I (4 + s) 5 = nI c)) 14
def okB (I : IF) (nm na nr : Nat) (ch : Nat → Nat) (m : Nat) : Bool := !(bnB I nm na nr m (ch m) || exB (fun j => nrB I nm na nr m j && decide (ch j = ch m)) m)
theorem cld_iff {nm na nr a s m : Nat} {I : IF} (h : IW nm na nr I) (hs : s < 14) (hm : m < 14) (e : I (18 + a) 6 = nI m) : cldB I a s = true ↔ (s < nm ∨ (10 ≤ s ∧ s - 10 < na)) ∧ m < nm ∧ s ≠ m ∧ stg I m a < I 1 7 * stg I s a := by
  have h1 := h.1.1.1
  have h2 := h.1.2.1.1
  have hn : nm ≤ 10 := h.1.1.2.2
  have hna : na ≤ 4 := h.1.2.1.2.2
  unfold cldB ow
  rw [decide_eq_true_eq, e, nI_clamp (by omega), h1, h2, nI_ltI (by omega) (by omega), nI_ltI (by omega) (by omega), nI_eq (by omega) (by omega)]
  have e10 : (10 : Int32) ≤ nI s ↔ 10 ≤ s := nI_leI (a := 10) (by omega) (by omega)
  have es : 10 ≤ s → (nI s - 10 < nI na ↔ s - 10 < na) := fun h10 => by
    have : nI s - 10 = nI (s - 10) := by
      have := nI_add (s - 10) 10
      rw [show s - 10 + 10 = s by omega] at this
      rw [← this]
      show nI (s - 10) + 10 - 10 = _
      grind
    rw [this, nI_ltI (by omega) (by omega)]
  rw [e10]
  have p0 : (0 : Int32) ≤ nI s := nI_pos' (by omega)
  have p1 : (0 : Int32) ≤ nI m := nI_pos' (by omega)
  constructor
  · rintro ⟨q1, q2, q3, q4⟩
    exact ⟨q1.imp (fun z => z.2) (fun z => ⟨z.1, (es z.1).mp z.2⟩), q2.2, q3, q4⟩
  · rintro ⟨q1, q2, q3, q4⟩
    exact ⟨q1.imp (fun z => ⟨p0, z⟩) (fun z => ⟨z.1, (es z.1).mpr z.2⟩), ⟨p1, q2⟩, q3, q4⟩
theorem cld_not {nm na nr a s : Nat} {I : IF} (h : IW nm na nr I) (e : ¬ (0 ≤ I (18 + a) 6 ∧ I (18 + a) 6 < I 1 2)) : ¬ cldB I a s = true := by
  unfold cldB
  rw [decide_eq_true_eq]
  exact fun z => e z.2.1
def NP (I : IF) (i k m s : Nat) : Prop := (∃ a, (a < i ∨ (a = i ∧ s < k)) ∧ I (18 + a) 6 = nI m ∧ cldB I a s = true) ∨ (∃ a, (a < i ∨ (a = i ∧ m < k)) ∧ I (18 + a) 6 = nI s ∧ cldB I a m = true)
theorem NP_end {I : IF} {i m s : Nat} (hm : m < 10) (hs : s < 14) : NP I i 14 m s ↔ NP I (i + 1) 0 m s := by
  unfold NP
  constructor
  · rintro (⟨a, h1, h2⟩ | ⟨a, h1, h2⟩)
    · exact Or.inl ⟨a, Or.inl (by omega), h2⟩
    · exact Or.inr ⟨a, Or.inl (by omega), h2⟩
  · rintro (⟨a, h1, h2⟩ | ⟨a, h1, h2⟩)
    · exact Or.inl ⟨a, by omega, h2⟩
    · exact Or.inr ⟨a, by omega, h2⟩
theorem NP_skip {I : IF} {i m s k : Nat} (hn : ∀ s, ¬ cldB I i s = true) : NP I i k m s ↔ NP I (i + 1) 0 m s := by
  unfold NP
  constructor
  · rintro (⟨a, h1, h2⟩ | ⟨a, h1, h2⟩)
    · exact Or.inl ⟨a, Or.inl (by omega), h2⟩
    · exact Or.inr ⟨a, Or.inl (by omega), h2⟩
  · rintro (⟨a, h1, h2, h3⟩ | ⟨a, h1, h2, h3⟩)
    · rcases Nat.lt_or_ge a i with e | e
      · exact Or.inl ⟨a, Or.inl e, h2, h3⟩
      · rw [show a = i by omega] at h3; exact absurd h3 (hn _)
    · rcases Nat.lt_or_ge a i with e | e
      · exact Or.inr ⟨a, Or.inl e, h2, h3⟩
      · rw [show a = i by omega] at h3; exact absurd h3 (hn _)
theorem NP_no {I : IF} {i m s k : Nat} (hn : ¬ cldB I i k = true) : NP I i k m s ↔ NP I i (k + 1) m s := by
  unfold NP
  constructor
  · rintro (⟨a, h1, h2⟩ | ⟨a, h1, h2⟩)
    · exact Or.inl ⟨a, by omega, h2⟩
    · exact Or.inr ⟨a, by omega, h2⟩
  · rintro (⟨a, h1, h2, h3⟩ | ⟨a, h1, h2, h3⟩)
    · by_cases e : a = i ∧ s = k
      · rw [e.1, e.2] at h3; exact absurd h3 hn
      · exact Or.inl ⟨a, by omega, h2, h3⟩
    · by_cases e : a = i ∧ m = k
      · rw [e.1, e.2] at h3; exact absurd h3 hn
      · exact Or.inr ⟨a, by omega, h2, h3⟩
theorem NP_yes {I : IF} {i m s k o : Nat} (hy : cldB I i k = true) (ho : I (18 + i) 6 = nI o) (ho10 : o < 10) (hm : m < 10) (hs : s < 14) : NP I i (k + 1) m s ↔ NP I i k m s ∨ (m = o ∧ s = k) ∨ (m = k ∧ s = o) := by
  unfold NP
  constructor
  · rintro (⟨a, h1, h2, h3⟩ | ⟨a, h1, h2, h3⟩)
    · by_cases e : a = i ∧ s = k
      · rw [e.1, ho] at h2
        exact Or.inr (Or.inl ⟨((nI_eq (by omega) (by omega)).mp h2).symm, e.2⟩)
      · exact Or.inl (Or.inl ⟨a, by omega, h2, h3⟩)
    · by_cases e : a = i ∧ m = k
      · rw [e.1, ho] at h2
        exact Or.inr (Or.inr ⟨e.2, ((nI_eq (by omega) (by omega)).mp h2).symm⟩)
      · exact Or.inl (Or.inr ⟨a, by omega, h2, h3⟩)
  · rintro ((⟨a, h1, h2⟩ | ⟨a, h1, h2⟩) | ⟨rfl, rfl⟩ | ⟨rfl, rfl⟩)
    · exact Or.inl ⟨a, by omega, h2⟩
    · exact Or.inr ⟨a, by omega, h2⟩
    · exact Or.inl ⟨i, by omega, ho, hy⟩
    · exact Or.inr ⟨i, by omega, ho, hy⟩
theorem NP_nrB {nm na nr m s : Nat} {I : IF} (h : IW nm na nr I) (hm : m < nm) (hs : s < 14) : NP I nr 0 m s ↔ nrB I nm na nr m s = true := by
  have hn : nm ≤ 10 := h.1.1.2.2
  have hnr : nr ≤ 16 := h.1.2.2.2.2
  have hl : ∀ a, a < nr → I (18 + a) 6 < nI nm := fun a ha => ((h.2.2.2.1 a (by omega)).1 ha).2.2
  have k1 : (∃ a, (a < nr ∨ (a = nr ∧ s < 0)) ∧ I (18 + a) 6 = nI m ∧ cldB I a s = true) ↔ (s < nm ∨ (10 ≤ s ∧ s - 10 < na)) ∧ s ≠ m ∧ hO I nr s m = true := by
    unfold hO
    rw [exB_iff]
    constructor
    · rintro ⟨a, h1, h2, h3⟩
      obtain ⟨q1, q2, q3, q4⟩ := (cld_iff h hs (by omega) h2).mp h3
      exact ⟨q1, q3, a, by omega, decide_eq_true ⟨h2, q4⟩⟩
    · rintro ⟨q1, q3, a, h1, h2⟩
      obtain ⟨h2, q4⟩ := of_decide_eq_true h2
      exact ⟨a, Or.inl h1, h2, (cld_iff h hs (by omega) h2).mpr ⟨q1, hm, q3, q4⟩⟩
  have k2 : (∃ a, (a < nr ∨ (a = nr ∧ m < 0)) ∧ I (18 + a) 6 = nI s ∧ cldB I a m = true) ↔ s < nm ∧ s ≠ m ∧ hO I nr m s = true := by
    unfold hO
    rw [exB_iff]
    constructor
    · rintro ⟨a, h1, h2, h3⟩
      obtain ⟨q1, q2, q3, q4⟩ := (cld_iff h (show m < 14 by omega) hs h2).mp h3
      exact ⟨q2, Ne.symm q3, a, by omega, decide_eq_true ⟨h2, q4⟩⟩
    · rintro ⟨q1, q3, a, h1, h2⟩
      obtain ⟨h2, q4⟩ := of_decide_eq_true h2
      exact ⟨a, Or.inl h1, h2, (cld_iff h (show m < 14 by omega) hs h2).mpr ⟨Or.inl hm, q1, Ne.symm q3, q4⟩⟩
  unfold NP nrB
  rw [k1, k2]
  split
  · next h10 =>
    simp only [Bool.and_eq_true, Bool.or_eq_true, decide_eq_true_eq]
    constructor
    · rintro (⟨q1, q2, q3⟩ | ⟨q1, q2, q3⟩)
      · exact ⟨⟨by omega, q2⟩, Or.inl q3⟩
      · exact ⟨⟨q1, q2⟩, Or.inr q3⟩
    · rintro ⟨⟨q1, q2⟩, q3 | q3⟩
      · exact Or.inl ⟨Or.inl q1, q2, q3⟩
      · exact Or.inr ⟨q1, q2, q3⟩
  · next h10 =>
    simp only [Bool.and_eq_true, decide_eq_true_eq]
    constructor
    · rintro (⟨q1, q2, q3⟩ | ⟨q1, q2, q3⟩)
      · exact ⟨by omega, q3⟩
      · omega
    · rintro ⟨q1, q3⟩
      exact Or.inl ⟨Or.inr ⟨by omega, q1⟩, by omega, q3⟩
theorem IW_fr {nm na nr : Nat} {I J : IF} (h : IW nm na nr I) (h1 : ∀ k, k ≠ 5 → J 1 k = I 1 k) (h72 : ∀ k, k = 5 ∨ k = 6 ∨ k = 7 ∨ k = 10 → J 72 k = I 72 k) (hm : ∀ m k, m < 14 → k ≠ 6 → k ≠ 7 → k ≠ 9 → J (4 + m) k = I (4 + m) k) (ha : ∀ a k, a < 16 → k ≠ 5 → J (18 + a) k = I (18 + a) k) (ha5 : ∀ a, a < 16 → J (18 + a) 5 = I (18 + a) 5) (ho : ∀ q, (77 ≤ q ∧ q ≤ 80) ∨ (86 ≤ q ∧ q ≤ 93) → J q = I q) : IW nm na nr J := by
  obtain ⟨a1, a2, a3, a4, a5⟩ := h
  refine ⟨?_, ?_, ?_, ?_, ?_⟩
  · unfold IVc at a1 ⊢; simp (disch := omega) only [h1, h72]; exact a1
  · intro k hk; simp (disch := omega) only [hm, ho]; exact a2 k hk
  · intro a hk; simp (disch := omega) only [ha, ha5, ho]; exact a3 a hk
  · intro a hk; simp (disch := omega) only [ha, ha5, ho]; exact a4 a hk
  · simp (disch := omega) only [h1, h72]; exact a5
theorem IW_tun {nm na nr : Nat} {I J : IF} (h : IW nm na nr I) (hJ : ∀ q, (q < 40 ∨ 43 < q) → J q = I q) : IW nm na nr J :=
  IW_fr h (fun k _ => by rw [hJ 1 (by omega)]) (fun k _ => by rw [hJ 72 (by omega)]) (fun m k hm _ _ _ => by rw [hJ (4 + m) (by omega)]) (fun a k ha _ => by rw [hJ (18 + a) (by omega)]) (fun a ha => by rw [hJ (18 + a) (by omega)]) (fun q hq => hJ q (by omega))
theorem stg_cg {I J : IF} {m a : Nat} (hJ : ∀ q, q < 34 → J q = I q) (hm : m < 14) (ha : a < 16) : stg J m a = stg I m a := by
  unfold stg
  simp (disch := omega) only [hJ]
theorem cldB_cg {nm na nr : Nat} {I J : IF} (h : IW nm na nr I) (hJ : ∀ q, q < 34 → J q = I q) {a s : Nat} (ha : a < 16) (hs : s < 14) : cldB J a s = cldB I a s := by
  unfold cldB
  rw [decide_eq_decide]
  rw [hJ 1 (by omega), hJ (18 + a) (by omega), stg_cg hJ hs ha]
  by_cases hv : 0 ≤ I (18 + a) 6 ∧ I (18 + a) 6 < I 1 2
  · obtain ⟨m, hm, hvm, hcl⟩ := (isM h.1 _).1 hv
    have : ow J a = m := by unfold ow; rw [hJ (18 + a) (by omega)]; exact hcl
    rw [this, show ow I a = m from hcl, stg_cg hJ (show m < 14 by have := h.1.1.2.2; omega) ha]
  · constructor
    · rintro ⟨_, q, _⟩; exact absurd q hv
    · rintro ⟨_, q, _⟩; exact absurd q hv
theorem c_X9_findNear (G : Gl) (d : Nat) {nm na nr : Nat} (I : IF) (L : LF) (b : Bool) (h : IW nm na nr I) : MQ2 G (d + 3) Y_X9_findNear [.ref 39, .ref 1] (I, L, RR b) (fun r w => r = none ∧ ∃ J : IF, w = (J, L, RR b) ∧ (∀ q, q ≠ 40 → J q = I q) ∧ ∀ m, m < nm → ∀ s, s < 14 → bt (J 40 m) s = nrB I nm na nr m s) := by
  have hn : nm ≤ 10 := h.1.1.2.2
  have hnr : nr ≤ 16 := h.1.2.2.2.2
  have h4 : I 1 4 = nI nr := h.1.2.2.1
  generalize hQ : (fun (r : Option Value) (w : mW) => r = none ∧ ∃ J : IF, w = (J, L, RR b) ∧ (∀ q, q ≠ 40 → J q = I q) ∧ ∀ m, m < nm → ∀ s, s < 14 → bt (J 40 m) s = nrB I nm na nr m s) = Q
  have outer : ∀ (n i : Nat), i + n = nr → ∀ J : IF, (∀ q, q ≠ 40 → J q = I q) → (∀ m, m < 10 → ∀ s, s < 14 → (bt (J 40 m) s = true ↔ NP I i 0 m s)) → WQ G (d + 3) Y_X9_findNear Q 6 [(0, .ref 39), (1, .ref 1), (2, .int (nI i))] [] (J, L, RR b) := by
    intro n
    induction n with
    | zero =>
      intro i hi J hJ hN
      have hie : i = nr := by omega
      subst hie
      have hge : J 1 4 ≤ nI i := by rw [hJ 1 (by decide), h4]; exact nI_le (Nat.le_refl _) (by omega)
      refine wp_iload_n rfl rfl ?_
      refine wp_aload_n rfl rfl ?_
      refine q_geti rfl rfl (by first | rfl | assumption) rfl ?_
      refine wp_icmp_ge 60 rfl rfl (fun _ => ?_) (fun h9 => absurd hge h9)
      exact wp_vret rfl rfl (by rw [← hQ]; exact ⟨rfl, J, rfl, hJ, fun m hm s hs => bool_iff ((hN m (by omega) s hs).trans (NP_nrB h hm hs))⟩)
    | succ n ih =>
      intro i hi J hJ hN
      have hlt : ¬ J 1 4 ≤ nI i := by rw [hJ 1 (by decide), h4]; exact nI_ge (by omega) (by omega)
      have hsa := sh_area i (by omega)
      have e6 : J (18 + i) 6 = I (18 + i) 6 := by rw [hJ _ (by omega)]
      have inner : ∀ (p k : Nat), k + p = 14 → ∀ J : IF, (∀ q, q ≠ 40 → J q = I q) → (∀ m, m < 10 → ∀ s, s < 14 → (bt (J 40 m) s = true ↔ NP I i k m s)) → WQ G (d + 3) Y_X9_findNear Q 18 [(0, .ref 39), (1, .ref 1), (2, .int (nI i)), (3, .int (I (18 + i) 6)), (4, .int (nI k))] [] (J, L, RR b) := by
        intro p
        induction p with
        | zero =>
          intro k hk J hJ hN
          have hke : k = 14 := by omega
          subst hke
          refine wp_aload_n rfl rfl ?_
          refine wp_iload_n rfl rfl ?_
          refine cV1 rfl l_9_74 i_X1_isMast m_X1_isMast (by first | rfl | assumption) (by decide) (c_X1_isMast G _ _ _ _ _) rfl (Nat.le_of_ble_eq_true rfl) ?_
          refine wp_if_eq 58 rfl rfl (fun h21 => ?_) (fun h21 => ?_)
          · refine wp_iinc (v := nI (i + 1)) (lv' := [(2, _), (0, _), (1, _), (3, _), (4, _)]) rfl rfl (nI_1 i) (by decide) rfl ?_
            refine wp_goto 6 rfl rfl ?_
            refine wp_loc (lv' := [(0, _), (1, _), (2, _)]) [1, 2, 0] rfl ?_
            first
            | exact ih (i + 1) (by omega) J hJ (fun m hm s hs => (hN m hm s hs).trans (NP_end hm hs))
          · refine wp_iload rfl rfl ?_
            refine wp_bipush (v := 14) rfl rfl ?_
            refine wp_icmp_ge 58 rfl rfl (fun _ => ?_) (fun h24 => absurd (show (14 : Int32) ≤ nI 14 by decide) h24)
            refine wp_iinc (v := nI (i + 1)) (lv' := [(2, _), (0, _), (1, _), (3, _), (4, _)]) rfl rfl (nI_1 i) (by decide) rfl ?_
            refine wp_goto 6 rfl rfl ?_
            refine wp_loc (lv' := [(0, _), (1, _), (2, _)]) [1, 2, 0] rfl ?_
            first
            | exact ih (i + 1) (by omega) J hJ (fun m hm s hs => (hN m hm s hs).trans (NP_end hm hs))
        | succ p ihp =>
          intro k hk J hJ hN
          have hlt2 : ¬ (14 : Int32) ≤ nI k := nI_ge (a := k) (b := 14) (by omega) (by omega)
          have hIV : IW nm na nr J := IW_tun h (fun q hq => hJ q (by omega))
          have hcl := cldB_cg (J := J) h (fun q hq => hJ q (by omega)) (a := i) (s := k) (by omega) (by omega)
          have h12 : J 1 2 = I 1 2 := by rw [hJ 1 (by decide)]
          by_cases hv : 0 ≤ I (18 + i) 6 ∧ I (18 + i) 6 < I 1 2
          · obtain ⟨o, ho, hvo, hclo⟩ := (isM h.1 _).1 hv
            have ho10 : o < 10 := by omega
            have hin : vp_in (I (18 + i) 6) 10 := by rw [hvo]; exact vp_in_nI (by omega) (by omega)
            by_cases hc : cldB I i k = true
            · by_cases hk10 : k < 10
              · have hin2 : vp_in (nI k) 10 := vp_in_nI (by omega) (by omega)
                have hclk : (nI k).toNatClampNeg = k := nI_clamp (by omega)
                have hlt3 : ¬ (10 : Int32) ≤ nI k := nI_ge (a := k) (b := 10) (by omega) (by omega)
                refine wp_aload_n rfl rfl ?_
                refine wp_iload_n rfl rfl ?_
                refine cV1 rfl l_9_74 i_X1_isMast m_X1_isMast (by first | rfl | assumption) (by decide) (c_X1_isMast G _ _ _ _ _) rfl (Nat.le_of_ble_eq_true rfl) ?_
                refine wp_if_eq 58 rfl rfl (fun h21 => ?_) (fun h21 => ?_)
                · exact absurd (by rw [h12]; exact hv) (b2_eq.mp h21)
                · refine wp_iload rfl rfl ?_
                  refine wp_bipush (v := 14) rfl rfl ?_
                  refine wp_icmp_ge 58 rfl rfl (fun h24 => absurd h24 hlt2) (fun _ => ?_)
                  refine wp_aload_n rfl rfl ?_
                  refine wp_iload rfl rfl ?_
                  refine wp_aload_n rfl rfl ?_
                  refine q_getr rfl rfl (by first | rfl | assumption) rfl rfl ?_
                  refine wp_iload_n rfl rfl ?_
                  refine q_area rfl rfl (by omega) ?_
                  refine cV1 rfl l_9_78 i_X1_couldHurt m_X1_couldHurt (by first | rfl | assumption) (by decide) (c_couldHurtW G _ _ _ _ hIV (by omega) (by omega)) rfl (Nat.le_of_ble_eq_true rfl) ?_
                  refine wp_if_eq 56 rfl rfl (fun h32 => ?_) (fun h32 => ?_)
                  · exact absurd (by rw [hcl]; exact hc) (b2_eq.mp h32)
                  · refine wp_aload_n rfl rfl ?_
                    refine q_getr rfl rfl (by first | rfl | assumption) rfl rfl ?_
                    refine wp_iload_n rfl rfl ?_
                    refine wp_dup2 rfl rfl rfl ?_
                    refine q_iald rfl (by first | rfl | assumption) (by assumption) ?_
                    refine wp_iconst (v := 1) rfl rfl ?_
                    refine wp_iload rfl rfl ?_
                    refine wp_ishl rfl ?_
                    refine wp_ior rfl ?_
                    refine q_iast rfl (by first | rfl | assumption) (by assumption) ?_
                    refine wp_iload rfl rfl ?_
                    refine wp_bipush (v := 10) rfl rfl ?_
                    refine wp_icmp_ge 56 rfl rfl (fun h45 => absurd h45 hlt3) (fun _ => ?_)
                    refine wp_aload_n rfl rfl ?_
                    refine q_getr rfl rfl (by first | rfl | assumption) rfl rfl ?_
                    refine wp_iload rfl rfl ?_
                    refine wp_dup2 rfl rfl rfl ?_
                    refine q_iald rfl (by first | rfl | assumption) (by assumption) ?_
                    refine wp_iconst (v := 1) rfl rfl ?_
                    refine wp_iload_n rfl rfl ?_
                    refine wp_ishl rfl ?_
                    refine wp_ior rfl ?_
                    refine q_iast rfl (by first | rfl | assumption) (by assumption) ?_
                    refine wp_iinc (v := nI (k + 1)) (lv' := [(4, _), (0, _), (1, _), (2, _), (3, _)]) rfl rfl (nI_1 k) (by decide) rfl ?_
                    refine wp_goto 18 rfl rfl ?_
                    refine wp_loc (lv' := [(0, _), (1, _), (2, _), (3, _), (4, _)]) [1, 2, 3, 4, 0] rfl ?_
                    refine ihp (k + 1) (by omega) _ (fun q hq => by rw [uI_fn hq, uI_fn hq]; exact hJ q hq) (fun m hm s hs => ?_)
                    rw [NP_yes hc hvo ho10 hm hs, ← hN m hm s hs, hclo, hclk, hvo]
                    by_cases e1 : m = k
                    · subst e1
                      rw [uI_eq, bt_add (by omega) (by omega), Bool.or_eq_true, decide_eq_true_eq]
                      by_cases e2 : m = o
                      · subst e2
                        rw [uI_eq, bt_add (by omega) (by omega), Bool.or_eq_true, decide_eq_true_eq]
                        grind
                      · rw [uI_nk e2]
                        grind
                    · rw [uI_nk e1]
                      by_cases e2 : m = o
                      · subst e2
                        rw [uI_eq, bt_add (by omega) (by omega), Bool.or_eq_true, decide_eq_true_eq]
                        grind
                      · rw [uI_nk e2]
                        grind
              · have hge3 : (10 : Int32) ≤ nI k := nI_le (a := 10) (b := k) (by omega) (by omega)
                refine wp_aload_n rfl rfl ?_
                refine wp_iload_n rfl rfl ?_
                refine cV1 rfl l_9_74 i_X1_isMast m_X1_isMast (by first | rfl | assumption) (by decide) (c_X1_isMast G _ _ _ _ _) rfl (Nat.le_of_ble_eq_true rfl) ?_
                refine wp_if_eq 58 rfl rfl (fun h21 => ?_) (fun h21 => ?_)
                · exact absurd (by rw [h12]; exact hv) (b2_eq.mp h21)
                · refine wp_iload rfl rfl ?_
                  refine wp_bipush (v := 14) rfl rfl ?_
                  refine wp_icmp_ge 58 rfl rfl (fun h24 => absurd h24 hlt2) (fun _ => ?_)
                  refine wp_aload_n rfl rfl ?_
                  refine wp_iload rfl rfl ?_
                  refine wp_aload_n rfl rfl ?_
                  refine q_getr rfl rfl (by first | rfl | assumption) rfl rfl ?_
                  refine wp_iload_n rfl rfl ?_
                  refine q_area rfl rfl (by omega) ?_
                  refine cV1 rfl l_9_78 i_X1_couldHurt m_X1_couldHurt (by first | rfl | assumption) (by decide) (c_couldHurtW G _ _ _ _ hIV (by omega) (by omega)) rfl (Nat.le_of_ble_eq_true rfl) ?_
                  refine wp_if_eq 56 rfl rfl (fun h32 => ?_) (fun h32 => ?_)
                  · exact absurd (by rw [hcl]; exact hc) (b2_eq.mp h32)
                  · refine wp_aload_n rfl rfl ?_
                    refine q_getr rfl rfl (by first | rfl | assumption) rfl rfl ?_
                    refine wp_iload_n rfl rfl ?_
                    refine wp_dup2 rfl rfl rfl ?_
                    refine q_iald rfl (by first | rfl | assumption) (by assumption) ?_
                    refine wp_iconst (v := 1) rfl rfl ?_
                    refine wp_iload rfl rfl ?_
                    refine wp_ishl rfl ?_
                    refine wp_ior rfl ?_
                    refine q_iast rfl (by first | rfl | assumption) (by assumption) ?_
                    refine wp_iload rfl rfl ?_
                    refine wp_bipush (v := 10) rfl rfl ?_
                    refine wp_icmp_ge 56 rfl rfl (fun _ => ?_) (fun h45 => absurd hge3 h45)
                    refine wp_iinc (v := nI (k + 1)) (lv' := [(4, _), (0, _), (1, _), (2, _), (3, _)]) rfl rfl (nI_1 k) (by decide) rfl ?_
                    refine wp_goto 18 rfl rfl ?_
                    refine wp_loc (lv' := [(0, _), (1, _), (2, _), (3, _), (4, _)]) [1, 2, 3, 4, 0] rfl ?_
                    refine ihp (k + 1) (by omega) _ (fun q hq => by rw [uI_fn hq]; exact hJ q hq) (fun m hm s hs => ?_)
                    rw [NP_yes hc hvo ho10 hm hs, ← hN m hm s hs, hclo]
                    by_cases e2 : m = o
                    · subst e2
                      rw [uI_eq, bt_add (by omega) (by omega), Bool.or_eq_true, decide_eq_true_eq]
                      grind
                    · rw [uI_nk e2]
                      grind
            · refine wp_aload_n rfl rfl ?_
              refine wp_iload_n rfl rfl ?_
              refine cV1 rfl l_9_74 i_X1_isMast m_X1_isMast (by first | rfl | assumption) (by decide) (c_X1_isMast G _ _ _ _ _) rfl (Nat.le_of_ble_eq_true rfl) ?_
              refine wp_if_eq 58 rfl rfl (fun h21 => ?_) (fun h21 => ?_)
              · exact absurd (by rw [h12]; exact hv) (b2_eq.mp h21)
              · refine wp_iload rfl rfl ?_
                refine wp_bipush (v := 14) rfl rfl ?_
                refine wp_icmp_ge 58 rfl rfl (fun h24 => absurd h24 hlt2) (fun _ => ?_)
                refine wp_aload_n rfl rfl ?_
                refine wp_iload rfl rfl ?_
                refine wp_aload_n rfl rfl ?_
                refine q_getr rfl rfl (by first | rfl | assumption) rfl rfl ?_
                refine wp_iload_n rfl rfl ?_
                refine q_area rfl rfl (by omega) ?_
                refine cV1 rfl l_9_78 i_X1_couldHurt m_X1_couldHurt (by first | rfl | assumption) (by decide) (c_couldHurtW G _ _ _ _ hIV (by omega) (by omega)) rfl (Nat.le_of_ble_eq_true rfl) ?_
                refine wp_if_eq 56 rfl rfl (fun h32 => ?_) (fun h32 => ?_)
                · refine wp_iinc (v := nI (k + 1)) (lv' := [(4, _), (0, _), (1, _), (2, _), (3, _)]) rfl rfl (nI_1 k) (by decide) rfl ?_
                  refine wp_goto 18 rfl rfl ?_
                  refine wp_loc (lv' := [(0, _), (1, _), (2, _), (3, _), (4, _)]) [1, 2, 3, 4, 0] rfl ?_
                  exact ihp (k + 1) (by omega) J hJ (fun m hm s hs => (hN m hm s hs).trans (NP_no hc))
                · exact absurd (b2_ne.mp h32) (by rw [hcl]; exact hc)
          · refine wp_aload_n rfl rfl ?_
            refine wp_iload_n rfl rfl ?_
            refine cV1 rfl l_9_74 i_X1_isMast m_X1_isMast (by first | rfl | assumption) (by decide) (c_X1_isMast G _ _ _ _ _) rfl (Nat.le_of_ble_eq_true rfl) ?_
            refine wp_if_eq 58 rfl rfl (fun h21 => ?_) (fun h21 => ?_)
            · refine wp_iinc (v := nI (i + 1)) (lv' := [(2, _), (0, _), (1, _), (3, _), (4, _)]) rfl rfl (nI_1 i) (by decide) rfl ?_
              refine wp_goto 6 rfl rfl ?_
              refine wp_loc (lv' := [(0, _), (1, _), (2, _)]) [1, 2, 0] rfl ?_
              exact ih (i + 1) (by omega) J hJ (fun m hm s hs => (hN m hm s hs).trans (NP_skip (fun s => cld_not h hv)))
            · exact absurd (b2_ne.mp h21) (by rw [h12]; exact hv)
      refine wp_iload_n rfl rfl ?_
      refine wp_aload_n rfl rfl ?_
      refine q_geti rfl rfl (by first | rfl | assumption) rfl ?_
      refine wp_icmp_ge 60 rfl rfl (fun h9 => absurd h9 hlt) (fun _ => ?_)
      refine wp_aload_n rfl rfl ?_
      refine q_getr rfl rfl (by first | rfl | assumption) rfl rfl ?_
      refine wp_iload_n rfl rfl ?_
      refine q_area rfl rfl (by omega) ?_
      refine q_geti rfl rfl (by first | rfl | assumption) rfl ?_
      refine wp_istore_n (lv' := [(3, _), (0, _), (1, _), (2, _)]) rfl rfl (by decide) rfl ?_
      refine wp_iconst (v := 0) rfl rfl ?_
      refine wp_istore (lv' := [(4, _), (3, _), (0, _), (1, _), (2, _)]) rfl (by decide) rfl ?_
      refine wp_loc (lv' := [(0, _), (1, _), (2, _), (3, _), (4, _)]) [2, 3, 4, 1, 0] rfl ?_
      rw [e6]
      exact inner 14 0 (by omega) J hJ hN
  refine MT.intro m_X9_findNear rfl (Nat.le_of_ble_eq_true rfl) ?_
  show WQ G (d + 3) Y_X9_findNear Q 0 [(0, .ref 39), (1, .ref 1)] [] (I, L, RR b)
  refine wp_aload_n rfl rfl ?_
  refine q_getr rfl rfl (by first | rfl | assumption) rfl rfl ?_
  refine wp_iconst (v := 0) rfl rfl ?_
  refine cS0 rfl l_9_56 s_J7_fill_53178 m_J7_fill_53178 (c_fillI G _ (a := 40) (len := 10) _ _ _ _ rfl (by decide)) rfl (Nat.le_of_ble_eq_true rfl) ?_
  refine wp_iconst (v := 0) rfl rfl ?_
  refine wp_istore_n (lv' := [(2, _), (0, _), (1, _)]) rfl rfl (by decide) rfl ?_
  refine wp_loc (lv' := [(0, _), (1, _), (2, _)]) [1, 2, 0] rfl ?_
  refine outer nr 0 (by omega) _ (fun q hq => ?_) (fun m hm s hs => ?_)
  · funext k; unfold flI; rw [if_neg (fun z => hq z.1)]
  · have : flI I 40 10 0 40 m = 0 := by unfold flI; rw [if_pos ⟨rfl, hm⟩]
    rw [this, b_0]
    constructor
    · intro z; cases z
    · rintro (⟨a, h1, _⟩ | ⟨a, h1, _⟩) <;> omega
theorem c_X9_bannedFor (G : Gl) (d : Nat) {nm na nr m : Nat} (J : IF) (L : LF) (b : Bool) (h : IW nm na nr J) (hm : m < nm) : MQ2 G (d + 1) Y_X9_bannedFor [.ref 39, .ref 1, .int (nI m)] (J, L, RR b) (fun r w => w = (J, L, RR b) ∧ ∃ v : Int32, r = some (.int v) ∧ ∀ c, c < 12 → (bt v c = true ↔ ∃ s, s < 14 ∧ bt (J 40 m) s = true ∧ J (4 + m) 7 < (if s < 10 then J (4 + s) 7 else J (4 + s) 8) ∧ J (4 + s) 5 = nI c)) := by
  have hn : nm ≤ 10 := h.1.1.2.2
  have hin : vp_in (nI m) 10 := vp_in_nI (by omega) (by omega)
  have hclm : (nI m).toNatClampNeg = m := nI_clamp (by omega)
  have hsm := sh_mast m (by omega)
  generalize hQ : (fun (r : Option Value) (w : mW) => w = (J, L, RR b) ∧ ∃ v : Int32, r = some (.int v) ∧ ∀ c, c < 12 → (bt v c = true ↔ ∃ s, s < 14 ∧ bt (J 40 m) s = true ∧ J (4 + m) 7 < (if s < 10 then J (4 + s) 7 else J (4 + s) 8) ∧ J (4 + s) 5 = nI c)) = Q
  have loop : ∀ (n i : Nat) (v : Int32), i + n = 14 → (∀ c, c < 12 → (bt v c = true ↔ ∃ s, s < i ∧ bt (J 40 m) s = true ∧ J (4 + m) 7 < (if s < 10 then J (4 + s) 7 else J (4 + s) 8) ∧ J (4 + s) 5 = nI c)) → WQ G (d + 1) Y_X9_bannedFor Q 10 [(0, .ref 39), (1, .ref 1), (2, .int (nI m)), (3, .int (J (4 + m) 7)), (4, .int v), (5, .int (nI i))] [] (J, L, RR b) := by
    intro n
    induction n with
    | zero =>
      intro i v hi hv
      have hie : i = 14 := by omega
      subst hie
      refine wp_iload rfl rfl ?_
      refine wp_bipush (v := 14) rfl rfl ?_
      refine wp_icmp_ge 46 rfl rfl (fun _ => ?_) (fun h12 => absurd (show (14 : Int32) ≤ nI 14 by decide) h12)
      refine wp_iload rfl rfl ?_
      exact wp_iret rfl rfl (by rw [← hQ]; exact ⟨rfl, v, rfl, hv⟩)
    | succ n ih =>
      intro i v hi hv
      have hlt : ¬ (14 : Int32) ≤ nI i := nI_ge (a := i) (b := 14) (by omega) (by omega)
      have hsi := sh_mast i (by omega)
      have hchan := (h.2.1 i (by omega)).2.2.2.2
      obtain ⟨c0, hc0, ec0⟩ := nI_of2 (x := J (4 + i) 5) (M := 11) (n := 11) rfl (by grind) hchan.2
      have next : ∀ v' : Int32, (∀ c, c < 12 → (bt v' c = true ↔ bt v c = true ∨ (bt (J 40 m) i = true ∧ J (4 + m) 7 < (if i < 10 then J (4 + i) 7 else J (4 + i) 8) ∧ c = c0))) → WQ G (d + 1) Y_X9_bannedFor Q 10 [(0, .ref 39), (1, .ref 1), (2, .int (nI m)), (3, .int (J (4 + m) 7)), (4, .int v'), (5, .int (nI (i + 1)))] [] (J, L, RR b) := by
        intro v' hv'
        refine ih (i + 1) v' (by omega) (fun c hc => ?_)
        rw [hv' c hc, hv c hc]
        constructor
        · rintro (⟨s, h1, h2⟩ | ⟨h1, h2, h3⟩)
          · exact ⟨s, by omega, h2⟩
          · exact ⟨i, by omega, h1, h2, by rw [ec0, h3]⟩
        · rintro ⟨s, h1, h2, h3, h4⟩
          rcases Nat.lt_or_ge s i with e | e
          · exact Or.inl ⟨s, e, h2, h3, h4⟩
          · have : s = i := by omega
            subst this
            exact Or.inr ⟨h2, h3, by rw [ec0] at h4; exact ((nI_eq (by omega) (by omega)).mp h4).symm⟩
      have fin2 : ∀ u : Int32, u = (if i < 10 then J (4 + i) 7 else J (4 + i) 8) → WQ G (d + 1) Y_X9_bannedFor Q 26 [(0, .ref 39), (1, .ref 1), (2, .int (nI m)), (3, .int (J (4 + m) 7)), (4, .int v), (5, .int (nI i)), (6, .ref (4 + i))] [.int u] (J, L, RR b) := by
        intro u hu
        refine wp_istore (lv' := [(7, _), (0, _), (1, _), (2, _), (3, _), (4, _), (5, _), (6, _)]) rfl (by decide) rfl ?_
        refine wp_aload_n rfl rfl ?_
        refine q_getr rfl rfl (by first | rfl | assumption) rfl rfl ?_
        refine wp_iload_n rfl rfl ?_
        refine q_iald rfl (by first | rfl | assumption) (by assumption) ?_
        refine wp_iload rfl rfl ?_
        refine cN1 rfl ln_9_88 s_X10_isIn m_X10_isIn (c_isIn G _ _ rfl (by omega) _) rfl (Nat.le_of_ble_eq_true rfl) ?_
        refine wp_if_eq 44 rfl rfl (fun h33 => ?_) (fun h33 => ?_)
        · refine wp_iinc (v := nI (i + 1)) (lv' := [(5, _), (7, _), (0, _), (1, _), (2, _), (3, _), (4, _), (6, _)]) rfl rfl (nI_1 i) (by decide) rfl ?_
          refine wp_goto 10 rfl rfl ?_
          refine wp_loc (lv' := [(0, _), (1, _), (2, _), (3, _), (4, _), (5, _)]) [2, 3, 4, 5, 6, 0] rfl ?_
          first
          | (have hnot : ¬ bt (J 40 m) i = true := by (have := b2_eq.mp h33; rw [hclm] at this; exact this)
             exact next _ (fun c hc => by grind))
          | (have hnot : ¬ J (4 + m) 7 < u := by grind
             exact next _ (fun c hc => by grind))
          | (have h1 : bt (J 40 m) i = true := by (have := b2_ne.mp h33; rw [hclm] at this; exact this)
             have h2 : J (4 + m) 7 < u := by grind
             refine next _ (fun c hc => ?_)
             rw [ec0, bt_add (by omega) (by omega), Bool.or_eq_true, decide_eq_true_eq]
             grind)
        · refine wp_iload rfl rfl ?_
          refine wp_iload_n rfl rfl ?_
          refine wp_icmp_le 44 rfl rfl (fun h36 => ?_) (fun h36 => ?_)
          · refine wp_iinc (v := nI (i + 1)) (lv' := [(5, _), (7, _), (0, _), (1, _), (2, _), (3, _), (4, _), (6, _)]) rfl rfl (nI_1 i) (by decide) rfl ?_
            refine wp_goto 10 rfl rfl ?_
            refine wp_loc (lv' := [(0, _), (1, _), (2, _), (3, _), (4, _), (5, _)]) [2, 3, 4, 5, 6, 0] rfl ?_
            first
            | (have hnot : ¬ bt (J 40 m) i = true := by (have := b2_eq.mp h33; rw [hclm] at this; exact this)
               exact next _ (fun c hc => by grind))
            | (have hnot : ¬ J (4 + m) 7 < u := by grind
               exact next _ (fun c hc => by grind))
            | (have h1 : bt (J 40 m) i = true := by (have := b2_ne.mp h33; rw [hclm] at this; exact this)
               have h2 : J (4 + m) 7 < u := by grind
               refine next _ (fun c hc => ?_)
               rw [ec0, bt_add (by omega) (by omega), Bool.or_eq_true, decide_eq_true_eq]
               grind)
          · refine wp_iload rfl rfl ?_
            refine wp_iconst (v := 1) rfl rfl ?_
            refine wp_aload rfl rfl ?_
            refine q_geti rfl rfl (by first | rfl | assumption) rfl ?_
            refine wp_ishl rfl ?_
            refine wp_ior rfl ?_
            refine wp_istore (lv' := [(4, _), (7, _), (0, _), (1, _), (2, _), (3, _), (5, _), (6, _)]) rfl (by decide) rfl ?_
            refine wp_iinc (v := nI (i + 1)) (lv' := [(5, _), (4, _), (7, _), (0, _), (1, _), (2, _), (3, _), (6, _)]) rfl rfl (nI_1 i) (by decide) rfl ?_
            refine wp_goto 10 rfl rfl ?_
            refine wp_loc (lv' := [(0, _), (1, _), (2, _), (3, _), (4, _), (5, _)]) [3, 4, 5, 6, 1, 0] rfl ?_
            first
            | (have hnot : ¬ bt (J 40 m) i = true := by (have := b2_eq.mp h33; rw [hclm] at this; exact this)
               exact next _ (fun c hc => by grind))
            | (have hnot : ¬ J (4 + m) 7 < u := by grind
               exact next _ (fun c hc => by grind))
            | (have h1 : bt (J 40 m) i = true := by (have := b2_ne.mp h33; rw [hclm] at this; exact this)
               have h2 : J (4 + m) 7 < u := by grind
               refine next _ (fun c hc => ?_)
               rw [ec0, bt_add (by omega) (by omega), Bool.or_eq_true, decide_eq_true_eq]
               grind)
      refine wp_iload rfl rfl ?_
      refine wp_bipush (v := 14) rfl rfl ?_
      refine wp_icmp_ge 46 rfl rfl (fun h12 => absurd h12 hlt) (fun _ => ?_)
      refine wp_aload_n rfl rfl ?_
      refine q_getr rfl rfl (by first | rfl | assumption) rfl rfl ?_
      refine wp_iload rfl rfl ?_
      refine q_mast rfl rfl (by omega) ?_
      refine wp_astore (lv' := [(6, _), (0, _), (1, _), (2, _), (3, _), (4, _), (5, _)]) rfl (by decide) rfl ?_
      refine wp_iload rfl rfl ?_
      refine wp_bipush (v := 10) rfl rfl ?_
      refine wp_icmp_ge 24 rfl rfl (fun h20 => ?_) (fun h20 => ?_)
      · refine wp_aload rfl rfl ?_
        refine q_geti rfl rfl (by first | rfl | assumption) rfl ?_
        refine wp_loc (lv' := [(0, _), (1, _), (2, _), (3, _), (4, _), (5, _), (6, _)]) [1, 2, 3, 4, 5, 6, 0] rfl ?_
        first
        | exact fin2 _ (by rw [if_pos (by rcases Nat.lt_or_ge i 10 with z | z; exact z; exact absurd (nI_le (a := 10) (b := i) z (by omega)) h20)])
        | exact fin2 _ (by rw [if_neg (fun z => (nI_ge (a := i) (b := 10) z (by omega)) h20)])
      · refine wp_aload rfl rfl ?_
        refine q_geti rfl rfl (by first | rfl | assumption) rfl ?_
        refine wp_goto 26 rfl rfl ?_
        refine wp_loc (lv' := [(0, _), (1, _), (2, _), (3, _), (4, _), (5, _), (6, _)]) [1, 2, 3, 4, 5, 6, 0] rfl ?_
        first
        | exact fin2 _ (by rw [if_pos (by rcases Nat.lt_or_ge i 10 with z | z; exact z; exact absurd (nI_le (a := 10) (b := i) z (by omega)) h20)])
        | exact fin2 _ (by rw [if_neg (fun z => (nI_ge (a := i) (b := 10) z (by omega)) h20)])
  refine MT.intro m_X9_bannedFor rfl (Nat.le_of_ble_eq_true rfl) ?_
  show WQ G (d + 1) Y_X9_bannedFor Q 0 [(0, .ref 39), (1, .ref 1), (2, .int (nI m))] [] (J, L, RR b)
  refine wp_aload_n rfl rfl ?_
  refine q_getr rfl rfl (by first | rfl | assumption) rfl rfl ?_
  refine wp_iload_n rfl rfl ?_
  refine q_mast rfl rfl (by omega) ?_
  refine q_geti rfl rfl (by first | rfl | assumption) rfl ?_
  refine wp_istore_n (lv' := [(3, _), (0, _), (1, _), (2, _)]) rfl rfl (by decide) rfl ?_
  refine wp_iconst (v := 0) rfl rfl ?_
  refine wp_istore (lv' := [(4, _), (3, _), (0, _), (1, _), (2, _)]) rfl (by decide) rfl ?_
  refine wp_iconst (v := 0) rfl rfl ?_
  refine wp_istore (lv' := [(5, _), (4, _), (3, _), (0, _), (1, _), (2, _)]) rfl (by decide) rfl ?_
  refine wp_loc (lv' := [(0, _), (1, _), (2, _), (3, _), (4, _), (5, _)]) [3, 4, 5, 2, 1, 0] rfl ?_
  exact loop 14 0 0 (by omega) (fun c hc => by rw [b_0]; exact ⟨fun z => (by cases z), fun ⟨s, hs, _⟩ => absurd hs (by omega)⟩)
