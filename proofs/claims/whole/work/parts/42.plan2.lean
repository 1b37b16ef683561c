/-! the plan, in the class: what can follow, first and last turns, calm weeks -/
theorem bt_nI {S i : Nat} (hi : i < 32) : bt (nI S) i = S.testBit i := by
  show (BitVec.ofNat 32 S).getLsbD i = _
  rw [BitVec.getLsbD_ofNat]
  simp [hi]
theorem nI_and {a b : Nat} : nI a &&& nI b = nI (a &&& b) := by
  apply Int32.toBitVec_inj.mp
  rw [Int32.toBitVec_and]
  show BitVec.ofNat 32 a &&& BitVec.ofNat 32 b = BitVec.ofNat 32 (a &&& b)
  rw [BitVec.ofNat_and]
theorem nI_bit {S m : Nat} (hm : m < 12) : nI S ||| (1 <<< (nI m &&& 31)) = nI (S ||| 2 ^ m) := by rw [sh1 m hm, nI_or]
def zI (n : Nat) : Int32 := nI n - 1
theorem zI_0 : zI 0 = -1 := rfl
theorem zI_s (n : Nat) : zI (n + 1) = nI n := nI_pred n
theorem zI_lt {a b : Nat} (ha : a < 2 ^ 30) (hb : b < 2 ^ 30) : zI a < nI b ↔ a < b + 1 := by
  cases a with
  | zero =>
    rw [zI_0]
    have : (0 : Int32) ≤ nI b := nI_pos' (by omega)
    constructor
    · intro _; omega
    · intro _; grind
  | succ a => rw [zI_s, nI_ltI (by omega) (by omega)]; omega
theorem zI_ltz {a b : Nat} (ha : a < 2 ^ 30) (hb : b < 2 ^ 30) : zI a < zI b ↔ a < b := by
  cases b with
  | zero =>
    rw [zI_0]
    cases a with
    | zero => rw [zI_0]; simp
    | succ a =>
      rw [zI_s]
      have : (0 : Int32) ≤ nI a := nI_pos' (by omega)
      constructor
      · intro _; grind
      · intro _; omega
  | succ b => rw [zI_s, zI_lt ha (by omega)]
theorem zI_eq {a b : Nat} (ha : a < 2 ^ 30) (hb : b < 2 ^ 30) : zI a = nI b ↔ a = b + 1 := by
  cases a with
  | zero =>
    rw [zI_0]
    have : (0 : Int32) ≤ nI b := nI_pos' (by omega)
    constructor
    · intro _; grind
    · intro _; omega
  | succ a => rw [zI_s, nI_eq (by omega) (by omega)]; omega
theorem zI_m1 {a : Nat} (ha : a < 2 ^ 30) : zI a = -1 ↔ a = 0 := by
  cases a with
  | zero => simp [zI_0]
  | succ a =>
    rw [zI_s]
    have : (0 : Int32) ≤ nI a := nI_pos' (by omega)
    constructor
    · intro _; grind
    · intro _; omega
/-- a week is windy -/
def wnd (v : Int64) (w : Nat) : Bool := decide (¬ (v >>> ((nI w).toInt64 &&& 63)) &&& 1 = 0)
theorem c_X5_isWindy (G : Gl) (d : Nat) (v : Int64) (k : Nat) (w : mW) : MD G d Y_X5_isWindy [.long v, .int (nI k)] w (some (.int (b2 (wnd v k = true)))) w := by
  refine MT.intro m_X5_isWindy rfl (Nat.le_of_ble_eq_true rfl) ?_
  show WQ G d Y_X5_isWindy _ 0 [(0, .long v), (2, .int (nI k))] [] w
  refine wp_lload_n rfl rfl ?_
  refine wp_iload_n rfl rfl ?_
  refine wp_lshr rfl ?_
  refine wp_lconst (v := 1) rfl rfl ?_
  refine wp_land rfl ?_
  refine wp_lconst (v := 0) rfl rfl ?_
  refine wp_lcmp rfl ?_
  refine wp_if_eq 10 rfl rfl (fun h7 => ?_) (fun h7 => ?_)
  · refine wp_iconst (v := 0) rfl rfl ?_
    exact wp_zret rfl rfl (by first | rfl | exact nb2 _ | assumption) (⟨by unfold wnd; simp only [lg_cmp] at *; grind [b2], rfl⟩)
  · refine wp_iconst (v := 1) rfl rfl ?_
    refine wp_goto 11 rfl rfl ?_
    exact wp_zret rfl rfl (by first | rfl | exact nb2 _ | assumption) (⟨by unfold wnd; simp only [lg_cmp] at *; grind [b2], rfl⟩)
/-- the land as the plan sees it -/
def PI (P : PL) (I : IF) : Prop := I 1 2 = nI (pN P) ∧ ∀ m, m < pN P → I (4 + m) 4 = b2 (pH P m = true) ∧ I (4 + m) 3 = (match pF P m with | none => -1 | some f => nI f)
theorem PI_cg {P : PL} {I J : IF} (h : PI P I) (h1 : J 1 = I 1) (h2 : ∀ m k, m < 10 → k ≠ 6 → k ≠ 7 → J (4 + m) k = I (4 + m) k) (hn : pN P ≤ 10) : PI P J := by
  refine ⟨by rw [h1]; exact h.1, fun m hm => ?_⟩
  rw [h2 m 4 (by omega) (by decide) (by decide), h2 m 3 (by omega) (by decide) (by decide)]
  exact h.2 m hm
theorem c_X5_allOf (G : Gl) (d : Nat) {P : PL} (hp : plok P) (I : IF) (L : LF) (R : RF) (h : PI P I) : MD G d Y_X5_allOf [.ref 1] (I, L, R) (some (.int (nI (allS P)))) (I, L, R) := by
  have e : (1 : Int32) <<< (I 1 2 &&& 31) - 1 = nI (allS P) := by
    rw [h.1, sh1 _ (by have := hp.2.1; omega)]
    exact nI_m1 (Nat.two_pow_pos _)
  refine MT.intro m_X5_allOf rfl (Nat.le_of_ble_eq_true rfl) ?_
  show WQ G d Y_X5_allOf _ 0 [(0, .ref 1)] [] (I, L, R)
  refine wp_iconst (v := 1) rfl rfl ?_
  refine wp_aload_n rfl rfl ?_
  refine q_geti rfl rfl (by first | rfl | assumption) rfl ?_
  refine wp_ishl rfl ?_
  refine wp_iconst (v := 1) rfl rfl ?_
  refine wp_isub rfl ?_
  exact wp_iret rfl rfl (⟨by rw [e], rfl⟩)
theorem c_X5_canFollow (G : Gl) (d : Nat) {P : PL} (hp : plok P) {m S : Nat} (I : IF) (L : LF) (R : RF) (h : PI P I) (hm : m < pN P) : MD G (d + 1) Y_X5_canFollow [.ref (4 + m), .int (nI m), .int (nI S)] (I, L, R) (some (.int (b2 (folB P S m = true)))) (I, L, R) := by
  have hn := hp.2.1
  have hsm := sh_mast m (by omega)
  have hf3 := (h.2 m hm).2
  have hin1 : ∀ w, MD G d Y_X10_isIn [.int (nI S), .int (nI m)] w (some (.int (b2 (S.testBit m = true)))) w := fun w => by
    have := c_isIn G d (nI S) (x := nI m) rfl (show m < 32 by omega) w
    rw [bt_nI (by omega)] at this
    exact this
  cases hf : pF P m with
  | none =>
    rw [hf] at hf3
    have hf3 : I (4 + m) 3 = -1 := hf3
    have e : folB P S m = !S.testBit m := by unfold folB fdB; rw [hf]; simp
    refine MT.intro m_X5_canFollow rfl (Nat.le_of_ble_eq_true rfl) ?_
    show WQ G (d + 1) Y_X5_canFollow _ 0 [(0, .ref (4 + m)), (1, .int (nI m)), (2, .int (nI S))] [] (I, L, R)
    refine wp_iload_n rfl rfl ?_
    refine wp_iload_n rfl rfl ?_
    refine cN1 rfl ln_5_57 s_X10_isIn m_X10_isIn (hin1 _) rfl (Nat.le_of_ble_eq_true rfl) ?_
    refine wp_if_ne 15 rfl rfl (fun h3 => ?_) (fun h3 => ?_)
    · refine wp_iconst (v := 0) rfl rfl ?_
      exact wp_zret rfl rfl (by first | rfl | exact nb2 _ | assumption) (⟨by rw [e]; grind [b2], rfl⟩)
    · refine wp_aload_n rfl rfl ?_
      refine q_geti rfl rfl (by first | rfl | assumption) rfl ?_
      refine wp_iconst (v := (-1)) rfl rfl ?_
      refine wp_icmp_eq 13 rfl rfl (fun _ => ?_) (fun h7 => absurd hf3 h7)
      refine wp_iconst (v := 1) rfl rfl ?_
      refine wp_goto 16 rfl rfl ?_
      exact wp_zret rfl rfl (by first | rfl | exact nb2 _ | assumption) (⟨by rw [e]; grind [b2], rfl⟩)
  | some f =>
    rw [hf] at hf3
    have hf3 : I (4 + m) 3 = nI f := hf3
    have hfm := hp.2.2.2.2 m f hm hf
    have hne : ¬ I (4 + m) 3 = -1 := by rw [hf3]; have := nI_pos' (n := f) (by omega); grind
    have e : folB P S m = (!S.testBit m && S.testBit f) := by unfold folB fdB; rw [hf]
    have hin2 : ∀ w, MD G d Y_X10_isIn [.int (nI S), .int (I (4 + m) 3)] w (some (.int (b2 (S.testBit f = true)))) w := fun w => by
      have := c_isIn G d (nI S) (x := I (4 + m) 3) hf3 (show f < 32 by omega) w
      rw [bt_nI (by omega)] at this
      exact this
    refine MT.intro m_X5_canFollow rfl (Nat.le_of_ble_eq_true rfl) ?_
    show WQ G (d + 1) Y_X5_canFollow _ 0 [(0, .ref (4 + m)), (1, .int (nI m)), (2, .int (nI S))] [] (I, L, R)
    refine wp_iload_n rfl rfl ?_
    refine wp_iload_n rfl rfl ?_
    refine cN1 rfl ln_5_57 s_X10_isIn m_X10_isIn (hin1 _) rfl (Nat.le_of_ble_eq_true rfl) ?_
    refine wp_if_ne 15 rfl rfl (fun h3 => ?_) (fun h3 => ?_)
    · refine wp_iconst (v := 0) rfl rfl ?_
      exact wp_zret rfl rfl (by first | rfl | exact nb2 _ | assumption) (⟨by rw [e]; grind [b2], rfl⟩)
    · refine wp_aload_n rfl rfl ?_
      refine q_geti rfl rfl (by first | rfl | assumption) rfl ?_
      refine wp_iconst (v := (-1)) rfl rfl ?_
      refine wp_icmp_eq 13 rfl rfl (fun h7 => absurd h7 hne) (fun _ => ?_)
      refine wp_iload_n rfl rfl ?_
      refine wp_aload_n rfl rfl ?_
      refine q_geti rfl rfl (by first | rfl | assumption) rfl ?_
      refine cN1 rfl ln_5_57 s_X10_isIn m_X10_isIn (hin2 _) rfl (Nat.le_of_ble_eq_true rfl) ?_
      refine wp_if_eq 15 rfl rfl (fun h12 => ?_) (fun h12 => ?_)
      · refine wp_iconst (v := 0) rfl rfl ?_
        exact wp_zret rfl rfl (by first | rfl | exact nb2 _ | assumption) (⟨by rw [e]; grind [b2], rfl⟩)
      · refine wp_iconst (v := 1) rfl rfl ?_
        refine wp_goto 16 rfl rfl ?_
        exact wp_zret rfl rfl (by first | rfl | exact nb2 _ | assumption) (⟨by rw [e]; grind [b2], rfl⟩)
/-- crews and the calm weeks, as the planner holds them -/
def PC (P : PL) (I : IF) : Prop := I 34 4 = nI (pC P) ∧ (∀ w, w ≤ 52 → I 37 w = nI (cfN P w)) ∧ ∀ w, w < 52 → I 38 w = zI (cuN P (w + 1))
theorem cf_self {P : PL} {w : Nat} (hw : w < 52) : cfN P w = w ↔ pW P w = true := by
  obtain ⟨a1, a2, a3, a4⟩ := cfR_spec P (52 - w) (Nat.sub_le _ _)
  rw [Nat.sub_sub_self (by omega)] at a1 a4
  unfold cfN
  constructor
  · intro h
    have := a3 (by omega)
    rw [h] at this
    exact this
  · intro h
    apply Classical.byContradiction
    intro hz
    rw [a4 w (Nat.le_refl _) (by omega)] at h
    cases h
theorem cu_self {P : PL} {w : Nat} : cuN P (w + 1) = w + 1 ↔ pW P w = true := by
  constructor
  · intro h
    exact (cuN_spec P (w + 1)).2.1 w h
  · intro h
    simp only [cuN]
    rw [if_pos h]
theorem cf_le {P : PL} {w : Nat} : cfN P w ≤ 52 := (cfR_spec P (52 - w) (Nat.sub_le _ _)).2.1
theorem nI_mul2 (a b : Nat) : nI a * nI b = nI (a * b) := pk_mul ..
theorem c_X5_firstTurn (G : Gl) (d : Nat) {P : PL} (hp : plok P) {t : Nat} (h : Bool) (I : IF) (L : LF) (b : Bool) (hc : PC P I) (ht : t ≤ 157) : MD G d Y_X5_firstTurn [.ref 34, .int (b2 (h = true)), .int (nI t)] (I, L, RR b) (some (.int (nI (fstN P h t)))) (I, L, RR b) := by
  obtain ⟨n1, n2, c1, c2, -⟩ := id hp
  have hcne : ¬ I 34 4 = 0 := by rw [hc.1]; exact nI_ne0 (by omega) (by omega)
  have hdiv : nI t / I 34 4 = nI (t / pC P) := by rw [hc.1, pk_div (by omega) (by omega) (by omega)]
  have hq : t / pC P ≤ 157 := Nat.le_trans (Nat.div_le_self _ _) ht
  by_cases h52 : 52 ≤ t / pC P
  · have e : fstN P h t = 156 := by unfold fstN; rw [if_pos h52]
    have hnlt : ¬ nI (t / pC P) < (52 : Int32) := nI_nlt (b := 52) h52 (by omega)
    refine MT.intro m_X5_firstTurn rfl (Nat.le_of_ble_eq_true rfl) ?_
    show WQ G d Y_X5_firstTurn _ 0 [(0, .ref 34), (1, .int (b2 (h = true))), (2, .int (nI t))] [] (I, L, RR b)
    refine wp_iload_n rfl rfl ?_
    refine wp_aload_n rfl rfl ?_
    refine q_geti rfl rfl (by first | rfl | assumption) rfl ?_
    refine wp_idiv rfl hcne ?_
    rw [hdiv]
    refine wp_istore_n (lv' := [(3, _), (0, _), (1, _), (2, _)]) rfl rfl (by decide) rfl ?_
    refine wp_iload_n rfl rfl ?_
    refine wp_bipush (v := 52) rfl rfl ?_
    refine wp_icmp_lt 10 rfl rfl (fun h7 => absurd h7 hnlt) (fun _ => ?_)
    refine wp_sipush (v := 156) rfl rfl ?_
    exact wp_iret rfl rfl (⟨by rw [e]; rfl, rfl⟩)
  · have hlt : nI (t / pC P) < (52 : Int32) := nI_lt (b := 52) (by omega) (by omega)
    have hin : vp_in (nI (t / pC P)) 53 := vp_in_nI (by omega) (by omega)
    have hcl : (nI (t / pC P)).toNatClampNeg = t / pC P := nI_clamp (by omega)
    have e37 : I 37 (nI (t / pC P)).toNatClampNeg = nI (cfN P (t / pC P)) := by rw [hcl]; exact hc.2.1 _ (by omega)
    have hcf := cf_le (P := P) (w := t / pC P)
    have hself := cf_self (P := P) (w := t / pC P) (by omega)
    have hcmp : (nI (cfN P (t / pC P)) = nI (t / pC P)) ↔ pW P (t / pC P) = true := by rw [nI_eq (by omega) (by omega)]; exact hself
    have hcmp2 : ((52 : Int32) ≤ nI (cfN P (t / pC P))) ↔ ¬ cfN P (t / pC P) < 52 := by rw [show (52 : Int32) = nI 52 from rfl, nI_leI (by omega) (by omega)]; omega
    have e : fstN P h t = if (!h || pW P (t / pC P)) then t else if cfN P (t / pC P) < 52 then cfN P (t / pC P) * pC P else 156 := by unfold fstN; rw [if_neg h52]
    rw [e]
    refine MT.intro m_X5_firstTurn rfl (Nat.le_of_ble_eq_true rfl) ?_
    show WQ G d Y_X5_firstTurn _ 0 [(0, .ref 34), (1, .int (b2 (h = true))), (2, .int (nI t))] [] (I, L, RR b)
    refine wp_iload_n rfl rfl ?_
    refine wp_aload_n rfl rfl ?_
    refine q_geti rfl rfl (by first | rfl | assumption) rfl ?_
    refine wp_idiv rfl hcne ?_
    rw [hdiv]
    refine wp_istore_n (lv' := [(3, _), (0, _), (1, _), (2, _)]) rfl rfl (by decide) rfl ?_
    refine wp_iload_n rfl rfl ?_
    refine wp_bipush (v := 52) rfl rfl ?_
    refine wp_icmp_lt 10 rfl rfl (fun _ => ?_) (fun h7 => absurd hlt h7)
    refine wp_iload_n rfl rfl ?_
    refine wp_if_eq 18 rfl rfl (fun h11 => ?_) (fun h11 => ?_)
    · refine wp_iload_n rfl rfl ?_
      exact wp_iret rfl rfl (⟨by first | (rw [if_pos (by have := b2_eq.mp h11; cases h <;> simp_all)]) | (rw [if_pos (by have := hcmp.mp (by grind); simp [this])]), rfl⟩)
    · refine wp_aload_n rfl rfl ?_
      refine q_getr rfl rfl (by first | rfl | assumption) rfl rfl ?_
      refine wp_iload_n rfl rfl ?_
      refine q_iald rfl (by first | rfl | assumption) (by assumption) ?_
      refine wp_iload_n rfl rfl ?_
      rw [e37]
      refine wp_icmp_ne 20 rfl rfl (fun h17 => ?_) (fun h17 => ?_)
      · refine wp_aload_n rfl rfl ?_
        refine q_getr rfl rfl (by first | rfl | assumption) rfl rfl ?_
        refine wp_iload_n rfl rfl ?_
        refine q_iald rfl (by first | rfl | assumption) (by assumption) ?_
        refine wp_bipush (v := 52) rfl rfl ?_
        rw [e37]
        refine wp_icmp_ge 34 rfl rfl (fun h25 => ?_) (fun h25 => ?_)
        · refine wp_sipush (v := 156) rfl rfl ?_
          refine wp_loc (lv' := [(0, _), (1, _), (2, _), (3, _)]) [1, 2, 3, 0] rfl ?_
          have hno : ¬ (!h || pW P (t / pC P)) = true := by
            have z1 := b2_ne.mp h11
            have z2 : ¬ pW P (t / pC P) = true := fun z => h17 (hcmp.mpr z)
            simp [z1, z2]
          rw [if_neg hno]
          first
          | (rw [if_pos (Classical.byContradiction (fun z => h25 (hcmp2.mpr z))), e37, hc.1, nI_mul2]
             exact wp_iret rfl rfl ⟨rfl, rfl⟩)
          | (rw [if_neg (hcmp2.mp h25)]
             exact wp_iret rfl rfl ⟨rfl, rfl⟩)
        · refine wp_aload_n rfl rfl ?_
          refine q_getr rfl rfl (by first | rfl | assumption) rfl rfl ?_
          refine wp_iload_n rfl rfl ?_
          refine q_iald rfl (by first | rfl | assumption) (by assumption) ?_
          refine wp_aload_n rfl rfl ?_
          refine q_geti rfl rfl (by first | rfl | assumption) rfl ?_
          refine wp_imul rfl ?_
          refine wp_goto 35 rfl rfl ?_
          refine wp_loc (lv' := [(0, _), (1, _), (2, _), (3, _)]) [1, 2, 3, 0] rfl ?_
          have hno : ¬ (!h || pW P (t / pC P)) = true := by
            have z1 := b2_ne.mp h11
            have z2 : ¬ pW P (t / pC P) = true := fun z => h17 (hcmp.mpr z)
            simp [z1, z2]
          rw [if_neg hno]
          first
          | (rw [if_pos (Classical.byContradiction (fun z => h25 (hcmp2.mpr z))), e37, hc.1, nI_mul2]
             exact wp_iret rfl rfl ⟨rfl, rfl⟩)
          | (rw [if_neg (hcmp2.mp h25)]
             exact wp_iret rfl rfl ⟨rfl, rfl⟩)
      · refine wp_iload_n rfl rfl ?_
        exact wp_iret rfl rfl (⟨by first | (rw [if_pos (by have := b2_eq.mp h11; cases h <;> simp_all)]) | (rw [if_pos (by have := hcmp.mp (by grind); simp [this])]), rfl⟩)
theorem c_X5_lastTurn (G : Gl) (d : Nat) {P : PL} (hp : plok P) {v : Nat} (h : Bool) (I : IF) (L : LF) (b : Bool) (hc : PC P I) (hv : v ≤ 52 * pC P + 1) : MD G d Y_X5_lastTurn [.ref 34, .int (b2 (h = true)), .int (zI v - 1)] (I, L, RR b) (some (.int (zI (lstN P h v)))) (I, L, RR b) := by
  obtain ⟨n1, n2, c1, c2, -⟩ := id hp
  have hcne : ¬ I 34 4 = 0 := by rw [hc.1]; exact nI_ne0 (by omega) (by omega)
  by_cases h1 : v ≤ 1
  · have e : lstN P h v = 0 := by unfold lstN; rw [if_pos h1]
    have hneg : ¬ (0 : Int32) ≤ zI v - 1 := by
      rcases (show v = 0 ∨ v = 1 by omega) with z | z <;> rw [z] <;> decide
    refine MT.intro m_X5_lastTurn rfl (Nat.le_of_ble_eq_true rfl) ?_
    show WQ G d Y_X5_lastTurn _ 0 [(0, .ref 34), (1, .int (b2 (h = true))), (2, .int (zI v - 1))] [] (I, L, RR b)
    refine wp_iload_n rfl rfl ?_
    refine wp_if_ge 4 rfl rfl (fun h1 => absurd h1 hneg) (fun _ => ?_)
    refine wp_iconst (v := (-1)) rfl rfl ?_
    exact wp_iret rfl rfl (⟨by rw [e]; rfl, rfl⟩)
  · obtain ⟨u, rfl⟩ : ∃ u, v = u + 2 := ⟨v - 2, by omega⟩
    have ez : zI (u + 2) - 1 = nI u := by rw [zI_s (u + 1)]; exact nI_pred u
    rw [ez]
    have hpos : (0 : Int32) ≤ nI u := nI_pos' (by omega)
    have hdiv : nI u / I 34 4 = nI (u / pC P) := by rw [hc.1, pk_div (by omega) (by omega) (by omega)]
    have hq : u / pC P < 52 := (Nat.div_lt_iff_lt_mul c1).mpr (by omega)
    have hmin : (if (51 : Int32) < nI (u / pC P) then (51 : Int32) else nI (u / pC P)) = nI (u / pC P) := if_neg (nI_nlt (a := 51) (b := u / pC P) (by omega) (by omega))
    have hin : vp_in (nI (u / pC P)) 52 := vp_in_nI (by omega) (by omega)
    have hcl : (nI (u / pC P)).toNatClampNeg = u / pC P := nI_clamp (by omega)
    have e38 : I 38 (nI (u / pC P)).toNatClampNeg = zI (cuN P (u / pC P + 1)) := by rw [hcl]; exact hc.2.2 _ hq
    have hcu := (cuN_spec P (u / pC P + 1)).1
    have hself := cu_self (P := P) (w := u / pC P)
    have hcmp : (zI (cuN P (u / pC P + 1)) = nI (u / pC P)) ↔ pW P (u / pC P) = true := by rw [zI_eq (by omega) (by omega)]; exact hself
    have hcmp2 : (zI (cuN P (u / pC P + 1)) = -1) ↔ cuN P (u / pC P + 1) = 0 := zI_m1 (by omega)
    have e : lstN P h (u + 2) = if (!h || pW P (u / pC P)) then u + 1 else match cuN P (u / pC P + 1) with
        | 0 => 0
        | q + 1 => q * pC P + pC P := by unfold lstN; rw [if_neg (by omega)]; rfl
    rw [e]
    refine MT.intro m_X5_lastTurn rfl (Nat.le_of_ble_eq_true rfl) ?_
    show WQ G d Y_X5_lastTurn _ 0 [(0, .ref 34), (1, .int (b2 (h = true))), (2, .int (nI u))] [] (I, L, RR b)
    refine wp_iload_n rfl rfl ?_
    refine wp_if_ge 4 rfl rfl (fun _ => ?_) (fun h1 => absurd hpos h1)
    refine wp_iload_n rfl rfl ?_
    refine wp_aload_n rfl rfl ?_
    refine q_geti rfl rfl (by first | rfl | assumption) rfl ?_
    refine wp_idiv rfl hcne ?_
    rw [hdiv]
    refine wp_bipush (v := 51) rfl rfl ?_
    refine q_mmin rfl l_5_88 (Nat.le_of_ble_eq_true rfl) ?_
    rw [hmin]
    refine wp_istore_n (lv' := [(3, _), (0, _), (1, _), (2, _)]) rfl rfl (by decide) rfl ?_
    refine wp_iload_n rfl rfl ?_
    refine wp_if_eq 19 rfl rfl (fun h12 => ?_) (fun h12 => ?_)
    · refine wp_iload_n rfl rfl ?_
      exact wp_iret rfl rfl (⟨by first | (rw [if_pos (by have := b2_eq.mp h12; cases h <;> simp_all), zI_s]) | (rw [if_pos (by have := hcmp.mp (by grind); simp [this]), zI_s]), rfl⟩)
    · refine wp_aload_n rfl rfl ?_
      refine q_getr rfl rfl (by first | rfl | assumption) rfl rfl ?_
      refine wp_iload_n rfl rfl ?_
      refine q_iald rfl (by first | rfl | assumption) (by assumption) ?_
      refine wp_iload_n rfl rfl ?_
      rw [e38]
      refine wp_icmp_ne 21 rfl rfl (fun h18 => ?_) (fun h18 => ?_)
      · refine wp_aload_n rfl rfl ?_
        refine q_getr rfl rfl (by first | rfl | assumption) rfl rfl ?_
        refine wp_iload_n rfl rfl ?_
        refine q_iald rfl (by first | rfl | assumption) (by assumption) ?_
        refine wp_iconst (v := (-1)) rfl rfl ?_
        rw [e38]
        refine wp_icmp_ne 29 rfl rfl (fun h26 => ?_) (fun h26 => ?_)
        · refine wp_aload_n rfl rfl ?_
          refine q_getr rfl rfl (by first | rfl | assumption) rfl rfl ?_
          refine wp_iload_n rfl rfl ?_
          refine q_iald rfl (by first | rfl | assumption) (by assumption) ?_
          refine wp_aload_n rfl rfl ?_
          refine q_geti rfl rfl (by first | rfl | assumption) rfl ?_
          refine wp_imul rfl ?_
          refine wp_aload_n rfl rfl ?_
          refine q_geti rfl rfl (by first | rfl | assumption) rfl ?_
          refine wp_iadd rfl ?_
          refine wp_iconst (v := 1) rfl rfl ?_
          refine wp_isub rfl ?_
          refine wp_loc (lv' := [(0, _), (1, _), (2, _), (3, _)]) [1, 2, 3, 0] rfl ?_
          have hno : ¬ (!h || pW P (u / pC P)) = true := by
            have z1 := b2_ne.mp h12
            have z2 : ¬ pW P (u / pC P) = true := fun z => h18 (hcmp.mpr z)
            simp [z1, z2]
          rw [if_neg hno]
          first
          | (rw [hcmp2.mp (by first | exact h26 | grind)]
             exact wp_iret rfl rfl ⟨rfl, rfl⟩)
          | (obtain ⟨q, hq2⟩ : ∃ q, cuN P (u / pC P + 1) = q + 1 := ⟨cuN P (u / pC P + 1) - 1, by have : ¬ cuN P (u / pC P + 1) = 0 := fun z => h26 (hcmp2.mpr z); omega⟩
             rw [e38, hq2, zI_s, hc.1, nI_mul2, nI_add]
             exact wp_iret rfl rfl ⟨rfl, rfl⟩)
        · refine wp_iconst (v := (-1)) rfl rfl ?_
          refine wp_goto 41 rfl rfl ?_
          refine wp_loc (lv' := [(0, _), (1, _), (2, _), (3, _)]) [1, 2, 3, 0] rfl ?_
          have hno : ¬ (!h || pW P (u / pC P)) = true := by
            have z1 := b2_ne.mp h12
            have z2 : ¬ pW P (u / pC P) = true := fun z => h18 (hcmp.mpr z)
            simp [z1, z2]
          rw [if_neg hno]
          first
          | (rw [hcmp2.mp (by first | exact h26 | grind)]
             exact wp_iret rfl rfl ⟨rfl, rfl⟩)
          | (obtain ⟨q, hq2⟩ : ∃ q, cuN P (u / pC P + 1) = q + 1 := ⟨cuN P (u / pC P + 1) - 1, by have : ¬ cuN P (u / pC P + 1) = 0 := fun z => h26 (hcmp2.mpr z); omega⟩
             rw [e38, hq2, zI_s, hc.1, nI_mul2, nI_add]
             exact wp_iret rfl rfl ⟨rfl, rfl⟩)
      · refine wp_iload_n rfl rfl ?_
        exact wp_iret rfl rfl (⟨by first | (rw [if_pos (by have := b2_eq.mp h12; cases h <;> simp_all), zI_s]) | (rw [if_pos (by have := hcmp.mp (by grind); simp [this]), zI_s]), rfl⟩)
theorem c_X5_findCalm (G : Gl) (d : Nat) {P : PL} (v : Int64) (hw : ∀ w, w < 52 → pW P w = !wnd v w) (I : IF) (L : LF) (b : Bool) : MQ2 G (d + 1) Y_X5_findCalm [.ref 34, .long v] (I, L, RR b) (fun r w => r = none ∧ ∃ J : IF, w = (J, L, RR b) ∧ (∀ q, q ≠ 37 → q ≠ 38 → J q = I q) ∧ (∀ w, w ≤ 52 → J 37 w = nI (cfN P w)) ∧ ∀ w, w < 52 → J 38 w = zI (cuN P (w + 1))) := by
  generalize hQ : (fun (r : Option Value) (w : mW) => r = none ∧ ∃ J : IF, w = (J, L, RR b) ∧ (∀ q, q ≠ 37 → q ≠ 38 → J q = I q) ∧ (∀ w, w ≤ 52 → J 37 w = nI (cfN P w)) ∧ ∀ w, w < 52 → J 38 w = zI (cuN P (w + 1))) = Q
  have loop2 : ∀ (p i : Nat), i + p = 52 → ∀ J : IF, (∀ q, q ≠ 37 → q ≠ 38 → J q = I q) → (∀ w, w ≤ 52 → J 37 w = nI (cfN P w)) → (∀ w, w < i → J 38 w = zI (cuN P (w + 1))) → WQ G (d + 1) Y_X5_findCalm Q 31 [(0, .ref 34), (1, .long v), (3, .int (zI (cuN P i))), (4, .int (nI i))] [] (J, L, RR b) := by
    intro p
    induction p with
    | zero =>
      intro i hi J f1 f2 f3
      have hie : i = 52 := by omega
      subst hie
      refine wp_iload rfl rfl ?_
      refine wp_bipush (v := 52) rfl rfl ?_
      refine wp_icmp_ge 49 rfl rfl (fun _ => ?_) (fun h33 => absurd (show (52 : Int32) ≤ nI 52 by decide) h33)
      exact wp_vret rfl rfl (by rw [← hQ]; exact ⟨rfl, J, rfl, f1, f2, f3⟩)
    | succ p ih =>
      intro i hi J f1 f2 f3
      have hlt : ¬ (52 : Int32) ≤ nI i := nI_ge (a := i) (b := 52) (by omega) (by omega)
      have hin : vp_in (nI i) 52 := vp_in_nI (by omega) (by omega)
      have hcl : (nI i).toNatClampNeg = i := nI_clamp (by omega)
      have next : ∀ x : Int32, x = zI (cuN P (i + 1)) → WQ G (d + 1) Y_X5_findCalm Q 42 [(0, .ref 34), (1, .long v), (3, .int x), (4, .int (nI i))] [] (J, L, RR b) := by
        intro x hx
        subst hx
        refine wp_aload_n rfl rfl ?_
        refine q_getr rfl rfl (by first | rfl | assumption) rfl rfl ?_
        refine wp_iload rfl rfl ?_
        refine wp_iload_n rfl rfl ?_
        refine q_iast rfl (by first | rfl | assumption) (by assumption) ?_
        refine wp_iinc (v := nI (i + 1)) (lv' := [(4, _), (0, _), (1, _), (3, _)]) rfl rfl (nI_1 i) (by decide) rfl ?_
        refine wp_goto 31 rfl rfl ?_
        refine wp_loc (lv' := [(0, _), (1, _), (3, _), (4, _)]) [1, 2, 3, 0] rfl ?_
        rw [hcl]
        refine ih (i + 1) (by omega) _ (fun q a1 a2 => by rw [uI_fn a2]; exact f1 q a1 a2) (fun w hw => by rw [uI_ne (by decide)]; exact f2 w hw) (fun w hw => ?_)
        by_cases e : w = i
        · rw [e, uI_eq]
        · rw [uI_nk e]; exact f3 w (by omega)
      have hpw := hw i (by omega)
      refine wp_iload rfl rfl ?_
      refine wp_bipush (v := 52) rfl rfl ?_
      refine wp_icmp_ge 49 rfl rfl (fun h33 => absurd h33 hlt) (fun _ => ?_)
      refine wp_lload_n rfl rfl ?_
      refine wp_iload rfl rfl ?_
      refine cS1 rfl l_5_53 s_X5_isWindy m_X5_isWindy (c_X5_isWindy G _ _ _ _) rfl (Nat.le_of_ble_eq_true rfl) ?_
      refine wp_if_eq 40 rfl rfl (fun h37 => ?_) (fun h37 => ?_)
      · refine wp_iload rfl rfl ?_
        refine wp_istore_n (lv' := [(3, _), (0, _), (1, _), (4, _)]) rfl rfl (by decide) rfl ?_
        refine wp_loc (lv' := [(0, _), (1, _), (3, _), (4, _)]) [1, 2, 0, 3] rfl ?_
        first
        | exact next _ (by have := b2_eq.mp h37; simp only [cuN]; rw [hpw, if_pos (by simpa using this), zI_s])
        | exact next _ (by have := b2_ne.mp h37; simp only [cuN]; rw [hpw, if_neg (by simpa using this)])
      · refine wp_iload_n rfl rfl ?_
        refine wp_goto 41 rfl rfl ?_
        refine wp_istore_n (lv' := [(3, _), (0, _), (1, _), (4, _)]) rfl rfl (by decide) rfl ?_
        refine wp_loc (lv' := [(0, _), (1, _), (3, _), (4, _)]) [1, 2, 0, 3] rfl ?_
        first
        | exact next _ (by have := b2_eq.mp h37; simp only [cuN]; rw [hpw, if_pos (by simpa using this), zI_s])
        | exact next _ (by have := b2_ne.mp h37; simp only [cuN]; rw [hpw, if_neg (by simpa using this)])
  have loop1 : ∀ (i : Nat), i ≤ 52 → ∀ J : IF, (∀ q, q ≠ 37 → J q = I q) → (∀ w, i ≤ w → w ≤ 52 → J 37 w = nI (cfN P w)) → WQ G (d + 1) Y_X5_findCalm Q 7 [(0, .ref 34), (1, .long v), (3, .int (zI i))] [] (J, L, RR b) := by
    intro i
    induction i with
    | zero =>
      intro _ J f1 f2
      refine wp_iload_n rfl rfl ?_
      refine wp_if_lt 27 rfl rfl (fun _ => ?_) (fun h8 => absurd (show zI 0 < 0 by decide) h8)
      refine wp_iconst (v := (-1)) rfl rfl ?_
      refine wp_istore_n (lv' := [(3, _), (0, _), (1, _)]) rfl rfl (by decide) rfl ?_
      refine wp_iconst (v := 0) rfl rfl ?_
      refine wp_istore (lv' := [(4, _), (3, _), (0, _), (1, _)]) rfl (by decide) rfl ?_
      refine wp_loc (lv' := [(0, _), (1, _), (3, _), (4, _)]) [2, 3, 1, 0] rfl ?_
      exact loop2 52 0 (by omega) J (fun q a1 a2 => f1 q a1) (fun w hw => f2 w (Nat.zero_le _) hw) (fun w hw => absurd hw (by omega))
    | succ i ih =>
      intro hi J f1 f2
      rw [zI_s]
      have hge : ¬ nI i < (0 : Int32) := nI_pos (by omega)
      have hin : vp_in (nI i) 53 := vp_in_nI (by omega) (by omega)
      have hcl : (nI i).toNatClampNeg = i := nI_clamp (by omega)
      have e1 : nI i + 1 = nI (i + 1) := nI_1 i
      have hin1 : vp_in (nI (i + 1)) 53 := vp_in_nI (by omega) (by omega)
      have hcl1 : (nI (i + 1)).toNatClampNeg = i + 1 := nI_clamp (by omega)
      have hdec : nI i + Int32.ofInt (-1) = zI i := by rw [show Int32.ofInt (-1) = (-1 : Int32) from rfl]; unfold zI; grind
      have hpw := hw i (by omega)
      have hcf : cfN P i = if pW P i then i else cfN P (i + 1) := by
        unfold cfN
        rw [show 52 - i = (51 - i) + 1 by omega]
        simp only [cfR]
        rw [show 51 - (51 - i) = i by omega, show 52 - (i + 1) = 51 - i by omega]
      have next : ∀ x : Int32, x = nI (cfN P i) → WQ G (d + 1) Y_X5_findCalm Q 24 [(0, .ref 34), (1, .long v), (3, .int (nI i))] [.int x, .int (nI i), .ref 37] (J, L, RR b) := by
        intro x hx
        subst hx
        refine q_iast rfl (by first | rfl | assumption) (by assumption) ?_
        refine wp_iinc (v := zI i) (lv' := [(3, _), (0, _), (1, _)]) rfl rfl (hdec) (by decide) rfl ?_
        refine wp_goto 7 rfl rfl ?_
        refine wp_loc (lv' := [(0, _), (1, _), (3, _)]) [1, 2, 0] rfl ?_
        rw [hcl]
        refine ih (by omega) _ (fun q a1 => by rw [uI_fn a1]; exact f1 q a1) (fun w hw1 hw2 => ?_)
        by_cases e : w = i
        · rw [e, uI_eq]
        · rw [uI_nk e]; exact f2 w (by omega) hw2
      refine wp_iload_n rfl rfl ?_
      refine wp_if_lt 27 rfl rfl (fun h8 => absurd h8 hge) (fun _ => ?_)
      refine wp_aload_n rfl rfl ?_
      refine q_getr rfl rfl (by first | rfl | assumption) rfl rfl ?_
      refine wp_iload_n rfl rfl ?_
      refine wp_lload_n rfl rfl ?_
      refine wp_iload_n rfl rfl ?_
      refine cS1 rfl l_5_53 s_X5_isWindy m_X5_isWindy (c_X5_isWindy G _ _ _ _) rfl (Nat.le_of_ble_eq_true rfl) ?_
      refine wp_if_eq 23 rfl rfl (fun h15 => ?_) (fun h15 => ?_)
      · refine wp_iload_n rfl rfl ?_
        first
        | exact next _ (by have := b2_eq.mp h15; rw [hcf, hpw, if_pos (by simpa using this)])
        | exact next _ (by have := b2_ne.mp h15; rw [hcf, hpw, if_neg (by simpa using this), hcl1]; exact f2 (i + 1) (by omega) (by omega))
      · refine wp_aload_n rfl rfl ?_
        refine q_getr rfl rfl (by first | rfl | assumption) rfl rfl ?_
        refine wp_iload_n rfl rfl ?_
        refine wp_iconst (v := 1) rfl rfl ?_
        refine wp_iadd rfl ?_
        rw [e1]
        refine q_iald rfl (by first | rfl | assumption) hin1 ?_
        refine wp_goto 24 rfl rfl ?_
        first
        | exact next _ (by have := b2_eq.mp h15; rw [hcf, hpw, if_pos (by simpa using this)])
        | exact next _ (by have := b2_ne.mp h15; rw [hcf, hpw, if_neg (by simpa using this), hcl1]; exact f2 (i + 1) (by omega) (by omega))
  have hin52 : vp_in (52 : Int32) 53 := vp_in_nI (n := 52) (by omega) (by omega)
  refine MT.intro m_X5_findCalm rfl (Nat.le_of_ble_eq_true rfl) ?_
  show WQ G (d + 1) Y_X5_findCalm Q 0 [(0, .ref 34), (1, .long v)] [] (I, L, RR b)
  refine wp_aload_n rfl rfl ?_
  refine q_getr rfl rfl (by first | rfl | assumption) rfl rfl ?_
  refine wp_bipush (v := 52) rfl rfl ?_
  refine wp_bipush (v := 52) rfl rfl ?_
  refine q_iast rfl (by first | rfl | assumption) (by assumption) ?_
  refine wp_bipush (v := 51) rfl rfl ?_
  refine wp_istore_n (lv' := [(3, _), (0, _), (1, _)]) rfl rfl (by decide) rfl ?_
  refine wp_loc (lv' := [(0, _), (1, _), (3, _)]) [1, 2, 0] rfl ?_
  refine loop1 52 (Nat.le_refl _) _ (fun q a1 => uI_fn a1) (fun w hw1 hw2 => ?_)
  rw [show w = 52 by omega]
  exact uI_eq
