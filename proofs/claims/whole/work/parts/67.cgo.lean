/-! go: what is given -/
theorem fcx_lt {s : Int32} (h0 : ¬ 0 ≤ s) (h6 : -6 ≤ s) : fcx s < 6 := by
  obtain ⟨m, m1, m2⟩ := nI_get (x := -1 - s) (n := 6) (by grind) (by show -1 - s < 6; grind) (by omega)
  unfold fcx
  rw [m2, nI_clamp (by omega)]
  exact m1
theorem run_cg {F F2 : Nat → Int64} (h : ∀ k, k < 6 → F k = F2 k) : ∀ (c : List Int32) (st : List Int64), run F c st = run F2 c st
  | [], _ => rfl
  | s :: c, st => by
    simp only [run]
    by_cases h0 : 0 ≤ s
    · rw [if_pos h0, if_pos h0, run_cg h c]
    · rw [if_neg h0, if_neg h0]
      by_cases h6 : -6 ≤ s
      · rw [if_pos h6, if_pos h6, h _ (fcx_lt h0 h6), run_cg h c]
      · rw [if_neg h6, if_neg h6]
        match st with
        | [] => rfl
        | [_] => rfl
        | r :: l :: q => simp only [run_cg h c]
theorem vl_cg {F F2 : Nat → Int64} (h : ∀ k, k < 6 → F k = F2 k) (c : List Int32) : vl F c = vl F2 c := by unfold vl; rw [run_cg h]
theorem cvb_cg {F F2 : Nat → Int64} (h : ∀ k, k < 6 → F k = F2 k) (c : List Int32) : cvb F c = cvb F2 c := by unfold cvb; rw [run_cg h]
theorem gl_cg {F F2 : Nat → Int64} (h : ∀ k, k < 6 → F k = F2 k) : ∀ gs : List RE, gl F gs = gl F2 gs
  | [] => rfl
  | x :: r => by simp only [gl]; rw [cvb_cg h, vl_cg h, gl_cg h r]
def fct6 (x0 x1 x2 x3 x4 x5 : Int32) (k : Nat) : Int64 := if k = 0 then x0.toInt64 else if k = 1 then x1.toInt64 else if k = 2 then x2.toInt64 else if k = 3 then x3.toInt64 else if k = 4 then x4.toInt64 else x5.toInt64
def prt (t : Int64) (m : Nat) : Nat := min t.toInt.toNat m
theorem lN_of {x : Int64} {k : Nat} (h : x.toInt = (k : Int)) (hk : k < 2 ^ 31) : x = lN k := Int64.toInt_inj.mp (by rw [h, lN_toInt hk])
theorem prt_L {t : Int64} {m : Nat} (hm : m < 2 ^ 31) : (if (if t < 0 then 0 else t) < lN m then (if t < 0 then 0 else t) else lN m) = lN (prt t m) := by
  unfold prt
  have em : (lN m).toInt = (m : Int) := lN_toInt hm
  have e0 : (0 : Int64).toInt = 0 := rfl
  by_cases h0 : t < 0
  · have h0' := Int64.lt_iff_toInt_lt.mp h0
    rw [e0] at h0'
    rw [if_pos h0, show min t.toInt.toNat m = 0 by omega]
    by_cases hm0 : m = 0
    · subst hm0; rw [if_neg (by decide)]
    · rw [if_pos (by rw [Int64.lt_iff_toInt_lt, em, e0]; omega)]; rfl
  · have h0' : ¬ t.toInt < 0 := fun z => h0 (Int64.lt_iff_toInt_lt.mpr (by rw [e0]; exact z))
    rw [if_neg h0]
    by_cases h1 : t < lN m
    · have h1' := Int64.lt_iff_toInt_lt.mp h1
      rw [em] at h1'
      rw [if_pos h1, show min t.toInt.toNat m = t.toInt.toNat by omega]
      exact lN_of (by omega) (by omega)
    · have h1' : ¬ t.toInt < (m : Int) := fun z => h1 (Int64.lt_iff_toInt_lt.mpr (by rw [em]; exact z))
      rw [if_neg h1, show min t.toInt.toNat m = m by omega]
theorem prt_I {t : Int64} {m : Nat} (hm : m < 2 ^ 31) : (if (if lN m < t then lN m else t) < 0 then 0 else (if lN m < t then lN m else t)).toInt32 = nI (prt t m) := by
  rw [← lN_i, ← prt_L hm]
  congr 1
  have em : (lN m).toInt = (m : Int) := lN_toInt hm
  have hp : ¬ lN m < 0 := fun z => by
    have := Int64.lt_iff_toInt_lt.mp z
    rw [em, show (0 : Int64).toInt = 0 from rfl] at this
    omega
  grind
def qv (Z : Nat → Nat → Int64) (hN : Nat → Nat) (C0 s0 a s : Nat) : Nat := prt (Z a s) (min (hN a) (min s (C0 - (s0 - s))))
def gvS (Z : Nat → Nat → Int64) (hN : Nat → Nat) (C0 s0 : Nat) : Nat → Nat
  | 0 => s0
  | a + 1 => gvS Z hN C0 s0 a - qv Z hN C0 s0 a (gvS Z hN C0 s0 a)
theorem qv_le (Z : Nat → Nat → Int64) (hN : Nat → Nat) (C0 s0 a s : Nat) : qv Z hN C0 s0 a s ≤ hN a ∧ qv Z hN C0 s0 a s ≤ s ∧ qv Z hN C0 s0 a s ≤ C0 - (s0 - s) := by unfold qv prt; omega
theorem gvS_le (Z : Nat → Nat → Int64) (hN : Nat → Nat) (C0 s0 : Nat) : ∀ a, gvS Z hN C0 s0 a ≤ s0 ∧ (s0 - gvS Z hN C0 s0 a ≤ C0)
  | 0 => ⟨Nat.le_refl _, by simp only [gvS]; omega⟩
  | a + 1 => by
    have h1 := gvS_le Z hN C0 s0 a
    have h2 := qv_le Z hN C0 s0 a (gvS Z hN C0 s0 a)
    simp only [gvS]
    omega
/-- caps: what both sides hold -/
theorem cap_rel : ∀ (es : List RE) (a c : Int32), (∀ e, e ∈ es → REok e) → ((a = -1 ∧ c = 10000000) ∨ (0 ≤ a ∧ a ≤ 999999 ∧ c = a)) → ((es.foldl cp1 a = -1 ∧ cpf c es = 10000000) ∨ (0 ≤ es.foldl cp1 a ∧ es.foldl cp1 a ≤ 999999 ∧ cpf c es = es.foldl cp1 a))
  | [], a, c, _, h => h
  | e :: es, a, c, hok, h => by
    unfold cpf
    rw [List.foldl_cons, List.foldl_cons]
    refine cap_rel es _ _ (fun x hx => hok x (List.mem_cons_of_mem _ hx)) ?_
    unfold cp1
    by_cases h1 : e.1 = -1
    · rw [if_pos h1, if_pos h1]; exact h
    · rw [if_neg h1, if_neg h1]
      have he : 0 ≤ e.1 ∧ e.1 ≤ 999999 := by
        rcases hok e List.mem_cons_self with ⟨z, _⟩ | ⟨z1, z2, _⟩
        · exact absurd z h1
        · exact ⟨z1, z2⟩
      grind
theorem cap_rel0 {es : List RE} (hok : ∀ e, e ∈ es → REok e) : (cpr es = -1 ∧ cpf 10000000 es = 10000000) ∨ (0 ≤ cpr es ∧ cpr es ≤ 999999 ∧ cpf 10000000 es = cpr es) := cap_rel es (-1) 10000000 hok (Or.inl ⟨rfl, rfl⟩)
theorem c_portion (G : Gl) (d : Nat) {b : Bool} {I : IF} {L : LF} {es : List RE} {a s C r : Nat} (hL : LWO I (lawA b) es) (hl : es.length ≤ 10) (hok : ∀ e, e ∈ es → REok e) (ha : a < 16) (hs : I 0 9 = nI s) (hsb : s < 2 ^ 31) (hC : C < 2 ^ 31) (hr : I (18 + a) 2 - I (18 + a) 5 = nI r) (hrb : r < 2 ^ 31) : MQ2 G (d + 4) Y_X10_portionOf [.ref 0, .ref (18 + a), .int (nI C)] (I, L, RR b) (fun v w => v = some (.int (nI (prt (gl (fct6 (I (18 + a) 2) (I (18 + a) 3) (I (18 + a) 4) (I (18 + a) 5) (I 1 5) (I 0 9)) (gvs es)) (min r (min s C))))) ∧ ∃ J L2, w = (J, L2, RR b) ∧ (∀ q, q ≠ 65 → q ≠ lawA b → J q = I q) ∧ (∀ k, k ≠ 7 → J (lawA b) k = I (lawA b) k) ∧ ∀ q, q ≠ lawA b + 5 → L2 q = L q) := by
  have lo := law_or b
  have sa := sh_area a ha
  have sl := sh_law b
  generalize hJ6 : uI (uI (uI (uI (uI (uI I 65 0 (I (18 + a) 2)) 65 1 (I (18 + a) 3)) 65 2 (I (18 + a) 4)) 65 3 (I (18 + a) 5)) 65 4 (I 1 5)) 65 5 (I 0 9) = J6
  have fo : ∀ q, q ≠ 65 → J6 q = I q := fun q hq => by rw [← hJ6, uI_fn hq, uI_fn hq, uI_fn hq, uI_fn hq, uI_fn hq, uI_fn hq]
  have hF : ∀ k, k < 6 → (J6 65 k).toInt64 = fct6 (I (18 + a) 2) (I (18 + a) 3) (I (18 + a) 4) (I (18 + a) 5) (I 1 5) (I 0 9) k := by
    intro k hk
    rw [← hJ6]
    rcases (show k = 0 ∨ k = 1 ∨ k = 2 ∨ k = 3 ∨ k = 4 ∨ k = 5 by omega) with rfl | rfl | rfl | rfl | rfl | rfl <;> simp (disch := omega) only [uI_nk, uI_eq] <;> rfl
  have hL6 : LWO J6 (lawA b) es := hL.fr (fun k _ => by rw [fo _ (by omega)]) (fun q h1 h4 => fo _ (by omega))
  have hg := c_X2_gift G d (L := L) hL6 hl hok
  rw [gl_cg (F2 := fct6 (I (18 + a) 2) (I (18 + a) 3) (I (18 + a) 4) (I (18 + a) 5) (I 1 5) (I 0 9)) hF] at hg
  generalize hT : gl (fct6 (I (18 + a) 2) (I (18 + a) 3) (I (18 + a) 4) (I (18 + a) 5) (I 1 5) (I 0 9)) (gvs es) = T at hg ⊢
  have n1 : (if nI C < nI s then nI C else nI s) = nI (min s C) := by
    have := nI_ltI (a := C) (b := s) hC hsb
    by_cases z : C < s
    · rw [if_pos (this.mpr z), show min s C = C by omega]
    · rw [if_neg (mt this.mp z), show min s C = s by omega]
  have n2 : (if nI (min s C) < nI r then nI (min s C) else nI r) = nI (min r (min s C)) := by
    have := nI_ltI (a := min s C) (b := r) (by omega) hrb
    by_cases z : min s C < r
    · rw [if_pos (this.mpr z), show min r (min s C) = min s C by omega]
    · rw [if_neg (mt this.mp z), show min r (min s C) = r by omega]
  have n3 : (nI (min r (min s C))).toInt64 = lN (min r (min s C)) := nI_l (by omega)
  have n4 := prt_I (t := T) (m := min r (min s C)) (by omega)
  have i6 : ∀ k, k < 6 → vp_in (nI k) 6 := fun k hk => vp_in_nI hk (by omega)
  refine MT.intro m_X10_portionOf rfl (Nat.le_of_ble_eq_true rfl) ?_
  show WQ G (d + 4) Y_X10_portionOf _ 0 [(0, .ref 0), (1, .ref (18 + a)), (2, .int (nI C))] [] (I, L, RR b)
  refine wp_aload_n rfl rfl ?_
  refine q_getr rfl rfl (by first | rfl | assumption) rfl rfl ?_
  refine wp_iconst (v := 0) rfl rfl ?_
  refine wp_aload_n rfl rfl ?_
  refine q_geti rfl rfl (by first | rfl | assumption) rfl ?_
  refine q_iast rfl (by first | rfl | assumption) (i6 0 (by omega)) ?_
  refine wp_aload_n rfl rfl ?_
  refine q_getr rfl rfl (by first | rfl | assumption) rfl rfl ?_
  refine wp_iconst (v := 1) rfl rfl ?_
  refine wp_aload_n rfl rfl ?_
  refine q_geti rfl rfl (by first | rfl | assumption) rfl ?_
  rw [uI_ne (by omega)]
  refine q_iast rfl (by first | rfl | assumption) (i6 1 (by omega)) ?_
  refine wp_aload_n rfl rfl ?_
  refine q_getr rfl rfl (by first | rfl | assumption) rfl rfl ?_
  refine wp_iconst (v := 2) rfl rfl ?_
  refine wp_aload_n rfl rfl ?_
  refine q_geti rfl rfl (by first | rfl | assumption) rfl ?_
  rw [uI_ne (by omega), uI_ne (by omega)]
  refine q_iast rfl (by first | rfl | assumption) (i6 2 (by omega)) ?_
  refine wp_aload_n rfl rfl ?_
  refine q_getr rfl rfl (by first | rfl | assumption) rfl rfl ?_
  refine wp_iconst (v := 3) rfl rfl ?_
  refine wp_aload_n rfl rfl ?_
  refine q_geti rfl rfl (by first | rfl | assumption) rfl ?_
  rw [uI_ne (by omega), uI_ne (by omega), uI_ne (by omega)]
  refine q_iast rfl (by first | rfl | assumption) (i6 3 (by omega)) ?_
  refine wp_aload_n rfl rfl ?_
  refine q_getr rfl rfl (by first | rfl | assumption) rfl rfl ?_
  refine wp_iconst (v := 4) rfl rfl ?_
  refine wp_aload_n rfl rfl ?_
  refine q_getr rfl rfl (by first | rfl | assumption) rfl rfl ?_
  refine q_geti rfl rfl (by first | rfl | assumption) rfl ?_
  rw [uI_ne (by omega), uI_ne (by omega), uI_ne (by omega), uI_ne (by omega)]
  refine q_iast rfl (by first | rfl | assumption) (i6 4 (by omega)) ?_
  refine wp_aload_n rfl rfl ?_
  refine q_getr rfl rfl (by first | rfl | assumption) rfl rfl ?_
  refine wp_iconst (v := 5) rfl rfl ?_
  refine wp_aload_n rfl rfl ?_
  refine q_geti rfl rfl (by first | rfl | assumption) rfl ?_
  rw [uI_ne (by omega), uI_ne (by omega), uI_ne (by omega), uI_ne (by omega), uI_ne (by omega)]
  refine q_iast rfl (by first | rfl | assumption) (i6 5 (by omega)) ?_
  rw [show uI (uI (uI (uI (uI (uI I 65 (0 : Int32).toNatClampNeg (I (18 + a) 2)) 65 (1 : Int32).toNatClampNeg (I (18 + a) 3)) 65 (2 : Int32).toNatClampNeg (I (18 + a) 4)) 65 (3 : Int32).toNatClampNeg (I (18 + a) 5)) 65 (4 : Int32).toNatClampNeg (I 1 5)) 65 (5 : Int32).toNatClampNeg (I 0 9) = J6 from hJ6]
  refine wp_aload_n rfl rfl ?_
  refine q_getr rfl rfl (by first | rfl | assumption) rfl rfl ?_
  refine wp_aload_n rfl rfl ?_
  refine q_getr rfl rfl (by first | rfl | assumption) rfl rfl ?_
  refine cVr rfl l_10_295 i_X2_gift m_X2_gift (by first | rfl | assumption) (by decide) (hg) rfl (Nat.le_of_ble_eq_true rfl) (fun r41 w41 hq41 => ?_)
  obtain ⟨rfl, J, L2, rfl, k1, k2, k3⟩ := hq41
  have e2 : J (18 + a) = I (18 + a) := by rw [k1 _ (by omega), fo _ (by omega)]
  have e9 : J 0 9 = nI s := by rw [k1 0 (by omega), fo 0 (by omega)]; exact hs
  refine wp_lstore_n (lv' := [(3, _), (0, _), (1, _), (2, _)]) rfl rfl (by decide) rfl ?_
  refine wp_aload_n rfl rfl ?_
  refine q_geti rfl rfl (by first | rfl | assumption) rfl ?_
  refine wp_aload_n rfl rfl ?_
  refine q_geti rfl rfl (by first | rfl | assumption) rfl ?_
  refine wp_isub rfl ?_
  rw [e2, hr]
  refine wp_aload_n rfl rfl ?_
  refine q_geti rfl rfl (by first | rfl | assumption) rfl ?_
  rw [e9]
  refine wp_iload_n rfl rfl ?_
  refine q_mmin rfl l_10_299 (Nat.le_of_ble_eq_true rfl) ?_
  rw [n1]
  refine q_mmin rfl l_10_299 (Nat.le_of_ble_eq_true rfl) ?_
  rw [n2]
  refine wp_istore (lv' := [(5, _), (3, _), (0, _), (1, _), (2, _)]) rfl (by decide) rfl ?_
  refine wp_lconst (v := 0) rfl rfl ?_
  refine wp_lload_n rfl rfl ?_
  refine wp_iload rfl rfl ?_
  refine wp_i2l rfl ?_
  rw [n3]
  refine q_mminL rfl l_10_305 (Nat.le_of_ble_eq_true rfl) ?_
  refine q_mmaxL rfl l_10_308 (Nat.le_of_ble_eq_true rfl) ?_
  refine wp_l2i rfl ?_
  rw [n4]
  exact wp_iret rfl rfl (⟨rfl, J, L2, rfl, fun q q1 q2 => by rw [k1 q q2, fo q q1], fun k hk => by rw [k2 k hk, fo _ (by omega)], k3⟩)
