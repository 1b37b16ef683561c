/-! the law's entry -/
def fwd : List Cond := flatC (Jvm.Cond.and given_1 narrow_1)
def SKT : List Nat := [70, 78, 80, 82, 84, 86, 88, 90, 92, 94]
def SKM : List Nat := [267, 272, 273, 274, 275, 276, 296, 301, 310, 294]
def tmT (i : Nat) : Term := .string (RN 8) (SKT.getD i 0)
def tmM (i : Nat) : Term := .string (RN 11) (SKM.getD i 0)
def neq (i j : Nat) : Cond := Cond.not (Cond.eq (tmM i) (tmM j))
theorem fw1 : ∀ i, i < 10 → Cond.exactly (tmM i) "java/lang/String" ∈ fwd := by decide +kernel
theorem fw2 : ∀ i, i < 10 → Cond.eq (.field (tmM i) "java/lang/String" "coder" "B") (.int 0) ∈ fwd := by decide +kernel
theorem fw3 : ∀ i, i < 10 → Cond.arrayOf (.field (tmM i) "java/lang/String" "value" "[B") .byte ∈ fwd := by decide +kernel
theorem fw4 : ∀ i, i < 10 → Cond.eq (.length (.field (tmM i) "java/lang/String" "value" "[B")) (.int (Int32.ofNat (STL.getD i 0))) ∈ fwd := by decide +kernel
theorem fw5 : ∀ i, i < 10 → ∀ j, j < STL.getD i 0 → Cond.eq (.elem (.field (tmM i) "java/lang/String" "value" "[B") (.int (Int32.ofNat j))) (.int ((STB.getD i []).getD j 0)) ∈ fwd := by decide +kernel
theorem fw7 : ∀ i, i < 10 → Cond.eq (tmT i) (tmM i) ∈ fwd := by decide +kernel
theorem fw9 : Cond.isRef (.static "jdk/internal/util/Preconditions" "SIOOBE_FORMATTER" "Ljava/util/function/BiFunction;") ∈ fwd := by decide +kernel
theorem fw8 : Cond.eq (.static "java/lang/String" "COMPACT_STRINGS" "Z") (.int 1) ∈ fwd := by decide +kernel
theorem fx_1_0 : neq 1 0 ∈ fwd ∨ neq 0 1 ∈ fwd := Or.inr (List.mem_of_getElem? (i := 210) (by decide +kernel))
theorem fx_2_0 : neq 2 0 ∈ fwd ∨ neq 0 2 ∈ fwd := Or.inr (List.mem_of_getElem? (i := 231) (by decide +kernel))
theorem fx_2_1 : neq 2 1 ∈ fwd ∨ neq 1 2 ∈ fwd := Or.inr (List.mem_of_getElem? (i := 232) (by decide +kernel))
theorem fx_3_0 : neq 3 0 ∈ fwd ∨ neq 0 3 ∈ fwd := Or.inr (List.mem_of_getElem? (i := 254) (by decide +kernel))
theorem fx_3_1 : neq 3 1 ∈ fwd ∨ neq 1 3 ∈ fwd := Or.inr (List.mem_of_getElem? (i := 255) (by decide +kernel))
theorem fx_3_2 : neq 3 2 ∈ fwd ∨ neq 2 3 ∈ fwd := Or.inr (List.mem_of_getElem? (i := 256) (by decide +kernel))
theorem fx_4_0 : neq 4 0 ∈ fwd ∨ neq 0 4 ∈ fwd := Or.inr (List.mem_of_getElem? (i := 277) (by decide +kernel))
theorem fx_4_1 : neq 4 1 ∈ fwd ∨ neq 1 4 ∈ fwd := Or.inr (List.mem_of_getElem? (i := 278) (by decide +kernel))
theorem fx_4_2 : neq 4 2 ∈ fwd ∨ neq 2 4 ∈ fwd := Or.inr (List.mem_of_getElem? (i := 279) (by decide +kernel))
theorem fx_4_3 : neq 4 3 ∈ fwd ∨ neq 3 4 ∈ fwd := Or.inr (List.mem_of_getElem? (i := 280) (by decide +kernel))
theorem fx_5_0 : neq 5 0 ∈ fwd ∨ neq 0 5 ∈ fwd := Or.inr (List.mem_of_getElem? (i := 302) (by decide +kernel))
theorem fx_5_1 : neq 5 1 ∈ fwd ∨ neq 1 5 ∈ fwd := Or.inr (List.mem_of_getElem? (i := 303) (by decide +kernel))
theorem fx_5_2 : neq 5 2 ∈ fwd ∨ neq 2 5 ∈ fwd := Or.inr (List.mem_of_getElem? (i := 304) (by decide +kernel))
theorem fx_5_3 : neq 5 3 ∈ fwd ∨ neq 3 5 ∈ fwd := Or.inr (List.mem_of_getElem? (i := 305) (by decide +kernel))
theorem fx_5_4 : neq 5 4 ∈ fwd ∨ neq 4 5 ∈ fwd := Or.inr (List.mem_of_getElem? (i := 306) (by decide +kernel))
theorem fx_6_0 : neq 6 0 ∈ fwd ∨ neq 0 6 ∈ fwd := Or.inl (List.mem_of_getElem? (i := 188) (by decide +kernel))
theorem fx_6_1 : neq 6 1 ∈ fwd ∨ neq 1 6 ∈ fwd := Or.inl (List.mem_of_getElem? (i := 208) (by decide +kernel))
theorem fx_6_2 : neq 6 2 ∈ fwd ∨ neq 2 6 ∈ fwd := Or.inl (List.mem_of_getElem? (i := 229) (by decide +kernel))
theorem fx_6_3 : neq 6 3 ∈ fwd ∨ neq 3 6 ∈ fwd := Or.inl (List.mem_of_getElem? (i := 252) (by decide +kernel))
theorem fx_6_4 : neq 6 4 ∈ fwd ∨ neq 4 6 ∈ fwd := Or.inl (List.mem_of_getElem? (i := 275) (by decide +kernel))
theorem fx_6_5 : neq 6 5 ∈ fwd ∨ neq 5 6 ∈ fwd := Or.inl (List.mem_of_getElem? (i := 300) (by decide +kernel))
theorem fx_7_0 : neq 7 0 ∈ fwd ∨ neq 0 7 ∈ fwd := Or.inl (List.mem_of_getElem? (i := 189) (by decide +kernel))
theorem fx_7_1 : neq 7 1 ∈ fwd ∨ neq 1 7 ∈ fwd := Or.inl (List.mem_of_getElem? (i := 209) (by decide +kernel))
theorem fx_7_2 : neq 7 2 ∈ fwd ∨ neq 2 7 ∈ fwd := Or.inl (List.mem_of_getElem? (i := 230) (by decide +kernel))
theorem fx_7_3 : neq 7 3 ∈ fwd ∨ neq 3 7 ∈ fwd := Or.inl (List.mem_of_getElem? (i := 253) (by decide +kernel))
theorem fx_7_4 : neq 7 4 ∈ fwd ∨ neq 4 7 ∈ fwd := Or.inl (List.mem_of_getElem? (i := 276) (by decide +kernel))
theorem fx_7_5 : neq 7 5 ∈ fwd ∨ neq 5 7 ∈ fwd := Or.inl (List.mem_of_getElem? (i := 301) (by decide +kernel))
theorem fx_7_6 : neq 7 6 ∈ fwd ∨ neq 6 7 ∈ fwd := Or.inr (List.mem_of_getElem? (i := 168) (by decide +kernel))
theorem fx_8_0 : neq 8 0 ∈ fwd ∨ neq 0 8 ∈ fwd := Or.inr (List.mem_of_getElem? (i := 325) (by decide +kernel))
theorem fx_8_1 : neq 8 1 ∈ fwd ∨ neq 1 8 ∈ fwd := Or.inr (List.mem_of_getElem? (i := 326) (by decide +kernel))
theorem fx_8_2 : neq 8 2 ∈ fwd ∨ neq 2 8 ∈ fwd := Or.inr (List.mem_of_getElem? (i := 327) (by decide +kernel))
theorem fx_8_3 : neq 8 3 ∈ fwd ∨ neq 3 8 ∈ fwd := Or.inr (List.mem_of_getElem? (i := 328) (by decide +kernel))
theorem fx_8_4 : neq 8 4 ∈ fwd ∨ neq 4 8 ∈ fwd := Or.inr (List.mem_of_getElem? (i := 329) (by decide +kernel))
theorem fx_8_5 : neq 8 5 ∈ fwd ∨ neq 5 8 ∈ fwd := Or.inr (List.mem_of_getElem? (i := 330) (by decide +kernel))
theorem fx_8_6 : neq 8 6 ∈ fwd ∨ neq 6 8 ∈ fwd := Or.inr (List.mem_of_getElem? (i := 323) (by decide +kernel))
theorem fx_8_7 : neq 8 7 ∈ fwd ∨ neq 7 8 ∈ fwd := Or.inr (List.mem_of_getElem? (i := 324) (by decide +kernel))
theorem fx_9_0 : neq 9 0 ∈ fwd ∨ neq 0 9 ∈ fwd := Or.inr (List.mem_of_getElem? (i := 350) (by decide +kernel))
theorem fx_9_1 : neq 9 1 ∈ fwd ∨ neq 1 9 ∈ fwd := Or.inr (List.mem_of_getElem? (i := 351) (by decide +kernel))
theorem fx_9_2 : neq 9 2 ∈ fwd ∨ neq 2 9 ∈ fwd := Or.inr (List.mem_of_getElem? (i := 352) (by decide +kernel))
theorem fx_9_3 : neq 9 3 ∈ fwd ∨ neq 3 9 ∈ fwd := Or.inr (List.mem_of_getElem? (i := 353) (by decide +kernel))
theorem fx_9_4 : neq 9 4 ∈ fwd ∨ neq 4 9 ∈ fwd := Or.inr (List.mem_of_getElem? (i := 354) (by decide +kernel))
theorem fx_9_5 : neq 9 5 ∈ fwd ∨ neq 5 9 ∈ fwd := Or.inr (List.mem_of_getElem? (i := 355) (by decide +kernel))
theorem fx_9_6 : neq 9 6 ∈ fwd ∨ neq 6 9 ∈ fwd := Or.inr (List.mem_of_getElem? (i := 348) (by decide +kernel))
theorem fx_9_7 : neq 9 7 ∈ fwd ∨ neq 7 9 ∈ fwd := Or.inr (List.mem_of_getElem? (i := 349) (by decide +kernel))
theorem fx_9_8 : neq 9 8 ∈ fwd ∨ neq 8 9 ∈ fwd := Or.inr (List.mem_of_getElem? (i := 356) (by decide +kernel))
theorem fw6 : ∀ i j, i < 10 → j < i → neq i j ∈ fwd ∨ neq j i ∈ fwd
  | 1, 0, _, _ => fx_1_0
  | 2, 0, _, _ => fx_2_0
  | 2, 1, _, _ => fx_2_1
  | 3, 0, _, _ => fx_3_0
  | 3, 1, _, _ => fx_3_1
  | 3, 2, _, _ => fx_3_2
  | 4, 0, _, _ => fx_4_0
  | 4, 1, _, _ => fx_4_1
  | 4, 2, _, _ => fx_4_2
  | 4, 3, _, _ => fx_4_3
  | 5, 0, _, _ => fx_5_0
  | 5, 1, _, _ => fx_5_1
  | 5, 2, _, _ => fx_5_2
  | 5, 3, _, _ => fx_5_3
  | 5, 4, _, _ => fx_5_4
  | 6, 0, _, _ => fx_6_0
  | 6, 1, _, _ => fx_6_1
  | 6, 2, _, _ => fx_6_2
  | 6, 3, _, _ => fx_6_3
  | 6, 4, _, _ => fx_6_4
  | 6, 5, _, _ => fx_6_5
  | 7, 0, _, _ => fx_7_0
  | 7, 1, _, _ => fx_7_1
  | 7, 2, _, _ => fx_7_2
  | 7, 3, _, _ => fx_7_3
  | 7, 4, _, _ => fx_7_4
  | 7, 5, _, _ => fx_7_5
  | 7, 6, _, _ => fx_7_6
  | 8, 0, _, _ => fx_8_0
  | 8, 1, _, _ => fx_8_1
  | 8, 2, _, _ => fx_8_2
  | 8, 3, _, _ => fx_8_3
  | 8, 4, _, _ => fx_8_4
  | 8, 5, _, _ => fx_8_5
  | 8, 6, _, _ => fx_8_6
  | 8, 7, _, _ => fx_8_7
  | 9, 0, _, _ => fx_9_0
  | 9, 1, _, _ => fx_9_1
  | 9, 2, _, _ => fx_9_2
  | 9, 3, _, _ => fx_9_3
  | 9, 4, _, _ => fx_9_4
  | 9, 5, _, _ => fx_9_5
  | 9, 6, _, _ => fx_9_6
  | 9, 7, _, _ => fx_9_7
  | 9, 8, _, _ => fx_9_8
theorem str_pos : (STR.map (fun q => Cond.stringRef (RN q.1) q.2.1 q.2.2.1)) = ([676, 730, 731, 732, 733, 734, 738, 739, 740, 741, 1325, 1332, 1354, 1355, 1356, 1357, 1358, 1359, 1364, 1369] : List Nat).filterMap (fun i => lw_tbl[i]?) := by decide +kernel
theorem str_term : ∀ q ∈ STR, q.2.2.2 < 10 ∧ (Term.string (RN q.1) q.2.1 = tmT q.2.2.2 ∨ Term.string (RN q.1) q.2.1 = tmM q.2.2.2) := by decide +kernel
theorem ao_Mast : Cond.arrayOver (.object "MastMove$Mast") ∈ lw_tbl := List.mem_of_getElem? (i := 89) (by decide +kernel)
theorem ao_Area : Cond.arrayOver (.object "MastMove$Area") ∈ lw_tbl := List.mem_of_getElem? (i := 91) (by decide +kernel)
theorem ao_Row : Cond.arrayOver (.object "MastMove$Row") ∈ lw_tbl := List.mem_of_getElem? (i := 369) (by decide +kernel)
theorem ls_cs : Cond.laysStatic "java/lang/String" "COMPACT_STRINGS" "Z" ∈ lw_tbl := List.mem_of_getElem? (i := 690) (by decide +kernel)
theorem ls_si : Cond.laysStatic "jdk/internal/util/Preconditions" "SIOOBE_FORMATTER" "Ljava/util/function/BiFunction;" ∈ lw_tbl := List.mem_of_getElem? (i := 707) (by decide +kernel)
theorem ini_P : Cond.initialized "jdk/internal/util/Preconditions" ∈ lw_tbl := List.mem_of_getElem? (i := 71) (by decide +kernel)
theorem ini_S : Cond.initialized "java/lang/String" ∈ lw_tbl := List.mem_of_getElem? (i := 69) (by decide +kernel)
theorem arr_prim {s : State} {args : Array Value} {ty : FieldType} (h : (Cond.arrayClass ty).before args s = true) (hty : ∀ C, ty ≠ .object C) : ∃ cA, ArrOfT s cA ty ∧ va_RA s cA ty := by
  obtain ⟨c, k, comp, h1, h2, h3⟩ := Cond.arrayClass_spec h
  refine ⟨c, fun n z => ⟨fun k h => (by cases h), k, h2, comp, h3⟩, ?_⟩
  unfold va_RA
  split
  · exact absurd rfl (hty _)
  · exact h1
theorem arr_obj {s : State} {args : Array Value} {C : String} (h : (Cond.arrayOver (.object C)).before args s = true) : ∃ cA, ArrOfT s cA (.object C) ∧ va_RA s cA (.object C) := by
  obtain ⟨comp, c, k, h1, h2, h3, h4, h5⟩ := Cond.arrayOver_spec h
  exact ⟨c, fun n z => ⟨fun k h => (by cases h), k, h3, comp, h4⟩, k, comp, h3, h4, h1, h5⟩
def pick {α : Type} (d : α) (l : List α) (i : Nat) : α := l.getD i d
theorem entry_G {p : Program} {s : State} {m : MethodId} {meth : Method} {c : Code} {b L : Nat} {xs : Nat → Int32} (l : Launch) (C0 : lw_At p s m meth c b L xs) : ∃ G : Gl, G.1 = l ∧ gb G = s.heap.size ∧ gS G = (b, L, xs) ∧ Cx G (YL meth.name) p s m #[Value.ref b] meth c ∧ rep G 0 w00 s.heap := by
  obtain ⟨hx, hb, hr, hml, hown, hts, hX, hbl, hlocks, hgv⟩ := id C0
  have hfw : ∀ w ∈ fwd, w.before #[Value.ref b] s = true := flat_of_before _ hgv
  have hgood : ∀ w ∈ goodL, w.before #[Value.ref b] s = true := fun w hw => hts w (List.mem_filter.mp hw).1
  have hn : ∀ a : Nat, a < s.heap.size → ¬ (fun q : Nat => s.heap.size ≤ q) a := fun a ha => Nat.not_le.mpr ha
  obtain ⟨k0, i0, hk0⟩ := u_known (C := RN 0) (T := TT 0) (N := NF 0) (n := NF 0) hts (lay_all 0 (by decide)) (hgood _ in_0)
  obtain ⟨k1, i1, hk1⟩ := u_known (C := RN 1) (T := TT 1) (N := NF 1) (n := NF 1) hts (lay_all 1 (by decide)) (hgood _ in_1)
  obtain ⟨k2, i2, hk2⟩ := u_known (C := RN 2) (T := TT 2) (N := NF 2) (n := NF 2) hts (lay_all 2 (by decide)) (hgood _ in_2)
  obtain ⟨k3, i3, hk3⟩ := u_known (C := RN 3) (T := TT 3) (N := NF 3) (n := NF 3) hts (lay_all 3 (by decide)) (hgood _ in_3)
  obtain ⟨k4, i4, hk4⟩ := u_known (C := RN 4) (T := TT 4) (N := NF 4) (n := NF 4) hts (lay_all 4 (by decide)) (hgood _ in_4)
  obtain ⟨k5, i5, hk5⟩ := u_known (C := RN 5) (T := TT 5) (N := NF 5) (n := NF 5) hts (lay_all 5 (by decide)) (hgood _ in_5)
  obtain ⟨k6, i6, hk6⟩ := u_known (C := RN 6) (T := TT 6) (N := NF 6) (n := NF 6) hts (lay_all 6 (by decide)) (hgood _ in_6)
  obtain ⟨k7, i7, hk7⟩ := u_known (C := RN 7) (T := TT 7) (N := NF 7) (n := NF 7) hts (lay_all 7 (by decide)) (hgood _ in_7)
  obtain ⟨k8, i8, hk8⟩ := u_known (C := RN 8) (T := TT 8) (N := NF 8) (n := NF 8) hts (lay_all 8 (by decide)) (hgood _ in_8)
  obtain ⟨k9, i9, hk9⟩ := u_known (C := RN 9) (T := TT 9) (N := NF 9) (n := NF 9) hts (lay_all 9 (by decide)) (hgood _ in_9)
  obtain ⟨k10, i10, hk10⟩ := u_known (C := RN 10) (T := TT 10) (N := NF 10) (n := NF 10) hts (lay_all 10 (by decide)) (hgood _ in_10)
  obtain ⟨k11, i11, hk11⟩ := u_known (C := RN 11) (T := TT 11) (N := NF 11) (n := NF 11) hts (lay_all 11 (by decide)) (hgood _ in_11)
  obtain ⟨a0, ha0⟩ := arr_prim (ty := .int) (hgood _ ac_int) (fun C h => by cases h)
  obtain ⟨a1, ha1⟩ := arr_prim (ty := .byte) (hgood _ ac_byte) (fun C h => by cases h)
  obtain ⟨a2, ha2⟩ := arr_prim (ty := .boolean) (hgood _ ac_boolean) (fun C h => by cases h)
  obtain ⟨a3, ha3⟩ := arr_prim (ty := .long) (hgood _ ac_long) (fun C h => by cases h)
  obtain ⟨a4, ha4⟩ := arr_obj (hts _ ao_Mast)
  obtain ⟨a5, ha5⟩ := arr_obj (hts _ ao_Area)
  obtain ⟨a6, ha6⟩ := arr_obj (hts _ ao_Row)
  obtain ⟨adK, adV, hS, hev⟩ := vk_Sof (args := #[Value.ref b]) (s := s) (N := 10) (tm := tmM) (len := STL) (byt := STB) (A := fun q : Nat => s.heap.size ≤ q) (by decide) (fun i hi => hfw _ (fw1 i hi)) (fun i hi => hfw _ (fw2 i hi)) (fun i hi => hfw _ (fw3 i hi)) (fun i hi => hfw _ (fw4 i hi)) (fun i hi j hj => hfw _ (fw5 i hi j hj)) (fun i j hi hj hne => by
    rcases Nat.lt_or_ge j i with h | h
    · exact (fw6 i j hi h).imp (hfw _) (hfw _)
    · exact ((fw6 j i hj (by omega)).imp (hfw _) (hfw _)).symm) hn
  have hevT : ∀ i, i < 10 → Term.eval #[Value.ref b] s none [] s (tmT i) = some (.ref (adK i)) := fun i hi => Cond.eq_refs (hfw _ (fw7 i hi)) (hev i hi) rfl
  have hsi := va_Zqof (args := #[Value.ref b]) (hts _ ls_si) (hts _ ini_P) (hfw _ fw9) hn
  obtain ⟨r, hr2⟩ : ∃ r : Nat, va_Z "jdk/internal/util/Preconditions" "SIOOBE_FORMATTER" "Ljava/util/function/BiFunction;" .null (fun q : Nat => s.heap.size ≤ q) s s.heap ∨ va_Z "jdk/internal/util/Preconditions" "SIOOBE_FORMATTER" "Ljava/util/function/BiFunction;" (.ref r) (fun q : Nat => s.heap.size ≤ q) s s.heap := by
    rcases hsi with z | ⟨t, z⟩
    · exact ⟨0, Or.inl z⟩
    · exact ⟨t, Or.inr z⟩
  obtain ⟨gk, hgk, hgw, hgr⟩ : ∃ gk : Nat → Nat, (∀ i, i < 10 → gk i = adK i) ∧ (∀ i, i < 10 → gk (100 + i) = adV i) ∧ gk 110 = r := ⟨fun i => if i < 100 then adK i else if i < 110 then adV (i - 100) else r, fun i hi => if_pos (by omega), fun i hi => by
    show (if 100 + i < 100 then _ else if 100 + i < 110 then adV (100 + i - 100) else r) = _
    rw [if_neg (by omega), if_pos (by omega), Nat.add_sub_cancel_left], rfl⟩
  have hS2 : vk_S 10 STL STB gk adV (fun q : Nat => s.heap.size ≤ q) s s.heap := ⟨fun i hi => by rw [hgk i hi]; exact hS.1 i hi, fun i j hi hj e => hS.2 i j hi hj (by rw [← hgk i hi, ← hgk j hj]; exact e)⟩
  refine ⟨(l, (fun k => pick k0 [k0, k1, k2, k3, k4, k5, k6, k7, k8, k9, k10, k11] k, fun k => pick i0 [i0, i1, i2, i3, i4, i5, i6, i7, i8, i9, i10, i11] k), fun k => pick a0 [a0, a1, a2, a3, a4, a5, a6] k, s.heap.size, (b, L, xs), gk, adV), rfl, rfl, rfl, ?_, ?_⟩
  · refine ⟨hx, hb, hr, hml, hown, hgood, hlocks, rfl, ⟨?_, ?_⟩, ⟨⟨hX, hbl⟩, Nat.le_refl _, hS2, ?_, ⟨?_, ?_, hgw⟩, ?_, ?_, ?_, ?_⟩, k_L_law⟩
    · intro k q hq
      match k, hq with
      | 0, hq => cases hq; exact hk0
      | 1, hq => cases hq; exact hk1
      | 2, hq => cases hq; exact hk2
      | 3, hq => cases hq; exact hk3
      | 4, hq => cases hq; exact hk4
      | 5, hq => cases hq; exact hk5
      | 6, hq => cases hq; exact hk6
      | 7, hq => cases hq; exact hk7
      | 8, hq => cases hq; exact hk8
      | 9, hq => cases hq; exact hk9
      | 10, hq => cases hq; exact hk10
      | 11, hq => cases hq; exact hk11
      | k + 12, hq => simp at hq
    · intro k q hq
      match k, hq with
      | 0, hq => cases hq; exact ha0
      | 1, hq => cases hq; exact ha1
      | 2, hq => cases hq; exact ha2
      | 3, hq => cases hq; exact ha3
      | 4, hq => cases hq; exact ha4
      | 5, hq => cases hq; exact ha5
      | 6, hq => cases hq; exact ha6
      | k + 7, hq => simp [gT] at hq
    · intro q hq
      obtain ⟨h1, h2⟩ := str_term q hq
      have hw : (Cond.stringRef (RN q.1) q.2.1 q.2.2.1).before #[Value.ref b] s = true := hts _ (mem_pos _ _ str_pos _ (List.mem_map_of_mem hq))
      show vk_R (RN q.1) q.2.1 q.2.2.1 (gk q.2.2.2) s
      rw [hgk _ h1]
      refine vk_R.of (A := #[Value.ref b]) hw ?_
      rcases h2 with e | e
      · rw [e]; exact hevT _ h1
      · rw [e]; exact hev _ h1
    · refine va_Zof (args := #[Value.ref b]) (hts _ ls_cs) (hts _ ini_S) ?_ hn
      have := hfw _ fw8
      exact va_eqt this
    · rcases hr2 with z | z
      · exact ⟨.null, z, Or.inl rfl⟩
      · refine ⟨.ref (txt 110), ?_, Or.inr ⟨_, rfl⟩⟩
        rw [rv_txt]
        show va_Z _ _ _ (.ref (gk 110)) _ _ _
        rw [hgr]
        exact z
    · exact fun q hq => hts _ (nest_ok q hq)
    · exact hts _ ao_Mast
    · exact hts _ ao_Area
    · exact hts _ ao_Row
  · exact ⟨rfl, fun k q h => by simp [cellsE] at h⟩
theorem whole_start0 {Inv : IF → LF → Bool → Prop} (hall : ∀ G I L b, Inv I L b → AllS Inv G I L b) (h0 : Inv w01.1 (fun _ _ => 0) false) {p : Program} {e : Env} {s : State} {m : MethodId} {below : List Frame} {meth : Method} {c : Code} (l : Launch) {b L : Nat} {xs : Nat → Int32} (hL : L ≤ 3584) (C0 : lw_At p s m meth c b L xs) : W p l e room_1 s m #[Value.ref b] below meth c s.heap [] 0 0 (lw_Z below #[Value.ref b] s) (entryFrame m ([Value.ref b] : List Value).toArray 4) := by
  obtain ⟨G, g1, g2, g3, hC, hrep⟩ := entry_G l C0
  have hl := lv_entry ([.ref b]) (n := 4) (Nat.le_of_ble_eq_true rfl)
  rw [lg_entry_eq]
  generalize (lg_sl ([.ref b]) ++ List.replicate (4 - (lg_sl ([.ref b])).length) Slot.unset).toArray = ls at hl ⊢
  have hl : lv_has ls 4 [(0, .ref b)] := hl
  have K := law_all (Inv := Inv) (G := G) (n := meth.name) (by rw [g3]; exact hL) (hall G) h0 p e s m #[Value.ref b] below meth c hC s.heap [] ls hrep ⟨Nat.le_refl _, fun _ _ _ => rfl, fun _ h => by cases h⟩ (by
    have e : rvl G [(0, .ref 1000000)] = [(0, .ref b)] := by
      show [(0, Value.ref (ra G 1000000))] = _
      have : ra G 1000000 = b := by
        show (gS G).1 = b
        rw [g3]
      rw [this]
    rw [e]
    exact hl)
  rw [g1] at K
  intro T hT X
  obtain ⟨t, a1, a2⟩ := K T hT X
  exact ⟨t, a1, a2 ⟨g2, by rw [g3]⟩⟩
