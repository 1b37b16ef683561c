/-! constructors -/
def Zr (n : Nat) (w : mW) : Prop := ∀ a, n ≤ a → w.1 a = (fun _ => 0) ∧ w.2.1 a = (fun _ => 0) ∧ w.2.2 a = (fun _ => none)
theorem Zr.mono {n n' : Nat} {w : mW} (h : Zr n w) (hn : n ≤ n') : Zr n' w := fun a ha => h a (by omega)
theorem Zr_sI {n a k : Nat} {v : Int32} {w : mW} (h : Zr n w) (ha : a < n) : Zr n (sI w a k v) := fun q hq => ⟨by rw [sI_o (by omega)]; exact (h q hq).1, (h q hq).2⟩
theorem Zr_sL {n a k : Nat} {v : Int64} {w : mW} (h : Zr n w) (ha : a < n) : Zr n (sL w a k v) := fun q hq => ⟨(h q hq).1, by rw [sL_o (by omega)]; exact (h q hq).2.1, (h q hq).2.2⟩
theorem Zr_sR {n a k : Nat} {v : Option Nat} {w : mW} (h : Zr n w) (ha : a < n) : Zr n (sR w a k v) := fun q hq => ⟨(h q hq).1, (h q hq).2.1, by rw [sR_o (by omega)]; exact (h q hq).2.2⟩
theorem dflt {t : FieldType} (h1 : t ≠ .float) (h2 : t ≠ .double) (G : Gl) (w : mW) (a j : Nat) (e1 : w.1 a j = 0) (e2 : w.2.1 a j = 0) (e3 : w.2.2 a j = none) : defaultValue t = fldV G w a j (kd t) := by
  cases t <;> first | exact absurd rfl h1 | exact absurd rfl h2 | (simp only [kd, fldV]; (first | rw [e1] | rw [e2] | rw [e3]); rfl)
theorem ty_nf : ∀ ci, ci < 12 → ∀ j, j < NF ci → tyT ci j ≠ .float ∧ tyT ci j ≠ .double := by decide +kernel
section P1
variable {G : Gl} {Y Y' : mY} {R : Room} {QQ : List Frame → Array Value → State → State → Prop} {N N' : Nat × Nat × Nat} {k : Nat} {lv : List (Nat × Value)} {st : List Value} {w : mW} {pc : Nat}
theorem p_new {i ci : Nat} (hd : nx Y k = some (pc, .new i, 3)) (hl : Cond.classLink (RN Y.1) i (RN ci) ∈ goodL) (hin : Cond.instantiable (RN ci) (NF ci) ∈ goodL) (hini : Cond.initialized (RN ci) ∈ goodL) (hci : ci < 12) (hsh : shp (N.1 + 1) N.1 = some (.inr ci)) (hZ : Zr N.1 w) (hR : N.2.1 + 1 ≤ R.cells ∧ N.2.2 + NF ci ≤ R.slots) (hN : (N.1 + 1, N.2.1 + 1, N.2.2 + NF ci) = N')
    (kk : WP G Y R QQ N' (k + 1) lv (.ref N.1 :: st) w) : WP G Y R QQ N k lv st w := by
  subst hN
  exact wp_new hd hl hin hini hci hsh (hZ _ (Nat.le_refl _)) (fun G j hj w2 e1 e2 e3 => dflt (ty_nf ci hci j hj).1 (ty_nf ci hci j hj).2 G w2 _ j e1 e2 e3) hR kk
theorem p_newa {t len : Nat} {at0 : ArrayType} {ty : FieldType} {nn : Int32} (hd : nx Y k = some (pc, .newarray at0, 2)) (hty : newarray.typeOf at0 = ty) (hac : Cond.arrayClass ty ∈ goodL) (ht : (t = 0 ∧ ty = .int) ∨ (t = 1 ∧ ty = .byte) ∨ (t = 2 ∧ ty = .boolean) ∨ (t = 3 ∧ ty = .long)) (hnn : ¬ nn < 0) (hlen : nn.toNatClampNeg = len) (hb8 : len * 8 ≤ 536870912) (hsh : shp (N.1 + 1) N.1 = some (.inl (t, len))) (hZ : Zr N.1 w) (hR : N.2.1 + 1 ≤ R.cells ∧ N.2.2 + len ≤ R.slots) (hN : (N.1 + 1, N.2.1 + 1, N.2.2 + len) = N')
    (kk : WP G Y R QQ N' (k + 1) lv (.ref N.1 :: st) w) : WP G Y R QQ N k lv (.int nn :: st) w := by
  subst hN
  exact wp_newa hd hty hac ht hnn hlen hb8 hsh (hZ _ (Nat.le_refl _)) hR kk
theorem p_newq {t len i ci : Nat} {nn : Int32} (hd : nx Y k = some (pc, .anewarray i, 3)) (hl : Cond.classLink (RN Y.1) i (RN ci) ∈ goodL) (ht : (t = 4 ∧ ci = 4) ∨ (t = 5 ∧ ci = 0) ∨ (t = 6 ∧ ci = 6)) (hnn : ¬ nn < 0) (hlen : nn.toNatClampNeg = len) (hb8 : len * 8 ≤ 536870912) (hsh : shp (N.1 + 1) N.1 = some (.inl (t, len))) (hZ : Zr N.1 w) (hR : N.2.1 + 1 ≤ R.cells ∧ N.2.2 + len ≤ R.slots) (hN : (N.1 + 1, N.2.1 + 1, N.2.2 + len) = N')
    (kk : WP G Y R QQ N' (k + 1) lv (.ref N.1 :: st) w) : WP G Y R QQ N k lv (.int nn :: st) w := by
  subst hN
  exact wp_newq hd hl ht hnn hlen hb8 hsh (hZ _ (Nat.le_refl _)) hR kk
theorem p_cI {d mc ms na i a : Nat} {As rest : List Value} {w' : mW} (hd : nx Y k = some (pc, .invokespecial i, 3)) (hl : Cond.methodLink (RN Y.1) i Y'.2.1 ∈ goodL ∨ (RN Y.1, i, Y'.2.1) ∈ nestT) (hi : nOK Y') (hm : mOK Y' na) (hM : MT G d Y' (.ref a :: As) N.1 w mc ms (fun r w2 => r = none ∧ w2 = w')) (hst : pops na st [] = some (As, .ref a :: rest)) (hcat : (rest.map (fun v => v.category)).sum ≤ 8)
    (hR : d + 2 ≤ R.frames ∧ 60 * d + 120 ≤ R.locals ∧ N.2.1 + mc ≤ R.cells ∧ N.2.2 + ms ≤ R.slots) (hN : (N.1 + mc, N.2.1 + mc, N.2.2 + ms) = N')
    (kk : WP G Y R QQ N' (k + 1) lv rest w') : WP G Y R QQ N k lv st w := by
  subst hN
  exact wp_cI hd hl hi hm hM hst hcat hR (fun r w2 h => by obtain ⟨rfl, rfl⟩ := h; exact kk)
end P1
theorem hRc {d mc ms a b : Nat} (h1 : a ≤ mc) (h2 : b ≤ ms) : d + 2 ≤ (rmD (d + 1) mc ms).frames ∧ 60 * d + 120 ≤ (rmD (d + 1) mc ms).locals ∧ a ≤ (rmD (d + 1) mc ms).cells ∧ b ≤ (rmD (d + 1) mc ms).slots := ⟨Nat.le_refl _, by show _ ≤ 60 * (d + 1) + 60; omega, h1, h2⟩
abbrev MC (G : Gl) (d : Nat) (Y : mY) (a n : Nat) (w : mW) (mc ms : Nat) (w' : mW) : Prop := MT G d Y [.ref a] n w mc ms (fun r w2 => r = none ∧ w2 = w')
abbrev WC (G : Gl) (d : Nat) (Y : mY) (n mc ms : Nat) (w' : mW) (N : Nat × Nat × Nat) (k : Nat) (lv : List (Nat × Value)) (st : List Value) (w : mW) : Prop := WP G Y (rmD d mc ms) (QM G n mc ms (fun r w2 => r = none ∧ w2 = w')) N k lv st w
theorem k_X5 (G : Gl) (d : Nat) (w : mW) (hZ : Zr 35 w) : MC G (d + 0) Y_X5_init 34 35 w 4 2153 (sI (sR (sR (sR (sR (w) 34 0 (some 35)) 34 1 (some 36)) 34 2 (some 37)) 34 3 (some 38)) 34 4 1) := by
  refine MT.intro m_X5_init rfl (Nat.le_of_ble_eq_true rfl) ?_
  show WC G (d + 0) Y_X5_init 35 4 2153 _ (35, 0, 0) 0 [(0, .ref 34)] [] w
  refine wp_aload_n rfl rfl ?_
  refine wp_obj rfl lo_5 (by decide) ⟨by show 1 ≤ _ + 1; omega, by show 20 ≤ 60 * _ + 60; omega⟩ ?_
  refine wp_aload_n rfl rfl ?_
  refine wp_sipush (v := 1024) rfl rfl ?_
  refine p_newa (t := 0) (len := 1024) (N' := (36, 1, 1024)) rfl rfl ac_int (by decide) (by decide) rfl (by decide) rfl (show Zr 35 _ by (repeat (first | (refine Zr_sI ?_ (by decide)) | (refine Zr_sR ?_ (by decide)) | (refine Zr_sL ?_ (by decide)))); exact hZ.mono (by decide)) ⟨Nat.le_of_ble_eq_true rfl, Nat.le_of_ble_eq_true rfl⟩ rfl ?_
  refine wp_putr rfl rfl rfl (Or.inr ⟨rfl, rfl, rfl⟩) rfl ?_
  refine wp_aload_n rfl rfl ?_
  refine wp_sipush (v := 1024) rfl rfl ?_
  refine p_newa (t := 0) (len := 1024) (N' := (37, 2, 2048)) rfl rfl ac_int (by decide) (by decide) rfl (by decide) rfl (show Zr 36 _ by (repeat (first | (refine Zr_sI ?_ (by decide)) | (refine Zr_sR ?_ (by decide)) | (refine Zr_sL ?_ (by decide)))); exact hZ.mono (by decide)) ⟨Nat.le_of_ble_eq_true rfl, Nat.le_of_ble_eq_true rfl⟩ rfl ?_
  refine wp_putr rfl rfl rfl (Or.inr ⟨rfl, rfl, rfl⟩) rfl ?_
  refine wp_aload_n rfl rfl ?_
  refine wp_bipush (v := 53) rfl rfl ?_
  refine p_newa (t := 0) (len := 53) (N' := (38, 3, 2101)) rfl rfl ac_int (by decide) (by decide) rfl (by decide) rfl (show Zr 37 _ by (repeat (first | (refine Zr_sI ?_ (by decide)) | (refine Zr_sR ?_ (by decide)) | (refine Zr_sL ?_ (by decide)))); exact hZ.mono (by decide)) ⟨Nat.le_of_ble_eq_true rfl, Nat.le_of_ble_eq_true rfl⟩ rfl ?_
  refine wp_putr rfl rfl rfl (Or.inr ⟨rfl, rfl, rfl⟩) rfl ?_
  refine wp_aload_n rfl rfl ?_
  refine wp_bipush (v := 52) rfl rfl ?_
  refine p_newa (t := 0) (len := 52) (N' := (39, 4, 2153)) rfl rfl ac_int (by decide) (by decide) rfl (by decide) rfl (show Zr 38 _ by (repeat (first | (refine Zr_sI ?_ (by decide)) | (refine Zr_sR ?_ (by decide)) | (refine Zr_sL ?_ (by decide)))); exact hZ.mono (by decide)) ⟨Nat.le_of_ble_eq_true rfl, Nat.le_of_ble_eq_true rfl⟩ rfl ?_
  refine wp_putr rfl rfl rfl (Or.inr ⟨rfl, rfl, rfl⟩) rfl ?_
  refine wp_aload_n rfl rfl ?_
  refine wp_iconst (v := 1) rfl rfl ?_
  refine wp_puti rfl rfl rfl (Or.inl rfl) rfl ?_
  exact wp_vret rfl rfl ⟨rfl, rfl⟩
theorem k_X9 (G : Gl) (d : Nat) (w : mW) (hZ : Zr 40 w) : MC G (d + 0) Y_X9_init 39 40 w 4 40 (sR (sR (sR (sR (w) 39 0 (some 40)) 39 1 (some 41)) 39 2 (some 42)) 39 3 (some 43)) := by
  refine MT.intro m_X9_init rfl (Nat.le_of_ble_eq_true rfl) ?_
  show WC G (d + 0) Y_X9_init 40 4 40 _ (40, 0, 0) 0 [(0, .ref 39)] [] w
  refine wp_aload_n rfl rfl ?_
  refine wp_obj rfl lo_9 (by decide) ⟨by show 1 ≤ _ + 1; omega, by show 20 ≤ 60 * _ + 60; omega⟩ ?_
  refine wp_aload_n rfl rfl ?_
  refine wp_bipush (v := 10) rfl rfl ?_
  refine p_newa (t := 0) (len := 10) (N' := (41, 1, 10)) rfl rfl ac_int (by decide) (by decide) rfl (by decide) rfl (show Zr 40 _ by (repeat (first | (refine Zr_sI ?_ (by decide)) | (refine Zr_sR ?_ (by decide)) | (refine Zr_sL ?_ (by decide)))); exact hZ.mono (by decide)) ⟨Nat.le_of_ble_eq_true rfl, Nat.le_of_ble_eq_true rfl⟩ rfl ?_
  refine wp_putr rfl rfl rfl (Or.inr ⟨rfl, rfl, rfl⟩) rfl ?_
  refine wp_aload_n rfl rfl ?_
  refine wp_bipush (v := 10) rfl rfl ?_
  refine p_newa (t := 0) (len := 10) (N' := (42, 2, 20)) rfl rfl ac_int (by decide) (by decide) rfl (by decide) rfl (show Zr 41 _ by (repeat (first | (refine Zr_sI ?_ (by decide)) | (refine Zr_sR ?_ (by decide)) | (refine Zr_sL ?_ (by decide)))); exact hZ.mono (by decide)) ⟨Nat.le_of_ble_eq_true rfl, Nat.le_of_ble_eq_true rfl⟩ rfl ?_
  refine wp_putr rfl rfl rfl (Or.inr ⟨rfl, rfl, rfl⟩) rfl ?_
  refine wp_aload_n rfl rfl ?_
  refine wp_bipush (v := 10) rfl rfl ?_
  refine p_newa (t := 0) (len := 10) (N' := (43, 3, 30)) rfl rfl ac_int (by decide) (by decide) rfl (by decide) rfl (show Zr 42 _ by (repeat (first | (refine Zr_sI ?_ (by decide)) | (refine Zr_sR ?_ (by decide)) | (refine Zr_sL ?_ (by decide)))); exact hZ.mono (by decide)) ⟨Nat.le_of_ble_eq_true rfl, Nat.le_of_ble_eq_true rfl⟩ rfl ?_
  refine wp_putr rfl rfl rfl (Or.inr ⟨rfl, rfl, rfl⟩) rfl ?_
  refine wp_aload_n rfl rfl ?_
  refine wp_bipush (v := 10) rfl rfl ?_
  refine p_newa (t := 0) (len := 10) (N' := (44, 4, 40)) rfl rfl ac_int (by decide) (by decide) rfl (by decide) rfl (show Zr 43 _ by (repeat (first | (refine Zr_sI ?_ (by decide)) | (refine Zr_sR ?_ (by decide)) | (refine Zr_sL ?_ (by decide)))); exact hZ.mono (by decide)) ⟨Nat.le_of_ble_eq_true rfl, Nat.le_of_ble_eq_true rfl⟩ rfl ?_
  refine wp_putr rfl rfl rfl (Or.inr ⟨rfl, rfl, rfl⟩) rfl ?_
  exact wp_vret rfl rfl ⟨rfl, rfl⟩
theorem k_X7 (G : Gl) (d : Nat) (w : mW) (hZ : Zr 45 w) : MC G (d + 0) Y_X7_init 44 45 w 1 300 (sR (w) 44 0 (some 45)) := by
  refine MT.intro m_X7_init rfl (Nat.le_of_ble_eq_true rfl) ?_
  show WC G (d + 0) Y_X7_init 45 1 300 _ (45, 0, 0) 0 [(0, .ref 44)] [] w
  refine wp_aload_n rfl rfl ?_
  refine wp_obj rfl lo_7 (by decide) ⟨by show 1 ≤ _ + 1; omega, by show 20 ≤ 60 * _ + 60; omega⟩ ?_
  refine wp_aload_n rfl rfl ?_
  refine wp_sipush (v := 300) rfl rfl ?_
  refine p_newa (t := 1) (len := 300) (N' := (46, 1, 300)) rfl rfl ac_byte (by decide) (by decide) rfl (by decide) rfl (show Zr 45 _ by (repeat (first | (refine Zr_sI ?_ (by decide)) | (refine Zr_sR ?_ (by decide)) | (refine Zr_sL ?_ (by decide)))); exact hZ.mono (by decide)) ⟨Nat.le_of_ble_eq_true rfl, Nat.le_of_ble_eq_true rfl⟩ rfl ?_
  refine wp_putr rfl rfl rfl (Or.inr ⟨rfl, rfl, rfl⟩) rfl ?_
  exact wp_vret rfl rfl ⟨rfl, rfl⟩
theorem k_X8 (G : Gl) (d : Nat) (w : mW) (hZ : Zr 48 w) : MC G (d + 0) Y_X8_init 47 48 w 2 600 (sR (sR (w) 47 0 (some 48)) 47 1 (some 49)) := by
  refine MT.intro m_X8_init rfl (Nat.le_of_ble_eq_true rfl) ?_
  show WC G (d + 0) Y_X8_init 48 2 600 _ (48, 0, 0) 0 [(0, .ref 47)] [] w
  refine wp_aload_n rfl rfl ?_
  refine wp_obj rfl lo_8 (by decide) ⟨by show 1 ≤ _ + 1; omega, by show 20 ≤ 60 * _ + 60; omega⟩ ?_
  refine wp_aload_n rfl rfl ?_
  refine wp_sipush (v := 300) rfl rfl ?_
  refine p_newa (t := 0) (len := 300) (N' := (49, 1, 300)) rfl rfl ac_int (by decide) (by decide) rfl (by decide) rfl (show Zr 48 _ by (repeat (first | (refine Zr_sI ?_ (by decide)) | (refine Zr_sR ?_ (by decide)) | (refine Zr_sL ?_ (by decide)))); exact hZ.mono (by decide)) ⟨Nat.le_of_ble_eq_true rfl, Nat.le_of_ble_eq_true rfl⟩ rfl ?_
  refine wp_putr rfl rfl rfl (Or.inr ⟨rfl, rfl, rfl⟩) rfl ?_
  refine wp_aload_n rfl rfl ?_
  refine wp_sipush (v := 300) rfl rfl ?_
  refine p_newa (t := 0) (len := 300) (N' := (50, 2, 600)) rfl rfl ac_int (by decide) (by decide) rfl (by decide) rfl (show Zr 49 _ by (repeat (first | (refine Zr_sI ?_ (by decide)) | (refine Zr_sR ?_ (by decide)) | (refine Zr_sL ?_ (by decide)))); exact hZ.mono (by decide)) ⟨Nat.le_of_ble_eq_true rfl, Nat.le_of_ble_eq_true rfl⟩ rfl ?_
  refine wp_putr rfl rfl rfl (Or.inr ⟨rfl, rfl, rfl⟩) rfl ?_
  exact wp_vret rfl rfl ⟨rfl, rfl⟩
theorem k_X2a (G : Gl) (d : Nat) (w : mW) (hZ : Zr 51 w) : MC G (d + 0) Y_X2_init 50 51 w 5 350 (sI (sR (sR (sR (sR (sR (w) 50 0 (some 51)) 50 1 (some 52)) 50 2 (some 53)) 50 3 (some 54)) 50 4 (some 55)) 50 9 10000000) := by
  refine MT.intro m_X2_init rfl (Nat.le_of_ble_eq_true rfl) ?_
  show WC G (d + 0) Y_X2_init 51 5 350 _ (51, 0, 0) 0 [(0, .ref 50)] [] w
  refine wp_aload_n rfl rfl ?_
  refine wp_obj rfl lo_2 (by decide) ⟨by show 1 ≤ _ + 1; omega, by show 20 ≤ 60 * _ + 60; omega⟩ ?_
  refine wp_aload_n rfl rfl ?_
  refine wp_sipush (v := 300) rfl rfl ?_
  refine p_newa (t := 0) (len := 300) (N' := (52, 1, 300)) rfl rfl ac_int (by decide) (by decide) rfl (by decide) rfl (show Zr 51 _ by (repeat (first | (refine Zr_sI ?_ (by decide)) | (refine Zr_sR ?_ (by decide)) | (refine Zr_sL ?_ (by decide)))); exact hZ.mono (by decide)) ⟨Nat.le_of_ble_eq_true rfl, Nat.le_of_ble_eq_true rfl⟩ rfl ?_
  refine wp_putr rfl rfl rfl (Or.inr ⟨rfl, rfl, rfl⟩) rfl ?_
  refine wp_aload_n rfl rfl ?_
  refine wp_bipush (v := 10) rfl rfl ?_
  refine p_newa (t := 0) (len := 10) (N' := (53, 2, 310)) rfl rfl ac_int (by decide) (by decide) rfl (by decide) rfl (show Zr 52 _ by (repeat (first | (refine Zr_sI ?_ (by decide)) | (refine Zr_sR ?_ (by decide)) | (refine Zr_sL ?_ (by decide)))); exact hZ.mono (by decide)) ⟨Nat.le_of_ble_eq_true rfl, Nat.le_of_ble_eq_true rfl⟩ rfl ?_
  refine wp_putr rfl rfl rfl (Or.inr ⟨rfl, rfl, rfl⟩) rfl ?_
  refine wp_aload_n rfl rfl ?_
  refine wp_bipush (v := 10) rfl rfl ?_
  refine p_newa (t := 0) (len := 10) (N' := (54, 3, 320)) rfl rfl ac_int (by decide) (by decide) rfl (by decide) rfl (show Zr 53 _ by (repeat (first | (refine Zr_sI ?_ (by decide)) | (refine Zr_sR ?_ (by decide)) | (refine Zr_sL ?_ (by decide)))); exact hZ.mono (by decide)) ⟨Nat.le_of_ble_eq_true rfl, Nat.le_of_ble_eq_true rfl⟩ rfl ?_
  refine wp_putr rfl rfl rfl (Or.inr ⟨rfl, rfl, rfl⟩) rfl ?_
  refine wp_aload_n rfl rfl ?_
  refine wp_bipush (v := 10) rfl rfl ?_
  refine p_newa (t := 0) (len := 10) (N' := (55, 4, 330)) rfl rfl ac_int (by decide) (by decide) rfl (by decide) rfl (show Zr 54 _ by (repeat (first | (refine Zr_sI ?_ (by decide)) | (refine Zr_sR ?_ (by decide)) | (refine Zr_sL ?_ (by decide)))); exact hZ.mono (by decide)) ⟨Nat.le_of_ble_eq_true rfl, Nat.le_of_ble_eq_true rfl⟩ rfl ?_
  refine wp_putr rfl rfl rfl (Or.inr ⟨rfl, rfl, rfl⟩) rfl ?_
  refine wp_aload_n rfl rfl ?_
  refine wp_bipush (v := 20) rfl rfl ?_
  refine p_newa (t := 3) (len := 20) (N' := (56, 5, 350)) rfl rfl ac_long (by decide) (by decide) rfl (by decide) rfl (show Zr 55 _ by (repeat (first | (refine Zr_sI ?_ (by decide)) | (refine Zr_sR ?_ (by decide)) | (refine Zr_sL ?_ (by decide)))); exact hZ.mono (by decide)) ⟨Nat.le_of_ble_eq_true rfl, Nat.le_of_ble_eq_true rfl⟩ rfl ?_
  refine wp_putr rfl rfl rfl (Or.inr ⟨rfl, rfl, rfl⟩) rfl ?_
  refine wp_aload_n rfl rfl ?_
  refine wp_ldc (v := 10000000) rfl ci_2_28 ?_
  refine wp_puti rfl rfl rfl (Or.inl rfl) rfl ?_
  exact wp_vret rfl rfl ⟨rfl, rfl⟩
theorem k_X2b (G : Gl) (d : Nat) (w : mW) (hZ : Zr 67 w) : MC G (d + 0) Y_X2_init 66 67 w 5 350 (sI (sR (sR (sR (sR (sR (w) 66 0 (some 67)) 66 1 (some 68)) 66 2 (some 69)) 66 3 (some 70)) 66 4 (some 71)) 66 9 10000000) := by
  refine MT.intro m_X2_init rfl (Nat.le_of_ble_eq_true rfl) ?_
  show WC G (d + 0) Y_X2_init 67 5 350 _ (67, 0, 0) 0 [(0, .ref 66)] [] w
  refine wp_aload_n rfl rfl ?_
  refine wp_obj rfl lo_2 (by decide) ⟨by show 1 ≤ _ + 1; omega, by show 20 ≤ 60 * _ + 60; omega⟩ ?_
  refine wp_aload_n rfl rfl ?_
  refine wp_sipush (v := 300) rfl rfl ?_
  refine p_newa (t := 0) (len := 300) (N' := (68, 1, 300)) rfl rfl ac_int (by decide) (by decide) rfl (by decide) rfl (show Zr 67 _ by (repeat (first | (refine Zr_sI ?_ (by decide)) | (refine Zr_sR ?_ (by decide)) | (refine Zr_sL ?_ (by decide)))); exact hZ.mono (by decide)) ⟨Nat.le_of_ble_eq_true rfl, Nat.le_of_ble_eq_true rfl⟩ rfl ?_
  refine wp_putr rfl rfl rfl (Or.inr ⟨rfl, rfl, rfl⟩) rfl ?_
  refine wp_aload_n rfl rfl ?_
  refine wp_bipush (v := 10) rfl rfl ?_
  refine p_newa (t := 0) (len := 10) (N' := (69, 2, 310)) rfl rfl ac_int (by decide) (by decide) rfl (by decide) rfl (show Zr 68 _ by (repeat (first | (refine Zr_sI ?_ (by decide)) | (refine Zr_sR ?_ (by decide)) | (refine Zr_sL ?_ (by decide)))); exact hZ.mono (by decide)) ⟨Nat.le_of_ble_eq_true rfl, Nat.le_of_ble_eq_true rfl⟩ rfl ?_
  refine wp_putr rfl rfl rfl (Or.inr ⟨rfl, rfl, rfl⟩) rfl ?_
  refine wp_aload_n rfl rfl ?_
  refine wp_bipush (v := 10) rfl rfl ?_
  refine p_newa (t := 0) (len := 10) (N' := (70, 3, 320)) rfl rfl ac_int (by decide) (by decide) rfl (by decide) rfl (show Zr 69 _ by (repeat (first | (refine Zr_sI ?_ (by decide)) | (refine Zr_sR ?_ (by decide)) | (refine Zr_sL ?_ (by decide)))); exact hZ.mono (by decide)) ⟨Nat.le_of_ble_eq_true rfl, Nat.le_of_ble_eq_true rfl⟩ rfl ?_
  refine wp_putr rfl rfl rfl (Or.inr ⟨rfl, rfl, rfl⟩) rfl ?_
  refine wp_aload_n rfl rfl ?_
  refine wp_bipush (v := 10) rfl rfl ?_
  refine p_newa (t := 0) (len := 10) (N' := (71, 4, 330)) rfl rfl ac_int (by decide) (by decide) rfl (by decide) rfl (show Zr 70 _ by (repeat (first | (refine Zr_sI ?_ (by decide)) | (refine Zr_sR ?_ (by decide)) | (refine Zr_sL ?_ (by decide)))); exact hZ.mono (by decide)) ⟨Nat.le_of_ble_eq_true rfl, Nat.le_of_ble_eq_true rfl⟩ rfl ?_
  refine wp_putr rfl rfl rfl (Or.inr ⟨rfl, rfl, rfl⟩) rfl ?_
  refine wp_aload_n rfl rfl ?_
  refine wp_bipush (v := 20) rfl rfl ?_
  refine p_newa (t := 3) (len := 20) (N' := (72, 5, 350)) rfl rfl ac_long (by decide) (by decide) rfl (by decide) rfl (show Zr 71 _ by (repeat (first | (refine Zr_sI ?_ (by decide)) | (refine Zr_sR ?_ (by decide)) | (refine Zr_sL ?_ (by decide)))); exact hZ.mono (by decide)) ⟨Nat.le_of_ble_eq_true rfl, Nat.le_of_ble_eq_true rfl⟩ rfl ?_
  refine wp_putr rfl rfl rfl (Or.inr ⟨rfl, rfl, rfl⟩) rfl ?_
  refine wp_aload_n rfl rfl ?_
  refine wp_ldc (v := 10000000) rfl ci_2_28 ?_
  refine wp_puti rfl rfl rfl (Or.inl rfl) rfl ?_
  exact wp_vret rfl rfl ⟨rfl, rfl⟩
theorem k_X6_0 (G : Gl) (d : Nat) (w : mW) (hZ : Zr 58 w) : MC G (d + 0) Y_X6_init 57 58 w 1 60 (sI (sR (w) 57 0 (some 58)) 57 2 (-1)) := by
  refine MT.intro m_X6_init rfl (Nat.le_of_ble_eq_true rfl) ?_
  show WC G (d + 0) Y_X6_init 58 1 60 _ (58, 0, 0) 0 [(0, .ref 57)] [] w
  refine wp_aload_n rfl rfl ?_
  refine wp_obj rfl lo_6 (by decide) ⟨by show 1 ≤ _ + 1; omega, by show 20 ≤ 60 * _ + 60; omega⟩ ?_
  refine wp_aload_n rfl rfl ?_
  refine wp_bipush (v := 60) rfl rfl ?_
  refine p_newa (t := 3) (len := 60) (N' := (59, 1, 60)) rfl rfl ac_long (by decide) (by decide) rfl (by decide) rfl (show Zr 58 _ by (repeat (first | (refine Zr_sI ?_ (by decide)) | (refine Zr_sR ?_ (by decide)) | (refine Zr_sL ?_ (by decide)))); exact hZ.mono (by decide)) ⟨Nat.le_of_ble_eq_true rfl, Nat.le_of_ble_eq_true rfl⟩ rfl ?_
  refine wp_putr rfl rfl rfl (Or.inr ⟨rfl, rfl, rfl⟩) rfl ?_
  refine wp_aload_n rfl rfl ?_
  refine wp_iconst (v := (-1)) rfl rfl ?_
  refine wp_puti rfl rfl rfl (Or.inl rfl) rfl ?_
  exact wp_vret rfl rfl ⟨rfl, rfl⟩
theorem k_X6_1 (G : Gl) (d : Nat) (w : mW) (hZ : Zr 60 w) : MC G (d + 0) Y_X6_init 59 60 w 1 60 (sI (sR (w) 59 0 (some 60)) 59 2 (-1)) := by
  refine MT.intro m_X6_init rfl (Nat.le_of_ble_eq_true rfl) ?_
  show WC G (d + 0) Y_X6_init 60 1 60 _ (60, 0, 0) 0 [(0, .ref 59)] [] w
  refine wp_aload_n rfl rfl ?_
  refine wp_obj rfl lo_6 (by decide) ⟨by show 1 ≤ _ + 1; omega, by show 20 ≤ 60 * _ + 60; omega⟩ ?_
  refine wp_aload_n rfl rfl ?_
  refine wp_bipush (v := 60) rfl rfl ?_
  refine p_newa (t := 3) (len := 60) (N' := (61, 1, 60)) rfl rfl ac_long (by decide) (by decide) rfl (by decide) rfl (show Zr 60 _ by (repeat (first | (refine Zr_sI ?_ (by decide)) | (refine Zr_sR ?_ (by decide)) | (refine Zr_sL ?_ (by decide)))); exact hZ.mono (by decide)) ⟨Nat.le_of_ble_eq_true rfl, Nat.le_of_ble_eq_true rfl⟩ rfl ?_
  refine wp_putr rfl rfl rfl (Or.inr ⟨rfl, rfl, rfl⟩) rfl ?_
  refine wp_aload_n rfl rfl ?_
  refine wp_iconst (v := (-1)) rfl rfl ?_
  refine wp_puti rfl rfl rfl (Or.inl rfl) rfl ?_
  exact wp_vret rfl rfl ⟨rfl, rfl⟩
theorem k_X6_2 (G : Gl) (d : Nat) (w : mW) (hZ : Zr 62 w) : MC G (d + 0) Y_X6_init 61 62 w 1 60 (sI (sR (w) 61 0 (some 62)) 61 2 (-1)) := by
  refine MT.intro m_X6_init rfl (Nat.le_of_ble_eq_true rfl) ?_
  show WC G (d + 0) Y_X6_init 62 1 60 _ (62, 0, 0) 0 [(0, .ref 61)] [] w
  refine wp_aload_n rfl rfl ?_
  refine wp_obj rfl lo_6 (by decide) ⟨by show 1 ≤ _ + 1; omega, by show 20 ≤ 60 * _ + 60; omega⟩ ?_
  refine wp_aload_n rfl rfl ?_
  refine wp_bipush (v := 60) rfl rfl ?_
  refine p_newa (t := 3) (len := 60) (N' := (63, 1, 60)) rfl rfl ac_long (by decide) (by decide) rfl (by decide) rfl (show Zr 62 _ by (repeat (first | (refine Zr_sI ?_ (by decide)) | (refine Zr_sR ?_ (by decide)) | (refine Zr_sL ?_ (by decide)))); exact hZ.mono (by decide)) ⟨Nat.le_of_ble_eq_true rfl, Nat.le_of_ble_eq_true rfl⟩ rfl ?_
  refine wp_putr rfl rfl rfl (Or.inr ⟨rfl, rfl, rfl⟩) rfl ?_
  refine wp_aload_n rfl rfl ?_
  refine wp_iconst (v := (-1)) rfl rfl ?_
  refine wp_puti rfl rfl rfl (Or.inl rfl) rfl ?_
  exact wp_vret rfl rfl ⟨rfl, rfl⟩
theorem k_X6_3 (G : Gl) (d : Nat) (w : mW) (hZ : Zr 64 w) : MC G (d + 0) Y_X6_init 63 64 w 1 60 (sI (sR (w) 63 0 (some 64)) 63 2 (-1)) := by
  refine MT.intro m_X6_init rfl (Nat.le_of_ble_eq_true rfl) ?_
  show WC G (d + 0) Y_X6_init 64 1 60 _ (64, 0, 0) 0 [(0, .ref 63)] [] w
  refine wp_aload_n rfl rfl ?_
  refine wp_obj rfl lo_6 (by decide) ⟨by show 1 ≤ _ + 1; omega, by show 20 ≤ 60 * _ + 60; omega⟩ ?_
  refine wp_aload_n rfl rfl ?_
  refine wp_bipush (v := 60) rfl rfl ?_
  refine p_newa (t := 3) (len := 60) (N' := (65, 1, 60)) rfl rfl ac_long (by decide) (by decide) rfl (by decide) rfl (show Zr 64 _ by (repeat (first | (refine Zr_sI ?_ (by decide)) | (refine Zr_sR ?_ (by decide)) | (refine Zr_sL ?_ (by decide)))); exact hZ.mono (by decide)) ⟨Nat.le_of_ble_eq_true rfl, Nat.le_of_ble_eq_true rfl⟩ rfl ?_
  refine wp_putr rfl rfl rfl (Or.inr ⟨rfl, rfl, rfl⟩) rfl ?_
  refine wp_aload_n rfl rfl ?_
  refine wp_iconst (v := (-1)) rfl rfl ?_
  refine wp_puti rfl rfl rfl (Or.inl rfl) rfl ?_
  exact wp_vret rfl rfl ⟨rfl, rfl⟩
theorem k_X3 (G : Gl) (d : Nat) (w : mW) (hZ : Zr 47 w) : MC G (d + 1) Y_X3_init 46 47 w 9 965 (sR (sI (sR (sR (sR (sR (sR (sR (sR (sR (w) 47 0 (some 48)) 47 1 (some 49)) 46 0 (some 47)) 50 0 (some 51)) 50 1 (some 52)) 50 2 (some 53)) 50 3 (some 54)) 50 4 (some 55)) 50 9 10000000) 46 1 (some 50)) := by
  refine MT.intro m_X3_init rfl (Nat.le_of_ble_eq_true rfl) ?_
  show WC G (d + 1) Y_X3_init 47 9 965 _ (47, 0, 0) 0 [(0, .ref 46)] [] w
  refine wp_aload_n rfl rfl ?_
  refine wp_obj rfl lo_3 (by decide) ⟨by show 1 ≤ _ + 1; omega, by show 20 ≤ 60 * _ + 60; omega⟩ ?_
  refine wp_aload_n rfl rfl ?_
  refine p_new (ci := 8) (N' := (48, 1, 5)) rfl kl_3_9 in_8 ini_8 (by decide) rfl (show Zr 47 _ by (repeat (first | (refine Zr_sI ?_ (by decide)) | (refine Zr_sR ?_ (by decide)) | (refine Zr_sL ?_ (by decide)))); exact hZ.mono (by decide)) ⟨Nat.le_of_ble_eq_true rfl, Nat.le_of_ble_eq_true rfl⟩ rfl ?_
  refine wp_dup rfl rfl ?_
  refine p_cI (N' := (50, 3, 605)) rfl (Or.inr ln_3_11) n_X8_init m_X8_init (k_X8 G _ _ (show Zr 48 _ by (repeat (first | (refine Zr_sI ?_ (by decide)) | (refine Zr_sR ?_ (by decide)) | (refine Zr_sL ?_ (by decide)))); exact hZ.mono (by decide))) rfl (by decide) (hRc (Nat.le_of_ble_eq_true rfl) (Nat.le_of_ble_eq_true rfl)) rfl ?_
  refine wp_putr rfl rfl rfl (Or.inr ⟨rfl, rfl, rfl⟩) rfl ?_
  refine wp_aload_n rfl rfl ?_
  refine p_new (ci := 2) (N' := (51, 4, 615)) rfl kl_3_18 in_2 ini_2 (by decide) rfl (show Zr 50 _ by (repeat (first | (refine Zr_sI ?_ (by decide)) | (refine Zr_sR ?_ (by decide)) | (refine Zr_sL ?_ (by decide)))); exact hZ.mono (by decide)) ⟨Nat.le_of_ble_eq_true rfl, Nat.le_of_ble_eq_true rfl⟩ rfl ?_
  refine wp_dup rfl rfl ?_
  refine p_cI (N' := (56, 9, 965)) rfl (Or.inr ln_3_20) n_X2_init m_X2_init (k_X2a G _ _ (show Zr 51 _ by (repeat (first | (refine Zr_sI ?_ (by decide)) | (refine Zr_sR ?_ (by decide)) | (refine Zr_sL ?_ (by decide)))); exact hZ.mono (by decide))) rfl (by decide) (hRc (Nat.le_of_ble_eq_true rfl) (Nat.le_of_ble_eq_true rfl)) rfl ?_
  refine wp_putr rfl rfl rfl (Or.inl rfl) rfl ?_
  exact wp_vret rfl rfl ⟨rfl, rfl⟩
theorem k_X4 (G : Gl) (d a n : Nat) (w : mW) (ha : shp n a = some (.inr 4)) : MC G d Y_X4_init a n w 0 0 (sI (sI (sI w a 3 (-1)) a 6 (-1)) a 7 (-1)) := by
  refine MT.intro m_X4_init rfl (Nat.le_of_ble_eq_true rfl) ?_
  show WC G d Y_X4_init n 0 0 _ (n, 0, 0) 0 [(0, .ref a)] [] w
  refine wp_aload_n rfl rfl ?_
  refine wp_obj rfl lo_4 (by decide) ⟨by show 1 ≤ _ + 1; omega, by show 20 ≤ 60 * _ + 60; omega⟩ ?_
  refine wp_aload_n rfl rfl ?_
  refine wp_iconst (v := (-1)) rfl rfl ?_
  refine wp_puti rfl rfl ha (Or.inl rfl) rfl ?_
  refine wp_aload_n rfl rfl ?_
  refine wp_iconst (v := (-1)) rfl rfl ?_
  refine wp_puti rfl rfl ha (Or.inl rfl) rfl ?_
  refine wp_aload_n rfl rfl ?_
  refine wp_iconst (v := (-1)) rfl rfl ?_
  refine wp_puti rfl rfl ha (Or.inl rfl) rfl ?_
  exact wp_vret rfl rfl ⟨rfl, rfl⟩
theorem k_X0 (G : Gl) (d a n : Nat) (w : mW) (ha : shp n a = some (.inr 0)) : MC G d Y_X0_init a n w 0 0 (sI w a 6 (-1)) := by
  refine MT.intro m_X0_init rfl (Nat.le_of_ble_eq_true rfl) ?_
  show WC G d Y_X0_init n 0 0 _ (n, 0, 0) 0 [(0, .ref a)] [] w
  refine wp_aload_n rfl rfl ?_
  refine wp_obj rfl lo_0 (by decide) ⟨by show 1 ≤ _ + 1; omega, by show 20 ≤ 60 * _ + 60; omega⟩ ?_
  refine wp_aload_n rfl rfl ?_
  refine wp_iconst (v := (-1)) rfl rfl ?_
  refine wp_puti rfl rfl ha (Or.inl rfl) rfl ?_
  exact wp_vret rfl rfl ⟨rfl, rfl⟩
def wM (w : mW) : Nat → mW
  | 0 => sI (sI (sR (sR w 1 0 (some 2)) 1 1 (some 3)) 1 6 1000) 1 7 10
  | m + 1 => sR (sI (sI (sI (wM w m) (4 + m) 3 (-1)) (4 + m) 6 (-1)) (4 + m) 7 (-1)) 2 m (some (4 + m))
def wA (w : mW) : Nat → mW
  | 0 => wM w 14
  | a + 1 => sR (sI (wA w a) (18 + a) 6 (-1)) 3 a (some (18 + a))
theorem wM_Z {w : mW} (hZ : Zr 2 w) : ∀ m, Zr (4 + m) (wM w m)
  | 0 => Zr_sI (Zr_sI (Zr_sR (Zr_sR (hZ.mono (by omega)) (by omega)) (by omega)) (by omega)) (by omega)
  | m + 1 => Zr_sR (Zr_sI (Zr_sI (Zr_sI ((wM_Z hZ m).mono (by omega)) (by omega)) (by omega)) (by omega)) (by omega)
theorem wA_Z {w : mW} (hZ : Zr 2 w) : ∀ a, Zr (18 + a) (wA w a)
  | 0 => wM_Z hZ 14
  | a + 1 => Zr_sR (Zr_sI ((wA_Z hZ a).mono (by omega)) (by omega)) (by omega)
theorem wM_R {w : mW} : ∀ m, (wM w m).2.2 1 0 = some 2 ∧ (wM w m).2.2 1 1 = some 3
  | 0 => ⟨rfl, rfl⟩
  | m + 1 => wM_R m
theorem wA_R {w : mW} : ∀ m, (wA w m).2.2 1 1 = some 3
  | 0 => (wM_R 14).2
  | m + 1 => wA_R m
theorem sh_mk : ∀ m, m < 14 → shp (4 + m + 1) (4 + m) = some (.inr 4) ∧ shp (4 + m + 1) 2 = some (.inl (4, 14)) ∧ shp (4 + m) 1 = some (.inr 1) := by decide
theorem sh_ak : ∀ m, m < 16 → shp (18 + m + 1) (18 + m) = some (.inr 0) ∧ shp (18 + m + 1) 3 = some (.inl (5, 16)) ∧ shp (18 + m) 1 = some (.inr 1) := by decide
theorem k_X1 (G : Gl) (d : Nat) (w : mW) (hZ : Zr 2 w) : MC G (d + 1) Y_X1_init 1 2 w 32 312 (wA w 16) := by
  have la : ∀ (n i : Nat), i + n = 16 → WC G (d + 1) Y_X1_init 2 32 312 (wA w 16) (18 + i, 16 + i, 184 + 8 * i) 32 [(0, .ref 1), (1, .int (nI i))] [] (wA w i) := by
    intro n
    induction n with
    | zero =>
      intro i hi
      have hie : i = 16 := by omega
      subst hie
      refine wp_iload_n rfl rfl ?_
      refine wp_bipush (v := 16) rfl rfl ?_
      refine wp_icmp_ge 44 rfl rfl (fun _ => ?_) (fun h => absurd (show (16 : Int32) ≤ nI 16 by decide) h)
      exact wp_vret rfl rfl ⟨rfl, rfl⟩
    | succ n ih =>
      intro i hi
      obtain ⟨s1, s2, s3⟩ := sh_ak i (by omega)
      have hcl : (nI i).toNatClampNeg = i := nI_clamp (by omega)
      refine wp_iload_n rfl rfl ?_
      refine wp_bipush (v := 16) rfl rfl ?_
      refine wp_icmp_ge 44 rfl rfl (fun h => absurd h (nI_ge (a := i) (b := 16) (by omega) (by omega))) (fun _ => ?_)
      refine wp_aload_n rfl rfl ?_
      refine wp_getr rfl rfl s3 rfl (wA_R i) ?_
      refine wp_iload_n rfl rfl ?_
      refine p_new (ci := 0) (N' := (18 + i + 1, 16 + i + 1, 184 + 8 * i + 8)) rfl kl_1_17 in_0 ini_0 (by decide) s1 (wA_Z hZ i) ⟨by show 16 + i + 1 ≤ 32; omega, by show 184 + 8 * i + 8 ≤ 312; omega⟩ rfl ?_
      refine wp_dup rfl rfl ?_
      refine p_cI (N' := (18 + i + 1, 16 + i + 1, 184 + 8 * i + 8)) rfl (Or.inr ln_1_31) n_X0_init m_X0_init (k_X0 G _ _ _ _ s1) rfl (Nat.le_of_ble_eq_true rfl) (hRc (by show 16 + i + 1 + 0 ≤ 32; omega) (by show 184 + 8 * i + 8 + 0 ≤ 312; omega)) rfl ?_
      refine wp_aast rfl s2 (Or.inr (Or.inl ⟨rfl, rfl⟩)) s1 (vp_in_nI (by omega) (by omega)) ?_
      refine wp_iinc (v := nI (i + 1)) (lv' := [(1, _), (0, _)]) rfl rfl (nI_1 i) (by decide) rfl ?_
      refine wp_goto 32 rfl rfl ?_
      refine wp_loc (lv' := [(0, _), (1, _)]) [1, 0] rfl ?_
      rw [hcl]
      have K := ih (i + 1) (by omega)
      rw [show 18 + (i + 1) = 18 + i + 1 by omega, show 16 + (i + 1) = 16 + i + 1 by omega, show 184 + 8 * (i + 1) = 184 + 8 * i + 8 by omega] at K
      exact K
  have lm : ∀ (n i : Nat), i + n = 14 → WC G (d + 1) Y_X1_init 2 32 312 (wA w 16) (4 + i, 2 + i, 30 + 11 * i) 18 [(0, .ref 1), (1, .int (nI i))] [] (wM w i) := by
    intro n
    induction n with
    | zero =>
      intro i hi
      have hie : i = 14 := by omega
      subst hie
      refine wp_iload_n rfl rfl ?_
      refine wp_bipush (v := 14) rfl rfl ?_
      refine wp_icmp_ge 30 rfl rfl (fun _ => ?_) (fun h => absurd (show (14 : Int32) ≤ nI 14 by decide) h)
      refine wp_iconst (v := 0) rfl rfl ?_
      refine wp_istore_n (lv' := [(1, _), (0, _)]) rfl rfl (by decide) rfl ?_
      refine wp_loc (lv' := [(0, _), (1, _)]) [1, 0] rfl ?_
      exact la 16 0 (by omega)
    | succ n ih =>
      intro i hi
      obtain ⟨s1, s2, s3⟩ := sh_mk i (by omega)
      have hcl : (nI i).toNatClampNeg = i := nI_clamp (by omega)
      refine wp_iload_n rfl rfl ?_
      refine wp_bipush (v := 14) rfl rfl ?_
      refine wp_icmp_ge 30 rfl rfl (fun h => absurd h (nI_ge (a := i) (b := 14) (by omega) (by omega))) (fun _ => ?_)
      refine wp_aload_n rfl rfl ?_
      refine wp_getr rfl rfl s3 rfl (wM_R i).1 ?_
      refine wp_iload_n rfl rfl ?_
      refine p_new (ci := 4) (N' := (4 + i + 1, 2 + i + 1, 30 + 11 * i + 11)) rfl kl_1_9 in_4 ini_4 (by decide) s1 (wM_Z hZ i) ⟨by show 2 + i + 1 ≤ 32; omega, by show 30 + 11 * i + 11 ≤ 312; omega⟩ rfl ?_
      refine wp_dup rfl rfl ?_
      refine p_cI (N' := (4 + i + 1, 2 + i + 1, 30 + 11 * i + 11)) rfl (Or.inr ln_1_30) n_X4_init m_X4_init (k_X4 G _ _ _ _ s1) rfl (Nat.le_of_ble_eq_true rfl) (hRc (by show 2 + i + 1 + 0 ≤ 32; omega) (by show 30 + 11 * i + 11 + 0 ≤ 312; omega)) rfl ?_
      refine wp_aast rfl s2 (Or.inl ⟨rfl, rfl⟩) s1 (vp_in_nI (by omega) (by omega)) ?_
      refine wp_iinc (v := nI (i + 1)) (lv' := [(1, _), (0, _)]) rfl rfl (nI_1 i) (by decide) rfl ?_
      refine wp_goto 18 rfl rfl ?_
      refine wp_loc (lv' := [(0, _), (1, _)]) [1, 0] rfl ?_
      rw [hcl]
      have K := ih (i + 1) (by omega)
      rw [show 4 + (i + 1) = 4 + i + 1 by omega, show 2 + (i + 1) = 2 + i + 1 by omega, show 30 + 11 * (i + 1) = 30 + 11 * i + 11 by omega] at K
      exact K
  refine MT.intro m_X1_init rfl (Nat.le_of_ble_eq_true rfl) ?_
  show WC G (d + 1) Y_X1_init 2 32 312 _ (2, 0, 0) 0 [(0, .ref 1)] [] w
  refine wp_aload_n rfl rfl ?_
  refine wp_obj rfl lo_1 (by decide) ⟨by show 1 ≤ _ + 1; omega, by show 20 ≤ 60 * _ + 60; omega⟩ ?_
  refine wp_aload_n rfl rfl ?_
  refine wp_bipush (v := 14) rfl rfl ?_
  refine p_newq (t := 4) (len := 14) (ci := 4) (N' := (3, 1, 14)) rfl kl_1_9 (by decide) (by decide) rfl (by decide) rfl (show Zr 2 _ by (repeat (first | (refine Zr_sI ?_ (by decide)) | (refine Zr_sR ?_ (by decide)) | (refine Zr_sL ?_ (by decide)))); exact hZ.mono (by decide)) ⟨Nat.le_of_ble_eq_true rfl, Nat.le_of_ble_eq_true rfl⟩ rfl ?_
  refine wp_putr rfl rfl rfl (Or.inr ⟨rfl, rfl, rfl⟩) rfl ?_
  refine wp_aload_n rfl rfl ?_
  refine wp_bipush (v := 16) rfl rfl ?_
  refine p_newq (t := 5) (len := 16) (ci := 0) (N' := (4, 2, 30)) rfl kl_1_17 (by decide) (by decide) rfl (by decide) rfl (show Zr 3 _ by (repeat (first | (refine Zr_sI ?_ (by decide)) | (refine Zr_sR ?_ (by decide)) | (refine Zr_sL ?_ (by decide)))); exact hZ.mono (by decide)) ⟨Nat.le_of_ble_eq_true rfl, Nat.le_of_ble_eq_true rfl⟩ rfl ?_
  refine wp_putr rfl rfl rfl (Or.inr ⟨rfl, rfl, rfl⟩) rfl ?_
  refine wp_aload_n rfl rfl ?_
  refine wp_sipush (v := 1000) rfl rfl ?_
  refine wp_puti rfl rfl rfl (Or.inl rfl) rfl ?_
  refine wp_aload_n rfl rfl ?_
  refine wp_bipush (v := 10) rfl rfl ?_
  refine wp_puti rfl rfl rfl (Or.inl rfl) rfl ?_
  refine wp_iconst (v := 0) rfl rfl ?_
  refine wp_istore_n (lv' := [(1, _), (0, _)]) rfl rfl (by decide) rfl ?_
  refine wp_loc (lv' := [(0, _), (1, _)]) [1, 0] rfl ?_
  exact lm 14 0 (by omega)
