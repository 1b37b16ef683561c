/-! texts: constants, length, chars -/
def txt (j : Nat) : Nat := 1000001 + j
def txv (j : Nat) : Nat := 1000001 + (100 + j)
theorem lk_val : Cond.fieldLink (RN 15) 9 "java/lang/String" "value" "[B" ∈ goodL := mem_at 1442 (by decide +kernel) rfl
theorem lk_cod : Cond.fieldLink (RN 15) 15 "java/lang/String" "coder" "B" ∈ goodL := mem_at 1443 (by decide +kernel) rfl
theorem lk_cs : Cond.fieldLink (RN 15) 38 "java/lang/String" "COMPACT_STRINGS" "Z" ∈ goodL := mem_at 689 (by decide +kernel) rfl
theorem lk_si : Cond.fieldLink (RN 15) 1053 "jdk/internal/util/Preconditions" "SIOOBE_FORMATTER" "Ljava/util/function/BiFunction;" ∈ goodL := mem_at 706 (by decide +kernel) rfl
theorem rv_txt (G : Gl) (j : Nat) : rv G (.ref (txt j)) = .ref (gK G j) := by
  show Value.ref (ra G (1000001 + j)) = _
  rw [ra_str]
section TROWS
variable {G : Gl} {Y Y' : mY} {R : Room} {QQ : List Frame → Array Value → State → State → Prop} {N : Nat × Nat × Nat} {k : Nat} {lv : List (Nat × Value)} {st : List Value} {w : mW} {pc : Nat}
theorem wp_ldcT {i j : Nat} {tx : String} (hd : nx Y k = some (pc, .ldc_w i, 3)) (hq : (Y.1, i, tx, j) ∈ STR) (kk : WP G Y R QQ N (k + 1) lv (.ref (txt j) :: st) w) : WP G Y R QQ N k lv st w := by
  intro p e s m args below meth c C H locs ls hr hS hh
  obtain ⟨hx, hb, hrt, hml, hown, hts, hlk, hnm, hK, hO, hc⟩ := id C
  obtain ⟨h1, h2⟩ := nx_dec hc hd
  have K := kk p e s m args below meth c C H locs ls hr hS hh
  rw [h2, List.map_cons, rv_txt] at K
  have hz := hO.2.2.2.1 _ hq
  intro T hT X
  obtain ⟨t, a1, b1⟩ := K T hT X
  exact ⟨t, X.ldcStringW hx hown (text := tx) (a := gK G j) hz.1 hz.2 (g := F0 m (pcO Y k) ls (st.map (rv G))) rfl (by rw [hb]; exact h1) t a1, b1⟩
theorem wp_tval {j : Nat} (hY : Y.1 = 15) (hj : j < 10) (hd : nx Y k = some (pc, .getfield 9, 3)) (kk : WP G Y R QQ N (k + 1) lv (.ref (txv j) :: st) w) : WP G Y R QQ N k lv (.ref (txt j) :: st) w := by
  intro p e s m args below meth c C H locs ls hr hS hh
  obtain ⟨hx, hb, hrt, hml, hown, hts, hlk, hnm, hK, hO, hc⟩ := id C
  obtain ⟨h1, h2⟩ := nx_dec hc hd
  have K := kk p e s m args below meth c C H locs ls hr hS hh
  rw [h2, List.map_cons, show rv G (.ref (txv j)) = .ref (gV G j) by show Value.ref (ra G (1000001 + (100 + j))) = _; rw [ra_str, hO.2.2.2.2.1.2.2 j hj]] at K
  rw [List.map_cons, rv_txt]
  exact vk_getf hx hb (hO.2.2.1.1 j hj).2.2.1 hS (by rw [← hY]; exact hown) (hts _ lk_val) (fun x h => h) h1 K
theorem wp_tcod {j : Nat} (hY : Y.1 = 15) (hj : j < 10) (hd : nx Y k = some (pc, .getfield 15, 3)) (kk : WP G Y R QQ N (k + 1) lv (.int 0 :: st) w) : WP G Y R QQ N k lv (.ref (txt j) :: st) w := by
  intro p e s m args below meth c C H locs ls hr hS hh
  obtain ⟨hx, hb, hrt, hml, hown, hts, hlk, hnm, hK, hO, hc⟩ := id C
  obtain ⟨h1, h2⟩ := nx_dec hc hd
  have K := kk p e s m args below meth c C H locs ls hr hS hh
  rw [h2] at K
  rw [List.map_cons, rv_txt]
  exact vk_getf hx hb (hO.2.2.1.1 j hj).2.1 hS (by rw [← hY]; exact hown) (hts _ lk_cod) (fun x h => h) h1 K
theorem wp_tcs (hY : Y.1 = 15) (hd : nx Y k = some (pc, .getstatic 38, 3)) (kk : WP G Y R QQ N (k + 1) lv (.int 1 :: st) w) : WP G Y R QQ N k lv st w := by
  intro p e s m args below meth c C H locs ls hr hS hh
  obtain ⟨hx, hb, hrt, hml, hown, hts, hlk, hnm, hK, hO, hc⟩ := id C
  obtain ⟨h1, h2⟩ := nx_dec hc hd
  have K := kk p e s m args below meth c C H locs ls hr hS hh
  rw [h2] at K
  exact va_gets hx hb hO.2.2.2.2.1.1 hS (by rw [← hY]; exact hown) (hts _ lk_cs) (fun x h => h) h1 K
theorem wp_tsi (hY : Y.1 = 15) (hd : nx Y k = some (pc, .getstatic 1053, 3)) (kk : ∀ v, (v = .null ∨ ∃ a, v = .ref a) → WP G Y R QQ N (k + 1) lv (v :: st) w) : WP G Y R QQ N k lv st w := by
  intro p e s m args below meth c C H locs ls hr hS hh
  obtain ⟨hx, hb, hrt, hml, hown, hts, hlk, hnm, hK, hO, hc⟩ := id C
  obtain ⟨h1, h2⟩ := nx_dec hc hd
  obtain ⟨v, hv, hvr⟩ := hO.2.2.2.2.1.2.1
  have K := kk v hvr p e s m args below meth c C H locs ls hr hS hh
  rw [h2] at K
  exact va_gets hx hb hv hS (by rw [← hY]; exact hown) (hts _ lk_si) (fun x h => h) h1 K
theorem wp_tlen {j : Nat} (hj : j < 10) (hd : nx Y k = some (pc, .arraylength, 1)) (kk : WP G Y R QQ N (k + 1) lv (.int (nI (STL.getD j 0)) :: st) w) : WP G Y R QQ N k lv (.ref (txv j) :: st) w := by
  intro p e s m args below meth c C H locs ls hr hS hh
  obtain ⟨hx, hb, hrt, hml, hown, hts, hlk, hnm, hK, hO, hc⟩ := id C
  obtain ⟨h1, h2⟩ := nx_dec hc hd
  have K := kk p e s m args below meth c C H locs ls hr hS hh
  rw [h2] at K
  rw [List.map_cons, show rv G (.ref (txv j)) = .ref (gV G j) by show Value.ref (ra G (1000001 + (100 + j))) = _; rw [ra_str, hO.2.2.2.2.1.2.2 j hj]]
  exact va_tlen hx hb (hO.2.2.1.1 j hj).2.2.2 hS rfl h1 K
theorem wp_tbl {j : Nat} {i : Int32} (hj : j < 10) (hin : vp_in i (STL.getD j 0)) (hd : nx Y k = some (pc, .baload, 1)) (kk : WP G Y R QQ N (k + 1) lv (.int ((STB.getD j []).getD i.toNatClampNeg 0) :: st) w) : WP G Y R QQ N k lv (.int i :: .ref (txv j) :: st) w := by
  intro p e s m args below meth c C H locs ls hr hS hh
  obtain ⟨hx, hb, hrt, hml, hown, hts, hlk, hnm, hK, hO, hc⟩ := id C
  obtain ⟨h1, h2⟩ := nx_dec hc hd
  have K := kk p e s m args below meth c C H locs ls hr hS hh
  rw [h2] at K
  rw [List.map_cons, List.map_cons, show rv G (.ref (txv j)) = .ref (gV G j) by show Value.ref (ra G (1000001 + (100 + j))) = _; rw [ra_str, hO.2.2.2.2.1.2.2 j hj]]
  exact va_tb hx hb (hO.2.2.1.1 j hj).2.2.2 hS hin rfl h1 K
/-- a call on a text -/
theorem wp_cT {d na i j : Nat} {Q' : Option Value → mW → Prop} {As rest : List Value} (hj : j < 10) (hY : Y'.1 = 15) (hd : nx Y k = some (pc, .invokevirtual i, 3)) (hl : Cond.methodLink (RN Y.1) i Y'.2.1 ∈ goodL) (hi : iOK Y') (hm : mOK Y' na) (hM : MT G d Y' (.ref (txt j) :: As) N.1 w 0 0 Q') (hst : pops na st [] = some (As, .ref (txt j) :: rest)) (hcat : (rest.map (fun v => v.category)).sum ≤ 8)
    (hR : d + 2 ≤ R.frames ∧ 60 * d + 120 ≤ R.locals ∧ N.2.1 + 0 ≤ R.cells ∧ N.2.2 + 0 ≤ R.slots)
    (kk : ∀ r w', Q' r w' → WP G Y R QQ (N.1 + 0, N.2.1 + 0, N.2.2 + 0) (k + 1) lv (r.toList ++ rest) w') : WP G Y R QQ N k lv st w := by
  intro p e s m args below meth c C H locs ls hr hS hh
  obtain ⟨hx, hb, hrt, hml, hown, hts, hlk, hnm, hK, hO, hc⟩ := id C
  obtain ⟨y1, y2, y3, y4, y5, y6, y7⟩ := hm
  obtain ⟨h1, h2⟩ := nx_dec hc hd
  obtain ⟨t1, t2⟩ := st_rv2 (G := G) hst
  have hrec := vk_recv hO.2.2.1 hj hS
  rw [show gK G j = ra G (txt j) from (ra_str G j).symm] at hrec
  rw [t1]
  refine wp_go (d := d) hd rfl kk C hS hh (va_runV (C := Y'.2.1.cls) ⟨hx, hb, hml, hown, hts⟩ hM ⟨callB_of na hts (good_in (ws_good y2)) rfl rfl rfl (hts _ y3) (hts _ hl) y5 ⟨hR.1, ?_⟩, hts _ hi.1, hts _ hi.2⟩ ⟨blind, by rw [y7, hY]; exact hrec, fun U hU hW => ⟨rfl, by rw [hU]; exact hr, va_K.moved hW.alike hK, out_moved hO hU hW hS⟩⟩ rfl t2 hh.1 rfl (lv_room (by rw [cat_rv]; exact hcat)) h1 ⟨hR.2.2.1, hR.2.2.2⟩)
  have := hR.2.1
  show 8 + (Y'.2.2.2.1 + 11) + (60 * d + 60) ≤ R.locals
  omega
end TROWS
theorem cT1 {G : Gl} {Y Y' : mY} {Q : Option Value → mW → Prop} {k d pc na i j : Nat} {lv : List (Nat × Value)} {st As rest : List Value} {w : mW} {v : Value} {w' : mW} (hj : j < 10) (hY : Y'.1 = 15) (hd : nx Y k = some (pc, .invokevirtual i, 3)) (hl : Cond.methodLink (RN Y.1) i Y'.2.1 ∈ goodL) (hi : iOK Y') (hm : mOK Y' na) (hM : MD G d Y' (.ref (txt j) :: As) w (some v) w') (hst : pops na st [] = some (As, .ref (txt j) :: rest)) (hcat : (rest.map (fun v => v.category)).sum ≤ 8) (kk : WQ G (d + 1) Y Q (k + 1) lv (v :: rest) w') : WQ G (d + 1) Y Q k lv st w :=
  wp_cT hj hY hd hl hi hm hM hst hcat hR2 (fun r w2 h => by obtain ⟨rfl, rfl⟩ := h; exact kk)
theorem c_coder (G : Gl) (d j : Nat) (hj : j < 10) (w : mW) : MD G d Y_J0_coder_7d493 [.ref (txt j)] w (some (.int 0)) w := by
  refine MT.intro m_J0_coder_7d493 rfl (Nat.le_of_ble_eq_true rfl) ?_
  show WQ G d Y_J0_coder_7d493 _ 0 [(0, .ref (txt j))] [] w
  refine wp_tcs rfl rfl ?_
  refine wp_if_eq 5 rfl rfl (fun h => absurd h (by decide)) (fun _ => ?_)
  refine wp_aload_n rfl rfl ?_
  refine wp_tcod rfl hj rfl ?_
  refine wp_goto 6 rfl rfl ?_
  exact wp_zret rfl rfl rfl ⟨rfl, rfl⟩
theorem c_length (G : Gl) (d j : Nat) (hj : j < 10) (w : mW) : MD G (d + 1) Y_J0_length_8abf5 [.ref (txt j)] w (some (.int (nI (STL.getD j 0)))) w := by
  have e : nI (STL.getD j 0) >>> ((0 : Int32) &&& 31) = nI (STL.getD j 0) := by
    have : ∀ j, j < 10 → nI (STL.getD j 0) >>> ((0 : Int32) &&& 31) = nI (STL.getD j 0) := by decide +kernel
    exact this j hj
  refine MT.intro m_J0_length_8abf5 rfl (Nat.le_of_ble_eq_true rfl) ?_
  show WQ G (d + 1) Y_J0_length_8abf5 _ 0 [(0, .ref (txt j))] [] w
  refine wp_aload_n rfl rfl ?_
  refine wp_tval rfl hj rfl ?_
  refine wp_tlen hj rfl ?_
  refine wp_aload_n rfl rfl ?_
  refine cT1 hj rfl rfl l_15_335 i_J0_coder_7d493 m_J0_coder_7d493 (c_coder G d j hj _) rfl (Nat.le_of_ble_eq_true rfl) ?_
  refine wp_ishr rfl ?_
  rw [e]
  exact wp_iret rfl rfl ⟨rfl, rfl⟩
theorem c_isLatin1 (G : Gl) (d j : Nat) (hj : j < 10) (w : mW) : MD G d Y_J0_isLatin1_aae02 [.ref (txt j)] w (some (.int 1)) w := by
  refine MT.intro m_J0_isLatin1_aae02 rfl (Nat.le_of_ble_eq_true rfl) ?_
  show WQ G d Y_J0_isLatin1_aae02 _ 0 [(0, .ref (txt j))] [] w
  refine wp_tcs rfl rfl ?_
  refine wp_if_eq 7 rfl rfl (fun h => absurd h (by decide)) (fun _ => ?_)
  refine wp_aload_n rfl rfl ?_
  refine wp_tcod rfl hj rfl ?_
  refine wp_if_ne 7 rfl rfl (fun h => absurd rfl h) (fun _ => ?_)
  refine wp_iconst (v := 1) rfl rfl ?_
  refine wp_goto 8 rfl rfl ?_
  exact wp_zret rfl rfl rfl ⟨rfl, rfl⟩
theorem c_check3 (G : Gl) (d : Nat) {i n : Nat} (v : Value) (hv : v = .null ∨ ∃ a, v = .ref a) (h : i < n) (hn : n < 2 ^ 31) (w : mW) : MD G d Y_J3_checkIndex_8e157 [.int (nI i), .int (nI n), v] w (some (.int (nI i))) w := by
  have hp0 : ¬ nI i < 0 := nI_pos (by omega)
  have hp1 : nI i < nI n := nI_lt h hn
  rcases hv with rfl | ⟨a, rfl⟩
  · refine MT.intro m_J3_checkIndex_8e157 rfl (Nat.le_of_ble_eq_true rfl) ?_
    show WQ G d Y_J3_checkIndex_8e157 _ 0 [(0, .int (nI i)), (1, .int (nI n)), (2, .null)] [] w
    refine wp_iload_n rfl rfl ?_
    refine wp_if_lt 5 rfl rfl (fun h1 => absurd h1 hp0) (fun _ => ?_)
    refine wp_iload_n rfl rfl ?_
    refine wp_iload_n rfl rfl ?_
    refine wp_icmp_lt 10 rfl rfl (fun _ => ?_) (fun h4 => absurd hp1 h4)
    refine wp_iload_n rfl rfl ?_
    exact wp_iret rfl rfl (⟨rfl, rfl⟩)
  · refine MT.intro m_J3_checkIndex_8e157 rfl (Nat.le_of_ble_eq_true rfl) ?_
    show WQ G d Y_J3_checkIndex_8e157 _ 0 [(0, .int (nI i)), (1, .int (nI n)), (2, .ref a)] [] w
    refine wp_iload_n rfl rfl ?_
    refine wp_if_lt 5 rfl rfl (fun h1 => absurd h1 hp0) (fun _ => ?_)
    refine wp_iload_n rfl rfl ?_
    refine wp_iload_n rfl rfl ?_
    refine wp_icmp_lt 10 rfl rfl (fun _ => ?_) (fun h4 => absurd hp1 h4)
    refine wp_iload_n rfl rfl ?_
    exact wp_iret rfl rfl (⟨rfl, rfl⟩)
theorem c_check0 (G : Gl) (d : Nat) {i n : Nat} (h : i < n) (hn : n < 2 ^ 31) (w : mW) : MD G (d + 1) Y_J0_checkIndex_df160 [.int (nI i), .int (nI n)] w none w := by
  refine MT.intro m_J0_checkIndex_df160 rfl (Nat.le_of_ble_eq_true rfl) ?_
  show WQ G (d + 1) Y_J0_checkIndex_df160 _ 0 [(0, .int (nI i)), (1, .int (nI n))] [] w
  refine wp_iload_n rfl rfl ?_
  refine wp_iload_n rfl rfl ?_
  refine wp_tsi rfl rfl (fun v hv => ?_)
  refine cS1 rfl l_15_1059 s_J3_checkIndex_8e157 m_J3_checkIndex_8e157 (c_check3 G d v hv h hn _) rfl (Nat.le_of_ble_eq_true rfl) ?_
  refine wp_pop rfl rfl ?_
  exact wp_vret rfl rfl ⟨rfl, rfl⟩
/-- the char at place k of a text -/
def chr (j k : Nat) : Int32 := (STB.getD j []).getD k 0
theorem chr_ok : ∀ j, j < 10 → ∀ k, k < STL.getD j 0 → (((chr j k &&& 255).toUInt32 % 65536).toInt32 = chr j k) ∧ 97 ≤ chr j k ∧ chr j k ≤ 122 ∧ narrow .char (.int (chr j k)) = .int (chr j k) := by decide +kernel
theorem stl_lt : ∀ j, j < 10 → STL.getD j 0 ≤ 5 ∧ 2 ≤ STL.getD j 0 := by decide +kernel
theorem c_char1 (G : Gl) (d j k : Nat) (hj : j < 10) (hk : k < STL.getD j 0) (w : mW) : MD G (d + 2) Y_J1_charAt_3b067 [.ref (txv j), .int (nI k)] w (some (.int (chr j k))) w := by
  have hl := (stl_lt j hj).1
  have hin : vp_in (nI k) (STL.getD j 0) := vp_in_nI hk (by omega)
  have hcl : (nI k).toNatClampNeg = k := nI_clamp (by omega)
  obtain ⟨c1, c2, c3, c4⟩ := chr_ok j hj k hk
  refine MT.intro m_J1_charAt_3b067 rfl (Nat.le_of_ble_eq_true rfl) ?_
  show WQ G (d + 2) Y_J1_charAt_3b067 _ 0 [(0, .ref (txv j)), (1, .int (nI k))] [] w
  refine wp_iload_n rfl rfl ?_
  refine wp_aload_n rfl rfl ?_
  refine wp_tlen hj rfl ?_
  refine cS0 rfl l_16_9 s_J0_checkIndex_df160 m_J0_checkIndex_df160 (c_check0 G d hk (by omega) _) rfl (Nat.le_of_ble_eq_true rfl) ?_
  refine wp_aload_n rfl rfl ?_
  refine wp_iload_n rfl rfl ?_
  refine wp_tbl hj hin rfl ?_
  refine wp_sipush (v := 255) rfl rfl ?_
  refine wp_iand rfl ?_
  refine wp_i2c rfl ?_
  rw [hcl, show (((STB.getD j []).getD k 0 &&& 255).toUInt32 % 65536).toInt32 = chr j k from c1]
  exact wp_zret rfl rfl c4 ⟨rfl, rfl⟩
theorem c_charAt (G : Gl) (d j k : Nat) (hj : j < 10) (hk : k < STL.getD j 0) (w : mW) : MD G (d + 3) Y_J0_charAt_5068e [.ref (txt j), .int (nI k)] w (some (.int (chr j k))) w := by
  obtain ⟨c1, c2, c3, c4⟩ := chr_ok j hj k hk
  refine MT.intro m_J0_charAt_5068e rfl (Nat.le_of_ble_eq_true rfl) ?_
  show WQ G (d + 3) Y_J0_charAt_5068e _ 0 [(0, .ref (txt j)), (1, .int (nI k))] [] w
  refine wp_aload_n rfl rfl ?_
  refine cT1 hj rfl rfl l_15_492 i_J0_isLatin1_aae02 m_J0_isLatin1_aae02 (c_isLatin1 G _ j hj _) rfl (Nat.le_of_ble_eq_true rfl) ?_
  refine wp_if_eq 8 rfl rfl (fun h => absurd h (by decide)) (fun _ => ?_)
  refine wp_aload_n rfl rfl ?_
  refine wp_tval rfl hj rfl ?_
  refine wp_iload_n rfl rfl ?_
  refine cS1 rfl l_15_495 s_J1_charAt_3b067 m_J1_charAt_3b067 (c_char1 G d j k hj hk _) rfl (Nat.le_of_ble_eq_true rfl) ?_
  exact wp_zret rfl rfl c4 ⟨rfl, rfl⟩
