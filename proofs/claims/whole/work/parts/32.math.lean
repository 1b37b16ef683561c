/-! Math's min and max -/
theorem mt_ini : Cond.initialized "java/lang/Math" ∈ goodL := mem_at 67 (by decide +kernel) rfl
theorem mt_mins : Cond.static Lib.Math.min.name ∈ goodL := mem_at 547 (by decide +kernel) rfl
theorem mt_minc : Cond.code Lib.Math.min.name Lib.Math.min.code 2 (some .int) ∈ goodL := mem_at 548 (by decide +kernel) rfl
theorem mt_maxs : Cond.static Lib.Math.max.name ∈ goodL := mem_at 558 (by decide +kernel) rfl
theorem mt_maxc : Cond.code Lib.Math.max.name Lib.Math.max.code 2 (some .int) ∈ goodL := mem_at 559 (by decide +kernel) rfl
theorem mt_minLs : Cond.static Lib.MathLoose.min_long.x ∈ goodL := mem_at 859 (by decide +kernel) rfl
theorem mt_minLc : Cond.code Lib.MathLoose.min_long.x Lib.MathLoose.min_long.code 4 (some .long) ∈ goodL := mem_at 860 (by decide +kernel) rfl
theorem mt_maxLs : Cond.static Lib.MathLoose.max_long.x ∈ goodL := mem_at 862 (by decide +kernel) rfl
theorem mt_maxLc : Cond.code Lib.MathLoose.max_long.x Lib.MathLoose.max_long.code 4 (some .long) ∈ goodL := mem_at 863 (by decide +kernel) rfl
section MR
variable {G : Gl} {Y : mY} {R : Room} {QQ : List Frame → Array Value → State → State → Prop} {N : Nat × Nat × Nat} {k : Nat} {lv : List (Nat × Value)} {st : List Value} {w : mW} {pc i d : Nat} {Q : Option Value → mW → Prop}
theorem wp_mmin {x y : Int32} (hd : nx Y k = some (pc, .invokestatic i, 3)) (hl : Cond.methodLink (RN Y.1) i Lib.Math.min.name ∈ goodL) (hc : ((st.map (rv G)).map (fun v => v.category)).sum + 13 ≤ R.locals) (hf : 1 ≤ R.frames) (hR : N.2.1 ≤ R.cells ∧ N.2.2 ≤ R.slots)
    (kk : WP G Y R QQ N (k + 1) lv (.int (if y < x then y else x) :: st) w) : WP G Y R QQ N k lv (.int y :: .int x :: st) w := by
  intro p e s m args below meth c C H locs ls hr hS hh
  obtain ⟨hx, hb, hrt, hml, hown, hts, hlk, hnm, hK, hO, hc0⟩ := id C
  obtain ⟨h1, h2⟩ := nx_dec hc0 hd
  have K := kk p e s m args below meth c C H locs ls hr hS hh
  rw [h2] at K
  exact va_mmin hx hb (by rw [hml, hh.1]) hown (hts _ hl) (hts _ mt_mins) (hts _ mt_ini) (hts _ mt_minc) hf hc hR.1 hR.2 h1 K
theorem wp_mmax {x y : Int32} (hd : nx Y k = some (pc, .invokestatic i, 3)) (hl : Cond.methodLink (RN Y.1) i Lib.Math.max.name ∈ goodL) (hc : ((st.map (rv G)).map (fun v => v.category)).sum + 13 ≤ R.locals) (hf : 1 ≤ R.frames) (hR : N.2.1 ≤ R.cells ∧ N.2.2 ≤ R.slots)
    (kk : WP G Y R QQ N (k + 1) lv (.int (if x < y then y else x) :: st) w) : WP G Y R QQ N k lv (.int y :: .int x :: st) w := by
  intro p e s m args below meth c C H locs ls hr hS hh
  obtain ⟨hx, hb, hrt, hml, hown, hts, hlk, hnm, hK, hO, hc0⟩ := id C
  obtain ⟨h1, h2⟩ := nx_dec hc0 hd
  have K := kk p e s m args below meth c C H locs ls hr hS hh
  rw [h2] at K
  exact va_mmax hx hb (by rw [hml, hh.1]) hown (hts _ hl) (hts _ mt_maxs) (hts _ mt_ini) (hts _ mt_maxc) hf hc hR.1 hR.2 h1 K
theorem wp_mminL {x y : Int64} (hd : nx Y k = some (pc, .invokestatic i, 3)) (hl : Cond.methodLink (RN Y.1) i Lib.MathLoose.min_long.x ∈ goodL) (hc : ((st.map (rv G)).map (fun v => v.category)).sum + 15 ≤ R.locals) (hf : 1 ≤ R.frames) (hR : N.2.1 ≤ R.cells ∧ N.2.2 ≤ R.slots)
    (kk : WP G Y R QQ N (k + 1) lv (.long (if y < x then y else x) :: st) w) : WP G Y R QQ N k lv (.long y :: .long x :: st) w := by
  intro p e s m args below meth c C H locs ls hr hS hh
  obtain ⟨hx, hb, hrt, hml, hown, hts, hlk, hnm, hK, hO, hc0⟩ := id C
  obtain ⟨h1, h2⟩ := nx_dec hc0 hd
  have K := kk p e s m args below meth c C H locs ls hr hS hh
  rw [h2] at K
  exact va_mmin_long hx hb (by rw [hml, hh.1]) hown (hts _ hl) (hts _ mt_minLs) (hts _ mt_ini) (hts _ mt_minLc) hf hc hR.1 hR.2 h1 K
theorem wp_mmaxL {x y : Int64} (hd : nx Y k = some (pc, .invokestatic i, 3)) (hl : Cond.methodLink (RN Y.1) i Lib.MathLoose.max_long.x ∈ goodL) (hc : ((st.map (rv G)).map (fun v => v.category)).sum + 15 ≤ R.locals) (hf : 1 ≤ R.frames) (hR : N.2.1 ≤ R.cells ∧ N.2.2 ≤ R.slots)
    (kk : WP G Y R QQ N (k + 1) lv (.long (if y < x then x else y) :: st) w) : WP G Y R QQ N k lv (.long y :: .long x :: st) w := by
  intro p e s m args below meth c C H locs ls hr hS hh
  obtain ⟨hx, hb, hrt, hml, hown, hts, hlk, hnm, hK, hO, hc0⟩ := id C
  obtain ⟨h1, h2⟩ := nx_dec hc0 hd
  have K := kk p e s m args below meth c C H locs ls hr hS hh
  rw [h2] at K
  exact va_mmax_long hx hb (by rw [hml, hh.1]) hown (hts _ hl) (hts _ mt_maxLs) (hts _ mt_ini) (hts _ mt_maxLc) hf hc hR.1 hR.2 h1 K
theorem cat_rw (G : Gl) (st : List Value) : ((st.map (rv G)).map (fun v => v.category)).sum = (st.map (fun v => v.category)).sum := by
  rw [List.map_map]
  congr 1
  apply List.map_congr_left
  intro v _
  exact rv_cat G v
theorem q_mmin {x y : Int32} (hd : nx Y k = some (pc, .invokestatic i, 3)) (hl : Cond.methodLink (RN Y.1) i Lib.Math.min.name ∈ goodL) (hc : (st.map (fun v => v.category)).sum ≤ 8) (kk : WQ G d Y Q (k + 1) lv (.int (if y < x then y else x) :: st) w) : WQ G d Y Q k lv (.int y :: .int x :: st) w :=
  wp_mmin hd hl (by rw [cat_rw]; show _ ≤ 60 * d + 60; omega) (by show 1 ≤ d + 1; omega) ⟨Nat.le_refl _, Nat.le_refl _⟩ kk
theorem q_mmax {x y : Int32} (hd : nx Y k = some (pc, .invokestatic i, 3)) (hl : Cond.methodLink (RN Y.1) i Lib.Math.max.name ∈ goodL) (hc : (st.map (fun v => v.category)).sum ≤ 8) (kk : WQ G d Y Q (k + 1) lv (.int (if x < y then y else x) :: st) w) : WQ G d Y Q k lv (.int y :: .int x :: st) w :=
  wp_mmax hd hl (by rw [cat_rw]; show _ ≤ 60 * d + 60; omega) (by show 1 ≤ d + 1; omega) ⟨Nat.le_refl _, Nat.le_refl _⟩ kk
theorem q_mminL {x y : Int64} (hd : nx Y k = some (pc, .invokestatic i, 3)) (hl : Cond.methodLink (RN Y.1) i Lib.MathLoose.min_long.x ∈ goodL) (hc : (st.map (fun v => v.category)).sum ≤ 8) (kk : WQ G d Y Q (k + 1) lv (.long (if y < x then y else x) :: st) w) : WQ G d Y Q k lv (.long y :: .long x :: st) w :=
  wp_mminL hd hl (by rw [cat_rw]; show _ ≤ 60 * d + 60; omega) (by show 1 ≤ d + 1; omega) ⟨Nat.le_refl _, Nat.le_refl _⟩ kk
theorem q_mmaxL {x y : Int64} (hd : nx Y k = some (pc, .invokestatic i, 3)) (hl : Cond.methodLink (RN Y.1) i Lib.MathLoose.max_long.x ∈ goodL) (hc : (st.map (fun v => v.category)).sum ≤ 8) (kk : WQ G d Y Q (k + 1) lv (.long (if y < x then x else y) :: st) w) : WQ G d Y Q k lv (.long y :: .long x :: st) w :=
  wp_mmaxL hd hl (by rw [cat_rw]; show _ ≤ 60 * d + 60; omega) (by show 1 ≤ d + 1; omega) ⟨Nat.le_refl _, Nat.le_refl _⟩ kk
end MR
