/-! the second phase: all is made; the world is (I, L, RR b) -/
abbrev IF : Type := Nat → Nat → Int32
abbrev LF : Type := Nat → Nat → Int64
abbrev RF : Type := Nat → Nat → Option Nat
def uI (I : IF) (a k : Nat) (v : Int32) : IF := fun a' k' => if a' = a then (if k' = k then v else I a' k') else I a' k'
def uL (L : LF) (a k : Nat) (v : Int64) : LF := fun a' k' => if a' = a then (if k' = k then v else L a' k') else L a' k'
def uR (R : RF) (a k : Nat) (v : Option Nat) : RF := fun a' k' => if a' = a then (if k' = k then v else R a' k') else R a' k'
def b2 (p : Prop) [Decidable p] : Int32 := if p then 1 else 0
theorem b2_t {p : Prop} [Decidable p] (h : p) : b2 p = 1 := if_pos h
theorem b2_f {p : Prop} [Decidable p] (h : ¬ p) : b2 p = 0 := if_neg h
theorem b2_01 (p : Prop) [Decidable p] : b2 p = 0 ∨ b2 p = 1 := by unfold b2; split <;> simp
theorem b2_ne {p : Prop} [Decidable p] : ¬ b2 p = 0 ↔ p := by unfold b2; split <;> simp_all
theorem b2_eq {p : Prop} [Decidable p] : b2 p = 0 ↔ ¬ p := by unfold b2; split <;> simp_all
def lawA (b : Bool) : Nat := if b then 50 else 66
def drfA (b : Bool) : Nat := if b then 66 else 50
def rrT (b : Bool) : List (Nat × List (Option Nat)) := [(0, [some 1, some 34, some 39, some 44, some 46, some 56, some 65, some (lawA b)]), (1, [some 2, some 3]), (34, [some 35, some 36, some 37, some 38]), (39, [some 40, some 41, some 42, some 43]), (44, [some 45]), (46, [some 47, some (drfA b)]), (47, [some 48, some 49]), (50, [some 51, some 52, some 53, some 54, some 55]), (57, [some 58]), (59, [some 60]), (61, [some 62]), (63, [some 64]), (66, [some 67, some 68, some 69, some 70, some 71]), (72, [none, some 73, some 74, some 75, some 76, none, none, none, none, none, none, none, none, some 77, some 78, some 79, some 80, some 81, some 82, some 83, some 84, some 85, some 86, some 87, some 88, some 89, some 90, some 91, some 92, some 93, none, none, none, some 94, some 95, some 96, none, none, some 97, some 98, some 99, some 100, none, none, none, none, none, none, none, none, none, none, none, none, some 101])]
def rr1 : List (Nat × List (Option Nat)) → Nat → Nat → Option Nat
  | [], _, _ => none
  | e :: r, a, k => match Nat.beq e.1 a with
    | true => (lAt e.2 k).getD none
    | false => rr1 r a k
/-- every reference of the world: only the law and the draft change their places -/
def RR (b : Bool) : RF := fun a k => match Nat.beq a 2 with
  | true => if k < 14 then some (4 + k) else none
  | false => match Nat.beq a 3 with
    | true => if k < 16 then some (18 + k) else none
    | false => match Nat.beq a 56 with
      | true => if k < 4 then some (57 + 2 * k) else none
      | false => rr1 (rrT b) a k
theorem sh_mast : ∀ m, m < 14 → shp NN (4 + m) = some (.inr 4) := by decide
theorem sh_area : ∀ m, m < 16 → shp NN (18 + m) = some (.inr 0) := by decide
theorem sh_row : ∀ m, m < 4 → shp NN (57 + 2 * m) = some (.inr 6) := by decide
theorem sh_rowA : ∀ m, m < 4 → shp NN (58 + 2 * m) = some (.inl (3, 60)) := by decide
theorem sh_law (b : Bool) : shp NN (lawA b) = some (.inr 2) := by cases b <;> rfl
theorem sh_drf (b : Bool) : shp NN (drfA b) = some (.inr 2) := by cases b <;> rfl
theorem rr_row : ∀ m, m < 4 → ∀ b, RR b (57 + 2 * m) 0 = some (58 + 2 * m) := by decide
section QROWS
variable {G : Gl} {Y : mY} {Q : Option Value → mW → Prop} {k d : Nat} {lv : List (Nat × Value)} {st : List Value} {pc : Nat} {I : IF} {L : LF} {R : RF} {bb : Bool}
theorem q_geti {a i ci f : Nat} (hd : nx Y k = some (pc, .getfield i, 3)) (hf : fl Y.1 i = some (ci, f)) (hs : shp NN a = some (.inr ci)) (ht : kd (tyT ci f) = 0) (kk : WQ G d Y Q (k + 1) lv (.int (I a f) :: st) (I, L, R)) : WQ G d Y Q k lv (.ref a :: st) (I, L, R) := wp_geti hd hf hs ht kk
theorem q_getl {a i ci f : Nat} (hd : nx Y k = some (pc, .getfield i, 3)) (hf : fl Y.1 i = some (ci, f)) (hs : shp NN a = some (.inr ci)) (ht : kd (tyT ci f) = 1) (kk : WQ G d Y Q (k + 1) lv (.long (L a f) :: st) (I, L, R)) : WQ G d Y Q k lv (.ref a :: st) (I, L, R) := wp_getl hd hf hs ht kk
theorem q_getr {a i ci f b : Nat} (hd : nx Y k = some (pc, .getfield i, 3)) (hf : fl Y.1 i = some (ci, f)) (hs : shp NN a = some (.inr ci)) (ht : kd (tyT ci f) = 2) (hr : R a f = some b) (kk : WQ G d Y Q (k + 1) lv (.ref b :: st) (I, L, R)) : WQ G d Y Q k lv (.ref a :: st) (I, L, R) := wp_getr hd hf hs ht hr kk
theorem q_puti {a i ci f : Nat} {v : Int32} (hd : nx Y k = some (pc, .putfield i, 3)) (hf : fl Y.1 i = some (ci, f)) (hs : shp NN a = some (.inr ci)) (hfin : (TT ci f).2.2.2 = false ∨ ((TT ci f).2.2.2 = true ∧ Y.2.1.name = "<init>" ∧ (TT ci f).1 = RN Y.1)) (ht : tyT ci f = .int) (kk : WQ G d Y Q (k + 1) lv st (uI I a f v, L, R)) : WQ G d Y Q k lv (.int v :: .ref a :: st) (I, L, R) := wp_puti hd hf hs hfin ht kk
theorem q_putz {a i ci f : Nat} {v : Int32} (hd : nx Y k = some (pc, .putfield i, 3)) (hf : fl Y.1 i = some (ci, f)) (hs : shp NN a = some (.inr ci)) (hfin : (TT ci f).2.2.2 = false ∨ ((TT ci f).2.2.2 = true ∧ Y.2.1.name = "<init>" ∧ (TT ci f).1 = RN Y.1)) (ht : tyT ci f = .boolean) (hv : v = 0 ∨ v = 1) (kk : WQ G d Y Q (k + 1) lv st (uI I a f v, L, R)) : WQ G d Y Q k lv (.int v :: .ref a :: st) (I, L, R) := wp_putz hd hf hs hfin ht hv kk
theorem q_putl {a i ci f : Nat} {v : Int64} (hd : nx Y k = some (pc, .putfield i, 3)) (hf : fl Y.1 i = some (ci, f)) (hs : shp NN a = some (.inr ci)) (hfin : (TT ci f).2.2.2 = false ∨ ((TT ci f).2.2.2 = true ∧ Y.2.1.name = "<init>" ∧ (TT ci f).1 = RN Y.1)) (ht : tyT ci f = .long) (kk : WQ G d Y Q (k + 1) lv st (I, uL L a f v, R)) : WQ G d Y Q k lv (.long v :: .ref a :: st) (I, L, R) := wp_putl hd hf hs hfin ht kk
theorem q_putr {a i ci f b : Nat} (hd : nx Y k = some (pc, .putfield i, 3)) (hf : fl Y.1 i = some (ci, f)) (hs : shp NN a = some (.inr ci)) (hfin : (TT ci f).2.2.2 = false ∨ ((TT ci f).2.2.2 = true ∧ Y.2.1.name = "<init>" ∧ (TT ci f).1 = RN Y.1)) (ht : kd (tyT ci f) = 2) (kk : WQ G d Y Q (k + 1) lv st (I, L, uR R a f (some b))) : WQ G d Y Q k lv (.ref b :: .ref a :: st) (I, L, R) := wp_putr hd hf hs hfin ht kk
theorem q_iald {a len : Nat} {i : Int32} (hd : nx Y k = some (pc, .iaload, 1)) (hs : shp NN a = some (.inl (0, len))) (hi : vp_in i len) (kk : WQ G d Y Q (k + 1) lv (.int (I a i.toNatClampNeg) :: st) (I, L, R)) : WQ G d Y Q k lv (.int i :: .ref a :: st) (I, L, R) := wp_iald hd hs hi kk
theorem q_bald {a len : Nat} {i : Int32} (hd : nx Y k = some (pc, .baload, 1)) (hs : shp NN a = some (.inl (1, len))) (hi : vp_in i len) (kk : WQ G d Y Q (k + 1) lv (.int (I a i.toNatClampNeg) :: st) (I, L, R)) : WQ G d Y Q k lv (.int i :: .ref a :: st) (I, L, R) := wp_bald hd hs hi kk
theorem q_zald {a len : Nat} {i : Int32} (hd : nx Y k = some (pc, .baload, 1)) (hs : shp NN a = some (.inl (2, len))) (hi : vp_in i len) (kk : WQ G d Y Q (k + 1) lv (.int (I a i.toNatClampNeg) :: st) (I, L, R)) : WQ G d Y Q k lv (.int i :: .ref a :: st) (I, L, R) := wp_zald hd hs hi kk
theorem q_lald {a len : Nat} {i : Int32} (hd : nx Y k = some (pc, .laload, 1)) (hs : shp NN a = some (.inl (3, len))) (hi : vp_in i len) (kk : WQ G d Y Q (k + 1) lv (.long (L a i.toNatClampNeg) :: st) (I, L, R)) : WQ G d Y Q k lv (.int i :: .ref a :: st) (I, L, R) := wp_lald hd hs hi kk
theorem q_iast {a len : Nat} {i : Int32} {x : Int32} (hd : nx Y k = some (pc, .iastore, 1)) (hs : shp NN a = some (.inl (0, len))) (hi : vp_in i len) (kk : WQ G d Y Q (k + 1) lv st (uI I a i.toNatClampNeg x, L, R)) : WQ G d Y Q k lv (.int x :: .int i :: .ref a :: st) (I, L, R) := wp_iast hd hs hi kk
theorem q_bast {a len : Nat} {i : Int32} {x : Int32} (hd : nx Y k = some (pc, .bastore, 1)) (hs : shp NN a = some (.inl (1, len))) (hi : vp_in i len) (kk : WQ G d Y Q (k + 1) lv st (uI I a i.toNatClampNeg (vp_nar .byte x), L, R)) : WQ G d Y Q k lv (.int x :: .int i :: .ref a :: st) (I, L, R) := wp_bast hd hs hi kk
theorem q_zast {a len : Nat} {i : Int32} {x : Int32} (hd : nx Y k = some (pc, .bastore, 1)) (hs : shp NN a = some (.inl (2, len))) (hi : vp_in i len) (kk : WQ G d Y Q (k + 1) lv st (uI I a i.toNatClampNeg (vp_nar .boolean x), L, R)) : WQ G d Y Q k lv (.int x :: .int i :: .ref a :: st) (I, L, R) := wp_zast hd hs hi kk
theorem q_last {a len : Nat} {i : Int32} {x : Int64} (hd : nx Y k = some (pc, .lastore, 1)) (hs : shp NN a = some (.inl (3, len))) (hi : vp_in i len) (kk : WQ G d Y Q (k + 1) lv st (I, uL L a i.toNatClampNeg x, R)) : WQ G d Y Q k lv (.long x :: .int i :: .ref a :: st) (I, L, R) := wp_last hd hs hi kk
theorem q_mast {m : Nat} {x : Int32} (hd : nx Y k = some (pc, .aaload, 1)) (hx : x = nI m) (hm : m < 14) (kk : WQ G d Y Q (k + 1) lv (.ref (4 + m) :: st) (I, L, RR bb)) : WQ G d Y Q k lv (.int x :: .ref 2 :: st) (I, L, RR bb) := by
  subst hx
  refine wp_aald (t := 4) (len := 14) hd rfl (by decide) (vp_in_nI hm (by decide)) ?_ kk
  rw [nI_clamp (by omega)]
  show (if m < 14 then _ else _) = _
  rw [if_pos hm]
theorem q_area {m : Nat} {x : Int32} (hd : nx Y k = some (pc, .aaload, 1)) (hx : x = nI m) (hm : m < 16) (kk : WQ G d Y Q (k + 1) lv (.ref (18 + m) :: st) (I, L, RR bb)) : WQ G d Y Q k lv (.int x :: .ref 3 :: st) (I, L, RR bb) := by
  subst hx
  refine wp_aald (t := 5) (len := 16) hd rfl (by decide) (vp_in_nI hm (by decide)) ?_ kk
  rw [nI_clamp (by omega)]
  show (if m < 16 then _ else _) = _
  rw [if_pos hm]
theorem q_rowo {m : Nat} {x : Int32} (hd : nx Y k = some (pc, .aaload, 1)) (hx : x = nI m) (hm : m < 4) (kk : WQ G d Y Q (k + 1) lv (.ref (57 + 2 * m) :: st) (I, L, RR bb)) : WQ G d Y Q k lv (.int x :: .ref 56 :: st) (I, L, RR bb) := by
  subst hx
  refine wp_aald (t := 6) (len := 4) hd rfl (by decide) (vp_in_nI hm (by decide)) ?_ kk
  rw [nI_clamp (by omega)]
  show (if m < 4 then _ else _) = _
  rw [if_pos hm]
end QROWS
