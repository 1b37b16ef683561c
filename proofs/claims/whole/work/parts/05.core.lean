/-! the mini world: cells by numbers, contents by three functions; the judgement WP over it -/
def shL : List ((Nat × Nat) ⊕ Nat) := [.inr 10, .inr 1, .inl (4, 14), .inl (5, 16), .inr 4, .inr 4, .inr 4, .inr 4, .inr 4, .inr 4, .inr 4, .inr 4, .inr 4, .inr 4, .inr 4, .inr 4, .inr 4, .inr 4, .inr 0, .inr 0, .inr 0, .inr 0, .inr 0, .inr 0, .inr 0, .inr 0, .inr 0, .inr 0, .inr 0, .inr 0, .inr 0, .inr 0, .inr 0, .inr 0, .inr 5, .inl (0, 1024), .inl (0, 1024), .inl (0, 53), .inl (0, 52), .inr 9, .inl (0, 10), .inl (0, 10), .inl (0, 10), .inl (0, 10), .inr 7, .inl (1, 300), .inr 3, .inr 8, .inl (0, 300), .inl (0, 300), .inr 2, .inl (0, 300), .inl (0, 10), .inl (0, 10), .inl (0, 10), .inl (3, 20), .inl (6, 4), .inr 6, .inl (3, 60), .inr 6, .inl (3, 60), .inr 6, .inl (3, 60), .inr 6, .inl (3, 60), .inl (0, 6), .inr 2, .inl (0, 300), .inl (0, 10), .inl (0, 10), .inl (0, 10), .inl (3, 20), .inr 11, .inl (0, 4), .inl (0, 4), .inl (3, 240), .inl (3, 60), .inl (0, 14), .inl (0, 14), .inl (0, 14), .inl (0, 14), .inl (0, 10), .inl (0, 4), .inl (2, 10), .inl (2, 10), .inl (2, 10), .inl (0, 16), .inl (0, 16), .inl (0, 16), .inl (0, 16), .inl (0, 16), .inl (0, 16), .inl (0, 16), .inl (0, 16), .inl (0, 10), .inl (0, 10), .inl (1, 300), .inl (1, 600), .inl (0, 2), .inl (2, 54272), .inl (2, 196), .inl (3, 6)]
abbrev NN : Nat := 102
abbrev NC : Nat := 72
def shp (n a : Nat) : Option ((Nat × Nat) ⊕ Nat) := match Nat.blt a n with
  | true => lAt shL a
  | false => none
def STL : List Nat := [5, 4, 4, 5, 4, 5, 4, 3, 2, 3]
def STB : List (List Int32) := [[104, 111, 109, 101, 115], [112, 111, 111, 114], [97, 103, 101, 100], [98, 111, 120, 101, 115], [119, 101, 101, 107], [115, 116, 111, 99, 107], [103, 105, 118, 101], [99, 97, 112], [105, 102], [97, 110, 100]]
def STR : List (Nat × Nat × String × Nat) := [(8, 70, "homes", 0), (8, 78, "poor", 1), (8, 80, "aged", 2), (8, 82, "boxes", 3), (8, 84, "week", 4), (8, 86, "stock", 5), (8, 88, "give", 6), (8, 90, "cap", 7), (8, 92, "if", 8), (8, 94, "and", 9), (11, 296, "give", 6), (11, 301, "cap", 7), (11, 267, "homes", 0), (11, 272, "poor", 1), (11, 273, "aged", 2), (11, 274, "boxes", 3), (11, 275, "week", 4), (11, 276, "stock", 5), (11, 310, "if", 8), (11, 294, "and", 9)]
abbrev Gl : Type := Launch × va_G × (Nat → ClassId) × Nat × (Nat × Nat × (Nat → Int32)) × (Nat → Nat) × (Nat → Nat)
abbrev gD (G : Gl) : va_G := G.2.1
abbrev gA (G : Gl) : Nat → ClassId := G.2.2.1
abbrev gb (G : Gl) : Nat := G.2.2.2.1
abbrev gS (G : Gl) : Nat × Nat × (Nat → Int32) := G.2.2.2.2.1
abbrev gK (G : Gl) : Nat → Nat := G.2.2.2.2.2.1
abbrev gV (G : Gl) : Nat → Nat := G.2.2.2.2.2.2
abbrev gX (G : Gl) : Nat → Prop := fun q => gb G ≤ q
def ra (G : Gl) (a : Nat) : Nat := if a < 1000000 then gb G + a else if a = 1000000 then (gS G).1 else gK G (a - 1000001)
def rv (G : Gl) (v : Value) : Value := match v with
  | .ref a => .ref (ra G a)
  | .int x => .int x
  | .long x => .long x
  | .null => .null
  | v => v
theorem ra_w {G : Gl} {a : Nat} (h : a < 1000000) : ra G a = gb G + a := by unfold ra; rw [if_pos h]
theorem rv_cat (G : Gl) (v : Value) : (rv G v).category = v.category := by cases v <;> rfl
abbrev mW : Type := (Nat → Nat → Int32) × (Nat → Nat → Int64) × (Nat → Nat → Option Nat)
/-- the kind of a field: 0 whole numbers of an int, 1 long, 2 a reference -/
def kd (t : FieldType) : Nat := match t with
  | .long => 1
  | .object _ => 2
  | .array _ => 2
  | _ => 0
def arrC (G : Gl) (w : mW) (i t : Nat) : (Nat → Int32) ⊕ (Nat → Int64) ⊕ (Nat → UInt32) ⊕ (Nat → UInt64) ⊕ (Nat → Option Nat) := match t with
  | 0 => .inl (w.1 i)
  | 1 => .inl (w.1 i)
  | 2 => .inl (w.1 i)
  | 3 => .inr (.inl (w.2.1 i))
  | _ => .inr (.inr (.inr (.inr (fun k => (w.2.2 i k).map (ra G)))))
def fldV (G : Gl) (w : mW) (i k t : Nat) : Value := match t with
  | 0 => .int (w.1 i k)
  | 1 => .long (w.2.1 i k)
  | _ => va_rf ((w.2.2 i k).map (ra G))
def cellE (G : Gl) (w : mW) (i : Nat) : va_E := match lAt shL i with
  | none => .inr (0, [])
  | some (.inl q) => .inl (gA G q.1, q.2, arrC G w i q.1)
  | some (.inr ci) => .inr (ci, (List.range (NF ci)).map (fun k => fldV G w i k (kd (tyT ci k))))
def cellsE (G : Gl) (n : Nat) (w : mW) : va_W := (List.range n).map (fun i => (gb G + i, cellE G w i))
def rep (G : Gl) (n : Nat) (w : mW) (H : Heap) : Prop := H.size = gb G + n ∧ va_P (gD G) vwCl (cellsE G n w) H
theorem cells_at {G : Gl} {n : Nat} {w : mW} {i : Nat} (h : i < n) : (cellsE G n w)[i]? = some (gb G + i, cellE G w i) := by
  unfold cellsE
  rw [List.getElem?_map, List.getElem?_range h]
  rfl
theorem cells_in {G : Gl} {n : Nat} {w : mW} {i : Nat} {q : Nat × va_E} (h : (cellsE G n w)[i]? = some q) : i < n ∧ q = (gb G + i, cellE G w i) := by
  have hl : i < n := by
    have := (List.getElem?_eq_some_iff.mp h).1
    simpa [cellsE] using this
  rw [cells_at hl] at h
  exact ⟨hl, (Option.some.inj h).symm⟩
theorem cells_D {G : Gl} {n : Nat} {w : mW} : va_D (gX G) (cellsE G n w) := by
  refine ⟨fun i j p q hp hq e => ?_, fun k q hq => ?_⟩
  · obtain ⟨-, rfl⟩ := cells_in hp
    obtain ⟨-, rfl⟩ := cells_in hq
    exact Nat.add_left_cancel e
  · obtain ⟨-, rfl⟩ := cells_in hq
    exact Nat.le_add_right _ _
theorem cells_set {G : Gl} {n : Nat} {w w' : mW} {i : Nat} {e : va_E} (he : cellE G w' i = e) (ho : ∀ j, j ≠ i → cellE G w' j = cellE G w j) : (cellsE G n w).set i (gb G + i, e) = cellsE G n w' := by
  apply List.ext_getElem?
  intro j
  by_cases hj : j < n
  · rw [cells_at hj]
    by_cases hi : j = i
    · subst hi
      rw [List.getElem?_set_self (by simpa [cellsE] using hj), he]
    · rw [List.getElem?_set_ne (Ne.symm hi), cells_at hj, ho j hi]
  · rw [List.getElem?_eq_none (by simpa [cellsE] using Nat.le_of_not_lt hj), List.getElem?_eq_none (by simpa [cellsE] using Nat.le_of_not_lt hj)]
theorem cells_push {G : Gl} {n : Nat} {w w' : mW} {e : va_E} (he : cellE G w' n = e) (ho : ∀ j, j < n → cellE G w' j = cellE G w j) : cellsE G n w ++ [(gb G + n, e)] = cellsE G (n + 1) w' := by
  unfold cellsE
  rw [List.range_succ, List.map_append]
  congr 1
  · exact List.map_congr_left (fun j hj => by rw [ho j (List.mem_range.mp hj)])
  · simp [he]
/-- storing -/
def sI (w : mW) (a k : Nat) (v : Int32) : mW := (fun a' k' => if a' = a then (if k' = k then v else w.1 a' k') else w.1 a' k', w.2)
def sL (w : mW) (a k : Nat) (v : Int64) : mW := (w.1, fun a' k' => if a' = a then (if k' = k then v else w.2.1 a' k') else w.2.1 a' k', w.2.2)
def sR (w : mW) (a k : Nat) (v : Option Nat) : mW := (w.1, w.2.1, fun a' k' => if a' = a then (if k' = k then v else w.2.2 a' k') else w.2.2 a' k')
theorem cell_other {G : Gl} {w w' : mW} {j : Nat} (h1 : w'.1 j = w.1 j) (h2 : w'.2.1 j = w.2.1 j) (h3 : w'.2.2 j = w.2.2 j) : cellE G w' j = cellE G w j := by
  unfold cellE arrC fldV
  rw [h1, h2, h3]
theorem sI_o {w : mW} {a k j : Nat} {v : Int32} (h : j ≠ a) : (sI w a k v).1 j = w.1 j := by funext q; simp [sI, h]
theorem sL_o {w : mW} {a k j : Nat} {v : Int64} (h : j ≠ a) : (sL w a k v).2.1 j = w.2.1 j := by funext q; simp [sL, h]
theorem sR_o {w : mW} {a k j : Nat} {v : Option Nat} (h : j ≠ a) : (sR w a k v).2.2 j = w.2.2 j := by funext q; simp [sR, h]
theorem shp_spec {n a : Nat} {x : (Nat × Nat) ⊕ Nat} (h : shp n a = some x) : a < n ∧ lAt shL a = some x ∧ a < 1000000 := by
  unfold shp at h
  split at h
  · next hb =>
    have h1 : a < n := Nat.lt_of_lt_of_le (Nat.lt_of_lt_of_le (Nat.lt_succ_self a) (Nat.le_of_ble_eq_true hb)) (Nat.le_refl _)
    refine ⟨h1, h, ?_⟩
    have key : ∀ (l : List ((Nat × Nat) ⊕ Nat)) (i : Nat) (y : (Nat × Nat) ⊕ Nat), lAt l i = some y → i < l.length := by
      intro l
      induction l with
      | nil => intro i y hy; cases i <;> cases hy
      | cons q l ih =>
        intro i y hy
        cases i with
        | zero => exact Nat.succ_pos _
        | succ i => exact Nat.succ_lt_succ (ih i y hy)
    exact Nat.lt_trans (key _ _ _ h) (by decide)
  · cases h
def gT (G : Gl) : List (ClassId × FieldType) := [(gA G 0, .int), (gA G 1, .byte), (gA G 2, .boolean), (gA G 3, .long), (gA G 4, .object "MastMove$Mast"), (gA G 5, .object "MastMove$Area"), (gA G 6, .object "MastMove$Row")]
/-- what stands outside the world: the script, the texts, one static, links -/
def out (G : Gl) (U : State) : Prop :=
  (va_X (gS G).1 (gS G).2.1 (gS G).2.2 U U.heap ∧ (gS G).1 < gb G) ∧ gb G ≤ U.heap.size ∧ vk_S 10 STL STB (gK G) (gV G) (gX G) U U.heap ∧ (∀ q ∈ STR, vk_R (RN q.1) q.2.1 q.2.2.1 (gK G q.2.2.2) U) ∧ (va_Z "java/lang/String" "COMPACT_STRINGS" "Z" (.int 1) (gX G) U U.heap ∧ (∃ v, va_Z "jdk/internal/util/Preconditions" "SIOOBE_FORMATTER" "Ljava/util/function/BiFunction;" (rv G v) (gX G) U U.heap ∧ (v = .null ∨ ∃ a, v = .ref a)) ∧ ∀ i, i < 10 → gK G (100 + i) = gV G i) ∧ (∀ q ∈ nestT, va_Nw (.methodLinkNest q.1 q.2.1 q.2.2 "MastMove") U) ∧ va_AO "MastMove$Mast" U ∧ va_AO "MastMove$Area" U ∧ va_AO "MastMove$Row" U
theorem out_moved {G : Gl} {s U : State} {H : Heap} {locs : List Loc} (h : out G s) (hU : U.heap = H) (hW : s.WarmedH U.vm) (hS : va_S (gX G) s.heap H locs) : out G U := by
  obtain ⟨⟨h1, h2⟩, h3, h4, h5, ⟨h6, ⟨v0, h6b, h6d⟩, h6c⟩, h7, h8, h9, h10⟩ := h
  have hal := hW.alike
  refine ⟨⟨?_, h2⟩, ?_, ?_, fun q hq => (h5 q hq).warm hW, ?_, fun q hq => (h7 q hq).warmM hW, h8.moved hal, h9.moved hal, h10.moved hal⟩
  · rw [hU]
    exact (h1.kept (hS.2.1 _ (Nat.lt_of_lt_of_le h2 h3) (Nat.not_le.mpr h2))).moved hal
  · rw [hU]; exact Nat.le_trans h3 hS.1
  · rw [hU]; exact (h4.kept hS.2.1).moved hal
  · rw [hU]; exact ⟨(h6.kept hS.2.1).moved hal, ⟨v0, (h6b.kept hS.2.1).moved hal, h6d⟩, h6c⟩
def Cx (G : Gl) (Y : mY) (p : Program) (s : State) (m : MethodId) (args : Array Value) (meth : Method) (c : Code) : Prop :=
  p.tables.exec = Jvm.exec ∧ c.code = Y.2.2.1 ∧ meth.sig.returnType = Y.2.2.2.2.1 ∧ c.maxLocals = Y.2.2.2.1 ∧ s.vm.findClass (RN Y.1) = some m.cls ∧ (∀ w ∈ goodL, w.before args s = true) ∧ meth.locks = false ∧ meth.name = Y.2.1.name ∧ va_K (gD G) vwCl (gT G) s ∧ out G s ∧ chkT Y.2.2.1 Y.2.2.2.2.2 = true
abbrev tb (Y : mY) : List mI := Y.2.2.2.2.2
def pcO (Y : mY) (k : Nat) : Nat := match lAt (tb Y) k with
  | some e => e.1
  | none => 0
def nx (Y : mY) (k : Nat) : Option mI := match lAt (tb Y) k, lAt (tb Y) (k + 1) with
  | some e, some f => match Nat.beq f.1 (e.1 + e.2.2) with
    | true => some e
    | false => none
  | _, _ => none
def lg : List (Nat × Value) → Nat → Option Value
  | [], _ => none
  | q :: r, i => match Nat.beq q.1 i with
    | true => some q.2
    | false => lg r i
def rvl (G : Gl) (lv : List (Nat × Value)) : List (Nat × Value) := lv.map (fun q => (q.1, rv G q.2))
theorem lg_mem : ∀ {lv : List (Nat × Value)} {i : Nat} {v : Value}, lg lv i = some v → (i, v) ∈ lv
  | [], _, _, h => by cases h
  | q :: r, i, v, h => by
    unfold lg at h
    split at h
    · next hb =>
      have hi := Nat.eq_of_beq_eq_true hb
      cases h
      subst hi
      exact List.mem_cons_self
    · exact List.mem_cons_of_mem _ (lg_mem h)
theorem lg_has {G : Gl} {ls : Array Slot} {n i : Nat} {lv : List (Nat × Value)} {v : Value} (h : lv_has ls n (rvl G lv)) (hg : lg lv i = some v) : ls[i]? = some (.val (rv G v)) :=
  h.2.2 (i, rv G v) (List.mem_map_of_mem (f := fun q : Nat × Value => (q.1, rv G q.2)) (lg_mem hg))
theorem at_dec {Y : mY} {k : Nat} {e : mI} (hc : chkT Y.2.2.1 Y.2.2.2.2.2 = true) (h : lAt (tb Y) k = some e) : decode Y.2.2.1 (pcO Y k) = .ok e.2 := by
  have key : ∀ (l : List mI) (i : Nat) (y : mI), lAt l i = some y → y ∈ l := by
    intro l
    induction l with
    | nil => intro i y hy; cases i <;> cases hy
    | cons q l ih =>
      intro i y hy
      cases i with
      | zero => cases hy; exact List.mem_cons_self
      | succ i => exact List.mem_cons_of_mem _ (ih i y hy)
  have h1 := List.all_eq_true.mp hc e (key _ _ _ h)
  unfold pcO
  rw [h]
  exact of_decide_eq_true h1
theorem nx_dec {Y : mY} {k : Nat} {e : mI} (hc : chkT Y.2.2.1 Y.2.2.2.2.2 = true) (h : nx Y k = some e) : decode Y.2.2.1 (pcO Y k) = .ok e.2 ∧ pcO Y (k + 1) = pcO Y k + e.2.2 := by
  unfold nx at h
  split at h
  · next e0 f h1 h2 =>
    split at h
    · next hb =>
      cases h
      refine ⟨at_dec hc h1, ?_⟩
      unfold pcO
      rw [h1, h2]
      exact Nat.eq_of_beq_eq_true hb
    · cases h
  · cases h
def WP (G : Gl) (Y : mY) (R : Room) (QQ : List Frame → Array Value → State → State → Prop) (N : Nat × Nat × Nat) (k : Nat) (lv : List (Nat × Value)) (st : List Value) (w : mW) : Prop :=
  ∀ (p : Program) (e : Env) (s : State) (m : MethodId) (args : Array Value) (below : List Frame) (meth : Method) (c : Code), Cx G Y p s m args meth c → ∀ (H : Heap) (locs : List Loc) (ls : Array Slot), rep G N.1 w H → va_S (gX G) s.heap H locs → lv_has ls Y.2.2.2.1 (rvl G lv) →
    W p G.1 e R s m args below meth c H locs N.2.1 N.2.2 (QQ below args s) (F0 m (pcO Y k) ls (st.map (rv G)))
theorem rvl_cat (G : Gl) (lv : List (Nat × Value)) (i : Nat) : (rvl G lv).filter (fun q => !(q.1 == i) && !(q.1 + 1 == i && q.2.category == 2)) = rvl G (lv.filter (fun q => !(q.1 == i) && !(q.1 + 1 == i && q.2.category == 2))) := by
  unfold rvl
  rw [List.filter_map]
  congr 1
  apply List.filter_congr
  intro q _
  simp only [Function.comp, rv_cat]
theorem rvl_cat2 (G : Gl) (lv : List (Nat × Value)) (i : Nat) : (rvl G lv).filter (fun q => !(q.1 == i) && (!(q.1 == i + 1) && !(q.1 + 1 == i && q.2.category == 2))) = rvl G (lv.filter (fun q => !(q.1 == i) && (!(q.1 == i + 1) && !(q.1 + 1 == i && q.2.category == 2)))) := by
  unfold rvl
  rw [List.filter_map]
  congr 1
  apply List.filter_congr
  intro q _
  simp only [Function.comp, rv_cat]
section ROWS
variable {G : Gl} {Y : mY} {R : Room} {QQ : List Frame → Array Value → State → State → Prop} {N : Nat × Nat × Nat} {k : Nat} {lv : List (Nat × Value)} {st : List Value} {w : mW} {pc : Nat}
/-- fewer locals, in another order -/
theorem wp_loc {lv' : List (Nat × Value)} (ks : List Nat) (hl : lv_pick lv ks = lv') (kk : WP G Y R QQ N k lv' st w) : WP G Y R QQ N k lv st w := by
  intro p e s m args below meth c C H locs ls hr hS hh
  refine kk p e s m args below meth c C H locs ls hr hS ⟨hh.1, hh.2.1, fun q hq => ?_⟩
  subst hl
  obtain ⟨q0, h0, rfl⟩ := List.mem_map.mp hq
  obtain ⟨i, -, hi⟩ := List.mem_filterMap.mp h0
  exact hh.2.2 _ (List.mem_map_of_mem (f := fun q : Nat × Value => (q.1, rv G q.2)) (List.mem_of_getElem? hi))
theorem wp_iadd {x y : Int32} (hd : nx Y k = some (pc, .iadd, 1)) 
    (kk : WP G Y R QQ N (k + 1) lv (.int (x + y) :: st) w) : WP G Y R QQ N k lv (.int y :: .int x :: st) w := by
  intro p e s m args below meth c C H locs ls hr hS hh
  obtain ⟨hx, hb, hrt, hml, hown, hts, hlk, hnm, hK, hO, hc⟩ := id C
  obtain ⟨h1, h2⟩ := nx_dec hc hd
  have K := kk p e s m args below meth c C H locs ls hr hS hh
  rw [h2] at K
  exact lv_iadd hx hb h1  K
theorem wp_isub {x y : Int32} (hd : nx Y k = some (pc, .isub, 1)) 
    (kk : WP G Y R QQ N (k + 1) lv (.int (x - y) :: st) w) : WP G Y R QQ N k lv (.int y :: .int x :: st) w := by
  intro p e s m args below meth c C H locs ls hr hS hh
  obtain ⟨hx, hb, hrt, hml, hown, hts, hlk, hnm, hK, hO, hc⟩ := id C
  obtain ⟨h1, h2⟩ := nx_dec hc hd
  have K := kk p e s m args below meth c C H locs ls hr hS hh
  rw [h2] at K
  exact lv_isub hx hb h1  K
theorem wp_imul {x y : Int32} (hd : nx Y k = some (pc, .imul, 1)) 
    (kk : WP G Y R QQ N (k + 1) lv (.int (x * y) :: st) w) : WP G Y R QQ N k lv (.int y :: .int x :: st) w := by
  intro p e s m args below meth c C H locs ls hr hS hh
  obtain ⟨hx, hb, hrt, hml, hown, hts, hlk, hnm, hK, hO, hc⟩ := id C
  obtain ⟨h1, h2⟩ := nx_dec hc hd
  have K := kk p e s m args below meth c C H locs ls hr hS hh
  rw [h2] at K
  exact lv_imul hx hb h1  K
theorem wp_iand {x y : Int32} (hd : nx Y k = some (pc, .iand, 1)) 
    (kk : WP G Y R QQ N (k + 1) lv (.int (x &&& y) :: st) w) : WP G Y R QQ N k lv (.int y :: .int x :: st) w := by
  intro p e s m args below meth c C H locs ls hr hS hh
  obtain ⟨hx, hb, hrt, hml, hown, hts, hlk, hnm, hK, hO, hc⟩ := id C
  obtain ⟨h1, h2⟩ := nx_dec hc hd
  have K := kk p e s m args below meth c C H locs ls hr hS hh
  rw [h2] at K
  exact lv_iand hx hb h1  K
theorem wp_ior {x y : Int32} (hd : nx Y k = some (pc, .ior, 1)) 
    (kk : WP G Y R QQ N (k + 1) lv (.int (x ||| y) :: st) w) : WP G Y R QQ N k lv (.int y :: .int x :: st) w := by
  intro p e s m args below meth c C H locs ls hr hS hh
  obtain ⟨hx, hb, hrt, hml, hown, hts, hlk, hnm, hK, hO, hc⟩ := id C
  obtain ⟨h1, h2⟩ := nx_dec hc hd
  have K := kk p e s m args below meth c C H locs ls hr hS hh
  rw [h2] at K
  exact lv_ior hx hb h1  K
theorem wp_ixor {x y : Int32} (hd : nx Y k = some (pc, .ixor, 1)) 
    (kk : WP G Y R QQ N (k + 1) lv (.int (x ^^^ y) :: st) w) : WP G Y R QQ N k lv (.int y :: .int x :: st) w := by
  intro p e s m args below meth c C H locs ls hr hS hh
  obtain ⟨hx, hb, hrt, hml, hown, hts, hlk, hnm, hK, hO, hc⟩ := id C
  obtain ⟨h1, h2⟩ := nx_dec hc hd
  have K := kk p e s m args below meth c C H locs ls hr hS hh
  rw [h2] at K
  exact lv_ixor hx hb h1  K
theorem wp_ishl {x y : Int32} (hd : nx Y k = some (pc, .ishl, 1)) 
    (kk : WP G Y R QQ N (k + 1) lv (.int (x <<< (y &&& 31)) :: st) w) : WP G Y R QQ N k lv (.int y :: .int x :: st) w := by
  intro p e s m args below meth c C H locs ls hr hS hh
  obtain ⟨hx, hb, hrt, hml, hown, hts, hlk, hnm, hK, hO, hc⟩ := id C
  obtain ⟨h1, h2⟩ := nx_dec hc hd
  have K := kk p e s m args below meth c C H locs ls hr hS hh
  rw [h2] at K
  exact lv_ishl hx hb h1  K
theorem wp_ishr {x y : Int32} (hd : nx Y k = some (pc, .ishr, 1)) 
    (kk : WP G Y R QQ N (k + 1) lv (.int (x >>> (y &&& 31)) :: st) w) : WP G Y R QQ N k lv (.int y :: .int x :: st) w := by
  intro p e s m args below meth c C H locs ls hr hS hh
  obtain ⟨hx, hb, hrt, hml, hown, hts, hlk, hnm, hK, hO, hc⟩ := id C
  obtain ⟨h1, h2⟩ := nx_dec hc hd
  have K := kk p e s m args below meth c C H locs ls hr hS hh
  rw [h2] at K
  exact lv_ishr hx hb h1  K
theorem wp_idiv {x y : Int32} (hd : nx Y k = some (pc, .idiv, 1)) (hne : ¬ y = 0)
    (kk : WP G Y R QQ N (k + 1) lv (.int (x / y) :: st) w) : WP G Y R QQ N k lv (.int y :: .int x :: st) w := by
  intro p e s m args below meth c C H locs ls hr hS hh
  obtain ⟨hx, hb, hrt, hml, hown, hts, hlk, hnm, hK, hO, hc⟩ := id C
  obtain ⟨h1, h2⟩ := nx_dec hc hd
  have K := kk p e s m args below meth c C H locs ls hr hS hh
  rw [h2] at K
  exact lv_idiv hx hb h1 hne K
theorem wp_irem {x y : Int32} (hd : nx Y k = some (pc, .irem, 1)) (hne : ¬ y = 0)
    (kk : WP G Y R QQ N (k + 1) lv (.int (x - x / y * y) :: st) w) : WP G Y R QQ N k lv (.int y :: .int x :: st) w := by
  intro p e s m args below meth c C H locs ls hr hS hh
  obtain ⟨hx, hb, hrt, hml, hown, hts, hlk, hnm, hK, hO, hc⟩ := id C
  obtain ⟨h1, h2⟩ := nx_dec hc hd
  have K := kk p e s m args below meth c C H locs ls hr hS hh
  rw [h2] at K
  exact lv_irem hx hb h1 hne K
theorem wp_ineg {x : Int32} (hd : nx Y k = some (pc, .ineg, 1)) 
    (kk : WP G Y R QQ N (k + 1) lv (.int (-x) :: st) w) : WP G Y R QQ N k lv (.int x :: st) w := by
  intro p e s m args below meth c C H locs ls hr hS hh
  obtain ⟨hx, hb, hrt, hml, hown, hts, hlk, hnm, hK, hO, hc⟩ := id C
  obtain ⟨h1, h2⟩ := nx_dec hc hd
  have K := kk p e s m args below meth c C H locs ls hr hS hh
  rw [h2] at K
  exact lv_ineg hx hb h1  K
theorem wp_iushr {x y : Int32} (hd : nx Y k = some (pc, .iushr, 1)) 
    (kk : WP G Y R QQ N (k + 1) lv (.int ((x.toUInt32 >>> (y.toUInt32 &&& Int32.toUInt32 31)).toInt32) :: st) w) : WP G Y R QQ N k lv (.int y :: .int x :: st) w := by
  intro p e s m args below meth c C H locs ls hr hS hh
  obtain ⟨hx, hb, hrt, hml, hown, hts, hlk, hnm, hK, hO, hc⟩ := id C
  obtain ⟨h1, h2⟩ := nx_dec hc hd
  have K := kk p e s m args below meth c C H locs ls hr hS hh
  rw [h2] at K
  exact lv_iushr hx hb h1 rfl K
theorem wp_ladd {x y : Int64} (hd : nx Y k = some (pc, .ladd, 1)) 
    (kk : WP G Y R QQ N (k + 1) lv (.long (x + y) :: st) w) : WP G Y R QQ N k lv (.long y :: .long x :: st) w := by
  intro p e s m args below meth c C H locs ls hr hS hh
  obtain ⟨hx, hb, hrt, hml, hown, hts, hlk, hnm, hK, hO, hc⟩ := id C
  obtain ⟨h1, h2⟩ := nx_dec hc hd
  have K := kk p e s m args below meth c C H locs ls hr hS hh
  rw [h2] at K
  exact lv_ladd hx hb h1  K
theorem wp_lsub {x y : Int64} (hd : nx Y k = some (pc, .lsub, 1)) 
    (kk : WP G Y R QQ N (k + 1) lv (.long (x - y) :: st) w) : WP G Y R QQ N k lv (.long y :: .long x :: st) w := by
  intro p e s m args below meth c C H locs ls hr hS hh
  obtain ⟨hx, hb, hrt, hml, hown, hts, hlk, hnm, hK, hO, hc⟩ := id C
  obtain ⟨h1, h2⟩ := nx_dec hc hd
  have K := kk p e s m args below meth c C H locs ls hr hS hh
  rw [h2] at K
  exact lv_lsub hx hb h1  K
theorem wp_lmul {x y : Int64} (hd : nx Y k = some (pc, .lmul, 1)) 
    (kk : WP G Y R QQ N (k + 1) lv (.long (x * y) :: st) w) : WP G Y R QQ N k lv (.long y :: .long x :: st) w := by
  intro p e s m args below meth c C H locs ls hr hS hh
  obtain ⟨hx, hb, hrt, hml, hown, hts, hlk, hnm, hK, hO, hc⟩ := id C
  obtain ⟨h1, h2⟩ := nx_dec hc hd
  have K := kk p e s m args below meth c C H locs ls hr hS hh
  rw [h2] at K
  exact lv_lmul hx hb h1  K
theorem wp_land {x y : Int64} (hd : nx Y k = some (pc, .land, 1)) 
    (kk : WP G Y R QQ N (k + 1) lv (.long (x &&& y) :: st) w) : WP G Y R QQ N k lv (.long y :: .long x :: st) w := by
  intro p e s m args below meth c C H locs ls hr hS hh
  obtain ⟨hx, hb, hrt, hml, hown, hts, hlk, hnm, hK, hO, hc⟩ := id C
  obtain ⟨h1, h2⟩ := nx_dec hc hd
  have K := kk p e s m args below meth c C H locs ls hr hS hh
  rw [h2] at K
  exact lv_land hx hb h1  K
theorem wp_lor {x y : Int64} (hd : nx Y k = some (pc, .lor, 1)) 
    (kk : WP G Y R QQ N (k + 1) lv (.long (x ||| y) :: st) w) : WP G Y R QQ N k lv (.long y :: .long x :: st) w := by
  intro p e s m args below meth c C H locs ls hr hS hh
  obtain ⟨hx, hb, hrt, hml, hown, hts, hlk, hnm, hK, hO, hc⟩ := id C
  obtain ⟨h1, h2⟩ := nx_dec hc hd
  have K := kk p e s m args below meth c C H locs ls hr hS hh
  rw [h2] at K
  exact lv_lor hx hb h1  K
theorem wp_ldiv {x y : Int64} (hd : nx Y k = some (pc, .ldiv, 1)) (hne : ¬ y = 0)
    (kk : WP G Y R QQ N (k + 1) lv (.long (x / y) :: st) w) : WP G Y R QQ N k lv (.long y :: .long x :: st) w := by
  intro p e s m args below meth c C H locs ls hr hS hh
  obtain ⟨hx, hb, hrt, hml, hown, hts, hlk, hnm, hK, hO, hc⟩ := id C
  obtain ⟨h1, h2⟩ := nx_dec hc hd
  have K := kk p e s m args below meth c C H locs ls hr hS hh
  rw [h2] at K
  exact lv_ldiv hx hb h1 hne K
theorem wp_lneg {x : Int64} (hd : nx Y k = some (pc, .lneg, 1)) 
    (kk : WP G Y R QQ N (k + 1) lv (.long (-x) :: st) w) : WP G Y R QQ N k lv (.long x :: st) w := by
  intro p e s m args below meth c C H locs ls hr hS hh
  obtain ⟨hx, hb, hrt, hml, hown, hts, hlk, hnm, hK, hO, hc⟩ := id C
  obtain ⟨h1, h2⟩ := nx_dec hc hd
  have K := kk p e s m args below meth c C H locs ls hr hS hh
  rw [h2] at K
  exact lv_lneg hx hb h1  K
theorem wp_lshl {x : Int64} {y : Int32} (hd : nx Y k = some (pc, .lshl, 1)) 
    (kk : WP G Y R QQ N (k + 1) lv (.long (x <<< (y.toInt64 &&& 63)) :: st) w) : WP G Y R QQ N k lv (.int y :: .long x :: st) w := by
  intro p e s m args below meth c C H locs ls hr hS hh
  obtain ⟨hx, hb, hrt, hml, hown, hts, hlk, hnm, hK, hO, hc⟩ := id C
  obtain ⟨h1, h2⟩ := nx_dec hc hd
  have K := kk p e s m args below meth c C H locs ls hr hS hh
  rw [h2] at K
  exact lv_lshl hx hb h1 rfl K
theorem wp_lshr {x : Int64} {y : Int32} (hd : nx Y k = some (pc, .lshr, 1)) 
    (kk : WP G Y R QQ N (k + 1) lv (.long (x >>> (y.toInt64 &&& 63)) :: st) w) : WP G Y R QQ N k lv (.int y :: .long x :: st) w := by
  intro p e s m args below meth c C H locs ls hr hS hh
  obtain ⟨hx, hb, hrt, hml, hown, hts, hlk, hnm, hK, hO, hc⟩ := id C
  obtain ⟨h1, h2⟩ := nx_dec hc hd
  have K := kk p e s m args below meth c C H locs ls hr hS hh
  rw [h2] at K
  exact lv_lshr hx hb h1 rfl K
theorem wp_lcmp {x y : Int64} (hd : nx Y k = some (pc, .lcmp, 1)) 
    (kk : WP G Y R QQ N (k + 1) lv (.int (lg_cmp x y) :: st) w) : WP G Y R QQ N k lv (.long y :: .long x :: st) w := by
  intro p e s m args below meth c C H locs ls hr hS hh
  obtain ⟨hx, hb, hrt, hml, hown, hts, hlk, hnm, hK, hO, hc⟩ := id C
  obtain ⟨h1, h2⟩ := nx_dec hc hd
  have K := kk p e s m args below meth c C H locs ls hr hS hh
  rw [h2] at K
  exact W.lcmp hx hb h1  K
theorem wp_i2l {x : Int32} (hd : nx Y k = some (pc, .i2l, 1)) 
    (kk : WP G Y R QQ N (k + 1) lv (.long x.toInt64 :: st) w) : WP G Y R QQ N k lv (.int x :: st) w := by
  intro p e s m args below meth c C H locs ls hr hS hh
  obtain ⟨hx, hb, hrt, hml, hown, hts, hlk, hnm, hK, hO, hc⟩ := id C
  obtain ⟨h1, h2⟩ := nx_dec hc hd
  have K := kk p e s m args below meth c C H locs ls hr hS hh
  rw [h2] at K
  exact lv_i2l hx hb h1 rfl K
theorem wp_l2i {x : Int64} (hd : nx Y k = some (pc, .l2i, 1)) 
    (kk : WP G Y R QQ N (k + 1) lv (.int x.toInt32 :: st) w) : WP G Y R QQ N k lv (.long x :: st) w := by
  intro p e s m args below meth c C H locs ls hr hS hh
  obtain ⟨hx, hb, hrt, hml, hown, hts, hlk, hnm, hK, hO, hc⟩ := id C
  obtain ⟨h1, h2⟩ := nx_dec hc hd
  have K := kk p e s m args below meth c C H locs ls hr hS hh
  rw [h2] at K
  exact lv_l2i hx hb h1 rfl K
theorem wp_i2b {x : Int32} (hd : nx Y k = some (pc, .i2b, 1)) 
    (kk : WP G Y R QQ N (k + 1) lv (.int x.toInt8.toInt32 :: st) w) : WP G Y R QQ N k lv (.int x :: st) w := by
  intro p e s m args below meth c C H locs ls hr hS hh
  obtain ⟨hx, hb, hrt, hml, hown, hts, hlk, hnm, hK, hO, hc⟩ := id C
  obtain ⟨h1, h2⟩ := nx_dec hc hd
  have K := kk p e s m args below meth c C H locs ls hr hS hh
  rw [h2] at K
  exact lv_i2b hx hb h1 rfl K
theorem wp_i2s {x : Int32} (hd : nx Y k = some (pc, .i2s, 1)) 
    (kk : WP G Y R QQ N (k + 1) lv (.int x.toInt16.toInt32 :: st) w) : WP G Y R QQ N k lv (.int x :: st) w := by
  intro p e s m args below meth c C H locs ls hr hS hh
  obtain ⟨hx, hb, hrt, hml, hown, hts, hlk, hnm, hK, hO, hc⟩ := id C
  obtain ⟨h1, h2⟩ := nx_dec hc hd
  have K := kk p e s m args below meth c C H locs ls hr hS hh
  rw [h2] at K
  exact lv_i2s hx hb h1 rfl K
theorem wp_i2c {x : Int32} (hd : nx Y k = some (pc, .i2c, 1)) 
    (kk : WP G Y R QQ N (k + 1) lv (.int (x.toUInt32 % 65536).toInt32 :: st) w) : WP G Y R QQ N k lv (.int x :: st) w := by
  intro p e s m args below meth c C H locs ls hr hS hh
  obtain ⟨hx, hb, hrt, hml, hown, hts, hlk, hnm, hK, hO, hc⟩ := id C
  obtain ⟨h1, h2⟩ := nx_dec hc hd
  have K := kk p e s m args below meth c C H locs ls hr hS hh
  rw [h2] at K
  exact lv_i2c hx hb h1 rfl K
theorem wp_iconst {n : Int} {v : Int32} (hd : nx Y k = some (pc, .iconst n, 1)) (hv : Int32.ofInt n = v)
    (kk : WP G Y R QQ N (k + 1) lv (.int v :: st) w) : WP G Y R QQ N k lv (st) w := by
  intro p e s m args below meth c C H locs ls hr hS hh
  obtain ⟨hx, hb, hrt, hml, hown, hts, hlk, hnm, hK, hO, hc⟩ := id C
  obtain ⟨h1, h2⟩ := nx_dec hc hd
  have K := kk p e s m args below meth c C H locs ls hr hS hh
  rw [h2] at K
  exact lv_iconst hx hb h1 hv K
theorem wp_bipush {n : Int} {v : Int32} (hd : nx Y k = some (pc, .bipush n, 2)) (hv : (Int8.ofInt n).toInt32 = v)
    (kk : WP G Y R QQ N (k + 1) lv (.int v :: st) w) : WP G Y R QQ N k lv (st) w := by
  intro p e s m args below meth c C H locs ls hr hS hh
  obtain ⟨hx, hb, hrt, hml, hown, hts, hlk, hnm, hK, hO, hc⟩ := id C
  obtain ⟨h1, h2⟩ := nx_dec hc hd
  have K := kk p e s m args below meth c C H locs ls hr hS hh
  rw [h2] at K
  exact lv_bipush hx hb h1 hv K
theorem wp_sipush {n : Int} {v : Int32} (hd : nx Y k = some (pc, .sipush n, 3)) (hv : (Int16.ofInt n).toInt32 = v)
    (kk : WP G Y R QQ N (k + 1) lv (.int v :: st) w) : WP G Y R QQ N k lv (st) w := by
  intro p e s m args below meth c C H locs ls hr hS hh
  obtain ⟨hx, hb, hrt, hml, hown, hts, hlk, hnm, hK, hO, hc⟩ := id C
  obtain ⟨h1, h2⟩ := nx_dec hc hd
  have K := kk p e s m args below meth c C H locs ls hr hS hh
  rw [h2] at K
  exact lv_sipush hx hb h1 hv K
theorem wp_lconst {n : Fin 2} {v : Int64} (hd : nx Y k = some (pc, .lconst n, 1)) (hv : Int64.ofNat (n : Nat) = v)
    (kk : WP G Y R QQ N (k + 1) lv (.long v :: st) w) : WP G Y R QQ N k lv (st) w := by
  intro p e s m args below meth c C H locs ls hr hS hh
  obtain ⟨hx, hb, hrt, hml, hown, hts, hlk, hnm, hK, hO, hc⟩ := id C
  obtain ⟨h1, h2⟩ := nx_dec hc hd
  have K := kk p e s m args below meth c C H locs ls hr hS hh
  rw [h2] at K
  exact lv_lconst hx hb h1 hv K
theorem wp_iload_n {n : Fin 4} {x : Int32} (hd : nx Y k = some (pc, .iload_n n, 1)) (hl : lg lv n = some (.int x))
    (kk : WP G Y R QQ N (k + 1) lv (.int x :: st) w) : WP G Y R QQ N k lv (st) w := by
  intro p e s m args below meth c C H locs ls hr hS hh
  obtain ⟨hx, hb, hrt, hml, hown, hts, hlk, hnm, hK, hO, hc⟩ := id C
  obtain ⟨h1, h2⟩ := nx_dec hc hd
  have K := kk p e s m args below meth c C H locs ls hr hS hh
  rw [h2] at K
  exact lv_iload_n hx hb h1 rfl (lg_has hh hl) K
theorem wp_iload {n : Nat} {x : Int32} (hd : nx Y k = some (pc, .iload n, 2)) (hl : lg lv n = some (.int x))
    (kk : WP G Y R QQ N (k + 1) lv (.int x :: st) w) : WP G Y R QQ N k lv (st) w := by
  intro p e s m args below meth c C H locs ls hr hS hh
  obtain ⟨hx, hb, hrt, hml, hown, hts, hlk, hnm, hK, hO, hc⟩ := id C
  obtain ⟨h1, h2⟩ := nx_dec hc hd
  have K := kk p e s m args below meth c C H locs ls hr hS hh
  rw [h2] at K
  exact lv_iload hx hb h1 (lg_has hh hl) K
theorem wp_lload_n {n : Fin 4} {x : Int64} (hd : nx Y k = some (pc, .lload_n n, 1)) (hl : lg lv n = some (.long x))
    (kk : WP G Y R QQ N (k + 1) lv (.long x :: st) w) : WP G Y R QQ N k lv (st) w := by
  intro p e s m args below meth c C H locs ls hr hS hh
  obtain ⟨hx, hb, hrt, hml, hown, hts, hlk, hnm, hK, hO, hc⟩ := id C
  obtain ⟨h1, h2⟩ := nx_dec hc hd
  have K := kk p e s m args below meth c C H locs ls hr hS hh
  rw [h2] at K
  exact lv_lload_n hx hb h1 rfl (lg_has hh hl) K
theorem wp_lload {n : Nat} {x : Int64} (hd : nx Y k = some (pc, .lload n, 2)) (hl : lg lv n = some (.long x))
    (kk : WP G Y R QQ N (k + 1) lv (.long x :: st) w) : WP G Y R QQ N k lv (st) w := by
  intro p e s m args below meth c C H locs ls hr hS hh
  obtain ⟨hx, hb, hrt, hml, hown, hts, hlk, hnm, hK, hO, hc⟩ := id C
  obtain ⟨h1, h2⟩ := nx_dec hc hd
  have K := kk p e s m args below meth c C H locs ls hr hS hh
  rw [h2] at K
  exact lv_lload hx hb h1 (lg_has hh hl) K
theorem wp_aload_n {n : Fin 4} {x : Nat} (hd : nx Y k = some (pc, .aload_n n, 1)) (hl : lg lv n = some (.ref x))
    (kk : WP G Y R QQ N (k + 1) lv (.ref x :: st) w) : WP G Y R QQ N k lv (st) w := by
  intro p e s m args below meth c C H locs ls hr hS hh
  obtain ⟨hx, hb, hrt, hml, hown, hts, hlk, hnm, hK, hO, hc⟩ := id C
  obtain ⟨h1, h2⟩ := nx_dec hc hd
  have K := kk p e s m args below meth c C H locs ls hr hS hh
  rw [h2] at K
  exact lv_aload_n hx hb h1 rfl (lg_has hh hl) K
theorem wp_aload {n : Nat} {x : Nat} (hd : nx Y k = some (pc, .aload n, 2)) (hl : lg lv n = some (.ref x))
    (kk : WP G Y R QQ N (k + 1) lv (.ref x :: st) w) : WP G Y R QQ N k lv (st) w := by
  intro p e s m args below meth c C H locs ls hr hS hh
  obtain ⟨hx, hb, hrt, hml, hown, hts, hlk, hnm, hK, hO, hc⟩ := id C
  obtain ⟨h1, h2⟩ := nx_dec hc hd
  have K := kk p e s m args below meth c C H locs ls hr hS hh
  rw [h2] at K
  exact lv_aload hx hb h1 (lg_has hh hl) K
theorem wp_istore_n {n : Fin 4} {i : Nat} {x : Int32} {lv' : List (Nat × Value)} (hd : nx Y k = some (pc, .istore_n n, 1)) (hi : (n : Nat) = i) (hn : i < Y.2.2.2.1) (hl : (i, Value.int x) :: lv.filter (fun q => !(q.1 == i) && !(q.1 + 1 == i && q.2.category == 2)) = lv')
    (kk : WP G Y R QQ N (k + 1) lv' st w) : WP G Y R QQ N k lv (.int x :: st) w := by
  intro p e s m args below meth c C H locs ls hr hS hh
  obtain ⟨hx, hb, hrt, hml, hown, hts, hlk, hnm, hK, hO, hc⟩ := id C
  obtain ⟨h1, h2⟩ := nx_dec hc hd
  refine lv_istore_n hx hb h1 hi hh hn rfl (fun ls hh2 => ?_)
  rw [rvl_cat] at hh2
  have K := kk p e s m args below meth c C H locs ls hr hS (by rw [← hl]; exact hh2)
  rw [h2] at K
  exact K
theorem wp_istore {i : Nat} {x : Int32} {lv' : List (Nat × Value)} (hd : nx Y k = some (pc, .istore i, 2)) (hn : i < Y.2.2.2.1) (hl : (i, Value.int x) :: lv.filter (fun q => !(q.1 == i) && !(q.1 + 1 == i && q.2.category == 2)) = lv')
    (kk : WP G Y R QQ N (k + 1) lv' st w) : WP G Y R QQ N k lv (.int x :: st) w := by
  intro p e s m args below meth c C H locs ls hr hS hh
  obtain ⟨hx, hb, hrt, hml, hown, hts, hlk, hnm, hK, hO, hc⟩ := id C
  obtain ⟨h1, h2⟩ := nx_dec hc hd
  refine lv_istore hx hb h1 hh hn rfl (fun ls hh2 => ?_)
  rw [rvl_cat] at hh2
  have K := kk p e s m args below meth c C H locs ls hr hS (by rw [← hl]; exact hh2)
  rw [h2] at K
  exact K
theorem wp_lstore_n {n : Fin 4} {i : Nat} {x : Int64} {lv' : List (Nat × Value)} (hd : nx Y k = some (pc, .lstore_n n, 1)) (hi : (n : Nat) = i) (hn : i + 1 < Y.2.2.2.1) (hl : (i, Value.long x) :: lv.filter (fun q => !(q.1 == i) && (!(q.1 == i + 1) && !(q.1 + 1 == i && q.2.category == 2))) = lv')
    (kk : WP G Y R QQ N (k + 1) lv' st w) : WP G Y R QQ N k lv (.long x :: st) w := by
  intro p e s m args below meth c C H locs ls hr hS hh
  obtain ⟨hx, hb, hrt, hml, hown, hts, hlk, hnm, hK, hO, hc⟩ := id C
  obtain ⟨h1, h2⟩ := nx_dec hc hd
  refine lv_lstore_n hx hb h1 hi hh hn rfl (fun ls hh2 => ?_)
  rw [rvl_cat2] at hh2
  have K := kk p e s m args below meth c C H locs ls hr hS (by rw [← hl]; exact hh2)
  rw [h2] at K
  exact K
theorem wp_lstore {i : Nat} {x : Int64} {lv' : List (Nat × Value)} (hd : nx Y k = some (pc, .lstore i, 2)) (hn : i + 1 < Y.2.2.2.1) (hl : (i, Value.long x) :: lv.filter (fun q => !(q.1 == i) && (!(q.1 == i + 1) && !(q.1 + 1 == i && q.2.category == 2))) = lv')
    (kk : WP G Y R QQ N (k + 1) lv' st w) : WP G Y R QQ N k lv (.long x :: st) w := by
  intro p e s m args below meth c C H locs ls hr hS hh
  obtain ⟨hx, hb, hrt, hml, hown, hts, hlk, hnm, hK, hO, hc⟩ := id C
  obtain ⟨h1, h2⟩ := nx_dec hc hd
  refine lv_lstore hx hb h1 hh hn rfl (fun ls hh2 => ?_)
  rw [rvl_cat2] at hh2
  have K := kk p e s m args below meth c C H locs ls hr hS (by rw [← hl]; exact hh2)
  rw [h2] at K
  exact K
theorem wp_astore_n {n : Fin 4} {i : Nat} {x : Nat} {lv' : List (Nat × Value)} (hd : nx Y k = some (pc, .astore_n n, 1)) (hi : (n : Nat) = i) (hn : i < Y.2.2.2.1) (hl : (i, Value.ref x) :: lv.filter (fun q => !(q.1 == i) && !(q.1 + 1 == i && q.2.category == 2)) = lv')
    (kk : WP G Y R QQ N (k + 1) lv' st w) : WP G Y R QQ N k lv (.ref x :: st) w := by
  intro p e s m args below meth c C H locs ls hr hS hh
  obtain ⟨hx, hb, hrt, hml, hown, hts, hlk, hnm, hK, hO, hc⟩ := id C
  obtain ⟨h1, h2⟩ := nx_dec hc hd
  refine lv_astore_n hx hb h1 hi hh hn rfl (fun ls hh2 => ?_)
  rw [rvl_cat] at hh2
  have K := kk p e s m args below meth c C H locs ls hr hS (by rw [← hl]; exact hh2)
  rw [h2] at K
  exact K
theorem wp_astore {i : Nat} {x : Nat} {lv' : List (Nat × Value)} (hd : nx Y k = some (pc, .astore i, 2)) (hn : i < Y.2.2.2.1) (hl : (i, Value.ref x) :: lv.filter (fun q => !(q.1 == i) && !(q.1 + 1 == i && q.2.category == 2)) = lv')
    (kk : WP G Y R QQ N (k + 1) lv' st w) : WP G Y R QQ N k lv (.ref x :: st) w := by
  intro p e s m args below meth c C H locs ls hr hS hh
  obtain ⟨hx, hb, hrt, hml, hown, hts, hlk, hnm, hK, hO, hc⟩ := id C
  obtain ⟨h1, h2⟩ := nx_dec hc hd
  refine lv_astore hx hb h1 hh hn rfl (fun ls hh2 => ?_)
  rw [rvl_cat] at hh2
  have K := kk p e s m args below meth c C H locs ls hr hS (by rw [← hl]; exact hh2)
  rw [h2] at K
  exact K
theorem lv_iinc2 {p : Program} {l : Launch} {e : Env} {R : Room} {s : State} {m : MethodId} {args : Array Value} {below : List Frame} {meth : Method} {c : Code} {H : Heap} {locs : List Loc} {cells slots : Nat} {Q : State → Prop} {cc : ByteArray} {pc : Nat} {ls : Array Slot} {rest : List Value} (hexec : p.tables.exec = Jvm.exec) (hb : c.code = cc) {i nL : Nat} {n : Int} {x : Int32} {lv : List (Nat × Value)} (hdg : decode cc pc = .ok (.iinc i n, 3)) (h : lv_has ls nL lv) (hk : (i, Value.int x) ∈ lv) (hn : i < nL)
    (kk : ∀ ls' : Array Slot, lv_has ls' nL ((i, Value.int (x + Int32.ofInt n)) :: lv.filter (fun q => !(q.1 == i) && !(q.1 + 1 == i && q.2.category == 2))) → W p l e R s m args below meth c H locs cells slots Q (F0 m (pc + 3) ls' rest)) : W p l e R s m args below meth c H locs cells slots Q (F0 m pc ls rest) := by
  obtain ⟨j, hj⟩ := List.getElem?_of_mem hk
  exact lv_iinc (k := j) hexec hb hdg h hj rfl hn rfl kk
theorem wp_iinc {i : Nat} {n : Int} {x v : Int32} {lv' : List (Nat × Value)} (hd : nx Y k = some (pc, .iinc i n, 3)) (hg : lg lv i = some (.int x)) (hv : x + Int32.ofInt n = v) (hn : i < Y.2.2.2.1) (hl : (i, Value.int v) :: lv.filter (fun q => !(q.1 == i) && !(q.1 + 1 == i && q.2.category == 2)) = lv')
    (kk : WP G Y R QQ N (k + 1) lv' st w) : WP G Y R QQ N k lv st w := by
  intro p e s m args below meth c C H locs ls hr hS hh
  obtain ⟨hx, hb, hrt, hml, hown, hts, hlk, hnm, hK, hO, hc⟩ := id C
  obtain ⟨h1, h2⟩ := nx_dec hc hd
  refine lv_iinc2 (x := x) hx hb h1 hh (List.mem_map_of_mem (f := fun q : Nat × Value => (q.1, rv G q.2)) (lg_mem hg)) hn (fun ls hh2 => ?_)
  rw [rvl_cat, hv] at hh2
  have K := kk p e s m args below meth c C H locs ls hr hS (by rw [← hl]; exact hh2)
  rw [h2] at K
  exact K
theorem wp_dup {va : Value} (hd : nx Y k = some (pc, .dup, 1)) (hv : va.category = 1)
    (kk : WP G Y R QQ N (k + 1) lv (va :: va :: st) w) : WP G Y R QQ N k lv (va :: st) w := by
  intro p e s m args below meth c C H locs ls hr hS hh
  obtain ⟨hx, hb, hrt, hml, hown, hts, hlk, hnm, hK, hO, hc⟩ := id C
  obtain ⟨h1, h2⟩ := nx_dec hc hd
  have K := kk p e s m args below meth c C H locs ls hr hS hh
  rw [h2] at K
  exact lv_dup hx hb h1 ((rv_cat G va).trans hv) K
theorem wp_pop {va : Value} (hd : nx Y k = some (pc, .pop, 1)) (hv : va.category = 1)
    (kk : WP G Y R QQ N (k + 1) lv (st) w) : WP G Y R QQ N k lv (va :: st) w := by
  intro p e s m args below meth c C H locs ls hr hS hh
  obtain ⟨hx, hb, hrt, hml, hown, hts, hlk, hnm, hK, hO, hc⟩ := id C
  obtain ⟨h1, h2⟩ := nx_dec hc hd
  have K := kk p e s m args below meth c C H locs ls hr hS hh
  rw [h2] at K
  exact lv_pop hx hb h1 ((rv_cat G va).trans hv) K
theorem wp_dup2 {va vb : Value} (hd : nx Y k = some (pc, .dup2, 1)) (hv : va.category = 1) (hv2 : vb.category = 1)
    (kk : WP G Y R QQ N (k + 1) lv (va :: vb :: va :: vb :: st) w) : WP G Y R QQ N k lv (va :: vb :: st) w := by
  intro p e s m args below meth c C H locs ls hr hS hh
  obtain ⟨hx, hb, hrt, hml, hown, hts, hlk, hnm, hK, hO, hc⟩ := id C
  obtain ⟨h1, h2⟩ := nx_dec hc hd
  have K := kk p e s m args below meth c C H locs ls hr hS hh
  rw [h2] at K
  exact lv_dup2_11 hx hb h1 ((rv_cat G va).trans hv) ((rv_cat G vb).trans hv2) K
theorem wp_if_eq {x : Int32} {off : Int} (j : Nat) (hd : nx Y k = some (pc, .ifCond .eq off, 3)) (hj : (pcO Y k : Int) + off = (pcO Y j : Int))
    (kt : x = 0 → WP G Y R QQ N j lv st w) (kf : ¬ x = 0 → WP G Y R QQ N (k + 1) lv st w) : WP G Y R QQ N k lv (.int x :: st) w := by
  intro p e s m args below meth c C H locs ls hr hS hh
  obtain ⟨hx, hb, hrt, hml, hown, hts, hlk, hnm, hK, hO, hc⟩ := id C
  obtain ⟨h1, h2⟩ := nx_dec hc hd
  refine lv_if_eq hx hb h1 hj (fun h => kt h p e s m args below meth c C H locs ls hr hS hh) (fun h => ?_)
  have K := kf h p e s m args below meth c C H locs ls hr hS hh
  rw [h2] at K
  exact K
theorem wp_icmp_eq {x y : Int32} {off : Int} (j : Nat) (hd : nx Y k = some (pc, .if_icmp .eq off, 3)) (hj : (pcO Y k : Int) + off = (pcO Y j : Int))
    (kt : x = y → WP G Y R QQ N j lv st w) (kf : ¬ x = y → WP G Y R QQ N (k + 1) lv st w) : WP G Y R QQ N k lv (.int y :: .int x :: st) w := by
  intro p e s m args below meth c C H locs ls hr hS hh
  obtain ⟨hx, hb, hrt, hml, hown, hts, hlk, hnm, hK, hO, hc⟩ := id C
  obtain ⟨h1, h2⟩ := nx_dec hc hd
  refine lv_icmp_eq hx hb h1 hj (fun h => kt h p e s m args below meth c C H locs ls hr hS hh) (fun h => ?_)
  have K := kf h p e s m args below meth c C H locs ls hr hS hh
  rw [h2] at K
  exact K
theorem wp_if_ne {x : Int32} {off : Int} (j : Nat) (hd : nx Y k = some (pc, .ifCond .ne off, 3)) (hj : (pcO Y k : Int) + off = (pcO Y j : Int))
    (kt : ¬ x = 0 → WP G Y R QQ N j lv st w) (kf : x = 0 → WP G Y R QQ N (k + 1) lv st w) : WP G Y R QQ N k lv (.int x :: st) w := by
  intro p e s m args below meth c C H locs ls hr hS hh
  obtain ⟨hx, hb, hrt, hml, hown, hts, hlk, hnm, hK, hO, hc⟩ := id C
  obtain ⟨h1, h2⟩ := nx_dec hc hd
  refine lv_if_ne hx hb h1 hj (fun h => kt h p e s m args below meth c C H locs ls hr hS hh) (fun h => ?_)
  have K := kf h p e s m args below meth c C H locs ls hr hS hh
  rw [h2] at K
  exact K
theorem wp_icmp_ne {x y : Int32} {off : Int} (j : Nat) (hd : nx Y k = some (pc, .if_icmp .ne off, 3)) (hj : (pcO Y k : Int) + off = (pcO Y j : Int))
    (kt : ¬ x = y → WP G Y R QQ N j lv st w) (kf : x = y → WP G Y R QQ N (k + 1) lv st w) : WP G Y R QQ N k lv (.int y :: .int x :: st) w := by
  intro p e s m args below meth c C H locs ls hr hS hh
  obtain ⟨hx, hb, hrt, hml, hown, hts, hlk, hnm, hK, hO, hc⟩ := id C
  obtain ⟨h1, h2⟩ := nx_dec hc hd
  refine lv_icmp_ne hx hb h1 hj (fun h => kt h p e s m args below meth c C H locs ls hr hS hh) (fun h => ?_)
  have K := kf h p e s m args below meth c C H locs ls hr hS hh
  rw [h2] at K
  exact K
theorem wp_if_lt {x : Int32} {off : Int} (j : Nat) (hd : nx Y k = some (pc, .ifCond .lt off, 3)) (hj : (pcO Y k : Int) + off = (pcO Y j : Int))
    (kt : x < 0 → WP G Y R QQ N j lv st w) (kf : ¬ x < 0 → WP G Y R QQ N (k + 1) lv st w) : WP G Y R QQ N k lv (.int x :: st) w := by
  intro p e s m args below meth c C H locs ls hr hS hh
  obtain ⟨hx, hb, hrt, hml, hown, hts, hlk, hnm, hK, hO, hc⟩ := id C
  obtain ⟨h1, h2⟩ := nx_dec hc hd
  refine lv_if_lt hx hb h1 hj (fun h => kt h p e s m args below meth c C H locs ls hr hS hh) (fun h => ?_)
  have K := kf h p e s m args below meth c C H locs ls hr hS hh
  rw [h2] at K
  exact K
theorem wp_icmp_lt {x y : Int32} {off : Int} (j : Nat) (hd : nx Y k = some (pc, .if_icmp .lt off, 3)) (hj : (pcO Y k : Int) + off = (pcO Y j : Int))
    (kt : x < y → WP G Y R QQ N j lv st w) (kf : ¬ x < y → WP G Y R QQ N (k + 1) lv st w) : WP G Y R QQ N k lv (.int y :: .int x :: st) w := by
  intro p e s m args below meth c C H locs ls hr hS hh
  obtain ⟨hx, hb, hrt, hml, hown, hts, hlk, hnm, hK, hO, hc⟩ := id C
  obtain ⟨h1, h2⟩ := nx_dec hc hd
  refine lv_icmp_lt hx hb h1 hj (fun h => kt h p e s m args below meth c C H locs ls hr hS hh) (fun h => ?_)
  have K := kf h p e s m args below meth c C H locs ls hr hS hh
  rw [h2] at K
  exact K
theorem wp_if_ge {x : Int32} {off : Int} (j : Nat) (hd : nx Y k = some (pc, .ifCond .ge off, 3)) (hj : (pcO Y k : Int) + off = (pcO Y j : Int))
    (kt : 0 ≤ x → WP G Y R QQ N j lv st w) (kf : ¬ 0 ≤ x → WP G Y R QQ N (k + 1) lv st w) : WP G Y R QQ N k lv (.int x :: st) w := by
  intro p e s m args below meth c C H locs ls hr hS hh
  obtain ⟨hx, hb, hrt, hml, hown, hts, hlk, hnm, hK, hO, hc⟩ := id C
  obtain ⟨h1, h2⟩ := nx_dec hc hd
  refine lv_if_ge hx hb h1 hj (fun h => kt h p e s m args below meth c C H locs ls hr hS hh) (fun h => ?_)
  have K := kf h p e s m args below meth c C H locs ls hr hS hh
  rw [h2] at K
  exact K
theorem wp_icmp_ge {x y : Int32} {off : Int} (j : Nat) (hd : nx Y k = some (pc, .if_icmp .ge off, 3)) (hj : (pcO Y k : Int) + off = (pcO Y j : Int))
    (kt : y ≤ x → WP G Y R QQ N j lv st w) (kf : ¬ y ≤ x → WP G Y R QQ N (k + 1) lv st w) : WP G Y R QQ N k lv (.int y :: .int x :: st) w := by
  intro p e s m args below meth c C H locs ls hr hS hh
  obtain ⟨hx, hb, hrt, hml, hown, hts, hlk, hnm, hK, hO, hc⟩ := id C
  obtain ⟨h1, h2⟩ := nx_dec hc hd
  refine lv_icmp_ge hx hb h1 hj (fun h => kt h p e s m args below meth c C H locs ls hr hS hh) (fun h => ?_)
  have K := kf h p e s m args below meth c C H locs ls hr hS hh
  rw [h2] at K
  exact K
theorem wp_if_gt {x : Int32} {off : Int} (j : Nat) (hd : nx Y k = some (pc, .ifCond .gt off, 3)) (hj : (pcO Y k : Int) + off = (pcO Y j : Int))
    (kt : 0 < x → WP G Y R QQ N j lv st w) (kf : ¬ 0 < x → WP G Y R QQ N (k + 1) lv st w) : WP G Y R QQ N k lv (.int x :: st) w := by
  intro p e s m args below meth c C H locs ls hr hS hh
  obtain ⟨hx, hb, hrt, hml, hown, hts, hlk, hnm, hK, hO, hc⟩ := id C
  obtain ⟨h1, h2⟩ := nx_dec hc hd
  refine lv_if_gt hx hb h1 hj (fun h => kt h p e s m args below meth c C H locs ls hr hS hh) (fun h => ?_)
  have K := kf h p e s m args below meth c C H locs ls hr hS hh
  rw [h2] at K
  exact K
theorem wp_icmp_gt {x y : Int32} {off : Int} (j : Nat) (hd : nx Y k = some (pc, .if_icmp .gt off, 3)) (hj : (pcO Y k : Int) + off = (pcO Y j : Int))
    (kt : y < x → WP G Y R QQ N j lv st w) (kf : ¬ y < x → WP G Y R QQ N (k + 1) lv st w) : WP G Y R QQ N k lv (.int y :: .int x :: st) w := by
  intro p e s m args below meth c C H locs ls hr hS hh
  obtain ⟨hx, hb, hrt, hml, hown, hts, hlk, hnm, hK, hO, hc⟩ := id C
  obtain ⟨h1, h2⟩ := nx_dec hc hd
  refine lv_icmp_gt hx hb h1 hj (fun h => kt h p e s m args below meth c C H locs ls hr hS hh) (fun h => ?_)
  have K := kf h p e s m args below meth c C H locs ls hr hS hh
  rw [h2] at K
  exact K
theorem wp_if_le {x : Int32} {off : Int} (j : Nat) (hd : nx Y k = some (pc, .ifCond .le off, 3)) (hj : (pcO Y k : Int) + off = (pcO Y j : Int))
    (kt : x ≤ 0 → WP G Y R QQ N j lv st w) (kf : ¬ x ≤ 0 → WP G Y R QQ N (k + 1) lv st w) : WP G Y R QQ N k lv (.int x :: st) w := by
  intro p e s m args below meth c C H locs ls hr hS hh
  obtain ⟨hx, hb, hrt, hml, hown, hts, hlk, hnm, hK, hO, hc⟩ := id C
  obtain ⟨h1, h2⟩ := nx_dec hc hd
  refine lv_if_le hx hb h1 hj (fun h => kt h p e s m args below meth c C H locs ls hr hS hh) (fun h => ?_)
  have K := kf h p e s m args below meth c C H locs ls hr hS hh
  rw [h2] at K
  exact K
theorem wp_icmp_le {x y : Int32} {off : Int} (j : Nat) (hd : nx Y k = some (pc, .if_icmp .le off, 3)) (hj : (pcO Y k : Int) + off = (pcO Y j : Int))
    (kt : x ≤ y → WP G Y R QQ N j lv st w) (kf : ¬ x ≤ y → WP G Y R QQ N (k + 1) lv st w) : WP G Y R QQ N k lv (.int y :: .int x :: st) w := by
  intro p e s m args below meth c C H locs ls hr hS hh
  obtain ⟨hx, hb, hrt, hml, hown, hts, hlk, hnm, hK, hO, hc⟩ := id C
  obtain ⟨h1, h2⟩ := nx_dec hc hd
  refine lv_icmp_le hx hb h1 hj (fun h => kt h p e s m args below meth c C H locs ls hr hS hh) (fun h => ?_)
  have K := kf h p e s m args below meth c C H locs ls hr hS hh
  rw [h2] at K
  exact K
theorem wp_goto {off : Int} (j : Nat) (hd : lAt (tb Y) k = some (pc, .goto off, 3)) (hj : (pcO Y k : Int) + off = (pcO Y j : Int)) (kk : WP G Y R QQ N j lv st w) : WP G Y R QQ N k lv st w := by
  intro p e s m args below meth c C H locs ls hr hS hh
  obtain ⟨hx, hb, hrt, hml, hown, hts, hlk, hnm, hK, hO, hc⟩ := id C
  exact lv_goto hx hb (at_dec hc hd) hj (kk p e s m args below meth c C H locs ls hr hS hh)
theorem wp_tsOut {dflt lo hi : Int} {offs : Array Int} {len : Nat} {x : Int32} (j : Nat) (hd : lAt (tb Y) k = some (pc, .tableswitch dflt lo hi offs, len)) (h : x.toInt < lo ∨ hi < x.toInt) (hj : (pcO Y k : Int) + dflt = (pcO Y j : Int)) (kk : WP G Y R QQ N j lv st w) : WP G Y R QQ N k lv (.int x :: st) w := by
  intro p e s m args below meth c C H locs ls hr hS hh
  obtain ⟨hx, hb, hrt, hml, hown, hts, hlk, hnm, hK, hO, hc⟩ := id C
  exact lv_tableOut hx hb (at_dec hc hd) h hj (kk p e s m args below meth c C H locs ls hr hS hh)
theorem wp_tsIn {dflt lo hi : Int} {offs : Array Int} {len : Nat} {x : Int32} {off : Int} (j : Nat) (hd : lAt (tb Y) k = some (pc, .tableswitch dflt lo hi offs, len)) (h1 : ¬ x.toInt < lo) (h2 : ¬ hi < x.toInt) (ho : offs[(x.toInt - lo).toNat]? = some off) (hj : (pcO Y k : Int) + off = (pcO Y j : Int)) (kk : WP G Y R QQ N j lv st w) : WP G Y R QQ N k lv (.int x :: st) w := by
  intro p e s m args below meth c C H locs ls hr hS hh
  obtain ⟨hx, hb, hrt, hml, hown, hts, hlk, hnm, hK, hO, hc⟩ := id C
  exact lv_tableIn hx hb (at_dec hc hd) h1 h2 ho hj (kk p e s m args below meth c C H locs ls hr hS hh)
theorem wp_ldc {i : Nat} {v : Int32} (hd : nx Y k = some (pc, .ldc i, 2)) (hq : Cond.constant (RN Y.1) i v ∈ goodL) (kk : WP G Y R QQ N (k + 1) lv (.int v :: st) w) : WP G Y R QQ N k lv st w := by
  intro p e s m args below meth c C H locs ls hr hS hh
  obtain ⟨hx, hb, hrt, hml, hown, hts, hlk, hnm, hK, hO, hc⟩ := id C
  obtain ⟨h1, h2⟩ := nx_dec hc hd
  have K := kk p e s m args below meth c C H locs ls hr hS hh
  rw [h2] at K
  exact lv_ldc hx hb hown (hts _ hq) h1 K
theorem wp_ldc_w {i : Nat} {v : Int32} (hd : nx Y k = some (pc, .ldc_w i, 3)) (hq : Cond.constant (RN Y.1) i v ∈ goodL) (kk : WP G Y R QQ N (k + 1) lv (.int v :: st) w) : WP G Y R QQ N k lv st w := by
  intro p e s m args below meth c C H locs ls hr hS hh
  obtain ⟨hx, hb, hrt, hml, hown, hts, hlk, hnm, hK, hO, hc⟩ := id C
  obtain ⟨h1, h2⟩ := nx_dec hc hd
  have K := kk p e s m args below meth c C H locs ls hr hS hh
  rw [h2] at K
  exact lv_ldcw hx hb hown (hts _ hq) h1 K
theorem wp_ldc2 {i : Nat} {v : Int64} (hd : nx Y k = some (pc, .ldc2_w i, 3)) (hq : Cond.constantLong (RN Y.1) i v ∈ goodL) (kk : WP G Y R QQ N (k + 1) lv (.long v :: st) w) : WP G Y R QQ N k lv st w := by
  intro p e s m args below meth c C H locs ls hr hS hh
  obtain ⟨hx, hb, hrt, hml, hown, hts, hlk, hnm, hK, hO, hc⟩ := id C
  obtain ⟨h1, h2⟩ := nx_dec hc hd
  have K := kk p e s m args below meth c C H locs ls hr hS hh
  rw [h2] at K
  exact lv_ldc2 hx hb hown (hts _ hq) h1 K
theorem ra_str (G : Gl) (i : Nat) : ra G (1000001 + i) = gK G i := by
  unfold ra
  rw [if_neg (by omega), if_neg (by omega), Nat.add_sub_cancel_left]
theorem ra_scr (G : Gl) : ra G 1000000 = (gS G).1 := by
  unfold ra
  rw [if_neg (by omega), if_pos rfl]
/-- a text's constant: the i-th of the ten words -/
theorem wp_ldcS {i j : Nat} {tx : String} (hd : nx Y k = some (pc, .ldc i, 2)) (hq : (Y.1, i, tx, j) ∈ STR) (kk : WP G Y R QQ N (k + 1) lv (.ref (1000001 + j) :: st) w) : WP G Y R QQ N k lv st w := by
  intro p e s m args below meth c C H locs ls hr hS hh
  obtain ⟨hx, hb, hrt, hml, hown, hts, hlk, hnm, hK, hO, hc⟩ := id C
  obtain ⟨h1, h2⟩ := nx_dec hc hd
  have K := kk p e s m args below meth c C H locs ls hr hS hh
  rw [h2] at K
  have hz := hO.2.2.2.1 _ hq
  rw [show (Value.ref (1000001 + j) :: st).map (rv G) = Value.ref (gK G j) :: st.map (rv G) by simp only [List.map_cons, rv, ra_str]] at K
  exact va_ldcS hx hb hown hz h1 K
/-- fields -/
theorem cell_obj {a ci : Nat} (h : lAt shL a = some (.inr ci)) : cellE G w a = .inr (ci, (List.range (NF ci)).map (fun k => fldV G w a k (kd (tyT ci k)))) := by
  unfold cellE
  rw [h]
theorem cell_arr {a t n : Nat} (h : lAt shL a = some (.inl (t, n))) : cellE G w a = .inl (gA G t, n, arrC G w a t) := by
  unfold cellE
  rw [h]
theorem fld_at {a ci f : Nat} (h : f < NF ci) : ((List.range (NF ci)).map (fun k => fldV G w a k (kd (tyT ci k))))[f]? = some (fldV G w a f (kd (tyT ci f))) := by
  rw [List.getElem?_map, List.getElem?_range h]
  rfl
theorem wp_get {a i ci f : Nat} {v : Value} (hd : nx Y k = some (pc, .getfield i, 3)) (hf : fl Y.1 i = some (ci, f)) (hs : shp N.1 a = some (.inr ci)) (hv : ∀ G, fldV G w a f (kd (tyT ci f)) = rv G v) (kk : WP G Y R QQ N (k + 1) lv (v :: st) w) : WP G Y R QQ N k lv (.ref a :: st) w := by
  intro p e s m args below meth c C H locs ls hr hS hh
  obtain ⟨hx, hb, hrt, hml, hown, hts, hlk, hnm, hK, hO, hc⟩ := id C
  obtain ⟨h1, h2⟩ := nx_dec hc hd
  obtain ⟨g1, g2, g3⟩ := fl_ok hf
  obtain ⟨s1, s2, s3⟩ := shp_spec hs
  have K := kk p e s m args below meth c C H locs ls hr hS hh
  rw [h2] at K
  have he := cells_at (G := G) (w := w) s1
  rw [cell_obj s2] at he
  show W _ _ _ _ _ _ _ _ _ _ _ _ _ _ _ (F0 m (pcO Y k) ls (.ref (ra G a) :: st.map (rv G)))
  rw [ra_w s3]
  refine va_get hx hb hts (lay_good ci g2) hown hK hr.2 a he (vwCl_at ci g2) f g3 (hts _ g1) (fun _ h => h) (fld_at g3) h1 ?_
  rw [hv G]
  exact K
theorem wp_geti {a i ci f : Nat} (hd : nx Y k = some (pc, .getfield i, 3)) (hf : fl Y.1 i = some (ci, f)) (hs : shp N.1 a = some (.inr ci)) (ht : kd (tyT ci f) = 0) (kk : WP G Y R QQ N (k + 1) lv (.int (w.1 a f) :: st) w) : WP G Y R QQ N k lv (.ref a :: st) w :=
  wp_get hd hf hs (fun G => by rw [ht]; rfl) kk
theorem wp_getl {a i ci f : Nat} (hd : nx Y k = some (pc, .getfield i, 3)) (hf : fl Y.1 i = some (ci, f)) (hs : shp N.1 a = some (.inr ci)) (ht : kd (tyT ci f) = 1) (kk : WP G Y R QQ N (k + 1) lv (.long (w.2.1 a f) :: st) w) : WP G Y R QQ N k lv (.ref a :: st) w :=
  wp_get hd hf hs (fun G => by rw [ht]; rfl) kk
theorem wp_getr {a i ci f b : Nat} (hd : nx Y k = some (pc, .getfield i, 3)) (hf : fl Y.1 i = some (ci, f)) (hs : shp N.1 a = some (.inr ci)) (ht : kd (tyT ci f) = 2) (hr : w.2.2 a f = some b) (kk : WP G Y R QQ N (k + 1) lv (.ref b :: st) w) : WP G Y R QQ N k lv (.ref a :: st) w :=
  wp_get hd hf hs (fun G => by rw [ht]; show va_rf _ = _; rw [hr]; rfl) kk
theorem fld_set {w w' : mW} {a ci f : Nat} {v : Value} (h1 : fldV G w' a f (kd (tyT ci f)) = v) (h2 : ∀ j, j ≠ f → fldV G w' a j (kd (tyT ci j)) = fldV G w a j (kd (tyT ci j))) : ((List.range (NF ci)).map (fun k => fldV G w a k (kd (tyT ci k)))).set f v = (List.range (NF ci)).map (fun k => fldV G w' a k (kd (tyT ci k))) := by
  apply List.ext_getElem?
  intro j
  by_cases hj : j < NF ci
  · rw [fld_at hj]
    by_cases hi : j = f
    · subst hi
      rw [List.getElem?_set_self (by simpa using hj), h1]
    · rw [List.getElem?_set_ne (Ne.symm hi), fld_at hj, h2 j hi]
  · rw [List.getElem?_eq_none (by simpa using Nat.le_of_not_lt hj), List.getElem?_eq_none (by simpa using Nat.le_of_not_lt hj)]
/-- a store into a field: the new world w' -/
theorem wp_put {a i ci f : Nat} {v : Value} {w' : mW} (hd : nx Y k = some (pc, .putfield i, 3)) (hf : fl Y.1 i = some (ci, f)) (hs : shp N.1 a = some (.inr ci)) (hfin : (TT ci f).2.2.2 = false ∨ ((TT ci f).2.2.2 = true ∧ Y.2.1.name = "<init>" ∧ (TT ci f).1 = RN Y.1))
    (hn : narrow (tyT ci f) (rv G v) = rv G v) (hfit : fits (tyT ci f) (rv G v) = true)
    (hv : fldV G w' a f (kd (tyT ci f)) = rv G v) (ho : ∀ j, j ≠ f → fldV G w' a j (kd (tyT ci j)) = fldV G w a j (kd (tyT ci j))) (hoo : ∀ j, j ≠ a → cellE G w' j = cellE G w j)
    (kk : WP G Y R QQ N (k + 1) lv st w') : WP G Y R QQ N k lv (v :: .ref a :: st) w := by
  intro p e s m args below meth c C H locs ls hr hS hh
  obtain ⟨hx, hb, hrt, hml, hown, hts, hlk, hnm, hK, hO, hc⟩ := id C
  obtain ⟨h1, h2⟩ := nx_dec hc hd
  obtain ⟨g1, g2, g3⟩ := fl_ok hf
  obtain ⟨s1, s2, s3⟩ := shp_spec hs
  have he := cells_at (G := G) (w := w) s1
  rw [cell_obj s2] at he
  show W _ _ _ _ _ _ _ _ _ _ _ _ _ _ _ (F0 m (pcO Y k) ls (rv G v :: .ref (ra G a) :: st.map (rv G)))
  rw [ra_w s3]
  have key : ∀ (H1 : Heap) (locs1 : List Loc), va_P (gD G) vwCl ((cellsE G N.1 w).set a (gb G + a, .inr (ci, ((List.range (NF ci)).map (fun k => fldV G w a k (kd (tyT ci k)))).set f (rv G v)))) H1 → H1.size = H.size → va_S (gX G) s.heap H1 locs1 → W p G.1 e R s m args below meth c H1 locs1 N.2.1 N.2.2 (QQ below args s) (F0 m (pcO Y k + 3) ls (st.map (rv G))) := by
    intro H1 locs1 hP1 hz hS1
    rw [fld_set hv ho] at hP1
    rw [cells_set (w' := w') (by rw [cell_obj s2]) hoo] at hP1
    have K := kk p e s m args below meth c C H1 locs1 ls ⟨hz.trans hr.1, hP1⟩ hS1 hh
    rw [h2] at K
    exact K
  have hap := va_apart (own := RN Y.1) hts (lay_good ci g2) (tyT ci) (ty_all ci g2) (nm_all ci g2) hK (vwCl_at ci g2)
  obtain ⟨r, hr1, cell, q1, q2, q3, q4⟩ := hr.2 a _ he
  have hre : r = (RN ci, TT ci, NF ci) := Option.some.inj (hr1.symm.trans (vwCl_at ci g2))
  subst hre
  obtain ⟨hSl, hfc, kC, hkC, hkind⟩ := hK.1 ci _ (vwCl_at ci g2)
  obtain ⟨cf, kf, fi, fd, hi, hsl⟩ := hSl f g3
  have hlay := hts _ (lay_good ci g2 _ (u_in_lay g3))
  have hst := (u_facts hfc hkC (u_lays hts (lay_good ci g2) g3) hi).1
  have hlen : f < ((List.range (NF ci)).map (fun k => fldV G w a k (kd (tyT ci k)))).length := by simpa using g3
  unfold u_lay at hlay
  rcases hfin with hfin | ⟨hfin, hin2, hdecl⟩
  · rw [if_neg (by rw [hfin]; decide)] at hlay
    have h6 := u_store hfc hkC hkind hlay hi (ty_all ci g2 f g3) hn hfit
    refine W.putK hx hb (f := fd) ⟨hown, hts _ g1, ⟨_, _, _, hi⟩, hst⟩ (by rw [q2]; exact h6) q1 q3 (by rw [hsl]; exact k2_hasslot (q4 f g3)) rfl rfl h1 fun H' e1 e2 e3 => ?_
    rw [hsl] at e1 ⊢
    exact key H' _ (hr.2.set cells_D he ⟨_, vwCl_at ci g2, t_OB.to (V := updV (vp_V ((List.range (NF ci)).map (fun k => fldV G w a k (kd (tyT ci k))))) f (rv G v)) ⟨_, e1, q2, q3, t_set q4 hap g3 (rv G v)⟩ (fun j _ => vp_updV_set hlen (rv G v) j)⟩ e3) e2 (hS.put e2 e3 (cells_D.2 a _ he))
  · rw [if_pos hfin] at hlay
    have hcf : m.cls = cf := by
      obtain ⟨_, _, c', _, _, _, -, -, hf', -, -, -, hown2, -⟩ := Cond.laysFinal_spec hlay
      have e1 : c' = cf := by have := hi.symm.trans hf'; simp at this; exact this.1.symm
      rw [hdecl] at hown2
      rw [← e1]; exact Option.some.inj (hown.symm.trans hown2)
    have h6 := u_fits hfc hkC hkind (Or.inr hlay) hi (ty_all ci g2 f g3) hn hfit
    refine W.putFinK hx hb hown (hts _ g1) hi hst hcf (hnm.trans hin2) (by rw [q2]; exact h6) q1 q3 (by rw [hsl]; exact k2_hasslot (q4 f g3)) rfl rfl h1 fun H' e1 e2 e3 => ?_
    rw [hsl] at e1 ⊢
    exact key H' _ (hr.2.set cells_D he ⟨_, vwCl_at ci g2, t_OB.to (V := updV (vp_V ((List.range (NF ci)).map (fun k => fldV G w a k (kd (tyT ci k))))) f (rv G v)) ⟨_, e1, q2, q3, t_set q4 hap g3 (rv G v)⟩ (fun j _ => vp_updV_set hlen (rv G v) j)⟩ e3) e2 (hS.put e2 e3 (cells_D.2 a _ he))
theorem fld_o {w w' : mW} {a k t : Nat} (h1 : w'.1 a k = w.1 a k) (h2 : w'.2.1 a k = w.2.1 a k) (h3 : w'.2.2 a k = w.2.2 a k) : fldV G w' a k t = fldV G w a k t := by
  unfold fldV
  rw [h1, h2, h3]
theorem wp_puti {a i ci f : Nat} {v : Int32} (hd : nx Y k = some (pc, .putfield i, 3)) (hf : fl Y.1 i = some (ci, f)) (hs : shp N.1 a = some (.inr ci)) (hfin : (TT ci f).2.2.2 = false ∨ ((TT ci f).2.2.2 = true ∧ Y.2.1.name = "<init>" ∧ (TT ci f).1 = RN Y.1)) (ht : tyT ci f = .int)
    (kk : WP G Y R QQ N (k + 1) lv st (sI w a f v)) : WP G Y R QQ N k lv (.int v :: .ref a :: st) w :=
  wp_put (w' := sI w a f v) hd hf hs hfin (by rw [ht]; rfl) (by rw [ht]; rfl) (by rw [ht]; simp [fldV, kd, sI, rv]) (fun j hj => fld_o (by simp [sI, hj]) rfl rfl) (fun j hj => cell_other (sI_o hj) rfl rfl) kk
theorem wp_putz {a i ci f : Nat} {v : Int32} (hd : nx Y k = some (pc, .putfield i, 3)) (hf : fl Y.1 i = some (ci, f)) (hs : shp N.1 a = some (.inr ci)) (hfin : (TT ci f).2.2.2 = false ∨ ((TT ci f).2.2.2 = true ∧ Y.2.1.name = "<init>" ∧ (TT ci f).1 = RN Y.1)) (ht : tyT ci f = .boolean) (hv : v = 0 ∨ v = 1)
    (kk : WP G Y R QQ N (k + 1) lv st (sI w a f v)) : WP G Y R QQ N k lv (.int v :: .ref a :: st) w :=
  wp_put (w' := sI w a f v) hd hf hs hfin (by rw [ht]; rcases hv with rfl | rfl <;> rfl) (by rw [ht]; rcases hv with rfl | rfl <;> rfl) (by rw [ht]; simp [fldV, kd, sI, rv]) (fun j hj => fld_o (by simp [sI, hj]) rfl rfl) (fun j hj => cell_other (sI_o hj) rfl rfl) kk
theorem wp_putl {a i ci f : Nat} {v : Int64} (hd : nx Y k = some (pc, .putfield i, 3)) (hf : fl Y.1 i = some (ci, f)) (hs : shp N.1 a = some (.inr ci)) (hfin : (TT ci f).2.2.2 = false ∨ ((TT ci f).2.2.2 = true ∧ Y.2.1.name = "<init>" ∧ (TT ci f).1 = RN Y.1)) (ht : tyT ci f = .long)
    (kk : WP G Y R QQ N (k + 1) lv st (sL w a f v)) : WP G Y R QQ N k lv (.long v :: .ref a :: st) w :=
  wp_put (w' := sL w a f v) hd hf hs hfin (by rw [ht]; rfl) (by rw [ht]; rfl) (by rw [ht]; simp [fldV, kd, sL, rv]) (fun j hj => fld_o rfl (by simp [sL, hj]) rfl) (fun j hj => cell_other rfl (sL_o hj) rfl) kk
theorem wp_putr {a i ci f b : Nat} (hd : nx Y k = some (pc, .putfield i, 3)) (hf : fl Y.1 i = some (ci, f)) (hs : shp N.1 a = some (.inr ci)) (hfin : (TT ci f).2.2.2 = false ∨ ((TT ci f).2.2.2 = true ∧ Y.2.1.name = "<init>" ∧ (TT ci f).1 = RN Y.1)) (ht : kd (tyT ci f) = 2)
    (kk : WP G Y R QQ N (k + 1) lv st (sR w a f (some b))) : WP G Y R QQ N k lv (.ref b :: .ref a :: st) w := by
  have hn : narrow (tyT ci f) (.ref (ra G b)) = .ref (ra G b) ∧ fits (tyT ci f) (.ref (ra G b)) = true := by
    cases hty : tyT ci f <;> simp [hty, kd] at ht <;> exact ⟨rfl, rfl⟩
  exact wp_put (w' := sR w a f (some b)) hd hf hs hfin hn.1 hn.2 (by rw [ht]; simp [fldV, sR, rv, va_rf]) (fun j hj => fld_o rfl rfl (by simp [sR, hj])) (fun j hj => cell_other rfl rfl (sR_o hj)) kk
/-- arrays -/
theorem arr_at {n a t len : Nat} (h : shp n a = some (.inl (t, len))) : (cellsE G n w)[a]? = some (gb G + a, .inl (gA G t, len, arrC G w a t)) ∧ ra G a = gb G + a := by
  obtain ⟨s1, s2, s3⟩ := shp_spec h
  rw [cells_at s1, cell_arr s2]
  exact ⟨rfl, ra_w s3⟩
theorem wp_iald {a len : Nat} {i : Int32} (hd : nx Y k = some (pc, .iaload, 1)) (hs : shp N.1 a = some (.inl (0, len))) (hi : vp_in i len) (kk : WP G Y R QQ N (k + 1) lv (.int (w.1 a i.toNatClampNeg) :: st) w) : WP G Y R QQ N k lv (.int i :: .ref a :: st) w := by
  intro p e s m args below meth c C H locs ls hr hS hh
  obtain ⟨hx, hb, hrt, hml, hown, hts, hlk, hnm, hK, hO, hc⟩ := id C
  obtain ⟨h1, h2⟩ := nx_dec hc hd
  obtain ⟨a1, a2⟩ := arr_at (G := G) (w := w) hs
  have K := kk p e s m args below meth c C H locs ls hr hS hh
  rw [h2] at K
  show W _ _ _ _ _ _ _ _ _ _ _ _ _ _ _ (F0 m (pcO Y k) ls (.int i :: .ref (ra G a) :: st.map (rv G)))
  rw [a2]
  exact va_iald hx hb hK hr.2 a 0 a1 rfl hi h1 K
theorem wp_bald {a len : Nat} {i : Int32} (hd : nx Y k = some (pc, .baload, 1)) (hs : shp N.1 a = some (.inl (1, len))) (hi : vp_in i len) (kk : WP G Y R QQ N (k + 1) lv (.int (w.1 a i.toNatClampNeg) :: st) w) : WP G Y R QQ N k lv (.int i :: .ref a :: st) w := by
  intro p e s m args below meth c C H locs ls hr hS hh
  obtain ⟨hx, hb, hrt, hml, hown, hts, hlk, hnm, hK, hO, hc⟩ := id C
  obtain ⟨h1, h2⟩ := nx_dec hc hd
  obtain ⟨a1, a2⟩ := arr_at (G := G) (w := w) hs
  have K := kk p e s m args below meth c C H locs ls hr hS hh
  rw [h2] at K
  show W _ _ _ _ _ _ _ _ _ _ _ _ _ _ _ (F0 m (pcO Y k) ls (.int i :: .ref (ra G a) :: st.map (rv G)))
  rw [a2]
  exact va_bald hx hb hK hr.2 a 1 a1 rfl hi h1 K
theorem wp_zald {a len : Nat} {i : Int32} (hd : nx Y k = some (pc, .baload, 1)) (hs : shp N.1 a = some (.inl (2, len))) (hi : vp_in i len) (kk : WP G Y R QQ N (k + 1) lv (.int (w.1 a i.toNatClampNeg) :: st) w) : WP G Y R QQ N k lv (.int i :: .ref a :: st) w := by
  intro p e s m args below meth c C H locs ls hr hS hh
  obtain ⟨hx, hb, hrt, hml, hown, hts, hlk, hnm, hK, hO, hc⟩ := id C
  obtain ⟨h1, h2⟩ := nx_dec hc hd
  obtain ⟨a1, a2⟩ := arr_at (G := G) (w := w) hs
  have K := kk p e s m args below meth c C H locs ls hr hS hh
  rw [h2] at K
  show W _ _ _ _ _ _ _ _ _ _ _ _ _ _ _ (F0 m (pcO Y k) ls (.int i :: .ref (ra G a) :: st.map (rv G)))
  rw [a2]
  exact va_zald hx hb hK hr.2 a 2 a1 rfl hi h1 K
theorem wp_lald {a len : Nat} {i : Int32} (hd : nx Y k = some (pc, .laload, 1)) (hs : shp N.1 a = some (.inl (3, len))) (hi : vp_in i len) (kk : WP G Y R QQ N (k + 1) lv (.long (w.2.1 a i.toNatClampNeg) :: st) w) : WP G Y R QQ N k lv (.int i :: .ref a :: st) w := by
  intro p e s m args below meth c C H locs ls hr hS hh
  obtain ⟨hx, hb, hrt, hml, hown, hts, hlk, hnm, hK, hO, hc⟩ := id C
  obtain ⟨h1, h2⟩ := nx_dec hc hd
  obtain ⟨a1, a2⟩ := arr_at (G := G) (w := w) hs
  have K := kk p e s m args below meth c C H locs ls hr hS hh
  rw [h2] at K
  show W _ _ _ _ _ _ _ _ _ _ _ _ _ _ _ (F0 m (pcO Y k) ls (.int i :: .ref (ra G a) :: st.map (rv G)))
  rw [a2]
  exact va_lald hx hb hK hr.2 a 3 a1 rfl hi h1 K
theorem wp_aald {a len t b : Nat} {i : Int32} (hd : nx Y k = some (pc, .aaload, 1)) (hs : shp N.1 a = some (.inl (t, len))) (ht : t = 4 ∨ t = 5 ∨ t = 6) (hi : vp_in i len) (hb2 : w.2.2 a i.toNatClampNeg = some b) (kk : WP G Y R QQ N (k + 1) lv (.ref b :: st) w) : WP G Y R QQ N k lv (.int i :: .ref a :: st) w := by
  intro p e s m args below meth c C H locs ls hr hS hh
  obtain ⟨hx, hb, hrt, hml, hown, hts, hlk, hnm, hK, hO, hc⟩ := id C
  obtain ⟨h1, h2⟩ := nx_dec hc hd
  obtain ⟨a1, a2⟩ := arr_at (G := G) (w := w) hs
  have K := kk p e s m args below meth c C H locs ls hr hS hh
  rw [h2] at K
  show W _ _ _ _ _ _ _ _ _ _ _ _ _ _ _ (F0 m (pcO Y k) ls (.int i :: .ref (ra G a) :: st.map (rv G)))
  rw [a2]
  have e1 : va_rf ((w.2.2 a i.toNatClampNeg).map (ra G)) = rv G (.ref b) := by rw [hb2]; rfl
  rcases ht with rfl | rfl | rfl
  · exact va_aldq (f := fun k => (w.2.2 a k).map (ra G)) hx hb hK hr.2 a 4 a1 rfl hi h1 (by rw [e1]; exact K)
  · exact va_aldq (f := fun k => (w.2.2 a k).map (ra G)) hx hb hK hr.2 a 5 a1 rfl hi h1 (by rw [e1]; exact K)
  · exact va_aldq (f := fun k => (w.2.2 a k).map (ra G)) hx hb hK hr.2 a 6 a1 rfl hi h1 (by rw [e1]; exact K)
theorem wp_alen {a t len : Nat} {v : Int32} (hd : nx Y k = some (pc, .arraylength, 1)) (hs : shp N.1 a = some (.inl (t, len))) (ht : t < 7) (hv : Int32.ofNat len = v) (kk : WP G Y R QQ N (k + 1) lv (.int v :: st) w) : WP G Y R QQ N k lv (.ref a :: st) w := by
  intro p e s m args below meth c C H locs ls hr hS hh
  obtain ⟨hx, hb, hrt, hml, hown, hts, hlk, hnm, hK, hO, hc⟩ := id C
  obtain ⟨h1, h2⟩ := nx_dec hc hd
  obtain ⟨a1, a2⟩ := arr_at (G := G) (w := w) hs
  have K := kk p e s m args below meth c C H locs ls hr hS hh
  rw [h2] at K
  show W _ _ _ _ _ _ _ _ _ _ _ _ _ _ _ (F0 m (pcO Y k) ls (.ref (ra G a) :: st.map (rv G)))
  rw [a2]
  obtain ⟨ty, hty⟩ : ∃ ty, (gT G)[t]? = some (gA G t, ty) := by
    match t, ht with
    | 0, _ => exact ⟨_, rfl⟩
    | 1, _ => exact ⟨_, rfl⟩
    | 2, _ => exact ⟨_, rfl⟩
    | 3, _ => exact ⟨_, rfl⟩
    | 4, _ => exact ⟨_, rfl⟩
    | 5, _ => exact ⟨_, rfl⟩
    | 6, _ => exact ⟨_, rfl⟩
    | n + 7, h => exact absurd h (by omega)
  exact va_alen hx hb hK hr.2 a t a1 hty hv h1 K
theorem wp_sld {i : Int32} (hd : nx Y k = some (pc, .iaload, 1)) (hi : vp_in i (gS G).2.1) (kk : WP G Y R QQ N (k + 1) lv (.int ((gS G).2.2 i.toNatClampNeg) :: st) w) : WP G Y R QQ N k lv (.int i :: .ref 1000000 :: st) w := by
  intro p e s m args below meth c C H locs ls hr hS hh
  obtain ⟨hx, hb, hrt, hml, hown, hts, hlk, hnm, hK, hO, hc⟩ := id C
  obtain ⟨h1, h2⟩ := nx_dec hc hd
  have K := kk p e s m args below meth c C H locs ls hr hS hh
  rw [h2] at K
  show W _ _ _ _ _ _ _ _ _ _ _ _ _ _ _ (F0 m (pcO Y k) ls (.int i :: .ref (ra G 1000000) :: st.map (rv G)))
  rw [ra_scr]
  exact va_sld hx hb hO.1.1 (Nat.lt_of_lt_of_le hO.1.2 hO.2.1) (Nat.not_le.mpr hO.1.2) hS hi h1 K
theorem wp_slen (hd : nx Y k = some (pc, .arraylength, 1)) (kk : WP G Y R QQ N (k + 1) lv (.int (Int32.ofNat (gS G).2.1) :: st) w) : WP G Y R QQ N k lv (.ref 1000000 :: st) w := by
  intro p e s m args below meth c C H locs ls hr hS hh
  obtain ⟨hx, hb, hrt, hml, hown, hts, hlk, hnm, hK, hO, hc⟩ := id C
  obtain ⟨h1, h2⟩ := nx_dec hc hd
  have K := kk p e s m args below meth c C H locs ls hr hS hh
  rw [h2] at K
  show W _ _ _ _ _ _ _ _ _ _ _ _ _ _ _ (F0 m (pcO Y k) ls (.ref (ra G 1000000) :: st.map (rv G)))
  rw [ra_scr]
  exact va_slen hx hb hO.1.1 (Nat.lt_of_lt_of_le hO.1.2 hO.2.1) (Nat.not_le.mpr hO.1.2) hS h1 K
theorem rep_set {n : Nat} {w w' : mW} {H H1 : Heap} {a : Nat} {e0 e1 : va_E} (hr : rep G n w H) (ha : (cellsE G n w)[a]? = some (gb G + a, e0)) (he : va_at (gD G) vwCl (gb G + a, e1) H1) (z : H1.size = H.size) (oq : ∀ q : Nat, q ≠ gb G + a → H1[q]? = H[q]?) (hc : cellE G w' a = e1) (ho : ∀ j, j ≠ a → cellE G w' j = cellE G w j) : rep G n w' H1 := by
  refine ⟨z.trans hr.1, ?_⟩
  have h := hr.2.set cells_D ha he oq
  rw [cells_set hc ho] at h
  exact h
theorem set_i (cA : ClassId) (n j : Nat) (f : Nat → Int32) (x : Int32) : (vp_cell cA (n, .inl f)).setSlot j (.int x) = vp_cell cA (n, .inl (upd f j x)) := by
  rw [vp_cell_i, vp_cell_i, arrV_store]
  congr 1
  funext q
  by_cases hq : q = j
  · subst hq; simp [updV, upd]
  · simp [updV, upd, hq]
theorem set_l (cA : ClassId) (n j : Nat) (f : Nat → Int64) (x : Int64) : (vp_cell cA (n, .inr (.inl f))).setSlot j (.long x) = vp_cell cA (n, .inr (.inl (vp_updL f j x))) := by
  rw [vp_cell_l, vp_cell_l, arrV_store]
  congr 1
  funext q
  by_cases hq : q = j
  · subst hq; simp [updV, vp_updL]
  · simp [updV, vp_updL, hq]
theorem set_q (cA : ClassId) (n j v : Nat) (f : Nat → Option Nat) : (vp_cell cA (n, .inr (.inr (.inr (.inr f))))).setSlot j (.ref v) = vp_cell cA (n, .inr (.inr (.inr (.inr (va_up f j (some v)))))) := by
  rw [vp_cell_q, vp_cell_q, arrV_store]
  congr 1
  funext q
  by_cases hq : q = j
  · subst hq; simp [updV, va_up, va_rf]
  · simp [updV, va_up, hq]
theorem wp_iast {a len : Nat} {i : Int32} {x : Int32} (hd : nx Y k = some (pc, .iastore, 1)) (hs : shp N.1 a = some (.inl (0, len))) (hi : vp_in i len) (kk : WP G Y R QQ N (k + 1) lv st (sI w a i.toNatClampNeg (x))) : WP G Y R QQ N k lv (.int x :: .int i :: .ref a :: st) w := by
  intro p e s m args below meth c C H locs ls hr hS hh
  obtain ⟨hx, hb, hrt, hml, hown, hts, hlk, hnm, hK, hO, hc⟩ := id C
  obtain ⟨h1, h2⟩ := nx_dec hc hd
  obtain ⟨a1, a2⟩ := arr_at (G := G) (w := w) hs
  obtain ⟨s1, s2, s3⟩ := shp_spec hs
  show W _ _ _ _ _ _ _ _ _ _ _ _ _ _ _ (F0 m (pcO Y k) ls (.int x :: .int i :: .ref (ra G a) :: st.map (rv G)))
  rw [a2]
  refine W.iast hx hb (hr.2 a _ a1) ((hK.2 0 _ rfl).1 len (fun j => .int (w.1 a j))) (fun q => by cases q) (by show ¬ (i < 0 ∨ (arrV _ _ _).slots.size ≤ _); rw [arrV_size]; exact hi) rfl rfl h1 fun H1 e1 z oq => ?_
  have hfn : (sI w a i.toNatClampNeg (x)).1 a = upd (w.1 a) i.toNatClampNeg (x) := by
    funext q
    simp [sI, upd]
  have hr1 : rep G N.1 (sI w a i.toNatClampNeg (x)) H1 := by
    refine rep_set (e1 := .inl (gA G 0, len, .inl (upd (w.1 a) i.toNatClampNeg (x)))) hr a1 ?_ z oq ?_ (fun j hj => cell_other (sI_o hj) rfl rfl)
    · show H1[gb G + a]? = some (vp_cell _ _)
      rw [e1]
      exact congrArg some (set_i (gA G 0) len i.toNatClampNeg (w.1 a) (x))
    · rw [cell_arr s2, ← hfn]
      rfl
  have K := kk p e s m args below meth c C H1 _ ls hr1 (hS.put (k := i.toNatClampNeg) z oq (cells_D.2 a _ a1)) hh
  rw [h2] at K
  exact K
theorem wp_bast {a len : Nat} {i : Int32} {x : Int32} (hd : nx Y k = some (pc, .bastore, 1)) (hs : shp N.1 a = some (.inl (1, len))) (hi : vp_in i len) (kk : WP G Y R QQ N (k + 1) lv st (sI w a i.toNatClampNeg (vp_nar .byte x))) : WP G Y R QQ N k lv (.int x :: .int i :: .ref a :: st) w := by
  intro p e s m args below meth c C H locs ls hr hS hh
  obtain ⟨hx, hb, hrt, hml, hown, hts, hlk, hnm, hK, hO, hc⟩ := id C
  obtain ⟨h1, h2⟩ := nx_dec hc hd
  obtain ⟨a1, a2⟩ := arr_at (G := G) (w := w) hs
  obtain ⟨s1, s2, s3⟩ := shp_spec hs
  show W _ _ _ _ _ _ _ _ _ _ _ _ _ _ _ (F0 m (pcO Y k) ls (.int x :: .int i :: .ref (ra G a) :: st.map (rv G)))
  rw [a2]
  refine W.bast hx hb (hr.2 a _ a1) ((hK.2 1 _ rfl).1 len (fun j => .int (w.1 a j))) (fun q => by cases q) (by show ¬ (i < 0 ∨ (arrV _ _ _).slots.size ≤ _); rw [arrV_size]; exact hi) rfl rfl h1 fun H1 e1 z oq => ?_
  have hfn : (sI w a i.toNatClampNeg (vp_nar .byte x)).1 a = upd (w.1 a) i.toNatClampNeg (vp_nar .byte x) := by
    funext q
    simp [sI, upd]
  have hr1 : rep G N.1 (sI w a i.toNatClampNeg (vp_nar .byte x)) H1 := by
    refine rep_set (e1 := .inl (gA G 1, len, .inl (upd (w.1 a) i.toNatClampNeg (vp_nar .byte x)))) hr a1 ?_ z oq ?_ (fun j hj => cell_other (sI_o hj) rfl rfl)
    · show H1[gb G + a]? = some (vp_cell _ _)
      rw [e1]
      exact congrArg some (set_i (gA G 1) len i.toNatClampNeg (w.1 a) (vp_nar .byte x))
    · rw [cell_arr s2, ← hfn]
      rfl
  have K := kk p e s m args below meth c C H1 _ ls hr1 (hS.put (k := i.toNatClampNeg) z oq (cells_D.2 a _ a1)) hh
  rw [h2] at K
  exact K
theorem wp_zast {a len : Nat} {i : Int32} {x : Int32} (hd : nx Y k = some (pc, .bastore, 1)) (hs : shp N.1 a = some (.inl (2, len))) (hi : vp_in i len) (kk : WP G Y R QQ N (k + 1) lv st (sI w a i.toNatClampNeg (vp_nar .boolean x))) : WP G Y R QQ N k lv (.int x :: .int i :: .ref a :: st) w := by
  intro p e s m args below meth c C H locs ls hr hS hh
  obtain ⟨hx, hb, hrt, hml, hown, hts, hlk, hnm, hK, hO, hc⟩ := id C
  obtain ⟨h1, h2⟩ := nx_dec hc hd
  obtain ⟨a1, a2⟩ := arr_at (G := G) (w := w) hs
  obtain ⟨s1, s2, s3⟩ := shp_spec hs
  show W _ _ _ _ _ _ _ _ _ _ _ _ _ _ _ (F0 m (pcO Y k) ls (.int x :: .int i :: .ref (ra G a) :: st.map (rv G)))
  rw [a2]
  refine W.zast hx hb (hr.2 a _ a1) ((hK.2 2 _ rfl).1 len (fun j => .int (w.1 a j))) (fun q => by cases q) (by show ¬ (i < 0 ∨ (arrV _ _ _).slots.size ≤ _); rw [arrV_size]; exact hi) rfl rfl h1 fun H1 e1 z oq => ?_
  have hfn : (sI w a i.toNatClampNeg (vp_nar .boolean x)).1 a = upd (w.1 a) i.toNatClampNeg (vp_nar .boolean x) := by
    funext q
    simp [sI, upd]
  have hr1 : rep G N.1 (sI w a i.toNatClampNeg (vp_nar .boolean x)) H1 := by
    refine rep_set (e1 := .inl (gA G 2, len, .inl (upd (w.1 a) i.toNatClampNeg (vp_nar .boolean x)))) hr a1 ?_ z oq ?_ (fun j hj => cell_other (sI_o hj) rfl rfl)
    · show H1[gb G + a]? = some (vp_cell _ _)
      rw [e1]
      exact congrArg some (set_i (gA G 2) len i.toNatClampNeg (w.1 a) (vp_nar .boolean x))
    · rw [cell_arr s2, ← hfn]
      rfl
  have K := kk p e s m args below meth c C H1 _ ls hr1 (hS.put (k := i.toNatClampNeg) z oq (cells_D.2 a _ a1)) hh
  rw [h2] at K
  exact K
theorem wp_last {a len : Nat} {i : Int32} {x : Int64} (hd : nx Y k = some (pc, .lastore, 1)) (hs : shp N.1 a = some (.inl (3, len))) (hi : vp_in i len) (kk : WP G Y R QQ N (k + 1) lv st (sL w a i.toNatClampNeg (x))) : WP G Y R QQ N k lv (.long x :: .int i :: .ref a :: st) w := by
  intro p e s m args below meth c C H locs ls hr hS hh
  obtain ⟨hx, hb, hrt, hml, hown, hts, hlk, hnm, hK, hO, hc⟩ := id C
  obtain ⟨h1, h2⟩ := nx_dec hc hd
  obtain ⟨a1, a2⟩ := arr_at (G := G) (w := w) hs
  obtain ⟨s1, s2, s3⟩ := shp_spec hs
  show W _ _ _ _ _ _ _ _ _ _ _ _ _ _ _ (F0 m (pcO Y k) ls (.long x :: .int i :: .ref (ra G a) :: st.map (rv G)))
  rw [a2]
  refine W.last hx hb (hr.2 a _ a1) ((hK.2 3 _ rfl).1 len (fun j => .long (w.2.1 a j))) (fun q => by cases q) (by show ¬ (i < 0 ∨ (arrV _ _ _).slots.size ≤ _); rw [arrV_size]; exact hi) rfl rfl h1 fun H1 e1 z oq => ?_
  have hfn : (sL w a i.toNatClampNeg (x)).2.1 a = vp_updL (w.2.1 a) i.toNatClampNeg (x) := by
    funext q
    simp [sL, vp_updL]
  have hr1 : rep G N.1 (sL w a i.toNatClampNeg (x)) H1 := by
    refine rep_set (e1 := .inl (gA G 3, len, .inr (.inl (vp_updL (w.2.1 a) i.toNatClampNeg (x))))) hr a1 ?_ z oq ?_ (fun j hj => cell_other rfl (sL_o hj) rfl)
    · show H1[gb G + a]? = some (vp_cell _ _)
      rw [e1]
      exact congrArg some (set_l (gA G 3) len i.toNatClampNeg (w.2.1 a) (x))
    · rw [cell_arr s2, ← hfn]
      rfl
  have K := kk p e s m args below meth c C H1 _ ls hr1 (hS.put (k := i.toNatClampNeg) z oq (cells_D.2 a _ a1)) hh
  rw [h2] at K
  exact K
/-- a store of a reference into an array of references -/
theorem wp_aast {a len t b ci : Nat} {i : Int32} (hd : nx Y k = some (pc, .aastore, 1)) (hs : shp N.1 a = some (.inl (t, len))) (ht : (t = 4 ∧ ci = 4) ∨ (t = 5 ∧ ci = 0) ∨ (t = 6 ∧ ci = 6)) (hsb : shp N.1 b = some (.inr ci)) (hi : vp_in i len) (kk : WP G Y R QQ N (k + 1) lv st (sR w a i.toNatClampNeg (some b))) : WP G Y R QQ N k lv (.ref b :: .int i :: .ref a :: st) w := by
  intro p e s m args below meth c C H locs ls hr hS hh
  obtain ⟨hx, hb, hrt, hml, hown, hts, hlk, hnm, hK, hO, hc⟩ := id C
  obtain ⟨h1, h2⟩ := nx_dec hc hd
  obtain ⟨a1, a2⟩ := arr_at (G := G) (w := w) hs
  obtain ⟨s1, s2, s3⟩ := shp_spec hs
  obtain ⟨t1, t2, t3⟩ := shp_spec hsb
  have hv := cells_at (G := G) (w := w) t1
  rw [cell_obj t2] at hv
  show W _ _ _ _ _ _ _ _ _ _ _ _ _ _ _ (F0 m (pcO Y k) ls (.ref (ra G b) :: .int i :: .ref (ra G a) :: st.map (rv G)))
  rw [a2, ra_w t3]
  have e1 : ∀ q : Nat, ((sR w a i.toNatClampNeg (some b)).2.2 a q).map (ra G) = va_up (fun k => (w.2.2 a k).map (ra G)) i.toNatClampNeg (some (gb G + b)) q := by
    intro q
    by_cases hq : q = i.toNatClampNeg
    · subst hq; simp [sR, va_up, ra_w t3]
    · simp [sR, va_up, hq]
  obtain ⟨r', hr', cellV, g1, g2, g3, -⟩ := hr.2 b _ hv
  have h0 : ¬ i < 0 := fun q => hi (Or.inl q)
  have hlt : i.toNatClampNeg < len := Nat.not_le.mp fun q => hi (Or.inr q)
  have hci : ci < 12 := by rcases ht with ⟨-, rfl⟩ | ⟨-, rfl⟩ | ⟨-, rfl⟩ <;> omega
  have hcls := (hK.1 ci _ (vwCl_at ci hci)).2
  obtain ⟨hty, harr⟩ : (gT G)[t]? = some (gA G t, .object (RN ci)) ∧ arrC G w a t = .inr (.inr (.inr (.inr (fun k => (w.2.2 a k).map (ra G))))) := by
    rcases ht with ⟨rfl, rfl⟩ | ⟨rfl, rfl⟩ | ⟨rfl, rfl⟩ <;> exact ⟨rfl, rfl⟩
  have harr2 : ∀ w2 : mW, arrC G w2 a t = .inr (.inr (.inr (.inr (fun k => (w2.2.2 a k).map (ra G))))) := by
    intro w2
    rcases ht with ⟨rfl, rfl⟩ | ⟨rfl, rfl⟩ | ⟨rfl, rfl⟩ <;> rfl
  rw [harr] at a1
  obtain ⟨kA, comp, k1, k2, k3, -⟩ := (hK.2 t _ hty).2
  have hcomp : comp = (gD G).1 ci := Option.some.inj (k3.symm.trans hcls.1)
  subst hcomp
  obtain ⟨kC, hkC, -⟩ := hcls.2
  refine W.aast hx hb (hr.2 a _ a1) (fun q h => by cases h) (fun h => by cases h) k1 k2 rfl hkC ⟨h0, by show _ < (arrV _ _ _).slots.size; rw [arrV_size]; exact hlt⟩ g1 (fun q h => by rw [g3] at h; cases h) (by rw [g2]; exact hkC) (by rw [g2]; exact va_assign hcls) rfl rfl h1 fun H1 e2 z oq => ?_
  have hr1 : rep G N.1 (sR w a i.toNatClampNeg (some b)) H1 := by
    refine rep_set (e1 := .inl (gA G t, len, .inr (.inr (.inr (.inr (va_up (fun k => (w.2.2 a k).map (ra G)) i.toNatClampNeg (some (gb G + b)))))))) hr a1 ?_ z oq ?_ (fun j hj => cell_other rfl rfl (sR_o hj))
    · show H1[gb G + a]? = some (vp_cell _ _)
      rw [e2]
      exact congrArg some (set_q _ _ _ _ _)
    · rw [cell_arr s2, harr2, show (fun q : Nat => ((sR w a i.toNatClampNeg (some b)).2.2 a q).map (ra G)) = va_up (fun k => (w.2.2 a k).map (ra G)) i.toNatClampNeg (some (gb G + b)) from funext e1]
  have K := kk p e s m args below meth c C H1 _ ls hr1 (hS.put (k := i.toNatClampNeg) z oq (cells_D.2 a _ a1)) hh
  rw [h2] at K
  exact K
/-- a method's end -/
def QM (G : Gl) (n mc ms : Nat) (Q : Option Value → mW → Prop) : List Frame → Array Value → State → State → Prop := fun below args s => MQ below (fun _ st o t => ∃ (r : Option Value) (w' : mW), o = .returned (r.map (rv G)) ∧ Q r w' ∧ rep G (n + mc) w' t.heap ∧ va_F (gX G) st t) args s mc ms (gX G)
theorem wp_zret {n mc ms : Nat} {Q : Option Value → mW → Prop} {v : Int32} {rt : FieldType} (hd : lAt (tb Y) k = some (pc, .ireturn, 1)) (ht : Y.2.2.2.2.1 = some rt) (hv : narrow rt (.int v) = .int v) (hq : Q (some (.int v)) w) : WP G Y R (QM G n mc ms Q) (n + mc, mc, ms) k lv [.int v] w := by
  intro p e s m args below meth c C H locs ls hr hS hh
  obtain ⟨hx, hb, hrt, hml, hown, hts, hlk, hnm, hK, hO, hc⟩ := id C
  exact W.zret hx hb (hrt.trans ht) hv (fun t h1 h2 => ⟨some (.int v), w, rfl, hq, by rw [h1]; exact hr, hS.F h1⟩) hS.2.2 (at_dec hc hd) hlk
theorem wp_iret {n mc ms : Nat} {Q : Option Value → mW → Prop} {v : Int32} (hd : lAt (tb Y) k = some (pc, .ireturn, 1)) (ht : Y.2.2.2.2.1 = some .int) (hq : Q (some (.int v)) w) : WP G Y R (QM G n mc ms Q) (n + mc, mc, ms) k lv [.int v] w := wp_zret hd ht rfl hq
theorem wp_lret {n mc ms : Nat} {Q : Option Value → mW → Prop} {v : Int64} (hd : lAt (tb Y) k = some (pc, .lreturn, 1)) (ht : Y.2.2.2.2.1 = some .long) (hq : Q (some (.long v)) w) : WP G Y R (QM G n mc ms Q) (n + mc, mc, ms) k lv [.long v] w := by
  intro p e s m args below meth c C H locs ls hr hS hh
  obtain ⟨hx, hb, hrt, hml, hown, hts, hlk, hnm, hK, hO, hc⟩ := id C
  exact W.lret hx hb (hrt.trans ht) (fun t h1 h2 => ⟨some (.long v), w, rfl, hq, by rw [h1]; exact hr, hS.F h1⟩) hS.2.2 (at_dec hc hd) hlk
theorem wp_vret {n mc ms : Nat} {Q : Option Value → mW → Prop} (hd : lAt (tb Y) k = some (pc, .return_, 1)) (ht : Y.2.2.2.2.1 = none) (hq : Q none w) : WP G Y R (QM G n mc ms Q) (n + mc, mc, ms) k lv [] w := by
  intro p e s m args below meth c C H locs ls hr hS hh
  obtain ⟨hx, hb, hrt, hml, hown, hts, hlk, hnm, hK, hO, hc⟩ := id C
  exact W.vret hx hb (hrt.trans ht) (fun t h1 h2 => ⟨none, w, rfl, hq, by rw [h1]; exact hr, hS.F h1⟩) hS.2.2 (at_dec hc hd) hlk
theorem wp_aret {n mc ms a : Nat} {Q : Option Value → mW → Prop} {C : String} (hd : lAt (tb Y) k = some (pc, .areturn, 1)) (ht : Y.2.2.2.2.1 = some (.object C)) (hq : Q (some (.ref a)) w) : WP G Y R (QM G n mc ms Q) (n + mc, mc, ms) k lv [.ref a] w := by
  intro p e s m args below meth c C H locs ls hr hS hh
  obtain ⟨hx, hb, hrt, hml, hown, hts, hlk, hnm, hK, hO, hc⟩ := id C
  exact W.aret (v := .ref (ra G a)) hx hb (hrt.trans ht) (Or.inl ⟨_, rfl⟩) (Or.inr ⟨_, rfl⟩) (fun t h1 h2 => ⟨some (.ref a), w, rfl, hq, by rw [h1]; exact hr, hS.F h1⟩) hS.2.2 (at_dec hc hd) hlk
end ROWS
