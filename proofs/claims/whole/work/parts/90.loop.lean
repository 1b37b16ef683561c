/-! THE CLAIM OUT OF ONE WALK OF THE LAW'S BODY. Your part is whole_start (and what it stands on); all else here is the same for every law, but numbers. -/
def R_law : String := "MastMoveLaw"
def lw_P (b : Addr) (xs : List Int32) (args : Array Value) (s : State) : Prop := args = #[.ref b] ∧ s.IntsAt b xs ∧ xs.length ≤ 3584 ∧ (Jvm.Cond.and given_1 narrow_1).before args s = true
def lw_Q (_ : Array Value) (s : State) (o : Outcome) (t : State) : Prop := o = .returned (some (.int 1)) ∧ Framed s o t [] 600000 7302250
def lw_Z (below : List Frame) (a : Array Value) (s : State) : State → Prop := fun t => ∃ o, t.status = .running ∧ Ended t below o ∧ lw_Q a s o t
/-- the law's own end, with 1 on the stack, nothing written that was there before, its room as the claim has it -/
theorem lw_ret {p : Program} {l : Launch} {e : Env} {s : State} {m : MethodId} {below : List Frame} {meth : Method} {c : Code} {b : Nat} (hx : p.tables.exec = Jvm.exec) (hb : c.code = code) (hr : meth.sig.returnType = ret) (hlocks : meth.locks = false) {pc : Nat} {H : Heap} {ls : Array Slot} (hdg : decode code pc = .ok (.ireturn, 1)) : W p l e room_1 s m #[Value.ref b] below meth c H [] 600000 7302250 (lw_Z below #[Value.ref b] s) (F0 m pc ls [.int 1]) := by
  intro T hT X
  obtain ⟨fs, hret, hrun, hended, hW, hframe⟩ := X.leave (v := some (.int 1)) (hlocks := hlocks) (fun h => by rw [hr] at h; cases h)
  have hmeth' : T.vm.method? m = some meth := X.method'
  refine ⟨T.setFrames fs, ?_, .returned (some (.int 1)), hrun, hended, rfl, ⟨_, rfl⟩, hW, hframe⟩
  jvm_step X.here [X.here.top, hx, hb, hdg, hmeth', hr, ret, narrow_b1]
  (try refine ⟨rfl, ?_⟩); (try refine ⟨rfl, ?_⟩)
  first | (intro acts; rw [hret _ acts rfl rfl rfl]) | rw [hret _ _ rfl rfl rfl]
  exact Steps.refl _
/-- what holds at the law's entry: the machine, the code, the tables' words (any of lw_tbl by 'hts w (by decide +kernel)'), the script of L ints xs at the cell b, what the Statement gives of the start (any of its parts by flat_of_before) -/
def lw_At (p : Program) (s : State) (m : MethodId) (meth : Method) (c : Code) (b L : Nat) (xs : Nat → Int32) : Prop :=
  p.tables.exec = Jvm.exec ∧ c.code = code ∧ meth.sig.returnType = ret ∧ c.maxLocals = 4 ∧ s.vm.findClass R_law = some m.cls ∧ (∀ w ∈ lw_tbl, w.before #[Value.ref b] s = true) ∧ va_X b L xs s s.heap ∧ b < s.heap.size ∧ meth.locks = false ∧ (Jvm.Cond.and given_1 narrow_1).before #[Value.ref b] s = true
/-! the law's loop -/
def YL (n : String) : mY := (12, ⟨"MastMoveLaw", n, "([I)Z"⟩, code, 4, ret, t_L_law)
def QL (G : Gl) : List Frame → Array Value → State → State → Prop := fun below args s t => (gb G = s.heap.size ∧ args = #[Value.ref (gS G).1]) → lw_Z below args s t
theorem ret_i : ret = some FieldType.boolean := rfl
theorem wp_lawret {G : Gl} {n : String} {N : Nat × Nat × Nat} {k pc : Nat} {lv : List (Nat × Value)} {w : mW} (hd : lAt t_L_law k = some (pc, .ireturn, 1)) (h1 : N.2.1 ≤ 600000) (h2 : N.2.2 ≤ 7302250) : WP G (YL n) room_1 (QL G) N k lv [.int 1] w := by
  intro p e s m args below meth c C H locs ls hr hS hh
  obtain ⟨hx, hb, hrt, hml, hown, hts, hlk, hnm, hK, hO, hc⟩ := id C
  by_cases hP : gb G = s.heap.size ∧ args = #[Value.ref (gS G).1]
  · obtain ⟨e1, e2⟩ := hP
    subst e2
    refine va_forget (fun q hq => ?_) ?_
    · have := hS.2.2 q hq
      rw [← e1]; exact this
    · refine W.widen (k := 600000) (n := 7302250) h1 h2 ?_
      have K := lw_ret (p := p) (l := G.1) (e := e) (s := s) (m := m) (below := below) (meth := meth) (c := c) (b := (gS G).1) hx hb hrt hlk (H := H) (ls := ls) (at_dec (Y := YL n) hc hd)
      intro T hT X
      obtain ⟨t, a1, a2⟩ := K T hT X
      exact ⟨t, a1, fun _ => a2⟩
  · intro T hT X
    exact ⟨_, Steps.refl _, fun h => absurd h hP⟩
abbrev LW (G : Gl) (n : String) (k : Nat) (lv : List (Nat × Value)) (st : List Value) (I : IF) (L : LF) (b : Bool) : Prop := WP G (YL n) room_1 (QL G) (102, 102, 60413) k lv st (I, L, RR b)
abbrev LV (i : Int32) : List (Nat × Value) := [(0, .ref 1000000), (1, .ref 0), (2, .ref 72), (3, .int i)]
theorem hRL : 100 + 2 ≤ room_1.frames ∧ 60 * 100 + 120 ≤ room_1.locals ∧ 102 + 0 ≤ room_1.cells ∧ 60413 + 0 ≤ room_1.slots := ⟨Nat.le_of_ble_eq_true rfl, Nat.le_of_ble_eq_true rfl, Nat.le_of_ble_eq_true rfl, Nat.le_of_ble_eq_true rfl⟩
def LVin (G : Gl) (i : Int32) : Prop := ∀ c : Int32, 0 ≤ c → c ≤ 6 → vp_in (i + c) (gS G).2.1
abbrev sx (G : Gl) (i : Int32) : Int32 := (gS G).2.2 i.toNatClampNeg
set_option maxRecDepth 20000 in
theorem lc_terms {Inv : IF → LF → Bool → Prop} {G : Gl} {n : String} {i : Int32} {I : IF} {L : LF} {b : Bool} (hv : LVin G i) (hs : Step Inv G 100 Y_X10_terms Y_X11_terms [.int (sx G (i + 1)), .int (sx G (i + 2))] I L b) (K : ∀ I2 L2 b2, Inv I2 L2 b2 → LW G n 883 (LV i) [] I2 L2 b2) : LW G n 22 (LV i) [] I L b := by
  refine wp_aload_n rfl rfl ?_
  refine wp_aload_n rfl rfl ?_
  refine wp_iload_n rfl rfl ?_
  refine wp_iconst (v := 1) rfl rfl ?_
  refine wp_iadd rfl ?_
  refine wp_sld rfl (hv 1 (by decide) (by decide)) ?_
  refine wp_aload_n rfl rfl ?_
  refine wp_iload_n rfl rfl ?_
  refine wp_iconst (v := 2) rfl rfl ?_
  refine wp_iadd rfl ?_
  refine wp_sld rfl (hv 2 (by decide) (by decide)) ?_
  refine wp_cV rfl l_12_13 i_X10_terms m_X10_terms rfl (by decide) hs rfl (Nat.le_of_ble_eq_true rfl) hRL (fun r w2 hh => ?_)
  obtain ⟨v, I1, L1, b1, rfl, rfl, c2⟩ := hh
  refine wp_aload_n rfl rfl ?_
  refine wp_aload_n rfl rfl ?_
  refine wp_iload_n rfl rfl ?_
  refine wp_iconst (v := 1) rfl rfl ?_
  refine wp_iadd rfl ?_
  refine wp_sld rfl (hv 1 (by decide) (by decide)) ?_
  refine wp_aload_n rfl rfl ?_
  refine wp_iload_n rfl rfl ?_
  refine wp_iconst (v := 2) rfl rfl ?_
  refine wp_iadd rfl ?_
  refine wp_sld rfl (hv 2 (by decide) (by decide)) ?_
  refine wp_cV rfl l_12_17 i_X11_terms m_X11_terms rfl (by decide) c2 rfl (Nat.le_of_ble_eq_true rfl) hRL (fun r w2 hh => ?_)
  obtain ⟨I2, L2, rfl, rfl, hI⟩ := hh
  refine wp_icmp_eq 883 rfl rfl (fun _ => ?_) (fun h => absurd rfl h)
  exact K I2 L2 b1 hI
set_option maxRecDepth 20000 in
theorem lc_mastt {Inv : IF → LF → Bool → Prop} {G : Gl} {n : String} {i : Int32} {I : IF} {L : LF} {b : Bool} (hv : LVin G i) (h0 : ¬ sx G (i + 5) = 0) (hs : Step Inv G 100 Y_X10_mast Y_X11_mast [.int (sx G (i + 1)), .int (sx G (i + 2)), .int (sx G (i + 3)), .int (sx G (i + 4)), .int 1, .int (sx G (i + 6))] I L b) (K : ∀ I2 L2 b2, Inv I2 L2 b2 → LW G n 883 (LV i) [] I2 L2 b2) : LW G n 49 (LV i) [] I L b := by
  refine wp_aload_n rfl rfl ?_
  refine wp_aload_n rfl rfl ?_
  refine wp_iload_n rfl rfl ?_
  refine wp_iconst (v := 1) rfl rfl ?_
  refine wp_iadd rfl ?_
  refine wp_sld rfl (hv 1 (by decide) (by decide)) ?_
  refine wp_aload_n rfl rfl ?_
  refine wp_iload_n rfl rfl ?_
  refine wp_iconst (v := 2) rfl rfl ?_
  refine wp_iadd rfl ?_
  refine wp_sld rfl (hv 2 (by decide) (by decide)) ?_
  refine wp_aload_n rfl rfl ?_
  refine wp_iload_n rfl rfl ?_
  refine wp_iconst (v := 3) rfl rfl ?_
  refine wp_iadd rfl ?_
  refine wp_sld rfl (hv 3 (by decide) (by decide)) ?_
  refine wp_aload_n rfl rfl ?_
  refine wp_iload_n rfl rfl ?_
  refine wp_iconst (v := 4) rfl rfl ?_
  refine wp_iadd rfl ?_
  refine wp_sld rfl (hv 4 (by decide) (by decide)) ?_
  refine wp_aload_n rfl rfl ?_
  refine wp_iload_n rfl rfl ?_
  refine wp_iconst (v := 5) rfl rfl ?_
  refine wp_iadd rfl ?_
  refine wp_sld rfl (hv 5 (by decide) (by decide)) ?_
  refine wp_if_eq 78 rfl rfl (fun h => absurd h h0) (fun _ => ?_)
  refine wp_iconst (v := 1) rfl rfl ?_
  refine wp_goto 79 rfl rfl ?_
  refine wp_aload_n rfl rfl ?_
  refine wp_iload_n rfl rfl ?_
  refine wp_bipush (v := 6) rfl rfl ?_
  refine wp_iadd rfl ?_
  refine wp_sld rfl (hv 6 (by decide) (by decide)) ?_
  refine wp_cV rfl l_12_18 i_X10_mast m_X10_mast rfl (by decide) hs rfl (Nat.le_of_ble_eq_true rfl) hRL (fun r w2 hh => ?_)
  obtain ⟨v, I1, L1, b1, rfl, rfl, c2⟩ := hh
  refine wp_aload_n rfl rfl ?_
  refine wp_aload_n rfl rfl ?_
  refine wp_iload_n rfl rfl ?_
  refine wp_iconst (v := 1) rfl rfl ?_
  refine wp_iadd rfl ?_
  refine wp_sld rfl (hv 1 (by decide) (by decide)) ?_
  refine wp_aload_n rfl rfl ?_
  refine wp_iload_n rfl rfl ?_
  refine wp_iconst (v := 2) rfl rfl ?_
  refine wp_iadd rfl ?_
  refine wp_sld rfl (hv 2 (by decide) (by decide)) ?_
  refine wp_aload_n rfl rfl ?_
  refine wp_iload_n rfl rfl ?_
  refine wp_iconst (v := 3) rfl rfl ?_
  refine wp_iadd rfl ?_
  refine wp_sld rfl (hv 3 (by decide) (by decide)) ?_
  refine wp_aload_n rfl rfl ?_
  refine wp_iload_n rfl rfl ?_
  refine wp_iconst (v := 4) rfl rfl ?_
  refine wp_iadd rfl ?_
  refine wp_sld rfl (hv 4 (by decide) (by decide)) ?_
  refine wp_aload_n rfl rfl ?_
  refine wp_iload_n rfl rfl ?_
  refine wp_iconst (v := 5) rfl rfl ?_
  refine wp_iadd rfl ?_
  refine wp_sld rfl (hv 5 (by decide) (by decide)) ?_
  refine wp_if_eq 114 rfl rfl (fun h => absurd h h0) (fun _ => ?_)
  refine wp_iconst (v := 1) rfl rfl ?_
  refine wp_goto 115 rfl rfl ?_
  refine wp_aload_n rfl rfl ?_
  refine wp_iload_n rfl rfl ?_
  refine wp_bipush (v := 6) rfl rfl ?_
  refine wp_iadd rfl ?_
  refine wp_sld rfl (hv 6 (by decide) (by decide)) ?_
  refine wp_cV rfl l_12_22 i_X11_mast m_X11_mast rfl (by decide) c2 rfl (Nat.le_of_ble_eq_true rfl) hRL (fun r w2 hh => ?_)
  obtain ⟨I2, L2, rfl, rfl, hI⟩ := hh
  refine wp_icmp_eq 883 rfl rfl (fun _ => ?_) (fun h => absurd rfl h)
  exact K I2 L2 b1 hI
set_option maxRecDepth 20000 in
theorem lc_mastf {Inv : IF → LF → Bool → Prop} {G : Gl} {n : String} {i : Int32} {I : IF} {L : LF} {b : Bool} (hv : LVin G i) (h0 : sx G (i + 5) = 0) (hs : Step Inv G 100 Y_X10_mast Y_X11_mast [.int (sx G (i + 1)), .int (sx G (i + 2)), .int (sx G (i + 3)), .int (sx G (i + 4)), .int 0, .int (sx G (i + 6))] I L b) (K : ∀ I2 L2 b2, Inv I2 L2 b2 → LW G n 883 (LV i) [] I2 L2 b2) : LW G n 49 (LV i) [] I L b := by
  refine wp_aload_n rfl rfl ?_
  refine wp_aload_n rfl rfl ?_
  refine wp_iload_n rfl rfl ?_
  refine wp_iconst (v := 1) rfl rfl ?_
  refine wp_iadd rfl ?_
  refine wp_sld rfl (hv 1 (by decide) (by decide)) ?_
  refine wp_aload_n rfl rfl ?_
  refine wp_iload_n rfl rfl ?_
  refine wp_iconst (v := 2) rfl rfl ?_
  refine wp_iadd rfl ?_
  refine wp_sld rfl (hv 2 (by decide) (by decide)) ?_
  refine wp_aload_n rfl rfl ?_
  refine wp_iload_n rfl rfl ?_
  refine wp_iconst (v := 3) rfl rfl ?_
  refine wp_iadd rfl ?_
  refine wp_sld rfl (hv 3 (by decide) (by decide)) ?_
  refine wp_aload_n rfl rfl ?_
  refine wp_iload_n rfl rfl ?_
  refine wp_iconst (v := 4) rfl rfl ?_
  refine wp_iadd rfl ?_
  refine wp_sld rfl (hv 4 (by decide) (by decide)) ?_
  refine wp_aload_n rfl rfl ?_
  refine wp_iload_n rfl rfl ?_
  refine wp_iconst (v := 5) rfl rfl ?_
  refine wp_iadd rfl ?_
  refine wp_sld rfl (hv 5 (by decide) (by decide)) ?_
  refine wp_if_eq 78 rfl rfl (fun _ => ?_) (fun h => absurd h0 h)
  refine wp_iconst (v := 0) rfl rfl ?_
  refine wp_aload_n rfl rfl ?_
  refine wp_iload_n rfl rfl ?_
  refine wp_bipush (v := 6) rfl rfl ?_
  refine wp_iadd rfl ?_
  refine wp_sld rfl (hv 6 (by decide) (by decide)) ?_
  refine wp_cV rfl l_12_18 i_X10_mast m_X10_mast rfl (by decide) hs rfl (Nat.le_of_ble_eq_true rfl) hRL (fun r w2 hh => ?_)
  obtain ⟨v, I1, L1, b1, rfl, rfl, c2⟩ := hh
  refine wp_aload_n rfl rfl ?_
  refine wp_aload_n rfl rfl ?_
  refine wp_iload_n rfl rfl ?_
  refine wp_iconst (v := 1) rfl rfl ?_
  refine wp_iadd rfl ?_
  refine wp_sld rfl (hv 1 (by decide) (by decide)) ?_
  refine wp_aload_n rfl rfl ?_
  refine wp_iload_n rfl rfl ?_
  refine wp_iconst (v := 2) rfl rfl ?_
  refine wp_iadd rfl ?_
  refine wp_sld rfl (hv 2 (by decide) (by decide)) ?_
  refine wp_aload_n rfl rfl ?_
  refine wp_iload_n rfl rfl ?_
  refine wp_iconst (v := 3) rfl rfl ?_
  refine wp_iadd rfl ?_
  refine wp_sld rfl (hv 3 (by decide) (by decide)) ?_
  refine wp_aload_n rfl rfl ?_
  refine wp_iload_n rfl rfl ?_
  refine wp_iconst (v := 4) rfl rfl ?_
  refine wp_iadd rfl ?_
  refine wp_sld rfl (hv 4 (by decide) (by decide)) ?_
  refine wp_aload_n rfl rfl ?_
  refine wp_iload_n rfl rfl ?_
  refine wp_iconst (v := 5) rfl rfl ?_
  refine wp_iadd rfl ?_
  refine wp_sld rfl (hv 5 (by decide) (by decide)) ?_
  refine wp_if_eq 114 rfl rfl (fun _ => ?_) (fun h => absurd h0 h)
  refine wp_iconst (v := 0) rfl rfl ?_
  refine wp_aload_n rfl rfl ?_
  refine wp_iload_n rfl rfl ?_
  refine wp_bipush (v := 6) rfl rfl ?_
  refine wp_iadd rfl ?_
  refine wp_sld rfl (hv 6 (by decide) (by decide)) ?_
  refine wp_cV rfl l_12_22 i_X11_mast m_X11_mast rfl (by decide) c2 rfl (Nat.le_of_ble_eq_true rfl) hRL (fun r w2 hh => ?_)
  obtain ⟨I2, L2, rfl, rfl, hI⟩ := hh
  refine wp_icmp_eq 883 rfl rfl (fun _ => ?_) (fun h => absurd rfl h)
  exact K I2 L2 b1 hI
set_option maxRecDepth 20000 in
theorem lc_abroad {Inv : IF → LF → Bool → Prop} {G : Gl} {n : String} {i : Int32} {I : IF} {L : LF} {b : Bool} (hv : LVin G i) (hs : Step Inv G 100 Y_X10_abroad Y_X11_abroad [.int (sx G (i + 1)), .int (sx G (i + 2)), .int (sx G (i + 3)), .int (sx G (i + 4)), .int (sx G (i + 5))] I L b) (K : ∀ I2 L2 b2, Inv I2 L2 b2 → LW G n 883 (LV i) [] I2 L2 b2) : LW G n 124 (LV i) [] I L b := by
  refine wp_aload_n rfl rfl ?_
  refine wp_aload_n rfl rfl ?_
  refine wp_iload_n rfl rfl ?_
  refine wp_iconst (v := 1) rfl rfl ?_
  refine wp_iadd rfl ?_
  refine wp_sld rfl (hv 1 (by decide) (by decide)) ?_
  refine wp_aload_n rfl rfl ?_
  refine wp_iload_n rfl rfl ?_
  refine wp_iconst (v := 2) rfl rfl ?_
  refine wp_iadd rfl ?_
  refine wp_sld rfl (hv 2 (by decide) (by decide)) ?_
  refine wp_aload_n rfl rfl ?_
  refine wp_iload_n rfl rfl ?_
  refine wp_iconst (v := 3) rfl rfl ?_
  refine wp_iadd rfl ?_
  refine wp_sld rfl (hv 3 (by decide) (by decide)) ?_
  refine wp_aload_n rfl rfl ?_
  refine wp_iload_n rfl rfl ?_
  refine wp_iconst (v := 4) rfl rfl ?_
  refine wp_iadd rfl ?_
  refine wp_sld rfl (hv 4 (by decide) (by decide)) ?_
  refine wp_aload_n rfl rfl ?_
  refine wp_iload_n rfl rfl ?_
  refine wp_iconst (v := 5) rfl rfl ?_
  refine wp_iadd rfl ?_
  refine wp_sld rfl (hv 5 (by decide) (by decide)) ?_
  refine wp_cV rfl l_12_23 i_X10_abroad m_X10_abroad rfl (by decide) hs rfl (Nat.le_of_ble_eq_true rfl) hRL (fun r w2 hh => ?_)
  obtain ⟨v, I1, L1, b1, rfl, rfl, c2⟩ := hh
  refine wp_aload_n rfl rfl ?_
  refine wp_aload_n rfl rfl ?_
  refine wp_iload_n rfl rfl ?_
  refine wp_iconst (v := 1) rfl rfl ?_
  refine wp_iadd rfl ?_
  refine wp_sld rfl (hv 1 (by decide) (by decide)) ?_
  refine wp_aload_n rfl rfl ?_
  refine wp_iload_n rfl rfl ?_
  refine wp_iconst (v := 2) rfl rfl ?_
  refine wp_iadd rfl ?_
  refine wp_sld rfl (hv 2 (by decide) (by decide)) ?_
  refine wp_aload_n rfl rfl ?_
  refine wp_iload_n rfl rfl ?_
  refine wp_iconst (v := 3) rfl rfl ?_
  refine wp_iadd rfl ?_
  refine wp_sld rfl (hv 3 (by decide) (by decide)) ?_
  refine wp_aload_n rfl rfl ?_
  refine wp_iload_n rfl rfl ?_
  refine wp_iconst (v := 4) rfl rfl ?_
  refine wp_iadd rfl ?_
  refine wp_sld rfl (hv 4 (by decide) (by decide)) ?_
  refine wp_aload_n rfl rfl ?_
  refine wp_iload_n rfl rfl ?_
  refine wp_iconst (v := 5) rfl rfl ?_
  refine wp_iadd rfl ?_
  refine wp_sld rfl (hv 5 (by decide) (by decide)) ?_
  refine wp_cV rfl l_12_27 i_X11_abroad m_X11_abroad rfl (by decide) c2 rfl (Nat.le_of_ble_eq_true rfl) hRL (fun r w2 hh => ?_)
  obtain ⟨I2, L2, rfl, rfl, hI⟩ := hh
  refine wp_icmp_eq 883 rfl rfl (fun _ => ?_) (fun h => absurd rfl h)
  exact K I2 L2 b1 hI
set_option maxRecDepth 20000 in
theorem lc_area {Inv : IF → LF → Bool → Prop} {G : Gl} {n : String} {i : Int32} {I : IF} {L : LF} {b : Bool} (hv : LVin G i) (hs : Step Inv G 100 Y_X10_area Y_X11_area [.int (sx G (i + 1)), .int (sx G (i + 2)), .int (sx G (i + 3)), .int (sx G (i + 4)), .int (sx G (i + 5))] I L b) (K : ∀ I2 L2 b2, Inv I2 L2 b2 → LW G n 883 (LV i) [] I2 L2 b2) : LW G n 181 (LV i) [] I L b := by
  refine wp_aload_n rfl rfl ?_
  refine wp_aload_n rfl rfl ?_
  refine wp_iload_n rfl rfl ?_
  refine wp_iconst (v := 1) rfl rfl ?_
  refine wp_iadd rfl ?_
  refine wp_sld rfl (hv 1 (by decide) (by decide)) ?_
  refine wp_aload_n rfl rfl ?_
  refine wp_iload_n rfl rfl ?_
  refine wp_iconst (v := 2) rfl rfl ?_
  refine wp_iadd rfl ?_
  refine wp_sld rfl (hv 2 (by decide) (by decide)) ?_
  refine wp_aload_n rfl rfl ?_
  refine wp_iload_n rfl rfl ?_
  refine wp_iconst (v := 3) rfl rfl ?_
  refine wp_iadd rfl ?_
  refine wp_sld rfl (hv 3 (by decide) (by decide)) ?_
  refine wp_aload_n rfl rfl ?_
  refine wp_iload_n rfl rfl ?_
  refine wp_iconst (v := 4) rfl rfl ?_
  refine wp_iadd rfl ?_
  refine wp_sld rfl (hv 4 (by decide) (by decide)) ?_
  refine wp_aload_n rfl rfl ?_
  refine wp_iload_n rfl rfl ?_
  refine wp_iconst (v := 5) rfl rfl ?_
  refine wp_iadd rfl ?_
  refine wp_sld rfl (hv 5 (by decide) (by decide)) ?_
  refine wp_cV rfl l_12_28 i_X10_area m_X10_area rfl (by decide) hs rfl (Nat.le_of_ble_eq_true rfl) hRL (fun r w2 hh => ?_)
  obtain ⟨v, I1, L1, b1, rfl, rfl, c2⟩ := hh
  refine wp_aload_n rfl rfl ?_
  refine wp_aload_n rfl rfl ?_
  refine wp_iload_n rfl rfl ?_
  refine wp_iconst (v := 1) rfl rfl ?_
  refine wp_iadd rfl ?_
  refine wp_sld rfl (hv 1 (by decide) (by decide)) ?_
  refine wp_aload_n rfl rfl ?_
  refine wp_iload_n rfl rfl ?_
  refine wp_iconst (v := 2) rfl rfl ?_
  refine wp_iadd rfl ?_
  refine wp_sld rfl (hv 2 (by decide) (by decide)) ?_
  refine wp_aload_n rfl rfl ?_
  refine wp_iload_n rfl rfl ?_
  refine wp_iconst (v := 3) rfl rfl ?_
  refine wp_iadd rfl ?_
  refine wp_sld rfl (hv 3 (by decide) (by decide)) ?_
  refine wp_aload_n rfl rfl ?_
  refine wp_iload_n rfl rfl ?_
  refine wp_iconst (v := 4) rfl rfl ?_
  refine wp_iadd rfl ?_
  refine wp_sld rfl (hv 4 (by decide) (by decide)) ?_
  refine wp_aload_n rfl rfl ?_
  refine wp_iload_n rfl rfl ?_
  refine wp_iconst (v := 5) rfl rfl ?_
  refine wp_iadd rfl ?_
  refine wp_sld rfl (hv 5 (by decide) (by decide)) ?_
  refine wp_cV rfl l_12_31 i_X11_area m_X11_area rfl (by decide) c2 rfl (Nat.le_of_ble_eq_true rfl) hRL (fun r w2 hh => ?_)
  obtain ⟨I2, L2, rfl, rfl, hI⟩ := hh
  refine wp_icmp_eq 883 rfl rfl (fun _ => ?_) (fun h => absurd rfl h)
  exact K I2 L2 b1 hI
set_option maxRecDepth 20000 in
theorem lc_poor {Inv : IF → LF → Bool → Prop} {G : Gl} {n : String} {i : Int32} {I : IF} {L : LF} {b : Bool} (hv : LVin G i) (hs : Step Inv G 100 Y_X10_poor Y_X11_poor [.int (sx G (i + 1))] I L b) (K : ∀ I2 L2 b2, Inv I2 L2 b2 → LW G n 883 (LV i) [] I2 L2 b2) : LW G n 238 (LV i) [] I L b := by
  refine wp_aload_n rfl rfl ?_
  refine wp_aload_n rfl rfl ?_
  refine wp_iload_n rfl rfl ?_
  refine wp_iconst (v := 1) rfl rfl ?_
  refine wp_iadd rfl ?_
  refine wp_sld rfl (hv 1 (by decide) (by decide)) ?_
  refine wp_cV rfl l_12_32 i_X10_poor m_X10_poor rfl (by decide) hs rfl (Nat.le_of_ble_eq_true rfl) hRL (fun r w2 hh => ?_)
  obtain ⟨v, I1, L1, b1, rfl, rfl, c2⟩ := hh
  refine wp_aload_n rfl rfl ?_
  refine wp_aload_n rfl rfl ?_
  refine wp_iload_n rfl rfl ?_
  refine wp_iconst (v := 1) rfl rfl ?_
  refine wp_iadd rfl ?_
  refine wp_sld rfl (hv 1 (by decide) (by decide)) ?_
  refine wp_cV rfl l_12_36 i_X11_poor m_X11_poor rfl (by decide) c2 rfl (Nat.le_of_ble_eq_true rfl) hRL (fun r w2 hh => ?_)
  obtain ⟨I2, L2, rfl, rfl, hI⟩ := hh
  refine wp_icmp_eq 883 rfl rfl (fun _ => ?_) (fun h => absurd rfl h)
  exact K I2 L2 b1 hI
set_option maxRecDepth 20000 in
theorem lc_aim {Inv : IF → LF → Bool → Prop} {G : Gl} {n : String} {i : Int32} {I : IF} {L : LF} {b : Bool} (hv : LVin G i) (hs : Step Inv G 100 Y_X10_aim Y_X11_aim [.int (sx G (i + 1)), .int (sx G (i + 2))] I L b) (K : ∀ I2 L2 b2, Inv I2 L2 b2 → LW G n 883 (LV i) [] I2 L2 b2) : LW G n 255 (LV i) [] I L b := by
  refine wp_aload_n rfl rfl ?_
  refine wp_aload_n rfl rfl ?_
  refine wp_iload_n rfl rfl ?_
  refine wp_iconst (v := 1) rfl rfl ?_
  refine wp_iadd rfl ?_
  refine wp_sld rfl (hv 1 (by decide) (by decide)) ?_
  refine wp_aload_n rfl rfl ?_
  refine wp_iload_n rfl rfl ?_
  refine wp_iconst (v := 2) rfl rfl ?_
  refine wp_iadd rfl ?_
  refine wp_sld rfl (hv 2 (by decide) (by decide)) ?_
  refine wp_cV rfl l_12_37 i_X10_aim m_X10_aim rfl (by decide) hs rfl (Nat.le_of_ble_eq_true rfl) hRL (fun r w2 hh => ?_)
  obtain ⟨v, I1, L1, b1, rfl, rfl, c2⟩ := hh
  refine wp_aload_n rfl rfl ?_
  refine wp_aload_n rfl rfl ?_
  refine wp_iload_n rfl rfl ?_
  refine wp_iconst (v := 1) rfl rfl ?_
  refine wp_iadd rfl ?_
  refine wp_sld rfl (hv 1 (by decide) (by decide)) ?_
  refine wp_aload_n rfl rfl ?_
  refine wp_iload_n rfl rfl ?_
  refine wp_iconst (v := 2) rfl rfl ?_
  refine wp_iadd rfl ?_
  refine wp_sld rfl (hv 2 (by decide) (by decide)) ?_
  refine wp_cV rfl l_12_40 i_X11_aim m_X11_aim rfl (by decide) c2 rfl (Nat.le_of_ble_eq_true rfl) hRL (fun r w2 hh => ?_)
  obtain ⟨I2, L2, rfl, rfl, hI⟩ := hh
  refine wp_icmp_eq 883 rfl rfl (fun _ => ?_) (fun h => absurd rfl h)
  exact K I2 L2 b1 hI
set_option maxRecDepth 20000 in
theorem lc_turn {Inv : IF → LF → Bool → Prop} {G : Gl} {n : String} {i : Int32} {I : IF} {L : LF} {b : Bool} (hv : LVin G i) (hs : Step Inv G 100 Y_X10_turn Y_X11_turn [] I L b) (K : ∀ I2 L2 b2, Inv I2 L2 b2 → LW G n 883 (LV i) [] I2 L2 b2) : LW G n 282 (LV i) [] I L b := by
  refine wp_aload_n rfl rfl ?_
  refine wp_cV rfl l_12_41 i_X10_turn m_X10_turn rfl (by decide) hs rfl (Nat.le_of_ble_eq_true rfl) hRL (fun r w2 hh => ?_)
  obtain ⟨v, I1, L1, b1, rfl, rfl, c2⟩ := hh
  refine wp_aload_n rfl rfl ?_
  refine wp_cV rfl l_12_45 i_X11_turn m_X11_turn rfl (by decide) c2 rfl (Nat.le_of_ble_eq_true rfl) hRL (fun r w2 hh => ?_)
  obtain ⟨I2, L2, rfl, rfl, hI⟩ := hh
  refine wp_icmp_eq 883 rfl rfl (fun _ => ?_) (fun h => absurd rfl h)
  exact K I2 L2 b1 hI
set_option maxRecDepth 20000 in
theorem lc_strength {Inv : IF → LF → Bool → Prop} {G : Gl} {n : String} {i : Int32} {I : IF} {L : LF} {b : Bool} (hv : LVin G i) (hs : Step Inv G 100 Y_X10_strength Y_X11_strength [.int (sx G (i + 1)), .int (sx G (i + 2))] I L b) (K : ∀ I2 L2 b2, Inv I2 L2 b2 → LW G n 883 (LV i) [] I2 L2 b2) : LW G n 289 (LV i) [] I L b := by
  refine wp_aload_n rfl rfl ?_
  refine wp_aload_n rfl rfl ?_
  refine wp_iload_n rfl rfl ?_
  refine wp_iconst (v := 1) rfl rfl ?_
  refine wp_iadd rfl ?_
  refine wp_sld rfl (hv 1 (by decide) (by decide)) ?_
  refine wp_aload_n rfl rfl ?_
  refine wp_iload_n rfl rfl ?_
  refine wp_iconst (v := 2) rfl rfl ?_
  refine wp_iadd rfl ?_
  refine wp_sld rfl (hv 2 (by decide) (by decide)) ?_
  refine wp_cV rfl l_12_46 i_X10_strength m_X10_strength rfl (by decide) hs rfl (Nat.le_of_ble_eq_true rfl) hRL (fun r w2 hh => ?_)
  obtain ⟨v, I1, L1, b1, rfl, rfl, c2⟩ := hh
  refine wp_aload_n rfl rfl ?_
  refine wp_aload_n rfl rfl ?_
  refine wp_iload_n rfl rfl ?_
  refine wp_iconst (v := 1) rfl rfl ?_
  refine wp_iadd rfl ?_
  refine wp_sld rfl (hv 1 (by decide) (by decide)) ?_
  refine wp_aload_n rfl rfl ?_
  refine wp_iload_n rfl rfl ?_
  refine wp_iconst (v := 2) rfl rfl ?_
  refine wp_iadd rfl ?_
  refine wp_sld rfl (hv 2 (by decide) (by decide)) ?_
  refine wp_cV rfl l_12_49 i_X11_strength m_X11_strength rfl (by decide) c2 rfl (Nat.le_of_ble_eq_true rfl) hRL (fun r w2 hh => ?_)
  obtain ⟨I2, L2, rfl, rfl, hI⟩ := hh
  refine wp_icmp_eq 883 rfl rfl (fun _ => ?_) (fun h => absurd rfl h)
  exact K I2 L2 b1 hI
set_option maxRecDepth 20000 in
theorem lc_plan {Inv : IF → LF → Bool → Prop} {G : Gl} {n : String} {i : Int32} {I : IF} {L : LF} {b : Bool} (hv : LVin G i) (hs : Step Inv G 100 Y_X10_plan Y_X11_plan [.int (sx G (i + 1)), .long (((sx G (i + 2)).toInt64 <<< ((32 : Int32).toInt64 &&& 63)) ||| ((sx G (i + 3)).toInt64 &&& 4294967295))] I L b) (K : ∀ I2 L2 b2, Inv I2 L2 b2 → LW G n 883 (LV i) [] I2 L2 b2) : LW G n 316 (LV i) [] I L b := by
  refine wp_aload_n rfl rfl ?_
  refine wp_aload_n rfl rfl ?_
  refine wp_iload_n rfl rfl ?_
  refine wp_iconst (v := 1) rfl rfl ?_
  refine wp_iadd rfl ?_
  refine wp_sld rfl (hv 1 (by decide) (by decide)) ?_
  refine wp_aload_n rfl rfl ?_
  refine wp_iload_n rfl rfl ?_
  refine wp_iconst (v := 2) rfl rfl ?_
  refine wp_iadd rfl ?_
  refine wp_sld rfl (hv 2 (by decide) (by decide)) ?_
  refine wp_i2l rfl ?_
  refine wp_bipush (v := 32) rfl rfl ?_
  refine wp_lshl rfl ?_
  refine wp_aload_n rfl rfl ?_
  refine wp_iload_n rfl rfl ?_
  refine wp_iconst (v := 3) rfl rfl ?_
  refine wp_iadd rfl ?_
  refine wp_sld rfl (hv 3 (by decide) (by decide)) ?_
  refine wp_i2l rfl ?_
  refine wp_ldc2 (v := 4294967295) rfl cl_12_50 ?_
  refine wp_land rfl ?_
  refine wp_lor rfl ?_
  refine wp_cV rfl l_12_52 i_X10_plan m_X10_plan rfl (by decide) hs rfl (Nat.le_of_ble_eq_true rfl) hRL (fun r w2 hh => ?_)
  obtain ⟨v, I1, L1, b1, rfl, rfl, c2⟩ := hh
  refine wp_aload_n rfl rfl ?_
  refine wp_aload_n rfl rfl ?_
  refine wp_iload_n rfl rfl ?_
  refine wp_iconst (v := 1) rfl rfl ?_
  refine wp_iadd rfl ?_
  refine wp_sld rfl (hv 1 (by decide) (by decide)) ?_
  refine wp_aload_n rfl rfl ?_
  refine wp_iload_n rfl rfl ?_
  refine wp_iconst (v := 2) rfl rfl ?_
  refine wp_iadd rfl ?_
  refine wp_sld rfl (hv 2 (by decide) (by decide)) ?_
  refine wp_i2l rfl ?_
  refine wp_bipush (v := 32) rfl rfl ?_
  refine wp_lshl rfl ?_
  refine wp_aload_n rfl rfl ?_
  refine wp_iload_n rfl rfl ?_
  refine wp_iconst (v := 3) rfl rfl ?_
  refine wp_iadd rfl ?_
  refine wp_sld rfl (hv 3 (by decide) (by decide)) ?_
  refine wp_i2l rfl ?_
  refine wp_ldc2 (v := 4294967295) rfl cl_12_50 ?_
  refine wp_land rfl ?_
  refine wp_lor rfl ?_
  refine wp_cV rfl l_12_56 i_X11_plan m_X11_plan rfl (by decide) c2 rfl (Nat.le_of_ble_eq_true rfl) hRL (fun r w2 hh => ?_)
  obtain ⟨I2, L2, rfl, rfl, hI⟩ := hh
  refine wp_icmp_eq 883 rfl rfl (fun _ => ?_) (fun h => absurd rfl h)
  exact K I2 L2 b1 hI
set_option maxRecDepth 20000 in
theorem lc_weekOf {Inv : IF → LF → Bool → Prop} {G : Gl} {n : String} {i : Int32} {I : IF} {L : LF} {b : Bool} (hv : LVin G i) (hs : Step Inv G 100 Y_X10_weekOf Y_X11_weekOf [.int (sx G (i + 1))] I L b) (K : ∀ I2 L2 b2, Inv I2 L2 b2 → LW G n 883 (LV i) [] I2 L2 b2) : LW G n 367 (LV i) [] I L b := by
  refine wp_aload_n rfl rfl ?_
  refine wp_aload_n rfl rfl ?_
  refine wp_iload_n rfl rfl ?_
  refine wp_iconst (v := 1) rfl rfl ?_
  refine wp_iadd rfl ?_
  refine wp_sld rfl (hv 1 (by decide) (by decide)) ?_
  refine wp_cV rfl l_12_57 i_X10_weekOf m_X10_weekOf rfl (by decide) hs rfl (Nat.le_of_ble_eq_true rfl) hRL (fun r w2 hh => ?_)
  obtain ⟨v, I1, L1, b1, rfl, rfl, c2⟩ := hh
  refine wp_aload_n rfl rfl ?_
  refine wp_aload_n rfl rfl ?_
  refine wp_iload_n rfl rfl ?_
  refine wp_iconst (v := 1) rfl rfl ?_
  refine wp_iadd rfl ?_
  refine wp_sld rfl (hv 1 (by decide) (by decide)) ?_
  refine wp_cV rfl l_12_60 i_X11_weekOf m_X11_weekOf rfl (by decide) c2 rfl (Nat.le_of_ble_eq_true rfl) hRL (fun r w2 hh => ?_)
  obtain ⟨I2, L2, rfl, rfl, hI⟩ := hh
  refine wp_icmp_eq 883 rfl rfl (fun _ => ?_) (fun h => absurd rfl h)
  exact K I2 L2 b1 hI
set_option maxRecDepth 20000 in
theorem lc_channels {Inv : IF → LF → Bool → Prop} {G : Gl} {n : String} {i : Int32} {I : IF} {L : LF} {b : Bool} (hv : LVin G i) (hs : Step Inv G 100 Y_X10_channels Y_X11_channels [] I L b) (K : ∀ I2 L2 b2, Inv I2 L2 b2 → LW G n 883 (LV i) [] I2 L2 b2) : LW G n 384 (LV i) [] I L b := by
  refine wp_aload_n rfl rfl ?_
  refine wp_cV rfl l_12_61 i_X10_channels m_X10_channels rfl (by decide) hs rfl (Nat.le_of_ble_eq_true rfl) hRL (fun r w2 hh => ?_)
  obtain ⟨v, I1, L1, b1, rfl, rfl, c2⟩ := hh
  refine wp_aload_n rfl rfl ?_
  refine wp_cV rfl l_12_64 i_X11_channels m_X11_channels rfl (by decide) c2 rfl (Nat.le_of_ble_eq_true rfl) hRL (fun r w2 hh => ?_)
  obtain ⟨I2, L2, rfl, rfl, hI⟩ := hh
  refine wp_icmp_eq 883 rfl rfl (fun _ => ?_) (fun h => absurd rfl h)
  exact K I2 L2 b1 hI
set_option maxRecDepth 20000 in
theorem lc_channelOf {Inv : IF → LF → Bool → Prop} {G : Gl} {n : String} {i : Int32} {I : IF} {L : LF} {b : Bool} (hv : LVin G i) (hs : Step Inv G 100 Y_X10_channelOf Y_X11_channelOf [.int (sx G (i + 1))] I L b) (K : ∀ I2 L2 b2, Inv I2 L2 b2 → LW G n 883 (LV i) [] I2 L2 b2) : LW G n 391 (LV i) [] I L b := by
  refine wp_aload_n rfl rfl ?_
  refine wp_aload_n rfl rfl ?_
  refine wp_iload_n rfl rfl ?_
  refine wp_iconst (v := 1) rfl rfl ?_
  refine wp_iadd rfl ?_
  refine wp_sld rfl (hv 1 (by decide) (by decide)) ?_
  refine wp_cV rfl l_12_65 i_X10_channelOf m_X10_channelOf rfl (by decide) hs rfl (Nat.le_of_ble_eq_true rfl) hRL (fun r w2 hh => ?_)
  obtain ⟨v, I1, L1, b1, rfl, rfl, c2⟩ := hh
  refine wp_aload_n rfl rfl ?_
  refine wp_aload_n rfl rfl ?_
  refine wp_iload_n rfl rfl ?_
  refine wp_iconst (v := 1) rfl rfl ?_
  refine wp_iadd rfl ?_
  refine wp_sld rfl (hv 1 (by decide) (by decide)) ?_
  refine wp_cV rfl l_12_68 i_X11_channelOf m_X11_channelOf rfl (by decide) c2 rfl (Nat.le_of_ble_eq_true rfl) hRL (fun r w2 hh => ?_)
  obtain ⟨I2, L2, rfl, rfl, hI⟩ := hh
  refine wp_icmp_eq 883 rfl rfl (fun _ => ?_) (fun h => absurd rfl h)
  exact K I2 L2 b1 hI
set_option maxRecDepth 20000 in
theorem lc_feed {Inv : IF → LF → Bool → Prop} {G : Gl} {n : String} {i : Int32} {I : IF} {L : LF} {b : Bool} (hv : LVin G i) (hs : Step Inv G 100 Y_X10_feed Y_X11_feed [.int (sx G (i + 1)), .int (sx G (i + 2)), .int (sx G (i + 3)), .int (sx G (i + 4)), .int (sx G (i + 5))] I L b) (K : ∀ I2 L2 b2, Inv I2 L2 b2 → LW G n 883 (LV i) [] I2 L2 b2) : LW G n 408 (LV i) [] I L b := by
  refine wp_aload_n rfl rfl ?_
  refine wp_aload_n rfl rfl ?_
  refine wp_iload_n rfl rfl ?_
  refine wp_iconst (v := 1) rfl rfl ?_
  refine wp_iadd rfl ?_
  refine wp_sld rfl (hv 1 (by decide) (by decide)) ?_
  refine wp_aload_n rfl rfl ?_
  refine wp_iload_n rfl rfl ?_
  refine wp_iconst (v := 2) rfl rfl ?_
  refine wp_iadd rfl ?_
  refine wp_sld rfl (hv 2 (by decide) (by decide)) ?_
  refine wp_aload_n rfl rfl ?_
  refine wp_iload_n rfl rfl ?_
  refine wp_iconst (v := 3) rfl rfl ?_
  refine wp_iadd rfl ?_
  refine wp_sld rfl (hv 3 (by decide) (by decide)) ?_
  refine wp_aload_n rfl rfl ?_
  refine wp_iload_n rfl rfl ?_
  refine wp_iconst (v := 4) rfl rfl ?_
  refine wp_iadd rfl ?_
  refine wp_sld rfl (hv 4 (by decide) (by decide)) ?_
  refine wp_aload_n rfl rfl ?_
  refine wp_iload_n rfl rfl ?_
  refine wp_iconst (v := 5) rfl rfl ?_
  refine wp_iadd rfl ?_
  refine wp_sld rfl (hv 5 (by decide) (by decide)) ?_
  refine wp_cV rfl l_12_69 i_X10_feed m_X10_feed rfl (by decide) hs rfl (Nat.le_of_ble_eq_true rfl) hRL (fun r w2 hh => ?_)
  obtain ⟨v, I1, L1, b1, rfl, rfl, c2⟩ := hh
  refine wp_aload_n rfl rfl ?_
  refine wp_aload_n rfl rfl ?_
  refine wp_iload_n rfl rfl ?_
  refine wp_iconst (v := 1) rfl rfl ?_
  refine wp_iadd rfl ?_
  refine wp_sld rfl (hv 1 (by decide) (by decide)) ?_
  refine wp_aload_n rfl rfl ?_
  refine wp_iload_n rfl rfl ?_
  refine wp_iconst (v := 2) rfl rfl ?_
  refine wp_iadd rfl ?_
  refine wp_sld rfl (hv 2 (by decide) (by decide)) ?_
  refine wp_aload_n rfl rfl ?_
  refine wp_iload_n rfl rfl ?_
  refine wp_iconst (v := 3) rfl rfl ?_
  refine wp_iadd rfl ?_
  refine wp_sld rfl (hv 3 (by decide) (by decide)) ?_
  refine wp_aload_n rfl rfl ?_
  refine wp_iload_n rfl rfl ?_
  refine wp_iconst (v := 4) rfl rfl ?_
  refine wp_iadd rfl ?_
  refine wp_sld rfl (hv 4 (by decide) (by decide)) ?_
  refine wp_aload_n rfl rfl ?_
  refine wp_iload_n rfl rfl ?_
  refine wp_iconst (v := 5) rfl rfl ?_
  refine wp_iadd rfl ?_
  refine wp_sld rfl (hv 5 (by decide) (by decide)) ?_
  refine wp_cV rfl l_12_72 i_X11_feed m_X11_feed rfl (by decide) c2 rfl (Nat.le_of_ble_eq_true rfl) hRL (fun r w2 hh => ?_)
  obtain ⟨I2, L2, rfl, rfl, hI⟩ := hh
  refine wp_icmp_eq 883 rfl rfl (fun _ => ?_) (fun h => absurd rfl h)
  exact K I2 L2 b1 hI
set_option maxRecDepth 20000 in
theorem lc_end {Inv : IF → LF → Bool → Prop} {G : Gl} {n : String} {i : Int32} {I : IF} {L : LF} {b : Bool} (hv : LVin G i) (hs : Step Inv G 100 Y_X10_end Y_X11_end [.int (sx G (i + 1))] I L b) (K : ∀ I2 L2 b2, Inv I2 L2 b2 → LW G n 883 (LV i) [] I2 L2 b2) : LW G n 465 (LV i) [] I L b := by
  refine wp_aload_n rfl rfl ?_
  refine wp_aload_n rfl rfl ?_
  refine wp_iload_n rfl rfl ?_
  refine wp_iconst (v := 1) rfl rfl ?_
  refine wp_iadd rfl ?_
  refine wp_sld rfl (hv 1 (by decide) (by decide)) ?_
  refine wp_cV rfl l_12_73 i_X10_end m_X10_end rfl (by decide) hs rfl (Nat.le_of_ble_eq_true rfl) hRL (fun r w2 hh => ?_)
  obtain ⟨v, I1, L1, b1, rfl, rfl, c2⟩ := hh
  refine wp_aload_n rfl rfl ?_
  refine wp_aload_n rfl rfl ?_
  refine wp_iload_n rfl rfl ?_
  refine wp_iconst (v := 1) rfl rfl ?_
  refine wp_iadd rfl ?_
  refine wp_sld rfl (hv 1 (by decide) (by decide)) ?_
  refine wp_cV rfl l_12_76 i_X11_end m_X11_end rfl (by decide) c2 rfl (Nat.le_of_ble_eq_true rfl) hRL (fun r w2 hh => ?_)
  obtain ⟨I2, L2, rfl, rfl, hI⟩ := hh
  refine wp_icmp_eq 883 rfl rfl (fun _ => ?_) (fun h => absurd rfl h)
  exact K I2 L2 b1 hI
set_option maxRecDepth 20000 in
theorem lc_law {Inv : IF → LF → Bool → Prop} {G : Gl} {n : String} {i : Int32} {I : IF} {L : LF} {b : Bool} (hv : LVin G i) (hs : Step Inv G 100 Y_X10_law Y_X11_law [] I L b) (K : ∀ I2 L2 b2, Inv I2 L2 b2 → LW G n 883 (LV i) [] I2 L2 b2) : LW G n 482 (LV i) [] I L b := by
  refine wp_aload_n rfl rfl ?_
  refine wp_cV rfl l_12_77 i_X10_law m_X10_law rfl (by decide) hs rfl (Nat.le_of_ble_eq_true rfl) hRL (fun r w2 hh => ?_)
  obtain ⟨v, I1, L1, b1, rfl, rfl, c2⟩ := hh
  refine wp_aload_n rfl rfl ?_
  refine wp_cV rfl l_12_80 i_X11_law m_X11_law rfl (by decide) c2 rfl (Nat.le_of_ble_eq_true rfl) hRL (fun r w2 hh => ?_)
  obtain ⟨I2, L2, rfl, rfl, hI⟩ := hh
  refine wp_icmp_eq 883 rfl rfl (fun _ => ?_) (fun h => absurd rfl h)
  exact K I2 L2 b1 hI
set_option maxRecDepth 20000 in
theorem lc_fault {Inv : IF → LF → Bool → Prop} {G : Gl} {n : String} {i : Int32} {I : IF} {L : LF} {b : Bool} (hv : LVin G i) (hs : Step Inv G 100 Y_X10_fault Y_X11_fault [] I L b) (K : ∀ I2 L2 b2, Inv I2 L2 b2 → LW G n 883 (LV i) [] I2 L2 b2) : LW G n 489 (LV i) [] I L b := by
  refine wp_aload_n rfl rfl ?_
  refine wp_cV rfl l_12_81 i_X10_fault m_X10_fault rfl (by decide) hs rfl (Nat.le_of_ble_eq_true rfl) hRL (fun r w2 hh => ?_)
  obtain ⟨v, I1, L1, b1, rfl, rfl, c2⟩ := hh
  refine wp_aload_n rfl rfl ?_
  refine wp_cV rfl l_12_84 i_X11_fault m_X11_fault rfl (by decide) c2 rfl (Nat.le_of_ble_eq_true rfl) hRL (fun r w2 hh => ?_)
  obtain ⟨I2, L2, rfl, rfl, hI⟩ := hh
  refine wp_icmp_eq 883 rfl rfl (fun _ => ?_) (fun h => absurd rfl h)
  exact K I2 L2 b1 hI
set_option maxRecDepth 20000 in
theorem lc_deliver {Inv : IF → LF → Bool → Prop} {G : Gl} {n : String} {i : Int32} {I : IF} {L : LF} {b : Bool} (hv : LVin G i) (hs : Step Inv G 100 Y_X10_deliver Y_X11_deliver [.int (sx G (i + 1))] I L b) (K : ∀ I2 L2 b2, Inv I2 L2 b2 → LW G n 883 (LV i) [] I2 L2 b2) : LW G n 496 (LV i) [] I L b := by
  refine wp_aload_n rfl rfl ?_
  refine wp_aload_n rfl rfl ?_
  refine wp_iload_n rfl rfl ?_
  refine wp_iconst (v := 1) rfl rfl ?_
  refine wp_iadd rfl ?_
  refine wp_sld rfl (hv 1 (by decide) (by decide)) ?_
  refine wp_cV rfl l_12_85 i_X10_deliver m_X10_deliver rfl (by decide) hs rfl (Nat.le_of_ble_eq_true rfl) hRL (fun r w2 hh => ?_)
  obtain ⟨v, I1, L1, b1, rfl, rfl, c2⟩ := hh
  refine wp_aload_n rfl rfl ?_
  refine wp_aload_n rfl rfl ?_
  refine wp_iload_n rfl rfl ?_
  refine wp_iconst (v := 1) rfl rfl ?_
  refine wp_iadd rfl ?_
  refine wp_sld rfl (hv 1 (by decide) (by decide)) ?_
  refine wp_cV rfl l_12_88 i_X11_deliver m_X11_deliver rfl (by decide) c2 rfl (Nat.le_of_ble_eq_true rfl) hRL (fun r w2 hh => ?_)
  obtain ⟨I2, L2, rfl, rfl, hI⟩ := hh
  refine wp_icmp_eq 883 rfl rfl (fun _ => ?_) (fun h => absurd rfl h)
  exact K I2 L2 b1 hI
set_option maxRecDepth 20000 in
theorem lc_go {Inv : IF → LF → Bool → Prop} {G : Gl} {n : String} {i : Int32} {I : IF} {L : LF} {b : Bool} (hv : LVin G i) (hs : Step Inv G 100 Y_X10_go Y_X11_go [] I L b) (K : ∀ I2 L2 b2, Inv I2 L2 b2 → LW G n 883 (LV i) [] I2 L2 b2) : LW G n 513 (LV i) [] I L b := by
  refine wp_aload_n rfl rfl ?_
  refine wp_cV rfl l_12_89 i_X10_go m_X10_go rfl (by decide) hs rfl (Nat.le_of_ble_eq_true rfl) hRL (fun r w2 hh => ?_)
  obtain ⟨v, I1, L1, b1, rfl, rfl, c2⟩ := hh
  refine wp_aload_n rfl rfl ?_
  refine wp_cV rfl l_12_92 i_X11_go m_X11_go rfl (by decide) c2 rfl (Nat.le_of_ble_eq_true rfl) hRL (fun r w2 hh => ?_)
  obtain ⟨I2, L2, rfl, rfl, hI⟩ := hh
  refine wp_icmp_eq 883 rfl rfl (fun _ => ?_) (fun h => absurd rfl h)
  exact K I2 L2 b1 hI
set_option maxRecDepth 20000 in
theorem lc_failt {Inv : IF → LF → Bool → Prop} {G : Gl} {n : String} {i : Int32} {I : IF} {L : LF} {b : Bool} (hv : LVin G i) (h0 : ¬ sx G (i + 2) = 0) (hs : Step Inv G 100 Y_X10_fail Y_X11_fail [.int (sx G (i + 1)), .int 1] I L b) (K : ∀ I2 L2 b2, Inv I2 L2 b2 → LW G n 883 (LV i) [] I2 L2 b2) : LW G n 520 (LV i) [] I L b := by
  refine wp_aload_n rfl rfl ?_
  refine wp_aload_n rfl rfl ?_
  refine wp_iload_n rfl rfl ?_
  refine wp_iconst (v := 1) rfl rfl ?_
  refine wp_iadd rfl ?_
  refine wp_sld rfl (hv 1 (by decide) (by decide)) ?_
  refine wp_aload_n rfl rfl ?_
  refine wp_iload_n rfl rfl ?_
  refine wp_iconst (v := 2) rfl rfl ?_
  refine wp_iadd rfl ?_
  refine wp_sld rfl (hv 2 (by decide) (by decide)) ?_
  refine wp_if_eq 534 rfl rfl (fun h => absurd h h0) (fun _ => ?_)
  refine wp_iconst (v := 1) rfl rfl ?_
  refine wp_goto 535 rfl rfl ?_
  refine wp_cV rfl l_12_93 i_X10_fail m_X10_fail rfl (by decide) hs rfl (Nat.le_of_ble_eq_true rfl) hRL (fun r w2 hh => ?_)
  obtain ⟨v, I1, L1, b1, rfl, rfl, c2⟩ := hh
  refine wp_aload_n rfl rfl ?_
  refine wp_aload_n rfl rfl ?_
  refine wp_iload_n rfl rfl ?_
  refine wp_iconst (v := 1) rfl rfl ?_
  refine wp_iadd rfl ?_
  refine wp_sld rfl (hv 1 (by decide) (by decide)) ?_
  refine wp_aload_n rfl rfl ?_
  refine wp_iload_n rfl rfl ?_
  refine wp_iconst (v := 2) rfl rfl ?_
  refine wp_iadd rfl ?_
  refine wp_sld rfl (hv 2 (by decide) (by decide)) ?_
  refine wp_if_eq 550 rfl rfl (fun h => absurd h h0) (fun _ => ?_)
  refine wp_iconst (v := 1) rfl rfl ?_
  refine wp_goto 551 rfl rfl ?_
  refine wp_cV rfl l_12_97 i_X11_fail m_X11_fail rfl (by decide) c2 rfl (Nat.le_of_ble_eq_true rfl) hRL (fun r w2 hh => ?_)
  obtain ⟨I2, L2, rfl, rfl, hI⟩ := hh
  refine wp_icmp_eq 883 rfl rfl (fun _ => ?_) (fun h => absurd rfl h)
  exact K I2 L2 b1 hI
set_option maxRecDepth 20000 in
theorem lc_failf {Inv : IF → LF → Bool → Prop} {G : Gl} {n : String} {i : Int32} {I : IF} {L : LF} {b : Bool} (hv : LVin G i) (h0 : sx G (i + 2) = 0) (hs : Step Inv G 100 Y_X10_fail Y_X11_fail [.int (sx G (i + 1)), .int 0] I L b) (K : ∀ I2 L2 b2, Inv I2 L2 b2 → LW G n 883 (LV i) [] I2 L2 b2) : LW G n 520 (LV i) [] I L b := by
  refine wp_aload_n rfl rfl ?_
  refine wp_aload_n rfl rfl ?_
  refine wp_iload_n rfl rfl ?_
  refine wp_iconst (v := 1) rfl rfl ?_
  refine wp_iadd rfl ?_
  refine wp_sld rfl (hv 1 (by decide) (by decide)) ?_
  refine wp_aload_n rfl rfl ?_
  refine wp_iload_n rfl rfl ?_
  refine wp_iconst (v := 2) rfl rfl ?_
  refine wp_iadd rfl ?_
  refine wp_sld rfl (hv 2 (by decide) (by decide)) ?_
  refine wp_if_eq 534 rfl rfl (fun _ => ?_) (fun h => absurd h0 h)
  refine wp_iconst (v := 0) rfl rfl ?_
  refine wp_cV rfl l_12_93 i_X10_fail m_X10_fail rfl (by decide) hs rfl (Nat.le_of_ble_eq_true rfl) hRL (fun r w2 hh => ?_)
  obtain ⟨v, I1, L1, b1, rfl, rfl, c2⟩ := hh
  refine wp_aload_n rfl rfl ?_
  refine wp_aload_n rfl rfl ?_
  refine wp_iload_n rfl rfl ?_
  refine wp_iconst (v := 1) rfl rfl ?_
  refine wp_iadd rfl ?_
  refine wp_sld rfl (hv 1 (by decide) (by decide)) ?_
  refine wp_aload_n rfl rfl ?_
  refine wp_iload_n rfl rfl ?_
  refine wp_iconst (v := 2) rfl rfl ?_
  refine wp_iadd rfl ?_
  refine wp_sld rfl (hv 2 (by decide) (by decide)) ?_
  refine wp_if_eq 550 rfl rfl (fun _ => ?_) (fun h => absurd h0 h)
  refine wp_iconst (v := 0) rfl rfl ?_
  refine wp_cV rfl l_12_97 i_X11_fail m_X11_fail rfl (by decide) c2 rfl (Nat.le_of_ble_eq_true rfl) hRL (fun r w2 hh => ?_)
  obtain ⟨I2, L2, rfl, rfl, hI⟩ := hh
  refine wp_icmp_eq 883 rfl rfl (fun _ => ?_) (fun h => absurd rfl h)
  exact K I2 L2 b1 hI
set_option maxRecDepth 20000 in
theorem lc_on {Inv : IF → LF → Bool → Prop} {G : Gl} {n : String} {i : Int32} {I : IF} {L : LF} {b : Bool} (hv : LVin G i) (hs : Step Inv G 100 Y_X10_on Y_X11_on [.int (sx G (i + 1))] I L b) (K : ∀ I2 L2 b2, Inv I2 L2 b2 → LW G n 883 (LV i) [] I2 L2 b2) : LW G n 555 (LV i) [] I L b := by
  refine wp_aload_n rfl rfl ?_
  refine wp_aload_n rfl rfl ?_
  refine wp_iload_n rfl rfl ?_
  refine wp_iconst (v := 1) rfl rfl ?_
  refine wp_iadd rfl ?_
  refine wp_sld rfl (hv 1 (by decide) (by decide)) ?_
  refine wp_cV rfl l_12_98 i_X10_on m_X10_on rfl (by decide) hs rfl (Nat.le_of_ble_eq_true rfl) hRL (fun r w2 hh => ?_)
  obtain ⟨v, I1, L1, b1, rfl, rfl, c2⟩ := hh
  refine wp_aload_n rfl rfl ?_
  refine wp_aload_n rfl rfl ?_
  refine wp_iload_n rfl rfl ?_
  refine wp_iconst (v := 1) rfl rfl ?_
  refine wp_iadd rfl ?_
  refine wp_sld rfl (hv 1 (by decide) (by decide)) ?_
  refine wp_cV rfl l_12_101 i_X11_on m_X11_on rfl (by decide) c2 rfl (Nat.le_of_ble_eq_true rfl) hRL (fun r w2 hh => ?_)
  obtain ⟨I2, L2, rfl, rfl, hI⟩ := hh
  refine wp_icmp_eq 883 rfl rfl (fun _ => ?_) (fun h => absurd rfl h)
  exact K I2 L2 b1 hI
set_option maxRecDepth 20000 in
theorem lc_picture {Inv : IF → LF → Bool → Prop} {G : Gl} {n : String} {i : Int32} {I : IF} {L : LF} {b : Bool} (hv : LVin G i) (hs : Step Inv G 100 Y_X10_picture Y_X11_picture [.int (sx G (i + 1))] I L b) (K : ∀ I2 L2 b2, Inv I2 L2 b2 → LW G n 883 (LV i) [] I2 L2 b2) : LW G n 572 (LV i) [] I L b := by
  refine wp_aload_n rfl rfl ?_
  refine wp_aload_n rfl rfl ?_
  refine wp_iload_n rfl rfl ?_
  refine wp_iconst (v := 1) rfl rfl ?_
  refine wp_iadd rfl ?_
  refine wp_sld rfl (hv 1 (by decide) (by decide)) ?_
  refine wp_cV rfl l_12_102 i_X10_picture m_X10_picture rfl (by decide) hs rfl (Nat.le_of_ble_eq_true rfl) hRL (fun r w2 hh => ?_)
  obtain ⟨v, I1, L1, b1, rfl, rfl, c2⟩ := hh
  refine wp_aload_n rfl rfl ?_
  refine wp_aload_n rfl rfl ?_
  refine wp_iload_n rfl rfl ?_
  refine wp_iconst (v := 1) rfl rfl ?_
  refine wp_iadd rfl ?_
  refine wp_sld rfl (hv 1 (by decide) (by decide)) ?_
  refine wp_cV rfl l_12_105 i_X11_picture m_X11_picture rfl (by decide) c2 rfl (Nat.le_of_ble_eq_true rfl) hRL (fun r w2 hh => ?_)
  obtain ⟨I2, L2, rfl, rfl, hI⟩ := hh
  refine wp_icmp_eq 883 rfl rfl (fun _ => ?_) (fun h => absurd rfl h)
  exact K I2 L2 b1 hI
set_option maxRecDepth 20000 in
theorem lc_snow {Inv : IF → LF → Bool → Prop} {G : Gl} {n : String} {i : Int32} {I : IF} {L : LF} {b : Bool} (hv : LVin G i) (hs : Step Inv G 100 Y_X10_snow Y_X11_snow [.int (sx G (i + 1))] I L b) (K : ∀ I2 L2 b2, Inv I2 L2 b2 → LW G n 883 (LV i) [] I2 L2 b2) : LW G n 589 (LV i) [] I L b := by
  refine wp_aload_n rfl rfl ?_
  refine wp_aload_n rfl rfl ?_
  refine wp_iload_n rfl rfl ?_
  refine wp_iconst (v := 1) rfl rfl ?_
  refine wp_iadd rfl ?_
  refine wp_sld rfl (hv 1 (by decide) (by decide)) ?_
  refine wp_cV rfl l_12_106 i_X10_snow m_X10_snow rfl (by decide) hs rfl (Nat.le_of_ble_eq_true rfl) hRL (fun r w2 hh => ?_)
  obtain ⟨v, I1, L1, b1, rfl, rfl, c2⟩ := hh
  refine wp_aload_n rfl rfl ?_
  refine wp_aload_n rfl rfl ?_
  refine wp_iload_n rfl rfl ?_
  refine wp_iconst (v := 1) rfl rfl ?_
  refine wp_iadd rfl ?_
  refine wp_sld rfl (hv 1 (by decide) (by decide)) ?_
  refine wp_cV rfl l_12_109 i_X11_snow m_X11_snow rfl (by decide) c2 rfl (Nat.le_of_ble_eq_true rfl) hRL (fun r w2 hh => ?_)
  obtain ⟨I2, L2, rfl, rfl, hI⟩ := hh
  refine wp_icmp_eq 883 rfl rfl (fun _ => ?_) (fun h => absurd rfl h)
  exact K I2 L2 b1 hI
set_option maxRecDepth 20000 in
theorem lc_hurt {Inv : IF → LF → Bool → Prop} {G : Gl} {n : String} {i : Int32} {I : IF} {L : LF} {b : Bool} (hv : LVin G i) (hs : Step Inv G 100 Y_X10_hurt Y_X11_hurt [.int (sx G (i + 1))] I L b) (K : ∀ I2 L2 b2, Inv I2 L2 b2 → LW G n 883 (LV i) [] I2 L2 b2) : LW G n 606 (LV i) [] I L b := by
  refine wp_aload_n rfl rfl ?_
  refine wp_aload_n rfl rfl ?_
  refine wp_iload_n rfl rfl ?_
  refine wp_iconst (v := 1) rfl rfl ?_
  refine wp_iadd rfl ?_
  refine wp_sld rfl (hv 1 (by decide) (by decide)) ?_
  refine wp_cV rfl l_12_110 i_X10_hurt m_X10_hurt rfl (by decide) hs rfl (Nat.le_of_ble_eq_true rfl) hRL (fun r w2 hh => ?_)
  obtain ⟨v, I1, L1, b1, rfl, rfl, c2⟩ := hh
  refine wp_aload_n rfl rfl ?_
  refine wp_aload_n rfl rfl ?_
  refine wp_iload_n rfl rfl ?_
  refine wp_iconst (v := 1) rfl rfl ?_
  refine wp_iadd rfl ?_
  refine wp_sld rfl (hv 1 (by decide) (by decide)) ?_
  refine wp_cV rfl l_12_113 i_X11_hurt m_X11_hurt rfl (by decide) c2 rfl (Nat.le_of_ble_eq_true rfl) hRL (fun r w2 hh => ?_)
  obtain ⟨I2, L2, rfl, rfl, hI⟩ := hh
  refine wp_icmp_eq 883 rfl rfl (fun _ => ?_) (fun h => absurd rfl h)
  exact K I2 L2 b1 hI
set_option maxRecDepth 20000 in
theorem lc_blame {Inv : IF → LF → Bool → Prop} {G : Gl} {n : String} {i : Int32} {I : IF} {L : LF} {b : Bool} (hv : LVin G i) (hs : Step Inv G 100 Y_X10_blame Y_X11_blame [.int (sx G (i + 1))] I L b) (K : ∀ I2 L2 b2, Inv I2 L2 b2 → LW G n 883 (LV i) [] I2 L2 b2) : LW G n 623 (LV i) [] I L b := by
  refine wp_aload_n rfl rfl ?_
  refine wp_aload_n rfl rfl ?_
  refine wp_iload_n rfl rfl ?_
  refine wp_iconst (v := 1) rfl rfl ?_
  refine wp_iadd rfl ?_
  refine wp_sld rfl (hv 1 (by decide) (by decide)) ?_
  refine wp_cV rfl l_12_114 i_X10_blame m_X10_blame rfl (by decide) hs rfl (Nat.le_of_ble_eq_true rfl) hRL (fun r w2 hh => ?_)
  obtain ⟨v, I1, L1, b1, rfl, rfl, c2⟩ := hh
  refine wp_aload_n rfl rfl ?_
  refine wp_aload_n rfl rfl ?_
  refine wp_iload_n rfl rfl ?_
  refine wp_iconst (v := 1) rfl rfl ?_
  refine wp_iadd rfl ?_
  refine wp_sld rfl (hv 1 (by decide) (by decide)) ?_
  refine wp_cV rfl l_12_117 i_X11_blame m_X11_blame rfl (by decide) c2 rfl (Nat.le_of_ble_eq_true rfl) hRL (fun r w2 hh => ?_)
  obtain ⟨I2, L2, rfl, rfl, hI⟩ := hh
  refine wp_icmp_eq 883 rfl rfl (fun _ => ?_) (fun h => absurd rfl h)
  exact K I2 L2 b1 hI
set_option maxRecDepth 20000 in
theorem lc_mastOf {Inv : IF → LF → Bool → Prop} {G : Gl} {n : String} {i : Int32} {I : IF} {L : LF} {b : Bool} (hv : LVin G i) (hs : Step Inv G 100 Y_X10_mastOf Y_X11_mastOf [.int (sx G (i + 1)), .int (sx G (i + 2))] I L b) (K : ∀ I2 L2 b2, Inv I2 L2 b2 → LW G n 883 (LV i) [] I2 L2 b2) : LW G n 640 (LV i) [] I L b := by
  refine wp_aload_n rfl rfl ?_
  refine wp_aload_n rfl rfl ?_
  refine wp_iload_n rfl rfl ?_
  refine wp_iconst (v := 1) rfl rfl ?_
  refine wp_iadd rfl ?_
  refine wp_sld rfl (hv 1 (by decide) (by decide)) ?_
  refine wp_aload_n rfl rfl ?_
  refine wp_iload_n rfl rfl ?_
  refine wp_iconst (v := 2) rfl rfl ?_
  refine wp_iadd rfl ?_
  refine wp_sld rfl (hv 2 (by decide) (by decide)) ?_
  refine wp_cV rfl l_12_118 i_X10_mastOf m_X10_mastOf rfl (by decide) hs rfl (Nat.le_of_ble_eq_true rfl) hRL (fun r w2 hh => ?_)
  obtain ⟨v, I1, L1, b1, rfl, rfl, c2⟩ := hh
  refine wp_aload_n rfl rfl ?_
  refine wp_aload_n rfl rfl ?_
  refine wp_iload_n rfl rfl ?_
  refine wp_iconst (v := 1) rfl rfl ?_
  refine wp_iadd rfl ?_
  refine wp_sld rfl (hv 1 (by decide) (by decide)) ?_
  refine wp_aload_n rfl rfl ?_
  refine wp_iload_n rfl rfl ?_
  refine wp_iconst (v := 2) rfl rfl ?_
  refine wp_iadd rfl ?_
  refine wp_sld rfl (hv 2 (by decide) (by decide)) ?_
  refine wp_cV rfl l_12_121 i_X11_mastOf m_X11_mastOf rfl (by decide) c2 rfl (Nat.le_of_ble_eq_true rfl) hRL (fun r w2 hh => ?_)
  obtain ⟨I2, L2, rfl, rfl, hI⟩ := hh
  refine wp_icmp_eq 883 rfl rfl (fun _ => ?_) (fun h => absurd rfl h)
  exact K I2 L2 b1 hI
set_option maxRecDepth 20000 in
theorem lc_areaOf {Inv : IF → LF → Bool → Prop} {G : Gl} {n : String} {i : Int32} {I : IF} {L : LF} {b : Bool} (hv : LVin G i) (hs : Step Inv G 100 Y_X10_areaOf Y_X11_areaOf [.int (sx G (i + 1)), .int (sx G (i + 2))] I L b) (K : ∀ I2 L2 b2, Inv I2 L2 b2 → LW G n 883 (LV i) [] I2 L2 b2) : LW G n 667 (LV i) [] I L b := by
  refine wp_aload_n rfl rfl ?_
  refine wp_aload_n rfl rfl ?_
  refine wp_iload_n rfl rfl ?_
  refine wp_iconst (v := 1) rfl rfl ?_
  refine wp_iadd rfl ?_
  refine wp_sld rfl (hv 1 (by decide) (by decide)) ?_
  refine wp_aload_n rfl rfl ?_
  refine wp_iload_n rfl rfl ?_
  refine wp_iconst (v := 2) rfl rfl ?_
  refine wp_iadd rfl ?_
  refine wp_sld rfl (hv 2 (by decide) (by decide)) ?_
  refine wp_cV rfl l_12_122 i_X10_areaOf m_X10_areaOf rfl (by decide) hs rfl (Nat.le_of_ble_eq_true rfl) hRL (fun r w2 hh => ?_)
  obtain ⟨v, I1, L1, b1, rfl, rfl, c2⟩ := hh
  refine wp_aload_n rfl rfl ?_
  refine wp_aload_n rfl rfl ?_
  refine wp_iload_n rfl rfl ?_
  refine wp_iconst (v := 1) rfl rfl ?_
  refine wp_iadd rfl ?_
  refine wp_sld rfl (hv 1 (by decide) (by decide)) ?_
  refine wp_aload_n rfl rfl ?_
  refine wp_iload_n rfl rfl ?_
  refine wp_iconst (v := 2) rfl rfl ?_
  refine wp_iadd rfl ?_
  refine wp_sld rfl (hv 2 (by decide) (by decide)) ?_
  refine wp_cV rfl l_12_125 i_X11_areaOf m_X11_areaOf rfl (by decide) c2 rfl (Nat.le_of_ble_eq_true rfl) hRL (fun r w2 hh => ?_)
  obtain ⟨I2, L2, rfl, rfl, hI⟩ := hh
  refine wp_icmp_eq 883 rfl rfl (fun _ => ?_) (fun h => absurd rfl h)
  exact K I2 L2 b1 hI
set_option maxRecDepth 20000 in
theorem lc_count {Inv : IF → LF → Bool → Prop} {G : Gl} {n : String} {i : Int32} {I : IF} {L : LF} {b : Bool} (hv : LVin G i) (hs : Step Inv G 100 Y_X10_count Y_X11_count [.int (sx G (i + 1))] I L b) (K : ∀ I2 L2 b2, Inv I2 L2 b2 → LW G n 883 (LV i) [] I2 L2 b2) : LW G n 694 (LV i) [] I L b := by
  refine wp_aload_n rfl rfl ?_
  refine wp_aload_n rfl rfl ?_
  refine wp_iload_n rfl rfl ?_
  refine wp_iconst (v := 1) rfl rfl ?_
  refine wp_iadd rfl ?_
  refine wp_sld rfl (hv 1 (by decide) (by decide)) ?_
  refine wp_cV rfl l_12_126 i_X10_count m_X10_count rfl (by decide) hs rfl (Nat.le_of_ble_eq_true rfl) hRL (fun r w2 hh => ?_)
  obtain ⟨v, I1, L1, b1, rfl, rfl, c2⟩ := hh
  refine wp_aload_n rfl rfl ?_
  refine wp_aload_n rfl rfl ?_
  refine wp_iload_n rfl rfl ?_
  refine wp_iconst (v := 1) rfl rfl ?_
  refine wp_iadd rfl ?_
  refine wp_sld rfl (hv 1 (by decide) (by decide)) ?_
  refine wp_cV rfl l_12_129 i_X11_count m_X11_count rfl (by decide) c2 rfl (Nat.le_of_ble_eq_true rfl) hRL (fun r w2 hh => ?_)
  obtain ⟨I2, L2, rfl, rfl, hI⟩ := hh
  refine wp_icmp_eq 883 rfl rfl (fun _ => ?_) (fun h => absurd rfl h)
  exact K I2 L2 b1 hI
set_option maxRecDepth 20000 in
theorem lc_row {Inv : IF → LF → Bool → Prop} {G : Gl} {n : String} {i : Int32} {I : IF} {L : LF} {b : Bool} (hv : LVin G i) (hs : Step Inv G 100 Y_X10_row Y_X11_row [.int (sx G (i + 1)), .int (sx G (i + 2)), .int (sx G (i + 3))] I L b) (K : ∀ I2 L2 b2, Inv I2 L2 b2 → LW G n 883 (LV i) [] I2 L2 b2) : LW G n 711 (LV i) [] I L b := by
  refine wp_aload_n rfl rfl ?_
  refine wp_aload_n rfl rfl ?_
  refine wp_iload_n rfl rfl ?_
  refine wp_iconst (v := 1) rfl rfl ?_
  refine wp_iadd rfl ?_
  refine wp_sld rfl (hv 1 (by decide) (by decide)) ?_
  refine wp_aload_n rfl rfl ?_
  refine wp_iload_n rfl rfl ?_
  refine wp_iconst (v := 2) rfl rfl ?_
  refine wp_iadd rfl ?_
  refine wp_sld rfl (hv 2 (by decide) (by decide)) ?_
  refine wp_aload_n rfl rfl ?_
  refine wp_iload_n rfl rfl ?_
  refine wp_iconst (v := 3) rfl rfl ?_
  refine wp_iadd rfl ?_
  refine wp_sld rfl (hv 3 (by decide) (by decide)) ?_
  refine wp_cV rfl l_12_130 i_X10_row m_X10_row rfl (by decide) hs rfl (Nat.le_of_ble_eq_true rfl) hRL (fun r w2 hh => ?_)
  obtain ⟨v, I1, L1, b1, rfl, rfl, c2⟩ := hh
  refine wp_aload_n rfl rfl ?_
  refine wp_aload_n rfl rfl ?_
  refine wp_iload_n rfl rfl ?_
  refine wp_iconst (v := 1) rfl rfl ?_
  refine wp_iadd rfl ?_
  refine wp_sld rfl (hv 1 (by decide) (by decide)) ?_
  refine wp_aload_n rfl rfl ?_
  refine wp_iload_n rfl rfl ?_
  refine wp_iconst (v := 2) rfl rfl ?_
  refine wp_iadd rfl ?_
  refine wp_sld rfl (hv 2 (by decide) (by decide)) ?_
  refine wp_aload_n rfl rfl ?_
  refine wp_iload_n rfl rfl ?_
  refine wp_iconst (v := 3) rfl rfl ?_
  refine wp_iadd rfl ?_
  refine wp_sld rfl (hv 3 (by decide) (by decide)) ?_
  refine wp_cV rfl l_12_134 i_X11_row m_X11_row rfl (by decide) c2 rfl (Nat.le_of_ble_eq_true rfl) hRL (fun r w2 hh => ?_)
  obtain ⟨I2, L2, rfl, rfl, hI⟩ := hh
  refine wp_icmp_eq 883 rfl rfl (fun _ => ?_) (fun h => absurd rfl h)
  exact K I2 L2 b1 hI
set_option maxRecDepth 20000 in
theorem lc_tear {Inv : IF → LF → Bool → Prop} {G : Gl} {n : String} {i : Int32} {I : IF} {L : LF} {b : Bool} (hv : LVin G i) (hs : Step Inv G 100 Y_X10_tear Y_X11_tear [.int (sx G (i + 1))] I L b) (K : ∀ I2 L2 b2, Inv I2 L2 b2 → LW G n 883 (LV i) [] I2 L2 b2) : LW G n 748 (LV i) [] I L b := by
  refine wp_aload_n rfl rfl ?_
  refine wp_aload_n rfl rfl ?_
  refine wp_iload_n rfl rfl ?_
  refine wp_iconst (v := 1) rfl rfl ?_
  refine wp_iadd rfl ?_
  refine wp_sld rfl (hv 1 (by decide) (by decide)) ?_
  refine wp_cV rfl l_12_135 i_X10_tear m_X10_tear rfl (by decide) hs rfl (Nat.le_of_ble_eq_true rfl) hRL (fun r w2 hh => ?_)
  obtain ⟨v, I1, L1, b1, rfl, rfl, c2⟩ := hh
  refine wp_aload_n rfl rfl ?_
  refine wp_aload_n rfl rfl ?_
  refine wp_iload_n rfl rfl ?_
  refine wp_iconst (v := 1) rfl rfl ?_
  refine wp_iadd rfl ?_
  refine wp_sld rfl (hv 1 (by decide) (by decide)) ?_
  refine wp_cV rfl l_12_139 i_X11_tear m_X11_tear rfl (by decide) c2 rfl (Nat.le_of_ble_eq_true rfl) hRL (fun r w2 hh => ?_)
  obtain ⟨I2, L2, rfl, rfl, hI⟩ := hh
  refine wp_icmp_eq 883 rfl rfl (fun _ => ?_) (fun h => absurd rfl h)
  exact K I2 L2 b1 hI
set_option maxRecDepth 20000 in
theorem lc_write {Inv : IF → LF → Bool → Prop} {G : Gl} {n : String} {i : Int32} {I : IF} {L : LF} {b : Bool} (hv : LVin G i) (hs : Step Inv G 100 Y_X10_write Y_X11_write [.int (sx G (i + 1)), .int (sx G (i + 2)), .long (((sx G (i + 3)).toInt64 <<< ((32 : Int32).toInt64 &&& 63)) ||| ((sx G (i + 4)).toInt64 &&& 4294967295))] I L b) (K : ∀ I2 L2 b2, Inv I2 L2 b2 → LW G n 883 (LV i) [] I2 L2 b2) : LW G n 765 (LV i) [] I L b := by
  refine wp_aload_n rfl rfl ?_
  refine wp_aload_n rfl rfl ?_
  refine wp_iload_n rfl rfl ?_
  refine wp_iconst (v := 1) rfl rfl ?_
  refine wp_iadd rfl ?_
  refine wp_sld rfl (hv 1 (by decide) (by decide)) ?_
  refine wp_aload_n rfl rfl ?_
  refine wp_iload_n rfl rfl ?_
  refine wp_iconst (v := 2) rfl rfl ?_
  refine wp_iadd rfl ?_
  refine wp_sld rfl (hv 2 (by decide) (by decide)) ?_
  refine wp_aload_n rfl rfl ?_
  refine wp_iload_n rfl rfl ?_
  refine wp_iconst (v := 3) rfl rfl ?_
  refine wp_iadd rfl ?_
  refine wp_sld rfl (hv 3 (by decide) (by decide)) ?_
  refine wp_i2l rfl ?_
  refine wp_bipush (v := 32) rfl rfl ?_
  refine wp_lshl rfl ?_
  refine wp_aload_n rfl rfl ?_
  refine wp_iload_n rfl rfl ?_
  refine wp_iconst (v := 4) rfl rfl ?_
  refine wp_iadd rfl ?_
  refine wp_sld rfl (hv 4 (by decide) (by decide)) ?_
  refine wp_i2l rfl ?_
  refine wp_ldc2 (v := 4294967295) rfl cl_12_50 ?_
  refine wp_land rfl ?_
  refine wp_lor rfl ?_
  refine wp_cV rfl l_12_140 i_X10_write m_X10_write rfl (by decide) hs rfl (Nat.le_of_ble_eq_true rfl) hRL (fun r w2 hh => ?_)
  obtain ⟨v, I1, L1, b1, rfl, rfl, c2⟩ := hh
  refine wp_aload_n rfl rfl ?_
  refine wp_aload_n rfl rfl ?_
  refine wp_iload_n rfl rfl ?_
  refine wp_iconst (v := 1) rfl rfl ?_
  refine wp_iadd rfl ?_
  refine wp_sld rfl (hv 1 (by decide) (by decide)) ?_
  refine wp_aload_n rfl rfl ?_
  refine wp_iload_n rfl rfl ?_
  refine wp_iconst (v := 2) rfl rfl ?_
  refine wp_iadd rfl ?_
  refine wp_sld rfl (hv 2 (by decide) (by decide)) ?_
  refine wp_aload_n rfl rfl ?_
  refine wp_iload_n rfl rfl ?_
  refine wp_iconst (v := 3) rfl rfl ?_
  refine wp_iadd rfl ?_
  refine wp_sld rfl (hv 3 (by decide) (by decide)) ?_
  refine wp_i2l rfl ?_
  refine wp_bipush (v := 32) rfl rfl ?_
  refine wp_lshl rfl ?_
  refine wp_aload_n rfl rfl ?_
  refine wp_iload_n rfl rfl ?_
  refine wp_iconst (v := 4) rfl rfl ?_
  refine wp_iadd rfl ?_
  refine wp_sld rfl (hv 4 (by decide) (by decide)) ?_
  refine wp_i2l rfl ?_
  refine wp_ldc2 (v := 4294967295) rfl cl_12_50 ?_
  refine wp_land rfl ?_
  refine wp_lor rfl ?_
  refine wp_cV rfl l_12_144 i_X11_write m_X11_write rfl (by decide) c2 rfl (Nat.le_of_ble_eq_true rfl) hRL (fun r w2 hh => ?_)
  obtain ⟨I2, L2, rfl, rfl, hI⟩ := hh
  refine wp_icmp_eq 883 rfl rfl (fun _ => ?_) (fun h => absurd rfl h)
  exact K I2 L2 b1 hI
set_option maxRecDepth 20000 in
theorem lc_paste {Inv : IF → LF → Bool → Prop} {G : Gl} {n : String} {i : Int32} {I : IF} {L : LF} {b : Bool} (hv : LVin G i) (hs : Step Inv G 100 Y_X10_paste Y_X11_paste [.int (sx G (i + 1)), .int (sx G (i + 2)), .int (sx G (i + 3)), .int (sx G (i + 4)), .int (sx G (i + 5))] I L b) (K : ∀ I2 L2 b2, Inv I2 L2 b2 → LW G n 883 (LV i) [] I2 L2 b2) : LW G n 826 (LV i) [] I L b := by
  refine wp_aload_n rfl rfl ?_
  refine wp_aload_n rfl rfl ?_
  refine wp_iload_n rfl rfl ?_
  refine wp_iconst (v := 1) rfl rfl ?_
  refine wp_iadd rfl ?_
  refine wp_sld rfl (hv 1 (by decide) (by decide)) ?_
  refine wp_aload_n rfl rfl ?_
  refine wp_iload_n rfl rfl ?_
  refine wp_iconst (v := 2) rfl rfl ?_
  refine wp_iadd rfl ?_
  refine wp_sld rfl (hv 2 (by decide) (by decide)) ?_
  refine wp_aload_n rfl rfl ?_
  refine wp_iload_n rfl rfl ?_
  refine wp_iconst (v := 3) rfl rfl ?_
  refine wp_iadd rfl ?_
  refine wp_sld rfl (hv 3 (by decide) (by decide)) ?_
  refine wp_aload_n rfl rfl ?_
  refine wp_iload_n rfl rfl ?_
  refine wp_iconst (v := 4) rfl rfl ?_
  refine wp_iadd rfl ?_
  refine wp_sld rfl (hv 4 (by decide) (by decide)) ?_
  refine wp_aload_n rfl rfl ?_
  refine wp_iload_n rfl rfl ?_
  refine wp_iconst (v := 5) rfl rfl ?_
  refine wp_iadd rfl ?_
  refine wp_sld rfl (hv 5 (by decide) (by decide)) ?_
  refine wp_cV rfl l_12_145 i_X10_paste m_X10_paste rfl (by decide) hs rfl (Nat.le_of_ble_eq_true rfl) hRL (fun r w2 hh => ?_)
  obtain ⟨v, I1, L1, b1, rfl, rfl, c2⟩ := hh
  refine wp_aload_n rfl rfl ?_
  refine wp_aload_n rfl rfl ?_
  refine wp_iload_n rfl rfl ?_
  refine wp_iconst (v := 1) rfl rfl ?_
  refine wp_iadd rfl ?_
  refine wp_sld rfl (hv 1 (by decide) (by decide)) ?_
  refine wp_aload_n rfl rfl ?_
  refine wp_iload_n rfl rfl ?_
  refine wp_iconst (v := 2) rfl rfl ?_
  refine wp_iadd rfl ?_
  refine wp_sld rfl (hv 2 (by decide) (by decide)) ?_
  refine wp_aload_n rfl rfl ?_
  refine wp_iload_n rfl rfl ?_
  refine wp_iconst (v := 3) rfl rfl ?_
  refine wp_iadd rfl ?_
  refine wp_sld rfl (hv 3 (by decide) (by decide)) ?_
  refine wp_aload_n rfl rfl ?_
  refine wp_iload_n rfl rfl ?_
  refine wp_iconst (v := 4) rfl rfl ?_
  refine wp_iadd rfl ?_
  refine wp_sld rfl (hv 4 (by decide) (by decide)) ?_
  refine wp_aload_n rfl rfl ?_
  refine wp_iload_n rfl rfl ?_
  refine wp_iconst (v := 5) rfl rfl ?_
  refine wp_iadd rfl ?_
  refine wp_sld rfl (hv 5 (by decide) (by decide)) ?_
  refine wp_cV rfl l_12_148 i_X11_paste m_X11_paste rfl (by decide) c2 rfl (Nat.le_of_ble_eq_true rfl) hRL (fun r w2 hh => ?_)
  obtain ⟨I2, L2, rfl, rfl, hI⟩ := hh
  refine wp_icmp_eq 883 rfl rfl (fun _ => ?_) (fun h => absurd rfl h)
  exact K I2 L2 b1 hI
/-- every call of the law is such a step -/
def AllS (Inv : IF → LF → Bool → Prop) (G : Gl) (I : IF) (L : LF) (b : Bool) : Prop := (∀ (u0 : Int32) (u1 : Int32), Step Inv G 100 Y_X10_terms Y_X11_terms [.int u0, .int u1] I L b) ∧ (∀ (u0 : Int32) (u1 : Int32) (u2 : Int32) (u3 : Int32) (u4 : Int32) (u5 : Int32), (u4 = 0 ∨ u4 = 1) → Step Inv G 100 Y_X10_mast Y_X11_mast [.int u0, .int u1, .int u2, .int u3, .int u4, .int u5] I L b) ∧ (∀ (u0 : Int32) (u1 : Int32) (u2 : Int32) (u3 : Int32) (u4 : Int32), Step Inv G 100 Y_X10_abroad Y_X11_abroad [.int u0, .int u1, .int u2, .int u3, .int u4] I L b) ∧ (∀ (u0 : Int32) (u1 : Int32) (u2 : Int32) (u3 : Int32) (u4 : Int32), Step Inv G 100 Y_X10_area Y_X11_area [.int u0, .int u1, .int u2, .int u3, .int u4] I L b) ∧ (∀ (u0 : Int32), Step Inv G 100 Y_X10_poor Y_X11_poor [.int u0] I L b) ∧ (∀ (u0 : Int32) (u1 : Int32), Step Inv G 100 Y_X10_aim Y_X11_aim [.int u0, .int u1] I L b) ∧ (Step Inv G 100 Y_X10_turn Y_X11_turn [] I L b) ∧ (∀ (u0 : Int32) (u1 : Int32), Step Inv G 100 Y_X10_strength Y_X11_strength [.int u0, .int u1] I L b) ∧ (∀ (u0 : Int32) (u1 : Int64), Step Inv G 100 Y_X10_plan Y_X11_plan [.int u0, .long u1] I L b) ∧ (∀ (u0 : Int32), Step Inv G 100 Y_X10_weekOf Y_X11_weekOf [.int u0] I L b) ∧ (Step Inv G 100 Y_X10_channels Y_X11_channels [] I L b) ∧ (∀ (u0 : Int32), Step Inv G 100 Y_X10_channelOf Y_X11_channelOf [.int u0] I L b) ∧ (∀ (u0 : Int32) (u1 : Int32) (u2 : Int32) (u3 : Int32) (u4 : Int32), Step Inv G 100 Y_X10_feed Y_X11_feed [.int u0, .int u1, .int u2, .int u3, .int u4] I L b) ∧ (∀ (u0 : Int32), Step Inv G 100 Y_X10_end Y_X11_end [.int u0] I L b) ∧ (Step Inv G 100 Y_X10_law Y_X11_law [] I L b) ∧ (Step Inv G 100 Y_X10_fault Y_X11_fault [] I L b) ∧ (∀ (u0 : Int32), Step Inv G 100 Y_X10_deliver Y_X11_deliver [.int u0] I L b) ∧ (Step Inv G 100 Y_X10_go Y_X11_go [] I L b) ∧ (∀ (u0 : Int32) (u1 : Int32), (u1 = 0 ∨ u1 = 1) → Step Inv G 100 Y_X10_fail Y_X11_fail [.int u0, .int u1] I L b) ∧ (∀ (u0 : Int32), Step Inv G 100 Y_X10_on Y_X11_on [.int u0] I L b) ∧ (∀ (u0 : Int32), Step Inv G 100 Y_X10_picture Y_X11_picture [.int u0] I L b) ∧ (∀ (u0 : Int32), Step Inv G 100 Y_X10_snow Y_X11_snow [.int u0] I L b) ∧ (∀ (u0 : Int32), Step Inv G 100 Y_X10_hurt Y_X11_hurt [.int u0] I L b) ∧ (∀ (u0 : Int32), Step Inv G 100 Y_X10_blame Y_X11_blame [.int u0] I L b) ∧ (∀ (u0 : Int32) (u1 : Int32), Step Inv G 100 Y_X10_mastOf Y_X11_mastOf [.int u0, .int u1] I L b) ∧ (∀ (u0 : Int32) (u1 : Int32), Step Inv G 100 Y_X10_areaOf Y_X11_areaOf [.int u0, .int u1] I L b) ∧ (∀ (u0 : Int32), Step Inv G 100 Y_X10_count Y_X11_count [.int u0] I L b) ∧ (∀ (u0 : Int32) (u1 : Int32) (u2 : Int32), Step Inv G 100 Y_X10_row Y_X11_row [.int u0, .int u1, .int u2] I L b) ∧ (∀ (u0 : Int32), Step Inv G 100 Y_X10_tear Y_X11_tear [.int u0] I L b) ∧ (∀ (u0 : Int32) (u1 : Int32) (u2 : Int64), Step Inv G 100 Y_X10_write Y_X11_write [.int u0, .int u1, .long u2] I L b) ∧ (∀ (u0 : Int32) (u1 : Int32) (u2 : Int32) (u3 : Int32) (u4 : Int32), Step Inv G 100 Y_X10_paste Y_X11_paste [.int u0, .int u1, .int u2, .int u3, .int u4] I L b)
theorem and31 (x : Int32) : 0 ≤ (x &&& 31).toInt ∧ (x &&& 31).toInt < 32 := by
  have h : ∀ y : BitVec 32, (y &&& 31#32).toNat < 32 := by
    intro y
    rw [BitVec.toNat_and]
    exact Nat.lt_of_le_of_lt Nat.and_le_right (by decide)
  have h2 : (x &&& 31).toBitVec = x.toBitVec &&& 31#32 := rfl
  have h3 := h x.toBitVec
  rw [← h2] at h3
  have h4 : (x &&& 31).toInt = ((x &&& 31).toBitVec.toNat : Int) := by
    rw [← Int32.toInt_toBitVec]
    exact BitVec.toInt_eq_toNat_of_lt (by omega)
  omega
set_option maxRecDepth 20000 in
theorem law_disp {Inv : IF → LF → Bool → Prop} {G : Gl} {n : String} {i : Int32} {I : IF} {L : LF} {b : Bool} (hv : LVin G i) (hs : AllS Inv G I L b) (K : ∀ I2 L2 b2, Inv I2 L2 b2 → LW G n 883 (LV i) [] I2 L2 b2) (hI : Inv I L b) (x : Int32) (hx : 0 ≤ x.toInt ∧ x.toInt < 32) : LW G n 21 (LV i) [.int x] I L b := by
  obtain ⟨k, hk, e⟩ : ∃ k : Nat, k < 32 ∧ x.toInt = (k : Int) := ⟨x.toInt.toNat, by omega, by omega⟩
  obtain ⟨s0, s1, s2, s3, s4, s5, s6, s7, s8, s9, s10, s11, s12, s13, s14, s15, s16, s17, s18, s19, s20, s21, s22, s23, s24, s25, s26, s27, s28, s29, s30⟩ := hs
  match k, hk, e with
  | 0, _, e =>
    refine wp_tsIn (off := 139) 22 rfl (by rw [e]; decide) (by rw [e]; decide) (by rw [e]; rfl) rfl ?_
    exact lc_terms hv (s0 _ _) K
  | 1, _, e =>
    refine wp_tsIn (off := 172) 49 rfl (by rw [e]; decide) (by rw [e]; decide) (by rw [e]; rfl) rfl ?_
    by_cases h0 : sx G (i + 5) = 0
    · exact lc_mastf hv h0 (s1 _ _ _ _ _ _ (Or.inl rfl)) K
    · exact lc_mastt hv h0 (s1 _ _ _ _ _ _ (Or.inr rfl)) K
  | 2, _, e =>
    refine wp_tsIn (off := 263) 124 rfl (by rw [e]; decide) (by rw [e]; decide) (by rw [e]; rfl) rfl ?_
    exact lc_abroad hv (s2 _ _ _ _ _) K
  | 3, _, e =>
    refine wp_tsIn (off := 326) 181 rfl (by rw [e]; decide) (by rw [e]; decide) (by rw [e]; rfl) rfl ?_
    exact lc_area hv (s3 _ _ _ _ _) K
  | 4, _, e =>
    refine wp_tsIn (off := 389) 238 rfl (by rw [e]; decide) (by rw [e]; decide) (by rw [e]; rfl) rfl ?_
    exact lc_poor hv (s4 _) K
  | 5, _, e =>
    refine wp_tsIn (off := 412) 255 rfl (by rw [e]; decide) (by rw [e]; decide) (by rw [e]; rfl) rfl ?_
    exact lc_aim hv (s5 _ _) K
  | 6, _, e =>
    refine wp_tsIn (off := 445) 282 rfl (by rw [e]; decide) (by rw [e]; decide) (by rw [e]; rfl) rfl ?_
    exact lc_turn hv (s6) K
  | 7, _, e =>
    refine wp_tsIn (off := 458) 289 rfl (by rw [e]; decide) (by rw [e]; decide) (by rw [e]; rfl) rfl ?_
    exact lc_strength hv (s7 _ _) K
  | 8, _, e =>
    refine wp_tsIn (off := 491) 316 rfl (by rw [e]; decide) (by rw [e]; decide) (by rw [e]; rfl) rfl ?_
    exact lc_plan hv (s8 _ _) K
  | 9, _, e =>
    refine wp_tsIn (off := 554) 367 rfl (by rw [e]; decide) (by rw [e]; decide) (by rw [e]; rfl) rfl ?_
    exact lc_weekOf hv (s9 _) K
  | 10, _, e =>
    refine wp_tsIn (off := 577) 384 rfl (by rw [e]; decide) (by rw [e]; decide) (by rw [e]; rfl) rfl ?_
    exact lc_channels hv (s10) K
  | 11, _, e =>
    refine wp_tsIn (off := 590) 391 rfl (by rw [e]; decide) (by rw [e]; decide) (by rw [e]; rfl) rfl ?_
    exact lc_channelOf hv (s11 _) K
  | 12, _, e =>
    refine wp_tsIn (off := 613) 408 rfl (by rw [e]; decide) (by rw [e]; decide) (by rw [e]; rfl) rfl ?_
    exact lc_feed hv (s12 _ _ _ _ _) K
  | 13, _, e =>
    refine wp_tsIn (off := 676) 465 rfl (by rw [e]; decide) (by rw [e]; decide) (by rw [e]; rfl) rfl ?_
    exact lc_end hv (s13 _) K
  | 14, _, e =>
    refine wp_tsIn (off := 699) 482 rfl (by rw [e]; decide) (by rw [e]; decide) (by rw [e]; rfl) rfl ?_
    exact lc_law hv (s14) K
  | 15, _, e =>
    refine wp_tsIn (off := 712) 489 rfl (by rw [e]; decide) (by rw [e]; decide) (by rw [e]; rfl) rfl ?_
    exact lc_fault hv (s15) K
  | 16, _, e =>
    refine wp_tsIn (off := 725) 496 rfl (by rw [e]; decide) (by rw [e]; decide) (by rw [e]; rfl) rfl ?_
    exact lc_deliver hv (s16 _) K
  | 17, _, e =>
    refine wp_tsIn (off := 748) 513 rfl (by rw [e]; decide) (by rw [e]; decide) (by rw [e]; rfl) rfl ?_
    exact lc_go hv (s17) K
  | 18, _, e =>
    refine wp_tsIn (off := 761) 520 rfl (by rw [e]; decide) (by rw [e]; decide) (by rw [e]; rfl) rfl ?_
    by_cases h0 : sx G (i + 2) = 0
    · exact lc_failf hv h0 (s18 _ _ (Or.inl rfl)) K
    · exact lc_failt hv h0 (s18 _ _ (Or.inr rfl)) K
  | 19, _, e =>
    refine wp_tsIn (off := 810) 555 rfl (by rw [e]; decide) (by rw [e]; decide) (by rw [e]; rfl) rfl ?_
    exact lc_on hv (s19 _) K
  | 20, _, e =>
    refine wp_tsIn (off := 833) 572 rfl (by rw [e]; decide) (by rw [e]; decide) (by rw [e]; rfl) rfl ?_
    exact lc_picture hv (s20 _) K
  | 21, _, e =>
    refine wp_tsIn (off := 856) 589 rfl (by rw [e]; decide) (by rw [e]; decide) (by rw [e]; rfl) rfl ?_
    exact lc_snow hv (s21 _) K
  | 22, _, e =>
    refine wp_tsIn (off := 879) 606 rfl (by rw [e]; decide) (by rw [e]; decide) (by rw [e]; rfl) rfl ?_
    exact lc_hurt hv (s22 _) K
  | 23, _, e =>
    refine wp_tsIn (off := 902) 623 rfl (by rw [e]; decide) (by rw [e]; decide) (by rw [e]; rfl) rfl ?_
    exact lc_blame hv (s23 _) K
  | 24, _, e =>
    refine wp_tsIn (off := 925) 640 rfl (by rw [e]; decide) (by rw [e]; decide) (by rw [e]; rfl) rfl ?_
    exact lc_mastOf hv (s24 _ _) K
  | 25, _, e =>
    refine wp_tsIn (off := 958) 667 rfl (by rw [e]; decide) (by rw [e]; decide) (by rw [e]; rfl) rfl ?_
    exact lc_areaOf hv (s25 _ _) K
  | 26, _, e =>
    refine wp_tsIn (off := 991) 694 rfl (by rw [e]; decide) (by rw [e]; decide) (by rw [e]; rfl) rfl ?_
    exact lc_count hv (s26 _) K
  | 27, _, e =>
    refine wp_tsIn (off := 1014) 711 rfl (by rw [e]; decide) (by rw [e]; decide) (by rw [e]; rfl) rfl ?_
    exact lc_row hv (s27 _ _ _) K
  | 28, _, e =>
    refine wp_tsIn (off := 1057) 748 rfl (by rw [e]; decide) (by rw [e]; decide) (by rw [e]; rfl) rfl ?_
    exact lc_tear hv (s28 _) K
  | 29, _, e =>
    refine wp_tsIn (off := 1080) 765 rfl (by rw [e]; decide) (by rw [e]; decide) (by rw [e]; rfl) rfl ?_
    exact lc_write hv (s29 _ _ _) K
  | 30, _, e =>
    refine wp_tsIn (off := 1153) 826 rfl (by rw [e]; decide) (by rw [e]; decide) (by rw [e]; rfl) rfl ?_
    exact lc_paste hv (s30 _ _ _ _ _) K
  | 31, _, e =>
    refine wp_tsOut 883 rfl (Or.inr (by rw [e]; decide)) rfl ?_
    exact K I L b hI
  | k + 32, hk, _ => exact absurd hk (by omega)
set_option maxRecDepth 20000 in
theorem law_loop {Inv : IF → LF → Bool → Prop} {G : Gl} {n : String} (hlen : (gS G).2.1 ≤ 3584) (hall : ∀ I L b, Inv I L b → AllS Inv G I L b) : ∀ (f i : Nat) (I : IF) (L : LF) (b : Bool), (gS G).2.1 < i + f → i ≤ 3591 → Inv I L b → LW G n 10 (LV (nI i)) [] I L b := by
  intro f
  induction f with
  | zero =>
    intro i I L b hf hi hI
    have hlt : (Int32.ofNat (gS G).2.1 - 7) < nI i := by
      have e1 : (Int32.ofNat (gS G).2.1) = nI (gS G).2.1 := rfl
      rw [e1]
      have h1 := nI_lt (a := (gS G).2.1) (b := i) (by omega) (by omega)
      have h2 := nI_b (n := (gS G).2.1) (k := 3584) hlen (by omega)
      have h3 : nI 3584 = (3584 : Int32) := rfl
      grind
    refine wp_iload_n rfl rfl ?_
    refine wp_aload_n rfl rfl ?_
    refine wp_slen rfl ?_
    refine wp_bipush (v := 7) rfl rfl ?_
    refine wp_isub rfl ?_
    refine wp_icmp_gt 885 rfl rfl (fun _ => ?_) (fun h => absurd hlt h)
    refine wp_iconst (v := 1) rfl rfl ?_
    exact wp_lawret (k := 886) rfl (Nat.le_of_ble_eq_true rfl) (Nat.le_of_ble_eq_true rfl)
  | succ f ih =>
    intro i I L b hf hi hI
    refine wp_iload_n rfl rfl ?_
    refine wp_aload_n rfl rfl ?_
    refine wp_slen rfl ?_
    refine wp_bipush (v := 7) rfl rfl ?_
    refine wp_isub rfl ?_
    refine wp_icmp_gt 885 rfl rfl (fun _ => ?_) (fun hno => ?_)
    · refine wp_iconst (v := 1) rfl rfl ?_
      exact wp_lawret (k := 886) rfl (Nat.le_of_ble_eq_true rfl) (Nat.le_of_ble_eq_true rfl)
    · have hle : i + 7 ≤ (gS G).2.1 := by
        apply Classical.byContradiction
        intro hc
        apply hno
        have e1 : (Int32.ofNat (gS G).2.1) = nI (gS G).2.1 := rfl
        rw [e1]
        have h1 := nI_lt (a := (gS G).2.1) (b := i + 7) (by omega) (by omega)
        have h2 := nI_b (n := (gS G).2.1) (k := 3584) hlen (by omega)
        have h4 := nI_b (n := i) (k := 3591) hi (by omega)
        have h5 : nI (i + 7) = nI i + 7 := (nI_add i 7).symm
        have h3 : nI 3584 = (3584 : Int32) := rfl
        have h6 : nI 3591 = (3591 : Int32) := rfl
        rw [h5] at h1
        grind
      have hv : LVin G (nI i) := by
        intro c hc0 hc6
        obtain ⟨q, hq, rfl⟩ := nI_get (x := c) (n := 7) hc0 (by show c < 7; grind) (by omega)
        rw [nI_add]
        exact vp_in_nI (by omega) (by omega)
      have h0 := hv 0 (by decide) (by decide)
      rw [show nI i + 0 = nI i by grind] at h0
      refine wp_aload_n rfl rfl ?_
      refine wp_iload_n rfl rfl ?_
      refine wp_sld rfl h0 ?_
      refine wp_bipush (v := 31) rfl rfl ?_
      refine wp_iand rfl ?_
      refine law_disp hv (hall I L b hI) (fun I2 L2 b2 hI2 => ?_) hI _ (and31 _)
      refine wp_iinc (v := nI (i + 7)) (lv' := [(3, _), (0, _), (1, _), (2, _)]) rfl rfl (nI_add i 7) (show 3 < 4 by decide) rfl ?_
      refine wp_goto 10 rfl rfl ?_
      refine wp_loc (lv' := [(0, _), (1, _), (2, _), (3, _)]) [1, 2, 3, 0] rfl ?_
      exact ih (i + 7) I2 L2 b2 (by omega) (by omega) hI2
set_option maxRecDepth 20000 in
/-- from the entry, once the machine's words are known -/
theorem law_all {Inv : IF → LF → Bool → Prop} {G : Gl} {n : String} (hlen : (gS G).2.1 ≤ 3584) (hall : ∀ I L b, Inv I L b → AllS Inv G I L b) (h0 : Inv w01.1 (fun _ _ => 0) false) : WP G (YL n) room_1 (QL G) (0, 0, 0) 0 [(0, .ref 1000000)] [] w00 := by
  refine p_new (ci := 10) (N' := (1, 1, 12)) rfl kl_12_7 in_10 ini_10 (by decide) rfl (Zr_0 0) ⟨Nat.le_of_ble_eq_true rfl, Nat.le_of_ble_eq_true rfl⟩ rfl ?_
  refine wp_dup rfl rfl ?_
  refine p_cI (N' := (72, 72, 4426)) rfl (Or.inl l_12_9) n_X10_init m_X10_init (k_X10 G 98 _ (Zr_0 1)) rfl (by decide) ⟨Nat.le_of_ble_eq_true rfl, Nat.le_of_ble_eq_true rfl, Nat.le_of_ble_eq_true rfl, Nat.le_of_ble_eq_true rfl⟩ rfl ?_
  refine wp_astore_n (lv' := [(1, .ref 0), (0, .ref 1000000)]) rfl rfl (show _ < 4 by decide) rfl ?_
  refine p_new (ci := 11) (N' := (73, 73, 4481)) rfl kl_12_10 in_11 ini_11 (by decide) rfl Zr_1 ⟨Nat.le_of_ble_eq_true rfl, Nat.le_of_ble_eq_true rfl⟩ rfl ?_
  refine wp_dup rfl rfl ?_
  refine p_cI (N' := (102, 102, 60413)) rfl (Or.inl l_12_12) n_X11_init m_X11_init (k_X11 G 100 _ (Zr_1.mono (by decide))) rfl (by decide) ⟨Nat.le_of_ble_eq_true rfl, Nat.le_of_ble_eq_true rfl, Nat.le_of_ble_eq_true rfl, Nat.le_of_ble_eq_true rfl⟩ rfl ?_
  refine wp_astore_n (lv' := [(2, .ref 72), (1, .ref 0), (0, .ref 1000000)]) rfl rfl (show _ < 4 by decide) rfl ?_
  refine wp_iconst (v := 0) rfl rfl ?_
  refine wp_istore_n (lv' := [(3, .int 0), (2, .ref 72), (1, .ref 0), (0, .ref 1000000)]) rfl rfl (show _ < 4 by decide) rfl ?_
  refine wp_loc (lv' := [(0, _), (1, _), (2, _), (3, _)]) [3, 2, 1, 0] rfl ?_
  have K := law_loop (Inv := Inv) (G := G) (n := n) hlen hall 3585 0 w01.1 (fun _ _ => 0) false (by omega) (by omega) h0
  have e : (w01.1, (fun _ _ => 0 : LF), RR false) = x11W (x10W w00) := w01_e.symm
  unfold LW at K
  rw [e] at K
  exact K
