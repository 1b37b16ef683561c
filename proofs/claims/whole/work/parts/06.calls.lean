/-! contracts over the mini world, calls, and what is made -/
theorem obj_i : Cond.instanceMethod Lib.objectInit ∈ goodL := mem_at 80 (by decide +kernel) rfl
theorem obj_c : Cond.code Lib.objectInit ⟨#[0xb1]⟩ 1 none ∈ goodL := mem_at 81 (by decide +kernel) rfl
theorem lo_0 : Cond.methodLink (RN 0) 3 Lib.objectInit ∈ goodL := mem_at 152 (by decide +kernel) rfl
theorem lo_1 : Cond.methodLink (RN 1) 3 Lib.objectInit ∈ goodL := mem_at 87 (by decide +kernel) rfl
theorem lo_2 : Cond.methodLink (RN 2) 3 Lib.objectInit ∈ goodL := mem_at 323 (by decide +kernel) rfl
theorem lo_3 : Cond.methodLink (RN 3) 3 Lib.objectInit ∈ goodL := mem_at 295 (by decide +kernel) rfl
theorem lo_4 : Cond.methodLink (RN 4) 3 Lib.objectInit ∈ goodL := mem_at 96 (by decide +kernel) rfl
theorem lo_5 : Cond.methodLink (RN 5) 3 Lib.objectInit ∈ goodL := mem_at 233 (by decide +kernel) rfl
theorem lo_6 : Cond.methodLink (RN 6) 3 Lib.objectInit ∈ goodL := mem_at 374 (by decide +kernel) rfl
theorem lo_7 : Cond.methodLink (RN 7) 3 Lib.objectInit ∈ goodL := mem_at 279 (by decide +kernel) rfl
theorem lo_8 : Cond.methodLink (RN 8) 3 Lib.objectInit ∈ goodL := mem_at 301 (by decide +kernel) rfl
theorem lo_9 : Cond.methodLink (RN 9) 3 Lib.objectInit ∈ goodL := mem_at 256 (by decide +kernel) rfl
theorem lo_10 : Cond.methodLink (RN 10) 3 Lib.objectInit ∈ goodL := mem_at 79 (by decide +kernel) rfl
theorem lo_11 : Cond.methodLink (RN 11) 3 Lib.objectInit ∈ goodL := mem_at 989 (by decide +kernel) rfl
def rmD (d mc ms : Nat) : Room := { frames := d + 1, cells := mc, slots := ms, locals := 60 * d + 60 }
def MT (G : Gl) (d : Nat) (Y : mY) (As : List Value) (n : Nat) (w : mW) (mc ms : Nat) (Q : Option Value → mW → Prop) : Prop :=
  Met G.1 Y.2.1 (Cond.code Y.2.1 Y.2.2.1 Y.2.2.2.1 Y.2.2.2.2.1 :: goodL) (rmD d mc ms) (va_Pc (As.map (rv G)) (fun U => rep G n w U.heap ∧ va_K (gD G) vwCl (gT G) U ∧ out G U))
    (fun _ st o t => ∃ (r : Option Value) (w' : mW), o = .returned (r.map (rv G)) ∧ Q r w' ∧ rep G (n + mc) w' t.heap ∧ va_F (gX G) st t) mc ms (gX G)
theorem lva_rv (G : Gl) : ∀ (As : List Value) (i : Nat), lv_args i (As.map (rv G)) = rvl G (lv_args i As)
  | [], _ => rfl
  | v :: As, i => by
    show (i, rv G v) :: lv_args (if (rv G v).category = 2 then i + 2 else i + 1) (As.map (rv G)) = (i, rv G v) :: rvl G _
    rw [rv_cat, lva_rv G As]
theorem lgsl_rv (G : Gl) (As : List Value) : (lg_sl (As.map (rv G))).length = (lg_sl As).length := by
  induction As with
  | nil => rfl
  | cons v As ih =>
    have h : ∀ (v : Value) (l : List Value), lg_sl (v :: l) = (if v.category = 2 then [Slot.val v, Slot.second] else [Slot.val v]) ++ lg_sl l := fun v l => by simp [lg_sl]
    rw [List.map_cons, h, h, List.length_append, List.length_append, ih, rv_cat]
    split <;> rfl
set_option maxHeartbeats 1000000 in
theorem MT.intro {G : Gl} {d : Nat} {Y : mY} {As : List Value} {n : Nat} {w : mW} {mc ms : Nat} {Q : Option Value → mW → Prop} {na : Nat} (hY : mOK Y na) (h0 : pcO Y 0 = 0) (hl : (lg_sl As).length ≤ Y.2.2.2.1)
    (body : WP G Y (rmD d mc ms) (QM G n mc ms Q) (n, 0, 0) 0 (lv_args 0 As) [] w) : MT G d Y As n w mc ms Q := by
  obtain ⟨y1, y2, y3, y4, y5, y6, y7⟩ := hY
  refine Met.ofW (cc := Y.2.2.1) (maxL := Y.2.2.2.1) (ret := Y.2.2.2.2.1) y4 rfl ?_
  intro p e s m args below meth c s₁ B hml hv
  obtain ⟨rfl, hrep, hK, hO⟩ := hv
  have hts := atoms_spec (ws := Cond.code Y.2.1 Y.2.2.1 Y.2.2.2.1 Y.2.2.2.2.1 :: goodL) B.pre
  have hown : s.vm.findClass Y.2.1.cls = some m.cls := findClass_of_methodNamed B.named
  have C : Cx G Y p s m (As.map (rv G)).toArray meth c := ⟨B.exec, B.bytes, B.returns, hml, by rw [← y7]; exact hown, fun w hw => hts w (List.mem_cons_of_mem _ hw), B.notSynchronized, (name_of_methodNamed B.named B.method).1, hK, hO, y1⟩
  have hl2 := lv_entry (As.map (rv G)) (n := Y.2.2.2.1) (by rw [lgsl_rv]; exact hl)
  rw [lg_entry_eq]
  rw [lva_rv] at hl2
  have K := body p e s m (As.map (rv G)).toArray below meth c C s.heap [] _ hrep va_S.rf hl2
  rw [h0] at K
  exact K
theorem blind {G : Gl} {n : Nat} {w : mW} {av : List Value} : FrameBlind (va_Pc av (fun U => rep G n w U.heap ∧ va_K (gD G) vwCl (gT G) U ∧ out G U)) := by
  intro a U g mk ⟨h1, h2, h3, h4⟩
  exact ⟨h1, h2, va_K.moved (u := U) (U := U.calling g mk a) (Vm.Alike.refl U.vm) h3, out_moved (H := U.heap) (locs := []) h4 rfl (State.WarmedH.refl U) va_S.rf⟩
def pops : Nat → List Value → List Value → Option (List Value × List Value)
  | 0, st, acc => some (acc, st)
  | n + 1, v :: st, acc => pops n st (v :: acc)
  | _ + 1, [], _ => none
theorem pops_spec : ∀ (n : Nat) (st acc As rest : List Value), pops n st acc = some (As, rest) → ∃ pre, As = pre ++ acc ∧ st = pre.reverse ++ rest ∧ pre.length = n
  | 0, st, acc, As, rest, h => by
    cases h
    exact ⟨[], rfl, rfl, rfl⟩
  | n + 1, v :: st, acc, As, rest, h => by
    obtain ⟨pre, h1, h2, h3⟩ := pops_spec n st (v :: acc) As rest h
    exact ⟨pre ++ [v], by rw [h1]; simp, by rw [h2]; simp, by simp [h3]⟩
  | n + 1, [], acc, As, rest, h => by cases h
section CALLS
variable {G : Gl} {Y Y' : mY} {R : Room} {QQ : List Frame → Array Value → State → State → Prop} {N : Nat × Nat × Nat} {k : Nat} {lv : List (Nat × Value)} {st : List Value} {w : mW} {pc : Nat}
theorem wp_cont {p : Program} {l : Launch} {e : Env} {s : State} {m : MethodId} {args : Array Value} {below : List Frame} {meth : Method} {c : Code} {H : Heap} {locs : List Loc} {cells slots mc ms n' : Nat} {Qw : State → Prop} {ls : Array Slot} {rest st0 : List Value} {Q : Option Value → mW → Prop}
    (hr : va_Run p l e R s m args below meth c H locs cells slots mc ms (F0 m pc ls st0) rest (fun st o t => ∃ (r : Option Value) (w' : mW), o = .returned (r.map (rv G)) ∧ Q r w' ∧ rep G n' w' t.heap ∧ va_F (gX G) st t) (gX G)) (hS : va_S (gX G) s.heap H locs)
    (kk : ∀ (r : Option Value) (w' : mW) (H1 : Heap) (locs1 : List Loc), Q r w' → rep G n' w' H1 → va_S (gX G) s.heap H1 locs1 → W p l e R s m args below meth c H1 locs1 (cells + mc) (slots + ms) Qw (F0 m (pc + 3) ls ((r.map (rv G)).toList ++ rest))) : W p l e R s m args below meth c H locs cells slots Qw (F0 m pc ls st0) := by
  intro T hT X
  obtain ⟨v, st₀, t, T', L, h0, X', hL, e1, e2, ⟨r, w', hv, hq, hrep, hz, hk⟩, st⟩ := hr T hT X
  cases hv
  rw [h0] at hz hk
  obtain ⟨t2, a1, b1⟩ := kk r w' T'.heap (locs ++ L) hq (by rw [e1]; exact hrep)
    ⟨Nat.le_trans hS.1 (by rw [e1]; exact hz), fun q h1 h2 => by rw [e1, hk q (Nat.lt_of_lt_of_le h1 hS.1) h2]; exact hS.2.1 q h1 h2, fun q hq => by
      rcases List.mem_append.mp hq with h | h
      · exact hS.2.2 q h
      · exact hL q h⟩ T' rfl X'
  exact ⟨t2, st t2 a1, b1⟩
theorem ws_good (hm : Cond.code Y'.2.1 Y'.2.2.1 Y'.2.2.2.1 Y'.2.2.2.2.1 ∈ goodL) : ∀ w ∈ (Cond.code Y'.2.1 Y'.2.2.1 Y'.2.2.2.1 Y'.2.2.2.2.1 :: goodL), w ∈ goodL := fun w h => (List.mem_cons.mp h).elim (fun e => e ▸ hm) id
theorem cat_rv (rest : List Value) : (rest.map (rv G)).map (fun v => v.category) = rest.map (fun v => v.category) := by
  rw [List.map_map]
  exact List.map_congr_left (fun v _ => rv_cat G v)
theorem st_rv {na : Nat} {As rest : List Value} (h : pops na st [] = some (As, rest)) : st.map (rv G) = (As.map (rv G)).reverse ++ rest.map (rv G) ∧ (As.map (rv G)).length = na := by
  obtain ⟨pre, h1, h2, h3⟩ := pops_spec _ _ _ _ _ h
  rw [List.append_nil] at h1
  subst h1
  rw [h2]
  simp [h3]
theorem st_rv2 {na a : Nat} {As rest : List Value} (h : pops na st [] = some (As, .ref a :: rest)) : st.map (rv G) = (As.map (rv G)).reverse ++ .ref (ra G a) :: rest.map (rv G) ∧ (As.map (rv G)).length = na := st_rv h
theorem wp_go {d mc ms : Nat} {Q' : Option Value → mW → Prop} {rest : List Value} {e0 : mI} (hd : nx Y k = some e0) (h3 : e0.2.2 = 3)
    (kk : ∀ r w', Q' r w' → WP G Y R QQ (N.1 + mc, N.2.1 + mc, N.2.2 + ms) (k + 1) lv (r.toList ++ rest) w')
    {p : Program} {e : Env} {s : State} {m : MethodId} {args : Array Value} {below : List Frame} {meth : Method} {c : Code} (C : Cx G Y p s m args meth c) {H : Heap} {locs : List Loc} {ls : Array Slot} (hS : va_S (gX G) s.heap H locs) (hh : lv_has ls Y.2.2.2.1 (rvl G lv)) {st0 : List Value}
    (hr : va_Run p G.1 e R s m args below meth c H locs N.2.1 N.2.2 mc ms (F0 m (pcO Y k) ls st0) (rest.map (rv G)) (fun st o t => ∃ (r : Option Value) (w' : mW), o = .returned (r.map (rv G)) ∧ Q' r w' ∧ rep G (N.1 + mc) w' t.heap ∧ va_F (gX G) st t) (gX G)) :
    W p G.1 e R s m args below meth c H locs N.2.1 N.2.2 (QQ below args s) (F0 m (pcO Y k) ls st0) := by
  refine wp_cont hr hS (fun r w' H1 locs1 hq hrep hS1 => ?_)
  have K := kk r w' hq p e s m args below meth c C H1 locs1 ls hrep hS1 hh
  rw [(nx_dec C.2.2.2.2.2.2.2.2.2.2 hd).2, h3] at K
  rw [List.map_append] at K
  cases r <;> exact K
theorem wp_cS {d mc ms na i : Nat} {Q' : Option Value → mW → Prop} {As rest : List Value} (hd : nx Y k = some (pc, .invokestatic i, 3)) (hl : Cond.methodLink (RN Y.1) i Y'.2.1 ∈ goodL) (hs : sOK Y') (hm : mOK Y' na) (hM : MT G d Y' As N.1 w mc ms Q') (hst : pops na st [] = some (As, rest)) (hcat : (rest.map (fun v => v.category)).sum ≤ 8)
    (hR : d + 2 ≤ R.frames ∧ 60 * d + 120 ≤ R.locals ∧ N.2.1 + mc ≤ R.cells ∧ N.2.2 + ms ≤ R.slots)
    (kk : ∀ r w', Q' r w' → WP G Y R QQ (N.1 + mc, N.2.1 + mc, N.2.2 + ms) (k + 1) lv (r.toList ++ rest) w') : WP G Y R QQ N k lv st w := by
  intro p e s m args below meth c C H locs ls hr hS hh
  obtain ⟨hx, hb, hrt, hml, hown, hts, hlk, hnm, hK, hO, hc⟩ := id C
  obtain ⟨y1, y2, y3, y4, y5, y6, y7⟩ := hm
  obtain ⟨h1, h2⟩ := nx_dec hc hd
  obtain ⟨t1, t2⟩ := st_rv (G := G) hst
  rw [t1]
  refine wp_go (d := d) hd rfl kk C hS hh (va_runS ⟨hx, hb, hml, hown, hts⟩ hM ⟨callB_of na hts (good_in (ws_good y2)) rfl rfl rfl (hts _ y3) (hts _ hl) y5 ⟨hR.1, ?_⟩, hts _ hs⟩ ⟨blind, fun U hU hW => ⟨rfl, by rw [hU]; exact hr, va_K.moved hW.alike hK, out_moved hO hU hW hS⟩⟩ rfl t2 hh.1 rfl (lv_room (by rw [cat_rv]; exact hcat)) h1 ⟨hR.2.2.1, hR.2.2.2⟩)
  have := hR.2.1
  show 8 + (Y'.2.2.2.1 + 11) + (60 * d + 60) ≤ R.locals
  omega
theorem wp_cSN {d mc ms na i : Nat} {Q' : Option Value → mW → Prop} {As rest : List Value} (hd : nx Y k = some (pc, .invokestatic i, 3)) (hl : (RN Y.1, i, Y'.2.1) ∈ nestT) (hs : sOK Y') (hm : mOK Y' na) (hM : MT G d Y' As N.1 w mc ms Q') (hst : pops na st [] = some (As, rest)) (hcat : (rest.map (fun v => v.category)).sum ≤ 8)
    (hR : d + 2 ≤ R.frames ∧ 60 * d + 120 ≤ R.locals ∧ N.2.1 + mc ≤ R.cells ∧ N.2.2 + ms ≤ R.slots)
    (kk : ∀ r w', Q' r w' → WP G Y R QQ (N.1 + mc, N.2.1 + mc, N.2.2 + ms) (k + 1) lv (r.toList ++ rest) w') : WP G Y R QQ N k lv st w := by
  intro p e s m args below meth c C H locs ls hr hS hh
  obtain ⟨hx, hb, hrt, hml, hown, hts, hlk, hnm, hK, hO, hc⟩ := id C
  obtain ⟨y1, y2, y3, y4, y5, y6, y7⟩ := hm
  obtain ⟨h1, h2⟩ := nx_dec hc hd
  obtain ⟨t1, t2⟩ := st_rv (G := G) hst
  rw [t1]
  refine wp_go (d := d) hd rfl kk C hS hh (va_runSN ⟨hx, hb, hml, hown, hts⟩ hM ⟨va_cnB na hts (good_in (ws_good y2)) rfl rfl rfl (hO.2.2.2.2.2.1 _ hl) (hts _ y3) y5 ⟨hR.1, ?_⟩, hts _ hs, trivial⟩ ⟨blind, fun U hU hW => ⟨rfl, by rw [hU]; exact hr, va_K.moved hW.alike hK, out_moved hO hU hW hS⟩⟩ rfl t2 hh.1 rfl (lv_room (by rw [cat_rv]; exact hcat)) h1 ⟨hR.2.2.1, hR.2.2.2⟩)
  have := hR.2.1
  show 8 + (Y'.2.2.2.1 + 11) + (60 * d + 60) ≤ R.locals
  omega
theorem wp_cV {d mc ms na i a : Nat} {Q' : Option Value → mW → Prop} {As rest : List Value} (hd : nx Y k = some (pc, .invokevirtual i, 3)) (hl : Cond.methodLink (RN Y.1) i Y'.2.1 ∈ goodL) (hi : iOK Y') (hm : mOK Y' na) (hs : shp N.1 a = some (.inr Y'.1)) (hc12 : Y'.1 < 12) (hM : MT G d Y' (.ref a :: As) N.1 w mc ms Q') (hst : pops na st [] = some (As, .ref a :: rest)) (hcat : (rest.map (fun v => v.category)).sum ≤ 8)
    (hR : d + 2 ≤ R.frames ∧ 60 * d + 120 ≤ R.locals ∧ N.2.1 + mc ≤ R.cells ∧ N.2.2 + ms ≤ R.slots)
    (kk : ∀ r w', Q' r w' → WP G Y R QQ (N.1 + mc, N.2.1 + mc, N.2.2 + ms) (k + 1) lv (r.toList ++ rest) w') : WP G Y R QQ N k lv st w := by
  intro p e s m args below meth c C H locs ls hr hS hh
  obtain ⟨hx, hb, hrt, hml, hown, hts, hlk, hnm, hK, hO, hc⟩ := id C
  obtain ⟨y1, y2, y3, y4, y5, y6, y7⟩ := hm
  obtain ⟨h1, h2⟩ := nx_dec hc hd
  obtain ⟨t1, t2⟩ := st_rv2 (G := G) hst
  obtain ⟨s1, s2, s3⟩ := shp_spec hs
  have he := cells_at (G := G) (w := w) s1
  rw [cell_obj s2] at he
  have hrec := va_recv hK hr.2 (vwCl_at Y'.1 hc12) he
  rw [← ra_w s3] at hrec
  rw [t1]
  refine wp_go (d := d) hd rfl kk C hS hh (va_runV (C := Y'.2.1.cls) ⟨hx, hb, hml, hown, hts⟩ hM ⟨callB_of na hts (good_in (ws_good y2)) rfl rfl rfl (hts _ y3) (hts _ hl) y5 ⟨hR.1, ?_⟩, hts _ hi.1, hts _ hi.2⟩ ⟨blind, by rw [y7]; exact hrec, fun U hU hW => ⟨rfl, by rw [hU]; exact hr, va_K.moved hW.alike hK, out_moved hO hU hW hS⟩⟩ rfl t2 hh.1 rfl (lv_room (by rw [cat_rv]; exact hcat)) h1 ⟨hR.2.2.1, hR.2.2.2⟩)
  have := hR.2.1
  show 8 + (Y'.2.2.2.1 + 11) + (60 * d + 60) ≤ R.locals
  omega
/-- a constructor, linked plainly or among nest mates -/
theorem wp_cI {d mc ms na i a : Nat} {Q' : Option Value → mW → Prop} {As rest : List Value} (hd : nx Y k = some (pc, .invokespecial i, 3)) (hl : Cond.methodLink (RN Y.1) i Y'.2.1 ∈ goodL ∨ (RN Y.1, i, Y'.2.1) ∈ nestT) (hi : nOK Y') (hm : mOK Y' na) (hM : MT G d Y' (.ref a :: As) N.1 w mc ms Q') (hst : pops na st [] = some (As, .ref a :: rest)) (hcat : (rest.map (fun v => v.category)).sum ≤ 8)
    (hR : d + 2 ≤ R.frames ∧ 60 * d + 120 ≤ R.locals ∧ N.2.1 + mc ≤ R.cells ∧ N.2.2 + ms ≤ R.slots)
    (kk : ∀ r w', Q' r w' → WP G Y R QQ (N.1 + mc, N.2.1 + mc, N.2.2 + ms) (k + 1) lv (r.toList ++ rest) w') : WP G Y R QQ N k lv st w := by
  intro p e s m args below meth c C H locs ls hr hS hh
  obtain ⟨hx, hb, hrt, hml, hown, hts, hlk, hnm, hK, hO, hc⟩ := id C
  obtain ⟨y1, y2, y3, y4, y5, y6, y7⟩ := hm
  obtain ⟨i1, i2, i3⟩ := hi
  obtain ⟨h1, h2⟩ := nx_dec hc hd
  obtain ⟨t1, t2⟩ := st_rv2 (G := G) hst
  rw [t1]
  have hRl : 8 + (Y'.2.2.2.1 + 11) + (rmD d mc ms).locals ≤ R.locals := by
    have := hR.2.1
    show 8 + (Y'.2.2.2.1 + 11) + (60 * d + 60) ≤ R.locals
    omega
  have hM2 := hM
  unfold MT at hM2
  rw [i3] at hM2 y2
  have hws : ∀ w ∈ (Cond.code Y'.2.1 Y'.2.2.1 Y'.2.2.2.1 none :: goodL), w ∈ goodL := fun w h => (List.mem_cons.mp h).elim (fun e => e ▸ y2) id
  rcases hl with hl | hl
  · exact wp_go (d := d) hd rfl kk C hS hh (va_runI ⟨hx, hb, hml, hown, hts⟩ hM2 (cwI na hts (good_in hws) rfl rfl rfl (hts _ y3) (hts _ hl) (hts _ i1) i2 y5 ⟨hR.1, hRl⟩) ⟨blind, fun U hU hW => ⟨rfl, by rw [hU]; exact hr, va_K.moved hW.alike hK, out_moved hO hU hW hS⟩⟩ rfl t2 hh.1 rfl (lv_room (by rw [cat_rv]; exact hcat)) h1 ⟨hR.2.2.1, hR.2.2.2⟩)
  · exact wp_go (d := d) hd rfl kk C hS hh (va_runIN ⟨hx, hb, hml, hown, hts⟩ hM2 ⟨va_cnB na hts (good_in hws) rfl rfl rfl (hO.2.2.2.2.2.1 _ hl) (hts _ y3) y5 ⟨hR.1, hRl⟩, i2, hts _ i1⟩ ⟨blind, fun U hU hW => ⟨rfl, by rw [hU]; exact hr, va_K.moved hW.alike hK, out_moved hO hU hW hS⟩⟩ rfl t2 hh.1 rfl (lv_room (by rw [cat_rv]; exact hcat)) h1 ⟨hR.2.2.1, hR.2.2.2⟩)
/-- Object's constructor -/
theorem wp_obj {i a : Nat} (hd : nx Y k = some (pc, .invokespecial i, 3)) (hl : Cond.methodLink (RN Y.1) i Lib.objectInit ∈ goodL) (hcat : (st.map (fun v => v.category)).sum ≤ 8) (hR : 1 ≤ R.frames ∧ 20 ≤ R.locals) (kk : WP G Y R QQ N (k + 1) lv st w) : WP G Y R QQ N k lv (.ref a :: st) w := by
  intro p e s m args below meth c C H locs ls hr hS hh
  obtain ⟨hx, hb, hrt, hml, hown, hts, hlk, hnm, hK, hO, hc⟩ := id C
  obtain ⟨h1, h2⟩ := nx_dec hc hd
  have K := kk p e s m args below meth c C H locs ls hr hS hh
  rw [h2] at K
  refine W.objInit (a := ra G a) (rest := st.map (rv G)) hx hb hown (hts _ hl) (hts _ obj_i) (hts _ obj_c) rfl (hh.1.trans hml.symm) rfl h1 hR.1 ?_ K
  have h := lv_room (m := m) (pc := pcO Y k) (ls := ls) (rest := (Value.ref a :: st).map (rv G)) (st := st.map (rv G)) (by rw [cat_rv]; exact hcat)
  have h3 := hR.2
  exact Nat.le_trans (Nat.add_le_add_right h 12) h3
/-- a new object: its fields are 0 and null -/
theorem wp_new {i ci : Nat} (hd : nx Y k = some (pc, .new i, 3)) (hl : Cond.classLink (RN Y.1) i (RN ci) ∈ goodL) (hin : Cond.instantiable (RN ci) (NF ci) ∈ goodL) (hini : Cond.initialized (RN ci) ∈ goodL) (hci : ci < 12) (hsh : shp (N.1 + 1) N.1 = some (.inr ci))
    (hz : w.1 N.1 = (fun _ => 0) ∧ w.2.1 N.1 = (fun _ => 0) ∧ w.2.2 N.1 = (fun _ => none)) (hdf : ∀ G : Gl, ∀ j, j < NF ci → ∀ w2 : mW, w2.1 N.1 j = 0 → w2.2.1 N.1 j = 0 → w2.2.2 N.1 j = none → defaultValue (tyT ci j) = fldV G w2 N.1 j (kd (tyT ci j))) (hR : N.2.1 + 1 ≤ R.cells ∧ N.2.2 + NF ci ≤ R.slots)
    (kk : WP G Y R QQ (N.1 + 1, N.2.1 + 1, N.2.2 + NF ci) (k + 1) lv (.ref N.1 :: st) w) : WP G Y R QQ N k lv st w := by
  intro p e s m args below meth c C H locs ls hr hS hh
  obtain ⟨hx, hb, hrt, hml, hown, hts, hlk, hnm, hK, hO, hc⟩ := id C
  obtain ⟨h1, h2⟩ := nx_dec hc hd
  obtain ⟨s1, s2, s3⟩ := shp_spec hsh
  have hKn := hK.1 ci _ (vwCl_at ci hci)
  refine W.newcK hx hb hown (hts _ hl) (hts _ hin) (hts _ hini) rfl h1 hR.1 hR.2 hKn.2.1 hr.1 fun H1 kC hkC e1 z1 o1 => ?_
  have hr1 : rep G (N.1 + 1) w H1 := by
    refine ⟨by rw [z1]; omega, ?_⟩
    rw [← cells_push (w := w) (w' := w) rfl (fun j _ => rfl)]
    refine (hr.2.kept (fun j x hx => ?_)).app (fun j x hx => ?_)
    · have := (hr.2 j x hx).lt
      exact o1 x.1 (by rw [hr.1] at this; exact this)
    · have hz0 : j < 1 := (List.getElem?_eq_some_iff.mp hx).1
      rw [show j = 0 by omega] at hx
      cases hx
      rw [cell_obj s2]
      refine ⟨_, vwCl_at ci hci, (u_born (tyT ci) hts (lay_good ci hci) hKn hkC e1 (ty_all ci hci)).to (fun j hj => ?_)⟩
      show _ = vp_V _ j
      rw [vp_V, List.getD_eq_getElem?_getD, fld_at hj]
      exact hdf G j hj w (by rw [hz.1]) (by rw [hz.2.1]) (by rw [hz.2.2])
  have K := kk p e s m args below meth c C H1 locs ls hr1 ⟨Nat.le_trans hS.1 (by rw [z1, hr.1]; omega), fun q q1 q2 => (o1 q (by have := Nat.lt_of_lt_of_le q1 hS.1; rw [hr.1] at this; exact this)).trans (hS.2.1 q q1 q2), hS.2.2⟩ hh
  rw [h2, show (Value.ref N.1 :: st).map (rv G) = Value.ref (gb G + N.1) :: st.map (rv G) by simp only [List.map_cons, rv, ra_w s3]] at K
  exact K
/-- a new array of numbers -/
theorem wp_newa {t len : Nat} {at0 : ArrayType} {ty : FieldType} {nn : Int32} (hd : nx Y k = some (pc, .newarray at0, 2)) (hty : newarray.typeOf at0 = ty) (hac : Cond.arrayClass ty ∈ goodL) (ht : (t = 0 ∧ ty = .int) ∨ (t = 1 ∧ ty = .byte) ∨ (t = 2 ∧ ty = .boolean) ∨ (t = 3 ∧ ty = .long)) (hnn : ¬ nn < 0) (hlen : nn.toNatClampNeg = len) (hb8 : len * 8 ≤ 536870912) (hsh : shp (N.1 + 1) N.1 = some (.inl (t, len)))
    (hz : w.1 N.1 = (fun _ => 0) ∧ w.2.1 N.1 = (fun _ => 0) ∧ w.2.2 N.1 = (fun _ => none)) (hR : N.2.1 + 1 ≤ R.cells ∧ N.2.2 + len ≤ R.slots)
    (kk : WP G Y R QQ (N.1 + 1, N.2.1 + 1, N.2.2 + len) (k + 1) lv (.ref N.1 :: st) w) : WP G Y R QQ N k lv (.int nn :: st) w := by
  intro p e s m args below meth c C H locs ls hr hS hh
  obtain ⟨hx, hb, hrt, hml, hown, hts, hlk, hnm, hK, hO, hc⟩ := id C
  obtain ⟨h1, h2⟩ := nx_dec hc hd
  obtain ⟨s1, s2, s3⟩ := shp_spec hsh
  subst hty
  have hcb : len * componentBytes (newarray.typeOf at0) ≤ 536870912 := by
    refine Nat.le_trans (Nat.mul_le_mul_left len ?_) hb8
    rcases ht with ⟨-, h⟩ | ⟨-, h⟩ | ⟨-, h⟩ | ⟨-, h⟩ <;> rw [h] <;> decide
  refine va_newaK hx hb (hts _ hac) rfl h1 rfl hnn hlen hcb hR.1 hR.2 hr.1 fun H1 cA e1 z1 o1 hAr hNm => ?_
  have hcell : cA = gA G t ∧ vp_cell (gA G t) (len, arrC G w N.1 t) = arrV (gA G t) len (fun _ => defaultValue (newarray.typeOf at0)) := by
    rcases ht with ⟨rfl, h⟩ | ⟨rfl, h⟩ | ⟨rfl, h⟩ | ⟨rfl, h⟩
    · rw [h] at hNm ⊢
      refine ⟨Option.some.inj (hNm.symm.trans (hK.2 0 _ rfl).2), ?_⟩
      show vp_cell _ (len, .inl (w.1 N.1)) = _
      rw [hz.1, vp_cell_i]; rfl
    · rw [h] at hNm ⊢
      refine ⟨Option.some.inj (hNm.symm.trans (hK.2 1 _ rfl).2), ?_⟩
      show vp_cell _ (len, .inl (w.1 N.1)) = _
      rw [hz.1, vp_cell_i]; rfl
    · rw [h] at hNm ⊢
      refine ⟨Option.some.inj (hNm.symm.trans (hK.2 2 _ rfl).2), ?_⟩
      show vp_cell _ (len, .inl (w.1 N.1)) = _
      rw [hz.1, vp_cell_i]; rfl
    · rw [h] at hNm ⊢
      refine ⟨Option.some.inj (hNm.symm.trans (hK.2 3 _ rfl).2), ?_⟩
      show vp_cell _ (len, .inr (.inl (w.2.1 N.1))) = _
      rw [hz.2.1, vp_cell_l]; rfl
  obtain ⟨rfl, hcell⟩ := hcell
  have hr1 : rep G (N.1 + 1) w H1 := by
    refine ⟨by rw [z1]; omega, ?_⟩
    rw [← cells_push (w := w) (w' := w) rfl (fun j _ => rfl)]
    refine (hr.2.kept (fun j x hx => ?_)).app (fun j x hx => ?_)
    · have := (hr.2 j x hx).lt
      exact o1 x.1 (by rw [hr.1] at this; exact this)
    · have hz0 : j < 1 := (List.getElem?_eq_some_iff.mp hx).1
      rw [show j = 0 by omega] at hx
      cases hx
      rw [cell_arr s2]
      show H1[gb G + N.1]? = some (vp_cell _ _)
      rw [hcell]
      exact e1
  have K := kk p e s m args below meth c C H1 locs ls hr1 ⟨Nat.le_trans hS.1 (by rw [z1, hr.1]; omega), fun q q1 q2 => (o1 q (by have := Nat.lt_of_lt_of_le q1 hS.1; rw [hr.1] at this; exact this)).trans (hS.2.1 q q1 q2), hS.2.2⟩ hh
  rw [h2, show (Value.ref N.1 :: st).map (rv G) = Value.ref (gb G + N.1) :: st.map (rv G) by simp only [List.map_cons, rv, ra_w s3]] at K
  exact K
/-- a new array of references -/
theorem wp_newq {t len i ci : Nat} {nn : Int32} (hd : nx Y k = some (pc, .anewarray i, 3)) (hl : Cond.classLink (RN Y.1) i (RN ci) ∈ goodL) (ht : (t = 4 ∧ ci = 4) ∨ (t = 5 ∧ ci = 0) ∨ (t = 6 ∧ ci = 6)) (hnn : ¬ nn < 0) (hlen : nn.toNatClampNeg = len) (hb8 : len * 8 ≤ 536870912) (hsh : shp (N.1 + 1) N.1 = some (.inl (t, len)))
    (hz : w.1 N.1 = (fun _ => 0) ∧ w.2.1 N.1 = (fun _ => 0) ∧ w.2.2 N.1 = (fun _ => none)) (hR : N.2.1 + 1 ≤ R.cells ∧ N.2.2 + len ≤ R.slots)
    (kk : WP G Y R QQ (N.1 + 1, N.2.1 + 1, N.2.2 + len) (k + 1) lv (.ref N.1 :: st) w) : WP G Y R QQ N k lv (.int nn :: st) w := by
  intro p e s m args below meth c C H locs ls hr hS hh
  obtain ⟨hx, hb, hrt, hml, hown, hts, hlk, hnm, hK, hO, hc⟩ := id C
  obtain ⟨h1, h2⟩ := nx_dec hc hd
  obtain ⟨s1, s2, s3⟩ := shp_spec hsh
  have hao : va_AO (RN ci) s := by
    rcases ht with ⟨-, rfl⟩ | ⟨-, rfl⟩ | ⟨-, rfl⟩
    · exact hO.2.2.2.2.2.2.1
    · exact hO.2.2.2.2.2.2.2.1
    · exact hO.2.2.2.2.2.2.2.2
  have hty : (gT G)[t]? = some (gA G t, .object (RN ci)) := by
    rcases ht with ⟨rfl, rfl⟩ | ⟨rfl, rfl⟩ | ⟨rfl, rfl⟩ <;> rfl
  subst hlen
  refine W.anew hx hb hown (hts _ hl) (va_AO.use hao) rfl h1 rfl hnn (by omega) hR.1 hR.2 fun cA kA comp f1 f2 f3 f4 => ?_
  have hcA : cA = gA G t := by
    obtain ⟨-, -, -, -, -, q⟩ := (hK.2 t _ hty).2
    exact Option.some.inj (f1.symm.trans q)
  subst hcA
  generalize hH1 : H.push ({ cls := gA G t, slots := Array.replicate nn.toNatClampNeg .null, vm := .none } : Cell) = H1
  have z1 : H1.size = H.size + 1 := by rw [← hH1, Array.size_push]
  have e1 : H1[H.size]? = some (arrV (gA G t) nn.toNatClampNeg (fun _ => .null)) := by rw [← hH1, Array.getElem?_push_size, ← arrV_new]
  have o1 : ∀ q : Nat, q < H.size → H1[q]? = H[q]? := fun q hq => by rw [← hH1, Array.getElem?_push, if_neg (Nat.ne_of_lt hq)]
  have hcell : vp_cell (gA G t) (nn.toNatClampNeg, arrC G w N.1 t) = arrV (gA G t) nn.toNatClampNeg (fun _ => .null) := by
    have e2 : arrC G w N.1 t = .inr (.inr (.inr (.inr (fun k => (w.2.2 N.1 k).map (ra G))))) := by
      rcases ht with ⟨rfl, rfl⟩ | ⟨rfl, rfl⟩ | ⟨rfl, rfl⟩ <;> rfl
    rw [e2, hz.2.2, vp_cell_q]; rfl
  have hr1 : rep G (N.1 + 1) w H1 := by
    refine ⟨by rw [z1, hr.1]; omega, ?_⟩
    rw [← cells_push (w := w) (w' := w) rfl (fun j _ => rfl)]
    refine (hr.2.kept (fun j x hx => ?_)).app (fun j x hx => ?_)
    · exact o1 x.1 ((hr.2 j x hx).lt)
    · have hz0 : j < 1 := (List.getElem?_eq_some_iff.mp hx).1
      rw [show j = 0 by omega] at hx
      cases hx
      rw [cell_arr s2]
      show H1[gb G + N.1]? = some (vp_cell _ _)
      rw [hcell, ← hr.1]
      exact e1
  have K := kk p e s m args below meth c C H1 locs ls hr1 ⟨Nat.le_trans hS.1 (by rw [z1]; omega), fun q q1 q2 => (o1 q (Nat.lt_of_lt_of_le q1 hS.1)).trans (hS.2.1 q q1 q2), hS.2.2⟩ hh
  rw [h2, show (Value.ref N.1 :: st).map (rv G) = Value.ref H.size :: st.map (rv G) by simp only [List.map_cons, rv, ra_w s3, hr.1]] at K
  exact K
end CALLS
/-- the world when all is made: contracts that make nothing -/
abbrev MQ2 (G : Gl) (d : Nat) (Y : mY) (As : List Value) (w : mW) (Q : Option Value → mW → Prop) : Prop := MT G d Y As NN w 0 0 Q
abbrev MD (G : Gl) (d : Nat) (Y : mY) (As : List Value) (w : mW) (r : Option Value) (w' : mW) : Prop := MT G d Y As NN w 0 0 (fun r' w'' => r' = r ∧ w'' = w')
abbrev WQ (G : Gl) (d : Nat) (Y : mY) (Q : Option Value → mW → Prop) (k : Nat) (lv : List (Nat × Value)) (st : List Value) (w : mW) : Prop := WP G Y (rmD d 0 0) (QM G NN 0 0 Q) (NN, 0, 0) k lv st w
section C2
variable {G : Gl} {Y Y' : mY} {Q : Option Value → mW → Prop} {k d : Nat} {lv : List (Nat × Value)} {st : List Value} {w : mW} {pc na i : Nat} {As rest : List Value}
theorem hR2 {d : Nat} : d + 2 ≤ (rmD (d + 1) 0 0).frames ∧ 60 * d + 120 ≤ (rmD (d + 1) 0 0).locals ∧ (0 : Nat) + 0 ≤ (rmD (d + 1) 0 0).cells ∧ (0 : Nat) + 0 ≤ (rmD (d + 1) 0 0).slots := ⟨Nat.le_refl _, by show _ ≤ 60 * (d + 1) + 60; omega, Nat.le_refl _, Nat.le_refl _⟩
theorem cS1 {v : Value} {w' : mW} (hd : nx Y k = some (pc, .invokestatic i, 3)) (hl : Cond.methodLink (RN Y.1) i Y'.2.1 ∈ goodL) (hs : sOK Y') (hm : mOK Y' na) (hM : MD G d Y' As w (some v) w') (hst : pops na st [] = some (As, rest)) (hcat : (rest.map (fun v => v.category)).sum ≤ 8) (kk : WQ G (d + 1) Y Q (k + 1) lv (v :: rest) w') : WQ G (d + 1) Y Q k lv st w :=
  wp_cS hd hl hs hm hM hst hcat hR2 (fun r w2 h => by obtain ⟨rfl, rfl⟩ := h; exact kk)
theorem cS0 {w' : mW} (hd : nx Y k = some (pc, .invokestatic i, 3)) (hl : Cond.methodLink (RN Y.1) i Y'.2.1 ∈ goodL) (hs : sOK Y') (hm : mOK Y' na) (hM : MD G d Y' As w none w') (hst : pops na st [] = some (As, rest)) (hcat : (rest.map (fun v => v.category)).sum ≤ 8) (kk : WQ G (d + 1) Y Q (k + 1) lv rest w') : WQ G (d + 1) Y Q k lv st w :=
  wp_cS hd hl hs hm hM hst hcat hR2 (fun r w2 h => by obtain ⟨rfl, rfl⟩ := h; exact kk)
theorem cN1 {v : Value} {w' : mW} (hd : nx Y k = some (pc, .invokestatic i, 3)) (hl : (RN Y.1, i, Y'.2.1) ∈ nestT) (hs : sOK Y') (hm : mOK Y' na) (hM : MD G d Y' As w (some v) w') (hst : pops na st [] = some (As, rest)) (hcat : (rest.map (fun v => v.category)).sum ≤ 8) (kk : WQ G (d + 1) Y Q (k + 1) lv (v :: rest) w') : WQ G (d + 1) Y Q k lv st w :=
  wp_cSN hd hl hs hm hM hst hcat hR2 (fun r w2 h => by obtain ⟨rfl, rfl⟩ := h; exact kk)
theorem cV1 {a : Nat} {v : Value} {w' : mW} (hd : nx Y k = some (pc, .invokevirtual i, 3)) (hl : Cond.methodLink (RN Y.1) i Y'.2.1 ∈ goodL) (hi : iOK Y') (hm : mOK Y' na) (hs : shp NN a = some (.inr Y'.1)) (hc12 : Y'.1 < 12) (hM : MD G d Y' (.ref a :: As) w (some v) w') (hst : pops na st [] = some (As, .ref a :: rest)) (hcat : (rest.map (fun v => v.category)).sum ≤ 8) (kk : WQ G (d + 1) Y Q (k + 1) lv (v :: rest) w') : WQ G (d + 1) Y Q k lv st w :=
  wp_cV hd hl hi hm hs hc12 hM hst hcat hR2 (fun r w2 h => by obtain ⟨rfl, rfl⟩ := h; exact kk)
theorem cV0 {a : Nat} {w' : mW} (hd : nx Y k = some (pc, .invokevirtual i, 3)) (hl : Cond.methodLink (RN Y.1) i Y'.2.1 ∈ goodL) (hi : iOK Y') (hm : mOK Y' na) (hs : shp NN a = some (.inr Y'.1)) (hc12 : Y'.1 < 12) (hM : MD G d Y' (.ref a :: As) w none w') (hst : pops na st [] = some (As, .ref a :: rest)) (hcat : (rest.map (fun v => v.category)).sum ≤ 8) (kk : WQ G (d + 1) Y Q (k + 1) lv rest w') : WQ G (d + 1) Y Q k lv st w :=
  wp_cV hd hl hi hm hs hc12 hM hst hcat hR2 (fun r w2 h => by obtain ⟨rfl, rfl⟩ := h; exact kk)
theorem cVq {a : Nat} {Q' : Option Value → mW → Prop} (hd : nx Y k = some (pc, .invokevirtual i, 3)) (hl : Cond.methodLink (RN Y.1) i Y'.2.1 ∈ goodL) (hi : iOK Y') (hm : mOK Y' na) (hs : shp NN a = some (.inr Y'.1)) (hc12 : Y'.1 < 12) (hM : MQ2 G d Y' (.ref a :: As) w Q') (hst : pops na st [] = some (As, .ref a :: rest)) (hcat : (rest.map (fun v => v.category)).sum ≤ 8) (kk : ∀ r w', Q' r w' → WQ G (d + 1) Y Q (k + 1) lv (r.toList ++ rest) w') : WQ G (d + 1) Y Q k lv st w :=
  wp_cV hd hl hi hm hs hc12 hM hst hcat hR2 kk
end C2
