/-! law: the step -/
def fu0 : Nat := 903
def LWO (I : IF) (e : Nat) (es : List RE) : Prop := I e 6 = nI (gvs es).length ∧ I e 8 = nI es.length ∧ I e 9 = cpf 10000000 es ∧ ∀ g x, (gvs es)[g]? = some x → CO I e 300 g x
/-- the law in force and the reference's text say the same -/
def LawI (b : Bool) (I : IF) : Prop := ∃ (T : Nat → Int32) (n j : Nat) (es : List RE), n ≤ 300 ∧ I 98 0 = nI n ∧ (∀ k, k < n → I 97 k = T k) ∧ prT (KK T n) fu0 = some (true, j, es) ∧ LWO I (lawA b) es ∧ I 72 12 = nI es.length
def InvB (I : IF) (L : LF) (b : Bool) : Prop := InvA I L ∧ LawI b I
theorem LWO.fr {I J : IF} {e : Nat} {es : List RE} (h : LWO I e es) (h0 : ∀ k, k ≠ 7 → J e k = I e k) (hc : ∀ q, 1 ≤ q → q ≤ 4 → J (e + q) = I (e + q)) : LWO J e es := by
  obtain ⟨l1, l2, l3, l4⟩ := h
  refine ⟨by rw [h0 6 (by decide)]; exact l1, by rw [h0 8 (by decide)]; exact l2, by rw [h0 9 (by decide)]; exact l3, fun g x hx => ?_⟩
  refine (l4 g x hx).fr ?_ ?_ ?_ ?_ (Nat.le_refl _)
  · rw [hc 2 (by omega) (by omega)]
  · rw [hc 3 (by omega) (by omega)]
  · rw [hc 4 (by omega) (by omega)]
  · intro k hk; rw [hc 1 (by omega) (by omega)]
theorem LawI.fr {b : Bool} {I J : IF} (h : LawI b I) (h98 : J 98 0 = I 98 0) (h97 : ∀ k, k < 300 → J 97 k = I 97 k) (h0 : ∀ k, k ≠ 7 → J (lawA b) k = I (lawA b) k) (hc : ∀ q, 1 ≤ q → q ≤ 4 → J (lawA b + q) = I (lawA b + q)) (h12 : J 72 12 = I 72 12) : LawI b J := by
  obtain ⟨T, n, j, es, t1, t2, t3, t4, t5, t6⟩ := h
  exact ⟨T, n, j, es, t1, by rw [h98]; exact t2, fun k hk => by rw [h97 k (by omega)]; exact t3 k hk, t4, t5.fr h0 hc, by rw [h12]; exact t6⟩
theorem LawI.ls {b : Bool} {I J : IF} (h : LawI b I) (hl : LSm I J) : LawI b J := by
  obtain ⟨l1, l2⟩ := hl
  have lo := law_or b
  refine h.fr ?_ ?_ ?_ ?_ l2
  · rw [l1 98 (by omega)]
  · intro k _; rw [l1 97 (by omega)]
  · intro k _; rw [l1 (lawA b) (by omega)]
  · intro q h1 h4; exact l1 (lawA b + q) (by omega)
theorem KE_T {T : Nat → Int32} {n : Nat} (hn : n ≤ 300) : KE (KK T n) 300 := fun k hk => Classical.byContradiction (fun z => by have := KK_lt hn z; omega)
theorem prT_s {T : Nat → Int32} {n : Nat} (hn : n ≤ 300) : ∃ o j es, prT (KK T n) fu0 = some (o, j, es) := by
  unfold prT
  by_cases h : KK T n 0 = -100
  · rw [if_pos h]; exact ⟨true, 0, [], rfl⟩
  · rw [if_neg h]
    obtain ⟨⟨o, j, es⟩, hx⟩ := prR_s (f0 := fu0) (KE_T (T := T) hn) (by decide) 10 0 (by omega)
    exact ⟨o, j, es, hx⟩
theorem prR_b {K : Nat → Int32} {m f0 : Nat} (hK : KE K m) : ∀ r i o j es, prR K f0 r i = some (o, j, es) → i ≤ m → j ≤ m ∧ (o = true → es.length ≤ r) := by
  intro r
  induction r with
  | zero =>
    intro i o j es h hi
    have e1 : some (false, i, ([] : List RE)) = some (o, j, es) := h
    cases e1
    exact ⟨hi, nofun⟩
  | succ r ih =>
    intro i o j es h hi
    have ha : ∀ e j0 i0, prA K e j0 (prR K f0 r i0) = some (o, j, es) → j0 ≤ m → i0 ≤ m ∨ ¬ K j0 = -59 → j ≤ m ∧ (o = true → es.length ≤ r + 1) := by
      intro e j0 i0 hA hj hi0
      rcases prA_i hA with ⟨a1, a2, a3, a4⟩ | ⟨a1, o1, es1, a2, a3, a4⟩ | ⟨_, _, a3, a4⟩
      · rw [a3, a4]; exact ⟨hj, fun _ => by simp⟩
      · have := ih _ _ _ _ a2 (hi0.resolve_right (fun z => z a1))
        refine ⟨this.1, fun z => ?_⟩
        rw [a4 z]
        have := this.2 (a3.symm.trans z)
        simp only [List.length_cons]
        omega
      · rw [a4]; exact ⟨hj, fun z => by rw [a3] at z; cases z⟩
    rcases prR_i h with ⟨h1, h2⟩ | ⟨h1, h2, h3⟩ | ⟨_, _, h3, h4⟩
    · have hl := hK.lv h1 (by decide)
      rcases h2 with ⟨c1, g1, g2⟩ | ⟨j1, c1, g1, g2⟩
      · exact ⟨(prs_b hK _ _ _ _ _ _ _ g1 (by omega)).2.1, fun z => by rw [g2] at z; cases z⟩
      · have hb := prs_b hK _ _ _ _ _ _ _ g1 (by omega)
        rcases g2 with ⟨k1, c2, g3, g4⟩ | ⟨j2, c2, g3, g4⟩
        · exact ⟨(prC_b hK _ _ _ _ _ g3 (hK.lv k1 (by decide))).2.1, fun z => by rw [g4] at z; cases z⟩
        · have hj2 : j2 ≤ m := by
            rcases g3 with ⟨k1, k2⟩ | ⟨k1, k2, k3⟩
            · exact (prC_b hK _ _ _ _ _ k2 (hK.lv k1 (by decide))).2.1
            · rw [k2]; exact hb.2.1
          refine ha _ _ _ g4 hj2 ?_
          by_cases z : K j2 = -59
          · exact Or.inl (hK.lv z (by decide))
          · exact Or.inr z
    · have hl := hK.lv h2 (by decide)
      rcases h3 with ⟨h3, h4⟩ | ⟨_, h4, h5⟩
      · have hl2 := hK.l0 h3
        refine ha _ _ _ h4 (by omega) ?_
        by_cases z : K (i + 2) = -59
        · exact Or.inl (by have := hK.lv z (by decide); omega)
        · exact Or.inr z
      · exact ⟨by omega, fun z => by rw [h4] at z; cases z⟩
    · exact ⟨by omega, fun z => by rw [h3] at z; cases z⟩
theorem prT_b {T : Nat → Int32} {n j : Nat} {o : Bool} {es : List RE} (hn : n ≤ 300) (h : prT (KK T n) fu0 = some (o, j, es)) : j ≤ 300 ∧ (o = true → es.length ≤ 10) := by
  unfold prT at h
  by_cases h0 : KK T n 0 = -100
  · rw [if_pos h0] at h; cases h; exact ⟨by omega, fun _ => by simp⟩
  · rw [if_neg h0] at h
    exact prR_b (KE_T hn) _ _ _ _ _ h (by omega)
theorem prT_v {T : Nat → Int32} {n j : Nat} {es : List RE} (h : prT (KK T n) fu0 = some (true, j, es)) : ∀ e, e ∈ es → REok e := by
  unfold prT at h
  by_cases h0 : KK T n 0 = -100
  · rw [if_pos h0] at h; cases h; exact fun e he => by cases he
  · rw [if_neg h0] at h
    exact prR_v (fun i => KK_num.2.2) _ _ _ _ h
theorem IV_law {nm na nr : Nat} {I J : IF} {L L2 : LF} (h : IV nm na nr I L) (ho : ∀ a, a ≠ 0 → a ≠ 44 → (a < 47 ∨ 54 < a) → (a < 66 ∨ 70 < a) → a ≠ 72 → a ≠ 97 → a ≠ 98 → J a = I a) (h0 : ∀ k, k ≠ 8 → J 0 k = I 0 k) (h72 : ∀ k, k ≠ 0 → k ≠ 12 → k ≠ 36 → k ≠ 37 → k < 42 → J 72 k = I 72 k) (h8 : J 72 37 = J 0 8) (h44 : J 44 1 = 0) (h36 : J 72 36 = 0) (hL : ∀ a, a ≠ 72 → L2 a = L a) : IV nm na nr J L2 := by
  obtain ⟨a1, a2, a3, a4, a5, a6, a7, a8, a9, a10, a11⟩ := h
  have o1 : J 1 = I 1 := ho 1 (by omega) (by omega) (by omega) (by omega) (by omega) (by omega) (by omega)
  have o39 : J 39 = I 39 := ho 39 (by omega) (by omega) (by omega) (by omega) (by omega) (by omega) (by omega)
  have om : ∀ m, m < 14 → J (4 + m) = I (4 + m) := fun m hm => ho _ (by omega) (by omega) (by omega) (by omega) (by omega) (by omega) (by omega)
  have oa : ∀ m, m < 16 → J (18 + m) = I (18 + m) := fun m hm => ho _ (by omega) (by omega) (by omega) (by omega) (by omega) (by omega) (by omega)
  have oh : ∀ a, 73 ≤ a → a ≤ 96 → J a = I a := fun a h1 h2 => ho _ (by omega) (by omega) (by omega) (by omega) (by omega) (by omega) (by omega)
  refine ⟨?_, ?_, IVm_fr a3 om (fun a _ _ => oh a (by omega) (by omega)), IVk_fr a4 om (fun a _ _ => oh a (by omega) (by omega)) (h0 11 (by decide)) (by rw [o1]), IVf_fr a1.1.2.2 a5 om (oh 81 (by omega) (by omega)), IVu_fr a6 om (oh 82 (by omega) (by omega)), IVp_fr a7 om (fun a _ _ => oh a (by omega) (by omega)) (h0 10 (by decide)) (h0 11 (by decide)), IVa_fr a8 oa (fun a _ _ => oh a (by omega) (by omega)), IVl_fr a9 oa (oh 92 (by omega) (by omega)), ?_, ?_⟩
  · unfold IVc
    rw [o1, h72 5 (by decide) (by decide) (by decide) (by decide) (by decide), h72 6 (by decide) (by decide) (by decide) (by decide) (by decide), h72 7 (by decide) (by decide) (by decide) (by decide) (by decide)]
    exact a1
  · obtain ⟨s1, s2, s3, s4, s5, s6, s7, s8, s9, s10⟩ := a2
    refine ⟨?_, ?_, ?_, ?_, ?_, ?_, h8, ?_, ?_, ?_⟩
    · rw [o1, h72 8 (by decide) (by decide) (by decide) (by decide) (by decide)]; exact s1
    · rw [o1, h72 9 (by decide) (by decide) (by decide) (by decide) (by decide)]; exact s2
    · rw [o1, h72 10 (by decide) (by decide) (by decide) (by decide) (by decide)]; exact s3
    · rw [h0 9 (by decide), h72 11 (by decide) (by decide) (by decide) (by decide) (by decide)]; exact s4
    · rw [o1, h0 10 (by decide), h72 30 (by decide) (by decide) (by decide) (by decide) (by decide)]; exact s5
    · rw [h0 11 (by decide), h72 32 (by decide) (by decide) (by decide) (by decide) (by decide)]; exact s6
    · rw [o39, h72 31 (by decide) (by decide) (by decide) (by decide) (by decide)]; exact s8
    · rw [h0 11 (by decide), h0 10 (by decide)]; exact s9
    · rw [o1, h0 11 (by decide)]; exact s10
  · refine ⟨⟨0, by omega, h44, h36⟩, fun q hq => ?_⟩
    rw [oh 96 (by omega) (by omega), ho 45 (by omega) (by omega) (by omega) (by omega) (by omega) (by omega) (by omega)]
    exact a10.2 q hq
  · intro s hs
    have hr := IVr_fr (J := J) a11 (fun m hm => ho _ (by omega) (by omega) (by omega) (by omega) (by omega) (by omega) (by omega)) (oh 73 (by omega) (by omega)) (oh 74 (by omega) (by omega)) s hs
    rw [hL 75 (by decide), hL (58 + 2 * s) (by omega)]
    exact hr
theorem s_law {G : Gl} {d : Nat} {I : IF} {L : LF} {b : Bool} (h : InvB I L b) : Step InvB G (d + 35) Y_X10_law Y_X11_law [] I L b := by
  obtain ⟨⟨nm, na, nr, hI⟩, hlaw⟩ := h
  obtain ⟨a1, a2, a3, a4, a5, a6, a7, a8, a9, ⟨⟨n, t1, t2, t3⟩, t4⟩, a11⟩ := id hI
  obtain ⟨o, j, es, hp⟩ := prT_s (T := I 45) t1
  have hpb := prT_b t1 hp
  have lo := law_or b
  have hfr : ∀ (I1 J : IF) (v : Int32), (∀ a, a ≠ 47 → a ≠ 48 → a ≠ 49 → a ≠ drfA b → I1 a = I a) → FR b I1 j J → (∀ a, a ≠ 0 → a ≠ 44 → (a < 47 ∨ 49 < a) → (a < drfA b ∨ drfA b + 4 < a) → uI (uI J 0 8 v) 44 1 0 a = I a) ∧ (∀ k, k ≠ 8 → uI (uI J 0 8 v) 44 1 0 0 k = I 0 k) ∧ uI (uI J 0 8 v) 44 1 0 0 8 = v ∧ uI (uI J 0 8 v) 44 1 0 44 1 = 0 := by
    intro I1 J v i1 hF
    refine ⟨fun a b1 b2 b3 b4 => ?_, fun k hk => ?_, ?_, uI_eq⟩
    · rw [uI_fn b2, uI_fn b1, hF.1 a (by omega) b4]; exact i1 a (by omega) (by omega) (by omega) (by omega)
    · rw [uI_ne (by decide), uI_nk hk, hF.1 0 (by decide) (by omega), i1 0 (by omega) (by omega) (by omega) (by omega)]
    · rw [uI_ne (by decide), uI_eq]
  have h72 : ∀ J' : IF, (∀ a, a ≠ 0 → a ≠ 44 → (a < 47 ∨ 49 < a) → (a < drfA b ∨ drfA b + 4 < a) → J' a = I a) → J' 72 = I 72 := fun J' z => z 72 (by omega) (by omega) (by omega) (by omega)
  have h96 : ∀ J' : IF, (∀ a, a ≠ 0 → a ≠ 44 → (a < 47 ∨ 49 < a) → (a < drfA b ∨ drfA b + 4 < a) → J' a = I a) → ∀ k, k < n → J' 96 k = I 45 k ∧ vp_nar .byte (I 45 k) = I 45 k := fun J' z k hk => by
    rw [z 96 (by omega) (by omega) (by omega) (by omega)]
    exact t4 k (by omega)
  cases o with
  | true =>
    refine (c_X10_law_t G (d + 4) t1 I L b t2 hp).mono (fun r w hh => ?_)
    obtain ⟨e1, I1, J, c, e2, i1, hD⟩ := hh
    obtain ⟨f1, f2, f3, f4⟩ := hfr I1 J (-1) i1 hD.1
    have fd : ∀ a, drfA b ≤ a → a ≤ drfA b + 4 → uI (uI J 0 8 (-1)) 44 1 0 a = J a := fun a z1 z2 => by rw [uI_fn (by omega), uI_fn (by omega)]
    generalize uI (uI J 0 8 (-1)) 44 1 0 = J' at e2 f1 f2 f3 f4 fd
    refine ⟨nI es.length, J', L, !b, e1, e2, ?_⟩
    rw [e2]
    refine (c_X11_law G d t1 J' L (!b) (by rw [h72 J' f1]; exact t3) (h96 J' f1) hp).mono (fun r2 w2 hh2 => ?_)
    obtain ⟨J2, L2, w1, ⟨g1, g2, g3⟩, g4, g5, -⟩ := hh2
    obtain ⟨k1, k2, k3, k4, k5⟩ := g5 rfl
    refine ⟨J2, L2, k1, w1, ⟨nm, na, nr, IV_law hI (fun a z1 z2 z3 z4 z5 z6 z7 => ?_) (fun k hk => ?_) (fun k z1 z2 z3 z4 z5 => ?_) ?_ ?_ g4 g3⟩, I 45, n, j, es, t1, k4, k5, hp, ?_, k3⟩
    · rw [g1 a z5 z6 z7]; exact f1 a z1 z2 (by omega) (by omega)
    · rw [g1 0 (by decide) (by decide) (by decide)]; exact f2 k hk
    · rw [g2 k z1 z2 z3 z4 (by omega), h72 J' f1]
    · rw [g1 0 (by decide) (by decide) (by decide), f3]; exact k2
    · rw [g1 44 (by decide) (by decide) (by decide)]; exact f4
    · have gd : ∀ a, drfA b ≤ a → a ≤ drfA b + 4 → J2 a = J a := fun a z1 z2 => by rw [g1 a (by omega) (by omega) (by omega)]; exact fd a z1 z2
      rw [lawA_not]
      obtain ⟨d0, d5, dc, d6, d8, d9, dco⟩ := hD
      refine ⟨by rw [gd _ (by omega) (by omega)]; exact d6, by rw [gd _ (by omega) (by omega)]; exact d8, by rw [gd _ (by omega) (by omega)]; exact d9, fun g x hx => ?_⟩
      refine (dco g x hx).fr ?_ ?_ ?_ ?_ (by omega)
      · rw [gd _ (by omega) (by omega)]
      · rw [gd _ (by omega) (by omega)]
      · rw [gd _ (by omega) (by omega)]
      · intro k _; rw [gd _ (by omega) (by omega)]
  | false =>
    refine (c_X10_law_f G (d + 4) t1 I L b t2 hp).mono (fun r w hh => ?_)
    obtain ⟨e1, I1, J, e2, i1, hF⟩ := hh
    obtain ⟨f1, f2, f3, f4⟩ := hfr I1 J (nI (ps (I 45) n j)) i1 hF
    generalize uI (uI J 0 8 (nI (ps (I 45) n j))) 44 1 0 = J' at e2 f1 f2 f3 f4
    refine ⟨-4, J', L, b, e1, e2, ?_⟩
    rw [e2]
    refine (c_X11_law G d t1 J' L b (by rw [h72 J' f1]; exact t3) (h96 J' f1) hp).mono (fun r2 w2 hh2 => ?_)
    obtain ⟨J2, L2, w1, ⟨g1, g2, g3⟩, g4, -, g5⟩ := hh2
    obtain ⟨k1, k2, k3, k4, k5⟩ := g5 rfl
    refine ⟨J2, L2, k1, w1, ⟨nm, na, nr, IV_law hI (fun a z1 z2 z3 z4 z5 z6 z7 => ?_) (fun k hk => ?_) (fun k z1 z2 z3 z4 z5 => ?_) ?_ ?_ g4 g3⟩, hlaw.fr ?_ ?_ ?_ ?_ ?_⟩
    · rw [g1 a z5 z6 z7]; exact f1 a z1 z2 (by omega) (by omega)
    · rw [g1 0 (by decide) (by decide) (by decide)]; exact f2 k hk
    · rw [g2 k z1 z2 z3 z4 (by omega), h72 J' f1]
    · rw [g1 0 (by decide) (by decide) (by decide), f3]; exact k2
    · rw [g1 44 (by decide) (by decide) (by decide)]; exact f4
    · rw [k4, f1 98 (by omega) (by omega) (by omega) (by omega)]
    · intro k hk; rw [k5 k hk, f1 97 (by omega) (by omega) (by omega) (by omega)]
    · intro k _; rw [g1 _ (by omega) (by omega) (by omega), f1 _ (by omega) (by omega) (by omega) (by omega)]
    · intro q q1 q2; rw [g1 _ (by omega) (by omega) (by omega), f1 _ (by omega) (by omega) (by omega) (by omega)]
    · rw [k3, h72 J' f1]
