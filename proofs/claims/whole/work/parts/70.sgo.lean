/-! go: the step -/
theorem hNt_ok {I : IF} {a : Nat} (h1 : 0 ≤ I (18 + a) 5) (h2 : I (18 + a) 5 ≤ I (18 + a) 2) (h3 : I (18 + a) 2 ≤ 100000) : I (18 + a) 2 - I (18 + a) 5 = nI (hNt I a) ∧ hNt I a ≤ 100000 := by
  obtain ⟨m, m1, m2⟩ := nI_get (x := I (18 + a) 2 - I (18 + a) 5) (n := 100001) (by grind) (by show _ < (100001 : Int32); grind) (by omega)
  unfold hNt
  rw [m2, nI_clamp (by omega)]
  exact ⟨rfl, by omega⟩
/-- the world behind go, told by its cells -/
def XG (b : Bool) (nm nr S : Nat) (qf : Nat → Nat) (I : IF) (L : LF) (X : IF) (L3 : LF) : Prop := (∀ q, q ≠ 0 → q ≠ 1 → (q < 4 ∨ 13 < q) → (q < 18 ∨ 33 < q) → q ≠ 65 → q ≠ lawA b → q ≠ 72 → q ≠ 84 → q ≠ 91 → X q = I q) ∧ (∀ k, k ≠ 9 → X 0 k = I 0 k) ∧ X 0 9 = nI S ∧ (∀ k, k ≠ 5 → X 1 k = I 1 k) ∧ X 1 5 = I 1 5 + 1 ∧ (∀ m, m < 10 → (∀ q, q ≠ 9 → X (4 + m) q = I (4 + m) q) ∧ X (4 + m) 9 = if m < nm ∧ I (4 + m) 7 = I 1 5 then 1 else I (4 + m) 9) ∧ (∀ a, a < 16 → (∀ q, q ≠ 5 → X (18 + a) q = I (18 + a) q) ∧ X (18 + a) 5 = if a < nr then I (18 + a) 5 + nI (qf a) else I (18 + a) 5) ∧ (∀ q, q ≠ 0 → q ≠ 8 → q ≠ 11 → (q < 42 ∨ 53 < q) → X 72 q = I 72 q) ∧ X 72 8 = I 72 8 + 1 ∧ X 72 11 = nI S ∧ (∀ m, m < 10 → X 84 m = if m < nm ∧ I 94 m = I 72 8 then 1 else I 84 m) ∧ (∀ a, a < 16 → X 91 a = if a < nr then I 91 a + nI (qf a) else I 91 a) ∧ (∀ q, q ≠ 7 → X (lawA b) q = I (lawA b) q) ∧ ∀ q, q ≠ lawA b + 5 → q ≠ 72 → q ≠ 101 → L3 q = L q
theorem XG.inv {b : Bool} {nm na nr S : Nat} {qf : Nat → Nat} {I X : IF} {L L3 : LF} (h : IV nm na nr I L) (hX : XG b nm nr S qf I L X L3) (hw : ¬ 52 ≤ I 1 5) (hpl : ¬ I 0 10 = -1) (htu : ¬ I 0 11 = 0) (hS : S ≤ 10000000) (hq : ∀ a, a < 16 → qf a ≤ hNt I a) : IV nm na nr X L3 := by
  obtain ⟨x1, x2, x3, x4, x5, x6, x7, x8, x9, x10, x11, x12, x13, x14⟩ := hX
  obtain ⟨a1, a2, a3, a4, a5, a6, a7, a8, a9, a10, a11⟩ := h
  have lo := law_or b
  obtain ⟨s1, s2, s3, s4, s5, s6, s7, s8, s9, s10⟩ := a2
  have t1 : I 0 11 = 1 := s6.2.resolve_left htu
  have xo : ∀ q, 73 ≤ q → q ≤ 96 → q ≠ 84 → q ≠ 91 → X q = I q := fun q h1 h2 h3 h4 => x1 q (by omega) (by omega) (by omega) (by omega) (by omega) (by omega) (by omega) h3 h4
  have xm : ∀ m, m < 14 → ∀ q, q ≠ 9 → X (4 + m) q = I (4 + m) q := fun m hm q hq => by
    by_cases e : m < 10
    · exact (x6 m e).1 q hq
    · rw [x1 (4 + m) (by omega) (by omega) (by omega) (by omega) (by omega) (by omega) (by omega) (by omega) (by omega)]
  have xu : ∀ k, k < 4 → X (14 + k) = I (14 + k) := fun k hk => x1 _ (by omega) (by omega) (by omega) (by omega) (by omega) (by omega) (by omega) (by omega) (by omega)
  have h72 : ∀ q, q ≠ 0 → q ≠ 8 → q ≠ 11 → q < 42 → X 72 q = I 72 q := fun q q1 q2 q3 q4 => x8 q q1 q2 q3 (Or.inl q4)
  refine ⟨?_, ⟨?_, ?_, ?_, ?_, ?_, ?_, ?_, ?_, ?_, ?_⟩, ?_, ?_, ?_, ?_, ?_, ?_, ?_, ?_, ?_⟩
  · unfold IVc
    rw [x4 2 (by decide), x4 3 (by decide), x4 4 (by decide), h72 5 (by decide) (by decide) (by decide) (by decide), h72 6 (by decide) (by decide) (by decide) (by decide), h72 7 (by decide) (by decide) (by decide) (by decide)]
    exact a1
  · rw [x9, x5, s1.1]
    refine ⟨rfl, ?_, ?_⟩
    · have := s1.2.1; grind
    · grind
  · rw [h72 9 (by decide) (by decide) (by decide) (by decide), x4 6 (by decide)]; exact s2
  · rw [h72 10 (by decide) (by decide) (by decide) (by decide), x4 7 (by decide)]; exact s3
  · rw [x10, x3]
    exact ⟨rfl, nI_pos' (by omega), nI_le (b := 10000000) hS (by omega)⟩
  · rw [h72 30 (by decide) (by decide) (by decide) (by decide), x2 10 (by decide), x4 2 (by decide)]; exact s5
  · rw [h72 32 (by decide) (by decide) (by decide) (by decide), x2 11 (by decide)]; exact s6
  · rw [h72 37 (by decide) (by decide) (by decide) (by decide), x2 8 (by decide)]; exact s7
  · rw [h72 31 (by decide) (by decide) (by decide) (by decide), x1 39 (by omega) (by omega) (by omega) (by omega) (by omega) (by omega) (by omega) (by omega) (by omega)]; exact s8
  · rw [x2 11 (by decide), x2 10 (by decide)]; exact s9
  · rw [x2 11 (by decide)]; exact fun _ => t1
  · intro m hm
    have := a3 m hm
    rw [xm m hm 0 (by decide), xm m hm 1 (by decide), xm m hm 2 (by decide), xm m hm 5 (by decide), xo 77 (by omega) (by omega) (by omega) (by omega), xo 78 (by omega) (by omega) (by omega) (by omega), xo 79 (by omega) (by omega) (by omega) (by omega), xo 80 (by omega) (by omega) (by omega) (by omega)]
    exact this
  · intro m hm
    obtain ⟨k1, k2, k3, k4, k5⟩ := a4 m hm
    have e9 := (x6 m hm).2
    have hp9 : 0 < X 1 5 := by rw [x5]; have := s1.2.1; grind
    refine ⟨by rw [xm m (by omega) 4 (by decide), xo 83 (by omega) (by omega) (by omega) (by omega)]; exact k1, ⟨?_, ?_⟩, by rw [xm m (by omega) 10 (by decide), xo 85 (by omega) (by omega) (by omega) (by omega)]; exact k3, fun _ => ⟨by rw [x2 11 (by decide)]; exact t1, hp9⟩, fun hnm => ?_⟩
    · rw [x11 m hm, e9, s1.1]
      by_cases e : m < nm
      · have e94 := ((a7 m hm).1 ⟨hpl, e⟩).1
        rw [e94]
        by_cases e2 : I (4 + m) 7 = I 1 5
        · rw [if_pos ⟨e, e2⟩, if_pos ⟨e, e2⟩]
        · rw [if_neg (fun z => e2 z.2), if_neg (fun z => e2 z.2)]; exact k2.1
      · rw [if_neg (fun z => e z.1), if_neg (fun z => e z.1)]; exact k2.1
    · rw [e9]
      split
      · exact Or.inr rfl
      · exact k2.2
    · rw [e9, if_neg (fun z => by omega)]; exact k5 hnm
  · intro m hm
    have := a5 m hm
    have hnm := a1.1.2.2
    rw [xm m (by omega) 3 (by decide), xo 81 (by omega) (by omega) (by omega) (by omega)]
    exact this
  · intro k hk
    rw [xu k hk, xo 82 (by omega) (by omega) (by omega) (by omega)]
    exact a6 k hk
  · intro m hm
    have := a7 m hm
    rw [xm m (by omega) 7 (by decide), xm m (by omega) 6 (by decide), xo 94 (by omega) (by omega) (by omega) (by omega), xo 95 (by omega) (by omega) (by omega) (by omega), x2 10 (by decide), x2 11 (by decide)]
    exact this
  · intro a ha
    obtain ⟨⟨b1, b2, b3, b4, b5, b6, b7⟩, c1, c2, c3, c4⟩ := a8 a ha
    obtain ⟨y1, y2⟩ := x7 a ha
    have hN := hNt_ok c4.1 c4.2 c3.2
    have hqa := hq a ha
    refine ⟨⟨by rw [y1 0 (by decide), xo 86 (by omega) (by omega) (by omega) (by omega)]; exact b1, by rw [y1 1 (by decide), xo 87 (by omega) (by omega) (by omega) (by omega)]; exact b2, by rw [y1 2 (by decide), xo 88 (by omega) (by omega) (by omega) (by omega)]; exact b3, by rw [y1 3 (by decide), xo 89 (by omega) (by omega) (by omega) (by omega)]; exact b4, by rw [y1 4 (by decide), xo 90 (by omega) (by omega) (by omega) (by omega)]; exact b5, by rw [x12 a ha, y2, b6], by rw [y1 7 (by decide), xo 93 (by omega) (by omega) (by omega) (by omega)]; exact b7⟩, by rw [y1 0 (by decide)]; exact c1, by rw [y1 1 (by decide)]; exact c2, by rw [y1 2 (by decide)]; exact c3, ?_⟩
    rw [y1 2 (by decide), y2]
    by_cases e : a < nr
    · rw [if_pos e]
      have q1 : nI (qf a) ≤ nI (hNt I a) := nI_le hqa (by omega)
      have q0 : 0 ≤ nI (qf a) := nI_pos' (by omega)
      rw [← hN.1] at q1
      obtain ⟨c41, c42⟩ := c4
      obtain ⟨c31, c32⟩ := c3
      constructor
      · grind
      · grind
    · rw [if_neg e]; exact c4
  · intro a ha
    obtain ⟨l1, l2⟩ := a9 a ha
    obtain ⟨y1, y2⟩ := x7 a ha
    refine ⟨fun z => by rw [y1 6 (by decide), xo 92 (by omega) (by omega) (by omega) (by omega)]; exact l1 z, fun z => ⟨by rw [y1 6 (by decide)]; exact (l2 z).1, by rw [y2, if_neg (by omega)]; exact (l2 z).2⟩⟩
  · exact IVt_fr a10 (by rw [x1 44 (by omega) (by omega) (by omega) (by omega) (by omega) (by omega) (by omega) (by omega) (by omega)]) (h72 36 (by decide) (by decide) (by decide) (by decide)) (xo 96 (by omega) (by omega) (by omega) (by omega)) (x1 45 (by omega) (by omega) (by omega) (by omega) (by omega) (by omega) (by omega) (by omega) (by omega))
  · intro s hs
    have hr := IVr_fr (J := X) a11 (fun m hm => x1 _ (by omega) (by omega) (by omega) (by omega) (by omega) (by omega) (by omega) (by omega) (by omega)) (xo 73 (by omega) (by omega) (by omega) (by omega)) (xo 74 (by omega) (by omega) (by omega) (by omega)) s hs
    rw [x14 75 (by omega) (by decide) (by decide), x14 (58 + 2 * s) (by omega) (by omega) (by omega)]
    exact hr
theorem s_go {G : Gl} {d : Nat} {I : IF} {L : LF} {b : Bool} (h : InvB I L b) : Step InvB G (d + 35) Y_X10_go Y_X11_go [] I L b := by
  obtain ⟨⟨nm, na, nr, hI⟩, hlaw⟩ := h
  obtain ⟨a1, a2, a3, a4, a5, a6, a7, a8, a9, a10, a11⟩ := id hI
  obtain ⟨s1, s2, s3, s4, s5, s6, s7, s8, s9, s10⟩ := id a2
  have lo := law_or b
  by_cases hno : 52 ≤ I 1 5 ∨ I 0 10 = -1 ∨ I 0 11 = 0
  · have hno2 : I 72 8 = 52 ∨ I 72 30 = -1 ∨ I 72 32 = 0 := by
      rw [s1.1, s5.1, s6.1]
      rcases hno with z | z
      · have := s1.2.2
        exact Or.inl (by grind)
      · exact Or.inr z
    exact Step.ofA (StepA.query hI (c_X10_go_no G (d + 35) I L b hno) (c_X11_go_no G (d + 35) I L b hno2)) (fun I2 L2 i2 l2 => ⟨i2, hlaw.ls l2⟩)
  · have hw : ¬ 52 ≤ I 1 5 := fun z => hno (Or.inl z)
    have hpl : ¬ I 0 10 = -1 := fun z => hno (Or.inr (Or.inl z))
    have htu : ¬ I 0 11 = 0 := fun z => hno (Or.inr (Or.inr z))
    obtain ⟨T, n, j, es, t1, t2, t3, t4, t5, t6⟩ := id hlaw
    have hok := prT_v t4
    have hel := (prT_b t1 t4).2 rfl
    obtain ⟨s0, hs0, e9⟩ := nI_get (x := I 0 9) (n := 10000001) s4.2.1 (by show I 0 9 < (10000001 : Int32); have := s4.2.2; grind) (by omega)
    obtain ⟨C0, hC0, hC, hcap⟩ : ∃ C0, C0 ≤ 10000000 ∧ I (lawA b) 9 = nI C0 ∧ ((cpr es = -1 ∧ C0 = 10000000) ∨ (cpr es = nI C0 ∧ ¬ cpr es = -1)) := by
      rcases cap_rel0 hok with ⟨z1, z2⟩ | ⟨z1, z2, z3⟩
      · exact ⟨10000000, Nat.le_refl _, by rw [t5.2.2.1, z2]; rfl, Or.inl ⟨z1, rfl⟩⟩
      · obtain ⟨m, m1, m2⟩ := nI_get (x := cpr es) (n := 1000000) z1 (by show cpr es < (1000000 : Int32); grind) (by omega)
        exact ⟨m, by omega, by rw [t5.2.2.1, z3, m2], Or.inr ⟨m2, fun z => by rw [z] at z1; exact absurd z1 (by decide)⟩⟩
    have hh : ∀ a, a < 16 → 0 ≤ I (18 + a) 5 ∧ I (18 + a) 5 ≤ I (18 + a) 2 ∧ I (18 + a) 2 ≤ 100000 := fun a ha => by
      obtain ⟨_, c1, c2, c3, c4⟩ := a8 a ha
      exact ⟨c4.1, c4.2, c3.2⟩
    refine (c_X10_go G (d + 29) (L := L) hw hpl htu t5 hel hok a1.1.2.2 a1.1.1 a1.2.2.2.2 a1.2.2.1 e9 (by omega) hC hC0 hh).mono (fun r w hr => ?_)
    obtain ⟨e1, J1, J2, L2, e2, hG, hM⟩ := hr
    obtain ⟨g1, g2, g3, g4, g5, g6⟩ := hG
    obtain ⟨m1, m2⟩ := hM
    refine ⟨I 1 5 + 1, uI J2 1 5 (I 1 5 + 1), L2, b, e1, e2, ?_⟩
    rw [e2]
    generalize hK : uI J2 1 5 (I 1 5 + 1) = K
    have ko : ∀ q, q ≠ 0 → q ≠ 1 → (q < 4 ∨ 13 < q) → (q < 18 ∨ 33 < q) → q ≠ 65 → q ≠ lawA b → K q = I q := fun q q1 q2 q3 q4 q5 q6 => by rw [← hK, uI_fn q2, m1 q q3]; exact g1 q q1 q5 q6 q4
    have k72 : K 72 = I 72 := ko 72 (by omega) (by omega) (by omega) (by omega) (by omega) (by omega)
    have kr : ∀ q, 73 ≤ q → K q = I q := fun q hq => ko q (by omega) (by omega) (by omega) (by omega) (by omega) (by omega)
    refine (c_X11_go G d (T := T) (n := n) (j := j) (nm := nm) (nr := nr) (C0 := C0) (s0 := s0) (es := es) (Z := Zt I es) (H := hNt I) (I := K) (L := L2) (by rw [k72, s1.1]; intro z; exact hw (by grind)) (by rw [k72, s5.1]; exact hpl) (by rw [k72, s6.1]; exact htu) (by rw [k72]; exact a1.1.2.1) a1.1.2.2 (by rw [k72]; exact a1.2.2.2.1) a1.2.2.2.2 (by rw [k72, s4.1]; exact e9) (by omega) hC0 hcap t1 (by rw [kr 98 (by omega)]; exact t2) (fun k hk => by rw [kr 97 (by omega)]; exact t3 k hk) t4 (fun a s ha => ?_) (fun a ha => ?_)).mono (fun r2 w2 hr2 => ?_)
    · obtain ⟨⟨b1, b2, b3, b4, b5, b6, b7⟩, _⟩ := a8 a ha
      rw [kr 88 (by omega), kr 89 (by omega), kr 90 (by omega), kr 91 (by omega), k72, b3, b4, b5, b6, s1.1]
      rfl
    · obtain ⟨⟨b1, b2, b3, b4, b5, b6, b7⟩, _⟩ := a8 a ha
      obtain ⟨z1, z2, z3⟩ := hh a ha
      rw [kr 88 (by omega), kr 91 (by omega), b3, b6]
      exact hNt_ok z1 z2 z3
    · obtain ⟨f1, H1, H2, L3, f2, hB, hN⟩ := hr2
      obtain ⟨p1, p2, p3, p4, p5⟩ := hB
      obtain ⟨o1, o2⟩ := hN
      rw [k72, s1.1] at f1 f2
      refine ⟨uI H2 72 8 (I 1 5 + 1), L3, f1, f2, ?_⟩
      have hX : XG b nm nr (gvS (Zt I es) (hNt I) C0 s0 nr) (fun a => qv (Zt I es) (hNt I) C0 s0 a (gvS (Zt I es) (hNt I) C0 s0 a)) I L (uI H2 72 8 (I 1 5 + 1)) L3 := by
        have xk : ∀ q, q ≠ 72 → q ≠ 84 → q ≠ 91 → uI H2 72 8 (I 1 5 + 1) q = K q := fun q q1 q2 q3 => by rw [uI_fn q1, o1 q q2, p1 q q1 q3]
        have j1 : J1 1 = I 1 := g1 1 (by omega) (by omega) (by omega) (by omega)
        have jm : ∀ m, m < 10 → J1 (4 + m) = I (4 + m) := fun m hm => g1 _ (by omega) (by omega) (by omega) (by omega)
        refine ⟨fun q q1 q2 q3 q4 q5 q6 q7 q8 q9 => ?_, fun k hk => ?_, ?_, fun k hk => ?_, ?_, fun m hm => ⟨fun q hq => ?_, ?_⟩, fun a ha => ⟨fun q hq => ?_, ?_⟩, fun q q1 q2 q3 q4 => ?_, ?_, ?_, fun m hm => ?_, fun a ha => ?_, fun q hq => ?_, fun q q1 q2 q3 => ?_⟩
        · rw [xk q q7 q8 q9]; exact ko q q1 q2 q3 q4 q5 q6
        · rw [xk 0 (by decide) (by decide) (by decide), ← hK, uI_ne (by decide), m1 0 (by omega)]; exact g2 k hk
        · rw [xk 0 (by decide) (by decide) (by decide), ← hK, uI_ne (by decide), m1 0 (by omega)]; exact g3
        · rw [xk 1 (by decide) (by decide) (by decide), ← hK, uI_nk hk, m1 1 (by omega), j1]
        · rw [xk 1 (by decide) (by decide) (by decide), ← hK, uI_eq]
        · rw [xk (4 + m) (by omega) (by omega) (by omega), ← hK, uI_ne (by omega), (m2 m hm).1 q hq, jm m hm]
        · rw [xk (4 + m) (by omega) (by omega) (by omega), ← hK, uI_ne (by omega), (m2 m hm).2, jm m hm, j1]
        · rw [xk (18 + a) (by omega) (by omega) (by omega), ← hK, uI_ne (by omega), m1 _ (by omega)]; exact (g4 a ha).1 q hq
        · rw [xk (18 + a) (by omega) (by omega) (by omega), ← hK, uI_ne (by omega), m1 _ (by omega)]; exact (g4 a ha).2
        · rw [uI_nk q2, o1 72 (by decide), p2 q q1 q3 q4, k72]
        · rw [uI_eq, s1.1]
        · rw [uI_nk (by decide), o1 72 (by decide)]; exact p3
        · rw [uI_ne (by decide), o2 m hm, p1 94 (by decide) (by decide), kr 94 (by omega), p2 8 (by decide) (by decide) (by omega), k72, p1 84 (by decide) (by decide), kr 84 (by omega)]
        · rw [uI_ne (by decide), o1 91 (by decide), p4 a ha, kr 91 (by omega)]
        · rw [xk (lawA b) (by omega) (by omega) (by omega), ← hK, uI_ne (by omega), m1 _ (by omega)]; exact g5 q hq
        · rw [p5 q q2 q3]; exact g6 q q1
      have hS := (gvS_le (Zt I es) (hNt I) C0 s0 nr).1
      refine ⟨⟨nm, na, nr, hX.inv hI hw hpl htu (by omega) (fun a ha => (qv_le _ _ _ _ _ _).1)⟩, hlaw.fr ?_ ?_ ?_ ?_ ?_⟩
      · obtain ⟨x1, _⟩ := hX
        rw [x1 98 (by omega) (by omega) (by omega) (by omega) (by omega) (by omega) (by omega) (by omega) (by omega)]
      · obtain ⟨x1, _⟩ := hX
        intro k _
        rw [x1 97 (by omega) (by omega) (by omega) (by omega) (by omega) (by omega) (by omega) (by omega) (by omega)]
      · exact hX.2.2.2.2.2.2.2.2.2.2.2.2.1
      · obtain ⟨x1, _⟩ := hX
        intro q q1 q2
        exact x1 (lawA b + q) (by omega) (by omega) (by omega) (by omega) (by omega) (by omega) (by omega) (by omega) (by omega)
      · exact hX.2.2.2.2.2.2.2.1 12 (by decide) (by decide) (by decide) (by omega)
