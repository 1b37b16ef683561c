/-! what the readers read: sums, conditions, rules; and what their steps are worth -/
def bnd {α β : Type} (r : Option (Bool × Nat × List α)) (k : Nat → List α → Option (Bool × Nat × List β)) : Option (Bool × Nat × List β) := match r with
  | none => none
  | some (false, j, _) => some (false, j, [])
  | some (true, j, c) => k j c
theorem bnd_i {α β : Type} {r : Option (Bool × Nat × List α)} {k : Nat → List α → Option (Bool × Nat × List β)} {o : Bool} {j : Nat} {c : List β} (h : bnd r k = some (o, j, c)) : (∃ c1, r = some (false, j, c1) ∧ o = false ∧ c = []) ∨ ∃ j1 c1, r = some (true, j1, c1) ∧ k j1 c1 = some (o, j, c) := by
  match r, h with
  | none, h => cases h
  | some (false, j1, c1), h => cases h; exact Or.inl ⟨c1, rfl, rfl, rfl⟩
  | some (true, j1, c1), h => exact Or.inr ⟨j1, c1, rfl, h⟩
theorem bnd_s {α β : Type} {r : Option (Bool × Nat × List α)} {k : Nat → List α → Option (Bool × Nat × List β)} (h : ∃ x, r = some x) (hk : ∀ j c, r = some (true, j, c) → ∃ x, k j c = some x) : ∃ x, bnd r k = some x := by
  obtain ⟨⟨o, j, c⟩, rfl⟩ := h
  cases o with
  | false => exact ⟨_, rfl⟩
  | true => exact hk j c rfl
def app2 (c : List Int32) (r : Option (Bool × Nat × List Int32)) : Option (Bool × Nat × List Int32) := match r with
  | none => none
  | some (o, j, c2) => some (o, j, c ++ c2)
theorem app2_i {c d : List Int32} {r : Option (Bool × Nat × List Int32)} {o : Bool} {j : Nat} (h : app2 c r = some (o, j, d)) : ∃ c2, r = some (o, j, c2) ∧ d = c ++ c2 := by
  match r, h with
  | none, h => cases h
  | some (o1, j1, c1), h => cases h; exact ⟨c1, rfl, rfl⟩
theorem app2_s {c : List Int32} {r : Option (Bool × Nat × List Int32)} (h : ∃ x, r = some x) : ∃ x, app2 c r = some x := by
  obtain ⟨⟨o, j, c⟩, rfl⟩ := h
  exact ⟨_, rfl⟩
/-- fuel, level (0 factor, 1 term, 2 its loop, 3 sum, 4 its loop), parentheses, token -/
def prs (K : Nat → Int32) : Nat → Nat → Nat → Nat → Option (Bool × Nat × List Int32)
  | 0, _, _, _ => none
  | f + 1, 0, p, i => if K i = -40 then (if 8 ≤ p then some (false, i, []) else bnd (prs K f 3 (p + 1) (i + 1)) (fun j c => if K j = -41 then some (true, j + 1, c) else some (false, j, []))) else if -6 ≤ K i then some (true, i + 1, [K i]) else some (false, i, [])
  | f + 1, 1, p, i => bnd (prs K f 0 p i) (fun j c => app2 c (prs K f 2 p j))
  | f + 1, 2, p, i => if K i = -42 ∨ K i = -47 then bnd (prs K f 0 p (i + 1)) (fun j c => app2 (c ++ [K i]) (prs K f 2 p j)) else some (true, i, [])
  | f + 1, 3, p, i => bnd (prs K f 1 p i) (fun j c => app2 c (prs K f 4 p j))
  | f + 1, _ + 4, p, i => if K i = -43 ∨ K i = -45 then bnd (prs K f 1 p (i + 1)) (fun j c => app2 (c ++ [K i]) (prs K f 4 p j)) else some (true, i, [])
theorem prs0_i {K : Nat → Int32} {f p i : Nat} {o : Bool} {j : Nat} {c : List Int32} (h : prs K (f + 1) 0 p i = some (o, j, c)) : (K i = -40 ∧ 8 ≤ p ∧ o = false ∧ j = i) ∨ (K i = -40 ∧ p < 8 ∧ ∃ j1 c1, prs K f 3 (p + 1) (i + 1) = some (false, j1, c1) ∧ o = false ∧ j = j1) ∨ (K i = -40 ∧ p < 8 ∧ ∃ j1 c1, prs K f 3 (p + 1) (i + 1) = some (true, j1, c1) ∧ ((K j1 = -41 ∧ o = true ∧ j = j1 + 1 ∧ c = c1) ∨ (¬ K j1 = -41 ∧ o = false ∧ j = j1))) ∨ (¬ K i = -40 ∧ -6 ≤ K i ∧ o = true ∧ j = i + 1 ∧ c = [K i]) ∨ (¬ K i = -40 ∧ ¬ -6 ≤ K i ∧ o = false ∧ j = i) := by
  simp only [prs] at h
  by_cases h1 : K i = -40
  · rw [if_pos h1] at h
    by_cases h2 : 8 ≤ p
    · rw [if_pos h2] at h
      cases h
      exact Or.inl ⟨h1, h2, rfl, rfl⟩
    · rw [if_neg h2] at h
      rcases bnd_i h with ⟨c1, a1, a2, a3⟩ | ⟨j1, c1, a1, a2⟩
      · exact Or.inr (Or.inl ⟨h1, by omega, j, c1, a1, a2, rfl⟩)
      · refine Or.inr (Or.inr (Or.inl ⟨h1, by omega, j1, c1, a1, ?_⟩))
        by_cases h3 : K j1 = -41
        · rw [if_pos h3] at a2; cases a2; exact Or.inl ⟨h3, rfl, rfl, rfl⟩
        · rw [if_neg h3] at a2; cases a2; exact Or.inr ⟨h3, rfl, rfl⟩
  · rw [if_neg h1] at h
    by_cases h2 : -6 ≤ K i
    · rw [if_pos h2] at h
      cases h
      exact Or.inr (Or.inr (Or.inr (Or.inl ⟨h1, h2, rfl, rfl, rfl⟩)))
    · rw [if_neg h2] at h
      cases h
      exact Or.inr (Or.inr (Or.inr (Or.inr ⟨h1, h2, rfl, rfl⟩)))
theorem prs1_i {K : Nat → Int32} {f p i : Nat} {o : Bool} {j : Nat} {c : List Int32} (h : prs K (f + 1) 1 p i = some (o, j, c)) : (∃ c1, prs K f 0 p i = some (false, j, c1) ∧ o = false) ∨ ∃ j1 c1 c2, prs K f 0 p i = some (true, j1, c1) ∧ prs K f 2 p j1 = some (o, j, c2) ∧ c = c1 ++ c2 := by
  simp only [prs] at h
  rcases bnd_i h with ⟨c1, a1, a2, a3⟩ | ⟨j1, c1, a1, a2⟩
  · exact Or.inl ⟨c1, a1, a2⟩
  · obtain ⟨c2, b1, b2⟩ := app2_i a2
    exact Or.inr ⟨j1, c1, c2, a1, b1, b2⟩
theorem prs3_i {K : Nat → Int32} {f p i : Nat} {o : Bool} {j : Nat} {c : List Int32} (h : prs K (f + 1) 3 p i = some (o, j, c)) : (∃ c1, prs K f 1 p i = some (false, j, c1) ∧ o = false) ∨ ∃ j1 c1 c2, prs K f 1 p i = some (true, j1, c1) ∧ prs K f 4 p j1 = some (o, j, c2) ∧ c = c1 ++ c2 := by
  simp only [prs] at h
  rcases bnd_i h with ⟨c1, a1, a2, a3⟩ | ⟨j1, c1, a1, a2⟩
  · exact Or.inl ⟨c1, a1, a2⟩
  · obtain ⟨c2, b1, b2⟩ := app2_i a2
    exact Or.inr ⟨j1, c1, c2, a1, b1, b2⟩
theorem prs2_i {K : Nat → Int32} {f p i : Nat} {o : Bool} {j : Nat} {c : List Int32} (h : prs K (f + 1) 2 p i = some (o, j, c)) : ((K i = -42 ∨ K i = -47) ∧ ((∃ c1, prs K f 0 p (i + 1) = some (false, j, c1) ∧ o = false) ∨ ∃ j1 c1 c2, prs K f 0 p (i + 1) = some (true, j1, c1) ∧ prs K f 2 p j1 = some (o, j, c2) ∧ c = c1 ++ [K i] ++ c2)) ∨ (¬ (K i = -42 ∨ K i = -47) ∧ o = true ∧ j = i ∧ c = []) := by
  simp only [prs] at h
  by_cases h1 : K i = -42 ∨ K i = -47
  · rw [if_pos h1] at h
    refine Or.inl ⟨h1, ?_⟩
    rcases bnd_i h with ⟨c1, a1, a2, a3⟩ | ⟨j1, c1, a1, a2⟩
    · exact Or.inl ⟨c1, a1, a2⟩
    · obtain ⟨c2, b1, b2⟩ := app2_i a2
      exact Or.inr ⟨j1, c1, c2, a1, b1, b2⟩
  · rw [if_neg h1] at h
    cases h
    exact Or.inr ⟨h1, rfl, rfl, rfl⟩
theorem prs4_i {K : Nat → Int32} {f l p i : Nat} {o : Bool} {j : Nat} {c : List Int32} (h : prs K (f + 1) (l + 4) p i = some (o, j, c)) : ((K i = -43 ∨ K i = -45) ∧ ((∃ c1, prs K f 1 p (i + 1) = some (false, j, c1) ∧ o = false) ∨ ∃ j1 c1 c2, prs K f 1 p (i + 1) = some (true, j1, c1) ∧ prs K f 4 p j1 = some (o, j, c2) ∧ c = c1 ++ [K i] ++ c2)) ∨ (¬ (K i = -43 ∨ K i = -45) ∧ o = true ∧ j = i ∧ c = []) := by
  simp only [prs] at h
  by_cases h1 : K i = -43 ∨ K i = -45
  · rw [if_pos h1] at h
    refine Or.inl ⟨h1, ?_⟩
    rcases bnd_i h with ⟨c1, a1, a2, a3⟩ | ⟨j1, c1, a1, a2⟩
    · exact Or.inl ⟨c1, a1, a2⟩
    · obtain ⟨c2, b1, b2⟩ := app2_i a2
      exact Or.inr ⟨j1, c1, c2, a1, b1, b2⟩
  · rw [if_neg h1] at h
    cases h
    exact Or.inr ⟨h1, rfl, rfl, rfl⟩
/-- behind the last token all is END -/
def KE (K : Nat → Int32) (m : Nat) : Prop := ∀ k, m ≤ k → K k = -100
theorem KE.lt {K : Nat → Int32} {m i : Nat} (h : KE K m) (hk : ¬ K i = -100) : i < m := Classical.byContradiction (fun z => hk (h i (by omega)))
theorem KE.lv {K : Nat → Int32} {m i : Nat} {v : Int32} (h : KE K m) (hk : K i = v) (hv : ¬ v = -100) : i < m := h.lt (by rw [hk]; exact hv)
theorem KE.l6 {K : Nat → Int32} {m i : Nat} (h : KE K m) (hk : -6 ≤ K i) : i < m := h.lt (fun z => by rw [z] at hk; exact absurd hk (by decide))
theorem KE.l2 {K : Nat → Int32} {m i : Nat} {u v : Int32} (h : KE K m) (hk : K i = u ∨ K i = v) (hu : ¬ u = -100) (hv : ¬ v = -100) : i < m := hk.elim (fun e => h.lv e hu) (fun e => h.lv e hv)
theorem prs_b {K : Nat → Int32} {m : Nat} (hK : KE K m) : ∀ f l p i o j c, prs K f l p i = some (o, j, c) → i ≤ m → i ≤ j ∧ j ≤ m ∧ (o = true → i + c.length ≤ j) ∧ (o = true → (l = 0 ∨ l = 1 ∨ l = 3) → i < j) := by
  intro f
  induction f with
  | zero => intro l p i o j c h; cases h
  | succ f ih =>
    intro l p i o j c h hi
    match l, h with
    | 0, h =>
      rcases prs0_i h with ⟨h1, h2, h3, h4⟩ | ⟨h1, h2, j1, c1, h3, h4, h5⟩ | ⟨h1, h2, j1, c1, h3, h4⟩ | ⟨h1, h2, h3, h4, h5⟩ | ⟨h1, h2, h3, h4⟩
      · subst h3 h4; exact ⟨Nat.le_refl _, hi, nofun, nofun⟩
      · have hl := hK.lv h1 (by decide)
        have := ih 3 (p + 1) (i + 1) _ _ _ h3 (by omega)
        subst h4 h5
        exact ⟨by omega, this.2.1, nofun, nofun⟩
      · have hl := hK.lv h1 (by decide)
        have hb := ih 3 (p + 1) (i + 1) _ _ _ h3 (by omega)
        rcases h4 with ⟨a1, a2, a3, a4⟩ | ⟨a1, a2, a3⟩
        · have hl2 := hK.lv a1 (by decide)
          have hb3 := hb.2.2.1 rfl
          subst a2 a3 a4
          exact ⟨by omega, by omega, fun _ => by omega, fun _ _ => by omega⟩
        · subst a2 a3
          exact ⟨by omega, hb.2.1, nofun, nofun⟩
      · have hl := hK.l6 h2
        subst h3 h4 h5
        exact ⟨by omega, by omega, fun _ => by simp, fun _ _ => by omega⟩
      · subst h3 h4; exact ⟨Nat.le_refl _, hi, nofun, nofun⟩
    | 1, h =>
      rcases prs1_i h with ⟨c1, h1, h2⟩ | ⟨j1, c1, c2, h1, h2, h3⟩
      · have := ih 0 p i _ _ _ h1 hi
        subst h2
        exact ⟨this.1, this.2.1, nofun, nofun⟩
      · have a := ih 0 p i _ _ _ h1 hi
        have b := ih 2 p j1 _ _ _ h2 a.2.1
        have a3 := a.2.2.1 rfl
        have a4 := a.2.2.2 rfl (Or.inl rfl)
        refine ⟨by omega, b.2.1, fun z => ?_, fun z _ => by omega⟩
        have b3 := b.2.2.1 z
        rw [h3, List.length_append]
        omega
    | 2, h =>
      rcases prs2_i h with ⟨h0, h⟩ | ⟨h0, h1, h2, h3⟩
      · have hl := hK.l2 h0 (by decide) (by decide)
        rcases h with ⟨c1, h1, h2⟩ | ⟨j1, c1, c2, h1, h2, h3⟩
        · have := ih 0 p (i + 1) _ _ _ h1 (by omega)
          subst h2
          exact ⟨by omega, this.2.1, nofun, nofun⟩
        · have a := ih 0 p (i + 1) _ _ _ h1 (by omega)
          have b := ih 2 p j1 _ _ _ h2 a.2.1
          have a3 := a.2.2.1 rfl
          refine ⟨by omega, b.2.1, fun z => ?_, fun z _ => by omega⟩
          have b3 := b.2.2.1 z
          rw [h3, List.length_append, List.length_append, List.length_singleton]
          omega
      · subst h1 h2 h3
        exact ⟨Nat.le_refl _, hi, fun _ => by simp, fun _ z => by omega⟩
    | 3, h =>
      rcases prs3_i h with ⟨c1, h1, h2⟩ | ⟨j1, c1, c2, h1, h2, h3⟩
      · have := ih 1 p i _ _ _ h1 hi
        subst h2
        exact ⟨this.1, this.2.1, nofun, nofun⟩
      · have a := ih 1 p i _ _ _ h1 hi
        have b := ih 4 p j1 _ _ _ h2 a.2.1
        have a3 := a.2.2.1 rfl
        have a4 := a.2.2.2 rfl (Or.inr (Or.inl rfl))
        refine ⟨by omega, b.2.1, fun z => ?_, fun z _ => by omega⟩
        have b3 := b.2.2.1 z
        rw [h3, List.length_append]
        omega
    | l + 4, h =>
      rcases prs4_i h with ⟨h0, h⟩ | ⟨h0, h1, h2, h3⟩
      · have hl := hK.l2 h0 (by decide) (by decide)
        rcases h with ⟨c1, h1, h2⟩ | ⟨j1, c1, c2, h1, h2, h3⟩
        · have := ih 1 p (i + 1) _ _ _ h1 (by omega)
          subst h2
          exact ⟨by omega, this.2.1, nofun, nofun⟩
        · have a := ih 1 p (i + 1) _ _ _ h1 (by omega)
          have b := ih 4 p j1 _ _ _ h2 a.2.1
          have a3 := a.2.2.1 rfl
          refine ⟨by omega, b.2.1, fun z => ?_, fun z _ => by omega⟩
          have b3 := b.2.2.1 z
          rw [h3, List.length_append, List.length_append, List.length_singleton]
          omega
      · subst h1 h2 h3
        exact ⟨Nat.le_refl _, hi, fun _ => by simp, fun _ z => by omega⟩
def lvf (l : Nat) : Nat := if l = 1 then 2 else if l = 3 then 3 else 1
theorem prs_s {K : Nat → Int32} {m : Nat} (hK : KE K m) : ∀ f l p i, i ≤ m → 3 * (m - i) + lvf l ≤ f → ∃ x, prs K f l p i = some x := by
  intro f
  induction f with
  | zero => intro l p i _ h; have : 1 ≤ lvf l := by unfold lvf; split <;> (try split) <;> omega
            omega
  | succ f ih =>
    intro l p i hi h
    match l, h with
    | 0, h =>
      have e : lvf 0 = 1 := rfl
      simp only [prs]
      by_cases h1 : K i = -40
      · have hl := hK.lv h1 (by decide)
        rw [if_pos h1]
        by_cases h2 : 8 ≤ p
        · rw [if_pos h2]; exact ⟨_, rfl⟩
        · rw [if_neg h2]
          exact bnd_s (ih 3 (p + 1) (i + 1) (by omega) (by have : lvf 3 = 3 := rfl; omega)) (fun j c _ => by split <;> exact ⟨_, rfl⟩)
      · rw [if_neg h1]
        split <;> exact ⟨_, rfl⟩
    | 1, h =>
      have e : lvf 1 = 2 := rfl
      have e0 : lvf 0 = 1 := rfl
      have e2 : lvf 2 = 1 := rfl
      simp only [prs]
      refine bnd_s (ih 0 p i hi (by omega)) (fun j c hj => app2_s (ih 2 p j ?_ ?_))
      · exact (prs_b hK _ _ _ _ _ _ _ hj hi).2.1
      · have := (prs_b hK _ _ _ _ _ _ _ hj hi).1; omega
    | 2, h =>
      have e0 : lvf 0 = 1 := rfl
      have e2 : lvf 2 = 1 := rfl
      simp only [prs]
      by_cases h1 : K i = -42 ∨ K i = -47
      · have hl := hK.l2 h1 (by decide) (by decide)
        rw [if_pos h1]
        refine bnd_s (ih 0 p (i + 1) (by omega) (by omega)) (fun j c hj => app2_s (ih 2 p j ?_ ?_))
        · exact (prs_b hK _ _ _ _ _ _ _ hj (by omega)).2.1
        · have := (prs_b hK _ _ _ _ _ _ _ hj (by omega)).1; omega
      · rw [if_neg h1]; exact ⟨_, rfl⟩
    | 3, h =>
      have e : lvf 3 = 3 := rfl
      have e0 : lvf 1 = 2 := rfl
      have e2 : lvf 4 = 1 := rfl
      simp only [prs]
      refine bnd_s (ih 1 p i hi (by omega)) (fun j c hj => app2_s (ih 4 p j ?_ ?_))
      · exact (prs_b hK _ _ _ _ _ _ _ hj hi).2.1
      · have := (prs_b hK _ _ _ _ _ _ _ hj hi).1; omega
    | l + 4, h =>
      have e1 : lvf (l + 4) = 1 := by unfold lvf; rw [if_neg (by omega), if_neg (by omega)]
      have e0 : lvf 1 = 2 := rfl
      have e2 : lvf 4 = 1 := rfl
      simp only [prs]
      by_cases h1 : K i = -43 ∨ K i = -45
      · have hl := hK.l2 h1 (by decide) (by decide)
        rw [if_pos h1]
        refine bnd_s (ih 1 p (i + 1) (by omega) (by omega)) (fun j c hj => app2_s (ih 4 p j ?_ ?_))
        · exact (prs_b hK _ _ _ _ _ _ _ hj (by omega)).2.1
        · have := (prs_b hK _ _ _ _ _ _ _ hj (by omega)).1; omega
      · rw [if_neg h1]; exact ⟨_, rfl⟩
/-- conditions, from IF or AND on -/
def isC (s : Int32) : Prop := s = -60 ∨ s = -62 ∨ s = -61
theorem isC_no {s : Int32} (h : isC s) : ¬ s = -100 := by rcases h with h | h | h <;> rw [h] <;> decide
def prC (K : Nat → Int32) (f0 : Nat) : Nat → Nat → Option (Bool × Nat × List Int32)
  | 0, _ => none
  | f + 1, i => bnd (prs K f0 3 0 (i + 1)) (fun j c => if K j = -60 ∨ K j = -62 ∨ K j = -61 then bnd (prs K f0 3 0 (j + 1)) (fun j2 c2 => if K j2 = -105 then app2 (c ++ c2 ++ [K j]) (prC K f0 f j2) else some (true, j2, c ++ c2 ++ [K j])) else some (false, j, []))
theorem prC_i {K : Nat → Int32} {f0 f i : Nat} {o : Bool} {j : Nat} {c : List Int32} (h : prC K f0 (f + 1) i = some (o, j, c)) : (∃ c1, prs K f0 3 0 (i + 1) = some (false, j, c1) ∧ o = false) ∨ ∃ j1 c1, prs K f0 3 0 (i + 1) = some (true, j1, c1) ∧ ((¬ isC (K j1) ∧ o = false ∧ j = j1) ∨ (isC (K j1) ∧ ((∃ c2, prs K f0 3 0 (j1 + 1) = some (false, j, c2) ∧ o = false) ∨ ∃ j2 c2, prs K f0 3 0 (j1 + 1) = some (true, j2, c2) ∧ ((K j2 = -105 ∧ ∃ c3, prC K f0 f j2 = some (o, j, c3) ∧ c = c1 ++ c2 ++ [K j1] ++ c3) ∨ (¬ K j2 = -105 ∧ o = true ∧ j = j2 ∧ c = c1 ++ c2 ++ [K j1]))))) := by
  simp only [prC] at h
  rcases bnd_i h with ⟨c1, a1, a2, a3⟩ | ⟨j1, c1, a1, a2⟩
  · exact Or.inl ⟨c1, a1, a2⟩
  · refine Or.inr ⟨j1, c1, a1, ?_⟩
    by_cases h1 : K j1 = -60 ∨ K j1 = -62 ∨ K j1 = -61
    · rw [if_pos h1] at a2
      refine Or.inr ⟨h1, ?_⟩
      rcases bnd_i a2 with ⟨c2, b1, b2, b3⟩ | ⟨j2, c2, b1, b2⟩
      · exact Or.inl ⟨c2, b1, b2⟩
      · refine Or.inr ⟨j2, c2, b1, ?_⟩
        by_cases h2 : K j2 = -105
        · rw [if_pos h2] at b2
          obtain ⟨c3, d1, d2⟩ := app2_i b2
          exact Or.inl ⟨h2, c3, d1, d2⟩
        · rw [if_neg h2] at b2
          cases b2
          exact Or.inr ⟨h2, rfl, rfl, rfl⟩
    · rw [if_neg h1] at a2
      cases a2
      exact Or.inl ⟨h1, rfl, rfl⟩
theorem prC_b {K : Nat → Int32} {m f0 : Nat} (hK : KE K m) : ∀ f i o j c, prC K f0 f i = some (o, j, c) → i < m → i < j ∧ j ≤ m ∧ (o = true → i + c.length ≤ j) := by
  intro f
  induction f with
  | zero => intro i o j c h; cases h
  | succ f ih =>
    intro i o j c h hi
    rcases prC_i h with ⟨c1, h1, h2⟩ | ⟨j1, c1, h1, h2⟩
    · have := prs_b hK _ _ _ _ _ _ _ h1 (by omega)
      subst h2
      exact ⟨by omega, this.2.1, nofun⟩
    · have a := prs_b hK _ _ _ _ _ _ _ h1 (by omega)
      have a3 := a.2.2.1 rfl
      rcases h2 with ⟨b1, b2, b3⟩ | ⟨b1, b2⟩
      · subst b2 b3
        exact ⟨by omega, a.2.1, nofun⟩
      · have hl := hK.lt (isC_no b1)
        rcases b2 with ⟨c2, e1, e2⟩ | ⟨j2, c2, e1, e2⟩
        · have d := prs_b hK _ _ _ _ _ _ _ e1 (by omega)
          subst e2
          exact ⟨by omega, d.2.1, nofun⟩
        · have d := prs_b hK _ _ _ _ _ _ _ e1 (by omega)
          have d3 := d.2.2.1 rfl
          rcases e2 with ⟨g1, c3, g2, g3⟩ | ⟨g1, g2, g3, g4⟩
          · have hl2 := hK.lv g1 (by decide)
            have q := ih _ _ _ _ g2 hl2
            refine ⟨by omega, q.2.1, fun z => ?_⟩
            have := q.2.2 z
            rw [g3, List.length_append, List.length_append, List.length_append, List.length_singleton]
            omega
          · subst g2 g3 g4
            refine ⟨by omega, d.2.1, fun z => ?_⟩
            rw [List.length_append, List.length_append, List.length_singleton]
            omega
theorem prC_s {K : Nat → Int32} {m f0 : Nat} (hK : KE K m) (hf : 3 * m + 3 ≤ f0) : ∀ f i, i < m → m - i ≤ f → ∃ x, prC K f0 f i = some x := by
  have hs : ∀ i, i ≤ m → ∃ x, prs K f0 3 0 i = some x := fun i hi => prs_s hK f0 3 0 i hi (by have : lvf 3 = 3 := rfl; omega)
  intro f
  induction f with
  | zero => intro i hi h; omega
  | succ f ih =>
    intro i hi h
    simp only [prC]
    refine bnd_s (hs _ (by omega)) (fun j c hj => ?_)
    have a := prs_b hK _ _ _ _ _ _ _ hj (by omega)
    by_cases h1 : K j = -60 ∨ K j = -62 ∨ K j = -61
    · have hl := hK.lt (isC_no h1)
      rw [if_pos h1]
      refine bnd_s (hs _ (by omega)) (fun j2 c2 hj2 => ?_)
      have b := prs_b hK _ _ _ _ _ _ _ hj2 (by omega)
      by_cases h2 : K j2 = -105
      · rw [if_pos h2]
        exact app2_s (ih j2 (hK.lv h2 (by decide)) (by omega))
      · rw [if_neg h2]; exact ⟨_, rfl⟩
    · rw [if_neg h1]; exact ⟨_, rfl⟩
/-- rules: (a cap's number, or -1; a sum's steps; its conditions' steps) -/
abbrev RE : Type := Int32 × List Int32 × List Int32
def prA (K : Nat → Int32) (e : RE) (j : Nat) (rest : Option (Bool × Nat × List RE)) : Option (Bool × Nat × List RE) := if K j = -100 then some (true, j, [e]) else if K j = -59 then bnd rest (fun j2 es => some (true, j2, e :: es)) else some (false, j, [])
def prR (K : Nat → Int32) (f0 : Nat) : Nat → Nat → Option (Bool × Nat × List RE)
  | 0, i => some (false, i, [])
  | r + 1, i => if K i = -102 then bnd (prs K f0 3 0 (i + 1)) (fun j c => bnd (if K j = -104 then prC K f0 f0 j else some (true, j, [])) (fun j2 c2 => prA K (-1, c, c2) j2 (prR K f0 r (j2 + 1)))) else if K i = -103 then (if 0 ≤ K (i + 1) then prA K (K (i + 1), [], []) (i + 2) (prR K f0 r (i + 3)) else some (false, i + 1, [])) else some (false, i, [])
theorem prA_i {K : Nat → Int32} {e : RE} {j : Nat} {rest : Option (Bool × Nat × List RE)} {o : Bool} {q : Nat} {es : List RE} (h : prA K e j rest = some (o, q, es)) : (K j = -100 ∧ o = true ∧ q = j ∧ es = [e]) ∨ (K j = -59 ∧ ∃ o1 es1, rest = some (o1, q, es1) ∧ o = o1 ∧ (o = true → es = e :: es1)) ∨ (¬ K j = -100 ∧ ¬ K j = -59 ∧ o = false ∧ q = j) := by
  unfold prA at h
  by_cases h1 : K j = -100
  · rw [if_pos h1] at h; cases h; exact Or.inl ⟨h1, rfl, rfl, rfl⟩
  · rw [if_neg h1] at h
    by_cases h2 : K j = -59
    · rw [if_pos h2] at h
      rcases bnd_i h with ⟨c1, a1, a2, a3⟩ | ⟨j1, c1, a1, a2⟩
      · exact Or.inr (Or.inl ⟨h2, false, c1, a1, a2, fun z => by rw [a2] at z; cases z⟩)
      · cases a2
        exact Or.inr (Or.inl ⟨h2, true, c1, a1, rfl, fun _ => rfl⟩)
    · rw [if_neg h2] at h; cases h; exact Or.inr (Or.inr ⟨h1, h2, rfl, rfl⟩)
theorem prA_s {K : Nat → Int32} {e : RE} {j : Nat} {rest : Option (Bool × Nat × List RE)} (h : K j = -59 → ∃ x, rest = some x) : ∃ x, prA K e j rest = some x := by
  unfold prA
  by_cases h1 : K j = -100
  · rw [if_pos h1]; exact ⟨_, rfl⟩
  · rw [if_neg h1]
    by_cases h2 : K j = -59
    · rw [if_pos h2]; exact bnd_s (h h2) (fun _ _ _ => ⟨_, rfl⟩)
    · rw [if_neg h2]; exact ⟨_, rfl⟩
theorem prR_i {K : Nat → Int32} {f0 r i : Nat} {o : Bool} {j : Nat} {es : List RE} (h : prR K f0 (r + 1) i = some (o, j, es)) : (K i = -102 ∧ ((∃ c1, prs K f0 3 0 (i + 1) = some (false, j, c1) ∧ o = false) ∨ ∃ j1 c1, prs K f0 3 0 (i + 1) = some (true, j1, c1) ∧ ((K j1 = -104 ∧ ∃ c2, prC K f0 f0 j1 = some (false, j, c2) ∧ o = false) ∨ ∃ j2 c2, ((K j1 = -104 ∧ prC K f0 f0 j1 = some (true, j2, c2)) ∨ (¬ K j1 = -104 ∧ j2 = j1 ∧ c2 = [])) ∧ prA K (-1, c1, c2) j2 (prR K f0 r (j2 + 1)) = some (o, j, es)))) ∨ (¬ K i = -102 ∧ K i = -103 ∧ ((0 ≤ K (i + 1) ∧ prA K (K (i + 1), [], []) (i + 2) (prR K f0 r (i + 3)) = some (o, j, es)) ∨ (¬ 0 ≤ K (i + 1) ∧ o = false ∧ j = i + 1))) ∨ (¬ K i = -102 ∧ ¬ K i = -103 ∧ o = false ∧ j = i) := by
  simp only [prR] at h
  by_cases h1 : K i = -102
  · rw [if_pos h1] at h
    refine Or.inl ⟨h1, ?_⟩
    rcases bnd_i h with ⟨c1, a1, a2, a3⟩ | ⟨j1, c1, a1, a2⟩
    · exact Or.inl ⟨c1, a1, a2⟩
    · refine Or.inr ⟨j1, c1, a1, ?_⟩
      by_cases h2 : K j1 = -104
      · rw [if_pos h2] at a2
        rcases bnd_i a2 with ⟨c2, b1, b2, b3⟩ | ⟨j2, c2, b1, b2⟩
        · exact Or.inl ⟨h2, c2, b1, b2⟩
        · exact Or.inr ⟨j2, c2, Or.inl ⟨h2, b1⟩, b2⟩
      · rw [if_neg h2] at a2
        exact Or.inr ⟨j1, [], Or.inr ⟨h2, rfl, rfl⟩, a2⟩
  · rw [if_neg h1] at h
    by_cases h2 : K i = -103
    · rw [if_pos h2] at h
      refine Or.inr (Or.inl ⟨h1, h2, ?_⟩)
      by_cases h3 : 0 ≤ K (i + 1)
      · rw [if_pos h3] at h; exact Or.inl ⟨h3, h⟩
      · rw [if_neg h3] at h; cases h; exact Or.inr ⟨h3, rfl, rfl⟩
    · rw [if_neg h2] at h; cases h; exact Or.inr (Or.inr ⟨h1, h2, rfl, rfl⟩)
theorem KE.l0 {K : Nat → Int32} {m i : Nat} (h : KE K m) (hk : 0 ≤ K i) : i < m := h.lt (fun z => by rw [z] at hk; exact absurd hk (by decide))
theorem prR_s {K : Nat → Int32} {m f0 : Nat} (hK : KE K m) (hf : 3 * m + 3 ≤ f0) : ∀ r i, i ≤ m → ∃ x, prR K f0 r i = some x := by
  intro r
  induction r with
  | zero => intro i _; exact ⟨_, rfl⟩
  | succ r ih =>
    intro i hi
    simp only [prR]
    by_cases h1 : K i = -102
    · have hl := hK.lv h1 (by decide)
      rw [if_pos h1]
      refine bnd_s (prs_s hK f0 3 0 (i + 1) (by omega) (by have : lvf 3 = 3 := rfl; omega)) (fun j c hj => ?_)
      have a := prs_b hK _ _ _ _ _ _ _ hj (by omega)
      by_cases h2 : K j = -104
      · have hl2 := hK.lv h2 (by decide)
        rw [if_pos h2]
        refine bnd_s (prC_s hK hf f0 j hl2 (by omega)) (fun j2 c2 hj2 => prA_s (fun z => ?_))
        have := hK.lv z (by decide)
        exact ih _ (by omega)
      · rw [if_neg h2]
        refine prA_s (fun z => ?_)
        have := hK.lv z (by decide)
        exact ih _ (by omega)
    · rw [if_neg h1]
      by_cases h2 : K i = -103
      · rw [if_pos h2]
        by_cases h3 : 0 ≤ K (i + 1)
        · rw [if_pos h3]
          refine prA_s (fun z => ?_)
          have := hK.lv z (by decide)
          exact ih _ (by omega)
        · rw [if_neg h3]; exact ⟨_, rfl⟩
      · rw [if_neg h2]; exact ⟨_, rfl⟩
def prT (K : Nat → Int32) (f0 : Nat) : Option (Bool × Nat × List RE) := if K 0 = -100 then some (true, 0, []) else prR K f0 10 0
/-- the steps' worth -/
def cmb (s : Int32) (l r : Int64) : Int64 := if s = -43 then l + r else if s = -45 then l - r else if s = -42 then l * r else if r = 0 then 0 else if r = -1 then -l else l / r
def cmpB (s : Int32) (l r : Int64) : Bool := if s = -60 then decide (l < r) else if s = -62 then decide (r < l) else decide (l = r)
def fcx (s : Int32) : Nat := (-1 - s).toNatClampNeg
def run (F : Nat → Int64) : List Int32 → List Int64 → Option (Bool × List Int64)
  | [], st => some (true, st)
  | s :: c, st => if 0 ≤ s then (if st.length < 20 then run F c (s.toInt64 :: st) else none) else if -6 ≤ s then (if st.length < 20 then run F c (F (fcx s) :: st) else none) else match st with
    | r :: l :: q => if s = -60 ∨ s = -62 ∨ s = -61 then (if cmpB s l r = true then run F c q else some (false, [])) else run F c (cmb s l r :: q)
    | _ => none
theorem run_app {F : Nat → Int64} {c2 : List Int32} : ∀ (c1 : List Int32) (st st1 : List Int64), run F c1 st = some (true, st1) → run F (c1 ++ c2) st = run F c2 st1
  | [], st, st1, h => by cases h; rfl
  | s :: c, st, st1, h => by
    rw [List.cons_append]
    simp only [run] at h ⊢
    by_cases h1 : 0 ≤ s
    · rw [if_pos h1] at h ⊢
      by_cases h2 : st.length < 20
      · rw [if_pos h2] at h ⊢; exact run_app c _ _ h
      · rw [if_neg h2] at h; cases h
    · rw [if_neg h1] at h ⊢
      by_cases h2 : -6 ≤ s
      · rw [if_pos h2] at h ⊢
        by_cases h3 : st.length < 20
        · rw [if_pos h3] at h ⊢; exact run_app c _ _ h
        · rw [if_neg h3] at h; cases h
      · rw [if_neg h2] at h ⊢
        match st, h with
        | [], h => cases h
        | [_], h => cases h
        | r :: l :: q, h =>
          simp only at h ⊢
          by_cases h3 : s = -60 ∨ s = -62 ∨ s = -61
          · rw [if_pos h3] at h ⊢
            by_cases h4 : cmpB s l r = true
            · rw [if_pos h4] at h ⊢; exact run_app c _ _ h
            · rw [if_neg h4] at h; cases h
          · rw [if_neg h3] at h ⊢; exact run_app c _ _ h
theorem run_appF {F : Nat → Int64} {c2 : List Int32} : ∀ (c1 : List Int32) (st st1 : List Int64), run F c1 st = some (false, st1) → run F (c1 ++ c2) st = some (false, st1)
  | [], st, st1, h => by cases h
  | s :: c, st, st1, h => by
    rw [List.cons_append]
    simp only [run] at h ⊢
    by_cases h1 : 0 ≤ s
    · rw [if_pos h1] at h ⊢
      by_cases h2 : st.length < 20
      · rw [if_pos h2] at h ⊢; exact run_appF c _ _ h
      · rw [if_neg h2] at h; cases h
    · rw [if_neg h1] at h ⊢
      by_cases h2 : -6 ≤ s
      · rw [if_pos h2] at h ⊢
        by_cases h3 : st.length < 20
        · rw [if_pos h3] at h ⊢; exact run_appF c _ _ h
        · rw [if_neg h3] at h; cases h
      · rw [if_neg h2] at h ⊢
        match st, h with
        | [], h => cases h
        | [_], h => cases h
        | r :: l :: q, h =>
          simp only at h ⊢
          by_cases h3 : s = -60 ∨ s = -62 ∨ s = -61
          · rw [if_pos h3] at h ⊢
            by_cases h4 : cmpB s l r = true
            · rw [if_pos h4] at h ⊢; exact run_appF c _ _ h
            · rw [if_neg h4] at h ⊢; exact h
          · rw [if_neg h3] at h ⊢; exact run_appF c _ _ h
def isO (s : Int32) : Prop := s = -43 ∨ s = -45 ∨ s = -42 ∨ s = -47
theorem isO_s {s : Int32} (h : isO s) : ¬ 0 ≤ s ∧ ¬ -6 ≤ s ∧ ¬ (s = -60 ∨ s = -62 ∨ s = -61) := by rcases h with h | h | h | h <;> rw [h] <;> decide
theorem isC_s {s : Int32} (h : isC s) : ¬ 0 ≤ s ∧ ¬ -6 ≤ s := by rcases h with h | h | h <;> rw [h] <;> decide
/-- steps c are worth v, where the stack has room for n more -/
def RV (F : Nat → Int64) (n : Nat) (c : List Int32) (v : Int64) : Prop := ∀ st : List Int64, st.length + n ≤ 20 → run F c st = some (true, v :: st)
theorem RV.mono {F : Nat → Int64} {n n2 : Nat} {c : List Int32} {v : Int64} (h : RV F n c v) (hn : n ≤ n2) : RV F n2 c v := fun st hs => h st (by omega)
theorem RV.op {F : Nat → Int64} {n : Nat} {c1 c2 : List Int32} {s : Int32} {v1 v2 : Int64} (h1 : RV F (n + 1) c1 v1) (h2 : RV F n c2 v2) (hs : isO s) : RV F (n + 1) (c1 ++ (c2 ++ [s])) (cmb s v1 v2) := by
  intro st hst
  rw [run_app c1 st _ (h1 st hst), run_app c2 _ _ (h2 (v1 :: st) (by simp only [List.length_cons]; omega))]
  obtain ⟨a1, a2, a3⟩ := isO_s hs
  simp only [run]
  rw [if_neg a1, if_neg a2, if_neg a3]
theorem RV.one {F : Nat → Int64} {s : Int32} (h : -6 ≤ s) : RV F 1 [s] (if 0 ≤ s then s.toInt64 else F (fcx s)) := by
  intro st hst
  simp only [run]
  by_cases h1 : 0 ≤ s
  · rw [if_pos h1, if_pos h1, if_pos (by omega)]
  · rw [if_neg h1, if_neg h1, if_pos h, if_pos (by omega)]
def need (l p : Nat) : Nat := 2 * (8 - p) + (if l = 0 then 1 else if l = 1 ∨ l = 2 then 2 else 3)
/-- what is read is worth something; a loop's steps, behind steps that are -/
theorem prs_v {K : Nat → Int32} {F : Nat → Int64} : ∀ f l p i j c, p ≤ 8 → prs K f l p i = some (true, j, c) → ((l = 0 ∨ l = 1 ∨ l = 3) → ∃ v, RV F (need l p) c v) ∧ (l = 2 ∨ l = 4 → ∀ c0 v0, RV F (need l p) c0 v0 → ∃ v, RV F (need l p) (c0 ++ c) v) := by
  intro f
  induction f with
  | zero => intro l p i j c _ h; cases h
  | succ f ih =>
    intro l p i j c hp h
    match l, h with
    | 0, h =>
      refine ⟨fun _ => ?_, fun z => by omega⟩
      rcases prs0_i h with ⟨h1, h2, h3, h4⟩ | ⟨h1, h2, j1, c1, h3, h4, h5⟩ | ⟨h1, h2, j1, c1, h3, h4⟩ | ⟨h1, h2, h3, h4, h5⟩ | ⟨h1, h2, h3, h4⟩
      · cases h3
      · cases h4
      · rcases h4 with ⟨a1, a2, a3, a4⟩ | ⟨a1, a2, a3⟩
        · obtain ⟨v, hv⟩ := (ih 3 (p + 1) (i + 1) j1 c1 (by omega) h3).1 (Or.inr (Or.inr rfl))
          rw [a4]
          exact ⟨v, hv.mono (by simp only [need]; simp; omega)⟩
        · cases a2
      · rw [h5]
        exact ⟨_, (RV.one h2).mono (by unfold need; rw [if_pos rfl]; omega)⟩
      · cases h3
    | 1, h =>
      refine ⟨fun _ => ?_, fun z => by omega⟩
      rcases prs1_i h with ⟨c1, h1, h2⟩ | ⟨j1, c1, c2, h1, h2, h3⟩
      · cases h2
      · obtain ⟨v, hv⟩ := (ih 0 p i j1 c1 hp h1).1 (Or.inl rfl)
        rw [h3]
        exact (ih 2 p j1 j c2 hp h2).2 (Or.inl rfl) c1 v (hv.mono (by simp only [need]; simp))
    | 2, h =>
      refine ⟨fun z => by omega, fun _ c0 v0 h0 => ?_⟩
      rcases prs2_i h with ⟨hs, h⟩ | ⟨_, h1, h2, h3⟩
      · rcases h with ⟨c1, h1, h2⟩ | ⟨j1, c1, c2, h1, h2, h3⟩
        · cases h2
        · obtain ⟨v, hv⟩ := (ih 0 p (i + 1) j1 c1 hp h1).1 (Or.inl rfl)
          rw [h3, ← List.append_assoc]
          have hop := RV.op (n := 2 * (8 - p) + 1) (s := K i) h0 hv (hs.elim (fun e => Or.inr (Or.inr (Or.inl e))) (fun e => Or.inr (Or.inr (Or.inr e))))
          exact (ih 2 p j1 j c2 hp h2).2 (Or.inl rfl) _ _ hop
      · rw [h3, List.append_nil]; exact ⟨v0, h0⟩
    | 3, h =>
      refine ⟨fun _ => ?_, fun z => by omega⟩
      rcases prs3_i h with ⟨c1, h1, h2⟩ | ⟨j1, c1, c2, h1, h2, h3⟩
      · cases h2
      · obtain ⟨v, hv⟩ := (ih 1 p i j1 c1 hp h1).1 (Or.inr (Or.inl rfl))
        rw [h3]
        exact (ih 4 p j1 j c2 hp h2).2 (Or.inr rfl) c1 v (hv.mono (by simp only [need]; simp))
    | l + 4, h =>
      refine ⟨fun z => by omega, fun z c0 v0 h0 => ?_⟩
      have e : l = 0 := by omega
      subst e
      rcases prs4_i h with ⟨hs, h⟩ | ⟨_, h1, h2, h3⟩
      · rcases h with ⟨c1, h1, h2⟩ | ⟨j1, c1, c2, h1, h2, h3⟩
        · cases h2
        · obtain ⟨v, hv⟩ := (ih 1 p (i + 1) j1 c1 hp h1).1 (Or.inr (Or.inl rfl))
          rw [h3, ← List.append_assoc]
          have hop := RV.op (n := 2 * (8 - p) + 2) (s := K i) h0 hv (hs.elim (fun e => Or.inl e) (fun e => Or.inr (Or.inl e)))
          exact (ih 4 p j1 j c2 hp h2).2 (Or.inr rfl) _ _ hop
      · rw [h3, List.append_nil]; exact ⟨v0, h0⟩
/-- conditions: steps c hold or don't -/
def CV (F : Nat → Int64) (c : List Int32) (a : Bool) : Prop := run F c [] = some (a, [])
theorem CV.nil {F : Nat → Int64} : CV F [] true := rfl
theorem CV.snoc {F : Nat → Int64} {c c1 c2 : List Int32} {a : Bool} {s : Int32} {v1 v2 : Int64} (h : CV F c a) (h1 : RV F 19 c1 v1) (h2 : RV F 19 c2 v2) (hs : isC s) : CV F (c ++ (c1 ++ c2 ++ [s])) (a && cmpB s v1 v2) := by
  unfold CV at *
  cases a with
  | false => exact run_appF c _ _ h
  | true =>
    rw [run_app c _ _ h, List.append_assoc, run_app c1 [] _ (h1 [] (by decide)), run_app c2 _ _ (h2 [v1] (by simp only [List.length_cons, List.length_nil]; omega))]
    obtain ⟨a1, a2⟩ := isC_s hs
    simp only [run]
    rw [if_neg a1, if_neg a2, if_pos (show s = -60 ∨ s = -62 ∨ s = -61 from hs), Bool.true_and]
    cases cmpB s v1 v2 <;> rfl
theorem prC_v {K : Nat → Int32} {F : Nat → Int64} {f0 : Nat} : ∀ f i j c, prC K f0 f i = some (true, j, c) → ∀ c0 a0, CV F c0 a0 → ∃ a, CV F (c0 ++ c) a := by
  intro f
  induction f with
  | zero => intro i j c h; cases h
  | succ f ih =>
    intro i j c h c0 a0 h0
    rcases prC_i h with ⟨c1, h1, h2⟩ | ⟨j1, c1, h1, h2⟩
    · cases h2
    · rcases h2 with ⟨b1, b2, b3⟩ | ⟨b1, b2⟩
      · cases b2
      · rcases b2 with ⟨c2, e1, e2⟩ | ⟨j2, c2, e1, e2⟩
        · cases e2
        · obtain ⟨v1, hv1⟩ := (prs_v (F := F) _ _ _ _ _ _ (by omega) h1).1 (Or.inr (Or.inr rfl))
          obtain ⟨v2, hv2⟩ := (prs_v (F := F) _ _ _ _ _ _ (by omega) e1).1 (Or.inr (Or.inr rfl))
          have hsn := h0.snoc (s := K j1) hv1 hv2 b1
          rcases e2 with ⟨g1, c3, g2, g3⟩ | ⟨g1, g2, g3, g4⟩
          · rw [g3, ← List.append_assoc]
            exact ih _ _ _ g2 _ _ hsn
          · rw [g4]; exact ⟨_, hsn⟩
/-- an entry is sound: a cap's number, or a sum with conditions, whatever the facts -/
def REok (e : RE) : Prop := (e.1 = -1 ∧ ∀ F, (∃ v, RV F 19 e.2.1 v) ∧ ∃ a, CV F e.2.2 a) ∨ (0 ≤ e.1 ∧ e.1 ≤ 999999 ∧ e.2.1 = [] ∧ e.2.2 = [])
theorem prR_v {K : Nat → Int32} {f0 : Nat} (hK : ∀ i, K i ≤ 999999) : ∀ r i j es, prR K f0 r i = some (true, j, es) → ∀ e, e ∈ es → REok e := by
  intro r
  induction r with
  | zero => intro i j es h; cases h
  | succ r ih =>
    intro i j es h
    have ha : ∀ e0 j0 i0, REok e0 → prA K e0 j0 (prR K f0 r i0) = some (true, j, es) → ∀ e, e ∈ es → REok e := by
      intro e0 j0 i0 h0 hA e he
      rcases prA_i hA with ⟨a1, a2, a3, a4⟩ | ⟨a1, o1, es1, a2, a3, a4⟩ | ⟨_, _, a3, _⟩
      · rw [a4] at he
        rw [List.mem_singleton.mp he]; exact h0
      · rw [a4 rfl] at he
        subst a3
        rcases List.mem_cons.mp he with e1 | e1
        · rw [e1]; exact h0
        · exact ih _ _ _ a2 e e1
      · cases a3
    rcases prR_i h with ⟨h1, h2⟩ | ⟨h1, h2, h3⟩ | ⟨_, _, h3, _⟩
    · rcases h2 with ⟨c1, _, h2⟩ | ⟨j1, c1, g1, g2⟩
      · cases h2
      · rcases g2 with ⟨_, c2, _, g3⟩ | ⟨j2, c2, g3, g4⟩
        · cases g3
        · refine ha (-1, c1, c2) _ _ (Or.inl ⟨rfl, fun F => ⟨(prs_v (F := F) _ _ _ _ _ _ (by omega) g1).1 (Or.inr (Or.inr rfl)), ?_⟩⟩) g4
          rcases g3 with ⟨_, k2⟩ | ⟨_, _, k2⟩
          · have := prC_v (F := F) _ _ _ _ k2 [] true CV.nil
            exact this
          · rw [k2]; exact ⟨true, CV.nil⟩
    · rcases h3 with ⟨h3, h4⟩ | ⟨_, h4, _⟩
      · exact ha _ _ _ (Or.inr ⟨h3, hK _, rfl, rfl⟩) h4
      · cases h4
    · cases h3
