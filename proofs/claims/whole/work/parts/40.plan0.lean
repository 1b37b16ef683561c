/-! the plan: turns of crews (the class) and sets week by week (the reference) find the same -/
/-- what the plan is about: masts, crews, calm weeks, high masts, feeds -/
abbrev PL : Type := Nat × Nat × (Nat → Bool) × (Nat → Bool) × (Nat → Option Nat)
abbrev pN (P : PL) : Nat := P.1
abbrev pC (P : PL) : Nat := P.2.1
abbrev pW (P : PL) : Nat → Bool := P.2.2.1
abbrev pH (P : PL) : Nat → Bool := P.2.2.2.1
abbrev pF (P : PL) : Nat → Option Nat := P.2.2.2.2
def plok (P : PL) : Prop := 1 ≤ pN P ∧ pN P ≤ 10 ∧ 1 ≤ pC P ∧ pC P ≤ 3 ∧ ∀ m f, m < pN P → pF P m = some f → f < m
def allS (P : PL) : Nat := 2 ^ pN P - 1
def fdB (P : PL) (S m : Nat) : Bool := match pF P m with
  | none => true
  | some f => S.testBit f
def folB (P : PL) (S m : Nat) : Bool := !S.testBit m && fdB P S m
def okH (P : PL) (m w : Nat) : Bool := !pH P m || pW P w
def cnt (S : Nat) : Nat → Nat
  | 0 => 0
  | i + 1 => cnt S i + (if S.testBit i then 1 else 0)
def mayP (P : PL) (set done w : Nat) : Prop := set &&& done = 0 ∧ cnt set 10 ≤ pC P ∧ ∀ m, m < pN P → set.testBit m = true → okH P m w = true ∧ fdB P (done ||| set) m = true
def FW (P : PL) : Nat → Nat → Prop
  | 0, S => S = 0
  | w + 1, T => ∃ S set, S < 2 ^ pN P ∧ set < 2 ^ pN P ∧ FW P w S ∧ mayP P set S w ∧ T = S ||| set
def BW (P : PL) (W : Nat) : Nat → Nat → Prop
  | 0, S => S = allS P
  | k + 1, S => ∃ set, set < 2 ^ pN P ∧ mayP P set S (W - (k + 1)) ∧ BW P W k (S ||| set)
/-- the first calm week from the k-th last on, or 52 -/
def cfR (P : PL) : Nat → Nat
  | 0 => 52
  | k + 1 => if pW P (51 - k) then 51 - k else cfR P k
def cfN (P : PL) (w : Nat) : Nat := cfR P (52 - w)
/-- the last calm week below w, plus 1, or 0 -/
def cuN (P : PL) : Nat → Nat
  | 0 => 0
  | w + 1 => if pW P w then w + 1 else cuN P w
def fstN (P : PL) (h : Bool) (t : Nat) : Nat := if 52 ≤ t / pC P then 156 else if (!h || pW P (t / pC P)) then t else if cfN P (t / pC P) < 52 then cfN P (t / pC P) * pC P else 156
def lstN (P : PL) (h : Bool) (v : Nat) : Nat := if v ≤ 1 then 0 else if (!h || pW P ((v - 2) / pC P)) then v - 1 else match cuN P ((v - 2) / pC P + 1) with
  | 0 => 0
  | q + 1 => q * pC P + pC P
theorem cfR_spec (P : PL) : ∀ k, k ≤ 52 → 52 - k ≤ cfR P k ∧ cfR P k ≤ 52 ∧ (cfR P k < 52 → pW P (cfR P k) = true) ∧ ∀ v, 52 - k ≤ v → v < cfR P k → pW P v = false
  | 0, _ => ⟨by simp [cfR], by simp [cfR], fun h => absurd h (by simp [cfR]), fun v h1 h2 => absurd h2 (by simp only [cfR]; omega)⟩
  | k + 1, hk => by
    obtain ⟨a1, a2, a3, a4⟩ := cfR_spec P k (by omega)
    simp only [cfR]
    by_cases h : pW P (51 - k) = true
    · rw [if_pos h]
      exact ⟨by omega, by omega, fun _ => h, fun v h1 h2 => absurd h2 (by omega)⟩
    · rw [if_neg h]
      refine ⟨by omega, a2, a3, fun v h1 h2 => ?_⟩
      rcases Nat.lt_or_ge v (52 - k) with e | e
      · rw [show v = 51 - k by omega]; simpa using h
      · exact a4 v e h2
theorem cuN_spec (P : PL) : ∀ w, cuN P w ≤ w ∧ (∀ q, cuN P w = q + 1 → pW P q = true) ∧ ∀ v, cuN P w ≤ v → v < w → pW P v = false
  | 0 => ⟨by simp [cuN], fun q h => by simp [cuN] at h, fun v _ h => absurd h (by omega)⟩
  | w + 1 => by
    obtain ⟨a1, a2, a3⟩ := cuN_spec P w
    simp only [cuN]
    by_cases h : pW P w = true
    · rw [if_pos h]
      exact ⟨by omega, fun q hq => by rw [show q = w by omega]; exact h, fun v h1 h2 => absurd h2 (by omega)⟩
    · rw [if_neg h]
      refine ⟨by omega, a2, fun v h1 h2 => ?_⟩
      rcases Nat.lt_or_ge v w with e | e
      · exact a3 v h1 e
      · rw [show v = w by omega]; simpa using h
/-- a turn in week w -/
theorem dv1 {c w r : Nat} (hc : 0 < c) (hr : r < c) : (w * c + r) / c = w := by
  rw [Nat.mul_comm, Nat.mul_add_div hc, Nat.div_eq_of_lt hr]; rfl
theorem fst_real {P : PL} (hp : plok P) {h : Bool} {t : Nat} (hr : fstN P h t < 52 * pC P) : t ≤ fstN P h t ∧ (h = true → pW P (fstN P h t / pC P) = true) := by
  obtain ⟨n1, n2, c1, c2, -⟩ := hp
  revert hr
  unfold fstN
  split
  · intro hr; omega
  · next h52 =>
    split
    · next hok =>
      intro _
      refine ⟨Nat.le_refl _, fun hh => ?_⟩
      rw [hh] at hok
      simpa using hok
    · next hok =>
      obtain ⟨a1, a2, a3, a4⟩ := cfR_spec P (52 - t / pC P) (Nat.sub_le _ _)
      split
      · next hcf =>
        intro _
        unfold cfN at hcf ⊢
        refine ⟨?_, fun _ => ?_⟩
        · rw [Nat.sub_sub_self (show t / pC P ≤ 52 by omega)] at a1
          rcases Nat.lt_or_ge (t / pC P) (cfR P (52 - t / pC P)) with e | e
          · have h1 : t < (t / pC P + 1) * pC P := by
              have := Nat.lt_succ_iff.mpr (Nat.div_mul_le_self t (pC P))
              rw [Nat.mul_comm]; exact Nat.lt_mul_div_succ t c1
            exact Nat.le_trans (Nat.le_of_lt h1) (Nat.mul_le_mul_right _ e)
          · have e2 : cfR P (52 - t / pC P) = t / pC P := by omega
            have := a3 hcf
            rw [e2] at this
            rw [this] at hok
            simp at hok
        · rw [show cfR P (52 - t / pC P) * pC P / pC P = cfR P (52 - t / pC P) from Nat.mul_div_cancel _ c1]
          exact a3 hcf
      · intro hr; omega
theorem fst_least {P : PL} (hp : plok P) {h : Bool} {t u : Nat} (htu : t ≤ u) (hu : u < 52 * pC P) (hok : h = true → pW P (u / pC P) = true) : fstN P h t ≤ u := by
  obtain ⟨n1, n2, c1, c2, -⟩ := hp
  have hud : u / pC P < 52 := (Nat.div_lt_iff_lt_mul c1).mpr hu
  have htd : t / pC P ≤ u / pC P := Nat.div_le_div_right htu
  unfold fstN
  rw [if_neg (by omega)]
  split
  · exact htu
  · next hno =>
    have hh : h = true := by cases h <;> simp at hno ⊢
    have hcu := hok hh
    obtain ⟨a1, a2, a3, a4⟩ := cfR_spec P (52 - t / pC P) (Nat.sub_le _ _)
    have hcf : cfR P (52 - t / pC P) ≤ u / pC P := by
      rcases Nat.lt_or_ge (u / pC P) (cfR P (52 - t / pC P)) with e | e
      · rw [a4 (u / pC P) (by rw [Nat.sub_sub_self (show t / pC P ≤ 52 by omega)]; exact htd) e] at hcu; cases hcu
      · exact e
    unfold cfN
    rw [if_pos (by omega)]
    exact Nat.le_trans (Nat.mul_le_mul_right _ hcf) (Nat.div_mul_le_self u (pC P))
theorem fst_cap {P : PL} (hp : plok P) (h : Bool) (t : Nat) : fstN P h t < 52 * pC P ∨ fstN P h t = 156 := by
  obtain ⟨n1, n2, c1, c2, -⟩ := hp
  unfold fstN
  split
  · exact Or.inr rfl
  · next h52 =>
    split
    · exact Or.inl ((Nat.div_lt_iff_lt_mul c1).mp (by omega))
    · split
      · next hcf => exact Or.inl (Nat.mul_lt_mul_of_pos_right hcf c1)
      · exact Or.inr rfl
theorem lst_real {P : PL} (hp : plok P) {h : Bool} {v x : Nat} (hr : lstN P h v = x + 1) : x + 2 ≤ v ∧ (h = true → pW P (x / pC P) = true) := by
  obtain ⟨n1, n2, c1, c2, -⟩ := hp
  revert hr
  unfold lstN
  split
  · intro hr; omega
  · next hv =>
    split
    · next hok =>
      intro hr
      refine ⟨by omega, fun hh => ?_⟩
      rw [hh, show v - 2 = x by omega] at hok
      simpa using hok
    · next hok =>
      obtain ⟨a1, a2, a3⟩ := cuN_spec P ((v - 2) / pC P + 1)
      cases hq : cuN P ((v - 2) / pC P + 1) with
      | zero => intro hr; simp at hr
      | succ q =>
        intro hr
        have hr2 : q * pC P + pC P = x + 1 := hr
        have hx : x = q * pC P + (pC P - 1) := by omega
        have hxd : x / pC P = q := by rw [hx]; exact dv1 c1 (by omega)
        have hcq := a2 q hq
        refine ⟨?_, fun _ => by rw [hxd]; exact hcq⟩
        have hqlt : q < (v - 2) / pC P := by
          rcases Nat.lt_or_ge q ((v - 2) / pC P) with e | e
          · exact e
          · have : q = (v - 2) / pC P := by omega
            rw [← this, hcq] at hok
            simp at hok
        have h1 : (q + 1) * pC P ≤ (v - 2) / pC P * pC P := Nat.mul_le_mul_right _ hqlt
        have h2 := Nat.div_mul_le_self (v - 2) (pC P)
        rw [Nat.add_mul, Nat.one_mul] at h1
        omega
theorem lst_most {P : PL} (hp : plok P) {h : Bool} {v x : Nat} (hxv : x + 2 ≤ v) (hok : h = true → pW P (x / pC P) = true) : x + 1 ≤ lstN P h v := by
  obtain ⟨n1, n2, c1, c2, -⟩ := hp
  unfold lstN
  rw [if_neg (by omega)]
  split
  · omega
  · next hno =>
    have hh : h = true := by cases h <;> simp at hno ⊢
    have hcx := hok hh
    obtain ⟨a1, a2, a3⟩ := cuN_spec P ((v - 2) / pC P + 1)
    have hd : x / pC P ≤ (v - 2) / pC P := Nat.div_le_div_right (by omega)
    have hlt : x / pC P < cuN P ((v - 2) / pC P + 1) := by
      rcases Nat.lt_or_ge (x / pC P) (cuN P ((v - 2) / pC P + 1)) with e | e
      · exact e
      · rw [a3 _ e (by omega)] at hcx; cases hcx
    cases hq : cuN P ((v - 2) / pC P + 1) with
    | zero => rw [hq] at hlt; exact absurd hlt (Nat.not_lt_zero _)
    | succ q =>
      show x + 1 ≤ q * pC P + pC P
      have h1 : x / pC P ≤ q := by omega
      have h2 : x < (x / pC P + 1) * pC P := by rw [Nat.mul_comm]; exact Nat.lt_mul_div_succ x c1
      have h3 : (x / pC P + 1) * pC P ≤ (q + 1) * pC P := Nat.mul_le_mul_right _ (by omega)
      rw [Nat.add_mul q, Nat.one_mul] at h3
      omega
/-! sets -/
theorem tb_or {a b i : Nat} : (a ||| b).testBit i = (a.testBit i || b.testBit i) := Nat.testBit_or ..
theorem tb_pow {m i : Nat} : (2 ^ m).testBit i = decide (m = i) := Nat.testBit_two_pow
theorem lt_of_bits {S n : Nat} (h : ∀ i, n ≤ i → S.testBit i = false) : S < 2 ^ n := by
  apply Classical.byContradiction
  intro hc
  obtain ⟨i, h1, h2⟩ := Nat.exists_ge_and_testBit_of_ge_two_pow (Nat.not_lt.mp hc)
  rw [h i h1] at h2
  cases h2
theorem bits_of_lt {S n i : Nat} (h : S < 2 ^ n) (hi : n ≤ i) : S.testBit i = false := Nat.testBit_lt_two_pow (Nat.lt_of_lt_of_le h (Nat.pow_le_pow_right (by decide) hi))
theorem or_lt {a b n : Nat} (ha : a < 2 ^ n) (hb : b < 2 ^ n) : a ||| b < 2 ^ n := Nat.or_lt_two_pow ha hb
theorem cnt_or {S m : Nat} (hS : S.testBit m = false) : ∀ i, cnt (S ||| 2 ^ m) i = cnt S i + (if m < i then 1 else 0)
  | 0 => by simp [cnt]
  | i + 1 => by
    simp only [cnt]
    rw [cnt_or hS i, tb_or, tb_pow]
    by_cases e : m = i
    · subst e
      simp [hS]
    · by_cases h1 : m < i
      · simp [h1, show m < i + 1 by omega, e]; omega
      · simp [h1, show ¬ m < i + 1 by omega, e]
theorem cnt_0 : ∀ i, cnt 0 i = 0
  | 0 => rfl
  | i + 1 => by simp [cnt, cnt_0 i]
theorem cnt_le {S : Nat} : ∀ {i j : Nat}, i ≤ j → cnt S i ≤ cnt S j
  | i, j, h => by
    induction j with
    | zero => rw [show i = 0 by omega]; exact Nat.le_refl _
    | succ j ih =>
      rcases Nat.lt_or_ge i (j + 1) with e | e
      · have := ih (by omega)
        simp only [cnt]; omega
      · rw [show i = j + 1 by omega]; exact Nat.le_refl _
/-- the members of S below i -/
def lowB (S i : Nat) : Nat := S % 2 ^ i
theorem low_tb {S i j : Nat} : (lowB S i).testBit j = (decide (j < i) && S.testBit j) := Nat.testBit_mod_two_pow ..
theorem low_succ_t {S i : Nat} (h : S.testBit i = true) : lowB S (i + 1) = lowB S i ||| 2 ^ i := by
  apply Nat.eq_of_testBit_eq
  intro j
  rw [low_tb, tb_or, low_tb, tb_pow]
  by_cases e : i = j
  · subst e; simp [h]
  · by_cases h1 : j < i
    · simp [h1, show j < i + 1 by omega, e]
    · simp [h1, show ¬ j < i + 1 by omega, e]
theorem low_succ_f {S i : Nat} (h : S.testBit i = false) : lowB S (i + 1) = lowB S i := by
  apply Nat.eq_of_testBit_eq
  intro j
  rw [low_tb, low_tb]
  by_cases e : j = i
  · subst e; simp [h]
  · by_cases h1 : j < i
    · simp [h1, show j < i + 1 by omega]
    · simp [h1, show ¬ j < i + 1 by omega]
theorem low_all {S n : Nat} (h : S < 2 ^ n) : lowB S n = S := Nat.mod_eq_of_lt h
theorem low_0 {S : Nat} : lowB S 0 = 0 := Nat.mod_one S
theorem and0 {a b i : Nat} (h : a &&& b = 0) (ha : a.testBit i = true) : b.testBit i = false := by
  have : (a &&& b).testBit i = false := by rw [h]; exact Nat.zero_testBit i
  rw [Nat.testBit_and, ha] at this
  simpa using this
theorem lt_or {S m : Nat} (h : S.testBit m = false) : S < S ||| 2 ^ m := by
  refine Nat.lt_of_le_of_ne Nat.left_le_or (fun e => ?_)
  have : (S ||| 2 ^ m).testBit m = false := by rw [← e]; exact h
  rw [tb_or, tb_pow] at this
  simp at this
/-- what the class's table of soonest turns comes to -/
def CHD (P : PL) (D : Nat → Nat) : Prop := D 0 = 0 ∧ (∀ S m, S < 2 ^ pN P → m < pN P → folB P S m = true → D (S ||| 2 ^ m) ≤ fstN P (pH P m) (D S) + 1) ∧ ∀ T, T < 2 ^ pN P → T ≠ 0 → D T = 157 ∨ ∃ S m, S < 2 ^ pN P ∧ m < pN P ∧ folB P S m = true ∧ T = S ||| 2 ^ m ∧ D T = fstN P (pH P m) (D S) + 1
def CHL (P : PL) (W : Nat) (L : Nat → Nat) : Prop := L (allS P) = W * pC P + 1 ∧ (∀ S m, S < 2 ^ pN P → m < pN P → folB P S m = true → lstN P (pH P m) (L (S ||| 2 ^ m)) ≤ L S) ∧ ∀ S, S < 2 ^ pN P → S ≠ allS P → L S = 0 ∨ ∃ m, m < pN P ∧ folB P S m = true ∧ L S = lstN P (pH P m) (L (S ||| 2 ^ m))
theorem all_lt (P : PL) : allS P < 2 ^ pN P := Nat.sub_lt (Nat.two_pow_pos _) (by decide)
theorem FW_D {P : PL} (hp : plok P) {D : Nat → Nat} (hD : CHD P D) : ∀ w, w ≤ 52 → ∀ S, S < 2 ^ pN P → FW P w S → D S ≤ w * pC P
  | 0, _, S, _, h => by rw [show S = 0 from h, hD.1]; exact Nat.zero_le _
  | w + 1, hw, T, hT, h => by
    obtain ⟨S, set, h1, h2, h3, ⟨m1, m2, m3⟩, rfl⟩ := h
    have ih := FW_D hp hD w (by omega) S h1 h3
    obtain ⟨n1, n2, c1, c2, hfd⟩ := id hp
    have key : ∀ i, i ≤ pN P → D (S ||| lowB set i) ≤ w * pC P + cnt set i := by
      intro i
      induction i with
      | zero => intro _; rw [low_0, Nat.or_zero]; exact ih
      | succ i ihi =>
        intro hi
        have h4 := ihi (by omega)
        by_cases hb : set.testBit i = true
        · have e1 : S ||| lowB set (i + 1) = (S ||| lowB set i) ||| 2 ^ i := by rw [low_succ_t hb, Nat.or_assoc]
          have hlt : S ||| lowB set i < 2 ^ pN P := or_lt h1 (Nat.lt_of_le_of_lt (Nat.mod_le _ _) h2)
          have hSi : S.testBit i = false := and0 m1 hb
          obtain ⟨q1, q2⟩ := m3 i (by omega) hb
          have hfol : folB P (S ||| lowB set i) i = true := by
            unfold folB
            rw [tb_or, low_tb, hSi]
            have : fdB P (S ||| lowB set i) i = true := by
              unfold fdB at q2 ⊢
              cases hf : pF P i with
              | none => rfl
              | some f =>
                rw [hf] at q2
                have hfi := hfd i f (by omega) hf
                show (S ||| lowB set i).testBit f = true
                have q3 : (S ||| set).testBit f = true := q2
                rw [tb_or] at q3
                rw [tb_or, low_tb]
                simp [hfi]
                simpa using q3
            rw [this]
            simp
          have hcnt : cnt set (i + 1) = cnt set i + 1 := by simp only [cnt]; rw [if_pos hb]
          have hcle : cnt set (i + 1) ≤ pC P := Nat.le_trans (cnt_le (show i + 1 ≤ 10 by omega)) m2
          have hturn : (w * pC P + cnt set i) / pC P = w := dv1 c1 (by omega)
          have h5 := hD.2.1 _ i hlt (by omega) hfol
          have h6 : fstN P (pH P i) (D (S ||| lowB set i)) ≤ w * pC P + cnt set i := by
            refine fst_least hp h4 ?_ (fun hh => ?_)
            · have : (w + 1) * pC P ≤ 52 * pC P := Nat.mul_le_mul_right _ hw
              rw [Nat.add_mul, Nat.one_mul] at this
              omega
            · rw [hturn]
              unfold okH at q1
              rw [hh] at q1
              simpa using q1
          rw [e1, hcnt]
          omega
        · have hb2 : set.testBit i = false := by simpa using hb
          rw [low_succ_f hb2]
          have hcnt : cnt set (i + 1) = cnt set i := by simp only [cnt]; rw [if_neg hb]; rfl
          rw [hcnt]
          exact h4
    have hk := key (pN P) (Nat.le_refl _)
    rw [low_all h2] at hk
    have : cnt set (pN P) ≤ pC P := Nat.le_trans (cnt_le n2) m2
    rw [Nat.add_mul, Nat.one_mul]
    omega
theorem mayP_0 (P : PL) (S w : Nat) : mayP P 0 S w := ⟨Nat.zero_and S, by rw [cnt_0]; exact Nat.zero_le _, fun m _ h => by rw [Nat.zero_testBit] at h; cases h⟩
/-- part of a week -/
def GW (P : PL) (w r T : Nat) : Prop := ∃ S set, S < 2 ^ pN P ∧ set < 2 ^ pN P ∧ FW P w S ∧ T = S ||| set ∧ set &&& S = 0 ∧ cnt set 10 ≤ r ∧ ∀ m, m < pN P → set.testBit m = true → okH P m w = true ∧ fdB P (S ||| set) m = true
theorem fdB_mono {P : PL} {S T m : Nat} (h : fdB P S m = true) (hST : ∀ i, S.testBit i = true → T.testBit i = true) : fdB P T m = true := by
  unfold fdB at h ⊢
  cases hf : pF P m with
  | none => rfl
  | some f => rw [hf] at h; exact hST f h
theorem D_FW {P : PL} (hp : plok P) {D : Nat → Nat} (hD : CHD P D) : ∀ w, w ≤ 52 → ∀ S, S < 2 ^ pN P → D S ≤ w * pC P → FW P w S
  | 0, _, S, hS, h => by
    apply Classical.byContradiction
    intro hz
    have hS0 : S ≠ 0 := hz
    rcases hD.2.2 S hS hS0 with e | ⟨S0, m, _, _, _, _, e⟩
    · omega
    · omega
  | w + 1, hw, T, hT, h => by
    obtain ⟨n1, n2, c1, c2, hfd⟩ := id hp
    have ihA := D_FW hp hD w (by omega)
    have key : ∀ n, ∀ r, r ≤ pC P → ∀ T, T ≤ n → T < 2 ^ pN P → D T ≤ w * pC P + r → GW P w r T := by
      intro n
      induction n with
      | zero =>
        intro r hr T hTn hT hDT
        have hT0 : T = 0 := by omega
        subst hT0
        exact ⟨0, 0, hT, hT, ihA 0 hT (by rw [hD.1]; exact Nat.zero_le _), by simp, by simp, by rw [cnt_0]; exact Nat.zero_le _, fun m _ h => by rw [Nat.zero_testBit] at h; cases h⟩
      | succ n ih =>
        intro r hr T hTn hT hDT
        rcases Nat.lt_or_ge (w * pC P) (D T) with e | e
        · have hT0 : T ≠ 0 := fun z => by rw [z, hD.1] at e; omega
          have hmul : (w + 1) * pC P ≤ 52 * pC P := Nat.mul_le_mul_right _ hw
          rw [Nat.add_mul, Nat.one_mul] at hmul
          rcases hD.2.2 T hT hT0 with e2 | ⟨S0, m, s1, s2, s3, s4, s5⟩
          · omega
          · have hu : fstN P (pH P m) (D S0) < 52 * pC P := by omega
            obtain ⟨f1, f2⟩ := fst_real hp hu
            have hm0 : S0.testBit m = false := by unfold folB at s3; rw [Bool.and_eq_true] at s3; simpa using s3.1
            have hfd0 : fdB P S0 m = true := by unfold folB at s3; rw [Bool.and_eq_true] at s3; exact s3.2
            have hlt : S0 < T := by rw [s4]; exact lt_or hm0
            obtain ⟨S, set, g1, g2, g3, g4, g5, g6, g7⟩ := ih (fstN P (pH P m) (D S0) - w * pC P) (by omega) S0 (by omega) s1 (by omega)
            have hmS : S.testBit m = false ∧ set.testBit m = false := by rw [g4, tb_or] at hm0; simpa using hm0
            have hwk : fstN P (pH P m) (D S0) / pC P = w := by
              have := dv1 (c := pC P) (w := w) (r := fstN P (pH P m) (D S0) - w * pC P) c1 (by omega)
              rw [show w * pC P + (fstN P (pH P m) (D S0) - w * pC P) = fstN P (pH P m) (D S0) by omega] at this
              exact this
            have hor : S ||| (set ||| 2 ^ m) = T := by rw [s4, g4, Nat.or_assoc]
            refine ⟨S, set ||| 2 ^ m, g1, or_lt g2 (Nat.pow_lt_pow_right (by decide) s2), g3, hor.symm, ?_, ?_, fun q hq hb => ?_⟩
            · apply Nat.eq_of_testBit_eq
              intro j
              rw [Nat.testBit_and, tb_or, tb_pow, Nat.zero_testBit]
              by_cases ej : m = j
              · subst ej; rw [hmS.1]; simp
              · simp only [ej, decide_false, Bool.or_false]
                rw [← Nat.testBit_and, g5, Nat.zero_testBit]
            · rw [cnt_or hmS.2, if_pos (by omega)]; omega
            · rw [hor]
              by_cases eq : q = m
              · subst eq
                refine ⟨?_, ?_⟩
                · unfold okH
                  cases hh : pH P q with
                  | false => rfl
                  | true => have := f2 hh; rw [hwk] at this; rw [this]; rfl
                · exact fdB_mono hfd0 (fun i hi => by rw [s4, tb_or, hi]; rfl)
              · have hb2 : set.testBit q = true := by rw [tb_or, tb_pow] at hb; simpa [Ne.symm eq] using hb
                obtain ⟨k1, k2⟩ := g7 q hq hb2
                exact ⟨k1, fdB_mono k2 (fun i hi => by rw [s4, tb_or, g4, hi]; rfl)⟩
        · exact ⟨T, 0, hT, Nat.two_pow_pos _, ihA T hT e, by simp, by simp, by rw [cnt_0]; exact Nat.zero_le _, fun m _ h => by rw [Nat.zero_testBit] at h; cases h⟩
    obtain ⟨S, set, g1, g2, g3, g4, g5, g6, g7⟩ := key T (pC P) (Nat.le_refl _) T (Nat.le_refl _) hT (by rw [Nat.add_mul, Nat.one_mul] at h; exact h)
    exact ⟨S, set, g1, g2, g3, ⟨g5, g6, g7⟩, g4⟩
