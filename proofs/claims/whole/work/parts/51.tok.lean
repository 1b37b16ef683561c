/-! the law's text: its tokens -/
def isBl (c : Int32) : Bool := decide (c = 32 ∨ c = 10)
def isLt (c : Int32) : Bool := decide (97 ≤ c ∧ c ≤ 122)
def isDg (c : Int32) : Bool := decide (48 ≤ c ∧ c ≤ 57)
def isSg (c : Int32) : Bool := decide (c = 43 ∨ c = 45 ∨ c = 42 ∨ c = 47 ∨ c = 40 ∨ c = 41 ∨ c = 60 ∨ c = 62 ∨ c = 61 ∨ c = 59)
def rn (T : Nat → Int32) (n : Nat) (p : Int32 → Bool) : Nat → Nat → Nat
  | 0, i => i
  | f + 1, i => if i < n ∧ p (T i) = true then rn T n p f (i + 1) else i
/-- the end of a run that begins at i -/
def rE (T : Nat → Int32) (n : Nat) (p : Int32 → Bool) (i : Nat) : Nat := rn T n p (n - i) i
theorem rE_t {T : Nat → Int32} {n i : Nat} {p : Int32 → Bool} (h : i < n) (hp : p (T i) = true) : rE T n p i = rE T n p (i + 1) := by
  unfold rE
  rw [show n - i = (n - (i + 1)) + 1 by omega]
  simp only [rn]
  rw [if_pos ⟨h, hp⟩]
theorem rE_f {T : Nat → Int32} {n i : Nat} {p : Int32 → Bool} (h : ¬ (i < n ∧ p (T i) = true)) : rE T n p i = i := by
  unfold rE
  cases hf : n - i with
  | zero => rfl
  | succ f => simp only [rn]; rw [if_neg h]
theorem rE_b {T : Nat → Int32} {n : Nat} {p : Int32 → Bool} : ∀ (f i : Nat), n - i ≤ f → i ≤ rE T n p i ∧ (i ≤ n → rE T n p i ≤ n) := by
  intro f
  induction f with
  | zero =>
    intro i hi
    rw [rE_f (by omega)]
    exact ⟨Nat.le_refl _, fun h => h⟩
  | succ f ih =>
    intro i hi
    by_cases h : i < n ∧ p (T i) = true
    · rw [rE_t h.1 h.2]
      have := ih (i + 1) (by omega)
      exact ⟨by omega, fun _ => this.2 (by omega)⟩
    · rw [rE_f h]
      exact ⟨Nat.le_refl _, fun h => h⟩
theorem rE_cg {T U : Nat → Int32} {n : Nat} {p : Int32 → Bool} (h : ∀ j, j < n → T j = U j) : ∀ (f i : Nat), n - i ≤ f → rE T n p i = rE U n p i := by
  intro f
  induction f with
  | zero =>
    intro i hi
    rw [rE_f (by omega), rE_f (by omega)]
  | succ f ih =>
    intro i hi
    by_cases g : i < n ∧ p (T i) = true
    · rw [rE_t g.1 g.2, rE_t g.1 (by rw [← h i g.1]; exact g.2)]
      exact ih (i + 1) (by omega)
    · rw [rE_f g, rE_f (fun z => g ⟨z.1, by rw [h i z.1]; exact z.2⟩)]
def te (T : Nat → Int32) (n i : Nat) : Nat := if isLt (T i) = true then rE T n isLt (i + 1) else if isDg (T i) = true then rE T n isDg (i + 1) else i + 1
theorem te_b {T : Nat → Int32} {n i : Nat} (h : i < n) : i < te T n i ∧ te T n i ≤ n := by
  unfold te
  split
  · have := rE_b (T := T) (n := n) (p := isLt) n (i + 1) (by omega)
    exact ⟨by omega, this.2 (by omega)⟩
  · split
    · have := rE_b (T := T) (n := n) (p := isDg) n (i + 1) (by omega)
      exact ⟨by omega, this.2 (by omega)⟩
    · omega
def dgt (c : Int32) : Nat := (c - 48).toNatClampNeg
def mil (a : Nat) : Nat := if 1000000 < a then 1000000 else a
/-- a number's value, held at a million -/
def nvl (T : Nat → Int32) : Nat → Nat → Nat → Nat
  | 0, _, a => a
  | l + 1, i, a => nvl T l (i + 1) (mil (10 * a + dgt (T i)))
def alB (p : Nat → Bool) : Nat → Bool
  | 0 => true
  | n + 1 => alB p n && p n
theorem alB_iff {p : Nat → Bool} : ∀ n, alB p n = true ↔ ∀ a, a < n → p a = true
  | 0 => ⟨fun _ a h => absurd h (by omega), fun _ => rfl⟩
  | n + 1 => by
    simp only [alB, Bool.and_eq_true, alB_iff n]
    constructor
    · rintro ⟨h1, h2⟩ a ha
      rcases Nat.lt_or_ge a n with e | e
      · exact h1 a e
      · rw [show a = n by omega]; exact h2
    · intro h
      exact ⟨fun a ha => h a (by omega), h n (by omega)⟩
/-- word j stands from i up to e -/
def wdB (T : Nat → Int32) (i e j : Nat) : Bool := decide (e = i + STL.getD j 0) && alB (fun k => decide (T (i + k) = chr j k)) (STL.getD j 0)
theorem wd_iff {T : Nat → Int32} {i e j : Nat} : wdB T i e j = true ↔ e = i + STL.getD j 0 ∧ ∀ k, k < STL.getD j 0 → T (i + k) = chr j k := by
  unfold wdB
  rw [Bool.and_eq_true, decide_eq_true_eq, alB_iff]
  simp only [decide_eq_true_eq]
theorem wd_dif : ∀ j, j < 10 → ∀ l, l < 10 → STL.getD j 0 = STL.getD l 0 → (∀ k, k < STL.getD j 0 → chr j k = chr l k) → j = l := by decide +kernel
theorem wd_one {T : Nat → Int32} {i e j l : Nat} (hj : j < 10) (hl : l < 10) (h1 : wdB T i e j = true) (h2 : wdB T i e l = true) : j = l := by
  obtain ⟨a1, a2⟩ := wd_iff.mp h1
  obtain ⟨b1, b2⟩ := wd_iff.mp h2
  have hL : STL.getD j 0 = STL.getD l 0 := by omega
  exact wd_dif j hj l hl hL (fun k hk => by rw [← a2 k hk, b2 k (by omega)])
/-- the kind of word j -/
def wkd (j : Nat) : Int32 := if j < 6 then -1 - nI j else -96 - nI j
def wky (T : Nat → Int32) (i e : Nat) : Int32 := if wdB T i e 0 = true then -1 else if wdB T i e 1 = true then -2 else if wdB T i e 2 = true then -3 else if wdB T i e 3 = true then -4 else if wdB T i e 4 = true then -5 else if wdB T i e 5 = true then -6 else if wdB T i e 6 = true then -102 else if wdB T i e 7 = true then -103 else if wdB T i e 8 = true then -104 else if wdB T i e 9 = true then -105 else -101
theorem wky_j {T : Nat → Int32} {i e j : Nat} (hj : j < 10) (h : wdB T i e j = true) : wky T i e = wkd j := by
  have hn : ∀ l, l < 10 → l ≠ j → ¬ wdB T i e l = true := fun l hl hne z => hne (wd_one hl hj z h)
  unfold wky
  match j, hj with
  | 0, _ => rw [if_pos h]; rfl
  | 1, _ => rw [if_neg (hn 0 (by omega) (by omega)), if_pos h]; rfl
  | 2, _ => rw [if_neg (hn 0 (by omega) (by omega)), if_neg (hn 1 (by omega) (by omega)), if_pos h]; rfl
  | 3, _ => rw [if_neg (hn 0 (by omega) (by omega)), if_neg (hn 1 (by omega) (by omega)), if_neg (hn 2 (by omega) (by omega)), if_pos h]; rfl
  | 4, _ => rw [if_neg (hn 0 (by omega) (by omega)), if_neg (hn 1 (by omega) (by omega)), if_neg (hn 2 (by omega) (by omega)), if_neg (hn 3 (by omega) (by omega)), if_pos h]; rfl
  | 5, _ => rw [if_neg (hn 0 (by omega) (by omega)), if_neg (hn 1 (by omega) (by omega)), if_neg (hn 2 (by omega) (by omega)), if_neg (hn 3 (by omega) (by omega)), if_neg (hn 4 (by omega) (by omega)), if_pos h]; rfl
  | 6, _ => rw [if_neg (hn 0 (by omega) (by omega)), if_neg (hn 1 (by omega) (by omega)), if_neg (hn 2 (by omega) (by omega)), if_neg (hn 3 (by omega) (by omega)), if_neg (hn 4 (by omega) (by omega)), if_neg (hn 5 (by omega) (by omega)), if_pos h]; rfl
  | 7, _ => rw [if_neg (hn 0 (by omega) (by omega)), if_neg (hn 1 (by omega) (by omega)), if_neg (hn 2 (by omega) (by omega)), if_neg (hn 3 (by omega) (by omega)), if_neg (hn 4 (by omega) (by omega)), if_neg (hn 5 (by omega) (by omega)), if_neg (hn 6 (by omega) (by omega)), if_pos h]; rfl
  | 8, _ => rw [if_neg (hn 0 (by omega) (by omega)), if_neg (hn 1 (by omega) (by omega)), if_neg (hn 2 (by omega) (by omega)), if_neg (hn 3 (by omega) (by omega)), if_neg (hn 4 (by omega) (by omega)), if_neg (hn 5 (by omega) (by omega)), if_neg (hn 6 (by omega) (by omega)), if_neg (hn 7 (by omega) (by omega)), if_pos h]; rfl
  | 9, _ => rw [if_neg (hn 0 (by omega) (by omega)), if_neg (hn 1 (by omega) (by omega)), if_neg (hn 2 (by omega) (by omega)), if_neg (hn 3 (by omega) (by omega)), if_neg (hn 4 (by omega) (by omega)), if_neg (hn 5 (by omega) (by omega)), if_neg (hn 6 (by omega) (by omega)), if_neg (hn 7 (by omega) (by omega)), if_neg (hn 8 (by omega) (by omega)), if_pos h]; rfl
  | n + 10, hj => exact absurd hj (by omega)
theorem wky_no {T : Nat → Int32} {i e : Nat} (h : ∀ j, j < 10 → ¬ wdB T i e j = true) : wky T i e = -101 := by
  unfold wky
  rw [if_neg (h 0 (by omega)), if_neg (h 1 (by omega)), if_neg (h 2 (by omega)), if_neg (h 3 (by omega)), if_neg (h 4 (by omega)), if_neg (h 5 (by omega)), if_neg (h 6 (by omega)), if_neg (h 7 (by omega)), if_neg (h 8 (by omega)), if_neg (h 9 (by omega))]
theorem wky_or (T : Nat → Int32) (i e : Nat) : (∃ j, j < 10 ∧ wdB T i e j = true ∧ wky T i e = wkd j) ∨ ((∀ j, j < 10 → ¬ wdB T i e j = true) ∧ wky T i e = -101) := by
  by_cases h : ∃ j, j < 10 ∧ wdB T i e j = true
  · obtain ⟨j, h1, h2⟩ := h
    exact Or.inl ⟨j, h1, h2, wky_j h1 h2⟩
  · have h2 : ∀ j, j < 10 → ¬ wdB T i e j = true := fun j hj z => h ⟨j, hj, z⟩
    exact Or.inr ⟨h2, wky_no h2⟩
theorem wkd_dif : ∀ j, j < 10 → wkd j ≠ -101 ∧ wkd j < 0 ∧ ∀ l, l < 10 → wkd j = wkd l → j = l := by decide +kernel
theorem wky_iff {T : Nat → Int32} {i e j : Nat} (hj : j < 10) : wky T i e = wkd j ↔ wdB T i e j = true := by
  constructor
  · intro h
    rcases wky_or T i e with ⟨l, l1, l2, l3⟩ | ⟨_, h2⟩
    · have := (wkd_dif l l1).2.2 j hj (l3.symm.trans h)
      rw [← this]; exact l2
    · exact absurd (h.symm.trans h2) (wkd_dif j hj).1
  · exact wky_j hj
def knd (T : Nat → Int32) (n i : Nat) : Int32 := if isDg (T i) = true then (if 999999 < nvl T (te T n i - i) i 0 then -101 else nI (nvl T (te T n i - i) i 0)) else if isLt (T i) = true then wky T i (te T n i) else if isSg (T i) = true then -(T i) else -101
def sk (T : Nat → Int32) (n i : Nat) : Nat := rE T n isBl i
def ps (T : Nat → Int32) (n : Nat) : Nat → Nat
  | 0 => sk T n 0
  | i + 1 => if ps T n i < n then sk T n (te T n (ps T n i)) else n
/-- the kinds of the tokens, one behind the other; -100 behind the last -/
def KK (T : Nat → Int32) (n i : Nat) : Int32 := if ps T n i < n then knd T n (ps T n i) else -100
theorem sk_b {T : Nat → Int32} {n i : Nat} (h : i ≤ n) : i ≤ sk T n i ∧ sk T n i ≤ n := by
  have := rE_b (T := T) (n := n) (p := isBl) n i (by omega)
  exact ⟨this.1, this.2 h⟩
theorem ps_b {T : Nat → Int32} {n : Nat} : ∀ i, ps T n i ≤ n ∧ (ps T n i < n → i ≤ ps T n i)
  | 0 => ⟨(sk_b (Nat.zero_le _)).2, fun _ => Nat.zero_le _⟩
  | i + 1 => by
    obtain ⟨h1, h2⟩ := ps_b (T := T) (n := n) i
    simp only [ps]
    by_cases h : ps T n i < n
    · rw [if_pos h]
      obtain ⟨t1, t2⟩ := te_b (T := T) h
      obtain ⟨s1, s2⟩ := sk_b (T := T) t2
      have := h2 h
      exact ⟨s2, fun _ => by omega⟩
    · rw [if_neg h]
      exact ⟨Nat.le_refl _, fun z => absurd z (by omega)⟩
theorem ps_mono {T : Nat → Int32} {n i : Nat} (h : ps T n (i + 1) < n) : ps T n i < n := by
  apply Classical.byContradiction
  intro z
  simp only [ps] at h
  rw [if_neg z] at h
  omega
theorem nvl_le (T : Nat → Int32) : ∀ l i a, a ≤ 1000000 → nvl T l i a ≤ 1000000
  | 0, _, a, h => h
  | l + 1, i, a, _ => nvl_le T l (i + 1) _ (by unfold mil; split <;> omega)
theorem knd_no {T : Nat → Int32} {n i : Nat} : ¬ knd T n i = -100 := by
  unfold knd
  split
  · split
    · decide
    · next h =>
      have := nI_pos' (n := nvl T (te T n i - i) i 0) (by omega)
      grind
  · split
    · rcases wky_or T i (te T n i) with ⟨l, l1, l2, l3⟩ | ⟨_, h2⟩
      · rw [l3]
        have : ∀ l, l < 10 → ¬ wkd l = -100 := by decide +kernel
        exact this l l1
      · rw [h2]; decide
    · split
      · next h =>
        unfold isSg at h
        rw [decide_eq_true_eq] at h
        rcases h with h | h | h | h | h | h | h | h | h | h <;> rw [h] <;> decide
      · decide
theorem KK_end {T : Nat → Int32} {n i : Nat} : KK T n i = -100 ↔ ¬ ps T n i < n := by
  unfold KK
  split
  · next h => exact ⟨fun z => absurd z knd_no, fun z => absurd h z⟩
  · next h => exact ⟨fun _ => h, fun _ => rfl⟩
theorem KK_lt {T : Nat → Int32} {n i : Nat} (hn : n ≤ 300) (h : ¬ KK T n i = -100) : i < 300 := by
  have : ps T n i < n := Classical.byContradiction (fun z => h (KK_end.mpr z))
  have := (ps_b (T := T) (n := n) i).2 this
  omega
