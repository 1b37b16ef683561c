/-! sets as bits; how many -/
theorem bt_one {c i : Nat} (hc : c < 32) (hi : i < 32) : bt (1 <<< (nI c &&& 31)) i = decide (i = c) := by
  rw [b_shl c hc 1 hi]
  rcases Nat.lt_or_ge i c with h | h
  · rw [decide_eq_false (by omega), decide_eq_false (by omega)]; rfl
  · rw [decide_eq_true h, b_1 (i - c) (by omega)]
    simp only [Bool.true_and, decide_eq_decide]
    omega
theorem bt_add {x : Int32} {c i : Nat} (hc : c < 32) (hi : i < 32) : bt (x ||| (1 <<< (nI c &&& 31))) i = (bt x i || decide (i = c)) := by rw [b_or, bt_one hc hi]
theorem isIn_bt (s : Int32) {a : Nat} (ha : a < 32) : (¬ (s >>> (nI a &&& 31)) &&& 1 = 0) ↔ bt s a = true := by
  rw [bit1 s ha]
  exact b2_ne
theorem b2_cg {p q : Prop} [Decidable p] [Decidable q] (h : p ↔ q) : b2 p = b2 q := by
  unfold b2
  by_cases hp : p
  · rw [if_pos hp, if_pos (h.mp hp)]
  · rw [if_neg hp, if_neg (fun z => hp (h.mpr z))]
theorem c_isIn (G : Gl) (d : Nat) (s : Int32) {x : Int32} {a : Nat} (hx : x = nI a) (ha : a < 32) (w : mW) : MD G d Y_X10_isIn [.int s, .int x] w (some (.int (b2 (bt s a = true)))) w := by
  subst hx
  have := c_X10_isIn G d s (nI a) w
  rw [b2_cg (isIn_bt s ha)] at this
  exact this
def ush (x y : Int32) : Int32 := (x.toUInt32 >>> (y.toUInt32 &&& Int32.toUInt32 31)).toInt32
def bcF (x : Int32) : Int32 :=
  let x1 := x - (ush x 1 &&& 1431655765)
  let x2 := (x1 &&& 858993459) + (ush x1 2 &&& 858993459)
  let x3 := (x2 + ush x2 4) &&& 252645135
  let x4 := x3 + ush x3 8
  let x5 := x4 + ush x4 16
  x5 &&& 63
theorem c_bitCount (G : Gl) (d : Nat) (x : Int32) (w : mW) : MD G d Y_J6_bitCount_0f7a4 [.int x] w (some (.int (bcF x))) w := by
  refine MT.intro m_J6_bitCount_0f7a4 rfl (Nat.le_of_ble_eq_true rfl) ?_
  show WQ G d Y_J6_bitCount_0f7a4 _ 0 [(0, .int x)] [] w
  refine wp_iload_n rfl rfl ?_
  refine wp_iload_n rfl rfl ?_
  refine wp_iconst (v := 1) rfl rfl ?_
  refine wp_iushr rfl ?_
  refine wp_ldc_w (v := (1431655765)) rfl ci_13_265 ?_
  refine wp_iand rfl ?_
  refine wp_isub rfl ?_
  refine wp_istore_n (lv' := [(0, _)]) rfl rfl (by decide) rfl ?_
  refine wp_iload_n rfl rfl ?_
  refine wp_ldc_w (v := (858993459)) rfl ci_13_266 ?_
  refine wp_iand rfl ?_
  refine wp_iload_n rfl rfl ?_
  refine wp_iconst (v := 2) rfl rfl ?_
  refine wp_iushr rfl ?_
  refine wp_ldc_w (v := (858993459)) rfl ci_13_266 ?_
  refine wp_iand rfl ?_
  refine wp_iadd rfl ?_
  refine wp_istore_n (lv' := [(0, _)]) rfl rfl (by decide) rfl ?_
  refine wp_iload_n rfl rfl ?_
  refine wp_iload_n rfl rfl ?_
  refine wp_iconst (v := 4) rfl rfl ?_
  refine wp_iushr rfl ?_
  refine wp_iadd rfl ?_
  refine wp_ldc_w (v := (252645135)) rfl ci_13_267 ?_
  refine wp_iand rfl ?_
  refine wp_istore_n (lv' := [(0, _)]) rfl rfl (by decide) rfl ?_
  refine wp_iload_n rfl rfl ?_
  refine wp_iload_n rfl rfl ?_
  refine wp_bipush (v := 8) rfl rfl ?_
  refine wp_iushr rfl ?_
  refine wp_iadd rfl ?_
  refine wp_istore_n (lv' := [(0, _)]) rfl rfl (by decide) rfl ?_
  refine wp_iload_n rfl rfl ?_
  refine wp_iload_n rfl rfl ?_
  refine wp_bipush (v := 16) rfl rfl ?_
  refine wp_iushr rfl ?_
  refine wp_iadd rfl ?_
  refine wp_istore_n (lv' := [(0, _)]) rfl rfl (by decide) rfl ?_
  refine wp_iload_n rfl rfl ?_
  refine wp_bipush (v := 63) rfl rfl ?_
  refine wp_iand rfl ?_
  exact wp_iret rfl rfl (⟨rfl, rfl⟩)
/-- the bits below k, counted -/
def pcF (x : Int32) : Nat → Int32
  | 0 => 0
  | k + 1 => pcF x k + ((x >>> (nI k &&& 31)) &&& 1)
theorem bc_a : ∀ n, n < 1024 → bcF (nI n) = pcF (nI n) 12 ∧ bcF (nI n) = pcF (nI n) 10 ∧ (n ≠ 0 → 0 < bcF (nI n)) := by decide +kernel
theorem bc_b : ∀ n, n < 1024 → bcF (nI (1024 + n)) = pcF (nI (1024 + n)) 12 ∧ 0 < bcF (nI (1024 + n)) := by decide +kernel
theorem bc_c : ∀ n, n < 1024 → bcF (nI (2048 + n)) = pcF (nI (2048 + n)) 12 ∧ 0 < bcF (nI (2048 + n)) := by decide +kernel
theorem bc_d : ∀ n, n < 1024 → bcF (nI (3072 + n)) = pcF (nI (3072 + n)) 12 ∧ 0 < bcF (nI (3072 + n)) := by decide +kernel
theorem bc12 {n : Nat} (h : n < 4096) : bcF (nI n) = pcF (nI n) 12 ∧ (n ≠ 0 → 0 < bcF (nI n)) := by
  rcases Nat.lt_or_ge n 1024 with h1 | h1
  · exact ⟨(bc_a n h1).1, (bc_a n h1).2.2⟩
  · rcases Nat.lt_or_ge n 2048 with h2 | h2
    · have := bc_b (n - 1024) (by omega)
      rw [show 1024 + (n - 1024) = n by omega] at this
      exact ⟨this.1, fun _ => this.2⟩
    · rcases Nat.lt_or_ge n 3072 with h3 | h3
      · have := bc_c (n - 2048) (by omega)
        rw [show 2048 + (n - 2048) = n by omega] at this
        exact ⟨this.1, fun _ => this.2⟩
      · have := bc_d (n - 3072) (by omega)
        rw [show 3072 + (n - 3072) = n by omega] at this
        exact ⟨this.1, fun _ => this.2⟩
/-- the set of the first n choices -/
def usd (ch : Nat → Nat) : Nat → Int32
  | 0 => 0
  | m + 1 => usd ch m ||| (1 <<< (nI (ch m) &&& 31))
theorem sh1 : ∀ c, c < 12 → (1 : Int32) <<< (nI c &&& 31) = nI (2 ^ c) := by decide +kernel
theorem nI_or {a b : Nat} : nI a ||| nI b = nI (a ||| b) := by
  apply Int32.toBitVec_inj.mp
  rw [Int32.toBitVec_or]
  show BitVec.ofNat 32 a ||| BitVec.ofNat 32 b = BitVec.ofNat 32 (a ||| b)
  rw [BitVec.ofNat_or]
theorem usd_lt {ch : Nat → Nat} : ∀ n, (∀ m, m < n → ch m < 12) → ∃ u, u < 4096 ∧ usd ch n = nI u ∧ (0 < n → u ≠ 0)
  | 0, _ => ⟨0, by decide, rfl, fun h => absurd h (by decide)⟩
  | n + 1, h => by
    obtain ⟨u, h1, h2, -⟩ := usd_lt n (fun m hm => h m (by omega))
    have hc := h n (by omega)
    refine ⟨u ||| 2 ^ ch n, Nat.or_lt_two_pow (n := 12) h1 (Nat.pow_lt_pow_right (by decide) hc), ?_, fun _ hz => ?_⟩
    · simp only [usd]
      rw [h2, sh1 _ hc, nI_or]
    · have h3 : (u ||| 2 ^ ch n).testBit (ch n) = true := by rw [Nat.testBit_or]; simp
      rw [hz] at h3
      simp at h3
theorem usd_cg {ch ch' : Nat → Nat} : ∀ n, (∀ m, m < n → ch m = ch' m) → usd ch n = usd ch' n
  | 0, _ => rfl
  | n + 1, h => by
    simp only [usd]
    rw [usd_cg n (fun m hm => h m (by omega)), h n (by omega)]
theorem usd_bc {ch : Nat → Nat} {n : Nat} (h : ∀ m, m < n → ch m < 12) (hn : 0 < n) : bcF (usd ch n) = pcF (usd ch n) 12 ∧ 0 < bcF (usd ch n) := by
  obtain ⟨u, h1, h2, h3⟩ := usd_lt n h
  rw [h2]
  exact ⟨(bc12 h1).1, (bc12 h1).2 (h3 hn)⟩
/-! the search for channels, look by look -/
def up (ch : Nat → Nat) (j v : Nat) : Nat → Nat := fun i => if i = j then v else ch i
theorem up_eq {ch : Nat → Nat} {j v : Nat} : up ch j v j = v := if_pos rfl
theorem up_ne {ch : Nat → Nat} {j v i : Nat} (h : i ≠ j) : up ch j v i = ch i := if_neg h
def adv (ch : Nat → Nat) : Nat → Option Nat
  | 0 => if ch 0 < 11 then some 0 else none
  | n + 1 => if ch (n + 1) < 11 then some (n + 1) else adv ch n
theorem adv_some {ch : Nat → Nat} : ∀ (n j : Nat), adv ch n = some j → j ≤ n ∧ ch j < 11 ∧ ∀ l, j < l → l ≤ n → ¬ ch l < 11
  | 0, j, h => by
    simp only [adv] at h
    split at h
    · cases h; exact ⟨Nat.le_refl _, by assumption, fun l h1 h2 => absurd h1 (by omega)⟩
    · cases h
  | n + 1, j, h => by
    simp only [adv] at h
    split at h
    · cases h; exact ⟨Nat.le_refl _, by assumption, fun l h1 h2 => absurd h1 (by omega)⟩
    · next hc =>
      obtain ⟨h1, h2, h3⟩ := adv_some n j h
      refine ⟨by omega, h2, fun l hl hl2 => ?_⟩
      rcases Nat.lt_or_ge l (n + 1) with e | e
      · exact h3 l hl (by omega)
      · rw [show l = n + 1 by omega]; exact hc
theorem adv_none {ch : Nat → Nat} : ∀ (n : Nat), adv ch n = none → ∀ l, l ≤ n → ¬ ch l < 11
  | 0, h, l, hl => by
    simp only [adv] at h
    split at h
    · cases h
    · rw [show l = 0 by omega]; assumption
  | n + 1, h, l, hl => by
    simp only [adv] at h
    split at h
    · cases h
    · next hc =>
      rcases Nat.lt_or_ge l (n + 1) with e | e
      · exact adv_none n h l (by omega)
      · rw [show l = n + 1 by omega]; exact hc
def srch (ok : (Nat → Nat) → Nat → Bool) (last : Nat) : Nat → Nat → (Nat → Nat) → Int32 × Nat × (Nat → Nat)
  | 0, _, ch => (-4, 20000, ch)
  | f + 1, at_, ch => if ok ch at_ then (if last ≤ at_ then (1, 20000 - f, ch) else srch ok last f (at_ + 1) (up ch (at_ + 1) 0)) else match adv ch at_ with
    | none => (-1, 20000 - f, ch)
    | some j => srch ok last f j (up ch j (ch j + 1))
def sm (ch : Nat → Nat) : Nat → Nat
  | 0 => ch 0 + 1
  | n + 1 => sm ch n + (ch (n + 1) + 1)
theorem sm_cg {ch ch' : Nat → Nat} : ∀ n, (∀ l, l ≤ n → ch l = ch' l) → sm ch n = sm ch' n
  | 0, h => by simp only [sm]; rw [h 0 (by omega)]
  | n + 1, h => by simp only [sm]; rw [sm_cg n (fun l hl => h l (by omega)), h (n + 1) (by omega)]
theorem sm_up {ch : Nat → Nat} : ∀ j, sm (up ch j (ch j + 1)) j = sm ch j + 1
  | 0 => by simp only [sm, up_eq]
  | j + 1 => by
    simp only [sm, up_eq]
    rw [sm_cg (ch := up ch (j + 1) (ch (j + 1) + 1)) (ch' := ch) j (fun l hl => up_ne (by omega))]
    omega
theorem sm_full {ch : Nat → Nat} : ∀ n, (∀ l, l ≤ n → ch l = 11) → sm ch n = 12 * (n + 1)
  | 0, h => by simp only [sm]; rw [h 0 (by omega)]
  | n + 1, h => by simp only [sm]; rw [sm_full n (fun l hl => h l (by omega)), h (n + 1) (by omega)]; omega
theorem sm_tail {ch : Nat → Nat} {j : Nat} : ∀ n, (∀ l, j < l → l ≤ j + n → ch l = 11) → sm ch (j + n) = sm ch j + 12 * n
  | 0, _ => rfl
  | n + 1, h => by
    show sm ch (j + n) + (ch (j + n + 1) + 1) = _
    rw [sm_tail n (fun l h1 h2 => h l h1 (by omega)), h (j + n + 1) (by omega) (by omega)]
    omega
/-- what holds at every look -/
def lkI (last f at_ : Nat) (ch : Nat → Nat) : Prop := at_ ≤ last ∧ (∀ l, l ≤ at_ → ch l ≤ 11) ∧ (20001 - f) % 12 = sm ch at_ % 12
theorem lkI_none {last f at_ : Nat} {ch : Nat → Nat} (h : lkI last (f + 1) at_ ch) (hf : f + 1 ≤ 20000) (hn : adv ch at_ = none) : f ≠ 0 := by
  intro hz
  subst hz
  obtain ⟨h1, h2, h3⟩ := h
  have h4 := adv_none at_ hn
  rw [sm_full at_ (fun l hl => by have := h2 l hl; have := h4 l hl; omega)] at h3
  omega
theorem lkI_some {last f at_ j : Nat} {ch : Nat → Nat} (h : lkI last (f + 1) at_ ch) (hf : f + 1 ≤ 20000) (hn : adv ch at_ = some j) : lkI last f j (up ch j (ch j + 1)) := by
  obtain ⟨h1, h2, h3⟩ := h
  obtain ⟨a1, a2, a3⟩ := adv_some at_ j hn
  refine ⟨by omega, fun l hl => ?_, ?_⟩
  · by_cases e : l = j
    · subst e; rw [up_eq]; omega
    · rw [up_ne e]; exact h2 l (by omega)
  · rw [sm_up]
    have h5 := sm_tail (ch := ch) (j := j) (at_ - j) (fun l hl1 hl2 => by have := h2 l (by omega); have := a3 l hl1 (by omega); omega)
    rw [show j + (at_ - j) = at_ by omega] at h5
    rw [h5] at h3
    omega
theorem lkI_next {last f at_ : Nat} {ch : Nat → Nat} (h : lkI last (f + 1) at_ ch) (hf : f + 1 ≤ 20000) (hl : at_ < last) : lkI last f (at_ + 1) (up ch (at_ + 1) 0) := by
  obtain ⟨h1, h2, h3⟩ := h
  refine ⟨by omega, fun l hl => ?_, ?_⟩
  · by_cases e : l = at_ + 1
    · subst e; rw [up_eq]; omega
    · rw [up_ne e]; exact h2 l (by omega)
  · show _ = (sm (up ch (at_ + 1) 0) at_ + (up ch (at_ + 1) 0 (at_ + 1) + 1)) % 12
    rw [up_eq, sm_cg (ch := up ch (at_ + 1) 0) (ch' := ch) at_ (fun l hl => up_ne (by omega))]
    omega
