/-! the plan: from the end, and the sets that are picked -/
theorem BW_L {P : PL} (hp : plok P) {W : Nat} {L : Nat → Nat} (hL : CHL P W L) : ∀ k, k ≤ W → ∀ S, S < 2 ^ pN P → BW P W k S → (W - k) * pC P + 1 ≤ L S
  | 0, _, S, _, h => by rw [show S = allS P from h, hL.1]; exact Nat.le_refl _
  | k + 1, hk, S, hS, h => by
    obtain ⟨n1, n2, c1, c2, hfd⟩ := id hp
    obtain ⟨set, h2, ⟨m1, m2, m3⟩, h3⟩ := h
    have ih := BW_L hp hL k (by omega) _ (or_lt hS h2) h3
    generalize hw : W - (k + 1) = w at m3 ⊢
    have hwk : W - k = w + 1 := by omega
    rw [hwk, Nat.add_mul, Nat.one_mul] at ih
    have key : ∀ d i, i + d = pN P → w * pC P + pC P + 1 + cnt set i ≤ L (S ||| lowB set i) + cnt set (pN P) := by
      intro d
      induction d with
      | zero =>
        intro i hi
        rw [show i = pN P by omega, low_all h2]
        omega
      | succ d ihd =>
        intro i hi
        have h4 := ihd (i + 1) (by omega)
        by_cases hb : set.testBit i = true
        · have e1 : S ||| lowB set (i + 1) = (S ||| lowB set i) ||| 2 ^ i := by rw [low_succ_t hb, Nat.or_assoc]
          have hlt : S ||| lowB set i < 2 ^ pN P := or_lt hS (Nat.lt_of_le_of_lt (Nat.mod_le _ _) h2)
          have hSi : S.testBit i = false := and0 m1 hb
          obtain ⟨q1, q2⟩ := m3 i (by omega) hb
          have hfol : folB P (S ||| lowB set i) i = true := by
            unfold folB
            rw [tb_or, low_tb, hSi]
            have : fdB P (S ||| lowB set i) i = true := by
              unfold fdB at q2 ⊢
              cases hf : pF P i with
              | none => rfl
              | some f =>
                rw [hf] at q2
                have hfi := hfd i f (by omega) hf
                show (S ||| lowB set i).testBit f = true
                have q3 : (S ||| set).testBit f = true := q2
                rw [tb_or] at q3
                rw [tb_or, low_tb]
                simp [hfi]
                simpa using q3
            rw [this]
            simp
          have hcnt : cnt set (i + 1) = cnt set i + 1 := by simp only [cnt]; rw [if_pos hb]
          have hcle : cnt set (pN P) ≤ pC P := Nat.le_trans (cnt_le (show pN P ≤ 10 by omega)) m2
          have hci : cnt set (i + 1) ≤ cnt set (pN P) := cnt_le (by omega)
          rw [e1, hcnt] at h4
          have h5 := hL.2.1 _ i hlt (by omega) hfol
          have hx := lst_most hp (h := pH P i) (v := L ((S ||| lowB set i) ||| 2 ^ i)) (x := w * pC P + (pC P - (cnt set (pN P) - cnt set i))) (by omega) (fun hh => by
            rw [dv1 c1 (by omega)]
            unfold okH at q1
            rw [hh] at q1
            simpa using q1)
          omega
        · have hb2 : set.testBit i = false := by simpa using hb
          have hcnt : cnt set (i + 1) = cnt set i := by simp only [cnt]; rw [if_neg hb]; rfl
          rw [low_succ_f hb2, hcnt] at h4
          exact h4
    have hk0 := key (pN P) 0 (by omega)
    rw [low_0, Nat.or_zero] at hk0
    have hcle : cnt set (pN P) ≤ pC P := Nat.le_trans (cnt_le (show pN P ≤ 10 by omega)) m2
    have : cnt set 0 = 0 := rfl
    omega
theorem L_le {P : PL} (hp : plok P) {W : Nat} {L : Nat → Nat} (hL : CHL P W L) : ∀ n S, S < 2 ^ pN P → 2 ^ pN P - S ≤ n → L S ≤ W * pC P + 1 ∧ (S ≠ allS P → L S ≤ W * pC P) := by
  intro n
  induction n with
  | zero => intro S hS hn; omega
  | succ n ih =>
    intro S hS hn
    by_cases e : S = allS P
    · rw [e, hL.1]; exact ⟨Nat.le_refl _, fun z => absurd rfl z⟩
    · rcases hL.2.2 S hS e with z | ⟨m, m1, m2, m3⟩
      · rw [z]; exact ⟨Nat.zero_le _, fun _ => Nat.zero_le _⟩
      · have hm0 : S.testBit m = false := by unfold folB at m2; rw [Bool.and_eq_true] at m2; simpa using m2.1
        have hlt := lt_or hm0
        have hT : S ||| 2 ^ m < 2 ^ pN P := or_lt hS (Nat.pow_lt_pow_right (by decide) m1)
        have := (ih (S ||| 2 ^ m) hT (by omega)).1
        have hb : L S ≤ W * pC P := by
          cases hx : L S with
          | zero => exact Nat.zero_le _
          | succ x =>
            rw [hx] at m3
            have := (lst_real hp m3.symm).1
            omega
        exact ⟨by omega, fun _ => hb⟩
theorem L_BW {P : PL} (hp : plok P) {W : Nat} {L : Nat → Nat} (hL : CHL P W L) : ∀ k, k ≤ W → ∀ S, S < 2 ^ pN P → (W - k) * pC P + 1 ≤ L S → BW P W k S
  | 0, _, S, hS, h => by
    show S = allS P
    apply Classical.byContradiction
    intro hz
    have := (L_le hp hL _ S hS (Nat.le_refl _)).2 hz
    simp at h
    omega
  | k + 1, hk, S, hS, h => by
    obtain ⟨n1, n2, c1, c2, hfd⟩ := id hp
    have ihA := L_BW hp hL k (by omega)
    generalize hw : W - (k + 1) = w at h
    have hwk : W - k = w + 1 := by omega
    rw [hwk, Nat.add_mul, Nat.one_mul] at ihA
    have hWw : w * pC P + pC P ≤ W * pC P := by
      have := Nat.mul_le_mul_right (pC P) (show w + 1 ≤ W by omega)
      rw [Nat.add_mul, Nat.one_mul] at this
      exact this
    have key : ∀ n r, r ≤ pC P → ∀ S, S < 2 ^ pN P → 2 ^ pN P - S ≤ n → w * pC P + pC P + 1 ≤ L S + r → ∃ set, set < 2 ^ pN P ∧ set &&& S = 0 ∧ cnt set 10 ≤ r ∧ (∀ m, m < pN P → set.testBit m = true → okH P m w = true ∧ fdB P (S ||| set) m = true) ∧ BW P W k (S ||| set) := by
      intro n
      induction n with
      | zero => intro r hr S hS hn; omega
      | succ n ih =>
        intro r hr S hS hn hLS
        rcases Nat.lt_or_ge (L S) (w * pC P + pC P + 1) with e | e
        · have hSa : S ≠ allS P := fun z => by rw [z, hL.1] at e; omega
          rcases hL.2.2 S hS hSa with z | ⟨m, m1, m2, m3⟩
          · omega
          · obtain ⟨x, hx⟩ : ∃ x, L S = x + 1 := ⟨L S - 1, by omega⟩
            obtain ⟨r1, r2⟩ := lst_real hp (m3.symm.trans hx)
            have hm0 : S.testBit m = false := by unfold folB at m2; rw [Bool.and_eq_true] at m2; simpa using m2.1
            have hfd0 : fdB P S m = true := by unfold folB at m2; rw [Bool.and_eq_true] at m2; exact m2.2
            have hlt := lt_or hm0
            have hT : S ||| 2 ^ m < 2 ^ pN P := or_lt hS (Nat.pow_lt_pow_right (by decide) m1)
            obtain ⟨set, g1, g2, g3, g4, g5⟩ := ih (w * pC P + pC P - x - 1) (by omega) (S ||| 2 ^ m) hT (by omega) (by omega)
            have hwx : x / pC P = w := by
              have := dv1 (c := pC P) (w := w) (r := x - w * pC P) c1 (by omega)
              rw [show w * pC P + (x - w * pC P) = x by omega] at this
              exact this
            have hms : set.testBit m = false := by
              cases hz : set.testBit m with
              | false => rfl
              | true => have := and0 g2 hz; rw [tb_or, tb_pow] at this; simp at this
            have hor : S ||| (set ||| 2 ^ m) = S ||| 2 ^ m ||| set := by rw [Nat.or_comm set, Nat.or_assoc]
            refine ⟨set ||| 2 ^ m, or_lt g1 (Nat.pow_lt_pow_right (by decide) m1), ?_, ?_, fun q hq hb => ?_, by rw [hor]; exact g5⟩
            · apply Nat.eq_of_testBit_eq
              intro j
              rw [Nat.testBit_and, tb_or, tb_pow, Nat.zero_testBit]
              by_cases ej : m = j
              · subst ej; rw [hm0]; simp
              · simp only [ej, decide_false, Bool.or_false]
                cases hz : set.testBit j with
                | false => rfl
                | true =>
                  have := and0 g2 hz
                  rw [tb_or] at this
                  simp only [Bool.or_eq_false_iff] at this
                  rw [this.1]; rfl
            · rw [cnt_or hms, if_pos (by omega)]; omega
            · rw [hor]
              by_cases eq : q = m
              · subst eq
                refine ⟨?_, ?_⟩
                · unfold okH
                  cases hh : pH P q with
                  | false => rfl
                  | true => have := r2 hh; rw [hwx] at this; rw [this]; rfl
                · exact fdB_mono hfd0 (fun i hi => by rw [tb_or, tb_or, hi]; rfl)
              · have hb2 : set.testBit q = true := by rw [tb_or, tb_pow] at hb; simpa [Ne.symm eq] using hb
                exact g4 q hq hb2
        · exact ⟨0, Nat.two_pow_pos _, Nat.zero_and S, by rw [cnt_0]; exact Nat.zero_le _, fun m _ h => (by rw [Nat.zero_testBit] at h; cases h), by rw [Nat.or_zero]; exact ihA S hS e⟩
    obtain ⟨set, g1, g2, g3, g4, g5⟩ := key _ (pC P) (Nat.le_refl _) S hS (Nat.le_refl _) (by omega)
    exact ⟨set, g1, ⟨g2, g3, by rw [hw]; exact g4⟩, g5⟩
/-! the least of them -/
def lsS (p : Nat → Bool) : Nat → Nat → Nat
  | 0, s => s
  | n + 1, s => if p s then s else lsS p n (s + 1)
theorem lsS_spec {p : Nat → Bool} : ∀ (n i : Nat), (∃ s, i ≤ s ∧ s < i + n ∧ p s = true) → p (lsS p n i) = true ∧ lsS p n i < i + n ∧ i ≤ lsS p n i ∧ ∀ t, i ≤ t → t < lsS p n i → p t = false
  | 0, i, ⟨s, h1, h2, _⟩ => by omega
  | n + 1, i, ⟨s, h1, h2, h3⟩ => by
    simp only [lsS]
    by_cases hp : p i = true
    · rw [if_pos hp]
      exact ⟨hp, by omega, Nat.le_refl _, fun t h1 h2 => absurd h2 (by omega)⟩
    · rw [if_neg hp]
      have hsi : s ≠ i := fun z => hp (by rw [← z]; exact h3)
      obtain ⟨a1, a2, a3, a4⟩ := lsS_spec n (i + 1) ⟨s, by omega, by omega, h3⟩
      refine ⟨a1, by omega, by omega, fun t h1 h2 => ?_⟩
      rcases Nat.lt_or_ge i t with e | e
      · exact a4 t (by omega) h2
      · rw [show t = i by omega]; simpa using hp
theorem lsS_uniq {p : Nat → Bool} {s : Nat} : ∀ (n i : Nat), i ≤ s → s < i + n → p s = true → (∀ t, i ≤ t → t < s → p t = false) → lsS p n i = s
  | 0, i, h1, h2, _, _ => by omega
  | n + 1, i, h1, h2, h3, h4 => by
    simp only [lsS]
    rcases Nat.lt_or_ge i s with e | e
    · rw [if_neg (by rw [h4 i (Nat.le_refl _) e]; decide)]
      exact lsS_uniq n (i + 1) (by omega) (by omega) h3 (fun t g1 g2 => h4 t (by omega) g2)
    · rw [show i = s by omega, if_pos h3]
noncomputable def cnB (P : PL) (W w done s : Nat) : Bool := @decide (mayP P s done w ∧ BW P W (W - (w + 1)) (done ||| s)) (Classical.propDecidable _)
theorem cnB_iff {P : PL} {W w done s : Nat} : cnB P W w done s = true ↔ mayP P s done w ∧ BW P W (W - (w + 1)) (done ||| s) := by
  unfold cnB
  exact @decide_eq_true_iff _ (Classical.propDecidable _)
noncomputable def lsW (P : PL) (W w done : Nat) : Nat := lsS (cnB P W w done) (2 ^ pN P) 0
noncomputable def pkS (P : PL) (W : Nat) : Nat → Nat
  | 0 => 0
  | w + 1 => pkS P W w ||| lsW P W w (pkS P W w)
noncomputable def asW (P : PL) (W : Nat) (z : Nat → Int32) : Nat → Nat → Int32
  | 0, m => z m
  | w + 1, m => if (lsW P W w (pkS P W w)).testBit m then nI w else asW P W z w m
theorem pk_ok {P : PL} {W : Nat} (h0 : BW P W W 0) : ∀ w, w ≤ W → pkS P W w < 2 ^ pN P ∧ BW P W (W - w) (pkS P W w)
  | 0, _ => ⟨Nat.two_pow_pos _, h0⟩
  | w + 1, hw => by
    obtain ⟨a1, a2⟩ := pk_ok h0 w (by omega)
    rw [show W - w = (W - (w + 1)) + 1 by omega] at a2
    obtain ⟨set, b1, b2, b3⟩ := a2
    rw [show W - (W - (w + 1) + 1) = w by omega] at b2
    obtain ⟨c1, c2, c3, c4⟩ := lsS_spec (p := cnB P W w (pkS P W w)) (2 ^ pN P) 0 ⟨set, Nat.zero_le _, by omega, cnB_iff.mpr ⟨b2, b3⟩⟩
    refine ⟨or_lt a1 (by unfold lsW; omega), ?_⟩
    exact (cnB_iff.mp c1).2
theorem ls_ok {P : PL} {W : Nat} (h0 : BW P W W 0) {w : Nat} (hw : w < W) : lsW P W w (pkS P W w) < 2 ^ pN P ∧ cnB P W w (pkS P W w) (lsW P W w (pkS P W w)) = true ∧ ∀ t, t < lsW P W w (pkS P W w) → cnB P W w (pkS P W w) t = false := by
  obtain ⟨a1, a2⟩ := pk_ok h0 w (by omega)
  rw [show W - w = (W - (w + 1)) + 1 by omega] at a2
  obtain ⟨set, b1, b2, b3⟩ := a2
  rw [show W - (W - (w + 1) + 1) = w by omega] at b2
  obtain ⟨c1, c2, c3, c4⟩ := lsS_spec (p := cnB P W w (pkS P W w)) (2 ^ pN P) 0 ⟨set, Nat.zero_le _, by omega, cnB_iff.mpr ⟨b2, b3⟩⟩
  exact ⟨by unfold lsW; omega, c1, fun t ht => c4 t (Nat.zero_le _) ht⟩
theorem as_ok {P : PL} {W m : Nat} : ∀ w, (pkS P W w).testBit m = true → ∃ v, v < w ∧ ∀ z, asW P W z w m = nI v
  | 0, h => by simp [pkS] at h
  | w + 1, h => by
    simp only [asW]
    by_cases hb : (lsW P W w (pkS P W w)).testBit m = true
    · exact ⟨w, by omega, fun z => by rw [if_pos hb]⟩
    · have h2 : (pkS P W w).testBit m = true := by
        simp only [pkS] at h
        rw [tb_or] at h
        simpa [hb] using h
      obtain ⟨v, v1, v2⟩ := as_ok w h2
      exact ⟨v, by omega, fun z => by rw [if_neg hb]; exact v2 z⟩
theorem pk_all {P : PL} {W : Nat} (h0 : BW P W W 0) {m : Nat} (hm : m < pN P) : (pkS P W W).testBit m = true := by
  have := (pk_ok h0 W (Nat.le_refl _)).2
  rw [Nat.sub_self] at this
  rw [show pkS P W W = allS P from this]
  unfold allS
  rw [Nat.testBit_two_pow_sub_one]
  simpa using hm
/-- the number of weeks: the first in which all can be NEW -/
theorem wk_iff {P : PL} (hp : plok P) {D : Nat → Nat} (hD : CHD P D) {w : Nat} (hw : w ≤ 52) : FW P w (allS P) ↔ D (allS P) ≤ w * pC P := ⟨FW_D hp hD w hw _ (all_lt P), D_FW hp hD w hw _ (all_lt P)⟩
/-- weeks forward and back are the same weeks -/
theorem FB {P : PL} {W : Nat} : ∀ k, k ≤ W → ∀ S, FW P (W - k) S → BW P W k S → BW P W W 0
  | k, hk, S, hf, hb => by
    induction h : W - k generalizing k S with
    | zero =>
      rw [h] at hf
      rw [show S = 0 from hf, show k = W by omega] at hb
      exact hb
    | succ w ih =>
      rw [h] at hf
      obtain ⟨S0, set, g1, g2, g3, g4, rfl⟩ := hf
      refine ih (k + 1) (by omega) S0 ?_ ?_ (by omega)
      · rw [show W - (k + 1) = w by omega]; exact g3
      · exact ⟨set, g2, by rw [show W - (k + 1) = w by omega]; exact g4, hb⟩
theorem B0 {P : PL} {W : Nat} (h : FW P W (allS P)) : BW P W W 0 := FB 0 (Nat.zero_le _) (allS P) h rfl
