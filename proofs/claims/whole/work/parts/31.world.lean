/-! the world at the loop's start -/
theorem w01_L : w01.2.1 = fun _ _ => 0 := rfl
section ir2
theorem w01_Z : Zr 102 w01 := by
  unfold w01 x11W
  (repeat (first | (with_reducible refine Zr_sI ?_ (by decide)) | (with_reducible refine Zr_sR ?_ (by decide))))
  exact Zr.mono Zr_1 (by decide)
end ir2
theorem w01_R1 : ∀ a, a < 102 → ∀ k, k < 60 → w01.2.2 a k = RR false a k := by decide +kernel
def Kr (w : mW) : Prop := ∀ a k, 60 ≤ k → w.2.2 a k = none
theorem Kr_sI {a k : Nat} {v : Int32} {w : mW} (h : Kr w) : Kr (sI w a k v) := h
theorem Kr_sR {a k : Nat} {v : Option Nat} {w : mW} (h : Kr w) (hk : k < 60) : Kr (sR w a k v) := fun a' k' hk' => by
  have := h a' k' hk'
  simp only [sR]
  rw [if_neg (show ¬ k' = k by omega), ite_self]
  exact this
theorem Kr_wM {w : mW} (h : Kr w) : ∀ m, m ≤ 14 → Kr (wM w m)
  | 0, _ => Kr_sI (Kr_sI (Kr_sR (Kr_sR h (by decide)) (by decide)))
  | m + 1, hm => Kr_sR (Kr_sI (Kr_sI (Kr_sI (Kr_wM h m (by omega))))) (by omega)
theorem Kr_wA {w : mW} (h : Kr w) : ∀ m, m ≤ 16 → Kr (wA w m)
  | 0, _ => Kr_wM h 14 (by omega)
  | m + 1, hm => Kr_sR (Kr_sI (Kr_wA h m (by omega))) (by omega)
theorem Kr_0 : Kr w00 := fun _ _ _ => rfl
section ir3
theorem Kr_1 : Kr w01 := by
  unfold w01 x11W x10W iLb iR3 iR2 iR1 iR0 iRd iTa iTu iPl
  (repeat (first | (with_reducible refine Kr_sI ?_) | (with_reducible refine Kr_sR ?_ (by decide))))
  exact Kr_wA Kr_0 16 (by decide)
end ir3
theorem lAt_hi {α : Type} : ∀ (l : List α) (k : Nat), l.length ≤ k → lAt l k = none
  | [], _, _ => rfl
  | _ :: l, k + 1, h => lAt_hi l k (by simpa using h)
theorem rr1_hi : ∀ (T : List (Nat × List (Option Nat))) (a k : Nat), (∀ e, e ∈ T → e.2.length ≤ k) → rr1 T a k = none
  | [], _, _, _ => rfl
  | e :: T, a, k, h => by
    have h1 := rr1_hi T a k (fun e he => h e (List.mem_cons_of_mem _ he))
    simp only [rr1]
    rw [lAt_hi _ _ (h e List.mem_cons_self), h1]
    cases Nat.beq e.1 a <;> rfl
theorem rr1_ha : ∀ (T : List (Nat × List (Option Nat))) (a k : Nat), (∀ e, e ∈ T → e.1 < a) → rr1 T a k = none
  | [], _, _, _ => rfl
  | e :: T, a, k, h => by
    have h1 := rr1_ha T a k (fun e he => h e (List.mem_cons_of_mem _ he))
    have h2 := h e List.mem_cons_self
    simp only [rr1]
    have : Nat.beq e.1 a = false := by
      cases hb : Nat.beq e.1 a
      · rfl
      · have := Nat.eq_of_beq_eq_true hb; omega
    rw [this]
    exact h1
theorem RR_hi (a k : Nat) (hk : 60 ≤ k) : RR false a k = none := by
  have h := rr1_hi (rrT false) a k (fun e he => Nat.le_trans ((by decide : ∀ e ∈ rrT false, e.2.length ≤ 60) e he) hk)
  unfold RR
  rw [h, if_neg (by omega), if_neg (by omega), if_neg (by omega)]
  cases Nat.beq a 2 <;> cases Nat.beq a 3 <;> cases Nat.beq a 56 <;> rfl
theorem beq_n {a b : Nat} (h : a ≠ b) : Nat.beq a b = false := by
  cases hb : Nat.beq a b
  · rfl
  · exact absurd (Nat.eq_of_beq_eq_true hb) h
theorem RR_ha (a k : Nat) (ha : 102 ≤ a) : RR false a k = none := by
  have h := rr1_ha (rrT false) a k (fun e he => Nat.lt_of_lt_of_le ((by decide : ∀ e ∈ rrT false, e.1 < 102) e he) ha)
  unfold RR
  rw [h, beq_n (by omega), beq_n (by omega), beq_n (by omega)]
theorem w01_R : w01.2.2 = RR false := by
  funext a k
  by_cases hk : k < 60
  · by_cases ha : a < 102
    · exact w01_R1 a ha k hk
    · rw [RR_ha a k (by omega), (w01_Z a (by omega)).2.2]
  · rw [RR_hi a k (by omega), Kr_1 a k (by omega)]
theorem w01_e : w01 = (w01.1, fun _ _ => 0, RR false) := by rw [← w01_R, ← w01_L]
theorem w01_inv : InvA w01.1 (fun _ _ => 0) := by
  refine ⟨0, 0, 0, ?_, ?_, ?_, ?_, ?_, ?_, ?_, ?_, ?_, ?_, ?_⟩
  · unfold IVc; decide +kernel
  · unfold IVs; decide +kernel
  · unfold IVm; decide +kernel
  · unfold IVk; decide +kernel
  · exact fun m hm => absurd hm (by omega)
  · unfold IVu; decide +kernel
  · unfold IVp; decide +kernel
  · unfold IVa; decide +kernel
  · unfold IVl; decide +kernel
  · exact ⟨⟨0, by decide, by decide +kernel, by decide +kernel⟩, by decide +kernel⟩
  · intro s hs
    refine ⟨fun _ _ => rfl, ?_⟩
    revert s
    decide +kernel
