/-! steps, as the law's loop takes them -/
theorem MT.mono {G : Gl} {d : Nat} {Y : mY} {As : List Value} {n : Nat} {w : mW} {mc ms : Nat} {Q Q2 : Option Value → mW → Prop} (h : MT G d Y As n w mc ms Q) (hQ : ∀ r w2, Q r w2 → Q2 r w2) : MT G d Y As n w mc ms Q2 := by
  intro p e ha hc hk s m args below hf happ hP hK
  obtain ⟨k, o, h1, h2, h3, ⟨r, w', e1, e2, e3, e4⟩, hL⟩ := h p e ha hc hk s m args below hf happ hP hK
  exact ⟨k, o, h1, h2, h3, ⟨r, w', e1, hQ r w' e2, e3, e4⟩, hL⟩
/-- one call on both sides: the same answer, and the invariant again -/
def Step (Inv : IF → LF → Bool → Prop) (G : Gl) (d : Nat) (Yc Ym : mY) (As : List Value) (I : IF) (L : LF) (b : Bool) : Prop := MQ2 G d Yc (.ref 0 :: As) (I, L, RR b) (fun r w1 => ∃ (v : Int32) (I1 : IF) (L1 : LF) (b1 : Bool), r = some (.int v) ∧ w1 = (I1, L1, RR b1) ∧ MQ2 G d Ym (.ref 72 :: As) w1 (fun r2 w2 => ∃ (I2 : IF) (L2 : LF), r2 = some (.int v) ∧ w2 = (I2, L2, RR b1) ∧ Inv I2 L2 b1))
theorem Step.ofA {Inv : IF → LF → Bool → Prop} {G : Gl} {d : Nat} {Yc Ym : mY} {As : List Value} {I : IF} {L : LF} {b : Bool} (h : StepA G d Yc Ym As I L b) (hI : ∀ I2 L2, InvA I2 L2 → LSm I I2 → Inv I2 L2 b) : Step Inv G d Yc Ym As I L b := by
  obtain ⟨r, I1, L1, I2, L2, c1, c2, i2, l2⟩ := h
  refine c1.mono (fun r' w1 h1 => ?_)
  obtain ⟨rfl, rfl⟩ := h1
  refine ⟨r, I1, L1, b, rfl, rfl, c2.mono (fun r2 w2 h2 => ?_)⟩
  obtain ⟨rfl, rfl⟩ := h2
  exact ⟨I2, L2, rfl, rfl, hI I2 L2 i2 l2⟩
section SQ
variable {G : Gl} {Y Y' : mY} {Q Q' : Option Value → mW → Prop} {k d na i pc : Nat} {lv : List (Nat × Value)} {st As rest : List Value} {w : mW}
/-- a call whose end is told by what holds of it -/
theorem cVr {a : Nat} (hd : nx Y k = some (pc, .invokevirtual i, 3)) (hl : Cond.methodLink (RN Y.1) i Y'.2.1 ∈ goodL) (hi : iOK Y') (hm : mOK Y' na) (hs : shp NN a = some (.inr Y'.1)) (hc12 : Y'.1 < 12) (hM : MQ2 G d Y' (.ref a :: As) w Q') (hst : pops na st [] = some (As, .ref a :: rest)) (hcat : (rest.map (fun v => v.category)).sum ≤ 8) (kk : ∀ r w', Q' r w' → WQ G (d + 1) Y Q (k + 1) lv (r.toList ++ rest) w') : WQ G (d + 1) Y Q k lv st w :=
  cVq hd hl hi hm hs hc12 hM hst hcat kk
end SQ
