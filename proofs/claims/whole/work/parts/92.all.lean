/-! every step, and the start -/
theorem all_steps (G : Gl) (I : IF) (L : LF) (b : Bool) (h : InvB I L b) : AllS InvB G I L b := by
  have hk : ∀ I2 L2, InvA I2 L2 → LSm I I2 → InvB I2 L2 b := fun I2 L2 i l => ⟨i, h.2.ls l⟩
  have hc : I 72 12 = I (lawA b) 8 := by
    obtain ⟨T, n, j, es, t1, t2, t3, t4, t5, t6⟩ := h.2
    rw [t6, t5.2.1]
  exact ⟨fun u0 u1 => Step.ofA (s_terms (d := 99) u0 u1 h.1) hk,
    fun u0 u1 u2 u3 u4 u5 hz => Step.ofA (s_mast (d := 97) u0 u1 u2 u3 u4 u5 hz h.1) hk,
    fun u0 u1 u2 u3 u4 => Step.ofA (s_abroad (d := 97) u0 u1 u2 u3 u4 h.1) hk,
    fun u0 u1 u2 u3 u4 => Step.ofA (s_area (d := 98) u0 u1 u2 u3 u4 h.1) hk,
    fun u0 => Step.ofA (s_poor (d := 98) u0 h.1) hk,
    fun u0 u1 => Step.ofA (s_aim (d := 98) u0 u1 h.1) hk,
    Step.ofA (s_turn (d := 98) h.1) hk,
    fun u0 u1 => Step.ofA (s_strength (d := 98) u0 u1 h.1) hk,
    fun u0 u1 => s_plan (d := 95) u0 u1 h.1 hk,
    fun u0 => Step.ofA (s_weekOf (d := 98) u0 h.1) hk,
    s_channels (d := 95) h.1 hk,
    fun u0 => Step.ofA (s_channelOf (d := 98) u0 h.1) hk,
    fun u0 u1 u2 u3 u4 => Step.ofA (s_feed (d := 98) u0 u1 u2 u3 u4 h.1) hk,
    fun u0 => Step.ofA (s_end (d := 99) u0 h.1) hk,
    s_law (d := 65) h,
    Step.ofA (s_fault (d := 100) h.1) hk,
    fun u0 => Step.ofA (s_deliver (d := 99) u0 h.1) hk,
    s_go (d := 65) h,
    fun u0 u1 hz => Step.ofA (s_fail (d := 98) u0 u1 hz h.1) hk,
    fun u0 => Step.ofA (s_on (d := 98) u0 h.1) hk,
    fun u0 => Step.ofA (s_picture (d := 95) u0 h.1) hk,
    fun u0 => Step.ofA (s_snow (d := 94) u0 h.1) hk,
    fun u0 => Step.ofA (s_hurt (d := 96) u0 h.1) hk,
    fun u0 => Step.ofA (s_blame (d := 99) u0 h.1) hk,
    fun u0 u1 => Step.ofA (s_mastOf (d := 98) u0 u1 h.1) hk,
    fun u0 u1 => Step.ofA (s_areaOf (d := 98) u0 u1 h.1) hk,
    fun u0 => Step.ofA (s_count (d := 93) u0 h.1 hc) hk,
    fun u0 u1 u2 => Step.ofA (s_row (d := 98) u0 u1 u2 h.1) hk,
    fun u0 => Step.ofA (s_tear (d := 98) u0 h.1) hk,
    fun u0 u1 u2 => Step.ofA (s_write (d := 98) u0 u1 u2 h.1) hk,
    fun u0 u1 u2 u3 u4 => Step.ofA (s_paste (d := 98) u0 u1 u2 u3 u4 h.1) hk⟩
theorem inv_start : InvB w01.1 (fun _ _ => 0) false := by
  refine ⟨w01_inv, fun _ => 0, 0, 0, [], by omega, by decide +kernel, fun k hk => absurd hk (by omega), ?_, ⟨by decide +kernel, by decide +kernel, by decide +kernel, fun g x hx => by cases hx⟩, by decide +kernel⟩
  unfold prT
  rw [if_pos (KK_g (Nat.not_lt_zero _))]
