/-! the constructors of both sides, and the world that they leave -/
def iPl (w : mW) : mW := sI (sR (sR (sR (sR (w) 34 0 (some 35)) 34 1 (some 36)) 34 2 (some 37)) 34 3 (some 38)) 34 4 1
def iTu (w : mW) : mW := sR (sR (sR (sR (w) 39 0 (some 40)) 39 1 (some 41)) 39 2 (some 42)) 39 3 (some 43)
def iTa (w : mW) : mW := sR (w) 44 0 (some 45)
def iRd (w : mW) : mW := sR (sI (sR (sR (sR (sR (sR (sR (sR (sR (w) 47 0 (some 48)) 47 1 (some 49)) 46 0 (some 47)) 50 0 (some 51)) 50 1 (some 52)) 50 2 (some 53)) 50 3 (some 54)) 50 4 (some 55)) 50 9 10000000) 46 1 (some 50)
def iLb (w : mW) : mW := sI (sR (sR (sR (sR (sR (w) 66 0 (some 67)) 66 1 (some 68)) 66 2 (some 69)) 66 3 (some 70)) 66 4 (some 71)) 66 9 10000000
def iR0 (w : mW) : mW := sI (sR (w) 57 0 (some 58)) 57 2 (-1)
def iR1 (w : mW) : mW := sI (sR (w) 59 0 (some 60)) 59 2 (-1)
def iR2 (w : mW) : mW := sI (sR (w) 61 0 (some 62)) 61 2 (-1)
def iR3 (w : mW) : mW := sI (sR (w) 63 0 (some 64)) 63 2 (-1)
theorem Zr_iPl {n : Nat} {w : mW} (h : Zr n w) (hn : 34 < n) : Zr n (iPl w) := by
  unfold iPl
  (repeat (first | (refine Zr_sI ?_ (by omega)) | (refine Zr_sR ?_ (by omega))))
  exact h
theorem Zr_iTu {n : Nat} {w : mW} (h : Zr n w) (hn : 39 < n) : Zr n (iTu w) := by
  unfold iTu
  (repeat (first | (refine Zr_sI ?_ (by omega)) | (refine Zr_sR ?_ (by omega))))
  exact h
theorem Zr_iTa {n : Nat} {w : mW} (h : Zr n w) (hn : 44 < n) : Zr n (iTa w) := by
  unfold iTa
  (repeat (first | (refine Zr_sI ?_ (by omega)) | (refine Zr_sR ?_ (by omega))))
  exact h
theorem Zr_iRd {n : Nat} {w : mW} (h : Zr n w) (hn : 50 < n) : Zr n (iRd w) := by
  unfold iRd
  (repeat (first | (refine Zr_sI ?_ (by omega)) | (refine Zr_sR ?_ (by omega))))
  exact h
theorem Zr_iLb {n : Nat} {w : mW} (h : Zr n w) (hn : 66 < n) : Zr n (iLb w) := by
  unfold iLb
  (repeat (first | (refine Zr_sI ?_ (by omega)) | (refine Zr_sR ?_ (by omega))))
  exact h
theorem Zr_iR0 {n : Nat} {w : mW} (h : Zr n w) (hn : 57 < n) : Zr n (iR0 w) := by
  unfold iR0
  (repeat (first | (refine Zr_sI ?_ (by omega)) | (refine Zr_sR ?_ (by omega))))
  exact h
theorem Zr_iR1 {n : Nat} {w : mW} (h : Zr n w) (hn : 59 < n) : Zr n (iR1 w) := by
  unfold iR1
  (repeat (first | (refine Zr_sI ?_ (by omega)) | (refine Zr_sR ?_ (by omega))))
  exact h
theorem Zr_iR2 {n : Nat} {w : mW} (h : Zr n w) (hn : 61 < n) : Zr n (iR2 w) := by
  unfold iR2
  (repeat (first | (refine Zr_sI ?_ (by omega)) | (refine Zr_sR ?_ (by omega))))
  exact h
theorem Zr_iR3 {n : Nat} {w : mW} (h : Zr n w) (hn : 63 < n) : Zr n (iR3 w) := by
  unfold iR3
  (repeat (first | (refine Zr_sI ?_ (by omega)) | (refine Zr_sR ?_ (by omega))))
  exact h
theorem z_X5 (G : Gl) (d : Nat) (w : mW) (hZ : Zr 35 w) : MC G d Y_X5_init 34 35 w 4 2153 (iPl w) := k_X5 G d w hZ
theorem z_X9 (G : Gl) (d : Nat) (w : mW) (hZ : Zr 40 w) : MC G d Y_X9_init 39 40 w 4 40 (iTu w) := k_X9 G d w hZ
theorem z_X7 (G : Gl) (d : Nat) (w : mW) (hZ : Zr 45 w) : MC G d Y_X7_init 44 45 w 1 300 (iTa w) := k_X7 G d w hZ
theorem z_X3 (G : Gl) (d : Nat) (w : mW) (hZ : Zr 47 w) : MC G (d + 1) Y_X3_init 46 47 w 9 965 (iRd w) := k_X3 G d w hZ
theorem z_X2b (G : Gl) (d : Nat) (w : mW) (hZ : Zr 67 w) : MC G d Y_X2_init 66 67 w 5 350 (iLb w) := k_X2b G d w hZ
theorem z_X6_0 (G : Gl) (d : Nat) (w : mW) (hZ : Zr 58 w) : MC G d Y_X6_init 57 58 w 1 60 (iR0 w) := k_X6_0 G d w hZ
theorem z_X6_1 (G : Gl) (d : Nat) (w : mW) (hZ : Zr 60 w) : MC G d Y_X6_init 59 60 w 1 60 (iR1 w) := k_X6_1 G d w hZ
theorem z_X6_2 (G : Gl) (d : Nat) (w : mW) (hZ : Zr 62 w) : MC G d Y_X6_init 61 62 w 1 60 (iR2 w) := k_X6_2 G d w hZ
theorem z_X6_3 (G : Gl) (d : Nat) (w : mW) (hZ : Zr 64 w) : MC G d Y_X6_init 63 64 w 1 60 (iR3 w) := k_X6_3 G d w hZ
theorem gR5 {w : mW} : (sR w 0 5 (some 56)).2.2 0 5 = some 56 := rfl
theorem gR_0 {w : mW} {k : Nat} {v : Option Nat} : (sR (iR0 w) 56 k v).2.2 0 5 = w.2.2 0 5 := rfl
theorem gR_1 {w : mW} {k : Nat} {v : Option Nat} : (sR (iR1 w) 56 k v).2.2 0 5 = w.2.2 0 5 := rfl
theorem gR_2 {w : mW} {k : Nat} {v : Option Nat} : (sR (iR2 w) 56 k v).2.2 0 5 = w.2.2 0 5 := rfl
theorem gR_3 {w : mW} {k : Nat} {v : Option Nat} : (sR (iR3 w) 56 k v).2.2 0 5 = w.2.2 0 5 := rfl
section ir
def x10W (w : mW) : mW := sI (sI (sI (sI (sR (iLb (sR (sR (iR3 (sR (iR2 (sR (iR1 (sR (iR0 (sR (sR (iRd (sR (iTa (sR (iTu (sR (iPl (sR (wA w 16) 0 0 (some 1))) 0 1 (some 34))) 0 2 (some 39))) 0 3 (some 44))) 0 4 (some 46)) 0 5 (some 56))) 56 0 (some 57))) 56 1 (some 59))) 56 2 (some 61))) 56 3 (some 63)) 0 6 (some 65))) 0 7 (some 66)) 0 8 (-1)) 0 9 0) 0 10 (-1)) 0 11 0
theorem k_X10 (G : Gl) (d : Nat) (w : mW) (hZ : Zr 1 w) : MC G (d + 2) Y_X10_init 0 1 w 71 4414 (x10W w) := by
  refine MT.intro m_X10_init rfl (Nat.le_of_ble_eq_true rfl) ?_
  show WC G (d + 2) Y_X10_init 1 71 4414 _ (1, 0, 0) 0 [(0, .ref 0)] [] w
  refine wp_aload_n rfl rfl ?_
  refine wp_obj rfl lo_10 (by decide) ⟨by show 1 ≤ _ + 1; omega, by show 20 ≤ 60 * _ + 60; omega⟩ ?_
  refine wp_aload_n rfl rfl ?_
  refine p_new (ci := 1) (N' := (2, 1, 8)) rfl kl_10_9 in_1 ini_1 (by decide) rfl (show Zr 1 _ from hZ.mono (by decide)) ⟨Nat.le_of_ble_eq_true rfl, Nat.le_of_ble_eq_true rfl⟩ rfl ?_
  refine wp_dup rfl rfl ?_
  refine p_cI (N' := (34, 33, 320)) rfl (Or.inl l_10_11) n_X1_init m_X1_init (k_X1 G _ _ (show Zr 2 _ from hZ.mono (by decide))) rfl (by decide) (hRc (Nat.le_of_ble_eq_true rfl) (Nat.le_of_ble_eq_true rfl)) rfl ?_
  refine wp_putr rfl rfl rfl (Or.inr ⟨rfl, rfl, rfl⟩) rfl ?_
  refine wp_aload_n rfl rfl ?_
  refine p_new (ci := 5) (N' := (35, 34, 325)) rfl kl_10_16 in_5 ini_5 (by decide) rfl (show Zr 34 _ by (repeat (first | (with_reducible refine Zr_sI ?_ (by decide)) | (with_reducible refine Zr_sR ?_ (by decide)) | (with_reducible refine Zr_iPl ?_ (by decide)) | (with_reducible refine Zr_iTu ?_ (by decide)) | (with_reducible refine Zr_iTa ?_ (by decide)) | (with_reducible refine Zr_iRd ?_ (by decide)) | (with_reducible refine Zr_iLb ?_ (by decide)) | (with_reducible refine Zr_iR0 ?_ (by decide)) | (with_reducible refine Zr_iR1 ?_ (by decide)) | (with_reducible refine Zr_iR2 ?_ (by decide)) | (with_reducible refine Zr_iR3 ?_ (by decide)))); first | with_reducible exact Zr.mono hZ (by decide) | with_reducible exact Zr.mono (wA_Z (Zr.mono hZ (by decide)) 16) (by decide)) ⟨Nat.le_of_ble_eq_true rfl, Nat.le_of_ble_eq_true rfl⟩ rfl ?_
  refine wp_dup rfl rfl ?_
  refine p_cI (N' := (39, 38, 2478)) rfl (Or.inr ln_10_18) n_X5_init m_X5_init ((show MC G _ _ _ _ _ _ _ (iPl _) from z_X5 G _ _ (show Zr 35 _ by (repeat (first | (with_reducible refine Zr_sI ?_ (by decide)) | (with_reducible refine Zr_sR ?_ (by decide)) | (with_reducible refine Zr_iPl ?_ (by decide)) | (with_reducible refine Zr_iTu ?_ (by decide)) | (with_reducible refine Zr_iTa ?_ (by decide)) | (with_reducible refine Zr_iRd ?_ (by decide)) | (with_reducible refine Zr_iLb ?_ (by decide)) | (with_reducible refine Zr_iR0 ?_ (by decide)) | (with_reducible refine Zr_iR1 ?_ (by decide)) | (with_reducible refine Zr_iR2 ?_ (by decide)) | (with_reducible refine Zr_iR3 ?_ (by decide)))); first | with_reducible exact Zr.mono hZ (by decide) | with_reducible exact Zr.mono (wA_Z (Zr.mono hZ (by decide)) 16) (by decide)))) rfl (by decide) (hRc (Nat.le_of_ble_eq_true rfl) (Nat.le_of_ble_eq_true rfl)) rfl ?_
  refine wp_putr rfl rfl rfl (Or.inr ⟨rfl, rfl, rfl⟩) rfl ?_
  refine wp_aload_n rfl rfl ?_
  refine p_new (ci := 9) (N' := (40, 39, 2483)) rfl kl_10_23 in_9 ini_9 (by decide) rfl (show Zr 39 _ by (repeat (first | (with_reducible refine Zr_sI ?_ (by decide)) | (with_reducible refine Zr_sR ?_ (by decide)) | (with_reducible refine Zr_iPl ?_ (by decide)) | (with_reducible refine Zr_iTu ?_ (by decide)) | (with_reducible refine Zr_iTa ?_ (by decide)) | (with_reducible refine Zr_iRd ?_ (by decide)) | (with_reducible refine Zr_iLb ?_ (by decide)) | (with_reducible refine Zr_iR0 ?_ (by decide)) | (with_reducible refine Zr_iR1 ?_ (by decide)) | (with_reducible refine Zr_iR2 ?_ (by decide)) | (with_reducible refine Zr_iR3 ?_ (by decide)))); first | with_reducible exact Zr.mono hZ (by decide) | with_reducible exact Zr.mono (wA_Z (Zr.mono hZ (by decide)) 16) (by decide)) ⟨Nat.le_of_ble_eq_true rfl, Nat.le_of_ble_eq_true rfl⟩ rfl ?_
  refine wp_dup rfl rfl ?_
  refine p_cI (N' := (44, 43, 2523)) rfl (Or.inr ln_10_25) n_X9_init m_X9_init ((show MC G _ _ _ _ _ _ _ (iTu _) from z_X9 G _ _ (show Zr 40 _ by (repeat (first | (with_reducible refine Zr_sI ?_ (by decide)) | (with_reducible refine Zr_sR ?_ (by decide)) | (with_reducible refine Zr_iPl ?_ (by decide)) | (with_reducible refine Zr_iTu ?_ (by decide)) | (with_reducible refine Zr_iTa ?_ (by decide)) | (with_reducible refine Zr_iRd ?_ (by decide)) | (with_reducible refine Zr_iLb ?_ (by decide)) | (with_reducible refine Zr_iR0 ?_ (by decide)) | (with_reducible refine Zr_iR1 ?_ (by decide)) | (with_reducible refine Zr_iR2 ?_ (by decide)) | (with_reducible refine Zr_iR3 ?_ (by decide)))); first | with_reducible exact Zr.mono hZ (by decide) | with_reducible exact Zr.mono (wA_Z (Zr.mono hZ (by decide)) 16) (by decide)))) rfl (by decide) (hRc (Nat.le_of_ble_eq_true rfl) (Nat.le_of_ble_eq_true rfl)) rfl ?_
  refine wp_putr rfl rfl rfl (Or.inr ⟨rfl, rfl, rfl⟩) rfl ?_
  refine wp_aload_n rfl rfl ?_
  refine p_new (ci := 7) (N' := (45, 44, 2525)) rfl kl_10_30 in_7 ini_7 (by decide) rfl (show Zr 44 _ by (repeat (first | (with_reducible refine Zr_sI ?_ (by decide)) | (with_reducible refine Zr_sR ?_ (by decide)) | (with_reducible refine Zr_iPl ?_ (by decide)) | (with_reducible refine Zr_iTu ?_ (by decide)) | (with_reducible refine Zr_iTa ?_ (by decide)) | (with_reducible refine Zr_iRd ?_ (by decide)) | (with_reducible refine Zr_iLb ?_ (by decide)) | (with_reducible refine Zr_iR0 ?_ (by decide)) | (with_reducible refine Zr_iR1 ?_ (by decide)) | (with_reducible refine Zr_iR2 ?_ (by decide)) | (with_reducible refine Zr_iR3 ?_ (by decide)))); first | with_reducible exact Zr.mono hZ (by decide) | with_reducible exact Zr.mono (wA_Z (Zr.mono hZ (by decide)) 16) (by decide)) ⟨Nat.le_of_ble_eq_true rfl, Nat.le_of_ble_eq_true rfl⟩ rfl ?_
  refine wp_dup rfl rfl ?_
  refine p_cI (N' := (46, 45, 2825)) rfl (Or.inr ln_10_32) n_X7_init m_X7_init ((show MC G _ _ _ _ _ _ _ (iTa _) from z_X7 G _ _ (show Zr 45 _ by (repeat (first | (with_reducible refine Zr_sI ?_ (by decide)) | (with_reducible refine Zr_sR ?_ (by decide)) | (with_reducible refine Zr_iPl ?_ (by decide)) | (with_reducible refine Zr_iTu ?_ (by decide)) | (with_reducible refine Zr_iTa ?_ (by decide)) | (with_reducible refine Zr_iRd ?_ (by decide)) | (with_reducible refine Zr_iLb ?_ (by decide)) | (with_reducible refine Zr_iR0 ?_ (by decide)) | (with_reducible refine Zr_iR1 ?_ (by decide)) | (with_reducible refine Zr_iR2 ?_ (by decide)) | (with_reducible refine Zr_iR3 ?_ (by decide)))); first | with_reducible exact Zr.mono hZ (by decide) | with_reducible exact Zr.mono (wA_Z (Zr.mono hZ (by decide)) 16) (by decide)))) rfl (by decide) (hRc (Nat.le_of_ble_eq_true rfl) (Nat.le_of_ble_eq_true rfl)) rfl ?_
  refine wp_putr rfl rfl rfl (Or.inr ⟨rfl, rfl, rfl⟩) rfl ?_
  refine wp_aload_n rfl rfl ?_
  refine p_new (ci := 3) (N' := (47, 46, 2827)) rfl kl_10_37 in_3 ini_3 (by decide) rfl (show Zr 46 _ by (repeat (first | (with_reducible refine Zr_sI ?_ (by decide)) | (with_reducible refine Zr_sR ?_ (by decide)) | (with_reducible refine Zr_iPl ?_ (by decide)) | (with_reducible refine Zr_iTu ?_ (by decide)) | (with_reducible refine Zr_iTa ?_ (by decide)) | (with_reducible refine Zr_iRd ?_ (by decide)) | (with_reducible refine Zr_iLb ?_ (by decide)) | (with_reducible refine Zr_iR0 ?_ (by decide)) | (with_reducible refine Zr_iR1 ?_ (by decide)) | (with_reducible refine Zr_iR2 ?_ (by decide)) | (with_reducible refine Zr_iR3 ?_ (by decide)))); first | with_reducible exact Zr.mono hZ (by decide) | with_reducible exact Zr.mono (wA_Z (Zr.mono hZ (by decide)) 16) (by decide)) ⟨Nat.le_of_ble_eq_true rfl, Nat.le_of_ble_eq_true rfl⟩ rfl ?_
  refine wp_dup rfl rfl ?_
  refine p_cI (N' := (56, 55, 3792)) rfl (Or.inr ln_10_39) n_X3_init m_X3_init ((show MC G _ _ _ _ _ _ _ (iRd _) from z_X3 G _ _ (show Zr 47 _ by (repeat (first | (with_reducible refine Zr_sI ?_ (by decide)) | (with_reducible refine Zr_sR ?_ (by decide)) | (with_reducible refine Zr_iPl ?_ (by decide)) | (with_reducible refine Zr_iTu ?_ (by decide)) | (with_reducible refine Zr_iTa ?_ (by decide)) | (with_reducible refine Zr_iRd ?_ (by decide)) | (with_reducible refine Zr_iLb ?_ (by decide)) | (with_reducible refine Zr_iR0 ?_ (by decide)) | (with_reducible refine Zr_iR1 ?_ (by decide)) | (with_reducible refine Zr_iR2 ?_ (by decide)) | (with_reducible refine Zr_iR3 ?_ (by decide)))); first | with_reducible exact Zr.mono hZ (by decide) | with_reducible exact Zr.mono (wA_Z (Zr.mono hZ (by decide)) 16) (by decide)))) rfl (by decide) (hRc (Nat.le_of_ble_eq_true rfl) (Nat.le_of_ble_eq_true rfl)) rfl ?_
  refine wp_putr rfl rfl rfl (Or.inr ⟨rfl, rfl, rfl⟩) rfl ?_
  refine wp_aload_n rfl rfl ?_
  refine wp_iconst (v := 4) rfl rfl ?_
  refine p_newq (t := 6) (len := 4) (ci := 6) (N' := (57, 56, 3796)) rfl kl_10_44 (by decide) (by decide) rfl (by decide) rfl (show Zr 56 _ by (repeat (first | (with_reducible refine Zr_sI ?_ (by decide)) | (with_reducible refine Zr_sR ?_ (by decide)) | (with_reducible refine Zr_iPl ?_ (by decide)) | (with_reducible refine Zr_iTu ?_ (by decide)) | (with_reducible refine Zr_iTa ?_ (by decide)) | (with_reducible refine Zr_iRd ?_ (by decide)) | (with_reducible refine Zr_iLb ?_ (by decide)) | (with_reducible refine Zr_iR0 ?_ (by decide)) | (with_reducible refine Zr_iR1 ?_ (by decide)) | (with_reducible refine Zr_iR2 ?_ (by decide)) | (with_reducible refine Zr_iR3 ?_ (by decide)))); first | with_reducible exact Zr.mono hZ (by decide) | with_reducible exact Zr.mono (wA_Z (Zr.mono hZ (by decide)) 16) (by decide)) ⟨Nat.le_of_ble_eq_true rfl, Nat.le_of_ble_eq_true rfl⟩ rfl ?_
  refine wp_putr rfl rfl rfl (Or.inr ⟨rfl, rfl, rfl⟩) rfl ?_
  refine wp_iconst (v := 0) rfl rfl ?_
  refine wp_istore_n (lv' := [(1, _), (0, _)]) rfl rfl (by decide) rfl ?_
  refine wp_loc (lv' := [(0, _), (1, _)]) [1, 0] rfl ?_
  refine wp_iload_n rfl rfl ?_
  refine wp_aload_n rfl rfl ?_
  refine wp_getr (b := 56) rfl rfl rfl rfl gR5 ?_
  refine wp_alen (v := 4) rfl (t := 6) (len := 4) rfl (by decide) rfl ?_
  refine wp_icmp_ge 47 rfl rfl (fun h => absurd h (by decide)) (fun _ => ?_)
  refine wp_aload_n rfl rfl ?_
  refine wp_getr (b := 56) rfl rfl rfl rfl gR5 ?_
  refine wp_iload_n rfl rfl ?_
  refine p_new (ci := 6) (N' := (58, 57, 3799)) rfl kl_10_44 in_6 ini_6 (by decide) rfl (show Zr 57 _ by (repeat (first | (with_reducible refine Zr_sI ?_ (by decide)) | (with_reducible refine Zr_sR ?_ (by decide)) | (with_reducible refine Zr_iPl ?_ (by decide)) | (with_reducible refine Zr_iTu ?_ (by decide)) | (with_reducible refine Zr_iTa ?_ (by decide)) | (with_reducible refine Zr_iRd ?_ (by decide)) | (with_reducible refine Zr_iLb ?_ (by decide)) | (with_reducible refine Zr_iR0 ?_ (by decide)) | (with_reducible refine Zr_iR1 ?_ (by decide)) | (with_reducible refine Zr_iR2 ?_ (by decide)) | (with_reducible refine Zr_iR3 ?_ (by decide)))); first | with_reducible exact Zr.mono hZ (by decide) | with_reducible exact Zr.mono (wA_Z (Zr.mono hZ (by decide)) 16) (by decide)) ⟨Nat.le_of_ble_eq_true rfl, Nat.le_of_ble_eq_true rfl⟩ rfl ?_
  refine wp_dup rfl rfl ?_
  refine p_cI (N' := (59, 58, 3859)) rfl (Or.inr ln_10_50) n_X6_init m_X6_init ((show MC G _ _ _ _ _ _ _ (iR0 _) from z_X6_0 G _ _ (show Zr 58 _ by (repeat (first | (with_reducible refine Zr_sI ?_ (by decide)) | (with_reducible refine Zr_sR ?_ (by decide)) | (with_reducible refine Zr_iPl ?_ (by decide)) | (with_reducible refine Zr_iTu ?_ (by decide)) | (with_reducible refine Zr_iTa ?_ (by decide)) | (with_reducible refine Zr_iRd ?_ (by decide)) | (with_reducible refine Zr_iLb ?_ (by decide)) | (with_reducible refine Zr_iR0 ?_ (by decide)) | (with_reducible refine Zr_iR1 ?_ (by decide)) | (with_reducible refine Zr_iR2 ?_ (by decide)) | (with_reducible refine Zr_iR3 ?_ (by decide)))); first | with_reducible exact Zr.mono hZ (by decide) | with_reducible exact Zr.mono (wA_Z (Zr.mono hZ (by decide)) 16) (by decide)))) rfl (by decide) (hRc (Nat.le_of_ble_eq_true rfl) (Nat.le_of_ble_eq_true rfl)) rfl ?_
  refine wp_aast (t := 6) (len := 4) (ci := 6) rfl rfl (by decide) rfl (vp_in_nI (n := 0) (by decide) (by decide)) ?_
  refine wp_iinc (v := 1) (lv' := [(1, _), (0, _)]) rfl rfl rfl (by decide) rfl ?_
  refine wp_goto 33 rfl rfl ?_
  refine wp_loc (lv' := [(0, _), (1, _)]) [1, 0] rfl ?_
  refine wp_iload_n rfl rfl ?_
  refine wp_aload_n rfl rfl ?_
  refine wp_getr (b := 56) rfl rfl rfl rfl (gR_0.trans gR5) ?_
  refine wp_alen (v := 4) rfl (t := 6) (len := 4) rfl (by decide) rfl ?_
  refine wp_icmp_ge 47 rfl rfl (fun h => absurd h (by decide)) (fun _ => ?_)
  refine wp_aload_n rfl rfl ?_
  refine wp_getr (b := 56) rfl rfl rfl rfl (gR_0.trans gR5) ?_
  refine wp_iload_n rfl rfl ?_
  refine p_new (ci := 6) (N' := (60, 59, 3862)) rfl kl_10_44 in_6 ini_6 (by decide) rfl (show Zr 59 _ by (repeat (first | (with_reducible refine Zr_sI ?_ (by decide)) | (with_reducible refine Zr_sR ?_ (by decide)) | (with_reducible refine Zr_iPl ?_ (by decide)) | (with_reducible refine Zr_iTu ?_ (by decide)) | (with_reducible refine Zr_iTa ?_ (by decide)) | (with_reducible refine Zr_iRd ?_ (by decide)) | (with_reducible refine Zr_iLb ?_ (by decide)) | (with_reducible refine Zr_iR0 ?_ (by decide)) | (with_reducible refine Zr_iR1 ?_ (by decide)) | (with_reducible refine Zr_iR2 ?_ (by decide)) | (with_reducible refine Zr_iR3 ?_ (by decide)))); first | with_reducible exact Zr.mono hZ (by decide) | with_reducible exact Zr.mono (wA_Z (Zr.mono hZ (by decide)) 16) (by decide)) ⟨Nat.le_of_ble_eq_true rfl, Nat.le_of_ble_eq_true rfl⟩ rfl ?_
  refine wp_dup rfl rfl ?_
  refine p_cI (N' := (61, 60, 3922)) rfl (Or.inr ln_10_50) n_X6_init m_X6_init ((show MC G _ _ _ _ _ _ _ (iR1 _) from z_X6_1 G _ _ (show Zr 60 _ by (repeat (first | (with_reducible refine Zr_sI ?_ (by decide)) | (with_reducible refine Zr_sR ?_ (by decide)) | (with_reducible refine Zr_iPl ?_ (by decide)) | (with_reducible refine Zr_iTu ?_ (by decide)) | (with_reducible refine Zr_iTa ?_ (by decide)) | (with_reducible refine Zr_iRd ?_ (by decide)) | (with_reducible refine Zr_iLb ?_ (by decide)) | (with_reducible refine Zr_iR0 ?_ (by decide)) | (with_reducible refine Zr_iR1 ?_ (by decide)) | (with_reducible refine Zr_iR2 ?_ (by decide)) | (with_reducible refine Zr_iR3 ?_ (by decide)))); first | with_reducible exact Zr.mono hZ (by decide) | with_reducible exact Zr.mono (wA_Z (Zr.mono hZ (by decide)) 16) (by decide)))) rfl (by decide) (hRc (Nat.le_of_ble_eq_true rfl) (Nat.le_of_ble_eq_true rfl)) rfl ?_
  refine wp_aast (t := 6) (len := 4) (ci := 6) rfl rfl (by decide) rfl (vp_in_nI (n := 1) (by decide) (by decide)) ?_
  refine wp_iinc (v := 2) (lv' := [(1, _), (0, _)]) rfl rfl rfl (by decide) rfl ?_
  refine wp_goto 33 rfl rfl ?_
  refine wp_loc (lv' := [(0, _), (1, _)]) [1, 0] rfl ?_
  refine wp_iload_n rfl rfl ?_
  refine wp_aload_n rfl rfl ?_
  refine wp_getr (b := 56) rfl rfl rfl rfl (gR_1.trans (gR_0.trans gR5)) ?_
  refine wp_alen (v := 4) rfl (t := 6) (len := 4) rfl (by decide) rfl ?_
  refine wp_icmp_ge 47 rfl rfl (fun h => absurd h (by decide)) (fun _ => ?_)
  refine wp_aload_n rfl rfl ?_
  refine wp_getr (b := 56) rfl rfl rfl rfl (gR_1.trans (gR_0.trans gR5)) ?_
  refine wp_iload_n rfl rfl ?_
  refine p_new (ci := 6) (N' := (62, 61, 3925)) rfl kl_10_44 in_6 ini_6 (by decide) rfl (show Zr 61 _ by (repeat (first | (with_reducible refine Zr_sI ?_ (by decide)) | (with_reducible refine Zr_sR ?_ (by decide)) | (with_reducible refine Zr_iPl ?_ (by decide)) | (with_reducible refine Zr_iTu ?_ (by decide)) | (with_reducible refine Zr_iTa ?_ (by decide)) | (with_reducible refine Zr_iRd ?_ (by decide)) | (with_reducible refine Zr_iLb ?_ (by decide)) | (with_reducible refine Zr_iR0 ?_ (by decide)) | (with_reducible refine Zr_iR1 ?_ (by decide)) | (with_reducible refine Zr_iR2 ?_ (by decide)) | (with_reducible refine Zr_iR3 ?_ (by decide)))); first | with_reducible exact Zr.mono hZ (by decide) | with_reducible exact Zr.mono (wA_Z (Zr.mono hZ (by decide)) 16) (by decide)) ⟨Nat.le_of_ble_eq_true rfl, Nat.le_of_ble_eq_true rfl⟩ rfl ?_
  refine wp_dup rfl rfl ?_
  refine p_cI (N' := (63, 62, 3985)) rfl (Or.inr ln_10_50) n_X6_init m_X6_init ((show MC G _ _ _ _ _ _ _ (iR2 _) from z_X6_2 G _ _ (show Zr 62 _ by (repeat (first | (with_reducible refine Zr_sI ?_ (by decide)) | (with_reducible refine Zr_sR ?_ (by decide)) | (with_reducible refine Zr_iPl ?_ (by decide)) | (with_reducible refine Zr_iTu ?_ (by decide)) | (with_reducible refine Zr_iTa ?_ (by decide)) | (with_reducible refine Zr_iRd ?_ (by decide)) | (with_reducible refine Zr_iLb ?_ (by decide)) | (with_reducible refine Zr_iR0 ?_ (by decide)) | (with_reducible refine Zr_iR1 ?_ (by decide)) | (with_reducible refine Zr_iR2 ?_ (by decide)) | (with_reducible refine Zr_iR3 ?_ (by decide)))); first | with_reducible exact Zr.mono hZ (by decide) | with_reducible exact Zr.mono (wA_Z (Zr.mono hZ (by decide)) 16) (by decide)))) rfl (by decide) (hRc (Nat.le_of_ble_eq_true rfl) (Nat.le_of_ble_eq_true rfl)) rfl ?_
  refine wp_aast (t := 6) (len := 4) (ci := 6) rfl rfl (by decide) rfl (vp_in_nI (n := 2) (by decide) (by decide)) ?_
  refine wp_iinc (v := 3) (lv' := [(1, _), (0, _)]) rfl rfl rfl (by decide) rfl ?_
  refine wp_goto 33 rfl rfl ?_
  refine wp_loc (lv' := [(0, _), (1, _)]) [1, 0] rfl ?_
  refine wp_iload_n rfl rfl ?_
  refine wp_aload_n rfl rfl ?_
  refine wp_getr (b := 56) rfl rfl rfl rfl (gR_2.trans (gR_1.trans (gR_0.trans gR5))) ?_
  refine wp_alen (v := 4) rfl (t := 6) (len := 4) rfl (by decide) rfl ?_
  refine wp_icmp_ge 47 rfl rfl (fun h => absurd h (by decide)) (fun _ => ?_)
  refine wp_aload_n rfl rfl ?_
  refine wp_getr (b := 56) rfl rfl rfl rfl (gR_2.trans (gR_1.trans (gR_0.trans gR5))) ?_
  refine wp_iload_n rfl rfl ?_
  refine p_new (ci := 6) (N' := (64, 63, 3988)) rfl kl_10_44 in_6 ini_6 (by decide) rfl (show Zr 63 _ by (repeat (first | (with_reducible refine Zr_sI ?_ (by decide)) | (with_reducible refine Zr_sR ?_ (by decide)) | (with_reducible refine Zr_iPl ?_ (by decide)) | (with_reducible refine Zr_iTu ?_ (by decide)) | (with_reducible refine Zr_iTa ?_ (by decide)) | (with_reducible refine Zr_iRd ?_ (by decide)) | (with_reducible refine Zr_iLb ?_ (by decide)) | (with_reducible refine Zr_iR0 ?_ (by decide)) | (with_reducible refine Zr_iR1 ?_ (by decide)) | (with_reducible refine Zr_iR2 ?_ (by decide)) | (with_reducible refine Zr_iR3 ?_ (by decide)))); first | with_reducible exact Zr.mono hZ (by decide) | with_reducible exact Zr.mono (wA_Z (Zr.mono hZ (by decide)) 16) (by decide)) ⟨Nat.le_of_ble_eq_true rfl, Nat.le_of_ble_eq_true rfl⟩ rfl ?_
  refine wp_dup rfl rfl ?_
  refine p_cI (N' := (65, 64, 4048)) rfl (Or.inr ln_10_50) n_X6_init m_X6_init ((show MC G _ _ _ _ _ _ _ (iR3 _) from z_X6_3 G _ _ (show Zr 64 _ by (repeat (first | (with_reducible refine Zr_sI ?_ (by decide)) | (with_reducible refine Zr_sR ?_ (by decide)) | (with_reducible refine Zr_iPl ?_ (by decide)) | (with_reducible refine Zr_iTu ?_ (by decide)) | (with_reducible refine Zr_iTa ?_ (by decide)) | (with_reducible refine Zr_iRd ?_ (by decide)) | (with_reducible refine Zr_iLb ?_ (by decide)) | (with_reducible refine Zr_iR0 ?_ (by decide)) | (with_reducible refine Zr_iR1 ?_ (by decide)) | (with_reducible refine Zr_iR2 ?_ (by decide)) | (with_reducible refine Zr_iR3 ?_ (by decide)))); first | with_reducible exact Zr.mono hZ (by decide) | with_reducible exact Zr.mono (wA_Z (Zr.mono hZ (by decide)) 16) (by decide)))) rfl (by decide) (hRc (Nat.le_of_ble_eq_true rfl) (Nat.le_of_ble_eq_true rfl)) rfl ?_
  refine wp_aast (t := 6) (len := 4) (ci := 6) rfl rfl (by decide) rfl (vp_in_nI (n := 3) (by decide) (by decide)) ?_
  refine wp_iinc (v := 4) (lv' := [(1, _), (0, _)]) rfl rfl rfl (by decide) rfl ?_
  refine wp_goto 33 rfl rfl ?_
  refine wp_loc (lv' := [(0, _), (1, _)]) [1, 0] rfl ?_
  refine wp_iload_n rfl rfl ?_
  refine wp_aload_n rfl rfl ?_
  refine wp_getr (b := 56) rfl rfl rfl rfl (gR_3.trans (gR_2.trans (gR_1.trans (gR_0.trans gR5)))) ?_
  refine wp_alen (v := 4) rfl (t := 6) (len := 4) rfl (by decide) rfl ?_
  refine wp_icmp_ge 47 rfl rfl (fun _ => ?_) (fun h => absurd (by decide) h)
  refine wp_aload_n rfl rfl ?_
  refine wp_bipush (v := 6) rfl rfl ?_
  refine p_newa (t := 0) (len := 6) (N' := (66, 65, 4054)) rfl rfl ac_int (by decide) (by decide) rfl (by decide) rfl (show Zr 65 _ by (repeat (first | (with_reducible refine Zr_sI ?_ (by decide)) | (with_reducible refine Zr_sR ?_ (by decide)) | (with_reducible refine Zr_iPl ?_ (by decide)) | (with_reducible refine Zr_iTu ?_ (by decide)) | (with_reducible refine Zr_iTa ?_ (by decide)) | (with_reducible refine Zr_iRd ?_ (by decide)) | (with_reducible refine Zr_iLb ?_ (by decide)) | (with_reducible refine Zr_iR0 ?_ (by decide)) | (with_reducible refine Zr_iR1 ?_ (by decide)) | (with_reducible refine Zr_iR2 ?_ (by decide)) | (with_reducible refine Zr_iR3 ?_ (by decide)))); first | with_reducible exact Zr.mono hZ (by decide) | with_reducible exact Zr.mono (wA_Z (Zr.mono hZ (by decide)) 16) (by decide)) ⟨Nat.le_of_ble_eq_true rfl, Nat.le_of_ble_eq_true rfl⟩ rfl ?_
  refine wp_putr rfl rfl rfl (Or.inr ⟨rfl, rfl, rfl⟩) rfl ?_
  refine wp_aload_n rfl rfl ?_
  refine p_new (ci := 2) (N' := (67, 66, 4064)) rfl kl_10_51 in_2 ini_2 (by decide) rfl (show Zr 66 _ by (repeat (first | (with_reducible refine Zr_sI ?_ (by decide)) | (with_reducible refine Zr_sR ?_ (by decide)) | (with_reducible refine Zr_iPl ?_ (by decide)) | (with_reducible refine Zr_iTu ?_ (by decide)) | (with_reducible refine Zr_iTa ?_ (by decide)) | (with_reducible refine Zr_iRd ?_ (by decide)) | (with_reducible refine Zr_iLb ?_ (by decide)) | (with_reducible refine Zr_iR0 ?_ (by decide)) | (with_reducible refine Zr_iR1 ?_ (by decide)) | (with_reducible refine Zr_iR2 ?_ (by decide)) | (with_reducible refine Zr_iR3 ?_ (by decide)))); first | with_reducible exact Zr.mono hZ (by decide) | with_reducible exact Zr.mono (wA_Z (Zr.mono hZ (by decide)) 16) (by decide)) ⟨Nat.le_of_ble_eq_true rfl, Nat.le_of_ble_eq_true rfl⟩ rfl ?_
  refine wp_dup rfl rfl ?_
  refine p_cI (N' := (72, 71, 4414)) rfl (Or.inr ln_10_57) n_X2_init m_X2_init ((show MC G _ _ _ _ _ _ _ (iLb _) from z_X2b G _ _ (show Zr 67 _ by (repeat (first | (with_reducible refine Zr_sI ?_ (by decide)) | (with_reducible refine Zr_sR ?_ (by decide)) | (with_reducible refine Zr_iPl ?_ (by decide)) | (with_reducible refine Zr_iTu ?_ (by decide)) | (with_reducible refine Zr_iTa ?_ (by decide)) | (with_reducible refine Zr_iRd ?_ (by decide)) | (with_reducible refine Zr_iLb ?_ (by decide)) | (with_reducible refine Zr_iR0 ?_ (by decide)) | (with_reducible refine Zr_iR1 ?_ (by decide)) | (with_reducible refine Zr_iR2 ?_ (by decide)) | (with_reducible refine Zr_iR3 ?_ (by decide)))); first | with_reducible exact Zr.mono hZ (by decide) | with_reducible exact Zr.mono (wA_Z (Zr.mono hZ (by decide)) 16) (by decide)))) rfl (by decide) (hRc (Nat.le_of_ble_eq_true rfl) (Nat.le_of_ble_eq_true rfl)) rfl ?_
  refine wp_putr rfl rfl rfl (Or.inl rfl) rfl ?_
  refine wp_aload_n rfl rfl ?_
  refine wp_iconst (v := (-1)) rfl rfl ?_
  refine wp_puti rfl rfl rfl (Or.inl rfl) rfl ?_
  refine wp_aload_n rfl rfl ?_
  refine wp_iconst (v := 0) rfl rfl ?_
  refine wp_puti rfl rfl rfl (Or.inl rfl) rfl ?_
  refine wp_aload_n rfl rfl ?_
  refine wp_iconst (v := (-1)) rfl rfl ?_
  refine wp_puti rfl rfl rfl (Or.inl rfl) rfl ?_
  refine wp_aload_n rfl rfl ?_
  refine wp_iconst (v := 0) rfl rfl ?_
  refine wp_putz rfl rfl rfl (Or.inl rfl) rfl (by decide) ?_
  exact wp_vret rfl rfl ⟨rfl, rfl⟩
def x11W (w : mW) : mW := sR (sR (sR (sR (sR (sI (sR (sR (sR (sI (sR (sR (sR (sR (sR (sR (sR (sR (sR (sR (sR (sR (sR (sR (sR (sR (sR (sI (sI (sR (sR (sR (sR (sI (sI (sI (sI (w) 73 0 (-1)) 73 1 (-1)) 73 2 (-1)) 73 3 (-1)) 72 1 (some 73)) 72 2 (some 74)) 72 3 (some 75)) 72 4 (some 76)) 72 9 (1000)) 72 10 (10)) 72 13 (some 77)) 72 14 (some 78)) 72 15 (some 79)) 72 16 (some 80)) 72 17 (some 81)) 72 18 (some 82)) 72 19 (some 83)) 72 20 (some 84)) 72 21 (some 85)) 72 22 (some 86)) 72 23 (some 87)) 72 24 (some 88)) 72 25 (some 89)) 72 26 (some 90)) 72 27 (some 91)) 72 28 (some 92)) 72 29 (some 93)) 72 30 (-1)) 72 33 (some 94)) 72 34 (some 95)) 72 35 (some 96)) 72 37 (-1)) 72 38 (some 97)) 72 39 (some 98)) 72 40 (some 99)) 72 41 (some 100)) 72 54 (some 101)
theorem k_X11 (G : Gl) (d : Nat) (w : mW) (hZ : Zr 73 w) : MC G d Y_X11_init 72 73 w 29 55932 (x11W w) := by
  refine MT.intro m_X11_init rfl (Nat.le_of_ble_eq_true rfl) ?_
  show WC G d Y_X11_init 73 29 55932 _ (73, 0, 0) 0 [(0, .ref 72)] [] w
  refine wp_aload_n rfl rfl ?_
  refine wp_obj rfl lo_11 (by decide) ⟨by show 1 ≤ _ + 1; omega, by show 20 ≤ 60 * _ + 60; omega⟩ ?_
  refine wp_aload_n rfl rfl ?_
  refine wp_iconst (v := 4) rfl rfl ?_
  refine p_newa (t := 0) (len := 4) (N' := (74, 1, 4)) rfl rfl ac_int (by decide) (by decide) rfl (by decide) rfl (show Zr 73 _ by (repeat (first | (with_reducible refine Zr_sI ?_ (by decide)) | (with_reducible refine Zr_sR ?_ (by decide)) | (with_reducible refine Zr_iPl ?_ (by decide)) | (with_reducible refine Zr_iTu ?_ (by decide)) | (with_reducible refine Zr_iTa ?_ (by decide)) | (with_reducible refine Zr_iRd ?_ (by decide)) | (with_reducible refine Zr_iLb ?_ (by decide)) | (with_reducible refine Zr_iR0 ?_ (by decide)) | (with_reducible refine Zr_iR1 ?_ (by decide)) | (with_reducible refine Zr_iR2 ?_ (by decide)) | (with_reducible refine Zr_iR3 ?_ (by decide)))); first | with_reducible exact Zr.mono hZ (by decide) | with_reducible exact Zr.mono (wA_Z (Zr.mono hZ (by decide)) 16) (by decide)) ⟨Nat.le_of_ble_eq_true rfl, Nat.le_of_ble_eq_true rfl⟩ rfl ?_
  refine wp_dup rfl rfl ?_
  refine wp_iconst (v := 0) rfl rfl ?_
  refine wp_iconst (v := (-1)) rfl rfl ?_
  refine wp_iast rfl rfl (vp_in_nI (n := 0) (by decide) (by decide)) ?_
  refine wp_dup rfl rfl ?_
  refine wp_iconst (v := 1) rfl rfl ?_
  refine wp_iconst (v := (-1)) rfl rfl ?_
  refine wp_iast rfl rfl (vp_in_nI (n := 1) (by decide) (by decide)) ?_
  refine wp_dup rfl rfl ?_
  refine wp_iconst (v := 2) rfl rfl ?_
  refine wp_iconst (v := (-1)) rfl rfl ?_
  refine wp_iast rfl rfl (vp_in_nI (n := 2) (by decide) (by decide)) ?_
  refine wp_dup rfl rfl ?_
  refine wp_iconst (v := 3) rfl rfl ?_
  refine wp_iconst (v := (-1)) rfl rfl ?_
  refine wp_iast rfl rfl (vp_in_nI (n := 3) (by decide) (by decide)) ?_
  refine wp_putr rfl rfl rfl (Or.inr ⟨rfl, rfl, rfl⟩) rfl ?_
  refine wp_aload_n rfl rfl ?_
  refine wp_iconst (v := 4) rfl rfl ?_
  refine p_newa (t := 0) (len := 4) (N' := (75, 2, 8)) rfl rfl ac_int (by decide) (by decide) rfl (by decide) rfl (show Zr 74 _ by (repeat (first | (with_reducible refine Zr_sI ?_ (by decide)) | (with_reducible refine Zr_sR ?_ (by decide)) | (with_reducible refine Zr_iPl ?_ (by decide)) | (with_reducible refine Zr_iTu ?_ (by decide)) | (with_reducible refine Zr_iTa ?_ (by decide)) | (with_reducible refine Zr_iRd ?_ (by decide)) | (with_reducible refine Zr_iLb ?_ (by decide)) | (with_reducible refine Zr_iR0 ?_ (by decide)) | (with_reducible refine Zr_iR1 ?_ (by decide)) | (with_reducible refine Zr_iR2 ?_ (by decide)) | (with_reducible refine Zr_iR3 ?_ (by decide)))); first | with_reducible exact Zr.mono hZ (by decide) | with_reducible exact Zr.mono (wA_Z (Zr.mono hZ (by decide)) 16) (by decide)) ⟨Nat.le_of_ble_eq_true rfl, Nat.le_of_ble_eq_true rfl⟩ rfl ?_
  refine wp_putr rfl rfl rfl (Or.inr ⟨rfl, rfl, rfl⟩) rfl ?_
  refine wp_aload_n rfl rfl ?_
  refine wp_sipush (v := 240) rfl rfl ?_
  refine p_newa (t := 3) (len := 240) (N' := (76, 3, 248)) rfl rfl ac_long (by decide) (by decide) rfl (by decide) rfl (show Zr 75 _ by (repeat (first | (with_reducible refine Zr_sI ?_ (by decide)) | (with_reducible refine Zr_sR ?_ (by decide)) | (with_reducible refine Zr_iPl ?_ (by decide)) | (with_reducible refine Zr_iTu ?_ (by decide)) | (with_reducible refine Zr_iTa ?_ (by decide)) | (with_reducible refine Zr_iRd ?_ (by decide)) | (with_reducible refine Zr_iLb ?_ (by decide)) | (with_reducible refine Zr_iR0 ?_ (by decide)) | (with_reducible refine Zr_iR1 ?_ (by decide)) | (with_reducible refine Zr_iR2 ?_ (by decide)) | (with_reducible refine Zr_iR3 ?_ (by decide)))); first | with_reducible exact Zr.mono hZ (by decide) | with_reducible exact Zr.mono (wA_Z (Zr.mono hZ (by decide)) 16) (by decide)) ⟨Nat.le_of_ble_eq_true rfl, Nat.le_of_ble_eq_true rfl⟩ rfl ?_
  refine wp_putr rfl rfl rfl (Or.inr ⟨rfl, rfl, rfl⟩) rfl ?_
  refine wp_aload_n rfl rfl ?_
  refine wp_bipush (v := 60) rfl rfl ?_
  refine p_newa (t := 3) (len := 60) (N' := (77, 4, 308)) rfl rfl ac_long (by decide) (by decide) rfl (by decide) rfl (show Zr 76 _ by (repeat (first | (with_reducible refine Zr_sI ?_ (by decide)) | (with_reducible refine Zr_sR ?_ (by decide)) | (with_reducible refine Zr_iPl ?_ (by decide)) | (with_reducible refine Zr_iTu ?_ (by decide)) | (with_reducible refine Zr_iTa ?_ (by decide)) | (with_reducible refine Zr_iRd ?_ (by decide)) | (with_reducible refine Zr_iLb ?_ (by decide)) | (with_reducible refine Zr_iR0 ?_ (by decide)) | (with_reducible refine Zr_iR1 ?_ (by decide)) | (with_reducible refine Zr_iR2 ?_ (by decide)) | (with_reducible refine Zr_iR3 ?_ (by decide)))); first | with_reducible exact Zr.mono hZ (by decide) | with_reducible exact Zr.mono (wA_Z (Zr.mono hZ (by decide)) 16) (by decide)) ⟨Nat.le_of_ble_eq_true rfl, Nat.le_of_ble_eq_true rfl⟩ rfl ?_
  refine wp_putr rfl rfl rfl (Or.inr ⟨rfl, rfl, rfl⟩) rfl ?_
  refine wp_aload_n rfl rfl ?_
  refine wp_sipush (v := 1000) rfl rfl ?_
  refine wp_puti rfl rfl rfl (Or.inl rfl) rfl ?_
  refine wp_aload_n rfl rfl ?_
  refine wp_bipush (v := 10) rfl rfl ?_
  refine wp_puti rfl rfl rfl (Or.inl rfl) rfl ?_
  refine wp_aload_n rfl rfl ?_
  refine wp_bipush (v := 14) rfl rfl ?_
  refine p_newa (t := 0) (len := 14) (N' := (78, 5, 322)) rfl rfl ac_int (by decide) (by decide) rfl (by decide) rfl (show Zr 77 _ by (repeat (first | (with_reducible refine Zr_sI ?_ (by decide)) | (with_reducible refine Zr_sR ?_ (by decide)) | (with_reducible refine Zr_iPl ?_ (by decide)) | (with_reducible refine Zr_iTu ?_ (by decide)) | (with_reducible refine Zr_iTa ?_ (by decide)) | (with_reducible refine Zr_iRd ?_ (by decide)) | (with_reducible refine Zr_iLb ?_ (by decide)) | (with_reducible refine Zr_iR0 ?_ (by decide)) | (with_reducible refine Zr_iR1 ?_ (by decide)) | (with_reducible refine Zr_iR2 ?_ (by decide)) | (with_reducible refine Zr_iR3 ?_ (by decide)))); first | with_reducible exact Zr.mono hZ (by decide) | with_reducible exact Zr.mono (wA_Z (Zr.mono hZ (by decide)) 16) (by decide)) ⟨Nat.le_of_ble_eq_true rfl, Nat.le_of_ble_eq_true rfl⟩ rfl ?_
  refine wp_putr rfl rfl rfl (Or.inr ⟨rfl, rfl, rfl⟩) rfl ?_
  refine wp_aload_n rfl rfl ?_
  refine wp_bipush (v := 14) rfl rfl ?_
  refine p_newa (t := 0) (len := 14) (N' := (79, 6, 336)) rfl rfl ac_int (by decide) (by decide) rfl (by decide) rfl (show Zr 78 _ by (repeat (first | (with_reducible refine Zr_sI ?_ (by decide)) | (with_reducible refine Zr_sR ?_ (by decide)) | (with_reducible refine Zr_iPl ?_ (by decide)) | (with_reducible refine Zr_iTu ?_ (by decide)) | (with_reducible refine Zr_iTa ?_ (by decide)) | (with_reducible refine Zr_iRd ?_ (by decide)) | (with_reducible refine Zr_iLb ?_ (by decide)) | (with_reducible refine Zr_iR0 ?_ (by decide)) | (with_reducible refine Zr_iR1 ?_ (by decide)) | (with_reducible refine Zr_iR2 ?_ (by decide)) | (with_reducible refine Zr_iR3 ?_ (by decide)))); first | with_reducible exact Zr.mono hZ (by decide) | with_reducible exact Zr.mono (wA_Z (Zr.mono hZ (by decide)) 16) (by decide)) ⟨Nat.le_of_ble_eq_true rfl, Nat.le_of_ble_eq_true rfl⟩ rfl ?_
  refine wp_putr rfl rfl rfl (Or.inr ⟨rfl, rfl, rfl⟩) rfl ?_
  refine wp_aload_n rfl rfl ?_
  refine wp_bipush (v := 14) rfl rfl ?_
  refine p_newa (t := 0) (len := 14) (N' := (80, 7, 350)) rfl rfl ac_int (by decide) (by decide) rfl (by decide) rfl (show Zr 79 _ by (repeat (first | (with_reducible refine Zr_sI ?_ (by decide)) | (with_reducible refine Zr_sR ?_ (by decide)) | (with_reducible refine Zr_iPl ?_ (by decide)) | (with_reducible refine Zr_iTu ?_ (by decide)) | (with_reducible refine Zr_iTa ?_ (by decide)) | (with_reducible refine Zr_iRd ?_ (by decide)) | (with_reducible refine Zr_iLb ?_ (by decide)) | (with_reducible refine Zr_iR0 ?_ (by decide)) | (with_reducible refine Zr_iR1 ?_ (by decide)) | (with_reducible refine Zr_iR2 ?_ (by decide)) | (with_reducible refine Zr_iR3 ?_ (by decide)))); first | with_reducible exact Zr.mono hZ (by decide) | with_reducible exact Zr.mono (wA_Z (Zr.mono hZ (by decide)) 16) (by decide)) ⟨Nat.le_of_ble_eq_true rfl, Nat.le_of_ble_eq_true rfl⟩ rfl ?_
  refine wp_putr rfl rfl rfl (Or.inr ⟨rfl, rfl, rfl⟩) rfl ?_
  refine wp_aload_n rfl rfl ?_
  refine wp_bipush (v := 14) rfl rfl ?_
  refine p_newa (t := 0) (len := 14) (N' := (81, 8, 364)) rfl rfl ac_int (by decide) (by decide) rfl (by decide) rfl (show Zr 80 _ by (repeat (first | (with_reducible refine Zr_sI ?_ (by decide)) | (with_reducible refine Zr_sR ?_ (by decide)) | (with_reducible refine Zr_iPl ?_ (by decide)) | (with_reducible refine Zr_iTu ?_ (by decide)) | (with_reducible refine Zr_iTa ?_ (by decide)) | (with_reducible refine Zr_iRd ?_ (by decide)) | (with_reducible refine Zr_iLb ?_ (by decide)) | (with_reducible refine Zr_iR0 ?_ (by decide)) | (with_reducible refine Zr_iR1 ?_ (by decide)) | (with_reducible refine Zr_iR2 ?_ (by decide)) | (with_reducible refine Zr_iR3 ?_ (by decide)))); first | with_reducible exact Zr.mono hZ (by decide) | with_reducible exact Zr.mono (wA_Z (Zr.mono hZ (by decide)) 16) (by decide)) ⟨Nat.le_of_ble_eq_true rfl, Nat.le_of_ble_eq_true rfl⟩ rfl ?_
  refine wp_putr rfl rfl rfl (Or.inr ⟨rfl, rfl, rfl⟩) rfl ?_
  refine wp_aload_n rfl rfl ?_
  refine wp_bipush (v := 10) rfl rfl ?_
  refine p_newa (t := 0) (len := 10) (N' := (82, 9, 374)) rfl rfl ac_int (by decide) (by decide) rfl (by decide) rfl (show Zr 81 _ by (repeat (first | (with_reducible refine Zr_sI ?_ (by decide)) | (with_reducible refine Zr_sR ?_ (by decide)) | (with_reducible refine Zr_iPl ?_ (by decide)) | (with_reducible refine Zr_iTu ?_ (by decide)) | (with_reducible refine Zr_iTa ?_ (by decide)) | (with_reducible refine Zr_iRd ?_ (by decide)) | (with_reducible refine Zr_iLb ?_ (by decide)) | (with_reducible refine Zr_iR0 ?_ (by decide)) | (with_reducible refine Zr_iR1 ?_ (by decide)) | (with_reducible refine Zr_iR2 ?_ (by decide)) | (with_reducible refine Zr_iR3 ?_ (by decide)))); first | with_reducible exact Zr.mono hZ (by decide) | with_reducible exact Zr.mono (wA_Z (Zr.mono hZ (by decide)) 16) (by decide)) ⟨Nat.le_of_ble_eq_true rfl, Nat.le_of_ble_eq_true rfl⟩ rfl ?_
  refine wp_putr rfl rfl rfl (Or.inr ⟨rfl, rfl, rfl⟩) rfl ?_
  refine wp_aload_n rfl rfl ?_
  refine wp_iconst (v := 4) rfl rfl ?_
  refine p_newa (t := 0) (len := 4) (N' := (83, 10, 378)) rfl rfl ac_int (by decide) (by decide) rfl (by decide) rfl (show Zr 82 _ by (repeat (first | (with_reducible refine Zr_sI ?_ (by decide)) | (with_reducible refine Zr_sR ?_ (by decide)) | (with_reducible refine Zr_iPl ?_ (by decide)) | (with_reducible refine Zr_iTu ?_ (by decide)) | (with_reducible refine Zr_iTa ?_ (by decide)) | (with_reducible refine Zr_iRd ?_ (by decide)) | (with_reducible refine Zr_iLb ?_ (by decide)) | (with_reducible refine Zr_iR0 ?_ (by decide)) | (with_reducible refine Zr_iR1 ?_ (by decide)) | (with_reducible refine Zr_iR2 ?_ (by decide)) | (with_reducible refine Zr_iR3 ?_ (by decide)))); first | with_reducible exact Zr.mono hZ (by decide) | with_reducible exact Zr.mono (wA_Z (Zr.mono hZ (by decide)) 16) (by decide)) ⟨Nat.le_of_ble_eq_true rfl, Nat.le_of_ble_eq_true rfl⟩ rfl ?_
  refine wp_putr rfl rfl rfl (Or.inr ⟨rfl, rfl, rfl⟩) rfl ?_
  refine wp_aload_n rfl rfl ?_
  refine wp_bipush (v := 10) rfl rfl ?_
  refine p_newa (t := 2) (len := 10) (N' := (84, 11, 388)) rfl rfl ac_boolean (by decide) (by decide) rfl (by decide) rfl (show Zr 83 _ by (repeat (first | (with_reducible refine Zr_sI ?_ (by decide)) | (with_reducible refine Zr_sR ?_ (by decide)) | (with_reducible refine Zr_iPl ?_ (by decide)) | (with_reducible refine Zr_iTu ?_ (by decide)) | (with_reducible refine Zr_iTa ?_ (by decide)) | (with_reducible refine Zr_iRd ?_ (by decide)) | (with_reducible refine Zr_iLb ?_ (by decide)) | (with_reducible refine Zr_iR0 ?_ (by decide)) | (with_reducible refine Zr_iR1 ?_ (by decide)) | (with_reducible refine Zr_iR2 ?_ (by decide)) | (with_reducible refine Zr_iR3 ?_ (by decide)))); first | with_reducible exact Zr.mono hZ (by decide) | with_reducible exact Zr.mono (wA_Z (Zr.mono hZ (by decide)) 16) (by decide)) ⟨Nat.le_of_ble_eq_true rfl, Nat.le_of_ble_eq_true rfl⟩ rfl ?_
  refine wp_putr rfl rfl rfl (Or.inr ⟨rfl, rfl, rfl⟩) rfl ?_
  refine wp_aload_n rfl rfl ?_
  refine wp_bipush (v := 10) rfl rfl ?_
  refine p_newa (t := 2) (len := 10) (N' := (85, 12, 398)) rfl rfl ac_boolean (by decide) (by decide) rfl (by decide) rfl (show Zr 84 _ by (repeat (first | (with_reducible refine Zr_sI ?_ (by decide)) | (with_reducible refine Zr_sR ?_ (by decide)) | (with_reducible refine Zr_iPl ?_ (by decide)) | (with_reducible refine Zr_iTu ?_ (by decide)) | (with_reducible refine Zr_iTa ?_ (by decide)) | (with_reducible refine Zr_iRd ?_ (by decide)) | (with_reducible refine Zr_iLb ?_ (by decide)) | (with_reducible refine Zr_iR0 ?_ (by decide)) | (with_reducible refine Zr_iR1 ?_ (by decide)) | (with_reducible refine Zr_iR2 ?_ (by decide)) | (with_reducible refine Zr_iR3 ?_ (by decide)))); first | with_reducible exact Zr.mono hZ (by decide) | with_reducible exact Zr.mono (wA_Z (Zr.mono hZ (by decide)) 16) (by decide)) ⟨Nat.le_of_ble_eq_true rfl, Nat.le_of_ble_eq_true rfl⟩ rfl ?_
  refine wp_putr rfl rfl rfl (Or.inr ⟨rfl, rfl, rfl⟩) rfl ?_
  refine wp_aload_n rfl rfl ?_
  refine wp_bipush (v := 10) rfl rfl ?_
  refine p_newa (t := 2) (len := 10) (N' := (86, 13, 408)) rfl rfl ac_boolean (by decide) (by decide) rfl (by decide) rfl (show Zr 85 _ by (repeat (first | (with_reducible refine Zr_sI ?_ (by decide)) | (with_reducible refine Zr_sR ?_ (by decide)) | (with_reducible refine Zr_iPl ?_ (by decide)) | (with_reducible refine Zr_iTu ?_ (by decide)) | (with_reducible refine Zr_iTa ?_ (by decide)) | (with_reducible refine Zr_iRd ?_ (by decide)) | (with_reducible refine Zr_iLb ?_ (by decide)) | (with_reducible refine Zr_iR0 ?_ (by decide)) | (with_reducible refine Zr_iR1 ?_ (by decide)) | (with_reducible refine Zr_iR2 ?_ (by decide)) | (with_reducible refine Zr_iR3 ?_ (by decide)))); first | with_reducible exact Zr.mono hZ (by decide) | with_reducible exact Zr.mono (wA_Z (Zr.mono hZ (by decide)) 16) (by decide)) ⟨Nat.le_of_ble_eq_true rfl, Nat.le_of_ble_eq_true rfl⟩ rfl ?_
  refine wp_putr rfl rfl rfl (Or.inr ⟨rfl, rfl, rfl⟩) rfl ?_
  refine wp_aload_n rfl rfl ?_
  refine wp_bipush (v := 16) rfl rfl ?_
  refine p_newa (t := 0) (len := 16) (N' := (87, 14, 424)) rfl rfl ac_int (by decide) (by decide) rfl (by decide) rfl (show Zr 86 _ by (repeat (first | (with_reducible refine Zr_sI ?_ (by decide)) | (with_reducible refine Zr_sR ?_ (by decide)) | (with_reducible refine Zr_iPl ?_ (by decide)) | (with_reducible refine Zr_iTu ?_ (by decide)) | (with_reducible refine Zr_iTa ?_ (by decide)) | (with_reducible refine Zr_iRd ?_ (by decide)) | (with_reducible refine Zr_iLb ?_ (by decide)) | (with_reducible refine Zr_iR0 ?_ (by decide)) | (with_reducible refine Zr_iR1 ?_ (by decide)) | (with_reducible refine Zr_iR2 ?_ (by decide)) | (with_reducible refine Zr_iR3 ?_ (by decide)))); first | with_reducible exact Zr.mono hZ (by decide) | with_reducible exact Zr.mono (wA_Z (Zr.mono hZ (by decide)) 16) (by decide)) ⟨Nat.le_of_ble_eq_true rfl, Nat.le_of_ble_eq_true rfl⟩ rfl ?_
  refine wp_putr rfl rfl rfl (Or.inr ⟨rfl, rfl, rfl⟩) rfl ?_
  refine wp_aload_n rfl rfl ?_
  refine wp_bipush (v := 16) rfl rfl ?_
  refine p_newa (t := 0) (len := 16) (N' := (88, 15, 440)) rfl rfl ac_int (by decide) (by decide) rfl (by decide) rfl (show Zr 87 _ by (repeat (first | (with_reducible refine Zr_sI ?_ (by decide)) | (with_reducible refine Zr_sR ?_ (by decide)) | (with_reducible refine Zr_iPl ?_ (by decide)) | (with_reducible refine Zr_iTu ?_ (by decide)) | (with_reducible refine Zr_iTa ?_ (by decide)) | (with_reducible refine Zr_iRd ?_ (by decide)) | (with_reducible refine Zr_iLb ?_ (by decide)) | (with_reducible refine Zr_iR0 ?_ (by decide)) | (with_reducible refine Zr_iR1 ?_ (by decide)) | (with_reducible refine Zr_iR2 ?_ (by decide)) | (with_reducible refine Zr_iR3 ?_ (by decide)))); first | with_reducible exact Zr.mono hZ (by decide) | with_reducible exact Zr.mono (wA_Z (Zr.mono hZ (by decide)) 16) (by decide)) ⟨Nat.le_of_ble_eq_true rfl, Nat.le_of_ble_eq_true rfl⟩ rfl ?_
  refine wp_putr rfl rfl rfl (Or.inr ⟨rfl, rfl, rfl⟩) rfl ?_
  refine wp_aload_n rfl rfl ?_
  refine wp_bipush (v := 16) rfl rfl ?_
  refine p_newa (t := 0) (len := 16) (N' := (89, 16, 456)) rfl rfl ac_int (by decide) (by decide) rfl (by decide) rfl (show Zr 88 _ by (repeat (first | (with_reducible refine Zr_sI ?_ (by decide)) | (with_reducible refine Zr_sR ?_ (by decide)) | (with_reducible refine Zr_iPl ?_ (by decide)) | (with_reducible refine Zr_iTu ?_ (by decide)) | (with_reducible refine Zr_iTa ?_ (by decide)) | (with_reducible refine Zr_iRd ?_ (by decide)) | (with_reducible refine Zr_iLb ?_ (by decide)) | (with_reducible refine Zr_iR0 ?_ (by decide)) | (with_reducible refine Zr_iR1 ?_ (by decide)) | (with_reducible refine Zr_iR2 ?_ (by decide)) | (with_reducible refine Zr_iR3 ?_ (by decide)))); first | with_reducible exact Zr.mono hZ (by decide) | with_reducible exact Zr.mono (wA_Z (Zr.mono hZ (by decide)) 16) (by decide)) ⟨Nat.le_of_ble_eq_true rfl, Nat.le_of_ble_eq_true rfl⟩ rfl ?_
  refine wp_putr rfl rfl rfl (Or.inr ⟨rfl, rfl, rfl⟩) rfl ?_
  refine wp_aload_n rfl rfl ?_
  refine wp_bipush (v := 16) rfl rfl ?_
  refine p_newa (t := 0) (len := 16) (N' := (90, 17, 472)) rfl rfl ac_int (by decide) (by decide) rfl (by decide) rfl (show Zr 89 _ by (repeat (first | (with_reducible refine Zr_sI ?_ (by decide)) | (with_reducible refine Zr_sR ?_ (by decide)) | (with_reducible refine Zr_iPl ?_ (by decide)) | (with_reducible refine Zr_iTu ?_ (by decide)) | (with_reducible refine Zr_iTa ?_ (by decide)) | (with_reducible refine Zr_iRd ?_ (by decide)) | (with_reducible refine Zr_iLb ?_ (by decide)) | (with_reducible refine Zr_iR0 ?_ (by decide)) | (with_reducible refine Zr_iR1 ?_ (by decide)) | (with_reducible refine Zr_iR2 ?_ (by decide)) | (with_reducible refine Zr_iR3 ?_ (by decide)))); first | with_reducible exact Zr.mono hZ (by decide) | with_reducible exact Zr.mono (wA_Z (Zr.mono hZ (by decide)) 16) (by decide)) ⟨Nat.le_of_ble_eq_true rfl, Nat.le_of_ble_eq_true rfl⟩ rfl ?_
  refine wp_putr rfl rfl rfl (Or.inr ⟨rfl, rfl, rfl⟩) rfl ?_
  refine wp_aload_n rfl rfl ?_
  refine wp_bipush (v := 16) rfl rfl ?_
  refine p_newa (t := 0) (len := 16) (N' := (91, 18, 488)) rfl rfl ac_int (by decide) (by decide) rfl (by decide) rfl (show Zr 90 _ by (repeat (first | (with_reducible refine Zr_sI ?_ (by decide)) | (with_reducible refine Zr_sR ?_ (by decide)) | (with_reducible refine Zr_iPl ?_ (by decide)) | (with_reducible refine Zr_iTu ?_ (by decide)) | (with_reducible refine Zr_iTa ?_ (by decide)) | (with_reducible refine Zr_iRd ?_ (by decide)) | (with_reducible refine Zr_iLb ?_ (by decide)) | (with_reducible refine Zr_iR0 ?_ (by decide)) | (with_reducible refine Zr_iR1 ?_ (by decide)) | (with_reducible refine Zr_iR2 ?_ (by decide)) | (with_reducible refine Zr_iR3 ?_ (by decide)))); first | with_reducible exact Zr.mono hZ (by decide) | with_reducible exact Zr.mono (wA_Z (Zr.mono hZ (by decide)) 16) (by decide)) ⟨Nat.le_of_ble_eq_true rfl, Nat.le_of_ble_eq_true rfl⟩ rfl ?_
  refine wp_putr rfl rfl rfl (Or.inr ⟨rfl, rfl, rfl⟩) rfl ?_
  refine wp_aload_n rfl rfl ?_
  refine wp_bipush (v := 16) rfl rfl ?_
  refine p_newa (t := 0) (len := 16) (N' := (92, 19, 504)) rfl rfl ac_int (by decide) (by decide) rfl (by decide) rfl (show Zr 91 _ by (repeat (first | (with_reducible refine Zr_sI ?_ (by decide)) | (with_reducible refine Zr_sR ?_ (by decide)) | (with_reducible refine Zr_iPl ?_ (by decide)) | (with_reducible refine Zr_iTu ?_ (by decide)) | (with_reducible refine Zr_iTa ?_ (by decide)) | (with_reducible refine Zr_iRd ?_ (by decide)) | (with_reducible refine Zr_iLb ?_ (by decide)) | (with_reducible refine Zr_iR0 ?_ (by decide)) | (with_reducible refine Zr_iR1 ?_ (by decide)) | (with_reducible refine Zr_iR2 ?_ (by decide)) | (with_reducible refine Zr_iR3 ?_ (by decide)))); first | with_reducible exact Zr.mono hZ (by decide) | with_reducible exact Zr.mono (wA_Z (Zr.mono hZ (by decide)) 16) (by decide)) ⟨Nat.le_of_ble_eq_true rfl, Nat.le_of_ble_eq_true rfl⟩ rfl ?_
  refine wp_putr rfl rfl rfl (Or.inr ⟨rfl, rfl, rfl⟩) rfl ?_
  refine wp_aload_n rfl rfl ?_
  refine wp_bipush (v := 16) rfl rfl ?_
  refine p_newa (t := 0) (len := 16) (N' := (93, 20, 520)) rfl rfl ac_int (by decide) (by decide) rfl (by decide) rfl (show Zr 92 _ by (repeat (first | (with_reducible refine Zr_sI ?_ (by decide)) | (with_reducible refine Zr_sR ?_ (by decide)) | (with_reducible refine Zr_iPl ?_ (by decide)) | (with_reducible refine Zr_iTu ?_ (by decide)) | (with_reducible refine Zr_iTa ?_ (by decide)) | (with_reducible refine Zr_iRd ?_ (by decide)) | (with_reducible refine Zr_iLb ?_ (by decide)) | (with_reducible refine Zr_iR0 ?_ (by decide)) | (with_reducible refine Zr_iR1 ?_ (by decide)) | (with_reducible refine Zr_iR2 ?_ (by decide)) | (with_reducible refine Zr_iR3 ?_ (by decide)))); first | with_reducible exact Zr.mono hZ (by decide) | with_reducible exact Zr.mono (wA_Z (Zr.mono hZ (by decide)) 16) (by decide)) ⟨Nat.le_of_ble_eq_true rfl, Nat.le_of_ble_eq_true rfl⟩ rfl ?_
  refine wp_putr rfl rfl rfl (Or.inr ⟨rfl, rfl, rfl⟩) rfl ?_
  refine wp_aload_n rfl rfl ?_
  refine wp_bipush (v := 16) rfl rfl ?_
  refine p_newa (t := 0) (len := 16) (N' := (94, 21, 536)) rfl rfl ac_int (by decide) (by decide) rfl (by decide) rfl (show Zr 93 _ by (repeat (first | (with_reducible refine Zr_sI ?_ (by decide)) | (with_reducible refine Zr_sR ?_ (by decide)) | (with_reducible refine Zr_iPl ?_ (by decide)) | (with_reducible refine Zr_iTu ?_ (by decide)) | (with_reducible refine Zr_iTa ?_ (by decide)) | (with_reducible refine Zr_iRd ?_ (by decide)) | (with_reducible refine Zr_iLb ?_ (by decide)) | (with_reducible refine Zr_iR0 ?_ (by decide)) | (with_reducible refine Zr_iR1 ?_ (by decide)) | (with_reducible refine Zr_iR2 ?_ (by decide)) | (with_reducible refine Zr_iR3 ?_ (by decide)))); first | with_reducible exact Zr.mono hZ (by decide) | with_reducible exact Zr.mono (wA_Z (Zr.mono hZ (by decide)) 16) (by decide)) ⟨Nat.le_of_ble_eq_true rfl, Nat.le_of_ble_eq_true rfl⟩ rfl ?_
  refine wp_putr rfl rfl rfl (Or.inr ⟨rfl, rfl, rfl⟩) rfl ?_
  refine wp_aload_n rfl rfl ?_
  refine wp_iconst (v := (-1)) rfl rfl ?_
  refine wp_puti rfl rfl rfl (Or.inl rfl) rfl ?_
  refine wp_aload_n rfl rfl ?_
  refine wp_bipush (v := 10) rfl rfl ?_
  refine p_newa (t := 0) (len := 10) (N' := (95, 22, 546)) rfl rfl ac_int (by decide) (by decide) rfl (by decide) rfl (show Zr 94 _ by (repeat (first | (with_reducible refine Zr_sI ?_ (by decide)) | (with_reducible refine Zr_sR ?_ (by decide)) | (with_reducible refine Zr_iPl ?_ (by decide)) | (with_reducible refine Zr_iTu ?_ (by decide)) | (with_reducible refine Zr_iTa ?_ (by decide)) | (with_reducible refine Zr_iRd ?_ (by decide)) | (with_reducible refine Zr_iLb ?_ (by decide)) | (with_reducible refine Zr_iR0 ?_ (by decide)) | (with_reducible refine Zr_iR1 ?_ (by decide)) | (with_reducible refine Zr_iR2 ?_ (by decide)) | (with_reducible refine Zr_iR3 ?_ (by decide)))); first | with_reducible exact Zr.mono hZ (by decide) | with_reducible exact Zr.mono (wA_Z (Zr.mono hZ (by decide)) 16) (by decide)) ⟨Nat.le_of_ble_eq_true rfl, Nat.le_of_ble_eq_true rfl⟩ rfl ?_
  refine wp_putr rfl rfl rfl (Or.inr ⟨rfl, rfl, rfl⟩) rfl ?_
  refine wp_aload_n rfl rfl ?_
  refine wp_bipush (v := 10) rfl rfl ?_
  refine p_newa (t := 0) (len := 10) (N' := (96, 23, 556)) rfl rfl ac_int (by decide) (by decide) rfl (by decide) rfl (show Zr 95 _ by (repeat (first | (with_reducible refine Zr_sI ?_ (by decide)) | (with_reducible refine Zr_sR ?_ (by decide)) | (with_reducible refine Zr_iPl ?_ (by decide)) | (with_reducible refine Zr_iTu ?_ (by decide)) | (with_reducible refine Zr_iTa ?_ (by decide)) | (with_reducible refine Zr_iRd ?_ (by decide)) | (with_reducible refine Zr_iLb ?_ (by decide)) | (with_reducible refine Zr_iR0 ?_ (by decide)) | (with_reducible refine Zr_iR1 ?_ (by decide)) | (with_reducible refine Zr_iR2 ?_ (by decide)) | (with_reducible refine Zr_iR3 ?_ (by decide)))); first | with_reducible exact Zr.mono hZ (by decide) | with_reducible exact Zr.mono (wA_Z (Zr.mono hZ (by decide)) 16) (by decide)) ⟨Nat.le_of_ble_eq_true rfl, Nat.le_of_ble_eq_true rfl⟩ rfl ?_
  refine wp_putr rfl rfl rfl (Or.inr ⟨rfl, rfl, rfl⟩) rfl ?_
  refine wp_aload_n rfl rfl ?_
  refine wp_sipush (v := 300) rfl rfl ?_
  refine p_newa (t := 1) (len := 300) (N' := (97, 24, 856)) rfl rfl ac_byte (by decide) (by decide) rfl (by decide) rfl (show Zr 96 _ by (repeat (first | (with_reducible refine Zr_sI ?_ (by decide)) | (with_reducible refine Zr_sR ?_ (by decide)) | (with_reducible refine Zr_iPl ?_ (by decide)) | (with_reducible refine Zr_iTu ?_ (by decide)) | (with_reducible refine Zr_iTa ?_ (by decide)) | (with_reducible refine Zr_iRd ?_ (by decide)) | (with_reducible refine Zr_iLb ?_ (by decide)) | (with_reducible refine Zr_iR0 ?_ (by decide)) | (with_reducible refine Zr_iR1 ?_ (by decide)) | (with_reducible refine Zr_iR2 ?_ (by decide)) | (with_reducible refine Zr_iR3 ?_ (by decide)))); first | with_reducible exact Zr.mono hZ (by decide) | with_reducible exact Zr.mono (wA_Z (Zr.mono hZ (by decide)) 16) (by decide)) ⟨Nat.le_of_ble_eq_true rfl, Nat.le_of_ble_eq_true rfl⟩ rfl ?_
  refine wp_putr rfl rfl rfl (Or.inr ⟨rfl, rfl, rfl⟩) rfl ?_
  refine wp_aload_n rfl rfl ?_
  refine wp_iconst (v := (-1)) rfl rfl ?_
  refine wp_puti rfl rfl rfl (Or.inl rfl) rfl ?_
  refine wp_aload_n rfl rfl ?_
  refine wp_sipush (v := 600) rfl rfl ?_
  refine p_newa (t := 1) (len := 600) (N' := (98, 25, 1456)) rfl rfl ac_byte (by decide) (by decide) rfl (by decide) rfl (show Zr 97 _ by (repeat (first | (with_reducible refine Zr_sI ?_ (by decide)) | (with_reducible refine Zr_sR ?_ (by decide)) | (with_reducible refine Zr_iPl ?_ (by decide)) | (with_reducible refine Zr_iTu ?_ (by decide)) | (with_reducible refine Zr_iTa ?_ (by decide)) | (with_reducible refine Zr_iRd ?_ (by decide)) | (with_reducible refine Zr_iLb ?_ (by decide)) | (with_reducible refine Zr_iR0 ?_ (by decide)) | (with_reducible refine Zr_iR1 ?_ (by decide)) | (with_reducible refine Zr_iR2 ?_ (by decide)) | (with_reducible refine Zr_iR3 ?_ (by decide)))); first | with_reducible exact Zr.mono hZ (by decide) | with_reducible exact Zr.mono (wA_Z (Zr.mono hZ (by decide)) 16) (by decide)) ⟨Nat.le_of_ble_eq_true rfl, Nat.le_of_ble_eq_true rfl⟩ rfl ?_
  refine wp_putr rfl rfl rfl (Or.inr ⟨rfl, rfl, rfl⟩) rfl ?_
  refine wp_aload_n rfl rfl ?_
  refine wp_iconst (v := 2) rfl rfl ?_
  refine p_newa (t := 0) (len := 2) (N' := (99, 26, 1458)) rfl rfl ac_int (by decide) (by decide) rfl (by decide) rfl (show Zr 98 _ by (repeat (first | (with_reducible refine Zr_sI ?_ (by decide)) | (with_reducible refine Zr_sR ?_ (by decide)) | (with_reducible refine Zr_iPl ?_ (by decide)) | (with_reducible refine Zr_iTu ?_ (by decide)) | (with_reducible refine Zr_iTa ?_ (by decide)) | (with_reducible refine Zr_iRd ?_ (by decide)) | (with_reducible refine Zr_iLb ?_ (by decide)) | (with_reducible refine Zr_iR0 ?_ (by decide)) | (with_reducible refine Zr_iR1 ?_ (by decide)) | (with_reducible refine Zr_iR2 ?_ (by decide)) | (with_reducible refine Zr_iR3 ?_ (by decide)))); first | with_reducible exact Zr.mono hZ (by decide) | with_reducible exact Zr.mono (wA_Z (Zr.mono hZ (by decide)) 16) (by decide)) ⟨Nat.le_of_ble_eq_true rfl, Nat.le_of_ble_eq_true rfl⟩ rfl ?_
  refine wp_putr rfl rfl rfl (Or.inr ⟨rfl, rfl, rfl⟩) rfl ?_
  refine wp_aload_n rfl rfl ?_
  refine wp_ldc (v := 54272) rfl ci_11_104 ?_
  refine p_newa (t := 2) (len := 54272) (N' := (100, 27, 55730)) rfl rfl ac_boolean (by decide) (by decide) rfl (by decide) rfl (show Zr 99 _ by (repeat (first | (with_reducible refine Zr_sI ?_ (by decide)) | (with_reducible refine Zr_sR ?_ (by decide)) | (with_reducible refine Zr_iPl ?_ (by decide)) | (with_reducible refine Zr_iTu ?_ (by decide)) | (with_reducible refine Zr_iTa ?_ (by decide)) | (with_reducible refine Zr_iRd ?_ (by decide)) | (with_reducible refine Zr_iLb ?_ (by decide)) | (with_reducible refine Zr_iR0 ?_ (by decide)) | (with_reducible refine Zr_iR1 ?_ (by decide)) | (with_reducible refine Zr_iR2 ?_ (by decide)) | (with_reducible refine Zr_iR3 ?_ (by decide)))); first | with_reducible exact Zr.mono hZ (by decide) | with_reducible exact Zr.mono (wA_Z (Zr.mono hZ (by decide)) 16) (by decide)) ⟨Nat.le_of_ble_eq_true rfl, Nat.le_of_ble_eq_true rfl⟩ rfl ?_
  refine wp_putr rfl rfl rfl (Or.inr ⟨rfl, rfl, rfl⟩) rfl ?_
  refine wp_aload_n rfl rfl ?_
  refine wp_sipush (v := 196) rfl rfl ?_
  refine p_newa (t := 2) (len := 196) (N' := (101, 28, 55926)) rfl rfl ac_boolean (by decide) (by decide) rfl (by decide) rfl (show Zr 100 _ by (repeat (first | (with_reducible refine Zr_sI ?_ (by decide)) | (with_reducible refine Zr_sR ?_ (by decide)) | (with_reducible refine Zr_iPl ?_ (by decide)) | (with_reducible refine Zr_iTu ?_ (by decide)) | (with_reducible refine Zr_iTa ?_ (by decide)) | (with_reducible refine Zr_iRd ?_ (by decide)) | (with_reducible refine Zr_iLb ?_ (by decide)) | (with_reducible refine Zr_iR0 ?_ (by decide)) | (with_reducible refine Zr_iR1 ?_ (by decide)) | (with_reducible refine Zr_iR2 ?_ (by decide)) | (with_reducible refine Zr_iR3 ?_ (by decide)))); first | with_reducible exact Zr.mono hZ (by decide) | with_reducible exact Zr.mono (wA_Z (Zr.mono hZ (by decide)) 16) (by decide)) ⟨Nat.le_of_ble_eq_true rfl, Nat.le_of_ble_eq_true rfl⟩ rfl ?_
  refine wp_putr rfl rfl rfl (Or.inr ⟨rfl, rfl, rfl⟩) rfl ?_
  refine wp_aload_n rfl rfl ?_
  refine wp_bipush (v := 6) rfl rfl ?_
  refine p_newa (t := 3) (len := 6) (N' := (102, 29, 55932)) rfl rfl ac_long (by decide) (by decide) rfl (by decide) rfl (show Zr 101 _ by (repeat (first | (with_reducible refine Zr_sI ?_ (by decide)) | (with_reducible refine Zr_sR ?_ (by decide)) | (with_reducible refine Zr_iPl ?_ (by decide)) | (with_reducible refine Zr_iTu ?_ (by decide)) | (with_reducible refine Zr_iTa ?_ (by decide)) | (with_reducible refine Zr_iRd ?_ (by decide)) | (with_reducible refine Zr_iLb ?_ (by decide)) | (with_reducible refine Zr_iR0 ?_ (by decide)) | (with_reducible refine Zr_iR1 ?_ (by decide)) | (with_reducible refine Zr_iR2 ?_ (by decide)) | (with_reducible refine Zr_iR3 ?_ (by decide)))); first | with_reducible exact Zr.mono hZ (by decide) | with_reducible exact Zr.mono (wA_Z (Zr.mono hZ (by decide)) 16) (by decide)) ⟨Nat.le_of_ble_eq_true rfl, Nat.le_of_ble_eq_true rfl⟩ rfl ?_
  refine wp_putr rfl rfl rfl (Or.inr ⟨rfl, rfl, rfl⟩) rfl ?_
  exact wp_vret rfl rfl ⟨rfl, rfl⟩
def w00 : mW := (fun _ _ => 0, fun _ _ => 0, fun _ _ => none)
def w01 : mW := x11W (x10W w00)
theorem Zr_0 (n : Nat) : Zr n w00 := fun _ _ => ⟨rfl, rfl, rfl⟩
theorem Zr_1 : Zr 72 (x10W w00) := by
  unfold x10W
  (repeat (first | (with_reducible refine Zr_sI ?_ (by decide)) | (with_reducible refine Zr_sR ?_ (by decide)) | (with_reducible refine Zr_iPl ?_ (by decide)) | (with_reducible refine Zr_iTu ?_ (by decide)) | (with_reducible refine Zr_iTa ?_ (by decide)) | (with_reducible refine Zr_iRd ?_ (by decide)) | (with_reducible refine Zr_iLb ?_ (by decide)) | (with_reducible refine Zr_iR0 ?_ (by decide)) | (with_reducible refine Zr_iR1 ?_ (by decide)) | (with_reducible refine Zr_iR2 ?_ (by decide)) | (with_reducible refine Zr_iR3 ?_ (by decide))))
  exact (wA_Z (Zr_0 2) 16).mono (by decide)
end ir
