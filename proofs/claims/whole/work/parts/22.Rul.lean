noncomputable def Rul_has (a0 : Int) (σ : Mem) : Option (Int × Mem) := (Row_get 12 a0 σ).bind fun q1 => if 0 < wr q1.1 then (some (1, q1.2)) else (some (0, q1.2))
set_option maxRecDepth 100000 in
set_option maxHeartbeats 4000000 in
theorem c_Rul_has {l : Launch} {w : Wd} (hW : shp w = ShA) (a0 : Int) (σ : Mem)  : Ctr l w yX7_has cX7_has 2 (some .boolean) (rmN 1 21) 1 [rf w 11, iv a0] σ (Rul_has a0 σ) := by
  refine met_of (own := RX7) (by decide) rfl rfl rfl (Nat.le_of_ble_eq_true rfl) (fun X x hXl hN hS => ⟨[some (rf w 11), some (iv a0)], ⟨0, rfl⟩, ?_⟩)
  subst hXl
  unfold Rul_has
  refine a_aload_n hS dX7_has_0 rfl ?_
  refine a_getR hS (j := 12) dX7_has_1 flX7_14 (sA11 hW) rfl ?_
  refine a_iload_n hS dX7_has_4 rfl ?_
  refine a_callVi hS (rst := []) (c_Row_get hW 12 a0 σ iRow12) miX5_get mlX7_38 (sA12 hW) rfl rfl (Nat.le_of_ble_eq_true rfl) (Nat.le_of_ble_eq_true rfl) (Nat.le_of_ble_eq_true rfl) rfl dX7_has_5 (fun q1 => ?_)
  refine a_ifle hS rfl  (tgt := 15) dX7_has_8 (by decide) ?_ ?_
  · refine a_iconst hS dX7_has_15 ?_
    exact a_zret hS (by decide) rfl rfl dX7_has_16
  · refine a_iconst hS dX7_has_11 ?_
    refine a_goto hS (tgt := 16) dX7_has_12 (by decide) ?_
    exact a_zret hS (by decide) rfl rfl dX7_has_16
noncomputable def Rul_hasText_26b   (r26 : Int → Int → Int → Int → Int → Mem → Option (Int × Mem)) (x4 : Int) (x5 : Int) (x6 : Int) (x7 : Int) (x8 : Int) (σ : Mem) : Option (Int × Mem) := if wr x8 < wr x6 then ((Row_get 24 ((x7 * 8) + x8) σ).bind fun q2 => (Lin_byteOf x4 (x5 + x8) q2.2).bind fun q3 => if wr q2.1 = wr q3.1 then (r26 x4 x5 x6 x7 (x8 + 1) q3.2) else (some (0, q3.2))) else (some (1, σ))
noncomputable def Rul_hasText_26   (n : Nat) : Int → Int → Int → Int → Int → Mem → Option (Int × Mem) := fixN (fun _ _ _ _ _ _ => none) (Rul_hasText_26b  ) n
noncomputable def Rul_hasText (a0 : Int) (a1 : Int) (a2 : Int) (a3 : Int) (a4 : Int) (σ : Mem) : Option (Int × Mem) := (Row_get 22 ((2 * a0) + a1) σ).bind fun q1 => if wr q1.1 = wr a4 then (Rul_hasText_26 100000 a2 a3 a4 ((2 * a0) + a1) 0 q1.2) else (some (0, q1.2))
set_option maxRecDepth 100000 in
set_option maxHeartbeats 4000000 in
theorem k_Rul_hasText_26 {X : Cx} {w : Wd} {x : Int × Mem} (hS : Std X (rmN 2 43) w cX7_hasText RX7 (some .boolean)) (hN : cxn X = 9) (hW : shp w = ShA)   : ∀ (n : Nat) (x4 : Int) (x5 : Int) (x6 : Int) (x7 : Int) (x8 : Int) (σ : Mem), Sm X (rmN 2 43) w 1 x 26 [some (rf w 11), none, none, some (rf w 2), some (iv x4), some (iv x5), some (iv x6), some (iv x7), some (iv x8)] [] σ (Rul_hasText_26   n x4 x5 x6 x7 x8 σ) := by
  refine fix_ok (P := fun (r26 : Int → Int → Int → Int → Int → Mem → Option (Int × Mem)) => ∀ (x4 : Int) (x5 : Int) (x6 : Int) (x7 : Int) (x8 : Int) (σ : Mem), Sm X (rmN 2 43) w 1 x 26 [some (rf w 11), none, none, some (rf w 2), some (iv x4), some (iv x5), some (iv x6), some (iv x7), some (iv x8)] [] σ (r26 x4 x5 x6 x7 x8 σ)) (fun _ _ _ _ _ _ => a_none) (fun r26 hr26 => ?_)
  intro x4 x5 x6 x7 x8 σ
  unfold Rul_hasText_26b
  refine a_iload hS dX7_hasText_26 rfl ?_
  refine a_iload hS dX7_hasText_28 rfl ?_
  refine a_icmpge hS rfl rfl (tgt := 70) dX7_hasText_30 (by decide) ?_ ?_
  · refine a_iconst hS dX7_hasText_70 ?_
    exact a_zret hS (by decide) rfl rfl dX7_hasText_71
  · refine a_aload_n hS dX7_hasText_33 rfl ?_
    refine a_getR hS (j := 24) dX7_hasText_34 flX7_35 (sA11 hW) rfl ?_
    refine a_iload hS dX7_hasText_37 rfl ?_
    refine a_bipush hS dX7_hasText_39 rfl ?_
    refine a_imul hS dX7_hasText_41 ?_
    refine a_iload hS dX7_hasText_42 rfl ?_
    refine a_iadd hS dX7_hasText_44 ?_
    refine a_callVi hS (rst := []) (c_Row_get hW 24 ((x7 * 8) + x8) σ iRow24) miX5_get mlX7_38 (sA24 hW) rfl rfl (Nat.le_of_ble_eq_true rfl) (Nat.le_of_ble_eq_true rfl) (Nat.le_of_ble_eq_true rfl) rfl dX7_hasText_45 (fun q2 => ?_)
    refine a_aload_n hS dX7_hasText_48 rfl ?_
    refine a_iload hS dX7_hasText_49 rfl ?_
    refine a_iload hS dX7_hasText_51 rfl ?_
    refine a_iload hS dX7_hasText_53 rfl ?_
    refine a_iadd hS dX7_hasText_55 ?_
    refine a_callVi hS (rst := [iv q2.1]) (c_Lin_byteOf hW x4 (x5 + x8) q2.2 ) miX3_byteOf mlX7_50 (sA2 hW) rfl rfl (Nat.le_of_ble_eq_true rfl) (Nat.le_of_ble_eq_true rfl) (Nat.le_of_ble_eq_true rfl) rfl dX7_hasText_56 (fun q3 => ?_)
    refine a_icmpeq hS rfl rfl (tgt := 64) dX7_hasText_59 (by decide) ?_ ?_
    · refine a_iinc hS (L' := [some (rf w 11), none, none, some (rf w 2), some (iv x4), some (iv x5), some (iv x6), some (iv x7), some (iv (x8 + 1))]) dX7_hasText_64 rfl hN (Nat.le_of_ble_eq_true rfl) rfl rfl ?_
      refine a_goto hS (tgt := 26) dX7_hasText_67 (by decide) ?_
      exact hr26 x4 x5 x6 x7 (x8 + 1) q3.2
    · refine a_iconst hS dX7_hasText_62 ?_
      exact a_zret hS (by decide) rfl rfl dX7_hasText_63
set_option maxRecDepth 100000 in
set_option maxHeartbeats 4000000 in
theorem c_Rul_hasText {l : Launch} {w : Wd} (hW : shp w = ShA) (a0 : Int) (a1 : Int) (a2 : Int) (a3 : Int) (a4 : Int) (σ : Mem)  : Ctr l w yX7_hasText cX7_hasText 9 (some .boolean) (rmN 2 43) 1 [rf w 11, iv a0, iv a1, rf w 2, iv a2, iv a3, iv a4] σ (Rul_hasText a0 a1 a2 a3 a4 σ) := by
  refine met_of (own := RX7) (by decide) rfl rfl rfl (Nat.le_of_ble_eq_true rfl) (fun X x hXl hN hS => ⟨[some (rf w 11), some (iv a0), some (iv a1), some (rf w 2), some (iv a2), some (iv a3), some (iv a4), none, none], ⟨2, rfl⟩, ?_⟩)
  subst hXl
  unfold Rul_hasText
  refine a_iconst hS dX7_hasText_0 ?_
  refine a_iload_n hS dX7_hasText_1 rfl ?_
  refine a_imul hS dX7_hasText_2 ?_
  refine a_iload_n hS dX7_hasText_3 rfl ?_
  refine a_iadd hS dX7_hasText_4 ?_
  refine a_istore hS (L' := [some (rf w 11), some (iv a0), some (iv a1), some (rf w 2), some (iv a2), some (iv a3), some (iv a4), some (iv ((2 * a0) + a1)), none]) dX7_hasText_5 hN (Nat.le_of_ble_eq_true rfl) rfl rfl ?_
  refine a_aload_n hS dX7_hasText_7 rfl ?_
  refine a_getR hS (j := 22) dX7_hasText_8 flX7_32 (sA11 hW) rfl ?_
  refine a_iload hS dX7_hasText_11 rfl ?_
  refine a_callVi hS (rst := []) (c_Row_get hW 22 ((2 * a0) + a1) σ iRow22) miX5_get mlX7_38 (sA22 hW) rfl rfl (Nat.le_of_ble_eq_true rfl) (Nat.le_of_ble_eq_true rfl) (Nat.le_of_ble_eq_true rfl) rfl dX7_hasText_13 (fun q1 => ?_)
  refine a_iload hS dX7_hasText_16 rfl ?_
  refine a_icmpeq hS rfl rfl (tgt := 23) dX7_hasText_18 (by decide) ?_ ?_
  · refine a_iconst hS dX7_hasText_23 ?_
    refine a_istore hS (L' := [some (rf w 11), some (iv a0), some (iv a1), some (rf w 2), some (iv a2), some (iv a3), some (iv a4), some (iv ((2 * a0) + a1)), some (iv 0)]) dX7_hasText_24 hN (Nat.le_of_ble_eq_true rfl) rfl rfl ?_
    exact a_live (M := [true, false, false, true, true, true, true, true, true]) (k_Rul_hasText_26 hS hN hW   100000 a2 a3 a4 ((2 * a0) + a1) 0 q1.2) rfl
  · refine a_iconst hS dX7_hasText_21 ?_
    exact a_zret hS (by decide) rfl rfl dX7_hasText_22
noncomputable def Rul_best_42 (r8 : Int → Int → Int → Int → Int → Mem → Option (Int × Mem))  (x1 : Int) (x2 : Int) (x3 : Int) (x4 : Int) (x5 : Int) (y0 : Int) (σ : Mem) : Option (Int × Mem) := if wr y0 = 0 then (r8 x1 x2 x3 x4 (x5 + 1) σ) else ((Row_get 14 x5 σ).bind fun q2 => if wr x4 < wr q2.1 then ((Row_get 14 x5 q2.2).bind fun q3 => r8 x1 x2 x5 q3.1 (x5 + 1) q3.2) else (r8 x1 x2 x3 x4 (x5 + 1) q2.2))
noncomputable def Rul_best_8b   (r8 : Int → Int → Int → Int → Int → Mem → Option (Int × Mem)) (x1 : Int) (x2 : Int) (x3 : Int) (x4 : Int) (x5 : Int) (σ : Mem) : Option (Int × Mem) := if wr x5 < 12 then (if wr (andI (shrI x2 x5) 1) = 0 then (Rul_best_42 r8 x1 x2 x3 x4 x5 0 σ) else ((Row_get 12 x5 σ).bind fun q1 => if wr q1.1 = wr x1 then (Rul_best_42 r8 x1 x2 x3 x4 x5 1 q1.2) else (Rul_best_42 r8 x1 x2 x3 x4 x5 0 q1.2))) else (some (x3, σ))
noncomputable def Rul_best_8   (n : Nat) : Int → Int → Int → Int → Int → Mem → Option (Int × Mem) := fixN (fun _ _ _ _ _ _ => none) (Rul_best_8b  ) n
noncomputable def Rul_best (a0 : Int) (a1 : Int) (σ : Mem) : Option (Int × Mem) := Rul_best_8 100000 a0 a1 (-1) (-1) 0 σ
set_option maxRecDepth 100000 in
set_option maxHeartbeats 4000000 in
theorem k_Rul_best_42 {X : Cx} {w : Wd} {x : Int × Mem} (hS : Std X (rmN 1 21) w cX7_best RX7 (some .int)) (hN : cxn X = 7) (hW : shp w = ShA)  (r8 : Int → Int → Int → Int → Int → Mem → Option (Int × Mem)) (hr8 : ∀ (x1 : Int) (x2 : Int) (x3 : Int) (x4 : Int) (x5 : Int) (σ : Mem), Sm X (rmN 1 21) w 1 x 8 [some (rf w 11), some (iv x1), some (iv x2), some (iv x3), some (iv x4), some (iv x5), none] [] σ (r8 x1 x2 x3 x4 x5 σ)) : ∀ (x1 : Int) (x2 : Int) (x3 : Int) (x4 : Int) (x5 : Int) (y0 : Int) (σ : Mem), Sm X (rmN 1 21) w 1 x 42 [some (rf w 11), some (iv x1), some (iv x2), some (iv x3), some (iv x4), some (iv x5), none] [iv y0] σ (Rul_best_42 r8  x1 x2 x3 x4 x5 y0 σ) := by
  intro x1 x2 x3 x4 x5 y0 σ
  unfold Rul_best_42
  refine a_istore hS (L' := [some (rf w 11), some (iv x1), some (iv x2), some (iv x3), some (iv x4), some (iv x5), some (iv y0)]) dX7_best_42 hN (Nat.le_of_ble_eq_true rfl) rfl rfl ?_
  refine a_iload hS dX7_best_44 rfl ?_
  refine a_ifeq hS rfl  (tgt := 77) dX7_best_46 (by decide) ?_ ?_
  · refine a_iinc hS (L' := [some (rf w 11), some (iv x1), some (iv x2), some (iv x3), some (iv x4), some (iv (x5 + 1)), some (iv y0)]) dX7_best_77 rfl hN (Nat.le_of_ble_eq_true rfl) rfl rfl ?_
    refine a_goto hS (tgt := 8) dX7_best_80 (by decide) ?_
    exact a_live (M := [true, true, true, true, true, true, false]) (hr8 x1 x2 x3 x4 (x5 + 1) σ) rfl
  · refine a_aload_n hS dX7_best_49 rfl ?_
    refine a_getR hS (j := 14) dX7_best_50 flX7_20 (sA11 hW) rfl ?_
    refine a_iload hS dX7_best_53 rfl ?_
    refine a_callVi hS (rst := []) (c_Row_get hW 14 x5 σ iRow14) miX5_get mlX7_38 (sA14 hW) rfl rfl (Nat.le_of_ble_eq_true rfl) (Nat.le_of_ble_eq_true rfl) (Nat.le_of_ble_eq_true rfl) rfl dX7_best_55 (fun q2 => ?_)
    refine a_iload hS dX7_best_58 rfl ?_
    refine a_icmple hS rfl rfl (tgt := 77) dX7_best_60 (by decide) ?_ ?_
    · refine a_iinc hS (L' := [some (rf w 11), some (iv x1), some (iv x2), some (iv x3), some (iv x4), some (iv (x5 + 1)), some (iv y0)]) dX7_best_77 rfl hN (Nat.le_of_ble_eq_true rfl) rfl rfl ?_
      refine a_goto hS (tgt := 8) dX7_best_80 (by decide) ?_
      exact a_live (M := [true, true, true, true, true, true, false]) (hr8 x1 x2 x3 x4 (x5 + 1) q2.2) rfl
    · refine a_iload hS dX7_best_63 rfl ?_
      refine a_istore_n hS (L' := [some (rf w 11), some (iv x1), some (iv x2), some (iv x5), some (iv x4), some (iv x5), some (iv y0)]) dX7_best_65 hN (Nat.le_of_ble_eq_true rfl) rfl rfl ?_
      refine a_aload_n hS dX7_best_66 rfl ?_
      refine a_getR hS (j := 14) dX7_best_67 flX7_20 (sA11 hW) rfl ?_
      refine a_iload hS dX7_best_70 rfl ?_
      refine a_callVi hS (rst := []) (c_Row_get hW 14 x5 q2.2 iRow14) miX5_get mlX7_38 (sA14 hW) rfl rfl (Nat.le_of_ble_eq_true rfl) (Nat.le_of_ble_eq_true rfl) (Nat.le_of_ble_eq_true rfl) rfl dX7_best_72 (fun q3 => ?_)
      refine a_istore hS (L' := [some (rf w 11), some (iv x1), some (iv x2), some (iv x5), some (iv q3.1), some (iv x5), some (iv y0)]) dX7_best_75 hN (Nat.le_of_ble_eq_true rfl) rfl rfl ?_
      refine a_iinc hS (L' := [some (rf w 11), some (iv x1), some (iv x2), some (iv x5), some (iv q3.1), some (iv (x5 + 1)), some (iv y0)]) dX7_best_77 rfl hN (Nat.le_of_ble_eq_true rfl) rfl rfl ?_
      refine a_goto hS (tgt := 8) dX7_best_80 (by decide) ?_
      exact a_live (M := [true, true, true, true, true, true, false]) (hr8 x1 x2 x5 q3.1 (x5 + 1) q3.2) rfl
set_option maxRecDepth 100000 in
set_option maxHeartbeats 4000000 in
theorem k_Rul_best_8 {X : Cx} {w : Wd} {x : Int × Mem} (hS : Std X (rmN 1 21) w cX7_best RX7 (some .int)) (hN : cxn X = 7) (hW : shp w = ShA)   : ∀ (n : Nat) (x1 : Int) (x2 : Int) (x3 : Int) (x4 : Int) (x5 : Int) (σ : Mem), Sm X (rmN 1 21) w 1 x 8 [some (rf w 11), some (iv x1), some (iv x2), some (iv x3), some (iv x4), some (iv x5), none] [] σ (Rul_best_8   n x1 x2 x3 x4 x5 σ) := by
  refine fix_ok (P := fun (r8 : Int → Int → Int → Int → Int → Mem → Option (Int × Mem)) => ∀ (x1 : Int) (x2 : Int) (x3 : Int) (x4 : Int) (x5 : Int) (σ : Mem), Sm X (rmN 1 21) w 1 x 8 [some (rf w 11), some (iv x1), some (iv x2), some (iv x3), some (iv x4), some (iv x5), none] [] σ (r8 x1 x2 x3 x4 x5 σ)) (fun _ _ _ _ _ _ => a_none) (fun r8 hr8 => ?_)
  intro x1 x2 x3 x4 x5 σ
  unfold Rul_best_8b
  refine a_iload hS dX7_best_8 rfl ?_
  refine a_bipush hS dX7_best_10 rfl ?_
  refine a_icmpge hS rfl (wl 12 rfl) (tgt := 83) dX7_best_12 (by decide) ?_ ?_
  · refine a_iload_n hS dX7_best_83 rfl ?_
    exact a_iret hS rfl rfl dX7_best_84
  · refine a_iload_n hS dX7_best_15 rfl ?_
    refine a_iload hS dX7_best_16 rfl ?_
    refine a_ishr hS dX7_best_18 ?_
    refine a_iconst hS dX7_best_19 ?_
    refine a_iand hS dX7_best_20 ?_
    refine a_ifeq hS rfl  (tgt := 41) dX7_best_21 (by decide) ?_ ?_
    · refine a_iconst hS dX7_best_41 ?_
      exact k_Rul_best_42 hS hN hW  r8 hr8 x1 x2 x3 x4 x5 0 σ
    · refine a_aload_n hS dX7_best_24 rfl ?_
      refine a_getR hS (j := 12) dX7_best_25 flX7_14 (sA11 hW) rfl ?_
      refine a_iload hS dX7_best_28 rfl ?_
      refine a_callVi hS (rst := []) (c_Row_get hW 12 x5 σ iRow12) miX5_get mlX7_38 (sA12 hW) rfl rfl (Nat.le_of_ble_eq_true rfl) (Nat.le_of_ble_eq_true rfl) (Nat.le_of_ble_eq_true rfl) rfl dX7_best_30 (fun q1 => ?_)
      refine a_iload_n hS dX7_best_33 rfl ?_
      refine a_icmpne hS rfl rfl (tgt := 41) dX7_best_34 (by decide) ?_ ?_
      · refine a_iconst hS dX7_best_41 ?_
        exact k_Rul_best_42 hS hN hW  r8 hr8 x1 x2 x3 x4 x5 0 q1.2
      · refine a_iconst hS dX7_best_37 ?_
        refine a_goto hS (tgt := 42) dX7_best_38 (by decide) ?_
        exact k_Rul_best_42 hS hN hW  r8 hr8 x1 x2 x3 x4 x5 1 q1.2
set_option maxRecDepth 100000 in
set_option maxHeartbeats 4000000 in
theorem c_Rul_best {l : Launch} {w : Wd} (hW : shp w = ShA) (a0 : Int) (a1 : Int) (σ : Mem)  : Ctr l w yX7_best cX7_best 7 (some .int) (rmN 1 21) 1 [rf w 11, iv a0, iv a1] σ (Rul_best a0 a1 σ) := by
  refine met_of (own := RX7) (by decide) rfl rfl rfl (Nat.le_of_ble_eq_true rfl) (fun X x hXl hN hS => ⟨[some (rf w 11), some (iv a0), some (iv a1), none, none, none, none], ⟨4, rfl⟩, ?_⟩)
  subst hXl
  unfold Rul_best
  refine a_iconst hS dX7_best_0 ?_
  refine a_istore_n hS (L' := [some (rf w 11), some (iv a0), some (iv a1), some (iv (-1)), none, none, none]) dX7_best_1 hN (Nat.le_of_ble_eq_true rfl) rfl rfl ?_
  refine a_iconst hS dX7_best_2 ?_
  refine a_istore hS (L' := [some (rf w 11), some (iv a0), some (iv a1), some (iv (-1)), some (iv (-1)), none, none]) dX7_best_3 hN (Nat.le_of_ble_eq_true rfl) rfl rfl ?_
  refine a_iconst hS dX7_best_5 ?_
  refine a_istore hS (L' := [some (rf w 11), some (iv a0), some (iv a1), some (iv (-1)), some (iv (-1)), some (iv 0), none]) dX7_best_6 hN (Nat.le_of_ble_eq_true rfl) rfl rfl ?_
  exact k_Rul_best_8 hS hN hW   100000 a0 a1 (-1) (-1) 0 σ
noncomputable def Rul_copy (o : Nat) (o2 : Nat) (σ : Mem) : Option (Int × Mem) := (Row_copy (o + 1) (o2 + 1) σ).bind fun q1 => (Row_copy (o + 3) (o2 + 3) q1.2).bind fun q2 => (Row_copy (o + 5) (o2 + 5) q2.2).bind fun q3 => (Row_copy (o + 7) (o2 + 7) q3.2).bind fun q4 => (Row_copy (o + 9) (o2 + 9) q4.2).bind fun q5 => (Row_copy (o + 11) (o2 + 11) q5.2).bind fun q6 => (Row_copy (o + 13) (o2 + 13) q6.2).bind fun q7 => some (0, q7.2)
set_option maxRecDepth 100000 in
set_option maxHeartbeats 4000000 in
theorem c_Rul_copy {l : Launch} {w : Wd} (hW : shp w = ShA) (o : Nat) (o2 : Nat) (σ : Mem) (h_o : isRul o) (h_o2 : isRul o2) : Ctr l w yX7_copy cX7_copy 2 none (rmN 2 51) 0 [rf w o, rf w o2] σ (Rul_copy o o2 σ) := by
  refine met_of (own := RX7) (by decide) rfl rfl rfl (Nat.le_of_ble_eq_true rfl) (fun X x hXl hN hS => ⟨[some (rf w o), some (rf w o2)], ⟨0, rfl⟩, ?_⟩)
  subst hXl
  unfold Rul_copy
  refine a_aload_n hS dX7_copy_0 rfl ?_
  refine a_getR hS (j := (o + 1)) dX7_copy_1 flX7_14 (ssh_Rul0 hW h_o) rfl ?_
  refine a_aload_n hS dX7_copy_4 rfl ?_
  refine a_getR hS (j := (o2 + 1)) dX7_copy_5 flX7_14 (ssh_Rul0 hW h_o2) rfl ?_
  refine a_callVv hS (rst := []) (c_Row_copy hW (o + 1) (o2 + 1) σ (isRul_Row1 h_o) (isRul_Row1 h_o2)) miX5_copy mlX7_63 (ssh_Rul1 hW h_o) rfl rfl (Nat.le_of_ble_eq_true rfl) (Nat.le_of_ble_eq_true rfl) (Nat.le_of_ble_eq_true rfl) rfl dX7_copy_8 (fun q1 => ?_)
  refine a_aload_n hS dX7_copy_11 rfl ?_
  refine a_getR hS (j := (o + 3)) dX7_copy_12 flX7_20 (ssh_Rul0 hW h_o) rfl ?_
  refine a_aload_n hS dX7_copy_15 rfl ?_
  refine a_getR hS (j := (o2 + 3)) dX7_copy_16 flX7_20 (ssh_Rul0 hW h_o2) rfl ?_
  refine a_callVv hS (rst := []) (c_Row_copy hW (o + 3) (o2 + 3) q1.2 (isRul_Row3 h_o) (isRul_Row3 h_o2)) miX5_copy mlX7_63 (ssh_Rul3 hW h_o) rfl rfl (Nat.le_of_ble_eq_true rfl) (Nat.le_of_ble_eq_true rfl) (Nat.le_of_ble_eq_true rfl) rfl dX7_copy_19 (fun q2 => ?_)
  refine a_aload_n hS dX7_copy_22 rfl ?_
  refine a_getR hS (j := (o + 5)) dX7_copy_23 flX7_23 (ssh_Rul0 hW h_o) rfl ?_
  refine a_aload_n hS dX7_copy_26 rfl ?_
  refine a_getR hS (j := (o2 + 5)) dX7_copy_27 flX7_23 (ssh_Rul0 hW h_o2) rfl ?_
  refine a_callVv hS (rst := []) (c_Row_copy hW (o + 5) (o2 + 5) q2.2 (isRul_Row5 h_o) (isRul_Row5 h_o2)) miX5_copy mlX7_63 (ssh_Rul5 hW h_o) rfl rfl (Nat.le_of_ble_eq_true rfl) (Nat.le_of_ble_eq_true rfl) (Nat.le_of_ble_eq_true rfl) rfl dX7_copy_30 (fun q3 => ?_)
  refine a_aload_n hS dX7_copy_33 rfl ?_
  refine a_getR hS (j := (o + 7)) dX7_copy_34 flX7_26 (ssh_Rul0 hW h_o) rfl ?_
  refine a_aload_n hS dX7_copy_37 rfl ?_
  refine a_getR hS (j := (o2 + 7)) dX7_copy_38 flX7_26 (ssh_Rul0 hW h_o2) rfl ?_
  refine a_callVv hS (rst := []) (c_Row_copy hW (o + 7) (o2 + 7) q3.2 (isRul_Row7 h_o) (isRul_Row7 h_o2)) miX5_copy mlX7_63 (ssh_Rul7 hW h_o) rfl rfl (Nat.le_of_ble_eq_true rfl) (Nat.le_of_ble_eq_true rfl) (Nat.le_of_ble_eq_true rfl) rfl dX7_copy_41 (fun q4 => ?_)
  refine a_aload_n hS dX7_copy_44 rfl ?_
  refine a_getR hS (j := (o + 9)) dX7_copy_45 flX7_29 (ssh_Rul0 hW h_o) rfl ?_
  refine a_aload_n hS dX7_copy_48 rfl ?_
  refine a_getR hS (j := (o2 + 9)) dX7_copy_49 flX7_29 (ssh_Rul0 hW h_o2) rfl ?_
  refine a_callVv hS (rst := []) (c_Row_copy hW (o + 9) (o2 + 9) q4.2 (isRul_Row9 h_o) (isRul_Row9 h_o2)) miX5_copy mlX7_63 (ssh_Rul9 hW h_o) rfl rfl (Nat.le_of_ble_eq_true rfl) (Nat.le_of_ble_eq_true rfl) (Nat.le_of_ble_eq_true rfl) rfl dX7_copy_52 (fun q5 => ?_)
  refine a_aload_n hS dX7_copy_55 rfl ?_
  refine a_getR hS (j := (o + 11)) dX7_copy_56 flX7_32 (ssh_Rul0 hW h_o) rfl ?_
  refine a_aload_n hS dX7_copy_59 rfl ?_
  refine a_getR hS (j := (o2 + 11)) dX7_copy_60 flX7_32 (ssh_Rul0 hW h_o2) rfl ?_
  refine a_callVv hS (rst := []) (c_Row_copy hW (o + 11) (o2 + 11) q5.2 (isRul_Row11 h_o) (isRul_Row11 h_o2)) miX5_copy mlX7_63 (ssh_Rul11 hW h_o) rfl rfl (Nat.le_of_ble_eq_true rfl) (Nat.le_of_ble_eq_true rfl) (Nat.le_of_ble_eq_true rfl) rfl dX7_copy_63 (fun q6 => ?_)
  refine a_aload_n hS dX7_copy_66 rfl ?_
  refine a_getR hS (j := (o + 13)) dX7_copy_67 flX7_35 (ssh_Rul0 hW h_o) rfl ?_
  refine a_aload_n hS dX7_copy_70 rfl ?_
  refine a_getR hS (j := (o2 + 13)) dX7_copy_71 flX7_35 (ssh_Rul0 hW h_o2) rfl ?_
  refine a_callVv hS (rst := []) (c_Row_copy hW (o + 13) (o2 + 13) q6.2 (isRul_Row13 h_o) (isRul_Row13 h_o2)) miX5_copy mlX7_63 (ssh_Rul13 hW h_o) rfl rfl (Nat.le_of_ble_eq_true rfl) (Nat.le_of_ble_eq_true rfl) (Nat.le_of_ble_eq_true rfl) rfl dX7_copy_74 (fun q7 => ?_)
  exact a_vret hS rfl rfl dX7_copy_77
noncomputable def Rul_beats (a0 : Int) (a1 : Int) (σ : Mem) : Option (Int × Mem) := if wr a0 = (-1) then (some (0, σ)) else (if wr a1 = (-1) then (some (1, σ)) else ((Row_get 14 a0 σ).bind fun q1 => (Row_get 14 a1 q1.2).bind fun q2 => if wr q2.1 < wr q1.1 then (some (1, q2.2)) else (some (0, q2.2))))
set_option maxRecDepth 100000 in
set_option maxHeartbeats 4000000 in
theorem c_Rul_beats {l : Launch} {w : Wd} (hW : shp w = ShA) (a0 : Int) (a1 : Int) (σ : Mem)  : Ctr l w yX7_beats cX7_beats 3 (some .boolean) (rmN 1 21) 1 [rf w 11, iv a0, iv a1] σ (Rul_beats a0 a1 σ) := by
  refine met_of (own := RX7) (by decide) rfl rfl rfl (Nat.le_of_ble_eq_true rfl) (fun X x hXl hN hS => ⟨[some (rf w 11), some (iv a0), some (iv a1)], ⟨0, rfl⟩, ?_⟩)
  subst hXl
  unfold Rul_beats
  refine a_iload_n hS dX7_beats_0 rfl ?_
  refine a_iconst hS dX7_beats_1 ?_
  refine a_icmpeq hS rfl (wl (-1) rfl) (tgt := 33) dX7_beats_2 (by decide) ?_ ?_
  · refine a_iconst hS dX7_beats_33 ?_
    exact a_zret hS (by decide) rfl rfl dX7_beats_34
  · refine a_iload_n hS dX7_beats_5 rfl ?_
    refine a_iconst hS dX7_beats_6 ?_
    refine a_icmpeq hS rfl (wl (-1) rfl) (tgt := 29) dX7_beats_7 (by decide) ?_ ?_
    · refine a_iconst hS dX7_beats_29 ?_
      refine a_goto hS (tgt := 34) dX7_beats_30 (by decide) ?_
      exact a_zret hS (by decide) rfl rfl dX7_beats_34
    · refine a_aload_n hS dX7_beats_10 rfl ?_
      refine a_getR hS (j := 14) dX7_beats_11 flX7_20 (sA11 hW) rfl ?_
      refine a_iload_n hS dX7_beats_14 rfl ?_
      refine a_callVi hS (rst := []) (c_Row_get hW 14 a0 σ iRow14) miX5_get mlX7_38 (sA14 hW) rfl rfl (Nat.le_of_ble_eq_true rfl) (Nat.le_of_ble_eq_true rfl) (Nat.le_of_ble_eq_true rfl) rfl dX7_beats_15 (fun q1 => ?_)
      refine a_aload_n hS dX7_beats_18 rfl ?_
      refine a_getR hS (j := 14) dX7_beats_19 flX7_20 (sA11 hW) rfl ?_
      refine a_iload_n hS dX7_beats_22 rfl ?_
      refine a_callVi hS (rst := [iv q1.1]) (c_Row_get hW 14 a1 q1.2 iRow14) miX5_get mlX7_38 (sA14 hW) rfl rfl (Nat.le_of_ble_eq_true rfl) (Nat.le_of_ble_eq_true rfl) (Nat.le_of_ble_eq_true rfl) rfl dX7_beats_23 (fun q2 => ?_)
      refine a_icmple hS rfl rfl (tgt := 33) dX7_beats_26 (by decide) ?_ ?_
      · refine a_iconst hS dX7_beats_33 ?_
        exact a_zret hS (by decide) rfl rfl dX7_beats_34
      · refine a_iconst hS dX7_beats_29 ?_
        refine a_goto hS (tgt := 34) dX7_beats_30 (by decide) ?_
        exact a_zret hS (by decide) rfl rfl dX7_beats_34
noncomputable def Rul_appendText (a0 : Int) (a1 : Int) (a2 : Int) (σ : Mem) : Option (Int × Mem) := (Row_get 22 ((2 * a0) + a1) σ).bind fun q1 => if wr q1.1 < 0 then (some (0, q1.2)) else (if wr q1.1 < 8 then ((Row_set 24 ((((2 * a0) + a1) * 8) + q1.1) a2 q1.2).bind fun q2 => (Row_set 22 ((2 * a0) + a1) (q1.1 + 1) q2.2).bind fun q3 => some (0, q3.2)) else (some (0, q1.2)))
set_option maxRecDepth 100000 in
set_option maxHeartbeats 4000000 in
theorem c_Rul_appendText {l : Launch} {w : Wd} (hW : shp w = ShA) (a0 : Int) (a1 : Int) (a2 : Int) (σ : Mem)  : Ctr l w yX7_appendText cX7_appendText 6 none (rmN 1 22) 0 [rf w 11, iv a0, iv a1, iv a2] σ (Rul_appendText a0 a1 a2 σ) := by
  refine met_of (own := RX7) (by decide) rfl rfl rfl (Nat.le_of_ble_eq_true rfl) (fun X x hXl hN hS => ⟨[some (rf w 11), some (iv a0), some (iv a1), some (iv a2), none, none], ⟨2, rfl⟩, ?_⟩)
  subst hXl
  unfold Rul_appendText
  refine a_iconst hS dX7_appendText_0 ?_
  refine a_iload_n hS dX7_appendText_1 rfl ?_
  refine a_imul hS dX7_appendText_2 ?_
  refine a_iload_n hS dX7_appendText_3 rfl ?_
  refine a_iadd hS dX7_appendText_4 ?_
  refine a_istore hS (L' := [some (rf w 11), some (iv a0), some (iv a1), some (iv a2), some (iv ((2 * a0) + a1)), none]) dX7_appendText_5 hN (Nat.le_of_ble_eq_true rfl) rfl rfl ?_
  refine a_aload_n hS dX7_appendText_7 rfl ?_
  refine a_getR hS (j := 22) dX7_appendText_8 flX7_32 (sA11 hW) rfl ?_
  refine a_iload hS dX7_appendText_11 rfl ?_
  refine a_callVi hS (rst := []) (c_Row_get hW 22 ((2 * a0) + a1) σ iRow22) miX5_get mlX7_38 (sA22 hW) rfl rfl (Nat.le_of_ble_eq_true rfl) (Nat.le_of_ble_eq_true rfl) (Nat.le_of_ble_eq_true rfl) rfl dX7_appendText_13 (fun q1 => ?_)
  refine a_istore hS (L' := [some (rf w 11), some (iv a0), some (iv a1), some (iv a2), some (iv ((2 * a0) + a1)), some (iv q1.1)]) dX7_appendText_16 hN (Nat.le_of_ble_eq_true rfl) rfl rfl ?_
  refine a_iload hS dX7_appendText_18 rfl ?_
  refine a_iflt hS rfl  (tgt := 59) dX7_appendText_20 (by decide) ?_ ?_
  · exact a_vret hS rfl rfl dX7_appendText_59
  · refine a_iload hS dX7_appendText_23 rfl ?_
    refine a_bipush hS dX7_appendText_25 rfl ?_
    refine a_icmpge hS rfl (wl 8 rfl) (tgt := 59) dX7_appendText_27 (by decide) ?_ ?_
    · exact a_vret hS rfl rfl dX7_appendText_59
    · refine a_aload_n hS dX7_appendText_30 rfl ?_
      refine a_getR hS (j := 24) dX7_appendText_31 flX7_35 (sA11 hW) rfl ?_
      refine a_iload hS dX7_appendText_34 rfl ?_
      refine a_bipush hS dX7_appendText_36 rfl ?_
      refine a_imul hS dX7_appendText_38 ?_
      refine a_iload hS dX7_appendText_39 rfl ?_
      refine a_iadd hS dX7_appendText_41 ?_
      refine a_iload_n hS dX7_appendText_42 rfl ?_
      refine a_callVv hS (rst := []) (c_Row_set hW 24 ((((2 * a0) + a1) * 8) + q1.1) a2 q1.2 iRow24) miX5_set mlX7_46 (sA24 hW) rfl rfl (Nat.le_of_ble_eq_true rfl) (Nat.le_of_ble_eq_true rfl) (Nat.le_of_ble_eq_true rfl) rfl dX7_appendText_43 (fun q2 => ?_)
      refine a_aload_n hS dX7_appendText_46 rfl ?_
      refine a_getR hS (j := 22) dX7_appendText_47 flX7_32 (sA11 hW) rfl ?_
      refine a_iload hS dX7_appendText_50 rfl ?_
      refine a_iload hS dX7_appendText_52 rfl ?_
      refine a_iconst hS dX7_appendText_54 ?_
      refine a_iadd hS dX7_appendText_55 ?_
      refine a_callVv hS (rst := []) (c_Row_set hW 22 ((2 * a0) + a1) (q1.1 + 1) q2.2 iRow22) miX5_set mlX7_46 (sA22 hW) rfl rfl (Nat.le_of_ble_eq_true rfl) (Nat.le_of_ble_eq_true rfl) (Nat.le_of_ble_eq_true rfl) rfl dX7_appendText_56 (fun q3 => ?_)
      exact a_vret hS rfl rfl dX7_appendText_59
noncomputable def Rul_size_4b   (r4 : Int → Int → Mem → Option (Int × Mem)) (x1 : Int) (x2 : Int) (σ : Mem) : Option (Int × Mem) := if wr x2 < 12 then ((Rul_has x2 σ).bind fun q1 => if wr q1.1 = 0 then (r4 (x1 + 0) (x2 + 1) q1.2) else (r4 (x1 + 1) (x2 + 1) q1.2)) else (some (x1, σ))
noncomputable def Rul_size_4   (n : Nat) : Int → Int → Mem → Option (Int × Mem) := fixN (fun _ _ _ => none) (Rul_size_4b  ) n
noncomputable def Rul_size  (σ : Mem) : Option (Int × Mem) := Rul_size_4 100000 0 0 σ
set_option maxRecDepth 100000 in
set_option maxHeartbeats 4000000 in
theorem k_Rul_size_4 {X : Cx} {w : Wd} {x : Int × Mem} (hS : Std X (rmN 2 42) w cX7_size RX7 (some .int)) (hN : cxn X = 3) (hW : shp w = ShA)   : ∀ (n : Nat) (x1 : Int) (x2 : Int) (σ : Mem), Sm X (rmN 2 42) w 1 x 4 [some (rf w 11), some (iv x1), some (iv x2)] [] σ (Rul_size_4   n x1 x2 σ) := by
  refine fix_ok (P := fun (r4 : Int → Int → Mem → Option (Int × Mem)) => ∀ (x1 : Int) (x2 : Int) (σ : Mem), Sm X (rmN 2 42) w 1 x 4 [some (rf w 11), some (iv x1), some (iv x2)] [] σ (r4 x1 x2 σ)) (fun _ _ _ => a_none) (fun r4 hr4 => ?_)
  intro x1 x2 σ
  unfold Rul_size_4b
  refine a_iload_n hS dX7_size_4 rfl ?_
  refine a_bipush hS dX7_size_5 rfl ?_
  refine a_icmpge hS rfl (wl 12 rfl) (tgt := 32) dX7_size_7 (by decide) ?_ ?_
  · refine a_iload_n hS dX7_size_32 rfl ?_
    exact a_iret hS rfl rfl dX7_size_33
  · refine a_iload_n hS dX7_size_10 rfl ?_
    refine a_aload_n hS dX7_size_11 rfl ?_
    refine a_iload_n hS dX7_size_12 rfl ?_
    refine a_callVi hS (rst := [iv x1]) (c_Rul_has hW x2 σ ) miX7_has mlX7_42 (sA11 hW) rfl rfl (Nat.le_of_ble_eq_true rfl) (Nat.le_of_ble_eq_true rfl) (Nat.le_of_ble_eq_true rfl) rfl dX7_size_13 (fun q1 => ?_)
    refine a_ifeq hS rfl  (tgt := 23) dX7_size_16 (by decide) ?_ ?_
    · refine a_iconst hS dX7_size_23 ?_
      refine a_iadd hS dX7_size_24 ?_
      refine a_istore_n hS (L' := [some (rf w 11), some (iv (x1 + 0)), some (iv x2)]) dX7_size_25 hN (Nat.le_of_ble_eq_true rfl) rfl rfl ?_
      refine a_iinc hS (L' := [some (rf w 11), some (iv (x1 + 0)), some (iv (x2 + 1))]) dX7_size_26 rfl hN (Nat.le_of_ble_eq_true rfl) rfl rfl ?_
      refine a_goto hS (tgt := 4) dX7_size_29 (by decide) ?_
      exact hr4 (x1 + 0) (x2 + 1) q1.2
    · refine a_iconst hS dX7_size_19 ?_
      refine a_goto hS (tgt := 24) dX7_size_20 (by decide) ?_
      refine a_iadd hS dX7_size_24 ?_
      refine a_istore_n hS (L' := [some (rf w 11), some (iv (x1 + 1)), some (iv x2)]) dX7_size_25 hN (Nat.le_of_ble_eq_true rfl) rfl rfl ?_
      refine a_iinc hS (L' := [some (rf w 11), some (iv (x1 + 1)), some (iv (x2 + 1))]) dX7_size_26 rfl hN (Nat.le_of_ble_eq_true rfl) rfl rfl ?_
      refine a_goto hS (tgt := 4) dX7_size_29 (by decide) ?_
      exact hr4 (x1 + 1) (x2 + 1) q1.2
set_option maxRecDepth 100000 in
set_option maxHeartbeats 4000000 in
theorem c_Rul_size {l : Launch} {w : Wd} (hW : shp w = ShA)  (σ : Mem)  : Ctr l w yX7_size cX7_size 3 (some .int) (rmN 2 42) 1 [rf w 11] σ (Rul_size  σ) := by
  refine met_of (own := RX7) (by decide) rfl rfl rfl (Nat.le_of_ble_eq_true rfl) (fun X x hXl hN hS => ⟨[some (rf w 11), none, none], ⟨2, rfl⟩, ?_⟩)
  subst hXl
  unfold Rul_size
  refine a_iconst hS dX7_size_0 ?_
  refine a_istore_n hS (L' := [some (rf w 11), some (iv 0), none]) dX7_size_1 hN (Nat.le_of_ble_eq_true rfl) rfl rfl ?_
  refine a_iconst hS dX7_size_2 ?_
  refine a_istore_n hS (L' := [some (rf w 11), some (iv 0), some (iv 0)]) dX7_size_3 hN (Nat.le_of_ble_eq_true rfl) rfl rfl ?_
  exact k_Rul_size_4 hS hN hW   100000 0 0 σ
noncomputable def Rul_put (a0 : Int) (a1 : Int) (a2 : Int) (a3 : Int) (σ : Mem) : Option (Int × Mem) := (Row_set 12 a0 a1 σ).bind fun q1 => (Row_set 14 a0 a2 q1.2).bind fun q2 => (Row_set 16 a0 a3 q2.2).bind fun q3 => (Row_set 22 (2 * a0) 0 q3.2).bind fun q4 => (Row_set 22 ((2 * a0) + 1) 0 q4.2).bind fun q5 => some (0, q5.2)
set_option maxRecDepth 100000 in
set_option maxHeartbeats 4000000 in
theorem c_Rul_put {l : Launch} {w : Wd} (hW : shp w = ShA) (a0 : Int) (a1 : Int) (a2 : Int) (a3 : Int) (σ : Mem)  : Ctr l w yX7_put cX7_put 5 none (rmN 1 22) 0 [rf w 11, iv a0, iv a1, iv a2, iv a3] σ (Rul_put a0 a1 a2 a3 σ) := by
  refine met_of (own := RX7) (by decide) rfl rfl rfl (Nat.le_of_ble_eq_true rfl) (fun X x hXl hN hS => ⟨[some (rf w 11), some (iv a0), some (iv a1), some (iv a2), some (iv a3)], ⟨0, rfl⟩, ?_⟩)
  subst hXl
  unfold Rul_put
  refine a_aload_n hS dX7_put_0 rfl ?_
  refine a_getR hS (j := 12) dX7_put_1 flX7_14 (sA11 hW) rfl ?_
  refine a_iload_n hS dX7_put_4 rfl ?_
  refine a_iload_n hS dX7_put_5 rfl ?_
  refine a_callVv hS (rst := []) (c_Row_set hW 12 a0 a1 σ iRow12) miX5_set mlX7_46 (sA12 hW) rfl rfl (Nat.le_of_ble_eq_true rfl) (Nat.le_of_ble_eq_true rfl) (Nat.le_of_ble_eq_true rfl) rfl dX7_put_6 (fun q1 => ?_)
  refine a_aload_n hS dX7_put_9 rfl ?_
  refine a_getR hS (j := 14) dX7_put_10 flX7_20 (sA11 hW) rfl ?_
  refine a_iload_n hS dX7_put_13 rfl ?_
  refine a_iload_n hS dX7_put_14 rfl ?_
  refine a_callVv hS (rst := []) (c_Row_set hW 14 a0 a2 q1.2 iRow14) miX5_set mlX7_46 (sA14 hW) rfl rfl (Nat.le_of_ble_eq_true rfl) (Nat.le_of_ble_eq_true rfl) (Nat.le_of_ble_eq_true rfl) rfl dX7_put_15 (fun q2 => ?_)
  refine a_aload_n hS dX7_put_18 rfl ?_
  refine a_getR hS (j := 16) dX7_put_19 flX7_23 (sA11 hW) rfl ?_
  refine a_iload_n hS dX7_put_22 rfl ?_
  refine a_iload hS dX7_put_23 rfl ?_
  refine a_callVv hS (rst := []) (c_Row_set hW 16 a0 a3 q2.2 iRow16) miX5_set mlX7_46 (sA16 hW) rfl rfl (Nat.le_of_ble_eq_true rfl) (Nat.le_of_ble_eq_true rfl) (Nat.le_of_ble_eq_true rfl) rfl dX7_put_25 (fun q3 => ?_)
  refine a_aload_n hS dX7_put_28 rfl ?_
  refine a_getR hS (j := 22) dX7_put_29 flX7_32 (sA11 hW) rfl ?_
  refine a_iconst hS dX7_put_32 ?_
  refine a_iload_n hS dX7_put_33 rfl ?_
  refine a_imul hS dX7_put_34 ?_
  refine a_iconst hS dX7_put_35 ?_
  refine a_callVv hS (rst := []) (c_Row_set hW 22 (2 * a0) 0 q3.2 iRow22) miX5_set mlX7_46 (sA22 hW) rfl rfl (Nat.le_of_ble_eq_true rfl) (Nat.le_of_ble_eq_true rfl) (Nat.le_of_ble_eq_true rfl) rfl dX7_put_36 (fun q4 => ?_)
  refine a_aload_n hS dX7_put_39 rfl ?_
  refine a_getR hS (j := 22) dX7_put_40 flX7_32 (sA11 hW) rfl ?_
  refine a_iconst hS dX7_put_43 ?_
  refine a_iload_n hS dX7_put_44 rfl ?_
  refine a_imul hS dX7_put_45 ?_
  refine a_iconst hS dX7_put_46 ?_
  refine a_iadd hS dX7_put_47 ?_
  refine a_iconst hS dX7_put_48 ?_
  refine a_callVv hS (rst := []) (c_Row_set hW 22 ((2 * a0) + 1) 0 q4.2 iRow22) miX5_set mlX7_46 (sA22 hW) rfl rfl (Nat.le_of_ble_eq_true rfl) (Nat.le_of_ble_eq_true rfl) (Nat.le_of_ble_eq_true rfl) rfl dX7_put_49 (fun q5 => ?_)
  exact a_vret hS rfl rfl dX7_put_52
noncomputable def Rul_mixText_6b   (r6 : Int → Int → Int → Mem → Option (Int × Mem)) (x3 : Int) (x4 : Int) (x6 : Int) (σ : Mem) : Option (Int × Mem) := (Row_get 22 x3 σ).bind fun q1 => if wr x6 < wr q1.1 then ((Row_get 24 ((x3 * 8) + x6) q1.2).bind fun q2 => (Ai_mix x4 q2.1 q2.2).bind fun q3 => r6 x3 q3.1 (x6 + 1) q3.2) else (some (x4, q1.2))
noncomputable def Rul_mixText_6   (n : Nat) : Int → Int → Int → Mem → Option (Int × Mem) := fixN (fun _ _ _ _ => none) (Rul_mixText_6b  ) n
noncomputable def Rul_mixText (a0 : Int) (a1 : Int) (σ : Mem) : Option (Int × Mem) := Rul_mixText_6 100000 a1 a0 0 σ
set_option maxRecDepth 100000 in
set_option maxHeartbeats 4000000 in
theorem k_Rul_mixText_6 {X : Cx} {w : Wd} {x : Int × Mem} (hS : Std X (rmN 1 22) w cX7_mixText RX7 (some .long)) (hN : cxn X = 7) (hW : shp w = ShA)   : ∀ (n : Nat) (x3 : Int) (x4 : Int) (x6 : Int) (σ : Mem), Sm X (rmN 1 22) w 2 x 6 [some (rf w 11), none, none, some (iv x3), some (jv x4), none, some (iv x6)] [] σ (Rul_mixText_6   n x3 x4 x6 σ) := by
  refine fix_ok (P := fun (r6 : Int → Int → Int → Mem → Option (Int × Mem)) => ∀ (x3 : Int) (x4 : Int) (x6 : Int) (σ : Mem), Sm X (rmN 1 22) w 2 x 6 [some (rf w 11), none, none, some (iv x3), some (jv x4), none, some (iv x6)] [] σ (r6 x3 x4 x6 σ)) (fun _ _ _ _ => a_none) (fun r6 hr6 => ?_)
  intro x3 x4 x6 σ
  unfold Rul_mixText_6b
  refine a_iload hS dX7_mixText_6 rfl ?_
  refine a_aload_n hS dX7_mixText_8 rfl ?_
  refine a_getR hS (j := 22) dX7_mixText_9 flX7_32 (sA11 hW) rfl ?_
  refine a_iload_n hS dX7_mixText_12 rfl ?_
  refine a_callVi hS (rst := [iv x6]) (c_Row_get hW 22 x3 σ iRow22) miX5_get mlX7_38 (sA22 hW) rfl rfl (Nat.le_of_ble_eq_true rfl) (Nat.le_of_ble_eq_true rfl) (Nat.le_of_ble_eq_true rfl) rfl dX7_mixText_13 (fun q1 => ?_)
  refine a_icmpge hS rfl rfl (tgt := 46) dX7_mixText_16 (by decide) ?_ ?_
  · refine a_lload hS dX7_mixText_46 rfl ?_
    exact a_lret hS rfl rfl dX7_mixText_48
  · refine a_lload hS dX7_mixText_19 rfl ?_
    refine a_aload_n hS dX7_mixText_21 rfl ?_
    refine a_getR hS (j := 24) dX7_mixText_22 flX7_35 (sA11 hW) rfl ?_
    refine a_iload_n hS dX7_mixText_25 rfl ?_
    refine a_bipush hS dX7_mixText_26 rfl ?_
    refine a_imul hS dX7_mixText_28 ?_
    refine a_iload hS dX7_mixText_29 rfl ?_
    refine a_iadd hS dX7_mixText_31 ?_
    refine a_callVi hS (rst := [jv x4]) (c_Row_get hW 24 ((x3 * 8) + x6) q1.2 iRow24) miX5_get mlX7_38 (sA24 hW) rfl rfl (Nat.le_of_ble_eq_true rfl) (Nat.le_of_ble_eq_true rfl) (Nat.le_of_ble_eq_true rfl) rfl dX7_mixText_32 (fun q2 => ?_)
    refine a_callSNj hS (rst := []) (c_Ai_mix hW x4 q2.1 q2.2 ) msX11_mix nwX7_56 rfl (Nat.le_of_ble_eq_true rfl) (Nat.le_of_ble_eq_true rfl) (Nat.le_of_ble_eq_true rfl) rfl dX7_mixText_35 (fun q3 => ?_)
    refine a_lstore hS (L' := [some (rf w 11), none, none, some (iv x3), some (jv q3.1), none, some (iv x6)]) dX7_mixText_38 hN (Nat.le_of_ble_eq_true rfl) rfl rfl ?_
    refine a_iinc hS (L' := [some (rf w 11), none, none, some (iv x3), some (jv q3.1), none, some (iv (x6 + 1))]) dX7_mixText_40 rfl hN (Nat.le_of_ble_eq_true rfl) rfl rfl ?_
    refine a_goto hS (tgt := 6) dX7_mixText_43 (by decide) ?_
    exact hr6 x3 q3.1 (x6 + 1) q3.2
set_option maxRecDepth 100000 in
set_option maxHeartbeats 4000000 in
theorem c_Rul_mixText {l : Launch} {w : Wd} (hW : shp w = ShA) (a0 : Int) (a1 : Int) (σ : Mem)  : Ctr l w yX7_mixText cX7_mixText 7 (some .long) (rmN 1 22) 2 [rf w 11, jv a0, iv a1] σ (Rul_mixText a0 a1 σ) := by
  refine met_of (own := RX7) (by decide) rfl rfl rfl (Nat.le_of_ble_eq_true rfl) (fun X x hXl hN hS => ⟨[some (rf w 11), some (jv a0), none, some (iv a1), none, none, none], ⟨3, rfl⟩, ?_⟩)
  subst hXl
  unfold Rul_mixText
  refine a_lload_n hS dX7_mixText_0 rfl ?_
  refine a_lstore hS (L' := [some (rf w 11), some (jv a0), none, some (iv a1), some (jv a0), none, none]) dX7_mixText_1 hN (Nat.le_of_ble_eq_true rfl) rfl rfl ?_
  refine a_iconst hS dX7_mixText_3 ?_
  refine a_istore hS (L' := [some (rf w 11), some (jv a0), none, some (iv a1), some (jv a0), none, some (iv 0)]) dX7_mixText_4 hN (Nat.le_of_ble_eq_true rfl) rfl rfl ?_
  exact a_live (M := [true, false, false, true, true, false, true]) (k_Rul_mixText_6 hS hN hW   100000 a1 a0 0 σ) rfl
noncomputable def Rul_mixRule (a0 : Int) (a1 : Int) (σ : Mem) : Option (Int × Mem) := (Row_get 12 a1 σ).bind fun q1 => (Ai_mix a0 q1.1 q1.2).bind fun q2 => (Rul_has a1 q2.2).bind fun q3 => if wr q3.1 = 0 then (some (q2.1, q3.2)) else ((Row_get 14 a1 q3.2).bind fun q4 => (Ai_mix q2.1 q4.1 q4.2).bind fun q5 => (Row_get 16 a1 q5.2).bind fun q6 => (Ai_mix q5.1 q6.1 q6.2).bind fun q7 => if wr q1.1 = 1 then ((Row_get 18 a1 q7.2).bind fun q8 => (Ai_mix q7.1 q8.1 q8.2).bind fun q9 => (Row_get 20 a1 q9.2).bind fun q10 => (Ai_mix q9.1 q10.1 q10.2).bind fun q11 => (Rul_mixText q11.1 (2 * a1) q11.2).bind fun q12 => (Ai_mix q12.1 32 q12.2).bind fun q13 => (Rul_mixText q13.1 ((2 * a1) + 1) q13.2).bind fun q14 => some (q14.1, q14.2)) else ((Rul_mixText q7.1 (2 * a1) q7.2).bind fun q15 => some (q15.1, q15.2)))
set_option maxRecDepth 100000 in
set_option maxHeartbeats 4000000 in
theorem c_Rul_mixRule {l : Launch} {w : Wd} (hW : shp w = ShA) (a0 : Int) (a1 : Int) (σ : Mem)  : Ctr l w yX7_mixRule cX7_mixRule 7 (some .long) (rmN 2 48) 2 [rf w 11, jv a0, iv a1] σ (Rul_mixRule a0 a1 σ) := by
  refine met_of (own := RX7) (by decide) rfl rfl rfl (Nat.le_of_ble_eq_true rfl) (fun X x hXl hN hS => ⟨[some (rf w 11), some (jv a0), none, some (iv a1), none, none, none], ⟨3, rfl⟩, ?_⟩)
  subst hXl
  unfold Rul_mixRule
  refine a_aload_n hS dX7_mixRule_0 rfl ?_
  refine a_getR hS (j := 12) dX7_mixRule_1 flX7_14 (sA11 hW) rfl ?_
  refine a_iload_n hS dX7_mixRule_4 rfl ?_
  refine a_callVi hS (rst := []) (c_Row_get hW 12 a1 σ iRow12) miX5_get mlX7_38 (sA12 hW) rfl rfl (Nat.le_of_ble_eq_true rfl) (Nat.le_of_ble_eq_true rfl) (Nat.le_of_ble_eq_true rfl) rfl dX7_mixRule_5 (fun q1 => ?_)
  refine a_istore hS (L' := [some (rf w 11), some (jv a0), none, some (iv a1), some (iv q1.1), none, none]) dX7_mixRule_8 hN (Nat.le_of_ble_eq_true rfl) rfl rfl ?_
  refine a_lload_n hS dX7_mixRule_10 rfl ?_
  refine a_iload hS dX7_mixRule_11 rfl ?_
  refine a_callSNj hS (rst := []) (c_Ai_mix hW a0 q1.1 q1.2 ) msX11_mix nwX7_56 rfl (Nat.le_of_ble_eq_true rfl) (Nat.le_of_ble_eq_true rfl) (Nat.le_of_ble_eq_true rfl) rfl dX7_mixRule_13 (fun q2 => ?_)
  refine a_lstore hS (L' := [some (rf w 11), some (jv a0), none, some (iv a1), some (iv q1.1), some (jv q2.1), none]) dX7_mixRule_16 hN (Nat.le_of_ble_eq_true rfl) rfl rfl ?_
  refine a_aload_n hS dX7_mixRule_18 rfl ?_
  refine a_iload_n hS dX7_mixRule_19 rfl ?_
  refine a_callVi hS (rst := []) (c_Rul_has hW a1 q2.2 ) miX7_has mlX7_42 (sA11 hW) rfl rfl (Nat.le_of_ble_eq_true rfl) (Nat.le_of_ble_eq_true rfl) (Nat.le_of_ble_eq_true rfl) rfl dX7_mixRule_20 (fun q3 => ?_)
  refine a_ifne hS rfl  (tgt := 29) dX7_mixRule_23 (by decide) ?_ ?_
  · refine a_lload hS dX7_mixRule_29 rfl ?_
    refine a_aload_n hS dX7_mixRule_31 rfl ?_
    refine a_getR hS (j := 14) dX7_mixRule_32 flX7_20 (sA11 hW) rfl ?_
    refine a_iload_n hS dX7_mixRule_35 rfl ?_
    refine a_callVi hS (rst := [jv q2.1]) (c_Row_get hW 14 a1 q3.2 iRow14) miX5_get mlX7_38 (sA14 hW) rfl rfl (Nat.le_of_ble_eq_true rfl) (Nat.le_of_ble_eq_true rfl) (Nat.le_of_ble_eq_true rfl) rfl dX7_mixRule_36 (fun q4 => ?_)
    refine a_callSNj hS (rst := []) (c_Ai_mix hW q2.1 q4.1 q4.2 ) msX11_mix nwX7_56 rfl (Nat.le_of_ble_eq_true rfl) (Nat.le_of_ble_eq_true rfl) (Nat.le_of_ble_eq_true rfl) rfl dX7_mixRule_39 (fun q5 => ?_)
    refine a_aload_n hS dX7_mixRule_42 rfl ?_
    refine a_getR hS (j := 16) dX7_mixRule_43 flX7_23 (sA11 hW) rfl ?_
    refine a_iload_n hS dX7_mixRule_46 rfl ?_
    refine a_callVi hS (rst := [jv q5.1]) (c_Row_get hW 16 a1 q5.2 iRow16) miX5_get mlX7_38 (sA16 hW) rfl rfl (Nat.le_of_ble_eq_true rfl) (Nat.le_of_ble_eq_true rfl) (Nat.le_of_ble_eq_true rfl) rfl dX7_mixRule_47 (fun q6 => ?_)
    refine a_callSNj hS (rst := []) (c_Ai_mix hW q5.1 q6.1 q6.2 ) msX11_mix nwX7_56 rfl (Nat.le_of_ble_eq_true rfl) (Nat.le_of_ble_eq_true rfl) (Nat.le_of_ble_eq_true rfl) rfl dX7_mixRule_50 (fun q7 => ?_)
    refine a_lstore hS (L' := [some (rf w 11), some (jv a0), none, some (iv a1), some (iv q1.1), some (jv q7.1), none]) dX7_mixRule_53 hN (Nat.le_of_ble_eq_true rfl) rfl rfl ?_
    refine a_iload hS dX7_mixRule_55 rfl ?_
    refine a_iconst hS dX7_mixRule_57 ?_
    refine a_icmpeq hS rfl (wl 1 rfl) (tgt := 71) dX7_mixRule_58 (by decide) ?_ ?_
    · refine a_lload hS dX7_mixRule_71 rfl ?_
      refine a_aload_n hS dX7_mixRule_73 rfl ?_
      refine a_getR hS (j := 18) dX7_mixRule_74 flX7_26 (sA11 hW) rfl ?_
      refine a_iload_n hS dX7_mixRule_77 rfl ?_
      refine a_callVi hS (rst := [jv q7.1]) (c_Row_get hW 18 a1 q7.2 iRow18) miX5_get mlX7_38 (sA18 hW) rfl rfl (Nat.le_of_ble_eq_true rfl) (Nat.le_of_ble_eq_true rfl) (Nat.le_of_ble_eq_true rfl) rfl dX7_mixRule_78 (fun q8 => ?_)
      refine a_callSNj hS (rst := []) (c_Ai_mix hW q7.1 q8.1 q8.2 ) msX11_mix nwX7_56 rfl (Nat.le_of_ble_eq_true rfl) (Nat.le_of_ble_eq_true rfl) (Nat.le_of_ble_eq_true rfl) rfl dX7_mixRule_81 (fun q9 => ?_)
      refine a_aload_n hS dX7_mixRule_84 rfl ?_
      refine a_getR hS (j := 20) dX7_mixRule_85 flX7_29 (sA11 hW) rfl ?_
      refine a_iload_n hS dX7_mixRule_88 rfl ?_
      refine a_callVi hS (rst := [jv q9.1]) (c_Row_get hW 20 a1 q9.2 iRow20) miX5_get mlX7_38 (sA20 hW) rfl rfl (Nat.le_of_ble_eq_true rfl) (Nat.le_of_ble_eq_true rfl) (Nat.le_of_ble_eq_true rfl) rfl dX7_mixRule_89 (fun q10 => ?_)
      refine a_callSNj hS (rst := []) (c_Ai_mix hW q9.1 q10.1 q10.2 ) msX11_mix nwX7_56 rfl (Nat.le_of_ble_eq_true rfl) (Nat.le_of_ble_eq_true rfl) (Nat.le_of_ble_eq_true rfl) rfl dX7_mixRule_92 (fun q11 => ?_)
      refine a_lstore hS (L' := [some (rf w 11), some (jv a0), none, some (iv a1), some (iv q1.1), some (jv q11.1), none]) dX7_mixRule_95 hN (Nat.le_of_ble_eq_true rfl) rfl rfl ?_
      refine a_aload_n hS dX7_mixRule_97 rfl ?_
      refine a_aload_n hS dX7_mixRule_98 rfl ?_
      refine a_lload hS dX7_mixRule_99 rfl ?_
      refine a_iconst hS dX7_mixRule_101 ?_
      refine a_iload_n hS dX7_mixRule_102 rfl ?_
      refine a_imul hS dX7_mixRule_103 ?_
      refine a_callVj hS (rst := [rf w 11]) (c_Rul_mixText hW q11.1 (2 * a1) q11.2 ) miX7_mixText mlX7_60 (sA11 hW) rfl rfl (Nat.le_of_ble_eq_true rfl) (Nat.le_of_ble_eq_true rfl) (Nat.le_of_ble_eq_true rfl) rfl dX7_mixRule_104 (fun q12 => ?_)
      refine a_bipush hS dX7_mixRule_107 rfl ?_
      refine a_callSNj hS (rst := [rf w 11]) (c_Ai_mix hW q12.1 32 q12.2 ) msX11_mix nwX7_56 rfl (Nat.le_of_ble_eq_true rfl) (Nat.le_of_ble_eq_true rfl) (Nat.le_of_ble_eq_true rfl) rfl dX7_mixRule_109 (fun q13 => ?_)
      refine a_iconst hS dX7_mixRule_112 ?_
      refine a_iload_n hS dX7_mixRule_113 rfl ?_
      refine a_imul hS dX7_mixRule_114 ?_
      refine a_iconst hS dX7_mixRule_115 ?_
      refine a_iadd hS dX7_mixRule_116 ?_
      refine a_callVj hS (rst := []) (c_Rul_mixText hW q13.1 ((2 * a1) + 1) q13.2 ) miX7_mixText mlX7_60 (sA11 hW) rfl rfl (Nat.le_of_ble_eq_true rfl) (Nat.le_of_ble_eq_true rfl) (Nat.le_of_ble_eq_true rfl) rfl dX7_mixRule_117 (fun q14 => ?_)
      exact a_lret hS rfl rfl dX7_mixRule_120
    · refine a_aload_n hS dX7_mixRule_61 rfl ?_
      refine a_lload hS dX7_mixRule_62 rfl ?_
      refine a_iconst hS dX7_mixRule_64 ?_
      refine a_iload_n hS dX7_mixRule_65 rfl ?_
      refine a_imul hS dX7_mixRule_66 ?_
      refine a_callVj hS (rst := []) (c_Rul_mixText hW q7.1 (2 * a1) q7.2 ) miX7_mixText mlX7_60 (sA11 hW) rfl rfl (Nat.le_of_ble_eq_true rfl) (Nat.le_of_ble_eq_true rfl) (Nat.le_of_ble_eq_true rfl) rfl dX7_mixRule_67 (fun q15 => ?_)
      exact a_lret hS rfl rfl dX7_mixRule_70
  · refine a_lload hS dX7_mixRule_26 rfl ?_
    exact a_lret hS rfl rfl dX7_mixRule_28
