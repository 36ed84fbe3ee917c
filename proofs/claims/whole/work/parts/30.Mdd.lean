noncomputable def Md_draw_23b   (r23 : Int → Int → Mem → Option (Int × Mem)) (x2 : Int) (x3 : Int) (σ : Mem) : Option (Int × Mem) := if wr x3 < wr x2 then (if 0 ≤ wr 0 ∧ wr 0 < (10780 : Int) then (if wr (σ 1 (wr 0).toNat) < 20 then ((Md_drawsLine  σ).bind fun q4 => r23 x2 (x3 + 1) q4.2) else (some (x3, σ))) else none) else (some (x3, σ))
noncomputable def Md_draw_23   (n : Nat) : Int → Int → Mem → Option (Int × Mem) := fixN (fun _ _ _ => none) (Md_draw_23b  ) n
noncomputable def Md_draw (a0 : Int) (a1 : Int) (σ : Mem) : Option (Int × Mem) := (Md_in a1 1 12 σ).bind fun q1 => if wr q1.1 = 0 then (some ((-1), q1.2)) else ((Md_begins  q1.2).bind fun q2 => letM (upM q2.2 0 37 a0) fun s3 => Md_draw_23 100000 a1 0 s3)
set_option maxRecDepth 100000 in
set_option maxHeartbeats 4000000 in
theorem k_Md_draw_23 {X : Cx} {w : Wd} {x : Int × Mem} (hS : Std X (rmN 2 46) w cX12_draw RX12 (some .int)) (hN : cxn X = 4) (hW : shp w = ShB)   : ∀ (n : Nat) (x2 : Int) (x3 : Int) (σ : Mem), Sm X (rmN 2 46) w 1 x 23 [some (rf w 0), none, some (iv x2), some (iv x3)] [] σ (Md_draw_23   n x2 x3 σ) := by
  refine fix_ok (P := fun (r23 : Int → Int → Mem → Option (Int × Mem)) => ∀ (x2 : Int) (x3 : Int) (σ : Mem), Sm X (rmN 2 46) w 1 x 23 [some (rf w 0), none, some (iv x2), some (iv x3)] [] σ (r23 x2 x3 σ)) (fun _ _ _ => a_none) (fun r23 hr23 => ?_)
  intro x2 x3 σ
  unfold Md_draw_23b
  refine a_iload_n hS dX12_draw_23 rfl ?_
  refine a_iload_n hS dX12_draw_24 rfl ?_
  refine a_icmpge hS rfl rfl (tgt := 49) dX12_draw_25 (by decide) ?_ ?_
  · refine a_iload_n hS dX12_draw_49 rfl ?_
    exact a_iret hS rfl rfl dX12_draw_50
  · refine a_aload_n hS dX12_draw_28 rfl ?_
    refine a_getR hS (j := 1) dX12_draw_29 flX12_7 (sB0 hW) rfl ?_
    refine a_iconst hS dX12_draw_32 ?_
    refine a_iald hS dX12_draw_33 (sB1 hW) ?_
    refine a_bipush hS dX12_draw_34 rfl ?_
    refine a_icmpge hS rfl (wl 20 rfl) (tgt := 49) dX12_draw_36 (by decide) ?_ ?_
    · refine a_iload_n hS dX12_draw_49 rfl ?_
      exact a_iret hS rfl rfl dX12_draw_50
    · refine a_aload_n hS dX12_draw_39 rfl ?_
      refine a_callVv hS (rst := []) (c_Md_drawsLine hW  σ ) miX12_drawsLine mlX12_306 (sB0 hW) rfl rfl (Nat.le_of_ble_eq_true rfl) (Nat.le_of_ble_eq_true rfl) (Nat.le_of_ble_eq_true rfl) rfl dX12_draw_40 (fun q4 => ?_)
      refine a_iinc hS (L' := [some (rf w 0), none, some (iv x2), some (iv (x3 + 1))]) dX12_draw_43 rfl hN (Nat.le_of_ble_eq_true rfl) rfl rfl ?_
      refine a_goto hS (tgt := 23) dX12_draw_46 (by decide) ?_
      exact hr23 x2 (x3 + 1) q4.2
set_option maxRecDepth 100000 in
set_option maxHeartbeats 4000000 in
theorem c_Md_draw {l : Launch} {w : Wd} (hW : shp w = ShB) (a0 : Int) (a1 : Int) (σ : Mem)  : Ctr l w yX12_draw cX12_draw 4 (some .int) (rmN 2 46) 1 [rf w 0, iv a0, iv a1] σ (Md_draw a0 a1 σ) := by
  refine met_of (own := RX12) (by decide) rfl rfl rfl (Nat.le_of_ble_eq_true rfl) (fun X x hXl hN hS => ⟨[some (rf w 0), some (iv a0), some (iv a1), none], ⟨1, rfl⟩, ?_⟩)
  subst hXl
  unfold Md_draw
  refine a_iload_n hS dX12_draw_0 rfl ?_
  refine a_iconst hS dX12_draw_1 ?_
  refine a_bipush hS dX12_draw_2 rfl ?_
  refine a_callSi hS (rst := []) (c_Md_in hW a1 1 12 σ ) msX12_in mlX12_79 rfl (Nat.le_of_ble_eq_true rfl) (Nat.le_of_ble_eq_true rfl) (Nat.le_of_ble_eq_true rfl) rfl dX12_draw_4 (fun q1 => ?_)
  refine a_ifne hS rfl  (tgt := 12) dX12_draw_7 (by decide) ?_ ?_
  · refine a_aload_n hS dX12_draw_12 rfl ?_
    refine a_callVv hS (rst := []) (c_Md_begins hW  q1.2 ) miX12_begins mlX12_207 (sB0 hW) rfl rfl (Nat.le_of_ble_eq_true rfl) (Nat.le_of_ble_eq_true rfl) (Nat.le_of_ble_eq_true rfl) rfl dX12_draw_13 (fun q2 => ?_)
    refine a_aload_n hS dX12_draw_16 rfl ?_
    refine a_iload_n hS dX12_draw_17 rfl ?_
    refine a_putI hS dX12_draw_18 plX12_299 (sB0 hW) rfl ?_
    refine a_letM (fun s3 => ?_)
    refine a_iconst hS dX12_draw_21 ?_
    refine a_istore_n hS (L' := [some (rf w 0), some (iv a0), some (iv a1), some (iv 0)]) dX12_draw_22 hN (Nat.le_of_ble_eq_true rfl) rfl rfl ?_
    exact a_live (M := [true, false, true, true]) (k_Md_draw_23 hS hN hW   100000 a1 0 s3) rfl
  · refine a_iconst hS dX12_draw_10 ?_
    exact a_iret hS rfl rfl dX12_draw_11
noncomputable def Md_mixes (a0 : Int) (σ : Mem) : Option (Int × Mem) := letM (upM σ 0 40 ((31 * (σ 0 40)) + (wr a0))) fun s1 => some (0, s1)
set_option maxRecDepth 100000 in
set_option maxHeartbeats 4000000 in
theorem c_Md_mixes {l : Launch} {w : Wd} (hW : shp w = ShB) (a0 : Int) (σ : Mem)  : Ctr l w yX12_mixes cX12_mixes 2 none (rmN 0 0) 0 [rf w 0, iv a0] σ (Md_mixes a0 σ) := by
  refine met_of (own := RX12) (by decide) rfl rfl rfl (Nat.le_of_ble_eq_true rfl) (fun X x hXl hN hS => ⟨[some (rf w 0), some (iv a0)], ⟨0, rfl⟩, ?_⟩)
  subst hXl
  unfold Md_mixes
  refine a_aload_n hS dX12_mixes_0 rfl ?_
  refine a_ldc2 hS (n := 31) dX12_mixes_1 (WL_in (tb7 (List.mem_of_getElem? (i := 205) rfl)) rfl) rfl ?_
  refine a_aload_n hS dX12_mixes_4 rfl ?_
  refine a_getJ hS dX12_mixes_5 flX12_311 (sB0 hW) rfl ?_
  refine a_lmul hS dX12_mixes_8 ?_
  refine a_iload_n hS dX12_mixes_9 rfl ?_
  refine a_i2l hS dX12_mixes_10 ?_
  refine a_ladd hS dX12_mixes_11 ?_
  refine a_putJ hS dX12_mixes_12 plX12_311 (sB0 hW) rfl ?_
  refine a_letM (fun s1 => ?_)
  exact a_vret hS rfl rfl dX12_mixes_15
noncomputable def Md_mixesText_2b   (r2 : Int → Int → Mem → Option (Int × Mem)) (x1 : Int) (x2 : Int) (σ : Mem) : Option (Int × Mem) := if 0 ≤ wr x1 ∧ wr x1 < (10780 : Int) then (if wr x2 < wr (σ 1 (wr x1).toNat) then (if 0 ≤ wr ((x1 + 1) + x2) ∧ wr ((x1 + 1) + x2) < (10780 : Int) then ((Md_mixes (σ 1 (wr ((x1 + 1) + x2)).toNat) σ).bind fun q1 => r2 x1 (x2 + 1) q1.2) else none) else (some (0, σ))) else none
noncomputable def Md_mixesText_2   (n : Nat) : Int → Int → Mem → Option (Int × Mem) := fixN (fun _ _ _ => none) (Md_mixesText_2b  ) n
noncomputable def Md_mixesText (a0 : Int) (σ : Mem) : Option (Int × Mem) := Md_mixesText_2 100000 a0 0 σ
set_option maxRecDepth 100000 in
set_option maxHeartbeats 4000000 in
theorem k_Md_mixesText_2 {X : Cx} {w : Wd} {x : Int × Mem} (hS : Std X (rmN 1 21) w cX12_mixesText RX12 none) (hN : cxn X = 3) (hW : shp w = ShB)   : ∀ (n : Nat) (x1 : Int) (x2 : Int) (σ : Mem), Sm X (rmN 1 21) w 0 x 2 [some (rf w 0), some (iv x1), some (iv x2)] [] σ (Md_mixesText_2   n x1 x2 σ) := by
  refine fix_ok (P := fun (r2 : Int → Int → Mem → Option (Int × Mem)) => ∀ (x1 : Int) (x2 : Int) (σ : Mem), Sm X (rmN 1 21) w 0 x 2 [some (rf w 0), some (iv x1), some (iv x2)] [] σ (r2 x1 x2 σ)) (fun _ _ _ => a_none) (fun r2 hr2 => ?_)
  intro x1 x2 σ
  unfold Md_mixesText_2b
  refine a_iload_n hS dX12_mixesText_2 rfl ?_
  refine a_aload_n hS dX12_mixesText_3 rfl ?_
  refine a_getR hS (j := 1) dX12_mixesText_4 flX12_7 (sB0 hW) rfl ?_
  refine a_iload_n hS dX12_mixesText_7 rfl ?_
  refine a_iald hS dX12_mixesText_8 (sB1 hW) ?_
  refine a_icmpge hS rfl rfl (tgt := 32) dX12_mixesText_9 (by decide) ?_ ?_
  · exact a_vret hS rfl rfl dX12_mixesText_32
  · refine a_aload_n hS dX12_mixesText_12 rfl ?_
    refine a_aload_n hS dX12_mixesText_13 rfl ?_
    refine a_getR hS (j := 1) dX12_mixesText_14 flX12_7 (sB0 hW) rfl ?_
    refine a_iload_n hS dX12_mixesText_17 rfl ?_
    refine a_iconst hS dX12_mixesText_18 ?_
    refine a_iadd hS dX12_mixesText_19 ?_
    refine a_iload_n hS dX12_mixesText_20 rfl ?_
    refine a_iadd hS dX12_mixesText_21 ?_
    refine a_iald hS dX12_mixesText_22 (sB1 hW) ?_
    refine a_callVv hS (rst := []) (c_Md_mixes hW (σ 1 (wr ((x1 + 1) + x2)).toNat) σ ) miX12_mixes mlX12_315 (sB0 hW) rfl rfl (Nat.le_of_ble_eq_true rfl) (Nat.le_of_ble_eq_true rfl) (Nat.le_of_ble_eq_true rfl) rfl dX12_mixesText_23 (fun q1 => ?_)
    refine a_iinc hS (L' := [some (rf w 0), some (iv x1), some (iv (x2 + 1))]) dX12_mixesText_26 rfl hN (Nat.le_of_ble_eq_true rfl) rfl rfl ?_
    refine a_goto hS (tgt := 2) dX12_mixesText_29 (by decide) ?_
    exact hr2 x1 (x2 + 1) q1.2
set_option maxRecDepth 100000 in
set_option maxHeartbeats 4000000 in
theorem c_Md_mixesText {l : Launch} {w : Wd} (hW : shp w = ShB) (a0 : Int) (σ : Mem)  : Ctr l w yX12_mixesText cX12_mixesText 3 none (rmN 1 21) 0 [rf w 0, iv a0] σ (Md_mixesText a0 σ) := by
  refine met_of (own := RX12) (by decide) rfl rfl rfl (Nat.le_of_ble_eq_true rfl) (fun X x hXl hN hS => ⟨[some (rf w 0), some (iv a0), none], ⟨1, rfl⟩, ?_⟩)
  subst hXl
  unfold Md_mixesText
  refine a_iconst hS dX12_mixesText_0 ?_
  refine a_istore_n hS (L' := [some (rf w 0), some (iv a0), some (iv 0)]) dX12_mixesText_1 hN (Nat.le_of_ble_eq_true rfl) rfl rfl ?_
  exact k_Md_mixesText_2 hS hN hW   100000 a0 0 σ
noncomputable def Md_mixesRule_81   (x2 : Int) (x3 : Int) (σ : Mem) : Option (Int × Mem) := (Md_mixesText (x2 + 5) σ).bind fun q6 => if wr x3 = 1 then ((Md_mixes 32 q6.2).bind fun q7 => (Md_mixesText (x2 + 14) q7.2).bind fun q8 => some (0, q8.2)) else (some (0, q6.2))
noncomputable def Md_mixesRule (a0 : Int) (σ : Mem) : Option (Int × Mem) := if 0 ≤ wr ((701 + (23 * a0)) + 0) ∧ wr ((701 + (23 * a0)) + 0) < (10780 : Int) then ((Md_mixes (σ 1 (wr ((701 + (23 * a0)) + 0)).toNat) σ).bind fun q1 => if wr (σ 1 (wr ((701 + (23 * a0)) + 0)).toNat) = 0 then (some (0, q1.2)) else (if 0 ≤ wr ((701 + (23 * a0)) + 1) ∧ wr ((701 + (23 * a0)) + 1) < (10780 : Int) then ((Md_mixes (q1.2 1 (wr ((701 + (23 * a0)) + 1)).toNat) q1.2).bind fun q2 => if 0 ≤ wr ((701 + (23 * a0)) + 2) ∧ wr ((701 + (23 * a0)) + 2) < (10780 : Int) then ((Md_mixes (q2.2 1 (wr ((701 + (23 * a0)) + 2)).toNat) q2.2).bind fun q3 => if wr (σ 1 (wr ((701 + (23 * a0)) + 0)).toNat) = 1 then (if 0 ≤ wr ((701 + (23 * a0)) + 3) ∧ wr ((701 + (23 * a0)) + 3) < (10780 : Int) then ((Md_mixes (q3.2 1 (wr ((701 + (23 * a0)) + 3)).toNat) q3.2).bind fun q4 => if 0 ≤ wr ((701 + (23 * a0)) + 4) ∧ wr ((701 + (23 * a0)) + 4) < (10780 : Int) then ((Md_mixes (q4.2 1 (wr ((701 + (23 * a0)) + 4)).toNat) q4.2).bind fun q5 => Md_mixesRule_81 (701 + (23 * a0)) (σ 1 (wr ((701 + (23 * a0)) + 0)).toNat) q5.2) else none) else none) else (Md_mixesRule_81 (701 + (23 * a0)) (σ 1 (wr ((701 + (23 * a0)) + 0)).toNat) q3.2)) else none) else none)) else none
set_option maxRecDepth 100000 in
set_option maxHeartbeats 4000000 in
theorem k_Md_mixesRule_81 {X : Cx} {w : Wd} {x : Int × Mem} (hS : Std X (rmN 2 43) w cX12_mixesRule RX12 none) (hN : cxn X = 4) (hW : shp w = ShB)   : ∀ (x2 : Int) (x3 : Int) (σ : Mem), Sm X (rmN 2 43) w 0 x 81 [some (rf w 0), none, some (iv x2), some (iv x3)] [] σ (Md_mixesRule_81   x2 x3 σ) := by
  intro x2 x3 σ
  unfold Md_mixesRule_81
  refine a_aload_n hS dX12_mixesRule_81 rfl ?_
  refine a_iload_n hS dX12_mixesRule_82 rfl ?_
  refine a_iconst hS dX12_mixesRule_83 ?_
  refine a_iadd hS dX12_mixesRule_84 ?_
  refine a_callVv hS (rst := []) (c_Md_mixesText hW (x2 + 5) σ ) miX12_mixesText mlX12_318 (sB0 hW) rfl rfl (Nat.le_of_ble_eq_true rfl) (Nat.le_of_ble_eq_true rfl) (Nat.le_of_ble_eq_true rfl) rfl dX12_mixesRule_85 (fun q6 => ?_)
  refine a_iload_n hS dX12_mixesRule_88 rfl ?_
  refine a_iconst hS dX12_mixesRule_89 ?_
  refine a_icmpne hS rfl (wl 1 rfl) (tgt := 107) dX12_mixesRule_90 (by decide) ?_ ?_
  · exact a_vret hS rfl rfl dX12_mixesRule_107
  · refine a_aload_n hS dX12_mixesRule_93 rfl ?_
    refine a_bipush hS dX12_mixesRule_94 rfl ?_
    refine a_callVv hS (rst := []) (c_Md_mixes hW 32 q6.2 ) miX12_mixes mlX12_315 (sB0 hW) rfl rfl (Nat.le_of_ble_eq_true rfl) (Nat.le_of_ble_eq_true rfl) (Nat.le_of_ble_eq_true rfl) rfl dX12_mixesRule_96 (fun q7 => ?_)
    refine a_aload_n hS dX12_mixesRule_99 rfl ?_
    refine a_iload_n hS dX12_mixesRule_100 rfl ?_
    refine a_bipush hS dX12_mixesRule_101 rfl ?_
    refine a_iadd hS dX12_mixesRule_103 ?_
    refine a_callVv hS (rst := []) (c_Md_mixesText hW (x2 + 14) q7.2 ) miX12_mixesText mlX12_318 (sB0 hW) rfl rfl (Nat.le_of_ble_eq_true rfl) (Nat.le_of_ble_eq_true rfl) (Nat.le_of_ble_eq_true rfl) rfl dX12_mixesRule_104 (fun q8 => ?_)
    exact a_vret hS rfl rfl dX12_mixesRule_107
set_option maxRecDepth 100000 in
set_option maxHeartbeats 4000000 in
theorem c_Md_mixesRule {l : Launch} {w : Wd} (hW : shp w = ShB) (a0 : Int) (σ : Mem)  : Ctr l w yX12_mixesRule cX12_mixesRule 4 none (rmN 2 43) 0 [rf w 0, iv a0] σ (Md_mixesRule a0 σ) := by
  refine met_of (own := RX12) (by decide) rfl rfl rfl (Nat.le_of_ble_eq_true rfl) (fun X x hXl hN hS => ⟨[some (rf w 0), some (iv a0), none, none], ⟨2, rfl⟩, ?_⟩)
  subst hXl
  unfold Md_mixesRule
  refine a_sipush hS dX12_mixesRule_0 rfl ?_
  refine a_bipush hS dX12_mixesRule_3 rfl ?_
  refine a_iload_n hS dX12_mixesRule_5 rfl ?_
  refine a_imul hS dX12_mixesRule_6 ?_
  refine a_iadd hS dX12_mixesRule_7 ?_
  refine a_istore_n hS (L' := [some (rf w 0), some (iv a0), some (iv (701 + (23 * a0))), none]) dX12_mixesRule_8 hN (Nat.le_of_ble_eq_true rfl) rfl rfl ?_
  refine a_aload_n hS dX12_mixesRule_9 rfl ?_
  refine a_getR hS (j := 1) dX12_mixesRule_10 flX12_7 (sB0 hW) rfl ?_
  refine a_iload_n hS dX12_mixesRule_13 rfl ?_
  refine a_iconst hS dX12_mixesRule_14 ?_
  refine a_iadd hS dX12_mixesRule_15 ?_
  refine a_iald hS dX12_mixesRule_16 (sB1 hW) ?_
  refine a_istore_n hS (L' := [some (rf w 0), some (iv a0), some (iv (701 + (23 * a0))), some (iv (σ 1 (wr ((701 + (23 * a0)) + 0)).toNat))]) dX12_mixesRule_17 hN (Nat.le_of_ble_eq_true rfl) rfl rfl ?_
  refine a_aload_n hS dX12_mixesRule_18 rfl ?_
  refine a_iload_n hS dX12_mixesRule_19 rfl ?_
  refine a_callVv hS (rst := []) (c_Md_mixes hW (σ 1 (wr ((701 + (23 * a0)) + 0)).toNat) σ ) miX12_mixes mlX12_315 (sB0 hW) rfl rfl (Nat.le_of_ble_eq_true rfl) (Nat.le_of_ble_eq_true rfl) (Nat.le_of_ble_eq_true rfl) rfl dX12_mixesRule_20 (fun q1 => ?_)
  refine a_iload_n hS dX12_mixesRule_23 rfl ?_
  refine a_ifne hS rfl  (tgt := 28) dX12_mixesRule_24 (by decide) ?_ ?_
  · refine a_aload_n hS dX12_mixesRule_28 rfl ?_
    refine a_aload_n hS dX12_mixesRule_29 rfl ?_
    refine a_getR hS (j := 1) dX12_mixesRule_30 flX12_7 (sB0 hW) rfl ?_
    refine a_iload_n hS dX12_mixesRule_33 rfl ?_
    refine a_iconst hS dX12_mixesRule_34 ?_
    refine a_iadd hS dX12_mixesRule_35 ?_
    refine a_iald hS dX12_mixesRule_36 (sB1 hW) ?_
    refine a_callVv hS (rst := []) (c_Md_mixes hW (q1.2 1 (wr ((701 + (23 * a0)) + 1)).toNat) q1.2 ) miX12_mixes mlX12_315 (sB0 hW) rfl rfl (Nat.le_of_ble_eq_true rfl) (Nat.le_of_ble_eq_true rfl) (Nat.le_of_ble_eq_true rfl) rfl dX12_mixesRule_37 (fun q2 => ?_)
    refine a_aload_n hS dX12_mixesRule_40 rfl ?_
    refine a_aload_n hS dX12_mixesRule_41 rfl ?_
    refine a_getR hS (j := 1) dX12_mixesRule_42 flX12_7 (sB0 hW) rfl ?_
    refine a_iload_n hS dX12_mixesRule_45 rfl ?_
    refine a_iconst hS dX12_mixesRule_46 ?_
    refine a_iadd hS dX12_mixesRule_47 ?_
    refine a_iald hS dX12_mixesRule_48 (sB1 hW) ?_
    refine a_callVv hS (rst := []) (c_Md_mixes hW (q2.2 1 (wr ((701 + (23 * a0)) + 2)).toNat) q2.2 ) miX12_mixes mlX12_315 (sB0 hW) rfl rfl (Nat.le_of_ble_eq_true rfl) (Nat.le_of_ble_eq_true rfl) (Nat.le_of_ble_eq_true rfl) rfl dX12_mixesRule_49 (fun q3 => ?_)
    refine a_iload_n hS dX12_mixesRule_52 rfl ?_
    refine a_iconst hS dX12_mixesRule_53 ?_
    refine a_icmpne hS rfl (wl 1 rfl) (tgt := 81) dX12_mixesRule_54 (by decide) ?_ ?_
    · exact a_live (M := [true, false, true, true]) (k_Md_mixesRule_81 hS hN hW   (701 + (23 * a0)) (σ 1 (wr ((701 + (23 * a0)) + 0)).toNat) q3.2) rfl
    · refine a_aload_n hS dX12_mixesRule_57 rfl ?_
      refine a_aload_n hS dX12_mixesRule_58 rfl ?_
      refine a_getR hS (j := 1) dX12_mixesRule_59 flX12_7 (sB0 hW) rfl ?_
      refine a_iload_n hS dX12_mixesRule_62 rfl ?_
      refine a_iconst hS dX12_mixesRule_63 ?_
      refine a_iadd hS dX12_mixesRule_64 ?_
      refine a_iald hS dX12_mixesRule_65 (sB1 hW) ?_
      refine a_callVv hS (rst := []) (c_Md_mixes hW (q3.2 1 (wr ((701 + (23 * a0)) + 3)).toNat) q3.2 ) miX12_mixes mlX12_315 (sB0 hW) rfl rfl (Nat.le_of_ble_eq_true rfl) (Nat.le_of_ble_eq_true rfl) (Nat.le_of_ble_eq_true rfl) rfl dX12_mixesRule_66 (fun q4 => ?_)
      refine a_aload_n hS dX12_mixesRule_69 rfl ?_
      refine a_aload_n hS dX12_mixesRule_70 rfl ?_
      refine a_getR hS (j := 1) dX12_mixesRule_71 flX12_7 (sB0 hW) rfl ?_
      refine a_iload_n hS dX12_mixesRule_74 rfl ?_
      refine a_iconst hS dX12_mixesRule_75 ?_
      refine a_iadd hS dX12_mixesRule_76 ?_
      refine a_iald hS dX12_mixesRule_77 (sB1 hW) ?_
      refine a_callVv hS (rst := []) (c_Md_mixes hW (q4.2 1 (wr ((701 + (23 * a0)) + 4)).toNat) q4.2 ) miX12_mixes mlX12_315 (sB0 hW) rfl rfl (Nat.le_of_ble_eq_true rfl) (Nat.le_of_ble_eq_true rfl) (Nat.le_of_ble_eq_true rfl) rfl dX12_mixesRule_78 (fun q5 => ?_)
      exact a_live (M := [true, false, true, true]) (k_Md_mixesRule_81 hS hN hW   (701 + (23 * a0)) (σ 1 (wr ((701 + (23 * a0)) + 0)).toNat) q5.2) rfl
  · exact a_vret hS rfl rfl dX12_mixesRule_27
noncomputable def Md_digest_133 (r39 : Int → Mem → Option (Int × Mem))  (x1 : Int) (x2 : Int) (σ : Mem) : Option (Int × Mem) := if wr x2 = 0 then ((Md_mixes (-9) σ).bind fun q14 => r39 (x1 + 1) q14.2) else ((Md_mixes (σ 0 24) σ).bind fun q15 => r39 (x1 + 1) q15.2)
noncomputable def Md_digest_76b (r39 : Int → Mem → Option (Int × Mem))  (r76 : Int → Int → Mem → Option (Int × Mem)) (x1 : Int) (x2 : Int) (σ : Mem) : Option (Int × Mem) := if 0 ≤ wr (21 + x1) ∧ wr (21 + x1) < (10780 : Int) then (if wr x2 < wr (σ 1 (wr (21 + x1)).toNat) then ((Md_contentAt x1 x2 σ).bind fun q12 => (Md_mixes q12.1 q12.2).bind fun q13 => r76 x1 (x2 + 1) q13.2) else (if 0 ≤ wr (41 + x1) ∧ wr (41 + x1) < (10780 : Int) then ((Md_mixes (σ 1 (wr (41 + x1)).toNat) σ).bind fun q9 => (Md_isFree x1 q9.2).bind fun q10 => if wr q10.1 = 0 then (Md_digest_133 r39 x1 q10.1 q10.2) else ((Md_decides x1 q10.2).bind fun q11 => Md_digest_133 r39 x1 q10.1 q11.2)) else none)) else none
noncomputable def Md_digest_76 (r39 : Int → Mem → Option (Int × Mem))  (n : Nat) : Int → Int → Mem → Option (Int × Mem) := fixN (fun _ _ _ => none) (Md_digest_76b r39 ) n
noncomputable def Md_digest_234   (y0 : Int) (σ : Mem) : Option (Int × Mem) := if 0 ≤ wr 1 ∧ wr 1 < (2 : Int) then (if wr (σ 2 (wr 1).toNat) = 0 then ((Md_mixes (y0 + 0) σ).bind fun q18 => (Md_mixes (q18.2 0 4) q18.2).bind fun q19 => some ((q19.2 0 40), q19.2)) else ((Md_mixes (y0 + 1) σ).bind fun q20 => (Md_mixes (q20.2 0 4) q20.2).bind fun q21 => some ((q21.2 0 40), q21.2))) else none
noncomputable def Md_digest_194b   (r194 : Int → Mem → Option (Int × Mem)) (x1 : Int) (σ : Mem) : Option (Int × Mem) := if wr x1 < 12 then ((Md_mixesRule x1 σ).bind fun q17 => r194 (x1 + 1) q17.2) else ((Md_mixes (σ 0 1) σ).bind fun q16 => if 0 ≤ wr 0 ∧ wr 0 < (2 : Int) then (if wr (q16.2 2 (wr 0).toNat) = 0 then (Md_digest_234 0 q16.2) else (Md_digest_234 1 q16.2)) else none)
noncomputable def Md_digest_194   (n : Nat) : Int → Mem → Option (Int × Mem) := fixN (fun _ _ => none) (Md_digest_194b  ) n
noncomputable def Md_digest_39b   (r39 : Int → Mem → Option (Int × Mem)) (x1 : Int) (σ : Mem) : Option (Int × Mem) := if 0 ≤ wr 0 ∧ wr 0 < (10780 : Int) then (if wr x1 < wr (σ 1 (wr 0).toNat) then (if 0 ≤ wr (1 + x1) ∧ wr (1 + x1) < (10780 : Int) then ((Md_mixes (σ 1 (wr (1 + x1)).toNat) σ).bind fun q7 => if 0 ≤ wr (21 + x1) ∧ wr (21 + x1) < (10780 : Int) then ((Md_mixes (q7.2 1 (wr (21 + x1)).toNat) q7.2).bind fun q8 => Md_digest_76 r39 100000 x1 0 q8.2) else none) else none) else (if 0 ≤ wr 977 ∧ wr 977 < (10780 : Int) then ((Md_mixes (σ 1 (wr 977).toNat) σ).bind fun q4 => if 0 ≤ wr 978 ∧ wr 978 < (10780 : Int) then ((Md_mixes (q4.2 1 (wr 978).toNat) q4.2).bind fun q5 => if 0 ≤ wr 979 ∧ wr 979 < (10780 : Int) then ((Md_mixes (q5.2 1 (wr 979).toNat) q5.2).bind fun q6 => Md_digest_194 100000 0 q6.2) else none) else none) else none)) else none
noncomputable def Md_digest_39   (n : Nat) : Int → Mem → Option (Int × Mem) := fixN (fun _ _ => none) (Md_digest_39b  ) n
noncomputable def Md_digest  (σ : Mem) : Option (Int × Mem) := letM (upM σ 0 40 18310) fun s1 => if 0 ≤ wr 0 ∧ wr 0 < (10780 : Int) then ((Md_mixes (s1 1 (wr 0).toNat) s1).bind fun q2 => if 0 ≤ wr 977 ∧ wr 977 < (10780 : Int) then (if 0 ≤ wr 978 ∧ wr 978 < (10780 : Int) then ((Md_uses (q2.2 1 (wr 977).toNat) (q2.2 1 (wr 978).toNat) q2.2).bind fun q3 => Md_digest_39 100000 0 q3.2) else none) else none) else none
set_option maxRecDepth 100000 in
set_option maxHeartbeats 4000000 in
theorem k_Md_digest_133 {X : Cx} {w : Wd} {x : Int × Mem} (hS : Std X (rmN 7 161) w cX12_digest RX12 (some .long)) (hN : cxn X = 3) (hW : shp w = ShB)  (r39 : Int → Mem → Option (Int × Mem)) (hr39 : ∀ (x1 : Int) (σ : Mem), Sm X (rmN 7 161) w 2 x 39 [some (rf w 0), some (iv x1), none] [] σ (r39 x1 σ)) : ∀ (x1 : Int) (x2 : Int) (σ : Mem), Sm X (rmN 7 161) w 2 x 133 [some (rf w 0), some (iv x1), some (iv x2)] [] σ (Md_digest_133 r39  x1 x2 σ) := by
  intro x1 x2 σ
  unfold Md_digest_133
  refine a_aload_n hS dX12_digest_133 rfl ?_
  refine a_iload_n hS dX12_digest_134 rfl ?_
  refine a_ifeq hS rfl  (tgt := 145) dX12_digest_135 (by decide) ?_ ?_
  · refine a_bipush hS dX12_digest_145 rfl ?_
    refine a_callVv hS (rst := []) (c_Md_mixes hW (-9) σ ) miX12_mixes mlX12_315 (sB0 hW) rfl rfl (Nat.le_of_ble_eq_true rfl) (Nat.le_of_ble_eq_true rfl) (Nat.le_of_ble_eq_true rfl) rfl dX12_digest_147 (fun q14 => ?_)
    refine a_iinc hS (L' := [some (rf w 0), some (iv (x1 + 1)), some (iv x2)]) dX12_digest_150 rfl hN (Nat.le_of_ble_eq_true rfl) rfl rfl ?_
    refine a_goto hS (tgt := 39) dX12_digest_153 (by decide) ?_
    exact a_live (M := [true, true, false]) (hr39 (x1 + 1) q14.2) rfl
  · refine a_aload_n hS dX12_digest_138 rfl ?_
    refine a_getI hS dX12_digest_139 flX12_170 (sB0 hW) rfl ?_
    refine a_goto hS (tgt := 147) dX12_digest_142 (by decide) ?_
    refine a_callVv hS (rst := []) (c_Md_mixes hW (σ 0 24) σ ) miX12_mixes mlX12_315 (sB0 hW) rfl rfl (Nat.le_of_ble_eq_true rfl) (Nat.le_of_ble_eq_true rfl) (Nat.le_of_ble_eq_true rfl) rfl dX12_digest_147 (fun q15 => ?_)
    refine a_iinc hS (L' := [some (rf w 0), some (iv (x1 + 1)), some (iv x2)]) dX12_digest_150 rfl hN (Nat.le_of_ble_eq_true rfl) rfl rfl ?_
    refine a_goto hS (tgt := 39) dX12_digest_153 (by decide) ?_
    exact a_live (M := [true, true, false]) (hr39 (x1 + 1) q15.2) rfl
set_option maxRecDepth 100000 in
set_option maxHeartbeats 4000000 in
theorem k_Md_digest_76 {X : Cx} {w : Wd} {x : Int × Mem} (hS : Std X (rmN 7 161) w cX12_digest RX12 (some .long)) (hN : cxn X = 3) (hW : shp w = ShB)  (r39 : Int → Mem → Option (Int × Mem)) (hr39 : ∀ (x1 : Int) (σ : Mem), Sm X (rmN 7 161) w 2 x 39 [some (rf w 0), some (iv x1), none] [] σ (r39 x1 σ)) : ∀ (n : Nat) (x1 : Int) (x2 : Int) (σ : Mem), Sm X (rmN 7 161) w 2 x 76 [some (rf w 0), some (iv x1), some (iv x2)] [] σ (Md_digest_76 r39  n x1 x2 σ) := by
  refine fix_ok (P := fun (r76 : Int → Int → Mem → Option (Int × Mem)) => ∀ (x1 : Int) (x2 : Int) (σ : Mem), Sm X (rmN 7 161) w 2 x 76 [some (rf w 0), some (iv x1), some (iv x2)] [] σ (r76 x1 x2 σ)) (fun _ _ _ => a_none) (fun r76 hr76 => ?_)
  intro x1 x2 σ
  unfold Md_digest_76b
  refine a_iload_n hS dX12_digest_76 rfl ?_
  refine a_aload_n hS dX12_digest_77 rfl ?_
  refine a_getR hS (j := 1) dX12_digest_78 flX12_7 (sB0 hW) rfl ?_
  refine a_bipush hS dX12_digest_81 rfl ?_
  refine a_iload_n hS dX12_digest_83 rfl ?_
  refine a_iadd hS dX12_digest_84 ?_
  refine a_iald hS dX12_digest_85 (sB1 hW) ?_
  refine a_icmpge hS rfl rfl (tgt := 105) dX12_digest_86 (by decide) ?_ ?_
  · refine a_aload_n hS dX12_digest_105 rfl ?_
    refine a_aload_n hS dX12_digest_106 rfl ?_
    refine a_getR hS (j := 1) dX12_digest_107 flX12_7 (sB0 hW) rfl ?_
    refine a_bipush hS dX12_digest_110 rfl ?_
    refine a_iload_n hS dX12_digest_112 rfl ?_
    refine a_iadd hS dX12_digest_113 ?_
    refine a_iald hS dX12_digest_114 (sB1 hW) ?_
    refine a_callVv hS (rst := []) (c_Md_mixes hW (σ 1 (wr (41 + x1)).toNat) σ ) miX12_mixes mlX12_315 (sB0 hW) rfl rfl (Nat.le_of_ble_eq_true rfl) (Nat.le_of_ble_eq_true rfl) (Nat.le_of_ble_eq_true rfl) rfl dX12_digest_115 (fun q9 => ?_)
    refine a_aload_n hS dX12_digest_118 rfl ?_
    refine a_iload_n hS dX12_digest_119 rfl ?_
    refine a_callVi hS (rst := []) (c_Md_isFree hW x1 q9.2 ) miX12_isFree mlX12_185 (sB0 hW) rfl rfl (Nat.le_of_ble_eq_true rfl) (Nat.le_of_ble_eq_true rfl) (Nat.le_of_ble_eq_true rfl) rfl dX12_digest_120 (fun q10 => ?_)
    refine a_istore_n hS (L' := [some (rf w 0), some (iv x1), some (iv q10.1)]) dX12_digest_123 hN (Nat.le_of_ble_eq_true rfl) rfl rfl ?_
    refine a_iload_n hS dX12_digest_124 rfl ?_
    refine a_ifeq hS rfl  (tgt := 133) dX12_digest_125 (by decide) ?_ ?_
    · exact k_Md_digest_133 hS hN hW  r39 hr39 x1 q10.1 q10.2
    · refine a_aload_n hS dX12_digest_128 rfl ?_
      refine a_iload_n hS dX12_digest_129 rfl ?_
      refine a_callVv hS (rst := []) (c_Md_decides hW x1 q10.2 ) miX12_decides mlX12_188 (sB0 hW) rfl rfl (Nat.le_of_ble_eq_true rfl) (Nat.le_of_ble_eq_true rfl) (Nat.le_of_ble_eq_true rfl) rfl dX12_digest_130 (fun q11 => ?_)
      exact k_Md_digest_133 hS hN hW  r39 hr39 x1 q10.1 q11.2
  · refine a_aload_n hS dX12_digest_89 rfl ?_
    refine a_aload_n hS dX12_digest_90 rfl ?_
    refine a_iload_n hS dX12_digest_91 rfl ?_
    refine a_iload_n hS dX12_digest_92 rfl ?_
    refine a_callVi hS (rst := [rf w 0]) (c_Md_contentAt hW x1 x2 σ ) miX12_contentAt mlX12_83 (sB0 hW) rfl rfl (Nat.le_of_ble_eq_true rfl) (Nat.le_of_ble_eq_true rfl) (Nat.le_of_ble_eq_true rfl) rfl dX12_digest_93 (fun q12 => ?_)
    refine a_callVv hS (rst := []) (c_Md_mixes hW q12.1 q12.2 ) miX12_mixes mlX12_315 (sB0 hW) rfl rfl (Nat.le_of_ble_eq_true rfl) (Nat.le_of_ble_eq_true rfl) (Nat.le_of_ble_eq_true rfl) rfl dX12_digest_96 (fun q13 => ?_)
    refine a_iinc hS (L' := [some (rf w 0), some (iv x1), some (iv (x2 + 1))]) dX12_digest_99 rfl hN (Nat.le_of_ble_eq_true rfl) rfl rfl ?_
    refine a_goto hS (tgt := 76) dX12_digest_102 (by decide) ?_
    exact hr76 x1 (x2 + 1) q13.2
set_option maxRecDepth 100000 in
set_option maxHeartbeats 4000000 in
theorem k_Md_digest_234 {X : Cx} {w : Wd} {x : Int × Mem} (hS : Std X (rmN 7 161) w cX12_digest RX12 (some .long)) (hN : cxn X = 3) (hW : shp w = ShB)   : ∀ (y0 : Int) (σ : Mem), Sm X (rmN 7 161) w 2 x 234 [some (rf w 0), none, none] [iv y0, rf w 0] σ (Md_digest_234   y0 σ) := by
  intro y0 σ
  unfold Md_digest_234
  refine a_aload_n hS dX12_digest_234 rfl ?_
  refine a_getR hS (j := 2) dX12_digest_235 flX12_13 (sB0 hW) rfl ?_
  refine a_iconst hS dX12_digest_238 ?_
  refine a_zald hS (sB2 hW) dX12_digest_239 ?_
  refine a_ifeq hS rfl  (tgt := 247) dX12_digest_240 (by decide) ?_ ?_
  · refine a_iconst hS dX12_digest_247 ?_
    refine a_iadd hS dX12_digest_248 ?_
    refine a_callVv hS (rst := []) (c_Md_mixes hW (y0 + 0) σ ) miX12_mixes mlX12_315 (sB0 hW) rfl rfl (Nat.le_of_ble_eq_true rfl) (Nat.le_of_ble_eq_true rfl) (Nat.le_of_ble_eq_true rfl) rfl dX12_digest_249 (fun q18 => ?_)
    refine a_aload_n hS dX12_digest_252 rfl ?_
    refine a_aload_n hS dX12_digest_253 rfl ?_
    refine a_getI hS dX12_digest_254 flX12_191 (sB0 hW) rfl ?_
    refine a_callVv hS (rst := []) (c_Md_mixes hW (q18.2 0 4) q18.2 ) miX12_mixes mlX12_315 (sB0 hW) rfl rfl (Nat.le_of_ble_eq_true rfl) (Nat.le_of_ble_eq_true rfl) (Nat.le_of_ble_eq_true rfl) rfl dX12_digest_257 (fun q19 => ?_)
    refine a_aload_n hS dX12_digest_260 rfl ?_
    refine a_getJ hS dX12_digest_261 flX12_311 (sB0 hW) rfl ?_
    exact a_lret hS rfl rfl dX12_digest_264
  · refine a_iconst hS dX12_digest_243 ?_
    refine a_goto hS (tgt := 248) dX12_digest_244 (by decide) ?_
    refine a_iadd hS dX12_digest_248 ?_
    refine a_callVv hS (rst := []) (c_Md_mixes hW (y0 + 1) σ ) miX12_mixes mlX12_315 (sB0 hW) rfl rfl (Nat.le_of_ble_eq_true rfl) (Nat.le_of_ble_eq_true rfl) (Nat.le_of_ble_eq_true rfl) rfl dX12_digest_249 (fun q20 => ?_)
    refine a_aload_n hS dX12_digest_252 rfl ?_
    refine a_aload_n hS dX12_digest_253 rfl ?_
    refine a_getI hS dX12_digest_254 flX12_191 (sB0 hW) rfl ?_
    refine a_callVv hS (rst := []) (c_Md_mixes hW (q20.2 0 4) q20.2 ) miX12_mixes mlX12_315 (sB0 hW) rfl rfl (Nat.le_of_ble_eq_true rfl) (Nat.le_of_ble_eq_true rfl) (Nat.le_of_ble_eq_true rfl) rfl dX12_digest_257 (fun q21 => ?_)
    refine a_aload_n hS dX12_digest_260 rfl ?_
    refine a_getJ hS dX12_digest_261 flX12_311 (sB0 hW) rfl ?_
    exact a_lret hS rfl rfl dX12_digest_264
set_option maxRecDepth 100000 in
set_option maxHeartbeats 4000000 in
theorem k_Md_digest_194 {X : Cx} {w : Wd} {x : Int × Mem} (hS : Std X (rmN 7 161) w cX12_digest RX12 (some .long)) (hN : cxn X = 3) (hW : shp w = ShB)   : ∀ (n : Nat) (x1 : Int) (σ : Mem), Sm X (rmN 7 161) w 2 x 194 [some (rf w 0), some (iv x1), none] [] σ (Md_digest_194   n x1 σ) := by
  refine fix_ok (P := fun (r194 : Int → Mem → Option (Int × Mem)) => ∀ (x1 : Int) (σ : Mem), Sm X (rmN 7 161) w 2 x 194 [some (rf w 0), some (iv x1), none] [] σ (r194 x1 σ)) (fun _ _ => a_none) (fun r194 hr194 => ?_)
  intro x1 σ
  unfold Md_digest_194b
  refine a_iload_n hS dX12_digest_194 rfl ?_
  refine a_bipush hS dX12_digest_195 rfl ?_
  refine a_icmpge hS rfl (wl 12 rfl) (tgt := 211) dX12_digest_197 (by decide) ?_ ?_
  · refine a_aload_n hS dX12_digest_211 rfl ?_
    refine a_aload_n hS dX12_digest_212 rfl ?_
    refine a_getI hS dX12_digest_213 flX12_71 (sB0 hW) rfl ?_
    refine a_callVv hS (rst := []) (c_Md_mixes hW (σ 0 1) σ ) miX12_mixes mlX12_315 (sB0 hW) rfl rfl (Nat.le_of_ble_eq_true rfl) (Nat.le_of_ble_eq_true rfl) (Nat.le_of_ble_eq_true rfl) rfl dX12_digest_216 (fun q16 => ?_)
    refine a_aload_n hS dX12_digest_219 rfl ?_
    refine a_aload_n hS dX12_digest_220 rfl ?_
    refine a_getR hS (j := 2) dX12_digest_221 flX12_13 (sB0 hW) rfl ?_
    refine a_iconst hS dX12_digest_224 ?_
    refine a_zald hS (sB2 hW) dX12_digest_225 ?_
    refine a_ifeq hS rfl  (tgt := 233) dX12_digest_226 (by decide) ?_ ?_
    · refine a_iconst hS dX12_digest_233 ?_
      exact a_live (M := [true, false, false]) (k_Md_digest_234 hS hN hW   0 q16.2) rfl
    · refine a_iconst hS dX12_digest_229 ?_
      refine a_goto hS (tgt := 234) dX12_digest_230 (by decide) ?_
      exact a_live (M := [true, false, false]) (k_Md_digest_234 hS hN hW   1 q16.2) rfl
  · refine a_aload_n hS dX12_digest_200 rfl ?_
    refine a_iload_n hS dX12_digest_201 rfl ?_
    refine a_callVv hS (rst := []) (c_Md_mixesRule hW x1 σ ) miX12_mixesRule mlX12_323 (sB0 hW) rfl rfl (Nat.le_of_ble_eq_true rfl) (Nat.le_of_ble_eq_true rfl) (Nat.le_of_ble_eq_true rfl) rfl dX12_digest_202 (fun q17 => ?_)
    refine a_iinc hS (L' := [some (rf w 0), some (iv (x1 + 1)), none]) dX12_digest_205 rfl hN (Nat.le_of_ble_eq_true rfl) rfl rfl ?_
    refine a_goto hS (tgt := 194) dX12_digest_208 (by decide) ?_
    exact hr194 (x1 + 1) q17.2
set_option maxRecDepth 100000 in
set_option maxHeartbeats 4000000 in
theorem k_Md_digest_39 {X : Cx} {w : Wd} {x : Int × Mem} (hS : Std X (rmN 7 161) w cX12_digest RX12 (some .long)) (hN : cxn X = 3) (hW : shp w = ShB)   : ∀ (n : Nat) (x1 : Int) (σ : Mem), Sm X (rmN 7 161) w 2 x 39 [some (rf w 0), some (iv x1), none] [] σ (Md_digest_39   n x1 σ) := by
  refine fix_ok (P := fun (r39 : Int → Mem → Option (Int × Mem)) => ∀ (x1 : Int) (σ : Mem), Sm X (rmN 7 161) w 2 x 39 [some (rf w 0), some (iv x1), none] [] σ (r39 x1 σ)) (fun _ _ => a_none) (fun r39 hr39 => ?_)
  intro x1 σ
  unfold Md_digest_39b
  refine a_iload_n hS dX12_digest_39 rfl ?_
  refine a_aload_n hS dX12_digest_40 rfl ?_
  refine a_getR hS (j := 1) dX12_digest_41 flX12_7 (sB0 hW) rfl ?_
  refine a_iconst hS dX12_digest_44 ?_
  refine a_iald hS dX12_digest_45 (sB1 hW) ?_
  refine a_icmpge hS rfl rfl (tgt := 156) dX12_digest_46 (by decide) ?_ ?_
  · refine a_aload_n hS dX12_digest_156 rfl ?_
    refine a_aload_n hS dX12_digest_157 rfl ?_
    refine a_getR hS (j := 1) dX12_digest_158 flX12_7 (sB0 hW) rfl ?_
    refine a_sipush hS dX12_digest_161 rfl ?_
    refine a_iald hS dX12_digest_164 (sB1 hW) ?_
    refine a_callVv hS (rst := []) (c_Md_mixes hW (σ 1 (wr 977).toNat) σ ) miX12_mixes mlX12_315 (sB0 hW) rfl rfl (Nat.le_of_ble_eq_true rfl) (Nat.le_of_ble_eq_true rfl) (Nat.le_of_ble_eq_true rfl) rfl dX12_digest_165 (fun q4 => ?_)
    refine a_aload_n hS dX12_digest_168 rfl ?_
    refine a_aload_n hS dX12_digest_169 rfl ?_
    refine a_getR hS (j := 1) dX12_digest_170 flX12_7 (sB0 hW) rfl ?_
    refine a_sipush hS dX12_digest_173 rfl ?_
    refine a_iald hS dX12_digest_176 (sB1 hW) ?_
    refine a_callVv hS (rst := []) (c_Md_mixes hW (q4.2 1 (wr 978).toNat) q4.2 ) miX12_mixes mlX12_315 (sB0 hW) rfl rfl (Nat.le_of_ble_eq_true rfl) (Nat.le_of_ble_eq_true rfl) (Nat.le_of_ble_eq_true rfl) rfl dX12_digest_177 (fun q5 => ?_)
    refine a_aload_n hS dX12_digest_180 rfl ?_
    refine a_aload_n hS dX12_digest_181 rfl ?_
    refine a_getR hS (j := 1) dX12_digest_182 flX12_7 (sB0 hW) rfl ?_
    refine a_sipush hS dX12_digest_185 rfl ?_
    refine a_iald hS dX12_digest_188 (sB1 hW) ?_
    refine a_callVv hS (rst := []) (c_Md_mixes hW (q5.2 1 (wr 979).toNat) q5.2 ) miX12_mixes mlX12_315 (sB0 hW) rfl rfl (Nat.le_of_ble_eq_true rfl) (Nat.le_of_ble_eq_true rfl) (Nat.le_of_ble_eq_true rfl) rfl dX12_digest_189 (fun q6 => ?_)
    refine a_iconst hS dX12_digest_192 ?_
    refine a_istore_n hS (L' := [some (rf w 0), some (iv 0), none]) dX12_digest_193 hN (Nat.le_of_ble_eq_true rfl) rfl rfl ?_
    exact k_Md_digest_194 hS hN hW   100000 0 q6.2
  · refine a_aload_n hS dX12_digest_49 rfl ?_
    refine a_aload_n hS dX12_digest_50 rfl ?_
    refine a_getR hS (j := 1) dX12_digest_51 flX12_7 (sB0 hW) rfl ?_
    refine a_iconst hS dX12_digest_54 ?_
    refine a_iload_n hS dX12_digest_55 rfl ?_
    refine a_iadd hS dX12_digest_56 ?_
    refine a_iald hS dX12_digest_57 (sB1 hW) ?_
    refine a_callVv hS (rst := []) (c_Md_mixes hW (σ 1 (wr (1 + x1)).toNat) σ ) miX12_mixes mlX12_315 (sB0 hW) rfl rfl (Nat.le_of_ble_eq_true rfl) (Nat.le_of_ble_eq_true rfl) (Nat.le_of_ble_eq_true rfl) rfl dX12_digest_58 (fun q7 => ?_)
    refine a_aload_n hS dX12_digest_61 rfl ?_
    refine a_aload_n hS dX12_digest_62 rfl ?_
    refine a_getR hS (j := 1) dX12_digest_63 flX12_7 (sB0 hW) rfl ?_
    refine a_bipush hS dX12_digest_66 rfl ?_
    refine a_iload_n hS dX12_digest_68 rfl ?_
    refine a_iadd hS dX12_digest_69 ?_
    refine a_iald hS dX12_digest_70 (sB1 hW) ?_
    refine a_callVv hS (rst := []) (c_Md_mixes hW (q7.2 1 (wr (21 + x1)).toNat) q7.2 ) miX12_mixes mlX12_315 (sB0 hW) rfl rfl (Nat.le_of_ble_eq_true rfl) (Nat.le_of_ble_eq_true rfl) (Nat.le_of_ble_eq_true rfl) rfl dX12_digest_71 (fun q8 => ?_)
    refine a_iconst hS dX12_digest_74 ?_
    refine a_istore_n hS (L' := [some (rf w 0), some (iv x1), some (iv 0)]) dX12_digest_75 hN (Nat.le_of_ble_eq_true rfl) rfl rfl ?_
    exact k_Md_digest_76 hS hN hW  r39 hr39 100000 x1 0 q8.2
set_option maxRecDepth 100000 in
set_option maxHeartbeats 4000000 in
theorem c_Md_digest {l : Launch} {w : Wd} (hW : shp w = ShB)  (σ : Mem)  : Ctr l w yX12_digest cX12_digest 3 (some .long) (rmN 7 161) 2 [rf w 0] σ (Md_digest  σ) := by
  refine met_of (own := RX12) (by decide) rfl rfl rfl (Nat.le_of_ble_eq_true rfl) (fun X x hXl hN hS => ⟨[some (rf w 0), none, none], ⟨2, rfl⟩, ?_⟩)
  subst hXl
  unfold Md_digest
  refine a_aload_n hS dX12_digest_0 rfl ?_
  refine a_ldc2 hS (n := 18310) dX12_digest_1 (WL_in (tb7 (List.mem_of_getElem? (i := 200) rfl)) rfl) rfl ?_
  refine a_putJ hS dX12_digest_4 plX12_311 (sB0 hW) rfl ?_
  refine a_letM (fun s1 => ?_)
  refine a_aload_n hS dX12_digest_7 rfl ?_
  refine a_aload_n hS dX12_digest_8 rfl ?_
  refine a_getR hS (j := 1) dX12_digest_9 flX12_7 (sB0 hW) rfl ?_
  refine a_iconst hS dX12_digest_12 ?_
  refine a_iald hS dX12_digest_13 (sB1 hW) ?_
  refine a_callVv hS (rst := []) (c_Md_mixes hW (s1 1 (wr 0).toNat) s1 ) miX12_mixes mlX12_315 (sB0 hW) rfl rfl (Nat.le_of_ble_eq_true rfl) (Nat.le_of_ble_eq_true rfl) (Nat.le_of_ble_eq_true rfl) rfl dX12_digest_14 (fun q2 => ?_)
  refine a_aload_n hS dX12_digest_17 rfl ?_
  refine a_aload_n hS dX12_digest_18 rfl ?_
  refine a_getR hS (j := 1) dX12_digest_19 flX12_7 (sB0 hW) rfl ?_
  refine a_sipush hS dX12_digest_22 rfl ?_
  refine a_iald hS dX12_digest_25 (sB1 hW) ?_
  refine a_aload_n hS dX12_digest_26 rfl ?_
  refine a_getR hS (j := 1) dX12_digest_27 flX12_7 (sB0 hW) rfl ?_
  refine a_sipush hS dX12_digest_30 rfl ?_
  refine a_iald hS dX12_digest_33 (sB1 hW) ?_
  refine a_callVv hS (rst := []) (c_Md_uses hW (q2.2 1 (wr 977).toNat) (q2.2 1 (wr 978).toNat) q2.2 ) miX12_uses mlX12_222 (sB0 hW) rfl rfl (Nat.le_of_ble_eq_true rfl) (Nat.le_of_ble_eq_true rfl) (Nat.le_of_ble_eq_true rfl) rfl dX12_digest_34 (fun q3 => ?_)
  refine a_iconst hS dX12_digest_37 ?_
  refine a_istore_n hS (L' := [some (rf w 0), some (iv 0), none]) dX12_digest_38 hN (Nat.le_of_ble_eq_true rfl) rfl rfl ?_
  exact k_Md_digest_39 hS hN hW   100000 0 q3.2
