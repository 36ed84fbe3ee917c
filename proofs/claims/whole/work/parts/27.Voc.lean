noncomputable def Voc_sameText_28b   (r28 : Int → Int → Int → Int → Mem → Option (Int × Mem)) (x0 : Int) (x1 : Int) (x4 : Int) (x5 : Int) (σ : Mem) : Option (Int × Mem) := if wr x5 < wr x4 then ((Row_get 290 x0 σ).bind fun q3 => (Row_get 292 x0 q3.2).bind fun q4 => (Lin_byteOf q3.1 (q4.1 + x5) q4.2).bind fun q5 => (Row_get 290 x1 q5.2).bind fun q6 => (Row_get 292 x1 q6.2).bind fun q7 => (Lin_byteOf q6.1 (q7.1 + x5) q7.2).bind fun q8 => if wr q5.1 = wr q8.1 then (r28 x0 x1 x4 (x5 + 1) q8.2) else (some (0, q8.2))) else (some (1, σ))
noncomputable def Voc_sameText_28   (n : Nat) : Int → Int → Int → Int → Mem → Option (Int × Mem) := fixN (fun _ _ _ _ _ => none) (Voc_sameText_28b  ) n
noncomputable def Voc_sameText (a0 : Int) (a1 : Int) (σ : Mem) : Option (Int × Mem) := (Row_get 294 a0 σ).bind fun q1 => (Row_get 294 a1 q1.2).bind fun q2 => if wr q1.1 = wr q2.1 then (Voc_sameText_28 100000 a0 a1 q1.1 0 q2.2) else (some (0, q2.2))
set_option maxRecDepth 100000 in
set_option maxHeartbeats 4000000 in
theorem k_Voc_sameText_28 {X : Cx} {w : Wd} {x : Int × Mem} (hS : Std X (rmN 2 43) w cX10_sameText RX10 (some .boolean)) (hN : cxn X = 6) (hW : shp w = ShA)   : ∀ (n : Nat) (x0 : Int) (x1 : Int) (x4 : Int) (x5 : Int) (σ : Mem), Sm X (rmN 2 43) w 1 x 28 [some (iv x0), some (iv x1), some (rf w 2), some (rf w 289), some (iv x4), some (iv x5)] [] σ (Voc_sameText_28   n x0 x1 x4 x5 σ) := by
  refine fix_ok (P := fun (r28 : Int → Int → Int → Int → Mem → Option (Int × Mem)) => ∀ (x0 : Int) (x1 : Int) (x4 : Int) (x5 : Int) (σ : Mem), Sm X (rmN 2 43) w 1 x 28 [some (iv x0), some (iv x1), some (rf w 2), some (rf w 289), some (iv x4), some (iv x5)] [] σ (r28 x0 x1 x4 x5 σ)) (fun _ _ _ _ _ => a_none) (fun r28 hr28 => ?_)
  intro x0 x1 x4 x5 σ
  unfold Voc_sameText_28b
  refine a_iload hS dX10_sameText_28 rfl ?_
  refine a_iload hS dX10_sameText_30 rfl ?_
  refine a_icmpge hS rfl rfl (tgt := 92) dX10_sameText_32 (by decide) ?_ ?_
  · refine a_iconst hS dX10_sameText_92 ?_
    exact a_zret hS (by decide) rfl rfl dX10_sameText_93
  · refine a_aload_n hS dX10_sameText_35 rfl ?_
    refine a_aload_n hS dX10_sameText_36 rfl ?_
    refine a_getR hS (j := 290) dX10_sameText_37 flX10_54 (sA289 hW) rfl ?_
    refine a_iload_n hS dX10_sameText_40 rfl ?_
    refine a_callVi hS (rst := [rf w 2]) (c_Row_get hW 290 x0 σ iRow290) miX5_get mlX10_35 (sA290 hW) rfl rfl (Nat.le_of_ble_eq_true rfl) (Nat.le_of_ble_eq_true rfl) (Nat.le_of_ble_eq_true rfl) rfl dX10_sameText_41 (fun q3 => ?_)
    refine a_aload_n hS dX10_sameText_44 rfl ?_
    refine a_getR hS (j := 292) dX10_sameText_45 flX10_57 (sA289 hW) rfl ?_
    refine a_iload_n hS dX10_sameText_48 rfl ?_
    refine a_callVi hS (rst := [iv q3.1, rf w 2]) (c_Row_get hW 292 x0 q3.2 iRow292) miX5_get mlX10_35 (sA292 hW) rfl rfl (Nat.le_of_ble_eq_true rfl) (Nat.le_of_ble_eq_true rfl) (Nat.le_of_ble_eq_true rfl) rfl dX10_sameText_49 (fun q4 => ?_)
    refine a_iload hS dX10_sameText_52 rfl ?_
    refine a_iadd hS dX10_sameText_54 ?_
    refine a_callVi hS (rst := []) (c_Lin_byteOf hW q3.1 (q4.1 + x5) q4.2 ) miX3_byteOf mlX10_60 (sA2 hW) rfl rfl (Nat.le_of_ble_eq_true rfl) (Nat.le_of_ble_eq_true rfl) (Nat.le_of_ble_eq_true rfl) rfl dX10_sameText_55 (fun q5 => ?_)
    refine a_aload_n hS dX10_sameText_58 rfl ?_
    refine a_aload_n hS dX10_sameText_59 rfl ?_
    refine a_getR hS (j := 290) dX10_sameText_60 flX10_54 (sA289 hW) rfl ?_
    refine a_iload_n hS dX10_sameText_63 rfl ?_
    refine a_callVi hS (rst := [rf w 2, iv q5.1]) (c_Row_get hW 290 x1 q5.2 iRow290) miX5_get mlX10_35 (sA290 hW) rfl rfl (Nat.le_of_ble_eq_true rfl) (Nat.le_of_ble_eq_true rfl) (Nat.le_of_ble_eq_true rfl) rfl dX10_sameText_64 (fun q6 => ?_)
    refine a_aload_n hS dX10_sameText_67 rfl ?_
    refine a_getR hS (j := 292) dX10_sameText_68 flX10_57 (sA289 hW) rfl ?_
    refine a_iload_n hS dX10_sameText_71 rfl ?_
    refine a_callVi hS (rst := [iv q6.1, rf w 2, iv q5.1]) (c_Row_get hW 292 x1 q6.2 iRow292) miX5_get mlX10_35 (sA292 hW) rfl rfl (Nat.le_of_ble_eq_true rfl) (Nat.le_of_ble_eq_true rfl) (Nat.le_of_ble_eq_true rfl) rfl dX10_sameText_72 (fun q7 => ?_)
    refine a_iload hS dX10_sameText_75 rfl ?_
    refine a_iadd hS dX10_sameText_77 ?_
    refine a_callVi hS (rst := [iv q5.1]) (c_Lin_byteOf hW q6.1 (q7.1 + x5) q7.2 ) miX3_byteOf mlX10_60 (sA2 hW) rfl rfl (Nat.le_of_ble_eq_true rfl) (Nat.le_of_ble_eq_true rfl) (Nat.le_of_ble_eq_true rfl) rfl dX10_sameText_78 (fun q8 => ?_)
    refine a_icmpeq hS rfl rfl (tgt := 86) dX10_sameText_81 (by decide) ?_ ?_
    · refine a_iinc hS (L' := [some (iv x0), some (iv x1), some (rf w 2), some (rf w 289), some (iv x4), some (iv (x5 + 1))]) dX10_sameText_86 rfl hN (Nat.le_of_ble_eq_true rfl) rfl rfl ?_
      refine a_goto hS (tgt := 28) dX10_sameText_89 (by decide) ?_
      exact hr28 x0 x1 x4 (x5 + 1) q8.2
    · refine a_iconst hS dX10_sameText_84 ?_
      exact a_zret hS (by decide) rfl rfl dX10_sameText_85
set_option maxRecDepth 100000 in
set_option maxHeartbeats 4000000 in
theorem c_Voc_sameText {l : Launch} {w : Wd} (hW : shp w = ShA) (a0 : Int) (a1 : Int) (σ : Mem)  : Ctr l w yX10_sameText cX10_sameText 6 (some .boolean) (rmN 2 43) 1 [iv a0, iv a1, rf w 2, rf w 289] σ (Voc_sameText a0 a1 σ) := by
  refine met_of (own := RX10) (by decide) rfl rfl rfl (Nat.le_of_ble_eq_true rfl) (fun X x hXl hN hS => ⟨[some (iv a0), some (iv a1), some (rf w 2), some (rf w 289), none, none], ⟨2, rfl⟩, ?_⟩)
  subst hXl
  unfold Voc_sameText
  refine a_aload_n hS dX10_sameText_0 rfl ?_
  refine a_getR hS (j := 294) dX10_sameText_1 flX10_51 (sA289 hW) rfl ?_
  refine a_iload_n hS dX10_sameText_4 rfl ?_
  refine a_callVi hS (rst := []) (c_Row_get hW 294 a0 σ iRow294) miX5_get mlX10_35 (sA294 hW) rfl rfl (Nat.le_of_ble_eq_true rfl) (Nat.le_of_ble_eq_true rfl) (Nat.le_of_ble_eq_true rfl) rfl dX10_sameText_5 (fun q1 => ?_)
  refine a_istore hS (L' := [some (iv a0), some (iv a1), some (rf w 2), some (rf w 289), some (iv q1.1), none]) dX10_sameText_8 hN (Nat.le_of_ble_eq_true rfl) rfl rfl ?_
  refine a_iload hS dX10_sameText_10 rfl ?_
  refine a_aload_n hS dX10_sameText_12 rfl ?_
  refine a_getR hS (j := 294) dX10_sameText_13 flX10_51 (sA289 hW) rfl ?_
  refine a_iload_n hS dX10_sameText_16 rfl ?_
  refine a_callVi hS (rst := [iv q1.1]) (c_Row_get hW 294 a1 q1.2 iRow294) miX5_get mlX10_35 (sA294 hW) rfl rfl (Nat.le_of_ble_eq_true rfl) (Nat.le_of_ble_eq_true rfl) (Nat.le_of_ble_eq_true rfl) rfl dX10_sameText_17 (fun q2 => ?_)
  refine a_icmpeq hS rfl rfl (tgt := 25) dX10_sameText_20 (by decide) ?_ ?_
  · refine a_iconst hS dX10_sameText_25 ?_
    refine a_istore hS (L' := [some (iv a0), some (iv a1), some (rf w 2), some (rf w 289), some (iv q1.1), some (iv 0)]) dX10_sameText_26 hN (Nat.le_of_ble_eq_true rfl) rfl rfl ?_
    exact k_Voc_sameText_28 hS hN hW   100000 a0 a1 q1.1 0 q2.2
  · refine a_iconst hS dX10_sameText_23 ?_
    exact a_zret hS (by decide) rfl rfl dX10_sameText_24
noncomputable def Voc_countToken_3b   (r3 : Int → Int → Mem → Option (Int × Mem)) (x1 : Int) (x4 : Int) (σ : Mem) : Option (Int × Mem) := if wr x4 < wr (σ 340 0) then ((Row_get 341 x4 σ).bind fun q4 => (Voc_sameText q4.1 x1 q4.2).bind fun q5 => if wr q5.1 = 0 then (r3 x1 (x4 + 1) q5.2) else ((Row_get 343 x4 q5.2).bind fun q6 => (Row_set 343 x4 (q6.1 + 1) q6.2).bind fun q7 => some (0, q7.2))) else ((Row_set 341 (σ 340 0) x1 σ).bind fun q1 => (Row_set 343 (q1.2 340 0) 1 q1.2).bind fun q2 => letM (upM q2.2 340 0 ((q2.2 340 0) + 1)) fun s3 => some (0, s3))
noncomputable def Voc_countToken_3   (n : Nat) : Int → Int → Mem → Option (Int × Mem) := fixN (fun _ _ _ => none) (Voc_countToken_3b  ) n
noncomputable def Voc_countToken (a0 : Int) (σ : Mem) : Option (Int × Mem) := Voc_countToken_3 100000 a0 0 σ
set_option maxRecDepth 100000 in
set_option maxHeartbeats 4000000 in
theorem k_Voc_countToken_3 {X : Cx} {w : Wd} {x : Int × Mem} (hS : Std X (rmN 3 68) w cX10_countToken RX10 none) (hN : cxn X = 5) (hW : shp w = ShA)   : ∀ (n : Nat) (x1 : Int) (x4 : Int) (σ : Mem), Sm X (rmN 3 68) w 0 x 3 [some (rf w 340), some (iv x1), some (rf w 2), some (rf w 289), some (iv x4)] [] σ (Voc_countToken_3   n x1 x4 σ) := by
  refine fix_ok (P := fun (r3 : Int → Int → Mem → Option (Int × Mem)) => ∀ (x1 : Int) (x4 : Int) (σ : Mem), Sm X (rmN 3 68) w 0 x 3 [some (rf w 340), some (iv x1), some (rf w 2), some (rf w 289), some (iv x4)] [] σ (r3 x1 x4 σ)) (fun _ _ _ => a_none) (fun r3 hr3 => ?_)
  intro x1 x4 σ
  unfold Voc_countToken_3b
  refine a_iload hS dX10_countToken_3 rfl ?_
  refine a_aload_n hS dX10_countToken_5 rfl ?_
  refine a_getI hS dX10_countToken_6 flX10_9 (sA340 hW) rfl ?_
  refine a_icmpge hS rfl rfl (tgt := 57) dX10_countToken_9 (by decide) ?_ ?_
  · refine a_aload_n hS dX10_countToken_57 rfl ?_
    refine a_getR hS (j := 341) dX10_countToken_58 flX10_20 (sA340 hW) rfl ?_
    refine a_aload_n hS dX10_countToken_61 rfl ?_
    refine a_getI hS dX10_countToken_62 flX10_9 (sA340 hW) rfl ?_
    refine a_iload_n hS dX10_countToken_65 rfl ?_
    refine a_callVv hS (rst := []) (c_Row_set hW 341 (σ 340 0) x1 σ iRow341) miX5_set mlX10_47 (sA341 hW) rfl rfl (Nat.le_of_ble_eq_true rfl) (Nat.le_of_ble_eq_true rfl) (Nat.le_of_ble_eq_true rfl) rfl dX10_countToken_66 (fun q1 => ?_)
    refine a_aload_n hS dX10_countToken_69 rfl ?_
    refine a_getR hS (j := 343) dX10_countToken_70 flX10_24 (sA340 hW) rfl ?_
    refine a_aload_n hS dX10_countToken_73 rfl ?_
    refine a_getI hS dX10_countToken_74 flX10_9 (sA340 hW) rfl ?_
    refine a_iconst hS dX10_countToken_77 ?_
    refine a_callVv hS (rst := []) (c_Row_set hW 343 (q1.2 340 0) 1 q1.2 iRow343) miX5_set mlX10_47 (sA343 hW) rfl rfl (Nat.le_of_ble_eq_true rfl) (Nat.le_of_ble_eq_true rfl) (Nat.le_of_ble_eq_true rfl) rfl dX10_countToken_78 (fun q2 => ?_)
    refine a_aload_n hS dX10_countToken_81 rfl ?_
    refine a_dup hS rfl dX10_countToken_82 ?_
    refine a_getI hS dX10_countToken_83 flX10_9 (sA340 hW) rfl ?_
    refine a_iconst hS dX10_countToken_86 ?_
    refine a_iadd hS dX10_countToken_87 ?_
    refine a_putI hS dX10_countToken_88 plX10_9 (sA340 hW) rfl ?_
    refine a_letM (fun s3 => ?_)
    exact a_vret hS rfl rfl dX10_countToken_91
  · refine a_aload_n hS dX10_countToken_12 rfl ?_
    refine a_getR hS (j := 341) dX10_countToken_13 flX10_20 (sA340 hW) rfl ?_
    refine a_iload hS dX10_countToken_16 rfl ?_
    refine a_callVi hS (rst := []) (c_Row_get hW 341 x4 σ iRow341) miX5_get mlX10_35 (sA341 hW) rfl rfl (Nat.le_of_ble_eq_true rfl) (Nat.le_of_ble_eq_true rfl) (Nat.le_of_ble_eq_true rfl) rfl dX10_countToken_18 (fun q4 => ?_)
    refine a_iload_n hS dX10_countToken_21 rfl ?_
    refine a_aload_n hS dX10_countToken_22 rfl ?_
    refine a_aload_n hS dX10_countToken_23 rfl ?_
    refine a_callSi hS (rst := []) (c_Voc_sameText hW q4.1 x1 q4.2 ) msX10_sameText mlX10_43 rfl (Nat.le_of_ble_eq_true rfl) (Nat.le_of_ble_eq_true rfl) (Nat.le_of_ble_eq_true rfl) rfl dX10_countToken_24 (fun q5 => ?_)
    refine a_ifeq hS rfl  (tgt := 51) dX10_countToken_27 (by decide) ?_ ?_
    · refine a_iinc hS (L' := [some (rf w 340), some (iv x1), some (rf w 2), some (rf w 289), some (iv (x4 + 1))]) dX10_countToken_51 rfl hN (Nat.le_of_ble_eq_true rfl) rfl rfl ?_
      refine a_goto hS (tgt := 3) dX10_countToken_54 (by decide) ?_
      exact hr3 x1 (x4 + 1) q5.2
    · refine a_aload_n hS dX10_countToken_30 rfl ?_
      refine a_getR hS (j := 343) dX10_countToken_31 flX10_24 (sA340 hW) rfl ?_
      refine a_iload hS dX10_countToken_34 rfl ?_
      refine a_aload_n hS dX10_countToken_36 rfl ?_
      refine a_getR hS (j := 343) dX10_countToken_37 flX10_24 (sA340 hW) rfl ?_
      refine a_iload hS dX10_countToken_40 rfl ?_
      refine a_callVi hS (rst := [iv x4, rf w 343]) (c_Row_get hW 343 x4 q5.2 iRow343) miX5_get mlX10_35 (sA343 hW) rfl rfl (Nat.le_of_ble_eq_true rfl) (Nat.le_of_ble_eq_true rfl) (Nat.le_of_ble_eq_true rfl) rfl dX10_countToken_42 (fun q6 => ?_)
      refine a_iconst hS dX10_countToken_45 ?_
      refine a_iadd hS dX10_countToken_46 ?_
      refine a_callVv hS (rst := []) (c_Row_set hW 343 x4 (q6.1 + 1) q6.2 iRow343) miX5_set mlX10_47 (sA343 hW) rfl rfl (Nat.le_of_ble_eq_true rfl) (Nat.le_of_ble_eq_true rfl) (Nat.le_of_ble_eq_true rfl) rfl dX10_countToken_47 (fun q7 => ?_)
      exact a_vret hS rfl rfl dX10_countToken_50
set_option maxRecDepth 100000 in
set_option maxHeartbeats 4000000 in
theorem c_Voc_countToken {l : Launch} {w : Wd} (hW : shp w = ShA) (a0 : Int) (σ : Mem)  : Ctr l w yX10_countToken cX10_countToken 5 none (rmN 3 68) 0 [rf w 340, iv a0, rf w 2, rf w 289] σ (Voc_countToken a0 σ) := by
  refine met_of (own := RX10) (by decide) rfl rfl rfl (Nat.le_of_ble_eq_true rfl) (fun X x hXl hN hS => ⟨[some (rf w 340), some (iv a0), some (rf w 2), some (rf w 289), none], ⟨1, rfl⟩, ?_⟩)
  subst hXl
  unfold Voc_countToken
  refine a_iconst hS dX10_countToken_0 ?_
  refine a_istore hS (L' := [some (rf w 340), some (iv a0), some (rf w 2), some (rf w 289), some (iv 0)]) dX10_countToken_1 hN (Nat.le_of_ble_eq_true rfl) rfl rfl ?_
  exact k_Voc_countToken_3 hS hN hW   100000 a0 0 σ
noncomputable def Voc_count_7b   (r7 : Int → Mem → Option (Int × Mem)) (x3 : Int) (σ : Mem) : Option (Int × Mem) := if wr x3 < wr (σ 289 0) then ((Row_get 296 x3 σ).bind fun q2 => if wr q2.1 = 2 then (r7 (x3 + 1) q2.2) else ((Voc_countToken x3 q2.2).bind fun q3 => r7 (x3 + 1) q3.2)) else (some (0, σ))
noncomputable def Voc_count_7   (n : Nat) : Int → Mem → Option (Int × Mem) := fixN (fun _ _ => none) (Voc_count_7b  ) n
noncomputable def Voc_count  (σ : Mem) : Option (Int × Mem) := letM (upM σ 340 0 0) fun s1 => Voc_count_7 100000 0 s1
set_option maxRecDepth 100000 in
set_option maxHeartbeats 4000000 in
theorem k_Voc_count_7 {X : Cx} {w : Wd} {x : Int × Mem} (hS : Std X (rmN 4 92) w cX10_count RX10 none) (hN : cxn X = 4) (hW : shp w = ShA)   : ∀ (n : Nat) (x3 : Int) (σ : Mem), Sm X (rmN 4 92) w 0 x 7 [some (rf w 340), some (rf w 2), some (rf w 289), some (iv x3)] [] σ (Voc_count_7   n x3 σ) := by
  refine fix_ok (P := fun (r7 : Int → Mem → Option (Int × Mem)) => ∀ (x3 : Int) (σ : Mem), Sm X (rmN 4 92) w 0 x 7 [some (rf w 340), some (rf w 2), some (rf w 289), some (iv x3)] [] σ (r7 x3 σ)) (fun _ _ => a_none) (fun r7 hr7 => ?_)
  intro x3 σ
  unfold Voc_count_7b
  refine a_iload_n hS dX10_count_7 rfl ?_
  refine a_aload_n hS dX10_count_8 rfl ?_
  refine a_getI hS dX10_count_9 flX10_27 (sA289 hW) rfl ?_
  refine a_icmpge hS rfl rfl (tgt := 40) dX10_count_12 (by decide) ?_ ?_
  · exact a_vret hS rfl rfl dX10_count_40
  · refine a_aload_n hS dX10_count_15 rfl ?_
    refine a_getR hS (j := 296) dX10_count_16 flX10_32 (sA289 hW) rfl ?_
    refine a_iload_n hS dX10_count_19 rfl ?_
    refine a_callVi hS (rst := []) (c_Row_get hW 296 x3 σ iRow296) miX5_get mlX10_35 (sA296 hW) rfl rfl (Nat.le_of_ble_eq_true rfl) (Nat.le_of_ble_eq_true rfl) (Nat.le_of_ble_eq_true rfl) rfl dX10_count_20 (fun q2 => ?_)
    refine a_iconst hS dX10_count_23 ?_
    refine a_icmpeq hS rfl (wl 2 rfl) (tgt := 34) dX10_count_24 (by decide) ?_ ?_
    · refine a_iinc hS (L' := [some (rf w 340), some (rf w 2), some (rf w 289), some (iv (x3 + 1))]) dX10_count_34 rfl hN (Nat.le_of_ble_eq_true rfl) rfl rfl ?_
      refine a_goto hS (tgt := 7) dX10_count_37 (by decide) ?_
      exact hr7 (x3 + 1) q2.2
    · refine a_aload_n hS dX10_count_27 rfl ?_
      refine a_iload_n hS dX10_count_28 rfl ?_
      refine a_aload_n hS dX10_count_29 rfl ?_
      refine a_aload_n hS dX10_count_30 rfl ?_
      refine a_callVv hS (rst := []) (c_Voc_countToken hW x3 q2.2 ) miX10_countToken mlX10_39 (sA340 hW) rfl rfl (Nat.le_of_ble_eq_true rfl) (Nat.le_of_ble_eq_true rfl) (Nat.le_of_ble_eq_true rfl) rfl dX10_count_31 (fun q3 => ?_)
      refine a_iinc hS (L' := [some (rf w 340), some (rf w 2), some (rf w 289), some (iv (x3 + 1))]) dX10_count_34 rfl hN (Nat.le_of_ble_eq_true rfl) rfl rfl ?_
      refine a_goto hS (tgt := 7) dX10_count_37 (by decide) ?_
      exact hr7 (x3 + 1) q3.2
set_option maxRecDepth 100000 in
set_option maxHeartbeats 4000000 in
theorem c_Voc_count {l : Launch} {w : Wd} (hW : shp w = ShA)  (σ : Mem)  : Ctr l w yX10_count cX10_count 4 none (rmN 4 92) 0 [rf w 340, rf w 2, rf w 289] σ (Voc_count  σ) := by
  refine met_of (own := RX10) (by decide) rfl rfl rfl (Nat.le_of_ble_eq_true rfl) (fun X x hXl hN hS => ⟨[some (rf w 340), some (rf w 2), some (rf w 289), none], ⟨1, rfl⟩, ?_⟩)
  subst hXl
  unfold Voc_count
  refine a_aload_n hS dX10_count_0 rfl ?_
  refine a_iconst hS dX10_count_1 ?_
  refine a_putI hS dX10_count_2 plX10_9 (sA340 hW) rfl ?_
  refine a_letM (fun s1 => ?_)
  refine a_iconst hS dX10_count_5 ?_
  refine a_istore_n hS (L' := [some (rf w 340), some (rf w 2), some (rf w 289), some (iv 0)]) dX10_count_6 hN (Nat.le_of_ble_eq_true rfl) rfl rfl ?_
  exact k_Voc_count_7 hS hN hW   100000 0 s1
noncomputable def Voc_commonest_4b   (r4 : Int → Int → Mem → Option (Int × Mem)) (x1 : Int) (x2 : Int) (σ : Mem) : Option (Int × Mem) := if wr x2 < wr (σ 340 0) then (if wr x1 = (-1) then (r4 x2 (x2 + 1) σ) else ((Row_get 343 x2 σ).bind fun q1 => (Row_get 343 x1 q1.2).bind fun q2 => if wr q2.1 < wr q1.1 then (r4 x2 (x2 + 1) q2.2) else (r4 x1 (x2 + 1) q2.2))) else (some (x1, σ))
noncomputable def Voc_commonest_4   (n : Nat) : Int → Int → Mem → Option (Int × Mem) := fixN (fun _ _ _ => none) (Voc_commonest_4b  ) n
noncomputable def Voc_commonest  (σ : Mem) : Option (Int × Mem) := Voc_commonest_4 100000 (-1) 0 σ
set_option maxRecDepth 100000 in
set_option maxHeartbeats 4000000 in
theorem k_Voc_commonest_4 {X : Cx} {w : Wd} {x : Int × Mem} (hS : Std X (rmN 1 21) w cX10_commonest RX10 (some .int)) (hN : cxn X = 3) (hW : shp w = ShA)   : ∀ (n : Nat) (x1 : Int) (x2 : Int) (σ : Mem), Sm X (rmN 1 21) w 1 x 4 [some (rf w 340), some (iv x1), some (iv x2)] [] σ (Voc_commonest_4   n x1 x2 σ) := by
  refine fix_ok (P := fun (r4 : Int → Int → Mem → Option (Int × Mem)) => ∀ (x1 : Int) (x2 : Int) (σ : Mem), Sm X (rmN 1 21) w 1 x 4 [some (rf w 340), some (iv x1), some (iv x2)] [] σ (r4 x1 x2 σ)) (fun _ _ _ => a_none) (fun r4 hr4 => ?_)
  intro x1 x2 σ
  unfold Voc_commonest_4b
  refine a_iload_n hS dX10_commonest_4 rfl ?_
  refine a_aload_n hS dX10_commonest_5 rfl ?_
  refine a_getI hS dX10_commonest_6 flX10_9 (sA340 hW) rfl ?_
  refine a_icmpge hS rfl rfl (tgt := 44) dX10_commonest_9 (by decide) ?_ ?_
  · refine a_iload_n hS dX10_commonest_44 rfl ?_
    exact a_iret hS rfl rfl dX10_commonest_45
  · refine a_iload_n hS dX10_commonest_12 rfl ?_
    refine a_iconst hS dX10_commonest_13 ?_
    refine a_icmpeq hS rfl (wl (-1) rfl) (tgt := 36) dX10_commonest_14 (by decide) ?_ ?_
    · refine a_iload_n hS dX10_commonest_36 rfl ?_
      refine a_istore_n hS (L' := [some (rf w 340), some (iv x2), some (iv x2)]) dX10_commonest_37 hN (Nat.le_of_ble_eq_true rfl) rfl rfl ?_
      refine a_iinc hS (L' := [some (rf w 340), some (iv x2), some (iv (x2 + 1))]) dX10_commonest_38 rfl hN (Nat.le_of_ble_eq_true rfl) rfl rfl ?_
      refine a_goto hS (tgt := 4) dX10_commonest_41 (by decide) ?_
      exact hr4 x2 (x2 + 1) σ
    · refine a_aload_n hS dX10_commonest_17 rfl ?_
      refine a_getR hS (j := 343) dX10_commonest_18 flX10_24 (sA340 hW) rfl ?_
      refine a_iload_n hS dX10_commonest_21 rfl ?_
      refine a_callVi hS (rst := []) (c_Row_get hW 343 x2 σ iRow343) miX5_get mlX10_35 (sA343 hW) rfl rfl (Nat.le_of_ble_eq_true rfl) (Nat.le_of_ble_eq_true rfl) (Nat.le_of_ble_eq_true rfl) rfl dX10_commonest_22 (fun q1 => ?_)
      refine a_aload_n hS dX10_commonest_25 rfl ?_
      refine a_getR hS (j := 343) dX10_commonest_26 flX10_24 (sA340 hW) rfl ?_
      refine a_iload_n hS dX10_commonest_29 rfl ?_
      refine a_callVi hS (rst := [iv q1.1]) (c_Row_get hW 343 x1 q1.2 iRow343) miX5_get mlX10_35 (sA343 hW) rfl rfl (Nat.le_of_ble_eq_true rfl) (Nat.le_of_ble_eq_true rfl) (Nat.le_of_ble_eq_true rfl) rfl dX10_commonest_30 (fun q2 => ?_)
      refine a_icmple hS rfl rfl (tgt := 38) dX10_commonest_33 (by decide) ?_ ?_
      · refine a_iinc hS (L' := [some (rf w 340), some (iv x1), some (iv (x2 + 1))]) dX10_commonest_38 rfl hN (Nat.le_of_ble_eq_true rfl) rfl rfl ?_
        refine a_goto hS (tgt := 4) dX10_commonest_41 (by decide) ?_
        exact hr4 x1 (x2 + 1) q2.2
      · refine a_iload_n hS dX10_commonest_36 rfl ?_
        refine a_istore_n hS (L' := [some (rf w 340), some (iv x2), some (iv x2)]) dX10_commonest_37 hN (Nat.le_of_ble_eq_true rfl) rfl rfl ?_
        refine a_iinc hS (L' := [some (rf w 340), some (iv x2), some (iv (x2 + 1))]) dX10_commonest_38 rfl hN (Nat.le_of_ble_eq_true rfl) rfl rfl ?_
        refine a_goto hS (tgt := 4) dX10_commonest_41 (by decide) ?_
        exact hr4 x2 (x2 + 1) q2.2
set_option maxRecDepth 100000 in
set_option maxHeartbeats 4000000 in
theorem c_Voc_commonest {l : Launch} {w : Wd} (hW : shp w = ShA)  (σ : Mem)  : Ctr l w yX10_commonest cX10_commonest 3 (some .int) (rmN 1 21) 1 [rf w 340] σ (Voc_commonest  σ) := by
  refine met_of (own := RX10) (by decide) rfl rfl rfl (Nat.le_of_ble_eq_true rfl) (fun X x hXl hN hS => ⟨[some (rf w 340), none, none], ⟨2, rfl⟩, ?_⟩)
  subst hXl
  unfold Voc_commonest
  refine a_iconst hS dX10_commonest_0 ?_
  refine a_istore_n hS (L' := [some (rf w 340), some (iv (-1)), none]) dX10_commonest_1 hN (Nat.le_of_ble_eq_true rfl) rfl rfl ?_
  refine a_iconst hS dX10_commonest_2 ?_
  refine a_istore_n hS (L' := [some (rf w 340), some (iv (-1)), some (iv 0)]) dX10_commonest_3 hN (Nat.le_of_ble_eq_true rfl) rfl rfl ?_
  exact k_Voc_commonest_4 hS hN hW   100000 (-1) 0 σ
