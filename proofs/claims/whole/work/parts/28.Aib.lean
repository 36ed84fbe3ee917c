noncomputable def Ai_contentColumn (a0 : Int) (a1 : Int) (σ : Mem) : Option (Int × Mem) := (Ai_study  σ).bind fun q1 => (Ai_findBlock a0 a1 q1.2).bind fun q2 => if wr q2.1 = (-1) then (some ((-1), q2.2)) else ((Row_get 290 q2.1 q2.2).bind fun q3 => (Row_get 3 q3.1 q3.2).bind fun q4 => (Row_get 317 q2.1 q4.2).bind fun q5 => (Row_get 319 q2.1 q5.2).bind fun q6 => (Ai_columnFrom q4.1 q5.1 q6.1 (q6.2 1 2) q6.2).bind fun q7 => some (q7.1, q7.2))
set_option maxRecDepth 100000 in
set_option maxHeartbeats 4000000 in
theorem c_Ai_contentColumn {l : Launch} {w : Wd} (hW : shp w = ShA) (a0 : Int) (a1 : Int) (σ : Mem)  : Ctr l w yX11_contentColumn cX11_contentColumn 5 (some .int) (rmN 6 148) 1 [rf w 0, iv a0, iv a1] σ (Ai_contentColumn a0 a1 σ) := by
  refine met_of (own := RX11) (by decide) rfl rfl rfl (Nat.le_of_ble_eq_true rfl) (fun X x hXl hN hS => ⟨[some (rf w 0), some (iv a0), some (iv a1), none, none], ⟨2, rfl⟩, ?_⟩)
  subst hXl
  unfold Ai_contentColumn
  refine a_aload_n hS dX11_contentColumn_0 rfl ?_
  refine a_callVv hS (rst := []) (c_Ai_study hW  σ ) miX11_study mlX11_138 (sA0 hW) rfl rfl (Nat.le_of_ble_eq_true rfl) (Nat.le_of_ble_eq_true rfl) (Nat.le_of_ble_eq_true rfl) rfl dX11_contentColumn_1 (fun q1 => ?_)
  refine a_aload_n hS dX11_contentColumn_4 rfl ?_
  refine a_iload_n hS dX11_contentColumn_5 rfl ?_
  refine a_iload_n hS dX11_contentColumn_6 rfl ?_
  refine a_callVi hS (rst := []) (c_Ai_findBlock hW a0 a1 q1.2 ) miX11_findBlock mlX11_267 (sA0 hW) rfl rfl (Nat.le_of_ble_eq_true rfl) (Nat.le_of_ble_eq_true rfl) (Nat.le_of_ble_eq_true rfl) rfl dX11_contentColumn_7 (fun q2 => ?_)
  refine a_istore_n hS (L' := [some (rf w 0), some (iv a0), some (iv a1), some (iv q2.1), none]) dX11_contentColumn_10 hN (Nat.le_of_ble_eq_true rfl) rfl rfl ?_
  refine a_iload_n hS dX11_contentColumn_11 rfl ?_
  refine a_iconst hS dX11_contentColumn_12 ?_
  refine a_icmpne hS rfl (wl (-1) rfl) (tgt := 18) dX11_contentColumn_13 (by decide) ?_ ?_
  · refine a_aload_n hS dX11_contentColumn_18 rfl ?_
    refine a_getR hS (j := 1) dX11_contentColumn_19 flX11_12 (sA0 hW) rfl ?_
    refine a_getR hS (j := 2) dX11_contentColumn_22 flX11_96 (sA1 hW) rfl ?_
    refine a_getR hS (j := 3) dX11_contentColumn_25 flX11_121 (sA2 hW) rfl ?_
    refine a_aload_n hS dX11_contentColumn_28 rfl ?_
    refine a_getR hS (j := 289) dX11_contentColumn_29 flX11_53 (sA0 hW) rfl ?_
    refine a_getR hS (j := 290) dX11_contentColumn_32 flX11_273 (sA289 hW) rfl ?_
    refine a_iload_n hS dX11_contentColumn_35 rfl ?_
    refine a_callVi hS (rst := [rf w 3]) (c_Row_get hW 290 q2.1 q2.2 iRow290) miX5_get mlX11_124 (sA290 hW) rfl rfl (Nat.le_of_ble_eq_true rfl) (Nat.le_of_ble_eq_true rfl) (Nat.le_of_ble_eq_true rfl) rfl dX11_contentColumn_36 (fun q3 => ?_)
    refine a_callVi hS (rst := []) (c_Row_get hW 3 q3.1 q3.2 iRow3) miX5_get mlX11_124 (sA3 hW) rfl rfl (Nat.le_of_ble_eq_true rfl) (Nat.le_of_ble_eq_true rfl) (Nat.le_of_ble_eq_true rfl) rfl dX11_contentColumn_39 (fun q4 => ?_)
    refine a_istore hS (L' := [some (rf w 0), some (iv a0), some (iv a1), some (iv q2.1), some (iv q4.1)]) dX11_contentColumn_42 hN (Nat.le_of_ble_eq_true rfl) rfl rfl ?_
    refine a_iload hS dX11_contentColumn_44 rfl ?_
    refine a_aload_n hS dX11_contentColumn_46 rfl ?_
    refine a_getR hS (j := 304) dX11_contentColumn_47 flX11_60 (sA0 hW) rfl ?_
    refine a_getR hS (j := 317) dX11_contentColumn_50 flX11_276 (sA304 hW) rfl ?_
    refine a_iload_n hS dX11_contentColumn_53 rfl ?_
    refine a_callVi hS (rst := [iv q4.1]) (c_Row_get hW 317 q2.1 q4.2 iRow317) miX5_get mlX11_124 (sA317 hW) rfl rfl (Nat.le_of_ble_eq_true rfl) (Nat.le_of_ble_eq_true rfl) (Nat.le_of_ble_eq_true rfl) rfl dX11_contentColumn_54 (fun q5 => ?_)
    refine a_aload_n hS dX11_contentColumn_57 rfl ?_
    refine a_getR hS (j := 304) dX11_contentColumn_58 flX11_60 (sA0 hW) rfl ?_
    refine a_getR hS (j := 319) dX11_contentColumn_61 flX11_279 (sA304 hW) rfl ?_
    refine a_iload_n hS dX11_contentColumn_64 rfl ?_
    refine a_callVi hS (rst := [iv q5.1, iv q4.1]) (c_Row_get hW 319 q2.1 q5.2 iRow319) miX5_get mlX11_124 (sA319 hW) rfl rfl (Nat.le_of_ble_eq_true rfl) (Nat.le_of_ble_eq_true rfl) (Nat.le_of_ble_eq_true rfl) rfl dX11_contentColumn_65 (fun q6 => ?_)
    refine a_aload_n hS dX11_contentColumn_68 rfl ?_
    refine a_getR hS (j := 1) dX11_contentColumn_69 flX11_12 (sA0 hW) rfl ?_
    refine a_getI hS dX11_contentColumn_72 flX11_141 (sA1 hW) rfl ?_
    refine a_callSi hS (rst := []) (c_Ai_columnFrom hW q4.1 q5.1 q6.1 (q6.2 1 2) q6.2 ) msX11_columnFrom mlX11_282 rfl (Nat.le_of_ble_eq_true rfl) (Nat.le_of_ble_eq_true rfl) (Nat.le_of_ble_eq_true rfl) rfl dX11_contentColumn_75 (fun q7 => ?_)
    exact a_iret hS rfl rfl dX11_contentColumn_78
  · refine a_iconst hS dX11_contentColumn_16 ?_
    exact a_iret hS rfl rfl dX11_contentColumn_17
noncomputable def Ai_strays  (σ : Mem) : Option (Int × Mem) := (Ai_study  σ).bind fun q1 => some ((q1.2 304 12), q1.2)
set_option maxRecDepth 100000 in
set_option maxHeartbeats 4000000 in
theorem c_Ai_strays {l : Launch} {w : Wd} (hW : shp w = ShA)  (σ : Mem)  : Ctr l w yX11_strays cX11_strays 1 (some .int) (rmN 6 148) 1 [rf w 0] σ (Ai_strays  σ) := by
  refine met_of (own := RX11) (by decide) rfl rfl rfl (Nat.le_of_ble_eq_true rfl) (fun X x hXl hN hS => ⟨[some (rf w 0)], ⟨0, rfl⟩, ?_⟩)
  subst hXl
  unfold Ai_strays
  refine a_aload_n hS dX11_strays_0 rfl ?_
  refine a_callVv hS (rst := []) (c_Ai_study hW  σ ) miX11_study mlX11_138 (sA0 hW) rfl rfl (Nat.le_of_ble_eq_true rfl) (Nat.le_of_ble_eq_true rfl) (Nat.le_of_ble_eq_true rfl) rfl dX11_strays_1 (fun q1 => ?_)
  refine a_aload_n hS dX11_strays_4 rfl ?_
  refine a_getR hS (j := 304) dX11_strays_5 flX11_60 (sA0 hW) rfl ?_
  refine a_getI hS dX11_strays_8 flX11_285 (sA304 hW) rfl ?_
  exact a_iret hS rfl rfl dX11_strays_11
noncomputable def Ai_lost  (σ : Mem) : Option (Int × Mem) := (Ai_study  σ).bind fun q1 => some ((q1.2 304 13), q1.2)
set_option maxRecDepth 100000 in
set_option maxHeartbeats 4000000 in
theorem c_Ai_lost {l : Launch} {w : Wd} (hW : shp w = ShA)  (σ : Mem)  : Ctr l w yX11_lost cX11_lost 1 (some .int) (rmN 6 148) 1 [rf w 0] σ (Ai_lost  σ) := by
  refine met_of (own := RX11) (by decide) rfl rfl rfl (Nat.le_of_ble_eq_true rfl) (fun X x hXl hN hS => ⟨[some (rf w 0)], ⟨0, rfl⟩, ?_⟩)
  subst hXl
  unfold Ai_lost
  refine a_aload_n hS dX11_lost_0 rfl ?_
  refine a_callVv hS (rst := []) (c_Ai_study hW  σ ) miX11_study mlX11_138 (sA0 hW) rfl rfl (Nat.le_of_ble_eq_true rfl) (Nat.le_of_ble_eq_true rfl) (Nat.le_of_ble_eq_true rfl) rfl dX11_lost_1 (fun q1 => ?_)
  refine a_aload_n hS dX11_lost_4 rfl ?_
  refine a_getR hS (j := 304) dX11_lost_5 flX11_60 (sA0 hW) rfl ?_
  refine a_getI hS dX11_lost_8 flX11_288 (sA304 hW) rfl ?_
  exact a_iret hS rfl rfl dX11_lost_11
noncomputable def Ai_vocabulary  (σ : Mem) : Option (Int × Mem) := (Ai_study  σ).bind fun q1 => (Voc_count  q1.2).bind fun q2 => some ((q2.2 340 0), q2.2)
set_option maxRecDepth 100000 in
set_option maxHeartbeats 4000000 in
theorem c_Ai_vocabulary {l : Launch} {w : Wd} (hW : shp w = ShA)  (σ : Mem)  : Ctr l w yX11_vocabulary cX11_vocabulary 1 (some .int) (rmN 6 148) 1 [rf w 0] σ (Ai_vocabulary  σ) := by
  refine met_of (own := RX11) (by decide) rfl rfl rfl (Nat.le_of_ble_eq_true rfl) (fun X x hXl hN hS => ⟨[some (rf w 0)], ⟨0, rfl⟩, ?_⟩)
  subst hXl
  unfold Ai_vocabulary
  refine a_aload_n hS dX11_vocabulary_0 rfl ?_
  refine a_callVv hS (rst := []) (c_Ai_study hW  σ ) miX11_study mlX11_138 (sA0 hW) rfl rfl (Nat.le_of_ble_eq_true rfl) (Nat.le_of_ble_eq_true rfl) (Nat.le_of_ble_eq_true rfl) rfl dX11_vocabulary_1 (fun q1 => ?_)
  refine a_aload_n hS dX11_vocabulary_4 rfl ?_
  refine a_getR hS (j := 340) dX11_vocabulary_5 flX11_74 (sA0 hW) rfl ?_
  refine a_aload_n hS dX11_vocabulary_8 rfl ?_
  refine a_getR hS (j := 1) dX11_vocabulary_9 flX11_12 (sA0 hW) rfl ?_
  refine a_getR hS (j := 2) dX11_vocabulary_12 flX11_96 (sA1 hW) rfl ?_
  refine a_aload_n hS dX11_vocabulary_15 rfl ?_
  refine a_getR hS (j := 289) dX11_vocabulary_16 flX11_53 (sA0 hW) rfl ?_
  refine a_callVv hS (rst := []) (c_Voc_count hW  q1.2 ) miX10_count mlX11_291 (sA340 hW) rfl rfl (Nat.le_of_ble_eq_true rfl) (Nat.le_of_ble_eq_true rfl) (Nat.le_of_ble_eq_true rfl) rfl dX11_vocabulary_19 (fun q2 => ?_)
  refine a_aload_n hS dX11_vocabulary_22 rfl ?_
  refine a_getR hS (j := 340) dX11_vocabulary_23 flX11_74 (sA0 hW) rfl ?_
  refine a_getI hS dX11_vocabulary_26 flX11_294 (sA340 hW) rfl ?_
  exact a_iret hS rfl rfl dX11_vocabulary_29
noncomputable def Ai_commonestCount  (σ : Mem) : Option (Int × Mem) := (Ai_study  σ).bind fun q1 => (Voc_count  q1.2).bind fun q2 => (Voc_commonest  q2.2).bind fun q3 => if wr q3.1 = (-1) then (some ((-9), q3.2)) else ((Row_get 343 q3.1 q3.2).bind fun q4 => some (q4.1, q4.2))
set_option maxRecDepth 100000 in
set_option maxHeartbeats 4000000 in
theorem c_Ai_commonestCount {l : Launch} {w : Wd} (hW : shp w = ShA)  (σ : Mem)  : Ctr l w yX11_commonestCount cX11_commonestCount 2 (some .int) (rmN 6 148) 1 [rf w 0] σ (Ai_commonestCount  σ) := by
  refine met_of (own := RX11) (by decide) rfl rfl rfl (Nat.le_of_ble_eq_true rfl) (fun X x hXl hN hS => ⟨[some (rf w 0), none], ⟨1, rfl⟩, ?_⟩)
  subst hXl
  unfold Ai_commonestCount
  refine a_aload_n hS dX11_commonestCount_0 rfl ?_
  refine a_callVv hS (rst := []) (c_Ai_study hW  σ ) miX11_study mlX11_138 (sA0 hW) rfl rfl (Nat.le_of_ble_eq_true rfl) (Nat.le_of_ble_eq_true rfl) (Nat.le_of_ble_eq_true rfl) rfl dX11_commonestCount_1 (fun q1 => ?_)
  refine a_aload_n hS dX11_commonestCount_4 rfl ?_
  refine a_getR hS (j := 340) dX11_commonestCount_5 flX11_74 (sA0 hW) rfl ?_
  refine a_aload_n hS dX11_commonestCount_8 rfl ?_
  refine a_getR hS (j := 1) dX11_commonestCount_9 flX11_12 (sA0 hW) rfl ?_
  refine a_getR hS (j := 2) dX11_commonestCount_12 flX11_96 (sA1 hW) rfl ?_
  refine a_aload_n hS dX11_commonestCount_15 rfl ?_
  refine a_getR hS (j := 289) dX11_commonestCount_16 flX11_53 (sA0 hW) rfl ?_
  refine a_callVv hS (rst := []) (c_Voc_count hW  q1.2 ) miX10_count mlX11_291 (sA340 hW) rfl rfl (Nat.le_of_ble_eq_true rfl) (Nat.le_of_ble_eq_true rfl) (Nat.le_of_ble_eq_true rfl) rfl dX11_commonestCount_19 (fun q2 => ?_)
  refine a_aload_n hS dX11_commonestCount_22 rfl ?_
  refine a_getR hS (j := 340) dX11_commonestCount_23 flX11_74 (sA0 hW) rfl ?_
  refine a_callVi hS (rst := []) (c_Voc_commonest hW  q2.2 ) miX10_commonest mlX11_296 (sA340 hW) rfl rfl (Nat.le_of_ble_eq_true rfl) (Nat.le_of_ble_eq_true rfl) (Nat.le_of_ble_eq_true rfl) rfl dX11_commonestCount_26 (fun q3 => ?_)
  refine a_istore_n hS (L' := [some (rf w 0), some (iv q3.1)]) dX11_commonestCount_29 hN (Nat.le_of_ble_eq_true rfl) rfl rfl ?_
  refine a_iload_n hS dX11_commonestCount_30 rfl ?_
  refine a_iconst hS dX11_commonestCount_31 ?_
  refine a_icmpne hS rfl (wl (-1) rfl) (tgt := 40) dX11_commonestCount_32 (by decide) ?_ ?_
  · refine a_aload_n hS dX11_commonestCount_40 rfl ?_
    refine a_getR hS (j := 340) dX11_commonestCount_41 flX11_74 (sA0 hW) rfl ?_
    refine a_getR hS (j := 343) dX11_commonestCount_44 flX11_299 (sA340 hW) rfl ?_
    refine a_iload_n hS dX11_commonestCount_47 rfl ?_
    refine a_callVi hS (rst := []) (c_Row_get hW 343 q3.1 q3.2 iRow343) miX5_get mlX11_124 (sA343 hW) rfl rfl (Nat.le_of_ble_eq_true rfl) (Nat.le_of_ble_eq_true rfl) (Nat.le_of_ble_eq_true rfl) rfl dX11_commonestCount_48 (fun q4 => ?_)
    exact a_iret hS rfl rfl dX11_commonestCount_51
  · refine a_bipush hS dX11_commonestCount_35 rfl ?_
    refine a_goto hS (tgt := 51) dX11_commonestCount_37 (by decide) ?_
    exact a_iret hS rfl rfl dX11_commonestCount_51
noncomputable def Ai_commonestByte (a0 : Int) (σ : Mem) : Option (Int × Mem) := if wr a0 < 0 then (some ((-1), σ)) else ((Ai_study  σ).bind fun q1 => (Voc_count  q1.2).bind fun q2 => (Voc_commonest  q2.2).bind fun q3 => if wr q3.1 = (-1) then (some ((-9), q3.2)) else ((Row_get 341 q3.1 q3.2).bind fun q4 => (Row_get 294 q4.1 q4.2).bind fun q5 => if wr a0 < wr q5.1 then ((Row_get 290 q4.1 q5.2).bind fun q6 => (Row_get 292 q4.1 q6.2).bind fun q7 => (Lin_byteOf q6.1 (q7.1 + a0) q7.2).bind fun q8 => some (q8.1, q8.2)) else (some ((-9), q5.2))))
set_option maxRecDepth 100000 in
set_option maxHeartbeats 4000000 in
theorem c_Ai_commonestByte {l : Launch} {w : Wd} (hW : shp w = ShA) (a0 : Int) (σ : Mem)  : Ctr l w yX11_commonestByte cX11_commonestByte 4 (some .int) (rmN 6 148) 1 [rf w 0, iv a0] σ (Ai_commonestByte a0 σ) := by
  refine met_of (own := RX11) (by decide) rfl rfl rfl (Nat.le_of_ble_eq_true rfl) (fun X x hXl hN hS => ⟨[some (rf w 0), some (iv a0), none, none], ⟨2, rfl⟩, ?_⟩)
  subst hXl
  unfold Ai_commonestByte
  refine a_iload_n hS dX11_commonestByte_0 rfl ?_
  refine a_ifge hS rfl  (tgt := 6) dX11_commonestByte_1 (by decide) ?_ ?_
  · refine a_aload_n hS dX11_commonestByte_6 rfl ?_
    refine a_callVv hS (rst := []) (c_Ai_study hW  σ ) miX11_study mlX11_138 (sA0 hW) rfl rfl (Nat.le_of_ble_eq_true rfl) (Nat.le_of_ble_eq_true rfl) (Nat.le_of_ble_eq_true rfl) rfl dX11_commonestByte_7 (fun q1 => ?_)
    refine a_aload_n hS dX11_commonestByte_10 rfl ?_
    refine a_getR hS (j := 340) dX11_commonestByte_11 flX11_74 (sA0 hW) rfl ?_
    refine a_aload_n hS dX11_commonestByte_14 rfl ?_
    refine a_getR hS (j := 1) dX11_commonestByte_15 flX11_12 (sA0 hW) rfl ?_
    refine a_getR hS (j := 2) dX11_commonestByte_18 flX11_96 (sA1 hW) rfl ?_
    refine a_aload_n hS dX11_commonestByte_21 rfl ?_
    refine a_getR hS (j := 289) dX11_commonestByte_22 flX11_53 (sA0 hW) rfl ?_
    refine a_callVv hS (rst := []) (c_Voc_count hW  q1.2 ) miX10_count mlX11_291 (sA340 hW) rfl rfl (Nat.le_of_ble_eq_true rfl) (Nat.le_of_ble_eq_true rfl) (Nat.le_of_ble_eq_true rfl) rfl dX11_commonestByte_25 (fun q2 => ?_)
    refine a_aload_n hS dX11_commonestByte_28 rfl ?_
    refine a_getR hS (j := 340) dX11_commonestByte_29 flX11_74 (sA0 hW) rfl ?_
    refine a_callVi hS (rst := []) (c_Voc_commonest hW  q2.2 ) miX10_commonest mlX11_296 (sA340 hW) rfl rfl (Nat.le_of_ble_eq_true rfl) (Nat.le_of_ble_eq_true rfl) (Nat.le_of_ble_eq_true rfl) rfl dX11_commonestByte_32 (fun q3 => ?_)
    refine a_istore_n hS (L' := [some (rf w 0), some (iv a0), some (iv q3.1), none]) dX11_commonestByte_35 hN (Nat.le_of_ble_eq_true rfl) rfl rfl ?_
    refine a_iload_n hS dX11_commonestByte_36 rfl ?_
    refine a_iconst hS dX11_commonestByte_37 ?_
    refine a_icmpne hS rfl (wl (-1) rfl) (tgt := 44) dX11_commonestByte_38 (by decide) ?_ ?_
    · refine a_aload_n hS dX11_commonestByte_44 rfl ?_
      refine a_getR hS (j := 340) dX11_commonestByte_45 flX11_74 (sA0 hW) rfl ?_
      refine a_getR hS (j := 341) dX11_commonestByte_48 flX11_302 (sA340 hW) rfl ?_
      refine a_iload_n hS dX11_commonestByte_51 rfl ?_
      refine a_callVi hS (rst := []) (c_Row_get hW 341 q3.1 q3.2 iRow341) miX5_get mlX11_124 (sA341 hW) rfl rfl (Nat.le_of_ble_eq_true rfl) (Nat.le_of_ble_eq_true rfl) (Nat.le_of_ble_eq_true rfl) rfl dX11_commonestByte_52 (fun q4 => ?_)
      refine a_istore_n hS (L' := [some (rf w 0), some (iv a0), some (iv q3.1), some (iv q4.1)]) dX11_commonestByte_55 hN (Nat.le_of_ble_eq_true rfl) rfl rfl ?_
      refine a_iload_n hS dX11_commonestByte_56 rfl ?_
      refine a_aload_n hS dX11_commonestByte_57 rfl ?_
      refine a_getR hS (j := 289) dX11_commonestByte_58 flX11_53 (sA0 hW) rfl ?_
      refine a_getR hS (j := 294) dX11_commonestByte_61 flX11_251 (sA289 hW) rfl ?_
      refine a_iload_n hS dX11_commonestByte_64 rfl ?_
      refine a_callVi hS (rst := [iv a0]) (c_Row_get hW 294 q4.1 q4.2 iRow294) miX5_get mlX11_124 (sA294 hW) rfl rfl (Nat.le_of_ble_eq_true rfl) (Nat.le_of_ble_eq_true rfl) (Nat.le_of_ble_eq_true rfl) rfl dX11_commonestByte_65 (fun q5 => ?_)
      refine a_icmplt hS rfl rfl (tgt := 74) dX11_commonestByte_68 (by decide) ?_ ?_
      · refine a_aload_n hS dX11_commonestByte_74 rfl ?_
        refine a_getR hS (j := 1) dX11_commonestByte_75 flX11_12 (sA0 hW) rfl ?_
        refine a_getR hS (j := 2) dX11_commonestByte_78 flX11_96 (sA1 hW) rfl ?_
        refine a_aload_n hS dX11_commonestByte_81 rfl ?_
        refine a_getR hS (j := 289) dX11_commonestByte_82 flX11_53 (sA0 hW) rfl ?_
        refine a_getR hS (j := 290) dX11_commonestByte_85 flX11_273 (sA289 hW) rfl ?_
        refine a_iload_n hS dX11_commonestByte_88 rfl ?_
        refine a_callVi hS (rst := [rf w 2]) (c_Row_get hW 290 q4.1 q5.2 iRow290) miX5_get mlX11_124 (sA290 hW) rfl rfl (Nat.le_of_ble_eq_true rfl) (Nat.le_of_ble_eq_true rfl) (Nat.le_of_ble_eq_true rfl) rfl dX11_commonestByte_89 (fun q6 => ?_)
        refine a_aload_n hS dX11_commonestByte_92 rfl ?_
        refine a_getR hS (j := 289) dX11_commonestByte_93 flX11_53 (sA0 hW) rfl ?_
        refine a_getR hS (j := 292) dX11_commonestByte_96 flX11_248 (sA289 hW) rfl ?_
        refine a_iload_n hS dX11_commonestByte_99 rfl ?_
        refine a_callVi hS (rst := [iv q6.1, rf w 2]) (c_Row_get hW 292 q4.1 q6.2 iRow292) miX5_get mlX11_124 (sA292 hW) rfl rfl (Nat.le_of_ble_eq_true rfl) (Nat.le_of_ble_eq_true rfl) (Nat.le_of_ble_eq_true rfl) rfl dX11_commonestByte_100 (fun q7 => ?_)
        refine a_iload_n hS dX11_commonestByte_103 rfl ?_
        refine a_iadd hS dX11_commonestByte_104 ?_
        refine a_callVi hS (rst := []) (c_Lin_byteOf hW q6.1 (q7.1 + a0) q7.2 ) miX3_byteOf mlX11_178 (sA2 hW) rfl rfl (Nat.le_of_ble_eq_true rfl) (Nat.le_of_ble_eq_true rfl) (Nat.le_of_ble_eq_true rfl) rfl dX11_commonestByte_105 (fun q8 => ?_)
        exact a_iret hS rfl rfl dX11_commonestByte_108
      · refine a_bipush hS dX11_commonestByte_71 rfl ?_
        exact a_iret hS rfl rfl dX11_commonestByte_73
    · refine a_bipush hS dX11_commonestByte_41 rfl ?_
      exact a_iret hS rfl rfl dX11_commonestByte_43
  · refine a_iconst hS dX11_commonestByte_4 ?_
    exact a_iret hS rfl rfl dX11_commonestByte_5
noncomputable def Ai_undo  (σ : Mem) : Option (Int × Mem) := if wr (σ 34 0) = 0 then (some ((-2), σ)) else ((His_takeLatest  σ).bind fun q1 => letM (upM q1.2 0 11 0) fun s2 => some ((s2 34 0), s2))
set_option maxRecDepth 100000 in
set_option maxHeartbeats 4000000 in
theorem c_Ai_undo {l : Launch} {w : Wd} (hW : shp w = ShA)  (σ : Mem)  : Ctr l w yX11_undo cX11_undo 1 (some .int) (rmN 5 115) 1 [rf w 0] σ (Ai_undo  σ) := by
  refine met_of (own := RX11) (by decide) rfl rfl rfl (Nat.le_of_ble_eq_true rfl) (fun X x hXl hN hS => ⟨[some (rf w 0)], ⟨0, rfl⟩, ?_⟩)
  subst hXl
  unfold Ai_undo
  refine a_aload_n hS dX11_undo_0 rfl ?_
  refine a_getR hS (j := 34) dX11_undo_1 flX11_33 (sA0 hW) rfl ?_
  refine a_getI hS dX11_undo_4 flX11_305 (sA34 hW) rfl ?_
  refine a_ifne hS rfl  (tgt := 13) dX11_undo_7 (by decide) ?_ ?_
  · refine a_aload_n hS dX11_undo_13 rfl ?_
    refine a_getR hS (j := 34) dX11_undo_14 flX11_33 (sA0 hW) rfl ?_
    refine a_aload_n hS dX11_undo_17 rfl ?_
    refine a_getR hS (j := 1) dX11_undo_18 flX11_12 (sA0 hW) rfl ?_
    refine a_callVv hS (rst := []) (c_His_takeLatest hW  σ ) miX2_takeLatest mlX11_306 (sA34 hW) rfl rfl (Nat.le_of_ble_eq_true rfl) (Nat.le_of_ble_eq_true rfl) (Nat.le_of_ble_eq_true rfl) rfl dX11_undo_21 (fun q1 => ?_)
    refine a_aload_n hS dX11_undo_24 rfl ?_
    refine a_iconst hS dX11_undo_25 ?_
    refine a_putZ hS dX11_undo_26 plX11_81 (sA0 hW) rfl (by decide) ?_
    refine a_letM (fun s2 => ?_)
    refine a_aload_n hS dX11_undo_29 rfl ?_
    refine a_getR hS (j := 34) dX11_undo_30 flX11_33 (sA0 hW) rfl ?_
    refine a_getI hS dX11_undo_33 flX11_305 (sA34 hW) rfl ?_
    exact a_iret hS rfl rfl dX11_undo_36
  · refine a_bipush hS dX11_undo_10 rfl ?_
    exact a_iret hS rfl rfl dX11_undo_12
noncomputable def Ai_imageAt (a0 : Int) (σ : Mem) : Option (Int × Mem) := if wr a0 < 0 then (some (-1, σ)) else (if wr a0 < wr (imgsA.length : Int) then (if 0 ≤ wr a0 ∧ wr a0 < (imgsA.length : Int) then ((fun j1 : Nat => some ((j1 : Int), σ)) (imgsA.getD (wr a0).toNat 0)) else none) else (some (-1, σ)))
set_option maxRecDepth 100000 in
set_option maxHeartbeats 4000000 in
theorem c_Ai_imageAt {l : Launch} {w : Wd} (hW : shp w = ShA) (a0 : Int) (σ : Mem)  : Ctr l w yX11_imageAt cX11_imageAt 2 (some (.object "AutoIndenter$State")) (rmN 0 0) 3 [rf w 0, iv a0] σ (Ai_imageAt a0 σ) := by
  refine met_of (own := RX11) (by decide) rfl rfl rfl (Nat.le_of_ble_eq_true rfl) (fun X x hXl hN hS => ⟨[some (rf w 0), some (iv a0)], ⟨0, rfl⟩, ?_⟩)
  subst hXl
  unfold Ai_imageAt
  refine a_iload_n hS dX11_imageAt_0 rfl ?_
  refine a_iflt hS rfl  (tgt := 22) dX11_imageAt_1 (by decide) ?_ ?_
  · refine a_aconst hS dX11_imageAt_22 ?_
    exact a_aretN hS rfl rfl dX11_imageAt_23
  · refine a_iload_n hS dX11_imageAt_4 rfl ?_
    refine a_aload_n hS dX11_imageAt_5 rfl ?_
    refine a_getR hS (j := 236) dX11_imageAt_6 flX11_37 (sA0 hW) rfl ?_
    refine a_alenR hS (sA236 hW) dX11_imageAt_9 ?_
    refine a_icmpge hS rfl rfl (tgt := 22) dX11_imageAt_10 (by decide) ?_ ?_
    · refine a_aconst hS dX11_imageAt_22 ?_
      exact a_aretN hS rfl rfl dX11_imageAt_23
    · refine a_aload_n hS dX11_imageAt_13 rfl ?_
      refine a_getR hS (j := 236) dX11_imageAt_14 flX11_37 (sA0 hW) rfl ?_
      refine a_iload_n hS dX11_imageAt_17 rfl ?_
      refine a_aald hS (F := fun j1 : Nat => some ((j1 : Int), σ)) (sA236 hW) dX11_imageAt_18 (fun j1 hj1 => ?_)
      refine a_goto hS (tgt := 23) dX11_imageAt_19 (by decide) ?_
      exact a_aret hS rfl rfl dX11_imageAt_23
noncomputable def Ai_keep (a0 : Int) (σ : Mem) : Option (Int × Mem) := (Ai_imageAt a0 σ).bind fun q1 => if q1.1 < 0 then (some ((-1), q1.2)) else (@ite _ (isSta (q1.1.toNat)) (Classical.propDecidable _) ((Row_get 287 a0 q1.2).bind fun q2 => (Sta_copy (q1.1.toNat) 1 q2.2).bind fun q3 => (Row_set 287 a0 1 q3.2).bind fun q4 => some (q2.1, q4.2)) none)
set_option maxRecDepth 100000 in
set_option maxHeartbeats 4000000 in
theorem c_Ai_keep {l : Launch} {w : Wd} (hW : shp w = ShA) (a0 : Int) (σ : Mem)  : Ctr l w yX11_keep cX11_keep 4 (some .int) (rmN 4 93) 1 [rf w 0, iv a0] σ (Ai_keep a0 σ) := by
  refine met_of (own := RX11) (by decide) rfl rfl rfl (Nat.le_of_ble_eq_true rfl) (fun X x hXl hN hS => ⟨[some (rf w 0), some (iv a0), none, none], ⟨2, rfl⟩, ?_⟩)
  subst hXl
  unfold Ai_keep
  refine a_aload_n hS dX11_keep_0 rfl ?_
  refine a_iload_n hS dX11_keep_1 rfl ?_
  refine a_callVr hS (rst := []) (c_Ai_imageAt hW a0 σ ) miX11_imageAt mlX11_310 (sA0 hW) rfl rfl (Nat.le_of_ble_eq_true rfl) (Nat.le_of_ble_eq_true rfl) (Nat.le_of_ble_eq_true rfl) rfl dX11_keep_2 (fun q1 => ?_) (fun q1 => ?_)
  · refine a_astore_nN hS (L' := [some (rf w 0), some (iv a0), some (.null), none]) dX11_keep_5 hN (Nat.le_of_ble_eq_true rfl) rfl rfl ?_
    refine a_aload_nN hS dX11_keep_6 rfl ?_
    refine a_ifnonnullN hS dX11_keep_7 ?_
    refine a_iconst hS dX11_keep_10 ?_
    exact a_iret hS rfl rfl dX11_keep_11
  · refine a_chk (fun hqq1 => ?_)
    refine a_astore_n hS (L' := [some (rf w 0), some (iv a0), some (rf w (q1.1.toNat)), none]) dX11_keep_5 hN (Nat.le_of_ble_eq_true rfl) rfl rfl ?_
    refine a_aload_n hS dX11_keep_6 rfl ?_
    refine a_ifnonnull hS (tgt := 12) dX11_keep_7 (by decide) ?_
    refine a_aload_n hS dX11_keep_12 rfl ?_
    refine a_getR hS (j := 287) dX11_keep_13 flX11_46 (sA0 hW) rfl ?_
    refine a_iload_n hS dX11_keep_16 rfl ?_
    refine a_callVi hS (rst := []) (c_Row_get hW 287 a0 q1.2 iRow287) miX5_get mlX11_124 (sA287 hW) rfl rfl (Nat.le_of_ble_eq_true rfl) (Nat.le_of_ble_eq_true rfl) (Nat.le_of_ble_eq_true rfl) rfl dX11_keep_17 (fun q2 => ?_)
    refine a_istore_n hS (L' := [some (rf w 0), some (iv a0), some (rf w (q1.1.toNat)), some (iv q2.1)]) dX11_keep_20 hN (Nat.le_of_ble_eq_true rfl) rfl rfl ?_
    refine a_aload_n hS dX11_keep_21 rfl ?_
    refine a_aload_n hS dX11_keep_22 rfl ?_
    refine a_getR hS (j := 1) dX11_keep_23 flX11_12 (sA0 hW) rfl ?_
    refine a_callVv hS (rst := []) (c_Sta_copy hW (q1.1.toNat) 1 q2.2 hqq1 iSta1) miX8_copy mlX11_314 (ssh_Sta0 hW hqq1) rfl rfl (Nat.le_of_ble_eq_true rfl) (Nat.le_of_ble_eq_true rfl) (Nat.le_of_ble_eq_true rfl) rfl dX11_keep_26 (fun q3 => ?_)
    refine a_aload_n hS dX11_keep_29 rfl ?_
    refine a_getR hS (j := 287) dX11_keep_30 flX11_46 (sA0 hW) rfl ?_
    refine a_iload_n hS dX11_keep_33 rfl ?_
    refine a_iconst hS dX11_keep_34 ?_
    refine a_callVv hS (rst := []) (c_Row_set hW 287 a0 1 q3.2 iRow287) miX5_set mlX11_151 (sA287 hW) rfl rfl (Nat.le_of_ble_eq_true rfl) (Nat.le_of_ble_eq_true rfl) (Nat.le_of_ble_eq_true rfl) rfl dX11_keep_35 (fun q4 => ?_)
    refine a_iload_n hS dX11_keep_38 rfl ?_
    exact a_iret hS rfl rfl dX11_keep_39
noncomputable def Ai_back (a0 : Int) (σ : Mem) : Option (Int × Mem) := (Ai_imageAt a0 σ).bind fun q1 => if q1.1 < 0 then (some ((-1), q1.2)) else (@ite _ (isSta (q1.1.toNat)) (Classical.propDecidable _) ((Row_get 287 a0 q1.2).bind fun q2 => if wr q2.1 = 0 then (some ((-1), q2.2)) else ((Sta_copy 1 (q1.1.toNat) q2.2).bind fun q3 => letM (upM q3.2 34 0 0) fun s4 => letM (upM s4 0 11 0) fun s5 => some ((s5 2 0), s5))) none)
set_option maxRecDepth 100000 in
set_option maxHeartbeats 4000000 in
theorem c_Ai_back {l : Launch} {w : Wd} (hW : shp w = ShA) (a0 : Int) (σ : Mem)  : Ctr l w yX11_back cX11_back 3 (some .int) (rmN 4 93) 1 [rf w 0, iv a0] σ (Ai_back a0 σ) := by
  refine met_of (own := RX11) (by decide) rfl rfl rfl (Nat.le_of_ble_eq_true rfl) (fun X x hXl hN hS => ⟨[some (rf w 0), some (iv a0), none], ⟨1, rfl⟩, ?_⟩)
  subst hXl
  unfold Ai_back
  refine a_aload_n hS dX11_back_0 rfl ?_
  refine a_iload_n hS dX11_back_1 rfl ?_
  refine a_callVr hS (rst := []) (c_Ai_imageAt hW a0 σ ) miX11_imageAt mlX11_310 (sA0 hW) rfl rfl (Nat.le_of_ble_eq_true rfl) (Nat.le_of_ble_eq_true rfl) (Nat.le_of_ble_eq_true rfl) rfl dX11_back_2 (fun q1 => ?_) (fun q1 => ?_)
  · refine a_astore_nN hS (L' := [some (rf w 0), some (iv a0), some (.null)]) dX11_back_5 hN (Nat.le_of_ble_eq_true rfl) rfl rfl ?_
    refine a_aload_nN hS dX11_back_6 rfl ?_
    refine a_ifnullN hS (tgt := 21) dX11_back_7 (by decide) ?_
    refine a_iconst hS dX11_back_21 ?_
    exact a_iret hS rfl rfl dX11_back_22
  · refine a_chk (fun hqq1 => ?_)
    refine a_astore_n hS (L' := [some (rf w 0), some (iv a0), some (rf w (q1.1.toNat))]) dX11_back_5 hN (Nat.le_of_ble_eq_true rfl) rfl rfl ?_
    refine a_aload_n hS dX11_back_6 rfl ?_
    refine a_ifnull hS dX11_back_7 ?_
    refine a_aload_n hS dX11_back_10 rfl ?_
    refine a_getR hS (j := 287) dX11_back_11 flX11_46 (sA0 hW) rfl ?_
    refine a_iload_n hS dX11_back_14 rfl ?_
    refine a_callVi hS (rst := []) (c_Row_get hW 287 a0 q1.2 iRow287) miX5_get mlX11_124 (sA287 hW) rfl rfl (Nat.le_of_ble_eq_true rfl) (Nat.le_of_ble_eq_true rfl) (Nat.le_of_ble_eq_true rfl) rfl dX11_back_15 (fun q2 => ?_)
    refine a_ifne hS rfl  (tgt := 23) dX11_back_18 (by decide) ?_ ?_
    · refine a_aload_n hS dX11_back_23 rfl ?_
      refine a_getR hS (j := 1) dX11_back_24 flX11_12 (sA0 hW) rfl ?_
      refine a_aload_n hS dX11_back_27 rfl ?_
      refine a_callVv hS (rst := []) (c_Sta_copy hW 1 (q1.1.toNat) q2.2 iSta1 hqq1) miX8_copy mlX11_314 (sA1 hW) rfl rfl (Nat.le_of_ble_eq_true rfl) (Nat.le_of_ble_eq_true rfl) (Nat.le_of_ble_eq_true rfl) rfl dX11_back_28 (fun q3 => ?_)
      refine a_aload_n hS dX11_back_31 rfl ?_
      refine a_getR hS (j := 34) dX11_back_32 flX11_33 (sA0 hW) rfl ?_
      refine a_iconst hS dX11_back_35 ?_
      refine a_putI hS dX11_back_36 plX11_305 (sA34 hW) rfl ?_
      refine a_letM (fun s4 => ?_)
      refine a_aload_n hS dX11_back_39 rfl ?_
      refine a_iconst hS dX11_back_40 ?_
      refine a_putZ hS dX11_back_41 plX11_81 (sA0 hW) rfl (by decide) ?_
      refine a_letM (fun s5 => ?_)
      refine a_aload_n hS dX11_back_44 rfl ?_
      refine a_getR hS (j := 1) dX11_back_45 flX11_12 (sA0 hW) rfl ?_
      refine a_getR hS (j := 2) dX11_back_48 flX11_96 (sA1 hW) rfl ?_
      refine a_getI hS dX11_back_51 flX11_100 (sA2 hW) rfl ?_
      exact a_iret hS rfl rfl dX11_back_54
    · refine a_iconst hS dX11_back_21 ?_
      exact a_iret hS rfl rfl dX11_back_22
noncomputable def Ai_mixLine_44b   (r44 : Int → Int → Int → Int → Mem → Option (Int × Mem)) (x3 : Int) (x4 : Int) (x5 : Int) (x7 : Int) (σ : Mem) : Option (Int × Mem) := if wr x7 < wr x4 then ((Lin_byteOf x3 x7 σ).bind fun q9 => (Ai_mix x5 q9.1 q9.2).bind fun q10 => r44 x3 x4 q10.1 (x7 + 1) q10.2) else ((Row_get 7 x3 σ).bind fun q5 => (Ai_mix x5 q5.1 q5.2).bind fun q6 => (Pla_column x3 3 (q6.2 1 2) (q6.2 1 3) q6.2).bind fun q7 => (Ai_mix q6.1 q7.1 q7.2).bind fun q8 => some (q8.1, q8.2))
noncomputable def Ai_mixLine_44   (n : Nat) : Int → Int → Int → Int → Mem → Option (Int × Mem) := fixN (fun _ _ _ _ _ => none) (Ai_mixLine_44b  ) n
noncomputable def Ai_mixLine (a0 : Int) (a1 : Int) (σ : Mem) : Option (Int × Mem) := (Row_get 5 a1 σ).bind fun q1 => (Row_get 3 a1 q1.2).bind fun q2 => (Ai_mix a0 q2.1 q2.2).bind fun q3 => (Ai_mix q3.1 q1.1 q3.2).bind fun q4 => Ai_mixLine_44 100000 a1 q1.1 q4.1 0 q4.2
set_option maxRecDepth 100000 in
set_option maxHeartbeats 4000000 in
theorem k_Ai_mixLine_44 {X : Cx} {w : Wd} {x : Int × Mem} (hS : Std X (rmN 3 70) w cX11_mixLine RX11 (some .long)) (hN : cxn X = 8) (hW : shp w = ShA)   : ∀ (n : Nat) (x3 : Int) (x4 : Int) (x5 : Int) (x7 : Int) (σ : Mem), Sm X (rmN 3 70) w 2 x 44 [some (rf w 0), none, none, some (iv x3), some (iv x4), some (jv x5), none, some (iv x7)] [] σ (Ai_mixLine_44   n x3 x4 x5 x7 σ) := by
  refine fix_ok (P := fun (r44 : Int → Int → Int → Int → Mem → Option (Int × Mem)) => ∀ (x3 : Int) (x4 : Int) (x5 : Int) (x7 : Int) (σ : Mem), Sm X (rmN 3 70) w 2 x 44 [some (rf w 0), none, none, some (iv x3), some (iv x4), some (jv x5), none, some (iv x7)] [] σ (r44 x3 x4 x5 x7 σ)) (fun _ _ _ _ _ => a_none) (fun r44 hr44 => ?_)
  intro x3 x4 x5 x7 σ
  unfold Ai_mixLine_44b
  refine a_iload hS dX11_mixLine_44 rfl ?_
  refine a_iload hS dX11_mixLine_46 rfl ?_
  refine a_icmpge hS rfl rfl (tgt := 77) dX11_mixLine_48 (by decide) ?_ ?_
  · refine a_lload hS dX11_mixLine_77 rfl ?_
    refine a_aload_n hS dX11_mixLine_79 rfl ?_
    refine a_getR hS (j := 1) dX11_mixLine_80 flX11_12 (sA0 hW) rfl ?_
    refine a_getR hS (j := 2) dX11_mixLine_83 flX11_96 (sA1 hW) rfl ?_
    refine a_getR hS (j := 7) dX11_mixLine_86 flX11_171 (sA2 hW) rfl ?_
    refine a_iload_n hS dX11_mixLine_89 rfl ?_
    refine a_callVi hS (rst := [jv x5]) (c_Row_get hW 7 x3 σ iRow7) miX5_get mlX11_124 (sA7 hW) rfl rfl (Nat.le_of_ble_eq_true rfl) (Nat.le_of_ble_eq_true rfl) (Nat.le_of_ble_eq_true rfl) rfl dX11_mixLine_90 (fun q5 => ?_)
    refine a_callSj hS (rst := []) (c_Ai_mix hW x5 q5.1 q5.2 ) msX11_mix mlX11_327 rfl (Nat.le_of_ble_eq_true rfl) (Nat.le_of_ble_eq_true rfl) (Nat.le_of_ble_eq_true rfl) rfl dX11_mixLine_93 (fun q6 => ?_)
    refine a_lstore hS (L' := [some (rf w 0), none, none, some (iv x3), some (iv x4), some (jv q6.1), none, some (iv x7)]) dX11_mixLine_96 hN (Nat.le_of_ble_eq_true rfl) rfl rfl ?_
    refine a_lload hS dX11_mixLine_98 rfl ?_
    refine a_aload_n hS dX11_mixLine_100 rfl ?_
    refine a_getR hS (j := 327) dX11_mixLine_101 flX11_67 (sA0 hW) rfl ?_
    refine a_iload_n hS dX11_mixLine_104 rfl ?_
    refine a_aload_n hS dX11_mixLine_105 rfl ?_
    refine a_getR hS (j := 1) dX11_mixLine_106 flX11_12 (sA0 hW) rfl ?_
    refine a_getR hS (j := 2) dX11_mixLine_109 flX11_96 (sA1 hW) rfl ?_
    refine a_getR hS (j := 3) dX11_mixLine_112 flX11_121 (sA2 hW) rfl ?_
    refine a_aload_n hS dX11_mixLine_115 rfl ?_
    refine a_getR hS (j := 1) dX11_mixLine_116 flX11_12 (sA0 hW) rfl ?_
    refine a_getI hS dX11_mixLine_119 flX11_141 (sA1 hW) rfl ?_
    refine a_aload_n hS dX11_mixLine_122 rfl ?_
    refine a_getR hS (j := 1) dX11_mixLine_123 flX11_12 (sA0 hW) rfl ?_
    refine a_getI hS dX11_mixLine_126 flX11_144 (sA1 hW) rfl ?_
    refine a_callVi hS (rst := [jv q6.1]) (c_Pla_column hW x3 3 (q6.2 1 2) (q6.2 1 3) q6.2 iRow3) miX4_column mlX11_147 (sA327 hW) rfl rfl (Nat.le_of_ble_eq_true rfl) (Nat.le_of_ble_eq_true rfl) (Nat.le_of_ble_eq_true rfl) rfl dX11_mixLine_129 (fun q7 => ?_)
    refine a_callSj hS (rst := []) (c_Ai_mix hW q6.1 q7.1 q7.2 ) msX11_mix mlX11_327 rfl (Nat.le_of_ble_eq_true rfl) (Nat.le_of_ble_eq_true rfl) (Nat.le_of_ble_eq_true rfl) rfl dX11_mixLine_132 (fun q8 => ?_)
    exact a_lret hS rfl rfl dX11_mixLine_135
  · refine a_lload hS dX11_mixLine_51 rfl ?_
    refine a_aload_n hS dX11_mixLine_53 rfl ?_
    refine a_getR hS (j := 1) dX11_mixLine_54 flX11_12 (sA0 hW) rfl ?_
    refine a_getR hS (j := 2) dX11_mixLine_57 flX11_96 (sA1 hW) rfl ?_
    refine a_iload_n hS dX11_mixLine_60 rfl ?_
    refine a_iload hS dX11_mixLine_61 rfl ?_
    refine a_callVi hS (rst := [jv x5]) (c_Lin_byteOf hW x3 x7 σ ) miX3_byteOf mlX11_178 (sA2 hW) rfl rfl (Nat.le_of_ble_eq_true rfl) (Nat.le_of_ble_eq_true rfl) (Nat.le_of_ble_eq_true rfl) rfl dX11_mixLine_63 (fun q9 => ?_)
    refine a_callSj hS (rst := []) (c_Ai_mix hW x5 q9.1 q9.2 ) msX11_mix mlX11_327 rfl (Nat.le_of_ble_eq_true rfl) (Nat.le_of_ble_eq_true rfl) (Nat.le_of_ble_eq_true rfl) rfl dX11_mixLine_66 (fun q10 => ?_)
    refine a_lstore hS (L' := [some (rf w 0), none, none, some (iv x3), some (iv x4), some (jv q10.1), none, some (iv x7)]) dX11_mixLine_69 hN (Nat.le_of_ble_eq_true rfl) rfl rfl ?_
    refine a_iinc hS (L' := [some (rf w 0), none, none, some (iv x3), some (iv x4), some (jv q10.1), none, some (iv (x7 + 1))]) dX11_mixLine_71 rfl hN (Nat.le_of_ble_eq_true rfl) rfl rfl ?_
    refine a_goto hS (tgt := 44) dX11_mixLine_74 (by decide) ?_
    exact hr44 x3 x4 q10.1 (x7 + 1) q10.2
set_option maxRecDepth 100000 in
set_option maxHeartbeats 4000000 in
theorem c_Ai_mixLine {l : Launch} {w : Wd} (hW : shp w = ShA) (a0 : Int) (a1 : Int) (σ : Mem)  : Ctr l w yX11_mixLine cX11_mixLine 8 (some .long) (rmN 3 70) 2 [rf w 0, jv a0, iv a1] σ (Ai_mixLine a0 a1 σ) := by
  refine met_of (own := RX11) (by decide) rfl rfl rfl (Nat.le_of_ble_eq_true rfl) (fun X x hXl hN hS => ⟨[some (rf w 0), some (jv a0), none, some (iv a1), none, none, none, none], ⟨4, rfl⟩, ?_⟩)
  subst hXl
  unfold Ai_mixLine
  refine a_aload_n hS dX11_mixLine_0 rfl ?_
  refine a_getR hS (j := 1) dX11_mixLine_1 flX11_12 (sA0 hW) rfl ?_
  refine a_getR hS (j := 2) dX11_mixLine_4 flX11_96 (sA1 hW) rfl ?_
  refine a_getR hS (j := 5) dX11_mixLine_7 flX11_131 (sA2 hW) rfl ?_
  refine a_iload_n hS dX11_mixLine_10 rfl ?_
  refine a_callVi hS (rst := []) (c_Row_get hW 5 a1 σ iRow5) miX5_get mlX11_124 (sA5 hW) rfl rfl (Nat.le_of_ble_eq_true rfl) (Nat.le_of_ble_eq_true rfl) (Nat.le_of_ble_eq_true rfl) rfl dX11_mixLine_11 (fun q1 => ?_)
  refine a_istore hS (L' := [some (rf w 0), some (jv a0), none, some (iv a1), some (iv q1.1), none, none, none]) dX11_mixLine_14 hN (Nat.le_of_ble_eq_true rfl) rfl rfl ?_
  refine a_lload_n hS dX11_mixLine_16 rfl ?_
  refine a_aload_n hS dX11_mixLine_17 rfl ?_
  refine a_getR hS (j := 1) dX11_mixLine_18 flX11_12 (sA0 hW) rfl ?_
  refine a_getR hS (j := 2) dX11_mixLine_21 flX11_96 (sA1 hW) rfl ?_
  refine a_getR hS (j := 3) dX11_mixLine_24 flX11_121 (sA2 hW) rfl ?_
  refine a_iload_n hS dX11_mixLine_27 rfl ?_
  refine a_callVi hS (rst := [jv a0]) (c_Row_get hW 3 a1 q1.2 iRow3) miX5_get mlX11_124 (sA3 hW) rfl rfl (Nat.le_of_ble_eq_true rfl) (Nat.le_of_ble_eq_true rfl) (Nat.le_of_ble_eq_true rfl) rfl dX11_mixLine_28 (fun q2 => ?_)
  refine a_callSj hS (rst := []) (c_Ai_mix hW a0 q2.1 q2.2 ) msX11_mix mlX11_327 rfl (Nat.le_of_ble_eq_true rfl) (Nat.le_of_ble_eq_true rfl) (Nat.le_of_ble_eq_true rfl) rfl dX11_mixLine_31 (fun q3 => ?_)
  refine a_iload hS dX11_mixLine_34 rfl ?_
  refine a_callSj hS (rst := []) (c_Ai_mix hW q3.1 q1.1 q3.2 ) msX11_mix mlX11_327 rfl (Nat.le_of_ble_eq_true rfl) (Nat.le_of_ble_eq_true rfl) (Nat.le_of_ble_eq_true rfl) rfl dX11_mixLine_36 (fun q4 => ?_)
  refine a_lstore hS (L' := [some (rf w 0), some (jv a0), none, some (iv a1), some (iv q1.1), some (jv q4.1), none, none]) dX11_mixLine_39 hN (Nat.le_of_ble_eq_true rfl) rfl rfl ?_
  refine a_iconst hS dX11_mixLine_41 ?_
  refine a_istore hS (L' := [some (rf w 0), some (jv a0), none, some (iv a1), some (iv q1.1), some (jv q4.1), none, some (iv 0)]) dX11_mixLine_42 hN (Nat.le_of_ble_eq_true rfl) rfl rfl ?_
  exact a_live (M := [true, false, false, true, true, true, false, true]) (k_Ai_mixLine_44 hS hN hW   100000 a1 q1.1 q4.1 0 q4.2) rfl
noncomputable def Ai_digest_84b   (r84 : Int → Int → Mem → Option (Int × Mem)) (x1 : Int) (x3 : Int) (σ : Mem) : Option (Int × Mem) := if wr x3 < 12 then ((Rul_mixRule x1 x3 σ).bind fun q12 => r84 q12.1 (x3 + 1) q12.2) else ((Ai_mix x1 (σ 34 0) σ).bind fun q7 => (Row_get 287 0 q7.2).bind fun q8 => (Row_get 287 1 q8.2).bind fun q9 => (Ai_mix q7.1 (q8.1 + q9.1) q9.2).bind fun q10 => (Ai_mix q10.1 (q10.2 26 0) q10.2).bind fun q11 => some (q11.1, q11.2))
noncomputable def Ai_digest_84   (n : Nat) : Int → Int → Mem → Option (Int × Mem) := fixN (fun _ _ _ => none) (Ai_digest_84b  ) n
noncomputable def Ai_digest_23b   (r23 : Int → Int → Mem → Option (Int × Mem)) (x1 : Int) (x3 : Int) (σ : Mem) : Option (Int × Mem) := if wr x3 < wr (σ 2 0) then ((Ai_mixLine x1 x3 σ).bind fun q6 => r23 q6.1 (x3 + 1) q6.2) else ((Ai_mix x1 (σ 1 2) σ).bind fun q3 => (Ai_mix q3.1 (q3.2 1 3) q3.2).bind fun q4 => (Ai_mix q4.1 (q4.2 1 4) q4.2).bind fun q5 => Ai_digest_84 100000 q5.1 0 q5.2)
noncomputable def Ai_digest_23   (n : Nat) : Int → Int → Mem → Option (Int × Mem) := fixN (fun _ _ _ => none) (Ai_digest_23b  ) n
noncomputable def Ai_digest  (σ : Mem) : Option (Int × Mem) := (Ai_study  σ).bind fun q1 => (Ai_mix 18310 (q1.2 2 0) q1.2).bind fun q2 => Ai_digest_23 100000 q2.1 0 q2.2
set_option maxRecDepth 100000 in
set_option maxHeartbeats 4000000 in
theorem k_Ai_digest_84 {X : Cx} {w : Wd} {x : Int × Mem} (hS : Std X (rmN 6 148) w cX11_digest RX11 (some .long)) (hN : cxn X = 4) (hW : shp w = ShA)   : ∀ (n : Nat) (x1 : Int) (x3 : Int) (σ : Mem), Sm X (rmN 6 148) w 2 x 84 [some (rf w 0), some (jv x1), none, some (iv x3)] [] σ (Ai_digest_84   n x1 x3 σ) := by
  refine fix_ok (P := fun (r84 : Int → Int → Mem → Option (Int × Mem)) => ∀ (x1 : Int) (x3 : Int) (σ : Mem), Sm X (rmN 6 148) w 2 x 84 [some (rf w 0), some (jv x1), none, some (iv x3)] [] σ (r84 x1 x3 σ)) (fun _ _ _ => a_none) (fun r84 hr84 => ?_)
  intro x1 x3 σ
  unfold Ai_digest_84b
  refine a_iload_n hS dX11_digest_84 rfl ?_
  refine a_bipush hS dX11_digest_85 rfl ?_
  refine a_icmpge hS rfl (wl 12 rfl) (tgt := 109) dX11_digest_87 (by decide) ?_ ?_
  · refine a_lload_n hS dX11_digest_109 rfl ?_
    refine a_aload_n hS dX11_digest_110 rfl ?_
    refine a_getR hS (j := 34) dX11_digest_111 flX11_33 (sA0 hW) rfl ?_
    refine a_getI hS dX11_digest_114 flX11_305 (sA34 hW) rfl ?_
    refine a_callSj hS (rst := []) (c_Ai_mix hW x1 (σ 34 0) σ ) msX11_mix mlX11_327 rfl (Nat.le_of_ble_eq_true rfl) (Nat.le_of_ble_eq_true rfl) (Nat.le_of_ble_eq_true rfl) rfl dX11_digest_117 (fun q7 => ?_)
    refine a_lstore_n hS (L' := [some (rf w 0), some (jv q7.1), none, some (iv x3)]) dX11_digest_120 hN (Nat.le_of_ble_eq_true rfl) rfl rfl ?_
    refine a_lload_n hS dX11_digest_121 rfl ?_
    refine a_aload_n hS dX11_digest_122 rfl ?_
    refine a_getR hS (j := 287) dX11_digest_123 flX11_46 (sA0 hW) rfl ?_
    refine a_iconst hS dX11_digest_126 ?_
    refine a_callVi hS (rst := [jv q7.1]) (c_Row_get hW 287 0 q7.2 iRow287) miX5_get mlX11_124 (sA287 hW) rfl rfl (Nat.le_of_ble_eq_true rfl) (Nat.le_of_ble_eq_true rfl) (Nat.le_of_ble_eq_true rfl) rfl dX11_digest_127 (fun q8 => ?_)
    refine a_aload_n hS dX11_digest_130 rfl ?_
    refine a_getR hS (j := 287) dX11_digest_131 flX11_46 (sA0 hW) rfl ?_
    refine a_iconst hS dX11_digest_134 ?_
    refine a_callVi hS (rst := [iv q8.1, jv q7.1]) (c_Row_get hW 287 1 q8.2 iRow287) miX5_get mlX11_124 (sA287 hW) rfl rfl (Nat.le_of_ble_eq_true rfl) (Nat.le_of_ble_eq_true rfl) (Nat.le_of_ble_eq_true rfl) rfl dX11_digest_135 (fun q9 => ?_)
    refine a_iadd hS dX11_digest_138 ?_
    refine a_callSj hS (rst := []) (c_Ai_mix hW q7.1 (q8.1 + q9.1) q9.2 ) msX11_mix mlX11_327 rfl (Nat.le_of_ble_eq_true rfl) (Nat.le_of_ble_eq_true rfl) (Nat.le_of_ble_eq_true rfl) rfl dX11_digest_139 (fun q10 => ?_)
    refine a_lstore_n hS (L' := [some (rf w 0), some (jv q10.1), none, some (iv x3)]) dX11_digest_142 hN (Nat.le_of_ble_eq_true rfl) rfl rfl ?_
    refine a_lload_n hS dX11_digest_143 rfl ?_
    refine a_aload_n hS dX11_digest_144 rfl ?_
    refine a_getR hS (j := 26) dX11_digest_145 flX11_19 (sA0 hW) rfl ?_
    refine a_getI hS dX11_digest_148 flX11_89 (sA26 hW) rfl ?_
    refine a_callSj hS (rst := []) (c_Ai_mix hW q10.1 (q10.2 26 0) q10.2 ) msX11_mix mlX11_327 rfl (Nat.le_of_ble_eq_true rfl) (Nat.le_of_ble_eq_true rfl) (Nat.le_of_ble_eq_true rfl) rfl dX11_digest_151 (fun q11 => ?_)
    exact a_lret hS rfl rfl dX11_digest_154
  · refine a_aload_n hS dX11_digest_90 rfl ?_
    refine a_getR hS (j := 1) dX11_digest_91 flX11_12 (sA0 hW) rfl ?_
    refine a_getR hS (j := 11) dX11_digest_94 flX11_202 (sA1 hW) rfl ?_
    refine a_lload_n hS dX11_digest_97 rfl ?_
    refine a_iload_n hS dX11_digest_98 rfl ?_
    refine a_callVj hS (rst := []) (c_Rul_mixRule hW x1 x3 σ ) miX7_mixRule mlX11_334 (sA11 hW) rfl rfl (Nat.le_of_ble_eq_true rfl) (Nat.le_of_ble_eq_true rfl) (Nat.le_of_ble_eq_true rfl) rfl dX11_digest_99 (fun q12 => ?_)
    refine a_lstore_n hS (L' := [some (rf w 0), some (jv q12.1), none, some (iv x3)]) dX11_digest_102 hN (Nat.le_of_ble_eq_true rfl) rfl rfl ?_
    refine a_iinc hS (L' := [some (rf w 0), some (jv q12.1), none, some (iv (x3 + 1))]) dX11_digest_103 rfl hN (Nat.le_of_ble_eq_true rfl) rfl rfl ?_
    refine a_goto hS (tgt := 84) dX11_digest_106 (by decide) ?_
    exact hr84 q12.1 (x3 + 1) q12.2
set_option maxRecDepth 100000 in
set_option maxHeartbeats 4000000 in
theorem k_Ai_digest_23 {X : Cx} {w : Wd} {x : Int × Mem} (hS : Std X (rmN 6 148) w cX11_digest RX11 (some .long)) (hN : cxn X = 4) (hW : shp w = ShA)   : ∀ (n : Nat) (x1 : Int) (x3 : Int) (σ : Mem), Sm X (rmN 6 148) w 2 x 23 [some (rf w 0), some (jv x1), none, some (iv x3)] [] σ (Ai_digest_23   n x1 x3 σ) := by
  refine fix_ok (P := fun (r23 : Int → Int → Mem → Option (Int × Mem)) => ∀ (x1 : Int) (x3 : Int) (σ : Mem), Sm X (rmN 6 148) w 2 x 23 [some (rf w 0), some (jv x1), none, some (iv x3)] [] σ (r23 x1 x3 σ)) (fun _ _ _ => a_none) (fun r23 hr23 => ?_)
  intro x1 x3 σ
  unfold Ai_digest_23b
  refine a_iload_n hS dX11_digest_23 rfl ?_
  refine a_aload_n hS dX11_digest_24 rfl ?_
  refine a_getR hS (j := 1) dX11_digest_25 flX11_12 (sA0 hW) rfl ?_
  refine a_getR hS (j := 2) dX11_digest_28 flX11_96 (sA1 hW) rfl ?_
  refine a_getI hS dX11_digest_31 flX11_100 (sA2 hW) rfl ?_
  refine a_icmpge hS rfl rfl (tgt := 50) dX11_digest_34 (by decide) ?_ ?_
  · refine a_lload_n hS dX11_digest_50 rfl ?_
    refine a_aload_n hS dX11_digest_51 rfl ?_
    refine a_getR hS (j := 1) dX11_digest_52 flX11_12 (sA0 hW) rfl ?_
    refine a_getI hS dX11_digest_55 flX11_141 (sA1 hW) rfl ?_
    refine a_callSj hS (rst := []) (c_Ai_mix hW x1 (σ 1 2) σ ) msX11_mix mlX11_327 rfl (Nat.le_of_ble_eq_true rfl) (Nat.le_of_ble_eq_true rfl) (Nat.le_of_ble_eq_true rfl) rfl dX11_digest_58 (fun q3 => ?_)
    refine a_aload_n hS dX11_digest_61 rfl ?_
    refine a_getR hS (j := 1) dX11_digest_62 flX11_12 (sA0 hW) rfl ?_
    refine a_getI hS dX11_digest_65 flX11_144 (sA1 hW) rfl ?_
    refine a_callSj hS (rst := []) (c_Ai_mix hW q3.1 (q3.2 1 3) q3.2 ) msX11_mix mlX11_327 rfl (Nat.le_of_ble_eq_true rfl) (Nat.le_of_ble_eq_true rfl) (Nat.le_of_ble_eq_true rfl) rfl dX11_digest_68 (fun q4 => ?_)
    refine a_aload_n hS dX11_digest_71 rfl ?_
    refine a_getR hS (j := 1) dX11_digest_72 flX11_12 (sA0 hW) rfl ?_
    refine a_getI hS dX11_digest_75 flX11_188 (sA1 hW) rfl ?_
    refine a_callSj hS (rst := []) (c_Ai_mix hW q4.1 (q4.2 1 4) q4.2 ) msX11_mix mlX11_327 rfl (Nat.le_of_ble_eq_true rfl) (Nat.le_of_ble_eq_true rfl) (Nat.le_of_ble_eq_true rfl) rfl dX11_digest_78 (fun q5 => ?_)
    refine a_lstore_n hS (L' := [some (rf w 0), some (jv q5.1), none, some (iv x3)]) dX11_digest_81 hN (Nat.le_of_ble_eq_true rfl) rfl rfl ?_
    refine a_iconst hS dX11_digest_82 ?_
    refine a_istore_n hS (L' := [some (rf w 0), some (jv q5.1), none, some (iv 0)]) dX11_digest_83 hN (Nat.le_of_ble_eq_true rfl) rfl rfl ?_
    exact k_Ai_digest_84 hS hN hW   100000 q5.1 0 q5.2
  · refine a_aload_n hS dX11_digest_37 rfl ?_
    refine a_lload_n hS dX11_digest_38 rfl ?_
    refine a_iload_n hS dX11_digest_39 rfl ?_
    refine a_callVj hS (rst := []) (c_Ai_mixLine hW x1 x3 σ ) miX11_mixLine mlX11_331 (sA0 hW) rfl rfl (Nat.le_of_ble_eq_true rfl) (Nat.le_of_ble_eq_true rfl) (Nat.le_of_ble_eq_true rfl) rfl dX11_digest_40 (fun q6 => ?_)
    refine a_lstore_n hS (L' := [some (rf w 0), some (jv q6.1), none, some (iv x3)]) dX11_digest_43 hN (Nat.le_of_ble_eq_true rfl) rfl rfl ?_
    refine a_iinc hS (L' := [some (rf w 0), some (jv q6.1), none, some (iv (x3 + 1))]) dX11_digest_44 rfl hN (Nat.le_of_ble_eq_true rfl) rfl rfl ?_
    refine a_goto hS (tgt := 23) dX11_digest_47 (by decide) ?_
    exact hr23 q6.1 (x3 + 1) q6.2
set_option maxRecDepth 100000 in
set_option maxHeartbeats 4000000 in
theorem c_Ai_digest {l : Launch} {w : Wd} (hW : shp w = ShA)  (σ : Mem)  : Ctr l w yX11_digest cX11_digest 4 (some .long) (rmN 6 148) 2 [rf w 0] σ (Ai_digest  σ) := by
  refine met_of (own := RX11) (by decide) rfl rfl rfl (Nat.le_of_ble_eq_true rfl) (fun X x hXl hN hS => ⟨[some (rf w 0), none, none, none], ⟨3, rfl⟩, ?_⟩)
  subst hXl
  unfold Ai_digest
  refine a_aload_n hS dX11_digest_0 rfl ?_
  refine a_callVv hS (rst := []) (c_Ai_study hW  σ ) miX11_study mlX11_138 (sA0 hW) rfl rfl (Nat.le_of_ble_eq_true rfl) (Nat.le_of_ble_eq_true rfl) (Nat.le_of_ble_eq_true rfl) rfl dX11_digest_1 (fun q1 => ?_)
  refine a_ldc2 hS (n := 18310) dX11_digest_4 (WL_in (tb5 (List.mem_of_getElem? (i := 111) rfl)) rfl) rfl ?_
  refine a_aload_n hS dX11_digest_7 rfl ?_
  refine a_getR hS (j := 1) dX11_digest_8 flX11_12 (sA0 hW) rfl ?_
  refine a_getR hS (j := 2) dX11_digest_11 flX11_96 (sA1 hW) rfl ?_
  refine a_getI hS dX11_digest_14 flX11_100 (sA2 hW) rfl ?_
  refine a_callSj hS (rst := []) (c_Ai_mix hW 18310 (q1.2 2 0) q1.2 ) msX11_mix mlX11_327 rfl (Nat.le_of_ble_eq_true rfl) (Nat.le_of_ble_eq_true rfl) (Nat.le_of_ble_eq_true rfl) rfl dX11_digest_17 (fun q2 => ?_)
  refine a_lstore_n hS (L' := [some (rf w 0), some (jv q2.1), none, none]) dX11_digest_20 hN (Nat.le_of_ble_eq_true rfl) rfl rfl ?_
  refine a_iconst hS dX11_digest_21 ?_
  refine a_istore_n hS (L' := [some (rf w 0), some (jv q2.1), none, some (iv 0)]) dX11_digest_22 hN (Nat.le_of_ble_eq_true rfl) rfl rfl ?_
  exact k_Ai_digest_23 hS hN hW   100000 q2.1 0 q2.2
