noncomputable def Ai_type (a0 : Int) (σ : Mem) : Option (Int × Mem) := (Ai_within a0 32 126 σ).bind fun q1 => if wr q1.1 = 0 then (some ((-1), q1.2)) else (if wr (q1.2 26 0) < 72 then ((Buf_add a0 q1.2).bind fun q2 => some ((q2.2 26 0), q2.2)) else (some ((-3), q1.2)))
set_option maxRecDepth 100000 in
set_option maxHeartbeats 4000000 in
theorem c_Ai_type {l : Launch} {w : Wd} (hW : shp w = ShA) (a0 : Int) (σ : Mem)  : Ctr l w yX11_type cX11_type 2 (some .int) (rmN 2 43) 1 [rf w 0, iv a0] σ (Ai_type a0 σ) := by
  refine met_of (own := RX11) (by decide) rfl rfl rfl (Nat.le_of_ble_eq_true rfl) (fun X x hXl hN hS => ⟨[some (rf w 0), some (iv a0)], ⟨0, rfl⟩, ?_⟩)
  subst hXl
  unfold Ai_type
  refine a_iload_n hS dX11_type_0 rfl ?_
  refine a_bipush hS dX11_type_1 rfl ?_
  refine a_bipush hS dX11_type_3 rfl ?_
  refine a_callSi hS (rst := []) (c_Ai_within hW a0 32 126 σ ) msX11_within mlX11_85 rfl (Nat.le_of_ble_eq_true rfl) (Nat.le_of_ble_eq_true rfl) (Nat.le_of_ble_eq_true rfl) rfl dX11_type_5 (fun q1 => ?_)
  refine a_ifne hS rfl  (tgt := 13) dX11_type_8 (by decide) ?_ ?_
  · refine a_aload_n hS dX11_type_13 rfl ?_
    refine a_getR hS (j := 26) dX11_type_14 flX11_19 (sA0 hW) rfl ?_
    refine a_getI hS dX11_type_17 flX11_89 (sA26 hW) rfl ?_
    refine a_bipush hS dX11_type_20 rfl ?_
    refine a_icmplt hS rfl (wl 72 rfl) (tgt := 28) dX11_type_22 (by decide) ?_ ?_
    · refine a_aload_n hS dX11_type_28 rfl ?_
      refine a_getR hS (j := 26) dX11_type_29 flX11_19 (sA0 hW) rfl ?_
      refine a_iload_n hS dX11_type_32 rfl ?_
      refine a_callVv hS (rst := []) (c_Buf_add hW a0 q1.2 ) miX1_add mlX11_93 (sA26 hW) rfl rfl (Nat.le_of_ble_eq_true rfl) (Nat.le_of_ble_eq_true rfl) (Nat.le_of_ble_eq_true rfl) rfl dX11_type_33 (fun q2 => ?_)
      refine a_aload_n hS dX11_type_36 rfl ?_
      refine a_getR hS (j := 26) dX11_type_37 flX11_19 (sA0 hW) rfl ?_
      refine a_getI hS dX11_type_40 flX11_89 (sA26 hW) rfl ?_
      exact a_iret hS rfl rfl dX11_type_43
    · refine a_bipush hS dX11_type_25 rfl ?_
      exact a_iret hS rfl rfl dX11_type_27
  · refine a_iconst hS dX11_type_11 ?_
    exact a_iret hS rfl rfl dX11_type_12
noncomputable def Ai_clear  (σ : Mem) : Option (Int × Mem) := letM (upM σ 26 0 0) fun s1 => some ((σ 26 0), s1)
set_option maxRecDepth 100000 in
set_option maxHeartbeats 4000000 in
theorem c_Ai_clear {l : Launch} {w : Wd} (hW : shp w = ShA)  (σ : Mem)  : Ctr l w yX11_clear cX11_clear 2 (some .int) (rmN 0 0) 1 [rf w 0] σ (Ai_clear  σ) := by
  refine met_of (own := RX11) (by decide) rfl rfl rfl (Nat.le_of_ble_eq_true rfl) (fun X x hXl hN hS => ⟨[some (rf w 0), none], ⟨1, rfl⟩, ?_⟩)
  subst hXl
  unfold Ai_clear
  refine a_aload_n hS dX11_clear_0 rfl ?_
  refine a_getR hS (j := 26) dX11_clear_1 flX11_19 (sA0 hW) rfl ?_
  refine a_getI hS dX11_clear_4 flX11_89 (sA26 hW) rfl ?_
  refine a_istore_n hS (L' := [some (rf w 0), some (iv (σ 26 0))]) dX11_clear_7 hN (Nat.le_of_ble_eq_true rfl) rfl rfl ?_
  refine a_aload_n hS dX11_clear_8 rfl ?_
  refine a_getR hS (j := 26) dX11_clear_9 flX11_19 (sA0 hW) rfl ?_
  refine a_iconst hS dX11_clear_12 ?_
  refine a_putI hS dX11_clear_13 plX11_89 (sA26 hW) rfl ?_
  refine a_letM (fun s1 => ?_)
  refine a_iload_n hS dX11_clear_16 rfl ?_
  exact a_iret hS rfl rfl dX11_clear_17
noncomputable def Ai_beginChange  (σ : Mem) : Option (Int × Mem) := (His_remember  σ).bind fun q1 => letM (upM q1.2 0 11 0) fun s2 => some (0, s2)
set_option maxRecDepth 100000 in
set_option maxHeartbeats 4000000 in
theorem c_Ai_beginChange {l : Launch} {w : Wd} (hW : shp w = ShA)  (σ : Mem)  : Ctr l w yX11_beginChange cX11_beginChange 1 none (rmN 5 115) 0 [rf w 0] σ (Ai_beginChange  σ) := by
  refine met_of (own := RX11) (by decide) rfl rfl rfl (Nat.le_of_ble_eq_true rfl) (fun X x hXl hN hS => ⟨[some (rf w 0)], ⟨0, rfl⟩, ?_⟩)
  subst hXl
  unfold Ai_beginChange
  refine a_aload_n hS dX11_beginChange_0 rfl ?_
  refine a_getR hS (j := 34) dX11_beginChange_1 flX11_33 (sA0 hW) rfl ?_
  refine a_aload_n hS dX11_beginChange_4 rfl ?_
  refine a_getR hS (j := 1) dX11_beginChange_5 flX11_12 (sA0 hW) rfl ?_
  refine a_callVv hS (rst := []) (c_His_remember hW  σ ) miX2_remember mlX11_342 (sA34 hW) rfl rfl (Nat.le_of_ble_eq_true rfl) (Nat.le_of_ble_eq_true rfl) (Nat.le_of_ble_eq_true rfl) rfl dX11_beginChange_8 (fun q1 => ?_)
  refine a_aload_n hS dX11_beginChange_11 rfl ?_
  refine a_iconst hS dX11_beginChange_12 ?_
  refine a_putZ hS dX11_beginChange_13 plX11_81 (sA0 hW) rfl (by decide) ?_
  refine a_letM (fun s2 => ?_)
  exact a_vret hS rfl rfl dX11_beginChange_16
noncomputable def Ai_insertLine (a0 : Int) (σ : Mem) : Option (Int × Mem) := (Ai_within a0 0 (σ 2 0) σ).bind fun q1 => if wr q1.1 = 0 then (some ((-1), q1.2)) else (if wr (q1.2 2 0) < 20 then ((Buf_isLine  q1.2).bind fun q2 => if wr q2.1 = 0 then (some ((-3), q2.2)) else ((Ai_beginChange  q2.2).bind fun q3 => (Lin_openGap a0 q3.2).bind fun q4 => (Buf_writeLine a0 q4.2).bind fun q5 => some ((q5.2 2 0), q5.2))) else (some ((-3), q1.2)))
set_option maxRecDepth 100000 in
set_option maxHeartbeats 4000000 in
theorem c_Ai_insertLine {l : Launch} {w : Wd} (hW : shp w = ShA) (a0 : Int) (σ : Mem)  : Ctr l w yX11_insertLine cX11_insertLine 2 (some .int) (rmN 6 135) 1 [rf w 0, iv a0] σ (Ai_insertLine a0 σ) := by
  refine met_of (own := RX11) (by decide) rfl rfl rfl (Nat.le_of_ble_eq_true rfl) (fun X x hXl hN hS => ⟨[some (rf w 0), some (iv a0)], ⟨0, rfl⟩, ?_⟩)
  subst hXl
  unfold Ai_insertLine
  refine a_iload_n hS dX11_insertLine_0 rfl ?_
  refine a_iconst hS dX11_insertLine_1 ?_
  refine a_aload_n hS dX11_insertLine_2 rfl ?_
  refine a_getR hS (j := 1) dX11_insertLine_3 flX11_12 (sA0 hW) rfl ?_
  refine a_getR hS (j := 2) dX11_insertLine_6 flX11_96 (sA1 hW) rfl ?_
  refine a_getI hS dX11_insertLine_9 flX11_100 (sA2 hW) rfl ?_
  refine a_callSi hS (rst := []) (c_Ai_within hW a0 0 (σ 2 0) σ ) msX11_within mlX11_85 rfl (Nat.le_of_ble_eq_true rfl) (Nat.le_of_ble_eq_true rfl) (Nat.le_of_ble_eq_true rfl) rfl dX11_insertLine_12 (fun q1 => ?_)
  refine a_ifne hS rfl  (tgt := 20) dX11_insertLine_15 (by decide) ?_ ?_
  · refine a_aload_n hS dX11_insertLine_20 rfl ?_
    refine a_getR hS (j := 1) dX11_insertLine_21 flX11_12 (sA0 hW) rfl ?_
    refine a_getR hS (j := 2) dX11_insertLine_24 flX11_96 (sA1 hW) rfl ?_
    refine a_getI hS dX11_insertLine_27 flX11_100 (sA2 hW) rfl ?_
    refine a_bipush hS dX11_insertLine_30 rfl ?_
    refine a_icmpge hS rfl (wl 20 rfl) (tgt := 45) dX11_insertLine_32 (by decide) ?_ ?_
    · refine a_bipush hS dX11_insertLine_45 rfl ?_
      exact a_iret hS rfl rfl dX11_insertLine_47
    · refine a_aload_n hS dX11_insertLine_35 rfl ?_
      refine a_getR hS (j := 26) dX11_insertLine_36 flX11_19 (sA0 hW) rfl ?_
      refine a_callVi hS (rst := []) (c_Buf_isLine hW  q1.2 ) miX1_isLine mlX11_103 (sA26 hW) rfl rfl (Nat.le_of_ble_eq_true rfl) (Nat.le_of_ble_eq_true rfl) (Nat.le_of_ble_eq_true rfl) rfl dX11_insertLine_39 (fun q2 => ?_)
      refine a_ifne hS rfl  (tgt := 48) dX11_insertLine_42 (by decide) ?_ ?_
      · refine a_aload_n hS dX11_insertLine_48 rfl ?_
        refine a_callVv hS (rst := []) (c_Ai_beginChange hW  q2.2 ) miX11_beginChange mlX11_107 (sA0 hW) rfl rfl (Nat.le_of_ble_eq_true rfl) (Nat.le_of_ble_eq_true rfl) (Nat.le_of_ble_eq_true rfl) rfl dX11_insertLine_49 (fun q3 => ?_)
        refine a_aload_n hS dX11_insertLine_52 rfl ?_
        refine a_getR hS (j := 1) dX11_insertLine_53 flX11_12 (sA0 hW) rfl ?_
        refine a_getR hS (j := 2) dX11_insertLine_56 flX11_96 (sA1 hW) rfl ?_
        refine a_iload_n hS dX11_insertLine_59 rfl ?_
        refine a_callVv hS (rst := []) (c_Lin_openGap hW a0 q3.2 ) miX3_openGap mlX11_110 (sA2 hW) rfl rfl (Nat.le_of_ble_eq_true rfl) (Nat.le_of_ble_eq_true rfl) (Nat.le_of_ble_eq_true rfl) rfl dX11_insertLine_60 (fun q4 => ?_)
        refine a_aload_n hS dX11_insertLine_63 rfl ?_
        refine a_getR hS (j := 26) dX11_insertLine_64 flX11_19 (sA0 hW) rfl ?_
        refine a_aload_n hS dX11_insertLine_67 rfl ?_
        refine a_getR hS (j := 1) dX11_insertLine_68 flX11_12 (sA0 hW) rfl ?_
        refine a_getR hS (j := 2) dX11_insertLine_71 flX11_96 (sA1 hW) rfl ?_
        refine a_iload_n hS dX11_insertLine_74 rfl ?_
        refine a_callVv hS (rst := []) (c_Buf_writeLine hW a0 q4.2 ) miX1_writeLine mlX11_113 (sA26 hW) rfl rfl (Nat.le_of_ble_eq_true rfl) (Nat.le_of_ble_eq_true rfl) (Nat.le_of_ble_eq_true rfl) rfl dX11_insertLine_75 (fun q5 => ?_)
        refine a_aload_n hS dX11_insertLine_78 rfl ?_
        refine a_getR hS (j := 1) dX11_insertLine_79 flX11_12 (sA0 hW) rfl ?_
        refine a_getR hS (j := 2) dX11_insertLine_82 flX11_96 (sA1 hW) rfl ?_
        refine a_getI hS dX11_insertLine_85 flX11_100 (sA2 hW) rfl ?_
        exact a_iret hS rfl rfl dX11_insertLine_88
      · refine a_bipush hS dX11_insertLine_45 rfl ?_
        exact a_iret hS rfl rfl dX11_insertLine_47
  · refine a_iconst hS dX11_insertLine_18 ?_
    exact a_iret hS rfl rfl dX11_insertLine_19
noncomputable def Ai_replaceLine (a0 : Int) (σ : Mem) : Option (Int × Mem) := (Lin_has a0 σ).bind fun q1 => if wr q1.1 = 0 then (some ((-1), q1.2)) else ((Buf_isLine  q1.2).bind fun q2 => if wr q2.1 = 0 then (some ((-3), q2.2)) else ((Row_get 3 a0 q2.2).bind fun q3 => (Ai_beginChange  q3.2).bind fun q4 => (Buf_writeLine a0 q4.2).bind fun q5 => some (q3.1, q5.2)))
set_option maxRecDepth 100000 in
set_option maxHeartbeats 4000000 in
theorem c_Ai_replaceLine {l : Launch} {w : Wd} (hW : shp w = ShA) (a0 : Int) (σ : Mem)  : Ctr l w yX11_replaceLine cX11_replaceLine 3 (some .int) (rmN 6 135) 1 [rf w 0, iv a0] σ (Ai_replaceLine a0 σ) := by
  refine met_of (own := RX11) (by decide) rfl rfl rfl (Nat.le_of_ble_eq_true rfl) (fun X x hXl hN hS => ⟨[some (rf w 0), some (iv a0), none], ⟨1, rfl⟩, ?_⟩)
  subst hXl
  unfold Ai_replaceLine
  refine a_aload_n hS dX11_replaceLine_0 rfl ?_
  refine a_getR hS (j := 1) dX11_replaceLine_1 flX11_12 (sA0 hW) rfl ?_
  refine a_getR hS (j := 2) dX11_replaceLine_4 flX11_96 (sA1 hW) rfl ?_
  refine a_iload_n hS dX11_replaceLine_7 rfl ?_
  refine a_callVi hS (rst := []) (c_Lin_has hW a0 σ ) miX3_has mlX11_117 (sA2 hW) rfl rfl (Nat.le_of_ble_eq_true rfl) (Nat.le_of_ble_eq_true rfl) (Nat.le_of_ble_eq_true rfl) rfl dX11_replaceLine_8 (fun q1 => ?_)
  refine a_ifne hS rfl  (tgt := 16) dX11_replaceLine_11 (by decide) ?_ ?_
  · refine a_aload_n hS dX11_replaceLine_16 rfl ?_
    refine a_getR hS (j := 26) dX11_replaceLine_17 flX11_19 (sA0 hW) rfl ?_
    refine a_callVi hS (rst := []) (c_Buf_isLine hW  q1.2 ) miX1_isLine mlX11_103 (sA26 hW) rfl rfl (Nat.le_of_ble_eq_true rfl) (Nat.le_of_ble_eq_true rfl) (Nat.le_of_ble_eq_true rfl) rfl dX11_replaceLine_20 (fun q2 => ?_)
    refine a_ifne hS rfl  (tgt := 29) dX11_replaceLine_23 (by decide) ?_ ?_
    · refine a_aload_n hS dX11_replaceLine_29 rfl ?_
      refine a_getR hS (j := 1) dX11_replaceLine_30 flX11_12 (sA0 hW) rfl ?_
      refine a_getR hS (j := 2) dX11_replaceLine_33 flX11_96 (sA1 hW) rfl ?_
      refine a_getR hS (j := 3) dX11_replaceLine_36 flX11_121 (sA2 hW) rfl ?_
      refine a_iload_n hS dX11_replaceLine_39 rfl ?_
      refine a_callVi hS (rst := []) (c_Row_get hW 3 a0 q2.2 iRow3) miX5_get mlX11_124 (sA3 hW) rfl rfl (Nat.le_of_ble_eq_true rfl) (Nat.le_of_ble_eq_true rfl) (Nat.le_of_ble_eq_true rfl) rfl dX11_replaceLine_40 (fun q3 => ?_)
      refine a_istore_n hS (L' := [some (rf w 0), some (iv a0), some (iv q3.1)]) dX11_replaceLine_43 hN (Nat.le_of_ble_eq_true rfl) rfl rfl ?_
      refine a_aload_n hS dX11_replaceLine_44 rfl ?_
      refine a_callVv hS (rst := []) (c_Ai_beginChange hW  q3.2 ) miX11_beginChange mlX11_107 (sA0 hW) rfl rfl (Nat.le_of_ble_eq_true rfl) (Nat.le_of_ble_eq_true rfl) (Nat.le_of_ble_eq_true rfl) rfl dX11_replaceLine_45 (fun q4 => ?_)
      refine a_aload_n hS dX11_replaceLine_48 rfl ?_
      refine a_getR hS (j := 26) dX11_replaceLine_49 flX11_19 (sA0 hW) rfl ?_
      refine a_aload_n hS dX11_replaceLine_52 rfl ?_
      refine a_getR hS (j := 1) dX11_replaceLine_53 flX11_12 (sA0 hW) rfl ?_
      refine a_getR hS (j := 2) dX11_replaceLine_56 flX11_96 (sA1 hW) rfl ?_
      refine a_iload_n hS dX11_replaceLine_59 rfl ?_
      refine a_callVv hS (rst := []) (c_Buf_writeLine hW a0 q4.2 ) miX1_writeLine mlX11_113 (sA26 hW) rfl rfl (Nat.le_of_ble_eq_true rfl) (Nat.le_of_ble_eq_true rfl) (Nat.le_of_ble_eq_true rfl) rfl dX11_replaceLine_60 (fun q5 => ?_)
      refine a_iload_n hS dX11_replaceLine_63 rfl ?_
      exact a_iret hS rfl rfl dX11_replaceLine_64
    · refine a_bipush hS dX11_replaceLine_26 rfl ?_
      exact a_iret hS rfl rfl dX11_replaceLine_28
  · refine a_iconst hS dX11_replaceLine_14 ?_
    exact a_iret hS rfl rfl dX11_replaceLine_15
noncomputable def Ai_removeLine (a0 : Int) (σ : Mem) : Option (Int × Mem) := (Lin_has a0 σ).bind fun q1 => if wr q1.1 = 0 then (some ((-1), q1.2)) else ((Ai_beginChange  q1.2).bind fun q2 => (Lin_closeGap a0 q2.2).bind fun q3 => some ((q3.2 2 0), q3.2))
set_option maxRecDepth 100000 in
set_option maxHeartbeats 4000000 in
theorem c_Ai_removeLine {l : Launch} {w : Wd} (hW : shp w = ShA) (a0 : Int) (σ : Mem)  : Ctr l w yX11_removeLine cX11_removeLine 2 (some .int) (rmN 6 135) 1 [rf w 0, iv a0] σ (Ai_removeLine a0 σ) := by
  refine met_of (own := RX11) (by decide) rfl rfl rfl (Nat.le_of_ble_eq_true rfl) (fun X x hXl hN hS => ⟨[some (rf w 0), some (iv a0)], ⟨0, rfl⟩, ?_⟩)
  subst hXl
  unfold Ai_removeLine
  refine a_aload_n hS dX11_removeLine_0 rfl ?_
  refine a_getR hS (j := 1) dX11_removeLine_1 flX11_12 (sA0 hW) rfl ?_
  refine a_getR hS (j := 2) dX11_removeLine_4 flX11_96 (sA1 hW) rfl ?_
  refine a_iload_n hS dX11_removeLine_7 rfl ?_
  refine a_callVi hS (rst := []) (c_Lin_has hW a0 σ ) miX3_has mlX11_117 (sA2 hW) rfl rfl (Nat.le_of_ble_eq_true rfl) (Nat.le_of_ble_eq_true rfl) (Nat.le_of_ble_eq_true rfl) rfl dX11_removeLine_8 (fun q1 => ?_)
  refine a_ifne hS rfl  (tgt := 16) dX11_removeLine_11 (by decide) ?_ ?_
  · refine a_aload_n hS dX11_removeLine_16 rfl ?_
    refine a_callVv hS (rst := []) (c_Ai_beginChange hW  q1.2 ) miX11_beginChange mlX11_107 (sA0 hW) rfl rfl (Nat.le_of_ble_eq_true rfl) (Nat.le_of_ble_eq_true rfl) (Nat.le_of_ble_eq_true rfl) rfl dX11_removeLine_17 (fun q2 => ?_)
    refine a_aload_n hS dX11_removeLine_20 rfl ?_
    refine a_getR hS (j := 1) dX11_removeLine_21 flX11_12 (sA0 hW) rfl ?_
    refine a_getR hS (j := 2) dX11_removeLine_24 flX11_96 (sA1 hW) rfl ?_
    refine a_iload_n hS dX11_removeLine_27 rfl ?_
    refine a_callVv hS (rst := []) (c_Lin_closeGap hW a0 q2.2 ) miX3_closeGap mlX11_128 (sA2 hW) rfl rfl (Nat.le_of_ble_eq_true rfl) (Nat.le_of_ble_eq_true rfl) (Nat.le_of_ble_eq_true rfl) rfl dX11_removeLine_28 (fun q3 => ?_)
    refine a_aload_n hS dX11_removeLine_31 rfl ?_
    refine a_getR hS (j := 1) dX11_removeLine_32 flX11_12 (sA0 hW) rfl ?_
    refine a_getR hS (j := 2) dX11_removeLine_35 flX11_96 (sA1 hW) rfl ?_
    refine a_getI hS dX11_removeLine_38 flX11_100 (sA2 hW) rfl ?_
    exact a_iret hS rfl rfl dX11_removeLine_41
  · refine a_iconst hS dX11_removeLine_14 ?_
    exact a_iret hS rfl rfl dX11_removeLine_15
noncomputable def Ai_study  (σ : Mem) : Option (Int × Mem) := if wr (σ 0 11) = 0 then ((Tok_divide (σ 1 4) σ).bind fun q1 => (Blk_match  q1.2).bind fun q2 => (Pla_make  q2.2).bind fun q3 => letM (upM q3.2 0 11 1) fun s4 => some (0, s4)) else (some (0, σ))
set_option maxRecDepth 100000 in
set_option maxHeartbeats 4000000 in
theorem c_Ai_study {l : Launch} {w : Wd} (hW : shp w = ShA)  (σ : Mem)  : Ctr l w yX11_study cX11_study 1 none (rmN 5 128) 0 [rf w 0] σ (Ai_study  σ) := by
  refine met_of (own := RX11) (by decide) rfl rfl rfl (Nat.le_of_ble_eq_true rfl) (fun X x hXl hN hS => ⟨[some (rf w 0)], ⟨0, rfl⟩, ?_⟩)
  subst hXl
  unfold Ai_study
  refine a_aload_n hS dX11_study_0 rfl ?_
  refine a_getI hS dX11_study_1 flX11_81 (sA0 hW) rfl ?_
  refine a_ifne hS rfl  (tgt := 67) dX11_study_4 (by decide) ?_ ?_
  · exact a_vret hS rfl rfl dX11_study_67
  · refine a_aload_n hS dX11_study_7 rfl ?_
    refine a_getR hS (j := 289) dX11_study_8 flX11_53 (sA0 hW) rfl ?_
    refine a_aload_n hS dX11_study_11 rfl ?_
    refine a_getR hS (j := 1) dX11_study_12 flX11_12 (sA0 hW) rfl ?_
    refine a_getR hS (j := 2) dX11_study_15 flX11_96 (sA1 hW) rfl ?_
    refine a_aload_n hS dX11_study_18 rfl ?_
    refine a_getR hS (j := 1) dX11_study_19 flX11_12 (sA0 hW) rfl ?_
    refine a_getI hS dX11_study_22 flX11_188 (sA1 hW) rfl ?_
    refine a_callVv hS (rst := []) (c_Tok_divide hW (σ 1 4) σ ) miX9_divide mlX11_345 (sA289 hW) rfl rfl (Nat.le_of_ble_eq_true rfl) (Nat.le_of_ble_eq_true rfl) (Nat.le_of_ble_eq_true rfl) rfl dX11_study_25 (fun q1 => ?_)
    refine a_aload_n hS dX11_study_28 rfl ?_
    refine a_getR hS (j := 304) dX11_study_29 flX11_60 (sA0 hW) rfl ?_
    refine a_aload_n hS dX11_study_32 rfl ?_
    refine a_getR hS (j := 1) dX11_study_33 flX11_12 (sA0 hW) rfl ?_
    refine a_aload_n hS dX11_study_36 rfl ?_
    refine a_getR hS (j := 289) dX11_study_37 flX11_53 (sA0 hW) rfl ?_
    refine a_callVv hS (rst := []) (c_Blk_match hW  q1.2 ) miX0_match mlX11_348 (sA304 hW) rfl rfl (Nat.le_of_ble_eq_true rfl) (Nat.le_of_ble_eq_true rfl) (Nat.le_of_ble_eq_true rfl) rfl dX11_study_40 (fun q2 => ?_)
    refine a_aload_n hS dX11_study_43 rfl ?_
    refine a_getR hS (j := 327) dX11_study_44 flX11_67 (sA0 hW) rfl ?_
    refine a_aload_n hS dX11_study_47 rfl ?_
    refine a_getR hS (j := 1) dX11_study_48 flX11_12 (sA0 hW) rfl ?_
    refine a_aload_n hS dX11_study_51 rfl ?_
    refine a_getR hS (j := 289) dX11_study_52 flX11_53 (sA0 hW) rfl ?_
    refine a_aload_n hS dX11_study_55 rfl ?_
    refine a_getR hS (j := 304) dX11_study_56 flX11_60 (sA0 hW) rfl ?_
    refine a_callVv hS (rst := []) (c_Pla_make hW  q2.2 ) miX4_make mlX11_352 (sA327 hW) rfl rfl (Nat.le_of_ble_eq_true rfl) (Nat.le_of_ble_eq_true rfl) (Nat.le_of_ble_eq_true rfl) rfl dX11_study_59 (fun q3 => ?_)
    refine a_aload_n hS dX11_study_62 rfl ?_
    refine a_iconst hS dX11_study_63 ?_
    refine a_putZ hS dX11_study_64 plX11_81 (sA0 hW) rfl (by decide) ?_
    refine a_letM (fun s4 => ?_)
    exact a_vret hS rfl rfl dX11_study_67
noncomputable def Ai_splitLine (a0 : Int) (a1 : Int) (σ : Mem) : Option (Int × Mem) := (Lin_has a0 σ).bind fun q1 => if wr q1.1 = 0 then (some ((-1), q1.2)) else ((Row_get 5 a0 q1.2).bind fun q2 => (Ai_within a1 1 (q2.1 - 1) q2.2).bind fun q3 => if wr q3.1 = 0 then (some ((-1), q3.2)) else (if wr (q3.2 2 0) < 20 then ((Ai_beginChange  q3.2).bind fun q4 => (Lin_split a0 a1 q4.2).bind fun q5 => (Ai_study  q5.2).bind fun q6 => (Pla_column (a0 + 1) 3 (q6.2 1 2) (q6.2 1 3) q6.2).bind fun q7 => if wr q7.1 = (-9) then ((Row_set 3 (a0 + 1) 0 q7.2).bind fun q10 => (Row_get 3 (a0 + 1) q10.2).bind fun q11 => some (q11.1, q11.2)) else ((Row_set 3 (a0 + 1) q7.1 q7.2).bind fun q8 => (Row_get 3 (a0 + 1) q8.2).bind fun q9 => some (q9.1, q9.2))) else (some ((-3), q3.2))))
set_option maxRecDepth 100000 in
set_option maxHeartbeats 4000000 in
theorem c_Ai_splitLine {l : Launch} {w : Wd} (hW : shp w = ShA) (a0 : Int) (a1 : Int) (σ : Mem)  : Ctr l w yX11_splitLine cX11_splitLine 4 (some .int) (rmN 6 148) 1 [rf w 0, iv a0, iv a1] σ (Ai_splitLine a0 a1 σ) := by
  refine met_of (own := RX11) (by decide) rfl rfl rfl (Nat.le_of_ble_eq_true rfl) (fun X x hXl hN hS => ⟨[some (rf w 0), some (iv a0), some (iv a1), none], ⟨1, rfl⟩, ?_⟩)
  subst hXl
  unfold Ai_splitLine
  refine a_aload_n hS dX11_splitLine_0 rfl ?_
  refine a_getR hS (j := 1) dX11_splitLine_1 flX11_12 (sA0 hW) rfl ?_
  refine a_getR hS (j := 2) dX11_splitLine_4 flX11_96 (sA1 hW) rfl ?_
  refine a_iload_n hS dX11_splitLine_7 rfl ?_
  refine a_callVi hS (rst := []) (c_Lin_has hW a0 σ ) miX3_has mlX11_117 (sA2 hW) rfl rfl (Nat.le_of_ble_eq_true rfl) (Nat.le_of_ble_eq_true rfl) (Nat.le_of_ble_eq_true rfl) rfl dX11_splitLine_8 (fun q1 => ?_)
  refine a_ifeq hS rfl  (tgt := 38) dX11_splitLine_11 (by decide) ?_ ?_
  · refine a_iconst hS dX11_splitLine_38 ?_
    exact a_iret hS rfl rfl dX11_splitLine_39
  · refine a_iload_n hS dX11_splitLine_14 rfl ?_
    refine a_iconst hS dX11_splitLine_15 ?_
    refine a_aload_n hS dX11_splitLine_16 rfl ?_
    refine a_getR hS (j := 1) dX11_splitLine_17 flX11_12 (sA0 hW) rfl ?_
    refine a_getR hS (j := 2) dX11_splitLine_20 flX11_96 (sA1 hW) rfl ?_
    refine a_getR hS (j := 5) dX11_splitLine_23 flX11_131 (sA2 hW) rfl ?_
    refine a_iload_n hS dX11_splitLine_26 rfl ?_
    refine a_callVi hS (rst := [iv 1, iv a1]) (c_Row_get hW 5 a0 q1.2 iRow5) miX5_get mlX11_124 (sA5 hW) rfl rfl (Nat.le_of_ble_eq_true rfl) (Nat.le_of_ble_eq_true rfl) (Nat.le_of_ble_eq_true rfl) rfl dX11_splitLine_27 (fun q2 => ?_)
    refine a_iconst hS dX11_splitLine_30 ?_
    refine a_isub hS dX11_splitLine_31 ?_
    refine a_callSi hS (rst := []) (c_Ai_within hW a1 1 (q2.1 - 1) q2.2 ) msX11_within mlX11_85 rfl (Nat.le_of_ble_eq_true rfl) (Nat.le_of_ble_eq_true rfl) (Nat.le_of_ble_eq_true rfl) rfl dX11_splitLine_32 (fun q3 => ?_)
    refine a_ifne hS rfl  (tgt := 40) dX11_splitLine_35 (by decide) ?_ ?_
    · refine a_aload_n hS dX11_splitLine_40 rfl ?_
      refine a_getR hS (j := 1) dX11_splitLine_41 flX11_12 (sA0 hW) rfl ?_
      refine a_getR hS (j := 2) dX11_splitLine_44 flX11_96 (sA1 hW) rfl ?_
      refine a_getI hS dX11_splitLine_47 flX11_100 (sA2 hW) rfl ?_
      refine a_bipush hS dX11_splitLine_50 rfl ?_
      refine a_icmplt hS rfl (wl 20 rfl) (tgt := 58) dX11_splitLine_52 (by decide) ?_ ?_
      · refine a_aload_n hS dX11_splitLine_58 rfl ?_
        refine a_callVv hS (rst := []) (c_Ai_beginChange hW  q3.2 ) miX11_beginChange mlX11_107 (sA0 hW) rfl rfl (Nat.le_of_ble_eq_true rfl) (Nat.le_of_ble_eq_true rfl) (Nat.le_of_ble_eq_true rfl) rfl dX11_splitLine_59 (fun q4 => ?_)
        refine a_aload_n hS dX11_splitLine_62 rfl ?_
        refine a_getR hS (j := 1) dX11_splitLine_63 flX11_12 (sA0 hW) rfl ?_
        refine a_getR hS (j := 2) dX11_splitLine_66 flX11_96 (sA1 hW) rfl ?_
        refine a_iload_n hS dX11_splitLine_69 rfl ?_
        refine a_iload_n hS dX11_splitLine_70 rfl ?_
        refine a_callVv hS (rst := []) (c_Lin_split hW a0 a1 q4.2 ) miX3_split mlX11_134 (sA2 hW) rfl rfl (Nat.le_of_ble_eq_true rfl) (Nat.le_of_ble_eq_true rfl) (Nat.le_of_ble_eq_true rfl) rfl dX11_splitLine_71 (fun q5 => ?_)
        refine a_aload_n hS dX11_splitLine_74 rfl ?_
        refine a_callVv hS (rst := []) (c_Ai_study hW  q5.2 ) miX11_study mlX11_138 (sA0 hW) rfl rfl (Nat.le_of_ble_eq_true rfl) (Nat.le_of_ble_eq_true rfl) (Nat.le_of_ble_eq_true rfl) rfl dX11_splitLine_75 (fun q6 => ?_)
        refine a_aload_n hS dX11_splitLine_78 rfl ?_
        refine a_getR hS (j := 327) dX11_splitLine_79 flX11_67 (sA0 hW) rfl ?_
        refine a_iload_n hS dX11_splitLine_82 rfl ?_
        refine a_iconst hS dX11_splitLine_83 ?_
        refine a_iadd hS dX11_splitLine_84 ?_
        refine a_aload_n hS dX11_splitLine_85 rfl ?_
        refine a_getR hS (j := 1) dX11_splitLine_86 flX11_12 (sA0 hW) rfl ?_
        refine a_getR hS (j := 2) dX11_splitLine_89 flX11_96 (sA1 hW) rfl ?_
        refine a_getR hS (j := 3) dX11_splitLine_92 flX11_121 (sA2 hW) rfl ?_
        refine a_aload_n hS dX11_splitLine_95 rfl ?_
        refine a_getR hS (j := 1) dX11_splitLine_96 flX11_12 (sA0 hW) rfl ?_
        refine a_getI hS dX11_splitLine_99 flX11_141 (sA1 hW) rfl ?_
        refine a_aload_n hS dX11_splitLine_102 rfl ?_
        refine a_getR hS (j := 1) dX11_splitLine_103 flX11_12 (sA0 hW) rfl ?_
        refine a_getI hS dX11_splitLine_106 flX11_144 (sA1 hW) rfl ?_
        refine a_callVi hS (rst := []) (c_Pla_column hW (a0 + 1) 3 (q6.2 1 2) (q6.2 1 3) q6.2 iRow3) miX4_column mlX11_147 (sA327 hW) rfl rfl (Nat.le_of_ble_eq_true rfl) (Nat.le_of_ble_eq_true rfl) (Nat.le_of_ble_eq_true rfl) rfl dX11_splitLine_109 (fun q7 => ?_)
        refine a_istore_n hS (L' := [some (rf w 0), some (iv a0), some (iv a1), some (iv q7.1)]) dX11_splitLine_112 hN (Nat.le_of_ble_eq_true rfl) rfl rfl ?_
        refine a_aload_n hS dX11_splitLine_113 rfl ?_
        refine a_getR hS (j := 1) dX11_splitLine_114 flX11_12 (sA0 hW) rfl ?_
        refine a_getR hS (j := 2) dX11_splitLine_117 flX11_96 (sA1 hW) rfl ?_
        refine a_getR hS (j := 3) dX11_splitLine_120 flX11_121 (sA2 hW) rfl ?_
        refine a_iload_n hS dX11_splitLine_123 rfl ?_
        refine a_iconst hS dX11_splitLine_124 ?_
        refine a_iadd hS dX11_splitLine_125 ?_
        refine a_iload_n hS dX11_splitLine_126 rfl ?_
        refine a_bipush hS dX11_splitLine_127 rfl ?_
        refine a_icmpne hS rfl (wl (-9) rfl) (tgt := 136) dX11_splitLine_129 (by decide) ?_ ?_
        · refine a_iload_n hS dX11_splitLine_136 rfl ?_
          refine a_callVv hS (rst := []) (c_Row_set hW 3 (a0 + 1) q7.1 q7.2 iRow3) miX5_set mlX11_151 (sA3 hW) rfl rfl (Nat.le_of_ble_eq_true rfl) (Nat.le_of_ble_eq_true rfl) (Nat.le_of_ble_eq_true rfl) rfl dX11_splitLine_137 (fun q8 => ?_)
          refine a_aload_n hS dX11_splitLine_140 rfl ?_
          refine a_getR hS (j := 1) dX11_splitLine_141 flX11_12 (sA0 hW) rfl ?_
          refine a_getR hS (j := 2) dX11_splitLine_144 flX11_96 (sA1 hW) rfl ?_
          refine a_getR hS (j := 3) dX11_splitLine_147 flX11_121 (sA2 hW) rfl ?_
          refine a_iload_n hS dX11_splitLine_150 rfl ?_
          refine a_iconst hS dX11_splitLine_151 ?_
          refine a_iadd hS dX11_splitLine_152 ?_
          refine a_callVi hS (rst := []) (c_Row_get hW 3 (a0 + 1) q8.2 iRow3) miX5_get mlX11_124 (sA3 hW) rfl rfl (Nat.le_of_ble_eq_true rfl) (Nat.le_of_ble_eq_true rfl) (Nat.le_of_ble_eq_true rfl) rfl dX11_splitLine_153 (fun q9 => ?_)
          exact a_iret hS rfl rfl dX11_splitLine_156
        · refine a_iconst hS dX11_splitLine_132 ?_
          refine a_goto hS (tgt := 137) dX11_splitLine_133 (by decide) ?_
          refine a_callVv hS (rst := []) (c_Row_set hW 3 (a0 + 1) 0 q7.2 iRow3) miX5_set mlX11_151 (sA3 hW) rfl rfl (Nat.le_of_ble_eq_true rfl) (Nat.le_of_ble_eq_true rfl) (Nat.le_of_ble_eq_true rfl) rfl dX11_splitLine_137 (fun q10 => ?_)
          refine a_aload_n hS dX11_splitLine_140 rfl ?_
          refine a_getR hS (j := 1) dX11_splitLine_141 flX11_12 (sA0 hW) rfl ?_
          refine a_getR hS (j := 2) dX11_splitLine_144 flX11_96 (sA1 hW) rfl ?_
          refine a_getR hS (j := 3) dX11_splitLine_147 flX11_121 (sA2 hW) rfl ?_
          refine a_iload_n hS dX11_splitLine_150 rfl ?_
          refine a_iconst hS dX11_splitLine_151 ?_
          refine a_iadd hS dX11_splitLine_152 ?_
          refine a_callVi hS (rst := []) (c_Row_get hW 3 (a0 + 1) q10.2 iRow3) miX5_get mlX11_124 (sA3 hW) rfl rfl (Nat.le_of_ble_eq_true rfl) (Nat.le_of_ble_eq_true rfl) (Nat.le_of_ble_eq_true rfl) rfl dX11_splitLine_153 (fun q11 => ?_)
          exact a_iret hS rfl rfl dX11_splitLine_156
      · refine a_bipush hS dX11_splitLine_55 rfl ?_
        exact a_iret hS rfl rfl dX11_splitLine_57
    · refine a_iconst hS dX11_splitLine_38 ?_
      exact a_iret hS rfl rfl dX11_splitLine_39
noncomputable def Ai_joinLines (a0 : Int) (σ : Mem) : Option (Int × Mem) := (Lin_has a0 σ).bind fun q1 => if wr q1.1 = 0 then (some ((-1), q1.2)) else ((Lin_has (a0 + 1) q1.2).bind fun q2 => if wr q2.1 = 0 then (some ((-1), q2.2)) else ((Lin_joinedSize a0 q2.2).bind fun q3 => if 32 < wr q3.1 then (some ((-3), q3.2)) else ((Ai_beginChange  q3.2).bind fun q4 => (Lin_join a0 q4.2).bind fun q5 => (Row_get 5 a0 q5.2).bind fun q6 => some (q6.1, q6.2))))
set_option maxRecDepth 100000 in
set_option maxHeartbeats 4000000 in
theorem c_Ai_joinLines {l : Launch} {w : Wd} (hW : shp w = ShA) (a0 : Int) (σ : Mem)  : Ctr l w yX11_joinLines cX11_joinLines 2 (some .int) (rmN 6 135) 1 [rf w 0, iv a0] σ (Ai_joinLines a0 σ) := by
  refine met_of (own := RX11) (by decide) rfl rfl rfl (Nat.le_of_ble_eq_true rfl) (fun X x hXl hN hS => ⟨[some (rf w 0), some (iv a0)], ⟨0, rfl⟩, ?_⟩)
  subst hXl
  unfold Ai_joinLines
  refine a_aload_n hS dX11_joinLines_0 rfl ?_
  refine a_getR hS (j := 1) dX11_joinLines_1 flX11_12 (sA0 hW) rfl ?_
  refine a_getR hS (j := 2) dX11_joinLines_4 flX11_96 (sA1 hW) rfl ?_
  refine a_iload_n hS dX11_joinLines_7 rfl ?_
  refine a_callVi hS (rst := []) (c_Lin_has hW a0 σ ) miX3_has mlX11_117 (sA2 hW) rfl rfl (Nat.le_of_ble_eq_true rfl) (Nat.le_of_ble_eq_true rfl) (Nat.le_of_ble_eq_true rfl) rfl dX11_joinLines_8 (fun q1 => ?_)
  refine a_ifeq hS rfl  (tgt := 30) dX11_joinLines_11 (by decide) ?_ ?_
  · refine a_iconst hS dX11_joinLines_30 ?_
    exact a_iret hS rfl rfl dX11_joinLines_31
  · refine a_aload_n hS dX11_joinLines_14 rfl ?_
    refine a_getR hS (j := 1) dX11_joinLines_15 flX11_12 (sA0 hW) rfl ?_
    refine a_getR hS (j := 2) dX11_joinLines_18 flX11_96 (sA1 hW) rfl ?_
    refine a_iload_n hS dX11_joinLines_21 rfl ?_
    refine a_iconst hS dX11_joinLines_22 ?_
    refine a_iadd hS dX11_joinLines_23 ?_
    refine a_callVi hS (rst := []) (c_Lin_has hW (a0 + 1) q1.2 ) miX3_has mlX11_117 (sA2 hW) rfl rfl (Nat.le_of_ble_eq_true rfl) (Nat.le_of_ble_eq_true rfl) (Nat.le_of_ble_eq_true rfl) rfl dX11_joinLines_24 (fun q2 => ?_)
    refine a_ifne hS rfl  (tgt := 32) dX11_joinLines_27 (by decide) ?_ ?_
    · refine a_aload_n hS dX11_joinLines_32 rfl ?_
      refine a_getR hS (j := 1) dX11_joinLines_33 flX11_12 (sA0 hW) rfl ?_
      refine a_getR hS (j := 2) dX11_joinLines_36 flX11_96 (sA1 hW) rfl ?_
      refine a_iload_n hS dX11_joinLines_39 rfl ?_
      refine a_callVi hS (rst := []) (c_Lin_joinedSize hW a0 q2.2 ) miX3_joinedSize mlX11_154 (sA2 hW) rfl rfl (Nat.le_of_ble_eq_true rfl) (Nat.le_of_ble_eq_true rfl) (Nat.le_of_ble_eq_true rfl) rfl dX11_joinLines_40 (fun q3 => ?_)
      refine a_bipush hS dX11_joinLines_43 rfl ?_
      refine a_icmple hS rfl (wl 32 rfl) (tgt := 51) dX11_joinLines_45 (by decide) ?_ ?_
      · refine a_aload_n hS dX11_joinLines_51 rfl ?_
        refine a_callVv hS (rst := []) (c_Ai_beginChange hW  q3.2 ) miX11_beginChange mlX11_107 (sA0 hW) rfl rfl (Nat.le_of_ble_eq_true rfl) (Nat.le_of_ble_eq_true rfl) (Nat.le_of_ble_eq_true rfl) rfl dX11_joinLines_52 (fun q4 => ?_)
        refine a_aload_n hS dX11_joinLines_55 rfl ?_
        refine a_getR hS (j := 1) dX11_joinLines_56 flX11_12 (sA0 hW) rfl ?_
        refine a_getR hS (j := 2) dX11_joinLines_59 flX11_96 (sA1 hW) rfl ?_
        refine a_iload_n hS dX11_joinLines_62 rfl ?_
        refine a_callVv hS (rst := []) (c_Lin_join hW a0 q4.2 ) miX3_join mlX11_157 (sA2 hW) rfl rfl (Nat.le_of_ble_eq_true rfl) (Nat.le_of_ble_eq_true rfl) (Nat.le_of_ble_eq_true rfl) rfl dX11_joinLines_63 (fun q5 => ?_)
        refine a_aload_n hS dX11_joinLines_66 rfl ?_
        refine a_getR hS (j := 1) dX11_joinLines_67 flX11_12 (sA0 hW) rfl ?_
        refine a_getR hS (j := 2) dX11_joinLines_70 flX11_96 (sA1 hW) rfl ?_
        refine a_getR hS (j := 5) dX11_joinLines_73 flX11_131 (sA2 hW) rfl ?_
        refine a_iload_n hS dX11_joinLines_76 rfl ?_
        refine a_callVi hS (rst := []) (c_Row_get hW 5 a0 q5.2 iRow5) miX5_get mlX11_124 (sA5 hW) rfl rfl (Nat.le_of_ble_eq_true rfl) (Nat.le_of_ble_eq_true rfl) (Nat.le_of_ble_eq_true rfl) rfl dX11_joinLines_77 (fun q6 => ?_)
        exact a_iret hS rfl rfl dX11_joinLines_80
      · refine a_bipush hS dX11_joinLines_48 rfl ?_
        exact a_iret hS rfl rfl dX11_joinLines_50
    · refine a_iconst hS dX11_joinLines_30 ?_
      exact a_iret hS rfl rfl dX11_joinLines_31
noncomputable def Ai_shift (a0 : Int) (a1 : Int) (a2 : Int) (σ : Mem) : Option (Int × Mem) := (Lin_hasRange a0 a1 σ).bind fun q1 => if wr q1.1 = 0 then (some ((-1), q1.2)) else ((Ai_within a2 (-40) 40 q1.2).bind fun q2 => if wr q2.1 = 0 then (some ((-1), q2.2)) else ((Lin_canMove a0 a1 a2 q2.2).bind fun q3 => if wr q3.1 = 0 then (some ((-2), q3.2)) else ((Ai_beginChange  q3.2).bind fun q4 => (Lin_move a0 a1 a2 q4.2).bind fun q5 => some (q5.1, q5.2))))
set_option maxRecDepth 100000 in
set_option maxHeartbeats 4000000 in
theorem c_Ai_shift {l : Launch} {w : Wd} (hW : shp w = ShA) (a0 : Int) (a1 : Int) (a2 : Int) (σ : Mem)  : Ctr l w yX11_shift cX11_shift 4 (some .int) (rmN 6 135) 1 [rf w 0, iv a0, iv a1, iv a2] σ (Ai_shift a0 a1 a2 σ) := by
  refine met_of (own := RX11) (by decide) rfl rfl rfl (Nat.le_of_ble_eq_true rfl) (fun X x hXl hN hS => ⟨[some (rf w 0), some (iv a0), some (iv a1), some (iv a2)], ⟨0, rfl⟩, ?_⟩)
  subst hXl
  unfold Ai_shift
  refine a_aload_n hS dX11_shift_0 rfl ?_
  refine a_getR hS (j := 1) dX11_shift_1 flX11_12 (sA0 hW) rfl ?_
  refine a_getR hS (j := 2) dX11_shift_4 flX11_96 (sA1 hW) rfl ?_
  refine a_iload_n hS dX11_shift_7 rfl ?_
  refine a_iload_n hS dX11_shift_8 rfl ?_
  refine a_callVi hS (rst := []) (c_Lin_hasRange hW a0 a1 σ ) miX3_hasRange mlX11_160 (sA2 hW) rfl rfl (Nat.le_of_ble_eq_true rfl) (Nat.le_of_ble_eq_true rfl) (Nat.le_of_ble_eq_true rfl) rfl dX11_shift_9 (fun q1 => ?_)
  refine a_ifeq hS rfl  (tgt := 26) dX11_shift_12 (by decide) ?_ ?_
  · refine a_iconst hS dX11_shift_26 ?_
    exact a_iret hS rfl rfl dX11_shift_27
  · refine a_iload_n hS dX11_shift_15 rfl ?_
    refine a_bipush hS dX11_shift_16 rfl ?_
    refine a_bipush hS dX11_shift_18 rfl ?_
    refine a_callSi hS (rst := []) (c_Ai_within hW a2 (-40) 40 q1.2 ) msX11_within mlX11_85 rfl (Nat.le_of_ble_eq_true rfl) (Nat.le_of_ble_eq_true rfl) (Nat.le_of_ble_eq_true rfl) rfl dX11_shift_20 (fun q2 => ?_)
    refine a_ifne hS rfl  (tgt := 28) dX11_shift_23 (by decide) ?_ ?_
    · refine a_aload_n hS dX11_shift_28 rfl ?_
      refine a_getR hS (j := 1) dX11_shift_29 flX11_12 (sA0 hW) rfl ?_
      refine a_getR hS (j := 2) dX11_shift_32 flX11_96 (sA1 hW) rfl ?_
      refine a_iload_n hS dX11_shift_35 rfl ?_
      refine a_iload_n hS dX11_shift_36 rfl ?_
      refine a_iload_n hS dX11_shift_37 rfl ?_
      refine a_callVi hS (rst := []) (c_Lin_canMove hW a0 a1 a2 q2.2 ) miX3_canMove mlX11_164 (sA2 hW) rfl rfl (Nat.le_of_ble_eq_true rfl) (Nat.le_of_ble_eq_true rfl) (Nat.le_of_ble_eq_true rfl) rfl dX11_shift_38 (fun q3 => ?_)
      refine a_ifne hS rfl  (tgt := 47) dX11_shift_41 (by decide) ?_ ?_
      · refine a_aload_n hS dX11_shift_47 rfl ?_
        refine a_callVv hS (rst := []) (c_Ai_beginChange hW  q3.2 ) miX11_beginChange mlX11_107 (sA0 hW) rfl rfl (Nat.le_of_ble_eq_true rfl) (Nat.le_of_ble_eq_true rfl) (Nat.le_of_ble_eq_true rfl) rfl dX11_shift_48 (fun q4 => ?_)
        refine a_aload_n hS dX11_shift_51 rfl ?_
        refine a_getR hS (j := 1) dX11_shift_52 flX11_12 (sA0 hW) rfl ?_
        refine a_getR hS (j := 2) dX11_shift_55 flX11_96 (sA1 hW) rfl ?_
        refine a_iload_n hS dX11_shift_58 rfl ?_
        refine a_iload_n hS dX11_shift_59 rfl ?_
        refine a_iload_n hS dX11_shift_60 rfl ?_
        refine a_callVi hS (rst := []) (c_Lin_move hW a0 a1 a2 q4.2 ) miX3_move mlX11_167 (sA2 hW) rfl rfl (Nat.le_of_ble_eq_true rfl) (Nat.le_of_ble_eq_true rfl) (Nat.le_of_ble_eq_true rfl) rfl dX11_shift_61 (fun q5 => ?_)
        exact a_iret hS rfl rfl dX11_shift_64
      · refine a_bipush hS dX11_shift_44 rfl ?_
        exact a_iret hS rfl rfl dX11_shift_46
    · refine a_iconst hS dX11_shift_26 ?_
      exact a_iret hS rfl rfl dX11_shift_27
noncomputable def Ai_pin (a0 : Int) (σ : Mem) : Option (Int × Mem) := (Lin_has a0 σ).bind fun q1 => if wr q1.1 = 0 then (some ((-1), q1.2)) else ((Ai_beginChange  q1.2).bind fun q2 => (Row_get 7 a0 q2.2).bind fun q3 => (Row_set 7 a0 (1 - q3.1) q3.2).bind fun q4 => (Row_get 7 a0 q4.2).bind fun q5 => some (q5.1, q5.2))
set_option maxRecDepth 100000 in
set_option maxHeartbeats 4000000 in
theorem c_Ai_pin {l : Launch} {w : Wd} (hW : shp w = ShA) (a0 : Int) (σ : Mem)  : Ctr l w yX11_pin cX11_pin 2 (some .int) (rmN 6 135) 1 [rf w 0, iv a0] σ (Ai_pin a0 σ) := by
  refine met_of (own := RX11) (by decide) rfl rfl rfl (Nat.le_of_ble_eq_true rfl) (fun X x hXl hN hS => ⟨[some (rf w 0), some (iv a0)], ⟨0, rfl⟩, ?_⟩)
  subst hXl
  unfold Ai_pin
  refine a_aload_n hS dX11_pin_0 rfl ?_
  refine a_getR hS (j := 1) dX11_pin_1 flX11_12 (sA0 hW) rfl ?_
  refine a_getR hS (j := 2) dX11_pin_4 flX11_96 (sA1 hW) rfl ?_
  refine a_iload_n hS dX11_pin_7 rfl ?_
  refine a_callVi hS (rst := []) (c_Lin_has hW a0 σ ) miX3_has mlX11_117 (sA2 hW) rfl rfl (Nat.le_of_ble_eq_true rfl) (Nat.le_of_ble_eq_true rfl) (Nat.le_of_ble_eq_true rfl) rfl dX11_pin_8 (fun q1 => ?_)
  refine a_ifne hS rfl  (tgt := 16) dX11_pin_11 (by decide) ?_ ?_
  · refine a_aload_n hS dX11_pin_16 rfl ?_
    refine a_callVv hS (rst := []) (c_Ai_beginChange hW  q1.2 ) miX11_beginChange mlX11_107 (sA0 hW) rfl rfl (Nat.le_of_ble_eq_true rfl) (Nat.le_of_ble_eq_true rfl) (Nat.le_of_ble_eq_true rfl) rfl dX11_pin_17 (fun q2 => ?_)
    refine a_aload_n hS dX11_pin_20 rfl ?_
    refine a_getR hS (j := 1) dX11_pin_21 flX11_12 (sA0 hW) rfl ?_
    refine a_getR hS (j := 2) dX11_pin_24 flX11_96 (sA1 hW) rfl ?_
    refine a_getR hS (j := 7) dX11_pin_27 flX11_171 (sA2 hW) rfl ?_
    refine a_iload_n hS dX11_pin_30 rfl ?_
    refine a_iconst hS dX11_pin_31 ?_
    refine a_aload_n hS dX11_pin_32 rfl ?_
    refine a_getR hS (j := 1) dX11_pin_33 flX11_12 (sA0 hW) rfl ?_
    refine a_getR hS (j := 2) dX11_pin_36 flX11_96 (sA1 hW) rfl ?_
    refine a_getR hS (j := 7) dX11_pin_39 flX11_171 (sA2 hW) rfl ?_
    refine a_iload_n hS dX11_pin_42 rfl ?_
    refine a_callVi hS (rst := [iv 1, iv a0, rf w 7]) (c_Row_get hW 7 a0 q2.2 iRow7) miX5_get mlX11_124 (sA7 hW) rfl rfl (Nat.le_of_ble_eq_true rfl) (Nat.le_of_ble_eq_true rfl) (Nat.le_of_ble_eq_true rfl) rfl dX11_pin_43 (fun q3 => ?_)
    refine a_isub hS dX11_pin_46 ?_
    refine a_callVv hS (rst := []) (c_Row_set hW 7 a0 (1 - q3.1) q3.2 iRow7) miX5_set mlX11_151 (sA7 hW) rfl rfl (Nat.le_of_ble_eq_true rfl) (Nat.le_of_ble_eq_true rfl) (Nat.le_of_ble_eq_true rfl) rfl dX11_pin_47 (fun q4 => ?_)
    refine a_aload_n hS dX11_pin_50 rfl ?_
    refine a_getR hS (j := 1) dX11_pin_51 flX11_12 (sA0 hW) rfl ?_
    refine a_getR hS (j := 2) dX11_pin_54 flX11_96 (sA1 hW) rfl ?_
    refine a_getR hS (j := 7) dX11_pin_57 flX11_171 (sA2 hW) rfl ?_
    refine a_iload_n hS dX11_pin_60 rfl ?_
    refine a_callVi hS (rst := []) (c_Row_get hW 7 a0 q4.2 iRow7) miX5_get mlX11_124 (sA7 hW) rfl rfl (Nat.le_of_ble_eq_true rfl) (Nat.le_of_ble_eq_true rfl) (Nat.le_of_ble_eq_true rfl) rfl dX11_pin_61 (fun q5 => ?_)
    exact a_iret hS rfl rfl dX11_pin_64
  · refine a_iconst hS dX11_pin_14 ?_
    exact a_iret hS rfl rfl dX11_pin_15
noncomputable def Ai_indentAnew (a0 : Int) (o2 : Nat) (a1 : Int) (a2 : Int) (σ : Mem) : Option (Int × Mem) := (Pla_column a0 o2 a1 a2 σ).bind fun q1 => if wr q1.1 = (-9) then (some (0, q1.2)) else ((Row_get 7 a0 q1.2).bind fun q2 => if wr q2.1 = 0 then ((Row_get o2 a0 q2.2).bind fun q3 => if wr q3.1 = wr q1.1 then (some (0, q3.2)) else ((Row_set o2 a0 q1.1 q3.2).bind fun q4 => some (1, q4.2))) else (some (0, q2.2)))
set_option maxRecDepth 100000 in
set_option maxHeartbeats 4000000 in
theorem c_Ai_indentAnew {l : Launch} {w : Wd} (hW : shp w = ShA) (a0 : Int) (o2 : Nat) (a1 : Int) (a2 : Int) (σ : Mem) (h_o2 : isRow o2) : Ctr l w yX11_indentAnew cX11_indentAnew 6 (some .boolean) (rmN 3 70) 1 [rf w 0, iv a0, rf w o2, iv a1, iv a2] σ (Ai_indentAnew a0 o2 a1 a2 σ) := by
  refine met_of (own := RX11) (by decide) rfl rfl rfl (Nat.le_of_ble_eq_true rfl) (fun X x hXl hN hS => ⟨[some (rf w 0), some (iv a0), some (rf w o2), some (iv a1), some (iv a2), none], ⟨1, rfl⟩, ?_⟩)
  subst hXl
  unfold Ai_indentAnew
  refine a_aload_n hS dX11_indentAnew_0 rfl ?_
  refine a_getR hS (j := 327) dX11_indentAnew_1 flX11_67 (sA0 hW) rfl ?_
  refine a_iload_n hS dX11_indentAnew_4 rfl ?_
  refine a_aload_n hS dX11_indentAnew_5 rfl ?_
  refine a_iload_n hS dX11_indentAnew_6 rfl ?_
  refine a_iload hS dX11_indentAnew_7 rfl ?_
  refine a_callVi hS (rst := []) (c_Pla_column hW a0 o2 a1 a2 σ h_o2) miX4_column mlX11_147 (sA327 hW) rfl rfl (Nat.le_of_ble_eq_true rfl) (Nat.le_of_ble_eq_true rfl) (Nat.le_of_ble_eq_true rfl) rfl dX11_indentAnew_9 (fun q1 => ?_)
  refine a_istore hS (L' := [some (rf w 0), some (iv a0), some (rf w o2), some (iv a1), some (iv a2), some (iv q1.1)]) dX11_indentAnew_12 hN (Nat.le_of_ble_eq_true rfl) rfl rfl ?_
  refine a_iload hS dX11_indentAnew_14 rfl ?_
  refine a_bipush hS dX11_indentAnew_16 rfl ?_
  refine a_icmpeq hS rfl (wl (-9) rfl) (tgt := 48) dX11_indentAnew_18 (by decide) ?_ ?_
  · refine a_iconst hS dX11_indentAnew_48 ?_
    exact a_zret hS (by decide) rfl rfl dX11_indentAnew_49
  · refine a_aload_n hS dX11_indentAnew_21 rfl ?_
    refine a_getR hS (j := 1) dX11_indentAnew_22 flX11_12 (sA0 hW) rfl ?_
    refine a_getR hS (j := 2) dX11_indentAnew_25 flX11_96 (sA1 hW) rfl ?_
    refine a_getR hS (j := 7) dX11_indentAnew_28 flX11_171 (sA2 hW) rfl ?_
    refine a_iload_n hS dX11_indentAnew_31 rfl ?_
    refine a_callVi hS (rst := []) (c_Row_get hW 7 a0 q1.2 iRow7) miX5_get mlX11_124 (sA7 hW) rfl rfl (Nat.le_of_ble_eq_true rfl) (Nat.le_of_ble_eq_true rfl) (Nat.le_of_ble_eq_true rfl) rfl dX11_indentAnew_32 (fun q2 => ?_)
    refine a_ifne hS rfl  (tgt := 48) dX11_indentAnew_35 (by decide) ?_ ?_
    · refine a_iconst hS dX11_indentAnew_48 ?_
      exact a_zret hS (by decide) rfl rfl dX11_indentAnew_49
    · refine a_aload_n hS dX11_indentAnew_38 rfl ?_
      refine a_iload_n hS dX11_indentAnew_39 rfl ?_
      refine a_callVi hS (rst := []) (c_Row_get hW o2 a0 q2.2 h_o2) miX5_get mlX11_124 (ssh_Row0 hW h_o2) rfl rfl (Nat.le_of_ble_eq_true rfl) (Nat.le_of_ble_eq_true rfl) (Nat.le_of_ble_eq_true rfl) rfl dX11_indentAnew_40 (fun q3 => ?_)
      refine a_iload hS dX11_indentAnew_43 rfl ?_
      refine a_icmpne hS rfl rfl (tgt := 50) dX11_indentAnew_45 (by decide) ?_ ?_
      · refine a_aload_n hS dX11_indentAnew_50 rfl ?_
        refine a_iload_n hS dX11_indentAnew_51 rfl ?_
        refine a_iload hS dX11_indentAnew_52 rfl ?_
        refine a_callVv hS (rst := []) (c_Row_set hW o2 a0 q1.1 q3.2 h_o2) miX5_set mlX11_151 (ssh_Row0 hW h_o2) rfl rfl (Nat.le_of_ble_eq_true rfl) (Nat.le_of_ble_eq_true rfl) (Nat.le_of_ble_eq_true rfl) rfl dX11_indentAnew_54 (fun q4 => ?_)
        refine a_iconst hS dX11_indentAnew_57 ?_
        exact a_zret hS (by decide) rfl rfl dX11_indentAnew_58
      · refine a_iconst hS dX11_indentAnew_48 ?_
        exact a_zret hS (by decide) rfl rfl dX11_indentAnew_49
noncomputable def Ai_reindent_30b   (r30 : Int → Int → Int → Mem → Option (Int × Mem)) (x2 : Int) (x3 : Int) (x4 : Int) (σ : Mem) : Option (Int × Mem) := if wr x4 < wr x2 then ((Ai_indentAnew x4 3 (σ 1 2) (σ 1 3) σ).bind fun q4 => if wr q4.1 = 0 then (r30 x2 x3 (x4 + 1) q4.2) else (r30 x2 (x3 + 1) (x4 + 1) q4.2)) else (some (x3, σ))
noncomputable def Ai_reindent_30   (n : Nat) : Int → Int → Int → Mem → Option (Int × Mem) := fixN (fun _ _ _ _ => none) (Ai_reindent_30b  ) n
noncomputable def Ai_reindent (a0 : Int) (a1 : Int) (σ : Mem) : Option (Int × Mem) := (Lin_hasRange a0 a1 σ).bind fun q1 => if wr q1.1 = 0 then (some ((-1), q1.2)) else ((Ai_beginChange  q1.2).bind fun q2 => (Ai_study  q2.2).bind fun q3 => Ai_reindent_30 100000 a1 0 a0 q3.2)
set_option maxRecDepth 100000 in
set_option maxHeartbeats 4000000 in
theorem k_Ai_reindent_30 {X : Cx} {w : Wd} {x : Int × Mem} (hS : Std X (rmN 6 148) w cX11_reindent RX11 (some .int)) (hN : cxn X = 5) (hW : shp w = ShA)   : ∀ (n : Nat) (x2 : Int) (x3 : Int) (x4 : Int) (σ : Mem), Sm X (rmN 6 148) w 1 x 30 [some (rf w 0), none, some (iv x2), some (iv x3), some (iv x4)] [] σ (Ai_reindent_30   n x2 x3 x4 σ) := by
  refine fix_ok (P := fun (r30 : Int → Int → Int → Mem → Option (Int × Mem)) => ∀ (x2 : Int) (x3 : Int) (x4 : Int) (σ : Mem), Sm X (rmN 6 148) w 1 x 30 [some (rf w 0), none, some (iv x2), some (iv x3), some (iv x4)] [] σ (r30 x2 x3 x4 σ)) (fun _ _ _ _ => a_none) (fun r30 hr30 => ?_)
  intro x2 x3 x4 σ
  unfold Ai_reindent_30b
  refine a_iload hS dX11_reindent_30 rfl ?_
  refine a_iload_n hS dX11_reindent_32 rfl ?_
  refine a_icmpge hS rfl rfl (tgt := 78) dX11_reindent_33 (by decide) ?_ ?_
  · refine a_iload_n hS dX11_reindent_78 rfl ?_
    exact a_iret hS rfl rfl dX11_reindent_79
  · refine a_aload_n hS dX11_reindent_36 rfl ?_
    refine a_iload hS dX11_reindent_37 rfl ?_
    refine a_aload_n hS dX11_reindent_39 rfl ?_
    refine a_getR hS (j := 1) dX11_reindent_40 flX11_12 (sA0 hW) rfl ?_
    refine a_getR hS (j := 2) dX11_reindent_43 flX11_96 (sA1 hW) rfl ?_
    refine a_getR hS (j := 3) dX11_reindent_46 flX11_121 (sA2 hW) rfl ?_
    refine a_aload_n hS dX11_reindent_49 rfl ?_
    refine a_getR hS (j := 1) dX11_reindent_50 flX11_12 (sA0 hW) rfl ?_
    refine a_getI hS dX11_reindent_53 flX11_141 (sA1 hW) rfl ?_
    refine a_aload_n hS dX11_reindent_56 rfl ?_
    refine a_getR hS (j := 1) dX11_reindent_57 flX11_12 (sA0 hW) rfl ?_
    refine a_getI hS dX11_reindent_60 flX11_144 (sA1 hW) rfl ?_
    refine a_callVi hS (rst := []) (c_Ai_indentAnew hW x4 3 (σ 1 2) (σ 1 3) σ iRow3) miX11_indentAnew mlX11_174 (sA0 hW) rfl rfl (Nat.le_of_ble_eq_true rfl) (Nat.le_of_ble_eq_true rfl) (Nat.le_of_ble_eq_true rfl) rfl dX11_reindent_63 (fun q4 => ?_)
    refine a_ifeq hS rfl  (tgt := 72) dX11_reindent_66 (by decide) ?_ ?_
    · refine a_iinc hS (L' := [some (rf w 0), none, some (iv x2), some (iv x3), some (iv (x4 + 1))]) dX11_reindent_72 rfl hN (Nat.le_of_ble_eq_true rfl) rfl rfl ?_
      refine a_goto hS (tgt := 30) dX11_reindent_75 (by decide) ?_
      exact hr30 x2 x3 (x4 + 1) q4.2
    · refine a_iinc hS (L' := [some (rf w 0), none, some (iv x2), some (iv (x3 + 1)), some (iv x4)]) dX11_reindent_69 rfl hN (Nat.le_of_ble_eq_true rfl) rfl rfl ?_
      refine a_iinc hS (L' := [some (rf w 0), none, some (iv x2), some (iv (x3 + 1)), some (iv (x4 + 1))]) dX11_reindent_72 rfl hN (Nat.le_of_ble_eq_true rfl) rfl rfl ?_
      refine a_goto hS (tgt := 30) dX11_reindent_75 (by decide) ?_
      exact hr30 x2 (x3 + 1) (x4 + 1) q4.2
set_option maxRecDepth 100000 in
set_option maxHeartbeats 4000000 in
theorem c_Ai_reindent {l : Launch} {w : Wd} (hW : shp w = ShA) (a0 : Int) (a1 : Int) (σ : Mem)  : Ctr l w yX11_reindent cX11_reindent 5 (some .int) (rmN 6 148) 1 [rf w 0, iv a0, iv a1] σ (Ai_reindent a0 a1 σ) := by
  refine met_of (own := RX11) (by decide) rfl rfl rfl (Nat.le_of_ble_eq_true rfl) (fun X x hXl hN hS => ⟨[some (rf w 0), some (iv a0), some (iv a1), none, none], ⟨2, rfl⟩, ?_⟩)
  subst hXl
  unfold Ai_reindent
  refine a_aload_n hS dX11_reindent_0 rfl ?_
  refine a_getR hS (j := 1) dX11_reindent_1 flX11_12 (sA0 hW) rfl ?_
  refine a_getR hS (j := 2) dX11_reindent_4 flX11_96 (sA1 hW) rfl ?_
  refine a_iload_n hS dX11_reindent_7 rfl ?_
  refine a_iload_n hS dX11_reindent_8 rfl ?_
  refine a_callVi hS (rst := []) (c_Lin_hasRange hW a0 a1 σ ) miX3_hasRange mlX11_160 (sA2 hW) rfl rfl (Nat.le_of_ble_eq_true rfl) (Nat.le_of_ble_eq_true rfl) (Nat.le_of_ble_eq_true rfl) rfl dX11_reindent_9 (fun q1 => ?_)
  refine a_ifne hS rfl  (tgt := 17) dX11_reindent_12 (by decide) ?_ ?_
  · refine a_aload_n hS dX11_reindent_17 rfl ?_
    refine a_callVv hS (rst := []) (c_Ai_beginChange hW  q1.2 ) miX11_beginChange mlX11_107 (sA0 hW) rfl rfl (Nat.le_of_ble_eq_true rfl) (Nat.le_of_ble_eq_true rfl) (Nat.le_of_ble_eq_true rfl) rfl dX11_reindent_18 (fun q2 => ?_)
    refine a_aload_n hS dX11_reindent_21 rfl ?_
    refine a_callVv hS (rst := []) (c_Ai_study hW  q2.2 ) miX11_study mlX11_138 (sA0 hW) rfl rfl (Nat.le_of_ble_eq_true rfl) (Nat.le_of_ble_eq_true rfl) (Nat.le_of_ble_eq_true rfl) rfl dX11_reindent_22 (fun q3 => ?_)
    refine a_iconst hS dX11_reindent_25 ?_
    refine a_istore_n hS (L' := [some (rf w 0), some (iv a0), some (iv a1), some (iv 0), none]) dX11_reindent_26 hN (Nat.le_of_ble_eq_true rfl) rfl rfl ?_
    refine a_iload_n hS dX11_reindent_27 rfl ?_
    refine a_istore hS (L' := [some (rf w 0), some (iv a0), some (iv a1), some (iv 0), some (iv a0)]) dX11_reindent_28 hN (Nat.le_of_ble_eq_true rfl) rfl rfl ?_
    exact a_live (M := [true, false, true, true, true]) (k_Ai_reindent_30 hS hN hW   100000 a1 0 a0 q3.2) rfl
  · refine a_iconst hS dX11_reindent_15 ?_
    exact a_iret hS rfl rfl dX11_reindent_16
noncomputable def Ai_lines  (σ : Mem) : Option (Int × Mem) := some ((σ 2 0), σ)
set_option maxRecDepth 100000 in
set_option maxHeartbeats 4000000 in
theorem c_Ai_lines {l : Launch} {w : Wd} (hW : shp w = ShA)  (σ : Mem)  : Ctr l w yX11_lines cX11_lines 1 (some .int) (rmN 0 0) 1 [rf w 0] σ (Ai_lines  σ) := by
  refine met_of (own := RX11) (by decide) rfl rfl rfl (Nat.le_of_ble_eq_true rfl) (fun X x hXl hN hS => ⟨[some (rf w 0)], ⟨0, rfl⟩, ?_⟩)
  subst hXl
  unfold Ai_lines
  refine a_aload_n hS dX11_lines_0 rfl ?_
  refine a_getR hS (j := 1) dX11_lines_1 flX11_12 (sA0 hW) rfl ?_
  refine a_getR hS (j := 2) dX11_lines_4 flX11_96 (sA1 hW) rfl ?_
  refine a_getI hS dX11_lines_7 flX11_100 (sA2 hW) rfl ?_
  exact a_iret hS rfl rfl dX11_lines_10
noncomputable def Ai_indentation (a0 : Int) (σ : Mem) : Option (Int × Mem) := (Lin_has a0 σ).bind fun q1 => if wr q1.1 = 0 then (some ((-1), q1.2)) else ((Row_get 3 a0 q1.2).bind fun q2 => some (q2.1, q2.2))
set_option maxRecDepth 100000 in
set_option maxHeartbeats 4000000 in
theorem c_Ai_indentation {l : Launch} {w : Wd} (hW : shp w = ShA) (a0 : Int) (σ : Mem)  : Ctr l w yX11_indentation cX11_indentation 2 (some .int) (rmN 1 21) 1 [rf w 0, iv a0] σ (Ai_indentation a0 σ) := by
  refine met_of (own := RX11) (by decide) rfl rfl rfl (Nat.le_of_ble_eq_true rfl) (fun X x hXl hN hS => ⟨[some (rf w 0), some (iv a0)], ⟨0, rfl⟩, ?_⟩)
  subst hXl
  unfold Ai_indentation
  refine a_aload_n hS dX11_indentation_0 rfl ?_
  refine a_getR hS (j := 1) dX11_indentation_1 flX11_12 (sA0 hW) rfl ?_
  refine a_getR hS (j := 2) dX11_indentation_4 flX11_96 (sA1 hW) rfl ?_
  refine a_iload_n hS dX11_indentation_7 rfl ?_
  refine a_callVi hS (rst := []) (c_Lin_has hW a0 σ ) miX3_has mlX11_117 (sA2 hW) rfl rfl (Nat.le_of_ble_eq_true rfl) (Nat.le_of_ble_eq_true rfl) (Nat.le_of_ble_eq_true rfl) rfl dX11_indentation_8 (fun q1 => ?_)
  refine a_ifeq hS rfl  (tgt := 31) dX11_indentation_11 (by decide) ?_ ?_
  · refine a_iconst hS dX11_indentation_31 ?_
    exact a_iret hS rfl rfl dX11_indentation_32
  · refine a_aload_n hS dX11_indentation_14 rfl ?_
    refine a_getR hS (j := 1) dX11_indentation_15 flX11_12 (sA0 hW) rfl ?_
    refine a_getR hS (j := 2) dX11_indentation_18 flX11_96 (sA1 hW) rfl ?_
    refine a_getR hS (j := 3) dX11_indentation_21 flX11_121 (sA2 hW) rfl ?_
    refine a_iload_n hS dX11_indentation_24 rfl ?_
    refine a_callVi hS (rst := []) (c_Row_get hW 3 a0 q1.2 iRow3) miX5_get mlX11_124 (sA3 hW) rfl rfl (Nat.le_of_ble_eq_true rfl) (Nat.le_of_ble_eq_true rfl) (Nat.le_of_ble_eq_true rfl) rfl dX11_indentation_25 (fun q2 => ?_)
    refine a_goto hS (tgt := 32) dX11_indentation_28 (by decide) ?_
    exact a_iret hS rfl rfl dX11_indentation_32
noncomputable def Ai_length (a0 : Int) (σ : Mem) : Option (Int × Mem) := (Lin_has a0 σ).bind fun q1 => if wr q1.1 = 0 then (some ((-1), q1.2)) else ((Row_get 5 a0 q1.2).bind fun q2 => some (q2.1, q2.2))
set_option maxRecDepth 100000 in
set_option maxHeartbeats 4000000 in
theorem c_Ai_length {l : Launch} {w : Wd} (hW : shp w = ShA) (a0 : Int) (σ : Mem)  : Ctr l w yX11_length cX11_length 2 (some .int) (rmN 1 21) 1 [rf w 0, iv a0] σ (Ai_length a0 σ) := by
  refine met_of (own := RX11) (by decide) rfl rfl rfl (Nat.le_of_ble_eq_true rfl) (fun X x hXl hN hS => ⟨[some (rf w 0), some (iv a0)], ⟨0, rfl⟩, ?_⟩)
  subst hXl
  unfold Ai_length
  refine a_aload_n hS dX11_length_0 rfl ?_
  refine a_getR hS (j := 1) dX11_length_1 flX11_12 (sA0 hW) rfl ?_
  refine a_getR hS (j := 2) dX11_length_4 flX11_96 (sA1 hW) rfl ?_
  refine a_iload_n hS dX11_length_7 rfl ?_
  refine a_callVi hS (rst := []) (c_Lin_has hW a0 σ ) miX3_has mlX11_117 (sA2 hW) rfl rfl (Nat.le_of_ble_eq_true rfl) (Nat.le_of_ble_eq_true rfl) (Nat.le_of_ble_eq_true rfl) rfl dX11_length_8 (fun q1 => ?_)
  refine a_ifeq hS rfl  (tgt := 31) dX11_length_11 (by decide) ?_ ?_
  · refine a_iconst hS dX11_length_31 ?_
    exact a_iret hS rfl rfl dX11_length_32
  · refine a_aload_n hS dX11_length_14 rfl ?_
    refine a_getR hS (j := 1) dX11_length_15 flX11_12 (sA0 hW) rfl ?_
    refine a_getR hS (j := 2) dX11_length_18 flX11_96 (sA1 hW) rfl ?_
    refine a_getR hS (j := 5) dX11_length_21 flX11_131 (sA2 hW) rfl ?_
    refine a_iload_n hS dX11_length_24 rfl ?_
    refine a_callVi hS (rst := []) (c_Row_get hW 5 a0 q1.2 iRow5) miX5_get mlX11_124 (sA5 hW) rfl rfl (Nat.le_of_ble_eq_true rfl) (Nat.le_of_ble_eq_true rfl) (Nat.le_of_ble_eq_true rfl) rfl dX11_length_25 (fun q2 => ?_)
    refine a_goto hS (tgt := 32) dX11_length_28 (by decide) ?_
    exact a_iret hS rfl rfl dX11_length_32
noncomputable def Ai_byteAt (a0 : Int) (a1 : Int) (σ : Mem) : Option (Int × Mem) := (Lin_has a0 σ).bind fun q1 => if wr q1.1 = 0 then (some ((-1), q1.2)) else (if wr a1 < 0 then (some ((-1), q1.2)) else ((Row_get 5 a0 q1.2).bind fun q2 => if wr a1 < wr q2.1 then ((Lin_byteOf a0 a1 q2.2).bind fun q3 => some (q3.1, q3.2)) else (some ((-9), q2.2))))
set_option maxRecDepth 100000 in
set_option maxHeartbeats 4000000 in
theorem c_Ai_byteAt {l : Launch} {w : Wd} (hW : shp w = ShA) (a0 : Int) (a1 : Int) (σ : Mem)  : Ctr l w yX11_byteAt cX11_byteAt 3 (some .int) (rmN 2 43) 1 [rf w 0, iv a0, iv a1] σ (Ai_byteAt a0 a1 σ) := by
  refine met_of (own := RX11) (by decide) rfl rfl rfl (Nat.le_of_ble_eq_true rfl) (fun X x hXl hN hS => ⟨[some (rf w 0), some (iv a0), some (iv a1)], ⟨0, rfl⟩, ?_⟩)
  subst hXl
  unfold Ai_byteAt
  refine a_aload_n hS dX11_byteAt_0 rfl ?_
  refine a_getR hS (j := 1) dX11_byteAt_1 flX11_12 (sA0 hW) rfl ?_
  refine a_getR hS (j := 2) dX11_byteAt_4 flX11_96 (sA1 hW) rfl ?_
  refine a_iload_n hS dX11_byteAt_7 rfl ?_
  refine a_callVi hS (rst := []) (c_Lin_has hW a0 σ ) miX3_has mlX11_117 (sA2 hW) rfl rfl (Nat.le_of_ble_eq_true rfl) (Nat.le_of_ble_eq_true rfl) (Nat.le_of_ble_eq_true rfl) rfl dX11_byteAt_8 (fun q1 => ?_)
  refine a_ifeq hS rfl  (tgt := 18) dX11_byteAt_11 (by decide) ?_ ?_
  · refine a_iconst hS dX11_byteAt_18 ?_
    exact a_iret hS rfl rfl dX11_byteAt_19
  · refine a_iload_n hS dX11_byteAt_14 rfl ?_
    refine a_ifge hS rfl  (tgt := 20) dX11_byteAt_15 (by decide) ?_ ?_
    · refine a_iload_n hS dX11_byteAt_20 rfl ?_
      refine a_aload_n hS dX11_byteAt_21 rfl ?_
      refine a_getR hS (j := 1) dX11_byteAt_22 flX11_12 (sA0 hW) rfl ?_
      refine a_getR hS (j := 2) dX11_byteAt_25 flX11_96 (sA1 hW) rfl ?_
      refine a_getR hS (j := 5) dX11_byteAt_28 flX11_131 (sA2 hW) rfl ?_
      refine a_iload_n hS dX11_byteAt_31 rfl ?_
      refine a_callVi hS (rst := [iv a1]) (c_Row_get hW 5 a0 q1.2 iRow5) miX5_get mlX11_124 (sA5 hW) rfl rfl (Nat.le_of_ble_eq_true rfl) (Nat.le_of_ble_eq_true rfl) (Nat.le_of_ble_eq_true rfl) rfl dX11_byteAt_32 (fun q2 => ?_)
      refine a_icmpge hS rfl rfl (tgt := 53) dX11_byteAt_35 (by decide) ?_ ?_
      · refine a_bipush hS dX11_byteAt_53 rfl ?_
        exact a_iret hS rfl rfl dX11_byteAt_55
      · refine a_aload_n hS dX11_byteAt_38 rfl ?_
        refine a_getR hS (j := 1) dX11_byteAt_39 flX11_12 (sA0 hW) rfl ?_
        refine a_getR hS (j := 2) dX11_byteAt_42 flX11_96 (sA1 hW) rfl ?_
        refine a_iload_n hS dX11_byteAt_45 rfl ?_
        refine a_iload_n hS dX11_byteAt_46 rfl ?_
        refine a_callVi hS (rst := []) (c_Lin_byteOf hW a0 a1 q2.2 ) miX3_byteOf mlX11_178 (sA2 hW) rfl rfl (Nat.le_of_ble_eq_true rfl) (Nat.le_of_ble_eq_true rfl) (Nat.le_of_ble_eq_true rfl) rfl dX11_byteAt_47 (fun q3 => ?_)
        refine a_goto hS (tgt := 55) dX11_byteAt_50 (by decide) ?_
        exact a_iret hS rfl rfl dX11_byteAt_55
    · refine a_iconst hS dX11_byteAt_18 ?_
      exact a_iret hS rfl rfl dX11_byteAt_19
noncomputable def Ai_isProtected (a0 : Int) (σ : Mem) : Option (Int × Mem) := (Lin_has a0 σ).bind fun q1 => if wr q1.1 = 0 then (some ((-1), q1.2)) else ((Ai_study  q1.2).bind fun q2 => (Row_get 300 a0 q2.2).bind fun q3 => some (q3.1, q3.2))
set_option maxRecDepth 100000 in
set_option maxHeartbeats 4000000 in
theorem c_Ai_isProtected {l : Launch} {w : Wd} (hW : shp w = ShA) (a0 : Int) (σ : Mem)  : Ctr l w yX11_isProtected cX11_isProtected 2 (some .int) (rmN 6 148) 1 [rf w 0, iv a0] σ (Ai_isProtected a0 σ) := by
  refine met_of (own := RX11) (by decide) rfl rfl rfl (Nat.le_of_ble_eq_true rfl) (fun X x hXl hN hS => ⟨[some (rf w 0), some (iv a0)], ⟨0, rfl⟩, ?_⟩)
  subst hXl
  unfold Ai_isProtected
  refine a_aload_n hS dX11_isProtected_0 rfl ?_
  refine a_getR hS (j := 1) dX11_isProtected_1 flX11_12 (sA0 hW) rfl ?_
  refine a_getR hS (j := 2) dX11_isProtected_4 flX11_96 (sA1 hW) rfl ?_
  refine a_iload_n hS dX11_isProtected_7 rfl ?_
  refine a_callVi hS (rst := []) (c_Lin_has hW a0 σ ) miX3_has mlX11_117 (sA2 hW) rfl rfl (Nat.le_of_ble_eq_true rfl) (Nat.le_of_ble_eq_true rfl) (Nat.le_of_ble_eq_true rfl) rfl dX11_isProtected_8 (fun q1 => ?_)
  refine a_ifne hS rfl  (tgt := 16) dX11_isProtected_11 (by decide) ?_ ?_
  · refine a_aload_n hS dX11_isProtected_16 rfl ?_
    refine a_callVv hS (rst := []) (c_Ai_study hW  q1.2 ) miX11_study mlX11_138 (sA0 hW) rfl rfl (Nat.le_of_ble_eq_true rfl) (Nat.le_of_ble_eq_true rfl) (Nat.le_of_ble_eq_true rfl) rfl dX11_isProtected_17 (fun q2 => ?_)
    refine a_aload_n hS dX11_isProtected_20 rfl ?_
    refine a_getR hS (j := 289) dX11_isProtected_21 flX11_53 (sA0 hW) rfl ?_
    refine a_getR hS (j := 300) dX11_isProtected_24 flX11_182 (sA289 hW) rfl ?_
    refine a_iload_n hS dX11_isProtected_27 rfl ?_
    refine a_callVi hS (rst := []) (c_Row_get hW 300 a0 q2.2 iRow300) miX5_get mlX11_124 (sA300 hW) rfl rfl (Nat.le_of_ble_eq_true rfl) (Nat.le_of_ble_eq_true rfl) (Nat.le_of_ble_eq_true rfl) rfl dX11_isProtected_28 (fun q3 => ?_)
    exact a_iret hS rfl rfl dX11_isProtected_31
  · refine a_iconst hS dX11_isProtected_14 ?_
    exact a_iret hS rfl rfl dX11_isProtected_15
noncomputable def Ai_isPinned (a0 : Int) (σ : Mem) : Option (Int × Mem) := (Lin_has a0 σ).bind fun q1 => if wr q1.1 = 0 then (some ((-1), q1.2)) else ((Row_get 7 a0 q1.2).bind fun q2 => some (q2.1, q2.2))
set_option maxRecDepth 100000 in
set_option maxHeartbeats 4000000 in
theorem c_Ai_isPinned {l : Launch} {w : Wd} (hW : shp w = ShA) (a0 : Int) (σ : Mem)  : Ctr l w yX11_isPinned cX11_isPinned 2 (some .int) (rmN 1 21) 1 [rf w 0, iv a0] σ (Ai_isPinned a0 σ) := by
  refine met_of (own := RX11) (by decide) rfl rfl rfl (Nat.le_of_ble_eq_true rfl) (fun X x hXl hN hS => ⟨[some (rf w 0), some (iv a0)], ⟨0, rfl⟩, ?_⟩)
  subst hXl
  unfold Ai_isPinned
  refine a_aload_n hS dX11_isPinned_0 rfl ?_
  refine a_getR hS (j := 1) dX11_isPinned_1 flX11_12 (sA0 hW) rfl ?_
  refine a_getR hS (j := 2) dX11_isPinned_4 flX11_96 (sA1 hW) rfl ?_
  refine a_iload_n hS dX11_isPinned_7 rfl ?_
  refine a_callVi hS (rst := []) (c_Lin_has hW a0 σ ) miX3_has mlX11_117 (sA2 hW) rfl rfl (Nat.le_of_ble_eq_true rfl) (Nat.le_of_ble_eq_true rfl) (Nat.le_of_ble_eq_true rfl) rfl dX11_isPinned_8 (fun q1 => ?_)
  refine a_ifeq hS rfl  (tgt := 31) dX11_isPinned_11 (by decide) ?_ ?_
  · refine a_iconst hS dX11_isPinned_31 ?_
    exact a_iret hS rfl rfl dX11_isPinned_32
  · refine a_aload_n hS dX11_isPinned_14 rfl ?_
    refine a_getR hS (j := 1) dX11_isPinned_15 flX11_12 (sA0 hW) rfl ?_
    refine a_getR hS (j := 2) dX11_isPinned_18 flX11_96 (sA1 hW) rfl ?_
    refine a_getR hS (j := 7) dX11_isPinned_21 flX11_171 (sA2 hW) rfl ?_
    refine a_iload_n hS dX11_isPinned_24 rfl ?_
    refine a_callVi hS (rst := []) (c_Row_get hW 7 a0 q1.2 iRow7) miX5_get mlX11_124 (sA7 hW) rfl rfl (Nat.le_of_ble_eq_true rfl) (Nat.le_of_ble_eq_true rfl) (Nat.le_of_ble_eq_true rfl) rfl dX11_isPinned_25 (fun q2 => ?_)
    refine a_goto hS (tgt := 32) dX11_isPinned_28 (by decide) ?_
    exact a_iret hS rfl rfl dX11_isPinned_32
noncomputable def Ai_setStep (a0 : Int) (σ : Mem) : Option (Int × Mem) := (Ai_within a0 1 8 σ).bind fun q1 => if wr q1.1 = 0 then (some ((-1), q1.2)) else ((Ai_beginChange  q1.2).bind fun q2 => letM (upM q2.2 1 2 a0) fun s3 => some ((q1.2 1 2), s3))
set_option maxRecDepth 100000 in
set_option maxHeartbeats 4000000 in
theorem c_Ai_setStep {l : Launch} {w : Wd} (hW : shp w = ShA) (a0 : Int) (σ : Mem)  : Ctr l w yX11_setStep cX11_setStep 3 (some .int) (rmN 6 135) 1 [rf w 0, iv a0] σ (Ai_setStep a0 σ) := by
  refine met_of (own := RX11) (by decide) rfl rfl rfl (Nat.le_of_ble_eq_true rfl) (fun X x hXl hN hS => ⟨[some (rf w 0), some (iv a0), none], ⟨1, rfl⟩, ?_⟩)
  subst hXl
  unfold Ai_setStep
  refine a_iload_n hS dX11_setStep_0 rfl ?_
  refine a_iconst hS dX11_setStep_1 ?_
  refine a_bipush hS dX11_setStep_2 rfl ?_
  refine a_callSi hS (rst := []) (c_Ai_within hW a0 1 8 σ ) msX11_within mlX11_85 rfl (Nat.le_of_ble_eq_true rfl) (Nat.le_of_ble_eq_true rfl) (Nat.le_of_ble_eq_true rfl) rfl dX11_setStep_4 (fun q1 => ?_)
  refine a_ifne hS rfl  (tgt := 12) dX11_setStep_7 (by decide) ?_ ?_
  · refine a_aload_n hS dX11_setStep_12 rfl ?_
    refine a_getR hS (j := 1) dX11_setStep_13 flX11_12 (sA0 hW) rfl ?_
    refine a_getI hS dX11_setStep_16 flX11_141 (sA1 hW) rfl ?_
    refine a_istore_n hS (L' := [some (rf w 0), some (iv a0), some (iv (q1.2 1 2))]) dX11_setStep_19 hN (Nat.le_of_ble_eq_true rfl) rfl rfl ?_
    refine a_aload_n hS dX11_setStep_20 rfl ?_
    refine a_callVv hS (rst := []) (c_Ai_beginChange hW  q1.2 ) miX11_beginChange mlX11_107 (sA0 hW) rfl rfl (Nat.le_of_ble_eq_true rfl) (Nat.le_of_ble_eq_true rfl) (Nat.le_of_ble_eq_true rfl) rfl dX11_setStep_21 (fun q2 => ?_)
    refine a_aload_n hS dX11_setStep_24 rfl ?_
    refine a_getR hS (j := 1) dX11_setStep_25 flX11_12 (sA0 hW) rfl ?_
    refine a_iload_n hS dX11_setStep_28 rfl ?_
    refine a_putI hS dX11_setStep_29 plX11_141 (sA1 hW) rfl ?_
    refine a_letM (fun s3 => ?_)
    refine a_iload_n hS dX11_setStep_32 rfl ?_
    exact a_iret hS rfl rfl dX11_setStep_33
  · refine a_iconst hS dX11_setStep_10 ?_
    exact a_iret hS rfl rfl dX11_setStep_11
noncomputable def Ai_setBase (a0 : Int) (σ : Mem) : Option (Int × Mem) := (Ai_within a0 0 20 σ).bind fun q1 => if wr q1.1 = 0 then (some ((-1), q1.2)) else ((Ai_beginChange  q1.2).bind fun q2 => letM (upM q2.2 1 3 a0) fun s3 => some ((q1.2 1 3), s3))
set_option maxRecDepth 100000 in
set_option maxHeartbeats 4000000 in
theorem c_Ai_setBase {l : Launch} {w : Wd} (hW : shp w = ShA) (a0 : Int) (σ : Mem)  : Ctr l w yX11_setBase cX11_setBase 3 (some .int) (rmN 6 135) 1 [rf w 0, iv a0] σ (Ai_setBase a0 σ) := by
  refine met_of (own := RX11) (by decide) rfl rfl rfl (Nat.le_of_ble_eq_true rfl) (fun X x hXl hN hS => ⟨[some (rf w 0), some (iv a0), none], ⟨1, rfl⟩, ?_⟩)
  subst hXl
  unfold Ai_setBase
  refine a_iload_n hS dX11_setBase_0 rfl ?_
  refine a_iconst hS dX11_setBase_1 ?_
  refine a_bipush hS dX11_setBase_2 rfl ?_
  refine a_callSi hS (rst := []) (c_Ai_within hW a0 0 20 σ ) msX11_within mlX11_85 rfl (Nat.le_of_ble_eq_true rfl) (Nat.le_of_ble_eq_true rfl) (Nat.le_of_ble_eq_true rfl) rfl dX11_setBase_4 (fun q1 => ?_)
  refine a_ifne hS rfl  (tgt := 12) dX11_setBase_7 (by decide) ?_ ?_
  · refine a_aload_n hS dX11_setBase_12 rfl ?_
    refine a_getR hS (j := 1) dX11_setBase_13 flX11_12 (sA0 hW) rfl ?_
    refine a_getI hS dX11_setBase_16 flX11_144 (sA1 hW) rfl ?_
    refine a_istore_n hS (L' := [some (rf w 0), some (iv a0), some (iv (q1.2 1 3))]) dX11_setBase_19 hN (Nat.le_of_ble_eq_true rfl) rfl rfl ?_
    refine a_aload_n hS dX11_setBase_20 rfl ?_
    refine a_callVv hS (rst := []) (c_Ai_beginChange hW  q1.2 ) miX11_beginChange mlX11_107 (sA0 hW) rfl rfl (Nat.le_of_ble_eq_true rfl) (Nat.le_of_ble_eq_true rfl) (Nat.le_of_ble_eq_true rfl) rfl dX11_setBase_21 (fun q2 => ?_)
    refine a_aload_n hS dX11_setBase_24 rfl ?_
    refine a_getR hS (j := 1) dX11_setBase_25 flX11_12 (sA0 hW) rfl ?_
    refine a_iload_n hS dX11_setBase_28 rfl ?_
    refine a_putI hS dX11_setBase_29 plX11_144 (sA1 hW) rfl ?_
    refine a_letM (fun s3 => ?_)
    refine a_iload_n hS dX11_setBase_32 rfl ?_
    exact a_iret hS rfl rfl dX11_setBase_33
  · refine a_iconst hS dX11_setBase_10 ?_
    exact a_iret hS rfl rfl dX11_setBase_11
noncomputable def Ai_setComment (a0 : Int) (σ : Mem) : Option (Int × Mem) := if wr a0 = 0 then ((Ai_beginChange  σ).bind fun q1 => letM (upM q1.2 1 4 a0) fun s2 => some ((σ 1 4), s2)) else ((Ai_canBeginComment a0 σ).bind fun q3 => if wr q3.1 = 0 then (some ((-1), q3.2)) else ((Ai_beginChange  q3.2).bind fun q4 => letM (upM q4.2 1 4 a0) fun s5 => some ((q3.2 1 4), s5)))
set_option maxRecDepth 100000 in
set_option maxHeartbeats 4000000 in
theorem c_Ai_setComment {l : Launch} {w : Wd} (hW : shp w = ShA) (a0 : Int) (σ : Mem)  : Ctr l w yX11_setComment cX11_setComment 3 (some .int) (rmN 6 135) 1 [rf w 0, iv a0] σ (Ai_setComment a0 σ) := by
  refine met_of (own := RX11) (by decide) rfl rfl rfl (Nat.le_of_ble_eq_true rfl) (fun X x hXl hN hS => ⟨[some (rf w 0), some (iv a0), none], ⟨1, rfl⟩, ?_⟩)
  subst hXl
  unfold Ai_setComment
  refine a_iload_n hS dX11_setComment_0 rfl ?_
  refine a_ifeq hS rfl  (tgt := 13) dX11_setComment_1 (by decide) ?_ ?_
  · refine a_aload_n hS dX11_setComment_13 rfl ?_
    refine a_getR hS (j := 1) dX11_setComment_14 flX11_12 (sA0 hW) rfl ?_
    refine a_getI hS dX11_setComment_17 flX11_188 (sA1 hW) rfl ?_
    refine a_istore_n hS (L' := [some (rf w 0), some (iv a0), some (iv (σ 1 4))]) dX11_setComment_20 hN (Nat.le_of_ble_eq_true rfl) rfl rfl ?_
    refine a_aload_n hS dX11_setComment_21 rfl ?_
    refine a_callVv hS (rst := []) (c_Ai_beginChange hW  σ ) miX11_beginChange mlX11_107 (sA0 hW) rfl rfl (Nat.le_of_ble_eq_true rfl) (Nat.le_of_ble_eq_true rfl) (Nat.le_of_ble_eq_true rfl) rfl dX11_setComment_22 (fun q1 => ?_)
    refine a_aload_n hS dX11_setComment_25 rfl ?_
    refine a_getR hS (j := 1) dX11_setComment_26 flX11_12 (sA0 hW) rfl ?_
    refine a_iload_n hS dX11_setComment_29 rfl ?_
    refine a_putI hS dX11_setComment_30 plX11_188 (sA1 hW) rfl ?_
    refine a_letM (fun s2 => ?_)
    refine a_iload_n hS dX11_setComment_33 rfl ?_
    exact a_iret hS rfl rfl dX11_setComment_34
  · refine a_iload_n hS dX11_setComment_4 rfl ?_
    refine a_callSi hS (rst := []) (c_Ai_canBeginComment hW a0 σ ) msX11_canBeginComment mlX11_185 rfl (Nat.le_of_ble_eq_true rfl) (Nat.le_of_ble_eq_true rfl) (Nat.le_of_ble_eq_true rfl) rfl dX11_setComment_5 (fun q3 => ?_)
    refine a_ifne hS rfl  (tgt := 13) dX11_setComment_8 (by decide) ?_ ?_
    · refine a_aload_n hS dX11_setComment_13 rfl ?_
      refine a_getR hS (j := 1) dX11_setComment_14 flX11_12 (sA0 hW) rfl ?_
      refine a_getI hS dX11_setComment_17 flX11_188 (sA1 hW) rfl ?_
      refine a_istore_n hS (L' := [some (rf w 0), some (iv a0), some (iv (q3.2 1 4))]) dX11_setComment_20 hN (Nat.le_of_ble_eq_true rfl) rfl rfl ?_
      refine a_aload_n hS dX11_setComment_21 rfl ?_
      refine a_callVv hS (rst := []) (c_Ai_beginChange hW  q3.2 ) miX11_beginChange mlX11_107 (sA0 hW) rfl rfl (Nat.le_of_ble_eq_true rfl) (Nat.le_of_ble_eq_true rfl) (Nat.le_of_ble_eq_true rfl) rfl dX11_setComment_22 (fun q4 => ?_)
      refine a_aload_n hS dX11_setComment_25 rfl ?_
      refine a_getR hS (j := 1) dX11_setComment_26 flX11_12 (sA0 hW) rfl ?_
      refine a_iload_n hS dX11_setComment_29 rfl ?_
      refine a_putI hS dX11_setComment_30 plX11_188 (sA1 hW) rfl ?_
      refine a_letM (fun s5 => ?_)
      refine a_iload_n hS dX11_setComment_33 rfl ?_
      exact a_iret hS rfl rfl dX11_setComment_34
    · refine a_iconst hS dX11_setComment_11 ?_
      exact a_iret hS rfl rfl dX11_setComment_12
noncomputable def Ai_makeRule_19   (x1 : Int) (x2 : Int) (x3 : Int) (x4 : Int) (y0 : Int) (σ : Mem) : Option (Int × Mem) := (Rul_put x1 x2 x3 x4 σ).bind fun q2 => (Tex_write x1 q2.2).bind fun q3 => some (y0, q3.2)
noncomputable def Ai_makeRule (a0 : Int) (a1 : Int) (a2 : Int) (a3 : Int) (σ : Mem) : Option (Int × Mem) := (Rul_has a0 σ).bind fun q1 => if wr q1.1 = 0 then (Ai_makeRule_19 a0 a1 a2 a3 0 q1.2) else (Ai_makeRule_19 a0 a1 a2 a3 1 q1.2)
set_option maxRecDepth 100000 in
set_option maxHeartbeats 4000000 in
theorem k_Ai_makeRule_19 {X : Cx} {w : Wd} {x : Int × Mem} (hS : Std X (rmN 3 72) w cX11_makeRule RX11 (some .int)) (hN : cxn X = 6) (hW : shp w = ShA)   : ∀ (x1 : Int) (x2 : Int) (x3 : Int) (x4 : Int) (y0 : Int) (σ : Mem), Sm X (rmN 3 72) w 1 x 19 [some (rf w 0), some (iv x1), some (iv x2), some (iv x3), some (iv x4), none] [iv y0] σ (Ai_makeRule_19   x1 x2 x3 x4 y0 σ) := by
  intro x1 x2 x3 x4 y0 σ
  unfold Ai_makeRule_19
  refine a_istore hS (L' := [some (rf w 0), some (iv x1), some (iv x2), some (iv x3), some (iv x4), some (iv y0)]) dX11_makeRule_19 hN (Nat.le_of_ble_eq_true rfl) rfl rfl ?_
  refine a_aload_n hS dX11_makeRule_21 rfl ?_
  refine a_getR hS (j := 1) dX11_makeRule_22 flX11_12 (sA0 hW) rfl ?_
  refine a_getR hS (j := 11) dX11_makeRule_25 flX11_202 (sA1 hW) rfl ?_
  refine a_iload_n hS dX11_makeRule_28 rfl ?_
  refine a_iload_n hS dX11_makeRule_29 rfl ?_
  refine a_iload_n hS dX11_makeRule_30 rfl ?_
  refine a_iload hS dX11_makeRule_31 rfl ?_
  refine a_callVv hS (rst := []) (c_Rul_put hW x1 x2 x3 x4 σ ) miX7_put mlX11_356 (sA11 hW) rfl rfl (Nat.le_of_ble_eq_true rfl) (Nat.le_of_ble_eq_true rfl) (Nat.le_of_ble_eq_true rfl) rfl dX11_makeRule_33 (fun q2 => ?_)
  refine a_aload_n hS dX11_makeRule_36 rfl ?_
  refine a_getR hS (j := 29) dX11_makeRule_37 flX11_26 (sA0 hW) rfl ?_
  refine a_aload_n hS dX11_makeRule_40 rfl ?_
  refine a_getR hS (j := 26) dX11_makeRule_41 flX11_19 (sA0 hW) rfl ?_
  refine a_aload_n hS dX11_makeRule_44 rfl ?_
  refine a_getR hS (j := 1) dX11_makeRule_45 flX11_12 (sA0 hW) rfl ?_
  refine a_getR hS (j := 11) dX11_makeRule_48 flX11_202 (sA1 hW) rfl ?_
  refine a_iload_n hS dX11_makeRule_51 rfl ?_
  refine a_callVv hS (rst := []) (c_Tex_write hW x1 q2.2 ) miX6_write mlX11_360 (sA29 hW) rfl rfl (Nat.le_of_ble_eq_true rfl) (Nat.le_of_ble_eq_true rfl) (Nat.le_of_ble_eq_true rfl) rfl dX11_makeRule_52 (fun q3 => ?_)
  refine a_iload hS dX11_makeRule_55 rfl ?_
  exact a_iret hS rfl rfl dX11_makeRule_57
set_option maxRecDepth 100000 in
set_option maxHeartbeats 4000000 in
theorem c_Ai_makeRule {l : Launch} {w : Wd} (hW : shp w = ShA) (a0 : Int) (a1 : Int) (a2 : Int) (a3 : Int) (σ : Mem)  : Ctr l w yX11_makeRule cX11_makeRule 6 (some .int) (rmN 3 72) 1 [rf w 0, iv a0, iv a1, iv a2, iv a3] σ (Ai_makeRule a0 a1 a2 a3 σ) := by
  refine met_of (own := RX11) (by decide) rfl rfl rfl (Nat.le_of_ble_eq_true rfl) (fun X x hXl hN hS => ⟨[some (rf w 0), some (iv a0), some (iv a1), some (iv a2), some (iv a3), none], ⟨1, rfl⟩, ?_⟩)
  subst hXl
  unfold Ai_makeRule
  refine a_aload_n hS dX11_makeRule_0 rfl ?_
  refine a_getR hS (j := 1) dX11_makeRule_1 flX11_12 (sA0 hW) rfl ?_
  refine a_getR hS (j := 11) dX11_makeRule_4 flX11_202 (sA1 hW) rfl ?_
  refine a_iload_n hS dX11_makeRule_7 rfl ?_
  refine a_callVi hS (rst := []) (c_Rul_has hW a0 σ ) miX7_has mlX11_217 (sA11 hW) rfl rfl (Nat.le_of_ble_eq_true rfl) (Nat.le_of_ble_eq_true rfl) (Nat.le_of_ble_eq_true rfl) rfl dX11_makeRule_8 (fun q1 => ?_)
  refine a_ifeq hS rfl  (tgt := 18) dX11_makeRule_11 (by decide) ?_ ?_
  · refine a_iconst hS dX11_makeRule_18 ?_
    exact k_Ai_makeRule_19 hS hN hW   a0 a1 a2 a3 0 q1.2
  · refine a_iconst hS dX11_makeRule_14 ?_
    refine a_goto hS (tgt := 19) dX11_makeRule_15 (by decide) ?_
    exact k_Ai_makeRule_19 hS hN hW   a0 a1 a2 a3 1 q1.2
noncomputable def Ai_pair (a0 : Int) (a1 : Int) (a2 : Int) (a3 : Int) (a4 : Int) (σ : Mem) : Option (Int × Mem) := (Ai_isRuleNumber a0 σ).bind fun q1 => if wr q1.1 = 0 then (some ((-1), q1.2)) else ((Ai_within a1 0 9 q1.2).bind fun q2 => if wr q2.1 = 0 then (some ((-1), q2.2)) else ((Ai_within a2 0 4 q2.2).bind fun q3 => if wr q3.1 = 0 then (some ((-1), q3.2)) else ((Ai_within a3 0 1 q3.2).bind fun q4 => if wr q4.1 = 0 then (some ((-1), q4.2)) else ((Ai_within a4 0 2 q4.2).bind fun q5 => if wr q5.1 = 0 then (some ((-1), q5.2)) else ((Tex_find 2 q5.2).bind fun q6 => if wr q6.1 = 0 then ((Ai_beginChange  q6.2).bind fun q7 => (Ai_makeRule a0 1 a1 a2 q7.2).bind fun q8 => (Row_set 18 a0 a3 q8.2).bind fun q9 => (Row_set 20 a0 a4 q9.2).bind fun q10 => some (q8.1, q10.2)) else (some (q6.1, q6.2)))))))
set_option maxRecDepth 100000 in
set_option maxHeartbeats 4000000 in
theorem c_Ai_pair {l : Launch} {w : Wd} (hW : shp w = ShA) (a0 : Int) (a1 : Int) (a2 : Int) (a3 : Int) (a4 : Int) (σ : Mem)  : Ctr l w yX11_pair cX11_pair 8 (some .int) (rmN 6 135) 1 [rf w 0, iv a0, iv a1, iv a2, iv a3, iv a4] σ (Ai_pair a0 a1 a2 a3 a4 σ) := by
  refine met_of (own := RX11) (by decide) rfl rfl rfl (Nat.le_of_ble_eq_true rfl) (fun X x hXl hN hS => ⟨[some (rf w 0), some (iv a0), some (iv a1), some (iv a2), some (iv a3), some (iv a4), none, none], ⟨2, rfl⟩, ?_⟩)
  subst hXl
  unfold Ai_pair
  refine a_iload_n hS dX11_pair_0 rfl ?_
  refine a_callSi hS (rst := []) (c_Ai_isRuleNumber hW a0 σ ) msX11_isRuleNumber mlX11_191 rfl (Nat.le_of_ble_eq_true rfl) (Nat.le_of_ble_eq_true rfl) (Nat.le_of_ble_eq_true rfl) rfl dX11_pair_1 (fun q1 => ?_)
  refine a_ifeq hS rfl  (tgt := 46) dX11_pair_4 (by decide) ?_ ?_
  · refine a_iconst hS dX11_pair_46 ?_
    exact a_iret hS rfl rfl dX11_pair_47
  · refine a_iload_n hS dX11_pair_7 rfl ?_
    refine a_iconst hS dX11_pair_8 ?_
    refine a_bipush hS dX11_pair_9 rfl ?_
    refine a_callSi hS (rst := []) (c_Ai_within hW a1 0 9 q1.2 ) msX11_within mlX11_85 rfl (Nat.le_of_ble_eq_true rfl) (Nat.le_of_ble_eq_true rfl) (Nat.le_of_ble_eq_true rfl) rfl dX11_pair_11 (fun q2 => ?_)
    refine a_ifeq hS rfl  (tgt := 46) dX11_pair_14 (by decide) ?_ ?_
    · refine a_iconst hS dX11_pair_46 ?_
      exact a_iret hS rfl rfl dX11_pair_47
    · refine a_iload_n hS dX11_pair_17 rfl ?_
      refine a_iconst hS dX11_pair_18 ?_
      refine a_iconst hS dX11_pair_19 ?_
      refine a_callSi hS (rst := []) (c_Ai_within hW a2 0 4 q2.2 ) msX11_within mlX11_85 rfl (Nat.le_of_ble_eq_true rfl) (Nat.le_of_ble_eq_true rfl) (Nat.le_of_ble_eq_true rfl) rfl dX11_pair_20 (fun q3 => ?_)
      refine a_ifeq hS rfl  (tgt := 46) dX11_pair_23 (by decide) ?_ ?_
      · refine a_iconst hS dX11_pair_46 ?_
        exact a_iret hS rfl rfl dX11_pair_47
      · refine a_iload hS dX11_pair_26 rfl ?_
        refine a_iconst hS dX11_pair_28 ?_
        refine a_iconst hS dX11_pair_29 ?_
        refine a_callSi hS (rst := []) (c_Ai_within hW a3 0 1 q3.2 ) msX11_within mlX11_85 rfl (Nat.le_of_ble_eq_true rfl) (Nat.le_of_ble_eq_true rfl) (Nat.le_of_ble_eq_true rfl) rfl dX11_pair_30 (fun q4 => ?_)
        refine a_ifeq hS rfl  (tgt := 46) dX11_pair_33 (by decide) ?_ ?_
        · refine a_iconst hS dX11_pair_46 ?_
          exact a_iret hS rfl rfl dX11_pair_47
        · refine a_iload hS dX11_pair_36 rfl ?_
          refine a_iconst hS dX11_pair_38 ?_
          refine a_iconst hS dX11_pair_39 ?_
          refine a_callSi hS (rst := []) (c_Ai_within hW a4 0 2 q4.2 ) msX11_within mlX11_85 rfl (Nat.le_of_ble_eq_true rfl) (Nat.le_of_ble_eq_true rfl) (Nat.le_of_ble_eq_true rfl) rfl dX11_pair_40 (fun q5 => ?_)
          refine a_ifne hS rfl  (tgt := 48) dX11_pair_43 (by decide) ?_ ?_
          · refine a_aload_n hS dX11_pair_48 rfl ?_
            refine a_getR hS (j := 29) dX11_pair_49 flX11_26 (sA0 hW) rfl ?_
            refine a_aload_n hS dX11_pair_52 rfl ?_
            refine a_getR hS (j := 26) dX11_pair_53 flX11_19 (sA0 hW) rfl ?_
            refine a_iconst hS dX11_pair_56 ?_
            refine a_callVi hS (rst := []) (c_Tex_find hW 2 q5.2 ) miX6_find mlX11_194 (sA29 hW) rfl rfl (Nat.le_of_ble_eq_true rfl) (Nat.le_of_ble_eq_true rfl) (Nat.le_of_ble_eq_true rfl) rfl dX11_pair_57 (fun q6 => ?_)
            refine a_istore hS (L' := [some (rf w 0), some (iv a0), some (iv a1), some (iv a2), some (iv a3), some (iv a4), some (iv q6.1), none]) dX11_pair_60 hN (Nat.le_of_ble_eq_true rfl) rfl rfl ?_
            refine a_iload hS dX11_pair_62 rfl ?_
            refine a_ifeq hS rfl  (tgt := 70) dX11_pair_64 (by decide) ?_ ?_
            · refine a_aload_n hS dX11_pair_70 rfl ?_
              refine a_callVv hS (rst := []) (c_Ai_beginChange hW  q6.2 ) miX11_beginChange mlX11_107 (sA0 hW) rfl rfl (Nat.le_of_ble_eq_true rfl) (Nat.le_of_ble_eq_true rfl) (Nat.le_of_ble_eq_true rfl) rfl dX11_pair_71 (fun q7 => ?_)
              refine a_aload_n hS dX11_pair_74 rfl ?_
              refine a_iload_n hS dX11_pair_75 rfl ?_
              refine a_iconst hS dX11_pair_76 ?_
              refine a_iload_n hS dX11_pair_77 rfl ?_
              refine a_iload_n hS dX11_pair_78 rfl ?_
              refine a_callVi hS (rst := []) (c_Ai_makeRule hW a0 1 a1 a2 q7.2 ) miX11_makeRule mlX11_198 (sA0 hW) rfl rfl (Nat.le_of_ble_eq_true rfl) (Nat.le_of_ble_eq_true rfl) (Nat.le_of_ble_eq_true rfl) rfl dX11_pair_79 (fun q8 => ?_)
              refine a_istore hS (L' := [some (rf w 0), some (iv a0), some (iv a1), some (iv a2), some (iv a3), some (iv a4), some (iv q6.1), some (iv q8.1)]) dX11_pair_82 hN (Nat.le_of_ble_eq_true rfl) rfl rfl ?_
              refine a_aload_n hS dX11_pair_84 rfl ?_
              refine a_getR hS (j := 1) dX11_pair_85 flX11_12 (sA0 hW) rfl ?_
              refine a_getR hS (j := 11) dX11_pair_88 flX11_202 (sA1 hW) rfl ?_
              refine a_getR hS (j := 18) dX11_pair_91 flX11_206 (sA11 hW) rfl ?_
              refine a_iload_n hS dX11_pair_94 rfl ?_
              refine a_iload hS dX11_pair_95 rfl ?_
              refine a_callVv hS (rst := []) (c_Row_set hW 18 a0 a3 q8.2 iRow18) miX5_set mlX11_151 (sA18 hW) rfl rfl (Nat.le_of_ble_eq_true rfl) (Nat.le_of_ble_eq_true rfl) (Nat.le_of_ble_eq_true rfl) rfl dX11_pair_97 (fun q9 => ?_)
              refine a_aload_n hS dX11_pair_100 rfl ?_
              refine a_getR hS (j := 1) dX11_pair_101 flX11_12 (sA0 hW) rfl ?_
              refine a_getR hS (j := 11) dX11_pair_104 flX11_202 (sA1 hW) rfl ?_
              refine a_getR hS (j := 20) dX11_pair_107 flX11_211 (sA11 hW) rfl ?_
              refine a_iload_n hS dX11_pair_110 rfl ?_
              refine a_iload hS dX11_pair_111 rfl ?_
              refine a_callVv hS (rst := []) (c_Row_set hW 20 a0 a4 q9.2 iRow20) miX5_set mlX11_151 (sA20 hW) rfl rfl (Nat.le_of_ble_eq_true rfl) (Nat.le_of_ble_eq_true rfl) (Nat.le_of_ble_eq_true rfl) rfl dX11_pair_113 (fun q10 => ?_)
              refine a_iload hS dX11_pair_116 rfl ?_
              exact a_iret hS rfl rfl dX11_pair_118
            · refine a_iload hS dX11_pair_67 rfl ?_
              exact a_iret hS rfl rfl dX11_pair_69
          · refine a_iconst hS dX11_pair_46 ?_
            exact a_iret hS rfl rfl dX11_pair_47
noncomputable def Ai_refusalOfOneText (a0 : Int) (a1 : Int) (a2 : Int) (σ : Mem) : Option (Int × Mem) := (Ai_isRuleNumber a0 σ).bind fun q1 => if wr q1.1 = 0 then (some ((-1), q1.2)) else ((Ai_within a1 0 9 q1.2).bind fun q2 => if wr q2.1 = 0 then (some ((-1), q2.2)) else ((Ai_within a2 (-4) 4 q2.2).bind fun q3 => if wr q3.1 = 0 then (some ((-1), q3.2)) else ((Tex_find 1 q3.2).bind fun q4 => some (q4.1, q4.2))))
set_option maxRecDepth 100000 in
set_option maxHeartbeats 4000000 in
theorem c_Ai_refusalOfOneText {l : Launch} {w : Wd} (hW : shp w = ShA) (a0 : Int) (a1 : Int) (a2 : Int) (σ : Mem)  : Ctr l w yX11_refusalOfOneText cX11_refusalOfOneText 4 (some .int) (rmN 4 89) 1 [rf w 0, iv a0, iv a1, iv a2] σ (Ai_refusalOfOneText a0 a1 a2 σ) := by
  refine met_of (own := RX11) (by decide) rfl rfl rfl (Nat.le_of_ble_eq_true rfl) (fun X x hXl hN hS => ⟨[some (rf w 0), some (iv a0), some (iv a1), some (iv a2)], ⟨0, rfl⟩, ?_⟩)
  subst hXl
  unfold Ai_refusalOfOneText
  refine a_iload_n hS dX11_refusalOfOneText_0 rfl ?_
  refine a_callSi hS (rst := []) (c_Ai_isRuleNumber hW a0 σ ) msX11_isRuleNumber mlX11_191 rfl (Nat.le_of_ble_eq_true rfl) (Nat.le_of_ble_eq_true rfl) (Nat.le_of_ble_eq_true rfl) rfl dX11_refusalOfOneText_1 (fun q1 => ?_)
  refine a_ifeq hS rfl  (tgt := 27) dX11_refusalOfOneText_4 (by decide) ?_ ?_
  · refine a_iconst hS dX11_refusalOfOneText_27 ?_
    exact a_iret hS rfl rfl dX11_refusalOfOneText_28
  · refine a_iload_n hS dX11_refusalOfOneText_7 rfl ?_
    refine a_iconst hS dX11_refusalOfOneText_8 ?_
    refine a_bipush hS dX11_refusalOfOneText_9 rfl ?_
    refine a_callSi hS (rst := []) (c_Ai_within hW a1 0 9 q1.2 ) msX11_within mlX11_85 rfl (Nat.le_of_ble_eq_true rfl) (Nat.le_of_ble_eq_true rfl) (Nat.le_of_ble_eq_true rfl) rfl dX11_refusalOfOneText_11 (fun q2 => ?_)
    refine a_ifeq hS rfl  (tgt := 27) dX11_refusalOfOneText_14 (by decide) ?_ ?_
    · refine a_iconst hS dX11_refusalOfOneText_27 ?_
      exact a_iret hS rfl rfl dX11_refusalOfOneText_28
    · refine a_iload_n hS dX11_refusalOfOneText_17 rfl ?_
      refine a_bipush hS dX11_refusalOfOneText_18 rfl ?_
      refine a_iconst hS dX11_refusalOfOneText_20 ?_
      refine a_callSi hS (rst := []) (c_Ai_within hW a2 (-4) 4 q2.2 ) msX11_within mlX11_85 rfl (Nat.le_of_ble_eq_true rfl) (Nat.le_of_ble_eq_true rfl) (Nat.le_of_ble_eq_true rfl) rfl dX11_refusalOfOneText_21 (fun q3 => ?_)
      refine a_ifne hS rfl  (tgt := 29) dX11_refusalOfOneText_24 (by decide) ?_ ?_
      · refine a_aload_n hS dX11_refusalOfOneText_29 rfl ?_
        refine a_getR hS (j := 29) dX11_refusalOfOneText_30 flX11_26 (sA0 hW) rfl ?_
        refine a_aload_n hS dX11_refusalOfOneText_33 rfl ?_
        refine a_getR hS (j := 26) dX11_refusalOfOneText_34 flX11_19 (sA0 hW) rfl ?_
        refine a_iconst hS dX11_refusalOfOneText_37 ?_
        refine a_callVi hS (rst := []) (c_Tex_find hW 1 q3.2 ) miX6_find mlX11_194 (sA29 hW) rfl rfl (Nat.le_of_ble_eq_true rfl) (Nat.le_of_ble_eq_true rfl) (Nat.le_of_ble_eq_true rfl) rfl dX11_refusalOfOneText_38 (fun q4 => ?_)
        exact a_iret hS rfl rfl dX11_refusalOfOneText_41
      · refine a_iconst hS dX11_refusalOfOneText_27 ?_
        exact a_iret hS rfl rfl dX11_refusalOfOneText_28
noncomputable def Ai_starter (a0 : Int) (a1 : Int) (a2 : Int) (σ : Mem) : Option (Int × Mem) := (Ai_refusalOfOneText a0 a1 a2 σ).bind fun q1 => if wr q1.1 = 0 then ((Ai_beginChange  q1.2).bind fun q2 => (Ai_makeRule a0 2 a1 a2 q2.2).bind fun q3 => some (q3.1, q3.2)) else (some (q1.1, q1.2))
set_option maxRecDepth 100000 in
set_option maxHeartbeats 4000000 in
theorem c_Ai_starter {l : Launch} {w : Wd} (hW : shp w = ShA) (a0 : Int) (a1 : Int) (a2 : Int) (σ : Mem)  : Ctr l w yX11_starter cX11_starter 5 (some .int) (rmN 6 135) 1 [rf w 0, iv a0, iv a1, iv a2] σ (Ai_starter a0 a1 a2 σ) := by
  refine met_of (own := RX11) (by decide) rfl rfl rfl (Nat.le_of_ble_eq_true rfl) (fun X x hXl hN hS => ⟨[some (rf w 0), some (iv a0), some (iv a1), some (iv a2), none], ⟨1, rfl⟩, ?_⟩)
  subst hXl
  unfold Ai_starter
  refine a_aload_n hS dX11_starter_0 rfl ?_
  refine a_iload_n hS dX11_starter_1 rfl ?_
  refine a_iload_n hS dX11_starter_2 rfl ?_
  refine a_iload_n hS dX11_starter_3 rfl ?_
  refine a_callVi hS (rst := []) (c_Ai_refusalOfOneText hW a0 a1 a2 σ ) miX11_refusalOfOneText mlX11_214 (sA0 hW) rfl rfl (Nat.le_of_ble_eq_true rfl) (Nat.le_of_ble_eq_true rfl) (Nat.le_of_ble_eq_true rfl) rfl dX11_starter_4 (fun q1 => ?_)
  refine a_istore hS (L' := [some (rf w 0), some (iv a0), some (iv a1), some (iv a2), some (iv q1.1)]) dX11_starter_7 hN (Nat.le_of_ble_eq_true rfl) rfl rfl ?_
  refine a_iload hS dX11_starter_9 rfl ?_
  refine a_ifeq hS rfl  (tgt := 17) dX11_starter_11 (by decide) ?_ ?_
  · refine a_aload_n hS dX11_starter_17 rfl ?_
    refine a_callVv hS (rst := []) (c_Ai_beginChange hW  q1.2 ) miX11_beginChange mlX11_107 (sA0 hW) rfl rfl (Nat.le_of_ble_eq_true rfl) (Nat.le_of_ble_eq_true rfl) (Nat.le_of_ble_eq_true rfl) rfl dX11_starter_18 (fun q2 => ?_)
    refine a_aload_n hS dX11_starter_21 rfl ?_
    refine a_iload_n hS dX11_starter_22 rfl ?_
    refine a_iconst hS dX11_starter_23 ?_
    refine a_iload_n hS dX11_starter_24 rfl ?_
    refine a_iload_n hS dX11_starter_25 rfl ?_
    refine a_callVi hS (rst := []) (c_Ai_makeRule hW a0 2 a1 a2 q2.2 ) miX11_makeRule mlX11_198 (sA0 hW) rfl rfl (Nat.le_of_ble_eq_true rfl) (Nat.le_of_ble_eq_true rfl) (Nat.le_of_ble_eq_true rfl) rfl dX11_starter_26 (fun q3 => ?_)
    exact a_iret hS rfl rfl dX11_starter_29
  · refine a_iload hS dX11_starter_14 rfl ?_
    exact a_iret hS rfl rfl dX11_starter_16
noncomputable def Ai_joiner (a0 : Int) (a1 : Int) (a2 : Int) (σ : Mem) : Option (Int × Mem) := (Ai_refusalOfOneText a0 a1 a2 σ).bind fun q1 => if wr q1.1 = 0 then ((Ai_beginChange  q1.2).bind fun q2 => (Ai_makeRule a0 3 a1 a2 q2.2).bind fun q3 => some (q3.1, q3.2)) else (some (q1.1, q1.2))
set_option maxRecDepth 100000 in
set_option maxHeartbeats 4000000 in
theorem c_Ai_joiner {l : Launch} {w : Wd} (hW : shp w = ShA) (a0 : Int) (a1 : Int) (a2 : Int) (σ : Mem)  : Ctr l w yX11_joiner cX11_joiner 5 (some .int) (rmN 6 135) 1 [rf w 0, iv a0, iv a1, iv a2] σ (Ai_joiner a0 a1 a2 σ) := by
  refine met_of (own := RX11) (by decide) rfl rfl rfl (Nat.le_of_ble_eq_true rfl) (fun X x hXl hN hS => ⟨[some (rf w 0), some (iv a0), some (iv a1), some (iv a2), none], ⟨1, rfl⟩, ?_⟩)
  subst hXl
  unfold Ai_joiner
  refine a_aload_n hS dX11_joiner_0 rfl ?_
  refine a_iload_n hS dX11_joiner_1 rfl ?_
  refine a_iload_n hS dX11_joiner_2 rfl ?_
  refine a_iload_n hS dX11_joiner_3 rfl ?_
  refine a_callVi hS (rst := []) (c_Ai_refusalOfOneText hW a0 a1 a2 σ ) miX11_refusalOfOneText mlX11_214 (sA0 hW) rfl rfl (Nat.le_of_ble_eq_true rfl) (Nat.le_of_ble_eq_true rfl) (Nat.le_of_ble_eq_true rfl) rfl dX11_joiner_4 (fun q1 => ?_)
  refine a_istore hS (L' := [some (rf w 0), some (iv a0), some (iv a1), some (iv a2), some (iv q1.1)]) dX11_joiner_7 hN (Nat.le_of_ble_eq_true rfl) rfl rfl ?_
  refine a_iload hS dX11_joiner_9 rfl ?_
  refine a_ifeq hS rfl  (tgt := 17) dX11_joiner_11 (by decide) ?_ ?_
  · refine a_aload_n hS dX11_joiner_17 rfl ?_
    refine a_callVv hS (rst := []) (c_Ai_beginChange hW  q1.2 ) miX11_beginChange mlX11_107 (sA0 hW) rfl rfl (Nat.le_of_ble_eq_true rfl) (Nat.le_of_ble_eq_true rfl) (Nat.le_of_ble_eq_true rfl) rfl dX11_joiner_18 (fun q2 => ?_)
    refine a_aload_n hS dX11_joiner_21 rfl ?_
    refine a_iload_n hS dX11_joiner_22 rfl ?_
    refine a_iconst hS dX11_joiner_23 ?_
    refine a_iload_n hS dX11_joiner_24 rfl ?_
    refine a_iload_n hS dX11_joiner_25 rfl ?_
    refine a_callVi hS (rst := []) (c_Ai_makeRule hW a0 3 a1 a2 q2.2 ) miX11_makeRule mlX11_198 (sA0 hW) rfl rfl (Nat.le_of_ble_eq_true rfl) (Nat.le_of_ble_eq_true rfl) (Nat.le_of_ble_eq_true rfl) rfl dX11_joiner_26 (fun q3 => ?_)
    exact a_iret hS rfl rfl dX11_joiner_29
  · refine a_iload hS dX11_joiner_14 rfl ?_
    exact a_iret hS rfl rfl dX11_joiner_16
noncomputable def Ai_dropRule (a0 : Int) (σ : Mem) : Option (Int × Mem) := (Ai_isRuleNumber a0 σ).bind fun q1 => if wr q1.1 = 0 then (some ((-1), q1.2)) else ((Rul_has a0 q1.2).bind fun q2 => if wr q2.1 = 0 then (some ((-1), q2.2)) else ((Ai_beginChange  q2.2).bind fun q3 => (Row_set 12 a0 0 q3.2).bind fun q4 => (Rul_size  q4.2).bind fun q5 => some (q5.1, q5.2)))
set_option maxRecDepth 100000 in
set_option maxHeartbeats 4000000 in
theorem c_Ai_dropRule {l : Launch} {w : Wd} (hW : shp w = ShA) (a0 : Int) (σ : Mem)  : Ctr l w yX11_dropRule cX11_dropRule 2 (some .int) (rmN 6 135) 1 [rf w 0, iv a0] σ (Ai_dropRule a0 σ) := by
  refine met_of (own := RX11) (by decide) rfl rfl rfl (Nat.le_of_ble_eq_true rfl) (fun X x hXl hN hS => ⟨[some (rf w 0), some (iv a0)], ⟨0, rfl⟩, ?_⟩)
  subst hXl
  unfold Ai_dropRule
  refine a_iload_n hS dX11_dropRule_0 rfl ?_
  refine a_callSi hS (rst := []) (c_Ai_isRuleNumber hW a0 σ ) msX11_isRuleNumber mlX11_191 rfl (Nat.le_of_ble_eq_true rfl) (Nat.le_of_ble_eq_true rfl) (Nat.le_of_ble_eq_true rfl) rfl dX11_dropRule_1 (fun q1 => ?_)
  refine a_ifeq hS rfl  (tgt := 21) dX11_dropRule_4 (by decide) ?_ ?_
  · refine a_iconst hS dX11_dropRule_21 ?_
    exact a_iret hS rfl rfl dX11_dropRule_22
  · refine a_aload_n hS dX11_dropRule_7 rfl ?_
    refine a_getR hS (j := 1) dX11_dropRule_8 flX11_12 (sA0 hW) rfl ?_
    refine a_getR hS (j := 11) dX11_dropRule_11 flX11_202 (sA1 hW) rfl ?_
    refine a_iload_n hS dX11_dropRule_14 rfl ?_
    refine a_callVi hS (rst := []) (c_Rul_has hW a0 q1.2 ) miX7_has mlX11_217 (sA11 hW) rfl rfl (Nat.le_of_ble_eq_true rfl) (Nat.le_of_ble_eq_true rfl) (Nat.le_of_ble_eq_true rfl) rfl dX11_dropRule_15 (fun q2 => ?_)
    refine a_ifne hS rfl  (tgt := 23) dX11_dropRule_18 (by decide) ?_ ?_
    · refine a_aload_n hS dX11_dropRule_23 rfl ?_
      refine a_callVv hS (rst := []) (c_Ai_beginChange hW  q2.2 ) miX11_beginChange mlX11_107 (sA0 hW) rfl rfl (Nat.le_of_ble_eq_true rfl) (Nat.le_of_ble_eq_true rfl) (Nat.le_of_ble_eq_true rfl) rfl dX11_dropRule_24 (fun q3 => ?_)
      refine a_aload_n hS dX11_dropRule_27 rfl ?_
      refine a_getR hS (j := 1) dX11_dropRule_28 flX11_12 (sA0 hW) rfl ?_
      refine a_getR hS (j := 11) dX11_dropRule_31 flX11_202 (sA1 hW) rfl ?_
      refine a_getR hS (j := 12) dX11_dropRule_34 flX11_218 (sA11 hW) rfl ?_
      refine a_iload_n hS dX11_dropRule_37 rfl ?_
      refine a_iconst hS dX11_dropRule_38 ?_
      refine a_callVv hS (rst := []) (c_Row_set hW 12 a0 0 q3.2 iRow12) miX5_set mlX11_151 (sA12 hW) rfl rfl (Nat.le_of_ble_eq_true rfl) (Nat.le_of_ble_eq_true rfl) (Nat.le_of_ble_eq_true rfl) rfl dX11_dropRule_39 (fun q4 => ?_)
      refine a_aload_n hS dX11_dropRule_42 rfl ?_
      refine a_getR hS (j := 1) dX11_dropRule_43 flX11_12 (sA0 hW) rfl ?_
      refine a_getR hS (j := 11) dX11_dropRule_46 flX11_202 (sA1 hW) rfl ?_
      refine a_callVi hS (rst := []) (c_Rul_size hW  q4.2 ) miX7_size mlX11_221 (sA11 hW) rfl rfl (Nat.le_of_ble_eq_true rfl) (Nat.le_of_ble_eq_true rfl) (Nat.le_of_ble_eq_true rfl) rfl dX11_dropRule_49 (fun q5 => ?_)
      exact a_iret hS rfl rfl dX11_dropRule_52
    · refine a_iconst hS dX11_dropRule_21 ?_
      exact a_iret hS rfl rfl dX11_dropRule_22
noncomputable def Ai_wanted (a0 : Int) (σ : Mem) : Option (Int × Mem) := (Lin_has a0 σ).bind fun q1 => if wr q1.1 = 0 then (some ((-1), q1.2)) else ((Ai_study  q1.2).bind fun q2 => (Pla_column a0 3 (q2.2 1 2) (q2.2 1 3) q2.2).bind fun q3 => some (q3.1, q3.2))
set_option maxRecDepth 100000 in
set_option maxHeartbeats 4000000 in
theorem c_Ai_wanted {l : Launch} {w : Wd} (hW : shp w = ShA) (a0 : Int) (σ : Mem)  : Ctr l w yX11_wanted cX11_wanted 2 (some .int) (rmN 6 148) 1 [rf w 0, iv a0] σ (Ai_wanted a0 σ) := by
  refine met_of (own := RX11) (by decide) rfl rfl rfl (Nat.le_of_ble_eq_true rfl) (fun X x hXl hN hS => ⟨[some (rf w 0), some (iv a0)], ⟨0, rfl⟩, ?_⟩)
  subst hXl
  unfold Ai_wanted
  refine a_aload_n hS dX11_wanted_0 rfl ?_
  refine a_getR hS (j := 1) dX11_wanted_1 flX11_12 (sA0 hW) rfl ?_
  refine a_getR hS (j := 2) dX11_wanted_4 flX11_96 (sA1 hW) rfl ?_
  refine a_iload_n hS dX11_wanted_7 rfl ?_
  refine a_callVi hS (rst := []) (c_Lin_has hW a0 σ ) miX3_has mlX11_117 (sA2 hW) rfl rfl (Nat.le_of_ble_eq_true rfl) (Nat.le_of_ble_eq_true rfl) (Nat.le_of_ble_eq_true rfl) rfl dX11_wanted_8 (fun q1 => ?_)
  refine a_ifne hS rfl  (tgt := 16) dX11_wanted_11 (by decide) ?_ ?_
  · refine a_aload_n hS dX11_wanted_16 rfl ?_
    refine a_callVv hS (rst := []) (c_Ai_study hW  q1.2 ) miX11_study mlX11_138 (sA0 hW) rfl rfl (Nat.le_of_ble_eq_true rfl) (Nat.le_of_ble_eq_true rfl) (Nat.le_of_ble_eq_true rfl) rfl dX11_wanted_17 (fun q2 => ?_)
    refine a_aload_n hS dX11_wanted_20 rfl ?_
    refine a_getR hS (j := 327) dX11_wanted_21 flX11_67 (sA0 hW) rfl ?_
    refine a_iload_n hS dX11_wanted_24 rfl ?_
    refine a_aload_n hS dX11_wanted_25 rfl ?_
    refine a_getR hS (j := 1) dX11_wanted_26 flX11_12 (sA0 hW) rfl ?_
    refine a_getR hS (j := 2) dX11_wanted_29 flX11_96 (sA1 hW) rfl ?_
    refine a_getR hS (j := 3) dX11_wanted_32 flX11_121 (sA2 hW) rfl ?_
    refine a_aload_n hS dX11_wanted_35 rfl ?_
    refine a_getR hS (j := 1) dX11_wanted_36 flX11_12 (sA0 hW) rfl ?_
    refine a_getI hS dX11_wanted_39 flX11_141 (sA1 hW) rfl ?_
    refine a_aload_n hS dX11_wanted_42 rfl ?_
    refine a_getR hS (j := 1) dX11_wanted_43 flX11_12 (sA0 hW) rfl ?_
    refine a_getI hS dX11_wanted_46 flX11_144 (sA1 hW) rfl ?_
    refine a_callVi hS (rst := []) (c_Pla_column hW a0 3 (q2.2 1 2) (q2.2 1 3) q2.2 iRow3) miX4_column mlX11_147 (sA327 hW) rfl rfl (Nat.le_of_ble_eq_true rfl) (Nat.le_of_ble_eq_true rfl) (Nat.le_of_ble_eq_true rfl) rfl dX11_wanted_49 (fun q3 => ?_)
    exact a_iret hS rfl rfl dX11_wanted_52
  · refine a_iconst hS dX11_wanted_14 ?_
    exact a_iret hS rfl rfl dX11_wanted_15
noncomputable def Ai_reason (a0 : Int) (σ : Mem) : Option (Int × Mem) := (Lin_has a0 σ).bind fun q1 => if wr q1.1 = 0 then (some ((-1), q1.2)) else ((Ai_study  q1.2).bind fun q2 => (Row_get 328 a0 q2.2).bind fun q3 => some (q3.1, q3.2))
set_option maxRecDepth 100000 in
set_option maxHeartbeats 4000000 in
theorem c_Ai_reason {l : Launch} {w : Wd} (hW : shp w = ShA) (a0 : Int) (σ : Mem)  : Ctr l w yX11_reason cX11_reason 2 (some .int) (rmN 6 148) 1 [rf w 0, iv a0] σ (Ai_reason a0 σ) := by
  refine met_of (own := RX11) (by decide) rfl rfl rfl (Nat.le_of_ble_eq_true rfl) (fun X x hXl hN hS => ⟨[some (rf w 0), some (iv a0)], ⟨0, rfl⟩, ?_⟩)
  subst hXl
  unfold Ai_reason
  refine a_aload_n hS dX11_reason_0 rfl ?_
  refine a_getR hS (j := 1) dX11_reason_1 flX11_12 (sA0 hW) rfl ?_
  refine a_getR hS (j := 2) dX11_reason_4 flX11_96 (sA1 hW) rfl ?_
  refine a_iload_n hS dX11_reason_7 rfl ?_
  refine a_callVi hS (rst := []) (c_Lin_has hW a0 σ ) miX3_has mlX11_117 (sA2 hW) rfl rfl (Nat.le_of_ble_eq_true rfl) (Nat.le_of_ble_eq_true rfl) (Nat.le_of_ble_eq_true rfl) rfl dX11_reason_8 (fun q1 => ?_)
  refine a_ifne hS rfl  (tgt := 16) dX11_reason_11 (by decide) ?_ ?_
  · refine a_aload_n hS dX11_reason_16 rfl ?_
    refine a_callVv hS (rst := []) (c_Ai_study hW  q1.2 ) miX11_study mlX11_138 (sA0 hW) rfl rfl (Nat.le_of_ble_eq_true rfl) (Nat.le_of_ble_eq_true rfl) (Nat.le_of_ble_eq_true rfl) rfl dX11_reason_17 (fun q2 => ?_)
    refine a_aload_n hS dX11_reason_20 rfl ?_
    refine a_getR hS (j := 327) dX11_reason_21 flX11_67 (sA0 hW) rfl ?_
    refine a_getR hS (j := 328) dX11_reason_24 flX11_225 (sA327 hW) rfl ?_
    refine a_iload_n hS dX11_reason_27 rfl ?_
    refine a_callVi hS (rst := []) (c_Row_get hW 328 a0 q2.2 iRow328) miX5_get mlX11_124 (sA328 hW) rfl rfl (Nat.le_of_ble_eq_true rfl) (Nat.le_of_ble_eq_true rfl) (Nat.le_of_ble_eq_true rfl) rfl dX11_reason_28 (fun q3 => ?_)
    exact a_iret hS rfl rfl dX11_reason_31
  · refine a_iconst hS dX11_reason_14 ?_
    exact a_iret hS rfl rfl dX11_reason_15
noncomputable def Ai_decidingRule (a0 : Int) (σ : Mem) : Option (Int × Mem) := (Lin_has a0 σ).bind fun q1 => if wr q1.1 = 0 then (some ((-1), q1.2)) else ((Ai_study  q1.2).bind fun q2 => (Row_get 330 a0 q2.2).bind fun q3 => if wr q3.1 = (-1) then (some ((-9), q3.2)) else (some (q3.1, q3.2)))
set_option maxRecDepth 100000 in
set_option maxHeartbeats 4000000 in
theorem c_Ai_decidingRule {l : Launch} {w : Wd} (hW : shp w = ShA) (a0 : Int) (σ : Mem)  : Ctr l w yX11_decidingRule cX11_decidingRule 3 (some .int) (rmN 6 148) 1 [rf w 0, iv a0] σ (Ai_decidingRule a0 σ) := by
  refine met_of (own := RX11) (by decide) rfl rfl rfl (Nat.le_of_ble_eq_true rfl) (fun X x hXl hN hS => ⟨[some (rf w 0), some (iv a0), none], ⟨1, rfl⟩, ?_⟩)
  subst hXl
  unfold Ai_decidingRule
  refine a_aload_n hS dX11_decidingRule_0 rfl ?_
  refine a_getR hS (j := 1) dX11_decidingRule_1 flX11_12 (sA0 hW) rfl ?_
  refine a_getR hS (j := 2) dX11_decidingRule_4 flX11_96 (sA1 hW) rfl ?_
  refine a_iload_n hS dX11_decidingRule_7 rfl ?_
  refine a_callVi hS (rst := []) (c_Lin_has hW a0 σ ) miX3_has mlX11_117 (sA2 hW) rfl rfl (Nat.le_of_ble_eq_true rfl) (Nat.le_of_ble_eq_true rfl) (Nat.le_of_ble_eq_true rfl) rfl dX11_decidingRule_8 (fun q1 => ?_)
  refine a_ifne hS rfl  (tgt := 16) dX11_decidingRule_11 (by decide) ?_ ?_
  · refine a_aload_n hS dX11_decidingRule_16 rfl ?_
    refine a_callVv hS (rst := []) (c_Ai_study hW  q1.2 ) miX11_study mlX11_138 (sA0 hW) rfl rfl (Nat.le_of_ble_eq_true rfl) (Nat.le_of_ble_eq_true rfl) (Nat.le_of_ble_eq_true rfl) rfl dX11_decidingRule_17 (fun q2 => ?_)
    refine a_aload_n hS dX11_decidingRule_20 rfl ?_
    refine a_getR hS (j := 327) dX11_decidingRule_21 flX11_67 (sA0 hW) rfl ?_
    refine a_getR hS (j := 330) dX11_decidingRule_24 flX11_228 (sA327 hW) rfl ?_
    refine a_iload_n hS dX11_decidingRule_27 rfl ?_
    refine a_callVi hS (rst := []) (c_Row_get hW 330 a0 q2.2 iRow330) miX5_get mlX11_124 (sA330 hW) rfl rfl (Nat.le_of_ble_eq_true rfl) (Nat.le_of_ble_eq_true rfl) (Nat.le_of_ble_eq_true rfl) rfl dX11_decidingRule_28 (fun q3 => ?_)
    refine a_istore_n hS (L' := [some (rf w 0), some (iv a0), some (iv q3.1)]) dX11_decidingRule_31 hN (Nat.le_of_ble_eq_true rfl) rfl rfl ?_
    refine a_iload_n hS dX11_decidingRule_32 rfl ?_
    refine a_iconst hS dX11_decidingRule_33 ?_
    refine a_icmpne hS rfl (wl (-1) rfl) (tgt := 42) dX11_decidingRule_34 (by decide) ?_ ?_
    · refine a_iload_n hS dX11_decidingRule_42 rfl ?_
      exact a_iret hS rfl rfl dX11_decidingRule_43
    · refine a_bipush hS dX11_decidingRule_37 rfl ?_
      refine a_goto hS (tgt := 43) dX11_decidingRule_39 (by decide) ?_
      exact a_iret hS rfl rfl dX11_decidingRule_43
  · refine a_iconst hS dX11_decidingRule_14 ?_
    exact a_iret hS rfl rfl dX11_decidingRule_15
noncomputable def Ai_linesChangedWith_22b   (r22 : Int → Int → Int → Int → Mem → Option (Int × Mem)) (x1 : Int) (x2 : Int) (x3 : Int) (x4 : Int) (σ : Mem) : Option (Int × Mem) := if wr x4 < wr (σ 2 0) then ((Ai_indentAnew x4 345 x1 x2 σ).bind fun q2 => if wr q2.1 = 0 then (r22 x1 x2 x3 (x4 + 1) q2.2) else (r22 x1 x2 (orI x3 (shlI 1 x4)) (x4 + 1) q2.2)) else (some (x3, σ))
noncomputable def Ai_linesChangedWith_22   (n : Nat) : Int → Int → Int → Int → Mem → Option (Int × Mem) := fixN (fun _ _ _ _ _ => none) (Ai_linesChangedWith_22b  ) n
noncomputable def Ai_linesChangedWith (a0 : Int) (a1 : Int) (σ : Mem) : Option (Int × Mem) := (Row_copy 345 3 σ).bind fun q1 => Ai_linesChangedWith_22 100000 a0 a1 0 0 q1.2
set_option maxRecDepth 100000 in
set_option maxHeartbeats 4000000 in
theorem k_Ai_linesChangedWith_22 {X : Cx} {w : Wd} {x : Int × Mem} (hS : Std X (rmN 4 95) w cX11_linesChangedWith RX11 (some .int)) (hN : cxn X = 5) (hW : shp w = ShA)   : ∀ (n : Nat) (x1 : Int) (x2 : Int) (x3 : Int) (x4 : Int) (σ : Mem), Sm X (rmN 4 95) w 1 x 22 [some (rf w 0), some (iv x1), some (iv x2), some (iv x3), some (iv x4)] [] σ (Ai_linesChangedWith_22   n x1 x2 x3 x4 σ) := by
  refine fix_ok (P := fun (r22 : Int → Int → Int → Int → Mem → Option (Int × Mem)) => ∀ (x1 : Int) (x2 : Int) (x3 : Int) (x4 : Int) (σ : Mem), Sm X (rmN 4 95) w 1 x 22 [some (rf w 0), some (iv x1), some (iv x2), some (iv x3), some (iv x4)] [] σ (r22 x1 x2 x3 x4 σ)) (fun _ _ _ _ _ => a_none) (fun r22 hr22 => ?_)
  intro x1 x2 x3 x4 σ
  unfold Ai_linesChangedWith_22b
  refine a_iload hS dX11_linesChangedWith_22 rfl ?_
  refine a_aload_n hS dX11_linesChangedWith_24 rfl ?_
  refine a_getR hS (j := 1) dX11_linesChangedWith_25 flX11_12 (sA0 hW) rfl ?_
  refine a_getR hS (j := 2) dX11_linesChangedWith_28 flX11_96 (sA1 hW) rfl ?_
  refine a_getI hS dX11_linesChangedWith_31 flX11_100 (sA2 hW) rfl ?_
  refine a_icmpge hS rfl rfl (tgt := 65) dX11_linesChangedWith_34 (by decide) ?_ ?_
  · refine a_iload_n hS dX11_linesChangedWith_65 rfl ?_
    exact a_iret hS rfl rfl dX11_linesChangedWith_66
  · refine a_aload_n hS dX11_linesChangedWith_37 rfl ?_
    refine a_iload hS dX11_linesChangedWith_38 rfl ?_
    refine a_aload_n hS dX11_linesChangedWith_40 rfl ?_
    refine a_getR hS (j := 345) dX11_linesChangedWith_41 flX11_78 (sA0 hW) rfl ?_
    refine a_iload_n hS dX11_linesChangedWith_44 rfl ?_
    refine a_iload_n hS dX11_linesChangedWith_45 rfl ?_
    refine a_callVi hS (rst := []) (c_Ai_indentAnew hW x4 345 x1 x2 σ iRow345) miX11_indentAnew mlX11_174 (sA0 hW) rfl rfl (Nat.le_of_ble_eq_true rfl) (Nat.le_of_ble_eq_true rfl) (Nat.le_of_ble_eq_true rfl) rfl dX11_linesChangedWith_46 (fun q2 => ?_)
    refine a_ifeq hS rfl  (tgt := 59) dX11_linesChangedWith_49 (by decide) ?_ ?_
    · refine a_iinc hS (L' := [some (rf w 0), some (iv x1), some (iv x2), some (iv x3), some (iv (x4 + 1))]) dX11_linesChangedWith_59 rfl hN (Nat.le_of_ble_eq_true rfl) rfl rfl ?_
      refine a_goto hS (tgt := 22) dX11_linesChangedWith_62 (by decide) ?_
      exact hr22 x1 x2 x3 (x4 + 1) q2.2
    · refine a_iload_n hS dX11_linesChangedWith_52 rfl ?_
      refine a_iconst hS dX11_linesChangedWith_53 ?_
      refine a_iload hS dX11_linesChangedWith_54 rfl ?_
      refine a_ishl hS dX11_linesChangedWith_56 ?_
      refine a_ior hS dX11_linesChangedWith_57 ?_
      refine a_istore_n hS (L' := [some (rf w 0), some (iv x1), some (iv x2), some (iv (orI x3 (shlI 1 x4))), some (iv x4)]) dX11_linesChangedWith_58 hN (Nat.le_of_ble_eq_true rfl) rfl rfl ?_
      refine a_iinc hS (L' := [some (rf w 0), some (iv x1), some (iv x2), some (iv (orI x3 (shlI 1 x4))), some (iv (x4 + 1))]) dX11_linesChangedWith_59 rfl hN (Nat.le_of_ble_eq_true rfl) rfl rfl ?_
      refine a_goto hS (tgt := 22) dX11_linesChangedWith_62 (by decide) ?_
      exact hr22 x1 x2 (orI x3 (shlI 1 x4)) (x4 + 1) q2.2
set_option maxRecDepth 100000 in
set_option maxHeartbeats 4000000 in
theorem c_Ai_linesChangedWith {l : Launch} {w : Wd} (hW : shp w = ShA) (a0 : Int) (a1 : Int) (σ : Mem)  : Ctr l w yX11_linesChangedWith cX11_linesChangedWith 5 (some .int) (rmN 4 95) 1 [rf w 0, iv a0, iv a1] σ (Ai_linesChangedWith a0 a1 σ) := by
  refine met_of (own := RX11) (by decide) rfl rfl rfl (Nat.le_of_ble_eq_true rfl) (fun X x hXl hN hS => ⟨[some (rf w 0), some (iv a0), some (iv a1), none, none], ⟨2, rfl⟩, ?_⟩)
  subst hXl
  unfold Ai_linesChangedWith
  refine a_aload_n hS dX11_linesChangedWith_0 rfl ?_
  refine a_getR hS (j := 345) dX11_linesChangedWith_1 flX11_78 (sA0 hW) rfl ?_
  refine a_aload_n hS dX11_linesChangedWith_4 rfl ?_
  refine a_getR hS (j := 1) dX11_linesChangedWith_5 flX11_12 (sA0 hW) rfl ?_
  refine a_getR hS (j := 2) dX11_linesChangedWith_8 flX11_96 (sA1 hW) rfl ?_
  refine a_getR hS (j := 3) dX11_linesChangedWith_11 flX11_121 (sA2 hW) rfl ?_
  refine a_callVv hS (rst := []) (c_Row_copy hW 345 3 σ iRow345 iRow3) miX5_copy mlX11_364 (sA345 hW) rfl rfl (Nat.le_of_ble_eq_true rfl) (Nat.le_of_ble_eq_true rfl) (Nat.le_of_ble_eq_true rfl) rfl dX11_linesChangedWith_14 (fun q1 => ?_)
  refine a_iconst hS dX11_linesChangedWith_17 ?_
  refine a_istore_n hS (L' := [some (rf w 0), some (iv a0), some (iv a1), some (iv 0), none]) dX11_linesChangedWith_18 hN (Nat.le_of_ble_eq_true rfl) rfl rfl ?_
  refine a_iconst hS dX11_linesChangedWith_19 ?_
  refine a_istore hS (L' := [some (rf w 0), some (iv a0), some (iv a1), some (iv 0), some (iv 0)]) dX11_linesChangedWith_20 hN (Nat.le_of_ble_eq_true rfl) rfl rfl ?_
  exact k_Ai_linesChangedWith_22 hS hN hW   100000 a0 a1 0 0 q1.2
noncomputable def Ai_wouldChange  (σ : Mem) : Option (Int × Mem) := (Ai_study  σ).bind fun q1 => (Ai_linesChangedWith (q1.2 1 2) (q1.2 1 3) q1.2).bind fun q2 => some (q2.1, q2.2)
set_option maxRecDepth 100000 in
set_option maxHeartbeats 4000000 in
theorem c_Ai_wouldChange {l : Launch} {w : Wd} (hW : shp w = ShA)  (σ : Mem)  : Ctr l w yX11_wouldChange cX11_wouldChange 1 (some .int) (rmN 6 148) 1 [rf w 0] σ (Ai_wouldChange  σ) := by
  refine met_of (own := RX11) (by decide) rfl rfl rfl (Nat.le_of_ble_eq_true rfl) (fun X x hXl hN hS => ⟨[some (rf w 0)], ⟨0, rfl⟩, ?_⟩)
  subst hXl
  unfold Ai_wouldChange
  refine a_aload_n hS dX11_wouldChange_0 rfl ?_
  refine a_callVv hS (rst := []) (c_Ai_study hW  σ ) miX11_study mlX11_138 (sA0 hW) rfl rfl (Nat.le_of_ble_eq_true rfl) (Nat.le_of_ble_eq_true rfl) (Nat.le_of_ble_eq_true rfl) rfl dX11_wouldChange_1 (fun q1 => ?_)
  refine a_aload_n hS dX11_wouldChange_4 rfl ?_
  refine a_aload_n hS dX11_wouldChange_5 rfl ?_
  refine a_getR hS (j := 1) dX11_wouldChange_6 flX11_12 (sA0 hW) rfl ?_
  refine a_getI hS dX11_wouldChange_9 flX11_141 (sA1 hW) rfl ?_
  refine a_aload_n hS dX11_wouldChange_12 rfl ?_
  refine a_getR hS (j := 1) dX11_wouldChange_13 flX11_12 (sA0 hW) rfl ?_
  refine a_getI hS dX11_wouldChange_16 flX11_144 (sA1 hW) rfl ?_
  refine a_callVi hS (rst := []) (c_Ai_linesChangedWith hW (q1.2 1 2) (q1.2 1 3) q1.2 ) miX11_linesChangedWith mlX11_231 (sA0 hW) rfl rfl (Nat.le_of_ble_eq_true rfl) (Nat.le_of_ble_eq_true rfl) (Nat.le_of_ble_eq_true rfl) rfl dX11_wouldChange_19 (fun q2 => ?_)
  exact a_iret hS rfl rfl dX11_wouldChange_22
noncomputable def Ai_changesWith (a0 : Int) (a1 : Int) (σ : Mem) : Option (Int × Mem) := (Ai_within a0 1 8 σ).bind fun q1 => if wr q1.1 = 0 then (some ((-1), q1.2)) else ((Ai_within a1 0 20 q1.2).bind fun q2 => if wr q2.1 = 0 then (some ((-1), q2.2)) else ((Ai_study  q2.2).bind fun q3 => (Ai_linesChangedWith a0 a1 q3.2).bind fun q4 => (Itg_bitCount q4.1 q4.2).bind fun q5 => some (q5.1, q5.2)))
set_option maxRecDepth 100000 in
set_option maxHeartbeats 4000000 in
theorem c_Ai_changesWith {l : Launch} {w : Wd} (hW : shp w = ShA) (a0 : Int) (a1 : Int) (σ : Mem)  : Ctr l w yX11_changesWith cX11_changesWith 3 (some .int) (rmN 6 148) 1 [rf w 0, iv a0, iv a1] σ (Ai_changesWith a0 a1 σ) := by
  refine met_of (own := RX11) (by decide) rfl rfl rfl (Nat.le_of_ble_eq_true rfl) (fun X x hXl hN hS => ⟨[some (rf w 0), some (iv a0), some (iv a1)], ⟨0, rfl⟩, ?_⟩)
  subst hXl
  unfold Ai_changesWith
  refine a_iload_n hS dX11_changesWith_0 rfl ?_
  refine a_iconst hS dX11_changesWith_1 ?_
  refine a_bipush hS dX11_changesWith_2 rfl ?_
  refine a_callSi hS (rst := []) (c_Ai_within hW a0 1 8 σ ) msX11_within mlX11_85 rfl (Nat.le_of_ble_eq_true rfl) (Nat.le_of_ble_eq_true rfl) (Nat.le_of_ble_eq_true rfl) rfl dX11_changesWith_4 (fun q1 => ?_)
  refine a_ifeq hS rfl  (tgt := 20) dX11_changesWith_7 (by decide) ?_ ?_
  · refine a_iconst hS dX11_changesWith_20 ?_
    exact a_iret hS rfl rfl dX11_changesWith_21
  · refine a_iload_n hS dX11_changesWith_10 rfl ?_
    refine a_iconst hS dX11_changesWith_11 ?_
    refine a_bipush hS dX11_changesWith_12 rfl ?_
    refine a_callSi hS (rst := []) (c_Ai_within hW a1 0 20 q1.2 ) msX11_within mlX11_85 rfl (Nat.le_of_ble_eq_true rfl) (Nat.le_of_ble_eq_true rfl) (Nat.le_of_ble_eq_true rfl) rfl dX11_changesWith_14 (fun q2 => ?_)
    refine a_ifne hS rfl  (tgt := 22) dX11_changesWith_17 (by decide) ?_ ?_
    · refine a_aload_n hS dX11_changesWith_22 rfl ?_
      refine a_callVv hS (rst := []) (c_Ai_study hW  q2.2 ) miX11_study mlX11_138 (sA0 hW) rfl rfl (Nat.le_of_ble_eq_true rfl) (Nat.le_of_ble_eq_true rfl) (Nat.le_of_ble_eq_true rfl) rfl dX11_changesWith_23 (fun q3 => ?_)
      refine a_aload_n hS dX11_changesWith_26 rfl ?_
      refine a_iload_n hS dX11_changesWith_27 rfl ?_
      refine a_iload_n hS dX11_changesWith_28 rfl ?_
      refine a_callVi hS (rst := []) (c_Ai_linesChangedWith hW a0 a1 q3.2 ) miX11_linesChangedWith mlX11_231 (sA0 hW) rfl rfl (Nat.le_of_ble_eq_true rfl) (Nat.le_of_ble_eq_true rfl) (Nat.le_of_ble_eq_true rfl) rfl dX11_changesWith_29 (fun q4 => ?_)
      refine a_callSi hS (rst := []) (c_Itg_bitCount hW q4.1 q4.2 ) msJ6_bitCount_0f7a4 mlX11_234 rfl (Nat.le_of_ble_eq_true rfl) (Nat.le_of_ble_eq_true rfl) (Nat.le_of_ble_eq_true rfl) rfl dX11_changesWith_32 (fun q5 => ?_)
      exact a_iret hS rfl rfl dX11_changesWith_35
    · refine a_iconst hS dX11_changesWith_20 ?_
      exact a_iret hS rfl rfl dX11_changesWith_21
noncomputable def Ai_findBestSetting_16b (r7 : Int → Int → Int → Mem → Option (Int × Mem))  (r16 : Int → Int → Int → Int → Mem → Option (Int × Mem)) (x1 : Int) (x2 : Int) (x3 : Int) (x4 : Int) (σ : Mem) : Option (Int × Mem) := if 20 < wr x4 then (r7 x1 x2 (x3 + 1) σ) else ((Ai_linesChangedWith x3 x4 σ).bind fun q1 => (Itg_bitCount q1.1 q1.2).bind fun q2 => if wr q2.1 < wr x2 then (r16 ((x3 * 100) + x4) q2.1 x3 (x4 + 1) q2.2) else (r16 x1 x2 x3 (x4 + 1) q2.2))
noncomputable def Ai_findBestSetting_16 (r7 : Int → Int → Int → Mem → Option (Int × Mem))  (n : Nat) : Int → Int → Int → Int → Mem → Option (Int × Mem) := fixN (fun _ _ _ _ _ => none) (Ai_findBestSetting_16b r7 ) n
noncomputable def Ai_findBestSetting_7b   (r7 : Int → Int → Int → Mem → Option (Int × Mem)) (x1 : Int) (x2 : Int) (x3 : Int) (σ : Mem) : Option (Int × Mem) := if 8 < wr x3 then (some (x1, σ)) else (Ai_findBestSetting_16 r7 100000 x1 x2 x3 0 σ)
noncomputable def Ai_findBestSetting_7   (n : Nat) : Int → Int → Int → Mem → Option (Int × Mem) := fixN (fun _ _ _ _ => none) (Ai_findBestSetting_7b  ) n
noncomputable def Ai_findBestSetting  (σ : Mem) : Option (Int × Mem) := Ai_findBestSetting_7 100000 0 21 1 σ
set_option maxRecDepth 100000 in
set_option maxHeartbeats 4000000 in
theorem k_Ai_findBestSetting_16 {X : Cx} {w : Wd} {x : Int × Mem} (hS : Std X (rmN 5 119) w cX11_findBestSetting RX11 (some .int)) (hN : cxn X = 6) (hW : shp w = ShA)  (r7 : Int → Int → Int → Mem → Option (Int × Mem)) (hr7 : ∀ (x1 : Int) (x2 : Int) (x3 : Int) (σ : Mem), Sm X (rmN 5 119) w 1 x 7 [some (rf w 0), some (iv x1), some (iv x2), some (iv x3), none, none] [] σ (r7 x1 x2 x3 σ)) : ∀ (n : Nat) (x1 : Int) (x2 : Int) (x3 : Int) (x4 : Int) (σ : Mem), Sm X (rmN 5 119) w 1 x 16 [some (rf w 0), some (iv x1), some (iv x2), some (iv x3), some (iv x4), none] [] σ (Ai_findBestSetting_16 r7  n x1 x2 x3 x4 σ) := by
  refine fix_ok (P := fun (r16 : Int → Int → Int → Int → Mem → Option (Int × Mem)) => ∀ (x1 : Int) (x2 : Int) (x3 : Int) (x4 : Int) (σ : Mem), Sm X (rmN 5 119) w 1 x 16 [some (rf w 0), some (iv x1), some (iv x2), some (iv x3), some (iv x4), none] [] σ (r16 x1 x2 x3 x4 σ)) (fun _ _ _ _ _ => a_none) (fun r16 hr16 => ?_)
  intro x1 x2 x3 x4 σ
  unfold Ai_findBestSetting_16b
  refine a_iload hS dX11_findBestSetting_16 rfl ?_
  refine a_bipush hS dX11_findBestSetting_18 rfl ?_
  refine a_icmpgt hS rfl (wl 20 rfl) (tgt := 58) dX11_findBestSetting_20 (by decide) ?_ ?_
  · refine a_iinc hS (L' := [some (rf w 0), some (iv x1), some (iv x2), some (iv (x3 + 1)), some (iv x4), none]) dX11_findBestSetting_58 rfl hN (Nat.le_of_ble_eq_true rfl) rfl rfl ?_
    refine a_goto hS (tgt := 7) dX11_findBestSetting_61 (by decide) ?_
    exact a_live (M := [true, true, true, true, false, false]) (hr7 x1 x2 (x3 + 1) σ) rfl
  · refine a_aload_n hS dX11_findBestSetting_23 rfl ?_
    refine a_iload_n hS dX11_findBestSetting_24 rfl ?_
    refine a_iload hS dX11_findBestSetting_25 rfl ?_
    refine a_callVi hS (rst := []) (c_Ai_linesChangedWith hW x3 x4 σ ) miX11_linesChangedWith mlX11_231 (sA0 hW) rfl rfl (Nat.le_of_ble_eq_true rfl) (Nat.le_of_ble_eq_true rfl) (Nat.le_of_ble_eq_true rfl) rfl dX11_findBestSetting_27 (fun q1 => ?_)
    refine a_callSi hS (rst := []) (c_Itg_bitCount hW q1.1 q1.2 ) msJ6_bitCount_0f7a4 mlX11_234 rfl (Nat.le_of_ble_eq_true rfl) (Nat.le_of_ble_eq_true rfl) (Nat.le_of_ble_eq_true rfl) rfl dX11_findBestSetting_30 (fun q2 => ?_)
    refine a_istore hS (L' := [some (rf w 0), some (iv x1), some (iv x2), some (iv x3), some (iv x4), some (iv q2.1)]) dX11_findBestSetting_33 hN (Nat.le_of_ble_eq_true rfl) rfl rfl ?_
    refine a_iload hS dX11_findBestSetting_35 rfl ?_
    refine a_iload_n hS dX11_findBestSetting_37 rfl ?_
    refine a_icmpge hS rfl rfl (tgt := 52) dX11_findBestSetting_38 (by decide) ?_ ?_
    · refine a_iinc hS (L' := [some (rf w 0), some (iv x1), some (iv x2), some (iv x3), some (iv (x4 + 1)), some (iv q2.1)]) dX11_findBestSetting_52 rfl hN (Nat.le_of_ble_eq_true rfl) rfl rfl ?_
      refine a_goto hS (tgt := 16) dX11_findBestSetting_55 (by decide) ?_
      exact a_live (M := [true, true, true, true, true, false]) (hr16 x1 x2 x3 (x4 + 1) q2.2) rfl
    · refine a_iload hS dX11_findBestSetting_41 rfl ?_
      refine a_istore_n hS (L' := [some (rf w 0), some (iv x1), some (iv q2.1), some (iv x3), some (iv x4), some (iv q2.1)]) dX11_findBestSetting_43 hN (Nat.le_of_ble_eq_true rfl) rfl rfl ?_
      refine a_iload_n hS dX11_findBestSetting_44 rfl ?_
      refine a_bipush hS dX11_findBestSetting_45 rfl ?_
      refine a_imul hS dX11_findBestSetting_47 ?_
      refine a_iload hS dX11_findBestSetting_48 rfl ?_
      refine a_iadd hS dX11_findBestSetting_50 ?_
      refine a_istore_n hS (L' := [some (rf w 0), some (iv ((x3 * 100) + x4)), some (iv q2.1), some (iv x3), some (iv x4), some (iv q2.1)]) dX11_findBestSetting_51 hN (Nat.le_of_ble_eq_true rfl) rfl rfl ?_
      refine a_iinc hS (L' := [some (rf w 0), some (iv ((x3 * 100) + x4)), some (iv q2.1), some (iv x3), some (iv (x4 + 1)), some (iv q2.1)]) dX11_findBestSetting_52 rfl hN (Nat.le_of_ble_eq_true rfl) rfl rfl ?_
      refine a_goto hS (tgt := 16) dX11_findBestSetting_55 (by decide) ?_
      exact a_live (M := [true, true, true, true, true, false]) (hr16 ((x3 * 100) + x4) q2.1 x3 (x4 + 1) q2.2) rfl
set_option maxRecDepth 100000 in
set_option maxHeartbeats 4000000 in
theorem k_Ai_findBestSetting_7 {X : Cx} {w : Wd} {x : Int × Mem} (hS : Std X (rmN 5 119) w cX11_findBestSetting RX11 (some .int)) (hN : cxn X = 6) (hW : shp w = ShA)   : ∀ (n : Nat) (x1 : Int) (x2 : Int) (x3 : Int) (σ : Mem), Sm X (rmN 5 119) w 1 x 7 [some (rf w 0), some (iv x1), some (iv x2), some (iv x3), none, none] [] σ (Ai_findBestSetting_7   n x1 x2 x3 σ) := by
  refine fix_ok (P := fun (r7 : Int → Int → Int → Mem → Option (Int × Mem)) => ∀ (x1 : Int) (x2 : Int) (x3 : Int) (σ : Mem), Sm X (rmN 5 119) w 1 x 7 [some (rf w 0), some (iv x1), some (iv x2), some (iv x3), none, none] [] σ (r7 x1 x2 x3 σ)) (fun _ _ _ _ => a_none) (fun r7 hr7 => ?_)
  intro x1 x2 x3 σ
  unfold Ai_findBestSetting_7b
  refine a_iload_n hS dX11_findBestSetting_7 rfl ?_
  refine a_bipush hS dX11_findBestSetting_8 rfl ?_
  refine a_icmpgt hS rfl (wl 8 rfl) (tgt := 64) dX11_findBestSetting_10 (by decide) ?_ ?_
  · refine a_iload_n hS dX11_findBestSetting_64 rfl ?_
    exact a_iret hS rfl rfl dX11_findBestSetting_65
  · refine a_iconst hS dX11_findBestSetting_13 ?_
    refine a_istore hS (L' := [some (rf w 0), some (iv x1), some (iv x2), some (iv x3), some (iv 0), none]) dX11_findBestSetting_14 hN (Nat.le_of_ble_eq_true rfl) rfl rfl ?_
    exact k_Ai_findBestSetting_16 hS hN hW  r7 hr7 100000 x1 x2 x3 0 σ
set_option maxRecDepth 100000 in
set_option maxHeartbeats 4000000 in
theorem c_Ai_findBestSetting {l : Launch} {w : Wd} (hW : shp w = ShA)  (σ : Mem)  : Ctr l w yX11_findBestSetting cX11_findBestSetting 6 (some .int) (rmN 5 119) 1 [rf w 0] σ (Ai_findBestSetting  σ) := by
  refine met_of (own := RX11) (by decide) rfl rfl rfl (Nat.le_of_ble_eq_true rfl) (fun X x hXl hN hS => ⟨[some (rf w 0), none, none, none, none, none], ⟨5, rfl⟩, ?_⟩)
  subst hXl
  unfold Ai_findBestSetting
  refine a_iconst hS dX11_findBestSetting_0 ?_
  refine a_istore_n hS (L' := [some (rf w 0), some (iv 0), none, none, none, none]) dX11_findBestSetting_1 hN (Nat.le_of_ble_eq_true rfl) rfl rfl ?_
  refine a_bipush hS dX11_findBestSetting_2 rfl ?_
  refine a_istore_n hS (L' := [some (rf w 0), some (iv 0), some (iv 21), none, none, none]) dX11_findBestSetting_4 hN (Nat.le_of_ble_eq_true rfl) rfl rfl ?_
  refine a_iconst hS dX11_findBestSetting_5 ?_
  refine a_istore_n hS (L' := [some (rf w 0), some (iv 0), some (iv 21), some (iv 1), none, none]) dX11_findBestSetting_6 hN (Nat.le_of_ble_eq_true rfl) rfl rfl ?_
  exact k_Ai_findBestSetting_7 hS hN hW   100000 0 21 1 σ
noncomputable def Ai_fewestChanges  (σ : Mem) : Option (Int × Mem) := (Ai_study  σ).bind fun q1 => (Ai_findBestSetting  q1.2).bind fun q2 => (Ai_linesChangedWith ((wr q2.1).tdiv (wr 100)) ((wr q2.1).tmod (wr 100)) q2.2).bind fun q3 => (Itg_bitCount q3.1 q3.2).bind fun q4 => some (q4.1, q4.2)
set_option maxRecDepth 100000 in
set_option maxHeartbeats 4000000 in
theorem c_Ai_fewestChanges {l : Launch} {w : Wd} (hW : shp w = ShA)  (σ : Mem)  : Ctr l w yX11_fewestChanges cX11_fewestChanges 2 (some .int) (rmN 6 148) 1 [rf w 0] σ (Ai_fewestChanges  σ) := by
  refine met_of (own := RX11) (by decide) rfl rfl rfl (Nat.le_of_ble_eq_true rfl) (fun X x hXl hN hS => ⟨[some (rf w 0), none], ⟨1, rfl⟩, ?_⟩)
  subst hXl
  unfold Ai_fewestChanges
  refine a_aload_n hS dX11_fewestChanges_0 rfl ?_
  refine a_callVv hS (rst := []) (c_Ai_study hW  σ ) miX11_study mlX11_138 (sA0 hW) rfl rfl (Nat.le_of_ble_eq_true rfl) (Nat.le_of_ble_eq_true rfl) (Nat.le_of_ble_eq_true rfl) rfl dX11_fewestChanges_1 (fun q1 => ?_)
  refine a_aload_n hS dX11_fewestChanges_4 rfl ?_
  refine a_callVi hS (rst := []) (c_Ai_findBestSetting hW  q1.2 ) miX11_findBestSetting mlX11_239 (sA0 hW) rfl rfl (Nat.le_of_ble_eq_true rfl) (Nat.le_of_ble_eq_true rfl) (Nat.le_of_ble_eq_true rfl) rfl dX11_fewestChanges_5 (fun q2 => ?_)
  refine a_istore_n hS (L' := [some (rf w 0), some (iv q2.1)]) dX11_fewestChanges_8 hN (Nat.le_of_ble_eq_true rfl) rfl rfl ?_
  refine a_aload_n hS dX11_fewestChanges_9 rfl ?_
  refine a_iload_n hS dX11_fewestChanges_10 rfl ?_
  refine a_bipush hS dX11_fewestChanges_11 rfl ?_
  refine a_idiv hS dX11_fewestChanges_13 (by decide) ?_
  refine a_iload_n hS dX11_fewestChanges_14 rfl ?_
  refine a_bipush hS dX11_fewestChanges_15 rfl ?_
  refine a_irem hS dX11_fewestChanges_17 (by decide) ?_
  refine a_callVi hS (rst := []) (c_Ai_linesChangedWith hW ((wr q2.1).tdiv (wr 100)) ((wr q2.1).tmod (wr 100)) q2.2 ) miX11_linesChangedWith mlX11_231 (sA0 hW) rfl rfl (Nat.le_of_ble_eq_true rfl) (Nat.le_of_ble_eq_true rfl) (Nat.le_of_ble_eq_true rfl) rfl dX11_fewestChanges_18 (fun q3 => ?_)
  refine a_callSi hS (rst := []) (c_Itg_bitCount hW q3.1 q3.2 ) msJ6_bitCount_0f7a4 mlX11_234 rfl (Nat.le_of_ble_eq_true rfl) (Nat.le_of_ble_eq_true rfl) (Nat.le_of_ble_eq_true rfl) rfl dX11_fewestChanges_21 (fun q4 => ?_)
  exact a_iret hS rfl rfl dX11_fewestChanges_24
noncomputable def Ai_bestStep  (σ : Mem) : Option (Int × Mem) := (Ai_study  σ).bind fun q1 => (Ai_findBestSetting  q1.2).bind fun q2 => some (((wr q2.1).tdiv (wr 100)), q2.2)
set_option maxRecDepth 100000 in
set_option maxHeartbeats 4000000 in
theorem c_Ai_bestStep {l : Launch} {w : Wd} (hW : shp w = ShA)  (σ : Mem)  : Ctr l w yX11_bestStep cX11_bestStep 1 (some .int) (rmN 6 148) 1 [rf w 0] σ (Ai_bestStep  σ) := by
  refine met_of (own := RX11) (by decide) rfl rfl rfl (Nat.le_of_ble_eq_true rfl) (fun X x hXl hN hS => ⟨[some (rf w 0)], ⟨0, rfl⟩, ?_⟩)
  subst hXl
  unfold Ai_bestStep
  refine a_aload_n hS dX11_bestStep_0 rfl ?_
  refine a_callVv hS (rst := []) (c_Ai_study hW  σ ) miX11_study mlX11_138 (sA0 hW) rfl rfl (Nat.le_of_ble_eq_true rfl) (Nat.le_of_ble_eq_true rfl) (Nat.le_of_ble_eq_true rfl) rfl dX11_bestStep_1 (fun q1 => ?_)
  refine a_aload_n hS dX11_bestStep_4 rfl ?_
  refine a_callVi hS (rst := []) (c_Ai_findBestSetting hW  q1.2 ) miX11_findBestSetting mlX11_239 (sA0 hW) rfl rfl (Nat.le_of_ble_eq_true rfl) (Nat.le_of_ble_eq_true rfl) (Nat.le_of_ble_eq_true rfl) rfl dX11_bestStep_5 (fun q2 => ?_)
  refine a_bipush hS dX11_bestStep_8 rfl ?_
  refine a_idiv hS dX11_bestStep_10 (by decide) ?_
  exact a_iret hS rfl rfl dX11_bestStep_11
noncomputable def Ai_bestBase  (σ : Mem) : Option (Int × Mem) := (Ai_study  σ).bind fun q1 => (Ai_findBestSetting  q1.2).bind fun q2 => some (((wr q2.1).tmod (wr 100)), q2.2)
set_option maxRecDepth 100000 in
set_option maxHeartbeats 4000000 in
theorem c_Ai_bestBase {l : Launch} {w : Wd} (hW : shp w = ShA)  (σ : Mem)  : Ctr l w yX11_bestBase cX11_bestBase 1 (some .int) (rmN 6 148) 1 [rf w 0] σ (Ai_bestBase  σ) := by
  refine met_of (own := RX11) (by decide) rfl rfl rfl (Nat.le_of_ble_eq_true rfl) (fun X x hXl hN hS => ⟨[some (rf w 0)], ⟨0, rfl⟩, ?_⟩)
  subst hXl
  unfold Ai_bestBase
  refine a_aload_n hS dX11_bestBase_0 rfl ?_
  refine a_callVv hS (rst := []) (c_Ai_study hW  σ ) miX11_study mlX11_138 (sA0 hW) rfl rfl (Nat.le_of_ble_eq_true rfl) (Nat.le_of_ble_eq_true rfl) (Nat.le_of_ble_eq_true rfl) rfl dX11_bestBase_1 (fun q1 => ?_)
  refine a_aload_n hS dX11_bestBase_4 rfl ?_
  refine a_callVi hS (rst := []) (c_Ai_findBestSetting hW  q1.2 ) miX11_findBestSetting mlX11_239 (sA0 hW) rfl rfl (Nat.le_of_ble_eq_true rfl) (Nat.le_of_ble_eq_true rfl) (Nat.le_of_ble_eq_true rfl) rfl dX11_bestBase_5 (fun q2 => ?_)
  refine a_bipush hS dX11_bestBase_8 rfl ?_
  refine a_irem hS dX11_bestBase_10 (by decide) ?_
  exact a_iret hS rfl rfl dX11_bestBase_11
noncomputable def Ai_tokens (a0 : Int) (σ : Mem) : Option (Int × Mem) := (Lin_has a0 σ).bind fun q1 => if wr q1.1 = 0 then (some ((-1), q1.2)) else ((Ai_study  q1.2).bind fun q2 => (Tok_countIn a0 q2.2).bind fun q3 => some (q3.1, q3.2))
set_option maxRecDepth 100000 in
set_option maxHeartbeats 4000000 in
theorem c_Ai_tokens {l : Launch} {w : Wd} (hW : shp w = ShA) (a0 : Int) (σ : Mem)  : Ctr l w yX11_tokens cX11_tokens 2 (some .int) (rmN 6 148) 1 [rf w 0, iv a0] σ (Ai_tokens a0 σ) := by
  refine met_of (own := RX11) (by decide) rfl rfl rfl (Nat.le_of_ble_eq_true rfl) (fun X x hXl hN hS => ⟨[some (rf w 0), some (iv a0)], ⟨0, rfl⟩, ?_⟩)
  subst hXl
  unfold Ai_tokens
  refine a_aload_n hS dX11_tokens_0 rfl ?_
  refine a_getR hS (j := 1) dX11_tokens_1 flX11_12 (sA0 hW) rfl ?_
  refine a_getR hS (j := 2) dX11_tokens_4 flX11_96 (sA1 hW) rfl ?_
  refine a_iload_n hS dX11_tokens_7 rfl ?_
  refine a_callVi hS (rst := []) (c_Lin_has hW a0 σ ) miX3_has mlX11_117 (sA2 hW) rfl rfl (Nat.le_of_ble_eq_true rfl) (Nat.le_of_ble_eq_true rfl) (Nat.le_of_ble_eq_true rfl) rfl dX11_tokens_8 (fun q1 => ?_)
  refine a_ifne hS rfl  (tgt := 16) dX11_tokens_11 (by decide) ?_ ?_
  · refine a_aload_n hS dX11_tokens_16 rfl ?_
    refine a_callVv hS (rst := []) (c_Ai_study hW  q1.2 ) miX11_study mlX11_138 (sA0 hW) rfl rfl (Nat.le_of_ble_eq_true rfl) (Nat.le_of_ble_eq_true rfl) (Nat.le_of_ble_eq_true rfl) rfl dX11_tokens_17 (fun q2 => ?_)
    refine a_aload_n hS dX11_tokens_20 rfl ?_
    refine a_getR hS (j := 289) dX11_tokens_21 flX11_53 (sA0 hW) rfl ?_
    refine a_iload_n hS dX11_tokens_24 rfl ?_
    refine a_callVi hS (rst := []) (c_Tok_countIn hW a0 q2.2 ) miX9_countIn mlX11_242 (sA289 hW) rfl rfl (Nat.le_of_ble_eq_true rfl) (Nat.le_of_ble_eq_true rfl) (Nat.le_of_ble_eq_true rfl) rfl dX11_tokens_25 (fun q3 => ?_)
    exact a_iret hS rfl rfl dX11_tokens_28
  · refine a_iconst hS dX11_tokens_14 ?_
    exact a_iret hS rfl rfl dX11_tokens_15
noncomputable def Ai_findToken_35   (x1 : Int) (x2 : Int) (y0 : Int) (σ : Mem) : Option (Int × Mem) := if wr y0 = 0 then (some ((-1), σ)) else ((Row_get 298 x1 σ).bind fun q3 => some ((q3.1 + x2), q3.2))
noncomputable def Ai_findToken (a0 : Int) (a1 : Int) (σ : Mem) : Option (Int × Mem) := (Lin_has a0 σ).bind fun q1 => if wr q1.1 = 0 then (Ai_findToken_35 a0 a1 0 q1.2) else (if wr a1 < 0 then (Ai_findToken_35 a0 a1 0 q1.2) else ((Tok_countIn a0 q1.2).bind fun q2 => if wr a1 < wr q2.1 then (Ai_findToken_35 a0 a1 1 q2.2) else (Ai_findToken_35 a0 a1 0 q2.2)))
set_option maxRecDepth 100000 in
set_option maxHeartbeats 4000000 in
theorem k_Ai_findToken_35 {X : Cx} {w : Wd} {x : Int × Mem} (hS : Std X (rmN 2 42) w cX11_findToken RX11 (some .int)) (hN : cxn X = 4) (hW : shp w = ShA)   : ∀ (x1 : Int) (x2 : Int) (y0 : Int) (σ : Mem), Sm X (rmN 2 42) w 1 x 35 [some (rf w 0), some (iv x1), some (iv x2), none] [iv y0] σ (Ai_findToken_35   x1 x2 y0 σ) := by
  intro x1 x2 y0 σ
  unfold Ai_findToken_35
  refine a_istore_n hS (L' := [some (rf w 0), some (iv x1), some (iv x2), some (iv y0)]) dX11_findToken_35 hN (Nat.le_of_ble_eq_true rfl) rfl rfl ?_
  refine a_iload_n hS dX11_findToken_36 rfl ?_
  refine a_ifeq hS rfl  (tgt := 56) dX11_findToken_37 (by decide) ?_ ?_
  · refine a_iconst hS dX11_findToken_56 ?_
    exact a_iret hS rfl rfl dX11_findToken_57
  · refine a_aload_n hS dX11_findToken_40 rfl ?_
    refine a_getR hS (j := 289) dX11_findToken_41 flX11_53 (sA0 hW) rfl ?_
    refine a_getR hS (j := 298) dX11_findToken_44 flX11_367 (sA289 hW) rfl ?_
    refine a_iload_n hS dX11_findToken_47 rfl ?_
    refine a_callVi hS (rst := []) (c_Row_get hW 298 x1 σ iRow298) miX5_get mlX11_124 (sA298 hW) rfl rfl (Nat.le_of_ble_eq_true rfl) (Nat.le_of_ble_eq_true rfl) (Nat.le_of_ble_eq_true rfl) rfl dX11_findToken_48 (fun q3 => ?_)
    refine a_iload_n hS dX11_findToken_51 rfl ?_
    refine a_iadd hS dX11_findToken_52 ?_
    refine a_goto hS (tgt := 57) dX11_findToken_53 (by decide) ?_
    exact a_iret hS rfl rfl dX11_findToken_57
set_option maxRecDepth 100000 in
set_option maxHeartbeats 4000000 in
theorem c_Ai_findToken {l : Launch} {w : Wd} (hW : shp w = ShA) (a0 : Int) (a1 : Int) (σ : Mem)  : Ctr l w yX11_findToken cX11_findToken 4 (some .int) (rmN 2 42) 1 [rf w 0, iv a0, iv a1] σ (Ai_findToken a0 a1 σ) := by
  refine met_of (own := RX11) (by decide) rfl rfl rfl (Nat.le_of_ble_eq_true rfl) (fun X x hXl hN hS => ⟨[some (rf w 0), some (iv a0), some (iv a1), none], ⟨1, rfl⟩, ?_⟩)
  subst hXl
  unfold Ai_findToken
  refine a_aload_n hS dX11_findToken_0 rfl ?_
  refine a_getR hS (j := 1) dX11_findToken_1 flX11_12 (sA0 hW) rfl ?_
  refine a_getR hS (j := 2) dX11_findToken_4 flX11_96 (sA1 hW) rfl ?_
  refine a_iload_n hS dX11_findToken_7 rfl ?_
  refine a_callVi hS (rst := []) (c_Lin_has hW a0 σ ) miX3_has mlX11_117 (sA2 hW) rfl rfl (Nat.le_of_ble_eq_true rfl) (Nat.le_of_ble_eq_true rfl) (Nat.le_of_ble_eq_true rfl) rfl dX11_findToken_8 (fun q1 => ?_)
  refine a_ifeq hS rfl  (tgt := 34) dX11_findToken_11 (by decide) ?_ ?_
  · refine a_iconst hS dX11_findToken_34 ?_
    exact k_Ai_findToken_35 hS hN hW   a0 a1 0 q1.2
  · refine a_iload_n hS dX11_findToken_14 rfl ?_
    refine a_iflt hS rfl  (tgt := 34) dX11_findToken_15 (by decide) ?_ ?_
    · refine a_iconst hS dX11_findToken_34 ?_
      exact k_Ai_findToken_35 hS hN hW   a0 a1 0 q1.2
    · refine a_iload_n hS dX11_findToken_18 rfl ?_
      refine a_aload_n hS dX11_findToken_19 rfl ?_
      refine a_getR hS (j := 289) dX11_findToken_20 flX11_53 (sA0 hW) rfl ?_
      refine a_iload_n hS dX11_findToken_23 rfl ?_
      refine a_callVi hS (rst := [iv a1]) (c_Tok_countIn hW a0 q1.2 ) miX9_countIn mlX11_242 (sA289 hW) rfl rfl (Nat.le_of_ble_eq_true rfl) (Nat.le_of_ble_eq_true rfl) (Nat.le_of_ble_eq_true rfl) rfl dX11_findToken_24 (fun q2 => ?_)
      refine a_icmpge hS rfl rfl (tgt := 34) dX11_findToken_27 (by decide) ?_ ?_
      · refine a_iconst hS dX11_findToken_34 ?_
        exact k_Ai_findToken_35 hS hN hW   a0 a1 0 q2.2
      · refine a_iconst hS dX11_findToken_30 ?_
        refine a_goto hS (tgt := 35) dX11_findToken_31 (by decide) ?_
        exact k_Ai_findToken_35 hS hN hW   a0 a1 1 q2.2
noncomputable def Ai_tokenAt (a0 : Int) (a1 : Int) (σ : Mem) : Option (Int × Mem) := (Ai_study  σ).bind fun q1 => (Ai_findToken a0 a1 q1.2).bind fun q2 => if wr q2.1 = (-1) then (some ((-1), q2.2)) else ((Row_get 292 q2.1 q2.2).bind fun q3 => some (q3.1, q3.2))
set_option maxRecDepth 100000 in
set_option maxHeartbeats 4000000 in
theorem c_Ai_tokenAt {l : Launch} {w : Wd} (hW : shp w = ShA) (a0 : Int) (a1 : Int) (σ : Mem)  : Ctr l w yX11_tokenAt cX11_tokenAt 4 (some .int) (rmN 6 148) 1 [rf w 0, iv a0, iv a1] σ (Ai_tokenAt a0 a1 σ) := by
  refine met_of (own := RX11) (by decide) rfl rfl rfl (Nat.le_of_ble_eq_true rfl) (fun X x hXl hN hS => ⟨[some (rf w 0), some (iv a0), some (iv a1), none], ⟨1, rfl⟩, ?_⟩)
  subst hXl
  unfold Ai_tokenAt
  refine a_aload_n hS dX11_tokenAt_0 rfl ?_
  refine a_callVv hS (rst := []) (c_Ai_study hW  σ ) miX11_study mlX11_138 (sA0 hW) rfl rfl (Nat.le_of_ble_eq_true rfl) (Nat.le_of_ble_eq_true rfl) (Nat.le_of_ble_eq_true rfl) rfl dX11_tokenAt_1 (fun q1 => ?_)
  refine a_aload_n hS dX11_tokenAt_4 rfl ?_
  refine a_iload_n hS dX11_tokenAt_5 rfl ?_
  refine a_iload_n hS dX11_tokenAt_6 rfl ?_
  refine a_callVi hS (rst := []) (c_Ai_findToken hW a0 a1 q1.2 ) miX11_findToken mlX11_245 (sA0 hW) rfl rfl (Nat.le_of_ble_eq_true rfl) (Nat.le_of_ble_eq_true rfl) (Nat.le_of_ble_eq_true rfl) rfl dX11_tokenAt_7 (fun q2 => ?_)
  refine a_istore_n hS (L' := [some (rf w 0), some (iv a0), some (iv a1), some (iv q2.1)]) dX11_tokenAt_10 hN (Nat.le_of_ble_eq_true rfl) rfl rfl ?_
  refine a_iload_n hS dX11_tokenAt_11 rfl ?_
  refine a_iconst hS dX11_tokenAt_12 ?_
  refine a_icmpne hS rfl (wl (-1) rfl) (tgt := 20) dX11_tokenAt_13 (by decide) ?_ ?_
  · refine a_aload_n hS dX11_tokenAt_20 rfl ?_
    refine a_getR hS (j := 289) dX11_tokenAt_21 flX11_53 (sA0 hW) rfl ?_
    refine a_getR hS (j := 292) dX11_tokenAt_24 flX11_248 (sA289 hW) rfl ?_
    refine a_iload_n hS dX11_tokenAt_27 rfl ?_
    refine a_callVi hS (rst := []) (c_Row_get hW 292 q2.1 q2.2 iRow292) miX5_get mlX11_124 (sA292 hW) rfl rfl (Nat.le_of_ble_eq_true rfl) (Nat.le_of_ble_eq_true rfl) (Nat.le_of_ble_eq_true rfl) rfl dX11_tokenAt_28 (fun q3 => ?_)
    exact a_iret hS rfl rfl dX11_tokenAt_31
  · refine a_iconst hS dX11_tokenAt_16 ?_
    refine a_goto hS (tgt := 31) dX11_tokenAt_17 (by decide) ?_
    exact a_iret hS rfl rfl dX11_tokenAt_31
noncomputable def Ai_tokenLength (a0 : Int) (a1 : Int) (σ : Mem) : Option (Int × Mem) := (Ai_study  σ).bind fun q1 => (Ai_findToken a0 a1 q1.2).bind fun q2 => if wr q2.1 = (-1) then (some ((-1), q2.2)) else ((Row_get 294 q2.1 q2.2).bind fun q3 => some (q3.1, q3.2))
set_option maxRecDepth 100000 in
set_option maxHeartbeats 4000000 in
theorem c_Ai_tokenLength {l : Launch} {w : Wd} (hW : shp w = ShA) (a0 : Int) (a1 : Int) (σ : Mem)  : Ctr l w yX11_tokenLength cX11_tokenLength 4 (some .int) (rmN 6 148) 1 [rf w 0, iv a0, iv a1] σ (Ai_tokenLength a0 a1 σ) := by
  refine met_of (own := RX11) (by decide) rfl rfl rfl (Nat.le_of_ble_eq_true rfl) (fun X x hXl hN hS => ⟨[some (rf w 0), some (iv a0), some (iv a1), none], ⟨1, rfl⟩, ?_⟩)
  subst hXl
  unfold Ai_tokenLength
  refine a_aload_n hS dX11_tokenLength_0 rfl ?_
  refine a_callVv hS (rst := []) (c_Ai_study hW  σ ) miX11_study mlX11_138 (sA0 hW) rfl rfl (Nat.le_of_ble_eq_true rfl) (Nat.le_of_ble_eq_true rfl) (Nat.le_of_ble_eq_true rfl) rfl dX11_tokenLength_1 (fun q1 => ?_)
  refine a_aload_n hS dX11_tokenLength_4 rfl ?_
  refine a_iload_n hS dX11_tokenLength_5 rfl ?_
  refine a_iload_n hS dX11_tokenLength_6 rfl ?_
  refine a_callVi hS (rst := []) (c_Ai_findToken hW a0 a1 q1.2 ) miX11_findToken mlX11_245 (sA0 hW) rfl rfl (Nat.le_of_ble_eq_true rfl) (Nat.le_of_ble_eq_true rfl) (Nat.le_of_ble_eq_true rfl) rfl dX11_tokenLength_7 (fun q2 => ?_)
  refine a_istore_n hS (L' := [some (rf w 0), some (iv a0), some (iv a1), some (iv q2.1)]) dX11_tokenLength_10 hN (Nat.le_of_ble_eq_true rfl) rfl rfl ?_
  refine a_iload_n hS dX11_tokenLength_11 rfl ?_
  refine a_iconst hS dX11_tokenLength_12 ?_
  refine a_icmpne hS rfl (wl (-1) rfl) (tgt := 20) dX11_tokenLength_13 (by decide) ?_ ?_
  · refine a_aload_n hS dX11_tokenLength_20 rfl ?_
    refine a_getR hS (j := 289) dX11_tokenLength_21 flX11_53 (sA0 hW) rfl ?_
    refine a_getR hS (j := 294) dX11_tokenLength_24 flX11_251 (sA289 hW) rfl ?_
    refine a_iload_n hS dX11_tokenLength_27 rfl ?_
    refine a_callVi hS (rst := []) (c_Row_get hW 294 q2.1 q2.2 iRow294) miX5_get mlX11_124 (sA294 hW) rfl rfl (Nat.le_of_ble_eq_true rfl) (Nat.le_of_ble_eq_true rfl) (Nat.le_of_ble_eq_true rfl) rfl dX11_tokenLength_28 (fun q3 => ?_)
    exact a_iret hS rfl rfl dX11_tokenLength_31
  · refine a_iconst hS dX11_tokenLength_16 ?_
    refine a_goto hS (tgt := 31) dX11_tokenLength_17 (by decide) ?_
    exact a_iret hS rfl rfl dX11_tokenLength_31
noncomputable def Ai_tokenKind (a0 : Int) (a1 : Int) (σ : Mem) : Option (Int × Mem) := (Ai_study  σ).bind fun q1 => (Ai_findToken a0 a1 q1.2).bind fun q2 => if wr q2.1 = (-1) then (some ((-1), q2.2)) else ((Row_get 296 q2.1 q2.2).bind fun q3 => some (q3.1, q3.2))
set_option maxRecDepth 100000 in
set_option maxHeartbeats 4000000 in
theorem c_Ai_tokenKind {l : Launch} {w : Wd} (hW : shp w = ShA) (a0 : Int) (a1 : Int) (σ : Mem)  : Ctr l w yX11_tokenKind cX11_tokenKind 4 (some .int) (rmN 6 148) 1 [rf w 0, iv a0, iv a1] σ (Ai_tokenKind a0 a1 σ) := by
  refine met_of (own := RX11) (by decide) rfl rfl rfl (Nat.le_of_ble_eq_true rfl) (fun X x hXl hN hS => ⟨[some (rf w 0), some (iv a0), some (iv a1), none], ⟨1, rfl⟩, ?_⟩)
  subst hXl
  unfold Ai_tokenKind
  refine a_aload_n hS dX11_tokenKind_0 rfl ?_
  refine a_callVv hS (rst := []) (c_Ai_study hW  σ ) miX11_study mlX11_138 (sA0 hW) rfl rfl (Nat.le_of_ble_eq_true rfl) (Nat.le_of_ble_eq_true rfl) (Nat.le_of_ble_eq_true rfl) rfl dX11_tokenKind_1 (fun q1 => ?_)
  refine a_aload_n hS dX11_tokenKind_4 rfl ?_
  refine a_iload_n hS dX11_tokenKind_5 rfl ?_
  refine a_iload_n hS dX11_tokenKind_6 rfl ?_
  refine a_callVi hS (rst := []) (c_Ai_findToken hW a0 a1 q1.2 ) miX11_findToken mlX11_245 (sA0 hW) rfl rfl (Nat.le_of_ble_eq_true rfl) (Nat.le_of_ble_eq_true rfl) (Nat.le_of_ble_eq_true rfl) rfl dX11_tokenKind_7 (fun q2 => ?_)
  refine a_istore_n hS (L' := [some (rf w 0), some (iv a0), some (iv a1), some (iv q2.1)]) dX11_tokenKind_10 hN (Nat.le_of_ble_eq_true rfl) rfl rfl ?_
  refine a_iload_n hS dX11_tokenKind_11 rfl ?_
  refine a_iconst hS dX11_tokenKind_12 ?_
  refine a_icmpne hS rfl (wl (-1) rfl) (tgt := 20) dX11_tokenKind_13 (by decide) ?_ ?_
  · refine a_aload_n hS dX11_tokenKind_20 rfl ?_
    refine a_getR hS (j := 289) dX11_tokenKind_21 flX11_53 (sA0 hW) rfl ?_
    refine a_getR hS (j := 296) dX11_tokenKind_24 flX11_252 (sA289 hW) rfl ?_
    refine a_iload_n hS dX11_tokenKind_27 rfl ?_
    refine a_callVi hS (rst := []) (c_Row_get hW 296 q2.1 q2.2 iRow296) miX5_get mlX11_124 (sA296 hW) rfl rfl (Nat.le_of_ble_eq_true rfl) (Nat.le_of_ble_eq_true rfl) (Nat.le_of_ble_eq_true rfl) rfl dX11_tokenKind_28 (fun q3 => ?_)
    exact a_iret hS rfl rfl dX11_tokenKind_31
  · refine a_iconst hS dX11_tokenKind_16 ?_
    refine a_goto hS (tgt := 31) dX11_tokenKind_17 (by decide) ?_
    exact a_iret hS rfl rfl dX11_tokenKind_31
noncomputable def Ai_placeOf (a0 : Int) (σ : Mem) : Option (Int × Mem) := if wr a0 = (-1) then (some ((-9), σ)) else ((Row_get 290 a0 σ).bind fun q1 => (Row_get 298 q1.1 q1.2).bind fun q2 => some ((((100 * q1.1) + a0) - q2.1), q2.2))
set_option maxRecDepth 100000 in
set_option maxHeartbeats 4000000 in
theorem c_Ai_placeOf {l : Launch} {w : Wd} (hW : shp w = ShA) (a0 : Int) (σ : Mem)  : Ctr l w yX11_placeOf cX11_placeOf 3 (some .int) (rmN 1 21) 1 [rf w 0, iv a0] σ (Ai_placeOf a0 σ) := by
  refine met_of (own := RX11) (by decide) rfl rfl rfl (Nat.le_of_ble_eq_true rfl) (fun X x hXl hN hS => ⟨[some (rf w 0), some (iv a0), none], ⟨1, rfl⟩, ?_⟩)
  subst hXl
  unfold Ai_placeOf
  refine a_iload_n hS dX11_placeOf_0 rfl ?_
  refine a_iconst hS dX11_placeOf_1 ?_
  refine a_icmpne hS rfl (wl (-1) rfl) (tgt := 8) dX11_placeOf_2 (by decide) ?_ ?_
  · refine a_aload_n hS dX11_placeOf_8 rfl ?_
    refine a_getR hS (j := 289) dX11_placeOf_9 flX11_53 (sA0 hW) rfl ?_
    refine a_getR hS (j := 290) dX11_placeOf_12 flX11_273 (sA289 hW) rfl ?_
    refine a_iload_n hS dX11_placeOf_15 rfl ?_
    refine a_callVi hS (rst := []) (c_Row_get hW 290 a0 σ iRow290) miX5_get mlX11_124 (sA290 hW) rfl rfl (Nat.le_of_ble_eq_true rfl) (Nat.le_of_ble_eq_true rfl) (Nat.le_of_ble_eq_true rfl) rfl dX11_placeOf_16 (fun q1 => ?_)
    refine a_istore_n hS (L' := [some (rf w 0), some (iv a0), some (iv q1.1)]) dX11_placeOf_19 hN (Nat.le_of_ble_eq_true rfl) rfl rfl ?_
    refine a_bipush hS dX11_placeOf_20 rfl ?_
    refine a_iload_n hS dX11_placeOf_22 rfl ?_
    refine a_imul hS dX11_placeOf_23 ?_
    refine a_iload_n hS dX11_placeOf_24 rfl ?_
    refine a_iadd hS dX11_placeOf_25 ?_
    refine a_aload_n hS dX11_placeOf_26 rfl ?_
    refine a_getR hS (j := 289) dX11_placeOf_27 flX11_53 (sA0 hW) rfl ?_
    refine a_getR hS (j := 298) dX11_placeOf_30 flX11_367 (sA289 hW) rfl ?_
    refine a_iload_n hS dX11_placeOf_33 rfl ?_
    refine a_callVi hS (rst := [iv ((100 * q1.1) + a0)]) (c_Row_get hW 298 q1.1 q1.2 iRow298) miX5_get mlX11_124 (sA298 hW) rfl rfl (Nat.le_of_ble_eq_true rfl) (Nat.le_of_ble_eq_true rfl) (Nat.le_of_ble_eq_true rfl) rfl dX11_placeOf_34 (fun q2 => ?_)
    refine a_isub hS dX11_placeOf_37 ?_
    exact a_iret hS rfl rfl dX11_placeOf_38
  · refine a_bipush hS dX11_placeOf_5 rfl ?_
    exact a_iret hS rfl rfl dX11_placeOf_7
noncomputable def Ai_openedBy (a0 : Int) (a1 : Int) (σ : Mem) : Option (Int × Mem) := (Ai_study  σ).bind fun q1 => (Ai_findToken a0 a1 q1.2).bind fun q2 => if wr q2.1 = (-1) then (some ((-1), q2.2)) else ((Row_get 311 q2.1 q2.2).bind fun q3 => (Ai_placeOf q3.1 q3.2).bind fun q4 => some (q4.1, q4.2))
set_option maxRecDepth 100000 in
set_option maxHeartbeats 4000000 in
theorem c_Ai_openedBy {l : Launch} {w : Wd} (hW : shp w = ShA) (a0 : Int) (a1 : Int) (σ : Mem)  : Ctr l w yX11_openedBy cX11_openedBy 4 (some .int) (rmN 6 148) 1 [rf w 0, iv a0, iv a1] σ (Ai_openedBy a0 a1 σ) := by
  refine met_of (own := RX11) (by decide) rfl rfl rfl (Nat.le_of_ble_eq_true rfl) (fun X x hXl hN hS => ⟨[some (rf w 0), some (iv a0), some (iv a1), none], ⟨1, rfl⟩, ?_⟩)
  subst hXl
  unfold Ai_openedBy
  refine a_aload_n hS dX11_openedBy_0 rfl ?_
  refine a_callVv hS (rst := []) (c_Ai_study hW  σ ) miX11_study mlX11_138 (sA0 hW) rfl rfl (Nat.le_of_ble_eq_true rfl) (Nat.le_of_ble_eq_true rfl) (Nat.le_of_ble_eq_true rfl) rfl dX11_openedBy_1 (fun q1 => ?_)
  refine a_aload_n hS dX11_openedBy_4 rfl ?_
  refine a_iload_n hS dX11_openedBy_5 rfl ?_
  refine a_iload_n hS dX11_openedBy_6 rfl ?_
  refine a_callVi hS (rst := []) (c_Ai_findToken hW a0 a1 q1.2 ) miX11_findToken mlX11_245 (sA0 hW) rfl rfl (Nat.le_of_ble_eq_true rfl) (Nat.le_of_ble_eq_true rfl) (Nat.le_of_ble_eq_true rfl) rfl dX11_openedBy_7 (fun q2 => ?_)
  refine a_istore_n hS (L' := [some (rf w 0), some (iv a0), some (iv a1), some (iv q2.1)]) dX11_openedBy_10 hN (Nat.le_of_ble_eq_true rfl) rfl rfl ?_
  refine a_iload_n hS dX11_openedBy_11 rfl ?_
  refine a_iconst hS dX11_openedBy_12 ?_
  refine a_icmpne hS rfl (wl (-1) rfl) (tgt := 20) dX11_openedBy_13 (by decide) ?_ ?_
  · refine a_aload_n hS dX11_openedBy_20 rfl ?_
    refine a_aload_n hS dX11_openedBy_21 rfl ?_
    refine a_getR hS (j := 304) dX11_openedBy_22 flX11_60 (sA0 hW) rfl ?_
    refine a_getR hS (j := 311) dX11_openedBy_25 flX11_255 (sA304 hW) rfl ?_
    refine a_iload_n hS dX11_openedBy_28 rfl ?_
    refine a_callVi hS (rst := [rf w 0]) (c_Row_get hW 311 q2.1 q2.2 iRow311) miX5_get mlX11_124 (sA311 hW) rfl rfl (Nat.le_of_ble_eq_true rfl) (Nat.le_of_ble_eq_true rfl) (Nat.le_of_ble_eq_true rfl) rfl dX11_openedBy_29 (fun q3 => ?_)
    refine a_callVi hS (rst := []) (c_Ai_placeOf hW q3.1 q3.2 ) miX11_placeOf mlX11_258 (sA0 hW) rfl rfl (Nat.le_of_ble_eq_true rfl) (Nat.le_of_ble_eq_true rfl) (Nat.le_of_ble_eq_true rfl) rfl dX11_openedBy_32 (fun q4 => ?_)
    exact a_iret hS rfl rfl dX11_openedBy_35
  · refine a_iconst hS dX11_openedBy_16 ?_
    refine a_goto hS (tgt := 35) dX11_openedBy_17 (by decide) ?_
    exact a_iret hS rfl rfl dX11_openedBy_35
noncomputable def Ai_closedBy (a0 : Int) (a1 : Int) (σ : Mem) : Option (Int × Mem) := (Ai_study  σ).bind fun q1 => (Ai_findToken a0 a1 q1.2).bind fun q2 => if wr q2.1 = (-1) then (some ((-1), q2.2)) else ((Row_get 313 q2.1 q2.2).bind fun q3 => (Ai_placeOf q3.1 q3.2).bind fun q4 => some (q4.1, q4.2))
set_option maxRecDepth 100000 in
set_option maxHeartbeats 4000000 in
theorem c_Ai_closedBy {l : Launch} {w : Wd} (hW : shp w = ShA) (a0 : Int) (a1 : Int) (σ : Mem)  : Ctr l w yX11_closedBy cX11_closedBy 4 (some .int) (rmN 6 148) 1 [rf w 0, iv a0, iv a1] σ (Ai_closedBy a0 a1 σ) := by
  refine met_of (own := RX11) (by decide) rfl rfl rfl (Nat.le_of_ble_eq_true rfl) (fun X x hXl hN hS => ⟨[some (rf w 0), some (iv a0), some (iv a1), none], ⟨1, rfl⟩, ?_⟩)
  subst hXl
  unfold Ai_closedBy
  refine a_aload_n hS dX11_closedBy_0 rfl ?_
  refine a_callVv hS (rst := []) (c_Ai_study hW  σ ) miX11_study mlX11_138 (sA0 hW) rfl rfl (Nat.le_of_ble_eq_true rfl) (Nat.le_of_ble_eq_true rfl) (Nat.le_of_ble_eq_true rfl) rfl dX11_closedBy_1 (fun q1 => ?_)
  refine a_aload_n hS dX11_closedBy_4 rfl ?_
  refine a_iload_n hS dX11_closedBy_5 rfl ?_
  refine a_iload_n hS dX11_closedBy_6 rfl ?_
  refine a_callVi hS (rst := []) (c_Ai_findToken hW a0 a1 q1.2 ) miX11_findToken mlX11_245 (sA0 hW) rfl rfl (Nat.le_of_ble_eq_true rfl) (Nat.le_of_ble_eq_true rfl) (Nat.le_of_ble_eq_true rfl) rfl dX11_closedBy_7 (fun q2 => ?_)
  refine a_istore_n hS (L' := [some (rf w 0), some (iv a0), some (iv a1), some (iv q2.1)]) dX11_closedBy_10 hN (Nat.le_of_ble_eq_true rfl) rfl rfl ?_
  refine a_iload_n hS dX11_closedBy_11 rfl ?_
  refine a_iconst hS dX11_closedBy_12 ?_
  refine a_icmpne hS rfl (wl (-1) rfl) (tgt := 20) dX11_closedBy_13 (by decide) ?_ ?_
  · refine a_aload_n hS dX11_closedBy_20 rfl ?_
    refine a_aload_n hS dX11_closedBy_21 rfl ?_
    refine a_getR hS (j := 304) dX11_closedBy_22 flX11_60 (sA0 hW) rfl ?_
    refine a_getR hS (j := 313) dX11_closedBy_25 flX11_261 (sA304 hW) rfl ?_
    refine a_iload_n hS dX11_closedBy_28 rfl ?_
    refine a_callVi hS (rst := [rf w 0]) (c_Row_get hW 313 q2.1 q2.2 iRow313) miX5_get mlX11_124 (sA313 hW) rfl rfl (Nat.le_of_ble_eq_true rfl) (Nat.le_of_ble_eq_true rfl) (Nat.le_of_ble_eq_true rfl) rfl dX11_closedBy_29 (fun q3 => ?_)
    refine a_callVi hS (rst := []) (c_Ai_placeOf hW q3.1 q3.2 ) miX11_placeOf mlX11_258 (sA0 hW) rfl rfl (Nat.le_of_ble_eq_true rfl) (Nat.le_of_ble_eq_true rfl) (Nat.le_of_ble_eq_true rfl) rfl dX11_closedBy_32 (fun q4 => ?_)
    exact a_iret hS rfl rfl dX11_closedBy_35
  · refine a_iconst hS dX11_closedBy_16 ?_
    refine a_goto hS (tgt := 35) dX11_closedBy_17 (by decide) ?_
    exact a_iret hS rfl rfl dX11_closedBy_35
noncomputable def Ai_depth (a0 : Int) (σ : Mem) : Option (Int × Mem) := (Ai_within a0 0 (σ 2 0) σ).bind fun q1 => if wr q1.1 = 0 then (some ((-1), q1.2)) else ((Ai_study  q1.2).bind fun q2 => (Row_get 321 a0 q2.2).bind fun q3 => some (q3.1, q3.2))
set_option maxRecDepth 100000 in
set_option maxHeartbeats 4000000 in
theorem c_Ai_depth {l : Launch} {w : Wd} (hW : shp w = ShA) (a0 : Int) (σ : Mem)  : Ctr l w yX11_depth cX11_depth 2 (some .int) (rmN 6 148) 1 [rf w 0, iv a0] σ (Ai_depth a0 σ) := by
  refine met_of (own := RX11) (by decide) rfl rfl rfl (Nat.le_of_ble_eq_true rfl) (fun X x hXl hN hS => ⟨[some (rf w 0), some (iv a0)], ⟨0, rfl⟩, ?_⟩)
  subst hXl
  unfold Ai_depth
  refine a_iload_n hS dX11_depth_0 rfl ?_
  refine a_iconst hS dX11_depth_1 ?_
  refine a_aload_n hS dX11_depth_2 rfl ?_
  refine a_getR hS (j := 1) dX11_depth_3 flX11_12 (sA0 hW) rfl ?_
  refine a_getR hS (j := 2) dX11_depth_6 flX11_96 (sA1 hW) rfl ?_
  refine a_getI hS dX11_depth_9 flX11_100 (sA2 hW) rfl ?_
  refine a_callSi hS (rst := []) (c_Ai_within hW a0 0 (σ 2 0) σ ) msX11_within mlX11_85 rfl (Nat.le_of_ble_eq_true rfl) (Nat.le_of_ble_eq_true rfl) (Nat.le_of_ble_eq_true rfl) rfl dX11_depth_12 (fun q1 => ?_)
  refine a_ifne hS rfl  (tgt := 20) dX11_depth_15 (by decide) ?_ ?_
  · refine a_aload_n hS dX11_depth_20 rfl ?_
    refine a_callVv hS (rst := []) (c_Ai_study hW  q1.2 ) miX11_study mlX11_138 (sA0 hW) rfl rfl (Nat.le_of_ble_eq_true rfl) (Nat.le_of_ble_eq_true rfl) (Nat.le_of_ble_eq_true rfl) rfl dX11_depth_21 (fun q2 => ?_)
    refine a_aload_n hS dX11_depth_24 rfl ?_
    refine a_getR hS (j := 304) dX11_depth_25 flX11_60 (sA0 hW) rfl ?_
    refine a_getR hS (j := 321) dX11_depth_28 flX11_264 (sA304 hW) rfl ?_
    refine a_iload_n hS dX11_depth_31 rfl ?_
    refine a_callVi hS (rst := []) (c_Row_get hW 321 a0 q2.2 iRow321) miX5_get mlX11_124 (sA321 hW) rfl rfl (Nat.le_of_ble_eq_true rfl) (Nat.le_of_ble_eq_true rfl) (Nat.le_of_ble_eq_true rfl) rfl dX11_depth_32 (fun q3 => ?_)
    exact a_iret hS rfl rfl dX11_depth_35
  · refine a_iconst hS dX11_depth_18 ?_
    exact a_iret hS rfl rfl dX11_depth_19
noncomputable def Ai_findBlock (a0 : Int) (a1 : Int) (σ : Mem) : Option (Int × Mem) := (Ai_within a0 0 (σ 2 0) σ).bind fun q1 => if wr q1.1 = 0 then (some ((-1), q1.2)) else ((Blk_openBefore a0 a1 q1.2).bind fun q2 => some (q2.1, q2.2))
set_option maxRecDepth 100000 in
set_option maxHeartbeats 4000000 in
theorem c_Ai_findBlock {l : Launch} {w : Wd} (hW : shp w = ShA) (a0 : Int) (a1 : Int) (σ : Mem)  : Ctr l w yX11_findBlock cX11_findBlock 3 (some .int) (rmN 2 43) 1 [rf w 0, iv a0, iv a1] σ (Ai_findBlock a0 a1 σ) := by
  refine met_of (own := RX11) (by decide) rfl rfl rfl (Nat.le_of_ble_eq_true rfl) (fun X x hXl hN hS => ⟨[some (rf w 0), some (iv a0), some (iv a1)], ⟨0, rfl⟩, ?_⟩)
  subst hXl
  unfold Ai_findBlock
  refine a_iload_n hS dX11_findBlock_0 rfl ?_
  refine a_iconst hS dX11_findBlock_1 ?_
  refine a_aload_n hS dX11_findBlock_2 rfl ?_
  refine a_getR hS (j := 1) dX11_findBlock_3 flX11_12 (sA0 hW) rfl ?_
  refine a_getR hS (j := 2) dX11_findBlock_6 flX11_96 (sA1 hW) rfl ?_
  refine a_getI hS dX11_findBlock_9 flX11_100 (sA2 hW) rfl ?_
  refine a_callSi hS (rst := []) (c_Ai_within hW a0 0 (σ 2 0) σ ) msX11_within mlX11_85 rfl (Nat.le_of_ble_eq_true rfl) (Nat.le_of_ble_eq_true rfl) (Nat.le_of_ble_eq_true rfl) rfl dX11_findBlock_12 (fun q1 => ?_)
  refine a_ifeq hS rfl  (tgt := 30) dX11_findBlock_15 (by decide) ?_ ?_
  · refine a_iconst hS dX11_findBlock_30 ?_
    exact a_iret hS rfl rfl dX11_findBlock_31
  · refine a_aload_n hS dX11_findBlock_18 rfl ?_
    refine a_getR hS (j := 304) dX11_findBlock_19 flX11_60 (sA0 hW) rfl ?_
    refine a_iload_n hS dX11_findBlock_22 rfl ?_
    refine a_iload_n hS dX11_findBlock_23 rfl ?_
    refine a_callVi hS (rst := []) (c_Blk_openBefore hW a0 a1 q1.2 ) miX0_openBefore mlX11_370 (sA304 hW) rfl rfl (Nat.le_of_ble_eq_true rfl) (Nat.le_of_ble_eq_true rfl) (Nat.le_of_ble_eq_true rfl) rfl dX11_findBlock_24 (fun q2 => ?_)
    refine a_goto hS (tgt := 31) dX11_findBlock_27 (by decide) ?_
    exact a_iret hS rfl rfl dX11_findBlock_31
noncomputable def Ai_blockRule (a0 : Int) (a1 : Int) (σ : Mem) : Option (Int × Mem) := (Ai_study  σ).bind fun q1 => (Ai_findBlock a0 a1 q1.2).bind fun q2 => if wr q2.1 = (-1) then (some ((-1), q2.2)) else ((Row_get 309 q2.1 q2.2).bind fun q3 => some (q3.1, q3.2))
set_option maxRecDepth 100000 in
set_option maxHeartbeats 4000000 in
theorem c_Ai_blockRule {l : Launch} {w : Wd} (hW : shp w = ShA) (a0 : Int) (a1 : Int) (σ : Mem)  : Ctr l w yX11_blockRule cX11_blockRule 4 (some .int) (rmN 6 148) 1 [rf w 0, iv a0, iv a1] σ (Ai_blockRule a0 a1 σ) := by
  refine met_of (own := RX11) (by decide) rfl rfl rfl (Nat.le_of_ble_eq_true rfl) (fun X x hXl hN hS => ⟨[some (rf w 0), some (iv a0), some (iv a1), none], ⟨1, rfl⟩, ?_⟩)
  subst hXl
  unfold Ai_blockRule
  refine a_aload_n hS dX11_blockRule_0 rfl ?_
  refine a_callVv hS (rst := []) (c_Ai_study hW  σ ) miX11_study mlX11_138 (sA0 hW) rfl rfl (Nat.le_of_ble_eq_true rfl) (Nat.le_of_ble_eq_true rfl) (Nat.le_of_ble_eq_true rfl) rfl dX11_blockRule_1 (fun q1 => ?_)
  refine a_aload_n hS dX11_blockRule_4 rfl ?_
  refine a_iload_n hS dX11_blockRule_5 rfl ?_
  refine a_iload_n hS dX11_blockRule_6 rfl ?_
  refine a_callVi hS (rst := []) (c_Ai_findBlock hW a0 a1 q1.2 ) miX11_findBlock mlX11_267 (sA0 hW) rfl rfl (Nat.le_of_ble_eq_true rfl) (Nat.le_of_ble_eq_true rfl) (Nat.le_of_ble_eq_true rfl) rfl dX11_blockRule_7 (fun q2 => ?_)
  refine a_istore_n hS (L' := [some (rf w 0), some (iv a0), some (iv a1), some (iv q2.1)]) dX11_blockRule_10 hN (Nat.le_of_ble_eq_true rfl) rfl rfl ?_
  refine a_iload_n hS dX11_blockRule_11 rfl ?_
  refine a_iconst hS dX11_blockRule_12 ?_
  refine a_icmpne hS rfl (wl (-1) rfl) (tgt := 20) dX11_blockRule_13 (by decide) ?_ ?_
  · refine a_aload_n hS dX11_blockRule_20 rfl ?_
    refine a_getR hS (j := 304) dX11_blockRule_21 flX11_60 (sA0 hW) rfl ?_
    refine a_getR hS (j := 309) dX11_blockRule_24 flX11_270 (sA304 hW) rfl ?_
    refine a_iload_n hS dX11_blockRule_27 rfl ?_
    refine a_callVi hS (rst := []) (c_Row_get hW 309 q2.1 q2.2 iRow309) miX5_get mlX11_124 (sA309 hW) rfl rfl (Nat.le_of_ble_eq_true rfl) (Nat.le_of_ble_eq_true rfl) (Nat.le_of_ble_eq_true rfl) rfl dX11_blockRule_28 (fun q3 => ?_)
    exact a_iret hS rfl rfl dX11_blockRule_31
  · refine a_iconst hS dX11_blockRule_16 ?_
    refine a_goto hS (tgt := 31) dX11_blockRule_17 (by decide) ?_
    exact a_iret hS rfl rfl dX11_blockRule_31
noncomputable def Ai_blockOpening (a0 : Int) (a1 : Int) (σ : Mem) : Option (Int × Mem) := (Ai_study  σ).bind fun q1 => (Ai_findBlock a0 a1 q1.2).bind fun q2 => if wr q2.1 = (-1) then (some ((-1), q2.2)) else ((Row_get 290 q2.1 q2.2).bind fun q3 => (Row_get 3 q3.1 q3.2).bind fun q4 => (Row_get 292 q2.1 q4.2).bind fun q5 => some ((((100 * q3.1) + q4.1) + q5.1), q5.2))
set_option maxRecDepth 100000 in
set_option maxHeartbeats 4000000 in
theorem c_Ai_blockOpening {l : Launch} {w : Wd} (hW : shp w = ShA) (a0 : Int) (a1 : Int) (σ : Mem)  : Ctr l w yX11_blockOpening cX11_blockOpening 5 (some .int) (rmN 6 148) 1 [rf w 0, iv a0, iv a1] σ (Ai_blockOpening a0 a1 σ) := by
  refine met_of (own := RX11) (by decide) rfl rfl rfl (Nat.le_of_ble_eq_true rfl) (fun X x hXl hN hS => ⟨[some (rf w 0), some (iv a0), some (iv a1), none, none], ⟨2, rfl⟩, ?_⟩)
  subst hXl
  unfold Ai_blockOpening
  refine a_aload_n hS dX11_blockOpening_0 rfl ?_
  refine a_callVv hS (rst := []) (c_Ai_study hW  σ ) miX11_study mlX11_138 (sA0 hW) rfl rfl (Nat.le_of_ble_eq_true rfl) (Nat.le_of_ble_eq_true rfl) (Nat.le_of_ble_eq_true rfl) rfl dX11_blockOpening_1 (fun q1 => ?_)
  refine a_aload_n hS dX11_blockOpening_4 rfl ?_
  refine a_iload_n hS dX11_blockOpening_5 rfl ?_
  refine a_iload_n hS dX11_blockOpening_6 rfl ?_
  refine a_callVi hS (rst := []) (c_Ai_findBlock hW a0 a1 q1.2 ) miX11_findBlock mlX11_267 (sA0 hW) rfl rfl (Nat.le_of_ble_eq_true rfl) (Nat.le_of_ble_eq_true rfl) (Nat.le_of_ble_eq_true rfl) rfl dX11_blockOpening_7 (fun q2 => ?_)
  refine a_istore_n hS (L' := [some (rf w 0), some (iv a0), some (iv a1), some (iv q2.1), none]) dX11_blockOpening_10 hN (Nat.le_of_ble_eq_true rfl) rfl rfl ?_
  refine a_iload_n hS dX11_blockOpening_11 rfl ?_
  refine a_iconst hS dX11_blockOpening_12 ?_
  refine a_icmpne hS rfl (wl (-1) rfl) (tgt := 18) dX11_blockOpening_13 (by decide) ?_ ?_
  · refine a_aload_n hS dX11_blockOpening_18 rfl ?_
    refine a_getR hS (j := 289) dX11_blockOpening_19 flX11_53 (sA0 hW) rfl ?_
    refine a_getR hS (j := 290) dX11_blockOpening_22 flX11_273 (sA289 hW) rfl ?_
    refine a_iload_n hS dX11_blockOpening_25 rfl ?_
    refine a_callVi hS (rst := []) (c_Row_get hW 290 q2.1 q2.2 iRow290) miX5_get mlX11_124 (sA290 hW) rfl rfl (Nat.le_of_ble_eq_true rfl) (Nat.le_of_ble_eq_true rfl) (Nat.le_of_ble_eq_true rfl) rfl dX11_blockOpening_26 (fun q3 => ?_)
    refine a_istore hS (L' := [some (rf w 0), some (iv a0), some (iv a1), some (iv q2.1), some (iv q3.1)]) dX11_blockOpening_29 hN (Nat.le_of_ble_eq_true rfl) rfl rfl ?_
    refine a_bipush hS dX11_blockOpening_31 rfl ?_
    refine a_iload hS dX11_blockOpening_33 rfl ?_
    refine a_imul hS dX11_blockOpening_35 ?_
    refine a_aload_n hS dX11_blockOpening_36 rfl ?_
    refine a_getR hS (j := 1) dX11_blockOpening_37 flX11_12 (sA0 hW) rfl ?_
    refine a_getR hS (j := 2) dX11_blockOpening_40 flX11_96 (sA1 hW) rfl ?_
    refine a_getR hS (j := 3) dX11_blockOpening_43 flX11_121 (sA2 hW) rfl ?_
    refine a_iload hS dX11_blockOpening_46 rfl ?_
    refine a_callVi hS (rst := [iv (100 * q3.1)]) (c_Row_get hW 3 q3.1 q3.2 iRow3) miX5_get mlX11_124 (sA3 hW) rfl rfl (Nat.le_of_ble_eq_true rfl) (Nat.le_of_ble_eq_true rfl) (Nat.le_of_ble_eq_true rfl) rfl dX11_blockOpening_48 (fun q4 => ?_)
    refine a_iadd hS dX11_blockOpening_51 ?_
    refine a_aload_n hS dX11_blockOpening_52 rfl ?_
    refine a_getR hS (j := 289) dX11_blockOpening_53 flX11_53 (sA0 hW) rfl ?_
    refine a_getR hS (j := 292) dX11_blockOpening_56 flX11_248 (sA289 hW) rfl ?_
    refine a_iload_n hS dX11_blockOpening_59 rfl ?_
    refine a_callVi hS (rst := [iv ((100 * q3.1) + q4.1)]) (c_Row_get hW 292 q2.1 q4.2 iRow292) miX5_get mlX11_124 (sA292 hW) rfl rfl (Nat.le_of_ble_eq_true rfl) (Nat.le_of_ble_eq_true rfl) (Nat.le_of_ble_eq_true rfl) rfl dX11_blockOpening_60 (fun q5 => ?_)
    refine a_iadd hS dX11_blockOpening_63 ?_
    exact a_iret hS rfl rfl dX11_blockOpening_64
  · refine a_iconst hS dX11_blockOpening_16 ?_
    exact a_iret hS rfl rfl dX11_blockOpening_17
