noncomputable def Buf_add (a0 : Int) (σ : Mem) : Option (Int × Mem) := if wr (σ 26 0) < 72 then ((Row_set 27 (σ 26 0) a0 σ).bind fun q1 => letM (upM q1.2 26 0 ((q1.2 26 0) + 1)) fun s2 => some (0, s2)) else (some (0, σ))
set_option maxRecDepth 100000 in
set_option maxHeartbeats 4000000 in
theorem c_Buf_add {l : Launch} {w : Wd} (hW : shp w = ShA) (a0 : Int) (σ : Mem)  : Ctr l w yX1_add cX1_add 2 none (rmN 1 22) 0 [rf w 26, iv a0] σ (Buf_add a0 σ) := by
  refine met_of (own := RX1) (by decide) rfl rfl rfl (Nat.le_of_ble_eq_true rfl) (fun X x hXl hN hS => ⟨[some (rf w 26), some (iv a0)], ⟨0, rfl⟩, ?_⟩)
  subst hXl
  unfold Buf_add
  refine a_aload_n hS dX1_add_0 rfl ?_
  refine a_getI hS dX1_add_1 flX1_9 (sA26 hW) rfl ?_
  refine a_bipush hS dX1_add_4 rfl ?_
  refine a_icmpge hS rfl (wl 72 rfl) (tgt := 31) dX1_add_6 (by decide) ?_ ?_
  · exact a_vret hS rfl rfl dX1_add_31
  · refine a_aload_n hS dX1_add_9 rfl ?_
    refine a_getR hS (j := 27) dX1_add_10 flX1_20 (sA26 hW) rfl ?_
    refine a_aload_n hS dX1_add_13 rfl ?_
    refine a_getI hS dX1_add_14 flX1_9 (sA26 hW) rfl ?_
    refine a_iload_n hS dX1_add_17 rfl ?_
    refine a_callVv hS (rst := []) (c_Row_set hW 27 (σ 26 0) a0 σ iRow27) miX5_set mlX1_24 (sA27 hW) rfl rfl (Nat.le_of_ble_eq_true rfl) (Nat.le_of_ble_eq_true rfl) (Nat.le_of_ble_eq_true rfl) rfl dX1_add_18 (fun q1 => ?_)
    refine a_aload_n hS dX1_add_21 rfl ?_
    refine a_dup hS rfl dX1_add_22 ?_
    refine a_getI hS dX1_add_23 flX1_9 (sA26 hW) rfl ?_
    refine a_iconst hS dX1_add_26 ?_
    refine a_iadd hS dX1_add_27 ?_
    refine a_putI hS dX1_add_28 plX1_9 (sA26 hW) rfl ?_
    refine a_letM (fun s2 => ?_)
    exact a_vret hS rfl rfl dX1_add_31
noncomputable def Buf_byteOf (a0 : Int) (σ : Mem) : Option (Int × Mem) := if wr a0 < 0 then (some (0, σ)) else (if wr a0 < wr (σ 26 0) then ((Row_get 27 a0 σ).bind fun q1 => some (q1.1, q1.2)) else (some (0, σ)))
set_option maxRecDepth 100000 in
set_option maxHeartbeats 4000000 in
theorem c_Buf_byteOf {l : Launch} {w : Wd} (hW : shp w = ShA) (a0 : Int) (σ : Mem)  : Ctr l w yX1_byteOf cX1_byteOf 2 (some .int) (rmN 1 21) 1 [rf w 26, iv a0] σ (Buf_byteOf a0 σ) := by
  refine met_of (own := RX1) (by decide) rfl rfl rfl (Nat.le_of_ble_eq_true rfl) (fun X x hXl hN hS => ⟨[some (rf w 26), some (iv a0)], ⟨0, rfl⟩, ?_⟩)
  subst hXl
  unfold Buf_byteOf
  refine a_iload_n hS dX1_byteOf_0 rfl ?_
  refine a_iflt hS rfl  (tgt := 23) dX1_byteOf_1 (by decide) ?_ ?_
  · refine a_iconst hS dX1_byteOf_23 ?_
    exact a_iret hS rfl rfl dX1_byteOf_24
  · refine a_iload_n hS dX1_byteOf_4 rfl ?_
    refine a_aload_n hS dX1_byteOf_5 rfl ?_
    refine a_getI hS dX1_byteOf_6 flX1_9 (sA26 hW) rfl ?_
    refine a_icmpge hS rfl rfl (tgt := 23) dX1_byteOf_9 (by decide) ?_ ?_
    · refine a_iconst hS dX1_byteOf_23 ?_
      exact a_iret hS rfl rfl dX1_byteOf_24
    · refine a_aload_n hS dX1_byteOf_12 rfl ?_
      refine a_getR hS (j := 27) dX1_byteOf_13 flX1_20 (sA26 hW) rfl ?_
      refine a_iload_n hS dX1_byteOf_16 rfl ?_
      refine a_callVi hS (rst := []) (c_Row_get hW 27 a0 σ iRow27) miX5_get mlX1_28 (sA27 hW) rfl rfl (Nat.le_of_ble_eq_true rfl) (Nat.le_of_ble_eq_true rfl) (Nat.le_of_ble_eq_true rfl) rfl dX1_byteOf_17 (fun q1 => ?_)
      refine a_goto hS (tgt := 24) dX1_byteOf_20 (by decide) ?_
      exact a_iret hS rfl rfl dX1_byteOf_24
noncomputable def Buf_contentStart_2b   (r2 : Int → Mem → Option (Int × Mem)) (x1 : Int) (σ : Mem) : Option (Int × Mem) := if wr x1 < wr (σ 26 0) then ((Row_get 27 x1 σ).bind fun q1 => if wr q1.1 = 32 then (r2 (x1 + 1) q1.2) else (some (x1, q1.2))) else (some (x1, σ))
noncomputable def Buf_contentStart_2   (n : Nat) : Int → Mem → Option (Int × Mem) := fixN (fun _ _ => none) (Buf_contentStart_2b  ) n
noncomputable def Buf_contentStart  (σ : Mem) : Option (Int × Mem) := Buf_contentStart_2 100000 0 σ
set_option maxRecDepth 100000 in
set_option maxHeartbeats 4000000 in
theorem k_Buf_contentStart_2 {X : Cx} {w : Wd} {x : Int × Mem} (hS : Std X (rmN 1 21) w cX1_contentStart RX1 (some .int)) (hN : cxn X = 2) (hW : shp w = ShA)   : ∀ (n : Nat) (x1 : Int) (σ : Mem), Sm X (rmN 1 21) w 1 x 2 [some (rf w 26), some (iv x1)] [] σ (Buf_contentStart_2   n x1 σ) := by
  refine fix_ok (P := fun (r2 : Int → Mem → Option (Int × Mem)) => ∀ (x1 : Int) (σ : Mem), Sm X (rmN 1 21) w 1 x 2 [some (rf w 26), some (iv x1)] [] σ (r2 x1 σ)) (fun _ _ => a_none) (fun r2 hr2 => ?_)
  intro x1 σ
  unfold Buf_contentStart_2b
  refine a_iload_n hS dX1_contentStart_2 rfl ?_
  refine a_aload_n hS dX1_contentStart_3 rfl ?_
  refine a_getI hS dX1_contentStart_4 flX1_9 (sA26 hW) rfl ?_
  refine a_icmpge hS rfl rfl (tgt := 29) dX1_contentStart_7 (by decide) ?_ ?_
  · refine a_iload_n hS dX1_contentStart_29 rfl ?_
    exact a_iret hS rfl rfl dX1_contentStart_30
  · refine a_aload_n hS dX1_contentStart_10 rfl ?_
    refine a_getR hS (j := 27) dX1_contentStart_11 flX1_20 (sA26 hW) rfl ?_
    refine a_iload_n hS dX1_contentStart_14 rfl ?_
    refine a_callVi hS (rst := []) (c_Row_get hW 27 x1 σ iRow27) miX5_get mlX1_28 (sA27 hW) rfl rfl (Nat.le_of_ble_eq_true rfl) (Nat.le_of_ble_eq_true rfl) (Nat.le_of_ble_eq_true rfl) rfl dX1_contentStart_15 (fun q1 => ?_)
    refine a_bipush hS dX1_contentStart_18 rfl ?_
    refine a_icmpne hS rfl (wl 32 rfl) (tgt := 29) dX1_contentStart_20 (by decide) ?_ ?_
    · refine a_iload_n hS dX1_contentStart_29 rfl ?_
      exact a_iret hS rfl rfl dX1_contentStart_30
    · refine a_iinc hS (L' := [some (rf w 26), some (iv (x1 + 1))]) dX1_contentStart_23 rfl hN (Nat.le_of_ble_eq_true rfl) rfl rfl ?_
      refine a_goto hS (tgt := 2) dX1_contentStart_26 (by decide) ?_
      exact hr2 (x1 + 1) q1.2
set_option maxRecDepth 100000 in
set_option maxHeartbeats 4000000 in
theorem c_Buf_contentStart {l : Launch} {w : Wd} (hW : shp w = ShA)  (σ : Mem)  : Ctr l w yX1_contentStart cX1_contentStart 2 (some .int) (rmN 1 21) 1 [rf w 26] σ (Buf_contentStart  σ) := by
  refine met_of (own := RX1) (by decide) rfl rfl rfl (Nat.le_of_ble_eq_true rfl) (fun X x hXl hN hS => ⟨[some (rf w 26), none], ⟨1, rfl⟩, ?_⟩)
  subst hXl
  unfold Buf_contentStart
  refine a_iconst hS dX1_contentStart_0 ?_
  refine a_istore_n hS (L' := [some (rf w 26), some (iv 0)]) dX1_contentStart_1 hN (Nat.le_of_ble_eq_true rfl) rfl rfl ?_
  exact k_Buf_contentStart_2 hS hN hW   100000 0 σ
noncomputable def Buf_contentEnd_5b   (r5 : Int → Mem → Option (Int × Mem)) (x1 : Int) (σ : Mem) : Option (Int × Mem) := if 0 < wr x1 then ((Row_get 27 (x1 - 1) σ).bind fun q1 => if wr q1.1 = 32 then (r5 (x1 + (-1)) q1.2) else (some (x1, q1.2))) else (some (x1, σ))
noncomputable def Buf_contentEnd_5   (n : Nat) : Int → Mem → Option (Int × Mem) := fixN (fun _ _ => none) (Buf_contentEnd_5b  ) n
noncomputable def Buf_contentEnd  (σ : Mem) : Option (Int × Mem) := Buf_contentEnd_5 100000 (σ 26 0) σ
set_option maxRecDepth 100000 in
set_option maxHeartbeats 4000000 in
theorem k_Buf_contentEnd_5 {X : Cx} {w : Wd} {x : Int × Mem} (hS : Std X (rmN 1 21) w cX1_contentEnd RX1 (some .int)) (hN : cxn X = 2) (hW : shp w = ShA)   : ∀ (n : Nat) (x1 : Int) (σ : Mem), Sm X (rmN 1 21) w 1 x 5 [some (rf w 26), some (iv x1)] [] σ (Buf_contentEnd_5   n x1 σ) := by
  refine fix_ok (P := fun (r5 : Int → Mem → Option (Int × Mem)) => ∀ (x1 : Int) (σ : Mem), Sm X (rmN 1 21) w 1 x 5 [some (rf w 26), some (iv x1)] [] σ (r5 x1 σ)) (fun _ _ => a_none) (fun r5 hr5 => ?_)
  intro x1 σ
  unfold Buf_contentEnd_5b
  refine a_iload_n hS dX1_contentEnd_5 rfl ?_
  refine a_ifle hS rfl  (tgt := 30) dX1_contentEnd_6 (by decide) ?_ ?_
  · refine a_iload_n hS dX1_contentEnd_30 rfl ?_
    exact a_iret hS rfl rfl dX1_contentEnd_31
  · refine a_aload_n hS dX1_contentEnd_9 rfl ?_
    refine a_getR hS (j := 27) dX1_contentEnd_10 flX1_20 (sA26 hW) rfl ?_
    refine a_iload_n hS dX1_contentEnd_13 rfl ?_
    refine a_iconst hS dX1_contentEnd_14 ?_
    refine a_isub hS dX1_contentEnd_15 ?_
    refine a_callVi hS (rst := []) (c_Row_get hW 27 (x1 - 1) σ iRow27) miX5_get mlX1_28 (sA27 hW) rfl rfl (Nat.le_of_ble_eq_true rfl) (Nat.le_of_ble_eq_true rfl) (Nat.le_of_ble_eq_true rfl) rfl dX1_contentEnd_16 (fun q1 => ?_)
    refine a_bipush hS dX1_contentEnd_19 rfl ?_
    refine a_icmpne hS rfl (wl 32 rfl) (tgt := 30) dX1_contentEnd_21 (by decide) ?_ ?_
    · refine a_iload_n hS dX1_contentEnd_30 rfl ?_
      exact a_iret hS rfl rfl dX1_contentEnd_31
    · refine a_iinc hS (L' := [some (rf w 26), some (iv (x1 + (-1)))]) dX1_contentEnd_24 rfl hN (Nat.le_of_ble_eq_true rfl) rfl rfl ?_
      refine a_goto hS (tgt := 5) dX1_contentEnd_27 (by decide) ?_
      exact hr5 (x1 + (-1)) q1.2
set_option maxRecDepth 100000 in
set_option maxHeartbeats 4000000 in
theorem c_Buf_contentEnd {l : Launch} {w : Wd} (hW : shp w = ShA)  (σ : Mem)  : Ctr l w yX1_contentEnd cX1_contentEnd 2 (some .int) (rmN 1 21) 1 [rf w 26] σ (Buf_contentEnd  σ) := by
  refine met_of (own := RX1) (by decide) rfl rfl rfl (Nat.le_of_ble_eq_true rfl) (fun X x hXl hN hS => ⟨[some (rf w 26), none], ⟨1, rfl⟩, ?_⟩)
  subst hXl
  unfold Buf_contentEnd
  refine a_aload_n hS dX1_contentEnd_0 rfl ?_
  refine a_getI hS dX1_contentEnd_1 flX1_9 (sA26 hW) rfl ?_
  refine a_istore_n hS (L' := [some (rf w 26), some (iv (σ 26 0))]) dX1_contentEnd_4 hN (Nat.le_of_ble_eq_true rfl) rfl rfl ?_
  exact k_Buf_contentEnd_5 hS hN hW   100000 (σ 26 0) σ
noncomputable def Buf_isLine  (σ : Mem) : Option (Int × Mem) := (Buf_contentStart  σ).bind fun q1 => if wr q1.1 = wr (q1.2 26 0) then (some (1, q1.2)) else (if 40 < wr q1.1 then (some (0, q1.2)) else ((Buf_contentEnd  q1.2).bind fun q2 => if 32 < wr (q2.1 - q1.1) then (some (0, q2.2)) else (some (1, q2.2))))
set_option maxRecDepth 100000 in
set_option maxHeartbeats 4000000 in
theorem c_Buf_isLine {l : Launch} {w : Wd} (hW : shp w = ShA)  (σ : Mem)  : Ctr l w yX1_isLine cX1_isLine 2 (some .boolean) (rmN 2 42) 1 [rf w 26] σ (Buf_isLine  σ) := by
  refine met_of (own := RX1) (by decide) rfl rfl rfl (Nat.le_of_ble_eq_true rfl) (fun X x hXl hN hS => ⟨[some (rf w 26), none], ⟨1, rfl⟩, ?_⟩)
  subst hXl
  unfold Buf_isLine
  refine a_aload_n hS dX1_isLine_0 rfl ?_
  refine a_callVi hS (rst := []) (c_Buf_contentStart hW  σ ) miX1_contentStart mlX1_32 (sA26 hW) rfl rfl (Nat.le_of_ble_eq_true rfl) (Nat.le_of_ble_eq_true rfl) (Nat.le_of_ble_eq_true rfl) rfl dX1_isLine_1 (fun q1 => ?_)
  refine a_istore_n hS (L' := [some (rf w 26), some (iv q1.1)]) dX1_isLine_4 hN (Nat.le_of_ble_eq_true rfl) rfl rfl ?_
  refine a_iload_n hS dX1_isLine_5 rfl ?_
  refine a_aload_n hS dX1_isLine_6 rfl ?_
  refine a_getI hS dX1_isLine_7 flX1_9 (sA26 hW) rfl ?_
  refine a_icmpeq hS rfl rfl (tgt := 30) dX1_isLine_10 (by decide) ?_ ?_
  · refine a_iconst hS dX1_isLine_30 ?_
    refine a_goto hS (tgt := 35) dX1_isLine_31 (by decide) ?_
    exact a_zret hS (by decide) rfl rfl dX1_isLine_35
  · refine a_iload_n hS dX1_isLine_13 rfl ?_
    refine a_bipush hS dX1_isLine_14 rfl ?_
    refine a_icmpgt hS rfl (wl 40 rfl) (tgt := 34) dX1_isLine_16 (by decide) ?_ ?_
    · refine a_iconst hS dX1_isLine_34 ?_
      exact a_zret hS (by decide) rfl rfl dX1_isLine_35
    · refine a_aload_n hS dX1_isLine_19 rfl ?_
      refine a_callVi hS (rst := []) (c_Buf_contentEnd hW  q1.2 ) miX1_contentEnd mlX1_36 (sA26 hW) rfl rfl (Nat.le_of_ble_eq_true rfl) (Nat.le_of_ble_eq_true rfl) (Nat.le_of_ble_eq_true rfl) rfl dX1_isLine_20 (fun q2 => ?_)
      refine a_iload_n hS dX1_isLine_23 rfl ?_
      refine a_isub hS dX1_isLine_24 ?_
      refine a_bipush hS dX1_isLine_25 rfl ?_
      refine a_icmpgt hS rfl (wl 32 rfl) (tgt := 34) dX1_isLine_27 (by decide) ?_ ?_
      · refine a_iconst hS dX1_isLine_34 ?_
        exact a_zret hS (by decide) rfl rfl dX1_isLine_35
      · refine a_iconst hS dX1_isLine_30 ?_
        refine a_goto hS (tgt := 35) dX1_isLine_31 (by decide) ?_
        exact a_zret hS (by decide) rfl rfl dX1_isLine_35
noncomputable def Buf_writeLine_44b   (r44 : Int → Int → Int → Mem → Option (Int × Mem)) (x2 : Int) (x4 : Int) (x5 : Int) (σ : Mem) : Option (Int × Mem) := if wr x5 < wr x4 then ((Row_get 27 x5 σ).bind fun q5 => (Lin_append x2 q5.1 q5.2).bind fun q6 => r44 x2 x4 (x5 + 1) q6.2) else (some (0, σ))
noncomputable def Buf_writeLine_44   (n : Nat) : Int → Int → Int → Mem → Option (Int × Mem) := fixN (fun _ _ _ _ => none) (Buf_writeLine_44b  ) n
noncomputable def Buf_writeLine_23   (x2 : Int) (x3 : Int) (y0 : Int) (y1 : Int) (σ : Mem) : Option (Int × Mem) := (Row_set 3 y1 y0 σ).bind fun q2 => (Row_set 5 x2 0 q2.2).bind fun q3 => (Buf_contentEnd  q3.2).bind fun q4 => Buf_writeLine_44 100000 x2 q4.1 x3 q4.2
noncomputable def Buf_writeLine (a0 : Int) (σ : Mem) : Option (Int × Mem) := (Buf_contentStart  σ).bind fun q1 => if wr q1.1 = wr (q1.2 26 0) then (Buf_writeLine_23 a0 q1.1 0 a0 q1.2) else (Buf_writeLine_23 a0 q1.1 q1.1 a0 q1.2)
set_option maxRecDepth 100000 in
set_option maxHeartbeats 4000000 in
theorem k_Buf_writeLine_44 {X : Cx} {w : Wd} {x : Int × Mem} (hS : Std X (rmN 2 45) w cX1_writeLine RX1 none) (hN : cxn X = 6) (hW : shp w = ShA)   : ∀ (n : Nat) (x2 : Int) (x4 : Int) (x5 : Int) (σ : Mem), Sm X (rmN 2 45) w 0 x 44 [some (rf w 26), some (rf w 2), some (iv x2), none, some (iv x4), some (iv x5)] [] σ (Buf_writeLine_44   n x2 x4 x5 σ) := by
  refine fix_ok (P := fun (r44 : Int → Int → Int → Mem → Option (Int × Mem)) => ∀ (x2 : Int) (x4 : Int) (x5 : Int) (σ : Mem), Sm X (rmN 2 45) w 0 x 44 [some (rf w 26), some (rf w 2), some (iv x2), none, some (iv x4), some (iv x5)] [] σ (r44 x2 x4 x5 σ)) (fun _ _ _ _ => a_none) (fun r44 hr44 => ?_)
  intro x2 x4 x5 σ
  unfold Buf_writeLine_44b
  refine a_iload hS dX1_writeLine_44 rfl ?_
  refine a_iload hS dX1_writeLine_46 rfl ?_
  refine a_icmpge hS rfl rfl (tgt := 71) dX1_writeLine_48 (by decide) ?_ ?_
  · exact a_vret hS rfl rfl dX1_writeLine_71
  · refine a_aload_n hS dX1_writeLine_51 rfl ?_
    refine a_iload_n hS dX1_writeLine_52 rfl ?_
    refine a_aload_n hS dX1_writeLine_53 rfl ?_
    refine a_getR hS (j := 27) dX1_writeLine_54 flX1_20 (sA26 hW) rfl ?_
    refine a_iload hS dX1_writeLine_57 rfl ?_
    refine a_callVi hS (rst := [iv x2, rf w 2]) (c_Row_get hW 27 x5 σ iRow27) miX5_get mlX1_28 (sA27 hW) rfl rfl (Nat.le_of_ble_eq_true rfl) (Nat.le_of_ble_eq_true rfl) (Nat.le_of_ble_eq_true rfl) rfl dX1_writeLine_59 (fun q5 => ?_)
    refine a_callVv hS (rst := []) (c_Lin_append hW x2 q5.1 q5.2 ) miX3_append mlX1_47 (sA2 hW) rfl rfl (Nat.le_of_ble_eq_true rfl) (Nat.le_of_ble_eq_true rfl) (Nat.le_of_ble_eq_true rfl) rfl dX1_writeLine_62 (fun q6 => ?_)
    refine a_iinc hS (L' := [some (rf w 26), some (rf w 2), some (iv x2), none, some (iv x4), some (iv (x5 + 1))]) dX1_writeLine_65 rfl hN (Nat.le_of_ble_eq_true rfl) rfl rfl ?_
    refine a_goto hS (tgt := 44) dX1_writeLine_68 (by decide) ?_
    exact hr44 x2 x4 (x5 + 1) q6.2
set_option maxRecDepth 100000 in
set_option maxHeartbeats 4000000 in
theorem k_Buf_writeLine_23 {X : Cx} {w : Wd} {x : Int × Mem} (hS : Std X (rmN 2 45) w cX1_writeLine RX1 none) (hN : cxn X = 6) (hW : shp w = ShA)   : ∀ (x2 : Int) (x3 : Int) (y0 : Int) (y1 : Int) (σ : Mem), Sm X (rmN 2 45) w 0 x 23 [some (rf w 26), some (rf w 2), some (iv x2), some (iv x3), none, none] [iv y0, iv y1, rf w 3] σ (Buf_writeLine_23   x2 x3 y0 y1 σ) := by
  intro x2 x3 y0 y1 σ
  unfold Buf_writeLine_23
  refine a_callVv hS (rst := []) (c_Row_set hW 3 y1 y0 σ iRow3) miX5_set mlX1_24 (sA3 hW) rfl rfl (Nat.le_of_ble_eq_true rfl) (Nat.le_of_ble_eq_true rfl) (Nat.le_of_ble_eq_true rfl) rfl dX1_writeLine_23 (fun q2 => ?_)
  refine a_aload_n hS dX1_writeLine_26 rfl ?_
  refine a_getR hS (j := 5) dX1_writeLine_27 flX1_44 (sA2 hW) rfl ?_
  refine a_iload_n hS dX1_writeLine_30 rfl ?_
  refine a_iconst hS dX1_writeLine_31 ?_
  refine a_callVv hS (rst := []) (c_Row_set hW 5 x2 0 q2.2 iRow5) miX5_set mlX1_24 (sA5 hW) rfl rfl (Nat.le_of_ble_eq_true rfl) (Nat.le_of_ble_eq_true rfl) (Nat.le_of_ble_eq_true rfl) rfl dX1_writeLine_32 (fun q3 => ?_)
  refine a_aload_n hS dX1_writeLine_35 rfl ?_
  refine a_callVi hS (rst := []) (c_Buf_contentEnd hW  q3.2 ) miX1_contentEnd mlX1_36 (sA26 hW) rfl rfl (Nat.le_of_ble_eq_true rfl) (Nat.le_of_ble_eq_true rfl) (Nat.le_of_ble_eq_true rfl) rfl dX1_writeLine_36 (fun q4 => ?_)
  refine a_istore hS (L' := [some (rf w 26), some (rf w 2), some (iv x2), some (iv x3), some (iv q4.1), none]) dX1_writeLine_39 hN (Nat.le_of_ble_eq_true rfl) rfl rfl ?_
  refine a_iload_n hS dX1_writeLine_41 rfl ?_
  refine a_istore hS (L' := [some (rf w 26), some (rf w 2), some (iv x2), some (iv x3), some (iv q4.1), some (iv x3)]) dX1_writeLine_42 hN (Nat.le_of_ble_eq_true rfl) rfl rfl ?_
  exact a_live (M := [true, true, true, false, true, true]) (k_Buf_writeLine_44 hS hN hW   100000 x2 q4.1 x3 q4.2) rfl
set_option maxRecDepth 100000 in
set_option maxHeartbeats 4000000 in
theorem c_Buf_writeLine {l : Launch} {w : Wd} (hW : shp w = ShA) (a0 : Int) (σ : Mem)  : Ctr l w yX1_writeLine cX1_writeLine 6 none (rmN 2 45) 0 [rf w 26, rf w 2, iv a0] σ (Buf_writeLine a0 σ) := by
  refine met_of (own := RX1) (by decide) rfl rfl rfl (Nat.le_of_ble_eq_true rfl) (fun X x hXl hN hS => ⟨[some (rf w 26), some (rf w 2), some (iv a0), none, none, none], ⟨3, rfl⟩, ?_⟩)
  subst hXl
  unfold Buf_writeLine
  refine a_aload_n hS dX1_writeLine_0 rfl ?_
  refine a_callVi hS (rst := []) (c_Buf_contentStart hW  σ ) miX1_contentStart mlX1_32 (sA26 hW) rfl rfl (Nat.le_of_ble_eq_true rfl) (Nat.le_of_ble_eq_true rfl) (Nat.le_of_ble_eq_true rfl) rfl dX1_writeLine_1 (fun q1 => ?_)
  refine a_istore_n hS (L' := [some (rf w 26), some (rf w 2), some (iv a0), some (iv q1.1), none, none]) dX1_writeLine_4 hN (Nat.le_of_ble_eq_true rfl) rfl rfl ?_
  refine a_aload_n hS dX1_writeLine_5 rfl ?_
  refine a_getR hS (j := 3) dX1_writeLine_6 flX1_39 (sA2 hW) rfl ?_
  refine a_iload_n hS dX1_writeLine_9 rfl ?_
  refine a_iload_n hS dX1_writeLine_10 rfl ?_
  refine a_aload_n hS dX1_writeLine_11 rfl ?_
  refine a_getI hS dX1_writeLine_12 flX1_9 (sA26 hW) rfl ?_
  refine a_icmpne hS rfl rfl (tgt := 22) dX1_writeLine_15 (by decide) ?_ ?_
  · refine a_iload_n hS dX1_writeLine_22 rfl ?_
    exact k_Buf_writeLine_23 hS hN hW   a0 q1.1 q1.1 a0 q1.2
  · refine a_iconst hS dX1_writeLine_18 ?_
    refine a_goto hS (tgt := 23) dX1_writeLine_19 (by decide) ?_
    exact k_Buf_writeLine_23 hS hN hW   a0 q1.1 0 a0 q1.2
noncomputable def His_at (a0 : Int) (σ : Mem) : Option (Int × Mem) := if wr a0 < 0 then (some (-1, σ)) else (if wr ((wr ((σ 34 1) + a0)).tmod (wr 8)) < 0 then (some (-1, σ)) else (if wr ((wr ((σ 34 1) + a0)).tmod (wr 8)) < wr (ringA.length : Int) then (if 0 ≤ wr ((wr ((σ 34 1) + a0)).tmod (wr 8)) ∧ wr ((wr ((σ 34 1) + a0)).tmod (wr 8)) < (ringA.length : Int) then ((fun j1 : Nat => some ((j1 : Int), σ)) (ringA.getD (wr ((wr ((σ 34 1) + a0)).tmod (wr 8))).toNat 0)) else none) else (some (-1, σ))))
set_option maxRecDepth 100000 in
set_option maxHeartbeats 4000000 in
theorem c_His_at {l : Launch} {w : Wd} (hW : shp w = ShA) (a0 : Int) (σ : Mem)  : Ctr l w yX2_at cX2_at 3 (some (.object "AutoIndenter$State")) (rmN 0 0) 3 [rf w 34, iv a0] σ (His_at a0 σ) := by
  refine met_of (own := RX2) (by decide) rfl rfl rfl (Nat.le_of_ble_eq_true rfl) (fun X x hXl hN hS => ⟨[some (rf w 34), some (iv a0), none], ⟨1, rfl⟩, ?_⟩)
  subst hXl
  unfold His_at
  refine a_aload_n hS dX2_at_0 rfl ?_
  refine a_getI hS dX2_at_1 flX2_15 (sA34 hW) rfl ?_
  refine a_iload_n hS dX2_at_4 rfl ?_
  refine a_iadd hS dX2_at_5 ?_
  refine a_bipush hS dX2_at_6 rfl ?_
  refine a_irem hS dX2_at_8 (by decide) ?_
  refine a_istore_n hS (L' := [some (rf w 34), some (iv a0), some (iv ((wr ((σ 34 1) + a0)).tmod (wr 8)))]) dX2_at_9 hN (Nat.le_of_ble_eq_true rfl) rfl rfl ?_
  refine a_iload_n hS dX2_at_10 rfl ?_
  refine a_iflt hS rfl  (tgt := 36) dX2_at_11 (by decide) ?_ ?_
  · refine a_aconst hS dX2_at_36 ?_
    exact a_aretN hS rfl rfl dX2_at_37
  · refine a_iload_n hS dX2_at_14 rfl ?_
    refine a_iflt hS rfl  (tgt := 36) dX2_at_15 (by decide) ?_ ?_
    · refine a_aconst hS dX2_at_36 ?_
      exact a_aretN hS rfl rfl dX2_at_37
    · refine a_iload_n hS dX2_at_18 rfl ?_
      refine a_aload_n hS dX2_at_19 rfl ?_
      refine a_getR hS (j := 35) dX2_at_20 flX2_20 (sA34 hW) rfl ?_
      refine a_alenR hS (sA35 hW) dX2_at_23 ?_
      refine a_icmpge hS rfl rfl (tgt := 36) dX2_at_24 (by decide) ?_ ?_
      · refine a_aconst hS dX2_at_36 ?_
        exact a_aretN hS rfl rfl dX2_at_37
      · refine a_aload_n hS dX2_at_27 rfl ?_
        refine a_getR hS (j := 35) dX2_at_28 flX2_20 (sA34 hW) rfl ?_
        refine a_iload_n hS dX2_at_31 rfl ?_
        refine a_aald hS (F := fun j1 : Nat => some ((j1 : Int), σ)) (sA35 hW) dX2_at_32 (fun j1 hj1 => ?_)
        refine a_goto hS (tgt := 37) dX2_at_33 (by decide) ?_
        exact a_aret hS rfl rfl dX2_at_37
noncomputable def Sta_copy (o : Nat) (o2 : Nat) (σ : Mem) : Option (Int × Mem) := (Lin_copy (o + 1) (o2 + 1) σ).bind fun q1 => (Rul_copy (o + 10) (o2 + 10) q1.2).bind fun q2 => letM (upM q2.2 o 2 (q2.2 o2 2)) fun s3 => letM (upM s3 o 3 (s3 o2 3)) fun s4 => letM (upM s4 o 4 (s4 o2 4)) fun s5 => some (0, s5)
set_option maxRecDepth 100000 in
set_option maxHeartbeats 4000000 in
theorem c_Sta_copy {l : Launch} {w : Wd} (hW : shp w = ShA) (o : Nat) (o2 : Nat) (σ : Mem) (h_o : isSta o) (h_o2 : isSta o2) : Ctr l w yX8_copy cX8_copy 2 none (rmN 3 72) 0 [rf w o, rf w o2] σ (Sta_copy o o2 σ) := by
  refine met_of (own := RX8) (by decide) rfl rfl rfl (Nat.le_of_ble_eq_true rfl) (fun X x hXl hN hS => ⟨[some (rf w o), some (rf w o2)], ⟨0, rfl⟩, ?_⟩)
  subst hXl
  unfold Sta_copy
  refine a_aload_n hS dX8_copy_0 rfl ?_
  refine a_getR hS (j := (o + 1)) dX8_copy_1 flX8_10 (ssh_Sta0 hW h_o) rfl ?_
  refine a_aload_n hS dX8_copy_4 rfl ?_
  refine a_getR hS (j := (o2 + 1)) dX8_copy_5 flX8_10 (ssh_Sta0 hW h_o2) rfl ?_
  refine a_callVv hS (rst := []) (c_Lin_copy hW (o + 1) (o2 + 1) σ (isSta_Lin1 h_o) (isSta_Lin1 h_o2)) miX3_copy mlX8_33 (ssh_Sta1 hW h_o) rfl rfl (Nat.le_of_ble_eq_true rfl) (Nat.le_of_ble_eq_true rfl) (Nat.le_of_ble_eq_true rfl) rfl dX8_copy_8 (fun q1 => ?_)
  refine a_aload_n hS dX8_copy_11 rfl ?_
  refine a_getR hS (j := (o + 10)) dX8_copy_12 flX8_19 (ssh_Sta0 hW h_o) rfl ?_
  refine a_aload_n hS dX8_copy_15 rfl ?_
  refine a_getR hS (j := (o2 + 10)) dX8_copy_16 flX8_19 (ssh_Sta0 hW h_o2) rfl ?_
  refine a_callVv hS (rst := []) (c_Rul_copy hW (o + 10) (o2 + 10) q1.2 (isSta_Rul10 h_o) (isSta_Rul10 h_o2)) miX7_copy mlX8_37 (ssh_Sta10 hW h_o) rfl rfl (Nat.le_of_ble_eq_true rfl) (Nat.le_of_ble_eq_true rfl) (Nat.le_of_ble_eq_true rfl) rfl dX8_copy_19 (fun q2 => ?_)
  refine a_aload_n hS dX8_copy_22 rfl ?_
  refine a_aload_n hS dX8_copy_23 rfl ?_
  refine a_getI hS dX8_copy_24 flX8_23 (ssh_Sta0 hW h_o2) rfl ?_
  refine a_putI hS dX8_copy_27 plX8_23 (ssh_Sta0 hW h_o) rfl ?_
  refine a_letM (fun s3 => ?_)
  refine a_aload_n hS dX8_copy_30 rfl ?_
  refine a_aload_n hS dX8_copy_31 rfl ?_
  refine a_getI hS dX8_copy_32 flX8_27 (ssh_Sta0 hW h_o2) rfl ?_
  refine a_putI hS dX8_copy_35 plX8_27 (ssh_Sta0 hW h_o) rfl ?_
  refine a_letM (fun s4 => ?_)
  refine a_aload_n hS dX8_copy_38 rfl ?_
  refine a_aload_n hS dX8_copy_39 rfl ?_
  refine a_getI hS dX8_copy_40 flX8_30 (ssh_Sta0 hW h_o2) rfl ?_
  refine a_putI hS dX8_copy_43 plX8_30 (ssh_Sta0 hW h_o) rfl ?_
  refine a_letM (fun s5 => ?_)
  exact a_vret hS rfl rfl dX8_copy_46
noncomputable def His_remember_28    (σ : Mem) : Option (Int × Mem) := (His_at (σ 34 0) σ).bind fun q3 => if q3.1 < 0 then (some (0, q3.2)) else (@ite _ (isSta (q3.1.toNat)) (Classical.propDecidable _) ((Sta_copy (q3.1.toNat) 1 q3.2).bind fun q4 => letM (upM q4.2 34 0 ((q4.2 34 0) + 1)) fun s5 => some (0, s5)) none)
noncomputable def His_remember  (σ : Mem) : Option (Int × Mem) := if wr (σ 34 0) < 8 then (His_remember_28 σ) else (letM (upM σ 34 1 ((wr ((σ 34 1) + 1)).tmod (wr 8))) fun s1 => letM (upM s1 34 0 7) fun s2 => His_remember_28 s2)
set_option maxRecDepth 100000 in
set_option maxHeartbeats 4000000 in
theorem k_His_remember_28 {X : Cx} {w : Wd} {x : Int × Mem} (hS : Std X (rmN 4 93) w cX2_remember RX2 none) (hN : cxn X = 3) (hW : shp w = ShA)   : ∀  (σ : Mem), Sm X (rmN 4 93) w 0 x 28 [some (rf w 34), some (rf w 1), none] [] σ (His_remember_28    σ) := by
  intro  σ
  unfold His_remember_28
  refine a_aload_n hS dX2_remember_28 rfl ?_
  refine a_aload_n hS dX2_remember_29 rfl ?_
  refine a_getI hS dX2_remember_30 flX2_9 (sA34 hW) rfl ?_
  refine a_callVr hS (rst := []) (c_His_at hW (σ 34 0) σ ) miX2_at mlX2_25 (sA34 hW) rfl rfl (Nat.le_of_ble_eq_true rfl) (Nat.le_of_ble_eq_true rfl) (Nat.le_of_ble_eq_true rfl) rfl dX2_remember_33 (fun q3 => ?_) (fun q3 => ?_)
  · refine a_astore_nN hS (L' := [some (rf w 34), some (rf w 1), some (.null)]) dX2_remember_36 hN (Nat.le_of_ble_eq_true rfl) rfl rfl ?_
    refine a_aload_nN hS dX2_remember_37 rfl ?_
    refine a_ifnullN hS (tgt := 56) dX2_remember_38 (by decide) ?_
    exact a_vret hS rfl rfl dX2_remember_56
  · refine a_chk (fun hqq3 => ?_)
    refine a_astore_n hS (L' := [some (rf w 34), some (rf w 1), some (rf w (q3.1.toNat))]) dX2_remember_36 hN (Nat.le_of_ble_eq_true rfl) rfl rfl ?_
    refine a_aload_n hS dX2_remember_37 rfl ?_
    refine a_ifnull hS dX2_remember_38 ?_
    refine a_aload_n hS dX2_remember_41 rfl ?_
    refine a_aload_n hS dX2_remember_42 rfl ?_
    refine a_callVv hS (rst := []) (c_Sta_copy hW (q3.1.toNat) 1 q3.2 hqq3 iSta1) miX8_copy mlX2_29 (ssh_Sta0 hW hqq3) rfl rfl (Nat.le_of_ble_eq_true rfl) (Nat.le_of_ble_eq_true rfl) (Nat.le_of_ble_eq_true rfl) rfl dX2_remember_43 (fun q4 => ?_)
    refine a_aload_n hS dX2_remember_46 rfl ?_
    refine a_dup hS rfl dX2_remember_47 ?_
    refine a_getI hS dX2_remember_48 flX2_9 (sA34 hW) rfl ?_
    refine a_iconst hS dX2_remember_51 ?_
    refine a_iadd hS dX2_remember_52 ?_
    refine a_putI hS dX2_remember_53 plX2_9 (sA34 hW) rfl ?_
    refine a_letM (fun s5 => ?_)
    exact a_vret hS rfl rfl dX2_remember_56
set_option maxRecDepth 100000 in
set_option maxHeartbeats 4000000 in
theorem c_His_remember {l : Launch} {w : Wd} (hW : shp w = ShA)  (σ : Mem)  : Ctr l w yX2_remember cX2_remember 3 none (rmN 4 93) 0 [rf w 34, rf w 1] σ (His_remember  σ) := by
  refine met_of (own := RX2) (by decide) rfl rfl rfl (Nat.le_of_ble_eq_true rfl) (fun X x hXl hN hS => ⟨[some (rf w 34), some (rf w 1), none], ⟨1, rfl⟩, ?_⟩)
  subst hXl
  unfold His_remember
  refine a_aload_n hS dX2_remember_0 rfl ?_
  refine a_getI hS dX2_remember_1 flX2_9 (sA34 hW) rfl ?_
  refine a_bipush hS dX2_remember_4 rfl ?_
  refine a_icmplt hS rfl (wl 8 rfl) (tgt := 28) dX2_remember_6 (by decide) ?_ ?_
  · exact k_His_remember_28 hS hN hW    σ
  · refine a_aload_n hS dX2_remember_9 rfl ?_
    refine a_aload_n hS dX2_remember_10 rfl ?_
    refine a_getI hS dX2_remember_11 flX2_15 (sA34 hW) rfl ?_
    refine a_iconst hS dX2_remember_14 ?_
    refine a_iadd hS dX2_remember_15 ?_
    refine a_bipush hS dX2_remember_16 rfl ?_
    refine a_irem hS dX2_remember_18 (by decide) ?_
    refine a_putI hS dX2_remember_19 plX2_15 (sA34 hW) rfl ?_
    refine a_letM (fun s1 => ?_)
    refine a_aload_n hS dX2_remember_22 rfl ?_
    refine a_bipush hS dX2_remember_23 rfl ?_
    refine a_putI hS dX2_remember_25 plX2_9 (sA34 hW) rfl ?_
    refine a_letM (fun s2 => ?_)
    exact k_His_remember_28 hS hN hW    s2
noncomputable def His_takeLatest  (σ : Mem) : Option (Int × Mem) := (His_at ((σ 34 0) - 1) σ).bind fun q1 => if q1.1 < 0 then (some (0, q1.2)) else (@ite _ (isSta (q1.1.toNat)) (Classical.propDecidable _) ((Sta_copy 1 (q1.1.toNat) q1.2).bind fun q2 => letM (upM q2.2 34 0 ((q2.2 34 0) - 1)) fun s3 => some (0, s3)) none)
set_option maxRecDepth 100000 in
set_option maxHeartbeats 4000000 in
theorem c_His_takeLatest {l : Launch} {w : Wd} (hW : shp w = ShA)  (σ : Mem)  : Ctr l w yX2_takeLatest cX2_takeLatest 3 none (rmN 4 93) 0 [rf w 34, rf w 1] σ (His_takeLatest  σ) := by
  refine met_of (own := RX2) (by decide) rfl rfl rfl (Nat.le_of_ble_eq_true rfl) (fun X x hXl hN hS => ⟨[some (rf w 34), some (rf w 1), none], ⟨1, rfl⟩, ?_⟩)
  subst hXl
  unfold His_takeLatest
  refine a_aload_n hS dX2_takeLatest_0 rfl ?_
  refine a_aload_n hS dX2_takeLatest_1 rfl ?_
  refine a_getI hS dX2_takeLatest_2 flX2_9 (sA34 hW) rfl ?_
  refine a_iconst hS dX2_takeLatest_5 ?_
  refine a_isub hS dX2_takeLatest_6 ?_
  refine a_callVr hS (rst := []) (c_His_at hW ((σ 34 0) - 1) σ ) miX2_at mlX2_25 (sA34 hW) rfl rfl (Nat.le_of_ble_eq_true rfl) (Nat.le_of_ble_eq_true rfl) (Nat.le_of_ble_eq_true rfl) rfl dX2_takeLatest_7 (fun q1 => ?_) (fun q1 => ?_)
  · refine a_astore_nN hS (L' := [some (rf w 34), some (rf w 1), some (.null)]) dX2_takeLatest_10 hN (Nat.le_of_ble_eq_true rfl) rfl rfl ?_
    refine a_aload_nN hS dX2_takeLatest_11 rfl ?_
    refine a_ifnullN hS (tgt := 30) dX2_takeLatest_12 (by decide) ?_
    exact a_vret hS rfl rfl dX2_takeLatest_30
  · refine a_chk (fun hqq1 => ?_)
    refine a_astore_n hS (L' := [some (rf w 34), some (rf w 1), some (rf w (q1.1.toNat))]) dX2_takeLatest_10 hN (Nat.le_of_ble_eq_true rfl) rfl rfl ?_
    refine a_aload_n hS dX2_takeLatest_11 rfl ?_
    refine a_ifnull hS dX2_takeLatest_12 ?_
    refine a_aload_n hS dX2_takeLatest_15 rfl ?_
    refine a_aload_n hS dX2_takeLatest_16 rfl ?_
    refine a_callVv hS (rst := []) (c_Sta_copy hW 1 (q1.1.toNat) q1.2 iSta1 hqq1) miX8_copy mlX2_29 (sA1 hW) rfl rfl (Nat.le_of_ble_eq_true rfl) (Nat.le_of_ble_eq_true rfl) (Nat.le_of_ble_eq_true rfl) rfl dX2_takeLatest_17 (fun q2 => ?_)
    refine a_aload_n hS dX2_takeLatest_20 rfl ?_
    refine a_dup hS rfl dX2_takeLatest_21 ?_
    refine a_getI hS dX2_takeLatest_22 flX2_9 (sA34 hW) rfl ?_
    refine a_iconst hS dX2_takeLatest_25 ?_
    refine a_isub hS dX2_takeLatest_26 ?_
    refine a_putI hS dX2_takeLatest_27 plX2_9 (sA34 hW) rfl ?_
    refine a_letM (fun s3 => ?_)
    exact a_vret hS rfl rfl dX2_takeLatest_30
noncomputable def Tex_textEnd_2b   (r2 : Int → Int → Mem → Option (Int × Mem)) (x1 : Int) (x2 : Int) (σ : Mem) : Option (Int × Mem) := if wr x2 < wr (σ 26 0) then ((Buf_byteOf x2 σ).bind fun q1 => (Ai_isWordByte q1.1 q1.2).bind fun q2 => if wr q2.1 = 0 then (some ((mmaxI x2 (x1 + 1)), q2.2)) else (r2 x1 (x2 + 1) q2.2)) else (some ((mmaxI x2 (x1 + 1)), σ))
noncomputable def Tex_textEnd_2   (n : Nat) : Int → Int → Mem → Option (Int × Mem) := fixN (fun _ _ _ => none) (Tex_textEnd_2b  ) n
noncomputable def Tex_textEnd (a0 : Int) (σ : Mem) : Option (Int × Mem) := Tex_textEnd_2 100000 a0 a0 σ
set_option maxRecDepth 100000 in
set_option maxHeartbeats 4000000 in
theorem k_Tex_textEnd_2 {X : Cx} {w : Wd} {x : Int × Mem} (hS : Std X (rmN 2 42) w cX6_textEnd RX6 (some .int)) (hN : cxn X = 3) (hW : shp w = ShA)   : ∀ (n : Nat) (x1 : Int) (x2 : Int) (σ : Mem), Sm X (rmN 2 42) w 1 x 2 [some (rf w 26), some (iv x1), some (iv x2)] [] σ (Tex_textEnd_2   n x1 x2 σ) := by
  refine fix_ok (P := fun (r2 : Int → Int → Mem → Option (Int × Mem)) => ∀ (x1 : Int) (x2 : Int) (σ : Mem), Sm X (rmN 2 42) w 1 x 2 [some (rf w 26), some (iv x1), some (iv x2)] [] σ (r2 x1 x2 σ)) (fun _ _ _ => a_none) (fun r2 hr2 => ?_)
  intro x1 x2 σ
  unfold Tex_textEnd_2b
  refine a_iload_n hS dX6_textEnd_2 rfl ?_
  refine a_aload_n hS dX6_textEnd_3 rfl ?_
  refine a_getI hS dX6_textEnd_4 flX6_27 (sA26 hW) rfl ?_
  refine a_icmpge hS rfl rfl (tgt := 27) dX6_textEnd_7 (by decide) ?_ ?_
  · refine a_iload_n hS dX6_textEnd_27 rfl ?_
    refine a_iload_n hS dX6_textEnd_28 rfl ?_
    refine a_iconst hS dX6_textEnd_29 ?_
    refine a_iadd hS dX6_textEnd_30 ?_
    refine a_mmax hS mlMX6_44 mmmax2 mm3 mmmax4 (Nat.le_of_ble_eq_true rfl) (Nat.le_of_ble_eq_true rfl) dX6_textEnd_31 ?_
    exact a_iret hS rfl rfl dX6_textEnd_34
  · refine a_aload_n hS dX6_textEnd_10 rfl ?_
    refine a_iload_n hS dX6_textEnd_11 rfl ?_
    refine a_callVi hS (rst := []) (c_Buf_byteOf hW x2 σ ) miX1_byteOf mlX6_32 (sA26 hW) rfl rfl (Nat.le_of_ble_eq_true rfl) (Nat.le_of_ble_eq_true rfl) (Nat.le_of_ble_eq_true rfl) rfl dX6_textEnd_12 (fun q1 => ?_)
    refine a_callSNi hS (rst := []) (c_Ai_isWordByte hW q1.1 q1.2 ) msX11_isWordByte nwX6_50 rfl (Nat.le_of_ble_eq_true rfl) (Nat.le_of_ble_eq_true rfl) (Nat.le_of_ble_eq_true rfl) rfl dX6_textEnd_15 (fun q2 => ?_)
    refine a_ifeq hS rfl  (tgt := 27) dX6_textEnd_18 (by decide) ?_ ?_
    · refine a_iload_n hS dX6_textEnd_27 rfl ?_
      refine a_iload_n hS dX6_textEnd_28 rfl ?_
      refine a_iconst hS dX6_textEnd_29 ?_
      refine a_iadd hS dX6_textEnd_30 ?_
      refine a_mmax hS mlMX6_44 mmmax2 mm3 mmmax4 (Nat.le_of_ble_eq_true rfl) (Nat.le_of_ble_eq_true rfl) dX6_textEnd_31 ?_
      exact a_iret hS rfl rfl dX6_textEnd_34
    · refine a_iinc hS (L' := [some (rf w 26), some (iv x1), some (iv (x2 + 1))]) dX6_textEnd_21 rfl hN (Nat.le_of_ble_eq_true rfl) rfl rfl ?_
      refine a_goto hS (tgt := 2) dX6_textEnd_24 (by decide) ?_
      exact hr2 x1 (x2 + 1) q2.2
set_option maxRecDepth 100000 in
set_option maxHeartbeats 4000000 in
theorem c_Tex_textEnd {l : Launch} {w : Wd} (hW : shp w = ShA) (a0 : Int) (σ : Mem)  : Ctr l w yX6_textEnd cX6_textEnd 3 (some .int) (rmN 2 42) 1 [rf w 26, iv a0] σ (Tex_textEnd a0 σ) := by
  refine met_of (own := RX6) (by decide) rfl rfl rfl (Nat.le_of_ble_eq_true rfl) (fun X x hXl hN hS => ⟨[some (rf w 26), some (iv a0), none], ⟨1, rfl⟩, ?_⟩)
  subst hXl
  unfold Tex_textEnd
  refine a_iload_n hS dX6_textEnd_0 rfl ?_
  refine a_istore_n hS (L' := [some (rf w 26), some (iv a0), some (iv a0)]) dX6_textEnd_1 hN (Nat.le_of_ble_eq_true rfl) rfl rfl ?_
  exact k_Tex_textEnd_2 hS hN hW   100000 a0 a0 σ
noncomputable def Tex_find_10b   (r10 : Int → Int → Int → Mem → Option (Int × Mem)) (x2 : Int) (x3 : Int) (x4 : Int) (σ : Mem) : Option (Int × Mem) := if wr x4 < wr (σ 26 0) then ((Buf_byteOf x4 σ).bind fun q2 => if wr q2.1 = 32 then (r10 x2 x3 (mmaxI (x4 + 1) x3) q2.2) else (if wr q2.1 = 34 then (some (((-10) - x4), q2.2)) else (if wr (q2.2 29 2) < wr x2 then ((Tex_textEnd x4 q2.2).bind fun q3 => if 8 < wr (q3.1 - x4) then (some ((((-10) - x4) - 8), q3.2)) else ((Row_set 30 (q3.2 29 2) x4 q3.2).bind fun q4 => (Row_set 32 (q4.2 29 2) q3.1 q4.2).bind fun q5 => letM (upM q5.2 29 2 ((q5.2 29 2) + 1)) fun s6 => r10 x2 q3.1 (mmaxI (x4 + 1) q3.1) s6)) else (some (((-10) - x4), q2.2))))) else (if wr (σ 29 2) < wr x2 then (some (((-10) - (σ 26 0)), σ)) else (some (0, σ)))
noncomputable def Tex_find_10   (n : Nat) : Int → Int → Int → Mem → Option (Int × Mem) := fixN (fun _ _ _ _ => none) (Tex_find_10b  ) n
noncomputable def Tex_find (a0 : Int) (σ : Mem) : Option (Int × Mem) := letM (upM σ 29 2 0) fun s1 => Tex_find_10 100000 a0 0 0 s1
set_option maxRecDepth 100000 in
set_option maxHeartbeats 4000000 in
theorem k_Tex_find_10 {X : Cx} {w : Wd} {x : Int × Mem} (hS : Std X (rmN 3 64) w cX6_find RX6 (some .int)) (hN : cxn X = 6) (hW : shp w = ShA)   : ∀ (n : Nat) (x2 : Int) (x3 : Int) (x4 : Int) (σ : Mem), Sm X (rmN 3 64) w 1 x 10 [some (rf w 29), some (rf w 26), some (iv x2), some (iv x3), some (iv x4), none] [] σ (Tex_find_10   n x2 x3 x4 σ) := by
  refine fix_ok (P := fun (r10 : Int → Int → Int → Mem → Option (Int × Mem)) => ∀ (x2 : Int) (x3 : Int) (x4 : Int) (σ : Mem), Sm X (rmN 3 64) w 1 x 10 [some (rf w 29), some (rf w 26), some (iv x2), some (iv x3), some (iv x4), none] [] σ (r10 x2 x3 x4 σ)) (fun _ _ _ _ => a_none) (fun r10 hr10 => ?_)
  intro x2 x3 x4 σ
  unfold Tex_find_10b
  refine a_iload hS dX6_find_10 rfl ?_
  refine a_aload_n hS dX6_find_12 rfl ?_
  refine a_getI hS dX6_find_13 flX6_27 (sA26 hW) rfl ?_
  refine a_icmpge hS rfl rfl (tgt := 131) dX6_find_16 (by decide) ?_ ?_
  · refine a_aload_n hS dX6_find_131 rfl ?_
    refine a_getI hS dX6_find_132 flX6_23 (sA29 hW) rfl ?_
    refine a_iload_n hS dX6_find_135 rfl ?_
    refine a_icmpge hS rfl rfl (tgt := 149) dX6_find_136 (by decide) ?_ ?_
    · refine a_iconst hS dX6_find_149 ?_
      exact a_iret hS rfl rfl dX6_find_150
    · refine a_bipush hS dX6_find_139 rfl ?_
      refine a_aload_n hS dX6_find_141 rfl ?_
      refine a_getI hS dX6_find_142 flX6_27 (sA26 hW) rfl ?_
      refine a_isub hS dX6_find_145 ?_
      refine a_goto hS (tgt := 150) dX6_find_146 (by decide) ?_
      exact a_iret hS rfl rfl dX6_find_150
  · refine a_aload_n hS dX6_find_19 rfl ?_
    refine a_iload hS dX6_find_20 rfl ?_
    refine a_callVi hS (rst := []) (c_Buf_byteOf hW x4 σ ) miX1_byteOf mlX6_32 (sA26 hW) rfl rfl (Nat.le_of_ble_eq_true rfl) (Nat.le_of_ble_eq_true rfl) (Nat.le_of_ble_eq_true rfl) rfl dX6_find_22 (fun q2 => ?_)
    refine a_istore hS (L' := [some (rf w 29), some (rf w 26), some (iv x2), some (iv x3), some (iv x4), some (iv q2.1)]) dX6_find_25 hN (Nat.le_of_ble_eq_true rfl) rfl rfl ?_
    refine a_iload hS dX6_find_27 rfl ?_
    refine a_bipush hS dX6_find_29 rfl ?_
    refine a_icmpne hS rfl (wl 32 rfl) (tgt := 37) dX6_find_31 (by decide) ?_ ?_
    · refine a_iload hS dX6_find_37 rfl ?_
      refine a_bipush hS dX6_find_39 rfl ?_
      refine a_icmpeq hS rfl (wl 34 rfl) (tgt := 52) dX6_find_41 (by decide) ?_ ?_
      · refine a_bipush hS dX6_find_52 rfl ?_
        refine a_iload hS dX6_find_54 rfl ?_
        refine a_isub hS dX6_find_56 ?_
        exact a_iret hS rfl rfl dX6_find_57
      · refine a_aload_n hS dX6_find_44 rfl ?_
        refine a_getI hS dX6_find_45 flX6_23 (sA29 hW) rfl ?_
        refine a_iload_n hS dX6_find_48 rfl ?_
        refine a_icmplt hS rfl rfl (tgt := 58) dX6_find_49 (by decide) ?_ ?_
        · refine a_aload_n hS dX6_find_58 rfl ?_
          refine a_iload hS dX6_find_59 rfl ?_
          refine a_callSi hS (rst := []) (c_Tex_textEnd hW x4 q2.2 ) msX6_textEnd mlX6_36 rfl (Nat.le_of_ble_eq_true rfl) (Nat.le_of_ble_eq_true rfl) (Nat.le_of_ble_eq_true rfl) rfl dX6_find_61 (fun q3 => ?_)
          refine a_istore_n hS (L' := [some (rf w 29), some (rf w 26), some (iv x2), some (iv q3.1), some (iv x4), some (iv q2.1)]) dX6_find_64 hN (Nat.le_of_ble_eq_true rfl) rfl rfl ?_
          refine a_iload_n hS dX6_find_65 rfl ?_
          refine a_iload hS dX6_find_66 rfl ?_
          refine a_isub hS dX6_find_68 ?_
          refine a_bipush hS dX6_find_69 rfl ?_
          refine a_icmple hS rfl (wl 8 rfl) (tgt := 83) dX6_find_71 (by decide) ?_ ?_
          · refine a_aload_n hS dX6_find_83 rfl ?_
            refine a_getR hS (j := 30) dX6_find_84 flX6_14 (sA29 hW) rfl ?_
            refine a_aload_n hS dX6_find_87 rfl ?_
            refine a_getI hS dX6_find_88 flX6_23 (sA29 hW) rfl ?_
            refine a_iload hS dX6_find_91 rfl ?_
            refine a_callVv hS (rst := []) (c_Row_set hW 30 (q3.2 29 2) x4 q3.2 iRow30) miX5_set mlX6_40 (sA30 hW) rfl rfl (Nat.le_of_ble_eq_true rfl) (Nat.le_of_ble_eq_true rfl) (Nat.le_of_ble_eq_true rfl) rfl dX6_find_93 (fun q4 => ?_)
            refine a_aload_n hS dX6_find_96 rfl ?_
            refine a_getR hS (j := 32) dX6_find_97 flX6_20 (sA29 hW) rfl ?_
            refine a_aload_n hS dX6_find_100 rfl ?_
            refine a_getI hS dX6_find_101 flX6_23 (sA29 hW) rfl ?_
            refine a_iload_n hS dX6_find_104 rfl ?_
            refine a_callVv hS (rst := []) (c_Row_set hW 32 (q4.2 29 2) q3.1 q4.2 iRow32) miX5_set mlX6_40 (sA32 hW) rfl rfl (Nat.le_of_ble_eq_true rfl) (Nat.le_of_ble_eq_true rfl) (Nat.le_of_ble_eq_true rfl) rfl dX6_find_105 (fun q5 => ?_)
            refine a_aload_n hS dX6_find_108 rfl ?_
            refine a_dup hS rfl dX6_find_109 ?_
            refine a_getI hS dX6_find_110 flX6_23 (sA29 hW) rfl ?_
            refine a_iconst hS dX6_find_113 ?_
            refine a_iadd hS dX6_find_114 ?_
            refine a_putI hS dX6_find_115 plX6_23 (sA29 hW) rfl ?_
            refine a_letM (fun s6 => ?_)
            refine a_iload hS dX6_find_118 rfl ?_
            refine a_iconst hS dX6_find_120 ?_
            refine a_iadd hS dX6_find_121 ?_
            refine a_iload_n hS dX6_find_122 rfl ?_
            refine a_mmax hS mlMX6_44 mmmax2 mm3 mmmax4 (Nat.le_of_ble_eq_true rfl) (Nat.le_of_ble_eq_true rfl) dX6_find_123 ?_
            refine a_istore hS (L' := [some (rf w 29), some (rf w 26), some (iv x2), some (iv q3.1), some (iv (mmaxI (x4 + 1) q3.1)), some (iv q2.1)]) dX6_find_126 hN (Nat.le_of_ble_eq_true rfl) rfl rfl ?_
            refine a_goto hS (tgt := 10) dX6_find_128 (by decide) ?_
            exact a_live (M := [true, true, true, true, true, false]) (hr10 x2 q3.1 (mmaxI (x4 + 1) q3.1) s6) rfl
          · refine a_bipush hS dX6_find_74 rfl ?_
            refine a_iload hS dX6_find_76 rfl ?_
            refine a_isub hS dX6_find_78 ?_
            refine a_bipush hS dX6_find_79 rfl ?_
            refine a_isub hS dX6_find_81 ?_
            exact a_iret hS rfl rfl dX6_find_82
        · refine a_bipush hS dX6_find_52 rfl ?_
          refine a_iload hS dX6_find_54 rfl ?_
          refine a_isub hS dX6_find_56 ?_
          exact a_iret hS rfl rfl dX6_find_57
    · refine a_goto hS (tgt := 118) dX6_find_34 (by decide) ?_
      refine a_iload hS dX6_find_118 rfl ?_
      refine a_iconst hS dX6_find_120 ?_
      refine a_iadd hS dX6_find_121 ?_
      refine a_iload_n hS dX6_find_122 rfl ?_
      refine a_mmax hS mlMX6_44 mmmax2 mm3 mmmax4 (Nat.le_of_ble_eq_true rfl) (Nat.le_of_ble_eq_true rfl) dX6_find_123 ?_
      refine a_istore hS (L' := [some (rf w 29), some (rf w 26), some (iv x2), some (iv x3), some (iv (mmaxI (x4 + 1) x3)), some (iv q2.1)]) dX6_find_126 hN (Nat.le_of_ble_eq_true rfl) rfl rfl ?_
      refine a_goto hS (tgt := 10) dX6_find_128 (by decide) ?_
      exact a_live (M := [true, true, true, true, true, false]) (hr10 x2 x3 (mmaxI (x4 + 1) x3) q2.2) rfl
set_option maxRecDepth 100000 in
set_option maxHeartbeats 4000000 in
theorem c_Tex_find {l : Launch} {w : Wd} (hW : shp w = ShA) (a0 : Int) (σ : Mem)  : Ctr l w yX6_find cX6_find 6 (some .int) (rmN 3 64) 1 [rf w 29, rf w 26, iv a0] σ (Tex_find a0 σ) := by
  refine met_of (own := RX6) (by decide) rfl rfl rfl (Nat.le_of_ble_eq_true rfl) (fun X x hXl hN hS => ⟨[some (rf w 29), some (rf w 26), some (iv a0), none, none, none], ⟨3, rfl⟩, ?_⟩)
  subst hXl
  unfold Tex_find
  refine a_aload_n hS dX6_find_0 rfl ?_
  refine a_iconst hS dX6_find_1 ?_
  refine a_putI hS dX6_find_2 plX6_23 (sA29 hW) rfl ?_
  refine a_letM (fun s1 => ?_)
  refine a_iconst hS dX6_find_5 ?_
  refine a_istore_n hS (L' := [some (rf w 29), some (rf w 26), some (iv a0), some (iv 0), none, none]) dX6_find_6 hN (Nat.le_of_ble_eq_true rfl) rfl rfl ?_
  refine a_iconst hS dX6_find_7 ?_
  refine a_istore hS (L' := [some (rf w 29), some (rf w 26), some (iv a0), some (iv 0), some (iv 0), none]) dX6_find_8 hN (Nat.le_of_ble_eq_true rfl) rfl rfl ?_
  exact k_Tex_find_10 hS hN hW   100000 a0 0 0 s1
noncomputable def Tex_write_23b (r3 : Int → Int → Mem → Option (Int × Mem))  (r23 : Int → Int → Int → Mem → Option (Int × Mem)) (x3 : Int) (x4 : Int) (x5 : Int) (σ : Mem) : Option (Int × Mem) := (Row_get 32 x4 σ).bind fun q2 => if wr x5 < wr q2.1 then ((Buf_byteOf x5 q2.2).bind fun q3 => (Rul_appendText x3 x4 q3.1 q3.2).bind fun q4 => r23 x3 x4 (x5 + 1) q4.2) else (r3 x3 (x4 + 1) q2.2)
noncomputable def Tex_write_23 (r3 : Int → Int → Mem → Option (Int × Mem))  (n : Nat) : Int → Int → Int → Mem → Option (Int × Mem) := fixN (fun _ _ _ _ => none) (Tex_write_23b r3 ) n
noncomputable def Tex_write_3b   (r3 : Int → Int → Mem → Option (Int × Mem)) (x3 : Int) (x4 : Int) (σ : Mem) : Option (Int × Mem) := if wr x4 < wr (σ 29 2) then ((Row_get 30 x4 σ).bind fun q1 => Tex_write_23 r3 100000 x3 x4 q1.1 q1.2) else (some (0, σ))
noncomputable def Tex_write_3   (n : Nat) : Int → Int → Mem → Option (Int × Mem) := fixN (fun _ _ _ => none) (Tex_write_3b  ) n
noncomputable def Tex_write (a0 : Int) (σ : Mem) : Option (Int × Mem) := Tex_write_3 100000 a0 0 σ
set_option maxRecDepth 100000 in
set_option maxHeartbeats 4000000 in
theorem k_Tex_write_23 {X : Cx} {w : Wd} {x : Int × Mem} (hS : Std X (rmN 2 47) w cX6_write RX6 none) (hN : cxn X = 6) (hW : shp w = ShA)  (r3 : Int → Int → Mem → Option (Int × Mem)) (hr3 : ∀ (x3 : Int) (x4 : Int) (σ : Mem), Sm X (rmN 2 47) w 0 x 3 [some (rf w 29), some (rf w 26), some (rf w 11), some (iv x3), some (iv x4), none] [] σ (r3 x3 x4 σ)) : ∀ (n : Nat) (x3 : Int) (x4 : Int) (x5 : Int) (σ : Mem), Sm X (rmN 2 47) w 0 x 23 [some (rf w 29), some (rf w 26), some (rf w 11), some (iv x3), some (iv x4), some (iv x5)] [] σ (Tex_write_23 r3  n x3 x4 x5 σ) := by
  refine fix_ok (P := fun (r23 : Int → Int → Int → Mem → Option (Int × Mem)) => ∀ (x3 : Int) (x4 : Int) (x5 : Int) (σ : Mem), Sm X (rmN 2 47) w 0 x 23 [some (rf w 29), some (rf w 26), some (rf w 11), some (iv x3), some (iv x4), some (iv x5)] [] σ (r23 x3 x4 x5 σ)) (fun _ _ _ _ => a_none) (fun r23 hr23 => ?_)
  intro x3 x4 x5 σ
  unfold Tex_write_23b
  refine a_iload hS dX6_write_23 rfl ?_
  refine a_aload_n hS dX6_write_25 rfl ?_
  refine a_getR hS (j := 32) dX6_write_26 flX6_20 (sA29 hW) rfl ?_
  refine a_iload hS dX6_write_29 rfl ?_
  refine a_callVi hS (rst := [iv x5]) (c_Row_get hW 32 x4 σ iRow32) miX5_get mlX6_54 (sA32 hW) rfl rfl (Nat.le_of_ble_eq_true rfl) (Nat.le_of_ble_eq_true rfl) (Nat.le_of_ble_eq_true rfl) rfl dX6_write_31 (fun q2 => ?_)
  refine a_icmpge hS rfl rfl (tgt := 56) dX6_write_34 (by decide) ?_ ?_
  · refine a_iinc hS (L' := [some (rf w 29), some (rf w 26), some (rf w 11), some (iv x3), some (iv (x4 + 1)), some (iv x5)]) dX6_write_56 rfl hN (Nat.le_of_ble_eq_true rfl) rfl rfl ?_
    refine a_goto hS (tgt := 3) dX6_write_59 (by decide) ?_
    exact a_live (M := [true, true, true, true, true, false]) (hr3 x3 (x4 + 1) q2.2) rfl
  · refine a_aload_n hS dX6_write_37 rfl ?_
    refine a_iload_n hS dX6_write_38 rfl ?_
    refine a_iload hS dX6_write_39 rfl ?_
    refine a_aload_n hS dX6_write_41 rfl ?_
    refine a_iload hS dX6_write_42 rfl ?_
    refine a_callVi hS (rst := [iv x4, iv x3, rf w 11]) (c_Buf_byteOf hW x5 q2.2 ) miX1_byteOf mlX6_32 (sA26 hW) rfl rfl (Nat.le_of_ble_eq_true rfl) (Nat.le_of_ble_eq_true rfl) (Nat.le_of_ble_eq_true rfl) rfl dX6_write_44 (fun q3 => ?_)
    refine a_callVv hS (rst := []) (c_Rul_appendText hW x3 x4 q3.1 q3.2 ) miX7_appendText mlX6_57 (sA11 hW) rfl rfl (Nat.le_of_ble_eq_true rfl) (Nat.le_of_ble_eq_true rfl) (Nat.le_of_ble_eq_true rfl) rfl dX6_write_47 (fun q4 => ?_)
    refine a_iinc hS (L' := [some (rf w 29), some (rf w 26), some (rf w 11), some (iv x3), some (iv x4), some (iv (x5 + 1))]) dX6_write_50 rfl hN (Nat.le_of_ble_eq_true rfl) rfl rfl ?_
    refine a_goto hS (tgt := 23) dX6_write_53 (by decide) ?_
    exact hr23 x3 x4 (x5 + 1) q4.2
set_option maxRecDepth 100000 in
set_option maxHeartbeats 4000000 in
theorem k_Tex_write_3 {X : Cx} {w : Wd} {x : Int × Mem} (hS : Std X (rmN 2 47) w cX6_write RX6 none) (hN : cxn X = 6) (hW : shp w = ShA)   : ∀ (n : Nat) (x3 : Int) (x4 : Int) (σ : Mem), Sm X (rmN 2 47) w 0 x 3 [some (rf w 29), some (rf w 26), some (rf w 11), some (iv x3), some (iv x4), none] [] σ (Tex_write_3   n x3 x4 σ) := by
  refine fix_ok (P := fun (r3 : Int → Int → Mem → Option (Int × Mem)) => ∀ (x3 : Int) (x4 : Int) (σ : Mem), Sm X (rmN 2 47) w 0 x 3 [some (rf w 29), some (rf w 26), some (rf w 11), some (iv x3), some (iv x4), none] [] σ (r3 x3 x4 σ)) (fun _ _ _ => a_none) (fun r3 hr3 => ?_)
  intro x3 x4 σ
  unfold Tex_write_3b
  refine a_iload hS dX6_write_3 rfl ?_
  refine a_aload_n hS dX6_write_5 rfl ?_
  refine a_getI hS dX6_write_6 flX6_23 (sA29 hW) rfl ?_
  refine a_icmpge hS rfl rfl (tgt := 62) dX6_write_9 (by decide) ?_ ?_
  · exact a_vret hS rfl rfl dX6_write_62
  · refine a_aload_n hS dX6_write_12 rfl ?_
    refine a_getR hS (j := 30) dX6_write_13 flX6_14 (sA29 hW) rfl ?_
    refine a_iload hS dX6_write_16 rfl ?_
    refine a_callVi hS (rst := []) (c_Row_get hW 30 x4 σ iRow30) miX5_get mlX6_54 (sA30 hW) rfl rfl (Nat.le_of_ble_eq_true rfl) (Nat.le_of_ble_eq_true rfl) (Nat.le_of_ble_eq_true rfl) rfl dX6_write_18 (fun q1 => ?_)
    refine a_istore hS (L' := [some (rf w 29), some (rf w 26), some (rf w 11), some (iv x3), some (iv x4), some (iv q1.1)]) dX6_write_21 hN (Nat.le_of_ble_eq_true rfl) rfl rfl ?_
    exact k_Tex_write_23 hS hN hW  r3 hr3 100000 x3 x4 q1.1 q1.2
set_option maxRecDepth 100000 in
set_option maxHeartbeats 4000000 in
theorem c_Tex_write {l : Launch} {w : Wd} (hW : shp w = ShA) (a0 : Int) (σ : Mem)  : Ctr l w yX6_write cX6_write 6 none (rmN 2 47) 0 [rf w 29, rf w 26, rf w 11, iv a0] σ (Tex_write a0 σ) := by
  refine met_of (own := RX6) (by decide) rfl rfl rfl (Nat.le_of_ble_eq_true rfl) (fun X x hXl hN hS => ⟨[some (rf w 29), some (rf w 26), some (rf w 11), some (iv a0), none, none], ⟨2, rfl⟩, ?_⟩)
  subst hXl
  unfold Tex_write
  refine a_iconst hS dX6_write_0 ?_
  refine a_istore hS (L' := [some (rf w 29), some (rf w 26), some (rf w 11), some (iv a0), some (iv 0), none]) dX6_write_1 hN (Nat.le_of_ble_eq_true rfl) rfl rfl ?_
  exact k_Tex_write_3 hS hN hW   100000 a0 0 σ
