noncomputable def Md_in (a0 : Int) (a1 : Int) (a2 : Int) (σ : Mem) : Option (Int × Mem) := if wr a0 < wr a1 then (some (0, σ)) else (if wr a2 < wr a0 then (some (0, σ)) else (some (1, σ)))
set_option maxRecDepth 100000 in
set_option maxHeartbeats 4000000 in
theorem c_Md_in {l : Launch} {w : Wd} (hW : shp w = ShB) (a0 : Int) (a1 : Int) (a2 : Int) (σ : Mem)  : Ctr l w yX12_in cX12_in 3 (some .boolean) (rmN 0 0) 1 [iv a0, iv a1, iv a2] σ (Md_in a0 a1 a2 σ) := by
  refine met_of (own := RX12) (by decide) rfl rfl rfl (Nat.le_of_ble_eq_true rfl) (fun X x hXl hN hS => ⟨[some (iv a0), some (iv a1), some (iv a2)], ⟨0, rfl⟩, ?_⟩)
  subst hXl
  unfold Md_in
  refine a_iload_n hS dX12_in_0 rfl ?_
  refine a_iload_n hS dX12_in_1 rfl ?_
  refine a_icmplt hS rfl rfl (tgt := 14) dX12_in_2 (by decide) ?_ ?_
  · refine a_iconst hS dX12_in_14 ?_
    exact a_zret hS (by decide) rfl rfl dX12_in_15
  · refine a_iload_n hS dX12_in_5 rfl ?_
    refine a_iload_n hS dX12_in_6 rfl ?_
    refine a_icmpgt hS rfl rfl (tgt := 14) dX12_in_7 (by decide) ?_ ?_
    · refine a_iconst hS dX12_in_14 ?_
      exact a_zret hS (by decide) rfl rfl dX12_in_15
    · refine a_iconst hS dX12_in_10 ?_
      refine a_goto hS (tgt := 15) dX12_in_11 (by decide) ?_
      exact a_zret hS (by decide) rfl rfl dX12_in_15
noncomputable def Md_least (a0 : Int) (a1 : Int) (σ : Mem) : Option (Int × Mem) := if wr a0 < wr a1 then (some (a0, σ)) else (some (a1, σ))
set_option maxRecDepth 100000 in
set_option maxHeartbeats 4000000 in
theorem c_Md_least {l : Launch} {w : Wd} (hW : shp w = ShB) (a0 : Int) (a1 : Int) (σ : Mem)  : Ctr l w yX12_least cX12_least 2 (some .int) (rmN 0 0) 1 [iv a0, iv a1] σ (Md_least a0 a1 σ) := by
  refine met_of (own := RX12) (by decide) rfl rfl rfl (Nat.le_of_ble_eq_true rfl) (fun X x hXl hN hS => ⟨[some (iv a0), some (iv a1)], ⟨0, rfl⟩, ?_⟩)
  subst hXl
  unfold Md_least
  refine a_iload_n hS dX12_least_0 rfl ?_
  refine a_iload_n hS dX12_least_1 rfl ?_
  refine a_icmpge hS rfl rfl (tgt := 9) dX12_least_2 (by decide) ?_ ?_
  · refine a_iload_n hS dX12_least_9 rfl ?_
    exact a_iret hS rfl rfl dX12_least_10
  · refine a_iload_n hS dX12_least_5 rfl ?_
    refine a_goto hS (tgt := 10) dX12_least_6 (by decide) ?_
    exact a_iret hS rfl rfl dX12_least_10
noncomputable def Md_copies_2b   (r2 : Int → Int → Int → Mem → Option (Int × Mem)) (x1 : Int) (x2 : Int) (x3 : Int) (σ : Mem) : Option (Int × Mem) := if wr x3 < 980 then (if 0 ≤ wr ((980 * x1) + x3) ∧ wr ((980 * x1) + x3) < (10780 : Int) then (if 0 ≤ wr ((980 * x2) + x3) ∧ wr ((980 * x2) + x3) < (10780 : Int) then (letM (upM σ 1 (wr ((980 * x2) + x3)).toNat (σ 1 (wr ((980 * x1) + x3)).toNat)) fun s1 => r2 x1 x2 (x3 + 1) s1) else none) else none) else (some (0, σ))
noncomputable def Md_copies_2   (n : Nat) : Int → Int → Int → Mem → Option (Int × Mem) := fixN (fun _ _ _ _ => none) (Md_copies_2b  ) n
noncomputable def Md_copies (a0 : Int) (a1 : Int) (σ : Mem) : Option (Int × Mem) := Md_copies_2 100000 a0 a1 0 σ
set_option maxRecDepth 100000 in
set_option maxHeartbeats 4000000 in
theorem k_Md_copies_2 {X : Cx} {w : Wd} {x : Int × Mem} (hS : Std X (rmN 0 0) w cX12_copies RX12 none) (hN : cxn X = 4) (hW : shp w = ShB)   : ∀ (n : Nat) (x1 : Int) (x2 : Int) (x3 : Int) (σ : Mem), Sm X (rmN 0 0) w 0 x 2 [some (rf w 0), some (iv x1), some (iv x2), some (iv x3)] [] σ (Md_copies_2   n x1 x2 x3 σ) := by
  refine fix_ok (P := fun (r2 : Int → Int → Int → Mem → Option (Int × Mem)) => ∀ (x1 : Int) (x2 : Int) (x3 : Int) (σ : Mem), Sm X (rmN 0 0) w 0 x 2 [some (rf w 0), some (iv x1), some (iv x2), some (iv x3)] [] σ (r2 x1 x2 x3 σ)) (fun _ _ _ _ => a_none) (fun r2 hr2 => ?_)
  intro x1 x2 x3 σ
  unfold Md_copies_2b
  refine a_iload_n hS dX12_copies_2 rfl ?_
  refine a_sipush hS dX12_copies_3 rfl ?_
  refine a_icmpge hS rfl (wl 980 rfl) (tgt := 39) dX12_copies_6 (by decide) ?_ ?_
  · exact a_vret hS rfl rfl dX12_copies_39
  · refine a_aload_n hS dX12_copies_9 rfl ?_
    refine a_getR hS (j := 1) dX12_copies_10 flX12_7 (sB0 hW) rfl ?_
    refine a_sipush hS dX12_copies_13 rfl ?_
    refine a_iload_n hS dX12_copies_16 rfl ?_
    refine a_imul hS dX12_copies_17 ?_
    refine a_iload_n hS dX12_copies_18 rfl ?_
    refine a_iadd hS dX12_copies_19 ?_
    refine a_aload_n hS dX12_copies_20 rfl ?_
    refine a_getR hS (j := 1) dX12_copies_21 flX12_7 (sB0 hW) rfl ?_
    refine a_sipush hS dX12_copies_24 rfl ?_
    refine a_iload_n hS dX12_copies_27 rfl ?_
    refine a_imul hS dX12_copies_28 ?_
    refine a_iload_n hS dX12_copies_29 rfl ?_
    refine a_iadd hS dX12_copies_30 ?_
    refine a_iald hS dX12_copies_31 (sB1 hW) ?_
    refine a_iast hS (sB1 hW) dX12_copies_32 ?_
    refine a_letM (fun s1 => ?_)
    refine a_iinc hS (L' := [some (rf w 0), some (iv x1), some (iv x2), some (iv (x3 + 1))]) dX12_copies_33 rfl hN (Nat.le_of_ble_eq_true rfl) rfl rfl ?_
    refine a_goto hS (tgt := 2) dX12_copies_36 (by decide) ?_
    exact hr2 x1 x2 (x3 + 1) s1
set_option maxRecDepth 100000 in
set_option maxHeartbeats 4000000 in
theorem c_Md_copies {l : Launch} {w : Wd} (hW : shp w = ShB) (a0 : Int) (a1 : Int) (σ : Mem)  : Ctr l w yX12_copies cX12_copies 4 none (rmN 0 0) 0 [rf w 0, iv a0, iv a1] σ (Md_copies a0 a1 σ) := by
  refine met_of (own := RX12) (by decide) rfl rfl rfl (Nat.le_of_ble_eq_true rfl) (fun X x hXl hN hS => ⟨[some (rf w 0), some (iv a0), some (iv a1), none], ⟨1, rfl⟩, ?_⟩)
  subst hXl
  unfold Md_copies
  refine a_iconst hS dX12_copies_0 ?_
  refine a_istore_n hS (L' := [some (rf w 0), some (iv a0), some (iv a1), some (iv 0)]) dX12_copies_1 hN (Nat.le_of_ble_eq_true rfl) rfl rfl ?_
  exact k_Md_copies_2 hS hN hW   100000 a0 a1 0 σ
noncomputable def Md_begins_41    (σ : Mem) : Option (Int × Mem) := (Md_copies 0 (1 + (σ 0 1)) σ).bind fun q3 => letM (upM q3.2 0 1 ((q3.2 0 1) + 1)) fun s4 => some (0, s4)
noncomputable def Md_begins_11b   (r11 : Int → Mem → Option (Int × Mem)) (x1 : Int) (σ : Mem) : Option (Int × Mem) := if wr x1 < 8 then ((Md_copies (x1 + 1) x1 σ).bind fun q2 => r11 (x1 + 1) q2.2) else (letM (upM σ 0 1 ((σ 0 1) - 1)) fun s1 => Md_begins_41 s1)
noncomputable def Md_begins_11   (n : Nat) : Int → Mem → Option (Int × Mem) := fixN (fun _ _ => none) (Md_begins_11b  ) n
noncomputable def Md_begins  (σ : Mem) : Option (Int × Mem) := if wr (σ 0 1) = 8 then (Md_begins_11 100000 1 σ) else (Md_begins_41 σ)
set_option maxRecDepth 100000 in
set_option maxHeartbeats 4000000 in
theorem k_Md_begins_41 {X : Cx} {w : Wd} {x : Int × Mem} (hS : Std X (rmN 1 23) w cX12_begins RX12 none) (hN : cxn X = 2) (hW : shp w = ShB)   : ∀  (σ : Mem), Sm X (rmN 1 23) w 0 x 41 [some (rf w 0), none] [] σ (Md_begins_41    σ) := by
  intro  σ
  unfold Md_begins_41
  refine a_aload_n hS dX12_begins_41 rfl ?_
  refine a_iconst hS dX12_begins_42 ?_
  refine a_iconst hS dX12_begins_43 ?_
  refine a_aload_n hS dX12_begins_44 rfl ?_
  refine a_getI hS dX12_begins_45 flX12_71 (sB0 hW) rfl ?_
  refine a_iadd hS dX12_begins_48 ?_
  refine a_callVv hS (rst := []) (c_Md_copies hW 0 (1 + (σ 0 1)) σ ) miX12_copies mlX12_75 (sB0 hW) rfl rfl (Nat.le_of_ble_eq_true rfl) (Nat.le_of_ble_eq_true rfl) (Nat.le_of_ble_eq_true rfl) rfl dX12_begins_49 (fun q3 => ?_)
  refine a_aload_n hS dX12_begins_52 rfl ?_
  refine a_dup hS rfl dX12_begins_53 ?_
  refine a_getI hS dX12_begins_54 flX12_71 (sB0 hW) rfl ?_
  refine a_iconst hS dX12_begins_57 ?_
  refine a_iadd hS dX12_begins_58 ?_
  refine a_putI hS dX12_begins_59 plX12_71 (sB0 hW) rfl ?_
  refine a_letM (fun s4 => ?_)
  exact a_vret hS rfl rfl dX12_begins_62
set_option maxRecDepth 100000 in
set_option maxHeartbeats 4000000 in
theorem k_Md_begins_11 {X : Cx} {w : Wd} {x : Int × Mem} (hS : Std X (rmN 1 23) w cX12_begins RX12 none) (hN : cxn X = 2) (hW : shp w = ShB)   : ∀ (n : Nat) (x1 : Int) (σ : Mem), Sm X (rmN 1 23) w 0 x 11 [some (rf w 0), some (iv x1)] [] σ (Md_begins_11   n x1 σ) := by
  refine fix_ok (P := fun (r11 : Int → Mem → Option (Int × Mem)) => ∀ (x1 : Int) (σ : Mem), Sm X (rmN 1 23) w 0 x 11 [some (rf w 0), some (iv x1)] [] σ (r11 x1 σ)) (fun _ _ => a_none) (fun r11 hr11 => ?_)
  intro x1 σ
  unfold Md_begins_11b
  refine a_iload_n hS dX12_begins_11 rfl ?_
  refine a_bipush hS dX12_begins_12 rfl ?_
  refine a_icmpge hS rfl (wl 8 rfl) (tgt := 31) dX12_begins_14 (by decide) ?_ ?_
  · refine a_aload_n hS dX12_begins_31 rfl ?_
    refine a_dup hS rfl dX12_begins_32 ?_
    refine a_getI hS dX12_begins_33 flX12_71 (sB0 hW) rfl ?_
    refine a_iconst hS dX12_begins_36 ?_
    refine a_isub hS dX12_begins_37 ?_
    refine a_putI hS dX12_begins_38 plX12_71 (sB0 hW) rfl ?_
    refine a_letM (fun s1 => ?_)
    exact a_live (M := [true, false]) (k_Md_begins_41 hS hN hW    s1) rfl
  · refine a_aload_n hS dX12_begins_17 rfl ?_
    refine a_iload_n hS dX12_begins_18 rfl ?_
    refine a_iconst hS dX12_begins_19 ?_
    refine a_iadd hS dX12_begins_20 ?_
    refine a_iload_n hS dX12_begins_21 rfl ?_
    refine a_callVv hS (rst := []) (c_Md_copies hW (x1 + 1) x1 σ ) miX12_copies mlX12_75 (sB0 hW) rfl rfl (Nat.le_of_ble_eq_true rfl) (Nat.le_of_ble_eq_true rfl) (Nat.le_of_ble_eq_true rfl) rfl dX12_begins_22 (fun q2 => ?_)
    refine a_iinc hS (L' := [some (rf w 0), some (iv (x1 + 1))]) dX12_begins_25 rfl hN (Nat.le_of_ble_eq_true rfl) rfl rfl ?_
    refine a_goto hS (tgt := 11) dX12_begins_28 (by decide) ?_
    exact hr11 (x1 + 1) q2.2
set_option maxRecDepth 100000 in
set_option maxHeartbeats 4000000 in
theorem c_Md_begins {l : Launch} {w : Wd} (hW : shp w = ShB)  (σ : Mem)  : Ctr l w yX12_begins cX12_begins 2 none (rmN 1 23) 0 [rf w 0] σ (Md_begins  σ) := by
  refine met_of (own := RX12) (by decide) rfl rfl rfl (Nat.le_of_ble_eq_true rfl) (fun X x hXl hN hS => ⟨[some (rf w 0), none], ⟨1, rfl⟩, ?_⟩)
  subst hXl
  unfold Md_begins
  refine a_aload_n hS dX12_begins_0 rfl ?_
  refine a_getI hS dX12_begins_1 flX12_71 (sB0 hW) rfl ?_
  refine a_bipush hS dX12_begins_4 rfl ?_
  refine a_icmpne hS rfl (wl 8 rfl) (tgt := 41) dX12_begins_6 (by decide) ?_ ?_
  · exact k_Md_begins_41 hS hN hW    σ
  · refine a_iconst hS dX12_begins_9 ?_
    refine a_istore_n hS (L' := [some (rf w 0), some (iv 1)]) dX12_begins_10 hN (Nat.le_of_ble_eq_true rfl) rfl rfl ?_
    exact k_Md_begins_11 hS hN hW   100000 1 σ
noncomputable def Md_isLine (a0 : Int) (σ : Mem) : Option (Int × Mem) := if 0 ≤ wr 0 ∧ wr 0 < (10780 : Int) then ((Md_in a0 0 ((σ 1 (wr 0).toNat) - 1) σ).bind fun q1 => if q1.1 = 0 ∨ q1.1 = 1 then some (q1.1, q1.2) else none) else none
set_option maxRecDepth 100000 in
set_option maxHeartbeats 4000000 in
theorem c_Md_isLine {l : Launch} {w : Wd} (hW : shp w = ShB) (a0 : Int) (σ : Mem)  : Ctr l w yX12_isLine cX12_isLine 2 (some .boolean) (rmN 1 22) 1 [rf w 0, iv a0] σ (Md_isLine a0 σ) := by
  refine met_of (own := RX12) (by decide) rfl rfl rfl (Nat.le_of_ble_eq_true rfl) (fun X x hXl hN hS => ⟨[some (rf w 0), some (iv a0)], ⟨0, rfl⟩, ?_⟩)
  subst hXl
  unfold Md_isLine
  refine a_iload_n hS dX12_isLine_0 rfl ?_
  refine a_iconst hS dX12_isLine_1 ?_
  refine a_aload_n hS dX12_isLine_2 rfl ?_
  refine a_getR hS (j := 1) dX12_isLine_3 flX12_7 (sB0 hW) rfl ?_
  refine a_iconst hS dX12_isLine_6 ?_
  refine a_iald hS dX12_isLine_7 (sB1 hW) ?_
  refine a_iconst hS dX12_isLine_8 ?_
  refine a_isub hS dX12_isLine_9 ?_
  refine a_callSi hS (rst := []) (c_Md_in hW a0 0 ((σ 1 (wr 0).toNat) - 1) σ ) msX12_in mlX12_79 rfl (Nat.le_of_ble_eq_true rfl) (Nat.le_of_ble_eq_true rfl) (Nat.le_of_ble_eq_true rfl) rfl dX12_isLine_10 (fun q1 => ?_)
  exact a_zretv hS rfl rfl dX12_isLine_13
noncomputable def Md_isBlank (a0 : Int) (σ : Mem) : Option (Int × Mem) := if 0 ≤ wr (21 + a0) ∧ wr (21 + a0) < (10780 : Int) then (if wr (σ 1 (wr (21 + a0)).toNat) = 0 then (some (1, σ)) else (some (0, σ))) else none
set_option maxRecDepth 100000 in
set_option maxHeartbeats 4000000 in
theorem c_Md_isBlank {l : Launch} {w : Wd} (hW : shp w = ShB) (a0 : Int) (σ : Mem)  : Ctr l w yX12_isBlank cX12_isBlank 2 (some .boolean) (rmN 0 0) 1 [rf w 0, iv a0] σ (Md_isBlank a0 σ) := by
  refine met_of (own := RX12) (by decide) rfl rfl rfl (Nat.le_of_ble_eq_true rfl) (fun X x hXl hN hS => ⟨[some (rf w 0), some (iv a0)], ⟨0, rfl⟩, ?_⟩)
  subst hXl
  unfold Md_isBlank
  refine a_aload_n hS dX12_isBlank_0 rfl ?_
  refine a_getR hS (j := 1) dX12_isBlank_1 flX12_7 (sB0 hW) rfl ?_
  refine a_bipush hS dX12_isBlank_4 rfl ?_
  refine a_iload_n hS dX12_isBlank_6 rfl ?_
  refine a_iadd hS dX12_isBlank_7 ?_
  refine a_iald hS dX12_isBlank_8 (sB1 hW) ?_
  refine a_ifne hS rfl  (tgt := 16) dX12_isBlank_9 (by decide) ?_ ?_
  · refine a_iconst hS dX12_isBlank_16 ?_
    exact a_zret hS (by decide) rfl rfl dX12_isBlank_17
  · refine a_iconst hS dX12_isBlank_12 ?_
    refine a_goto hS (tgt := 17) dX12_isBlank_13 (by decide) ?_
    exact a_zret hS (by decide) rfl rfl dX12_isBlank_17
noncomputable def Md_contentAt (a0 : Int) (a1 : Int) (σ : Mem) : Option (Int × Mem) := if 0 ≤ wr (21 + a0) ∧ wr (21 + a0) < (10780 : Int) then (if wr a1 < wr (σ 1 (wr (21 + a0)).toNat) then (if 0 ≤ wr ((61 + (32 * a0)) + a1) ∧ wr ((61 + (32 * a0)) + a1) < (10780 : Int) then (some ((σ 1 (wr ((61 + (32 * a0)) + a1)).toNat), σ)) else none) else (some ((-9), σ))) else none
set_option maxRecDepth 100000 in
set_option maxHeartbeats 4000000 in
theorem c_Md_contentAt {l : Launch} {w : Wd} (hW : shp w = ShB) (a0 : Int) (a1 : Int) (σ : Mem)  : Ctr l w yX12_contentAt cX12_contentAt 3 (some .int) (rmN 0 0) 1 [rf w 0, iv a0, iv a1] σ (Md_contentAt a0 a1 σ) := by
  refine met_of (own := RX12) (by decide) rfl rfl rfl (Nat.le_of_ble_eq_true rfl) (fun X x hXl hN hS => ⟨[some (rf w 0), some (iv a0), some (iv a1)], ⟨0, rfl⟩, ?_⟩)
  subst hXl
  unfold Md_contentAt
  refine a_iload_n hS dX12_contentAt_0 rfl ?_
  refine a_aload_n hS dX12_contentAt_1 rfl ?_
  refine a_getR hS (j := 1) dX12_contentAt_2 flX12_7 (sB0 hW) rfl ?_
  refine a_bipush hS dX12_contentAt_5 rfl ?_
  refine a_iload_n hS dX12_contentAt_7 rfl ?_
  refine a_iadd hS dX12_contentAt_8 ?_
  refine a_iald hS dX12_contentAt_9 (sB1 hW) ?_
  refine a_icmpge hS rfl rfl (tgt := 30) dX12_contentAt_10 (by decide) ?_ ?_
  · refine a_bipush hS dX12_contentAt_30 rfl ?_
    exact a_iret hS rfl rfl dX12_contentAt_32
  · refine a_aload_n hS dX12_contentAt_13 rfl ?_
    refine a_getR hS (j := 1) dX12_contentAt_14 flX12_7 (sB0 hW) rfl ?_
    refine a_bipush hS dX12_contentAt_17 rfl ?_
    refine a_bipush hS dX12_contentAt_19 rfl ?_
    refine a_iload_n hS dX12_contentAt_21 rfl ?_
    refine a_imul hS dX12_contentAt_22 ?_
    refine a_iadd hS dX12_contentAt_23 ?_
    refine a_iload_n hS dX12_contentAt_24 rfl ?_
    refine a_iadd hS dX12_contentAt_25 ?_
    refine a_iald hS dX12_contentAt_26 (sB1 hW) ?_
    refine a_goto hS (tgt := 32) dX12_contentAt_27 (by decide) ?_
    exact a_iret hS rfl rfl dX12_contentAt_32
noncomputable def Md_isWord (a0 : Int) (σ : Mem) : Option (Int × Mem) := (Md_in a0 97 122 σ).bind fun q1 => if wr q1.1 = 0 then ((Md_in a0 65 90 q1.2).bind fun q2 => if wr q2.1 = 0 then ((Md_in a0 48 57 q2.2).bind fun q3 => if wr q3.1 = 0 then (if wr a0 = 95 then (some (1, q3.2)) else (some (0, q3.2))) else (some (1, q3.2))) else (some (1, q2.2))) else (some (1, q1.2))
set_option maxRecDepth 100000 in
set_option maxHeartbeats 4000000 in
theorem c_Md_isWord {l : Launch} {w : Wd} (hW : shp w = ShB) (a0 : Int) (σ : Mem)  : Ctr l w yX12_isWord cX12_isWord 1 (some .boolean) (rmN 1 22) 1 [iv a0] σ (Md_isWord a0 σ) := by
  refine met_of (own := RX12) (by decide) rfl rfl rfl (Nat.le_of_ble_eq_true rfl) (fun X x hXl hN hS => ⟨[some (iv a0)], ⟨0, rfl⟩, ?_⟩)
  subst hXl
  unfold Md_isWord
  refine a_iload_n hS dX12_isWord_0 rfl ?_
  refine a_bipush hS dX12_isWord_1 rfl ?_
  refine a_bipush hS dX12_isWord_3 rfl ?_
  refine a_callSi hS (rst := []) (c_Md_in hW a0 97 122 σ ) msX12_in mlX12_79 rfl (Nat.le_of_ble_eq_true rfl) (Nat.le_of_ble_eq_true rfl) (Nat.le_of_ble_eq_true rfl) rfl dX12_isWord_5 (fun q1 => ?_)
  refine a_ifne hS rfl  (tgt := 39) dX12_isWord_8 (by decide) ?_ ?_
  · refine a_iconst hS dX12_isWord_39 ?_
    refine a_goto hS (tgt := 44) dX12_isWord_40 (by decide) ?_
    exact a_zret hS (by decide) rfl rfl dX12_isWord_44
  · refine a_iload_n hS dX12_isWord_11 rfl ?_
    refine a_bipush hS dX12_isWord_12 rfl ?_
    refine a_bipush hS dX12_isWord_14 rfl ?_
    refine a_callSi hS (rst := []) (c_Md_in hW a0 65 90 q1.2 ) msX12_in mlX12_79 rfl (Nat.le_of_ble_eq_true rfl) (Nat.le_of_ble_eq_true rfl) (Nat.le_of_ble_eq_true rfl) rfl dX12_isWord_16 (fun q2 => ?_)
    refine a_ifne hS rfl  (tgt := 39) dX12_isWord_19 (by decide) ?_ ?_
    · refine a_iconst hS dX12_isWord_39 ?_
      refine a_goto hS (tgt := 44) dX12_isWord_40 (by decide) ?_
      exact a_zret hS (by decide) rfl rfl dX12_isWord_44
    · refine a_iload_n hS dX12_isWord_22 rfl ?_
      refine a_bipush hS dX12_isWord_23 rfl ?_
      refine a_bipush hS dX12_isWord_25 rfl ?_
      refine a_callSi hS (rst := []) (c_Md_in hW a0 48 57 q2.2 ) msX12_in mlX12_79 rfl (Nat.le_of_ble_eq_true rfl) (Nat.le_of_ble_eq_true rfl) (Nat.le_of_ble_eq_true rfl) rfl dX12_isWord_27 (fun q3 => ?_)
      refine a_ifne hS rfl  (tgt := 39) dX12_isWord_30 (by decide) ?_ ?_
      · refine a_iconst hS dX12_isWord_39 ?_
        refine a_goto hS (tgt := 44) dX12_isWord_40 (by decide) ?_
        exact a_zret hS (by decide) rfl rfl dX12_isWord_44
      · refine a_iload_n hS dX12_isWord_33 rfl ?_
        refine a_bipush hS dX12_isWord_34 rfl ?_
        refine a_icmpne hS rfl (wl 95 rfl) (tgt := 43) dX12_isWord_36 (by decide) ?_ ?_
        · refine a_iconst hS dX12_isWord_43 ?_
          exact a_zret hS (by decide) rfl rfl dX12_isWord_44
        · refine a_iconst hS dX12_isWord_39 ?_
          refine a_goto hS (tgt := 44) dX12_isWord_40 (by decide) ?_
          exact a_zret hS (by decide) rfl rfl dX12_isWord_44
noncomputable def Md_isTriple (a0 : Int) (a1 : Int) (σ : Mem) : Option (Int × Mem) := (Md_contentAt a0 a1 σ).bind fun q1 => if wr q1.1 = 34 then ((Md_contentAt a0 (a1 + 1) q1.2).bind fun q2 => if wr q2.1 = 34 then ((Md_contentAt a0 (a1 + 2) q2.2).bind fun q3 => if wr q3.1 = 34 then (some (1, q3.2)) else (some (0, q3.2))) else (some (0, q2.2))) else (some (0, q1.2))
set_option maxRecDepth 100000 in
set_option maxHeartbeats 4000000 in
theorem c_Md_isTriple {l : Launch} {w : Wd} (hW : shp w = ShB) (a0 : Int) (a1 : Int) (σ : Mem)  : Ctr l w yX12_isTriple cX12_isTriple 3 (some .boolean) (rmN 1 22) 1 [rf w 0, iv a0, iv a1] σ (Md_isTriple a0 a1 σ) := by
  refine met_of (own := RX12) (by decide) rfl rfl rfl (Nat.le_of_ble_eq_true rfl) (fun X x hXl hN hS => ⟨[some (rf w 0), some (iv a0), some (iv a1)], ⟨0, rfl⟩, ?_⟩)
  subst hXl
  unfold Md_isTriple
  refine a_aload_n hS dX12_isTriple_0 rfl ?_
  refine a_iload_n hS dX12_isTriple_1 rfl ?_
  refine a_iload_n hS dX12_isTriple_2 rfl ?_
  refine a_callVi hS (rst := []) (c_Md_contentAt hW a0 a1 σ ) miX12_contentAt mlX12_83 (sB0 hW) rfl rfl (Nat.le_of_ble_eq_true rfl) (Nat.le_of_ble_eq_true rfl) (Nat.le_of_ble_eq_true rfl) rfl dX12_isTriple_3 (fun q1 => ?_)
  refine a_bipush hS dX12_isTriple_6 rfl ?_
  refine a_icmpne hS rfl (wl 34 rfl) (tgt := 41) dX12_isTriple_8 (by decide) ?_ ?_
  · refine a_iconst hS dX12_isTriple_41 ?_
    exact a_zret hS (by decide) rfl rfl dX12_isTriple_42
  · refine a_aload_n hS dX12_isTriple_11 rfl ?_
    refine a_iload_n hS dX12_isTriple_12 rfl ?_
    refine a_iload_n hS dX12_isTriple_13 rfl ?_
    refine a_iconst hS dX12_isTriple_14 ?_
    refine a_iadd hS dX12_isTriple_15 ?_
    refine a_callVi hS (rst := []) (c_Md_contentAt hW a0 (a1 + 1) q1.2 ) miX12_contentAt mlX12_83 (sB0 hW) rfl rfl (Nat.le_of_ble_eq_true rfl) (Nat.le_of_ble_eq_true rfl) (Nat.le_of_ble_eq_true rfl) rfl dX12_isTriple_16 (fun q2 => ?_)
    refine a_bipush hS dX12_isTriple_19 rfl ?_
    refine a_icmpne hS rfl (wl 34 rfl) (tgt := 41) dX12_isTriple_21 (by decide) ?_ ?_
    · refine a_iconst hS dX12_isTriple_41 ?_
      exact a_zret hS (by decide) rfl rfl dX12_isTriple_42
    · refine a_aload_n hS dX12_isTriple_24 rfl ?_
      refine a_iload_n hS dX12_isTriple_25 rfl ?_
      refine a_iload_n hS dX12_isTriple_26 rfl ?_
      refine a_iconst hS dX12_isTriple_27 ?_
      refine a_iadd hS dX12_isTriple_28 ?_
      refine a_callVi hS (rst := []) (c_Md_contentAt hW a0 (a1 + 2) q2.2 ) miX12_contentAt mlX12_83 (sB0 hW) rfl rfl (Nat.le_of_ble_eq_true rfl) (Nat.le_of_ble_eq_true rfl) (Nat.le_of_ble_eq_true rfl) rfl dX12_isTriple_29 (fun q3 => ?_)
      refine a_bipush hS dX12_isTriple_32 rfl ?_
      refine a_icmpne hS rfl (wl 34 rfl) (tgt := 41) dX12_isTriple_34 (by decide) ?_ ?_
      · refine a_iconst hS dX12_isTriple_41 ?_
        exact a_zret hS (by decide) rfl rfl dX12_isTriple_42
      · refine a_iconst hS dX12_isTriple_37 ?_
        refine a_goto hS (tgt := 42) dX12_isTriple_38 (by decide) ?_
        exact a_zret hS (by decide) rfl rfl dX12_isTriple_42
noncomputable def Md_endOfLiteral_2b   (r2 : Int → Int → Mem → Option (Int × Mem)) (x1 : Int) (x3 : Int) (σ : Mem) : Option (Int × Mem) := if 0 ≤ wr (21 + x1) ∧ wr (21 + x1) < (10780 : Int) then (if wr (x3 + 2) < wr (σ 1 (wr (21 + x1)).toNat) then ((Md_isTriple x1 x3 σ).bind fun q1 => if wr q1.1 = 0 then (r2 x1 (x3 + 1) q1.2) else (some ((x3 + 3), q1.2))) else (some ((-9), σ))) else none
noncomputable def Md_endOfLiteral_2   (n : Nat) : Int → Int → Mem → Option (Int × Mem) := fixN (fun _ _ _ => none) (Md_endOfLiteral_2b  ) n
noncomputable def Md_endOfLiteral (a0 : Int) (a1 : Int) (σ : Mem) : Option (Int × Mem) := Md_endOfLiteral_2 100000 a0 a1 σ
set_option maxRecDepth 100000 in
set_option maxHeartbeats 4000000 in
theorem k_Md_endOfLiteral_2 {X : Cx} {w : Wd} {x : Int × Mem} (hS : Std X (rmN 2 44) w cX12_endOfLiteral RX12 (some .int)) (hN : cxn X = 4) (hW : shp w = ShB)   : ∀ (n : Nat) (x1 : Int) (x3 : Int) (σ : Mem), Sm X (rmN 2 44) w 1 x 2 [some (rf w 0), some (iv x1), none, some (iv x3)] [] σ (Md_endOfLiteral_2   n x1 x3 σ) := by
  refine fix_ok (P := fun (r2 : Int → Int → Mem → Option (Int × Mem)) => ∀ (x1 : Int) (x3 : Int) (σ : Mem), Sm X (rmN 2 44) w 1 x 2 [some (rf w 0), some (iv x1), none, some (iv x3)] [] σ (r2 x1 x3 σ)) (fun _ _ _ => a_none) (fun r2 hr2 => ?_)
  intro x1 x3 σ
  unfold Md_endOfLiteral_2b
  refine a_iload_n hS dX12_endOfLiteral_2 rfl ?_
  refine a_iconst hS dX12_endOfLiteral_3 ?_
  refine a_iadd hS dX12_endOfLiteral_4 ?_
  refine a_aload_n hS dX12_endOfLiteral_5 rfl ?_
  refine a_getR hS (j := 1) dX12_endOfLiteral_6 flX12_7 (sB0 hW) rfl ?_
  refine a_bipush hS dX12_endOfLiteral_9 rfl ?_
  refine a_iload_n hS dX12_endOfLiteral_11 rfl ?_
  refine a_iadd hS dX12_endOfLiteral_12 ?_
  refine a_iald hS dX12_endOfLiteral_13 (sB1 hW) ?_
  refine a_icmpge hS rfl rfl (tgt := 36) dX12_endOfLiteral_14 (by decide) ?_ ?_
  · refine a_bipush hS dX12_endOfLiteral_36 rfl ?_
    exact a_iret hS rfl rfl dX12_endOfLiteral_38
  · refine a_aload_n hS dX12_endOfLiteral_17 rfl ?_
    refine a_iload_n hS dX12_endOfLiteral_18 rfl ?_
    refine a_iload_n hS dX12_endOfLiteral_19 rfl ?_
    refine a_callVi hS (rst := []) (c_Md_isTriple hW x1 x3 σ ) miX12_isTriple mlX12_87 (sB0 hW) rfl rfl (Nat.le_of_ble_eq_true rfl) (Nat.le_of_ble_eq_true rfl) (Nat.le_of_ble_eq_true rfl) rfl dX12_endOfLiteral_20 (fun q1 => ?_)
    refine a_ifeq hS rfl  (tgt := 30) dX12_endOfLiteral_23 (by decide) ?_ ?_
    · refine a_iinc hS (L' := [some (rf w 0), some (iv x1), none, some (iv (x3 + 1))]) dX12_endOfLiteral_30 rfl hN (Nat.le_of_ble_eq_true rfl) rfl rfl ?_
      refine a_goto hS (tgt := 2) dX12_endOfLiteral_33 (by decide) ?_
      exact hr2 x1 (x3 + 1) q1.2
    · refine a_iload_n hS dX12_endOfLiteral_26 rfl ?_
      refine a_iconst hS dX12_endOfLiteral_27 ?_
      refine a_iadd hS dX12_endOfLiteral_28 ?_
      exact a_iret hS rfl rfl dX12_endOfLiteral_29
set_option maxRecDepth 100000 in
set_option maxHeartbeats 4000000 in
theorem c_Md_endOfLiteral {l : Launch} {w : Wd} (hW : shp w = ShB) (a0 : Int) (a1 : Int) (σ : Mem)  : Ctr l w yX12_endOfLiteral cX12_endOfLiteral 4 (some .int) (rmN 2 44) 1 [rf w 0, iv a0, iv a1] σ (Md_endOfLiteral a0 a1 σ) := by
  refine met_of (own := RX12) (by decide) rfl rfl rfl (Nat.le_of_ble_eq_true rfl) (fun X x hXl hN hS => ⟨[some (rf w 0), some (iv a0), some (iv a1), none], ⟨1, rfl⟩, ?_⟩)
  subst hXl
  unfold Md_endOfLiteral
  refine a_iload_n hS dX12_endOfLiteral_0 rfl ?_
  refine a_istore_n hS (L' := [some (rf w 0), some (iv a0), some (iv a1), some (iv a1)]) dX12_endOfLiteral_1 hN (Nat.le_of_ble_eq_true rfl) rfl rfl ?_
  exact a_live (M := [true, true, false, true]) (k_Md_endOfLiteral_2 hS hN hW   100000 a0 a1 σ) rfl
noncomputable def Md_endOfString_4b   (r4 : Int → Int → Mem → Option (Int × Mem)) (x1 : Int) (x3 : Int) (σ : Mem) : Option (Int × Mem) := if 0 ≤ wr (21 + x1) ∧ wr (21 + x1) < (10780 : Int) then (if wr x3 < wr (σ 1 (wr (21 + x1)).toNat) then ((Md_contentAt x1 x3 σ).bind fun q2 => if wr q2.1 = 34 then (if 0 ≤ wr (21 + x1) ∧ wr (21 + x1) < (10780 : Int) then ((Md_least (x3 + 1) (q2.2 1 (wr (21 + x1)).toNat) q2.2).bind fun q3 => some (q3.1, q3.2)) else none) else ((Md_contentAt x1 x3 q2.2).bind fun q4 => if wr q4.1 = 92 then (r4 x1 (x3 + 2) q4.2) else (r4 x1 (x3 + 1) q4.2))) else (if 0 ≤ wr (21 + x1) ∧ wr (21 + x1) < (10780 : Int) then ((Md_least (x3 + 1) (σ 1 (wr (21 + x1)).toNat) σ).bind fun q1 => some (q1.1, q1.2)) else none)) else none
noncomputable def Md_endOfString_4   (n : Nat) : Int → Int → Mem → Option (Int × Mem) := fixN (fun _ _ _ => none) (Md_endOfString_4b  ) n
noncomputable def Md_endOfString (a0 : Int) (a1 : Int) (σ : Mem) : Option (Int × Mem) := Md_endOfString_4 100000 a0 (a1 + 1) σ
set_option maxRecDepth 100000 in
set_option maxHeartbeats 4000000 in
theorem k_Md_endOfString_4 {X : Cx} {w : Wd} {x : Int × Mem} (hS : Std X (rmN 1 22) w cX12_endOfString RX12 (some .int)) (hN : cxn X = 4) (hW : shp w = ShB)   : ∀ (n : Nat) (x1 : Int) (x3 : Int) (σ : Mem), Sm X (rmN 1 22) w 1 x 4 [some (rf w 0), some (iv x1), none, some (iv x3)] [] σ (Md_endOfString_4   n x1 x3 σ) := by
  refine fix_ok (P := fun (r4 : Int → Int → Mem → Option (Int × Mem)) => ∀ (x1 : Int) (x3 : Int) (σ : Mem), Sm X (rmN 1 22) w 1 x 4 [some (rf w 0), some (iv x1), none, some (iv x3)] [] σ (r4 x1 x3 σ)) (fun _ _ _ => a_none) (fun r4 hr4 => ?_)
  intro x1 x3 σ
  unfold Md_endOfString_4b
  refine a_iload_n hS dX12_endOfString_4 rfl ?_
  refine a_aload_n hS dX12_endOfString_5 rfl ?_
  refine a_getR hS (j := 1) dX12_endOfString_6 flX12_7 (sB0 hW) rfl ?_
  refine a_bipush hS dX12_endOfString_9 rfl ?_
  refine a_iload_n hS dX12_endOfString_11 rfl ?_
  refine a_iadd hS dX12_endOfString_12 ?_
  refine a_iald hS dX12_endOfString_13 (sB1 hW) ?_
  refine a_icmpge hS rfl rfl (tgt := 50) dX12_endOfString_14 (by decide) ?_ ?_
  · refine a_iload_n hS dX12_endOfString_50 rfl ?_
    refine a_iconst hS dX12_endOfString_51 ?_
    refine a_iadd hS dX12_endOfString_52 ?_
    refine a_aload_n hS dX12_endOfString_53 rfl ?_
    refine a_getR hS (j := 1) dX12_endOfString_54 flX12_7 (sB0 hW) rfl ?_
    refine a_bipush hS dX12_endOfString_57 rfl ?_
    refine a_iload_n hS dX12_endOfString_59 rfl ?_
    refine a_iadd hS dX12_endOfString_60 ?_
    refine a_iald hS dX12_endOfString_61 (sB1 hW) ?_
    refine a_callSi hS (rst := []) (c_Md_least hW (x3 + 1) (σ 1 (wr (21 + x1)).toNat) σ ) msX12_least mlX12_91 rfl (Nat.le_of_ble_eq_true rfl) (Nat.le_of_ble_eq_true rfl) (Nat.le_of_ble_eq_true rfl) rfl dX12_endOfString_62 (fun q1 => ?_)
    exact a_iret hS rfl rfl dX12_endOfString_65
  · refine a_aload_n hS dX12_endOfString_17 rfl ?_
    refine a_iload_n hS dX12_endOfString_18 rfl ?_
    refine a_iload_n hS dX12_endOfString_19 rfl ?_
    refine a_callVi hS (rst := []) (c_Md_contentAt hW x1 x3 σ ) miX12_contentAt mlX12_83 (sB0 hW) rfl rfl (Nat.le_of_ble_eq_true rfl) (Nat.le_of_ble_eq_true rfl) (Nat.le_of_ble_eq_true rfl) rfl dX12_endOfString_20 (fun q2 => ?_)
    refine a_bipush hS dX12_endOfString_23 rfl ?_
    refine a_icmpeq hS rfl (wl 34 rfl) (tgt := 50) dX12_endOfString_25 (by decide) ?_ ?_
    · refine a_iload_n hS dX12_endOfString_50 rfl ?_
      refine a_iconst hS dX12_endOfString_51 ?_
      refine a_iadd hS dX12_endOfString_52 ?_
      refine a_aload_n hS dX12_endOfString_53 rfl ?_
      refine a_getR hS (j := 1) dX12_endOfString_54 flX12_7 (sB0 hW) rfl ?_
      refine a_bipush hS dX12_endOfString_57 rfl ?_
      refine a_iload_n hS dX12_endOfString_59 rfl ?_
      refine a_iadd hS dX12_endOfString_60 ?_
      refine a_iald hS dX12_endOfString_61 (sB1 hW) ?_
      refine a_callSi hS (rst := []) (c_Md_least hW (x3 + 1) (q2.2 1 (wr (21 + x1)).toNat) q2.2 ) msX12_least mlX12_91 rfl (Nat.le_of_ble_eq_true rfl) (Nat.le_of_ble_eq_true rfl) (Nat.le_of_ble_eq_true rfl) rfl dX12_endOfString_62 (fun q3 => ?_)
      exact a_iret hS rfl rfl dX12_endOfString_65
    · refine a_iload_n hS dX12_endOfString_28 rfl ?_
      refine a_aload_n hS dX12_endOfString_29 rfl ?_
      refine a_iload_n hS dX12_endOfString_30 rfl ?_
      refine a_iload_n hS dX12_endOfString_31 rfl ?_
      refine a_callVi hS (rst := [iv x3]) (c_Md_contentAt hW x1 x3 q2.2 ) miX12_contentAt mlX12_83 (sB0 hW) rfl rfl (Nat.le_of_ble_eq_true rfl) (Nat.le_of_ble_eq_true rfl) (Nat.le_of_ble_eq_true rfl) rfl dX12_endOfString_32 (fun q4 => ?_)
      refine a_bipush hS dX12_endOfString_35 rfl ?_
      refine a_icmpne hS rfl (wl 92 rfl) (tgt := 44) dX12_endOfString_37 (by decide) ?_ ?_
      · refine a_iconst hS dX12_endOfString_44 ?_
        refine a_iadd hS dX12_endOfString_45 ?_
        refine a_istore_n hS (L' := [some (rf w 0), some (iv x1), none, some (iv (x3 + 1))]) dX12_endOfString_46 hN (Nat.le_of_ble_eq_true rfl) rfl rfl ?_
        refine a_goto hS (tgt := 4) dX12_endOfString_47 (by decide) ?_
        exact hr4 x1 (x3 + 1) q4.2
      · refine a_iconst hS dX12_endOfString_40 ?_
        refine a_goto hS (tgt := 45) dX12_endOfString_41 (by decide) ?_
        refine a_iadd hS dX12_endOfString_45 ?_
        refine a_istore_n hS (L' := [some (rf w 0), some (iv x1), none, some (iv (x3 + 2))]) dX12_endOfString_46 hN (Nat.le_of_ble_eq_true rfl) rfl rfl ?_
        refine a_goto hS (tgt := 4) dX12_endOfString_47 (by decide) ?_
        exact hr4 x1 (x3 + 2) q4.2
set_option maxRecDepth 100000 in
set_option maxHeartbeats 4000000 in
theorem c_Md_endOfString {l : Launch} {w : Wd} (hW : shp w = ShB) (a0 : Int) (a1 : Int) (σ : Mem)  : Ctr l w yX12_endOfString cX12_endOfString 4 (some .int) (rmN 1 22) 1 [rf w 0, iv a0, iv a1] σ (Md_endOfString a0 a1 σ) := by
  refine met_of (own := RX12) (by decide) rfl rfl rfl (Nat.le_of_ble_eq_true rfl) (fun X x hXl hN hS => ⟨[some (rf w 0), some (iv a0), some (iv a1), none], ⟨1, rfl⟩, ?_⟩)
  subst hXl
  unfold Md_endOfString
  refine a_iload_n hS dX12_endOfString_0 rfl ?_
  refine a_iconst hS dX12_endOfString_1 ?_
  refine a_iadd hS dX12_endOfString_2 ?_
  refine a_istore_n hS (L' := [some (rf w 0), some (iv a0), some (iv a1), some (iv (a1 + 1))]) dX12_endOfString_3 hN (Nat.le_of_ble_eq_true rfl) rfl rfl ?_
  exact a_live (M := [true, true, false, true]) (k_Md_endOfString_4 hS hN hW   100000 a0 (a1 + 1) σ) rfl
noncomputable def Md_endOfWord_2b   (r2 : Int → Int → Mem → Option (Int × Mem)) (x1 : Int) (x3 : Int) (σ : Mem) : Option (Int × Mem) := (Md_contentAt x1 x3 σ).bind fun q1 => (Md_isWord q1.1 q1.2).bind fun q2 => if wr q2.1 = 0 then (some (x3, q2.2)) else (r2 x1 (x3 + 1) q2.2)
noncomputable def Md_endOfWord_2   (n : Nat) : Int → Int → Mem → Option (Int × Mem) := fixN (fun _ _ _ => none) (Md_endOfWord_2b  ) n
noncomputable def Md_endOfWord (a0 : Int) (a1 : Int) (σ : Mem) : Option (Int × Mem) := Md_endOfWord_2 100000 a0 a1 σ
set_option maxRecDepth 100000 in
set_option maxHeartbeats 4000000 in
theorem k_Md_endOfWord_2 {X : Cx} {w : Wd} {x : Int × Mem} (hS : Std X (rmN 2 42) w cX12_endOfWord RX12 (some .int)) (hN : cxn X = 4) (hW : shp w = ShB)   : ∀ (n : Nat) (x1 : Int) (x3 : Int) (σ : Mem), Sm X (rmN 2 42) w 1 x 2 [some (rf w 0), some (iv x1), none, some (iv x3)] [] σ (Md_endOfWord_2   n x1 x3 σ) := by
  refine fix_ok (P := fun (r2 : Int → Int → Mem → Option (Int × Mem)) => ∀ (x1 : Int) (x3 : Int) (σ : Mem), Sm X (rmN 2 42) w 1 x 2 [some (rf w 0), some (iv x1), none, some (iv x3)] [] σ (r2 x1 x3 σ)) (fun _ _ _ => a_none) (fun r2 hr2 => ?_)
  intro x1 x3 σ
  unfold Md_endOfWord_2b
  refine a_aload_n hS dX12_endOfWord_2 rfl ?_
  refine a_iload_n hS dX12_endOfWord_3 rfl ?_
  refine a_iload_n hS dX12_endOfWord_4 rfl ?_
  refine a_callVi hS (rst := []) (c_Md_contentAt hW x1 x3 σ ) miX12_contentAt mlX12_83 (sB0 hW) rfl rfl (Nat.le_of_ble_eq_true rfl) (Nat.le_of_ble_eq_true rfl) (Nat.le_of_ble_eq_true rfl) rfl dX12_endOfWord_5 (fun q1 => ?_)
  refine a_callSi hS (rst := []) (c_Md_isWord hW q1.1 q1.2 ) msX12_isWord mlX12_94 rfl (Nat.le_of_ble_eq_true rfl) (Nat.le_of_ble_eq_true rfl) (Nat.le_of_ble_eq_true rfl) rfl dX12_endOfWord_8 (fun q2 => ?_)
  refine a_ifeq hS rfl  (tgt := 20) dX12_endOfWord_11 (by decide) ?_ ?_
  · refine a_iload_n hS dX12_endOfWord_20 rfl ?_
    exact a_iret hS rfl rfl dX12_endOfWord_21
  · refine a_iinc hS (L' := [some (rf w 0), some (iv x1), none, some (iv (x3 + 1))]) dX12_endOfWord_14 rfl hN (Nat.le_of_ble_eq_true rfl) rfl rfl ?_
    refine a_goto hS (tgt := 2) dX12_endOfWord_17 (by decide) ?_
    exact hr2 x1 (x3 + 1) q2.2
set_option maxRecDepth 100000 in
set_option maxHeartbeats 4000000 in
theorem c_Md_endOfWord {l : Launch} {w : Wd} (hW : shp w = ShB) (a0 : Int) (a1 : Int) (σ : Mem)  : Ctr l w yX12_endOfWord cX12_endOfWord 4 (some .int) (rmN 2 42) 1 [rf w 0, iv a0, iv a1] σ (Md_endOfWord a0 a1 σ) := by
  refine met_of (own := RX12) (by decide) rfl rfl rfl (Nat.le_of_ble_eq_true rfl) (fun X x hXl hN hS => ⟨[some (rf w 0), some (iv a0), some (iv a1), none], ⟨1, rfl⟩, ?_⟩)
  subst hXl
  unfold Md_endOfWord
  refine a_iload_n hS dX12_endOfWord_0 rfl ?_
  refine a_istore_n hS (L' := [some (rf w 0), some (iv a0), some (iv a1), some (iv a1)]) dX12_endOfWord_1 hN (Nat.le_of_ble_eq_true rfl) rfl rfl ?_
  exact a_live (M := [true, true, false, true]) (k_Md_endOfWord_2 hS hN hW   100000 a0 a1 σ) rfl
noncomputable def Md_adds (a0 : Int) (a1 : Int) (a2 : Int) (a3 : Int) (σ : Mem) : Option (Int × Mem) := if 0 ≤ wr (σ 0 12) ∧ wr (σ 0 12) < (641 : Int) then (letM (upM σ 4 (wr (σ 0 12)).toNat a0) fun s1 => if 0 ≤ wr (s1 0 12) ∧ wr (s1 0 12) < (641 : Int) then (letM (upM s1 5 (wr (s1 0 12)).toNat a1) fun s2 => if 0 ≤ wr (s2 0 12) ∧ wr (s2 0 12) < (641 : Int) then (letM (upM s2 6 (wr (s2 0 12)).toNat (a2 - a1)) fun s3 => if 0 ≤ wr (s3 0 12) ∧ wr (s3 0 12) < (641 : Int) then (letM (upM s3 7 (wr (s3 0 12)).toNat a3) fun s4 => letM (upM s4 0 12 ((s4 0 12) + 1)) fun s5 => some (0, s5)) else none) else none) else none) else none
set_option maxRecDepth 100000 in
set_option maxHeartbeats 4000000 in
theorem c_Md_adds {l : Launch} {w : Wd} (hW : shp w = ShB) (a0 : Int) (a1 : Int) (a2 : Int) (a3 : Int) (σ : Mem)  : Ctr l w yX12_adds cX12_adds 5 none (rmN 0 0) 0 [rf w 0, iv a0, iv a1, iv a2, iv a3] σ (Md_adds a0 a1 a2 a3 σ) := by
  refine met_of (own := RX12) (by decide) rfl rfl rfl (Nat.le_of_ble_eq_true rfl) (fun X x hXl hN hS => ⟨[some (rf w 0), some (iv a0), some (iv a1), some (iv a2), some (iv a3)], ⟨0, rfl⟩, ?_⟩)
  subst hXl
  unfold Md_adds
  refine a_aload_n hS dX12_adds_0 rfl ?_
  refine a_getR hS (j := 4) dX12_adds_1 flX12_20 (sB0 hW) rfl ?_
  refine a_aload_n hS dX12_adds_4 rfl ?_
  refine a_getI hS dX12_adds_5 flX12_98 (sB0 hW) rfl ?_
  refine a_iload_n hS dX12_adds_8 rfl ?_
  refine a_iast hS (sB4 hW) dX12_adds_9 ?_
  refine a_letM (fun s1 => ?_)
  refine a_aload_n hS dX12_adds_10 rfl ?_
  refine a_getR hS (j := 5) dX12_adds_11 flX12_23 (sB0 hW) rfl ?_
  refine a_aload_n hS dX12_adds_14 rfl ?_
  refine a_getI hS dX12_adds_15 flX12_98 (sB0 hW) rfl ?_
  refine a_iload_n hS dX12_adds_18 rfl ?_
  refine a_iast hS (sB5 hW) dX12_adds_19 ?_
  refine a_letM (fun s2 => ?_)
  refine a_aload_n hS dX12_adds_20 rfl ?_
  refine a_getR hS (j := 6) dX12_adds_21 flX12_26 (sB0 hW) rfl ?_
  refine a_aload_n hS dX12_adds_24 rfl ?_
  refine a_getI hS dX12_adds_25 flX12_98 (sB0 hW) rfl ?_
  refine a_iload_n hS dX12_adds_28 rfl ?_
  refine a_iload_n hS dX12_adds_29 rfl ?_
  refine a_isub hS dX12_adds_30 ?_
  refine a_iast hS (sB6 hW) dX12_adds_31 ?_
  refine a_letM (fun s3 => ?_)
  refine a_aload_n hS dX12_adds_32 rfl ?_
  refine a_getR hS (j := 7) dX12_adds_33 flX12_29 (sB0 hW) rfl ?_
  refine a_aload_n hS dX12_adds_36 rfl ?_
  refine a_getI hS dX12_adds_37 flX12_98 (sB0 hW) rfl ?_
  refine a_iload hS dX12_adds_40 rfl ?_
  refine a_iast hS (sB7 hW) dX12_adds_42 ?_
  refine a_letM (fun s4 => ?_)
  refine a_aload_n hS dX12_adds_43 rfl ?_
  refine a_dup hS rfl dX12_adds_44 ?_
  refine a_getI hS dX12_adds_45 flX12_98 (sB0 hW) rfl ?_
  refine a_iconst hS dX12_adds_48 ?_
  refine a_iadd hS dX12_adds_49 ?_
  refine a_putI hS dX12_adds_50 plX12_98 (sB0 hW) rfl ?_
  refine a_letM (fun s5 => ?_)
  exact a_vret hS rfl rfl dX12_adds_53
noncomputable def Md_divides_79 (r2 : Int → Int → Mem → Option (Int × Mem))  (x1 : Int) (x5 : Int) (y0 : Int) (y1 : Int) (y2 : Int) (σ : Mem) : Option (Int × Mem) := (Md_adds y2 y1 y0 2 σ).bind fun q10 => if wr x5 = (-9) then (some (1, q10.2)) else (r2 x1 x5 q10.2)
noncomputable def Md_divides_2b   (r2 : Int → Int → Mem → Option (Int × Mem)) (x1 : Int) (x3 : Int) (σ : Mem) : Option (Int × Mem) := if 0 ≤ wr (21 + x1) ∧ wr (21 + x1) < (10780 : Int) then (if wr x3 < wr (σ 1 (wr (21 + x1)).toNat) then ((Md_contentAt x1 x3 σ).bind fun q1 => if wr q1.1 = 32 then (r2 x1 (x3 + 1) q1.2) else ((Md_isTriple x1 x3 q1.2).bind fun q2 => if wr q2.1 = 0 then (if wr q1.1 = 34 then ((Md_endOfString x1 x3 q2.2).bind fun q7 => (Md_adds x1 x3 q7.1 2 q7.2).bind fun q8 => r2 x1 q7.1 q8.2) else (if 0 ≤ wr 979 ∧ wr 979 < (10780 : Int) then (if wr q1.1 = wr (q2.2 1 (wr 979).toNat) then (if 0 ≤ wr (21 + x1) ∧ wr (21 + x1) < (10780 : Int) then (r2 x1 (q2.2 1 (wr (21 + x1)).toNat) q2.2) else none) else ((Md_isWord q1.1 q2.2).bind fun q3 => if wr q3.1 = 0 then ((Md_adds x1 x3 (x3 + 1) 1 q3.2).bind fun q4 => r2 x1 (x3 + 1) q4.2) else ((Md_endOfWord x1 x3 q3.2).bind fun q5 => (Md_adds x1 x3 q5.1 0 q5.2).bind fun q6 => r2 x1 q5.1 q6.2))) else none)) else ((Md_endOfLiteral x1 (x3 + 3) q2.2).bind fun q9 => if wr q9.1 = (-9) then (if 0 ≤ wr (21 + x1) ∧ wr (21 + x1) < (10780 : Int) then (Md_divides_79 r2 x1 q9.1 (q9.2 1 (wr (21 + x1)).toNat) x3 x1 q9.2) else none) else (Md_divides_79 r2 x1 q9.1 q9.1 x3 x1 q9.2)))) else (some (0, σ))) else none
noncomputable def Md_divides_2   (n : Nat) : Int → Int → Mem → Option (Int × Mem) := fixN (fun _ _ _ => none) (Md_divides_2b  ) n
noncomputable def Md_divides (a0 : Int) (a1 : Int) (σ : Mem) : Option (Int × Mem) := Md_divides_2 100000 a0 a1 σ
set_option maxRecDepth 100000 in
set_option maxHeartbeats 4000000 in
theorem k_Md_divides_79 {X : Cx} {w : Wd} {x : Int × Mem} (hS : Std X (rmN 3 67) w cX12_divides RX12 (some .boolean)) (hN : cxn X = 6) (hW : shp w = ShB)  (r2 : Int → Int → Mem → Option (Int × Mem)) (hr2 : ∀ (x1 : Int) (x3 : Int) (σ : Mem), Sm X (rmN 3 67) w 1 x 2 [some (rf w 0), some (iv x1), none, some (iv x3), none, none] [] σ (r2 x1 x3 σ)) : ∀ (x1 : Int) (x5 : Int) (y0 : Int) (y1 : Int) (y2 : Int) (σ : Mem), Sm X (rmN 3 67) w 1 x 79 [some (rf w 0), some (iv x1), none, none, none, some (iv x5)] [iv y0, iv y1, iv y2, rf w 0] σ (Md_divides_79 r2  x1 x5 y0 y1 y2 σ) := by
  intro x1 x5 y0 y1 y2 σ
  unfold Md_divides_79
  refine a_iconst hS dX12_divides_79 ?_
  refine a_callVv hS (rst := []) (c_Md_adds hW y2 y1 y0 2 σ ) miX12_adds mlX12_104 (sB0 hW) rfl rfl (Nat.le_of_ble_eq_true rfl) (Nat.le_of_ble_eq_true rfl) (Nat.le_of_ble_eq_true rfl) rfl dX12_divides_80 (fun q10 => ?_)
  refine a_iload hS dX12_divides_83 rfl ?_
  refine a_bipush hS dX12_divides_85 rfl ?_
  refine a_icmpne hS rfl (wl (-9) rfl) (tgt := 92) dX12_divides_87 (by decide) ?_ ?_
  · refine a_iload hS dX12_divides_92 rfl ?_
    refine a_istore_n hS (L' := [some (rf w 0), some (iv x1), none, some (iv x5), none, some (iv x5)]) dX12_divides_94 hN (Nat.le_of_ble_eq_true rfl) rfl rfl ?_
    refine a_goto hS (tgt := 198) dX12_divides_95 (by decide) ?_
    refine a_goto hS (tgt := 2) dX12_divides_198 (by decide) ?_
    exact a_live (M := [true, true, false, true, false, false]) (hr2 x1 x5 q10.2) rfl
  · refine a_iconst hS dX12_divides_90 ?_
    exact a_zret hS (by decide) rfl rfl dX12_divides_91
set_option maxRecDepth 100000 in
set_option maxHeartbeats 4000000 in
theorem k_Md_divides_2 {X : Cx} {w : Wd} {x : Int × Mem} (hS : Std X (rmN 3 67) w cX12_divides RX12 (some .boolean)) (hN : cxn X = 6) (hW : shp w = ShB)   : ∀ (n : Nat) (x1 : Int) (x3 : Int) (σ : Mem), Sm X (rmN 3 67) w 1 x 2 [some (rf w 0), some (iv x1), none, some (iv x3), none, none] [] σ (Md_divides_2   n x1 x3 σ) := by
  refine fix_ok (P := fun (r2 : Int → Int → Mem → Option (Int × Mem)) => ∀ (x1 : Int) (x3 : Int) (σ : Mem), Sm X (rmN 3 67) w 1 x 2 [some (rf w 0), some (iv x1), none, some (iv x3), none, none] [] σ (r2 x1 x3 σ)) (fun _ _ _ => a_none) (fun r2 hr2 => ?_)
  intro x1 x3 σ
  unfold Md_divides_2b
  refine a_iload_n hS dX12_divides_2 rfl ?_
  refine a_aload_n hS dX12_divides_3 rfl ?_
  refine a_getR hS (j := 1) dX12_divides_4 flX12_7 (sB0 hW) rfl ?_
  refine a_bipush hS dX12_divides_7 rfl ?_
  refine a_iload_n hS dX12_divides_9 rfl ?_
  refine a_iadd hS dX12_divides_10 ?_
  refine a_iald hS dX12_divides_11 (sB1 hW) ?_
  refine a_icmpge hS rfl rfl (tgt := 201) dX12_divides_12 (by decide) ?_ ?_
  · refine a_iconst hS dX12_divides_201 ?_
    exact a_zret hS (by decide) rfl rfl dX12_divides_202
  · refine a_aload_n hS dX12_divides_15 rfl ?_
    refine a_iload_n hS dX12_divides_16 rfl ?_
    refine a_iload_n hS dX12_divides_17 rfl ?_
    refine a_callVi hS (rst := []) (c_Md_contentAt hW x1 x3 σ ) miX12_contentAt mlX12_83 (sB0 hW) rfl rfl (Nat.le_of_ble_eq_true rfl) (Nat.le_of_ble_eq_true rfl) (Nat.le_of_ble_eq_true rfl) rfl dX12_divides_18 (fun q1 => ?_)
    refine a_istore hS (L' := [some (rf w 0), some (iv x1), none, some (iv x3), some (iv q1.1), none]) dX12_divides_21 hN (Nat.le_of_ble_eq_true rfl) rfl rfl ?_
    refine a_iload hS dX12_divides_23 rfl ?_
    refine a_bipush hS dX12_divides_25 rfl ?_
    refine a_icmpne hS rfl (wl 32 rfl) (tgt := 36) dX12_divides_27 (by decide) ?_ ?_
    · refine a_aload_n hS dX12_divides_36 rfl ?_
      refine a_iload_n hS dX12_divides_37 rfl ?_
      refine a_iload_n hS dX12_divides_38 rfl ?_
      refine a_callVi hS (rst := []) (c_Md_isTriple hW x1 x3 q1.2 ) miX12_isTriple mlX12_87 (sB0 hW) rfl rfl (Nat.le_of_ble_eq_true rfl) (Nat.le_of_ble_eq_true rfl) (Nat.le_of_ble_eq_true rfl) rfl dX12_divides_39 (fun q2 => ?_)
      refine a_ifeq hS rfl  (tgt := 98) dX12_divides_42 (by decide) ?_ ?_
      · refine a_iload hS dX12_divides_98 rfl ?_
        refine a_bipush hS dX12_divides_100 rfl ?_
        refine a_icmpne hS rfl (wl 34 rfl) (tgt := 128) dX12_divides_102 (by decide) ?_ ?_
        · refine a_iload hS dX12_divides_128 rfl ?_
          refine a_aload_n hS dX12_divides_130 rfl ?_
          refine a_getR hS (j := 1) dX12_divides_131 flX12_7 (sB0 hW) rfl ?_
          refine a_sipush hS dX12_divides_134 rfl ?_
          refine a_iald hS dX12_divides_137 (sB1 hW) ?_
          refine a_icmpne hS rfl rfl (tgt := 154) dX12_divides_138 (by decide) ?_ ?_
          · refine a_iload hS dX12_divides_154 rfl ?_
            refine a_callSi hS (rst := []) (c_Md_isWord hW q1.1 q2.2 ) msX12_isWord mlX12_94 rfl (Nat.le_of_ble_eq_true rfl) (Nat.le_of_ble_eq_true rfl) (Nat.le_of_ble_eq_true rfl) rfl dX12_divides_156 (fun q3 => ?_)
            refine a_ifeq hS rfl  (tgt := 185) dX12_divides_159 (by decide) ?_ ?_
            · refine a_aload_n hS dX12_divides_185 rfl ?_
              refine a_iload_n hS dX12_divides_186 rfl ?_
              refine a_iload_n hS dX12_divides_187 rfl ?_
              refine a_iload_n hS dX12_divides_188 rfl ?_
              refine a_iconst hS dX12_divides_189 ?_
              refine a_iadd hS dX12_divides_190 ?_
              refine a_iconst hS dX12_divides_191 ?_
              refine a_callVv hS (rst := []) (c_Md_adds hW x1 x3 (x3 + 1) 1 q3.2 ) miX12_adds mlX12_104 (sB0 hW) rfl rfl (Nat.le_of_ble_eq_true rfl) (Nat.le_of_ble_eq_true rfl) (Nat.le_of_ble_eq_true rfl) rfl dX12_divides_192 (fun q4 => ?_)
              refine a_iinc hS (L' := [some (rf w 0), some (iv x1), none, some (iv (x3 + 1)), some (iv q1.1), none]) dX12_divides_195 rfl hN (Nat.le_of_ble_eq_true rfl) rfl rfl ?_
              refine a_goto hS (tgt := 2) dX12_divides_198 (by decide) ?_
              exact a_live (M := [true, true, false, true, false, false]) (hr2 x1 (x3 + 1) q4.2) rfl
            · refine a_aload_n hS dX12_divides_162 rfl ?_
              refine a_iload_n hS dX12_divides_163 rfl ?_
              refine a_iload_n hS dX12_divides_164 rfl ?_
              refine a_callVi hS (rst := []) (c_Md_endOfWord hW x1 x3 q3.2 ) miX12_endOfWord mlX12_111 (sB0 hW) rfl rfl (Nat.le_of_ble_eq_true rfl) (Nat.le_of_ble_eq_true rfl) (Nat.le_of_ble_eq_true rfl) rfl dX12_divides_165 (fun q5 => ?_)
              refine a_istore hS (L' := [some (rf w 0), some (iv x1), none, some (iv x3), some (iv q1.1), some (iv q5.1)]) dX12_divides_168 hN (Nat.le_of_ble_eq_true rfl) rfl rfl ?_
              refine a_aload_n hS dX12_divides_170 rfl ?_
              refine a_iload_n hS dX12_divides_171 rfl ?_
              refine a_iload_n hS dX12_divides_172 rfl ?_
              refine a_iload hS dX12_divides_173 rfl ?_
              refine a_iconst hS dX12_divides_175 ?_
              refine a_callVv hS (rst := []) (c_Md_adds hW x1 x3 q5.1 0 q5.2 ) miX12_adds mlX12_104 (sB0 hW) rfl rfl (Nat.le_of_ble_eq_true rfl) (Nat.le_of_ble_eq_true rfl) (Nat.le_of_ble_eq_true rfl) rfl dX12_divides_176 (fun q6 => ?_)
              refine a_iload hS dX12_divides_179 rfl ?_
              refine a_istore_n hS (L' := [some (rf w 0), some (iv x1), none, some (iv q5.1), some (iv q1.1), some (iv q5.1)]) dX12_divides_181 hN (Nat.le_of_ble_eq_true rfl) rfl rfl ?_
              refine a_goto hS (tgt := 198) dX12_divides_182 (by decide) ?_
              refine a_goto hS (tgt := 2) dX12_divides_198 (by decide) ?_
              exact a_live (M := [true, true, false, true, false, false]) (hr2 x1 q5.1 q6.2) rfl
          · refine a_aload_n hS dX12_divides_141 rfl ?_
            refine a_getR hS (j := 1) dX12_divides_142 flX12_7 (sB0 hW) rfl ?_
            refine a_bipush hS dX12_divides_145 rfl ?_
            refine a_iload_n hS dX12_divides_147 rfl ?_
            refine a_iadd hS dX12_divides_148 ?_
            refine a_iald hS dX12_divides_149 (sB1 hW) ?_
            refine a_istore_n hS (L' := [some (rf w 0), some (iv x1), none, some (iv (q2.2 1 (wr (21 + x1)).toNat)), some (iv q1.1), none]) dX12_divides_150 hN (Nat.le_of_ble_eq_true rfl) rfl rfl ?_
            refine a_goto hS (tgt := 198) dX12_divides_151 (by decide) ?_
            refine a_goto hS (tgt := 2) dX12_divides_198 (by decide) ?_
            exact a_live (M := [true, true, false, true, false, false]) (hr2 x1 (q2.2 1 (wr (21 + x1)).toNat) q2.2) rfl
        · refine a_aload_n hS dX12_divides_105 rfl ?_
          refine a_iload_n hS dX12_divides_106 rfl ?_
          refine a_iload_n hS dX12_divides_107 rfl ?_
          refine a_callVi hS (rst := []) (c_Md_endOfString hW x1 x3 q2.2 ) miX12_endOfString mlX12_108 (sB0 hW) rfl rfl (Nat.le_of_ble_eq_true rfl) (Nat.le_of_ble_eq_true rfl) (Nat.le_of_ble_eq_true rfl) rfl dX12_divides_108 (fun q7 => ?_)
          refine a_istore hS (L' := [some (rf w 0), some (iv x1), none, some (iv x3), some (iv q1.1), some (iv q7.1)]) dX12_divides_111 hN (Nat.le_of_ble_eq_true rfl) rfl rfl ?_
          refine a_aload_n hS dX12_divides_113 rfl ?_
          refine a_iload_n hS dX12_divides_114 rfl ?_
          refine a_iload_n hS dX12_divides_115 rfl ?_
          refine a_iload hS dX12_divides_116 rfl ?_
          refine a_iconst hS dX12_divides_118 ?_
          refine a_callVv hS (rst := []) (c_Md_adds hW x1 x3 q7.1 2 q7.2 ) miX12_adds mlX12_104 (sB0 hW) rfl rfl (Nat.le_of_ble_eq_true rfl) (Nat.le_of_ble_eq_true rfl) (Nat.le_of_ble_eq_true rfl) rfl dX12_divides_119 (fun q8 => ?_)
          refine a_iload hS dX12_divides_122 rfl ?_
          refine a_istore_n hS (L' := [some (rf w 0), some (iv x1), none, some (iv q7.1), some (iv q1.1), some (iv q7.1)]) dX12_divides_124 hN (Nat.le_of_ble_eq_true rfl) rfl rfl ?_
          refine a_goto hS (tgt := 198) dX12_divides_125 (by decide) ?_
          refine a_goto hS (tgt := 2) dX12_divides_198 (by decide) ?_
          exact a_live (M := [true, true, false, true, false, false]) (hr2 x1 q7.1 q8.2) rfl
      · refine a_aload_n hS dX12_divides_45 rfl ?_
        refine a_iload_n hS dX12_divides_46 rfl ?_
        refine a_iload_n hS dX12_divides_47 rfl ?_
        refine a_iconst hS dX12_divides_48 ?_
        refine a_iadd hS dX12_divides_49 ?_
        refine a_callVi hS (rst := []) (c_Md_endOfLiteral hW x1 (x3 + 3) q2.2 ) miX12_endOfLiteral mlX12_101 (sB0 hW) rfl rfl (Nat.le_of_ble_eq_true rfl) (Nat.le_of_ble_eq_true rfl) (Nat.le_of_ble_eq_true rfl) rfl dX12_divides_50 (fun q9 => ?_)
        refine a_istore hS (L' := [some (rf w 0), some (iv x1), none, some (iv x3), some (iv q1.1), some (iv q9.1)]) dX12_divides_53 hN (Nat.le_of_ble_eq_true rfl) rfl rfl ?_
        refine a_aload_n hS dX12_divides_55 rfl ?_
        refine a_iload_n hS dX12_divides_56 rfl ?_
        refine a_iload_n hS dX12_divides_57 rfl ?_
        refine a_iload hS dX12_divides_58 rfl ?_
        refine a_bipush hS dX12_divides_60 rfl ?_
        refine a_icmpne hS rfl (wl (-9) rfl) (tgt := 77) dX12_divides_62 (by decide) ?_ ?_
        · refine a_iload hS dX12_divides_77 rfl ?_
          exact a_live (M := [true, true, false, false, false, true]) (k_Md_divides_79 hS hN hW  r2 hr2 x1 q9.1 q9.1 x3 x1 q9.2) rfl
        · refine a_aload_n hS dX12_divides_65 rfl ?_
          refine a_getR hS (j := 1) dX12_divides_66 flX12_7 (sB0 hW) rfl ?_
          refine a_bipush hS dX12_divides_69 rfl ?_
          refine a_iload_n hS dX12_divides_71 rfl ?_
          refine a_iadd hS dX12_divides_72 ?_
          refine a_iald hS dX12_divides_73 (sB1 hW) ?_
          refine a_goto hS (tgt := 79) dX12_divides_74 (by decide) ?_
          exact a_live (M := [true, true, false, false, false, true]) (k_Md_divides_79 hS hN hW  r2 hr2 x1 q9.1 (q9.2 1 (wr (21 + x1)).toNat) x3 x1 q9.2) rfl
    · refine a_iinc hS (L' := [some (rf w 0), some (iv x1), none, some (iv (x3 + 1)), some (iv q1.1), none]) dX12_divides_30 rfl hN (Nat.le_of_ble_eq_true rfl) rfl rfl ?_
      refine a_goto hS (tgt := 198) dX12_divides_33 (by decide) ?_
      refine a_goto hS (tgt := 2) dX12_divides_198 (by decide) ?_
      exact a_live (M := [true, true, false, true, false, false]) (hr2 x1 (x3 + 1) q1.2) rfl
set_option maxRecDepth 100000 in
set_option maxHeartbeats 4000000 in
theorem c_Md_divides {l : Launch} {w : Wd} (hW : shp w = ShB) (a0 : Int) (a1 : Int) (σ : Mem)  : Ctr l w yX12_divides cX12_divides 6 (some .boolean) (rmN 3 67) 1 [rf w 0, iv a0, iv a1] σ (Md_divides a0 a1 σ) := by
  refine met_of (own := RX12) (by decide) rfl rfl rfl (Nat.le_of_ble_eq_true rfl) (fun X x hXl hN hS => ⟨[some (rf w 0), some (iv a0), some (iv a1), none, none, none], ⟨3, rfl⟩, ?_⟩)
  subst hXl
  unfold Md_divides
  refine a_iload_n hS dX12_divides_0 rfl ?_
  refine a_istore_n hS (L' := [some (rf w 0), some (iv a0), some (iv a1), some (iv a1), none, none]) dX12_divides_1 hN (Nat.le_of_ble_eq_true rfl) rfl rfl ?_
  exact a_live (M := [true, true, false, true, false, false]) (k_Md_divides_2 hS hN hW   100000 a0 a1 σ) rfl
noncomputable def Md_tokenizes_51 (r9 : Int → Int → Mem → Option (Int × Mem))  (x1 : Int) (x2 : Int) (y0 : Int) (y1 : Int) (σ : Mem) : Option (Int × Mem) := if y0 = 0 ∨ y0 = 1 then (if 0 ≤ wr y1 ∧ wr y1 < (20 : Int) then (letM (upM σ 12 (wr y1).toNat y0) fun s5 => if wr x1 = 0 then ((Md_divides x2 0 s5).bind fun q6 => r9 q6.1 (x2 + 1) q6.2) else ((Md_endOfLiteral x2 0 s5).bind fun q7 => if wr q7.1 = (-9) then (r9 1 (x2 + 1) q7.2) else ((Md_divides x2 q7.1 q7.2).bind fun q8 => if wr q8.1 = 0 then (r9 0 (x2 + 1) q8.2) else (r9 1 (x2 + 1) q8.2)))) else none) else none
noncomputable def Md_tokenizes_9b   (r9 : Int → Int → Mem → Option (Int × Mem)) (x1 : Int) (x2 : Int) (σ : Mem) : Option (Int × Mem) := if 0 ≤ wr 0 ∧ wr 0 < (10780 : Int) then (if wr x2 < wr (σ 1 (wr 0).toNat) then (if 0 ≤ wr x2 ∧ wr x2 < (21 : Int) then (letM (upM σ 11 (wr x2).toNat (σ 0 12)) fun s3 => if wr x1 = 0 then (Md_tokenizes_51 r9 x1 x2 0 x2 s3) else ((Md_isBlank x2 s3).bind fun q4 => if wr q4.1 = 0 then (Md_tokenizes_51 r9 x1 x2 1 x2 q4.2) else (Md_tokenizes_51 r9 x1 x2 0 x2 q4.2))) else none) else (if 0 ≤ wr 0 ∧ wr 0 < (10780 : Int) then (if 0 ≤ wr (σ 1 (wr 0).toNat) ∧ wr (σ 1 (wr 0).toNat) < (21 : Int) then (letM (upM σ 11 (wr (σ 1 (wr 0).toNat)).toNat (σ 0 12)) fun s2 => some (0, s2)) else none) else none)) else none
noncomputable def Md_tokenizes_9   (n : Nat) : Int → Int → Mem → Option (Int × Mem) := fixN (fun _ _ _ => none) (Md_tokenizes_9b  ) n
noncomputable def Md_tokenizes  (σ : Mem) : Option (Int × Mem) := letM (upM σ 0 12 0) fun s1 => Md_tokenizes_9 100000 0 0 s1
set_option maxRecDepth 100000 in
set_option maxHeartbeats 4000000 in
theorem k_Md_tokenizes_51 {X : Cx} {w : Wd} {x : Int × Mem} (hS : Std X (rmN 4 92) w cX12_tokenizes RX12 none) (hN : cxn X = 4) (hW : shp w = ShB)  (r9 : Int → Int → Mem → Option (Int × Mem)) (hr9 : ∀ (x1 : Int) (x2 : Int) (σ : Mem), Sm X (rmN 4 92) w 0 x 9 [some (rf w 0), some (iv x1), some (iv x2), none] [] σ (r9 x1 x2 σ)) : ∀ (x1 : Int) (x2 : Int) (y0 : Int) (y1 : Int) (σ : Mem), Sm X (rmN 4 92) w 0 x 51 [some (rf w 0), some (iv x1), some (iv x2), none] [iv y0, iv y1, rf w 12] σ (Md_tokenizes_51 r9  x1 x2 y0 y1 σ) := by
  intro x1 x2 y0 y1 σ
  unfold Md_tokenizes_51
  refine a_chk (fun hv => ?_)
  refine a_zast hS hv (sB12 hW) dX12_tokenizes_51 ?_
  refine a_letM (fun s5 => ?_)
  refine a_iload_n hS dX12_tokenizes_52 rfl ?_
  refine a_ifeq hS rfl  (tgt := 87) dX12_tokenizes_53 (by decide) ?_ ?_
  · refine a_aload_n hS dX12_tokenizes_87 rfl ?_
    refine a_iload_n hS dX12_tokenizes_88 rfl ?_
    refine a_iconst hS dX12_tokenizes_89 ?_
    refine a_callVi hS (rst := []) (c_Md_divides hW x2 0 s5 ) miX12_divides mlX12_117 (sB0 hW) rfl rfl (Nat.le_of_ble_eq_true rfl) (Nat.le_of_ble_eq_true rfl) (Nat.le_of_ble_eq_true rfl) rfl dX12_tokenizes_90 (fun q6 => ?_)
    refine a_istore_n hS (L' := [some (rf w 0), some (iv q6.1), some (iv x2), none]) dX12_tokenizes_93 hN (Nat.le_of_ble_eq_true rfl) rfl rfl ?_
    refine a_iinc hS (L' := [some (rf w 0), some (iv q6.1), some (iv (x2 + 1)), none]) dX12_tokenizes_94 rfl hN (Nat.le_of_ble_eq_true rfl) rfl rfl ?_
    refine a_goto hS (tgt := 9) dX12_tokenizes_97 (by decide) ?_
    exact hr9 q6.1 (x2 + 1) q6.2
  · refine a_aload_n hS dX12_tokenizes_56 rfl ?_
    refine a_iload_n hS dX12_tokenizes_57 rfl ?_
    refine a_iconst hS dX12_tokenizes_58 ?_
    refine a_callVi hS (rst := []) (c_Md_endOfLiteral hW x2 0 s5 ) miX12_endOfLiteral mlX12_101 (sB0 hW) rfl rfl (Nat.le_of_ble_eq_true rfl) (Nat.le_of_ble_eq_true rfl) (Nat.le_of_ble_eq_true rfl) rfl dX12_tokenizes_59 (fun q7 => ?_)
    refine a_istore_n hS (L' := [some (rf w 0), some (iv x1), some (iv x2), some (iv q7.1)]) dX12_tokenizes_62 hN (Nat.le_of_ble_eq_true rfl) rfl rfl ?_
    refine a_iload_n hS dX12_tokenizes_63 rfl ?_
    refine a_bipush hS dX12_tokenizes_64 rfl ?_
    refine a_icmpeq hS rfl (wl (-9) rfl) (tgt := 78) dX12_tokenizes_66 (by decide) ?_ ?_
    · refine a_iconst hS dX12_tokenizes_78 ?_
      refine a_goto hS (tgt := 83) dX12_tokenizes_79 (by decide) ?_
      refine a_istore_n hS (L' := [some (rf w 0), some (iv 1), some (iv x2), some (iv q7.1)]) dX12_tokenizes_83 hN (Nat.le_of_ble_eq_true rfl) rfl rfl ?_
      refine a_goto hS (tgt := 94) dX12_tokenizes_84 (by decide) ?_
      refine a_iinc hS (L' := [some (rf w 0), some (iv 1), some (iv (x2 + 1)), some (iv q7.1)]) dX12_tokenizes_94 rfl hN (Nat.le_of_ble_eq_true rfl) rfl rfl ?_
      refine a_goto hS (tgt := 9) dX12_tokenizes_97 (by decide) ?_
      exact a_live (M := [true, true, true, false]) (hr9 1 (x2 + 1) q7.2) rfl
    · refine a_aload_n hS dX12_tokenizes_69 rfl ?_
      refine a_iload_n hS dX12_tokenizes_70 rfl ?_
      refine a_iload_n hS dX12_tokenizes_71 rfl ?_
      refine a_callVi hS (rst := []) (c_Md_divides hW x2 q7.1 q7.2 ) miX12_divides mlX12_117 (sB0 hW) rfl rfl (Nat.le_of_ble_eq_true rfl) (Nat.le_of_ble_eq_true rfl) (Nat.le_of_ble_eq_true rfl) rfl dX12_tokenizes_72 (fun q8 => ?_)
      refine a_ifeq hS rfl  (tgt := 82) dX12_tokenizes_75 (by decide) ?_ ?_
      · refine a_iconst hS dX12_tokenizes_82 ?_
        refine a_istore_n hS (L' := [some (rf w 0), some (iv 0), some (iv x2), some (iv q7.1)]) dX12_tokenizes_83 hN (Nat.le_of_ble_eq_true rfl) rfl rfl ?_
        refine a_goto hS (tgt := 94) dX12_tokenizes_84 (by decide) ?_
        refine a_iinc hS (L' := [some (rf w 0), some (iv 0), some (iv (x2 + 1)), some (iv q7.1)]) dX12_tokenizes_94 rfl hN (Nat.le_of_ble_eq_true rfl) rfl rfl ?_
        refine a_goto hS (tgt := 9) dX12_tokenizes_97 (by decide) ?_
        exact a_live (M := [true, true, true, false]) (hr9 0 (x2 + 1) q8.2) rfl
      · refine a_iconst hS dX12_tokenizes_78 ?_
        refine a_goto hS (tgt := 83) dX12_tokenizes_79 (by decide) ?_
        refine a_istore_n hS (L' := [some (rf w 0), some (iv 1), some (iv x2), some (iv q7.1)]) dX12_tokenizes_83 hN (Nat.le_of_ble_eq_true rfl) rfl rfl ?_
        refine a_goto hS (tgt := 94) dX12_tokenizes_84 (by decide) ?_
        refine a_iinc hS (L' := [some (rf w 0), some (iv 1), some (iv (x2 + 1)), some (iv q7.1)]) dX12_tokenizes_94 rfl hN (Nat.le_of_ble_eq_true rfl) rfl rfl ?_
        refine a_goto hS (tgt := 9) dX12_tokenizes_97 (by decide) ?_
        exact a_live (M := [true, true, true, false]) (hr9 1 (x2 + 1) q8.2) rfl
set_option maxRecDepth 100000 in
set_option maxHeartbeats 4000000 in
theorem k_Md_tokenizes_9 {X : Cx} {w : Wd} {x : Int × Mem} (hS : Std X (rmN 4 92) w cX12_tokenizes RX12 none) (hN : cxn X = 4) (hW : shp w = ShB)   : ∀ (n : Nat) (x1 : Int) (x2 : Int) (σ : Mem), Sm X (rmN 4 92) w 0 x 9 [some (rf w 0), some (iv x1), some (iv x2), none] [] σ (Md_tokenizes_9   n x1 x2 σ) := by
  refine fix_ok (P := fun (r9 : Int → Int → Mem → Option (Int × Mem)) => ∀ (x1 : Int) (x2 : Int) (σ : Mem), Sm X (rmN 4 92) w 0 x 9 [some (rf w 0), some (iv x1), some (iv x2), none] [] σ (r9 x1 x2 σ)) (fun _ _ _ => a_none) (fun r9 hr9 => ?_)
  intro x1 x2 σ
  unfold Md_tokenizes_9b
  refine a_iload_n hS dX12_tokenizes_9 rfl ?_
  refine a_aload_n hS dX12_tokenizes_10 rfl ?_
  refine a_getR hS (j := 1) dX12_tokenizes_11 flX12_7 (sB0 hW) rfl ?_
  refine a_iconst hS dX12_tokenizes_14 ?_
  refine a_iald hS dX12_tokenizes_15 (sB1 hW) ?_
  refine a_icmpge hS rfl rfl (tgt := 100) dX12_tokenizes_16 (by decide) ?_ ?_
  · refine a_aload_n hS dX12_tokenizes_100 rfl ?_
    refine a_getR hS (j := 11) dX12_tokenizes_101 flX12_41 (sB0 hW) rfl ?_
    refine a_aload_n hS dX12_tokenizes_104 rfl ?_
    refine a_getR hS (j := 1) dX12_tokenizes_105 flX12_7 (sB0 hW) rfl ?_
    refine a_iconst hS dX12_tokenizes_108 ?_
    refine a_iald hS dX12_tokenizes_109 (sB1 hW) ?_
    refine a_aload_n hS dX12_tokenizes_110 rfl ?_
    refine a_getI hS dX12_tokenizes_111 flX12_98 (sB0 hW) rfl ?_
    refine a_iast hS (sB11 hW) dX12_tokenizes_114 ?_
    refine a_letM (fun s2 => ?_)
    exact a_vret hS rfl rfl dX12_tokenizes_115
  · refine a_aload_n hS dX12_tokenizes_19 rfl ?_
    refine a_getR hS (j := 11) dX12_tokenizes_20 flX12_41 (sB0 hW) rfl ?_
    refine a_iload_n hS dX12_tokenizes_23 rfl ?_
    refine a_aload_n hS dX12_tokenizes_24 rfl ?_
    refine a_getI hS dX12_tokenizes_25 flX12_98 (sB0 hW) rfl ?_
    refine a_iast hS (sB11 hW) dX12_tokenizes_28 ?_
    refine a_letM (fun s3 => ?_)
    refine a_aload_n hS dX12_tokenizes_29 rfl ?_
    refine a_getR hS (j := 12) dX12_tokenizes_30 flX12_44 (sB0 hW) rfl ?_
    refine a_iload_n hS dX12_tokenizes_33 rfl ?_
    refine a_iload_n hS dX12_tokenizes_34 rfl ?_
    refine a_ifeq hS rfl  (tgt := 50) dX12_tokenizes_35 (by decide) ?_ ?_
    · refine a_iconst hS dX12_tokenizes_50 ?_
      exact k_Md_tokenizes_51 hS hN hW  r9 hr9 x1 x2 0 x2 s3
    · refine a_aload_n hS dX12_tokenizes_38 rfl ?_
      refine a_iload_n hS dX12_tokenizes_39 rfl ?_
      refine a_callVi hS (rst := [iv x2, rf w 12]) (c_Md_isBlank hW x2 s3 ) miX12_isBlank mlX12_114 (sB0 hW) rfl rfl (Nat.le_of_ble_eq_true rfl) (Nat.le_of_ble_eq_true rfl) (Nat.le_of_ble_eq_true rfl) rfl dX12_tokenizes_40 (fun q4 => ?_)
      refine a_ifne hS rfl  (tgt := 50) dX12_tokenizes_43 (by decide) ?_ ?_
      · refine a_iconst hS dX12_tokenizes_50 ?_
        exact k_Md_tokenizes_51 hS hN hW  r9 hr9 x1 x2 0 x2 q4.2
      · refine a_iconst hS dX12_tokenizes_46 ?_
        refine a_goto hS (tgt := 51) dX12_tokenizes_47 (by decide) ?_
        exact k_Md_tokenizes_51 hS hN hW  r9 hr9 x1 x2 1 x2 q4.2
set_option maxRecDepth 100000 in
set_option maxHeartbeats 4000000 in
theorem c_Md_tokenizes {l : Launch} {w : Wd} (hW : shp w = ShB)  (σ : Mem)  : Ctr l w yX12_tokenizes cX12_tokenizes 4 none (rmN 4 92) 0 [rf w 0] σ (Md_tokenizes  σ) := by
  refine met_of (own := RX12) (by decide) rfl rfl rfl (Nat.le_of_ble_eq_true rfl) (fun X x hXl hN hS => ⟨[some (rf w 0), none, none, none], ⟨3, rfl⟩, ?_⟩)
  subst hXl
  unfold Md_tokenizes
  refine a_aload_n hS dX12_tokenizes_0 rfl ?_
  refine a_iconst hS dX12_tokenizes_1 ?_
  refine a_putI hS dX12_tokenizes_2 plX12_98 (sB0 hW) rfl ?_
  refine a_letM (fun s1 => ?_)
  refine a_iconst hS dX12_tokenizes_5 ?_
  refine a_istore_n hS (L' := [some (rf w 0), some (iv 0), none, none]) dX12_tokenizes_6 hN (Nat.le_of_ble_eq_true rfl) rfl rfl ?_
  refine a_iconst hS dX12_tokenizes_7 ?_
  refine a_istore_n hS (L' := [some (rf w 0), some (iv 0), some (iv 0), none]) dX12_tokenizes_8 hN (Nat.le_of_ble_eq_true rfl) rfl rfl ?_
  exact k_Md_tokenizes_9 hS hN hW   100000 0 0 s1
noncomputable def Md_hasText_48b   (r48 : Int → Int → Int → Int → Mem → Option (Int × Mem)) (x1 : Int) (x4 : Int) (x5 : Int) (x6 : Int) (σ : Mem) : Option (Int × Mem) := if 0 ≤ wr x4 ∧ wr x4 < (10780 : Int) then (if wr x6 < wr (σ 1 (wr x4).toNat) then (if wr x5 = 0 then (if x5 = 0 ∨ x5 = 1 then some (x5, σ) else none) else (if 0 ≤ wr x1 ∧ wr x1 < (641 : Int) then (if 0 ≤ wr x1 ∧ wr x1 < (641 : Int) then ((Md_contentAt (σ 4 (wr x1).toNat) ((σ 5 (wr x1).toNat) + x6) σ).bind fun q1 => if 0 ≤ wr ((x4 + 1) + x6) ∧ wr ((x4 + 1) + x6) < (10780 : Int) then (if wr q1.1 = wr (q1.2 1 (wr ((x4 + 1) + x6)).toNat) then (r48 x1 x4 1 (x6 + 1) q1.2) else (r48 x1 x4 0 (x6 + 1) q1.2)) else none) else none) else none)) else (if x5 = 0 ∨ x5 = 1 then some (x5, σ) else none)) else none
noncomputable def Md_hasText_48   (n : Nat) : Int → Int → Int → Int → Mem → Option (Int × Mem) := fixN (fun _ _ _ _ _ => none) (Md_hasText_48b  ) n
noncomputable def Md_hasText (a0 : Int) (a1 : Int) (a2 : Int) (σ : Mem) : Option (Int × Mem) := if 0 ≤ wr a0 ∧ wr a0 < (641 : Int) then (if wr (σ 7 (wr a0).toNat) < 2 then (if 0 ≤ wr a0 ∧ wr a0 < (641 : Int) then (if 0 ≤ wr ((701 + (23 * a1)) + a2) ∧ wr ((701 + (23 * a1)) + a2) < (10780 : Int) then (if wr (σ 6 (wr a0).toNat) = wr (σ 1 (wr ((701 + (23 * a1)) + a2)).toNat) then (Md_hasText_48 100000 a0 ((701 + (23 * a1)) + a2) 1 0 σ) else (Md_hasText_48 100000 a0 ((701 + (23 * a1)) + a2) 0 0 σ)) else none) else none) else (Md_hasText_48 100000 a0 ((701 + (23 * a1)) + a2) 0 0 σ)) else none
set_option maxRecDepth 100000 in
set_option maxHeartbeats 4000000 in
theorem k_Md_hasText_48 {X : Cx} {w : Wd} {x : Int × Mem} (hS : Std X (rmN 1 22) w cX12_hasText RX12 (some .boolean)) (hN : cxn X = 7) (hW : shp w = ShB)   : ∀ (n : Nat) (x1 : Int) (x4 : Int) (x5 : Int) (x6 : Int) (σ : Mem), Sm X (rmN 1 22) w 1 x 48 [some (rf w 0), some (iv x1), none, none, some (iv x4), some (iv x5), some (iv x6)] [] σ (Md_hasText_48   n x1 x4 x5 x6 σ) := by
  refine fix_ok (P := fun (r48 : Int → Int → Int → Int → Mem → Option (Int × Mem)) => ∀ (x1 : Int) (x4 : Int) (x5 : Int) (x6 : Int) (σ : Mem), Sm X (rmN 1 22) w 1 x 48 [some (rf w 0), some (iv x1), none, none, some (iv x4), some (iv x5), some (iv x6)] [] σ (r48 x1 x4 x5 x6 σ)) (fun _ _ _ _ _ => a_none) (fun r48 hr48 => ?_)
  intro x1 x4 x5 x6 σ
  unfold Md_hasText_48b
  refine a_iload hS dX12_hasText_48 rfl ?_
  refine a_aload_n hS dX12_hasText_50 rfl ?_
  refine a_getR hS (j := 1) dX12_hasText_51 flX12_7 (sB0 hW) rfl ?_
  refine a_iload hS dX12_hasText_54 rfl ?_
  refine a_iald hS dX12_hasText_56 (sB1 hW) ?_
  refine a_icmpge hS rfl rfl (tgt := 112) dX12_hasText_57 (by decide) ?_ ?_
  · refine a_iload hS dX12_hasText_112 rfl ?_
    exact a_zretv hS rfl rfl dX12_hasText_114
  · refine a_iload hS dX12_hasText_60 rfl ?_
    refine a_ifeq hS rfl  (tgt := 112) dX12_hasText_62 (by decide) ?_ ?_
    · refine a_iload hS dX12_hasText_112 rfl ?_
      exact a_zretv hS rfl rfl dX12_hasText_114
    · refine a_aload_n hS dX12_hasText_65 rfl ?_
      refine a_aload_n hS dX12_hasText_66 rfl ?_
      refine a_getR hS (j := 4) dX12_hasText_67 flX12_20 (sB0 hW) rfl ?_
      refine a_iload_n hS dX12_hasText_70 rfl ?_
      refine a_iald hS dX12_hasText_71 (sB4 hW) ?_
      refine a_aload_n hS dX12_hasText_72 rfl ?_
      refine a_getR hS (j := 5) dX12_hasText_73 flX12_23 (sB0 hW) rfl ?_
      refine a_iload_n hS dX12_hasText_76 rfl ?_
      refine a_iald hS dX12_hasText_77 (sB5 hW) ?_
      refine a_iload hS dX12_hasText_78 rfl ?_
      refine a_iadd hS dX12_hasText_80 ?_
      refine a_callVi hS (rst := []) (c_Md_contentAt hW (σ 4 (wr x1).toNat) ((σ 5 (wr x1).toNat) + x6) σ ) miX12_contentAt mlX12_83 (sB0 hW) rfl rfl (Nat.le_of_ble_eq_true rfl) (Nat.le_of_ble_eq_true rfl) (Nat.le_of_ble_eq_true rfl) rfl dX12_hasText_81 (fun q1 => ?_)
      refine a_aload_n hS dX12_hasText_84 rfl ?_
      refine a_getR hS (j := 1) dX12_hasText_85 flX12_7 (sB0 hW) rfl ?_
      refine a_iload hS dX12_hasText_88 rfl ?_
      refine a_iconst hS dX12_hasText_90 ?_
      refine a_iadd hS dX12_hasText_91 ?_
      refine a_iload hS dX12_hasText_92 rfl ?_
      refine a_iadd hS dX12_hasText_94 ?_
      refine a_iald hS dX12_hasText_95 (sB1 hW) ?_
      refine a_icmpne hS rfl rfl (tgt := 103) dX12_hasText_96 (by decide) ?_ ?_
      · refine a_iconst hS dX12_hasText_103 ?_
        refine a_istore hS (L' := [some (rf w 0), some (iv x1), none, none, some (iv x4), some (iv 0), some (iv x6)]) dX12_hasText_104 hN (Nat.le_of_ble_eq_true rfl) rfl rfl ?_
        refine a_iinc hS (L' := [some (rf w 0), some (iv x1), none, none, some (iv x4), some (iv 0), some (iv (x6 + 1))]) dX12_hasText_106 rfl hN (Nat.le_of_ble_eq_true rfl) rfl rfl ?_
        refine a_goto hS (tgt := 48) dX12_hasText_109 (by decide) ?_
        exact hr48 x1 x4 0 (x6 + 1) q1.2
      · refine a_iconst hS dX12_hasText_99 ?_
        refine a_goto hS (tgt := 104) dX12_hasText_100 (by decide) ?_
        refine a_istore hS (L' := [some (rf w 0), some (iv x1), none, none, some (iv x4), some (iv 1), some (iv x6)]) dX12_hasText_104 hN (Nat.le_of_ble_eq_true rfl) rfl rfl ?_
        refine a_iinc hS (L' := [some (rf w 0), some (iv x1), none, none, some (iv x4), some (iv 1), some (iv (x6 + 1))]) dX12_hasText_106 rfl hN (Nat.le_of_ble_eq_true rfl) rfl rfl ?_
        refine a_goto hS (tgt := 48) dX12_hasText_109 (by decide) ?_
        exact hr48 x1 x4 1 (x6 + 1) q1.2
set_option maxRecDepth 100000 in
set_option maxHeartbeats 4000000 in
theorem c_Md_hasText {l : Launch} {w : Wd} (hW : shp w = ShB) (a0 : Int) (a1 : Int) (a2 : Int) (σ : Mem)  : Ctr l w yX12_hasText cX12_hasText 7 (some .boolean) (rmN 1 22) 1 [rf w 0, iv a0, iv a1, iv a2] σ (Md_hasText a0 a1 a2 σ) := by
  refine met_of (own := RX12) (by decide) rfl rfl rfl (Nat.le_of_ble_eq_true rfl) (fun X x hXl hN hS => ⟨[some (rf w 0), some (iv a0), some (iv a1), some (iv a2), none, none, none], ⟨3, rfl⟩, ?_⟩)
  subst hXl
  unfold Md_hasText
  refine a_sipush hS dX12_hasText_0 rfl ?_
  refine a_bipush hS dX12_hasText_3 rfl ?_
  refine a_iload_n hS dX12_hasText_5 rfl ?_
  refine a_imul hS dX12_hasText_6 ?_
  refine a_iadd hS dX12_hasText_7 ?_
  refine a_iload_n hS dX12_hasText_8 rfl ?_
  refine a_iadd hS dX12_hasText_9 ?_
  refine a_istore hS (L' := [some (rf w 0), some (iv a0), some (iv a1), some (iv a2), some (iv ((701 + (23 * a1)) + a2)), none, none]) dX12_hasText_10 hN (Nat.le_of_ble_eq_true rfl) rfl rfl ?_
  refine a_aload_n hS dX12_hasText_12 rfl ?_
  refine a_getR hS (j := 7) dX12_hasText_13 flX12_29 (sB0 hW) rfl ?_
  refine a_iload_n hS dX12_hasText_16 rfl ?_
  refine a_iald hS dX12_hasText_17 (sB7 hW) ?_
  refine a_iconst hS dX12_hasText_18 ?_
  refine a_icmpge hS rfl (wl 2 rfl) (tgt := 42) dX12_hasText_19 (by decide) ?_ ?_
  · refine a_iconst hS dX12_hasText_42 ?_
    refine a_istore hS (L' := [some (rf w 0), some (iv a0), some (iv a1), some (iv a2), some (iv ((701 + (23 * a1)) + a2)), some (iv 0), none]) dX12_hasText_43 hN (Nat.le_of_ble_eq_true rfl) rfl rfl ?_
    refine a_iconst hS dX12_hasText_45 ?_
    refine a_istore hS (L' := [some (rf w 0), some (iv a0), some (iv a1), some (iv a2), some (iv ((701 + (23 * a1)) + a2)), some (iv 0), some (iv 0)]) dX12_hasText_46 hN (Nat.le_of_ble_eq_true rfl) rfl rfl ?_
    exact a_live (M := [true, true, false, false, true, true, true]) (k_Md_hasText_48 hS hN hW   100000 a0 ((701 + (23 * a1)) + a2) 0 0 σ) rfl
  · refine a_aload_n hS dX12_hasText_22 rfl ?_
    refine a_getR hS (j := 6) dX12_hasText_23 flX12_26 (sB0 hW) rfl ?_
    refine a_iload_n hS dX12_hasText_26 rfl ?_
    refine a_iald hS dX12_hasText_27 (sB6 hW) ?_
    refine a_aload_n hS dX12_hasText_28 rfl ?_
    refine a_getR hS (j := 1) dX12_hasText_29 flX12_7 (sB0 hW) rfl ?_
    refine a_iload hS dX12_hasText_32 rfl ?_
    refine a_iald hS dX12_hasText_34 (sB1 hW) ?_
    refine a_icmpne hS rfl rfl (tgt := 42) dX12_hasText_35 (by decide) ?_ ?_
    · refine a_iconst hS dX12_hasText_42 ?_
      refine a_istore hS (L' := [some (rf w 0), some (iv a0), some (iv a1), some (iv a2), some (iv ((701 + (23 * a1)) + a2)), some (iv 0), none]) dX12_hasText_43 hN (Nat.le_of_ble_eq_true rfl) rfl rfl ?_
      refine a_iconst hS dX12_hasText_45 ?_
      refine a_istore hS (L' := [some (rf w 0), some (iv a0), some (iv a1), some (iv a2), some (iv ((701 + (23 * a1)) + a2)), some (iv 0), some (iv 0)]) dX12_hasText_46 hN (Nat.le_of_ble_eq_true rfl) rfl rfl ?_
      exact a_live (M := [true, true, false, false, true, true, true]) (k_Md_hasText_48 hS hN hW   100000 a0 ((701 + (23 * a1)) + a2) 0 0 σ) rfl
    · refine a_iconst hS dX12_hasText_38 ?_
      refine a_goto hS (tgt := 43) dX12_hasText_39 (by decide) ?_
      refine a_istore hS (L' := [some (rf w 0), some (iv a0), some (iv a1), some (iv a2), some (iv ((701 + (23 * a1)) + a2)), some (iv 1), none]) dX12_hasText_43 hN (Nat.le_of_ble_eq_true rfl) rfl rfl ?_
      refine a_iconst hS dX12_hasText_45 ?_
      refine a_istore hS (L' := [some (rf w 0), some (iv a0), some (iv a1), some (iv a2), some (iv ((701 + (23 * a1)) + a2)), some (iv 1), some (iv 0)]) dX12_hasText_46 hN (Nat.le_of_ble_eq_true rfl) rfl rfl ?_
      exact a_live (M := [true, true, false, false, true, true, true]) (k_Md_hasText_48 hS hN hW   100000 a0 ((701 + (23 * a1)) + a2) 1 0 σ) rfl
noncomputable def Md_ruleAt (a0 : Int) (a1 : Int) (σ : Mem) : Option (Int × Mem) := if 0 ≤ wr ((701 + (23 * a0)) + a1) ∧ wr ((701 + (23 * a0)) + a1) < (10780 : Int) then (some ((σ 1 (wr ((701 + (23 * a0)) + a1)).toNat), σ)) else none
set_option maxRecDepth 100000 in
set_option maxHeartbeats 4000000 in
theorem c_Md_ruleAt {l : Launch} {w : Wd} (hW : shp w = ShB) (a0 : Int) (a1 : Int) (σ : Mem)  : Ctr l w yX12_ruleAt cX12_ruleAt 3 (some .int) (rmN 0 0) 1 [rf w 0, iv a0, iv a1] σ (Md_ruleAt a0 a1 σ) := by
  refine met_of (own := RX12) (by decide) rfl rfl rfl (Nat.le_of_ble_eq_true rfl) (fun X x hXl hN hS => ⟨[some (rf w 0), some (iv a0), some (iv a1)], ⟨0, rfl⟩, ?_⟩)
  subst hXl
  unfold Md_ruleAt
  refine a_aload_n hS dX12_ruleAt_0 rfl ?_
  refine a_getR hS (j := 1) dX12_ruleAt_1 flX12_7 (sB0 hW) rfl ?_
  refine a_sipush hS dX12_ruleAt_4 rfl ?_
  refine a_bipush hS dX12_ruleAt_7 rfl ?_
  refine a_iload_n hS dX12_ruleAt_9 rfl ?_
  refine a_imul hS dX12_ruleAt_10 ?_
  refine a_iadd hS dX12_ruleAt_11 ?_
  refine a_iload_n hS dX12_ruleAt_12 rfl ?_
  refine a_iadd hS dX12_ruleAt_13 ?_
  refine a_iald hS dX12_ruleAt_14 (sB1 hW) ?_
  exact a_iret hS rfl rfl dX12_ruleAt_15
noncomputable def Md_ruleFor_40 (r6 : Int → Int → Int → Int → Mem → Option (Int × Mem))  (x1 : Int) (x2 : Int) (x3 : Int) (x4 : Int) (y0 : Int) (σ : Mem) : Option (Int × Mem) := if wr y0 = 0 then (r6 x1 x2 x3 (x4 + 1) σ) else (if wr x3 = (-9) then (r6 x1 x2 x4 (x4 + 1) σ) else ((Md_ruleAt x4 1 σ).bind fun q3 => (Md_ruleAt x3 1 q3.2).bind fun q4 => if wr q4.1 < wr q3.1 then (r6 x1 x2 x4 (x4 + 1) q4.2) else (r6 x1 x2 x3 (x4 + 1) q4.2)))
noncomputable def Md_ruleFor_6b   (r6 : Int → Int → Int → Int → Mem → Option (Int × Mem)) (x1 : Int) (x2 : Int) (x3 : Int) (x4 : Int) (σ : Mem) : Option (Int × Mem) := if wr x4 < 12 then ((Md_ruleAt x4 0 σ).bind fun q1 => if wr q1.1 = wr x2 then ((Md_hasText x1 x4 5 q1.2).bind fun q2 => if wr q2.1 = 0 then (Md_ruleFor_40 r6 x1 x2 x3 x4 0 q2.2) else (Md_ruleFor_40 r6 x1 x2 x3 x4 1 q2.2)) else (Md_ruleFor_40 r6 x1 x2 x3 x4 0 q1.2)) else (some (x3, σ))
noncomputable def Md_ruleFor_6   (n : Nat) : Int → Int → Int → Int → Mem → Option (Int × Mem) := fixN (fun _ _ _ _ _ => none) (Md_ruleFor_6b  ) n
noncomputable def Md_ruleFor (a0 : Int) (a1 : Int) (σ : Mem) : Option (Int × Mem) := Md_ruleFor_6 100000 a0 a1 (-9) 0 σ
set_option maxRecDepth 100000 in
set_option maxHeartbeats 4000000 in
theorem k_Md_ruleFor_40 {X : Cx} {w : Wd} {x : Int × Mem} (hS : Std X (rmN 2 48) w cX12_ruleFor RX12 (some .int)) (hN : cxn X = 6) (hW : shp w = ShB)  (r6 : Int → Int → Int → Int → Mem → Option (Int × Mem)) (hr6 : ∀ (x1 : Int) (x2 : Int) (x3 : Int) (x4 : Int) (σ : Mem), Sm X (rmN 2 48) w 1 x 6 [some (rf w 0), some (iv x1), some (iv x2), some (iv x3), some (iv x4), none] [] σ (r6 x1 x2 x3 x4 σ)) : ∀ (x1 : Int) (x2 : Int) (x3 : Int) (x4 : Int) (y0 : Int) (σ : Mem), Sm X (rmN 2 48) w 1 x 40 [some (rf w 0), some (iv x1), some (iv x2), some (iv x3), some (iv x4), none] [iv y0] σ (Md_ruleFor_40 r6  x1 x2 x3 x4 y0 σ) := by
  intro x1 x2 x3 x4 y0 σ
  unfold Md_ruleFor_40
  refine a_istore hS (L' := [some (rf w 0), some (iv x1), some (iv x2), some (iv x3), some (iv x4), some (iv y0)]) dX12_ruleFor_40 hN (Nat.le_of_ble_eq_true rfl) rfl rfl ?_
  refine a_iload hS dX12_ruleFor_42 rfl ?_
  refine a_ifeq hS rfl  (tgt := 74) dX12_ruleFor_44 (by decide) ?_ ?_
  · refine a_iload_n hS dX12_ruleFor_74 rfl ?_
    refine a_istore_n hS (L' := [some (rf w 0), some (iv x1), some (iv x2), some (iv x3), some (iv x4), some (iv y0)]) dX12_ruleFor_75 hN (Nat.le_of_ble_eq_true rfl) rfl rfl ?_
    refine a_iinc hS (L' := [some (rf w 0), some (iv x1), some (iv x2), some (iv x3), some (iv (x4 + 1)), some (iv y0)]) dX12_ruleFor_76 rfl hN (Nat.le_of_ble_eq_true rfl) rfl rfl ?_
    refine a_goto hS (tgt := 6) dX12_ruleFor_79 (by decide) ?_
    exact a_live (M := [true, true, true, true, true, false]) (hr6 x1 x2 x3 (x4 + 1) σ) rfl
  · refine a_iload_n hS dX12_ruleFor_47 rfl ?_
    refine a_bipush hS dX12_ruleFor_48 rfl ?_
    refine a_icmpeq hS rfl (wl (-9) rfl) (tgt := 69) dX12_ruleFor_50 (by decide) ?_ ?_
    · refine a_iload hS dX12_ruleFor_69 rfl ?_
      refine a_goto hS (tgt := 75) dX12_ruleFor_71 (by decide) ?_
      refine a_istore_n hS (L' := [some (rf w 0), some (iv x1), some (iv x2), some (iv x4), some (iv x4), some (iv y0)]) dX12_ruleFor_75 hN (Nat.le_of_ble_eq_true rfl) rfl rfl ?_
      refine a_iinc hS (L' := [some (rf w 0), some (iv x1), some (iv x2), some (iv x4), some (iv (x4 + 1)), some (iv y0)]) dX12_ruleFor_76 rfl hN (Nat.le_of_ble_eq_true rfl) rfl rfl ?_
      refine a_goto hS (tgt := 6) dX12_ruleFor_79 (by decide) ?_
      exact a_live (M := [true, true, true, true, true, false]) (hr6 x1 x2 x4 (x4 + 1) σ) rfl
    · refine a_aload_n hS dX12_ruleFor_53 rfl ?_
      refine a_iload hS dX12_ruleFor_54 rfl ?_
      refine a_iconst hS dX12_ruleFor_56 ?_
      refine a_callVi hS (rst := []) (c_Md_ruleAt hW x4 1 σ ) miX12_ruleAt mlX12_120 (sB0 hW) rfl rfl (Nat.le_of_ble_eq_true rfl) (Nat.le_of_ble_eq_true rfl) (Nat.le_of_ble_eq_true rfl) rfl dX12_ruleFor_57 (fun q3 => ?_)
      refine a_aload_n hS dX12_ruleFor_60 rfl ?_
      refine a_iload_n hS dX12_ruleFor_61 rfl ?_
      refine a_iconst hS dX12_ruleFor_62 ?_
      refine a_callVi hS (rst := [iv q3.1]) (c_Md_ruleAt hW x3 1 q3.2 ) miX12_ruleAt mlX12_120 (sB0 hW) rfl rfl (Nat.le_of_ble_eq_true rfl) (Nat.le_of_ble_eq_true rfl) (Nat.le_of_ble_eq_true rfl) rfl dX12_ruleFor_63 (fun q4 => ?_)
      refine a_icmple hS rfl rfl (tgt := 74) dX12_ruleFor_66 (by decide) ?_ ?_
      · refine a_iload_n hS dX12_ruleFor_74 rfl ?_
        refine a_istore_n hS (L' := [some (rf w 0), some (iv x1), some (iv x2), some (iv x3), some (iv x4), some (iv y0)]) dX12_ruleFor_75 hN (Nat.le_of_ble_eq_true rfl) rfl rfl ?_
        refine a_iinc hS (L' := [some (rf w 0), some (iv x1), some (iv x2), some (iv x3), some (iv (x4 + 1)), some (iv y0)]) dX12_ruleFor_76 rfl hN (Nat.le_of_ble_eq_true rfl) rfl rfl ?_
        refine a_goto hS (tgt := 6) dX12_ruleFor_79 (by decide) ?_
        exact a_live (M := [true, true, true, true, true, false]) (hr6 x1 x2 x3 (x4 + 1) q4.2) rfl
      · refine a_iload hS dX12_ruleFor_69 rfl ?_
        refine a_goto hS (tgt := 75) dX12_ruleFor_71 (by decide) ?_
        refine a_istore_n hS (L' := [some (rf w 0), some (iv x1), some (iv x2), some (iv x4), some (iv x4), some (iv y0)]) dX12_ruleFor_75 hN (Nat.le_of_ble_eq_true rfl) rfl rfl ?_
        refine a_iinc hS (L' := [some (rf w 0), some (iv x1), some (iv x2), some (iv x4), some (iv (x4 + 1)), some (iv y0)]) dX12_ruleFor_76 rfl hN (Nat.le_of_ble_eq_true rfl) rfl rfl ?_
        refine a_goto hS (tgt := 6) dX12_ruleFor_79 (by decide) ?_
        exact a_live (M := [true, true, true, true, true, false]) (hr6 x1 x2 x4 (x4 + 1) q4.2) rfl
set_option maxRecDepth 100000 in
set_option maxHeartbeats 4000000 in
theorem k_Md_ruleFor_6 {X : Cx} {w : Wd} {x : Int × Mem} (hS : Std X (rmN 2 48) w cX12_ruleFor RX12 (some .int)) (hN : cxn X = 6) (hW : shp w = ShB)   : ∀ (n : Nat) (x1 : Int) (x2 : Int) (x3 : Int) (x4 : Int) (σ : Mem), Sm X (rmN 2 48) w 1 x 6 [some (rf w 0), some (iv x1), some (iv x2), some (iv x3), some (iv x4), none] [] σ (Md_ruleFor_6   n x1 x2 x3 x4 σ) := by
  refine fix_ok (P := fun (r6 : Int → Int → Int → Int → Mem → Option (Int × Mem)) => ∀ (x1 : Int) (x2 : Int) (x3 : Int) (x4 : Int) (σ : Mem), Sm X (rmN 2 48) w 1 x 6 [some (rf w 0), some (iv x1), some (iv x2), some (iv x3), some (iv x4), none] [] σ (r6 x1 x2 x3 x4 σ)) (fun _ _ _ _ _ => a_none) (fun r6 hr6 => ?_)
  intro x1 x2 x3 x4 σ
  unfold Md_ruleFor_6b
  refine a_iload hS dX12_ruleFor_6 rfl ?_
  refine a_bipush hS dX12_ruleFor_8 rfl ?_
  refine a_icmpge hS rfl (wl 12 rfl) (tgt := 82) dX12_ruleFor_10 (by decide) ?_ ?_
  · refine a_iload_n hS dX12_ruleFor_82 rfl ?_
    exact a_iret hS rfl rfl dX12_ruleFor_83
  · refine a_aload_n hS dX12_ruleFor_13 rfl ?_
    refine a_iload hS dX12_ruleFor_14 rfl ?_
    refine a_iconst hS dX12_ruleFor_16 ?_
    refine a_callVi hS (rst := []) (c_Md_ruleAt hW x4 0 σ ) miX12_ruleAt mlX12_120 (sB0 hW) rfl rfl (Nat.le_of_ble_eq_true rfl) (Nat.le_of_ble_eq_true rfl) (Nat.le_of_ble_eq_true rfl) rfl dX12_ruleFor_17 (fun q1 => ?_)
    refine a_iload_n hS dX12_ruleFor_20 rfl ?_
    refine a_icmpne hS rfl rfl (tgt := 39) dX12_ruleFor_21 (by decide) ?_ ?_
    · refine a_iconst hS dX12_ruleFor_39 ?_
      exact k_Md_ruleFor_40 hS hN hW  r6 hr6 x1 x2 x3 x4 0 q1.2
    · refine a_aload_n hS dX12_ruleFor_24 rfl ?_
      refine a_iload_n hS dX12_ruleFor_25 rfl ?_
      refine a_iload hS dX12_ruleFor_26 rfl ?_
      refine a_iconst hS dX12_ruleFor_28 ?_
      refine a_callVi hS (rst := []) (c_Md_hasText hW x1 x4 5 q1.2 ) miX12_hasText mlX12_123 (sB0 hW) rfl rfl (Nat.le_of_ble_eq_true rfl) (Nat.le_of_ble_eq_true rfl) (Nat.le_of_ble_eq_true rfl) rfl dX12_ruleFor_29 (fun q2 => ?_)
      refine a_ifeq hS rfl  (tgt := 39) dX12_ruleFor_32 (by decide) ?_ ?_
      · refine a_iconst hS dX12_ruleFor_39 ?_
        exact k_Md_ruleFor_40 hS hN hW  r6 hr6 x1 x2 x3 x4 0 q2.2
      · refine a_iconst hS dX12_ruleFor_35 ?_
        refine a_goto hS (tgt := 40) dX12_ruleFor_36 (by decide) ?_
        exact k_Md_ruleFor_40 hS hN hW  r6 hr6 x1 x2 x3 x4 1 q2.2
set_option maxRecDepth 100000 in
set_option maxHeartbeats 4000000 in
theorem c_Md_ruleFor {l : Launch} {w : Wd} (hW : shp w = ShB) (a0 : Int) (a1 : Int) (σ : Mem)  : Ctr l w yX12_ruleFor cX12_ruleFor 6 (some .int) (rmN 2 48) 1 [rf w 0, iv a0, iv a1] σ (Md_ruleFor a0 a1 σ) := by
  refine met_of (own := RX12) (by decide) rfl rfl rfl (Nat.le_of_ble_eq_true rfl) (fun X x hXl hN hS => ⟨[some (rf w 0), some (iv a0), some (iv a1), none, none, none], ⟨3, rfl⟩, ?_⟩)
  subst hXl
  unfold Md_ruleFor
  refine a_bipush hS dX12_ruleFor_0 rfl ?_
  refine a_istore_n hS (L' := [some (rf w 0), some (iv a0), some (iv a1), some (iv (-9)), none, none]) dX12_ruleFor_2 hN (Nat.le_of_ble_eq_true rfl) rfl rfl ?_
  refine a_iconst hS dX12_ruleFor_3 ?_
  refine a_istore hS (L' := [some (rf w 0), some (iv a0), some (iv a1), some (iv (-9)), some (iv 0), none]) dX12_ruleFor_4 hN (Nat.le_of_ble_eq_true rfl) rfl rfl ?_
  exact k_Md_ruleFor_6 hS hN hW   100000 a0 a1 (-9) 0 σ
noncomputable def Md_isClosingText_4b   (r4 : Int → Int → Int → Mem → Option (Int × Mem)) (x1 : Int) (x2 : Int) (x3 : Int) (σ : Mem) : Option (Int × Mem) := if wr x3 < 12 then (if wr x2 = 0 then ((Md_ruleAt x3 0 σ).bind fun q1 => if wr q1.1 = 1 then ((Md_hasText x1 x3 14 q1.2).bind fun q2 => if wr q2.1 = 0 then (r4 x1 0 (x3 + 1) q2.2) else (r4 x1 1 (x3 + 1) q2.2)) else (r4 x1 0 (x3 + 1) q1.2)) else (r4 x1 1 (x3 + 1) σ)) else (if x2 = 0 ∨ x2 = 1 then some (x2, σ) else none)
noncomputable def Md_isClosingText_4   (n : Nat) : Int → Int → Int → Mem → Option (Int × Mem) := fixN (fun _ _ _ _ => none) (Md_isClosingText_4b  ) n
noncomputable def Md_isClosingText (a0 : Int) (σ : Mem) : Option (Int × Mem) := Md_isClosingText_4 100000 a0 0 0 σ
set_option maxRecDepth 100000 in
set_option maxHeartbeats 4000000 in
theorem k_Md_isClosingText_4 {X : Cx} {w : Wd} {x : Int × Mem} (hS : Std X (rmN 2 48) w cX12_isClosingText RX12 (some .boolean)) (hN : cxn X = 4) (hW : shp w = ShB)   : ∀ (n : Nat) (x1 : Int) (x2 : Int) (x3 : Int) (σ : Mem), Sm X (rmN 2 48) w 1 x 4 [some (rf w 0), some (iv x1), some (iv x2), some (iv x3)] [] σ (Md_isClosingText_4   n x1 x2 x3 σ) := by
  refine fix_ok (P := fun (r4 : Int → Int → Int → Mem → Option (Int × Mem)) => ∀ (x1 : Int) (x2 : Int) (x3 : Int) (σ : Mem), Sm X (rmN 2 48) w 1 x 4 [some (rf w 0), some (iv x1), some (iv x2), some (iv x3)] [] σ (r4 x1 x2 x3 σ)) (fun _ _ _ _ => a_none) (fun r4 hr4 => ?_)
  intro x1 x2 x3 σ
  unfold Md_isClosingText_4b
  refine a_iload_n hS dX12_isClosingText_4 rfl ?_
  refine a_bipush hS dX12_isClosingText_5 rfl ?_
  refine a_icmpge hS rfl (wl 12 rfl) (tgt := 47) dX12_isClosingText_7 (by decide) ?_ ?_
  · refine a_iload_n hS dX12_isClosingText_47 rfl ?_
    exact a_zretv hS rfl rfl dX12_isClosingText_48
  · refine a_iload_n hS dX12_isClosingText_10 rfl ?_
    refine a_ifne hS rfl  (tgt := 35) dX12_isClosingText_11 (by decide) ?_ ?_
    · refine a_iconst hS dX12_isClosingText_35 ?_
      refine a_goto hS (tgt := 40) dX12_isClosingText_36 (by decide) ?_
      refine a_istore_n hS (L' := [some (rf w 0), some (iv x1), some (iv 1), some (iv x3)]) dX12_isClosingText_40 hN (Nat.le_of_ble_eq_true rfl) rfl rfl ?_
      refine a_iinc hS (L' := [some (rf w 0), some (iv x1), some (iv 1), some (iv (x3 + 1))]) dX12_isClosingText_41 rfl hN (Nat.le_of_ble_eq_true rfl) rfl rfl ?_
      refine a_goto hS (tgt := 4) dX12_isClosingText_44 (by decide) ?_
      exact hr4 x1 1 (x3 + 1) σ
    · refine a_aload_n hS dX12_isClosingText_14 rfl ?_
      refine a_iload_n hS dX12_isClosingText_15 rfl ?_
      refine a_iconst hS dX12_isClosingText_16 ?_
      refine a_callVi hS (rst := []) (c_Md_ruleAt hW x3 0 σ ) miX12_ruleAt mlX12_120 (sB0 hW) rfl rfl (Nat.le_of_ble_eq_true rfl) (Nat.le_of_ble_eq_true rfl) (Nat.le_of_ble_eq_true rfl) rfl dX12_isClosingText_17 (fun q1 => ?_)
      refine a_iconst hS dX12_isClosingText_20 ?_
      refine a_icmpne hS rfl (wl 1 rfl) (tgt := 39) dX12_isClosingText_21 (by decide) ?_ ?_
      · refine a_iconst hS dX12_isClosingText_39 ?_
        refine a_istore_n hS (L' := [some (rf w 0), some (iv x1), some (iv 0), some (iv x3)]) dX12_isClosingText_40 hN (Nat.le_of_ble_eq_true rfl) rfl rfl ?_
        refine a_iinc hS (L' := [some (rf w 0), some (iv x1), some (iv 0), some (iv (x3 + 1))]) dX12_isClosingText_41 rfl hN (Nat.le_of_ble_eq_true rfl) rfl rfl ?_
        refine a_goto hS (tgt := 4) dX12_isClosingText_44 (by decide) ?_
        exact hr4 x1 0 (x3 + 1) q1.2
      · refine a_aload_n hS dX12_isClosingText_24 rfl ?_
        refine a_iload_n hS dX12_isClosingText_25 rfl ?_
        refine a_iload_n hS dX12_isClosingText_26 rfl ?_
        refine a_bipush hS dX12_isClosingText_27 rfl ?_
        refine a_callVi hS (rst := []) (c_Md_hasText hW x1 x3 14 q1.2 ) miX12_hasText mlX12_123 (sB0 hW) rfl rfl (Nat.le_of_ble_eq_true rfl) (Nat.le_of_ble_eq_true rfl) (Nat.le_of_ble_eq_true rfl) rfl dX12_isClosingText_29 (fun q2 => ?_)
        refine a_ifeq hS rfl  (tgt := 39) dX12_isClosingText_32 (by decide) ?_ ?_
        · refine a_iconst hS dX12_isClosingText_39 ?_
          refine a_istore_n hS (L' := [some (rf w 0), some (iv x1), some (iv 0), some (iv x3)]) dX12_isClosingText_40 hN (Nat.le_of_ble_eq_true rfl) rfl rfl ?_
          refine a_iinc hS (L' := [some (rf w 0), some (iv x1), some (iv 0), some (iv (x3 + 1))]) dX12_isClosingText_41 rfl hN (Nat.le_of_ble_eq_true rfl) rfl rfl ?_
          refine a_goto hS (tgt := 4) dX12_isClosingText_44 (by decide) ?_
          exact hr4 x1 0 (x3 + 1) q2.2
        · refine a_iconst hS dX12_isClosingText_35 ?_
          refine a_goto hS (tgt := 40) dX12_isClosingText_36 (by decide) ?_
          refine a_istore_n hS (L' := [some (rf w 0), some (iv x1), some (iv 1), some (iv x3)]) dX12_isClosingText_40 hN (Nat.le_of_ble_eq_true rfl) rfl rfl ?_
          refine a_iinc hS (L' := [some (rf w 0), some (iv x1), some (iv 1), some (iv (x3 + 1))]) dX12_isClosingText_41 rfl hN (Nat.le_of_ble_eq_true rfl) rfl rfl ?_
          refine a_goto hS (tgt := 4) dX12_isClosingText_44 (by decide) ?_
          exact hr4 x1 1 (x3 + 1) q2.2
set_option maxRecDepth 100000 in
set_option maxHeartbeats 4000000 in
theorem c_Md_isClosingText {l : Launch} {w : Wd} (hW : shp w = ShB) (a0 : Int) (σ : Mem)  : Ctr l w yX12_isClosingText cX12_isClosingText 4 (some .boolean) (rmN 2 48) 1 [rf w 0, iv a0] σ (Md_isClosingText a0 σ) := by
  refine met_of (own := RX12) (by decide) rfl rfl rfl (Nat.le_of_ble_eq_true rfl) (fun X x hXl hN hS => ⟨[some (rf w 0), some (iv a0), none, none], ⟨2, rfl⟩, ?_⟩)
  subst hXl
  unfold Md_isClosingText
  refine a_iconst hS dX12_isClosingText_0 ?_
  refine a_istore_n hS (L' := [some (rf w 0), some (iv a0), some (iv 0), none]) dX12_isClosingText_1 hN (Nat.le_of_ble_eq_true rfl) rfl rfl ?_
  refine a_iconst hS dX12_isClosingText_2 ?_
  refine a_istore_n hS (L' := [some (rf w 0), some (iv a0), some (iv 0), some (iv 0)]) dX12_isClosingText_3 hN (Nat.le_of_ble_eq_true rfl) rfl rfl ?_
  exact k_Md_isClosingText_4 hS hN hW   100000 a0 0 0 σ
noncomputable def Md_shuts_114   (x1 : Int) (x2 : Int) (x3 : Int) (σ : Mem) : Option (Int × Mem) := if wr x3 = 0 then ((Md_isClosingText x1 σ).bind fun q4 => if wr q4.1 = 0 then (some (0, q4.2)) else (letM (upM q4.2 0 19 ((q4.2 0 19) + 1)) fun s5 => some (0, s5))) else (if 0 ≤ wr x2 ∧ wr x2 < (12 : Int) then (if 0 ≤ wr x1 ∧ wr x1 < (641 : Int) then (letM (upM σ 9 (wr x1).toNat (σ 15 (wr x2).toNat)) fun s6 => if 0 ≤ wr x2 ∧ wr x2 < (12 : Int) then (if 0 ≤ wr (s6 15 (wr x2).toNat) ∧ wr (s6 15 (wr x2).toNat) < (641 : Int) then (letM (upM s6 10 (wr (s6 15 (wr x2).toNat)).toNat x1) fun s7 => letM (upM s7 0 20 ((s7 0 20) + (((s7 0 18) - 1) - x2))) fun s8 => letM (upM s8 0 18 x2) fun s9 => some (0, s9)) else none) else none) else none) else none)
noncomputable def Md_shuts_53b   (r53 : Int → Int → Int → Int → Mem → Option (Int × Mem)) (x1 : Int) (x2 : Int) (x3 : Int) (x4 : Int) (σ : Mem) : Option (Int × Mem) := if wr x4 < wr (σ 0 18) then (if wr x3 = 0 then (Md_shuts_114 x1 x2 x3 σ) else (if 0 ≤ wr x4 ∧ wr x4 < (12 : Int) then (if 0 ≤ wr (σ 15 (wr x4).toNat) ∧ wr (σ 15 (wr x4).toNat) < (641 : Int) then ((Md_ruleAt (σ 8 (wr (σ 15 (wr x4).toNat)).toNat) 1 σ).bind fun q2 => if 0 ≤ wr x2 ∧ wr x2 < (12 : Int) then (if 0 ≤ wr (q2.2 15 (wr x2).toNat) ∧ wr (q2.2 15 (wr x2).toNat) < (641 : Int) then ((Md_ruleAt (q2.2 8 (wr (q2.2 15 (wr x2).toNat)).toNat) 1 q2.2).bind fun q3 => if wr q2.1 < wr q3.1 then (r53 x1 x2 1 (x4 + 1) q3.2) else (r53 x1 x2 0 (x4 + 1) q3.2)) else none) else none) else none) else none)) else (Md_shuts_114 x1 x2 x3 σ)
noncomputable def Md_shuts_53   (n : Nat) : Int → Int → Int → Int → Mem → Option (Int × Mem) := fixN (fun _ _ _ _ _ => none) (Md_shuts_53b  ) n
noncomputable def Md_shuts_38   (x1 : Int) (x2 : Int) (σ : Mem) : Option (Int × Mem) := if wr x2 < 0 then (Md_shuts_53 100000 x1 x2 0 (x2 + 1) σ) else (Md_shuts_53 100000 x1 x2 1 (x2 + 1) σ)
noncomputable def Md_shuts_7b   (r7 : Int → Int → Mem → Option (Int × Mem)) (x1 : Int) (x2 : Int) (σ : Mem) : Option (Int × Mem) := if wr x2 < 0 then (Md_shuts_38 x1 x2 σ) else (if 0 ≤ wr x2 ∧ wr x2 < (12 : Int) then (if 0 ≤ wr (σ 15 (wr x2).toNat) ∧ wr (σ 15 (wr x2).toNat) < (641 : Int) then ((Md_hasText x1 (σ 8 (wr (σ 15 (wr x2).toNat)).toNat) 14 σ).bind fun q1 => if wr q1.1 = 0 then (r7 x1 (x2 + (-1)) q1.2) else (Md_shuts_38 x1 x2 q1.2)) else none) else none)
noncomputable def Md_shuts_7   (n : Nat) : Int → Int → Mem → Option (Int × Mem) := fixN (fun _ _ _ => none) (Md_shuts_7b  ) n
noncomputable def Md_shuts (a0 : Int) (σ : Mem) : Option (Int × Mem) := Md_shuts_7 100000 a0 ((σ 0 18) - 1) σ
set_option maxRecDepth 100000 in
set_option maxHeartbeats 4000000 in
theorem k_Md_shuts_114 {X : Cx} {w : Wd} {x : Int × Mem} (hS : Std X (rmN 3 71) w cX12_shuts RX12 none) (hN : cxn X = 5) (hW : shp w = ShB)   : ∀ (x1 : Int) (x2 : Int) (x3 : Int) (σ : Mem), Sm X (rmN 3 71) w 0 x 114 [some (rf w 0), some (iv x1), some (iv x2), some (iv x3), none] [] σ (Md_shuts_114   x1 x2 x3 σ) := by
  intro x1 x2 x3 σ
  unfold Md_shuts_114
  refine a_iload_n hS dX12_shuts_114 rfl ?_
  refine a_ifeq hS rfl  (tgt := 167) dX12_shuts_115 (by decide) ?_ ?_
  · refine a_aload_n hS dX12_shuts_167 rfl ?_
    refine a_iload_n hS dX12_shuts_168 rfl ?_
    refine a_callVi hS (rst := []) (c_Md_isClosingText hW x1 σ ) miX12_isClosingText mlX12_132 (sB0 hW) rfl rfl (Nat.le_of_ble_eq_true rfl) (Nat.le_of_ble_eq_true rfl) (Nat.le_of_ble_eq_true rfl) rfl dX12_shuts_169 (fun q4 => ?_)
    refine a_ifeq hS rfl  (tgt := 185) dX12_shuts_172 (by decide) ?_ ?_
    · exact a_vret hS rfl rfl dX12_shuts_185
    · refine a_aload_n hS dX12_shuts_175 rfl ?_
      refine a_dup hS rfl dX12_shuts_176 ?_
      refine a_getI hS dX12_shuts_177 flX12_135 (sB0 hW) rfl ?_
      refine a_iconst hS dX12_shuts_180 ?_
      refine a_iadd hS dX12_shuts_181 ?_
      refine a_putI hS dX12_shuts_182 plX12_135 (sB0 hW) rfl ?_
      refine a_letM (fun s5 => ?_)
      exact a_vret hS rfl rfl dX12_shuts_185
  · refine a_aload_n hS dX12_shuts_118 rfl ?_
    refine a_getR hS (j := 9) dX12_shuts_119 flX12_35 (sB0 hW) rfl ?_
    refine a_iload_n hS dX12_shuts_122 rfl ?_
    refine a_aload_n hS dX12_shuts_123 rfl ?_
    refine a_getR hS (j := 15) dX12_shuts_124 flX12_53 (sB0 hW) rfl ?_
    refine a_iload_n hS dX12_shuts_127 rfl ?_
    refine a_iald hS dX12_shuts_128 (sB15 hW) ?_
    refine a_iast hS (sB9 hW) dX12_shuts_129 ?_
    refine a_letM (fun s6 => ?_)
    refine a_aload_n hS dX12_shuts_130 rfl ?_
    refine a_getR hS (j := 10) dX12_shuts_131 flX12_38 (sB0 hW) rfl ?_
    refine a_aload_n hS dX12_shuts_134 rfl ?_
    refine a_getR hS (j := 15) dX12_shuts_135 flX12_53 (sB0 hW) rfl ?_
    refine a_iload_n hS dX12_shuts_138 rfl ?_
    refine a_iald hS dX12_shuts_139 (sB15 hW) ?_
    refine a_iload_n hS dX12_shuts_140 rfl ?_
    refine a_iast hS (sB10 hW) dX12_shuts_141 ?_
    refine a_letM (fun s7 => ?_)
    refine a_aload_n hS dX12_shuts_142 rfl ?_
    refine a_dup hS rfl dX12_shuts_143 ?_
    refine a_getI hS dX12_shuts_144 flX12_129 (sB0 hW) rfl ?_
    refine a_aload_n hS dX12_shuts_147 rfl ?_
    refine a_getI hS dX12_shuts_148 flX12_126 (sB0 hW) rfl ?_
    refine a_iconst hS dX12_shuts_151 ?_
    refine a_isub hS dX12_shuts_152 ?_
    refine a_iload_n hS dX12_shuts_153 rfl ?_
    refine a_isub hS dX12_shuts_154 ?_
    refine a_iadd hS dX12_shuts_155 ?_
    refine a_putI hS dX12_shuts_156 plX12_129 (sB0 hW) rfl ?_
    refine a_letM (fun s8 => ?_)
    refine a_aload_n hS dX12_shuts_159 rfl ?_
    refine a_iload_n hS dX12_shuts_160 rfl ?_
    refine a_putI hS dX12_shuts_161 plX12_126 (sB0 hW) rfl ?_
    refine a_letM (fun s9 => ?_)
    refine a_goto hS (tgt := 185) dX12_shuts_164 (by decide) ?_
    exact a_vret hS rfl rfl dX12_shuts_185
set_option maxRecDepth 100000 in
set_option maxHeartbeats 4000000 in
theorem k_Md_shuts_53 {X : Cx} {w : Wd} {x : Int × Mem} (hS : Std X (rmN 3 71) w cX12_shuts RX12 none) (hN : cxn X = 5) (hW : shp w = ShB)   : ∀ (n : Nat) (x1 : Int) (x2 : Int) (x3 : Int) (x4 : Int) (σ : Mem), Sm X (rmN 3 71) w 0 x 53 [some (rf w 0), some (iv x1), some (iv x2), some (iv x3), some (iv x4)] [] σ (Md_shuts_53   n x1 x2 x3 x4 σ) := by
  refine fix_ok (P := fun (r53 : Int → Int → Int → Int → Mem → Option (Int × Mem)) => ∀ (x1 : Int) (x2 : Int) (x3 : Int) (x4 : Int) (σ : Mem), Sm X (rmN 3 71) w 0 x 53 [some (rf w 0), some (iv x1), some (iv x2), some (iv x3), some (iv x4)] [] σ (r53 x1 x2 x3 x4 σ)) (fun _ _ _ _ _ => a_none) (fun r53 hr53 => ?_)
  intro x1 x2 x3 x4 σ
  unfold Md_shuts_53b
  refine a_iload hS dX12_shuts_53 rfl ?_
  refine a_aload_n hS dX12_shuts_55 rfl ?_
  refine a_getI hS dX12_shuts_56 flX12_126 (sB0 hW) rfl ?_
  refine a_icmpge hS rfl rfl (tgt := 114) dX12_shuts_59 (by decide) ?_ ?_
  · exact a_live (M := [true, true, true, true, false]) (k_Md_shuts_114 hS hN hW   x1 x2 x3 σ) rfl
  · refine a_iload_n hS dX12_shuts_62 rfl ?_
    refine a_ifeq hS rfl  (tgt := 114) dX12_shuts_63 (by decide) ?_ ?_
    · exact a_live (M := [true, true, true, true, false]) (k_Md_shuts_114 hS hN hW   x1 x2 x3 σ) rfl
    · refine a_aload_n hS dX12_shuts_66 rfl ?_
      refine a_aload_n hS dX12_shuts_67 rfl ?_
      refine a_getR hS (j := 8) dX12_shuts_68 flX12_32 (sB0 hW) rfl ?_
      refine a_aload_n hS dX12_shuts_71 rfl ?_
      refine a_getR hS (j := 15) dX12_shuts_72 flX12_53 (sB0 hW) rfl ?_
      refine a_iload hS dX12_shuts_75 rfl ?_
      refine a_iald hS dX12_shuts_77 (sB15 hW) ?_
      refine a_iald hS dX12_shuts_78 (sB8 hW) ?_
      refine a_iconst hS dX12_shuts_79 ?_
      refine a_callVi hS (rst := []) (c_Md_ruleAt hW (σ 8 (wr (σ 15 (wr x4).toNat)).toNat) 1 σ ) miX12_ruleAt mlX12_120 (sB0 hW) rfl rfl (Nat.le_of_ble_eq_true rfl) (Nat.le_of_ble_eq_true rfl) (Nat.le_of_ble_eq_true rfl) rfl dX12_shuts_80 (fun q2 => ?_)
      refine a_aload_n hS dX12_shuts_83 rfl ?_
      refine a_aload_n hS dX12_shuts_84 rfl ?_
      refine a_getR hS (j := 8) dX12_shuts_85 flX12_32 (sB0 hW) rfl ?_
      refine a_aload_n hS dX12_shuts_88 rfl ?_
      refine a_getR hS (j := 15) dX12_shuts_89 flX12_53 (sB0 hW) rfl ?_
      refine a_iload_n hS dX12_shuts_92 rfl ?_
      refine a_iald hS dX12_shuts_93 (sB15 hW) ?_
      refine a_iald hS dX12_shuts_94 (sB8 hW) ?_
      refine a_iconst hS dX12_shuts_95 ?_
      refine a_callVi hS (rst := [iv q2.1]) (c_Md_ruleAt hW (q2.2 8 (wr (q2.2 15 (wr x2).toNat)).toNat) 1 q2.2 ) miX12_ruleAt mlX12_120 (sB0 hW) rfl rfl (Nat.le_of_ble_eq_true rfl) (Nat.le_of_ble_eq_true rfl) (Nat.le_of_ble_eq_true rfl) rfl dX12_shuts_96 (fun q3 => ?_)
      refine a_icmpge hS rfl rfl (tgt := 106) dX12_shuts_99 (by decide) ?_ ?_
      · refine a_iconst hS dX12_shuts_106 ?_
        refine a_istore_n hS (L' := [some (rf w 0), some (iv x1), some (iv x2), some (iv 0), some (iv x4)]) dX12_shuts_107 hN (Nat.le_of_ble_eq_true rfl) rfl rfl ?_
        refine a_iinc hS (L' := [some (rf w 0), some (iv x1), some (iv x2), some (iv 0), some (iv (x4 + 1))]) dX12_shuts_108 rfl hN (Nat.le_of_ble_eq_true rfl) rfl rfl ?_
        refine a_goto hS (tgt := 53) dX12_shuts_111 (by decide) ?_
        exact hr53 x1 x2 0 (x4 + 1) q3.2
      · refine a_iconst hS dX12_shuts_102 ?_
        refine a_goto hS (tgt := 107) dX12_shuts_103 (by decide) ?_
        refine a_istore_n hS (L' := [some (rf w 0), some (iv x1), some (iv x2), some (iv 1), some (iv x4)]) dX12_shuts_107 hN (Nat.le_of_ble_eq_true rfl) rfl rfl ?_
        refine a_iinc hS (L' := [some (rf w 0), some (iv x1), some (iv x2), some (iv 1), some (iv (x4 + 1))]) dX12_shuts_108 rfl hN (Nat.le_of_ble_eq_true rfl) rfl rfl ?_
        refine a_goto hS (tgt := 53) dX12_shuts_111 (by decide) ?_
        exact hr53 x1 x2 1 (x4 + 1) q3.2
set_option maxRecDepth 100000 in
set_option maxHeartbeats 4000000 in
theorem k_Md_shuts_38 {X : Cx} {w : Wd} {x : Int × Mem} (hS : Std X (rmN 3 71) w cX12_shuts RX12 none) (hN : cxn X = 5) (hW : shp w = ShB)   : ∀ (x1 : Int) (x2 : Int) (σ : Mem), Sm X (rmN 3 71) w 0 x 38 [some (rf w 0), some (iv x1), some (iv x2), none, none] [] σ (Md_shuts_38   x1 x2 σ) := by
  intro x1 x2 σ
  unfold Md_shuts_38
  refine a_iload_n hS dX12_shuts_38 rfl ?_
  refine a_iflt hS rfl  (tgt := 46) dX12_shuts_39 (by decide) ?_ ?_
  · refine a_iconst hS dX12_shuts_46 ?_
    refine a_istore_n hS (L' := [some (rf w 0), some (iv x1), some (iv x2), some (iv 0), none]) dX12_shuts_47 hN (Nat.le_of_ble_eq_true rfl) rfl rfl ?_
    refine a_iload_n hS dX12_shuts_48 rfl ?_
    refine a_iconst hS dX12_shuts_49 ?_
    refine a_iadd hS dX12_shuts_50 ?_
    refine a_istore hS (L' := [some (rf w 0), some (iv x1), some (iv x2), some (iv 0), some (iv (x2 + 1))]) dX12_shuts_51 hN (Nat.le_of_ble_eq_true rfl) rfl rfl ?_
    exact k_Md_shuts_53 hS hN hW   100000 x1 x2 0 (x2 + 1) σ
  · refine a_iconst hS dX12_shuts_42 ?_
    refine a_goto hS (tgt := 47) dX12_shuts_43 (by decide) ?_
    refine a_istore_n hS (L' := [some (rf w 0), some (iv x1), some (iv x2), some (iv 1), none]) dX12_shuts_47 hN (Nat.le_of_ble_eq_true rfl) rfl rfl ?_
    refine a_iload_n hS dX12_shuts_48 rfl ?_
    refine a_iconst hS dX12_shuts_49 ?_
    refine a_iadd hS dX12_shuts_50 ?_
    refine a_istore hS (L' := [some (rf w 0), some (iv x1), some (iv x2), some (iv 1), some (iv (x2 + 1))]) dX12_shuts_51 hN (Nat.le_of_ble_eq_true rfl) rfl rfl ?_
    exact k_Md_shuts_53 hS hN hW   100000 x1 x2 1 (x2 + 1) σ
set_option maxRecDepth 100000 in
set_option maxHeartbeats 4000000 in
theorem k_Md_shuts_7 {X : Cx} {w : Wd} {x : Int × Mem} (hS : Std X (rmN 3 71) w cX12_shuts RX12 none) (hN : cxn X = 5) (hW : shp w = ShB)   : ∀ (n : Nat) (x1 : Int) (x2 : Int) (σ : Mem), Sm X (rmN 3 71) w 0 x 7 [some (rf w 0), some (iv x1), some (iv x2), none, none] [] σ (Md_shuts_7   n x1 x2 σ) := by
  refine fix_ok (P := fun (r7 : Int → Int → Mem → Option (Int × Mem)) => ∀ (x1 : Int) (x2 : Int) (σ : Mem), Sm X (rmN 3 71) w 0 x 7 [some (rf w 0), some (iv x1), some (iv x2), none, none] [] σ (r7 x1 x2 σ)) (fun _ _ _ => a_none) (fun r7 hr7 => ?_)
  intro x1 x2 σ
  unfold Md_shuts_7b
  refine a_iload_n hS dX12_shuts_7 rfl ?_
  refine a_iflt hS rfl  (tgt := 38) dX12_shuts_8 (by decide) ?_ ?_
  · exact k_Md_shuts_38 hS hN hW   x1 x2 σ
  · refine a_aload_n hS dX12_shuts_11 rfl ?_
    refine a_iload_n hS dX12_shuts_12 rfl ?_
    refine a_aload_n hS dX12_shuts_13 rfl ?_
    refine a_getR hS (j := 8) dX12_shuts_14 flX12_32 (sB0 hW) rfl ?_
    refine a_aload_n hS dX12_shuts_17 rfl ?_
    refine a_getR hS (j := 15) dX12_shuts_18 flX12_53 (sB0 hW) rfl ?_
    refine a_iload_n hS dX12_shuts_21 rfl ?_
    refine a_iald hS dX12_shuts_22 (sB15 hW) ?_
    refine a_iald hS dX12_shuts_23 (sB8 hW) ?_
    refine a_bipush hS dX12_shuts_24 rfl ?_
    refine a_callVi hS (rst := []) (c_Md_hasText hW x1 (σ 8 (wr (σ 15 (wr x2).toNat)).toNat) 14 σ ) miX12_hasText mlX12_123 (sB0 hW) rfl rfl (Nat.le_of_ble_eq_true rfl) (Nat.le_of_ble_eq_true rfl) (Nat.le_of_ble_eq_true rfl) rfl dX12_shuts_26 (fun q1 => ?_)
    refine a_ifne hS rfl  (tgt := 38) dX12_shuts_29 (by decide) ?_ ?_
    · exact k_Md_shuts_38 hS hN hW   x1 x2 q1.2
    · refine a_iinc hS (L' := [some (rf w 0), some (iv x1), some (iv (x2 + (-1))), none, none]) dX12_shuts_32 rfl hN (Nat.le_of_ble_eq_true rfl) rfl rfl ?_
      refine a_goto hS (tgt := 7) dX12_shuts_35 (by decide) ?_
      exact hr7 x1 (x2 + (-1)) q1.2
set_option maxRecDepth 100000 in
set_option maxHeartbeats 4000000 in
theorem c_Md_shuts {l : Launch} {w : Wd} (hW : shp w = ShB) (a0 : Int) (σ : Mem)  : Ctr l w yX12_shuts cX12_shuts 5 none (rmN 3 71) 0 [rf w 0, iv a0] σ (Md_shuts a0 σ) := by
  refine met_of (own := RX12) (by decide) rfl rfl rfl (Nat.le_of_ble_eq_true rfl) (fun X x hXl hN hS => ⟨[some (rf w 0), some (iv a0), none, none, none], ⟨3, rfl⟩, ?_⟩)
  subst hXl
  unfold Md_shuts
  refine a_aload_n hS dX12_shuts_0 rfl ?_
  refine a_getI hS dX12_shuts_1 flX12_126 (sB0 hW) rfl ?_
  refine a_iconst hS dX12_shuts_4 ?_
  refine a_isub hS dX12_shuts_5 ?_
  refine a_istore_n hS (L' := [some (rf w 0), some (iv a0), some (iv ((σ 0 18) - 1)), none, none]) dX12_shuts_6 hN (Nat.le_of_ble_eq_true rfl) rfl rfl ?_
  exact k_Md_shuts_7 hS hN hW   100000 a0 ((σ 0 18) - 1) σ
noncomputable def Md_notes_12b   (r12 : Int → Int → Mem → Option (Int × Mem)) (x1 : Int) (x2 : Int) (σ : Mem) : Option (Int × Mem) := if wr x2 < wr (σ 0 18) then (if 0 ≤ wr x2 ∧ wr x2 < (12 : Int) then (if 0 ≤ wr ((12 * x1) + x2) ∧ wr ((12 * x1) + x2) < (252 : Int) then (letM (upM σ 14 (wr ((12 * x1) + x2)).toNat (σ 15 (wr x2).toNat)) fun s2 => r12 x1 (x2 + 1) s2) else none) else none) else (some (0, σ))
noncomputable def Md_notes_12   (n : Nat) : Int → Int → Mem → Option (Int × Mem) := fixN (fun _ _ _ => none) (Md_notes_12b  ) n
noncomputable def Md_notes (a0 : Int) (σ : Mem) : Option (Int × Mem) := if 0 ≤ wr a0 ∧ wr a0 < (21 : Int) then (letM (upM σ 13 (wr a0).toNat (σ 0 18)) fun s1 => Md_notes_12 100000 a0 0 s1) else none
set_option maxRecDepth 100000 in
set_option maxHeartbeats 4000000 in
theorem k_Md_notes_12 {X : Cx} {w : Wd} {x : Int × Mem} (hS : Std X (rmN 0 0) w cX12_notes RX12 none) (hN : cxn X = 3) (hW : shp w = ShB)   : ∀ (n : Nat) (x1 : Int) (x2 : Int) (σ : Mem), Sm X (rmN 0 0) w 0 x 12 [some (rf w 0), some (iv x1), some (iv x2)] [] σ (Md_notes_12   n x1 x2 σ) := by
  refine fix_ok (P := fun (r12 : Int → Int → Mem → Option (Int × Mem)) => ∀ (x1 : Int) (x2 : Int) (σ : Mem), Sm X (rmN 0 0) w 0 x 12 [some (rf w 0), some (iv x1), some (iv x2)] [] σ (r12 x1 x2 σ)) (fun _ _ _ => a_none) (fun r12 hr12 => ?_)
  intro x1 x2 σ
  unfold Md_notes_12b
  refine a_iload_n hS dX12_notes_12 rfl ?_
  refine a_aload_n hS dX12_notes_13 rfl ?_
  refine a_getI hS dX12_notes_14 flX12_126 (sB0 hW) rfl ?_
  refine a_icmpge hS rfl rfl (tgt := 43) dX12_notes_17 (by decide) ?_ ?_
  · exact a_vret hS rfl rfl dX12_notes_43
  · refine a_aload_n hS dX12_notes_20 rfl ?_
    refine a_getR hS (j := 14) dX12_notes_21 flX12_50 (sB0 hW) rfl ?_
    refine a_bipush hS dX12_notes_24 rfl ?_
    refine a_iload_n hS dX12_notes_26 rfl ?_
    refine a_imul hS dX12_notes_27 ?_
    refine a_iload_n hS dX12_notes_28 rfl ?_
    refine a_iadd hS dX12_notes_29 ?_
    refine a_aload_n hS dX12_notes_30 rfl ?_
    refine a_getR hS (j := 15) dX12_notes_31 flX12_53 (sB0 hW) rfl ?_
    refine a_iload_n hS dX12_notes_34 rfl ?_
    refine a_iald hS dX12_notes_35 (sB15 hW) ?_
    refine a_iast hS (sB14 hW) dX12_notes_36 ?_
    refine a_letM (fun s2 => ?_)
    refine a_iinc hS (L' := [some (rf w 0), some (iv x1), some (iv (x2 + 1))]) dX12_notes_37 rfl hN (Nat.le_of_ble_eq_true rfl) rfl rfl ?_
    refine a_goto hS (tgt := 12) dX12_notes_40 (by decide) ?_
    exact hr12 x1 (x2 + 1) s2
set_option maxRecDepth 100000 in
set_option maxHeartbeats 4000000 in
theorem c_Md_notes {l : Launch} {w : Wd} (hW : shp w = ShB) (a0 : Int) (σ : Mem)  : Ctr l w yX12_notes cX12_notes 3 none (rmN 0 0) 0 [rf w 0, iv a0] σ (Md_notes a0 σ) := by
  refine met_of (own := RX12) (by decide) rfl rfl rfl (Nat.le_of_ble_eq_true rfl) (fun X x hXl hN hS => ⟨[some (rf w 0), some (iv a0), none], ⟨1, rfl⟩, ?_⟩)
  subst hXl
  unfold Md_notes
  refine a_aload_n hS dX12_notes_0 rfl ?_
  refine a_getR hS (j := 13) dX12_notes_1 flX12_47 (sB0 hW) rfl ?_
  refine a_iload_n hS dX12_notes_4 rfl ?_
  refine a_aload_n hS dX12_notes_5 rfl ?_
  refine a_getI hS dX12_notes_6 flX12_126 (sB0 hW) rfl ?_
  refine a_iast hS (sB13 hW) dX12_notes_9 ?_
  refine a_letM (fun s1 => ?_)
  refine a_iconst hS dX12_notes_10 ?_
  refine a_istore_n hS (L' := [some (rf w 0), some (iv a0), some (iv 0)]) dX12_notes_11 hN (Nat.le_of_ble_eq_true rfl) rfl rfl ?_
  exact k_Md_notes_12 hS hN hW   100000 a0 0 s1
noncomputable def Md_looks_43b (r21 : Int → Mem → Option (Int × Mem))  (r43 : Int → Int → Mem → Option (Int × Mem)) (x1 : Int) (x2 : Int) (σ : Mem) : Option (Int × Mem) := if 0 ≤ wr (x1 + 1) ∧ wr (x1 + 1) < (21 : Int) then (if wr x2 < wr (σ 11 (wr (x1 + 1)).toNat) then (if 0 ≤ wr x2 ∧ wr x2 < (641 : Int) then (letM (upM σ 8 (wr x2).toNat (-9)) fun s7 => if 0 ≤ wr x2 ∧ wr x2 < (641 : Int) then (letM (upM s7 9 (wr x2).toNat (-9)) fun s8 => if 0 ≤ wr x2 ∧ wr x2 < (641 : Int) then (letM (upM s8 10 (wr x2).toNat (-9)) fun s9 => (Md_shuts x2 s9).bind fun q10 => (Md_ruleFor x2 1 q10.2).bind fun q11 => if wr q11.1 = (-9) then (r43 x1 (x2 + 1) q11.2) else (if wr (q11.2 0 18) < 12 then (if 0 ≤ wr x2 ∧ wr x2 < (641 : Int) then (letM (upM q11.2 8 (wr x2).toNat q11.1) fun s12 => if 0 ≤ wr (s12 0 18) ∧ wr (s12 0 18) < (12 : Int) then (letM (upM s12 15 (wr (s12 0 18)).toNat x2) fun s13 => letM (upM s13 0 18 ((s13 0 18) + 1)) fun s14 => r43 x1 (x2 + 1) s14) else none) else none) else (r43 x1 (x2 + 1) q11.2))) else none) else none) else none) else (r21 (x1 + 1) σ)) else none
noncomputable def Md_looks_43 (r21 : Int → Mem → Option (Int × Mem))  (n : Nat) : Int → Int → Mem → Option (Int × Mem) := fixN (fun _ _ _ => none) (Md_looks_43b r21 ) n
noncomputable def Md_looks_21b   (r21 : Int → Mem → Option (Int × Mem)) (x1 : Int) (σ : Mem) : Option (Int × Mem) := if 0 ≤ wr 0 ∧ wr 0 < (10780 : Int) then (if wr x1 < wr (σ 1 (wr 0).toNat) then ((Md_notes x1 σ).bind fun q6 => if 0 ≤ wr x1 ∧ wr x1 < (21 : Int) then (Md_looks_43 r21 100000 x1 (q6.2 11 (wr x1).toNat) q6.2) else none) else (if 0 ≤ wr 0 ∧ wr 0 < (10780 : Int) then ((Md_notes (σ 1 (wr 0).toNat) σ).bind fun q5 => some (0, q5.2)) else none)) else none
noncomputable def Md_looks_21   (n : Nat) : Int → Mem → Option (Int × Mem) := fixN (fun _ _ => none) (Md_looks_21b  ) n
noncomputable def Md_looks  (σ : Mem) : Option (Int × Mem) := (Md_tokenizes  σ).bind fun q1 => letM (upM q1.2 0 18 0) fun s2 => letM (upM s2 0 19 0) fun s3 => letM (upM s3 0 20 0) fun s4 => Md_looks_21 100000 0 s4
set_option maxRecDepth 100000 in
set_option maxHeartbeats 4000000 in
theorem k_Md_looks_43 {X : Cx} {w : Wd} {x : Int × Mem} (hS : Std X (rmN 5 115) w cX12_looks RX12 none) (hN : cxn X = 4) (hW : shp w = ShB)  (r21 : Int → Mem → Option (Int × Mem)) (hr21 : ∀ (x1 : Int) (σ : Mem), Sm X (rmN 5 115) w 0 x 21 [some (rf w 0), some (iv x1), none, none] [] σ (r21 x1 σ)) : ∀ (n : Nat) (x1 : Int) (x2 : Int) (σ : Mem), Sm X (rmN 5 115) w 0 x 43 [some (rf w 0), some (iv x1), some (iv x2), none] [] σ (Md_looks_43 r21  n x1 x2 σ) := by
  refine fix_ok (P := fun (r43 : Int → Int → Mem → Option (Int × Mem)) => ∀ (x1 : Int) (x2 : Int) (σ : Mem), Sm X (rmN 5 115) w 0 x 43 [some (rf w 0), some (iv x1), some (iv x2), none] [] σ (r43 x1 x2 σ)) (fun _ _ _ => a_none) (fun r43 hr43 => ?_)
  intro x1 x2 σ
  unfold Md_looks_43b
  refine a_iload_n hS dX12_looks_43 rfl ?_
  refine a_aload_n hS dX12_looks_44 rfl ?_
  refine a_getR hS (j := 11) dX12_looks_45 flX12_41 (sB0 hW) rfl ?_
  refine a_iload_n hS dX12_looks_48 rfl ?_
  refine a_iconst hS dX12_looks_49 ?_
  refine a_iadd hS dX12_looks_50 ?_
  refine a_iald hS dX12_looks_51 (sB11 hW) ?_
  refine a_icmpge hS rfl rfl (tgt := 139) dX12_looks_52 (by decide) ?_ ?_
  · refine a_iinc hS (L' := [some (rf w 0), some (iv (x1 + 1)), some (iv x2), none]) dX12_looks_139 rfl hN (Nat.le_of_ble_eq_true rfl) rfl rfl ?_
    refine a_goto hS (tgt := 21) dX12_looks_142 (by decide) ?_
    exact a_live (M := [true, true, false, false]) (hr21 (x1 + 1) σ) rfl
  · refine a_aload_n hS dX12_looks_55 rfl ?_
    refine a_getR hS (j := 8) dX12_looks_56 flX12_32 (sB0 hW) rfl ?_
    refine a_iload_n hS dX12_looks_59 rfl ?_
    refine a_bipush hS dX12_looks_60 rfl ?_
    refine a_iast hS (sB8 hW) dX12_looks_62 ?_
    refine a_letM (fun s7 => ?_)
    refine a_aload_n hS dX12_looks_63 rfl ?_
    refine a_getR hS (j := 9) dX12_looks_64 flX12_35 (sB0 hW) rfl ?_
    refine a_iload_n hS dX12_looks_67 rfl ?_
    refine a_bipush hS dX12_looks_68 rfl ?_
    refine a_iast hS (sB9 hW) dX12_looks_70 ?_
    refine a_letM (fun s8 => ?_)
    refine a_aload_n hS dX12_looks_71 rfl ?_
    refine a_getR hS (j := 10) dX12_looks_72 flX12_38 (sB0 hW) rfl ?_
    refine a_iload_n hS dX12_looks_75 rfl ?_
    refine a_bipush hS dX12_looks_76 rfl ?_
    refine a_iast hS (sB10 hW) dX12_looks_78 ?_
    refine a_letM (fun s9 => ?_)
    refine a_aload_n hS dX12_looks_79 rfl ?_
    refine a_iload_n hS dX12_looks_80 rfl ?_
    refine a_callVv hS (rst := []) (c_Md_shuts hW x2 s9 ) miX12_shuts mlX12_145 (sB0 hW) rfl rfl (Nat.le_of_ble_eq_true rfl) (Nat.le_of_ble_eq_true rfl) (Nat.le_of_ble_eq_true rfl) rfl dX12_looks_81 (fun q10 => ?_)
    refine a_aload_n hS dX12_looks_84 rfl ?_
    refine a_iload_n hS dX12_looks_85 rfl ?_
    refine a_iconst hS dX12_looks_86 ?_
    refine a_callVi hS (rst := []) (c_Md_ruleFor hW x2 1 q10.2 ) miX12_ruleFor mlX12_148 (sB0 hW) rfl rfl (Nat.le_of_ble_eq_true rfl) (Nat.le_of_ble_eq_true rfl) (Nat.le_of_ble_eq_true rfl) rfl dX12_looks_87 (fun q11 => ?_)
    refine a_istore_n hS (L' := [some (rf w 0), some (iv x1), some (iv x2), some (iv q11.1)]) dX12_looks_90 hN (Nat.le_of_ble_eq_true rfl) rfl rfl ?_
    refine a_iload_n hS dX12_looks_91 rfl ?_
    refine a_bipush hS dX12_looks_92 rfl ?_
    refine a_icmpeq hS rfl (wl (-9) rfl) (tgt := 133) dX12_looks_94 (by decide) ?_ ?_
    · refine a_iinc hS (L' := [some (rf w 0), some (iv x1), some (iv (x2 + 1)), some (iv q11.1)]) dX12_looks_133 rfl hN (Nat.le_of_ble_eq_true rfl) rfl rfl ?_
      refine a_goto hS (tgt := 43) dX12_looks_136 (by decide) ?_
      exact a_live (M := [true, true, true, false]) (hr43 x1 (x2 + 1) q11.2) rfl
    · refine a_aload_n hS dX12_looks_97 rfl ?_
      refine a_getI hS dX12_looks_98 flX12_126 (sB0 hW) rfl ?_
      refine a_bipush hS dX12_looks_101 rfl ?_
      refine a_icmpge hS rfl (wl 12 rfl) (tgt := 133) dX12_looks_103 (by decide) ?_ ?_
      · refine a_iinc hS (L' := [some (rf w 0), some (iv x1), some (iv (x2 + 1)), some (iv q11.1)]) dX12_looks_133 rfl hN (Nat.le_of_ble_eq_true rfl) rfl rfl ?_
        refine a_goto hS (tgt := 43) dX12_looks_136 (by decide) ?_
        exact a_live (M := [true, true, true, false]) (hr43 x1 (x2 + 1) q11.2) rfl
      · refine a_aload_n hS dX12_looks_106 rfl ?_
        refine a_getR hS (j := 8) dX12_looks_107 flX12_32 (sB0 hW) rfl ?_
        refine a_iload_n hS dX12_looks_110 rfl ?_
        refine a_iload_n hS dX12_looks_111 rfl ?_
        refine a_iast hS (sB8 hW) dX12_looks_112 ?_
        refine a_letM (fun s12 => ?_)
        refine a_aload_n hS dX12_looks_113 rfl ?_
        refine a_getR hS (j := 15) dX12_looks_114 flX12_53 (sB0 hW) rfl ?_
        refine a_aload_n hS dX12_looks_117 rfl ?_
        refine a_getI hS dX12_looks_118 flX12_126 (sB0 hW) rfl ?_
        refine a_iload_n hS dX12_looks_121 rfl ?_
        refine a_iast hS (sB15 hW) dX12_looks_122 ?_
        refine a_letM (fun s13 => ?_)
        refine a_aload_n hS dX12_looks_123 rfl ?_
        refine a_dup hS rfl dX12_looks_124 ?_
        refine a_getI hS dX12_looks_125 flX12_126 (sB0 hW) rfl ?_
        refine a_iconst hS dX12_looks_128 ?_
        refine a_iadd hS dX12_looks_129 ?_
        refine a_putI hS dX12_looks_130 plX12_126 (sB0 hW) rfl ?_
        refine a_letM (fun s14 => ?_)
        refine a_iinc hS (L' := [some (rf w 0), some (iv x1), some (iv (x2 + 1)), some (iv q11.1)]) dX12_looks_133 rfl hN (Nat.le_of_ble_eq_true rfl) rfl rfl ?_
        refine a_goto hS (tgt := 43) dX12_looks_136 (by decide) ?_
        exact a_live (M := [true, true, true, false]) (hr43 x1 (x2 + 1) s14) rfl
set_option maxRecDepth 100000 in
set_option maxHeartbeats 4000000 in
theorem k_Md_looks_21 {X : Cx} {w : Wd} {x : Int × Mem} (hS : Std X (rmN 5 115) w cX12_looks RX12 none) (hN : cxn X = 4) (hW : shp w = ShB)   : ∀ (n : Nat) (x1 : Int) (σ : Mem), Sm X (rmN 5 115) w 0 x 21 [some (rf w 0), some (iv x1), none, none] [] σ (Md_looks_21   n x1 σ) := by
  refine fix_ok (P := fun (r21 : Int → Mem → Option (Int × Mem)) => ∀ (x1 : Int) (σ : Mem), Sm X (rmN 5 115) w 0 x 21 [some (rf w 0), some (iv x1), none, none] [] σ (r21 x1 σ)) (fun _ _ => a_none) (fun r21 hr21 => ?_)
  intro x1 σ
  unfold Md_looks_21b
  refine a_iload_n hS dX12_looks_21 rfl ?_
  refine a_aload_n hS dX12_looks_22 rfl ?_
  refine a_getR hS (j := 1) dX12_looks_23 flX12_7 (sB0 hW) rfl ?_
  refine a_iconst hS dX12_looks_26 ?_
  refine a_iald hS dX12_looks_27 (sB1 hW) ?_
  refine a_icmpge hS rfl rfl (tgt := 145) dX12_looks_28 (by decide) ?_ ?_
  · refine a_aload_n hS dX12_looks_145 rfl ?_
    refine a_aload_n hS dX12_looks_146 rfl ?_
    refine a_getR hS (j := 1) dX12_looks_147 flX12_7 (sB0 hW) rfl ?_
    refine a_iconst hS dX12_looks_150 ?_
    refine a_iald hS dX12_looks_151 (sB1 hW) ?_
    refine a_callVv hS (rst := []) (c_Md_notes hW (σ 1 (wr 0).toNat) σ ) miX12_notes mlX12_141 (sB0 hW) rfl rfl (Nat.le_of_ble_eq_true rfl) (Nat.le_of_ble_eq_true rfl) (Nat.le_of_ble_eq_true rfl) rfl dX12_looks_152 (fun q5 => ?_)
    exact a_vret hS rfl rfl dX12_looks_155
  · refine a_aload_n hS dX12_looks_31 rfl ?_
    refine a_iload_n hS dX12_looks_32 rfl ?_
    refine a_callVv hS (rst := []) (c_Md_notes hW x1 σ ) miX12_notes mlX12_141 (sB0 hW) rfl rfl (Nat.le_of_ble_eq_true rfl) (Nat.le_of_ble_eq_true rfl) (Nat.le_of_ble_eq_true rfl) rfl dX12_looks_33 (fun q6 => ?_)
    refine a_aload_n hS dX12_looks_36 rfl ?_
    refine a_getR hS (j := 11) dX12_looks_37 flX12_41 (sB0 hW) rfl ?_
    refine a_iload_n hS dX12_looks_40 rfl ?_
    refine a_iald hS dX12_looks_41 (sB11 hW) ?_
    refine a_istore_n hS (L' := [some (rf w 0), some (iv x1), some (iv (q6.2 11 (wr x1).toNat)), none]) dX12_looks_42 hN (Nat.le_of_ble_eq_true rfl) rfl rfl ?_
    exact k_Md_looks_43 hS hN hW  r21 hr21 100000 x1 (q6.2 11 (wr x1).toNat) q6.2
set_option maxRecDepth 100000 in
set_option maxHeartbeats 4000000 in
theorem c_Md_looks {l : Launch} {w : Wd} (hW : shp w = ShB)  (σ : Mem)  : Ctr l w yX12_looks cX12_looks 4 none (rmN 5 115) 0 [rf w 0] σ (Md_looks  σ) := by
  refine met_of (own := RX12) (by decide) rfl rfl rfl (Nat.le_of_ble_eq_true rfl) (fun X x hXl hN hS => ⟨[some (rf w 0), none, none, none], ⟨3, rfl⟩, ?_⟩)
  subst hXl
  unfold Md_looks
  refine a_aload_n hS dX12_looks_0 rfl ?_
  refine a_callVv hS (rst := []) (c_Md_tokenizes hW  σ ) miX12_tokenizes mlX12_138 (sB0 hW) rfl rfl (Nat.le_of_ble_eq_true rfl) (Nat.le_of_ble_eq_true rfl) (Nat.le_of_ble_eq_true rfl) rfl dX12_looks_1 (fun q1 => ?_)
  refine a_aload_n hS dX12_looks_4 rfl ?_
  refine a_iconst hS dX12_looks_5 ?_
  refine a_putI hS dX12_looks_6 plX12_126 (sB0 hW) rfl ?_
  refine a_letM (fun s2 => ?_)
  refine a_aload_n hS dX12_looks_9 rfl ?_
  refine a_iconst hS dX12_looks_10 ?_
  refine a_putI hS dX12_looks_11 plX12_135 (sB0 hW) rfl ?_
  refine a_letM (fun s3 => ?_)
  refine a_aload_n hS dX12_looks_14 rfl ?_
  refine a_iconst hS dX12_looks_15 ?_
  refine a_putI hS dX12_looks_16 plX12_129 (sB0 hW) rfl ?_
  refine a_letM (fun s4 => ?_)
  refine a_iconst hS dX12_looks_19 ?_
  refine a_istore_n hS (L' := [some (rf w 0), some (iv 0), none, none]) dX12_looks_20 hN (Nat.le_of_ble_eq_true rfl) rfl rfl ?_
  exact k_Md_looks_21 hS hN hW   100000 0 s4
noncomputable def Md_uses_6b   (r6 : Int → Int → Int → Mem → Option (Int × Mem)) (x1 : Int) (x2 : Int) (x3 : Int) (σ : Mem) : Option (Int × Mem) := if 0 ≤ wr 0 ∧ wr 0 < (10780 : Int) then (if wr x3 < wr (σ 1 (wr 0).toNat) then (if 0 ≤ wr (1 + x3) ∧ wr (1 + x3) < (10780 : Int) then (if 0 ≤ wr x3 ∧ wr x3 < (20 : Int) then (letM (upM σ 16 (wr x3).toNat (σ 1 (wr (1 + x3)).toNat)) fun s4 => r6 x1 x2 (x3 + 1) s4) else none) else none) else (letM (upM σ 0 22 x1) fun s2 => letM (upM s2 0 23 x2) fun s3 => some (0, s3))) else none
noncomputable def Md_uses_6   (n : Nat) : Int → Int → Int → Mem → Option (Int × Mem) := fixN (fun _ _ _ _ => none) (Md_uses_6b  ) n
noncomputable def Md_uses (a0 : Int) (a1 : Int) (σ : Mem) : Option (Int × Mem) := (Md_looks  σ).bind fun q1 => Md_uses_6 100000 a0 a1 0 q1.2
set_option maxRecDepth 100000 in
set_option maxHeartbeats 4000000 in
theorem k_Md_uses_6 {X : Cx} {w : Wd} {x : Int × Mem} (hS : Std X (rmN 6 138) w cX12_uses RX12 none) (hN : cxn X = 4) (hW : shp w = ShB)   : ∀ (n : Nat) (x1 : Int) (x2 : Int) (x3 : Int) (σ : Mem), Sm X (rmN 6 138) w 0 x 6 [some (rf w 0), some (iv x1), some (iv x2), some (iv x3)] [] σ (Md_uses_6   n x1 x2 x3 σ) := by
  refine fix_ok (P := fun (r6 : Int → Int → Int → Mem → Option (Int × Mem)) => ∀ (x1 : Int) (x2 : Int) (x3 : Int) (σ : Mem), Sm X (rmN 6 138) w 0 x 6 [some (rf w 0), some (iv x1), some (iv x2), some (iv x3)] [] σ (r6 x1 x2 x3 σ)) (fun _ _ _ _ => a_none) (fun r6 hr6 => ?_)
  intro x1 x2 x3 σ
  unfold Md_uses_6b
  refine a_iload_n hS dX12_uses_6 rfl ?_
  refine a_aload_n hS dX12_uses_7 rfl ?_
  refine a_getR hS (j := 1) dX12_uses_8 flX12_7 (sB0 hW) rfl ?_
  refine a_iconst hS dX12_uses_11 ?_
  refine a_iald hS dX12_uses_12 (sB1 hW) ?_
  refine a_icmpge hS rfl rfl (tgt := 36) dX12_uses_13 (by decide) ?_ ?_
  · refine a_aload_n hS dX12_uses_36 rfl ?_
    refine a_iload_n hS dX12_uses_37 rfl ?_
    refine a_putI hS dX12_uses_38 plX12_154 (sB0 hW) rfl ?_
    refine a_letM (fun s2 => ?_)
    refine a_aload_n hS dX12_uses_41 rfl ?_
    refine a_iload_n hS dX12_uses_42 rfl ?_
    refine a_putI hS dX12_uses_43 plX12_157 (sB0 hW) rfl ?_
    refine a_letM (fun s3 => ?_)
    exact a_vret hS rfl rfl dX12_uses_46
  · refine a_aload_n hS dX12_uses_16 rfl ?_
    refine a_getR hS (j := 16) dX12_uses_17 flX12_56 (sB0 hW) rfl ?_
    refine a_iload_n hS dX12_uses_20 rfl ?_
    refine a_aload_n hS dX12_uses_21 rfl ?_
    refine a_getR hS (j := 1) dX12_uses_22 flX12_7 (sB0 hW) rfl ?_
    refine a_iconst hS dX12_uses_25 ?_
    refine a_iload_n hS dX12_uses_26 rfl ?_
    refine a_iadd hS dX12_uses_27 ?_
    refine a_iald hS dX12_uses_28 (sB1 hW) ?_
    refine a_iast hS (sB16 hW) dX12_uses_29 ?_
    refine a_letM (fun s4 => ?_)
    refine a_iinc hS (L' := [some (rf w 0), some (iv x1), some (iv x2), some (iv (x3 + 1))]) dX12_uses_30 rfl hN (Nat.le_of_ble_eq_true rfl) rfl rfl ?_
    refine a_goto hS (tgt := 6) dX12_uses_33 (by decide) ?_
    exact hr6 x1 x2 (x3 + 1) s4
set_option maxRecDepth 100000 in
set_option maxHeartbeats 4000000 in
theorem c_Md_uses {l : Launch} {w : Wd} (hW : shp w = ShB) (a0 : Int) (a1 : Int) (σ : Mem)  : Ctr l w yX12_uses cX12_uses 4 none (rmN 6 138) 0 [rf w 0, iv a0, iv a1] σ (Md_uses a0 a1 σ) := by
  refine met_of (own := RX12) (by decide) rfl rfl rfl (Nat.le_of_ble_eq_true rfl) (fun X x hXl hN hS => ⟨[some (rf w 0), some (iv a0), some (iv a1), none], ⟨1, rfl⟩, ?_⟩)
  subst hXl
  unfold Md_uses
  refine a_aload_n hS dX12_uses_0 rfl ?_
  refine a_callVv hS (rst := []) (c_Md_looks hW  σ ) miX12_looks mlX12_151 (sB0 hW) rfl rfl (Nat.le_of_ble_eq_true rfl) (Nat.le_of_ble_eq_true rfl) (Nat.le_of_ble_eq_true rfl) rfl dX12_uses_1 (fun q1 => ?_)
  refine a_iconst hS dX12_uses_4 ?_
  refine a_istore_n hS (L' := [some (rf w 0), some (iv a0), some (iv a1), some (iv 0)]) dX12_uses_5 hN (Nat.le_of_ble_eq_true rfl) rfl rfl ?_
  exact k_Md_uses_6 hS hN hW   100000 a0 a1 0 q1.2
noncomputable def Md_columnOf (a0 : Int) (σ : Mem) : Option (Int × Mem) := if 0 ≤ wr a0 ∧ wr a0 < (641 : Int) then (if 0 ≤ wr (σ 4 (wr a0).toNat) ∧ wr (σ 4 (wr a0).toNat) < (20 : Int) then (if 0 ≤ wr a0 ∧ wr a0 < (641 : Int) then (some (((σ 16 (wr (σ 4 (wr a0).toNat)).toNat) + (σ 5 (wr a0).toNat)), σ)) else none) else none) else none
set_option maxRecDepth 100000 in
set_option maxHeartbeats 4000000 in
theorem c_Md_columnOf {l : Launch} {w : Wd} (hW : shp w = ShB) (a0 : Int) (σ : Mem)  : Ctr l w yX12_columnOf cX12_columnOf 2 (some .int) (rmN 0 0) 1 [rf w 0, iv a0] σ (Md_columnOf a0 σ) := by
  refine met_of (own := RX12) (by decide) rfl rfl rfl (Nat.le_of_ble_eq_true rfl) (fun X x hXl hN hS => ⟨[some (rf w 0), some (iv a0)], ⟨0, rfl⟩, ?_⟩)
  subst hXl
  unfold Md_columnOf
  refine a_aload_n hS dX12_columnOf_0 rfl ?_
  refine a_getR hS (j := 16) dX12_columnOf_1 flX12_56 (sB0 hW) rfl ?_
  refine a_aload_n hS dX12_columnOf_4 rfl ?_
  refine a_getR hS (j := 4) dX12_columnOf_5 flX12_20 (sB0 hW) rfl ?_
  refine a_iload_n hS dX12_columnOf_8 rfl ?_
  refine a_iald hS dX12_columnOf_9 (sB4 hW) ?_
  refine a_iald hS dX12_columnOf_10 (sB16 hW) ?_
  refine a_aload_n hS dX12_columnOf_11 rfl ?_
  refine a_getR hS (j := 5) dX12_columnOf_12 flX12_23 (sB0 hW) rfl ?_
  refine a_iload_n hS dX12_columnOf_15 rfl ?_
  refine a_iald hS dX12_columnOf_16 (sB5 hW) ?_
  refine a_iadd hS dX12_columnOf_17 ?_
  exact a_iret hS rfl rfl dX12_columnOf_18
noncomputable def Md_isAligned (a0 : Int) (σ : Mem) : Option (Int × Mem) := if 0 ≤ wr a0 ∧ wr a0 < (641 : Int) then ((Md_ruleAt (σ 8 (wr a0).toNat) 3 σ).bind fun q1 => if wr q1.1 = 1 then (if 0 ≤ wr a0 ∧ wr a0 < (641 : Int) then (if 0 ≤ wr ((q1.2 4 (wr a0).toNat) + 1) ∧ wr ((q1.2 4 (wr a0).toNat) + 1) < (21 : Int) then (if wr (a0 + 1) < wr (q1.2 11 (wr ((q1.2 4 (wr a0).toNat) + 1)).toNat) then (some (1, q1.2)) else (some (0, q1.2))) else none) else none) else (some (0, q1.2))) else none
set_option maxRecDepth 100000 in
set_option maxHeartbeats 4000000 in
theorem c_Md_isAligned {l : Launch} {w : Wd} (hW : shp w = ShB) (a0 : Int) (σ : Mem)  : Ctr l w yX12_isAligned cX12_isAligned 2 (some .boolean) (rmN 1 22) 1 [rf w 0, iv a0] σ (Md_isAligned a0 σ) := by
  refine met_of (own := RX12) (by decide) rfl rfl rfl (Nat.le_of_ble_eq_true rfl) (fun X x hXl hN hS => ⟨[some (rf w 0), some (iv a0)], ⟨0, rfl⟩, ?_⟩)
  subst hXl
  unfold Md_isAligned
  refine a_aload_n hS dX12_isAligned_0 rfl ?_
  refine a_aload_n hS dX12_isAligned_1 rfl ?_
  refine a_getR hS (j := 8) dX12_isAligned_2 flX12_32 (sB0 hW) rfl ?_
  refine a_iload_n hS dX12_isAligned_5 rfl ?_
  refine a_iald hS dX12_isAligned_6 (sB8 hW) ?_
  refine a_iconst hS dX12_isAligned_7 ?_
  refine a_callVi hS (rst := []) (c_Md_ruleAt hW (σ 8 (wr a0).toNat) 3 σ ) miX12_ruleAt mlX12_120 (sB0 hW) rfl rfl (Nat.le_of_ble_eq_true rfl) (Nat.le_of_ble_eq_true rfl) (Nat.le_of_ble_eq_true rfl) rfl dX12_isAligned_8 (fun q1 => ?_)
  refine a_iconst hS dX12_isAligned_11 ?_
  refine a_icmpne hS rfl (wl 1 rfl) (tgt := 38) dX12_isAligned_12 (by decide) ?_ ?_
  · refine a_iconst hS dX12_isAligned_38 ?_
    exact a_zret hS (by decide) rfl rfl dX12_isAligned_39
  · refine a_iload_n hS dX12_isAligned_15 rfl ?_
    refine a_iconst hS dX12_isAligned_16 ?_
    refine a_iadd hS dX12_isAligned_17 ?_
    refine a_aload_n hS dX12_isAligned_18 rfl ?_
    refine a_getR hS (j := 11) dX12_isAligned_19 flX12_41 (sB0 hW) rfl ?_
    refine a_aload_n hS dX12_isAligned_22 rfl ?_
    refine a_getR hS (j := 4) dX12_isAligned_23 flX12_20 (sB0 hW) rfl ?_
    refine a_iload_n hS dX12_isAligned_26 rfl ?_
    refine a_iald hS dX12_isAligned_27 (sB4 hW) ?_
    refine a_iconst hS dX12_isAligned_28 ?_
    refine a_iadd hS dX12_isAligned_29 ?_
    refine a_iald hS dX12_isAligned_30 (sB11 hW) ?_
    refine a_icmpge hS rfl rfl (tgt := 38) dX12_isAligned_31 (by decide) ?_ ?_
    · refine a_iconst hS dX12_isAligned_38 ?_
      exact a_zret hS (by decide) rfl rfl dX12_isAligned_39
    · refine a_iconst hS dX12_isAligned_34 ?_
      refine a_goto hS (tgt := 39) dX12_isAligned_35 (by decide) ?_
      exact a_zret hS (by decide) rfl rfl dX12_isAligned_39
noncomputable def Md_columnIn (a0 : Int) (σ : Mem) : Option (Int × Mem) := (Md_isAligned a0 σ).bind fun q1 => if wr q1.1 = 0 then (if 0 ≤ wr a0 ∧ wr a0 < (641 : Int) then (if 0 ≤ wr (q1.2 4 (wr a0).toNat) ∧ wr (q1.2 4 (wr a0).toNat) < (20 : Int) then (if 0 ≤ wr a0 ∧ wr a0 < (641 : Int) then ((Md_ruleAt (q1.2 8 (wr a0).toNat) 2 q1.2).bind fun q2 => (Md_least 40 ((q1.2 16 (wr (q1.2 4 (wr a0).toNat)).toNat) + (q2.1 * (q2.2 0 22))) q2.2).bind fun q3 => some (q3.1, q3.2)) else none) else none) else none) else ((Md_columnOf (a0 + 1) q1.2).bind fun q4 => some (q4.1, q4.2))
set_option maxRecDepth 100000 in
set_option maxHeartbeats 4000000 in
theorem c_Md_columnIn {l : Launch} {w : Wd} (hW : shp w = ShB) (a0 : Int) (σ : Mem)  : Ctr l w yX12_columnIn cX12_columnIn 2 (some .int) (rmN 2 43) 1 [rf w 0, iv a0] σ (Md_columnIn a0 σ) := by
  refine met_of (own := RX12) (by decide) rfl rfl rfl (Nat.le_of_ble_eq_true rfl) (fun X x hXl hN hS => ⟨[some (rf w 0), some (iv a0)], ⟨0, rfl⟩, ?_⟩)
  subst hXl
  unfold Md_columnIn
  refine a_aload_n hS dX12_columnIn_0 rfl ?_
  refine a_iload_n hS dX12_columnIn_1 rfl ?_
  refine a_callVi hS (rst := []) (c_Md_isAligned hW a0 σ ) miX12_isAligned mlX12_160 (sB0 hW) rfl rfl (Nat.le_of_ble_eq_true rfl) (Nat.le_of_ble_eq_true rfl) (Nat.le_of_ble_eq_true rfl) rfl dX12_columnIn_2 (fun q1 => ?_)
  refine a_ifeq hS rfl  (tgt := 18) dX12_columnIn_5 (by decide) ?_ ?_
  · refine a_bipush hS dX12_columnIn_18 rfl ?_
    refine a_aload_n hS dX12_columnIn_20 rfl ?_
    refine a_getR hS (j := 16) dX12_columnIn_21 flX12_56 (sB0 hW) rfl ?_
    refine a_aload_n hS dX12_columnIn_24 rfl ?_
    refine a_getR hS (j := 4) dX12_columnIn_25 flX12_20 (sB0 hW) rfl ?_
    refine a_iload_n hS dX12_columnIn_28 rfl ?_
    refine a_iald hS dX12_columnIn_29 (sB4 hW) ?_
    refine a_iald hS dX12_columnIn_30 (sB16 hW) ?_
    refine a_aload_n hS dX12_columnIn_31 rfl ?_
    refine a_aload_n hS dX12_columnIn_32 rfl ?_
    refine a_getR hS (j := 8) dX12_columnIn_33 flX12_32 (sB0 hW) rfl ?_
    refine a_iload_n hS dX12_columnIn_36 rfl ?_
    refine a_iald hS dX12_columnIn_37 (sB8 hW) ?_
    refine a_iconst hS dX12_columnIn_38 ?_
    refine a_callVi hS (rst := [iv (q1.2 16 (wr (q1.2 4 (wr a0).toNat)).toNat), iv 40]) (c_Md_ruleAt hW (q1.2 8 (wr a0).toNat) 2 q1.2 ) miX12_ruleAt mlX12_120 (sB0 hW) rfl rfl (Nat.le_of_ble_eq_true rfl) (Nat.le_of_ble_eq_true rfl) (Nat.le_of_ble_eq_true rfl) rfl dX12_columnIn_39 (fun q2 => ?_)
    refine a_aload_n hS dX12_columnIn_42 rfl ?_
    refine a_getI hS dX12_columnIn_43 flX12_154 (sB0 hW) rfl ?_
    refine a_imul hS dX12_columnIn_46 ?_
    refine a_iadd hS dX12_columnIn_47 ?_
    refine a_callSi hS (rst := []) (c_Md_least hW 40 ((q1.2 16 (wr (q1.2 4 (wr a0).toNat)).toNat) + (q2.1 * (q2.2 0 22))) q2.2 ) msX12_least mlX12_91 rfl (Nat.le_of_ble_eq_true rfl) (Nat.le_of_ble_eq_true rfl) (Nat.le_of_ble_eq_true rfl) rfl dX12_columnIn_48 (fun q3 => ?_)
    exact a_iret hS rfl rfl dX12_columnIn_51
  · refine a_aload_n hS dX12_columnIn_8 rfl ?_
    refine a_iload_n hS dX12_columnIn_9 rfl ?_
    refine a_iconst hS dX12_columnIn_10 ?_
    refine a_iadd hS dX12_columnIn_11 ?_
    refine a_callVi hS (rst := []) (c_Md_columnOf hW (a0 + 1) q1.2 ) miX12_columnOf mlX12_163 (sB0 hW) rfl rfl (Nat.le_of_ble_eq_true rfl) (Nat.le_of_ble_eq_true rfl) (Nat.le_of_ble_eq_true rfl) rfl dX12_columnIn_12 (fun q4 => ?_)
    refine a_goto hS (tgt := 51) dX12_columnIn_15 (by decide) ?_
    exact a_iret hS rfl rfl dX12_columnIn_51
noncomputable def Md_offers (a0 : Int) (a1 : Int) (a2 : Int) (a3 : Int) (σ : Mem) : Option (Int × Mem) := if wr (σ 0 27) < wr a0 then (letM (upM σ 0 27 a0) fun s1 => letM (upM s1 0 24 a1) fun s2 => letM (upM s2 0 25 a2) fun s3 => letM (upM s3 0 26 a3) fun s4 => some (0, s4)) else (some (0, σ))
set_option maxRecDepth 100000 in
set_option maxHeartbeats 4000000 in
theorem c_Md_offers {l : Launch} {w : Wd} (hW : shp w = ShB) (a0 : Int) (a1 : Int) (a2 : Int) (a3 : Int) (σ : Mem)  : Ctr l w yX12_offers cX12_offers 5 none (rmN 0 0) 0 [rf w 0, iv a0, iv a1, iv a2, iv a3] σ (Md_offers a0 a1 a2 a3 σ) := by
  refine met_of (own := RX12) (by decide) rfl rfl rfl (Nat.le_of_ble_eq_true rfl) (fun X x hXl hN hS => ⟨[some (rf w 0), some (iv a0), some (iv a1), some (iv a2), some (iv a3)], ⟨0, rfl⟩, ?_⟩)
  subst hXl
  unfold Md_offers
  refine a_iload_n hS dX12_offers_0 rfl ?_
  refine a_aload_n hS dX12_offers_1 rfl ?_
  refine a_getI hS dX12_offers_2 flX12_167 (sB0 hW) rfl ?_
  refine a_icmple hS rfl rfl (tgt := 29) dX12_offers_5 (by decide) ?_ ?_
  · exact a_vret hS rfl rfl dX12_offers_29
  · refine a_aload_n hS dX12_offers_8 rfl ?_
    refine a_iload_n hS dX12_offers_9 rfl ?_
    refine a_putI hS dX12_offers_10 plX12_167 (sB0 hW) rfl ?_
    refine a_letM (fun s1 => ?_)
    refine a_aload_n hS dX12_offers_13 rfl ?_
    refine a_iload_n hS dX12_offers_14 rfl ?_
    refine a_putI hS dX12_offers_15 plX12_170 (sB0 hW) rfl ?_
    refine a_letM (fun s2 => ?_)
    refine a_aload_n hS dX12_offers_18 rfl ?_
    refine a_iload_n hS dX12_offers_19 rfl ?_
    refine a_putI hS dX12_offers_20 plX12_173 (sB0 hW) rfl ?_
    refine a_letM (fun s3 => ?_)
    refine a_aload_n hS dX12_offers_23 rfl ?_
    refine a_iload hS dX12_offers_24 rfl ?_
    refine a_putI hS dX12_offers_26 plX12_176 (sB0 hW) rfl ?_
    refine a_letM (fun s4 => ?_)
    exact a_vret hS rfl rfl dX12_offers_29
noncomputable def Md_decides_71b (r21 : Int → Int → Int → Int → Int → Mem → Option (Int × Mem))  (r71 : Int → Int → Int → Int → Mem → Option (Int × Mem)) (x1 : Int) (x2 : Int) (x3 : Int) (x5 : Int) (σ : Mem) : Option (Int × Mem) := if 0 ≤ wr (((12 * x1) + x2) - 1) ∧ wr (((12 * x1) + x2) - 1) < (252 : Int) then (if wr (σ 14 (wr (((12 * x1) + x2) - 1)).toNat) = wr x3 then (if 0 ≤ wr x5 ∧ wr x5 < (641 : Int) then (if wr (σ 8 (wr x5).toNat) = (-9) then (r21 x1 (x2 + (-1)) x3 1 (x5 + 1) σ) else (r21 x1 (x2 + (-1)) x3 0 (x5 + 1) σ)) else none) else (r71 x1 (x2 + (-1)) x3 x5 σ)) else none
noncomputable def Md_decides_71 (r21 : Int → Int → Int → Int → Int → Mem → Option (Int × Mem))  (n : Nat) : Int → Int → Int → Int → Mem → Option (Int × Mem) := fixN (fun _ _ _ _ _ => none) (Md_decides_71b r21 ) n
noncomputable def Md_decides_56 (r21 : Int → Int → Int → Int → Int → Mem → Option (Int × Mem))  (x1 : Int) (x2 : Int) (x3 : Int) (x5 : Int) (y0 : Int) (σ : Mem) : Option (Int × Mem) := if wr y0 = 0 then (r21 x1 x2 x3 y0 (x5 + 1) σ) else (if 0 ≤ wr x5 ∧ wr x5 < (641 : Int) then (Md_decides_71 r21 100000 x1 x2 (σ 9 (wr x5).toNat) x5 σ) else none)
noncomputable def Md_decides_464   (y0 : Int) (y1 : Int) (y2 : Int) (y3 : Int) (σ : Mem) : Option (Int × Mem) := (Md_offers y3 y2 y1 y0 σ).bind fun q17 => if wr (q17.2 0 24) < 0 then (letM (upM q17.2 0 24 0) fun s20 => some (0, s20)) else ((Md_least (q17.2 0 24) 40 q17.2).bind fun q18 => letM (upM q18.2 0 24 q18.1) fun s19 => some (0, s19))
noncomputable def Md_decides_445   (x5 : Int) (y0 : Int) (y1 : Int) (y2 : Int) (σ : Mem) : Option (Int × Mem) := if wr x5 = (-9) then (Md_decides_464 (-9) y0 y1 y2 σ) else (if 0 ≤ wr x5 ∧ wr x5 < (641 : Int) then (Md_decides_464 (σ 8 (wr x5).toNat) y0 y1 y2 σ) else none)
noncomputable def Md_decides_416   (x5 : Int) (x6 : Int) (σ : Mem) : Option (Int × Mem) := if wr x5 = (-9) then (Md_decides_445 x5 0 x6 (-1) σ) else ((Md_isAligned x5 σ).bind fun q16 => if wr q16.1 = 0 then (Md_decides_445 x5 1 x6 (-1) q16.2) else (Md_decides_445 x5 2 x6 (-1) q16.2))
noncomputable def Md_decides_378   (x5 : Int) (x6 : Int) (y0 : Int) (σ : Mem) : Option (Int × Mem) := if wr y0 = (-9) then (Md_decides_416 x5 x6 σ) else ((Md_ruleAt y0 1 σ).bind fun q13 => (Md_ruleAt y0 2 q13.2).bind fun q14 => (Md_offers q13.1 (x6 + (q14.1 * (q14.2 0 22))) 5 y0 q14.2).bind fun q15 => Md_decides_416 x5 x6 q15.2)
noncomputable def Md_decides_340   (x5 : Int) (x6 : Int) (x7 : Int) (x8 : Int) (σ : Mem) : Option (Int × Mem) := if wr x8 = 0 then (Md_decides_378 x5 x6 (-9) σ) else (if 0 < wr x7 then (if 0 ≤ wr (x7 - 1) ∧ wr (x7 - 1) < (641 : Int) then (if wr (σ 8 (wr (x7 - 1)).toNat) = (-9) then ((Md_ruleFor (x7 - 1) 3 σ).bind fun q12 => Md_decides_378 x5 x6 q12.1 q12.2) else (Md_decides_378 x5 x6 (-9) σ)) else none) else (Md_decides_378 x5 x6 (-9) σ))
noncomputable def Md_decides_302   (x5 : Int) (x6 : Int) (x7 : Int) (x8 : Int) (y0 : Int) (σ : Mem) : Option (Int × Mem) := if wr y0 = (-9) then (Md_decides_340 x5 x6 x7 x8 σ) else ((Md_ruleAt y0 1 σ).bind fun q9 => (Md_ruleAt y0 2 q9.2).bind fun q10 => (Md_offers q9.1 (x6 + (q10.1 * (q10.2 0 22))) 4 y0 q10.2).bind fun q11 => Md_decides_340 x5 x6 x7 x8 q11.2)
noncomputable def Md_decides_283   (x5 : Int) (x6 : Int) (x7 : Int) (y0 : Int) (σ : Mem) : Option (Int × Mem) := if wr y0 = 0 then (Md_decides_302 x5 x6 x7 y0 (-9) σ) else ((Md_ruleFor x7 2 σ).bind fun q8 => Md_decides_302 x5 x6 x7 y0 q8.1 q8.2)
noncomputable def Md_decides_257   (x1 : Int) (x5 : Int) (x6 : Int) (σ : Mem) : Option (Int × Mem) := if 0 ≤ wr x1 ∧ wr x1 < (21 : Int) then (if 0 ≤ wr (x1 + 1) ∧ wr (x1 + 1) < (21 : Int) then (if wr (σ 11 (wr x1).toNat) < wr (σ 11 (wr (x1 + 1)).toNat) then (Md_decides_283 x5 x6 (σ 11 (wr x1).toNat) 1 σ) else (Md_decides_283 x5 x6 (σ 11 (wr x1).toNat) 0 σ)) else none) else none
noncomputable def Md_decides_231   (x1 : Int) (x3 : Int) (x5 : Int) (x6 : Int) (y0 : Int) (σ : Mem) : Option (Int × Mem) := if 0 ≤ wr x3 ∧ wr x3 < (641 : Int) then ((Md_ruleAt (σ 8 (wr x3).toNat) 1 σ).bind fun q6 => if 0 ≤ wr x3 ∧ wr x3 < (641 : Int) then ((Md_offers q6.1 y0 3 (q6.2 8 (wr x3).toNat) q6.2).bind fun q7 => Md_decides_257 x1 x5 x6 q7.2) else none) else none
noncomputable def Md_decides_166   (x1 : Int) (x3 : Int) (x5 : Int) (y0 : Int) (σ : Mem) : Option (Int × Mem) := letM (upM σ 0 27 (-2)) fun s2 => if wr x3 = (-9) then (Md_decides_257 x1 x5 y0 s2) else (if 0 ≤ wr x3 ∧ wr x3 < (641 : Int) then ((Md_ruleAt (s2 8 (wr x3).toNat) 4 s2).bind fun q3 => if wr q3.1 = 0 then (if 0 ≤ wr x3 ∧ wr x3 < (641 : Int) then (if 0 ≤ wr (q3.2 4 (wr x3).toNat) ∧ wr (q3.2 4 (wr x3).toNat) < (20 : Int) then (Md_decides_231 x1 x3 x5 y0 (q3.2 16 (wr (q3.2 4 (wr x3).toNat)).toNat) q3.2) else none) else none) else (if wr q3.1 = 1 then ((Md_columnIn x3 q3.2).bind fun q5 => Md_decides_231 x1 x3 x5 y0 q5.1 q5.2) else ((Md_columnOf x3 q3.2).bind fun q4 => Md_decides_231 x1 x3 x5 y0 q4.1 q4.2))) else none)
noncomputable def Md_decides_144   (x1 : Int) (x3 : Int) (y0 : Int) (σ : Mem) : Option (Int × Mem) := if wr y0 = (-9) then (Md_decides_166 x1 x3 y0 (σ 0 23) σ) else ((Md_columnIn y0 σ).bind fun q1 => Md_decides_166 x1 x3 y0 q1.1 q1.2)
noncomputable def Md_decides_122   (x1 : Int) (x2 : Int) (x3 : Int) (σ : Mem) : Option (Int × Mem) := if 0 < wr x2 then (if 0 ≤ wr (((12 * x1) + x2) - 1) ∧ wr (((12 * x1) + x2) - 1) < (252 : Int) then (Md_decides_144 x1 x3 (σ 14 (wr (((12 * x1) + x2) - 1)).toNat) σ) else none) else (Md_decides_144 x1 x3 (-9) σ)
noncomputable def Md_decides_21b   (r21 : Int → Int → Int → Int → Int → Mem → Option (Int × Mem)) (x1 : Int) (x2 : Int) (x3 : Int) (x4 : Int) (x5 : Int) (σ : Mem) : Option (Int × Mem) := if 0 ≤ wr (x1 + 1) ∧ wr (x1 + 1) < (21 : Int) then (if wr x5 < wr (σ 11 (wr (x1 + 1)).toNat) then (if wr x4 = 0 then (Md_decides_122 x1 x2 x3 σ) else (if 0 ≤ wr x5 ∧ wr x5 < (641 : Int) then (if wr (σ 9 (wr x5).toNat) = (-9) then (Md_decides_56 r21 x1 x2 x3 x5 0 σ) else (Md_decides_56 r21 x1 x2 x3 x5 1 σ)) else none)) else (Md_decides_122 x1 x2 x3 σ)) else none
noncomputable def Md_decides_21   (n : Nat) : Int → Int → Int → Int → Int → Mem → Option (Int × Mem) := fixN (fun _ _ _ _ _ _ => none) (Md_decides_21b  ) n
noncomputable def Md_decides (a0 : Int) (σ : Mem) : Option (Int × Mem) := if 0 ≤ wr a0 ∧ wr a0 < (21 : Int) then (if 0 ≤ wr a0 ∧ wr a0 < (21 : Int) then (Md_decides_21 100000 a0 (σ 13 (wr a0).toNat) (-9) 1 (σ 11 (wr a0).toNat) σ) else none) else none
set_option maxRecDepth 100000 in
set_option maxHeartbeats 4000000 in
theorem k_Md_decides_71 {X : Cx} {w : Wd} {x : Int × Mem} (hS : Std X (rmN 3 73) w cX12_decides RX12 none) (hN : cxn X = 11) (hW : shp w = ShB)  (r21 : Int → Int → Int → Int → Int → Mem → Option (Int × Mem)) (hr21 : ∀ (x1 : Int) (x2 : Int) (x3 : Int) (x4 : Int) (x5 : Int) (σ : Mem), Sm X (rmN 3 73) w 0 x 21 [some (rf w 0), some (iv x1), some (iv x2), some (iv x3), some (iv x4), some (iv x5), none, none, none, none, none] [] σ (r21 x1 x2 x3 x4 x5 σ)) : ∀ (n : Nat) (x1 : Int) (x2 : Int) (x3 : Int) (x5 : Int) (σ : Mem), Sm X (rmN 3 73) w 0 x 71 [some (rf w 0), some (iv x1), some (iv x2), some (iv x3), none, some (iv x5), none, none, none, none, none] [] σ (Md_decides_71 r21  n x1 x2 x3 x5 σ) := by
  refine fix_ok (P := fun (r71 : Int → Int → Int → Int → Mem → Option (Int × Mem)) => ∀ (x1 : Int) (x2 : Int) (x3 : Int) (x5 : Int) (σ : Mem), Sm X (rmN 3 73) w 0 x 71 [some (rf w 0), some (iv x1), some (iv x2), some (iv x3), none, some (iv x5), none, none, none, none, none] [] σ (r71 x1 x2 x3 x5 σ)) (fun _ _ _ _ _ => a_none) (fun r71 hr71 => ?_)
  intro x1 x2 x3 x5 σ
  unfold Md_decides_71b
  refine a_aload_n hS dX12_decides_71 rfl ?_
  refine a_getR hS (j := 14) dX12_decides_72 flX12_50 (sB0 hW) rfl ?_
  refine a_bipush hS dX12_decides_75 rfl ?_
  refine a_iload_n hS dX12_decides_77 rfl ?_
  refine a_imul hS dX12_decides_78 ?_
  refine a_iload_n hS dX12_decides_79 rfl ?_
  refine a_iadd hS dX12_decides_80 ?_
  refine a_iconst hS dX12_decides_81 ?_
  refine a_isub hS dX12_decides_82 ?_
  refine a_iald hS dX12_decides_83 (sB14 hW) ?_
  refine a_iload_n hS dX12_decides_84 rfl ?_
  refine a_icmpeq hS rfl rfl (tgt := 94) dX12_decides_85 (by decide) ?_ ?_
  · refine a_iinc hS (L' := [some (rf w 0), some (iv x1), some (iv (x2 + (-1))), some (iv x3), none, some (iv x5), none, none, none, none, none]) dX12_decides_94 rfl hN (Nat.le_of_ble_eq_true rfl) rfl rfl ?_
    refine a_aload_n hS dX12_decides_97 rfl ?_
    refine a_getR hS (j := 8) dX12_decides_98 flX12_32 (sB0 hW) rfl ?_
    refine a_iload hS dX12_decides_101 rfl ?_
    refine a_iald hS dX12_decides_103 (sB8 hW) ?_
    refine a_bipush hS dX12_decides_104 rfl ?_
    refine a_icmpne hS rfl (wl (-9) rfl) (tgt := 113) dX12_decides_106 (by decide) ?_ ?_
    · refine a_iconst hS dX12_decides_113 ?_
      refine a_istore hS (L' := [some (rf w 0), some (iv x1), some (iv (x2 + (-1))), some (iv x3), some (iv 0), some (iv x5), none, none, none, none, none]) dX12_decides_114 hN (Nat.le_of_ble_eq_true rfl) rfl rfl ?_
      refine a_iinc hS (L' := [some (rf w 0), some (iv x1), some (iv (x2 + (-1))), some (iv x3), some (iv 0), some (iv (x5 + 1)), none, none, none, none, none]) dX12_decides_116 rfl hN (Nat.le_of_ble_eq_true rfl) rfl rfl ?_
      refine a_goto hS (tgt := 21) dX12_decides_119 (by decide) ?_
      exact hr21 x1 (x2 + (-1)) x3 0 (x5 + 1) σ
    · refine a_iconst hS dX12_decides_109 ?_
      refine a_goto hS (tgt := 114) dX12_decides_110 (by decide) ?_
      refine a_istore hS (L' := [some (rf w 0), some (iv x1), some (iv (x2 + (-1))), some (iv x3), some (iv 1), some (iv x5), none, none, none, none, none]) dX12_decides_114 hN (Nat.le_of_ble_eq_true rfl) rfl rfl ?_
      refine a_iinc hS (L' := [some (rf w 0), some (iv x1), some (iv (x2 + (-1))), some (iv x3), some (iv 1), some (iv (x5 + 1)), none, none, none, none, none]) dX12_decides_116 rfl hN (Nat.le_of_ble_eq_true rfl) rfl rfl ?_
      refine a_goto hS (tgt := 21) dX12_decides_119 (by decide) ?_
      exact hr21 x1 (x2 + (-1)) x3 1 (x5 + 1) σ
  · refine a_iinc hS (L' := [some (rf w 0), some (iv x1), some (iv (x2 + (-1))), some (iv x3), none, some (iv x5), none, none, none, none, none]) dX12_decides_88 rfl hN (Nat.le_of_ble_eq_true rfl) rfl rfl ?_
    refine a_goto hS (tgt := 71) dX12_decides_91 (by decide) ?_
    exact hr71 x1 (x2 + (-1)) x3 x5 σ
set_option maxRecDepth 100000 in
set_option maxHeartbeats 4000000 in
theorem k_Md_decides_56 {X : Cx} {w : Wd} {x : Int × Mem} (hS : Std X (rmN 3 73) w cX12_decides RX12 none) (hN : cxn X = 11) (hW : shp w = ShB)  (r21 : Int → Int → Int → Int → Int → Mem → Option (Int × Mem)) (hr21 : ∀ (x1 : Int) (x2 : Int) (x3 : Int) (x4 : Int) (x5 : Int) (σ : Mem), Sm X (rmN 3 73) w 0 x 21 [some (rf w 0), some (iv x1), some (iv x2), some (iv x3), some (iv x4), some (iv x5), none, none, none, none, none] [] σ (r21 x1 x2 x3 x4 x5 σ)) : ∀ (x1 : Int) (x2 : Int) (x3 : Int) (x5 : Int) (y0 : Int) (σ : Mem), Sm X (rmN 3 73) w 0 x 56 [some (rf w 0), some (iv x1), some (iv x2), some (iv x3), none, some (iv x5), none, none, none, none, none] [iv y0] σ (Md_decides_56 r21  x1 x2 x3 x5 y0 σ) := by
  intro x1 x2 x3 x5 y0 σ
  unfold Md_decides_56
  refine a_istore hS (L' := [some (rf w 0), some (iv x1), some (iv x2), some (iv x3), some (iv y0), some (iv x5), none, none, none, none, none]) dX12_decides_56 hN (Nat.le_of_ble_eq_true rfl) rfl rfl ?_
  refine a_iload hS dX12_decides_58 rfl ?_
  refine a_ifeq hS rfl  (tgt := 116) dX12_decides_60 (by decide) ?_ ?_
  · refine a_iinc hS (L' := [some (rf w 0), some (iv x1), some (iv x2), some (iv x3), some (iv y0), some (iv (x5 + 1)), none, none, none, none, none]) dX12_decides_116 rfl hN (Nat.le_of_ble_eq_true rfl) rfl rfl ?_
    refine a_goto hS (tgt := 21) dX12_decides_119 (by decide) ?_
    exact hr21 x1 x2 x3 y0 (x5 + 1) σ
  · refine a_aload_n hS dX12_decides_63 rfl ?_
    refine a_getR hS (j := 9) dX12_decides_64 flX12_35 (sB0 hW) rfl ?_
    refine a_iload hS dX12_decides_67 rfl ?_
    refine a_iald hS dX12_decides_69 (sB9 hW) ?_
    refine a_istore_n hS (L' := [some (rf w 0), some (iv x1), some (iv x2), some (iv (σ 9 (wr x5).toNat)), some (iv y0), some (iv x5), none, none, none, none, none]) dX12_decides_70 hN (Nat.le_of_ble_eq_true rfl) rfl rfl ?_
    exact a_live (M := [true, true, true, true, false, true, false, false, false, false, false]) (k_Md_decides_71 hS hN hW  r21 hr21 100000 x1 x2 (σ 9 (wr x5).toNat) x5 σ) rfl
set_option maxRecDepth 100000 in
set_option maxHeartbeats 4000000 in
theorem k_Md_decides_464 {X : Cx} {w : Wd} {x : Int × Mem} (hS : Std X (rmN 3 73) w cX12_decides RX12 none) (hN : cxn X = 11) (hW : shp w = ShB)   : ∀ (y0 : Int) (y1 : Int) (y2 : Int) (y3 : Int) (σ : Mem), Sm X (rmN 3 73) w 0 x 464 [some (rf w 0), none, none, none, none, none, none, none, none, none, none] [iv y0, iv y1, iv y2, iv y3, rf w 0] σ (Md_decides_464   y0 y1 y2 y3 σ) := by
  intro y0 y1 y2 y3 σ
  unfold Md_decides_464
  refine a_callVv hS (rst := []) (c_Md_offers hW y3 y2 y1 y0 σ ) miX12_offers mlX12_182 (sB0 hW) rfl rfl (Nat.le_of_ble_eq_true rfl) (Nat.le_of_ble_eq_true rfl) (Nat.le_of_ble_eq_true rfl) rfl dX12_decides_464 (fun q17 => ?_)
  refine a_aload_n hS dX12_decides_467 rfl ?_
  refine a_aload_n hS dX12_decides_468 rfl ?_
  refine a_getI hS dX12_decides_469 flX12_170 (sB0 hW) rfl ?_
  refine a_ifge hS rfl  (tgt := 479) dX12_decides_472 (by decide) ?_ ?_
  · refine a_aload_n hS dX12_decides_479 rfl ?_
    refine a_getI hS dX12_decides_480 flX12_170 (sB0 hW) rfl ?_
    refine a_bipush hS dX12_decides_483 rfl ?_
    refine a_callSi hS (rst := [rf w 0]) (c_Md_least hW (q17.2 0 24) 40 q17.2 ) msX12_least mlX12_91 rfl (Nat.le_of_ble_eq_true rfl) (Nat.le_of_ble_eq_true rfl) (Nat.le_of_ble_eq_true rfl) rfl dX12_decides_485 (fun q18 => ?_)
    refine a_putI hS dX12_decides_488 plX12_170 (sB0 hW) rfl ?_
    refine a_letM (fun s19 => ?_)
    exact a_vret hS rfl rfl dX12_decides_491
  · refine a_iconst hS dX12_decides_475 ?_
    refine a_goto hS (tgt := 488) dX12_decides_476 (by decide) ?_
    refine a_putI hS dX12_decides_488 plX12_170 (sB0 hW) rfl ?_
    refine a_letM (fun s20 => ?_)
    exact a_vret hS rfl rfl dX12_decides_491
set_option maxRecDepth 100000 in
set_option maxHeartbeats 4000000 in
theorem k_Md_decides_445 {X : Cx} {w : Wd} {x : Int × Mem} (hS : Std X (rmN 3 73) w cX12_decides RX12 none) (hN : cxn X = 11) (hW : shp w = ShB)   : ∀ (x5 : Int) (y0 : Int) (y1 : Int) (y2 : Int) (σ : Mem), Sm X (rmN 3 73) w 0 x 445 [some (rf w 0), none, none, none, none, some (iv x5), none, none, none, none, none] [iv y0, iv y1, iv y2, rf w 0] σ (Md_decides_445   x5 y0 y1 y2 σ) := by
  intro x5 y0 y1 y2 σ
  unfold Md_decides_445
  refine a_iload hS dX12_decides_445 rfl ?_
  refine a_bipush hS dX12_decides_447 rfl ?_
  refine a_icmpne hS rfl (wl (-9) rfl) (tgt := 457) dX12_decides_449 (by decide) ?_ ?_
  · refine a_aload_n hS dX12_decides_457 rfl ?_
    refine a_getR hS (j := 8) dX12_decides_458 flX12_32 (sB0 hW) rfl ?_
    refine a_iload hS dX12_decides_461 rfl ?_
    refine a_iald hS dX12_decides_463 (sB8 hW) ?_
    exact a_live (M := [true, false, false, false, false, false, false, false, false, false, false]) (k_Md_decides_464 hS hN hW   (σ 8 (wr x5).toNat) y0 y1 y2 σ) rfl
  · refine a_bipush hS dX12_decides_452 rfl ?_
    refine a_goto hS (tgt := 464) dX12_decides_454 (by decide) ?_
    exact a_live (M := [true, false, false, false, false, false, false, false, false, false, false]) (k_Md_decides_464 hS hN hW   (-9) y0 y1 y2 σ) rfl
set_option maxRecDepth 100000 in
set_option maxHeartbeats 4000000 in
theorem k_Md_decides_416 {X : Cx} {w : Wd} {x : Int × Mem} (hS : Std X (rmN 3 73) w cX12_decides RX12 none) (hN : cxn X = 11) (hW : shp w = ShB)   : ∀ (x5 : Int) (x6 : Int) (σ : Mem), Sm X (rmN 3 73) w 0 x 416 [some (rf w 0), none, none, none, none, some (iv x5), some (iv x6), none, none, none, none] [] σ (Md_decides_416   x5 x6 σ) := by
  intro x5 x6 σ
  unfold Md_decides_416
  refine a_aload_n hS dX12_decides_416 rfl ?_
  refine a_iconst hS dX12_decides_417 ?_
  refine a_iload hS dX12_decides_418 rfl ?_
  refine a_iload hS dX12_decides_420 rfl ?_
  refine a_bipush hS dX12_decides_422 rfl ?_
  refine a_icmpne hS rfl (wl (-9) rfl) (tgt := 431) dX12_decides_424 (by decide) ?_ ?_
  · refine a_aload_n hS dX12_decides_431 rfl ?_
    refine a_iload hS dX12_decides_432 rfl ?_
    refine a_callVi hS (rst := [iv x6, iv (-1), rf w 0]) (c_Md_isAligned hW x5 σ ) miX12_isAligned mlX12_160 (sB0 hW) rfl rfl (Nat.le_of_ble_eq_true rfl) (Nat.le_of_ble_eq_true rfl) (Nat.le_of_ble_eq_true rfl) rfl dX12_decides_434 (fun q16 => ?_)
    refine a_ifeq hS rfl  (tgt := 444) dX12_decides_437 (by decide) ?_ ?_
    · refine a_iconst hS dX12_decides_444 ?_
      exact a_live (M := [true, false, false, false, false, true, false, false, false, false, false]) (k_Md_decides_445 hS hN hW   x5 1 x6 (-1) q16.2) rfl
    · refine a_iconst hS dX12_decides_440 ?_
      refine a_goto hS (tgt := 445) dX12_decides_441 (by decide) ?_
      exact a_live (M := [true, false, false, false, false, true, false, false, false, false, false]) (k_Md_decides_445 hS hN hW   x5 2 x6 (-1) q16.2) rfl
  · refine a_iconst hS dX12_decides_427 ?_
    refine a_goto hS (tgt := 445) dX12_decides_428 (by decide) ?_
    exact a_live (M := [true, false, false, false, false, true, false, false, false, false, false]) (k_Md_decides_445 hS hN hW   x5 0 x6 (-1) σ) rfl
set_option maxRecDepth 100000 in
set_option maxHeartbeats 4000000 in
theorem k_Md_decides_378 {X : Cx} {w : Wd} {x : Int × Mem} (hS : Std X (rmN 3 73) w cX12_decides RX12 none) (hN : cxn X = 11) (hW : shp w = ShB)   : ∀ (x5 : Int) (x6 : Int) (y0 : Int) (σ : Mem), Sm X (rmN 3 73) w 0 x 378 [some (rf w 0), none, none, none, none, some (iv x5), some (iv x6), none, none, none, none] [iv y0] σ (Md_decides_378   x5 x6 y0 σ) := by
  intro x5 x6 y0 σ
  unfold Md_decides_378
  refine a_istore hS (L' := [some (rf w 0), none, none, none, none, some (iv x5), some (iv x6), none, none, none, some (iv y0)]) dX12_decides_378 hN (Nat.le_of_ble_eq_true rfl) rfl rfl ?_
  refine a_iload hS dX12_decides_380 rfl ?_
  refine a_bipush hS dX12_decides_382 rfl ?_
  refine a_icmpeq hS rfl (wl (-9) rfl) (tgt := 416) dX12_decides_384 (by decide) ?_ ?_
  · exact a_live (M := [true, false, false, false, false, true, true, false, false, false, false]) (k_Md_decides_416 hS hN hW   x5 x6 σ) rfl
  · refine a_aload_n hS dX12_decides_387 rfl ?_
    refine a_aload_n hS dX12_decides_388 rfl ?_
    refine a_iload hS dX12_decides_389 rfl ?_
    refine a_iconst hS dX12_decides_391 ?_
    refine a_callVi hS (rst := [rf w 0]) (c_Md_ruleAt hW y0 1 σ ) miX12_ruleAt mlX12_120 (sB0 hW) rfl rfl (Nat.le_of_ble_eq_true rfl) (Nat.le_of_ble_eq_true rfl) (Nat.le_of_ble_eq_true rfl) rfl dX12_decides_392 (fun q13 => ?_)
    refine a_iload hS dX12_decides_395 rfl ?_
    refine a_aload_n hS dX12_decides_397 rfl ?_
    refine a_iload hS dX12_decides_398 rfl ?_
    refine a_iconst hS dX12_decides_400 ?_
    refine a_callVi hS (rst := [iv x6, iv q13.1, rf w 0]) (c_Md_ruleAt hW y0 2 q13.2 ) miX12_ruleAt mlX12_120 (sB0 hW) rfl rfl (Nat.le_of_ble_eq_true rfl) (Nat.le_of_ble_eq_true rfl) (Nat.le_of_ble_eq_true rfl) rfl dX12_decides_401 (fun q14 => ?_)
    refine a_aload_n hS dX12_decides_404 rfl ?_
    refine a_getI hS dX12_decides_405 flX12_154 (sB0 hW) rfl ?_
    refine a_imul hS dX12_decides_408 ?_
    refine a_iadd hS dX12_decides_409 ?_
    refine a_iconst hS dX12_decides_410 ?_
    refine a_iload hS dX12_decides_411 rfl ?_
    refine a_callVv hS (rst := []) (c_Md_offers hW q13.1 (x6 + (q14.1 * (q14.2 0 22))) 5 y0 q14.2 ) miX12_offers mlX12_182 (sB0 hW) rfl rfl (Nat.le_of_ble_eq_true rfl) (Nat.le_of_ble_eq_true rfl) (Nat.le_of_ble_eq_true rfl) rfl dX12_decides_413 (fun q15 => ?_)
    exact a_live (M := [true, false, false, false, false, true, true, false, false, false, false]) (k_Md_decides_416 hS hN hW   x5 x6 q15.2) rfl
set_option maxRecDepth 100000 in
set_option maxHeartbeats 4000000 in
theorem k_Md_decides_340 {X : Cx} {w : Wd} {x : Int × Mem} (hS : Std X (rmN 3 73) w cX12_decides RX12 none) (hN : cxn X = 11) (hW : shp w = ShB)   : ∀ (x5 : Int) (x6 : Int) (x7 : Int) (x8 : Int) (σ : Mem), Sm X (rmN 3 73) w 0 x 340 [some (rf w 0), none, none, none, none, some (iv x5), some (iv x6), some (iv x7), some (iv x8), none, none] [] σ (Md_decides_340   x5 x6 x7 x8 σ) := by
  intro x5 x6 x7 x8 σ
  unfold Md_decides_340
  refine a_iload hS dX12_decides_340 rfl ?_
  refine a_ifeq hS rfl  (tgt := 376) dX12_decides_342 (by decide) ?_ ?_
  · refine a_bipush hS dX12_decides_376 rfl ?_
    exact a_live (M := [true, false, false, false, false, true, true, false, false, false, false]) (k_Md_decides_378 hS hN hW   x5 x6 (-9) σ) rfl
  · refine a_iload hS dX12_decides_345 rfl ?_
    refine a_ifle hS rfl  (tgt := 376) dX12_decides_347 (by decide) ?_ ?_
    · refine a_bipush hS dX12_decides_376 rfl ?_
      exact a_live (M := [true, false, false, false, false, true, true, false, false, false, false]) (k_Md_decides_378 hS hN hW   x5 x6 (-9) σ) rfl
    · refine a_aload_n hS dX12_decides_350 rfl ?_
      refine a_getR hS (j := 8) dX12_decides_351 flX12_32 (sB0 hW) rfl ?_
      refine a_iload hS dX12_decides_354 rfl ?_
      refine a_iconst hS dX12_decides_356 ?_
      refine a_isub hS dX12_decides_357 ?_
      refine a_iald hS dX12_decides_358 (sB8 hW) ?_
      refine a_bipush hS dX12_decides_359 rfl ?_
      refine a_icmpne hS rfl (wl (-9) rfl) (tgt := 376) dX12_decides_361 (by decide) ?_ ?_
      · refine a_bipush hS dX12_decides_376 rfl ?_
        exact a_live (M := [true, false, false, false, false, true, true, false, false, false, false]) (k_Md_decides_378 hS hN hW   x5 x6 (-9) σ) rfl
      · refine a_aload_n hS dX12_decides_364 rfl ?_
        refine a_iload hS dX12_decides_365 rfl ?_
        refine a_iconst hS dX12_decides_367 ?_
        refine a_isub hS dX12_decides_368 ?_
        refine a_iconst hS dX12_decides_369 ?_
        refine a_callVi hS (rst := []) (c_Md_ruleFor hW (x7 - 1) 3 σ ) miX12_ruleFor mlX12_148 (sB0 hW) rfl rfl (Nat.le_of_ble_eq_true rfl) (Nat.le_of_ble_eq_true rfl) (Nat.le_of_ble_eq_true rfl) rfl dX12_decides_370 (fun q12 => ?_)
        refine a_goto hS (tgt := 378) dX12_decides_373 (by decide) ?_
        exact a_live (M := [true, false, false, false, false, true, true, false, false, false, false]) (k_Md_decides_378 hS hN hW   x5 x6 q12.1 q12.2) rfl
set_option maxRecDepth 100000 in
set_option maxHeartbeats 4000000 in
theorem k_Md_decides_302 {X : Cx} {w : Wd} {x : Int × Mem} (hS : Std X (rmN 3 73) w cX12_decides RX12 none) (hN : cxn X = 11) (hW : shp w = ShB)   : ∀ (x5 : Int) (x6 : Int) (x7 : Int) (x8 : Int) (y0 : Int) (σ : Mem), Sm X (rmN 3 73) w 0 x 302 [some (rf w 0), none, none, none, none, some (iv x5), some (iv x6), some (iv x7), some (iv x8), none, none] [iv y0] σ (Md_decides_302   x5 x6 x7 x8 y0 σ) := by
  intro x5 x6 x7 x8 y0 σ
  unfold Md_decides_302
  refine a_istore hS (L' := [some (rf w 0), none, none, none, none, some (iv x5), some (iv x6), some (iv x7), some (iv x8), some (iv y0), none]) dX12_decides_302 hN (Nat.le_of_ble_eq_true rfl) rfl rfl ?_
  refine a_iload hS dX12_decides_304 rfl ?_
  refine a_bipush hS dX12_decides_306 rfl ?_
  refine a_icmpeq hS rfl (wl (-9) rfl) (tgt := 340) dX12_decides_308 (by decide) ?_ ?_
  · exact a_live (M := [true, false, false, false, false, true, true, true, true, false, false]) (k_Md_decides_340 hS hN hW   x5 x6 x7 x8 σ) rfl
  · refine a_aload_n hS dX12_decides_311 rfl ?_
    refine a_aload_n hS dX12_decides_312 rfl ?_
    refine a_iload hS dX12_decides_313 rfl ?_
    refine a_iconst hS dX12_decides_315 ?_
    refine a_callVi hS (rst := [rf w 0]) (c_Md_ruleAt hW y0 1 σ ) miX12_ruleAt mlX12_120 (sB0 hW) rfl rfl (Nat.le_of_ble_eq_true rfl) (Nat.le_of_ble_eq_true rfl) (Nat.le_of_ble_eq_true rfl) rfl dX12_decides_316 (fun q9 => ?_)
    refine a_iload hS dX12_decides_319 rfl ?_
    refine a_aload_n hS dX12_decides_321 rfl ?_
    refine a_iload hS dX12_decides_322 rfl ?_
    refine a_iconst hS dX12_decides_324 ?_
    refine a_callVi hS (rst := [iv x6, iv q9.1, rf w 0]) (c_Md_ruleAt hW y0 2 q9.2 ) miX12_ruleAt mlX12_120 (sB0 hW) rfl rfl (Nat.le_of_ble_eq_true rfl) (Nat.le_of_ble_eq_true rfl) (Nat.le_of_ble_eq_true rfl) rfl dX12_decides_325 (fun q10 => ?_)
    refine a_aload_n hS dX12_decides_328 rfl ?_
    refine a_getI hS dX12_decides_329 flX12_154 (sB0 hW) rfl ?_
    refine a_imul hS dX12_decides_332 ?_
    refine a_iadd hS dX12_decides_333 ?_
    refine a_iconst hS dX12_decides_334 ?_
    refine a_iload hS dX12_decides_335 rfl ?_
    refine a_callVv hS (rst := []) (c_Md_offers hW q9.1 (x6 + (q10.1 * (q10.2 0 22))) 4 y0 q10.2 ) miX12_offers mlX12_182 (sB0 hW) rfl rfl (Nat.le_of_ble_eq_true rfl) (Nat.le_of_ble_eq_true rfl) (Nat.le_of_ble_eq_true rfl) rfl dX12_decides_337 (fun q11 => ?_)
    exact a_live (M := [true, false, false, false, false, true, true, true, true, false, false]) (k_Md_decides_340 hS hN hW   x5 x6 x7 x8 q11.2) rfl
set_option maxRecDepth 100000 in
set_option maxHeartbeats 4000000 in
theorem k_Md_decides_283 {X : Cx} {w : Wd} {x : Int × Mem} (hS : Std X (rmN 3 73) w cX12_decides RX12 none) (hN : cxn X = 11) (hW : shp w = ShB)   : ∀ (x5 : Int) (x6 : Int) (x7 : Int) (y0 : Int) (σ : Mem), Sm X (rmN 3 73) w 0 x 283 [some (rf w 0), none, none, none, none, some (iv x5), some (iv x6), some (iv x7), none, none, none] [iv y0] σ (Md_decides_283   x5 x6 x7 y0 σ) := by
  intro x5 x6 x7 y0 σ
  unfold Md_decides_283
  refine a_istore hS (L' := [some (rf w 0), none, none, none, none, some (iv x5), some (iv x6), some (iv x7), some (iv y0), none, none]) dX12_decides_283 hN (Nat.le_of_ble_eq_true rfl) rfl rfl ?_
  refine a_iload hS dX12_decides_285 rfl ?_
  refine a_ifeq hS rfl  (tgt := 300) dX12_decides_287 (by decide) ?_ ?_
  · refine a_bipush hS dX12_decides_300 rfl ?_
    exact k_Md_decides_302 hS hN hW   x5 x6 x7 y0 (-9) σ
  · refine a_aload_n hS dX12_decides_290 rfl ?_
    refine a_iload hS dX12_decides_291 rfl ?_
    refine a_iconst hS dX12_decides_293 ?_
    refine a_callVi hS (rst := []) (c_Md_ruleFor hW x7 2 σ ) miX12_ruleFor mlX12_148 (sB0 hW) rfl rfl (Nat.le_of_ble_eq_true rfl) (Nat.le_of_ble_eq_true rfl) (Nat.le_of_ble_eq_true rfl) rfl dX12_decides_294 (fun q8 => ?_)
    refine a_goto hS (tgt := 302) dX12_decides_297 (by decide) ?_
    exact k_Md_decides_302 hS hN hW   x5 x6 x7 y0 q8.1 q8.2
set_option maxRecDepth 100000 in
set_option maxHeartbeats 4000000 in
theorem k_Md_decides_257 {X : Cx} {w : Wd} {x : Int × Mem} (hS : Std X (rmN 3 73) w cX12_decides RX12 none) (hN : cxn X = 11) (hW : shp w = ShB)   : ∀ (x1 : Int) (x5 : Int) (x6 : Int) (σ : Mem), Sm X (rmN 3 73) w 0 x 257 [some (rf w 0), some (iv x1), none, none, none, some (iv x5), some (iv x6), none, none, none, none] [] σ (Md_decides_257   x1 x5 x6 σ) := by
  intro x1 x5 x6 σ
  unfold Md_decides_257
  refine a_aload_n hS dX12_decides_257 rfl ?_
  refine a_getR hS (j := 11) dX12_decides_258 flX12_41 (sB0 hW) rfl ?_
  refine a_iload_n hS dX12_decides_261 rfl ?_
  refine a_iald hS dX12_decides_262 (sB11 hW) ?_
  refine a_istore hS (L' := [some (rf w 0), some (iv x1), none, none, none, some (iv x5), some (iv x6), some (iv (σ 11 (wr x1).toNat)), none, none, none]) dX12_decides_263 hN (Nat.le_of_ble_eq_true rfl) rfl rfl ?_
  refine a_iload hS dX12_decides_265 rfl ?_
  refine a_aload_n hS dX12_decides_267 rfl ?_
  refine a_getR hS (j := 11) dX12_decides_268 flX12_41 (sB0 hW) rfl ?_
  refine a_iload_n hS dX12_decides_271 rfl ?_
  refine a_iconst hS dX12_decides_272 ?_
  refine a_iadd hS dX12_decides_273 ?_
  refine a_iald hS dX12_decides_274 (sB11 hW) ?_
  refine a_icmpge hS rfl rfl (tgt := 282) dX12_decides_275 (by decide) ?_ ?_
  · refine a_iconst hS dX12_decides_282 ?_
    exact a_live (M := [true, false, false, false, false, true, true, true, false, false, false]) (k_Md_decides_283 hS hN hW   x5 x6 (σ 11 (wr x1).toNat) 0 σ) rfl
  · refine a_iconst hS dX12_decides_278 ?_
    refine a_goto hS (tgt := 283) dX12_decides_279 (by decide) ?_
    exact a_live (M := [true, false, false, false, false, true, true, true, false, false, false]) (k_Md_decides_283 hS hN hW   x5 x6 (σ 11 (wr x1).toNat) 1 σ) rfl
set_option maxRecDepth 100000 in
set_option maxHeartbeats 4000000 in
theorem k_Md_decides_231 {X : Cx} {w : Wd} {x : Int × Mem} (hS : Std X (rmN 3 73) w cX12_decides RX12 none) (hN : cxn X = 11) (hW : shp w = ShB)   : ∀ (x1 : Int) (x3 : Int) (x5 : Int) (x6 : Int) (y0 : Int) (σ : Mem), Sm X (rmN 3 73) w 0 x 231 [some (rf w 0), some (iv x1), none, some (iv x3), none, some (iv x5), some (iv x6), none, none, none, none] [iv y0] σ (Md_decides_231   x1 x3 x5 x6 y0 σ) := by
  intro x1 x3 x5 x6 y0 σ
  unfold Md_decides_231
  refine a_istore hS (L' := [some (rf w 0), some (iv x1), none, some (iv x3), none, some (iv x5), some (iv x6), none, some (iv y0), none, none]) dX12_decides_231 hN (Nat.le_of_ble_eq_true rfl) rfl rfl ?_
  refine a_aload_n hS dX12_decides_233 rfl ?_
  refine a_aload_n hS dX12_decides_234 rfl ?_
  refine a_aload_n hS dX12_decides_235 rfl ?_
  refine a_getR hS (j := 8) dX12_decides_236 flX12_32 (sB0 hW) rfl ?_
  refine a_iload_n hS dX12_decides_239 rfl ?_
  refine a_iald hS dX12_decides_240 (sB8 hW) ?_
  refine a_iconst hS dX12_decides_241 ?_
  refine a_callVi hS (rst := [rf w 0]) (c_Md_ruleAt hW (σ 8 (wr x3).toNat) 1 σ ) miX12_ruleAt mlX12_120 (sB0 hW) rfl rfl (Nat.le_of_ble_eq_true rfl) (Nat.le_of_ble_eq_true rfl) (Nat.le_of_ble_eq_true rfl) rfl dX12_decides_242 (fun q6 => ?_)
  refine a_iload hS dX12_decides_245 rfl ?_
  refine a_iconst hS dX12_decides_247 ?_
  refine a_aload_n hS dX12_decides_248 rfl ?_
  refine a_getR hS (j := 8) dX12_decides_249 flX12_32 (sB0 hW) rfl ?_
  refine a_iload_n hS dX12_decides_252 rfl ?_
  refine a_iald hS dX12_decides_253 (sB8 hW) ?_
  refine a_callVv hS (rst := []) (c_Md_offers hW q6.1 y0 3 (q6.2 8 (wr x3).toNat) q6.2 ) miX12_offers mlX12_182 (sB0 hW) rfl rfl (Nat.le_of_ble_eq_true rfl) (Nat.le_of_ble_eq_true rfl) (Nat.le_of_ble_eq_true rfl) rfl dX12_decides_254 (fun q7 => ?_)
  exact a_live (M := [true, true, false, false, false, true, true, false, false, false, false]) (k_Md_decides_257 hS hN hW   x1 x5 x6 q7.2) rfl
set_option maxRecDepth 100000 in
set_option maxHeartbeats 4000000 in
theorem k_Md_decides_166 {X : Cx} {w : Wd} {x : Int × Mem} (hS : Std X (rmN 3 73) w cX12_decides RX12 none) (hN : cxn X = 11) (hW : shp w = ShB)   : ∀ (x1 : Int) (x3 : Int) (x5 : Int) (y0 : Int) (σ : Mem), Sm X (rmN 3 73) w 0 x 166 [some (rf w 0), some (iv x1), none, some (iv x3), none, some (iv x5), none, none, none, none, none] [iv y0] σ (Md_decides_166   x1 x3 x5 y0 σ) := by
  intro x1 x3 x5 y0 σ
  unfold Md_decides_166
  refine a_istore hS (L' := [some (rf w 0), some (iv x1), none, some (iv x3), none, some (iv x5), some (iv y0), none, none, none, none]) dX12_decides_166 hN (Nat.le_of_ble_eq_true rfl) rfl rfl ?_
  refine a_aload_n hS dX12_decides_168 rfl ?_
  refine a_bipush hS dX12_decides_169 rfl ?_
  refine a_putI hS dX12_decides_171 plX12_167 (sB0 hW) rfl ?_
  refine a_letM (fun s2 => ?_)
  refine a_iload_n hS dX12_decides_174 rfl ?_
  refine a_bipush hS dX12_decides_175 rfl ?_
  refine a_icmpeq hS rfl (wl (-9) rfl) (tgt := 257) dX12_decides_177 (by decide) ?_ ?_
  · exact a_live (M := [true, true, false, false, false, true, true, false, false, false, false]) (k_Md_decides_257 hS hN hW   x1 x5 y0 s2) rfl
  · refine a_aload_n hS dX12_decides_180 rfl ?_
    refine a_aload_n hS dX12_decides_181 rfl ?_
    refine a_getR hS (j := 8) dX12_decides_182 flX12_32 (sB0 hW) rfl ?_
    refine a_iload_n hS dX12_decides_185 rfl ?_
    refine a_iald hS dX12_decides_186 (sB8 hW) ?_
    refine a_iconst hS dX12_decides_187 ?_
    refine a_callVi hS (rst := []) (c_Md_ruleAt hW (s2 8 (wr x3).toNat) 4 s2 ) miX12_ruleAt mlX12_120 (sB0 hW) rfl rfl (Nat.le_of_ble_eq_true rfl) (Nat.le_of_ble_eq_true rfl) (Nat.le_of_ble_eq_true rfl) rfl dX12_decides_188 (fun q3 => ?_)
    refine a_istore hS (L' := [some (rf w 0), some (iv x1), none, some (iv x3), none, some (iv x5), some (iv y0), some (iv q3.1), none, none, none]) dX12_decides_191 hN (Nat.le_of_ble_eq_true rfl) rfl rfl ?_
    refine a_iload hS dX12_decides_193 rfl ?_
    refine a_ifne hS rfl  (tgt := 212) dX12_decides_195 (by decide) ?_ ?_
    · refine a_iload hS dX12_decides_212 rfl ?_
      refine a_iconst hS dX12_decides_214 ?_
      refine a_icmpne hS rfl (wl 1 rfl) (tgt := 226) dX12_decides_215 (by decide) ?_ ?_
      · refine a_aload_n hS dX12_decides_226 rfl ?_
        refine a_iload_n hS dX12_decides_227 rfl ?_
        refine a_callVi hS (rst := []) (c_Md_columnOf hW x3 q3.2 ) miX12_columnOf mlX12_163 (sB0 hW) rfl rfl (Nat.le_of_ble_eq_true rfl) (Nat.le_of_ble_eq_true rfl) (Nat.le_of_ble_eq_true rfl) rfl dX12_decides_228 (fun q4 => ?_)
        exact a_live (M := [true, true, false, true, false, true, true, false, false, false, false]) (k_Md_decides_231 hS hN hW   x1 x3 x5 y0 q4.1 q4.2) rfl
      · refine a_aload_n hS dX12_decides_218 rfl ?_
        refine a_iload_n hS dX12_decides_219 rfl ?_
        refine a_callVi hS (rst := []) (c_Md_columnIn hW x3 q3.2 ) miX12_columnIn mlX12_179 (sB0 hW) rfl rfl (Nat.le_of_ble_eq_true rfl) (Nat.le_of_ble_eq_true rfl) (Nat.le_of_ble_eq_true rfl) rfl dX12_decides_220 (fun q5 => ?_)
        refine a_goto hS (tgt := 231) dX12_decides_223 (by decide) ?_
        exact a_live (M := [true, true, false, true, false, true, true, false, false, false, false]) (k_Md_decides_231 hS hN hW   x1 x3 x5 y0 q5.1 q5.2) rfl
    · refine a_aload_n hS dX12_decides_198 rfl ?_
      refine a_getR hS (j := 16) dX12_decides_199 flX12_56 (sB0 hW) rfl ?_
      refine a_aload_n hS dX12_decides_202 rfl ?_
      refine a_getR hS (j := 4) dX12_decides_203 flX12_20 (sB0 hW) rfl ?_
      refine a_iload_n hS dX12_decides_206 rfl ?_
      refine a_iald hS dX12_decides_207 (sB4 hW) ?_
      refine a_iald hS dX12_decides_208 (sB16 hW) ?_
      refine a_goto hS (tgt := 231) dX12_decides_209 (by decide) ?_
      exact a_live (M := [true, true, false, true, false, true, true, false, false, false, false]) (k_Md_decides_231 hS hN hW   x1 x3 x5 y0 (q3.2 16 (wr (q3.2 4 (wr x3).toNat)).toNat) q3.2) rfl
set_option maxRecDepth 100000 in
set_option maxHeartbeats 4000000 in
theorem k_Md_decides_144 {X : Cx} {w : Wd} {x : Int × Mem} (hS : Std X (rmN 3 73) w cX12_decides RX12 none) (hN : cxn X = 11) (hW : shp w = ShB)   : ∀ (x1 : Int) (x3 : Int) (y0 : Int) (σ : Mem), Sm X (rmN 3 73) w 0 x 144 [some (rf w 0), some (iv x1), none, some (iv x3), none, none, none, none, none, none, none] [iv y0] σ (Md_decides_144   x1 x3 y0 σ) := by
  intro x1 x3 y0 σ
  unfold Md_decides_144
  refine a_istore hS (L' := [some (rf w 0), some (iv x1), none, some (iv x3), none, some (iv y0), none, none, none, none, none]) dX12_decides_144 hN (Nat.le_of_ble_eq_true rfl) rfl rfl ?_
  refine a_iload hS dX12_decides_146 rfl ?_
  refine a_bipush hS dX12_decides_148 rfl ?_
  refine a_icmpne hS rfl (wl (-9) rfl) (tgt := 160) dX12_decides_150 (by decide) ?_ ?_
  · refine a_aload_n hS dX12_decides_160 rfl ?_
    refine a_iload hS dX12_decides_161 rfl ?_
    refine a_callVi hS (rst := []) (c_Md_columnIn hW y0 σ ) miX12_columnIn mlX12_179 (sB0 hW) rfl rfl (Nat.le_of_ble_eq_true rfl) (Nat.le_of_ble_eq_true rfl) (Nat.le_of_ble_eq_true rfl) rfl dX12_decides_163 (fun q1 => ?_)
    exact k_Md_decides_166 hS hN hW   x1 x3 y0 q1.1 q1.2
  · refine a_aload_n hS dX12_decides_153 rfl ?_
    refine a_getI hS dX12_decides_154 flX12_157 (sB0 hW) rfl ?_
    refine a_goto hS (tgt := 166) dX12_decides_157 (by decide) ?_
    exact k_Md_decides_166 hS hN hW   x1 x3 y0 (σ 0 23) σ
set_option maxRecDepth 100000 in
set_option maxHeartbeats 4000000 in
theorem k_Md_decides_122 {X : Cx} {w : Wd} {x : Int × Mem} (hS : Std X (rmN 3 73) w cX12_decides RX12 none) (hN : cxn X = 11) (hW : shp w = ShB)   : ∀ (x1 : Int) (x2 : Int) (x3 : Int) (σ : Mem), Sm X (rmN 3 73) w 0 x 122 [some (rf w 0), some (iv x1), some (iv x2), some (iv x3), none, none, none, none, none, none, none] [] σ (Md_decides_122   x1 x2 x3 σ) := by
  intro x1 x2 x3 σ
  unfold Md_decides_122
  refine a_iload_n hS dX12_decides_122 rfl ?_
  refine a_ifle hS rfl  (tgt := 142) dX12_decides_123 (by decide) ?_ ?_
  · refine a_bipush hS dX12_decides_142 rfl ?_
    exact a_live (M := [true, true, false, true, false, false, false, false, false, false, false]) (k_Md_decides_144 hS hN hW   x1 x3 (-9) σ) rfl
  · refine a_aload_n hS dX12_decides_126 rfl ?_
    refine a_getR hS (j := 14) dX12_decides_127 flX12_50 (sB0 hW) rfl ?_
    refine a_bipush hS dX12_decides_130 rfl ?_
    refine a_iload_n hS dX12_decides_132 rfl ?_
    refine a_imul hS dX12_decides_133 ?_
    refine a_iload_n hS dX12_decides_134 rfl ?_
    refine a_iadd hS dX12_decides_135 ?_
    refine a_iconst hS dX12_decides_136 ?_
    refine a_isub hS dX12_decides_137 ?_
    refine a_iald hS dX12_decides_138 (sB14 hW) ?_
    refine a_goto hS (tgt := 144) dX12_decides_139 (by decide) ?_
    exact a_live (M := [true, true, false, true, false, false, false, false, false, false, false]) (k_Md_decides_144 hS hN hW   x1 x3 (σ 14 (wr (((12 * x1) + x2) - 1)).toNat) σ) rfl
set_option maxRecDepth 100000 in
set_option maxHeartbeats 4000000 in
theorem k_Md_decides_21 {X : Cx} {w : Wd} {x : Int × Mem} (hS : Std X (rmN 3 73) w cX12_decides RX12 none) (hN : cxn X = 11) (hW : shp w = ShB)   : ∀ (n : Nat) (x1 : Int) (x2 : Int) (x3 : Int) (x4 : Int) (x5 : Int) (σ : Mem), Sm X (rmN 3 73) w 0 x 21 [some (rf w 0), some (iv x1), some (iv x2), some (iv x3), some (iv x4), some (iv x5), none, none, none, none, none] [] σ (Md_decides_21   n x1 x2 x3 x4 x5 σ) := by
  refine fix_ok (P := fun (r21 : Int → Int → Int → Int → Int → Mem → Option (Int × Mem)) => ∀ (x1 : Int) (x2 : Int) (x3 : Int) (x4 : Int) (x5 : Int) (σ : Mem), Sm X (rmN 3 73) w 0 x 21 [some (rf w 0), some (iv x1), some (iv x2), some (iv x3), some (iv x4), some (iv x5), none, none, none, none, none] [] σ (r21 x1 x2 x3 x4 x5 σ)) (fun _ _ _ _ _ _ => a_none) (fun r21 hr21 => ?_)
  intro x1 x2 x3 x4 x5 σ
  unfold Md_decides_21b
  refine a_iload hS dX12_decides_21 rfl ?_
  refine a_aload_n hS dX12_decides_23 rfl ?_
  refine a_getR hS (j := 11) dX12_decides_24 flX12_41 (sB0 hW) rfl ?_
  refine a_iload_n hS dX12_decides_27 rfl ?_
  refine a_iconst hS dX12_decides_28 ?_
  refine a_iadd hS dX12_decides_29 ?_
  refine a_iald hS dX12_decides_30 (sB11 hW) ?_
  refine a_icmpge hS rfl rfl (tgt := 122) dX12_decides_31 (by decide) ?_ ?_
  · exact a_live (M := [true, true, true, true, false, false, false, false, false, false, false]) (k_Md_decides_122 hS hN hW   x1 x2 x3 σ) rfl
  · refine a_iload hS dX12_decides_34 rfl ?_
    refine a_ifeq hS rfl  (tgt := 122) dX12_decides_36 (by decide) ?_ ?_
    · exact a_live (M := [true, true, true, true, false, false, false, false, false, false, false]) (k_Md_decides_122 hS hN hW   x1 x2 x3 σ) rfl
    · refine a_aload_n hS dX12_decides_39 rfl ?_
      refine a_getR hS (j := 9) dX12_decides_40 flX12_35 (sB0 hW) rfl ?_
      refine a_iload hS dX12_decides_43 rfl ?_
      refine a_iald hS dX12_decides_45 (sB9 hW) ?_
      refine a_bipush hS dX12_decides_46 rfl ?_
      refine a_icmpeq hS rfl (wl (-9) rfl) (tgt := 55) dX12_decides_48 (by decide) ?_ ?_
      · refine a_iconst hS dX12_decides_55 ?_
        exact a_live (M := [true, true, true, true, false, true, false, false, false, false, false]) (k_Md_decides_56 hS hN hW  r21 hr21 x1 x2 x3 x5 0 σ) rfl
      · refine a_iconst hS dX12_decides_51 ?_
        refine a_goto hS (tgt := 56) dX12_decides_52 (by decide) ?_
        exact a_live (M := [true, true, true, true, false, true, false, false, false, false, false]) (k_Md_decides_56 hS hN hW  r21 hr21 x1 x2 x3 x5 1 σ) rfl
set_option maxRecDepth 100000 in
set_option maxHeartbeats 4000000 in
theorem c_Md_decides {l : Launch} {w : Wd} (hW : shp w = ShB) (a0 : Int) (σ : Mem)  : Ctr l w yX12_decides cX12_decides 11 none (rmN 3 73) 0 [rf w 0, iv a0] σ (Md_decides a0 σ) := by
  refine met_of (own := RX12) (by decide) rfl rfl rfl (Nat.le_of_ble_eq_true rfl) (fun X x hXl hN hS => ⟨[some (rf w 0), some (iv a0), none, none, none, none, none, none, none, none, none], ⟨9, rfl⟩, ?_⟩)
  subst hXl
  unfold Md_decides
  refine a_aload_n hS dX12_decides_0 rfl ?_
  refine a_getR hS (j := 13) dX12_decides_1 flX12_47 (sB0 hW) rfl ?_
  refine a_iload_n hS dX12_decides_4 rfl ?_
  refine a_iald hS dX12_decides_5 (sB13 hW) ?_
  refine a_istore_n hS (L' := [some (rf w 0), some (iv a0), some (iv (σ 13 (wr a0).toNat)), none, none, none, none, none, none, none, none]) dX12_decides_6 hN (Nat.le_of_ble_eq_true rfl) rfl rfl ?_
  refine a_bipush hS dX12_decides_7 rfl ?_
  refine a_istore_n hS (L' := [some (rf w 0), some (iv a0), some (iv (σ 13 (wr a0).toNat)), some (iv (-9)), none, none, none, none, none, none, none]) dX12_decides_9 hN (Nat.le_of_ble_eq_true rfl) rfl rfl ?_
  refine a_iconst hS dX12_decides_10 ?_
  refine a_istore hS (L' := [some (rf w 0), some (iv a0), some (iv (σ 13 (wr a0).toNat)), some (iv (-9)), some (iv 1), none, none, none, none, none, none]) dX12_decides_11 hN (Nat.le_of_ble_eq_true rfl) rfl rfl ?_
  refine a_aload_n hS dX12_decides_13 rfl ?_
  refine a_getR hS (j := 11) dX12_decides_14 flX12_41 (sB0 hW) rfl ?_
  refine a_iload_n hS dX12_decides_17 rfl ?_
  refine a_iald hS dX12_decides_18 (sB11 hW) ?_
  refine a_istore hS (L' := [some (rf w 0), some (iv a0), some (iv (σ 13 (wr a0).toNat)), some (iv (-9)), some (iv 1), some (iv (σ 11 (wr a0).toNat)), none, none, none, none, none]) dX12_decides_19 hN (Nat.le_of_ble_eq_true rfl) rfl rfl ?_
  exact k_Md_decides_21 hS hN hW   100000 a0 (σ 13 (wr a0).toNat) (-9) 1 (σ 11 (wr a0).toNat) σ
