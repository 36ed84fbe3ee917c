noncomputable def Tok_load_14b   (r14 : Int → Int → Mem → Option (Int × Mem)) (x2 : Int) (x3 : Int) (σ : Mem) : Option (Int × Mem) := if wr x3 < 32 then ((Lin_byteOf x2 x3 σ).bind fun q3 => (Row_set 302 x3 q3.1 q3.2).bind fun q4 => r14 x2 (x3 + 1) q4.2) else (some (0, σ))
noncomputable def Tok_load_14   (n : Nat) : Int → Int → Mem → Option (Int × Mem) := fixN (fun _ _ _ => none) (Tok_load_14b  ) n
noncomputable def Tok_load (a0 : Int) (σ : Mem) : Option (Int × Mem) := (Row_get 5 a0 σ).bind fun q1 => letM (upM q1.2 289 8 q1.1) fun s2 => Tok_load_14 100000 a0 0 s2
set_option maxRecDepth 100000 in
set_option maxHeartbeats 4000000 in
theorem k_Tok_load_14 {X : Cx} {w : Wd} {x : Int × Mem} (hS : Std X (rmN 2 43) w cX9_load RX9 none) (hN : cxn X = 4) (hW : shp w = ShA)   : ∀ (n : Nat) (x2 : Int) (x3 : Int) (σ : Mem), Sm X (rmN 2 43) w 0 x 14 [some (rf w 289), some (rf w 2), some (iv x2), some (iv x3)] [] σ (Tok_load_14   n x2 x3 σ) := by
  refine fix_ok (P := fun (r14 : Int → Int → Mem → Option (Int × Mem)) => ∀ (x2 : Int) (x3 : Int) (σ : Mem), Sm X (rmN 2 43) w 0 x 14 [some (rf w 289), some (rf w 2), some (iv x2), some (iv x3)] [] σ (r14 x2 x3 σ)) (fun _ _ _ => a_none) (fun r14 hr14 => ?_)
  intro x2 x3 σ
  unfold Tok_load_14b
  refine a_iload_n hS dX9_load_14 rfl ?_
  refine a_bipush hS dX9_load_15 rfl ?_
  refine a_icmpge hS rfl (wl 32 rfl) (tgt := 40) dX9_load_17 (by decide) ?_ ?_
  · exact a_vret hS rfl rfl dX9_load_40
  · refine a_aload_n hS dX9_load_20 rfl ?_
    refine a_getR hS (j := 302) dX9_load_21 flX9_39 (sA289 hW) rfl ?_
    refine a_iload_n hS dX9_load_24 rfl ?_
    refine a_aload_n hS dX9_load_25 rfl ?_
    refine a_iload_n hS dX9_load_26 rfl ?_
    refine a_iload_n hS dX9_load_27 rfl ?_
    refine a_callVi hS (rst := [iv x3, rf w 302]) (c_Lin_byteOf hW x2 x3 σ ) miX3_byteOf mlX9_68 (sA2 hW) rfl rfl (Nat.le_of_ble_eq_true rfl) (Nat.le_of_ble_eq_true rfl) (Nat.le_of_ble_eq_true rfl) rfl dX9_load_28 (fun q3 => ?_)
    refine a_callVv hS (rst := []) (c_Row_set hW 302 x3 q3.1 q3.2 iRow302) miX5_set mlX9_52 (sA302 hW) rfl rfl (Nat.le_of_ble_eq_true rfl) (Nat.le_of_ble_eq_true rfl) (Nat.le_of_ble_eq_true rfl) rfl dX9_load_31 (fun q4 => ?_)
    refine a_iinc hS (L' := [some (rf w 289), some (rf w 2), some (iv x2), some (iv (x3 + 1))]) dX9_load_34 rfl hN (Nat.le_of_ble_eq_true rfl) rfl rfl ?_
    refine a_goto hS (tgt := 14) dX9_load_37 (by decide) ?_
    exact hr14 x2 (x3 + 1) q4.2
set_option maxRecDepth 100000 in
set_option maxHeartbeats 4000000 in
theorem c_Tok_load {l : Launch} {w : Wd} (hW : shp w = ShA) (a0 : Int) (σ : Mem)  : Ctr l w yX9_load cX9_load 4 none (rmN 2 43) 0 [rf w 289, rf w 2, iv a0] σ (Tok_load a0 σ) := by
  refine met_of (own := RX9) (by decide) rfl rfl rfl (Nat.le_of_ble_eq_true rfl) (fun X x hXl hN hS => ⟨[some (rf w 289), some (rf w 2), some (iv a0), none], ⟨1, rfl⟩, ?_⟩)
  subst hXl
  unfold Tok_load
  refine a_aload_n hS dX9_load_0 rfl ?_
  refine a_aload_n hS dX9_load_1 rfl ?_
  refine a_getR hS (j := 5) dX9_load_2 flX9_67 (sA2 hW) rfl ?_
  refine a_iload_n hS dX9_load_5 rfl ?_
  refine a_callVi hS (rst := [rf w 289]) (c_Row_get hW 5 a0 σ iRow5) miX5_get mlX9_63 (sA5 hW) rfl rfl (Nat.le_of_ble_eq_true rfl) (Nat.le_of_ble_eq_true rfl) (Nat.le_of_ble_eq_true rfl) rfl dX9_load_6 (fun q1 => ?_)
  refine a_putI hS dX9_load_9 plX9_42 (sA289 hW) rfl ?_
  refine a_letM (fun s2 => ?_)
  refine a_iconst hS dX9_load_12 ?_
  refine a_istore_n hS (L' := [some (rf w 289), some (rf w 2), some (iv a0), some (iv 0)]) dX9_load_13 hN (Nat.le_of_ble_eq_true rfl) rfl rfl ?_
  exact k_Tok_load_14 hS hN hW   100000 a0 0 s2
noncomputable def Tok_threeQuotesAt (a0 : Int) (σ : Mem) : Option (Int × Mem) := (Row_get 302 a0 σ).bind fun q1 => if wr q1.1 = 34 then ((Row_get 302 (a0 + 1) q1.2).bind fun q2 => if wr q2.1 = 34 then ((Row_get 302 (a0 + 2) q2.2).bind fun q3 => if wr q3.1 = 34 then (some (1, q3.2)) else (some (0, q3.2))) else (some (0, q2.2))) else (some (0, q1.2))
set_option maxRecDepth 100000 in
set_option maxHeartbeats 4000000 in
theorem c_Tok_threeQuotesAt {l : Launch} {w : Wd} (hW : shp w = ShA) (a0 : Int) (σ : Mem)  : Ctr l w yX9_threeQuotesAt cX9_threeQuotesAt 2 (some .boolean) (rmN 1 21) 1 [rf w 289, iv a0] σ (Tok_threeQuotesAt a0 σ) := by
  refine met_of (own := RX9) (by decide) rfl rfl rfl (Nat.le_of_ble_eq_true rfl) (fun X x hXl hN hS => ⟨[some (rf w 289), some (iv a0)], ⟨0, rfl⟩, ?_⟩)
  subst hXl
  unfold Tok_threeQuotesAt
  refine a_aload_n hS dX9_threeQuotesAt_0 rfl ?_
  refine a_getR hS (j := 302) dX9_threeQuotesAt_1 flX9_39 (sA289 hW) rfl ?_
  refine a_iload_n hS dX9_threeQuotesAt_4 rfl ?_
  refine a_callVi hS (rst := []) (c_Row_get hW 302 a0 σ iRow302) miX5_get mlX9_63 (sA302 hW) rfl rfl (Nat.le_of_ble_eq_true rfl) (Nat.le_of_ble_eq_true rfl) (Nat.le_of_ble_eq_true rfl) rfl dX9_threeQuotesAt_5 (fun q1 => ?_)
  refine a_bipush hS dX9_threeQuotesAt_8 rfl ?_
  refine a_icmpne hS rfl (wl 34 rfl) (tgt := 47) dX9_threeQuotesAt_10 (by decide) ?_ ?_
  · refine a_iconst hS dX9_threeQuotesAt_47 ?_
    exact a_zret hS (by decide) rfl rfl dX9_threeQuotesAt_48
  · refine a_aload_n hS dX9_threeQuotesAt_13 rfl ?_
    refine a_getR hS (j := 302) dX9_threeQuotesAt_14 flX9_39 (sA289 hW) rfl ?_
    refine a_iload_n hS dX9_threeQuotesAt_17 rfl ?_
    refine a_iconst hS dX9_threeQuotesAt_18 ?_
    refine a_iadd hS dX9_threeQuotesAt_19 ?_
    refine a_callVi hS (rst := []) (c_Row_get hW 302 (a0 + 1) q1.2 iRow302) miX5_get mlX9_63 (sA302 hW) rfl rfl (Nat.le_of_ble_eq_true rfl) (Nat.le_of_ble_eq_true rfl) (Nat.le_of_ble_eq_true rfl) rfl dX9_threeQuotesAt_20 (fun q2 => ?_)
    refine a_bipush hS dX9_threeQuotesAt_23 rfl ?_
    refine a_icmpne hS rfl (wl 34 rfl) (tgt := 47) dX9_threeQuotesAt_25 (by decide) ?_ ?_
    · refine a_iconst hS dX9_threeQuotesAt_47 ?_
      exact a_zret hS (by decide) rfl rfl dX9_threeQuotesAt_48
    · refine a_aload_n hS dX9_threeQuotesAt_28 rfl ?_
      refine a_getR hS (j := 302) dX9_threeQuotesAt_29 flX9_39 (sA289 hW) rfl ?_
      refine a_iload_n hS dX9_threeQuotesAt_32 rfl ?_
      refine a_iconst hS dX9_threeQuotesAt_33 ?_
      refine a_iadd hS dX9_threeQuotesAt_34 ?_
      refine a_callVi hS (rst := []) (c_Row_get hW 302 (a0 + 2) q2.2 iRow302) miX5_get mlX9_63 (sA302 hW) rfl rfl (Nat.le_of_ble_eq_true rfl) (Nat.le_of_ble_eq_true rfl) (Nat.le_of_ble_eq_true rfl) rfl dX9_threeQuotesAt_35 (fun q3 => ?_)
      refine a_bipush hS dX9_threeQuotesAt_38 rfl ?_
      refine a_icmpne hS rfl (wl 34 rfl) (tgt := 47) dX9_threeQuotesAt_40 (by decide) ?_ ?_
      · refine a_iconst hS dX9_threeQuotesAt_47 ?_
        exact a_zret hS (by decide) rfl rfl dX9_threeQuotesAt_48
      · refine a_iconst hS dX9_threeQuotesAt_43 ?_
        refine a_goto hS (tgt := 48) dX9_threeQuotesAt_44 (by decide) ?_
        exact a_zret hS (by decide) rfl rfl dX9_threeQuotesAt_48
noncomputable def Tok_literalEnd_2b   (r2 : Int → Mem → Option (Int × Mem)) (x2 : Int) (σ : Mem) : Option (Int × Mem) := if wr x2 < wr (σ 289 8) then ((Tok_threeQuotesAt x2 σ).bind fun q2 => if wr q2.1 = 0 then (r2 (x2 + 1) q2.2) else (letM (upM q2.2 289 9 0) fun s3 => some ((x2 + 3), s3))) else (letM (upM σ 289 9 1) fun s1 => some ((s1 289 8), s1))
noncomputable def Tok_literalEnd_2   (n : Nat) : Int → Mem → Option (Int × Mem) := fixN (fun _ _ => none) (Tok_literalEnd_2b  ) n
noncomputable def Tok_literalEnd (a0 : Int) (σ : Mem) : Option (Int × Mem) := Tok_literalEnd_2 100000 a0 σ
set_option maxRecDepth 100000 in
set_option maxHeartbeats 4000000 in
theorem k_Tok_literalEnd_2 {X : Cx} {w : Wd} {x : Int × Mem} (hS : Std X (rmN 2 42) w cX9_literalEnd RX9 (some .int)) (hN : cxn X = 3) (hW : shp w = ShA)   : ∀ (n : Nat) (x2 : Int) (σ : Mem), Sm X (rmN 2 42) w 1 x 2 [some (rf w 289), none, some (iv x2)] [] σ (Tok_literalEnd_2   n x2 σ) := by
  refine fix_ok (P := fun (r2 : Int → Mem → Option (Int × Mem)) => ∀ (x2 : Int) (σ : Mem), Sm X (rmN 2 42) w 1 x 2 [some (rf w 289), none, some (iv x2)] [] σ (r2 x2 σ)) (fun _ _ => a_none) (fun r2 hr2 => ?_)
  intro x2 σ
  unfold Tok_literalEnd_2b
  refine a_iload_n hS dX9_literalEnd_2 rfl ?_
  refine a_aload_n hS dX9_literalEnd_3 rfl ?_
  refine a_getI hS dX9_literalEnd_4 flX9_42 (sA289 hW) rfl ?_
  refine a_icmpge hS rfl rfl (tgt := 33) dX9_literalEnd_7 (by decide) ?_ ?_
  · refine a_aload_n hS dX9_literalEnd_33 rfl ?_
    refine a_iconst hS dX9_literalEnd_34 ?_
    refine a_putZ hS dX9_literalEnd_35 plX9_45 (sA289 hW) rfl (by decide) ?_
    refine a_letM (fun s1 => ?_)
    refine a_aload_n hS dX9_literalEnd_38 rfl ?_
    refine a_getI hS dX9_literalEnd_39 flX9_42 (sA289 hW) rfl ?_
    exact a_iret hS rfl rfl dX9_literalEnd_42
  · refine a_aload_n hS dX9_literalEnd_10 rfl ?_
    refine a_iload_n hS dX9_literalEnd_11 rfl ?_
    refine a_callVi hS (rst := []) (c_Tok_threeQuotesAt hW x2 σ ) miX9_threeQuotesAt mlX9_75 (sA289 hW) rfl rfl (Nat.le_of_ble_eq_true rfl) (Nat.le_of_ble_eq_true rfl) (Nat.le_of_ble_eq_true rfl) rfl dX9_literalEnd_12 (fun q2 => ?_)
    refine a_ifeq hS rfl  (tgt := 27) dX9_literalEnd_15 (by decide) ?_ ?_
    · refine a_iinc hS (L' := [some (rf w 289), none, some (iv (x2 + 1))]) dX9_literalEnd_27 rfl hN (Nat.le_of_ble_eq_true rfl) rfl rfl ?_
      refine a_goto hS (tgt := 2) dX9_literalEnd_30 (by decide) ?_
      exact hr2 (x2 + 1) q2.2
    · refine a_aload_n hS dX9_literalEnd_18 rfl ?_
      refine a_iconst hS dX9_literalEnd_19 ?_
      refine a_putZ hS dX9_literalEnd_20 plX9_45 (sA289 hW) rfl (by decide) ?_
      refine a_letM (fun s3 => ?_)
      refine a_iload_n hS dX9_literalEnd_23 rfl ?_
      refine a_iconst hS dX9_literalEnd_24 ?_
      refine a_iadd hS dX9_literalEnd_25 ?_
      exact a_iret hS rfl rfl dX9_literalEnd_26
set_option maxRecDepth 100000 in
set_option maxHeartbeats 4000000 in
theorem c_Tok_literalEnd {l : Launch} {w : Wd} (hW : shp w = ShA) (a0 : Int) (σ : Mem)  : Ctr l w yX9_literalEnd cX9_literalEnd 3 (some .int) (rmN 2 42) 1 [rf w 289, iv a0] σ (Tok_literalEnd a0 σ) := by
  refine met_of (own := RX9) (by decide) rfl rfl rfl (Nat.le_of_ble_eq_true rfl) (fun X x hXl hN hS => ⟨[some (rf w 289), some (iv a0), none], ⟨1, rfl⟩, ?_⟩)
  subst hXl
  unfold Tok_literalEnd
  refine a_iload_n hS dX9_literalEnd_0 rfl ?_
  refine a_istore_n hS (L' := [some (rf w 289), some (iv a0), some (iv a0)]) dX9_literalEnd_1 hN (Nat.le_of_ble_eq_true rfl) rfl rfl ?_
  exact a_live (M := [true, false, true]) (k_Tok_literalEnd_2 hS hN hW   100000 a0 σ) rfl
noncomputable def Tok_stringEnd_2b   (r2 : Int → Mem → Option (Int × Mem)) (x2 : Int) (σ : Mem) : Option (Int × Mem) := if wr x2 < wr (σ 289 8) then ((Row_get 302 x2 σ).bind fun q1 => if wr q1.1 = 34 then (some ((x2 + 1), q1.2)) else ((Row_get 302 x2 q1.2).bind fun q2 => if wr q2.1 = 92 then (r2 ((x2 + 1) + 1) q2.2) else (r2 (x2 + 1) q2.2))) else (some ((σ 289 8), σ))
noncomputable def Tok_stringEnd_2   (n : Nat) : Int → Mem → Option (Int × Mem) := fixN (fun _ _ => none) (Tok_stringEnd_2b  ) n
noncomputable def Tok_stringEnd (a0 : Int) (σ : Mem) : Option (Int × Mem) := Tok_stringEnd_2 100000 a0 σ
set_option maxRecDepth 100000 in
set_option maxHeartbeats 4000000 in
theorem k_Tok_stringEnd_2 {X : Cx} {w : Wd} {x : Int × Mem} (hS : Std X (rmN 1 21) w cX9_stringEnd RX9 (some .int)) (hN : cxn X = 3) (hW : shp w = ShA)   : ∀ (n : Nat) (x2 : Int) (σ : Mem), Sm X (rmN 1 21) w 1 x 2 [some (rf w 289), none, some (iv x2)] [] σ (Tok_stringEnd_2   n x2 σ) := by
  refine fix_ok (P := fun (r2 : Int → Mem → Option (Int × Mem)) => ∀ (x2 : Int) (σ : Mem), Sm X (rmN 1 21) w 1 x 2 [some (rf w 289), none, some (iv x2)] [] σ (r2 x2 σ)) (fun _ _ => a_none) (fun r2 hr2 => ?_)
  intro x2 σ
  unfold Tok_stringEnd_2b
  refine a_iload_n hS dX9_stringEnd_2 rfl ?_
  refine a_aload_n hS dX9_stringEnd_3 rfl ?_
  refine a_getI hS dX9_stringEnd_4 flX9_42 (sA289 hW) rfl ?_
  refine a_icmpge hS rfl rfl (tgt := 49) dX9_stringEnd_7 (by decide) ?_ ?_
  · refine a_aload_n hS dX9_stringEnd_49 rfl ?_
    refine a_getI hS dX9_stringEnd_50 flX9_42 (sA289 hW) rfl ?_
    exact a_iret hS rfl rfl dX9_stringEnd_53
  · refine a_aload_n hS dX9_stringEnd_10 rfl ?_
    refine a_getR hS (j := 302) dX9_stringEnd_11 flX9_39 (sA289 hW) rfl ?_
    refine a_iload_n hS dX9_stringEnd_14 rfl ?_
    refine a_callVi hS (rst := []) (c_Row_get hW 302 x2 σ iRow302) miX5_get mlX9_63 (sA302 hW) rfl rfl (Nat.le_of_ble_eq_true rfl) (Nat.le_of_ble_eq_true rfl) (Nat.le_of_ble_eq_true rfl) rfl dX9_stringEnd_15 (fun q1 => ?_)
    refine a_bipush hS dX9_stringEnd_18 rfl ?_
    refine a_icmpne hS rfl (wl 34 rfl) (tgt := 27) dX9_stringEnd_20 (by decide) ?_ ?_
    · refine a_aload_n hS dX9_stringEnd_27 rfl ?_
      refine a_getR hS (j := 302) dX9_stringEnd_28 flX9_39 (sA289 hW) rfl ?_
      refine a_iload_n hS dX9_stringEnd_31 rfl ?_
      refine a_callVi hS (rst := []) (c_Row_get hW 302 x2 q1.2 iRow302) miX5_get mlX9_63 (sA302 hW) rfl rfl (Nat.le_of_ble_eq_true rfl) (Nat.le_of_ble_eq_true rfl) (Nat.le_of_ble_eq_true rfl) rfl dX9_stringEnd_32 (fun q2 => ?_)
      refine a_bipush hS dX9_stringEnd_35 rfl ?_
      refine a_icmpne hS rfl (wl 92 rfl) (tgt := 43) dX9_stringEnd_37 (by decide) ?_ ?_
      · refine a_iinc hS (L' := [some (rf w 289), none, some (iv (x2 + 1))]) dX9_stringEnd_43 rfl hN (Nat.le_of_ble_eq_true rfl) rfl rfl ?_
        refine a_goto hS (tgt := 2) dX9_stringEnd_46 (by decide) ?_
        exact hr2 (x2 + 1) q2.2
      · refine a_iinc hS (L' := [some (rf w 289), none, some (iv (x2 + 1))]) dX9_stringEnd_40 rfl hN (Nat.le_of_ble_eq_true rfl) rfl rfl ?_
        refine a_iinc hS (L' := [some (rf w 289), none, some (iv ((x2 + 1) + 1))]) dX9_stringEnd_43 rfl hN (Nat.le_of_ble_eq_true rfl) rfl rfl ?_
        refine a_goto hS (tgt := 2) dX9_stringEnd_46 (by decide) ?_
        exact hr2 ((x2 + 1) + 1) q2.2
    · refine a_iload_n hS dX9_stringEnd_23 rfl ?_
      refine a_iconst hS dX9_stringEnd_24 ?_
      refine a_iadd hS dX9_stringEnd_25 ?_
      exact a_iret hS rfl rfl dX9_stringEnd_26
set_option maxRecDepth 100000 in
set_option maxHeartbeats 4000000 in
theorem c_Tok_stringEnd {l : Launch} {w : Wd} (hW : shp w = ShA) (a0 : Int) (σ : Mem)  : Ctr l w yX9_stringEnd cX9_stringEnd 3 (some .int) (rmN 1 21) 1 [rf w 289, iv a0] σ (Tok_stringEnd a0 σ) := by
  refine met_of (own := RX9) (by decide) rfl rfl rfl (Nat.le_of_ble_eq_true rfl) (fun X x hXl hN hS => ⟨[some (rf w 289), some (iv a0), none], ⟨1, rfl⟩, ?_⟩)
  subst hXl
  unfold Tok_stringEnd
  refine a_iload_n hS dX9_stringEnd_0 rfl ?_
  refine a_istore_n hS (L' := [some (rf w 289), some (iv a0), some (iv a0)]) dX9_stringEnd_1 hN (Nat.le_of_ble_eq_true rfl) rfl rfl ?_
  exact a_live (M := [true, false, true]) (k_Tok_stringEnd_2 hS hN hW   100000 a0 σ) rfl
noncomputable def Tok_add (a0 : Int) (a1 : Int) (a2 : Int) (a3 : Int) (σ : Mem) : Option (Int × Mem) := if wr (σ 289 0) < 640 then ((Row_set 290 (σ 289 0) a0 σ).bind fun q1 => (Row_set 292 (q1.2 289 0) a1 q1.2).bind fun q2 => (Row_set 294 (q2.2 289 0) (a2 - a1) q2.2).bind fun q3 => (Row_set 296 (q3.2 289 0) a3 q3.2).bind fun q4 => letM (upM q4.2 289 0 ((q4.2 289 0) + 1)) fun s5 => some (0, s5)) else (some (0, σ))
set_option maxRecDepth 100000 in
set_option maxHeartbeats 4000000 in
theorem c_Tok_add {l : Launch} {w : Wd} (hW : shp w = ShA) (a0 : Int) (a1 : Int) (a2 : Int) (a3 : Int) (σ : Mem)  : Ctr l w yX9_add cX9_add 5 none (rmN 1 22) 0 [rf w 289, iv a0, iv a1, iv a2, iv a3] σ (Tok_add a0 a1 a2 a3 σ) := by
  refine met_of (own := RX9) (by decide) rfl rfl rfl (Nat.le_of_ble_eq_true rfl) (fun X x hXl hN hS => ⟨[some (rf w 289), some (iv a0), some (iv a1), some (iv a2), some (iv a3)], ⟨0, rfl⟩, ?_⟩)
  subst hXl
  unfold Tok_add
  refine a_aload_n hS dX9_add_0 rfl ?_
  refine a_getI hS dX9_add_1 flX9_9 (sA289 hW) rfl ?_
  refine a_sipush hS dX9_add_4 rfl ?_
  refine a_icmpge hS rfl (wl 640 rfl) (tgt := 71) dX9_add_7 (by decide) ?_ ?_
  · exact a_vret hS rfl rfl dX9_add_71
  · refine a_aload_n hS dX9_add_10 rfl ?_
    refine a_getR hS (j := 290) dX9_add_11 flX9_20 (sA289 hW) rfl ?_
    refine a_aload_n hS dX9_add_14 rfl ?_
    refine a_getI hS dX9_add_15 flX9_9 (sA289 hW) rfl ?_
    refine a_iload_n hS dX9_add_18 rfl ?_
    refine a_callVv hS (rst := []) (c_Row_set hW 290 (σ 289 0) a0 σ iRow290) miX5_set mlX9_52 (sA290 hW) rfl rfl (Nat.le_of_ble_eq_true rfl) (Nat.le_of_ble_eq_true rfl) (Nat.le_of_ble_eq_true rfl) rfl dX9_add_19 (fun q1 => ?_)
    refine a_aload_n hS dX9_add_22 rfl ?_
    refine a_getR hS (j := 292) dX9_add_23 flX9_24 (sA289 hW) rfl ?_
    refine a_aload_n hS dX9_add_26 rfl ?_
    refine a_getI hS dX9_add_27 flX9_9 (sA289 hW) rfl ?_
    refine a_iload_n hS dX9_add_30 rfl ?_
    refine a_callVv hS (rst := []) (c_Row_set hW 292 (q1.2 289 0) a1 q1.2 iRow292) miX5_set mlX9_52 (sA292 hW) rfl rfl (Nat.le_of_ble_eq_true rfl) (Nat.le_of_ble_eq_true rfl) (Nat.le_of_ble_eq_true rfl) rfl dX9_add_31 (fun q2 => ?_)
    refine a_aload_n hS dX9_add_34 rfl ?_
    refine a_getR hS (j := 294) dX9_add_35 flX9_27 (sA289 hW) rfl ?_
    refine a_aload_n hS dX9_add_38 rfl ?_
    refine a_getI hS dX9_add_39 flX9_9 (sA289 hW) rfl ?_
    refine a_iload_n hS dX9_add_42 rfl ?_
    refine a_iload_n hS dX9_add_43 rfl ?_
    refine a_isub hS dX9_add_44 ?_
    refine a_callVv hS (rst := []) (c_Row_set hW 294 (q2.2 289 0) (a2 - a1) q2.2 iRow294) miX5_set mlX9_52 (sA294 hW) rfl rfl (Nat.le_of_ble_eq_true rfl) (Nat.le_of_ble_eq_true rfl) (Nat.le_of_ble_eq_true rfl) rfl dX9_add_45 (fun q3 => ?_)
    refine a_aload_n hS dX9_add_48 rfl ?_
    refine a_getR hS (j := 296) dX9_add_49 flX9_30 (sA289 hW) rfl ?_
    refine a_aload_n hS dX9_add_52 rfl ?_
    refine a_getI hS dX9_add_53 flX9_9 (sA289 hW) rfl ?_
    refine a_iload hS dX9_add_56 rfl ?_
    refine a_callVv hS (rst := []) (c_Row_set hW 296 (q3.2 289 0) a3 q3.2 iRow296) miX5_set mlX9_52 (sA296 hW) rfl rfl (Nat.le_of_ble_eq_true rfl) (Nat.le_of_ble_eq_true rfl) (Nat.le_of_ble_eq_true rfl) rfl dX9_add_58 (fun q4 => ?_)
    refine a_aload_n hS dX9_add_61 rfl ?_
    refine a_dup hS rfl dX9_add_62 ?_
    refine a_getI hS dX9_add_63 flX9_9 (sA289 hW) rfl ?_
    refine a_iconst hS dX9_add_66 ?_
    refine a_iadd hS dX9_add_67 ?_
    refine a_putI hS dX9_add_68 plX9_9 (sA289 hW) rfl ?_
    refine a_letM (fun s5 => ?_)
    exact a_vret hS rfl rfl dX9_add_71
noncomputable def Tok_wordEnd_2b   (r2 : Int → Mem → Option (Int × Mem)) (x2 : Int) (σ : Mem) : Option (Int × Mem) := if wr x2 < wr (σ 289 8) then ((Row_get 302 x2 σ).bind fun q1 => (Ai_isWordByte q1.1 q1.2).bind fun q2 => if wr q2.1 = 0 then (some (x2, q2.2)) else (r2 (x2 + 1) q2.2)) else (some (x2, σ))
noncomputable def Tok_wordEnd_2   (n : Nat) : Int → Mem → Option (Int × Mem) := fixN (fun _ _ => none) (Tok_wordEnd_2b  ) n
noncomputable def Tok_wordEnd (a0 : Int) (σ : Mem) : Option (Int × Mem) := Tok_wordEnd_2 100000 a0 σ
set_option maxRecDepth 100000 in
set_option maxHeartbeats 4000000 in
theorem k_Tok_wordEnd_2 {X : Cx} {w : Wd} {x : Int × Mem} (hS : Std X (rmN 2 42) w cX9_wordEnd RX9 (some .int)) (hN : cxn X = 3) (hW : shp w = ShA)   : ∀ (n : Nat) (x2 : Int) (σ : Mem), Sm X (rmN 2 42) w 1 x 2 [some (rf w 289), none, some (iv x2)] [] σ (Tok_wordEnd_2   n x2 σ) := by
  refine fix_ok (P := fun (r2 : Int → Mem → Option (Int × Mem)) => ∀ (x2 : Int) (σ : Mem), Sm X (rmN 2 42) w 1 x 2 [some (rf w 289), none, some (iv x2)] [] σ (r2 x2 σ)) (fun _ _ => a_none) (fun r2 hr2 => ?_)
  intro x2 σ
  unfold Tok_wordEnd_2b
  refine a_iload_n hS dX9_wordEnd_2 rfl ?_
  refine a_aload_n hS dX9_wordEnd_3 rfl ?_
  refine a_getI hS dX9_wordEnd_4 flX9_42 (sA289 hW) rfl ?_
  refine a_icmpge hS rfl rfl (tgt := 30) dX9_wordEnd_7 (by decide) ?_ ?_
  · refine a_iload_n hS dX9_wordEnd_30 rfl ?_
    exact a_iret hS rfl rfl dX9_wordEnd_31
  · refine a_aload_n hS dX9_wordEnd_10 rfl ?_
    refine a_getR hS (j := 302) dX9_wordEnd_11 flX9_39 (sA289 hW) rfl ?_
    refine a_iload_n hS dX9_wordEnd_14 rfl ?_
    refine a_callVi hS (rst := []) (c_Row_get hW 302 x2 σ iRow302) miX5_get mlX9_63 (sA302 hW) rfl rfl (Nat.le_of_ble_eq_true rfl) (Nat.le_of_ble_eq_true rfl) (Nat.le_of_ble_eq_true rfl) rfl dX9_wordEnd_15 (fun q1 => ?_)
    refine a_callSNi hS (rst := []) (c_Ai_isWordByte hW q1.1 q1.2 ) msX11_isWordByte nwX9_86 rfl (Nat.le_of_ble_eq_true rfl) (Nat.le_of_ble_eq_true rfl) (Nat.le_of_ble_eq_true rfl) rfl dX9_wordEnd_18 (fun q2 => ?_)
    refine a_ifeq hS rfl  (tgt := 30) dX9_wordEnd_21 (by decide) ?_ ?_
    · refine a_iload_n hS dX9_wordEnd_30 rfl ?_
      exact a_iret hS rfl rfl dX9_wordEnd_31
    · refine a_iinc hS (L' := [some (rf w 289), none, some (iv (x2 + 1))]) dX9_wordEnd_24 rfl hN (Nat.le_of_ble_eq_true rfl) rfl rfl ?_
      refine a_goto hS (tgt := 2) dX9_wordEnd_27 (by decide) ?_
      exact hr2 (x2 + 1) q2.2
set_option maxRecDepth 100000 in
set_option maxHeartbeats 4000000 in
theorem c_Tok_wordEnd {l : Launch} {w : Wd} (hW : shp w = ShA) (a0 : Int) (σ : Mem)  : Ctr l w yX9_wordEnd cX9_wordEnd 3 (some .int) (rmN 2 42) 1 [rf w 289, iv a0] σ (Tok_wordEnd a0 σ) := by
  refine met_of (own := RX9) (by decide) rfl rfl rfl (Nat.le_of_ble_eq_true rfl) (fun X x hXl hN hS => ⟨[some (rf w 289), some (iv a0), none], ⟨1, rfl⟩, ?_⟩)
  subst hXl
  unfold Tok_wordEnd
  refine a_iload_n hS dX9_wordEnd_0 rfl ?_
  refine a_istore_n hS (L' := [some (rf w 289), some (iv a0), some (iv a0)]) dX9_wordEnd_1 hN (Nat.le_of_ble_eq_true rfl) rfl rfl ?_
  exact a_live (M := [true, false, true]) (k_Tok_wordEnd_2 hS hN hW   100000 a0 σ) rfl
noncomputable def Tok_divideLine_109 (r47 : Int → Int → Int → Int → Mem → Option (Int × Mem))  (x1 : Int) (x2 : Int) (x4 : Int) (y0 : Int) (σ : Mem) : Option (Int × Mem) := (Tok_add x1 x4 y0 2 σ).bind fun q11 => r47 x1 x2 y0 (mmaxI (x4 + 1) y0) q11.2
noncomputable def Tok_divideLine_47b   (r47 : Int → Int → Int → Int → Mem → Option (Int × Mem)) (x1 : Int) (x2 : Int) (x3 : Int) (x4 : Int) (σ : Mem) : Option (Int × Mem) := if wr x4 < wr (σ 289 8) then ((Row_get 302 x4 σ).bind fun q3 => if wr q3.1 = wr x2 then (some (0, q3.2)) else (if wr q3.1 = 34 then ((Tok_threeQuotesAt x4 q3.2).bind fun q8 => if wr q8.1 = 0 then ((Tok_stringEnd (x4 + 1) q8.2).bind fun q9 => Tok_divideLine_109 r47 x1 x2 x4 q9.1 q9.2) else ((Tok_literalEnd (x4 + 3) q8.2).bind fun q10 => Tok_divideLine_109 r47 x1 x2 x4 q10.1 q10.2)) else ((Ai_isWordByte q3.1 q3.2).bind fun q4 => if wr q4.1 = 0 then (if wr q3.1 = 32 then (r47 x1 x2 x3 (mmaxI (x4 + 1) x3) q4.2) else ((Tok_add x1 x4 (x4 + 1) 1 q4.2).bind fun q5 => r47 x1 x2 x3 (mmaxI (x4 + 1) x3) q5.2)) else ((Tok_wordEnd x4 q4.2).bind fun q6 => (Tok_add x1 x4 q6.1 0 q6.2).bind fun q7 => r47 x1 x2 q6.1 (mmaxI (x4 + 1) q6.1) q7.2)))) else (some (0, σ))
noncomputable def Tok_divideLine_47   (n : Nat) : Int → Int → Int → Int → Mem → Option (Int × Mem) := fixN (fun _ _ _ _ _ => none) (Tok_divideLine_47b  ) n
noncomputable def Tok_divideLine_24   (x1 : Int) (x2 : Int) (y0 : Int) (y1 : Int) (σ : Mem) : Option (Int × Mem) := (Row_set 300 y1 y0 σ).bind fun q1 => if wr (q1.2 289 9) = 0 then (Tok_divideLine_47 100000 x1 x2 0 0 q1.2) else ((Tok_literalEnd 0 q1.2).bind fun q2 => Tok_divideLine_47 100000 x1 x2 q2.1 q2.1 q2.2)
noncomputable def Tok_divideLine (a0 : Int) (a1 : Int) (σ : Mem) : Option (Int × Mem) := if wr (σ 289 9) = 0 then (Tok_divideLine_24 a0 a1 0 a0 σ) else (if 0 < wr (σ 289 8) then (Tok_divideLine_24 a0 a1 1 a0 σ) else (Tok_divideLine_24 a0 a1 0 a0 σ))
set_option maxRecDepth 100000 in
set_option maxHeartbeats 4000000 in
theorem k_Tok_divideLine_109 {X : Cx} {w : Wd} {x : Int × Mem} (hS : Std X (rmN 3 64) w cX9_divideLine RX9 none) (hN : cxn X = 6) (hW : shp w = ShA)  (r47 : Int → Int → Int → Int → Mem → Option (Int × Mem)) (hr47 : ∀ (x1 : Int) (x2 : Int) (x3 : Int) (x4 : Int) (σ : Mem), Sm X (rmN 3 64) w 0 x 47 [some (rf w 289), some (iv x1), some (iv x2), some (iv x3), some (iv x4), none] [] σ (r47 x1 x2 x3 x4 σ)) : ∀ (x1 : Int) (x2 : Int) (x4 : Int) (y0 : Int) (σ : Mem), Sm X (rmN 3 64) w 0 x 109 [some (rf w 289), some (iv x1), some (iv x2), none, some (iv x4), none] [iv y0] σ (Tok_divideLine_109 r47  x1 x2 x4 y0 σ) := by
  intro x1 x2 x4 y0 σ
  unfold Tok_divideLine_109
  refine a_istore_n hS (L' := [some (rf w 289), some (iv x1), some (iv x2), some (iv y0), some (iv x4), none]) dX9_divideLine_109 hN (Nat.le_of_ble_eq_true rfl) rfl rfl ?_
  refine a_aload_n hS dX9_divideLine_110 rfl ?_
  refine a_iload_n hS dX9_divideLine_111 rfl ?_
  refine a_iload hS dX9_divideLine_112 rfl ?_
  refine a_iload_n hS dX9_divideLine_114 rfl ?_
  refine a_iconst hS dX9_divideLine_115 ?_
  refine a_callVv hS (rst := []) (c_Tok_add hW x1 x4 y0 2 σ ) miX9_add mlX9_82 (sA289 hW) rfl rfl (Nat.le_of_ble_eq_true rfl) (Nat.le_of_ble_eq_true rfl) (Nat.le_of_ble_eq_true rfl) rfl dX9_divideLine_116 (fun q11 => ?_)
  refine a_goto hS (tgt := 168) dX9_divideLine_119 (by decide) ?_
  refine a_iload hS dX9_divideLine_168 rfl ?_
  refine a_iconst hS dX9_divideLine_170 ?_
  refine a_iadd hS dX9_divideLine_171 ?_
  refine a_iload_n hS dX9_divideLine_172 rfl ?_
  refine a_mmax hS mlMX9_92 mmmax2 mm3 mmmax4 (Nat.le_of_ble_eq_true rfl) (Nat.le_of_ble_eq_true rfl) dX9_divideLine_173 ?_
  refine a_istore hS (L' := [some (rf w 289), some (iv x1), some (iv x2), some (iv y0), some (iv (mmaxI (x4 + 1) y0)), none]) dX9_divideLine_176 hN (Nat.le_of_ble_eq_true rfl) rfl rfl ?_
  refine a_goto hS (tgt := 47) dX9_divideLine_178 (by decide) ?_
  exact hr47 x1 x2 y0 (mmaxI (x4 + 1) y0) q11.2
set_option maxRecDepth 100000 in
set_option maxHeartbeats 4000000 in
theorem k_Tok_divideLine_47 {X : Cx} {w : Wd} {x : Int × Mem} (hS : Std X (rmN 3 64) w cX9_divideLine RX9 none) (hN : cxn X = 6) (hW : shp w = ShA)   : ∀ (n : Nat) (x1 : Int) (x2 : Int) (x3 : Int) (x4 : Int) (σ : Mem), Sm X (rmN 3 64) w 0 x 47 [some (rf w 289), some (iv x1), some (iv x2), some (iv x3), some (iv x4), none] [] σ (Tok_divideLine_47   n x1 x2 x3 x4 σ) := by
  refine fix_ok (P := fun (r47 : Int → Int → Int → Int → Mem → Option (Int × Mem)) => ∀ (x1 : Int) (x2 : Int) (x3 : Int) (x4 : Int) (σ : Mem), Sm X (rmN 3 64) w 0 x 47 [some (rf w 289), some (iv x1), some (iv x2), some (iv x3), some (iv x4), none] [] σ (r47 x1 x2 x3 x4 σ)) (fun _ _ _ _ _ => a_none) (fun r47 hr47 => ?_)
  intro x1 x2 x3 x4 σ
  unfold Tok_divideLine_47b
  refine a_iload hS dX9_divideLine_47 rfl ?_
  refine a_aload_n hS dX9_divideLine_49 rfl ?_
  refine a_getI hS dX9_divideLine_50 flX9_42 (sA289 hW) rfl ?_
  refine a_icmpge hS rfl rfl (tgt := 181) dX9_divideLine_53 (by decide) ?_ ?_
  · exact a_vret hS rfl rfl dX9_divideLine_181
  · refine a_aload_n hS dX9_divideLine_56 rfl ?_
    refine a_getR hS (j := 302) dX9_divideLine_57 flX9_39 (sA289 hW) rfl ?_
    refine a_iload hS dX9_divideLine_60 rfl ?_
    refine a_callVi hS (rst := []) (c_Row_get hW 302 x4 σ iRow302) miX5_get mlX9_63 (sA302 hW) rfl rfl (Nat.le_of_ble_eq_true rfl) (Nat.le_of_ble_eq_true rfl) (Nat.le_of_ble_eq_true rfl) rfl dX9_divideLine_62 (fun q3 => ?_)
    refine a_istore hS (L' := [some (rf w 289), some (iv x1), some (iv x2), some (iv x3), some (iv x4), some (iv q3.1)]) dX9_divideLine_65 hN (Nat.le_of_ble_eq_true rfl) rfl rfl ?_
    refine a_iload hS dX9_divideLine_67 rfl ?_
    refine a_iload_n hS dX9_divideLine_69 rfl ?_
    refine a_icmpne hS rfl rfl (tgt := 74) dX9_divideLine_70 (by decide) ?_ ?_
    · refine a_iload hS dX9_divideLine_74 rfl ?_
      refine a_bipush hS dX9_divideLine_76 rfl ?_
      refine a_icmpne hS rfl (wl 34 rfl) (tgt := 122) dX9_divideLine_78 (by decide) ?_ ?_
      · refine a_iload hS dX9_divideLine_122 rfl ?_
        refine a_callSNi hS (rst := []) (c_Ai_isWordByte hW q3.1 q3.2 ) msX11_isWordByte nwX9_86 rfl (Nat.le_of_ble_eq_true rfl) (Nat.le_of_ble_eq_true rfl) (Nat.le_of_ble_eq_true rfl) rfl dX9_divideLine_124 (fun q4 => ?_)
        refine a_ifeq hS rfl  (tgt := 149) dX9_divideLine_127 (by decide) ?_ ?_
        · refine a_iload hS dX9_divideLine_149 rfl ?_
          refine a_bipush hS dX9_divideLine_151 rfl ?_
          refine a_icmpeq hS rfl (wl 32 rfl) (tgt := 168) dX9_divideLine_153 (by decide) ?_ ?_
          · refine a_iload hS dX9_divideLine_168 rfl ?_
            refine a_iconst hS dX9_divideLine_170 ?_
            refine a_iadd hS dX9_divideLine_171 ?_
            refine a_iload_n hS dX9_divideLine_172 rfl ?_
            refine a_mmax hS mlMX9_92 mmmax2 mm3 mmmax4 (Nat.le_of_ble_eq_true rfl) (Nat.le_of_ble_eq_true rfl) dX9_divideLine_173 ?_
            refine a_istore hS (L' := [some (rf w 289), some (iv x1), some (iv x2), some (iv x3), some (iv (mmaxI (x4 + 1) x3)), some (iv q3.1)]) dX9_divideLine_176 hN (Nat.le_of_ble_eq_true rfl) rfl rfl ?_
            refine a_goto hS (tgt := 47) dX9_divideLine_178 (by decide) ?_
            exact a_live (M := [true, true, true, true, true, false]) (hr47 x1 x2 x3 (mmaxI (x4 + 1) x3) q4.2) rfl
          · refine a_aload_n hS dX9_divideLine_156 rfl ?_
            refine a_iload_n hS dX9_divideLine_157 rfl ?_
            refine a_iload hS dX9_divideLine_158 rfl ?_
            refine a_iload hS dX9_divideLine_160 rfl ?_
            refine a_iconst hS dX9_divideLine_162 ?_
            refine a_iadd hS dX9_divideLine_163 ?_
            refine a_iconst hS dX9_divideLine_164 ?_
            refine a_callVv hS (rst := []) (c_Tok_add hW x1 x4 (x4 + 1) 1 q4.2 ) miX9_add mlX9_82 (sA289 hW) rfl rfl (Nat.le_of_ble_eq_true rfl) (Nat.le_of_ble_eq_true rfl) (Nat.le_of_ble_eq_true rfl) rfl dX9_divideLine_165 (fun q5 => ?_)
            refine a_iload hS dX9_divideLine_168 rfl ?_
            refine a_iconst hS dX9_divideLine_170 ?_
            refine a_iadd hS dX9_divideLine_171 ?_
            refine a_iload_n hS dX9_divideLine_172 rfl ?_
            refine a_mmax hS mlMX9_92 mmmax2 mm3 mmmax4 (Nat.le_of_ble_eq_true rfl) (Nat.le_of_ble_eq_true rfl) dX9_divideLine_173 ?_
            refine a_istore hS (L' := [some (rf w 289), some (iv x1), some (iv x2), some (iv x3), some (iv (mmaxI (x4 + 1) x3)), some (iv q3.1)]) dX9_divideLine_176 hN (Nat.le_of_ble_eq_true rfl) rfl rfl ?_
            refine a_goto hS (tgt := 47) dX9_divideLine_178 (by decide) ?_
            exact a_live (M := [true, true, true, true, true, false]) (hr47 x1 x2 x3 (mmaxI (x4 + 1) x3) q5.2) rfl
        · refine a_aload_n hS dX9_divideLine_130 rfl ?_
          refine a_iload hS dX9_divideLine_131 rfl ?_
          refine a_callVi hS (rst := []) (c_Tok_wordEnd hW x4 q4.2 ) miX9_wordEnd mlX9_89 (sA289 hW) rfl rfl (Nat.le_of_ble_eq_true rfl) (Nat.le_of_ble_eq_true rfl) (Nat.le_of_ble_eq_true rfl) rfl dX9_divideLine_133 (fun q6 => ?_)
          refine a_istore_n hS (L' := [some (rf w 289), some (iv x1), some (iv x2), some (iv q6.1), some (iv x4), some (iv q3.1)]) dX9_divideLine_136 hN (Nat.le_of_ble_eq_true rfl) rfl rfl ?_
          refine a_aload_n hS dX9_divideLine_137 rfl ?_
          refine a_iload_n hS dX9_divideLine_138 rfl ?_
          refine a_iload hS dX9_divideLine_139 rfl ?_
          refine a_iload_n hS dX9_divideLine_141 rfl ?_
          refine a_iconst hS dX9_divideLine_142 ?_
          refine a_callVv hS (rst := []) (c_Tok_add hW x1 x4 q6.1 0 q6.2 ) miX9_add mlX9_82 (sA289 hW) rfl rfl (Nat.le_of_ble_eq_true rfl) (Nat.le_of_ble_eq_true rfl) (Nat.le_of_ble_eq_true rfl) rfl dX9_divideLine_143 (fun q7 => ?_)
          refine a_goto hS (tgt := 168) dX9_divideLine_146 (by decide) ?_
          refine a_iload hS dX9_divideLine_168 rfl ?_
          refine a_iconst hS dX9_divideLine_170 ?_
          refine a_iadd hS dX9_divideLine_171 ?_
          refine a_iload_n hS dX9_divideLine_172 rfl ?_
          refine a_mmax hS mlMX9_92 mmmax2 mm3 mmmax4 (Nat.le_of_ble_eq_true rfl) (Nat.le_of_ble_eq_true rfl) dX9_divideLine_173 ?_
          refine a_istore hS (L' := [some (rf w 289), some (iv x1), some (iv x2), some (iv q6.1), some (iv (mmaxI (x4 + 1) q6.1)), some (iv q3.1)]) dX9_divideLine_176 hN (Nat.le_of_ble_eq_true rfl) rfl rfl ?_
          refine a_goto hS (tgt := 47) dX9_divideLine_178 (by decide) ?_
          exact a_live (M := [true, true, true, true, true, false]) (hr47 x1 x2 q6.1 (mmaxI (x4 + 1) q6.1) q7.2) rfl
      · refine a_aload_n hS dX9_divideLine_81 rfl ?_
        refine a_iload hS dX9_divideLine_82 rfl ?_
        refine a_callVi hS (rst := []) (c_Tok_threeQuotesAt hW x4 q3.2 ) miX9_threeQuotesAt mlX9_75 (sA289 hW) rfl rfl (Nat.le_of_ble_eq_true rfl) (Nat.le_of_ble_eq_true rfl) (Nat.le_of_ble_eq_true rfl) rfl dX9_divideLine_84 (fun q8 => ?_)
        refine a_ifeq hS rfl  (tgt := 101) dX9_divideLine_87 (by decide) ?_ ?_
        · refine a_aload_n hS dX9_divideLine_101 rfl ?_
          refine a_iload hS dX9_divideLine_102 rfl ?_
          refine a_iconst hS dX9_divideLine_104 ?_
          refine a_iadd hS dX9_divideLine_105 ?_
          refine a_callVi hS (rst := []) (c_Tok_stringEnd hW (x4 + 1) q8.2 ) miX9_stringEnd mlX9_79 (sA289 hW) rfl rfl (Nat.le_of_ble_eq_true rfl) (Nat.le_of_ble_eq_true rfl) (Nat.le_of_ble_eq_true rfl) rfl dX9_divideLine_106 (fun q9 => ?_)
          exact a_live (M := [true, true, true, false, true, false]) (k_Tok_divideLine_109 hS hN hW  r47 hr47 x1 x2 x4 q9.1 q9.2) rfl
        · refine a_aload_n hS dX9_divideLine_90 rfl ?_
          refine a_iload hS dX9_divideLine_91 rfl ?_
          refine a_iconst hS dX9_divideLine_93 ?_
          refine a_iadd hS dX9_divideLine_94 ?_
          refine a_callVi hS (rst := []) (c_Tok_literalEnd hW (x4 + 3) q8.2 ) miX9_literalEnd mlX9_72 (sA289 hW) rfl rfl (Nat.le_of_ble_eq_true rfl) (Nat.le_of_ble_eq_true rfl) (Nat.le_of_ble_eq_true rfl) rfl dX9_divideLine_95 (fun q10 => ?_)
          refine a_goto hS (tgt := 109) dX9_divideLine_98 (by decide) ?_
          exact a_live (M := [true, true, true, false, true, false]) (k_Tok_divideLine_109 hS hN hW  r47 hr47 x1 x2 x4 q10.1 q10.2) rfl
    · exact a_vret hS rfl rfl dX9_divideLine_73
set_option maxRecDepth 100000 in
set_option maxHeartbeats 4000000 in
theorem k_Tok_divideLine_24 {X : Cx} {w : Wd} {x : Int × Mem} (hS : Std X (rmN 3 64) w cX9_divideLine RX9 none) (hN : cxn X = 6) (hW : shp w = ShA)   : ∀ (x1 : Int) (x2 : Int) (y0 : Int) (y1 : Int) (σ : Mem), Sm X (rmN 3 64) w 0 x 24 [some (rf w 289), some (iv x1), some (iv x2), none, none, none] [iv y0, iv y1, rf w 300] σ (Tok_divideLine_24   x1 x2 y0 y1 σ) := by
  intro x1 x2 y0 y1 σ
  unfold Tok_divideLine_24
  refine a_callVv hS (rst := []) (c_Row_set hW 300 y1 y0 σ iRow300) miX5_set mlX9_52 (sA300 hW) rfl rfl (Nat.le_of_ble_eq_true rfl) (Nat.le_of_ble_eq_true rfl) (Nat.le_of_ble_eq_true rfl) rfl dX9_divideLine_24 (fun q1 => ?_)
  refine a_aload_n hS dX9_divideLine_27 rfl ?_
  refine a_getI hS dX9_divideLine_28 flX9_45 (sA289 hW) rfl ?_
  refine a_ifeq hS rfl  (tgt := 42) dX9_divideLine_31 (by decide) ?_ ?_
  · refine a_iconst hS dX9_divideLine_42 ?_
    refine a_istore_n hS (L' := [some (rf w 289), some (iv x1), some (iv x2), some (iv 0), none, none]) dX9_divideLine_43 hN (Nat.le_of_ble_eq_true rfl) rfl rfl ?_
    refine a_iload_n hS dX9_divideLine_44 rfl ?_
    refine a_istore hS (L' := [some (rf w 289), some (iv x1), some (iv x2), some (iv 0), some (iv 0), none]) dX9_divideLine_45 hN (Nat.le_of_ble_eq_true rfl) rfl rfl ?_
    exact k_Tok_divideLine_47 hS hN hW   100000 x1 x2 0 0 q1.2
  · refine a_aload_n hS dX9_divideLine_34 rfl ?_
    refine a_iconst hS dX9_divideLine_35 ?_
    refine a_callVi hS (rst := []) (c_Tok_literalEnd hW 0 q1.2 ) miX9_literalEnd mlX9_72 (sA289 hW) rfl rfl (Nat.le_of_ble_eq_true rfl) (Nat.le_of_ble_eq_true rfl) (Nat.le_of_ble_eq_true rfl) rfl dX9_divideLine_36 (fun q2 => ?_)
    refine a_goto hS (tgt := 43) dX9_divideLine_39 (by decide) ?_
    refine a_istore_n hS (L' := [some (rf w 289), some (iv x1), some (iv x2), some (iv q2.1), none, none]) dX9_divideLine_43 hN (Nat.le_of_ble_eq_true rfl) rfl rfl ?_
    refine a_iload_n hS dX9_divideLine_44 rfl ?_
    refine a_istore hS (L' := [some (rf w 289), some (iv x1), some (iv x2), some (iv q2.1), some (iv q2.1), none]) dX9_divideLine_45 hN (Nat.le_of_ble_eq_true rfl) rfl rfl ?_
    exact k_Tok_divideLine_47 hS hN hW   100000 x1 x2 q2.1 q2.1 q2.2
set_option maxRecDepth 100000 in
set_option maxHeartbeats 4000000 in
theorem c_Tok_divideLine {l : Launch} {w : Wd} (hW : shp w = ShA) (a0 : Int) (a1 : Int) (σ : Mem)  : Ctr l w yX9_divideLine cX9_divideLine 6 none (rmN 3 64) 0 [rf w 289, iv a0, iv a1] σ (Tok_divideLine a0 a1 σ) := by
  refine met_of (own := RX9) (by decide) rfl rfl rfl (Nat.le_of_ble_eq_true rfl) (fun X x hXl hN hS => ⟨[some (rf w 289), some (iv a0), some (iv a1), none, none, none], ⟨3, rfl⟩, ?_⟩)
  subst hXl
  unfold Tok_divideLine
  refine a_aload_n hS dX9_divideLine_0 rfl ?_
  refine a_getR hS (j := 300) dX9_divideLine_1 flX9_36 (sA289 hW) rfl ?_
  refine a_iload_n hS dX9_divideLine_4 rfl ?_
  refine a_aload_n hS dX9_divideLine_5 rfl ?_
  refine a_getI hS dX9_divideLine_6 flX9_45 (sA289 hW) rfl ?_
  refine a_ifeq hS rfl  (tgt := 23) dX9_divideLine_9 (by decide) ?_ ?_
  · refine a_iconst hS dX9_divideLine_23 ?_
    exact k_Tok_divideLine_24 hS hN hW   a0 a1 0 a0 σ
  · refine a_aload_n hS dX9_divideLine_12 rfl ?_
    refine a_getI hS dX9_divideLine_13 flX9_42 (sA289 hW) rfl ?_
    refine a_ifle hS rfl  (tgt := 23) dX9_divideLine_16 (by decide) ?_ ?_
    · refine a_iconst hS dX9_divideLine_23 ?_
      exact k_Tok_divideLine_24 hS hN hW   a0 a1 0 a0 σ
    · refine a_iconst hS dX9_divideLine_19 ?_
      refine a_goto hS (tgt := 24) dX9_divideLine_20 (by decide) ?_
      exact k_Tok_divideLine_24 hS hN hW   a0 a1 1 a0 σ
noncomputable def Tok_divide_12b   (r12 : Int → Int → Mem → Option (Int × Mem)) (x2 : Int) (x3 : Int) (σ : Mem) : Option (Int × Mem) := if wr x3 < wr (σ 2 0) then ((Row_set 298 x3 (σ 289 0) σ).bind fun q4 => (Tok_load x3 q4.2).bind fun q5 => (Tok_divideLine x3 x2 q5.2).bind fun q6 => r12 x2 (x3 + 1) q6.2) else ((Row_set 298 (σ 2 0) (σ 289 0) σ).bind fun q3 => some (0, q3.2))
noncomputable def Tok_divide_12   (n : Nat) : Int → Int → Mem → Option (Int × Mem) := fixN (fun _ _ _ => none) (Tok_divide_12b  ) n
noncomputable def Tok_divide (a0 : Int) (σ : Mem) : Option (Int × Mem) := letM (upM σ 289 0 0) fun s1 => letM (upM s1 289 9 0) fun s2 => Tok_divide_12 100000 a0 0 s2
set_option maxRecDepth 100000 in
set_option maxHeartbeats 4000000 in
theorem k_Tok_divide_12 {X : Cx} {w : Wd} {x : Int × Mem} (hS : Std X (rmN 4 89) w cX9_divide RX9 none) (hN : cxn X = 4) (hW : shp w = ShA)   : ∀ (n : Nat) (x2 : Int) (x3 : Int) (σ : Mem), Sm X (rmN 4 89) w 0 x 12 [some (rf w 289), some (rf w 2), some (iv x2), some (iv x3)] [] σ (Tok_divide_12   n x2 x3 σ) := by
  refine fix_ok (P := fun (r12 : Int → Int → Mem → Option (Int × Mem)) => ∀ (x2 : Int) (x3 : Int) (σ : Mem), Sm X (rmN 4 89) w 0 x 12 [some (rf w 289), some (rf w 2), some (iv x2), some (iv x3)] [] σ (r12 x2 x3 σ)) (fun _ _ _ => a_none) (fun r12 hr12 => ?_)
  intro x2 x3 σ
  unfold Tok_divide_12b
  refine a_iload_n hS dX9_divide_12 rfl ?_
  refine a_aload_n hS dX9_divide_13 rfl ?_
  refine a_getI hS dX9_divide_14 flX9_49 (sA2 hW) rfl ?_
  refine a_icmpge hS rfl rfl (tgt := 50) dX9_divide_17 (by decide) ?_ ?_
  · refine a_aload_n hS dX9_divide_50 rfl ?_
    refine a_getR hS (j := 298) dX9_divide_51 flX9_33 (sA289 hW) rfl ?_
    refine a_aload_n hS dX9_divide_54 rfl ?_
    refine a_getI hS dX9_divide_55 flX9_49 (sA2 hW) rfl ?_
    refine a_aload_n hS dX9_divide_58 rfl ?_
    refine a_getI hS dX9_divide_59 flX9_9 (sA289 hW) rfl ?_
    refine a_callVv hS (rst := []) (c_Row_set hW 298 (σ 2 0) (σ 289 0) σ iRow298) miX5_set mlX9_52 (sA298 hW) rfl rfl (Nat.le_of_ble_eq_true rfl) (Nat.le_of_ble_eq_true rfl) (Nat.le_of_ble_eq_true rfl) rfl dX9_divide_62 (fun q3 => ?_)
    exact a_vret hS rfl rfl dX9_divide_65
  · refine a_aload_n hS dX9_divide_20 rfl ?_
    refine a_getR hS (j := 298) dX9_divide_21 flX9_33 (sA289 hW) rfl ?_
    refine a_iload_n hS dX9_divide_24 rfl ?_
    refine a_aload_n hS dX9_divide_25 rfl ?_
    refine a_getI hS dX9_divide_26 flX9_9 (sA289 hW) rfl ?_
    refine a_callVv hS (rst := []) (c_Row_set hW 298 x3 (σ 289 0) σ iRow298) miX5_set mlX9_52 (sA298 hW) rfl rfl (Nat.le_of_ble_eq_true rfl) (Nat.le_of_ble_eq_true rfl) (Nat.le_of_ble_eq_true rfl) rfl dX9_divide_29 (fun q4 => ?_)
    refine a_aload_n hS dX9_divide_32 rfl ?_
    refine a_aload_n hS dX9_divide_33 rfl ?_
    refine a_iload_n hS dX9_divide_34 rfl ?_
    refine a_callVv hS (rst := []) (c_Tok_load hW x3 q4.2 ) miX9_load mlX9_56 (sA289 hW) rfl rfl (Nat.le_of_ble_eq_true rfl) (Nat.le_of_ble_eq_true rfl) (Nat.le_of_ble_eq_true rfl) rfl dX9_divide_35 (fun q5 => ?_)
    refine a_aload_n hS dX9_divide_38 rfl ?_
    refine a_iload_n hS dX9_divide_39 rfl ?_
    refine a_iload_n hS dX9_divide_40 rfl ?_
    refine a_callVv hS (rst := []) (c_Tok_divideLine hW x3 x2 q5.2 ) miX9_divideLine mlX9_60 (sA289 hW) rfl rfl (Nat.le_of_ble_eq_true rfl) (Nat.le_of_ble_eq_true rfl) (Nat.le_of_ble_eq_true rfl) rfl dX9_divide_41 (fun q6 => ?_)
    refine a_iinc hS (L' := [some (rf w 289), some (rf w 2), some (iv x2), some (iv (x3 + 1))]) dX9_divide_44 rfl hN (Nat.le_of_ble_eq_true rfl) rfl rfl ?_
    refine a_goto hS (tgt := 12) dX9_divide_47 (by decide) ?_
    exact hr12 x2 (x3 + 1) q6.2
set_option maxRecDepth 100000 in
set_option maxHeartbeats 4000000 in
theorem c_Tok_divide {l : Launch} {w : Wd} (hW : shp w = ShA) (a0 : Int) (σ : Mem)  : Ctr l w yX9_divide cX9_divide 4 none (rmN 4 89) 0 [rf w 289, rf w 2, iv a0] σ (Tok_divide a0 σ) := by
  refine met_of (own := RX9) (by decide) rfl rfl rfl (Nat.le_of_ble_eq_true rfl) (fun X x hXl hN hS => ⟨[some (rf w 289), some (rf w 2), some (iv a0), none], ⟨1, rfl⟩, ?_⟩)
  subst hXl
  unfold Tok_divide
  refine a_aload_n hS dX9_divide_0 rfl ?_
  refine a_iconst hS dX9_divide_1 ?_
  refine a_putI hS dX9_divide_2 plX9_9 (sA289 hW) rfl ?_
  refine a_letM (fun s1 => ?_)
  refine a_aload_n hS dX9_divide_5 rfl ?_
  refine a_iconst hS dX9_divide_6 ?_
  refine a_putZ hS dX9_divide_7 plX9_45 (sA289 hW) rfl (by decide) ?_
  refine a_letM (fun s2 => ?_)
  refine a_iconst hS dX9_divide_10 ?_
  refine a_istore_n hS (L' := [some (rf w 289), some (rf w 2), some (iv a0), some (iv 0)]) dX9_divide_11 hN (Nat.le_of_ble_eq_true rfl) rfl rfl ?_
  exact k_Tok_divide_12 hS hN hW   100000 a0 0 s2
noncomputable def Tok_countIn (a0 : Int) (σ : Mem) : Option (Int × Mem) := (Row_get 298 (a0 + 1) σ).bind fun q1 => (Row_get 298 a0 q1.2).bind fun q2 => some ((q1.1 - q2.1), q2.2)
set_option maxRecDepth 100000 in
set_option maxHeartbeats 4000000 in
theorem c_Tok_countIn {l : Launch} {w : Wd} (hW : shp w = ShA) (a0 : Int) (σ : Mem)  : Ctr l w yX9_countIn cX9_countIn 2 (some .int) (rmN 1 21) 1 [rf w 289, iv a0] σ (Tok_countIn a0 σ) := by
  refine met_of (own := RX9) (by decide) rfl rfl rfl (Nat.le_of_ble_eq_true rfl) (fun X x hXl hN hS => ⟨[some (rf w 289), some (iv a0)], ⟨0, rfl⟩, ?_⟩)
  subst hXl
  unfold Tok_countIn
  refine a_aload_n hS dX9_countIn_0 rfl ?_
  refine a_getR hS (j := 298) dX9_countIn_1 flX9_33 (sA289 hW) rfl ?_
  refine a_iload_n hS dX9_countIn_4 rfl ?_
  refine a_iconst hS dX9_countIn_5 ?_
  refine a_iadd hS dX9_countIn_6 ?_
  refine a_callVi hS (rst := []) (c_Row_get hW 298 (a0 + 1) σ iRow298) miX5_get mlX9_63 (sA298 hW) rfl rfl (Nat.le_of_ble_eq_true rfl) (Nat.le_of_ble_eq_true rfl) (Nat.le_of_ble_eq_true rfl) rfl dX9_countIn_7 (fun q1 => ?_)
  refine a_aload_n hS dX9_countIn_10 rfl ?_
  refine a_getR hS (j := 298) dX9_countIn_11 flX9_33 (sA289 hW) rfl ?_
  refine a_iload_n hS dX9_countIn_14 rfl ?_
  refine a_callVi hS (rst := [iv q1.1]) (c_Row_get hW 298 a0 q1.2 iRow298) miX5_get mlX9_63 (sA298 hW) rfl rfl (Nat.le_of_ble_eq_true rfl) (Nat.le_of_ble_eq_true rfl) (Nat.le_of_ble_eq_true rfl) rfl dX9_countIn_15 (fun q2 => ?_)
  refine a_isub hS dX9_countIn_18 ?_
  exact a_iret hS rfl rfl dX9_countIn_19
