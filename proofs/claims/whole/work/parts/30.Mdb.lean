noncomputable def Md_isFree (a0 : Int) (σ : Mem) : Option (Int × Mem) := (Md_isBlank a0 σ).bind fun q1 => if wr q1.1 = 0 then (if 0 ≤ wr a0 ∧ wr a0 < (20 : Int) then (if wr (q1.2 12 (wr a0).toNat) = 0 then (some (1, q1.2)) else (some (0, q1.2))) else none) else (some (0, q1.2))
set_option maxRecDepth 100000 in
set_option maxHeartbeats 4000000 in
theorem c_Md_isFree {l : Launch} {w : Wd} (hW : shp w = ShB) (a0 : Int) (σ : Mem)  : Ctr l w yX12_isFree cX12_isFree 2 (some .boolean) (rmN 1 21) 1 [rf w 0, iv a0] σ (Md_isFree a0 σ) := by
  refine met_of (own := RX12) (by decide) rfl rfl rfl (Nat.le_of_ble_eq_true rfl) (fun X x hXl hN hS => ⟨[some (rf w 0), some (iv a0)], ⟨0, rfl⟩, ?_⟩)
  subst hXl
  unfold Md_isFree
  refine a_aload_n hS dX12_isFree_0 rfl ?_
  refine a_iload_n hS dX12_isFree_1 rfl ?_
  refine a_callVi hS (rst := []) (c_Md_isBlank hW a0 σ ) miX12_isBlank mlX12_114 (sB0 hW) rfl rfl (Nat.le_of_ble_eq_true rfl) (Nat.le_of_ble_eq_true rfl) (Nat.le_of_ble_eq_true rfl) rfl dX12_isFree_2 (fun q1 => ?_)
  refine a_ifne hS rfl  (tgt := 21) dX12_isFree_5 (by decide) ?_ ?_
  · refine a_iconst hS dX12_isFree_21 ?_
    exact a_zret hS (by decide) rfl rfl dX12_isFree_22
  · refine a_aload_n hS dX12_isFree_8 rfl ?_
    refine a_getR hS (j := 12) dX12_isFree_9 flX12_44 (sB0 hW) rfl ?_
    refine a_iload_n hS dX12_isFree_12 rfl ?_
    refine a_zald hS (sB12 hW) dX12_isFree_13 ?_
    refine a_ifne hS rfl  (tgt := 21) dX12_isFree_14 (by decide) ?_ ?_
    · refine a_iconst hS dX12_isFree_21 ?_
      exact a_zret hS (by decide) rfl rfl dX12_isFree_22
    · refine a_iconst hS dX12_isFree_17 ?_
      refine a_goto hS (tgt := 22) dX12_isFree_18 (by decide) ?_
      exact a_zret hS (by decide) rfl rfl dX12_isFree_22
noncomputable def Md_settles_5b   (r5 : Int → Int → Int → Mem → Option (Int × Mem)) (x2 : Int) (x3 : Int) (x4 : Int) (σ : Mem) : Option (Int × Mem) := if wr x4 < wr x2 then ((Md_isFree x4 σ).bind fun q1 => if wr q1.1 = 0 then (r5 x2 x3 (x4 + 1) q1.2) else (if 0 ≤ wr (41 + x4) ∧ wr (41 + x4) < (10780 : Int) then (if wr (q1.2 1 (wr (41 + x4)).toNat) = 0 then ((Md_decides x4 q1.2).bind fun q2 => if 0 ≤ wr x4 ∧ wr x4 < (20 : Int) then (letM (upM q2.2 16 (wr x4).toNat (q2.2 0 24)) fun s3 => if 0 ≤ wr (1 + x4) ∧ wr (1 + x4) < (10780 : Int) then (if wr (s3 0 24) = wr (s3 1 (wr (1 + x4)).toNat) then (r5 x2 (orI x3 0) (x4 + 1) s3) else (r5 x2 (orI x3 (shlI 1 x4)) (x4 + 1) s3)) else none) else none) else (r5 x2 x3 (x4 + 1) q1.2)) else none)) else (some (x3, σ))
noncomputable def Md_settles_5   (n : Nat) : Int → Int → Int → Mem → Option (Int × Mem) := fixN (fun _ _ _ _ => none) (Md_settles_5b  ) n
noncomputable def Md_settles (a0 : Int) (a1 : Int) (σ : Mem) : Option (Int × Mem) := Md_settles_5 100000 a1 0 a0 σ
set_option maxRecDepth 100000 in
set_option maxHeartbeats 4000000 in
theorem k_Md_settles_5 {X : Cx} {w : Wd} {x : Int × Mem} (hS : Std X (rmN 4 103) w cX12_settles RX12 (some .int)) (hN : cxn X = 5) (hW : shp w = ShB)   : ∀ (n : Nat) (x2 : Int) (x3 : Int) (x4 : Int) (σ : Mem), Sm X (rmN 4 103) w 1 x 5 [some (rf w 0), none, some (iv x2), some (iv x3), some (iv x4)] [] σ (Md_settles_5   n x2 x3 x4 σ) := by
  refine fix_ok (P := fun (r5 : Int → Int → Int → Mem → Option (Int × Mem)) => ∀ (x2 : Int) (x3 : Int) (x4 : Int) (σ : Mem), Sm X (rmN 4 103) w 1 x 5 [some (rf w 0), none, some (iv x2), some (iv x3), some (iv x4)] [] σ (r5 x2 x3 x4 σ)) (fun _ _ _ _ => a_none) (fun r5 hr5 => ?_)
  intro x2 x3 x4 σ
  unfold Md_settles_5b
  refine a_iload hS dX12_settles_5 rfl ?_
  refine a_iload_n hS dX12_settles_7 rfl ?_
  refine a_icmpge hS rfl rfl (tgt := 83) dX12_settles_8 (by decide) ?_ ?_
  · refine a_iload_n hS dX12_settles_83 rfl ?_
    exact a_iret hS rfl rfl dX12_settles_84
  · refine a_aload_n hS dX12_settles_11 rfl ?_
    refine a_iload hS dX12_settles_12 rfl ?_
    refine a_callVi hS (rst := []) (c_Md_isFree hW x4 σ ) miX12_isFree mlX12_185 (sB0 hW) rfl rfl (Nat.le_of_ble_eq_true rfl) (Nat.le_of_ble_eq_true rfl) (Nat.le_of_ble_eq_true rfl) rfl dX12_settles_14 (fun q1 => ?_)
    refine a_ifeq hS rfl  (tgt := 77) dX12_settles_17 (by decide) ?_ ?_
    · refine a_iinc hS (L' := [some (rf w 0), none, some (iv x2), some (iv x3), some (iv (x4 + 1))]) dX12_settles_77 rfl hN (Nat.le_of_ble_eq_true rfl) rfl rfl ?_
      refine a_goto hS (tgt := 5) dX12_settles_80 (by decide) ?_
      exact hr5 x2 x3 (x4 + 1) q1.2
    · refine a_aload_n hS dX12_settles_20 rfl ?_
      refine a_getR hS (j := 1) dX12_settles_21 flX12_7 (sB0 hW) rfl ?_
      refine a_bipush hS dX12_settles_24 rfl ?_
      refine a_iload hS dX12_settles_26 rfl ?_
      refine a_iadd hS dX12_settles_28 ?_
      refine a_iald hS dX12_settles_29 (sB1 hW) ?_
      refine a_ifne hS rfl  (tgt := 77) dX12_settles_30 (by decide) ?_ ?_
      · refine a_iinc hS (L' := [some (rf w 0), none, some (iv x2), some (iv x3), some (iv (x4 + 1))]) dX12_settles_77 rfl hN (Nat.le_of_ble_eq_true rfl) rfl rfl ?_
        refine a_goto hS (tgt := 5) dX12_settles_80 (by decide) ?_
        exact hr5 x2 x3 (x4 + 1) q1.2
      · refine a_aload_n hS dX12_settles_33 rfl ?_
        refine a_iload hS dX12_settles_34 rfl ?_
        refine a_callVv hS (rst := []) (c_Md_decides hW x4 q1.2 ) miX12_decides mlX12_188 (sB0 hW) rfl rfl (Nat.le_of_ble_eq_true rfl) (Nat.le_of_ble_eq_true rfl) (Nat.le_of_ble_eq_true rfl) rfl dX12_settles_36 (fun q2 => ?_)
        refine a_aload_n hS dX12_settles_39 rfl ?_
        refine a_getR hS (j := 16) dX12_settles_40 flX12_56 (sB0 hW) rfl ?_
        refine a_iload hS dX12_settles_43 rfl ?_
        refine a_aload_n hS dX12_settles_45 rfl ?_
        refine a_getI hS dX12_settles_46 flX12_170 (sB0 hW) rfl ?_
        refine a_iast hS (sB16 hW) dX12_settles_49 ?_
        refine a_letM (fun s3 => ?_)
        refine a_iload_n hS dX12_settles_50 rfl ?_
        refine a_aload_n hS dX12_settles_51 rfl ?_
        refine a_getI hS dX12_settles_52 flX12_170 (sB0 hW) rfl ?_
        refine a_aload_n hS dX12_settles_55 rfl ?_
        refine a_getR hS (j := 1) dX12_settles_56 flX12_7 (sB0 hW) rfl ?_
        refine a_iconst hS dX12_settles_59 ?_
        refine a_iload hS dX12_settles_60 rfl ?_
        refine a_iadd hS dX12_settles_62 ?_
        refine a_iald hS dX12_settles_63 (sB1 hW) ?_
        refine a_icmpne hS rfl rfl (tgt := 71) dX12_settles_64 (by decide) ?_ ?_
        · refine a_iconst hS dX12_settles_71 ?_
          refine a_iload hS dX12_settles_72 rfl ?_
          refine a_ishl hS dX12_settles_74 ?_
          refine a_ior hS dX12_settles_75 ?_
          refine a_istore_n hS (L' := [some (rf w 0), none, some (iv x2), some (iv (orI x3 (shlI 1 x4))), some (iv x4)]) dX12_settles_76 hN (Nat.le_of_ble_eq_true rfl) rfl rfl ?_
          refine a_iinc hS (L' := [some (rf w 0), none, some (iv x2), some (iv (orI x3 (shlI 1 x4))), some (iv (x4 + 1))]) dX12_settles_77 rfl hN (Nat.le_of_ble_eq_true rfl) rfl rfl ?_
          refine a_goto hS (tgt := 5) dX12_settles_80 (by decide) ?_
          exact hr5 x2 (orI x3 (shlI 1 x4)) (x4 + 1) s3
        · refine a_iconst hS dX12_settles_67 ?_
          refine a_goto hS (tgt := 75) dX12_settles_68 (by decide) ?_
          refine a_ior hS dX12_settles_75 ?_
          refine a_istore_n hS (L' := [some (rf w 0), none, some (iv x2), some (iv (orI x3 0)), some (iv x4)]) dX12_settles_76 hN (Nat.le_of_ble_eq_true rfl) rfl rfl ?_
          refine a_iinc hS (L' := [some (rf w 0), none, some (iv x2), some (iv (orI x3 0)), some (iv (x4 + 1))]) dX12_settles_77 rfl hN (Nat.le_of_ble_eq_true rfl) rfl rfl ?_
          refine a_goto hS (tgt := 5) dX12_settles_80 (by decide) ?_
          exact hr5 x2 (orI x3 0) (x4 + 1) s3
set_option maxRecDepth 100000 in
set_option maxHeartbeats 4000000 in
theorem c_Md_settles {l : Launch} {w : Wd} (hW : shp w = ShB) (a0 : Int) (a1 : Int) (σ : Mem)  : Ctr l w yX12_settles cX12_settles 5 (some .int) (rmN 4 103) 1 [rf w 0, iv a0, iv a1] σ (Md_settles a0 a1 σ) := by
  refine met_of (own := RX12) (by decide) rfl rfl rfl (Nat.le_of_ble_eq_true rfl) (fun X x hXl hN hS => ⟨[some (rf w 0), some (iv a0), some (iv a1), none, none], ⟨2, rfl⟩, ?_⟩)
  subst hXl
  unfold Md_settles
  refine a_iconst hS dX12_settles_0 ?_
  refine a_istore_n hS (L' := [some (rf w 0), some (iv a0), some (iv a1), some (iv 0), none]) dX12_settles_1 hN (Nat.le_of_ble_eq_true rfl) rfl rfl ?_
  refine a_iload_n hS dX12_settles_2 rfl ?_
  refine a_istore hS (L' := [some (rf w 0), some (iv a0), some (iv a1), some (iv 0), some (iv a0)]) dX12_settles_3 hN (Nat.le_of_ble_eq_true rfl) rfl rfl ?_
  exact a_live (M := [true, false, true, true, true]) (k_Md_settles_5 hS hN hW   100000 a1 0 a0 σ) rfl
noncomputable def Md_bits_4b   (r4 : Int → Int → Int → Mem → Option (Int × Mem)) (x0 : Int) (x1 : Int) (x2 : Int) (σ : Mem) : Option (Int × Mem) := if wr x2 < 20 then (r4 x0 (x1 + (andI (shrI x0 x2) 1)) (x2 + 1) σ) else (some (x1, σ))
noncomputable def Md_bits_4   (n : Nat) : Int → Int → Int → Mem → Option (Int × Mem) := fixN (fun _ _ _ _ => none) (Md_bits_4b  ) n
noncomputable def Md_bits (a0 : Int) (σ : Mem) : Option (Int × Mem) := Md_bits_4 100000 a0 0 0 σ
set_option maxRecDepth 100000 in
set_option maxHeartbeats 4000000 in
theorem k_Md_bits_4 {X : Cx} {w : Wd} {x : Int × Mem} (hS : Std X (rmN 0 0) w cX12_bits RX12 (some .int)) (hN : cxn X = 3) (hW : shp w = ShB)   : ∀ (n : Nat) (x0 : Int) (x1 : Int) (x2 : Int) (σ : Mem), Sm X (rmN 0 0) w 1 x 4 [some (iv x0), some (iv x1), some (iv x2)] [] σ (Md_bits_4   n x0 x1 x2 σ) := by
  refine fix_ok (P := fun (r4 : Int → Int → Int → Mem → Option (Int × Mem)) => ∀ (x0 : Int) (x1 : Int) (x2 : Int) (σ : Mem), Sm X (rmN 0 0) w 1 x 4 [some (iv x0), some (iv x1), some (iv x2)] [] σ (r4 x0 x1 x2 σ)) (fun _ _ _ _ => a_none) (fun r4 hr4 => ?_)
  intro x0 x1 x2 σ
  unfold Md_bits_4b
  refine a_iload_n hS dX12_bits_4 rfl ?_
  refine a_bipush hS dX12_bits_5 rfl ?_
  refine a_icmpge hS rfl (wl 20 rfl) (tgt := 24) dX12_bits_7 (by decide) ?_ ?_
  · refine a_iload_n hS dX12_bits_24 rfl ?_
    exact a_iret hS rfl rfl dX12_bits_25
  · refine a_iload_n hS dX12_bits_10 rfl ?_
    refine a_iload_n hS dX12_bits_11 rfl ?_
    refine a_iload_n hS dX12_bits_12 rfl ?_
    refine a_ishr hS dX12_bits_13 ?_
    refine a_iconst hS dX12_bits_14 ?_
    refine a_iand hS dX12_bits_15 ?_
    refine a_iadd hS dX12_bits_16 ?_
    refine a_istore_n hS (L' := [some (iv x0), some (iv (x1 + (andI (shrI x0 x2) 1))), some (iv x2)]) dX12_bits_17 hN (Nat.le_of_ble_eq_true rfl) rfl rfl ?_
    refine a_iinc hS (L' := [some (iv x0), some (iv (x1 + (andI (shrI x0 x2) 1))), some (iv (x2 + 1))]) dX12_bits_18 rfl hN (Nat.le_of_ble_eq_true rfl) rfl rfl ?_
    refine a_goto hS (tgt := 4) dX12_bits_21 (by decide) ?_
    exact hr4 x0 (x1 + (andI (shrI x0 x2) 1)) (x2 + 1) σ
set_option maxRecDepth 100000 in
set_option maxHeartbeats 4000000 in
theorem c_Md_bits {l : Launch} {w : Wd} (hW : shp w = ShB) (a0 : Int) (σ : Mem)  : Ctr l w yX12_bits cX12_bits 3 (some .int) (rmN 0 0) 1 [iv a0] σ (Md_bits a0 σ) := by
  refine met_of (own := RX12) (by decide) rfl rfl rfl (Nat.le_of_ble_eq_true rfl) (fun X x hXl hN hS => ⟨[some (iv a0), none, none], ⟨2, rfl⟩, ?_⟩)
  subst hXl
  unfold Md_bits
  refine a_iconst hS dX12_bits_0 ?_
  refine a_istore_n hS (L' := [some (iv a0), some (iv 0), none]) dX12_bits_1 hN (Nat.le_of_ble_eq_true rfl) rfl rfl ?_
  refine a_iconst hS dX12_bits_2 ?_
  refine a_istore_n hS (L' := [some (iv a0), some (iv 0), some (iv 0)]) dX12_bits_3 hN (Nat.le_of_ble_eq_true rfl) rfl rfl ?_
  exact k_Md_bits_4 hS hN hW   100000 a0 0 0 σ
noncomputable def Md_type (a0 : Int) (σ : Mem) : Option (Int × Mem) := (Md_in a0 32 126 σ).bind fun q1 => if wr q1.1 = 0 then (some ((-1), q1.2)) else (if wr (q1.2 0 4) = 72 then (some ((-3), q1.2)) else (if 0 ≤ wr (q1.2 0 4) ∧ wr (q1.2 0 4) < (72 : Int) then (letM (upM q1.2 3 (wr (q1.2 0 4)).toNat a0) fun s2 => letM (upM s2 0 4 ((s2 0 4) + 1)) fun s3 => some ((s3 0 4), s3)) else none))
set_option maxRecDepth 100000 in
set_option maxHeartbeats 4000000 in
theorem c_Md_type {l : Launch} {w : Wd} (hW : shp w = ShB) (a0 : Int) (σ : Mem)  : Ctr l w yX12_type cX12_type 2 (some .int) (rmN 1 22) 1 [rf w 0, iv a0] σ (Md_type a0 σ) := by
  refine met_of (own := RX12) (by decide) rfl rfl rfl (Nat.le_of_ble_eq_true rfl) (fun X x hXl hN hS => ⟨[some (rf w 0), some (iv a0)], ⟨0, rfl⟩, ?_⟩)
  subst hXl
  unfold Md_type
  refine a_iload_n hS dX12_type_0 rfl ?_
  refine a_bipush hS dX12_type_1 rfl ?_
  refine a_bipush hS dX12_type_3 rfl ?_
  refine a_callSi hS (rst := []) (c_Md_in hW a0 32 126 σ ) msX12_in mlX12_79 rfl (Nat.le_of_ble_eq_true rfl) (Nat.le_of_ble_eq_true rfl) (Nat.le_of_ble_eq_true rfl) rfl dX12_type_5 (fun q1 => ?_)
  refine a_ifne hS rfl  (tgt := 13) dX12_type_8 (by decide) ?_ ?_
  · refine a_aload_n hS dX12_type_13 rfl ?_
    refine a_getI hS dX12_type_14 flX12_191 (sB0 hW) rfl ?_
    refine a_bipush hS dX12_type_17 rfl ?_
    refine a_icmpne hS rfl (wl 72 rfl) (tgt := 25) dX12_type_19 (by decide) ?_ ?_
    · refine a_aload_n hS dX12_type_25 rfl ?_
      refine a_getR hS (j := 3) dX12_type_26 flX12_17 (sB0 hW) rfl ?_
      refine a_aload_n hS dX12_type_29 rfl ?_
      refine a_getI hS dX12_type_30 flX12_191 (sB0 hW) rfl ?_
      refine a_iload_n hS dX12_type_33 rfl ?_
      refine a_iast hS (sB3 hW) dX12_type_34 ?_
      refine a_letM (fun s2 => ?_)
      refine a_aload_n hS dX12_type_35 rfl ?_
      refine a_dup hS rfl dX12_type_36 ?_
      refine a_getI hS dX12_type_37 flX12_191 (sB0 hW) rfl ?_
      refine a_iconst hS dX12_type_40 ?_
      refine a_iadd hS dX12_type_41 ?_
      refine a_putI hS dX12_type_42 plX12_191 (sB0 hW) rfl ?_
      refine a_letM (fun s3 => ?_)
      refine a_aload_n hS dX12_type_45 rfl ?_
      refine a_getI hS dX12_type_46 flX12_191 (sB0 hW) rfl ?_
      exact a_iret hS rfl rfl dX12_type_49
    · refine a_bipush hS dX12_type_22 rfl ?_
      exact a_iret hS rfl rfl dX12_type_24
  · refine a_iconst hS dX12_type_11 ?_
    exact a_iret hS rfl rfl dX12_type_12
noncomputable def Md_clear  (σ : Mem) : Option (Int × Mem) := letM (upM σ 0 4 0) fun s1 => some ((σ 0 4), s1)
set_option maxRecDepth 100000 in
set_option maxHeartbeats 4000000 in
theorem c_Md_clear {l : Launch} {w : Wd} (hW : shp w = ShB)  (σ : Mem)  : Ctr l w yX12_clear cX12_clear 2 (some .int) (rmN 0 0) 1 [rf w 0] σ (Md_clear  σ) := by
  refine met_of (own := RX12) (by decide) rfl rfl rfl (Nat.le_of_ble_eq_true rfl) (fun X x hXl hN hS => ⟨[some (rf w 0), none], ⟨1, rfl⟩, ?_⟩)
  subst hXl
  unfold Md_clear
  refine a_aload_n hS dX12_clear_0 rfl ?_
  refine a_getI hS dX12_clear_1 flX12_191 (sB0 hW) rfl ?_
  refine a_istore_n hS (L' := [some (rf w 0), some (iv (σ 0 4))]) dX12_clear_4 hN (Nat.le_of_ble_eq_true rfl) rfl rfl ?_
  refine a_aload_n hS dX12_clear_5 rfl ?_
  refine a_iconst hS dX12_clear_6 ?_
  refine a_putI hS dX12_clear_7 plX12_191 (sB0 hW) rfl ?_
  refine a_letM (fun s1 => ?_)
  refine a_iload_n hS dX12_clear_10 rfl ?_
  exact a_iret hS rfl rfl dX12_clear_11
noncomputable def Md_isLineText_91    (σ : Mem) : Option (Int × Mem) := if wr (σ 0 29) = wr (σ 0 28) then (some (1, σ)) else (if 40 < wr (σ 0 28) then (some (0, σ)) else (if 32 < wr ((σ 0 29) - (σ 0 28)) then (some (0, σ)) else (some (1, σ))))
noncomputable def Md_isLineText_51b   (r51 : Mem → Option (Int × Mem))  (σ : Mem) : Option (Int × Mem) := if wr (σ 0 28) < wr (σ 0 29) then (if 0 ≤ wr ((σ 0 29) - 1) ∧ wr ((σ 0 29) - 1) < (72 : Int) then (if wr (σ 3 (wr ((σ 0 29) - 1)).toNat) = 32 then (letM (upM σ 0 29 ((σ 0 29) - 1)) fun s5 => r51 s5) else (Md_isLineText_91 σ)) else none) else (Md_isLineText_91 σ)
noncomputable def Md_isLineText_51   (n : Nat) : Mem → Option (Int × Mem) := fixN (fun  _ => none) (Md_isLineText_51b  ) n
noncomputable def Md_isLineText_5b   (r5 : Mem → Option (Int × Mem))  (σ : Mem) : Option (Int × Mem) := if wr (σ 0 28) < wr (σ 0 4) then (if 0 ≤ wr (σ 0 28) ∧ wr (σ 0 28) < (72 : Int) then (if wr (σ 3 (wr (σ 0 28)).toNat) = 32 then (letM (upM σ 0 28 ((σ 0 28) + 1)) fun s4 => r5 s4) else (letM (upM σ 0 29 (σ 0 4)) fun s3 => Md_isLineText_51 100000 s3)) else none) else (letM (upM σ 0 29 (σ 0 4)) fun s2 => Md_isLineText_51 100000 s2)
noncomputable def Md_isLineText_5   (n : Nat) : Mem → Option (Int × Mem) := fixN (fun  _ => none) (Md_isLineText_5b  ) n
noncomputable def Md_isLineText  (σ : Mem) : Option (Int × Mem) := letM (upM σ 0 28 0) fun s1 => Md_isLineText_5 100000 s1
set_option maxRecDepth 100000 in
set_option maxHeartbeats 4000000 in
theorem k_Md_isLineText_91 {X : Cx} {w : Wd} {x : Int × Mem} (hS : Std X (rmN 0 0) w cX12_isLineText RX12 (some .boolean)) (hN : cxn X = 1) (hW : shp w = ShB)   : ∀  (σ : Mem), Sm X (rmN 0 0) w 1 x 91 [some (rf w 0)] [] σ (Md_isLineText_91    σ) := by
  intro  σ
  unfold Md_isLineText_91
  refine a_aload_n hS dX12_isLineText_91 rfl ?_
  refine a_getI hS dX12_isLineText_92 flX12_197 (sB0 hW) rfl ?_
  refine a_aload_n hS dX12_isLineText_95 rfl ?_
  refine a_getI hS dX12_isLineText_96 flX12_194 (sB0 hW) rfl ?_
  refine a_icmpeq hS rfl rfl (tgt := 125) dX12_isLineText_99 (by decide) ?_ ?_
  · refine a_iconst hS dX12_isLineText_125 ?_
    refine a_goto hS (tgt := 130) dX12_isLineText_126 (by decide) ?_
    exact a_zret hS (by decide) rfl rfl dX12_isLineText_130
  · refine a_aload_n hS dX12_isLineText_102 rfl ?_
    refine a_getI hS dX12_isLineText_103 flX12_194 (sB0 hW) rfl ?_
    refine a_bipush hS dX12_isLineText_106 rfl ?_
    refine a_icmpgt hS rfl (wl 40 rfl) (tgt := 129) dX12_isLineText_108 (by decide) ?_ ?_
    · refine a_iconst hS dX12_isLineText_129 ?_
      exact a_zret hS (by decide) rfl rfl dX12_isLineText_130
    · refine a_aload_n hS dX12_isLineText_111 rfl ?_
      refine a_getI hS dX12_isLineText_112 flX12_197 (sB0 hW) rfl ?_
      refine a_aload_n hS dX12_isLineText_115 rfl ?_
      refine a_getI hS dX12_isLineText_116 flX12_194 (sB0 hW) rfl ?_
      refine a_isub hS dX12_isLineText_119 ?_
      refine a_bipush hS dX12_isLineText_120 rfl ?_
      refine a_icmpgt hS rfl (wl 32 rfl) (tgt := 129) dX12_isLineText_122 (by decide) ?_ ?_
      · refine a_iconst hS dX12_isLineText_129 ?_
        exact a_zret hS (by decide) rfl rfl dX12_isLineText_130
      · refine a_iconst hS dX12_isLineText_125 ?_
        refine a_goto hS (tgt := 130) dX12_isLineText_126 (by decide) ?_
        exact a_zret hS (by decide) rfl rfl dX12_isLineText_130
set_option maxRecDepth 100000 in
set_option maxHeartbeats 4000000 in
theorem k_Md_isLineText_51 {X : Cx} {w : Wd} {x : Int × Mem} (hS : Std X (rmN 0 0) w cX12_isLineText RX12 (some .boolean)) (hN : cxn X = 1) (hW : shp w = ShB)   : ∀ (n : Nat)  (σ : Mem), Sm X (rmN 0 0) w 1 x 51 [some (rf w 0)] [] σ (Md_isLineText_51   n  σ) := by
  refine fix_ok (P := fun (r51 : Mem → Option (Int × Mem)) => ∀  (σ : Mem), Sm X (rmN 0 0) w 1 x 51 [some (rf w 0)] [] σ (r51  σ)) (fun  _ => a_none) (fun r51 hr51 => ?_)
  intro  σ
  unfold Md_isLineText_51b
  refine a_aload_n hS dX12_isLineText_51 rfl ?_
  refine a_getI hS dX12_isLineText_52 flX12_197 (sB0 hW) rfl ?_
  refine a_aload_n hS dX12_isLineText_55 rfl ?_
  refine a_getI hS dX12_isLineText_56 flX12_194 (sB0 hW) rfl ?_
  refine a_icmple hS rfl rfl (tgt := 91) dX12_isLineText_59 (by decide) ?_ ?_
  · exact k_Md_isLineText_91 hS hN hW    σ
  · refine a_aload_n hS dX12_isLineText_62 rfl ?_
    refine a_getR hS (j := 3) dX12_isLineText_63 flX12_17 (sB0 hW) rfl ?_
    refine a_aload_n hS dX12_isLineText_66 rfl ?_
    refine a_getI hS dX12_isLineText_67 flX12_197 (sB0 hW) rfl ?_
    refine a_iconst hS dX12_isLineText_70 ?_
    refine a_isub hS dX12_isLineText_71 ?_
    refine a_iald hS dX12_isLineText_72 (sB3 hW) ?_
    refine a_bipush hS dX12_isLineText_73 rfl ?_
    refine a_icmpne hS rfl (wl 32 rfl) (tgt := 91) dX12_isLineText_75 (by decide) ?_ ?_
    · exact k_Md_isLineText_91 hS hN hW    σ
    · refine a_aload_n hS dX12_isLineText_78 rfl ?_
      refine a_dup hS rfl dX12_isLineText_79 ?_
      refine a_getI hS dX12_isLineText_80 flX12_197 (sB0 hW) rfl ?_
      refine a_iconst hS dX12_isLineText_83 ?_
      refine a_isub hS dX12_isLineText_84 ?_
      refine a_putI hS dX12_isLineText_85 plX12_197 (sB0 hW) rfl ?_
      refine a_letM (fun s5 => ?_)
      refine a_goto hS (tgt := 51) dX12_isLineText_88 (by decide) ?_
      exact hr51  s5
set_option maxRecDepth 100000 in
set_option maxHeartbeats 4000000 in
theorem k_Md_isLineText_5 {X : Cx} {w : Wd} {x : Int × Mem} (hS : Std X (rmN 0 0) w cX12_isLineText RX12 (some .boolean)) (hN : cxn X = 1) (hW : shp w = ShB)   : ∀ (n : Nat)  (σ : Mem), Sm X (rmN 0 0) w 1 x 5 [some (rf w 0)] [] σ (Md_isLineText_5   n  σ) := by
  refine fix_ok (P := fun (r5 : Mem → Option (Int × Mem)) => ∀  (σ : Mem), Sm X (rmN 0 0) w 1 x 5 [some (rf w 0)] [] σ (r5  σ)) (fun  _ => a_none) (fun r5 hr5 => ?_)
  intro  σ
  unfold Md_isLineText_5b
  refine a_aload_n hS dX12_isLineText_5 rfl ?_
  refine a_getI hS dX12_isLineText_6 flX12_194 (sB0 hW) rfl ?_
  refine a_aload_n hS dX12_isLineText_9 rfl ?_
  refine a_getI hS dX12_isLineText_10 flX12_191 (sB0 hW) rfl ?_
  refine a_icmpge hS rfl rfl (tgt := 43) dX12_isLineText_13 (by decide) ?_ ?_
  · refine a_aload_n hS dX12_isLineText_43 rfl ?_
    refine a_aload_n hS dX12_isLineText_44 rfl ?_
    refine a_getI hS dX12_isLineText_45 flX12_191 (sB0 hW) rfl ?_
    refine a_putI hS dX12_isLineText_48 plX12_197 (sB0 hW) rfl ?_
    refine a_letM (fun s2 => ?_)
    exact k_Md_isLineText_51 hS hN hW   100000  s2
  · refine a_aload_n hS dX12_isLineText_16 rfl ?_
    refine a_getR hS (j := 3) dX12_isLineText_17 flX12_17 (sB0 hW) rfl ?_
    refine a_aload_n hS dX12_isLineText_20 rfl ?_
    refine a_getI hS dX12_isLineText_21 flX12_194 (sB0 hW) rfl ?_
    refine a_iald hS dX12_isLineText_24 (sB3 hW) ?_
    refine a_bipush hS dX12_isLineText_25 rfl ?_
    refine a_icmpne hS rfl (wl 32 rfl) (tgt := 43) dX12_isLineText_27 (by decide) ?_ ?_
    · refine a_aload_n hS dX12_isLineText_43 rfl ?_
      refine a_aload_n hS dX12_isLineText_44 rfl ?_
      refine a_getI hS dX12_isLineText_45 flX12_191 (sB0 hW) rfl ?_
      refine a_putI hS dX12_isLineText_48 plX12_197 (sB0 hW) rfl ?_
      refine a_letM (fun s3 => ?_)
      exact k_Md_isLineText_51 hS hN hW   100000  s3
    · refine a_aload_n hS dX12_isLineText_30 rfl ?_
      refine a_dup hS rfl dX12_isLineText_31 ?_
      refine a_getI hS dX12_isLineText_32 flX12_194 (sB0 hW) rfl ?_
      refine a_iconst hS dX12_isLineText_35 ?_
      refine a_iadd hS dX12_isLineText_36 ?_
      refine a_putI hS dX12_isLineText_37 plX12_194 (sB0 hW) rfl ?_
      refine a_letM (fun s4 => ?_)
      refine a_goto hS (tgt := 5) dX12_isLineText_40 (by decide) ?_
      exact hr5  s4
set_option maxRecDepth 100000 in
set_option maxHeartbeats 4000000 in
theorem c_Md_isLineText {l : Launch} {w : Wd} (hW : shp w = ShB)  (σ : Mem)  : Ctr l w yX12_isLineText cX12_isLineText 1 (some .boolean) (rmN 0 0) 1 [rf w 0] σ (Md_isLineText  σ) := by
  refine met_of (own := RX12) (by decide) rfl rfl rfl (Nat.le_of_ble_eq_true rfl) (fun X x hXl hN hS => ⟨[some (rf w 0)], ⟨0, rfl⟩, ?_⟩)
  subst hXl
  unfold Md_isLineText
  refine a_aload_n hS dX12_isLineText_0 rfl ?_
  refine a_iconst hS dX12_isLineText_1 ?_
  refine a_putI hS dX12_isLineText_2 plX12_194 (sB0 hW) rfl ?_
  refine a_letM (fun s1 => ?_)
  exact k_Md_isLineText_5 hS hN hW   100000  s1
noncomputable def Md_writes_47b   (r47 : Int → Int → Mem → Option (Int × Mem)) (x1 : Int) (x2 : Int) (σ : Mem) : Option (Int × Mem) := if wr x2 < wr ((σ 0 29) - (σ 0 28)) then (if 0 ≤ wr ((σ 0 28) + x2) ∧ wr ((σ 0 28) + x2) < (72 : Int) then (if 0 ≤ wr ((61 + (32 * x1)) + x2) ∧ wr ((61 + (32 * x1)) + x2) < (10780 : Int) then (letM (upM σ 1 (wr ((61 + (32 * x1)) + x2)).toNat (σ 3 (wr ((σ 0 28) + x2)).toNat)) fun s4 => r47 x1 (x2 + 1) s4) else none) else none) else (some (0, σ))
noncomputable def Md_writes_47   (n : Nat) : Int → Int → Mem → Option (Int × Mem) := fixN (fun _ _ _ => none) (Md_writes_47b  ) n
noncomputable def Md_writes (a0 : Int) (σ : Mem) : Option (Int × Mem) := if 0 ≤ wr (21 + a0) ∧ wr (21 + a0) < (10780 : Int) then (letM (upM σ 1 (wr (21 + a0)).toNat ((σ 0 29) - (σ 0 28))) fun s1 => if wr (s1 0 29) = wr (s1 0 28) then (if 0 ≤ wr (1 + a0) ∧ wr (1 + a0) < (10780 : Int) then (letM (upM s1 1 (wr (1 + a0)).toNat 0) fun s3 => Md_writes_47 100000 a0 0 s3) else none) else (if 0 ≤ wr (1 + a0) ∧ wr (1 + a0) < (10780 : Int) then (letM (upM s1 1 (wr (1 + a0)).toNat (s1 0 28)) fun s2 => Md_writes_47 100000 a0 0 s2) else none)) else none
set_option maxRecDepth 100000 in
set_option maxHeartbeats 4000000 in
theorem k_Md_writes_47 {X : Cx} {w : Wd} {x : Int × Mem} (hS : Std X (rmN 0 0) w cX12_writes RX12 none) (hN : cxn X = 3) (hW : shp w = ShB)   : ∀ (n : Nat) (x1 : Int) (x2 : Int) (σ : Mem), Sm X (rmN 0 0) w 0 x 47 [some (rf w 0), some (iv x1), some (iv x2)] [] σ (Md_writes_47   n x1 x2 σ) := by
  refine fix_ok (P := fun (r47 : Int → Int → Mem → Option (Int × Mem)) => ∀ (x1 : Int) (x2 : Int) (σ : Mem), Sm X (rmN 0 0) w 0 x 47 [some (rf w 0), some (iv x1), some (iv x2)] [] σ (r47 x1 x2 σ)) (fun _ _ _ => a_none) (fun r47 hr47 => ?_)
  intro x1 x2 σ
  unfold Md_writes_47b
  refine a_iload_n hS dX12_writes_47 rfl ?_
  refine a_aload_n hS dX12_writes_48 rfl ?_
  refine a_getI hS dX12_writes_49 flX12_197 (sB0 hW) rfl ?_
  refine a_aload_n hS dX12_writes_52 rfl ?_
  refine a_getI hS dX12_writes_53 flX12_194 (sB0 hW) rfl ?_
  refine a_isub hS dX12_writes_56 ?_
  refine a_icmpge hS rfl rfl (tgt := 91) dX12_writes_57 (by decide) ?_ ?_
  · exact a_vret hS rfl rfl dX12_writes_91
  · refine a_aload_n hS dX12_writes_60 rfl ?_
    refine a_getR hS (j := 1) dX12_writes_61 flX12_7 (sB0 hW) rfl ?_
    refine a_bipush hS dX12_writes_64 rfl ?_
    refine a_bipush hS dX12_writes_66 rfl ?_
    refine a_iload_n hS dX12_writes_68 rfl ?_
    refine a_imul hS dX12_writes_69 ?_
    refine a_iadd hS dX12_writes_70 ?_
    refine a_iload_n hS dX12_writes_71 rfl ?_
    refine a_iadd hS dX12_writes_72 ?_
    refine a_aload_n hS dX12_writes_73 rfl ?_
    refine a_getR hS (j := 3) dX12_writes_74 flX12_17 (sB0 hW) rfl ?_
    refine a_aload_n hS dX12_writes_77 rfl ?_
    refine a_getI hS dX12_writes_78 flX12_194 (sB0 hW) rfl ?_
    refine a_iload_n hS dX12_writes_81 rfl ?_
    refine a_iadd hS dX12_writes_82 ?_
    refine a_iald hS dX12_writes_83 (sB3 hW) ?_
    refine a_iast hS (sB1 hW) dX12_writes_84 ?_
    refine a_letM (fun s4 => ?_)
    refine a_iinc hS (L' := [some (rf w 0), some (iv x1), some (iv (x2 + 1))]) dX12_writes_85 rfl hN (Nat.le_of_ble_eq_true rfl) rfl rfl ?_
    refine a_goto hS (tgt := 47) dX12_writes_88 (by decide) ?_
    exact hr47 x1 (x2 + 1) s4
set_option maxRecDepth 100000 in
set_option maxHeartbeats 4000000 in
theorem c_Md_writes {l : Launch} {w : Wd} (hW : shp w = ShB) (a0 : Int) (σ : Mem)  : Ctr l w yX12_writes cX12_writes 3 none (rmN 0 0) 0 [rf w 0, iv a0] σ (Md_writes a0 σ) := by
  refine met_of (own := RX12) (by decide) rfl rfl rfl (Nat.le_of_ble_eq_true rfl) (fun X x hXl hN hS => ⟨[some (rf w 0), some (iv a0), none], ⟨1, rfl⟩, ?_⟩)
  subst hXl
  unfold Md_writes
  refine a_aload_n hS dX12_writes_0 rfl ?_
  refine a_getR hS (j := 1) dX12_writes_1 flX12_7 (sB0 hW) rfl ?_
  refine a_bipush hS dX12_writes_4 rfl ?_
  refine a_iload_n hS dX12_writes_6 rfl ?_
  refine a_iadd hS dX12_writes_7 ?_
  refine a_aload_n hS dX12_writes_8 rfl ?_
  refine a_getI hS dX12_writes_9 flX12_197 (sB0 hW) rfl ?_
  refine a_aload_n hS dX12_writes_12 rfl ?_
  refine a_getI hS dX12_writes_13 flX12_194 (sB0 hW) rfl ?_
  refine a_isub hS dX12_writes_16 ?_
  refine a_iast hS (sB1 hW) dX12_writes_17 ?_
  refine a_letM (fun s1 => ?_)
  refine a_aload_n hS dX12_writes_18 rfl ?_
  refine a_getR hS (j := 1) dX12_writes_19 flX12_7 (sB0 hW) rfl ?_
  refine a_iconst hS dX12_writes_22 ?_
  refine a_iload_n hS dX12_writes_23 rfl ?_
  refine a_iadd hS dX12_writes_24 ?_
  refine a_aload_n hS dX12_writes_25 rfl ?_
  refine a_getI hS dX12_writes_26 flX12_197 (sB0 hW) rfl ?_
  refine a_aload_n hS dX12_writes_29 rfl ?_
  refine a_getI hS dX12_writes_30 flX12_194 (sB0 hW) rfl ?_
  refine a_icmpne hS rfl rfl (tgt := 40) dX12_writes_33 (by decide) ?_ ?_
  · refine a_aload_n hS dX12_writes_40 rfl ?_
    refine a_getI hS dX12_writes_41 flX12_194 (sB0 hW) rfl ?_
    refine a_iast hS (sB1 hW) dX12_writes_44 ?_
    refine a_letM (fun s2 => ?_)
    refine a_iconst hS dX12_writes_45 ?_
    refine a_istore_n hS (L' := [some (rf w 0), some (iv a0), some (iv 0)]) dX12_writes_46 hN (Nat.le_of_ble_eq_true rfl) rfl rfl ?_
    exact k_Md_writes_47 hS hN hW   100000 a0 0 s2
  · refine a_iconst hS dX12_writes_36 ?_
    refine a_goto hS (tgt := 44) dX12_writes_37 (by decide) ?_
    refine a_iast hS (sB1 hW) dX12_writes_44 ?_
    refine a_letM (fun s3 => ?_)
    refine a_iconst hS dX12_writes_45 ?_
    refine a_istore_n hS (L' := [some (rf w 0), some (iv a0), some (iv 0)]) dX12_writes_46 hN (Nat.le_of_ble_eq_true rfl) rfl rfl ?_
    exact k_Md_writes_47 hS hN hW   100000 a0 0 s3
noncomputable def Md_copiesLine_54b   (r54 : Int → Int → Int → Mem → Option (Int × Mem)) (x1 : Int) (x2 : Int) (x3 : Int) (σ : Mem) : Option (Int × Mem) := if wr x3 < 32 then (if 0 ≤ wr ((61 + (32 * x1)) + x3) ∧ wr ((61 + (32 * x1)) + x3) < (10780 : Int) then (if 0 ≤ wr ((61 + (32 * x2)) + x3) ∧ wr ((61 + (32 * x2)) + x3) < (10780 : Int) then (letM (upM σ 1 (wr ((61 + (32 * x2)) + x3)).toNat (σ 1 (wr ((61 + (32 * x1)) + x3)).toNat)) fun s4 => r54 x1 x2 (x3 + 1) s4) else none) else none) else (some (0, σ))
noncomputable def Md_copiesLine_54   (n : Nat) : Int → Int → Int → Mem → Option (Int × Mem) := fixN (fun _ _ _ _ => none) (Md_copiesLine_54b  ) n
noncomputable def Md_copiesLine (a0 : Int) (a1 : Int) (σ : Mem) : Option (Int × Mem) := if 0 ≤ wr (1 + a0) ∧ wr (1 + a0) < (10780 : Int) then (if 0 ≤ wr (1 + a1) ∧ wr (1 + a1) < (10780 : Int) then (letM (upM σ 1 (wr (1 + a1)).toNat (σ 1 (wr (1 + a0)).toNat)) fun s1 => if 0 ≤ wr (21 + a0) ∧ wr (21 + a0) < (10780 : Int) then (if 0 ≤ wr (21 + a1) ∧ wr (21 + a1) < (10780 : Int) then (letM (upM s1 1 (wr (21 + a1)).toNat (s1 1 (wr (21 + a0)).toNat)) fun s2 => if 0 ≤ wr (41 + a0) ∧ wr (41 + a0) < (10780 : Int) then (if 0 ≤ wr (41 + a1) ∧ wr (41 + a1) < (10780 : Int) then (letM (upM s2 1 (wr (41 + a1)).toNat (s2 1 (wr (41 + a0)).toNat)) fun s3 => Md_copiesLine_54 100000 a0 a1 0 s3) else none) else none) else none) else none) else none) else none
set_option maxRecDepth 100000 in
set_option maxHeartbeats 4000000 in
theorem k_Md_copiesLine_54 {X : Cx} {w : Wd} {x : Int × Mem} (hS : Std X (rmN 0 0) w cX12_copiesLine RX12 none) (hN : cxn X = 4) (hW : shp w = ShB)   : ∀ (n : Nat) (x1 : Int) (x2 : Int) (x3 : Int) (σ : Mem), Sm X (rmN 0 0) w 0 x 54 [some (rf w 0), some (iv x1), some (iv x2), some (iv x3)] [] σ (Md_copiesLine_54   n x1 x2 x3 σ) := by
  refine fix_ok (P := fun (r54 : Int → Int → Int → Mem → Option (Int × Mem)) => ∀ (x1 : Int) (x2 : Int) (x3 : Int) (σ : Mem), Sm X (rmN 0 0) w 0 x 54 [some (rf w 0), some (iv x1), some (iv x2), some (iv x3)] [] σ (r54 x1 x2 x3 σ)) (fun _ _ _ _ => a_none) (fun r54 hr54 => ?_)
  intro x1 x2 x3 σ
  unfold Md_copiesLine_54b
  refine a_iload_n hS dX12_copiesLine_54 rfl ?_
  refine a_bipush hS dX12_copiesLine_55 rfl ?_
  refine a_icmpge hS rfl (wl 32 rfl) (tgt := 94) dX12_copiesLine_57 (by decide) ?_ ?_
  · exact a_vret hS rfl rfl dX12_copiesLine_94
  · refine a_aload_n hS dX12_copiesLine_60 rfl ?_
    refine a_getR hS (j := 1) dX12_copiesLine_61 flX12_7 (sB0 hW) rfl ?_
    refine a_bipush hS dX12_copiesLine_64 rfl ?_
    refine a_bipush hS dX12_copiesLine_66 rfl ?_
    refine a_iload_n hS dX12_copiesLine_68 rfl ?_
    refine a_imul hS dX12_copiesLine_69 ?_
    refine a_iadd hS dX12_copiesLine_70 ?_
    refine a_iload_n hS dX12_copiesLine_71 rfl ?_
    refine a_iadd hS dX12_copiesLine_72 ?_
    refine a_aload_n hS dX12_copiesLine_73 rfl ?_
    refine a_getR hS (j := 1) dX12_copiesLine_74 flX12_7 (sB0 hW) rfl ?_
    refine a_bipush hS dX12_copiesLine_77 rfl ?_
    refine a_bipush hS dX12_copiesLine_79 rfl ?_
    refine a_iload_n hS dX12_copiesLine_81 rfl ?_
    refine a_imul hS dX12_copiesLine_82 ?_
    refine a_iadd hS dX12_copiesLine_83 ?_
    refine a_iload_n hS dX12_copiesLine_84 rfl ?_
    refine a_iadd hS dX12_copiesLine_85 ?_
    refine a_iald hS dX12_copiesLine_86 (sB1 hW) ?_
    refine a_iast hS (sB1 hW) dX12_copiesLine_87 ?_
    refine a_letM (fun s4 => ?_)
    refine a_iinc hS (L' := [some (rf w 0), some (iv x1), some (iv x2), some (iv (x3 + 1))]) dX12_copiesLine_88 rfl hN (Nat.le_of_ble_eq_true rfl) rfl rfl ?_
    refine a_goto hS (tgt := 54) dX12_copiesLine_91 (by decide) ?_
    exact hr54 x1 x2 (x3 + 1) s4
set_option maxRecDepth 100000 in
set_option maxHeartbeats 4000000 in
theorem c_Md_copiesLine {l : Launch} {w : Wd} (hW : shp w = ShB) (a0 : Int) (a1 : Int) (σ : Mem)  : Ctr l w yX12_copiesLine cX12_copiesLine 4 none (rmN 0 0) 0 [rf w 0, iv a0, iv a1] σ (Md_copiesLine a0 a1 σ) := by
  refine met_of (own := RX12) (by decide) rfl rfl rfl (Nat.le_of_ble_eq_true rfl) (fun X x hXl hN hS => ⟨[some (rf w 0), some (iv a0), some (iv a1), none], ⟨1, rfl⟩, ?_⟩)
  subst hXl
  unfold Md_copiesLine
  refine a_aload_n hS dX12_copiesLine_0 rfl ?_
  refine a_getR hS (j := 1) dX12_copiesLine_1 flX12_7 (sB0 hW) rfl ?_
  refine a_iconst hS dX12_copiesLine_4 ?_
  refine a_iload_n hS dX12_copiesLine_5 rfl ?_
  refine a_iadd hS dX12_copiesLine_6 ?_
  refine a_aload_n hS dX12_copiesLine_7 rfl ?_
  refine a_getR hS (j := 1) dX12_copiesLine_8 flX12_7 (sB0 hW) rfl ?_
  refine a_iconst hS dX12_copiesLine_11 ?_
  refine a_iload_n hS dX12_copiesLine_12 rfl ?_
  refine a_iadd hS dX12_copiesLine_13 ?_
  refine a_iald hS dX12_copiesLine_14 (sB1 hW) ?_
  refine a_iast hS (sB1 hW) dX12_copiesLine_15 ?_
  refine a_letM (fun s1 => ?_)
  refine a_aload_n hS dX12_copiesLine_16 rfl ?_
  refine a_getR hS (j := 1) dX12_copiesLine_17 flX12_7 (sB0 hW) rfl ?_
  refine a_bipush hS dX12_copiesLine_20 rfl ?_
  refine a_iload_n hS dX12_copiesLine_22 rfl ?_
  refine a_iadd hS dX12_copiesLine_23 ?_
  refine a_aload_n hS dX12_copiesLine_24 rfl ?_
  refine a_getR hS (j := 1) dX12_copiesLine_25 flX12_7 (sB0 hW) rfl ?_
  refine a_bipush hS dX12_copiesLine_28 rfl ?_
  refine a_iload_n hS dX12_copiesLine_30 rfl ?_
  refine a_iadd hS dX12_copiesLine_31 ?_
  refine a_iald hS dX12_copiesLine_32 (sB1 hW) ?_
  refine a_iast hS (sB1 hW) dX12_copiesLine_33 ?_
  refine a_letM (fun s2 => ?_)
  refine a_aload_n hS dX12_copiesLine_34 rfl ?_
  refine a_getR hS (j := 1) dX12_copiesLine_35 flX12_7 (sB0 hW) rfl ?_
  refine a_bipush hS dX12_copiesLine_38 rfl ?_
  refine a_iload_n hS dX12_copiesLine_40 rfl ?_
  refine a_iadd hS dX12_copiesLine_41 ?_
  refine a_aload_n hS dX12_copiesLine_42 rfl ?_
  refine a_getR hS (j := 1) dX12_copiesLine_43 flX12_7 (sB0 hW) rfl ?_
  refine a_bipush hS dX12_copiesLine_46 rfl ?_
  refine a_iload_n hS dX12_copiesLine_48 rfl ?_
  refine a_iadd hS dX12_copiesLine_49 ?_
  refine a_iald hS dX12_copiesLine_50 (sB1 hW) ?_
  refine a_iast hS (sB1 hW) dX12_copiesLine_51 ?_
  refine a_letM (fun s3 => ?_)
  refine a_iconst hS dX12_copiesLine_52 ?_
  refine a_istore_n hS (L' := [some (rf w 0), some (iv a0), some (iv a1), some (iv 0)]) dX12_copiesLine_53 hN (Nat.le_of_ble_eq_true rfl) rfl rfl ?_
  exact k_Md_copiesLine_54 hS hN hW   100000 a0 a1 0 s3
noncomputable def Md_parts_7b   (r7 : Int → Int → Mem → Option (Int × Mem)) (x1 : Int) (x2 : Int) (σ : Mem) : Option (Int × Mem) := if wr x1 < wr x2 then ((Md_copiesLine (x2 - 1) x2 σ).bind fun q3 => r7 x1 (x2 + (-1)) q3.2) else (if 0 ≤ wr 0 ∧ wr 0 < (10780 : Int) then (if 0 ≤ wr 0 ∧ wr 0 < (10780 : Int) then (letM (upM σ 1 (wr 0).toNat ((σ 1 (wr 0).toNat) + 1)) fun s1 => if 0 ≤ wr (41 + x1) ∧ wr (41 + x1) < (10780 : Int) then (letM (upM s1 1 (wr (41 + x1)).toNat 0) fun s2 => some (0, s2)) else none) else none) else none)
noncomputable def Md_parts_7   (n : Nat) : Int → Int → Mem → Option (Int × Mem) := fixN (fun _ _ _ => none) (Md_parts_7b  ) n
noncomputable def Md_parts (a0 : Int) (σ : Mem) : Option (Int × Mem) := if 0 ≤ wr 0 ∧ wr 0 < (10780 : Int) then (Md_parts_7 100000 a0 (σ 1 (wr 0).toNat) σ) else none
set_option maxRecDepth 100000 in
set_option maxHeartbeats 4000000 in
theorem k_Md_parts_7 {X : Cx} {w : Wd} {x : Int × Mem} (hS : Std X (rmN 1 23) w cX12_parts RX12 none) (hN : cxn X = 3) (hW : shp w = ShB)   : ∀ (n : Nat) (x1 : Int) (x2 : Int) (σ : Mem), Sm X (rmN 1 23) w 0 x 7 [some (rf w 0), some (iv x1), some (iv x2)] [] σ (Md_parts_7   n x1 x2 σ) := by
  refine fix_ok (P := fun (r7 : Int → Int → Mem → Option (Int × Mem)) => ∀ (x1 : Int) (x2 : Int) (σ : Mem), Sm X (rmN 1 23) w 0 x 7 [some (rf w 0), some (iv x1), some (iv x2)] [] σ (r7 x1 x2 σ)) (fun _ _ _ => a_none) (fun r7 hr7 => ?_)
  intro x1 x2 σ
  unfold Md_parts_7b
  refine a_iload_n hS dX12_parts_7 rfl ?_
  refine a_iload_n hS dX12_parts_8 rfl ?_
  refine a_icmple hS rfl rfl (tgt := 26) dX12_parts_9 (by decide) ?_ ?_
  · refine a_aload_n hS dX12_parts_26 rfl ?_
    refine a_getR hS (j := 1) dX12_parts_27 flX12_7 (sB0 hW) rfl ?_
    refine a_iconst hS dX12_parts_30 ?_
    refine a_dup2 hS rfl rfl dX12_parts_31 ?_
    refine a_iald hS dX12_parts_32 (sB1 hW) ?_
    refine a_iconst hS dX12_parts_33 ?_
    refine a_iadd hS dX12_parts_34 ?_
    refine a_iast hS (sB1 hW) dX12_parts_35 ?_
    refine a_letM (fun s1 => ?_)
    refine a_aload_n hS dX12_parts_36 rfl ?_
    refine a_getR hS (j := 1) dX12_parts_37 flX12_7 (sB0 hW) rfl ?_
    refine a_bipush hS dX12_parts_40 rfl ?_
    refine a_iload_n hS dX12_parts_42 rfl ?_
    refine a_iadd hS dX12_parts_43 ?_
    refine a_iconst hS dX12_parts_44 ?_
    refine a_iast hS (sB1 hW) dX12_parts_45 ?_
    refine a_letM (fun s2 => ?_)
    exact a_vret hS rfl rfl dX12_parts_46
  · refine a_aload_n hS dX12_parts_12 rfl ?_
    refine a_iload_n hS dX12_parts_13 rfl ?_
    refine a_iconst hS dX12_parts_14 ?_
    refine a_isub hS dX12_parts_15 ?_
    refine a_iload_n hS dX12_parts_16 rfl ?_
    refine a_callVv hS (rst := []) (c_Md_copiesLine hW (x2 - 1) x2 σ ) miX12_copiesLine mlX12_200 (sB0 hW) rfl rfl (Nat.le_of_ble_eq_true rfl) (Nat.le_of_ble_eq_true rfl) (Nat.le_of_ble_eq_true rfl) rfl dX12_parts_17 (fun q3 => ?_)
    refine a_iinc hS (L' := [some (rf w 0), some (iv x1), some (iv (x2 + (-1)))]) dX12_parts_20 rfl hN (Nat.le_of_ble_eq_true rfl) rfl rfl ?_
    refine a_goto hS (tgt := 7) dX12_parts_23 (by decide) ?_
    exact hr7 x1 (x2 + (-1)) q3.2
set_option maxRecDepth 100000 in
set_option maxHeartbeats 4000000 in
theorem c_Md_parts {l : Launch} {w : Wd} (hW : shp w = ShB) (a0 : Int) (σ : Mem)  : Ctr l w yX12_parts cX12_parts 3 none (rmN 1 23) 0 [rf w 0, iv a0] σ (Md_parts a0 σ) := by
  refine met_of (own := RX12) (by decide) rfl rfl rfl (Nat.le_of_ble_eq_true rfl) (fun X x hXl hN hS => ⟨[some (rf w 0), some (iv a0), none], ⟨1, rfl⟩, ?_⟩)
  subst hXl
  unfold Md_parts
  refine a_aload_n hS dX12_parts_0 rfl ?_
  refine a_getR hS (j := 1) dX12_parts_1 flX12_7 (sB0 hW) rfl ?_
  refine a_iconst hS dX12_parts_4 ?_
  refine a_iald hS dX12_parts_5 (sB1 hW) ?_
  refine a_istore_n hS (L' := [some (rf w 0), some (iv a0), some (iv (σ 1 (wr 0).toNat))]) dX12_parts_6 hN (Nat.le_of_ble_eq_true rfl) rfl rfl ?_
  exact k_Md_parts_7 hS hN hW   100000 a0 (σ 1 (wr 0).toNat) σ
noncomputable def Md_drops_2b   (r2 : Int → Mem → Option (Int × Mem)) (x2 : Int) (σ : Mem) : Option (Int × Mem) := if 0 ≤ wr 0 ∧ wr 0 < (10780 : Int) then (if wr (x2 + 1) < wr (σ 1 (wr 0).toNat) then ((Md_copiesLine (x2 + 1) x2 σ).bind fun q2 => r2 (x2 + 1) q2.2) else (if 0 ≤ wr 0 ∧ wr 0 < (10780 : Int) then (if 0 ≤ wr 0 ∧ wr 0 < (10780 : Int) then (letM (upM σ 1 (wr 0).toNat ((σ 1 (wr 0).toNat) - 1)) fun s1 => some (0, s1)) else none) else none)) else none
noncomputable def Md_drops_2   (n : Nat) : Int → Mem → Option (Int × Mem) := fixN (fun _ _ => none) (Md_drops_2b  ) n
noncomputable def Md_drops (a0 : Int) (σ : Mem) : Option (Int × Mem) := Md_drops_2 100000 a0 σ
set_option maxRecDepth 100000 in
set_option maxHeartbeats 4000000 in
theorem k_Md_drops_2 {X : Cx} {w : Wd} {x : Int × Mem} (hS : Std X (rmN 1 23) w cX12_drops RX12 none) (hN : cxn X = 3) (hW : shp w = ShB)   : ∀ (n : Nat) (x2 : Int) (σ : Mem), Sm X (rmN 1 23) w 0 x 2 [some (rf w 0), none, some (iv x2)] [] σ (Md_drops_2   n x2 σ) := by
  refine fix_ok (P := fun (r2 : Int → Mem → Option (Int × Mem)) => ∀ (x2 : Int) (σ : Mem), Sm X (rmN 1 23) w 0 x 2 [some (rf w 0), none, some (iv x2)] [] σ (r2 x2 σ)) (fun _ _ => a_none) (fun r2 hr2 => ?_)
  intro x2 σ
  unfold Md_drops_2b
  refine a_iload_n hS dX12_drops_2 rfl ?_
  refine a_iconst hS dX12_drops_3 ?_
  refine a_iadd hS dX12_drops_4 ?_
  refine a_aload_n hS dX12_drops_5 rfl ?_
  refine a_getR hS (j := 1) dX12_drops_6 flX12_7 (sB0 hW) rfl ?_
  refine a_iconst hS dX12_drops_9 ?_
  refine a_iald hS dX12_drops_10 (sB1 hW) ?_
  refine a_icmpge hS rfl rfl (tgt := 28) dX12_drops_11 (by decide) ?_ ?_
  · refine a_aload_n hS dX12_drops_28 rfl ?_
    refine a_getR hS (j := 1) dX12_drops_29 flX12_7 (sB0 hW) rfl ?_
    refine a_iconst hS dX12_drops_32 ?_
    refine a_dup2 hS rfl rfl dX12_drops_33 ?_
    refine a_iald hS dX12_drops_34 (sB1 hW) ?_
    refine a_iconst hS dX12_drops_35 ?_
    refine a_isub hS dX12_drops_36 ?_
    refine a_iast hS (sB1 hW) dX12_drops_37 ?_
    refine a_letM (fun s1 => ?_)
    exact a_vret hS rfl rfl dX12_drops_38
  · refine a_aload_n hS dX12_drops_14 rfl ?_
    refine a_iload_n hS dX12_drops_15 rfl ?_
    refine a_iconst hS dX12_drops_16 ?_
    refine a_iadd hS dX12_drops_17 ?_
    refine a_iload_n hS dX12_drops_18 rfl ?_
    refine a_callVv hS (rst := []) (c_Md_copiesLine hW (x2 + 1) x2 σ ) miX12_copiesLine mlX12_200 (sB0 hW) rfl rfl (Nat.le_of_ble_eq_true rfl) (Nat.le_of_ble_eq_true rfl) (Nat.le_of_ble_eq_true rfl) rfl dX12_drops_19 (fun q2 => ?_)
    refine a_iinc hS (L' := [some (rf w 0), none, some (iv (x2 + 1))]) dX12_drops_22 rfl hN (Nat.le_of_ble_eq_true rfl) rfl rfl ?_
    refine a_goto hS (tgt := 2) dX12_drops_25 (by decide) ?_
    exact hr2 (x2 + 1) q2.2
set_option maxRecDepth 100000 in
set_option maxHeartbeats 4000000 in
theorem c_Md_drops {l : Launch} {w : Wd} (hW : shp w = ShB) (a0 : Int) (σ : Mem)  : Ctr l w yX12_drops cX12_drops 3 none (rmN 1 23) 0 [rf w 0, iv a0] σ (Md_drops a0 σ) := by
  refine met_of (own := RX12) (by decide) rfl rfl rfl (Nat.le_of_ble_eq_true rfl) (fun X x hXl hN hS => ⟨[some (rf w 0), some (iv a0), none], ⟨1, rfl⟩, ?_⟩)
  subst hXl
  unfold Md_drops
  refine a_iload_n hS dX12_drops_0 rfl ?_
  refine a_istore_n hS (L' := [some (rf w 0), some (iv a0), some (iv a0)]) dX12_drops_1 hN (Nat.le_of_ble_eq_true rfl) rfl rfl ?_
  exact a_live (M := [true, false, true]) (k_Md_drops_2 hS hN hW   100000 a0 σ) rfl
noncomputable def Md_insertLine (a0 : Int) (σ : Mem) : Option (Int × Mem) := if 0 ≤ wr 0 ∧ wr 0 < (10780 : Int) then ((Md_in a0 0 (σ 1 (wr 0).toNat) σ).bind fun q1 => if wr q1.1 = 0 then (some ((-1), q1.2)) else (if 0 ≤ wr 0 ∧ wr 0 < (10780 : Int) then (if wr (q1.2 1 (wr 0).toNat) = 20 then (some ((-3), q1.2)) else ((Md_isLineText  q1.2).bind fun q2 => if wr q2.1 = 0 then (some ((-3), q2.2)) else ((Md_begins  q2.2).bind fun q3 => (Md_parts a0 q3.2).bind fun q4 => (Md_writes a0 q4.2).bind fun q5 => if 0 ≤ wr 0 ∧ wr 0 < (10780 : Int) then (some ((q5.2 1 (wr 0).toNat), q5.2)) else none))) else none)) else none
set_option maxRecDepth 100000 in
set_option maxHeartbeats 4000000 in
theorem c_Md_insertLine {l : Launch} {w : Wd} (hW : shp w = ShB) (a0 : Int) (σ : Mem)  : Ctr l w yX12_insertLine cX12_insertLine 2 (some .int) (rmN 2 45) 1 [rf w 0, iv a0] σ (Md_insertLine a0 σ) := by
  refine met_of (own := RX12) (by decide) rfl rfl rfl (Nat.le_of_ble_eq_true rfl) (fun X x hXl hN hS => ⟨[some (rf w 0), some (iv a0)], ⟨0, rfl⟩, ?_⟩)
  subst hXl
  unfold Md_insertLine
  refine a_iload_n hS dX12_insertLine_0 rfl ?_
  refine a_iconst hS dX12_insertLine_1 ?_
  refine a_aload_n hS dX12_insertLine_2 rfl ?_
  refine a_getR hS (j := 1) dX12_insertLine_3 flX12_7 (sB0 hW) rfl ?_
  refine a_iconst hS dX12_insertLine_6 ?_
  refine a_iald hS dX12_insertLine_7 (sB1 hW) ?_
  refine a_callSi hS (rst := []) (c_Md_in hW a0 0 (σ 1 (wr 0).toNat) σ ) msX12_in mlX12_79 rfl (Nat.le_of_ble_eq_true rfl) (Nat.le_of_ble_eq_true rfl) (Nat.le_of_ble_eq_true rfl) rfl dX12_insertLine_8 (fun q1 => ?_)
  refine a_ifne hS rfl  (tgt := 16) dX12_insertLine_11 (by decide) ?_ ?_
  · refine a_aload_n hS dX12_insertLine_16 rfl ?_
    refine a_getR hS (j := 1) dX12_insertLine_17 flX12_7 (sB0 hW) rfl ?_
    refine a_iconst hS dX12_insertLine_20 ?_
    refine a_iald hS dX12_insertLine_21 (sB1 hW) ?_
    refine a_bipush hS dX12_insertLine_22 rfl ?_
    refine a_icmpeq hS rfl (wl 20 rfl) (tgt := 34) dX12_insertLine_24 (by decide) ?_ ?_
    · refine a_bipush hS dX12_insertLine_34 rfl ?_
      exact a_iret hS rfl rfl dX12_insertLine_36
    · refine a_aload_n hS dX12_insertLine_27 rfl ?_
      refine a_callVi hS (rst := []) (c_Md_isLineText hW  q1.2 ) miX12_isLineText mlX12_203 (sB0 hW) rfl rfl (Nat.le_of_ble_eq_true rfl) (Nat.le_of_ble_eq_true rfl) (Nat.le_of_ble_eq_true rfl) rfl dX12_insertLine_28 (fun q2 => ?_)
      refine a_ifne hS rfl  (tgt := 37) dX12_insertLine_31 (by decide) ?_ ?_
      · refine a_aload_n hS dX12_insertLine_37 rfl ?_
        refine a_callVv hS (rst := []) (c_Md_begins hW  q2.2 ) miX12_begins mlX12_207 (sB0 hW) rfl rfl (Nat.le_of_ble_eq_true rfl) (Nat.le_of_ble_eq_true rfl) (Nat.le_of_ble_eq_true rfl) rfl dX12_insertLine_38 (fun q3 => ?_)
        refine a_aload_n hS dX12_insertLine_41 rfl ?_
        refine a_iload_n hS dX12_insertLine_42 rfl ?_
        refine a_callVv hS (rst := []) (c_Md_parts hW a0 q3.2 ) miX12_parts mlX12_210 (sB0 hW) rfl rfl (Nat.le_of_ble_eq_true rfl) (Nat.le_of_ble_eq_true rfl) (Nat.le_of_ble_eq_true rfl) rfl dX12_insertLine_43 (fun q4 => ?_)
        refine a_aload_n hS dX12_insertLine_46 rfl ?_
        refine a_iload_n hS dX12_insertLine_47 rfl ?_
        refine a_callVv hS (rst := []) (c_Md_writes hW a0 q4.2 ) miX12_writes mlX12_213 (sB0 hW) rfl rfl (Nat.le_of_ble_eq_true rfl) (Nat.le_of_ble_eq_true rfl) (Nat.le_of_ble_eq_true rfl) rfl dX12_insertLine_48 (fun q5 => ?_)
        refine a_aload_n hS dX12_insertLine_51 rfl ?_
        refine a_getR hS (j := 1) dX12_insertLine_52 flX12_7 (sB0 hW) rfl ?_
        refine a_iconst hS dX12_insertLine_55 ?_
        refine a_iald hS dX12_insertLine_56 (sB1 hW) ?_
        exact a_iret hS rfl rfl dX12_insertLine_57
      · refine a_bipush hS dX12_insertLine_34 rfl ?_
        exact a_iret hS rfl rfl dX12_insertLine_36
  · refine a_iconst hS dX12_insertLine_14 ?_
    exact a_iret hS rfl rfl dX12_insertLine_15
noncomputable def Md_replaceLine (a0 : Int) (σ : Mem) : Option (Int × Mem) := (Md_isLine a0 σ).bind fun q1 => if wr q1.1 = 0 then (some ((-1), q1.2)) else ((Md_isLineText  q1.2).bind fun q2 => if wr q2.1 = 0 then (some ((-3), q2.2)) else ((Md_begins  q2.2).bind fun q3 => if 0 ≤ wr (1 + a0) ∧ wr (1 + a0) < (10780 : Int) then ((Md_writes a0 q3.2).bind fun q4 => some ((q3.2 1 (wr (1 + a0)).toNat), q4.2)) else none))
set_option maxRecDepth 100000 in
set_option maxHeartbeats 4000000 in
theorem c_Md_replaceLine {l : Launch} {w : Wd} (hW : shp w = ShB) (a0 : Int) (σ : Mem)  : Ctr l w yX12_replaceLine cX12_replaceLine 3 (some .int) (rmN 2 44) 1 [rf w 0, iv a0] σ (Md_replaceLine a0 σ) := by
  refine met_of (own := RX12) (by decide) rfl rfl rfl (Nat.le_of_ble_eq_true rfl) (fun X x hXl hN hS => ⟨[some (rf w 0), some (iv a0), none], ⟨1, rfl⟩, ?_⟩)
  subst hXl
  unfold Md_replaceLine
  refine a_aload_n hS dX12_replaceLine_0 rfl ?_
  refine a_iload_n hS dX12_replaceLine_1 rfl ?_
  refine a_callVi hS (rst := []) (c_Md_isLine hW a0 σ ) miX12_isLine mlX12_216 (sB0 hW) rfl rfl (Nat.le_of_ble_eq_true rfl) (Nat.le_of_ble_eq_true rfl) (Nat.le_of_ble_eq_true rfl) rfl dX12_replaceLine_2 (fun q1 => ?_)
  refine a_ifne hS rfl  (tgt := 10) dX12_replaceLine_5 (by decide) ?_ ?_
  · refine a_aload_n hS dX12_replaceLine_10 rfl ?_
    refine a_callVi hS (rst := []) (c_Md_isLineText hW  q1.2 ) miX12_isLineText mlX12_203 (sB0 hW) rfl rfl (Nat.le_of_ble_eq_true rfl) (Nat.le_of_ble_eq_true rfl) (Nat.le_of_ble_eq_true rfl) rfl dX12_replaceLine_11 (fun q2 => ?_)
    refine a_ifne hS rfl  (tgt := 20) dX12_replaceLine_14 (by decide) ?_ ?_
    · refine a_aload_n hS dX12_replaceLine_20 rfl ?_
      refine a_callVv hS (rst := []) (c_Md_begins hW  q2.2 ) miX12_begins mlX12_207 (sB0 hW) rfl rfl (Nat.le_of_ble_eq_true rfl) (Nat.le_of_ble_eq_true rfl) (Nat.le_of_ble_eq_true rfl) rfl dX12_replaceLine_21 (fun q3 => ?_)
      refine a_aload_n hS dX12_replaceLine_24 rfl ?_
      refine a_getR hS (j := 1) dX12_replaceLine_25 flX12_7 (sB0 hW) rfl ?_
      refine a_iconst hS dX12_replaceLine_28 ?_
      refine a_iload_n hS dX12_replaceLine_29 rfl ?_
      refine a_iadd hS dX12_replaceLine_30 ?_
      refine a_iald hS dX12_replaceLine_31 (sB1 hW) ?_
      refine a_istore_n hS (L' := [some (rf w 0), some (iv a0), some (iv (q3.2 1 (wr (1 + a0)).toNat))]) dX12_replaceLine_32 hN (Nat.le_of_ble_eq_true rfl) rfl rfl ?_
      refine a_aload_n hS dX12_replaceLine_33 rfl ?_
      refine a_iload_n hS dX12_replaceLine_34 rfl ?_
      refine a_callVv hS (rst := []) (c_Md_writes hW a0 q3.2 ) miX12_writes mlX12_213 (sB0 hW) rfl rfl (Nat.le_of_ble_eq_true rfl) (Nat.le_of_ble_eq_true rfl) (Nat.le_of_ble_eq_true rfl) rfl dX12_replaceLine_35 (fun q4 => ?_)
      refine a_iload_n hS dX12_replaceLine_38 rfl ?_
      exact a_iret hS rfl rfl dX12_replaceLine_39
    · refine a_bipush hS dX12_replaceLine_17 rfl ?_
      exact a_iret hS rfl rfl dX12_replaceLine_19
  · refine a_iconst hS dX12_replaceLine_8 ?_
    exact a_iret hS rfl rfl dX12_replaceLine_9
noncomputable def Md_removeLine (a0 : Int) (σ : Mem) : Option (Int × Mem) := (Md_isLine a0 σ).bind fun q1 => if wr q1.1 = 0 then (some ((-1), q1.2)) else ((Md_begins  q1.2).bind fun q2 => (Md_drops a0 q2.2).bind fun q3 => if 0 ≤ wr 0 ∧ wr 0 < (10780 : Int) then (some ((q3.2 1 (wr 0).toNat), q3.2)) else none)
set_option maxRecDepth 100000 in
set_option maxHeartbeats 4000000 in
theorem c_Md_removeLine {l : Launch} {w : Wd} (hW : shp w = ShB) (a0 : Int) (σ : Mem)  : Ctr l w yX12_removeLine cX12_removeLine 2 (some .int) (rmN 2 45) 1 [rf w 0, iv a0] σ (Md_removeLine a0 σ) := by
  refine met_of (own := RX12) (by decide) rfl rfl rfl (Nat.le_of_ble_eq_true rfl) (fun X x hXl hN hS => ⟨[some (rf w 0), some (iv a0)], ⟨0, rfl⟩, ?_⟩)
  subst hXl
  unfold Md_removeLine
  refine a_aload_n hS dX12_removeLine_0 rfl ?_
  refine a_iload_n hS dX12_removeLine_1 rfl ?_
  refine a_callVi hS (rst := []) (c_Md_isLine hW a0 σ ) miX12_isLine mlX12_216 (sB0 hW) rfl rfl (Nat.le_of_ble_eq_true rfl) (Nat.le_of_ble_eq_true rfl) (Nat.le_of_ble_eq_true rfl) rfl dX12_removeLine_2 (fun q1 => ?_)
  refine a_ifne hS rfl  (tgt := 10) dX12_removeLine_5 (by decide) ?_ ?_
  · refine a_aload_n hS dX12_removeLine_10 rfl ?_
    refine a_callVv hS (rst := []) (c_Md_begins hW  q1.2 ) miX12_begins mlX12_207 (sB0 hW) rfl rfl (Nat.le_of_ble_eq_true rfl) (Nat.le_of_ble_eq_true rfl) (Nat.le_of_ble_eq_true rfl) rfl dX12_removeLine_11 (fun q2 => ?_)
    refine a_aload_n hS dX12_removeLine_14 rfl ?_
    refine a_iload_n hS dX12_removeLine_15 rfl ?_
    refine a_callVv hS (rst := []) (c_Md_drops hW a0 q2.2 ) miX12_drops mlX12_219 (sB0 hW) rfl rfl (Nat.le_of_ble_eq_true rfl) (Nat.le_of_ble_eq_true rfl) (Nat.le_of_ble_eq_true rfl) rfl dX12_removeLine_16 (fun q3 => ?_)
    refine a_aload_n hS dX12_removeLine_19 rfl ?_
    refine a_getR hS (j := 1) dX12_removeLine_20 flX12_7 (sB0 hW) rfl ?_
    refine a_iconst hS dX12_removeLine_23 ?_
    refine a_iald hS dX12_removeLine_24 (sB1 hW) ?_
    exact a_iret hS rfl rfl dX12_removeLine_25
  · refine a_iconst hS dX12_removeLine_8 ?_
    exact a_iret hS rfl rfl dX12_removeLine_9
noncomputable def Md_splitLine_170b   (r170 : Int → Mem → Option (Int × Mem)) (x1 : Int) (σ : Mem) : Option (Int × Mem) := if 0 ≤ wr (21 + x1) ∧ wr (21 + x1) < (10780 : Int) then ((Md_contentAt x1 ((σ 1 (wr (21 + x1)).toNat) - 1) σ).bind fun q10 => if wr q10.1 = 32 then (if 0 ≤ wr (21 + x1) ∧ wr (21 + x1) < (10780 : Int) then (if 0 ≤ wr (21 + x1) ∧ wr (21 + x1) < (10780 : Int) then (letM (upM q10.2 1 (wr (21 + x1)).toNat ((q10.2 1 (wr (21 + x1)).toNat) - 1)) fun s15 => r170 x1 s15) else none) else none) else (if 0 ≤ wr 977 ∧ wr 977 < (10780 : Int) then (if 0 ≤ wr 978 ∧ wr 978 < (10780 : Int) then ((Md_uses (q10.2 1 (wr 977).toNat) (q10.2 1 (wr 978).toNat) q10.2).bind fun q11 => (Md_isFree (x1 + 1) q11.2).bind fun q12 => if wr q12.1 = 0 then (if 0 ≤ wr ((1 + x1) + 1) ∧ wr ((1 + x1) + 1) < (10780 : Int) then (some ((q12.2 1 (wr ((1 + x1) + 1)).toNat), q12.2)) else none) else ((Md_decides (x1 + 1) q12.2).bind fun q13 => if 0 ≤ wr ((1 + x1) + 1) ∧ wr ((1 + x1) + 1) < (10780 : Int) then (letM (upM q13.2 1 (wr ((1 + x1) + 1)).toNat (q13.2 0 24)) fun s14 => if 0 ≤ wr ((1 + x1) + 1) ∧ wr ((1 + x1) + 1) < (10780 : Int) then (some ((s14 1 (wr ((1 + x1) + 1)).toNat), s14)) else none) else none)) else none) else none)) else none
noncomputable def Md_splitLine_170   (n : Nat) : Int → Mem → Option (Int × Mem) := fixN (fun _ _ => none) (Md_splitLine_170b  ) n
noncomputable def Md_splitLine_89b   (r89 : Int → Int → Int → Int → Int → Mem → Option (Int × Mem)) (x1 : Int) (x2 : Int) (x3 : Int) (x4 : Int) (x5 : Int) (σ : Mem) : Option (Int × Mem) := if wr x5 < wr x4 then (if 0 ≤ wr (((61 + (32 * x1)) + x3) + x5) ∧ wr (((61 + (32 * x1)) + x3) + x5) < (10780 : Int) then (if 0 ≤ wr ((61 + (32 * (x1 + 1))) + x5) ∧ wr ((61 + (32 * (x1 + 1))) + x5) < (10780 : Int) then (letM (upM σ 1 (wr ((61 + (32 * (x1 + 1))) + x5)).toNat (σ 1 (wr (((61 + (32 * x1)) + x3) + x5)).toNat)) fun s9 => r89 x1 x2 x3 x4 (x5 + 1) s9) else none) else none) else (if 0 ≤ wr ((21 + x1) + 1) ∧ wr ((21 + x1) + 1) < (10780 : Int) then (letM (upM σ 1 (wr ((21 + x1) + 1)).toNat x4) fun s6 => if 0 ≤ wr ((1 + x1) + 1) ∧ wr ((1 + x1) + 1) < (10780 : Int) then (letM (upM s6 1 (wr ((1 + x1) + 1)).toNat 0) fun s7 => if 0 ≤ wr (21 + x1) ∧ wr (21 + x1) < (10780 : Int) then (letM (upM s7 1 (wr (21 + x1)).toNat x2) fun s8 => Md_splitLine_170 100000 x1 s8) else none) else none) else none)
noncomputable def Md_splitLine_89   (n : Nat) : Int → Int → Int → Int → Int → Mem → Option (Int × Mem) := fixN (fun _ _ _ _ _ _ => none) (Md_splitLine_89b  ) n
noncomputable def Md_splitLine_56b   (r56 : Int → Int → Int → Mem → Option (Int × Mem)) (x1 : Int) (x2 : Int) (x3 : Int) (σ : Mem) : Option (Int × Mem) := (Md_contentAt x1 x3 σ).bind fun q5 => if wr q5.1 = 32 then (r56 x1 x2 (x3 + 1) q5.2) else (if 0 ≤ wr (21 + x1) ∧ wr (21 + x1) < (10780 : Int) then (Md_splitLine_89 100000 x1 x2 x3 ((q5.2 1 (wr (21 + x1)).toNat) - x3) 0 q5.2) else none)
noncomputable def Md_splitLine_56   (n : Nat) : Int → Int → Int → Mem → Option (Int × Mem) := fixN (fun _ _ _ _ => none) (Md_splitLine_56b  ) n
noncomputable def Md_splitLine (a0 : Int) (a1 : Int) (σ : Mem) : Option (Int × Mem) := (Md_isLine a0 σ).bind fun q1 => if wr q1.1 = 0 then (some ((-1), q1.2)) else (if 0 ≤ wr (21 + a0) ∧ wr (21 + a0) < (10780 : Int) then ((Md_in a1 1 ((q1.2 1 (wr (21 + a0)).toNat) - 1) q1.2).bind fun q2 => if wr q2.1 = 0 then (some ((-1), q2.2)) else (if 0 ≤ wr 0 ∧ wr 0 < (10780 : Int) then (if wr (q2.2 1 (wr 0).toNat) = 20 then (some ((-3), q2.2)) else ((Md_begins  q2.2).bind fun q3 => (Md_parts (a0 + 1) q3.2).bind fun q4 => Md_splitLine_56 100000 a0 a1 a1 q4.2)) else none)) else none)
set_option maxRecDepth 100000 in
set_option maxHeartbeats 4000000 in
theorem k_Md_splitLine_170 {X : Cx} {w : Wd} {x : Int × Mem} (hS : Std X (rmN 7 161) w cX12_splitLine RX12 (some .int)) (hN : cxn X = 6) (hW : shp w = ShB)   : ∀ (n : Nat) (x1 : Int) (σ : Mem), Sm X (rmN 7 161) w 1 x 170 [some (rf w 0), some (iv x1), none, none, none, none] [] σ (Md_splitLine_170   n x1 σ) := by
  refine fix_ok (P := fun (r170 : Int → Mem → Option (Int × Mem)) => ∀ (x1 : Int) (σ : Mem), Sm X (rmN 7 161) w 1 x 170 [some (rf w 0), some (iv x1), none, none, none, none] [] σ (r170 x1 σ)) (fun _ _ => a_none) (fun r170 hr170 => ?_)
  intro x1 σ
  unfold Md_splitLine_170b
  refine a_aload_n hS dX12_splitLine_170 rfl ?_
  refine a_iload_n hS dX12_splitLine_171 rfl ?_
  refine a_aload_n hS dX12_splitLine_172 rfl ?_
  refine a_getR hS (j := 1) dX12_splitLine_173 flX12_7 (sB0 hW) rfl ?_
  refine a_bipush hS dX12_splitLine_176 rfl ?_
  refine a_iload_n hS dX12_splitLine_178 rfl ?_
  refine a_iadd hS dX12_splitLine_179 ?_
  refine a_iald hS dX12_splitLine_180 (sB1 hW) ?_
  refine a_iconst hS dX12_splitLine_181 ?_
  refine a_isub hS dX12_splitLine_182 ?_
  refine a_callVi hS (rst := []) (c_Md_contentAt hW x1 ((σ 1 (wr (21 + x1)).toNat) - 1) σ ) miX12_contentAt mlX12_83 (sB0 hW) rfl rfl (Nat.le_of_ble_eq_true rfl) (Nat.le_of_ble_eq_true rfl) (Nat.le_of_ble_eq_true rfl) rfl dX12_splitLine_183 (fun q10 => ?_)
  refine a_bipush hS dX12_splitLine_186 rfl ?_
  refine a_icmpne hS rfl (wl 32 rfl) (tgt := 207) dX12_splitLine_188 (by decide) ?_ ?_
  · refine a_aload_n hS dX12_splitLine_207 rfl ?_
    refine a_aload_n hS dX12_splitLine_208 rfl ?_
    refine a_getR hS (j := 1) dX12_splitLine_209 flX12_7 (sB0 hW) rfl ?_
    refine a_sipush hS dX12_splitLine_212 rfl ?_
    refine a_iald hS dX12_splitLine_215 (sB1 hW) ?_
    refine a_aload_n hS dX12_splitLine_216 rfl ?_
    refine a_getR hS (j := 1) dX12_splitLine_217 flX12_7 (sB0 hW) rfl ?_
    refine a_sipush hS dX12_splitLine_220 rfl ?_
    refine a_iald hS dX12_splitLine_223 (sB1 hW) ?_
    refine a_callVv hS (rst := []) (c_Md_uses hW (q10.2 1 (wr 977).toNat) (q10.2 1 (wr 978).toNat) q10.2 ) miX12_uses mlX12_222 (sB0 hW) rfl rfl (Nat.le_of_ble_eq_true rfl) (Nat.le_of_ble_eq_true rfl) (Nat.le_of_ble_eq_true rfl) rfl dX12_splitLine_224 (fun q11 => ?_)
    refine a_aload_n hS dX12_splitLine_227 rfl ?_
    refine a_iload_n hS dX12_splitLine_228 rfl ?_
    refine a_iconst hS dX12_splitLine_229 ?_
    refine a_iadd hS dX12_splitLine_230 ?_
    refine a_callVi hS (rst := []) (c_Md_isFree hW (x1 + 1) q11.2 ) miX12_isFree mlX12_185 (sB0 hW) rfl rfl (Nat.le_of_ble_eq_true rfl) (Nat.le_of_ble_eq_true rfl) (Nat.le_of_ble_eq_true rfl) rfl dX12_splitLine_231 (fun q12 => ?_)
    refine a_ifeq hS rfl  (tgt := 258) dX12_splitLine_234 (by decide) ?_ ?_
    · refine a_aload_n hS dX12_splitLine_258 rfl ?_
      refine a_getR hS (j := 1) dX12_splitLine_259 flX12_7 (sB0 hW) rfl ?_
      refine a_iconst hS dX12_splitLine_262 ?_
      refine a_iload_n hS dX12_splitLine_263 rfl ?_
      refine a_iadd hS dX12_splitLine_264 ?_
      refine a_iconst hS dX12_splitLine_265 ?_
      refine a_iadd hS dX12_splitLine_266 ?_
      refine a_iald hS dX12_splitLine_267 (sB1 hW) ?_
      exact a_iret hS rfl rfl dX12_splitLine_268
    · refine a_aload_n hS dX12_splitLine_237 rfl ?_
      refine a_iload_n hS dX12_splitLine_238 rfl ?_
      refine a_iconst hS dX12_splitLine_239 ?_
      refine a_iadd hS dX12_splitLine_240 ?_
      refine a_callVv hS (rst := []) (c_Md_decides hW (x1 + 1) q12.2 ) miX12_decides mlX12_188 (sB0 hW) rfl rfl (Nat.le_of_ble_eq_true rfl) (Nat.le_of_ble_eq_true rfl) (Nat.le_of_ble_eq_true rfl) rfl dX12_splitLine_241 (fun q13 => ?_)
      refine a_aload_n hS dX12_splitLine_244 rfl ?_
      refine a_getR hS (j := 1) dX12_splitLine_245 flX12_7 (sB0 hW) rfl ?_
      refine a_iconst hS dX12_splitLine_248 ?_
      refine a_iload_n hS dX12_splitLine_249 rfl ?_
      refine a_iadd hS dX12_splitLine_250 ?_
      refine a_iconst hS dX12_splitLine_251 ?_
      refine a_iadd hS dX12_splitLine_252 ?_
      refine a_aload_n hS dX12_splitLine_253 rfl ?_
      refine a_getI hS dX12_splitLine_254 flX12_170 (sB0 hW) rfl ?_
      refine a_iast hS (sB1 hW) dX12_splitLine_257 ?_
      refine a_letM (fun s14 => ?_)
      refine a_aload_n hS dX12_splitLine_258 rfl ?_
      refine a_getR hS (j := 1) dX12_splitLine_259 flX12_7 (sB0 hW) rfl ?_
      refine a_iconst hS dX12_splitLine_262 ?_
      refine a_iload_n hS dX12_splitLine_263 rfl ?_
      refine a_iadd hS dX12_splitLine_264 ?_
      refine a_iconst hS dX12_splitLine_265 ?_
      refine a_iadd hS dX12_splitLine_266 ?_
      refine a_iald hS dX12_splitLine_267 (sB1 hW) ?_
      exact a_iret hS rfl rfl dX12_splitLine_268
  · refine a_aload_n hS dX12_splitLine_191 rfl ?_
    refine a_getR hS (j := 1) dX12_splitLine_192 flX12_7 (sB0 hW) rfl ?_
    refine a_bipush hS dX12_splitLine_195 rfl ?_
    refine a_iload_n hS dX12_splitLine_197 rfl ?_
    refine a_iadd hS dX12_splitLine_198 ?_
    refine a_dup2 hS rfl rfl dX12_splitLine_199 ?_
    refine a_iald hS dX12_splitLine_200 (sB1 hW) ?_
    refine a_iconst hS dX12_splitLine_201 ?_
    refine a_isub hS dX12_splitLine_202 ?_
    refine a_iast hS (sB1 hW) dX12_splitLine_203 ?_
    refine a_letM (fun s15 => ?_)
    refine a_goto hS (tgt := 170) dX12_splitLine_204 (by decide) ?_
    exact hr170 x1 s15
set_option maxRecDepth 100000 in
set_option maxHeartbeats 4000000 in
theorem k_Md_splitLine_89 {X : Cx} {w : Wd} {x : Int × Mem} (hS : Std X (rmN 7 161) w cX12_splitLine RX12 (some .int)) (hN : cxn X = 6) (hW : shp w = ShB)   : ∀ (n : Nat) (x1 : Int) (x2 : Int) (x3 : Int) (x4 : Int) (x5 : Int) (σ : Mem), Sm X (rmN 7 161) w 1 x 89 [some (rf w 0), some (iv x1), some (iv x2), some (iv x3), some (iv x4), some (iv x5)] [] σ (Md_splitLine_89   n x1 x2 x3 x4 x5 σ) := by
  refine fix_ok (P := fun (r89 : Int → Int → Int → Int → Int → Mem → Option (Int × Mem)) => ∀ (x1 : Int) (x2 : Int) (x3 : Int) (x4 : Int) (x5 : Int) (σ : Mem), Sm X (rmN 7 161) w 1 x 89 [some (rf w 0), some (iv x1), some (iv x2), some (iv x3), some (iv x4), some (iv x5)] [] σ (r89 x1 x2 x3 x4 x5 σ)) (fun _ _ _ _ _ _ => a_none) (fun r89 hr89 => ?_)
  intro x1 x2 x3 x4 x5 σ
  unfold Md_splitLine_89b
  refine a_iload hS dX12_splitLine_89 rfl ?_
  refine a_iload hS dX12_splitLine_91 rfl ?_
  refine a_icmpge hS rfl rfl (tgt := 136) dX12_splitLine_93 (by decide) ?_ ?_
  · refine a_aload_n hS dX12_splitLine_136 rfl ?_
    refine a_getR hS (j := 1) dX12_splitLine_137 flX12_7 (sB0 hW) rfl ?_
    refine a_bipush hS dX12_splitLine_140 rfl ?_
    refine a_iload_n hS dX12_splitLine_142 rfl ?_
    refine a_iadd hS dX12_splitLine_143 ?_
    refine a_iconst hS dX12_splitLine_144 ?_
    refine a_iadd hS dX12_splitLine_145 ?_
    refine a_iload hS dX12_splitLine_146 rfl ?_
    refine a_iast hS (sB1 hW) dX12_splitLine_148 ?_
    refine a_letM (fun s6 => ?_)
    refine a_aload_n hS dX12_splitLine_149 rfl ?_
    refine a_getR hS (j := 1) dX12_splitLine_150 flX12_7 (sB0 hW) rfl ?_
    refine a_iconst hS dX12_splitLine_153 ?_
    refine a_iload_n hS dX12_splitLine_154 rfl ?_
    refine a_iadd hS dX12_splitLine_155 ?_
    refine a_iconst hS dX12_splitLine_156 ?_
    refine a_iadd hS dX12_splitLine_157 ?_
    refine a_iconst hS dX12_splitLine_158 ?_
    refine a_iast hS (sB1 hW) dX12_splitLine_159 ?_
    refine a_letM (fun s7 => ?_)
    refine a_aload_n hS dX12_splitLine_160 rfl ?_
    refine a_getR hS (j := 1) dX12_splitLine_161 flX12_7 (sB0 hW) rfl ?_
    refine a_bipush hS dX12_splitLine_164 rfl ?_
    refine a_iload_n hS dX12_splitLine_166 rfl ?_
    refine a_iadd hS dX12_splitLine_167 ?_
    refine a_iload_n hS dX12_splitLine_168 rfl ?_
    refine a_iast hS (sB1 hW) dX12_splitLine_169 ?_
    refine a_letM (fun s8 => ?_)
    exact a_live (M := [true, true, false, false, false, false]) (k_Md_splitLine_170 hS hN hW   100000 x1 s8) rfl
  · refine a_aload_n hS dX12_splitLine_96 rfl ?_
    refine a_getR hS (j := 1) dX12_splitLine_97 flX12_7 (sB0 hW) rfl ?_
    refine a_bipush hS dX12_splitLine_100 rfl ?_
    refine a_bipush hS dX12_splitLine_102 rfl ?_
    refine a_iload_n hS dX12_splitLine_104 rfl ?_
    refine a_iconst hS dX12_splitLine_105 ?_
    refine a_iadd hS dX12_splitLine_106 ?_
    refine a_imul hS dX12_splitLine_107 ?_
    refine a_iadd hS dX12_splitLine_108 ?_
    refine a_iload hS dX12_splitLine_109 rfl ?_
    refine a_iadd hS dX12_splitLine_111 ?_
    refine a_aload_n hS dX12_splitLine_112 rfl ?_
    refine a_getR hS (j := 1) dX12_splitLine_113 flX12_7 (sB0 hW) rfl ?_
    refine a_bipush hS dX12_splitLine_116 rfl ?_
    refine a_bipush hS dX12_splitLine_118 rfl ?_
    refine a_iload_n hS dX12_splitLine_120 rfl ?_
    refine a_imul hS dX12_splitLine_121 ?_
    refine a_iadd hS dX12_splitLine_122 ?_
    refine a_iload_n hS dX12_splitLine_123 rfl ?_
    refine a_iadd hS dX12_splitLine_124 ?_
    refine a_iload hS dX12_splitLine_125 rfl ?_
    refine a_iadd hS dX12_splitLine_127 ?_
    refine a_iald hS dX12_splitLine_128 (sB1 hW) ?_
    refine a_iast hS (sB1 hW) dX12_splitLine_129 ?_
    refine a_letM (fun s9 => ?_)
    refine a_iinc hS (L' := [some (rf w 0), some (iv x1), some (iv x2), some (iv x3), some (iv x4), some (iv (x5 + 1))]) dX12_splitLine_130 rfl hN (Nat.le_of_ble_eq_true rfl) rfl rfl ?_
    refine a_goto hS (tgt := 89) dX12_splitLine_133 (by decide) ?_
    exact hr89 x1 x2 x3 x4 (x5 + 1) s9
set_option maxRecDepth 100000 in
set_option maxHeartbeats 4000000 in
theorem k_Md_splitLine_56 {X : Cx} {w : Wd} {x : Int × Mem} (hS : Std X (rmN 7 161) w cX12_splitLine RX12 (some .int)) (hN : cxn X = 6) (hW : shp w = ShB)   : ∀ (n : Nat) (x1 : Int) (x2 : Int) (x3 : Int) (σ : Mem), Sm X (rmN 7 161) w 1 x 56 [some (rf w 0), some (iv x1), some (iv x2), some (iv x3), none, none] [] σ (Md_splitLine_56   n x1 x2 x3 σ) := by
  refine fix_ok (P := fun (r56 : Int → Int → Int → Mem → Option (Int × Mem)) => ∀ (x1 : Int) (x2 : Int) (x3 : Int) (σ : Mem), Sm X (rmN 7 161) w 1 x 56 [some (rf w 0), some (iv x1), some (iv x2), some (iv x3), none, none] [] σ (r56 x1 x2 x3 σ)) (fun _ _ _ _ => a_none) (fun r56 hr56 => ?_)
  intro x1 x2 x3 σ
  unfold Md_splitLine_56b
  refine a_aload_n hS dX12_splitLine_56 rfl ?_
  refine a_iload_n hS dX12_splitLine_57 rfl ?_
  refine a_iload_n hS dX12_splitLine_58 rfl ?_
  refine a_callVi hS (rst := []) (c_Md_contentAt hW x1 x3 σ ) miX12_contentAt mlX12_83 (sB0 hW) rfl rfl (Nat.le_of_ble_eq_true rfl) (Nat.le_of_ble_eq_true rfl) (Nat.le_of_ble_eq_true rfl) rfl dX12_splitLine_59 (fun q5 => ?_)
  refine a_bipush hS dX12_splitLine_62 rfl ?_
  refine a_icmpne hS rfl (wl 32 rfl) (tgt := 73) dX12_splitLine_64 (by decide) ?_ ?_
  · refine a_aload_n hS dX12_splitLine_73 rfl ?_
    refine a_getR hS (j := 1) dX12_splitLine_74 flX12_7 (sB0 hW) rfl ?_
    refine a_bipush hS dX12_splitLine_77 rfl ?_
    refine a_iload_n hS dX12_splitLine_79 rfl ?_
    refine a_iadd hS dX12_splitLine_80 ?_
    refine a_iald hS dX12_splitLine_81 (sB1 hW) ?_
    refine a_iload_n hS dX12_splitLine_82 rfl ?_
    refine a_isub hS dX12_splitLine_83 ?_
    refine a_istore hS (L' := [some (rf w 0), some (iv x1), some (iv x2), some (iv x3), some (iv ((q5.2 1 (wr (21 + x1)).toNat) - x3)), none]) dX12_splitLine_84 hN (Nat.le_of_ble_eq_true rfl) rfl rfl ?_
    refine a_iconst hS dX12_splitLine_86 ?_
    refine a_istore hS (L' := [some (rf w 0), some (iv x1), some (iv x2), some (iv x3), some (iv ((q5.2 1 (wr (21 + x1)).toNat) - x3)), some (iv 0)]) dX12_splitLine_87 hN (Nat.le_of_ble_eq_true rfl) rfl rfl ?_
    exact k_Md_splitLine_89 hS hN hW   100000 x1 x2 x3 ((q5.2 1 (wr (21 + x1)).toNat) - x3) 0 q5.2
  · refine a_iinc hS (L' := [some (rf w 0), some (iv x1), some (iv x2), some (iv (x3 + 1)), none, none]) dX12_splitLine_67 rfl hN (Nat.le_of_ble_eq_true rfl) rfl rfl ?_
    refine a_goto hS (tgt := 56) dX12_splitLine_70 (by decide) ?_
    exact hr56 x1 x2 (x3 + 1) q5.2
set_option maxRecDepth 100000 in
set_option maxHeartbeats 4000000 in
theorem c_Md_splitLine {l : Launch} {w : Wd} (hW : shp w = ShB) (a0 : Int) (a1 : Int) (σ : Mem)  : Ctr l w yX12_splitLine cX12_splitLine 6 (some .int) (rmN 7 161) 1 [rf w 0, iv a0, iv a1] σ (Md_splitLine a0 a1 σ) := by
  refine met_of (own := RX12) (by decide) rfl rfl rfl (Nat.le_of_ble_eq_true rfl) (fun X x hXl hN hS => ⟨[some (rf w 0), some (iv a0), some (iv a1), none, none, none], ⟨3, rfl⟩, ?_⟩)
  subst hXl
  unfold Md_splitLine
  refine a_aload_n hS dX12_splitLine_0 rfl ?_
  refine a_iload_n hS dX12_splitLine_1 rfl ?_
  refine a_callVi hS (rst := []) (c_Md_isLine hW a0 σ ) miX12_isLine mlX12_216 (sB0 hW) rfl rfl (Nat.le_of_ble_eq_true rfl) (Nat.le_of_ble_eq_true rfl) (Nat.le_of_ble_eq_true rfl) rfl dX12_splitLine_2 (fun q1 => ?_)
  refine a_ifeq hS rfl  (tgt := 27) dX12_splitLine_5 (by decide) ?_ ?_
  · refine a_iconst hS dX12_splitLine_27 ?_
    exact a_iret hS rfl rfl dX12_splitLine_28
  · refine a_iload_n hS dX12_splitLine_8 rfl ?_
    refine a_iconst hS dX12_splitLine_9 ?_
    refine a_aload_n hS dX12_splitLine_10 rfl ?_
    refine a_getR hS (j := 1) dX12_splitLine_11 flX12_7 (sB0 hW) rfl ?_
    refine a_bipush hS dX12_splitLine_14 rfl ?_
    refine a_iload_n hS dX12_splitLine_16 rfl ?_
    refine a_iadd hS dX12_splitLine_17 ?_
    refine a_iald hS dX12_splitLine_18 (sB1 hW) ?_
    refine a_iconst hS dX12_splitLine_19 ?_
    refine a_isub hS dX12_splitLine_20 ?_
    refine a_callSi hS (rst := []) (c_Md_in hW a1 1 ((q1.2 1 (wr (21 + a0)).toNat) - 1) q1.2 ) msX12_in mlX12_79 rfl (Nat.le_of_ble_eq_true rfl) (Nat.le_of_ble_eq_true rfl) (Nat.le_of_ble_eq_true rfl) rfl dX12_splitLine_21 (fun q2 => ?_)
    refine a_ifne hS rfl  (tgt := 29) dX12_splitLine_24 (by decide) ?_ ?_
    · refine a_aload_n hS dX12_splitLine_29 rfl ?_
      refine a_getR hS (j := 1) dX12_splitLine_30 flX12_7 (sB0 hW) rfl ?_
      refine a_iconst hS dX12_splitLine_33 ?_
      refine a_iald hS dX12_splitLine_34 (sB1 hW) ?_
      refine a_bipush hS dX12_splitLine_35 rfl ?_
      refine a_icmpne hS rfl (wl 20 rfl) (tgt := 43) dX12_splitLine_37 (by decide) ?_ ?_
      · refine a_aload_n hS dX12_splitLine_43 rfl ?_
        refine a_callVv hS (rst := []) (c_Md_begins hW  q2.2 ) miX12_begins mlX12_207 (sB0 hW) rfl rfl (Nat.le_of_ble_eq_true rfl) (Nat.le_of_ble_eq_true rfl) (Nat.le_of_ble_eq_true rfl) rfl dX12_splitLine_44 (fun q3 => ?_)
        refine a_aload_n hS dX12_splitLine_47 rfl ?_
        refine a_iload_n hS dX12_splitLine_48 rfl ?_
        refine a_iconst hS dX12_splitLine_49 ?_
        refine a_iadd hS dX12_splitLine_50 ?_
        refine a_callVv hS (rst := []) (c_Md_parts hW (a0 + 1) q3.2 ) miX12_parts mlX12_210 (sB0 hW) rfl rfl (Nat.le_of_ble_eq_true rfl) (Nat.le_of_ble_eq_true rfl) (Nat.le_of_ble_eq_true rfl) rfl dX12_splitLine_51 (fun q4 => ?_)
        refine a_iload_n hS dX12_splitLine_54 rfl ?_
        refine a_istore_n hS (L' := [some (rf w 0), some (iv a0), some (iv a1), some (iv a1), none, none]) dX12_splitLine_55 hN (Nat.le_of_ble_eq_true rfl) rfl rfl ?_
        exact k_Md_splitLine_56 hS hN hW   100000 a0 a1 a1 q4.2
      · refine a_bipush hS dX12_splitLine_40 rfl ?_
        exact a_iret hS rfl rfl dX12_splitLine_42
    · refine a_iconst hS dX12_splitLine_27 ?_
      exact a_iret hS rfl rfl dX12_splitLine_28
noncomputable def Md_joinLines_103b   (r103 : Int → Int → Int → Int → Mem → Option (Int × Mem)) (x1 : Int) (x2 : Int) (x3 : Int) (x5 : Int) (σ : Mem) : Option (Int × Mem) := if wr x5 < wr x3 then (if 0 ≤ wr ((61 + (32 * (x1 + 1))) + x5) ∧ wr ((61 + (32 * (x1 + 1))) + x5) < (10780 : Int) then (if 0 ≤ wr ((((61 + (32 * x1)) + x2) + 1) + x5) ∧ wr ((((61 + (32 * x1)) + x2) + 1) + x5) < (10780 : Int) then (letM (upM σ 1 (wr ((((61 + (32 * x1)) + x2) + 1) + x5)).toNat (σ 1 (wr ((61 + (32 * (x1 + 1))) + x5)).toNat)) fun s11 => r103 x1 x2 x3 (x5 + 1) s11) else none) else none) else (if 0 ≤ wr (21 + x1) ∧ wr (21 + x1) < (10780 : Int) then (letM (upM σ 1 (wr (21 + x1)).toNat ((x2 + 1) + x3)) fun s9 => (Md_drops (x1 + 1) s9).bind fun q10 => if 0 ≤ wr (21 + x1) ∧ wr (21 + x1) < (10780 : Int) then (some ((q10.2 1 (wr (21 + x1)).toNat), q10.2)) else none) else none)
noncomputable def Md_joinLines_103   (n : Nat) : Int → Int → Int → Int → Mem → Option (Int × Mem) := fixN (fun _ _ _ _ _ => none) (Md_joinLines_103b  ) n
noncomputable def Md_joinLines_75   (x1 : Int) (x2 : Int) (x3 : Int) (x4 : Int) (σ : Mem) : Option (Int × Mem) := (Md_begins  σ).bind fun q3 => if wr x4 = 0 then (if 0 < wr x3 then (if 0 ≤ wr (41 + x1) ∧ wr (41 + x1) < (10780 : Int) then ((Md_copiesLine (x1 + 1) x1 q3.2).bind fun q5 => if 0 ≤ wr (41 + x1) ∧ wr (41 + x1) < (10780 : Int) then (letM (upM q5.2 1 (wr (41 + x1)).toNat (q3.2 1 (wr (41 + x1)).toNat)) fun s6 => (Md_drops (x1 + 1) s6).bind fun q7 => if 0 ≤ wr (21 + x1) ∧ wr (21 + x1) < (10780 : Int) then (some ((q7.2 1 (wr (21 + x1)).toNat), q7.2)) else none) else none) else none) else ((Md_drops (x1 + 1) q3.2).bind fun q4 => if 0 ≤ wr (21 + x1) ∧ wr (21 + x1) < (10780 : Int) then (some ((q4.2 1 (wr (21 + x1)).toNat), q4.2)) else none)) else (if 0 ≤ wr ((61 + (32 * x1)) + x2) ∧ wr ((61 + (32 * x1)) + x2) < (10780 : Int) then (letM (upM q3.2 1 (wr ((61 + (32 * x1)) + x2)).toNat 32) fun s8 => Md_joinLines_103 100000 x1 x2 x3 0 s8) else none)
noncomputable def Md_joinLines_55   (x1 : Int) (x2 : Int) (x3 : Int) (y0 : Int) (σ : Mem) : Option (Int × Mem) := if wr y0 = 0 then (Md_joinLines_75 x1 x2 x3 y0 σ) else (if 32 < wr ((x2 + 1) + x3) then (some ((-3), σ)) else (Md_joinLines_75 x1 x2 x3 y0 σ))
noncomputable def Md_joinLines (a0 : Int) (σ : Mem) : Option (Int × Mem) := (Md_isLine a0 σ).bind fun q1 => if wr q1.1 = 0 then (some ((-1), q1.2)) else ((Md_isLine (a0 + 1) q1.2).bind fun q2 => if wr q2.1 = 0 then (some ((-1), q2.2)) else (if 0 ≤ wr (21 + a0) ∧ wr (21 + a0) < (10780 : Int) then (if 0 ≤ wr ((21 + a0) + 1) ∧ wr ((21 + a0) + 1) < (10780 : Int) then (if 0 < wr (q2.2 1 (wr (21 + a0)).toNat) then (if 0 < wr (q2.2 1 (wr ((21 + a0) + 1)).toNat) then (Md_joinLines_55 a0 (q2.2 1 (wr (21 + a0)).toNat) (q2.2 1 (wr ((21 + a0) + 1)).toNat) 1 q2.2) else (Md_joinLines_55 a0 (q2.2 1 (wr (21 + a0)).toNat) (q2.2 1 (wr ((21 + a0) + 1)).toNat) 0 q2.2)) else (Md_joinLines_55 a0 (q2.2 1 (wr (21 + a0)).toNat) (q2.2 1 (wr ((21 + a0) + 1)).toNat) 0 q2.2)) else none) else none))
set_option maxRecDepth 100000 in
set_option maxHeartbeats 4000000 in
theorem k_Md_joinLines_103 {X : Cx} {w : Wd} {x : Int × Mem} (hS : Std X (rmN 2 45) w cX12_joinLines RX12 (some .int)) (hN : cxn X = 6) (hW : shp w = ShB)   : ∀ (n : Nat) (x1 : Int) (x2 : Int) (x3 : Int) (x5 : Int) (σ : Mem), Sm X (rmN 2 45) w 1 x 103 [some (rf w 0), some (iv x1), some (iv x2), some (iv x3), none, some (iv x5)] [] σ (Md_joinLines_103   n x1 x2 x3 x5 σ) := by
  refine fix_ok (P := fun (r103 : Int → Int → Int → Int → Mem → Option (Int × Mem)) => ∀ (x1 : Int) (x2 : Int) (x3 : Int) (x5 : Int) (σ : Mem), Sm X (rmN 2 45) w 1 x 103 [some (rf w 0), some (iv x1), some (iv x2), some (iv x3), none, some (iv x5)] [] σ (r103 x1 x2 x3 x5 σ)) (fun _ _ _ _ _ => a_none) (fun r103 hr103 => ?_)
  intro x1 x2 x3 x5 σ
  unfold Md_joinLines_103b
  refine a_iload hS dX12_joinLines_103 rfl ?_
  refine a_iload_n hS dX12_joinLines_105 rfl ?_
  refine a_icmpge hS rfl rfl (tgt := 151) dX12_joinLines_106 (by decide) ?_ ?_
  · refine a_aload_n hS dX12_joinLines_151 rfl ?_
    refine a_getR hS (j := 1) dX12_joinLines_152 flX12_7 (sB0 hW) rfl ?_
    refine a_bipush hS dX12_joinLines_155 rfl ?_
    refine a_iload_n hS dX12_joinLines_157 rfl ?_
    refine a_iadd hS dX12_joinLines_158 ?_
    refine a_iload_n hS dX12_joinLines_159 rfl ?_
    refine a_iconst hS dX12_joinLines_160 ?_
    refine a_iadd hS dX12_joinLines_161 ?_
    refine a_iload_n hS dX12_joinLines_162 rfl ?_
    refine a_iadd hS dX12_joinLines_163 ?_
    refine a_iast hS (sB1 hW) dX12_joinLines_164 ?_
    refine a_letM (fun s9 => ?_)
    refine a_goto hS (tgt := 202) dX12_joinLines_165 (by decide) ?_
    refine a_aload_n hS dX12_joinLines_202 rfl ?_
    refine a_iload_n hS dX12_joinLines_203 rfl ?_
    refine a_iconst hS dX12_joinLines_204 ?_
    refine a_iadd hS dX12_joinLines_205 ?_
    refine a_callVv hS (rst := []) (c_Md_drops hW (x1 + 1) s9 ) miX12_drops mlX12_219 (sB0 hW) rfl rfl (Nat.le_of_ble_eq_true rfl) (Nat.le_of_ble_eq_true rfl) (Nat.le_of_ble_eq_true rfl) rfl dX12_joinLines_206 (fun q10 => ?_)
    refine a_aload_n hS dX12_joinLines_209 rfl ?_
    refine a_getR hS (j := 1) dX12_joinLines_210 flX12_7 (sB0 hW) rfl ?_
    refine a_bipush hS dX12_joinLines_213 rfl ?_
    refine a_iload_n hS dX12_joinLines_215 rfl ?_
    refine a_iadd hS dX12_joinLines_216 ?_
    refine a_iald hS dX12_joinLines_217 (sB1 hW) ?_
    exact a_iret hS rfl rfl dX12_joinLines_218
  · refine a_aload_n hS dX12_joinLines_109 rfl ?_
    refine a_getR hS (j := 1) dX12_joinLines_110 flX12_7 (sB0 hW) rfl ?_
    refine a_bipush hS dX12_joinLines_113 rfl ?_
    refine a_bipush hS dX12_joinLines_115 rfl ?_
    refine a_iload_n hS dX12_joinLines_117 rfl ?_
    refine a_imul hS dX12_joinLines_118 ?_
    refine a_iadd hS dX12_joinLines_119 ?_
    refine a_iload_n hS dX12_joinLines_120 rfl ?_
    refine a_iadd hS dX12_joinLines_121 ?_
    refine a_iconst hS dX12_joinLines_122 ?_
    refine a_iadd hS dX12_joinLines_123 ?_
    refine a_iload hS dX12_joinLines_124 rfl ?_
    refine a_iadd hS dX12_joinLines_126 ?_
    refine a_aload_n hS dX12_joinLines_127 rfl ?_
    refine a_getR hS (j := 1) dX12_joinLines_128 flX12_7 (sB0 hW) rfl ?_
    refine a_bipush hS dX12_joinLines_131 rfl ?_
    refine a_bipush hS dX12_joinLines_133 rfl ?_
    refine a_iload_n hS dX12_joinLines_135 rfl ?_
    refine a_iconst hS dX12_joinLines_136 ?_
    refine a_iadd hS dX12_joinLines_137 ?_
    refine a_imul hS dX12_joinLines_138 ?_
    refine a_iadd hS dX12_joinLines_139 ?_
    refine a_iload hS dX12_joinLines_140 rfl ?_
    refine a_iadd hS dX12_joinLines_142 ?_
    refine a_iald hS dX12_joinLines_143 (sB1 hW) ?_
    refine a_iast hS (sB1 hW) dX12_joinLines_144 ?_
    refine a_letM (fun s11 => ?_)
    refine a_iinc hS (L' := [some (rf w 0), some (iv x1), some (iv x2), some (iv x3), none, some (iv (x5 + 1))]) dX12_joinLines_145 rfl hN (Nat.le_of_ble_eq_true rfl) rfl rfl ?_
    refine a_goto hS (tgt := 103) dX12_joinLines_148 (by decide) ?_
    exact hr103 x1 x2 x3 (x5 + 1) s11
set_option maxRecDepth 100000 in
set_option maxHeartbeats 4000000 in
theorem k_Md_joinLines_75 {X : Cx} {w : Wd} {x : Int × Mem} (hS : Std X (rmN 2 45) w cX12_joinLines RX12 (some .int)) (hN : cxn X = 6) (hW : shp w = ShB)   : ∀ (x1 : Int) (x2 : Int) (x3 : Int) (x4 : Int) (σ : Mem), Sm X (rmN 2 45) w 1 x 75 [some (rf w 0), some (iv x1), some (iv x2), some (iv x3), some (iv x4), none] [] σ (Md_joinLines_75   x1 x2 x3 x4 σ) := by
  intro x1 x2 x3 x4 σ
  unfold Md_joinLines_75
  refine a_aload_n hS dX12_joinLines_75 rfl ?_
  refine a_callVv hS (rst := []) (c_Md_begins hW  σ ) miX12_begins mlX12_207 (sB0 hW) rfl rfl (Nat.le_of_ble_eq_true rfl) (Nat.le_of_ble_eq_true rfl) (Nat.le_of_ble_eq_true rfl) rfl dX12_joinLines_76 (fun q3 => ?_)
  refine a_iload hS dX12_joinLines_79 rfl ?_
  refine a_ifeq hS rfl  (tgt := 168) dX12_joinLines_81 (by decide) ?_ ?_
  · refine a_iload_n hS dX12_joinLines_168 rfl ?_
    refine a_ifle hS rfl  (tgt := 202) dX12_joinLines_169 (by decide) ?_ ?_
    · refine a_aload_n hS dX12_joinLines_202 rfl ?_
      refine a_iload_n hS dX12_joinLines_203 rfl ?_
      refine a_iconst hS dX12_joinLines_204 ?_
      refine a_iadd hS dX12_joinLines_205 ?_
      refine a_callVv hS (rst := []) (c_Md_drops hW (x1 + 1) q3.2 ) miX12_drops mlX12_219 (sB0 hW) rfl rfl (Nat.le_of_ble_eq_true rfl) (Nat.le_of_ble_eq_true rfl) (Nat.le_of_ble_eq_true rfl) rfl dX12_joinLines_206 (fun q4 => ?_)
      refine a_aload_n hS dX12_joinLines_209 rfl ?_
      refine a_getR hS (j := 1) dX12_joinLines_210 flX12_7 (sB0 hW) rfl ?_
      refine a_bipush hS dX12_joinLines_213 rfl ?_
      refine a_iload_n hS dX12_joinLines_215 rfl ?_
      refine a_iadd hS dX12_joinLines_216 ?_
      refine a_iald hS dX12_joinLines_217 (sB1 hW) ?_
      exact a_iret hS rfl rfl dX12_joinLines_218
    · refine a_aload_n hS dX12_joinLines_172 rfl ?_
      refine a_getR hS (j := 1) dX12_joinLines_173 flX12_7 (sB0 hW) rfl ?_
      refine a_bipush hS dX12_joinLines_176 rfl ?_
      refine a_iload_n hS dX12_joinLines_178 rfl ?_
      refine a_iadd hS dX12_joinLines_179 ?_
      refine a_iald hS dX12_joinLines_180 (sB1 hW) ?_
      refine a_istore hS (L' := [some (rf w 0), some (iv x1), some (iv x2), some (iv x3), some (iv x4), some (iv (q3.2 1 (wr (41 + x1)).toNat))]) dX12_joinLines_181 hN (Nat.le_of_ble_eq_true rfl) rfl rfl ?_
      refine a_aload_n hS dX12_joinLines_183 rfl ?_
      refine a_iload_n hS dX12_joinLines_184 rfl ?_
      refine a_iconst hS dX12_joinLines_185 ?_
      refine a_iadd hS dX12_joinLines_186 ?_
      refine a_iload_n hS dX12_joinLines_187 rfl ?_
      refine a_callVv hS (rst := []) (c_Md_copiesLine hW (x1 + 1) x1 q3.2 ) miX12_copiesLine mlX12_200 (sB0 hW) rfl rfl (Nat.le_of_ble_eq_true rfl) (Nat.le_of_ble_eq_true rfl) (Nat.le_of_ble_eq_true rfl) rfl dX12_joinLines_188 (fun q5 => ?_)
      refine a_aload_n hS dX12_joinLines_191 rfl ?_
      refine a_getR hS (j := 1) dX12_joinLines_192 flX12_7 (sB0 hW) rfl ?_
      refine a_bipush hS dX12_joinLines_195 rfl ?_
      refine a_iload_n hS dX12_joinLines_197 rfl ?_
      refine a_iadd hS dX12_joinLines_198 ?_
      refine a_iload hS dX12_joinLines_199 rfl ?_
      refine a_iast hS (sB1 hW) dX12_joinLines_201 ?_
      refine a_letM (fun s6 => ?_)
      refine a_aload_n hS dX12_joinLines_202 rfl ?_
      refine a_iload_n hS dX12_joinLines_203 rfl ?_
      refine a_iconst hS dX12_joinLines_204 ?_
      refine a_iadd hS dX12_joinLines_205 ?_
      refine a_callVv hS (rst := []) (c_Md_drops hW (x1 + 1) s6 ) miX12_drops mlX12_219 (sB0 hW) rfl rfl (Nat.le_of_ble_eq_true rfl) (Nat.le_of_ble_eq_true rfl) (Nat.le_of_ble_eq_true rfl) rfl dX12_joinLines_206 (fun q7 => ?_)
      refine a_aload_n hS dX12_joinLines_209 rfl ?_
      refine a_getR hS (j := 1) dX12_joinLines_210 flX12_7 (sB0 hW) rfl ?_
      refine a_bipush hS dX12_joinLines_213 rfl ?_
      refine a_iload_n hS dX12_joinLines_215 rfl ?_
      refine a_iadd hS dX12_joinLines_216 ?_
      refine a_iald hS dX12_joinLines_217 (sB1 hW) ?_
      exact a_iret hS rfl rfl dX12_joinLines_218
  · refine a_aload_n hS dX12_joinLines_84 rfl ?_
    refine a_getR hS (j := 1) dX12_joinLines_85 flX12_7 (sB0 hW) rfl ?_
    refine a_bipush hS dX12_joinLines_88 rfl ?_
    refine a_bipush hS dX12_joinLines_90 rfl ?_
    refine a_iload_n hS dX12_joinLines_92 rfl ?_
    refine a_imul hS dX12_joinLines_93 ?_
    refine a_iadd hS dX12_joinLines_94 ?_
    refine a_iload_n hS dX12_joinLines_95 rfl ?_
    refine a_iadd hS dX12_joinLines_96 ?_
    refine a_bipush hS dX12_joinLines_97 rfl ?_
    refine a_iast hS (sB1 hW) dX12_joinLines_99 ?_
    refine a_letM (fun s8 => ?_)
    refine a_iconst hS dX12_joinLines_100 ?_
    refine a_istore hS (L' := [some (rf w 0), some (iv x1), some (iv x2), some (iv x3), some (iv x4), some (iv 0)]) dX12_joinLines_101 hN (Nat.le_of_ble_eq_true rfl) rfl rfl ?_
    exact a_live (M := [true, true, true, true, false, true]) (k_Md_joinLines_103 hS hN hW   100000 x1 x2 x3 0 s8) rfl
set_option maxRecDepth 100000 in
set_option maxHeartbeats 4000000 in
theorem k_Md_joinLines_55 {X : Cx} {w : Wd} {x : Int × Mem} (hS : Std X (rmN 2 45) w cX12_joinLines RX12 (some .int)) (hN : cxn X = 6) (hW : shp w = ShB)   : ∀ (x1 : Int) (x2 : Int) (x3 : Int) (y0 : Int) (σ : Mem), Sm X (rmN 2 45) w 1 x 55 [some (rf w 0), some (iv x1), some (iv x2), some (iv x3), none, none] [iv y0] σ (Md_joinLines_55   x1 x2 x3 y0 σ) := by
  intro x1 x2 x3 y0 σ
  unfold Md_joinLines_55
  refine a_istore hS (L' := [some (rf w 0), some (iv x1), some (iv x2), some (iv x3), some (iv y0), none]) dX12_joinLines_55 hN (Nat.le_of_ble_eq_true rfl) rfl rfl ?_
  refine a_iload hS dX12_joinLines_57 rfl ?_
  refine a_ifeq hS rfl  (tgt := 75) dX12_joinLines_59 (by decide) ?_ ?_
  · exact k_Md_joinLines_75 hS hN hW   x1 x2 x3 y0 σ
  · refine a_iload_n hS dX12_joinLines_62 rfl ?_
    refine a_iconst hS dX12_joinLines_63 ?_
    refine a_iadd hS dX12_joinLines_64 ?_
    refine a_iload_n hS dX12_joinLines_65 rfl ?_
    refine a_iadd hS dX12_joinLines_66 ?_
    refine a_bipush hS dX12_joinLines_67 rfl ?_
    refine a_icmple hS rfl (wl 32 rfl) (tgt := 75) dX12_joinLines_69 (by decide) ?_ ?_
    · exact k_Md_joinLines_75 hS hN hW   x1 x2 x3 y0 σ
    · refine a_bipush hS dX12_joinLines_72 rfl ?_
      exact a_iret hS rfl rfl dX12_joinLines_74
set_option maxRecDepth 100000 in
set_option maxHeartbeats 4000000 in
theorem c_Md_joinLines {l : Launch} {w : Wd} (hW : shp w = ShB) (a0 : Int) (σ : Mem)  : Ctr l w yX12_joinLines cX12_joinLines 6 (some .int) (rmN 2 45) 1 [rf w 0, iv a0] σ (Md_joinLines a0 σ) := by
  refine met_of (own := RX12) (by decide) rfl rfl rfl (Nat.le_of_ble_eq_true rfl) (fun X x hXl hN hS => ⟨[some (rf w 0), some (iv a0), none, none, none, none], ⟨4, rfl⟩, ?_⟩)
  subst hXl
  unfold Md_joinLines
  refine a_aload_n hS dX12_joinLines_0 rfl ?_
  refine a_iload_n hS dX12_joinLines_1 rfl ?_
  refine a_callVi hS (rst := []) (c_Md_isLine hW a0 σ ) miX12_isLine mlX12_216 (sB0 hW) rfl rfl (Nat.le_of_ble_eq_true rfl) (Nat.le_of_ble_eq_true rfl) (Nat.le_of_ble_eq_true rfl) rfl dX12_joinLines_2 (fun q1 => ?_)
  refine a_ifeq hS rfl  (tgt := 18) dX12_joinLines_5 (by decide) ?_ ?_
  · refine a_iconst hS dX12_joinLines_18 ?_
    exact a_iret hS rfl rfl dX12_joinLines_19
  · refine a_aload_n hS dX12_joinLines_8 rfl ?_
    refine a_iload_n hS dX12_joinLines_9 rfl ?_
    refine a_iconst hS dX12_joinLines_10 ?_
    refine a_iadd hS dX12_joinLines_11 ?_
    refine a_callVi hS (rst := []) (c_Md_isLine hW (a0 + 1) q1.2 ) miX12_isLine mlX12_216 (sB0 hW) rfl rfl (Nat.le_of_ble_eq_true rfl) (Nat.le_of_ble_eq_true rfl) (Nat.le_of_ble_eq_true rfl) rfl dX12_joinLines_12 (fun q2 => ?_)
    refine a_ifne hS rfl  (tgt := 20) dX12_joinLines_15 (by decide) ?_ ?_
    · refine a_aload_n hS dX12_joinLines_20 rfl ?_
      refine a_getR hS (j := 1) dX12_joinLines_21 flX12_7 (sB0 hW) rfl ?_
      refine a_bipush hS dX12_joinLines_24 rfl ?_
      refine a_iload_n hS dX12_joinLines_26 rfl ?_
      refine a_iadd hS dX12_joinLines_27 ?_
      refine a_iald hS dX12_joinLines_28 (sB1 hW) ?_
      refine a_istore_n hS (L' := [some (rf w 0), some (iv a0), some (iv (q2.2 1 (wr (21 + a0)).toNat)), none, none, none]) dX12_joinLines_29 hN (Nat.le_of_ble_eq_true rfl) rfl rfl ?_
      refine a_aload_n hS dX12_joinLines_30 rfl ?_
      refine a_getR hS (j := 1) dX12_joinLines_31 flX12_7 (sB0 hW) rfl ?_
      refine a_bipush hS dX12_joinLines_34 rfl ?_
      refine a_iload_n hS dX12_joinLines_36 rfl ?_
      refine a_iadd hS dX12_joinLines_37 ?_
      refine a_iconst hS dX12_joinLines_38 ?_
      refine a_iadd hS dX12_joinLines_39 ?_
      refine a_iald hS dX12_joinLines_40 (sB1 hW) ?_
      refine a_istore_n hS (L' := [some (rf w 0), some (iv a0), some (iv (q2.2 1 (wr (21 + a0)).toNat)), some (iv (q2.2 1 (wr ((21 + a0) + 1)).toNat)), none, none]) dX12_joinLines_41 hN (Nat.le_of_ble_eq_true rfl) rfl rfl ?_
      refine a_iload_n hS dX12_joinLines_42 rfl ?_
      refine a_ifle hS rfl  (tgt := 54) dX12_joinLines_43 (by decide) ?_ ?_
      · refine a_iconst hS dX12_joinLines_54 ?_
        exact k_Md_joinLines_55 hS hN hW   a0 (q2.2 1 (wr (21 + a0)).toNat) (q2.2 1 (wr ((21 + a0) + 1)).toNat) 0 q2.2
      · refine a_iload_n hS dX12_joinLines_46 rfl ?_
        refine a_ifle hS rfl  (tgt := 54) dX12_joinLines_47 (by decide) ?_ ?_
        · refine a_iconst hS dX12_joinLines_54 ?_
          exact k_Md_joinLines_55 hS hN hW   a0 (q2.2 1 (wr (21 + a0)).toNat) (q2.2 1 (wr ((21 + a0) + 1)).toNat) 0 q2.2
        · refine a_iconst hS dX12_joinLines_50 ?_
          refine a_goto hS (tgt := 55) dX12_joinLines_51 (by decide) ?_
          exact k_Md_joinLines_55 hS hN hW   a0 (q2.2 1 (wr (21 + a0)).toNat) (q2.2 1 (wr ((21 + a0) + 1)).toNat) 1 q2.2
    · refine a_iconst hS dX12_joinLines_18 ?_
      exact a_iret hS rfl rfl dX12_joinLines_19
noncomputable def Md_isRange (a0 : Int) (a1 : Int) (σ : Mem) : Option (Int × Mem) := if 0 ≤ wr 0 ∧ wr 0 < (10780 : Int) then ((Md_in a0 0 (σ 1 (wr 0).toNat) σ).bind fun q1 => if wr q1.1 = 0 then (some (0, q1.2)) else (if 0 ≤ wr 0 ∧ wr 0 < (10780 : Int) then ((Md_in a1 a0 (q1.2 1 (wr 0).toNat) q1.2).bind fun q2 => if wr q2.1 = 0 then (some (0, q2.2)) else (some (1, q2.2))) else none)) else none
set_option maxRecDepth 100000 in
set_option maxHeartbeats 4000000 in
theorem c_Md_isRange {l : Launch} {w : Wd} (hW : shp w = ShB) (a0 : Int) (a1 : Int) (σ : Mem)  : Ctr l w yX12_isRange cX12_isRange 3 (some .boolean) (rmN 1 22) 1 [rf w 0, iv a0, iv a1] σ (Md_isRange a0 a1 σ) := by
  refine met_of (own := RX12) (by decide) rfl rfl rfl (Nat.le_of_ble_eq_true rfl) (fun X x hXl hN hS => ⟨[some (rf w 0), some (iv a0), some (iv a1)], ⟨0, rfl⟩, ?_⟩)
  subst hXl
  unfold Md_isRange
  refine a_iload_n hS dX12_isRange_0 rfl ?_
  refine a_iconst hS dX12_isRange_1 ?_
  refine a_aload_n hS dX12_isRange_2 rfl ?_
  refine a_getR hS (j := 1) dX12_isRange_3 flX12_7 (sB0 hW) rfl ?_
  refine a_iconst hS dX12_isRange_6 ?_
  refine a_iald hS dX12_isRange_7 (sB1 hW) ?_
  refine a_callSi hS (rst := []) (c_Md_in hW a0 0 (σ 1 (wr 0).toNat) σ ) msX12_in mlX12_79 rfl (Nat.le_of_ble_eq_true rfl) (Nat.le_of_ble_eq_true rfl) (Nat.le_of_ble_eq_true rfl) rfl dX12_isRange_8 (fun q1 => ?_)
  refine a_ifeq hS rfl  (tgt := 32) dX12_isRange_11 (by decide) ?_ ?_
  · refine a_iconst hS dX12_isRange_32 ?_
    exact a_zret hS (by decide) rfl rfl dX12_isRange_33
  · refine a_iload_n hS dX12_isRange_14 rfl ?_
    refine a_iload_n hS dX12_isRange_15 rfl ?_
    refine a_aload_n hS dX12_isRange_16 rfl ?_
    refine a_getR hS (j := 1) dX12_isRange_17 flX12_7 (sB0 hW) rfl ?_
    refine a_iconst hS dX12_isRange_20 ?_
    refine a_iald hS dX12_isRange_21 (sB1 hW) ?_
    refine a_callSi hS (rst := []) (c_Md_in hW a1 a0 (q1.2 1 (wr 0).toNat) q1.2 ) msX12_in mlX12_79 rfl (Nat.le_of_ble_eq_true rfl) (Nat.le_of_ble_eq_true rfl) (Nat.le_of_ble_eq_true rfl) rfl dX12_isRange_22 (fun q2 => ?_)
    refine a_ifeq hS rfl  (tgt := 32) dX12_isRange_25 (by decide) ?_ ?_
    · refine a_iconst hS dX12_isRange_32 ?_
      exact a_zret hS (by decide) rfl rfl dX12_isRange_33
    · refine a_iconst hS dX12_isRange_28 ?_
      refine a_goto hS (tgt := 33) dX12_isRange_29 (by decide) ?_
      exact a_zret hS (by decide) rfl rfl dX12_isRange_33
noncomputable def Md_shift_82b   (r82 : Int → Int → Int → Int → Mem → Option (Int × Mem)) (x2 : Int) (x3 : Int) (x4 : Int) (x5 : Int) (σ : Mem) : Option (Int × Mem) := if wr x5 < wr x2 then (if 0 ≤ wr (1 + x5) ∧ wr (1 + x5) < (10780 : Int) then ((Md_isBlank x5 σ).bind fun q6 => if wr q6.1 = 0 then (if 0 ≤ wr (1 + x5) ∧ wr (1 + x5) < (10780 : Int) then (letM (upM q6.2 1 (wr (1 + x5)).toNat ((σ 1 (wr (1 + x5)).toNat) + x3)) fun s7 => r82 x2 x3 x4 (x5 + 1) s7) else none) else (if 0 ≤ wr (1 + x5) ∧ wr (1 + x5) < (10780 : Int) then (letM (upM q6.2 1 (wr (1 + x5)).toNat ((σ 1 (wr (1 + x5)).toNat) + 0)) fun s8 => r82 x2 x3 x4 (x5 + 1) s8) else none)) else none) else (some (x4, σ))
noncomputable def Md_shift_82   (n : Nat) : Int → Int → Int → Int → Mem → Option (Int × Mem) := fixN (fun _ _ _ _ _ => none) (Md_shift_82b  ) n
noncomputable def Md_shift_28b   (r28 : Int → Int → Int → Int → Int → Mem → Option (Int × Mem)) (x1 : Int) (x2 : Int) (x3 : Int) (x4 : Int) (x5 : Int) (σ : Mem) : Option (Int × Mem) := if wr x5 < wr x2 then ((Md_isBlank x5 σ).bind fun q4 => if wr q4.1 = 0 then (if 0 ≤ wr (1 + x5) ∧ wr (1 + x5) < (10780 : Int) then ((Md_in ((q4.2 1 (wr (1 + x5)).toNat) + x3) 0 40 q4.2).bind fun q5 => if wr q5.1 = 0 then (some ((-2), q5.2)) else (r28 x1 x2 x3 (x4 + 1) (x5 + 1) q5.2)) else none) else (r28 x1 x2 x3 x4 (x5 + 1) q4.2)) else ((Md_begins  σ).bind fun q3 => Md_shift_82 100000 x2 x3 x4 x1 q3.2)
noncomputable def Md_shift_28   (n : Nat) : Int → Int → Int → Int → Int → Mem → Option (Int × Mem) := fixN (fun _ _ _ _ _ _ => none) (Md_shift_28b  ) n
noncomputable def Md_shift (a0 : Int) (a1 : Int) (a2 : Int) (σ : Mem) : Option (Int × Mem) := (Md_isRange a0 a1 σ).bind fun q1 => if wr q1.1 = 0 then (some ((-1), q1.2)) else ((Md_in a2 (-40) 40 q1.2).bind fun q2 => if wr q2.1 = 0 then (some ((-1), q2.2)) else (Md_shift_28 100000 a0 a1 a2 0 a0 q2.2))
set_option maxRecDepth 100000 in
set_option maxHeartbeats 4000000 in
theorem k_Md_shift_82 {X : Cx} {w : Wd} {x : Int × Mem} (hS : Std X (rmN 2 44) w cX12_shift RX12 (some .int)) (hN : cxn X = 6) (hW : shp w = ShB)   : ∀ (n : Nat) (x2 : Int) (x3 : Int) (x4 : Int) (x5 : Int) (σ : Mem), Sm X (rmN 2 44) w 1 x 82 [some (rf w 0), none, some (iv x2), some (iv x3), some (iv x4), some (iv x5)] [] σ (Md_shift_82   n x2 x3 x4 x5 σ) := by
  refine fix_ok (P := fun (r82 : Int → Int → Int → Int → Mem → Option (Int × Mem)) => ∀ (x2 : Int) (x3 : Int) (x4 : Int) (x5 : Int) (σ : Mem), Sm X (rmN 2 44) w 1 x 82 [some (rf w 0), none, some (iv x2), some (iv x3), some (iv x4), some (iv x5)] [] σ (r82 x2 x3 x4 x5 σ)) (fun _ _ _ _ _ => a_none) (fun r82 hr82 => ?_)
  intro x2 x3 x4 x5 σ
  unfold Md_shift_82b
  refine a_iload hS dX12_shift_82 rfl ?_
  refine a_iload_n hS dX12_shift_84 rfl ?_
  refine a_icmpge hS rfl rfl (tgt := 120) dX12_shift_85 (by decide) ?_ ?_
  · refine a_iload hS dX12_shift_120 rfl ?_
    exact a_iret hS rfl rfl dX12_shift_122
  · refine a_aload_n hS dX12_shift_88 rfl ?_
    refine a_getR hS (j := 1) dX12_shift_89 flX12_7 (sB0 hW) rfl ?_
    refine a_iconst hS dX12_shift_92 ?_
    refine a_iload hS dX12_shift_93 rfl ?_
    refine a_iadd hS dX12_shift_95 ?_
    refine a_dup2 hS rfl rfl dX12_shift_96 ?_
    refine a_iald hS dX12_shift_97 (sB1 hW) ?_
    refine a_aload_n hS dX12_shift_98 rfl ?_
    refine a_iload hS dX12_shift_99 rfl ?_
    refine a_callVi hS (rst := [iv (σ 1 (wr (1 + x5)).toNat), iv (1 + x5), rf w 1]) (c_Md_isBlank hW x5 σ ) miX12_isBlank mlX12_114 (sB0 hW) rfl rfl (Nat.le_of_ble_eq_true rfl) (Nat.le_of_ble_eq_true rfl) (Nat.le_of_ble_eq_true rfl) rfl dX12_shift_101 (fun q6 => ?_)
    refine a_ifeq hS rfl  (tgt := 111) dX12_shift_104 (by decide) ?_ ?_
    · refine a_iload_n hS dX12_shift_111 rfl ?_
      refine a_iadd hS dX12_shift_112 ?_
      refine a_iast hS (sB1 hW) dX12_shift_113 ?_
      refine a_letM (fun s7 => ?_)
      refine a_iinc hS (L' := [some (rf w 0), none, some (iv x2), some (iv x3), some (iv x4), some (iv (x5 + 1))]) dX12_shift_114 rfl hN (Nat.le_of_ble_eq_true rfl) rfl rfl ?_
      refine a_goto hS (tgt := 82) dX12_shift_117 (by decide) ?_
      exact hr82 x2 x3 x4 (x5 + 1) s7
    · refine a_iconst hS dX12_shift_107 ?_
      refine a_goto hS (tgt := 112) dX12_shift_108 (by decide) ?_
      refine a_iadd hS dX12_shift_112 ?_
      refine a_iast hS (sB1 hW) dX12_shift_113 ?_
      refine a_letM (fun s8 => ?_)
      refine a_iinc hS (L' := [some (rf w 0), none, some (iv x2), some (iv x3), some (iv x4), some (iv (x5 + 1))]) dX12_shift_114 rfl hN (Nat.le_of_ble_eq_true rfl) rfl rfl ?_
      refine a_goto hS (tgt := 82) dX12_shift_117 (by decide) ?_
      exact hr82 x2 x3 x4 (x5 + 1) s8
set_option maxRecDepth 100000 in
set_option maxHeartbeats 4000000 in
theorem k_Md_shift_28 {X : Cx} {w : Wd} {x : Int × Mem} (hS : Std X (rmN 2 44) w cX12_shift RX12 (some .int)) (hN : cxn X = 6) (hW : shp w = ShB)   : ∀ (n : Nat) (x1 : Int) (x2 : Int) (x3 : Int) (x4 : Int) (x5 : Int) (σ : Mem), Sm X (rmN 2 44) w 1 x 28 [some (rf w 0), some (iv x1), some (iv x2), some (iv x3), some (iv x4), some (iv x5)] [] σ (Md_shift_28   n x1 x2 x3 x4 x5 σ) := by
  refine fix_ok (P := fun (r28 : Int → Int → Int → Int → Int → Mem → Option (Int × Mem)) => ∀ (x1 : Int) (x2 : Int) (x3 : Int) (x4 : Int) (x5 : Int) (σ : Mem), Sm X (rmN 2 44) w 1 x 28 [some (rf w 0), some (iv x1), some (iv x2), some (iv x3), some (iv x4), some (iv x5)] [] σ (r28 x1 x2 x3 x4 x5 σ)) (fun _ _ _ _ _ _ => a_none) (fun r28 hr28 => ?_)
  intro x1 x2 x3 x4 x5 σ
  unfold Md_shift_28b
  refine a_iload hS dX12_shift_28 rfl ?_
  refine a_iload_n hS dX12_shift_30 rfl ?_
  refine a_icmpge hS rfl rfl (tgt := 75) dX12_shift_31 (by decide) ?_ ?_
  · refine a_aload_n hS dX12_shift_75 rfl ?_
    refine a_callVv hS (rst := []) (c_Md_begins hW  σ ) miX12_begins mlX12_207 (sB0 hW) rfl rfl (Nat.le_of_ble_eq_true rfl) (Nat.le_of_ble_eq_true rfl) (Nat.le_of_ble_eq_true rfl) rfl dX12_shift_76 (fun q3 => ?_)
    refine a_iload_n hS dX12_shift_79 rfl ?_
    refine a_istore hS (L' := [some (rf w 0), some (iv x1), some (iv x2), some (iv x3), some (iv x4), some (iv x1)]) dX12_shift_80 hN (Nat.le_of_ble_eq_true rfl) rfl rfl ?_
    exact a_live (M := [true, false, true, true, true, true]) (k_Md_shift_82 hS hN hW   100000 x2 x3 x4 x1 q3.2) rfl
  · refine a_aload_n hS dX12_shift_34 rfl ?_
    refine a_iload hS dX12_shift_35 rfl ?_
    refine a_callVi hS (rst := []) (c_Md_isBlank hW x5 σ ) miX12_isBlank mlX12_114 (sB0 hW) rfl rfl (Nat.le_of_ble_eq_true rfl) (Nat.le_of_ble_eq_true rfl) (Nat.le_of_ble_eq_true rfl) rfl dX12_shift_37 (fun q4 => ?_)
    refine a_ifne hS rfl  (tgt := 69) dX12_shift_40 (by decide) ?_ ?_
    · refine a_iinc hS (L' := [some (rf w 0), some (iv x1), some (iv x2), some (iv x3), some (iv x4), some (iv (x5 + 1))]) dX12_shift_69 rfl hN (Nat.le_of_ble_eq_true rfl) rfl rfl ?_
      refine a_goto hS (tgt := 28) dX12_shift_72 (by decide) ?_
      exact hr28 x1 x2 x3 x4 (x5 + 1) q4.2
    · refine a_iinc hS (L' := [some (rf w 0), some (iv x1), some (iv x2), some (iv x3), some (iv (x4 + 1)), some (iv x5)]) dX12_shift_43 rfl hN (Nat.le_of_ble_eq_true rfl) rfl rfl ?_
      refine a_aload_n hS dX12_shift_46 rfl ?_
      refine a_getR hS (j := 1) dX12_shift_47 flX12_7 (sB0 hW) rfl ?_
      refine a_iconst hS dX12_shift_50 ?_
      refine a_iload hS dX12_shift_51 rfl ?_
      refine a_iadd hS dX12_shift_53 ?_
      refine a_iald hS dX12_shift_54 (sB1 hW) ?_
      refine a_iload_n hS dX12_shift_55 rfl ?_
      refine a_iadd hS dX12_shift_56 ?_
      refine a_iconst hS dX12_shift_57 ?_
      refine a_bipush hS dX12_shift_58 rfl ?_
      refine a_callSi hS (rst := []) (c_Md_in hW ((q4.2 1 (wr (1 + x5)).toNat) + x3) 0 40 q4.2 ) msX12_in mlX12_79 rfl (Nat.le_of_ble_eq_true rfl) (Nat.le_of_ble_eq_true rfl) (Nat.le_of_ble_eq_true rfl) rfl dX12_shift_60 (fun q5 => ?_)
      refine a_ifne hS rfl  (tgt := 69) dX12_shift_63 (by decide) ?_ ?_
      · refine a_iinc hS (L' := [some (rf w 0), some (iv x1), some (iv x2), some (iv x3), some (iv (x4 + 1)), some (iv (x5 + 1))]) dX12_shift_69 rfl hN (Nat.le_of_ble_eq_true rfl) rfl rfl ?_
        refine a_goto hS (tgt := 28) dX12_shift_72 (by decide) ?_
        exact hr28 x1 x2 x3 (x4 + 1) (x5 + 1) q5.2
      · refine a_bipush hS dX12_shift_66 rfl ?_
        exact a_iret hS rfl rfl dX12_shift_68
set_option maxRecDepth 100000 in
set_option maxHeartbeats 4000000 in
theorem c_Md_shift {l : Launch} {w : Wd} (hW : shp w = ShB) (a0 : Int) (a1 : Int) (a2 : Int) (σ : Mem)  : Ctr l w yX12_shift cX12_shift 6 (some .int) (rmN 2 44) 1 [rf w 0, iv a0, iv a1, iv a2] σ (Md_shift a0 a1 a2 σ) := by
  refine met_of (own := RX12) (by decide) rfl rfl rfl (Nat.le_of_ble_eq_true rfl) (fun X x hXl hN hS => ⟨[some (rf w 0), some (iv a0), some (iv a1), some (iv a2), none, none], ⟨2, rfl⟩, ?_⟩)
  subst hXl
  unfold Md_shift
  refine a_aload_n hS dX12_shift_0 rfl ?_
  refine a_iload_n hS dX12_shift_1 rfl ?_
  refine a_iload_n hS dX12_shift_2 rfl ?_
  refine a_callVi hS (rst := []) (c_Md_isRange hW a0 a1 σ ) miX12_isRange mlX12_225 (sB0 hW) rfl rfl (Nat.le_of_ble_eq_true rfl) (Nat.le_of_ble_eq_true rfl) (Nat.le_of_ble_eq_true rfl) rfl dX12_shift_3 (fun q1 => ?_)
  refine a_ifeq hS rfl  (tgt := 20) dX12_shift_6 (by decide) ?_ ?_
  · refine a_iconst hS dX12_shift_20 ?_
    exact a_iret hS rfl rfl dX12_shift_21
  · refine a_iload_n hS dX12_shift_9 rfl ?_
    refine a_bipush hS dX12_shift_10 rfl ?_
    refine a_bipush hS dX12_shift_12 rfl ?_
    refine a_callSi hS (rst := []) (c_Md_in hW a2 (-40) 40 q1.2 ) msX12_in mlX12_79 rfl (Nat.le_of_ble_eq_true rfl) (Nat.le_of_ble_eq_true rfl) (Nat.le_of_ble_eq_true rfl) rfl dX12_shift_14 (fun q2 => ?_)
    refine a_ifne hS rfl  (tgt := 22) dX12_shift_17 (by decide) ?_ ?_
    · refine a_iconst hS dX12_shift_22 ?_
      refine a_istore hS (L' := [some (rf w 0), some (iv a0), some (iv a1), some (iv a2), some (iv 0), none]) dX12_shift_23 hN (Nat.le_of_ble_eq_true rfl) rfl rfl ?_
      refine a_iload_n hS dX12_shift_25 rfl ?_
      refine a_istore hS (L' := [some (rf w 0), some (iv a0), some (iv a1), some (iv a2), some (iv 0), some (iv a0)]) dX12_shift_26 hN (Nat.le_of_ble_eq_true rfl) rfl rfl ?_
      exact k_Md_shift_28 hS hN hW   100000 a0 a1 a2 0 a0 q2.2
    · refine a_iconst hS dX12_shift_20 ?_
      exact a_iret hS rfl rfl dX12_shift_21
noncomputable def Md_pin (a0 : Int) (σ : Mem) : Option (Int × Mem) := (Md_isLine a0 σ).bind fun q1 => if wr q1.1 = 0 then (some ((-1), q1.2)) else ((Md_begins  q1.2).bind fun q2 => if 0 ≤ wr (41 + a0) ∧ wr (41 + a0) < (10780 : Int) then (if 0 ≤ wr (41 + a0) ∧ wr (41 + a0) < (10780 : Int) then (letM (upM q2.2 1 (wr (41 + a0)).toNat (1 - (q2.2 1 (wr (41 + a0)).toNat))) fun s3 => if 0 ≤ wr (41 + a0) ∧ wr (41 + a0) < (10780 : Int) then (some ((s3 1 (wr (41 + a0)).toNat), s3)) else none) else none) else none)
set_option maxRecDepth 100000 in
set_option maxHeartbeats 4000000 in
theorem c_Md_pin {l : Launch} {w : Wd} (hW : shp w = ShB) (a0 : Int) (σ : Mem)  : Ctr l w yX12_pin cX12_pin 2 (some .int) (rmN 2 44) 1 [rf w 0, iv a0] σ (Md_pin a0 σ) := by
  refine met_of (own := RX12) (by decide) rfl rfl rfl (Nat.le_of_ble_eq_true rfl) (fun X x hXl hN hS => ⟨[some (rf w 0), some (iv a0)], ⟨0, rfl⟩, ?_⟩)
  subst hXl
  unfold Md_pin
  refine a_aload_n hS dX12_pin_0 rfl ?_
  refine a_iload_n hS dX12_pin_1 rfl ?_
  refine a_callVi hS (rst := []) (c_Md_isLine hW a0 σ ) miX12_isLine mlX12_216 (sB0 hW) rfl rfl (Nat.le_of_ble_eq_true rfl) (Nat.le_of_ble_eq_true rfl) (Nat.le_of_ble_eq_true rfl) rfl dX12_pin_2 (fun q1 => ?_)
  refine a_ifne hS rfl  (tgt := 10) dX12_pin_5 (by decide) ?_ ?_
  · refine a_aload_n hS dX12_pin_10 rfl ?_
    refine a_callVv hS (rst := []) (c_Md_begins hW  q1.2 ) miX12_begins mlX12_207 (sB0 hW) rfl rfl (Nat.le_of_ble_eq_true rfl) (Nat.le_of_ble_eq_true rfl) (Nat.le_of_ble_eq_true rfl) rfl dX12_pin_11 (fun q2 => ?_)
    refine a_aload_n hS dX12_pin_14 rfl ?_
    refine a_getR hS (j := 1) dX12_pin_15 flX12_7 (sB0 hW) rfl ?_
    refine a_bipush hS dX12_pin_18 rfl ?_
    refine a_iload_n hS dX12_pin_20 rfl ?_
    refine a_iadd hS dX12_pin_21 ?_
    refine a_iconst hS dX12_pin_22 ?_
    refine a_aload_n hS dX12_pin_23 rfl ?_
    refine a_getR hS (j := 1) dX12_pin_24 flX12_7 (sB0 hW) rfl ?_
    refine a_bipush hS dX12_pin_27 rfl ?_
    refine a_iload_n hS dX12_pin_29 rfl ?_
    refine a_iadd hS dX12_pin_30 ?_
    refine a_iald hS dX12_pin_31 (sB1 hW) ?_
    refine a_isub hS dX12_pin_32 ?_
    refine a_iast hS (sB1 hW) dX12_pin_33 ?_
    refine a_letM (fun s3 => ?_)
    refine a_aload_n hS dX12_pin_34 rfl ?_
    refine a_getR hS (j := 1) dX12_pin_35 flX12_7 (sB0 hW) rfl ?_
    refine a_bipush hS dX12_pin_38 rfl ?_
    refine a_iload_n hS dX12_pin_40 rfl ?_
    refine a_iadd hS dX12_pin_41 ?_
    refine a_iald hS dX12_pin_42 (sB1 hW) ?_
    exact a_iret hS rfl rfl dX12_pin_43
  · refine a_iconst hS dX12_pin_8 ?_
    exact a_iret hS rfl rfl dX12_pin_9
noncomputable def Md_reindent_45b   (r45 : Int → Int → Mem → Option (Int × Mem)) (x3 : Int) (x4 : Int) (σ : Mem) : Option (Int × Mem) := if 0 ≤ wr 0 ∧ wr 0 < (10780 : Int) then (if wr x4 < wr (σ 1 (wr 0).toNat) then (if 0 ≤ wr x4 ∧ wr x4 < (20 : Int) then (if 0 ≤ wr (1 + x4) ∧ wr (1 + x4) < (10780 : Int) then (letM (upM σ 1 (wr (1 + x4)).toNat (σ 16 (wr x4).toNat)) fun s6 => r45 x3 (x4 + 1) s6) else none) else none) else ((Md_bits x3 σ).bind fun q5 => some (q5.1, q5.2))) else none
noncomputable def Md_reindent_45   (n : Nat) : Int → Int → Mem → Option (Int × Mem) := fixN (fun _ _ _ => none) (Md_reindent_45b  ) n
noncomputable def Md_reindent (a0 : Int) (a1 : Int) (σ : Mem) : Option (Int × Mem) := (Md_isRange a0 a1 σ).bind fun q1 => if wr q1.1 = 0 then (some ((-1), q1.2)) else ((Md_begins  q1.2).bind fun q2 => if 0 ≤ wr 977 ∧ wr 977 < (10780 : Int) then (if 0 ≤ wr 978 ∧ wr 978 < (10780 : Int) then ((Md_uses (q2.2 1 (wr 977).toNat) (q2.2 1 (wr 978).toNat) q2.2).bind fun q3 => (Md_settles a0 a1 q3.2).bind fun q4 => Md_reindent_45 100000 q4.1 0 q4.2) else none) else none)
set_option maxRecDepth 100000 in
set_option maxHeartbeats 4000000 in
theorem k_Md_reindent_45 {X : Cx} {w : Wd} {x : Int × Mem} (hS : Std X (rmN 7 161) w cX12_reindent RX12 (some .int)) (hN : cxn X = 5) (hW : shp w = ShB)   : ∀ (n : Nat) (x3 : Int) (x4 : Int) (σ : Mem), Sm X (rmN 7 161) w 1 x 45 [some (rf w 0), none, none, some (iv x3), some (iv x4)] [] σ (Md_reindent_45   n x3 x4 σ) := by
  refine fix_ok (P := fun (r45 : Int → Int → Mem → Option (Int × Mem)) => ∀ (x3 : Int) (x4 : Int) (σ : Mem), Sm X (rmN 7 161) w 1 x 45 [some (rf w 0), none, none, some (iv x3), some (iv x4)] [] σ (r45 x3 x4 σ)) (fun _ _ _ => a_none) (fun r45 hr45 => ?_)
  intro x3 x4 σ
  unfold Md_reindent_45b
  refine a_iload hS dX12_reindent_45 rfl ?_
  refine a_aload_n hS dX12_reindent_47 rfl ?_
  refine a_getR hS (j := 1) dX12_reindent_48 flX12_7 (sB0 hW) rfl ?_
  refine a_iconst hS dX12_reindent_51 ?_
  refine a_iald hS dX12_reindent_52 (sB1 hW) ?_
  refine a_icmpge hS rfl rfl (tgt := 78) dX12_reindent_53 (by decide) ?_ ?_
  · refine a_iload_n hS dX12_reindent_78 rfl ?_
    refine a_callSi hS (rst := []) (c_Md_bits hW x3 σ ) msX12_bits mlX12_231 rfl (Nat.le_of_ble_eq_true rfl) (Nat.le_of_ble_eq_true rfl) (Nat.le_of_ble_eq_true rfl) rfl dX12_reindent_79 (fun q5 => ?_)
    exact a_iret hS rfl rfl dX12_reindent_82
  · refine a_aload_n hS dX12_reindent_56 rfl ?_
    refine a_getR hS (j := 1) dX12_reindent_57 flX12_7 (sB0 hW) rfl ?_
    refine a_iconst hS dX12_reindent_60 ?_
    refine a_iload hS dX12_reindent_61 rfl ?_
    refine a_iadd hS dX12_reindent_63 ?_
    refine a_aload_n hS dX12_reindent_64 rfl ?_
    refine a_getR hS (j := 16) dX12_reindent_65 flX12_56 (sB0 hW) rfl ?_
    refine a_iload hS dX12_reindent_68 rfl ?_
    refine a_iald hS dX12_reindent_70 (sB16 hW) ?_
    refine a_iast hS (sB1 hW) dX12_reindent_71 ?_
    refine a_letM (fun s6 => ?_)
    refine a_iinc hS (L' := [some (rf w 0), none, none, some (iv x3), some (iv (x4 + 1))]) dX12_reindent_72 rfl hN (Nat.le_of_ble_eq_true rfl) rfl rfl ?_
    refine a_goto hS (tgt := 45) dX12_reindent_75 (by decide) ?_
    exact hr45 x3 (x4 + 1) s6
set_option maxRecDepth 100000 in
set_option maxHeartbeats 4000000 in
theorem c_Md_reindent {l : Launch} {w : Wd} (hW : shp w = ShB) (a0 : Int) (a1 : Int) (σ : Mem)  : Ctr l w yX12_reindent cX12_reindent 5 (some .int) (rmN 7 161) 1 [rf w 0, iv a0, iv a1] σ (Md_reindent a0 a1 σ) := by
  refine met_of (own := RX12) (by decide) rfl rfl rfl (Nat.le_of_ble_eq_true rfl) (fun X x hXl hN hS => ⟨[some (rf w 0), some (iv a0), some (iv a1), none, none], ⟨2, rfl⟩, ?_⟩)
  subst hXl
  unfold Md_reindent
  refine a_aload_n hS dX12_reindent_0 rfl ?_
  refine a_iload_n hS dX12_reindent_1 rfl ?_
  refine a_iload_n hS dX12_reindent_2 rfl ?_
  refine a_callVi hS (rst := []) (c_Md_isRange hW a0 a1 σ ) miX12_isRange mlX12_225 (sB0 hW) rfl rfl (Nat.le_of_ble_eq_true rfl) (Nat.le_of_ble_eq_true rfl) (Nat.le_of_ble_eq_true rfl) rfl dX12_reindent_3 (fun q1 => ?_)
  refine a_ifne hS rfl  (tgt := 11) dX12_reindent_6 (by decide) ?_ ?_
  · refine a_aload_n hS dX12_reindent_11 rfl ?_
    refine a_callVv hS (rst := []) (c_Md_begins hW  q1.2 ) miX12_begins mlX12_207 (sB0 hW) rfl rfl (Nat.le_of_ble_eq_true rfl) (Nat.le_of_ble_eq_true rfl) (Nat.le_of_ble_eq_true rfl) rfl dX12_reindent_12 (fun q2 => ?_)
    refine a_aload_n hS dX12_reindent_15 rfl ?_
    refine a_aload_n hS dX12_reindent_16 rfl ?_
    refine a_getR hS (j := 1) dX12_reindent_17 flX12_7 (sB0 hW) rfl ?_
    refine a_sipush hS dX12_reindent_20 rfl ?_
    refine a_iald hS dX12_reindent_23 (sB1 hW) ?_
    refine a_aload_n hS dX12_reindent_24 rfl ?_
    refine a_getR hS (j := 1) dX12_reindent_25 flX12_7 (sB0 hW) rfl ?_
    refine a_sipush hS dX12_reindent_28 rfl ?_
    refine a_iald hS dX12_reindent_31 (sB1 hW) ?_
    refine a_callVv hS (rst := []) (c_Md_uses hW (q2.2 1 (wr 977).toNat) (q2.2 1 (wr 978).toNat) q2.2 ) miX12_uses mlX12_222 (sB0 hW) rfl rfl (Nat.le_of_ble_eq_true rfl) (Nat.le_of_ble_eq_true rfl) (Nat.le_of_ble_eq_true rfl) rfl dX12_reindent_32 (fun q3 => ?_)
    refine a_aload_n hS dX12_reindent_35 rfl ?_
    refine a_iload_n hS dX12_reindent_36 rfl ?_
    refine a_iload_n hS dX12_reindent_37 rfl ?_
    refine a_callVi hS (rst := []) (c_Md_settles hW a0 a1 q3.2 ) miX12_settles mlX12_228 (sB0 hW) rfl rfl (Nat.le_of_ble_eq_true rfl) (Nat.le_of_ble_eq_true rfl) (Nat.le_of_ble_eq_true rfl) rfl dX12_reindent_38 (fun q4 => ?_)
    refine a_istore_n hS (L' := [some (rf w 0), some (iv a0), some (iv a1), some (iv q4.1), none]) dX12_reindent_41 hN (Nat.le_of_ble_eq_true rfl) rfl rfl ?_
    refine a_iconst hS dX12_reindent_42 ?_
    refine a_istore hS (L' := [some (rf w 0), some (iv a0), some (iv a1), some (iv q4.1), some (iv 0)]) dX12_reindent_43 hN (Nat.le_of_ble_eq_true rfl) rfl rfl ?_
    exact a_live (M := [true, false, false, true, true]) (k_Md_reindent_45 hS hN hW   100000 q4.1 0 q4.2) rfl
  · refine a_iconst hS dX12_reindent_9 ?_
    exact a_iret hS rfl rfl dX12_reindent_10
noncomputable def Md_lines  (σ : Mem) : Option (Int × Mem) := if 0 ≤ wr 0 ∧ wr 0 < (10780 : Int) then (some ((σ 1 (wr 0).toNat), σ)) else none
set_option maxRecDepth 100000 in
set_option maxHeartbeats 4000000 in
theorem c_Md_lines {l : Launch} {w : Wd} (hW : shp w = ShB)  (σ : Mem)  : Ctr l w yX12_lines cX12_lines 1 (some .int) (rmN 0 0) 1 [rf w 0] σ (Md_lines  σ) := by
  refine met_of (own := RX12) (by decide) rfl rfl rfl (Nat.le_of_ble_eq_true rfl) (fun X x hXl hN hS => ⟨[some (rf w 0)], ⟨0, rfl⟩, ?_⟩)
  subst hXl
  unfold Md_lines
  refine a_aload_n hS dX12_lines_0 rfl ?_
  refine a_getR hS (j := 1) dX12_lines_1 flX12_7 (sB0 hW) rfl ?_
  refine a_iconst hS dX12_lines_4 ?_
  refine a_iald hS dX12_lines_5 (sB1 hW) ?_
  exact a_iret hS rfl rfl dX12_lines_6
noncomputable def Md_indentation (a0 : Int) (σ : Mem) : Option (Int × Mem) := (Md_isLine a0 σ).bind fun q1 => if wr q1.1 = 0 then (some ((-1), q1.2)) else (if 0 ≤ wr (1 + a0) ∧ wr (1 + a0) < (10780 : Int) then (some ((q1.2 1 (wr (1 + a0)).toNat), q1.2)) else none)
set_option maxRecDepth 100000 in
set_option maxHeartbeats 4000000 in
theorem c_Md_indentation {l : Launch} {w : Wd} (hW : shp w = ShB) (a0 : Int) (σ : Mem)  : Ctr l w yX12_indentation cX12_indentation 2 (some .int) (rmN 2 43) 1 [rf w 0, iv a0] σ (Md_indentation a0 σ) := by
  refine met_of (own := RX12) (by decide) rfl rfl rfl (Nat.le_of_ble_eq_true rfl) (fun X x hXl hN hS => ⟨[some (rf w 0), some (iv a0)], ⟨0, rfl⟩, ?_⟩)
  subst hXl
  unfold Md_indentation
  refine a_aload_n hS dX12_indentation_0 rfl ?_
  refine a_iload_n hS dX12_indentation_1 rfl ?_
  refine a_callVi hS (rst := []) (c_Md_isLine hW a0 σ ) miX12_isLine mlX12_216 (sB0 hW) rfl rfl (Nat.le_of_ble_eq_true rfl) (Nat.le_of_ble_eq_true rfl) (Nat.le_of_ble_eq_true rfl) rfl dX12_indentation_2 (fun q1 => ?_)
  refine a_ifeq hS rfl  (tgt := 19) dX12_indentation_5 (by decide) ?_ ?_
  · refine a_iconst hS dX12_indentation_19 ?_
    exact a_iret hS rfl rfl dX12_indentation_20
  · refine a_aload_n hS dX12_indentation_8 rfl ?_
    refine a_getR hS (j := 1) dX12_indentation_9 flX12_7 (sB0 hW) rfl ?_
    refine a_iconst hS dX12_indentation_12 ?_
    refine a_iload_n hS dX12_indentation_13 rfl ?_
    refine a_iadd hS dX12_indentation_14 ?_
    refine a_iald hS dX12_indentation_15 (sB1 hW) ?_
    refine a_goto hS (tgt := 20) dX12_indentation_16 (by decide) ?_
    exact a_iret hS rfl rfl dX12_indentation_20
noncomputable def Md_length (a0 : Int) (σ : Mem) : Option (Int × Mem) := (Md_isLine a0 σ).bind fun q1 => if wr q1.1 = 0 then (some ((-1), q1.2)) else (if 0 ≤ wr (21 + a0) ∧ wr (21 + a0) < (10780 : Int) then (some ((q1.2 1 (wr (21 + a0)).toNat), q1.2)) else none)
set_option maxRecDepth 100000 in
set_option maxHeartbeats 4000000 in
theorem c_Md_length {l : Launch} {w : Wd} (hW : shp w = ShB) (a0 : Int) (σ : Mem)  : Ctr l w yX12_length cX12_length 2 (some .int) (rmN 2 43) 1 [rf w 0, iv a0] σ (Md_length a0 σ) := by
  refine met_of (own := RX12) (by decide) rfl rfl rfl (Nat.le_of_ble_eq_true rfl) (fun X x hXl hN hS => ⟨[some (rf w 0), some (iv a0)], ⟨0, rfl⟩, ?_⟩)
  subst hXl
  unfold Md_length
  refine a_aload_n hS dX12_length_0 rfl ?_
  refine a_iload_n hS dX12_length_1 rfl ?_
  refine a_callVi hS (rst := []) (c_Md_isLine hW a0 σ ) miX12_isLine mlX12_216 (sB0 hW) rfl rfl (Nat.le_of_ble_eq_true rfl) (Nat.le_of_ble_eq_true rfl) (Nat.le_of_ble_eq_true rfl) rfl dX12_length_2 (fun q1 => ?_)
  refine a_ifeq hS rfl  (tgt := 20) dX12_length_5 (by decide) ?_ ?_
  · refine a_iconst hS dX12_length_20 ?_
    exact a_iret hS rfl rfl dX12_length_21
  · refine a_aload_n hS dX12_length_8 rfl ?_
    refine a_getR hS (j := 1) dX12_length_9 flX12_7 (sB0 hW) rfl ?_
    refine a_bipush hS dX12_length_12 rfl ?_
    refine a_iload_n hS dX12_length_14 rfl ?_
    refine a_iadd hS dX12_length_15 ?_
    refine a_iald hS dX12_length_16 (sB1 hW) ?_
    refine a_goto hS (tgt := 21) dX12_length_17 (by decide) ?_
    exact a_iret hS rfl rfl dX12_length_21
noncomputable def Md_byteAt (a0 : Int) (a1 : Int) (σ : Mem) : Option (Int × Mem) := (Md_isLine a0 σ).bind fun q1 => if wr q1.1 = 0 then (some ((-1), q1.2)) else (if wr a1 < 0 then (some ((-1), q1.2)) else ((Md_contentAt a0 a1 q1.2).bind fun q2 => some (q2.1, q2.2)))
set_option maxRecDepth 100000 in
set_option maxHeartbeats 4000000 in
theorem c_Md_byteAt {l : Launch} {w : Wd} (hW : shp w = ShB) (a0 : Int) (a1 : Int) (σ : Mem)  : Ctr l w yX12_byteAt cX12_byteAt 3 (some .int) (rmN 2 43) 1 [rf w 0, iv a0, iv a1] σ (Md_byteAt a0 a1 σ) := by
  refine met_of (own := RX12) (by decide) rfl rfl rfl (Nat.le_of_ble_eq_true rfl) (fun X x hXl hN hS => ⟨[some (rf w 0), some (iv a0), some (iv a1)], ⟨0, rfl⟩, ?_⟩)
  subst hXl
  unfold Md_byteAt
  refine a_aload_n hS dX12_byteAt_0 rfl ?_
  refine a_iload_n hS dX12_byteAt_1 rfl ?_
  refine a_callVi hS (rst := []) (c_Md_isLine hW a0 σ ) miX12_isLine mlX12_216 (sB0 hW) rfl rfl (Nat.le_of_ble_eq_true rfl) (Nat.le_of_ble_eq_true rfl) (Nat.le_of_ble_eq_true rfl) rfl dX12_byteAt_2 (fun q1 => ?_)
  refine a_ifeq hS rfl  (tgt := 21) dX12_byteAt_5 (by decide) ?_ ?_
  · refine a_iconst hS dX12_byteAt_21 ?_
    exact a_iret hS rfl rfl dX12_byteAt_22
  · refine a_iload_n hS dX12_byteAt_8 rfl ?_
    refine a_iflt hS rfl  (tgt := 21) dX12_byteAt_9 (by decide) ?_ ?_
    · refine a_iconst hS dX12_byteAt_21 ?_
      exact a_iret hS rfl rfl dX12_byteAt_22
    · refine a_aload_n hS dX12_byteAt_12 rfl ?_
      refine a_iload_n hS dX12_byteAt_13 rfl ?_
      refine a_iload_n hS dX12_byteAt_14 rfl ?_
      refine a_callVi hS (rst := []) (c_Md_contentAt hW a0 a1 q1.2 ) miX12_contentAt mlX12_83 (sB0 hW) rfl rfl (Nat.le_of_ble_eq_true rfl) (Nat.le_of_ble_eq_true rfl) (Nat.le_of_ble_eq_true rfl) rfl dX12_byteAt_15 (fun q2 => ?_)
      refine a_goto hS (tgt := 22) dX12_byteAt_18 (by decide) ?_
      exact a_iret hS rfl rfl dX12_byteAt_22
noncomputable def Md_isProtected (a0 : Int) (σ : Mem) : Option (Int × Mem) := (Md_isLine a0 σ).bind fun q1 => if wr q1.1 = 0 then (some ((-1), q1.2)) else ((Md_tokenizes  q1.2).bind fun q2 => if 0 ≤ wr a0 ∧ wr a0 < (20 : Int) then (if wr (q2.2 12 (wr a0).toNat) = 0 then (some (0, q2.2)) else (some (1, q2.2))) else none)
set_option maxRecDepth 100000 in
set_option maxHeartbeats 4000000 in
theorem c_Md_isProtected {l : Launch} {w : Wd} (hW : shp w = ShB) (a0 : Int) (σ : Mem)  : Ctr l w yX12_isProtected cX12_isProtected 2 (some .int) (rmN 5 115) 1 [rf w 0, iv a0] σ (Md_isProtected a0 σ) := by
  refine met_of (own := RX12) (by decide) rfl rfl rfl (Nat.le_of_ble_eq_true rfl) (fun X x hXl hN hS => ⟨[some (rf w 0), some (iv a0)], ⟨0, rfl⟩, ?_⟩)
  subst hXl
  unfold Md_isProtected
  refine a_aload_n hS dX12_isProtected_0 rfl ?_
  refine a_iload_n hS dX12_isProtected_1 rfl ?_
  refine a_callVi hS (rst := []) (c_Md_isLine hW a0 σ ) miX12_isLine mlX12_216 (sB0 hW) rfl rfl (Nat.le_of_ble_eq_true rfl) (Nat.le_of_ble_eq_true rfl) (Nat.le_of_ble_eq_true rfl) rfl dX12_isProtected_2 (fun q1 => ?_)
  refine a_ifne hS rfl  (tgt := 10) dX12_isProtected_5 (by decide) ?_ ?_
  · refine a_aload_n hS dX12_isProtected_10 rfl ?_
    refine a_callVv hS (rst := []) (c_Md_tokenizes hW  q1.2 ) miX12_tokenizes mlX12_138 (sB0 hW) rfl rfl (Nat.le_of_ble_eq_true rfl) (Nat.le_of_ble_eq_true rfl) (Nat.le_of_ble_eq_true rfl) rfl dX12_isProtected_11 (fun q2 => ?_)
    refine a_aload_n hS dX12_isProtected_14 rfl ?_
    refine a_getR hS (j := 12) dX12_isProtected_15 flX12_44 (sB0 hW) rfl ?_
    refine a_iload_n hS dX12_isProtected_18 rfl ?_
    refine a_zald hS (sB12 hW) dX12_isProtected_19 ?_
    refine a_ifeq hS rfl  (tgt := 27) dX12_isProtected_20 (by decide) ?_ ?_
    · refine a_iconst hS dX12_isProtected_27 ?_
      exact a_iret hS rfl rfl dX12_isProtected_28
    · refine a_iconst hS dX12_isProtected_23 ?_
      refine a_goto hS (tgt := 28) dX12_isProtected_24 (by decide) ?_
      exact a_iret hS rfl rfl dX12_isProtected_28
  · refine a_iconst hS dX12_isProtected_8 ?_
    exact a_iret hS rfl rfl dX12_isProtected_9
noncomputable def Md_isPinned (a0 : Int) (σ : Mem) : Option (Int × Mem) := (Md_isLine a0 σ).bind fun q1 => if wr q1.1 = 0 then (some ((-1), q1.2)) else (if 0 ≤ wr (41 + a0) ∧ wr (41 + a0) < (10780 : Int) then (some ((q1.2 1 (wr (41 + a0)).toNat), q1.2)) else none)
set_option maxRecDepth 100000 in
set_option maxHeartbeats 4000000 in
theorem c_Md_isPinned {l : Launch} {w : Wd} (hW : shp w = ShB) (a0 : Int) (σ : Mem)  : Ctr l w yX12_isPinned cX12_isPinned 2 (some .int) (rmN 2 43) 1 [rf w 0, iv a0] σ (Md_isPinned a0 σ) := by
  refine met_of (own := RX12) (by decide) rfl rfl rfl (Nat.le_of_ble_eq_true rfl) (fun X x hXl hN hS => ⟨[some (rf w 0), some (iv a0)], ⟨0, rfl⟩, ?_⟩)
  subst hXl
  unfold Md_isPinned
  refine a_aload_n hS dX12_isPinned_0 rfl ?_
  refine a_iload_n hS dX12_isPinned_1 rfl ?_
  refine a_callVi hS (rst := []) (c_Md_isLine hW a0 σ ) miX12_isLine mlX12_216 (sB0 hW) rfl rfl (Nat.le_of_ble_eq_true rfl) (Nat.le_of_ble_eq_true rfl) (Nat.le_of_ble_eq_true rfl) rfl dX12_isPinned_2 (fun q1 => ?_)
  refine a_ifeq hS rfl  (tgt := 20) dX12_isPinned_5 (by decide) ?_ ?_
  · refine a_iconst hS dX12_isPinned_20 ?_
    exact a_iret hS rfl rfl dX12_isPinned_21
  · refine a_aload_n hS dX12_isPinned_8 rfl ?_
    refine a_getR hS (j := 1) dX12_isPinned_9 flX12_7 (sB0 hW) rfl ?_
    refine a_bipush hS dX12_isPinned_12 rfl ?_
    refine a_iload_n hS dX12_isPinned_14 rfl ?_
    refine a_iadd hS dX12_isPinned_15 ?_
    refine a_iald hS dX12_isPinned_16 (sB1 hW) ?_
    refine a_goto hS (tgt := 21) dX12_isPinned_17 (by decide) ?_
    exact a_iret hS rfl rfl dX12_isPinned_21
noncomputable def Md_sets (a0 : Int) (a1 : Int) (σ : Mem) : Option (Int × Mem) := (Md_begins  σ).bind fun q1 => if 0 ≤ wr a0 ∧ wr a0 < (10780 : Int) then (if 0 ≤ wr a0 ∧ wr a0 < (10780 : Int) then (letM (upM q1.2 1 (wr a0).toNat a1) fun s2 => some ((q1.2 1 (wr a0).toNat), s2)) else none) else none
set_option maxRecDepth 100000 in
set_option maxHeartbeats 4000000 in
theorem c_Md_sets {l : Launch} {w : Wd} (hW : shp w = ShB) (a0 : Int) (a1 : Int) (σ : Mem)  : Ctr l w yX12_sets cX12_sets 4 (some .int) (rmN 2 44) 1 [rf w 0, iv a0, iv a1] σ (Md_sets a0 a1 σ) := by
  refine met_of (own := RX12) (by decide) rfl rfl rfl (Nat.le_of_ble_eq_true rfl) (fun X x hXl hN hS => ⟨[some (rf w 0), some (iv a0), some (iv a1), none], ⟨1, rfl⟩, ?_⟩)
  subst hXl
  unfold Md_sets
  refine a_aload_n hS dX12_sets_0 rfl ?_
  refine a_callVv hS (rst := []) (c_Md_begins hW  σ ) miX12_begins mlX12_207 (sB0 hW) rfl rfl (Nat.le_of_ble_eq_true rfl) (Nat.le_of_ble_eq_true rfl) (Nat.le_of_ble_eq_true rfl) rfl dX12_sets_1 (fun q1 => ?_)
  refine a_aload_n hS dX12_sets_4 rfl ?_
  refine a_getR hS (j := 1) dX12_sets_5 flX12_7 (sB0 hW) rfl ?_
  refine a_iload_n hS dX12_sets_8 rfl ?_
  refine a_iald hS dX12_sets_9 (sB1 hW) ?_
  refine a_istore_n hS (L' := [some (rf w 0), some (iv a0), some (iv a1), some (iv (q1.2 1 (wr a0).toNat))]) dX12_sets_10 hN (Nat.le_of_ble_eq_true rfl) rfl rfl ?_
  refine a_aload_n hS dX12_sets_11 rfl ?_
  refine a_getR hS (j := 1) dX12_sets_12 flX12_7 (sB0 hW) rfl ?_
  refine a_iload_n hS dX12_sets_15 rfl ?_
  refine a_iload_n hS dX12_sets_16 rfl ?_
  refine a_iast hS (sB1 hW) dX12_sets_17 ?_
  refine a_letM (fun s2 => ?_)
  refine a_iload_n hS dX12_sets_18 rfl ?_
  exact a_iret hS rfl rfl dX12_sets_19
noncomputable def Md_setStep (a0 : Int) (σ : Mem) : Option (Int × Mem) := (Md_in a0 1 8 σ).bind fun q1 => if wr q1.1 = 0 then (some ((-1), q1.2)) else ((Md_sets 977 a0 q1.2).bind fun q2 => some (q2.1, q2.2))
set_option maxRecDepth 100000 in
set_option maxHeartbeats 4000000 in
theorem c_Md_setStep {l : Launch} {w : Wd} (hW : shp w = ShB) (a0 : Int) (σ : Mem)  : Ctr l w yX12_setStep cX12_setStep 2 (some .int) (rmN 3 67) 1 [rf w 0, iv a0] σ (Md_setStep a0 σ) := by
  refine met_of (own := RX12) (by decide) rfl rfl rfl (Nat.le_of_ble_eq_true rfl) (fun X x hXl hN hS => ⟨[some (rf w 0), some (iv a0)], ⟨0, rfl⟩, ?_⟩)
  subst hXl
  unfold Md_setStep
  refine a_iload_n hS dX12_setStep_0 rfl ?_
  refine a_iconst hS dX12_setStep_1 ?_
  refine a_bipush hS dX12_setStep_2 rfl ?_
  refine a_callSi hS (rst := []) (c_Md_in hW a0 1 8 σ ) msX12_in mlX12_79 rfl (Nat.le_of_ble_eq_true rfl) (Nat.le_of_ble_eq_true rfl) (Nat.le_of_ble_eq_true rfl) rfl dX12_setStep_4 (fun q1 => ?_)
  refine a_ifeq hS rfl  (tgt := 21) dX12_setStep_7 (by decide) ?_ ?_
  · refine a_iconst hS dX12_setStep_21 ?_
    exact a_iret hS rfl rfl dX12_setStep_22
  · refine a_aload_n hS dX12_setStep_10 rfl ?_
    refine a_sipush hS dX12_setStep_11 rfl ?_
    refine a_iload_n hS dX12_setStep_14 rfl ?_
    refine a_callVi hS (rst := []) (c_Md_sets hW 977 a0 q1.2 ) miX12_sets mlX12_234 (sB0 hW) rfl rfl (Nat.le_of_ble_eq_true rfl) (Nat.le_of_ble_eq_true rfl) (Nat.le_of_ble_eq_true rfl) rfl dX12_setStep_15 (fun q2 => ?_)
    refine a_goto hS (tgt := 22) dX12_setStep_18 (by decide) ?_
    exact a_iret hS rfl rfl dX12_setStep_22
noncomputable def Md_setBase (a0 : Int) (σ : Mem) : Option (Int × Mem) := (Md_in a0 0 20 σ).bind fun q1 => if wr q1.1 = 0 then (some ((-1), q1.2)) else ((Md_sets 978 a0 q1.2).bind fun q2 => some (q2.1, q2.2))
set_option maxRecDepth 100000 in
set_option maxHeartbeats 4000000 in
theorem c_Md_setBase {l : Launch} {w : Wd} (hW : shp w = ShB) (a0 : Int) (σ : Mem)  : Ctr l w yX12_setBase cX12_setBase 2 (some .int) (rmN 3 67) 1 [rf w 0, iv a0] σ (Md_setBase a0 σ) := by
  refine met_of (own := RX12) (by decide) rfl rfl rfl (Nat.le_of_ble_eq_true rfl) (fun X x hXl hN hS => ⟨[some (rf w 0), some (iv a0)], ⟨0, rfl⟩, ?_⟩)
  subst hXl
  unfold Md_setBase
  refine a_iload_n hS dX12_setBase_0 rfl ?_
  refine a_iconst hS dX12_setBase_1 ?_
  refine a_bipush hS dX12_setBase_2 rfl ?_
  refine a_callSi hS (rst := []) (c_Md_in hW a0 0 20 σ ) msX12_in mlX12_79 rfl (Nat.le_of_ble_eq_true rfl) (Nat.le_of_ble_eq_true rfl) (Nat.le_of_ble_eq_true rfl) rfl dX12_setBase_4 (fun q1 => ?_)
  refine a_ifeq hS rfl  (tgt := 21) dX12_setBase_7 (by decide) ?_ ?_
  · refine a_iconst hS dX12_setBase_21 ?_
    exact a_iret hS rfl rfl dX12_setBase_22
  · refine a_aload_n hS dX12_setBase_10 rfl ?_
    refine a_sipush hS dX12_setBase_11 rfl ?_
    refine a_iload_n hS dX12_setBase_14 rfl ?_
    refine a_callVi hS (rst := []) (c_Md_sets hW 978 a0 q1.2 ) miX12_sets mlX12_234 (sB0 hW) rfl rfl (Nat.le_of_ble_eq_true rfl) (Nat.le_of_ble_eq_true rfl) (Nat.le_of_ble_eq_true rfl) rfl dX12_setBase_15 (fun q2 => ?_)
    refine a_goto hS (tgt := 22) dX12_setBase_18 (by decide) ?_
    exact a_iret hS rfl rfl dX12_setBase_22
noncomputable def Md_setComment (a0 : Int) (σ : Mem) : Option (Int × Mem) := if wr a0 = 0 then ((Md_sets 979 a0 σ).bind fun q1 => some (q1.1, q1.2)) else ((Md_in a0 33 126 σ).bind fun q2 => if wr q2.1 = 0 then (some ((-1), q2.2)) else (if wr a0 = 34 then (some ((-1), q2.2)) else ((Md_isWord a0 q2.2).bind fun q3 => if wr q3.1 = 0 then ((Md_sets 979 a0 q3.2).bind fun q4 => some (q4.1, q4.2)) else (some ((-1), q3.2)))))
set_option maxRecDepth 100000 in
set_option maxHeartbeats 4000000 in
theorem c_Md_setComment {l : Launch} {w : Wd} (hW : shp w = ShB) (a0 : Int) (σ : Mem)  : Ctr l w yX12_setComment cX12_setComment 2 (some .int) (rmN 3 67) 1 [rf w 0, iv a0] σ (Md_setComment a0 σ) := by
  refine met_of (own := RX12) (by decide) rfl rfl rfl (Nat.le_of_ble_eq_true rfl) (fun X x hXl hN hS => ⟨[some (rf w 0), some (iv a0)], ⟨0, rfl⟩, ?_⟩)
  subst hXl
  unfold Md_setComment
  refine a_iload_n hS dX12_setComment_0 rfl ?_
  refine a_ifeq hS rfl  (tgt := 28) dX12_setComment_1 (by decide) ?_ ?_
  · refine a_aload_n hS dX12_setComment_28 rfl ?_
    refine a_sipush hS dX12_setComment_29 rfl ?_
    refine a_iload_n hS dX12_setComment_32 rfl ?_
    refine a_callVi hS (rst := []) (c_Md_sets hW 979 a0 σ ) miX12_sets mlX12_234 (sB0 hW) rfl rfl (Nat.le_of_ble_eq_true rfl) (Nat.le_of_ble_eq_true rfl) (Nat.le_of_ble_eq_true rfl) rfl dX12_setComment_33 (fun q1 => ?_)
    refine a_goto hS (tgt := 40) dX12_setComment_36 (by decide) ?_
    exact a_iret hS rfl rfl dX12_setComment_40
  · refine a_iload_n hS dX12_setComment_4 rfl ?_
    refine a_bipush hS dX12_setComment_5 rfl ?_
    refine a_bipush hS dX12_setComment_7 rfl ?_
    refine a_callSi hS (rst := []) (c_Md_in hW a0 33 126 σ ) msX12_in mlX12_79 rfl (Nat.le_of_ble_eq_true rfl) (Nat.le_of_ble_eq_true rfl) (Nat.le_of_ble_eq_true rfl) rfl dX12_setComment_9 (fun q2 => ?_)
    refine a_ifeq hS rfl  (tgt := 39) dX12_setComment_12 (by decide) ?_ ?_
    · refine a_iconst hS dX12_setComment_39 ?_
      exact a_iret hS rfl rfl dX12_setComment_40
    · refine a_iload_n hS dX12_setComment_15 rfl ?_
      refine a_bipush hS dX12_setComment_16 rfl ?_
      refine a_icmpeq hS rfl (wl 34 rfl) (tgt := 39) dX12_setComment_18 (by decide) ?_ ?_
      · refine a_iconst hS dX12_setComment_39 ?_
        exact a_iret hS rfl rfl dX12_setComment_40
      · refine a_iload_n hS dX12_setComment_21 rfl ?_
        refine a_callSi hS (rst := []) (c_Md_isWord hW a0 q2.2 ) msX12_isWord mlX12_94 rfl (Nat.le_of_ble_eq_true rfl) (Nat.le_of_ble_eq_true rfl) (Nat.le_of_ble_eq_true rfl) rfl dX12_setComment_22 (fun q3 => ?_)
        refine a_ifne hS rfl  (tgt := 39) dX12_setComment_25 (by decide) ?_ ?_
        · refine a_iconst hS dX12_setComment_39 ?_
          exact a_iret hS rfl rfl dX12_setComment_40
        · refine a_aload_n hS dX12_setComment_28 rfl ?_
          refine a_sipush hS dX12_setComment_29 rfl ?_
          refine a_iload_n hS dX12_setComment_32 rfl ?_
          refine a_callVi hS (rst := []) (c_Md_sets hW 979 a0 q3.2 ) miX12_sets mlX12_234 (sB0 hW) rfl rfl (Nat.le_of_ble_eq_true rfl) (Nat.le_of_ble_eq_true rfl) (Nat.le_of_ble_eq_true rfl) rfl dX12_setComment_33 (fun q4 => ?_)
          refine a_goto hS (tgt := 40) dX12_setComment_36 (by decide) ?_
          exact a_iret hS rfl rfl dX12_setComment_40
noncomputable def Md_skips_0b   (r0 : Mem → Option (Int × Mem))  (σ : Mem) : Option (Int × Mem) := if wr (σ 0 32) < wr (σ 0 4) then (if 0 ≤ wr (σ 0 32) ∧ wr (σ 0 32) < (72 : Int) then (if wr (σ 3 (wr (σ 0 32)).toNat) = 32 then (letM (upM σ 0 32 ((σ 0 32) + 1)) fun s1 => r0 s1) else (some (0, σ))) else none) else (some (0, σ))
noncomputable def Md_skips_0   (n : Nat) : Mem → Option (Int × Mem) := fixN (fun  _ => none) (Md_skips_0b  ) n
noncomputable def Md_skips  (σ : Mem) : Option (Int × Mem) := Md_skips_0 100000 σ
set_option maxRecDepth 100000 in
set_option maxHeartbeats 4000000 in
theorem k_Md_skips_0 {X : Cx} {w : Wd} {x : Int × Mem} (hS : Std X (rmN 0 0) w cX12_skips RX12 none) (hN : cxn X = 1) (hW : shp w = ShB)   : ∀ (n : Nat)  (σ : Mem), Sm X (rmN 0 0) w 0 x 0 [some (rf w 0)] [] σ (Md_skips_0   n  σ) := by
  refine fix_ok (P := fun (r0 : Mem → Option (Int × Mem)) => ∀  (σ : Mem), Sm X (rmN 0 0) w 0 x 0 [some (rf w 0)] [] σ (r0  σ)) (fun  _ => a_none) (fun r0 hr0 => ?_)
  intro  σ
  unfold Md_skips_0b
  refine a_aload_n hS dX12_skips_0 rfl ?_
  refine a_getI hS dX12_skips_1 flX12_237 (sB0 hW) rfl ?_
  refine a_aload_n hS dX12_skips_4 rfl ?_
  refine a_getI hS dX12_skips_5 flX12_191 (sB0 hW) rfl ?_
  refine a_icmpge hS rfl rfl (tgt := 38) dX12_skips_8 (by decide) ?_ ?_
  · exact a_vret hS rfl rfl dX12_skips_38
  · refine a_aload_n hS dX12_skips_11 rfl ?_
    refine a_getR hS (j := 3) dX12_skips_12 flX12_17 (sB0 hW) rfl ?_
    refine a_aload_n hS dX12_skips_15 rfl ?_
    refine a_getI hS dX12_skips_16 flX12_237 (sB0 hW) rfl ?_
    refine a_iald hS dX12_skips_19 (sB3 hW) ?_
    refine a_bipush hS dX12_skips_20 rfl ?_
    refine a_icmpne hS rfl (wl 32 rfl) (tgt := 38) dX12_skips_22 (by decide) ?_ ?_
    · exact a_vret hS rfl rfl dX12_skips_38
    · refine a_aload_n hS dX12_skips_25 rfl ?_
      refine a_dup hS rfl dX12_skips_26 ?_
      refine a_getI hS dX12_skips_27 flX12_237 (sB0 hW) rfl ?_
      refine a_iconst hS dX12_skips_30 ?_
      refine a_iadd hS dX12_skips_31 ?_
      refine a_putI hS dX12_skips_32 plX12_237 (sB0 hW) rfl ?_
      refine a_letM (fun s1 => ?_)
      refine a_goto hS (tgt := 0) dX12_skips_35 (by decide) ?_
      exact hr0  s1
set_option maxRecDepth 100000 in
set_option maxHeartbeats 4000000 in
theorem c_Md_skips {l : Launch} {w : Wd} (hW : shp w = ShB)  (σ : Mem)  : Ctr l w yX12_skips cX12_skips 1 none (rmN 0 0) 0 [rf w 0] σ (Md_skips  σ) := by
  refine met_of (own := RX12) (by decide) rfl rfl rfl (Nat.le_of_ble_eq_true rfl) (fun X x hXl hN hS => ⟨[some (rf w 0)], ⟨0, rfl⟩, ?_⟩)
  subst hXl
  unfold Md_skips
  exact k_Md_skips_0 hS hN hW   100000  σ
noncomputable def Md_readsOne_67b   (r67 : Int → Int → Mem → Option (Int × Mem)) (x1 : Int) (x2 : Int) (σ : Mem) : Option (Int × Mem) := if wr x2 = 0 then (if 0 ≤ wr x1 ∧ wr x1 < (2 : Int) then (letM (upM σ 18 (wr x1).toNat (σ 0 32)) fun s5 => some ((-9), s5)) else none) else (if wr (σ 0 32) < wr (σ 0 4) then (if 0 ≤ wr (σ 0 32) ∧ wr (σ 0 32) < (72 : Int) then ((Md_isWord (σ 3 (wr (σ 0 32)).toNat) σ).bind fun q7 => if wr q7.1 = 0 then (if 0 ≤ wr x1 ∧ wr x1 < (2 : Int) then (letM (upM q7.2 18 (wr x1).toNat (q7.2 0 32)) fun s8 => some ((-9), s8)) else none) else (if 0 ≤ wr x1 ∧ wr x1 < (2 : Int) then (if wr ((q7.2 0 32) - (q7.2 17 (wr x1).toNat)) = 8 then (some ((q7.2 0 32), q7.2)) else (letM (upM q7.2 0 32 ((q7.2 0 32) + 1)) fun s9 => r67 x1 x2 s9)) else none)) else none) else (if 0 ≤ wr x1 ∧ wr x1 < (2 : Int) then (letM (upM σ 18 (wr x1).toNat (σ 0 32)) fun s6 => some ((-9), s6)) else none))
noncomputable def Md_readsOne_67   (n : Nat) : Int → Int → Mem → Option (Int × Mem) := fixN (fun _ _ _ => none) (Md_readsOne_67b  ) n
noncomputable def Md_readsOne (a0 : Int) (σ : Mem) : Option (Int × Mem) := (Md_skips  σ).bind fun q1 => if wr (q1.2 0 32) = wr (q1.2 0 4) then (some ((q1.2 0 32), q1.2)) else (if 0 ≤ wr (q1.2 0 32) ∧ wr (q1.2 0 32) < (72 : Int) then (if wr (q1.2 3 (wr (q1.2 0 32)).toNat) = 34 then (some ((q1.2 0 32), q1.2)) else (if 0 ≤ wr a0 ∧ wr a0 < (2 : Int) then (letM (upM q1.2 17 (wr a0).toNat (q1.2 0 32)) fun s2 => if 0 ≤ wr (s2 0 32) ∧ wr (s2 0 32) < (72 : Int) then ((Md_isWord (s2 3 (wr (s2 0 32)).toNat) s2).bind fun q3 => letM (upM q3.2 0 32 ((q3.2 0 32) + 1)) fun s4 => Md_readsOne_67 100000 a0 q3.1 s4) else none) else none)) else none)
set_option maxRecDepth 100000 in
set_option maxHeartbeats 4000000 in
theorem k_Md_readsOne_67 {X : Cx} {w : Wd} {x : Int × Mem} (hS : Std X (rmN 2 42) w cX12_readsOne RX12 (some .int)) (hN : cxn X = 3) (hW : shp w = ShB)   : ∀ (n : Nat) (x1 : Int) (x2 : Int) (σ : Mem), Sm X (rmN 2 42) w 1 x 67 [some (rf w 0), some (iv x1), some (iv x2)] [] σ (Md_readsOne_67   n x1 x2 σ) := by
  refine fix_ok (P := fun (r67 : Int → Int → Mem → Option (Int × Mem)) => ∀ (x1 : Int) (x2 : Int) (σ : Mem), Sm X (rmN 2 42) w 1 x 67 [some (rf w 0), some (iv x1), some (iv x2)] [] σ (r67 x1 x2 σ)) (fun _ _ _ => a_none) (fun r67 hr67 => ?_)
  intro x1 x2 σ
  unfold Md_readsOne_67b
  refine a_iload_n hS dX12_readsOne_67 rfl ?_
  refine a_ifeq hS rfl  (tgt := 131) dX12_readsOne_68 (by decide) ?_ ?_
  · refine a_aload_n hS dX12_readsOne_131 rfl ?_
    refine a_getR hS (j := 18) dX12_readsOne_132 flX12_62 (sB0 hW) rfl ?_
    refine a_iload_n hS dX12_readsOne_135 rfl ?_
    refine a_aload_n hS dX12_readsOne_136 rfl ?_
    refine a_getI hS dX12_readsOne_137 flX12_237 (sB0 hW) rfl ?_
    refine a_iast hS (sB18 hW) dX12_readsOne_140 ?_
    refine a_letM (fun s5 => ?_)
    refine a_bipush hS dX12_readsOne_141 rfl ?_
    exact a_iret hS rfl rfl dX12_readsOne_143
  · refine a_aload_n hS dX12_readsOne_71 rfl ?_
    refine a_getI hS dX12_readsOne_72 flX12_237 (sB0 hW) rfl ?_
    refine a_aload_n hS dX12_readsOne_75 rfl ?_
    refine a_getI hS dX12_readsOne_76 flX12_191 (sB0 hW) rfl ?_
    refine a_icmpge hS rfl rfl (tgt := 131) dX12_readsOne_79 (by decide) ?_ ?_
    · refine a_aload_n hS dX12_readsOne_131 rfl ?_
      refine a_getR hS (j := 18) dX12_readsOne_132 flX12_62 (sB0 hW) rfl ?_
      refine a_iload_n hS dX12_readsOne_135 rfl ?_
      refine a_aload_n hS dX12_readsOne_136 rfl ?_
      refine a_getI hS dX12_readsOne_137 flX12_237 (sB0 hW) rfl ?_
      refine a_iast hS (sB18 hW) dX12_readsOne_140 ?_
      refine a_letM (fun s6 => ?_)
      refine a_bipush hS dX12_readsOne_141 rfl ?_
      exact a_iret hS rfl rfl dX12_readsOne_143
    · refine a_aload_n hS dX12_readsOne_82 rfl ?_
      refine a_getR hS (j := 3) dX12_readsOne_83 flX12_17 (sB0 hW) rfl ?_
      refine a_aload_n hS dX12_readsOne_86 rfl ?_
      refine a_getI hS dX12_readsOne_87 flX12_237 (sB0 hW) rfl ?_
      refine a_iald hS dX12_readsOne_90 (sB3 hW) ?_
      refine a_callSi hS (rst := []) (c_Md_isWord hW (σ 3 (wr (σ 0 32)).toNat) σ ) msX12_isWord mlX12_94 rfl (Nat.le_of_ble_eq_true rfl) (Nat.le_of_ble_eq_true rfl) (Nat.le_of_ble_eq_true rfl) rfl dX12_readsOne_91 (fun q7 => ?_)
      refine a_ifeq hS rfl  (tgt := 131) dX12_readsOne_94 (by decide) ?_ ?_
      · refine a_aload_n hS dX12_readsOne_131 rfl ?_
        refine a_getR hS (j := 18) dX12_readsOne_132 flX12_62 (sB0 hW) rfl ?_
        refine a_iload_n hS dX12_readsOne_135 rfl ?_
        refine a_aload_n hS dX12_readsOne_136 rfl ?_
        refine a_getI hS dX12_readsOne_137 flX12_237 (sB0 hW) rfl ?_
        refine a_iast hS (sB18 hW) dX12_readsOne_140 ?_
        refine a_letM (fun s8 => ?_)
        refine a_bipush hS dX12_readsOne_141 rfl ?_
        exact a_iret hS rfl rfl dX12_readsOne_143
      · refine a_aload_n hS dX12_readsOne_97 rfl ?_
        refine a_getI hS dX12_readsOne_98 flX12_237 (sB0 hW) rfl ?_
        refine a_aload_n hS dX12_readsOne_101 rfl ?_
        refine a_getR hS (j := 17) dX12_readsOne_102 flX12_59 (sB0 hW) rfl ?_
        refine a_iload_n hS dX12_readsOne_105 rfl ?_
        refine a_iald hS dX12_readsOne_106 (sB17 hW) ?_
        refine a_isub hS dX12_readsOne_107 ?_
        refine a_bipush hS dX12_readsOne_108 rfl ?_
        refine a_icmpne hS rfl (wl 8 rfl) (tgt := 118) dX12_readsOne_110 (by decide) ?_ ?_
        · refine a_aload_n hS dX12_readsOne_118 rfl ?_
          refine a_dup hS rfl dX12_readsOne_119 ?_
          refine a_getI hS dX12_readsOne_120 flX12_237 (sB0 hW) rfl ?_
          refine a_iconst hS dX12_readsOne_123 ?_
          refine a_iadd hS dX12_readsOne_124 ?_
          refine a_putI hS dX12_readsOne_125 plX12_237 (sB0 hW) rfl ?_
          refine a_letM (fun s9 => ?_)
          refine a_goto hS (tgt := 67) dX12_readsOne_128 (by decide) ?_
          exact hr67 x1 x2 s9
        · refine a_aload_n hS dX12_readsOne_113 rfl ?_
          refine a_getI hS dX12_readsOne_114 flX12_237 (sB0 hW) rfl ?_
          exact a_iret hS rfl rfl dX12_readsOne_117
set_option maxRecDepth 100000 in
set_option maxHeartbeats 4000000 in
theorem c_Md_readsOne {l : Launch} {w : Wd} (hW : shp w = ShB) (a0 : Int) (σ : Mem)  : Ctr l w yX12_readsOne cX12_readsOne 3 (some .int) (rmN 2 42) 1 [rf w 0, iv a0] σ (Md_readsOne a0 σ) := by
  refine met_of (own := RX12) (by decide) rfl rfl rfl (Nat.le_of_ble_eq_true rfl) (fun X x hXl hN hS => ⟨[some (rf w 0), some (iv a0), none], ⟨1, rfl⟩, ?_⟩)
  subst hXl
  unfold Md_readsOne
  refine a_aload_n hS dX12_readsOne_0 rfl ?_
  refine a_callVv hS (rst := []) (c_Md_skips hW  σ ) miX12_skips mlX12_240 (sB0 hW) rfl rfl (Nat.le_of_ble_eq_true rfl) (Nat.le_of_ble_eq_true rfl) (Nat.le_of_ble_eq_true rfl) rfl dX12_readsOne_1 (fun q1 => ?_)
  refine a_aload_n hS dX12_readsOne_4 rfl ?_
  refine a_getI hS dX12_readsOne_5 flX12_237 (sB0 hW) rfl ?_
  refine a_aload_n hS dX12_readsOne_8 rfl ?_
  refine a_getI hS dX12_readsOne_9 flX12_191 (sB0 hW) rfl ?_
  refine a_icmpeq hS rfl rfl (tgt := 29) dX12_readsOne_12 (by decide) ?_ ?_
  · refine a_aload_n hS dX12_readsOne_29 rfl ?_
    refine a_getI hS dX12_readsOne_30 flX12_237 (sB0 hW) rfl ?_
    exact a_iret hS rfl rfl dX12_readsOne_33
  · refine a_aload_n hS dX12_readsOne_15 rfl ?_
    refine a_getR hS (j := 3) dX12_readsOne_16 flX12_17 (sB0 hW) rfl ?_
    refine a_aload_n hS dX12_readsOne_19 rfl ?_
    refine a_getI hS dX12_readsOne_20 flX12_237 (sB0 hW) rfl ?_
    refine a_iald hS dX12_readsOne_23 (sB3 hW) ?_
    refine a_bipush hS dX12_readsOne_24 rfl ?_
    refine a_icmpne hS rfl (wl 34 rfl) (tgt := 34) dX12_readsOne_26 (by decide) ?_ ?_
    · refine a_aload_n hS dX12_readsOne_34 rfl ?_
      refine a_getR hS (j := 17) dX12_readsOne_35 flX12_59 (sB0 hW) rfl ?_
      refine a_iload_n hS dX12_readsOne_38 rfl ?_
      refine a_aload_n hS dX12_readsOne_39 rfl ?_
      refine a_getI hS dX12_readsOne_40 flX12_237 (sB0 hW) rfl ?_
      refine a_iast hS (sB17 hW) dX12_readsOne_43 ?_
      refine a_letM (fun s2 => ?_)
      refine a_aload_n hS dX12_readsOne_44 rfl ?_
      refine a_getR hS (j := 3) dX12_readsOne_45 flX12_17 (sB0 hW) rfl ?_
      refine a_aload_n hS dX12_readsOne_48 rfl ?_
      refine a_getI hS dX12_readsOne_49 flX12_237 (sB0 hW) rfl ?_
      refine a_iald hS dX12_readsOne_52 (sB3 hW) ?_
      refine a_callSi hS (rst := []) (c_Md_isWord hW (s2 3 (wr (s2 0 32)).toNat) s2 ) msX12_isWord mlX12_94 rfl (Nat.le_of_ble_eq_true rfl) (Nat.le_of_ble_eq_true rfl) (Nat.le_of_ble_eq_true rfl) rfl dX12_readsOne_53 (fun q3 => ?_)
      refine a_istore_n hS (L' := [some (rf w 0), some (iv a0), some (iv q3.1)]) dX12_readsOne_56 hN (Nat.le_of_ble_eq_true rfl) rfl rfl ?_
      refine a_aload_n hS dX12_readsOne_57 rfl ?_
      refine a_dup hS rfl dX12_readsOne_58 ?_
      refine a_getI hS dX12_readsOne_59 flX12_237 (sB0 hW) rfl ?_
      refine a_iconst hS dX12_readsOne_62 ?_
      refine a_iadd hS dX12_readsOne_63 ?_
      refine a_putI hS dX12_readsOne_64 plX12_237 (sB0 hW) rfl ?_
      refine a_letM (fun s4 => ?_)
      exact k_Md_readsOne_67 hS hN hW   100000 a0 q3.1 s4
    · refine a_aload_n hS dX12_readsOne_29 rfl ?_
      refine a_getI hS dX12_readsOne_30 flX12_237 (sB0 hW) rfl ?_
      exact a_iret hS rfl rfl dX12_readsOne_33
