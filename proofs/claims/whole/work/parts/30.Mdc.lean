noncomputable def Md_readsTexts_7b   (r7 : Int → Int → Mem → Option (Int × Mem)) (x1 : Int) (x2 : Int) (σ : Mem) : Option (Int × Mem) := if wr x2 < wr x1 then ((Md_readsOne x2 σ).bind fun q3 => if wr q3.1 = (-9) then (r7 x1 (x2 + 1) q3.2) else (some (q3.1, q3.2))) else ((Md_skips  σ).bind fun q2 => if wr (q2.2 0 32) < wr (q2.2 0 4) then (some ((q2.2 0 32), q2.2)) else (some ((-9), q2.2)))
noncomputable def Md_readsTexts_7   (n : Nat) : Int → Int → Mem → Option (Int × Mem) := fixN (fun _ _ _ => none) (Md_readsTexts_7b  ) n
noncomputable def Md_readsTexts (a0 : Int) (σ : Mem) : Option (Int × Mem) := letM (upM σ 0 32 0) fun s1 => Md_readsTexts_7 100000 a0 0 s1
set_option maxRecDepth 100000 in
set_option maxHeartbeats 4000000 in
theorem k_Md_readsTexts_7 {X : Cx} {w : Wd} {x : Int × Mem} (hS : Std X (rmN 3 64) w cX12_readsTexts RX12 (some .int)) (hN : cxn X = 4) (hW : shp w = ShB)   : ∀ (n : Nat) (x1 : Int) (x2 : Int) (σ : Mem), Sm X (rmN 3 64) w 1 x 7 [some (rf w 0), some (iv x1), some (iv x2), none] [] σ (Md_readsTexts_7   n x1 x2 σ) := by
  refine fix_ok (P := fun (r7 : Int → Int → Mem → Option (Int × Mem)) => ∀ (x1 : Int) (x2 : Int) (σ : Mem), Sm X (rmN 3 64) w 1 x 7 [some (rf w 0), some (iv x1), some (iv x2), none] [] σ (r7 x1 x2 σ)) (fun _ _ _ => a_none) (fun r7 hr7 => ?_)
  intro x1 x2 σ
  unfold Md_readsTexts_7b
  refine a_iload_n hS dX12_readsTexts_7 rfl ?_
  refine a_iload_n hS dX12_readsTexts_8 rfl ?_
  refine a_icmpge hS rfl rfl (tgt := 32) dX12_readsTexts_9 (by decide) ?_ ?_
  · refine a_aload_n hS dX12_readsTexts_32 rfl ?_
    refine a_callVv hS (rst := []) (c_Md_skips hW  σ ) miX12_skips mlX12_240 (sB0 hW) rfl rfl (Nat.le_of_ble_eq_true rfl) (Nat.le_of_ble_eq_true rfl) (Nat.le_of_ble_eq_true rfl) rfl dX12_readsTexts_33 (fun q2 => ?_)
    refine a_aload_n hS dX12_readsTexts_36 rfl ?_
    refine a_getI hS dX12_readsTexts_37 flX12_237 (sB0 hW) rfl ?_
    refine a_aload_n hS dX12_readsTexts_40 rfl ?_
    refine a_getI hS dX12_readsTexts_41 flX12_191 (sB0 hW) rfl ?_
    refine a_icmpge hS rfl rfl (tgt := 54) dX12_readsTexts_44 (by decide) ?_ ?_
    · refine a_bipush hS dX12_readsTexts_54 rfl ?_
      exact a_iret hS rfl rfl dX12_readsTexts_56
    · refine a_aload_n hS dX12_readsTexts_47 rfl ?_
      refine a_getI hS dX12_readsTexts_48 flX12_237 (sB0 hW) rfl ?_
      refine a_goto hS (tgt := 56) dX12_readsTexts_51 (by decide) ?_
      exact a_iret hS rfl rfl dX12_readsTexts_56
  · refine a_aload_n hS dX12_readsTexts_12 rfl ?_
    refine a_iload_n hS dX12_readsTexts_13 rfl ?_
    refine a_callVi hS (rst := []) (c_Md_readsOne hW x2 σ ) miX12_readsOne mlX12_243 (sB0 hW) rfl rfl (Nat.le_of_ble_eq_true rfl) (Nat.le_of_ble_eq_true rfl) (Nat.le_of_ble_eq_true rfl) rfl dX12_readsTexts_14 (fun q3 => ?_)
    refine a_istore_n hS (L' := [some (rf w 0), some (iv x1), some (iv x2), some (iv q3.1)]) dX12_readsTexts_17 hN (Nat.le_of_ble_eq_true rfl) rfl rfl ?_
    refine a_iload_n hS dX12_readsTexts_18 rfl ?_
    refine a_bipush hS dX12_readsTexts_19 rfl ?_
    refine a_icmpeq hS rfl (wl (-9) rfl) (tgt := 26) dX12_readsTexts_21 (by decide) ?_ ?_
    · refine a_iinc hS (L' := [some (rf w 0), some (iv x1), some (iv (x2 + 1)), some (iv q3.1)]) dX12_readsTexts_26 rfl hN (Nat.le_of_ble_eq_true rfl) rfl rfl ?_
      refine a_goto hS (tgt := 7) dX12_readsTexts_29 (by decide) ?_
      exact a_live (M := [true, true, true, false]) (hr7 x1 (x2 + 1) q3.2) rfl
    · refine a_iload_n hS dX12_readsTexts_24 rfl ?_
      exact a_iret hS rfl rfl dX12_readsTexts_25
set_option maxRecDepth 100000 in
set_option maxHeartbeats 4000000 in
theorem c_Md_readsTexts {l : Launch} {w : Wd} (hW : shp w = ShB) (a0 : Int) (σ : Mem)  : Ctr l w yX12_readsTexts cX12_readsTexts 4 (some .int) (rmN 3 64) 1 [rf w 0, iv a0] σ (Md_readsTexts a0 σ) := by
  refine met_of (own := RX12) (by decide) rfl rfl rfl (Nat.le_of_ble_eq_true rfl) (fun X x hXl hN hS => ⟨[some (rf w 0), some (iv a0), none, none], ⟨2, rfl⟩, ?_⟩)
  subst hXl
  unfold Md_readsTexts
  refine a_aload_n hS dX12_readsTexts_0 rfl ?_
  refine a_iconst hS dX12_readsTexts_1 ?_
  refine a_putI hS dX12_readsTexts_2 plX12_237 (sB0 hW) rfl ?_
  refine a_letM (fun s1 => ?_)
  refine a_iconst hS dX12_readsTexts_5 ?_
  refine a_istore_n hS (L' := [some (rf w 0), some (iv a0), some (iv 0), none]) dX12_readsTexts_6 hN (Nat.le_of_ble_eq_true rfl) rfl rfl ?_
  exact k_Md_readsTexts_7 hS hN hW   100000 a0 0 s1
noncomputable def Md_writesText_21b   (r21 : Int → Int → Int → Mem → Option (Int × Mem)) (x1 : Int) (x2 : Int) (x3 : Int) (σ : Mem) : Option (Int × Mem) := if 0 ≤ wr x1 ∧ wr x1 < (10780 : Int) then (if wr x3 < wr (σ 1 (wr x1).toNat) then (if 0 ≤ wr x2 ∧ wr x2 < (2 : Int) then (if 0 ≤ wr ((σ 17 (wr x2).toNat) + x3) ∧ wr ((σ 17 (wr x2).toNat) + x3) < (72 : Int) then (if 0 ≤ wr ((x1 + 1) + x3) ∧ wr ((x1 + 1) + x3) < (10780 : Int) then (letM (upM σ 1 (wr ((x1 + 1) + x3)).toNat (σ 3 (wr ((σ 17 (wr x2).toNat) + x3)).toNat)) fun s2 => r21 x1 x2 (x3 + 1) s2) else none) else none) else none) else (some (0, σ))) else none
noncomputable def Md_writesText_21   (n : Nat) : Int → Int → Int → Mem → Option (Int × Mem) := fixN (fun _ _ _ _ => none) (Md_writesText_21b  ) n
noncomputable def Md_writesText (a0 : Int) (a1 : Int) (σ : Mem) : Option (Int × Mem) := if 0 ≤ wr a1 ∧ wr a1 < (2 : Int) then (if 0 ≤ wr a1 ∧ wr a1 < (2 : Int) then (if 0 ≤ wr a0 ∧ wr a0 < (10780 : Int) then (letM (upM σ 1 (wr a0).toNat ((σ 18 (wr a1).toNat) - (σ 17 (wr a1).toNat))) fun s1 => Md_writesText_21 100000 a0 a1 0 s1) else none) else none) else none
set_option maxRecDepth 100000 in
set_option maxHeartbeats 4000000 in
theorem k_Md_writesText_21 {X : Cx} {w : Wd} {x : Int × Mem} (hS : Std X (rmN 0 0) w cX12_writesText RX12 none) (hN : cxn X = 4) (hW : shp w = ShB)   : ∀ (n : Nat) (x1 : Int) (x2 : Int) (x3 : Int) (σ : Mem), Sm X (rmN 0 0) w 0 x 21 [some (rf w 0), some (iv x1), some (iv x2), some (iv x3)] [] σ (Md_writesText_21   n x1 x2 x3 σ) := by
  refine fix_ok (P := fun (r21 : Int → Int → Int → Mem → Option (Int × Mem)) => ∀ (x1 : Int) (x2 : Int) (x3 : Int) (σ : Mem), Sm X (rmN 0 0) w 0 x 21 [some (rf w 0), some (iv x1), some (iv x2), some (iv x3)] [] σ (r21 x1 x2 x3 σ)) (fun _ _ _ _ => a_none) (fun r21 hr21 => ?_)
  intro x1 x2 x3 σ
  unfold Md_writesText_21b
  refine a_iload_n hS dX12_writesText_21 rfl ?_
  refine a_aload_n hS dX12_writesText_22 rfl ?_
  refine a_getR hS (j := 1) dX12_writesText_23 flX12_7 (sB0 hW) rfl ?_
  refine a_iload_n hS dX12_writesText_26 rfl ?_
  refine a_iald hS dX12_writesText_27 (sB1 hW) ?_
  refine a_icmpge hS rfl rfl (tgt := 60) dX12_writesText_28 (by decide) ?_ ?_
  · exact a_vret hS rfl rfl dX12_writesText_60
  · refine a_aload_n hS dX12_writesText_31 rfl ?_
    refine a_getR hS (j := 1) dX12_writesText_32 flX12_7 (sB0 hW) rfl ?_
    refine a_iload_n hS dX12_writesText_35 rfl ?_
    refine a_iconst hS dX12_writesText_36 ?_
    refine a_iadd hS dX12_writesText_37 ?_
    refine a_iload_n hS dX12_writesText_38 rfl ?_
    refine a_iadd hS dX12_writesText_39 ?_
    refine a_aload_n hS dX12_writesText_40 rfl ?_
    refine a_getR hS (j := 3) dX12_writesText_41 flX12_17 (sB0 hW) rfl ?_
    refine a_aload_n hS dX12_writesText_44 rfl ?_
    refine a_getR hS (j := 17) dX12_writesText_45 flX12_59 (sB0 hW) rfl ?_
    refine a_iload_n hS dX12_writesText_48 rfl ?_
    refine a_iald hS dX12_writesText_49 (sB17 hW) ?_
    refine a_iload_n hS dX12_writesText_50 rfl ?_
    refine a_iadd hS dX12_writesText_51 ?_
    refine a_iald hS dX12_writesText_52 (sB3 hW) ?_
    refine a_iast hS (sB1 hW) dX12_writesText_53 ?_
    refine a_letM (fun s2 => ?_)
    refine a_iinc hS (L' := [some (rf w 0), some (iv x1), some (iv x2), some (iv (x3 + 1))]) dX12_writesText_54 rfl hN (Nat.le_of_ble_eq_true rfl) rfl rfl ?_
    refine a_goto hS (tgt := 21) dX12_writesText_57 (by decide) ?_
    exact hr21 x1 x2 (x3 + 1) s2
set_option maxRecDepth 100000 in
set_option maxHeartbeats 4000000 in
theorem c_Md_writesText {l : Launch} {w : Wd} (hW : shp w = ShB) (a0 : Int) (a1 : Int) (σ : Mem)  : Ctr l w yX12_writesText cX12_writesText 4 none (rmN 0 0) 0 [rf w 0, iv a0, iv a1] σ (Md_writesText a0 a1 σ) := by
  refine met_of (own := RX12) (by decide) rfl rfl rfl (Nat.le_of_ble_eq_true rfl) (fun X x hXl hN hS => ⟨[some (rf w 0), some (iv a0), some (iv a1), none], ⟨1, rfl⟩, ?_⟩)
  subst hXl
  unfold Md_writesText
  refine a_aload_n hS dX12_writesText_0 rfl ?_
  refine a_getR hS (j := 1) dX12_writesText_1 flX12_7 (sB0 hW) rfl ?_
  refine a_iload_n hS dX12_writesText_4 rfl ?_
  refine a_aload_n hS dX12_writesText_5 rfl ?_
  refine a_getR hS (j := 18) dX12_writesText_6 flX12_62 (sB0 hW) rfl ?_
  refine a_iload_n hS dX12_writesText_9 rfl ?_
  refine a_iald hS dX12_writesText_10 (sB18 hW) ?_
  refine a_aload_n hS dX12_writesText_11 rfl ?_
  refine a_getR hS (j := 17) dX12_writesText_12 flX12_59 (sB0 hW) rfl ?_
  refine a_iload_n hS dX12_writesText_15 rfl ?_
  refine a_iald hS dX12_writesText_16 (sB17 hW) ?_
  refine a_isub hS dX12_writesText_17 ?_
  refine a_iast hS (sB1 hW) dX12_writesText_18 ?_
  refine a_letM (fun s1 => ?_)
  refine a_iconst hS dX12_writesText_19 ?_
  refine a_istore_n hS (L' := [some (rf w 0), some (iv a0), some (iv a1), some (iv 0)]) dX12_writesText_20 hN (Nat.le_of_ble_eq_true rfl) rfl rfl ?_
  exact k_Md_writesText_21 hS hN hW   100000 a0 a1 0 s1
noncomputable def Md_makes_60   (x2 : Int) (x3 : Int) (x4 : Int) (x5 : Int) (x6 : Int) (x8 : Int) (y0 : Int) (σ : Mem) : Option (Int × Mem) := if 0 ≤ wr (x8 + 0) ∧ wr (x8 + 0) < (10780 : Int) then (letM (upM σ 1 (wr (x8 + 0)).toNat x2) fun s3 => if 0 ≤ wr (x8 + 1) ∧ wr (x8 + 1) < (10780 : Int) then (letM (upM s3 1 (wr (x8 + 1)).toNat x3) fun s4 => if 0 ≤ wr (x8 + 2) ∧ wr (x8 + 2) < (10780 : Int) then (letM (upM s4 1 (wr (x8 + 2)).toNat x4) fun s5 => if 0 ≤ wr (x8 + 3) ∧ wr (x8 + 3) < (10780 : Int) then (letM (upM s5 1 (wr (x8 + 3)).toNat x5) fun s6 => if 0 ≤ wr (x8 + 4) ∧ wr (x8 + 4) < (10780 : Int) then (letM (upM s6 1 (wr (x8 + 4)).toNat x6) fun s7 => (Md_writesText (x8 + 5) 0 s7).bind fun q8 => if wr x2 = 1 then ((Md_writesText (x8 + 14) 1 q8.2).bind fun q9 => some (y0, q9.2)) else (some (y0, q8.2))) else none) else none) else none) else none) else none
noncomputable def Md_makes_11   (x1 : Int) (x2 : Int) (x3 : Int) (x4 : Int) (x5 : Int) (x6 : Int) (y0 : Int) (σ : Mem) : Option (Int × Mem) := (Md_readsTexts y0 σ).bind fun q1 => if wr q1.1 = (-9) then ((Md_begins  q1.2).bind fun q2 => if 0 ≤ wr ((701 + (23 * x1)) + 0) ∧ wr ((701 + (23 * x1)) + 0) < (10780 : Int) then (if 0 < wr (q2.2 1 (wr ((701 + (23 * x1)) + 0)).toNat) then (Md_makes_60 x2 x3 x4 x5 x6 (701 + (23 * x1)) 1 q2.2) else (Md_makes_60 x2 x3 x4 x5 x6 (701 + (23 * x1)) 0 q2.2)) else none) else (some (((-10) - q1.1), q1.2))
noncomputable def Md_makes (a0 : Int) (a1 : Int) (a2 : Int) (a3 : Int) (a4 : Int) (a5 : Int) (σ : Mem) : Option (Int × Mem) := if wr a1 = 1 then (Md_makes_11 a0 a1 a2 a3 a4 a5 2 σ) else (Md_makes_11 a0 a1 a2 a3 a4 a5 1 σ)
set_option maxRecDepth 100000 in
set_option maxHeartbeats 4000000 in
theorem k_Md_makes_60 {X : Cx} {w : Wd} {x : Int × Mem} (hS : Std X (rmN 4 87) w cX12_makes RX12 (some .int)) (hN : cxn X = 10) (hW : shp w = ShB)   : ∀ (x2 : Int) (x3 : Int) (x4 : Int) (x5 : Int) (x6 : Int) (x8 : Int) (y0 : Int) (σ : Mem), Sm X (rmN 4 87) w 1 x 60 [some (rf w 0), none, some (iv x2), some (iv x3), some (iv x4), some (iv x5), some (iv x6), none, some (iv x8), none] [iv y0] σ (Md_makes_60   x2 x3 x4 x5 x6 x8 y0 σ) := by
  intro x2 x3 x4 x5 x6 x8 y0 σ
  unfold Md_makes_60
  refine a_istore hS (L' := [some (rf w 0), none, some (iv x2), some (iv x3), some (iv x4), some (iv x5), some (iv x6), none, some (iv x8), some (iv y0)]) dX12_makes_60 hN (Nat.le_of_ble_eq_true rfl) rfl rfl ?_
  refine a_aload_n hS dX12_makes_62 rfl ?_
  refine a_getR hS (j := 1) dX12_makes_63 flX12_7 (sB0 hW) rfl ?_
  refine a_iload hS dX12_makes_66 rfl ?_
  refine a_iconst hS dX12_makes_68 ?_
  refine a_iadd hS dX12_makes_69 ?_
  refine a_iload_n hS dX12_makes_70 rfl ?_
  refine a_iast hS (sB1 hW) dX12_makes_71 ?_
  refine a_letM (fun s3 => ?_)
  refine a_aload_n hS dX12_makes_72 rfl ?_
  refine a_getR hS (j := 1) dX12_makes_73 flX12_7 (sB0 hW) rfl ?_
  refine a_iload hS dX12_makes_76 rfl ?_
  refine a_iconst hS dX12_makes_78 ?_
  refine a_iadd hS dX12_makes_79 ?_
  refine a_iload_n hS dX12_makes_80 rfl ?_
  refine a_iast hS (sB1 hW) dX12_makes_81 ?_
  refine a_letM (fun s4 => ?_)
  refine a_aload_n hS dX12_makes_82 rfl ?_
  refine a_getR hS (j := 1) dX12_makes_83 flX12_7 (sB0 hW) rfl ?_
  refine a_iload hS dX12_makes_86 rfl ?_
  refine a_iconst hS dX12_makes_88 ?_
  refine a_iadd hS dX12_makes_89 ?_
  refine a_iload hS dX12_makes_90 rfl ?_
  refine a_iast hS (sB1 hW) dX12_makes_92 ?_
  refine a_letM (fun s5 => ?_)
  refine a_aload_n hS dX12_makes_93 rfl ?_
  refine a_getR hS (j := 1) dX12_makes_94 flX12_7 (sB0 hW) rfl ?_
  refine a_iload hS dX12_makes_97 rfl ?_
  refine a_iconst hS dX12_makes_99 ?_
  refine a_iadd hS dX12_makes_100 ?_
  refine a_iload hS dX12_makes_101 rfl ?_
  refine a_iast hS (sB1 hW) dX12_makes_103 ?_
  refine a_letM (fun s6 => ?_)
  refine a_aload_n hS dX12_makes_104 rfl ?_
  refine a_getR hS (j := 1) dX12_makes_105 flX12_7 (sB0 hW) rfl ?_
  refine a_iload hS dX12_makes_108 rfl ?_
  refine a_iconst hS dX12_makes_110 ?_
  refine a_iadd hS dX12_makes_111 ?_
  refine a_iload hS dX12_makes_112 rfl ?_
  refine a_iast hS (sB1 hW) dX12_makes_114 ?_
  refine a_letM (fun s7 => ?_)
  refine a_aload_n hS dX12_makes_115 rfl ?_
  refine a_iload hS dX12_makes_116 rfl ?_
  refine a_iconst hS dX12_makes_118 ?_
  refine a_iadd hS dX12_makes_119 ?_
  refine a_iconst hS dX12_makes_120 ?_
  refine a_callVv hS (rst := []) (c_Md_writesText hW (x8 + 5) 0 s7 ) miX12_writesText mlX12_249 (sB0 hW) rfl rfl (Nat.le_of_ble_eq_true rfl) (Nat.le_of_ble_eq_true rfl) (Nat.le_of_ble_eq_true rfl) rfl dX12_makes_121 (fun q8 => ?_)
  refine a_iload_n hS dX12_makes_124 rfl ?_
  refine a_iconst hS dX12_makes_125 ?_
  refine a_icmpne hS rfl (wl 1 rfl) (tgt := 139) dX12_makes_126 (by decide) ?_ ?_
  · refine a_iload hS dX12_makes_139 rfl ?_
    exact a_iret hS rfl rfl dX12_makes_141
  · refine a_aload_n hS dX12_makes_129 rfl ?_
    refine a_iload hS dX12_makes_130 rfl ?_
    refine a_bipush hS dX12_makes_132 rfl ?_
    refine a_iadd hS dX12_makes_134 ?_
    refine a_iconst hS dX12_makes_135 ?_
    refine a_callVv hS (rst := []) (c_Md_writesText hW (x8 + 14) 1 q8.2 ) miX12_writesText mlX12_249 (sB0 hW) rfl rfl (Nat.le_of_ble_eq_true rfl) (Nat.le_of_ble_eq_true rfl) (Nat.le_of_ble_eq_true rfl) rfl dX12_makes_136 (fun q9 => ?_)
    refine a_iload hS dX12_makes_139 rfl ?_
    exact a_iret hS rfl rfl dX12_makes_141
set_option maxRecDepth 100000 in
set_option maxHeartbeats 4000000 in
theorem k_Md_makes_11 {X : Cx} {w : Wd} {x : Int × Mem} (hS : Std X (rmN 4 87) w cX12_makes RX12 (some .int)) (hN : cxn X = 10) (hW : shp w = ShB)   : ∀ (x1 : Int) (x2 : Int) (x3 : Int) (x4 : Int) (x5 : Int) (x6 : Int) (y0 : Int) (σ : Mem), Sm X (rmN 4 87) w 1 x 11 [some (rf w 0), some (iv x1), some (iv x2), some (iv x3), some (iv x4), some (iv x5), some (iv x6), none, none, none] [iv y0, rf w 0] σ (Md_makes_11   x1 x2 x3 x4 x5 x6 y0 σ) := by
  intro x1 x2 x3 x4 x5 x6 y0 σ
  unfold Md_makes_11
  refine a_callVi hS (rst := []) (c_Md_readsTexts hW y0 σ ) miX12_readsTexts mlX12_246 (sB0 hW) rfl rfl (Nat.le_of_ble_eq_true rfl) (Nat.le_of_ble_eq_true rfl) (Nat.le_of_ble_eq_true rfl) rfl dX12_makes_11 (fun q1 => ?_)
  refine a_istore hS (L' := [some (rf w 0), some (iv x1), some (iv x2), some (iv x3), some (iv x4), some (iv x5), some (iv x6), some (iv q1.1), none, none]) dX12_makes_14 hN (Nat.le_of_ble_eq_true rfl) rfl rfl ?_
  refine a_iload hS dX12_makes_16 rfl ?_
  refine a_bipush hS dX12_makes_18 rfl ?_
  refine a_icmpeq hS rfl (wl (-9) rfl) (tgt := 29) dX12_makes_20 (by decide) ?_ ?_
  · refine a_aload_n hS dX12_makes_29 rfl ?_
    refine a_callVv hS (rst := []) (c_Md_begins hW  q1.2 ) miX12_begins mlX12_207 (sB0 hW) rfl rfl (Nat.le_of_ble_eq_true rfl) (Nat.le_of_ble_eq_true rfl) (Nat.le_of_ble_eq_true rfl) rfl dX12_makes_30 (fun q2 => ?_)
    refine a_sipush hS dX12_makes_33 rfl ?_
    refine a_bipush hS dX12_makes_36 rfl ?_
    refine a_iload_n hS dX12_makes_38 rfl ?_
    refine a_imul hS dX12_makes_39 ?_
    refine a_iadd hS dX12_makes_40 ?_
    refine a_istore hS (L' := [some (rf w 0), some (iv x1), some (iv x2), some (iv x3), some (iv x4), some (iv x5), some (iv x6), some (iv q1.1), some (iv (701 + (23 * x1))), none]) dX12_makes_41 hN (Nat.le_of_ble_eq_true rfl) rfl rfl ?_
    refine a_aload_n hS dX12_makes_43 rfl ?_
    refine a_getR hS (j := 1) dX12_makes_44 flX12_7 (sB0 hW) rfl ?_
    refine a_iload hS dX12_makes_47 rfl ?_
    refine a_iconst hS dX12_makes_49 ?_
    refine a_iadd hS dX12_makes_50 ?_
    refine a_iald hS dX12_makes_51 (sB1 hW) ?_
    refine a_ifle hS rfl  (tgt := 59) dX12_makes_52 (by decide) ?_ ?_
    · refine a_iconst hS dX12_makes_59 ?_
      exact a_live (M := [true, false, true, true, true, true, true, false, true, false]) (k_Md_makes_60 hS hN hW   x2 x3 x4 x5 x6 (701 + (23 * x1)) 0 q2.2) rfl
    · refine a_iconst hS dX12_makes_55 ?_
      refine a_goto hS (tgt := 60) dX12_makes_56 (by decide) ?_
      exact a_live (M := [true, false, true, true, true, true, true, false, true, false]) (k_Md_makes_60 hS hN hW   x2 x3 x4 x5 x6 (701 + (23 * x1)) 1 q2.2) rfl
  · refine a_bipush hS dX12_makes_23 rfl ?_
    refine a_iload hS dX12_makes_25 rfl ?_
    refine a_isub hS dX12_makes_27 ?_
    exact a_iret hS rfl rfl dX12_makes_28
set_option maxRecDepth 100000 in
set_option maxHeartbeats 4000000 in
theorem c_Md_makes {l : Launch} {w : Wd} (hW : shp w = ShB) (a0 : Int) (a1 : Int) (a2 : Int) (a3 : Int) (a4 : Int) (a5 : Int) (σ : Mem)  : Ctr l w yX12_makes cX12_makes 10 (some .int) (rmN 4 87) 1 [rf w 0, iv a0, iv a1, iv a2, iv a3, iv a4, iv a5] σ (Md_makes a0 a1 a2 a3 a4 a5 σ) := by
  refine met_of (own := RX12) (by decide) rfl rfl rfl (Nat.le_of_ble_eq_true rfl) (fun X x hXl hN hS => ⟨[some (rf w 0), some (iv a0), some (iv a1), some (iv a2), some (iv a3), some (iv a4), some (iv a5), none, none, none], ⟨3, rfl⟩, ?_⟩)
  subst hXl
  unfold Md_makes
  refine a_aload_n hS dX12_makes_0 rfl ?_
  refine a_iload_n hS dX12_makes_1 rfl ?_
  refine a_iconst hS dX12_makes_2 ?_
  refine a_icmpne hS rfl (wl 1 rfl) (tgt := 10) dX12_makes_3 (by decide) ?_ ?_
  · refine a_iconst hS dX12_makes_10 ?_
    exact k_Md_makes_11 hS hN hW   a0 a1 a2 a3 a4 a5 1 σ
  · refine a_iconst hS dX12_makes_6 ?_
    refine a_goto hS (tgt := 11) dX12_makes_7 (by decide) ?_
    exact k_Md_makes_11 hS hN hW   a0 a1 a2 a3 a4 a5 2 σ
noncomputable def Md_isRule (a0 : Int) (a1 : Int) (σ : Mem) : Option (Int × Mem) := (Md_in a0 0 11 σ).bind fun q1 => if wr q1.1 = 0 then (some (0, q1.2)) else ((Md_in a1 0 9 q1.2).bind fun q2 => if wr q2.1 = 0 then (some (0, q2.2)) else (some (1, q2.2)))
set_option maxRecDepth 100000 in
set_option maxHeartbeats 4000000 in
theorem c_Md_isRule {l : Launch} {w : Wd} (hW : shp w = ShB) (a0 : Int) (a1 : Int) (σ : Mem)  : Ctr l w yX12_isRule cX12_isRule 2 (some .boolean) (rmN 1 22) 1 [iv a0, iv a1] σ (Md_isRule a0 a1 σ) := by
  refine met_of (own := RX12) (by decide) rfl rfl rfl (Nat.le_of_ble_eq_true rfl) (fun X x hXl hN hS => ⟨[some (iv a0), some (iv a1)], ⟨0, rfl⟩, ?_⟩)
  subst hXl
  unfold Md_isRule
  refine a_iload_n hS dX12_isRule_0 rfl ?_
  refine a_iconst hS dX12_isRule_1 ?_
  refine a_bipush hS dX12_isRule_2 rfl ?_
  refine a_callSi hS (rst := []) (c_Md_in hW a0 0 11 σ ) msX12_in mlX12_79 rfl (Nat.le_of_ble_eq_true rfl) (Nat.le_of_ble_eq_true rfl) (Nat.le_of_ble_eq_true rfl) rfl dX12_isRule_4 (fun q1 => ?_)
  refine a_ifeq hS rfl  (tgt := 24) dX12_isRule_7 (by decide) ?_ ?_
  · refine a_iconst hS dX12_isRule_24 ?_
    exact a_zret hS (by decide) rfl rfl dX12_isRule_25
  · refine a_iload_n hS dX12_isRule_10 rfl ?_
    refine a_iconst hS dX12_isRule_11 ?_
    refine a_bipush hS dX12_isRule_12 rfl ?_
    refine a_callSi hS (rst := []) (c_Md_in hW a1 0 9 q1.2 ) msX12_in mlX12_79 rfl (Nat.le_of_ble_eq_true rfl) (Nat.le_of_ble_eq_true rfl) (Nat.le_of_ble_eq_true rfl) rfl dX12_isRule_14 (fun q2 => ?_)
    refine a_ifeq hS rfl  (tgt := 24) dX12_isRule_17 (by decide) ?_ ?_
    · refine a_iconst hS dX12_isRule_24 ?_
      exact a_zret hS (by decide) rfl rfl dX12_isRule_25
    · refine a_iconst hS dX12_isRule_20 ?_
      refine a_goto hS (tgt := 25) dX12_isRule_21 (by decide) ?_
      exact a_zret hS (by decide) rfl rfl dX12_isRule_25
noncomputable def Md_pair_42   (x1 : Int) (x2 : Int) (x3 : Int) (x4 : Int) (x5 : Int) (y0 : Int) (σ : Mem) : Option (Int × Mem) := if wr y0 = 0 then (some ((-1), σ)) else ((Md_makes x1 1 x2 x3 x4 x5 σ).bind fun q5 => some (q5.1, q5.2))
noncomputable def Md_pair (a0 : Int) (a1 : Int) (a2 : Int) (a3 : Int) (a4 : Int) (σ : Mem) : Option (Int × Mem) := (Md_isRule a0 a1 σ).bind fun q1 => if wr q1.1 = 0 then (Md_pair_42 a0 a1 a2 a3 a4 0 q1.2) else ((Md_in a2 0 4 q1.2).bind fun q2 => if wr q2.1 = 0 then (Md_pair_42 a0 a1 a2 a3 a4 0 q2.2) else ((Md_in a3 0 1 q2.2).bind fun q3 => if wr q3.1 = 0 then (Md_pair_42 a0 a1 a2 a3 a4 0 q3.2) else ((Md_in a4 0 2 q3.2).bind fun q4 => if wr q4.1 = 0 then (Md_pair_42 a0 a1 a2 a3 a4 0 q4.2) else (Md_pair_42 a0 a1 a2 a3 a4 1 q4.2))))
set_option maxRecDepth 100000 in
set_option maxHeartbeats 4000000 in
theorem k_Md_pair_42 {X : Cx} {w : Wd} {x : Int × Mem} (hS : Std X (rmN 5 116) w cX12_pair RX12 (some .int)) (hN : cxn X = 7) (hW : shp w = ShB)   : ∀ (x1 : Int) (x2 : Int) (x3 : Int) (x4 : Int) (x5 : Int) (y0 : Int) (σ : Mem), Sm X (rmN 5 116) w 1 x 42 [some (rf w 0), some (iv x1), some (iv x2), some (iv x3), some (iv x4), some (iv x5), none] [iv y0] σ (Md_pair_42   x1 x2 x3 x4 x5 y0 σ) := by
  intro x1 x2 x3 x4 x5 y0 σ
  unfold Md_pair_42
  refine a_istore hS (L' := [some (rf w 0), some (iv x1), some (iv x2), some (iv x3), some (iv x4), some (iv x5), some (iv y0)]) dX12_pair_42 hN (Nat.le_of_ble_eq_true rfl) rfl rfl ?_
  refine a_iload hS dX12_pair_44 rfl ?_
  refine a_ifeq hS rfl  (tgt := 64) dX12_pair_46 (by decide) ?_ ?_
  · refine a_iconst hS dX12_pair_64 ?_
    exact a_iret hS rfl rfl dX12_pair_65
  · refine a_aload_n hS dX12_pair_49 rfl ?_
    refine a_iload_n hS dX12_pair_50 rfl ?_
    refine a_iconst hS dX12_pair_51 ?_
    refine a_iload_n hS dX12_pair_52 rfl ?_
    refine a_iload_n hS dX12_pair_53 rfl ?_
    refine a_iload hS dX12_pair_54 rfl ?_
    refine a_iload hS dX12_pair_56 rfl ?_
    refine a_callVi hS (rst := []) (c_Md_makes hW x1 1 x2 x3 x4 x5 σ ) miX12_makes mlX12_255 (sB0 hW) rfl rfl (Nat.le_of_ble_eq_true rfl) (Nat.le_of_ble_eq_true rfl) (Nat.le_of_ble_eq_true rfl) rfl dX12_pair_58 (fun q5 => ?_)
    refine a_goto hS (tgt := 65) dX12_pair_61 (by decide) ?_
    exact a_iret hS rfl rfl dX12_pair_65
set_option maxRecDepth 100000 in
set_option maxHeartbeats 4000000 in
theorem c_Md_pair {l : Launch} {w : Wd} (hW : shp w = ShB) (a0 : Int) (a1 : Int) (a2 : Int) (a3 : Int) (a4 : Int) (σ : Mem)  : Ctr l w yX12_pair cX12_pair 7 (some .int) (rmN 5 116) 1 [rf w 0, iv a0, iv a1, iv a2, iv a3, iv a4] σ (Md_pair a0 a1 a2 a3 a4 σ) := by
  refine met_of (own := RX12) (by decide) rfl rfl rfl (Nat.le_of_ble_eq_true rfl) (fun X x hXl hN hS => ⟨[some (rf w 0), some (iv a0), some (iv a1), some (iv a2), some (iv a3), some (iv a4), none], ⟨1, rfl⟩, ?_⟩)
  subst hXl
  unfold Md_pair
  refine a_iload_n hS dX12_pair_0 rfl ?_
  refine a_iload_n hS dX12_pair_1 rfl ?_
  refine a_callSi hS (rst := []) (c_Md_isRule hW a0 a1 σ ) msX12_isRule mlX12_252 rfl (Nat.le_of_ble_eq_true rfl) (Nat.le_of_ble_eq_true rfl) (Nat.le_of_ble_eq_true rfl) rfl dX12_pair_2 (fun q1 => ?_)
  refine a_ifeq hS rfl  (tgt := 41) dX12_pair_5 (by decide) ?_ ?_
  · refine a_iconst hS dX12_pair_41 ?_
    exact k_Md_pair_42 hS hN hW   a0 a1 a2 a3 a4 0 q1.2
  · refine a_iload_n hS dX12_pair_8 rfl ?_
    refine a_iconst hS dX12_pair_9 ?_
    refine a_iconst hS dX12_pair_10 ?_
    refine a_callSi hS (rst := []) (c_Md_in hW a2 0 4 q1.2 ) msX12_in mlX12_79 rfl (Nat.le_of_ble_eq_true rfl) (Nat.le_of_ble_eq_true rfl) (Nat.le_of_ble_eq_true rfl) rfl dX12_pair_11 (fun q2 => ?_)
    refine a_ifeq hS rfl  (tgt := 41) dX12_pair_14 (by decide) ?_ ?_
    · refine a_iconst hS dX12_pair_41 ?_
      exact k_Md_pair_42 hS hN hW   a0 a1 a2 a3 a4 0 q2.2
    · refine a_iload hS dX12_pair_17 rfl ?_
      refine a_iconst hS dX12_pair_19 ?_
      refine a_iconst hS dX12_pair_20 ?_
      refine a_callSi hS (rst := []) (c_Md_in hW a3 0 1 q2.2 ) msX12_in mlX12_79 rfl (Nat.le_of_ble_eq_true rfl) (Nat.le_of_ble_eq_true rfl) (Nat.le_of_ble_eq_true rfl) rfl dX12_pair_21 (fun q3 => ?_)
      refine a_ifeq hS rfl  (tgt := 41) dX12_pair_24 (by decide) ?_ ?_
      · refine a_iconst hS dX12_pair_41 ?_
        exact k_Md_pair_42 hS hN hW   a0 a1 a2 a3 a4 0 q3.2
      · refine a_iload hS dX12_pair_27 rfl ?_
        refine a_iconst hS dX12_pair_29 ?_
        refine a_iconst hS dX12_pair_30 ?_
        refine a_callSi hS (rst := []) (c_Md_in hW a4 0 2 q3.2 ) msX12_in mlX12_79 rfl (Nat.le_of_ble_eq_true rfl) (Nat.le_of_ble_eq_true rfl) (Nat.le_of_ble_eq_true rfl) rfl dX12_pair_31 (fun q4 => ?_)
        refine a_ifeq hS rfl  (tgt := 41) dX12_pair_34 (by decide) ?_ ?_
        · refine a_iconst hS dX12_pair_41 ?_
          exact k_Md_pair_42 hS hN hW   a0 a1 a2 a3 a4 0 q4.2
        · refine a_iconst hS dX12_pair_37 ?_
          refine a_goto hS (tgt := 42) dX12_pair_38 (by decide) ?_
          exact k_Md_pair_42 hS hN hW   a0 a1 a2 a3 a4 1 q4.2
noncomputable def Md_starter (a0 : Int) (a1 : Int) (a2 : Int) (σ : Mem) : Option (Int × Mem) := (Md_isRule a0 a1 σ).bind fun q1 => if wr q1.1 = 0 then (some ((-1), q1.2)) else ((Md_in a2 (-4) 4 q1.2).bind fun q2 => if wr q2.1 = 0 then (some ((-1), q2.2)) else ((Md_makes a0 2 a1 a2 0 0 q2.2).bind fun q3 => some (q3.1, q3.2)))
set_option maxRecDepth 100000 in
set_option maxHeartbeats 4000000 in
theorem c_Md_starter {l : Launch} {w : Wd} (hW : shp w = ShB) (a0 : Int) (a1 : Int) (a2 : Int) (σ : Mem)  : Ctr l w yX12_starter cX12_starter 4 (some .int) (rmN 5 116) 1 [rf w 0, iv a0, iv a1, iv a2] σ (Md_starter a0 a1 a2 σ) := by
  refine met_of (own := RX12) (by decide) rfl rfl rfl (Nat.le_of_ble_eq_true rfl) (fun X x hXl hN hS => ⟨[some (rf w 0), some (iv a0), some (iv a1), some (iv a2)], ⟨0, rfl⟩, ?_⟩)
  subst hXl
  unfold Md_starter
  refine a_iload_n hS dX12_starter_0 rfl ?_
  refine a_iload_n hS dX12_starter_1 rfl ?_
  refine a_callSi hS (rst := []) (c_Md_isRule hW a0 a1 σ ) msX12_isRule mlX12_252 rfl (Nat.le_of_ble_eq_true rfl) (Nat.le_of_ble_eq_true rfl) (Nat.le_of_ble_eq_true rfl) rfl dX12_starter_2 (fun q1 => ?_)
  refine a_ifeq hS rfl  (tgt := 31) dX12_starter_5 (by decide) ?_ ?_
  · refine a_iconst hS dX12_starter_31 ?_
    exact a_iret hS rfl rfl dX12_starter_32
  · refine a_iload_n hS dX12_starter_8 rfl ?_
    refine a_bipush hS dX12_starter_9 rfl ?_
    refine a_iconst hS dX12_starter_11 ?_
    refine a_callSi hS (rst := []) (c_Md_in hW a2 (-4) 4 q1.2 ) msX12_in mlX12_79 rfl (Nat.le_of_ble_eq_true rfl) (Nat.le_of_ble_eq_true rfl) (Nat.le_of_ble_eq_true rfl) rfl dX12_starter_12 (fun q2 => ?_)
    refine a_ifeq hS rfl  (tgt := 31) dX12_starter_15 (by decide) ?_ ?_
    · refine a_iconst hS dX12_starter_31 ?_
      exact a_iret hS rfl rfl dX12_starter_32
    · refine a_aload_n hS dX12_starter_18 rfl ?_
      refine a_iload_n hS dX12_starter_19 rfl ?_
      refine a_iconst hS dX12_starter_20 ?_
      refine a_iload_n hS dX12_starter_21 rfl ?_
      refine a_iload_n hS dX12_starter_22 rfl ?_
      refine a_iconst hS dX12_starter_23 ?_
      refine a_iconst hS dX12_starter_24 ?_
      refine a_callVi hS (rst := []) (c_Md_makes hW a0 2 a1 a2 0 0 q2.2 ) miX12_makes mlX12_255 (sB0 hW) rfl rfl (Nat.le_of_ble_eq_true rfl) (Nat.le_of_ble_eq_true rfl) (Nat.le_of_ble_eq_true rfl) rfl dX12_starter_25 (fun q3 => ?_)
      refine a_goto hS (tgt := 32) dX12_starter_28 (by decide) ?_
      exact a_iret hS rfl rfl dX12_starter_32
noncomputable def Md_joiner (a0 : Int) (a1 : Int) (a2 : Int) (σ : Mem) : Option (Int × Mem) := (Md_isRule a0 a1 σ).bind fun q1 => if wr q1.1 = 0 then (some ((-1), q1.2)) else ((Md_in a2 (-4) 4 q1.2).bind fun q2 => if wr q2.1 = 0 then (some ((-1), q2.2)) else ((Md_makes a0 3 a1 a2 0 0 q2.2).bind fun q3 => some (q3.1, q3.2)))
set_option maxRecDepth 100000 in
set_option maxHeartbeats 4000000 in
theorem c_Md_joiner {l : Launch} {w : Wd} (hW : shp w = ShB) (a0 : Int) (a1 : Int) (a2 : Int) (σ : Mem)  : Ctr l w yX12_joiner cX12_joiner 4 (some .int) (rmN 5 116) 1 [rf w 0, iv a0, iv a1, iv a2] σ (Md_joiner a0 a1 a2 σ) := by
  refine met_of (own := RX12) (by decide) rfl rfl rfl (Nat.le_of_ble_eq_true rfl) (fun X x hXl hN hS => ⟨[some (rf w 0), some (iv a0), some (iv a1), some (iv a2)], ⟨0, rfl⟩, ?_⟩)
  subst hXl
  unfold Md_joiner
  refine a_iload_n hS dX12_joiner_0 rfl ?_
  refine a_iload_n hS dX12_joiner_1 rfl ?_
  refine a_callSi hS (rst := []) (c_Md_isRule hW a0 a1 σ ) msX12_isRule mlX12_252 rfl (Nat.le_of_ble_eq_true rfl) (Nat.le_of_ble_eq_true rfl) (Nat.le_of_ble_eq_true rfl) rfl dX12_joiner_2 (fun q1 => ?_)
  refine a_ifeq hS rfl  (tgt := 31) dX12_joiner_5 (by decide) ?_ ?_
  · refine a_iconst hS dX12_joiner_31 ?_
    exact a_iret hS rfl rfl dX12_joiner_32
  · refine a_iload_n hS dX12_joiner_8 rfl ?_
    refine a_bipush hS dX12_joiner_9 rfl ?_
    refine a_iconst hS dX12_joiner_11 ?_
    refine a_callSi hS (rst := []) (c_Md_in hW a2 (-4) 4 q1.2 ) msX12_in mlX12_79 rfl (Nat.le_of_ble_eq_true rfl) (Nat.le_of_ble_eq_true rfl) (Nat.le_of_ble_eq_true rfl) rfl dX12_joiner_12 (fun q2 => ?_)
    refine a_ifeq hS rfl  (tgt := 31) dX12_joiner_15 (by decide) ?_ ?_
    · refine a_iconst hS dX12_joiner_31 ?_
      exact a_iret hS rfl rfl dX12_joiner_32
    · refine a_aload_n hS dX12_joiner_18 rfl ?_
      refine a_iload_n hS dX12_joiner_19 rfl ?_
      refine a_iconst hS dX12_joiner_20 ?_
      refine a_iload_n hS dX12_joiner_21 rfl ?_
      refine a_iload_n hS dX12_joiner_22 rfl ?_
      refine a_iconst hS dX12_joiner_23 ?_
      refine a_iconst hS dX12_joiner_24 ?_
      refine a_callVi hS (rst := []) (c_Md_makes hW a0 3 a1 a2 0 0 q2.2 ) miX12_makes mlX12_255 (sB0 hW) rfl rfl (Nat.le_of_ble_eq_true rfl) (Nat.le_of_ble_eq_true rfl) (Nat.le_of_ble_eq_true rfl) rfl dX12_joiner_25 (fun q3 => ?_)
      refine a_goto hS (tgt := 32) dX12_joiner_28 (by decide) ?_
      exact a_iret hS rfl rfl dX12_joiner_32
noncomputable def Md_dropRule_45b   (r45 : Int → Int → Mem → Option (Int × Mem)) (x2 : Int) (x3 : Int) (σ : Mem) : Option (Int × Mem) := if wr x3 < 12 then ((Md_ruleAt x3 0 σ).bind fun q5 => if 0 < wr q5.1 then (r45 (x2 + 1) (x3 + 1) q5.2) else (r45 (x2 + 0) (x3 + 1) q5.2)) else (some (x2, σ))
noncomputable def Md_dropRule_45   (n : Nat) : Int → Int → Mem → Option (Int × Mem) := fixN (fun _ _ _ => none) (Md_dropRule_45b  ) n
noncomputable def Md_dropRule (a0 : Int) (σ : Mem) : Option (Int × Mem) := (Md_in a0 0 11 σ).bind fun q1 => if wr q1.1 = 0 then (some ((-1), q1.2)) else ((Md_ruleAt a0 0 q1.2).bind fun q2 => if wr q2.1 = 0 then (some ((-1), q2.2)) else ((Md_begins  q2.2).bind fun q3 => if 0 ≤ wr ((701 + (23 * a0)) + 0) ∧ wr ((701 + (23 * a0)) + 0) < (10780 : Int) then (letM (upM q3.2 1 (wr ((701 + (23 * a0)) + 0)).toNat 0) fun s4 => Md_dropRule_45 100000 0 0 s4) else none))
set_option maxRecDepth 100000 in
set_option maxHeartbeats 4000000 in
theorem k_Md_dropRule_45 {X : Cx} {w : Wd} {x : Int × Mem} (hS : Std X (rmN 2 44) w cX12_dropRule RX12 (some .int)) (hN : cxn X = 4) (hW : shp w = ShB)   : ∀ (n : Nat) (x2 : Int) (x3 : Int) (σ : Mem), Sm X (rmN 2 44) w 1 x 45 [some (rf w 0), none, some (iv x2), some (iv x3)] [] σ (Md_dropRule_45   n x2 x3 σ) := by
  refine fix_ok (P := fun (r45 : Int → Int → Mem → Option (Int × Mem)) => ∀ (x2 : Int) (x3 : Int) (σ : Mem), Sm X (rmN 2 44) w 1 x 45 [some (rf w 0), none, some (iv x2), some (iv x3)] [] σ (r45 x2 x3 σ)) (fun _ _ _ => a_none) (fun r45 hr45 => ?_)
  intro x2 x3 σ
  unfold Md_dropRule_45b
  refine a_iload_n hS dX12_dropRule_45 rfl ?_
  refine a_bipush hS dX12_dropRule_46 rfl ?_
  refine a_icmpge hS rfl (wl 12 rfl) (tgt := 74) dX12_dropRule_48 (by decide) ?_ ?_
  · refine a_iload_n hS dX12_dropRule_74 rfl ?_
    exact a_iret hS rfl rfl dX12_dropRule_75
  · refine a_iload_n hS dX12_dropRule_51 rfl ?_
    refine a_aload_n hS dX12_dropRule_52 rfl ?_
    refine a_iload_n hS dX12_dropRule_53 rfl ?_
    refine a_iconst hS dX12_dropRule_54 ?_
    refine a_callVi hS (rst := [iv x2]) (c_Md_ruleAt hW x3 0 σ ) miX12_ruleAt mlX12_120 (sB0 hW) rfl rfl (Nat.le_of_ble_eq_true rfl) (Nat.le_of_ble_eq_true rfl) (Nat.le_of_ble_eq_true rfl) rfl dX12_dropRule_55 (fun q5 => ?_)
    refine a_ifle hS rfl  (tgt := 65) dX12_dropRule_58 (by decide) ?_ ?_
    · refine a_iconst hS dX12_dropRule_65 ?_
      refine a_iadd hS dX12_dropRule_66 ?_
      refine a_istore_n hS (L' := [some (rf w 0), none, some (iv (x2 + 0)), some (iv x3)]) dX12_dropRule_67 hN (Nat.le_of_ble_eq_true rfl) rfl rfl ?_
      refine a_iinc hS (L' := [some (rf w 0), none, some (iv (x2 + 0)), some (iv (x3 + 1))]) dX12_dropRule_68 rfl hN (Nat.le_of_ble_eq_true rfl) rfl rfl ?_
      refine a_goto hS (tgt := 45) dX12_dropRule_71 (by decide) ?_
      exact hr45 (x2 + 0) (x3 + 1) q5.2
    · refine a_iconst hS dX12_dropRule_61 ?_
      refine a_goto hS (tgt := 66) dX12_dropRule_62 (by decide) ?_
      refine a_iadd hS dX12_dropRule_66 ?_
      refine a_istore_n hS (L' := [some (rf w 0), none, some (iv (x2 + 1)), some (iv x3)]) dX12_dropRule_67 hN (Nat.le_of_ble_eq_true rfl) rfl rfl ?_
      refine a_iinc hS (L' := [some (rf w 0), none, some (iv (x2 + 1)), some (iv (x3 + 1))]) dX12_dropRule_68 rfl hN (Nat.le_of_ble_eq_true rfl) rfl rfl ?_
      refine a_goto hS (tgt := 45) dX12_dropRule_71 (by decide) ?_
      exact hr45 (x2 + 1) (x3 + 1) q5.2
set_option maxRecDepth 100000 in
set_option maxHeartbeats 4000000 in
theorem c_Md_dropRule {l : Launch} {w : Wd} (hW : shp w = ShB) (a0 : Int) (σ : Mem)  : Ctr l w yX12_dropRule cX12_dropRule 4 (some .int) (rmN 2 44) 1 [rf w 0, iv a0] σ (Md_dropRule a0 σ) := by
  refine met_of (own := RX12) (by decide) rfl rfl rfl (Nat.le_of_ble_eq_true rfl) (fun X x hXl hN hS => ⟨[some (rf w 0), some (iv a0), none, none], ⟨2, rfl⟩, ?_⟩)
  subst hXl
  unfold Md_dropRule
  refine a_iload_n hS dX12_dropRule_0 rfl ?_
  refine a_iconst hS dX12_dropRule_1 ?_
  refine a_bipush hS dX12_dropRule_2 rfl ?_
  refine a_callSi hS (rst := []) (c_Md_in hW a0 0 11 σ ) msX12_in mlX12_79 rfl (Nat.le_of_ble_eq_true rfl) (Nat.le_of_ble_eq_true rfl) (Nat.le_of_ble_eq_true rfl) rfl dX12_dropRule_4 (fun q1 => ?_)
  refine a_ifeq hS rfl  (tgt := 19) dX12_dropRule_7 (by decide) ?_ ?_
  · refine a_iconst hS dX12_dropRule_19 ?_
    exact a_iret hS rfl rfl dX12_dropRule_20
  · refine a_aload_n hS dX12_dropRule_10 rfl ?_
    refine a_iload_n hS dX12_dropRule_11 rfl ?_
    refine a_iconst hS dX12_dropRule_12 ?_
    refine a_callVi hS (rst := []) (c_Md_ruleAt hW a0 0 q1.2 ) miX12_ruleAt mlX12_120 (sB0 hW) rfl rfl (Nat.le_of_ble_eq_true rfl) (Nat.le_of_ble_eq_true rfl) (Nat.le_of_ble_eq_true rfl) rfl dX12_dropRule_13 (fun q2 => ?_)
    refine a_ifne hS rfl  (tgt := 21) dX12_dropRule_16 (by decide) ?_ ?_
    · refine a_aload_n hS dX12_dropRule_21 rfl ?_
      refine a_callVv hS (rst := []) (c_Md_begins hW  q2.2 ) miX12_begins mlX12_207 (sB0 hW) rfl rfl (Nat.le_of_ble_eq_true rfl) (Nat.le_of_ble_eq_true rfl) (Nat.le_of_ble_eq_true rfl) rfl dX12_dropRule_22 (fun q3 => ?_)
      refine a_aload_n hS dX12_dropRule_25 rfl ?_
      refine a_getR hS (j := 1) dX12_dropRule_26 flX12_7 (sB0 hW) rfl ?_
      refine a_sipush hS dX12_dropRule_29 rfl ?_
      refine a_bipush hS dX12_dropRule_32 rfl ?_
      refine a_iload_n hS dX12_dropRule_34 rfl ?_
      refine a_imul hS dX12_dropRule_35 ?_
      refine a_iadd hS dX12_dropRule_36 ?_
      refine a_iconst hS dX12_dropRule_37 ?_
      refine a_iadd hS dX12_dropRule_38 ?_
      refine a_iconst hS dX12_dropRule_39 ?_
      refine a_iast hS (sB1 hW) dX12_dropRule_40 ?_
      refine a_letM (fun s4 => ?_)
      refine a_iconst hS dX12_dropRule_41 ?_
      refine a_istore_n hS (L' := [some (rf w 0), some (iv a0), some (iv 0), none]) dX12_dropRule_42 hN (Nat.le_of_ble_eq_true rfl) rfl rfl ?_
      refine a_iconst hS dX12_dropRule_43 ?_
      refine a_istore_n hS (L' := [some (rf w 0), some (iv a0), some (iv 0), some (iv 0)]) dX12_dropRule_44 hN (Nat.le_of_ble_eq_true rfl) rfl rfl ?_
      exact a_live (M := [true, false, true, true]) (k_Md_dropRule_45 hS hN hW   100000 0 0 s4) rfl
    · refine a_iconst hS dX12_dropRule_19 ?_
      exact a_iret hS rfl rfl dX12_dropRule_20
noncomputable def Md_isDecided (a0 : Int) (σ : Mem) : Option (Int × Mem) := if 0 ≤ wr 977 ∧ wr 977 < (10780 : Int) then (if 0 ≤ wr 978 ∧ wr 978 < (10780 : Int) then ((Md_uses (σ 1 (wr 977).toNat) (σ 1 (wr 978).toNat) σ).bind fun q1 => (Md_isFree a0 q1.2).bind fun q2 => if wr q2.1 = 0 then (if q2.1 = 0 ∨ q2.1 = 1 then some (q2.1, q2.2) else none) else ((Md_decides a0 q2.2).bind fun q3 => if q2.1 = 0 ∨ q2.1 = 1 then some (q2.1, q3.2) else none)) else none) else none
set_option maxRecDepth 100000 in
set_option maxHeartbeats 4000000 in
theorem c_Md_isDecided {l : Launch} {w : Wd} (hW : shp w = ShB) (a0 : Int) (σ : Mem)  : Ctr l w yX12_isDecided cX12_isDecided 3 (some .boolean) (rmN 7 161) 1 [rf w 0, iv a0] σ (Md_isDecided a0 σ) := by
  refine met_of (own := RX12) (by decide) rfl rfl rfl (Nat.le_of_ble_eq_true rfl) (fun X x hXl hN hS => ⟨[some (rf w 0), some (iv a0), none], ⟨1, rfl⟩, ?_⟩)
  subst hXl
  unfold Md_isDecided
  refine a_aload_n hS dX12_isDecided_0 rfl ?_
  refine a_aload_n hS dX12_isDecided_1 rfl ?_
  refine a_getR hS (j := 1) dX12_isDecided_2 flX12_7 (sB0 hW) rfl ?_
  refine a_sipush hS dX12_isDecided_5 rfl ?_
  refine a_iald hS dX12_isDecided_8 (sB1 hW) ?_
  refine a_aload_n hS dX12_isDecided_9 rfl ?_
  refine a_getR hS (j := 1) dX12_isDecided_10 flX12_7 (sB0 hW) rfl ?_
  refine a_sipush hS dX12_isDecided_13 rfl ?_
  refine a_iald hS dX12_isDecided_16 (sB1 hW) ?_
  refine a_callVv hS (rst := []) (c_Md_uses hW (σ 1 (wr 977).toNat) (σ 1 (wr 978).toNat) σ ) miX12_uses mlX12_222 (sB0 hW) rfl rfl (Nat.le_of_ble_eq_true rfl) (Nat.le_of_ble_eq_true rfl) (Nat.le_of_ble_eq_true rfl) rfl dX12_isDecided_17 (fun q1 => ?_)
  refine a_aload_n hS dX12_isDecided_20 rfl ?_
  refine a_iload_n hS dX12_isDecided_21 rfl ?_
  refine a_callVi hS (rst := []) (c_Md_isFree hW a0 q1.2 ) miX12_isFree mlX12_185 (sB0 hW) rfl rfl (Nat.le_of_ble_eq_true rfl) (Nat.le_of_ble_eq_true rfl) (Nat.le_of_ble_eq_true rfl) rfl dX12_isDecided_22 (fun q2 => ?_)
  refine a_istore_n hS (L' := [some (rf w 0), some (iv a0), some (iv q2.1)]) dX12_isDecided_25 hN (Nat.le_of_ble_eq_true rfl) rfl rfl ?_
  refine a_iload_n hS dX12_isDecided_26 rfl ?_
  refine a_ifeq hS rfl  (tgt := 35) dX12_isDecided_27 (by decide) ?_ ?_
  · refine a_iload_n hS dX12_isDecided_35 rfl ?_
    exact a_zretv hS rfl rfl dX12_isDecided_36
  · refine a_aload_n hS dX12_isDecided_30 rfl ?_
    refine a_iload_n hS dX12_isDecided_31 rfl ?_
    refine a_callVv hS (rst := []) (c_Md_decides hW a0 q2.2 ) miX12_decides mlX12_188 (sB0 hW) rfl rfl (Nat.le_of_ble_eq_true rfl) (Nat.le_of_ble_eq_true rfl) (Nat.le_of_ble_eq_true rfl) rfl dX12_isDecided_32 (fun q3 => ?_)
    refine a_iload_n hS dX12_isDecided_35 rfl ?_
    exact a_zretv hS rfl rfl dX12_isDecided_36
noncomputable def Md_wanted (a0 : Int) (σ : Mem) : Option (Int × Mem) := (Md_isLine a0 σ).bind fun q1 => if wr q1.1 = 0 then (some ((-1), q1.2)) else ((Md_isDecided a0 q1.2).bind fun q2 => if wr q2.1 = 0 then (some ((-9), q2.2)) else (some ((q2.2 0 24), q2.2)))
set_option maxRecDepth 100000 in
set_option maxHeartbeats 4000000 in
theorem c_Md_wanted {l : Launch} {w : Wd} (hW : shp w = ShB) (a0 : Int) (σ : Mem)  : Ctr l w yX12_wanted cX12_wanted 2 (some .int) (rmN 8 183) 1 [rf w 0, iv a0] σ (Md_wanted a0 σ) := by
  refine met_of (own := RX12) (by decide) rfl rfl rfl (Nat.le_of_ble_eq_true rfl) (fun X x hXl hN hS => ⟨[some (rf w 0), some (iv a0)], ⟨0, rfl⟩, ?_⟩)
  subst hXl
  unfold Md_wanted
  refine a_aload_n hS dX12_wanted_0 rfl ?_
  refine a_iload_n hS dX12_wanted_1 rfl ?_
  refine a_callVi hS (rst := []) (c_Md_isLine hW a0 σ ) miX12_isLine mlX12_216 (sB0 hW) rfl rfl (Nat.le_of_ble_eq_true rfl) (Nat.le_of_ble_eq_true rfl) (Nat.le_of_ble_eq_true rfl) rfl dX12_wanted_2 (fun q1 => ?_)
  refine a_ifne hS rfl  (tgt := 10) dX12_wanted_5 (by decide) ?_ ?_
  · refine a_aload_n hS dX12_wanted_10 rfl ?_
    refine a_iload_n hS dX12_wanted_11 rfl ?_
    refine a_callVi hS (rst := []) (c_Md_isDecided hW a0 q1.2 ) miX12_isDecided mlX12_259 (sB0 hW) rfl rfl (Nat.le_of_ble_eq_true rfl) (Nat.le_of_ble_eq_true rfl) (Nat.le_of_ble_eq_true rfl) rfl dX12_wanted_12 (fun q2 => ?_)
    refine a_ifeq hS rfl  (tgt := 25) dX12_wanted_15 (by decide) ?_ ?_
    · refine a_bipush hS dX12_wanted_25 rfl ?_
      exact a_iret hS rfl rfl dX12_wanted_27
    · refine a_aload_n hS dX12_wanted_18 rfl ?_
      refine a_getI hS dX12_wanted_19 flX12_170 (sB0 hW) rfl ?_
      refine a_goto hS (tgt := 27) dX12_wanted_22 (by decide) ?_
      exact a_iret hS rfl rfl dX12_wanted_27
  · refine a_iconst hS dX12_wanted_8 ?_
    exact a_iret hS rfl rfl dX12_wanted_9
noncomputable def Md_reason (a0 : Int) (σ : Mem) : Option (Int × Mem) := (Md_isLine a0 σ).bind fun q1 => if wr q1.1 = 0 then (some ((-1), q1.2)) else ((Md_isDecided a0 q1.2).bind fun q2 => if wr q2.1 = 0 then (some ((-9), q2.2)) else (some ((q2.2 0 25), q2.2)))
set_option maxRecDepth 100000 in
set_option maxHeartbeats 4000000 in
theorem c_Md_reason {l : Launch} {w : Wd} (hW : shp w = ShB) (a0 : Int) (σ : Mem)  : Ctr l w yX12_reason cX12_reason 2 (some .int) (rmN 8 183) 1 [rf w 0, iv a0] σ (Md_reason a0 σ) := by
  refine met_of (own := RX12) (by decide) rfl rfl rfl (Nat.le_of_ble_eq_true rfl) (fun X x hXl hN hS => ⟨[some (rf w 0), some (iv a0)], ⟨0, rfl⟩, ?_⟩)
  subst hXl
  unfold Md_reason
  refine a_aload_n hS dX12_reason_0 rfl ?_
  refine a_iload_n hS dX12_reason_1 rfl ?_
  refine a_callVi hS (rst := []) (c_Md_isLine hW a0 σ ) miX12_isLine mlX12_216 (sB0 hW) rfl rfl (Nat.le_of_ble_eq_true rfl) (Nat.le_of_ble_eq_true rfl) (Nat.le_of_ble_eq_true rfl) rfl dX12_reason_2 (fun q1 => ?_)
  refine a_ifne hS rfl  (tgt := 10) dX12_reason_5 (by decide) ?_ ?_
  · refine a_aload_n hS dX12_reason_10 rfl ?_
    refine a_iload_n hS dX12_reason_11 rfl ?_
    refine a_callVi hS (rst := []) (c_Md_isDecided hW a0 q1.2 ) miX12_isDecided mlX12_259 (sB0 hW) rfl rfl (Nat.le_of_ble_eq_true rfl) (Nat.le_of_ble_eq_true rfl) (Nat.le_of_ble_eq_true rfl) rfl dX12_reason_12 (fun q2 => ?_)
    refine a_ifeq hS rfl  (tgt := 25) dX12_reason_15 (by decide) ?_ ?_
    · refine a_bipush hS dX12_reason_25 rfl ?_
      exact a_iret hS rfl rfl dX12_reason_27
    · refine a_aload_n hS dX12_reason_18 rfl ?_
      refine a_getI hS dX12_reason_19 flX12_173 (sB0 hW) rfl ?_
      refine a_goto hS (tgt := 27) dX12_reason_22 (by decide) ?_
      exact a_iret hS rfl rfl dX12_reason_27
  · refine a_iconst hS dX12_reason_8 ?_
    exact a_iret hS rfl rfl dX12_reason_9
noncomputable def Md_decidingRule (a0 : Int) (σ : Mem) : Option (Int × Mem) := (Md_isLine a0 σ).bind fun q1 => if wr q1.1 = 0 then (some ((-1), q1.2)) else ((Md_isDecided a0 q1.2).bind fun q2 => if wr q2.1 = 0 then (some ((-9), q2.2)) else (some ((q2.2 0 26), q2.2)))
set_option maxRecDepth 100000 in
set_option maxHeartbeats 4000000 in
theorem c_Md_decidingRule {l : Launch} {w : Wd} (hW : shp w = ShB) (a0 : Int) (σ : Mem)  : Ctr l w yX12_decidingRule cX12_decidingRule 2 (some .int) (rmN 8 183) 1 [rf w 0, iv a0] σ (Md_decidingRule a0 σ) := by
  refine met_of (own := RX12) (by decide) rfl rfl rfl (Nat.le_of_ble_eq_true rfl) (fun X x hXl hN hS => ⟨[some (rf w 0), some (iv a0)], ⟨0, rfl⟩, ?_⟩)
  subst hXl
  unfold Md_decidingRule
  refine a_aload_n hS dX12_decidingRule_0 rfl ?_
  refine a_iload_n hS dX12_decidingRule_1 rfl ?_
  refine a_callVi hS (rst := []) (c_Md_isLine hW a0 σ ) miX12_isLine mlX12_216 (sB0 hW) rfl rfl (Nat.le_of_ble_eq_true rfl) (Nat.le_of_ble_eq_true rfl) (Nat.le_of_ble_eq_true rfl) rfl dX12_decidingRule_2 (fun q1 => ?_)
  refine a_ifne hS rfl  (tgt := 10) dX12_decidingRule_5 (by decide) ?_ ?_
  · refine a_aload_n hS dX12_decidingRule_10 rfl ?_
    refine a_iload_n hS dX12_decidingRule_11 rfl ?_
    refine a_callVi hS (rst := []) (c_Md_isDecided hW a0 q1.2 ) miX12_isDecided mlX12_259 (sB0 hW) rfl rfl (Nat.le_of_ble_eq_true rfl) (Nat.le_of_ble_eq_true rfl) (Nat.le_of_ble_eq_true rfl) rfl dX12_decidingRule_12 (fun q2 => ?_)
    refine a_ifeq hS rfl  (tgt := 25) dX12_decidingRule_15 (by decide) ?_ ?_
    · refine a_bipush hS dX12_decidingRule_25 rfl ?_
      exact a_iret hS rfl rfl dX12_decidingRule_27
    · refine a_aload_n hS dX12_decidingRule_18 rfl ?_
      refine a_getI hS dX12_decidingRule_19 flX12_176 (sB0 hW) rfl ?_
      refine a_goto hS (tgt := 27) dX12_decidingRule_22 (by decide) ?_
      exact a_iret hS rfl rfl dX12_decidingRule_27
  · refine a_iconst hS dX12_decidingRule_8 ?_
    exact a_iret hS rfl rfl dX12_decidingRule_9
noncomputable def Md_wouldChange  (σ : Mem) : Option (Int × Mem) := if 0 ≤ wr 977 ∧ wr 977 < (10780 : Int) then (if 0 ≤ wr 978 ∧ wr 978 < (10780 : Int) then ((Md_uses (σ 1 (wr 977).toNat) (σ 1 (wr 978).toNat) σ).bind fun q1 => if 0 ≤ wr 0 ∧ wr 0 < (10780 : Int) then ((Md_settles 0 (q1.2 1 (wr 0).toNat) q1.2).bind fun q2 => some (q2.1, q2.2)) else none) else none) else none
set_option maxRecDepth 100000 in
set_option maxHeartbeats 4000000 in
theorem c_Md_wouldChange {l : Launch} {w : Wd} (hW : shp w = ShB)  (σ : Mem)  : Ctr l w yX12_wouldChange cX12_wouldChange 1 (some .int) (rmN 7 161) 1 [rf w 0] σ (Md_wouldChange  σ) := by
  refine met_of (own := RX12) (by decide) rfl rfl rfl (Nat.le_of_ble_eq_true rfl) (fun X x hXl hN hS => ⟨[some (rf w 0)], ⟨0, rfl⟩, ?_⟩)
  subst hXl
  unfold Md_wouldChange
  refine a_aload_n hS dX12_wouldChange_0 rfl ?_
  refine a_aload_n hS dX12_wouldChange_1 rfl ?_
  refine a_getR hS (j := 1) dX12_wouldChange_2 flX12_7 (sB0 hW) rfl ?_
  refine a_sipush hS dX12_wouldChange_5 rfl ?_
  refine a_iald hS dX12_wouldChange_8 (sB1 hW) ?_
  refine a_aload_n hS dX12_wouldChange_9 rfl ?_
  refine a_getR hS (j := 1) dX12_wouldChange_10 flX12_7 (sB0 hW) rfl ?_
  refine a_sipush hS dX12_wouldChange_13 rfl ?_
  refine a_iald hS dX12_wouldChange_16 (sB1 hW) ?_
  refine a_callVv hS (rst := []) (c_Md_uses hW (σ 1 (wr 977).toNat) (σ 1 (wr 978).toNat) σ ) miX12_uses mlX12_222 (sB0 hW) rfl rfl (Nat.le_of_ble_eq_true rfl) (Nat.le_of_ble_eq_true rfl) (Nat.le_of_ble_eq_true rfl) rfl dX12_wouldChange_17 (fun q1 => ?_)
  refine a_aload_n hS dX12_wouldChange_20 rfl ?_
  refine a_iconst hS dX12_wouldChange_21 ?_
  refine a_aload_n hS dX12_wouldChange_22 rfl ?_
  refine a_getR hS (j := 1) dX12_wouldChange_23 flX12_7 (sB0 hW) rfl ?_
  refine a_iconst hS dX12_wouldChange_26 ?_
  refine a_iald hS dX12_wouldChange_27 (sB1 hW) ?_
  refine a_callVi hS (rst := []) (c_Md_settles hW 0 (q1.2 1 (wr 0).toNat) q1.2 ) miX12_settles mlX12_228 (sB0 hW) rfl rfl (Nat.le_of_ble_eq_true rfl) (Nat.le_of_ble_eq_true rfl) (Nat.le_of_ble_eq_true rfl) rfl dX12_wouldChange_28 (fun q2 => ?_)
  exact a_iret hS rfl rfl dX12_wouldChange_31
noncomputable def Md_changesBy (a0 : Int) (a1 : Int) (σ : Mem) : Option (Int × Mem) := (Md_uses a0 a1 σ).bind fun q1 => if 0 ≤ wr 0 ∧ wr 0 < (10780 : Int) then ((Md_settles 0 (q1.2 1 (wr 0).toNat) q1.2).bind fun q2 => (Md_bits q2.1 q2.2).bind fun q3 => some (q3.1, q3.2)) else none
set_option maxRecDepth 100000 in
set_option maxHeartbeats 4000000 in
theorem c_Md_changesBy {l : Launch} {w : Wd} (hW : shp w = ShB) (a0 : Int) (a1 : Int) (σ : Mem)  : Ctr l w yX12_changesBy cX12_changesBy 3 (some .int) (rmN 7 161) 1 [rf w 0, iv a0, iv a1] σ (Md_changesBy a0 a1 σ) := by
  refine met_of (own := RX12) (by decide) rfl rfl rfl (Nat.le_of_ble_eq_true rfl) (fun X x hXl hN hS => ⟨[some (rf w 0), some (iv a0), some (iv a1)], ⟨0, rfl⟩, ?_⟩)
  subst hXl
  unfold Md_changesBy
  refine a_aload_n hS dX12_changesBy_0 rfl ?_
  refine a_iload_n hS dX12_changesBy_1 rfl ?_
  refine a_iload_n hS dX12_changesBy_2 rfl ?_
  refine a_callVv hS (rst := []) (c_Md_uses hW a0 a1 σ ) miX12_uses mlX12_222 (sB0 hW) rfl rfl (Nat.le_of_ble_eq_true rfl) (Nat.le_of_ble_eq_true rfl) (Nat.le_of_ble_eq_true rfl) rfl dX12_changesBy_3 (fun q1 => ?_)
  refine a_aload_n hS dX12_changesBy_6 rfl ?_
  refine a_iconst hS dX12_changesBy_7 ?_
  refine a_aload_n hS dX12_changesBy_8 rfl ?_
  refine a_getR hS (j := 1) dX12_changesBy_9 flX12_7 (sB0 hW) rfl ?_
  refine a_iconst hS dX12_changesBy_12 ?_
  refine a_iald hS dX12_changesBy_13 (sB1 hW) ?_
  refine a_callVi hS (rst := []) (c_Md_settles hW 0 (q1.2 1 (wr 0).toNat) q1.2 ) miX12_settles mlX12_228 (sB0 hW) rfl rfl (Nat.le_of_ble_eq_true rfl) (Nat.le_of_ble_eq_true rfl) (Nat.le_of_ble_eq_true rfl) rfl dX12_changesBy_14 (fun q2 => ?_)
  refine a_callSi hS (rst := []) (c_Md_bits hW q2.1 q2.2 ) msX12_bits mlX12_231 rfl (Nat.le_of_ble_eq_true rfl) (Nat.le_of_ble_eq_true rfl) (Nat.le_of_ble_eq_true rfl) rfl dX12_changesBy_17 (fun q3 => ?_)
  exact a_iret hS rfl rfl dX12_changesBy_20
noncomputable def Md_changesWith (a0 : Int) (a1 : Int) (σ : Mem) : Option (Int × Mem) := (Md_in a0 1 8 σ).bind fun q1 => if wr q1.1 = 0 then (some ((-1), q1.2)) else ((Md_in a1 0 20 q1.2).bind fun q2 => if wr q2.1 = 0 then (some ((-1), q2.2)) else ((Md_changesBy a0 a1 q2.2).bind fun q3 => some (q3.1, q3.2)))
set_option maxRecDepth 100000 in
set_option maxHeartbeats 4000000 in
theorem c_Md_changesWith {l : Launch} {w : Wd} (hW : shp w = ShB) (a0 : Int) (a1 : Int) (σ : Mem)  : Ctr l w yX12_changesWith cX12_changesWith 3 (some .int) (rmN 8 183) 1 [rf w 0, iv a0, iv a1] σ (Md_changesWith a0 a1 σ) := by
  refine met_of (own := RX12) (by decide) rfl rfl rfl (Nat.le_of_ble_eq_true rfl) (fun X x hXl hN hS => ⟨[some (rf w 0), some (iv a0), some (iv a1)], ⟨0, rfl⟩, ?_⟩)
  subst hXl
  unfold Md_changesWith
  refine a_iload_n hS dX12_changesWith_0 rfl ?_
  refine a_iconst hS dX12_changesWith_1 ?_
  refine a_bipush hS dX12_changesWith_2 rfl ?_
  refine a_callSi hS (rst := []) (c_Md_in hW a0 1 8 σ ) msX12_in mlX12_79 rfl (Nat.le_of_ble_eq_true rfl) (Nat.le_of_ble_eq_true rfl) (Nat.le_of_ble_eq_true rfl) rfl dX12_changesWith_4 (fun q1 => ?_)
  refine a_ifeq hS rfl  (tgt := 29) dX12_changesWith_7 (by decide) ?_ ?_
  · refine a_iconst hS dX12_changesWith_29 ?_
    exact a_iret hS rfl rfl dX12_changesWith_30
  · refine a_iload_n hS dX12_changesWith_10 rfl ?_
    refine a_iconst hS dX12_changesWith_11 ?_
    refine a_bipush hS dX12_changesWith_12 rfl ?_
    refine a_callSi hS (rst := []) (c_Md_in hW a1 0 20 q1.2 ) msX12_in mlX12_79 rfl (Nat.le_of_ble_eq_true rfl) (Nat.le_of_ble_eq_true rfl) (Nat.le_of_ble_eq_true rfl) rfl dX12_changesWith_14 (fun q2 => ?_)
    refine a_ifeq hS rfl  (tgt := 29) dX12_changesWith_17 (by decide) ?_ ?_
    · refine a_iconst hS dX12_changesWith_29 ?_
      exact a_iret hS rfl rfl dX12_changesWith_30
    · refine a_aload_n hS dX12_changesWith_20 rfl ?_
      refine a_iload_n hS dX12_changesWith_21 rfl ?_
      refine a_iload_n hS dX12_changesWith_22 rfl ?_
      refine a_callVi hS (rst := []) (c_Md_changesBy hW a0 a1 q2.2 ) miX12_changesBy mlX12_262 (sB0 hW) rfl rfl (Nat.le_of_ble_eq_true rfl) (Nat.le_of_ble_eq_true rfl) (Nat.le_of_ble_eq_true rfl) rfl dX12_changesWith_23 (fun q3 => ?_)
      refine a_goto hS (tgt := 30) dX12_changesWith_26 (by decide) ?_
      exact a_iret hS rfl rfl dX12_changesWith_30
noncomputable def Md_searches_16b (r8 : Int → Mem → Option (Int × Mem))  (r16 : Int → Int → Mem → Option (Int × Mem)) (x1 : Int) (x2 : Int) (σ : Mem) : Option (Int × Mem) := if 20 < wr x2 then (r8 (x1 + 1) σ) else ((Md_changesBy x1 x2 σ).bind fun q2 => if wr q2.1 < wr (q2.2 0 33) then (letM (upM q2.2 0 33 q2.1) fun s3 => letM (upM s3 0 34 x1) fun s4 => letM (upM s4 0 35 x2) fun s5 => r16 x1 (x2 + 1) s5) else (r16 x1 (x2 + 1) q2.2))
noncomputable def Md_searches_16 (r8 : Int → Mem → Option (Int × Mem))  (n : Nat) : Int → Int → Mem → Option (Int × Mem) := fixN (fun _ _ _ => none) (Md_searches_16b r8 ) n
noncomputable def Md_searches_8b   (r8 : Int → Mem → Option (Int × Mem)) (x1 : Int) (σ : Mem) : Option (Int × Mem) := if 8 < wr x1 then (some (0, σ)) else (Md_searches_16 r8 100000 x1 0 σ)
noncomputable def Md_searches_8   (n : Nat) : Int → Mem → Option (Int × Mem) := fixN (fun _ _ => none) (Md_searches_8b  ) n
noncomputable def Md_searches  (σ : Mem) : Option (Int × Mem) := letM (upM σ 0 33 21) fun s1 => Md_searches_8 100000 1 s1
set_option maxRecDepth 100000 in
set_option maxHeartbeats 4000000 in
theorem k_Md_searches_16 {X : Cx} {w : Wd} {x : Int × Mem} (hS : Std X (rmN 8 183) w cX12_searches RX12 none) (hN : cxn X = 4) (hW : shp w = ShB)  (r8 : Int → Mem → Option (Int × Mem)) (hr8 : ∀ (x1 : Int) (σ : Mem), Sm X (rmN 8 183) w 0 x 8 [some (rf w 0), some (iv x1), none, none] [] σ (r8 x1 σ)) : ∀ (n : Nat) (x1 : Int) (x2 : Int) (σ : Mem), Sm X (rmN 8 183) w 0 x 16 [some (rf w 0), some (iv x1), some (iv x2), none] [] σ (Md_searches_16 r8  n x1 x2 σ) := by
  refine fix_ok (P := fun (r16 : Int → Int → Mem → Option (Int × Mem)) => ∀ (x1 : Int) (x2 : Int) (σ : Mem), Sm X (rmN 8 183) w 0 x 16 [some (rf w 0), some (iv x1), some (iv x2), none] [] σ (r16 x1 x2 σ)) (fun _ _ _ => a_none) (fun r16 hr16 => ?_)
  intro x1 x2 σ
  unfold Md_searches_16b
  refine a_iload_n hS dX12_searches_16 rfl ?_
  refine a_bipush hS dX12_searches_17 rfl ?_
  refine a_icmpgt hS rfl (wl 20 rfl) (tgt := 58) dX12_searches_19 (by decide) ?_ ?_
  · refine a_iinc hS (L' := [some (rf w 0), some (iv (x1 + 1)), some (iv x2), none]) dX12_searches_58 rfl hN (Nat.le_of_ble_eq_true rfl) rfl rfl ?_
    refine a_goto hS (tgt := 8) dX12_searches_61 (by decide) ?_
    exact a_live (M := [true, true, false, false]) (hr8 (x1 + 1) σ) rfl
  · refine a_aload_n hS dX12_searches_22 rfl ?_
    refine a_iload_n hS dX12_searches_23 rfl ?_
    refine a_iload_n hS dX12_searches_24 rfl ?_
    refine a_callVi hS (rst := []) (c_Md_changesBy hW x1 x2 σ ) miX12_changesBy mlX12_262 (sB0 hW) rfl rfl (Nat.le_of_ble_eq_true rfl) (Nat.le_of_ble_eq_true rfl) (Nat.le_of_ble_eq_true rfl) rfl dX12_searches_25 (fun q2 => ?_)
    refine a_istore_n hS (L' := [some (rf w 0), some (iv x1), some (iv x2), some (iv q2.1)]) dX12_searches_28 hN (Nat.le_of_ble_eq_true rfl) rfl rfl ?_
    refine a_iload_n hS dX12_searches_29 rfl ?_
    refine a_aload_n hS dX12_searches_30 rfl ?_
    refine a_getI hS dX12_searches_31 flX12_265 (sB0 hW) rfl ?_
    refine a_icmpge hS rfl rfl (tgt := 52) dX12_searches_34 (by decide) ?_ ?_
    · refine a_iinc hS (L' := [some (rf w 0), some (iv x1), some (iv (x2 + 1)), some (iv q2.1)]) dX12_searches_52 rfl hN (Nat.le_of_ble_eq_true rfl) rfl rfl ?_
      refine a_goto hS (tgt := 16) dX12_searches_55 (by decide) ?_
      exact a_live (M := [true, true, true, false]) (hr16 x1 (x2 + 1) q2.2) rfl
    · refine a_aload_n hS dX12_searches_37 rfl ?_
      refine a_iload_n hS dX12_searches_38 rfl ?_
      refine a_putI hS dX12_searches_39 plX12_265 (sB0 hW) rfl ?_
      refine a_letM (fun s3 => ?_)
      refine a_aload_n hS dX12_searches_42 rfl ?_
      refine a_iload_n hS dX12_searches_43 rfl ?_
      refine a_putI hS dX12_searches_44 plX12_268 (sB0 hW) rfl ?_
      refine a_letM (fun s4 => ?_)
      refine a_aload_n hS dX12_searches_47 rfl ?_
      refine a_iload_n hS dX12_searches_48 rfl ?_
      refine a_putI hS dX12_searches_49 plX12_271 (sB0 hW) rfl ?_
      refine a_letM (fun s5 => ?_)
      refine a_iinc hS (L' := [some (rf w 0), some (iv x1), some (iv (x2 + 1)), some (iv q2.1)]) dX12_searches_52 rfl hN (Nat.le_of_ble_eq_true rfl) rfl rfl ?_
      refine a_goto hS (tgt := 16) dX12_searches_55 (by decide) ?_
      exact a_live (M := [true, true, true, false]) (hr16 x1 (x2 + 1) s5) rfl
set_option maxRecDepth 100000 in
set_option maxHeartbeats 4000000 in
theorem k_Md_searches_8 {X : Cx} {w : Wd} {x : Int × Mem} (hS : Std X (rmN 8 183) w cX12_searches RX12 none) (hN : cxn X = 4) (hW : shp w = ShB)   : ∀ (n : Nat) (x1 : Int) (σ : Mem), Sm X (rmN 8 183) w 0 x 8 [some (rf w 0), some (iv x1), none, none] [] σ (Md_searches_8   n x1 σ) := by
  refine fix_ok (P := fun (r8 : Int → Mem → Option (Int × Mem)) => ∀ (x1 : Int) (σ : Mem), Sm X (rmN 8 183) w 0 x 8 [some (rf w 0), some (iv x1), none, none] [] σ (r8 x1 σ)) (fun _ _ => a_none) (fun r8 hr8 => ?_)
  intro x1 σ
  unfold Md_searches_8b
  refine a_iload_n hS dX12_searches_8 rfl ?_
  refine a_bipush hS dX12_searches_9 rfl ?_
  refine a_icmpgt hS rfl (wl 8 rfl) (tgt := 64) dX12_searches_11 (by decide) ?_ ?_
  · exact a_vret hS rfl rfl dX12_searches_64
  · refine a_iconst hS dX12_searches_14 ?_
    refine a_istore_n hS (L' := [some (rf w 0), some (iv x1), some (iv 0), none]) dX12_searches_15 hN (Nat.le_of_ble_eq_true rfl) rfl rfl ?_
    exact k_Md_searches_16 hS hN hW  r8 hr8 100000 x1 0 σ
set_option maxRecDepth 100000 in
set_option maxHeartbeats 4000000 in
theorem c_Md_searches {l : Launch} {w : Wd} (hW : shp w = ShB)  (σ : Mem)  : Ctr l w yX12_searches cX12_searches 4 none (rmN 8 183) 0 [rf w 0] σ (Md_searches  σ) := by
  refine met_of (own := RX12) (by decide) rfl rfl rfl (Nat.le_of_ble_eq_true rfl) (fun X x hXl hN hS => ⟨[some (rf w 0), none, none, none], ⟨3, rfl⟩, ?_⟩)
  subst hXl
  unfold Md_searches
  refine a_aload_n hS dX12_searches_0 rfl ?_
  refine a_bipush hS dX12_searches_1 rfl ?_
  refine a_putI hS dX12_searches_3 plX12_265 (sB0 hW) rfl ?_
  refine a_letM (fun s1 => ?_)
  refine a_iconst hS dX12_searches_6 ?_
  refine a_istore_n hS (L' := [some (rf w 0), some (iv 1), none, none]) dX12_searches_7 hN (Nat.le_of_ble_eq_true rfl) rfl rfl ?_
  exact k_Md_searches_8 hS hN hW   100000 1 s1
noncomputable def Md_fewestChanges  (σ : Mem) : Option (Int × Mem) := (Md_searches  σ).bind fun q1 => some ((q1.2 0 33), q1.2)
set_option maxRecDepth 100000 in
set_option maxHeartbeats 4000000 in
theorem c_Md_fewestChanges {l : Launch} {w : Wd} (hW : shp w = ShB)  (σ : Mem)  : Ctr l w yX12_fewestChanges cX12_fewestChanges 1 (some .int) (rmN 9 206) 1 [rf w 0] σ (Md_fewestChanges  σ) := by
  refine met_of (own := RX12) (by decide) rfl rfl rfl (Nat.le_of_ble_eq_true rfl) (fun X x hXl hN hS => ⟨[some (rf w 0)], ⟨0, rfl⟩, ?_⟩)
  subst hXl
  unfold Md_fewestChanges
  refine a_aload_n hS dX12_fewestChanges_0 rfl ?_
  refine a_callVv hS (rst := []) (c_Md_searches hW  σ ) miX12_searches mlX12_274 (sB0 hW) rfl rfl (Nat.le_of_ble_eq_true rfl) (Nat.le_of_ble_eq_true rfl) (Nat.le_of_ble_eq_true rfl) rfl dX12_fewestChanges_1 (fun q1 => ?_)
  refine a_aload_n hS dX12_fewestChanges_4 rfl ?_
  refine a_getI hS dX12_fewestChanges_5 flX12_265 (sB0 hW) rfl ?_
  exact a_iret hS rfl rfl dX12_fewestChanges_8
noncomputable def Md_bestStep  (σ : Mem) : Option (Int × Mem) := (Md_searches  σ).bind fun q1 => some ((q1.2 0 34), q1.2)
set_option maxRecDepth 100000 in
set_option maxHeartbeats 4000000 in
theorem c_Md_bestStep {l : Launch} {w : Wd} (hW : shp w = ShB)  (σ : Mem)  : Ctr l w yX12_bestStep cX12_bestStep 1 (some .int) (rmN 9 206) 1 [rf w 0] σ (Md_bestStep  σ) := by
  refine met_of (own := RX12) (by decide) rfl rfl rfl (Nat.le_of_ble_eq_true rfl) (fun X x hXl hN hS => ⟨[some (rf w 0)], ⟨0, rfl⟩, ?_⟩)
  subst hXl
  unfold Md_bestStep
  refine a_aload_n hS dX12_bestStep_0 rfl ?_
  refine a_callVv hS (rst := []) (c_Md_searches hW  σ ) miX12_searches mlX12_274 (sB0 hW) rfl rfl (Nat.le_of_ble_eq_true rfl) (Nat.le_of_ble_eq_true rfl) (Nat.le_of_ble_eq_true rfl) rfl dX12_bestStep_1 (fun q1 => ?_)
  refine a_aload_n hS dX12_bestStep_4 rfl ?_
  refine a_getI hS dX12_bestStep_5 flX12_268 (sB0 hW) rfl ?_
  exact a_iret hS rfl rfl dX12_bestStep_8
noncomputable def Md_bestBase  (σ : Mem) : Option (Int × Mem) := (Md_searches  σ).bind fun q1 => some ((q1.2 0 35), q1.2)
set_option maxRecDepth 100000 in
set_option maxHeartbeats 4000000 in
theorem c_Md_bestBase {l : Launch} {w : Wd} (hW : shp w = ShB)  (σ : Mem)  : Ctr l w yX12_bestBase cX12_bestBase 1 (some .int) (rmN 9 206) 1 [rf w 0] σ (Md_bestBase  σ) := by
  refine met_of (own := RX12) (by decide) rfl rfl rfl (Nat.le_of_ble_eq_true rfl) (fun X x hXl hN hS => ⟨[some (rf w 0)], ⟨0, rfl⟩, ?_⟩)
  subst hXl
  unfold Md_bestBase
  refine a_aload_n hS dX12_bestBase_0 rfl ?_
  refine a_callVv hS (rst := []) (c_Md_searches hW  σ ) miX12_searches mlX12_274 (sB0 hW) rfl rfl (Nat.le_of_ble_eq_true rfl) (Nat.le_of_ble_eq_true rfl) (Nat.le_of_ble_eq_true rfl) rfl dX12_bestBase_1 (fun q1 => ?_)
  refine a_aload_n hS dX12_bestBase_4 rfl ?_
  refine a_getI hS dX12_bestBase_5 flX12_271 (sB0 hW) rfl ?_
  exact a_iret hS rfl rfl dX12_bestBase_8
noncomputable def Md_tokenOf (a0 : Int) (a1 : Int) (σ : Mem) : Option (Int × Mem) := (Md_isLine a0 σ).bind fun q1 => if wr q1.1 = 0 then (some ((-9), q1.2)) else ((Md_looks  q1.2).bind fun q2 => if 0 ≤ wr (a0 + 1) ∧ wr (a0 + 1) < (21 : Int) then (if 0 ≤ wr a0 ∧ wr a0 < (21 : Int) then ((Md_in a1 0 (((q2.2 11 (wr (a0 + 1)).toNat) - (q2.2 11 (wr a0).toNat)) - 1) q2.2).bind fun q3 => if wr q3.1 = 0 then (some ((-9), q3.2)) else (if 0 ≤ wr a0 ∧ wr a0 < (21 : Int) then (some (((q3.2 11 (wr a0).toNat) + a1), q3.2)) else none)) else none) else none)
set_option maxRecDepth 100000 in
set_option maxHeartbeats 4000000 in
theorem c_Md_tokenOf {l : Launch} {w : Wd} (hW : shp w = ShB) (a0 : Int) (a1 : Int) (σ : Mem)  : Ctr l w yX12_tokenOf cX12_tokenOf 3 (some .int) (rmN 6 138) 1 [rf w 0, iv a0, iv a1] σ (Md_tokenOf a0 a1 σ) := by
  refine met_of (own := RX12) (by decide) rfl rfl rfl (Nat.le_of_ble_eq_true rfl) (fun X x hXl hN hS => ⟨[some (rf w 0), some (iv a0), some (iv a1)], ⟨0, rfl⟩, ?_⟩)
  subst hXl
  unfold Md_tokenOf
  refine a_aload_n hS dX12_tokenOf_0 rfl ?_
  refine a_iload_n hS dX12_tokenOf_1 rfl ?_
  refine a_callVi hS (rst := []) (c_Md_isLine hW a0 σ ) miX12_isLine mlX12_216 (sB0 hW) rfl rfl (Nat.le_of_ble_eq_true rfl) (Nat.le_of_ble_eq_true rfl) (Nat.le_of_ble_eq_true rfl) rfl dX12_tokenOf_2 (fun q1 => ?_)
  refine a_ifne hS rfl  (tgt := 11) dX12_tokenOf_5 (by decide) ?_ ?_
  · refine a_aload_n hS dX12_tokenOf_11 rfl ?_
    refine a_callVv hS (rst := []) (c_Md_looks hW  q1.2 ) miX12_looks mlX12_151 (sB0 hW) rfl rfl (Nat.le_of_ble_eq_true rfl) (Nat.le_of_ble_eq_true rfl) (Nat.le_of_ble_eq_true rfl) rfl dX12_tokenOf_12 (fun q2 => ?_)
    refine a_iload_n hS dX12_tokenOf_15 rfl ?_
    refine a_iconst hS dX12_tokenOf_16 ?_
    refine a_aload_n hS dX12_tokenOf_17 rfl ?_
    refine a_getR hS (j := 11) dX12_tokenOf_18 flX12_41 (sB0 hW) rfl ?_
    refine a_iload_n hS dX12_tokenOf_21 rfl ?_
    refine a_iconst hS dX12_tokenOf_22 ?_
    refine a_iadd hS dX12_tokenOf_23 ?_
    refine a_iald hS dX12_tokenOf_24 (sB11 hW) ?_
    refine a_aload_n hS dX12_tokenOf_25 rfl ?_
    refine a_getR hS (j := 11) dX12_tokenOf_26 flX12_41 (sB0 hW) rfl ?_
    refine a_iload_n hS dX12_tokenOf_29 rfl ?_
    refine a_iald hS dX12_tokenOf_30 (sB11 hW) ?_
    refine a_isub hS dX12_tokenOf_31 ?_
    refine a_iconst hS dX12_tokenOf_32 ?_
    refine a_isub hS dX12_tokenOf_33 ?_
    refine a_callSi hS (rst := []) (c_Md_in hW a1 0 (((q2.2 11 (wr (a0 + 1)).toNat) - (q2.2 11 (wr a0).toNat)) - 1) q2.2 ) msX12_in mlX12_79 rfl (Nat.le_of_ble_eq_true rfl) (Nat.le_of_ble_eq_true rfl) (Nat.le_of_ble_eq_true rfl) rfl dX12_tokenOf_34 (fun q3 => ?_)
    refine a_ifeq hS rfl  (tgt := 51) dX12_tokenOf_37 (by decide) ?_ ?_
    · refine a_bipush hS dX12_tokenOf_51 rfl ?_
      exact a_iret hS rfl rfl dX12_tokenOf_53
    · refine a_aload_n hS dX12_tokenOf_40 rfl ?_
      refine a_getR hS (j := 11) dX12_tokenOf_41 flX12_41 (sB0 hW) rfl ?_
      refine a_iload_n hS dX12_tokenOf_44 rfl ?_
      refine a_iald hS dX12_tokenOf_45 (sB11 hW) ?_
      refine a_iload_n hS dX12_tokenOf_46 rfl ?_
      refine a_iadd hS dX12_tokenOf_47 ?_
      refine a_goto hS (tgt := 53) dX12_tokenOf_48 (by decide) ?_
      exact a_iret hS rfl rfl dX12_tokenOf_53
  · refine a_bipush hS dX12_tokenOf_8 rfl ?_
    exact a_iret hS rfl rfl dX12_tokenOf_10
noncomputable def Md_tokens (a0 : Int) (σ : Mem) : Option (Int × Mem) := (Md_isLine a0 σ).bind fun q1 => if wr q1.1 = 0 then (some ((-1), q1.2)) else ((Md_tokenizes  q1.2).bind fun q2 => if 0 ≤ wr (a0 + 1) ∧ wr (a0 + 1) < (21 : Int) then (if 0 ≤ wr a0 ∧ wr a0 < (21 : Int) then (some (((q2.2 11 (wr (a0 + 1)).toNat) - (q2.2 11 (wr a0).toNat)), q2.2)) else none) else none)
set_option maxRecDepth 100000 in
set_option maxHeartbeats 4000000 in
theorem c_Md_tokens {l : Launch} {w : Wd} (hW : shp w = ShB) (a0 : Int) (σ : Mem)  : Ctr l w yX12_tokens cX12_tokens 2 (some .int) (rmN 5 115) 1 [rf w 0, iv a0] σ (Md_tokens a0 σ) := by
  refine met_of (own := RX12) (by decide) rfl rfl rfl (Nat.le_of_ble_eq_true rfl) (fun X x hXl hN hS => ⟨[some (rf w 0), some (iv a0)], ⟨0, rfl⟩, ?_⟩)
  subst hXl
  unfold Md_tokens
  refine a_aload_n hS dX12_tokens_0 rfl ?_
  refine a_iload_n hS dX12_tokens_1 rfl ?_
  refine a_callVi hS (rst := []) (c_Md_isLine hW a0 σ ) miX12_isLine mlX12_216 (sB0 hW) rfl rfl (Nat.le_of_ble_eq_true rfl) (Nat.le_of_ble_eq_true rfl) (Nat.le_of_ble_eq_true rfl) rfl dX12_tokens_2 (fun q1 => ?_)
  refine a_ifne hS rfl  (tgt := 10) dX12_tokens_5 (by decide) ?_ ?_
  · refine a_aload_n hS dX12_tokens_10 rfl ?_
    refine a_callVv hS (rst := []) (c_Md_tokenizes hW  q1.2 ) miX12_tokenizes mlX12_138 (sB0 hW) rfl rfl (Nat.le_of_ble_eq_true rfl) (Nat.le_of_ble_eq_true rfl) (Nat.le_of_ble_eq_true rfl) rfl dX12_tokens_11 (fun q2 => ?_)
    refine a_aload_n hS dX12_tokens_14 rfl ?_
    refine a_getR hS (j := 11) dX12_tokens_15 flX12_41 (sB0 hW) rfl ?_
    refine a_iload_n hS dX12_tokens_18 rfl ?_
    refine a_iconst hS dX12_tokens_19 ?_
    refine a_iadd hS dX12_tokens_20 ?_
    refine a_iald hS dX12_tokens_21 (sB11 hW) ?_
    refine a_aload_n hS dX12_tokens_22 rfl ?_
    refine a_getR hS (j := 11) dX12_tokens_23 flX12_41 (sB0 hW) rfl ?_
    refine a_iload_n hS dX12_tokens_26 rfl ?_
    refine a_iald hS dX12_tokens_27 (sB11 hW) ?_
    refine a_isub hS dX12_tokens_28 ?_
    exact a_iret hS rfl rfl dX12_tokens_29
  · refine a_iconst hS dX12_tokens_8 ?_
    exact a_iret hS rfl rfl dX12_tokens_9
noncomputable def Md_tokenAt (a0 : Int) (a1 : Int) (σ : Mem) : Option (Int × Mem) := (Md_tokenOf a0 a1 σ).bind fun q1 => if wr q1.1 = (-9) then (some ((-1), q1.2)) else (if 0 ≤ wr q1.1 ∧ wr q1.1 < (641 : Int) then (some ((q1.2 5 (wr q1.1).toNat), q1.2)) else none)
set_option maxRecDepth 100000 in
set_option maxHeartbeats 4000000 in
theorem c_Md_tokenAt {l : Launch} {w : Wd} (hW : shp w = ShB) (a0 : Int) (a1 : Int) (σ : Mem)  : Ctr l w yX12_tokenAt cX12_tokenAt 4 (some .int) (rmN 7 160) 1 [rf w 0, iv a0, iv a1] σ (Md_tokenAt a0 a1 σ) := by
  refine met_of (own := RX12) (by decide) rfl rfl rfl (Nat.le_of_ble_eq_true rfl) (fun X x hXl hN hS => ⟨[some (rf w 0), some (iv a0), some (iv a1), none], ⟨1, rfl⟩, ?_⟩)
  subst hXl
  unfold Md_tokenAt
  refine a_aload_n hS dX12_tokenAt_0 rfl ?_
  refine a_iload_n hS dX12_tokenAt_1 rfl ?_
  refine a_iload_n hS dX12_tokenAt_2 rfl ?_
  refine a_callVi hS (rst := []) (c_Md_tokenOf hW a0 a1 σ ) miX12_tokenOf mlX12_277 (sB0 hW) rfl rfl (Nat.le_of_ble_eq_true rfl) (Nat.le_of_ble_eq_true rfl) (Nat.le_of_ble_eq_true rfl) rfl dX12_tokenAt_3 (fun q1 => ?_)
  refine a_istore_n hS (L' := [some (rf w 0), some (iv a0), some (iv a1), some (iv q1.1)]) dX12_tokenAt_6 hN (Nat.le_of_ble_eq_true rfl) rfl rfl ?_
  refine a_iload_n hS dX12_tokenAt_7 rfl ?_
  refine a_bipush hS dX12_tokenAt_8 rfl ?_
  refine a_icmpne hS rfl (wl (-9) rfl) (tgt := 17) dX12_tokenAt_10 (by decide) ?_ ?_
  · refine a_aload_n hS dX12_tokenAt_17 rfl ?_
    refine a_getR hS (j := 5) dX12_tokenAt_18 flX12_23 (sB0 hW) rfl ?_
    refine a_iload_n hS dX12_tokenAt_21 rfl ?_
    refine a_iald hS dX12_tokenAt_22 (sB5 hW) ?_
    exact a_iret hS rfl rfl dX12_tokenAt_23
  · refine a_iconst hS dX12_tokenAt_13 ?_
    refine a_goto hS (tgt := 23) dX12_tokenAt_14 (by decide) ?_
    exact a_iret hS rfl rfl dX12_tokenAt_23
noncomputable def Md_tokenLength (a0 : Int) (a1 : Int) (σ : Mem) : Option (Int × Mem) := (Md_tokenOf a0 a1 σ).bind fun q1 => if wr q1.1 = (-9) then (some ((-1), q1.2)) else (if 0 ≤ wr q1.1 ∧ wr q1.1 < (641 : Int) then (some ((q1.2 6 (wr q1.1).toNat), q1.2)) else none)
set_option maxRecDepth 100000 in
set_option maxHeartbeats 4000000 in
theorem c_Md_tokenLength {l : Launch} {w : Wd} (hW : shp w = ShB) (a0 : Int) (a1 : Int) (σ : Mem)  : Ctr l w yX12_tokenLength cX12_tokenLength 4 (some .int) (rmN 7 160) 1 [rf w 0, iv a0, iv a1] σ (Md_tokenLength a0 a1 σ) := by
  refine met_of (own := RX12) (by decide) rfl rfl rfl (Nat.le_of_ble_eq_true rfl) (fun X x hXl hN hS => ⟨[some (rf w 0), some (iv a0), some (iv a1), none], ⟨1, rfl⟩, ?_⟩)
  subst hXl
  unfold Md_tokenLength
  refine a_aload_n hS dX12_tokenLength_0 rfl ?_
  refine a_iload_n hS dX12_tokenLength_1 rfl ?_
  refine a_iload_n hS dX12_tokenLength_2 rfl ?_
  refine a_callVi hS (rst := []) (c_Md_tokenOf hW a0 a1 σ ) miX12_tokenOf mlX12_277 (sB0 hW) rfl rfl (Nat.le_of_ble_eq_true rfl) (Nat.le_of_ble_eq_true rfl) (Nat.le_of_ble_eq_true rfl) rfl dX12_tokenLength_3 (fun q1 => ?_)
  refine a_istore_n hS (L' := [some (rf w 0), some (iv a0), some (iv a1), some (iv q1.1)]) dX12_tokenLength_6 hN (Nat.le_of_ble_eq_true rfl) rfl rfl ?_
  refine a_iload_n hS dX12_tokenLength_7 rfl ?_
  refine a_bipush hS dX12_tokenLength_8 rfl ?_
  refine a_icmpne hS rfl (wl (-9) rfl) (tgt := 17) dX12_tokenLength_10 (by decide) ?_ ?_
  · refine a_aload_n hS dX12_tokenLength_17 rfl ?_
    refine a_getR hS (j := 6) dX12_tokenLength_18 flX12_26 (sB0 hW) rfl ?_
    refine a_iload_n hS dX12_tokenLength_21 rfl ?_
    refine a_iald hS dX12_tokenLength_22 (sB6 hW) ?_
    exact a_iret hS rfl rfl dX12_tokenLength_23
  · refine a_iconst hS dX12_tokenLength_13 ?_
    refine a_goto hS (tgt := 23) dX12_tokenLength_14 (by decide) ?_
    exact a_iret hS rfl rfl dX12_tokenLength_23
noncomputable def Md_tokenKind (a0 : Int) (a1 : Int) (σ : Mem) : Option (Int × Mem) := (Md_tokenOf a0 a1 σ).bind fun q1 => if wr q1.1 = (-9) then (some ((-1), q1.2)) else (if 0 ≤ wr q1.1 ∧ wr q1.1 < (641 : Int) then (some ((q1.2 7 (wr q1.1).toNat), q1.2)) else none)
set_option maxRecDepth 100000 in
set_option maxHeartbeats 4000000 in
theorem c_Md_tokenKind {l : Launch} {w : Wd} (hW : shp w = ShB) (a0 : Int) (a1 : Int) (σ : Mem)  : Ctr l w yX12_tokenKind cX12_tokenKind 4 (some .int) (rmN 7 160) 1 [rf w 0, iv a0, iv a1] σ (Md_tokenKind a0 a1 σ) := by
  refine met_of (own := RX12) (by decide) rfl rfl rfl (Nat.le_of_ble_eq_true rfl) (fun X x hXl hN hS => ⟨[some (rf w 0), some (iv a0), some (iv a1), none], ⟨1, rfl⟩, ?_⟩)
  subst hXl
  unfold Md_tokenKind
  refine a_aload_n hS dX12_tokenKind_0 rfl ?_
  refine a_iload_n hS dX12_tokenKind_1 rfl ?_
  refine a_iload_n hS dX12_tokenKind_2 rfl ?_
  refine a_callVi hS (rst := []) (c_Md_tokenOf hW a0 a1 σ ) miX12_tokenOf mlX12_277 (sB0 hW) rfl rfl (Nat.le_of_ble_eq_true rfl) (Nat.le_of_ble_eq_true rfl) (Nat.le_of_ble_eq_true rfl) rfl dX12_tokenKind_3 (fun q1 => ?_)
  refine a_istore_n hS (L' := [some (rf w 0), some (iv a0), some (iv a1), some (iv q1.1)]) dX12_tokenKind_6 hN (Nat.le_of_ble_eq_true rfl) rfl rfl ?_
  refine a_iload_n hS dX12_tokenKind_7 rfl ?_
  refine a_bipush hS dX12_tokenKind_8 rfl ?_
  refine a_icmpne hS rfl (wl (-9) rfl) (tgt := 17) dX12_tokenKind_10 (by decide) ?_ ?_
  · refine a_aload_n hS dX12_tokenKind_17 rfl ?_
    refine a_getR hS (j := 7) dX12_tokenKind_18 flX12_29 (sB0 hW) rfl ?_
    refine a_iload_n hS dX12_tokenKind_21 rfl ?_
    refine a_iald hS dX12_tokenKind_22 (sB7 hW) ?_
    exact a_iret hS rfl rfl dX12_tokenKind_23
  · refine a_iconst hS dX12_tokenKind_13 ?_
    refine a_goto hS (tgt := 23) dX12_tokenKind_14 (by decide) ?_
    exact a_iret hS rfl rfl dX12_tokenKind_23
noncomputable def Md_placeOf (a0 : Int) (σ : Mem) : Option (Int × Mem) := if wr a0 = (-9) then (some ((-9), σ)) else (if 0 ≤ wr a0 ∧ wr a0 < (641 : Int) then (if 0 ≤ wr a0 ∧ wr a0 < (641 : Int) then (if 0 ≤ wr (σ 4 (wr a0).toNat) ∧ wr (σ 4 (wr a0).toNat) < (21 : Int) then (some ((((100 * (σ 4 (wr a0).toNat)) + a0) - (σ 11 (wr (σ 4 (wr a0).toNat)).toNat)), σ)) else none) else none) else none)
set_option maxRecDepth 100000 in
set_option maxHeartbeats 4000000 in
theorem c_Md_placeOf {l : Launch} {w : Wd} (hW : shp w = ShB) (a0 : Int) (σ : Mem)  : Ctr l w yX12_placeOf cX12_placeOf 2 (some .int) (rmN 0 0) 1 [rf w 0, iv a0] σ (Md_placeOf a0 σ) := by
  refine met_of (own := RX12) (by decide) rfl rfl rfl (Nat.le_of_ble_eq_true rfl) (fun X x hXl hN hS => ⟨[some (rf w 0), some (iv a0)], ⟨0, rfl⟩, ?_⟩)
  subst hXl
  unfold Md_placeOf
  refine a_iload_n hS dX12_placeOf_0 rfl ?_
  refine a_bipush hS dX12_placeOf_1 rfl ?_
  refine a_icmpne hS rfl (wl (-9) rfl) (tgt := 11) dX12_placeOf_3 (by decide) ?_ ?_
  · refine a_bipush hS dX12_placeOf_11 rfl ?_
    refine a_aload_n hS dX12_placeOf_13 rfl ?_
    refine a_getR hS (j := 4) dX12_placeOf_14 flX12_20 (sB0 hW) rfl ?_
    refine a_iload_n hS dX12_placeOf_17 rfl ?_
    refine a_iald hS dX12_placeOf_18 (sB4 hW) ?_
    refine a_imul hS dX12_placeOf_19 ?_
    refine a_iload_n hS dX12_placeOf_20 rfl ?_
    refine a_iadd hS dX12_placeOf_21 ?_
    refine a_aload_n hS dX12_placeOf_22 rfl ?_
    refine a_getR hS (j := 11) dX12_placeOf_23 flX12_41 (sB0 hW) rfl ?_
    refine a_aload_n hS dX12_placeOf_26 rfl ?_
    refine a_getR hS (j := 4) dX12_placeOf_27 flX12_20 (sB0 hW) rfl ?_
    refine a_iload_n hS dX12_placeOf_30 rfl ?_
    refine a_iald hS dX12_placeOf_31 (sB4 hW) ?_
    refine a_iald hS dX12_placeOf_32 (sB11 hW) ?_
    refine a_isub hS dX12_placeOf_33 ?_
    exact a_iret hS rfl rfl dX12_placeOf_34
  · refine a_bipush hS dX12_placeOf_6 rfl ?_
    refine a_goto hS (tgt := 34) dX12_placeOf_8 (by decide) ?_
    exact a_iret hS rfl rfl dX12_placeOf_34
noncomputable def Md_openedBy (a0 : Int) (a1 : Int) (σ : Mem) : Option (Int × Mem) := (Md_tokenOf a0 a1 σ).bind fun q1 => if wr q1.1 = (-9) then (some ((-1), q1.2)) else (if 0 ≤ wr q1.1 ∧ wr q1.1 < (641 : Int) then ((Md_placeOf (q1.2 9 (wr q1.1).toNat) q1.2).bind fun q2 => some (q2.1, q2.2)) else none)
set_option maxRecDepth 100000 in
set_option maxHeartbeats 4000000 in
theorem c_Md_openedBy {l : Launch} {w : Wd} (hW : shp w = ShB) (a0 : Int) (a1 : Int) (σ : Mem)  : Ctr l w yX12_openedBy cX12_openedBy 4 (some .int) (rmN 7 160) 1 [rf w 0, iv a0, iv a1] σ (Md_openedBy a0 a1 σ) := by
  refine met_of (own := RX12) (by decide) rfl rfl rfl (Nat.le_of_ble_eq_true rfl) (fun X x hXl hN hS => ⟨[some (rf w 0), some (iv a0), some (iv a1), none], ⟨1, rfl⟩, ?_⟩)
  subst hXl
  unfold Md_openedBy
  refine a_aload_n hS dX12_openedBy_0 rfl ?_
  refine a_iload_n hS dX12_openedBy_1 rfl ?_
  refine a_iload_n hS dX12_openedBy_2 rfl ?_
  refine a_callVi hS (rst := []) (c_Md_tokenOf hW a0 a1 σ ) miX12_tokenOf mlX12_277 (sB0 hW) rfl rfl (Nat.le_of_ble_eq_true rfl) (Nat.le_of_ble_eq_true rfl) (Nat.le_of_ble_eq_true rfl) rfl dX12_openedBy_3 (fun q1 => ?_)
  refine a_istore_n hS (L' := [some (rf w 0), some (iv a0), some (iv a1), some (iv q1.1)]) dX12_openedBy_6 hN (Nat.le_of_ble_eq_true rfl) rfl rfl ?_
  refine a_iload_n hS dX12_openedBy_7 rfl ?_
  refine a_bipush hS dX12_openedBy_8 rfl ?_
  refine a_icmpne hS rfl (wl (-9) rfl) (tgt := 17) dX12_openedBy_10 (by decide) ?_ ?_
  · refine a_aload_n hS dX12_openedBy_17 rfl ?_
    refine a_aload_n hS dX12_openedBy_18 rfl ?_
    refine a_getR hS (j := 9) dX12_openedBy_19 flX12_35 (sB0 hW) rfl ?_
    refine a_iload_n hS dX12_openedBy_22 rfl ?_
    refine a_iald hS dX12_openedBy_23 (sB9 hW) ?_
    refine a_callVi hS (rst := []) (c_Md_placeOf hW (q1.2 9 (wr q1.1).toNat) q1.2 ) miX12_placeOf mlX12_280 (sB0 hW) rfl rfl (Nat.le_of_ble_eq_true rfl) (Nat.le_of_ble_eq_true rfl) (Nat.le_of_ble_eq_true rfl) rfl dX12_openedBy_24 (fun q2 => ?_)
    exact a_iret hS rfl rfl dX12_openedBy_27
  · refine a_iconst hS dX12_openedBy_13 ?_
    refine a_goto hS (tgt := 27) dX12_openedBy_14 (by decide) ?_
    exact a_iret hS rfl rfl dX12_openedBy_27
noncomputable def Md_closedBy (a0 : Int) (a1 : Int) (σ : Mem) : Option (Int × Mem) := (Md_tokenOf a0 a1 σ).bind fun q1 => if wr q1.1 = (-9) then (some ((-1), q1.2)) else (if 0 ≤ wr q1.1 ∧ wr q1.1 < (641 : Int) then ((Md_placeOf (q1.2 10 (wr q1.1).toNat) q1.2).bind fun q2 => some (q2.1, q2.2)) else none)
set_option maxRecDepth 100000 in
set_option maxHeartbeats 4000000 in
theorem c_Md_closedBy {l : Launch} {w : Wd} (hW : shp w = ShB) (a0 : Int) (a1 : Int) (σ : Mem)  : Ctr l w yX12_closedBy cX12_closedBy 4 (some .int) (rmN 7 160) 1 [rf w 0, iv a0, iv a1] σ (Md_closedBy a0 a1 σ) := by
  refine met_of (own := RX12) (by decide) rfl rfl rfl (Nat.le_of_ble_eq_true rfl) (fun X x hXl hN hS => ⟨[some (rf w 0), some (iv a0), some (iv a1), none], ⟨1, rfl⟩, ?_⟩)
  subst hXl
  unfold Md_closedBy
  refine a_aload_n hS dX12_closedBy_0 rfl ?_
  refine a_iload_n hS dX12_closedBy_1 rfl ?_
  refine a_iload_n hS dX12_closedBy_2 rfl ?_
  refine a_callVi hS (rst := []) (c_Md_tokenOf hW a0 a1 σ ) miX12_tokenOf mlX12_277 (sB0 hW) rfl rfl (Nat.le_of_ble_eq_true rfl) (Nat.le_of_ble_eq_true rfl) (Nat.le_of_ble_eq_true rfl) rfl dX12_closedBy_3 (fun q1 => ?_)
  refine a_istore_n hS (L' := [some (rf w 0), some (iv a0), some (iv a1), some (iv q1.1)]) dX12_closedBy_6 hN (Nat.le_of_ble_eq_true rfl) rfl rfl ?_
  refine a_iload_n hS dX12_closedBy_7 rfl ?_
  refine a_bipush hS dX12_closedBy_8 rfl ?_
  refine a_icmpne hS rfl (wl (-9) rfl) (tgt := 17) dX12_closedBy_10 (by decide) ?_ ?_
  · refine a_aload_n hS dX12_closedBy_17 rfl ?_
    refine a_aload_n hS dX12_closedBy_18 rfl ?_
    refine a_getR hS (j := 10) dX12_closedBy_19 flX12_38 (sB0 hW) rfl ?_
    refine a_iload_n hS dX12_closedBy_22 rfl ?_
    refine a_iald hS dX12_closedBy_23 (sB10 hW) ?_
    refine a_callVi hS (rst := []) (c_Md_placeOf hW (q1.2 10 (wr q1.1).toNat) q1.2 ) miX12_placeOf mlX12_280 (sB0 hW) rfl rfl (Nat.le_of_ble_eq_true rfl) (Nat.le_of_ble_eq_true rfl) (Nat.le_of_ble_eq_true rfl) rfl dX12_closedBy_24 (fun q2 => ?_)
    exact a_iret hS rfl rfl dX12_closedBy_27
  · refine a_iconst hS dX12_closedBy_13 ?_
    refine a_goto hS (tgt := 27) dX12_closedBy_14 (by decide) ?_
    exact a_iret hS rfl rfl dX12_closedBy_27
noncomputable def Md_depth (a0 : Int) (σ : Mem) : Option (Int × Mem) := if 0 ≤ wr 0 ∧ wr 0 < (10780 : Int) then ((Md_in a0 0 (σ 1 (wr 0).toNat) σ).bind fun q1 => if wr q1.1 = 0 then (some ((-1), q1.2)) else ((Md_looks  q1.2).bind fun q2 => if 0 ≤ wr a0 ∧ wr a0 < (21 : Int) then (some ((q2.2 13 (wr a0).toNat), q2.2)) else none)) else none
set_option maxRecDepth 100000 in
set_option maxHeartbeats 4000000 in
theorem c_Md_depth {l : Launch} {w : Wd} (hW : shp w = ShB) (a0 : Int) (σ : Mem)  : Ctr l w yX12_depth cX12_depth 2 (some .int) (rmN 6 138) 1 [rf w 0, iv a0] σ (Md_depth a0 σ) := by
  refine met_of (own := RX12) (by decide) rfl rfl rfl (Nat.le_of_ble_eq_true rfl) (fun X x hXl hN hS => ⟨[some (rf w 0), some (iv a0)], ⟨0, rfl⟩, ?_⟩)
  subst hXl
  unfold Md_depth
  refine a_iload_n hS dX12_depth_0 rfl ?_
  refine a_iconst hS dX12_depth_1 ?_
  refine a_aload_n hS dX12_depth_2 rfl ?_
  refine a_getR hS (j := 1) dX12_depth_3 flX12_7 (sB0 hW) rfl ?_
  refine a_iconst hS dX12_depth_6 ?_
  refine a_iald hS dX12_depth_7 (sB1 hW) ?_
  refine a_callSi hS (rst := []) (c_Md_in hW a0 0 (σ 1 (wr 0).toNat) σ ) msX12_in mlX12_79 rfl (Nat.le_of_ble_eq_true rfl) (Nat.le_of_ble_eq_true rfl) (Nat.le_of_ble_eq_true rfl) rfl dX12_depth_8 (fun q1 => ?_)
  refine a_ifne hS rfl  (tgt := 16) dX12_depth_11 (by decide) ?_ ?_
  · refine a_aload_n hS dX12_depth_16 rfl ?_
    refine a_callVv hS (rst := []) (c_Md_looks hW  q1.2 ) miX12_looks mlX12_151 (sB0 hW) rfl rfl (Nat.le_of_ble_eq_true rfl) (Nat.le_of_ble_eq_true rfl) (Nat.le_of_ble_eq_true rfl) rfl dX12_depth_17 (fun q2 => ?_)
    refine a_aload_n hS dX12_depth_20 rfl ?_
    refine a_getR hS (j := 13) dX12_depth_21 flX12_47 (sB0 hW) rfl ?_
    refine a_iload_n hS dX12_depth_24 rfl ?_
    refine a_iald hS dX12_depth_25 (sB13 hW) ?_
    exact a_iret hS rfl rfl dX12_depth_26
  · refine a_iconst hS dX12_depth_14 ?_
    exact a_iret hS rfl rfl dX12_depth_15
noncomputable def Md_blockOf (a0 : Int) (a1 : Int) (σ : Mem) : Option (Int × Mem) := if 0 ≤ wr 0 ∧ wr 0 < (10780 : Int) then ((Md_in a0 0 (σ 1 (wr 0).toNat) σ).bind fun q1 => if wr q1.1 = 0 then (some ((-9), q1.2)) else (if 0 ≤ wr 977 ∧ wr 977 < (10780 : Int) then (if 0 ≤ wr 978 ∧ wr 978 < (10780 : Int) then ((Md_uses (q1.2 1 (wr 977).toNat) (q1.2 1 (wr 978).toNat) q1.2).bind fun q2 => if 0 ≤ wr a0 ∧ wr a0 < (21 : Int) then ((Md_in a1 0 ((q2.2 13 (wr a0).toNat) - 1) q2.2).bind fun q3 => if wr q3.1 = 0 then (some ((-9), q3.2)) else (if 0 ≤ wr ((12 * a0) + a1) ∧ wr ((12 * a0) + a1) < (252 : Int) then (some ((q3.2 14 (wr ((12 * a0) + a1)).toNat), q3.2)) else none)) else none) else none) else none)) else none
set_option maxRecDepth 100000 in
set_option maxHeartbeats 4000000 in
theorem c_Md_blockOf {l : Launch} {w : Wd} (hW : shp w = ShB) (a0 : Int) (a1 : Int) (σ : Mem)  : Ctr l w yX12_blockOf cX12_blockOf 3 (some .int) (rmN 7 161) 1 [rf w 0, iv a0, iv a1] σ (Md_blockOf a0 a1 σ) := by
  refine met_of (own := RX12) (by decide) rfl rfl rfl (Nat.le_of_ble_eq_true rfl) (fun X x hXl hN hS => ⟨[some (rf w 0), some (iv a0), some (iv a1)], ⟨0, rfl⟩, ?_⟩)
  subst hXl
  unfold Md_blockOf
  refine a_iload_n hS dX12_blockOf_0 rfl ?_
  refine a_iconst hS dX12_blockOf_1 ?_
  refine a_aload_n hS dX12_blockOf_2 rfl ?_
  refine a_getR hS (j := 1) dX12_blockOf_3 flX12_7 (sB0 hW) rfl ?_
  refine a_iconst hS dX12_blockOf_6 ?_
  refine a_iald hS dX12_blockOf_7 (sB1 hW) ?_
  refine a_callSi hS (rst := []) (c_Md_in hW a0 0 (σ 1 (wr 0).toNat) σ ) msX12_in mlX12_79 rfl (Nat.le_of_ble_eq_true rfl) (Nat.le_of_ble_eq_true rfl) (Nat.le_of_ble_eq_true rfl) rfl dX12_blockOf_8 (fun q1 => ?_)
  refine a_ifne hS rfl  (tgt := 17) dX12_blockOf_11 (by decide) ?_ ?_
  · refine a_aload_n hS dX12_blockOf_17 rfl ?_
    refine a_aload_n hS dX12_blockOf_18 rfl ?_
    refine a_getR hS (j := 1) dX12_blockOf_19 flX12_7 (sB0 hW) rfl ?_
    refine a_sipush hS dX12_blockOf_22 rfl ?_
    refine a_iald hS dX12_blockOf_25 (sB1 hW) ?_
    refine a_aload_n hS dX12_blockOf_26 rfl ?_
    refine a_getR hS (j := 1) dX12_blockOf_27 flX12_7 (sB0 hW) rfl ?_
    refine a_sipush hS dX12_blockOf_30 rfl ?_
    refine a_iald hS dX12_blockOf_33 (sB1 hW) ?_
    refine a_callVv hS (rst := []) (c_Md_uses hW (q1.2 1 (wr 977).toNat) (q1.2 1 (wr 978).toNat) q1.2 ) miX12_uses mlX12_222 (sB0 hW) rfl rfl (Nat.le_of_ble_eq_true rfl) (Nat.le_of_ble_eq_true rfl) (Nat.le_of_ble_eq_true rfl) rfl dX12_blockOf_34 (fun q2 => ?_)
    refine a_iload_n hS dX12_blockOf_37 rfl ?_
    refine a_iconst hS dX12_blockOf_38 ?_
    refine a_aload_n hS dX12_blockOf_39 rfl ?_
    refine a_getR hS (j := 13) dX12_blockOf_40 flX12_47 (sB0 hW) rfl ?_
    refine a_iload_n hS dX12_blockOf_43 rfl ?_
    refine a_iald hS dX12_blockOf_44 (sB13 hW) ?_
    refine a_iconst hS dX12_blockOf_45 ?_
    refine a_isub hS dX12_blockOf_46 ?_
    refine a_callSi hS (rst := []) (c_Md_in hW a1 0 ((q2.2 13 (wr a0).toNat) - 1) q2.2 ) msX12_in mlX12_79 rfl (Nat.le_of_ble_eq_true rfl) (Nat.le_of_ble_eq_true rfl) (Nat.le_of_ble_eq_true rfl) rfl dX12_blockOf_47 (fun q3 => ?_)
    refine a_ifeq hS rfl  (tgt := 67) dX12_blockOf_50 (by decide) ?_ ?_
    · refine a_bipush hS dX12_blockOf_67 rfl ?_
      exact a_iret hS rfl rfl dX12_blockOf_69
    · refine a_aload_n hS dX12_blockOf_53 rfl ?_
      refine a_getR hS (j := 14) dX12_blockOf_54 flX12_50 (sB0 hW) rfl ?_
      refine a_bipush hS dX12_blockOf_57 rfl ?_
      refine a_iload_n hS dX12_blockOf_59 rfl ?_
      refine a_imul hS dX12_blockOf_60 ?_
      refine a_iload_n hS dX12_blockOf_61 rfl ?_
      refine a_iadd hS dX12_blockOf_62 ?_
      refine a_iald hS dX12_blockOf_63 (sB14 hW) ?_
      refine a_goto hS (tgt := 69) dX12_blockOf_64 (by decide) ?_
      exact a_iret hS rfl rfl dX12_blockOf_69
  · refine a_bipush hS dX12_blockOf_14 rfl ?_
    exact a_iret hS rfl rfl dX12_blockOf_16
noncomputable def Md_blockRule (a0 : Int) (a1 : Int) (σ : Mem) : Option (Int × Mem) := (Md_blockOf a0 a1 σ).bind fun q1 => if wr q1.1 = (-9) then (some ((-1), q1.2)) else (if 0 ≤ wr q1.1 ∧ wr q1.1 < (641 : Int) then (some ((q1.2 8 (wr q1.1).toNat), q1.2)) else none)
set_option maxRecDepth 100000 in
set_option maxHeartbeats 4000000 in
theorem c_Md_blockRule {l : Launch} {w : Wd} (hW : shp w = ShB) (a0 : Int) (a1 : Int) (σ : Mem)  : Ctr l w yX12_blockRule cX12_blockRule 4 (some .int) (rmN 8 183) 1 [rf w 0, iv a0, iv a1] σ (Md_blockRule a0 a1 σ) := by
  refine met_of (own := RX12) (by decide) rfl rfl rfl (Nat.le_of_ble_eq_true rfl) (fun X x hXl hN hS => ⟨[some (rf w 0), some (iv a0), some (iv a1), none], ⟨1, rfl⟩, ?_⟩)
  subst hXl
  unfold Md_blockRule
  refine a_aload_n hS dX12_blockRule_0 rfl ?_
  refine a_iload_n hS dX12_blockRule_1 rfl ?_
  refine a_iload_n hS dX12_blockRule_2 rfl ?_
  refine a_callVi hS (rst := []) (c_Md_blockOf hW a0 a1 σ ) miX12_blockOf mlX12_283 (sB0 hW) rfl rfl (Nat.le_of_ble_eq_true rfl) (Nat.le_of_ble_eq_true rfl) (Nat.le_of_ble_eq_true rfl) rfl dX12_blockRule_3 (fun q1 => ?_)
  refine a_istore_n hS (L' := [some (rf w 0), some (iv a0), some (iv a1), some (iv q1.1)]) dX12_blockRule_6 hN (Nat.le_of_ble_eq_true rfl) rfl rfl ?_
  refine a_iload_n hS dX12_blockRule_7 rfl ?_
  refine a_bipush hS dX12_blockRule_8 rfl ?_
  refine a_icmpne hS rfl (wl (-9) rfl) (tgt := 17) dX12_blockRule_10 (by decide) ?_ ?_
  · refine a_aload_n hS dX12_blockRule_17 rfl ?_
    refine a_getR hS (j := 8) dX12_blockRule_18 flX12_32 (sB0 hW) rfl ?_
    refine a_iload_n hS dX12_blockRule_21 rfl ?_
    refine a_iald hS dX12_blockRule_22 (sB8 hW) ?_
    exact a_iret hS rfl rfl dX12_blockRule_23
  · refine a_iconst hS dX12_blockRule_13 ?_
    refine a_goto hS (tgt := 23) dX12_blockRule_14 (by decide) ?_
    exact a_iret hS rfl rfl dX12_blockRule_23
noncomputable def Md_blockOpening (a0 : Int) (a1 : Int) (σ : Mem) : Option (Int × Mem) := (Md_blockOf a0 a1 σ).bind fun q1 => if wr q1.1 = (-9) then (some ((-1), q1.2)) else (if 0 ≤ wr q1.1 ∧ wr q1.1 < (641 : Int) then ((Md_columnOf q1.1 q1.2).bind fun q2 => some (((100 * (q1.2 4 (wr q1.1).toNat)) + q2.1), q2.2)) else none)
set_option maxRecDepth 100000 in
set_option maxHeartbeats 4000000 in
theorem c_Md_blockOpening {l : Launch} {w : Wd} (hW : shp w = ShB) (a0 : Int) (a1 : Int) (σ : Mem)  : Ctr l w yX12_blockOpening cX12_blockOpening 4 (some .int) (rmN 8 183) 1 [rf w 0, iv a0, iv a1] σ (Md_blockOpening a0 a1 σ) := by
  refine met_of (own := RX12) (by decide) rfl rfl rfl (Nat.le_of_ble_eq_true rfl) (fun X x hXl hN hS => ⟨[some (rf w 0), some (iv a0), some (iv a1), none], ⟨1, rfl⟩, ?_⟩)
  subst hXl
  unfold Md_blockOpening
  refine a_aload_n hS dX12_blockOpening_0 rfl ?_
  refine a_iload_n hS dX12_blockOpening_1 rfl ?_
  refine a_iload_n hS dX12_blockOpening_2 rfl ?_
  refine a_callVi hS (rst := []) (c_Md_blockOf hW a0 a1 σ ) miX12_blockOf mlX12_283 (sB0 hW) rfl rfl (Nat.le_of_ble_eq_true rfl) (Nat.le_of_ble_eq_true rfl) (Nat.le_of_ble_eq_true rfl) rfl dX12_blockOpening_3 (fun q1 => ?_)
  refine a_istore_n hS (L' := [some (rf w 0), some (iv a0), some (iv a1), some (iv q1.1)]) dX12_blockOpening_6 hN (Nat.le_of_ble_eq_true rfl) rfl rfl ?_
  refine a_iload_n hS dX12_blockOpening_7 rfl ?_
  refine a_bipush hS dX12_blockOpening_8 rfl ?_
  refine a_icmpne hS rfl (wl (-9) rfl) (tgt := 17) dX12_blockOpening_10 (by decide) ?_ ?_
  · refine a_bipush hS dX12_blockOpening_17 rfl ?_
    refine a_aload_n hS dX12_blockOpening_19 rfl ?_
    refine a_getR hS (j := 4) dX12_blockOpening_20 flX12_20 (sB0 hW) rfl ?_
    refine a_iload_n hS dX12_blockOpening_23 rfl ?_
    refine a_iald hS dX12_blockOpening_24 (sB4 hW) ?_
    refine a_imul hS dX12_blockOpening_25 ?_
    refine a_aload_n hS dX12_blockOpening_26 rfl ?_
    refine a_iload_n hS dX12_blockOpening_27 rfl ?_
    refine a_callVi hS (rst := [iv (100 * (q1.2 4 (wr q1.1).toNat))]) (c_Md_columnOf hW q1.1 q1.2 ) miX12_columnOf mlX12_163 (sB0 hW) rfl rfl (Nat.le_of_ble_eq_true rfl) (Nat.le_of_ble_eq_true rfl) (Nat.le_of_ble_eq_true rfl) rfl dX12_blockOpening_28 (fun q2 => ?_)
    refine a_iadd hS dX12_blockOpening_31 ?_
    exact a_iret hS rfl rfl dX12_blockOpening_32
  · refine a_iconst hS dX12_blockOpening_13 ?_
    refine a_goto hS (tgt := 32) dX12_blockOpening_14 (by decide) ?_
    exact a_iret hS rfl rfl dX12_blockOpening_32
noncomputable def Md_contentColumn (a0 : Int) (a1 : Int) (σ : Mem) : Option (Int × Mem) := (Md_blockOf a0 a1 σ).bind fun q1 => if wr q1.1 = (-9) then (some ((-1), q1.2)) else ((Md_columnIn q1.1 q1.2).bind fun q2 => some (q2.1, q2.2))
set_option maxRecDepth 100000 in
set_option maxHeartbeats 4000000 in
theorem c_Md_contentColumn {l : Launch} {w : Wd} (hW : shp w = ShB) (a0 : Int) (a1 : Int) (σ : Mem)  : Ctr l w yX12_contentColumn cX12_contentColumn 4 (some .int) (rmN 8 183) 1 [rf w 0, iv a0, iv a1] σ (Md_contentColumn a0 a1 σ) := by
  refine met_of (own := RX12) (by decide) rfl rfl rfl (Nat.le_of_ble_eq_true rfl) (fun X x hXl hN hS => ⟨[some (rf w 0), some (iv a0), some (iv a1), none], ⟨1, rfl⟩, ?_⟩)
  subst hXl
  unfold Md_contentColumn
  refine a_aload_n hS dX12_contentColumn_0 rfl ?_
  refine a_iload_n hS dX12_contentColumn_1 rfl ?_
  refine a_iload_n hS dX12_contentColumn_2 rfl ?_
  refine a_callVi hS (rst := []) (c_Md_blockOf hW a0 a1 σ ) miX12_blockOf mlX12_283 (sB0 hW) rfl rfl (Nat.le_of_ble_eq_true rfl) (Nat.le_of_ble_eq_true rfl) (Nat.le_of_ble_eq_true rfl) rfl dX12_contentColumn_3 (fun q1 => ?_)
  refine a_istore_n hS (L' := [some (rf w 0), some (iv a0), some (iv a1), some (iv q1.1)]) dX12_contentColumn_6 hN (Nat.le_of_ble_eq_true rfl) rfl rfl ?_
  refine a_iload_n hS dX12_contentColumn_7 rfl ?_
  refine a_bipush hS dX12_contentColumn_8 rfl ?_
  refine a_icmpne hS rfl (wl (-9) rfl) (tgt := 17) dX12_contentColumn_10 (by decide) ?_ ?_
  · refine a_aload_n hS dX12_contentColumn_17 rfl ?_
    refine a_iload_n hS dX12_contentColumn_18 rfl ?_
    refine a_callVi hS (rst := []) (c_Md_columnIn hW q1.1 q1.2 ) miX12_columnIn mlX12_179 (sB0 hW) rfl rfl (Nat.le_of_ble_eq_true rfl) (Nat.le_of_ble_eq_true rfl) (Nat.le_of_ble_eq_true rfl) rfl dX12_contentColumn_19 (fun q2 => ?_)
    exact a_iret hS rfl rfl dX12_contentColumn_22
  · refine a_iconst hS dX12_contentColumn_13 ?_
    refine a_goto hS (tgt := 22) dX12_contentColumn_14 (by decide) ?_
    exact a_iret hS rfl rfl dX12_contentColumn_22
noncomputable def Md_strays  (σ : Mem) : Option (Int × Mem) := (Md_looks  σ).bind fun q1 => some ((q1.2 0 19), q1.2)
set_option maxRecDepth 100000 in
set_option maxHeartbeats 4000000 in
theorem c_Md_strays {l : Launch} {w : Wd} (hW : shp w = ShB)  (σ : Mem)  : Ctr l w yX12_strays cX12_strays 1 (some .int) (rmN 6 138) 1 [rf w 0] σ (Md_strays  σ) := by
  refine met_of (own := RX12) (by decide) rfl rfl rfl (Nat.le_of_ble_eq_true rfl) (fun X x hXl hN hS => ⟨[some (rf w 0)], ⟨0, rfl⟩, ?_⟩)
  subst hXl
  unfold Md_strays
  refine a_aload_n hS dX12_strays_0 rfl ?_
  refine a_callVv hS (rst := []) (c_Md_looks hW  σ ) miX12_looks mlX12_151 (sB0 hW) rfl rfl (Nat.le_of_ble_eq_true rfl) (Nat.le_of_ble_eq_true rfl) (Nat.le_of_ble_eq_true rfl) rfl dX12_strays_1 (fun q1 => ?_)
  refine a_aload_n hS dX12_strays_4 rfl ?_
  refine a_getI hS dX12_strays_5 flX12_135 (sB0 hW) rfl ?_
  exact a_iret hS rfl rfl dX12_strays_8
noncomputable def Md_lost  (σ : Mem) : Option (Int × Mem) := (Md_looks  σ).bind fun q1 => some ((q1.2 0 20), q1.2)
set_option maxRecDepth 100000 in
set_option maxHeartbeats 4000000 in
theorem c_Md_lost {l : Launch} {w : Wd} (hW : shp w = ShB)  (σ : Mem)  : Ctr l w yX12_lost cX12_lost 1 (some .int) (rmN 6 138) 1 [rf w 0] σ (Md_lost  σ) := by
  refine met_of (own := RX12) (by decide) rfl rfl rfl (Nat.le_of_ble_eq_true rfl) (fun X x hXl hN hS => ⟨[some (rf w 0)], ⟨0, rfl⟩, ?_⟩)
  subst hXl
  unfold Md_lost
  refine a_aload_n hS dX12_lost_0 rfl ?_
  refine a_callVv hS (rst := []) (c_Md_looks hW  σ ) miX12_looks mlX12_151 (sB0 hW) rfl rfl (Nat.le_of_ble_eq_true rfl) (Nat.le_of_ble_eq_true rfl) (Nat.le_of_ble_eq_true rfl) rfl dX12_lost_1 (fun q1 => ?_)
  refine a_aload_n hS dX12_lost_4 rfl ?_
  refine a_getI hS dX12_lost_5 flX12_129 (sB0 hW) rfl ?_
  exact a_iret hS rfl rfl dX12_lost_8
noncomputable def Md_isSame_39b   (r39 : Int → Int → Int → Int → Mem → Option (Int × Mem)) (x1 : Int) (x2 : Int) (x3 : Int) (x4 : Int) (σ : Mem) : Option (Int × Mem) := if 0 ≤ wr x1 ∧ wr x1 < (641 : Int) then (if wr x4 < wr (σ 6 (wr x1).toNat) then (if wr x3 = 0 then (if x3 = 0 ∨ x3 = 1 then some (x3, σ) else none) else (if 0 ≤ wr x1 ∧ wr x1 < (641 : Int) then (if 0 ≤ wr x1 ∧ wr x1 < (641 : Int) then ((Md_contentAt (σ 4 (wr x1).toNat) ((σ 5 (wr x1).toNat) + x4) σ).bind fun q1 => if 0 ≤ wr x2 ∧ wr x2 < (641 : Int) then (if 0 ≤ wr x2 ∧ wr x2 < (641 : Int) then ((Md_contentAt (q1.2 4 (wr x2).toNat) ((q1.2 5 (wr x2).toNat) + x4) q1.2).bind fun q2 => if wr q1.1 = wr q2.1 then (r39 x1 x2 1 (x4 + 1) q2.2) else (r39 x1 x2 0 (x4 + 1) q2.2)) else none) else none) else none) else none)) else (if x3 = 0 ∨ x3 = 1 then some (x3, σ) else none)) else none
noncomputable def Md_isSame_39   (n : Nat) : Int → Int → Int → Int → Mem → Option (Int × Mem) := fixN (fun _ _ _ _ _ => none) (Md_isSame_39b  ) n
noncomputable def Md_isSame (a0 : Int) (a1 : Int) (σ : Mem) : Option (Int × Mem) := if 0 ≤ wr a0 ∧ wr a0 < (641 : Int) then (if 0 ≤ wr a1 ∧ wr a1 < (641 : Int) then (if wr (σ 7 (wr a0).toNat) = wr (σ 7 (wr a1).toNat) then (if 0 ≤ wr a0 ∧ wr a0 < (641 : Int) then (if 0 ≤ wr a1 ∧ wr a1 < (641 : Int) then (if wr (σ 6 (wr a0).toNat) = wr (σ 6 (wr a1).toNat) then (Md_isSame_39 100000 a0 a1 1 0 σ) else (Md_isSame_39 100000 a0 a1 0 0 σ)) else none) else none) else (Md_isSame_39 100000 a0 a1 0 0 σ)) else none) else none
set_option maxRecDepth 100000 in
set_option maxHeartbeats 4000000 in
theorem k_Md_isSame_39 {X : Cx} {w : Wd} {x : Int × Mem} (hS : Std X (rmN 1 22) w cX12_isSame RX12 (some .boolean)) (hN : cxn X = 5) (hW : shp w = ShB)   : ∀ (n : Nat) (x1 : Int) (x2 : Int) (x3 : Int) (x4 : Int) (σ : Mem), Sm X (rmN 1 22) w 1 x 39 [some (rf w 0), some (iv x1), some (iv x2), some (iv x3), some (iv x4)] [] σ (Md_isSame_39   n x1 x2 x3 x4 σ) := by
  refine fix_ok (P := fun (r39 : Int → Int → Int → Int → Mem → Option (Int × Mem)) => ∀ (x1 : Int) (x2 : Int) (x3 : Int) (x4 : Int) (σ : Mem), Sm X (rmN 1 22) w 1 x 39 [some (rf w 0), some (iv x1), some (iv x2), some (iv x3), some (iv x4)] [] σ (r39 x1 x2 x3 x4 σ)) (fun _ _ _ _ _ => a_none) (fun r39 hr39 => ?_)
  intro x1 x2 x3 x4 σ
  unfold Md_isSame_39b
  refine a_iload hS dX12_isSame_39 rfl ?_
  refine a_aload_n hS dX12_isSame_41 rfl ?_
  refine a_getR hS (j := 6) dX12_isSame_42 flX12_26 (sB0 hW) rfl ?_
  refine a_iload_n hS dX12_isSame_45 rfl ?_
  refine a_iald hS dX12_isSame_46 (sB6 hW) ?_
  refine a_icmpge hS rfl rfl (tgt := 107) dX12_isSame_47 (by decide) ?_ ?_
  · refine a_iload_n hS dX12_isSame_107 rfl ?_
    exact a_zretv hS rfl rfl dX12_isSame_108
  · refine a_iload_n hS dX12_isSame_50 rfl ?_
    refine a_ifeq hS rfl  (tgt := 107) dX12_isSame_51 (by decide) ?_ ?_
    · refine a_iload_n hS dX12_isSame_107 rfl ?_
      exact a_zretv hS rfl rfl dX12_isSame_108
    · refine a_aload_n hS dX12_isSame_54 rfl ?_
      refine a_aload_n hS dX12_isSame_55 rfl ?_
      refine a_getR hS (j := 4) dX12_isSame_56 flX12_20 (sB0 hW) rfl ?_
      refine a_iload_n hS dX12_isSame_59 rfl ?_
      refine a_iald hS dX12_isSame_60 (sB4 hW) ?_
      refine a_aload_n hS dX12_isSame_61 rfl ?_
      refine a_getR hS (j := 5) dX12_isSame_62 flX12_23 (sB0 hW) rfl ?_
      refine a_iload_n hS dX12_isSame_65 rfl ?_
      refine a_iald hS dX12_isSame_66 (sB5 hW) ?_
      refine a_iload hS dX12_isSame_67 rfl ?_
      refine a_iadd hS dX12_isSame_69 ?_
      refine a_callVi hS (rst := []) (c_Md_contentAt hW (σ 4 (wr x1).toNat) ((σ 5 (wr x1).toNat) + x4) σ ) miX12_contentAt mlX12_83 (sB0 hW) rfl rfl (Nat.le_of_ble_eq_true rfl) (Nat.le_of_ble_eq_true rfl) (Nat.le_of_ble_eq_true rfl) rfl dX12_isSame_70 (fun q1 => ?_)
      refine a_aload_n hS dX12_isSame_73 rfl ?_
      refine a_aload_n hS dX12_isSame_74 rfl ?_
      refine a_getR hS (j := 4) dX12_isSame_75 flX12_20 (sB0 hW) rfl ?_
      refine a_iload_n hS dX12_isSame_78 rfl ?_
      refine a_iald hS dX12_isSame_79 (sB4 hW) ?_
      refine a_aload_n hS dX12_isSame_80 rfl ?_
      refine a_getR hS (j := 5) dX12_isSame_81 flX12_23 (sB0 hW) rfl ?_
      refine a_iload_n hS dX12_isSame_84 rfl ?_
      refine a_iald hS dX12_isSame_85 (sB5 hW) ?_
      refine a_iload hS dX12_isSame_86 rfl ?_
      refine a_iadd hS dX12_isSame_88 ?_
      refine a_callVi hS (rst := [iv q1.1]) (c_Md_contentAt hW (q1.2 4 (wr x2).toNat) ((q1.2 5 (wr x2).toNat) + x4) q1.2 ) miX12_contentAt mlX12_83 (sB0 hW) rfl rfl (Nat.le_of_ble_eq_true rfl) (Nat.le_of_ble_eq_true rfl) (Nat.le_of_ble_eq_true rfl) rfl dX12_isSame_89 (fun q2 => ?_)
      refine a_icmpne hS rfl rfl (tgt := 99) dX12_isSame_92 (by decide) ?_ ?_
      · refine a_iconst hS dX12_isSame_99 ?_
        refine a_istore_n hS (L' := [some (rf w 0), some (iv x1), some (iv x2), some (iv 0), some (iv x4)]) dX12_isSame_100 hN (Nat.le_of_ble_eq_true rfl) rfl rfl ?_
        refine a_iinc hS (L' := [some (rf w 0), some (iv x1), some (iv x2), some (iv 0), some (iv (x4 + 1))]) dX12_isSame_101 rfl hN (Nat.le_of_ble_eq_true rfl) rfl rfl ?_
        refine a_goto hS (tgt := 39) dX12_isSame_104 (by decide) ?_
        exact hr39 x1 x2 0 (x4 + 1) q2.2
      · refine a_iconst hS dX12_isSame_95 ?_
        refine a_goto hS (tgt := 100) dX12_isSame_96 (by decide) ?_
        refine a_istore_n hS (L' := [some (rf w 0), some (iv x1), some (iv x2), some (iv 1), some (iv x4)]) dX12_isSame_100 hN (Nat.le_of_ble_eq_true rfl) rfl rfl ?_
        refine a_iinc hS (L' := [some (rf w 0), some (iv x1), some (iv x2), some (iv 1), some (iv (x4 + 1))]) dX12_isSame_101 rfl hN (Nat.le_of_ble_eq_true rfl) rfl rfl ?_
        refine a_goto hS (tgt := 39) dX12_isSame_104 (by decide) ?_
        exact hr39 x1 x2 1 (x4 + 1) q2.2
set_option maxRecDepth 100000 in
set_option maxHeartbeats 4000000 in
theorem c_Md_isSame {l : Launch} {w : Wd} (hW : shp w = ShB) (a0 : Int) (a1 : Int) (σ : Mem)  : Ctr l w yX12_isSame cX12_isSame 5 (some .boolean) (rmN 1 22) 1 [rf w 0, iv a0, iv a1] σ (Md_isSame a0 a1 σ) := by
  refine met_of (own := RX12) (by decide) rfl rfl rfl (Nat.le_of_ble_eq_true rfl) (fun X x hXl hN hS => ⟨[some (rf w 0), some (iv a0), some (iv a1), none, none], ⟨2, rfl⟩, ?_⟩)
  subst hXl
  unfold Md_isSame
  refine a_aload_n hS dX12_isSame_0 rfl ?_
  refine a_getR hS (j := 7) dX12_isSame_1 flX12_29 (sB0 hW) rfl ?_
  refine a_iload_n hS dX12_isSame_4 rfl ?_
  refine a_iald hS dX12_isSame_5 (sB7 hW) ?_
  refine a_aload_n hS dX12_isSame_6 rfl ?_
  refine a_getR hS (j := 7) dX12_isSame_7 flX12_29 (sB0 hW) rfl ?_
  refine a_iload_n hS dX12_isSame_10 rfl ?_
  refine a_iald hS dX12_isSame_11 (sB7 hW) ?_
  refine a_icmpne hS rfl rfl (tgt := 34) dX12_isSame_12 (by decide) ?_ ?_
  · refine a_iconst hS dX12_isSame_34 ?_
    refine a_istore_n hS (L' := [some (rf w 0), some (iv a0), some (iv a1), some (iv 0), none]) dX12_isSame_35 hN (Nat.le_of_ble_eq_true rfl) rfl rfl ?_
    refine a_iconst hS dX12_isSame_36 ?_
    refine a_istore hS (L' := [some (rf w 0), some (iv a0), some (iv a1), some (iv 0), some (iv 0)]) dX12_isSame_37 hN (Nat.le_of_ble_eq_true rfl) rfl rfl ?_
    exact k_Md_isSame_39 hS hN hW   100000 a0 a1 0 0 σ
  · refine a_aload_n hS dX12_isSame_15 rfl ?_
    refine a_getR hS (j := 6) dX12_isSame_16 flX12_26 (sB0 hW) rfl ?_
    refine a_iload_n hS dX12_isSame_19 rfl ?_
    refine a_iald hS dX12_isSame_20 (sB6 hW) ?_
    refine a_aload_n hS dX12_isSame_21 rfl ?_
    refine a_getR hS (j := 6) dX12_isSame_22 flX12_26 (sB0 hW) rfl ?_
    refine a_iload_n hS dX12_isSame_25 rfl ?_
    refine a_iald hS dX12_isSame_26 (sB6 hW) ?_
    refine a_icmpne hS rfl rfl (tgt := 34) dX12_isSame_27 (by decide) ?_ ?_
    · refine a_iconst hS dX12_isSame_34 ?_
      refine a_istore_n hS (L' := [some (rf w 0), some (iv a0), some (iv a1), some (iv 0), none]) dX12_isSame_35 hN (Nat.le_of_ble_eq_true rfl) rfl rfl ?_
      refine a_iconst hS dX12_isSame_36 ?_
      refine a_istore hS (L' := [some (rf w 0), some (iv a0), some (iv a1), some (iv 0), some (iv 0)]) dX12_isSame_37 hN (Nat.le_of_ble_eq_true rfl) rfl rfl ?_
      exact k_Md_isSame_39 hS hN hW   100000 a0 a1 0 0 σ
    · refine a_iconst hS dX12_isSame_30 ?_
      refine a_goto hS (tgt := 35) dX12_isSame_31 (by decide) ?_
      refine a_istore_n hS (L' := [some (rf w 0), some (iv a0), some (iv a1), some (iv 1), none]) dX12_isSame_35 hN (Nat.le_of_ble_eq_true rfl) rfl rfl ?_
      refine a_iconst hS dX12_isSame_36 ?_
      refine a_istore hS (L' := [some (rf w 0), some (iv a0), some (iv a1), some (iv 1), some (iv 0)]) dX12_isSame_37 hN (Nat.le_of_ble_eq_true rfl) rfl rfl ?_
      exact k_Md_isSame_39 hS hN hW   100000 a0 a1 1 0 σ
noncomputable def Md_isFirst_18b   (r18 : Int → Int → Int → Mem → Option (Int × Mem)) (x1 : Int) (x2 : Int) (x3 : Int) (σ : Mem) : Option (Int × Mem) := if wr x3 < wr x1 then (if wr x2 = 0 then (if x2 = 0 ∨ x2 = 1 then some (x2, σ) else none) else ((Md_isSame x1 x3 σ).bind fun q1 => if wr q1.1 = 0 then (r18 x1 1 (x3 + 1) q1.2) else (r18 x1 0 (x3 + 1) q1.2))) else (if x2 = 0 ∨ x2 = 1 then some (x2, σ) else none)
noncomputable def Md_isFirst_18   (n : Nat) : Int → Int → Int → Mem → Option (Int × Mem) := fixN (fun _ _ _ _ => none) (Md_isFirst_18b  ) n
noncomputable def Md_isFirst (a0 : Int) (σ : Mem) : Option (Int × Mem) := if 0 ≤ wr a0 ∧ wr a0 < (641 : Int) then (if wr (σ 7 (wr a0).toNat) < 2 then (Md_isFirst_18 100000 a0 1 0 σ) else (Md_isFirst_18 100000 a0 0 0 σ)) else none
set_option maxRecDepth 100000 in
set_option maxHeartbeats 4000000 in
theorem k_Md_isFirst_18 {X : Cx} {w : Wd} {x : Int × Mem} (hS : Std X (rmN 2 46) w cX12_isFirst RX12 (some .boolean)) (hN : cxn X = 4) (hW : shp w = ShB)   : ∀ (n : Nat) (x1 : Int) (x2 : Int) (x3 : Int) (σ : Mem), Sm X (rmN 2 46) w 1 x 18 [some (rf w 0), some (iv x1), some (iv x2), some (iv x3)] [] σ (Md_isFirst_18   n x1 x2 x3 σ) := by
  refine fix_ok (P := fun (r18 : Int → Int → Int → Mem → Option (Int × Mem)) => ∀ (x1 : Int) (x2 : Int) (x3 : Int) (σ : Mem), Sm X (rmN 2 46) w 1 x 18 [some (rf w 0), some (iv x1), some (iv x2), some (iv x3)] [] σ (r18 x1 x2 x3 σ)) (fun _ _ _ _ => a_none) (fun r18 hr18 => ?_)
  intro x1 x2 x3 σ
  unfold Md_isFirst_18b
  refine a_iload_n hS dX12_isFirst_18 rfl ?_
  refine a_iload_n hS dX12_isFirst_19 rfl ?_
  refine a_icmpge hS rfl rfl (tgt := 48) dX12_isFirst_20 (by decide) ?_ ?_
  · refine a_iload_n hS dX12_isFirst_48 rfl ?_
    exact a_zretv hS rfl rfl dX12_isFirst_49
  · refine a_iload_n hS dX12_isFirst_23 rfl ?_
    refine a_ifeq hS rfl  (tgt := 48) dX12_isFirst_24 (by decide) ?_ ?_
    · refine a_iload_n hS dX12_isFirst_48 rfl ?_
      exact a_zretv hS rfl rfl dX12_isFirst_49
    · refine a_aload_n hS dX12_isFirst_27 rfl ?_
      refine a_iload_n hS dX12_isFirst_28 rfl ?_
      refine a_iload_n hS dX12_isFirst_29 rfl ?_
      refine a_callVi hS (rst := []) (c_Md_isSame hW x1 x3 σ ) miX12_isSame mlX12_286 (sB0 hW) rfl rfl (Nat.le_of_ble_eq_true rfl) (Nat.le_of_ble_eq_true rfl) (Nat.le_of_ble_eq_true rfl) rfl dX12_isFirst_30 (fun q1 => ?_)
      refine a_ifne hS rfl  (tgt := 40) dX12_isFirst_33 (by decide) ?_ ?_
      · refine a_iconst hS dX12_isFirst_40 ?_
        refine a_istore_n hS (L' := [some (rf w 0), some (iv x1), some (iv 0), some (iv x3)]) dX12_isFirst_41 hN (Nat.le_of_ble_eq_true rfl) rfl rfl ?_
        refine a_iinc hS (L' := [some (rf w 0), some (iv x1), some (iv 0), some (iv (x3 + 1))]) dX12_isFirst_42 rfl hN (Nat.le_of_ble_eq_true rfl) rfl rfl ?_
        refine a_goto hS (tgt := 18) dX12_isFirst_45 (by decide) ?_
        exact hr18 x1 0 (x3 + 1) q1.2
      · refine a_iconst hS dX12_isFirst_36 ?_
        refine a_goto hS (tgt := 41) dX12_isFirst_37 (by decide) ?_
        refine a_istore_n hS (L' := [some (rf w 0), some (iv x1), some (iv 1), some (iv x3)]) dX12_isFirst_41 hN (Nat.le_of_ble_eq_true rfl) rfl rfl ?_
        refine a_iinc hS (L' := [some (rf w 0), some (iv x1), some (iv 1), some (iv (x3 + 1))]) dX12_isFirst_42 rfl hN (Nat.le_of_ble_eq_true rfl) rfl rfl ?_
        refine a_goto hS (tgt := 18) dX12_isFirst_45 (by decide) ?_
        exact hr18 x1 1 (x3 + 1) q1.2
set_option maxRecDepth 100000 in
set_option maxHeartbeats 4000000 in
theorem c_Md_isFirst {l : Launch} {w : Wd} (hW : shp w = ShB) (a0 : Int) (σ : Mem)  : Ctr l w yX12_isFirst cX12_isFirst 4 (some .boolean) (rmN 2 46) 1 [rf w 0, iv a0] σ (Md_isFirst a0 σ) := by
  refine met_of (own := RX12) (by decide) rfl rfl rfl (Nat.le_of_ble_eq_true rfl) (fun X x hXl hN hS => ⟨[some (rf w 0), some (iv a0), none, none], ⟨2, rfl⟩, ?_⟩)
  subst hXl
  unfold Md_isFirst
  refine a_aload_n hS dX12_isFirst_0 rfl ?_
  refine a_getR hS (j := 7) dX12_isFirst_1 flX12_29 (sB0 hW) rfl ?_
  refine a_iload_n hS dX12_isFirst_4 rfl ?_
  refine a_iald hS dX12_isFirst_5 (sB7 hW) ?_
  refine a_iconst hS dX12_isFirst_6 ?_
  refine a_icmpge hS rfl (wl 2 rfl) (tgt := 14) dX12_isFirst_7 (by decide) ?_ ?_
  · refine a_iconst hS dX12_isFirst_14 ?_
    refine a_istore_n hS (L' := [some (rf w 0), some (iv a0), some (iv 0), none]) dX12_isFirst_15 hN (Nat.le_of_ble_eq_true rfl) rfl rfl ?_
    refine a_iconst hS dX12_isFirst_16 ?_
    refine a_istore_n hS (L' := [some (rf w 0), some (iv a0), some (iv 0), some (iv 0)]) dX12_isFirst_17 hN (Nat.le_of_ble_eq_true rfl) rfl rfl ?_
    exact k_Md_isFirst_18 hS hN hW   100000 a0 0 0 σ
  · refine a_iconst hS dX12_isFirst_10 ?_
    refine a_goto hS (tgt := 15) dX12_isFirst_11 (by decide) ?_
    refine a_istore_n hS (L' := [some (rf w 0), some (iv a0), some (iv 1), none]) dX12_isFirst_15 hN (Nat.le_of_ble_eq_true rfl) rfl rfl ?_
    refine a_iconst hS dX12_isFirst_16 ?_
    refine a_istore_n hS (L' := [some (rf w 0), some (iv a0), some (iv 1), some (iv 0)]) dX12_isFirst_17 hN (Nat.le_of_ble_eq_true rfl) rfl rfl ?_
    exact k_Md_isFirst_18 hS hN hW   100000 a0 1 0 σ
noncomputable def Md_vocabulary_8b   (r8 : Int → Int → Mem → Option (Int × Mem)) (x1 : Int) (x2 : Int) (σ : Mem) : Option (Int × Mem) := if wr x2 < wr (σ 0 12) then ((Md_isFirst x2 σ).bind fun q2 => if wr q2.1 = 0 then (r8 (x1 + 0) (x2 + 1) q2.2) else (r8 (x1 + 1) (x2 + 1) q2.2)) else (some (x1, σ))
noncomputable def Md_vocabulary_8   (n : Nat) : Int → Int → Mem → Option (Int × Mem) := fixN (fun _ _ _ => none) (Md_vocabulary_8b  ) n
noncomputable def Md_vocabulary  (σ : Mem) : Option (Int × Mem) := (Md_tokenizes  σ).bind fun q1 => Md_vocabulary_8 100000 0 0 q1.2
set_option maxRecDepth 100000 in
set_option maxHeartbeats 4000000 in
theorem k_Md_vocabulary_8 {X : Cx} {w : Wd} {x : Int × Mem} (hS : Std X (rmN 5 115) w cX12_vocabulary RX12 (some .int)) (hN : cxn X = 3) (hW : shp w = ShB)   : ∀ (n : Nat) (x1 : Int) (x2 : Int) (σ : Mem), Sm X (rmN 5 115) w 1 x 8 [some (rf w 0), some (iv x1), some (iv x2)] [] σ (Md_vocabulary_8   n x1 x2 σ) := by
  refine fix_ok (P := fun (r8 : Int → Int → Mem → Option (Int × Mem)) => ∀ (x1 : Int) (x2 : Int) (σ : Mem), Sm X (rmN 5 115) w 1 x 8 [some (rf w 0), some (iv x1), some (iv x2)] [] σ (r8 x1 x2 σ)) (fun _ _ _ => a_none) (fun r8 hr8 => ?_)
  intro x1 x2 σ
  unfold Md_vocabulary_8b
  refine a_iload_n hS dX12_vocabulary_8 rfl ?_
  refine a_aload_n hS dX12_vocabulary_9 rfl ?_
  refine a_getI hS dX12_vocabulary_10 flX12_98 (sB0 hW) rfl ?_
  refine a_icmpge hS rfl rfl (tgt := 38) dX12_vocabulary_13 (by decide) ?_ ?_
  · refine a_iload_n hS dX12_vocabulary_38 rfl ?_
    exact a_iret hS rfl rfl dX12_vocabulary_39
  · refine a_iload_n hS dX12_vocabulary_16 rfl ?_
    refine a_aload_n hS dX12_vocabulary_17 rfl ?_
    refine a_iload_n hS dX12_vocabulary_18 rfl ?_
    refine a_callVi hS (rst := [iv x1]) (c_Md_isFirst hW x2 σ ) miX12_isFirst mlX12_289 (sB0 hW) rfl rfl (Nat.le_of_ble_eq_true rfl) (Nat.le_of_ble_eq_true rfl) (Nat.le_of_ble_eq_true rfl) rfl dX12_vocabulary_19 (fun q2 => ?_)
    refine a_ifeq hS rfl  (tgt := 29) dX12_vocabulary_22 (by decide) ?_ ?_
    · refine a_iconst hS dX12_vocabulary_29 ?_
      refine a_iadd hS dX12_vocabulary_30 ?_
      refine a_istore_n hS (L' := [some (rf w 0), some (iv (x1 + 0)), some (iv x2)]) dX12_vocabulary_31 hN (Nat.le_of_ble_eq_true rfl) rfl rfl ?_
      refine a_iinc hS (L' := [some (rf w 0), some (iv (x1 + 0)), some (iv (x2 + 1))]) dX12_vocabulary_32 rfl hN (Nat.le_of_ble_eq_true rfl) rfl rfl ?_
      refine a_goto hS (tgt := 8) dX12_vocabulary_35 (by decide) ?_
      exact hr8 (x1 + 0) (x2 + 1) q2.2
    · refine a_iconst hS dX12_vocabulary_25 ?_
      refine a_goto hS (tgt := 30) dX12_vocabulary_26 (by decide) ?_
      refine a_iadd hS dX12_vocabulary_30 ?_
      refine a_istore_n hS (L' := [some (rf w 0), some (iv (x1 + 1)), some (iv x2)]) dX12_vocabulary_31 hN (Nat.le_of_ble_eq_true rfl) rfl rfl ?_
      refine a_iinc hS (L' := [some (rf w 0), some (iv (x1 + 1)), some (iv (x2 + 1))]) dX12_vocabulary_32 rfl hN (Nat.le_of_ble_eq_true rfl) rfl rfl ?_
      refine a_goto hS (tgt := 8) dX12_vocabulary_35 (by decide) ?_
      exact hr8 (x1 + 1) (x2 + 1) q2.2
set_option maxRecDepth 100000 in
set_option maxHeartbeats 4000000 in
theorem c_Md_vocabulary {l : Launch} {w : Wd} (hW : shp w = ShB)  (σ : Mem)  : Ctr l w yX12_vocabulary cX12_vocabulary 3 (some .int) (rmN 5 115) 1 [rf w 0] σ (Md_vocabulary  σ) := by
  refine met_of (own := RX12) (by decide) rfl rfl rfl (Nat.le_of_ble_eq_true rfl) (fun X x hXl hN hS => ⟨[some (rf w 0), none, none], ⟨2, rfl⟩, ?_⟩)
  subst hXl
  unfold Md_vocabulary
  refine a_aload_n hS dX12_vocabulary_0 rfl ?_
  refine a_callVv hS (rst := []) (c_Md_tokenizes hW  σ ) miX12_tokenizes mlX12_138 (sB0 hW) rfl rfl (Nat.le_of_ble_eq_true rfl) (Nat.le_of_ble_eq_true rfl) (Nat.le_of_ble_eq_true rfl) rfl dX12_vocabulary_1 (fun q1 => ?_)
  refine a_iconst hS dX12_vocabulary_4 ?_
  refine a_istore_n hS (L' := [some (rf w 0), some (iv 0), none]) dX12_vocabulary_5 hN (Nat.le_of_ble_eq_true rfl) rfl rfl ?_
  refine a_iconst hS dX12_vocabulary_6 ?_
  refine a_istore_n hS (L' := [some (rf w 0), some (iv 0), some (iv 0)]) dX12_vocabulary_7 hN (Nat.le_of_ble_eq_true rfl) rfl rfl ?_
  exact k_Md_vocabulary_8 hS hN hW   100000 0 0 q1.2
noncomputable def Md_commonest_81 (r14 : Int → Int → Mem → Option (Int × Mem))  (x2 : Int) (x3 : Int) (y0 : Int) (σ : Mem) : Option (Int × Mem) := if wr (σ 0 36) < wr x3 then (letM (upM σ 0 36 x3) fun s6 => r14 y0 (x2 + 1) s6) else (letM (upM σ 0 36 (σ 0 36)) fun s5 => r14 y0 (x2 + 1) s5)
noncomputable def Md_commonest_35b (r14 : Int → Int → Mem → Option (Int × Mem))  (r35 : Int → Int → Int → Int → Mem → Option (Int × Mem)) (x1 : Int) (x2 : Int) (x3 : Int) (x4 : Int) (σ : Mem) : Option (Int × Mem) := if wr x4 < wr (σ 0 12) then ((Md_isSame x2 x4 σ).bind fun q4 => if wr q4.1 = 0 then (r35 x1 x2 (x3 + 0) (x4 + 1) q4.2) else (r35 x1 x2 (x3 + 1) (x4 + 1) q4.2)) else (if wr (σ 0 36) < wr x3 then (Md_commonest_81 r14 x2 x3 x2 σ) else (Md_commonest_81 r14 x2 x3 x1 σ))
noncomputable def Md_commonest_35 (r14 : Int → Int → Mem → Option (Int × Mem))  (n : Nat) : Int → Int → Int → Int → Mem → Option (Int × Mem) := fixN (fun _ _ _ _ _ => none) (Md_commonest_35b r14 ) n
noncomputable def Md_commonest_14b   (r14 : Int → Int → Mem → Option (Int × Mem)) (x1 : Int) (x2 : Int) (σ : Mem) : Option (Int × Mem) := if wr x2 < wr (σ 0 12) then ((Md_isFirst x2 σ).bind fun q3 => if wr q3.1 = 0 then (if wr (q3.2 0 36) < 0 then (Md_commonest_81 r14 x2 0 x2 q3.2) else (Md_commonest_81 r14 x2 0 x1 q3.2)) else (Md_commonest_35 r14 100000 x1 x2 0 x2 q3.2)) else (some (x1, σ))
noncomputable def Md_commonest_14   (n : Nat) : Int → Int → Mem → Option (Int × Mem) := fixN (fun _ _ _ => none) (Md_commonest_14b  ) n
noncomputable def Md_commonest  (σ : Mem) : Option (Int × Mem) := (Md_tokenizes  σ).bind fun q1 => letM (upM q1.2 0 36 0) fun s2 => Md_commonest_14 100000 (-9) 0 s2
set_option maxRecDepth 100000 in
set_option maxHeartbeats 4000000 in
theorem k_Md_commonest_81 {X : Cx} {w : Wd} {x : Int × Mem} (hS : Std X (rmN 5 115) w cX12_commonest RX12 (some .int)) (hN : cxn X = 5) (hW : shp w = ShB)  (r14 : Int → Int → Mem → Option (Int × Mem)) (hr14 : ∀ (x1 : Int) (x2 : Int) (σ : Mem), Sm X (rmN 5 115) w 1 x 14 [some (rf w 0), some (iv x1), some (iv x2), none, none] [] σ (r14 x1 x2 σ)) : ∀ (x2 : Int) (x3 : Int) (y0 : Int) (σ : Mem), Sm X (rmN 5 115) w 1 x 81 [some (rf w 0), none, some (iv x2), some (iv x3), none] [iv y0] σ (Md_commonest_81 r14  x2 x3 y0 σ) := by
  intro x2 x3 y0 σ
  unfold Md_commonest_81
  refine a_istore_n hS (L' := [some (rf w 0), some (iv y0), some (iv x2), some (iv x3), none]) dX12_commonest_81 hN (Nat.le_of_ble_eq_true rfl) rfl rfl ?_
  refine a_aload_n hS dX12_commonest_82 rfl ?_
  refine a_iload_n hS dX12_commonest_83 rfl ?_
  refine a_aload_n hS dX12_commonest_84 rfl ?_
  refine a_getI hS dX12_commonest_85 flX12_292 (sB0 hW) rfl ?_
  refine a_icmple hS rfl rfl (tgt := 95) dX12_commonest_88 (by decide) ?_ ?_
  · refine a_aload_n hS dX12_commonest_95 rfl ?_
    refine a_getI hS dX12_commonest_96 flX12_292 (sB0 hW) rfl ?_
    refine a_putI hS dX12_commonest_99 plX12_292 (sB0 hW) rfl ?_
    refine a_letM (fun s5 => ?_)
    refine a_iinc hS (L' := [some (rf w 0), some (iv y0), some (iv (x2 + 1)), some (iv x3), none]) dX12_commonest_102 rfl hN (Nat.le_of_ble_eq_true rfl) rfl rfl ?_
    refine a_goto hS (tgt := 14) dX12_commonest_105 (by decide) ?_
    exact a_live (M := [true, true, true, false, false]) (hr14 y0 (x2 + 1) s5) rfl
  · refine a_iload_n hS dX12_commonest_91 rfl ?_
    refine a_goto hS (tgt := 99) dX12_commonest_92 (by decide) ?_
    refine a_putI hS dX12_commonest_99 plX12_292 (sB0 hW) rfl ?_
    refine a_letM (fun s6 => ?_)
    refine a_iinc hS (L' := [some (rf w 0), some (iv y0), some (iv (x2 + 1)), some (iv x3), none]) dX12_commonest_102 rfl hN (Nat.le_of_ble_eq_true rfl) rfl rfl ?_
    refine a_goto hS (tgt := 14) dX12_commonest_105 (by decide) ?_
    exact a_live (M := [true, true, true, false, false]) (hr14 y0 (x2 + 1) s6) rfl
set_option maxRecDepth 100000 in
set_option maxHeartbeats 4000000 in
theorem k_Md_commonest_35 {X : Cx} {w : Wd} {x : Int × Mem} (hS : Std X (rmN 5 115) w cX12_commonest RX12 (some .int)) (hN : cxn X = 5) (hW : shp w = ShB)  (r14 : Int → Int → Mem → Option (Int × Mem)) (hr14 : ∀ (x1 : Int) (x2 : Int) (σ : Mem), Sm X (rmN 5 115) w 1 x 14 [some (rf w 0), some (iv x1), some (iv x2), none, none] [] σ (r14 x1 x2 σ)) : ∀ (n : Nat) (x1 : Int) (x2 : Int) (x3 : Int) (x4 : Int) (σ : Mem), Sm X (rmN 5 115) w 1 x 35 [some (rf w 0), some (iv x1), some (iv x2), some (iv x3), some (iv x4)] [] σ (Md_commonest_35 r14  n x1 x2 x3 x4 σ) := by
  refine fix_ok (P := fun (r35 : Int → Int → Int → Int → Mem → Option (Int × Mem)) => ∀ (x1 : Int) (x2 : Int) (x3 : Int) (x4 : Int) (σ : Mem), Sm X (rmN 5 115) w 1 x 35 [some (rf w 0), some (iv x1), some (iv x2), some (iv x3), some (iv x4)] [] σ (r35 x1 x2 x3 x4 σ)) (fun _ _ _ _ _ => a_none) (fun r35 hr35 => ?_)
  intro x1 x2 x3 x4 σ
  unfold Md_commonest_35b
  refine a_iload hS dX12_commonest_35 rfl ?_
  refine a_aload_n hS dX12_commonest_37 rfl ?_
  refine a_getI hS dX12_commonest_38 flX12_98 (sB0 hW) rfl ?_
  refine a_icmpge hS rfl rfl (tgt := 68) dX12_commonest_41 (by decide) ?_ ?_
  · refine a_iload_n hS dX12_commonest_68 rfl ?_
    refine a_aload_n hS dX12_commonest_69 rfl ?_
    refine a_getI hS dX12_commonest_70 flX12_292 (sB0 hW) rfl ?_
    refine a_icmple hS rfl rfl (tgt := 80) dX12_commonest_73 (by decide) ?_ ?_
    · refine a_iload_n hS dX12_commonest_80 rfl ?_
      exact a_live (M := [true, false, true, true, false]) (k_Md_commonest_81 hS hN hW  r14 hr14 x2 x3 x1 σ) rfl
    · refine a_iload_n hS dX12_commonest_76 rfl ?_
      refine a_goto hS (tgt := 81) dX12_commonest_77 (by decide) ?_
      exact a_live (M := [true, false, true, true, false]) (k_Md_commonest_81 hS hN hW  r14 hr14 x2 x3 x2 σ) rfl
  · refine a_iload_n hS dX12_commonest_44 rfl ?_
    refine a_aload_n hS dX12_commonest_45 rfl ?_
    refine a_iload_n hS dX12_commonest_46 rfl ?_
    refine a_iload hS dX12_commonest_47 rfl ?_
    refine a_callVi hS (rst := [iv x3]) (c_Md_isSame hW x2 x4 σ ) miX12_isSame mlX12_286 (sB0 hW) rfl rfl (Nat.le_of_ble_eq_true rfl) (Nat.le_of_ble_eq_true rfl) (Nat.le_of_ble_eq_true rfl) rfl dX12_commonest_49 (fun q4 => ?_)
    refine a_ifeq hS rfl  (tgt := 59) dX12_commonest_52 (by decide) ?_ ?_
    · refine a_iconst hS dX12_commonest_59 ?_
      refine a_iadd hS dX12_commonest_60 ?_
      refine a_istore_n hS (L' := [some (rf w 0), some (iv x1), some (iv x2), some (iv (x3 + 0)), some (iv x4)]) dX12_commonest_61 hN (Nat.le_of_ble_eq_true rfl) rfl rfl ?_
      refine a_iinc hS (L' := [some (rf w 0), some (iv x1), some (iv x2), some (iv (x3 + 0)), some (iv (x4 + 1))]) dX12_commonest_62 rfl hN (Nat.le_of_ble_eq_true rfl) rfl rfl ?_
      refine a_goto hS (tgt := 35) dX12_commonest_65 (by decide) ?_
      exact hr35 x1 x2 (x3 + 0) (x4 + 1) q4.2
    · refine a_iconst hS dX12_commonest_55 ?_
      refine a_goto hS (tgt := 60) dX12_commonest_56 (by decide) ?_
      refine a_iadd hS dX12_commonest_60 ?_
      refine a_istore_n hS (L' := [some (rf w 0), some (iv x1), some (iv x2), some (iv (x3 + 1)), some (iv x4)]) dX12_commonest_61 hN (Nat.le_of_ble_eq_true rfl) rfl rfl ?_
      refine a_iinc hS (L' := [some (rf w 0), some (iv x1), some (iv x2), some (iv (x3 + 1)), some (iv (x4 + 1))]) dX12_commonest_62 rfl hN (Nat.le_of_ble_eq_true rfl) rfl rfl ?_
      refine a_goto hS (tgt := 35) dX12_commonest_65 (by decide) ?_
      exact hr35 x1 x2 (x3 + 1) (x4 + 1) q4.2
set_option maxRecDepth 100000 in
set_option maxHeartbeats 4000000 in
theorem k_Md_commonest_14 {X : Cx} {w : Wd} {x : Int × Mem} (hS : Std X (rmN 5 115) w cX12_commonest RX12 (some .int)) (hN : cxn X = 5) (hW : shp w = ShB)   : ∀ (n : Nat) (x1 : Int) (x2 : Int) (σ : Mem), Sm X (rmN 5 115) w 1 x 14 [some (rf w 0), some (iv x1), some (iv x2), none, none] [] σ (Md_commonest_14   n x1 x2 σ) := by
  refine fix_ok (P := fun (r14 : Int → Int → Mem → Option (Int × Mem)) => ∀ (x1 : Int) (x2 : Int) (σ : Mem), Sm X (rmN 5 115) w 1 x 14 [some (rf w 0), some (iv x1), some (iv x2), none, none] [] σ (r14 x1 x2 σ)) (fun _ _ _ => a_none) (fun r14 hr14 => ?_)
  intro x1 x2 σ
  unfold Md_commonest_14b
  refine a_iload_n hS dX12_commonest_14 rfl ?_
  refine a_aload_n hS dX12_commonest_15 rfl ?_
  refine a_getI hS dX12_commonest_16 flX12_98 (sB0 hW) rfl ?_
  refine a_icmpge hS rfl rfl (tgt := 108) dX12_commonest_19 (by decide) ?_ ?_
  · refine a_iload_n hS dX12_commonest_108 rfl ?_
    exact a_iret hS rfl rfl dX12_commonest_109
  · refine a_iconst hS dX12_commonest_22 ?_
    refine a_istore_n hS (L' := [some (rf w 0), some (iv x1), some (iv x2), some (iv 0), none]) dX12_commonest_23 hN (Nat.le_of_ble_eq_true rfl) rfl rfl ?_
    refine a_aload_n hS dX12_commonest_24 rfl ?_
    refine a_iload_n hS dX12_commonest_25 rfl ?_
    refine a_callVi hS (rst := []) (c_Md_isFirst hW x2 σ ) miX12_isFirst mlX12_289 (sB0 hW) rfl rfl (Nat.le_of_ble_eq_true rfl) (Nat.le_of_ble_eq_true rfl) (Nat.le_of_ble_eq_true rfl) rfl dX12_commonest_26 (fun q3 => ?_)
    refine a_ifeq hS rfl  (tgt := 68) dX12_commonest_29 (by decide) ?_ ?_
    · refine a_iload_n hS dX12_commonest_68 rfl ?_
      refine a_aload_n hS dX12_commonest_69 rfl ?_
      refine a_getI hS dX12_commonest_70 flX12_292 (sB0 hW) rfl ?_
      refine a_icmple hS (wl 0 rfl) rfl (tgt := 80) dX12_commonest_73 (by decide) ?_ ?_
      · refine a_iload_n hS dX12_commonest_80 rfl ?_
        exact a_live (M := [true, false, true, true, false]) (k_Md_commonest_81 hS hN hW  r14 hr14 x2 0 x1 q3.2) rfl
      · refine a_iload_n hS dX12_commonest_76 rfl ?_
        refine a_goto hS (tgt := 81) dX12_commonest_77 (by decide) ?_
        exact a_live (M := [true, false, true, true, false]) (k_Md_commonest_81 hS hN hW  r14 hr14 x2 0 x2 q3.2) rfl
    · refine a_iload_n hS dX12_commonest_32 rfl ?_
      refine a_istore hS (L' := [some (rf w 0), some (iv x1), some (iv x2), some (iv 0), some (iv x2)]) dX12_commonest_33 hN (Nat.le_of_ble_eq_true rfl) rfl rfl ?_
      exact k_Md_commonest_35 hS hN hW  r14 hr14 100000 x1 x2 0 x2 q3.2
set_option maxRecDepth 100000 in
set_option maxHeartbeats 4000000 in
theorem c_Md_commonest {l : Launch} {w : Wd} (hW : shp w = ShB)  (σ : Mem)  : Ctr l w yX12_commonest cX12_commonest 5 (some .int) (rmN 5 115) 1 [rf w 0] σ (Md_commonest  σ) := by
  refine met_of (own := RX12) (by decide) rfl rfl rfl (Nat.le_of_ble_eq_true rfl) (fun X x hXl hN hS => ⟨[some (rf w 0), none, none, none, none], ⟨4, rfl⟩, ?_⟩)
  subst hXl
  unfold Md_commonest
  refine a_aload_n hS dX12_commonest_0 rfl ?_
  refine a_callVv hS (rst := []) (c_Md_tokenizes hW  σ ) miX12_tokenizes mlX12_138 (sB0 hW) rfl rfl (Nat.le_of_ble_eq_true rfl) (Nat.le_of_ble_eq_true rfl) (Nat.le_of_ble_eq_true rfl) rfl dX12_commonest_1 (fun q1 => ?_)
  refine a_bipush hS dX12_commonest_4 rfl ?_
  refine a_istore_n hS (L' := [some (rf w 0), some (iv (-9)), none, none, none]) dX12_commonest_6 hN (Nat.le_of_ble_eq_true rfl) rfl rfl ?_
  refine a_aload_n hS dX12_commonest_7 rfl ?_
  refine a_iconst hS dX12_commonest_8 ?_
  refine a_putI hS dX12_commonest_9 plX12_292 (sB0 hW) rfl ?_
  refine a_letM (fun s2 => ?_)
  refine a_iconst hS dX12_commonest_12 ?_
  refine a_istore_n hS (L' := [some (rf w 0), some (iv (-9)), some (iv 0), none, none]) dX12_commonest_13 hN (Nat.le_of_ble_eq_true rfl) rfl rfl ?_
  exact k_Md_commonest_14 hS hN hW   100000 (-9) 0 s2
noncomputable def Md_commonestCount  (σ : Mem) : Option (Int × Mem) := (Md_commonest  σ).bind fun q1 => if wr q1.1 = (-9) then (some ((-9), q1.2)) else (some ((q1.2 0 36), q1.2))
set_option maxRecDepth 100000 in
set_option maxHeartbeats 4000000 in
theorem c_Md_commonestCount {l : Launch} {w : Wd} (hW : shp w = ShB)  (σ : Mem)  : Ctr l w yX12_commonestCount cX12_commonestCount 1 (some .int) (rmN 6 139) 1 [rf w 0] σ (Md_commonestCount  σ) := by
  refine met_of (own := RX12) (by decide) rfl rfl rfl (Nat.le_of_ble_eq_true rfl) (fun X x hXl hN hS => ⟨[some (rf w 0)], ⟨0, rfl⟩, ?_⟩)
  subst hXl
  unfold Md_commonestCount
  refine a_aload_n hS dX12_commonestCount_0 rfl ?_
  refine a_callVi hS (rst := []) (c_Md_commonest hW  σ ) miX12_commonest mlX12_295 (sB0 hW) rfl rfl (Nat.le_of_ble_eq_true rfl) (Nat.le_of_ble_eq_true rfl) (Nat.le_of_ble_eq_true rfl) rfl dX12_commonestCount_1 (fun q1 => ?_)
  refine a_bipush hS dX12_commonestCount_4 rfl ?_
  refine a_icmpne hS rfl (wl (-9) rfl) (tgt := 14) dX12_commonestCount_6 (by decide) ?_ ?_
  · refine a_aload_n hS dX12_commonestCount_14 rfl ?_
    refine a_getI hS dX12_commonestCount_15 flX12_292 (sB0 hW) rfl ?_
    exact a_iret hS rfl rfl dX12_commonestCount_18
  · refine a_bipush hS dX12_commonestCount_9 rfl ?_
    refine a_goto hS (tgt := 18) dX12_commonestCount_11 (by decide) ?_
    exact a_iret hS rfl rfl dX12_commonestCount_18
noncomputable def Md_commonestByte (a0 : Int) (σ : Mem) : Option (Int × Mem) := if wr a0 < 0 then (some ((-1), σ)) else ((Md_commonest  σ).bind fun q1 => if wr q1.1 = (-9) then (some ((-9), q1.2)) else (if 0 ≤ wr q1.1 ∧ wr q1.1 < (641 : Int) then (if wr a0 < wr (q1.2 6 (wr q1.1).toNat) then (if 0 ≤ wr q1.1 ∧ wr q1.1 < (641 : Int) then (if 0 ≤ wr q1.1 ∧ wr q1.1 < (641 : Int) then ((Md_contentAt (q1.2 4 (wr q1.1).toNat) ((q1.2 5 (wr q1.1).toNat) + a0) q1.2).bind fun q2 => some (q2.1, q2.2)) else none) else none) else (some ((-9), q1.2))) else none))
set_option maxRecDepth 100000 in
set_option maxHeartbeats 4000000 in
theorem c_Md_commonestByte {l : Launch} {w : Wd} (hW : shp w = ShB) (a0 : Int) (σ : Mem)  : Ctr l w yX12_commonestByte cX12_commonestByte 3 (some .int) (rmN 6 139) 1 [rf w 0, iv a0] σ (Md_commonestByte a0 σ) := by
  refine met_of (own := RX12) (by decide) rfl rfl rfl (Nat.le_of_ble_eq_true rfl) (fun X x hXl hN hS => ⟨[some (rf w 0), some (iv a0), none], ⟨1, rfl⟩, ?_⟩)
  subst hXl
  unfold Md_commonestByte
  refine a_iload_n hS dX12_commonestByte_0 rfl ?_
  refine a_ifge hS rfl  (tgt := 6) dX12_commonestByte_1 (by decide) ?_ ?_
  · refine a_aload_n hS dX12_commonestByte_6 rfl ?_
    refine a_callVi hS (rst := []) (c_Md_commonest hW  σ ) miX12_commonest mlX12_295 (sB0 hW) rfl rfl (Nat.le_of_ble_eq_true rfl) (Nat.le_of_ble_eq_true rfl) (Nat.le_of_ble_eq_true rfl) rfl dX12_commonestByte_7 (fun q1 => ?_)
    refine a_istore_n hS (L' := [some (rf w 0), some (iv a0), some (iv q1.1)]) dX12_commonestByte_10 hN (Nat.le_of_ble_eq_true rfl) rfl rfl ?_
    refine a_iload_n hS dX12_commonestByte_11 rfl ?_
    refine a_bipush hS dX12_commonestByte_12 rfl ?_
    refine a_icmpeq hS rfl (wl (-9) rfl) (tgt := 27) dX12_commonestByte_14 (by decide) ?_ ?_
    · refine a_bipush hS dX12_commonestByte_27 rfl ?_
      refine a_goto hS (tgt := 50) dX12_commonestByte_29 (by decide) ?_
      exact a_iret hS rfl rfl dX12_commonestByte_50
    · refine a_iload_n hS dX12_commonestByte_17 rfl ?_
      refine a_aload_n hS dX12_commonestByte_18 rfl ?_
      refine a_getR hS (j := 6) dX12_commonestByte_19 flX12_26 (sB0 hW) rfl ?_
      refine a_iload_n hS dX12_commonestByte_22 rfl ?_
      refine a_iald hS dX12_commonestByte_23 (sB6 hW) ?_
      refine a_icmplt hS rfl rfl (tgt := 32) dX12_commonestByte_24 (by decide) ?_ ?_
      · refine a_aload_n hS dX12_commonestByte_32 rfl ?_
        refine a_aload_n hS dX12_commonestByte_33 rfl ?_
        refine a_getR hS (j := 4) dX12_commonestByte_34 flX12_20 (sB0 hW) rfl ?_
        refine a_iload_n hS dX12_commonestByte_37 rfl ?_
        refine a_iald hS dX12_commonestByte_38 (sB4 hW) ?_
        refine a_aload_n hS dX12_commonestByte_39 rfl ?_
        refine a_getR hS (j := 5) dX12_commonestByte_40 flX12_23 (sB0 hW) rfl ?_
        refine a_iload_n hS dX12_commonestByte_43 rfl ?_
        refine a_iald hS dX12_commonestByte_44 (sB5 hW) ?_
        refine a_iload_n hS dX12_commonestByte_45 rfl ?_
        refine a_iadd hS dX12_commonestByte_46 ?_
        refine a_callVi hS (rst := []) (c_Md_contentAt hW (q1.2 4 (wr q1.1).toNat) ((q1.2 5 (wr q1.1).toNat) + a0) q1.2 ) miX12_contentAt mlX12_83 (sB0 hW) rfl rfl (Nat.le_of_ble_eq_true rfl) (Nat.le_of_ble_eq_true rfl) (Nat.le_of_ble_eq_true rfl) rfl dX12_commonestByte_47 (fun q2 => ?_)
        exact a_iret hS rfl rfl dX12_commonestByte_50
      · refine a_bipush hS dX12_commonestByte_27 rfl ?_
        refine a_goto hS (tgt := 50) dX12_commonestByte_29 (by decide) ?_
        exact a_iret hS rfl rfl dX12_commonestByte_50
  · refine a_iconst hS dX12_commonestByte_4 ?_
    exact a_iret hS rfl rfl dX12_commonestByte_5
noncomputable def Md_undo  (σ : Mem) : Option (Int × Mem) := if wr (σ 0 1) = 0 then (some ((-2), σ)) else (letM (upM σ 0 1 ((σ 0 1) - 1)) fun s1 => (Md_copies (1 + (s1 0 1)) 0 s1).bind fun q2 => some ((q2.2 0 1), q2.2))
set_option maxRecDepth 100000 in
set_option maxHeartbeats 4000000 in
theorem c_Md_undo {l : Launch} {w : Wd} (hW : shp w = ShB)  (σ : Mem)  : Ctr l w yX12_undo cX12_undo 1 (some .int) (rmN 1 23) 1 [rf w 0] σ (Md_undo  σ) := by
  refine met_of (own := RX12) (by decide) rfl rfl rfl (Nat.le_of_ble_eq_true rfl) (fun X x hXl hN hS => ⟨[some (rf w 0)], ⟨0, rfl⟩, ?_⟩)
  subst hXl
  unfold Md_undo
  refine a_aload_n hS dX12_undo_0 rfl ?_
  refine a_getI hS dX12_undo_1 flX12_71 (sB0 hW) rfl ?_
  refine a_ifne hS rfl  (tgt := 10) dX12_undo_4 (by decide) ?_ ?_
  · refine a_aload_n hS dX12_undo_10 rfl ?_
    refine a_dup hS rfl dX12_undo_11 ?_
    refine a_getI hS dX12_undo_12 flX12_71 (sB0 hW) rfl ?_
    refine a_iconst hS dX12_undo_15 ?_
    refine a_isub hS dX12_undo_16 ?_
    refine a_putI hS dX12_undo_17 plX12_71 (sB0 hW) rfl ?_
    refine a_letM (fun s1 => ?_)
    refine a_aload_n hS dX12_undo_20 rfl ?_
    refine a_iconst hS dX12_undo_21 ?_
    refine a_aload_n hS dX12_undo_22 rfl ?_
    refine a_getI hS dX12_undo_23 flX12_71 (sB0 hW) rfl ?_
    refine a_iadd hS dX12_undo_26 ?_
    refine a_iconst hS dX12_undo_27 ?_
    refine a_callVv hS (rst := []) (c_Md_copies hW (1 + (s1 0 1)) 0 s1 ) miX12_copies mlX12_75 (sB0 hW) rfl rfl (Nat.le_of_ble_eq_true rfl) (Nat.le_of_ble_eq_true rfl) (Nat.le_of_ble_eq_true rfl) rfl dX12_undo_28 (fun q2 => ?_)
    refine a_aload_n hS dX12_undo_31 rfl ?_
    refine a_getI hS dX12_undo_32 flX12_71 (sB0 hW) rfl ?_
    exact a_iret hS rfl rfl dX12_undo_35
  · refine a_bipush hS dX12_undo_7 rfl ?_
    exact a_iret hS rfl rfl dX12_undo_9
noncomputable def Md_keep_25   (x1 : Int) (y0 : Int) (σ : Mem) : Option (Int × Mem) := (Md_copies 0 (9 + x1) σ).bind fun q2 => if 0 ≤ wr x1 ∧ wr x1 < (2 : Int) then (letM (upM q2.2 2 (wr x1).toNat 1) fun s3 => some (y0, s3)) else none
noncomputable def Md_keep (a0 : Int) (σ : Mem) : Option (Int × Mem) := (Md_in a0 0 1 σ).bind fun q1 => if wr q1.1 = 0 then (some ((-1), q1.2)) else (if 0 ≤ wr a0 ∧ wr a0 < (2 : Int) then (if wr (q1.2 2 (wr a0).toNat) = 0 then (Md_keep_25 a0 0 q1.2) else (Md_keep_25 a0 1 q1.2)) else none)
set_option maxRecDepth 100000 in
set_option maxHeartbeats 4000000 in
theorem k_Md_keep_25 {X : Cx} {w : Wd} {x : Int × Mem} (hS : Std X (rmN 1 23) w cX12_keep RX12 (some .int)) (hN : cxn X = 3) (hW : shp w = ShB)   : ∀ (x1 : Int) (y0 : Int) (σ : Mem), Sm X (rmN 1 23) w 1 x 25 [some (rf w 0), some (iv x1), none] [iv y0] σ (Md_keep_25   x1 y0 σ) := by
  intro x1 y0 σ
  unfold Md_keep_25
  refine a_istore_n hS (L' := [some (rf w 0), some (iv x1), some (iv y0)]) dX12_keep_25 hN (Nat.le_of_ble_eq_true rfl) rfl rfl ?_
  refine a_aload_n hS dX12_keep_26 rfl ?_
  refine a_iconst hS dX12_keep_27 ?_
  refine a_bipush hS dX12_keep_28 rfl ?_
  refine a_iload_n hS dX12_keep_30 rfl ?_
  refine a_iadd hS dX12_keep_31 ?_
  refine a_callVv hS (rst := []) (c_Md_copies hW 0 (9 + x1) σ ) miX12_copies mlX12_75 (sB0 hW) rfl rfl (Nat.le_of_ble_eq_true rfl) (Nat.le_of_ble_eq_true rfl) (Nat.le_of_ble_eq_true rfl) rfl dX12_keep_32 (fun q2 => ?_)
  refine a_aload_n hS dX12_keep_35 rfl ?_
  refine a_getR hS (j := 2) dX12_keep_36 flX12_13 (sB0 hW) rfl ?_
  refine a_iload_n hS dX12_keep_39 rfl ?_
  refine a_iconst hS dX12_keep_40 ?_
  refine a_zast hS (by decide) (sB2 hW) dX12_keep_41 ?_
  refine a_letM (fun s3 => ?_)
  refine a_iload_n hS dX12_keep_42 rfl ?_
  exact a_iret hS rfl rfl dX12_keep_43
set_option maxRecDepth 100000 in
set_option maxHeartbeats 4000000 in
theorem c_Md_keep {l : Launch} {w : Wd} (hW : shp w = ShB) (a0 : Int) (σ : Mem)  : Ctr l w yX12_keep cX12_keep 3 (some .int) (rmN 1 23) 1 [rf w 0, iv a0] σ (Md_keep a0 σ) := by
  refine met_of (own := RX12) (by decide) rfl rfl rfl (Nat.le_of_ble_eq_true rfl) (fun X x hXl hN hS => ⟨[some (rf w 0), some (iv a0), none], ⟨1, rfl⟩, ?_⟩)
  subst hXl
  unfold Md_keep
  refine a_iload_n hS dX12_keep_0 rfl ?_
  refine a_iconst hS dX12_keep_1 ?_
  refine a_iconst hS dX12_keep_2 ?_
  refine a_callSi hS (rst := []) (c_Md_in hW a0 0 1 σ ) msX12_in mlX12_79 rfl (Nat.le_of_ble_eq_true rfl) (Nat.le_of_ble_eq_true rfl) (Nat.le_of_ble_eq_true rfl) rfl dX12_keep_3 (fun q1 => ?_)
  refine a_ifne hS rfl  (tgt := 11) dX12_keep_6 (by decide) ?_ ?_
  · refine a_aload_n hS dX12_keep_11 rfl ?_
    refine a_getR hS (j := 2) dX12_keep_12 flX12_13 (sB0 hW) rfl ?_
    refine a_iload_n hS dX12_keep_15 rfl ?_
    refine a_zald hS (sB2 hW) dX12_keep_16 ?_
    refine a_ifeq hS rfl  (tgt := 24) dX12_keep_17 (by decide) ?_ ?_
    · refine a_iconst hS dX12_keep_24 ?_
      exact k_Md_keep_25 hS hN hW   a0 0 q1.2
    · refine a_iconst hS dX12_keep_20 ?_
      refine a_goto hS (tgt := 25) dX12_keep_21 (by decide) ?_
      exact k_Md_keep_25 hS hN hW   a0 1 q1.2
  · refine a_iconst hS dX12_keep_9 ?_
    exact a_iret hS rfl rfl dX12_keep_10
noncomputable def Md_back (a0 : Int) (σ : Mem) : Option (Int × Mem) := (Md_in a0 0 1 σ).bind fun q1 => if wr q1.1 = 0 then (some ((-1), q1.2)) else (if 0 ≤ wr a0 ∧ wr a0 < (2 : Int) then (if wr (q1.2 2 (wr a0).toNat) = 0 then (some ((-1), q1.2)) else ((Md_copies (9 + a0) 0 q1.2).bind fun q2 => letM (upM q2.2 0 1 0) fun s3 => if 0 ≤ wr 0 ∧ wr 0 < (10780 : Int) then (some ((s3 1 (wr 0).toNat), s3)) else none)) else none)
set_option maxRecDepth 100000 in
set_option maxHeartbeats 4000000 in
theorem c_Md_back {l : Launch} {w : Wd} (hW : shp w = ShB) (a0 : Int) (σ : Mem)  : Ctr l w yX12_back cX12_back 2 (some .int) (rmN 1 23) 1 [rf w 0, iv a0] σ (Md_back a0 σ) := by
  refine met_of (own := RX12) (by decide) rfl rfl rfl (Nat.le_of_ble_eq_true rfl) (fun X x hXl hN hS => ⟨[some (rf w 0), some (iv a0)], ⟨0, rfl⟩, ?_⟩)
  subst hXl
  unfold Md_back
  refine a_iload_n hS dX12_back_0 rfl ?_
  refine a_iconst hS dX12_back_1 ?_
  refine a_iconst hS dX12_back_2 ?_
  refine a_callSi hS (rst := []) (c_Md_in hW a0 0 1 σ ) msX12_in mlX12_79 rfl (Nat.le_of_ble_eq_true rfl) (Nat.le_of_ble_eq_true rfl) (Nat.le_of_ble_eq_true rfl) rfl dX12_back_3 (fun q1 => ?_)
  refine a_ifeq hS rfl  (tgt := 18) dX12_back_6 (by decide) ?_ ?_
  · refine a_iconst hS dX12_back_18 ?_
    exact a_iret hS rfl rfl dX12_back_19
  · refine a_aload_n hS dX12_back_9 rfl ?_
    refine a_getR hS (j := 2) dX12_back_10 flX12_13 (sB0 hW) rfl ?_
    refine a_iload_n hS dX12_back_13 rfl ?_
    refine a_zald hS (sB2 hW) dX12_back_14 ?_
    refine a_ifne hS rfl  (tgt := 20) dX12_back_15 (by decide) ?_ ?_
    · refine a_aload_n hS dX12_back_20 rfl ?_
      refine a_bipush hS dX12_back_21 rfl ?_
      refine a_iload_n hS dX12_back_23 rfl ?_
      refine a_iadd hS dX12_back_24 ?_
      refine a_iconst hS dX12_back_25 ?_
      refine a_callVv hS (rst := []) (c_Md_copies hW (9 + a0) 0 q1.2 ) miX12_copies mlX12_75 (sB0 hW) rfl rfl (Nat.le_of_ble_eq_true rfl) (Nat.le_of_ble_eq_true rfl) (Nat.le_of_ble_eq_true rfl) rfl dX12_back_26 (fun q2 => ?_)
      refine a_aload_n hS dX12_back_29 rfl ?_
      refine a_iconst hS dX12_back_30 ?_
      refine a_putI hS dX12_back_31 plX12_71 (sB0 hW) rfl ?_
      refine a_letM (fun s3 => ?_)
      refine a_aload_n hS dX12_back_34 rfl ?_
      refine a_getR hS (j := 1) dX12_back_35 flX12_7 (sB0 hW) rfl ?_
      refine a_iconst hS dX12_back_38 ?_
      refine a_iald hS dX12_back_39 (sB1 hW) ?_
      exact a_iret hS rfl rfl dX12_back_40
    · refine a_iconst hS dX12_back_18 ?_
      exact a_iret hS rfl rfl dX12_back_19
noncomputable def Md_draws  (σ : Mem) : Option (Int × Mem) := letM (upM σ 0 37 (((σ 0 37) * 1103515245) + 12345)) fun s1 => some ((andI (ushrI (s1 0 37) 16) 32767), s1)
set_option maxRecDepth 100000 in
set_option maxHeartbeats 4000000 in
theorem c_Md_draws {l : Launch} {w : Wd} (hW : shp w = ShB)  (σ : Mem)  : Ctr l w yX12_draws cX12_draws 1 (some .int) (rmN 0 0) 1 [rf w 0] σ (Md_draws  σ) := by
  refine met_of (own := RX12) (by decide) rfl rfl rfl (Nat.le_of_ble_eq_true rfl) (fun X x hXl hN hS => ⟨[some (rf w 0)], ⟨0, rfl⟩, ?_⟩)
  subst hXl
  unfold Md_draws
  refine a_aload_n hS dX12_draws_0 rfl ?_
  refine a_aload_n hS dX12_draws_1 rfl ?_
  refine a_getI hS dX12_draws_2 flX12_299 (sB0 hW) rfl ?_
  refine a_ldcw hS (n := 1103515245) dX12_draws_5 (WL_in (tb7 (List.mem_of_getElem? (i := 195) rfl)) rfl) rfl ?_
  refine a_imul hS dX12_draws_8 ?_
  refine a_sipush hS dX12_draws_9 rfl ?_
  refine a_iadd hS dX12_draws_12 ?_
  refine a_putI hS dX12_draws_13 plX12_299 (sB0 hW) rfl ?_
  refine a_letM (fun s1 => ?_)
  refine a_aload_n hS dX12_draws_16 rfl ?_
  refine a_getI hS dX12_draws_17 flX12_299 (sB0 hW) rfl ?_
  refine a_bipush hS dX12_draws_20 rfl ?_
  refine a_iushr hS dX12_draws_22 ?_
  refine a_sipush hS dX12_draws_23 rfl ?_
  refine a_iand hS dX12_draws_26 ?_
  exact a_iret hS rfl rfl dX12_draws_27
noncomputable def Md_drawsLine_104b (r56 : Int → Int → Int → Int → Mem → Option (Int × Mem))  (r104 : Int → Int → Int → Int → Int → Int → Mem → Option (Int × Mem)) (x1 : Int) (x2 : Int) (x3 : Int) (x4 : Int) (x5 : Int) (x6 : Int) (σ : Mem) : Option (Int × Mem) := if 0 ≤ wr (x5 + 1) ∧ wr (x5 + 1) < (17 : Int) then (if wr x6 < wr (σ 19 (wr (x5 + 1)).toNat) then (if 0 ≤ wr x6 ∧ wr x6 < (37 : Int) then (if 0 ≤ wr ((61 + (32 * x1)) + x3) ∧ wr ((61 + (32 * x1)) + x3) < (10780 : Int) then (letM (upM σ 1 (wr ((61 + (32 * x1)) + x3)).toNat (σ 20 (wr x6).toNat)) fun s9 => r104 x1 x2 (x3 + 1) x4 x5 (x6 + 1) s9) else none) else none) else (r56 x1 x2 x3 (x4 + 1) σ)) else none
noncomputable def Md_drawsLine_104 (r56 : Int → Int → Int → Int → Mem → Option (Int × Mem))  (n : Nat) : Int → Int → Int → Int → Int → Int → Mem → Option (Int × Mem) := fixN (fun _ _ _ _ _ _ _ => none) (Md_drawsLine_104b r56 ) n
noncomputable def Md_drawsLine_56b   (r56 : Int → Int → Int → Int → Mem → Option (Int × Mem)) (x1 : Int) (x2 : Int) (x3 : Int) (x4 : Int) (σ : Mem) : Option (Int × Mem) := if wr x4 < wr x2 then ((Md_draws  σ).bind fun q7 => if 0 < wr x4 then (if 0 ≤ wr ((61 + (32 * x1)) + x3) ∧ wr ((61 + (32 * x1)) + x3) < (10780 : Int) then (letM (upM q7.2 1 (wr ((61 + (32 * x1)) + x3)).toNat 32) fun s8 => if 0 ≤ wr ((wr q7.1).tmod (wr 16)) ∧ wr ((wr q7.1).tmod (wr 16)) < (17 : Int) then (Md_drawsLine_104 r56 100000 x1 x2 (x3 + 1) x4 ((wr q7.1).tmod (wr 16)) (s8 19 (wr ((wr q7.1).tmod (wr 16))).toNat) s8) else none) else none) else (if 0 ≤ wr ((wr q7.1).tmod (wr 16)) ∧ wr ((wr q7.1).tmod (wr 16)) < (17 : Int) then (Md_drawsLine_104 r56 100000 x1 x2 x3 x4 ((wr q7.1).tmod (wr 16)) (q7.2 19 (wr ((wr q7.1).tmod (wr 16))).toNat) q7.2) else none)) else (if 0 ≤ wr (21 + x1) ∧ wr (21 + x1) < (10780 : Int) then (letM (upM σ 1 (wr (21 + x1)).toNat x3) fun s6 => some (0, s6)) else none)
noncomputable def Md_drawsLine_56   (n : Nat) : Int → Int → Int → Int → Mem → Option (Int × Mem) := fixN (fun _ _ _ _ _ => none) (Md_drawsLine_56b  ) n
noncomputable def Md_drawsLine  (σ : Mem) : Option (Int × Mem) := if 0 ≤ wr 0 ∧ wr 0 < (10780 : Int) then (if 0 ≤ wr 0 ∧ wr 0 < (10780 : Int) then (if 0 ≤ wr 0 ∧ wr 0 < (10780 : Int) then (letM (upM σ 1 (wr 0).toNat ((σ 1 (wr 0).toNat) + 1)) fun s1 => if 0 ≤ wr (41 + (σ 1 (wr 0).toNat)) ∧ wr (41 + (σ 1 (wr 0).toNat)) < (10780 : Int) then (letM (upM s1 1 (wr (41 + (σ 1 (wr 0).toNat))).toNat 0) fun s2 => (Md_draws  s2).bind fun q3 => if 0 ≤ wr (1 + (σ 1 (wr 0).toNat)) ∧ wr (1 + (σ 1 (wr 0).toNat)) < (10780 : Int) then (letM (upM q3.2 1 (wr (1 + (σ 1 (wr 0).toNat))).toNat ((wr q3.1).tmod (wr 12))) fun s4 => (Md_draws  s4).bind fun q5 => Md_drawsLine_56 100000 (σ 1 (wr 0).toNat) (1 + ((wr q5.1).tmod (wr 3))) 0 0 q5.2) else none) else none) else none) else none) else none
set_option maxRecDepth 100000 in
set_option maxHeartbeats 4000000 in
theorem k_Md_drawsLine_104 {X : Cx} {w : Wd} {x : Int × Mem} (hS : Std X (rmN 1 20) w cX12_drawsLine RX12 none) (hN : cxn X = 7) (hW : shp w = ShB)  (r56 : Int → Int → Int → Int → Mem → Option (Int × Mem)) (hr56 : ∀ (x1 : Int) (x2 : Int) (x3 : Int) (x4 : Int) (σ : Mem), Sm X (rmN 1 20) w 0 x 56 [some (rf w 0), some (iv x1), some (iv x2), some (iv x3), some (iv x4), none, none] [] σ (r56 x1 x2 x3 x4 σ)) : ∀ (n : Nat) (x1 : Int) (x2 : Int) (x3 : Int) (x4 : Int) (x5 : Int) (x6 : Int) (σ : Mem), Sm X (rmN 1 20) w 0 x 104 [some (rf w 0), some (iv x1), some (iv x2), some (iv x3), some (iv x4), some (iv x5), some (iv x6)] [] σ (Md_drawsLine_104 r56  n x1 x2 x3 x4 x5 x6 σ) := by
  refine fix_ok (P := fun (r104 : Int → Int → Int → Int → Int → Int → Mem → Option (Int × Mem)) => ∀ (x1 : Int) (x2 : Int) (x3 : Int) (x4 : Int) (x5 : Int) (x6 : Int) (σ : Mem), Sm X (rmN 1 20) w 0 x 104 [some (rf w 0), some (iv x1), some (iv x2), some (iv x3), some (iv x4), some (iv x5), some (iv x6)] [] σ (r104 x1 x2 x3 x4 x5 x6 σ)) (fun _ _ _ _ _ _ _ => a_none) (fun r104 hr104 => ?_)
  intro x1 x2 x3 x4 x5 x6 σ
  unfold Md_drawsLine_104b
  refine a_iload hS dX12_drawsLine_104 rfl ?_
  refine a_aload_n hS dX12_drawsLine_106 rfl ?_
  refine a_getR hS (j := 19) dX12_drawsLine_107 flX12_65 (sB0 hW) rfl ?_
  refine a_iload hS dX12_drawsLine_110 rfl ?_
  refine a_iconst hS dX12_drawsLine_112 ?_
  refine a_iadd hS dX12_drawsLine_113 ?_
  refine a_iald hS dX12_drawsLine_114 (sB19 hW) ?_
  refine a_icmpge hS rfl rfl (tgt := 148) dX12_drawsLine_115 (by decide) ?_ ?_
  · refine a_iinc hS (L' := [some (rf w 0), some (iv x1), some (iv x2), some (iv x3), some (iv (x4 + 1)), some (iv x5), some (iv x6)]) dX12_drawsLine_148 rfl hN (Nat.le_of_ble_eq_true rfl) rfl rfl ?_
    refine a_goto hS (tgt := 56) dX12_drawsLine_151 (by decide) ?_
    exact a_live (M := [true, true, true, true, true, false, false]) (hr56 x1 x2 x3 (x4 + 1) σ) rfl
  · refine a_aload_n hS dX12_drawsLine_118 rfl ?_
    refine a_getR hS (j := 1) dX12_drawsLine_119 flX12_7 (sB0 hW) rfl ?_
    refine a_bipush hS dX12_drawsLine_122 rfl ?_
    refine a_bipush hS dX12_drawsLine_124 rfl ?_
    refine a_iload_n hS dX12_drawsLine_126 rfl ?_
    refine a_imul hS dX12_drawsLine_127 ?_
    refine a_iadd hS dX12_drawsLine_128 ?_
    refine a_iload_n hS dX12_drawsLine_129 rfl ?_
    refine a_iadd hS dX12_drawsLine_130 ?_
    refine a_aload_n hS dX12_drawsLine_131 rfl ?_
    refine a_getR hS (j := 20) dX12_drawsLine_132 flX12_68 (sB0 hW) rfl ?_
    refine a_iload hS dX12_drawsLine_135 rfl ?_
    refine a_iald hS dX12_drawsLine_137 (sB20 hW) ?_
    refine a_iast hS (sB1 hW) dX12_drawsLine_138 ?_
    refine a_letM (fun s9 => ?_)
    refine a_iinc hS (L' := [some (rf w 0), some (iv x1), some (iv x2), some (iv (x3 + 1)), some (iv x4), some (iv x5), some (iv x6)]) dX12_drawsLine_139 rfl hN (Nat.le_of_ble_eq_true rfl) rfl rfl ?_
    refine a_iinc hS (L' := [some (rf w 0), some (iv x1), some (iv x2), some (iv (x3 + 1)), some (iv x4), some (iv x5), some (iv (x6 + 1))]) dX12_drawsLine_142 rfl hN (Nat.le_of_ble_eq_true rfl) rfl rfl ?_
    refine a_goto hS (tgt := 104) dX12_drawsLine_145 (by decide) ?_
    exact hr104 x1 x2 (x3 + 1) x4 x5 (x6 + 1) s9
set_option maxRecDepth 100000 in
set_option maxHeartbeats 4000000 in
theorem k_Md_drawsLine_56 {X : Cx} {w : Wd} {x : Int × Mem} (hS : Std X (rmN 1 20) w cX12_drawsLine RX12 none) (hN : cxn X = 7) (hW : shp w = ShB)   : ∀ (n : Nat) (x1 : Int) (x2 : Int) (x3 : Int) (x4 : Int) (σ : Mem), Sm X (rmN 1 20) w 0 x 56 [some (rf w 0), some (iv x1), some (iv x2), some (iv x3), some (iv x4), none, none] [] σ (Md_drawsLine_56   n x1 x2 x3 x4 σ) := by
  refine fix_ok (P := fun (r56 : Int → Int → Int → Int → Mem → Option (Int × Mem)) => ∀ (x1 : Int) (x2 : Int) (x3 : Int) (x4 : Int) (σ : Mem), Sm X (rmN 1 20) w 0 x 56 [some (rf w 0), some (iv x1), some (iv x2), some (iv x3), some (iv x4), none, none] [] σ (r56 x1 x2 x3 x4 σ)) (fun _ _ _ _ _ => a_none) (fun r56 hr56 => ?_)
  intro x1 x2 x3 x4 σ
  unfold Md_drawsLine_56b
  refine a_iload hS dX12_drawsLine_56 rfl ?_
  refine a_iload_n hS dX12_drawsLine_58 rfl ?_
  refine a_icmpge hS rfl rfl (tgt := 154) dX12_drawsLine_59 (by decide) ?_ ?_
  · refine a_aload_n hS dX12_drawsLine_154 rfl ?_
    refine a_getR hS (j := 1) dX12_drawsLine_155 flX12_7 (sB0 hW) rfl ?_
    refine a_bipush hS dX12_drawsLine_158 rfl ?_
    refine a_iload_n hS dX12_drawsLine_160 rfl ?_
    refine a_iadd hS dX12_drawsLine_161 ?_
    refine a_iload_n hS dX12_drawsLine_162 rfl ?_
    refine a_iast hS (sB1 hW) dX12_drawsLine_163 ?_
    refine a_letM (fun s6 => ?_)
    exact a_vret hS rfl rfl dX12_drawsLine_164
  · refine a_aload_n hS dX12_drawsLine_62 rfl ?_
    refine a_callVi hS (rst := []) (c_Md_draws hW  σ ) miX12_draws mlX12_303 (sB0 hW) rfl rfl (Nat.le_of_ble_eq_true rfl) (Nat.le_of_ble_eq_true rfl) (Nat.le_of_ble_eq_true rfl) rfl dX12_drawsLine_63 (fun q7 => ?_)
    refine a_bipush hS dX12_drawsLine_66 rfl ?_
    refine a_irem hS dX12_drawsLine_68 (by decide) ?_
    refine a_istore hS (L' := [some (rf w 0), some (iv x1), some (iv x2), some (iv x3), some (iv x4), some (iv ((wr q7.1).tmod (wr 16))), none]) dX12_drawsLine_69 hN (Nat.le_of_ble_eq_true rfl) rfl rfl ?_
    refine a_iload hS dX12_drawsLine_71 rfl ?_
    refine a_ifle hS rfl  (tgt := 95) dX12_drawsLine_73 (by decide) ?_ ?_
    · refine a_aload_n hS dX12_drawsLine_95 rfl ?_
      refine a_getR hS (j := 19) dX12_drawsLine_96 flX12_65 (sB0 hW) rfl ?_
      refine a_iload hS dX12_drawsLine_99 rfl ?_
      refine a_iald hS dX12_drawsLine_101 (sB19 hW) ?_
      refine a_istore hS (L' := [some (rf w 0), some (iv x1), some (iv x2), some (iv x3), some (iv x4), some (iv ((wr q7.1).tmod (wr 16))), some (iv (q7.2 19 (wr ((wr q7.1).tmod (wr 16))).toNat))]) dX12_drawsLine_102 hN (Nat.le_of_ble_eq_true rfl) rfl rfl ?_
      exact k_Md_drawsLine_104 hS hN hW  r56 hr56 100000 x1 x2 x3 x4 ((wr q7.1).tmod (wr 16)) (q7.2 19 (wr ((wr q7.1).tmod (wr 16))).toNat) q7.2
    · refine a_aload_n hS dX12_drawsLine_76 rfl ?_
      refine a_getR hS (j := 1) dX12_drawsLine_77 flX12_7 (sB0 hW) rfl ?_
      refine a_bipush hS dX12_drawsLine_80 rfl ?_
      refine a_bipush hS dX12_drawsLine_82 rfl ?_
      refine a_iload_n hS dX12_drawsLine_84 rfl ?_
      refine a_imul hS dX12_drawsLine_85 ?_
      refine a_iadd hS dX12_drawsLine_86 ?_
      refine a_iload_n hS dX12_drawsLine_87 rfl ?_
      refine a_iadd hS dX12_drawsLine_88 ?_
      refine a_bipush hS dX12_drawsLine_89 rfl ?_
      refine a_iast hS (sB1 hW) dX12_drawsLine_91 ?_
      refine a_letM (fun s8 => ?_)
      refine a_iinc hS (L' := [some (rf w 0), some (iv x1), some (iv x2), some (iv (x3 + 1)), some (iv x4), some (iv ((wr q7.1).tmod (wr 16))), none]) dX12_drawsLine_92 rfl hN (Nat.le_of_ble_eq_true rfl) rfl rfl ?_
      refine a_aload_n hS dX12_drawsLine_95 rfl ?_
      refine a_getR hS (j := 19) dX12_drawsLine_96 flX12_65 (sB0 hW) rfl ?_
      refine a_iload hS dX12_drawsLine_99 rfl ?_
      refine a_iald hS dX12_drawsLine_101 (sB19 hW) ?_
      refine a_istore hS (L' := [some (rf w 0), some (iv x1), some (iv x2), some (iv (x3 + 1)), some (iv x4), some (iv ((wr q7.1).tmod (wr 16))), some (iv (s8 19 (wr ((wr q7.1).tmod (wr 16))).toNat))]) dX12_drawsLine_102 hN (Nat.le_of_ble_eq_true rfl) rfl rfl ?_
      exact k_Md_drawsLine_104 hS hN hW  r56 hr56 100000 x1 x2 (x3 + 1) x4 ((wr q7.1).tmod (wr 16)) (s8 19 (wr ((wr q7.1).tmod (wr 16))).toNat) s8
set_option maxRecDepth 100000 in
set_option maxHeartbeats 4000000 in
theorem c_Md_drawsLine {l : Launch} {w : Wd} (hW : shp w = ShB)  (σ : Mem)  : Ctr l w yX12_drawsLine cX12_drawsLine 7 none (rmN 1 20) 0 [rf w 0] σ (Md_drawsLine  σ) := by
  refine met_of (own := RX12) (by decide) rfl rfl rfl (Nat.le_of_ble_eq_true rfl) (fun X x hXl hN hS => ⟨[some (rf w 0), none, none, none, none, none, none], ⟨6, rfl⟩, ?_⟩)
  subst hXl
  unfold Md_drawsLine
  refine a_aload_n hS dX12_drawsLine_0 rfl ?_
  refine a_getR hS (j := 1) dX12_drawsLine_1 flX12_7 (sB0 hW) rfl ?_
  refine a_iconst hS dX12_drawsLine_4 ?_
  refine a_iald hS dX12_drawsLine_5 (sB1 hW) ?_
  refine a_istore_n hS (L' := [some (rf w 0), some (iv (σ 1 (wr 0).toNat)), none, none, none, none, none]) dX12_drawsLine_6 hN (Nat.le_of_ble_eq_true rfl) rfl rfl ?_
  refine a_aload_n hS dX12_drawsLine_7 rfl ?_
  refine a_getR hS (j := 1) dX12_drawsLine_8 flX12_7 (sB0 hW) rfl ?_
  refine a_iconst hS dX12_drawsLine_11 ?_
  refine a_dup2 hS rfl rfl dX12_drawsLine_12 ?_
  refine a_iald hS dX12_drawsLine_13 (sB1 hW) ?_
  refine a_iconst hS dX12_drawsLine_14 ?_
  refine a_iadd hS dX12_drawsLine_15 ?_
  refine a_iast hS (sB1 hW) dX12_drawsLine_16 ?_
  refine a_letM (fun s1 => ?_)
  refine a_aload_n hS dX12_drawsLine_17 rfl ?_
  refine a_getR hS (j := 1) dX12_drawsLine_18 flX12_7 (sB0 hW) rfl ?_
  refine a_bipush hS dX12_drawsLine_21 rfl ?_
  refine a_iload_n hS dX12_drawsLine_23 rfl ?_
  refine a_iadd hS dX12_drawsLine_24 ?_
  refine a_iconst hS dX12_drawsLine_25 ?_
  refine a_iast hS (sB1 hW) dX12_drawsLine_26 ?_
  refine a_letM (fun s2 => ?_)
  refine a_aload_n hS dX12_drawsLine_27 rfl ?_
  refine a_getR hS (j := 1) dX12_drawsLine_28 flX12_7 (sB0 hW) rfl ?_
  refine a_iconst hS dX12_drawsLine_31 ?_
  refine a_iload_n hS dX12_drawsLine_32 rfl ?_
  refine a_iadd hS dX12_drawsLine_33 ?_
  refine a_aload_n hS dX12_drawsLine_34 rfl ?_
  refine a_callVi hS (rst := [iv (1 + (σ 1 (wr 0).toNat)), rf w 1]) (c_Md_draws hW  s2 ) miX12_draws mlX12_303 (sB0 hW) rfl rfl (Nat.le_of_ble_eq_true rfl) (Nat.le_of_ble_eq_true rfl) (Nat.le_of_ble_eq_true rfl) rfl dX12_drawsLine_35 (fun q3 => ?_)
  refine a_bipush hS dX12_drawsLine_38 rfl ?_
  refine a_irem hS dX12_drawsLine_40 (by decide) ?_
  refine a_iast hS (sB1 hW) dX12_drawsLine_41 ?_
  refine a_letM (fun s4 => ?_)
  refine a_iconst hS dX12_drawsLine_42 ?_
  refine a_aload_n hS dX12_drawsLine_43 rfl ?_
  refine a_callVi hS (rst := [iv 1]) (c_Md_draws hW  s4 ) miX12_draws mlX12_303 (sB0 hW) rfl rfl (Nat.le_of_ble_eq_true rfl) (Nat.le_of_ble_eq_true rfl) (Nat.le_of_ble_eq_true rfl) rfl dX12_drawsLine_44 (fun q5 => ?_)
  refine a_iconst hS dX12_drawsLine_47 ?_
  refine a_irem hS dX12_drawsLine_48 (by decide) ?_
  refine a_iadd hS dX12_drawsLine_49 ?_
  refine a_istore_n hS (L' := [some (rf w 0), some (iv (σ 1 (wr 0).toNat)), some (iv (1 + ((wr q5.1).tmod (wr 3)))), none, none, none, none]) dX12_drawsLine_50 hN (Nat.le_of_ble_eq_true rfl) rfl rfl ?_
  refine a_iconst hS dX12_drawsLine_51 ?_
  refine a_istore_n hS (L' := [some (rf w 0), some (iv (σ 1 (wr 0).toNat)), some (iv (1 + ((wr q5.1).tmod (wr 3)))), some (iv 0), none, none, none]) dX12_drawsLine_52 hN (Nat.le_of_ble_eq_true rfl) rfl rfl ?_
  refine a_iconst hS dX12_drawsLine_53 ?_
  refine a_istore hS (L' := [some (rf w 0), some (iv (σ 1 (wr 0).toNat)), some (iv (1 + ((wr q5.1).tmod (wr 3)))), some (iv 0), some (iv 0), none, none]) dX12_drawsLine_54 hN (Nat.le_of_ble_eq_true rfl) rfl rfl ?_
  exact k_Md_drawsLine_56 hS hN hW   100000 (σ 1 (wr 0).toNat) (1 + ((wr q5.1).tmod (wr 3))) 0 0 q5.2
