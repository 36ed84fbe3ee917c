noncomputable def Blk_saveStack_14b   (r14 : Int → Int → Mem → Option (Int × Mem)) (x1 : Int) (x2 : Int) (σ : Mem) : Option (Int × Mem) := if wr x2 < wr (σ 304 11) then ((Row_get 325 x2 σ).bind fun q2 => (Row_set 323 ((x1 * 12) + x2) q2.1 q2.2).bind fun q3 => r14 x1 (x2 + 1) q3.2) else (some (0, σ))
noncomputable def Blk_saveStack_14   (n : Nat) : Int → Int → Mem → Option (Int × Mem) := fixN (fun _ _ _ => none) (Blk_saveStack_14b  ) n
noncomputable def Blk_saveStack (a0 : Int) (σ : Mem) : Option (Int × Mem) := (Row_set 321 a0 (σ 304 11) σ).bind fun q1 => Blk_saveStack_14 100000 a0 0 q1.2
set_option maxRecDepth 100000 in
set_option maxHeartbeats 4000000 in
theorem k_Blk_saveStack_14 {X : Cx} {w : Wd} {x : Int × Mem} (hS : Std X (rmN 1 22) w cX0_saveStack RX0 none) (hN : cxn X = 3) (hW : shp w = ShA)   : ∀ (n : Nat) (x1 : Int) (x2 : Int) (σ : Mem), Sm X (rmN 1 22) w 0 x 14 [some (rf w 304), some (iv x1), some (iv x2)] [] σ (Blk_saveStack_14   n x1 x2 σ) := by
  refine fix_ok (P := fun (r14 : Int → Int → Mem → Option (Int × Mem)) => ∀ (x1 : Int) (x2 : Int) (σ : Mem), Sm X (rmN 1 22) w 0 x 14 [some (rf w 304), some (iv x1), some (iv x2)] [] σ (r14 x1 x2 σ)) (fun _ _ _ => a_none) (fun r14 hr14 => ?_)
  intro x1 x2 σ
  unfold Blk_saveStack_14b
  refine a_iload_n hS dX0_saveStack_14 rfl ?_
  refine a_aload_n hS dX0_saveStack_15 rfl ?_
  refine a_getI hS dX0_saveStack_16 flX0_50 (sA304 hW) rfl ?_
  refine a_icmpge hS rfl rfl (tgt := 49) dX0_saveStack_19 (by decide) ?_ ?_
  · exact a_vret hS rfl rfl dX0_saveStack_49
  · refine a_aload_n hS dX0_saveStack_22 rfl ?_
    refine a_getR hS (j := 323) dX0_saveStack_23 flX0_44 (sA304 hW) rfl ?_
    refine a_iload_n hS dX0_saveStack_26 rfl ?_
    refine a_bipush hS dX0_saveStack_27 rfl ?_
    refine a_imul hS dX0_saveStack_29 ?_
    refine a_iload_n hS dX0_saveStack_30 rfl ?_
    refine a_iadd hS dX0_saveStack_31 ?_
    refine a_aload_n hS dX0_saveStack_32 rfl ?_
    refine a_getR hS (j := 325) dX0_saveStack_33 flX0_47 (sA304 hW) rfl ?_
    refine a_iload_n hS dX0_saveStack_36 rfl ?_
    refine a_callVi hS (rst := [iv ((x1 * 12) + x2), rf w 323]) (c_Row_get hW 325 x2 σ iRow325) miX5_get mlX0_79 (sA325 hW) rfl rfl (Nat.le_of_ble_eq_true rfl) (Nat.le_of_ble_eq_true rfl) (Nat.le_of_ble_eq_true rfl) rfl dX0_saveStack_37 (fun q2 => ?_)
    refine a_callVv hS (rst := []) (c_Row_set hW 323 ((x1 * 12) + x2) q2.1 q2.2 iRow323) miX5_set mlX0_99 (sA323 hW) rfl rfl (Nat.le_of_ble_eq_true rfl) (Nat.le_of_ble_eq_true rfl) (Nat.le_of_ble_eq_true rfl) rfl dX0_saveStack_40 (fun q3 => ?_)
    refine a_iinc hS (L' := [some (rf w 304), some (iv x1), some (iv (x2 + 1))]) dX0_saveStack_43 rfl hN (Nat.le_of_ble_eq_true rfl) rfl rfl ?_
    refine a_goto hS (tgt := 14) dX0_saveStack_46 (by decide) ?_
    exact hr14 x1 (x2 + 1) q3.2
set_option maxRecDepth 100000 in
set_option maxHeartbeats 4000000 in
theorem c_Blk_saveStack {l : Launch} {w : Wd} (hW : shp w = ShA) (a0 : Int) (σ : Mem)  : Ctr l w yX0_saveStack cX0_saveStack 3 none (rmN 1 22) 0 [rf w 304, iv a0] σ (Blk_saveStack a0 σ) := by
  refine met_of (own := RX0) (by decide) rfl rfl rfl (Nat.le_of_ble_eq_true rfl) (fun X x hXl hN hS => ⟨[some (rf w 304), some (iv a0), none], ⟨1, rfl⟩, ?_⟩)
  subst hXl
  unfold Blk_saveStack
  refine a_aload_n hS dX0_saveStack_0 rfl ?_
  refine a_getR hS (j := 321) dX0_saveStack_1 flX0_41 (sA304 hW) rfl ?_
  refine a_iload_n hS dX0_saveStack_4 rfl ?_
  refine a_aload_n hS dX0_saveStack_5 rfl ?_
  refine a_getI hS dX0_saveStack_6 flX0_50 (sA304 hW) rfl ?_
  refine a_callVv hS (rst := []) (c_Row_set hW 321 a0 (σ 304 11) σ iRow321) miX5_set mlX0_99 (sA321 hW) rfl rfl (Nat.le_of_ble_eq_true rfl) (Nat.le_of_ble_eq_true rfl) (Nat.le_of_ble_eq_true rfl) rfl dX0_saveStack_9 (fun q1 => ?_)
  refine a_iconst hS dX0_saveStack_12 ?_
  refine a_istore_n hS (L' := [some (rf w 304), some (iv a0), some (iv 0)]) dX0_saveStack_13 hN (Nat.le_of_ble_eq_true rfl) rfl rfl ?_
  exact k_Blk_saveStack_14 hS hN hW   100000 a0 0 q1.2
noncomputable def Blk_findRules_117 (r58 : Int → Int → Int → Int → Int → Int → Int → Int → Mem → Option (Int × Mem))  (x1 : Int) (x4 : Int) (x5 : Int) (x6 : Int) (x7 : Int) (x8 : Int) (x9 : Int) (x10 : Int) (σ : Mem) : Option (Int × Mem) := (Rul_hasText x10 1 x4 x5 x6 σ).bind fun q9 => if wr q9.1 = 0 then (r58 x1 x4 x5 x6 x7 x8 x9 (x10 + 1) q9.2) else (r58 x1 x4 x5 x6 x7 x8 (orI x9 (shlI 1 x10)) (x10 + 1) q9.2)
noncomputable def Blk_findRules_58b   (r58 : Int → Int → Int → Int → Int → Int → Int → Int → Mem → Option (Int × Mem)) (x1 : Int) (x4 : Int) (x5 : Int) (x6 : Int) (x7 : Int) (x8 : Int) (x9 : Int) (x10 : Int) (σ : Mem) : Option (Int × Mem) := if wr x10 < 12 then (if wr x7 = 0 then ((Rul_has x10 σ).bind fun q7 => if wr q7.1 = 0 then (r58 x1 x4 x5 x6 x7 x8 x9 (x10 + 1) q7.2) else ((Rul_hasText x10 0 x4 x5 x6 q7.2).bind fun q8 => if wr q8.1 = 0 then (Blk_findRules_117 r58 x1 x4 x5 x6 x7 x8 x9 x10 q8.2) else (Blk_findRules_117 r58 x1 x4 x5 x6 x7 (orI x8 (shlI 1 x10)) x9 x10 q8.2))) else (r58 x1 x4 x5 x6 x7 x8 x9 (x10 + 1) σ)) else ((Row_set 305 x1 x8 σ).bind fun q5 => (Row_set 307 x1 x9 q5.2).bind fun q6 => some (0, q6.2))
noncomputable def Blk_findRules_58   (n : Nat) : Int → Int → Int → Int → Int → Int → Int → Int → Mem → Option (Int × Mem) := fixN (fun _ _ _ _ _ _ _ _ _ => none) (Blk_findRules_58b  ) n
noncomputable def Blk_findRules (a0 : Int) (σ : Mem) : Option (Int × Mem) := (Row_get 290 a0 σ).bind fun q1 => (Row_get 292 a0 q1.2).bind fun q2 => (Row_get 294 a0 q2.2).bind fun q3 => (Row_get 296 a0 q3.2).bind fun q4 => if wr q4.1 = 2 then (Blk_findRules_58 100000 a0 q1.1 q2.1 q3.1 1 0 0 0 q4.2) else (Blk_findRules_58 100000 a0 q1.1 q2.1 q3.1 0 0 0 0 q4.2)
set_option maxRecDepth 100000 in
set_option maxHeartbeats 4000000 in
theorem k_Blk_findRules_117 {X : Cx} {w : Wd} {x : Int × Mem} (hS : Std X (rmN 3 71) w cX0_findRules RX0 none) (hN : cxn X = 11) (hW : shp w = ShA)  (r58 : Int → Int → Int → Int → Int → Int → Int → Int → Mem → Option (Int × Mem)) (hr58 : ∀ (x1 : Int) (x4 : Int) (x5 : Int) (x6 : Int) (x7 : Int) (x8 : Int) (x9 : Int) (x10 : Int) (σ : Mem), Sm X (rmN 3 71) w 0 x 58 [some (rf w 304), some (iv x1), some (rf w 1), none, some (iv x4), some (iv x5), some (iv x6), some (iv x7), some (iv x8), some (iv x9), some (iv x10)] [] σ (r58 x1 x4 x5 x6 x7 x8 x9 x10 σ)) : ∀ (x1 : Int) (x4 : Int) (x5 : Int) (x6 : Int) (x7 : Int) (x8 : Int) (x9 : Int) (x10 : Int) (σ : Mem), Sm X (rmN 3 71) w 0 x 117 [some (rf w 304), some (iv x1), some (rf w 1), none, some (iv x4), some (iv x5), some (iv x6), some (iv x7), some (iv x8), some (iv x9), some (iv x10)] [] σ (Blk_findRules_117 r58  x1 x4 x5 x6 x7 x8 x9 x10 σ) := by
  intro x1 x4 x5 x6 x7 x8 x9 x10 σ
  unfold Blk_findRules_117
  refine a_aload_n hS dX0_findRules_117 rfl ?_
  refine a_getR hS (j := 11) dX0_findRules_118 flX0_87 (sA1 hW) rfl ?_
  refine a_iload hS dX0_findRules_121 rfl ?_
  refine a_iconst hS dX0_findRules_123 ?_
  refine a_aload_n hS dX0_findRules_124 rfl ?_
  refine a_getR hS (j := 2) dX0_findRules_125 flX0_60 (sA1 hW) rfl ?_
  refine a_iload hS dX0_findRules_128 rfl ?_
  refine a_iload hS dX0_findRules_130 rfl ?_
  refine a_iload hS dX0_findRules_132 rfl ?_
  refine a_callVi hS (rst := []) (c_Rul_hasText hW x10 1 x4 x5 x6 σ ) miX7_hasText mlX0_121 (sA11 hW) rfl rfl (Nat.le_of_ble_eq_true rfl) (Nat.le_of_ble_eq_true rfl) (Nat.le_of_ble_eq_true rfl) rfl dX0_findRules_134 (fun q9 => ?_)
  refine a_ifeq hS rfl  (tgt := 149) dX0_findRules_137 (by decide) ?_ ?_
  · refine a_iinc hS (L' := [some (rf w 304), some (iv x1), some (rf w 1), none, some (iv x4), some (iv x5), some (iv x6), some (iv x7), some (iv x8), some (iv x9), some (iv (x10 + 1))]) dX0_findRules_149 rfl hN (Nat.le_of_ble_eq_true rfl) rfl rfl ?_
    refine a_goto hS (tgt := 58) dX0_findRules_152 (by decide) ?_
    exact hr58 x1 x4 x5 x6 x7 x8 x9 (x10 + 1) q9.2
  · refine a_iload hS dX0_findRules_140 rfl ?_
    refine a_iconst hS dX0_findRules_142 ?_
    refine a_iload hS dX0_findRules_143 rfl ?_
    refine a_ishl hS dX0_findRules_145 ?_
    refine a_ior hS dX0_findRules_146 ?_
    refine a_istore hS (L' := [some (rf w 304), some (iv x1), some (rf w 1), none, some (iv x4), some (iv x5), some (iv x6), some (iv x7), some (iv x8), some (iv (orI x9 (shlI 1 x10))), some (iv x10)]) dX0_findRules_147 hN (Nat.le_of_ble_eq_true rfl) rfl rfl ?_
    refine a_iinc hS (L' := [some (rf w 304), some (iv x1), some (rf w 1), none, some (iv x4), some (iv x5), some (iv x6), some (iv x7), some (iv x8), some (iv (orI x9 (shlI 1 x10))), some (iv (x10 + 1))]) dX0_findRules_149 rfl hN (Nat.le_of_ble_eq_true rfl) rfl rfl ?_
    refine a_goto hS (tgt := 58) dX0_findRules_152 (by decide) ?_
    exact hr58 x1 x4 x5 x6 x7 x8 (orI x9 (shlI 1 x10)) (x10 + 1) q9.2
set_option maxRecDepth 100000 in
set_option maxHeartbeats 4000000 in
theorem k_Blk_findRules_58 {X : Cx} {w : Wd} {x : Int × Mem} (hS : Std X (rmN 3 71) w cX0_findRules RX0 none) (hN : cxn X = 11) (hW : shp w = ShA)   : ∀ (n : Nat) (x1 : Int) (x4 : Int) (x5 : Int) (x6 : Int) (x7 : Int) (x8 : Int) (x9 : Int) (x10 : Int) (σ : Mem), Sm X (rmN 3 71) w 0 x 58 [some (rf w 304), some (iv x1), some (rf w 1), none, some (iv x4), some (iv x5), some (iv x6), some (iv x7), some (iv x8), some (iv x9), some (iv x10)] [] σ (Blk_findRules_58   n x1 x4 x5 x6 x7 x8 x9 x10 σ) := by
  refine fix_ok (P := fun (r58 : Int → Int → Int → Int → Int → Int → Int → Int → Mem → Option (Int × Mem)) => ∀ (x1 : Int) (x4 : Int) (x5 : Int) (x6 : Int) (x7 : Int) (x8 : Int) (x9 : Int) (x10 : Int) (σ : Mem), Sm X (rmN 3 71) w 0 x 58 [some (rf w 304), some (iv x1), some (rf w 1), none, some (iv x4), some (iv x5), some (iv x6), some (iv x7), some (iv x8), some (iv x9), some (iv x10)] [] σ (r58 x1 x4 x5 x6 x7 x8 x9 x10 σ)) (fun _ _ _ _ _ _ _ _ _ => a_none) (fun r58 hr58 => ?_)
  intro x1 x4 x5 x6 x7 x8 x9 x10 σ
  unfold Blk_findRules_58b
  refine a_iload hS dX0_findRules_58 rfl ?_
  refine a_bipush hS dX0_findRules_60 rfl ?_
  refine a_icmpge hS rfl (wl 12 rfl) (tgt := 155) dX0_findRules_62 (by decide) ?_ ?_
  · refine a_aload_n hS dX0_findRules_155 rfl ?_
    refine a_getR hS (j := 305) dX0_findRules_156 flX0_14 (sA304 hW) rfl ?_
    refine a_iload_n hS dX0_findRules_159 rfl ?_
    refine a_iload hS dX0_findRules_160 rfl ?_
    refine a_callVv hS (rst := []) (c_Row_set hW 305 x1 x8 σ iRow305) miX5_set mlX0_99 (sA305 hW) rfl rfl (Nat.le_of_ble_eq_true rfl) (Nat.le_of_ble_eq_true rfl) (Nat.le_of_ble_eq_true rfl) rfl dX0_findRules_162 (fun q5 => ?_)
    refine a_aload_n hS dX0_findRules_165 rfl ?_
    refine a_getR hS (j := 307) dX0_findRules_166 flX0_20 (sA304 hW) rfl ?_
    refine a_iload_n hS dX0_findRules_169 rfl ?_
    refine a_iload hS dX0_findRules_170 rfl ?_
    refine a_callVv hS (rst := []) (c_Row_set hW 307 x1 x9 q5.2 iRow307) miX5_set mlX0_99 (sA307 hW) rfl rfl (Nat.le_of_ble_eq_true rfl) (Nat.le_of_ble_eq_true rfl) (Nat.le_of_ble_eq_true rfl) rfl dX0_findRules_172 (fun q6 => ?_)
    exact a_vret hS rfl rfl dX0_findRules_175
  · refine a_iload hS dX0_findRules_65 rfl ?_
    refine a_ifne hS rfl  (tgt := 149) dX0_findRules_67 (by decide) ?_ ?_
    · refine a_iinc hS (L' := [some (rf w 304), some (iv x1), some (rf w 1), none, some (iv x4), some (iv x5), some (iv x6), some (iv x7), some (iv x8), some (iv x9), some (iv (x10 + 1))]) dX0_findRules_149 rfl hN (Nat.le_of_ble_eq_true rfl) rfl rfl ?_
      refine a_goto hS (tgt := 58) dX0_findRules_152 (by decide) ?_
      exact hr58 x1 x4 x5 x6 x7 x8 x9 (x10 + 1) σ
    · refine a_aload_n hS dX0_findRules_70 rfl ?_
      refine a_getR hS (j := 11) dX0_findRules_71 flX0_87 (sA1 hW) rfl ?_
      refine a_iload hS dX0_findRules_74 rfl ?_
      refine a_callVi hS (rst := []) (c_Rul_has hW x10 σ ) miX7_has mlX0_115 (sA11 hW) rfl rfl (Nat.le_of_ble_eq_true rfl) (Nat.le_of_ble_eq_true rfl) (Nat.le_of_ble_eq_true rfl) rfl dX0_findRules_76 (fun q7 => ?_)
      refine a_ifne hS rfl  (tgt := 85) dX0_findRules_79 (by decide) ?_ ?_
      · refine a_aload_n hS dX0_findRules_85 rfl ?_
        refine a_getR hS (j := 11) dX0_findRules_86 flX0_87 (sA1 hW) rfl ?_
        refine a_iload hS dX0_findRules_89 rfl ?_
        refine a_iconst hS dX0_findRules_91 ?_
        refine a_aload_n hS dX0_findRules_92 rfl ?_
        refine a_getR hS (j := 2) dX0_findRules_93 flX0_60 (sA1 hW) rfl ?_
        refine a_iload hS dX0_findRules_96 rfl ?_
        refine a_iload hS dX0_findRules_98 rfl ?_
        refine a_iload hS dX0_findRules_100 rfl ?_
        refine a_callVi hS (rst := []) (c_Rul_hasText hW x10 0 x4 x5 x6 q7.2 ) miX7_hasText mlX0_121 (sA11 hW) rfl rfl (Nat.le_of_ble_eq_true rfl) (Nat.le_of_ble_eq_true rfl) (Nat.le_of_ble_eq_true rfl) rfl dX0_findRules_102 (fun q8 => ?_)
        refine a_ifeq hS rfl  (tgt := 117) dX0_findRules_105 (by decide) ?_ ?_
        · exact k_Blk_findRules_117 hS hN hW  r58 hr58 x1 x4 x5 x6 x7 x8 x9 x10 q8.2
        · refine a_iload hS dX0_findRules_108 rfl ?_
          refine a_iconst hS dX0_findRules_110 ?_
          refine a_iload hS dX0_findRules_111 rfl ?_
          refine a_ishl hS dX0_findRules_113 ?_
          refine a_ior hS dX0_findRules_114 ?_
          refine a_istore hS (L' := [some (rf w 304), some (iv x1), some (rf w 1), none, some (iv x4), some (iv x5), some (iv x6), some (iv x7), some (iv (orI x8 (shlI 1 x10))), some (iv x9), some (iv x10)]) dX0_findRules_115 hN (Nat.le_of_ble_eq_true rfl) rfl rfl ?_
          exact k_Blk_findRules_117 hS hN hW  r58 hr58 x1 x4 x5 x6 x7 (orI x8 (shlI 1 x10)) x9 x10 q8.2
      · refine a_goto hS (tgt := 149) dX0_findRules_82 (by decide) ?_
        refine a_iinc hS (L' := [some (rf w 304), some (iv x1), some (rf w 1), none, some (iv x4), some (iv x5), some (iv x6), some (iv x7), some (iv x8), some (iv x9), some (iv (x10 + 1))]) dX0_findRules_149 rfl hN (Nat.le_of_ble_eq_true rfl) rfl rfl ?_
        refine a_goto hS (tgt := 58) dX0_findRules_152 (by decide) ?_
        exact hr58 x1 x4 x5 x6 x7 x8 x9 (x10 + 1) q7.2
set_option maxRecDepth 100000 in
set_option maxHeartbeats 4000000 in
theorem c_Blk_findRules {l : Launch} {w : Wd} (hW : shp w = ShA) (a0 : Int) (σ : Mem)  : Ctr l w yX0_findRules cX0_findRules 11 none (rmN 3 71) 0 [rf w 304, iv a0, rf w 1, rf w 289] σ (Blk_findRules a0 σ) := by
  refine met_of (own := RX0) (by decide) rfl rfl rfl (Nat.le_of_ble_eq_true rfl) (fun X x hXl hN hS => ⟨[some (rf w 304), some (iv a0), some (rf w 1), some (rf w 289), none, none, none, none, none, none, none], ⟨7, rfl⟩, ?_⟩)
  subst hXl
  unfold Blk_findRules
  refine a_aload_n hS dX0_findRules_0 rfl ?_
  refine a_getR hS (j := 290) dX0_findRules_1 flX0_103 (sA289 hW) rfl ?_
  refine a_iload_n hS dX0_findRules_4 rfl ?_
  refine a_callVi hS (rst := []) (c_Row_get hW 290 a0 σ iRow290) miX5_get mlX0_79 (sA290 hW) rfl rfl (Nat.le_of_ble_eq_true rfl) (Nat.le_of_ble_eq_true rfl) (Nat.le_of_ble_eq_true rfl) rfl dX0_findRules_5 (fun q1 => ?_)
  refine a_istore hS (L' := [some (rf w 304), some (iv a0), some (rf w 1), some (rf w 289), some (iv q1.1), none, none, none, none, none, none]) dX0_findRules_8 hN (Nat.le_of_ble_eq_true rfl) rfl rfl ?_
  refine a_aload_n hS dX0_findRules_10 rfl ?_
  refine a_getR hS (j := 292) dX0_findRules_11 flX0_106 (sA289 hW) rfl ?_
  refine a_iload_n hS dX0_findRules_14 rfl ?_
  refine a_callVi hS (rst := []) (c_Row_get hW 292 a0 q1.2 iRow292) miX5_get mlX0_79 (sA292 hW) rfl rfl (Nat.le_of_ble_eq_true rfl) (Nat.le_of_ble_eq_true rfl) (Nat.le_of_ble_eq_true rfl) rfl dX0_findRules_15 (fun q2 => ?_)
  refine a_istore hS (L' := [some (rf w 304), some (iv a0), some (rf w 1), some (rf w 289), some (iv q1.1), some (iv q2.1), none, none, none, none, none]) dX0_findRules_18 hN (Nat.le_of_ble_eq_true rfl) rfl rfl ?_
  refine a_aload_n hS dX0_findRules_20 rfl ?_
  refine a_getR hS (j := 294) dX0_findRules_21 flX0_109 (sA289 hW) rfl ?_
  refine a_iload_n hS dX0_findRules_24 rfl ?_
  refine a_callVi hS (rst := []) (c_Row_get hW 294 a0 q2.2 iRow294) miX5_get mlX0_79 (sA294 hW) rfl rfl (Nat.le_of_ble_eq_true rfl) (Nat.le_of_ble_eq_true rfl) (Nat.le_of_ble_eq_true rfl) rfl dX0_findRules_25 (fun q3 => ?_)
  refine a_istore hS (L' := [some (rf w 304), some (iv a0), some (rf w 1), some (rf w 289), some (iv q1.1), some (iv q2.1), some (iv q3.1), none, none, none, none]) dX0_findRules_28 hN (Nat.le_of_ble_eq_true rfl) rfl rfl ?_
  refine a_aload_n hS dX0_findRules_30 rfl ?_
  refine a_getR hS (j := 296) dX0_findRules_31 flX0_112 (sA289 hW) rfl ?_
  refine a_iload_n hS dX0_findRules_34 rfl ?_
  refine a_callVi hS (rst := []) (c_Row_get hW 296 a0 q3.2 iRow296) miX5_get mlX0_79 (sA296 hW) rfl rfl (Nat.le_of_ble_eq_true rfl) (Nat.le_of_ble_eq_true rfl) (Nat.le_of_ble_eq_true rfl) rfl dX0_findRules_35 (fun q4 => ?_)
  refine a_iconst hS dX0_findRules_38 ?_
  refine a_icmpne hS rfl (wl 2 rfl) (tgt := 46) dX0_findRules_39 (by decide) ?_ ?_
  · refine a_iconst hS dX0_findRules_46 ?_
    refine a_istore hS (L' := [some (rf w 304), some (iv a0), some (rf w 1), some (rf w 289), some (iv q1.1), some (iv q2.1), some (iv q3.1), some (iv 0), none, none, none]) dX0_findRules_47 hN (Nat.le_of_ble_eq_true rfl) rfl rfl ?_
    refine a_iconst hS dX0_findRules_49 ?_
    refine a_istore hS (L' := [some (rf w 304), some (iv a0), some (rf w 1), some (rf w 289), some (iv q1.1), some (iv q2.1), some (iv q3.1), some (iv 0), some (iv 0), none, none]) dX0_findRules_50 hN (Nat.le_of_ble_eq_true rfl) rfl rfl ?_
    refine a_iconst hS dX0_findRules_52 ?_
    refine a_istore hS (L' := [some (rf w 304), some (iv a0), some (rf w 1), some (rf w 289), some (iv q1.1), some (iv q2.1), some (iv q3.1), some (iv 0), some (iv 0), some (iv 0), none]) dX0_findRules_53 hN (Nat.le_of_ble_eq_true rfl) rfl rfl ?_
    refine a_iconst hS dX0_findRules_55 ?_
    refine a_istore hS (L' := [some (rf w 304), some (iv a0), some (rf w 1), some (rf w 289), some (iv q1.1), some (iv q2.1), some (iv q3.1), some (iv 0), some (iv 0), some (iv 0), some (iv 0)]) dX0_findRules_56 hN (Nat.le_of_ble_eq_true rfl) rfl rfl ?_
    exact a_live (M := [true, true, true, false, true, true, true, true, true, true, true]) (k_Blk_findRules_58 hS hN hW   100000 a0 q1.1 q2.1 q3.1 0 0 0 0 q4.2) rfl
  · refine a_iconst hS dX0_findRules_42 ?_
    refine a_goto hS (tgt := 47) dX0_findRules_43 (by decide) ?_
    refine a_istore hS (L' := [some (rf w 304), some (iv a0), some (rf w 1), some (rf w 289), some (iv q1.1), some (iv q2.1), some (iv q3.1), some (iv 1), none, none, none]) dX0_findRules_47 hN (Nat.le_of_ble_eq_true rfl) rfl rfl ?_
    refine a_iconst hS dX0_findRules_49 ?_
    refine a_istore hS (L' := [some (rf w 304), some (iv a0), some (rf w 1), some (rf w 289), some (iv q1.1), some (iv q2.1), some (iv q3.1), some (iv 1), some (iv 0), none, none]) dX0_findRules_50 hN (Nat.le_of_ble_eq_true rfl) rfl rfl ?_
    refine a_iconst hS dX0_findRules_52 ?_
    refine a_istore hS (L' := [some (rf w 304), some (iv a0), some (rf w 1), some (rf w 289), some (iv q1.1), some (iv q2.1), some (iv q3.1), some (iv 1), some (iv 0), some (iv 0), none]) dX0_findRules_53 hN (Nat.le_of_ble_eq_true rfl) rfl rfl ?_
    refine a_iconst hS dX0_findRules_55 ?_
    refine a_istore hS (L' := [some (rf w 304), some (iv a0), some (rf w 1), some (rf w 289), some (iv q1.1), some (iv q2.1), some (iv q3.1), some (iv 1), some (iv 0), some (iv 0), some (iv 0)]) dX0_findRules_56 hN (Nat.le_of_ble_eq_true rfl) rfl rfl ?_
    exact a_live (M := [true, true, true, false, true, true, true, true, true, true, true]) (k_Blk_findRules_58 hS hN hW   100000 a0 q1.1 q2.1 q3.1 1 0 0 0 q4.2) rfl
noncomputable def Blk_levelThatCloses_10b   (r10 : Int → Int → Int → Mem → Option (Int × Mem)) (x1 : Int) (x3 : Int) (x4 : Int) (σ : Mem) : Option (Int × Mem) := if wr x4 < 0 then (some ((-1), σ)) else ((Row_get 325 x4 σ).bind fun q1 => (Row_get 309 q1.1 q1.2).bind fun q2 => if wr (andI (shrI x1 q2.1) 1) = 0 then ((Row_get 14 q2.1 q2.2).bind fun q3 => r10 x1 (mmaxI x3 q3.1) (x4 + (-1)) q3.2) else ((Row_get 14 q2.1 q2.2).bind fun q4 => if wr x3 < wr q4.1 then (some (x4, q4.2)) else (some ((-1), q4.2))))
noncomputable def Blk_levelThatCloses_10   (n : Nat) : Int → Int → Int → Mem → Option (Int × Mem) := fixN (fun _ _ _ _ => none) (Blk_levelThatCloses_10b  ) n
noncomputable def Blk_levelThatCloses (a0 : Int) (σ : Mem) : Option (Int × Mem) := Blk_levelThatCloses_10 100000 a0 (-1) ((σ 304 11) - 1) σ
set_option maxRecDepth 100000 in
set_option maxHeartbeats 4000000 in
theorem k_Blk_levelThatCloses_10 {X : Cx} {w : Wd} {x : Int × Mem} (hS : Std X (rmN 1 21) w cX0_levelThatCloses RX0 (some .int)) (hN : cxn X = 6) (hW : shp w = ShA)   : ∀ (n : Nat) (x1 : Int) (x3 : Int) (x4 : Int) (σ : Mem), Sm X (rmN 1 21) w 1 x 10 [some (rf w 304), some (iv x1), some (rf w 11), some (iv x3), some (iv x4), none] [] σ (Blk_levelThatCloses_10   n x1 x3 x4 σ) := by
  refine fix_ok (P := fun (r10 : Int → Int → Int → Mem → Option (Int × Mem)) => ∀ (x1 : Int) (x3 : Int) (x4 : Int) (σ : Mem), Sm X (rmN 1 21) w 1 x 10 [some (rf w 304), some (iv x1), some (rf w 11), some (iv x3), some (iv x4), none] [] σ (r10 x1 x3 x4 σ)) (fun _ _ _ _ => a_none) (fun r10 hr10 => ?_)
  intro x1 x3 x4 σ
  unfold Blk_levelThatCloses_10b
  refine a_iload hS dX0_levelThatCloses_10 rfl ?_
  refine a_iflt hS rfl  (tgt := 82) dX0_levelThatCloses_12 (by decide) ?_ ?_
  · refine a_iconst hS dX0_levelThatCloses_82 ?_
    exact a_iret hS rfl rfl dX0_levelThatCloses_83
  · refine a_aload_n hS dX0_levelThatCloses_15 rfl ?_
    refine a_getR hS (j := 309) dX0_levelThatCloses_16 flX0_23 (sA304 hW) rfl ?_
    refine a_aload_n hS dX0_levelThatCloses_19 rfl ?_
    refine a_getR hS (j := 325) dX0_levelThatCloses_20 flX0_47 (sA304 hW) rfl ?_
    refine a_iload hS dX0_levelThatCloses_23 rfl ?_
    refine a_callVi hS (rst := [rf w 309]) (c_Row_get hW 325 x4 σ iRow325) miX5_get mlX0_79 (sA325 hW) rfl rfl (Nat.le_of_ble_eq_true rfl) (Nat.le_of_ble_eq_true rfl) (Nat.le_of_ble_eq_true rfl) rfl dX0_levelThatCloses_25 (fun q1 => ?_)
    refine a_callVi hS (rst := []) (c_Row_get hW 309 q1.1 q1.2 iRow309) miX5_get mlX0_79 (sA309 hW) rfl rfl (Nat.le_of_ble_eq_true rfl) (Nat.le_of_ble_eq_true rfl) (Nat.le_of_ble_eq_true rfl) rfl dX0_levelThatCloses_28 (fun q2 => ?_)
    refine a_istore hS (L' := [some (rf w 304), some (iv x1), some (rf w 11), some (iv x3), some (iv x4), some (iv q2.1)]) dX0_levelThatCloses_31 hN (Nat.le_of_ble_eq_true rfl) rfl rfl ?_
    refine a_iload_n hS dX0_levelThatCloses_33 rfl ?_
    refine a_iload hS dX0_levelThatCloses_34 rfl ?_
    refine a_ishr hS dX0_levelThatCloses_36 ?_
    refine a_iconst hS dX0_levelThatCloses_37 ?_
    refine a_iand hS dX0_levelThatCloses_38 ?_
    refine a_ifeq hS rfl  (tgt := 62) dX0_levelThatCloses_39 (by decide) ?_ ?_
    · refine a_iload_n hS dX0_levelThatCloses_62 rfl ?_
      refine a_aload_n hS dX0_levelThatCloses_63 rfl ?_
      refine a_getR hS (j := 14) dX0_levelThatCloses_64 flX0_129 (sA11 hW) rfl ?_
      refine a_iload hS dX0_levelThatCloses_67 rfl ?_
      refine a_callVi hS (rst := [iv x3]) (c_Row_get hW 14 q2.1 q2.2 iRow14) miX5_get mlX0_79 (sA14 hW) rfl rfl (Nat.le_of_ble_eq_true rfl) (Nat.le_of_ble_eq_true rfl) (Nat.le_of_ble_eq_true rfl) rfl dX0_levelThatCloses_69 (fun q3 => ?_)
      refine a_mmax hS mlMX0_132 mmmax2 mm3 mmmax4 (Nat.le_of_ble_eq_true rfl) (Nat.le_of_ble_eq_true rfl) dX0_levelThatCloses_72 ?_
      refine a_istore_n hS (L' := [some (rf w 304), some (iv x1), some (rf w 11), some (iv (mmaxI x3 q3.1)), some (iv x4), some (iv q2.1)]) dX0_levelThatCloses_75 hN (Nat.le_of_ble_eq_true rfl) rfl rfl ?_
      refine a_iinc hS (L' := [some (rf w 304), some (iv x1), some (rf w 11), some (iv (mmaxI x3 q3.1)), some (iv (x4 + (-1))), some (iv q2.1)]) dX0_levelThatCloses_76 rfl hN (Nat.le_of_ble_eq_true rfl) rfl rfl ?_
      refine a_goto hS (tgt := 10) dX0_levelThatCloses_79 (by decide) ?_
      exact a_live (M := [true, true, true, true, true, false]) (hr10 x1 (mmaxI x3 q3.1) (x4 + (-1)) q3.2) rfl
    · refine a_aload_n hS dX0_levelThatCloses_42 rfl ?_
      refine a_getR hS (j := 14) dX0_levelThatCloses_43 flX0_129 (sA11 hW) rfl ?_
      refine a_iload hS dX0_levelThatCloses_46 rfl ?_
      refine a_callVi hS (rst := []) (c_Row_get hW 14 q2.1 q2.2 iRow14) miX5_get mlX0_79 (sA14 hW) rfl rfl (Nat.le_of_ble_eq_true rfl) (Nat.le_of_ble_eq_true rfl) (Nat.le_of_ble_eq_true rfl) rfl dX0_levelThatCloses_48 (fun q4 => ?_)
      refine a_iload_n hS dX0_levelThatCloses_51 rfl ?_
      refine a_icmple hS rfl rfl (tgt := 60) dX0_levelThatCloses_52 (by decide) ?_ ?_
      · refine a_iconst hS dX0_levelThatCloses_60 ?_
        exact a_iret hS rfl rfl dX0_levelThatCloses_61
      · refine a_iload hS dX0_levelThatCloses_55 rfl ?_
        refine a_goto hS (tgt := 61) dX0_levelThatCloses_57 (by decide) ?_
        exact a_iret hS rfl rfl dX0_levelThatCloses_61
set_option maxRecDepth 100000 in
set_option maxHeartbeats 4000000 in
theorem c_Blk_levelThatCloses {l : Launch} {w : Wd} (hW : shp w = ShA) (a0 : Int) (σ : Mem)  : Ctr l w yX0_levelThatCloses cX0_levelThatCloses 6 (some .int) (rmN 1 21) 1 [rf w 304, iv a0, rf w 11] σ (Blk_levelThatCloses a0 σ) := by
  refine met_of (own := RX0) (by decide) rfl rfl rfl (Nat.le_of_ble_eq_true rfl) (fun X x hXl hN hS => ⟨[some (rf w 304), some (iv a0), some (rf w 11), none, none, none], ⟨3, rfl⟩, ?_⟩)
  subst hXl
  unfold Blk_levelThatCloses
  refine a_iconst hS dX0_levelThatCloses_0 ?_
  refine a_istore_n hS (L' := [some (rf w 304), some (iv a0), some (rf w 11), some (iv (-1)), none, none]) dX0_levelThatCloses_1 hN (Nat.le_of_ble_eq_true rfl) rfl rfl ?_
  refine a_aload_n hS dX0_levelThatCloses_2 rfl ?_
  refine a_getI hS dX0_levelThatCloses_3 flX0_50 (sA304 hW) rfl ?_
  refine a_iconst hS dX0_levelThatCloses_6 ?_
  refine a_isub hS dX0_levelThatCloses_7 ?_
  refine a_istore hS (L' := [some (rf w 304), some (iv a0), some (rf w 11), some (iv (-1)), some (iv ((σ 304 11) - 1)), none]) dX0_levelThatCloses_8 hN (Nat.le_of_ble_eq_true rfl) rfl rfl ?_
  exact k_Blk_levelThatCloses_10 hS hN hW   100000 a0 (-1) ((σ 304 11) - 1) σ
noncomputable def Blk_close (a0 : Int) (σ : Mem) : Option (Int × Mem) := (Row_set 311 a0 (-1) σ).bind fun q1 => (Row_get 307 a0 q1.2).bind fun q2 => if wr q2.1 = 0 then (some (0, q2.2)) else ((Row_get 307 a0 q2.2).bind fun q3 => (Blk_levelThatCloses q3.1 q3.2).bind fun q4 => if wr q4.1 = (-1) then (letM (upM q4.2 304 12 ((q4.2 304 12) + 1)) fun s11 => some (0, s11)) else ((Row_get 325 q4.1 q4.2).bind fun q5 => (Row_set 311 a0 q5.1 q5.2).bind fun q6 => (Row_get 325 q4.1 q6.2).bind fun q7 => (Row_set 313 q7.1 a0 q7.2).bind fun q8 => letM (upM q8.2 304 13 ((q8.2 304 13) + (((q8.2 304 11) - 1) - q4.1))) fun s9 => letM (upM s9 304 11 q4.1) fun s10 => some (0, s10)))
set_option maxRecDepth 100000 in
set_option maxHeartbeats 4000000 in
theorem c_Blk_close {l : Launch} {w : Wd} (hW : shp w = ShA) (a0 : Int) (σ : Mem)  : Ctr l w yX0_close cX0_close 4 none (rmN 2 46) 0 [rf w 304, iv a0, rf w 11] σ (Blk_close a0 σ) := by
  refine met_of (own := RX0) (by decide) rfl rfl rfl (Nat.le_of_ble_eq_true rfl) (fun X x hXl hN hS => ⟨[some (rf w 304), some (iv a0), some (rf w 11), none], ⟨1, rfl⟩, ?_⟩)
  subst hXl
  unfold Blk_close
  refine a_aload_n hS dX0_close_0 rfl ?_
  refine a_getR hS (j := 311) dX0_close_1 flX0_26 (sA304 hW) rfl ?_
  refine a_iload_n hS dX0_close_4 rfl ?_
  refine a_iconst hS dX0_close_5 ?_
  refine a_callVv hS (rst := []) (c_Row_set hW 311 a0 (-1) σ iRow311) miX5_set mlX0_99 (sA311 hW) rfl rfl (Nat.le_of_ble_eq_true rfl) (Nat.le_of_ble_eq_true rfl) (Nat.le_of_ble_eq_true rfl) rfl dX0_close_6 (fun q1 => ?_)
  refine a_aload_n hS dX0_close_9 rfl ?_
  refine a_getR hS (j := 307) dX0_close_10 flX0_20 (sA304 hW) rfl ?_
  refine a_iload_n hS dX0_close_13 rfl ?_
  refine a_callVi hS (rst := []) (c_Row_get hW 307 a0 q1.2 iRow307) miX5_get mlX0_79 (sA307 hW) rfl rfl (Nat.le_of_ble_eq_true rfl) (Nat.le_of_ble_eq_true rfl) (Nat.le_of_ble_eq_true rfl) rfl dX0_close_14 (fun q2 => ?_)
  refine a_ifne hS rfl  (tgt := 21) dX0_close_17 (by decide) ?_ ?_
  · refine a_aload_n hS dX0_close_21 rfl ?_
    refine a_aload_n hS dX0_close_22 rfl ?_
    refine a_getR hS (j := 307) dX0_close_23 flX0_20 (sA304 hW) rfl ?_
    refine a_iload_n hS dX0_close_26 rfl ?_
    refine a_callVi hS (rst := [rf w 304]) (c_Row_get hW 307 a0 q2.2 iRow307) miX5_get mlX0_79 (sA307 hW) rfl rfl (Nat.le_of_ble_eq_true rfl) (Nat.le_of_ble_eq_true rfl) (Nat.le_of_ble_eq_true rfl) rfl dX0_close_27 (fun q3 => ?_)
    refine a_aload_n hS dX0_close_30 rfl ?_
    refine a_callVi hS (rst := []) (c_Blk_levelThatCloses hW q3.1 q3.2 ) miX0_levelThatCloses mlX0_125 (sA304 hW) rfl rfl (Nat.le_of_ble_eq_true rfl) (Nat.le_of_ble_eq_true rfl) (Nat.le_of_ble_eq_true rfl) rfl dX0_close_31 (fun q4 => ?_)
    refine a_istore_n hS (L' := [some (rf w 304), some (iv a0), some (rf w 11), some (iv q4.1)]) dX0_close_34 hN (Nat.le_of_ble_eq_true rfl) rfl rfl ?_
    refine a_iload_n hS dX0_close_35 rfl ?_
    refine a_iconst hS dX0_close_36 ?_
    refine a_icmpne hS rfl (wl (-1) rfl) (tgt := 51) dX0_close_37 (by decide) ?_ ?_
    · refine a_aload_n hS dX0_close_51 rfl ?_
      refine a_getR hS (j := 311) dX0_close_52 flX0_26 (sA304 hW) rfl ?_
      refine a_iload_n hS dX0_close_55 rfl ?_
      refine a_aload_n hS dX0_close_56 rfl ?_
      refine a_getR hS (j := 325) dX0_close_57 flX0_47 (sA304 hW) rfl ?_
      refine a_iload_n hS dX0_close_60 rfl ?_
      refine a_callVi hS (rst := [iv a0, rf w 311]) (c_Row_get hW 325 q4.1 q4.2 iRow325) miX5_get mlX0_79 (sA325 hW) rfl rfl (Nat.le_of_ble_eq_true rfl) (Nat.le_of_ble_eq_true rfl) (Nat.le_of_ble_eq_true rfl) rfl dX0_close_61 (fun q5 => ?_)
      refine a_callVv hS (rst := []) (c_Row_set hW 311 a0 q5.1 q5.2 iRow311) miX5_set mlX0_99 (sA311 hW) rfl rfl (Nat.le_of_ble_eq_true rfl) (Nat.le_of_ble_eq_true rfl) (Nat.le_of_ble_eq_true rfl) rfl dX0_close_64 (fun q6 => ?_)
      refine a_aload_n hS dX0_close_67 rfl ?_
      refine a_getR hS (j := 313) dX0_close_68 flX0_29 (sA304 hW) rfl ?_
      refine a_aload_n hS dX0_close_71 rfl ?_
      refine a_getR hS (j := 325) dX0_close_72 flX0_47 (sA304 hW) rfl ?_
      refine a_iload_n hS dX0_close_75 rfl ?_
      refine a_callVi hS (rst := [rf w 313]) (c_Row_get hW 325 q4.1 q6.2 iRow325) miX5_get mlX0_79 (sA325 hW) rfl rfl (Nat.le_of_ble_eq_true rfl) (Nat.le_of_ble_eq_true rfl) (Nat.le_of_ble_eq_true rfl) rfl dX0_close_76 (fun q7 => ?_)
      refine a_iload_n hS dX0_close_79 rfl ?_
      refine a_callVv hS (rst := []) (c_Row_set hW 313 q7.1 a0 q7.2 iRow313) miX5_set mlX0_99 (sA313 hW) rfl rfl (Nat.le_of_ble_eq_true rfl) (Nat.le_of_ble_eq_true rfl) (Nat.le_of_ble_eq_true rfl) rfl dX0_close_80 (fun q8 => ?_)
      refine a_aload_n hS dX0_close_83 rfl ?_
      refine a_dup hS rfl dX0_close_84 ?_
      refine a_getI hS dX0_close_85 flX0_57 (sA304 hW) rfl ?_
      refine a_aload_n hS dX0_close_88 rfl ?_
      refine a_getI hS dX0_close_89 flX0_50 (sA304 hW) rfl ?_
      refine a_iconst hS dX0_close_92 ?_
      refine a_isub hS dX0_close_93 ?_
      refine a_iload_n hS dX0_close_94 rfl ?_
      refine a_isub hS dX0_close_95 ?_
      refine a_iadd hS dX0_close_96 ?_
      refine a_putI hS dX0_close_97 plX0_57 (sA304 hW) rfl ?_
      refine a_letM (fun s9 => ?_)
      refine a_aload_n hS dX0_close_100 rfl ?_
      refine a_iload_n hS dX0_close_101 rfl ?_
      refine a_putI hS dX0_close_102 plX0_50 (sA304 hW) rfl ?_
      refine a_letM (fun s10 => ?_)
      exact a_vret hS rfl rfl dX0_close_105
    · refine a_aload_n hS dX0_close_40 rfl ?_
      refine a_dup hS rfl dX0_close_41 ?_
      refine a_getI hS dX0_close_42 flX0_54 (sA304 hW) rfl ?_
      refine a_iconst hS dX0_close_45 ?_
      refine a_iadd hS dX0_close_46 ?_
      refine a_putI hS dX0_close_47 plX0_54 (sA304 hW) rfl ?_
      refine a_letM (fun s11 => ?_)
      exact a_vret hS rfl rfl dX0_close_50
  · exact a_vret hS rfl rfl dX0_close_20
noncomputable def Blk_open_167   (x1 : Int) (x4 : Int) (x6 : Int) (y0 : Int) (y1 : Int) (σ : Mem) : Option (Int × Mem) := (Row_set 317 y1 y0 σ).bind fun q12 => if wr x6 = 0 then ((Row_get 16 x4 q12.2).bind fun q13 => (Row_set 319 x1 q13.1 q13.2).bind fun q14 => some (0, q14.2)) else ((Row_set 319 x1 0 q12.2).bind fun q15 => some (0, q15.2))
noncomputable def Blk_open_141   (x1 : Int) (x4 : Int) (y0 : Int) (σ : Mem) : Option (Int × Mem) := if wr y0 = 0 then (Blk_open_167 x1 x4 y0 0 x1 σ) else ((Row_get 292 (x1 + 1) σ).bind fun q11 => Blk_open_167 x1 x4 y0 q11.1 x1 q11.2)
noncomputable def Blk_open_116   (x1 : Int) (x4 : Int) (y0 : Int) (σ : Mem) : Option (Int × Mem) := (Row_get 18 x4 σ).bind fun q10 => if wr q10.1 = 1 then (if wr y0 = 0 then (Blk_open_141 x1 x4 1 q10.2) else (Blk_open_141 x1 x4 0 q10.2)) else (Blk_open_141 x1 x4 0 q10.2)
noncomputable def Blk_open_26   (x1 : Int) (y0 : Int) (σ : Mem) : Option (Int × Mem) := (Row_set 309 x1 y0 σ).bind fun q3 => (Row_set 313 x1 (-1) q3.2).bind fun q4 => if wr y0 = (-1) then (some (0, q4.2)) else ((Row_set 315 x1 (q4.2 304 11) q4.2).bind fun q5 => (Row_set 325 (q5.2 304 11) x1 q5.2).bind fun q6 => letM (upM q6.2 304 11 ((q6.2 304 11) + 1)) fun s7 => (Row_get 290 x1 s7).bind fun q8 => (Row_get 298 (q8.1 + 1) q8.2).bind fun q9 => if wr (x1 + 1) < wr q9.1 then (Blk_open_116 x1 y0 0 q9.2) else (Blk_open_116 x1 y0 1 q9.2))
noncomputable def Blk_open (a0 : Int) (σ : Mem) : Option (Int × Mem) := if wr (σ 304 11) < 12 then ((Row_get 305 a0 σ).bind fun q1 => (Rul_best 1 q1.1 q1.2).bind fun q2 => Blk_open_26 a0 q2.1 q2.2) else (Blk_open_26 a0 (-1) σ)
set_option maxRecDepth 100000 in
set_option maxHeartbeats 4000000 in
theorem k_Blk_open_167 {X : Cx} {w : Wd} {x : Int × Mem} (hS : Std X (rmN 2 47) w cX0_open RX0 none) (hN : cxn X = 7) (hW : shp w = ShA)   : ∀ (x1 : Int) (x4 : Int) (x6 : Int) (y0 : Int) (y1 : Int) (σ : Mem), Sm X (rmN 2 47) w 0 x 167 [some (rf w 304), some (iv x1), some (rf w 11), none, some (iv x4), none, some (iv x6)] [iv y0, iv y1, rf w 317] σ (Blk_open_167   x1 x4 x6 y0 y1 σ) := by
  intro x1 x4 x6 y0 y1 σ
  unfold Blk_open_167
  refine a_callVv hS (rst := []) (c_Row_set hW 317 y1 y0 σ iRow317) miX5_set mlX0_99 (sA317 hW) rfl rfl (Nat.le_of_ble_eq_true rfl) (Nat.le_of_ble_eq_true rfl) (Nat.le_of_ble_eq_true rfl) rfl dX0_open_167 (fun q12 => ?_)
  refine a_aload_n hS dX0_open_170 rfl ?_
  refine a_getR hS (j := 319) dX0_open_171 flX0_38 (sA304 hW) rfl ?_
  refine a_iload_n hS dX0_open_174 rfl ?_
  refine a_iload hS dX0_open_175 rfl ?_
  refine a_ifeq hS rfl  (tgt := 184) dX0_open_177 (by decide) ?_ ?_
  · refine a_aload_n hS dX0_open_184 rfl ?_
    refine a_getR hS (j := 16) dX0_open_185 flX0_144 (sA11 hW) rfl ?_
    refine a_iload hS dX0_open_188 rfl ?_
    refine a_callVi hS (rst := [iv x1, rf w 319]) (c_Row_get hW 16 x4 q12.2 iRow16) miX5_get mlX0_79 (sA16 hW) rfl rfl (Nat.le_of_ble_eq_true rfl) (Nat.le_of_ble_eq_true rfl) (Nat.le_of_ble_eq_true rfl) rfl dX0_open_190 (fun q13 => ?_)
    refine a_callVv hS (rst := []) (c_Row_set hW 319 x1 q13.1 q13.2 iRow319) miX5_set mlX0_99 (sA319 hW) rfl rfl (Nat.le_of_ble_eq_true rfl) (Nat.le_of_ble_eq_true rfl) (Nat.le_of_ble_eq_true rfl) rfl dX0_open_193 (fun q14 => ?_)
    exact a_vret hS rfl rfl dX0_open_196
  · refine a_iconst hS dX0_open_180 ?_
    refine a_goto hS (tgt := 193) dX0_open_181 (by decide) ?_
    refine a_callVv hS (rst := []) (c_Row_set hW 319 x1 0 q12.2 iRow319) miX5_set mlX0_99 (sA319 hW) rfl rfl (Nat.le_of_ble_eq_true rfl) (Nat.le_of_ble_eq_true rfl) (Nat.le_of_ble_eq_true rfl) rfl dX0_open_193 (fun q15 => ?_)
    exact a_vret hS rfl rfl dX0_open_196
set_option maxRecDepth 100000 in
set_option maxHeartbeats 4000000 in
theorem k_Blk_open_141 {X : Cx} {w : Wd} {x : Int × Mem} (hS : Std X (rmN 2 47) w cX0_open RX0 none) (hN : cxn X = 7) (hW : shp w = ShA)   : ∀ (x1 : Int) (x4 : Int) (y0 : Int) (σ : Mem), Sm X (rmN 2 47) w 0 x 141 [some (rf w 304), some (iv x1), some (rf w 11), some (rf w 289), some (iv x4), none, none] [iv y0] σ (Blk_open_141   x1 x4 y0 σ) := by
  intro x1 x4 y0 σ
  unfold Blk_open_141
  refine a_istore hS (L' := [some (rf w 304), some (iv x1), some (rf w 11), some (rf w 289), some (iv x4), none, some (iv y0)]) dX0_open_141 hN (Nat.le_of_ble_eq_true rfl) rfl rfl ?_
  refine a_aload_n hS dX0_open_143 rfl ?_
  refine a_getR hS (j := 317) dX0_open_144 flX0_35 (sA304 hW) rfl ?_
  refine a_iload_n hS dX0_open_147 rfl ?_
  refine a_iload hS dX0_open_148 rfl ?_
  refine a_ifeq hS rfl  (tgt := 166) dX0_open_150 (by decide) ?_ ?_
  · refine a_iconst hS dX0_open_166 ?_
    exact a_live (M := [true, true, true, false, true, false, true]) (k_Blk_open_167 hS hN hW   x1 x4 y0 0 x1 σ) rfl
  · refine a_aload_n hS dX0_open_153 rfl ?_
    refine a_getR hS (j := 292) dX0_open_154 flX0_106 (sA289 hW) rfl ?_
    refine a_iload_n hS dX0_open_157 rfl ?_
    refine a_iconst hS dX0_open_158 ?_
    refine a_iadd hS dX0_open_159 ?_
    refine a_callVi hS (rst := [iv x1, rf w 317]) (c_Row_get hW 292 (x1 + 1) σ iRow292) miX5_get mlX0_79 (sA292 hW) rfl rfl (Nat.le_of_ble_eq_true rfl) (Nat.le_of_ble_eq_true rfl) (Nat.le_of_ble_eq_true rfl) rfl dX0_open_160 (fun q11 => ?_)
    refine a_goto hS (tgt := 167) dX0_open_163 (by decide) ?_
    exact a_live (M := [true, true, true, false, true, false, true]) (k_Blk_open_167 hS hN hW   x1 x4 y0 q11.1 x1 q11.2) rfl
set_option maxRecDepth 100000 in
set_option maxHeartbeats 4000000 in
theorem k_Blk_open_116 {X : Cx} {w : Wd} {x : Int × Mem} (hS : Std X (rmN 2 47) w cX0_open RX0 none) (hN : cxn X = 7) (hW : shp w = ShA)   : ∀ (x1 : Int) (x4 : Int) (y0 : Int) (σ : Mem), Sm X (rmN 2 47) w 0 x 116 [some (rf w 304), some (iv x1), some (rf w 11), some (rf w 289), some (iv x4), none, none] [iv y0] σ (Blk_open_116   x1 x4 y0 σ) := by
  intro x1 x4 y0 σ
  unfold Blk_open_116
  refine a_istore hS (L' := [some (rf w 304), some (iv x1), some (rf w 11), some (rf w 289), some (iv x4), some (iv y0), none]) dX0_open_116 hN (Nat.le_of_ble_eq_true rfl) rfl rfl ?_
  refine a_aload_n hS dX0_open_118 rfl ?_
  refine a_getR hS (j := 18) dX0_open_119 flX0_141 (sA11 hW) rfl ?_
  refine a_iload hS dX0_open_122 rfl ?_
  refine a_callVi hS (rst := []) (c_Row_get hW 18 x4 σ iRow18) miX5_get mlX0_79 (sA18 hW) rfl rfl (Nat.le_of_ble_eq_true rfl) (Nat.le_of_ble_eq_true rfl) (Nat.le_of_ble_eq_true rfl) rfl dX0_open_124 (fun q10 => ?_)
  refine a_iconst hS dX0_open_127 ?_
  refine a_icmpne hS rfl (wl 1 rfl) (tgt := 140) dX0_open_128 (by decide) ?_ ?_
  · refine a_iconst hS dX0_open_140 ?_
    exact a_live (M := [true, true, true, true, true, false, false]) (k_Blk_open_141 hS hN hW   x1 x4 0 q10.2) rfl
  · refine a_iload hS dX0_open_131 rfl ?_
    refine a_ifne hS rfl  (tgt := 140) dX0_open_133 (by decide) ?_ ?_
    · refine a_iconst hS dX0_open_140 ?_
      exact a_live (M := [true, true, true, true, true, false, false]) (k_Blk_open_141 hS hN hW   x1 x4 0 q10.2) rfl
    · refine a_iconst hS dX0_open_136 ?_
      refine a_goto hS (tgt := 141) dX0_open_137 (by decide) ?_
      exact a_live (M := [true, true, true, true, true, false, false]) (k_Blk_open_141 hS hN hW   x1 x4 1 q10.2) rfl
set_option maxRecDepth 100000 in
set_option maxHeartbeats 4000000 in
theorem k_Blk_open_26 {X : Cx} {w : Wd} {x : Int × Mem} (hS : Std X (rmN 2 47) w cX0_open RX0 none) (hN : cxn X = 7) (hW : shp w = ShA)   : ∀ (x1 : Int) (y0 : Int) (σ : Mem), Sm X (rmN 2 47) w 0 x 26 [some (rf w 304), some (iv x1), some (rf w 11), some (rf w 289), none, none, none] [iv y0] σ (Blk_open_26   x1 y0 σ) := by
  intro x1 y0 σ
  unfold Blk_open_26
  refine a_istore hS (L' := [some (rf w 304), some (iv x1), some (rf w 11), some (rf w 289), some (iv y0), none, none]) dX0_open_26 hN (Nat.le_of_ble_eq_true rfl) rfl rfl ?_
  refine a_aload_n hS dX0_open_28 rfl ?_
  refine a_getR hS (j := 309) dX0_open_29 flX0_23 (sA304 hW) rfl ?_
  refine a_iload_n hS dX0_open_32 rfl ?_
  refine a_iload hS dX0_open_33 rfl ?_
  refine a_callVv hS (rst := []) (c_Row_set hW 309 x1 y0 σ iRow309) miX5_set mlX0_99 (sA309 hW) rfl rfl (Nat.le_of_ble_eq_true rfl) (Nat.le_of_ble_eq_true rfl) (Nat.le_of_ble_eq_true rfl) rfl dX0_open_35 (fun q3 => ?_)
  refine a_aload_n hS dX0_open_38 rfl ?_
  refine a_getR hS (j := 313) dX0_open_39 flX0_29 (sA304 hW) rfl ?_
  refine a_iload_n hS dX0_open_42 rfl ?_
  refine a_iconst hS dX0_open_43 ?_
  refine a_callVv hS (rst := []) (c_Row_set hW 313 x1 (-1) q3.2 iRow313) miX5_set mlX0_99 (sA313 hW) rfl rfl (Nat.le_of_ble_eq_true rfl) (Nat.le_of_ble_eq_true rfl) (Nat.le_of_ble_eq_true rfl) rfl dX0_open_44 (fun q4 => ?_)
  refine a_iload hS dX0_open_47 rfl ?_
  refine a_iconst hS dX0_open_49 ?_
  refine a_icmpne hS rfl (wl (-1) rfl) (tgt := 54) dX0_open_50 (by decide) ?_ ?_
  · refine a_aload_n hS dX0_open_54 rfl ?_
    refine a_getR hS (j := 315) dX0_open_55 flX0_32 (sA304 hW) rfl ?_
    refine a_iload_n hS dX0_open_58 rfl ?_
    refine a_aload_n hS dX0_open_59 rfl ?_
    refine a_getI hS dX0_open_60 flX0_50 (sA304 hW) rfl ?_
    refine a_callVv hS (rst := []) (c_Row_set hW 315 x1 (q4.2 304 11) q4.2 iRow315) miX5_set mlX0_99 (sA315 hW) rfl rfl (Nat.le_of_ble_eq_true rfl) (Nat.le_of_ble_eq_true rfl) (Nat.le_of_ble_eq_true rfl) rfl dX0_open_63 (fun q5 => ?_)
    refine a_aload_n hS dX0_open_66 rfl ?_
    refine a_getR hS (j := 325) dX0_open_67 flX0_47 (sA304 hW) rfl ?_
    refine a_aload_n hS dX0_open_70 rfl ?_
    refine a_getI hS dX0_open_71 flX0_50 (sA304 hW) rfl ?_
    refine a_iload_n hS dX0_open_74 rfl ?_
    refine a_callVv hS (rst := []) (c_Row_set hW 325 (q5.2 304 11) x1 q5.2 iRow325) miX5_set mlX0_99 (sA325 hW) rfl rfl (Nat.le_of_ble_eq_true rfl) (Nat.le_of_ble_eq_true rfl) (Nat.le_of_ble_eq_true rfl) rfl dX0_open_75 (fun q6 => ?_)
    refine a_aload_n hS dX0_open_78 rfl ?_
    refine a_dup hS rfl dX0_open_79 ?_
    refine a_getI hS dX0_open_80 flX0_50 (sA304 hW) rfl ?_
    refine a_iconst hS dX0_open_83 ?_
    refine a_iadd hS dX0_open_84 ?_
    refine a_putI hS dX0_open_85 plX0_50 (sA304 hW) rfl ?_
    refine a_letM (fun s7 => ?_)
    refine a_iload_n hS dX0_open_88 rfl ?_
    refine a_iconst hS dX0_open_89 ?_
    refine a_iadd hS dX0_open_90 ?_
    refine a_aload_n hS dX0_open_91 rfl ?_
    refine a_getR hS (j := 298) dX0_open_92 flX0_74 (sA289 hW) rfl ?_
    refine a_aload_n hS dX0_open_95 rfl ?_
    refine a_getR hS (j := 290) dX0_open_96 flX0_103 (sA289 hW) rfl ?_
    refine a_iload_n hS dX0_open_99 rfl ?_
    refine a_callVi hS (rst := [rf w 298, iv (x1 + 1)]) (c_Row_get hW 290 x1 s7 iRow290) miX5_get mlX0_79 (sA290 hW) rfl rfl (Nat.le_of_ble_eq_true rfl) (Nat.le_of_ble_eq_true rfl) (Nat.le_of_ble_eq_true rfl) rfl dX0_open_100 (fun q8 => ?_)
    refine a_iconst hS dX0_open_103 ?_
    refine a_iadd hS dX0_open_104 ?_
    refine a_callVi hS (rst := [iv (x1 + 1)]) (c_Row_get hW 298 (q8.1 + 1) q8.2 iRow298) miX5_get mlX0_79 (sA298 hW) rfl rfl (Nat.le_of_ble_eq_true rfl) (Nat.le_of_ble_eq_true rfl) (Nat.le_of_ble_eq_true rfl) rfl dX0_open_105 (fun q9 => ?_)
    refine a_icmplt hS rfl rfl (tgt := 115) dX0_open_108 (by decide) ?_ ?_
    · refine a_iconst hS dX0_open_115 ?_
      exact k_Blk_open_116 hS hN hW   x1 y0 0 q9.2
    · refine a_iconst hS dX0_open_111 ?_
      refine a_goto hS (tgt := 116) dX0_open_112 (by decide) ?_
      exact k_Blk_open_116 hS hN hW   x1 y0 1 q9.2
  · exact a_vret hS rfl rfl dX0_open_53
set_option maxRecDepth 100000 in
set_option maxHeartbeats 4000000 in
theorem c_Blk_open {l : Launch} {w : Wd} (hW : shp w = ShA) (a0 : Int) (σ : Mem)  : Ctr l w yX0_open cX0_open 7 none (rmN 2 47) 0 [rf w 304, iv a0, rf w 11, rf w 289] σ (Blk_open a0 σ) := by
  refine met_of (own := RX0) (by decide) rfl rfl rfl (Nat.le_of_ble_eq_true rfl) (fun X x hXl hN hS => ⟨[some (rf w 304), some (iv a0), some (rf w 11), some (rf w 289), none, none, none], ⟨3, rfl⟩, ?_⟩)
  subst hXl
  unfold Blk_open
  refine a_aload_n hS dX0_open_0 rfl ?_
  refine a_getI hS dX0_open_1 flX0_50 (sA304 hW) rfl ?_
  refine a_bipush hS dX0_open_4 rfl ?_
  refine a_icmpge hS rfl (wl 12 rfl) (tgt := 25) dX0_open_6 (by decide) ?_ ?_
  · refine a_iconst hS dX0_open_25 ?_
    exact k_Blk_open_26 hS hN hW   a0 (-1) σ
  · refine a_aload_n hS dX0_open_9 rfl ?_
    refine a_iconst hS dX0_open_10 ?_
    refine a_aload_n hS dX0_open_11 rfl ?_
    refine a_getR hS (j := 305) dX0_open_12 flX0_14 (sA304 hW) rfl ?_
    refine a_iload_n hS dX0_open_15 rfl ?_
    refine a_callVi hS (rst := [iv 1, rf w 11]) (c_Row_get hW 305 a0 σ iRow305) miX5_get mlX0_79 (sA305 hW) rfl rfl (Nat.le_of_ble_eq_true rfl) (Nat.le_of_ble_eq_true rfl) (Nat.le_of_ble_eq_true rfl) rfl dX0_open_16 (fun q1 => ?_)
    refine a_callVi hS (rst := []) (c_Rul_best hW 1 q1.1 q1.2 ) miX7_best mlX0_138 (sA11 hW) rfl rfl (Nat.le_of_ble_eq_true rfl) (Nat.le_of_ble_eq_true rfl) (Nat.le_of_ble_eq_true rfl) rfl dX0_open_19 (fun q2 => ?_)
    refine a_goto hS (tgt := 26) dX0_open_22 (by decide) ?_
    exact k_Blk_open_26 hS hN hW   a0 q2.1 q2.2
noncomputable def Blk_match_43b (r17 : Int → Mem → Option (Int × Mem))  (r43 : Int → Int → Mem → Option (Int × Mem)) (x3 : Int) (x4 : Int) (σ : Mem) : Option (Int × Mem) := (Row_get 298 (x3 + 1) σ).bind fun q7 => if wr x4 < wr q7.1 then ((Blk_findRules x4 q7.2).bind fun q8 => (Blk_close x4 q8.2).bind fun q9 => (Blk_open x4 q9.2).bind fun q10 => r43 x3 (x4 + 1) q10.2) else (r17 (x3 + 1) q7.2)
noncomputable def Blk_match_43 (r17 : Int → Mem → Option (Int × Mem))  (n : Nat) : Int → Int → Mem → Option (Int × Mem) := fixN (fun _ _ _ => none) (Blk_match_43b r17 ) n
noncomputable def Blk_match_17b   (r17 : Int → Mem → Option (Int × Mem)) (x3 : Int) (σ : Mem) : Option (Int × Mem) := if wr x3 < wr (σ 2 0) then ((Blk_saveStack x3 σ).bind fun q5 => (Row_get 298 x3 q5.2).bind fun q6 => Blk_match_43 r17 100000 x3 q6.1 q6.2) else ((Blk_saveStack (σ 2 0) σ).bind fun q4 => some (0, q4.2))
noncomputable def Blk_match_17   (n : Nat) : Int → Mem → Option (Int × Mem) := fixN (fun _ _ => none) (Blk_match_17b  ) n
noncomputable def Blk_match  (σ : Mem) : Option (Int × Mem) := letM (upM σ 304 11 0) fun s1 => letM (upM s1 304 12 0) fun s2 => letM (upM s2 304 13 0) fun s3 => Blk_match_17 100000 0 s3
set_option maxRecDepth 100000 in
set_option maxHeartbeats 4000000 in
theorem k_Blk_match_43 {X : Cx} {w : Wd} {x : Int × Mem} (hS : Std X (rmN 4 101) w cX0_match RX0 none) (hN : cxn X = 5) (hW : shp w = ShA)  (r17 : Int → Mem → Option (Int × Mem)) (hr17 : ∀ (x3 : Int) (σ : Mem), Sm X (rmN 4 101) w 0 x 17 [some (rf w 304), some (rf w 1), some (rf w 289), some (iv x3), none] [] σ (r17 x3 σ)) : ∀ (n : Nat) (x3 : Int) (x4 : Int) (σ : Mem), Sm X (rmN 4 101) w 0 x 43 [some (rf w 304), some (rf w 1), some (rf w 289), some (iv x3), some (iv x4)] [] σ (Blk_match_43 r17  n x3 x4 σ) := by
  refine fix_ok (P := fun (r43 : Int → Int → Mem → Option (Int × Mem)) => ∀ (x3 : Int) (x4 : Int) (σ : Mem), Sm X (rmN 4 101) w 0 x 43 [some (rf w 304), some (rf w 1), some (rf w 289), some (iv x3), some (iv x4)] [] σ (r43 x3 x4 σ)) (fun _ _ _ => a_none) (fun r43 hr43 => ?_)
  intro x3 x4 σ
  unfold Blk_match_43b
  refine a_iload hS dX0_match_43 rfl ?_
  refine a_aload_n hS dX0_match_45 rfl ?_
  refine a_getR hS (j := 298) dX0_match_46 flX0_74 (sA289 hW) rfl ?_
  refine a_iload_n hS dX0_match_49 rfl ?_
  refine a_iconst hS dX0_match_50 ?_
  refine a_iadd hS dX0_match_51 ?_
  refine a_callVi hS (rst := [iv x4]) (c_Row_get hW 298 (x3 + 1) σ iRow298) miX5_get mlX0_79 (sA298 hW) rfl rfl (Nat.le_of_ble_eq_true rfl) (Nat.le_of_ble_eq_true rfl) (Nat.le_of_ble_eq_true rfl) rfl dX0_match_52 (fun q7 => ?_)
  refine a_icmpge hS rfl rfl (tgt := 93) dX0_match_55 (by decide) ?_ ?_
  · refine a_iinc hS (L' := [some (rf w 304), some (rf w 1), some (rf w 289), some (iv (x3 + 1)), some (iv x4)]) dX0_match_93 rfl hN (Nat.le_of_ble_eq_true rfl) rfl rfl ?_
    refine a_goto hS (tgt := 17) dX0_match_96 (by decide) ?_
    exact a_live (M := [true, true, true, true, false]) (hr17 (x3 + 1) q7.2) rfl
  · refine a_aload_n hS dX0_match_58 rfl ?_
    refine a_iload hS dX0_match_59 rfl ?_
    refine a_aload_n hS dX0_match_61 rfl ?_
    refine a_aload_n hS dX0_match_62 rfl ?_
    refine a_callVv hS (rst := []) (c_Blk_findRules hW x4 q7.2 ) miX0_findRules mlX0_83 (sA304 hW) rfl rfl (Nat.le_of_ble_eq_true rfl) (Nat.le_of_ble_eq_true rfl) (Nat.le_of_ble_eq_true rfl) rfl dX0_match_63 (fun q8 => ?_)
    refine a_aload_n hS dX0_match_66 rfl ?_
    refine a_iload hS dX0_match_67 rfl ?_
    refine a_aload_n hS dX0_match_69 rfl ?_
    refine a_getR hS (j := 11) dX0_match_70 flX0_87 (sA1 hW) rfl ?_
    refine a_callVv hS (rst := []) (c_Blk_close hW x4 q8.2 ) miX0_close mlX0_91 (sA304 hW) rfl rfl (Nat.le_of_ble_eq_true rfl) (Nat.le_of_ble_eq_true rfl) (Nat.le_of_ble_eq_true rfl) rfl dX0_match_73 (fun q9 => ?_)
    refine a_aload_n hS dX0_match_76 rfl ?_
    refine a_iload hS dX0_match_77 rfl ?_
    refine a_aload_n hS dX0_match_79 rfl ?_
    refine a_getR hS (j := 11) dX0_match_80 flX0_87 (sA1 hW) rfl ?_
    refine a_aload_n hS dX0_match_83 rfl ?_
    refine a_callVv hS (rst := []) (c_Blk_open hW x4 q9.2 ) miX0_open mlX0_95 (sA304 hW) rfl rfl (Nat.le_of_ble_eq_true rfl) (Nat.le_of_ble_eq_true rfl) (Nat.le_of_ble_eq_true rfl) rfl dX0_match_84 (fun q10 => ?_)
    refine a_iinc hS (L' := [some (rf w 304), some (rf w 1), some (rf w 289), some (iv x3), some (iv (x4 + 1))]) dX0_match_87 rfl hN (Nat.le_of_ble_eq_true rfl) rfl rfl ?_
    refine a_goto hS (tgt := 43) dX0_match_90 (by decide) ?_
    exact hr43 x3 (x4 + 1) q10.2
set_option maxRecDepth 100000 in
set_option maxHeartbeats 4000000 in
theorem k_Blk_match_17 {X : Cx} {w : Wd} {x : Int × Mem} (hS : Std X (rmN 4 101) w cX0_match RX0 none) (hN : cxn X = 5) (hW : shp w = ShA)   : ∀ (n : Nat) (x3 : Int) (σ : Mem), Sm X (rmN 4 101) w 0 x 17 [some (rf w 304), some (rf w 1), some (rf w 289), some (iv x3), none] [] σ (Blk_match_17   n x3 σ) := by
  refine fix_ok (P := fun (r17 : Int → Mem → Option (Int × Mem)) => ∀ (x3 : Int) (σ : Mem), Sm X (rmN 4 101) w 0 x 17 [some (rf w 304), some (rf w 1), some (rf w 289), some (iv x3), none] [] σ (r17 x3 σ)) (fun _ _ => a_none) (fun r17 hr17 => ?_)
  intro x3 σ
  unfold Blk_match_17b
  refine a_iload_n hS dX0_match_17 rfl ?_
  refine a_aload_n hS dX0_match_18 rfl ?_
  refine a_getR hS (j := 2) dX0_match_19 flX0_60 (sA1 hW) rfl ?_
  refine a_getI hS dX0_match_22 flX0_66 (sA2 hW) rfl ?_
  refine a_icmpge hS rfl rfl (tgt := 99) dX0_match_25 (by decide) ?_ ?_
  · refine a_aload_n hS dX0_match_99 rfl ?_
    refine a_aload_n hS dX0_match_100 rfl ?_
    refine a_getR hS (j := 2) dX0_match_101 flX0_60 (sA1 hW) rfl ?_
    refine a_getI hS dX0_match_104 flX0_66 (sA2 hW) rfl ?_
    refine a_callVv hS (rst := []) (c_Blk_saveStack hW (σ 2 0) σ ) miX0_saveStack mlX0_71 (sA304 hW) rfl rfl (Nat.le_of_ble_eq_true rfl) (Nat.le_of_ble_eq_true rfl) (Nat.le_of_ble_eq_true rfl) rfl dX0_match_107 (fun q4 => ?_)
    exact a_vret hS rfl rfl dX0_match_110
  · refine a_aload_n hS dX0_match_28 rfl ?_
    refine a_iload_n hS dX0_match_29 rfl ?_
    refine a_callVv hS (rst := []) (c_Blk_saveStack hW x3 σ ) miX0_saveStack mlX0_71 (sA304 hW) rfl rfl (Nat.le_of_ble_eq_true rfl) (Nat.le_of_ble_eq_true rfl) (Nat.le_of_ble_eq_true rfl) rfl dX0_match_30 (fun q5 => ?_)
    refine a_aload_n hS dX0_match_33 rfl ?_
    refine a_getR hS (j := 298) dX0_match_34 flX0_74 (sA289 hW) rfl ?_
    refine a_iload_n hS dX0_match_37 rfl ?_
    refine a_callVi hS (rst := []) (c_Row_get hW 298 x3 q5.2 iRow298) miX5_get mlX0_79 (sA298 hW) rfl rfl (Nat.le_of_ble_eq_true rfl) (Nat.le_of_ble_eq_true rfl) (Nat.le_of_ble_eq_true rfl) rfl dX0_match_38 (fun q6 => ?_)
    refine a_istore hS (L' := [some (rf w 304), some (rf w 1), some (rf w 289), some (iv x3), some (iv q6.1)]) dX0_match_41 hN (Nat.le_of_ble_eq_true rfl) rfl rfl ?_
    exact k_Blk_match_43 hS hN hW  r17 hr17 100000 x3 q6.1 q6.2
set_option maxRecDepth 100000 in
set_option maxHeartbeats 4000000 in
theorem c_Blk_match {l : Launch} {w : Wd} (hW : shp w = ShA)  (σ : Mem)  : Ctr l w yX0_match cX0_match 5 none (rmN 4 101) 0 [rf w 304, rf w 1, rf w 289] σ (Blk_match  σ) := by
  refine met_of (own := RX0) (by decide) rfl rfl rfl (Nat.le_of_ble_eq_true rfl) (fun X x hXl hN hS => ⟨[some (rf w 304), some (rf w 1), some (rf w 289), none, none], ⟨2, rfl⟩, ?_⟩)
  subst hXl
  unfold Blk_match
  refine a_aload_n hS dX0_match_0 rfl ?_
  refine a_iconst hS dX0_match_1 ?_
  refine a_putI hS dX0_match_2 plX0_50 (sA304 hW) rfl ?_
  refine a_letM (fun s1 => ?_)
  refine a_aload_n hS dX0_match_5 rfl ?_
  refine a_iconst hS dX0_match_6 ?_
  refine a_putI hS dX0_match_7 plX0_54 (sA304 hW) rfl ?_
  refine a_letM (fun s2 => ?_)
  refine a_aload_n hS dX0_match_10 rfl ?_
  refine a_iconst hS dX0_match_11 ?_
  refine a_putI hS dX0_match_12 plX0_57 (sA304 hW) rfl ?_
  refine a_letM (fun s3 => ?_)
  refine a_iconst hS dX0_match_15 ?_
  refine a_istore_n hS (L' := [some (rf w 304), some (rf w 1), some (rf w 289), some (iv 0), none]) dX0_match_16 hN (Nat.le_of_ble_eq_true rfl) rfl rfl ?_
  exact k_Blk_match_17 hS hN hW   100000 0 s3
noncomputable def Blk_openBefore (a0 : Int) (a1 : Int) (σ : Mem) : Option (Int × Mem) := if wr a1 < 0 then (some ((-1), σ)) else ((Row_get 321 a0 σ).bind fun q1 => if wr a1 < wr q1.1 then ((Row_get 323 ((a0 * 12) + a1) q1.2).bind fun q2 => some (q2.1, q2.2)) else (some ((-1), q1.2)))
set_option maxRecDepth 100000 in
set_option maxHeartbeats 4000000 in
theorem c_Blk_openBefore {l : Launch} {w : Wd} (hW : shp w = ShA) (a0 : Int) (a1 : Int) (σ : Mem)  : Ctr l w yX0_openBefore cX0_openBefore 3 (some .int) (rmN 1 21) 1 [rf w 304, iv a0, iv a1] σ (Blk_openBefore a0 a1 σ) := by
  refine met_of (own := RX0) (by decide) rfl rfl rfl (Nat.le_of_ble_eq_true rfl) (fun X x hXl hN hS => ⟨[some (rf w 304), some (iv a0), some (iv a1)], ⟨0, rfl⟩, ?_⟩)
  subst hXl
  unfold Blk_openBefore
  refine a_iload_n hS dX0_openBefore_0 rfl ?_
  refine a_iflt hS rfl  (tgt := 32) dX0_openBefore_1 (by decide) ?_ ?_
  · refine a_iconst hS dX0_openBefore_32 ?_
    exact a_iret hS rfl rfl dX0_openBefore_33
  · refine a_iload_n hS dX0_openBefore_4 rfl ?_
    refine a_aload_n hS dX0_openBefore_5 rfl ?_
    refine a_getR hS (j := 321) dX0_openBefore_6 flX0_41 (sA304 hW) rfl ?_
    refine a_iload_n hS dX0_openBefore_9 rfl ?_
    refine a_callVi hS (rst := [iv a1]) (c_Row_get hW 321 a0 σ iRow321) miX5_get mlX0_79 (sA321 hW) rfl rfl (Nat.le_of_ble_eq_true rfl) (Nat.le_of_ble_eq_true rfl) (Nat.le_of_ble_eq_true rfl) rfl dX0_openBefore_10 (fun q1 => ?_)
    refine a_icmpge hS rfl rfl (tgt := 32) dX0_openBefore_13 (by decide) ?_ ?_
    · refine a_iconst hS dX0_openBefore_32 ?_
      exact a_iret hS rfl rfl dX0_openBefore_33
    · refine a_aload_n hS dX0_openBefore_16 rfl ?_
      refine a_getR hS (j := 323) dX0_openBefore_17 flX0_44 (sA304 hW) rfl ?_
      refine a_iload_n hS dX0_openBefore_20 rfl ?_
      refine a_bipush hS dX0_openBefore_21 rfl ?_
      refine a_imul hS dX0_openBefore_23 ?_
      refine a_iload_n hS dX0_openBefore_24 rfl ?_
      refine a_iadd hS dX0_openBefore_25 ?_
      refine a_callVi hS (rst := []) (c_Row_get hW 323 ((a0 * 12) + a1) q1.2 iRow323) miX5_get mlX0_79 (sA323 hW) rfl rfl (Nat.le_of_ble_eq_true rfl) (Nat.le_of_ble_eq_true rfl) (Nat.le_of_ble_eq_true rfl) rfl dX0_openBefore_26 (fun q2 => ?_)
      refine a_goto hS (tgt := 33) dX0_openBefore_29 (by decide) ?_
      exact a_iret hS rfl rfl dX0_openBefore_33
noncomputable def Blk_lastLeadingCloser_5b   (r5 : Int → Int → Int → Mem → Option (Int × Mem)) (x2 : Int) (x3 : Int) (x4 : Int) (σ : Mem) : Option (Int × Mem) := if wr x4 < wr x2 then ((Row_get 311 x4 σ).bind fun q1 => if wr q1.1 = (-1) then (some (x3, q1.2)) else ((Row_get 309 x4 q1.2).bind fun q2 => if wr q2.1 = (-1) then (r5 x2 x4 (x4 + 1) q2.2) else (some (x4, q2.2)))) else (some (x3, σ))
noncomputable def Blk_lastLeadingCloser_5   (n : Nat) : Int → Int → Int → Mem → Option (Int × Mem) := fixN (fun _ _ _ _ => none) (Blk_lastLeadingCloser_5b  ) n
noncomputable def Blk_lastLeadingCloser (a0 : Int) (a1 : Int) (σ : Mem) : Option (Int × Mem) := Blk_lastLeadingCloser_5 100000 a1 (-1) a0 σ
set_option maxRecDepth 100000 in
set_option maxHeartbeats 4000000 in
theorem k_Blk_lastLeadingCloser_5 {X : Cx} {w : Wd} {x : Int × Mem} (hS : Std X (rmN 1 21) w cX0_lastLeadingCloser RX0 (some .int)) (hN : cxn X = 5) (hW : shp w = ShA)   : ∀ (n : Nat) (x2 : Int) (x3 : Int) (x4 : Int) (σ : Mem), Sm X (rmN 1 21) w 1 x 5 [some (rf w 304), none, some (iv x2), some (iv x3), some (iv x4)] [] σ (Blk_lastLeadingCloser_5   n x2 x3 x4 σ) := by
  refine fix_ok (P := fun (r5 : Int → Int → Int → Mem → Option (Int × Mem)) => ∀ (x2 : Int) (x3 : Int) (x4 : Int) (σ : Mem), Sm X (rmN 1 21) w 1 x 5 [some (rf w 304), none, some (iv x2), some (iv x3), some (iv x4)] [] σ (r5 x2 x3 x4 σ)) (fun _ _ _ _ => a_none) (fun r5 hr5 => ?_)
  intro x2 x3 x4 σ
  unfold Blk_lastLeadingCloser_5b
  refine a_iload hS dX0_lastLeadingCloser_5 rfl ?_
  refine a_iload_n hS dX0_lastLeadingCloser_7 rfl ?_
  refine a_icmpge hS rfl rfl (tgt := 50) dX0_lastLeadingCloser_8 (by decide) ?_ ?_
  · refine a_iload_n hS dX0_lastLeadingCloser_50 rfl ?_
    exact a_iret hS rfl rfl dX0_lastLeadingCloser_51
  · refine a_aload_n hS dX0_lastLeadingCloser_11 rfl ?_
    refine a_getR hS (j := 311) dX0_lastLeadingCloser_12 flX0_26 (sA304 hW) rfl ?_
    refine a_iload hS dX0_lastLeadingCloser_15 rfl ?_
    refine a_callVi hS (rst := []) (c_Row_get hW 311 x4 σ iRow311) miX5_get mlX0_79 (sA311 hW) rfl rfl (Nat.le_of_ble_eq_true rfl) (Nat.le_of_ble_eq_true rfl) (Nat.le_of_ble_eq_true rfl) rfl dX0_lastLeadingCloser_17 (fun q1 => ?_)
    refine a_iconst hS dX0_lastLeadingCloser_20 ?_
    refine a_icmpne hS rfl (wl (-1) rfl) (tgt := 26) dX0_lastLeadingCloser_21 (by decide) ?_ ?_
    · refine a_iload hS dX0_lastLeadingCloser_26 rfl ?_
      refine a_istore_n hS (L' := [some (rf w 304), none, some (iv x2), some (iv x4), some (iv x4)]) dX0_lastLeadingCloser_28 hN (Nat.le_of_ble_eq_true rfl) rfl rfl ?_
      refine a_aload_n hS dX0_lastLeadingCloser_29 rfl ?_
      refine a_getR hS (j := 309) dX0_lastLeadingCloser_30 flX0_23 (sA304 hW) rfl ?_
      refine a_iload hS dX0_lastLeadingCloser_33 rfl ?_
      refine a_callVi hS (rst := []) (c_Row_get hW 309 x4 q1.2 iRow309) miX5_get mlX0_79 (sA309 hW) rfl rfl (Nat.le_of_ble_eq_true rfl) (Nat.le_of_ble_eq_true rfl) (Nat.le_of_ble_eq_true rfl) rfl dX0_lastLeadingCloser_35 (fun q2 => ?_)
      refine a_iconst hS dX0_lastLeadingCloser_38 ?_
      refine a_icmpeq hS rfl (wl (-1) rfl) (tgt := 44) dX0_lastLeadingCloser_39 (by decide) ?_ ?_
      · refine a_iinc hS (L' := [some (rf w 304), none, some (iv x2), some (iv x4), some (iv (x4 + 1))]) dX0_lastLeadingCloser_44 rfl hN (Nat.le_of_ble_eq_true rfl) rfl rfl ?_
        refine a_goto hS (tgt := 5) dX0_lastLeadingCloser_47 (by decide) ?_
        exact hr5 x2 x4 (x4 + 1) q2.2
      · refine a_iload_n hS dX0_lastLeadingCloser_42 rfl ?_
        exact a_iret hS rfl rfl dX0_lastLeadingCloser_43
    · refine a_iload_n hS dX0_lastLeadingCloser_24 rfl ?_
      exact a_iret hS rfl rfl dX0_lastLeadingCloser_25
set_option maxRecDepth 100000 in
set_option maxHeartbeats 4000000 in
theorem c_Blk_lastLeadingCloser {l : Launch} {w : Wd} (hW : shp w = ShA) (a0 : Int) (a1 : Int) (σ : Mem)  : Ctr l w yX0_lastLeadingCloser cX0_lastLeadingCloser 5 (some .int) (rmN 1 21) 1 [rf w 304, iv a0, iv a1] σ (Blk_lastLeadingCloser a0 a1 σ) := by
  refine met_of (own := RX0) (by decide) rfl rfl rfl (Nat.le_of_ble_eq_true rfl) (fun X x hXl hN hS => ⟨[some (rf w 304), some (iv a0), some (iv a1), none, none], ⟨2, rfl⟩, ?_⟩)
  subst hXl
  unfold Blk_lastLeadingCloser
  refine a_iconst hS dX0_lastLeadingCloser_0 ?_
  refine a_istore_n hS (L' := [some (rf w 304), some (iv a0), some (iv a1), some (iv (-1)), none]) dX0_lastLeadingCloser_1 hN (Nat.le_of_ble_eq_true rfl) rfl rfl ?_
  refine a_iload_n hS dX0_lastLeadingCloser_2 rfl ?_
  refine a_istore hS (L' := [some (rf w 304), some (iv a0), some (iv a1), some (iv (-1)), some (iv a0)]) dX0_lastLeadingCloser_3 hN (Nat.le_of_ble_eq_true rfl) rfl rfl ?_
  exact a_live (M := [true, false, true, true, true]) (k_Blk_lastLeadingCloser_5 hS hN hW   100000 a1 (-1) a0 σ) rfl
