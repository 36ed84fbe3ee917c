/-! ===== drawLine and draw: a walk with String constants ===== -/
noncomputable def Ai_drawLine_111b (r66 : Int → Int → Int → Int → Mem → Option (Int × Mem)) (r111 : Int → Int → Int → Int → Nat → Int → Mem → Option (Int × Mem)) (x2 : Int) (x3 : Int) (x4 : Int) (x5 : Int) (k : Nat) (x7 : Int) (σ : Mem) : Option (Int × Mem) := if k < 16 then ((some (slI k, σ)).bind fun q1 => if wr x7 < wr q1.1 then (if 0 ≤ wr x7 ∧ wr x7 < slI k then ((some (sbI k (wr x7).toNat, q1.2)).bind fun q2 => (Lin_append x2 q2.1 q2.2).bind fun q3 => r111 x2 x3 x4 x5 k (x7 + 1) q3.2) else none) else (r66 x2 x3 x4 (x5 + 1) q1.2)) else none
noncomputable def Ai_drawLine_111 (r66 : Int → Int → Int → Int → Mem → Option (Int × Mem)) (n : Nat) : Int → Int → Int → Int → Nat → Int → Mem → Option (Int × Mem) := fixN (fun _ _ _ _ _ _ _ => none) (Ai_drawLine_111b r66) n
noncomputable def Ai_drawLine_91 (r66 : Int → Int → Int → Int → Mem → Option (Int × Mem)) (x2 : Int) (x3 : Int) (x4 : Int) (x5 : Int) (σ : Mem) : Option (Int × Mem) := (Ai_nextSeed x3 σ).bind fun q3 => (Ai_drawnNumber q3.1 q3.2).bind fun q4 => if 0 ≤ wr ((wr q4.1).tmod (wr 16)) ∧ wr ((wr q4.1).tmod (wr 16)) < 16 then (Ai_drawLine_111 r66 100000 x2 q3.1 x4 x5 (wr ((wr q4.1).tmod (wr 16))).toNat 0 q4.2) else none
noncomputable def Ai_drawLine_66b (r66 : Int → Int → Int → Int → Mem → Option (Int × Mem)) (x2 : Int) (x3 : Int) (x4 : Int) (x5 : Int) (σ : Mem) : Option (Int × Mem) := if wr x5 < wr x4 then (if 0 < wr x5 then ((Lin_append x2 32 σ).bind fun q2 => Ai_drawLine_91 r66 x2 x3 x4 x5 q2.2) else (Ai_drawLine_91 r66 x2 x3 x4 x5 σ)) else (some (x3, σ))
noncomputable def Ai_drawLine_66 (n : Nat) : Int → Int → Int → Int → Mem → Option (Int × Mem) := fixN (fun _ _ _ _ _ => none) Ai_drawLine_66b n
noncomputable def Ai_drawLine (a0 : Int) (σ : Mem) : Option (Int × Mem) := (Lin_openGap (σ 2 0) σ).bind fun q1 => (Ai_nextSeed a0 q1.2).bind fun q2 => (Ai_drawnNumber q2.1 q2.2).bind fun q3 => (Row_set 3 (σ 2 0) ((wr q3.1).tmod (wr 12)) q3.2).bind fun q4 => (Ai_nextSeed q2.1 q4.2).bind fun q5 => (Ai_drawnNumber q5.1 q5.2).bind fun q6 => Ai_drawLine_66 100000 (σ 2 0) q5.1 (1 + ((wr q6.1).tmod (wr 3))) 0 q6.2
noncomputable def Ai_draw_40b (r40 : Int → Int → Int → Mem → Option (Int × Mem)) (x3 : Int) (x4 : Int) (x5 : Int) (σ : Mem) : Option (Int × Mem) := if wr x5 < wr x3 then ((Ai_drawLine x4 σ).bind fun q1 => r40 x3 q1.1 (x5 + 1) q1.2) else (some (x3, σ))
noncomputable def Ai_draw_40 (n : Nat) : Int → Int → Int → Mem → Option (Int × Mem) := fixN (fun _ _ _ _ => none) Ai_draw_40b n
noncomputable def Ai_draw (a0 : Int) (a1 : Int) (σ : Mem) : Option (Int × Mem) := (Ai_within a1 1 12 σ).bind fun q1 => if wr q1.1 = 0 then (some ((-1), q1.2)) else ((Ai_beginChange q1.2).bind fun q2 => Ai_draw_40 100000 (mminI a1 (20 - (q2.2 2 0))) a0 0 q2.2)
set_option maxRecDepth 100000 in
set_option maxHeartbeats 4000000 in
theorem k_Ai_drawLine_111 {X : Cx} {w : Wd} {ad : Ad} {x : Int × Mem} (hS : Std X (rmN 4 85) w cX11_drawLine RX11 (some .int)) (hZ : StrX ad X) (hN : cxn X = 8) (hW : shp w = ShA) (r66 : Int → Int → Int → Int → Mem → Option (Int × Mem)) (hr66 : ∀ (x2 x3 x4 x5 : Int) (σ : Mem), Sm X (rmN 4 85) w 1 x 66 [some (rf w 0), none, some (iv x2), some (iv x3), some (iv x4), some (iv x5), none, none] [] σ (r66 x2 x3 x4 x5 σ)) : ∀ (n : Nat) (x2 x3 x4 x5 : Int) (k : Nat) (x7 : Int) (σ : Mem), Sm X (rmN 4 85) w 1 x 111 [some (rf w 0), none, some (iv x2), some (iv x3), some (iv x4), some (iv x5), some (.ref (ad.1 k)), some (iv x7)] [] σ (Ai_drawLine_111 r66 n x2 x3 x4 x5 k x7 σ) := by
  refine fix_ok (P := fun (r111 : Int → Int → Int → Int → Nat → Int → Mem → Option (Int × Mem)) => ∀ (x2 x3 x4 x5 : Int) (k : Nat) (x7 : Int) (σ : Mem), Sm X (rmN 4 85) w 1 x 111 [some (rf w 0), none, some (iv x2), some (iv x3), some (iv x4), some (iv x5), some (.ref (ad.1 k)), some (iv x7)] [] σ (r111 x2 x3 x4 x5 k x7 σ)) (fun _ _ _ _ _ _ _ => a_none) (fun r111 hr111 => ?_)
  intro x2 x3 x4 x5 k x7 σ
  unfold Ai_drawLine_111b
  refine a_chk (fun hk => ?_)
  refine a_iload hS dX11_drawLine_111 rfl ?_
  refine a_aloadS hS dX11_drawLine_113 rfl ?_
  refine a_callVx hS hZ (As := []) (rst := [iv x7]) (c_length k hk) hk miJ0_length_8abf5 mlX11_386 rfl (Nat.le_of_ble_eq_true rfl) (Nat.le_of_ble_eq_true rfl) (Nat.le_of_ble_eq_true rfl) rfl dX11_drawLine_115 (fun q1 hq1 => ?_)
  refine a_icmpge hS rfl rfl (tgt := 145) dX11_drawLine_118 (by decide) ?_ ?_
  · refine a_iinc hS (L' := [some (rf w 0), none, some (iv x2), some (iv x3), some (iv x4), some (iv (x5 + 1)), some (.ref (ad.1 k)), some (iv x7)]) dX11_drawLine_145 rfl hN (Nat.le_of_ble_eq_true rfl) rfl rfl ?_
    refine a_goto hS (tgt := 66) dX11_drawLine_148 (by decide) ?_
    exact a_live (M := [true, false, true, true, true, true, false, false]) (hr66 x2 x3 x4 (x5 + 1) q1.2) rfl
  · refine a_chk (fun hi => ?_)
    refine a_aload_n hS dX11_drawLine_121 rfl ?_
    refine a_getR hS (j := 1) dX11_drawLine_122 flX11_12 (sA0 hW) rfl ?_
    refine a_getR hS (j := 2) dX11_drawLine_125 flX11_96 (sA1 hW) rfl ?_
    refine a_iload_n hS dX11_drawLine_128 rfl ?_
    refine a_aloadS hS dX11_drawLine_129 rfl ?_
    refine a_iload hS dX11_drawLine_131 rfl ?_
    refine a_callVx hS hZ (As := [iv x7]) (rst := [iv x2, rf w 2]) (c_charAt k hk x7 hi) hk miJ0_charAt_5068e mlX11_391 rfl (Nat.le_of_ble_eq_true rfl) (Nat.le_of_ble_eq_true rfl) (Nat.le_of_ble_eq_true rfl) rfl dX11_drawLine_133 (fun q2 hq2 => ?_)
    refine a_callVv hS (rst := []) (c_Lin_append hW x2 q2.1 q2.2) miX3_append mlX11_379 (sA2 hW) rfl rfl (Nat.le_of_ble_eq_true rfl) (Nat.le_of_ble_eq_true rfl) (Nat.le_of_ble_eq_true rfl) rfl dX11_drawLine_136 (fun q3 => ?_)
    refine a_iinc hS (L' := [some (rf w 0), none, some (iv x2), some (iv x3), some (iv x4), some (iv x5), some (.ref (ad.1 k)), some (iv (x7 + 1))]) dX11_drawLine_139 rfl hN (Nat.le_of_ble_eq_true rfl) rfl rfl ?_
    refine a_goto hS (tgt := 111) dX11_drawLine_142 (by decide) ?_
    exact hr111 x2 x3 x4 x5 k (x7 + 1) q3.2
set_option maxRecDepth 100000 in
set_option maxHeartbeats 4000000 in
theorem k_Ai_drawLine_91 {X : Cx} {w : Wd} {ad : Ad} {x : Int × Mem} (hS : Std X (rmN 4 85) w cX11_drawLine RX11 (some .int)) (hZ : StrX ad X) (hN : cxn X = 8) (hW : shp w = ShA) (r66 : Int → Int → Int → Int → Mem → Option (Int × Mem)) (hr66 : ∀ (x2 x3 x4 x5 : Int) (σ : Mem), Sm X (rmN 4 85) w 1 x 66 [some (rf w 0), none, some (iv x2), some (iv x3), some (iv x4), some (iv x5), none, none] [] σ (r66 x2 x3 x4 x5 σ)) (x2 x3 x4 x5 : Int) (σ : Mem) : Sm X (rmN 4 85) w 1 x 91 [some (rf w 0), none, some (iv x2), some (iv x3), some (iv x4), some (iv x5), none, none] [] σ (Ai_drawLine_91 r66 x2 x3 x4 x5 σ) := by
  unfold Ai_drawLine_91
  refine a_iload_n hS dX11_drawLine_91 rfl ?_
  refine a_callSi hS (rst := []) (c_Ai_nextSeed hW x3 σ) msX11_nextSeed mlX11_373 rfl (Nat.le_of_ble_eq_true rfl) (Nat.le_of_ble_eq_true rfl) (Nat.le_of_ble_eq_true rfl) rfl dX11_drawLine_92 (fun q3 => ?_)
  refine a_istore_n hS (L' := [some (rf w 0), none, some (iv x2), some (iv q3.1), some (iv x4), some (iv x5), none, none]) dX11_drawLine_95 hN (Nat.le_of_ble_eq_true rfl) rfl rfl ?_
  refine a_iload_n hS dX11_drawLine_96 rfl ?_
  refine a_callSi hS (rst := []) (c_Ai_drawnNumber hW q3.1 q3.2) msX11_drawnNumber mlX11_376 rfl (Nat.le_of_ble_eq_true rfl) (Nat.le_of_ble_eq_true rfl) (Nat.le_of_ble_eq_true rfl) rfl dX11_drawLine_97 (fun q4 => ?_)
  refine a_chk (fun hk => ?_)
  refine a_bipush hS dX11_drawLine_100 rfl ?_
  refine a_irem hS dX11_drawLine_102 (by decide) ?_
  refine a_callP hS hZ hk (Nat.le_of_ble_eq_true rfl) (Nat.le_of_ble_eq_true rfl) (Nat.le_of_ble_eq_true rfl) dX11_drawLine_103 ?_
  refine a_astoreS hS (L' := [some (rf w 0), none, some (iv x2), some (iv q3.1), some (iv x4), some (iv x5), some (.ref (ad.1 (wr ((wr q4.1).tmod (wr 16))).toNat)), none]) dX11_drawLine_106 hN (Nat.le_of_ble_eq_true rfl) rfl rfl ?_
  refine a_iconst hS dX11_drawLine_108 ?_
  refine a_istore hS (L' := [some (rf w 0), none, some (iv x2), some (iv q3.1), some (iv x4), some (iv x5), some (.ref (ad.1 (wr ((wr q4.1).tmod (wr 16))).toNat)), some (iv 0)]) dX11_drawLine_109 hN (Nat.le_of_ble_eq_true rfl) rfl rfl ?_
  exact k_Ai_drawLine_111 hS hZ hN hW r66 hr66 100000 x2 q3.1 x4 x5 _ 0 q4.2
set_option maxRecDepth 100000 in
set_option maxHeartbeats 4000000 in
theorem k_Ai_drawLine_66 {X : Cx} {w : Wd} {ad : Ad} {x : Int × Mem} (hS : Std X (rmN 4 85) w cX11_drawLine RX11 (some .int)) (hZ : StrX ad X) (hN : cxn X = 8) (hW : shp w = ShA) : ∀ (n : Nat) (x2 x3 x4 x5 : Int) (σ : Mem), Sm X (rmN 4 85) w 1 x 66 [some (rf w 0), none, some (iv x2), some (iv x3), some (iv x4), some (iv x5), none, none] [] σ (Ai_drawLine_66 n x2 x3 x4 x5 σ) := by
  refine fix_ok (P := fun (r66 : Int → Int → Int → Int → Mem → Option (Int × Mem)) => ∀ (x2 x3 x4 x5 : Int) (σ : Mem), Sm X (rmN 4 85) w 1 x 66 [some (rf w 0), none, some (iv x2), some (iv x3), some (iv x4), some (iv x5), none, none] [] σ (r66 x2 x3 x4 x5 σ)) (fun _ _ _ _ _ => a_none) (fun r66 hr66 => ?_)
  intro x2 x3 x4 x5 σ
  unfold Ai_drawLine_66b
  refine a_iload hS dX11_drawLine_66 rfl ?_
  refine a_iload hS dX11_drawLine_68 rfl ?_
  refine a_icmpge hS rfl rfl (tgt := 151) dX11_drawLine_70 (by decide) ?_ ?_
  · refine a_iload_n hS dX11_drawLine_151 rfl ?_
    exact a_iret hS rfl rfl dX11_drawLine_152
  · refine a_iload hS dX11_drawLine_73 rfl ?_
    refine a_ifle hS rfl (tgt := 91) dX11_drawLine_75 (by decide) ?_ ?_
    · exact k_Ai_drawLine_91 hS hZ hN hW r66 hr66 x2 x3 x4 x5 σ
    · refine a_aload_n hS dX11_drawLine_78 rfl ?_
      refine a_getR hS (j := 1) dX11_drawLine_79 flX11_12 (sA0 hW) rfl ?_
      refine a_getR hS (j := 2) dX11_drawLine_82 flX11_96 (sA1 hW) rfl ?_
      refine a_iload_n hS dX11_drawLine_85 rfl ?_
      refine a_bipush hS dX11_drawLine_86 rfl ?_
      refine a_callVv hS (rst := []) (c_Lin_append hW x2 32 σ) miX3_append mlX11_379 (sA2 hW) rfl rfl (Nat.le_of_ble_eq_true rfl) (Nat.le_of_ble_eq_true rfl) (Nat.le_of_ble_eq_true rfl) rfl dX11_drawLine_88 (fun q2 => ?_)
      exact k_Ai_drawLine_91 hS hZ hN hW r66 hr66 x2 x3 x4 x5 q2.2
set_option maxRecDepth 100000 in
set_option maxHeartbeats 4000000 in
theorem c_Ai_drawLine {l : Launch} {w : Wd} {ad : Ad} (hW : shp w = ShA) (a0 : Int) (σ : Mem) : CtrS l w ad yX11_drawLine cX11_drawLine 8 (some .int) (rmN 4 85) 1 [rf w 0, iv a0] σ (Ai_drawLine a0 σ) := by
  refine met_ofS (own := RX11) (by decide) rfl rfl rfl (Nat.le_of_ble_eq_true rfl) (fun X x hXl hN hS hZ => ⟨[some (rf w 0), some (iv a0), none, none, none, none, none, none], ⟨6, rfl⟩, ?_⟩)
  subst hXl
  unfold Ai_drawLine
  refine a_aload_n hS dX11_drawLine_0 rfl ?_
  refine a_getR hS (j := 1) dX11_drawLine_1 flX11_12 (sA0 hW) rfl ?_
  refine a_getR hS (j := 2) dX11_drawLine_4 flX11_96 (sA1 hW) rfl ?_
  refine a_getI hS dX11_drawLine_7 flX11_100 (sA2 hW) rfl ?_
  refine a_istore_n hS (L' := [some (rf w 0), some (iv a0), some (iv (σ 2 0)), none, none, none, none, none]) dX11_drawLine_10 hN (Nat.le_of_ble_eq_true rfl) rfl rfl ?_
  refine a_aload_n hS dX11_drawLine_11 rfl ?_
  refine a_getR hS (j := 1) dX11_drawLine_12 flX11_12 (sA0 hW) rfl ?_
  refine a_getR hS (j := 2) dX11_drawLine_15 flX11_96 (sA1 hW) rfl ?_
  refine a_iload_n hS dX11_drawLine_18 rfl ?_
  refine a_callVv hS (rst := []) (c_Lin_openGap hW (σ 2 0) σ) miX3_openGap mlX11_110 (sA2 hW) rfl rfl (Nat.le_of_ble_eq_true rfl) (Nat.le_of_ble_eq_true rfl) (Nat.le_of_ble_eq_true rfl) rfl dX11_drawLine_19 (fun q1 => ?_)
  refine a_iload_n hS dX11_drawLine_22 rfl ?_
  refine a_callSi hS (rst := []) (c_Ai_nextSeed hW a0 q1.2) msX11_nextSeed mlX11_373 rfl (Nat.le_of_ble_eq_true rfl) (Nat.le_of_ble_eq_true rfl) (Nat.le_of_ble_eq_true rfl) rfl dX11_drawLine_23 (fun q2 => ?_)
  refine a_istore_n hS (L' := [some (rf w 0), some (iv a0), some (iv (σ 2 0)), some (iv q2.1), none, none, none, none]) dX11_drawLine_26 hN (Nat.le_of_ble_eq_true rfl) rfl rfl ?_
  refine a_aload_n hS dX11_drawLine_27 rfl ?_
  refine a_getR hS (j := 1) dX11_drawLine_28 flX11_12 (sA0 hW) rfl ?_
  refine a_getR hS (j := 2) dX11_drawLine_31 flX11_96 (sA1 hW) rfl ?_
  refine a_getR hS (j := 3) dX11_drawLine_34 flX11_121 (sA2 hW) rfl ?_
  refine a_iload_n hS dX11_drawLine_37 rfl ?_
  refine a_iload_n hS dX11_drawLine_38 rfl ?_
  refine a_callSi hS (rst := [iv (σ 2 0), rf w 3]) (c_Ai_drawnNumber hW q2.1 q2.2) msX11_drawnNumber mlX11_376 rfl (Nat.le_of_ble_eq_true rfl) (Nat.le_of_ble_eq_true rfl) (Nat.le_of_ble_eq_true rfl) rfl dX11_drawLine_39 (fun q3 => ?_)
  refine a_bipush hS dX11_drawLine_42 rfl ?_
  refine a_irem hS dX11_drawLine_44 (by decide) ?_
  refine a_callVv hS (rst := []) (c_Row_set hW 3 (σ 2 0) ((wr q3.1).tmod (wr 12)) q3.2 iRow3) miX5_set mlX11_151 (sA3 hW) rfl rfl (Nat.le_of_ble_eq_true rfl) (Nat.le_of_ble_eq_true rfl) (Nat.le_of_ble_eq_true rfl) rfl dX11_drawLine_45 (fun q4 => ?_)
  refine a_iload_n hS dX11_drawLine_48 rfl ?_
  refine a_callSi hS (rst := []) (c_Ai_nextSeed hW q2.1 q4.2) msX11_nextSeed mlX11_373 rfl (Nat.le_of_ble_eq_true rfl) (Nat.le_of_ble_eq_true rfl) (Nat.le_of_ble_eq_true rfl) rfl dX11_drawLine_49 (fun q5 => ?_)
  refine a_istore_n hS (L' := [some (rf w 0), some (iv a0), some (iv (σ 2 0)), some (iv q5.1), none, none, none, none]) dX11_drawLine_52 hN (Nat.le_of_ble_eq_true rfl) rfl rfl ?_
  refine a_iconst hS dX11_drawLine_53 ?_
  refine a_iload_n hS dX11_drawLine_54 rfl ?_
  refine a_callSi hS (rst := [iv 1]) (c_Ai_drawnNumber hW q5.1 q5.2) msX11_drawnNumber mlX11_376 rfl (Nat.le_of_ble_eq_true rfl) (Nat.le_of_ble_eq_true rfl) (Nat.le_of_ble_eq_true rfl) rfl dX11_drawLine_55 (fun q6 => ?_)
  refine a_iconst hS dX11_drawLine_58 ?_
  refine a_irem hS dX11_drawLine_59 (by decide) ?_
  refine a_iadd hS dX11_drawLine_60 ?_
  refine a_istore hS (L' := [some (rf w 0), some (iv a0), some (iv (σ 2 0)), some (iv q5.1), some (iv (1 + ((wr q6.1).tmod (wr 3)))), none, none, none]) dX11_drawLine_61 hN (Nat.le_of_ble_eq_true rfl) rfl rfl ?_
  refine a_iconst hS dX11_drawLine_63 ?_
  refine a_istore hS (L' := [some (rf w 0), some (iv a0), some (iv (σ 2 0)), some (iv q5.1), some (iv (1 + ((wr q6.1).tmod (wr 3)))), some (iv 0), none, none]) dX11_drawLine_64 hN (Nat.le_of_ble_eq_true rfl) rfl rfl ?_
  exact a_live (M := [true, false, true, true, true, true, false, false]) (k_Ai_drawLine_66 hS hZ hN hW 100000 (σ 2 0) q5.1 _ 0 q6.2) rfl
set_option maxRecDepth 100000 in
set_option maxHeartbeats 4000000 in
theorem k_Ai_draw_40 {X : Cx} {w : Wd} {ad : Ad} {x : Int × Mem} (hS : Std X (rmN 6 135) w cX11_draw RX11 (some .int)) (hZ : StrX ad X) (hN : cxn X = 6) (hW : shp w = ShA) : ∀ (n : Nat) (x3 x4 x5 : Int) (σ : Mem), Sm X (rmN 6 135) w 1 x 40 [some (rf w 0), none, none, some (iv x3), some (iv x4), some (iv x5)] [] σ (Ai_draw_40 n x3 x4 x5 σ) := by
  refine fix_ok (P := fun (r40 : Int → Int → Int → Mem → Option (Int × Mem)) => ∀ (x3 x4 x5 : Int) (σ : Mem), Sm X (rmN 6 135) w 1 x 40 [some (rf w 0), none, none, some (iv x3), some (iv x4), some (iv x5)] [] σ (r40 x3 x4 x5 σ)) (fun _ _ _ _ => a_none) (fun r40 hr40 => ?_)
  intro x3 x4 x5 σ
  unfold Ai_draw_40b
  refine a_iload hS dX11_draw_40 rfl ?_
  refine a_iload_n hS dX11_draw_42 rfl ?_
  refine a_icmpge hS rfl rfl (tgt := 60) dX11_draw_43 (by decide) ?_ ?_
  · refine a_iload_n hS dX11_draw_60 rfl ?_
    exact a_iret hS rfl rfl dX11_draw_61
  · refine a_aload_n hS dX11_draw_46 rfl ?_
    refine a_iload hS dX11_draw_47 rfl ?_
    refine a_callVs hS hZ (As := [iv x4]) (rst := []) (c_Ai_drawLine hW x4 σ) miX11_drawLine mlX11_322 (sA0 hW) rfl rfl (Nat.le_of_ble_eq_true rfl) (Nat.le_of_ble_eq_true rfl) (Nat.le_of_ble_eq_true rfl) rfl dX11_draw_49 (fun q1 hq1 => ?_)
    refine a_istore hS (L' := [some (rf w 0), none, none, some (iv x3), some (iv q1.1), some (iv x5)]) dX11_draw_52 hN (Nat.le_of_ble_eq_true rfl) rfl rfl ?_
    refine a_iinc hS (L' := [some (rf w 0), none, none, some (iv x3), some (iv q1.1), some (iv (x5 + 1))]) dX11_draw_54 rfl hN (Nat.le_of_ble_eq_true rfl) rfl rfl ?_
    refine a_goto hS (tgt := 40) dX11_draw_57 (by decide) ?_
    exact hr40 x3 q1.1 (x5 + 1) q1.2
set_option maxRecDepth 100000 in
set_option maxHeartbeats 4000000 in
theorem c_Ai_draw {l : Launch} {w : Wd} {ad : Ad} (hW : shp w = ShA) (a0 a1 : Int) (σ : Mem) : CtrS l w ad yX11_draw cX11_draw 6 (some .int) (rmN 6 135) 1 [rf w 0, iv a0, iv a1] σ (Ai_draw a0 a1 σ) := by
  refine met_ofS (own := RX11) (by decide) rfl rfl rfl (Nat.le_of_ble_eq_true rfl) (fun X x hXl hN hS hZ => ⟨[some (rf w 0), some (iv a0), some (iv a1), none, none, none], ⟨3, rfl⟩, ?_⟩)
  subst hXl
  unfold Ai_draw
  refine a_iload_n hS dX11_draw_0 rfl ?_
  refine a_iconst hS dX11_draw_1 ?_
  refine a_bipush hS dX11_draw_2 rfl ?_
  refine a_callSi hS (rst := []) (c_Ai_within hW a1 1 12 σ) msX11_within mlX11_85 rfl (Nat.le_of_ble_eq_true rfl) (Nat.le_of_ble_eq_true rfl) (Nat.le_of_ble_eq_true rfl) rfl dX11_draw_4 (fun q1 => ?_)
  refine a_ifne hS rfl (tgt := 12) dX11_draw_7 (by decide) ?_ ?_
  · refine a_aload_n hS dX11_draw_12 rfl ?_
    refine a_callVv hS (rst := []) (c_Ai_beginChange hW q1.2) miX11_beginChange mlX11_107 (sA0 hW) rfl rfl (Nat.le_of_ble_eq_true rfl) (Nat.le_of_ble_eq_true rfl) (Nat.le_of_ble_eq_true rfl) rfl dX11_draw_13 (fun q2 => ?_)
    refine a_iload_n hS dX11_draw_16 rfl ?_
    refine a_bipush hS dX11_draw_17 rfl ?_
    refine a_aload_n hS dX11_draw_19 rfl ?_
    refine a_getR hS (j := 1) dX11_draw_20 flX11_12 (sA0 hW) rfl ?_
    refine a_getR hS (j := 2) dX11_draw_23 flX11_96 (sA1 hW) rfl ?_
    refine a_getI hS dX11_draw_26 flX11_100 (sA2 hW) rfl ?_
    refine a_isub hS dX11_draw_29 ?_
    refine a_mmin hS mlX11_317 msJ9_min_7cf53.1 msJ9_min_7cf53.2.1 msJ9_min_7cf53.2.2.1 (Nat.le_of_ble_eq_true rfl) (Nat.le_of_ble_eq_true rfl) dX11_draw_30 ?_
    refine a_istore_n hS (L' := [some (rf w 0), some (iv a0), some (iv a1), some (iv (mminI a1 (20 - (q2.2 2 0)))), none, none]) dX11_draw_33 hN (Nat.le_of_ble_eq_true rfl) rfl rfl ?_
    refine a_iload_n hS dX11_draw_34 rfl ?_
    refine a_istore hS (L' := [some (rf w 0), some (iv a0), some (iv a1), some (iv (mminI a1 (20 - (q2.2 2 0)))), some (iv a0), none]) dX11_draw_35 hN (Nat.le_of_ble_eq_true rfl) rfl rfl ?_
    refine a_iconst hS dX11_draw_37 ?_
    refine a_istore hS (L' := [some (rf w 0), some (iv a0), some (iv a1), some (iv (mminI a1 (20 - (q2.2 2 0)))), some (iv a0), some (iv 0)]) dX11_draw_38 hN (Nat.le_of_ble_eq_true rfl) rfl rfl ?_
    exact a_live (M := [true, false, false, true, true, true]) (k_Ai_draw_40 hS hZ hN hW 100000 _ a0 0 q2.2) rfl
  · refine a_iconst hS dX11_draw_10 ?_
    exact a_iret hS rfl rfl dX11_draw_11
