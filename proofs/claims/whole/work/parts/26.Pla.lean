noncomputable def Pla_joinerBehind (a0 : Int) (σ : Mem) : Option (Int × Mem) := if wr a0 < 0 then (some ((-1), σ)) else ((Row_get 309 a0 σ).bind fun q1 => if wr q1.1 = (-1) then ((Row_get 305 a0 q1.2).bind fun q2 => (Rul_best 3 q2.1 q2.2).bind fun q3 => some (q3.1, q3.2)) else (some ((-1), q1.2)))
set_option maxRecDepth 100000 in
set_option maxHeartbeats 4000000 in
theorem c_Pla_joinerBehind {l : Launch} {w : Wd} (hW : shp w = ShA) (a0 : Int) (σ : Mem)  : Ctr l w yX4_joinerBehind cX4_joinerBehind 3 (some .int) (rmN 2 47) 1 [iv a0, rf w 11, rf w 304] σ (Pla_joinerBehind a0 σ) := by
  refine met_of (own := RX4) (by decide) rfl rfl rfl (Nat.le_of_ble_eq_true rfl) (fun X x hXl hN hS => ⟨[some (iv a0), some (rf w 11), some (rf w 304)], ⟨0, rfl⟩, ?_⟩)
  subst hXl
  unfold Pla_joinerBehind
  refine a_iload_n hS dX4_joinerBehind_0 rfl ?_
  refine a_iflt hS rfl  (tgt := 16) dX4_joinerBehind_1 (by decide) ?_ ?_
  · refine a_iconst hS dX4_joinerBehind_16 ?_
    refine a_goto hS (tgt := 33) dX4_joinerBehind_17 (by decide) ?_
    exact a_iret hS rfl rfl dX4_joinerBehind_33
  · refine a_aload_n hS dX4_joinerBehind_4 rfl ?_
    refine a_getR hS (j := 309) dX4_joinerBehind_5 flX4_95 (sA304 hW) rfl ?_
    refine a_iload_n hS dX4_joinerBehind_8 rfl ?_
    refine a_callVi hS (rst := []) (c_Row_get hW 309 a0 σ iRow309) miX5_get mlX4_50 (sA309 hW) rfl rfl (Nat.le_of_ble_eq_true rfl) (Nat.le_of_ble_eq_true rfl) (Nat.le_of_ble_eq_true rfl) rfl dX4_joinerBehind_9 (fun q1 => ?_)
    refine a_iconst hS dX4_joinerBehind_12 ?_
    refine a_icmpeq hS rfl (wl (-1) rfl) (tgt := 20) dX4_joinerBehind_13 (by decide) ?_ ?_
    · refine a_aload_n hS dX4_joinerBehind_20 rfl ?_
      refine a_iconst hS dX4_joinerBehind_21 ?_
      refine a_aload_n hS dX4_joinerBehind_22 rfl ?_
      refine a_getR hS (j := 305) dX4_joinerBehind_23 flX4_98 (sA304 hW) rfl ?_
      refine a_iload_n hS dX4_joinerBehind_26 rfl ?_
      refine a_callVi hS (rst := [iv 3, rf w 11]) (c_Row_get hW 305 a0 q1.2 iRow305) miX5_get mlX4_50 (sA305 hW) rfl rfl (Nat.le_of_ble_eq_true rfl) (Nat.le_of_ble_eq_true rfl) (Nat.le_of_ble_eq_true rfl) rfl dX4_joinerBehind_27 (fun q2 => ?_)
      refine a_callVi hS (rst := []) (c_Rul_best hW 3 q2.1 q2.2 ) miX7_best mlX4_101 (sA11 hW) rfl rfl (Nat.le_of_ble_eq_true rfl) (Nat.le_of_ble_eq_true rfl) (Nat.le_of_ble_eq_true rfl) rfl dX4_joinerBehind_30 (fun q3 => ?_)
      exact a_iret hS rfl rfl dX4_joinerBehind_33
    · refine a_iconst hS dX4_joinerBehind_16 ?_
      refine a_goto hS (tgt := 33) dX4_joinerBehind_17 (by decide) ?_
      exact a_iret hS rfl rfl dX4_joinerBehind_33
noncomputable def Pla_standOnGround_64   (x1 : Int) (x2 : Int) (y0 : Int) (y1 : Int) (σ : Mem) : Option (Int × Mem) := (Row_set 328 y1 y0 σ).bind fun q6 => (Row_get 309 x2 q6.2).bind fun q7 => (Row_set 330 x1 q7.1 q7.2).bind fun q8 => (Row_get 290 x2 q8.2).bind fun q9 => (Row_set 332 x1 q9.1 q9.2).bind fun q10 => (Row_get 317 x2 q10.2).bind fun q11 => (Row_set 334 x1 q11.1 q11.2).bind fun q12 => (Row_get 319 x2 q12.2).bind fun q13 => (Row_set 336 x1 q13.1 q13.2).bind fun q14 => some (0, q14.2)
noncomputable def Pla_standOnGround (a0 : Int) (a1 : Int) (σ : Mem) : Option (Int × Mem) := (Row_set 338 a0 0 σ).bind fun q1 => if wr a1 = (-1) then ((Row_set 328 a0 0 q1.2).bind fun q3 => (Row_set 330 a0 (-1) q3.2).bind fun q4 => (Row_set 332 a0 (-1) q4.2).bind fun q5 => some (0, q5.2)) else ((Row_get 317 a1 q1.2).bind fun q2 => if 0 < wr q2.1 then (Pla_standOnGround_64 a0 a1 2 a0 q2.2) else (Pla_standOnGround_64 a0 a1 1 a0 q2.2))
set_option maxRecDepth 100000 in
set_option maxHeartbeats 4000000 in
theorem k_Pla_standOnGround_64 {X : Cx} {w : Wd} {x : Int × Mem} (hS : Std X (rmN 1 22) w cX4_standOnGround RX4 none) (hN : cxn X = 5) (hW : shp w = ShA)   : ∀ (x1 : Int) (x2 : Int) (y0 : Int) (y1 : Int) (σ : Mem), Sm X (rmN 1 22) w 0 x 64 [some (rf w 327), some (iv x1), some (iv x2), some (rf w 289), some (rf w 304)] [iv y0, iv y1, rf w 328] σ (Pla_standOnGround_64   x1 x2 y0 y1 σ) := by
  intro x1 x2 y0 y1 σ
  unfold Pla_standOnGround_64
  refine a_callVv hS (rst := []) (c_Row_set hW 328 y1 y0 σ iRow328) miX5_set mlX4_59 (sA328 hW) rfl rfl (Nat.le_of_ble_eq_true rfl) (Nat.le_of_ble_eq_true rfl) (Nat.le_of_ble_eq_true rfl) rfl dX4_standOnGround_64 (fun q6 => ?_)
  refine a_aload_n hS dX4_standOnGround_67 rfl ?_
  refine a_getR hS (j := 330) dX4_standOnGround_68 flX4_20 (sA327 hW) rfl ?_
  refine a_iload_n hS dX4_standOnGround_71 rfl ?_
  refine a_aload hS dX4_standOnGround_72 rfl ?_
  refine a_getR hS (j := 309) dX4_standOnGround_74 flX4_95 (sA304 hW) rfl ?_
  refine a_iload_n hS dX4_standOnGround_77 rfl ?_
  refine a_callVi hS (rst := [iv x1, rf w 330]) (c_Row_get hW 309 x2 q6.2 iRow309) miX5_get mlX4_50 (sA309 hW) rfl rfl (Nat.le_of_ble_eq_true rfl) (Nat.le_of_ble_eq_true rfl) (Nat.le_of_ble_eq_true rfl) rfl dX4_standOnGround_78 (fun q7 => ?_)
  refine a_callVv hS (rst := []) (c_Row_set hW 330 x1 q7.1 q7.2 iRow330) miX5_set mlX4_59 (sA330 hW) rfl rfl (Nat.le_of_ble_eq_true rfl) (Nat.le_of_ble_eq_true rfl) (Nat.le_of_ble_eq_true rfl) rfl dX4_standOnGround_81 (fun q8 => ?_)
  refine a_aload_n hS dX4_standOnGround_84 rfl ?_
  refine a_getR hS (j := 332) dX4_standOnGround_85 flX4_23 (sA327 hW) rfl ?_
  refine a_iload_n hS dX4_standOnGround_88 rfl ?_
  refine a_aload_n hS dX4_standOnGround_89 rfl ?_
  refine a_getR hS (j := 290) dX4_standOnGround_90 flX4_139 (sA289 hW) rfl ?_
  refine a_iload_n hS dX4_standOnGround_93 rfl ?_
  refine a_callVi hS (rst := [iv x1, rf w 332]) (c_Row_get hW 290 x2 q8.2 iRow290) miX5_get mlX4_50 (sA290 hW) rfl rfl (Nat.le_of_ble_eq_true rfl) (Nat.le_of_ble_eq_true rfl) (Nat.le_of_ble_eq_true rfl) rfl dX4_standOnGround_94 (fun q9 => ?_)
  refine a_callVv hS (rst := []) (c_Row_set hW 332 x1 q9.1 q9.2 iRow332) miX5_set mlX4_59 (sA332 hW) rfl rfl (Nat.le_of_ble_eq_true rfl) (Nat.le_of_ble_eq_true rfl) (Nat.le_of_ble_eq_true rfl) rfl dX4_standOnGround_97 (fun q10 => ?_)
  refine a_aload_n hS dX4_standOnGround_100 rfl ?_
  refine a_getR hS (j := 334) dX4_standOnGround_101 flX4_26 (sA327 hW) rfl ?_
  refine a_iload_n hS dX4_standOnGround_104 rfl ?_
  refine a_aload hS dX4_standOnGround_105 rfl ?_
  refine a_getR hS (j := 317) dX4_standOnGround_107 flX4_138 (sA304 hW) rfl ?_
  refine a_iload_n hS dX4_standOnGround_110 rfl ?_
  refine a_callVi hS (rst := [iv x1, rf w 334]) (c_Row_get hW 317 x2 q10.2 iRow317) miX5_get mlX4_50 (sA317 hW) rfl rfl (Nat.le_of_ble_eq_true rfl) (Nat.le_of_ble_eq_true rfl) (Nat.le_of_ble_eq_true rfl) rfl dX4_standOnGround_111 (fun q11 => ?_)
  refine a_callVv hS (rst := []) (c_Row_set hW 334 x1 q11.1 q11.2 iRow334) miX5_set mlX4_59 (sA334 hW) rfl rfl (Nat.le_of_ble_eq_true rfl) (Nat.le_of_ble_eq_true rfl) (Nat.le_of_ble_eq_true rfl) rfl dX4_standOnGround_114 (fun q12 => ?_)
  refine a_aload_n hS dX4_standOnGround_117 rfl ?_
  refine a_getR hS (j := 336) dX4_standOnGround_118 flX4_29 (sA327 hW) rfl ?_
  refine a_iload_n hS dX4_standOnGround_121 rfl ?_
  refine a_aload hS dX4_standOnGround_122 rfl ?_
  refine a_getR hS (j := 319) dX4_standOnGround_124 flX4_142 (sA304 hW) rfl ?_
  refine a_iload_n hS dX4_standOnGround_127 rfl ?_
  refine a_callVi hS (rst := [iv x1, rf w 336]) (c_Row_get hW 319 x2 q12.2 iRow319) miX5_get mlX4_50 (sA319 hW) rfl rfl (Nat.le_of_ble_eq_true rfl) (Nat.le_of_ble_eq_true rfl) (Nat.le_of_ble_eq_true rfl) rfl dX4_standOnGround_128 (fun q13 => ?_)
  refine a_callVv hS (rst := []) (c_Row_set hW 336 x1 q13.1 q13.2 iRow336) miX5_set mlX4_59 (sA336 hW) rfl rfl (Nat.le_of_ble_eq_true rfl) (Nat.le_of_ble_eq_true rfl) (Nat.le_of_ble_eq_true rfl) rfl dX4_standOnGround_131 (fun q14 => ?_)
  exact a_vret hS rfl rfl dX4_standOnGround_134
set_option maxRecDepth 100000 in
set_option maxHeartbeats 4000000 in
theorem c_Pla_standOnGround {l : Launch} {w : Wd} (hW : shp w = ShA) (a0 : Int) (a1 : Int) (σ : Mem)  : Ctr l w yX4_standOnGround cX4_standOnGround 5 none (rmN 1 22) 0 [rf w 327, iv a0, iv a1, rf w 289, rf w 304] σ (Pla_standOnGround a0 a1 σ) := by
  refine met_of (own := RX4) (by decide) rfl rfl rfl (Nat.le_of_ble_eq_true rfl) (fun X x hXl hN hS => ⟨[some (rf w 327), some (iv a0), some (iv a1), some (rf w 289), some (rf w 304)], ⟨0, rfl⟩, ?_⟩)
  subst hXl
  unfold Pla_standOnGround
  refine a_aload_n hS dX4_standOnGround_0 rfl ?_
  refine a_getR hS (j := 338) dX4_standOnGround_1 flX4_32 (sA327 hW) rfl ?_
  refine a_iload_n hS dX4_standOnGround_4 rfl ?_
  refine a_iconst hS dX4_standOnGround_5 ?_
  refine a_callVv hS (rst := []) (c_Row_set hW 338 a0 0 σ iRow338) miX5_set mlX4_59 (sA338 hW) rfl rfl (Nat.le_of_ble_eq_true rfl) (Nat.le_of_ble_eq_true rfl) (Nat.le_of_ble_eq_true rfl) rfl dX4_standOnGround_6 (fun q1 => ?_)
  refine a_iload_n hS dX4_standOnGround_9 rfl ?_
  refine a_iconst hS dX4_standOnGround_10 ?_
  refine a_icmpne hS rfl (wl (-1) rfl) (tgt := 42) dX4_standOnGround_11 (by decide) ?_ ?_
  · refine a_aload_n hS dX4_standOnGround_42 rfl ?_
    refine a_getR hS (j := 328) dX4_standOnGround_43 flX4_14 (sA327 hW) rfl ?_
    refine a_iload_n hS dX4_standOnGround_46 rfl ?_
    refine a_aload hS dX4_standOnGround_47 rfl ?_
    refine a_getR hS (j := 317) dX4_standOnGround_49 flX4_138 (sA304 hW) rfl ?_
    refine a_iload_n hS dX4_standOnGround_52 rfl ?_
    refine a_callVi hS (rst := [iv a0, rf w 328]) (c_Row_get hW 317 a1 q1.2 iRow317) miX5_get mlX4_50 (sA317 hW) rfl rfl (Nat.le_of_ble_eq_true rfl) (Nat.le_of_ble_eq_true rfl) (Nat.le_of_ble_eq_true rfl) rfl dX4_standOnGround_53 (fun q2 => ?_)
    refine a_ifle hS rfl  (tgt := 63) dX4_standOnGround_56 (by decide) ?_ ?_
    · refine a_iconst hS dX4_standOnGround_63 ?_
      exact k_Pla_standOnGround_64 hS hN hW   a0 a1 1 a0 q2.2
    · refine a_iconst hS dX4_standOnGround_59 ?_
      refine a_goto hS (tgt := 64) dX4_standOnGround_60 (by decide) ?_
      exact k_Pla_standOnGround_64 hS hN hW   a0 a1 2 a0 q2.2
  · refine a_aload_n hS dX4_standOnGround_14 rfl ?_
    refine a_getR hS (j := 328) dX4_standOnGround_15 flX4_14 (sA327 hW) rfl ?_
    refine a_iload_n hS dX4_standOnGround_18 rfl ?_
    refine a_iconst hS dX4_standOnGround_19 ?_
    refine a_callVv hS (rst := []) (c_Row_set hW 328 a0 0 q1.2 iRow328) miX5_set mlX4_59 (sA328 hW) rfl rfl (Nat.le_of_ble_eq_true rfl) (Nat.le_of_ble_eq_true rfl) (Nat.le_of_ble_eq_true rfl) rfl dX4_standOnGround_20 (fun q3 => ?_)
    refine a_aload_n hS dX4_standOnGround_23 rfl ?_
    refine a_getR hS (j := 330) dX4_standOnGround_24 flX4_20 (sA327 hW) rfl ?_
    refine a_iload_n hS dX4_standOnGround_27 rfl ?_
    refine a_iconst hS dX4_standOnGround_28 ?_
    refine a_callVv hS (rst := []) (c_Row_set hW 330 a0 (-1) q3.2 iRow330) miX5_set mlX4_59 (sA330 hW) rfl rfl (Nat.le_of_ble_eq_true rfl) (Nat.le_of_ble_eq_true rfl) (Nat.le_of_ble_eq_true rfl) rfl dX4_standOnGround_29 (fun q4 => ?_)
    refine a_aload_n hS dX4_standOnGround_32 rfl ?_
    refine a_getR hS (j := 332) dX4_standOnGround_33 flX4_23 (sA327 hW) rfl ?_
    refine a_iload_n hS dX4_standOnGround_36 rfl ?_
    refine a_iconst hS dX4_standOnGround_37 ?_
    refine a_callVv hS (rst := []) (c_Row_set hW 332 a0 (-1) q4.2 iRow332) miX5_set mlX4_59 (sA332 hW) rfl rfl (Nat.le_of_ble_eq_true rfl) (Nat.le_of_ble_eq_true rfl) (Nat.le_of_ble_eq_true rfl) rfl dX4_standOnGround_38 (fun q5 => ?_)
    exact a_vret hS rfl rfl dX4_standOnGround_41
noncomputable def Pla_standByClosed (a0 : Int) (a1 : Int) (a2 : Int) (σ : Mem) : Option (Int × Mem) := (Pla_standOnGround a0 a1 σ).bind fun q1 => (Row_set 328 a0 3 q1.2).bind fun q2 => if wr a2 = 1 then (some (0, q2.2)) else ((Row_set 336 a0 0 q2.2).bind fun q3 => if wr a2 = 0 then ((Row_set 334 a0 0 q3.2).bind fun q6 => some (0, q6.2)) else ((Row_get 292 a1 q3.2).bind fun q4 => (Row_set 334 a0 q4.1 q4.2).bind fun q5 => some (0, q5.2)))
set_option maxRecDepth 100000 in
set_option maxHeartbeats 4000000 in
theorem c_Pla_standByClosed {l : Launch} {w : Wd} (hW : shp w = ShA) (a0 : Int) (a1 : Int) (a2 : Int) (σ : Mem)  : Ctr l w yX4_standByClosed cX4_standByClosed 6 none (rmN 2 46) 0 [rf w 327, iv a0, iv a1, iv a2, rf w 289, rf w 304] σ (Pla_standByClosed a0 a1 a2 σ) := by
  refine met_of (own := RX4) (by decide) rfl rfl rfl (Nat.le_of_ble_eq_true rfl) (fun X x hXl hN hS => ⟨[some (rf w 327), some (iv a0), some (iv a1), some (iv a2), some (rf w 289), some (rf w 304)], ⟨0, rfl⟩, ?_⟩)
  subst hXl
  unfold Pla_standByClosed
  refine a_aload_n hS dX4_standByClosed_0 rfl ?_
  refine a_iload_n hS dX4_standByClosed_1 rfl ?_
  refine a_iload_n hS dX4_standByClosed_2 rfl ?_
  refine a_aload hS dX4_standByClosed_3 rfl ?_
  refine a_aload hS dX4_standByClosed_5 rfl ?_
  refine a_callVv hS (rst := []) (c_Pla_standOnGround hW a0 a1 σ ) miX4_standOnGround mlX4_130 (sA327 hW) rfl rfl (Nat.le_of_ble_eq_true rfl) (Nat.le_of_ble_eq_true rfl) (Nat.le_of_ble_eq_true rfl) rfl dX4_standByClosed_7 (fun q1 => ?_)
  refine a_aload_n hS dX4_standByClosed_10 rfl ?_
  refine a_getR hS (j := 328) dX4_standByClosed_11 flX4_14 (sA327 hW) rfl ?_
  refine a_iload_n hS dX4_standByClosed_14 rfl ?_
  refine a_iconst hS dX4_standByClosed_15 ?_
  refine a_callVv hS (rst := []) (c_Row_set hW 328 a0 3 q1.2 iRow328) miX5_set mlX4_59 (sA328 hW) rfl rfl (Nat.le_of_ble_eq_true rfl) (Nat.le_of_ble_eq_true rfl) (Nat.le_of_ble_eq_true rfl) rfl dX4_standByClosed_16 (fun q2 => ?_)
  refine a_iload_n hS dX4_standByClosed_19 rfl ?_
  refine a_iconst hS dX4_standByClosed_20 ?_
  refine a_icmpeq hS rfl (wl 1 rfl) (tgt := 58) dX4_standByClosed_21 (by decide) ?_ ?_
  · exact a_vret hS rfl rfl dX4_standByClosed_58
  · refine a_aload_n hS dX4_standByClosed_24 rfl ?_
    refine a_getR hS (j := 336) dX4_standByClosed_25 flX4_29 (sA327 hW) rfl ?_
    refine a_iload_n hS dX4_standByClosed_28 rfl ?_
    refine a_iconst hS dX4_standByClosed_29 ?_
    refine a_callVv hS (rst := []) (c_Row_set hW 336 a0 0 q2.2 iRow336) miX5_set mlX4_59 (sA336 hW) rfl rfl (Nat.le_of_ble_eq_true rfl) (Nat.le_of_ble_eq_true rfl) (Nat.le_of_ble_eq_true rfl) rfl dX4_standByClosed_30 (fun q3 => ?_)
    refine a_aload_n hS dX4_standByClosed_33 rfl ?_
    refine a_getR hS (j := 334) dX4_standByClosed_34 flX4_26 (sA327 hW) rfl ?_
    refine a_iload_n hS dX4_standByClosed_37 rfl ?_
    refine a_iload_n hS dX4_standByClosed_38 rfl ?_
    refine a_ifne hS rfl  (tgt := 46) dX4_standByClosed_39 (by decide) ?_ ?_
    · refine a_aload hS dX4_standByClosed_46 rfl ?_
      refine a_getR hS (j := 292) dX4_standByClosed_48 flX4_144 (sA289 hW) rfl ?_
      refine a_iload_n hS dX4_standByClosed_51 rfl ?_
      refine a_callVi hS (rst := [iv a0, rf w 334]) (c_Row_get hW 292 a1 q3.2 iRow292) miX5_get mlX4_50 (sA292 hW) rfl rfl (Nat.le_of_ble_eq_true rfl) (Nat.le_of_ble_eq_true rfl) (Nat.le_of_ble_eq_true rfl) rfl dX4_standByClosed_52 (fun q4 => ?_)
      refine a_callVv hS (rst := []) (c_Row_set hW 334 a0 q4.1 q4.2 iRow334) miX5_set mlX4_59 (sA334 hW) rfl rfl (Nat.le_of_ble_eq_true rfl) (Nat.le_of_ble_eq_true rfl) (Nat.le_of_ble_eq_true rfl) rfl dX4_standByClosed_55 (fun q5 => ?_)
      exact a_vret hS rfl rfl dX4_standByClosed_58
    · refine a_iconst hS dX4_standByClosed_42 ?_
      refine a_goto hS (tgt := 55) dX4_standByClosed_43 (by decide) ?_
      refine a_callVv hS (rst := []) (c_Row_set hW 334 a0 0 q3.2 iRow334) miX5_set mlX4_59 (sA334 hW) rfl rfl (Nat.le_of_ble_eq_true rfl) (Nat.le_of_ble_eq_true rfl) (Nat.le_of_ble_eq_true rfl) rfl dX4_standByClosed_55 (fun q6 => ?_)
      exact a_vret hS rfl rfl dX4_standByClosed_58
noncomputable def Pla_addSteps (a0 : Int) (a1 : Int) (a2 : Int) (σ : Mem) : Option (Int × Mem) := if wr a1 = (-1) then (some (0, σ)) else ((Row_set 328 a0 a2 σ).bind fun q1 => (Row_set 330 a0 a1 q1.2).bind fun q2 => (Row_get 16 a1 q2.2).bind fun q3 => (Row_set 338 a0 q3.1 q3.2).bind fun q4 => some (0, q4.2))
set_option maxRecDepth 100000 in
set_option maxHeartbeats 4000000 in
theorem c_Pla_addSteps {l : Launch} {w : Wd} (hW : shp w = ShA) (a0 : Int) (a1 : Int) (a2 : Int) (σ : Mem)  : Ctr l w yX4_addSteps cX4_addSteps 5 none (rmN 1 22) 0 [rf w 327, iv a0, iv a1, iv a2, rf w 11] σ (Pla_addSteps a0 a1 a2 σ) := by
  refine met_of (own := RX4) (by decide) rfl rfl rfl (Nat.le_of_ble_eq_true rfl) (fun X x hXl hN hS => ⟨[some (rf w 327), some (iv a0), some (iv a1), some (iv a2), some (rf w 11)], ⟨0, rfl⟩, ?_⟩)
  subst hXl
  unfold Pla_addSteps
  refine a_iload_n hS dX4_addSteps_0 rfl ?_
  refine a_iconst hS dX4_addSteps_1 ?_
  refine a_icmpeq hS rfl (wl (-1) rfl) (tgt := 40) dX4_addSteps_2 (by decide) ?_ ?_
  · exact a_vret hS rfl rfl dX4_addSteps_40
  · refine a_aload_n hS dX4_addSteps_5 rfl ?_
    refine a_getR hS (j := 328) dX4_addSteps_6 flX4_14 (sA327 hW) rfl ?_
    refine a_iload_n hS dX4_addSteps_9 rfl ?_
    refine a_iload_n hS dX4_addSteps_10 rfl ?_
    refine a_callVv hS (rst := []) (c_Row_set hW 328 a0 a2 σ iRow328) miX5_set mlX4_59 (sA328 hW) rfl rfl (Nat.le_of_ble_eq_true rfl) (Nat.le_of_ble_eq_true rfl) (Nat.le_of_ble_eq_true rfl) rfl dX4_addSteps_11 (fun q1 => ?_)
    refine a_aload_n hS dX4_addSteps_14 rfl ?_
    refine a_getR hS (j := 330) dX4_addSteps_15 flX4_20 (sA327 hW) rfl ?_
    refine a_iload_n hS dX4_addSteps_18 rfl ?_
    refine a_iload_n hS dX4_addSteps_19 rfl ?_
    refine a_callVv hS (rst := []) (c_Row_set hW 330 a0 a1 q1.2 iRow330) miX5_set mlX4_59 (sA330 hW) rfl rfl (Nat.le_of_ble_eq_true rfl) (Nat.le_of_ble_eq_true rfl) (Nat.le_of_ble_eq_true rfl) rfl dX4_addSteps_20 (fun q2 => ?_)
    refine a_aload_n hS dX4_addSteps_23 rfl ?_
    refine a_getR hS (j := 338) dX4_addSteps_24 flX4_32 (sA327 hW) rfl ?_
    refine a_iload_n hS dX4_addSteps_27 rfl ?_
    refine a_aload hS dX4_addSteps_28 rfl ?_
    refine a_getR hS (j := 16) dX4_addSteps_30 flX4_143 (sA11 hW) rfl ?_
    refine a_iload_n hS dX4_addSteps_33 rfl ?_
    refine a_callVi hS (rst := [iv a0, rf w 338]) (c_Row_get hW 16 a1 q2.2 iRow16) miX5_get mlX4_50 (sA16 hW) rfl rfl (Nat.le_of_ble_eq_true rfl) (Nat.le_of_ble_eq_true rfl) (Nat.le_of_ble_eq_true rfl) rfl dX4_addSteps_34 (fun q3 => ?_)
    refine a_callVv hS (rst := []) (c_Row_set hW 338 a0 q3.1 q3.2 iRow338) miX5_set mlX4_59 (sA338 hW) rfl rfl (Nat.le_of_ble_eq_true rfl) (Nat.le_of_ble_eq_true rfl) (Nat.le_of_ble_eq_true rfl) rfl dX4_addSteps_37 (fun q4 => ?_)
    exact a_vret hS rfl rfl dX4_addSteps_40
noncomputable def Pla_decide_229   (x1 : Int) (x9 : Int) (x10 : Int) (y0 : Int) (σ : Mem) : Option (Int × Mem) := (Blk_openBefore x1 (y0 - 1) σ).bind fun q15 => (Pla_standOnGround x1 q15.1 q15.2).bind fun q16 => (Pla_addSteps x1 x9 x10 q16.2).bind fun q17 => some (0, q17.2)
noncomputable def Pla_decide_201   (x1 : Int) (x8 : Int) (x9 : Int) (x10 : Int) (σ : Mem) : Option (Int × Mem) := if wr x8 = (-1) then ((Row_get 321 x1 σ).bind fun q14 => Pla_decide_229 x1 x9 x10 q14.1 q14.2) else ((Row_get 315 x8 σ).bind fun q13 => Pla_decide_229 x1 x9 x10 q13.1 q13.2)
noncomputable def Pla_decide_167   (x1 : Int) (x8 : Int) (x9 : Int) (x10 : Int) (σ : Mem) : Option (Int × Mem) := if wr x9 = (-1) then (Pla_decide_201 x1 x8 x9 x10 σ) else (if wr x10 = 3 then ((Row_get 20 x9 σ).bind fun q11 => (Pla_standByClosed x1 x8 q11.1 q11.2).bind fun q12 => some (0, q12.2)) else (Pla_decide_201 x1 x8 x9 x10 σ))
noncomputable def Pla_decide_147   (x1 : Int) (x8 : Int) (x9 : Int) (x10 : Int) (y0 : Int) (σ : Mem) : Option (Int × Mem) := (Rul_beats y0 x9 σ).bind fun q10 => if wr q10.1 = 0 then (Pla_decide_167 x1 x8 x9 x10 q10.2) else (Pla_decide_167 x1 x8 y0 5 q10.2)
noncomputable def Pla_decide_126   (x1 : Int) (x5 : Int) (x6 : Int) (x8 : Int) (x9 : Int) (x10 : Int) (σ : Mem) : Option (Int × Mem) := if wr x5 < wr x6 then ((Pla_joinerBehind (x5 - 1) σ).bind fun q9 => Pla_decide_147 x1 x8 x9 x10 q9.1 q9.2) else (Pla_decide_147 x1 x8 x9 x10 (-1) σ)
noncomputable def Pla_decide_106   (x1 : Int) (x5 : Int) (x6 : Int) (x8 : Int) (x9 : Int) (x10 : Int) (y0 : Int) (σ : Mem) : Option (Int × Mem) := (Rul_beats y0 x9 σ).bind fun q8 => if wr q8.1 = 0 then (Pla_decide_126 x1 x5 x6 x8 x9 x10 q8.2) else (Pla_decide_126 x1 x5 x6 x8 y0 4 q8.2)
noncomputable def Pla_decide_75   (x1 : Int) (x5 : Int) (x6 : Int) (x8 : Int) (y0 : Int) (σ : Mem) : Option (Int × Mem) := if wr x5 < wr x6 then ((Row_get 305 x5 σ).bind fun q6 => (Rul_best 2 q6.1 q6.2).bind fun q7 => Pla_decide_106 x1 x5 x6 x8 y0 3 q7.1 q7.2) else (Pla_decide_106 x1 x5 x6 x8 y0 3 (-1) σ)
noncomputable def Pla_decide_53   (x1 : Int) (x5 : Int) (x6 : Int) (y0 : Int) (σ : Mem) : Option (Int × Mem) := if wr y0 = (-1) then (Pla_decide_75 x1 x5 x6 y0 (-1) σ) else ((Row_get 309 y0 σ).bind fun q5 => Pla_decide_75 x1 x5 x6 y0 q5.1 q5.2)
noncomputable def Pla_decide (a0 : Int) (σ : Mem) : Option (Int × Mem) := (Row_get 298 a0 σ).bind fun q1 => (Row_get 298 (a0 + 1) q1.2).bind fun q2 => (Blk_lastLeadingCloser q1.1 q2.1 q2.2).bind fun q3 => if wr q3.1 = (-1) then (Pla_decide_53 a0 q1.1 q2.1 (-1) q3.2) else ((Row_get 311 q3.1 q3.2).bind fun q4 => Pla_decide_53 a0 q1.1 q2.1 q4.1 q4.2)
set_option maxRecDepth 100000 in
set_option maxHeartbeats 4000000 in
theorem k_Pla_decide_229 {X : Cx} {w : Wd} {x : Int × Mem} (hS : Std X (rmN 3 71) w cX4_decide RX4 none) (hN : cxn X = 14) (hW : shp w = ShA)   : ∀ (x1 : Int) (x9 : Int) (x10 : Int) (y0 : Int) (σ : Mem), Sm X (rmN 3 71) w 0 x 229 [some (rf w 327), some (iv x1), some (rf w 11), some (rf w 289), some (rf w 304), none, none, none, none, some (iv x9), some (iv x10), none, none, none] [iv y0] σ (Pla_decide_229   x1 x9 x10 y0 σ) := by
  intro x1 x9 x10 y0 σ
  unfold Pla_decide_229
  refine a_istore hS (L' := [some (rf w 327), some (iv x1), some (rf w 11), some (rf w 289), some (rf w 304), none, none, none, none, some (iv x9), some (iv x10), none, none, some (iv y0)]) dX4_decide_229 hN (Nat.le_of_ble_eq_true rfl) rfl rfl ?_
  refine a_aload_n hS dX4_decide_231 rfl ?_
  refine a_iload_n hS dX4_decide_232 rfl ?_
  refine a_aload hS dX4_decide_233 rfl ?_
  refine a_iload_n hS dX4_decide_235 rfl ?_
  refine a_iload hS dX4_decide_236 rfl ?_
  refine a_iconst hS dX4_decide_238 ?_
  refine a_isub hS dX4_decide_239 ?_
  refine a_callVi hS (rst := [iv x1, rf w 327]) (c_Blk_openBefore hW x1 (y0 - 1) σ ) miX0_openBefore mlX4_127 (sA304 hW) rfl rfl (Nat.le_of_ble_eq_true rfl) (Nat.le_of_ble_eq_true rfl) (Nat.le_of_ble_eq_true rfl) rfl dX4_decide_240 (fun q15 => ?_)
  refine a_aload_n hS dX4_decide_243 rfl ?_
  refine a_aload hS dX4_decide_244 rfl ?_
  refine a_callVv hS (rst := []) (c_Pla_standOnGround hW x1 q15.1 q15.2 ) miX4_standOnGround mlX4_130 (sA327 hW) rfl rfl (Nat.le_of_ble_eq_true rfl) (Nat.le_of_ble_eq_true rfl) (Nat.le_of_ble_eq_true rfl) rfl dX4_decide_246 (fun q16 => ?_)
  refine a_aload_n hS dX4_decide_249 rfl ?_
  refine a_iload_n hS dX4_decide_250 rfl ?_
  refine a_iload hS dX4_decide_251 rfl ?_
  refine a_iload hS dX4_decide_253 rfl ?_
  refine a_aload_n hS dX4_decide_255 rfl ?_
  refine a_callVv hS (rst := []) (c_Pla_addSteps hW x1 x9 x10 q16.2 ) miX4_addSteps mlX4_134 (sA327 hW) rfl rfl (Nat.le_of_ble_eq_true rfl) (Nat.le_of_ble_eq_true rfl) (Nat.le_of_ble_eq_true rfl) rfl dX4_decide_256 (fun q17 => ?_)
  exact a_vret hS rfl rfl dX4_decide_259
set_option maxRecDepth 100000 in
set_option maxHeartbeats 4000000 in
theorem k_Pla_decide_201 {X : Cx} {w : Wd} {x : Int × Mem} (hS : Std X (rmN 3 71) w cX4_decide RX4 none) (hN : cxn X = 14) (hW : shp w = ShA)   : ∀ (x1 : Int) (x8 : Int) (x9 : Int) (x10 : Int) (σ : Mem), Sm X (rmN 3 71) w 0 x 201 [some (rf w 327), some (iv x1), some (rf w 11), some (rf w 289), some (rf w 304), none, none, none, some (iv x8), some (iv x9), some (iv x10), none, none, none] [] σ (Pla_decide_201   x1 x8 x9 x10 σ) := by
  intro x1 x8 x9 x10 σ
  unfold Pla_decide_201
  refine a_iload hS dX4_decide_201 rfl ?_
  refine a_iconst hS dX4_decide_203 ?_
  refine a_icmpne hS rfl (wl (-1) rfl) (tgt := 219) dX4_decide_204 (by decide) ?_ ?_
  · refine a_aload hS dX4_decide_219 rfl ?_
    refine a_getR hS (j := 315) dX4_decide_221 flX4_124 (sA304 hW) rfl ?_
    refine a_iload hS dX4_decide_224 rfl ?_
    refine a_callVi hS (rst := []) (c_Row_get hW 315 x8 σ iRow315) miX5_get mlX4_50 (sA315 hW) rfl rfl (Nat.le_of_ble_eq_true rfl) (Nat.le_of_ble_eq_true rfl) (Nat.le_of_ble_eq_true rfl) rfl dX4_decide_226 (fun q13 => ?_)
    exact a_live (M := [true, true, true, true, true, false, false, false, false, true, true, false, false, false]) (k_Pla_decide_229 hS hN hW   x1 x9 x10 q13.1 q13.2) rfl
  · refine a_aload hS dX4_decide_207 rfl ?_
    refine a_getR hS (j := 321) dX4_decide_209 flX4_121 (sA304 hW) rfl ?_
    refine a_iload_n hS dX4_decide_212 rfl ?_
    refine a_callVi hS (rst := []) (c_Row_get hW 321 x1 σ iRow321) miX5_get mlX4_50 (sA321 hW) rfl rfl (Nat.le_of_ble_eq_true rfl) (Nat.le_of_ble_eq_true rfl) (Nat.le_of_ble_eq_true rfl) rfl dX4_decide_213 (fun q14 => ?_)
    refine a_goto hS (tgt := 229) dX4_decide_216 (by decide) ?_
    exact a_live (M := [true, true, true, true, true, false, false, false, false, true, true, false, false, false]) (k_Pla_decide_229 hS hN hW   x1 x9 x10 q14.1 q14.2) rfl
set_option maxRecDepth 100000 in
set_option maxHeartbeats 4000000 in
theorem k_Pla_decide_167 {X : Cx} {w : Wd} {x : Int × Mem} (hS : Std X (rmN 3 71) w cX4_decide RX4 none) (hN : cxn X = 14) (hW : shp w = ShA)   : ∀ (x1 : Int) (x8 : Int) (x9 : Int) (x10 : Int) (σ : Mem), Sm X (rmN 3 71) w 0 x 167 [some (rf w 327), some (iv x1), some (rf w 11), some (rf w 289), some (rf w 304), none, none, none, some (iv x8), some (iv x9), some (iv x10), none, none, none] [] σ (Pla_decide_167   x1 x8 x9 x10 σ) := by
  intro x1 x8 x9 x10 σ
  unfold Pla_decide_167
  refine a_iload hS dX4_decide_167 rfl ?_
  refine a_iconst hS dX4_decide_169 ?_
  refine a_icmpeq hS rfl (wl (-1) rfl) (tgt := 201) dX4_decide_170 (by decide) ?_ ?_
  · exact k_Pla_decide_201 hS hN hW   x1 x8 x9 x10 σ
  · refine a_iload hS dX4_decide_173 rfl ?_
    refine a_iconst hS dX4_decide_175 ?_
    refine a_icmpne hS rfl (wl 3 rfl) (tgt := 201) dX4_decide_176 (by decide) ?_ ?_
    · exact k_Pla_decide_201 hS hN hW   x1 x8 x9 x10 σ
    · refine a_aload_n hS dX4_decide_179 rfl ?_
      refine a_iload_n hS dX4_decide_180 rfl ?_
      refine a_iload hS dX4_decide_181 rfl ?_
      refine a_aload_n hS dX4_decide_183 rfl ?_
      refine a_getR hS (j := 20) dX4_decide_184 flX4_114 (sA11 hW) rfl ?_
      refine a_iload hS dX4_decide_187 rfl ?_
      refine a_callVi hS (rst := [iv x8, iv x1, rf w 327]) (c_Row_get hW 20 x9 σ iRow20) miX5_get mlX4_50 (sA20 hW) rfl rfl (Nat.le_of_ble_eq_true rfl) (Nat.le_of_ble_eq_true rfl) (Nat.le_of_ble_eq_true rfl) rfl dX4_decide_189 (fun q11 => ?_)
      refine a_aload_n hS dX4_decide_192 rfl ?_
      refine a_aload hS dX4_decide_193 rfl ?_
      refine a_callVv hS (rst := []) (c_Pla_standByClosed hW x1 x8 q11.1 q11.2 ) miX4_standByClosed mlX4_117 (sA327 hW) rfl rfl (Nat.le_of_ble_eq_true rfl) (Nat.le_of_ble_eq_true rfl) (Nat.le_of_ble_eq_true rfl) rfl dX4_decide_195 (fun q12 => ?_)
      refine a_goto hS (tgt := 259) dX4_decide_198 (by decide) ?_
      exact a_vret hS rfl rfl dX4_decide_259
set_option maxRecDepth 100000 in
set_option maxHeartbeats 4000000 in
theorem k_Pla_decide_147 {X : Cx} {w : Wd} {x : Int × Mem} (hS : Std X (rmN 3 71) w cX4_decide RX4 none) (hN : cxn X = 14) (hW : shp w = ShA)   : ∀ (x1 : Int) (x8 : Int) (x9 : Int) (x10 : Int) (y0 : Int) (σ : Mem), Sm X (rmN 3 71) w 0 x 147 [some (rf w 327), some (iv x1), some (rf w 11), some (rf w 289), some (rf w 304), none, none, none, some (iv x8), some (iv x9), some (iv x10), none, none, none] [iv y0] σ (Pla_decide_147   x1 x8 x9 x10 y0 σ) := by
  intro x1 x8 x9 x10 y0 σ
  unfold Pla_decide_147
  refine a_istore hS (L' := [some (rf w 327), some (iv x1), some (rf w 11), some (rf w 289), some (rf w 304), none, none, none, some (iv x8), some (iv x9), some (iv x10), none, some (iv y0), none]) dX4_decide_147 hN (Nat.le_of_ble_eq_true rfl) rfl rfl ?_
  refine a_aload_n hS dX4_decide_149 rfl ?_
  refine a_iload hS dX4_decide_150 rfl ?_
  refine a_iload hS dX4_decide_152 rfl ?_
  refine a_callVi hS (rst := []) (c_Rul_beats hW y0 x9 σ ) miX7_beats mlX4_106 (sA11 hW) rfl rfl (Nat.le_of_ble_eq_true rfl) (Nat.le_of_ble_eq_true rfl) (Nat.le_of_ble_eq_true rfl) rfl dX4_decide_154 (fun q10 => ?_)
  refine a_ifeq hS rfl  (tgt := 167) dX4_decide_157 (by decide) ?_ ?_
  · exact a_live (M := [true, true, true, true, true, false, false, false, true, true, true, false, false, false]) (k_Pla_decide_167 hS hN hW   x1 x8 x9 x10 q10.2) rfl
  · refine a_iload hS dX4_decide_160 rfl ?_
    refine a_istore hS (L' := [some (rf w 327), some (iv x1), some (rf w 11), some (rf w 289), some (rf w 304), none, none, none, some (iv x8), some (iv y0), some (iv x10), none, some (iv y0), none]) dX4_decide_162 hN (Nat.le_of_ble_eq_true rfl) rfl rfl ?_
    refine a_iconst hS dX4_decide_164 ?_
    refine a_istore hS (L' := [some (rf w 327), some (iv x1), some (rf w 11), some (rf w 289), some (rf w 304), none, none, none, some (iv x8), some (iv y0), some (iv 5), none, some (iv y0), none]) dX4_decide_165 hN (Nat.le_of_ble_eq_true rfl) rfl rfl ?_
    exact a_live (M := [true, true, true, true, true, false, false, false, true, true, true, false, false, false]) (k_Pla_decide_167 hS hN hW   x1 x8 y0 5 q10.2) rfl
set_option maxRecDepth 100000 in
set_option maxHeartbeats 4000000 in
theorem k_Pla_decide_126 {X : Cx} {w : Wd} {x : Int × Mem} (hS : Std X (rmN 3 71) w cX4_decide RX4 none) (hN : cxn X = 14) (hW : shp w = ShA)   : ∀ (x1 : Int) (x5 : Int) (x6 : Int) (x8 : Int) (x9 : Int) (x10 : Int) (σ : Mem), Sm X (rmN 3 71) w 0 x 126 [some (rf w 327), some (iv x1), some (rf w 11), some (rf w 289), some (rf w 304), some (iv x5), some (iv x6), none, some (iv x8), some (iv x9), some (iv x10), none, none, none] [] σ (Pla_decide_126   x1 x5 x6 x8 x9 x10 σ) := by
  intro x1 x5 x6 x8 x9 x10 σ
  unfold Pla_decide_126
  refine a_iload hS dX4_decide_126 rfl ?_
  refine a_iload hS dX4_decide_128 rfl ?_
  refine a_icmpge hS rfl rfl (tgt := 146) dX4_decide_130 (by decide) ?_ ?_
  · refine a_iconst hS dX4_decide_146 ?_
    exact a_live (M := [true, true, true, true, true, false, false, false, true, true, true, false, false, false]) (k_Pla_decide_147 hS hN hW   x1 x8 x9 x10 (-1) σ) rfl
  · refine a_iload hS dX4_decide_133 rfl ?_
    refine a_iconst hS dX4_decide_135 ?_
    refine a_isub hS dX4_decide_136 ?_
    refine a_aload_n hS dX4_decide_137 rfl ?_
    refine a_aload hS dX4_decide_138 rfl ?_
    refine a_callSi hS (rst := []) (c_Pla_joinerBehind hW (x5 - 1) σ ) msX4_joinerBehind mlX4_110 rfl (Nat.le_of_ble_eq_true rfl) (Nat.le_of_ble_eq_true rfl) (Nat.le_of_ble_eq_true rfl) rfl dX4_decide_140 (fun q9 => ?_)
    refine a_goto hS (tgt := 147) dX4_decide_143 (by decide) ?_
    exact a_live (M := [true, true, true, true, true, false, false, false, true, true, true, false, false, false]) (k_Pla_decide_147 hS hN hW   x1 x8 x9 x10 q9.1 q9.2) rfl
set_option maxRecDepth 100000 in
set_option maxHeartbeats 4000000 in
theorem k_Pla_decide_106 {X : Cx} {w : Wd} {x : Int × Mem} (hS : Std X (rmN 3 71) w cX4_decide RX4 none) (hN : cxn X = 14) (hW : shp w = ShA)   : ∀ (x1 : Int) (x5 : Int) (x6 : Int) (x8 : Int) (x9 : Int) (x10 : Int) (y0 : Int) (σ : Mem), Sm X (rmN 3 71) w 0 x 106 [some (rf w 327), some (iv x1), some (rf w 11), some (rf w 289), some (rf w 304), some (iv x5), some (iv x6), none, some (iv x8), some (iv x9), some (iv x10), none, none, none] [iv y0] σ (Pla_decide_106   x1 x5 x6 x8 x9 x10 y0 σ) := by
  intro x1 x5 x6 x8 x9 x10 y0 σ
  unfold Pla_decide_106
  refine a_istore hS (L' := [some (rf w 327), some (iv x1), some (rf w 11), some (rf w 289), some (rf w 304), some (iv x5), some (iv x6), none, some (iv x8), some (iv x9), some (iv x10), some (iv y0), none, none]) dX4_decide_106 hN (Nat.le_of_ble_eq_true rfl) rfl rfl ?_
  refine a_aload_n hS dX4_decide_108 rfl ?_
  refine a_iload hS dX4_decide_109 rfl ?_
  refine a_iload hS dX4_decide_111 rfl ?_
  refine a_callVi hS (rst := []) (c_Rul_beats hW y0 x9 σ ) miX7_beats mlX4_106 (sA11 hW) rfl rfl (Nat.le_of_ble_eq_true rfl) (Nat.le_of_ble_eq_true rfl) (Nat.le_of_ble_eq_true rfl) rfl dX4_decide_113 (fun q8 => ?_)
  refine a_ifeq hS rfl  (tgt := 126) dX4_decide_116 (by decide) ?_ ?_
  · exact a_live (M := [true, true, true, true, true, true, true, false, true, true, true, false, false, false]) (k_Pla_decide_126 hS hN hW   x1 x5 x6 x8 x9 x10 q8.2) rfl
  · refine a_iload hS dX4_decide_119 rfl ?_
    refine a_istore hS (L' := [some (rf w 327), some (iv x1), some (rf w 11), some (rf w 289), some (rf w 304), some (iv x5), some (iv x6), none, some (iv x8), some (iv y0), some (iv x10), some (iv y0), none, none]) dX4_decide_121 hN (Nat.le_of_ble_eq_true rfl) rfl rfl ?_
    refine a_iconst hS dX4_decide_123 ?_
    refine a_istore hS (L' := [some (rf w 327), some (iv x1), some (rf w 11), some (rf w 289), some (rf w 304), some (iv x5), some (iv x6), none, some (iv x8), some (iv y0), some (iv 4), some (iv y0), none, none]) dX4_decide_124 hN (Nat.le_of_ble_eq_true rfl) rfl rfl ?_
    exact a_live (M := [true, true, true, true, true, true, true, false, true, true, true, false, false, false]) (k_Pla_decide_126 hS hN hW   x1 x5 x6 x8 y0 4 q8.2) rfl
set_option maxRecDepth 100000 in
set_option maxHeartbeats 4000000 in
theorem k_Pla_decide_75 {X : Cx} {w : Wd} {x : Int × Mem} (hS : Std X (rmN 3 71) w cX4_decide RX4 none) (hN : cxn X = 14) (hW : shp w = ShA)   : ∀ (x1 : Int) (x5 : Int) (x6 : Int) (x8 : Int) (y0 : Int) (σ : Mem), Sm X (rmN 3 71) w 0 x 75 [some (rf w 327), some (iv x1), some (rf w 11), some (rf w 289), some (rf w 304), some (iv x5), some (iv x6), none, some (iv x8), none, none, none, none, none] [iv y0] σ (Pla_decide_75   x1 x5 x6 x8 y0 σ) := by
  intro x1 x5 x6 x8 y0 σ
  unfold Pla_decide_75
  refine a_istore hS (L' := [some (rf w 327), some (iv x1), some (rf w 11), some (rf w 289), some (rf w 304), some (iv x5), some (iv x6), none, some (iv x8), some (iv y0), none, none, none, none]) dX4_decide_75 hN (Nat.le_of_ble_eq_true rfl) rfl rfl ?_
  refine a_iconst hS dX4_decide_77 ?_
  refine a_istore hS (L' := [some (rf w 327), some (iv x1), some (rf w 11), some (rf w 289), some (rf w 304), some (iv x5), some (iv x6), none, some (iv x8), some (iv y0), some (iv 3), none, none, none]) dX4_decide_78 hN (Nat.le_of_ble_eq_true rfl) rfl rfl ?_
  refine a_iload hS dX4_decide_80 rfl ?_
  refine a_iload hS dX4_decide_82 rfl ?_
  refine a_icmpge hS rfl rfl (tgt := 105) dX4_decide_84 (by decide) ?_ ?_
  · refine a_iconst hS dX4_decide_105 ?_
    exact k_Pla_decide_106 hS hN hW   x1 x5 x6 x8 y0 3 (-1) σ
  · refine a_aload_n hS dX4_decide_87 rfl ?_
    refine a_iconst hS dX4_decide_88 ?_
    refine a_aload hS dX4_decide_89 rfl ?_
    refine a_getR hS (j := 305) dX4_decide_91 flX4_98 (sA304 hW) rfl ?_
    refine a_iload hS dX4_decide_94 rfl ?_
    refine a_callVi hS (rst := [iv 2, rf w 11]) (c_Row_get hW 305 x5 σ iRow305) miX5_get mlX4_50 (sA305 hW) rfl rfl (Nat.le_of_ble_eq_true rfl) (Nat.le_of_ble_eq_true rfl) (Nat.le_of_ble_eq_true rfl) rfl dX4_decide_96 (fun q6 => ?_)
    refine a_callVi hS (rst := []) (c_Rul_best hW 2 q6.1 q6.2 ) miX7_best mlX4_101 (sA11 hW) rfl rfl (Nat.le_of_ble_eq_true rfl) (Nat.le_of_ble_eq_true rfl) (Nat.le_of_ble_eq_true rfl) rfl dX4_decide_99 (fun q7 => ?_)
    refine a_goto hS (tgt := 106) dX4_decide_102 (by decide) ?_
    exact k_Pla_decide_106 hS hN hW   x1 x5 x6 x8 y0 3 q7.1 q7.2
set_option maxRecDepth 100000 in
set_option maxHeartbeats 4000000 in
theorem k_Pla_decide_53 {X : Cx} {w : Wd} {x : Int × Mem} (hS : Std X (rmN 3 71) w cX4_decide RX4 none) (hN : cxn X = 14) (hW : shp w = ShA)   : ∀ (x1 : Int) (x5 : Int) (x6 : Int) (y0 : Int) (σ : Mem), Sm X (rmN 3 71) w 0 x 53 [some (rf w 327), some (iv x1), some (rf w 11), some (rf w 289), some (rf w 304), some (iv x5), some (iv x6), none, none, none, none, none, none, none] [iv y0] σ (Pla_decide_53   x1 x5 x6 y0 σ) := by
  intro x1 x5 x6 y0 σ
  unfold Pla_decide_53
  refine a_istore hS (L' := [some (rf w 327), some (iv x1), some (rf w 11), some (rf w 289), some (rf w 304), some (iv x5), some (iv x6), none, some (iv y0), none, none, none, none, none]) dX4_decide_53 hN (Nat.le_of_ble_eq_true rfl) rfl rfl ?_
  refine a_iload hS dX4_decide_55 rfl ?_
  refine a_iconst hS dX4_decide_57 ?_
  refine a_icmpne hS rfl (wl (-1) rfl) (tgt := 65) dX4_decide_58 (by decide) ?_ ?_
  · refine a_aload hS dX4_decide_65 rfl ?_
    refine a_getR hS (j := 309) dX4_decide_67 flX4_95 (sA304 hW) rfl ?_
    refine a_iload hS dX4_decide_70 rfl ?_
    refine a_callVi hS (rst := []) (c_Row_get hW 309 y0 σ iRow309) miX5_get mlX4_50 (sA309 hW) rfl rfl (Nat.le_of_ble_eq_true rfl) (Nat.le_of_ble_eq_true rfl) (Nat.le_of_ble_eq_true rfl) rfl dX4_decide_72 (fun q5 => ?_)
    exact k_Pla_decide_75 hS hN hW   x1 x5 x6 y0 q5.1 q5.2
  · refine a_iconst hS dX4_decide_61 ?_
    refine a_goto hS (tgt := 75) dX4_decide_62 (by decide) ?_
    exact k_Pla_decide_75 hS hN hW   x1 x5 x6 y0 (-1) σ
set_option maxRecDepth 100000 in
set_option maxHeartbeats 4000000 in
theorem c_Pla_decide {l : Launch} {w : Wd} (hW : shp w = ShA) (a0 : Int) (σ : Mem)  : Ctr l w yX4_decide cX4_decide 14 none (rmN 3 71) 0 [rf w 327, iv a0, rf w 11, rf w 289, rf w 304] σ (Pla_decide a0 σ) := by
  refine met_of (own := RX4) (by decide) rfl rfl rfl (Nat.le_of_ble_eq_true rfl) (fun X x hXl hN hS => ⟨[some (rf w 327), some (iv a0), some (rf w 11), some (rf w 289), some (rf w 304), none, none, none, none, none, none, none, none, none], ⟨9, rfl⟩, ?_⟩)
  subst hXl
  unfold Pla_decide
  refine a_aload_n hS dX4_decide_0 rfl ?_
  refine a_getR hS (j := 298) dX4_decide_1 flX4_84 (sA289 hW) rfl ?_
  refine a_iload_n hS dX4_decide_4 rfl ?_
  refine a_callVi hS (rst := []) (c_Row_get hW 298 a0 σ iRow298) miX5_get mlX4_50 (sA298 hW) rfl rfl (Nat.le_of_ble_eq_true rfl) (Nat.le_of_ble_eq_true rfl) (Nat.le_of_ble_eq_true rfl) rfl dX4_decide_5 (fun q1 => ?_)
  refine a_istore hS (L' := [some (rf w 327), some (iv a0), some (rf w 11), some (rf w 289), some (rf w 304), some (iv q1.1), none, none, none, none, none, none, none, none]) dX4_decide_8 hN (Nat.le_of_ble_eq_true rfl) rfl rfl ?_
  refine a_aload_n hS dX4_decide_10 rfl ?_
  refine a_getR hS (j := 298) dX4_decide_11 flX4_84 (sA289 hW) rfl ?_
  refine a_iload_n hS dX4_decide_14 rfl ?_
  refine a_iconst hS dX4_decide_15 ?_
  refine a_iadd hS dX4_decide_16 ?_
  refine a_callVi hS (rst := []) (c_Row_get hW 298 (a0 + 1) q1.2 iRow298) miX5_get mlX4_50 (sA298 hW) rfl rfl (Nat.le_of_ble_eq_true rfl) (Nat.le_of_ble_eq_true rfl) (Nat.le_of_ble_eq_true rfl) rfl dX4_decide_17 (fun q2 => ?_)
  refine a_istore hS (L' := [some (rf w 327), some (iv a0), some (rf w 11), some (rf w 289), some (rf w 304), some (iv q1.1), some (iv q2.1), none, none, none, none, none, none, none]) dX4_decide_20 hN (Nat.le_of_ble_eq_true rfl) rfl rfl ?_
  refine a_aload hS dX4_decide_22 rfl ?_
  refine a_iload hS dX4_decide_24 rfl ?_
  refine a_iload hS dX4_decide_26 rfl ?_
  refine a_callVi hS (rst := []) (c_Blk_lastLeadingCloser hW q1.1 q2.1 q2.2 ) miX0_lastLeadingCloser mlX4_87 (sA304 hW) rfl rfl (Nat.le_of_ble_eq_true rfl) (Nat.le_of_ble_eq_true rfl) (Nat.le_of_ble_eq_true rfl) rfl dX4_decide_28 (fun q3 => ?_)
  refine a_istore hS (L' := [some (rf w 327), some (iv a0), some (rf w 11), some (rf w 289), some (rf w 304), some (iv q1.1), some (iv q2.1), some (iv q3.1), none, none, none, none, none, none]) dX4_decide_31 hN (Nat.le_of_ble_eq_true rfl) rfl rfl ?_
  refine a_iload hS dX4_decide_33 rfl ?_
  refine a_iconst hS dX4_decide_35 ?_
  refine a_icmpne hS rfl (wl (-1) rfl) (tgt := 43) dX4_decide_36 (by decide) ?_ ?_
  · refine a_aload hS dX4_decide_43 rfl ?_
    refine a_getR hS (j := 311) dX4_decide_45 flX4_92 (sA304 hW) rfl ?_
    refine a_iload hS dX4_decide_48 rfl ?_
    refine a_callVi hS (rst := []) (c_Row_get hW 311 q3.1 q3.2 iRow311) miX5_get mlX4_50 (sA311 hW) rfl rfl (Nat.le_of_ble_eq_true rfl) (Nat.le_of_ble_eq_true rfl) (Nat.le_of_ble_eq_true rfl) rfl dX4_decide_50 (fun q4 => ?_)
    exact a_live (M := [true, true, true, true, true, true, true, false, false, false, false, false, false, false]) (k_Pla_decide_53 hS hN hW   a0 q1.1 q2.1 q4.1 q4.2) rfl
  · refine a_iconst hS dX4_decide_39 ?_
    refine a_goto hS (tgt := 53) dX4_decide_40 (by decide) ?_
    exact a_live (M := [true, true, true, true, true, true, true, false, false, false, false, false, false, false]) (k_Pla_decide_53 hS hN hW   a0 q1.1 q2.1 (-1) q3.2) rfl
noncomputable def Pla_make_42 (r3 : Int → Mem → Option (Int × Mem))  (x4 : Int) (σ : Mem) : Option (Int × Mem) := (Row_set 328 x4 (-9) σ).bind fun q4 => (Row_set 330 x4 (-1) q4.2).bind fun q5 => r3 (x4 + 1) q5.2
noncomputable def Pla_make_3b   (r3 : Int → Mem → Option (Int × Mem)) (x4 : Int) (σ : Mem) : Option (Int × Mem) := if wr x4 < wr (σ 2 0) then ((Row_get 5 x4 σ).bind fun q1 => if wr q1.1 = 0 then (Pla_make_42 r3 x4 q1.2) else ((Row_get 300 x4 q1.2).bind fun q2 => if wr q2.1 = 0 then ((Pla_decide x4 q2.2).bind fun q3 => r3 (x4 + 1) q3.2) else (Pla_make_42 r3 x4 q2.2))) else (some (0, σ))
noncomputable def Pla_make_3   (n : Nat) : Int → Mem → Option (Int × Mem) := fixN (fun _ _ => none) (Pla_make_3b  ) n
noncomputable def Pla_make  (σ : Mem) : Option (Int × Mem) := Pla_make_3 100000 0 σ
set_option maxRecDepth 100000 in
set_option maxHeartbeats 4000000 in
theorem k_Pla_make_42 {X : Cx} {w : Wd} {x : Int × Mem} (hS : Std X (rmN 4 104) w cX4_make RX4 none) (hN : cxn X = 5) (hW : shp w = ShA)  (r3 : Int → Mem → Option (Int × Mem)) (hr3 : ∀ (x4 : Int) (σ : Mem), Sm X (rmN 4 104) w 0 x 3 [some (rf w 327), some (rf w 1), some (rf w 289), some (rf w 304), some (iv x4)] [] σ (r3 x4 σ)) : ∀ (x4 : Int) (σ : Mem), Sm X (rmN 4 104) w 0 x 42 [some (rf w 327), some (rf w 1), some (rf w 289), some (rf w 304), some (iv x4)] [] σ (Pla_make_42 r3  x4 σ) := by
  intro x4 σ
  unfold Pla_make_42
  refine a_aload_n hS dX4_make_42 rfl ?_
  refine a_getR hS (j := 328) dX4_make_43 flX4_14 (sA327 hW) rfl ?_
  refine a_iload hS dX4_make_46 rfl ?_
  refine a_bipush hS dX4_make_48 rfl ?_
  refine a_callVv hS (rst := []) (c_Row_set hW 328 x4 (-9) σ iRow328) miX5_set mlX4_59 (sA328 hW) rfl rfl (Nat.le_of_ble_eq_true rfl) (Nat.le_of_ble_eq_true rfl) (Nat.le_of_ble_eq_true rfl) rfl dX4_make_50 (fun q4 => ?_)
  refine a_aload_n hS dX4_make_53 rfl ?_
  refine a_getR hS (j := 330) dX4_make_54 flX4_20 (sA327 hW) rfl ?_
  refine a_iload hS dX4_make_57 rfl ?_
  refine a_iconst hS dX4_make_59 ?_
  refine a_callVv hS (rst := []) (c_Row_set hW 330 x4 (-1) q4.2 iRow330) miX5_set mlX4_59 (sA330 hW) rfl rfl (Nat.le_of_ble_eq_true rfl) (Nat.le_of_ble_eq_true rfl) (Nat.le_of_ble_eq_true rfl) rfl dX4_make_60 (fun q5 => ?_)
  refine a_goto hS (tgt := 78) dX4_make_63 (by decide) ?_
  refine a_iinc hS (L' := [some (rf w 327), some (rf w 1), some (rf w 289), some (rf w 304), some (iv (x4 + 1))]) dX4_make_78 rfl hN (Nat.le_of_ble_eq_true rfl) rfl rfl ?_
  refine a_goto hS (tgt := 3) dX4_make_81 (by decide) ?_
  exact hr3 (x4 + 1) q5.2
set_option maxRecDepth 100000 in
set_option maxHeartbeats 4000000 in
theorem k_Pla_make_3 {X : Cx} {w : Wd} {x : Int × Mem} (hS : Std X (rmN 4 104) w cX4_make RX4 none) (hN : cxn X = 5) (hW : shp w = ShA)   : ∀ (n : Nat) (x4 : Int) (σ : Mem), Sm X (rmN 4 104) w 0 x 3 [some (rf w 327), some (rf w 1), some (rf w 289), some (rf w 304), some (iv x4)] [] σ (Pla_make_3   n x4 σ) := by
  refine fix_ok (P := fun (r3 : Int → Mem → Option (Int × Mem)) => ∀ (x4 : Int) (σ : Mem), Sm X (rmN 4 104) w 0 x 3 [some (rf w 327), some (rf w 1), some (rf w 289), some (rf w 304), some (iv x4)] [] σ (r3 x4 σ)) (fun _ _ => a_none) (fun r3 hr3 => ?_)
  intro x4 σ
  unfold Pla_make_3b
  refine a_iload hS dX4_make_3 rfl ?_
  refine a_aload_n hS dX4_make_5 rfl ?_
  refine a_getR hS (j := 2) dX4_make_6 flX4_35 (sA1 hW) rfl ?_
  refine a_getI hS dX4_make_9 flX4_41 (sA2 hW) rfl ?_
  refine a_icmpge hS rfl rfl (tgt := 84) dX4_make_12 (by decide) ?_ ?_
  · exact a_vret hS rfl rfl dX4_make_84
  · refine a_aload_n hS dX4_make_15 rfl ?_
    refine a_getR hS (j := 2) dX4_make_16 flX4_35 (sA1 hW) rfl ?_
    refine a_getR hS (j := 5) dX4_make_19 flX4_47 (sA2 hW) rfl ?_
    refine a_iload hS dX4_make_22 rfl ?_
    refine a_callVi hS (rst := []) (c_Row_get hW 5 x4 σ iRow5) miX5_get mlX4_50 (sA5 hW) rfl rfl (Nat.le_of_ble_eq_true rfl) (Nat.le_of_ble_eq_true rfl) (Nat.le_of_ble_eq_true rfl) rfl dX4_make_24 (fun q1 => ?_)
    refine a_ifeq hS rfl  (tgt := 42) dX4_make_27 (by decide) ?_ ?_
    · exact k_Pla_make_42 hS hN hW  r3 hr3 x4 q1.2
    · refine a_aload_n hS dX4_make_30 rfl ?_
      refine a_getR hS (j := 300) dX4_make_31 flX4_54 (sA289 hW) rfl ?_
      refine a_iload hS dX4_make_34 rfl ?_
      refine a_callVi hS (rst := []) (c_Row_get hW 300 x4 q1.2 iRow300) miX5_get mlX4_50 (sA300 hW) rfl rfl (Nat.le_of_ble_eq_true rfl) (Nat.le_of_ble_eq_true rfl) (Nat.le_of_ble_eq_true rfl) rfl dX4_make_36 (fun q2 => ?_)
      refine a_ifeq hS rfl  (tgt := 66) dX4_make_39 (by decide) ?_ ?_
      · refine a_aload_n hS dX4_make_66 rfl ?_
        refine a_iload hS dX4_make_67 rfl ?_
        refine a_aload_n hS dX4_make_69 rfl ?_
        refine a_getR hS (j := 11) dX4_make_70 flX4_63 (sA1 hW) rfl ?_
        refine a_aload_n hS dX4_make_73 rfl ?_
        refine a_aload_n hS dX4_make_74 rfl ?_
        refine a_callVv hS (rst := []) (c_Pla_decide hW x4 q2.2 ) miX4_decide mlX4_67 (sA327 hW) rfl rfl (Nat.le_of_ble_eq_true rfl) (Nat.le_of_ble_eq_true rfl) (Nat.le_of_ble_eq_true rfl) rfl dX4_make_75 (fun q3 => ?_)
        refine a_iinc hS (L' := [some (rf w 327), some (rf w 1), some (rf w 289), some (rf w 304), some (iv (x4 + 1))]) dX4_make_78 rfl hN (Nat.le_of_ble_eq_true rfl) rfl rfl ?_
        refine a_goto hS (tgt := 3) dX4_make_81 (by decide) ?_
        exact hr3 (x4 + 1) q3.2
      · exact k_Pla_make_42 hS hN hW  r3 hr3 x4 q2.2
set_option maxRecDepth 100000 in
set_option maxHeartbeats 4000000 in
theorem c_Pla_make {l : Launch} {w : Wd} (hW : shp w = ShA)  (σ : Mem)  : Ctr l w yX4_make cX4_make 5 none (rmN 4 104) 0 [rf w 327, rf w 1, rf w 289, rf w 304] σ (Pla_make  σ) := by
  refine met_of (own := RX4) (by decide) rfl rfl rfl (Nat.le_of_ble_eq_true rfl) (fun X x hXl hN hS => ⟨[some (rf w 327), some (rf w 1), some (rf w 289), some (rf w 304), none], ⟨1, rfl⟩, ?_⟩)
  subst hXl
  unfold Pla_make
  refine a_iconst hS dX4_make_0 ?_
  refine a_istore hS (L' := [some (rf w 327), some (rf w 1), some (rf w 289), some (rf w 304), some (iv 0)]) dX4_make_1 hN (Nat.le_of_ble_eq_true rfl) rfl rfl ?_
  exact k_Pla_make_3 hS hN hW   100000 0 σ
noncomputable def Pla_column_63  (o2 : Nat) (x1 : Int) (x3 : Int) (y0 : Int) (σ : Mem) : Option (Int × Mem) := (Row_get 338 x1 σ).bind fun q7 => some ((mmaxI 0 (mminI 40 (y0 + (q7.1 * x3)))), q7.2)
noncomputable def Pla_column (a0 : Int) (o2 : Nat) (a1 : Int) (a2 : Int) (σ : Mem) : Option (Int × Mem) := (Row_get 328 a0 σ).bind fun q1 => if wr q1.1 = (-9) then (some ((-9), q1.2)) else ((Row_get 332 a0 q1.2).bind fun q2 => if wr q2.1 = (-1) then (Pla_column_63 o2 a0 a1 a2 q2.2) else ((Row_get o2 q2.1 q2.2).bind fun q3 => (Row_get 334 a0 q3.2).bind fun q4 => (Row_get 336 a0 q4.2).bind fun q5 => (Ai_columnFrom q3.1 q4.1 q5.1 a1 q5.2).bind fun q6 => Pla_column_63 o2 a0 a1 q6.1 q6.2))
set_option maxRecDepth 100000 in
set_option maxHeartbeats 4000000 in
theorem k_Pla_column_63 {X : Cx} {w : Wd} {x : Int × Mem} (hS : Std X (rmN 2 44) w cX4_column RX4 (some .int)) (hN : cxn X = 7) (hW : shp w = ShA) {o2 : Nat} (h_o2 : isRow o2)  : ∀ (x1 : Int) (x3 : Int) (y0 : Int) (σ : Mem), Sm X (rmN 2 44) w 1 x 63 [some (rf w 327), some (iv x1), none, some (iv x3), none, none, none] [iv y0] σ (Pla_column_63  o2 x1 x3 y0 σ) := by
  intro x1 x3 y0 σ
  unfold Pla_column_63
  refine a_istore hS (L' := [some (rf w 327), some (iv x1), none, some (iv x3), none, none, some (iv y0)]) dX4_column_63 hN (Nat.le_of_ble_eq_true rfl) rfl rfl ?_
  refine a_iconst hS dX4_column_65 ?_
  refine a_bipush hS dX4_column_66 rfl ?_
  refine a_iload hS dX4_column_68 rfl ?_
  refine a_aload_n hS dX4_column_70 rfl ?_
  refine a_getR hS (j := 338) dX4_column_71 flX4_32 (sA327 hW) rfl ?_
  refine a_iload_n hS dX4_column_74 rfl ?_
  refine a_callVi hS (rst := [iv y0, iv 40, iv 0]) (c_Row_get hW 338 x1 σ iRow338) miX5_get mlX4_50 (sA338 hW) rfl rfl (Nat.le_of_ble_eq_true rfl) (Nat.le_of_ble_eq_true rfl) (Nat.le_of_ble_eq_true rfl) rfl dX4_column_75 (fun q7 => ?_)
  refine a_iload_n hS dX4_column_78 rfl ?_
  refine a_imul hS dX4_column_79 ?_
  refine a_iadd hS dX4_column_80 ?_
  refine a_mmin hS mlMX4_75 mmmin2 mm3 mmmin4 (Nat.le_of_ble_eq_true rfl) (Nat.le_of_ble_eq_true rfl) dX4_column_81 ?_
  refine a_mmax hS mlMX4_81 mmmax2 mm3 mmmax4 (Nat.le_of_ble_eq_true rfl) (Nat.le_of_ble_eq_true rfl) dX4_column_84 ?_
  exact a_iret hS rfl rfl dX4_column_87
set_option maxRecDepth 100000 in
set_option maxHeartbeats 4000000 in
theorem c_Pla_column {l : Launch} {w : Wd} (hW : shp w = ShA) (a0 : Int) (o2 : Nat) (a1 : Int) (a2 : Int) (σ : Mem) (h_o2 : isRow o2) : Ctr l w yX4_column cX4_column 7 (some .int) (rmN 2 44) 1 [rf w 327, iv a0, rf w o2, iv a1, iv a2] σ (Pla_column a0 o2 a1 a2 σ) := by
  refine met_of (own := RX4) (by decide) rfl rfl rfl (Nat.le_of_ble_eq_true rfl) (fun X x hXl hN hS => ⟨[some (rf w 327), some (iv a0), some (rf w o2), some (iv a1), some (iv a2), none, none], ⟨2, rfl⟩, ?_⟩)
  subst hXl
  unfold Pla_column
  refine a_aload_n hS dX4_column_0 rfl ?_
  refine a_getR hS (j := 328) dX4_column_1 flX4_14 (sA327 hW) rfl ?_
  refine a_iload_n hS dX4_column_4 rfl ?_
  refine a_callVi hS (rst := []) (c_Row_get hW 328 a0 σ iRow328) miX5_get mlX4_50 (sA328 hW) rfl rfl (Nat.le_of_ble_eq_true rfl) (Nat.le_of_ble_eq_true rfl) (Nat.le_of_ble_eq_true rfl) rfl dX4_column_5 (fun q1 => ?_)
  refine a_bipush hS dX4_column_8 rfl ?_
  refine a_icmpne hS rfl (wl (-9) rfl) (tgt := 16) dX4_column_10 (by decide) ?_ ?_
  · refine a_aload_n hS dX4_column_16 rfl ?_
    refine a_getR hS (j := 332) dX4_column_17 flX4_23 (sA327 hW) rfl ?_
    refine a_iload_n hS dX4_column_20 rfl ?_
    refine a_callVi hS (rst := []) (c_Row_get hW 332 a0 q1.2 iRow332) miX5_get mlX4_50 (sA332 hW) rfl rfl (Nat.le_of_ble_eq_true rfl) (Nat.le_of_ble_eq_true rfl) (Nat.le_of_ble_eq_true rfl) rfl dX4_column_21 (fun q2 => ?_)
    refine a_istore hS (L' := [some (rf w 327), some (iv a0), some (rf w o2), some (iv a1), some (iv a2), some (iv q2.1), none]) dX4_column_24 hN (Nat.le_of_ble_eq_true rfl) rfl rfl ?_
    refine a_iload hS dX4_column_26 rfl ?_
    refine a_iconst hS dX4_column_28 ?_
    refine a_icmpne hS rfl (wl (-1) rfl) (tgt := 37) dX4_column_29 (by decide) ?_ ?_
    · refine a_aload_n hS dX4_column_37 rfl ?_
      refine a_iload hS dX4_column_38 rfl ?_
      refine a_callVi hS (rst := []) (c_Row_get hW o2 q2.1 q2.2 h_o2) miX5_get mlX4_50 (ssh_Row0 hW h_o2) rfl rfl (Nat.le_of_ble_eq_true rfl) (Nat.le_of_ble_eq_true rfl) (Nat.le_of_ble_eq_true rfl) rfl dX4_column_40 (fun q3 => ?_)
      refine a_aload_n hS dX4_column_43 rfl ?_
      refine a_getR hS (j := 334) dX4_column_44 flX4_26 (sA327 hW) rfl ?_
      refine a_iload_n hS dX4_column_47 rfl ?_
      refine a_callVi hS (rst := [iv q3.1]) (c_Row_get hW 334 a0 q3.2 iRow334) miX5_get mlX4_50 (sA334 hW) rfl rfl (Nat.le_of_ble_eq_true rfl) (Nat.le_of_ble_eq_true rfl) (Nat.le_of_ble_eq_true rfl) rfl dX4_column_48 (fun q4 => ?_)
      refine a_aload_n hS dX4_column_51 rfl ?_
      refine a_getR hS (j := 336) dX4_column_52 flX4_29 (sA327 hW) rfl ?_
      refine a_iload_n hS dX4_column_55 rfl ?_
      refine a_callVi hS (rst := [iv q4.1, iv q3.1]) (c_Row_get hW 336 a0 q4.2 iRow336) miX5_get mlX4_50 (sA336 hW) rfl rfl (Nat.le_of_ble_eq_true rfl) (Nat.le_of_ble_eq_true rfl) (Nat.le_of_ble_eq_true rfl) rfl dX4_column_56 (fun q5 => ?_)
      refine a_iload_n hS dX4_column_59 rfl ?_
      refine a_callSNi hS (rst := []) (c_Ai_columnFrom hW q3.1 q4.1 q5.1 a1 q5.2 ) msX11_columnFrom nwX4_71 rfl (Nat.le_of_ble_eq_true rfl) (Nat.le_of_ble_eq_true rfl) (Nat.le_of_ble_eq_true rfl) rfl dX4_column_60 (fun q6 => ?_)
      exact a_live (M := [true, true, false, true, false, false, false]) (k_Pla_column_63 hS hN hW h_o2  a0 a1 q6.1 q6.2) rfl
    · refine a_iload hS dX4_column_32 rfl ?_
      refine a_goto hS (tgt := 63) dX4_column_34 (by decide) ?_
      exact a_live (M := [true, true, false, true, false, false, false]) (k_Pla_column_63 hS hN hW h_o2  a0 a1 a2 q2.2) rfl
  · refine a_bipush hS dX4_column_13 rfl ?_
    exact a_iret hS rfl rfl dX4_column_15
