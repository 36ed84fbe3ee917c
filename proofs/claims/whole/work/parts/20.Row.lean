noncomputable def Row_set (o : Nat) (a0 : Int) (a1 : Int) (σ : Mem) : Option (Int × Mem) := if wr a0 < 0 then (some (0, σ)) else (if wr a0 < wr (lnA (o + 1) : Int) then (if 0 ≤ wr a0 ∧ wr a0 < (lnA (o + 1) : Int) then (letM (upM σ (o + 1) (wr a0).toNat a1) fun s1 => some (0, s1)) else none) else (some (0, σ)))
set_option maxRecDepth 100000 in
set_option maxHeartbeats 4000000 in
theorem c_Row_set {l : Launch} {w : Wd} (hW : shp w = ShA) (o : Nat) (a0 : Int) (a1 : Int) (σ : Mem) (h_o : isRow o) : Ctr l w yX5_set cX5_set 3 none (rmN 0 0) 0 [rf w o, iv a0, iv a1] σ (Row_set o a0 a1 σ) := by
  refine met_of (own := RX5) (by decide) rfl rfl rfl (Nat.le_of_ble_eq_true rfl) (fun X x hXl hN hS => ⟨[some (rf w o), some (iv a0), some (iv a1)], ⟨0, rfl⟩, ?_⟩)
  subst hXl
  unfold Row_set
  refine a_iload_n hS dX5_set_0 rfl ?_
  refine a_iflt hS rfl  (tgt := 20) dX5_set_1 (by decide) ?_ ?_
  · exact a_vret hS rfl rfl dX5_set_20
  · refine a_iload_n hS dX5_set_4 rfl ?_
    refine a_aload_n hS dX5_set_5 rfl ?_
    refine a_getR hS (j := (o + 1)) dX5_set_6 flX5_15 (ssh_Row0 hW h_o) rfl ?_
    refine a_alen hS (ssh_Row1 hW h_o) dX5_set_9 ?_
    refine a_icmpge hS rfl rfl (tgt := 20) dX5_set_10 (by decide) ?_ ?_
    · exact a_vret hS rfl rfl dX5_set_20
    · refine a_aload_n hS dX5_set_13 rfl ?_
      refine a_getR hS (j := (o + 1)) dX5_set_14 flX5_15 (ssh_Row0 hW h_o) rfl ?_
      refine a_iload_n hS dX5_set_17 rfl ?_
      refine a_iload_n hS dX5_set_18 rfl ?_
      refine a_iast hS (ssh_Row1 hW h_o) dX5_set_19 ?_
      refine a_letM (fun s1 => ?_)
      exact a_vret hS rfl rfl dX5_set_20
noncomputable def Row_get (o : Nat) (a0 : Int) (σ : Mem) : Option (Int × Mem) := if wr a0 < 0 then (some ((-1), σ)) else (if wr a0 < wr (lnA (o + 1) : Int) then (if 0 ≤ wr a0 ∧ wr a0 < (lnA (o + 1) : Int) then (some ((σ (o + 1) (wr a0).toNat), σ)) else none) else (some ((-1), σ)))
set_option maxRecDepth 100000 in
set_option maxHeartbeats 4000000 in
theorem c_Row_get {l : Launch} {w : Wd} (hW : shp w = ShA) (o : Nat) (a0 : Int) (σ : Mem) (h_o : isRow o) : Ctr l w yX5_get cX5_get 2 (some .int) (rmN 0 0) 1 [rf w o, iv a0] σ (Row_get o a0 σ) := by
  refine met_of (own := RX5) (by decide) rfl rfl rfl (Nat.le_of_ble_eq_true rfl) (fun X x hXl hN hS => ⟨[some (rf w o), some (iv a0)], ⟨0, rfl⟩, ?_⟩)
  subst hXl
  unfold Row_get
  refine a_iload_n hS dX5_get_0 rfl ?_
  refine a_iflt hS rfl  (tgt := 22) dX5_get_1 (by decide) ?_ ?_
  · refine a_iconst hS dX5_get_22 ?_
    exact a_iret hS rfl rfl dX5_get_23
  · refine a_iload_n hS dX5_get_4 rfl ?_
    refine a_aload_n hS dX5_get_5 rfl ?_
    refine a_getR hS (j := (o + 1)) dX5_get_6 flX5_15 (ssh_Row0 hW h_o) rfl ?_
    refine a_alen hS (ssh_Row1 hW h_o) dX5_get_9 ?_
    refine a_icmpge hS rfl rfl (tgt := 22) dX5_get_10 (by decide) ?_ ?_
    · refine a_iconst hS dX5_get_22 ?_
      exact a_iret hS rfl rfl dX5_get_23
    · refine a_aload_n hS dX5_get_13 rfl ?_
      refine a_getR hS (j := (o + 1)) dX5_get_14 flX5_15 (ssh_Row0 hW h_o) rfl ?_
      refine a_iload_n hS dX5_get_17 rfl ?_
      refine a_iald hS dX5_get_18 (ssh_Row1 hW h_o) ?_
      refine a_goto hS (tgt := 23) dX5_get_19 (by decide) ?_
      exact a_iret hS rfl rfl dX5_get_23
noncomputable def Row_copy (o : Nat) (o2 : Nat) (σ : Mem) : Option (Int × Mem) := if 0 ≤ wr (mminI (lnA (o + 1) : Int) (lnA (o2 + 1) : Int)) ∧ wr (mminI (lnA (o + 1) : Int) (lnA (o2 + 1) : Int)) ≤ (lnA (o2 + 1) : Int) ∧ wr (mminI (lnA (o + 1) : Int) (lnA (o2 + 1) : Int)) ≤ (lnA (o + 1) : Int) then (letM (cpM σ (o2 + 1) (o + 1) (wr (mminI (lnA (o + 1) : Int) (lnA (o2 + 1) : Int))).toNat) fun s1 => some (0, s1)) else none
set_option maxRecDepth 100000 in
set_option maxHeartbeats 4000000 in
theorem c_Row_copy {l : Launch} {w : Wd} (hW : shp w = ShA) (o : Nat) (o2 : Nat) (σ : Mem) (h_o : isRow o) (h_o2 : isRow o2) : Ctr l w yX5_copy cX5_copy 2 none (rmN 1 30) 0 [rf w o, rf w o2] σ (Row_copy o o2 σ) := by
  refine met_of (own := RX5) (by decide) rfl rfl rfl (Nat.le_of_ble_eq_true rfl) (fun X x hXl hN hS => ⟨[some (rf w o), some (rf w o2)], ⟨0, rfl⟩, ?_⟩)
  subst hXl
  unfold Row_copy
  refine a_aload_n hS dX5_copy_0 rfl ?_
  refine a_getR hS (j := (o2 + 1)) dX5_copy_1 flX5_15 (ssh_Row0 hW h_o2) rfl ?_
  refine a_iconst hS dX5_copy_4 ?_
  refine a_aload_n hS dX5_copy_5 rfl ?_
  refine a_getR hS (j := (o + 1)) dX5_copy_6 flX5_15 (ssh_Row0 hW h_o) rfl ?_
  refine a_iconst hS dX5_copy_9 ?_
  refine a_aload_n hS dX5_copy_10 rfl ?_
  refine a_getR hS (j := (o + 1)) dX5_copy_11 flX5_15 (ssh_Row0 hW h_o) rfl ?_
  refine a_alen hS (ssh_Row1 hW h_o) dX5_copy_14 ?_
  refine a_aload_n hS dX5_copy_15 rfl ?_
  refine a_getR hS (j := (o2 + 1)) dX5_copy_16 flX5_15 (ssh_Row0 hW h_o2) rfl ?_
  refine a_alen hS (ssh_Row1 hW h_o2) dX5_copy_19 ?_
  refine a_mmin hS mlMX5_21 mmmin2 mm3 mmmin4 (Nat.le_of_ble_eq_true rfl) (Nat.le_of_ble_eq_true rfl) dX5_copy_20 ?_
  refine a_acopy hS dX5_copy_23 mlNX5_24 acw2 acw3 acw4 (ssh_Row1 hW h_o2) (ssh_Row1 hW h_o) (Nat.le_of_ble_eq_true rfl) (by decide) ?_
  refine a_letM (fun s1 => ?_)
  exact a_vret hS rfl rfl dX5_copy_26
noncomputable def Ai_within (a0 : Int) (a1 : Int) (a2 : Int) (σ : Mem) : Option (Int × Mem) := if wr a0 < wr a1 then (some (0, σ)) else (if wr a2 < wr a0 then (some (0, σ)) else (some (1, σ)))
set_option maxRecDepth 100000 in
set_option maxHeartbeats 4000000 in
theorem c_Ai_within {l : Launch} {w : Wd} (hW : shp w = ShA) (a0 : Int) (a1 : Int) (a2 : Int) (σ : Mem)  : Ctr l w yX11_within cX11_within 3 (some .boolean) (rmN 0 0) 1 [iv a0, iv a1, iv a2] σ (Ai_within a0 a1 a2 σ) := by
  refine met_of (own := RX11) (by decide) rfl rfl rfl (Nat.le_of_ble_eq_true rfl) (fun X x hXl hN hS => ⟨[some (iv a0), some (iv a1), some (iv a2)], ⟨0, rfl⟩, ?_⟩)
  subst hXl
  unfold Ai_within
  refine a_iload_n hS dX11_within_0 rfl ?_
  refine a_iload_n hS dX11_within_1 rfl ?_
  refine a_icmplt hS rfl rfl (tgt := 14) dX11_within_2 (by decide) ?_ ?_
  · refine a_iconst hS dX11_within_14 ?_
    exact a_zret hS (by decide) rfl rfl dX11_within_15
  · refine a_iload_n hS dX11_within_5 rfl ?_
    refine a_iload_n hS dX11_within_6 rfl ?_
    refine a_icmpgt hS rfl rfl (tgt := 14) dX11_within_7 (by decide) ?_ ?_
    · refine a_iconst hS dX11_within_14 ?_
      exact a_zret hS (by decide) rfl rfl dX11_within_15
    · refine a_iconst hS dX11_within_10 ?_
      refine a_goto hS (tgt := 15) dX11_within_11 (by decide) ?_
      exact a_zret hS (by decide) rfl rfl dX11_within_15
noncomputable def Ai_columnFrom (a0 : Int) (a1 : Int) (a2 : Int) (a3 : Int) (σ : Mem) : Option (Int × Mem) := if 0 < wr a2 then (some ((mminI 40 (a0 + (a2 * a3))), σ)) else (some ((a0 + a1), σ))
set_option maxRecDepth 100000 in
set_option maxHeartbeats 4000000 in
theorem c_Ai_columnFrom {l : Launch} {w : Wd} (hW : shp w = ShA) (a0 : Int) (a1 : Int) (a2 : Int) (a3 : Int) (σ : Mem)  : Ctr l w yX11_columnFrom cX11_columnFrom 4 (some .int) (rmN 1 21) 1 [iv a0, iv a1, iv a2, iv a3] σ (Ai_columnFrom a0 a1 a2 a3 σ) := by
  refine met_of (own := RX11) (by decide) rfl rfl rfl (Nat.le_of_ble_eq_true rfl) (fun X x hXl hN hS => ⟨[some (iv a0), some (iv a1), some (iv a2), some (iv a3)], ⟨0, rfl⟩, ?_⟩)
  subst hXl
  unfold Ai_columnFrom
  refine a_iload_n hS dX11_columnFrom_0 rfl ?_
  refine a_ifle hS rfl  (tgt := 17) dX11_columnFrom_1 (by decide) ?_ ?_
  · refine a_iload_n hS dX11_columnFrom_17 rfl ?_
    refine a_iload_n hS dX11_columnFrom_18 rfl ?_
    refine a_iadd hS dX11_columnFrom_19 ?_
    exact a_iret hS rfl rfl dX11_columnFrom_20
  · refine a_bipush hS dX11_columnFrom_4 rfl ?_
    refine a_iload_n hS dX11_columnFrom_6 rfl ?_
    refine a_iload_n hS dX11_columnFrom_7 rfl ?_
    refine a_iload_n hS dX11_columnFrom_8 rfl ?_
    refine a_imul hS dX11_columnFrom_9 ?_
    refine a_iadd hS dX11_columnFrom_10 ?_
    refine a_mmin hS mlMX11_317 mmmin2 mm3 mmmin4 (Nat.le_of_ble_eq_true rfl) (Nat.le_of_ble_eq_true rfl) dX11_columnFrom_11 ?_
    refine a_goto hS (tgt := 20) dX11_columnFrom_14 (by decide) ?_
    exact a_iret hS rfl rfl dX11_columnFrom_20
noncomputable def Ai_isWordByte (a0 : Int) (σ : Mem) : Option (Int × Mem) := (Ai_within a0 97 122 σ).bind fun q1 => if wr q1.1 = 0 then ((Ai_within a0 65 90 q1.2).bind fun q2 => if wr q2.1 = 0 then ((Ai_within a0 48 57 q2.2).bind fun q3 => if wr q3.1 = 0 then (if wr a0 = 95 then (some (1, q3.2)) else (some (0, q3.2))) else (some (1, q3.2))) else (some (1, q2.2))) else (some (1, q1.2))
set_option maxRecDepth 100000 in
set_option maxHeartbeats 4000000 in
theorem c_Ai_isWordByte {l : Launch} {w : Wd} (hW : shp w = ShA) (a0 : Int) (σ : Mem)  : Ctr l w yX11_isWordByte cX11_isWordByte 1 (some .boolean) (rmN 1 22) 1 [iv a0] σ (Ai_isWordByte a0 σ) := by
  refine met_of (own := RX11) (by decide) rfl rfl rfl (Nat.le_of_ble_eq_true rfl) (fun X x hXl hN hS => ⟨[some (iv a0)], ⟨0, rfl⟩, ?_⟩)
  subst hXl
  unfold Ai_isWordByte
  refine a_iload_n hS dX11_isWordByte_0 rfl ?_
  refine a_bipush hS dX11_isWordByte_1 rfl ?_
  refine a_bipush hS dX11_isWordByte_3 rfl ?_
  refine a_callSi hS (rst := []) (c_Ai_within hW a0 97 122 σ ) msX11_within mlX11_85 rfl (Nat.le_of_ble_eq_true rfl) (Nat.le_of_ble_eq_true rfl) (Nat.le_of_ble_eq_true rfl) rfl dX11_isWordByte_5 (fun q1 => ?_)
  refine a_ifne hS rfl  (tgt := 39) dX11_isWordByte_8 (by decide) ?_ ?_
  · refine a_iconst hS dX11_isWordByte_39 ?_
    refine a_goto hS (tgt := 44) dX11_isWordByte_40 (by decide) ?_
    exact a_zret hS (by decide) rfl rfl dX11_isWordByte_44
  · refine a_iload_n hS dX11_isWordByte_11 rfl ?_
    refine a_bipush hS dX11_isWordByte_12 rfl ?_
    refine a_bipush hS dX11_isWordByte_14 rfl ?_
    refine a_callSi hS (rst := []) (c_Ai_within hW a0 65 90 q1.2 ) msX11_within mlX11_85 rfl (Nat.le_of_ble_eq_true rfl) (Nat.le_of_ble_eq_true rfl) (Nat.le_of_ble_eq_true rfl) rfl dX11_isWordByte_16 (fun q2 => ?_)
    refine a_ifne hS rfl  (tgt := 39) dX11_isWordByte_19 (by decide) ?_ ?_
    · refine a_iconst hS dX11_isWordByte_39 ?_
      refine a_goto hS (tgt := 44) dX11_isWordByte_40 (by decide) ?_
      exact a_zret hS (by decide) rfl rfl dX11_isWordByte_44
    · refine a_iload_n hS dX11_isWordByte_22 rfl ?_
      refine a_bipush hS dX11_isWordByte_23 rfl ?_
      refine a_bipush hS dX11_isWordByte_25 rfl ?_
      refine a_callSi hS (rst := []) (c_Ai_within hW a0 48 57 q2.2 ) msX11_within mlX11_85 rfl (Nat.le_of_ble_eq_true rfl) (Nat.le_of_ble_eq_true rfl) (Nat.le_of_ble_eq_true rfl) rfl dX11_isWordByte_27 (fun q3 => ?_)
      refine a_ifne hS rfl  (tgt := 39) dX11_isWordByte_30 (by decide) ?_ ?_
      · refine a_iconst hS dX11_isWordByte_39 ?_
        refine a_goto hS (tgt := 44) dX11_isWordByte_40 (by decide) ?_
        exact a_zret hS (by decide) rfl rfl dX11_isWordByte_44
      · refine a_iload_n hS dX11_isWordByte_33 rfl ?_
        refine a_bipush hS dX11_isWordByte_34 rfl ?_
        refine a_icmpne hS rfl (wl 95 rfl) (tgt := 43) dX11_isWordByte_36 (by decide) ?_ ?_
        · refine a_iconst hS dX11_isWordByte_43 ?_
          exact a_zret hS (by decide) rfl rfl dX11_isWordByte_44
        · refine a_iconst hS dX11_isWordByte_39 ?_
          refine a_goto hS (tgt := 44) dX11_isWordByte_40 (by decide) ?_
          exact a_zret hS (by decide) rfl rfl dX11_isWordByte_44
noncomputable def Ai_mix (a0 : Int) (a1 : Int) (σ : Mem) : Option (Int × Mem) := some (((31 * a0) + (wr a1)), σ)
set_option maxRecDepth 100000 in
set_option maxHeartbeats 4000000 in
theorem c_Ai_mix {l : Launch} {w : Wd} (hW : shp w = ShA) (a0 : Int) (a1 : Int) (σ : Mem)  : Ctr l w yX11_mix cX11_mix 3 (some .long) (rmN 0 0) 2 [jv a0, iv a1] σ (Ai_mix a0 a1 σ) := by
  refine met_of (own := RX11) (by decide) rfl rfl rfl (Nat.le_of_ble_eq_true rfl) (fun X x hXl hN hS => ⟨[some (jv a0), none, some (iv a1)], ⟨0, rfl⟩, ?_⟩)
  subst hXl
  unfold Ai_mix
  refine a_ldc2 hS (n := 31) dX11_mix_0 (WL_in (tb5 (List.mem_of_getElem? (i := 115) rfl)) rfl) rfl ?_
  refine a_lload_n hS dX11_mix_3 rfl ?_
  refine a_lmul hS dX11_mix_4 ?_
  refine a_iload_n hS dX11_mix_5 rfl ?_
  refine a_i2l hS dX11_mix_6 ?_
  refine a_ladd hS dX11_mix_7 ?_
  exact a_lret hS rfl rfl dX11_mix_8
noncomputable def Ai_canBeginComment (a0 : Int) (σ : Mem) : Option (Int × Mem) := (Ai_within a0 33 126 σ).bind fun q1 => if wr q1.1 = 0 then (some (0, q1.2)) else (if wr a0 = 34 then (some (0, q1.2)) else ((Ai_isWordByte a0 q1.2).bind fun q2 => if wr q2.1 = 0 then (some (1, q2.2)) else (some (0, q2.2))))
set_option maxRecDepth 100000 in
set_option maxHeartbeats 4000000 in
theorem c_Ai_canBeginComment {l : Launch} {w : Wd} (hW : shp w = ShA) (a0 : Int) (σ : Mem)  : Ctr l w yX11_canBeginComment cX11_canBeginComment 1 (some .boolean) (rmN 2 42) 1 [iv a0] σ (Ai_canBeginComment a0 σ) := by
  refine met_of (own := RX11) (by decide) rfl rfl rfl (Nat.le_of_ble_eq_true rfl) (fun X x hXl hN hS => ⟨[some (iv a0)], ⟨0, rfl⟩, ?_⟩)
  subst hXl
  unfold Ai_canBeginComment
  refine a_iload_n hS dX11_canBeginComment_0 rfl ?_
  refine a_bipush hS dX11_canBeginComment_1 rfl ?_
  refine a_bipush hS dX11_canBeginComment_3 rfl ?_
  refine a_callSi hS (rst := []) (c_Ai_within hW a0 33 126 σ ) msX11_within mlX11_85 rfl (Nat.le_of_ble_eq_true rfl) (Nat.le_of_ble_eq_true rfl) (Nat.le_of_ble_eq_true rfl) rfl dX11_canBeginComment_5 (fun q1 => ?_)
  refine a_ifeq hS rfl  (tgt := 28) dX11_canBeginComment_8 (by decide) ?_ ?_
  · refine a_iconst hS dX11_canBeginComment_28 ?_
    exact a_zret hS (by decide) rfl rfl dX11_canBeginComment_29
  · refine a_iload_n hS dX11_canBeginComment_11 rfl ?_
    refine a_bipush hS dX11_canBeginComment_12 rfl ?_
    refine a_icmpeq hS rfl (wl 34 rfl) (tgt := 28) dX11_canBeginComment_14 (by decide) ?_ ?_
    · refine a_iconst hS dX11_canBeginComment_28 ?_
      exact a_zret hS (by decide) rfl rfl dX11_canBeginComment_29
    · refine a_iload_n hS dX11_canBeginComment_17 rfl ?_
      refine a_callSi hS (rst := []) (c_Ai_isWordByte hW a0 q1.2 ) msX11_isWordByte mlX11_337 rfl (Nat.le_of_ble_eq_true rfl) (Nat.le_of_ble_eq_true rfl) (Nat.le_of_ble_eq_true rfl) rfl dX11_canBeginComment_18 (fun q2 => ?_)
      refine a_ifne hS rfl  (tgt := 28) dX11_canBeginComment_21 (by decide) ?_ ?_
      · refine a_iconst hS dX11_canBeginComment_28 ?_
        exact a_zret hS (by decide) rfl rfl dX11_canBeginComment_29
      · refine a_iconst hS dX11_canBeginComment_24 ?_
        refine a_goto hS (tgt := 29) dX11_canBeginComment_25 (by decide) ?_
        exact a_zret hS (by decide) rfl rfl dX11_canBeginComment_29
noncomputable def Ai_isRuleNumber (a0 : Int) (σ : Mem) : Option (Int × Mem) := (Ai_within a0 0 11 σ).bind fun q1 => if q1.1 = 0 ∨ q1.1 = 1 then some (q1.1, q1.2) else none
set_option maxRecDepth 100000 in
set_option maxHeartbeats 4000000 in
theorem c_Ai_isRuleNumber {l : Launch} {w : Wd} (hW : shp w = ShA) (a0 : Int) (σ : Mem)  : Ctr l w yX11_isRuleNumber cX11_isRuleNumber 1 (some .boolean) (rmN 1 22) 1 [iv a0] σ (Ai_isRuleNumber a0 σ) := by
  refine met_of (own := RX11) (by decide) rfl rfl rfl (Nat.le_of_ble_eq_true rfl) (fun X x hXl hN hS => ⟨[some (iv a0)], ⟨0, rfl⟩, ?_⟩)
  subst hXl
  unfold Ai_isRuleNumber
  refine a_iload_n hS dX11_isRuleNumber_0 rfl ?_
  refine a_iconst hS dX11_isRuleNumber_1 ?_
  refine a_bipush hS dX11_isRuleNumber_2 rfl ?_
  refine a_callSi hS (rst := []) (c_Ai_within hW a0 0 11 σ ) msX11_within mlX11_85 rfl (Nat.le_of_ble_eq_true rfl) (Nat.le_of_ble_eq_true rfl) (Nat.le_of_ble_eq_true rfl) rfl dX11_isRuleNumber_4 (fun q1 => ?_)
  exact a_zretv hS rfl rfl dX11_isRuleNumber_7
noncomputable def Itg_bitCount (a0 : Int) (σ : Mem) : Option (Int × Mem) := some ((andI (((andI (((andI (a0 - (andI (ushrI a0 1) 1431655765)) 858993459) + (andI (ushrI (a0 - (andI (ushrI a0 1) 1431655765)) 2) 858993459)) + (ushrI ((andI (a0 - (andI (ushrI a0 1) 1431655765)) 858993459) + (andI (ushrI (a0 - (andI (ushrI a0 1) 1431655765)) 2) 858993459)) 4)) 252645135) + (ushrI (andI (((andI (a0 - (andI (ushrI a0 1) 1431655765)) 858993459) + (andI (ushrI (a0 - (andI (ushrI a0 1) 1431655765)) 2) 858993459)) + (ushrI ((andI (a0 - (andI (ushrI a0 1) 1431655765)) 858993459) + (andI (ushrI (a0 - (andI (ushrI a0 1) 1431655765)) 2) 858993459)) 4)) 252645135) 8)) + (ushrI ((andI (((andI (a0 - (andI (ushrI a0 1) 1431655765)) 858993459) + (andI (ushrI (a0 - (andI (ushrI a0 1) 1431655765)) 2) 858993459)) + (ushrI ((andI (a0 - (andI (ushrI a0 1) 1431655765)) 858993459) + (andI (ushrI (a0 - (andI (ushrI a0 1) 1431655765)) 2) 858993459)) 4)) 252645135) + (ushrI (andI (((andI (a0 - (andI (ushrI a0 1) 1431655765)) 858993459) + (andI (ushrI (a0 - (andI (ushrI a0 1) 1431655765)) 2) 858993459)) + (ushrI ((andI (a0 - (andI (ushrI a0 1) 1431655765)) 858993459) + (andI (ushrI (a0 - (andI (ushrI a0 1) 1431655765)) 2) 858993459)) 4)) 252645135) 8)) 16)) 63), σ)
set_option maxRecDepth 100000 in
set_option maxHeartbeats 4000000 in
theorem c_Itg_bitCount {l : Launch} {w : Wd} (hW : shp w = ShA) (a0 : Int) (σ : Mem)  : Ctr l w yJ6_bitCount_0f7a4 cJ6_bitCount_0f7a4 1 (some .int) (rmN 0 0) 1 [iv a0] σ (Itg_bitCount a0 σ) := by
  refine met_of (own := RJ6) (by decide) rfl rfl rfl (Nat.le_of_ble_eq_true rfl) (fun X x hXl hN hS => ⟨[some (iv a0)], ⟨0, rfl⟩, ?_⟩)
  subst hXl
  unfold Itg_bitCount
  refine a_iload_n hS dJ6_bitCount_0f7a4_0 rfl ?_
  refine a_iload_n hS dJ6_bitCount_0f7a4_1 rfl ?_
  refine a_iconst hS dJ6_bitCount_0f7a4_2 ?_
  refine a_iushr hS dJ6_bitCount_0f7a4_3 ?_
  refine a_ldcw hS (n := 1431655765) dJ6_bitCount_0f7a4_4 (WL_in (tb4 (List.mem_of_getElem? (i := 127) rfl)) rfl) rfl ?_
  refine a_iand hS dJ6_bitCount_0f7a4_7 ?_
  refine a_isub hS dJ6_bitCount_0f7a4_8 ?_
  refine a_istore_n hS (L' := [some (iv (a0 - (andI (ushrI a0 1) 1431655765)))]) dJ6_bitCount_0f7a4_9 hN (Nat.le_of_ble_eq_true rfl) rfl rfl ?_
  refine a_iload_n hS dJ6_bitCount_0f7a4_10 rfl ?_
  refine a_ldcw hS (n := 858993459) dJ6_bitCount_0f7a4_11 (WL_in (tb4 (List.mem_of_getElem? (i := 128) rfl)) rfl) rfl ?_
  refine a_iand hS dJ6_bitCount_0f7a4_14 ?_
  refine a_iload_n hS dJ6_bitCount_0f7a4_15 rfl ?_
  refine a_iconst hS dJ6_bitCount_0f7a4_16 ?_
  refine a_iushr hS dJ6_bitCount_0f7a4_17 ?_
  refine a_ldcw hS (n := 858993459) dJ6_bitCount_0f7a4_18 (WL_in (tb4 (List.mem_of_getElem? (i := 128) rfl)) rfl) rfl ?_
  refine a_iand hS dJ6_bitCount_0f7a4_21 ?_
  refine a_iadd hS dJ6_bitCount_0f7a4_22 ?_
  refine a_istore_n hS (L' := [some (iv ((andI (a0 - (andI (ushrI a0 1) 1431655765)) 858993459) + (andI (ushrI (a0 - (andI (ushrI a0 1) 1431655765)) 2) 858993459)))]) dJ6_bitCount_0f7a4_23 hN (Nat.le_of_ble_eq_true rfl) rfl rfl ?_
  refine a_iload_n hS dJ6_bitCount_0f7a4_24 rfl ?_
  refine a_iload_n hS dJ6_bitCount_0f7a4_25 rfl ?_
  refine a_iconst hS dJ6_bitCount_0f7a4_26 ?_
  refine a_iushr hS dJ6_bitCount_0f7a4_27 ?_
  refine a_iadd hS dJ6_bitCount_0f7a4_28 ?_
  refine a_ldcw hS (n := 252645135) dJ6_bitCount_0f7a4_29 (WL_in (tb4 (List.mem_of_getElem? (i := 129) rfl)) rfl) rfl ?_
  refine a_iand hS dJ6_bitCount_0f7a4_32 ?_
  refine a_istore_n hS (L' := [some (iv (andI (((andI (a0 - (andI (ushrI a0 1) 1431655765)) 858993459) + (andI (ushrI (a0 - (andI (ushrI a0 1) 1431655765)) 2) 858993459)) + (ushrI ((andI (a0 - (andI (ushrI a0 1) 1431655765)) 858993459) + (andI (ushrI (a0 - (andI (ushrI a0 1) 1431655765)) 2) 858993459)) 4)) 252645135))]) dJ6_bitCount_0f7a4_33 hN (Nat.le_of_ble_eq_true rfl) rfl rfl ?_
  refine a_iload_n hS dJ6_bitCount_0f7a4_34 rfl ?_
  refine a_iload_n hS dJ6_bitCount_0f7a4_35 rfl ?_
  refine a_bipush hS dJ6_bitCount_0f7a4_36 rfl ?_
  refine a_iushr hS dJ6_bitCount_0f7a4_38 ?_
  refine a_iadd hS dJ6_bitCount_0f7a4_39 ?_
  refine a_istore_n hS (L' := [some (iv ((andI (((andI (a0 - (andI (ushrI a0 1) 1431655765)) 858993459) + (andI (ushrI (a0 - (andI (ushrI a0 1) 1431655765)) 2) 858993459)) + (ushrI ((andI (a0 - (andI (ushrI a0 1) 1431655765)) 858993459) + (andI (ushrI (a0 - (andI (ushrI a0 1) 1431655765)) 2) 858993459)) 4)) 252645135) + (ushrI (andI (((andI (a0 - (andI (ushrI a0 1) 1431655765)) 858993459) + (andI (ushrI (a0 - (andI (ushrI a0 1) 1431655765)) 2) 858993459)) + (ushrI ((andI (a0 - (andI (ushrI a0 1) 1431655765)) 858993459) + (andI (ushrI (a0 - (andI (ushrI a0 1) 1431655765)) 2) 858993459)) 4)) 252645135) 8)))]) dJ6_bitCount_0f7a4_40 hN (Nat.le_of_ble_eq_true rfl) rfl rfl ?_
  refine a_iload_n hS dJ6_bitCount_0f7a4_41 rfl ?_
  refine a_iload_n hS dJ6_bitCount_0f7a4_42 rfl ?_
  refine a_bipush hS dJ6_bitCount_0f7a4_43 rfl ?_
  refine a_iushr hS dJ6_bitCount_0f7a4_45 ?_
  refine a_iadd hS dJ6_bitCount_0f7a4_46 ?_
  refine a_istore_n hS (L' := [some (iv (((andI (((andI (a0 - (andI (ushrI a0 1) 1431655765)) 858993459) + (andI (ushrI (a0 - (andI (ushrI a0 1) 1431655765)) 2) 858993459)) + (ushrI ((andI (a0 - (andI (ushrI a0 1) 1431655765)) 858993459) + (andI (ushrI (a0 - (andI (ushrI a0 1) 1431655765)) 2) 858993459)) 4)) 252645135) + (ushrI (andI (((andI (a0 - (andI (ushrI a0 1) 1431655765)) 858993459) + (andI (ushrI (a0 - (andI (ushrI a0 1) 1431655765)) 2) 858993459)) + (ushrI ((andI (a0 - (andI (ushrI a0 1) 1431655765)) 858993459) + (andI (ushrI (a0 - (andI (ushrI a0 1) 1431655765)) 2) 858993459)) 4)) 252645135) 8)) + (ushrI ((andI (((andI (a0 - (andI (ushrI a0 1) 1431655765)) 858993459) + (andI (ushrI (a0 - (andI (ushrI a0 1) 1431655765)) 2) 858993459)) + (ushrI ((andI (a0 - (andI (ushrI a0 1) 1431655765)) 858993459) + (andI (ushrI (a0 - (andI (ushrI a0 1) 1431655765)) 2) 858993459)) 4)) 252645135) + (ushrI (andI (((andI (a0 - (andI (ushrI a0 1) 1431655765)) 858993459) + (andI (ushrI (a0 - (andI (ushrI a0 1) 1431655765)) 2) 858993459)) + (ushrI ((andI (a0 - (andI (ushrI a0 1) 1431655765)) 858993459) + (andI (ushrI (a0 - (andI (ushrI a0 1) 1431655765)) 2) 858993459)) 4)) 252645135) 8)) 16)))]) dJ6_bitCount_0f7a4_47 hN (Nat.le_of_ble_eq_true rfl) rfl rfl ?_
  refine a_iload_n hS dJ6_bitCount_0f7a4_48 rfl ?_
  refine a_bipush hS dJ6_bitCount_0f7a4_49 rfl ?_
  refine a_iand hS dJ6_bitCount_0f7a4_51 ?_
  exact a_iret hS rfl rfl dJ6_bitCount_0f7a4_52
noncomputable def Ai_nextSeed (a0 : Int) (σ : Mem) : Option (Int × Mem) := some (((a0 * 1103515245) + 12345), σ)
set_option maxRecDepth 100000 in
set_option maxHeartbeats 4000000 in
theorem c_Ai_nextSeed {l : Launch} {w : Wd} (hW : shp w = ShA) (a0 : Int) (σ : Mem)  : Ctr l w yX11_nextSeed cX11_nextSeed 1 (some .int) (rmN 0 0) 1 [iv a0] σ (Ai_nextSeed a0 σ) := by
  refine met_of (own := RX11) (by decide) rfl rfl rfl (Nat.le_of_ble_eq_true rfl) (fun X x hXl hN hS => ⟨[some (iv a0)], ⟨0, rfl⟩, ?_⟩)
  subst hXl
  unfold Ai_nextSeed
  refine a_iload_n hS dX11_nextSeed_0 rfl ?_
  refine a_ldcw hS (n := 1103515245) dX11_nextSeed_1 (WL_in (tb5 (List.mem_of_getElem? (i := 34) rfl)) rfl) rfl ?_
  refine a_imul hS dX11_nextSeed_4 ?_
  refine a_sipush hS dX11_nextSeed_5 rfl ?_
  refine a_iadd hS dX11_nextSeed_8 ?_
  exact a_iret hS rfl rfl dX11_nextSeed_9
noncomputable def Ai_drawnNumber (a0 : Int) (σ : Mem) : Option (Int × Mem) := some ((andI (ushrI a0 16) 32767), σ)
set_option maxRecDepth 100000 in
set_option maxHeartbeats 4000000 in
theorem c_Ai_drawnNumber {l : Launch} {w : Wd} (hW : shp w = ShA) (a0 : Int) (σ : Mem)  : Ctr l w yX11_drawnNumber cX11_drawnNumber 1 (some .int) (rmN 0 0) 1 [iv a0] σ (Ai_drawnNumber a0 σ) := by
  refine met_of (own := RX11) (by decide) rfl rfl rfl (Nat.le_of_ble_eq_true rfl) (fun X x hXl hN hS => ⟨[some (iv a0)], ⟨0, rfl⟩, ?_⟩)
  subst hXl
  unfold Ai_drawnNumber
  refine a_iload_n hS dX11_drawnNumber_0 rfl ?_
  refine a_bipush hS dX11_drawnNumber_1 rfl ?_
  refine a_iushr hS dX11_drawnNumber_3 ?_
  refine a_sipush hS dX11_drawnNumber_4 rfl ?_
  refine a_iand hS dX11_drawnNumber_7 ?_
  exact a_iret hS rfl rfl dX11_drawnNumber_8
