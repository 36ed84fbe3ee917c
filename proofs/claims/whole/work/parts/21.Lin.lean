noncomputable def Lin_byteOf (a0 : Int) (a1 : Int) (σ : Mem) : Option (Int × Mem) := if wr a1 < 0 then (some (0, σ)) else ((Row_get 5 a0 σ).bind fun q1 => if wr a1 < wr q1.1 then ((Row_get 9 ((a0 * 32) + a1) q1.2).bind fun q2 => some (q2.1, q2.2)) else (some (0, q1.2)))
set_option maxRecDepth 100000 in
set_option maxHeartbeats 4000000 in
theorem c_Lin_byteOf {l : Launch} {w : Wd} (hW : shp w = ShA) (a0 : Int) (a1 : Int) (σ : Mem)  : Ctr l w yX3_byteOf cX3_byteOf 3 (some .int) (rmN 1 21) 1 [rf w 2, iv a0, iv a1] σ (Lin_byteOf a0 a1 σ) := by
  refine met_of (own := RX3) (by decide) rfl rfl rfl (Nat.le_of_ble_eq_true rfl) (fun X x hXl hN hS => ⟨[some (rf w 2), some (iv a0), some (iv a1)], ⟨0, rfl⟩, ?_⟩)
  subst hXl
  unfold Lin_byteOf
  refine a_iload_n hS dX3_byteOf_0 rfl ?_
  refine a_iflt hS rfl  (tgt := 32) dX3_byteOf_1 (by decide) ?_ ?_
  · refine a_iconst hS dX3_byteOf_32 ?_
    exact a_iret hS rfl rfl dX3_byteOf_33
  · refine a_iload_n hS dX3_byteOf_4 rfl ?_
    refine a_aload_n hS dX3_byteOf_5 rfl ?_
    refine a_getR hS (j := 5) dX3_byteOf_6 flX3_24 (sA2 hW) rfl ?_
    refine a_iload_n hS dX3_byteOf_9 rfl ?_
    refine a_callVi hS (rst := [iv a1]) (c_Row_get hW 5 a0 σ iRow5) miX5_get mlX3_33 (sA5 hW) rfl rfl (Nat.le_of_ble_eq_true rfl) (Nat.le_of_ble_eq_true rfl) (Nat.le_of_ble_eq_true rfl) rfl dX3_byteOf_10 (fun q1 => ?_)
    refine a_icmpge hS rfl rfl (tgt := 32) dX3_byteOf_13 (by decide) ?_ ?_
    · refine a_iconst hS dX3_byteOf_32 ?_
      exact a_iret hS rfl rfl dX3_byteOf_33
    · refine a_aload_n hS dX3_byteOf_16 rfl ?_
      refine a_getR hS (j := 9) dX3_byteOf_17 flX3_30 (sA2 hW) rfl ?_
      refine a_iload_n hS dX3_byteOf_20 rfl ?_
      refine a_bipush hS dX3_byteOf_21 rfl ?_
      refine a_imul hS dX3_byteOf_23 ?_
      refine a_iload_n hS dX3_byteOf_24 rfl ?_
      refine a_iadd hS dX3_byteOf_25 ?_
      refine a_callVi hS (rst := []) (c_Row_get hW 9 ((a0 * 32) + a1) q1.2 iRow9) miX5_get mlX3_33 (sA9 hW) rfl rfl (Nat.le_of_ble_eq_true rfl) (Nat.le_of_ble_eq_true rfl) (Nat.le_of_ble_eq_true rfl) rfl dX3_byteOf_26 (fun q2 => ?_)
      refine a_goto hS (tgt := 33) dX3_byteOf_29 (by decide) ?_
      exact a_iret hS rfl rfl dX3_byteOf_33
noncomputable def Lin_append (a0 : Int) (a1 : Int) (σ : Mem) : Option (Int × Mem) := (Row_get 5 a0 σ).bind fun q1 => if wr q1.1 < 0 then (some (0, q1.2)) else (if wr q1.1 < 32 then ((Row_set 9 ((a0 * 32) + q1.1) a1 q1.2).bind fun q2 => (Row_set 5 a0 (q1.1 + 1) q2.2).bind fun q3 => some (0, q3.2)) else (some (0, q1.2)))
set_option maxRecDepth 100000 in
set_option maxHeartbeats 4000000 in
theorem c_Lin_append {l : Launch} {w : Wd} (hW : shp w = ShA) (a0 : Int) (a1 : Int) (σ : Mem)  : Ctr l w yX3_append cX3_append 4 none (rmN 1 22) 0 [rf w 2, iv a0, iv a1] σ (Lin_append a0 a1 σ) := by
  refine met_of (own := RX3) (by decide) rfl rfl rfl (Nat.le_of_ble_eq_true rfl) (fun X x hXl hN hS => ⟨[some (rf w 2), some (iv a0), some (iv a1), none], ⟨1, rfl⟩, ?_⟩)
  subst hXl
  unfold Lin_append
  refine a_aload_n hS dX3_append_0 rfl ?_
  refine a_getR hS (j := 5) dX3_append_1 flX3_24 (sA2 hW) rfl ?_
  refine a_iload_n hS dX3_append_4 rfl ?_
  refine a_callVi hS (rst := []) (c_Row_get hW 5 a0 σ iRow5) miX5_get mlX3_33 (sA5 hW) rfl rfl (Nat.le_of_ble_eq_true rfl) (Nat.le_of_ble_eq_true rfl) (Nat.le_of_ble_eq_true rfl) rfl dX3_append_5 (fun q1 => ?_)
  refine a_istore_n hS (L' := [some (rf w 2), some (iv a0), some (iv a1), some (iv q1.1)]) dX3_append_8 hN (Nat.le_of_ble_eq_true rfl) rfl rfl ?_
  refine a_iload_n hS dX3_append_9 rfl ?_
  refine a_iflt hS rfl  (tgt := 44) dX3_append_10 (by decide) ?_ ?_
  · exact a_vret hS rfl rfl dX3_append_44
  · refine a_iload_n hS dX3_append_13 rfl ?_
    refine a_bipush hS dX3_append_14 rfl ?_
    refine a_icmpge hS rfl (wl 32 rfl) (tgt := 44) dX3_append_16 (by decide) ?_ ?_
    · exact a_vret hS rfl rfl dX3_append_44
    · refine a_aload_n hS dX3_append_19 rfl ?_
      refine a_getR hS (j := 9) dX3_append_20 flX3_30 (sA2 hW) rfl ?_
      refine a_iload_n hS dX3_append_23 rfl ?_
      refine a_bipush hS dX3_append_24 rfl ?_
      refine a_imul hS dX3_append_26 ?_
      refine a_iload_n hS dX3_append_27 rfl ?_
      refine a_iadd hS dX3_append_28 ?_
      refine a_iload_n hS dX3_append_29 rfl ?_
      refine a_callVv hS (rst := []) (c_Row_set hW 9 ((a0 * 32) + q1.1) a1 q1.2 iRow9) miX5_set mlX3_37 (sA9 hW) rfl rfl (Nat.le_of_ble_eq_true rfl) (Nat.le_of_ble_eq_true rfl) (Nat.le_of_ble_eq_true rfl) rfl dX3_append_30 (fun q2 => ?_)
      refine a_aload_n hS dX3_append_33 rfl ?_
      refine a_getR hS (j := 5) dX3_append_34 flX3_24 (sA2 hW) rfl ?_
      refine a_iload_n hS dX3_append_37 rfl ?_
      refine a_iload_n hS dX3_append_38 rfl ?_
      refine a_iconst hS dX3_append_39 ?_
      refine a_iadd hS dX3_append_40 ?_
      refine a_callVv hS (rst := []) (c_Row_set hW 5 a0 (q1.1 + 1) q2.2 iRow5) miX5_set mlX3_37 (sA5 hW) rfl rfl (Nat.le_of_ble_eq_true rfl) (Nat.le_of_ble_eq_true rfl) (Nat.le_of_ble_eq_true rfl) rfl dX3_append_41 (fun q3 => ?_)
      exact a_vret hS rfl rfl dX3_append_44
noncomputable def Lin_copy (o : Nat) (o2 : Nat) (σ : Mem) : Option (Int × Mem) := letM (upM σ o 0 (σ o2 0)) fun s1 => (Row_copy (o + 1) (o2 + 1) s1).bind fun q2 => (Row_copy (o + 3) (o2 + 3) q2.2).bind fun q3 => (Row_copy (o + 5) (o2 + 5) q3.2).bind fun q4 => (Row_copy (o + 7) (o2 + 7) q4.2).bind fun q5 => some (0, q5.2)
set_option maxRecDepth 100000 in
set_option maxHeartbeats 4000000 in
theorem c_Lin_copy {l : Launch} {w : Wd} (hW : shp w = ShA) (o : Nat) (o2 : Nat) (σ : Mem) (h_o : isLin o) (h_o2 : isLin o2) : Ctr l w yX3_copy cX3_copy 2 none (rmN 2 51) 0 [rf w o, rf w o2] σ (Lin_copy o o2 σ) := by
  refine met_of (own := RX3) (by decide) rfl rfl rfl (Nat.le_of_ble_eq_true rfl) (fun X x hXl hN hS => ⟨[some (rf w o), some (rf w o2)], ⟨0, rfl⟩, ?_⟩)
  subst hXl
  unfold Lin_copy
  refine a_aload_n hS dX3_copy_0 rfl ?_
  refine a_aload_n hS dX3_copy_1 rfl ?_
  refine a_getI hS dX3_copy_2 flX3_9 (ssh_Lin0 hW h_o2) rfl ?_
  refine a_putI hS dX3_copy_5 plX3_9 (ssh_Lin0 hW h_o) rfl ?_
  refine a_letM (fun s1 => ?_)
  refine a_aload_n hS dX3_copy_8 rfl ?_
  refine a_getR hS (j := (o + 1)) dX3_copy_9 flX3_20 (ssh_Lin0 hW h_o) rfl ?_
  refine a_aload_n hS dX3_copy_12 rfl ?_
  refine a_getR hS (j := (o2 + 1)) dX3_copy_13 flX3_20 (ssh_Lin0 hW h_o2) rfl ?_
  refine a_callVv hS (rst := []) (c_Row_copy hW (o + 1) (o2 + 1) s1 (isLin_Row1 h_o) (isLin_Row1 h_o2)) miX5_copy mlX3_69 (ssh_Lin1 hW h_o) rfl rfl (Nat.le_of_ble_eq_true rfl) (Nat.le_of_ble_eq_true rfl) (Nat.le_of_ble_eq_true rfl) rfl dX3_copy_16 (fun q2 => ?_)
  refine a_aload_n hS dX3_copy_19 rfl ?_
  refine a_getR hS (j := (o + 3)) dX3_copy_20 flX3_24 (ssh_Lin0 hW h_o) rfl ?_
  refine a_aload_n hS dX3_copy_23 rfl ?_
  refine a_getR hS (j := (o2 + 3)) dX3_copy_24 flX3_24 (ssh_Lin0 hW h_o2) rfl ?_
  refine a_callVv hS (rst := []) (c_Row_copy hW (o + 3) (o2 + 3) q2.2 (isLin_Row3 h_o) (isLin_Row3 h_o2)) miX5_copy mlX3_69 (ssh_Lin3 hW h_o) rfl rfl (Nat.le_of_ble_eq_true rfl) (Nat.le_of_ble_eq_true rfl) (Nat.le_of_ble_eq_true rfl) rfl dX3_copy_27 (fun q3 => ?_)
  refine a_aload_n hS dX3_copy_30 rfl ?_
  refine a_getR hS (j := (o + 5)) dX3_copy_31 flX3_27 (ssh_Lin0 hW h_o) rfl ?_
  refine a_aload_n hS dX3_copy_34 rfl ?_
  refine a_getR hS (j := (o2 + 5)) dX3_copy_35 flX3_27 (ssh_Lin0 hW h_o2) rfl ?_
  refine a_callVv hS (rst := []) (c_Row_copy hW (o + 5) (o2 + 5) q3.2 (isLin_Row5 h_o) (isLin_Row5 h_o2)) miX5_copy mlX3_69 (ssh_Lin5 hW h_o) rfl rfl (Nat.le_of_ble_eq_true rfl) (Nat.le_of_ble_eq_true rfl) (Nat.le_of_ble_eq_true rfl) rfl dX3_copy_38 (fun q4 => ?_)
  refine a_aload_n hS dX3_copy_41 rfl ?_
  refine a_getR hS (j := (o + 7)) dX3_copy_42 flX3_30 (ssh_Lin0 hW h_o) rfl ?_
  refine a_aload_n hS dX3_copy_45 rfl ?_
  refine a_getR hS (j := (o2 + 7)) dX3_copy_46 flX3_30 (ssh_Lin0 hW h_o2) rfl ?_
  refine a_callVv hS (rst := []) (c_Row_copy hW (o + 7) (o2 + 7) q4.2 (isLin_Row7 h_o) (isLin_Row7 h_o2)) miX5_copy mlX3_69 (ssh_Lin7 hW h_o) rfl rfl (Nat.le_of_ble_eq_true rfl) (Nat.le_of_ble_eq_true rfl) (Nat.le_of_ble_eq_true rfl) rfl dX3_copy_49 (fun q5 => ?_)
  exact a_vret hS rfl rfl dX3_copy_52
noncomputable def Lin_has (a0 : Int) (σ : Mem) : Option (Int × Mem) := if wr a0 < 0 then (some (0, σ)) else (if wr a0 < wr (σ 2 0) then (some (1, σ)) else (some (0, σ)))
set_option maxRecDepth 100000 in
set_option maxHeartbeats 4000000 in
theorem c_Lin_has {l : Launch} {w : Wd} (hW : shp w = ShA) (a0 : Int) (σ : Mem)  : Ctr l w yX3_has cX3_has 2 (some .boolean) (rmN 0 0) 1 [rf w 2, iv a0] σ (Lin_has a0 σ) := by
  refine met_of (own := RX3) (by decide) rfl rfl rfl (Nat.le_of_ble_eq_true rfl) (fun X x hXl hN hS => ⟨[some (rf w 2), some (iv a0)], ⟨0, rfl⟩, ?_⟩)
  subst hXl
  unfold Lin_has
  refine a_iload_n hS dX3_has_0 rfl ?_
  refine a_iflt hS rfl  (tgt := 16) dX3_has_1 (by decide) ?_ ?_
  · refine a_iconst hS dX3_has_16 ?_
    exact a_zret hS (by decide) rfl rfl dX3_has_17
  · refine a_iload_n hS dX3_has_4 rfl ?_
    refine a_aload_n hS dX3_has_5 rfl ?_
    refine a_getI hS dX3_has_6 flX3_9 (sA2 hW) rfl ?_
    refine a_icmpge hS rfl rfl (tgt := 16) dX3_has_9 (by decide) ?_ ?_
    · refine a_iconst hS dX3_has_16 ?_
      exact a_zret hS (by decide) rfl rfl dX3_has_17
    · refine a_iconst hS dX3_has_12 ?_
      refine a_goto hS (tgt := 17) dX3_has_13 (by decide) ?_
      exact a_zret hS (by decide) rfl rfl dX3_has_17
noncomputable def Lin_hasRange (a0 : Int) (a1 : Int) (σ : Mem) : Option (Int × Mem) := if wr a0 < 0 then (some (0, σ)) else (if wr a1 < wr a0 then (some (0, σ)) else (if wr (σ 2 0) < wr a1 then (some (0, σ)) else (some (1, σ))))
set_option maxRecDepth 100000 in
set_option maxHeartbeats 4000000 in
theorem c_Lin_hasRange {l : Launch} {w : Wd} (hW : shp w = ShA) (a0 : Int) (a1 : Int) (σ : Mem)  : Ctr l w yX3_hasRange cX3_hasRange 3 (some .boolean) (rmN 0 0) 1 [rf w 2, iv a0, iv a1] σ (Lin_hasRange a0 a1 σ) := by
  refine met_of (own := RX3) (by decide) rfl rfl rfl (Nat.le_of_ble_eq_true rfl) (fun X x hXl hN hS => ⟨[some (rf w 2), some (iv a0), some (iv a1)], ⟨0, rfl⟩, ?_⟩)
  subst hXl
  unfold Lin_hasRange
  refine a_iload_n hS dX3_hasRange_0 rfl ?_
  refine a_iflt hS rfl  (tgt := 21) dX3_hasRange_1 (by decide) ?_ ?_
  · refine a_iconst hS dX3_hasRange_21 ?_
    exact a_zret hS (by decide) rfl rfl dX3_hasRange_22
  · refine a_iload_n hS dX3_hasRange_4 rfl ?_
    refine a_iload_n hS dX3_hasRange_5 rfl ?_
    refine a_icmpgt hS rfl rfl (tgt := 21) dX3_hasRange_6 (by decide) ?_ ?_
    · refine a_iconst hS dX3_hasRange_21 ?_
      exact a_zret hS (by decide) rfl rfl dX3_hasRange_22
    · refine a_iload_n hS dX3_hasRange_9 rfl ?_
      refine a_aload_n hS dX3_hasRange_10 rfl ?_
      refine a_getI hS dX3_hasRange_11 flX3_9 (sA2 hW) rfl ?_
      refine a_icmpgt hS rfl rfl (tgt := 21) dX3_hasRange_14 (by decide) ?_ ?_
      · refine a_iconst hS dX3_hasRange_21 ?_
        exact a_zret hS (by decide) rfl rfl dX3_hasRange_22
      · refine a_iconst hS dX3_hasRange_17 ?_
        refine a_goto hS (tgt := 22) dX3_hasRange_18 (by decide) ?_
        exact a_zret hS (by decide) rfl rfl dX3_hasRange_22
noncomputable def Lin_appendFrom_13b   (r13 : Int → Int → Int → Int → Mem → Option (Int × Mem)) (x1 : Int) (x3 : Int) (x4 : Int) (x5 : Int) (σ : Mem) : Option (Int × Mem) := if wr x5 < wr x4 then ((Lin_byteOf x1 x5 σ).bind fun q2 => (Lin_append x3 q2.1 q2.2).bind fun q3 => r13 x1 x3 x4 (x5 + 1) q3.2) else (some (0, σ))
noncomputable def Lin_appendFrom_13   (n : Nat) : Int → Int → Int → Int → Mem → Option (Int × Mem) := fixN (fun _ _ _ _ _ => none) (Lin_appendFrom_13b  ) n
noncomputable def Lin_appendFrom (a0 : Int) (a1 : Int) (a2 : Int) (σ : Mem) : Option (Int × Mem) := (Row_get 5 a0 σ).bind fun q1 => Lin_appendFrom_13 100000 a0 a2 q1.1 a1 q1.2
set_option maxRecDepth 100000 in
set_option maxHeartbeats 4000000 in
theorem k_Lin_appendFrom_13 {X : Cx} {w : Wd} {x : Int × Mem} (hS : Std X (rmN 2 45) w cX3_appendFrom RX3 none) (hN : cxn X = 6) (hW : shp w = ShA)   : ∀ (n : Nat) (x1 : Int) (x3 : Int) (x4 : Int) (x5 : Int) (σ : Mem), Sm X (rmN 2 45) w 0 x 13 [some (rf w 2), some (iv x1), none, some (iv x3), some (iv x4), some (iv x5)] [] σ (Lin_appendFrom_13   n x1 x3 x4 x5 σ) := by
  refine fix_ok (P := fun (r13 : Int → Int → Int → Int → Mem → Option (Int × Mem)) => ∀ (x1 : Int) (x3 : Int) (x4 : Int) (x5 : Int) (σ : Mem), Sm X (rmN 2 45) w 0 x 13 [some (rf w 2), some (iv x1), none, some (iv x3), some (iv x4), some (iv x5)] [] σ (r13 x1 x3 x4 x5 σ)) (fun _ _ _ _ _ => a_none) (fun r13 hr13 => ?_)
  intro x1 x3 x4 x5 σ
  unfold Lin_appendFrom_13b
  refine a_iload hS dX3_appendFrom_13 rfl ?_
  refine a_iload hS dX3_appendFrom_15 rfl ?_
  refine a_icmpge hS rfl rfl (tgt := 38) dX3_appendFrom_17 (by decide) ?_ ?_
  · exact a_vret hS rfl rfl dX3_appendFrom_38
  · refine a_aload_n hS dX3_appendFrom_20 rfl ?_
    refine a_iload_n hS dX3_appendFrom_21 rfl ?_
    refine a_aload_n hS dX3_appendFrom_22 rfl ?_
    refine a_iload_n hS dX3_appendFrom_23 rfl ?_
    refine a_iload hS dX3_appendFrom_24 rfl ?_
    refine a_callVi hS (rst := [iv x3, rf w 2]) (c_Lin_byteOf hW x1 x5 σ ) miX3_byteOf mlX3_41 (sA2 hW) rfl rfl (Nat.le_of_ble_eq_true rfl) (Nat.le_of_ble_eq_true rfl) (Nat.le_of_ble_eq_true rfl) rfl dX3_appendFrom_26 (fun q2 => ?_)
    refine a_callVv hS (rst := []) (c_Lin_append hW x3 q2.1 q2.2 ) miX3_append mlX3_45 (sA2 hW) rfl rfl (Nat.le_of_ble_eq_true rfl) (Nat.le_of_ble_eq_true rfl) (Nat.le_of_ble_eq_true rfl) rfl dX3_appendFrom_29 (fun q3 => ?_)
    refine a_iinc hS (L' := [some (rf w 2), some (iv x1), none, some (iv x3), some (iv x4), some (iv (x5 + 1))]) dX3_appendFrom_32 rfl hN (Nat.le_of_ble_eq_true rfl) rfl rfl ?_
    refine a_goto hS (tgt := 13) dX3_appendFrom_35 (by decide) ?_
    exact hr13 x1 x3 x4 (x5 + 1) q3.2
set_option maxRecDepth 100000 in
set_option maxHeartbeats 4000000 in
theorem c_Lin_appendFrom {l : Launch} {w : Wd} (hW : shp w = ShA) (a0 : Int) (a1 : Int) (a2 : Int) (σ : Mem)  : Ctr l w yX3_appendFrom cX3_appendFrom 6 none (rmN 2 45) 0 [rf w 2, iv a0, iv a1, iv a2] σ (Lin_appendFrom a0 a1 a2 σ) := by
  refine met_of (own := RX3) (by decide) rfl rfl rfl (Nat.le_of_ble_eq_true rfl) (fun X x hXl hN hS => ⟨[some (rf w 2), some (iv a0), some (iv a1), some (iv a2), none, none], ⟨2, rfl⟩, ?_⟩)
  subst hXl
  unfold Lin_appendFrom
  refine a_aload_n hS dX3_appendFrom_0 rfl ?_
  refine a_getR hS (j := 5) dX3_appendFrom_1 flX3_24 (sA2 hW) rfl ?_
  refine a_iload_n hS dX3_appendFrom_4 rfl ?_
  refine a_callVi hS (rst := []) (c_Row_get hW 5 a0 σ iRow5) miX5_get mlX3_33 (sA5 hW) rfl rfl (Nat.le_of_ble_eq_true rfl) (Nat.le_of_ble_eq_true rfl) (Nat.le_of_ble_eq_true rfl) rfl dX3_appendFrom_5 (fun q1 => ?_)
  refine a_istore hS (L' := [some (rf w 2), some (iv a0), some (iv a1), some (iv a2), some (iv q1.1), none]) dX3_appendFrom_8 hN (Nat.le_of_ble_eq_true rfl) rfl rfl ?_
  refine a_iload_n hS dX3_appendFrom_10 rfl ?_
  refine a_istore hS (L' := [some (rf w 2), some (iv a0), some (iv a1), some (iv a2), some (iv q1.1), some (iv a1)]) dX3_appendFrom_11 hN (Nat.le_of_ble_eq_true rfl) rfl rfl ?_
  exact a_live (M := [true, true, false, true, true, true]) (k_Lin_appendFrom_13 hS hN hW   100000 a0 a2 q1.1 a1 q1.2) rfl
noncomputable def Lin_copyLine_53b   (r53 : Int → Int → Int → Int → Mem → Option (Int × Mem)) (x1 : Int) (x2 : Int) (x3 : Int) (x4 : Int) (σ : Mem) : Option (Int × Mem) := if wr x4 < wr x3 then ((Row_get 9 ((x1 * 32) + x4) σ).bind fun q7 => (Row_set 9 ((x2 * 32) + x4) q7.1 q7.2).bind fun q8 => r53 x1 x2 x3 (x4 + 1) q8.2) else (some (0, σ))
noncomputable def Lin_copyLine_53   (n : Nat) : Int → Int → Int → Int → Mem → Option (Int × Mem) := fixN (fun _ _ _ _ _ => none) (Lin_copyLine_53b  ) n
noncomputable def Lin_copyLine (a0 : Int) (a1 : Int) (σ : Mem) : Option (Int × Mem) := (Row_get 3 a0 σ).bind fun q1 => (Row_set 3 a1 q1.1 q1.2).bind fun q2 => (Row_get 7 a0 q2.2).bind fun q3 => (Row_set 7 a1 q3.1 q3.2).bind fun q4 => (Row_get 5 a0 q4.2).bind fun q5 => (Row_set 5 a1 q5.1 q5.2).bind fun q6 => Lin_copyLine_53 100000 a0 a1 q5.1 0 q6.2
set_option maxRecDepth 100000 in
set_option maxHeartbeats 4000000 in
theorem k_Lin_copyLine_53 {X : Cx} {w : Wd} {x : Int × Mem} (hS : Std X (rmN 1 22) w cX3_copyLine RX3 none) (hN : cxn X = 5) (hW : shp w = ShA)   : ∀ (n : Nat) (x1 : Int) (x2 : Int) (x3 : Int) (x4 : Int) (σ : Mem), Sm X (rmN 1 22) w 0 x 53 [some (rf w 2), some (iv x1), some (iv x2), some (iv x3), some (iv x4)] [] σ (Lin_copyLine_53   n x1 x2 x3 x4 σ) := by
  refine fix_ok (P := fun (r53 : Int → Int → Int → Int → Mem → Option (Int × Mem)) => ∀ (x1 : Int) (x2 : Int) (x3 : Int) (x4 : Int) (σ : Mem), Sm X (rmN 1 22) w 0 x 53 [some (rf w 2), some (iv x1), some (iv x2), some (iv x3), some (iv x4)] [] σ (r53 x1 x2 x3 x4 σ)) (fun _ _ _ _ _ => a_none) (fun r53 hr53 => ?_)
  intro x1 x2 x3 x4 σ
  unfold Lin_copyLine_53b
  refine a_iload hS dX3_copyLine_53 rfl ?_
  refine a_iload_n hS dX3_copyLine_55 rfl ?_
  refine a_icmpge hS rfl rfl (tgt := 93) dX3_copyLine_56 (by decide) ?_ ?_
  · exact a_vret hS rfl rfl dX3_copyLine_93
  · refine a_aload_n hS dX3_copyLine_59 rfl ?_
    refine a_getR hS (j := 9) dX3_copyLine_60 flX3_30 (sA2 hW) rfl ?_
    refine a_iload_n hS dX3_copyLine_63 rfl ?_
    refine a_bipush hS dX3_copyLine_64 rfl ?_
    refine a_imul hS dX3_copyLine_66 ?_
    refine a_iload hS dX3_copyLine_67 rfl ?_
    refine a_iadd hS dX3_copyLine_69 ?_
    refine a_aload_n hS dX3_copyLine_70 rfl ?_
    refine a_getR hS (j := 9) dX3_copyLine_71 flX3_30 (sA2 hW) rfl ?_
    refine a_iload_n hS dX3_copyLine_74 rfl ?_
    refine a_bipush hS dX3_copyLine_75 rfl ?_
    refine a_imul hS dX3_copyLine_77 ?_
    refine a_iload hS dX3_copyLine_78 rfl ?_
    refine a_iadd hS dX3_copyLine_80 ?_
    refine a_callVi hS (rst := [iv ((x2 * 32) + x4), rf w 9]) (c_Row_get hW 9 ((x1 * 32) + x4) σ iRow9) miX5_get mlX3_33 (sA9 hW) rfl rfl (Nat.le_of_ble_eq_true rfl) (Nat.le_of_ble_eq_true rfl) (Nat.le_of_ble_eq_true rfl) rfl dX3_copyLine_81 (fun q7 => ?_)
    refine a_callVv hS (rst := []) (c_Row_set hW 9 ((x2 * 32) + x4) q7.1 q7.2 iRow9) miX5_set mlX3_37 (sA9 hW) rfl rfl (Nat.le_of_ble_eq_true rfl) (Nat.le_of_ble_eq_true rfl) (Nat.le_of_ble_eq_true rfl) rfl dX3_copyLine_84 (fun q8 => ?_)
    refine a_iinc hS (L' := [some (rf w 2), some (iv x1), some (iv x2), some (iv x3), some (iv (x4 + 1))]) dX3_copyLine_87 rfl hN (Nat.le_of_ble_eq_true rfl) rfl rfl ?_
    refine a_goto hS (tgt := 53) dX3_copyLine_90 (by decide) ?_
    exact hr53 x1 x2 x3 (x4 + 1) q8.2
set_option maxRecDepth 100000 in
set_option maxHeartbeats 4000000 in
theorem c_Lin_copyLine {l : Launch} {w : Wd} (hW : shp w = ShA) (a0 : Int) (a1 : Int) (σ : Mem)  : Ctr l w yX3_copyLine cX3_copyLine 5 none (rmN 1 22) 0 [rf w 2, iv a0, iv a1] σ (Lin_copyLine a0 a1 σ) := by
  refine met_of (own := RX3) (by decide) rfl rfl rfl (Nat.le_of_ble_eq_true rfl) (fun X x hXl hN hS => ⟨[some (rf w 2), some (iv a0), some (iv a1), none, none], ⟨2, rfl⟩, ?_⟩)
  subst hXl
  unfold Lin_copyLine
  refine a_aload_n hS dX3_copyLine_0 rfl ?_
  refine a_getR hS (j := 3) dX3_copyLine_1 flX3_20 (sA2 hW) rfl ?_
  refine a_iload_n hS dX3_copyLine_4 rfl ?_
  refine a_aload_n hS dX3_copyLine_5 rfl ?_
  refine a_getR hS (j := 3) dX3_copyLine_6 flX3_20 (sA2 hW) rfl ?_
  refine a_iload_n hS dX3_copyLine_9 rfl ?_
  refine a_callVi hS (rst := [iv a1, rf w 3]) (c_Row_get hW 3 a0 σ iRow3) miX5_get mlX3_33 (sA3 hW) rfl rfl (Nat.le_of_ble_eq_true rfl) (Nat.le_of_ble_eq_true rfl) (Nat.le_of_ble_eq_true rfl) rfl dX3_copyLine_10 (fun q1 => ?_)
  refine a_callVv hS (rst := []) (c_Row_set hW 3 a1 q1.1 q1.2 iRow3) miX5_set mlX3_37 (sA3 hW) rfl rfl (Nat.le_of_ble_eq_true rfl) (Nat.le_of_ble_eq_true rfl) (Nat.le_of_ble_eq_true rfl) rfl dX3_copyLine_13 (fun q2 => ?_)
  refine a_aload_n hS dX3_copyLine_16 rfl ?_
  refine a_getR hS (j := 7) dX3_copyLine_17 flX3_27 (sA2 hW) rfl ?_
  refine a_iload_n hS dX3_copyLine_20 rfl ?_
  refine a_aload_n hS dX3_copyLine_21 rfl ?_
  refine a_getR hS (j := 7) dX3_copyLine_22 flX3_27 (sA2 hW) rfl ?_
  refine a_iload_n hS dX3_copyLine_25 rfl ?_
  refine a_callVi hS (rst := [iv a1, rf w 7]) (c_Row_get hW 7 a0 q2.2 iRow7) miX5_get mlX3_33 (sA7 hW) rfl rfl (Nat.le_of_ble_eq_true rfl) (Nat.le_of_ble_eq_true rfl) (Nat.le_of_ble_eq_true rfl) rfl dX3_copyLine_26 (fun q3 => ?_)
  refine a_callVv hS (rst := []) (c_Row_set hW 7 a1 q3.1 q3.2 iRow7) miX5_set mlX3_37 (sA7 hW) rfl rfl (Nat.le_of_ble_eq_true rfl) (Nat.le_of_ble_eq_true rfl) (Nat.le_of_ble_eq_true rfl) rfl dX3_copyLine_29 (fun q4 => ?_)
  refine a_aload_n hS dX3_copyLine_32 rfl ?_
  refine a_getR hS (j := 5) dX3_copyLine_33 flX3_24 (sA2 hW) rfl ?_
  refine a_iload_n hS dX3_copyLine_36 rfl ?_
  refine a_callVi hS (rst := []) (c_Row_get hW 5 a0 q4.2 iRow5) miX5_get mlX3_33 (sA5 hW) rfl rfl (Nat.le_of_ble_eq_true rfl) (Nat.le_of_ble_eq_true rfl) (Nat.le_of_ble_eq_true rfl) rfl dX3_copyLine_37 (fun q5 => ?_)
  refine a_istore_n hS (L' := [some (rf w 2), some (iv a0), some (iv a1), some (iv q5.1), none]) dX3_copyLine_40 hN (Nat.le_of_ble_eq_true rfl) rfl rfl ?_
  refine a_aload_n hS dX3_copyLine_41 rfl ?_
  refine a_getR hS (j := 5) dX3_copyLine_42 flX3_24 (sA2 hW) rfl ?_
  refine a_iload_n hS dX3_copyLine_45 rfl ?_
  refine a_iload_n hS dX3_copyLine_46 rfl ?_
  refine a_callVv hS (rst := []) (c_Row_set hW 5 a1 q5.1 q5.2 iRow5) miX5_set mlX3_37 (sA5 hW) rfl rfl (Nat.le_of_ble_eq_true rfl) (Nat.le_of_ble_eq_true rfl) (Nat.le_of_ble_eq_true rfl) rfl dX3_copyLine_47 (fun q6 => ?_)
  refine a_iconst hS dX3_copyLine_50 ?_
  refine a_istore hS (L' := [some (rf w 2), some (iv a0), some (iv a1), some (iv q5.1), some (iv 0)]) dX3_copyLine_51 hN (Nat.le_of_ble_eq_true rfl) rfl rfl ?_
  exact k_Lin_copyLine_53 hS hN hW   100000 a0 a1 q5.1 0 q6.2
noncomputable def Lin_openGap_14b   (r14 : Int → Int → Mem → Option (Int × Mem)) (x1 : Int) (x2 : Int) (σ : Mem) : Option (Int × Mem) := if wr x1 < wr x2 then ((Lin_copyLine (x2 - 1) x2 σ).bind fun q5 => r14 x1 (x2 + (-1)) q5.2) else (letM (upM σ 2 0 ((σ 2 0) + 1)) fun s1 => (Row_set 3 x1 0 s1).bind fun q2 => (Row_set 5 x1 0 q2.2).bind fun q3 => (Row_set 7 x1 0 q3.2).bind fun q4 => some (0, q4.2))
noncomputable def Lin_openGap_14   (n : Nat) : Int → Int → Mem → Option (Int × Mem) := fixN (fun _ _ _ => none) (Lin_openGap_14b  ) n
noncomputable def Lin_openGap (a0 : Int) (σ : Mem) : Option (Int × Mem) := if wr (σ 2 0) < 20 then (Lin_openGap_14 100000 a0 (σ 2 0) σ) else (some (0, σ))
set_option maxRecDepth 100000 in
set_option maxHeartbeats 4000000 in
theorem k_Lin_openGap_14 {X : Cx} {w : Wd} {x : Int × Mem} (hS : Std X (rmN 2 46) w cX3_openGap RX3 none) (hN : cxn X = 3) (hW : shp w = ShA)   : ∀ (n : Nat) (x1 : Int) (x2 : Int) (σ : Mem), Sm X (rmN 2 46) w 0 x 14 [some (rf w 2), some (iv x1), some (iv x2)] [] σ (Lin_openGap_14   n x1 x2 σ) := by
  refine fix_ok (P := fun (r14 : Int → Int → Mem → Option (Int × Mem)) => ∀ (x1 : Int) (x2 : Int) (σ : Mem), Sm X (rmN 2 46) w 0 x 14 [some (rf w 2), some (iv x1), some (iv x2)] [] σ (r14 x1 x2 σ)) (fun _ _ _ => a_none) (fun r14 hr14 => ?_)
  intro x1 x2 σ
  unfold Lin_openGap_14b
  refine a_iload_n hS dX3_openGap_14 rfl ?_
  refine a_iload_n hS dX3_openGap_15 rfl ?_
  refine a_icmple hS rfl rfl (tgt := 33) dX3_openGap_16 (by decide) ?_ ?_
  · refine a_aload_n hS dX3_openGap_33 rfl ?_
    refine a_dup hS rfl dX3_openGap_34 ?_
    refine a_getI hS dX3_openGap_35 flX3_9 (sA2 hW) rfl ?_
    refine a_iconst hS dX3_openGap_38 ?_
    refine a_iadd hS dX3_openGap_39 ?_
    refine a_putI hS dX3_openGap_40 plX3_9 (sA2 hW) rfl ?_
    refine a_letM (fun s1 => ?_)
    refine a_aload_n hS dX3_openGap_43 rfl ?_
    refine a_getR hS (j := 3) dX3_openGap_44 flX3_20 (sA2 hW) rfl ?_
    refine a_iload_n hS dX3_openGap_47 rfl ?_
    refine a_iconst hS dX3_openGap_48 ?_
    refine a_callVv hS (rst := []) (c_Row_set hW 3 x1 0 s1 iRow3) miX5_set mlX3_37 (sA3 hW) rfl rfl (Nat.le_of_ble_eq_true rfl) (Nat.le_of_ble_eq_true rfl) (Nat.le_of_ble_eq_true rfl) rfl dX3_openGap_49 (fun q2 => ?_)
    refine a_aload_n hS dX3_openGap_52 rfl ?_
    refine a_getR hS (j := 5) dX3_openGap_53 flX3_24 (sA2 hW) rfl ?_
    refine a_iload_n hS dX3_openGap_56 rfl ?_
    refine a_iconst hS dX3_openGap_57 ?_
    refine a_callVv hS (rst := []) (c_Row_set hW 5 x1 0 q2.2 iRow5) miX5_set mlX3_37 (sA5 hW) rfl rfl (Nat.le_of_ble_eq_true rfl) (Nat.le_of_ble_eq_true rfl) (Nat.le_of_ble_eq_true rfl) rfl dX3_openGap_58 (fun q3 => ?_)
    refine a_aload_n hS dX3_openGap_61 rfl ?_
    refine a_getR hS (j := 7) dX3_openGap_62 flX3_27 (sA2 hW) rfl ?_
    refine a_iload_n hS dX3_openGap_65 rfl ?_
    refine a_iconst hS dX3_openGap_66 ?_
    refine a_callVv hS (rst := []) (c_Row_set hW 7 x1 0 q3.2 iRow7) miX5_set mlX3_37 (sA7 hW) rfl rfl (Nat.le_of_ble_eq_true rfl) (Nat.le_of_ble_eq_true rfl) (Nat.le_of_ble_eq_true rfl) rfl dX3_openGap_67 (fun q4 => ?_)
    exact a_vret hS rfl rfl dX3_openGap_70
  · refine a_aload_n hS dX3_openGap_19 rfl ?_
    refine a_iload_n hS dX3_openGap_20 rfl ?_
    refine a_iconst hS dX3_openGap_21 ?_
    refine a_isub hS dX3_openGap_22 ?_
    refine a_iload_n hS dX3_openGap_23 rfl ?_
    refine a_callVv hS (rst := []) (c_Lin_copyLine hW (x2 - 1) x2 σ ) miX3_copyLine mlX3_48 (sA2 hW) rfl rfl (Nat.le_of_ble_eq_true rfl) (Nat.le_of_ble_eq_true rfl) (Nat.le_of_ble_eq_true rfl) rfl dX3_openGap_24 (fun q5 => ?_)
    refine a_iinc hS (L' := [some (rf w 2), some (iv x1), some (iv (x2 + (-1)))]) dX3_openGap_27 rfl hN (Nat.le_of_ble_eq_true rfl) rfl rfl ?_
    refine a_goto hS (tgt := 14) dX3_openGap_30 (by decide) ?_
    exact hr14 x1 (x2 + (-1)) q5.2
set_option maxRecDepth 100000 in
set_option maxHeartbeats 4000000 in
theorem c_Lin_openGap {l : Launch} {w : Wd} (hW : shp w = ShA) (a0 : Int) (σ : Mem)  : Ctr l w yX3_openGap cX3_openGap 3 none (rmN 2 46) 0 [rf w 2, iv a0] σ (Lin_openGap a0 σ) := by
  refine met_of (own := RX3) (by decide) rfl rfl rfl (Nat.le_of_ble_eq_true rfl) (fun X x hXl hN hS => ⟨[some (rf w 2), some (iv a0), none], ⟨1, rfl⟩, ?_⟩)
  subst hXl
  unfold Lin_openGap
  refine a_aload_n hS dX3_openGap_0 rfl ?_
  refine a_getI hS dX3_openGap_1 flX3_9 (sA2 hW) rfl ?_
  refine a_bipush hS dX3_openGap_4 rfl ?_
  refine a_icmpge hS rfl (wl 20 rfl) (tgt := 70) dX3_openGap_6 (by decide) ?_ ?_
  · exact a_vret hS rfl rfl dX3_openGap_70
  · refine a_aload_n hS dX3_openGap_9 rfl ?_
    refine a_getI hS dX3_openGap_10 flX3_9 (sA2 hW) rfl ?_
    refine a_istore_n hS (L' := [some (rf w 2), some (iv a0), some (iv (σ 2 0))]) dX3_openGap_13 hN (Nat.le_of_ble_eq_true rfl) rfl rfl ?_
    exact k_Lin_openGap_14 hS hN hW   100000 a0 (σ 2 0) σ
noncomputable def Lin_closeGap_10b   (r10 : Int → Mem → Option (Int × Mem)) (x2 : Int) (σ : Mem) : Option (Int × Mem) := if wr x2 < wr ((σ 2 0) - 1) then ((Lin_copyLine (x2 + 1) x2 σ).bind fun q3 => r10 (x2 + 1) q3.2) else (letM (upM σ 2 0 ((σ 2 0) - 1)) fun s2 => some (0, s2))
noncomputable def Lin_closeGap_10   (n : Nat) : Int → Mem → Option (Int × Mem) := fixN (fun _ _ => none) (Lin_closeGap_10b  ) n
noncomputable def Lin_closeGap (a0 : Int) (σ : Mem) : Option (Int × Mem) := (Lin_has a0 σ).bind fun q1 => if wr q1.1 = 0 then (some (0, q1.2)) else (Lin_closeGap_10 100000 a0 q1.2)
set_option maxRecDepth 100000 in
set_option maxHeartbeats 4000000 in
theorem k_Lin_closeGap_10 {X : Cx} {w : Wd} {x : Int × Mem} (hS : Std X (rmN 2 46) w cX3_closeGap RX3 none) (hN : cxn X = 3) (hW : shp w = ShA)   : ∀ (n : Nat) (x2 : Int) (σ : Mem), Sm X (rmN 2 46) w 0 x 10 [some (rf w 2), none, some (iv x2)] [] σ (Lin_closeGap_10   n x2 σ) := by
  refine fix_ok (P := fun (r10 : Int → Mem → Option (Int × Mem)) => ∀ (x2 : Int) (σ : Mem), Sm X (rmN 2 46) w 0 x 10 [some (rf w 2), none, some (iv x2)] [] σ (r10 x2 σ)) (fun _ _ => a_none) (fun r10 hr10 => ?_)
  intro x2 σ
  unfold Lin_closeGap_10b
  refine a_iload_n hS dX3_closeGap_10 rfl ?_
  refine a_aload_n hS dX3_closeGap_11 rfl ?_
  refine a_getI hS dX3_closeGap_12 flX3_9 (sA2 hW) rfl ?_
  refine a_iconst hS dX3_closeGap_15 ?_
  refine a_isub hS dX3_closeGap_16 ?_
  refine a_icmpge hS rfl rfl (tgt := 34) dX3_closeGap_17 (by decide) ?_ ?_
  · refine a_aload_n hS dX3_closeGap_34 rfl ?_
    refine a_dup hS rfl dX3_closeGap_35 ?_
    refine a_getI hS dX3_closeGap_36 flX3_9 (sA2 hW) rfl ?_
    refine a_iconst hS dX3_closeGap_39 ?_
    refine a_isub hS dX3_closeGap_40 ?_
    refine a_putI hS dX3_closeGap_41 plX3_9 (sA2 hW) rfl ?_
    refine a_letM (fun s2 => ?_)
    exact a_vret hS rfl rfl dX3_closeGap_44
  · refine a_aload_n hS dX3_closeGap_20 rfl ?_
    refine a_iload_n hS dX3_closeGap_21 rfl ?_
    refine a_iconst hS dX3_closeGap_22 ?_
    refine a_iadd hS dX3_closeGap_23 ?_
    refine a_iload_n hS dX3_closeGap_24 rfl ?_
    refine a_callVv hS (rst := []) (c_Lin_copyLine hW (x2 + 1) x2 σ ) miX3_copyLine mlX3_48 (sA2 hW) rfl rfl (Nat.le_of_ble_eq_true rfl) (Nat.le_of_ble_eq_true rfl) (Nat.le_of_ble_eq_true rfl) rfl dX3_closeGap_25 (fun q3 => ?_)
    refine a_iinc hS (L' := [some (rf w 2), none, some (iv (x2 + 1))]) dX3_closeGap_28 rfl hN (Nat.le_of_ble_eq_true rfl) rfl rfl ?_
    refine a_goto hS (tgt := 10) dX3_closeGap_31 (by decide) ?_
    exact hr10 (x2 + 1) q3.2
set_option maxRecDepth 100000 in
set_option maxHeartbeats 4000000 in
theorem c_Lin_closeGap {l : Launch} {w : Wd} (hW : shp w = ShA) (a0 : Int) (σ : Mem)  : Ctr l w yX3_closeGap cX3_closeGap 3 none (rmN 2 46) 0 [rf w 2, iv a0] σ (Lin_closeGap a0 σ) := by
  refine met_of (own := RX3) (by decide) rfl rfl rfl (Nat.le_of_ble_eq_true rfl) (fun X x hXl hN hS => ⟨[some (rf w 2), some (iv a0), none], ⟨1, rfl⟩, ?_⟩)
  subst hXl
  unfold Lin_closeGap
  refine a_aload_n hS dX3_closeGap_0 rfl ?_
  refine a_iload_n hS dX3_closeGap_1 rfl ?_
  refine a_callVi hS (rst := []) (c_Lin_has hW a0 σ ) miX3_has mlX3_51 (sA2 hW) rfl rfl (Nat.le_of_ble_eq_true rfl) (Nat.le_of_ble_eq_true rfl) (Nat.le_of_ble_eq_true rfl) rfl dX3_closeGap_2 (fun q1 => ?_)
  refine a_ifeq hS rfl  (tgt := 44) dX3_closeGap_5 (by decide) ?_ ?_
  · exact a_vret hS rfl rfl dX3_closeGap_44
  · refine a_iload_n hS dX3_closeGap_8 rfl ?_
    refine a_istore_n hS (L' := [some (rf w 2), some (iv a0), some (iv a0)]) dX3_closeGap_9 hN (Nat.le_of_ble_eq_true rfl) rfl rfl ?_
    exact a_live (M := [true, false, true]) (k_Lin_closeGap_10 hS hN hW   100000 a0 q1.2) rfl
noncomputable def Lin_split_44b   (r44 : Int → Int → Mem → Option (Int × Mem)) (x1 : Int) (x4 : Int) (σ : Mem) : Option (Int × Mem) := if 0 < wr x4 then ((Lin_byteOf x1 (x4 - 1) σ).bind fun q6 => if wr q6.1 = 32 then (r44 x1 (x4 + (-1)) q6.2) else ((Row_set 5 x1 x4 q6.2).bind fun q7 => some (0, q7.2))) else ((Row_set 5 x1 x4 σ).bind fun q5 => some (0, q5.2))
noncomputable def Lin_split_44   (n : Nat) : Int → Int → Mem → Option (Int × Mem) := fixN (fun _ _ _ => none) (Lin_split_44b  ) n
noncomputable def Lin_split_9b   (r9 : Int → Int → Int → Mem → Option (Int × Mem)) (x1 : Int) (x2 : Int) (x3 : Int) (σ : Mem) : Option (Int × Mem) := if wr x3 < 32 then ((Lin_byteOf x1 x3 σ).bind fun q3 => if wr q3.1 = 32 then (r9 x1 x2 (x3 + 1) q3.2) else ((Lin_appendFrom x1 x3 (x1 + 1) q3.2).bind fun q4 => Lin_split_44 100000 x1 x2 q4.2)) else ((Lin_appendFrom x1 x3 (x1 + 1) σ).bind fun q2 => Lin_split_44 100000 x1 x2 q2.2)
noncomputable def Lin_split_9   (n : Nat) : Int → Int → Int → Mem → Option (Int × Mem) := fixN (fun _ _ _ _ => none) (Lin_split_9b  ) n
noncomputable def Lin_split (a0 : Int) (a1 : Int) (σ : Mem) : Option (Int × Mem) := (Lin_openGap (a0 + 1) σ).bind fun q1 => Lin_split_9 100000 a0 a1 a1 q1.2
set_option maxRecDepth 100000 in
set_option maxHeartbeats 4000000 in
theorem k_Lin_split_44 {X : Cx} {w : Wd} {x : Int × Mem} (hS : Std X (rmN 3 70) w cX3_split RX3 none) (hN : cxn X = 5) (hW : shp w = ShA)   : ∀ (n : Nat) (x1 : Int) (x4 : Int) (σ : Mem), Sm X (rmN 3 70) w 0 x 44 [some (rf w 2), some (iv x1), none, none, some (iv x4)] [] σ (Lin_split_44   n x1 x4 σ) := by
  refine fix_ok (P := fun (r44 : Int → Int → Mem → Option (Int × Mem)) => ∀ (x1 : Int) (x4 : Int) (σ : Mem), Sm X (rmN 3 70) w 0 x 44 [some (rf w 2), some (iv x1), none, none, some (iv x4)] [] σ (r44 x1 x4 σ)) (fun _ _ _ => a_none) (fun r44 hr44 => ?_)
  intro x1 x4 σ
  unfold Lin_split_44b
  refine a_iload hS dX3_split_44 rfl ?_
  refine a_ifle hS rfl  (tgt := 69) dX3_split_46 (by decide) ?_ ?_
  · refine a_aload_n hS dX3_split_69 rfl ?_
    refine a_getR hS (j := 5) dX3_split_70 flX3_24 (sA2 hW) rfl ?_
    refine a_iload_n hS dX3_split_73 rfl ?_
    refine a_iload hS dX3_split_74 rfl ?_
    refine a_callVv hS (rst := []) (c_Row_set hW 5 x1 x4 σ iRow5) miX5_set mlX3_37 (sA5 hW) rfl rfl (Nat.le_of_ble_eq_true rfl) (Nat.le_of_ble_eq_true rfl) (Nat.le_of_ble_eq_true rfl) rfl dX3_split_76 (fun q5 => ?_)
    exact a_vret hS rfl rfl dX3_split_79
  · refine a_aload_n hS dX3_split_49 rfl ?_
    refine a_iload_n hS dX3_split_50 rfl ?_
    refine a_iload hS dX3_split_51 rfl ?_
    refine a_iconst hS dX3_split_53 ?_
    refine a_isub hS dX3_split_54 ?_
    refine a_callVi hS (rst := []) (c_Lin_byteOf hW x1 (x4 - 1) σ ) miX3_byteOf mlX3_41 (sA2 hW) rfl rfl (Nat.le_of_ble_eq_true rfl) (Nat.le_of_ble_eq_true rfl) (Nat.le_of_ble_eq_true rfl) rfl dX3_split_55 (fun q6 => ?_)
    refine a_bipush hS dX3_split_58 rfl ?_
    refine a_icmpne hS rfl (wl 32 rfl) (tgt := 69) dX3_split_60 (by decide) ?_ ?_
    · refine a_aload_n hS dX3_split_69 rfl ?_
      refine a_getR hS (j := 5) dX3_split_70 flX3_24 (sA2 hW) rfl ?_
      refine a_iload_n hS dX3_split_73 rfl ?_
      refine a_iload hS dX3_split_74 rfl ?_
      refine a_callVv hS (rst := []) (c_Row_set hW 5 x1 x4 q6.2 iRow5) miX5_set mlX3_37 (sA5 hW) rfl rfl (Nat.le_of_ble_eq_true rfl) (Nat.le_of_ble_eq_true rfl) (Nat.le_of_ble_eq_true rfl) rfl dX3_split_76 (fun q7 => ?_)
      exact a_vret hS rfl rfl dX3_split_79
    · refine a_iinc hS (L' := [some (rf w 2), some (iv x1), none, none, some (iv (x4 + (-1)))]) dX3_split_63 rfl hN (Nat.le_of_ble_eq_true rfl) rfl rfl ?_
      refine a_goto hS (tgt := 44) dX3_split_66 (by decide) ?_
      exact hr44 x1 (x4 + (-1)) q6.2
set_option maxRecDepth 100000 in
set_option maxHeartbeats 4000000 in
theorem k_Lin_split_9 {X : Cx} {w : Wd} {x : Int × Mem} (hS : Std X (rmN 3 70) w cX3_split RX3 none) (hN : cxn X = 5) (hW : shp w = ShA)   : ∀ (n : Nat) (x1 : Int) (x2 : Int) (x3 : Int) (σ : Mem), Sm X (rmN 3 70) w 0 x 9 [some (rf w 2), some (iv x1), some (iv x2), some (iv x3), none] [] σ (Lin_split_9   n x1 x2 x3 σ) := by
  refine fix_ok (P := fun (r9 : Int → Int → Int → Mem → Option (Int × Mem)) => ∀ (x1 : Int) (x2 : Int) (x3 : Int) (σ : Mem), Sm X (rmN 3 70) w 0 x 9 [some (rf w 2), some (iv x1), some (iv x2), some (iv x3), none] [] σ (r9 x1 x2 x3 σ)) (fun _ _ _ _ => a_none) (fun r9 hr9 => ?_)
  intro x1 x2 x3 σ
  unfold Lin_split_9b
  refine a_iload_n hS dX3_split_9 rfl ?_
  refine a_bipush hS dX3_split_10 rfl ?_
  refine a_icmpge hS rfl (wl 32 rfl) (tgt := 32) dX3_split_12 (by decide) ?_ ?_
  · refine a_aload_n hS dX3_split_32 rfl ?_
    refine a_iload_n hS dX3_split_33 rfl ?_
    refine a_iload_n hS dX3_split_34 rfl ?_
    refine a_iload_n hS dX3_split_35 rfl ?_
    refine a_iconst hS dX3_split_36 ?_
    refine a_iadd hS dX3_split_37 ?_
    refine a_callVv hS (rst := []) (c_Lin_appendFrom hW x1 x3 (x1 + 1) σ ) miX3_appendFrom mlX3_58 (sA2 hW) rfl rfl (Nat.le_of_ble_eq_true rfl) (Nat.le_of_ble_eq_true rfl) (Nat.le_of_ble_eq_true rfl) rfl dX3_split_38 (fun q2 => ?_)
    refine a_iload_n hS dX3_split_41 rfl ?_
    refine a_istore hS (L' := [some (rf w 2), some (iv x1), some (iv x2), some (iv x3), some (iv x2)]) dX3_split_42 hN (Nat.le_of_ble_eq_true rfl) rfl rfl ?_
    exact a_live (M := [true, true, false, false, true]) (k_Lin_split_44 hS hN hW   100000 x1 x2 q2.2) rfl
  · refine a_aload_n hS dX3_split_15 rfl ?_
    refine a_iload_n hS dX3_split_16 rfl ?_
    refine a_iload_n hS dX3_split_17 rfl ?_
    refine a_callVi hS (rst := []) (c_Lin_byteOf hW x1 x3 σ ) miX3_byteOf mlX3_41 (sA2 hW) rfl rfl (Nat.le_of_ble_eq_true rfl) (Nat.le_of_ble_eq_true rfl) (Nat.le_of_ble_eq_true rfl) rfl dX3_split_18 (fun q3 => ?_)
    refine a_bipush hS dX3_split_21 rfl ?_
    refine a_icmpne hS rfl (wl 32 rfl) (tgt := 32) dX3_split_23 (by decide) ?_ ?_
    · refine a_aload_n hS dX3_split_32 rfl ?_
      refine a_iload_n hS dX3_split_33 rfl ?_
      refine a_iload_n hS dX3_split_34 rfl ?_
      refine a_iload_n hS dX3_split_35 rfl ?_
      refine a_iconst hS dX3_split_36 ?_
      refine a_iadd hS dX3_split_37 ?_
      refine a_callVv hS (rst := []) (c_Lin_appendFrom hW x1 x3 (x1 + 1) q3.2 ) miX3_appendFrom mlX3_58 (sA2 hW) rfl rfl (Nat.le_of_ble_eq_true rfl) (Nat.le_of_ble_eq_true rfl) (Nat.le_of_ble_eq_true rfl) rfl dX3_split_38 (fun q4 => ?_)
      refine a_iload_n hS dX3_split_41 rfl ?_
      refine a_istore hS (L' := [some (rf w 2), some (iv x1), some (iv x2), some (iv x3), some (iv x2)]) dX3_split_42 hN (Nat.le_of_ble_eq_true rfl) rfl rfl ?_
      exact a_live (M := [true, true, false, false, true]) (k_Lin_split_44 hS hN hW   100000 x1 x2 q4.2) rfl
    · refine a_iinc hS (L' := [some (rf w 2), some (iv x1), some (iv x2), some (iv (x3 + 1)), none]) dX3_split_26 rfl hN (Nat.le_of_ble_eq_true rfl) rfl rfl ?_
      refine a_goto hS (tgt := 9) dX3_split_29 (by decide) ?_
      exact hr9 x1 x2 (x3 + 1) q3.2
set_option maxRecDepth 100000 in
set_option maxHeartbeats 4000000 in
theorem c_Lin_split {l : Launch} {w : Wd} (hW : shp w = ShA) (a0 : Int) (a1 : Int) (σ : Mem)  : Ctr l w yX3_split cX3_split 5 none (rmN 3 70) 0 [rf w 2, iv a0, iv a1] σ (Lin_split a0 a1 σ) := by
  refine met_of (own := RX3) (by decide) rfl rfl rfl (Nat.le_of_ble_eq_true rfl) (fun X x hXl hN hS => ⟨[some (rf w 2), some (iv a0), some (iv a1), none, none], ⟨2, rfl⟩, ?_⟩)
  subst hXl
  unfold Lin_split
  refine a_aload_n hS dX3_split_0 rfl ?_
  refine a_iload_n hS dX3_split_1 rfl ?_
  refine a_iconst hS dX3_split_2 ?_
  refine a_iadd hS dX3_split_3 ?_
  refine a_callVv hS (rst := []) (c_Lin_openGap hW (a0 + 1) σ ) miX3_openGap mlX3_55 (sA2 hW) rfl rfl (Nat.le_of_ble_eq_true rfl) (Nat.le_of_ble_eq_true rfl) (Nat.le_of_ble_eq_true rfl) rfl dX3_split_4 (fun q1 => ?_)
  refine a_iload_n hS dX3_split_7 rfl ?_
  refine a_istore_n hS (L' := [some (rf w 2), some (iv a0), some (iv a1), some (iv a1), none]) dX3_split_8 hN (Nat.le_of_ble_eq_true rfl) rfl rfl ?_
  exact k_Lin_split_9 hS hN hW   100000 a0 a1 a1 q1.2
noncomputable def Lin_joinedSize (a0 : Int) (σ : Mem) : Option (Int × Mem) := (Row_get 5 a0 σ).bind fun q1 => (Row_get 5 (a0 + 1) q1.2).bind fun q2 => if 0 < wr q1.1 then (if 0 < wr q2.1 then (some (((q1.1 + q2.1) + 1), q2.2)) else (some (((q1.1 + q2.1) + 0), q2.2))) else (some (((q1.1 + q2.1) + 0), q2.2))
set_option maxRecDepth 100000 in
set_option maxHeartbeats 4000000 in
theorem c_Lin_joinedSize {l : Launch} {w : Wd} (hW : shp w = ShA) (a0 : Int) (σ : Mem)  : Ctr l w yX3_joinedSize cX3_joinedSize 4 (some .int) (rmN 1 21) 1 [rf w 2, iv a0] σ (Lin_joinedSize a0 σ) := by
  refine met_of (own := RX3) (by decide) rfl rfl rfl (Nat.le_of_ble_eq_true rfl) (fun X x hXl hN hS => ⟨[some (rf w 2), some (iv a0), none, none], ⟨2, rfl⟩, ?_⟩)
  subst hXl
  unfold Lin_joinedSize
  refine a_aload_n hS dX3_joinedSize_0 rfl ?_
  refine a_getR hS (j := 5) dX3_joinedSize_1 flX3_24 (sA2 hW) rfl ?_
  refine a_iload_n hS dX3_joinedSize_4 rfl ?_
  refine a_callVi hS (rst := []) (c_Row_get hW 5 a0 σ iRow5) miX5_get mlX3_33 (sA5 hW) rfl rfl (Nat.le_of_ble_eq_true rfl) (Nat.le_of_ble_eq_true rfl) (Nat.le_of_ble_eq_true rfl) rfl dX3_joinedSize_5 (fun q1 => ?_)
  refine a_istore_n hS (L' := [some (rf w 2), some (iv a0), some (iv q1.1), none]) dX3_joinedSize_8 hN (Nat.le_of_ble_eq_true rfl) rfl rfl ?_
  refine a_aload_n hS dX3_joinedSize_9 rfl ?_
  refine a_getR hS (j := 5) dX3_joinedSize_10 flX3_24 (sA2 hW) rfl ?_
  refine a_iload_n hS dX3_joinedSize_13 rfl ?_
  refine a_iconst hS dX3_joinedSize_14 ?_
  refine a_iadd hS dX3_joinedSize_15 ?_
  refine a_callVi hS (rst := []) (c_Row_get hW 5 (a0 + 1) q1.2 iRow5) miX5_get mlX3_33 (sA5 hW) rfl rfl (Nat.le_of_ble_eq_true rfl) (Nat.le_of_ble_eq_true rfl) (Nat.le_of_ble_eq_true rfl) rfl dX3_joinedSize_16 (fun q2 => ?_)
  refine a_istore_n hS (L' := [some (rf w 2), some (iv a0), some (iv q1.1), some (iv q2.1)]) dX3_joinedSize_19 hN (Nat.le_of_ble_eq_true rfl) rfl rfl ?_
  refine a_iload_n hS dX3_joinedSize_20 rfl ?_
  refine a_iload_n hS dX3_joinedSize_21 rfl ?_
  refine a_iadd hS dX3_joinedSize_22 ?_
  refine a_iload_n hS dX3_joinedSize_23 rfl ?_
  refine a_ifle hS rfl  (tgt := 35) dX3_joinedSize_24 (by decide) ?_ ?_
  · refine a_iconst hS dX3_joinedSize_35 ?_
    refine a_iadd hS dX3_joinedSize_36 ?_
    exact a_iret hS rfl rfl dX3_joinedSize_37
  · refine a_iload_n hS dX3_joinedSize_27 rfl ?_
    refine a_ifle hS rfl  (tgt := 35) dX3_joinedSize_28 (by decide) ?_ ?_
    · refine a_iconst hS dX3_joinedSize_35 ?_
      refine a_iadd hS dX3_joinedSize_36 ?_
      exact a_iret hS rfl rfl dX3_joinedSize_37
    · refine a_iconst hS dX3_joinedSize_31 ?_
      refine a_goto hS (tgt := 36) dX3_joinedSize_32 (by decide) ?_
      refine a_iadd hS dX3_joinedSize_36 ?_
      exact a_iret hS rfl rfl dX3_joinedSize_37
noncomputable def Lin_join_52   (x1 : Int) (σ : Mem) : Option (Int × Mem) := (Lin_appendFrom (x1 + 1) 0 x1 σ).bind fun q6 => (Lin_closeGap (x1 + 1) q6.2).bind fun q7 => some (0, q7.2)
noncomputable def Lin_join (a0 : Int) (σ : Mem) : Option (Int × Mem) := (Row_get 5 a0 σ).bind fun q1 => if wr q1.1 = 0 then ((Row_get 3 (a0 + 1) q1.2).bind fun q4 => (Row_set 3 a0 q4.1 q4.2).bind fun q5 => Lin_join_52 a0 q5.2) else ((Row_get 5 (a0 + 1) q1.2).bind fun q2 => if 0 < wr q2.1 then ((Lin_append a0 32 q2.2).bind fun q3 => Lin_join_52 a0 q3.2) else (Lin_join_52 a0 q2.2))
set_option maxRecDepth 100000 in
set_option maxHeartbeats 4000000 in
theorem k_Lin_join_52 {X : Cx} {w : Wd} {x : Int × Mem} (hS : Std X (rmN 3 70) w cX3_join RX3 none) (hN : cxn X = 2) (hW : shp w = ShA)   : ∀ (x1 : Int) (σ : Mem), Sm X (rmN 3 70) w 0 x 52 [some (rf w 2), some (iv x1)] [] σ (Lin_join_52   x1 σ) := by
  intro x1 σ
  unfold Lin_join_52
  refine a_aload_n hS dX3_join_52 rfl ?_
  refine a_iload_n hS dX3_join_53 rfl ?_
  refine a_iconst hS dX3_join_54 ?_
  refine a_iadd hS dX3_join_55 ?_
  refine a_iconst hS dX3_join_56 ?_
  refine a_iload_n hS dX3_join_57 rfl ?_
  refine a_callVv hS (rst := []) (c_Lin_appendFrom hW (x1 + 1) 0 x1 σ ) miX3_appendFrom mlX3_58 (sA2 hW) rfl rfl (Nat.le_of_ble_eq_true rfl) (Nat.le_of_ble_eq_true rfl) (Nat.le_of_ble_eq_true rfl) rfl dX3_join_58 (fun q6 => ?_)
  refine a_aload_n hS dX3_join_61 rfl ?_
  refine a_iload_n hS dX3_join_62 rfl ?_
  refine a_iconst hS dX3_join_63 ?_
  refine a_iadd hS dX3_join_64 ?_
  refine a_callVv hS (rst := []) (c_Lin_closeGap hW (x1 + 1) q6.2 ) miX3_closeGap mlX3_62 (sA2 hW) rfl rfl (Nat.le_of_ble_eq_true rfl) (Nat.le_of_ble_eq_true rfl) (Nat.le_of_ble_eq_true rfl) rfl dX3_join_65 (fun q7 => ?_)
  exact a_vret hS rfl rfl dX3_join_68
set_option maxRecDepth 100000 in
set_option maxHeartbeats 4000000 in
theorem c_Lin_join {l : Launch} {w : Wd} (hW : shp w = ShA) (a0 : Int) (σ : Mem)  : Ctr l w yX3_join cX3_join 2 none (rmN 3 70) 0 [rf w 2, iv a0] σ (Lin_join a0 σ) := by
  refine met_of (own := RX3) (by decide) rfl rfl rfl (Nat.le_of_ble_eq_true rfl) (fun X x hXl hN hS => ⟨[some (rf w 2), some (iv a0)], ⟨0, rfl⟩, ?_⟩)
  subst hXl
  unfold Lin_join
  refine a_aload_n hS dX3_join_0 rfl ?_
  refine a_getR hS (j := 5) dX3_join_1 flX3_24 (sA2 hW) rfl ?_
  refine a_iload_n hS dX3_join_4 rfl ?_
  refine a_callVi hS (rst := []) (c_Row_get hW 5 a0 σ iRow5) miX5_get mlX3_33 (sA5 hW) rfl rfl (Nat.le_of_ble_eq_true rfl) (Nat.le_of_ble_eq_true rfl) (Nat.le_of_ble_eq_true rfl) rfl dX3_join_5 (fun q1 => ?_)
  refine a_ifne hS rfl  (tgt := 32) dX3_join_8 (by decide) ?_ ?_
  · refine a_aload_n hS dX3_join_32 rfl ?_
    refine a_getR hS (j := 5) dX3_join_33 flX3_24 (sA2 hW) rfl ?_
    refine a_iload_n hS dX3_join_36 rfl ?_
    refine a_iconst hS dX3_join_37 ?_
    refine a_iadd hS dX3_join_38 ?_
    refine a_callVi hS (rst := []) (c_Row_get hW 5 (a0 + 1) q1.2 iRow5) miX5_get mlX3_33 (sA5 hW) rfl rfl (Nat.le_of_ble_eq_true rfl) (Nat.le_of_ble_eq_true rfl) (Nat.le_of_ble_eq_true rfl) rfl dX3_join_39 (fun q2 => ?_)
    refine a_ifle hS rfl  (tgt := 52) dX3_join_42 (by decide) ?_ ?_
    · exact k_Lin_join_52 hS hN hW   a0 q2.2
    · refine a_aload_n hS dX3_join_45 rfl ?_
      refine a_iload_n hS dX3_join_46 rfl ?_
      refine a_bipush hS dX3_join_47 rfl ?_
      refine a_callVv hS (rst := []) (c_Lin_append hW a0 32 q2.2 ) miX3_append mlX3_45 (sA2 hW) rfl rfl (Nat.le_of_ble_eq_true rfl) (Nat.le_of_ble_eq_true rfl) (Nat.le_of_ble_eq_true rfl) rfl dX3_join_49 (fun q3 => ?_)
      exact k_Lin_join_52 hS hN hW   a0 q3.2
  · refine a_aload_n hS dX3_join_11 rfl ?_
    refine a_getR hS (j := 3) dX3_join_12 flX3_20 (sA2 hW) rfl ?_
    refine a_iload_n hS dX3_join_15 rfl ?_
    refine a_aload_n hS dX3_join_16 rfl ?_
    refine a_getR hS (j := 3) dX3_join_17 flX3_20 (sA2 hW) rfl ?_
    refine a_iload_n hS dX3_join_20 rfl ?_
    refine a_iconst hS dX3_join_21 ?_
    refine a_iadd hS dX3_join_22 ?_
    refine a_callVi hS (rst := [iv a0, rf w 3]) (c_Row_get hW 3 (a0 + 1) q1.2 iRow3) miX5_get mlX3_33 (sA3 hW) rfl rfl (Nat.le_of_ble_eq_true rfl) (Nat.le_of_ble_eq_true rfl) (Nat.le_of_ble_eq_true rfl) rfl dX3_join_23 (fun q4 => ?_)
    refine a_callVv hS (rst := []) (c_Row_set hW 3 a0 q4.1 q4.2 iRow3) miX5_set mlX3_37 (sA3 hW) rfl rfl (Nat.le_of_ble_eq_true rfl) (Nat.le_of_ble_eq_true rfl) (Nat.le_of_ble_eq_true rfl) rfl dX3_join_26 (fun q5 => ?_)
    refine a_goto hS (tgt := 52) dX3_join_29 (by decide) ?_
    exact k_Lin_join_52 hS hN hW   a0 q5.2
noncomputable def Lin_canMove_3b   (r3 : Int → Int → Int → Mem → Option (Int × Mem)) (x2 : Int) (x3 : Int) (x4 : Int) (σ : Mem) : Option (Int × Mem) := if wr x4 < wr x2 then ((Row_get 5 x4 σ).bind fun q1 => if 0 < wr q1.1 then ((Row_get 3 x4 q1.2).bind fun q2 => (Ai_within (q2.1 + x3) 0 40 q2.2).bind fun q3 => if wr q3.1 = 0 then (some (0, q3.2)) else (r3 x2 x3 (x4 + 1) q3.2)) else (r3 x2 x3 (x4 + 1) q1.2)) else (some (1, σ))
noncomputable def Lin_canMove_3   (n : Nat) : Int → Int → Int → Mem → Option (Int × Mem) := fixN (fun _ _ _ _ => none) (Lin_canMove_3b  ) n
noncomputable def Lin_canMove (a0 : Int) (a1 : Int) (a2 : Int) (σ : Mem) : Option (Int × Mem) := Lin_canMove_3 100000 a1 a2 a0 σ
set_option maxRecDepth 100000 in
set_option maxHeartbeats 4000000 in
theorem k_Lin_canMove_3 {X : Cx} {w : Wd} {x : Int × Mem} (hS : Std X (rmN 1 22) w cX3_canMove RX3 (some .boolean)) (hN : cxn X = 5) (hW : shp w = ShA)   : ∀ (n : Nat) (x2 : Int) (x3 : Int) (x4 : Int) (σ : Mem), Sm X (rmN 1 22) w 1 x 3 [some (rf w 2), none, some (iv x2), some (iv x3), some (iv x4)] [] σ (Lin_canMove_3   n x2 x3 x4 σ) := by
  refine fix_ok (P := fun (r3 : Int → Int → Int → Mem → Option (Int × Mem)) => ∀ (x2 : Int) (x3 : Int) (x4 : Int) (σ : Mem), Sm X (rmN 1 22) w 1 x 3 [some (rf w 2), none, some (iv x2), some (iv x3), some (iv x4)] [] σ (r3 x2 x3 x4 σ)) (fun _ _ _ _ => a_none) (fun r3 hr3 => ?_)
  intro x2 x3 x4 σ
  unfold Lin_canMove_3b
  refine a_iload hS dX3_canMove_3 rfl ?_
  refine a_iload_n hS dX3_canMove_5 rfl ?_
  refine a_icmpge hS rfl rfl (tgt := 49) dX3_canMove_6 (by decide) ?_ ?_
  · refine a_iconst hS dX3_canMove_49 ?_
    exact a_zret hS (by decide) rfl rfl dX3_canMove_50
  · refine a_aload_n hS dX3_canMove_9 rfl ?_
    refine a_getR hS (j := 5) dX3_canMove_10 flX3_24 (sA2 hW) rfl ?_
    refine a_iload hS dX3_canMove_13 rfl ?_
    refine a_callVi hS (rst := []) (c_Row_get hW 5 x4 σ iRow5) miX5_get mlX3_33 (sA5 hW) rfl rfl (Nat.le_of_ble_eq_true rfl) (Nat.le_of_ble_eq_true rfl) (Nat.le_of_ble_eq_true rfl) rfl dX3_canMove_15 (fun q1 => ?_)
    refine a_ifle hS rfl  (tgt := 43) dX3_canMove_18 (by decide) ?_ ?_
    · refine a_iinc hS (L' := [some (rf w 2), none, some (iv x2), some (iv x3), some (iv (x4 + 1))]) dX3_canMove_43 rfl hN (Nat.le_of_ble_eq_true rfl) rfl rfl ?_
      refine a_goto hS (tgt := 3) dX3_canMove_46 (by decide) ?_
      exact hr3 x2 x3 (x4 + 1) q1.2
    · refine a_aload_n hS dX3_canMove_21 rfl ?_
      refine a_getR hS (j := 3) dX3_canMove_22 flX3_20 (sA2 hW) rfl ?_
      refine a_iload hS dX3_canMove_25 rfl ?_
      refine a_callVi hS (rst := []) (c_Row_get hW 3 x4 q1.2 iRow3) miX5_get mlX3_33 (sA3 hW) rfl rfl (Nat.le_of_ble_eq_true rfl) (Nat.le_of_ble_eq_true rfl) (Nat.le_of_ble_eq_true rfl) rfl dX3_canMove_27 (fun q2 => ?_)
      refine a_iload_n hS dX3_canMove_30 rfl ?_
      refine a_iadd hS dX3_canMove_31 ?_
      refine a_iconst hS dX3_canMove_32 ?_
      refine a_bipush hS dX3_canMove_33 rfl ?_
      refine a_callSNi hS (rst := []) (c_Ai_within hW (q2.1 + x3) 0 40 q2.2 ) msX11_within nwX3_65 rfl (Nat.le_of_ble_eq_true rfl) (Nat.le_of_ble_eq_true rfl) (Nat.le_of_ble_eq_true rfl) rfl dX3_canMove_35 (fun q3 => ?_)
      refine a_ifne hS rfl  (tgt := 43) dX3_canMove_38 (by decide) ?_ ?_
      · refine a_iinc hS (L' := [some (rf w 2), none, some (iv x2), some (iv x3), some (iv (x4 + 1))]) dX3_canMove_43 rfl hN (Nat.le_of_ble_eq_true rfl) rfl rfl ?_
        refine a_goto hS (tgt := 3) dX3_canMove_46 (by decide) ?_
        exact hr3 x2 x3 (x4 + 1) q3.2
      · refine a_iconst hS dX3_canMove_41 ?_
        exact a_zret hS (by decide) rfl rfl dX3_canMove_42
set_option maxRecDepth 100000 in
set_option maxHeartbeats 4000000 in
theorem c_Lin_canMove {l : Launch} {w : Wd} (hW : shp w = ShA) (a0 : Int) (a1 : Int) (a2 : Int) (σ : Mem)  : Ctr l w yX3_canMove cX3_canMove 5 (some .boolean) (rmN 1 22) 1 [rf w 2, iv a0, iv a1, iv a2] σ (Lin_canMove a0 a1 a2 σ) := by
  refine met_of (own := RX3) (by decide) rfl rfl rfl (Nat.le_of_ble_eq_true rfl) (fun X x hXl hN hS => ⟨[some (rf w 2), some (iv a0), some (iv a1), some (iv a2), none], ⟨1, rfl⟩, ?_⟩)
  subst hXl
  unfold Lin_canMove
  refine a_iload_n hS dX3_canMove_0 rfl ?_
  refine a_istore hS (L' := [some (rf w 2), some (iv a0), some (iv a1), some (iv a2), some (iv a0)]) dX3_canMove_1 hN (Nat.le_of_ble_eq_true rfl) rfl rfl ?_
  exact a_live (M := [true, false, true, true, true]) (k_Lin_canMove_3 hS hN hW   100000 a1 a2 a0 σ) rfl
noncomputable def Lin_move_6b   (r6 : Int → Int → Int → Int → Mem → Option (Int × Mem)) (x2 : Int) (x3 : Int) (x4 : Int) (x5 : Int) (σ : Mem) : Option (Int × Mem) := if wr x5 < wr x2 then ((Row_get 5 x5 σ).bind fun q1 => if 0 < wr q1.1 then ((Row_get 3 x5 q1.2).bind fun q2 => (Row_set 3 x5 (q2.1 + x3) q2.2).bind fun q3 => r6 x2 x3 (x4 + 1) (x5 + 1) q3.2) else (r6 x2 x3 x4 (x5 + 1) q1.2)) else (some (x4, σ))
noncomputable def Lin_move_6   (n : Nat) : Int → Int → Int → Int → Mem → Option (Int × Mem) := fixN (fun _ _ _ _ _ => none) (Lin_move_6b  ) n
noncomputable def Lin_move (a0 : Int) (a1 : Int) (a2 : Int) (σ : Mem) : Option (Int × Mem) := Lin_move_6 100000 a1 a2 0 a0 σ
set_option maxRecDepth 100000 in
set_option maxHeartbeats 4000000 in
theorem k_Lin_move_6 {X : Cx} {w : Wd} {x : Int × Mem} (hS : Std X (rmN 1 22) w cX3_move RX3 (some .int)) (hN : cxn X = 6) (hW : shp w = ShA)   : ∀ (n : Nat) (x2 : Int) (x3 : Int) (x4 : Int) (x5 : Int) (σ : Mem), Sm X (rmN 1 22) w 1 x 6 [some (rf w 2), none, some (iv x2), some (iv x3), some (iv x4), some (iv x5)] [] σ (Lin_move_6   n x2 x3 x4 x5 σ) := by
  refine fix_ok (P := fun (r6 : Int → Int → Int → Int → Mem → Option (Int × Mem)) => ∀ (x2 : Int) (x3 : Int) (x4 : Int) (x5 : Int) (σ : Mem), Sm X (rmN 1 22) w 1 x 6 [some (rf w 2), none, some (iv x2), some (iv x3), some (iv x4), some (iv x5)] [] σ (r6 x2 x3 x4 x5 σ)) (fun _ _ _ _ _ => a_none) (fun r6 hr6 => ?_)
  intro x2 x3 x4 x5 σ
  unfold Lin_move_6b
  refine a_iload hS dX3_move_6 rfl ?_
  refine a_iload_n hS dX3_move_8 rfl ?_
  refine a_icmpge hS rfl rfl (tgt := 53) dX3_move_9 (by decide) ?_ ?_
  · refine a_iload hS dX3_move_53 rfl ?_
    exact a_iret hS rfl rfl dX3_move_55
  · refine a_aload_n hS dX3_move_12 rfl ?_
    refine a_getR hS (j := 5) dX3_move_13 flX3_24 (sA2 hW) rfl ?_
    refine a_iload hS dX3_move_16 rfl ?_
    refine a_callVi hS (rst := []) (c_Row_get hW 5 x5 σ iRow5) miX5_get mlX3_33 (sA5 hW) rfl rfl (Nat.le_of_ble_eq_true rfl) (Nat.le_of_ble_eq_true rfl) (Nat.le_of_ble_eq_true rfl) rfl dX3_move_18 (fun q1 => ?_)
    refine a_ifle hS rfl  (tgt := 47) dX3_move_21 (by decide) ?_ ?_
    · refine a_iinc hS (L' := [some (rf w 2), none, some (iv x2), some (iv x3), some (iv x4), some (iv (x5 + 1))]) dX3_move_47 rfl hN (Nat.le_of_ble_eq_true rfl) rfl rfl ?_
      refine a_goto hS (tgt := 6) dX3_move_50 (by decide) ?_
      exact hr6 x2 x3 x4 (x5 + 1) q1.2
    · refine a_aload_n hS dX3_move_24 rfl ?_
      refine a_getR hS (j := 3) dX3_move_25 flX3_20 (sA2 hW) rfl ?_
      refine a_iload hS dX3_move_28 rfl ?_
      refine a_aload_n hS dX3_move_30 rfl ?_
      refine a_getR hS (j := 3) dX3_move_31 flX3_20 (sA2 hW) rfl ?_
      refine a_iload hS dX3_move_34 rfl ?_
      refine a_callVi hS (rst := [iv x5, rf w 3]) (c_Row_get hW 3 x5 q1.2 iRow3) miX5_get mlX3_33 (sA3 hW) rfl rfl (Nat.le_of_ble_eq_true rfl) (Nat.le_of_ble_eq_true rfl) (Nat.le_of_ble_eq_true rfl) rfl dX3_move_36 (fun q2 => ?_)
      refine a_iload_n hS dX3_move_39 rfl ?_
      refine a_iadd hS dX3_move_40 ?_
      refine a_callVv hS (rst := []) (c_Row_set hW 3 x5 (q2.1 + x3) q2.2 iRow3) miX5_set mlX3_37 (sA3 hW) rfl rfl (Nat.le_of_ble_eq_true rfl) (Nat.le_of_ble_eq_true rfl) (Nat.le_of_ble_eq_true rfl) rfl dX3_move_41 (fun q3 => ?_)
      refine a_iinc hS (L' := [some (rf w 2), none, some (iv x2), some (iv x3), some (iv (x4 + 1)), some (iv x5)]) dX3_move_44 rfl hN (Nat.le_of_ble_eq_true rfl) rfl rfl ?_
      refine a_iinc hS (L' := [some (rf w 2), none, some (iv x2), some (iv x3), some (iv (x4 + 1)), some (iv (x5 + 1))]) dX3_move_47 rfl hN (Nat.le_of_ble_eq_true rfl) rfl rfl ?_
      refine a_goto hS (tgt := 6) dX3_move_50 (by decide) ?_
      exact hr6 x2 x3 (x4 + 1) (x5 + 1) q3.2
set_option maxRecDepth 100000 in
set_option maxHeartbeats 4000000 in
theorem c_Lin_move {l : Launch} {w : Wd} (hW : shp w = ShA) (a0 : Int) (a1 : Int) (a2 : Int) (σ : Mem)  : Ctr l w yX3_move cX3_move 6 (some .int) (rmN 1 22) 1 [rf w 2, iv a0, iv a1, iv a2] σ (Lin_move a0 a1 a2 σ) := by
  refine met_of (own := RX3) (by decide) rfl rfl rfl (Nat.le_of_ble_eq_true rfl) (fun X x hXl hN hS => ⟨[some (rf w 2), some (iv a0), some (iv a1), some (iv a2), none, none], ⟨2, rfl⟩, ?_⟩)
  subst hXl
  unfold Lin_move
  refine a_iconst hS dX3_move_0 ?_
  refine a_istore hS (L' := [some (rf w 2), some (iv a0), some (iv a1), some (iv a2), some (iv 0), none]) dX3_move_1 hN (Nat.le_of_ble_eq_true rfl) rfl rfl ?_
  refine a_iload_n hS dX3_move_3 rfl ?_
  refine a_istore hS (L' := [some (rf w 2), some (iv a0), some (iv a1), some (iv a2), some (iv 0), some (iv a0)]) dX3_move_4 hN (Nat.le_of_ble_eq_true rfl) rfl rfl ?_
  exact a_live (M := [true, false, true, true, true, true]) (k_Lin_move_6 hS hN hW   100000 a1 a2 0 a0 σ) rfl
