/-! ===== the constructor of AutoIndenter (written by gen8.py) ===== -/
theorem bufC_len (κ : Kd) (q : Nat) : (bufC κ q).length = 3 := rfl
theorem texC_len (κ : Kd) (q : Nat) : (texC κ q).length = 5 := rfl
theorem tokC_len (κ : Kd) (q : Nat) : (tokC κ q).length = 15 := rfl
theorem blkC_len (κ : Kd) (q : Nat) : (blkC κ q).length = 23 := rfl
theorem plaC_len (κ : Kd) (q : Nat) : (plaC κ q).length = 13 := rfl
theorem vocC_len (κ : Kd) (q : Nat) : (vocC κ q).length = 5 := rfl
theorem rowC_len (κ : Kd) (q N : Nat) : (rowC κ q N).length = 2 := rfl
theorem hisC_len (κ : Kd) (q : Nat) : (hisC κ q).length = 202 := by unfold hisC; rw [List.length_cons, List.length_cons, stasC_len]
theorem pgX11_12 : PG RX11 12 11 0 (.object RX8) := pg_of (ty0 := tyX11) flX11_12 rfl tyX11_ok nmX11 (Or.inr ⟨by decide +kernel, by decide +kernel⟩) (by decide +kernel)
theorem pgX11_19 : PG RX11 19 11 1 (.object RX1) := pg_of (ty0 := tyX11) flX11_19 rfl tyX11_ok nmX11 (Or.inr ⟨by decide +kernel, by decide +kernel⟩) (by decide +kernel)
theorem pgX11_26 : PG RX11 26 11 2 (.object RX6) := pg_of (ty0 := tyX11) flX11_26 rfl tyX11_ok nmX11 (Or.inr ⟨by decide +kernel, by decide +kernel⟩) (by decide +kernel)
theorem pgX11_33 : PG RX11 33 11 3 (.object RX2) := pg_of (ty0 := tyX11) flX11_33 rfl tyX11_ok nmX11 (Or.inr ⟨by decide +kernel, by decide +kernel⟩) (by decide +kernel)
theorem pgX11_37 : PG RX11 37 11 4 (.array (.object RX8)) := pg_of (ty0 := tyX11) flX11_37 rfl tyX11_ok nmX11 (Or.inr ⟨by decide +kernel, by decide +kernel⟩) (by decide +kernel)
theorem pgX11_46 : PG RX11 46 11 5 (.object RX5) := pg_of (ty0 := tyX11) flX11_46 rfl tyX11_ok nmX11 (Or.inr ⟨by decide +kernel, by decide +kernel⟩) (by decide +kernel)
theorem pgX11_53 : PG RX11 53 11 6 (.object RX9) := pg_of (ty0 := tyX11) flX11_53 rfl tyX11_ok nmX11 (Or.inr ⟨by decide +kernel, by decide +kernel⟩) (by decide +kernel)
theorem pgX11_60 : PG RX11 60 11 7 (.object RX0) := pg_of (ty0 := tyX11) flX11_60 rfl tyX11_ok nmX11 (Or.inr ⟨by decide +kernel, by decide +kernel⟩) (by decide +kernel)
theorem pgX11_67 : PG RX11 67 11 8 (.object RX4) := pg_of (ty0 := tyX11) flX11_67 rfl tyX11_ok nmX11 (Or.inr ⟨by decide +kernel, by decide +kernel⟩) (by decide +kernel)
theorem pgX11_74 : PG RX11 74 11 9 (.object RX10) := pg_of (ty0 := tyX11) flX11_74 rfl tyX11_ok nmX11 (Or.inr ⟨by decide +kernel, by decide +kernel⟩) (by decide +kernel)
theorem pgX11_78 : PG RX11 78 11 10 (.object RX5) := pg_of (ty0 := tyX11) flX11_78 rfl tyX11_ok nmX11 (Or.inr ⟨by decide +kernel, by decide +kernel⟩) (by decide +kernel)
theorem pgX11_81 : PG RX11 81 11 11 .boolean := pg_of (ty0 := tyX11) flX11_81 rfl tyX11_ok nmX11 (Or.inl (by decide +kernel)) (by decide +kernel)
def RmAi : Room := { frames := 5, cells := 346, slots := 20662, locals := 96 }
def aiC (κ : Kd) (q : Nat) : List va_E := .inr (11, [.ref (q + 1), .ref (q + 26), .ref (q + 29), .ref (q + 34), .ref (q + 236), .ref (q + 287), .ref (q + 289), .ref (q + 304), .ref (q + 327), .ref (q + 340), .ref (q + 345), iv 0]) :: ((((((((((([] ++ staC κ (q + 1)) ++ bufC κ (q + 26)) ++ texC κ (q + 29)) ++ hisC κ (q + 34)) ++ (rgC κ q 237 2 2 :: stasC κ q 237 2)) ++ rowC κ (q + 287) 2) ++ tokC κ (q + 289)) ++ blkC κ (q + 304)) ++ plaC κ (q + 327)) ++ vocC κ (q + 340)) ++ rowC κ (q + 345) 20)
set_option maxRecDepth 1000000 in
set_option maxHeartbeats 40000000 in
theorem c_ai_init (l : Launch) (κ : Kd) (q : Nat) : CtrG l κ q yX11_init cX11_init 1 RmAi 11 dfX11 [.ref q] (aiC κ q) := by
  refine met_ofG (own := RX11) (by decide) rfl rfl (Nat.le_of_ble_eq_true rfl) (Nat.le_of_ble_eq_true rfl) (fun X hXl hN2 hS => ⟨[some (.ref q)], ⟨0, rfl⟩, ?_⟩)
  refine g_aload hS dX11_init_0 rfl ?_
  refine g_obj hS obX11 obI obC dX11_init_1 (Nat.le_of_ble_eq_true rfl) ?_
  obtain ⟨rs0, h0⟩ : ∃ r : List va_E, r = [] := ⟨_, rfl⟩
  have l0 : rs0.length = 0 := by rw [h0]; rfl
  rw [← h0]
  obtain ⟨rs1, h1⟩ : ∃ r : List va_E, r = rs0 ++ staC κ (q + 1) := ⟨_, rfl⟩
  have l1 : rs1.length = 25 := by rw [h1, List.length_append, l0, staC_len]
  refine g_chN hS (rs := rs0) (cn := 0) (sn := 0) (csC := staC κ (q + 1)) (c_sta_init X.2.1 κ (q + (0 + 1))) mgX8 (C := RX8) (T := TX8) (ty := tyX8) rfl inlX8 tyX8_ok dfX8_ok isX8 izX8 rfl dX11_init_4 dX11_init_5 dX11_init_8 dX11_init_9 dX11_init_12 clX11_9 (Or.inl nwX11_11) pgX11_12 (Nat.le_of_ble_eq_true rfl) l0 (Nat.le_of_ble_eq_true rfl) (Nat.le_of_ble_eq_true rfl) (Nat.le_of_ble_eq_true rfl) (Nat.le_of_ble_eq_true rfl) (cn' := 25) (sn' := 1004) rfl rfl (fs' := [.ref (q + 1), .null, .null, .null, .null, .null, .null, .null, .null, .null, .null, iv 0]) rfl h1.symm ?_
  obtain ⟨rs2, h2⟩ : ∃ r : List va_E, r = rs1 ++ bufC κ (q + 26) := ⟨_, rfl⟩
  have l2 : rs2.length = 28 := by rw [h2, List.length_append, l1, bufC_len]
  refine g_chN hS (rs := rs1) (cn := 25) (sn := 1004) (csC := bufC κ (q + 26)) (c_buf_init X.2.1 κ (q + (25 + 1))) mgX1 (C := RX1) (T := TX1) (ty := tyX1) rfl inlX1 tyX1_ok dfX1_ok isX1 izX1 rfl dX11_init_15 dX11_init_16 dX11_init_19 dX11_init_20 dX11_init_23 clX11_16 (Or.inl nwX11_18) pgX11_19 (Nat.le_of_ble_eq_true rfl) l1 (Nat.le_of_ble_eq_true rfl) (Nat.le_of_ble_eq_true rfl) (Nat.le_of_ble_eq_true rfl) (Nat.le_of_ble_eq_true rfl) (cn' := 28) (sn' := 1079) rfl rfl (fs' := [.ref (q + 1), .ref (q + 26), .null, .null, .null, .null, .null, .null, .null, .null, .null, iv 0]) rfl h2.symm ?_
  obtain ⟨rs3, h3⟩ : ∃ r : List va_E, r = rs2 ++ texC κ (q + 29) := ⟨_, rfl⟩
  have l3 : rs3.length = 33 := by rw [h3, List.length_append, l2, texC_len]
  refine g_chN hS (rs := rs2) (cn := 28) (sn := 1079) (csC := texC κ (q + 29)) (c_tex_init X.2.1 κ (q + (28 + 1))) mgX6 (C := RX6) (T := TX6) (ty := tyX6) rfl inlX6 tyX6_ok dfX6_ok isX6 izX6 rfl dX11_init_26 dX11_init_27 dX11_init_30 dX11_init_31 dX11_init_34 clX11_23 (Or.inl nwX11_25) pgX11_26 (Nat.le_of_ble_eq_true rfl) l2 (Nat.le_of_ble_eq_true rfl) (Nat.le_of_ble_eq_true rfl) (Nat.le_of_ble_eq_true rfl) (Nat.le_of_ble_eq_true rfl) (cn' := 33) (sn' := 1088) rfl rfl (fs' := [.ref (q + 1), .ref (q + 26), .ref (q + 29), .null, .null, .null, .null, .null, .null, .null, .null, iv 0]) rfl h3.symm ?_
  obtain ⟨rs4, h4⟩ : ∃ r : List va_E, r = rs3 ++ hisC κ (q + 34) := ⟨_, rfl⟩
  have l4 : rs4.length = 235 := by rw [h4, List.length_append, l3, hisC_len]
  refine g_chN hS (rs := rs3) (cn := 33) (sn := 1088) (csC := hisC κ (q + 34)) (c_his_init X.2.1 κ (q + (33 + 1))) mgX2 (C := RX2) (T := TX2) (ty := tyX2) rfl inlX2 tyX2_ok dfX2_ok isX2 izX2 rfl dX11_init_37 dX11_init_38 dX11_init_41 dX11_init_42 dX11_init_45 clX11_30 (Or.inr mlX11_32) pgX11_33 (Nat.le_of_ble_eq_true rfl) l3 (Nat.le_of_ble_eq_true rfl) (Nat.le_of_ble_eq_true rfl) (Nat.le_of_ble_eq_true rfl) (Nat.le_of_ble_eq_true rfl) (cn' := 235) (sn' := 9131) rfl rfl (fs' := [.ref (q + 1), .ref (q + 26), .ref (q + 29), .ref (q + 34), .null, .null, .null, .null, .null, .null, .null, iv 0]) rfl h4.symm ?_
  refine g_aload hS dX11_init_48 rfl ?_
  refine g_iconst hS dX11_init_49 ?_
  refine g_anewE hS (rs := rs4) (cn := 235) (sn := 9131) (N := 2) clX11_9 (by decide) l4 (Nat.le_of_ble_eq_true rfl) (Nat.le_of_ble_eq_true rfl) dX11_init_50 (cn' := 236) (sn' := 9133) rfl rfl ?_
  refine g_img1 hS (s0 := 0) (rs := rs4) (j := 0) (n := 2) (c0 := 235) (cn := 236) (sn := 9133) l4 (by decide) (by decide) dX11_init_53 dX11_init_54 dX11_init_55 dX11_init_58 dX11_init_59 dX11_init_62 clX11_9 nwX11_11 (Nat.le_of_ble_eq_true rfl) (Nat.le_of_ble_eq_true rfl) (Nat.le_of_ble_eq_true rfl) (Nat.le_of_ble_eq_true rfl) (Nat.le_of_ble_eq_true rfl) rfl (cn' := 261) (sn' := 10137) rfl rfl ?_
  refine g_img1 hS (s0 := 0) (rs := rs4) (j := 1) (n := 2) (c0 := 235) (cn := 261) (sn := 10137) l4 (by decide) (by decide) dX11_init_63 dX11_init_64 dX11_init_65 dX11_init_68 dX11_init_69 dX11_init_72 clX11_9 nwX11_11 (Nat.le_of_ble_eq_true rfl) (Nat.le_of_ble_eq_true rfl) (Nat.le_of_ble_eq_true rfl) (Nat.le_of_ble_eq_true rfl) (Nat.le_of_ble_eq_true rfl) rfl (cn' := 286) (sn' := 11141) rfl rfl ?_
  obtain ⟨rs5, h5⟩ : ∃ r : List va_E, r = rs4 ++ (rgC κ q 237 2 2 :: stasC κ q 237 2) := ⟨_, rfl⟩
  have l5 : rs5.length = 286 := by rw [h5, List.length_append, l4, List.length_cons, stasC_len]
  refine g_put hS (fs := [.ref (q + 1), .ref (q + 26), .ref (q + 29), .ref (q + 34), .null, .null, .null, .null, .null, .null, .null, iv 0]) pgX11_37 rfl rfl rfl (Nat.le_of_ble_eq_true rfl) dX11_init_73 (cs' := .inr (11, [.ref (q + 1), .ref (q + 26), .ref (q + 29), .ref (q + 34), .ref (q + 236), .null, .null, .null, .null, .null, .null, iv 0]) :: rs5) (by rw [h5]; rfl) ?_
  obtain ⟨rs6, h6⟩ : ∃ r : List va_E, r = rs5 ++ rowC κ (q + 287) 2 := ⟨_, rfl⟩
  have l6 : rs6.length = 288 := by rw [h6, List.length_append, l5, rowC_len]
  refine g_rowF hS (rs := rs5) (cn := 286) (sn := 11141) (N := 2) (p2 := 82) (by decide) rfl dX11_init_76 dX11_init_77 dX11_init_80 (fun _ _ _ _ h => g_iconst hS dX11_init_81 h) dX11_init_82 dX11_init_85 clX11_41 mlX11_43 pgX11_46 (Nat.le_of_ble_eq_true rfl) l5 (Nat.le_of_ble_eq_true rfl) (Nat.le_of_ble_eq_true rfl) (Nat.le_of_ble_eq_true rfl) (Nat.le_of_ble_eq_true rfl) (cn' := 288) (sn' := 11144) rfl rfl (fs' := [.ref (q + 1), .ref (q + 26), .ref (q + 29), .ref (q + 34), .ref (q + 236), .ref (q + 287), .null, .null, .null, .null, .null, iv 0]) rfl h6.symm ?_
  obtain ⟨rs7, h7⟩ : ∃ r : List va_E, r = rs6 ++ tokC κ (q + 289) := ⟨_, rfl⟩
  have l7 : rs7.length = 303 := by rw [h7, List.length_append, l6, tokC_len]
  refine g_chN hS (rs := rs6) (cn := 288) (sn := 11144) (csC := tokC κ (q + 289)) (c_tok_init X.2.1 κ (q + (288 + 1))) mgX9 (C := RX9) (T := TX9) (ty := tyX9) rfl inlX9 tyX9_ok dfX9_ok isX9 izX9 rfl dX11_init_88 dX11_init_89 dX11_init_92 dX11_init_93 dX11_init_96 clX11_50 (Or.inl nwX11_52) pgX11_53 (Nat.le_of_ble_eq_true rfl) l6 (Nat.le_of_ble_eq_true rfl) (Nat.le_of_ble_eq_true rfl) (Nat.le_of_ble_eq_true rfl) (Nat.le_of_ble_eq_true rfl) (cn' := 303) (sn' := 13794) rfl rfl (fs' := [.ref (q + 1), .ref (q + 26), .ref (q + 29), .ref (q + 34), .ref (q + 236), .ref (q + 287), .ref (q + 289), .null, .null, .null, .null, iv 0]) rfl h7.symm ?_
  obtain ⟨rs8, h8⟩ : ∃ r : List va_E, r = rs7 ++ blkC κ (q + 304) := ⟨_, rfl⟩
  have l8 : rs8.length = 326 := by rw [h8, List.length_append, l7, blkC_len]
  refine g_chN hS (rs := rs7) (cn := 303) (sn := 13794) (csC := blkC κ (q + 304)) (c_blk_init X.2.1 κ (q + (303 + 1))) mgX0 (C := RX0) (T := TX0) (ty := tyX0) rfl inlX0 tyX0_ok dfX0_ok isX0 izX0 rfl dX11_init_99 dX11_init_100 dX11_init_103 dX11_init_104 dX11_init_107 clX11_57 (Or.inl nwX11_59) pgX11_60 (Nat.le_of_ble_eq_true rfl) l7 (Nat.le_of_ble_eq_true rfl) (Nat.le_of_ble_eq_true rfl) (Nat.le_of_ble_eq_true rfl) (Nat.le_of_ble_eq_true rfl) (cn' := 326) (sn' := 19224) rfl rfl (fs' := [.ref (q + 1), .ref (q + 26), .ref (q + 29), .ref (q + 34), .ref (q + 236), .ref (q + 287), .ref (q + 289), .ref (q + 304), .null, .null, .null, iv 0]) rfl h8.symm ?_
  obtain ⟨rs9, h9⟩ : ∃ r : List va_E, r = rs8 ++ plaC κ (q + 327) := ⟨_, rfl⟩
  have l9 : rs9.length = 339 := by rw [h9, List.length_append, l8, plaC_len]
  refine g_chN hS (rs := rs8) (cn := 326) (sn := 19224) (csC := plaC κ (q + 327)) (c_pla_init X.2.1 κ (q + (326 + 1))) mgX4 (C := RX4) (T := TX4) (ty := tyX4) rfl inlX4 tyX4_ok dfX4_ok isX4 izX4 rfl dX11_init_110 dX11_init_111 dX11_init_114 dX11_init_115 dX11_init_118 clX11_64 (Or.inl nwX11_66) pgX11_67 (Nat.le_of_ble_eq_true rfl) l8 (Nat.le_of_ble_eq_true rfl) (Nat.le_of_ble_eq_true rfl) (Nat.le_of_ble_eq_true rfl) (Nat.le_of_ble_eq_true rfl) (cn' := 339) (sn' := 19356) rfl rfl (fs' := [.ref (q + 1), .ref (q + 26), .ref (q + 29), .ref (q + 34), .ref (q + 236), .ref (q + 287), .ref (q + 289), .ref (q + 304), .ref (q + 327), .null, .null, iv 0]) rfl h9.symm ?_
  obtain ⟨rs10, h10⟩ : ∃ r : List va_E, r = rs9 ++ vocC κ (q + 340) := ⟨_, rfl⟩
  have l10 : rs10.length = 344 := by rw [h10, List.length_append, l9, vocC_len]
  refine g_chN hS (rs := rs9) (cn := 339) (sn := 19356) (csC := vocC κ (q + 340)) (c_voc_init X.2.1 κ (q + (339 + 1))) mgX10 (C := RX10) (T := TX10) (ty := tyX10) rfl inlX10 tyX10_ok dfX10_ok isX10 izX10 rfl dX11_init_121 dX11_init_122 dX11_init_125 dX11_init_126 dX11_init_129 clX11_71 (Or.inl nwX11_73) pgX11_74 (Nat.le_of_ble_eq_true rfl) l9 (Nat.le_of_ble_eq_true rfl) (Nat.le_of_ble_eq_true rfl) (Nat.le_of_ble_eq_true rfl) (Nat.le_of_ble_eq_true rfl) (cn' := 344) (sn' := 20641) rfl rfl (fs' := [.ref (q + 1), .ref (q + 26), .ref (q + 29), .ref (q + 34), .ref (q + 236), .ref (q + 287), .ref (q + 289), .ref (q + 304), .ref (q + 327), .ref (q + 340), .null, iv 0]) rfl h10.symm ?_
  obtain ⟨rs11, h11⟩ : ∃ r : List va_E, r = rs10 ++ rowC κ (q + 345) 20 := ⟨_, rfl⟩
  have l11 : rs11.length = 346 := by rw [h11, List.length_append, l10, rowC_len]
  refine g_rowF hS (rs := rs10) (cn := 344) (sn := 20641) (N := 20) (p2 := 139) (by decide) rfl dX11_init_132 dX11_init_133 dX11_init_136 (fun _ _ _ _ h => g_bipush hS dX11_init_137 rfl h) dX11_init_139 dX11_init_142 clX11_41 mlX11_43 pgX11_78 (Nat.le_of_ble_eq_true rfl) l10 (Nat.le_of_ble_eq_true rfl) (Nat.le_of_ble_eq_true rfl) (Nat.le_of_ble_eq_true rfl) (Nat.le_of_ble_eq_true rfl) (cn' := 346) (sn' := 20662) rfl rfl (fs' := [.ref (q + 1), .ref (q + 26), .ref (q + 29), .ref (q + 34), .ref (q + 236), .ref (q + 287), .ref (q + 289), .ref (q + 304), .ref (q + 327), .ref (q + 340), .ref (q + 345), iv 0]) rfl h11.symm ?_
  refine g_aload hS dX11_init_145 rfl ?_
  refine g_iconst hS dX11_init_146 ?_
  refine g_put hS pgX11_81 rfl rfl rfl (Nat.le_of_ble_eq_true rfl) dX11_init_147 (cs' := .inr (11, [.ref (q + 1), .ref (q + 26), .ref (q + 29), .ref (q + 34), .ref (q + 236), .ref (q + 287), .ref (q + 289), .ref (q + 304), .ref (q + 327), .ref (q + 340), .ref (q + 345), iv 0]) :: rs11) rfl ?_
  subst h0
  subst h1
  subst h2
  subst h3
  subst h4
  subst h5
  subst h6
  subst h7
  subst h8
  subst h9
  subst h10
  subst h11
  exact g_ret hS rfl rfl rfl dX11_init_150
