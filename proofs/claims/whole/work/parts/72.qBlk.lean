/-! ===== queries about blocks and wanted indentations ===== -/
theorem in0 : 0 ≤ wr 0 ∧ wr 0 < (10780 : Int) := by decide
section QB
variable {σ τ : Mem}
theorem ai_wi {a b c : Int} (ha : RI a) (hb : RI b) (hc : RI c) (σ : Mem) : Ai_within a b c σ = some (if b ≤ a ∧ a ≤ c then 1 else 0, σ) := ai_within a b c σ ha.w hb.w hc.w
theorem md_wi {a b c : Int} (ha : RI a) (hb : RI b) (hc : RI c) (σ : Mem) : Md_in a b c σ = some (if b ≤ a ∧ a ≤ c then 1 else 0, σ) := md_in a b c σ ha.w hb.w hc.w
theorem Inv.useM (h : Inv σ τ) : Ex (Md_uses (τ 1 977) (τ 1 978) τ) (fun _ τ' => Fr FR τ τ' ∧ DM (absM τ 0) τ' (τ 1 977) (τ 1 978) ∧ ∀ j, j < nS (absM τ 0) → τ' 16 j = absM τ 0 1 j) :=
  (md_uses h.1.2.1 h.stp.2 h.bas.2).mono (fun _ τ' z => ⟨z.1.mono (fun o k => FU_R), z.2⟩)
theorem t_strays (h : Inv σ τ) : Two (Ai_strays σ) (Md_strays τ) := by
  unfold Ai_strays Md_strays Two
  refine Ex.bnd (h.study.mono (fun _ σ1 z => Ex.ret (Ex.bnd ((md_looks h.1.2.1).mono (fun _ τ1 y => Ex.ret ⟨?_, z.1.2.2 σ1 τ1 Fr.rf (y.1.mono (fun o k => FK_R))⟩)))))
  show τ1 0 19 = σ1 304 12
  rw [y.2.2.1.2.2.2.1, z.1.1.2.2.2.2.2.1.2.2.2.1]
theorem t_lost (h : Inv σ τ) : Two (Ai_lost σ) (Md_lost τ) := by
  unfold Ai_lost Md_lost Two
  refine Ex.bnd (h.study.mono (fun _ σ1 z => Ex.ret (Ex.bnd ((md_looks h.1.2.1).mono (fun _ τ1 y => Ex.ret ⟨?_, z.1.2.2 σ1 τ1 Fr.rf (y.1.mono (fun o k => FK_R))⟩)))))
  show τ1 0 20 = σ1 304 13
  rw [y.2.2.1.2.2.2.2, z.1.1.2.2.2.2.2.1.2.2.2.2]
theorem t_depth (h : Inv σ τ) {a : Int} (ha : RI a) : Two (Ai_depth a σ) (Md_depth a τ) := by
  have hb := h.nb
  have hn := h.n
  unfold Ai_depth Md_depth Two
  rw [ai_wi ha (by omega) (by omega), if_pos in0, show (wr 0).toNat = 0 from by decide, md_wi ha (by omega) (by omega)]
  simp only [Option.bind_some]
  rw [hn.1]
  by_cases q : 0 ≤ a ∧ a ≤ τ 1 0
  · obtain ⟨i, rfl⟩ : ∃ z : Nat, a = (z : Int) := ⟨a.toNat, by omega⟩
    rw [if_pos q, wr_1, if_neg n10, if_neg n10]
    refine Ex.bnd (h.study.mono (fun _ σ1 z => ?_))
    rw [rg_321 (by omega) (by omega)]
    simp only [Option.bind_some]
    rw [show ((i : Int)).toNat = i by omega, (z.1.1.2.2.2.2.2.2.2 i (by omega)).1]
    refine Ex.ret (Ex.bnd ((md_looks h.1.2.1).mono (fun _ τ1 y => ?_)))
    rw [if_pos (inb (by omega) (by omega) (by omega)), wrn (a := (i : Int)) rfl (by omega)]
    refine Ex.ret ⟨?_, z.1.2.2 σ1 τ1 Fr.rf (y.1.mono (fun o k => FK_R))⟩
    show τ1 13 i = _
    rw [(y.2.2.2 i (by omega)).1]
  · rw [if_neg q, wr_0, if_pos rfl, if_pos rfl]
    exact Ex.ret (Ex.ret ⟨rfl, h⟩)
noncomputable def blkN (S : Mem) (a b : Int) : Int := if 0 ≤ a ∧ a ≤ S 0 0 ∧ 0 ≤ b ∧ b < ((skS S a.toNat).length : Int) then (((skS S a.toNat).getD b.toNat 0 : Nat) : Int) else -1
theorem blkN_rng {S : Mem} (hS : SV S) (a b : Int) : blkN S a b = -1 ∨ (0 ≤ blkN S a b ∧ (blkN S a b).toNat < fsS S (nS S) ∧ 0 ≤ opn S (blkN S a b).toNat) := by
  unfold blkN
  split
  · rename_i q
    have hN := hS.n
    have hm := fsS_mono S (show a.toNat ≤ nS S by omega)
    have := sk_mem (S := S) (i := a.toNat) (k := b.toNat) (by omega)
    right
    simp only [Int.toNat_natCast]
    exact ⟨by omega, by omega, this.2.2.1⟩
  · exact Or.inl rfl
theorem ai_findBlock {S σ1 : Mem} (hK : Kw S τ σ1) {a b : Int} (ha : RI a) (hb : RI b) : Ai_findBlock a b σ1 = some (blkN S a b, σ1) := by
  have hn := hK.n
  have hS := hK.1.1
  unfold Ai_findBlock blkN
  rw [ai_wi ha (by omega) (by omega)]
  simp only [Option.bind_some]
  rw [hn.1]
  by_cases q : 0 ≤ a ∧ a ≤ S 0 0
  · obtain ⟨i, rfl⟩ : ∃ z : Nat, a = (z : Int) := ⟨a.toNat, by omega⟩
    have hNt := hK.1.2.2.2.2.2.2.2 i (by omega)
    have hsk := sk_le S i
    rw [if_pos q, wr_1, if_neg n10, show ((i : Int)).toNat = i by omega]
    unfold Blk_openBefore
    rw [hb.w]
    by_cases q2 : b < 0
    · rw [if_pos q2, if_neg (by omega)]; rfl
    · rw [if_neg q2, rg_321 (by omega) (by omega)]
      simp only [Option.bind_some]
      rw [show ((i : Int)).toNat = i by omega, hNt.1, wr_id (n := (((skS S i).length : Nat) : Int)) (by omega) (by omega)]
      by_cases q3 : b < (((skS S i).length : Nat) : Int)
      · rw [if_pos q3, if_pos (by omega), rg_323 (by omega) (by omega)]
        simp only [Option.bind_some]
        rw [show ((i : Int) * 12 + b).toNat = 12 * i + b.toNat by omega, hNt.2 _ (by omega)]
      · rw [if_neg q3, if_neg (by omega)]; rfl
  · rw [if_neg q, wr_0, if_pos rfl, if_neg (fun z => q ⟨z.1, z.2.1⟩)]
theorem md_blockOf (h : Inv σ τ) {a b : Int} (ha : RI a) (hb : RI b) : Ex (Md_blockOf a b τ) (fun r τ' => r = e9 (blkN (absM τ 0) a b) ∧ Fr FR τ τ' ∧ (blkN (absM τ 0) a b ≠ -1 → DM (absM τ 0) τ' (τ 1 977) (τ 1 978) ∧ ∀ j, j < nS (absM τ 0) → τ' 16 j = absM τ 0 1 j)) := by
  have hnb := h.nb
  have hn := h.n
  have hS := h.1.2.1
  have en : absM τ 0 0 0 = τ 1 0 := aM_n τ
  unfold Md_blockOf blkN
  rw [if_pos (by decide), show (wr 0).toNat = 0 from by decide, md_wi ha (by omega) (by omega)]
  simp only [Option.bind_some]
  by_cases q : 0 ≤ a ∧ a ≤ τ 1 0
  · obtain ⟨i, rfl⟩ : ∃ z : Nat, a = (z : Int) := ⟨a.toNat, by omega⟩
    have hsk := sk_le (absM τ 0) i
    rw [if_pos q, wr_1, if_neg n10, if_pos (by decide), if_pos (by decide), show (wr 977).toNat = 977 from by decide, show (wr 978).toNat = 978 from by decide]
    refine Ex.bnd (h.useM.mono (fun _ τ1 y => ?_))
    obtain ⟨hF, hD, hr⟩ := y
    have hNt := hD.2.2.2.1.2 i (by omega)
    rw [if_pos (inb (by omega) (by omega) (by omega)), wrn (a := (i : Int)) rfl (by omega)]
    show Ex ((Md_in b 0 (τ1 13 i - 1) τ1).bind _) _
    rw [hNt.1, md_wi hb (by omega) (by omega), show ((i : Int)).toNat = i by omega]
    simp only [Option.bind_some]
    by_cases q3 : 0 ≤ b ∧ b ≤ (((skS (absM τ 0) i).length : Nat) : Int) - 1
    · rw [if_pos q3, wr_1, if_neg n10, if_pos (show 0 ≤ (i : Int) ∧ (i : Int) ≤ absM τ 0 0 0 ∧ 0 ≤ b ∧ b < (((skS (absM τ 0) i).length : Nat) : Int) by omega), if_pos (inb (by omega) (by omega) (by omega)), wrn (n := 12 * i + b.toNat) (by omega) (by omega), hNt.2 _ (by omega)]
      exact Ex.ret ⟨by rw [e9_id (by omega)], hF, fun _ => ⟨hD, hr⟩⟩
    · rw [if_neg q3, wr_0, if_pos rfl, if_neg (show ¬ (0 ≤ (i : Int) ∧ (i : Int) ≤ absM τ 0 0 0 ∧ 0 ≤ b ∧ b < (((skS (absM τ 0) i).length : Nat) : Int)) by omega)]
      exact Ex.ret ⟨rfl, hF, fun z => absurd rfl z⟩
  · rw [if_neg q, wr_0, if_pos rfl, if_neg (fun z => q ⟨z.1, by omega⟩)]
    exact Ex.ret ⟨rfl, Fr.rf, fun z => absurd rfl z⟩
theorem t_blk (h : Inv σ τ) {a b : Int} (ha : RI a) (hb : RI b) {A : Int → Mem → Option (Int × Mem)} {B : Int → Mem → Option (Int × Mem)}
    (hAB : ∀ (T : Nat) (σ1 τ1 : Mem), T < fsS (absM τ 0) (nS (absM τ 0)) → 0 ≤ opn (absM τ 0) T → Kw (absM τ 0) τ σ1 → σ1 1 = σ 1 → DM (absM τ 0) τ1 (τ 1 977) (τ 1 978) → (∀ j, j < nS (absM τ 0) → τ1 16 j = absM τ 0 1 j) → ∃ r, A T σ1 = some (r, σ1) ∧ B T τ1 = some (r, τ1)) :
    Two ((Ai_study σ).bind fun q1 => (Ai_findBlock a b q1.2).bind fun q2 => if wr q2.1 = -1 then some (-1, q2.2) else A q2.1 q2.2) ((Md_blockOf a b τ).bind fun q1 => if wr q1.1 = -9 then some (-1, q1.2) else B q1.1 q1.2) := by
  have hS := h.1.2.1
  have hN := hS.n
  have hfs := fsS_le hS (nS (absM τ 0)) (Nat.le_refl _)
  refine Ex.bnd (h.study.mono (fun _ σ1 z => ?_))
  obtain ⟨hK, e1, -⟩ := z
  have hr := blkN_rng hS a b
  show Ex ((Ai_findBlock a b σ1).bind _) _
  rw [ai_findBlock hK ha hb]
  simp only [Option.bind_some]
  rw [wr_id (n := blkN (absM τ 0) a b) (by omega) (by omega)]
  have hM := md_blockOf h ha hb
  by_cases q : blkN (absM τ 0) a b = -1
  · rw [if_pos q]
    refine Ex.ret (Ex.bnd (hM.mono (fun r τ1 y => ?_)))
    obtain ⟨e, hF, -⟩ := y
    show Ex (if wr r = -9 then _ else _) _
    rw [e, q, e9_m1, show wr (-9) = -9 from by decide, if_pos rfl]
    exact Ex.ret ⟨rfl, hK.2.2 σ1 τ1 Fr.rf hF⟩
  · rw [if_neg q]
    obtain ⟨T, hT⟩ : ∃ z : Nat, blkN (absM τ 0) a b = (z : Int) := ⟨(blkN (absM τ 0) a b).toNat, by omega⟩
    rw [hT] at hM hr ⊢
    rw [show ((T : Int)).toNat = T by omega] at hr
    obtain ⟨r0, τ1, hM1, e, hF, hTB⟩ := hM
    obtain ⟨t1, t2⟩ := hTB (by omega)
    obtain ⟨r, hA, hB⟩ := hAB T σ1 τ1 (by omega) (by omega) hK e1 t1 t2
    rw [e9_id (by omega)] at e
    rw [hA]
    refine Ex.ret ?_
    rw [hM1]
    simp only [Option.bind_some]
    rw [e, wr_id (n := (T : Int)) (by omega) (by omega), if_neg (by omega), hB]
    exact Ex.ret ⟨rfl, hK.2.2 σ1 τ1 Fr.rf hF⟩
theorem Kw.ind {S σ1 : Mem} (hK : Kw S τ σ1) {i : Nat} (hi : i < nS S) : σ1 4 i = S 1 i ∧ 0 ≤ S 1 i ∧ S 1 i ≤ 40 := by
  have hn := hK.n
  have h1 := aC_ind (σ := σ1) (i := i) (by omega)
  rw [hK.1.2.2.1] at h1
  have h3 := (hK.1.1.2.2.2.2.1 i (by omega)).1
  exact ⟨h1.symm, h3⟩
theorem t_blockRule (h : Inv σ τ) {a b : Int} (ha : RI a) (hb : RI b) : Two (Ai_blockRule a b σ) (Md_blockRule a b τ) := by
  have hfs := fsS_le h.1.2.1 (nS (absM τ 0)) (Nat.le_refl _)
  have hn := h.n
  refine t_blk h ha hb (A := fun t s => (Row_get 309 t s).bind fun q3 => some (q3.1, q3.2)) (B := fun t s => if 0 ≤ wr t ∧ wr t < (641 : Int) then (some ((s 8 (wr t).toNat), s)) else none) (fun T σ1 τ1 hT ho hK e1 hD hr => ⟨opn (absM τ 0) T, ?_, ?_⟩)
  · show (Row_get 309 T σ1).bind _ = _
    rw [rg_309 (by omega) (by omega)]
    simp only [Option.bind_some]
    rw [show ((T : Int)).toNat = T by omega, (bc_at hK.1 hT).1]
  · show (if 0 ≤ wr (T : Int) ∧ wr (T : Int) < (641 : Int) then (some ((τ1 8 (wr (T : Int)).toNat), τ1)) else none) = _
    rw [if_pos (inb (by omega) (by omega) (by omega)), wrn (a := (T : Int)) rfl (by omega), (bk_op hD.2.2.2.1 hT).1, e9_id ho]
theorem t_blockOpening (h : Inv σ τ) {a b : Int} (ha : RI a) (hb : RI b) : Two (Ai_blockOpening a b σ) (Md_blockOpening a b τ) := by
  have hfs := fsS_le h.1.2.1 (nS (absM τ 0)) (Nat.le_refl _)
  have hn := h.n
  refine t_blk h ha hb (A := fun t s => (Row_get 290 t s).bind fun q3 => (Row_get 3 q3.1 q3.2).bind fun q4 => (Row_get 292 t q4.2).bind fun q5 => some ((((100 * q3.1) + q4.1) + q5.1), q5.2)) (B := fun t s => if 0 ≤ wr t ∧ wr t < (641 : Int) then ((Md_columnOf t s).bind fun q2 => some (((100 * (s 4 (wr t).toNat)) + q2.1), q2.2)) else none) (fun T σ1 τ1 hT ho hK e1 hD hr => ⟨100 * ((tq (absM τ 0) T).1 : Nat) + absM τ 0 1 (tq (absM τ 0) T).1 + (tq (absM τ 0) T).2.1, ?_, ?_⟩)
  · have hk := tq_ok h.1.2.1 hT
    have ht := tk_arr hK.1.2.2.2.2.1 hT
    show (Row_get 290 T σ1).bind _ = _
    rw [rg_290 (by omega) (by omega)]
    simp only [Option.bind_some]
    rw [show ((T : Int)).toNat = T by omega, ht.1, rg_3 (by omega) (by omega)]
    simp only [Option.bind_some]
    rw [rg_292 (by omega) (by omega)]
    simp only [Option.bind_some]
    rw [show ((T : Int)).toNat = T by omega, ht.2.1, show (((tq (absM τ 0) T).1 : Nat) : Int).toNat = (tq (absM τ 0) T).1 by omega, (hK.ind hk.1).1]
  · have hk := tq_ok h.1.2.1 hT
    have ht := tk_arr hD.2.2.1 hT
    show (if 0 ≤ wr (T : Int) ∧ wr (T : Int) < (641 : Int) then ((Md_columnOf T τ1).bind fun q2 => some (((100 * (τ1 4 (wr (T : Int)).toNat)) + q2.1), q2.2)) else none) = _
    rw [if_pos (inb (by omega) (by omega) (by omega)), wrn (a := (T : Int)) rfl (by omega), md_columnOf hD hT, ht.1, hr _ hk.1]
    simp only [Option.bind_some]
    congr 2
    omega
theorem t_contentColumn (h : Inv σ τ) {a b : Int} (ha : RI a) (hb : RI b) : Two (Ai_contentColumn a b σ) (Md_contentColumn a b τ) := by
  have hS := h.1.2.1
  have hfs := fsS_le h.1.2.1 (nS (absM τ 0)) (Nat.le_refl _)
  have hn := h.n
  refine t_blk h ha hb (A := fun t s => (Row_get 290 t s).bind fun q3 => (Row_get 3 q3.1 q3.2).bind fun q4 => (Row_get 317 t q4.2).bind fun q5 => (Row_get 319 t q5.2).bind fun q6 => (Ai_columnFrom q4.1 q5.1 q6.1 (q6.2 1 2) q6.2).bind fun q7 => some (q7.1, q7.2)) (B := fun t s => (Md_columnIn t s).bind fun q2 => some (q2.1, q2.2)) (fun T σ1 τ1 hT ho hK e1 hD hr => ⟨cinS (absM τ 0) (absM τ 0 1) (τ 1 977) T, ?_, ?_⟩)
  · have hk := tq_ok hS hT
    have ht := tk_arr hK.1.2.2.2.2.1 hT
    obtain ⟨-, -, -, b4⟩ := bc_at hK.1 hT
    obtain ⟨-, b5, b6⟩ := b4 (by omega)
    have hof := of_rng hS hT (by omega)
    have hi := hK.ind hk.1
    have hst := h.stp
    have hv : ∀ j, j < nS (absM τ 0) → 0 ≤ absM τ 0 1 j ∧ absM τ 0 1 j ≤ 40 := fun j hj => (h.ind hj).2.2
    have hgr := cin_gr hS hT (by omega) hv (τ 1 977) 0
    show (Row_get 290 T σ1).bind _ = _
    rw [rg_290 (by omega) (by omega)]
    simp only [Option.bind_some]
    rw [show ((T : Int)).toNat = T by omega, ht.1, rg_3 (by omega) (by omega)]
    simp only [Option.bind_some]
    rw [rg_317 (by omega) (by omega)]
    simp only [Option.bind_some]
    rw [rg_319 (by omega) (by omega)]
    simp only [Option.bind_some]
    rw [show ((T : Int)).toNat = T by omega, show (((tq (absM τ 0) T).1 : Nat) : Int).toNat = (tq (absM τ 0) T).1 by omega, hi.1, b5, b6, e1, hst.1, ← hgr]
    unfold Ai_columnFrom grC mminI
    have hsp : 0 ≤ spS (absM τ 0) T * τ 1 977 ∧ spS (absM τ 0) T * τ 1 977 ≤ 32 := by
      have : spS (absM τ 0) T = 0 ∨ spS (absM τ 0) T = 1 ∨ spS (absM τ 0) T = 2 ∨ spS (absM τ 0) T = 3 ∨ spS (absM τ 0) T = 4 := by omega
      rcases this with z | z | z | z | z <;> rw [z] <;> omega
    rw [wr_id (n := spS (absM τ 0) T) (by omega) (by omega), wr_id (n := 40) (by omega) (by omega), wr_id (n := absM τ 0 1 (tq (absM τ 0) T).1 + spS (absM τ 0) T * τ 1 977) (by omega) (by omega), if_neg (show ¬ (((tq (absM τ 0) T).1 : Nat) : Int) = -1 by omega), show (((tq (absM τ 0) T).1 : Nat) : Int).toNat = (tq (absM τ 0) T).1 by omega]
    by_cases y : 0 < spS (absM τ 0) T
    · rw [if_pos y, if_pos y]; rfl
    · rw [if_neg y, if_neg y]; rfl
  · show (Md_columnIn T τ1).bind _ = _
    rw [(md_columnIn hD hT ho).1, cin_congr hS hr hT]
    rfl
end QB
