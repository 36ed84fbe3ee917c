/-! ===== the class closes and opens blocks ===== -/
def FHC (o k : Nat) : Prop := o = 312 ∨ o = 314 ∨ (o = 304 ∧ 11 ≤ k ∧ k ≤ 13)
theorem clS_clr {S : Mem} {T : Nat} {b : BSt} (hb : bOk S T b) : (clS S T b).2.2.2.1 T = -1 := by
  have h5 := hb.2.2.2.2.1 T
  unfold clS
  by_cases q : mayS S b.2.1 b.1 (fnd S T b.2.1 b.1 b.1.length)
  · rw [cif_pos q]
    have hr := fnd_rng S T b.2.1 b.1 b.1.length
    have hq := q.1
    have := hb.2.1 _ (getD_mem (st := b.1) (k := (fnd S T b.2.1 b.1 b.1.length).toNat) (by omega))
    simp only [up1]
    rw [if_neg (by omega)]
    omega
  · rw [cif_neg q]
    simp only []
    omega
theorem blk_close {S σ : Mem} {T : Nat} {b : BSt} (hS : SV S) (hn : SN S) (hA : absC σ 1 = S) (hTn : T < fsS S (nS S)) (hb : bOk S T b) (hB : BC T b σ) (h8 : σ 308 T = (mk (P1 S T) 12 : Nat)) : Ex (Blk_close T σ) (fun _ σ' => Fr FHC σ σ' ∧ BC T (clS S T b) σ' ∧ σ' 312 T = (clS S T b).2.2.1 T) := by
  have hN := hS.n
  have hfs := fsS_le hS (nS S) (Nat.le_refl _)
  have h12 := hb.1
  have hml := mk_lt (P1 S T) 12
  have hcT : b.2.2.1 T = -1 := by rcases hb.2.2.2.1 T with z | z
                                  · exact z
                                  · omega
  unfold Blk_close
  rw [rs_311 (by omega) (by omega)]
  simp only [Option.bind_some]
  rw [rg_307 (by omega) (by omega)]
  simp only [Option.bind_some]
  rw [show ((T : Int)).toNat = T by omega]
  have e8 : upM σ 312 T (-1) 308 T = (mk (P1 S T) 12 : Nat) := by simpa [upM] using h8
  rw [e8, wr_id (by omega) (by omega)]
  have hF1 : Fr FHC σ (upM σ 312 T (-1)) := Fr.up Fr.rf (by unfold FHC; omega)
  have hB1 : BC T b (upM σ 312 T (-1)) := by
    obtain ⟨b1, b2, b3, b4, b5⟩ := hB
    refine ⟨by simpa [upM] using b1, fun k hk => by simpa [upM] using b2 k hk, fun u hu => ?_, by simpa [upM] using b4, by simpa [upM] using b5⟩
    have := b3 u hu
    have hne : ¬ u = T := by omega
    simpa [upM, hne] using this
  by_cases q : mk (P1 S T) 12 = 0
  · have hcl : ¬ isCl S T 12 := by rw [P1_zero hS hn hTn] at q; exact q
    have hnm : ¬ mayS S b.2.1 b.1 (fnd S T b.2.1 b.1 b.1.length) := by
      intro z
      have e := fnd_skip (S := S) (T := T) (op := b.2.1) (st := b.1) (m := 0) b.1.length (by omega) (fun j h1 h2 y => by
        obtain ⟨a1, a2, a3, a4, a5, a6⟩ := stk_atC hb hB h2
        exact hcl ⟨_, by omega, a6, y⟩)
      have e0 : fnd S T b.2.1 b.1 b.1.length = -1 := e
      have := z.1
      omega
    rw [if_pos (by omega)]
    refine Ex.ret ⟨hF1, ?_⟩
    unfold clS
    rw [cif_neg hnm, cif_neg hcl]
    obtain ⟨b1, b2, b3, b4, b5⟩ := hB1
    exact ⟨⟨b1, b2, b3, by simp [b4], b5⟩, by simp [upM, hcT]⟩
  · have hcl : isCl S T 12 := by
      by_cases z : isCl S T 12
      · exact z
      · exact absurd (by rw [P1_zero hS hn hTn]; exact z) q
    rw [if_neg (by omega), rg_307 (by omega) (by omega)]
    simp only [Option.bind_some]
    rw [show ((T : Int)).toNat = T by omega, e8]
    have hA1 : absC (upM σ 312 T (-1)) 1 = S := by rw [absC_Fr hF1 (fun o k z => by unfold FHC at z; omega)]; exact hA
    have hlev := blk_level hS hn hA1 hTn hb hB1 b.1.length 100000 (-1) (Nat.le_refl _) (by omega) (fun j h1 h2 => by omega) (Or.inl rfl) (by omega) (by omega)
    unfold Blk_levelThatCloses
    rw [hB1.1, hlev]
    simp only [Option.bind_some]
    unfold clS
    by_cases hm : mayS S b.2.1 b.1 (fnd S T b.2.1 b.1 b.1.length)
    · rw [cif_pos hm, cif_pos hm]
      have hr := fnd_rng S T b.2.1 b.1 b.1.length
      have hm1 := hm.1
      generalize fnd S T b.2.1 b.1 b.1.length = lvi at hm hr hm1
      obtain ⟨lv, rfl⟩ : ∃ z : Nat, lvi = (z : Int) := ⟨lvi.toNat, by omega⟩
      have hl : lv < b.1.length := by omega
      obtain ⟨l1, l2, l3, l4, l5, l6⟩ := stk_atC hb hB1 hl
      rw [wr_id (n := (lv : Int)) (by omega) (by omega), if_neg (by omega), rg_325 (by omega) (by omega), show ((lv : Int)).toNat = lv by omega]
      simp only [Option.bind_some]
      rw [l1, rs_311 (by omega) (by omega)]
      simp only [Option.bind_some]
      rw [rg_325 (by omega) (by omega), show ((lv : Int)).toNat = lv by omega, show ((T : Int)).toNat = T by omega]
      simp only [Option.bind_some]
      have e26 : upM (upM σ 312 T (-1)) 312 T ((b.1.getD lv 0 : Nat) : Int) 326 lv = ((b.1.getD lv 0 : Nat) : Int) := by rw [← l1]; simp [upM]
      rw [e26, rs_313 (by omega) (by omega)]
      simp only [Option.bind_some]
      rw [show (((b.1.getD lv 0 : Nat)) : Int).toNat = b.1.getD lv 0 by omega]
      refine Ex.lt (Ex.lt (Ex.ret ⟨Fr.up (Fr.up (Fr.up (Fr.up hF1 (by unfold FHC; omega)) (by unfold FHC; omega)) (by unfold FHC; omega)) (by unfold FHC; omega), ⟨?_, fun k hk => ?_, fun u hu => ⟨?_, ?_, ?_⟩, ?_, ?_⟩, ?_⟩))
      · simp [upM]; omega
      · have hk2 : k < lv := by simp at hk; omega
        have := hB.2.1 k (by omega)
        simp [upM]
        rw [this]
        simp [hk2]
      · have := (hB.2.2.1 u hu).1; simpa [upM] using this
      · have := (hB.2.2.1 u hu).2.1
        have hne : ¬ u = T := by omega
        simpa [upM, up1, hne] using this
      · have := (hB.2.2.1 u hu).2.2
        by_cases e : u = b.1.getD lv 0
        · rw [e]; simp [upM, up1]
        · simp only [List.getD_eq_getElem?_getD] at e ⊢
          simp [upM, up1, e]; exact this
      · have := hB.2.2.2.1; simpa [upM] using this
      · have h13 := hB.2.2.2.2; have h11 := hB.1; simp [upM, h13, h11]
      · simp [upM, up1]
    · rw [cif_neg hm, cif_neg hm, cif_pos hcl, show wr (-1) = -1 from by decide, if_pos rfl]
      refine Ex.lt (Ex.ret ⟨Fr.up hF1 (by unfold FHC; omega), ?_⟩)
      obtain ⟨b1, b2, b3, b4, b5⟩ := hB1
      refine ⟨⟨by simpa [upM] using b1, fun k hk => by have := b2 k hk; simpa [upM] using this, fun u hu => by have := b3 u hu; simpa [upM] using this, by have := b4; simp [upM] at this ⊢; omega, by simpa [upM] using b5⟩, by simp [upM, hcT]⟩
def algS (S : Mem) (u : Nat) : Prop := S 8 (brS S 1 u 12).toNat = 1 ∧ u + 1 < fsS S ((tq S u).1 + 1)
noncomputable def ofS (S : Mem) (u : Nat) : Int := cif (algS S u) (tq S (u + 1)).2.1 0
noncomputable def spS (S : Mem) (u : Nat) : Int := cif (algS S u) 0 (S 7 (brS S 1 u 12).toNat)
/-- what the class keeps of a token besides -/
def XT (S : Mem) (u : Nat) (σ : Mem) : Prop := σ 306 u = (mk (P0 S u) 12 : Nat) ∧ ((clS S u (bRun S u)).1.length < 12 ∧ brS S 1 u 12 ≠ -1 → σ 316 u = (clS S u (bRun S u)).1.length ∧ σ 318 u = ofS S u ∧ σ 320 u = spS S u)
def FO (T : Nat) (o k : Nat) : Prop := ((o = 310 ∨ o = 314 ∨ o = 316 ∨ o = 318 ∨ o = 320) ∧ k = T) ∨ o = 326 ∨ (o = 304 ∧ k = 11)
theorem blk_open {S σ : Mem} {T : Nat} (hS : SV S) (hA : absC σ 1 = S) (hT : TkC S σ) (hTn : T < fsS S (nS S)) (hB : BC T (clS S T (bRun S T)) σ) (h12T : σ 312 T = (clS S T (bRun S T)).2.2.1 T) (h6 : σ 306 T = (mk (P0 S T) 12 : Nat)) :
    Ex (Blk_open T σ) (fun _ σ' => Fr (FO T) σ σ' ∧ BC (T + 1) (bRun S (T + 1)) σ' ∧ XT S T σ') := by
  have hN := hS.n
  have hfs := fsS_le hS (nS S) (Nat.le_refl _)
  have hb := bOk_run (S := S) T
  obtain ⟨⟨c1, c2, c3, c4, c5, c6, c7, c8⟩, c9, c10, c11⟩ := bOk_cl hb
  have hclr := clS_clr hb
  have hbr := brS_rng S 1 T 12
  have hopT : (clS S T (bRun S T)).2.1 T = -1 := by rw [c10]; have := hb.2.2.1 T; omega
  have hk := tq_ok hS hTn
  generalize hbb : clS S T (bRun S T) = b at *
  unfold Blk_open
  -- no block
  have no : ¬ (b.1.length < 12 ∧ brS S 1 T 12 ≠ -1) → Ex (Blk_open_26 T (-1) σ) (fun _ σ' => Fr (FO T) σ σ' ∧ BC (T + 1) (bRun S (T + 1)) σ' ∧ XT S T σ') := by
    intro hno
    have eR : bRun S (T + 1) = b := by show opS S T (clS S T (bRun S T)) = _; rw [hbb]; unfold opS; rw [cif_neg hno]
    unfold Blk_open_26
    rw [rs_309 (by omega) (by omega)]
    simp only [Option.bind_some]
    rw [rs_313 (by omega) (by omega)]
    simp only [Option.bind_some]
    rw [show wr (-1) = -1 from by decide, if_pos rfl, show ((T : Int)).toNat = T by omega]
    refine Ex.ret ⟨Fr.up (Fr.up Fr.rf (by unfold FO; omega)) (by unfold FO; omega), ?_, ?_⟩
    · rw [eR]
      obtain ⟨b1, b2, b3, b4, b5⟩ := hB
      refine ⟨by simpa [upM] using b1, fun k hk => by simpa [upM] using b2 k hk, fun u hu => ?_, by simpa [upM] using b4, by simpa [upM] using b5⟩
      by_cases e : u = T
      · subst e; simp [upM, hopT, hclr, h12T]
      · have := b3 u (by omega); simpa [upM, e] using this
    · refine ⟨by simpa [upM] using h6, fun z => absurd ?_ hno⟩
      rw [hbb] at z; exact z
  by_cases q12 : b.1.length < 12
  · rw [hB.1, wr_id (n := ((b.1.length : Nat) : Int)) (by omega) (by omega), if_pos (by omega), rg_305 (by omega) (by omega)]
    simp only [Option.bind_some]
    rw [show ((T : Int)).toNat = T by omega, h6, rul_best hS hA T (by omega)]
    simp only [Option.bind_some]
    by_cases qb : brS S 1 T 12 = -1
    · rw [qb]
      exact no (fun z => z.2 qb)
    · have hq : b.1.length < 12 ∧ brS S 1 T 12 ≠ -1 := ⟨q12, qb⟩
      have hr3 : 0 ≤ brS S 1 T 12 ∧ brS S 1 T 12 < 12 ∧ S 5 (brS S 1 T 12).toNat = 1 := by omega
      obtain ⟨r, hr⟩ : ∃ z : Nat, brS S 1 T 12 = (z : Int) := ⟨(brS S 1 T 12).toNat, by omega⟩
      have hr12 : r < 12 := by omega
      have hsr : S 5 r = 1 := by have := hr3.2.2; rw [hr] at this; rwa [show ((r : Int)).toNat = r by omega] at this
      have eR : bRun S (T + 1) = (b.1 ++ [T], up1 b.2.1 T (brS S 1 T 12), b.2.2) := by show opS S T (clS S T (bRun S T)) = _; rw [hbb]; unfold opS; rw [cif_pos hq]
      obtain ⟨s1, s2, s3, s4, s5⟩ := hS.2.2.2.2.2 r hr12
      have emode : S 8 r = σ 19 r := by have := aC_mode (σ := σ) hr12 (by rw [hA]; exact hsr); rw [hA] at this; exact this
      have esp : S 7 r = σ 17 r := by have := aC_sp (σ := σ) hr12 (by rw [hA]; omega); rw [hA] at this; exact this
      have hmode := (s4 hsr).2.1
      unfold Blk_open_26
      rw [rs_309 (by omega) (by omega)]
      simp only [Option.bind_some]
      rw [rs_313 (by omega) (by omega)]
      simp only [Option.bind_some]
      rw [wr_id (n := brS S 1 T 12) (by omega) (by omega), if_neg qb, show ((T : Int)).toNat = T by omega]
      generalize hσ1 : upM (upM σ 310 T (brS S 1 T 12)) 314 T (-1) = σ1
      have k1 : ∀ o k, (o ≠ 310 ∧ o ≠ 314) ∨ k ≠ T → σ1 o k = σ o k := fun o k h => by rw [← hσ1]; simp only [upM]; rw [if_neg (by omega), if_neg (by omega)]
      have e11 : σ1 304 11 = ((b.1.length : Nat) : Int) := by rw [k1 304 11 (by omega)]; exact hB.1
      rw [e11, rs_315 (by omega) (by omega)]
      simp only [Option.bind_some]
      have e11b : upM σ1 316 (T : Int).toNat ((b.1.length : Nat) : Int) 304 11 = ((b.1.length : Nat) : Int) := by simpa [upM] using e11
      rw [e11b, rs_325 (by omega) (by omega)]
      simp only [Option.bind_some]
      have e11c : upM (upM σ1 316 (T : Int).toNat ((b.1.length : Nat) : Int)) 326 ((b.1.length : Nat) : Int).toNat T 304 11 = ((b.1.length : Nat) : Int) := by simpa [upM] using e11
      rw [e11c]
      refine Ex.lt ?_
      rw [show ((T : Int)).toNat = T by omega, show (((b.1.length : Nat) : Int)).toNat = b.1.length by omega]
      generalize hσ2 : upM (upM (upM σ1 316 T ((b.1.length : Nat) : Int)) 326 b.1.length T) 304 11 (((b.1.length : Nat) : Int) + 1) = σ2
      have k2 : ∀ o k, (o ≠ 316 ∨ k ≠ T) → (o ≠ 326 ∨ k ≠ b.1.length) → (o ≠ 304 ∨ k ≠ 11) → σ2 o k = σ1 o k := fun o k h1 h2 h3 => by rw [← hσ2]; simp only [upM]; rw [if_neg (by omega), if_neg (by omega), if_neg (by omega)]
      have hF2 : Fr (FO T) σ σ2 := by
        rw [← hσ2, ← hσ1]
        exact Fr.up (Fr.up (Fr.up (Fr.up (Fr.up Fr.rf (by unfold FO; omega)) (by unfold FO; omega)) (by unfold FO; omega)) (by unfold FO; omega)) (by unfold FO; omega)
      have ht := tk_arr hT hTn
      have g1 : σ2 291 T = (tq S T).1 := by rw [k2 291 T (by omega) (by omega) (by omega), k1 291 T (by omega)]; exact ht.1
      rw [rg_290 (by omega) (by omega)]
      simp only [Option.bind_some]
      rw [show ((T : Int)).toNat = T by omega, g1, rg_298 (by omega) (by omega)]
      simp only [Option.bind_some]
      have g2 : σ2 299 ((tq S T).1 + 1) = fsS S ((tq S T).1 + 1) := by rw [k2 299 _ (by omega) (by omega) (by omega), k1 299 _ (by omega)]; exact tk_fr hT (by omega)
      have hfl := fsS_le hS ((tq S T).1 + 1) (by omega)
      have hmo := fsS_mono S (show (tq S T).1 + 1 ≤ nS S by omega)
      rw [show (((tq S T).1 : Int) + 1).toNat = (tq S T).1 + 1 by omega, g2, wr_id (n := (T : Int) + 1) (by omega) (by omega), wr_id (n := ((fsS S ((tq S T).1 + 1) : Nat) : Int)) (by omega) (by omega)]
      -- the end: offset and steps
      have fin : ∀ (al of : Int), (al = 0 ∨ al = 1) → (al = 0 → ¬ algS S T ∧ of = 0) → (al = 1 → algS S T ∧ of = (tq S (T + 1)).2.1) → Ex (Blk_open_167 T (brS S 1 T 12) al of T σ2) (fun _ σ' => Fr (FO T) σ σ' ∧ BC (T + 1) (bRun S (T + 1)) σ' ∧ XT S T σ') := by
        intro al of hal h0 h1
        have last : ∀ v, v = spS S T → of = ofS S T → (Fr (FO T) σ (upM (upM σ2 318 T of) 320 T v) ∧ BC (T + 1) (bRun S (T + 1)) (upM (upM σ2 318 T of) 320 T v) ∧ XT S T (upM (upM σ2 318 T of) 320 T v)) := by
          intro v hv ho
          refine ⟨Fr.up (Fr.up hF2 (by unfold FO; omega)) (by unfold FO; omega), ?_, ?_⟩
          · rw [eR]
            obtain ⟨b1, b2, b3, b4, b5⟩ := hB
            refine ⟨?_, fun k hk => ?_, fun u hu => ?_, ?_, ?_⟩
            · rw [← hσ2]; simp [upM]
            · simp only [List.length_append, List.length_singleton] at hk
              by_cases e : k = b.1.length
              · subst e; rw [← hσ2]; simp [upM]
              · have hk2 : k < b.1.length := by omega
                have := b2 k hk2
                have e2 : upM (upM σ2 318 T of) 320 T v 326 k = σ 326 k := by
                  simp only [upM]
                  rw [if_neg (by omega), if_neg (by omega), k2 326 k (by omega) (by omega) (by omega), k1 326 k (by omega)]
                rw [e2, this]
                simp [List.getElem?_append_left hk2]
            · have e2 : ∀ o, o = 310 ∨ o = 312 ∨ o = 314 → upM (upM σ2 318 T of) 320 T v o u = σ1 o u := fun o ho => by
                simp only [upM]
                rw [if_neg (by omega), if_neg (by omega), k2 o u (by omega) (by omega) (by omega)]
              rw [e2 310 (by omega), e2 312 (by omega), e2 314 (by omega)]
              by_cases e : u = T
              · subst e; rw [← hσ1]; simp [upM, up1, hclr, h12T]
              · have := b3 u (by omega)
                rw [k1 310 u (by omega), k1 312 u (by omega), k1 314 u (by omega)]
                simpa [up1, e] using this
            · simp only [upM]
              rw [if_neg (by omega), if_neg (by omega), k2 304 12 (by omega) (by omega) (by omega), k1 304 12 (by omega)]
              exact b4
            · simp only [upM]
              rw [if_neg (by omega), if_neg (by omega), k2 304 13 (by omega) (by omega) (by omega), k1 304 13 (by omega)]
              exact b5
          · refine ⟨?_, fun _ => ⟨?_, ?_, ?_⟩⟩
            · simp only [upM]
              rw [if_neg (by omega), if_neg (by omega), k2 306 T (by omega) (by omega) (by omega), k1 306 T (by omega)]
              exact h6
            · rw [hbb, ← hσ2]; simp [upM]
            · simp [upM, ho]
            · simp [upM, hv]
        unfold Blk_open_167
        rw [rs_317 (by omega) (by omega)]
        simp only [Option.bind_some]
        rw [show ((T : Int)).toNat = T by omega]
        rcases hal with rfl | rfl
        · obtain ⟨na, ho⟩ := h0 rfl
          rw [wr_0, if_pos rfl, rg_16 (by omega) (by omega)]
          simp only [Option.bind_some]
          rw [rs_319 (by omega) (by omega)]
          simp only [Option.bind_some]
          rw [show ((T : Int)).toNat = T by omega]
          refine Ex.ret (last _ ?_ ?_)
          · unfold spS
            rw [cif_neg na, hr, show ((r : Int)).toNat = r by omega, esp]
            simp only [upM]
            rw [if_neg (by omega), k2 17 r (by omega) (by omega) (by omega), k1 17 r (by omega)]
          · unfold ofS; rw [cif_neg na]; exact ho
        · obtain ⟨ya, ho⟩ := h1 rfl
          rw [wr_1, if_neg (by decide), rs_319 (by omega) (by omega)]
          simp only [Option.bind_some]
          rw [show ((T : Int)).toNat = T by omega]
          refine Ex.ret (last _ ?_ ?_)
          · unfold spS; rw [cif_pos ya]
          · unfold ofS; rw [cif_pos ya]; exact ho
      have f141 : ∀ al : Int, (al = 0 ∧ ¬ algS S T) ∨ (al = 1 ∧ algS S T) → Ex (Blk_open_141 T (brS S 1 T 12) al σ2) (fun _ σ' => Fr (FO T) σ σ' ∧ BC (T + 1) (bRun S (T + 1)) σ' ∧ XT S T σ') := by
        intro al hal
        unfold Blk_open_141
        rcases hal with ⟨rfl, na⟩ | ⟨rfl, ya⟩
        · rw [wr_0, if_pos rfl]
          exact fin 0 0 (Or.inl rfl) (fun _ => ⟨na, rfl⟩) (fun z => absurd z (by decide))
        · have hT1 : T + 1 < fsS S (nS S) := by have := ya.2; omega
          rw [wr_1, if_neg (by decide), rg_292 (by omega) (by omega)]
          simp only [Option.bind_some]
          have g3 : σ2 293 (T + 1) = (tq S (T + 1)).2.1 := by rw [k2 293 _ (by omega) (by omega) (by omega), k1 293 _ (by omega)]; exact (tk_arr hT hT1).2.1
          rw [show ((T : Int) + 1).toNat = T + 1 by omega, g3]
          exact fin 1 _ (Or.inr rfl) (fun z => absurd z (by decide)) (fun _ => ⟨ya, rfl⟩)
      have f116 : ∀ la : Int, (la = 0 ∧ T + 1 < fsS S ((tq S T).1 + 1)) ∨ (la = 1 ∧ ¬ T + 1 < fsS S ((tq S T).1 + 1)) → Ex (Blk_open_116 T (brS S 1 T 12) la σ2) (fun _ σ' => Fr (FO T) σ σ' ∧ BC (T + 1) (bRun S (T + 1)) σ' ∧ XT S T σ') := by
        intro la hla
        unfold Blk_open_116
        rw [rg_18 (by omega) (by omega)]
        simp only [Option.bind_some]
        have g4 : σ2 19 (brS S 1 T 12).toNat = S 8 r := by rw [hr, show ((r : Int)).toNat = r by omega, k2 19 r (by omega) (by omega) (by omega), k1 19 r (by omega), emode]
        rw [g4, wr_id (n := S 8 r) (by omega) (by omega)]
        have ea : S 8 (brS S 1 T 12).toNat = S 8 r := by rw [hr, show ((r : Int)).toNat = r by omega]
        by_cases qm : S 8 r = 1
        · rw [if_pos qm]
          rcases hla with ⟨rfl, h⟩ | ⟨rfl, h⟩
          · rw [wr_0, if_pos rfl]
            exact f141 1 (Or.inr ⟨rfl, by rw [← ea] at qm; exact qm, h⟩)
          · rw [wr_1, if_neg (by decide)]
            exact f141 0 (Or.inl ⟨rfl, fun z => h z.2⟩)
        · rw [if_neg qm]
          exact f141 0 (Or.inl ⟨rfl, fun z => qm (by rw [← ea]; exact z.1)⟩)
      by_cases ql : T + 1 < fsS S ((tq S T).1 + 1)
      · rw [if_pos (by omega)]
        exact f116 0 (Or.inl ⟨rfl, ql⟩)
      · rw [if_neg (by omega)]
        exact f116 1 (Or.inr ⟨rfl, ql⟩)
  · rw [hB.1, wr_id (n := ((b.1.length : Nat) : Int)) (by omega) (by omega), if_neg (by omega)]
    exact no (fun z => q12 z.1)
