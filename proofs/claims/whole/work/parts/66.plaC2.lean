/-! ===== the plan of the class: what decides about a line ===== -/
def FP (i o k : Nat) : Prop := (o = 329 ∨ o = 331 ∨ o = 333 ∨ o = 335 ∨ o = 337 ∨ o = 339) ∧ k = i
def grC (rw : Nat → Int) (stp bas an of sp : Int) : Int := if an = -1 then bas else if 0 < sp then (if rw an.toNat + sp * stp < 40 then rw an.toNat + sp * stp else 40) else rw an.toNat + of
def plV (S : Mem) (i : Nat) (re de an of sp ex : Int) : Prop := (an = -1 ∨ (0 ≤ an ∧ an < nS S)) ∧ (an ≠ -1 → 0 ≤ of ∧ of ≤ 32 ∧ 0 ≤ sp ∧ sp ≤ 4) ∧ (-4 ≤ ex ∧ ex ≤ 4) ∧ (0 ≤ re ∧ re ≤ 5) ∧ (-1 ≤ de ∧ de < 12) ∧
  ∀ (rw : Nat → Int) (stp bas : Int), (∀ j, j < nS S → 0 ≤ rw j ∧ rw j ≤ 40) → re = (o4S S rw stp bas i).2.2.1 ∧ de = (o4S S rw stp bas i).2.2.2 ∧ (o4S S rw stp bas i).2.1 = grC rw stp bas an of sp + ex * stp
def PlR (S : Mem) (i : Nat) (σ : Mem) : Prop := plV S i (σ 329 i) (σ 331 i) (σ 333 i) (σ 335 i) (σ 337 i) (σ 339 i)
def DcP (S : Mem) (i : Nat) (O : (Nat → Int) → Int → Int → Int × Int × Int × Int) (d w : Int) : Prop :=
  (d = -1 ∧ ∀ rw stp bas, O rw stp bas = (-2, 0, 0, -1)) ∨ (w = 3 ∧ (ldF S i).2 ≠ -1 ∧ d = opn S (ldF S i).2.toNat ∧ ∀ rw stp bas, O rw stp bas = (S 6 d.toNat, ccS S rw stp (ldF S i).2.toNat, 3, d))
    ∨ ((w = 4 ∨ w = 5) ∧ (0 ≤ d ∧ d < 12 ∧ S 5 d.toNat ≠ 0) ∧ ∀ rw stp bas, O rw stp bas = (S 6 d.toNat, grdS S rw stp bas i + S 7 d.toNat * stp, w, d))
section PD
variable {S σ : Mem} {i : Nat}
theorem DcP.d {O : (Nat → Int) → Int → Int → Int × Int × Int × Int} {d w : Int} (h : DcP S i O d w) : d = -1 ∨ (0 ≤ d ∧ d < 12 ∧ S 5 d.toNat ≠ 0) := by
  rcases h with h | h | h
  · exact Or.inl h.1
  · have := (ldF_ok (S := S) (i := i)).2.2
    have h2 := opn_rng S (ldF S i).2.toNat
    rw [← h.2.2.1] at h2
    have := h.2.1
    omega
  · exact Or.inr h.2.1
theorem DcP_step (hS : SV S) {O : (Nat → Int) → Int → Int → Int × Int × Int × Int} {d w n w' : Int} (h : DcP S i O d w) (hn : n = -1 ∨ (0 ≤ n ∧ n < 12 ∧ S 5 n.toNat ≠ 0)) (hw : w' = 4 ∨ w' = 5) :
    DcP S i (fun rw stp bas => if n = -1 then O rw stp bas else ofr (O rw stp bas) (S 6 n.toNat) (grdS S rw stp bas i + S 7 n.toNat * stp) w' n) (if n ≠ -1 ∧ (d = -1 ∨ S 6 d.toNat < S 6 n.toNat) then n else d) (if n ≠ -1 ∧ (d = -1 ∨ S 6 d.toNat < S 6 n.toNat) then w' else w) := by
  by_cases q : n = -1
  · rw [if_neg (by omega), if_neg (by omega)]
    have e : (fun rw stp bas => if n = -1 then O rw stp bas else ofr (O rw stp bas) (S 6 n.toNat) (grdS S rw stp bas i + S 7 n.toNat * stp) w' n) = O := by funext rw stp bas; rw [if_pos q]
    rw [e]; exact h
  · have hv := ((hS.2.2.2.2.2 n.toNat (by omega)).2.2.1 (by omega)).1
    have e : (fun rw stp bas => if n = -1 then O rw stp bas else ofr (O rw stp bas) (S 6 n.toNat) (grdS S rw stp bas i + S 7 n.toNat * stp) w' n) = (fun rw stp bas => ofr (O rw stp bas) (S 6 n.toNat) (grdS S rw stp bas i + S 7 n.toNat * stp) w' n) := by funext rw stp bas; rw [if_neg q]
    rw [e]
    by_cases q2 : d = -1 ∨ S 6 d.toNat < S 6 n.toNat
    · rw [if_pos ⟨q, q2⟩, if_pos ⟨q, q2⟩]
      refine Or.inr (Or.inr ⟨hw, by omega, fun rw stp bas => ?_⟩)
      show ofr (O rw stp bas) (S 6 n.toNat) (grdS S rw stp bas i + S 7 n.toNat * stp) w' n = _
      unfold ofr
      rw [if_pos]
      rcases h with h | h | h
      · rw [h.2]; simp only []; omega
      · have hd := DcP.d (Or.inr (Or.inl h))
        have := (ldF_ok (S := S) (i := i)).2.2
        have h2 := opn_rng S (ldF S i).2.toNat
        rw [h.2.2.2]; simp only []; rcases q2 with z | z
        · have := h.2.1; have := h.2.2.1; omega
        · exact z
      · rw [h.2.2]; simp only []; rcases q2 with z | z
        · have := h.2.1; omega
        · exact z
    · rw [if_neg (fun z => q2 z.2), if_neg (fun z => q2 z.2)]
      rcases h with h | h | h
      · exact absurd (Or.inl h.1) q2
      · refine Or.inr (Or.inl ⟨h.1, h.2.1, h.2.2.1, fun rw stp bas => ?_⟩)
        show ofr (O rw stp bas) (S 6 n.toNat) (grdS S rw stp bas i + S 7 n.toNat * stp) w' n = _
        unfold ofr
        rw [h.2.2.2, if_neg (fun z => q2 (Or.inr z))]
      · refine Or.inr (Or.inr ⟨h.1, h.2.1, fun rw stp bas => ?_⟩)
        show ofr (O rw stp bas) (S 6 n.toNat) (grdS S rw stp bas i + S 7 n.toNat * stp) w' n = _
        unfold ofr
        rw [h.2.2, if_neg (fun z => q2 (Or.inr z))]
theorem cin_gr (hS : SV S) {u : Nat} (hu : u < fsS S (nS S)) (ho : opn S u ≠ -1) {rw : Nat → Int} (hr : ∀ j, j < nS S → 0 ≤ rw j ∧ rw j ≤ 40) (stp bas : Int) : grC rw stp bas (tq S u).1 (ofS S u) (spS S u) = cinS S rw stp u := by
  have h := of_rng hS hu ho
  have hk := tq_ok hS hu
  unfold grC cinS
  rw [if_neg (by omega), show (((tq S u).1 : Nat) : Int).toNat = (tq S u).1 by omega]
  by_cases q : algS S u
  · have := h.2.2.2.2.1 q
    rw [cif_pos q, if_neg (by omega), this.2.2]
  · have := h.2.2.2.2.2 q
    rw [cif_neg q, this.1, this.2]
    unfold m40
    have h7 : 0 ≤ S 7 (opn S u).toNat := by omega
    have := hr _ hk.1
    by_cases z : 0 < S 7 (opn S u).toNat
    · rw [if_pos z]
      split <;> split <;> omega
    · rw [if_neg z, show S 7 (opn S u).toNat = 0 by omega, Int.zero_mul, if_neg (by omega)]
theorem pla_ground (hX : PX S σ) (hi : i < nS S) {b : Int} (hb : b = -1 ∨ (0 ≤ b ∧ b.toNat < fsS S (nS S) ∧ 0 ≤ opn S b.toNat)) : Ex (Pla_standOnGround i b σ) (fun _ σ' => Fr (FP i) σ σ' ∧ (b = -1 → σ' 329 i = 0 ∧ σ' 331 i = -1 ∧ σ' 333 i = -1) ∧ (b ≠ -1 → σ' 329 i = cif (algS S b.toNat) 2 1 ∧ σ' 331 i = opn S b.toNat ∧ σ' 333 i = (tq S b.toNat).1 ∧ σ' 335 i = ofS S b.toNat ∧ σ' 337 i = spS S b.toNat) ∧ σ' 339 i = 0) := by
  have hS := hX.1
  have hfs := fsS_le hS (nS S) (Nat.le_refl _)
  have hN := hS.n
  have hF : ∀ o, (o = 329 ∨ o = 331 ∨ o = 333 ∨ o = 335 ∨ o = 337 ∨ o = 339) → FP i o i := fun o h => ⟨h, rfl⟩
  unfold Pla_standOnGround
  rw [rs_338 (by omega) (by omega)]
  simp only [Option.bind_some]
  rw [show ((i : Int)).toNat = i by omega]
  by_cases q : b = -1
  · rw [q, show wr (-1) = -1 from by decide, if_pos rfl, rs_328 (by omega) (by omega)]
    simp only [Option.bind_some]
    rw [rs_330 (by omega) (by omega)]
    simp only [Option.bind_some]
    rw [rs_332 (by omega) (by omega)]
    simp only [Option.bind_some]
    rw [show ((i : Int)).toNat = i by omega]
    exact Ex.ret ⟨Fr.up (Fr.up (Fr.up (Fr.up Fr.rf (hF _ (by omega))) (hF _ (by omega))) (hF _ (by omega))) (hF _ (by omega)), fun _ => ⟨by simp [upM], by simp [upM], by simp [upM]⟩, fun z => absurd rfl z, by simp [upM]⟩
  · obtain ⟨u, rfl⟩ : ∃ z : Nat, b = (z : Int) := ⟨b.toNat, by omega⟩
    have hu : u < fsS S (nS S) := by omega
    have ho : opn S u ≠ -1 := by have : ((u : Int)).toNat = u := by omega
                                 rw [this] at hb; omega
    obtain ⟨b1, b2, b3, b4⟩ := bc_at hX hu
    obtain ⟨b4, b5, b6⟩ := b4 ho
    have ht := tk_arr hX.2.2.2.2.1 hu
    have hof := of_rng hS hu ho
    rw [wr_id (n := (u : Int)) (by omega) (by omega), if_neg q, rg_317 (by omega) (by omega)]
    simp only [Option.bind_some]
    rw [show ((u : Int)).toNat = u by omega]
    have e318 : upM σ 339 i 0 318 u = ofS S u := by simp [upM, b5]
    rw [e318, wr_id (n := ofS S u) (by omega) (by omega)]
    have key : ∀ w : Int, Ex (Pla_standOnGround_64 i u w i (upM σ 339 i 0)) (fun _ σ' => Fr (FP i) σ σ' ∧ σ' 329 i = w ∧ σ' 331 i = opn S u ∧ σ' 333 i = (tq S u).1 ∧ σ' 335 i = ofS S u ∧ σ' 337 i = spS S u ∧ σ' 339 i = 0) := by
      intro w
      unfold Pla_standOnGround_64
      rw [rs_328 (by omega) (by omega)]
      simp only [Option.bind_some]
      rw [rg_309 (by omega) (by omega)]
      simp only [Option.bind_some]
      rw [rs_330 (by omega) (by omega)]
      simp only [Option.bind_some]
      rw [rg_290 (by omega) (by omega)]
      simp only [Option.bind_some]
      rw [rs_332 (by omega) (by omega)]
      simp only [Option.bind_some]
      rw [rg_317 (by omega) (by omega)]
      simp only [Option.bind_some]
      rw [rs_334 (by omega) (by omega)]
      simp only [Option.bind_some]
      rw [rg_319 (by omega) (by omega)]
      simp only [Option.bind_some]
      rw [rs_336 (by omega) (by omega)]
      simp only [Option.bind_some]
      rw [show ((i : Int)).toNat = i by omega, show ((u : Int)).toNat = u by omega]
      exact Ex.ret ⟨Fr.up (Fr.up (Fr.up (Fr.up (Fr.up (Fr.up Fr.rf (hF _ (by omega))) (hF _ (by omega))) (hF _ (by omega))) (hF _ (by omega))) (hF _ (by omega))) (hF _ (by omega)), by simp [upM], by simp [upM, b1], by simp [upM, ht.1], by simp [upM, b5], by simp [upM, b6], by simp [upM]⟩
    have fin : ∀ w : Int, cif (algS S u) 2 1 = w → Ex (Pla_standOnGround_64 i u w i (upM σ 339 i 0)) (fun _ σ' => Fr (FP i) σ σ' ∧ ((u : Int) = -1 → σ' 329 i = 0 ∧ σ' 331 i = -1 ∧ σ' 333 i = -1) ∧ ((u : Int) ≠ -1 → σ' 329 i = cif (algS S u) 2 1 ∧ σ' 331 i = opn S u ∧ σ' 333 i = (tq S u).1 ∧ σ' 335 i = ofS S u ∧ σ' 337 i = spS S u) ∧ σ' 339 i = 0) := by
      intro w hw
      refine (key w).mono (fun _ ρ z => ⟨z.1, fun y => absurd y q, fun _ => ⟨by rw [z.2.1, hw], z.2.2.1, z.2.2.2.1, z.2.2.2.2.1, z.2.2.2.2.2.1⟩, z.2.2.2.2.2.2⟩)
    refine Ex.ite (fun z => ?_) (fun z => ?_)
    · refine fin 2 (cif_pos (p := algS S u) ?_)
      refine Classical.byContradiction (fun y => ?_)
      have := hof.2.2.2.2.2 y
      omega
    · refine fin 1 (cif_neg (p := algS S u) ?_)
      intro y
      have := hof.2.2.2.2.1 y
      omega
theorem o4_eq {rw : Nat → Int} {stp bas : Int} : o4S S rw stp bas i = ofr (o3S S rw stp bas i) (-1) (grdS S rw stp bas i) (wy0 S i) (by0 S i) := rfl
theorem pla_201 (hX : PX S σ) (hi : i < nS S) {d w : Int} (h : DcP S i (fun rw stp bas => o3S S rw stp bas i) d w) (hw : d = -1 ∨ w ≠ 3) : Ex (Pla_decide_201 i (ldF S i).2 d w σ) (fun _ σ' => Fr (FP i) σ σ' ∧ PlR S i σ') := by
  have hS := hX.1
  have hfs := fsS_le hS (nS S) (Nat.le_refl _)
  have hmo := fsS_mono S (show i ≤ nS S by omega)
  have hN := hS.n
  have hl := ldF_ok (S := S) (i := i)
  have hNt := hX.2.2.2.2.2.2.2 i (by omega)
  have hsk := sk_le S i
  have hbk := blkS_ok (S := S) (i := i)
  have hd := h.d
  have key : Ex (Pla_decide_229 i d w ((ldF S i).1 : Nat) σ) (fun _ σ' => Fr (FP i) σ σ' ∧ PlR S i σ') := by
    unfold Pla_decide_229
    have hob : Blk_openBefore i (((ldF S i).1 : Nat) - 1) σ = some (blkS S i, σ) := by
      unfold Blk_openBefore blkS
      rw [wr_id (n := (((ldF S i).1 : Nat) : Int) - 1) (by omega) (by omega)]
      by_cases q : (ldF S i).1 = 0
      · rw [if_pos (by omega), if_pos q]
      · rw [if_neg (by omega), if_neg q, rg_321 (by omega) (by omega)]
        simp only [Option.bind_some]
        rw [show ((i : Int)).toNat = i by omega, hNt.1, wr_id (n := (((skS S i).length : Nat) : Int)) (by omega) (by omega), if_pos (by omega), rg_323 (by omega) (by omega)]
        simp only [Option.bind_some]
        rw [show ((i : Int) * 12 + ((((ldF S i).1 : Nat) : Int) - 1)).toNat = 12 * i + ((ldF S i).1 - 1) by omega, hNt.2 _ (by omega)]
    rw [hob]
    simp only [Option.bind_some]
    refine Ex.bnd ((pla_ground hX hi (b := blkS S i) (by omega)).mono (fun _ σ1 z => ?_))
    obtain ⟨hF, g1, g2, g3⟩ := z
    have hX1 := PX_Fr hF (fun o k q => by unfold FP at q; omega) hX
    have gr : ∀ (rw : Nat → Int) (stp bas : Int), (∀ j, j < nS S → 0 ≤ rw j ∧ rw j ≤ 40) → grC rw stp bas (σ1 333 i) (σ1 335 i) (σ1 337 i) = grdS S rw stp bas i := by
      intro rw stp bas hr
      unfold grdS
      by_cases q : blkS S i = -1
      · rw [if_pos q, (g1 q).2.2]; unfold grC; rw [if_pos rfl]
      · rw [if_neg q, (g2 q).2.2.1, (g2 q).2.2.2.1, (g2 q).2.2.2.2]
        exact cin_gr hS (by omega) (by omega) hr stp bas
    have an : (σ1 333 i = -1 ∨ (0 ≤ σ1 333 i ∧ σ1 333 i < nS S)) ∧ (σ1 333 i ≠ -1 → 0 ≤ σ1 335 i ∧ σ1 335 i ≤ 32 ∧ 0 ≤ σ1 337 i ∧ σ1 337 i ≤ 4) := by
      by_cases q : blkS S i = -1
      · have := (g1 q).2.2; exact ⟨Or.inl this, fun z => absurd this z⟩
      · have hu : (blkS S i).toNat < fsS S (nS S) := by omega
        have hk := tq_ok hS hu
        have hof := of_rng hS hu (by omega)
        rw [(g2 q).2.2.1, (g2 q).2.2.2.1, (g2 q).2.2.2.2]
        exact ⟨Or.inr ⟨by omega, by omega⟩, fun _ => ⟨hof.1, hof.2.1, hof.2.2.1, hof.2.2.2.1⟩⟩
    unfold Pla_addSteps
    by_cases q : d = -1
    · rw [q, show wr (-1) = -1 from by decide, if_pos rfl]
      refine Ex.bnd (Ex.ret (Ex.ret ⟨hF, an.1, an.2, ?_, ?_, ?_, fun rw stp bas hr => ?_⟩))
      · show -4 ≤ σ1 339 i ∧ σ1 339 i ≤ 4
        rw [g3]; decide
      · show 0 ≤ σ1 329 i ∧ σ1 329 i ≤ 5
        by_cases q : blkS S i = -1
        · rw [(g1 q).1]; decide
        · rw [(g2 q).1]
          by_cases y : algS S (blkS S i).toNat
          · rw [cif_pos y]; decide
          · rw [cif_neg y]; decide
      · show -1 ≤ σ1 331 i ∧ σ1 331 i < 12
        by_cases q : blkS S i = -1
        · rw [(g1 q).2.1]; decide
        · rw [(g2 q).2.1]; have := opn_rng S (blkS S i).toNat; omega
      · have e3 : o3S S rw stp bas i = (-2, 0, 0, -1) := by
          rcases h with h | h | h
          · exact h.2 rw stp bas
          · omega
          · omega
        have e4 : o4S S rw stp bas i = (-1, grdS S rw stp bas i, wy0 S i, by0 S i) := by
          rw [o4_eq, e3]; unfold ofr; rw [if_pos (by decide)]
        show σ1 329 i = _ ∧ σ1 331 i = _ ∧ _ = grC rw stp bas (σ1 333 i) (σ1 335 i) (σ1 337 i) + σ1 339 i * stp
        rw [e4, gr rw stp bas hr, g3]
        refine ⟨?_, ?_, by simp⟩
        · show _ = wy0 S i
          unfold wy0
          by_cases q : blkS S i = -1
          · rw [(g1 q).1, if_pos q]
          · rw [(g2 q).1, if_neg q]
        · show _ = by0 S i
          unfold by0
          by_cases q : blkS S i = -1
          · rw [(g1 q).2.1, if_pos q]
          · rw [(g2 q).2.1, if_neg q]
    · have hv := (hS.2.2.2.2.2 d.toNat (by omega)).2.2.1 (by omega)
      have e17 : σ1 17 d.toNat = S 7 d.toNat := by
        have := aC_sp (σ := σ1) (r := d.toNat) (by omega) (by rw [hX1.2.2.1]; omega)
        rw [hX1.2.2.1] at this; exact this.symm
      rcases h with h | h | h
      · exact absurd h.1 q
      · rcases hw with y | y
        · exact absurd y q
        · exact absurd h.1 y
      · rw [wr_id (n := d) (by omega) (by omega), if_neg q, rs_328 (by omega) (by omega)]
        simp only [Option.bind_some]
        rw [rs_330 (by omega) (by omega)]
        simp only [Option.bind_some]
        rw [rg_16 (by omega) (by omega)]
        simp only [Option.bind_some]
        rw [rs_338 (by omega) (by omega)]
        simp only [Option.bind_some]
        rw [show ((i : Int)).toNat = i by omega]
        have hFF : ∀ o, (o = 329 ∨ o = 331 ∨ o = 333 ∨ o = 335 ∨ o = 337 ∨ o = 339) → FP i o i := fun o h => ⟨h, rfl⟩
        have es : upM (upM σ1 329 i w) 331 i d 17 d.toNat = S 7 d.toNat := by simp [upM, e17]
        rw [es]
        refine Ex.ret ⟨Fr.up (Fr.up (Fr.up hF (hFF _ (by omega))) (hFF _ (by omega))) (hFF _ (by omega)), ?_⟩
        unfold PlR
        have f1 : upM (upM (upM σ1 329 i w) 331 i d) 339 i (S 7 d.toNat) 329 i = w := by simp [upM]
        have f2 : upM (upM (upM σ1 329 i w) 331 i d) 339 i (S 7 d.toNat) 331 i = d := by simp [upM]
        have f3 : upM (upM (upM σ1 329 i w) 331 i d) 339 i (S 7 d.toNat) 339 i = S 7 d.toNat := by simp [upM]
        have f4 : ∀ o, o = 333 ∨ o = 335 ∨ o = 337 → upM (upM (upM σ1 329 i w) 331 i d) 339 i (S 7 d.toNat) o i = σ1 o i := fun o ho => by simp only [upM]; rw [if_neg (by omega), if_neg (by omega), if_neg (by omega)]
        rw [f1, f2, f3, f4 333 (by omega), f4 335 (by omega), f4 337 (by omega)]
        refine ⟨an.1, an.2, hv.2.1, by omega, by omega, fun rw stp bas hr => ?_⟩
        have e3 := h.2.2 rw stp bas
        have e4 : o4S S rw stp bas i = (S 6 d.toNat, grdS S rw stp bas i + S 7 d.toNat * stp, w, d) := by
          rw [o4_eq]
          have e3' : o3S S rw stp bas i = (S 6 d.toNat, grdS S rw stp bas i + S 7 d.toNat * stp, w, d) := e3
          rw [e3']; unfold ofr; rw [if_neg (by simp only []; omega)]
        rw [e4, gr rw stp bas hr]
        exact ⟨rfl, rfl, rfl⟩
  unfold Pla_decide_201
  by_cases q : (ldF S i).2 = -1
  · rw [q, show wr (-1) = -1 from by decide, if_pos rfl, rg_321 (by omega) (by omega)]
    simp only [Option.bind_some]
    rw [show ((i : Int)).toNat = i by omega, hNt.1, ← hl.2.1 q]
    exact key
  · obtain ⟨-, -, -, b4⟩ := bc_at hX (u := (ldF S i).2.toNat) (by omega)
    have b5 := (b4 (by omega)).1
    rw [wr_id (n := (ldF S i).2) (by omega) (by omega), if_neg q, rg_315 (by omega) (by omega)]
    simp only [Option.bind_some]
    rw [b5, ← show (ldF S i).1 = lvS S (ldF S i).2.toNat by omega]
    exact key
end PD
