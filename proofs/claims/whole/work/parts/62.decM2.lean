/-! ===== the reference decides about a line: the chain ===== -/
theorem mul_rng {a b : Int} (ha : -4 ≤ a ∧ a ≤ 4) (hb : 1 ≤ b ∧ b ≤ 8) : -32 ≤ a * b ∧ a * b ≤ 32 := by
  have : a = -4 ∨ a = -3 ∨ a = -2 ∨ a = -1 ∨ a = 0 ∨ a = 1 ∨ a = 2 ∨ a = 3 ∨ a = 4 := by omega
  rcases this with e | e | e | e | e | e | e | e | e <;> rw [e] <;> omega
section DC2
variable {S τ : Mem} {stp bas : Int} {i : Nat}
theorem grd_rng (hD : DM S τ stp bas) (hi : i < nS S) : 0 ≤ grdS S (τ 16) stp bas i ∧ grdS S (τ 16) stp bas i ≤ 80 := by
  unfold grdS
  have hm := fsS_mono S (show i ≤ nS S by omega)
  by_cases q : blkS S i = -1
  · rw [if_pos q]; have := hD.2.2.2.2.2.2; omega
  · rw [if_neg q]
    have hb := blkS_ok (S := S) (i := i)
    have hb2 : 0 ≤ blkS S i ∧ (blkS S i).toNat < fsS S i ∧ 0 ≤ opn S (blkS S i).toNat := by omega
    exact (md_columnIn hD (u := (blkS S i).toNat) (by omega) hb2.2.2).2
theorem cc_rng (hD : DM S τ stp bas) {c : Nat} (hc : c < fsS S (nS S)) (ho : 0 ≤ opn S c) : 0 ≤ ccS S (τ 16) stp c ∧ ccS S (τ 16) stp c ≤ 80 := by
  have hk := tq_ok hD.1 hc
  have hl := hD.1.len hk.1
  have hr := hD.2.2.2.2.1 _ hk.1
  have h3 := (md_columnIn hD hc ho).2
  unfold ccS
  split
  · omega
  · split <;> omega
theorem br_pr {S : Mem} (hS : SV S) {sort : Int} {T : Nat} (hs : 1 ≤ sort ∧ sort ≤ 3) (h : brS S sort T 12 ≠ -1) : 0 ≤ brS S sort T 12 ∧ brS S sort T 12 < 12 ∧ (0 ≤ S 6 (brS S sort T 12).toNat ∧ S 6 (brS S sort T 12).toNat ≤ 9) ∧ (-4 ≤ S 7 (brS S sort T 12).toNat ∧ S 7 (brS S sort T 12).toNat ≤ 4) ∧ S 5 (brS S sort T 12).toNat = sort := by
  have hr := brS_rng S sort T 12
  have h2 : 0 ≤ brS S sort T 12 ∧ brS S sort T 12 < 12 ∧ S 5 (brS S sort T 12).toNat = sort := by omega
  have h3 := (hS.2.2.2.2.2 (brS S sort T 12).toNat (by omega)).2.2.1 (by omega)
  exact ⟨h2.1, h2.2.1, h3.1, h3.2.1, h2.2.2⟩
theorem o1_rng (hD : DM S τ stp bas) (hi : i < nS S) : (-2 ≤ (o1S S (τ 16) stp i).1 ∧ (o1S S (τ 16) stp i).1 ≤ 9) ∧ 0 ≤ (o1S S (τ 16) stp i).2.1 ∧ (o1S S (τ 16) stp i).2.1 ≤ 80 := by
  have hm := fsS_mono S (show i ≤ nS S by omega)
  unfold o1S
  by_cases q : (ldF S i).2 = -1
  · rw [if_pos q]; simp
  · rw [if_neg q]
    have hl := (ldF_ok (S := S) (i := i)).2.2
    have hl2 : 0 ≤ (ldF S i).2 ∧ (ldF S i).2.toNat < fsS S i ∧ 0 ≤ opn S (ldF S i).2.toNat := by omega
    have hop := opn_rng S (ldF S i).2.toNat
    have hp := hD.1.prec (r := (opn S (ldF S i).2.toNat).toNat) (by omega) (by omega)
    have hcc := cc_rng hD (c := (ldF S i).2.toNat) (by omega) hl2.2.2
    unfold ofr
    rw [if_pos (by simp only []; omega)]
    simp only []
    omega
theorem st_ok (hS : SV S) (h : stS S i ≠ -1) : 0 ≤ stS S i ∧ stS S i < 12 ∧ (0 ≤ S 6 (stS S i).toNat ∧ S 6 (stS S i).toNat ≤ 9) ∧ (-4 ≤ S 7 (stS S i).toNat ∧ S 7 (stS S i).toNat ≤ 4) ∧ S 5 (stS S i).toNat = 2 := by
  unfold stS at *
  by_cases q : fsS S i < fsS S (i + 1)
  · rw [if_pos q] at h ⊢; exact br_pr hS (by omega) h
  · rw [if_neg q] at h; exact absurd rfl h
theorem jn_ok (hS : SV S) (h : jnS S i ≠ -1) : 0 ≤ jnS S i ∧ jnS S i < 12 ∧ (0 ≤ S 6 (jnS S i).toNat ∧ S 6 (jnS S i).toNat ≤ 9) ∧ (-4 ≤ S 7 (jnS S i).toNat ∧ S 7 (jnS S i).toNat ≤ 4) ∧ S 5 (jnS S i).toNat = 3 := by
  unfold jnS at *
  by_cases q : fsS S i < fsS S (i + 1) ∧ 0 < fsS S i ∧ opn S (fsS S i - 1) = -1
  · rw [if_pos q] at h ⊢; exact br_pr hS (by omega) h
  · rw [if_neg q] at h; exact absurd rfl h
theorem ofr_rng {s : Int × Int × Int × Int} {p a w r : Int} (h1 : -2 ≤ s.1 ∧ s.1 ≤ 9) (h2 : -1000 ≤ s.2.1 ∧ s.2.1 ≤ 1000) (hp : -1 ≤ p ∧ p ≤ 9) (ha : -1000 ≤ a ∧ a ≤ 1000) : (-2 ≤ (ofr s p a w r).1 ∧ (ofr s p a w r).1 ≤ 9) ∧ -1000 ≤ (ofr s p a w r).2.1 ∧ (ofr s p a w r).2.1 ≤ 1000 := by
  unfold ofr
  split
  · simp only []; omega
  · omega
theorem o2_rng (hD : DM S τ stp bas) (hi : i < nS S) : (-2 ≤ (o2S S (τ 16) stp bas i).1 ∧ (o2S S (τ 16) stp bas i).1 ≤ 9) ∧ -1000 ≤ (o2S S (τ 16) stp bas i).2.1 ∧ (o2S S (τ 16) stp bas i).2.1 ≤ 1000 := by
  have h1 := o1_rng hD hi
  have hg := grd_rng hD hi
  unfold o2S
  by_cases q : stS S i = -1
  · rw [if_pos q]; omega
  · rw [if_neg q]
    have := st_ok hD.1 q
    have hm := mul_rng this.2.2.2.1 hD.2.2.2.2.2.1.2
    exact ofr_rng h1.1 (by omega) (by omega) (by omega)
theorem o3_rng (hD : DM S τ stp bas) (hi : i < nS S) : (-2 ≤ (o3S S (τ 16) stp bas i).1 ∧ (o3S S (τ 16) stp bas i).1 ≤ 9) ∧ -1000 ≤ (o3S S (τ 16) stp bas i).2.1 ∧ (o3S S (τ 16) stp bas i).2.1 ≤ 1000 := by
  have h1 := o2_rng hD hi
  have hg := grd_rng hD hi
  unfold o3S
  by_cases q : jnS S i = -1
  · rw [if_pos q]; omega
  · rw [if_neg q]
    have := jn_ok hD.1 q
    have hm := mul_rng this.2.2.2.1 hD.2.2.2.2.2.1.2
    exact ofr_rng h1.1 h1.2 (by omega) (by omega)
def DP (S : Mem) (rw : Nat → Int) (stp bas : Int) (i : Nat) (τ τ' : Mem) : Prop := Fr FD τ τ' ∧ τ' 0 24 = wanS S rw stp bas i ∧ τ' 0 25 = (o4S S rw stp bas i).2.2.1 ∧ τ' 0 26 = e9 (o4S S rw stp bas i).2.2.2
theorem DP_tr {rw : Nat → Int} {τ1 τ2 : Mem} (h : Fr FD τ τ1) (h2 : DP S rw stp bas i τ1 τ2) : DP S rw stp bas i τ τ2 := ⟨h.tr h2.1, h2.2⟩
theorem md_decides_416 {rw : Nat → Int} (hD : DM S τ stp bas) (h16 : τ 16 = rw) (hi : i < nS S) (hO : OS τ (o3S S rw stp bas i)) : Ex (Md_decides_416 (e9 (blkS S i)) (grdS S rw stp bas i) τ) (fun _ τ' => DP S rw stp bas i τ τ') := by
  subst h16
  have hN := hD.1.n
  have hfs := fsS_le hD.1 (nS S) (Nat.le_refl _)
  have hm := fsS_mono S (show i ≤ nS S by omega)
  have h3 := o3_rng hD hi
  have hg := grd_rng hD hi
  have hb := blkS_ok (S := S) (i := i)
  unfold Md_decides_416
  by_cases q : blkS S i = -1
  · rw [q, e9_m1, show wr (-9) = -9 from by decide, if_pos rfl]
    unfold Md_decides_445
    rw [show wr (-9) = -9 from by decide, if_pos rfl]
    have hw : wy0 S i = 0 := by unfold wy0; rw [if_pos q]
    have hb0 : by0 S i = -1 := by unfold by0; rw [if_pos q]
    have := md_decides_464 hO (g := grdS S (τ 16) stp bas i) (w := 0) (r := -1) (r' := -9) rfl (ofr_rng h3.1 h3.2 (by omega) (by omega)).2
    refine this.mono (fun _ ρ z => ⟨z.1, ?_, ?_, ?_⟩)
    · unfold wanS o4S; rw [hw, hb0]; exact z.2.1
    · unfold o4S; rw [hw, hb0]; exact z.2.2.1
    · unfold o4S; rw [hw, hb0]; exact z.2.2.2
  · have hb2 : 0 ≤ blkS S i ∧ (blkS S i).toNat < fsS S i ∧ 0 ≤ opn S (blkS S i).toNat := by omega
    have e : e9 (blkS S i) = (((blkS S i).toNat : Nat) : Int) := by rw [e9_id hb2.1]; omega
    have hal := md_isAligned hD (u := (blkS S i).toNat) (by omega) hb2.2.2
    have e8 := (bk_op hD.2.2.2.1 (u := (blkS S i).toNat) (by omega)).1
    rw [e, wr_id (n := (((blkS S i).toNat : Nat) : Int)) (by omega) (by omega), if_neg (by omega), hal]
    simp only [Option.bind_some]
    have fin : ∀ w, w = wy0 S i → Ex (Md_decides_445 (((blkS S i).toNat : Nat) : Int) w (grdS S (τ 16) stp bas i) (-1) τ) (fun _ τ' => DP S (τ 16) stp bas i τ τ') := by
      intro w hw
      subst hw
      unfold Md_decides_445
      rw [wr_id (n := (((blkS S i).toNat : Nat) : Int)) (by omega) (by omega), if_neg (by omega), if_pos (by omega), show ((((blkS S i).toNat : Nat) : Int)).toNat = (blkS S i).toNat by omega, e8]
      have hb0 : by0 S i = opn S (blkS S i).toNat := by unfold by0; rw [if_neg q]
      have := md_decides_464 hO (g := grdS S (τ 16) stp bas i) (w := wy0 S i) (r := opn S (blkS S i).toNat) (r' := e9 (opn S (blkS S i).toNat)) rfl (ofr_rng h3.1 h3.2 (by omega) (by omega)).2
      refine this.mono (fun _ ρ z => ⟨z.1, ?_, ?_, ?_⟩)
      · unfold wanS o4S; rw [hb0]; exact z.2.1
      · unfold o4S; rw [hb0]; exact z.2.2.1
      · unfold o4S; rw [hb0]; exact z.2.2.2
    by_cases qa : algS S (blkS S i).toNat
    · rw [cif_pos qa, wr_1, if_neg (by decide)]
      exact fin 2 (by unfold wy0; rw [if_neg q, cif_pos qa])
    · rw [cif_neg qa, wr_0, if_pos rfl]
      exact fin 1 (by unfold wy0; rw [if_neg q, cif_neg qa])
theorem md_pr (hD : DM S τ stp bas) {r : Int} (h0 : 0 ≤ r) (h1 : r < 12) (hs : S 5 r.toNat ≠ 0) : Md_ruleAt r 1 τ = some (S 6 r.toNat, τ) ∧ Md_ruleAt r 2 τ = some (S 7 r.toNat, τ) := by
  refine ⟨md_prec hD.1 hD.2.1 h0 h1 hs, ?_⟩
  have := md_ra2 (τ := τ) (r := r.toNat) (by omega)
  rw [show ((r.toNat : Nat) : Int) = r by omega] at this
  rw [this]
  have e := aM_sp (τ := τ) (r := r.toNat) (by omega) (by rw [hD.2.1]; exact hs)
  rw [hD.2.1] at e
  rw [e, show 703 + 23 * r.toNat = 701 + 23 * r.toNat + 2 by omega]
theorem FD16 {τ' : Mem} (h : Fr FD τ τ') : τ' 16 = τ 16 := by funext k; exact h 16 k (by unfold FD; omega)
theorem md_decides_378 {rw : Nat → Int} (hD : DM S τ stp bas) (h16 : τ 16 = rw) (hi : i < nS S) (hO : OS τ (o2S S rw stp bas i)) : Ex (Md_decides_378 (e9 (blkS S i)) (grdS S rw stp bas i) (e9 (jnS S i)) τ) (fun _ τ' => DP S rw stp bas i τ τ') := by
  unfold Md_decides_378
  by_cases q : jnS S i = -1
  · rw [q, e9_m1, show wr (-9) = -9 from by decide, if_pos rfl]
    exact md_decides_416 hD h16 hi (by unfold o3S; rw [if_pos q]; exact hO)
  · have hj := jn_ok hD.1 q
    have hp := md_pr hD hj.1 hj.2.1 (by omega)
    rw [e9_id hj.1, wr_id (n := jnS S i) (by omega) (by omega), if_neg (by omega), hp.1]
    simp only [Option.bind_some]
    rw [hp.2]
    simp only [Option.bind_some]
    rw [hD.2.2.2.2.2.1.1]
    have := md_offers hO (p := S 6 (jnS S i).toNat) (a := grdS S rw stp bas i + S 7 (jnS S i).toNat * stp) (w := 5) (r := jnS S i) (r' := jnS S i) (by omega) (e9_id hj.1).symm
    refine Ex.bnd (this.mono (fun _ τ1 z => ?_))
    have := md_decides_416 (rw := rw) (DM_Fr z.1 hD) ((FD16 z.1).trans h16) hi (by unfold o3S; rw [if_neg q]; exact z.2)
    exact this.mono (fun _ ρ y => DP_tr z.1 y)
theorem md_decides_340 {rw : Nat → Int} (hD : DM S τ stp bas) (h16 : τ 16 = rw) (hi : i < nS S) (hO : OS τ (o2S S rw stp bas i)) {h : Int} (hh : (h = 0 ∧ ¬ fsS S i < fsS S (i + 1)) ∨ (h = 1 ∧ fsS S i < fsS S (i + 1))) : Ex (Md_decides_340 (e9 (blkS S i)) (grdS S rw stp bas i) (fsS S i : Nat) h τ) (fun _ τ' => DP S rw stp bas i τ τ') := by
  have hN := hD.1.n
  have hfs := fsS_le hD.1 (nS S) (Nat.le_refl _)
  have hm := fsS_mono S (show i ≤ nS S by omega)
  have hm1 := fsS_mono S (show i + 1 ≤ nS S by omega)
  have base := md_decides_378 hD h16 hi hO
  have none : jnS S i = -1 → Ex (Md_decides_378 (e9 (blkS S i)) (grdS S rw stp bas i) (-9) τ) (fun _ τ' => DP S rw stp bas i τ τ') := by
    intro q
    rw [q, e9_m1] at base
    exact base
  unfold Md_decides_340
  rcases hh with ⟨rfl, hz⟩ | ⟨rfl, hz⟩
  · rw [wr_0, if_pos rfl]
    exact none (by unfold jnS; rw [if_neg (fun z => hz z.1)])
  · rw [wr_1, if_neg (by decide), wr_id (n := ((fsS S i : Nat) : Int)) (by omega) (by omega)]
    by_cases q0 : 0 < fsS S i
    · rw [if_pos (by omega), if_pos (inb (by omega) (by omega) (by omega)), wrn (n := fsS S i - 1) (by omega) (by omega), (bk_op hD.2.2.2.1 (u := fsS S i - 1) (by omega)).1]
      have hop := opn_rng S (fsS S i - 1)
      by_cases q1 : opn S (fsS S i - 1) = -1
      · have ej : jnS S i = brS S 3 (fsS S i - 1) 12 := by unfold jnS; rw [if_pos ⟨hz, q0, q1⟩]
        rw [q1, e9_m1, show wr (-9) = -9 from by decide, if_pos rfl, show ((fsS S i : Nat) : Int) - 1 = ((fsS S i - 1 : Nat) : Int) by omega, md_ruleFor hD.1 hD.2.1 hD.2.2.1 (by omega) (by omega)]
        simp only [Option.bind_some]
        rw [← ej]
        exact base
      · rw [e9_id (by omega), wr_id (n := opn S (fsS S i - 1)) (by omega) (by omega), if_neg (by omega)]
        exact none (by unfold jnS; rw [if_neg (fun z => q1 z.2.2)])
    · rw [if_neg (by omega)]
      exact none (by unfold jnS; rw [if_neg (fun z => q0 z.2.1)])
theorem md_decides_302 {rw : Nat → Int} (hD : DM S τ stp bas) (h16 : τ 16 = rw) (hi : i < nS S) (hO : OS τ (o1S S rw stp i)) {h : Int} (hh : (h = 0 ∧ ¬ fsS S i < fsS S (i + 1)) ∨ (h = 1 ∧ fsS S i < fsS S (i + 1))) : Ex (Md_decides_302 (e9 (blkS S i)) (grdS S rw stp bas i) (fsS S i : Nat) h (e9 (stS S i)) τ) (fun _ τ' => DP S rw stp bas i τ τ') := by
  unfold Md_decides_302
  by_cases q : stS S i = -1
  · rw [q, e9_m1, show wr (-9) = -9 from by decide, if_pos rfl]
    exact md_decides_340 hD h16 hi (by unfold o2S; rw [if_pos q]; exact hO) hh
  · have hj := st_ok hD.1 q
    have hp := md_pr hD hj.1 hj.2.1 (by omega)
    rw [e9_id hj.1, wr_id (n := stS S i) (by omega) (by omega), if_neg (by omega), hp.1]
    simp only [Option.bind_some]
    rw [hp.2]
    simp only [Option.bind_some]
    rw [hD.2.2.2.2.2.1.1]
    have := md_offers hO (p := S 6 (stS S i).toNat) (a := grdS S rw stp bas i + S 7 (stS S i).toNat * stp) (w := 4) (r := stS S i) (r' := stS S i) (by omega) (e9_id hj.1).symm
    refine Ex.bnd (this.mono (fun _ τ1 z => ?_))
    have := md_decides_340 (rw := rw) (DM_Fr z.1 hD) ((FD16 z.1).trans h16) hi (by unfold o2S; rw [if_neg q]; exact z.2) hh
    exact this.mono (fun _ ρ y => DP_tr z.1 y)
theorem md_decides_257 {rw : Nat → Int} (hD : DM S τ stp bas) (h16 : τ 16 = rw) (hi : i < nS S) (hO : OS τ (o1S S rw stp i)) : Ex (Md_decides_257 i (e9 (blkS S i)) (grdS S rw stp bas i) τ) (fun _ τ' => DP S rw stp bas i τ τ') := by
  have hN := hD.1.n
  have hfs := fsS_le hD.1 (nS S) (Nat.le_refl _)
  have hm := fsS_mono S (show i ≤ nS S by omega)
  have hm1 := fsS_mono S (show i + 1 ≤ nS S by omega)
  unfold Md_decides_257
  rw [if_pos (inb (by omega) (by omega) (by omega)), if_pos (inb (by omega) (by omega) (by omega)), wrn (a := (i : Int)) rfl (by omega), wrn (n := i + 1) (by omega) (by omega), tk_fr hD.2.2.1 (by omega), tk_fr hD.2.2.1 (by omega), wr_id (n := ((fsS S i : Nat) : Int)) (by omega) (by omega), wr_id (n := ((fsS S (i + 1) : Nat) : Int)) (by omega) (by omega)]
  unfold Md_decides_283
  by_cases q : fsS S i < fsS S (i + 1)
  · have es : stS S i = brS S 2 (fsS S i) 12 := by unfold stS; rw [if_pos q]
    rw [if_pos (by omega), wr_1, if_neg (by decide), md_ruleFor hD.1 hD.2.1 hD.2.2.1 (by omega) (by omega)]
    simp only [Option.bind_some]
    rw [← es]
    exact md_decides_302 hD h16 hi hO (Or.inr ⟨rfl, q⟩)
  · have es : stS S i = -1 := by unfold stS; rw [if_neg q]
    have := md_decides_302 hD h16 hi hO (Or.inl ⟨rfl, q⟩)
    rw [es, e9_m1] at this
    rw [if_neg (by omega), wr_0, if_pos rfl]
    exact this
theorem md_decides_166 {rw : Nat → Int} (hD : DM S τ stp bas) (h16 : τ 16 = rw) (hi : i < nS S) : Ex (Md_decides_166 i (e9 (ldF S i).2) (e9 (blkS S i)) (grdS S rw stp bas i) τ) (fun _ τ' => DP S rw stp bas i τ τ') := by
  have hN := hD.1.n
  have hfs := fsS_le hD.1 (nS S) (Nat.le_refl _)
  have hm := fsS_mono S (show i ≤ nS S by omega)
  unfold Md_decides_166
  refine Ex.lt ?_
  have hF1 : Fr FD τ (upM τ 0 27 (-2)) := Fr.up Fr.rf (by unfold FD; omega)
  have hD1 := DM_Fr hF1 hD
  have h161 : (upM τ 0 27 (-2)) 16 = rw := by rw [FD16 hF1]; exact h16
  have hO1 : OS (upM τ 0 27 (-2)) (-2, 0, 0, -1) := ⟨by simp [upM], by simp, fun z => absurd rfl z⟩
  generalize upM τ 0 27 (-2) = τ1 at *
  have hl := (ldF_ok (S := S) (i := i)).2.2
  by_cases q : (ldF S i).2 = -1
  · rw [q, e9_m1, show wr (-9) = -9 from by decide, if_pos rfl]
    have := md_decides_257 hD1 h161 hi (by unfold o1S; rw [if_pos q]; exact hO1)
    exact this.mono (fun _ ρ y => DP_tr hF1 y)
  · have hl2 : 0 ≤ (ldF S i).2 ∧ (ldF S i).2.toNat < fsS S i ∧ 0 ≤ opn S (ldF S i).2.toNat := by omega
    have eO : o1S S rw stp i = ofr (-2, 0, 0, -1) (S 6 (opn S (ldF S i).2.toNat).toNat) (ccS S rw stp (ldF S i).2.toNat) 3 (opn S (ldF S i).2.toNat) := by unfold o1S; rw [if_neg q]
    have ec : e9 (ldF S i).2 = (((ldF S i).2.toNat : Nat) : Int) := by rw [e9_id hl2.1]; omega
    generalize hc : (ldF S i).2.toNat = c at *
    have hcn : c < fsS S (nS S) := by omega
    have hop := opn_rng S c
    have hop2 : 0 ≤ opn S c ∧ opn S c < 12 ∧ S 5 (opn S c).toNat = 1 := by omega
    have e8 : τ1 8 c = opn S c := by rw [(bk_op hD1.2.2.2.1 hcn).1, e9_id hl2.2.2]
    have hpr := md_pr hD1 hop2.1 hop2.2.1 (by omega)
    have hprr := hD1.1.prec (r := (opn S c).toNat) (by omega) (by omega)
    have hk := tq_ok hD1.1 hcn
    have ht := tk_arr hD1.2.2.1 hcn
    have hclo := ((hD1.1.2.2.2.2.2 (opn S c).toNat (by omega)).2.2.2.1 hop2.2.2).2.2.1
    have e4 : Md_ruleAt (opn S c) 4 τ1 = some (S 9 (opn S c).toNat, τ1) := by
      have := md_ra4 (τ := τ1) (r := (opn S c).toNat) (by omega)
      rw [show (((opn S c).toNat : Nat) : Int) = opn S c by omega] at this
      rw [this]
      have e := aM_clos (τ := τ1) (r := (opn S c).toNat) (by omega) (by rw [hD1.2.1]; exact hop2.2.2)
      rw [hD1.2.1] at e
      rw [e, show 705 + 23 * (opn S c).toNat = 701 + 23 * (opn S c).toNat + 4 by omega]
    have f231 : ∀ a, a = ccS S rw stp c → Ex (Md_decides_231 i c (e9 (blkS S i)) (grdS S rw stp bas i) a τ1) (fun _ τ' => DP S rw stp bas i τ τ') := by
      intro a ha
      subst ha
      unfold Md_decides_231
      rw [if_pos (inb (by omega) (by omega) (by omega)), wrn (a := (c : Int)) rfl (by omega), e8, hpr.1]
      simp only [Option.bind_some]
      rw [if_pos (inb (by omega) (by omega) (by omega)), e8]
      have := md_offers hO1 (p := S 6 (opn S c).toNat) (a := ccS S rw stp c) (w := 3) (r := opn S c) (r' := opn S c) (by omega) (e9_id hop2.1).symm
      refine Ex.bnd (this.mono (fun _ τ2 z => ?_))
      have := md_decides_257 (rw := rw) (DM_Fr z.1 hD1) ((FD16 z.1).trans h161) hi (by rw [eO]; exact z.2)
      exact this.mono (fun _ ρ y => DP_tr (hF1.tr z.1) y)
    rw [ec, wr_id (n := (c : Int)) (by omega) (by omega), if_neg (by omega), if_pos (by omega), show ((c : Int)).toNat = c by omega, e8, e4]
    simp only [Option.bind_some]
    rw [wr_id (n := S 9 (opn S c).toNat) (by omega) (by omega)]
    by_cases q0 : S 9 (opn S c).toNat = 0
    · rw [if_pos q0, if_pos (by omega), ht.1, if_pos (inb (by omega) (by omega) (by omega)), wrn (a := ((tq S c).1 : Int)) rfl (by omega), h161]
      exact f231 _ (by unfold ccS; rw [if_pos q0])
    · rw [if_neg q0]
      by_cases q1 : S 9 (opn S c).toNat = 1
      · rw [if_pos q1, (md_columnIn hD1 hcn hl2.2.2).1, h161]
        simp only [Option.bind_some]
        exact f231 _ (by unfold ccS; rw [if_neg q0, if_pos q1])
      · rw [if_neg q1, md_columnOf hD1 hcn, h161]
        simp only [Option.bind_some]
        exact f231 _ (by unfold ccS; rw [if_neg q0, if_neg q1])
theorem md_decides_122 {rw : Nat → Int} (hD : DM S τ stp bas) (h16 : τ 16 = rw) (hi : i < nS S) : Ex (Md_decides_122 i ((ldF S i).1 : Nat) (e9 (ldF S i).2) τ) (fun _ τ' => DP S rw stp bas i τ τ') := by
  have hN := hD.1.n
  have hfs := fsS_le hD.1 (nS S) (Nat.le_refl _)
  have hm := fsS_mono S (show i ≤ nS S by omega)
  have hl := ldF_ok (S := S) (i := i)
  have hsk := sk_le S i
  have base := md_decides_166 hD h16 hi
  unfold Md_decides_122
  rw [wr_id (n := (((ldF S i).1 : Nat) : Int)) (by omega) (by omega)]
  unfold Md_decides_144
  by_cases q : (ldF S i).1 = 0
  · have eb : blkS S i = -1 := by unfold blkS; rw [if_pos q]
    have eg : grdS S rw stp bas i = bas := by unfold grdS; rw [if_pos eb]
    rw [if_neg (by omega), show wr (-9) = -9 from by decide, if_pos rfl, hD.2.2.2.2.2.2.1]
    rw [eb, e9_m1, eg] at base
    exact base
  · have eb : blkS S i = ((skS S i).getD ((ldF S i).1 - 1) 0 : Nat) := by unfold blkS; rw [if_neg q]
    have hs := sk_mem (S := S) (i := i) (k := (ldF S i).1 - 1) (by omega)
    have h14 := (hD.2.2.2.1.2 i (by omega)).2 ((ldF S i).1 - 1) (by omega)
    rw [if_pos (by omega), if_pos (inb (by omega) (by omega) (by omega)), wrn (n := 12 * i + ((ldF S i).1 - 1)) (by omega) (by omega), h14, wr_id (by omega) (by omega), if_neg (by omega), (md_columnIn hD (by omega) hs.2.2.1).1]
    simp only [Option.bind_some]
    have eg : grdS S rw stp bas i = cinS S rw stp ((skS S i).getD ((ldF S i).1 - 1) 0) := by unfold grdS; rw [if_neg (by omega), eb, Int.toNat_natCast]
    rw [h16, ← eg]
    rw [eb, e9_id (x := (((skS S i).getD ((ldF S i).1 - 1) 0 : Nat) : Int)) (by omega)] at base
    exact base
end DC2
