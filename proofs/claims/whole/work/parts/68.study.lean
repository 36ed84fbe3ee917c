/-! ===== the plan does not look at indentations; study() ===== -/
def wI (S : Mem) : Mem := fun c => match c with
  | 1 => fun _ => 0
  | 0 => S 0
  | c + 2 => S (c + 2)
section WI
variable (S : Mem)
theorem wI_0 : wI S 0 = S 0 := rfl
theorem wI_2 : wI S 2 = S 2 := rfl
theorem wI_4 : wI S 4 = S 4 := rfl
theorem wI_5 : wI S 5 = S 5 := rfl
theorem wI_6 : wI S 6 = S 6 := rfl
theorem wI_7 : wI S 7 = S 7 := rfl
theorem wI_8 : wI S 8 = S 8 := rfl
theorem wI_9 : wI S 9 = S 9 := rfl
theorem wI_10 : wI S 10 = S 10 := rfl
theorem wI_11 : wI S 11 = S 11 := rfl
theorem wI_n : nS (wI S) = nS S := rfl
theorem wI_g (i : Nat) : gS (wI S) i = gS S i := by funext k; unfold gS; rw [wI_2, wI_4]
theorem wI_ln (i : Nat) (g : Int) : lnS (wI S) i g = lnS S i g := by unfold lnS; rw [wI_g, wI_2, wI_0]
theorem wI_go (i : Nat) : goS (wI S) i = goS S i := by
  induction i with
  | zero => rfl
  | succ i ih => simp only [goS]; rw [ih, wI_ln]
theorem wI_tk (i : Nat) : tkS (wI S) i = tkS S i := by unfold tkS; rw [wI_go, wI_ln]
theorem wI_fs (i : Nat) : fsS (wI S) i = fsS S i := by
  induction i with
  | zero => rfl
  | succ i ih => simp only [fsS]; rw [ih, wI_tk]
theorem wI_hd (i : Nat) : hdS (wI S) i = hdS S i := by unfold hdS; rw [wI_go, wI_2]
theorem wI_aT (i : Nat) : aTl (wI S) i = aTl S i := by
  induction i with
  | zero => rfl
  | succ i ih => simp only [aTl]; rw [ih, wI_tk]
theorem wI_tq (T : Nat) : tq (wI S) T = tq S T := by unfold tq; rw [wI_aT, wI_n]
theorem wI_hasT (r w T : Nat) : hasT (wI S) r w T = hasT S r w T := by unfold hasT; rw [wI_tq, wI_10, wI_11, wI_g]
theorem wI_br (s : Int) (T m : Nat) : brS (wI S) s T m = brS S s T m := by
  induction m with
  | zero => rfl
  | succ m ih => simp only [brS]; rw [ih, wI_5, wI_6, wI_hasT]
theorem wI_isCl (T m : Nat) : isCl (wI S) T m = isCl S T m := by unfold isCl; simp only [wI_5, wI_hasT]
theorem wI_fnd (T : Nat) (op : Nat → Int) (st : List Nat) (m : Nat) : fnd (wI S) T op st m = fnd S T op st m := by
  induction m with
  | zero => rfl
  | succ m ih => simp only [fnd]; rw [ih, wI_hasT]
theorem wI_may : mayS (wI S) = mayS S := by funext op st lv; unfold mayS; rw [wI_6]
theorem wI_cl (T : Nat) (b : BSt) : clS (wI S) T b = clS S T b := by unfold clS; rw [wI_may, wI_fnd, wI_isCl]
theorem wI_op (T : Nat) (b : BSt) : opS (wI S) T b = opS S T b := by unfold opS; rw [wI_br]
theorem wI_run (T : Nat) : bRun (wI S) T = bRun S T := by
  induction T with
  | zero => rfl
  | succ T ih => simp only [bRun]; rw [ih, wI_cl, wI_op]
theorem wI_opn (u : Nat) : opn (wI S) u = opn S u := by unfold opn; rw [wI_run]
theorem wI_cls (u : Nat) : cls (wI S) u = cls S u := by unfold cls; rw [wI_run]
theorem wI_lv (u : Nat) : lvS (wI S) u = lvS S u := by unfold lvS; rw [wI_run, wI_cl]
theorem wI_sk (i : Nat) : skS (wI S) i = skS S i := by unfold skS; rw [wI_fs, wI_run]
theorem wI_ld (i : Nat) : ∀ (m T o : Nat) (c : Int), ldS (wI S) i m T o c = ldS S i m T o c
  | 0, _, _, _ => rfl
  | m + 1, T, o, c => by simp only [ldS]; rw [wI_cls, wI_opn, wI_lv, wI_ld i m]
theorem wI_ldF (i : Nat) : ldF (wI S) i = ldF S i := by unfold ldF; rw [wI_fs, wI_fs, wI_sk, wI_ld]
theorem wI_alg (u : Nat) : algS (wI S) u = algS S u := by unfold algS; rw [wI_8, wI_br, wI_fs, wI_tq]
theorem wI_of (u : Nat) : ofS (wI S) u = ofS S u := by unfold ofS; rw [wI_alg, wI_tq]
theorem wI_sp (u : Nat) : spS (wI S) u = spS S u := by unfold spS; rw [wI_alg, wI_7, wI_br]
theorem wI_P0 (u : Nat) : P0 (wI S) u = P0 S u := by funext r; unfold P0; rw [wI_5, wI_hasT]
variable (rw : Nat → Int) (stp bas : Int)
theorem wI_cin (b : Nat) : cinS (wI S) rw stp b = cinS S rw stp b := by unfold cinS; rw [wI_alg, wI_tq, wI_tq, wI_7, wI_opn]
theorem wI_blk (i : Nat) : blkS (wI S) i = blkS S i := by unfold blkS; rw [wI_ldF, wI_sk]
theorem wI_grd (i : Nat) : grdS (wI S) rw stp bas i = grdS S rw stp bas i := by unfold grdS; rw [wI_blk, wI_cin]
theorem wI_st (i : Nat) : stS (wI S) i = stS S i := by unfold stS; rw [wI_fs, wI_fs, wI_br]
theorem wI_jn (i : Nat) : jnS (wI S) i = jnS S i := by unfold jnS; rw [wI_fs, wI_fs, wI_br, wI_opn]
theorem wI_cc (c : Nat) : ccS (wI S) rw stp c = ccS S rw stp c := by unfold ccS; rw [wI_9, wI_opn, wI_cin, wI_tq]
theorem wI_o1 (i : Nat) : o1S (wI S) rw stp i = o1S S rw stp i := by unfold o1S; rw [wI_ldF, wI_6, wI_opn, wI_cc]
theorem wI_o2 (i : Nat) : o2S (wI S) rw stp bas i = o2S S rw stp bas i := by unfold o2S; rw [wI_st, wI_o1, wI_6, wI_7, wI_grd]
theorem wI_o3 (i : Nat) : o3S (wI S) rw stp bas i = o3S S rw stp bas i := by unfold o3S; rw [wI_jn, wI_o2, wI_6, wI_7, wI_grd]
theorem wI_wy (i : Nat) : wy0 (wI S) i = wy0 S i := by unfold wy0; rw [wI_blk, wI_alg]
theorem wI_by (i : Nat) : by0 (wI S) i = by0 S i := by unfold by0; rw [wI_blk, wI_opn]
theorem wI_o4 (i : Nat) : o4S (wI S) rw stp bas i = o4S S rw stp bas i := by unfold o4S; rw [wI_o3, wI_grd, wI_wy, wI_by]
theorem wI_wan (i : Nat) : wanS (wI S) rw stp bas i = wanS S rw stp bas i := by unfold wanS; rw [wI_o4]
theorem wI_fr (i : Nat) : frS (wI S) i = frS S i := by unfold frS; rw [wI_2, wI_hd]
end WI
theorem wI_TkC (S σ : Mem) : TkC (wI S) σ = TkC S σ := by
  unfold TkC TkOK TkP
  simp only [wI_n, wI_fs, wI_hd, wI_tk]
theorem wI_BkC (S σ : Mem) : BkC (wI S) σ = BkC S σ := by
  unfold BkC XC XT NtC
  simp only [wI_n, wI_fs, wI_run, wI_cl, wI_br, wI_P0, wI_of, wI_sp, wI_sk]
theorem wI_PlC (S σ : Mem) : PlC (wI S) (nS (wI S)) σ = PlC S (nS S) σ := by
  unfold PlC PlR plV
  simp only [wI_n, wI_fr, wI_o4]
/-- tokens, blocks and plan of the class are those of the state -/
def Kn (S σ : Mem) : Prop := TkC S σ ∧ BkC S σ ∧ PlC S (nS S) σ
def Csh (S σ : Mem) : Prop := σ 0 11 = 0 ∨ (σ 0 11 = 1 ∧ Kn S σ)
theorem Kn_wI {S S' σ : Mem} (h : wI S' = wI S) (hK : Kn S σ) : Kn S' σ := by
  unfold Kn at *
  rw [← wI_TkC, ← wI_BkC, ← wI_PlC, h, wI_TkC, wI_BkC, wI_PlC]
  exact hK
theorem Kn_Fr {S σ σ' : Mem} {F : Nat → Nat → Prop} (h : Fr F σ σ') (hF : ∀ o k, F o k → o < 289 ∨ 339 < o) (hK : Kn S σ) : Kn S σ' := by
  have e : ∀ o, 289 ≤ o → o ≤ 339 → σ' o = σ o := fun o h1 h2 => by funext k; exact h o k (fun q => by have := hF o k q; omega)
  unfold Kn TkC BkC BC XC XT NtC PlC PlR at *
  rw [e 291 (by omega) (by omega), e 293 (by omega) (by omega), e 295 (by omega) (by omega), e 297 (by omega) (by omega), e 299 (by omega) (by omega), e 301 (by omega) (by omega), e 289 (by omega) (by omega), e 304 (by omega) (by omega), e 326 (by omega) (by omega), e 310 (by omega) (by omega), e 312 (by omega) (by omega), e 314 (by omega) (by omega), e 306 (by omega) (by omega), e 316 (by omega) (by omega), e 318 (by omega) (by omega), e 320 (by omega) (by omega), e 322 (by omega) (by omega), e 324 (by omega) (by omega), e 329 (by omega) (by omega), e 331 (by omega) (by omega), e 333 (by omega) (by omega), e 335 (by omega) (by omega), e 337 (by omega) (by omega), e 339 (by omega) (by omega)]
  exact hK
def FST (o k : Nat) : Prop := (289 ≤ o ∧ o ≤ 339) ∨ (o = 0 ∧ k = 11)
theorem absC_keep {σ σ' : Mem} {b : Nat} (h : ∀ o k, b ≤ o → o < b + 25 → σ' o k = σ o k) : absC σ' b = absC σ b := by
  have e : ∀ o, b ≤ o → o < b + 25 → σ' o = σ o := fun o h1 h2 => by funext k; exact h o k h1 h2
  unfold absC
  rw [e (b + 1) (by omega) (by omega), e b (by omega) (by omega), e (b + 3) (by omega) (by omega), e (b + 5) (by omega) (by omega), e (b + 7) (by omega) (by omega), e (b + 9) (by omega) (by omega), e (b + 12) (by omega) (by omega), e (b + 14) (by omega) (by omega), e (b + 16) (by omega) (by omega), e (b + 18) (by omega) (by omega), e (b + 20) (by omega) (by omega), e (b + 22) (by omega) (by omega), e (b + 24) (by omega) (by omega)]
theorem CI_keep {σ σ' : Mem} {b : Nat} (h : ∀ o k, b ≤ o → o < b + 25 → σ' o k = σ o k) (hc : CI σ b) : CI σ' b := by
  intro r hr
  rw [h (b + 12) r (by omega) (by omega), h (b + 22) (2 * r + 1) (by omega) (by omega)]
  exact hc r hr
theorem ai_study {σ : Mem} (hS : SV (absC σ 1)) (hc : CI σ 1) (hC : Csh (absC σ 1) σ) : Ex (Ai_study σ) (fun _ σ' => Fr FST σ σ' ∧ absC σ' 1 = absC σ 1 ∧ CI σ' 1 ∧ σ' 0 11 = 1 ∧ Kn (absC σ 1) σ') := by
  have hn := SN_C σ
  unfold Ai_study
  rcases hC with h0 | ⟨h1, hK⟩
  · rw [h0, wr_0, if_pos rfl, ← aC_cm σ]
    refine Ex.bnd ((tok_divide hS).mono (fun _ σ1 z => ?_))
    obtain ⟨hF1, hT1⟩ := z
    have hA1 : absC σ1 1 = absC σ 1 := absC_Fr hF1 (fun o k q => by unfold FTC at q; omega)
    have hc1 : CI σ1 1 := CI_Fr hF1 (fun o k q => by unfold FTC at q; omega) hc
    refine Ex.bnd ((blk_match hS hn hA1 hc1 hT1).mono (fun _ σ2 z => ?_))
    obtain ⟨hF2, hB2⟩ := z
    have hA2 : absC σ2 1 = absC σ 1 := by rw [FBC_A hF2]; exact hA1
    have hX2 : PX (absC σ 1) σ2 := ⟨hS, hn, hA2, CI_Fr hF2 (fun o k q => by unfold FBC at q; omega) hc1, FBC_T hF2 hT1, hB2⟩
    refine Ex.bnd ((pla_make hX2).mono (fun _ σ3 z => ?_))
    obtain ⟨hF3, hP3⟩ := z
    have hX3 := PX_Fr hF3 (fun o k q => by unfold FPA at q; omega) hX2
    refine Ex.lt (Ex.ret ?_)
    have hF4 : Fr (fun o k => o = 0 ∧ k = 11) σ3 (upM σ3 0 11 1) := Fr.up Fr.rf ⟨rfl, rfl⟩
    refine ⟨?_, ?_, ?_, by simp [upM], ?_⟩
    · exact (((hF1.mono (fun o k q => by unfold FTC at q; unfold FST; omega)).tr (hF2.mono (fun o k q => by unfold FBC at q; unfold FST; omega))).tr (hF3.mono (fun o k q => by unfold FPA at q; unfold FST; omega))).tr (hF4.mono (fun o k q => by unfold FST; omega))
    · rw [absC_keep (σ := σ3) (fun o k h1 h2 => hF4 o k (by omega))]; exact hX3.2.2.1
    · exact CI_keep (σ := σ3) (fun o k h1 h2 => hF4 o k (by omega)) hX3.2.2.2.1
    · exact Kn_Fr hF4 (fun o k q => by omega) ⟨hX3.2.2.2.2.1, hX3.2.2.2.2.2, hP3⟩
  · rw [h1, wr_1, if_neg (by decide)]
    exact Ex.ret ⟨Fr.rf, rfl, hc, h1, hK⟩
