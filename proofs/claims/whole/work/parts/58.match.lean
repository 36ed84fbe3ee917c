/-! ===== match() of the class ===== -/
def FBC (o k : Nat) : Prop := 304 ≤ o ∧ o ≤ 326
theorem FBC_A {σ σ' : Mem} (h : Fr FBC σ σ') : absC σ' 1 = absC σ 1 := absC_Fr h (fun o k z => by unfold FBC at z; omega)
theorem FBC_T {S σ σ' : Mem} (h : Fr FBC σ σ') (hT : TkC S σ) : TkC S σ' := by
  have e : ∀ o, o < 304 → σ' o = σ o := fun o ho => by funext k; exact h o k (by unfold FBC; omega)
  unfold TkC
  rw [e 291 (by omega), e 293 (by omega), e 295 (by omega), e 297 (by omega), e 299 (by omega), e 301 (by omega), e 289 (by omega)]
  exact hT
theorem CI_Fr {F : Nat → Nat → Prop} {σ σ' : Mem} (h : Fr F σ σ') (hF : ∀ o k, F o k → 26 ≤ o) (hc : CI σ 1) : CI σ' 1 := by
  have e : ∀ o, o < 26 → σ' o = σ o := fun o ho => by funext k; exact h o k (fun q => by have := hF o k q; omega)
  unfold CI at *
  rw [e (1 + 12) (by omega), e (1 + 22) (by omega)]
  exact hc
def NtC (S : Mem) (m : Nat) (σ : Mem) : Prop := ∀ j, j < m → σ 322 j = (skS S j).length ∧ ∀ k, k < (skS S j).length → σ 324 (12 * j + k) = ((skS S j).getD k 0 : Nat)
theorem blk_save_14 {st : List Nat} (h12 : st.length ≤ 12) {i : Nat} (hi : i ≤ 20) : ∀ (m n k : Nat) (σ : Mem), k + m = st.length → m < n → σ 304 11 = st.length → (∀ j, j < st.length → σ 326 j = (st.getD j 0 : Nat)) → (∀ j, j < k → σ 324 (12 * i + j) = (st.getD j 0 : Nat)) →
    Ex (Blk_saveStack_14 n i k σ) (fun _ σ' => Fr (fun o z => o = 324 ∧ 12 * i ≤ z ∧ z < 12 * i + 12) σ σ' ∧ ∀ j, j < st.length → σ' 324 (12 * i + j) = (st.getD j 0 : Nat)) := by
  intro m
  induction m with
  | zero =>
    intro n k σ hkm hn h18 h15 h14
    obtain ⟨n, rfl⟩ : ∃ z, n = z + 1 := ⟨n - 1, by omega⟩
    show Ex (Blk_saveStack_14b (Blk_saveStack_14 n) i k σ) _
    unfold Blk_saveStack_14b
    rw [h18, wr_id (n := (k : Int)) (by omega) (by omega), wr_id (n := (st.length : Int)) (by omega) (by omega), if_neg (by omega)]
    exact Ex.ret ⟨Fr.rf, fun j hj => h14 j (by omega)⟩
  | succ m ih =>
    intro n k σ hkm hn h18 h15 h14
    obtain ⟨n, rfl⟩ : ∃ z, n = z + 1 := ⟨n - 1, by omega⟩
    show Ex (Blk_saveStack_14b (Blk_saveStack_14 n) i k σ) _
    unfold Blk_saveStack_14b
    rw [h18, wr_id (n := (k : Int)) (by omega) (by omega), wr_id (n := (st.length : Int)) (by omega) (by omega), if_pos (by omega), rg_325 (by omega) (by omega)]
    simp only [Option.bind_some]
    rw [rs_323 (by omega) (by omega)]
    simp only [Option.bind_some]
    rw [show ((k : Int)).toNat = k by omega, show ((i : Int) * 12 + (k : Int)).toNat = 12 * i + k by omega, h15 k (by omega)]
    have := ih n (k + 1) (upM σ 324 (12 * i + k) ((st.getD k 0 : Nat) : Int)) (by omega) (by omega) (by simpa [upM] using h18) (fun j hj => by simpa [upM] using h15 j hj) (fun j hj => by
      by_cases e : j = k
      · subst e; simp [upM]
      · have := h14 j (by omega)
        simp only [upM]
        rw [if_neg (by omega)]
        exact this)
    rw [show (((k + 1 : Nat)) : Int) = (k : Int) + 1 by omega] at this
    exact this.mono (fun r ρ q => ⟨(Fr.up Fr.rf (by omega)).tr q.1, q.2⟩)
theorem blk_save {S σ : Mem} {T : Nat} {b : BSt} (hb : bOk S T b) {i : Nat} (hi : i ≤ 20) (hB : BC T b σ) (hN : NtC S i σ) (hs : b.1 = skS S i) : Ex (Blk_saveStack i σ) (fun _ σ' => Fr (fun o _ => o = 322 ∨ o = 324) σ σ' ∧ BC T b σ' ∧ NtC S (i + 1) σ') := by
  have h12 := hb.1
  unfold Blk_saveStack
  rw [rs_321 (by omega) (by omega)]
  simp only [Option.bind_some]
  rw [show ((i : Int)).toNat = i by omega]
  have := blk_save_14 h12 hi b.1.length 100000 0 (upM σ 322 i (σ 304 11)) (by omega) (by omega) (by have := hB.1; simpa [upM] using this) (fun j hj => by have := hB.2.1 j hj; simpa [upM] using this) (fun j hj => by omega)
  refine this.mono (fun r ρ q => ?_)
  have k1 : ∀ o k, o ≠ 322 → o ≠ 324 → ρ o k = σ o k := fun o k h1 h2 => by
    rw [q.1 o k (by omega)]
    simp only [upM]
    rw [if_neg (by omega)]
  refine ⟨fun o k z => k1 o k (by omega) (by omega), ?_, ?_⟩
  · obtain ⟨b1, b2, b3, b4, b5⟩ := hB
    refine ⟨by rw [k1 304 11 (by omega) (by omega)]; exact b1, fun k hk => by rw [k1 326 k (by omega) (by omega)]; exact b2 k hk, fun u hu => ?_, by rw [k1 304 12 (by omega) (by omega)]; exact b4, by rw [k1 304 13 (by omega) (by omega)]; exact b5⟩
    rw [k1 310 u (by omega) (by omega), k1 312 u (by omega) (by omega), k1 314 u (by omega) (by omega)]
    exact b3 u hu
  · intro j hj
    by_cases e : j = i
    · subst e
      rw [← hs]
      refine ⟨?_, q.2⟩
      rw [q.1 322 j (by omega)]
      have := hB.1
      simp [upM, this]
    · have := hN j (by omega)
      refine ⟨?_, fun k hk => ?_⟩
      · rw [q.1 322 j (by omega)]
        simp only [upM]
        rw [if_neg (by omega)]
        exact this.1
      · have hl : (skS S j).length ≤ 12 := (bOk_run (S := S) (fsS S j)).1
        rw [q.1 324 (12 * j + k) (by omega)]
        simp only [upM]
        rw [if_neg (by omega)]
        exact this.2 k hk
def XC (S : Mem) (T : Nat) (σ : Mem) : Prop := ∀ u, u < T → XT S u σ
theorem blk_token {S σ : Mem} (hS : SV S) (hn : SN S) (hA : absC σ 1 = S) (hc : CI σ 1) (hT : TkC S σ) {T : Nat} (hTn : T < fsS S (nS S)) (hB : BC T (bRun S T) σ) (hX : XC S T σ) {i : Nat} (hi : i < nS S) {r17 : Int → Mem → Option (Int × Mem)} {n : Nat} (hlt : T < fsS S (i + 1)) {Q : Int → Mem → Prop}
    (k : ∀ σ', Fr FBC σ σ' → BC (T + 1) (bRun S (T + 1)) σ' → XC S (T + 1) σ' → (∀ j z, (j = 322 ∨ j = 324) → σ' j z = σ j z) → Ex (Blk_match_43 r17 n i ((T : Int) + 1) σ') Q) : Ex (Blk_match_43 r17 (n + 1) i T σ) Q := by
  have hNn := hS.n
  have hfs := fsS_le hS (nS S) (Nat.le_refl _)
  have hfi := fsS_le hS (i + 1) (by omega)
  have hb := bOk_run (S := S) T
  have hfr : σ 299 (i + 1) = fsS S (i + 1) := tk_fr hT (by omega)
  show Ex (Blk_match_43b r17 (Blk_match_43 r17 n) i T σ) Q
  unfold Blk_match_43b
  rw [rg_298 (by omega) (by omega)]
  simp only [Option.bind_some]
  rw [show ((i : Int) + 1).toNat = i + 1 by omega, hfr, wr_id (n := (T : Int)) (by omega) (by omega), wr_id (n := ((fsS S (i + 1) : Nat) : Int)) (by omega) (by omega), if_pos (by omega), blk_findRules hS hA hc hT hTn]
  simp only [Option.bind_some]
  generalize hσ1 : upM (upM σ 306 T (mk (P0 S T) 12 : Nat)) 308 T (mk (P1 S T) 12 : Nat) = σ1
  have k1 : ∀ o z, (o ≠ 306 ∧ o ≠ 308) ∨ z ≠ T → σ1 o z = σ o z := fun o z h => by rw [← hσ1]; simp only [upM]; rw [if_neg (by omega), if_neg (by omega)]
  have hF1 : Fr FBC σ σ1 := by rw [← hσ1]; exact Fr.up (Fr.up Fr.rf (by unfold FBC; omega)) (by unfold FBC; omega)
  have hB1 : BC T (bRun S T) σ1 := by
    obtain ⟨b1, b2, b3, b4, b5⟩ := hB
    refine ⟨by rw [k1 304 11 (by omega)]; exact b1, fun z hz => by rw [k1 326 z (by omega)]; exact b2 z hz, fun u hu => ?_, by rw [k1 304 12 (by omega)]; exact b4, by rw [k1 304 13 (by omega)]; exact b5⟩
    rw [k1 310 u (by omega), k1 312 u (by omega), k1 314 u (by omega)]
    exact b3 u hu
  have h8 : σ1 308 T = (mk (P1 S T) 12 : Nat) := by rw [← hσ1]; simp [upM]
  have h6 : σ1 306 T = (mk (P0 S T) 12 : Nat) := by rw [← hσ1]; simp [upM]
  refine Ex.bnd ((blk_close hS hn (by rw [FBC_A hF1]; exact hA) hTn hb hB1 h8).mono (fun _ σ2 q2 => ?_))
  obtain ⟨hF2, hB2, h312⟩ := q2
  have hF2' : Fr FBC σ1 σ2 := hF2.mono (fun o z q => by unfold FHC at q; unfold FBC; omega)
  have hF12 := hF1.tr hF2'
  refine Ex.bnd ((blk_open hS (by rw [FBC_A hF12]; exact hA) (FBC_T hF12 hT) hTn hB2 h312 (by rw [hF2 306 T (by unfold FHC; omega)]; exact h6)).mono (fun _ σ3 q3 => ?_))
  obtain ⟨hF3, hB3, hX3⟩ := q3
  have hF3' : Fr FBC σ2 σ3 := hF3.mono (fun o z q => by unfold FO at q; unfold FBC; omega)
  have keep : ∀ o z, o = 306 ∨ o = 316 ∨ o = 318 ∨ o = 320 ∨ o = 322 ∨ o = 324 → (z ≠ T ∨ o = 322 ∨ o = 324) → σ3 o z = σ o z := fun o z h1 h2 => by
    rw [hF3 o z (by unfold FO; omega), hF2 o z (by unfold FHC; omega), k1 o z (by omega)]
  refine k σ3 (hF12.tr hF3') hB3 (fun u hu => ?_) (fun j z hj => keep j z (by omega) (by omega))
  by_cases e : u = T
  · subst e; exact hX3
  · have hx := hX u (by omega)
    refine ⟨by rw [keep 306 u (by omega) (by omega)]; exact hx.1, fun z => ?_⟩
    rw [keep 316 u (by omega) (by omega), keep 318 u (by omega) (by omega), keep 320 u (by omega) (by omega)]
    exact hx.2 z
theorem blk_match_43 {S : Mem} (hS : SV S) (hn : SN S) {i : Nat} (hi : i < nS S) {r17 : Int → Mem → Option (Int × Mem)} {Q : Int → Mem → Prop} : ∀ (m n T : Nat) (σ : Mem), absC σ 1 = S → CI σ 1 → TkC S σ → BC T (bRun S T) σ → XC S T σ → NtC S (i + 1) σ → T + m = fsS S (i + 1) → m < n →
    (∀ σ', Fr FBC σ σ' → BC (fsS S (i + 1)) (bRun S (fsS S (i + 1))) σ' → XC S (fsS S (i + 1)) σ' → NtC S (i + 1) σ' → Ex (r17 ((i : Int) + 1) σ') Q) → Ex (Blk_match_43 r17 n i T σ) Q := by
  have hNn := hS.n
  have hfs := fsS_le hS (nS S) (Nat.le_refl _)
  have hfi := fsS_le hS (i + 1) (by omega)
  have hmo := fsS_mono S (show i + 1 ≤ nS S by omega)
  intro m
  induction m with
  | zero =>
    intro n T σ hA hc hT hB hX hN hTm hn2 k
    obtain ⟨n, rfl⟩ : ∃ z, n = z + 1 := ⟨n - 1, by omega⟩
    have hfr : σ 299 (i + 1) = fsS S (i + 1) := tk_fr hT (by omega)
    show Ex (Blk_match_43b r17 (Blk_match_43 r17 n) i T σ) Q
    unfold Blk_match_43b
    rw [rg_298 (by omega) (by omega)]
    simp only [Option.bind_some]
    rw [show ((i : Int) + 1).toNat = i + 1 by omega, hfr, wr_id (n := (T : Int)) (by omega) (by omega), wr_id (n := ((fsS S (i + 1) : Nat) : Int)) (by omega) (by omega), if_neg (by omega)]
    exact k σ Fr.rf (by rw [show fsS S (i + 1) = T by omega]; exact hB) (by rw [show fsS S (i + 1) = T by omega]; exact hX) hN
  | succ m ih =>
    intro n T σ hA hc hT hB hX hN hTm hn2 k
    obtain ⟨n, rfl⟩ : ∃ z, n = z + 1 := ⟨n - 1, by omega⟩
    refine blk_token hS hn hA hc hT (by omega) hB hX hi (by omega) (fun σ' hF hB' hX' h13 => ?_)
    have hN' : NtC S (i + 1) σ' := fun j hj => by
      have := hN j hj
      refine ⟨by rw [h13 322 j (Or.inl rfl)]; exact this.1, fun z hz => by rw [h13 324 _ (Or.inr rfl)]; exact this.2 z hz⟩
    have := ih n (T + 1) σ' (by rw [FBC_A hF]; exact hA) (CI_Fr hF (fun o k z => by unfold FBC at z; omega) hc) (FBC_T hF hT) hB' hX' hN' (by omega) (by omega) (fun σ'' hF2 hB2 hX2 hN2 => k σ'' (hF.tr hF2) hB2 hX2 hN2)
    rw [show (((T + 1 : Nat)) : Int) = (T : Int) + 1 by omega] at this
    exact this
def BkC (S σ : Mem) : Prop := BC (fsS S (nS S)) (bRun S (fsS S (nS S))) σ ∧ XC S (fsS S (nS S)) σ ∧ NtC S (nS S + 1) σ
theorem blk_match_17 {S : Mem} (hS : SV S) (hn : SN S) : ∀ (m n i : Nat) (σ : Mem), absC σ 1 = S → CI σ 1 → TkC S σ → BC (fsS S i) (bRun S (fsS S i)) σ → XC S (fsS S i) σ → NtC S i σ → i + m = nS S → m < n → Ex (Blk_match_17 n i σ) (fun _ σ' => Fr FBC σ σ' ∧ BkC S σ') := by
  have hNn := hS.n
  have hfs := fsS_le hS (nS S) (Nat.le_refl _)
  intro m
  induction m with
  | zero =>
    intro n i σ hA hc hT hB hX hN him hn2
    obtain ⟨n, rfl⟩ : ∃ z, n = z + 1 := ⟨n - 1, by omega⟩
    have en : σ 2 0 = S 0 0 := by rw [← hA]; rfl
    show Ex (Blk_match_17b (Blk_match_17 n) i σ) _
    unfold Blk_match_17b
    rw [en, wr_id (n := (i : Int)) (by omega) (by omega), wr_id (n := S 0 0) (by omega) (by omega), if_neg (by omega), show S 0 0 = (i : Int) by omega]
    have := blk_save (bOk_run (S := S) (fsS S i)) (by omega) hB hN rfl
    refine Ex.bnd (this.mono (fun r ρ q => Ex.ret ⟨q.1.mono (fun o k z => by unfold FBC; omega), ?_, ?_, ?_⟩))
    · rw [show nS S = i by omega]; exact q.2.1
    · rw [show nS S = i by omega]
      show XC S (fsS S i) ρ
      intro u hu
      have hx := hX u hu
      refine ⟨by rw [q.1 306 u (by omega)]; exact hx.1, fun z => ?_⟩
      rw [q.1 316 u (by omega), q.1 318 u (by omega), q.1 320 u (by omega)]
      exact hx.2 z
    · rw [show nS S = i by omega]; exact q.2.2
  | succ m ih =>
    intro n i σ hA hc hT hB hX hN him hn2
    obtain ⟨n, rfl⟩ : ∃ z, n = z + 1 := ⟨n - 1, by omega⟩
    have en : σ 2 0 = S 0 0 := by rw [← hA]; rfl
    show Ex (Blk_match_17b (Blk_match_17 n) i σ) _
    unfold Blk_match_17b
    rw [en, wr_id (n := (i : Int)) (by omega) (by omega), wr_id (n := S 0 0) (by omega) (by omega), if_pos (by omega)]
    have := blk_save (bOk_run (S := S) (fsS S i)) (by omega) hB hN rfl
    refine Ex.bnd (this.mono (fun r σ1 q => ?_))
    obtain ⟨hF0, hB1, hN1⟩ := q
    have hF : Fr FBC σ σ1 := hF0.mono (fun o k z => by unfold FBC; omega)
    have hX1 : XC S (fsS S i) σ1 := by
      intro u hu
      have hx := hX u hu
      refine ⟨by rw [hF0 306 u (by omega)]; exact hx.1, fun z => ?_⟩
      rw [hF0 316 u (by omega), hF0 318 u (by omega), hF0 320 u (by omega)]
      exact hx.2 z
    have hT1 := FBC_T hF hT
    have hfr : σ1 299 i = fsS S i := tk_fr hT1 (by omega)
    rw [rg_298 (by omega) (by omega)]
    simp only [Option.bind_some]
    rw [show ((i : Int)).toNat = i by omega, hfr]
    have hfi := fsS_le hS (i + 1) (by omega)
    have hmo := fsS_mono S (show i ≤ i + 1 by omega)
    have hFo : ∀ o k, FBC o k → 26 ≤ o := fun o k z => by unfold FBC at z; omega
    exact blk_match_43 hS hn (by omega) (fsS S (i + 1) - fsS S i) 100000 (fsS S i) σ1 (by rw [FBC_A hF]; exact hA) (CI_Fr hF hFo hc) hT1 hB1 hX1 hN1 (by omega) (by omega) (fun σ2 hF2 hB2 hX2 hN2 => by
      have := ih n (i + 1) σ2 (by rw [FBC_A hF2, FBC_A hF]; exact hA) (CI_Fr hF2 hFo (CI_Fr hF hFo hc)) (FBC_T hF2 hT1) hB2 hX2 hN2 (by omega) (by omega)
      rw [show (((i + 1 : Nat)) : Int) = (i : Int) + 1 by omega] at this
      exact this.mono (fun r ρ q => ⟨(hF.tr hF2).tr q.1, q.2⟩))
theorem blk_match {S σ : Mem} (hS : SV S) (hn : SN S) (hA : absC σ 1 = S) (hc : CI σ 1) (hT : TkC S σ) : Ex (Blk_match σ) (fun _ σ' => Fr FBC σ σ' ∧ BkC S σ') := by
  have hNn := hS.n
  unfold Blk_match
  refine Ex.lt (Ex.lt (Ex.lt ?_))
  generalize hσ2 : upM (upM (upM σ 304 11 0) 304 12 0) 304 13 0 = σ2
  have hF2 : Fr FBC σ σ2 := by rw [← hσ2]; exact Fr.up (Fr.up (Fr.up Fr.rf (by unfold FBC; omega)) (by unfold FBC; omega)) (by unfold FBC; omega)
  have := blk_match_17 hS hn (nS S) 100000 0 σ2 (by rw [FBC_A hF2]; exact hA) (CI_Fr hF2 (fun o k z => by unfold FBC at z; omega) hc) (FBC_T hF2 hT) ⟨by rw [← hσ2]; simp [upM, bRun, fsS], fun k hk => by simp [bRun, fsS] at hk, fun u hu => by simp [fsS] at hu, by rw [← hσ2]; simp [upM, bRun, fsS], by rw [← hσ2]; simp [upM, bRun, fsS]⟩ (fun u hu => by simp [fsS] at hu) (fun j hj => by omega) (by omega) (by omega)
  exact this.mono (fun r ρ q => ⟨hF2.tr q.1, q.2⟩)
