/-! ===== looks() ===== -/
theorem md_looks_43 {S : Mem} (hS : SV S) {i : Nat} (hi : i < nS S) {r21 : Int → Mem → Option (Int × Mem)} {Q : Int → Mem → Prop} : ∀ (m n T : Nat) (τ : Mem), absM τ 0 = S → TkM S τ → BM T (bRun S T) τ → NtM S (i + 1) τ → T + m = fsS S (i + 1) → m < n →
    (∀ τ', Fr FB τ τ' → BM (fsS S (i + 1)) (bRun S (fsS S (i + 1))) τ' → NtM S (i + 1) τ' → Ex (r21 ((i : Int) + 1) τ') Q) → Ex (Md_looks_43 r21 n i T τ) Q := by
  have hNn := hS.n
  have hfs := fsS_le hS (nS S) (Nat.le_refl _)
  have hfi := fsS_le hS (i + 1) (by omega)
  have hmo := fsS_mono S (show i + 1 ≤ nS S by omega)
  intro m
  induction m with
  | zero =>
    intro n T τ hA hT hB hN hTm hn k
    obtain ⟨n, rfl⟩ : ∃ z, n = z + 1 := ⟨n - 1, by omega⟩
    have hfr : τ 11 (i + 1) = fsS S (i + 1) := tk_fr hT (by omega)
    show Ex (Md_looks_43b r21 (Md_looks_43 r21 n) i T τ) Q
    unfold Md_looks_43b
    rw [if_pos (inb (by omega) (by omega) (by omega)), wrn (n := i + 1) (by omega) (by omega), hfr, wr_id (n := (T : Int)) (by omega) (by omega), wr_id (n := ((fsS S (i + 1) : Nat) : Int)) (by omega) (by omega), if_neg (by omega)]
    exact k τ Fr.rf (by rw [show fsS S (i + 1) = T by omega]; exact hB) hN
  | succ m ih =>
    intro n T τ hA hT hB hN hTm hn k
    obtain ⟨n, rfl⟩ : ∃ z, n = z + 1 := ⟨n - 1, by omega⟩
    refine md_token hS hA hT (by omega) hB hi (by omega) (fun τ' hF hB' h13 => ?_)
    have hN' : NtM S (i + 1) τ' := fun j hj => by
      have := hN j hj
      refine ⟨by rw [h13 13 j (Or.inl rfl)]; exact this.1, fun z hz => by rw [h13 14 _ (Or.inr rfl)]; exact this.2 z hz⟩
    have := ih n (T + 1) τ' (by rw [FB_A hF]; exact hA) (FB_T hF hT) hB' hN' (by omega) (by omega) (fun τ'' hF2 hB2 hN2 => k τ'' (hF.tr hF2) hB2 hN2)
    rw [show (((T + 1 : Nat)) : Int) = (T : Int) + 1 by omega] at this
    exact this
def BkM (S τ : Mem) : Prop := BM (fsS S (nS S)) (bRun S (fsS S (nS S))) τ ∧ NtM S (nS S + 1) τ
theorem md_looks_21 {S : Mem} (hS : SV S) : ∀ (m n i : Nat) (τ : Mem), absM τ 0 = S → TkM S τ → BM (fsS S i) (bRun S (fsS S i)) τ → NtM S i τ → i + m = nS S → m < n → Ex (Md_looks_21 n i τ) (fun _ τ' => Fr FB τ τ' ∧ BkM S τ') := by
  have hNn := hS.n
  have hfs := fsS_le hS (nS S) (Nat.le_refl _)
  intro m
  induction m with
  | zero =>
    intro n i τ hA hT hB hN him hn
    obtain ⟨n, rfl⟩ : ∃ z, n = z + 1 := ⟨n - 1, by omega⟩
    have en : τ 1 0 = S 0 0 := by rw [← hA, aM_n]
    show Ex (Md_looks_21b (Md_looks_21 n) i τ) _
    unfold Md_looks_21b
    rw [if_pos (by decide), show (wr 0).toNat = 0 from by decide, en, wr_id (n := (i : Int)) (by omega) (by omega), wr_id (n := S 0 0) (by omega) (by omega), if_neg (by omega), if_pos (by decide), show S 0 0 = (i : Int) by omega]
    have := md_notes (bOk_run (S := S) (fsS S i)) (by omega) hB hN rfl
    refine Ex.bnd (this.mono (fun r ρ q => Ex.ret ⟨q.1, ?_, ?_⟩))
    · rw [show nS S = i by omega]; exact q.2.1
    · rw [show nS S = i by omega]; exact q.2.2
  | succ m ih =>
    intro n i τ hA hT hB hN him hn
    obtain ⟨n, rfl⟩ : ∃ z, n = z + 1 := ⟨n - 1, by omega⟩
    have en : τ 1 0 = S 0 0 := by rw [← hA, aM_n]
    show Ex (Md_looks_21b (Md_looks_21 n) i τ) _
    unfold Md_looks_21b
    rw [if_pos (by decide), show (wr 0).toNat = 0 from by decide, en, wr_id (n := (i : Int)) (by omega) (by omega), wr_id (n := S 0 0) (by omega) (by omega), if_pos (by omega)]
    have := md_notes (bOk_run (S := S) (fsS S i)) (by omega) hB hN rfl
    refine Ex.bnd (this.mono (fun r τ1 q => ?_))
    obtain ⟨hF, hB1, hN1⟩ := q
    have hT1 := FB_T hF hT
    have hfr : τ1 11 i = fsS S i := tk_fr hT1 (by omega)
    rw [if_pos (by omega), show ((i : Int)).toNat = i by omega]
    show Ex (Md_looks_43 _ 100000 i (τ1 11 i) τ1) _
    rw [hfr]
    have hfi := fsS_le hS (i + 1) (by omega)
    have hmo := fsS_mono S (show i ≤ i + 1 by omega)
    exact md_looks_43 hS (by omega) (fsS S (i + 1) - fsS S i) 100000 (fsS S i) τ1 (by rw [FB_A hF]; exact hA) hT1 hB1 hN1 (by omega) (by omega) (fun τ2 hF2 hB2 hN2 => by
      have := ih n (i + 1) τ2 (by rw [FB_A hF2, FB_A hF]; exact hA) (FB_T hF2 hT1) hB2 hN2 (by omega) (by omega)
      rw [show (((i + 1 : Nat)) : Int) = (i : Int) + 1 by omega] at this
      exact this.mono (fun r ρ q => ⟨(hF.tr hF2).tr q.1, q.2⟩))
def FK (o k : Nat) : Prop := FT o k ∨ FB o k
theorem md_looks {τ : Mem} (hS : SV (absM τ 0)) : Ex (Md_looks τ) (fun _ τ' => Fr FK τ τ' ∧ TkM (absM τ 0) τ' ∧ BkM (absM τ 0) τ') := by
  have hNn := hS.n
  unfold Md_looks
  refine Ex.bnd ((md_tokenizes hS).mono (fun r τ1 q => ?_))
  obtain ⟨hF1, hT1⟩ := q
  refine Ex.lt (Ex.lt (Ex.lt ?_))
  generalize hτ2 : upM (upM (upM τ1 0 18 0) 0 19 0) 0 20 0 = τ2
  have hF2 : Fr FB τ1 τ2 := by rw [← hτ2]; exact Fr.up (Fr.up (Fr.up Fr.rf (by unfold FB; omega)) (by unfold FB; omega)) (by unfold FB; omega)
  have := md_looks_21 hS (nS (absM τ 0)) 100000 0 τ2 (by rw [FB_A hF2, absM_congr (FT_1 hF1)]) (FB_T hF2 hT1) ⟨by rw [← hτ2]; simp [upM, bRun, fsS], fun k hk => by simp [bRun, fsS] at hk, fun u hu => by simp [fsS] at hu, by rw [← hτ2]; simp [upM, bRun, fsS], by rw [← hτ2]; simp [upM, bRun, fsS]⟩ (fun j hj => by omega) (by omega) (by omega)
  exact this.mono (fun r ρ q => ⟨(hF1.mono (fun o k z => Or.inl z)).tr ((hF2.tr q.1).mono (fun o k z => Or.inr z)), FB_T (hF2.tr q.1) hT1, q.2⟩)
theorem FK_1 {τ τ' : Mem} (h : Fr FK τ τ') : τ' 1 = τ 1 := by funext k; exact h 1 k (by unfold FK FT FB; omega)
