/-! ===== uses(), settles() of the reference ===== -/
section CG
variable {S : Mem} {rw rw' : Nat → Int} {stp bas : Int} {i : Nat}
theorem cin_congr (hS : SV S) (h : ∀ j, j < nS S → rw j = rw' j) {b : Nat} (hb : b < fsS S (nS S)) : cinS S rw stp b = cinS S rw' stp b := by
  have := (tq_ok hS hb).1
  unfold cinS
  rw [h _ this]
theorem grd_congr (hS : SV S) (h : ∀ j, j < nS S → rw j = rw' j) (hi : i < nS S) : grdS S rw stp bas i = grdS S rw' stp bas i := by
  have hm := fsS_mono S (show i ≤ nS S by omega)
  have hb := blkS_ok (S := S) (i := i)
  unfold grdS
  by_cases q : blkS S i = -1
  · rw [if_pos q, if_pos q]
  · rw [if_neg q, if_neg q, cin_congr hS h (by omega)]
theorem o1_congr (hS : SV S) (h : ∀ j, j < nS S → rw j = rw' j) (hi : i < nS S) : o1S S rw stp i = o1S S rw' stp i := by
  have hm := fsS_mono S (show i ≤ nS S by omega)
  have hl := (ldF_ok (S := S) (i := i)).2.2
  unfold o1S
  by_cases q : (ldF S i).2 = -1
  · rw [if_pos q, if_pos q]
  · rw [if_neg q, if_neg q]
    have hc : (ldF S i).2.toNat < fsS S (nS S) := by omega
    have e : ccS S rw stp (ldF S i).2.toNat = ccS S rw' stp (ldF S i).2.toNat := by
      unfold ccS
      rw [h _ (tq_ok hS hc).1, cin_congr hS h hc]
    rw [e]
theorem o4_congr (hS : SV S) (h : ∀ j, j < nS S → rw j = rw' j) (hi : i < nS S) : o4S S rw stp bas i = o4S S rw' stp bas i := by
  unfold o4S o3S o2S
  rw [o1_congr hS h hi, grd_congr hS h hi]
theorem wan_congr (hS : SV S) (h : ∀ j, j < nS S → rw j = rw' j) (hi : i < nS S) : wanS S rw stp bas i = wanS S rw' stp bas i := by
  unfold wanS
  rw [o4_congr hS h hi]
theorem wan_rng : 0 ≤ wanS S rw stp bas i ∧ wanS S rw stp bas i ≤ 40 := by
  unfold wanS
  split
  · omega
  · split <;> omega
end CG
/-- lines of a range get their wanted indentations, one behind the other; which ones change -/
noncomputable def setS (S : Mem) (stp bas : Int) : Nat → Nat → (Nat → Int) → Nat → (Nat → Int) × Nat
  | 0, _, rw, s => (rw, s)
  | m + 1, i, rw, s => cif (frS S i ∧ S 3 i = 0) (setS S stp bas m (i + 1) (up1 rw i (wanS S rw stp bas i)) (if wanS S rw stp bas i = S 1 i then s else s + 2 ^ i)) (setS S stp bas m (i + 1) rw s)
theorem setS_lt {S : Mem} {stp bas : Int} : ∀ (m i : Nat) (rw : Nat → Int) (s : Nat), s < 2 ^ i → (setS S stp bas m i rw s).2 < 2 ^ (i + m)
  | 0, i, rw, s, h => h
  | m + 1, i, rw, s, h => by
    have hp : 2 ^ (i + 1) = 2 ^ i * 2 := Nat.pow_succ 2 i
    unfold setS
    rw [show i + (m + 1) = i + 1 + m by omega]
    by_cases q : frS S i ∧ S 3 i = 0
    · rw [cif_pos q]
      exact setS_lt m (i + 1) _ _ (by split <;> omega)
    · rw [cif_neg q]
      exact setS_lt m (i + 1) _ _ (by omega)
theorem setS_congr {S : Mem} (hS : SV S) {stp bas : Int} : ∀ (m i : Nat) (rw rw' : Nat → Int) (s : Nat), i + m ≤ nS S → (∀ j, j < nS S → rw j = rw' j) → (setS S stp bas m i rw s).2 = (setS S stp bas m i rw' s).2 ∧ ∀ j, j < nS S → (setS S stp bas m i rw s).1 j = (setS S stp bas m i rw' s).1 j
  | 0, i, rw, rw', s, _, h => ⟨rfl, h⟩
  | m + 1, i, rw, rw', s, hi, h => by
    have e := wan_congr (stp := stp) (bas := bas) hS h (i := i) (by omega)
    unfold setS
    by_cases q : frS S i ∧ S 3 i = 0
    · rw [cif_pos q, cif_pos q, e]
      exact setS_congr hS m (i + 1) _ _ _ (by omega) (fun j hj => by
        unfold up1
        by_cases e2 : j = i
        · rw [if_pos e2, if_pos e2]
        · rw [if_neg e2, if_neg e2]; exact h j hj)
    · rw [cif_neg q, cif_neg q]
      exact setS_congr hS m (i + 1) _ _ _ (by omega) h
theorem or_0 {x : Nat} (h : x < 2 ^ 31) : orI (x : Int) 0 = x := by
  unfold orI
  rw [I3n, show I3 0 = nI 0 from rfl, nI_or, Nat.or_zero, nI_toInt h]
section ST
variable {S : Mem} {stp bas : Int}
def FS (o k : Nat) : Prop := o = 16 ∨ (o = 0 ∧ 24 ≤ k ∧ k ≤ 27)
theorem DM_row {τ : Mem} (hD : DM S τ stp bas) {i : Nat} {v : Int} (hv : 0 ≤ v ∧ v ≤ 40) : DM S (upM τ 16 i v) stp bas := by
  obtain ⟨d1, d2, d3, d4, d5, d6, d7⟩ := hD
  have k : ∀ o z, o ≠ 16 → upM τ 16 i v o z = τ o z := fun o z h => by simp [upM, h]
  refine ⟨d1, by rw [absM_congr (by funext z; exact k 1 z (by omega))]; exact d2, Tk_keep (fun o z hz => k o z (by omega)) d3, Bk_keep (fun o z hz => k o z (by omega)) d4, fun j hj => ?_, by rw [k 0 22 (by omega)]; exact d6, by rw [k 0 23 (by omega)]; exact d7⟩
  simp only [upM]
  split
  · exact hv
  · exact d5 j hj
theorem md_settles_5 : ∀ (m n i s : Nat) (τ : Mem), DM S τ stp bas → i + m ≤ nS S → m < n → s < 2 ^ i → Ex (Md_settles_5 n ((i + m : Nat) : Int) s i τ) (fun r τ' => r = ((setS S stp bas m i (τ 16) s).2 : Nat) ∧ Fr FS τ τ' ∧ τ' 16 = (setS S stp bas m i (τ 16) s).1 ∧ DM S τ' stp bas) := by
  intro m
  induction m with
  | zero =>
    intro n i s τ hD hi hn hs
    obtain ⟨n, rfl⟩ : ∃ z, n = z + 1 := ⟨n - 1, by omega⟩
    have hN := hD.1.n
    show Ex (Md_settles_5b (Md_settles_5 n) ((i + 0 : Nat) : Int) s i τ) _
    unfold Md_settles_5b
    rw [wr_id (n := (i : Int)) (by omega) (by omega), wr_id (n := ((i + 0 : Nat) : Int)) (by omega) (by omega), if_neg (by omega)]
    exact Ex.ret ⟨rfl, Fr.rf, rfl, hD⟩
  | succ m ih =>
    intro n i s τ hD hi hn hs
    obtain ⟨n, rfl⟩ : ∃ z, n = z + 1 := ⟨n - 1, by omega⟩
    have hN := hD.1.n
    have hp20 : (2 : Nat) ^ i ≤ 2 ^ 19 := Nat.pow_le_pow_right (by omega) (by omega)
    have hpp : 2 ^ (i + 1) = 2 ^ i * 2 := Nat.pow_succ 2 i
    have en : (i : Int) < τ 1 0 := by have := aM_n τ; rw [hD.2.1] at this; omega
    have epin : τ 1 (41 + i) = S 3 i := by have := aM_pin (τ := τ) (i := i) en; rw [hD.2.1] at this; exact this.symm
    have eind : τ 1 (1 + i) = S 1 i := by have := aM_ind (τ := τ) (i := i) en; rw [hD.2.1] at this; exact this.symm
    have hli := hD.1.2.2.2.2.1 i (by omega)
    have nx : ∀ (s' : Nat) (τ' : Mem), DM S τ' stp bas → s' < 2 ^ (i + 1) → Ex (Md_settles_5 n ((i + (m + 1) : Nat) : Int) s' ((i : Int) + 1) τ') (fun r τ'' => r = ((setS S stp bas m (i + 1) (τ' 16) s').2 : Nat) ∧ Fr FS τ' τ'' ∧ τ'' 16 = (setS S stp bas m (i + 1) (τ' 16) s').1 ∧ DM S τ'' stp bas) := by
      intro s' τ' hD' hs'
      have := ih n (i + 1) s' τ' hD' (by omega) (by omega) hs'
      rw [show i + 1 + m = i + (m + 1) by omega, show (((i + 1 : Nat)) : Int) = (i : Int) + 1 by omega] at this
      exact this
    show Ex (Md_settles_5b (Md_settles_5 n) ((i + (m + 1) : Nat) : Int) s i τ) _
    unfold Md_settles_5b
    rw [wr_id (n := (i : Int)) (by omega) (by omega), wr_id (n := ((i + (m + 1) : Nat) : Int)) (by omega) (by omega), if_pos (by omega), md_isFree hD (by omega)]
    simp only [Option.bind_some]
    unfold setS
    by_cases q : frS S i
    · rw [cif_pos q, wr_1, if_neg (by decide), if_pos (inb (by omega) (by omega) (by omega)), wrn (n := 41 + i) (by omega) (by omega), epin, wr_id (n := S 3 i) (by omega) (by omega)]
      by_cases q2 : S 3 i = 0
      · rw [if_pos q2, cif_pos ⟨q, q2⟩]
        refine Ex.bnd ((md_decides hD rfl (by omega)).mono (fun _ τ1 z => ?_))
        obtain ⟨hF, h24, h25, h26⟩ := z
        have hD1 := DM_Fr hF hD
        have e16 := FD16 hF
        rw [if_pos (by omega)]
        have hw := wan_rng (S := S) (rw := τ 16) (stp := stp) (bas := bas) (i := i)
        have h24' : (0, τ1).2 0 24 = wanS S (τ 16) stp bas i := h24
        rw [h24', show ((i : Int)).toNat = i by omega]
        refine Ex.lt ?_
        have k2 : ∀ o z, o ≠ 16 → (upM τ1 16 i (wanS S (τ 16) stp bas i)) o z = τ1 o z := fun o z h => by simp [upM, h]
        have e24 : (upM τ1 16 i (wanS S (τ 16) stp bas i)) 0 24 = wanS S (τ 16) stp bas i := by rw [k2 0 24 (by omega)]; exact h24
        have e1i : (upM τ1 16 i (wanS S (τ 16) stp bas i)) 1 (1 + i) = S 1 i := by rw [k2 1 _ (by omega), hF 1 _ (by unfold FD; omega)]; exact eind
        show Ex (if 0 ≤ wr (1 + (i : Int)) ∧ wr (1 + (i : Int)) < 10780 then _ else none) _
        rw [if_pos (inb (by omega) (by omega) (by omega)), wrn (n := 1 + i) (by omega) (by omega)]
        show Ex (if wr ((upM τ1 16 i (wanS S (τ 16) stp bas i)) 0 24) = wr ((upM τ1 16 i (wanS S (τ 16) stp bas i)) 1 (1 + i)) then _ else _) _
        rw [e24, e1i, wr_id (n := wanS S (τ 16) stp bas i) (by omega) (by omega), wr_id (n := S 1 i) (by omega) (by omega)]
        have hD2 := DM_row hD1 (i := i) hw
        have e162 : (upM τ1 16 i (wanS S (τ 16) stp bas i)) 16 = up1 (τ 16) i (wanS S (τ 16) stp bas i) := by rw [upM_at, e16]; rfl
        have hF2 : Fr FS τ (upM τ1 16 i (wanS S (τ 16) stp bas i)) := Fr.up (hF.mono (fun o k z => Or.inr z)) (Or.inl rfl)
        by_cases q3 : wanS S (τ 16) stp bas i = S 1 i
        · rw [if_pos q3, if_pos q3, or_0 (by omega)]
          have := nx s _ hD2 (by omega)
          rw [e162] at this
          exact this.mono (fun r ρ y => ⟨y.1, hF2.tr y.2.1, y.2.2⟩)
        · rw [if_neg q3, if_neg q3, or_bits (by omega) hs]
          have := nx (s + 2 ^ i) _ hD2 (by omega)
          rw [e162] at this
          exact this.mono (fun r ρ y => ⟨y.1, hF2.tr y.2.1, y.2.2⟩)
      · rw [if_neg q2, cif_neg (fun z => q2 z.2)]
        exact nx s τ hD (by omega)
    · rw [cif_neg q, wr_0, if_pos rfl, cif_neg (fun z => q z.1)]
      exact nx s τ hD (by omega)
def FU (o k : Nat) : Prop := FK o k ∨ o = 16 ∨ (o = 0 ∧ 22 ≤ k ∧ k ≤ 27)
theorem md_uses_6 (hS : SV S) : ∀ (m n k : Nat) (τ : Mem), absM τ 0 = S → k + m = nS S → m < n → (∀ j, j < k → τ 16 j = S 1 j) → Ex (Md_uses_6 n stp bas k τ) (fun _ τ' => Fr (fun o z => o = 16 ∨ (o = 0 ∧ (z = 22 ∨ z = 23))) τ τ' ∧ (∀ j, j < nS S → τ' 16 j = S 1 j) ∧ τ' 0 22 = stp ∧ τ' 0 23 = bas) := by
  have hN := hS.n
  intro m
  induction m with
  | zero =>
    intro n k τ hA hk hn hj
    obtain ⟨n, rfl⟩ : ∃ z, n = z + 1 := ⟨n - 1, by omega⟩
    have en : τ 1 0 = S 0 0 := by rw [← hA, aM_n]
    show Ex (Md_uses_6b (Md_uses_6 n) stp bas k τ) _
    unfold Md_uses_6b
    rw [if_pos (by decide), show (wr 0).toNat = 0 from by decide, en, wr_id (n := (k : Int)) (by omega) (by omega), wr_id (n := S 0 0) (by omega) (by omega), if_neg (by omega)]
    exact Ex.lt (Ex.lt (Ex.ret ⟨Fr.up (Fr.up Fr.rf (by omega)) (by omega), fun j h => by simpa [upM] using hj j (by omega), by simp [upM], by simp [upM]⟩))
  | succ m ih =>
    intro n k τ hA hk hn hj
    obtain ⟨n, rfl⟩ : ∃ z, n = z + 1 := ⟨n - 1, by omega⟩
    have en : τ 1 0 = S 0 0 := by rw [← hA, aM_n]
    have eind : τ 1 (1 + k) = S 1 k := by have := aM_ind (τ := τ) (i := k) (by omega); rw [hA] at this; exact this.symm
    show Ex (Md_uses_6b (Md_uses_6 n) stp bas k τ) _
    unfold Md_uses_6b
    rw [if_pos (by decide), show (wr 0).toNat = 0 from by decide, en, wr_id (n := (k : Int)) (by omega) (by omega), wr_id (n := S 0 0) (by omega) (by omega), if_pos (by omega), if_pos (inb (by omega) (by omega) (by omega)), if_pos (by omega), wrn (n := 1 + k) (by omega) (by omega), eind, show ((k : Int)).toNat = k by omega]
    refine Ex.lt ?_
    have := ih n (k + 1) (upM τ 16 k (S 1 k)) (by rw [absM_congr (τ := τ) (by funext z; simp [upM])]; exact hA) (by omega) (by omega) (fun j h => by
      by_cases e : j = k
      · subst e; simp [upM]
      · have := hj j (by omega); simpa [upM, e] using this)
    rw [show (((k + 1 : Nat)) : Int) = (k : Int) + 1 by omega] at this
    exact this.mono (fun r ρ q => ⟨(Fr.up Fr.rf (by omega)).tr q.1, q.2⟩)
theorem md_uses {τ : Mem} (hS : SV (absM τ 0)) (hs : 1 ≤ stp ∧ stp ≤ 8) (hb : 0 ≤ bas ∧ bas ≤ 20) : Ex (Md_uses stp bas τ) (fun _ τ' => Fr FU τ τ' ∧ DM (absM τ 0) τ' stp bas ∧ ∀ j, j < nS (absM τ 0) → τ' 16 j = absM τ 0 1 j) := by
  have hN := hS.n
  unfold Md_uses
  refine Ex.bnd ((md_looks hS).mono (fun _ τ1 q => ?_))
  obtain ⟨hF1, hT1, hB1⟩ := q
  have hA1 : absM τ1 0 = absM τ 0 := absM_congr (FK_1 hF1) 0
  have := md_uses_6 (stp := stp) (bas := bas) hS (nS (absM τ 0)) 100000 0 τ1 hA1 (by omega) (by omega) (fun j h => by omega)
  refine this.mono (fun _ τ2 z => ?_)
  obtain ⟨hF2, hr, h22, h23⟩ := z
  have k : ∀ o y, o ≠ 16 → (o ≠ 0 ∨ (y ≠ 22 ∧ y ≠ 23)) → τ2 o y = τ1 o y := fun o y h1 h2 => hF2 o y (by omega)
  refine ⟨(hF1.mono (fun o y z => Or.inl z)).tr (hF2.mono (fun o y z => Or.inr (by omega))), ⟨hS, by rw [absM_congr (by funext y; exact k 1 y (by omega) (by omega))]; exact hA1, Tk_keep (fun o y hz => k o y (by omega) (by omega)) hT1, Bk_keep (fun o y hz => k o y (by omega) (by omega)) hB1, fun j hj => ?_, ⟨h22, hs⟩, ⟨h23, hb⟩⟩, hr⟩
  rw [hr j hj]
  exact (hS.2.2.2.2.1 j (by omega)).1
end ST
