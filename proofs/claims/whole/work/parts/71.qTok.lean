/-! ===== queries about tokens and blocks ===== -/
def FV (o _k : Nat) : Prop := 340 ≤ o
theorem FT_R {o k : Nat} (h : FT o k) : FR o k := by unfold FT at h; unfold FR; omega
theorem FK_R {o k : Nat} (h : FK o k) : FR o k := by unfold FK FT FB at h; unfold FR; omega
theorem FU_R {o k : Nat} (h : FU o k) : FR o k := by unfold FU FK FT FB at h; unfold FR; omega
theorem FD_R {o k : Nat} (h : FD o k) : FR o k := by unfold FD at h; unfold FR; omega
theorem FS_R {o k : Nat} (h : FS o k) : FR o k := by unfold FS at h; unfold FR; omega
/-- the class has looked at the present state -/
def Kw (S τ σ1 : Mem) : Prop := PX S σ1 ∧ PlC S (nS S) σ1 ∧ ∀ σ2 τ', Fr FV σ1 σ2 → Fr FR τ τ' → Inv σ2 τ'
section QT
variable {σ τ : Mem}
theorem Inv.study (h : Inv σ τ) : Ex (Ai_study σ) (fun _ σ1 => Kw (absM τ 0) τ σ1 ∧ σ1 1 = σ 1 ∧ σ1 2 = σ 2) := by
  have hA := h.1.1
  refine (ai_study (σ := σ) (by rw [hA]; exact h.1.2.1) h.1.2.2.1 (by rw [hA]; exact h.1.2.2.2)).mono (fun _ σ1 z => ?_)
  obtain ⟨hF, hA1, hc1, h11, hK⟩ := z
  rw [hA] at hK hA1
  refine ⟨⟨⟨h.1.2.1, ?_, hA1, hc1, hK.1, hK.2.1⟩, hK.2.2, fun σ2 τ' h2 hτ => ?_⟩, ?_, ?_⟩
  · have := SN_C σ; rw [hA] at this; exact this
  · refine Inv_q h ((hF.mono (fun o k q => by unfold FST at q; unfold FQ; omega)).tr (h2.mono (fun o k q => by unfold FV at q; unfold FQ; omega))) hτ (Or.inr ⟨?_, Kn_Fr h2 (fun o k q => by unfold FV at q; omega) hK⟩)
    rw [h2 0 11 (by unfold FV; omega)]; exact h11
  · funext k; exact hF 1 k (by unfold FST; omega)
  · funext k; exact hF 2 k (by unfold FST; omega)
theorem Kw.n {S τ σ1 : Mem} (h : Kw S τ σ1) : σ1 2 0 = S 0 0 ∧ (0 ≤ σ1 2 0 ∧ σ1 2 0 ≤ 20) ∧ ((nS S : Nat) : Int) = S 0 0 ∧ nS S ≤ 20 := by
  have e : σ1 2 0 = S 0 0 := by rw [← h.1.2.2.1]; rfl
  have := h.1.1.n
  exact ⟨e, by omega, this.1, this.2⟩
theorem t_isProtected (h : Inv σ τ) {a : Int} (ha : RI a) : Two (Ai_isProtected a σ) (Md_isProtected a τ) := by
  have hb := h.nb
  have hn := h.n
  unfold Ai_isProtected Md_isProtected Two
  rw [lin_has ha hb.1, md_isLine ha hb.2]
  simp only [Option.bind_some]
  rw [hn.1]
  by_cases q : 0 ≤ a ∧ a < τ 1 0
  · obtain ⟨i, rfl⟩ : ∃ z : Nat, a = (z : Int) := ⟨a.toNat, by omega⟩
    rw [if_pos q, wr_1, if_neg n10, if_neg n10]
    refine Ex.bnd (h.study.mono (fun _ σ1 z => ?_))
    obtain ⟨hK, -⟩ := z
    rw [rg_300 (by omega) (by omega)]
    simp only [Option.bind_some]
    rw [show ((i : Int)).toNat = i by omega]
    refine Ex.ret (Ex.bnd ((md_tokenizes h.1.2.1).mono (fun _ τ1 y => ?_)))
    have e1 : σ1 301 i = hdS (absM τ 0) i := hK.1.2.2.2.2.1.1.2.2.1 i (by omega)
    have e2 : τ1 12 i = hdS (absM τ 0) i := y.2.1.2.2.1 i (by omega)
    have hh : hdS (absM τ 0) i = 0 ∨ hdS (absM τ 0) i = 1 := by unfold hdS; split <;> omega
    rw [if_pos (inb (by omega) (by omega) (by omega)), wrn (a := (i : Int)) rfl (by omega)]
    show Ex (if wr (τ1 12 i) = 0 then _ else _) _
    have hI := hK.2.2 σ1 τ1 Fr.rf (y.1.mono (fun o k => FT_R))
    rw [e2, e1]
    rcases hh with z | z
    · rw [z, wr_0, if_pos rfl]; exact Ex.ret ⟨rfl, hI⟩
    · rw [z, wr_1, if_neg n10]; exact Ex.ret ⟨rfl, hI⟩
  · rw [if_neg q, wr_0, if_pos rfl, if_pos rfl]
    exact Ex.ret (Ex.ret ⟨rfl, h⟩)
theorem t_tokens (h : Inv σ τ) {a : Int} (ha : RI a) : Two (Ai_tokens a σ) (Md_tokens a τ) := by
  have hb := h.nb
  have hn := h.n
  unfold Ai_tokens Md_tokens Two
  rw [lin_has ha hb.1, md_isLine ha hb.2]
  simp only [Option.bind_some]
  rw [hn.1]
  by_cases q : 0 ≤ a ∧ a < τ 1 0
  · obtain ⟨i, rfl⟩ : ∃ z : Nat, a = (z : Int) := ⟨a.toNat, by omega⟩
    rw [if_pos q, wr_1, if_neg n10, if_neg n10]
    refine Ex.bnd (h.study.mono (fun _ σ1 z => ?_))
    obtain ⟨hK, -⟩ := z
    have hT := hK.1.2.2.2.2.1
    unfold Tok_countIn
    rw [rg_298 (by omega) (by omega)]
    simp only [Option.bind_some]
    rw [rg_298 (by omega) (by omega)]
    simp only [Option.bind_some]
    rw [show ((i : Int)).toNat = i by omega, show ((i : Int) + 1).toNat = i + 1 by omega, tk_fr hT (by omega), tk_fr hT (by omega)]
    refine Ex.ret (Ex.bnd ((md_tokenizes h.1.2.1).mono (fun _ τ1 y => ?_)))
    rw [if_pos (inb (by omega) (by omega) (by omega)), if_pos (inb (by omega) (by omega) (by omega)), wrn (a := (i : Int)) rfl (by omega), wrn (n := i + 1) (by omega) (by omega)]
    show Ex (some (τ1 11 (i + 1) - τ1 11 i, τ1)) _
    rw [tk_fr y.2 (by omega), tk_fr y.2 (by omega)]
    exact Ex.ret ⟨rfl, hK.2.2 σ1 τ1 Fr.rf (y.1.mono (fun o k => FT_R))⟩
  · rw [if_neg q, wr_0, if_pos rfl, if_pos rfl]
    exact Ex.ret (Ex.ret ⟨rfl, h⟩)
noncomputable def tokN (S : Mem) (a b : Int) : Int := if 0 ≤ a ∧ a < S 0 0 ∧ 0 ≤ b ∧ b < (fsS S (a.toNat + 1) : Int) - fsS S a.toNat then fsS S a.toNat + b else -1
theorem tokN_rng {S : Mem} (hS : SV S) (a b : Int) : tokN S a b = -1 ∨ (0 ≤ tokN S a b ∧ (tokN S a b).toNat < fsS S (nS S)) := by
  unfold tokN
  split
  · rename_i q
    have hN := hS.n
    have hm := fsS_mono S (show a.toNat + 1 ≤ nS S by omega)
    right; omega
  · exact Or.inl rfl
theorem ai_findToken {S σ1 : Mem} (hK : Kw S τ σ1) {a b : Int} (ha : RI a) (hb : RI b) : Ai_findToken a b σ1 = some (tokN S a b, σ1) := by
  have hn := hK.n
  have hS := hK.1.1
  have hT := hK.1.2.2.2.2.1
  have hfs := fsS_le hS (nS S) (Nat.le_refl _)
  unfold Ai_findToken Ai_findToken_35 tokN
  rw [lin_has ha hn.2.1]
  simp only [Option.bind_some]
  rw [hn.1, hb.w, wr_0, wr_1]
  by_cases q : 0 ≤ a ∧ a < S 0 0
  · obtain ⟨i, rfl⟩ : ∃ z : Nat, a = (z : Int) := ⟨a.toNat, by omega⟩
    rw [if_pos q, wr_1, if_neg n10, show ((i : Int)).toNat = i by omega]
    by_cases q2 : b < 0
    · rw [if_pos q2, if_pos rfl, if_neg (by omega)]
    · unfold Tok_countIn
      have hm := fsS_mono S (show i + 1 ≤ nS S by omega)
      have hm2 := fsS_mono S (show i ≤ i + 1 by omega)
      rw [if_neg q2, rg_298 (by omega) (by omega)]
      simp only [Option.bind_some]
      rw [rg_298 (by omega) (by omega)]
      simp only [Option.bind_some]
      rw [show ((i : Int)).toNat = i by omega, show ((i : Int) + 1).toNat = i + 1 by omega, tk_fr hT (by omega), tk_fr hT (by omega), wr_id (n := ((fsS S (i + 1) : Nat) : Int) - (fsS S i : Nat)) (by omega) (by omega)]
      by_cases q3 : b < ((fsS S (i + 1) : Nat) : Int) - (fsS S i : Nat)
      · rw [if_pos q3, if_neg n10, if_pos (by omega), rg_298 (by omega) (by omega)]
        simp only [Option.bind_some]
        rw [show ((i : Int)).toNat = i by omega, tk_fr hT (by omega)]
      · rw [if_neg q3, if_pos (by trivial), if_neg (by omega)]
  · rw [if_neg q, wr_0, if_pos rfl, if_pos rfl, if_neg (fun z => q ⟨z.1, z.2.1⟩)]
theorem md_tokenOf (h : Inv σ τ) {a b : Int} (ha : RI a) (hb : RI b) : Ex (Md_tokenOf a b τ) (fun r τ' => r = e9 (tokN (absM τ 0) a b) ∧ Fr FR τ τ' ∧ (tokN (absM τ 0) a b ≠ -1 → TkM (absM τ 0) τ' ∧ BkM (absM τ 0) τ')) := by
  have hnb := h.nb
  have hn := h.n
  have hS := h.1.2.1
  have hfs := fsS_le hS (nS (absM τ 0)) (Nat.le_refl _)
  have en : absM τ 0 0 0 = τ 1 0 := aM_n τ
  unfold Md_tokenOf tokN
  rw [md_isLine ha hnb.2]
  simp only [Option.bind_some]
  by_cases q : 0 ≤ a ∧ a < τ 1 0
  · obtain ⟨i, rfl⟩ : ∃ z : Nat, a = (z : Int) := ⟨a.toNat, by omega⟩
    rw [if_pos q, wr_1, if_neg n10]
    refine Ex.bnd ((md_looks hS).mono (fun _ τ1 y => ?_))
    obtain ⟨hF, hT, hB⟩ := y
    have hm := fsS_mono (absM τ 0) (show i + 1 ≤ nS (absM τ 0) by omega)
    have hm2 := fsS_mono (absM τ 0) (show i ≤ i + 1 by omega)
    rw [if_pos (inb (by omega) (by omega) (by omega)), if_pos (inb (by omega) (by omega) (by omega)), wrn (a := (i : Int)) rfl (by omega), wrn (n := i + 1) (by omega) (by omega)]
    show Ex ((Md_in b 0 (τ1 11 (i + 1) - τ1 11 i - 1) τ1).bind _) _
    rw [tk_fr hT (by omega), tk_fr hT (by omega), md_in b 0 _ τ1 hb.w wr_0 (wr_id (by omega) (by omega)), show ((i : Int)).toNat = i by omega]
    simp only [Option.bind_some]
    have hF' := hF.mono (fun o k => FK_R)
    by_cases q3 : 0 ≤ b ∧ b ≤ ((fsS (absM τ 0) (i + 1) : Nat) : Int) - (fsS (absM τ 0) i : Nat) - 1
    · rw [if_pos q3, wr_1, if_neg n10, if_pos (show 0 ≤ (i : Int) ∧ (i : Int) < absM τ 0 0 0 ∧ 0 ≤ b ∧ b < ((fsS (absM τ 0) (i + 1) : Nat) : Int) - (fsS (absM τ 0) i : Nat) by omega), if_pos (inb (by omega) (by omega) (by omega)), tk_fr hT (by omega)]
      exact Ex.ret ⟨by rw [e9_id (by omega)], hF', fun _ => ⟨hT, hB⟩⟩
    · rw [if_neg q3, wr_0, if_pos rfl, if_neg (show ¬ (0 ≤ (i : Int) ∧ (i : Int) < absM τ 0 0 0 ∧ 0 ≤ b ∧ b < ((fsS (absM τ 0) (i + 1) : Nat) : Int) - (fsS (absM τ 0) i : Nat)) by omega)]
      exact Ex.ret ⟨rfl, hF', fun z => absurd rfl z⟩
  · rw [if_neg q, wr_0, if_pos rfl, if_neg (fun z => q ⟨z.1, by omega⟩)]
    exact Ex.ret ⟨rfl, Fr.rf, fun z => absurd rfl z⟩
/-- queries about a token -/
theorem t_tok (h : Inv σ τ) {a b : Int} (ha : RI a) (hb : RI b) {A : Int → Mem → Option (Int × Mem)} {B : Int → Mem → Option (Int × Mem)}
    (hAB : ∀ (T : Nat) (σ1 τ1 : Mem), T < fsS (absM τ 0) (nS (absM τ 0)) → Kw (absM τ 0) τ σ1 → TkM (absM τ 0) τ1 → BkM (absM τ 0) τ1 → ∃ r, A T σ1 = some (r, σ1) ∧ B T τ1 = some (r, τ1)) :
    Two ((Ai_study σ).bind fun q1 => (Ai_findToken a b q1.2).bind fun q2 => if wr q2.1 = -1 then some (-1, q2.2) else A q2.1 q2.2) ((Md_tokenOf a b τ).bind fun q1 => if wr q1.1 = -9 then some (-1, q1.2) else B q1.1 q1.2) := by
  have hS := h.1.2.1
  have hN := hS.n
  have hfs := fsS_le hS (nS (absM τ 0)) (Nat.le_refl _)
  refine Ex.bnd (h.study.mono (fun _ σ1 z => ?_))
  obtain ⟨hK, -⟩ := z
  have hr := tokN_rng hS a b
  show Ex ((Ai_findToken a b σ1).bind _) _
  rw [ai_findToken hK ha hb]
  simp only [Option.bind_some]
  rw [wr_id (n := tokN (absM τ 0) a b) (by omega) (by omega)]
  have hM := md_tokenOf h ha hb
  by_cases q : tokN (absM τ 0) a b = -1
  · rw [if_pos q]
    refine Ex.ret (Ex.bnd (hM.mono (fun r τ1 y => ?_)))
    obtain ⟨e, hF, -⟩ := y
    show Ex (if wr r = -9 then _ else _) _
    rw [e, q, e9_m1, show wr (-9) = -9 from by decide, if_pos rfl]
    exact Ex.ret ⟨rfl, hK.2.2 σ1 τ1 Fr.rf hF⟩
  · rw [if_neg q]
    obtain ⟨T, hT⟩ : ∃ z : Nat, tokN (absM τ 0) a b = (z : Int) := ⟨(tokN (absM τ 0) a b).toNat, by omega⟩
    rw [hT] at hM hr ⊢
    obtain ⟨r0, τ1, hM1, e, hF, hTB⟩ := hM
    obtain ⟨t1, t2⟩ := hTB (by omega)
    obtain ⟨r, hA, hB⟩ := hAB T σ1 τ1 (by omega) hK t1 t2
    rw [e9_id (by omega)] at e
    rw [hA]
    refine Ex.ret ?_
    rw [hM1]
    simp only [Option.bind_some]
    rw [e, wr_id (n := (T : Int)) (by omega) (by omega), if_neg (by omega), hB]
    exact Ex.ret ⟨rfl, hK.2.2 σ1 τ1 Fr.rf hF⟩
theorem t_tokenAt (h : Inv σ τ) {a b : Int} (ha : RI a) (hb : RI b) : Two (Ai_tokenAt a b σ) (Md_tokenAt a b τ) := by
  have hfs := fsS_le h.1.2.1 (nS (absM τ 0)) (Nat.le_refl _)
  have hn := h.n
  refine t_tok h ha hb (A := fun t s => (Row_get 292 t s).bind fun q3 => some (q3.1, q3.2)) (B := fun t s => if 0 ≤ wr t ∧ wr t < (641 : Int) then (some ((s 5 (wr t).toNat), s)) else none) (fun T σ1 τ1 hT hK t1 t2 => ⟨(tq (absM τ 0) T).2.1, ?_, ?_⟩)
  · show (Row_get 292 T σ1).bind _ = _
    rw [rg_292 (by omega) (by omega)]
    simp only [Option.bind_some]
    rw [show ((T : Int)).toNat = T by omega, (tk_arr hK.1.2.2.2.2.1 hT).2.1]
  · show (if 0 ≤ wr (T : Int) ∧ wr (T : Int) < (641 : Int) then (some ((τ1 5 (wr (T : Int)).toNat), τ1)) else none) = _
    rw [if_pos (inb (by omega) (by omega) (by omega)), wrn (a := (T : Int)) rfl (by omega), (tk_arr t1 hT).2.1]
theorem t_tokenLength (h : Inv σ τ) {a b : Int} (ha : RI a) (hb : RI b) : Two (Ai_tokenLength a b σ) (Md_tokenLength a b τ) := by
  have hfs := fsS_le h.1.2.1 (nS (absM τ 0)) (Nat.le_refl _)
  have hn := h.n
  refine t_tok h ha hb (A := fun t s => (Row_get 294 t s).bind fun q3 => some (q3.1, q3.2)) (B := fun t s => if 0 ≤ wr t ∧ wr t < (641 : Int) then (some ((s 6 (wr t).toNat), s)) else none) (fun T σ1 τ1 hT hK t1 t2 => ⟨(tq (absM τ 0) T).2.2.1, ?_, ?_⟩)
  · show (Row_get 294 T σ1).bind _ = _
    rw [rg_294 (by omega) (by omega)]
    simp only [Option.bind_some]
    rw [show ((T : Int)).toNat = T by omega, (tk_arr hK.1.2.2.2.2.1 hT).2.2.1]
  · show (if 0 ≤ wr (T : Int) ∧ wr (T : Int) < (641 : Int) then (some ((τ1 6 (wr (T : Int)).toNat), τ1)) else none) = _
    rw [if_pos (inb (by omega) (by omega) (by omega)), wrn (a := (T : Int)) rfl (by omega), (tk_arr t1 hT).2.2.1]
theorem t_tokenKind (h : Inv σ τ) {a b : Int} (ha : RI a) (hb : RI b) : Two (Ai_tokenKind a b σ) (Md_tokenKind a b τ) := by
  have hfs := fsS_le h.1.2.1 (nS (absM τ 0)) (Nat.le_refl _)
  have hn := h.n
  refine t_tok h ha hb (A := fun t s => (Row_get 296 t s).bind fun q3 => some (q3.1, q3.2)) (B := fun t s => if 0 ≤ wr t ∧ wr t < (641 : Int) then (some ((s 7 (wr t).toNat), s)) else none) (fun T σ1 τ1 hT hK t1 t2 => ⟨(tq (absM τ 0) T).2.2.2, ?_, ?_⟩)
  · show (Row_get 296 T σ1).bind _ = _
    rw [rg_296 (by omega) (by omega)]
    simp only [Option.bind_some]
    rw [show ((T : Int)).toNat = T by omega, (tk_arr hK.1.2.2.2.2.1 hT).2.2.2]
  · show (if 0 ≤ wr (T : Int) ∧ wr (T : Int) < (641 : Int) then (some ((τ1 7 (wr (T : Int)).toNat), τ1)) else none) = _
    rw [if_pos (inb (by omega) (by omega) (by omega)), wrn (a := (T : Int)) rfl (by omega), (tk_arr t1 hT).2.2.2]
noncomputable def plN (S : Mem) (t : Int) : Int := if t = -1 then -9 else 100 * ((tq S t.toNat).1 : Nat) + t - (fsS S (tq S t.toNat).1 : Nat)
theorem ai_placeOf {S σ1 : Mem} (hK : Kw S τ σ1) {t : Int} (ht : t = -1 ∨ (0 ≤ t ∧ t.toNat < fsS S (nS S))) : Ai_placeOf t σ1 = some (plN S t, σ1) := by
  have hn := hK.n
  have hS := hK.1.1
  have hT := hK.1.2.2.2.2.1
  have hfs := fsS_le hS (nS S) (Nat.le_refl _)
  unfold Ai_placeOf plN
  rw [wr_id (n := t) (by omega) (by omega)]
  by_cases q : t = -1
  · rw [if_pos q, if_pos q]
  · have hk := tq_ok hS (T := t.toNat) (by omega)
    rw [if_neg q, if_neg q, rg_290 (by omega) (by omega)]
    simp only [Option.bind_some]
    rw [(tk_arr hT (by omega)).1, rg_298 (by omega) (by omega)]
    simp only [Option.bind_some]
    rw [show (((tq S t.toNat).1 : Nat) : Int).toNat = (tq S t.toNat).1 by omega, tk_fr hT (by omega)]
theorem md_placeOf {S τ1 : Mem} (hS : SV S) (hT : TkM S τ1) {t : Int} (ht : t = -1 ∨ (0 ≤ t ∧ t.toNat < fsS S (nS S))) : Md_placeOf (e9 t) τ1 = some (plN S t, τ1) := by
  have hn := hS.n
  have hfs := fsS_le hS (nS S) (Nat.le_refl _)
  unfold Md_placeOf plN
  by_cases q : t = -1
  · rw [q, e9_m1, show wr (-9) = -9 from by decide, if_pos rfl, if_pos rfl]
  · have hk := tq_ok hS (T := t.toNat) (by omega)
    obtain ⟨T, rfl⟩ : ∃ z : Nat, t = (z : Int) := ⟨t.toNat, by omega⟩
    have ha := tk_arr hT (T := T) (by omega)
    rw [show ((T : Int)).toNat = T by omega] at *
    rw [if_neg q, e9_id (by omega), if_neg (by rw [wr_id (by omega) (by omega)]; omega), if_pos (inb (by omega) (by omega) (by omega)), if_pos (inb (by omega) (by omega) (by omega)), wrn (a := (T : Int)) rfl (by omega), ha.1, if_pos (inb (by omega) (by omega) (by omega)), wrn (a := (((tq S T).1 : Nat) : Int)) rfl (by omega), tk_fr hT (by omega)]
theorem t_openedBy (h : Inv σ τ) {a b : Int} (ha : RI a) (hb : RI b) : Two (Ai_openedBy a b σ) (Md_openedBy a b τ) := by
  have hfs := fsS_le h.1.2.1 (nS (absM τ 0)) (Nat.le_refl _)
  have hn := h.n
  refine t_tok h ha hb (A := fun t s => (Row_get 311 t s).bind fun q3 => (Ai_placeOf q3.1 q3.2).bind fun q4 => some (q4.1, q4.2)) (B := fun t s => if 0 ≤ wr t ∧ wr t < (641 : Int) then ((Md_placeOf (s 9 (wr t).toNat) s).bind fun q2 => some (q2.1, q2.2)) else none) (fun T σ1 τ1 hT hK t1 t2 => ⟨plN (absM τ 0) (cls (absM τ 0) T), ?_, ?_⟩)
  · show (Row_get 311 T σ1).bind _ = _
    have hc : cls (absM τ 0) T = -1 ∨ (0 ≤ cls (absM τ 0) T ∧ (cls (absM τ 0) T).toNat < fsS (absM τ 0) (nS (absM τ 0))) := by
      by_cases q : cls (absM τ 0) T = -1
      · exact Or.inl q
      · have := cls_stk q; right; omega
    rw [rg_311 (by omega) (by omega)]
    simp only [Option.bind_some]
    rw [show ((T : Int)).toNat = T by omega, (bc_at hK.1 hT).2.1, ai_placeOf hK hc]
    rfl
  · show (if 0 ≤ wr (T : Int) ∧ wr (T : Int) < (641 : Int) then ((Md_placeOf (τ1 9 (wr (T : Int)).toNat) τ1).bind fun q2 => some (q2.1, q2.2)) else none) = _
    have hc : cls (absM τ 0) T = -1 ∨ (0 ≤ cls (absM τ 0) T ∧ (cls (absM τ 0) T).toNat < fsS (absM τ 0) (nS (absM τ 0))) := by
      by_cases q : cls (absM τ 0) T = -1
      · exact Or.inl q
      · have := cls_stk q; right; omega
    rw [if_pos (inb (by omega) (by omega) (by omega)), wrn (a := (T : Int)) rfl (by omega), (bk_op t2 hT).2, md_placeOf h.1.2.1 t1 hc]
    rfl
theorem t_closedBy (h : Inv σ τ) {a b : Int} (ha : RI a) (hb : RI b) : Two (Ai_closedBy a b σ) (Md_closedBy a b τ) := by
  have hfs := fsS_le h.1.2.1 (nS (absM τ 0)) (Nat.le_refl _)
  have hn := h.n
  refine t_tok h ha hb (A := fun t s => (Row_get 313 t s).bind fun q3 => (Ai_placeOf q3.1 q3.2).bind fun q4 => some (q4.1, q4.2)) (B := fun t s => if 0 ≤ wr t ∧ wr t < (641 : Int) then ((Md_placeOf (s 10 (wr t).toNat) s).bind fun q2 => some (q2.1, q2.2)) else none) (fun T σ1 τ1 hT hK t1 t2 => ⟨plN (absM τ 0) ((bRun (absM τ 0) (fsS (absM τ 0) (nS (absM τ 0)))).2.2.2.1 T), ?_, ?_⟩)
  · show (Row_get 313 T σ1).bind _ = _
    have hc := (bOk_run (S := absM τ 0) (fsS (absM τ 0) (nS (absM τ 0)))).2.2.2.2.1 T
    rw [rg_313 (by omega) (by omega)]
    simp only [Option.bind_some]
    rw [show ((T : Int)).toNat = T by omega, (hK.1.2.2.2.2.2.1.2.2.1 T hT).2.2, ai_placeOf hK (by omega)]
    rfl
  · show (if 0 ≤ wr (T : Int) ∧ wr (T : Int) < (641 : Int) then ((Md_placeOf (τ1 10 (wr (T : Int)).toNat) τ1).bind fun q2 => some (q2.1, q2.2)) else none) = _
    have hc := (bOk_run (S := absM τ 0) (fsS (absM τ 0) (nS (absM τ 0)))).2.2.2.2.1 T
    rw [if_pos (inb (by omega) (by omega) (by omega)), wrn (a := (T : Int)) rfl (by omega), (t2.1.2.2.1 T hT).2.2, md_placeOf h.1.2.1 t1 (by omega)]
    rfl
end QT
