/-! ===== wanted indentations; which lines would change ===== -/
section WA
variable {σ τ : Mem}
theorem md_isDecided (h : Inv σ τ) {i : Nat} (hi : i < nS (absM τ 0)) : Ex (Md_isDecided i τ) (fun r τ' => Fr FR τ τ' ∧ (frS (absM τ 0) i → r = 1 ∧ τ' 0 24 = wanS (absM τ 0) (absM τ 0 1) (τ 1 977) (τ 1 978) i ∧ τ' 0 25 = (o4S (absM τ 0) (absM τ 0 1) (τ 1 977) (τ 1 978) i).2.2.1 ∧ τ' 0 26 = e9 (o4S (absM τ 0) (absM τ 0 1) (τ 1 977) (τ 1 978) i).2.2.2) ∧ (¬ frS (absM τ 0) i → r = 0)) := by
  have hS := h.1.2.1
  unfold Md_isDecided
  rw [if_pos (by decide), if_pos (by decide), show (wr 977).toNat = 977 from by decide, show (wr 978).toNat = 978 from by decide]
  refine Ex.bnd (h.useM.mono (fun _ τ1 y => ?_))
  obtain ⟨hF, hD, hr⟩ := y
  show Ex ((Md_isFree i τ1).bind _) _
  rw [md_isFree hD hi]
  simp only [Option.bind_some]
  by_cases q : frS (absM τ 0) i
  · rw [cif_pos q, wr_1, if_neg n10]
    refine Ex.bnd ((md_decides hD rfl hi).mono (fun _ τ2 z => ?_))
    obtain ⟨hF2, h24, h25, h26⟩ := z
    rw [if_pos (Or.inr rfl)]
    refine Ex.ret ⟨hF.tr (hF2.mono (fun o k => FD_R)), fun _ => ⟨rfl, ?_, ?_, ?_⟩, fun z => absurd q z⟩
    · show τ2 0 24 = _
      rw [h24, wan_congr hS hr hi]
    · show τ2 0 25 = _
      rw [h25, o4_congr hS hr hi]
    · show τ2 0 26 = _
      rw [h26, o4_congr hS hr hi]
  · rw [cif_neg q, wr_0, if_pos rfl, if_pos (Or.inl rfl)]
    exact Ex.ret ⟨hF, fun z => absurd z q, fun _ => rfl⟩
theorem Kw.rows {S σ1 : Mem} (hK : Kw S τ σ1) : ∀ j, j < nS S → σ1 4 j = S 1 j := fun j hj => (hK.ind hj).1
theorem Kw.col (h : Inv σ τ) {σ1 : Mem} (hK : Kw (absM τ 0) τ σ1) (e1 : σ1 1 = σ 1) {i : Nat} (hi : i < nS (absM τ 0)) : Pla_column i 3 (σ1 1 2) (σ1 1 3) σ1 = some (cif (frS (absM τ 0) i) (wanS (absM τ 0) (absM τ 0 1) (τ 1 977) (τ 1 978) i) (-9), σ1) := by
  have hn := hK.n
  have hs := h.stp
  have hb := h.bas
  have hc := pla_column (S := absM τ 0) (σ := σ1) hn.2.2.2 hi (hK.2.1 i hi) (o := 3) lnA_4 (fun j hj => by show 0 ≤ σ1 4 j ∧ σ1 4 j ≤ 40; rw [hK.rows j hj]; exact (hK.ind hj).2) hs.2 hb.2
  rw [e1, hs.1, hb.1, hc]
  have : wanS (absM τ 0) (σ1 (3 + 1)) (τ 1 977) (τ 1 978) i = wanS (absM τ 0) (absM τ 0 1) (τ 1 977) (τ 1 978) i := wan_congr hK.1.1 hK.rows hi
  rw [this]
theorem t_wanted (h : Inv σ τ) {a : Int} (ha : RI a) : Two (Ai_wanted a σ) (Md_wanted a τ) := by
  have hb := h.nb
  have hn := h.n
  unfold Ai_wanted Md_wanted Two
  rw [lin_has ha hb.1, md_isLine ha hb.2]
  simp only [Option.bind_some]
  rw [hn.1]
  by_cases q : 0 ≤ a ∧ a < τ 1 0
  · obtain ⟨i, rfl⟩ : ∃ z : Nat, a = (z : Int) := ⟨a.toNat, by omega⟩
    rw [if_pos q, wr_1, if_neg n10, if_neg n10]
    refine Ex.bnd (h.study.mono (fun _ σ1 z => ?_))
    obtain ⟨hK, e1, -⟩ := z
    show Ex ((Pla_column i 3 (σ1 1 2) (σ1 1 3) σ1).bind _) _
    rw [hK.col h e1 (by omega)]
    simp only [Option.bind_some]
    refine Ex.ret (Ex.bnd ((md_isDecided h (i := i) (by omega)).mono (fun r τ1 y => ?_)))
    obtain ⟨hF, y1, y2⟩ := y
    have hI := hK.2.2 σ1 τ1 Fr.rf hF
    show Ex (if wr r = 0 then _ else _) _
    by_cases q2 : frS (absM τ 0) i
    · rw [(y1 q2).1, wr_1, if_neg n10, cif_pos q2]
      exact Ex.ret ⟨(y1 q2).2.1, hI⟩
    · rw [y2 q2, wr_0, if_pos rfl, cif_neg q2]
      exact Ex.ret ⟨rfl, hI⟩
  · rw [if_neg q, wr_0, if_pos rfl, if_pos rfl]
    exact Ex.ret (Ex.ret ⟨rfl, h⟩)
theorem t_reason (h : Inv σ τ) {a : Int} (ha : RI a) : Two (Ai_reason a σ) (Md_reason a τ) := by
  have hb := h.nb
  have hn := h.n
  unfold Ai_reason Md_reason Two
  rw [lin_has ha hb.1, md_isLine ha hb.2]
  simp only [Option.bind_some]
  rw [hn.1]
  by_cases q : 0 ≤ a ∧ a < τ 1 0
  · obtain ⟨i, rfl⟩ : ∃ z : Nat, a = (z : Int) := ⟨a.toNat, by omega⟩
    rw [if_pos q, wr_1, if_neg n10, if_neg n10]
    refine Ex.bnd (h.study.mono (fun _ σ1 z => ?_))
    obtain ⟨hK, e1, -⟩ := z
    rw [rg_328 (by omega) (by omega)]
    simp only [Option.bind_some]
    rw [show ((i : Int)).toNat = i by omega]
    refine Ex.ret (Ex.bnd ((md_isDecided h (i := i) (by omega)).mono (fun r τ1 y => ?_)))
    obtain ⟨hF, y1, y2⟩ := y
    have hI := hK.2.2 σ1 τ1 Fr.rf hF
    have hP := hK.2.1 i (by omega)
    show Ex (if wr r = 0 then _ else _) _
    by_cases q2 : frS (absM τ 0) i
    · rw [(y1 q2).1, wr_1, if_neg n10]
      refine Ex.ret ⟨?_, hI⟩
      have := ((hP.1 q2).2.2.2.2.2 (absM τ 0 1) (τ 1 977) (τ 1 978) (fun j hj => (h.ind hj).2.2)).1
      show τ1 0 25 = _
      rw [(y1 q2).2.2.1]; exact this.symm
    · rw [y2 q2, wr_0, if_pos rfl]
      exact Ex.ret ⟨(hP.2 q2).1.symm, hI⟩
  · rw [if_neg q, wr_0, if_pos rfl, if_pos rfl]
    exact Ex.ret (Ex.ret ⟨rfl, h⟩)
theorem t_decidingRule (h : Inv σ τ) {a : Int} (ha : RI a) : Two (Ai_decidingRule a σ) (Md_decidingRule a τ) := by
  have hb := h.nb
  have hn := h.n
  unfold Ai_decidingRule Md_decidingRule Two
  rw [lin_has ha hb.1, md_isLine ha hb.2]
  simp only [Option.bind_some]
  rw [hn.1]
  by_cases q : 0 ≤ a ∧ a < τ 1 0
  · obtain ⟨i, rfl⟩ : ∃ z : Nat, a = (z : Int) := ⟨a.toNat, by omega⟩
    rw [if_pos q, wr_1, if_neg n10, if_neg n10]
    refine Ex.bnd (h.study.mono (fun _ σ1 z => ?_))
    obtain ⟨hK, e1, -⟩ := z
    rw [rg_330 (by omega) (by omega)]
    simp only [Option.bind_some]
    rw [show ((i : Int)).toNat = i by omega]
    have hP := hK.2.1 i (by omega)
    have hd : -1 ≤ σ1 331 i ∧ σ1 331 i < 12 := by
      by_cases q2 : frS (absM τ 0) i
      · exact (hP.1 q2).2.2.2.2.1
      · rw [(hP.2 q2).2]; decide
    have key : Ex (some (e9 (σ1 331 i), σ1)) (fun r σ' => Ex ((Md_isDecided i τ).bind fun q2 => if wr q2.1 = 0 then some (-9, q2.2) else some (q2.2 0 26, q2.2)) (fun r' τ' => r' = r ∧ Inv σ' τ')) := by
      refine Ex.ret (Ex.bnd ((md_isDecided h (i := i) (by omega)).mono (fun r τ1 y => ?_)))
      obtain ⟨hF, y1, y2⟩ := y
      have hI := hK.2.2 σ1 τ1 Fr.rf hF
      show Ex (if wr r = 0 then _ else _) _
      by_cases q2 : frS (absM τ 0) i
      · rw [(y1 q2).1, wr_1, if_neg n10]
        refine Ex.ret ⟨?_, hI⟩
        have := ((hP.1 q2).2.2.2.2.2 (absM τ 0 1) (τ 1 977) (τ 1 978) (fun j hj => (h.ind hj).2.2)).2.1
        show τ1 0 26 = _
        rw [(y1 q2).2.2.2, this]
      · rw [y2 q2, wr_0, if_pos rfl]
        refine Ex.ret ⟨?_, hI⟩
        rw [(hP.2 q2).2]; rfl
    rw [wr_id (n := σ1 331 i) (by omega) (by omega)]
    unfold e9 at key
    by_cases q3 : σ1 331 i = -1
    · rw [if_pos q3] at key ⊢; exact key
    · rw [if_neg q3] at key ⊢; exact key
  · rw [if_neg q, wr_0, if_pos rfl, if_pos rfl]
    exact Ex.ret (Ex.ret ⟨rfl, h⟩)
/-- a line gets its wanted indentation in a row -/
theorem ai_anew {S : Mem} {i : Nat} (hN : nS S ≤ 20) (hi : i < nS S) (hP : PlC S (nS S) σ) (hp : σ 8 i = S 3 i ∧ (S 3 i = 0 ∨ S 3 i = 1)) {o : Nat} (ho : lnA (o + 1) = 20) (hr : ∀ j, j < nS S → 0 ≤ σ (o + 1) j ∧ σ (o + 1) j ≤ 40) {stp bas : Int} (hs : 1 ≤ stp ∧ stp ≤ 8) (hb : 0 ≤ bas ∧ bas ≤ 20) :
    Ai_indentAnew i o stp bas σ = some (cif (frS S i ∧ S 3 i = 0) (if wanS S (σ (o + 1)) stp bas i = σ (o + 1) i then 0 else 1) 0, cif (frS S i ∧ S 3 i = 0) (upM σ (o + 1) i (wanS S (σ (o + 1)) stp bas i)) σ) := by
  have hw := wan_rng (S := S) (rw := σ (o + 1)) (stp := stp) (bas := bas) (i := i)
  have hri := hr i hi
  unfold Ai_indentAnew
  rw [pla_column hN hi (hP i hi) ho hr hs hb]
  simp only [Option.bind_some]
  by_cases q : frS S i
  · rw [cif_pos q, wr_id (n := wanS S (σ (o + 1)) stp bas i) (by omega) (by omega), if_neg (by omega), rg_7 (by omega) (by omega)]
    simp only [Option.bind_some]
    rw [show ((i : Int)).toNat = i by omega, hp.1, wr_id (n := S 3 i) (by omega) (by omega)]
    by_cases q2 : S 3 i = 0
    · rw [if_pos q2, cif_pos ⟨q, q2⟩, cif_pos ⟨q, q2⟩, row_get ho (by omega) (by omega) (by omega)]
      simp only [Option.bind_some]
      rw [show ((i : Int)).toNat = i by omega, wr_id (n := σ (o + 1) i) (by omega) (by omega)]
      by_cases q3 : wanS S (σ (o + 1)) stp bas i = σ (o + 1) i
      · rw [if_pos q3.symm, if_pos q3, q3, upM_self rfl]
      · rw [if_neg (fun z => q3 z.symm), if_neg q3, row_set ho (by omega) (by omega) (by omega)]
        simp only [Option.bind_some]
        rw [show ((i : Int)).toNat = i by omega]
    · rw [if_neg q2, cif_neg (fun z => q2 z.2), cif_neg (fun z => q2 z.2)]
  · rw [cif_neg q, show wr (-9) = -9 from by decide, if_pos rfl, cif_neg (fun z => q z.1), cif_neg (fun z => q z.1)]
theorem Kw.pin {S σ1 : Mem} (hK : Kw S τ σ1) {i : Nat} (hi : i < nS S) : σ1 8 i = S 3 i ∧ (S 3 i = 0 ∨ S 3 i = 1) := by
  have hn := hK.n
  have h1 := aC_pin (σ := σ1) (i := i) (by omega)
  rw [hK.1.2.2.1] at h1
  exact ⟨h1.symm, (hK.1.1.2.2.2.2.1 i (by omega)).2.2.1⟩
theorem PlC_Fr {S σ σ' : Mem} {F : Nat → Nat → Prop} {m : Nat} (h : Fr F σ σ') (hF : ∀ o k, F o k → o < 329 ∨ 339 < o) (hP : PlC S m σ) : PlC S m σ' := by
  have e : ∀ o, 329 ≤ o → o ≤ 339 → σ' o = σ o := fun o h1 h2 => by funext k; exact h o k (fun q => by have := hF o k q; omega)
  unfold PlC PlR at *
  rw [e 329 (by omega) (by omega), e 331 (by omega) (by omega), e 333 (by omega) (by omega), e 335 (by omega) (by omega), e 337 (by omega) (by omega), e 339 (by omega) (by omega)]
  exact hP
theorem ai_lines_22 {S : Mem} (hS : SV S) {stp bas : Int} (hs : 1 ≤ stp ∧ stp ≤ 8) (hb : 0 ≤ bas ∧ bas ≤ 20) : ∀ (m n i s : Nat) (σ : Mem), σ 2 0 = S 0 0 → PlC S (nS S) σ → (∀ j, j < nS S → σ 8 j = S 3 j) → (∀ j, j < nS S → 0 ≤ σ 346 j ∧ σ 346 j ≤ 40) → (∀ j, i ≤ j → j < nS S → σ 346 j = S 1 j) → i + m = nS S → m < n → s < 2 ^ i →
    Ex (Ai_linesChangedWith_22 n stp bas s i σ) (fun r σ' => r = ((setS S stp bas m i (σ 346) s).2 : Nat) ∧ Fr FV σ σ') := by
  have hN := hS.n
  intro m
  induction m with
  | zero =>
    intro n i s σ en hP hp hr hj him hn hs2
    obtain ⟨n, rfl⟩ : ∃ z, n = z + 1 := ⟨n - 1, by omega⟩
    show Ex (Ai_linesChangedWith_22b (Ai_linesChangedWith_22 n) stp bas s i σ) _
    unfold Ai_linesChangedWith_22b
    rw [en, wr_id (n := (i : Int)) (by omega) (by omega), wr_id (n := S 0 0) (by omega) (by omega), if_neg (by omega)]
    exact Ex.ret ⟨rfl, Fr.rf⟩
  | succ m ih =>
    intro n i s σ en hP hp hr hj him hn hs2
    obtain ⟨n, rfl⟩ : ∃ z, n = z + 1 := ⟨n - 1, by omega⟩
    have hpp : 2 ^ (i + 1) = 2 ^ i * 2 := Nat.pow_succ 2 i
    have hw := wan_rng (S := S) (rw := σ 346) (stp := stp) (bas := bas) (i := i)
    have hpi := (hS.2.2.2.2.1 i (by omega)).2.2.1
    have nx : ∀ (s' : Nat) (σ' : Mem), Fr FV σ σ' → (∀ j, j < nS S → 0 ≤ σ' 346 j ∧ σ' 346 j ≤ 40) → (∀ j, i + 1 ≤ j → j < nS S → σ' 346 j = S 1 j) → s' < 2 ^ (i + 1) → Ex (Ai_linesChangedWith_22 n stp bas s' ((i : Int) + 1) σ') (fun r σ'' => r = ((setS S stp bas m (i + 1) (σ' 346) s').2 : Nat) ∧ Fr FV σ σ'') := by
      intro s' σ' hF h1 h2 h3
      have := ih n (i + 1) s' σ' (by rw [hF 2 0 (by unfold FV; omega)]; exact en) (PlC_Fr hF (fun o k z => by unfold FV at z; omega) hP) (fun j hj => by rw [hF 8 j (by unfold FV; omega)]; exact hp j hj) h1 h2 (by omega) (by omega) h3
      rw [show (((i + 1 : Nat)) : Int) = (i : Int) + 1 by omega] at this
      exact this.mono (fun r ρ q => ⟨q.1, hF.tr q.2⟩)
    show Ex (Ai_linesChangedWith_22b (Ai_linesChangedWith_22 n) stp bas s i σ) _
    unfold Ai_linesChangedWith_22b
    rw [en, wr_id (n := (i : Int)) (by omega) (by omega), wr_id (n := S 0 0) (by omega) (by omega), if_pos (by omega), ai_anew (S := S) (by omega) (by omega) hP ⟨hp i (by omega), hpi⟩ (o := 345) lnA_346 hr hs hb]
    simp only [Option.bind_some]
    unfold setS
    by_cases q : frS S i ∧ S 3 i = 0
    · rw [cif_pos q, cif_pos q, cif_pos q]
      have e346 : upM σ (345 + 1) i (wanS S (σ (345 + 1)) stp bas i) 346 = up1 (σ 346) i (wanS S (σ 346) stp bas i) := by rw [upM_at]; rfl
      have hF : Fr FV σ (upM σ (345 + 1) i (wanS S (σ (345 + 1)) stp bas i)) := Fr.up Fr.rf (by unfold FV; omega)
      have h1 : ∀ j, j < nS S → 0 ≤ upM σ (345 + 1) i (wanS S (σ (345 + 1)) stp bas i) 346 j ∧ upM σ (345 + 1) i (wanS S (σ (345 + 1)) stp bas i) 346 j ≤ 40 := by
        intro j hj2
        rw [e346]; unfold up1
        split
        · exact hw
        · exact hr j hj2
      have h2 : ∀ j, i + 1 ≤ j → j < nS S → upM σ (345 + 1) i (wanS S (σ (345 + 1)) stp bas i) 346 j = S 1 j := by
        intro j hj1 hj2
        rw [e346]; unfold up1
        rw [if_neg (by omega)]
        exact hj j (by omega) hj2
      have ei : σ (345 + 1) i = S 1 i := hj i (by omega) (by omega)
      rw [ei]
      by_cases q3 : wanS S (σ (345 + 1)) stp bas i = S 1 i
      · have q3' : wanS S (σ 346) stp bas i = S 1 i := q3
        rw [if_pos q3, wr_0, if_pos rfl, if_pos q3']
        have := nx s _ hF h1 h2 (by omega)
        rw [e346] at this
        exact this
      · have q3' : ¬ wanS S (σ 346) stp bas i = S 1 i := q3
        rw [if_neg q3, wr_1, if_neg n10, if_neg q3', or_bits (by omega) hs2]
        have := nx (s + 2 ^ i) _ hF h1 h2 (by omega)
        rw [e346] at this
        exact this
    · rw [cif_neg q, cif_neg q, cif_neg q, wr_0, if_pos rfl]
      exact nx s σ Fr.rf hr (fun j h1 h2 => hj j (by omega) h2) (by omega)
/-- the lines that would change -/
noncomputable def chS (S : Mem) (stp bas : Int) : Nat := (setS S stp bas (nS S) 0 (S 1) 0).2
theorem chS_lt {S : Mem} (hS : SV S) (stp bas : Int) : chS S stp bas < 2 ^ 20 := by
  have h := setS_lt (S := S) (stp := stp) (bas := bas) (nS S) 0 (S 1) 0 (by omega)
  have hp : 2 ^ (0 + nS S) ≤ 2 ^ 20 := Nat.pow_le_pow_right (by omega) (by have := hS.n; omega)
  unfold chS
  omega
theorem ai_lcw {S σ1 : Mem} (hK : Kw S τ σ1) {stp bas : Int} (hs : 1 ≤ stp ∧ stp ≤ 8) (hb : 0 ≤ bas ∧ bas ≤ 20) : Ex (Ai_linesChangedWith stp bas σ1) (fun r σ2 => r = (chS S stp bas : Nat) ∧ Fr FV σ1 σ2) := by
  have hS := hK.1.1
  have hn := hK.n
  unfold Ai_linesChangedWith Row_copy
  rw [show lnA (345 + 1) = 20 from lnA_346, show lnA (3 + 1) = 20 from lnA_4, show mminI ((20 : Nat) : Int) ((20 : Nat) : Int) = 20 from by decide, if_pos (by decide)]
  refine Ex.bnd (Ex.lt (Ex.ret ?_))
  show Ex (Ai_linesChangedWith_22 100000 stp bas 0 0 (cpM σ1 4 346 20)) _
  have k : ∀ o z, o ≠ 346 → cpM σ1 4 346 20 o z = σ1 o z := fun o z h => by simp [cpM, h]
  have e : ∀ j, j < nS S → cpM σ1 4 346 20 346 j = S 1 j := fun j hj => by
    unfold cpM; rw [if_pos ⟨rfl, by omega⟩]; exact hK.rows j hj
  have hF : Fr FV σ1 (cpM σ1 4 346 20) := fun o z h => k o z (by unfold FV at h; omega)
  have := ai_lines_22 hS hs hb (nS S) 100000 0 0 (cpM σ1 4 346 20) (by rw [k 2 0 (by omega)]; exact hn.1) (PlC_Fr hF (fun o k z => by unfold FV at z; omega) hK.2.1) (fun j hj => by rw [k 8 j (by omega)]; exact (hK.pin hj).1) (fun j hj => by rw [e j hj]; exact (hK.ind hj).2) (fun j _ hj => e j hj) (by omega) (by omega) (by omega)
  refine this.mono (fun r ρ q => ⟨?_, hF.tr q.2⟩)
  rw [q.1]
  unfold chS
  rw [(setS_congr hS (nS S) 0 _ (S 1) 0 (by omega) e).1]
theorem Kw_Fr {S σ1 σ2 : Mem} (hK : Kw S τ σ1) (h : Fr FV σ1 σ2) : Kw S τ σ2 := by
  refine ⟨PX_Fr h (fun o k z => by unfold FV at z; omega) hK.1, PlC_Fr h (fun o k z => by unfold FV at z; omega) hK.2.1, fun σ3 τ' h3 hτ => hK.2.2 σ3 τ' (h.tr h3) hτ⟩
theorem md_settles (hS : SV (absM τ 0)) {τ1 : Mem} {stp bas : Int} (hD : DM (absM τ 0) τ1 stp bas) (hr : ∀ j, j < nS (absM τ 0) → τ1 16 j = absM τ 0 1 j) : Ex (Md_settles 0 (τ1 1 0) τ1) (fun r τ2 => r = (chS (absM τ 0) stp bas : Nat) ∧ Fr FS τ1 τ2) := by
  have hN := hS.n
  have en : τ1 1 0 = absM τ 0 0 0 := by rw [← hD.2.1, aM_n]
  unfold Md_settles
  have := md_settles_5 (S := absM τ 0) (stp := stp) (bas := bas) (nS (absM τ 0)) 100000 0 0 τ1 hD (by omega) (by omega) (by omega)
  rw [show (((0 + nS (absM τ 0) : Nat)) : Int) = τ1 1 0 by rw [en]; omega] at this
  refine this.mono (fun r ρ q => ⟨?_, q.2.1⟩)
  rw [q.1]
  unfold chS
  rw [(setS_congr hS (nS (absM τ 0)) 0 _ (absM τ 0 1) 0 (by omega) hr).1]
theorem t_wouldChange (h : Inv σ τ) : Two (Ai_wouldChange σ) (Md_wouldChange τ) := by
  have hs := h.stp
  have hb := h.bas
  unfold Ai_wouldChange Md_wouldChange Two
  refine Ex.bnd (h.study.mono (fun _ σ1 z => ?_))
  obtain ⟨hK, e1, -⟩ := z
  show Ex ((Ai_linesChangedWith (σ1 1 2) (σ1 1 3) σ1).bind _) _
  rw [e1, hs.1, hb.1]
  refine Ex.bnd ((ai_lcw hK hs.2 hb.2).mono (fun r σ2 y => Ex.ret ?_))
  rw [if_pos (by decide), if_pos (by decide), show (wr 977).toNat = 977 from by decide, show (wr 978).toNat = 978 from by decide]
  refine Ex.bnd (h.useM.mono (fun _ τ1 x => ?_))
  rw [if_pos in0, show (wr 0).toNat = 0 from by decide]
  refine Ex.bnd ((md_settles h.1.2.1 x.2.1 x.2.2).mono (fun r' τ2 w => Ex.ret ⟨?_, hK.2.2 σ2 τ2 y.2 (x.1.tr (w.2.mono (fun o k => FS_R)))⟩))
  show r' = r
  rw [w.1, y.1]
theorem md_changesBy (hS : SV (absM τ 0)) {stp bas : Int} (hs : 1 ≤ stp ∧ stp ≤ 8) (hb : 0 ≤ bas ∧ bas ≤ 20) : Ex (Md_changesBy stp bas τ) (fun r τ' => r = (bitN (chS (absM τ 0) stp bas) 20 : Nat) ∧ Fr FU τ τ') := by
  unfold Md_changesBy
  refine Ex.bnd ((md_uses hS hs hb).mono (fun _ τ1 x => ?_))
  rw [if_pos in0, show (wr 0).toNat = 0 from by decide]
  refine Ex.bnd ((md_settles hS x.2.1 x.2.2).mono (fun r' τ2 w => ?_))
  show Ex ((Md_bits r' τ2).bind _) _
  rw [w.1, md_bits (chS_lt hS stp bas)]
  exact Ex.bnd (Ex.ret (Ex.ret ⟨rfl, x.1.tr (w.2.mono (fun o k q => by unfold FS at q; unfold FU; omega))⟩))
theorem t_changesWith (h : Inv σ τ) {a b : Int} (ha : RI a) (hb : RI b) : Two (Ai_changesWith a b σ) (Md_changesWith a b τ) := by
  unfold Ai_changesWith Md_changesWith Two
  rw [ai_wi ha (by omega) (by omega), md_wi ha (by omega) (by omega)]
  simp only [Option.bind_some]
  by_cases q : 1 ≤ a ∧ a ≤ 8
  · rw [if_pos q, wr_1, if_neg n10, if_neg n10, ai_wi hb (by omega) (by omega), md_wi hb (by omega) (by omega)]
    simp only [Option.bind_some]
    by_cases q2 : 0 ≤ b ∧ b ≤ 20
    · rw [if_pos q2, wr_1, if_neg n10, if_neg n10]
      refine Ex.bnd (h.study.mono (fun _ σ1 z => ?_))
      obtain ⟨hK, -, -⟩ := z
      refine Ex.bnd ((ai_lcw hK q q2).mono (fun r σ2 y => ?_))
      show Ex ((Itg_bitCount r σ2).bind _) _
      rw [y.1, itg_bitCount (chS_lt h.1.2.1 a b)]
      refine Ex.bnd (Ex.ret (Ex.ret (Ex.bnd ((md_changesBy h.1.2.1 q q2).mono (fun r' τ1 x => Ex.ret ⟨x.1, hK.2.2 σ2 τ1 y.2 (x.2.mono (fun o k => FU_R))⟩)))))
    · rw [if_neg q2, wr_0, if_pos rfl, if_pos rfl]
      exact Ex.ret (Ex.ret ⟨rfl, h⟩)
  · rw [if_neg q, wr_0, if_pos rfl, if_pos rfl]
    exact Ex.ret (Ex.ret ⟨rfl, h⟩)
end WA
