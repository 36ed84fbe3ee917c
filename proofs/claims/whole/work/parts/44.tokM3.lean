/-! ===== the reference divides all lines ===== -/
def FT (o k : Nat) : Prop := (4 ≤ o ∧ o ≤ 7) ∨ o = 11 ∨ o = 12 ∨ (o = 0 ∧ k = 12)
theorem absM_congr {τ τ' : Mem} (h : τ' 1 = τ 1) (j : Nat) : absM τ' j = absM τ j := by unfold absM; rw [h]
theorem FT_1 {τ τ' : Mem} (h : Fr FT τ τ') : τ' 1 = τ 1 := by funext k; exact h 1 k (by unfold FT; omega)
noncomputable def lnM (S : Mem) (i : Nat) (τ : Mem) : Mem := putM i (tkS S i) (upM (upM τ 11 i (τ 0 12)) 12 i (hdS S i))
theorem lnM_Fr {S τ : Mem} {i : Nat} (h0 : 0 ≤ τ 0 12) : Fr FT τ (lnM S i τ) := by
  have h := (putM_spec i (tkS S i) (upM (upM τ 11 i (τ 0 12)) 12 i (hdS S i)) (by simpa [upM] using h0)).2.1
  exact Fr.tr (Fr.up (Fr.up Fr.rf (by unfold FT; omega)) (by unfold FT; omega)) (h.mono (fun o k q => by unfold FT; omega))
theorem lnM_TkP {S τ : Mem} {i : Nat} (h : TkP S i (τ 4) (τ 5) (τ 6) (τ 7) (τ 11) (τ 12) (τ 0 12)) : TkP S (i + 1) (lnM S i τ 4) (lnM S i τ 5) (lnM S i τ 6) (lnM S i τ 7) (lnM S i τ 11) (lnM S i τ 12) (lnM S i τ 0 12) := by
  obtain ⟨h1, h2, h3, h4⟩ := h
  have e0 : (upM (upM τ 11 i (τ 0 12)) 12 i (hdS S i)) 0 12 = τ 0 12 := by simp [upM]
  obtain ⟨p1, p2, p3⟩ := putM_spec i (tkS S i) (upM (upM τ 11 i (τ 0 12)) 12 i (hdS S i)) (by rw [e0, h1]; omega)
  rw [e0] at p1 p2 p3
  have hc : (τ 0 12).toNat = fsS S i := by rw [h1]; omega
  rw [hc] at p2 p3
  unfold lnM
  refine ⟨?_, ?_, ?_, ?_⟩
  · rw [p1, h1]; simp only [fsS]; omega
  · intro j hj
    rw [p2 11 j (by omega)]
    by_cases q : j = i
    · subst q; simp [upM, h1]
    · simp [upM, q]; exact h2 j (by omega)
  · intro j hj
    rw [p2 12 j (by omega)]
    by_cases q : j = i
    · subst q; simp [upM]
    · simp [upM, q]; exact h3 j (by omega)
  · intro j hj t q hq
    by_cases e : j = i
    · subst e; exact p3 t q hq
    · have := h4 j (by omega) t q hq
      have hlt : t < (tkS S j).length := (List.getElem?_eq_some_iff.mp hq).1
      have hm := fsS_mono S (show j + 1 ≤ i by omega)
      simp only [fsS] at hm
      rw [p2 4 _ (by omega), p2 5 _ (by omega), p2 6 _ (by omega), p2 7 _ (by omega)]
      simpa [upM] using this
theorem md_isBlank {τ : Mem} {i : Nat} (hi : i < 20) (hv : LnV τ i) : Md_isBlank i τ = some (if τ 1 (21 + i) = 0 then 1 else 0, τ) := by
  have h1 := hv.1
  have h2 := hv.2.1
  unfold Md_isBlank
  rw [if_pos (inb (by omega) (by omega) (by omega)), wrn (n := 21 + i) (by omega) (by omega), wr_id (n := τ 1 (21 + i)) (by omega) (by omega)]
  split <;> rfl
theorem md_divides {i : Nat} (hi : i < 20) {τ : Mem} {k : Int} (hv : LnV τ i) (hc1 : 0 ≤ τ 1 979) (hc2 : τ 1 979 ≤ 126) (hk : 0 ≤ k) (hk2 : k ≤ 35) (hn0 : 0 ≤ τ 0 12) (hn1 : τ 0 12 ≤ 608) :
    Md_divides i k τ = some ((sLine (gM τ i) (τ 1 (21 + i)) (τ 1 979) 40 k).2, putM i (sLine (gM τ i) (τ 1 (21 + i)) (τ 1 979) 40 k).1 τ) := by
  have h1 := hv.1
  have h2 := hv.2.1
  exact md_divides_2 hi (τ 1 (21 + i) - k).toNat 100000 40 k τ hv hc1 hc2 hk (by omega) hn0 (by omega) (Nat.le_refl _) (by omega) (by omega)
theorem SV.cm {S : Mem} (h : SV S) : 0 ≤ S 0 3 ∧ S 0 3 ≤ 126 := by have := h.2.2.2.1; omega
theorem md_tokenizes_9 {S : Mem} (hS : SV S) : ∀ (m n i : Nat) (τ : Mem), absM τ 0 = S → i + m = nS S → m < n → TkP S i (τ 4) (τ 5) (τ 6) (τ 7) (τ 11) (τ 12) (τ 0 12) →
    Ex (Md_tokenizes_9 n (goS S i) i τ) (fun _ τ' => Fr FT τ τ' ∧ TkOK S (τ' 4) (τ' 5) (τ' 6) (τ' 7) (τ' 11) (τ' 12) (τ' 0 12)) := by
  intro m
  induction m with
  | zero =>
    intro n i τ hA him hn hT
    obtain ⟨n, rfl⟩ : ∃ z, n = z + 1 := ⟨n - 1, by omega⟩
    have hN := hS.n
    have en : τ 1 0 = S 0 0 := by rw [← hA, aM_n]
    show Ex (Md_tokenizes_9b (Md_tokenizes_9 n) (goS S i) i τ) _
    unfold Md_tokenizes_9b
    rw [if_pos (by decide), show (wr 0).toNat = 0 from by decide, en, wr_id (n := (i : Int)) (by omega) (by omega), wr_id (n := S 0 0) (by omega) (by omega), if_neg (by omega), if_pos (by decide), if_pos (by omega)]
    refine Ex.lt (Ex.ret ⟨Fr.up Fr.rf (by unfold FT; omega), ?_, ?_⟩)
    · obtain ⟨h1, h2, h3, h4⟩ := hT
      rw [show nS S = i by omega]
      refine ⟨by simpa [upM] using h1, fun j hj => ?_, fun j hj => by simpa [upM] using h3 j hj, fun j hj t q hq => by simpa [upM] using h4 j hj t q hq⟩
      have := h2 j hj
      have hne : ¬ j = (S 0 0).toNat := by unfold nS at him; omega
      simpa [upM, hne] using this
    · have := hT.1
      rw [show i = nS S by omega] at this
      simp [upM, nS, this]
  | succ m ih =>
    intro n i τ hA him hn hT
    obtain ⟨n, rfl⟩ : ∃ z, n = z + 1 := ⟨n - 1, by omega⟩
    have hN := hS.n
    have en : τ 1 0 = S 0 0 := by rw [← hA, aM_n]
    have hi : i < nS S := by omega
    have hi20 : i < 20 := by omega
    have hn1 : (i : Int) < τ 1 0 := by omega
    have hcnt := fsS_le hS i (by omega)
    have h0 : 0 ≤ τ 0 12 := by rw [hT.1]; omega
    have h640 : τ 0 12 ≤ 608 := by rw [hT.1]; omega
    have hv : LnV τ i := LnV_of (by rw [hA]; exact hS) (by rw [hA]; exact hi)
    have hl1 := hv.1
    have hl2 := hv.2.1
    have hcm := hS.cm
    have ecm : τ 1 979 = S 0 3 := by rw [← hA, aM_cm]
    have elen : τ 1 (21 + i) = S 2 i := by rw [← hA, aM_len hn1]
    have eg : gM τ i = gS S i := by rw [← hA]; exact gM_gS hn1 hl2
    have hF := lnM_Fr (S := S) (i := i) h0
    have h51 : ∀ z, z = hdS S i → Ex (Md_tokenizes_51 (Md_tokenizes_9 n) (goS S i) i z i (upM τ 11 i (τ 0 12))) (fun _ τ' => Fr FT τ τ' ∧ TkOK S (τ' 4) (τ' 5) (τ' 6) (τ' 7) (τ' 11) (τ' 12) (τ' 0 12)) := by
      intro z hz
      subst hz
      have hz01 : hdS S i = 0 ∨ hdS S i = 1 := by unfold hdS; split <;> simp
      generalize hτ2 : upM (upM τ 11 i (τ 0 12)) 12 i (hdS S i) = τ2
      have e1 : τ2 1 = τ 1 := by rw [← hτ2]; funext k; simp [upM]
      have e12 : τ2 0 12 = τ 0 12 := by rw [← hτ2]; simp [upM]
      have hv2 : LnV τ2 i := LnV_congr e1 hv
      have fin : Ex (Md_tokenizes_9 n (goS S (i + 1)) ((i : Int) + 1) (lnM S i τ)) (fun _ τ' => Fr FT τ τ' ∧ TkOK S (τ' 4) (τ' 5) (τ' 6) (τ' 7) (τ' 11) (τ' 12) (τ' 0 12)) := by
        have := ih n (i + 1) (lnM S i τ) (by rw [absM_congr (FT_1 hF)]; exact hA) (by omega) (by omega) (lnM_TkP hT)
        exact this.mono (fun r σ q => ⟨hF.tr q.1, q.2⟩)
      have elnM : lnM S i τ = putM i (tkS S i) τ2 := by unfold lnM; rw [hτ2]
      rw [elnM] at fin
      unfold Md_tokenizes_51
      rw [if_pos hz01, if_pos (inb (by omega) (by omega) (by omega)), wrn (a := (i : Int)) (n := i) rfl (by omega), hτ2]
      refine Ex.lt ?_
      rcases goS_01 S i with g0 | g1
      · rw [g0, wr_0, if_pos rfl, md_divides hi20 hv2 (by rw [e1]; omega) (by rw [e1]; omega) (by omega) (by omega) (by omega) (by omega)]
        simp only [Option.bind_some]
        rw [gM_congr e1, eg, e1, elen, ecm]
        have et : lnS S i (goS S i) = sLine (gS S i) (S 2 i) (S 0 3) 40 0 := by unfold lnS; rw [if_pos g0]
        have et1 : tkS S i = (sLine (gS S i) (S 2 i) (S 0 3) 40 0).1 := by unfold tkS; rw [et]
        have et2 : goS S (i + 1) = (sLine (gS S i) (S 2 i) (S 0 3) 40 0).2 := by show (lnS S i (goS S i)).2 = _; rw [et]
        rw [et1, et2] at fin
        exact fin
      · rw [g1, wr_1, if_neg (by decide), md_endOfLiteral hi20 hv2 (by omega) (by omega)]
        simp only [Option.bind_some]
        rw [gM_congr e1, eg, e1, elen]
        have hr := sLit_rng (gS S i) (S 2 i) 40 0
        rw [wr_id (n := sLit (gS S i) (S 2 i) 40 0) (by omega) (by omega)]
        by_cases q : sLit (gS S i) (S 2 i) 40 0 = -9
        · rw [if_pos q]
          have et : lnS S i (goS S i) = ([], 1) := by unfold lnS; rw [if_neg (by omega), if_pos q]
          have et1 : tkS S i = [] := by unfold tkS; rw [et]
          have et2 : goS S (i + 1) = 1 := by show (lnS S i (goS S i)).2 = _; rw [et]
          rw [et1, et2] at fin
          exact fin
        · rw [if_neg q, md_divides hi20 hv2 (by rw [e1]; omega) (by rw [e1]; omega) (by omega) (by omega) (by omega) (by omega)]
          simp only [Option.bind_some]
          rw [gM_congr e1, eg, e1, elen, ecm]
          have et : lnS S i (goS S i) = sLine (gS S i) (S 2 i) (S 0 3) 40 (sLit (gS S i) (S 2 i) 40 0) := by unfold lnS; rw [if_neg (by omega), if_neg q]
          have et1 : tkS S i = (sLine (gS S i) (S 2 i) (S 0 3) 40 (sLit (gS S i) (S 2 i) 40 0)).1 := by unfold tkS; rw [et]
          have et2 : goS S (i + 1) = (sLine (gS S i) (S 2 i) (S 0 3) 40 (sLit (gS S i) (S 2 i) 40 0)).2 := by show (lnS S i (goS S i)).2 = _; rw [et]
          rw [et1] at fin
          rcases sLine_go (gS S i) (S 2 i) (S 0 3) 40 (sLit (gS S i) (S 2 i) 40 0) with z | z
          · rw [z, wr_0, if_pos rfl]
            rw [et2, z] at fin
            exact fin
          · rw [z, wr_1, if_neg (by decide)]
            rw [et2, z] at fin
            exact fin
    show Ex (Md_tokenizes_9b (Md_tokenizes_9 n) (goS S i) i τ) _
    unfold Md_tokenizes_9b
    rw [if_pos (by decide), show (wr 0).toNat = 0 from by decide, en, wr_id (n := (i : Int)) (by omega) (by omega), wr_id (n := S 0 0) (by omega) (by omega), if_pos (by omega), if_pos (by omega), show ((i : Int)).toNat = i by omega]
    refine Ex.lt ?_
    rcases goS_01 S i with g0 | g1
    · rw [show wr (goS S i) = 0 by rw [g0]; rfl, if_pos rfl]
      exact h51 0 (by unfold hdS; rw [if_neg (by omega)])
    · have e1 : (upM τ 11 i (τ 0 12)) 1 = τ 1 := by funext k; simp [upM]
      rw [show wr (goS S i) = 1 by rw [g1]; rfl, if_neg (by decide), md_isBlank hi20 (LnV_congr e1 hv)]
      simp only [Option.bind_some]
      rw [e1, elen]
      by_cases q : S 2 i = 0
      · rw [if_pos q, wr_1, if_neg (by decide)]
        exact h51 0 (by unfold hdS; rw [if_neg (by omega)])
      · rw [if_neg q, wr_0, if_pos rfl]
        exact h51 1 (by unfold hdS; rw [if_pos (by omega)])
theorem md_tokenizes {τ : Mem} (hS : SV (absM τ 0)) : Ex (Md_tokenizes τ) (fun _ τ' => Fr FT τ τ' ∧ TkOK (absM τ 0) (τ' 4) (τ' 5) (τ' 6) (τ' 7) (τ' 11) (τ' 12) (τ' 0 12)) := by
  have e1 : (upM τ 0 12 0) 1 = τ 1 := by funext k; simp [upM]
  have hN := hS.n
  unfold Md_tokenizes
  refine Ex.lt ?_
  have := md_tokenizes_9 hS (nS (absM τ 0)) 100000 0 (upM τ 0 12 0) (absM_congr e1 0) (by omega) (by omega) ⟨by simp [upM, fsS], fun j h => by omega, fun j h => by omega, fun j h => by omega⟩
  exact this.mono (fun r σ q => ⟨(Fr.up Fr.rf (by unfold FT; omega)).tr q.1, q.2⟩)
