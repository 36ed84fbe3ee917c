/-! ===== joinLines, the call ===== -/
section JP
variable {σ τ : Mem}
theorem lin_joinedSize {i n m : Nat} (hi : i + 1 < 20) (hn : σ 6 i = n) (hm : σ 6 (i + 1) = m) (h1 : n ≤ 32) (h2 : m ≤ 32) : Lin_joinedSize i σ = some (((if 0 < n ∧ 0 < m then n + 1 + m else n + m : Nat) : Int), σ) := by
  unfold Lin_joinedSize
  rw [rg_5 (by omega) (by omega)]
  simp only [Option.bind_some]
  rw [show (i : Int) + 1 = ((i + 1 : Nat) : Int) by omega, rg_5 (by omega) (by omega)]
  simp only [Option.bind_some]
  rw [show ((i : Int)).toNat = i by omega, show (((i + 1 : Nat) : Int)).toNat = i + 1 by omega, hn, hm, wr_id (n := (n : Int)) (by omega) (by omega), wr_id (n := (m : Int)) (by omega) (by omega)]
  by_cases q1 : 0 < n
  · rw [if_pos (by omega)]
    by_cases q2 : 0 < m
    · rw [if_pos (by omega), if_pos ⟨q1, q2⟩]; congr 2; omega
    · rw [if_neg (by omega), if_neg (by omega)]; rfl
  · rw [if_neg (by omega), if_neg (by omega)]; rfl
theorem t_joinLines (h : Inv σ τ) {a : Int} (ha : RI a) : Two (Ai_joinLines a σ) (Md_joinLines a τ) := by
  have hb := h.nb
  have hn := h.n
  unfold Ai_joinLines Md_joinLines Two
  rw [lin_has ha hb.1, md_isLine ha hb.2]
  simp only [Option.bind_some]
  rw [hn.1]
  by_cases q : 0 ≤ a ∧ a < τ 1 0
  · obtain ⟨i, rfl⟩ : ∃ z : Nat, a = (z : Int) := ⟨a.toNat, by omega⟩
    obtain ⟨N, hN⟩ : ∃ z : Nat, τ 1 0 = (z : Int) := ⟨(τ 1 0).toNat, by omega⟩
    rw [if_pos q, wr_1, if_neg n10, if_neg n10, lin_has (a := (i : Int) + 1) ⟨by omega, by omega⟩ hb.1, md_isLine (a := (i : Int) + 1) ⟨by omega, by omega⟩ hb.2]
    simp only [Option.bind_some]
    rw [hn.1]
    by_cases q1 : 0 ≤ (i : Int) + 1 ∧ (i : Int) + 1 < τ 1 0
    · rw [if_pos q1, wr_1, if_neg n10, if_neg n10]
      have l1 := h.lr (N := N) (by rw [hn.1, hN]) (j := i) (by omega)
      have l2 := h.lr (N := N) (by rw [hn.1, hN]) (j := i + 1) (by omega)
      have s1 := l1.2.2.2.2.2.1
      have s2 := l2.2.2.2.2.2.1
      obtain ⟨n, en⟩ : ∃ z : Nat, σ 6 i = (z : Int) := ⟨(σ 6 i).toNat, by omega⟩
      obtain ⟨m, em⟩ : ∃ z : Nat, σ 6 (i + 1) = (z : Int) := ⟨(σ 6 (i + 1)).toNat, by omega⟩
      have tn : τ 1 (21 + i) = n := by rw [l1.2.1, en]
      have tm : τ 1 (21 + (i + 1)) = m := by rw [l2.2.1, em]
      rw [lin_joinedSize (by omega) en em (by omega) (by omega)]
      simp only [Option.bind_some]
      have hle : (if 0 < n ∧ 0 < m then n + 1 + m else n + m) ≤ 65 := by split <;> omega
      rw [if_pos (inb (by omega) (by omega) (by omega)), if_pos (inb (by omega) (by omega) (by omega)), wrn (n := 21 + i) (by omega) (by omega), wrn (n := 21 + (i + 1)) (by omega) (by omega), tn, tm, wr_id (n := (n : Int)) (by omega) (by omega), wr_id (n := (m : Int)) (by omega) (by omega), wr_id (n := ((if 0 < n ∧ 0 < m then n + 1 + m else n + m : Nat) : Int)) (by omega) (by omega)]
      have go : ∀ (b : Int), (if 0 < n ∧ 0 < m then n + 1 + m else n + m) ≤ 32 → ((0 < n ∧ 0 < m ∧ b = 1) ∨ (¬ (0 < n ∧ 0 < m) ∧ b = 0)) → Ex ((Ai_beginChange σ).bind fun q4 => (Lin_join i q4.2).bind fun q5 => (Row_get 5 i q5.2).bind fun q6 => some (q6.1, q6.2)) (fun r σ' => Ex (Md_joinLines_75 i n m b τ) (fun r' τ' => r' = r ∧ Inv σ' τ')) := by
        intro b h32 hbb
        obtain ⟨r1, σ1, e1, r2, τ1, e2, hI, h11, hF1, hF2⟩ := h.begin
        have n1 : σ1 2 0 = N := by rw [hF1 2 0 (by unfold FBg; omega), hn.1, hN]
        have n2 : τ1 1 0 = N := by rw [hF2 1 0 (by unfold FBm; omega), hN]
        have f6 : ∀ j, σ1 6 j = σ 6 j := fun j => hF1 6 j (by unfold FBg; omega)
        have fτ : ∀ k, k < 980 → τ1 1 k = τ 1 k := fun k hk => hF2 1 k (by unfold FBm; omega)
        rw [e1]
        simp only [Option.bind_some]
        obtain ⟨r3, σ3, e3, σ2, hC, hcC⟩ := lin_join (σ := σ1) (i := i) (n := n) (m := m) (N := N) (by omega) (by omega) n1 (by rw [f6]; exact en) (by rw [f6]; exact em) h32 (hI.sz n1)
        rw [e3]
        simp only [Option.bind_some]
        rw [rg_5 (by omega) (by omega)]
        simp only [Option.bind_some]
        rw [show ((i : Int)).toNat = i by omega]
        refine Ex.ret ((md_jl_75 (τ := τ1) (i := i) (n := n) (m := m) (N := N) (by omega) (by omega) n2 (by rw [fτ _ (by omega)]; exact tn) (by rw [fτ _ (by omega)]; exact tm) h32 hbb e2).mono (fun r' τ3 z => ?_))
        obtain ⟨z1, τ2, hM, hcM⟩ := z
        have hi2 : ∀ j, j < N → lnR σ2 τ2 j := fun j hj => by
          by_cases e : j = i
          · subst e
            exact jn_R (hI.lr n1 (by omega)) (hI.lr n1 (by omega)) (by rw [f6]; exact en) (by rw [f6]; exact em) h32 hC hM
          · exact (hI.lr n1 hj).mv (lnQ_fr hC.1 e) (lnP_fr hM.1 e (by omega) (by omega))
        have hfin := cut_two hi2 hcC hcM (by omega)
        refine ⟨by rw [z1]; exact (hfin i (by omega)).2.1, ?_⟩
        refine Inv_ln hI h11 ((hC.1.mono (fun o k z => FLc_s z)).tr hcC.2.2.2) ((hM.1.mono (fun o k z => Or.inl (FLm_p (by omega) z))).tr (hcM.2.2.2.mono (fun o k z => Or.inl z))) (N := N - 1) (by omega) ?_ ?_ hfin
        · rw [hcC.1, hC.1 2 0 (by unfold FLc; omega), n1]; omega
        · rw [hcM.1, hM.1 1 0 (by unfold FLm; omega), n2]; omega
      by_cases qn : 0 < n
      · rw [if_pos (show (0 : Int) < n by omega)]
        by_cases qm : 0 < m
        · rw [if_pos (show (0 : Int) < m by omega)]
          unfold Md_joinLines_55
          rw [wr_1, if_neg n10, wr_id (n := (n : Int) + 1 + (m : Int)) (by omega) (by omega)]
          have e : (if 0 < n ∧ 0 < m then n + 1 + m else n + m) = n + 1 + m := if_pos ⟨qn, qm⟩
          rw [e]
          by_cases q32 : n + 1 + m ≤ 32
          · rw [if_neg (by omega), if_neg (by omega)]
            exact go 1 (by rw [e]; exact q32) (Or.inl ⟨qn, qm, rfl⟩)
          · rw [if_pos (by omega), if_pos (by omega)]
            exact Ex.ret (Ex.ret ⟨rfl, h⟩)
        · rw [if_neg (show ¬ (0 : Int) < m by omega)]
          unfold Md_joinLines_55
          have e : (if 0 < n ∧ 0 < m then n + 1 + m else n + m) = n + m := if_neg (fun z => qm z.2)
          rw [wr_0, if_pos rfl, e, if_neg (by omega)]
          exact go 0 (by rw [e]; omega) (Or.inr ⟨fun z => qm z.2, rfl⟩)
      · rw [if_neg (show ¬ (0 : Int) < n by omega)]
        unfold Md_joinLines_55
        have e : (if 0 < n ∧ 0 < m then n + 1 + m else n + m) = n + m := if_neg (fun z => qn z.1)
        rw [wr_0, if_pos rfl, e, if_neg (by omega)]
        exact go 0 (by rw [e]; omega) (Or.inr ⟨fun z => qn z.1, rfl⟩)
    · rw [if_neg q1, wr_0, if_pos rfl, if_pos rfl]
      exact Ex.ret (Ex.ret ⟨rfl, h⟩)
  · rw [if_neg q, wr_0, if_pos rfl, if_pos rfl]
    exact Ex.ret (Ex.ret ⟨rfl, h⟩)
end JP
