/-! ===== insertLine, replaceLine ===== -/
section IN
variable {σ τ : Mem}
theorem Inv_FI {τ' : Mem} (h : Inv σ τ) (hF : Fr FI τ τ') : Inv σ τ' := Inv_q h Fr.rf (hF.mono (fun o k q => by unfold FI at q; unfold FR; omega)) h.1.2.2.2
theorem bfC_fr {σ' : Mem} {b : Nat → Int} {n : Nat} {F : Nat → Nat → Prop} (hF : Fr F σ σ') (h1 : ∀ o k, F o k → o ≠ 26 ∧ o ≠ 28) (h : bfC σ b n) : bfC σ' b n := by
  obtain ⟨x1, x2, x3⟩ := h
  exact ⟨by rw [hF 26 0 (fun z => (h1 _ _ z).1 rfl)]; exact x1, x2, fun k hk => by rw [hF 28 k (fun z => (h1 _ _ z).2 rfl)]; exact x3 k hk⟩
theorem t_replaceLine (h : Inv σ τ) {a : Int} (ha : RI a) : Two (Ai_replaceLine a σ) (Md_replaceLine a τ) := by
  have hb := h.nb
  have hn := h.n
  unfold Ai_replaceLine Md_replaceLine Two
  rw [lin_has ha hb.1, md_isLine ha hb.2]
  simp only [Option.bind_some]
  rw [hn.1]
  by_cases q : 0 ≤ a ∧ a < τ 1 0
  · obtain ⟨i, rfl⟩ : ∃ z : Nat, a = (z : Int) := ⟨a.toNat, by omega⟩
    obtain ⟨N, hN⟩ : ∃ z : Nat, τ 1 0 = (z : Int) := ⟨(τ 1 0).toNat, by omega⟩
    rw [if_pos q, wr_1, if_neg n10, if_neg n10]
    obtain ⟨n, bC, bM⟩ := h.bf
    obtain ⟨s, e, r, τa, ea, hs, he, hFa, h28, h29, ok1, ok0⟩ := md_isLineText bM
    obtain ⟨r', eb, ok1', ok0'⟩ := buf_isLine bC hs he
    have hIa : Inv σ τa := Inv_FI h hFa
    rw [ea, eb]
    simp only [Option.bind_some]
    by_cases qk : okL s e
    · rw [ok1 qk, ok1' qk, wr_1, if_neg n10, if_neg n10, rg_3 (by omega) (by omega)]
      simp only [Option.bind_some]
      rw [show ((i : Int)).toNat = i by omega]
      obtain ⟨r1, σ1, e1, r2, τ1, e2, hI, h11, hF1, hF2⟩ := hIa.begin
      have n1 : σ1 2 0 = N := by rw [hF1 2 0 (by unfold FBg; omega), hn.1, hN]
      have n2 : τ1 1 0 = N := by rw [hF2 1 0 (by unfold FBm; omega), hFa 1 0 (by unfold FI; omega), hN]
      rw [e1, e2]
      simp only [Option.bind_some]
      rw [if_pos (inb (by omega) (by omega) (by omega)), wrn (n := 1 + i) (by omega) (by omega)]
      have bC1 : bfC σ1 (τ 3) n := bfC_fr hF1 (fun o k z => by unfold FBg at z; omega) bC
      have e3 : τ1 3 = τ 3 := by funext k; rw [hF2 3 k (by unfold FBm; omega), hFa 3 k (by unfold FI; omega)]
      have hen := he.2.1
      have hn72 := bC.2.1
      obtain ⟨r3, σ2, e4, f1, p1, w1⟩ := buf_writeLine bC1 hs he qk (i := i) (by omega)
      obtain ⟨r4, τ2, e5, f2, p2, w2⟩ := md_writes (τ := τ1) (s := s) (e := e) (i := i) (by rw [hF2 0 28 (by unfold FBm; omega)]; exact h28) (by rw [hF2 0 29 (by unfold FBm; omega)]; exact h29) he.1 (by omega) qk (by omega)
      rw [e3] at w2
      rw [e4, e5]
      simp only [Option.bind_some]
      have hl := hI.lr n1 (j := i) (by omega)
      refine Ex.ret (Ex.ret ⟨?_, ?_⟩)
      · have := (h.lr (by rw [hn.1, hN]) (j := i) (N := N) (by omega)).1
        rw [hF2 1 (1 + i) (by unfold FBm; omega), hFa 1 (1 + i) (by unfold FI; omega), this]
      · refine Inv_ln hI h11 (f1.mono (fun o k z => FLc_s z)) (f2.mono (fun o k z => Or.inl (FLm_p (by omega) z))) (N := N) (by omega) (by rw [f1 2 0 (by unfold FLc; omega)]; exact n1) (by rw [f2 1 0 (by unfold FLm; omega)]; exact n2) (fun j hj => ?_)
        by_cases ej : j = i
        · subst ej
          exact wl_lnR (fun k hk => (bC.2.2 k hk).2) hs he qk w1 w2 (by rw [p1, p2]; exact hl.2.2.1) (by rw [p1]; exact hl.2.2.2.2.2.2.1)
        · exact (hI.lr n1 hj).mv (lnQ_fr f1 ej) (lnP_fr f2 ej (by omega) (by omega))
    · rw [ok0 qk, ok0' qk, wr_0, if_pos rfl, if_pos rfl]
      exact Ex.ret (Ex.ret ⟨rfl, hIa⟩)
  · rw [if_neg q, wr_0, if_pos rfl, if_pos rfl]
    exact Ex.ret (Ex.ret ⟨rfl, h⟩)
theorem t_insertLine (h : Inv σ τ) {a : Int} (ha : RI a) : Two (Ai_insertLine a σ) (Md_insertLine a τ) := by
  have hb := h.nb
  have hn := h.n
  unfold Ai_insertLine Md_insertLine Two
  rw [hn.1, if_pos in0, show (wr 0).toNat = 0 from by decide, ai_wi ha (by omega) ⟨by omega, by omega⟩, md_wi ha (by omega) ⟨by omega, by omega⟩]
  simp only [Option.bind_some]
  by_cases q : 0 ≤ a ∧ a ≤ τ 1 0
  · obtain ⟨i, rfl⟩ : ∃ z : Nat, a = (z : Int) := ⟨a.toNat, by omega⟩
    obtain ⟨N, hN⟩ : ∃ z : Nat, τ 1 0 = (z : Int) := ⟨(τ 1 0).toNat, by omega⟩
    rw [if_pos q, wr_1, if_neg n10, if_neg n10, if_pos in0, hn.1, hN, wr_id (n := (N : Int)) (by omega) (by omega)]
    by_cases q20 : N < 20
    · rw [if_pos (by omega), if_neg (by omega)]
      obtain ⟨n, bC, bM⟩ := h.bf
      obtain ⟨s, e, r, τa, ea, hs, he, hFa, h28, h29, ok1, ok0⟩ := md_isLineText bM
      obtain ⟨r', eb, ok1', ok0'⟩ := buf_isLine bC hs he
      have hIa : Inv σ τa := Inv_FI h hFa
      rw [ea, eb]
      simp only [Option.bind_some]
      by_cases qk : okL s e
      · rw [ok1 qk, ok1' qk, wr_1, if_neg n10, if_neg n10]
        obtain ⟨r1, σ1, e1, r2, τ1, e2, hI, h11, hF1, hF2⟩ := hIa.begin
        have n1 : σ1 2 0 = N := by rw [hF1 2 0 (by unfold FBg; omega), hn.1, hN]
        have n2 : τ1 1 0 = N := by rw [hF2 1 0 (by unfold FBm; omega), hFa 1 0 (by unfold FI; omega), hN]
        rw [e1, e2]
        simp only [Option.bind_some]
        have bC1 : bfC σ1 (τ 3) n := bfC_fr hF1 (fun o k z => by unfold FBg at z; omega) bC
        have hen := he.2.1
        have hn72 := bC.2.1
        obtain ⟨r5, σ2, e6, g1, g2, g3, g4, g5⟩ := lin_openGap (σ := σ1) (i := i) (N := N) (by omega) q20 n1 (hI.sz n1)
        obtain ⟨r6, τ2, e7, m1, m2, m3, m4, m5⟩ := md_parts (τ := τ1) (i := i) (N := N) (by omega) q20 n2
        rw [e6, e7]
        simp only [Option.bind_some]
        have bC2 : bfC σ2 (τ 3) n := bfC_fr g5 (fun o k z => by unfold FLs at z; omega) bC1
        have e3 : τ2 3 = τ 3 := by funext k; rw [m5 3 k (by unfold FLp; omega), hF2 3 k (by unfold FBm; omega), hFa 3 k (by unfold FI; omega)]
        obtain ⟨r3, σ3, e4, f1, p1, w1⟩ := buf_writeLine bC2 hs he qk (i := i) (by omega)
        obtain ⟨r4, τ3, e5, f2, p2, w2⟩ := md_writes (τ := τ2) (s := s) (e := e) (i := i) (by rw [m5 0 28 (by unfold FLp; omega), hF2 0 28 (by unfold FBm; omega)]; exact h28) (by rw [m5 0 29 (by unfold FLp; omega), hF2 0 29 (by unfold FBm; omega)]; exact h29) he.1 (by omega) qk (by omega)
        rw [e3] at w2
        rw [e4, e5]
        simp only [Option.bind_some]
        rw [if_pos in0]
        have c1 : σ3 2 0 = ((N + 1 : Nat) : Int) := by rw [f1 2 0 (by unfold FLc; omega), g1, n1]; omega
        have c2 : τ3 1 0 = ((N + 1 : Nat) : Int) := by rw [f2 1 0 (by unfold FLm; omega), m1, n2]; omega
        refine Ex.ret (Ex.ret ⟨by rw [c1, c2], ?_⟩)
        refine Inv_ln hI h11 (g5.tr (f1.mono (fun o k z => FLc_s z))) ((m5.mono (fun o k z => Or.inl z)).tr (f2.mono (fun o k z => Or.inl (FLm_p (by omega) z)))) (N := N + 1) (by omega) c1 c2 (fun j hj => ?_)
        by_cases ej : j = i
        · subst ej
          exact wl_lnR (fun k hk => (bC.2.2 k hk).2) hs he qk w1 w2 (by rw [p1, p2, m4, g4.2.2]) (by rw [p1, g4.2.2]; exact Or.inl rfl)
        · by_cases lt : j < i
          · exact (hI.lr n1 (by omega)).mv ((g2 j lt).tr (lnQ_fr f1 ej)) ((m2 j lt).tr (lnP_fr f2 ej (by omega) (by omega)))
          · exact (hI.lr n1 (by omega)).mv ((g3 j (by omega) (by omega)).tr (lnQ_fr f1 ej)) ((m3 j (by omega) (by omega)).tr (lnP_fr f2 ej (by omega) (by omega)))
      · rw [ok0 qk, ok0' qk, wr_0, if_pos rfl, if_pos rfl]
        exact Ex.ret (Ex.ret ⟨rfl, hIa⟩)
    · rw [if_neg (by omega), if_pos (by omega)]
      exact Ex.ret (Ex.ret ⟨rfl, h⟩)
  · rw [if_neg q, wr_0, if_pos rfl, if_pos rfl]
    exact Ex.ret (Ex.ret ⟨rfl, h⟩)
end IN
