/-! ===== draw ===== -/
section DX
variable {σ τ : Mem}
theorem Inv_37 (h : Inv σ τ) (v : Int) : Inv σ (upM τ 0 37 v) := Inv_q h Fr.rf (Fr.up Fr.rf (by unfold FR; omega)) h.1.2.2.2
def FDl (N o z : Nat) : Prop := (o = 0 ∧ z = 37) ∨ (o = 1 ∧ (z = 0 ∨ z = 1 + N ∨ z = 21 + N ∨ z = 41 + N ∨ (61 + 32 * N ≤ z ∧ z < 93 + 32 * N)))
theorem ai_drawLine {N v1 v2 : Nat} {x : Int} {σ1 : Mem} {r1 : Int} (hN : N < 20) (n1 : σ 2 0 = N) (e1 : Lin_openGap N σ = some (r1, σ1)) (hv1 : andI (ushrI (nxS x) 16) 32767 = (v1 : Int)) (h1 : v1 ≤ 32767) (hv2 : andI (ushrI (nxS (nxS x)) 16) 32767 = (v2 : Int)) (h2 : v2 ≤ 32767) : Ai_drawLine x σ = Ai_drawLine_66 100000 N (nxS (nxS x)) ((1 + v2 % 3 : Nat) : Int) 0 (upM σ1 4 N ((v1 % 12 : Nat) : Int)) := by
  unfold Ai_drawLine
  rw [n1, e1, bnd_s]
  unfold Ai_nextSeed Ai_drawnNumber
  rw [bnd_s, bnd_s]
  show (Row_set 3 N ((wr (andI (ushrI (nxS x) 16) 32767)).tmod (wr 12)) σ1).bind _ = _
  have e12 : (wr (v1 : Int)).tmod (wr 12) = ((v1 % 12 : Nat) : Int) := tm_n (c := 12) h1 (by omega) (by omega)
  have e3 : (wr (v2 : Int)).tmod (wr 3) = ((v2 % 3 : Nat) : Int) := tm_n (c := 3) h2 (by omega) (by omega)
  rw [hv1, e12, rs_3 (by omega) (by omega), bnd_s, bnd_s, bnd_s]
  show Ai_drawLine_66 100000 N (nxS (nxS x)) (1 + (wr (andI (ushrI (nxS (nxS x)) 16) 32767)).tmod (wr 3)) 0 (upM σ1 4 ((N : Int)).toNat ((v1 % 12 : Nat) : Int)) = _
  rw [hv2, e3, show ((N : Int)).toNat = N by omega, show (1 : Int) + ((v2 % 3 : Nat) : Int) = ((1 + v2 % 3 : Nat) : Int) by omega]
def dlM (τ : Mem) (N : Nat) (v1 : Nat) : Mem := upM (upM (upM (upM (upM τ 1 0 ((N + 1 : Nat) : Int)) 1 (41 + N) 0) 0 37 (nxS (τ 0 37))) 1 (1 + N) ((v1 % 12 : Nat) : Int)) 0 37 (nxS (nxS (τ 0 37)))
theorem md_drawsLine {N v1 v2 : Nat} (hN : N < 20) (n2 : τ 1 0 = N) (hv1 : andI (ushrI (nxS (τ 0 37)) 16) 32767 = (v1 : Int)) (h1 : v1 ≤ 32767) (hv2 : andI (ushrI (nxS (nxS (τ 0 37))) 16) 32767 = (v2 : Int)) (h2 : v2 ≤ 32767) : Md_drawsLine τ = Md_drawsLine_56 100000 N ((1 + v2 % 3 : Nat) : Int) ((0 : Nat) : Int) ((0 : Nat) : Int) (dlM τ N v1) := by
  have e12 : (wr (v1 : Int)).tmod (wr 12) = ((v1 % 12 : Nat) : Int) := tm_n (c := 12) h1 (by omega) (by omega)
  have e3 : (wr (v2 : Int)).tmod (wr 3) = ((v2 % 3 : Nat) : Int) := tm_n (c := 3) h2 (by omega) (by omega)
  unfold Md_drawsLine
  rw [if_pos in0, if_pos in0, if_pos in0, show (wr 0).toNat = 0 from by decide, n2]
  unfold letM
  dsimp only
  rw [if_pos (inb (by omega) (by omega) (by omega)), wrn (n := 41 + N) (by omega) (by omega), md_draws, bnd_s]
  dsimp only
  rw [if_pos (inb (by omega) (by omega) (by omega)), wrn (n := 1 + N) (by omega) (by omega)]
  have k1 : (upM (upM τ 1 0 ((N : Int) + 1)) 1 (41 + N) 0) 0 37 = τ 0 37 := by simp [upM]
  rw [k1, hv1, e12, md_draws, bnd_s]
  dsimp only
  have k2 : (upM (upM (upM (upM τ 1 0 ((N : Int) + 1)) 1 (41 + N) 0) 0 37 (nxS (τ 0 37))) 1 (1 + N) ((v1 % 12 : Nat) : Int)) 0 37 = nxS (τ 0 37) := by simp [upM]
  rw [k2, hv2, e3, show (1 : Int) + ((v2 % 3 : Nat) : Int) = ((1 + v2 % 3 : Nat) : Int) by omega, show (N : Int) + 1 = ((N + 1 : Nat) : Int) by omega]
  rfl
theorem dr_line (h : Inv σ τ) (h11 : σ 0 11 = 0) {N : Nat} (hN : N < 20) (n1 : σ 2 0 = N) : ∃ (x' : Int) (σ' τ' : Mem), Ai_drawLine (τ 0 37) σ = some (x', σ') ∧ Md_drawsLine τ = some (0, τ') ∧ τ' 0 37 = x' ∧ Inv σ' τ' ∧ σ' 0 11 = 0 ∧ σ' 2 0 = ((N + 1 : Nat) : Int) := by
  have n2 : τ 1 0 = N := by rw [← h.n.1]; exact n1
  obtain ⟨v1, hv1, b1⟩ := and_lo (ushrI (nxS (τ 0 37)) 16)
  obtain ⟨v2, hv2, b2⟩ := and_lo (ushrI (nxS (nxS (τ 0 37))) 16)
  obtain ⟨r1, σ1, e1, g1, g2, g3, g4, g5⟩ := lin_openGap (σ := σ) (i := N) (N := N) (by omega) hN n1 (h.sz n1)
  have hF0 : Fr (FDl N) τ (dlM τ N v1) := Fr.up (Fr.up (Fr.up (Fr.up (Fr.up Fr.rf (by unfold FDl; omega)) (by unfold FDl; omega)) (by unfold FDl; omega)) (by unfold FDl; omega)) (by unfold FDl; omega)
  have t37 : (dlM τ N v1) 0 37 = nxS (nxS (τ 0 37)) := by simp [dlM, upM]
  have c0 : (dlM τ N v1) 1 0 = ((N + 1 : Nat) : Int) := by
    unfold dlM upM
    simp only [Nat.reduceEqDiff, and_true, and_false, false_and, true_and, if_false, if_true]
    rw [if_neg (by omega), if_neg (by omega)]
  have c1 : (dlM τ N v1) 1 (1 + N) = ((v1 % 12 : Nat) : Int) := by
    unfold dlM upM
    rw [if_neg (by omega), if_pos (by omega)]
  have c41 : (dlM τ N v1) 1 (41 + N) = 0 := by
    unfold dlM upM
    rw [if_neg (by omega), if_neg (by omega), if_neg (by omega), if_pos (by omega)]
  have hP := InvP_fr h.2.2.2.2 hF0 (fun o z w => by unfold FDl at w; omega)
  have hLR : LR0 (upM σ1 4 N ((v1 % 12 : Nat) : Int)) (dlM τ N v1) N 0 := ⟨by simp [upM, g4.2.1], fun z hz => by omega, fun z => by omega⟩
  obtain ⟨x', σ', τ', L', k1, k2, k3, ⟨l1, l2, l3⟩, l4, k6, k7, k8, k9, k10⟩ := dr_66 (i := N) (P := 1 + v2 % 3) hN (by omega) (1 + v2 % 3) 100000 0 0 _ _ (by omega) (by omega) hLR (fun z => by omega) (fun _ => rfl) (fun z => by omega) hP
  rw [t37] at k1
  have kL := k6 (by omega)
  have FA : Fr (FLc N) σ1 σ' := (Fr.up Fr.rf (by unfold FLc; omega)).tr (k9.mono (fun o z w => by unfold FAp at w; unfold FLc; omega))
  have FB : Fr (FDl N) τ τ' := hF0.tr (k10.mono (fun o z w => by unfold FDm at w; unfold FDl; omega))
  have FB2 : Fr (fun o k => FLp o k ∨ (o = 0 ∧ 28 ≤ k ∧ k ≤ 29)) (upM τ 0 37 x') τ' := by
    intro o z w
    by_cases q : o = 0 ∧ z = 37
    · obtain ⟨rfl, rfl⟩ := q
      rw [k3]; simp [upM]
    · rw [FB o z (fun y => by unfold FDl at y; unfold FLp at w; omega)]
      unfold upM
      rw [if_neg q]
  have cn : σ' 2 0 = ((N + 1 : Nat) : Int) := by rw [FA 2 0 (by unfold FLc; omega), g1, n1]; omega
  have cm : τ' 1 0 = ((N + 1 : Nat) : Int) := by rw [k10 1 0 (by unfold FDm; omega)]; exact c0
  have s4 : σ' 4 N = ((v1 % 12 : Nat) : Int) := by rw [k9 4 N (by unfold FAp; omega)]; simp [upM]
  have s8 : σ' 8 N = 0 := by
    rw [k9 8 N (by unfold FAp; omega)]
    have : upM σ1 4 N ((v1 % 12 : Nat) : Int) 8 N = σ1 8 N := by unfold upM; rw [if_neg (by omega)]
    rw [this]; exact g4.2.2
  refine ⟨x', σ', τ', ?_, ?_, k3, ?_, ?_, cn⟩
  · rw [ai_drawLine hN n1 e1 hv1 b1 hv2 b2]
    exact k1
  · rw [md_drawsLine hN n2 hv1 b1 hv2 b2]
    exact k2
  · refine Inv_ln (Inv_37 h x') h11 (g5.tr (FA.mono (fun o k z => FLc_s z))) FB2 (N := N + 1) (by omega) cn cm (fun j hj => ?_)
    by_cases ej : j = N
    · subst ej
      refine ⟨?_, ?_, ?_, fun k hk => ?_, ⟨?_, ?_, Or.inl s8, fun z => ?_, fun z => ?_, fun k hk => ?_⟩⟩
      · rw [k10 1 (1 + j) (by unfold FDm; omega), c1, s4]
      · rw [k8, l1]
      · rw [k10 1 (41 + j) (by unfold FDm; omega), c41, s8]
      · rw [l1] at hk
        exact (l2 k (by omega)).1
      · rw [s4]; omega
      · rw [l1]; omega
      · rw [l1] at z; omega
      · refine ⟨l3 kL, ?_⟩
        show σ' 10 (32 * j + (σ' 6 j - 1).toNat) ≠ 32
        rw [l1, show ((L' : Int) - 1).toNat = L' - 1 by omega]
        exact l4 kL
      · rw [l1] at hk
        exact (l2 k (by omega)).2
    · have hm : lnP τ' j (upM τ 0 37 x') j := by
        have q : ∀ z, z < 701 → FLp 1 z → ¬ FDl N 1 z → τ' 1 z = upM τ 0 37 x' 1 z := fun z _ _ y => by
          rw [FB 1 z y]
          unfold upM
          rw [if_neg (by omega)]
        exact ⟨q _ (by omega) (by unfold FLp; omega) (by unfold FDl; omega), q _ (by omega) (by unfold FLp; omega) (by unfold FDl; omega), q _ (by omega) (by unfold FLp; omega) (by unfold FDl; omega), fun k hk => q _ (by omega) (by unfold FLp; omega) (by unfold FDl; omega)⟩
      exact ((Inv_37 h x').lr n1 (by omega)).mv ((g2 j (by omega)).tr (lnQ_fr FA ej)) hm
  · rw [FA 0 11 (by unfold FLc; omega), g5 0 11 (by unfold FLs; omega)]
    exact h11
theorem dr_40 {N A B : Nat} (hA : A ≤ B) (hB : B ≤ 12) (hNA : N + A ≤ 20) (hAB : A < B → N + A = 20) : ∀ (m n n' j : Nat) (σ τ : Mem), j + m = A → m < n → m < n' → Inv σ τ → σ 0 11 = 0 → σ 2 0 = ((N + j : Nat) : Int) → Two (Ai_draw_40 n A (τ 0 37) j σ) (Md_draw_23 n' B j τ) := by
  intro m
  induction m with
  | zero =>
    intro n n' j σ τ hj hn hn' h h11 n1
    obtain ⟨n, rfl⟩ : ∃ z, n = z + 1 := ⟨n - 1, by omega⟩
    obtain ⟨n', rfl⟩ : ∃ z, n' = z + 1 := ⟨n' - 1, by omega⟩
    have n2 : τ 1 0 = ((N + j : Nat) : Int) := by rw [← h.n.1]; exact n1
    show Two (Ai_draw_40b (Ai_draw_40 n) A (τ 0 37) j σ) (Md_draw_23b (Md_draw_23 n') B j τ)
    unfold Ai_draw_40b Md_draw_23b
    rw [wr_id (n := (j : Int)) (by omega) (by omega), wr_id (n := (A : Int)) (by omega) (by omega), wr_id (n := (B : Int)) (by omega) (by omega), if_neg (by omega)]
    have e : (A : Int) = (j : Int) := by omega
    by_cases q : (j : Int) < B
    · rw [if_pos q, if_pos in0, show (wr 0).toNat = 0 from by decide, n2, wr_id (n := ((N + j : Nat) : Int)) (by omega) (by omega), if_neg (by omega)]
      exact Ex.ret (Ex.ret ⟨e.symm, h⟩)
    · rw [if_neg q]
      exact Ex.ret (Ex.ret ⟨e.symm, h⟩)
  | succ m ih =>
    intro n n' j σ τ hj hn hn' h h11 n1
    obtain ⟨n, rfl⟩ : ∃ z, n = z + 1 := ⟨n - 1, by omega⟩
    obtain ⟨n', rfl⟩ : ∃ z, n' = z + 1 := ⟨n' - 1, by omega⟩
    have n2 : τ 1 0 = ((N + j : Nat) : Int) := by rw [← h.n.1]; exact n1
    obtain ⟨x', σ', τ', e1, e2, k3, hI, h11', n3⟩ := dr_line h h11 (N := N + j) (by omega) n1
    have := ih n n' (j + 1) σ' τ' (by omega) (by omega) (by omega) hI h11' (by rw [n3]; omega)
    show Two (Ai_draw_40b (Ai_draw_40 n) A (τ 0 37) j σ) (Md_draw_23b (Md_draw_23 n') B j τ)
    unfold Ai_draw_40b Md_draw_23b
    rw [wr_id (n := (j : Int)) (by omega) (by omega), wr_id (n := (A : Int)) (by omega) (by omega), wr_id (n := (B : Int)) (by omega) (by omega), if_pos (by omega), if_pos (by omega), if_pos in0, show (wr 0).toNat = 0 from by decide, n2, wr_id (n := ((N + j : Nat) : Int)) (by omega) (by omega), if_pos (by omega), e1, e2, bnd_s, bnd_s]
    rw [k3, show (((j + 1 : Nat)) : Int) = (j : Int) + 1 by omega] at this
    exact this
theorem t_draw (h : Inv σ τ) {a b : Int} (hb : RI b) : Two (Ai_draw a b σ) (Md_draw a b τ) := by
  have hn := h.n
  unfold Ai_draw Md_draw
  rw [ai_wi hb ⟨by omega, by omega⟩ ⟨by omega, by omega⟩, md_wi hb ⟨by omega, by omega⟩ ⟨by omega, by omega⟩, bnd_s, bnd_s]
  dsimp only
  by_cases q : 1 ≤ b ∧ b ≤ 12
  · rw [if_pos q, wr_1, if_neg n10, if_neg n10]
    obtain ⟨r1, σ1, e1, r2, τ1, e2, hI, h11, hF1, hF2⟩ := h.begin
    obtain ⟨N, hN⟩ : ∃ z : Nat, σ1 2 0 = (z : Int) := ⟨(σ1 2 0).toNat, by have := hI.n; omega⟩
    obtain ⟨B, rfl⟩ : ∃ z : Nat, b = (z : Int) := ⟨b.toNat, by omega⟩
    have hN20 : N ≤ 20 := by have := hI.n; omega
    rw [e1, e2, bnd_s, bnd_s]
    unfold letM
    dsimp only
    rw [hN]
    have hmin : mminI (B : Int) (20 - (N : Int)) = ((min B (20 - N) : Nat) : Int) := by
      unfold mminI
      rw [wr_id (n := (B : Int)) (by omega) (by omega), wr_id (n := 20 - (N : Int)) (by omega) (by omega)]
      by_cases z : 20 - (N : Int) < (B : Int)
      · rw [if_pos z]; omega
      · rw [if_neg z]; omega
    rw [hmin]
    have k37 : (upM τ1 0 37 a) 0 37 = a := by simp [upM]
    have := dr_40 (N := N) (A := min B (20 - N)) (B := B) (by omega) (by omega) (by omega) (fun z => by omega) (min B (20 - N)) 100000 100000 0 σ1 (upM τ1 0 37 a) (by omega) (by omega) (by omega) (Inv_37 hI a) h11 (by rw [hN]; omega)
    rw [k37] at this
    exact this
  · rw [if_neg q, wr_0, if_pos rfl, if_pos rfl]
    exact Ex.ret (Ex.ret ⟨rfl, h⟩)
end DX
