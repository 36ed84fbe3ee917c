/-! ===== indentations alone: reindent, shift ===== -/
section ID
variable {σ τ : Mem}
theorem wI_mk {n stp bas cm : Int} {ind ind' len pin byt sort prec sp mode clos ts tb : Nat → Int} : wI (mkS n stp bas cm ind len pin byt sort prec sp mode clos ts tb) = wI (mkS n stp bas cm ind' len pin byt sort prec sp mode clos ts tb) := by
  funext c
  match c with
  | 0 => rfl
  | 1 => rfl
  | 2 => rfl
  | 3 => rfl
  | 4 => rfl
  | 5 => rfl
  | 6 => rfl
  | 7 => rfl
  | 8 => rfl
  | 9 => rfl
  | 10 => rfl
  | 11 => rfl
  | c + 12 => rfl
theorem absM_wI {τ' : Mem} (h0 : τ' 1 0 = τ 1 0) (hn : τ 1 0 ≤ 20) (g : ∀ x, 21 ≤ x → x < 980 → τ' 1 x = τ 1 x) : wI (absM τ' 0) = wI (absM τ 0) := by
  have gg : ∀ x y, 21 ≤ x → x < 980 → x = y → τ' 1 x = τ 1 y := fun x y h1 h2 h3 => by rw [← h3]; exact g x h1 h2
  have key : absM τ' 0 = mkS (τ 1 0) (τ 1 977) (τ 1 978) (τ 1 979) (fun i => τ' 1 (1 + i)) (fun i => τ 1 (21 + i)) (fun i => τ 1 (41 + i)) (fun k => τ 1 (61 + k))
      (fun r => τ 1 (701 + 23 * r)) (fun r => τ 1 (702 + 23 * r)) (fun r => τ 1 (703 + 23 * r)) (fun r => τ 1 (704 + 23 * r)) (fun r => τ 1 (705 + 23 * r))
      (fun q => τ 1 (701 + 23 * (q / 2) + (5 + 9 * (q % 2)))) (fun k => τ 1 (701 + 23 * (k / 16) + (6 + 9 * (k / 8 % 2)) + k % 8)) := by
    rw [aM0, h0, g 977 (by omega) (by omega), g 978 (by omega) (by omega), g 979 (by omega) (by omega)]
    exact mkS_congr (fun k hk => rfl) (fun k hk => gg _ _ (by omega) (by omega) rfl) (fun k hk => gg _ _ (by omega) (by omega) rfl) (fun i k hi hk h => gg _ _ (by omega) (by omega) rfl) (fun r hr => gg _ _ (by omega) (by omega) rfl)
      (fun r hr _ => ⟨gg _ _ (by omega) (by omega) rfl, gg _ _ (by omega) (by omega) rfl, gg _ _ (by omega) (by omega) rfl, fun k hk _ => gg _ _ (by omega) (by omega) rfl⟩)
      (fun r hr _ => ⟨gg _ _ (by omega) (by omega) rfl, gg _ _ (by omega) (by omega) rfl, gg _ _ (by omega) (by omega) rfl, fun k hk _ => gg _ _ (by omega) (by omega) rfl⟩)
  rw [key, aM0 τ]
  exact wI_mk
theorem Inv_ind {σ' τ' : Mem} (h : Inv σ τ) (hσ : Fr (fun o _ => o = 4) σ σ') (hτ : Fr (fun o k => o = 1 ∧ 1 ≤ k ∧ k < 21) τ τ') (hl : ∀ j : Nat, (j : Int) < τ 1 0 → τ' 1 (1 + j) = σ' 4 j ∧ (0 ≤ σ' 4 j ∧ σ' 4 j ≤ 40) ∧ (σ 6 j = 0 → σ' 4 j = 0)) : Inv σ' τ' := by
  have hn := h.n
  have kσ : ∀ o k, o ≠ 4 → σ' o k = σ o k := fun o k q => hσ o k q
  have kτ : ∀ o k, (o ≠ 1 ∨ k = 0 ∨ 21 ≤ k) → τ' o k = τ o k := fun o k q => hτ o k (by omega)
  have e2 : σ' 2 = σ 2 := by funext k; exact kσ 2 k (by omega)
  have e6 : σ' 6 = σ 6 := by funext k; exact kσ 6 k (by omega)
  have e8 : σ' 8 = σ 8 := by funext k; exact kσ 8 k (by omega)
  have e10 : σ' 10 = σ 10 := by funext k; exact kσ 10 k (by omega)
  have eC := absC_edL (σ := σ) (σ' := σ') (fun o k q => kσ o k (by omega))
  have eM := absM_edL (τ := τ) (τ' := τ') (fun k q1 q2 => kτ 1 k (by omega))
  have lo : ∀ j : Nat, (j : Int) < τ 1 0 → lnR σ τ j := fun j hj => h.lnok (by omega)
  have e : absC σ' 1 = absM τ' 0 := by
    rw [eC, eM, h.1.1, e2, e6, e8, e10, hn.1, kτ 1 0 (by omega)]
    exact edL_congr (fun k hk => (hl k hk).1.symm) (fun k hk => by rw [kτ 1 (21 + k) (by omega)]; exact (lo k hk).2.1.symm) (fun k hk => by rw [kτ 1 (41 + k) (by omega)]; exact (lo k hk).2.2.1.symm) (fun i k hi hk _ => by rw [kτ 1 _ (by omega)]; exact ((lo i hi).2.2.2.1 k hk).symm)
  refine Inv_edit h (fun o k q => kσ o k (by unfold FN FQ at q; omega)) (fun o k q => kτ o k (by unfold FM at q; omega)) ⟨e, ?_, ?_, ?_⟩
  · rw [← e, eC, h.1.1, e2, e6, e8, e10, hn.1]
    refine SV_edL h.1.2.1 (by omega) (fun i hi => ?_)
    obtain ⟨l1, l2, l3, l4, l5, l6⟩ := (lo i hi).2.2.2.2
    exact ⟨(hl i hi).2.1, l2, l3, (hl i hi).2.2, l5, l6⟩
  · exact fun r hr => by rw [kσ (1 + 12) r (by omega), kσ (1 + 22) (2 * r + 1) (by omega)]; exact h.1.2.2.1 r hr
  · rcases h.1.2.2.2 with z | ⟨z1, z2⟩
    · left; rw [kσ 0 11 (by omega)]; exact z
    · right
      exact ⟨by rw [kσ 0 11 (by omega)]; exact z1, Kn_Fr hσ (fun o k q => by omega) (Kn_wI (absM_wI (kτ 1 0 (by omega)) (by omega) (fun x h1 h2 => kτ 1 x (by omega))) z2)⟩
theorem lin_hasRange {a b : Int} (ha : RI a) (hb : RI b) (hn : 0 ≤ σ 2 0 ∧ σ 2 0 ≤ 20) : Lin_hasRange a b σ = some (if 0 ≤ a ∧ a ≤ b ∧ b ≤ σ 2 0 then 1 else 0, σ) := by
  unfold Lin_hasRange
  rw [ha.w, hb.w, wr_id (n := σ 2 0) (by omega) (by omega)]
  by_cases q1 : a < 0
  · rw [if_pos q1, if_neg (by omega)]
  · by_cases q2 : b < a
    · rw [if_neg q1, if_pos q2, if_neg (by omega)]
    · by_cases q3 : σ 2 0 < b
      · rw [if_neg q1, if_neg q2, if_pos q3, if_neg (by omega)]
      · rw [if_neg q1, if_neg q2, if_neg q3, if_pos (by omega)]
theorem md_isRange {a b : Int} (ha : RI a) (hb : RI b) (hn : 0 ≤ τ 1 0 ∧ τ 1 0 ≤ 20) : Md_isRange a b τ = some (if 0 ≤ a ∧ a ≤ b ∧ b ≤ τ 1 0 then 1 else 0, τ) := by
  unfold Md_isRange
  rw [if_pos in0, show (wr 0).toNat = 0 from by decide, md_wi ha (by omega) ⟨by omega, by omega⟩]
  simp only [Option.bind_some]
  by_cases q1 : 0 ≤ a ∧ a ≤ τ 1 0
  · rw [if_pos q1, wr_1, if_neg n10, if_pos in0, md_wi hb ha ⟨by omega, by omega⟩]
    simp only [Option.bind_some]
    by_cases q2 : a ≤ b ∧ b ≤ τ 1 0
    · rw [if_pos q2, wr_1, if_neg n10, if_pos (by omega)]
    · rw [if_neg q2, wr_0, if_pos rfl, if_neg (by omega)]
  · rw [if_neg q1, wr_0, if_pos rfl, if_neg (by omega)]
theorem setS_row {S : Mem} {stp bas : Int} : ∀ (m i : Nat) (rw : Nat → Int) (s j : Nat), (setS S stp bas m i rw s).1 j = rw j ∨ (S 2 j ≠ 0 ∧ 0 ≤ (setS S stp bas m i rw s).1 j ∧ (setS S stp bas m i rw s).1 j ≤ 40)
  | 0, i, rw, s, j => Or.inl rfl
  | m + 1, i, rw, s, j => by
    unfold setS
    by_cases q : frS S i ∧ S 3 i = 0
    · rw [cif_pos q]
      have hw := wan_rng (S := S) (rw := rw) (stp := stp) (bas := bas) (i := i)
      rcases setS_row (S := S) (stp := stp) (bas := bas) m (i + 1) (up1 rw i (wanS S rw stp bas i)) (if wanS S rw stp bas i = S 1 i then s else s + 2 ^ i) j with z | z
      · rw [z]
        unfold up1
        by_cases e : j = i
        · right; rw [if_pos e, e]; exact ⟨q.1.1, hw⟩
        · left; rw [if_neg e]
      · exact Or.inr z
    · rw [cif_neg q]
      exact setS_row m (i + 1) rw s j
theorem ai_re_30 {S : Mem} (hS : SV S) {stp bas : Int} (hs : 1 ≤ stp ∧ stp ≤ 8) (hb : 0 ≤ bas ∧ bas ≤ 20) : ∀ (m n i s : Nat) (σ : Mem), σ 1 2 = stp → σ 1 3 = bas → PlC S (nS S) σ → (∀ j, j < nS S → σ 8 j = S 3 j) → (∀ j, j < nS S → 0 ≤ σ 4 j ∧ σ 4 j ≤ 40) → (∀ j, i ≤ j → j < nS S → σ 4 j = S 1 j) → i + m ≤ nS S → m < n → s < 2 ^ i →
    Ex (Ai_reindent_30 n ((i + m : Nat) : Int) (bitN s 20 : Nat) i σ) (fun r σ' => r = (bitN (setS S stp bas m i (σ 4) s).2 20 : Nat) ∧ Fr (fun o _ => o = 4) σ σ' ∧ σ' 4 = (setS S stp bas m i (σ 4) s).1) := by
  have hN := hS.n
  intro m
  induction m with
  | zero =>
    intro n i s σ e1 e2 hP hp hr hj him hn hs2
    obtain ⟨n, rfl⟩ : ∃ z, n = z + 1 := ⟨n - 1, by omega⟩
    show Ex (Ai_reindent_30b (Ai_reindent_30 n) ((i + 0 : Nat) : Int) (bitN s 20 : Nat) i σ) _
    unfold Ai_reindent_30b
    rw [wr_id (n := (i : Int)) (by omega) (by omega), wr_id (n := ((i + 0 : Nat) : Int)) (by omega) (by omega), if_neg (by omega)]
    exact Ex.ret ⟨rfl, Fr.rf, rfl⟩
  | succ m ih =>
    intro n i s σ e1 e2 hP hp hr hj him hn hs2
    obtain ⟨n, rfl⟩ : ∃ z, n = z + 1 := ⟨n - 1, by omega⟩
    have hpp : 2 ^ (i + 1) = 2 ^ i * 2 := Nat.pow_succ 2 i
    have hw := wan_rng (S := S) (rw := σ 4) (stp := stp) (bas := bas) (i := i)
    have hpi := (hS.2.2.2.2.1 i (by omega)).2.2.1
    have nx : ∀ (s' : Nat) (σ' : Mem), Fr (fun o _ => o = 4) σ σ' → (∀ j, j < nS S → 0 ≤ σ' 4 j ∧ σ' 4 j ≤ 40) → (∀ j, i + 1 ≤ j → j < nS S → σ' 4 j = S 1 j) → s' < 2 ^ (i + 1) → Ex (Ai_reindent_30 n ((i + (m + 1) : Nat) : Int) (bitN s' 20 : Nat) ((i : Int) + 1) σ') (fun r σ'' => r = (bitN (setS S stp bas m (i + 1) (σ' 4) s').2 20 : Nat) ∧ Fr (fun o _ => o = 4) σ σ'' ∧ σ'' 4 = (setS S stp bas m (i + 1) (σ' 4) s').1) := by
      intro s' σ' hF h1 h2 h3
      have := ih n (i + 1) s' σ' (by rw [hF 1 2 (by omega)]; exact e1) (by rw [hF 1 3 (by omega)]; exact e2) (PlC_Fr hF (fun o k z => by omega) hP) (fun j hj => by rw [hF 8 j (by omega)]; exact hp j hj) h1 h2 (by omega) (by omega) h3
      rw [show (((i + 1 : Nat)) : Int) = (i : Int) + 1 by omega, show i + 1 + m = i + (m + 1) by omega] at this
      exact this.mono (fun r ρ q => ⟨q.1, hF.tr q.2.1, q.2.2⟩)
    show Ex (Ai_reindent_30b (Ai_reindent_30 n) ((i + (m + 1) : Nat) : Int) (bitN s 20 : Nat) i σ) _
    unfold Ai_reindent_30b
    rw [e1, e2, wr_id (n := (i : Int)) (by omega) (by omega), wr_id (n := ((i + (m + 1) : Nat) : Int)) (by omega) (by omega), if_pos (by omega), ai_anew (S := S) (by omega) (by omega) hP ⟨hp i (by omega), hpi⟩ (o := 3) lnA_4 hr hs hb]
    simp only [Option.bind_some]
    unfold setS
    by_cases q : frS S i ∧ S 3 i = 0
    · rw [cif_pos q, cif_pos q, cif_pos q]
      have e4 : upM σ (3 + 1) i (wanS S (σ (3 + 1)) stp bas i) 4 = up1 (σ 4) i (wanS S (σ 4) stp bas i) := by rw [upM_at]; rfl
      have hF : Fr (fun o _ => o = 4) σ (upM σ (3 + 1) i (wanS S (σ (3 + 1)) stp bas i)) := Fr.up Fr.rf rfl
      have h1 : ∀ j, j < nS S → 0 ≤ upM σ (3 + 1) i (wanS S (σ (3 + 1)) stp bas i) 4 j ∧ upM σ (3 + 1) i (wanS S (σ (3 + 1)) stp bas i) 4 j ≤ 40 := by
        intro j hj2
        rw [e4]; unfold up1
        split
        · exact hw
        · exact hr j hj2
      have h2 : ∀ j, i + 1 ≤ j → j < nS S → upM σ (3 + 1) i (wanS S (σ (3 + 1)) stp bas i) 4 j = S 1 j := by
        intro j hj1 hj2
        rw [e4]; unfold up1
        rw [if_neg (by omega)]
        exact hj j (by omega) hj2
      have ei : σ (3 + 1) i = S 1 i := hj i (by omega) (by omega)
      rw [ei]
      by_cases q3 : wanS S (σ (3 + 1)) stp bas i = S 1 i
      · have q3' : wanS S (σ 4) stp bas i = S 1 i := q3
        rw [if_pos q3, wr_0, if_pos rfl, if_pos q3']
        have := nx s _ hF h1 h2 (by omega)
        rw [e4] at this
        exact this
      · have q3' : ¬ wanS S (σ 4) stp bas i = S 1 i := q3
        have hb2 := bitN_add (s := s) (i := i) hs2 20
        rw [if_pos (by omega)] at hb2
        rw [if_neg q3, wr_1, if_neg n10, if_neg q3', show ((bitN s 20 : Nat) : Int) + 1 = ((bitN (s + 2 ^ i) 20 : Nat) : Int) by omega]
        have := nx (s + 2 ^ i) _ hF h1 h2 (by omega)
        rw [e4] at this
        exact this
    · rw [cif_neg q, cif_neg q, cif_neg q, wr_0, if_pos rfl]
      exact nx s σ Fr.rf hr (fun j h1 h2 => hj j (by omega) h2) (by omega)
theorem md_re_45 {N s : Nat} (hN : N ≤ 20) (hs : s < 2 ^ 20) : ∀ (m n k : Nat) (τ : Mem), τ 1 0 = N → k + m = N → m < n → Ex (Md_reindent_45 n s k τ) (fun r τ' => r = (bitN s 20 : Nat) ∧ Fr (fun o z => o = 1 ∧ 1 + k ≤ z ∧ z < 1 + N) τ τ' ∧ ∀ j, k ≤ j → j < N → τ' 1 (1 + j) = τ 16 j) := by
  intro m
  induction m with
  | zero =>
    intro n k τ h0 hk hn
    obtain ⟨n, rfl⟩ : ∃ z, n = z + 1 := ⟨n - 1, by omega⟩
    show Ex (Md_reindent_45b (Md_reindent_45 n) s k τ) _
    unfold Md_reindent_45b
    rw [if_pos in0, show (wr 0).toNat = 0 from by decide, h0, wr_id (n := (k : Int)) (by omega) (by omega), wr_id (n := (N : Int)) (by omega) (by omega), if_neg (by omega), md_bits hs]
    simp only [Option.bind_some]
    exact Ex.ret ⟨rfl, Fr.rf, fun j h1 h2 => by omega⟩
  | succ m ih =>
    intro n k τ h0 hk hn
    obtain ⟨n, rfl⟩ : ∃ z, n = z + 1 := ⟨n - 1, by omega⟩
    show Ex (Md_reindent_45b (Md_reindent_45 n) s k τ) _
    unfold Md_reindent_45b
    rw [if_pos in0, show (wr 0).toNat = 0 from by decide, h0, wr_id (n := (k : Int)) (by omega) (by omega), wr_id (n := (N : Int)) (by omega) (by omega), if_pos (by omega), if_pos (by omega), if_pos (inb (by omega) (by omega) (by omega)), wrn (n := 1 + k) (by omega) (by omega), show ((k : Int)).toNat = k by omega]
    refine Ex.lt ?_
    have := ih n (k + 1) (upM τ 1 (1 + k) (τ 16 k)) (by simp only [upM]; rw [if_neg (by omega)]; exact h0) (by omega) (by omega)
    rw [show (((k + 1 : Nat)) : Int) = (k : Int) + 1 by omega] at this
    refine this.mono (fun r τ' z => ?_)
    obtain ⟨z1, hf, hv⟩ := z
    refine ⟨z1, fun o z q => ?_, fun j h1 h2 => ?_⟩
    · rw [hf o z (by omega)]
      simp only [upM]
      rw [if_neg (by omega)]
    · by_cases e : j = k
      · subst e
        rw [hf 1 _ (by omega)]
        simp only [upM]
        rw [if_pos ⟨trivial, trivial⟩]
      · rw [hv j (by omega) h2]
        simp only [upM]
        rw [if_neg (by omega)]
theorem t_reindent (h : Inv σ τ) {a b : Int} (ha : RI a) (hb : RI b) : Two (Ai_reindent a b σ) (Md_reindent a b τ) := by
  have hnb := h.nb
  have hn := h.n
  unfold Ai_reindent Md_reindent Two
  rw [lin_hasRange ha hb hnb.1, md_isRange ha hb hnb.2]
  simp only [Option.bind_some]
  rw [hn.1]
  by_cases q : 0 ≤ a ∧ a ≤ b ∧ b ≤ τ 1 0
  · obtain ⟨i, rfl⟩ : ∃ z : Nat, a = (z : Int) := ⟨a.toNat, by omega⟩
    obtain ⟨m, rfl⟩ : ∃ z : Nat, b = ((i + z : Nat) : Int) := ⟨b.toNat - i, by omega⟩
    obtain ⟨N, hN⟩ : ∃ z : Nat, τ 1 0 = (z : Int) := ⟨(τ 1 0).toNat, by omega⟩
    rw [if_pos q, wr_1, if_neg n10, if_neg n10]
    obtain ⟨r1, σ1, e1, r2, τ1, e2, hI, h11, hF1, hF2⟩ := h.begin
    rw [e1, e2]
    simp only [Option.bind_some]
    obtain ⟨r3, σ2, e3, hK, f1, f2⟩ := hI.study
    obtain ⟨r4, τ2, e4, g1, g2, g3⟩ := hI.useM
    have hst := hI.stp
    have hba := hI.bas
    have hn1 := hI.n
    have hS := hI.1.2.1
    have hc1 : τ1 1 0 = N := by rw [hF2 1 0 (by unfold FBm; omega), hN]
    rw [e3, if_pos (by decide), if_pos (by decide), show (wr 977).toNat = 977 from by decide, show (wr 978).toNat = 978 from by decide, e4]
    simp only [Option.bind_some]
    obtain ⟨r5, σ3, e5, y1, y2, y3⟩ := ai_re_30 hS hst.2 hba.2 m 100000 i 0 σ2 (by rw [f1]; exact hst.1) (by rw [f1]; exact hba.1) hK.2.1 (fun j hj => (hK.pin hj).1) (fun j hj => by rw [hK.rows j hj]; exact (hK.ind hj).2) (fun j _ hj => hK.rows j hj) (by omega) (by omega) (Nat.two_pow_pos i)
    obtain ⟨r6, τ3, e6, x1, x2, x3, x4⟩ := md_settles_5 (S := absM τ1 0) (stp := τ1 1 977) (bas := τ1 1 978) m 100000 i 0 τ2 g2 (by omega) (by omega) (Nat.two_pow_pos i)
    have e5' : Ai_reindent_30 100000 ((i + m : Nat) : Int) 0 i σ2 = some (r5, σ3) := e5
    have e6' : Md_settles i ((i + m : Nat) : Int) τ2 = some (r6, τ3) := e6
    rw [e5', e6']
    simp only [Option.bind_some]
    have hlt := setS_lt (S := absM τ1 0) (stp := τ1 1 977) (bas := τ1 1 978) m i (τ2 16) 0 (Nat.two_pow_pos i)
    have hp20 : 2 ^ (i + m) ≤ 2 ^ 20 := Nat.pow_le_pow_right (by omega) (by omega)
    have hcg := setS_congr hS (stp := τ1 1 977) (bas := τ1 1 978) m i (σ2 4) (τ2 16) 0 (by omega) (fun j hj => by rw [hK.rows j hj, g3 j hj])
    have hn3 : τ3 1 0 = N := by rw [x2 1 0 (by unfold FS; omega), g1 1 0 (fun z => z (by omega)), hc1]
    refine Ex.ret ?_
    rw [x1]
    refine (md_re_45 (N := N) (by omega) (Nat.lt_of_lt_of_le hlt hp20) N 100000 0 τ3 hn3 (by omega) (by omega)).mono (fun r' τ4 z => ?_)
    obtain ⟨z1, z2, z3⟩ := z
    refine ⟨by rw [z1, y1, hcg.1], ?_⟩
    have hB : Inv σ2 τ3 := hK.2.2 σ2 τ3 Fr.rf (g1.tr (x2.mono (fun o k => FS_R)))
    refine Inv_ind hB y2 (z2.mono (fun o k q => by omega)) (fun j hj => ?_)
    have hjn : j < nS (absM τ1 0) := by omega
    have hrow := setS_row (S := absM τ1 0) (stp := τ1 1 977) (bas := τ1 1 978) m i (σ2 4) 0 j
    have hlj := hI.len hjn
    have hij := (hS.2.2.2.2.1 j (by rw [aM_n]; omega))
    rw [z3 j (by omega) (by omega), x3, y3, ← hcg.2 j hjn]
    refine ⟨rfl, ?_, fun z => ?_⟩
    · rcases hrow with w | w
      · rw [w, hK.rows j hjn]; exact (hK.ind hjn).2
      · exact w.2
    · have e6j : σ2 6 j = absM τ1 0 2 j := by
        have := aC_len (σ := σ2) (i := j) (by have := hK.n; omega)
        rw [hK.1.2.2.1] at this; exact this.symm
      rcases hrow with w | w
      · rw [w, hK.rows j hjn]; exact hij.2.2.2.1 (by rw [← e6j]; exact z)
      · exact absurd (by rw [← e6j]; exact z) w.1
  · rw [if_neg q, wr_0, if_pos rfl, if_pos rfl]
    exact Ex.ret (Ex.ret ⟨rfl, h⟩)
/-- how many lines are not blank -/
def nbL (L : Nat → Int) : Nat → Nat → Nat
  | 0, _ => 0
  | m + 1, x => (if 0 < L x then 1 else 0) + nbL L m (x + 1)
theorem nbL_s (L : Nat → Int) (m x : Nat) : nbL L (m + 1) x = (if 0 < L x then 1 else 0) + nbL L m (x + 1) := rfl
def canP (L I : Nat → Int) (d : Int) (x t : Nat) : Prop := ∀ j, x ≤ j → j < t → 0 < L j → 0 ≤ I j + d ∧ I j + d ≤ 40
theorem canP_s {L I : Nat → Int} {d : Int} {x t : Nat} (hx : x < t) : canP L I d x t ↔ (0 < L x → 0 ≤ I x + d ∧ I x + d ≤ 40) ∧ canP L I d (x + 1) t := by
  refine ⟨fun h => ⟨h x (by omega) hx, fun j h1 h2 => h j (by omega) h2⟩, fun h j h1 h2 => ?_⟩
  by_cases e : j = x
  · subst e; exact h.1
  · exact h.2 j (by omega) h2
theorem cif_congr {α : Type} {p q : Prop} {a b : α} (h : p ↔ q) : cif p a b = cif q a b := by rw [propext h]
theorem lin_canMove_3 {d : Int} (hd : -40 ≤ d ∧ d ≤ 40) {t : Nat} (ht : t ≤ 20) (h6 : ∀ j, j < t → (0 ≤ σ 6 j ∧ σ 6 j ≤ 32) ∧ 0 ≤ σ 4 j ∧ σ 4 j ≤ 40) : ∀ (m n x : Nat), x + m = t → m < n → Lin_canMove_3 n t d x σ = some (cif (canP (σ 6) (σ 4) d x t) 1 0, σ) := by
  intro m
  induction m with
  | zero =>
    intro n x hx hn
    obtain ⟨n, rfl⟩ : ∃ z, n = z + 1 := ⟨n - 1, by omega⟩
    show Lin_canMove_3b (Lin_canMove_3 n) t d x σ = _
    unfold Lin_canMove_3b
    rw [wr_id (n := (x : Int)) (by omega) (by omega), wr_id (n := (t : Int)) (by omega) (by omega), if_neg (by omega), cif_pos (show canP (σ 6) (σ 4) d x t from fun j h1 h2 => by omega)]
  | succ m ih =>
    intro n x hx hn
    obtain ⟨n, rfl⟩ : ∃ z, n = z + 1 := ⟨n - 1, by omega⟩
    have hj := h6 x (by omega)
    have nx := ih n (x + 1) (by omega) (by omega)
    rw [show (((x + 1 : Nat)) : Int) = (x : Int) + 1 by omega] at nx
    show Lin_canMove_3b (Lin_canMove_3 n) t d x σ = _
    unfold Lin_canMove_3b
    rw [wr_id (n := (x : Int)) (by omega) (by omega), wr_id (n := (t : Int)) (by omega) (by omega), if_pos (by omega), rg_5 (by omega) (by omega), cif_congr (canP_s (by omega))]
    simp only [Option.bind_some]
    rw [show ((x : Int)).toNat = x by omega, wr_id (n := σ 6 x) (by omega) (by omega)]
    by_cases q : 0 < σ 6 x
    · rw [if_pos q, rg_3 (by omega) (by omega)]
      simp only [Option.bind_some]
      rw [show ((x : Int)).toNat = x by omega, ai_wi ⟨by omega, by omega⟩ (by omega) (by omega)]
      simp only [Option.bind_some]
      by_cases q2 : 0 ≤ σ 4 x + d ∧ σ 4 x + d ≤ 40
      · rw [if_pos q2, wr_1, if_neg n10, nx, cif_congr (show ((0 < σ 6 x → 0 ≤ σ 4 x + d ∧ σ 4 x + d ≤ 40) ∧ canP (σ 6) (σ 4) d (x + 1) t) ↔ canP (σ 6) (σ 4) d (x + 1) t from ⟨fun z => z.2, fun z => ⟨fun _ => q2, z⟩⟩)]
      · rw [if_neg q2, wr_0, if_pos rfl, cif_neg (fun z => q2 (z.1 q))]
    · rw [if_neg q, nx, cif_congr (show ((0 < σ 6 x → 0 ≤ σ 4 x + d ∧ σ 4 x + d ≤ 40) ∧ canP (σ 6) (σ 4) d (x + 1) t) ↔ canP (σ 6) (σ 4) d (x + 1) t from ⟨fun z => z.2, fun z => ⟨fun y => absurd y q, z⟩⟩)]
theorem lin_move_6 {d : Int} (hd : -40 ≤ d ∧ d ≤ 40) {t : Nat} (ht : t ≤ 20) : ∀ (m n x c : Nat) (σ : Mem), (∀ j, j < t → (0 ≤ σ 6 j ∧ σ 6 j ≤ 32) ∧ 0 ≤ σ 4 j ∧ σ 4 j ≤ 40) → canP (σ 6) (σ 4) d x t → x + m = t → m < n → Ex (Lin_move_6 n t d c x σ) (fun r σ' => r = ((c + nbL (σ 6) m x : Nat) : Int) ∧ Fr (fun o _ => o = 4) σ σ' ∧ ∀ j, σ' 4 j = if x ≤ j ∧ j < t ∧ 0 < σ 6 j then σ 4 j + d else σ 4 j) := by
  intro m
  induction m with
  | zero =>
    intro n x c σ h6 hc hx hn
    obtain ⟨n, rfl⟩ : ∃ z, n = z + 1 := ⟨n - 1, by omega⟩
    show Ex (Lin_move_6b (Lin_move_6 n) t d c x σ) _
    unfold Lin_move_6b
    rw [wr_id (n := (x : Int)) (by omega) (by omega), wr_id (n := (t : Int)) (by omega) (by omega), if_neg (by omega)]
    exact Ex.ret ⟨rfl, Fr.rf, fun j => by rw [if_neg (by omega)]⟩
  | succ m ih =>
    intro n x c σ h6 hc hx hn
    obtain ⟨n, rfl⟩ : ∃ z, n = z + 1 := ⟨n - 1, by omega⟩
    have hj := h6 x (by omega)
    have hc2 := (canP_s (by omega)).mp hc
    show Ex (Lin_move_6b (Lin_move_6 n) t d c x σ) _
    unfold Lin_move_6b
    rw [wr_id (n := (x : Int)) (by omega) (by omega), wr_id (n := (t : Int)) (by omega) (by omega), if_pos (by omega), rg_5 (by omega) (by omega)]
    simp only [Option.bind_some]
    rw [show ((x : Int)).toNat = x by omega, wr_id (n := σ 6 x) (by omega) (by omega)]
    by_cases q : 0 < σ 6 x
    · rw [if_pos q, rg_3 (by omega) (by omega)]
      simp only [Option.bind_some]
      rw [rs_3 (by omega) (by omega)]
      simp only [Option.bind_some]
      rw [show ((x : Int)).toNat = x by omega]
      have k4 : ∀ j, j ≠ x → upM σ 4 x (σ 4 x + d) 4 j = σ 4 j := fun j e => by simp only [upM]; rw [if_neg (fun z => e z.2)]
      have e6 : upM σ 4 x (σ 4 x + d) 6 = σ 6 := upM_ne _ _ _ _ _ (by omega)
      have nx := ih n (x + 1) (c + 1) (upM σ 4 x (σ 4 x + d)) (fun j hj => by
        rw [e6]
        refine ⟨(h6 j hj).1, ?_⟩
        by_cases e : j = x
        · subst e; simp only [upM]; rw [if_pos ⟨trivial, trivial⟩]; exact hc2.1 q
        · rw [k4 j e]; exact (h6 j hj).2) (fun j h1 h2 h3 => by rw [e6] at h3; rw [k4 j (by omega)]; exact hc2.2 j h1 h2 h3) (by omega) (by omega)
      rw [show (((x + 1 : Nat)) : Int) = (x : Int) + 1 by omega, show (((c + 1 : Nat)) : Int) = (c : Int) + 1 by omega] at nx
      refine nx.mono (fun r σ' z => ?_)
      obtain ⟨z1, z2, z3⟩ := z
      rw [e6] at z1 z3
      refine ⟨by rw [z1, nbL_s, if_pos q]; omega, Fr.tr (F := fun o _ => o = 4) (Fr.up Fr.rf rfl) z2, fun j => ?_⟩
      rw [z3 j]
      by_cases e : j = x
      · subst e
        rw [if_neg (by omega), if_pos ⟨by omega, by omega, q⟩]
        simp [upM]
      · rw [k4 j e]
        by_cases q2 : x ≤ j ∧ j < t ∧ 0 < σ 6 j
        · rw [if_pos q2, if_pos ⟨by omega, q2.2⟩]
        · rw [if_neg q2, if_neg (fun z => q2 ⟨by omega, z.2⟩)]
    · rw [if_neg q]
      have nx := ih n (x + 1) c σ h6 hc2.2 (by omega) (by omega)
      rw [show (((x + 1 : Nat)) : Int) = (x : Int) + 1 by omega] at nx
      refine nx.mono (fun r σ' z => ?_)
      obtain ⟨z1, z2, z3⟩ := z
      refine ⟨by rw [z1, nbL_s, if_neg q]; omega, z2, fun j => ?_⟩
      rw [z3 j]
      by_cases q2 : x ≤ j ∧ j < t ∧ 0 < σ 6 j
      · rw [if_pos q2, if_pos ⟨Nat.lt_of_le_of_ne q2.1 (fun e => q (by rw [e]; exact q2.2.2)), q2.2⟩]
      · rw [if_neg q2, if_neg (fun z => q2 ⟨by omega, z.2⟩)]
end ID
