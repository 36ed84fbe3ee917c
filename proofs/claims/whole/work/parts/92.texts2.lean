/-! ===== so many texts are read by both ===== -/
section TY
variable {σ τ : Mem}
def txP (N : Nat) (σ τ : Mem) (j : Nat) : Prop := ∃ s e : Nat, σ 31 j = s ∧ σ 33 j = e ∧ τ 17 j = s ∧ τ 18 j = e ∧ s < e ∧ e ≤ N ∧ e - s ≤ 8
theorem rd_two {b : Nat → Int} {N : Nat} : ∀ (m w p n x3 : Nat) (σ τ : Mem), bfC σ b N → bfM τ b N → σ 29 2 = w → τ 0 32 = p → w + m ≤ 2 → p ≤ N → x3 ≤ p → N - p < n →
    ∃ (flt : Int) (σ' τ' : Mem), Tex_find_10 n ((w + m : Nat) : Int) x3 p σ = some (if flt = -9 then 0 else -10 - flt, σ') ∧ (∀ n2, m < n2 → Md_readsTexts_7 n2 ((w + m : Nat) : Int) w τ = some (flt, τ')) ∧ Fr FTx σ σ' ∧ Fr FTm τ τ' ∧ (flt = -9 ∨ (0 ≤ flt ∧ flt ≤ 80)) ∧ (∀ j, j < w → σ' 31 j = σ 31 j ∧ σ' 33 j = σ 33 j ∧ τ' 17 j = τ 17 j ∧ τ' 18 j = τ 18 j) ∧ (flt = -9 → σ' 29 2 = ((w + m : Nat) : Int) ∧ ∀ j, w ≤ j → j < w + m → txP N σ' τ' j) := by
  intro m
  induction m with
  | zero =>
    intro w p n x3 σ τ hC hM h29 h32 hw2 hpN hx hn
    have hN := hC.2.1
    obtain ⟨s, hs⟩ := nx_ex (b := b) (N := N) (N - p) p (by omega)
    obtain ⟨τ', e1, e2, e3⟩ := md_skips hM h32 hs
    obtain ⟨s1, s2, s3, s4⟩ := hs
    have hM' := bfM_tx (e2.mono (fun o k q => Or.inl q)) hM
    have hR : ∀ (v : Int), (if s < N then (s : Int) else -9) = v → ∀ n2, 0 < n2 → Md_readsTexts_7 n2 ((w + 0 : Nat) : Int) w τ = some (v, τ') := by
      intro v hv n2 hn2
      obtain ⟨n2, rfl⟩ : ∃ z, n2 = z + 1 := ⟨n2 - 1, by omega⟩
      show Md_readsTexts_7b (Md_readsTexts_7 n2) ((w + 0 : Nat) : Int) w τ = _
      unfold Md_readsTexts_7b
      rw [wr_id (n := (w : Int)) (by omega) (by omega), wr_id (n := ((w + 0 : Nat) : Int)) (by omega) (by omega), if_neg (by omega), e1]
      simp only [Option.bind_some]
      rw [e3, hM'.1, wr_id (n := (s : Int)) (by omega) (by omega), wr_id (n := (N : Int)) (by omega) (by omega), ← hv]
      by_cases q : s < N
      · rw [if_pos (by omega), if_pos q]
      · rw [if_neg (by omega), if_neg q]
    obtain ⟨n0, rfl⟩ : ∃ z, n = z + 1 + (s - p) := ⟨n - 1 - (s - p), by omega⟩
    have hT : Tex_find_10 (n0 + 1 + (s - p)) ((w + 0 : Nat) : Int) x3 p σ = some (if s < N then -10 - (s : Int) else 0, σ) := by
      rw [tex_skip hC s2 (s - p) (n0 + 1) p (by omega) s3 hx]
      show Tex_find_10b (Tex_find_10 n0) ((w + 0 : Nat) : Int) x3 s σ = _
      unfold Tex_find_10b
      rw [hC.1, h29, wr_id (n := (s : Int)) (by omega) (by omega), wr_id (n := (N : Int)) (by omega) (by omega), wr_id (n := (w : Int)) (by omega) (by omega), wr_id (n := ((w + 0 : Nat) : Int)) (by omega) (by omega)]
      by_cases q : s < N
      · have hb := hC.2.2 s q
        rw [if_pos (by omega), buf_byteR hC q]
        simp only [Option.bind_some]
        rw [wr_id (n := b s) (by omega) (by omega), if_neg (s4 q), h29, wr_id (n := (w : Int)) (by omega) (by omega), if_neg (show ¬ (w : Int) < ((w + 0 : Nat) : Int) by omega), if_pos q]
        split <;> rfl
      · rw [if_neg (by omega), if_neg (by omega), if_neg q]
    by_cases q : s < N
    · refine ⟨(s : Int), σ, τ', by rw [hT, if_pos q, if_neg (by omega)], hR _ (if_pos q), Fr.rf, e2.mono (fun o k q => Or.inl q), Or.inr ⟨by omega, by omega⟩, fun j hj => ⟨rfl, rfl, e2 17 j (by omega), e2 18 j (by omega)⟩, fun z => by omega⟩
    · refine ⟨-9, σ, τ', by rw [hT, if_neg q, if_pos rfl], hR _ (if_neg q), Fr.rf, e2.mono (fun o k q => Or.inl q), Or.inl rfl, fun j hj => ⟨rfl, rfl, e2 17 j (by omega), e2 18 j (by omega)⟩, fun z => ⟨by rw [h29, Nat.add_zero], fun j h1 h2 => by omega⟩⟩
  | succ m ih =>
    intro w p n x3 σ τ hC hM h29 h32 hw2 hpN hx hn
    have hN := hC.2.1
    obtain ⟨s, hs⟩ := nx_ex (b := b) (N := N) (N - p) p (by omega)
    obtain ⟨τ1, e1, e2, e3⟩ := md_skips hM h32 hs
    obtain ⟨s1, s2, s3, s4⟩ := hs
    have hM1 := bfM_tx (e2.mono (fun o k q => Or.inl q)) hM
    obtain ⟨n0, rfl⟩ : ∃ z, n = z + 1 + (s - p) := ⟨n - 1 - (s - p), by omega⟩
    rw [tex_skip hC s2 (s - p) (n0 + 1) p (by omega) s3 hx]
    have hT : Tex_find_10 (n0 + 1) ((w + (m + 1) : Nat) : Int) x3 s σ = Tex_find_10b (Tex_find_10 n0) ((w + (m + 1) : Nat) : Int) x3 s σ := rfl
    have hM0 : ∀ n2, Md_readsTexts_7 (n2 + 1) ((w + (m + 1) : Nat) : Int) w τ = ((Md_readsOne w τ).bind fun q3 => if wr q3.1 = (-9) then (Md_readsTexts_7 n2 ((w + (m + 1) : Nat) : Int) ((w : Int) + 1) q3.2) else (some (q3.1, q3.2))) := by
      intro n2
      show Md_readsTexts_7b (Md_readsTexts_7 n2) ((w + (m + 1) : Nat) : Int) w τ = _
      unfold Md_readsTexts_7b
      rw [wr_id (n := (w : Int)) (by omega) (by omega), wr_id (n := ((w + (m + 1) : Nat) : Int)) (by omega) (by omega), if_pos (by omega)]
    -- a fault at once
    have bad : ∀ (v : Nat) (τ' : Mem), Md_readsOne w τ = some ((v : Int), τ') → v ≤ 80 → Fr FTm τ τ' → (∀ j, j < w → τ' 17 j = τ 17 j ∧ τ' 18 j = τ 18 j) → Tex_find_10 (n0 + 1) ((w + (m + 1) : Nat) : Int) x3 s σ = some (-10 - (v : Int), σ) → ∃ (flt : Int) (σ' τ' : Mem), Tex_find_10 (n0 + 1) ((w + (m + 1) : Nat) : Int) x3 s σ = some (if flt = -9 then 0 else -10 - flt, σ') ∧ (∀ n2, m + 1 < n2 → Md_readsTexts_7 n2 ((w + (m + 1) : Nat) : Int) w τ = some (flt, τ')) ∧ Fr FTx σ σ' ∧ Fr FTm τ τ' ∧ (flt = -9 ∨ (0 ≤ flt ∧ flt ≤ 80)) ∧ (∀ j, j < w → σ' 31 j = σ 31 j ∧ σ' 33 j = σ 33 j ∧ τ' 17 j = τ 17 j ∧ τ' 18 j = τ 18 j) ∧ (flt = -9 → σ' 29 2 = ((w + (m + 1) : Nat) : Int) ∧ ∀ j, w ≤ j → j < w + (m + 1) → txP N σ' τ' j) := by
      intro v τ' r1 hv r2 r3 r4
      refine ⟨(v : Int), σ, τ', by rw [r4, if_neg (by omega)], fun n2 hn2 => ?_, Fr.rf, r2, Or.inr ⟨by omega, by omega⟩, fun j hj => ⟨rfl, rfl, r3 j hj⟩, fun z => by omega⟩
      obtain ⟨n2, rfl⟩ : ∃ z, n2 = z + 1 := ⟨n2 - 1, by omega⟩
      rw [hM0, r1]
      simp only [Option.bind_some]
      rw [wr_id (n := (v : Int)) (by omega) (by omega), if_neg (by omega)]
    by_cases q : s < N
    · have hb := hC.2.2 s q
      have hbM := hM1.2.2 s q
      by_cases q34 : b s = 34
      · refine bad s τ1 ?_ (by omega) (e2.mono (fun o k q => Or.inl q)) (fun j hj => ⟨e2 17 j (by omega), e2 18 j (by omega)⟩) ?_
        · unfold Md_readsOne
          rw [e1]
          simp only [Option.bind_some]
          rw [e3, hM1.1, wr_id (n := (s : Int)) (by omega) (by omega), wr_id (n := (N : Int)) (by omega) (by omega), if_neg (by omega), if_pos (by omega), show ((s : Int)).toNat = s by omega, hbM.1, q34, show wr 34 = 34 from by decide, if_pos rfl]
        · rw [hT]
          unfold Tex_find_10b
          rw [hC.1, wr_id (n := (s : Int)) (by omega) (by omega), wr_id (n := (N : Int)) (by omega) (by omega), if_pos (by omega), buf_byteR hC q]
          simp only [Option.bind_some]
          rw [q34, show wr 34 = 34 from by decide, if_neg (by decide), if_pos rfl]
      · obtain ⟨e, he⟩ := we_ex (b := b) q
        have he' := he
        obtain ⟨we1, we2, we3, we4⟩ := he
        -- the reference
        have hO : ∃ τ2, Md_readsOne w τ = some (if e - s ≤ 8 then -9 else ((s + 8 : Nat) : Int), τ2) ∧ Fr FTm τ τ2 ∧ (∀ j, j < w → τ2 17 j = τ 17 j ∧ τ2 18 j = τ 18 j) ∧ (e - s ≤ 8 → τ2 17 w = s ∧ τ2 18 w = e ∧ τ2 0 32 = e) := by
          unfold Md_readsOne
          rw [e1]
          simp only [Option.bind_some]
          rw [e3, hM1.1, wr_id (n := (s : Int)) (by omega) (by omega), wr_id (n := (N : Int)) (by omega) (by omega), if_neg (by omega), if_pos (by omega), show ((s : Int)).toNat = s by omega, hbM.1, wr_id (n := b s) (by omega) (by omega), if_neg q34, if_pos (inb (by omega) (by omega) (by omega)), wrn (a := (w : Int)) rfl (by omega)]
          unfold letM
          simp only []
          have a32 : upM τ1 17 w (s : Int) 0 32 = s := by simp [upM, e3]
          have a3 : upM τ1 17 w (s : Int) 3 s = b s := by simp [upM, hbM.1]
          rw [a32, wr_id (n := (s : Int)) (by omega) (by omega), if_pos (by omega), show ((s : Int)).toNat = s by omega, a3, md_isWord (b s) _ (wr_id (by omega) (by omega))]
          simp only [Option.bind_some]
          rw [a32, show (s : Int) + 1 = ((s + 1 : Nat) : Int) by omega]
          have hF3 : Fr FTm τ (upM (upM τ1 17 w (s : Int)) 0 32 ((s + 1 : Nat) : Int)) := Fr.up (Fr.up (e2.mono (fun o k q => Or.inl q)) (by unfold FTm; omega)) (by unfold FTm; omega)
          have hM3 := bfM_tx hF3 hM
          by_cases qw : isW (b s)
          · rw [if_pos qw]
            obtain ⟨τ2, y1, y2, y3⟩ := md_ro_67 (b := b) (N := N) (s := s) (e := e) (w := w) (by omega) we1 we2 (we3 qw).1 (we3 qw).2 (if e - s ≤ 8 then e - (s + 1) else 7) 100000 (s + 1) _ hM3 (by simp [upM]) (by simp [upM]) (by omega) (by omega) (by omega) (by split <;> omega) (by split <;> omega)
            refine ⟨τ2, y1, hF3.tr (y2.mono (fun o k z => by unfold FTm; omega)), fun j hj => ⟨?_, ?_⟩, fun z => ⟨?_, y3 z⟩⟩
            · rw [y2 17 j (by omega)]; simp only [upM]; rw [if_neg (by omega), if_neg (by omega)]; exact e2 17 j (by omega)
            · rw [y2 18 j (by omega)]; simp only [upM]; rw [if_neg (by omega), if_neg (by omega)]; exact e2 18 j (by omega)
            · rw [y2 17 w (by omega)]; simp [upM]
          · have e5 := we4 qw
            rw [if_neg qw]
            show ∃ τ2, Md_readsOne_67b (Md_readsOne_67 99999) w 0 (upM (upM τ1 17 w (s : Int)) 0 32 ((s + 1 : Nat) : Int)) = _ ∧ _
            unfold Md_readsOne_67b
            rw [wr_0, if_pos rfl, if_pos (inb (by omega) (by omega) (by omega)), wrn (a := (w : Int)) rfl (by omega), if_pos (by omega)]
            refine ⟨_, rfl, Fr.up hF3 (by unfold FTm; omega), fun j hj => ⟨?_, ?_⟩, fun z => ⟨by simp [upM], ?_, by simp [upM, e5]⟩⟩
            · simp only [upM]; rw [if_neg (by omega), if_neg (by omega), if_neg (by omega)]; exact e2 17 j (by omega)
            · simp only [upM]; rw [if_neg (by omega), if_neg (by omega), if_neg (by omega)]; exact e2 18 j (by omega)
            · simp [upM, e5]
        obtain ⟨τ2, o1, o2, o3, o4⟩ := hO
        have hTC : Tex_find_10 (n0 + 1) ((w + (m + 1) : Nat) : Int) x3 s σ = if 8 < e - s then some (-10 - ((s + 8 : Nat) : Int), σ) else Tex_find_10 n0 ((w + (m + 1) : Nat) : Int) e e (upM (upM (upM σ 31 w s) 33 w e) 29 2 ((w + 1 : Nat) : Int)) := by
          rw [hT]
          unfold Tex_find_10b
          rw [hC.1, wr_id (n := (s : Int)) (by omega) (by omega), wr_id (n := (N : Int)) (by omega) (by omega), if_pos (by omega), buf_byteR hC q]
          simp only [Option.bind_some]
          rw [wr_id (n := b s) (by omega) (by omega), if_neg (s4 q), if_neg q34, h29, wr_id (n := (w : Int)) (by omega) (by omega), wr_id (n := ((w + (m + 1) : Nat) : Int)) (by omega) (by omega), if_pos (by omega), tex_te hC q he']
          simp only [Option.bind_some]
          rw [wr_id (n := (e : Int) - (s : Int)) (by omega) (by omega)]
          by_cases q8 : 8 < e - s
          · rw [if_pos (by omega), if_pos q8]; congr 2; omega
          · rw [if_neg (by omega), if_neg q8, h29, rs_30 (by omega) (by omega)]
            simp only [Option.bind_some]
            rw [show ((w : Int)).toNat = w by omega, show upM σ 31 w (s : Int) 29 2 = w by simp [upM, h29], rs_32 (by omega) (by omega)]
            simp only [Option.bind_some]
            rw [show ((w : Int)).toNat = w by omega, show upM (upM σ 31 w (s : Int)) 33 w (e : Int) 29 2 = w by simp [upM, h29], show (w : Int) + 1 = ((w + 1 : Nat) : Int) by omega, show (s : Int) + 1 = ((s + 1 : Nat) : Int) by omega, mmax_r (by omega) (by omega)]
            unfold letM
            rw [show (if s + 1 < e then e else s + 1) = e by split <;> omega]
        by_cases q8 : e - s ≤ 8
        · rw [if_pos q8] at o1
          rw [if_neg (by omega)] at hTC
          obtain ⟨p17, p18, p32⟩ := o4 q8
          have hCu : bfC (upM (upM (upM σ 31 w (s : Int)) 33 w (e : Int)) 29 2 ((w + 1 : Nat) : Int)) b N := bfC_fr (F := FTx) (Fr.up (Fr.up (Fr.up Fr.rf (by unfold FTx; omega)) (by unfold FTx; omega)) (by unfold FTx; omega)) (fun o k z => by unfold FTx at z; omega) hC
          obtain ⟨flt, σ', τ', r1, r2, r3, r4, r5, r6, r7⟩ := ih (w + 1) e n0 e (upM (upM (upM σ 31 w (s : Int)) 33 w (e : Int)) 29 2 ((w + 1 : Nat) : Int)) τ2 hCu (bfM_tx o2 hM) (by simp [upM]) p32 (by omega) we2 (by omega) (by omega)
          rw [show w + 1 + m = w + (m + 1) by omega] at r1 r2 r7
          refine ⟨flt, σ', τ', by rw [hTC]; exact r1, fun n2 hn2 => ?_, (Fr.up (Fr.up (Fr.up Fr.rf (by unfold FTx; omega)) (by unfold FTx; omega)) (by unfold FTx; omega)).tr r3, o2.tr r4, r5, fun j hj => ?_, fun z => ⟨(r7 z).1, fun j h1 h2 => ?_⟩⟩
          · obtain ⟨n2, rfl⟩ : ∃ z, n2 = z + 1 := ⟨n2 - 1, by omega⟩
            rw [hM0, o1]
            simp only [Option.bind_some]
            rw [show wr (-9) = -9 from by decide, if_pos rfl, show (w : Int) + 1 = ((w + 1 : Nat) : Int) by omega]
            exact r2 n2 (by omega)
          · obtain ⟨u1, u2, u3, u4⟩ := r6 j (by omega)
            refine ⟨?_, ?_, by rw [u3]; exact (o3 j hj).1, by rw [u4]; exact (o3 j hj).2⟩
            · rw [u1]; simp only [upM]; rw [if_neg (by omega), if_neg (by omega), if_neg (by omega)]
            · rw [u2]; simp only [upM]; rw [if_neg (by omega), if_neg (by omega), if_neg (by omega)]
          · by_cases ej : j = w
            · subst ej
              obtain ⟨u1, u2, u3, u4⟩ := r6 j (by omega)
              exact ⟨s, e, by rw [u1]; simp [upM], by rw [u2]; simp [upM], by rw [u3]; exact p17, by rw [u4]; exact p18, we1, we2, q8⟩
            · exact (r7 z).2 j (by omega) h2
        · rw [if_neg q8] at o1
          rw [if_pos (by omega)] at hTC
          exact bad (s + 8) τ2 o1 (by omega) o2 o3 hTC
    · have hsN : s = N := by omega
      subst hsN
      refine bad s τ1 ?_ (by omega) (e2.mono (fun o k q => Or.inl q)) (fun j hj => ⟨e2 17 j (by omega), e2 18 j (by omega)⟩) ?_
      · unfold Md_readsOne
        rw [e1]
        simp only [Option.bind_some]
        rw [e3, hM1.1, if_pos rfl]
      · rw [hT]
        unfold Tex_find_10b
        rw [hC.1, h29, if_neg (by omega), wr_id (n := (w : Int)) (by omega) (by omega), wr_id (n := ((w + (m + 1) : Nat) : Int)) (by omega) (by omega), if_pos (by omega)]
/-- both read so many texts, and refuse alike -/
theorem rd_all (h : Inv σ τ) {due : Nat} (hd : due ≤ 2) : ∃ (N : Nat) (flt : Int) (σ' τ' : Mem), Tex_find due σ = some (if flt = -9 then 0 else -10 - flt, σ') ∧ Md_readsTexts due τ = some (flt, τ') ∧ (flt = -9 ∨ (0 ≤ flt ∧ flt ≤ 80)) ∧ Inv σ' τ' ∧ bfC σ' (τ 3) N ∧ bfM τ' (τ 3) N ∧ (flt = -9 → σ' 29 2 = due ∧ ∀ j, j < due → txP N σ' τ' j) := by
  obtain ⟨N, bC, bM⟩ := h.bf
  have hN := bC.2.1
  have hFx : Fr FTx σ (upM σ 29 2 0) := Fr.up Fr.rf (by unfold FTx; omega)
  have hFm : Fr FTm τ (upM τ 0 32 0) := Fr.up Fr.rf (by unfold FTm; omega)
  obtain ⟨flt, σ', τ', r1, r2, r3, r4, r5, r6, r7⟩ := rd_two (b := τ 3) (N := N) due 0 0 100000 0 (upM σ 29 2 0) (upM τ 0 32 0) (bfC_fr hFx (fun o k z => by unfold FTx at z; omega) bC) (bfM_tx hFm bM) (by simp [upM]) (by simp [upM]) (by omega) (by omega) (by omega) (by omega)
  rw [Nat.zero_add] at r1 r2 r7
  refine ⟨N, flt, σ', τ', r1, r2 100000 (by omega), r5, ?_, bfC_fr (hFx.tr r3) (fun o k z => by unfold FTx at z; omega) bC, bfM_tx (hFm.tr r4) bM, fun z => ⟨(r7 z).1, fun j hj => (r7 z).2 j (by omega) (by omega)⟩⟩
  have hF := hFx.tr r3
  refine Inv_q h (hF.mono (fun o k z => by unfold FTx at z; unfold FQ; omega)) ((hFm.tr r4).mono (fun o k z => by unfold FTm at z; unfold FR; omega)) ?_
  rcases h.1.2.2.2 with z | ⟨z1, z2⟩
  · left; rw [hF 0 11 (by unfold FTx; omega)]; exact z
  · right
    exact ⟨by rw [hF 0 11 (by unfold FTx; omega)]; exact z1, Kn_Fr hF (fun o k q => by unfold FTx at q; omega) z2⟩
end TY
