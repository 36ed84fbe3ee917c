/-! ===== undo, back, keep; the buffer; settings; pins ===== -/
section UN
variable {σ τ : Mem}
def FNu (o k : Nat) : Prop := (1 ≤ o ∧ o ≤ 25) ∨ (o = 34 ∧ k = 0) ∨ (o = 0 ∧ k = 11)
def FMu (o k : Nat) : Prop := (o = 1 ∧ k < 980) ∨ (o = 0 ∧ k = 1)
theorem Inv_now {σ' τ' : Mem} {c : Nat} (h : Inv σ τ) (hσ : Fr FNu σ σ') (hτ : Fr FMu τ τ') (hS : InvS σ' τ') (hc1 : σ' 34 0 = c) (hc2 : τ' 0 1 = c) (hc : (c : Int) ≤ τ 0 1) : Inv σ' τ' := by
  obtain ⟨-, ⟨b1, b2, b3⟩, ⟨h1, h2, h3, h4⟩, hI, hP⟩ := h
  have kσ : ∀ o k, 26 ≤ o → (o ≠ 34 ∨ k ≠ 0) → σ' o k = σ o k := fun o k q1 q2 => hσ o k (by unfold FNu; omega)
  have kτ : ∀ o k, o ≠ 1 → (o ≠ 0 ∨ k ≠ 1) → τ' o k = τ o k := fun o k q1 q2 => hτ o k (by unfold FMu; omega)
  have kM : ∀ j, 1 ≤ j → SV (absM τ j) → absM τ' j = absM τ j := fun j hj hv => absM_blk hv.n20 (fun k q1 q2 => hτ 1 k (by unfold FMu; omega))
  have kh : ∀ j, hAt σ' j = hAt σ j := fun j => by unfold hAt; rw [kσ 34 1 (by omega) (by omega)]
  refine ⟨hS, ⟨?_, by rw [kτ 0 4 (by omega) (by omega)]; exact b2, fun k hk => ?_⟩, ⟨by rw [hc1, hc2], by omega, by rw [kσ 34 1 (by omega) (by omega)]; exact h3, fun j hj => ?_⟩, fun k hk => ?_, ⟨fun k hk => by rw [kτ 19 k (by omega) (by omega)]; exact hP.1 k hk, fun k hk => by rw [kτ 20 k (by omega) (by omega)]; exact hP.2 k hk⟩⟩
  · rw [kσ 26 0 (by omega) (by omega), kτ 0 4 (by omega) (by omega)]; exact b1
  · rw [kτ 0 4 (by omega) (by omega)] at hk
    rw [kσ 28 k (by omega) (by omega), kτ 3 k (by omega) (by omega)]; exact b3 k hk
  · have hj2 := h4 j (by omega)
    have hb : 36 ≤ hAt σ j := by unfold hAt; omega
    rw [kM _ (by omega) hj2.2.1, kh, absC_keep (σ := σ) (fun o k q1 q2 => kσ o k (by omega) (by omega))]
    exact ⟨hj2.1, hj2.2.1, CI_keep (fun o k q1 q2 => kσ o k (by omega) (by omega)) hj2.2.2⟩
  · rw [kσ 288 k (by omega) (by omega), kτ 2 k (by omega) (by omega), absC_keep (σ := σ) (fun o k q1 q2 => kσ o k (by omega) (by omega))]
    refine ⟨(hI k hk).1, (hI k hk).2.1, fun z => ?_⟩
    have := (hI k hk).2.2 z
    rw [kM _ (by omega) this.2.1]
    exact ⟨this.1, this.2.1, CI_keep (fun o k q1 q2 => kσ o k (by omega) (by omega)) this.2.2⟩
theorem t_undo (h : Inv σ τ) : Two (Ai_undo σ) (Md_undo τ) := by
  have hH := h.2.2.1
  obtain ⟨h1, h2, h3, h4⟩ := hH
  unfold Ai_undo Md_undo Two
  obtain ⟨c, hc⟩ : ∃ z : Nat, τ 0 1 = (z : Int) := ⟨(τ 0 1).toNat, by omega⟩
  rw [h1, hc, wr_id (n := (c : Int)) (by omega) (by omega)]
  by_cases q : c = 0
  · rw [if_pos (by omega), if_pos (by omega)]
    exact Ex.ret (Ex.ret ⟨rfl, h⟩)
  · rw [if_neg (by omega), if_neg (by omega)]
    have hl := h4 (c - 1) (by omega)
    have hb : 36 ≤ hAt σ (c - 1) ∧ hAt σ (c - 1) < 212 := by unfold hAt; omega
    have hm : hAt σ (c - 1) ∈ stL := stR _ (by omega)
    unfold His_takeLatest
    rw [h1, hc, show (c : Int) - 1 = ((c - 1 : Nat) : Int) by omega, his_at (by omega) h3]
    simp only [Option.bind_some]
    rw [if_neg (by omega), show (((hAt σ (c - 1) : Nat)) : Int).toNat = hAt σ (c - 1) by omega, if_pos (stA _ hm)]
    refine Ex.bnd (Ex.bnd ((sta_copyA (show 1 ∈ stL by decide) hm (by omega) (σ := σ) (by rw [hl.1]; exact hl.2.1.n20) hl.2.2).mono (fun _ σ2 z => Ex.lt (Ex.ret (Ex.lt (Ex.ret ?_))))))
    obtain ⟨hf, hA, hC⟩ := z
    refine Ex.lt ?_
    rw [show upM τ 0 1 ((c - 1 : Nat) : Int) 0 1 = ((c - 1 : Nat) : Int) by simp [upM], show (1 : Int) + ((c - 1 : Nat) : Int) = ((1 + (c - 1) : Nat) : Int) by omega, show (0 : Int) = ((0 : Nat) : Int) from rfl, md_copies (by omega) (by omega) (by omega)]
    refine Ex.bnd (Ex.ret (Ex.ret ?_))
    have e34 : σ2 34 0 = c := by rw [hf 34 0 (by omega), h1, hc]
    have eA : absM (cpP (upM τ 0 1 ((c - 1 : Nat) : Int)) (1 + (c - 1)) 0 980) 0 = absM τ (1 + (c - 1)) := by
      have ea : ∀ j, absM (upM τ 0 1 ((c - 1 : Nat) : Int)) j = absM τ j := fun j => absM_congr (by funext k; simp [upM]) j
      rw [cpP_b (by rw [ea]; exact hl.2.1.n20), ea]
    refine ⟨?_, Inv_now (c := c - 1) h ?_ ?_ ⟨?_, ?_, ?_, Or.inl (by simp [upM])⟩ ?_ ?_ (by omega)⟩
    · show cpP (upM τ 0 1 ((c - 1 : Nat) : Int)) (1 + (c - 1)) 0 980 0 1 = upM (upM σ2 34 0 (σ2 34 0 - 1)) 0 11 0 34 0
      rw [cpP_o (by omega)]
      simp [upM, e34]
      omega
    · intro o k z
      unfold FNu at z
      show upM (upM σ2 34 0 (σ2 34 0 - 1)) 0 11 0 o k = σ o k
      simp only [upM]
      rw [if_neg (by omega), if_neg (by omega)]
      exact hf o k (by omega)
    · intro o k z
      unfold FMu at z
      show cpP (upM τ 0 1 ((c - 1 : Nat) : Int)) (1 + (c - 1)) 0 980 o k = τ o k
      by_cases e : o = 1
      · subst e; rw [cpP_k (by omega)]; simp [upM]
      · rw [cpP_o e]; simp only [upM]; rw [if_neg (by omega)]
    · rw [eA]
      show absC (upM (upM σ2 34 0 (σ2 34 0 - 1)) 0 11 0) 1 = _
      rw [absC_keep (σ := σ2) (fun o k q1 q2 => by simp only [upM]; rw [if_neg (by omega), if_neg (by omega)]), hA, hl.1]
    · rw [eA]; exact hl.2.1
    · exact CI_keep (σ := σ2) (fun o k q1 q2 => by show upM (upM σ2 34 0 (σ2 34 0 - 1)) 0 11 0 o k = _; simp only [upM]; rw [if_neg (by omega), if_neg (by omega)]) hC
    · show upM (upM σ2 34 0 (σ2 34 0 - 1)) 0 11 0 34 0 = _
      simp [upM, e34]
      omega
    · show cpP (upM τ 0 1 ((c - 1 : Nat) : Int)) (1 + (c - 1)) 0 980 0 1 = _
      rw [cpP_o (by omega)]; simp [upM]
theorem ai_imageAt {a : Int} (ha : RI a) : Ai_imageAt a σ = some (if 0 ≤ a ∧ a < 2 then 237 + 25 * a else -1, σ) := by
  unfold Ai_imageAt
  rw [ha.w, show imgsA.length = 2 from rfl, show wr ((2 : Nat) : Int) = 2 from by decide]
  by_cases q : a < 0
  · rw [if_pos q, if_neg (by omega)]
  · rw [if_neg q]
    by_cases q2 : a < 2
    · rw [if_pos q2, if_pos (by omega), if_pos (by omega)]
      show some (((imgsA.getD a.toNat 0 : Nat) : Int), σ) = _
      rw [imA _ (by omega)]
      congr 2
      omega
    · rw [if_neg q2, if_neg (by omega)]
theorem t_keep (h : Inv σ τ) {a : Int} (ha : RI a) : Two (Ai_keep a σ) (Md_keep a τ) := by
  unfold Ai_keep Md_keep Two
  rw [ai_imageAt ha, md_wi ha (by omega) (by omega)]
  simp only [Option.bind_some]
  by_cases q : 0 ≤ a ∧ a < 2
  · obtain ⟨i, rfl⟩ : ∃ z : Nat, a = (z : Int) := ⟨a.toNat, by omega⟩
    obtain ⟨⟨s1, s2, s3, s4⟩, ⟨b1, b2, b3⟩, ⟨h1, h2, h3, h4⟩, hI, hP⟩ := h
    have hi := hI i (by omega)
    rw [if_pos q, if_neg (by omega), show ((237 : Int) + 25 * (i : Int)).toNat = 237 + 25 * i by omega, if_pos (stA _ (stI i (by omega))), if_pos (show 0 ≤ (i : Int) ∧ (i : Int) ≤ 1 by omega), wr_1, if_neg n10, if_pos (inb (by omega) (by omega) (by omega)), wrn (a := (i : Int)) rfl (by omega), rg_287 (by omega) (by omega)]
    simp only [Option.bind_some]
    rw [show ((i : Int)).toNat = i by omega]
    have key : Ex (Md_keep_25 i (τ 2 i) τ) (fun r' τ' => r' = τ 2 i ∧ τ' = upM (cpP τ 0 (9 + i) 980) 2 i 1) := by
      unfold Md_keep_25
      rw [show (9 : Int) + (i : Int) = ((9 + i : Nat) : Int) by omega, show (0 : Int) = ((0 : Nat) : Int) from rfl, md_copies (by omega) (by omega) (by omega)]
      simp only [Option.bind_some]
      rw [show ((0 : Nat) : Int) = (0 : Int) from rfl, if_pos (inb (by omega) (by omega) (by omega)), wrn (a := (i : Int)) rfl (by omega)]
      exact Ex.lt (Ex.ret ⟨rfl, rfl⟩)
    have hm : (237 + 25 * i) ∈ stL := stI i (by omega)
    refine Ex.bnd ((sta_copyA hm (show 1 ∈ stL by decide) (by omega) (σ := σ) (by rw [s1]; exact s2.n20) s3).mono (fun _ σ2 z => ?_))
    obtain ⟨hf, hA, hC⟩ := z
    rw [rs_287 (by omega) (by omega)]
    simp only [Option.bind_some]
    rw [show ((i : Int)).toNat = i by omega]
    refine Ex.ret ?_
    have kσ : ∀ o k, (o < 237 + 25 * i ∨ 237 + 25 * i + 25 ≤ o) → (o ≠ 288 ∨ k ≠ i) → upM σ2 288 i 1 o k = σ o k := fun o k q1 q2 => by simp only [upM]; rw [if_neg (by omega)]; exact hf o k q1
    have kτ : ∀ o k, o ≠ 1 → (o ≠ 2 ∨ k ≠ i) → upM (cpP τ 0 (9 + i) 980) 2 i 1 o k = τ o k := fun o k q1 q2 => by simp only [upM]; rw [if_neg (by omega)]; exact cpP_o q1
    have kA : ∀ j, absM (upM (cpP τ 0 (9 + i) 980) 2 i 1) j = absM (cpP τ 0 (9 + i) 980) j := fun j => absM_congr (by funext k; simp [upM]) j
    have kh : ∀ j, hAt (upM σ2 288 i 1) j = hAt σ j := fun j => by unfold hAt; rw [kσ 34 1 (by omega) (by omega)]
    have a0 : absM (cpP τ 0 (9 + i) 980) 0 = absM τ 0 := cpP_j (by omega) s2.n20
    have fin : Ex (Md_keep_25 i (τ 2 i) τ) (fun r' τ' => r' = σ 288 i ∧ Inv (upM σ2 288 i 1) τ') := by
      refine key.mono (fun r' τ' y => ?_)
      obtain ⟨y1, rfl⟩ := y
      refine ⟨by rw [y1, hi.1], ⟨?_, by rw [kA, a0]; exact s2, CI_keep (fun o k q1 q2 => kσ o k (by omega) (by omega)) s3, ?_⟩, ⟨?_, ?_, fun k hk => ?_⟩, ⟨?_, ?_, ?_, fun j hj => ?_⟩, fun k hk => ?_, ⟨fun k hk => ?_, fun k hk => ?_⟩⟩
      · rw [kA, a0, absC_keep (σ := σ) (fun o k q1 q2 => kσ o k (by omega) (by omega))]; exact s1
      · rw [kA, a0]
        rcases s4 with z | ⟨z1, z2⟩
        · left; rw [kσ 0 11 (by omega) (by omega)]; exact z
        · right
          refine ⟨by rw [kσ 0 11 (by omega) (by omega)]; exact z1, Kn_Fr (F := fun o k => ¬ (289 ≤ o)) (fun o k q => kσ o k (by omega) (by omega)) (fun o k q => by omega) z2⟩
      · rw [kσ 26 0 (by omega) (by omega), kτ 0 4 (by omega) (by omega)]; exact b1
      · rw [kτ 0 4 (by omega) (by omega)]; exact b2
      · rw [kτ 0 4 (by omega) (by omega)] at hk
        rw [kσ 28 k (by omega) (by omega), kτ 3 k (by omega) (by omega)]; exact b3 k hk
      · rw [kσ 34 0 (by omega) (by omega), kτ 0 1 (by omega) (by omega)]; exact h1
      · rw [kτ 0 1 (by omega) (by omega)]; exact h2
      · rw [kσ 34 1 (by omega) (by omega)]; exact h3
      · rw [kτ 0 1 (by omega) (by omega)] at hj
        have hj2 := h4 j hj
        have hb : 36 ≤ hAt σ j ∧ hAt σ j < 212 := by unfold hAt; omega
        rw [kA, kh, cpP_j (by omega) hj2.2.1.n20, absC_keep (σ := σ) (fun o k q1 q2 => kσ o k (by omega) (by omega))]
        exact ⟨hj2.1, hj2.2.1, CI_keep (fun o k q1 q2 => kσ o k (by omega) (by omega)) hj2.2.2⟩
      · by_cases e : k = i
        · subst e
          have ea : absC (upM σ2 288 k 1) (237 + 25 * k) = absC σ2 (237 + 25 * k) := absC_keep (fun o z q1 q2 => by simp only [upM]; rw [if_neg (by omega)])
          rw [ea, hA, s1, kA, cpP_b s2.n20]
          exact ⟨by simp [upM], Or.inr (by simp [upM]), fun _ => ⟨rfl, s2, CI_keep (σ := σ2) (fun o z q1 q2 => by simp only [upM]; rw [if_neg (by omega)]) hC⟩⟩
        · rw [kσ 288 k (by omega) (by omega), kτ 2 k (by omega) (by omega), kA, absC_keep (σ := σ) (fun o k q1 q2 => kσ o k (by omega) (by omega))]
          refine ⟨(hI k hk).1, (hI k hk).2.1, fun z => ?_⟩
          have := (hI k hk).2.2 z
          rw [cpP_j (by omega) this.2.1.n20]
          exact ⟨this.1, this.2.1, CI_keep (fun o k q1 q2 => kσ o k (by omega) (by omega)) this.2.2⟩
      · rw [kτ 19 k (by omega) (by omega)]; exact hP.1 k hk
      · rw [kτ 20 k (by omega) (by omega)]; exact hP.2 k hk
    rcases hi.2.1 with z | z
    · rw [z] at fin ⊢
      rw [wr_0, if_pos rfl]
      exact fin
    · rw [z] at fin ⊢
      rw [wr_1, if_neg n10]
      exact fin
  · rw [if_neg q, if_pos (by decide), if_neg (show ¬ (0 ≤ a ∧ a ≤ 1) by omega), wr_0, if_pos rfl]
    exact Ex.ret (Ex.ret ⟨rfl, h⟩)
theorem t_back (h : Inv σ τ) {a : Int} (ha : RI a) : Two (Ai_back a σ) (Md_back a τ) := by
  unfold Ai_back Md_back Two
  rw [ai_imageAt ha, md_wi ha (by omega) (by omega)]
  simp only [Option.bind_some]
  by_cases q : 0 ≤ a ∧ a < 2
  · obtain ⟨i, rfl⟩ : ∃ z : Nat, a = (z : Int) := ⟨a.toNat, by omega⟩
    have hi := h.2.2.2.1 i (by omega)
    rw [if_pos q, if_neg (by omega), show ((237 : Int) + 25 * (i : Int)).toNat = 237 + 25 * i by omega, if_pos (stA _ (stI i (by omega))), if_pos (show 0 ≤ (i : Int) ∧ (i : Int) ≤ 1 by omega), wr_1, if_neg n10, if_pos (inb (by omega) (by omega) (by omega)), wrn (a := (i : Int)) rfl (by omega), rg_287 (by omega) (by omega)]
    simp only [Option.bind_some]
    rw [show ((i : Int)).toNat = i by omega, hi.1]
    have hm : (237 + 25 * i) ∈ stL := stI i (by omega)
    rcases hi.2.1 with z | z
    · rw [z, wr_0, if_pos rfl, if_pos rfl]
      exact Ex.ret (Ex.ret ⟨rfl, h⟩)
    · obtain ⟨i1, i2, i3⟩ := hi.2.2 z
      rw [z, wr_1, if_neg n10, if_neg n10]
      refine Ex.bnd ((sta_copyA (show 1 ∈ stL by decide) hm (by omega) (σ := σ) (by rw [i1]; exact i2.n20) i3).mono (fun _ σ2 z => Ex.lt (Ex.lt (Ex.ret ?_))))
      obtain ⟨hf, hA, hC⟩ := z
      rw [show (9 : Int) + (i : Int) = ((9 + i : Nat) : Int) by omega, show (0 : Int) = ((0 : Nat) : Int) from rfl, md_copies (by omega) (by omega) (by omega)]
      refine Ex.bnd (Ex.ret (Ex.lt ?_))
      rw [show ((0 : Nat) : Int) = (0 : Int) from rfl, if_pos in0, show (wr 0).toNat = 0 from by decide]
      refine Ex.ret ?_
      have eA : absM (upM (cpP τ (9 + i) 0 980) 0 1 0) 0 = absM τ (9 + i) := by
        rw [absM_congr (τ := cpP τ (9 + i) 0 980) (by funext k; simp [upM]), cpP_b i2.n20]
      have eC : absC (upM (upM σ2 34 0 0) 0 11 0) 1 = absM τ (9 + i) := by
        rw [absC_keep (σ := σ2) (fun o k q1 q2 => by simp only [upM]; rw [if_neg (by omega), if_neg (by omega)]), hA, i1]
      have hI : Inv (upM (upM σ2 34 0 0) 0 11 0) (upM (cpP τ (9 + i) 0 980) 0 1 0) := by
        refine Inv_now (c := 0) h ?_ ?_ ⟨by rw [eA, eC], by rw [eA]; exact i2, CI_keep (σ := σ2) (fun o k q1 q2 => by simp only [upM]; rw [if_neg (by omega), if_neg (by omega)]) hC, Or.inl (by simp [upM])⟩ (by simp [upM]) (by simp [upM]) (by have := h.2.2.1.2.1; omega)
        · intro o k z
          unfold FNu at z
          simp only [upM]
          rw [if_neg (by omega), if_neg (by omega)]
          exact hf o k (by omega)
        · intro o k z
          unfold FMu at z
          simp only [upM]
          rw [if_neg (by omega)]
          by_cases e : o = 1
          · subst e; exact cpP_k (by omega)
          · exact cpP_o e
      exact ⟨hI.n.1.symm, hI⟩
  · rw [if_neg q, if_pos (by decide), if_neg (show ¬ (0 ≤ a ∧ a ≤ 1) by omega), wr_0, if_pos rfl]
    exact Ex.ret (Ex.ret ⟨rfl, h⟩)
end UN
