/-! ===== what holds between the two memories ===== -/
abbrev RI (a : Int) : Prop := -2147483648 ≤ a ∧ a ≤ 2147483647
theorem RI.w {a : Int} (h : RI a) : wr a = a := wr_id h.1 h.2
theorem n10 : ¬ (1 : Int) = 0 := by decide
def pEs : List Int := [0, 2, 3, 4, 5, 8, 9, 14, 17, 21, 24, 26, 28, 31, 32, 36, 37]
def pCs : List Int := [97, 40, 41, 123, 125, 91, 120, 44, 93, 98, 101, 103, 105, 110, 101, 110, 100, 99, 97, 115, 101, 34, 115, 34, 35, 99, 121, 43, 34, 34, 34, 122, 102, 40, 98, 44, 59]
def InvS (σ τ : Mem) : Prop := absC σ 1 = absM τ 0 ∧ SV (absM τ 0) ∧ CI σ 1 ∧ Csh (absM τ 0) σ
def InvB (σ τ : Mem) : Prop := σ 26 0 = τ 0 4 ∧ (0 ≤ τ 0 4 ∧ τ 0 4 ≤ 72) ∧ ∀ k : Nat, (k : Int) < τ 0 4 → σ 28 k = τ 3 k ∧ 32 ≤ τ 3 k ∧ τ 3 k ≤ 126
def hAt (σ : Mem) (j : Nat) : Nat := 36 + 25 * (((σ 34 1).toNat + j) % 8)
def InvH (σ τ : Mem) : Prop := σ 34 0 = τ 0 1 ∧ (0 ≤ τ 0 1 ∧ τ 0 1 ≤ 8) ∧ (0 ≤ σ 34 1 ∧ σ 34 1 < 8) ∧ ∀ j : Nat, (j : Int) < τ 0 1 → absC σ (hAt σ j) = absM τ (1 + j) ∧ SV (absM τ (1 + j)) ∧ CI σ (hAt σ j)
def InvI (σ τ : Mem) : Prop := ∀ k : Nat, k < 2 → σ 288 k = τ 2 k ∧ (τ 2 k = 0 ∨ τ 2 k = 1) ∧ (τ 2 k = 1 → absC σ (237 + 25 * k) = absM τ (9 + k) ∧ SV (absM τ (9 + k)) ∧ CI σ (237 + 25 * k))
def InvP (τ : Mem) : Prop := (∀ k, k < 17 → τ 19 k = pEs.getD k 0) ∧ ∀ k, k < 37 → τ 20 k = pCs.getD k 0
def Inv (σ τ : Mem) : Prop := InvS σ τ ∧ InvB σ τ ∧ InvH σ τ ∧ InvI σ τ ∧ InvP τ
/-- both answer, alike, and it goes on to hold -/
def Two (A B : Option (Int × Mem)) : Prop := Ex A (fun r σ' => Ex B (fun r' τ' => r' = r ∧ Inv σ' τ'))
def FQ (o k : Nat) : Prop := 289 ≤ o ∨ (29 ≤ o ∧ o ≤ 33) ∨ (o = 0 ∧ k = 11)
def FR (o k : Nat) : Prop := ¬ (o = 1 ∨ o = 2 ∨ o = 3 ∨ o = 19 ∨ o = 20 ∨ (o = 0 ∧ (k = 1 ∨ k = 4)))
section IV
variable {σ τ σ' τ' : Mem}
theorem Inv_q (h : Inv σ τ) (hσ : Fr FQ σ σ') (hτ : Fr FR τ τ') (hC : Csh (absM τ 0) σ') : Inv σ' τ' := by
  obtain ⟨⟨s1, s2, s3, s4⟩, ⟨b1, b2, b3⟩, ⟨h1, h2, h3, h4⟩, hI, hP⟩ := h
  have kσ : ∀ o k, o < 29 ∨ (33 < o ∧ o < 289) → (o ≠ 0 ∨ k ≠ 11) → σ' o k = σ o k := fun o k q1 q2 => hσ o k (by unfold FQ; omega)
  have k1 : τ' 1 = τ 1 := by funext k; exact hτ 1 k (fun z => z (by omega))
  have k3 : τ' 3 = τ 3 := by funext k; exact hτ 3 k (fun z => z (by omega))
  have k2 : τ' 2 = τ 2 := by funext k; exact hτ 2 k (fun z => z (by omega))
  have k19 : τ' 19 = τ 19 := by funext k; exact hτ 19 k (fun z => z (by omega))
  have k20 : τ' 20 = τ 20 := by funext k; exact hτ 20 k (fun z => z (by omega))
  have k01 : τ' 0 1 = τ 0 1 := hτ 0 1 (fun z => z (by omega))
  have k04 : τ' 0 4 = τ 0 4 := hτ 0 4 (fun z => z (by omega))
  have kM : ∀ j, absM τ' j = absM τ j := absM_congr k1
  have e34 : σ' 34 = σ 34 := by funext k; exact kσ 34 k (by omega) (by omega)
  have kh : ∀ j, hAt σ' j = hAt σ j := fun j => by unfold hAt; rw [e34]
  refine ⟨⟨?_, by rw [kM]; exact s2, CI_keep (fun o k q1 q2 => kσ o k (by omega) (by omega)) s3, by rw [kM]; exact hC⟩, ⟨?_, by rw [k04]; exact b2, fun k hk => ?_⟩, ⟨?_, by rw [k01]; exact h2, by rw [e34]; exact h3, fun j hj => ?_⟩, fun k hk => ?_, by unfold InvP; rw [k19, k20]; exact hP⟩
  · rw [kM, absC_keep (fun o k q1 q2 => kσ o k (by omega) (by omega))]; exact s1
  · rw [kσ 26 0 (by omega) (by omega), k04]; exact b1
  · rw [k04] at hk
    rw [kσ 28 k (by omega) (by omega), k3]; exact b3 k hk
  · rw [e34, k01]; exact h1
  · rw [k01] at hj
    have hb : hAt σ j < 212 ∧ 36 ≤ hAt σ j := by unfold hAt; omega
    rw [kM, kh, absC_keep (σ := σ) (fun o k q1 q2 => kσ o k (by omega) (by omega))]
    exact ⟨(h4 j hj).1, (h4 j hj).2.1, CI_keep (fun o k q1 q2 => kσ o k (by omega) (by omega)) (h4 j hj).2.2⟩
  · rw [kσ 288 k (by omega) (by omega), k2, kM, absC_keep (σ := σ) (fun o k q1 q2 => kσ o k (by omega) (by omega))]
    refine ⟨(hI k hk).1, (hI k hk).2.1, fun z => ?_⟩
    have := (hI k hk).2.2 z
    exact ⟨this.1, this.2.1, CI_keep (fun o k q1 q2 => kσ o k (by omega) (by omega)) this.2.2⟩
theorem Inv.n (h : Inv σ τ) : σ 2 0 = τ 1 0 ∧ ((nS (absM τ 0) : Nat) : Int) = τ 1 0 ∧ nS (absM τ 0) ≤ 20 := by
  have h1 := h.1.2.1.n
  rw [aM_n] at h1
  have h2 : absC σ 1 0 0 = absM τ 0 0 0 := by rw [h.1.1]
  rw [aM_n] at h2
  exact ⟨h2, h1.1, h1.2⟩
theorem Inv.stp (h : Inv σ τ) : σ 1 2 = τ 1 977 ∧ 1 ≤ τ 1 977 ∧ τ 1 977 ≤ 8 := by
  have h2 : absC σ 1 0 1 = absM τ 0 0 1 := by rw [h.1.1]
  have h1 := h.1.2.1.2.1
  rw [aM_stp] at h1 h2
  exact ⟨h2, h1.1, h1.2⟩
theorem Inv.bas (h : Inv σ τ) : σ 1 3 = τ 1 978 ∧ 0 ≤ τ 1 978 ∧ τ 1 978 ≤ 20 := by
  have h2 : absC σ 1 0 2 = absM τ 0 0 2 := by rw [h.1.1]
  have h1 := h.1.2.1.2.2.1
  rw [aM_bas] at h1 h2
  exact ⟨h2, h1.1, h1.2⟩
theorem Inv.cm (h : Inv σ τ) : σ 1 4 = τ 1 979 := by
  have h2 : absC σ 1 0 3 = absM τ 0 0 3 := by rw [h.1.1]
  rw [aM_cm] at h2
  exact h2
theorem Inv.ind (h : Inv σ τ) {i : Nat} (hi : i < nS (absM τ 0)) : σ 4 i = absM τ 0 1 i ∧ τ 1 (1 + i) = absM τ 0 1 i ∧ 0 ≤ absM τ 0 1 i ∧ absM τ 0 1 i ≤ 40 := by
  have hn := h.n
  have h1 := aC_ind (σ := σ) (i := i) (by omega)
  have h2 := aM_ind (τ := τ) (i := i) (by omega)
  rw [h.1.1] at h1
  have h3 := (h.1.2.1.2.2.2.2.1 i (by rw [aM_n]; omega)).1
  exact ⟨h1.symm, h2.symm, h3⟩
theorem Inv.len (h : Inv σ τ) {i : Nat} (hi : i < nS (absM τ 0)) : σ 6 i = absM τ 0 2 i ∧ τ 1 (21 + i) = absM τ 0 2 i ∧ 0 ≤ absM τ 0 2 i ∧ absM τ 0 2 i ≤ 32 := by
  have hn := h.n
  have h1 := aC_len (σ := σ) (i := i) (by omega)
  have h2 := aM_len (τ := τ) (i := i) (by omega)
  rw [h.1.1] at h1
  have h3 := h.1.2.1.len hi
  exact ⟨h1.symm, h2.symm, h3⟩
theorem Inv.pin (h : Inv σ τ) {i : Nat} (hi : i < nS (absM τ 0)) : σ 8 i = absM τ 0 3 i ∧ τ 1 (41 + i) = absM τ 0 3 i ∧ (absM τ 0 3 i = 0 ∨ absM τ 0 3 i = 1) := by
  have hn := h.n
  have h1 := aC_pin (σ := σ) (i := i) (by omega)
  have h2 := aM_pin (τ := τ) (i := i) (by omega)
  rw [h.1.1] at h1
  have h3 := (h.1.2.1.2.2.2.2.1 i (by rw [aM_n]; omega)).2.2.1
  exact ⟨h1.symm, h2.symm, h3⟩
theorem lin_has {a : Int} (ha : RI a) (hn : 0 ≤ σ 2 0 ∧ σ 2 0 ≤ 20) : Lin_has a σ = some (if 0 ≤ a ∧ a < σ 2 0 then 1 else 0, σ) := by
  unfold Lin_has
  rw [ha.w, wr_id (n := σ 2 0) (by omega) (by omega)]
  by_cases q : a < 0
  · rw [if_pos q, if_neg (by omega)]
  · rw [if_neg q]
    by_cases q2 : a < σ 2 0
    · rw [if_pos q2, if_pos ⟨by omega, q2⟩]
    · rw [if_neg q2, if_neg (fun z => q2 z.2)]
theorem md_isLine {a : Int} (ha : RI a) (hn : 0 ≤ τ 1 0 ∧ τ 1 0 ≤ 20) : Md_isLine a τ = some (if 0 ≤ a ∧ a < τ 1 0 then 1 else 0, τ) := by
  unfold Md_isLine
  rw [if_pos (by decide), show (wr 0).toNat = 0 from by decide, md_in a 0 (τ 1 0 - 1) τ ha.w wr_0 (wr_id (by omega) (by omega))]
  simp only [Option.bind_some]
  by_cases q : 0 ≤ a ∧ a < τ 1 0
  · rw [if_pos q, if_pos (show 0 ≤ a ∧ a ≤ τ 1 0 - 1 from ⟨q.1, by omega⟩), if_pos (Or.inr rfl)]
  · rw [if_neg q, if_neg (show ¬ (0 ≤ a ∧ a ≤ τ 1 0 - 1) by omega), if_pos (Or.inl rfl)]
theorem Inv.nb (h : Inv σ τ) : (0 ≤ σ 2 0 ∧ σ 2 0 ≤ 20) ∧ 0 ≤ τ 1 0 ∧ τ 1 0 ≤ 20 := by have := h.n; omega
theorem Two.bad (h : Inv σ τ) (r : Int) : Ex (some (r, τ)) (fun r' τ' => r' = r ∧ Inv σ τ') := Ex.ret ⟨rfl, h⟩
theorem t_lines (h : Inv σ τ) : Two (Ai_lines σ) (Md_lines τ) := by
  unfold Ai_lines Md_lines
  rw [if_pos (by decide), show (wr 0).toNat = 0 from by decide]
  exact Ex.ret (Ex.ret ⟨h.n.1.symm, h⟩)
theorem t_indentation (h : Inv σ τ) {a : Int} (ha : RI a) : Two (Ai_indentation a σ) (Md_indentation a τ) := by
  have hb := h.nb
  have hn := h.n
  unfold Ai_indentation Md_indentation Two
  rw [lin_has ha hb.1, md_isLine ha hb.2]
  simp only [Option.bind_some]
  rw [hn.1]
  by_cases q : 0 ≤ a ∧ a < τ 1 0
  · obtain ⟨i, rfl⟩ : ∃ z : Nat, a = (z : Int) := ⟨a.toNat, by omega⟩
    have hi := h.ind (i := i) (by omega)
    rw [if_pos q, wr_1, if_neg n10, if_neg n10, rg_3 (by omega) (by omega), if_pos (inb (by omega) (by omega) (by omega)), wrn (n := 1 + i) (by omega) (by omega)]
    simp only [Option.bind_some]
    rw [show ((i : Int)).toNat = i by omega]
    exact Ex.ret (Ex.ret ⟨by rw [hi.1, hi.2.1], h⟩)
  · rw [if_neg q, wr_0, if_pos rfl, if_pos rfl]
    exact Ex.ret (Ex.ret ⟨rfl, h⟩)
theorem t_length (h : Inv σ τ) {a : Int} (ha : RI a) : Two (Ai_length a σ) (Md_length a τ) := by
  have hb := h.nb
  have hn := h.n
  unfold Ai_length Md_length Two
  rw [lin_has ha hb.1, md_isLine ha hb.2]
  simp only [Option.bind_some]
  rw [hn.1]
  by_cases q : 0 ≤ a ∧ a < τ 1 0
  · obtain ⟨i, rfl⟩ : ∃ z : Nat, a = (z : Int) := ⟨a.toNat, by omega⟩
    have hi := h.len (i := i) (by omega)
    rw [if_pos q, wr_1, if_neg n10, if_neg n10, rg_5 (by omega) (by omega), if_pos (inb (by omega) (by omega) (by omega)), wrn (n := 21 + i) (by omega) (by omega)]
    simp only [Option.bind_some]
    rw [show ((i : Int)).toNat = i by omega]
    exact Ex.ret (Ex.ret ⟨by rw [hi.1, hi.2.1], h⟩)
  · rw [if_neg q, wr_0, if_pos rfl, if_pos rfl]
    exact Ex.ret (Ex.ret ⟨rfl, h⟩)
theorem t_isPinned (h : Inv σ τ) {a : Int} (ha : RI a) : Two (Ai_isPinned a σ) (Md_isPinned a τ) := by
  have hb := h.nb
  have hn := h.n
  unfold Ai_isPinned Md_isPinned Two
  rw [lin_has ha hb.1, md_isLine ha hb.2]
  simp only [Option.bind_some]
  rw [hn.1]
  by_cases q : 0 ≤ a ∧ a < τ 1 0
  · obtain ⟨i, rfl⟩ : ∃ z : Nat, a = (z : Int) := ⟨a.toNat, by omega⟩
    have hi := h.pin (i := i) (by omega)
    rw [if_pos q, wr_1, if_neg n10, if_neg n10, rg_7 (by omega) (by omega), if_pos (inb (by omega) (by omega) (by omega)), wrn (n := 41 + i) (by omega) (by omega)]
    simp only [Option.bind_some]
    rw [show ((i : Int)).toNat = i by omega]
    exact Ex.ret (Ex.ret ⟨by rw [hi.1, hi.2.1], h⟩)
  · rw [if_neg q, wr_0, if_pos rfl, if_pos rfl]
    exact Ex.ret (Ex.ret ⟨rfl, h⟩)
theorem Inv.gMS (h : Inv σ τ) {i : Nat} (hi : i < nS (absM τ 0)) : gM τ i = gS (absM τ 0) i ∧ LnV τ i := by
  have hn := h.n
  have hl := h.len hi
  exact ⟨gM_gS (by omega) (by omega), LnV_of h.1.2.1 hi⟩
theorem t_byteAt (h : Inv σ τ) {a b : Int} (ha : RI a) (hb' : RI b) : Two (Ai_byteAt a b σ) (Md_byteAt a b τ) := by
  have hb := h.nb
  have hn := h.n
  unfold Ai_byteAt Md_byteAt Two
  rw [lin_has ha hb.1, md_isLine ha hb.2]
  simp only [Option.bind_some]
  rw [hn.1, hb'.w]
  by_cases q : 0 ≤ a ∧ a < τ 1 0
  · obtain ⟨i, rfl⟩ : ∃ z : Nat, a = (z : Int) := ⟨a.toNat, by omega⟩
    have hi := h.len (i := i) (by omega)
    rw [if_pos q, wr_1, if_neg n10, if_neg n10]
    by_cases q2 : b < 0
    · rw [if_pos q2, if_pos q2]; exact Ex.ret (Ex.ret ⟨rfl, h⟩)
    · rw [if_neg q2, if_neg q2, rg_5 (by omega) (by omega)]
      simp only [Option.bind_some]
      rw [show ((i : Int)).toNat = i by omega, hi.1, wr_id (n := absM τ 0 2 i) (by omega) (by omega)]
      unfold Md_contentAt
      rw [if_pos (inb (by omega) (by omega) (by omega)), wrn (n := 21 + i) (by omega) (by omega), hi.2.1, hb'.w, wr_id (n := absM τ 0 2 i) (by omega) (by omega)]
      by_cases q3 : b < absM τ 0 2 i
      · obtain ⟨k, rfl⟩ : ∃ z : Nat, b = (z : Int) := ⟨b.toNat, by omega⟩
        have hlb := lin_byteOf (σ := σ) (i := i) (by rw [h.1.1]; exact h.1.2.1) (by rw [h.1.1]; omega) (k := (k : Int)) (by omega) (by omega)
        rw [h.1.1, if_pos q3] at hlb
        rw [if_pos q3, if_pos q3, hlb, if_pos (inb (by omega) (by omega) (by omega)), wrn (n := 61 + 32 * i + k) (by omega) (by omega)]
        simp only [Option.bind_some]
        refine Ex.ret (Ex.ret ⟨?_, h⟩)
        rw [← (h.gMS (i := i) (by omega)).1]
        unfold gM
        rw [if_pos ⟨by omega, by omega⟩, show ((k : Int)).toNat = k by omega]
      · rw [if_neg q3, if_neg q3]
        simp only [Option.bind_some]
        exact Ex.ret (Ex.ret ⟨rfl, h⟩)
  · rw [if_neg q, wr_0, if_pos rfl, if_pos rfl]
    exact Ex.ret (Ex.ret ⟨rfl, h⟩)
end IV
