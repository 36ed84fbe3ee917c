/-! ===== the reference decides about a line ===== -/
def FD (o k : Nat) : Prop := o = 0 ∧ 24 ≤ k ∧ k ≤ 27
def DM (S τ : Mem) (stp bas : Int) : Prop := SV S ∧ absM τ 0 = S ∧ TkM S τ ∧ BkM S τ ∧ (∀ j, j < nS S → 0 ≤ τ 16 j ∧ τ 16 j ≤ 40) ∧ (τ 0 22 = stp ∧ 1 ≤ stp ∧ stp ≤ 8) ∧ (τ 0 23 = bas ∧ 0 ≤ bas ∧ bas ≤ 20)
theorem Bk_keep {S τ τ' : Mem} (h : ∀ o k, (8 ≤ o ∧ o ≤ 10) ∨ (13 ≤ o ∧ o ≤ 15) ∨ (o = 0 ∧ 18 ≤ k ∧ k ≤ 20) → τ' o k = τ o k) (hB : BkM S τ) : BkM S τ' := by
  obtain ⟨⟨b1, b2, b3, b4, b5⟩, hn⟩ := hB
  refine ⟨⟨by rw [h 0 18 (by omega)]; exact b1, fun k hk => by rw [h 15 k (by omega)]; exact b2 k hk, fun u hu => ?_, by rw [h 0 19 (by omega)]; exact b4, by rw [h 0 20 (by omega)]; exact b5⟩, fun j hj => ⟨?_, fun k hk => ?_⟩⟩
  · rw [h 8 u (by omega), h 9 u (by omega), h 10 u (by omega)]; exact b3 u hu
  · rw [h 13 j (by omega)]; exact (hn j hj).1
  · rw [h 14 _ (by omega)]; exact (hn j hj).2 k hk
theorem Tk_keep {S τ τ' : Mem} (h : ∀ o k, (4 ≤ o ∧ o ≤ 7) ∨ o = 11 ∨ o = 12 ∨ (o = 0 ∧ k = 12) → τ' o k = τ o k) (hT : TkM S τ) : TkM S τ' := by
  have e : ∀ o, (4 ≤ o ∧ o ≤ 7) ∨ o = 11 ∨ o = 12 → τ' o = τ o := fun o ho => by funext k; exact h o k (by omega)
  have e0 : τ' 0 12 = τ 0 12 := h 0 12 (by omega)
  unfold TkM
  rw [e 4 (by omega), e 5 (by omega), e 6 (by omega), e 7 (by omega), e 11 (by omega), e 12 (by omega), e0]
  exact hT
theorem DM_Fr {S τ τ' : Mem} {stp bas : Int} (h : Fr FD τ τ') (hD : DM S τ stp bas) : DM S τ' stp bas := by
  obtain ⟨d1, d2, d3, d4, d5, d6, d7⟩ := hD
  have k : ∀ o z, (o ≠ 0 ∨ z < 24 ∨ 27 < z) → τ' o z = τ o z := fun o z hz => h o z (by unfold FD; omega)
  refine ⟨d1, by rw [absM_congr (by funext z; exact k 1 z (by omega))]; exact d2, Tk_keep (fun o z hz => k o z (by omega)) d3, Bk_keep (fun o z hz => k o z (by omega)) d4, fun j hj => by rw [k 16 j (by omega)]; exact d5 j hj, by rw [k 0 22 (by omega)]; exact d6, by rw [k 0 23 (by omega)]; exact d7⟩
section DC
variable {S τ : Mem} {stp bas : Int}
theorem bk_op (hB : BkM S τ) {u : Nat} (hu : u < fsS S (nS S)) : τ 8 u = e9 (opn S u) ∧ τ 9 u = e9 (cls S u) := by
  have h1 := hB.1.2.2.1 u hu
  have h2 := run_old (S := S) (u := u) (fsS S (nS S)) hu
  rw [h2.1, h2.2] at h1
  exact ⟨h1.1, h1.2.1⟩
theorem md_columnOf (hD : DM S τ stp bas) {u : Nat} (hu : u < fsS S (nS S)) : Md_columnOf u τ = some (τ 16 (tq S u).1 + (tq S u).2.1, τ) := by
  obtain ⟨hS, hA, hT, hB, hr, -, -⟩ := hD
  have hN := hS.n
  have hfs := fsS_le hS (nS S) (Nat.le_refl _)
  have ht := tk_arr hT hu
  have hk := tq_ok hS hu
  unfold Md_columnOf
  rw [if_pos (inb (by omega) (by omega) (by omega)), wrn (a := (u : Int)) rfl (by omega), ht.1, ht.2.1, if_pos (inb (by omega) (by omega) (by omega)), if_pos (inb (by omega) (by omega) (by omega)), wrn (a := ((tq S u).1 : Int)) rfl (by omega)]
theorem md_isAligned (hD : DM S τ stp bas) {u : Nat} (hu : u < fsS S (nS S)) (ho : 0 ≤ opn S u) : Md_isAligned u τ = some (cif (algS S u) 1 0, τ) := by
  obtain ⟨hS, hA, hT, hB, hr, -, -⟩ := hD
  have hN := hS.n
  have hfs := fsS_le hS (nS S) (Nat.le_refl _)
  have ht := tk_arr hT hu
  have hk := tq_ok hS hu
  have hop := opn_rng S u
  have hop2 : 0 ≤ opn S u ∧ opn S u < 12 ∧ S 5 (opn S u).toNat = 1 ∧ opn S u = brS S 1 u 12 := by omega
  obtain ⟨r, hr'⟩ : ∃ z : Nat, opn S u = (z : Int) := ⟨(opn S u).toNat, by omega⟩
  have hr12 : r < 12 := by omega
  have hs1 : S 5 r = 1 := by have := hop2.2.2.1; rwa [hr', show ((r : Int)).toNat = r by omega] at this
  have e8 : τ 8 u = r := by rw [(bk_op hB hu).1, e9_id ho, hr']
  have em : τ 1 (701 + 23 * r + 3) = S 8 r := by
    have := aM_mode (τ := τ) hr12 (by rw [hA]; exact hs1)
    rw [hA] at this; rw [this, show 704 + 23 * r = 701 + 23 * r + 3 by omega]
  have hm := ((hS.2.2.2.2.2 r hr12).2.2.2.1 hs1).2.1
  have ea : S 8 (brS S 1 u 12).toNat = S 8 r := by rw [← hop2.2.2.2, hr', show ((r : Int)).toNat = r by omega]
  have hfl := fsS_le hS ((tq S u).1 + 1) (by omega)
  unfold Md_isAligned
  rw [if_pos (inb (by omega) (by omega) (by omega)), wrn (a := (u : Int)) rfl (by omega), e8, md_ra3 hr12, em]
  simp only [Option.bind_some]
  rw [wr_id (n := S 8 r) (by omega) (by omega)]
  by_cases q : S 8 r = 1
  · rw [if_pos q, if_pos (inb (by omega) (by omega) (by omega)), ht.1, if_pos (inb (by omega) (by omega) (by omega)), wrn (n := (tq S u).1 + 1) (by omega) (by omega), tk_fr hT (by omega), wr_id (n := (u : Int) + 1) (by omega) (by omega), wr_id (n := ((fsS S ((tq S u).1 + 1) : Nat) : Int)) (by omega) (by omega)]
    by_cases q2 : u + 1 < fsS S ((tq S u).1 + 1)
    · rw [if_pos (by omega), cif_pos ⟨by rw [ea]; exact q, q2⟩]
    · rw [if_neg (by omega), cif_neg (fun z => q2 z.2)]
  · rw [if_neg q, cif_neg (fun z => q (by rw [← ea]; exact z.1))]
theorem alg_next {u : Nat} (hS : SV S) (hu : u < fsS S (nS S)) (h : algS S u) : u + 1 < fsS S (nS S) ∧ (tq S (u + 1)).1 = (tq S u).1 := by
  have hk := tq_ok hS hu
  have hmo := fsS_mono S (show (tq S u).1 + 1 ≤ nS S by omega)
  have h2 := h.2
  refine ⟨by omega, ?_⟩
  obtain ⟨j, t, q, h1, h2', h3⟩ := fs_find S (nS S) u hu
  have hlt : t < (tkS S j).length := (List.getElem?_eq_some_iff.mp h3).1
  have el : (tq S u).1 = j := by rw [h2', tq_at h1 h3]
  rw [el] at h2 ⊢
  exact tq_line h1 (by omega) h2
theorem md_columnIn (hD : DM S τ stp bas) {u : Nat} (hu : u < fsS S (nS S)) (ho : 0 ≤ opn S u) : Md_columnIn u τ = some (cinS S (τ 16) stp u, τ) ∧ 0 ≤ cinS S (τ 16) stp u ∧ cinS S (τ 16) stp u ≤ 80 := by
  have hD0 := hD
  obtain ⟨hS, hA, hT, hB, hr, hst, -⟩ := hD
  have hN := hS.n
  have hfs := fsS_le hS (nS S) (Nat.le_refl _)
  have ht := tk_arr hT hu
  have hk := tq_ok hS hu
  have hop := opn_rng S u
  have hop2 : 0 ≤ opn S u ∧ opn S u < 12 ∧ S 5 (opn S u).toNat = 1 ∧ opn S u = brS S 1 u 12 := by omega
  obtain ⟨r, hr'⟩ : ∃ z : Nat, opn S u = (z : Int) := ⟨(opn S u).toNat, by omega⟩
  have hr12 : r < 12 := by omega
  have hs1 : S 5 r = 1 := by have := hop2.2.2.1; rwa [hr', show ((r : Int)).toNat = r by omega] at this
  have e8 : τ 8 u = r := by rw [(bk_op hB hu).1, e9_id ho, hr']
  have esp : τ 1 (701 + 23 * r + 2) = S 7 r := by
    have := aM_sp (τ := τ) hr12 (by rw [hA]; omega)
    rw [hA] at this; rw [this, show 703 + 23 * r = 701 + 23 * r + 2 by omega]
  have hsp := (hS.2.2.2.2.2 r hr12).2.2.2.1 hs1
  have hsp2 := ((hS.2.2.2.2.2 r hr12).2.2.1 (by omega)).2.1
  have hrw := hr (tq S u).1 hk.1
  have hmul : 0 ≤ S 7 r * stp ∧ S 7 r * stp ≤ 32 := by
    have h1 := hsp.1; have h2 := hsp2.2
    have : S 7 r = 0 ∨ S 7 r = 1 ∨ S 7 r = 2 ∨ S 7 r = 3 ∨ S 7 r = 4 := by omega
    rcases this with e | e | e | e | e <;> rw [e] <;> omega
  unfold Md_columnIn cinS
  rw [md_isAligned hD0 hu ho]
  simp only [Option.bind_some]
  by_cases q : algS S u
  · obtain ⟨n1, n2⟩ := alg_next hS hu q
    have hk1 := tq_ok hS n1
    have hl1 := hS.len hk1.1
    have hcO := md_columnOf hD0 n1
    rw [n2] at hcO hk1 hl1
    rw [cif_pos q, cif_pos q, wr_1, if_neg (by decide), show ((u : Int) + 1) = ((u + 1 : Nat) : Int) by omega, hcO]
    exact ⟨rfl, by omega, by omega⟩
  · rw [cif_neg q, cif_neg q, wr_0, if_pos rfl, if_pos (inb (by omega) (by omega) (by omega)), wrn (a := (u : Int)) rfl (by omega), ht.1, if_pos (inb (by omega) (by omega) (by omega)), if_pos (inb (by omega) (by omega) (by omega)), wrn (a := ((tq S u).1 : Int)) rfl (by omega), e8, md_ra2 hr12, esp]
    simp only [Option.bind_some]
    rw [hst.1, md_least 40 _ τ rfl (wr_id (by omega) (by omega)), hr', show ((r : Int)).toNat = r by omega]
    refine ⟨rfl, ?_, ?_⟩
    · unfold m40; split <;> omega
    · unfold m40; split <;> omega
def OS (τ : Mem) (s : Int × Int × Int × Int) : Prop := τ 0 27 = s.1 ∧ (-2 ≤ s.1 ∧ s.1 ≤ 9) ∧ (s.1 ≠ -2 → τ 0 24 = s.2.1 ∧ τ 0 25 = s.2.2.1 ∧ τ 0 26 = e9 s.2.2.2)
theorem md_offers {s : Int × Int × Int × Int} (hO : OS τ s) {p a w r r' : Int} (hp : -1 ≤ p ∧ p ≤ 9) (hr : r' = e9 r) : Ex (Md_offers p a w r' τ) (fun _ τ' => Fr FD τ τ' ∧ OS τ' (ofr s p a w r)) := by
  obtain ⟨o1, o2, o3⟩ := hO
  unfold Md_offers ofr
  rw [o1, wr_id (n := s.1) (by omega) (by omega), wr_id (n := p) (by omega) (by omega)]
  by_cases q : s.1 < p
  · rw [if_pos q, if_pos q]
    refine Ex.lt (Ex.lt (Ex.lt (Ex.lt (Ex.ret ⟨Fr.up (Fr.up (Fr.up (Fr.up Fr.rf (by unfold FD; omega)) (by unfold FD; omega)) (by unfold FD; omega)) (by unfold FD; omega), ?_⟩))))
    exact ⟨by simp [upM], by simp only []; omega, fun _ => by simp [upM, hr]⟩
  · rw [if_neg q, if_neg q]
    exact Ex.ret ⟨Fr.rf, o1, o2, o3⟩
theorem md_decides_464 {s : Int × Int × Int × Int} (hO : OS τ s) {g w r r' : Int} (hr : r' = e9 r) (hrng : -1000 ≤ (ofr s (-1) g w r).2.1 ∧ (ofr s (-1) g w r).2.1 ≤ 1000) : Ex (Md_decides_464 r' w g (-1) τ) (fun _ τ' => Fr FD τ τ' ∧ τ' 0 24 = (if (ofr s (-1) g w r).2.1 < 0 then 0 else (if (ofr s (-1) g w r).2.1 < 40 then (ofr s (-1) g w r).2.1 else 40)) ∧ τ' 0 25 = (ofr s (-1) g w r).2.2.1 ∧ τ' 0 26 = e9 (ofr s (-1) g w r).2.2.2) := by
  unfold Md_decides_464
  refine Ex.bnd ((md_offers hO (p := -1) (a := g) (w := w) (by omega) hr).mono (fun _ τ1 q => ?_))
  obtain ⟨hF, h1, h2, h3⟩ := q
  have hne : (ofr s (-1) g w r).1 ≠ -2 := by
    unfold ofr
    split
    · simp
    · have := hO.2.1; omega
  obtain ⟨c1, c2, c3⟩ := h3 hne
  simp only []
  rw [c1, wr_id (by omega) (by omega)]
  by_cases q : (ofr s (-1) g w r).2.1 < 0
  · rw [if_pos q, if_pos q]
    exact Ex.lt (Ex.ret ⟨Fr.up hF (by unfold FD; omega), by simp [upM], by simpa [upM] using c2, by simpa [upM] using c3⟩)
  · rw [if_neg q, if_neg q, md_least _ 40 _ (wr_id (by omega) (by omega)) rfl]
    simp only [Option.bind_some]
    exact Ex.lt (Ex.ret ⟨Fr.up hF (by unfold FD; omega), by simp [upM], by simpa [upM] using c2, by simpa [upM] using c3⟩)
end DC
