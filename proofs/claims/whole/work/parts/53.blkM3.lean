/-! ===== the reference looks at all lines ===== -/
/-- the stack before a line -/
noncomputable def skS (S : Mem) (i : Nat) : List Nat := (bRun S (fsS S i)).1
def NtM (S : Mem) (m : Nat) (τ : Mem) : Prop := ∀ j, j < m → τ 13 j = (skS S j).length ∧ ∀ k, k < (skS S j).length → τ 14 (12 * j + k) = ((skS S j).getD k 0 : Nat)
theorem md_notes_12 {st : List Nat} (h12 : st.length ≤ 12) {i : Nat} (hi : i ≤ 20) : ∀ (m n k : Nat) (τ : Mem), k + m = st.length → m < n → τ 0 18 = st.length → (∀ j, j < st.length → τ 15 j = (st.getD j 0 : Nat)) → (∀ j, j < k → τ 14 (12 * i + j) = (st.getD j 0 : Nat)) →
    Ex (Md_notes_12 n i k τ) (fun _ τ' => Fr (fun o z => o = 14 ∧ 12 * i ≤ z ∧ z < 12 * i + 12) τ τ' ∧ ∀ j, j < st.length → τ' 14 (12 * i + j) = (st.getD j 0 : Nat)) := by
  intro m
  induction m with
  | zero =>
    intro n k τ hkm hn h18 h15 h14
    obtain ⟨n, rfl⟩ : ∃ z, n = z + 1 := ⟨n - 1, by omega⟩
    show Ex (Md_notes_12b (Md_notes_12 n) i k τ) _
    unfold Md_notes_12b
    rw [h18, wr_id (n := (k : Int)) (by omega) (by omega), wr_id (n := (st.length : Int)) (by omega) (by omega), if_neg (by omega)]
    exact Ex.ret ⟨Fr.rf, fun j hj => h14 j (by omega)⟩
  | succ m ih =>
    intro n k τ hkm hn h18 h15 h14
    obtain ⟨n, rfl⟩ : ∃ z, n = z + 1 := ⟨n - 1, by omega⟩
    show Ex (Md_notes_12b (Md_notes_12 n) i k τ) _
    unfold Md_notes_12b
    rw [h18, wr_id (n := (k : Int)) (by omega) (by omega), wr_id (n := (st.length : Int)) (by omega) (by omega), if_pos (by omega), if_pos (by omega), if_pos (inb (by omega) (by omega) (by omega)), wrn (n := 12 * i + k) (by omega) (by omega), show ((k : Int)).toNat = k by omega, h15 k (by omega)]
    refine Ex.lt ?_
    have := ih n (k + 1) (upM τ 14 (12 * i + k) ((st.getD k 0 : Nat) : Int)) (by omega) (by omega) (by simpa [upM] using h18) (fun j hj => by simpa [upM] using h15 j hj) (fun j hj => by
      by_cases e : j = k
      · subst e; simp [upM]
      · have hne : ¬ 12 * i + j = 12 * i + k := by omega
        have := h14 j (by omega)
        simp only [upM]
        rw [if_neg (by omega)]
        exact this)
    rw [show (((k + 1 : Nat)) : Int) = (k : Int) + 1 by omega] at this
    exact this.mono (fun r ρ q => ⟨(Fr.up Fr.rf (by omega)).tr q.1, q.2⟩)
theorem md_notes {S τ : Mem} {T : Nat} {b : BSt} (hb : bOk S T b) {i : Nat} (hi : i ≤ 20) {U : Nat} (hB : BM U b τ) (hN : NtM S i τ) (hs : b.1 = skS S i) : Ex (Md_notes i τ) (fun _ τ' => Fr FB τ τ' ∧ BM U b τ' ∧ NtM S (i + 1) τ') := by
  have h12 := hb.1
  unfold Md_notes
  rw [if_pos (inb (by omega) (by omega) (by omega)), wrn (a := (i : Int)) rfl (by omega)]
  refine Ex.lt ?_
  have := md_notes_12 h12 hi b.1.length 100000 0 (upM τ 13 i (τ 0 18)) (by omega) (by omega) (by have := hB.1; simpa [upM] using this) (fun j hj => by have := hB.2.1 j hj; simpa [upM] using this) (fun j hj => by omega)
  refine this.mono (fun r ρ q => ?_)
  have hF : Fr FB τ ρ := (Fr.up Fr.rf (by unfold FB; omega)).tr (q.1.mono (fun o k z => by unfold FB; omega))
  have k1 : ∀ o k, o ≠ 13 → o ≠ 14 → ρ o k = τ o k := fun o k h1 h2 => by
    rw [q.1 o k (by omega)]
    simp only [upM]
    rw [if_neg (by omega)]
  refine ⟨hF, ?_, ?_⟩
  · obtain ⟨b1, b2, b3, b4, b5⟩ := hB
    refine ⟨by rw [k1 0 18 (by omega) (by omega)]; exact b1, fun k hk => by rw [k1 15 k (by omega) (by omega)]; exact b2 k hk, fun u hu => ?_, by rw [k1 0 19 (by omega) (by omega)]; exact b4, by rw [k1 0 20 (by omega) (by omega)]; exact b5⟩
    rw [k1 8 u (by omega) (by omega), k1 9 u (by omega) (by omega), k1 10 u (by omega) (by omega)]
    exact b3 u hu
  · intro j hj
    by_cases e : j = i
    · subst e
      rw [← hs]
      refine ⟨?_, q.2⟩
      rw [q.1 13 j (by omega)]
      have := hB.1
      simp [upM, this]
    · have := hN j (by omega)
      refine ⟨?_, fun k hk => ?_⟩
      · rw [q.1 13 j (by omega)]
        simp only [upM]
        rw [if_neg (by omega)]
        exact this.1
      · have hl : (skS S j).length ≤ 12 := (bOk_run (S := S) (fsS S j)).1
        rw [q.1 14 (12 * j + k) (by omega)]
        simp only [upM]
        rw [if_neg (by omega)]
        exact this.2 k hk
theorem e9_m1 : e9 (-1) = -9 := rfl
theorem md_token {S τ : Mem} (hS : SV S) (hA : absM τ 0 = S) (hT : TkM S τ) {T : Nat} (hTn : T < fsS S (nS S)) (hB : BM T (bRun S T) τ) {i : Nat} (hi : i < nS S) {r21 : Int → Mem → Option (Int × Mem)} {n : Nat} (hlt : T < fsS S (i + 1)) {Q : Int → Mem → Prop}
    (k : ∀ τ', Fr FB τ τ' → BM (T + 1) (bRun S (T + 1)) τ' → (∀ j z, (j = 13 ∨ j = 14) → τ' j z = τ j z) → Ex (Md_looks_43 r21 n i ((T : Int) + 1) τ') Q) : Ex (Md_looks_43 r21 (n + 1) i T τ) Q := by
  have hNn := hS.n
  have hfs := fsS_le hS (nS S) (Nat.le_refl _)
  have hfi := fsS_le hS (i + 1) (by omega)
  have hb := bOk_run (S := S) T
  have hfr : τ 11 (i + 1) = fsS S (i + 1) := tk_fr hT (by omega)
  show Ex (Md_looks_43b r21 (Md_looks_43 r21 n) i T τ) Q
  unfold Md_looks_43b
  rw [if_pos (inb (by omega) (by omega) (by omega)), wrn (n := i + 1) (by omega) (by omega), hfr, wr_id (n := (T : Int)) (by omega) (by omega), wr_id (n := ((fsS S (i + 1) : Nat) : Int)) (by omega) (by omega), if_pos (by omega), show ((T : Int)).toNat = T by omega]
  have cT : 0 ≤ (T : Int) ∧ (T : Int) < 641 := by omega
  rw [if_pos cT]
  refine Ex.lt ?_
  rw [if_pos cT]
  refine Ex.lt ?_
  rw [if_pos cT]
  refine Ex.lt ?_
  generalize hτ1 : upM (upM (upM τ 8 T (-9)) 9 T (-9)) 10 T (-9) = τ1
  have hF1 : Fr FB τ τ1 := by rw [← hτ1]; exact Fr.up (Fr.up (Fr.up Fr.rf (by unfold FB; omega)) (by unfold FB; omega)) (by unfold FB; omega)
  have hB1 : BM (T + 1) (bRun S T) τ1 := by
    obtain ⟨b1, b2, b3, b4, b5⟩ := hB
    rw [← hτ1]
    refine ⟨by simpa [upM] using b1, fun k hk => by simpa [upM] using b2 k hk, fun u hu => ?_, by simpa [upM] using b4, by simpa [upM] using b5⟩
    by_cases e : u = T
    · subst e
      have o1 : (bRun S u).2.1 u = -1 := by have := hb.2.2.1 u; omega
      have o2 : (bRun S u).2.2.1 u = -1 := by rcases hb.2.2.2.1 u with z | z
                                              · exact z
                                              · omega
      have o3 : (bRun S u).2.2.2.1 u = -1 := by have := hb.2.2.2.2.1 u; omega
      rw [o1, o2, o3]
      simp [upM, e9_m1]
    · have := b3 u (by omega)
      simpa [upM, e] using this
  have hsh := md_shuts hS (by rw [FB_A hF1]; exact hA) (FB_T hF1 hT) hTn hb hB1
  refine Ex.bnd (hsh.mono (fun _ τ2 q2 => ?_))
  obtain ⟨hF2', hB2⟩ := q2
  have hF2 := FH_B hF2'
  have hF12 := hF1.tr hF2
  obtain ⟨⟨c1, c2, c3, c4, c5, c6, c7, c8⟩, c9, c10, c11⟩ := bOk_cl hb
  rw [md_ruleFor hS (by rw [FB_A hF12]; exact hA) (FB_T hF12 hT) hTn (by omega)]
  simp only [Option.bind_some]
  have hbr := brS_rng S 1 T 12
  have hl2 : τ2 0 18 = (clS S T (bRun S T)).1.length := hB2.1
  have k13 : ∀ j z, (j = 13 ∨ j = 14) → τ2 j z = τ j z := fun j z hj => by
    rw [hF2' j z (by unfold FH; omega), ← hτ1]
    rcases hj with rfl | rfl <;> simp [upM]
  by_cases q : (clS S T (bRun S T)).1.length < 12 ∧ brS S 1 T 12 ≠ -1
  · have e9r : e9 (brS S 1 T 12) = brS S 1 T 12 := e9_id (by omega)
    rw [e9r, wr_id (n := brS S 1 T 12) (by omega) (by omega), if_neg (by omega), hl2, wr_id (n := (((clS S T (bRun S T)).1.length : Nat) : Int)) (by omega) (by omega), if_pos (by omega), if_pos cT]
    refine Ex.lt ?_
    have e18 : upM τ2 8 T (brS S 1 T 12) 0 18 = (((clS S T (bRun S T)).1.length : Nat) : Int) := by simpa [upM] using hl2
    rw [e18, if_pos (inb (by omega) (by omega) (by omega)), wrn (a := (((clS S T (bRun S T)).1.length : Nat) : Int)) rfl (by omega)]
    refine Ex.lt (Ex.lt ?_)
    have e18b : upM (upM τ2 8 T (brS S 1 T 12)) 15 (clS S T (bRun S T)).1.length T 0 18 = (((clS S T (bRun S T)).1.length : Nat) : Int) := by simpa [upM] using hl2
    rw [e18b]
    have eR : bRun S (T + 1) = ((clS S T (bRun S T)).1 ++ [T], up1 (clS S T (bRun S T)).2.1 T (brS S 1 T 12), (clS S T (bRun S T)).2.2) := by show opS S T (clS S T (bRun S T)) = _; unfold opS; rw [cif_pos q]
    refine k _ (hF12.tr (Fr.up (Fr.up (Fr.up Fr.rf (by unfold FB; omega)) (by unfold FB; omega)) (by unfold FB; omega))) ?_ (fun j z hj => by
      have := k13 j z hj
      rcases hj with rfl | rfl <;> simpa [upM] using this)
    rw [eR]
    obtain ⟨b1, b2, b3, b4, b5⟩ := hB2
    refine ⟨by simp [upM], fun k hk => ?_, fun u hu => ?_, by simpa [upM] using b4, by simpa [upM] using b5⟩
    · simp only [List.length_append, List.length_singleton] at hk
      by_cases e : k = (clS S T (bRun S T)).1.length
      · subst e; simp [upM]
      · have hk2 : k < (clS S T (bRun S T)).1.length := by omega
        have := b2 k hk2
        have hne : ¬ k = (clS S T (bRun S T)).1.length := e
        simp only [upM]
        rw [if_neg (by omega), if_neg (by omega), if_neg (by omega), this]
        simp [List.getElem?_append_left hk2]
    · have := b3 u hu
      by_cases e : u = T
      · subst e; simp [upM, up1, e9r]; exact this.2
      · simp [upM, up1, e]; exact this
  · have eR : bRun S (T + 1) = clS S T (bRun S T) := by show opS S T (clS S T (bRun S T)) = _; unfold opS; rw [cif_neg q]
    have fin := k τ2 hF12 (by rw [eR]; exact hB2) k13
    by_cases q2 : brS S 1 T 12 = -1
    · rw [q2, e9_m1, show wr (-9) = -9 from by decide, if_pos rfl]
      exact fin
    · have e9r : e9 (brS S 1 T 12) = brS S 1 T 12 := e9_id (by omega)
      rw [e9r, wr_id (n := brS S 1 T 12) (by omega) (by omega), if_neg (by omega), hl2, wr_id (n := (((clS S T (bRun S T)).1.length : Nat) : Int)) (by omega) (by omega), if_neg (by omega)]
      exact fin
