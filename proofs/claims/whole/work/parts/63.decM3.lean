/-! ===== decides(), uses(), settles() of the reference ===== -/
section DC3
variable {S τ : Mem} {stp bas : Int} {i : Nat}
theorem md_decides_71 (hD : DM S τ stp bas) (hi : i < nS S) {r21 : Int → Int → Int → Int → Int → Mem → Option (Int × Mem)} {T : Nat} (hT : T < fsS S (nS S)) {c : Nat} {lv : Nat} (hlv : (skS S i)[lv]? = some c) (hcN : c < fsS S (nS S)) : ∀ (d n : Nat), lv + 1 + d ≤ (skS S i).length → d < n →
    Md_decides_71 r21 n i ((lv + 1 + d : Nat) : Int) c T τ = (if opn S T = -1 then r21 i lv c 1 ((T : Int) + 1) τ else r21 i lv c 0 ((T : Int) + 1) τ) := by
  have hN := hD.1.n
  have hfs := fsS_le hD.1 (nS S) (Nat.le_refl _)
  have hsk := sk_le S i
  have hp := stk_pos (fsS S i) lv c hlv
  intro d
  induction d with
  | zero =>
    intro n hd hn
    obtain ⟨n, rfl⟩ : ∃ z, n = z + 1 := ⟨n - 1, by omega⟩
    have h14 := (hD.2.2.2.1.2 i (by omega)).2 lv (by omega)
    have eg : (skS S i).getD lv 0 = c := by rw [List.getD_eq_getElem?_getD, hlv]; rfl
    have hop := opn_rng S T
    show Md_decides_71b r21 (Md_decides_71 r21 n) i ((lv + 1 + 0 : Nat) : Int) c T τ = _
    unfold Md_decides_71b
    rw [if_pos (inb (by omega) (by omega) (by omega)), wrn (n := 12 * i + lv) (by omega) (by omega), h14, eg, if_pos rfl, if_pos (inb (by omega) (by omega) (by omega)), wrn (a := (T : Int)) rfl (by omega), (bk_op hD.2.2.2.1 hT).1, show (((lv + 1 + 0 : Nat)) : Int) + -1 = (lv : Int) by omega]
    by_cases q : opn S T = -1
    · rw [q, e9_m1, show wr (-9) = -9 from by decide, if_pos rfl, if_pos rfl]
    · rw [e9_id (by omega), wr_id (n := opn S T) (by omega) (by omega), if_neg (by omega), if_neg q]
  | succ d ih =>
    intro n hd hn
    obtain ⟨n, rfl⟩ : ∃ z, n = z + 1 := ⟨n - 1, by omega⟩
    have h14 := (hD.2.2.2.1.2 i (by omega)).2 (lv + 1 + d) (by omega)
    have hs := sk_mem (S := S) (i := i) (k := lv + 1 + d) (by omega)
    have hm := fsS_mono S (show i ≤ nS S by omega)
    have hne : (skS S i).getD (lv + 1 + d) 0 ≠ c := by
      intro e
      have h1 := hs.2.1
      rw [e] at h1
      omega
    show Md_decides_71b r21 (Md_decides_71 r21 n) i ((lv + 1 + (d + 1) : Nat) : Int) c T τ = _
    unfold Md_decides_71b
    rw [if_pos (inb (by omega) (by omega) (by omega)), wrn (n := 12 * i + (lv + 1 + d)) (by omega) (by omega), h14, wr_id (n := (c : Int)) (by omega) (by omega), wr_id (n := (((skS S i).getD (lv + 1 + d) 0 : Nat) : Int)) (by omega) (by omega), if_neg (by omega), show (((lv + 1 + (d + 1) : Nat)) : Int) + -1 = ((lv + 1 + d : Nat) : Int) by omega]
    exact ih n (by omega) (by omega)
theorem md_decides_21z (hD : DM S τ stp bas) (hi : i < nS S) {n : Nat} (o c T : Int) : Md_decides_21 (n + 1) i o c 0 T τ = Md_decides_122 i o c τ := by
  have hN := hD.1.n
  show Md_decides_21b (Md_decides_21 n) i o c 0 T τ = _
  unfold Md_decides_21b
  rw [if_pos (inb (by omega) (by omega) (by omega)), wr_0, if_pos rfl]
  split <;> rfl
theorem md_decides_21 (hD : DM S τ stp bas) (hi : i < nS S) : ∀ (m n T o : Nat) (c : Int), fsS S i ≤ T → T + m = fsS S (i + 1) → m < n → 1 < n → o ≤ (skS S i).length → (bRun S T).1 = (skS S i).take o → Md_decides_21 n i o (e9 c) 1 T τ = Md_decides_122 i ((ldS S i m T o c).1 : Nat) (e9 (ldS S i m T o c).2) τ := by
  have hN := hD.1.n
  have hfs := fsS_le hD.1 (nS S) (Nat.le_refl _)
  have hsk := sk_le S i
  have hm1 := fsS_mono S (show i + 1 ≤ nS S by omega)
  intro m
  induction m with
  | zero =>
    intro n T o c h1 h2 h3 h3' h4 h5
    obtain ⟨n, rfl⟩ : ∃ z, n = z + 1 := ⟨n - 1, by omega⟩
    show Md_decides_21b (Md_decides_21 n) i o (e9 c) 1 T τ = _
    unfold Md_decides_21b
    rw [if_pos (inb (by omega) (by omega) (by omega)), wrn (n := i + 1) (by omega) (by omega), tk_fr hD.2.2.1 (by omega), wr_id (n := (T : Int)) (by omega) (by omega), wr_id (n := ((fsS S (i + 1) : Nat) : Int)) (by omega) (by omega), if_neg (by omega)]
    rfl
  | succ m ih =>
    intro n T o c h1 h2 h3 h3' h4 h5
    obtain ⟨n, rfl⟩ : ∃ z, n = z + 1 := ⟨n - 1, by omega⟩
    obtain ⟨n2, rfl⟩ : ∃ z, n = z + 1 := ⟨n - 1, by omega⟩
    have hb9 := (bk_op hD.2.2.2.1 (u := T) (by omega)).2
    show Md_decides_21b (Md_decides_21 (n2 + 1)) i o (e9 c) 1 T τ = _
    unfold Md_decides_21b
    rw [if_pos (inb (by omega) (by omega) (by omega)), wrn (n := i + 1) (by omega) (by omega), tk_fr hD.2.2.1 (by omega), wr_id (n := (T : Int)) (by omega) (by omega), wr_id (n := ((fsS S (i + 1) : Nat) : Int)) (by omega) (by omega), if_pos (by omega), wr_1, if_neg (by decide), if_pos (by omega), show ((T : Int)).toNat = T by omega, hb9]
    unfold ldS
    by_cases q : cls S T = -1
    · rw [cif_pos q, q, e9_m1, show wr (-9) = -9 from by decide, if_pos rfl]
      unfold Md_decides_56
      rw [wr_0, if_pos rfl]
      exact md_decides_21z hD hi _ _ _
    · obtain ⟨a1, a2, a3, a4, a5, a6⟩ := cls_stk q
      have a3o := a3
      have a2o := a2
      rw [h5] at a2 a3 a4
      have hlo : lvS S (cls S T).toNat < o := by simp at a2; omega
      have a3' : (skS S i)[lvS S (cls S T).toNat]? = some (cls S T).toNat := by
        rw [List.getElem?_take] at a3
        rw [if_pos hlo] at a3
        exact a3
      rw [cif_neg q, e9_id a1, wr_id (n := cls S T) (by omega) (by omega), if_neg (by omega)]
      unfold Md_decides_56
      rw [wr_1, if_neg (by decide), if_pos (inb (by omega) (by omega) (by omega)), wrn (a := (T : Int)) rfl (by omega), hb9, e9_id a1]
      have h71 := md_decides_71 hD hi (r21 := Md_decides_21 (n2 + 1)) (T := T) (by omega) a3' (by omega) (o - (lvS S (cls S T).toNat + 1)) 100000 (by omega) (by omega)
      rw [show lvS S (cls S T).toNat + 1 + (o - (lvS S (cls S T).toNat + 1)) = o by omega, show (((cls S T).toNat : Nat) : Int) = cls S T by omega] at h71
      rw [h71]
      by_cases q2 : opn S T = -1
      · rw [if_pos q2, cif_pos q2]
        have e : (bRun S (T + 1)).1 = (skS S i).take (lvS S (cls S T).toNat) := by
          have hno : ¬ ((clS S T (bRun S T)).1.length < 12 ∧ brS S 1 T 12 ≠ -1) := by
            intro z
            have := opn_eq S T
            rw [cif_pos z] at this
            exact z.2 (by rw [← this]; exact q2)
          show (opS S T (clS S T (bRun S T))).1 = _
          unfold opS
          rw [cif_neg hno, a4, List.take_take, Nat.min_eq_left (by omega)]
        by_cases hz : n2 + 1 = 1
        · have hm0 : m = 0 := by omega
          subst hm0
          have := ih 2 (T + 1) (lvS S (cls S T).toNat) (cls S T) (by omega) (by omega) (by omega) (by omega) (by omega) e
          rw [e9_id a1] at this
          rw [hz]
          show Md_decides_21b (Md_decides_21 0) i (lvS S (cls S T).toNat : Nat) (cls S T) 1 ((T : Int) + 1) τ = _
          unfold Md_decides_21b
          rw [if_pos (inb (by omega) (by omega) (by omega)), wrn (n := i + 1) (by omega) (by omega), tk_fr hD.2.2.1 (by omega), wr_id (n := (T : Int) + 1) (by omega) (by omega), wr_id (n := ((fsS S (i + 1) : Nat) : Int)) (by omega) (by omega), if_neg (by omega)]
          unfold ldS
          rw [e9_id a1]
        · have := ih (n2 + 1) (T + 1) (lvS S (cls S T).toNat) (cls S T) (by omega) (by omega) (by omega) (by omega) (by omega) e
          rw [e9_id a1, show (((T + 1 : Nat)) : Int) = (T : Int) + 1 by omega] at this
          exact this
      · rw [if_neg q2, cif_neg q2, md_decides_21z hD hi]
        simp only []
        rw [e9_id a1]
theorem md_decides {rw : Nat → Int} (hD : DM S τ stp bas) (h16 : τ 16 = rw) (hi : i < nS S) : Ex (Md_decides i τ) (fun _ τ' => DP S rw stp bas i τ τ') := by
  have hN := hD.1.n
  have hfs := fsS_le hD.1 (nS S) (Nat.le_refl _)
  have hfi := fsS_le hD.1 (i + 1) (by omega)
  have hm := fsS_mono S (show i ≤ i + 1 by omega)
  unfold Md_decides
  rw [if_pos (inb (by omega) (by omega) (by omega)), if_pos (inb (by omega) (by omega) (by omega)), wrn (a := (i : Int)) rfl (by omega), tk_fr hD.2.2.1 (by omega), (hD.2.2.2.1.2 i (by omega)).1]
  have := md_decides_21 hD hi (fsS S (i + 1) - fsS S i) 100000 (fsS S i) (skS S i).length (-1) (Nat.le_refl _) (by omega) (by omega) (by omega) (Nat.le_refl _) (by unfold skS; rw [List.take_length])
  rw [e9_m1] at this
  rw [this]
  exact md_decides_122 hD h16 hi
/-- a line that is neither blank nor protected -/
def frS (S : Mem) (i : Nat) : Prop := S 2 i ≠ 0 ∧ hdS S i = 0
theorem md_isFree (hD : DM S τ stp bas) (hi : i < nS S) : Md_isFree i τ = some (cif (frS S i) 1 0, τ) := by
  have hN := hD.1.n
  have hv : LnV τ i := LnV_of (by rw [hD.2.1]; exact hD.1) (by rw [hD.2.1]; exact hi)
  have el : τ 1 (21 + i) = S 2 i := by have := aM_len (τ := τ) (i := i) (by have := aM_n τ; rw [hD.2.1] at this; omega); rw [hD.2.1] at this; exact this.symm
  have hh : τ 12 i = hdS S i := hD.2.2.1.1.2.2.1 i hi
  have h01 : hdS S i = 0 ∨ hdS S i = 1 := by unfold hdS; split <;> simp
  unfold Md_isFree
  rw [md_isBlank (by omega) hv, el]
  simp only [Option.bind_some]
  by_cases q : S 2 i = 0
  · rw [if_pos q, wr_1, if_neg (by decide), cif_neg (fun z => z.1 q)]
  · rw [if_neg q, wr_0, if_pos rfl, if_pos (inb (by omega) (by omega) (by omega)), wrn (a := (i : Int)) rfl (by omega), hh, wr_id (n := hdS S i) (by omega) (by omega)]
    by_cases q2 : hdS S i = 0
    · rw [if_pos q2, cif_pos ⟨q, q2⟩]
    · rw [if_neg q2, cif_neg (fun z => q2 z.2)]
end DC3
