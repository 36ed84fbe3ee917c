/-! ===== the reference follows the blocks ===== -/
def FB (o k : Nat) : Prop := (8 ≤ o ∧ o ≤ 10) ∨ (13 ≤ o ∧ o ≤ 15) ∨ (o = 0 ∧ 18 ≤ k ∧ k ≤ 20)
theorem FB_1 {τ τ' : Mem} (h : Fr FB τ τ') : τ' 1 = τ 1 := by funext k; exact h 1 k (by unfold FB; omega)
theorem FB_A {τ τ' : Mem} (h : Fr FB τ τ') (j : Nat) : absM τ' j = absM τ j := absM_congr (FB_1 h) j
theorem FB_T {S τ τ' : Mem} (h : Fr FB τ τ') (hT : TkM S τ) : TkM S τ' := by
  have e : ∀ o, (4 ≤ o ∧ o ≤ 7) ∨ o = 11 ∨ o = 12 → τ' o = τ o := fun o ho => by funext k; exact h o k (by unfold FB; omega)
  have e0 : τ' 0 12 = τ 0 12 := h 0 12 (by unfold FB; omega)
  unfold TkM
  rw [e 4 (by omega), e 5 (by omega), e 6 (by omega), e 7 (by omega), e 11 (by omega), e 12 (by omega), e0]
  exact hT
/-- the reference's rows hold the blocks b, with the tokens below T -/
def BM (T : Nat) (b : BSt) (τ : Mem) : Prop := τ 0 18 = b.1.length ∧ (∀ k, k < b.1.length → τ 15 k = b.1.getD k 0) ∧ (∀ u, u < T → τ 8 u = e9 (b.2.1 u) ∧ τ 9 u = e9 (b.2.2.1 u) ∧ τ 10 u = e9 (b.2.2.2.1 u)) ∧ τ 0 19 = b.2.2.2.2.1 ∧ τ 0 20 = b.2.2.2.2.2
theorem e9_id {x : Int} (h : 0 ≤ x) : e9 x = x := by unfold e9; rw [if_neg (by omega)]
def FH (o k : Nat) : Prop := (9 ≤ o ∧ o ≤ 10) ∨ (o = 0 ∧ 18 ≤ k ∧ k ≤ 20)
theorem FH_B {τ τ' : Mem} (h : Fr FH τ τ') : Fr FB τ τ' := h.mono (fun o k z => by unfold FH at z; unfold FB; omega)
section SH
variable {S τ : Mem} {T : Nat} {b : BSt}
theorem stk_at (hb : bOk S T b) (hB : BM (T + 1) b τ) {k : Nat} (hk : k < b.1.length) : τ 15 k = (b.1.getD k 0 : Nat) ∧ b.1.getD k 0 < T ∧ τ 8 (b.1.getD k 0) = b.2.1 (b.1.getD k 0) ∧ 0 ≤ b.2.1 (b.1.getD k 0) ∧ b.2.1 (b.1.getD k 0) < 12 ∧ S 5 (b.2.1 (b.1.getD k 0)).toNat = 1 := by
  have hm := getD_mem hk
  obtain ⟨h1, h2⟩ := hb.2.1 _ hm
  have h3 := hb.2.2.1 (b.1.getD k 0)
  have h4 := (hB.2.2.1 (b.1.getD k 0) (by omega)).1
  rw [e9_id h2] at h4
  refine ⟨hB.2.1 k hk, h1, h4, h2, by omega, ?_⟩
  rcases h3 with z | z
  · omega
  · exact z.2.2.1
theorem md_prec (hS : SV S) (hA : absM τ 0 = S) {r : Int} (h0 : 0 ≤ r) (h1 : r < 12) (hs : S 5 r.toNat ≠ 0) : Md_ruleAt r 1 τ = some (S 6 r.toNat, τ) := by
  have := md_ra1 (τ := τ) (r := r.toNat) (by omega)
  rw [show ((r.toNat : Nat) : Int) = r by omega] at this
  rw [this]
  have e := aM_prec (τ := τ) (r := r.toNat) (by omega) (by rw [hA]; exact hs)
  rw [hA] at e
  rw [e, show 702 + 23 * r.toNat = 701 + 23 * r.toNat + 1 by omega]
theorem md_shuts_7 (hS : SV S) (hA : absM τ 0 = S) (hT : TkM S τ) (hTn : T < fsS S (nS S)) (hb : bOk S T b) (hB : BM (T + 1) b τ) : ∀ (m n : Nat), m ≤ b.1.length → m < n → Md_shuts_7 n T ((m : Int) - 1) τ = Md_shuts_38 T (fnd S T b.2.1 b.1 m) τ := by
  have hN := hS.n
  have hfs := fsS_le hS (nS S) (Nat.le_refl _)
  have h12 := hb.1
  intro m
  induction m with
  | zero =>
    intro n hm hn
    obtain ⟨n, rfl⟩ : ∃ z, n = z + 1 := ⟨n - 1, by omega⟩
    show Md_shuts_7b (Md_shuts_7 n) T (((0 : Nat) : Int) - 1) τ = _
    unfold Md_shuts_7b
    rw [wr_id (by omega) (by omega), if_pos (by omega)]
    rfl
  | succ m ih =>
    intro n hm hn
    obtain ⟨n, rfl⟩ : ∃ z, n = z + 1 := ⟨n - 1, by omega⟩
    obtain ⟨a1, a2, a3, a4, a5, a6⟩ := stk_at hb hB (k := m) (by omega)
    rw [show (((m + 1 : Nat)) : Int) - 1 = (m : Int) by omega]
    show Md_shuts_7b (Md_shuts_7 n) T m τ = _
    unfold Md_shuts_7b
    have hh := md_hasText hS hA hT hTn (r := (b.2.1 (b.1.getD m 0)).toNat) (w := 1) (by omega) (by omega) (by omega) (Or.inr a6)
    rw [show (5 + 9 * ((1 : Nat) : Int)) = 14 from rfl, show (((b.2.1 (b.1.getD m 0)).toNat : Nat) : Int) = b.2.1 (b.1.getD m 0) by omega] at hh
    rw [wr_id (n := (m : Int)) (by omega) (by omega), if_neg (by omega), if_pos (by omega), show ((m : Int)).toNat = m by omega, a1, if_pos (inb (by omega) (by omega) (by omega)), wrn (a := ((b.1.getD m 0 : Nat) : Int)) rfl (by omega), a3, hh]
    simp only [Option.bind_some]
    by_cases q : hasT S (b.2.1 (b.1.getD m 0)).toNat 1 T
    · rw [cif_pos q, wr_1, if_neg (by decide)]
      unfold fnd
      rw [cif_pos q]
    · rw [cif_neg q, wr_0, if_pos rfl]
      have := ih n (by omega) (by omega)
      rw [show (m : Int) + -1 = (m : Int) - 1 by omega, this]
      conv => rhs; unfold fnd
      rw [cif_neg q]
theorem md_shuts_53z {n : Nat} (lv j : Int) : Md_shuts_53 (n + 1) T lv 0 j τ = Md_shuts_114 T lv 0 τ := by
  show Md_shuts_53b (Md_shuts_53 n) T lv 0 j τ = _
  unfold Md_shuts_53b
  rw [wr_0, if_pos rfl]
  split <;> rfl
theorem md_shuts_53 (hS : SV S) (hA : absM τ 0 = S) (hb : bOk S T b) (hB : BM (T + 1) b τ) {lv : Nat} (hlv : lv < b.1.length) (hTn : T < 641) : ∀ (m n j : Nat), j + m = b.1.length → m < n → lv < j → (∀ i : Nat, lv < i → i < j → S 6 (b.2.1 (b.1.getD i 0)).toNat < S 6 (b.2.1 (b.1.getD lv 0)).toNat) →
    Md_shuts_53 n T lv 1 j τ = Md_shuts_114 T lv (cif (mayS S b.2.1 b.1 lv) 1 0) τ := by
  have h12 := hb.1
  obtain ⟨l1, l2, l3, l4, l5, l6⟩ := stk_at hb hB hlv
  have lp := hS.prec (r := (b.2.1 (b.1.getD lv 0)).toNat) (by omega) (by omega)
  intro m
  induction m with
  | zero =>
    intro n j hjm hn hlj hp
    obtain ⟨n, rfl⟩ : ∃ z, n = z + 1 := ⟨n - 1, by omega⟩
    have hmay : mayS S b.2.1 b.1 lv := ⟨by omega, fun i h1 h2 => by rw [show ((lv : Int)).toNat = lv by omega]; exact hp i (by omega) (by omega)⟩
    rw [cif_pos hmay]
    show Md_shuts_53b (Md_shuts_53 n) T lv 1 j τ = _
    unfold Md_shuts_53b
    rw [hB.1, wr_id (n := (j : Int)) (by omega) (by omega), wr_id (n := (b.1.length : Int)) (by omega) (by omega), if_neg (by omega)]
  | succ m ih =>
    intro n j hjm hn hlj hp
    obtain ⟨n, rfl⟩ : ∃ z, n = z + 1 := ⟨n - 1, by omega⟩
    obtain ⟨a1, a2, a3, a4, a5, a6⟩ := stk_at hb hB (k := j) (by omega)
    have ap := hS.prec (r := (b.2.1 (b.1.getD j 0)).toNat) (by omega) (by omega)
    show Md_shuts_53b (Md_shuts_53 n) T lv 1 j τ = _
    unfold Md_shuts_53b
    rw [hB.1, wr_id (n := (j : Int)) (by omega) (by omega), wr_id (n := (b.1.length : Int)) (by omega) (by omega), if_pos (by omega), wr_1, if_neg (by decide), if_pos (by omega), show ((j : Int)).toNat = j by omega, a1, if_pos (inb (by omega) (by omega) (by omega)), wrn (a := ((b.1.getD j 0 : Nat) : Int)) rfl (by omega), a3, md_prec hS hA a4 a5 (by omega)]
    simp only [Option.bind_some]
    rw [wr_id (n := (lv : Int)) (by omega) (by omega), if_pos (by omega), show ((lv : Int)).toNat = lv by omega, l1, if_pos (inb (by omega) (by omega) (by omega)), wrn (a := ((b.1.getD lv 0 : Nat) : Int)) rfl (by omega), l3, md_prec hS hA l4 l5 (by omega)]
    simp only [Option.bind_some]
    rw [wr_id (n := S 6 (b.2.1 (b.1.getD j 0)).toNat) (by omega) (by omega), wr_id (n := S 6 (b.2.1 (b.1.getD lv 0)).toNat) (by omega) (by omega)]
    by_cases q : S 6 (b.2.1 (b.1.getD j 0)).toNat < S 6 (b.2.1 (b.1.getD lv 0)).toNat
    · rw [if_pos q]
      have := ih n (j + 1) (by omega) (by omega) (by omega) (fun i h1 h2 => by
        by_cases e : i = j
        · subst e; exact q
        · exact hp i h1 (by omega))
      rw [show (((j + 1 : Nat)) : Int) = (j : Int) + 1 by omega] at this
      exact this
    · rw [if_neg q]
      obtain ⟨n2, rfl⟩ : ∃ z, n = z + 1 := ⟨n - 1, by omega⟩
      rw [md_shuts_53z, cif_neg (fun z => q (by have := z.2 j (by omega) (by omega); rw [show ((lv : Int)).toNat = lv by omega] at this; exact this))]
theorem md_shuts (hS : SV S) (hA : absM τ 0 = S) (hT : TkM S τ) (hTn : T < fsS S (nS S)) (hb : bOk S T b) (hB : BM (T + 1) b τ) : Ex (Md_shuts T τ) (fun _ τ' => Fr FH τ τ' ∧ BM (T + 1) (clS S T b) τ') := by
  have hN := hS.n
  have hfs := fsS_le hS (nS S) (Nat.le_refl _)
  have h12 := hb.1
  have hr := fnd_rng S T b.2.1 b.1 b.1.length
  unfold Md_shuts
  rw [hB.1, md_shuts_7 hS hA hT hTn hb hB b.1.length 100000 (Nat.le_refl _) (by omega)]
  unfold Md_shuts_38
  have zero : Ex (Md_shuts_114 T (fnd S T b.2.1 b.1 b.1.length) 0 τ) (fun _ τ' => Fr FH τ τ' ∧ BM (T + 1) (b.1, b.2.1, b.2.2.1, b.2.2.2.1, b.2.2.2.2.1 + cif (isCl S T 12) 1 0, b.2.2.2.2.2) τ') := by
    unfold Md_shuts_114
    rw [wr_0, if_pos rfl, md_isClosingText hS hA hT hTn]
    simp only [Option.bind_some]
    by_cases z : isCl S T 12
    · rw [cif_pos z, wr_1, if_neg (by decide)]
      refine Ex.lt (Ex.ret ⟨Fr.up Fr.rf (by unfold FH; omega), ?_⟩)
      obtain ⟨b1, b2, b3, b4, b5⟩ := hB
      refine ⟨by simpa [upM] using b1, fun k hk => by simpa [upM] using b2 k hk, fun u hu => by simpa [upM] using b3 u hu, by simp [upM, b4], by simpa [upM] using b5⟩
    · rw [cif_neg z, wr_0, if_pos rfl]
      obtain ⟨b1, b2, b3, b4, b5⟩ := hB
      exact Ex.ret ⟨Fr.rf, b1, b2, b3, by simp [b4], b5⟩
  by_cases q : fnd S T b.2.1 b.1 b.1.length = -1
  · have hm : ¬ mayS S b.2.1 b.1 (fnd S T b.2.1 b.1 b.1.length) := fun z => by have := z.1; omega
    unfold clS
    rw [cif_neg hm]
    rw [q] at zero ⊢
    rw [show wr (-1) = -1 from by decide, if_pos (by decide), show ((100000 : Nat)) = 99999 + 1 from rfl, md_shuts_53z]
    exact zero
  · have h0 : 0 ≤ fnd S T b.2.1 b.1 b.1.length ∧ fnd S T b.2.1 b.1 b.1.length < b.1.length := by omega
    obtain ⟨lv, hlv⟩ : ∃ z : Nat, fnd S T b.2.1 b.1 b.1.length = (z : Int) := ⟨(fnd S T b.2.1 b.1 b.1.length).toNat, by omega⟩
    unfold clS
    rw [hlv] at zero h0 ⊢
    rw [wr_id (n := (lv : Int)) (by omega) (by omega), if_neg (by omega)]
    have hl : lv < b.1.length := by omega
    obtain ⟨l1, l2, l3, l4, l5, l6⟩ := stk_at hb hB hl
    have := md_shuts_53 hS hA hb hB hl (by omega) (b.1.length - (lv + 1)) 100000 (lv + 1) (by omega) (by omega) (by omega) (fun i h1 h2 => by omega)
    rw [show (((lv + 1 : Nat)) : Int) = (lv : Int) + 1 by omega] at this
    rw [this]
    by_cases hm : mayS S b.2.1 b.1 lv
    · rw [cif_pos hm, cif_pos hm, show ((lv : Int)).toNat = lv by omega]
      unfold Md_shuts_114
      rw [wr_1, if_neg (by decide), if_pos (inb (by omega) (by omega) (by omega)), if_pos (inb (by omega) (by omega) (by omega)), wrn (a := (lv : Int)) rfl (by omega), wrn (a := (T : Int)) rfl (by omega), l1]
      refine Ex.lt ?_
      have e15 : ∀ k, upM τ 9 T ((b.1.getD lv 0 : Nat) : Int) 15 k = τ 15 k := fun k => by simp [upM]
      rw [if_pos (inb (by omega) (by omega) (by omega)), e15, l1, if_pos (inb (by omega) (by omega) (by omega)), wrn (a := ((b.1.getD lv 0 : Nat) : Int)) rfl (by omega)]
      refine Ex.lt (Ex.lt (Ex.lt (Ex.ret ⟨Fr.up (Fr.up (Fr.up (Fr.up Fr.rf (by unfold FH; omega)) (by unfold FH; omega)) (by unfold FH; omega)) (by unfold FH; omega), ?_⟩)))
      obtain ⟨b1, b2, b3, b4, b5⟩ := hB
      refine ⟨?_, fun k hk => ?_, fun u hu => ⟨?_, ?_, ?_⟩, ?_, ?_⟩
      · simp [upM]; omega
      · have hk2 : k < lv := by simp at hk; omega
        have := b2 k (by omega)
        simp [upM]
        rw [this]
        simp [hk2]
      · have := (b3 u hu).1; simpa [upM] using this
      · have := (b3 u hu).2.1
        by_cases e : u = T
        · subst e; simp [upM, up1]; rw [e9_id (by omega)]
        · simp [upM, up1, e]; exact this
      · have := (b3 u hu).2.2
        by_cases e : u = b.1.getD lv 0
        · rw [e]; simp [upM, up1]; rw [e9_id (by omega)]
        · simp only [List.getD_eq_getElem?_getD] at e ⊢
          simp [upM, up1, e]; exact this
      · simpa [upM] using b4
      · simp [upM, b5, b1]
    · rw [cif_neg hm, cif_neg hm]
      exact zero
end SH
