/-! ===== splitLine ===== -/
section SP
variable {σ τ : Mem}
theorem exF {b : Nat → Int} {E : Nat} (hb : b (E - 1) ≠ 32) : ∀ (d k : Nat), k + d + 1 = E → ∃ f, k ≤ f ∧ f < E ∧ b f ≠ 32 ∧ ∀ j, k ≤ j → j < f → b j = 32
  | 0, k, h => ⟨k, by omega, by omega, by rw [show k = E - 1 by omega]; exact hb, fun j h1 h2 => by omega⟩
  | d + 1, k, h => by
    by_cases q : b k = 32
    · obtain ⟨f, h1, h2, h3, h4⟩ := exF hb d (k + 1) (by omega)
      refine ⟨f, by omega, h2, h3, fun j h5 h6 => ?_⟩
      by_cases e : j = k
      · subst e; exact q
      · exact h4 j (by omega) h6
    · exact ⟨k, by omega, by omega, q, fun j h1 h2 => by omega⟩
theorem exE {b : Nat → Int} (hb : b 0 ≠ 32) : ∀ (k : Nat), 1 ≤ k → ∃ e, 1 ≤ e ∧ e ≤ k ∧ b (e - 1) ≠ 32 ∧ ∀ j, e ≤ j → j < k → b j = 32
  | 0, h => by omega
  | k + 1, h => by
    by_cases q : b k = 32
    · have hk : 1 ≤ k := Nat.pos_of_ne_zero (fun z => hb (by rw [z] at q; exact q))
      obtain ⟨e, h1, h2, h3, h4⟩ := exE hb k hk
      refine ⟨e, h1, by omega, h3, fun j h5 h6 => ?_⟩
      by_cases e : j = k
      · subst e; exact q
      · exact h4 j h5 (by omega)
    · exact ⟨k + 1, by omega, by omega, q, fun j h1 h2 => by omega⟩
theorem lin_split_9 {i E f k : Nat} (hi : i < 20) (h6 : σ 6 i = E) (hE : E ≤ 32) (hf : f < E) (hr : ∀ j, j < E → 32 ≤ σ 10 (32 * i + j) ∧ σ 10 (32 * i + j) ≤ 126) (hf2 : σ 10 (32 * i + f) ≠ 32) : ∀ (d n x : Nat), x + d = f → d < n → (∀ j, x ≤ j → j < f → σ 10 (32 * i + j) = 32) → Lin_split_9 n i k x σ = (Lin_appendFrom i f ((i : Int) + 1) σ).bind fun q => Lin_split_44 100000 i k q.2 := by
  intro d
  induction d with
  | zero =>
    intro n x hx hn hb
    obtain ⟨n, rfl⟩ : ∃ z, n = z + 1 := ⟨n - 1, by omega⟩
    have hxf : x = f := by omega
    subst hxf
    show Lin_split_9b (Lin_split_9 n) i k x σ = _
    unfold Lin_split_9b
    have := hr x hf
    rw [wr_id (n := (x : Int)) (by omega) (by omega), if_pos (by omega), lin_byteR hi h6 hE (by omega), if_pos hf]
    simp only [Option.bind_some]
    rw [wr_id (n := σ 10 (32 * i + x)) (by omega) (by omega), if_neg hf2]
  | succ d ih =>
    intro n x hx hn hb
    obtain ⟨n, rfl⟩ : ∃ z, n = z + 1 := ⟨n - 1, by omega⟩
    show Lin_split_9b (Lin_split_9 n) i k x σ = _
    unfold Lin_split_9b
    rw [wr_id (n := (x : Int)) (by omega) (by omega), if_pos (by omega), lin_byteR hi h6 hE (by omega), if_pos (by omega)]
    simp only [Option.bind_some]
    rw [hb x (by omega) (by omega), show wr 32 = 32 from by decide, if_pos rfl]
    have := ih n (x + 1) (by omega) (by omega) (fun j h1 h2 => hb j (by omega) h2)
    rw [show (((x + 1 : Nat)) : Int) = (x : Int) + 1 by omega] at this
    exact this
theorem lin_split_44 {i E e : Nat} (hi : i < 20) (h6 : σ 6 i = E) (hE : E ≤ 32) (he : 1 ≤ e) (hr : ∀ j, j < E → 32 ≤ σ 10 (32 * i + j) ∧ σ 10 (32 * i + j) ≤ 126) (he2 : σ 10 (32 * i + (e - 1)) ≠ 32) : ∀ (d n x : Nat), e + d = x → x ≤ E → d < n → (∀ j, e ≤ j → j < x → σ 10 (32 * i + j) = 32) → Lin_split_44 n i x σ = some (0, upM σ 6 i e) := by
  intro d
  induction d with
  | zero =>
    intro n x hx hxE hn hb
    obtain ⟨n, rfl⟩ : ∃ z, n = z + 1 := ⟨n - 1, by omega⟩
    have hxf : e = x := by omega
    subst hxf
    show Lin_split_44b (Lin_split_44 n) i e σ = _
    unfold Lin_split_44b
    have := hr (e - 1) (by omega)
    rw [wr_id (n := (e : Int)) (by omega) (by omega), if_pos (by omega), show (e : Int) - 1 = ((e - 1 : Nat) : Int) by omega, lin_byteR hi h6 hE (by omega), if_pos (by omega)]
    simp only [Option.bind_some]
    rw [wr_id (n := σ 10 (32 * i + (e - 1))) (by omega) (by omega), if_neg he2, rs_5 (by omega) (by omega)]
    simp only [Option.bind_some]
    rw [show ((i : Int)).toNat = i by omega]
  | succ d ih =>
    intro n x hx hxE hn hb
    obtain ⟨n, rfl⟩ : ∃ z, n = z + 1 := ⟨n - 1, by omega⟩
    show Lin_split_44b (Lin_split_44 n) i x σ = _
    unfold Lin_split_44b
    rw [wr_id (n := (x : Int)) (by omega) (by omega), if_pos (by omega), show (x : Int) - 1 = ((x - 1 : Nat) : Int) by omega, show (x : Int) + (-1) = ((x - 1 : Nat) : Int) by omega, lin_byteR hi h6 hE (by omega), if_pos (by omega)]
    simp only [Option.bind_some]
    rw [hb (x - 1) (by omega) (by omega), show wr 32 = 32 from by decide, if_pos rfl]
    exact ih n (x - 1) (by omega) (by omega) (by omega) (fun j h1 h2 => hb j h1 (by omega))
theorem md_contentR {i E k : Nat} (hi : i < 20) (h : τ 1 (21 + i) = E) (hE : E ≤ 32) (hk : k < E) : Md_contentAt i k τ = some (τ 1 (61 + (32 * i + k)), τ) := by
  unfold Md_contentAt
  rw [if_pos (inb (by omega) (by omega) (by omega)), wrn (n := 21 + i) (by omega) (by omega), h, wr_id (n := (k : Int)) (by omega) (by omega), wr_id (n := (E : Int)) (by omega) (by omega), if_pos (by omega), if_pos (inb (by omega) (by omega) (by omega)), wrn (n := 61 + (32 * i + k)) (by omega) (by omega)]
theorem md_split_56 {i E f k : Nat} (hi : i < 20) (h6 : τ 1 (21 + i) = E) (hE : E ≤ 32) (hf : f < E) (hr : ∀ j, j < E → 32 ≤ τ 1 (61 + (32 * i + j)) ∧ τ 1 (61 + (32 * i + j)) ≤ 126) (hf2 : τ 1 (61 + (32 * i + f)) ≠ 32) : ∀ (d n x : Nat), x + d = f → d < n → (∀ j, x ≤ j → j < f → τ 1 (61 + (32 * i + j)) = 32) → Md_splitLine_56 n i k x τ = Md_splitLine_89 100000 i k f ((E - f : Nat) : Int) 0 τ := by
  intro d
  induction d with
  | zero =>
    intro n x hx hn hb
    obtain ⟨n, rfl⟩ : ∃ z, n = z + 1 := ⟨n - 1, by omega⟩
    have hxf : x = f := by omega
    subst hxf
    show Md_splitLine_56b (Md_splitLine_56 n) i k x τ = _
    unfold Md_splitLine_56b
    have := hr x hf
    rw [md_contentR hi h6 hE hf]
    simp only [Option.bind_some]
    rw [wr_id (n := τ 1 (61 + (32 * i + x))) (by omega) (by omega), if_neg hf2, if_pos (inb (by omega) (by omega) (by omega)), wrn (n := 21 + i) (by omega) (by omega), h6, show (E : Int) - (x : Int) = ((E - x : Nat) : Int) by omega]
  | succ d ih =>
    intro n x hx hn hb
    obtain ⟨n, rfl⟩ : ∃ z, n = z + 1 := ⟨n - 1, by omega⟩
    show Md_splitLine_56b (Md_splitLine_56 n) i k x τ = _
    unfold Md_splitLine_56b
    rw [md_contentR hi h6 hE (by omega)]
    simp only [Option.bind_some]
    rw [hb x (by omega) (by omega), show wr 32 = 32 from by decide, if_pos rfl]
    have := ih n (x + 1) (by omega) (by omega) (fun j h1 h2 => hb j (by omega) h2)
    rw [show (((x + 1 : Nat)) : Int) = (x : Int) + 1 by omega] at this
    exact this
theorem md_split_89 {i f k D : Nat} (hi : i + 1 < 20) (hf : f + D ≤ 32) {Q : Int → Mem → Prop} : ∀ (d n x : Nat) (τ : Mem), x + d = D → d < n → (∀ τ', Fr (fun o z => o = 1 ∧ 61 + 32 * (i + 1) + x ≤ z ∧ z < 61 + 32 * (i + 1) + D) τ τ' → (∀ j, x ≤ j → j < D → τ' 1 (61 + (32 * (i + 1) + j)) = τ 1 (61 + (32 * i + (f + j)))) → Ex (Md_splitLine_170 100000 i (upM (upM (upM τ' 1 (21 + (i + 1)) D) 1 (1 + (i + 1)) 0) 1 (21 + i) k)) Q) → Ex (Md_splitLine_89 n i k f D x τ) Q := by
  intro d
  induction d with
  | zero =>
    intro n x τ hx hn kk
    obtain ⟨n, rfl⟩ : ∃ z, n = z + 1 := ⟨n - 1, by omega⟩
    show Ex (Md_splitLine_89b (Md_splitLine_89 n) i k f D x τ) _
    unfold Md_splitLine_89b
    rw [wr_id (n := (x : Int)) (by omega) (by omega), wr_id (n := (D : Int)) (by omega) (by omega), if_neg (by omega), if_pos (inb (by omega) (by omega) (by omega)), wrn (n := 21 + (i + 1)) (by omega) (by omega)]
    refine Ex.lt ?_
    rw [if_pos (inb (by omega) (by omega) (by omega)), wrn (n := 1 + (i + 1)) (by omega) (by omega)]
    refine Ex.lt ?_
    rw [if_pos (inb (by omega) (by omega) (by omega)), wrn (n := 21 + i) (by omega) (by omega)]
    exact Ex.lt (kk τ Fr.rf (fun j h1 h2 => by omega))
  | succ d ih =>
    intro n x τ hx hn kk
    obtain ⟨n, rfl⟩ : ∃ z, n = z + 1 := ⟨n - 1, by omega⟩
    show Ex (Md_splitLine_89b (Md_splitLine_89 n) i k f D x τ) _
    unfold Md_splitLine_89b
    rw [wr_id (n := (x : Int)) (by omega) (by omega), wr_id (n := (D : Int)) (by omega) (by omega), if_pos (by omega), if_pos (inb (by omega) (by omega) (by omega)), if_pos (inb (by omega) (by omega) (by omega)), wrn (n := 61 + (32 * (i + 1) + x)) (by omega) (by omega), wrn (n := 61 + (32 * i + (f + x))) (by omega) (by omega)]
    refine Ex.lt ?_
    have := ih n (x + 1) (upM τ 1 (61 + (32 * (i + 1) + x)) (τ 1 (61 + (32 * i + (f + x))))) (by omega) (by omega) (fun τ' hf2 hv => kk τ' (fun o z q => ?_) (fun j h1 h2 => ?_))
    · rw [show (((x + 1 : Nat)) : Int) = (x : Int) + 1 by omega] at this
      exact this
    · rw [hf2 o z (by omega)]
      simp only [upM]
      rw [if_neg (by omega)]
    · by_cases e : j = x
      · subst e
        rw [hf2 1 _ (by omega)]
        simp only [upM]
        rw [if_pos ⟨trivial, trivial⟩]
      · rw [hv j (by omega) h2]
        simp only [upM]
        rw [if_neg (by omega)]
/-- what comes behind the split -/
noncomputable def spT (i : Int) (τ : Mem) : Option (Int × Mem) := (if 0 ≤ wr 977 ∧ wr 977 < (10780 : Int) then (if 0 ≤ wr 978 ∧ wr 978 < (10780 : Int) then ((Md_uses (τ 1 (wr 977).toNat) (τ 1 (wr 978).toNat) τ).bind fun q11 => (Md_isFree (i + 1) q11.2).bind fun q12 => if wr q12.1 = 0 then (if 0 ≤ wr ((1 + i) + 1) ∧ wr ((1 + i) + 1) < (10780 : Int) then (some ((q12.2 1 (wr ((1 + i) + 1)).toNat), q12.2)) else none) else ((Md_decides (i + 1) q12.2).bind fun q13 => if 0 ≤ wr ((1 + i) + 1) ∧ wr ((1 + i) + 1) < (10780 : Int) then (letM (upM q13.2 1 (wr ((1 + i) + 1)).toNat (q13.2 0 24)) fun s14 => if 0 ≤ wr ((1 + i) + 1) ∧ wr ((1 + i) + 1) < (10780 : Int) then (some ((s14 1 (wr ((1 + i) + 1)).toNat), s14)) else none) else none)) else none) else none)
theorem md_split_170 {i e : Nat} (hi : i < 20) (he : 1 ≤ e) {Q : Int → Mem → Prop} : ∀ (d n x : Nat) (τ : Mem), τ 1 (21 + i) = x → e + d = x → x ≤ 32 → d < n → (∀ j, j < x → 32 ≤ τ 1 (61 + (32 * i + j)) ∧ τ 1 (61 + (32 * i + j)) ≤ 126) → (∀ j, e ≤ j → j < x → τ 1 (61 + (32 * i + j)) = 32) → τ 1 (61 + (32 * i + (e - 1))) ≠ 32 → (∀ τ', Fr (fun o z => o = 1 ∧ z = 21 + i) τ τ' → τ' 1 (21 + i) = e → Ex (spT i τ') Q) → Ex (Md_splitLine_170 n i τ) Q := by
  intro d
  induction d with
  | zero =>
    intro n x τ h6 hx hxE hn hr hb he2 kk
    obtain ⟨n, rfl⟩ : ∃ z, n = z + 1 := ⟨n - 1, by omega⟩
    have hxf : e = x := by omega
    subst hxf
    show Ex (Md_splitLine_170b (Md_splitLine_170 n) i τ) _
    unfold Md_splitLine_170b
    have := hr (e - 1) (by omega)
    rw [if_pos (inb (by omega) (by omega) (by omega)), wrn (n := 21 + i) (by omega) (by omega), h6, show (e : Int) - 1 = ((e - 1 : Nat) : Int) by omega, md_contentR hi h6 hxE (by omega)]
    simp only [Option.bind_some]
    rw [wr_id (n := τ 1 (61 + (32 * i + (e - 1)))) (by omega) (by omega), if_neg he2]
    exact kk τ Fr.rf h6
  | succ d ih =>
    intro n x τ h6 hx hxE hn hr hb he2 kk
    obtain ⟨n, rfl⟩ : ∃ z, n = z + 1 := ⟨n - 1, by omega⟩
    show Ex (Md_splitLine_170b (Md_splitLine_170 n) i τ) _
    unfold Md_splitLine_170b
    rw [if_pos (inb (by omega) (by omega) (by omega)), wrn (n := 21 + i) (by omega) (by omega), h6, show (x : Int) - 1 = ((x - 1 : Nat) : Int) by omega, md_contentR hi h6 hxE (by omega)]
    simp only [Option.bind_some]
    rw [hb (x - 1) (by omega) (by omega), show wr 32 = 32 from by decide, if_pos rfl, if_pos (inb (by omega) (by omega) (by omega)), if_pos (inb (by omega) (by omega) (by omega)), h6, show (x : Int) - 1 = ((x - 1 : Nat) : Int) by omega]
    have k1 : ∀ j, j < 32 → upM τ 1 (21 + i) ((x - 1 : Nat) : Int) 1 (61 + (32 * i + j)) = τ 1 (61 + (32 * i + j)) := fun j hj => by simp only [upM]; rw [if_neg (by omega)]
    refine Ex.lt (ih n (x - 1) (upM τ 1 (21 + i) ((x - 1 : Nat) : Int)) (by simp [upM]) (by omega) (by omega) (by omega) (fun j hj => by rw [k1 j (by omega)]; exact hr j (by omega)) (fun j h1 h2 => by rw [k1 j (by omega)]; exact hb j h1 (by omega)) (by rw [k1 _ (by omega)]; exact he2) (fun τ' z1 z2 => kk τ' (fun o z q => ?_) z2))
    rw [z1 o z q]
    simp only [upM]
    rw [if_neg q]
/-- the lines behind a split: what the class and the reference have then -/
theorem sp_R {σ1 τ1 σ3 τ3 : Mem} {i E e f N : Nat} (hl : ∀ j, j < N → lnR σ1 τ1 j) (hi : i < N) (hN : N < 20) (hE : σ1 6 i = E) (he : 1 ≤ e) (hef : e ≤ f) (hf : f < E) (he2 : σ1 10 (32 * i + (e - 1)) ≠ 32) (hf2 : σ1 10 (32 * i + f) ≠ 32)
    (c1 : ∀ j, j < i → lnQ σ3 j σ1 j) (c2 : ∀ j, i + 1 < j → j ≤ N → lnQ σ3 j σ1 (j - 1)) (c3 : σ3 4 i = σ1 4 i ∧ σ3 6 i = e ∧ σ3 8 i = σ1 8 i ∧ ∀ k, k < e → σ3 10 (32 * i + k) = σ1 10 (32 * i + k)) (c4 : σ3 4 (i + 1) = 0 ∧ σ3 6 (i + 1) = ((E - f : Nat) : Int) ∧ σ3 8 (i + 1) = 0 ∧ ∀ k, k < E - f → σ3 10 (32 * (i + 1) + k) = σ1 10 (32 * i + (f + k)))
    (m1 : ∀ j, j < i → lnP τ3 j τ1 j) (m2 : ∀ j, i + 1 < j → j ≤ N → lnP τ3 j τ1 (j - 1)) (m3 : τ3 1 (1 + i) = τ1 1 (1 + i) ∧ τ3 1 (21 + i) = e ∧ τ3 1 (41 + i) = τ1 1 (41 + i) ∧ ∀ k, k < e → τ3 1 (61 + (32 * i + k)) = τ1 1 (61 + (32 * i + k))) (m4 : τ3 1 (1 + (i + 1)) = 0 ∧ τ3 1 (21 + (i + 1)) = ((E - f : Nat) : Int) ∧ τ3 1 (41 + (i + 1)) = 0 ∧ ∀ k, k < E - f → τ3 1 (61 + (32 * (i + 1) + k)) = τ1 1 (61 + (32 * i + (f + k)))) : ∀ j, j < N + 1 → lnR σ3 τ3 j := by
  obtain ⟨a1, a2, a3, a4, l1, l2, l3, l4, l5, l6⟩ := hl i hi
  rw [hE] at l2 l5 l6 a4
  have l5' := l5 (by omega)
  simp only [] at l5'
  rw [show ((E : Int) - 1).toNat = E - 1 by omega] at l5'
  intro j hj
  by_cases q1 : j < i
  · exact (hl j (by omega)).mv (c1 j q1) (m1 j q1)
  · by_cases q2 : j = i
    · subst q2
      obtain ⟨x1, x2, x3, x4⟩ := c3
      obtain ⟨y1, y2, y3, y4⟩ := m3
      refine ⟨by rw [x1, y1, a1], by rw [x2, y2], by rw [x3, y3, a3], fun k hk => ?_, by rw [x1]; exact l1, by rw [x2]; omega, by rw [x3]; exact l3, fun z => by rw [x2] at z; omega, fun z => ?_, fun k hk => ?_⟩
      · rw [x2] at hk; rw [x4 k (by omega), y4 k (by omega)]; exact a4 k (by omega)
      · show σ3 10 (32 * j + 0) ≠ 32 ∧ σ3 10 (32 * j + (σ3 6 j - 1).toNat) ≠ 32
        rw [x2, show ((e : Int) - 1).toNat = e - 1 by omega, x4 0 (by omega), x4 (e - 1) (by omega)]
        exact ⟨l5'.1, he2⟩
      · rw [x2] at hk
        show 32 ≤ σ3 10 (32 * j + k) ∧ σ3 10 (32 * j + k) ≤ 126
        rw [x4 k (by omega)]; exact l6 k (by omega)
    · by_cases q3 : j = i + 1
      · subst q3
        obtain ⟨x1, x2, x3, x4⟩ := c4
        obtain ⟨y1, y2, y3, y4⟩ := m4
        refine ⟨by rw [x1, y1], by rw [x2, y2], by rw [x3, y3], fun k hk => ?_, by rw [x1]; omega, by rw [x2]; omega, by rw [x3]; exact Or.inl rfl, fun z => x1, fun z => ?_, fun k hk => ?_⟩
        · rw [x2] at hk; rw [x4 k (by omega), y4 k (by omega)]; exact a4 (f + k) (by omega)
        · show σ3 10 (32 * (i + 1) + 0) ≠ 32 ∧ σ3 10 (32 * (i + 1) + (σ3 6 (i + 1) - 1).toNat) ≠ 32
          rw [x2, show (((E - f : Nat) : Int) - 1).toNat = E - f - 1 by omega, x4 0 (by omega), x4 (E - f - 1) (by omega), show f + (E - f - 1) = E - 1 by omega, Nat.add_zero]
          exact ⟨hf2, l5'.2⟩
        · rw [x2] at hk
          show 32 ≤ σ3 10 (32 * (i + 1) + k) ∧ σ3 10 (32 * (i + 1) + k) ≤ 126
          rw [x4 k (by omega)]; exact l6 (f + k) (by omega)
      · exact (hl (j - 1) (by omega)).mv (c2 j (by omega) (by omega)) (m2 j (by omega) (by omega))
end SP
