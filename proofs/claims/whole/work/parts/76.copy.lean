/-! ===== whole states are copied ===== -/
def stL : List Nat := [1, 36, 61, 86, 111, 136, 161, 186, 211, 237, 262]
theorem lnSta : ∀ o ∈ stL, lnA (o + 3) = 20 ∧ lnA (o + 5) = 20 ∧ lnA (o + 7) = 20 ∧ lnA (o + 9) = 640 ∧ lnA (o + 12) = 12 ∧ lnA (o + 14) = 12 ∧ lnA (o + 16) = 12 ∧ lnA (o + 18) = 12 ∧ lnA (o + 20) = 12 ∧ lnA (o + 22) = 24 ∧ lnA (o + 24) = 192 := by decide +kernel
theorem row_copyE {o o2 n : Nat} (h1 : lnA (o + 1) = n) (h2 : lnA (o2 + 1) = n) (hn : n ≤ 10000) (σ : Mem) : ∃ σ', Row_copy o o2 σ = some (0, σ') ∧ (∀ k, k < n → σ' (o + 1) k = σ (o2 + 1) k) ∧ ∀ x k, x ≠ o + 1 → σ' x k = σ x k := by
  refine ⟨cpM σ (o2 + 1) (o + 1) n, ?_, fun k hk => ?_, fun x k hx => ?_⟩
  · unfold Row_copy
    have e : mminI (n : Int) (n : Int) = n := by unfold mminI; rw [if_neg (by omega)]
    rw [h1, h2, e, wr_id (n := (n : Int)) (by omega) (by omega), if_pos (by omega), show ((n : Int)).toNat = n by omega]
    rfl
  · unfold cpM; rw [if_pos ⟨rfl, hk⟩]
  · unfold cpM; rw [if_neg (fun z => hx z.1)]
theorem sta_copy {o o2 : Nat} (ho : o ∈ stL) (ho2 : o2 ∈ stL) (hd : o + 25 ≤ o2 ∨ o2 + 25 ≤ o) (σ : Mem) : ∃ σ', Sta_copy o o2 σ = some (0, σ') ∧ (∀ x k, (x < o ∨ o + 25 ≤ x) → σ' x k = σ x k) ∧ (σ' (o + 1) 0 = σ (o2 + 1) 0 ∧ σ' o 2 = σ o2 2 ∧ σ' o 3 = σ o2 3 ∧ σ' o 4 = σ o2 4) ∧ (∀ k, k < 20 → σ' (o + 3) k = σ (o2 + 3) k) ∧ (∀ k, k < 20 → σ' (o + 5) k = σ (o2 + 5) k) ∧ (∀ k, k < 20 → σ' (o + 7) k = σ (o2 + 7) k) ∧ (∀ k, k < 640 → σ' (o + 9) k = σ (o2 + 9) k) ∧ (∀ k, k < 12 → σ' (o + 12) k = σ (o2 + 12) k) ∧ (∀ k, k < 12 → σ' (o + 14) k = σ (o2 + 14) k) ∧ (∀ k, k < 12 → σ' (o + 16) k = σ (o2 + 16) k) ∧ (∀ k, k < 12 → σ' (o + 18) k = σ (o2 + 18) k) ∧ (∀ k, k < 12 → σ' (o + 20) k = σ (o2 + 20) k) ∧ (∀ k, k < 24 → σ' (o + 22) k = σ (o2 + 22) k) ∧ (∀ k, k < 192 → σ' (o + 24) k = σ (o2 + 24) k) := by
  have hl := lnSta o ho
  have hl2 := lnSta o2 ho2
  obtain ⟨s1, e1, v1, f1⟩ := row_copyE (o := o + 2) (o2 := o2 + 2) (n := 20) hl.1 hl2.1 (by omega) (upM σ (o + 1) 0 (σ (o2 + 1) 0))
  obtain ⟨s2, e2, v2, f2⟩ := row_copyE (o := o + 4) (o2 := o2 + 4) (n := 20) hl.2.1 hl2.2.1 (by omega) s1
  obtain ⟨s3, e3, v3, f3⟩ := row_copyE (o := o + 6) (o2 := o2 + 6) (n := 20) hl.2.2.1 hl2.2.2.1 (by omega) s2
  obtain ⟨s4, e4, v4, f4⟩ := row_copyE (o := o + 8) (o2 := o2 + 8) (n := 640) hl.2.2.2.1 hl2.2.2.2.1 (by omega) s3
  obtain ⟨s5, e5, v5, f5⟩ := row_copyE (o := o + 11) (o2 := o2 + 11) (n := 12) hl.2.2.2.2.1 hl2.2.2.2.2.1 (by omega) s4
  obtain ⟨s6, e6, v6, f6⟩ := row_copyE (o := o + 13) (o2 := o2 + 13) (n := 12) hl.2.2.2.2.2.1 hl2.2.2.2.2.2.1 (by omega) s5
  obtain ⟨s7, e7, v7, f7⟩ := row_copyE (o := o + 15) (o2 := o2 + 15) (n := 12) hl.2.2.2.2.2.2.1 hl2.2.2.2.2.2.2.1 (by omega) s6
  obtain ⟨s8, e8, v8, f8⟩ := row_copyE (o := o + 17) (o2 := o2 + 17) (n := 12) hl.2.2.2.2.2.2.2.1 hl2.2.2.2.2.2.2.2.1 (by omega) s7
  obtain ⟨s9, e9, v9, f9⟩ := row_copyE (o := o + 19) (o2 := o2 + 19) (n := 12) hl.2.2.2.2.2.2.2.2.1 hl2.2.2.2.2.2.2.2.2.1 (by omega) s8
  obtain ⟨s10, e10, v10, f10⟩ := row_copyE (o := o + 21) (o2 := o2 + 21) (n := 24) hl.2.2.2.2.2.2.2.2.2.1 hl2.2.2.2.2.2.2.2.2.2.1 (by omega) s9
  obtain ⟨s11, e11, v11, f11⟩ := row_copyE (o := o + 23) (o2 := o2 + 23) (n := 192) hl.2.2.2.2.2.2.2.2.2.2 hl2.2.2.2.2.2.2.2.2.2.2 (by omega) s10
  have g0 : ∀ x k, x ≠ o + 1 → (upM σ (o + 1) 0 (σ (o2 + 1) 0)) x k = σ x k := fun x k h => by simp only [upM]; rw [if_neg (fun z => h z.1)]
  have fa : ∀ x k, (x ≠ o + 1 ∧ x ≠ o + 3 ∧ x ≠ o + 5 ∧ x ≠ o + 7 ∧ x ≠ o + 9 ∧ x ≠ o + 12 ∧ x ≠ o + 14 ∧ x ≠ o + 16 ∧ x ≠ o + 18 ∧ x ≠ o + 20 ∧ x ≠ o + 22 ∧ x ≠ o + 24) → s11 x k = σ x k := fun x k h => by rw [f11 x k (by omega), f10 x k (by omega), f9 x k (by omega), f8 x k (by omega), f7 x k (by omega), f6 x k (by omega), f5 x k (by omega), f4 x k (by omega), f3 x k (by omega), f2 x k (by omega), f1 x k (by omega), g0 x k (by omega)]
  have fF : ∀ x k, x ≠ o → (upM (upM (upM s11 o 2 (s11 o2 2)) o 3 (s11 o2 3)) o 4 (s11 o2 4)) x k = s11 x k := fun x k h => by simp only [upM]; rw [if_neg (fun z => h z.1), if_neg (fun z => h z.1), if_neg (fun z => h z.1)]
  refine ⟨(upM (upM (upM s11 o 2 (s11 o2 2)) o 3 (s11 o2 3)) o 4 (s11 o2 4)), ?_, ?_, ⟨?_, ?_, ?_, ?_⟩, ?_, ?_, ?_, ?_, ?_, ?_, ?_, ?_, ?_, ?_, ?_⟩
  · unfold Sta_copy Lin_copy Rul_copy letM
    simp only []
    rw [show Row_copy (o + 1 + 1) (o2 + 1 + 1) (upM σ (o + 1) 0 (σ (o2 + 1) 0)) = _ from e1]
    simp only [Option.bind_some]
    rw [show Row_copy (o + 1 + 3) (o2 + 1 + 3) s1 = _ from e2]
    simp only [Option.bind_some]
    rw [show Row_copy (o + 1 + 5) (o2 + 1 + 5) s2 = _ from e3]
    simp only [Option.bind_some]
    rw [show Row_copy (o + 1 + 7) (o2 + 1 + 7) s3 = _ from e4]
    simp only [Option.bind_some]
    rw [show Row_copy (o + 10 + 1) (o2 + 10 + 1) s4 = _ from e5]
    simp only [Option.bind_some]
    rw [show Row_copy (o + 10 + 3) (o2 + 10 + 3) s5 = _ from e6]
    simp only [Option.bind_some]
    rw [show Row_copy (o + 10 + 5) (o2 + 10 + 5) s6 = _ from e7]
    simp only [Option.bind_some]
    rw [show Row_copy (o + 10 + 7) (o2 + 10 + 7) s7 = _ from e8]
    simp only [Option.bind_some]
    rw [show Row_copy (o + 10 + 9) (o2 + 10 + 9) s8 = _ from e9]
    simp only [Option.bind_some]
    rw [show Row_copy (o + 10 + 11) (o2 + 10 + 11) s9 = _ from e10]
    simp only [Option.bind_some]
    rw [show Row_copy (o + 10 + 13) (o2 + 10 + 13) s10 = _ from e11]
    simp only [Option.bind_some]
    have h3 : upM s11 o 2 (s11 o2 2) o2 3 = s11 o2 3 := by simp only [upM]; rw [if_neg (by omega)]
    have h4 : upM (upM s11 o 2 (s11 o2 2)) o 3 (s11 o2 3) o2 4 = s11 o2 4 := by simp only [upM]; rw [if_neg (by omega), if_neg (by omega)]
    rw [h3, h4]
  · intro x k hx
    rw [fF x k (by omega), fa x k (by omega)]
  · rw [fF _ _ (by omega), f11 _ _ (by omega), f10 _ _ (by omega), f9 _ _ (by omega), f8 _ _ (by omega), f7 _ _ (by omega), f6 _ _ (by omega), f5 _ _ (by omega), f4 _ _ (by omega), f3 _ _ (by omega), f2 _ _ (by omega), f1 _ _ (by omega)]; simp [upM]
  · have : s11 o2 2 = σ o2 2 := fa o2 2 (by omega)
    rw [← this]; simp [upM]
  · have : s11 o2 3 = σ o2 3 := fa o2 3 (by omega)
    rw [← this]; simp [upM]
  · have : s11 o2 4 = σ o2 4 := fa o2 4 (by omega)
    rw [← this]; simp [upM]
  · intro k hk
    rw [fF _ _ (by omega), f11 _ _ (by omega), f10 _ _ (by omega), f9 _ _ (by omega), f8 _ _ (by omega), f7 _ _ (by omega), f6 _ _ (by omega), f5 _ _ (by omega), f4 _ _ (by omega), f3 _ _ (by omega), f2 _ _ (by omega), show s1 (o + 3) k = _ from v1 k hk, g0 _ _ (by omega)]
  · intro k hk
    rw [fF _ _ (by omega), f11 _ _ (by omega), f10 _ _ (by omega), f9 _ _ (by omega), f8 _ _ (by omega), f7 _ _ (by omega), f6 _ _ (by omega), f5 _ _ (by omega), f4 _ _ (by omega), f3 _ _ (by omega), show s2 (o + 5) k = _ from v2 k hk, f1 _ _ (by omega), g0 _ _ (by omega)]
  · intro k hk
    rw [fF _ _ (by omega), f11 _ _ (by omega), f10 _ _ (by omega), f9 _ _ (by omega), f8 _ _ (by omega), f7 _ _ (by omega), f6 _ _ (by omega), f5 _ _ (by omega), f4 _ _ (by omega), show s3 (o + 7) k = _ from v3 k hk, f2 _ _ (by omega), f1 _ _ (by omega), g0 _ _ (by omega)]
  · intro k hk
    rw [fF _ _ (by omega), f11 _ _ (by omega), f10 _ _ (by omega), f9 _ _ (by omega), f8 _ _ (by omega), f7 _ _ (by omega), f6 _ _ (by omega), f5 _ _ (by omega), show s4 (o + 9) k = _ from v4 k hk, f3 _ _ (by omega), f2 _ _ (by omega), f1 _ _ (by omega), g0 _ _ (by omega)]
  · intro k hk
    rw [fF _ _ (by omega), f11 _ _ (by omega), f10 _ _ (by omega), f9 _ _ (by omega), f8 _ _ (by omega), f7 _ _ (by omega), f6 _ _ (by omega), show s5 (o + 12) k = _ from v5 k hk, f4 _ _ (by omega), f3 _ _ (by omega), f2 _ _ (by omega), f1 _ _ (by omega), g0 _ _ (by omega)]
  · intro k hk
    rw [fF _ _ (by omega), f11 _ _ (by omega), f10 _ _ (by omega), f9 _ _ (by omega), f8 _ _ (by omega), f7 _ _ (by omega), show s6 (o + 14) k = _ from v6 k hk, f5 _ _ (by omega), f4 _ _ (by omega), f3 _ _ (by omega), f2 _ _ (by omega), f1 _ _ (by omega), g0 _ _ (by omega)]
  · intro k hk
    rw [fF _ _ (by omega), f11 _ _ (by omega), f10 _ _ (by omega), f9 _ _ (by omega), f8 _ _ (by omega), show s7 (o + 16) k = _ from v7 k hk, f6 _ _ (by omega), f5 _ _ (by omega), f4 _ _ (by omega), f3 _ _ (by omega), f2 _ _ (by omega), f1 _ _ (by omega), g0 _ _ (by omega)]
  · intro k hk
    rw [fF _ _ (by omega), f11 _ _ (by omega), f10 _ _ (by omega), f9 _ _ (by omega), show s8 (o + 18) k = _ from v8 k hk, f7 _ _ (by omega), f6 _ _ (by omega), f5 _ _ (by omega), f4 _ _ (by omega), f3 _ _ (by omega), f2 _ _ (by omega), f1 _ _ (by omega), g0 _ _ (by omega)]
  · intro k hk
    rw [fF _ _ (by omega), f11 _ _ (by omega), f10 _ _ (by omega), show s9 (o + 20) k = _ from v9 k hk, f8 _ _ (by omega), f7 _ _ (by omega), f6 _ _ (by omega), f5 _ _ (by omega), f4 _ _ (by omega), f3 _ _ (by omega), f2 _ _ (by omega), f1 _ _ (by omega), g0 _ _ (by omega)]
  · intro k hk
    rw [fF _ _ (by omega), f11 _ _ (by omega), show s10 (o + 22) k = _ from v10 k hk, f9 _ _ (by omega), f8 _ _ (by omega), f7 _ _ (by omega), f6 _ _ (by omega), f5 _ _ (by omega), f4 _ _ (by omega), f3 _ _ (by omega), f2 _ _ (by omega), f1 _ _ (by omega), g0 _ _ (by omega)]
  · intro k hk
    rw [fF _ _ (by omega), show s11 (o + 24) k = _ from v11 k hk, f10 _ _ (by omega), f9 _ _ (by omega), f8 _ _ (by omega), f7 _ _ (by omega), f6 _ _ (by omega), f5 _ _ (by omega), f4 _ _ (by omega), f3 _ _ (by omega), f2 _ _ (by omega), f1 _ _ (by omega), g0 _ _ (by omega)]
theorem absC_of {σ σ' : Mem} {a b : Nat} (hn : σ (b + 1) 0 ≤ 20) (h0 : σ' (a + 1) 0 = σ (b + 1) 0 ∧ σ' a 2 = σ b 2 ∧ σ' a 3 = σ b 3 ∧ σ' a 4 = σ b 4) (h3 : ∀ k, k < 20 → σ' (a + 3) k = σ (b + 3) k) (h5 : ∀ k, k < 20 → σ' (a + 5) k = σ (b + 5) k) (h7 : ∀ k, k < 20 → σ' (a + 7) k = σ (b + 7) k) (h9 : ∀ k, k < 640 → σ' (a + 9) k = σ (b + 9) k)
    (h12 : ∀ k, k < 12 → σ' (a + 12) k = σ (b + 12) k) (h14 : ∀ k, k < 12 → σ' (a + 14) k = σ (b + 14) k) (h16 : ∀ k, k < 12 → σ' (a + 16) k = σ (b + 16) k) (h18 : ∀ k, k < 12 → σ' (a + 18) k = σ (b + 18) k) (h20 : ∀ k, k < 12 → σ' (a + 20) k = σ (b + 20) k) (h22 : ∀ k, k < 24 → σ' (a + 22) k = σ (b + 22) k) (h24 : ∀ k, k < 192 → σ' (a + 24) k = σ (b + 24) k) : absC σ' a = absC σ b := by
  unfold absC
  rw [h0.1, h0.2.1, h0.2.2.1, h0.2.2.2]
  exact mkS_congr (fun k hk => h3 k (by omega)) (fun k hk => h5 k (by omega)) (fun k hk => h7 k (by omega)) (fun i k hi hk h => h9 _ (by omega)) (fun r hr => h12 r hr) (fun r hr _ => ⟨h14 r hr, h16 r hr, h22 _ (by omega), fun k hk _ => h24 _ (by omega)⟩) (fun r hr _ => ⟨h18 r hr, h20 r hr, h22 _ (by omega), fun k hk _ => h24 _ (by omega)⟩)
theorem sta_copyA {o o2 : Nat} (ho : o ∈ stL) (ho2 : o2 ∈ stL) (hd : o + 25 ≤ o2 ∨ o2 + 25 ≤ o) {σ : Mem} (hn : absC σ o2 0 0 ≤ 20) (hc : CI σ o2) : Ex (Sta_copy o o2 σ) (fun _ σ' => (∀ x k, (x < o ∨ o + 25 ≤ x) → σ' x k = σ x k) ∧ absC σ' o = absC σ o2 ∧ CI σ' o) := by
  obtain ⟨σ', e, hf, h0, h3, h5, h7, h9, h12, h14, h16, h18, h20, h22, h24⟩ := sta_copy ho ho2 hd σ
  refine Ex.of e ⟨hf, absC_of hn h0 h3 h5 h7 h9 h12 h14 h16 h18 h20 h22 h24, fun r hr => ?_⟩
  rw [h12 r hr, h22 _ (by omega)]
  exact hc r hr
/-- a block of the page is copied -/
def cpP (τ : Mem) (a b m : Nat) : Mem := fun o k => if o = 1 ∧ 980 * b ≤ k ∧ k < 980 * b + m then τ 1 (980 * a + (k - 980 * b)) else τ o k
theorem md_copies_2 {a b : Nat} (ha : a ≤ 10) (hb : b ≤ 10) (hab : a ≠ b) {τ : Mem} : ∀ (m n c : Nat), c + m = 980 → m < n → Md_copies_2 n a b c (cpP τ a b c) = some (0, cpP τ a b 980) := by
  intro m
  induction m with
  | zero =>
    intro n c hc hn
    obtain ⟨n, rfl⟩ : ∃ z, n = z + 1 := ⟨n - 1, by omega⟩
    show Md_copies_2b (Md_copies_2 n) a b c (cpP τ a b c) = _
    unfold Md_copies_2b
    rw [wr_id (n := (c : Int)) (by omega) (by omega), if_neg (by omega), show c = 980 by omega]
  | succ m ih =>
    intro n c hc hn
    obtain ⟨n, rfl⟩ : ∃ z, n = z + 1 := ⟨n - 1, by omega⟩
    show Md_copies_2b (Md_copies_2 n) a b c (cpP τ a b c) = _
    unfold Md_copies_2b
    rw [wr_id (n := (c : Int)) (by omega) (by omega), if_pos (by omega), if_pos (inb (by omega) (by omega) (by omega)), if_pos (inb (by omega) (by omega) (by omega)), wrn (n := 980 * b + c) (by omega) (by omega), wrn (n := 980 * a + c) (by omega) (by omega)]
    have e : upM (cpP τ a b c) 1 (980 * b + c) (cpP τ a b c 1 (980 * a + c)) = cpP τ a b (c + 1) := by
      funext o k
      unfold upM
      by_cases q : o = 1 ∧ k = 980 * b + c
      · rw [if_pos q]
        unfold cpP
        rw [if_neg (by omega), if_pos (by omega)]
        congr 1
        omega
      · rw [if_neg q]
        unfold cpP
        by_cases q2 : o = 1 ∧ 980 * b ≤ k ∧ k < 980 * b + c
        · rw [if_pos q2, if_pos (by omega)]
        · rw [if_neg q2, if_neg (by omega)]
    unfold letM
    rw [e]
    have := ih n (c + 1) (by omega) (by omega)
    rw [show (((c + 1 : Nat)) : Int) = (c : Int) + 1 by omega] at this
    exact this
theorem md_copies {a b : Nat} (ha : a ≤ 10) (hb : b ≤ 10) (hab : a ≠ b) (τ : Mem) : Md_copies a b τ = some (0, cpP τ a b 980) := by
  have e : cpP τ a b 0 = τ := by
    funext o k
    unfold cpP
    rw [if_neg (by omega)]
  have := md_copies_2 ha hb hab (τ := τ) 980 100000 0 (by omega) (by omega)
  rw [e] at this
  exact this
theorem absM_of {τ τ' : Mem} {a b : Nat} (hn : τ 1 (980 * a) ≤ 20) (h : ∀ c, c < 980 → τ' 1 (980 * b + c) = τ 1 (980 * a + c)) : absM τ' b = absM τ a := by
  have g : ∀ c, c < 980 → ∀ x y, x = 980 * b + c → y = 980 * a + c → τ' 1 x = τ 1 y := fun c hc x y hx hy => by rw [hx, hy]; exact h c hc
  unfold absM
  rw [g 0 (by omega) (980 * b) (980 * a) (by omega) (by omega), h 977 (by omega), h 978 (by omega), h 979 (by omega)]
  exact mkS_congr (fun k hk => g (1 + k) (by omega) _ _ (by omega) (by omega)) (fun k hk => g (21 + k) (by omega) _ _ (by omega) (by omega)) (fun k hk => g (41 + k) (by omega) _ _ (by omega) (by omega)) (fun i k hi hk h => g (61 + (32 * i + k)) (by omega) _ _ (by omega) (by omega)) (fun r hr => g (701 + 23 * r) (by omega) _ _ (by omega) (by omega))
    (fun r hr _ => ⟨g (702 + 23 * r) (by omega) _ _ (by omega) (by omega), g (703 + 23 * r) (by omega) _ _ (by omega) (by omega), g (701 + 23 * (2 * r / 2) + (5 + 9 * (2 * r % 2))) (by omega) _ _ (by omega) (by omega), fun k hk _ => g (701 + 23 * ((16 * r + k) / 16) + (6 + 9 * ((16 * r + k) / 8 % 2)) + (16 * r + k) % 8) (by omega) _ _ (by omega) (by omega)⟩)
    (fun r hr _ => ⟨g (704 + 23 * r) (by omega) _ _ (by omega) (by omega), g (705 + 23 * r) (by omega) _ _ (by omega) (by omega), g (701 + 23 * ((2 * r + 1) / 2) + (5 + 9 * ((2 * r + 1) % 2))) (by omega) _ _ (by omega) (by omega), fun k hk _ => g (701 + 23 * ((16 * r + 8 + k) / 16) + (6 + 9 * ((16 * r + 8 + k) / 8 % 2)) + (16 * r + 8 + k) % 8) (by omega) _ _ (by omega) (by omega)⟩)
theorem aMj_n (τ : Mem) (j : Nat) : absM τ j 0 0 = τ 1 (980 * j) := rfl
theorem cpP_b {τ : Mem} {a b : Nat} (hn : absM τ a 0 0 ≤ 20) : absM (cpP τ a b 980) b = absM τ a := absM_of hn (fun c hc => by unfold cpP; rw [if_pos ⟨rfl, by omega, by omega⟩]; congr 1; omega)
theorem cpP_j {τ : Mem} {a b j : Nat} (hj : j ≠ b) (hn : absM τ j 0 0 ≤ 20) : absM (cpP τ a b 980) j = absM τ j := absM_of hn (fun c hc => by unfold cpP; rw [if_neg (by omega)])
theorem cpP_o {τ : Mem} {a b m o k : Nat} (ho : o ≠ 1) : cpP τ a b m o k = τ o k := by unfold cpP; rw [if_neg (fun z => ho z.1)]
theorem cpP_k {τ : Mem} {a b k : Nat} (hk : k < 980 * b ∨ 980 * b + 980 ≤ k) : cpP τ a b 980 1 k = τ 1 k := by unfold cpP; rw [if_neg (by omega)]
