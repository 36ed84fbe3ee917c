/-! ===== the reference's tokens ===== -/
def gM (τ : Mem) (i : Nat) (k : Int) : Int := if 0 ≤ k ∧ k < τ 1 (21 + i) then τ 1 (61 + 32 * i + k.toNat) else -9
def LnV (τ : Mem) (i : Nat) : Prop := 0 ≤ τ 1 (21 + i) ∧ τ 1 (21 + i) ≤ 32 ∧ ∀ k : Nat, (k : Int) < τ 1 (21 + i) → 32 ≤ τ 1 (61 + 32 * i + k) ∧ τ 1 (61 + 32 * i + k) ≤ 126
theorem gM_rng {τ : Mem} {i : Nat} (h : LnV τ i) (k : Int) : -9 ≤ gM τ i k ∧ gM τ i k ≤ 126 := by
  unfold gM
  split
  · have := h.2.2 k.toNat (by omega); omega
  · omega
theorem gM_out {τ : Mem} {i : Nat} {k : Int} (h : τ 1 (21 + i) ≤ k) : gM τ i k = -9 := by
  unfold gM
  rw [if_neg (by omega)]
theorem md_in (a b c : Int) (τ : Mem) (h1 : wr a = a) (h2 : wr b = b) (h3 : wr c = c) : Md_in a b c τ = some (if b ≤ a ∧ a ≤ c then 1 else 0, τ) := by
  unfold Md_in
  rw [h1, h2, h3]
  by_cases q1 : a < b
  · rw [if_pos q1, if_neg (by omega)]
  · rw [if_neg q1]
    by_cases q2 : c < a
    · rw [if_pos q2, if_neg (by omega)]
    · rw [if_neg q2, if_pos (by omega)]
theorem md_least (a b : Int) (τ : Mem) (h1 : wr a = a) (h2 : wr b = b) : Md_least a b τ = some (if a < b then a else b, τ) := by
  unfold Md_least
  rw [h1, h2]
  split <;> rfl
theorem md_isWord (c : Int) (τ : Mem) (h : wr c = c) : Md_isWord c τ = some (if isW c then 1 else 0, τ) := by
  have e : ∀ (P : Prop) (_ : Decidable P), (wr (if P then (1 : Int) else 0) = 0) = ¬ P := by
    intro P _
    by_cases q : P <;> simp [q, wr_0, wr_1]
  unfold Md_isWord
  simp only [md_in c 97 122 τ h rfl rfl, md_in c 65 90 τ h rfl rfl, md_in c 48 57 τ h rfl rfl, Option.bind_some, e, h]
  by_cases q1 : 97 ≤ c ∧ c ≤ 122
  · simp [q1, isW]
  · by_cases q2 : 65 ≤ c ∧ c ≤ 90
    · simp [q2, isW]
    · by_cases q3 : 48 ≤ c ∧ c ≤ 57
      · simp [q3, isW]
      · by_cases q4 : c = 95
        · subst q4; simp [isW]
        · simp [q1, q2, q3, q4, isW]
theorem md_contentAt {τ : Mem} {i : Nat} (hi : i < 20) (hv : LnV τ i) {k : Int} (hk : 0 ≤ k) (hk2 : k ≤ 200) : Md_contentAt i k τ = some (gM τ i k, τ) := by
  have h1 := hv.1
  have h2 := hv.2.1
  unfold Md_contentAt gM
  rw [if_pos (inb (by omega) (by omega) (by omega)), wrn (a := 21 + (i : Int)) (n := 21 + i) (by omega) (by omega), wr_id (n := k) (by omega) (by omega), wr_id (n := τ 1 (21 + i)) (by omega) (by omega)]
  by_cases q : k < τ 1 (21 + i)
  · rw [if_pos q, if_pos (inb (by omega) (by omega) (by omega)), wrn (n := 61 + 32 * i + k.toNat) (by omega) (by omega), if_pos ⟨hk, q⟩]
  · rw [if_neg q, if_neg (by omega)]
theorem md_isTriple {τ : Mem} {i : Nat} (hi : i < 20) (hv : LnV τ i) {k : Int} (hk : 0 ≤ k) (hk2 : k ≤ 100) : Md_isTriple i k τ = some (if trip (gM τ i) k then 1 else 0, τ) := by
  have r := gM_rng hv
  unfold Md_isTriple
  simp only [md_contentAt hi hv (k := k) hk (by omega), md_contentAt hi hv (k := k + 1) (by omega) (by omega), md_contentAt hi hv (k := k + 2) (by omega) (by omega), Option.bind_some]
  rw [wr_id (n := gM τ i k) (by have := r k; omega) (by have := r k; omega), wr_id (n := gM τ i (k + 1)) (by have := r (k + 1); omega) (by have := r (k + 1); omega), wr_id (n := gM τ i (k + 2)) (by have := r (k + 2); omega) (by have := r (k + 2); omega)]
  by_cases q1 : gM τ i k = 34
  · by_cases q2 : gM τ i (k + 1) = 34
    · by_cases q3 : gM τ i (k + 2) = 34 <;> simp [q1, q2, q3, trip]
    · simp [q1, q2, trip]
  · simp [q1, trip]
theorem trip_out {τ : Mem} {i : Nat} {k : Int} (h : τ 1 (21 + i) ≤ k + 2) : ¬ trip (gM τ i) k := by
  intro q
  have := q.2.2
  rw [gM_out h] at this
  omega
theorem sLit_out {τ : Mem} {i : Nat} : ∀ (n : Nat) (k : Int), τ 1 (21 + i) ≤ k + 2 → sLit (gM τ i) (τ 1 (21 + i)) n k = -9
  | 0, _, _ => rfl
  | n + 1, k, h => by
    unfold sLit
    split
    · rw [if_neg (trip_out h)]
      exact sLit_out n (k + 1) (by omega)
    · rfl
theorem md_endOfLiteral_2 {τ : Mem} {i : Nat} (hi : i < 20) (hv : LnV τ i) : ∀ (m n f : Nat) (k : Int), 0 ≤ k → k ≤ 50 → (τ 1 (21 + i) - k).toNat ≤ m → m < n → m < f → Md_endOfLiteral_2 n i k τ = some (sLit (gM τ i) (τ 1 (21 + i)) f k, τ) := by
  have h1 := hv.1
  have h2 := hv.2.1
  intro m
  induction m with
  | zero =>
    intro n f k hk hk2 hm hn hf
    obtain ⟨n, rfl⟩ : ∃ z, n = z + 1 := ⟨n - 1, by omega⟩
    unfold Md_endOfLiteral_2
    rw [fixS]
    unfold Md_endOfLiteral_2b
    rw [if_pos (inb (by omega) (by omega) (by omega)), wrn (n := 21 + i) (by omega) (by omega), wr_id (n := k + 2) (by omega) (by omega), wr_id (n := τ 1 (21 + i)) (by omega) (by omega), if_neg (by omega), sLit_out f k (by omega)]
  | succ m ih =>
    intro n f k hk hk2 hm hn hf
    obtain ⟨n, rfl⟩ : ∃ z, n = z + 1 := ⟨n - 1, by omega⟩
    obtain ⟨f, rfl⟩ : ∃ z, f = z + 1 := ⟨f - 1, by omega⟩
    unfold Md_endOfLiteral_2
    rw [fixS]
    unfold Md_endOfLiteral_2b
    rw [if_pos (inb (by omega) (by omega) (by omega)), wrn (n := 21 + i) (by omega) (by omega), wr_id (n := k + 2) (by omega) (by omega), wr_id (n := τ 1 (21 + i)) (by omega) (by omega)]
    by_cases q : k + 2 < τ 1 (21 + i)
    · rw [if_pos q, md_isTriple hi hv hk (by omega)]
      simp only [Option.bind_some]
      unfold sLit
      rw [if_pos (show k < τ 1 (21 + i) by omega)]
      by_cases q2 : trip (gM τ i) k
      · simp only [if_pos q2, wr_1]
        rfl
      · simp only [if_neg q2, wr_0, if_true]
        exact ih n f (k + 1) (by omega) (by omega) (by omega) (by omega) (by omega)
    · rw [if_neg q, sLit_out (f + 1) k (by omega)]
theorem md_endOfLiteral {τ : Mem} {i : Nat} (hi : i < 20) (hv : LnV τ i) {k : Int} (hk : 0 ≤ k) (hk2 : k ≤ 50) : Md_endOfLiteral i k τ = some (sLit (gM τ i) (τ 1 (21 + i)) 40 k, τ) := by
  have h1 := hv.1
  have h2 := hv.2.1
  exact md_endOfLiteral_2 hi hv (τ 1 (21 + i) - k).toNat 100000 40 k hk hk2 (Nat.le_refl _) (by omega) (by omega)
theorem md_endOfString_4 {τ : Mem} {i : Nat} (hi : i < 20) (hv : LnV τ i) : ∀ (m n f : Nat) (k : Int), 0 ≤ k → k ≤ 50 → (τ 1 (21 + i) - k).toNat ≤ m → m < n → m < f → Md_endOfString_4 n i k τ = some (sStr (gM τ i) (τ 1 (21 + i)) f k, τ) := by
  have h1 := hv.1
  have h2 := hv.2.1
  have r := gM_rng hv
  intro m
  induction m with
  | zero =>
    intro n f k hk hk2 hm hn hf
    obtain ⟨n, rfl⟩ : ∃ z, n = z + 1 := ⟨n - 1, by omega⟩
    obtain ⟨f, rfl⟩ : ∃ z, f = z + 1 := ⟨f - 1, by omega⟩
    unfold Md_endOfString_4
    rw [fixS]
    unfold Md_endOfString_4b sStr
    rw [if_pos (inb (by omega) (by omega) (by omega)), wrn (n := 21 + i) (by omega) (by omega), wr_id (n := k) (by omega) (by omega), wr_id (n := τ 1 (21 + i)) (by omega) (by omega), if_neg (by omega), if_pos (inb (by omega) (by omega) (by omega)), md_least (k + 1) (τ 1 (21 + i)) τ (wr_id (by omega) (by omega)) (wr_id (by omega) (by omega)), if_neg (by omega), if_neg (by omega)]
    rfl
  | succ m ih =>
    intro n f k hk hk2 hm hn hf
    obtain ⟨n, rfl⟩ : ∃ z, n = z + 1 := ⟨n - 1, by omega⟩
    obtain ⟨f, rfl⟩ : ∃ z, f = z + 1 := ⟨f - 1, by omega⟩
    unfold Md_endOfString_4
    rw [fixS]
    unfold Md_endOfString_4b sStr
    rw [if_pos (inb (by omega) (by omega) (by omega)), wrn (n := 21 + i) (by omega) (by omega), wr_id (n := k) (by omega) (by omega), wr_id (n := τ 1 (21 + i)) (by omega) (by omega)]
    by_cases q : k < τ 1 (21 + i)
    · rw [if_pos q, if_pos q, md_contentAt hi hv hk (by omega)]
      simp only [Option.bind_some]
      rw [wr_id (n := gM τ i k) (by have := r k; omega) (by have := r k; omega)]
      by_cases q2 : gM τ i k = 34
      · rw [if_pos q2, if_pos q2, if_pos (inb (by omega) (by omega) (by omega)), md_least (k + 1) (τ 1 (21 + i)) τ (wr_id (by omega) (by omega)) (wr_id (by omega) (by omega))]
        simp only [Option.bind_some]
        by_cases q3 : k + 1 < τ 1 (21 + i)
        · rw [if_pos q3]
        · rw [if_neg q3, show k + 1 = τ 1 (21 + i) by omega]
      · rw [if_neg q2, if_neg q2, md_contentAt hi hv hk (by omega)]
        simp only [Option.bind_some]
        rw [wr_id (n := gM τ i k) (by have := r k; omega) (by have := r k; omega)]
        by_cases q3 : gM τ i k = 92
        · rw [if_pos q3, if_pos q3]
          exact ih n f (k + 2) (by omega) (by omega) (by omega) (by omega) (by omega)
        · rw [if_neg q3, if_neg q3]
          exact ih n f (k + 1) (by omega) (by omega) (by omega) (by omega) (by omega)
    · rw [if_neg q, if_neg q, if_pos (inb (by omega) (by omega) (by omega)), md_least (k + 1) (τ 1 (21 + i)) τ (wr_id (by omega) (by omega)) (wr_id (by omega) (by omega)), if_neg (by omega)]
      rfl
theorem md_endOfString {τ : Mem} {i : Nat} (hi : i < 20) (hv : LnV τ i) {k : Int} (hk : 0 ≤ k) (hk2 : k ≤ 45) : Md_endOfString i k τ = some (sStr (gM τ i) (τ 1 (21 + i)) 40 (k + 1), τ) := by
  have h1 := hv.1
  have h2 := hv.2.1
  exact md_endOfString_4 hi hv (τ 1 (21 + i) - (k + 1)).toNat 100000 40 (k + 1) (by omega) (by omega) (Nat.le_refl _) (by omega) (by omega)
theorem gM_nw {τ : Mem} {i : Nat} {k : Int} (h : τ 1 (21 + i) ≤ k) : ¬ isW (gM τ i k) := by
  rw [gM_out h]; simp [isW]
theorem md_endOfWord_2 {τ : Mem} {i : Nat} (hi : i < 20) (hv : LnV τ i) : ∀ (m n f : Nat) (k : Int), 0 ≤ k → k ≤ 50 → (τ 1 (21 + i) - k).toNat ≤ m → m < n → m < f → Md_endOfWord_2 n i k τ = some (sWord (gM τ i) f k, τ) := by
  have h1 := hv.1
  have h2 := hv.2.1
  have r := gM_rng hv
  intro m
  induction m with
  | zero =>
    intro n f k hk hk2 hm hn hf
    obtain ⟨n, rfl⟩ : ∃ z, n = z + 1 := ⟨n - 1, by omega⟩
    obtain ⟨f, rfl⟩ : ∃ z, f = z + 1 := ⟨f - 1, by omega⟩
    unfold Md_endOfWord_2
    rw [fixS]
    unfold Md_endOfWord_2b sWord
    rw [md_contentAt hi hv hk (by omega)]
    simp only [Option.bind_some]
    rw [md_isWord _ _ (wr_id (by have := r k; omega) (by have := r k; omega)), if_neg (gM_nw (by omega)), if_neg (gM_nw (by omega))]
    rfl
  | succ m ih =>
    intro n f k hk hk2 hm hn hf
    obtain ⟨n, rfl⟩ : ∃ z, n = z + 1 := ⟨n - 1, by omega⟩
    obtain ⟨f, rfl⟩ : ∃ z, f = z + 1 := ⟨f - 1, by omega⟩
    unfold Md_endOfWord_2
    rw [fixS]
    unfold Md_endOfWord_2b sWord
    rw [md_contentAt hi hv hk (by omega)]
    simp only [Option.bind_some]
    rw [md_isWord _ _ (wr_id (by have := r k; omega) (by have := r k; omega))]
    by_cases q : isW (gM τ i k)
    · rw [if_pos q, if_pos q]
      have q3 : k < τ 1 (21 + i) := by
        by_cases h : τ 1 (21 + i) ≤ k
        · exact absurd q (gM_nw h)
        · omega
      exact ih n f (k + 1) (by omega) (by omega) (by omega) (by omega) (by omega)
    · rw [if_neg q, if_neg q]
      rfl
theorem md_endOfWord {τ : Mem} {i : Nat} (hi : i < 20) (hv : LnV τ i) {k : Int} (hk : 0 ≤ k) (hk2 : k ≤ 45) : Md_endOfWord i k τ = some (sWord (gM τ i) 40 k, τ) := by
  have h1 := hv.1
  have h2 := hv.2.1
  exact md_endOfWord_2 hi hv (τ 1 (21 + i) - k).toNat 100000 40 k hk (by omega) (Nat.le_refl _) (by omega) (by omega)
noncomputable def adM (τ : Mem) (i s e t : Int) : Mem := upM (upM (upM (upM (upM τ 4 (τ 0 12).toNat i) 5 (τ 0 12).toNat s) 6 (τ 0 12).toNat (e - s)) 7 (τ 0 12).toNat t) 0 12 (τ 0 12 + 1)
theorem md_adds {τ : Mem} (h0 : 0 ≤ τ 0 12) (h1 : τ 0 12 < 641) (i s e t : Int) : Md_adds i s e t τ = some (0, adM τ i s e t) := by
  have c := inb h0 h1 (by omega)
  have w : wr (τ 0 12) = τ 0 12 := wr_id (by omega) (by omega)
  unfold Md_adds adM
  simp only [letM]
  simp [upM, w, h0, h1]
noncomputable def putM (i : Int) : List (Int × Int × Int) → Mem → Mem
  | [], τ => τ
  | q :: ts, τ => putM i ts (adM τ i q.1 q.2.1 q.2.2)
theorem adM_1 (τ : Mem) (i s e t : Int) : adM τ i s e t 1 = τ 1 := by funext k; simp [adM, upM]
theorem adM_n (τ : Mem) (i s e t : Int) : adM τ i s e t 0 12 = τ 0 12 + 1 := by simp [adM, upM]
theorem gM_congr {τ τ' : Mem} (h : τ' 1 = τ 1) (i : Nat) : gM τ' i = gM τ i := by funext k; simp [gM, h]
theorem LnV_congr {τ τ' : Mem} (h : τ' 1 = τ 1) {i : Nat} (hv : LnV τ i) : LnV τ' i := by unfold LnV at *; rw [h]; exact hv
theorem sLine_len (g : Int → Int) (len cm : Int) (hg : ∀ k, len ≤ k → ¬ isW (g k)) : ∀ (n : Nat) (k : Int), (sLine g len cm n k).1.length ≤ (len - k).toNat
  | 0, k => by simp [sLine]
  | n + 1, k => by
    unfold sLine
    split
    · rename_i hk
      split
      · have := sLine_len g len cm hg n (k + 1); omega
      · split
        · split
          · simp; omega
          · have h1 := sLit_rng g len 40 (k + 3)
            have := sLine_len g len cm hg n (sLit g len 40 (k + 3))
            simp only [List.length_cons]; omega
        · split
          · have h1 := sStr_rng g len 40 (k + 1)
            have := sLine_len g len cm hg n (sStr g len 40 (k + 1))
            simp only [List.length_cons]; omega
          · split
            · simp
            · split
              · rename_i hw
                have h1 := sWord_gt g len hg hw 40 (by omega)
                have := sLine_len g len cm hg n (sWord g 40 k)
                simp only [List.length_cons]; omega
              · have := sLine_len g len cm hg n (k + 1)
                simp only [List.length_cons]; omega
    · simp
theorem md_divides_2 {i : Nat} (hi : i < 20) : ∀ (m n f : Nat) (k : Int) (τ : Mem), LnV τ i → 0 ≤ τ 1 979 → τ 1 979 ≤ 126 → 0 ≤ k → k ≤ 40 → 0 ≤ τ 0 12 → (k < τ 1 (21 + i) → τ 0 12 + (τ 1 (21 + i) - k) ≤ 640) → (τ 1 (21 + i) - k).toNat ≤ m → m < n → m < f →
    Md_divides_2 n i k τ = some ((sLine (gM τ i) (τ 1 (21 + i)) (τ 1 979) f k).2, putM i (sLine (gM τ i) (τ 1 (21 + i)) (τ 1 979) f k).1 τ) := by
  intro m
  induction m with
  | zero =>
    intro n f k τ hv hc1 hc2 hk hk2 hn0 hn1 hm hn hf
    have h1 := hv.1
    have h2 := hv.2.1
    obtain ⟨n, rfl⟩ : ∃ z, n = z + 1 := ⟨n - 1, by omega⟩
    obtain ⟨f, rfl⟩ : ∃ z, f = z + 1 := ⟨f - 1, by omega⟩
    unfold Md_divides_2
    rw [fixS]
    unfold Md_divides_2b sLine
    rw [if_pos (inb (by omega) (by omega) (by omega)), wrn (n := 21 + i) (by omega) (by omega), wr_id (n := k) (by omega) (by omega), wr_id (n := τ 1 (21 + i)) (by omega) (by omega), if_neg (by omega), if_neg (by omega)]
    rfl
  | succ m ih =>
    intro n f k τ hv hc1 hc2 hk hk2 hn0 hn1 hm hn hf
    have h1 := hv.1
    have h2 := hv.2.1
    have r := gM_rng hv
    obtain ⟨n, rfl⟩ : ∃ z, n = z + 1 := ⟨n - 1, by omega⟩
    obtain ⟨f, rfl⟩ : ∃ z, f = z + 1 := ⟨f - 1, by omega⟩
    have step : ∀ (e t : Int), k + 1 ≤ e → e ≤ 40 → τ 0 12 < 640 → k < τ 1 (21 + i) → Md_divides_2 n i e (adM τ i k e t) = some ((sLine (gM τ i) (τ 1 (21 + i)) (τ 1 979) f e).2, putM i ((k, e, t) :: (sLine (gM τ i) (τ 1 (21 + i)) (τ 1 979) f e).1) τ) := by
      intro e t he1 he2 hnm hkl
      have a1 := adM_1 τ i k e t
      have := ih n f e (adM τ i k e t) (LnV_congr a1 hv) (by rw [a1]; exact hc1) (by rw [a1]; exact hc2) (by omega) he2 (by rw [adM_n]; omega) (by rw [adM_n, a1]; intro q; have := hn1 hkl; omega) (by rw [a1]; omega) (by omega) (by omega)
      rw [gM_congr a1, a1] at this
      exact this
    show Md_divides_2b (Md_divides_2 n) i k τ = _
    unfold Md_divides_2b
    unfold sLine
    rw [if_pos (inb (by omega) (by omega) (by omega)), wrn (n := 21 + i) (by omega) (by omega), wr_id (n := k) (by omega) (by omega), wr_id (n := τ 1 (21 + i)) (by omega) (by omega)]
    by_cases q : k < τ 1 (21 + i)
    · have hcnt := hn1 q
      rw [if_pos q, if_pos q, md_contentAt hi hv hk (by omega)]
      simp only [Option.bind_some]
      rw [wr_id (n := gM τ i k) (by have := r k; omega) (by have := r k; omega)]
      by_cases q1 : gM τ i k = 32
      · rw [if_pos q1, if_pos q1]
        exact ih n f (k + 1) τ hv hc1 hc2 (by omega) (by omega) hn0 (by intro; omega) (by omega) (by omega) (by omega)
      · rw [if_neg q1, if_neg q1, md_isTriple hi hv hk (by omega)]
        simp only [Option.bind_some]
        by_cases q2 : trip (gM τ i) k
        · rw [if_pos q2, if_pos q2, wr_1, if_neg (by decide), md_endOfLiteral hi hv (by omega) (by omega)]
          simp only [Option.bind_some]
          have hl := sLit_rng (gM τ i) (τ 1 (21 + i)) 40 (k + 3)
          rw [wr_id (n := sLit (gM τ i) (τ 1 (21 + i)) 40 (k + 3)) (by omega) (by omega)]
          by_cases q3 : sLit (gM τ i) (τ 1 (21 + i)) 40 (k + 3) = -9
          · rw [if_pos q3, if_pos q3, if_pos (inb (by omega) (by omega) (by omega))]
            unfold Md_divides_79
            rw [md_adds hn0 (by omega)]
            simp only [Option.bind_some]
            rw [q3, show wr (-9) = -9 from by decide, if_pos rfl]
            rfl
          · rw [if_neg q3, if_neg q3]
            unfold Md_divides_79
            rw [md_adds hn0 (by omega)]
            simp only [Option.bind_some]
            rw [wr_id (n := sLit (gM τ i) (τ 1 (21 + i)) 40 (k + 3)) (by omega) (by omega), if_neg q3]
            exact step _ 2 (by omega) (by omega) (by omega) q
        · rw [if_neg q2, if_neg q2, wr_0, if_pos rfl]
          by_cases q3 : gM τ i k = 34
          · rw [if_pos q3, if_pos q3, md_endOfString hi hv hk (by omega)]
            simp only [Option.bind_some]
            rw [md_adds hn0 (by omega)]
            simp only [Option.bind_some]
            have hl := sStr_rng (gM τ i) (τ 1 (21 + i)) 40 (k + 1)
            exact step _ 2 (by omega) (by omega) (by omega) q
          · rw [if_neg q3, if_neg q3, if_pos (by decide), show (wr 979).toNat = 979 from by decide, wr_id (n := τ 1 979) (by omega) (by omega)]
            by_cases q4 : gM τ i k = τ 1 979
            · rw [if_pos q4, if_pos q4, if_pos (inb (by omega) (by omega) (by omega))]
              have := ih n (m + 1) (τ 1 (21 + i)) τ hv hc1 hc2 (by omega) (by omega) hn0 (by intro h; omega) (by omega) (by omega) (by omega)
              rw [this]
              unfold sLine
              rw [if_neg (by omega)]
            · rw [if_neg q4, if_neg q4, md_isWord _ _ (wr_id (by have := r k; omega) (by have := r k; omega))]
              simp only [Option.bind_some]
              by_cases q5 : isW (gM τ i k)
              · rw [if_pos q5, if_pos q5, wr_1, if_neg (by decide), md_endOfWord hi hv hk (by omega)]
                simp only [Option.bind_some]
                rw [md_adds hn0 (by omega)]
                simp only [Option.bind_some]
                have hl := sWord_rng (gM τ i) (τ 1 (21 + i)) (fun _ h => gM_nw h) 40 k
                have hl2 := sWord_gt (gM τ i) (τ 1 (21 + i)) (fun _ h => gM_nw h) q5 40 (by omega)
                exact step _ 0 (by omega) (by have := hl.2 (by omega); omega) (by omega) q
              · rw [if_neg q5, if_neg q5, wr_0, if_pos rfl, md_adds hn0 (by omega)]
                simp only [Option.bind_some]
                exact step _ 1 (by omega) (by omega) (by omega) q
    · rw [if_neg q, if_neg q]
      rfl
