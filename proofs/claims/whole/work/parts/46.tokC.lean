/-! ===== the class's tokens ===== -/
theorem upM_self {σ : Mem} {o k : Nat} {v : Int} (h : σ o k = v) : upM σ o k v = σ := by
  funext o' k'
  unfold upM
  split
  · rename_i q; rw [q.1, q.2, h]
  · rfl
theorem upM_comm {σ : Mem} {o k o2 k2 : Nat} {v v2 : Int} (h : o ≠ o2 ∨ k ≠ k2) : upM (upM σ o k v) o2 k2 v2 = upM (upM σ o2 k2 v2) o k v := by
  funext o' k'
  simp only [upM]
  by_cases q1 : o' = o2 ∧ k' = k2
  · rw [if_pos q1, if_neg (by omega), if_pos q1]
  · rw [if_neg q1, if_neg q1]
theorem ai_within (a b c : Int) (σ : Mem) (h1 : wr a = a) (h2 : wr b = b) (h3 : wr c = c) : Ai_within a b c σ = some (if b ≤ a ∧ a ≤ c then 1 else 0, σ) := by
  unfold Ai_within
  rw [h1, h2, h3]
  by_cases q1 : a < b
  · rw [if_pos q1, if_neg (by omega)]
  · rw [if_neg q1]
    by_cases q2 : c < a
    · rw [if_pos q2, if_neg (by omega)]
    · rw [if_neg q2, if_pos (by omega)]
theorem ai_isWordByte (c : Int) (τ : Mem) (h : wr c = c) : Ai_isWordByte c τ = some (if isW c then 1 else 0, τ) := by
  have e : ∀ (P : Prop) (_ : Decidable P), (wr (if P then (1 : Int) else 0) = 0) = ¬ P := by
    intro P _
    by_cases q : P <;> simp [q, wr_0, wr_1]
  unfold Ai_isWordByte
  simp only [ai_within c 97 122 τ h rfl rfl, ai_within c 65 90 τ h rfl rfl, ai_within c 48 57 τ h rfl rfl, Option.bind_some, e, h]
  by_cases q1 : 97 ≤ c ∧ c ≤ 122
  · simp [q1, isW]
  · by_cases q2 : 65 ≤ c ∧ c ≤ 90
    · simp [q1, q2, isW]
    · by_cases q3 : 48 ≤ c ∧ c ≤ 57
      · simp [q1, q2, q3, isW]
      · by_cases q4 : c = 95
        · subst q4; simp [isW]
        · simp [q1, q2, q3, q4, isW]
/-- a line's bytes as they are looked at -/
def GV (g : Int → Int) (len : Int) : Prop := 0 ≤ len ∧ len ≤ 32 ∧ (∀ k, 0 ≤ k → k < len → 32 ≤ g k ∧ g k ≤ 126) ∧ ∀ k, len ≤ k → g k = -9
def CtC (σ : Mem) (g : Int → Int) (len : Int) : Prop := σ 289 8 = len ∧ ∀ k : Nat, k < 32 → σ 303 k = if (k : Int) < len then g k else 0
def cv (g : Int → Int) (len k : Int) : Int := if k < len then g k else if k < 32 then 0 else -1
theorem tok_get {σ : Mem} {g : Int → Int} {len : Int} (hc : CtC σ g len) (hg : GV g len) {k : Int} (h0 : 0 ≤ k) (h1 : k ≤ 200) : Row_get 302 k σ = some (cv g len k, σ) := by
  unfold cv
  by_cases q : k < 32
  · rw [rg_302 h0 q, hc.2 k.toNat (by omega), show ((k.toNat : Nat) : Int) = k by omega]
    by_cases q2 : k < len
    · rw [if_pos q2, if_pos q2]
    · rw [if_neg q2, if_neg q2, if_pos q]
  · rw [rx_302 (by omega) (by omega), if_neg (by have := hg.2.1; omega), if_neg q]
theorem cv_rng {g : Int → Int} {len : Int} (hg : GV g len) {k : Int} (h0 : 0 ≤ k) : -1 ≤ cv g len k ∧ cv g len k ≤ 126 := by
  unfold cv
  split
  · rename_i q; have := hg.2.2.1 k h0 q; omega
  · split <;> omega
theorem cv_wr {g : Int → Int} {len : Int} (hg : GV g len) {k : Int} (h0 : 0 ≤ k) : wr (cv g len k) = cv g len k := by
  have := cv_rng hg h0
  exact wr_id (by omega) (by omega)
theorem cv_34 {g : Int → Int} {len : Int} (hg : GV g len) (k : Int) : (cv g len k = 34) = (g k = 34) := by
  unfold cv
  by_cases q : k < len
  · rw [if_pos q]
  · rw [if_neg q, hg.2.2.2 k (by omega)]
    by_cases q2 : k < 32
    · rw [if_pos q2]; simp
    · rw [if_neg q2]; simp
theorem cv_in {g : Int → Int} {len k : Int} (h : k < len) : cv g len k = g k := by unfold cv; rw [if_pos h]
theorem tok_three {σ : Mem} {g : Int → Int} {len : Int} (hc : CtC σ g len) (hg : GV g len) {k : Int} (h0 : 0 ≤ k) (h1 : k ≤ 100) : Tok_threeQuotesAt k σ = some (if trip g k then 1 else 0, σ) := by
  unfold Tok_threeQuotesAt
  simp only [tok_get hc hg (k := k) h0 (by omega), tok_get hc hg (k := k + 1) (by omega) (by omega), tok_get hc hg (k := k + 2) (by omega) (by omega), Option.bind_some]
  rw [cv_wr hg h0, cv_wr hg (show 0 ≤ k + 1 by omega), cv_wr hg (show 0 ≤ k + 2 by omega)]
  simp only [cv_34 hg]
  by_cases q1 : g k = 34
  · by_cases q2 : g (k + 1) = 34
    · by_cases q3 : g (k + 2) = 34 <;> simp [q1, q2, q3, trip]
    · simp [q1, q2, trip]
  · simp [q1, trip]
theorem tok_literalEnd_2 {σ : Mem} {g : Int → Int} {len : Int} (hc : CtC σ g len) (hg : GV g len) : ∀ (m n f : Nat) (k : Int), 0 ≤ k → k ≤ 50 → (len - k).toNat ≤ m → m < n → m < f →
    Tok_literalEnd_2 n k σ = some (if sLit g len f k = -9 then len else sLit g len f k, upM σ 289 9 (if sLit g len f k = -9 then 1 else 0)) := by
  have h1 := hg.1
  have h2 := hg.2.1
  intro m
  induction m with
  | zero =>
    intro n f k hk hk2 hm hn hf
    obtain ⟨n, rfl⟩ : ∃ z, n = z + 1 := ⟨n - 1, by omega⟩
    obtain ⟨f, rfl⟩ : ∃ z, f = z + 1 := ⟨f - 1, by omega⟩
    have e : sLit g len (f + 1) k = -9 := by unfold sLit; rw [if_neg (by omega)]
    rw [e]
    show Tok_literalEnd_2b (Tok_literalEnd_2 n) k σ = _
    unfold Tok_literalEnd_2b
    rw [hc.1, wr_id (n := k) (by omega) (by omega), wr_id (n := len) (by omega) (by omega), if_neg (by omega)]
    simp [letM, upM, hc.1]
  | succ m ih =>
    intro n f k hk hk2 hm hn hf
    obtain ⟨n, rfl⟩ : ∃ z, n = z + 1 := ⟨n - 1, by omega⟩
    obtain ⟨f, rfl⟩ : ∃ z, f = z + 1 := ⟨f - 1, by omega⟩
    show Tok_literalEnd_2b (Tok_literalEnd_2 n) k σ = _
    unfold Tok_literalEnd_2b sLit
    rw [hc.1, wr_id (n := k) (by omega) (by omega), wr_id (n := len) (by omega) (by omega)]
    by_cases q : k < len
    · rw [if_pos q, if_pos q, tok_three hc hg hk (by omega)]
      simp only [Option.bind_some]
      by_cases q2 : trip g k
      · rw [if_pos q2, if_pos q2, wr_1, if_neg (by decide), if_neg (by omega), if_neg (by omega)]
        rfl
      · rw [if_neg q2, if_neg q2, wr_0, if_pos rfl]
        exact ih n f (k + 1) (by omega) (by omega) (by omega) (by omega) (by omega)
    · rw [if_neg q, if_neg q]
      simp [letM, upM, hc.1]
theorem tok_literalEnd {σ : Mem} {g : Int → Int} {len : Int} (hc : CtC σ g len) (hg : GV g len) {k : Int} (h0 : 0 ≤ k) (h1 : k ≤ 50) : Tok_literalEnd k σ = some (if sLit g len 40 k = -9 then len else sLit g len 40 k, upM σ 289 9 (if sLit g len 40 k = -9 then 1 else 0)) := by
  have h2 := hg.2.1
  exact tok_literalEnd_2 hc hg (len - k).toNat 100000 40 k h0 h1 (Nat.le_refl _) (by omega) (by omega)
theorem tok_stringEnd_2 {σ : Mem} {g : Int → Int} {len : Int} (hc : CtC σ g len) (hg : GV g len) : ∀ (m n f : Nat) (k : Int), 0 ≤ k → k ≤ 50 → (len - k).toNat ≤ m → m < n → m < f → Tok_stringEnd_2 n k σ = some (sStr g len f k, σ) := by
  have h1 := hg.1
  have h2 := hg.2.1
  intro m
  induction m with
  | zero =>
    intro n f k hk hk2 hm hn hf
    obtain ⟨n, rfl⟩ : ∃ z, n = z + 1 := ⟨n - 1, by omega⟩
    obtain ⟨f, rfl⟩ : ∃ z, f = z + 1 := ⟨f - 1, by omega⟩
    show Tok_stringEnd_2b (Tok_stringEnd_2 n) k σ = _
    unfold Tok_stringEnd_2b sStr
    rw [hc.1, wr_id (n := k) (by omega) (by omega), wr_id (n := len) (by omega) (by omega), if_neg (by omega), if_neg (by omega)]
  | succ m ih =>
    intro n f k hk hk2 hm hn hf
    obtain ⟨n, rfl⟩ : ∃ z, n = z + 1 := ⟨n - 1, by omega⟩
    obtain ⟨f, rfl⟩ : ∃ z, f = z + 1 := ⟨f - 1, by omega⟩
    show Tok_stringEnd_2b (Tok_stringEnd_2 n) k σ = _
    unfold Tok_stringEnd_2b sStr
    rw [hc.1, wr_id (n := k) (by omega) (by omega), wr_id (n := len) (by omega) (by omega)]
    by_cases q : k < len
    · rw [if_pos q, if_pos q, tok_get hc hg hk (by omega)]
      simp only [Option.bind_some]
      rw [cv_wr hg hk, cv_in q]
      by_cases q2 : g k = 34
      · rw [if_pos q2, if_pos q2]
      · rw [if_neg q2, if_neg q2, tok_get hc hg hk (by omega)]
        simp only [Option.bind_some]
        rw [cv_wr hg hk, cv_in q]
        by_cases q3 : g k = 92
        · rw [if_pos q3, if_pos q3, show k + 1 + 1 = k + 2 by omega]
          exact ih n f (k + 2) (by omega) (by omega) (by omega) (by omega) (by omega)
        · rw [if_neg q3, if_neg q3]
          exact ih n f (k + 1) (by omega) (by omega) (by omega) (by omega) (by omega)
    · rw [if_neg q, if_neg q]
theorem tok_stringEnd {σ : Mem} {g : Int → Int} {len : Int} (hc : CtC σ g len) (hg : GV g len) {k : Int} (h0 : 0 ≤ k) (h1 : k ≤ 50) : Tok_stringEnd k σ = some (sStr g len 40 k, σ) := by
  have h2 := hg.2.1
  exact tok_stringEnd_2 hc hg (len - k).toNat 100000 40 k h0 h1 (Nat.le_refl _) (by omega) (by omega)
theorem GV.nw {g : Int → Int} {len : Int} (hg : GV g len) (k : Int) (h : len ≤ k) : ¬ isW (g k) := by rw [hg.2.2.2 k h]; simp [isW]
theorem tok_wordEnd_2 {σ : Mem} {g : Int → Int} {len : Int} (hc : CtC σ g len) (hg : GV g len) : ∀ (m n f : Nat) (k : Int), 0 ≤ k → k ≤ 50 → (len - k).toNat ≤ m → m < n → m < f → Tok_wordEnd_2 n k σ = some (sWord g f k, σ) := by
  have h1 := hg.1
  have h2 := hg.2.1
  intro m
  induction m with
  | zero =>
    intro n f k hk hk2 hm hn hf
    obtain ⟨n, rfl⟩ : ∃ z, n = z + 1 := ⟨n - 1, by omega⟩
    obtain ⟨f, rfl⟩ : ∃ z, f = z + 1 := ⟨f - 1, by omega⟩
    show Tok_wordEnd_2b (Tok_wordEnd_2 n) k σ = _
    unfold Tok_wordEnd_2b sWord
    rw [hc.1, wr_id (n := k) (by omega) (by omega), wr_id (n := len) (by omega) (by omega), if_neg (by omega), if_neg (hg.nw k (by omega))]
  | succ m ih =>
    intro n f k hk hk2 hm hn hf
    obtain ⟨n, rfl⟩ : ∃ z, n = z + 1 := ⟨n - 1, by omega⟩
    obtain ⟨f, rfl⟩ : ∃ z, f = z + 1 := ⟨f - 1, by omega⟩
    show Tok_wordEnd_2b (Tok_wordEnd_2 n) k σ = _
    unfold Tok_wordEnd_2b sWord
    rw [hc.1, wr_id (n := k) (by omega) (by omega), wr_id (n := len) (by omega) (by omega)]
    by_cases q : k < len
    · rw [if_pos q, tok_get hc hg hk (by omega)]
      simp only [Option.bind_some]
      rw [ai_isWordByte _ _ (cv_wr hg hk), cv_in q]
      simp only [Option.bind_some]
      by_cases q2 : isW (g k)
      · rw [if_pos q2, if_pos q2, wr_1, if_neg (by decide)]
        exact ih n f (k + 1) (by omega) (by omega) (by omega) (by omega) (by omega)
      · rw [if_neg q2, if_neg q2, wr_0, if_pos rfl]
    · rw [if_neg q, if_neg (hg.nw k (by omega))]
theorem tok_wordEnd {σ : Mem} {g : Int → Int} {len : Int} (hc : CtC σ g len) (hg : GV g len) {k : Int} (h0 : 0 ≤ k) (h1 : k ≤ 50) : Tok_wordEnd k σ = some (sWord g 40 k, σ) := by
  have h2 := hg.2.1
  exact tok_wordEnd_2 hc hg (len - k).toNat 100000 40 k h0 h1 (Nat.le_refl _) (by omega) (by omega)
noncomputable def adC (σ : Mem) (i s e t : Int) : Mem := upM (upM (upM (upM (upM σ 291 (σ 289 0).toNat i) 293 (σ 289 0).toNat s) 295 (σ 289 0).toNat (e - s)) 297 (σ 289 0).toNat t) 289 0 (σ 289 0 + 1)
theorem tok_add {σ : Mem} (h0 : 0 ≤ σ 289 0) (h1 : σ 289 0 < 640) (i s e t : Int) : Tok_add i s e t σ = some (0, adC σ i s e t) := by
  unfold Tok_add adC
  rw [wr_id (n := σ 289 0) (by omega) (by omega), if_pos h1, rs_290 h0 h1]
  simp only [Option.bind_some]
  have e1 : ∀ (o k : Nat) (v : Int) (ρ : Mem), o ≠ 289 → upM ρ o k v 289 0 = ρ 289 0 := fun o k v ρ h => by simp [upM, Ne.symm h]
  rw [e1 291 _ _ σ (by decide), rs_292 h0 h1]
  simp only [Option.bind_some]
  rw [e1 293 _ _ _ (by decide), e1 291 _ _ σ (by decide), rs_294 h0 h1]
  simp only [Option.bind_some]
  rw [e1 295 _ _ _ (by decide), e1 293 _ _ _ (by decide), e1 291 _ _ σ (by decide), rs_296 h0 h1]
  simp only [Option.bind_some]
  rw [e1 297 _ _ _ (by decide), e1 295 _ _ _ (by decide), e1 293 _ _ _ (by decide), e1 291 _ _ σ (by decide)]
  rfl
noncomputable def putC (i : Int) : List (Int × Int × Int) → Mem → Mem
  | [], σ => σ
  | q :: ts, σ => putC i ts (adC σ i q.1 q.2.1 q.2.2)
theorem adC_n (σ : Mem) (i s e t : Int) : adC σ i s e t 289 0 = σ 289 0 + 1 := by simp [adC, upM]
theorem adC_Ct {σ : Mem} {g : Int → Int} {len : Int} (hc : CtC σ g len) (i s e t : Int) : CtC (adC σ i s e t) g len := by
  refine ⟨?_, fun k hk => ?_⟩
  · have := hc.1; simpa [adC, upM] using this
  · have := hc.2 k hk; simpa [adC, upM] using this
theorem adC_9 (σ : Mem) (i s e t : Int) : adC σ i s e t 289 9 = σ 289 9 := by simp [adC, upM]
theorem adC_up9 (σ : Mem) (i s e t v : Int) : adC (upM σ 289 9 v) i s e t = upM (adC σ i s e t) 289 9 v := by
  unfold adC
  have e : upM σ 289 9 v 289 0 = σ 289 0 := by simp [upM]
  rw [e]
  rw [upM_comm (o := 289) (k := 9) (o2 := 291) (Or.inl (by decide)), upM_comm (o := 289) (k := 9) (o2 := 293) (Or.inl (by decide)), upM_comm (o := 289) (k := 9) (o2 := 295) (Or.inl (by decide)), upM_comm (o := 289) (k := 9) (o2 := 297) (Or.inl (by decide)), upM_comm (o := 289) (k := 9) (o2 := 289) (Or.inr (by decide))]
theorem CtC_up9 {σ : Mem} {g : Int → Int} {len v : Int} (hc : CtC σ g len) : CtC (upM σ 289 9 v) g len := ⟨by have := hc.1; simpa [upM] using this, fun k hk => by have := hc.2 k hk; simpa [upM] using this⟩
theorem mmaxI_eq {a b : Int} (ha : wr a = a) (hb : wr b = b) : mmaxI a b = if a < b then b else a := by unfold mmaxI; rw [ha, hb]
theorem tok_divideLine_47 {i : Nat} {g : Int → Int} {len cm : Int} (hg : GV g len) (hcm : cm = 0 ∨ (33 ≤ cm ∧ cm ≤ 126 ∧ cm ≠ 34 ∧ ¬ isW cm)) : ∀ (m n f : Nat) (k x3 : Int) (σ : Mem), CtC σ g len → 0 ≤ k → k ≤ 40 → 0 ≤ x3 → x3 ≤ k → 0 ≤ σ 289 0 → σ 289 9 = 0 → (k < len → σ 289 0 + (len - k) ≤ 640) → (len - k).toNat ≤ m → m < n → m < f →
    Tok_divideLine_47 n i cm x3 k σ = some (0, upM (putC i (sLine g len cm f k).1 σ) 289 9 (sLine g len cm f k).2) := by
  have h1 := hg.1
  have h2 := hg.2.1
  intro m
  induction m with
  | zero =>
    intro n f k x3 σ hc hk hk2 hx0 hx hn0 h9 hn1 hm hn hf
    obtain ⟨n, rfl⟩ : ∃ z, n = z + 1 := ⟨n - 1, by omega⟩
    obtain ⟨f, rfl⟩ : ∃ z, f = z + 1 := ⟨f - 1, by omega⟩
    have e : sLine g len cm (f + 1) k = ([], 0) := by unfold sLine; rw [if_neg (by omega)]
    rw [e]
    show Tok_divideLine_47b (Tok_divideLine_47 n) i cm x3 k σ = _
    unfold Tok_divideLine_47b
    rw [hc.1, wr_id (n := k) (by omega) (by omega), wr_id (n := len) (by omega) (by omega), if_neg (by omega)]
    simp only [putC]
    rw [upM_self h9]
  | succ m ih =>
    intro n f k x3 σ hc hk hk2 hx0 hx hn0 h9 hn1 hm hn hf
    obtain ⟨n, rfl⟩ : ∃ z, n = z + 1 := ⟨n - 1, by omega⟩
    obtain ⟨f, rfl⟩ : ∃ z, f = z + 1 := ⟨f - 1, by omega⟩
    have step : ∀ (e t x : Int), k + 1 ≤ e → e ≤ 40 → x ≤ e → 0 ≤ x → σ 289 0 < 640 → k < len → Tok_divideLine_47 n i cm x e (adC σ i k e t) = some (0, upM (putC i ((k, e, t) :: (sLine g len cm f e).1) σ) 289 9 (sLine g len cm f e).2) := by
      intro e t x he1 he2 hxe hx0 hnm hkl
      exact ih n f e x (adC σ i k e t) (adC_Ct hc i k e t) (by omega) he2 hx0 hxe (by rw [adC_n]; omega) (by rw [adC_9]; exact h9) (by rw [adC_n]; intro q; have := hn1 hkl; omega) (by omega) (by omega) (by omega)
    show Tok_divideLine_47b (Tok_divideLine_47 n) i cm x3 k σ = _
    unfold Tok_divideLine_47b
    rw [hc.1, wr_id (n := k) (by omega) (by omega), wr_id (n := len) (by omega) (by omega)]
    by_cases q : k < len
    · have hcnt := hn1 q
      have hb := hg.2.2.1 k hk q
      rw [if_pos q, tok_get hc hg hk (by omega)]
      simp only [Option.bind_some]
      rw [cv_wr hg hk, cv_in q, wr_id (n := cm) (by omega) (by omega), mmaxI_eq (wr_id (by omega) (by omega)) (wr_id (by omega) (by omega)), if_neg (show ¬ k + 1 < x3 by omega)]
      by_cases q4 : g k = cm
      · rw [if_pos q4]
        have e : sLine g len cm (f + 1) k = ([], 0) := by
          unfold sLine
          have ht : ¬ trip g k := fun z => by have := z.1; omega
          rw [if_pos q, if_neg (by omega), if_neg ht, if_neg (by omega), if_pos q4]
        rw [e]
        simp only [putC]
        rw [upM_self h9]
      · rw [if_neg q4]
        by_cases q3 : g k = 34
        · rw [if_pos q3, tok_three hc hg hk (by omega)]
          simp only [Option.bind_some]
          by_cases q2 : trip g k
          · rw [if_pos q2, wr_1, if_neg (by decide), tok_literalEnd hc hg (by omega) (by omega)]
            simp only [Option.bind_some]
            unfold Tok_divideLine_109
            have hl := sLit_rng g len 40 (k + 3)
            by_cases q5 : sLit g len 40 (k + 3) = -9
            · have e : sLine g len cm (f + 1) k = ([(k, len, 2)], 1) := by
                unfold sLine
                rw [if_pos q, if_neg (by omega), if_pos q2, if_pos q5]
              rw [e, if_pos q5, if_pos q5, tok_add (by simpa [upM] using hn0) (by simp [upM]; omega), adC_up9]
              simp only [Option.bind_some]
              rw [mmaxI_eq (wr_id (by omega) (by omega)) (wr_id (by omega) (by omega))]
              have el : (if k + 1 < len then len else k + 1) = len := by split <;> omega
              rw [el]
              obtain ⟨n2, rfl⟩ : ∃ z, n = z + 1 := ⟨n - 1, by omega⟩
              show Tok_divideLine_47b (Tok_divideLine_47 n2) i cm len len _ = _
              unfold Tok_divideLine_47b
              have hc3 := CtC_up9 (v := 1) (adC_Ct hc i k len 2)
              rw [hc3.1, if_neg (by omega)]
              rfl
            · have e : sLine g len cm (f + 1) k = ((k, sLit g len 40 (k + 3), 2) :: (sLine g len cm f (sLit g len 40 (k + 3))).1, (sLine g len cm f (sLit g len 40 (k + 3))).2) := by
                conv => lhs; unfold sLine
                rw [if_pos q, if_neg (by omega), if_pos q2, if_neg q5]
              rw [e, if_neg q5, if_neg q5, upM_self h9, tok_add hn0 (by omega)]
              simp only [Option.bind_some]
              rw [mmaxI_eq (wr_id (by omega) (by omega)) (wr_id (by omega) (by omega)), if_pos (by omega)]
              exact step _ 2 _ (by omega) (by omega) (by omega) (by omega) (by omega) q
          · rw [if_neg q2, wr_0, if_pos rfl, tok_stringEnd hc hg (by omega) (by omega)]
            simp only [Option.bind_some]
            unfold Tok_divideLine_109
            have hl := sStr_rng g len 40 (k + 1)
            have e : sLine g len cm (f + 1) k = ((k, sStr g len 40 (k + 1), 2) :: (sLine g len cm f (sStr g len 40 (k + 1))).1, (sLine g len cm f (sStr g len 40 (k + 1))).2) := by
              conv => lhs; unfold sLine
              rw [if_pos q, if_neg (by omega), if_neg q2, if_pos q3]
            rw [e, tok_add hn0 (by omega)]
            simp only [Option.bind_some]
            rw [mmaxI_eq (wr_id (by omega) (by omega)) (wr_id (by omega) (by omega))]
            have el : (if k + 1 < sStr g len 40 (k + 1) then sStr g len 40 (k + 1) else k + 1) = sStr g len 40 (k + 1) := by split <;> omega
            rw [el]
            exact step _ 2 _ (by omega) (by omega) (by omega) (by omega) (by omega) q
        · have ht : ¬ trip g k := fun z => q3 z.1
          rw [if_neg q3, ai_isWordByte _ _ (wr_id (by omega) (by omega))]
          simp only [Option.bind_some]
          by_cases q5 : isW (g k)
          · rw [if_pos q5, wr_1, if_neg (by decide), tok_wordEnd hc hg hk (by omega)]
            simp only [Option.bind_some]
            have hl := sWord_rng g len hg.nw 40 k
            have hl2 := sWord_gt g len hg.nw q5 40 (by omega)
            have hl3 := hl.2 (by omega)
            have e : sLine g len cm (f + 1) k = ((k, sWord g 40 k, 0) :: (sLine g len cm f (sWord g 40 k)).1, (sLine g len cm f (sWord g 40 k)).2) := by
              conv => lhs; unfold sLine
              rw [if_pos q, if_neg (by intro z; rw [z] at q5; simp [isW] at q5), if_neg ht, if_neg q3, if_neg q4, if_pos q5]
            rw [e, tok_add hn0 (by omega)]
            simp only [Option.bind_some]
            rw [mmaxI_eq (wr_id (by omega) (by omega)) (wr_id (by omega) (by omega))]
            have el : (if k + 1 < sWord g 40 k then sWord g 40 k else k + 1) = sWord g 40 k := by split <;> omega
            rw [el]
            exact step _ 0 _ (by omega) (by omega) (by omega) (by omega) (by omega) q
          · rw [if_neg q5, wr_0, if_pos rfl]
            by_cases q1 : g k = 32
            · rw [if_pos q1]
              have e : sLine g len cm (f + 1) k = sLine g len cm f (k + 1) := by
                conv => lhs; unfold sLine
                rw [if_pos q, if_pos q1]
              rw [e]
              exact ih n f (k + 1) x3 σ hc (by omega) (by omega) hx0 (by omega) hn0 h9 (by intro; omega) (by omega) (by omega) (by omega)
            · rw [if_neg q1, tok_add hn0 (by omega)]
              simp only [Option.bind_some]
              have e : sLine g len cm (f + 1) k = ((k, k + 1, 1) :: (sLine g len cm f (k + 1)).1, (sLine g len cm f (k + 1)).2) := by
                conv => lhs; unfold sLine
                rw [if_pos q, if_neg q1, if_neg ht, if_neg q3, if_neg q4, if_neg q5]
              rw [e]
              exact step _ 1 _ (by omega) (by omega) (by omega) (by omega) (by omega) q
    · rw [if_neg q]
      have e : sLine g len cm (f + 1) k = ([], 0) := by unfold sLine; rw [if_neg q]
      rw [e]
      simp only [putC]
      rw [upM_self h9]
