/-! ===== the class's rules and sets of rules ===== -/
theorem I3n (n : Nat) : I3 (n : Int) = nI n := Int32.ofInt_eq_ofNat
theorem nI_or (a b : Nat) : nI a ||| nI b = nI (a ||| b) := by
  apply Int32.toBitVec.inj
  rw [Int32.toBitVec_or]
  exact BitVec.ofNat_or.symm
theorem sh_amt : ∀ m : Nat, m < 32 → ((nI m &&& 31).toBitVec.smod 32).toNat = m := by decide +kernel
theorem shl_1 {m : Nat} (hm : m < 31) : shlI 1 (m : Int) = ((2 ^ m : Nat) : Int) := by
  have hp : (2 : Nat) ^ m ≤ 2 ^ 30 := Nat.pow_le_pow_right (by omega) (by omega)
  unfold shlI
  rw [I3n, show I3 1 = nI 1 from rfl, pk_shlN (n := 1) _ m (sh_amt m (by omega)) (by omega), nI_toInt (by omega)]
  simp
theorem shr_n {x r : Nat} (hx : x < 2 ^ 31) (hr : r < 31) : shrI (x : Int) (r : Int) = ((x / 2 ^ r : Nat) : Int) := by
  have hd : x / 2 ^ r ≤ x := Nat.div_le_self _ _
  unfold shrI
  rw [I3n, I3n, pk_shrN hx _ r (sh_amt r (by omega)), nI_toInt (by omega)]
theorem and_1 {x : Nat} (hx : x < 2 ^ 31) : andI (x : Int) 1 = ((x % 2 : Nat) : Int) := by
  unfold andI
  rw [I3n, pk_andN (n := x) (by omega) (m := I3 1) 1 (by decide), nI_toInt (by omega)]
theorem or_bits {m x : Nat} (hm : m < 30) (h : x < 2 ^ m) : orI (x : Int) (shlI 1 (m : Int)) = ((x + 2 ^ m : Nat) : Int) := by
  have hp : (2 : Nat) ^ m ≤ 2 ^ 29 := Nat.pow_le_pow_right (by omega) (by omega)
  have e : x ||| 2 ^ m = x + 2 ^ m := by
    have := Nat.two_pow_add_eq_or_of_lt h 1
    rw [Nat.mul_one] at this
    rw [Nat.or_comm, ← this, Nat.add_comm]
  rw [shl_1 (by omega)]
  unfold orI
  rw [I3n, I3n, nI_or, e, nI_toInt (by omega)]
theorem and_bits {r x : Nat} (hr : r < 31) (hx : x < 2 ^ 31) : wr (andI (shrI (x : Int) (r : Int)) 1) = ((x / 2 ^ r % 2 : Nat) : Int) := by
  have hd : x / 2 ^ r ≤ x := Nat.div_le_self _ _
  rw [shr_n hx hr, and_1 (by omega), wr_id (by omega) (by omega)]
noncomputable def mk (P : Nat → Prop) : Nat → Nat
  | 0 => 0
  | m + 1 => cif (P m) (mk P m + 2 ^ m) (mk P m)
theorem mk_lt (P : Nat → Prop) : ∀ m, mk P m < 2 ^ m
  | 0 => by simp [mk]
  | m + 1 => by
    have := mk_lt P m
    unfold mk
    rw [Nat.pow_succ]
    by_cases h : P m
    · rw [cif_pos h]; omega
    · rw [cif_neg h]; omega
theorem mk_bit (P : Nat → Prop) (r : Nat) : ∀ m, r < m → mk P m / 2 ^ r % 2 = cif (P r) 1 0
  | 0, h => by omega
  | m + 1, h => by
    have hl := mk_lt P m
    by_cases e : r = m
    · subst e
      have h0 : mk P r / 2 ^ r = 0 := Nat.div_eq_of_lt hl
      unfold mk
      by_cases q : P r
      · rw [cif_pos q, cif_pos q, Nat.add_div_right _ (Nat.two_pow_pos r), h0]
      · rw [cif_neg q, cif_neg q, h0]
    · have ih := mk_bit P r m (by omega)
      unfold mk
      by_cases q : P m
      · rw [cif_pos q]
        have e2 : 2 ^ m = 2 ^ r * (2 * 2 ^ (m - r - 1)) := by
          rw [← Nat.pow_succ', ← Nat.pow_add]
          congr 1
          omega
        rw [e2, Nat.add_mul_div_left _ _ (Nat.two_pow_pos r), Nat.add_mul_mod_self_left]
        exact ih
      · rw [cif_neg q]
        exact ih
theorem mk_zero (P : Nat → Prop) : ∀ m, (mk P m = 0) = ¬ ∃ r, r < m ∧ P r
  | 0 => by simp [mk]
  | m + 1 => by
    have ih := mk_zero P m
    have hp := Nat.two_pow_pos m
    unfold mk
    by_cases q : P m
    · rw [cif_pos q]
      simp only [eq_iff_iff]
      exact ⟨fun h => by omega, fun h => absurd ⟨m, by omega, q⟩ h⟩
    · rw [cif_neg q, ih]
      simp only [eq_iff_iff]
      exact ⟨fun h ⟨r, h1, h2⟩ => h ⟨r, by
        by_cases e : r = m
        · subst e; exact absurd h2 q
        · omega, h2⟩, fun h ⟨r, h1, h2⟩ => h ⟨r, by omega, h2⟩⟩
theorem mk_test {P : Nat → Prop} {r : Nat} (hr : r < 12) : wr (andI (shrI (mk P 12 : Nat) (r : Int)) 1) = cif (P r) 1 0 := by
  have h := mk_lt P 12
  rw [and_bits (by omega) (by omega), mk_bit P r 12 hr]
  by_cases q : P r
  · rw [cif_pos q, cif_pos q]; rfl
  · rw [cif_neg q, cif_neg q]; rfl
theorem mk_or {P : Nat → Prop} {m : Nat} (hm : m < 12) (h : P m) : orI (mk P m : Nat) (shlI 1 (m : Int)) = (mk P (m + 1) : Nat) := by
  have hl := mk_lt P m
  rw [or_bits (by omega) hl]
  conv => rhs; unfold mk
  rw [cif_pos h]
theorem mk_nor {P : Nat → Prop} {m : Nat} (h : ¬ P m) : mk P (m + 1) = mk P m := by
  conv => lhs; unfold mk
  rw [cif_neg h]
/-- a rule that is no pair has no second text -/
def CI (σ : Mem) (b : Nat) : Prop := ∀ r, r < 12 → σ (b + 12) r ≠ 0 → σ (b + 12) r ≠ 1 → σ (b + 22) (2 * r + 1) = 0
theorem aC_sort {σ : Mem} {r : Nat} (hr : r < 12) : absC σ 1 5 r = σ 13 r := by simp [absC, mkS, hr]
theorem aC_prec {σ : Mem} {r : Nat} (hr : r < 12) (h : absC σ 1 5 r ≠ 0) : absC σ 1 6 r = σ 15 r := by rw [aC_sort hr] at h; simp [absC, mkS, hr, h]
theorem aC_sp {σ : Mem} {r : Nat} (hr : r < 12) (h : absC σ 1 5 r ≠ 0) : absC σ 1 7 r = σ 17 r := by rw [aC_sort hr] at h; simp [absC, mkS, hr, h]
theorem aC_mode {σ : Mem} {r : Nat} (hr : r < 12) (h : absC σ 1 5 r = 1) : absC σ 1 8 r = σ 19 r := by rw [aC_sort hr] at h; simp [absC, mkS, hr, h]
theorem aC_clos {σ : Mem} {r : Nat} (hr : r < 12) (h : absC σ 1 5 r = 1) : absC σ 1 9 r = σ 21 r := by rw [aC_sort hr] at h; simp [absC, mkS, hr, h]
theorem aC_ts {σ : Mem} {r w : Nat} (hr : r < 12) (hw : w < 2) (hc : CI σ 1) (h0 : absC σ 1 5 r ≠ 0) : absC σ 1 10 (2 * r + w) = σ 23 (2 * r + w) := by
  rw [aC_sort hr] at h0
  simp only [absC, mkS]
  have e1 : (2 * r + w) / 2 = r := by omega
  have e2 : (2 * r + w) % 2 = w := by omega
  rw [e1, e2]
  by_cases q : w = 0 ∨ σ 13 r = 1
  · rw [if_pos ⟨by omega, h0, q⟩]
  · rw [if_neg (fun z => q z.2.2)]
    have hw1 : w = 1 := by omega
    subst hw1
    exact (hc r hr h0 (fun z => q (Or.inr z))).symm
theorem aC_tb {σ : Mem} {r w k : Nat} (hr : r < 12) (hw : w < 2) (hk : k < 8) (h0 : absC σ 1 5 r ≠ 0) (h1 : w = 0 ∨ absC σ 1 5 r = 1) (h2 : (k : Int) < σ 23 (2 * r + w)) : absC σ 1 11 (16 * r + 8 * w + k) = σ 25 (16 * r + 8 * w + k) := by
  rw [aC_sort hr] at h0 h1
  simp only [absC, mkS]
  have e1 : (16 * r + 8 * w + k) / 16 = r := by omega
  have e2 : (16 * r + 8 * w + k) / 8 % 2 = w := by omega
  have e3 : (16 * r + 8 * w + k) % 8 = k := by omega
  have e4 : (16 * r + 8 * w + k) / 8 = 2 * r + w := by omega
  rw [e1, e2, e3, e4, if_pos ⟨by omega, h0, h1, h2⟩]
theorem rul_has {σ : Mem} {S : Mem} (hS : SV S) (hA : absC σ 1 = S) {r : Nat} (hr : r < 12) : Rul_has r σ = some (if S 5 r = 0 then 0 else 1, σ) := by
  have h := hS.sort hr
  have e : σ 13 r = S 5 r := by rw [← hA, aC_sort hr]
  unfold Rul_has
  rw [rg_12 (by omega) (by omega)]
  simp only [Option.bind_some]
  rw [show ((r : Int)).toNat = r by omega, e, wr_id (n := S 5 r) (by omega) (by omega)]
  by_cases q : S 5 r = 0
  · rw [if_neg (by omega), if_pos q]
  · rw [if_pos (by omega), if_neg q]
abbrev TkC (S σ : Mem) : Prop := TkOK S (σ 291) (σ 293) (σ 295) (σ 297) (σ 299) (σ 301) (σ 289 0)
theorem rul_hasText_26 {S σ : Mem} (hS : SV S) (hA : absC σ 1 = S) {T : Nat} (hTn : T < fsS S (nS S)) {q L : Nat} (hq : q < 24) (hL : (L : Int) = (tq S T).2.2.1) (hL8 : L ≤ 8) (hb : ∀ j, j < L → 0 ≤ σ 25 (8 * q + j) ∧ σ 25 (8 * q + j) ≤ 126) :
    ∀ (m n k : Nat), k + m = L → m < n → Rul_hasText_26 n (tq S T).1 (tq S T).2.1 L q k σ = some (cif (∀ j, k ≤ j → j < L → gS S (tq S T).1 ((tq S T).2.1 + (j : Int)) = σ 25 (8 * q + j)) 1 0, σ) := by
  have hN := hS.n
  have hk := tq_ok hS hTn
  have hl := hS.len hk.1
  have hg := gS_GV hS hk.1
  intro m
  induction m with
  | zero =>
    intro n k hkm hn
    obtain ⟨n, rfl⟩ : ∃ z, n = z + 1 := ⟨n - 1, by omega⟩
    show Rul_hasText_26b (Rul_hasText_26 n) _ _ _ _ _ σ = _
    unfold Rul_hasText_26b
    rw [wr_id (n := (k : Int)) (by omega) (by omega), wr_id (n := (L : Int)) (by omega) (by omega), if_neg (by omega), cif_pos (fun j h1 h2 => by omega)]
  | succ m ih =>
    intro n k hkm hn
    obtain ⟨n, rfl⟩ : ∃ z, n = z + 1 := ⟨n - 1, by omega⟩
    have hbk := hb k (by omega)
    have hgr := hg.2.2.1 ((tq S T).2.1 + (k : Int)) (by omega) (by omega)
    show Rul_hasText_26b (Rul_hasText_26 n) _ _ _ _ _ σ = _
    unfold Rul_hasText_26b
    have hby := lin_byteOf (σ := σ) (i := (tq S T).1) (k := (tq S T).2.1 + (k : Int)) (by rw [hA]; exact hS) (by rw [hA]; exact hk.1) (by omega) (by omega)
    rw [hA, if_pos (by omega)] at hby
    rw [wr_id (n := (k : Int)) (by omega) (by omega), wr_id (n := (L : Int)) (by omega) (by omega), if_pos (by omega), rg_24 (by omega) (by omega)]
    simp only [Option.bind_some]
    rw [hby]
    simp only [Option.bind_some]
    rw [show ((q : Int) * 8 + (k : Int)).toNat = 8 * q + k by omega, wr_id (n := σ 25 (8 * q + k)) (by omega) (by omega), wr_id (n := gS S (tq S T).1 ((tq S T).2.1 + (k : Int))) (by omega) (by omega)]
    by_cases z : σ 25 (8 * q + k) = gS S (tq S T).1 ((tq S T).2.1 + (k : Int))
    · rw [if_pos z]
      have := ih n (k + 1) (by omega) (by omega)
      rw [show (((k + 1 : Nat)) : Int) = (k : Int) + 1 by omega] at this
      rw [this]
      by_cases y : ∀ j, k + 1 ≤ j → j < L → gS S (tq S T).1 ((tq S T).2.1 + (j : Int)) = σ 25 (8 * q + j)
      · rw [cif_pos y, cif_pos (fun j h1 h2 => by
          by_cases e : j = k
          · subst e; exact z.symm
          · exact y j (by omega) h2)]
      · rw [cif_neg y, cif_neg (fun x => y (fun j h1 h2 => x j (by omega) h2))]
    · rw [if_neg z, cif_neg (fun x => z (x k (Nat.le_refl _) (by omega)).symm)]
theorem rul_hasText {S σ : Mem} (hS : SV S) (hA : absC σ 1 = S) (hc : CI σ 1) {T : Nat} (hTn : T < fsS S (nS S)) (hk2 : (tq S T).2.2.2 < 2) {r w : Nat} (hr : r < 12) (hw : w < 2) (h0 : S 5 r ≠ 0) : Rul_hasText r w (tq S T).1 (tq S T).2.1 (tq S T).2.2.1 σ = some (cif (hasT S r w T) 1 0, σ) := by
  have hN := hS.n
  have hk := tq_ok hS hTn
  have hl := hS.len hk.1
  obtain ⟨s1, s2, s3, s4, s5⟩ := hS.2.2.2.2.2 r hr
  have ets : σ 23 (2 * r + w) = S 10 (2 * r + w) := by rw [← hA] at h0 ⊢; exact (aC_ts hr hw hc h0).symm
  have hSz : 0 ≤ S 10 (2 * r + w) ∧ S 10 (2 * r + w) ≤ 8 ∧ (S 10 (2 * r + w) ≠ 0 → w = 0 ∨ S 5 r = 1) := by
    by_cases e : w = 0
    · subst e; have := (s3 h0).2.2; rw [Nat.add_zero]; exact ⟨by omega, by omega, fun _ => Or.inl rfl⟩
    · by_cases e1 : S 5 r = 1
      · rw [show w = 1 by omega]; have := (s4 e1).2.2.2; exact ⟨by omega, by omega, fun _ => Or.inr e1⟩
      · have : σ 23 (2 * r + 1) = 0 := hc r hr (by have := aC_sort (σ := σ) hr; rw [hA] at this; show σ 13 r ≠ 0; omega) (by have := aC_sort (σ := σ) hr; rw [hA] at this; show σ 13 r ≠ 1; omega)
        rw [← ets, show w = 1 by omega, this]
        exact ⟨by omega, by omega, fun z => absurd rfl z⟩
  unfold Rul_hasText
  rw [rg_22 (by omega) (by omega)]
  simp only [Option.bind_some]
  rw [show (2 * (r : Int) + (w : Int)).toNat = 2 * r + w by omega, ets, wr_id (n := S 10 (2 * r + w)) (by omega) (by omega), wr_id (n := (tq S T).2.2.1) (by omega) (by omega)]
  by_cases q2 : S 10 (2 * r + w) = (tq S T).2.2.1
  · rw [if_pos q2]
    have hw1 := hSz.2.2 (by omega)
    have etb : ∀ k : Nat, (k : Int) < S 10 (2 * r + w) → S 11 (16 * r + 8 * w + k) = σ 25 (8 * (2 * r + w) + k) := by
      intro k hk3
      have hk8 : k < 8 := by omega
      have := aC_tb (σ := σ) hr hw hk8 (by rw [hA]; exact h0) (by rw [hA]; exact hw1) (by rw [ets]; exact hk3)
      rw [hA] at this
      rw [this]
      congr 1
      omega
    have hb : ∀ j, j < (S 10 (2 * r + w)).toNat → 0 ≤ σ 25 (8 * (2 * r + w) + j) ∧ σ 25 (8 * (2 * r + w) + j) ≤ 126 := by
      intro j hj
      rw [← etb j (by omega)]
      have := s5 (8 * w + j) (by omega)
      rw [show 16 * r + (8 * w + j) = 16 * r + 8 * w + j by omega] at this
      exact this
    have loop := rul_hasText_26 hS hA hTn (q := 2 * r + w) (L := (S 10 (2 * r + w)).toNat) (by omega) (by omega) (by omega) hb (S 10 (2 * r + w)).toNat 100000 0 (by omega) (by omega)
    rw [show (((S 10 (2 * r + w)).toNat : Nat) : Int) = (tq S T).2.2.1 by omega, show (((2 * r + w : Nat)) : Int) = 2 * (r : Int) + (w : Int) by omega] at loop
    have loop0 : Rul_hasText_26 100000 (tq S T).1 (tq S T).2.1 (tq S T).2.2.1 (2 * (r : Int) + (w : Int)) 0 σ = _ := loop
    rw [loop0]
    by_cases z : ∀ j, 0 ≤ j → j < (S 10 (2 * r + w)).toNat → gS S (tq S T).1 ((tq S T).2.1 + (j : Int)) = σ 25 (8 * (2 * r + w) + j)
    · rw [cif_pos z, cif_pos ⟨hk2, q2.symm, fun k hk3 => by rw [etb k hk3]; exact z k (Nat.zero_le _) (by omega)⟩]
    · rw [cif_neg z, cif_neg (fun y => z (fun j _ hj => by rw [← etb j (by omega)]; exact y.2.2 j (by omega)))]
  · rw [if_neg q2, cif_neg (fun y => q2 y.2.1.symm)]
