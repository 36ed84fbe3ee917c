/-! ===== how many bits a set has ===== -/
def bitN (s : Nat) : Nat → Nat
  | 0 => 0
  | k + 1 => bitN s k + s / 2 ^ k % 2
theorem md_bits_4 {s : Nat} (hs : s < 2 ^ 20) {τ : Mem} : ∀ (m n k : Nat), k + m = 20 → m < n → Md_bits_4 n s (bitN s k : Nat) k τ = some (((bitN s 20 : Nat) : Int), τ) := by
  intro m
  induction m with
  | zero =>
    intro n k hk hn
    obtain ⟨n, rfl⟩ : ∃ z, n = z + 1 := ⟨n - 1, by omega⟩
    show Md_bits_4b (Md_bits_4 n) s _ k τ = _
    unfold Md_bits_4b
    rw [wr_id (n := (k : Int)) (by omega) (by omega), if_neg (by omega), show k = 20 by omega]
  | succ m ih =>
    intro n k hk hn
    obtain ⟨n, rfl⟩ : ∃ z, n = z + 1 := ⟨n - 1, by omega⟩
    have hd : s / 2 ^ k ≤ s := Nat.div_le_self _ _
    show Md_bits_4b (Md_bits_4 n) s _ k τ = _
    unfold Md_bits_4b
    rw [wr_id (n := (k : Int)) (by omega) (by omega), if_pos (by omega), shr_n (by omega) (by omega), and_1 (by omega)]
    have := ih n (k + 1) (by omega) (by omega)
    rw [show (((k + 1 : Nat)) : Int) = (k : Int) + 1 by omega, show ((bitN s (k + 1) : Nat) : Int) = ((bitN s k : Nat) : Int) + ((s / 2 ^ k % 2 : Nat) : Int) by simp [bitN]] at this
    exact this
theorem md_bits {s : Nat} (hs : s < 2 ^ 20) (τ : Mem) : Md_bits s τ = some (((bitN s 20 : Nat) : Int), τ) := md_bits_4 hs 20 100000 0 (by omega) (by omega)
theorem sh_amtU : ∀ m : Nat, m < 32 → (((nI m).toUInt32 &&& Int32.toUInt32 31).toBitVec % 32).toNat = m := by decide +kernel
theorem ushr_n {x r : Nat} (hx : x < 2 ^ 31) (hr : r < 32) : ushrI (x : Int) (r : Int) = ((x / 2 ^ r : Nat) : Int) := by
  have hd : x / 2 ^ r ≤ x := Nat.div_le_self _ _
  unfold ushrI
  rw [I3n, I3n, pk_ushrN (by omega) _ r (sh_amtU r hr), nI_toInt (by omega)]
theorem nI_and (a b : Nat) : nI a &&& nI b = nI (a &&& b) := by
  apply Int32.toBitVec.inj
  rw [Int32.toBitVec_and]
  exact BitVec.ofNat_and.symm
theorem and_n {a b : Nat} (h : a &&& b < 2 ^ 31) : andI (a : Int) (b : Int) = ((a &&& b : Nat) : Int) := by
  unfold andI
  rw [I3n, I3n, nI_and, nI_toInt h]
theorem land_b (a b : Nat) : a &&& b = (a % 256 &&& b % 256) + 256 * ((a / 256) &&& (b / 256)) := by
  have h1 : (a &&& b) % 2 ^ 8 = (a % 2 ^ 8) &&& (b % 2 ^ 8) := Nat.and_mod_two_pow
  have h2 : (a &&& b) / 2 ^ 8 = (a / 2 ^ 8) &&& (b / 2 ^ 8) := Nat.and_div_two_pow
  have := Nat.mod_add_div (a &&& b) (2 ^ 8)
  rw [h1, h2] at this
  exact this.symm
def bP (b : Nat) : Nat := b - (b / 2 &&& 85)
def bQ (b : Nat) : Nat := (bP b &&& 51) + (bP b / 4 &&& 51)
def bR (b : Nat) : Nat := (bQ b + bQ b / 16) % 16
theorem b_1 : ∀ l, l < 256 → ∀ c, c < 2 → ((l / 2 + 128 * c) &&& 85) = (l / 2 &&& 85) ∧ (l / 2 &&& 85) ≤ l := by decide +kernel
theorem b_2 : ∀ l, l < 256 → ∀ c, c < 4 → ((l / 4 + 64 * c) &&& 51) = (l / 4 &&& 51) := by decide +kernel
theorem b_3 : ∀ l, l < 256 → bP l < 256 ∧ bQ l / 16 ≤ 4 ∧ bQ l % 16 ≤ 4 ∧ bQ l ≤ 68 := by decide +kernel
theorem b_4 : ∀ l, l < 256 → bR l = l % 2 + l / 2 % 2 + l / 4 % 2 + l / 8 % 2 + l / 16 % 2 + l / 32 % 2 + l / 64 % 2 + l / 128 % 2 := by decide +kernel
theorem b_5 : ∀ l, l < 256 → (l &&& 15) = l % 16 := by decide +kernel
theorem land3 (a b : Nat) : a &&& b = (a % 256 &&& b % 256) + 256 * (a / 256 % 256 &&& b / 256 % 256) + 65536 * (a / 65536 &&& b / 65536) := by
  rw [land_b a b, land_b (a / 256) (b / 256), Nat.div_div_eq_div_mul, Nat.div_div_eq_div_mul, show 256 * 256 = 65536 from rfl]
  omega
theorem bc_s1 {x : Nat} (hx : x < 2 ^ 20) : x - (x / 2 &&& 1431655765) = bP (x % 256) + 256 * bP (x / 256 % 256) + 65536 * bP (x / 65536) := by
  have e1 := (b_1 (x % 256) (by omega) (x / 256 % 2) (by omega))
  have e2 := (b_1 (x / 256 % 256) (by omega) (x / 65536 % 2) (by omega))
  have e3 := (b_1 (x / 65536) (by omega) 0 (by omega))
  rw [land3 (x / 2) 1431655765]
  rw [show x / 2 % 256 = x % 256 / 2 + 128 * (x / 256 % 2) by omega, show x / 2 / 256 % 256 = x / 256 % 256 / 2 + 128 * (x / 65536 % 2) by omega, show x / 2 / 65536 = x / 65536 / 2 + 128 * 0 by omega, show 1431655765 % 256 = 85 from rfl, e1.1, e2.1]
  have e4 : (x / 65536 / 2 + 128 * 0 &&& 1431655765 / 65536) = (x / 65536 / 2 &&& 85) := by
    rw [land_b _ (1431655765 / 65536), show (x / 65536 / 2 + 128 * 0) % 256 = x / 65536 / 2 by omega, show (x / 65536 / 2 + 128 * 0) / 256 = 0 by omega, Nat.zero_and]
    rfl
  rw [e4]
  unfold bP
  omega
theorem bc_and {A B C : Nat} (hA : A < 256) (hB : B < 256) (hC : C < 256) {m M : Nat} (hm : M % 256 = m) (hm2 : M / 256 % 256 = m) (hm3 : M / 65536 % 256 = m) : (A + 256 * B + 65536 * C) &&& M = (A &&& m) + 256 * (B &&& m) + 65536 * (C &&& m) := by
  rw [land3, hm, hm2, show (A + 256 * B + 65536 * C) % 256 = A by omega, show (A + 256 * B + 65536 * C) / 256 % 256 = B by omega, show (A + 256 * B + 65536 * C) / 65536 = C by omega, land_b C, hm3, show C % 256 = C by omega, show C / 256 = 0 by omega, Nat.zero_and]
  omega
theorem bc_s2 {A B C a b c : Nat} (hA : A < 256) (hB : B < 256) (hC : C < 256) (ha : bP a = A) (hb : bP b = B) (hc : bP c = C) : (A + 256 * B + 65536 * C &&& 858993459) + ((A + 256 * B + 65536 * C) / 4 &&& 858993459) = bQ a + 256 * bQ b + 65536 * bQ c := by
  have e1 := b_2 A hA (B % 4) (by omega)
  have e2 := b_2 B hB (C % 4) (by omega)
  rw [bc_and hA hB hC (m := 51) rfl rfl rfl, show (A + 256 * B + 65536 * C) / 4 = (A / 4 + 64 * (B % 4)) + 256 * (B / 4 + 64 * (C % 4)) + 65536 * (C / 4) by omega, bc_and (by omega) (by omega) (by omega) (m := 51) rfl rfl rfl, e1, e2]
  unfold bQ
  rw [ha, hb, hc]
  omega
theorem bc_s3 {a b c : Nat} (ha : a < 256) (hb : b < 256) (hc : c < 256) : ((bQ a + 256 * bQ b + 65536 * bQ c) + (bQ a + 256 * bQ b + 65536 * bQ c) / 16 &&& 252645135) = bR a + 256 * bR b + 65536 * bR c := by
  have h1 := b_3 a ha
  have h2 := b_3 b hb
  have h3 := b_3 c hc
  rw [show (bQ a + 256 * bQ b + 65536 * bQ c) + (bQ a + 256 * bQ b + 65536 * bQ c) / 16 = (bQ a + bQ a / 16 + 16 * (bQ b % 16)) + 256 * (bQ b + bQ b / 16 + 16 * (bQ c % 16)) + 65536 * (bQ c + bQ c / 16) by omega, bc_and (by omega) (by omega) (by omega) (m := 15) rfl rfl rfl, b_5 _ (by omega), b_5 _ (by omega), b_5 _ (by omega)]
  unfold bR
  omega
theorem bit20 {x : Nat} (hx : x < 2 ^ 20) : bR (x % 256) + bR (x / 256 % 256) + bR (x / 65536) = bitN x 20 := by
  rw [b_4 _ (by omega), b_4 _ (by omega), b_4 _ (by omega)]
  simp only [bitN]
  simp only [Nat.reducePow, Nat.div_one]
  have f : ∀ p q, 256 = p * q → q % 2 = 0 → x % 256 / p % 2 = x / p % 2 := by
    intro p q h1 h2
    rw [h1, Nat.mod_mul_right_div_self, Nat.mod_mod_of_dvd _ (Nat.dvd_of_mod_eq_zero h2)]
  have g : ∀ p q, 256 = p * q → q % 2 = 0 → x / 256 % 256 / p % 2 = x / (256 * p) % 2 := by
    intro p q h1 h2
    have e : x / 256 % 256 / p % 2 = x / 256 % (p * q) / p % 2 := by rw [← h1]
    rw [e, Nat.mod_mul_right_div_self, Nat.mod_mod_of_dvd _ (Nat.dvd_of_mod_eq_zero h2), Nat.div_div_eq_div_mul]
  rw [f 2 128 rfl rfl, f 4 64 rfl rfl, f 8 32 rfl rfl, f 16 16 rfl rfl, f 32 8 rfl rfl, f 64 4 rfl rfl, f 128 2 rfl rfl, g 2 128 rfl rfl, g 4 64 rfl rfl, g 8 32 rfl rfl, g 16 16 rfl rfl, g 32 8 rfl rfl, g 64 4 rfl rfl, g 128 2 rfl rfl]
  rw [show x % 256 % 2 = x % 2 by omega, show x / 256 % 256 % 2 = x / 256 % 2 by omega, Nat.div_div_eq_div_mul, Nat.div_div_eq_div_mul, Nat.div_div_eq_div_mul, Nat.div_div_eq_div_mul, Nat.div_div_eq_div_mul, Nat.div_div_eq_div_mul, Nat.div_div_eq_div_mul]
  have z : ∀ p, 2 ^ 20 ≤ p → x / p % 2 = 0 := fun p hp => by rw [Nat.div_eq_of_lt (by omega)]
  simp only [Nat.reduceMul]
  rw [z 1048576 (by omega), z 2097152 (by omega), z 4194304 (by omega), z 8388608 (by omega)]
  omega
theorem bc_fin {u1 u2 u3 : Nat} (h1 : u1 < 16) (h2 : u2 < 16) (h3 : u3 < 16) : (u1 + 256 * u2 + 65536 * u3 + (u2 + 256 * u3) + (u1 + 256 * u2 + 65536 * u3 + (u2 + 256 * u3)) / 65536) % 64 = u1 + u2 + u3 := by
  have e : (u1 + 256 * u2 + 65536 * u3 + (u2 + 256 * u3)) / 65536 = u3 := by omega
  rw [e]
  omega
theorem itg_bitCount {x : Nat} (hx : x < 2 ^ 20) (σ : Mem) : Itg_bitCount x σ = some (((bitN x 20 : Nat) : Int), σ) := by
  have hd : x / 2 ^ 1 ≤ x := Nat.div_le_self _ _
  have hl : (x / 2 &&& 1431655765) ≤ x / 2 := Nat.and_le_left
  have s1 := bc_s1 hx
  have p1 := b_3 (x % 256) (by omega)
  have p2 := b_3 (x / 256 % 256) (by omega)
  have p3 := b_3 (x / 65536) (by omega)
  have s2 := bc_s2 p1.1 p2.1 p3.1 rfl rfl rfl
  have s3 := bc_s3 (a := x % 256) (b := x / 256 % 256) (c := x / 65536) (by omega) (by omega) (by omega)
  have s4 := bit20 hx
  have r1 : bR (x % 256) < 16 := by unfold bR; omega
  have r2 : bR (x / 256 % 256) < 16 := by unfold bR; omega
  have r3 : bR (x / 65536) < 16 := by unfold bR; omega
  have E1 : (x : Int) - andI (ushrI (x : Int) 1) 1431655765 = ((x - (x / 2 &&& 1431655765) : Nat) : Int) := by
    rw [show (1 : Int) = ((1 : Nat) : Int) from rfl, ushr_n (by omega) (by omega), show (1431655765 : Int) = ((1431655765 : Nat) : Int) from rfl, and_n (by rw [Nat.pow_one]; omega), Nat.pow_one]
    omega
  generalize hy : x - (x / 2 &&& 1431655765) = y at E1 s1
  rw [← s1] at s2
  have hyb : y < 2 ^ 24 := by omega
  have hya : (y &&& 858993459) ≤ y := Nat.and_le_left
  have hyc : (y / 4 &&& 858993459) ≤ y / 4 := Nat.and_le_left
  have E2 : andI (y : Int) 858993459 + andI (ushrI (y : Int) 2) 858993459 = (((y &&& 858993459) + (y / 4 &&& 858993459) : Nat) : Int) := by
    rw [show (2 : Int) = ((2 : Nat) : Int) from rfl, ushr_n (by omega) (by omega), show (858993459 : Int) = ((858993459 : Nat) : Int) from rfl, and_n (by omega), show 2 ^ 2 = 4 from rfl, and_n (by omega)]
    omega
  generalize hz : (y &&& 858993459) + (y / 4 &&& 858993459) = z at E2 s2
  rw [← s2] at s3
  have hzb : z < 2 ^ 25 := by omega
  have hza : (z + z / 16 &&& 252645135) ≤ z + z / 16 := Nat.and_le_left
  have E3 : andI ((z : Int) + ushrI (z : Int) 4) 252645135 = ((z + z / 16 &&& 252645135 : Nat) : Int) := by
    rw [show (4 : Int) = ((4 : Nat) : Int) from rfl, ushr_n (by omega) (by omega), show 2 ^ 4 = 16 from rfl, show (252645135 : Int) = ((252645135 : Nat) : Int) from rfl, show (z : Int) + ((z / 16 : Nat) : Int) = ((z + z / 16 : Nat) : Int) by omega, and_n (by omega)]
  generalize hw : (z + z / 16 &&& 252645135) = w at E3 s3
  have E4 : (w : Int) + ushrI (w : Int) 8 = ((w + w / 256 : Nat) : Int) := by
    rw [show (8 : Int) = ((8 : Nat) : Int) from rfl, ushr_n (by omega) (by omega)]
    omega
  have E5 : ((w + w / 256 : Nat) : Int) + ushrI ((w + w / 256 : Nat) : Int) 16 = ((w + w / 256 + (w + w / 256) / 65536 : Nat) : Int) := by
    rw [show (16 : Int) = ((16 : Nat) : Int) from rfl, ushr_n (by omega) (by omega)]
    omega
  unfold Itg_bitCount
  rw [E1, E2, E3, E4, E5]
  have E6 : andI ((w + w / 256 + (w + w / 256) / 65536 : Nat) : Int) 63 = (((w + w / 256 + (w + w / 256) / 65536) % 64 : Nat) : Int) := by
    unfold andI
    rw [I3n, pk_andN (by omega) (m := I3 63) 6 (by decide), nI_toInt (by omega)]
  rw [E6]
  congr 2
  generalize bR (x % 256) = u1 at *
  generalize bR (x / 256 % 256) = u2 at *
  generalize bR (x / 65536) = u3 at *
  have hw2 : w = u1 + 256 * u2 + 65536 * u3 := s3
  have hw3 : w / 256 = u2 + 256 * u3 := by omega
  rw [hw3, hw2, ← s4]
  exact congrArg Int.ofNat (bc_fin r1 r2 r3)
theorem bitN_add {s i : Nat} (hs : s < 2 ^ i) : ∀ m, bitN (s + 2 ^ i) m = bitN s m + (if i < m then 1 else 0)
  | 0 => by simp [bitN]
  | m + 1 => by
    have ih := bitN_add hs m
    simp only [bitN]
    rw [ih]
    by_cases e : m = i
    · subst e
      rw [if_neg (by omega), if_pos (by omega), Nat.add_div_right _ (Nat.two_pow_pos m), Nat.div_eq_of_lt hs]
    · by_cases q : m < i
      · rw [if_neg (by omega), if_neg (by omega)]
        have e2 : 2 ^ i = 2 ^ m * (2 * 2 ^ (i - m - 1)) := by
          rw [← Nat.pow_succ', ← Nat.pow_add]
          congr 1
          omega
        rw [e2, Nat.add_mul_div_left _ _ (Nat.two_pow_pos m), Nat.add_mul_mod_self_left]
        omega
      · rw [if_pos (by omega), if_pos (by omega)]
        have hp : 2 ^ (i + 1) ≤ 2 ^ m := Nat.pow_le_pow_right (by omega) (by omega)
        have hpp : 2 ^ (i + 1) = 2 ^ i * 2 := Nat.pow_succ 2 i
        rw [Nat.div_eq_of_lt (show s + 2 ^ i < 2 ^ m by omega), Nat.div_eq_of_lt (show s < 2 ^ m by omega)]
theorem bitN_le (s : Nat) : ∀ m, bitN s m ≤ m
  | 0 => by simp [bitN]
  | m + 1 => by have := bitN_le s m; simp only [bitN]; omega
