/-! ===== the rows of the class ===== -/
theorem row_get {o n : Nat} (hn : lnA (o + 1) = n) {σ : Mem} {i : Int} (h0 : 0 ≤ i) (h1 : i < n) (hb : n ≤ 10000) : Row_get o i σ = some (σ (o + 1) i.toNat, σ) := by
  unfold Row_get
  rw [hn, wr_id (n := i) (by omega) (by omega), wr_id (n := (n : Int)) (by omega) (by omega), if_neg (by omega), if_pos h1, if_pos ⟨h0, h1⟩]
theorem row_gex {o n : Nat} (hn : lnA (o + 1) = n) {σ : Mem} {i : Int} (h : i < 0 ∨ (n : Int) ≤ i) (hr : -2147483648 ≤ i ∧ i ≤ 2147483647) (hb : n ≤ 10000) : Row_get o i σ = some (-1, σ) := by
  unfold Row_get
  rw [hn, wr_id (n := i) (by omega) (by omega), wr_id (n := (n : Int)) (by omega) (by omega)]
  by_cases q : i < 0
  · rw [if_pos q]
  · rw [if_neg q, if_neg (by omega)]
theorem row_set {o n : Nat} (hn : lnA (o + 1) = n) {σ : Mem} {i v : Int} (h0 : 0 ≤ i) (h1 : i < n) (hb : n ≤ 10000) : Row_set o i v σ = some (0, upM σ (o + 1) i.toNat v) := by
  unfold Row_set
  rw [hn, wr_id (n := i) (by omega) (by omega), wr_id (n := (n : Int)) (by omega) (by omega), if_neg (by omega), if_pos h1, if_pos ⟨h0, h1⟩]
  rfl
theorem row_sex {o n : Nat} (hn : lnA (o + 1) = n) {σ : Mem} {i v : Int} (h : i < 0 ∨ (n : Int) ≤ i) (hr : -2147483648 ≤ i ∧ i ≤ 2147483647) (hb : n ≤ 10000) : Row_set o i v σ = some (0, σ) := by
  unfold Row_set
  rw [hn, wr_id (n := i) (by omega) (by omega), wr_id (n := (n : Int)) (by omega) (by omega)]
  by_cases q : i < 0
  · rw [if_pos q]
  · rw [if_neg q, if_neg (by omega)]
theorem lnA_4 : lnA 4 = 20 := by decide +kernel
theorem rg_3 {σ : Mem} {i : Int} (h0 : 0 ≤ i) (h1 : i < 20) : Row_get 3 i σ = some (σ 4 i.toNat, σ) := row_get lnA_4 h0 h1 (by omega)
theorem rx_3 {σ : Mem} {i : Int} (h : i < 0 ∨ 20 ≤ i) (hr : -2147483648 ≤ i ∧ i ≤ 2147483647) : Row_get 3 i σ = some (-1, σ) := row_gex lnA_4 h hr (by omega)
theorem rs_3 {σ : Mem} {i v : Int} (h0 : 0 ≤ i) (h1 : i < 20) : Row_set 3 i v σ = some (0, upM σ 4 i.toNat v) := row_set lnA_4 h0 h1 (by omega)
theorem ry_3 {σ : Mem} {i v : Int} (h : i < 0 ∨ 20 ≤ i) (hr : -2147483648 ≤ i ∧ i ≤ 2147483647) : Row_set 3 i v σ = some (0, σ) := row_sex lnA_4 h hr (by omega)
theorem lnA_6 : lnA 6 = 20 := by decide +kernel
theorem rg_5 {σ : Mem} {i : Int} (h0 : 0 ≤ i) (h1 : i < 20) : Row_get 5 i σ = some (σ 6 i.toNat, σ) := row_get lnA_6 h0 h1 (by omega)
theorem rx_5 {σ : Mem} {i : Int} (h : i < 0 ∨ 20 ≤ i) (hr : -2147483648 ≤ i ∧ i ≤ 2147483647) : Row_get 5 i σ = some (-1, σ) := row_gex lnA_6 h hr (by omega)
theorem rs_5 {σ : Mem} {i v : Int} (h0 : 0 ≤ i) (h1 : i < 20) : Row_set 5 i v σ = some (0, upM σ 6 i.toNat v) := row_set lnA_6 h0 h1 (by omega)
theorem ry_5 {σ : Mem} {i v : Int} (h : i < 0 ∨ 20 ≤ i) (hr : -2147483648 ≤ i ∧ i ≤ 2147483647) : Row_set 5 i v σ = some (0, σ) := row_sex lnA_6 h hr (by omega)
theorem lnA_8 : lnA 8 = 20 := by decide +kernel
theorem rg_7 {σ : Mem} {i : Int} (h0 : 0 ≤ i) (h1 : i < 20) : Row_get 7 i σ = some (σ 8 i.toNat, σ) := row_get lnA_8 h0 h1 (by omega)
theorem rx_7 {σ : Mem} {i : Int} (h : i < 0 ∨ 20 ≤ i) (hr : -2147483648 ≤ i ∧ i ≤ 2147483647) : Row_get 7 i σ = some (-1, σ) := row_gex lnA_8 h hr (by omega)
theorem rs_7 {σ : Mem} {i v : Int} (h0 : 0 ≤ i) (h1 : i < 20) : Row_set 7 i v σ = some (0, upM σ 8 i.toNat v) := row_set lnA_8 h0 h1 (by omega)
theorem ry_7 {σ : Mem} {i v : Int} (h : i < 0 ∨ 20 ≤ i) (hr : -2147483648 ≤ i ∧ i ≤ 2147483647) : Row_set 7 i v σ = some (0, σ) := row_sex lnA_8 h hr (by omega)
theorem lnA_10 : lnA 10 = 640 := by decide +kernel
theorem rg_9 {σ : Mem} {i : Int} (h0 : 0 ≤ i) (h1 : i < 640) : Row_get 9 i σ = some (σ 10 i.toNat, σ) := row_get lnA_10 h0 h1 (by omega)
theorem rx_9 {σ : Mem} {i : Int} (h : i < 0 ∨ 640 ≤ i) (hr : -2147483648 ≤ i ∧ i ≤ 2147483647) : Row_get 9 i σ = some (-1, σ) := row_gex lnA_10 h hr (by omega)
theorem rs_9 {σ : Mem} {i v : Int} (h0 : 0 ≤ i) (h1 : i < 640) : Row_set 9 i v σ = some (0, upM σ 10 i.toNat v) := row_set lnA_10 h0 h1 (by omega)
theorem ry_9 {σ : Mem} {i v : Int} (h : i < 0 ∨ 640 ≤ i) (hr : -2147483648 ≤ i ∧ i ≤ 2147483647) : Row_set 9 i v σ = some (0, σ) := row_sex lnA_10 h hr (by omega)
theorem lnA_13 : lnA 13 = 12 := by decide +kernel
theorem rg_12 {σ : Mem} {i : Int} (h0 : 0 ≤ i) (h1 : i < 12) : Row_get 12 i σ = some (σ 13 i.toNat, σ) := row_get lnA_13 h0 h1 (by omega)
theorem rx_12 {σ : Mem} {i : Int} (h : i < 0 ∨ 12 ≤ i) (hr : -2147483648 ≤ i ∧ i ≤ 2147483647) : Row_get 12 i σ = some (-1, σ) := row_gex lnA_13 h hr (by omega)
theorem rs_12 {σ : Mem} {i v : Int} (h0 : 0 ≤ i) (h1 : i < 12) : Row_set 12 i v σ = some (0, upM σ 13 i.toNat v) := row_set lnA_13 h0 h1 (by omega)
theorem ry_12 {σ : Mem} {i v : Int} (h : i < 0 ∨ 12 ≤ i) (hr : -2147483648 ≤ i ∧ i ≤ 2147483647) : Row_set 12 i v σ = some (0, σ) := row_sex lnA_13 h hr (by omega)
theorem lnA_15 : lnA 15 = 12 := by decide +kernel
theorem rg_14 {σ : Mem} {i : Int} (h0 : 0 ≤ i) (h1 : i < 12) : Row_get 14 i σ = some (σ 15 i.toNat, σ) := row_get lnA_15 h0 h1 (by omega)
theorem rx_14 {σ : Mem} {i : Int} (h : i < 0 ∨ 12 ≤ i) (hr : -2147483648 ≤ i ∧ i ≤ 2147483647) : Row_get 14 i σ = some (-1, σ) := row_gex lnA_15 h hr (by omega)
theorem rs_14 {σ : Mem} {i v : Int} (h0 : 0 ≤ i) (h1 : i < 12) : Row_set 14 i v σ = some (0, upM σ 15 i.toNat v) := row_set lnA_15 h0 h1 (by omega)
theorem ry_14 {σ : Mem} {i v : Int} (h : i < 0 ∨ 12 ≤ i) (hr : -2147483648 ≤ i ∧ i ≤ 2147483647) : Row_set 14 i v σ = some (0, σ) := row_sex lnA_15 h hr (by omega)
theorem lnA_17 : lnA 17 = 12 := by decide +kernel
theorem rg_16 {σ : Mem} {i : Int} (h0 : 0 ≤ i) (h1 : i < 12) : Row_get 16 i σ = some (σ 17 i.toNat, σ) := row_get lnA_17 h0 h1 (by omega)
theorem rx_16 {σ : Mem} {i : Int} (h : i < 0 ∨ 12 ≤ i) (hr : -2147483648 ≤ i ∧ i ≤ 2147483647) : Row_get 16 i σ = some (-1, σ) := row_gex lnA_17 h hr (by omega)
theorem rs_16 {σ : Mem} {i v : Int} (h0 : 0 ≤ i) (h1 : i < 12) : Row_set 16 i v σ = some (0, upM σ 17 i.toNat v) := row_set lnA_17 h0 h1 (by omega)
theorem ry_16 {σ : Mem} {i v : Int} (h : i < 0 ∨ 12 ≤ i) (hr : -2147483648 ≤ i ∧ i ≤ 2147483647) : Row_set 16 i v σ = some (0, σ) := row_sex lnA_17 h hr (by omega)
theorem lnA_19 : lnA 19 = 12 := by decide +kernel
theorem rg_18 {σ : Mem} {i : Int} (h0 : 0 ≤ i) (h1 : i < 12) : Row_get 18 i σ = some (σ 19 i.toNat, σ) := row_get lnA_19 h0 h1 (by omega)
theorem rx_18 {σ : Mem} {i : Int} (h : i < 0 ∨ 12 ≤ i) (hr : -2147483648 ≤ i ∧ i ≤ 2147483647) : Row_get 18 i σ = some (-1, σ) := row_gex lnA_19 h hr (by omega)
theorem rs_18 {σ : Mem} {i v : Int} (h0 : 0 ≤ i) (h1 : i < 12) : Row_set 18 i v σ = some (0, upM σ 19 i.toNat v) := row_set lnA_19 h0 h1 (by omega)
theorem ry_18 {σ : Mem} {i v : Int} (h : i < 0 ∨ 12 ≤ i) (hr : -2147483648 ≤ i ∧ i ≤ 2147483647) : Row_set 18 i v σ = some (0, σ) := row_sex lnA_19 h hr (by omega)
theorem lnA_21 : lnA 21 = 12 := by decide +kernel
theorem rg_20 {σ : Mem} {i : Int} (h0 : 0 ≤ i) (h1 : i < 12) : Row_get 20 i σ = some (σ 21 i.toNat, σ) := row_get lnA_21 h0 h1 (by omega)
theorem rx_20 {σ : Mem} {i : Int} (h : i < 0 ∨ 12 ≤ i) (hr : -2147483648 ≤ i ∧ i ≤ 2147483647) : Row_get 20 i σ = some (-1, σ) := row_gex lnA_21 h hr (by omega)
theorem rs_20 {σ : Mem} {i v : Int} (h0 : 0 ≤ i) (h1 : i < 12) : Row_set 20 i v σ = some (0, upM σ 21 i.toNat v) := row_set lnA_21 h0 h1 (by omega)
theorem ry_20 {σ : Mem} {i v : Int} (h : i < 0 ∨ 12 ≤ i) (hr : -2147483648 ≤ i ∧ i ≤ 2147483647) : Row_set 20 i v σ = some (0, σ) := row_sex lnA_21 h hr (by omega)
theorem lnA_23 : lnA 23 = 24 := by decide +kernel
theorem rg_22 {σ : Mem} {i : Int} (h0 : 0 ≤ i) (h1 : i < 24) : Row_get 22 i σ = some (σ 23 i.toNat, σ) := row_get lnA_23 h0 h1 (by omega)
theorem rx_22 {σ : Mem} {i : Int} (h : i < 0 ∨ 24 ≤ i) (hr : -2147483648 ≤ i ∧ i ≤ 2147483647) : Row_get 22 i σ = some (-1, σ) := row_gex lnA_23 h hr (by omega)
theorem rs_22 {σ : Mem} {i v : Int} (h0 : 0 ≤ i) (h1 : i < 24) : Row_set 22 i v σ = some (0, upM σ 23 i.toNat v) := row_set lnA_23 h0 h1 (by omega)
theorem ry_22 {σ : Mem} {i v : Int} (h : i < 0 ∨ 24 ≤ i) (hr : -2147483648 ≤ i ∧ i ≤ 2147483647) : Row_set 22 i v σ = some (0, σ) := row_sex lnA_23 h hr (by omega)
theorem lnA_25 : lnA 25 = 192 := by decide +kernel
theorem rg_24 {σ : Mem} {i : Int} (h0 : 0 ≤ i) (h1 : i < 192) : Row_get 24 i σ = some (σ 25 i.toNat, σ) := row_get lnA_25 h0 h1 (by omega)
theorem rx_24 {σ : Mem} {i : Int} (h : i < 0 ∨ 192 ≤ i) (hr : -2147483648 ≤ i ∧ i ≤ 2147483647) : Row_get 24 i σ = some (-1, σ) := row_gex lnA_25 h hr (by omega)
theorem rs_24 {σ : Mem} {i v : Int} (h0 : 0 ≤ i) (h1 : i < 192) : Row_set 24 i v σ = some (0, upM σ 25 i.toNat v) := row_set lnA_25 h0 h1 (by omega)
theorem ry_24 {σ : Mem} {i v : Int} (h : i < 0 ∨ 192 ≤ i) (hr : -2147483648 ≤ i ∧ i ≤ 2147483647) : Row_set 24 i v σ = some (0, σ) := row_sex lnA_25 h hr (by omega)
theorem lnA_28 : lnA 28 = 72 := by decide +kernel
theorem rg_27 {σ : Mem} {i : Int} (h0 : 0 ≤ i) (h1 : i < 72) : Row_get 27 i σ = some (σ 28 i.toNat, σ) := row_get lnA_28 h0 h1 (by omega)
theorem rx_27 {σ : Mem} {i : Int} (h : i < 0 ∨ 72 ≤ i) (hr : -2147483648 ≤ i ∧ i ≤ 2147483647) : Row_get 27 i σ = some (-1, σ) := row_gex lnA_28 h hr (by omega)
theorem rs_27 {σ : Mem} {i v : Int} (h0 : 0 ≤ i) (h1 : i < 72) : Row_set 27 i v σ = some (0, upM σ 28 i.toNat v) := row_set lnA_28 h0 h1 (by omega)
theorem ry_27 {σ : Mem} {i v : Int} (h : i < 0 ∨ 72 ≤ i) (hr : -2147483648 ≤ i ∧ i ≤ 2147483647) : Row_set 27 i v σ = some (0, σ) := row_sex lnA_28 h hr (by omega)
theorem lnA_31 : lnA 31 = 2 := by decide +kernel
theorem rg_30 {σ : Mem} {i : Int} (h0 : 0 ≤ i) (h1 : i < 2) : Row_get 30 i σ = some (σ 31 i.toNat, σ) := row_get lnA_31 h0 h1 (by omega)
theorem rx_30 {σ : Mem} {i : Int} (h : i < 0 ∨ 2 ≤ i) (hr : -2147483648 ≤ i ∧ i ≤ 2147483647) : Row_get 30 i σ = some (-1, σ) := row_gex lnA_31 h hr (by omega)
theorem rs_30 {σ : Mem} {i v : Int} (h0 : 0 ≤ i) (h1 : i < 2) : Row_set 30 i v σ = some (0, upM σ 31 i.toNat v) := row_set lnA_31 h0 h1 (by omega)
theorem ry_30 {σ : Mem} {i v : Int} (h : i < 0 ∨ 2 ≤ i) (hr : -2147483648 ≤ i ∧ i ≤ 2147483647) : Row_set 30 i v σ = some (0, σ) := row_sex lnA_31 h hr (by omega)
theorem lnA_33 : lnA 33 = 2 := by decide +kernel
theorem rg_32 {σ : Mem} {i : Int} (h0 : 0 ≤ i) (h1 : i < 2) : Row_get 32 i σ = some (σ 33 i.toNat, σ) := row_get lnA_33 h0 h1 (by omega)
theorem rx_32 {σ : Mem} {i : Int} (h : i < 0 ∨ 2 ≤ i) (hr : -2147483648 ≤ i ∧ i ≤ 2147483647) : Row_get 32 i σ = some (-1, σ) := row_gex lnA_33 h hr (by omega)
theorem rs_32 {σ : Mem} {i v : Int} (h0 : 0 ≤ i) (h1 : i < 2) : Row_set 32 i v σ = some (0, upM σ 33 i.toNat v) := row_set lnA_33 h0 h1 (by omega)
theorem ry_32 {σ : Mem} {i v : Int} (h : i < 0 ∨ 2 ≤ i) (hr : -2147483648 ≤ i ∧ i ≤ 2147483647) : Row_set 32 i v σ = some (0, σ) := row_sex lnA_33 h hr (by omega)
theorem lnA_39 : lnA 39 = 20 := by decide +kernel
theorem lnA_41 : lnA 41 = 20 := by decide +kernel
theorem lnA_43 : lnA 43 = 20 := by decide +kernel
theorem lnA_45 : lnA 45 = 640 := by decide +kernel
theorem lnA_48 : lnA 48 = 12 := by decide +kernel
theorem lnA_50 : lnA 50 = 12 := by decide +kernel
theorem lnA_52 : lnA 52 = 12 := by decide +kernel
theorem lnA_54 : lnA 54 = 12 := by decide +kernel
theorem lnA_56 : lnA 56 = 12 := by decide +kernel
theorem lnA_58 : lnA 58 = 24 := by decide +kernel
theorem lnA_60 : lnA 60 = 192 := by decide +kernel
theorem lnA_64 : lnA 64 = 20 := by decide +kernel
theorem lnA_66 : lnA 66 = 20 := by decide +kernel
theorem lnA_68 : lnA 68 = 20 := by decide +kernel
theorem lnA_70 : lnA 70 = 640 := by decide +kernel
theorem lnA_73 : lnA 73 = 12 := by decide +kernel
theorem lnA_75 : lnA 75 = 12 := by decide +kernel
theorem lnA_77 : lnA 77 = 12 := by decide +kernel
theorem lnA_79 : lnA 79 = 12 := by decide +kernel
theorem lnA_81 : lnA 81 = 12 := by decide +kernel
theorem lnA_83 : lnA 83 = 24 := by decide +kernel
theorem lnA_85 : lnA 85 = 192 := by decide +kernel
theorem lnA_89 : lnA 89 = 20 := by decide +kernel
theorem lnA_91 : lnA 91 = 20 := by decide +kernel
theorem lnA_93 : lnA 93 = 20 := by decide +kernel
theorem lnA_95 : lnA 95 = 640 := by decide +kernel
theorem lnA_98 : lnA 98 = 12 := by decide +kernel
theorem lnA_100 : lnA 100 = 12 := by decide +kernel
theorem lnA_102 : lnA 102 = 12 := by decide +kernel
theorem lnA_104 : lnA 104 = 12 := by decide +kernel
theorem lnA_106 : lnA 106 = 12 := by decide +kernel
theorem lnA_108 : lnA 108 = 24 := by decide +kernel
theorem lnA_110 : lnA 110 = 192 := by decide +kernel
theorem lnA_114 : lnA 114 = 20 := by decide +kernel
theorem lnA_116 : lnA 116 = 20 := by decide +kernel
theorem lnA_118 : lnA 118 = 20 := by decide +kernel
theorem lnA_120 : lnA 120 = 640 := by decide +kernel
theorem lnA_123 : lnA 123 = 12 := by decide +kernel
theorem lnA_125 : lnA 125 = 12 := by decide +kernel
theorem lnA_127 : lnA 127 = 12 := by decide +kernel
theorem lnA_129 : lnA 129 = 12 := by decide +kernel
theorem lnA_131 : lnA 131 = 12 := by decide +kernel
theorem lnA_133 : lnA 133 = 24 := by decide +kernel
theorem lnA_135 : lnA 135 = 192 := by decide +kernel
theorem lnA_139 : lnA 139 = 20 := by decide +kernel
theorem lnA_141 : lnA 141 = 20 := by decide +kernel
theorem lnA_143 : lnA 143 = 20 := by decide +kernel
theorem lnA_145 : lnA 145 = 640 := by decide +kernel
theorem lnA_148 : lnA 148 = 12 := by decide +kernel
theorem lnA_150 : lnA 150 = 12 := by decide +kernel
theorem lnA_152 : lnA 152 = 12 := by decide +kernel
theorem lnA_154 : lnA 154 = 12 := by decide +kernel
theorem lnA_156 : lnA 156 = 12 := by decide +kernel
theorem lnA_158 : lnA 158 = 24 := by decide +kernel
theorem lnA_160 : lnA 160 = 192 := by decide +kernel
theorem lnA_164 : lnA 164 = 20 := by decide +kernel
theorem lnA_166 : lnA 166 = 20 := by decide +kernel
theorem lnA_168 : lnA 168 = 20 := by decide +kernel
theorem lnA_170 : lnA 170 = 640 := by decide +kernel
theorem lnA_173 : lnA 173 = 12 := by decide +kernel
theorem lnA_175 : lnA 175 = 12 := by decide +kernel
theorem lnA_177 : lnA 177 = 12 := by decide +kernel
theorem lnA_179 : lnA 179 = 12 := by decide +kernel
theorem lnA_181 : lnA 181 = 12 := by decide +kernel
theorem lnA_183 : lnA 183 = 24 := by decide +kernel
theorem lnA_185 : lnA 185 = 192 := by decide +kernel
theorem lnA_189 : lnA 189 = 20 := by decide +kernel
theorem lnA_191 : lnA 191 = 20 := by decide +kernel
theorem lnA_193 : lnA 193 = 20 := by decide +kernel
theorem lnA_195 : lnA 195 = 640 := by decide +kernel
theorem lnA_198 : lnA 198 = 12 := by decide +kernel
theorem lnA_200 : lnA 200 = 12 := by decide +kernel
theorem lnA_202 : lnA 202 = 12 := by decide +kernel
theorem lnA_204 : lnA 204 = 12 := by decide +kernel
theorem lnA_206 : lnA 206 = 12 := by decide +kernel
theorem lnA_208 : lnA 208 = 24 := by decide +kernel
theorem lnA_210 : lnA 210 = 192 := by decide +kernel
theorem lnA_214 : lnA 214 = 20 := by decide +kernel
theorem lnA_216 : lnA 216 = 20 := by decide +kernel
theorem lnA_218 : lnA 218 = 20 := by decide +kernel
theorem lnA_220 : lnA 220 = 640 := by decide +kernel
theorem lnA_223 : lnA 223 = 12 := by decide +kernel
theorem lnA_225 : lnA 225 = 12 := by decide +kernel
theorem lnA_227 : lnA 227 = 12 := by decide +kernel
theorem lnA_229 : lnA 229 = 12 := by decide +kernel
theorem lnA_231 : lnA 231 = 12 := by decide +kernel
theorem lnA_233 : lnA 233 = 24 := by decide +kernel
theorem lnA_235 : lnA 235 = 192 := by decide +kernel
theorem lnA_240 : lnA 240 = 20 := by decide +kernel
theorem lnA_242 : lnA 242 = 20 := by decide +kernel
theorem lnA_244 : lnA 244 = 20 := by decide +kernel
theorem lnA_246 : lnA 246 = 640 := by decide +kernel
theorem lnA_249 : lnA 249 = 12 := by decide +kernel
theorem lnA_251 : lnA 251 = 12 := by decide +kernel
theorem lnA_253 : lnA 253 = 12 := by decide +kernel
theorem lnA_255 : lnA 255 = 12 := by decide +kernel
theorem lnA_257 : lnA 257 = 12 := by decide +kernel
theorem lnA_259 : lnA 259 = 24 := by decide +kernel
theorem lnA_261 : lnA 261 = 192 := by decide +kernel
theorem lnA_265 : lnA 265 = 20 := by decide +kernel
theorem lnA_267 : lnA 267 = 20 := by decide +kernel
theorem lnA_269 : lnA 269 = 20 := by decide +kernel
theorem lnA_271 : lnA 271 = 640 := by decide +kernel
theorem lnA_274 : lnA 274 = 12 := by decide +kernel
theorem lnA_276 : lnA 276 = 12 := by decide +kernel
theorem lnA_278 : lnA 278 = 12 := by decide +kernel
theorem lnA_280 : lnA 280 = 12 := by decide +kernel
theorem lnA_282 : lnA 282 = 12 := by decide +kernel
theorem lnA_284 : lnA 284 = 24 := by decide +kernel
theorem lnA_286 : lnA 286 = 192 := by decide +kernel
theorem lnA_288 : lnA 288 = 2 := by decide +kernel
theorem rg_287 {σ : Mem} {i : Int} (h0 : 0 ≤ i) (h1 : i < 2) : Row_get 287 i σ = some (σ 288 i.toNat, σ) := row_get lnA_288 h0 h1 (by omega)
theorem rx_287 {σ : Mem} {i : Int} (h : i < 0 ∨ 2 ≤ i) (hr : -2147483648 ≤ i ∧ i ≤ 2147483647) : Row_get 287 i σ = some (-1, σ) := row_gex lnA_288 h hr (by omega)
theorem rs_287 {σ : Mem} {i v : Int} (h0 : 0 ≤ i) (h1 : i < 2) : Row_set 287 i v σ = some (0, upM σ 288 i.toNat v) := row_set lnA_288 h0 h1 (by omega)
theorem ry_287 {σ : Mem} {i v : Int} (h : i < 0 ∨ 2 ≤ i) (hr : -2147483648 ≤ i ∧ i ≤ 2147483647) : Row_set 287 i v σ = some (0, σ) := row_sex lnA_288 h hr (by omega)
theorem lnA_291 : lnA 291 = 640 := by decide +kernel
theorem rg_290 {σ : Mem} {i : Int} (h0 : 0 ≤ i) (h1 : i < 640) : Row_get 290 i σ = some (σ 291 i.toNat, σ) := row_get lnA_291 h0 h1 (by omega)
theorem rx_290 {σ : Mem} {i : Int} (h : i < 0 ∨ 640 ≤ i) (hr : -2147483648 ≤ i ∧ i ≤ 2147483647) : Row_get 290 i σ = some (-1, σ) := row_gex lnA_291 h hr (by omega)
theorem rs_290 {σ : Mem} {i v : Int} (h0 : 0 ≤ i) (h1 : i < 640) : Row_set 290 i v σ = some (0, upM σ 291 i.toNat v) := row_set lnA_291 h0 h1 (by omega)
theorem ry_290 {σ : Mem} {i v : Int} (h : i < 0 ∨ 640 ≤ i) (hr : -2147483648 ≤ i ∧ i ≤ 2147483647) : Row_set 290 i v σ = some (0, σ) := row_sex lnA_291 h hr (by omega)
theorem lnA_293 : lnA 293 = 640 := by decide +kernel
theorem rg_292 {σ : Mem} {i : Int} (h0 : 0 ≤ i) (h1 : i < 640) : Row_get 292 i σ = some (σ 293 i.toNat, σ) := row_get lnA_293 h0 h1 (by omega)
theorem rx_292 {σ : Mem} {i : Int} (h : i < 0 ∨ 640 ≤ i) (hr : -2147483648 ≤ i ∧ i ≤ 2147483647) : Row_get 292 i σ = some (-1, σ) := row_gex lnA_293 h hr (by omega)
theorem rs_292 {σ : Mem} {i v : Int} (h0 : 0 ≤ i) (h1 : i < 640) : Row_set 292 i v σ = some (0, upM σ 293 i.toNat v) := row_set lnA_293 h0 h1 (by omega)
theorem ry_292 {σ : Mem} {i v : Int} (h : i < 0 ∨ 640 ≤ i) (hr : -2147483648 ≤ i ∧ i ≤ 2147483647) : Row_set 292 i v σ = some (0, σ) := row_sex lnA_293 h hr (by omega)
theorem lnA_295 : lnA 295 = 640 := by decide +kernel
theorem rg_294 {σ : Mem} {i : Int} (h0 : 0 ≤ i) (h1 : i < 640) : Row_get 294 i σ = some (σ 295 i.toNat, σ) := row_get lnA_295 h0 h1 (by omega)
theorem rx_294 {σ : Mem} {i : Int} (h : i < 0 ∨ 640 ≤ i) (hr : -2147483648 ≤ i ∧ i ≤ 2147483647) : Row_get 294 i σ = some (-1, σ) := row_gex lnA_295 h hr (by omega)
theorem rs_294 {σ : Mem} {i v : Int} (h0 : 0 ≤ i) (h1 : i < 640) : Row_set 294 i v σ = some (0, upM σ 295 i.toNat v) := row_set lnA_295 h0 h1 (by omega)
theorem ry_294 {σ : Mem} {i v : Int} (h : i < 0 ∨ 640 ≤ i) (hr : -2147483648 ≤ i ∧ i ≤ 2147483647) : Row_set 294 i v σ = some (0, σ) := row_sex lnA_295 h hr (by omega)
theorem lnA_297 : lnA 297 = 640 := by decide +kernel
theorem rg_296 {σ : Mem} {i : Int} (h0 : 0 ≤ i) (h1 : i < 640) : Row_get 296 i σ = some (σ 297 i.toNat, σ) := row_get lnA_297 h0 h1 (by omega)
theorem rx_296 {σ : Mem} {i : Int} (h : i < 0 ∨ 640 ≤ i) (hr : -2147483648 ≤ i ∧ i ≤ 2147483647) : Row_get 296 i σ = some (-1, σ) := row_gex lnA_297 h hr (by omega)
theorem rs_296 {σ : Mem} {i v : Int} (h0 : 0 ≤ i) (h1 : i < 640) : Row_set 296 i v σ = some (0, upM σ 297 i.toNat v) := row_set lnA_297 h0 h1 (by omega)
theorem ry_296 {σ : Mem} {i v : Int} (h : i < 0 ∨ 640 ≤ i) (hr : -2147483648 ≤ i ∧ i ≤ 2147483647) : Row_set 296 i v σ = some (0, σ) := row_sex lnA_297 h hr (by omega)
theorem lnA_299 : lnA 299 = 21 := by decide +kernel
theorem rg_298 {σ : Mem} {i : Int} (h0 : 0 ≤ i) (h1 : i < 21) : Row_get 298 i σ = some (σ 299 i.toNat, σ) := row_get lnA_299 h0 h1 (by omega)
theorem rx_298 {σ : Mem} {i : Int} (h : i < 0 ∨ 21 ≤ i) (hr : -2147483648 ≤ i ∧ i ≤ 2147483647) : Row_get 298 i σ = some (-1, σ) := row_gex lnA_299 h hr (by omega)
theorem rs_298 {σ : Mem} {i v : Int} (h0 : 0 ≤ i) (h1 : i < 21) : Row_set 298 i v σ = some (0, upM σ 299 i.toNat v) := row_set lnA_299 h0 h1 (by omega)
theorem ry_298 {σ : Mem} {i v : Int} (h : i < 0 ∨ 21 ≤ i) (hr : -2147483648 ≤ i ∧ i ≤ 2147483647) : Row_set 298 i v σ = some (0, σ) := row_sex lnA_299 h hr (by omega)
theorem lnA_301 : lnA 301 = 20 := by decide +kernel
theorem rg_300 {σ : Mem} {i : Int} (h0 : 0 ≤ i) (h1 : i < 20) : Row_get 300 i σ = some (σ 301 i.toNat, σ) := row_get lnA_301 h0 h1 (by omega)
theorem rx_300 {σ : Mem} {i : Int} (h : i < 0 ∨ 20 ≤ i) (hr : -2147483648 ≤ i ∧ i ≤ 2147483647) : Row_get 300 i σ = some (-1, σ) := row_gex lnA_301 h hr (by omega)
theorem rs_300 {σ : Mem} {i v : Int} (h0 : 0 ≤ i) (h1 : i < 20) : Row_set 300 i v σ = some (0, upM σ 301 i.toNat v) := row_set lnA_301 h0 h1 (by omega)
theorem ry_300 {σ : Mem} {i v : Int} (h : i < 0 ∨ 20 ≤ i) (hr : -2147483648 ≤ i ∧ i ≤ 2147483647) : Row_set 300 i v σ = some (0, σ) := row_sex lnA_301 h hr (by omega)
theorem lnA_303 : lnA 303 = 32 := by decide +kernel
theorem rg_302 {σ : Mem} {i : Int} (h0 : 0 ≤ i) (h1 : i < 32) : Row_get 302 i σ = some (σ 303 i.toNat, σ) := row_get lnA_303 h0 h1 (by omega)
theorem rx_302 {σ : Mem} {i : Int} (h : i < 0 ∨ 32 ≤ i) (hr : -2147483648 ≤ i ∧ i ≤ 2147483647) : Row_get 302 i σ = some (-1, σ) := row_gex lnA_303 h hr (by omega)
theorem rs_302 {σ : Mem} {i v : Int} (h0 : 0 ≤ i) (h1 : i < 32) : Row_set 302 i v σ = some (0, upM σ 303 i.toNat v) := row_set lnA_303 h0 h1 (by omega)
theorem ry_302 {σ : Mem} {i v : Int} (h : i < 0 ∨ 32 ≤ i) (hr : -2147483648 ≤ i ∧ i ≤ 2147483647) : Row_set 302 i v σ = some (0, σ) := row_sex lnA_303 h hr (by omega)
theorem lnA_306 : lnA 306 = 640 := by decide +kernel
theorem rg_305 {σ : Mem} {i : Int} (h0 : 0 ≤ i) (h1 : i < 640) : Row_get 305 i σ = some (σ 306 i.toNat, σ) := row_get lnA_306 h0 h1 (by omega)
theorem rx_305 {σ : Mem} {i : Int} (h : i < 0 ∨ 640 ≤ i) (hr : -2147483648 ≤ i ∧ i ≤ 2147483647) : Row_get 305 i σ = some (-1, σ) := row_gex lnA_306 h hr (by omega)
theorem rs_305 {σ : Mem} {i v : Int} (h0 : 0 ≤ i) (h1 : i < 640) : Row_set 305 i v σ = some (0, upM σ 306 i.toNat v) := row_set lnA_306 h0 h1 (by omega)
theorem ry_305 {σ : Mem} {i v : Int} (h : i < 0 ∨ 640 ≤ i) (hr : -2147483648 ≤ i ∧ i ≤ 2147483647) : Row_set 305 i v σ = some (0, σ) := row_sex lnA_306 h hr (by omega)
theorem lnA_308 : lnA 308 = 640 := by decide +kernel
theorem rg_307 {σ : Mem} {i : Int} (h0 : 0 ≤ i) (h1 : i < 640) : Row_get 307 i σ = some (σ 308 i.toNat, σ) := row_get lnA_308 h0 h1 (by omega)
theorem rx_307 {σ : Mem} {i : Int} (h : i < 0 ∨ 640 ≤ i) (hr : -2147483648 ≤ i ∧ i ≤ 2147483647) : Row_get 307 i σ = some (-1, σ) := row_gex lnA_308 h hr (by omega)
theorem rs_307 {σ : Mem} {i v : Int} (h0 : 0 ≤ i) (h1 : i < 640) : Row_set 307 i v σ = some (0, upM σ 308 i.toNat v) := row_set lnA_308 h0 h1 (by omega)
theorem ry_307 {σ : Mem} {i v : Int} (h : i < 0 ∨ 640 ≤ i) (hr : -2147483648 ≤ i ∧ i ≤ 2147483647) : Row_set 307 i v σ = some (0, σ) := row_sex lnA_308 h hr (by omega)
theorem lnA_310 : lnA 310 = 640 := by decide +kernel
theorem rg_309 {σ : Mem} {i : Int} (h0 : 0 ≤ i) (h1 : i < 640) : Row_get 309 i σ = some (σ 310 i.toNat, σ) := row_get lnA_310 h0 h1 (by omega)
theorem rx_309 {σ : Mem} {i : Int} (h : i < 0 ∨ 640 ≤ i) (hr : -2147483648 ≤ i ∧ i ≤ 2147483647) : Row_get 309 i σ = some (-1, σ) := row_gex lnA_310 h hr (by omega)
theorem rs_309 {σ : Mem} {i v : Int} (h0 : 0 ≤ i) (h1 : i < 640) : Row_set 309 i v σ = some (0, upM σ 310 i.toNat v) := row_set lnA_310 h0 h1 (by omega)
theorem ry_309 {σ : Mem} {i v : Int} (h : i < 0 ∨ 640 ≤ i) (hr : -2147483648 ≤ i ∧ i ≤ 2147483647) : Row_set 309 i v σ = some (0, σ) := row_sex lnA_310 h hr (by omega)
theorem lnA_312 : lnA 312 = 640 := by decide +kernel
theorem rg_311 {σ : Mem} {i : Int} (h0 : 0 ≤ i) (h1 : i < 640) : Row_get 311 i σ = some (σ 312 i.toNat, σ) := row_get lnA_312 h0 h1 (by omega)
theorem rx_311 {σ : Mem} {i : Int} (h : i < 0 ∨ 640 ≤ i) (hr : -2147483648 ≤ i ∧ i ≤ 2147483647) : Row_get 311 i σ = some (-1, σ) := row_gex lnA_312 h hr (by omega)
theorem rs_311 {σ : Mem} {i v : Int} (h0 : 0 ≤ i) (h1 : i < 640) : Row_set 311 i v σ = some (0, upM σ 312 i.toNat v) := row_set lnA_312 h0 h1 (by omega)
theorem ry_311 {σ : Mem} {i v : Int} (h : i < 0 ∨ 640 ≤ i) (hr : -2147483648 ≤ i ∧ i ≤ 2147483647) : Row_set 311 i v σ = some (0, σ) := row_sex lnA_312 h hr (by omega)
theorem lnA_314 : lnA 314 = 640 := by decide +kernel
theorem rg_313 {σ : Mem} {i : Int} (h0 : 0 ≤ i) (h1 : i < 640) : Row_get 313 i σ = some (σ 314 i.toNat, σ) := row_get lnA_314 h0 h1 (by omega)
theorem rx_313 {σ : Mem} {i : Int} (h : i < 0 ∨ 640 ≤ i) (hr : -2147483648 ≤ i ∧ i ≤ 2147483647) : Row_get 313 i σ = some (-1, σ) := row_gex lnA_314 h hr (by omega)
theorem rs_313 {σ : Mem} {i v : Int} (h0 : 0 ≤ i) (h1 : i < 640) : Row_set 313 i v σ = some (0, upM σ 314 i.toNat v) := row_set lnA_314 h0 h1 (by omega)
theorem ry_313 {σ : Mem} {i v : Int} (h : i < 0 ∨ 640 ≤ i) (hr : -2147483648 ≤ i ∧ i ≤ 2147483647) : Row_set 313 i v σ = some (0, σ) := row_sex lnA_314 h hr (by omega)
theorem lnA_316 : lnA 316 = 640 := by decide +kernel
theorem rg_315 {σ : Mem} {i : Int} (h0 : 0 ≤ i) (h1 : i < 640) : Row_get 315 i σ = some (σ 316 i.toNat, σ) := row_get lnA_316 h0 h1 (by omega)
theorem rx_315 {σ : Mem} {i : Int} (h : i < 0 ∨ 640 ≤ i) (hr : -2147483648 ≤ i ∧ i ≤ 2147483647) : Row_get 315 i σ = some (-1, σ) := row_gex lnA_316 h hr (by omega)
theorem rs_315 {σ : Mem} {i v : Int} (h0 : 0 ≤ i) (h1 : i < 640) : Row_set 315 i v σ = some (0, upM σ 316 i.toNat v) := row_set lnA_316 h0 h1 (by omega)
theorem ry_315 {σ : Mem} {i v : Int} (h : i < 0 ∨ 640 ≤ i) (hr : -2147483648 ≤ i ∧ i ≤ 2147483647) : Row_set 315 i v σ = some (0, σ) := row_sex lnA_316 h hr (by omega)
theorem lnA_318 : lnA 318 = 640 := by decide +kernel
theorem rg_317 {σ : Mem} {i : Int} (h0 : 0 ≤ i) (h1 : i < 640) : Row_get 317 i σ = some (σ 318 i.toNat, σ) := row_get lnA_318 h0 h1 (by omega)
theorem rx_317 {σ : Mem} {i : Int} (h : i < 0 ∨ 640 ≤ i) (hr : -2147483648 ≤ i ∧ i ≤ 2147483647) : Row_get 317 i σ = some (-1, σ) := row_gex lnA_318 h hr (by omega)
theorem rs_317 {σ : Mem} {i v : Int} (h0 : 0 ≤ i) (h1 : i < 640) : Row_set 317 i v σ = some (0, upM σ 318 i.toNat v) := row_set lnA_318 h0 h1 (by omega)
theorem ry_317 {σ : Mem} {i v : Int} (h : i < 0 ∨ 640 ≤ i) (hr : -2147483648 ≤ i ∧ i ≤ 2147483647) : Row_set 317 i v σ = some (0, σ) := row_sex lnA_318 h hr (by omega)
theorem lnA_320 : lnA 320 = 640 := by decide +kernel
theorem rg_319 {σ : Mem} {i : Int} (h0 : 0 ≤ i) (h1 : i < 640) : Row_get 319 i σ = some (σ 320 i.toNat, σ) := row_get lnA_320 h0 h1 (by omega)
theorem rx_319 {σ : Mem} {i : Int} (h : i < 0 ∨ 640 ≤ i) (hr : -2147483648 ≤ i ∧ i ≤ 2147483647) : Row_get 319 i σ = some (-1, σ) := row_gex lnA_320 h hr (by omega)
theorem rs_319 {σ : Mem} {i v : Int} (h0 : 0 ≤ i) (h1 : i < 640) : Row_set 319 i v σ = some (0, upM σ 320 i.toNat v) := row_set lnA_320 h0 h1 (by omega)
theorem ry_319 {σ : Mem} {i v : Int} (h : i < 0 ∨ 640 ≤ i) (hr : -2147483648 ≤ i ∧ i ≤ 2147483647) : Row_set 319 i v σ = some (0, σ) := row_sex lnA_320 h hr (by omega)
theorem lnA_322 : lnA 322 = 21 := by decide +kernel
theorem rg_321 {σ : Mem} {i : Int} (h0 : 0 ≤ i) (h1 : i < 21) : Row_get 321 i σ = some (σ 322 i.toNat, σ) := row_get lnA_322 h0 h1 (by omega)
theorem rx_321 {σ : Mem} {i : Int} (h : i < 0 ∨ 21 ≤ i) (hr : -2147483648 ≤ i ∧ i ≤ 2147483647) : Row_get 321 i σ = some (-1, σ) := row_gex lnA_322 h hr (by omega)
theorem rs_321 {σ : Mem} {i v : Int} (h0 : 0 ≤ i) (h1 : i < 21) : Row_set 321 i v σ = some (0, upM σ 322 i.toNat v) := row_set lnA_322 h0 h1 (by omega)
theorem ry_321 {σ : Mem} {i v : Int} (h : i < 0 ∨ 21 ≤ i) (hr : -2147483648 ≤ i ∧ i ≤ 2147483647) : Row_set 321 i v σ = some (0, σ) := row_sex lnA_322 h hr (by omega)
theorem lnA_324 : lnA 324 = 252 := by decide +kernel
theorem rg_323 {σ : Mem} {i : Int} (h0 : 0 ≤ i) (h1 : i < 252) : Row_get 323 i σ = some (σ 324 i.toNat, σ) := row_get lnA_324 h0 h1 (by omega)
theorem rx_323 {σ : Mem} {i : Int} (h : i < 0 ∨ 252 ≤ i) (hr : -2147483648 ≤ i ∧ i ≤ 2147483647) : Row_get 323 i σ = some (-1, σ) := row_gex lnA_324 h hr (by omega)
theorem rs_323 {σ : Mem} {i v : Int} (h0 : 0 ≤ i) (h1 : i < 252) : Row_set 323 i v σ = some (0, upM σ 324 i.toNat v) := row_set lnA_324 h0 h1 (by omega)
theorem ry_323 {σ : Mem} {i v : Int} (h : i < 0 ∨ 252 ≤ i) (hr : -2147483648 ≤ i ∧ i ≤ 2147483647) : Row_set 323 i v σ = some (0, σ) := row_sex lnA_324 h hr (by omega)
theorem lnA_326 : lnA 326 = 12 := by decide +kernel
theorem rg_325 {σ : Mem} {i : Int} (h0 : 0 ≤ i) (h1 : i < 12) : Row_get 325 i σ = some (σ 326 i.toNat, σ) := row_get lnA_326 h0 h1 (by omega)
theorem rx_325 {σ : Mem} {i : Int} (h : i < 0 ∨ 12 ≤ i) (hr : -2147483648 ≤ i ∧ i ≤ 2147483647) : Row_get 325 i σ = some (-1, σ) := row_gex lnA_326 h hr (by omega)
theorem rs_325 {σ : Mem} {i v : Int} (h0 : 0 ≤ i) (h1 : i < 12) : Row_set 325 i v σ = some (0, upM σ 326 i.toNat v) := row_set lnA_326 h0 h1 (by omega)
theorem ry_325 {σ : Mem} {i v : Int} (h : i < 0 ∨ 12 ≤ i) (hr : -2147483648 ≤ i ∧ i ≤ 2147483647) : Row_set 325 i v σ = some (0, σ) := row_sex lnA_326 h hr (by omega)
theorem lnA_329 : lnA 329 = 20 := by decide +kernel
theorem rg_328 {σ : Mem} {i : Int} (h0 : 0 ≤ i) (h1 : i < 20) : Row_get 328 i σ = some (σ 329 i.toNat, σ) := row_get lnA_329 h0 h1 (by omega)
theorem rx_328 {σ : Mem} {i : Int} (h : i < 0 ∨ 20 ≤ i) (hr : -2147483648 ≤ i ∧ i ≤ 2147483647) : Row_get 328 i σ = some (-1, σ) := row_gex lnA_329 h hr (by omega)
theorem rs_328 {σ : Mem} {i v : Int} (h0 : 0 ≤ i) (h1 : i < 20) : Row_set 328 i v σ = some (0, upM σ 329 i.toNat v) := row_set lnA_329 h0 h1 (by omega)
theorem ry_328 {σ : Mem} {i v : Int} (h : i < 0 ∨ 20 ≤ i) (hr : -2147483648 ≤ i ∧ i ≤ 2147483647) : Row_set 328 i v σ = some (0, σ) := row_sex lnA_329 h hr (by omega)
theorem lnA_331 : lnA 331 = 20 := by decide +kernel
theorem rg_330 {σ : Mem} {i : Int} (h0 : 0 ≤ i) (h1 : i < 20) : Row_get 330 i σ = some (σ 331 i.toNat, σ) := row_get lnA_331 h0 h1 (by omega)
theorem rx_330 {σ : Mem} {i : Int} (h : i < 0 ∨ 20 ≤ i) (hr : -2147483648 ≤ i ∧ i ≤ 2147483647) : Row_get 330 i σ = some (-1, σ) := row_gex lnA_331 h hr (by omega)
theorem rs_330 {σ : Mem} {i v : Int} (h0 : 0 ≤ i) (h1 : i < 20) : Row_set 330 i v σ = some (0, upM σ 331 i.toNat v) := row_set lnA_331 h0 h1 (by omega)
theorem ry_330 {σ : Mem} {i v : Int} (h : i < 0 ∨ 20 ≤ i) (hr : -2147483648 ≤ i ∧ i ≤ 2147483647) : Row_set 330 i v σ = some (0, σ) := row_sex lnA_331 h hr (by omega)
theorem lnA_333 : lnA 333 = 20 := by decide +kernel
theorem rg_332 {σ : Mem} {i : Int} (h0 : 0 ≤ i) (h1 : i < 20) : Row_get 332 i σ = some (σ 333 i.toNat, σ) := row_get lnA_333 h0 h1 (by omega)
theorem rx_332 {σ : Mem} {i : Int} (h : i < 0 ∨ 20 ≤ i) (hr : -2147483648 ≤ i ∧ i ≤ 2147483647) : Row_get 332 i σ = some (-1, σ) := row_gex lnA_333 h hr (by omega)
theorem rs_332 {σ : Mem} {i v : Int} (h0 : 0 ≤ i) (h1 : i < 20) : Row_set 332 i v σ = some (0, upM σ 333 i.toNat v) := row_set lnA_333 h0 h1 (by omega)
theorem ry_332 {σ : Mem} {i v : Int} (h : i < 0 ∨ 20 ≤ i) (hr : -2147483648 ≤ i ∧ i ≤ 2147483647) : Row_set 332 i v σ = some (0, σ) := row_sex lnA_333 h hr (by omega)
theorem lnA_335 : lnA 335 = 20 := by decide +kernel
theorem rg_334 {σ : Mem} {i : Int} (h0 : 0 ≤ i) (h1 : i < 20) : Row_get 334 i σ = some (σ 335 i.toNat, σ) := row_get lnA_335 h0 h1 (by omega)
theorem rx_334 {σ : Mem} {i : Int} (h : i < 0 ∨ 20 ≤ i) (hr : -2147483648 ≤ i ∧ i ≤ 2147483647) : Row_get 334 i σ = some (-1, σ) := row_gex lnA_335 h hr (by omega)
theorem rs_334 {σ : Mem} {i v : Int} (h0 : 0 ≤ i) (h1 : i < 20) : Row_set 334 i v σ = some (0, upM σ 335 i.toNat v) := row_set lnA_335 h0 h1 (by omega)
theorem ry_334 {σ : Mem} {i v : Int} (h : i < 0 ∨ 20 ≤ i) (hr : -2147483648 ≤ i ∧ i ≤ 2147483647) : Row_set 334 i v σ = some (0, σ) := row_sex lnA_335 h hr (by omega)
theorem lnA_337 : lnA 337 = 20 := by decide +kernel
theorem rg_336 {σ : Mem} {i : Int} (h0 : 0 ≤ i) (h1 : i < 20) : Row_get 336 i σ = some (σ 337 i.toNat, σ) := row_get lnA_337 h0 h1 (by omega)
theorem rx_336 {σ : Mem} {i : Int} (h : i < 0 ∨ 20 ≤ i) (hr : -2147483648 ≤ i ∧ i ≤ 2147483647) : Row_get 336 i σ = some (-1, σ) := row_gex lnA_337 h hr (by omega)
theorem rs_336 {σ : Mem} {i v : Int} (h0 : 0 ≤ i) (h1 : i < 20) : Row_set 336 i v σ = some (0, upM σ 337 i.toNat v) := row_set lnA_337 h0 h1 (by omega)
theorem ry_336 {σ : Mem} {i v : Int} (h : i < 0 ∨ 20 ≤ i) (hr : -2147483648 ≤ i ∧ i ≤ 2147483647) : Row_set 336 i v σ = some (0, σ) := row_sex lnA_337 h hr (by omega)
theorem lnA_339 : lnA 339 = 20 := by decide +kernel
theorem rg_338 {σ : Mem} {i : Int} (h0 : 0 ≤ i) (h1 : i < 20) : Row_get 338 i σ = some (σ 339 i.toNat, σ) := row_get lnA_339 h0 h1 (by omega)
theorem rx_338 {σ : Mem} {i : Int} (h : i < 0 ∨ 20 ≤ i) (hr : -2147483648 ≤ i ∧ i ≤ 2147483647) : Row_get 338 i σ = some (-1, σ) := row_gex lnA_339 h hr (by omega)
theorem rs_338 {σ : Mem} {i v : Int} (h0 : 0 ≤ i) (h1 : i < 20) : Row_set 338 i v σ = some (0, upM σ 339 i.toNat v) := row_set lnA_339 h0 h1 (by omega)
theorem ry_338 {σ : Mem} {i v : Int} (h : i < 0 ∨ 20 ≤ i) (hr : -2147483648 ≤ i ∧ i ≤ 2147483647) : Row_set 338 i v σ = some (0, σ) := row_sex lnA_339 h hr (by omega)
theorem lnA_342 : lnA 342 = 640 := by decide +kernel
theorem rg_341 {σ : Mem} {i : Int} (h0 : 0 ≤ i) (h1 : i < 640) : Row_get 341 i σ = some (σ 342 i.toNat, σ) := row_get lnA_342 h0 h1 (by omega)
theorem rx_341 {σ : Mem} {i : Int} (h : i < 0 ∨ 640 ≤ i) (hr : -2147483648 ≤ i ∧ i ≤ 2147483647) : Row_get 341 i σ = some (-1, σ) := row_gex lnA_342 h hr (by omega)
theorem rs_341 {σ : Mem} {i v : Int} (h0 : 0 ≤ i) (h1 : i < 640) : Row_set 341 i v σ = some (0, upM σ 342 i.toNat v) := row_set lnA_342 h0 h1 (by omega)
theorem ry_341 {σ : Mem} {i v : Int} (h : i < 0 ∨ 640 ≤ i) (hr : -2147483648 ≤ i ∧ i ≤ 2147483647) : Row_set 341 i v σ = some (0, σ) := row_sex lnA_342 h hr (by omega)
theorem lnA_344 : lnA 344 = 640 := by decide +kernel
theorem rg_343 {σ : Mem} {i : Int} (h0 : 0 ≤ i) (h1 : i < 640) : Row_get 343 i σ = some (σ 344 i.toNat, σ) := row_get lnA_344 h0 h1 (by omega)
theorem rx_343 {σ : Mem} {i : Int} (h : i < 0 ∨ 640 ≤ i) (hr : -2147483648 ≤ i ∧ i ≤ 2147483647) : Row_get 343 i σ = some (-1, σ) := row_gex lnA_344 h hr (by omega)
theorem rs_343 {σ : Mem} {i v : Int} (h0 : 0 ≤ i) (h1 : i < 640) : Row_set 343 i v σ = some (0, upM σ 344 i.toNat v) := row_set lnA_344 h0 h1 (by omega)
theorem ry_343 {σ : Mem} {i v : Int} (h : i < 0 ∨ 640 ≤ i) (hr : -2147483648 ≤ i ∧ i ≤ 2147483647) : Row_set 343 i v σ = some (0, σ) := row_sex lnA_344 h hr (by omega)
theorem lnA_346 : lnA 346 = 20 := by decide +kernel
theorem rg_345 {σ : Mem} {i : Int} (h0 : 0 ≤ i) (h1 : i < 20) : Row_get 345 i σ = some (σ 346 i.toNat, σ) := row_get lnA_346 h0 h1 (by omega)
theorem rx_345 {σ : Mem} {i : Int} (h : i < 0 ∨ 20 ≤ i) (hr : -2147483648 ≤ i ∧ i ≤ 2147483647) : Row_get 345 i σ = some (-1, σ) := row_gex lnA_346 h hr (by omega)
theorem rs_345 {σ : Mem} {i v : Int} (h0 : 0 ≤ i) (h1 : i < 20) : Row_set 345 i v σ = some (0, upM σ 346 i.toNat v) := row_set lnA_346 h0 h1 (by omega)
theorem ry_345 {σ : Mem} {i v : Int} (h : i < 0 ∨ 20 ≤ i) (hr : -2147483648 ≤ i ∧ i ≤ 2147483647) : Row_set 345 i v σ = some (0, σ) := row_sex lnA_346 h hr (by omega)
