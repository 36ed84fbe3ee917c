/-! ===== constructors: their words, the composite rows, Row ===== -/
theorem obI : Cond.instanceMethod Lib.objectInit ∈ WL := WL_in (tb1 (List.mem_of_getElem? (i := 27) rfl)) rfl
theorem obC : Cond.code Lib.objectInit ⟨#[0xb1]⟩ 1 none ∈ WL := WL_in (tb1 (List.mem_of_getElem? (i := 28) rfl)) rfl
theorem arI : Cond.arrayClass .int ∈ WL := WL_in (tb1 (List.mem_of_getElem? (i := 54) rfl)) rfl
theorem arZ : Cond.arrayClass .boolean ∈ WL := WL_in (tb6 (List.mem_of_getElem? (i := 19) rfl)) rfl
theorem izX11 : Cond.initialized RX11 ∈ WL := WL_in (tb1 (List.mem_of_getElem? (i := 1) rfl)) rfl
theorem izX8 : Cond.initialized RX8 ∈ WL := WL_in (tb1 (List.mem_of_getElem? (i := 2) rfl)) rfl
theorem izX3 : Cond.initialized RX3 ∈ WL := WL_in (tb1 (List.mem_of_getElem? (i := 3) rfl)) rfl
theorem izX5 : Cond.initialized RX5 ∈ WL := WL_in (tb1 (List.mem_of_getElem? (i := 4) rfl)) rfl
theorem izX7 : Cond.initialized RX7 ∈ WL := WL_in (tb1 (List.mem_of_getElem? (i := 6) rfl)) rfl
theorem izX1 : Cond.initialized RX1 ∈ WL := WL_in (tb1 (List.mem_of_getElem? (i := 7) rfl)) rfl
theorem izX6 : Cond.initialized RX6 ∈ WL := WL_in (tb1 (List.mem_of_getElem? (i := 8) rfl)) rfl
theorem izX2 : Cond.initialized RX2 ∈ WL := WL_in (tb1 (List.mem_of_getElem? (i := 9) rfl)) rfl
theorem izX9 : Cond.initialized RX9 ∈ WL := WL_in (tb1 (List.mem_of_getElem? (i := 10) rfl)) rfl
theorem izX0 : Cond.initialized RX0 ∈ WL := WL_in (tb1 (List.mem_of_getElem? (i := 11) rfl)) rfl
theorem izX4 : Cond.initialized RX4 ∈ WL := WL_in (tb1 (List.mem_of_getElem? (i := 12) rfl)) rfl
theorem izX10 : Cond.initialized RX10 ∈ WL := WL_in (tb1 (List.mem_of_getElem? (i := 13) rfl)) rfl
theorem izX12 : Cond.initialized RX12 ∈ WL := WL_in (tb1 (List.mem_of_getElem? (i := 14) rfl)) rfl
theorem clL_7 : Cond.classLink RL 7 RX11 ∈ WL := WL_in (tb1 (List.mem_of_getElem? (i := 21) rfl)) rfl
theorem isX11 : Cond.instantiable RX11 12 ∈ WL := WL_in (tb1 (List.mem_of_getElem? (i := 22) rfl)) rfl
theorem obX11 : Cond.methodLink RX11 3 Lib.objectInit ∈ WL := WL_in (tb1 (List.mem_of_getElem? (i := 26) rfl)) rfl
theorem clX11_9 : Cond.classLink RX11 9 RX8 ∈ WL := WL_in (tb1 (List.mem_of_getElem? (i := 29) rfl)) rfl
theorem isX8 : Cond.instantiable RX8 5 ∈ WL := WL_in (tb1 (List.mem_of_getElem? (i := 30) rfl)) rfl
theorem obX8 : Cond.methodLink RX8 1 Lib.objectInit ∈ WL := WL_in (tb1 (List.mem_of_getElem? (i := 34) rfl)) rfl
theorem clX8_7 : Cond.classLink RX8 7 RX3 ∈ WL := WL_in (tb1 (List.mem_of_getElem? (i := 35) rfl)) rfl
theorem isX3 : Cond.instantiable RX3 5 ∈ WL := WL_in (tb1 (List.mem_of_getElem? (i := 36) rfl)) rfl
theorem obX3 : Cond.methodLink RX3 3 Lib.objectInit ∈ WL := WL_in (tb1 (List.mem_of_getElem? (i := 40) rfl)) rfl
theorem clX3_15 : Cond.classLink RX3 15 RX5 ∈ WL := WL_in (tb1 (List.mem_of_getElem? (i := 41) rfl)) rfl
theorem isX5 : Cond.instantiable RX5 1 ∈ WL := WL_in (tb1 (List.mem_of_getElem? (i := 42) rfl)) rfl
theorem obX5 : Cond.methodLink RX5 3 Lib.objectInit ∈ WL := WL_in (tb1 (List.mem_of_getElem? (i := 46) rfl)) rfl
theorem clX8_16 : Cond.classLink RX8 16 RX7 ∈ WL := WL_in (tb1 (List.mem_of_getElem? (i := 82) rfl)) rfl
theorem isX7 : Cond.instantiable RX7 7 ∈ WL := WL_in (tb1 (List.mem_of_getElem? (i := 83) rfl)) rfl
theorem obX7 : Cond.methodLink RX7 3 Lib.objectInit ∈ WL := WL_in (tb1 (List.mem_of_getElem? (i := 87) rfl)) rfl
theorem clX7_9 : Cond.classLink RX7 9 RX5 ∈ WL := WL_in (tb1 (List.mem_of_getElem? (i := 88) rfl)) rfl
theorem clX11_16 : Cond.classLink RX11 16 RX1 ∈ WL := WL_in (tb1 (List.mem_of_getElem? (i := 145) rfl)) rfl
theorem isX1 : Cond.instantiable RX1 2 ∈ WL := WL_in (tb1 (List.mem_of_getElem? (i := 146) rfl)) rfl
theorem obX1 : Cond.methodLink RX1 3 Lib.objectInit ∈ WL := WL_in (tb1 (List.mem_of_getElem? (i := 150) rfl)) rfl
theorem clX1_15 : Cond.classLink RX1 15 RX5 ∈ WL := WL_in (tb1 (List.mem_of_getElem? (i := 151) rfl)) rfl
theorem clX11_23 : Cond.classLink RX11 23 RX6 ∈ WL := WL_in (tb1 (List.mem_of_getElem? (i := 162) rfl)) rfl
theorem isX6 : Cond.instantiable RX6 3 ∈ WL := WL_in (tb1 (List.mem_of_getElem? (i := 163) rfl)) rfl
theorem obX6 : Cond.methodLink RX6 3 Lib.objectInit ∈ WL := WL_in (tb1 (List.mem_of_getElem? (i := 167) rfl)) rfl
theorem clX6_9 : Cond.classLink RX6 9 RX5 ∈ WL := WL_in (tb1 (List.mem_of_getElem? (i := 168) rfl)) rfl
theorem clX11_30 : Cond.classLink RX11 30 RX2 ∈ WL := WL_in (tb1 (List.mem_of_getElem? (i := 180) rfl)) rfl
theorem isX2 : Cond.instantiable RX2 3 ∈ WL := WL_in (tb1 (List.mem_of_getElem? (i := 181) rfl)) rfl
theorem obX2 : Cond.methodLink RX2 3 Lib.objectInit ∈ WL := WL_in (tb1 (List.mem_of_getElem? (i := 185) rfl)) rfl
theorem clX2_18 : Cond.classLink RX2 18 RX8 ∈ WL := WL_in (tb1 (List.mem_of_getElem? (i := 186) rfl)) rfl
theorem clX11_41 : Cond.classLink RX11 41 RX5 ∈ WL := WL_in (tb1 (List.mem_of_getElem? (i := 200) rfl)) rfl
theorem clX11_50 : Cond.classLink RX11 50 RX9 ∈ WL := WL_in (tb1 (List.mem_of_getElem? (i := 202) rfl)) rfl
theorem isX9 : Cond.instantiable RX9 10 ∈ WL := WL_in (tb1 (List.mem_of_getElem? (i := 203) rfl)) rfl
theorem obX9 : Cond.methodLink RX9 3 Lib.objectInit ∈ WL := WL_in (tb1 (List.mem_of_getElem? (i := 207) rfl)) rfl
theorem clX9_15 : Cond.classLink RX9 15 RX5 ∈ WL := WL_in (tb1 (List.mem_of_getElem? (i := 208) rfl)) rfl
theorem clX11_57 : Cond.classLink RX11 57 RX0 ∈ WL := WL_in (tb2 (List.mem_of_getElem? (i := 21) rfl)) rfl
theorem isX0 : Cond.instantiable RX0 14 ∈ WL := WL_in (tb2 (List.mem_of_getElem? (i := 22) rfl)) rfl
theorem obX0 : Cond.methodLink RX0 3 Lib.objectInit ∈ WL := WL_in (tb2 (List.mem_of_getElem? (i := 26) rfl)) rfl
theorem clX0_9 : Cond.classLink RX0 9 RX5 ∈ WL := WL_in (tb2 (List.mem_of_getElem? (i := 27) rfl)) rfl
theorem clX11_64 : Cond.classLink RX11 64 RX4 ∈ WL := WL_in (tb2 (List.mem_of_getElem? (i := 87) rfl)) rfl
theorem isX4 : Cond.instantiable RX4 6 ∈ WL := WL_in (tb2 (List.mem_of_getElem? (i := 88) rfl)) rfl
theorem obX4 : Cond.methodLink RX4 3 Lib.objectInit ∈ WL := WL_in (tb2 (List.mem_of_getElem? (i := 92) rfl)) rfl
theorem clX4_9 : Cond.classLink RX4 9 RX5 ∈ WL := WL_in (tb2 (List.mem_of_getElem? (i := 93) rfl)) rfl
theorem clX11_71 : Cond.classLink RX11 71 RX10 ∈ WL := WL_in (tb2 (List.mem_of_getElem? (i := 116) rfl)) rfl
theorem isX10 : Cond.instantiable RX10 3 ∈ WL := WL_in (tb2 (List.mem_of_getElem? (i := 117) rfl)) rfl
theorem obX10 : Cond.methodLink RX10 3 Lib.objectInit ∈ WL := WL_in (tb2 (List.mem_of_getElem? (i := 121) rfl)) rfl
theorem clX10_15 : Cond.classLink RX10 15 RX5 ∈ WL := WL_in (tb2 (List.mem_of_getElem? (i := 122) rfl)) rfl
theorem clL_10 : Cond.classLink RL 10 RX12 ∈ WL := WL_in (tb5 (List.mem_of_getElem? (i := 129) rfl)) rfl
theorem isX12 : Cond.instantiable RX12 41 ∈ WL := WL_in (tb5 (List.mem_of_getElem? (i := 130) rfl)) rfl
theorem obX12 : Cond.methodLink RX12 1 Lib.objectInit ∈ WL := WL_in (tb5 (List.mem_of_getElem? (i := 134) rfl)) rfl
theorem mgX0 : MG yX0_init cX0_init 1 0 := ⟨rfl, WL_in (tb2 (List.mem_of_getElem? (i := 24) rfl)) rfl, WL_in (tb1 (List.mem_of_getElem? (i := 11) rfl)) rfl, WL_in (tb2 (List.mem_of_getElem? (i := 25) rfl)) rfl, by decide, by decide, by decide +kernel⟩
theorem mgX1 : MG yX1_init cX1_init 1 0 := ⟨rfl, WL_in (tb1 (List.mem_of_getElem? (i := 148) rfl)) rfl, WL_in (tb1 (List.mem_of_getElem? (i := 7) rfl)) rfl, WL_in (tb1 (List.mem_of_getElem? (i := 149) rfl)) rfl, by decide, by decide, by decide +kernel⟩
theorem mgX2 : MG yX2_init cX2_init 2 0 := ⟨rfl, WL_in (tb1 (List.mem_of_getElem? (i := 183) rfl)) rfl, WL_in (tb1 (List.mem_of_getElem? (i := 9) rfl)) rfl, WL_in (tb1 (List.mem_of_getElem? (i := 184) rfl)) rfl, by decide, by decide, by decide +kernel⟩
theorem mgX3 : MG yX3_init cX3_init 1 0 := ⟨rfl, WL_in (tb1 (List.mem_of_getElem? (i := 38) rfl)) rfl, WL_in (tb1 (List.mem_of_getElem? (i := 3) rfl)) rfl, WL_in (tb1 (List.mem_of_getElem? (i := 39) rfl)) rfl, by decide, by decide, by decide +kernel⟩
theorem mgX4 : MG yX4_init cX4_init 1 0 := ⟨rfl, WL_in (tb2 (List.mem_of_getElem? (i := 90) rfl)) rfl, WL_in (tb1 (List.mem_of_getElem? (i := 12) rfl)) rfl, WL_in (tb2 (List.mem_of_getElem? (i := 91) rfl)) rfl, by decide, by decide, by decide +kernel⟩
theorem mgX5 : MG yX5_init cX5_init 2 1 := ⟨rfl, WL_in (tb1 (List.mem_of_getElem? (i := 44) rfl)) rfl, WL_in (tb1 (List.mem_of_getElem? (i := 4) rfl)) rfl, WL_in (tb1 (List.mem_of_getElem? (i := 45) rfl)) rfl, by decide, by decide, by decide +kernel⟩
theorem mgX6 : MG yX6_init cX6_init 1 0 := ⟨rfl, WL_in (tb1 (List.mem_of_getElem? (i := 165) rfl)) rfl, WL_in (tb1 (List.mem_of_getElem? (i := 8) rfl)) rfl, WL_in (tb1 (List.mem_of_getElem? (i := 166) rfl)) rfl, by decide, by decide, by decide +kernel⟩
theorem mgX7 : MG yX7_init cX7_init 1 0 := ⟨rfl, WL_in (tb1 (List.mem_of_getElem? (i := 85) rfl)) rfl, WL_in (tb1 (List.mem_of_getElem? (i := 6) rfl)) rfl, WL_in (tb1 (List.mem_of_getElem? (i := 86) rfl)) rfl, by decide, by decide, by decide +kernel⟩
theorem mgX8 : MG yX8_init cX8_init 1 0 := ⟨rfl, WL_in (tb1 (List.mem_of_getElem? (i := 32) rfl)) rfl, WL_in (tb1 (List.mem_of_getElem? (i := 2) rfl)) rfl, WL_in (tb1 (List.mem_of_getElem? (i := 33) rfl)) rfl, by decide, by decide, by decide +kernel⟩
theorem mgX9 : MG yX9_init cX9_init 1 0 := ⟨rfl, WL_in (tb1 (List.mem_of_getElem? (i := 205) rfl)) rfl, WL_in (tb1 (List.mem_of_getElem? (i := 10) rfl)) rfl, WL_in (tb1 (List.mem_of_getElem? (i := 206) rfl)) rfl, by decide, by decide, by decide +kernel⟩
theorem mgX10 : MG yX10_init cX10_init 1 0 := ⟨rfl, WL_in (tb2 (List.mem_of_getElem? (i := 119) rfl)) rfl, WL_in (tb1 (List.mem_of_getElem? (i := 13) rfl)) rfl, WL_in (tb2 (List.mem_of_getElem? (i := 120) rfl)) rfl, by decide, by decide, by decide +kernel⟩
theorem mgX11 : MG yX11_init cX11_init 1 0 := ⟨rfl, WL_in (tb1 (List.mem_of_getElem? (i := 24) rfl)) rfl, WL_in (tb1 (List.mem_of_getElem? (i := 1) rfl)) rfl, WL_in (tb1 (List.mem_of_getElem? (i := 25) rfl)) rfl, by decide, by decide, by decide +kernel⟩
theorem mgX12 : MG yX12_init cX12_init 1 0 := ⟨rfl, WL_in (tb5 (List.mem_of_getElem? (i := 132) rfl)) rfl, WL_in (tb1 (List.mem_of_getElem? (i := 14) rfl)) rfl, WL_in (tb5 (List.mem_of_getElem? (i := 133) rfl)) rfl, by decide, by decide, by decide +kernel⟩
def dfX0 : List Value := [.null, .null, .null, .null, .null, .null, .null, .null, .null, .null, .null, iv 0, iv 0, iv 0]
theorem dfX0_ok : ∀ j, j < 14 → defaultValue (tyX0 j) = vp_V dfX0 j := by
  intro j hj
  match j, hj with
  | 0, _ => rfl
  | 1, _ => rfl
  | 2, _ => rfl
  | 3, _ => rfl
  | 4, _ => rfl
  | 5, _ => rfl
  | 6, _ => rfl
  | 7, _ => rfl
  | 8, _ => rfl
  | 9, _ => rfl
  | 10, _ => rfl
  | 11, _ => rfl
  | 12, _ => rfl
  | 13, _ => rfl
  | n + 14, h => exact absurd h (by omega)
def dfX1 : List Value := [iv 0, .null]
theorem dfX1_ok : ∀ j, j < 2 → defaultValue (tyX1 j) = vp_V dfX1 j := by
  intro j hj
  match j, hj with
  | 0, _ => rfl
  | 1, _ => rfl
  | n + 2, h => exact absurd h (by omega)
def dfX2 : List Value := [iv 0, iv 0, .null]
theorem dfX2_ok : ∀ j, j < 3 → defaultValue (tyX2 j) = vp_V dfX2 j := by
  intro j hj
  match j, hj with
  | 0, _ => rfl
  | 1, _ => rfl
  | 2, _ => rfl
  | n + 3, h => exact absurd h (by omega)
def dfX3 : List Value := [iv 0, .null, .null, .null, .null]
theorem dfX3_ok : ∀ j, j < 5 → defaultValue (tyX3 j) = vp_V dfX3 j := by
  intro j hj
  match j, hj with
  | 0, _ => rfl
  | 1, _ => rfl
  | 2, _ => rfl
  | 3, _ => rfl
  | 4, _ => rfl
  | n + 5, h => exact absurd h (by omega)
def dfX4 : List Value := [.null, .null, .null, .null, .null, .null]
theorem dfX4_ok : ∀ j, j < 6 → defaultValue (tyX4 j) = vp_V dfX4 j := by
  intro j hj
  match j, hj with
  | 0, _ => rfl
  | 1, _ => rfl
  | 2, _ => rfl
  | 3, _ => rfl
  | 4, _ => rfl
  | 5, _ => rfl
  | n + 6, h => exact absurd h (by omega)
def dfX5 : List Value := [.null]
theorem dfX5_ok : ∀ j, j < 1 → defaultValue (tyX5 j) = vp_V dfX5 j := by
  intro j hj
  match j, hj with
  | 0, _ => rfl
  | n + 1, h => exact absurd h (by omega)
def dfX6 : List Value := [.null, .null, iv 0]
theorem dfX6_ok : ∀ j, j < 3 → defaultValue (tyX6 j) = vp_V dfX6 j := by
  intro j hj
  match j, hj with
  | 0, _ => rfl
  | 1, _ => rfl
  | 2, _ => rfl
  | n + 3, h => exact absurd h (by omega)
def dfX7 : List Value := [.null, .null, .null, .null, .null, .null, .null]
theorem dfX7_ok : ∀ j, j < 7 → defaultValue (tyX7 j) = vp_V dfX7 j := by
  intro j hj
  match j, hj with
  | 0, _ => rfl
  | 1, _ => rfl
  | 2, _ => rfl
  | 3, _ => rfl
  | 4, _ => rfl
  | 5, _ => rfl
  | 6, _ => rfl
  | n + 7, h => exact absurd h (by omega)
def dfX8 : List Value := [.null, .null, iv 0, iv 0, iv 0]
theorem dfX8_ok : ∀ j, j < 5 → defaultValue (tyX8 j) = vp_V dfX8 j := by
  intro j hj
  match j, hj with
  | 0, _ => rfl
  | 1, _ => rfl
  | 2, _ => rfl
  | 3, _ => rfl
  | 4, _ => rfl
  | n + 5, h => exact absurd h (by omega)
def dfX9 : List Value := [iv 0, .null, .null, .null, .null, .null, .null, .null, iv 0, iv 0]
theorem dfX9_ok : ∀ j, j < 10 → defaultValue (tyX9 j) = vp_V dfX9 j := by
  intro j hj
  match j, hj with
  | 0, _ => rfl
  | 1, _ => rfl
  | 2, _ => rfl
  | 3, _ => rfl
  | 4, _ => rfl
  | 5, _ => rfl
  | 6, _ => rfl
  | 7, _ => rfl
  | 8, _ => rfl
  | 9, _ => rfl
  | n + 10, h => exact absurd h (by omega)
def dfX10 : List Value := [iv 0, .null, .null]
theorem dfX10_ok : ∀ j, j < 3 → defaultValue (tyX10 j) = vp_V dfX10 j := by
  intro j hj
  match j, hj with
  | 0, _ => rfl
  | 1, _ => rfl
  | 2, _ => rfl
  | n + 3, h => exact absurd h (by omega)
def dfX11 : List Value := [.null, .null, .null, .null, .null, .null, .null, .null, .null, .null, .null, iv 0]
theorem dfX11_ok : ∀ j, j < 12 → defaultValue (tyX11 j) = vp_V dfX11 j := by
  intro j hj
  match j, hj with
  | 0, _ => rfl
  | 1, _ => rfl
  | 2, _ => rfl
  | 3, _ => rfl
  | 4, _ => rfl
  | 5, _ => rfl
  | 6, _ => rfl
  | 7, _ => rfl
  | 8, _ => rfl
  | 9, _ => rfl
  | 10, _ => rfl
  | 11, _ => rfl
  | n + 12, h => exact absurd h (by omega)
def dfX12 : List Value := [.null, iv 0, .null, .null, iv 0, .null, .null, .null, .null, .null, .null, .null, iv 0, .null, .null, .null, .null, .null, iv 0, iv 0, iv 0, .null, iv 0, iv 0, iv 0, iv 0, iv 0, iv 0, iv 0, iv 0, .null, .null, iv 0, iv 0, iv 0, iv 0, iv 0, iv 0, .null, .null, jv 0]
theorem dfX12_ok : ∀ j, j < 41 → defaultValue (tyX12 j) = vp_V dfX12 j := by
  intro j hj
  match j, hj with
  | 0, _ => rfl
  | 1, _ => rfl
  | 2, _ => rfl
  | 3, _ => rfl
  | 4, _ => rfl
  | 5, _ => rfl
  | 6, _ => rfl
  | 7, _ => rfl
  | 8, _ => rfl
  | 9, _ => rfl
  | 10, _ => rfl
  | 11, _ => rfl
  | 12, _ => rfl
  | 13, _ => rfl
  | 14, _ => rfl
  | 15, _ => rfl
  | 16, _ => rfl
  | 17, _ => rfl
  | 18, _ => rfl
  | 19, _ => rfl
  | 20, _ => rfl
  | 21, _ => rfl
  | 22, _ => rfl
  | 23, _ => rfl
  | 24, _ => rfl
  | 25, _ => rfl
  | 26, _ => rfl
  | 27, _ => rfl
  | 28, _ => rfl
  | 29, _ => rfl
  | 30, _ => rfl
  | 31, _ => rfl
  | 32, _ => rfl
  | 33, _ => rfl
  | 34, _ => rfl
  | 35, _ => rfl
  | 36, _ => rfl
  | 37, _ => rfl
  | 38, _ => rfl
  | 39, _ => rfl
  | 40, _ => rfl
  | n + 41, h => exact absurd h (by omega)
/-- the two cells of a Row -/
def rowC (κ : Kd) (q N : Nat) : List va_E := [.inr (5, [.ref (q + 1)]), .inl (κ.2.1, N, .inl (fun _ => I3 0))]
def rmR (N : Nat) : Room := { frames := 1, cells := 1, slots := N, locals := 14 }
set_option maxRecDepth 100000 in
theorem c_Row (l : Launch) (κ : Kd) (q N : Nat) (hN : N ≤ 100000) : CtrG l κ q yX5_init cX5_init 2 (rmR N) 5 dfX5 [.ref q, iv (N : Int)] (rowC κ q N) := by
  have hw : wr (N : Int) = (N : Int) := wr_id (by omega) (by omega)
  refine met_ofG (own := RX5) (by decide) rfl rfl (Nat.le_of_ble_eq_true rfl) (Nat.le_of_ble_eq_true rfl) (fun X hXl hN2 hS => ⟨[some (.ref q), some (iv (N : Int))], ⟨0, rfl⟩, ?_⟩)
  refine g_aload hS dX5_init_0 rfl ?_
  refine g_obj hS obX5 obI obC dX5_init_1 (Nat.le_of_ble_eq_true rfl) ?_
  refine g_aload hS dX5_init_4 rfl ?_
  refine g_iconst hS dX5_init_5 ?_
  refine g_iload hS dX5_init_6 rfl ?_
  refine g_mmax hS (v := (N : Int)) mlMX5_9 mmmax2 mm3 mmmax4 (Nat.le_of_ble_eq_true rfl) (Nat.zero_le _) (Nat.zero_le _) ?_ ?_ dX5_init_7 ?_
  · by_cases h : N = 0
    · subst h; rfl
    · rw [if_pos (by rw [I3_lt, wr_0, hw]; omega)]
  · by_cases h : N = 0
    · subst h; rfl
    · rw [if_neg (by rw [← Int32.not_lt, Classical.not_not, I3_lt, wr_0, hw]; omega)]
  refine g_newaI hS arI hw hN rfl (Nat.le_refl _) (by show 0 + N ≤ N; omega) dX5_init_10 ?_
  refine g_put hS (pg_of (ty0 := tyX5) flX5_15 rfl tyX5_ok nmX5 (Or.inr ⟨rfl, rfl⟩) rfl) rfl rfl rfl (Nat.le_of_ble_eq_true rfl) dX5_init_12 rfl ?_
  exact g_ret hS rfl rfl (by show 0 + N = N; omega) dX5_init_15
def va_E_len (l : List va_E) : Nat := l.length
section GF
variable {X : Cg} {R : Room} {κ : Kd} {b : Nat} {fin : List va_E} {pc : Nat} {L : List (Option Value)} {st : List Value} {rs : List va_E} {cn sn : Nat} {cc : ByteArray} {own : String}
/-- this.f = new Row(N) -/
theorem g_rowF (hS : StdG X R κ b cc own) {ci k N p2 i1 i2 i3 cn' sn' : Nat} {fs fs' : List Value} {rs' : List va_E} (hN : N ≤ 100000) (hL : L[0]? = some (some (.ref b))) (d0 : decode cc pc = .ok (.aload_n 0, 1)) (d1 : decode cc (pc + 1) = .ok (.new i1, 3)) (d2 : decode cc (pc + 4) = .ok (.dup, 1))
    (hpush : ∀ (st' : List Value) (cs' : List va_E) (c2 s2 : Nat), Sg X R κ b fin p2 L (iv (N : Int) :: st') cs' c2 s2 → Sg X R κ b fin (pc + 5) L st' cs' c2 s2) (d3 : decode cc p2 = .ok (.invokespecial i2, 3)) (d4 : decode cc (p2 + 3) = .ok (.putfield i3, 3)) (h1 : Cond.classLink own i1 RX5 ∈ WL) (h2 : Cond.methodLink own i2 yX5_init ∈ WL) (hp : PG own i3 ci k (.object RX5)) (hk : k < fs.length) (hlen : rs.length = cn) (hf : 2 ≤ R.frames) (hlo : 35 ≤ R.locals) (hrc : cn + 2 ≤ R.cells) (hrs : sn + 1 + N ≤ R.slots) (hcn : cn + 2 = cn') (hsn : sn + 1 + N = sn') (hfs : fs.set k (.ref (b + (cn + 1))) = fs') (hrs' : rs ++ rowC κ (b + (cn + 1)) N = rs')
    (kk : Sg X R κ b fin (p2 + 6) L [] (.inr (ci, fs') :: rs') cn' sn') : Sg X R κ b fin pc L [] (.inr (ci, fs) :: rs) cn sn := by
  subst hfs; subst hcn; subst hsn; subst hrs'
  have e : b + (va_E_len (.inr (ci, fs) :: rs)) = b + (cn + 1) := by unfold va_E_len; rw [List.length_cons, hlen]
  refine g_aload hS d0 hL ?_
  refine g_new hS (C := RX5) (T := TX5) (N := 1) (ci := 5) (ty := tyX5) (fs := dfX5) rfl inlX5 tyX5_ok h1 isX5 izX5 dfX5_ok (by rw [List.length_cons, hlen]) (by omega) (by omega) d1 ?_
  refine g_dup hS rfl d2 (hpush _ _ _ _ ?_)
  have hC := c_Row X.2.1 κ (b + (va_E_len (.inr (ci, fs) :: rs))) N hN
  refine g_init hS (As := [iv (N : Int)]) (rst := [.ref (b + (va_E_len (.inr (ci, fs) :: rs))), .ref b]) (cs0 := .inr (ci, fs) :: rs) hC mgX5 h2 rfl (by rw [List.length_cons, hlen]) (by show 1 + 1 ≤ R.frames; omega) (by show 8 + (2 + 11) + 14 ≤ R.locals; omega) (by show cn + 1 + 1 ≤ R.cells; omega) (by show sn + 1 + N ≤ R.slots; omega) (Nat.le_of_ble_eq_true rfl) rfl rfl d3 ?_
  rw [e]
  refine g_put hS hp rfl rfl rfl hk d4 rfl ?_
  exact kk
/-- this.f = new C(), a class whose constructor has no argument; by the nest -/
theorem g_chN (hS : StdG X R κ b cc own) {y : MethodName} {c2 : ByteArray} {n2 ci k c9 N9 i1 i2 i3 cn' sn' : Nat} {R2 : Room} {C : String} {T : u_T} {ty : Nat → FieldType} {fs fs' f9 : List Value} {rs' csC : List va_E} (hC : CtrG X.2.1 κ (b + (cn + 1)) y c2 n2 R2 c9 f9 [.ref (b + (cn + 1))] csC) (hm : MG y c2 n2 0) (hc9 : vwCl[c9]? = some (C, T, N9)) (hin : ∀ w ∈ u_ws C T N9, w ∈ WL) (hty : ∀ k, k < N9 → parseFieldDescriptor (T k).2.2.1 = some (ty k)) (hdf : ∀ j, j < N9 → defaultValue (ty j) = vp_V f9 j) (his : Cond.instantiable C N9 ∈ WL) (hiz : Cond.initialized C ∈ WL) (hL : L[0]? = some (some (.ref b))) (d0 : decode cc pc = .ok (.aload_n 0, 1)) (d1 : decode cc (pc + 1) = .ok (.new i1, 3)) (d2 : decode cc (pc + 4) = .ok (.dup, 1)) (d3 : decode cc (pc + 5) = .ok (.invokespecial i2, 3)) (d4 : decode cc (pc + 8) = .ok (.putfield i3, 3)) (h1 : Cond.classLink own i1 C ∈ WL) (h2 : (own, i2, y) ∈ NW ∨ Cond.methodLink own i2 y ∈ WL) (hp : PG own i3 ci k (.object C)) (hk : k < fs.length) (hlen : rs.length = cn) (hf : R2.frames + 1 ≤ R.frames) (hlo : 8 + (n2 + 11) + R2.locals ≤ R.locals) (hrc : cn + 1 + R2.cells ≤ R.cells) (hrs : sn + N9 + R2.slots ≤ R.slots) (hcn : cn + 1 + R2.cells = cn') (hsn : sn + N9 + R2.slots = sn') (hfs : fs.set k (.ref (b + (cn + 1))) = fs') (hrs' : rs ++ csC = rs')
    (kk : Sg X R κ b fin (pc + 11) L [] (.inr (ci, fs') :: rs') cn' sn') : Sg X R κ b fin pc L [] (.inr (ci, fs) :: rs) cn sn := by
  subst hfs; subst hcn; subst hsn; subst hrs'
  have e : b + (va_E_len (.inr (ci, fs) :: rs)) = b + (cn + 1) := by unfold va_E_len; rw [List.length_cons, hlen]
  rw [← e] at hC
  refine g_aload hS d0 hL ?_
  refine g_new hS (ci := c9) (ty := ty) (fs := f9) hc9 hin hty h1 his hiz hdf (by rw [List.length_cons, hlen]) (by omega) (by omega) d1 ?_
  refine g_dup hS rfl d2 ?_
  rcases h2 with h2 | h2
  · refine g_initN hS (As := []) (rst := [.ref (b + (va_E_len (.inr (ci, fs) :: rs))), .ref b]) (cs0 := .inr (ci, fs) :: rs) hC hm h2 rfl (by rw [List.length_cons, hlen]) hf hlo hrc hrs (Nat.le_of_ble_eq_true rfl) rfl rfl d3 ?_
    rw [e]
    refine g_put hS hp rfl rfl rfl hk d4 rfl ?_
    exact kk
  · refine g_init hS (As := []) (rst := [.ref (b + (va_E_len (.inr (ci, fs) :: rs))), .ref b]) (cs0 := .inr (ci, fs) :: rs) hC hm h2 rfl (by rw [List.length_cons, hlen]) hf hlo hrc hrs (Nat.le_of_ble_eq_true rfl) rfl rfl d3 ?_
    rw [e]
    refine g_put hS hp rfl rfl rfl hk d4 rfl ?_
    exact kk
end GF
