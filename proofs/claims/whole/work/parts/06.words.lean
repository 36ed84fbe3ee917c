theorem flX5_15 : FL RX5 15 5 0 := ⟨RX5, TX5, 1, rfl, by decide, inlX5, WL_in (tb1 (List.mem_of_getElem? (i := 50) rfl)) rfl⟩
theorem flX3_9 : FL RX3 9 3 0 := ⟨RX3, TX3, 5, rfl, by decide, inlX3, WL_in (tb1 (List.mem_of_getElem? (i := 55) rfl)) rfl⟩
theorem plX3_9 : PL RX3 9 3 0 .int := ⟨RX3, TX3, 5, tyX3, rfl, by decide, inlX3, WL_in (tb1 (List.mem_of_getElem? (i := 55) rfl)) rfl, tyX3_ok, nmX3, rfl, by decide +kernel⟩
theorem flX4_41 : FL RX4 41 3 0 := ⟨RX3, TX3, 5, rfl, by decide, inlX3, WL_in (tb1 (List.mem_of_getElem? (i := 56) rfl)) rfl⟩
theorem plX4_41 : PL RX4 41 3 0 .int := ⟨RX3, TX3, 5, tyX3, rfl, by decide, inlX3, WL_in (tb1 (List.mem_of_getElem? (i := 56) rfl)) rfl, tyX3_ok, nmX3, rfl, by decide +kernel⟩
theorem flX9_49 : FL RX9 49 3 0 := ⟨RX3, TX3, 5, rfl, by decide, inlX3, WL_in (tb1 (List.mem_of_getElem? (i := 57) rfl)) rfl⟩
theorem plX9_49 : PL RX9 49 3 0 .int := ⟨RX3, TX3, 5, tyX3, rfl, by decide, inlX3, WL_in (tb1 (List.mem_of_getElem? (i := 57) rfl)) rfl, tyX3_ok, nmX3, rfl, by decide +kernel⟩
theorem flX0_66 : FL RX0 66 3 0 := ⟨RX3, TX3, 5, rfl, by decide, inlX3, WL_in (tb1 (List.mem_of_getElem? (i := 58) rfl)) rfl⟩
theorem plX0_66 : PL RX0 66 3 0 .int := ⟨RX3, TX3, 5, tyX3, rfl, by decide, inlX3, WL_in (tb1 (List.mem_of_getElem? (i := 58) rfl)) rfl, tyX3_ok, nmX3, rfl, by decide +kernel⟩
theorem flX11_100 : FL RX11 100 3 0 := ⟨RX3, TX3, 5, rfl, by decide, inlX3, WL_in (tb1 (List.mem_of_getElem? (i := 59) rfl)) rfl⟩
theorem plX11_100 : PL RX11 100 3 0 .int := ⟨RX3, TX3, 5, tyX3, rfl, by decide, inlX3, WL_in (tb1 (List.mem_of_getElem? (i := 59) rfl)) rfl, tyX3_ok, nmX3, rfl, by decide +kernel⟩
theorem flX3_20 : FL RX3 20 3 1 := ⟨RX3, TX3, 5, rfl, by decide, inlX3, WL_in (tb1 (List.mem_of_getElem? (i := 60) rfl)) rfl⟩
theorem flX11_121 : FL RX11 121 3 1 := ⟨RX3, TX3, 5, rfl, by decide, inlX3, WL_in (tb1 (List.mem_of_getElem? (i := 61) rfl)) rfl⟩
theorem flX1_39 : FL RX1 39 3 1 := ⟨RX3, TX3, 5, rfl, by decide, inlX3, WL_in (tb1 (List.mem_of_getElem? (i := 62) rfl)) rfl⟩
theorem flX3_24 : FL RX3 24 3 2 := ⟨RX3, TX3, 5, rfl, by decide, inlX3, WL_in (tb1 (List.mem_of_getElem? (i := 63) rfl)) rfl⟩
theorem flX4_47 : FL RX4 47 3 2 := ⟨RX3, TX3, 5, rfl, by decide, inlX3, WL_in (tb1 (List.mem_of_getElem? (i := 64) rfl)) rfl⟩
theorem flX9_67 : FL RX9 67 3 2 := ⟨RX3, TX3, 5, rfl, by decide, inlX3, WL_in (tb1 (List.mem_of_getElem? (i := 65) rfl)) rfl⟩
theorem flX11_131 : FL RX11 131 3 2 := ⟨RX3, TX3, 5, rfl, by decide, inlX3, WL_in (tb1 (List.mem_of_getElem? (i := 66) rfl)) rfl⟩
theorem flX1_44 : FL RX1 44 3 2 := ⟨RX3, TX3, 5, rfl, by decide, inlX3, WL_in (tb1 (List.mem_of_getElem? (i := 67) rfl)) rfl⟩
theorem flX3_27 : FL RX3 27 3 3 := ⟨RX3, TX3, 5, rfl, by decide, inlX3, WL_in (tb1 (List.mem_of_getElem? (i := 68) rfl)) rfl⟩
theorem flX11_171 : FL RX11 171 3 3 := ⟨RX3, TX3, 5, rfl, by decide, inlX3, WL_in (tb1 (List.mem_of_getElem? (i := 69) rfl)) rfl⟩
theorem flX3_30 : FL RX3 30 3 4 := ⟨RX3, TX3, 5, rfl, by decide, inlX3, WL_in (tb1 (List.mem_of_getElem? (i := 70) rfl)) rfl⟩
theorem flX7_14 : FL RX7 14 7 0 := ⟨RX7, TX7, 7, rfl, by decide, inlX7, WL_in (tb1 (List.mem_of_getElem? (i := 90) rfl)) rfl⟩
theorem flX11_218 : FL RX11 218 7 0 := ⟨RX7, TX7, 7, rfl, by decide, inlX7, WL_in (tb1 (List.mem_of_getElem? (i := 91) rfl)) rfl⟩
theorem flX7_20 : FL RX7 20 7 1 := ⟨RX7, TX7, 7, rfl, by decide, inlX7, WL_in (tb1 (List.mem_of_getElem? (i := 92) rfl)) rfl⟩
theorem flX0_129 : FL RX0 129 7 1 := ⟨RX7, TX7, 7, rfl, by decide, inlX7, WL_in (tb1 (List.mem_of_getElem? (i := 93) rfl)) rfl⟩
theorem flX7_23 : FL RX7 23 7 2 := ⟨RX7, TX7, 7, rfl, by decide, inlX7, WL_in (tb1 (List.mem_of_getElem? (i := 94) rfl)) rfl⟩
theorem flX4_143 : FL RX4 143 7 2 := ⟨RX7, TX7, 7, rfl, by decide, inlX7, WL_in (tb1 (List.mem_of_getElem? (i := 95) rfl)) rfl⟩
theorem flX0_144 : FL RX0 144 7 2 := ⟨RX7, TX7, 7, rfl, by decide, inlX7, WL_in (tb1 (List.mem_of_getElem? (i := 96) rfl)) rfl⟩
theorem flX7_26 : FL RX7 26 7 3 := ⟨RX7, TX7, 7, rfl, by decide, inlX7, WL_in (tb1 (List.mem_of_getElem? (i := 97) rfl)) rfl⟩
theorem flX0_141 : FL RX0 141 7 3 := ⟨RX7, TX7, 7, rfl, by decide, inlX7, WL_in (tb1 (List.mem_of_getElem? (i := 98) rfl)) rfl⟩
theorem flX11_206 : FL RX11 206 7 3 := ⟨RX7, TX7, 7, rfl, by decide, inlX7, WL_in (tb1 (List.mem_of_getElem? (i := 99) rfl)) rfl⟩
theorem flX7_29 : FL RX7 29 7 4 := ⟨RX7, TX7, 7, rfl, by decide, inlX7, WL_in (tb1 (List.mem_of_getElem? (i := 100) rfl)) rfl⟩
theorem flX4_114 : FL RX4 114 7 4 := ⟨RX7, TX7, 7, rfl, by decide, inlX7, WL_in (tb1 (List.mem_of_getElem? (i := 101) rfl)) rfl⟩
theorem flX11_211 : FL RX11 211 7 4 := ⟨RX7, TX7, 7, rfl, by decide, inlX7, WL_in (tb1 (List.mem_of_getElem? (i := 102) rfl)) rfl⟩
theorem flX7_32 : FL RX7 32 7 5 := ⟨RX7, TX7, 7, rfl, by decide, inlX7, WL_in (tb1 (List.mem_of_getElem? (i := 103) rfl)) rfl⟩
theorem flX7_35 : FL RX7 35 7 6 := ⟨RX7, TX7, 7, rfl, by decide, inlX7, WL_in (tb1 (List.mem_of_getElem? (i := 104) rfl)) rfl⟩
theorem flX8_10 : FL RX8 10 8 0 := ⟨RX8, TX8, 5, rfl, by decide, inlX8, WL_in (tb1 (List.mem_of_getElem? (i := 120) rfl)) rfl⟩
theorem flX4_35 : FL RX4 35 8 0 := ⟨RX8, TX8, 5, rfl, by decide, inlX8, WL_in (tb1 (List.mem_of_getElem? (i := 121) rfl)) rfl⟩
theorem flX0_60 : FL RX0 60 8 0 := ⟨RX8, TX8, 5, rfl, by decide, inlX8, WL_in (tb1 (List.mem_of_getElem? (i := 122) rfl)) rfl⟩
theorem flX11_96 : FL RX11 96 8 0 := ⟨RX8, TX8, 5, rfl, by decide, inlX8, WL_in (tb1 (List.mem_of_getElem? (i := 123) rfl)) rfl⟩
theorem flX8_19 : FL RX8 19 8 1 := ⟨RX8, TX8, 5, rfl, by decide, inlX8, WL_in (tb1 (List.mem_of_getElem? (i := 124) rfl)) rfl⟩
theorem flX0_87 : FL RX0 87 8 1 := ⟨RX8, TX8, 5, rfl, by decide, inlX8, WL_in (tb1 (List.mem_of_getElem? (i := 125) rfl)) rfl⟩
theorem flX4_63 : FL RX4 63 8 1 := ⟨RX8, TX8, 5, rfl, by decide, inlX8, WL_in (tb1 (List.mem_of_getElem? (i := 126) rfl)) rfl⟩
theorem flX11_202 : FL RX11 202 8 1 := ⟨RX8, TX8, 5, rfl, by decide, inlX8, WL_in (tb1 (List.mem_of_getElem? (i := 127) rfl)) rfl⟩
theorem flX8_23 : FL RX8 23 8 2 := ⟨RX8, TX8, 5, rfl, by decide, inlX8, WL_in (tb1 (List.mem_of_getElem? (i := 128) rfl)) rfl⟩
theorem plX8_23 : PL RX8 23 8 2 .int := ⟨RX8, TX8, 5, tyX8, rfl, by decide, inlX8, WL_in (tb1 (List.mem_of_getElem? (i := 128) rfl)) rfl, tyX8_ok, nmX8, rfl, by decide +kernel⟩
theorem flX11_141 : FL RX11 141 8 2 := ⟨RX8, TX8, 5, rfl, by decide, inlX8, WL_in (tb1 (List.mem_of_getElem? (i := 129) rfl)) rfl⟩
theorem plX11_141 : PL RX11 141 8 2 .int := ⟨RX8, TX8, 5, tyX8, rfl, by decide, inlX8, WL_in (tb1 (List.mem_of_getElem? (i := 129) rfl)) rfl, tyX8_ok, nmX8, rfl, by decide +kernel⟩
theorem flX8_27 : FL RX8 27 8 3 := ⟨RX8, TX8, 5, rfl, by decide, inlX8, WL_in (tb1 (List.mem_of_getElem? (i := 130) rfl)) rfl⟩
theorem plX8_27 : PL RX8 27 8 3 .int := ⟨RX8, TX8, 5, tyX8, rfl, by decide, inlX8, WL_in (tb1 (List.mem_of_getElem? (i := 130) rfl)) rfl, tyX8_ok, nmX8, rfl, by decide +kernel⟩
theorem flX11_144 : FL RX11 144 8 3 := ⟨RX8, TX8, 5, rfl, by decide, inlX8, WL_in (tb1 (List.mem_of_getElem? (i := 131) rfl)) rfl⟩
theorem plX11_144 : PL RX11 144 8 3 .int := ⟨RX8, TX8, 5, tyX8, rfl, by decide, inlX8, WL_in (tb1 (List.mem_of_getElem? (i := 131) rfl)) rfl, tyX8_ok, nmX8, rfl, by decide +kernel⟩
theorem flX8_30 : FL RX8 30 8 4 := ⟨RX8, TX8, 5, rfl, by decide, inlX8, WL_in (tb1 (List.mem_of_getElem? (i := 132) rfl)) rfl⟩
theorem plX8_30 : PL RX8 30 8 4 .int := ⟨RX8, TX8, 5, tyX8, rfl, by decide, inlX8, WL_in (tb1 (List.mem_of_getElem? (i := 132) rfl)) rfl, tyX8_ok, nmX8, rfl, by decide +kernel⟩
theorem flX11_188 : FL RX11 188 8 4 := ⟨RX8, TX8, 5, rfl, by decide, inlX8, WL_in (tb1 (List.mem_of_getElem? (i := 133) rfl)) rfl⟩
theorem plX11_188 : PL RX11 188 8 4 .int := ⟨RX8, TX8, 5, tyX8, rfl, by decide, inlX8, WL_in (tb1 (List.mem_of_getElem? (i := 133) rfl)) rfl, tyX8_ok, nmX8, rfl, by decide +kernel⟩
theorem flX1_9 : FL RX1 9 1 0 := ⟨RX1, TX1, 2, rfl, by decide, inlX1, WL_in (tb1 (List.mem_of_getElem? (i := 153) rfl)) rfl⟩
theorem plX1_9 : PL RX1 9 1 0 .int := ⟨RX1, TX1, 2, tyX1, rfl, by decide, inlX1, WL_in (tb1 (List.mem_of_getElem? (i := 153) rfl)) rfl, tyX1_ok, nmX1, rfl, by decide +kernel⟩
theorem flX6_27 : FL RX6 27 1 0 := ⟨RX1, TX1, 2, rfl, by decide, inlX1, WL_in (tb1 (List.mem_of_getElem? (i := 154) rfl)) rfl⟩
theorem plX6_27 : PL RX6 27 1 0 .int := ⟨RX1, TX1, 2, tyX1, rfl, by decide, inlX1, WL_in (tb1 (List.mem_of_getElem? (i := 154) rfl)) rfl, tyX1_ok, nmX1, rfl, by decide +kernel⟩
theorem flX11_89 : FL RX11 89 1 0 := ⟨RX1, TX1, 2, rfl, by decide, inlX1, WL_in (tb1 (List.mem_of_getElem? (i := 155) rfl)) rfl⟩
theorem plX11_89 : PL RX11 89 1 0 .int := ⟨RX1, TX1, 2, tyX1, rfl, by decide, inlX1, WL_in (tb1 (List.mem_of_getElem? (i := 155) rfl)) rfl, tyX1_ok, nmX1, rfl, by decide +kernel⟩
theorem flX1_20 : FL RX1 20 1 1 := ⟨RX1, TX1, 2, rfl, by decide, inlX1, WL_in (tb1 (List.mem_of_getElem? (i := 156) rfl)) rfl⟩
theorem flX6_14 : FL RX6 14 6 0 := ⟨RX6, TX6, 3, rfl, by decide, inlX6, WL_in (tb1 (List.mem_of_getElem? (i := 170) rfl)) rfl⟩
theorem flX6_20 : FL RX6 20 6 1 := ⟨RX6, TX6, 3, rfl, by decide, inlX6, WL_in (tb1 (List.mem_of_getElem? (i := 171) rfl)) rfl⟩
theorem flX6_23 : FL RX6 23 6 2 := ⟨RX6, TX6, 3, rfl, by decide, inlX6, WL_in (tb1 (List.mem_of_getElem? (i := 172) rfl)) rfl⟩
theorem plX6_23 : PL RX6 23 6 2 .int := ⟨RX6, TX6, 3, tyX6, rfl, by decide, inlX6, WL_in (tb1 (List.mem_of_getElem? (i := 172) rfl)) rfl, tyX6_ok, nmX6, rfl, by decide +kernel⟩
theorem flX2_9 : FL RX2 9 2 0 := ⟨RX2, TX2, 3, rfl, by decide, inlX2, WL_in (tb1 (List.mem_of_getElem? (i := 189) rfl)) rfl⟩
theorem plX2_9 : PL RX2 9 2 0 .int := ⟨RX2, TX2, 3, tyX2, rfl, by decide, inlX2, WL_in (tb1 (List.mem_of_getElem? (i := 189) rfl)) rfl, tyX2_ok, nmX2, rfl, by decide +kernel⟩
theorem flX11_305 : FL RX11 305 2 0 := ⟨RX2, TX2, 3, rfl, by decide, inlX2, WL_in (tb1 (List.mem_of_getElem? (i := 190) rfl)) rfl⟩
theorem plX11_305 : PL RX11 305 2 0 .int := ⟨RX2, TX2, 3, tyX2, rfl, by decide, inlX2, WL_in (tb1 (List.mem_of_getElem? (i := 190) rfl)) rfl, tyX2_ok, nmX2, rfl, by decide +kernel⟩
theorem flX2_15 : FL RX2 15 2 1 := ⟨RX2, TX2, 3, rfl, by decide, inlX2, WL_in (tb1 (List.mem_of_getElem? (i := 191) rfl)) rfl⟩
theorem plX2_15 : PL RX2 15 2 1 .int := ⟨RX2, TX2, 3, tyX2, rfl, by decide, inlX2, WL_in (tb1 (List.mem_of_getElem? (i := 191) rfl)) rfl, tyX2_ok, nmX2, rfl, by decide +kernel⟩
theorem flX2_20 : FL RX2 20 2 2 := ⟨RX2, TX2, 3, rfl, by decide, inlX2, WL_in (tb1 (List.mem_of_getElem? (i := 192) rfl)) rfl⟩
theorem flX9_9 : FL RX9 9 9 0 := ⟨RX9, TX9, 10, rfl, by decide, inlX9, WL_in (tb1 (List.mem_of_getElem? (i := 210) rfl)) rfl⟩
theorem plX9_9 : PL RX9 9 9 0 .int := ⟨RX9, TX9, 10, tyX9, rfl, by decide, inlX9, WL_in (tb1 (List.mem_of_getElem? (i := 210) rfl)) rfl, tyX9_ok, nmX9, rfl, by decide +kernel⟩
theorem flX10_27 : FL RX10 27 9 0 := ⟨RX9, TX9, 10, rfl, by decide, inlX9, WL_in (tb1 (List.mem_of_getElem? (i := 211) rfl)) rfl⟩
theorem plX10_27 : PL RX10 27 9 0 .int := ⟨RX9, TX9, 10, tyX9, rfl, by decide, inlX9, WL_in (tb1 (List.mem_of_getElem? (i := 211) rfl)) rfl, tyX9_ok, nmX9, rfl, by decide +kernel⟩
theorem flX9_20 : FL RX9 20 9 1 := ⟨RX9, TX9, 10, rfl, by decide, inlX9, WL_in (tb1 (List.mem_of_getElem? (i := 212) rfl)) rfl⟩
theorem flX10_54 : FL RX10 54 9 1 := ⟨RX9, TX9, 10, rfl, by decide, inlX9, WL_in (tb1 (List.mem_of_getElem? (i := 213) rfl)) rfl⟩
theorem flX0_103 : FL RX0 103 9 1 := ⟨RX9, TX9, 10, rfl, by decide, inlX9, WL_in (tb1 (List.mem_of_getElem? (i := 214) rfl)) rfl⟩
theorem flX4_139 : FL RX4 139 9 1 := ⟨RX9, TX9, 10, rfl, by decide, inlX9, WL_in (tb1 (List.mem_of_getElem? (i := 215) rfl)) rfl⟩
theorem flX11_273 : FL RX11 273 9 1 := ⟨RX9, TX9, 10, rfl, by decide, inlX9, WL_in (tb1 (List.mem_of_getElem? (i := 216) rfl)) rfl⟩
theorem flX9_24 : FL RX9 24 9 2 := ⟨RX9, TX9, 10, rfl, by decide, inlX9, WL_in (tb1 (List.mem_of_getElem? (i := 217) rfl)) rfl⟩
theorem flX10_57 : FL RX10 57 9 2 := ⟨RX9, TX9, 10, rfl, by decide, inlX9, WL_in (tb1 (List.mem_of_getElem? (i := 218) rfl)) rfl⟩
theorem flX0_106 : FL RX0 106 9 2 := ⟨RX9, TX9, 10, rfl, by decide, inlX9, WL_in (tb1 (List.mem_of_getElem? (i := 219) rfl)) rfl⟩
theorem flX4_144 : FL RX4 144 9 2 := ⟨RX9, TX9, 10, rfl, by decide, inlX9, WL_in (tb1 (List.mem_of_getElem? (i := 220) rfl)) rfl⟩
theorem flX11_248 : FL RX11 248 9 2 := ⟨RX9, TX9, 10, rfl, by decide, inlX9, WL_in (tb1 (List.mem_of_getElem? (i := 221) rfl)) rfl⟩
theorem flX9_27 : FL RX9 27 9 3 := ⟨RX9, TX9, 10, rfl, by decide, inlX9, WL_in (tb1 (List.mem_of_getElem? (i := 222) rfl)) rfl⟩
theorem flX10_51 : FL RX10 51 9 3 := ⟨RX9, TX9, 10, rfl, by decide, inlX9, WL_in (tb1 (List.mem_of_getElem? (i := 223) rfl)) rfl⟩
theorem flX0_109 : FL RX0 109 9 3 := ⟨RX9, TX9, 10, rfl, by decide, inlX9, WL_in (tb1 (List.mem_of_getElem? (i := 224) rfl)) rfl⟩
theorem flX11_251 : FL RX11 251 9 3 := ⟨RX9, TX9, 10, rfl, by decide, inlX9, WL_in (tb1 (List.mem_of_getElem? (i := 225) rfl)) rfl⟩
theorem flX9_30 : FL RX9 30 9 4 := ⟨RX9, TX9, 10, rfl, by decide, inlX9, WL_in (tb1 (List.mem_of_getElem? (i := 226) rfl)) rfl⟩
theorem flX10_32 : FL RX10 32 9 4 := ⟨RX9, TX9, 10, rfl, by decide, inlX9, WL_in (tb1 (List.mem_of_getElem? (i := 227) rfl)) rfl⟩
theorem flX0_112 : FL RX0 112 9 4 := ⟨RX9, TX9, 10, rfl, by decide, inlX9, WL_in (tb1 (List.mem_of_getElem? (i := 228) rfl)) rfl⟩
theorem flX11_252 : FL RX11 252 9 4 := ⟨RX9, TX9, 10, rfl, by decide, inlX9, WL_in (tb1 (List.mem_of_getElem? (i := 229) rfl)) rfl⟩
theorem flX9_33 : FL RX9 33 9 5 := ⟨RX9, TX9, 10, rfl, by decide, inlX9, WL_in (tb1 (List.mem_of_getElem? (i := 230) rfl)) rfl⟩
theorem flX0_74 : FL RX0 74 9 5 := ⟨RX9, TX9, 10, rfl, by decide, inlX9, WL_in (tb1 (List.mem_of_getElem? (i := 231) rfl)) rfl⟩
theorem flX4_84 : FL RX4 84 9 5 := ⟨RX9, TX9, 10, rfl, by decide, inlX9, WL_in (tb1 (List.mem_of_getElem? (i := 232) rfl)) rfl⟩
theorem flX11_367 : FL RX11 367 9 5 := ⟨RX9, TX9, 10, rfl, by decide, inlX9, WL_in (tb1 (List.mem_of_getElem? (i := 233) rfl)) rfl⟩
theorem flX9_36 : FL RX9 36 9 6 := ⟨RX9, TX9, 10, rfl, by decide, inlX9, WL_in (tb1 (List.mem_of_getElem? (i := 234) rfl)) rfl⟩
theorem flX4_54 : FL RX4 54 9 6 := ⟨RX9, TX9, 10, rfl, by decide, inlX9, WL_in (tb1 (List.mem_of_getElem? (i := 235) rfl)) rfl⟩
theorem flX11_182 : FL RX11 182 9 6 := ⟨RX9, TX9, 10, rfl, by decide, inlX9, WL_in (tb1 (List.mem_of_getElem? (i := 236) rfl)) rfl⟩
theorem flX9_39 : FL RX9 39 9 7 := ⟨RX9, TX9, 10, rfl, by decide, inlX9, WL_in (tb1 (List.mem_of_getElem? (i := 237) rfl)) rfl⟩
theorem flX9_42 : FL RX9 42 9 8 := ⟨RX9, TX9, 10, rfl, by decide, inlX9, WL_in (tb1 (List.mem_of_getElem? (i := 238) rfl)) rfl⟩
theorem plX9_42 : PL RX9 42 9 8 .int := ⟨RX9, TX9, 10, tyX9, rfl, by decide, inlX9, WL_in (tb1 (List.mem_of_getElem? (i := 238) rfl)) rfl, tyX9_ok, nmX9, rfl, by decide +kernel⟩
theorem flX9_45 : FL RX9 45 9 9 := ⟨RX9, TX9, 10, rfl, by decide, inlX9, WL_in (tb1 (List.mem_of_getElem? (i := 239) rfl)) rfl⟩
theorem plX9_45 : PL RX9 45 9 9 .boolean := ⟨RX9, TX9, 10, tyX9, rfl, by decide, inlX9, WL_in (tb1 (List.mem_of_getElem? (i := 239) rfl)) rfl, tyX9_ok, nmX9, rfl, by decide +kernel⟩
theorem flX0_14 : FL RX0 14 0 0 := ⟨RX0, TX0, 14, rfl, by decide, inlX0, WL_in (tb2 (List.mem_of_getElem? (i := 29) rfl)) rfl⟩
theorem flX4_98 : FL RX4 98 0 0 := ⟨RX0, TX0, 14, rfl, by decide, inlX0, WL_in (tb2 (List.mem_of_getElem? (i := 30) rfl)) rfl⟩
theorem flX0_20 : FL RX0 20 0 1 := ⟨RX0, TX0, 14, rfl, by decide, inlX0, WL_in (tb2 (List.mem_of_getElem? (i := 31) rfl)) rfl⟩
theorem flX0_23 : FL RX0 23 0 2 := ⟨RX0, TX0, 14, rfl, by decide, inlX0, WL_in (tb2 (List.mem_of_getElem? (i := 32) rfl)) rfl⟩
theorem flX4_95 : FL RX4 95 0 2 := ⟨RX0, TX0, 14, rfl, by decide, inlX0, WL_in (tb2 (List.mem_of_getElem? (i := 33) rfl)) rfl⟩
theorem flX11_270 : FL RX11 270 0 2 := ⟨RX0, TX0, 14, rfl, by decide, inlX0, WL_in (tb2 (List.mem_of_getElem? (i := 34) rfl)) rfl⟩
theorem flX0_26 : FL RX0 26 0 3 := ⟨RX0, TX0, 14, rfl, by decide, inlX0, WL_in (tb2 (List.mem_of_getElem? (i := 35) rfl)) rfl⟩
theorem flX4_92 : FL RX4 92 0 3 := ⟨RX0, TX0, 14, rfl, by decide, inlX0, WL_in (tb2 (List.mem_of_getElem? (i := 36) rfl)) rfl⟩
theorem flX11_255 : FL RX11 255 0 3 := ⟨RX0, TX0, 14, rfl, by decide, inlX0, WL_in (tb2 (List.mem_of_getElem? (i := 37) rfl)) rfl⟩
theorem flX0_29 : FL RX0 29 0 4 := ⟨RX0, TX0, 14, rfl, by decide, inlX0, WL_in (tb2 (List.mem_of_getElem? (i := 38) rfl)) rfl⟩
theorem flX11_261 : FL RX11 261 0 4 := ⟨RX0, TX0, 14, rfl, by decide, inlX0, WL_in (tb2 (List.mem_of_getElem? (i := 39) rfl)) rfl⟩
theorem flX0_32 : FL RX0 32 0 5 := ⟨RX0, TX0, 14, rfl, by decide, inlX0, WL_in (tb2 (List.mem_of_getElem? (i := 40) rfl)) rfl⟩
theorem flX4_124 : FL RX4 124 0 5 := ⟨RX0, TX0, 14, rfl, by decide, inlX0, WL_in (tb2 (List.mem_of_getElem? (i := 41) rfl)) rfl⟩
theorem flX0_35 : FL RX0 35 0 6 := ⟨RX0, TX0, 14, rfl, by decide, inlX0, WL_in (tb2 (List.mem_of_getElem? (i := 42) rfl)) rfl⟩
theorem flX4_138 : FL RX4 138 0 6 := ⟨RX0, TX0, 14, rfl, by decide, inlX0, WL_in (tb2 (List.mem_of_getElem? (i := 43) rfl)) rfl⟩
theorem flX11_276 : FL RX11 276 0 6 := ⟨RX0, TX0, 14, rfl, by decide, inlX0, WL_in (tb2 (List.mem_of_getElem? (i := 44) rfl)) rfl⟩
theorem flX0_38 : FL RX0 38 0 7 := ⟨RX0, TX0, 14, rfl, by decide, inlX0, WL_in (tb2 (List.mem_of_getElem? (i := 45) rfl)) rfl⟩
theorem flX4_142 : FL RX4 142 0 7 := ⟨RX0, TX0, 14, rfl, by decide, inlX0, WL_in (tb2 (List.mem_of_getElem? (i := 46) rfl)) rfl⟩
theorem flX11_279 : FL RX11 279 0 7 := ⟨RX0, TX0, 14, rfl, by decide, inlX0, WL_in (tb2 (List.mem_of_getElem? (i := 47) rfl)) rfl⟩
theorem flX0_41 : FL RX0 41 0 8 := ⟨RX0, TX0, 14, rfl, by decide, inlX0, WL_in (tb2 (List.mem_of_getElem? (i := 48) rfl)) rfl⟩
theorem flX4_121 : FL RX4 121 0 8 := ⟨RX0, TX0, 14, rfl, by decide, inlX0, WL_in (tb2 (List.mem_of_getElem? (i := 49) rfl)) rfl⟩
theorem flX11_264 : FL RX11 264 0 8 := ⟨RX0, TX0, 14, rfl, by decide, inlX0, WL_in (tb2 (List.mem_of_getElem? (i := 50) rfl)) rfl⟩
theorem flX0_44 : FL RX0 44 0 9 := ⟨RX0, TX0, 14, rfl, by decide, inlX0, WL_in (tb2 (List.mem_of_getElem? (i := 51) rfl)) rfl⟩
theorem flX0_47 : FL RX0 47 0 10 := ⟨RX0, TX0, 14, rfl, by decide, inlX0, WL_in (tb2 (List.mem_of_getElem? (i := 52) rfl)) rfl⟩
theorem flX0_50 : FL RX0 50 0 11 := ⟨RX0, TX0, 14, rfl, by decide, inlX0, WL_in (tb2 (List.mem_of_getElem? (i := 53) rfl)) rfl⟩
theorem plX0_50 : PL RX0 50 0 11 .int := ⟨RX0, TX0, 14, tyX0, rfl, by decide, inlX0, WL_in (tb2 (List.mem_of_getElem? (i := 53) rfl)) rfl, tyX0_ok, nmX0, rfl, by decide +kernel⟩
theorem flX0_54 : FL RX0 54 0 12 := ⟨RX0, TX0, 14, rfl, by decide, inlX0, WL_in (tb2 (List.mem_of_getElem? (i := 54) rfl)) rfl⟩
theorem plX0_54 : PL RX0 54 0 12 .int := ⟨RX0, TX0, 14, tyX0, rfl, by decide, inlX0, WL_in (tb2 (List.mem_of_getElem? (i := 54) rfl)) rfl, tyX0_ok, nmX0, rfl, by decide +kernel⟩
theorem flX11_285 : FL RX11 285 0 12 := ⟨RX0, TX0, 14, rfl, by decide, inlX0, WL_in (tb2 (List.mem_of_getElem? (i := 55) rfl)) rfl⟩
theorem plX11_285 : PL RX11 285 0 12 .int := ⟨RX0, TX0, 14, tyX0, rfl, by decide, inlX0, WL_in (tb2 (List.mem_of_getElem? (i := 55) rfl)) rfl, tyX0_ok, nmX0, rfl, by decide +kernel⟩
theorem flX0_57 : FL RX0 57 0 13 := ⟨RX0, TX0, 14, rfl, by decide, inlX0, WL_in (tb2 (List.mem_of_getElem? (i := 56) rfl)) rfl⟩
theorem plX0_57 : PL RX0 57 0 13 .int := ⟨RX0, TX0, 14, tyX0, rfl, by decide, inlX0, WL_in (tb2 (List.mem_of_getElem? (i := 56) rfl)) rfl, tyX0_ok, nmX0, rfl, by decide +kernel⟩
theorem flX11_288 : FL RX11 288 0 13 := ⟨RX0, TX0, 14, rfl, by decide, inlX0, WL_in (tb2 (List.mem_of_getElem? (i := 57) rfl)) rfl⟩
theorem plX11_288 : PL RX11 288 0 13 .int := ⟨RX0, TX0, 14, tyX0, rfl, by decide, inlX0, WL_in (tb2 (List.mem_of_getElem? (i := 57) rfl)) rfl, tyX0_ok, nmX0, rfl, by decide +kernel⟩
theorem flX4_14 : FL RX4 14 4 0 := ⟨RX4, TX4, 6, rfl, by decide, inlX4, WL_in (tb2 (List.mem_of_getElem? (i := 95) rfl)) rfl⟩
theorem flX11_225 : FL RX11 225 4 0 := ⟨RX4, TX4, 6, rfl, by decide, inlX4, WL_in (tb2 (List.mem_of_getElem? (i := 96) rfl)) rfl⟩
theorem flX4_20 : FL RX4 20 4 1 := ⟨RX4, TX4, 6, rfl, by decide, inlX4, WL_in (tb2 (List.mem_of_getElem? (i := 97) rfl)) rfl⟩
theorem flX11_228 : FL RX11 228 4 1 := ⟨RX4, TX4, 6, rfl, by decide, inlX4, WL_in (tb2 (List.mem_of_getElem? (i := 98) rfl)) rfl⟩
theorem flX4_23 : FL RX4 23 4 2 := ⟨RX4, TX4, 6, rfl, by decide, inlX4, WL_in (tb2 (List.mem_of_getElem? (i := 99) rfl)) rfl⟩
theorem flX4_26 : FL RX4 26 4 3 := ⟨RX4, TX4, 6, rfl, by decide, inlX4, WL_in (tb2 (List.mem_of_getElem? (i := 100) rfl)) rfl⟩
theorem flX4_29 : FL RX4 29 4 4 := ⟨RX4, TX4, 6, rfl, by decide, inlX4, WL_in (tb2 (List.mem_of_getElem? (i := 101) rfl)) rfl⟩
theorem flX4_32 : FL RX4 32 4 5 := ⟨RX4, TX4, 6, rfl, by decide, inlX4, WL_in (tb2 (List.mem_of_getElem? (i := 102) rfl)) rfl⟩
theorem flX10_9 : FL RX10 9 10 0 := ⟨RX10, TX10, 3, rfl, by decide, inlX10, WL_in (tb2 (List.mem_of_getElem? (i := 124) rfl)) rfl⟩
theorem plX10_9 : PL RX10 9 10 0 .int := ⟨RX10, TX10, 3, tyX10, rfl, by decide, inlX10, WL_in (tb2 (List.mem_of_getElem? (i := 124) rfl)) rfl, tyX10_ok, nmX10, rfl, by decide +kernel⟩
theorem flX11_294 : FL RX11 294 10 0 := ⟨RX10, TX10, 3, rfl, by decide, inlX10, WL_in (tb2 (List.mem_of_getElem? (i := 125) rfl)) rfl⟩
theorem plX11_294 : PL RX11 294 10 0 .int := ⟨RX10, TX10, 3, tyX10, rfl, by decide, inlX10, WL_in (tb2 (List.mem_of_getElem? (i := 125) rfl)) rfl, tyX10_ok, nmX10, rfl, by decide +kernel⟩
theorem flX10_20 : FL RX10 20 10 1 := ⟨RX10, TX10, 3, rfl, by decide, inlX10, WL_in (tb2 (List.mem_of_getElem? (i := 126) rfl)) rfl⟩
theorem flX11_302 : FL RX11 302 10 1 := ⟨RX10, TX10, 3, rfl, by decide, inlX10, WL_in (tb2 (List.mem_of_getElem? (i := 127) rfl)) rfl⟩
theorem flX10_24 : FL RX10 24 10 2 := ⟨RX10, TX10, 3, rfl, by decide, inlX10, WL_in (tb2 (List.mem_of_getElem? (i := 128) rfl)) rfl⟩
theorem flX11_299 : FL RX11 299 10 2 := ⟨RX10, TX10, 3, rfl, by decide, inlX10, WL_in (tb2 (List.mem_of_getElem? (i := 129) rfl)) rfl⟩
theorem flX11_12 : FL RX11 12 11 0 := ⟨RX11, TX11, 12, rfl, by decide, inlX11, WL_in (tb2 (List.mem_of_getElem? (i := 137) rfl)) rfl⟩
theorem flX11_19 : FL RX11 19 11 1 := ⟨RX11, TX11, 12, rfl, by decide, inlX11, WL_in (tb2 (List.mem_of_getElem? (i := 138) rfl)) rfl⟩
theorem flX11_26 : FL RX11 26 11 2 := ⟨RX11, TX11, 12, rfl, by decide, inlX11, WL_in (tb2 (List.mem_of_getElem? (i := 139) rfl)) rfl⟩
theorem flX11_33 : FL RX11 33 11 3 := ⟨RX11, TX11, 12, rfl, by decide, inlX11, WL_in (tb2 (List.mem_of_getElem? (i := 140) rfl)) rfl⟩
theorem flX11_37 : FL RX11 37 11 4 := ⟨RX11, TX11, 12, rfl, by decide, inlX11, WL_in (tb2 (List.mem_of_getElem? (i := 141) rfl)) rfl⟩
theorem flX11_46 : FL RX11 46 11 5 := ⟨RX11, TX11, 12, rfl, by decide, inlX11, WL_in (tb2 (List.mem_of_getElem? (i := 142) rfl)) rfl⟩
theorem flX11_53 : FL RX11 53 11 6 := ⟨RX11, TX11, 12, rfl, by decide, inlX11, WL_in (tb2 (List.mem_of_getElem? (i := 143) rfl)) rfl⟩
theorem flX11_60 : FL RX11 60 11 7 := ⟨RX11, TX11, 12, rfl, by decide, inlX11, WL_in (tb2 (List.mem_of_getElem? (i := 144) rfl)) rfl⟩
theorem flX11_67 : FL RX11 67 11 8 := ⟨RX11, TX11, 12, rfl, by decide, inlX11, WL_in (tb2 (List.mem_of_getElem? (i := 145) rfl)) rfl⟩
theorem flX11_74 : FL RX11 74 11 9 := ⟨RX11, TX11, 12, rfl, by decide, inlX11, WL_in (tb2 (List.mem_of_getElem? (i := 146) rfl)) rfl⟩
theorem flX11_78 : FL RX11 78 11 10 := ⟨RX11, TX11, 12, rfl, by decide, inlX11, WL_in (tb2 (List.mem_of_getElem? (i := 147) rfl)) rfl⟩
theorem flX11_81 : FL RX11 81 11 11 := ⟨RX11, TX11, 12, rfl, by decide, inlX11, WL_in (tb2 (List.mem_of_getElem? (i := 148) rfl)) rfl⟩
theorem plX11_81 : PL RX11 81 11 11 .boolean := ⟨RX11, TX11, 12, tyX11, rfl, by decide, inlX11, WL_in (tb2 (List.mem_of_getElem? (i := 148) rfl)) rfl, tyX11_ok, nmX11, rfl, by decide +kernel⟩
theorem flX12_7 : FL RX12 7 12 0 := ⟨RX12, TX12, 41, rfl, by decide, inlX12, WL_in (tb5 (List.mem_of_getElem? (i := 135) rfl)) rfl⟩
theorem flX12_71 : FL RX12 71 12 1 := ⟨RX12, TX12, 41, rfl, by decide, inlX12, WL_in (tb5 (List.mem_of_getElem? (i := 136) rfl)) rfl⟩
theorem plX12_71 : PL RX12 71 12 1 .int := ⟨RX12, TX12, 41, tyX12, rfl, by decide, inlX12, WL_in (tb5 (List.mem_of_getElem? (i := 136) rfl)) rfl, tyX12_ok, nmX12, rfl, by decide +kernel⟩
theorem flX12_13 : FL RX12 13 12 2 := ⟨RX12, TX12, 41, rfl, by decide, inlX12, WL_in (tb5 (List.mem_of_getElem? (i := 137) rfl)) rfl⟩
theorem flX12_17 : FL RX12 17 12 3 := ⟨RX12, TX12, 41, rfl, by decide, inlX12, WL_in (tb5 (List.mem_of_getElem? (i := 138) rfl)) rfl⟩
theorem flX12_191 : FL RX12 191 12 4 := ⟨RX12, TX12, 41, rfl, by decide, inlX12, WL_in (tb5 (List.mem_of_getElem? (i := 139) rfl)) rfl⟩
theorem plX12_191 : PL RX12 191 12 4 .int := ⟨RX12, TX12, 41, tyX12, rfl, by decide, inlX12, WL_in (tb5 (List.mem_of_getElem? (i := 139) rfl)) rfl, tyX12_ok, nmX12, rfl, by decide +kernel⟩
theorem flX12_20 : FL RX12 20 12 5 := ⟨RX12, TX12, 41, rfl, by decide, inlX12, WL_in (tb5 (List.mem_of_getElem? (i := 140) rfl)) rfl⟩
theorem flX12_23 : FL RX12 23 12 6 := ⟨RX12, TX12, 41, rfl, by decide, inlX12, WL_in (tb5 (List.mem_of_getElem? (i := 141) rfl)) rfl⟩
theorem flX12_26 : FL RX12 26 12 7 := ⟨RX12, TX12, 41, rfl, by decide, inlX12, WL_in (tb5 (List.mem_of_getElem? (i := 142) rfl)) rfl⟩
theorem flX12_29 : FL RX12 29 12 8 := ⟨RX12, TX12, 41, rfl, by decide, inlX12, WL_in (tb5 (List.mem_of_getElem? (i := 143) rfl)) rfl⟩
theorem flX12_32 : FL RX12 32 12 9 := ⟨RX12, TX12, 41, rfl, by decide, inlX12, WL_in (tb5 (List.mem_of_getElem? (i := 144) rfl)) rfl⟩
theorem flX12_35 : FL RX12 35 12 10 := ⟨RX12, TX12, 41, rfl, by decide, inlX12, WL_in (tb5 (List.mem_of_getElem? (i := 145) rfl)) rfl⟩
theorem flX12_38 : FL RX12 38 12 11 := ⟨RX12, TX12, 41, rfl, by decide, inlX12, WL_in (tb5 (List.mem_of_getElem? (i := 146) rfl)) rfl⟩
theorem flX12_98 : FL RX12 98 12 12 := ⟨RX12, TX12, 41, rfl, by decide, inlX12, WL_in (tb5 (List.mem_of_getElem? (i := 147) rfl)) rfl⟩
theorem plX12_98 : PL RX12 98 12 12 .int := ⟨RX12, TX12, 41, tyX12, rfl, by decide, inlX12, WL_in (tb5 (List.mem_of_getElem? (i := 147) rfl)) rfl, tyX12_ok, nmX12, rfl, by decide +kernel⟩
theorem flX12_41 : FL RX12 41 12 13 := ⟨RX12, TX12, 41, rfl, by decide, inlX12, WL_in (tb5 (List.mem_of_getElem? (i := 148) rfl)) rfl⟩
theorem flX12_44 : FL RX12 44 12 14 := ⟨RX12, TX12, 41, rfl, by decide, inlX12, WL_in (tb5 (List.mem_of_getElem? (i := 149) rfl)) rfl⟩
theorem flX12_47 : FL RX12 47 12 15 := ⟨RX12, TX12, 41, rfl, by decide, inlX12, WL_in (tb5 (List.mem_of_getElem? (i := 150) rfl)) rfl⟩
theorem flX12_50 : FL RX12 50 12 16 := ⟨RX12, TX12, 41, rfl, by decide, inlX12, WL_in (tb5 (List.mem_of_getElem? (i := 151) rfl)) rfl⟩
theorem flX12_53 : FL RX12 53 12 17 := ⟨RX12, TX12, 41, rfl, by decide, inlX12, WL_in (tb5 (List.mem_of_getElem? (i := 152) rfl)) rfl⟩
theorem flX12_126 : FL RX12 126 12 18 := ⟨RX12, TX12, 41, rfl, by decide, inlX12, WL_in (tb5 (List.mem_of_getElem? (i := 153) rfl)) rfl⟩
theorem plX12_126 : PL RX12 126 12 18 .int := ⟨RX12, TX12, 41, tyX12, rfl, by decide, inlX12, WL_in (tb5 (List.mem_of_getElem? (i := 153) rfl)) rfl, tyX12_ok, nmX12, rfl, by decide +kernel⟩
theorem flX12_135 : FL RX12 135 12 19 := ⟨RX12, TX12, 41, rfl, by decide, inlX12, WL_in (tb5 (List.mem_of_getElem? (i := 154) rfl)) rfl⟩
theorem plX12_135 : PL RX12 135 12 19 .int := ⟨RX12, TX12, 41, tyX12, rfl, by decide, inlX12, WL_in (tb5 (List.mem_of_getElem? (i := 154) rfl)) rfl, tyX12_ok, nmX12, rfl, by decide +kernel⟩
theorem flX12_129 : FL RX12 129 12 20 := ⟨RX12, TX12, 41, rfl, by decide, inlX12, WL_in (tb5 (List.mem_of_getElem? (i := 155) rfl)) rfl⟩
theorem plX12_129 : PL RX12 129 12 20 .int := ⟨RX12, TX12, 41, tyX12, rfl, by decide, inlX12, WL_in (tb5 (List.mem_of_getElem? (i := 155) rfl)) rfl, tyX12_ok, nmX12, rfl, by decide +kernel⟩
theorem flX12_56 : FL RX12 56 12 21 := ⟨RX12, TX12, 41, rfl, by decide, inlX12, WL_in (tb5 (List.mem_of_getElem? (i := 156) rfl)) rfl⟩
theorem flX12_154 : FL RX12 154 12 22 := ⟨RX12, TX12, 41, rfl, by decide, inlX12, WL_in (tb5 (List.mem_of_getElem? (i := 157) rfl)) rfl⟩
theorem plX12_154 : PL RX12 154 12 22 .int := ⟨RX12, TX12, 41, tyX12, rfl, by decide, inlX12, WL_in (tb5 (List.mem_of_getElem? (i := 157) rfl)) rfl, tyX12_ok, nmX12, rfl, by decide +kernel⟩
theorem flX12_157 : FL RX12 157 12 23 := ⟨RX12, TX12, 41, rfl, by decide, inlX12, WL_in (tb5 (List.mem_of_getElem? (i := 158) rfl)) rfl⟩
theorem plX12_157 : PL RX12 157 12 23 .int := ⟨RX12, TX12, 41, tyX12, rfl, by decide, inlX12, WL_in (tb5 (List.mem_of_getElem? (i := 158) rfl)) rfl, tyX12_ok, nmX12, rfl, by decide +kernel⟩
theorem flX12_170 : FL RX12 170 12 24 := ⟨RX12, TX12, 41, rfl, by decide, inlX12, WL_in (tb5 (List.mem_of_getElem? (i := 159) rfl)) rfl⟩
theorem plX12_170 : PL RX12 170 12 24 .int := ⟨RX12, TX12, 41, tyX12, rfl, by decide, inlX12, WL_in (tb5 (List.mem_of_getElem? (i := 159) rfl)) rfl, tyX12_ok, nmX12, rfl, by decide +kernel⟩
theorem flX12_173 : FL RX12 173 12 25 := ⟨RX12, TX12, 41, rfl, by decide, inlX12, WL_in (tb5 (List.mem_of_getElem? (i := 160) rfl)) rfl⟩
theorem plX12_173 : PL RX12 173 12 25 .int := ⟨RX12, TX12, 41, tyX12, rfl, by decide, inlX12, WL_in (tb5 (List.mem_of_getElem? (i := 160) rfl)) rfl, tyX12_ok, nmX12, rfl, by decide +kernel⟩
theorem flX12_176 : FL RX12 176 12 26 := ⟨RX12, TX12, 41, rfl, by decide, inlX12, WL_in (tb5 (List.mem_of_getElem? (i := 161) rfl)) rfl⟩
theorem plX12_176 : PL RX12 176 12 26 .int := ⟨RX12, TX12, 41, tyX12, rfl, by decide, inlX12, WL_in (tb5 (List.mem_of_getElem? (i := 161) rfl)) rfl, tyX12_ok, nmX12, rfl, by decide +kernel⟩
theorem flX12_167 : FL RX12 167 12 27 := ⟨RX12, TX12, 41, rfl, by decide, inlX12, WL_in (tb5 (List.mem_of_getElem? (i := 162) rfl)) rfl⟩
theorem plX12_167 : PL RX12 167 12 27 .int := ⟨RX12, TX12, 41, tyX12, rfl, by decide, inlX12, WL_in (tb5 (List.mem_of_getElem? (i := 162) rfl)) rfl, tyX12_ok, nmX12, rfl, by decide +kernel⟩
theorem flX12_194 : FL RX12 194 12 28 := ⟨RX12, TX12, 41, rfl, by decide, inlX12, WL_in (tb5 (List.mem_of_getElem? (i := 163) rfl)) rfl⟩
theorem plX12_194 : PL RX12 194 12 28 .int := ⟨RX12, TX12, 41, tyX12, rfl, by decide, inlX12, WL_in (tb5 (List.mem_of_getElem? (i := 163) rfl)) rfl, tyX12_ok, nmX12, rfl, by decide +kernel⟩
theorem flX12_197 : FL RX12 197 12 29 := ⟨RX12, TX12, 41, rfl, by decide, inlX12, WL_in (tb5 (List.mem_of_getElem? (i := 164) rfl)) rfl⟩
theorem plX12_197 : PL RX12 197 12 29 .int := ⟨RX12, TX12, 41, tyX12, rfl, by decide, inlX12, WL_in (tb5 (List.mem_of_getElem? (i := 164) rfl)) rfl, tyX12_ok, nmX12, rfl, by decide +kernel⟩
theorem flX12_59 : FL RX12 59 12 30 := ⟨RX12, TX12, 41, rfl, by decide, inlX12, WL_in (tb5 (List.mem_of_getElem? (i := 165) rfl)) rfl⟩
theorem flX12_62 : FL RX12 62 12 31 := ⟨RX12, TX12, 41, rfl, by decide, inlX12, WL_in (tb5 (List.mem_of_getElem? (i := 166) rfl)) rfl⟩
theorem flX12_237 : FL RX12 237 12 32 := ⟨RX12, TX12, 41, rfl, by decide, inlX12, WL_in (tb5 (List.mem_of_getElem? (i := 167) rfl)) rfl⟩
theorem plX12_237 : PL RX12 237 12 32 .int := ⟨RX12, TX12, 41, tyX12, rfl, by decide, inlX12, WL_in (tb5 (List.mem_of_getElem? (i := 167) rfl)) rfl, tyX12_ok, nmX12, rfl, by decide +kernel⟩
theorem flX12_265 : FL RX12 265 12 33 := ⟨RX12, TX12, 41, rfl, by decide, inlX12, WL_in (tb5 (List.mem_of_getElem? (i := 168) rfl)) rfl⟩
theorem plX12_265 : PL RX12 265 12 33 .int := ⟨RX12, TX12, 41, tyX12, rfl, by decide, inlX12, WL_in (tb5 (List.mem_of_getElem? (i := 168) rfl)) rfl, tyX12_ok, nmX12, rfl, by decide +kernel⟩
theorem flX12_268 : FL RX12 268 12 34 := ⟨RX12, TX12, 41, rfl, by decide, inlX12, WL_in (tb5 (List.mem_of_getElem? (i := 169) rfl)) rfl⟩
theorem plX12_268 : PL RX12 268 12 34 .int := ⟨RX12, TX12, 41, tyX12, rfl, by decide, inlX12, WL_in (tb5 (List.mem_of_getElem? (i := 169) rfl)) rfl, tyX12_ok, nmX12, rfl, by decide +kernel⟩
theorem flX12_271 : FL RX12 271 12 35 := ⟨RX12, TX12, 41, rfl, by decide, inlX12, WL_in (tb5 (List.mem_of_getElem? (i := 170) rfl)) rfl⟩
theorem plX12_271 : PL RX12 271 12 35 .int := ⟨RX12, TX12, 41, tyX12, rfl, by decide, inlX12, WL_in (tb5 (List.mem_of_getElem? (i := 170) rfl)) rfl, tyX12_ok, nmX12, rfl, by decide +kernel⟩
theorem flX12_292 : FL RX12 292 12 36 := ⟨RX12, TX12, 41, rfl, by decide, inlX12, WL_in (tb5 (List.mem_of_getElem? (i := 171) rfl)) rfl⟩
theorem plX12_292 : PL RX12 292 12 36 .int := ⟨RX12, TX12, 41, tyX12, rfl, by decide, inlX12, WL_in (tb5 (List.mem_of_getElem? (i := 171) rfl)) rfl, tyX12_ok, nmX12, rfl, by decide +kernel⟩
theorem flX12_299 : FL RX12 299 12 37 := ⟨RX12, TX12, 41, rfl, by decide, inlX12, WL_in (tb5 (List.mem_of_getElem? (i := 172) rfl)) rfl⟩
theorem plX12_299 : PL RX12 299 12 37 .int := ⟨RX12, TX12, 41, tyX12, rfl, by decide, inlX12, WL_in (tb5 (List.mem_of_getElem? (i := 172) rfl)) rfl, tyX12_ok, nmX12, rfl, by decide +kernel⟩
theorem flX12_65 : FL RX12 65 12 38 := ⟨RX12, TX12, 41, rfl, by decide, inlX12, WL_in (tb5 (List.mem_of_getElem? (i := 173) rfl)) rfl⟩
theorem flX12_68 : FL RX12 68 12 39 := ⟨RX12, TX12, 41, rfl, by decide, inlX12, WL_in (tb5 (List.mem_of_getElem? (i := 174) rfl)) rfl⟩
theorem flX12_311 : FL RX12 311 12 40 := ⟨RX12, TX12, 41, rfl, by decide, inlX12, WL_in (tb5 (List.mem_of_getElem? (i := 175) rfl)) rfl⟩
theorem plX12_311 : PL RX12 311 12 40 .long := ⟨RX12, TX12, 41, tyX12, rfl, by decide, inlX12, WL_in (tb5 (List.mem_of_getElem? (i := 175) rfl)) rfl, tyX12_ok, nmX12, rfl, by decide +kernel⟩
theorem msJ9_max_7cf53 : MS yJ9_max_7cf53 cJ9_max_7cf53 2 (some .int) 2 := ⟨WL_in (tb1 (List.mem_of_getElem? (i := 48) rfl)) rfl, WL_in (tb1 (List.mem_of_getElem? (i := 5) rfl)) rfl, WL_in (tb1 (List.mem_of_getElem? (i := 49) rfl)) rfl, by decide, by decide, by decide +kernel⟩
theorem miX11_type : MI RX11 yX11_type cX11_type 2 (some .int) 1 := ⟨WL_in (tb2 (List.mem_of_getElem? (i := 175) rfl)) rfl, WL_in (tb2 (List.mem_of_getElem? (i := 176) rfl)) rfl, WL_in (tb1 (List.mem_of_getElem? (i := 1) rfl)) rfl, WL_in (tb2 (List.mem_of_getElem? (i := 177) rfl)) rfl, rfl, by decide, by decide, by decide +kernel⟩
theorem msX11_within : MS yX11_within cX11_within 3 (some .boolean) 3 := ⟨WL_in (tb2 (List.mem_of_getElem? (i := 179) rfl)) rfl, WL_in (tb1 (List.mem_of_getElem? (i := 1) rfl)) rfl, WL_in (tb2 (List.mem_of_getElem? (i := 180) rfl)) rfl, by decide, by decide, by decide +kernel⟩
theorem miX1_add : MI RX1 yX1_add cX1_add 2 none 1 := ⟨WL_in (tb2 (List.mem_of_getElem? (i := 182) rfl)) rfl, WL_in (tb2 (List.mem_of_getElem? (i := 183) rfl)) rfl, WL_in (tb1 (List.mem_of_getElem? (i := 7) rfl)) rfl, WL_in (tb2 (List.mem_of_getElem? (i := 184) rfl)) rfl, rfl, by decide, by decide, by decide +kernel⟩
theorem miX5_set : MI RX5 yX5_set cX5_set 3 none 2 := ⟨WL_in (tb2 (List.mem_of_getElem? (i := 186) rfl)) rfl, WL_in (tb2 (List.mem_of_getElem? (i := 187) rfl)) rfl, WL_in (tb1 (List.mem_of_getElem? (i := 4) rfl)) rfl, WL_in (tb2 (List.mem_of_getElem? (i := 188) rfl)) rfl, rfl, by decide, by decide, by decide +kernel⟩
theorem miX11_clear : MI RX11 yX11_clear cX11_clear 2 (some .int) 0 := ⟨WL_in (tb2 (List.mem_of_getElem? (i := 190) rfl)) rfl, WL_in (tb2 (List.mem_of_getElem? (i := 191) rfl)) rfl, WL_in (tb1 (List.mem_of_getElem? (i := 1) rfl)) rfl, WL_in (tb2 (List.mem_of_getElem? (i := 192) rfl)) rfl, rfl, by decide, by decide, by decide +kernel⟩
theorem miX11_insertLine : MI RX11 yX11_insertLine cX11_insertLine 2 (some .int) 1 := ⟨WL_in (tb2 (List.mem_of_getElem? (i := 194) rfl)) rfl, WL_in (tb2 (List.mem_of_getElem? (i := 195) rfl)) rfl, WL_in (tb1 (List.mem_of_getElem? (i := 1) rfl)) rfl, WL_in (tb2 (List.mem_of_getElem? (i := 196) rfl)) rfl, rfl, by decide, by decide, by decide +kernel⟩
theorem miX1_isLine : MI RX1 yX1_isLine cX1_isLine 2 (some .boolean) 0 := ⟨WL_in (tb2 (List.mem_of_getElem? (i := 198) rfl)) rfl, WL_in (tb2 (List.mem_of_getElem? (i := 199) rfl)) rfl, WL_in (tb1 (List.mem_of_getElem? (i := 7) rfl)) rfl, WL_in (tb2 (List.mem_of_getElem? (i := 200) rfl)) rfl, rfl, by decide, by decide, by decide +kernel⟩
theorem miX1_contentStart : MI RX1 yX1_contentStart cX1_contentStart 2 (some .int) 0 := ⟨WL_in (tb2 (List.mem_of_getElem? (i := 203) rfl)) rfl, WL_in (tbS (List.mem_of_getElem? (i := 0) rfl)) rfl, WL_in (tb1 (List.mem_of_getElem? (i := 7) rfl)) rfl, WL_in (tb2 (List.mem_of_getElem? (i := 204) rfl)) rfl, rfl, by decide, by decide, by decide +kernel⟩
theorem miX5_get : MI RX5 yX5_get cX5_get 2 (some .int) 1 := ⟨WL_in (tb2 (List.mem_of_getElem? (i := 206) rfl)) rfl, WL_in (tb2 (List.mem_of_getElem? (i := 207) rfl)) rfl, WL_in (tb1 (List.mem_of_getElem? (i := 4) rfl)) rfl, WL_in (tb2 (List.mem_of_getElem? (i := 208) rfl)) rfl, rfl, by decide, by decide, by decide +kernel⟩
theorem miX1_contentEnd : MI RX1 yX1_contentEnd cX1_contentEnd 2 (some .int) 0 := ⟨WL_in (tb2 (List.mem_of_getElem? (i := 211) rfl)) rfl, WL_in (tbS (List.mem_of_getElem? (i := 1) rfl)) rfl, WL_in (tb1 (List.mem_of_getElem? (i := 7) rfl)) rfl, WL_in (tb2 (List.mem_of_getElem? (i := 212) rfl)) rfl, rfl, by decide, by decide, by decide +kernel⟩
theorem miX11_beginChange : MI RX11 yX11_beginChange cX11_beginChange 1 none 0 := ⟨WL_in (tb2 (List.mem_of_getElem? (i := 215) rfl)) rfl, WL_in (tbS (List.mem_of_getElem? (i := 2) rfl)) rfl, WL_in (tb1 (List.mem_of_getElem? (i := 1) rfl)) rfl, WL_in (tb2 (List.mem_of_getElem? (i := 216) rfl)) rfl, rfl, by decide, by decide, by decide +kernel⟩
theorem miX2_remember : MI RX2 yX2_remember cX2_remember 3 none 1 := ⟨WL_in (tb2 (List.mem_of_getElem? (i := 218) rfl)) rfl, WL_in (tb2 (List.mem_of_getElem? (i := 219) rfl)) rfl, WL_in (tb1 (List.mem_of_getElem? (i := 9) rfl)) rfl, WL_in (tb2 (List.mem_of_getElem? (i := 220) rfl)) rfl, rfl, by decide, by decide, by decide +kernel⟩
theorem miX2_at : MI RX2 yX2_at cX2_at 3 (some (.object "AutoIndenter$State")) 1 := ⟨WL_in (tb2 (List.mem_of_getElem? (i := 223) rfl)) rfl, WL_in (tbS (List.mem_of_getElem? (i := 3) rfl)) rfl, WL_in (tb1 (List.mem_of_getElem? (i := 9) rfl)) rfl, WL_in (tb2 (List.mem_of_getElem? (i := 224) rfl)) rfl, rfl, by decide, by decide, by decide +kernel⟩
theorem miX8_copy : MI RX8 yX8_copy cX8_copy 2 none 1 := ⟨WL_in (tb2 (List.mem_of_getElem? (i := 226) rfl)) rfl, WL_in (tb2 (List.mem_of_getElem? (i := 227) rfl)) rfl, WL_in (tb1 (List.mem_of_getElem? (i := 2) rfl)) rfl, WL_in (tb2 (List.mem_of_getElem? (i := 228) rfl)) rfl, rfl, by decide, by decide, by decide +kernel⟩
theorem miX3_copy : MI RX3 yX3_copy cX3_copy 2 none 1 := ⟨WL_in (tb2 (List.mem_of_getElem? (i := 230) rfl)) rfl, WL_in (tb2 (List.mem_of_getElem? (i := 231) rfl)) rfl, WL_in (tb1 (List.mem_of_getElem? (i := 3) rfl)) rfl, WL_in (tb2 (List.mem_of_getElem? (i := 232) rfl)) rfl, rfl, by decide, by decide, by decide +kernel⟩
theorem miX5_copy : MI RX5 yX5_copy cX5_copy 2 none 1 := ⟨WL_in (tb2 (List.mem_of_getElem? (i := 234) rfl)) rfl, WL_in (tb2 (List.mem_of_getElem? (i := 235) rfl)) rfl, WL_in (tb1 (List.mem_of_getElem? (i := 4) rfl)) rfl, WL_in (tb2 (List.mem_of_getElem? (i := 236) rfl)) rfl, rfl, by decide, by decide, by decide +kernel⟩
theorem msJ9_min_7cf53 : MS yJ9_min_7cf53 cJ9_min_7cf53 2 (some .int) 2 := ⟨WL_in (tb2 (List.mem_of_getElem? (i := 238) rfl)) rfl, WL_in (tb1 (List.mem_of_getElem? (i := 5) rfl)) rfl, WL_in (tb2 (List.mem_of_getElem? (i := 239) rfl)) rfl, by decide, by decide, by decide +kernel⟩
theorem miX7_copy : MI RX7 yX7_copy cX7_copy 2 none 1 := ⟨WL_in (tb3 (List.mem_of_getElem? (i := 4) rfl)) rfl, WL_in (tb3 (List.mem_of_getElem? (i := 5) rfl)) rfl, WL_in (tb1 (List.mem_of_getElem? (i := 6) rfl)) rfl, WL_in (tb3 (List.mem_of_getElem? (i := 6) rfl)) rfl, rfl, by decide, by decide, by decide +kernel⟩
theorem miX3_openGap : MI RX3 yX3_openGap cX3_openGap 3 none 1 := ⟨WL_in (tb3 (List.mem_of_getElem? (i := 9) rfl)) rfl, WL_in (tb3 (List.mem_of_getElem? (i := 10) rfl)) rfl, WL_in (tb1 (List.mem_of_getElem? (i := 3) rfl)) rfl, WL_in (tb3 (List.mem_of_getElem? (i := 11) rfl)) rfl, rfl, by decide, by decide, by decide +kernel⟩
theorem miX3_copyLine : MI RX3 yX3_copyLine cX3_copyLine 5 none 2 := ⟨WL_in (tb3 (List.mem_of_getElem? (i := 14) rfl)) rfl, WL_in (tbS (List.mem_of_getElem? (i := 4) rfl)) rfl, WL_in (tb1 (List.mem_of_getElem? (i := 3) rfl)) rfl, WL_in (tb3 (List.mem_of_getElem? (i := 15) rfl)) rfl, rfl, by decide, by decide, by decide +kernel⟩
theorem miX1_writeLine : MI RX1 yX1_writeLine cX1_writeLine 6 none 2 := ⟨WL_in (tb3 (List.mem_of_getElem? (i := 19) rfl)) rfl, WL_in (tb3 (List.mem_of_getElem? (i := 20) rfl)) rfl, WL_in (tb1 (List.mem_of_getElem? (i := 7) rfl)) rfl, WL_in (tb3 (List.mem_of_getElem? (i := 21) rfl)) rfl, rfl, by decide, by decide, by decide +kernel⟩
theorem miX3_append : MI RX3 yX3_append cX3_append 4 none 2 := ⟨WL_in (tb3 (List.mem_of_getElem? (i := 23) rfl)) rfl, WL_in (tb3 (List.mem_of_getElem? (i := 24) rfl)) rfl, WL_in (tb1 (List.mem_of_getElem? (i := 3) rfl)) rfl, WL_in (tb3 (List.mem_of_getElem? (i := 25) rfl)) rfl, rfl, by decide, by decide, by decide +kernel⟩
theorem miX11_replaceLine : MI RX11 yX11_replaceLine cX11_replaceLine 3 (some .int) 1 := ⟨WL_in (tb3 (List.mem_of_getElem? (i := 27) rfl)) rfl, WL_in (tb3 (List.mem_of_getElem? (i := 28) rfl)) rfl, WL_in (tb1 (List.mem_of_getElem? (i := 1) rfl)) rfl, WL_in (tb3 (List.mem_of_getElem? (i := 29) rfl)) rfl, rfl, by decide, by decide, by decide +kernel⟩
theorem miX3_has : MI RX3 yX3_has cX3_has 2 (some .boolean) 1 := ⟨WL_in (tb3 (List.mem_of_getElem? (i := 31) rfl)) rfl, WL_in (tb3 (List.mem_of_getElem? (i := 32) rfl)) rfl, WL_in (tb1 (List.mem_of_getElem? (i := 3) rfl)) rfl, WL_in (tb3 (List.mem_of_getElem? (i := 33) rfl)) rfl, rfl, by decide, by decide, by decide +kernel⟩
theorem miX11_removeLine : MI RX11 yX11_removeLine cX11_removeLine 2 (some .int) 1 := ⟨WL_in (tb3 (List.mem_of_getElem? (i := 36) rfl)) rfl, WL_in (tb3 (List.mem_of_getElem? (i := 37) rfl)) rfl, WL_in (tb1 (List.mem_of_getElem? (i := 1) rfl)) rfl, WL_in (tb3 (List.mem_of_getElem? (i := 38) rfl)) rfl, rfl, by decide, by decide, by decide +kernel⟩
theorem miX3_closeGap : MI RX3 yX3_closeGap cX3_closeGap 3 none 1 := ⟨WL_in (tb3 (List.mem_of_getElem? (i := 40) rfl)) rfl, WL_in (tb3 (List.mem_of_getElem? (i := 41) rfl)) rfl, WL_in (tb1 (List.mem_of_getElem? (i := 3) rfl)) rfl, WL_in (tb3 (List.mem_of_getElem? (i := 42) rfl)) rfl, rfl, by decide, by decide, by decide +kernel⟩
theorem miX11_splitLine : MI RX11 yX11_splitLine cX11_splitLine 4 (some .int) 2 := ⟨WL_in (tb3 (List.mem_of_getElem? (i := 45) rfl)) rfl, WL_in (tb3 (List.mem_of_getElem? (i := 46) rfl)) rfl, WL_in (tb1 (List.mem_of_getElem? (i := 1) rfl)) rfl, WL_in (tb3 (List.mem_of_getElem? (i := 47) rfl)) rfl, rfl, by decide, by decide, by decide +kernel⟩
theorem miX3_split : MI RX3 yX3_split cX3_split 5 none 2 := ⟨WL_in (tb3 (List.mem_of_getElem? (i := 49) rfl)) rfl, WL_in (tb3 (List.mem_of_getElem? (i := 50) rfl)) rfl, WL_in (tb1 (List.mem_of_getElem? (i := 3) rfl)) rfl, WL_in (tb3 (List.mem_of_getElem? (i := 51) rfl)) rfl, rfl, by decide, by decide, by decide +kernel⟩
theorem miX3_byteOf : MI RX3 yX3_byteOf cX3_byteOf 3 (some .int) 2 := ⟨WL_in (tb3 (List.mem_of_getElem? (i := 54) rfl)) rfl, WL_in (tb3 (List.mem_of_getElem? (i := 55) rfl)) rfl, WL_in (tb1 (List.mem_of_getElem? (i := 3) rfl)) rfl, WL_in (tb3 (List.mem_of_getElem? (i := 56) rfl)) rfl, rfl, by decide, by decide, by decide +kernel⟩
theorem miX3_appendFrom : MI RX3 yX3_appendFrom cX3_appendFrom 6 none 3 := ⟨WL_in (tb3 (List.mem_of_getElem? (i := 59) rfl)) rfl, WL_in (tbS (List.mem_of_getElem? (i := 5) rfl)) rfl, WL_in (tb1 (List.mem_of_getElem? (i := 3) rfl)) rfl, WL_in (tb3 (List.mem_of_getElem? (i := 60) rfl)) rfl, rfl, by decide, by decide, by decide +kernel⟩
theorem miX11_study : MI RX11 yX11_study cX11_study 1 none 0 := ⟨WL_in (tb3 (List.mem_of_getElem? (i := 64) rfl)) rfl, WL_in (tbS (List.mem_of_getElem? (i := 6) rfl)) rfl, WL_in (tb1 (List.mem_of_getElem? (i := 1) rfl)) rfl, WL_in (tb3 (List.mem_of_getElem? (i := 65) rfl)) rfl, rfl, by decide, by decide, by decide +kernel⟩
theorem miX9_divide : MI RX9 yX9_divide cX9_divide 4 none 2 := ⟨WL_in (tb3 (List.mem_of_getElem? (i := 67) rfl)) rfl, WL_in (tb3 (List.mem_of_getElem? (i := 68) rfl)) rfl, WL_in (tb1 (List.mem_of_getElem? (i := 10) rfl)) rfl, WL_in (tb3 (List.mem_of_getElem? (i := 69) rfl)) rfl, rfl, by decide, by decide, by decide +kernel⟩
theorem miX9_load : MI RX9 yX9_load cX9_load 4 none 2 := ⟨WL_in (tb3 (List.mem_of_getElem? (i := 73) rfl)) rfl, WL_in (tbS (List.mem_of_getElem? (i := 7) rfl)) rfl, WL_in (tb1 (List.mem_of_getElem? (i := 10) rfl)) rfl, WL_in (tb3 (List.mem_of_getElem? (i := 74) rfl)) rfl, rfl, by decide, by decide, by decide +kernel⟩
theorem miX9_divideLine : MI RX9 yX9_divideLine cX9_divideLine 6 none 2 := ⟨WL_in (tb3 (List.mem_of_getElem? (i := 79) rfl)) rfl, WL_in (tbS (List.mem_of_getElem? (i := 8) rfl)) rfl, WL_in (tb1 (List.mem_of_getElem? (i := 10) rfl)) rfl, WL_in (tb3 (List.mem_of_getElem? (i := 80) rfl)) rfl, rfl, by decide, by decide, by decide +kernel⟩
theorem miX9_literalEnd : MI RX9 yX9_literalEnd cX9_literalEnd 3 (some .int) 1 := ⟨WL_in (tb3 (List.mem_of_getElem? (i := 83) rfl)) rfl, WL_in (tbS (List.mem_of_getElem? (i := 9) rfl)) rfl, WL_in (tb1 (List.mem_of_getElem? (i := 10) rfl)) rfl, WL_in (tb3 (List.mem_of_getElem? (i := 84) rfl)) rfl, rfl, by decide, by decide, by decide +kernel⟩
theorem miX9_threeQuotesAt : MI RX9 yX9_threeQuotesAt cX9_threeQuotesAt 2 (some .boolean) 1 := ⟨WL_in (tb3 (List.mem_of_getElem? (i := 87) rfl)) rfl, WL_in (tbS (List.mem_of_getElem? (i := 10) rfl)) rfl, WL_in (tb1 (List.mem_of_getElem? (i := 10) rfl)) rfl, WL_in (tb3 (List.mem_of_getElem? (i := 88) rfl)) rfl, rfl, by decide, by decide, by decide +kernel⟩
theorem miX9_stringEnd : MI RX9 yX9_stringEnd cX9_stringEnd 3 (some .int) 1 := ⟨WL_in (tb3 (List.mem_of_getElem? (i := 91) rfl)) rfl, WL_in (tbS (List.mem_of_getElem? (i := 11) rfl)) rfl, WL_in (tb1 (List.mem_of_getElem? (i := 10) rfl)) rfl, WL_in (tb3 (List.mem_of_getElem? (i := 92) rfl)) rfl, rfl, by decide, by decide, by decide +kernel⟩
theorem miX9_add : MI RX9 yX9_add cX9_add 5 none 4 := ⟨WL_in (tb3 (List.mem_of_getElem? (i := 95) rfl)) rfl, WL_in (tbS (List.mem_of_getElem? (i := 12) rfl)) rfl, WL_in (tb1 (List.mem_of_getElem? (i := 10) rfl)) rfl, WL_in (tb3 (List.mem_of_getElem? (i := 96) rfl)) rfl, rfl, by decide, by decide, by decide +kernel⟩
theorem msX11_isWordByte : MS yX11_isWordByte cX11_isWordByte 1 (some .boolean) 1 := ⟨WL_in (tb3 (List.mem_of_getElem? (i := 98) rfl)) rfl, WL_in (tb1 (List.mem_of_getElem? (i := 1) rfl)) rfl, WL_in (tb3 (List.mem_of_getElem? (i := 99) rfl)) rfl, by decide, by decide, by decide +kernel⟩
theorem miX9_wordEnd : MI RX9 yX9_wordEnd cX9_wordEnd 3 (some .int) 1 := ⟨WL_in (tb3 (List.mem_of_getElem? (i := 102) rfl)) rfl, WL_in (tbS (List.mem_of_getElem? (i := 13) rfl)) rfl, WL_in (tb1 (List.mem_of_getElem? (i := 10) rfl)) rfl, WL_in (tb3 (List.mem_of_getElem? (i := 103) rfl)) rfl, rfl, by decide, by decide, by decide +kernel⟩
theorem miX0_match : MI RX0 yX0_match cX0_match 5 none 2 := ⟨WL_in (tb3 (List.mem_of_getElem? (i := 106) rfl)) rfl, WL_in (tb3 (List.mem_of_getElem? (i := 107) rfl)) rfl, WL_in (tb1 (List.mem_of_getElem? (i := 11) rfl)) rfl, WL_in (tb3 (List.mem_of_getElem? (i := 108) rfl)) rfl, rfl, by decide, by decide, by decide +kernel⟩
theorem miX0_saveStack : MI RX0 yX0_saveStack cX0_saveStack 3 none 1 := ⟨WL_in (tb3 (List.mem_of_getElem? (i := 111) rfl)) rfl, WL_in (tbS (List.mem_of_getElem? (i := 14) rfl)) rfl, WL_in (tb1 (List.mem_of_getElem? (i := 11) rfl)) rfl, WL_in (tb3 (List.mem_of_getElem? (i := 112) rfl)) rfl, rfl, by decide, by decide, by decide +kernel⟩
theorem miX0_findRules : MI RX0 yX0_findRules cX0_findRules 11 none 3 := ⟨WL_in (tb3 (List.mem_of_getElem? (i := 117) rfl)) rfl, WL_in (tbS (List.mem_of_getElem? (i := 15) rfl)) rfl, WL_in (tb1 (List.mem_of_getElem? (i := 11) rfl)) rfl, WL_in (tb3 (List.mem_of_getElem? (i := 118) rfl)) rfl, rfl, by decide, by decide, by decide +kernel⟩
theorem miX7_has : MI RX7 yX7_has cX7_has 2 (some .boolean) 1 := ⟨WL_in (tb3 (List.mem_of_getElem? (i := 120) rfl)) rfl, WL_in (tb3 (List.mem_of_getElem? (i := 121) rfl)) rfl, WL_in (tb1 (List.mem_of_getElem? (i := 6) rfl)) rfl, WL_in (tb3 (List.mem_of_getElem? (i := 122) rfl)) rfl, rfl, by decide, by decide, by decide +kernel⟩
theorem miX7_hasText : MI RX7 yX7_hasText cX7_hasText 9 (some .boolean) 6 := ⟨WL_in (tb3 (List.mem_of_getElem? (i := 125) rfl)) rfl, WL_in (tb3 (List.mem_of_getElem? (i := 126) rfl)) rfl, WL_in (tb1 (List.mem_of_getElem? (i := 6) rfl)) rfl, WL_in (tb3 (List.mem_of_getElem? (i := 127) rfl)) rfl, rfl, by decide, by decide, by decide +kernel⟩
theorem miX0_close : MI RX0 yX0_close cX0_close 4 none 2 := ⟨WL_in (tb3 (List.mem_of_getElem? (i := 131) rfl)) rfl, WL_in (tbS (List.mem_of_getElem? (i := 16) rfl)) rfl, WL_in (tb1 (List.mem_of_getElem? (i := 11) rfl)) rfl, WL_in (tb3 (List.mem_of_getElem? (i := 132) rfl)) rfl, rfl, by decide, by decide, by decide +kernel⟩
theorem miX0_levelThatCloses : MI RX0 yX0_levelThatCloses cX0_levelThatCloses 6 (some .int) 2 := ⟨WL_in (tb3 (List.mem_of_getElem? (i := 135) rfl)) rfl, WL_in (tbS (List.mem_of_getElem? (i := 17) rfl)) rfl, WL_in (tb1 (List.mem_of_getElem? (i := 11) rfl)) rfl, WL_in (tb3 (List.mem_of_getElem? (i := 136) rfl)) rfl, rfl, by decide, by decide, by decide +kernel⟩
theorem miX0_open : MI RX0 yX0_open cX0_open 7 none 3 := ⟨WL_in (tb3 (List.mem_of_getElem? (i := 140) rfl)) rfl, WL_in (tbS (List.mem_of_getElem? (i := 18) rfl)) rfl, WL_in (tb1 (List.mem_of_getElem? (i := 11) rfl)) rfl, WL_in (tb3 (List.mem_of_getElem? (i := 141) rfl)) rfl, rfl, by decide, by decide, by decide +kernel⟩
theorem miX7_best : MI RX7 yX7_best cX7_best 7 (some .int) 2 := ⟨WL_in (tb3 (List.mem_of_getElem? (i := 143) rfl)) rfl, WL_in (tb3 (List.mem_of_getElem? (i := 144) rfl)) rfl, WL_in (tb1 (List.mem_of_getElem? (i := 6) rfl)) rfl, WL_in (tb3 (List.mem_of_getElem? (i := 145) rfl)) rfl, rfl, by decide, by decide, by decide +kernel⟩
theorem miX4_make : MI RX4 yX4_make cX4_make 5 none 3 := ⟨WL_in (tb3 (List.mem_of_getElem? (i := 147) rfl)) rfl, WL_in (tb3 (List.mem_of_getElem? (i := 148) rfl)) rfl, WL_in (tb1 (List.mem_of_getElem? (i := 12) rfl)) rfl, WL_in (tb3 (List.mem_of_getElem? (i := 149) rfl)) rfl, rfl, by decide, by decide, by decide +kernel⟩
theorem miX4_decide : MI RX4 yX4_decide cX4_decide 14 none 4 := ⟨WL_in (tb3 (List.mem_of_getElem? (i := 154) rfl)) rfl, WL_in (tbS (List.mem_of_getElem? (i := 19) rfl)) rfl, WL_in (tb1 (List.mem_of_getElem? (i := 12) rfl)) rfl, WL_in (tb3 (List.mem_of_getElem? (i := 155) rfl)) rfl, rfl, by decide, by decide, by decide +kernel⟩
theorem miX0_lastLeadingCloser : MI RX0 yX0_lastLeadingCloser cX0_lastLeadingCloser 5 (some .int) 2 := ⟨WL_in (tb3 (List.mem_of_getElem? (i := 157) rfl)) rfl, WL_in (tb3 (List.mem_of_getElem? (i := 158) rfl)) rfl, WL_in (tb1 (List.mem_of_getElem? (i := 11) rfl)) rfl, WL_in (tb3 (List.mem_of_getElem? (i := 159) rfl)) rfl, rfl, by decide, by decide, by decide +kernel⟩
theorem miX7_beats : MI RX7 yX7_beats cX7_beats 3 (some .boolean) 2 := ⟨WL_in (tb3 (List.mem_of_getElem? (i := 162) rfl)) rfl, WL_in (tb3 (List.mem_of_getElem? (i := 163) rfl)) rfl, WL_in (tb1 (List.mem_of_getElem? (i := 6) rfl)) rfl, WL_in (tb3 (List.mem_of_getElem? (i := 164) rfl)) rfl, rfl, by decide, by decide, by decide +kernel⟩
theorem msX4_joinerBehind : MS yX4_joinerBehind cX4_joinerBehind 3 (some .int) 3 := ⟨WL_in (tb3 (List.mem_of_getElem? (i := 166) rfl)) rfl, WL_in (tb1 (List.mem_of_getElem? (i := 12) rfl)) rfl, WL_in (tb3 (List.mem_of_getElem? (i := 167) rfl)) rfl, by decide, by decide, by decide +kernel⟩
theorem miX4_standByClosed : MI RX4 yX4_standByClosed cX4_standByClosed 6 none 5 := ⟨WL_in (tb3 (List.mem_of_getElem? (i := 170) rfl)) rfl, WL_in (tbS (List.mem_of_getElem? (i := 20) rfl)) rfl, WL_in (tb1 (List.mem_of_getElem? (i := 12) rfl)) rfl, WL_in (tb3 (List.mem_of_getElem? (i := 171) rfl)) rfl, rfl, by decide, by decide, by decide +kernel⟩
theorem miX4_standOnGround : MI RX4 yX4_standOnGround cX4_standOnGround 5 none 4 := ⟨WL_in (tb3 (List.mem_of_getElem? (i := 174) rfl)) rfl, WL_in (tbS (List.mem_of_getElem? (i := 21) rfl)) rfl, WL_in (tb1 (List.mem_of_getElem? (i := 12) rfl)) rfl, WL_in (tb3 (List.mem_of_getElem? (i := 175) rfl)) rfl, rfl, by decide, by decide, by decide +kernel⟩
theorem miX0_openBefore : MI RX0 yX0_openBefore cX0_openBefore 3 (some .int) 2 := ⟨WL_in (tb3 (List.mem_of_getElem? (i := 177) rfl)) rfl, WL_in (tb3 (List.mem_of_getElem? (i := 178) rfl)) rfl, WL_in (tb1 (List.mem_of_getElem? (i := 11) rfl)) rfl, WL_in (tb3 (List.mem_of_getElem? (i := 179) rfl)) rfl, rfl, by decide, by decide, by decide +kernel⟩
theorem miX4_addSteps : MI RX4 yX4_addSteps cX4_addSteps 5 none 4 := ⟨WL_in (tb3 (List.mem_of_getElem? (i := 182) rfl)) rfl, WL_in (tbS (List.mem_of_getElem? (i := 22) rfl)) rfl, WL_in (tb1 (List.mem_of_getElem? (i := 12) rfl)) rfl, WL_in (tb3 (List.mem_of_getElem? (i := 183) rfl)) rfl, rfl, by decide, by decide, by decide +kernel⟩
theorem miX4_column : MI RX4 yX4_column cX4_column 7 (some .int) 4 := ⟨WL_in (tb3 (List.mem_of_getElem? (i := 185) rfl)) rfl, WL_in (tb3 (List.mem_of_getElem? (i := 186) rfl)) rfl, WL_in (tb1 (List.mem_of_getElem? (i := 12) rfl)) rfl, WL_in (tb3 (List.mem_of_getElem? (i := 187) rfl)) rfl, rfl, by decide, by decide, by decide +kernel⟩
theorem msX11_columnFrom : MS yX11_columnFrom cX11_columnFrom 4 (some .int) 4 := ⟨WL_in (tb3 (List.mem_of_getElem? (i := 189) rfl)) rfl, WL_in (tb1 (List.mem_of_getElem? (i := 1) rfl)) rfl, WL_in (tb3 (List.mem_of_getElem? (i := 190) rfl)) rfl, by decide, by decide, by decide +kernel⟩
theorem miX11_joinLines : MI RX11 yX11_joinLines cX11_joinLines 2 (some .int) 1 := ⟨WL_in (tb3 (List.mem_of_getElem? (i := 196) rfl)) rfl, WL_in (tb3 (List.mem_of_getElem? (i := 197) rfl)) rfl, WL_in (tb1 (List.mem_of_getElem? (i := 1) rfl)) rfl, WL_in (tb3 (List.mem_of_getElem? (i := 198) rfl)) rfl, rfl, by decide, by decide, by decide +kernel⟩
theorem miX3_joinedSize : MI RX3 yX3_joinedSize cX3_joinedSize 4 (some .int) 1 := ⟨WL_in (tb3 (List.mem_of_getElem? (i := 200) rfl)) rfl, WL_in (tb3 (List.mem_of_getElem? (i := 201) rfl)) rfl, WL_in (tb1 (List.mem_of_getElem? (i := 3) rfl)) rfl, WL_in (tb3 (List.mem_of_getElem? (i := 202) rfl)) rfl, rfl, by decide, by decide, by decide +kernel⟩
theorem miX3_join : MI RX3 yX3_join cX3_join 2 none 1 := ⟨WL_in (tb3 (List.mem_of_getElem? (i := 204) rfl)) rfl, WL_in (tb3 (List.mem_of_getElem? (i := 205) rfl)) rfl, WL_in (tb1 (List.mem_of_getElem? (i := 3) rfl)) rfl, WL_in (tb3 (List.mem_of_getElem? (i := 206) rfl)) rfl, rfl, by decide, by decide, by decide +kernel⟩
theorem miX11_shift : MI RX11 yX11_shift cX11_shift 4 (some .int) 3 := ⟨WL_in (tb3 (List.mem_of_getElem? (i := 209) rfl)) rfl, WL_in (tb3 (List.mem_of_getElem? (i := 210) rfl)) rfl, WL_in (tb1 (List.mem_of_getElem? (i := 1) rfl)) rfl, WL_in (tb3 (List.mem_of_getElem? (i := 211) rfl)) rfl, rfl, by decide, by decide, by decide +kernel⟩
theorem miX3_hasRange : MI RX3 yX3_hasRange cX3_hasRange 3 (some .boolean) 2 := ⟨WL_in (tb3 (List.mem_of_getElem? (i := 213) rfl)) rfl, WL_in (tb3 (List.mem_of_getElem? (i := 214) rfl)) rfl, WL_in (tb1 (List.mem_of_getElem? (i := 3) rfl)) rfl, WL_in (tb3 (List.mem_of_getElem? (i := 215) rfl)) rfl, rfl, by decide, by decide, by decide +kernel⟩
theorem miX3_canMove : MI RX3 yX3_canMove cX3_canMove 5 (some .boolean) 3 := ⟨WL_in (tb3 (List.mem_of_getElem? (i := 217) rfl)) rfl, WL_in (tb3 (List.mem_of_getElem? (i := 218) rfl)) rfl, WL_in (tb1 (List.mem_of_getElem? (i := 3) rfl)) rfl, WL_in (tb3 (List.mem_of_getElem? (i := 219) rfl)) rfl, rfl, by decide, by decide, by decide +kernel⟩
theorem miX3_move : MI RX3 yX3_move cX3_move 6 (some .int) 3 := ⟨WL_in (tb3 (List.mem_of_getElem? (i := 222) rfl)) rfl, WL_in (tb3 (List.mem_of_getElem? (i := 223) rfl)) rfl, WL_in (tb1 (List.mem_of_getElem? (i := 3) rfl)) rfl, WL_in (tb3 (List.mem_of_getElem? (i := 224) rfl)) rfl, rfl, by decide, by decide, by decide +kernel⟩
theorem miX11_pin : MI RX11 yX11_pin cX11_pin 2 (some .int) 1 := ⟨WL_in (tb3 (List.mem_of_getElem? (i := 226) rfl)) rfl, WL_in (tb3 (List.mem_of_getElem? (i := 227) rfl)) rfl, WL_in (tb1 (List.mem_of_getElem? (i := 1) rfl)) rfl, WL_in (tb3 (List.mem_of_getElem? (i := 228) rfl)) rfl, rfl, by decide, by decide, by decide +kernel⟩
theorem miX11_reindent : MI RX11 yX11_reindent cX11_reindent 5 (some .int) 2 := ⟨WL_in (tb3 (List.mem_of_getElem? (i := 230) rfl)) rfl, WL_in (tb3 (List.mem_of_getElem? (i := 231) rfl)) rfl, WL_in (tb1 (List.mem_of_getElem? (i := 1) rfl)) rfl, WL_in (tb3 (List.mem_of_getElem? (i := 232) rfl)) rfl, rfl, by decide, by decide, by decide +kernel⟩
theorem miX11_indentAnew : MI RX11 yX11_indentAnew cX11_indentAnew 6 (some .boolean) 4 := ⟨WL_in (tb3 (List.mem_of_getElem? (i := 235) rfl)) rfl, WL_in (tbS (List.mem_of_getElem? (i := 23) rfl)) rfl, WL_in (tb1 (List.mem_of_getElem? (i := 1) rfl)) rfl, WL_in (tb3 (List.mem_of_getElem? (i := 236) rfl)) rfl, rfl, by decide, by decide, by decide +kernel⟩
theorem miX11_lines : MI RX11 yX11_lines cX11_lines 1 (some .int) 0 := ⟨WL_in (tb3 (List.mem_of_getElem? (i := 238) rfl)) rfl, WL_in (tb3 (List.mem_of_getElem? (i := 239) rfl)) rfl, WL_in (tb1 (List.mem_of_getElem? (i := 1) rfl)) rfl, WL_in (tb4 (List.mem_of_getElem? (i := 0) rfl)) rfl, rfl, by decide, by decide, by decide +kernel⟩
theorem miX11_indentation : MI RX11 yX11_indentation cX11_indentation 2 (some .int) 1 := ⟨WL_in (tb4 (List.mem_of_getElem? (i := 2) rfl)) rfl, WL_in (tb4 (List.mem_of_getElem? (i := 3) rfl)) rfl, WL_in (tb1 (List.mem_of_getElem? (i := 1) rfl)) rfl, WL_in (tb4 (List.mem_of_getElem? (i := 4) rfl)) rfl, rfl, by decide, by decide, by decide +kernel⟩
theorem miX11_length : MI RX11 yX11_length cX11_length 2 (some .int) 1 := ⟨WL_in (tb4 (List.mem_of_getElem? (i := 6) rfl)) rfl, WL_in (tb4 (List.mem_of_getElem? (i := 7) rfl)) rfl, WL_in (tb1 (List.mem_of_getElem? (i := 1) rfl)) rfl, WL_in (tb4 (List.mem_of_getElem? (i := 8) rfl)) rfl, rfl, by decide, by decide, by decide +kernel⟩
theorem miX11_byteAt : MI RX11 yX11_byteAt cX11_byteAt 3 (some .int) 2 := ⟨WL_in (tb4 (List.mem_of_getElem? (i := 10) rfl)) rfl, WL_in (tb4 (List.mem_of_getElem? (i := 11) rfl)) rfl, WL_in (tb1 (List.mem_of_getElem? (i := 1) rfl)) rfl, WL_in (tb4 (List.mem_of_getElem? (i := 12) rfl)) rfl, rfl, by decide, by decide, by decide +kernel⟩
theorem miX11_isProtected : MI RX11 yX11_isProtected cX11_isProtected 2 (some .int) 1 := ⟨WL_in (tb4 (List.mem_of_getElem? (i := 15) rfl)) rfl, WL_in (tb4 (List.mem_of_getElem? (i := 16) rfl)) rfl, WL_in (tb1 (List.mem_of_getElem? (i := 1) rfl)) rfl, WL_in (tb4 (List.mem_of_getElem? (i := 17) rfl)) rfl, rfl, by decide, by decide, by decide +kernel⟩
theorem miX11_isPinned : MI RX11 yX11_isPinned cX11_isPinned 2 (some .int) 1 := ⟨WL_in (tb4 (List.mem_of_getElem? (i := 19) rfl)) rfl, WL_in (tb4 (List.mem_of_getElem? (i := 20) rfl)) rfl, WL_in (tb1 (List.mem_of_getElem? (i := 1) rfl)) rfl, WL_in (tb4 (List.mem_of_getElem? (i := 21) rfl)) rfl, rfl, by decide, by decide, by decide +kernel⟩
theorem miX11_setStep : MI RX11 yX11_setStep cX11_setStep 3 (some .int) 1 := ⟨WL_in (tb4 (List.mem_of_getElem? (i := 23) rfl)) rfl, WL_in (tb4 (List.mem_of_getElem? (i := 24) rfl)) rfl, WL_in (tb1 (List.mem_of_getElem? (i := 1) rfl)) rfl, WL_in (tb4 (List.mem_of_getElem? (i := 25) rfl)) rfl, rfl, by decide, by decide, by decide +kernel⟩
theorem miX11_setBase : MI RX11 yX11_setBase cX11_setBase 3 (some .int) 1 := ⟨WL_in (tb4 (List.mem_of_getElem? (i := 27) rfl)) rfl, WL_in (tb4 (List.mem_of_getElem? (i := 28) rfl)) rfl, WL_in (tb1 (List.mem_of_getElem? (i := 1) rfl)) rfl, WL_in (tb4 (List.mem_of_getElem? (i := 29) rfl)) rfl, rfl, by decide, by decide, by decide +kernel⟩
theorem miX11_setComment : MI RX11 yX11_setComment cX11_setComment 3 (some .int) 1 := ⟨WL_in (tb4 (List.mem_of_getElem? (i := 31) rfl)) rfl, WL_in (tb4 (List.mem_of_getElem? (i := 32) rfl)) rfl, WL_in (tb1 (List.mem_of_getElem? (i := 1) rfl)) rfl, WL_in (tb4 (List.mem_of_getElem? (i := 33) rfl)) rfl, rfl, by decide, by decide, by decide +kernel⟩
theorem msX11_canBeginComment : MS yX11_canBeginComment cX11_canBeginComment 1 (some .boolean) 1 := ⟨WL_in (tb4 (List.mem_of_getElem? (i := 35) rfl)) rfl, WL_in (tb1 (List.mem_of_getElem? (i := 1) rfl)) rfl, WL_in (tb4 (List.mem_of_getElem? (i := 36) rfl)) rfl, by decide, by decide, by decide +kernel⟩
theorem miX11_pair : MI RX11 yX11_pair cX11_pair 8 (some .int) 5 := ⟨WL_in (tb4 (List.mem_of_getElem? (i := 39) rfl)) rfl, WL_in (tb4 (List.mem_of_getElem? (i := 40) rfl)) rfl, WL_in (tb1 (List.mem_of_getElem? (i := 1) rfl)) rfl, WL_in (tb4 (List.mem_of_getElem? (i := 41) rfl)) rfl, rfl, by decide, by decide, by decide +kernel⟩
theorem msX11_isRuleNumber : MS yX11_isRuleNumber cX11_isRuleNumber 1 (some .boolean) 1 := ⟨WL_in (tb4 (List.mem_of_getElem? (i := 43) rfl)) rfl, WL_in (tb1 (List.mem_of_getElem? (i := 1) rfl)) rfl, WL_in (tb4 (List.mem_of_getElem? (i := 44) rfl)) rfl, by decide, by decide, by decide +kernel⟩
theorem miX6_find : MI RX6 yX6_find cX6_find 6 (some .int) 2 := ⟨WL_in (tb4 (List.mem_of_getElem? (i := 46) rfl)) rfl, WL_in (tb4 (List.mem_of_getElem? (i := 47) rfl)) rfl, WL_in (tb1 (List.mem_of_getElem? (i := 8) rfl)) rfl, WL_in (tb4 (List.mem_of_getElem? (i := 48) rfl)) rfl, rfl, by decide, by decide, by decide +kernel⟩
theorem miX1_byteOf : MI RX1 yX1_byteOf cX1_byteOf 2 (some .int) 1 := ⟨WL_in (tb4 (List.mem_of_getElem? (i := 50) rfl)) rfl, WL_in (tb4 (List.mem_of_getElem? (i := 51) rfl)) rfl, WL_in (tb1 (List.mem_of_getElem? (i := 7) rfl)) rfl, WL_in (tb4 (List.mem_of_getElem? (i := 52) rfl)) rfl, rfl, by decide, by decide, by decide +kernel⟩
theorem msX6_textEnd : MS yX6_textEnd cX6_textEnd 3 (some .int) 2 := ⟨WL_in (tb4 (List.mem_of_getElem? (i := 54) rfl)) rfl, WL_in (tb1 (List.mem_of_getElem? (i := 8) rfl)) rfl, WL_in (tb4 (List.mem_of_getElem? (i := 55) rfl)) rfl, by decide, by decide, by decide +kernel⟩
theorem miX11_makeRule : MI RX11 yX11_makeRule cX11_makeRule 6 (some .int) 4 := ⟨WL_in (tb4 (List.mem_of_getElem? (i := 61) rfl)) rfl, WL_in (tbS (List.mem_of_getElem? (i := 24) rfl)) rfl, WL_in (tb1 (List.mem_of_getElem? (i := 1) rfl)) rfl, WL_in (tb4 (List.mem_of_getElem? (i := 62) rfl)) rfl, rfl, by decide, by decide, by decide +kernel⟩
theorem miX7_put : MI RX7 yX7_put cX7_put 5 none 4 := ⟨WL_in (tb4 (List.mem_of_getElem? (i := 65) rfl)) rfl, WL_in (tb4 (List.mem_of_getElem? (i := 66) rfl)) rfl, WL_in (tb1 (List.mem_of_getElem? (i := 6) rfl)) rfl, WL_in (tb4 (List.mem_of_getElem? (i := 67) rfl)) rfl, rfl, by decide, by decide, by decide +kernel⟩
theorem miX6_write : MI RX6 yX6_write cX6_write 6 none 3 := ⟨WL_in (tb4 (List.mem_of_getElem? (i := 70) rfl)) rfl, WL_in (tb4 (List.mem_of_getElem? (i := 71) rfl)) rfl, WL_in (tb1 (List.mem_of_getElem? (i := 8) rfl)) rfl, WL_in (tb4 (List.mem_of_getElem? (i := 72) rfl)) rfl, rfl, by decide, by decide, by decide +kernel⟩
theorem miX7_appendText : MI RX7 yX7_appendText cX7_appendText 6 none 3 := ⟨WL_in (tb4 (List.mem_of_getElem? (i := 75) rfl)) rfl, WL_in (tb4 (List.mem_of_getElem? (i := 76) rfl)) rfl, WL_in (tb1 (List.mem_of_getElem? (i := 6) rfl)) rfl, WL_in (tb4 (List.mem_of_getElem? (i := 77) rfl)) rfl, rfl, by decide, by decide, by decide +kernel⟩
theorem miX11_starter : MI RX11 yX11_starter cX11_starter 5 (some .int) 3 := ⟨WL_in (tb4 (List.mem_of_getElem? (i := 79) rfl)) rfl, WL_in (tb4 (List.mem_of_getElem? (i := 80) rfl)) rfl, WL_in (tb1 (List.mem_of_getElem? (i := 1) rfl)) rfl, WL_in (tb4 (List.mem_of_getElem? (i := 81) rfl)) rfl, rfl, by decide, by decide, by decide +kernel⟩
theorem miX11_refusalOfOneText : MI RX11 yX11_refusalOfOneText cX11_refusalOfOneText 4 (some .int) 3 := ⟨WL_in (tb4 (List.mem_of_getElem? (i := 84) rfl)) rfl, WL_in (tbS (List.mem_of_getElem? (i := 25) rfl)) rfl, WL_in (tb1 (List.mem_of_getElem? (i := 1) rfl)) rfl, WL_in (tb4 (List.mem_of_getElem? (i := 85) rfl)) rfl, rfl, by decide, by decide, by decide +kernel⟩
theorem miX11_joiner : MI RX11 yX11_joiner cX11_joiner 5 (some .int) 3 := ⟨WL_in (tb4 (List.mem_of_getElem? (i := 87) rfl)) rfl, WL_in (tb4 (List.mem_of_getElem? (i := 88) rfl)) rfl, WL_in (tb1 (List.mem_of_getElem? (i := 1) rfl)) rfl, WL_in (tb4 (List.mem_of_getElem? (i := 89) rfl)) rfl, rfl, by decide, by decide, by decide +kernel⟩
theorem miX11_dropRule : MI RX11 yX11_dropRule cX11_dropRule 2 (some .int) 1 := ⟨WL_in (tb4 (List.mem_of_getElem? (i := 91) rfl)) rfl, WL_in (tb4 (List.mem_of_getElem? (i := 92) rfl)) rfl, WL_in (tb1 (List.mem_of_getElem? (i := 1) rfl)) rfl, WL_in (tb4 (List.mem_of_getElem? (i := 93) rfl)) rfl, rfl, by decide, by decide, by decide +kernel⟩
theorem miX7_size : MI RX7 yX7_size cX7_size 3 (some .int) 0 := ⟨WL_in (tb4 (List.mem_of_getElem? (i := 95) rfl)) rfl, WL_in (tb4 (List.mem_of_getElem? (i := 96) rfl)) rfl, WL_in (tb1 (List.mem_of_getElem? (i := 6) rfl)) rfl, WL_in (tb4 (List.mem_of_getElem? (i := 97) rfl)) rfl, rfl, by decide, by decide, by decide +kernel⟩
theorem miX11_wanted : MI RX11 yX11_wanted cX11_wanted 2 (some .int) 1 := ⟨WL_in (tb4 (List.mem_of_getElem? (i := 100) rfl)) rfl, WL_in (tb4 (List.mem_of_getElem? (i := 101) rfl)) rfl, WL_in (tb1 (List.mem_of_getElem? (i := 1) rfl)) rfl, WL_in (tb4 (List.mem_of_getElem? (i := 102) rfl)) rfl, rfl, by decide, by decide, by decide +kernel⟩
theorem miX11_reason : MI RX11 yX11_reason cX11_reason 2 (some .int) 1 := ⟨WL_in (tb4 (List.mem_of_getElem? (i := 104) rfl)) rfl, WL_in (tb4 (List.mem_of_getElem? (i := 105) rfl)) rfl, WL_in (tb1 (List.mem_of_getElem? (i := 1) rfl)) rfl, WL_in (tb4 (List.mem_of_getElem? (i := 106) rfl)) rfl, rfl, by decide, by decide, by decide +kernel⟩
theorem miX11_decidingRule : MI RX11 yX11_decidingRule cX11_decidingRule 3 (some .int) 1 := ⟨WL_in (tb4 (List.mem_of_getElem? (i := 108) rfl)) rfl, WL_in (tb4 (List.mem_of_getElem? (i := 109) rfl)) rfl, WL_in (tb1 (List.mem_of_getElem? (i := 1) rfl)) rfl, WL_in (tb4 (List.mem_of_getElem? (i := 110) rfl)) rfl, rfl, by decide, by decide, by decide +kernel⟩
theorem miX11_wouldChange : MI RX11 yX11_wouldChange cX11_wouldChange 1 (some .int) 0 := ⟨WL_in (tb4 (List.mem_of_getElem? (i := 112) rfl)) rfl, WL_in (tb4 (List.mem_of_getElem? (i := 113) rfl)) rfl, WL_in (tb1 (List.mem_of_getElem? (i := 1) rfl)) rfl, WL_in (tb4 (List.mem_of_getElem? (i := 114) rfl)) rfl, rfl, by decide, by decide, by decide +kernel⟩
theorem miX11_linesChangedWith : MI RX11 yX11_linesChangedWith cX11_linesChangedWith 5 (some .int) 2 := ⟨WL_in (tb4 (List.mem_of_getElem? (i := 117) rfl)) rfl, WL_in (tbS (List.mem_of_getElem? (i := 26) rfl)) rfl, WL_in (tb1 (List.mem_of_getElem? (i := 1) rfl)) rfl, WL_in (tb4 (List.mem_of_getElem? (i := 118) rfl)) rfl, rfl, by decide, by decide, by decide +kernel⟩
theorem miX11_changesWith : MI RX11 yX11_changesWith cX11_changesWith 3 (some .int) 2 := ⟨WL_in (tb4 (List.mem_of_getElem? (i := 121) rfl)) rfl, WL_in (tb4 (List.mem_of_getElem? (i := 122) rfl)) rfl, WL_in (tb1 (List.mem_of_getElem? (i := 1) rfl)) rfl, WL_in (tb4 (List.mem_of_getElem? (i := 123) rfl)) rfl, rfl, by decide, by decide, by decide +kernel⟩
theorem msJ6_bitCount_0f7a4 : MS yJ6_bitCount_0f7a4 cJ6_bitCount_0f7a4 1 (some .int) 1 := ⟨WL_in (tb4 (List.mem_of_getElem? (i := 125) rfl)) rfl, WL_in (tb1 (List.mem_of_getElem? (i := 16) rfl)) rfl, WL_in (tb4 (List.mem_of_getElem? (i := 126) rfl)) rfl, by decide, by decide, by decide +kernel⟩
theorem miX11_fewestChanges : MI RX11 yX11_fewestChanges cX11_fewestChanges 2 (some .int) 0 := ⟨WL_in (tb4 (List.mem_of_getElem? (i := 131) rfl)) rfl, WL_in (tb4 (List.mem_of_getElem? (i := 132) rfl)) rfl, WL_in (tb1 (List.mem_of_getElem? (i := 1) rfl)) rfl, WL_in (tb4 (List.mem_of_getElem? (i := 133) rfl)) rfl, rfl, by decide, by decide, by decide +kernel⟩
theorem miX11_findBestSetting : MI RX11 yX11_findBestSetting cX11_findBestSetting 6 (some .int) 0 := ⟨WL_in (tb4 (List.mem_of_getElem? (i := 136) rfl)) rfl, WL_in (tbS (List.mem_of_getElem? (i := 27) rfl)) rfl, WL_in (tb1 (List.mem_of_getElem? (i := 1) rfl)) rfl, WL_in (tb4 (List.mem_of_getElem? (i := 137) rfl)) rfl, rfl, by decide, by decide, by decide +kernel⟩
theorem miX11_bestStep : MI RX11 yX11_bestStep cX11_bestStep 1 (some .int) 0 := ⟨WL_in (tb4 (List.mem_of_getElem? (i := 139) rfl)) rfl, WL_in (tb4 (List.mem_of_getElem? (i := 140) rfl)) rfl, WL_in (tb1 (List.mem_of_getElem? (i := 1) rfl)) rfl, WL_in (tb4 (List.mem_of_getElem? (i := 141) rfl)) rfl, rfl, by decide, by decide, by decide +kernel⟩
theorem miX11_bestBase : MI RX11 yX11_bestBase cX11_bestBase 1 (some .int) 0 := ⟨WL_in (tb4 (List.mem_of_getElem? (i := 143) rfl)) rfl, WL_in (tb4 (List.mem_of_getElem? (i := 144) rfl)) rfl, WL_in (tb1 (List.mem_of_getElem? (i := 1) rfl)) rfl, WL_in (tb4 (List.mem_of_getElem? (i := 145) rfl)) rfl, rfl, by decide, by decide, by decide +kernel⟩
theorem miX11_tokens : MI RX11 yX11_tokens cX11_tokens 2 (some .int) 1 := ⟨WL_in (tb4 (List.mem_of_getElem? (i := 147) rfl)) rfl, WL_in (tb4 (List.mem_of_getElem? (i := 148) rfl)) rfl, WL_in (tb1 (List.mem_of_getElem? (i := 1) rfl)) rfl, WL_in (tb4 (List.mem_of_getElem? (i := 149) rfl)) rfl, rfl, by decide, by decide, by decide +kernel⟩
theorem miX9_countIn : MI RX9 yX9_countIn cX9_countIn 2 (some .int) 1 := ⟨WL_in (tb4 (List.mem_of_getElem? (i := 151) rfl)) rfl, WL_in (tb4 (List.mem_of_getElem? (i := 152) rfl)) rfl, WL_in (tb1 (List.mem_of_getElem? (i := 10) rfl)) rfl, WL_in (tb4 (List.mem_of_getElem? (i := 153) rfl)) rfl, rfl, by decide, by decide, by decide +kernel⟩
theorem miX11_tokenAt : MI RX11 yX11_tokenAt cX11_tokenAt 4 (some .int) 2 := ⟨WL_in (tb4 (List.mem_of_getElem? (i := 155) rfl)) rfl, WL_in (tb4 (List.mem_of_getElem? (i := 156) rfl)) rfl, WL_in (tb1 (List.mem_of_getElem? (i := 1) rfl)) rfl, WL_in (tb4 (List.mem_of_getElem? (i := 157) rfl)) rfl, rfl, by decide, by decide, by decide +kernel⟩
theorem miX11_findToken : MI RX11 yX11_findToken cX11_findToken 4 (some .int) 2 := ⟨WL_in (tb4 (List.mem_of_getElem? (i := 160) rfl)) rfl, WL_in (tbS (List.mem_of_getElem? (i := 28) rfl)) rfl, WL_in (tb1 (List.mem_of_getElem? (i := 1) rfl)) rfl, WL_in (tb4 (List.mem_of_getElem? (i := 161) rfl)) rfl, rfl, by decide, by decide, by decide +kernel⟩
theorem miX11_tokenLength : MI RX11 yX11_tokenLength cX11_tokenLength 4 (some .int) 2 := ⟨WL_in (tb4 (List.mem_of_getElem? (i := 163) rfl)) rfl, WL_in (tb4 (List.mem_of_getElem? (i := 164) rfl)) rfl, WL_in (tb1 (List.mem_of_getElem? (i := 1) rfl)) rfl, WL_in (tb4 (List.mem_of_getElem? (i := 165) rfl)) rfl, rfl, by decide, by decide, by decide +kernel⟩
theorem miX11_tokenKind : MI RX11 yX11_tokenKind cX11_tokenKind 4 (some .int) 2 := ⟨WL_in (tb4 (List.mem_of_getElem? (i := 167) rfl)) rfl, WL_in (tb4 (List.mem_of_getElem? (i := 168) rfl)) rfl, WL_in (tb1 (List.mem_of_getElem? (i := 1) rfl)) rfl, WL_in (tb4 (List.mem_of_getElem? (i := 169) rfl)) rfl, rfl, by decide, by decide, by decide +kernel⟩
theorem miX11_openedBy : MI RX11 yX11_openedBy cX11_openedBy 4 (some .int) 2 := ⟨WL_in (tb4 (List.mem_of_getElem? (i := 171) rfl)) rfl, WL_in (tb4 (List.mem_of_getElem? (i := 172) rfl)) rfl, WL_in (tb1 (List.mem_of_getElem? (i := 1) rfl)) rfl, WL_in (tb4 (List.mem_of_getElem? (i := 173) rfl)) rfl, rfl, by decide, by decide, by decide +kernel⟩
theorem miX11_placeOf : MI RX11 yX11_placeOf cX11_placeOf 3 (some .int) 1 := ⟨WL_in (tb4 (List.mem_of_getElem? (i := 176) rfl)) rfl, WL_in (tbS (List.mem_of_getElem? (i := 29) rfl)) rfl, WL_in (tb1 (List.mem_of_getElem? (i := 1) rfl)) rfl, WL_in (tb4 (List.mem_of_getElem? (i := 177) rfl)) rfl, rfl, by decide, by decide, by decide +kernel⟩
theorem miX11_closedBy : MI RX11 yX11_closedBy cX11_closedBy 4 (some .int) 2 := ⟨WL_in (tb4 (List.mem_of_getElem? (i := 179) rfl)) rfl, WL_in (tb4 (List.mem_of_getElem? (i := 180) rfl)) rfl, WL_in (tb1 (List.mem_of_getElem? (i := 1) rfl)) rfl, WL_in (tb4 (List.mem_of_getElem? (i := 181) rfl)) rfl, rfl, by decide, by decide, by decide +kernel⟩
theorem miX11_depth : MI RX11 yX11_depth cX11_depth 2 (some .int) 1 := ⟨WL_in (tb4 (List.mem_of_getElem? (i := 183) rfl)) rfl, WL_in (tb4 (List.mem_of_getElem? (i := 184) rfl)) rfl, WL_in (tb1 (List.mem_of_getElem? (i := 1) rfl)) rfl, WL_in (tb4 (List.mem_of_getElem? (i := 185) rfl)) rfl, rfl, by decide, by decide, by decide +kernel⟩
theorem miX11_blockRule : MI RX11 yX11_blockRule cX11_blockRule 4 (some .int) 2 := ⟨WL_in (tb4 (List.mem_of_getElem? (i := 187) rfl)) rfl, WL_in (tb4 (List.mem_of_getElem? (i := 188) rfl)) rfl, WL_in (tb1 (List.mem_of_getElem? (i := 1) rfl)) rfl, WL_in (tb4 (List.mem_of_getElem? (i := 189) rfl)) rfl, rfl, by decide, by decide, by decide +kernel⟩
theorem miX11_findBlock : MI RX11 yX11_findBlock cX11_findBlock 3 (some .int) 2 := ⟨WL_in (tb4 (List.mem_of_getElem? (i := 192) rfl)) rfl, WL_in (tbS (List.mem_of_getElem? (i := 30) rfl)) rfl, WL_in (tb1 (List.mem_of_getElem? (i := 1) rfl)) rfl, WL_in (tb4 (List.mem_of_getElem? (i := 193) rfl)) rfl, rfl, by decide, by decide, by decide +kernel⟩
theorem miX11_blockOpening : MI RX11 yX11_blockOpening cX11_blockOpening 5 (some .int) 2 := ⟨WL_in (tb4 (List.mem_of_getElem? (i := 196) rfl)) rfl, WL_in (tb4 (List.mem_of_getElem? (i := 197) rfl)) rfl, WL_in (tb1 (List.mem_of_getElem? (i := 1) rfl)) rfl, WL_in (tb4 (List.mem_of_getElem? (i := 198) rfl)) rfl, rfl, by decide, by decide, by decide +kernel⟩
theorem miX11_contentColumn : MI RX11 yX11_contentColumn cX11_contentColumn 5 (some .int) 2 := ⟨WL_in (tb4 (List.mem_of_getElem? (i := 200) rfl)) rfl, WL_in (tb4 (List.mem_of_getElem? (i := 201) rfl)) rfl, WL_in (tb1 (List.mem_of_getElem? (i := 1) rfl)) rfl, WL_in (tb4 (List.mem_of_getElem? (i := 202) rfl)) rfl, rfl, by decide, by decide, by decide +kernel⟩
theorem miX11_strays : MI RX11 yX11_strays cX11_strays 1 (some .int) 0 := ⟨WL_in (tb4 (List.mem_of_getElem? (i := 205) rfl)) rfl, WL_in (tb4 (List.mem_of_getElem? (i := 206) rfl)) rfl, WL_in (tb1 (List.mem_of_getElem? (i := 1) rfl)) rfl, WL_in (tb4 (List.mem_of_getElem? (i := 207) rfl)) rfl, rfl, by decide, by decide, by decide +kernel⟩
theorem miX11_lost : MI RX11 yX11_lost cX11_lost 1 (some .int) 0 := ⟨WL_in (tb4 (List.mem_of_getElem? (i := 209) rfl)) rfl, WL_in (tb4 (List.mem_of_getElem? (i := 210) rfl)) rfl, WL_in (tb1 (List.mem_of_getElem? (i := 1) rfl)) rfl, WL_in (tb4 (List.mem_of_getElem? (i := 211) rfl)) rfl, rfl, by decide, by decide, by decide +kernel⟩
theorem miX11_vocabulary : MI RX11 yX11_vocabulary cX11_vocabulary 1 (some .int) 0 := ⟨WL_in (tb4 (List.mem_of_getElem? (i := 213) rfl)) rfl, WL_in (tb4 (List.mem_of_getElem? (i := 214) rfl)) rfl, WL_in (tb1 (List.mem_of_getElem? (i := 1) rfl)) rfl, WL_in (tb4 (List.mem_of_getElem? (i := 215) rfl)) rfl, rfl, by decide, by decide, by decide +kernel⟩
theorem miX10_count : MI RX10 yX10_count cX10_count 4 none 2 := ⟨WL_in (tb4 (List.mem_of_getElem? (i := 217) rfl)) rfl, WL_in (tb4 (List.mem_of_getElem? (i := 218) rfl)) rfl, WL_in (tb1 (List.mem_of_getElem? (i := 13) rfl)) rfl, WL_in (tb4 (List.mem_of_getElem? (i := 219) rfl)) rfl, rfl, by decide, by decide, by decide +kernel⟩
theorem miX10_countToken : MI RX10 yX10_countToken cX10_countToken 5 none 3 := ⟨WL_in (tb4 (List.mem_of_getElem? (i := 223) rfl)) rfl, WL_in (tbS (List.mem_of_getElem? (i := 31) rfl)) rfl, WL_in (tb1 (List.mem_of_getElem? (i := 13) rfl)) rfl, WL_in (tb4 (List.mem_of_getElem? (i := 224) rfl)) rfl, rfl, by decide, by decide, by decide +kernel⟩
theorem msX10_sameText : MS yX10_sameText cX10_sameText 6 (some .boolean) 4 := ⟨WL_in (tb4 (List.mem_of_getElem? (i := 226) rfl)) rfl, WL_in (tb1 (List.mem_of_getElem? (i := 13) rfl)) rfl, WL_in (tb4 (List.mem_of_getElem? (i := 227) rfl)) rfl, by decide, by decide, by decide +kernel⟩
theorem miX11_commonestCount : MI RX11 yX11_commonestCount cX11_commonestCount 2 (some .int) 0 := ⟨WL_in (tb4 (List.mem_of_getElem? (i := 231) rfl)) rfl, WL_in (tb4 (List.mem_of_getElem? (i := 232) rfl)) rfl, WL_in (tb1 (List.mem_of_getElem? (i := 1) rfl)) rfl, WL_in (tb4 (List.mem_of_getElem? (i := 233) rfl)) rfl, rfl, by decide, by decide, by decide +kernel⟩
theorem miX10_commonest : MI RX10 yX10_commonest cX10_commonest 3 (some .int) 0 := ⟨WL_in (tb4 (List.mem_of_getElem? (i := 235) rfl)) rfl, WL_in (tb4 (List.mem_of_getElem? (i := 236) rfl)) rfl, WL_in (tb1 (List.mem_of_getElem? (i := 13) rfl)) rfl, WL_in (tb4 (List.mem_of_getElem? (i := 237) rfl)) rfl, rfl, by decide, by decide, by decide +kernel⟩
theorem miX11_commonestByte : MI RX11 yX11_commonestByte cX11_commonestByte 4 (some .int) 1 := ⟨WL_in (tb4 (List.mem_of_getElem? (i := 239) rfl)) rfl, WL_in (tb5 (List.mem_of_getElem? (i := 0) rfl)) rfl, WL_in (tb1 (List.mem_of_getElem? (i := 1) rfl)) rfl, WL_in (tb5 (List.mem_of_getElem? (i := 1) rfl)) rfl, rfl, by decide, by decide, by decide +kernel⟩
theorem miX11_undo : MI RX11 yX11_undo cX11_undo 1 (some .int) 0 := ⟨WL_in (tb5 (List.mem_of_getElem? (i := 3) rfl)) rfl, WL_in (tb5 (List.mem_of_getElem? (i := 4) rfl)) rfl, WL_in (tb1 (List.mem_of_getElem? (i := 1) rfl)) rfl, WL_in (tb5 (List.mem_of_getElem? (i := 5) rfl)) rfl, rfl, by decide, by decide, by decide +kernel⟩
theorem miX2_takeLatest : MI RX2 yX2_takeLatest cX2_takeLatest 3 none 1 := ⟨WL_in (tb5 (List.mem_of_getElem? (i := 7) rfl)) rfl, WL_in (tb5 (List.mem_of_getElem? (i := 8) rfl)) rfl, WL_in (tb1 (List.mem_of_getElem? (i := 9) rfl)) rfl, WL_in (tb5 (List.mem_of_getElem? (i := 9) rfl)) rfl, rfl, by decide, by decide, by decide +kernel⟩
theorem miX11_keep : MI RX11 yX11_keep cX11_keep 4 (some .int) 1 := ⟨WL_in (tb5 (List.mem_of_getElem? (i := 11) rfl)) rfl, WL_in (tb5 (List.mem_of_getElem? (i := 12) rfl)) rfl, WL_in (tb1 (List.mem_of_getElem? (i := 1) rfl)) rfl, WL_in (tb5 (List.mem_of_getElem? (i := 13) rfl)) rfl, rfl, by decide, by decide, by decide +kernel⟩
theorem miX11_imageAt : MI RX11 yX11_imageAt cX11_imageAt 2 (some (.object "AutoIndenter$State")) 1 := ⟨WL_in (tb5 (List.mem_of_getElem? (i := 16) rfl)) rfl, WL_in (tbS (List.mem_of_getElem? (i := 32) rfl)) rfl, WL_in (tb1 (List.mem_of_getElem? (i := 1) rfl)) rfl, WL_in (tb5 (List.mem_of_getElem? (i := 17) rfl)) rfl, rfl, by decide, by decide, by decide +kernel⟩
theorem miX11_back : MI RX11 yX11_back cX11_back 3 (some .int) 1 := ⟨WL_in (tb5 (List.mem_of_getElem? (i := 20) rfl)) rfl, WL_in (tb5 (List.mem_of_getElem? (i := 21) rfl)) rfl, WL_in (tb1 (List.mem_of_getElem? (i := 1) rfl)) rfl, WL_in (tb5 (List.mem_of_getElem? (i := 22) rfl)) rfl, rfl, by decide, by decide, by decide +kernel⟩
theorem miX11_draw : MI RX11 yX11_draw cX11_draw 6 (some .int) 2 := ⟨WL_in (tb5 (List.mem_of_getElem? (i := 24) rfl)) rfl, WL_in (tb5 (List.mem_of_getElem? (i := 25) rfl)) rfl, WL_in (tb1 (List.mem_of_getElem? (i := 1) rfl)) rfl, WL_in (tb5 (List.mem_of_getElem? (i := 26) rfl)) rfl, rfl, by decide, by decide, by decide +kernel⟩
theorem miX11_drawLine : MI RX11 yX11_drawLine cX11_drawLine 8 (some .int) 1 := ⟨WL_in (tb5 (List.mem_of_getElem? (i := 29) rfl)) rfl, WL_in (tbS (List.mem_of_getElem? (i := 33) rfl)) rfl, WL_in (tb1 (List.mem_of_getElem? (i := 1) rfl)) rfl, WL_in (tb5 (List.mem_of_getElem? (i := 30) rfl)) rfl, rfl, by decide, by decide, by decide +kernel⟩
theorem msX11_nextSeed : MS yX11_nextSeed cX11_nextSeed 1 (some .int) 1 := ⟨WL_in (tb5 (List.mem_of_getElem? (i := 32) rfl)) rfl, WL_in (tb1 (List.mem_of_getElem? (i := 1) rfl)) rfl, WL_in (tb5 (List.mem_of_getElem? (i := 33) rfl)) rfl, by decide, by decide, by decide +kernel⟩
theorem msX11_drawnNumber : MS yX11_drawnNumber cX11_drawnNumber 1 (some .int) 1 := ⟨WL_in (tb5 (List.mem_of_getElem? (i := 36) rfl)) rfl, WL_in (tb1 (List.mem_of_getElem? (i := 1) rfl)) rfl, WL_in (tb5 (List.mem_of_getElem? (i := 37) rfl)) rfl, by decide, by decide, by decide +kernel⟩
theorem msX11_pieceText : MS yX11_pieceText cX11_pieceText 1 (some (.object "java/lang/String")) 1 := ⟨WL_in (tb5 (List.mem_of_getElem? (i := 40) rfl)) rfl, WL_in (tb1 (List.mem_of_getElem? (i := 1) rfl)) rfl, WL_in (tb5 (List.mem_of_getElem? (i := 41) rfl)) rfl, by decide, by decide, by decide +kernel⟩
theorem miJ0_length_8abf5 : MI RJ0 yJ0_length_8abf5 cJ0_length_8abf5 1 (some .int) 0 := ⟨WL_in (tb5 (List.mem_of_getElem? (i := 59) rfl)) rfl, WL_in (tb5 (List.mem_of_getElem? (i := 60) rfl)) rfl, WL_in (tb1 (List.mem_of_getElem? (i := 17) rfl)) rfl, WL_in (tb5 (List.mem_of_getElem? (i := 61) rfl)) rfl, rfl, by decide, by decide, by decide +kernel⟩
theorem miJ0_coder_7d493 : MI RJ0 yJ0_coder_7d493 cJ0_coder_7d493 1 (some .byte) 0 := ⟨WL_in (tb5 (List.mem_of_getElem? (i := 63) rfl)) rfl, WL_in (tb5 (List.mem_of_getElem? (i := 64) rfl)) rfl, WL_in (tb1 (List.mem_of_getElem? (i := 17) rfl)) rfl, WL_in (tb5 (List.mem_of_getElem? (i := 65) rfl)) rfl, rfl, by decide, by decide, by decide +kernel⟩
theorem miJ0_charAt_5068e : MI RJ0 yJ0_charAt_5068e cJ0_charAt_5068e 2 (some .char) 1 := ⟨WL_in (tb5 (List.mem_of_getElem? (i := 69) rfl)) rfl, WL_in (tb5 (List.mem_of_getElem? (i := 70) rfl)) rfl, WL_in (tb1 (List.mem_of_getElem? (i := 17) rfl)) rfl, WL_in (tb5 (List.mem_of_getElem? (i := 71) rfl)) rfl, rfl, by decide, by decide, by decide +kernel⟩
theorem miJ0_isLatin1_aae02 : MI RJ0 yJ0_isLatin1_aae02 cJ0_isLatin1_aae02 1 (some .boolean) 0 := ⟨WL_in (tb5 (List.mem_of_getElem? (i := 73) rfl)) rfl, WL_in (tb5 (List.mem_of_getElem? (i := 74) rfl)) rfl, WL_in (tb1 (List.mem_of_getElem? (i := 17) rfl)) rfl, WL_in (tb5 (List.mem_of_getElem? (i := 75) rfl)) rfl, rfl, by decide, by decide, by decide +kernel⟩
theorem msJ1_charAt_3b067 : MS yJ1_charAt_3b067 cJ1_charAt_3b067 2 (some .char) 2 := ⟨WL_in (tb5 (List.mem_of_getElem? (i := 77) rfl)) rfl, WL_in (tb1 (List.mem_of_getElem? (i := 18) rfl)) rfl, WL_in (tb5 (List.mem_of_getElem? (i := 78) rfl)) rfl, by decide, by decide, by decide +kernel⟩
theorem msJ0_checkIndex_df160 : MS yJ0_checkIndex_df160 cJ0_checkIndex_df160 2 none 2 := ⟨WL_in (tb5 (List.mem_of_getElem? (i := 80) rfl)) rfl, WL_in (tb1 (List.mem_of_getElem? (i := 17) rfl)) rfl, WL_in (tb5 (List.mem_of_getElem? (i := 81) rfl)) rfl, by decide, by decide, by decide +kernel⟩
theorem msJ3_checkIndex_8e157 : MS yJ3_checkIndex_8e157 cJ3_checkIndex_8e157 3 (some .int) 3 := ⟨WL_in (tb5 (List.mem_of_getElem? (i := 85) rfl)) rfl, WL_in (tb1 (List.mem_of_getElem? (i := 19) rfl)) rfl, WL_in (tb5 (List.mem_of_getElem? (i := 86) rfl)) rfl, by decide, by decide, by decide +kernel⟩
theorem msJ2_charAt_3b067 : MS yJ2_charAt_3b067 cJ2_charAt_3b067 2 (some .char) 2 := ⟨WL_in (tb5 (List.mem_of_getElem? (i := 88) rfl)) rfl, WL_in (tb1 (List.mem_of_getElem? (i := 20) rfl)) rfl, WL_in (tb5 (List.mem_of_getElem? (i := 89) rfl)) rfl, by decide, by decide, by decide +kernel⟩
theorem msJ2_checkIndex_2214a : MS yJ2_checkIndex_2214a cJ2_checkIndex_2214a 2 none 2 := ⟨WL_in (tb5 (List.mem_of_getElem? (i := 91) rfl)) rfl, WL_in (tb1 (List.mem_of_getElem? (i := 20) rfl)) rfl, WL_in (tb5 (List.mem_of_getElem? (i := 92) rfl)) rfl, by decide, by decide, by decide +kernel⟩
theorem msJ2_length_9d52b : MS yJ2_length_9d52b cJ2_length_9d52b 1 (some .int) 1 := ⟨WL_in (tb5 (List.mem_of_getElem? (i := 94) rfl)) rfl, WL_in (tb1 (List.mem_of_getElem? (i := 20) rfl)) rfl, WL_in (tb5 (List.mem_of_getElem? (i := 95) rfl)) rfl, by decide, by decide, by decide +kernel⟩
theorem msJ2_getChar_3b067 : MS yJ2_getChar_3b067 cJ2_getChar_3b067 2 (some .char) 2 := ⟨WL_in (tb5 (List.mem_of_getElem? (i := 98) rfl)) rfl, WL_in (tb1 (List.mem_of_getElem? (i := 20) rfl)) rfl, WL_in (tb5 (List.mem_of_getElem? (i := 99) rfl)) rfl, by decide, by decide, by decide +kernel⟩
theorem miX11_digest : MI RX11 yX11_digest cX11_digest 4 (some .long) 0 := ⟨WL_in (tb5 (List.mem_of_getElem? (i := 108) rfl)) rfl, WL_in (tb5 (List.mem_of_getElem? (i := 109) rfl)) rfl, WL_in (tb1 (List.mem_of_getElem? (i := 1) rfl)) rfl, WL_in (tb5 (List.mem_of_getElem? (i := 110) rfl)) rfl, rfl, by decide, by decide, by decide +kernel⟩
theorem msX11_mix : MS yX11_mix cX11_mix 3 (some .long) 2 := ⟨WL_in (tb5 (List.mem_of_getElem? (i := 113) rfl)) rfl, WL_in (tb1 (List.mem_of_getElem? (i := 1) rfl)) rfl, WL_in (tb5 (List.mem_of_getElem? (i := 114) rfl)) rfl, by decide, by decide, by decide +kernel⟩
theorem miX11_mixLine : MI RX11 yX11_mixLine cX11_mixLine 8 (some .long) 2 := ⟨WL_in (tb5 (List.mem_of_getElem? (i := 118) rfl)) rfl, WL_in (tbS (List.mem_of_getElem? (i := 34) rfl)) rfl, WL_in (tb1 (List.mem_of_getElem? (i := 1) rfl)) rfl, WL_in (tb5 (List.mem_of_getElem? (i := 119) rfl)) rfl, rfl, by decide, by decide, by decide +kernel⟩
theorem miX7_mixRule : MI RX7 yX7_mixRule cX7_mixRule 7 (some .long) 2 := ⟨WL_in (tb5 (List.mem_of_getElem? (i := 121) rfl)) rfl, WL_in (tb5 (List.mem_of_getElem? (i := 122) rfl)) rfl, WL_in (tb1 (List.mem_of_getElem? (i := 6) rfl)) rfl, WL_in (tb5 (List.mem_of_getElem? (i := 123) rfl)) rfl, rfl, by decide, by decide, by decide +kernel⟩
theorem miX7_mixText : MI RX7 yX7_mixText cX7_mixText 7 (some .long) 2 := ⟨WL_in (tb5 (List.mem_of_getElem? (i := 127) rfl)) rfl, WL_in (tbS (List.mem_of_getElem? (i := 35) rfl)) rfl, WL_in (tb1 (List.mem_of_getElem? (i := 6) rfl)) rfl, WL_in (tb5 (List.mem_of_getElem? (i := 128) rfl)) rfl, rfl, by decide, by decide, by decide +kernel⟩
theorem miX12_type : MI RX12 yX12_type cX12_type 2 (some .int) 1 := ⟨WL_in (tb6 (List.mem_of_getElem? (i := 21) rfl)) rfl, WL_in (tb6 (List.mem_of_getElem? (i := 22) rfl)) rfl, WL_in (tb1 (List.mem_of_getElem? (i := 14) rfl)) rfl, WL_in (tb6 (List.mem_of_getElem? (i := 23) rfl)) rfl, rfl, by decide, by decide, by decide +kernel⟩
theorem msX12_in : MS yX12_in cX12_in 3 (some .boolean) 3 := ⟨WL_in (tb6 (List.mem_of_getElem? (i := 25) rfl)) rfl, WL_in (tb1 (List.mem_of_getElem? (i := 14) rfl)) rfl, WL_in (tb6 (List.mem_of_getElem? (i := 26) rfl)) rfl, by decide, by decide, by decide +kernel⟩
theorem miX12_clear : MI RX12 yX12_clear cX12_clear 2 (some .int) 0 := ⟨WL_in (tb6 (List.mem_of_getElem? (i := 28) rfl)) rfl, WL_in (tb6 (List.mem_of_getElem? (i := 29) rfl)) rfl, WL_in (tb1 (List.mem_of_getElem? (i := 14) rfl)) rfl, WL_in (tb6 (List.mem_of_getElem? (i := 30) rfl)) rfl, rfl, by decide, by decide, by decide +kernel⟩
theorem miX12_insertLine : MI RX12 yX12_insertLine cX12_insertLine 2 (some .int) 1 := ⟨WL_in (tb6 (List.mem_of_getElem? (i := 32) rfl)) rfl, WL_in (tb6 (List.mem_of_getElem? (i := 33) rfl)) rfl, WL_in (tb1 (List.mem_of_getElem? (i := 14) rfl)) rfl, WL_in (tb6 (List.mem_of_getElem? (i := 34) rfl)) rfl, rfl, by decide, by decide, by decide +kernel⟩
theorem miX12_isLineText : MI RX12 yX12_isLineText cX12_isLineText 1 (some .boolean) 0 := ⟨WL_in (tb6 (List.mem_of_getElem? (i := 37) rfl)) rfl, WL_in (tbS (List.mem_of_getElem? (i := 36) rfl)) rfl, WL_in (tb1 (List.mem_of_getElem? (i := 14) rfl)) rfl, WL_in (tb6 (List.mem_of_getElem? (i := 38) rfl)) rfl, rfl, by decide, by decide, by decide +kernel⟩
theorem miX12_begins : MI RX12 yX12_begins cX12_begins 2 none 0 := ⟨WL_in (tb6 (List.mem_of_getElem? (i := 41) rfl)) rfl, WL_in (tbS (List.mem_of_getElem? (i := 37) rfl)) rfl, WL_in (tb1 (List.mem_of_getElem? (i := 14) rfl)) rfl, WL_in (tb6 (List.mem_of_getElem? (i := 42) rfl)) rfl, rfl, by decide, by decide, by decide +kernel⟩
theorem miX12_copies : MI RX12 yX12_copies cX12_copies 4 none 2 := ⟨WL_in (tb6 (List.mem_of_getElem? (i := 45) rfl)) rfl, WL_in (tbS (List.mem_of_getElem? (i := 38) rfl)) rfl, WL_in (tb1 (List.mem_of_getElem? (i := 14) rfl)) rfl, WL_in (tb6 (List.mem_of_getElem? (i := 46) rfl)) rfl, rfl, by decide, by decide, by decide +kernel⟩
theorem miX12_parts : MI RX12 yX12_parts cX12_parts 3 none 1 := ⟨WL_in (tb6 (List.mem_of_getElem? (i := 49) rfl)) rfl, WL_in (tbS (List.mem_of_getElem? (i := 39) rfl)) rfl, WL_in (tb1 (List.mem_of_getElem? (i := 14) rfl)) rfl, WL_in (tb6 (List.mem_of_getElem? (i := 50) rfl)) rfl, rfl, by decide, by decide, by decide +kernel⟩
theorem miX12_copiesLine : MI RX12 yX12_copiesLine cX12_copiesLine 4 none 2 := ⟨WL_in (tb6 (List.mem_of_getElem? (i := 53) rfl)) rfl, WL_in (tbS (List.mem_of_getElem? (i := 40) rfl)) rfl, WL_in (tb1 (List.mem_of_getElem? (i := 14) rfl)) rfl, WL_in (tb6 (List.mem_of_getElem? (i := 54) rfl)) rfl, rfl, by decide, by decide, by decide +kernel⟩
theorem miX12_writes : MI RX12 yX12_writes cX12_writes 3 none 1 := ⟨WL_in (tb6 (List.mem_of_getElem? (i := 57) rfl)) rfl, WL_in (tbS (List.mem_of_getElem? (i := 41) rfl)) rfl, WL_in (tb1 (List.mem_of_getElem? (i := 14) rfl)) rfl, WL_in (tb6 (List.mem_of_getElem? (i := 58) rfl)) rfl, rfl, by decide, by decide, by decide +kernel⟩
theorem miX12_replaceLine : MI RX12 yX12_replaceLine cX12_replaceLine 3 (some .int) 1 := ⟨WL_in (tb6 (List.mem_of_getElem? (i := 60) rfl)) rfl, WL_in (tb6 (List.mem_of_getElem? (i := 61) rfl)) rfl, WL_in (tb1 (List.mem_of_getElem? (i := 14) rfl)) rfl, WL_in (tb6 (List.mem_of_getElem? (i := 62) rfl)) rfl, rfl, by decide, by decide, by decide +kernel⟩
theorem miX12_isLine : MI RX12 yX12_isLine cX12_isLine 2 (some .boolean) 1 := ⟨WL_in (tb6 (List.mem_of_getElem? (i := 65) rfl)) rfl, WL_in (tbS (List.mem_of_getElem? (i := 42) rfl)) rfl, WL_in (tb1 (List.mem_of_getElem? (i := 14) rfl)) rfl, WL_in (tb6 (List.mem_of_getElem? (i := 66) rfl)) rfl, rfl, by decide, by decide, by decide +kernel⟩
theorem miX12_removeLine : MI RX12 yX12_removeLine cX12_removeLine 2 (some .int) 1 := ⟨WL_in (tb6 (List.mem_of_getElem? (i := 68) rfl)) rfl, WL_in (tb6 (List.mem_of_getElem? (i := 69) rfl)) rfl, WL_in (tb1 (List.mem_of_getElem? (i := 14) rfl)) rfl, WL_in (tb6 (List.mem_of_getElem? (i := 70) rfl)) rfl, rfl, by decide, by decide, by decide +kernel⟩
theorem miX12_drops : MI RX12 yX12_drops cX12_drops 3 none 1 := ⟨WL_in (tb6 (List.mem_of_getElem? (i := 73) rfl)) rfl, WL_in (tbS (List.mem_of_getElem? (i := 43) rfl)) rfl, WL_in (tb1 (List.mem_of_getElem? (i := 14) rfl)) rfl, WL_in (tb6 (List.mem_of_getElem? (i := 74) rfl)) rfl, rfl, by decide, by decide, by decide +kernel⟩
theorem miX12_splitLine : MI RX12 yX12_splitLine cX12_splitLine 6 (some .int) 2 := ⟨WL_in (tb6 (List.mem_of_getElem? (i := 76) rfl)) rfl, WL_in (tb6 (List.mem_of_getElem? (i := 77) rfl)) rfl, WL_in (tb1 (List.mem_of_getElem? (i := 14) rfl)) rfl, WL_in (tb6 (List.mem_of_getElem? (i := 78) rfl)) rfl, rfl, by decide, by decide, by decide +kernel⟩
theorem miX12_contentAt : MI RX12 yX12_contentAt cX12_contentAt 3 (some .int) 2 := ⟨WL_in (tb6 (List.mem_of_getElem? (i := 81) rfl)) rfl, WL_in (tbS (List.mem_of_getElem? (i := 44) rfl)) rfl, WL_in (tb1 (List.mem_of_getElem? (i := 14) rfl)) rfl, WL_in (tb6 (List.mem_of_getElem? (i := 82) rfl)) rfl, rfl, by decide, by decide, by decide +kernel⟩
theorem miX12_uses : MI RX12 yX12_uses cX12_uses 4 none 2 := ⟨WL_in (tb6 (List.mem_of_getElem? (i := 85) rfl)) rfl, WL_in (tbS (List.mem_of_getElem? (i := 45) rfl)) rfl, WL_in (tb1 (List.mem_of_getElem? (i := 14) rfl)) rfl, WL_in (tb6 (List.mem_of_getElem? (i := 86) rfl)) rfl, rfl, by decide, by decide, by decide +kernel⟩
theorem miX12_looks : MI RX12 yX12_looks cX12_looks 4 none 0 := ⟨WL_in (tb6 (List.mem_of_getElem? (i := 89) rfl)) rfl, WL_in (tbS (List.mem_of_getElem? (i := 46) rfl)) rfl, WL_in (tb1 (List.mem_of_getElem? (i := 14) rfl)) rfl, WL_in (tb6 (List.mem_of_getElem? (i := 90) rfl)) rfl, rfl, by decide, by decide, by decide +kernel⟩
theorem miX12_tokenizes : MI RX12 yX12_tokenizes cX12_tokenizes 4 none 0 := ⟨WL_in (tb6 (List.mem_of_getElem? (i := 93) rfl)) rfl, WL_in (tbS (List.mem_of_getElem? (i := 47) rfl)) rfl, WL_in (tb1 (List.mem_of_getElem? (i := 14) rfl)) rfl, WL_in (tb6 (List.mem_of_getElem? (i := 94) rfl)) rfl, rfl, by decide, by decide, by decide +kernel⟩
theorem miX12_isBlank : MI RX12 yX12_isBlank cX12_isBlank 2 (some .boolean) 1 := ⟨WL_in (tb6 (List.mem_of_getElem? (i := 97) rfl)) rfl, WL_in (tbS (List.mem_of_getElem? (i := 48) rfl)) rfl, WL_in (tb1 (List.mem_of_getElem? (i := 14) rfl)) rfl, WL_in (tb6 (List.mem_of_getElem? (i := 98) rfl)) rfl, rfl, by decide, by decide, by decide +kernel⟩
theorem miX12_endOfLiteral : MI RX12 yX12_endOfLiteral cX12_endOfLiteral 4 (some .int) 2 := ⟨WL_in (tb6 (List.mem_of_getElem? (i := 101) rfl)) rfl, WL_in (tbS (List.mem_of_getElem? (i := 49) rfl)) rfl, WL_in (tb1 (List.mem_of_getElem? (i := 14) rfl)) rfl, WL_in (tb6 (List.mem_of_getElem? (i := 102) rfl)) rfl, rfl, by decide, by decide, by decide +kernel⟩
theorem miX12_isTriple : MI RX12 yX12_isTriple cX12_isTriple 3 (some .boolean) 2 := ⟨WL_in (tb6 (List.mem_of_getElem? (i := 105) rfl)) rfl, WL_in (tbS (List.mem_of_getElem? (i := 50) rfl)) rfl, WL_in (tb1 (List.mem_of_getElem? (i := 14) rfl)) rfl, WL_in (tb6 (List.mem_of_getElem? (i := 106) rfl)) rfl, rfl, by decide, by decide, by decide +kernel⟩
theorem miX12_divides : MI RX12 yX12_divides cX12_divides 6 (some .boolean) 2 := ⟨WL_in (tb6 (List.mem_of_getElem? (i := 109) rfl)) rfl, WL_in (tbS (List.mem_of_getElem? (i := 51) rfl)) rfl, WL_in (tb1 (List.mem_of_getElem? (i := 14) rfl)) rfl, WL_in (tb6 (List.mem_of_getElem? (i := 110) rfl)) rfl, rfl, by decide, by decide, by decide +kernel⟩
theorem miX12_adds : MI RX12 yX12_adds cX12_adds 5 none 4 := ⟨WL_in (tb6 (List.mem_of_getElem? (i := 113) rfl)) rfl, WL_in (tbS (List.mem_of_getElem? (i := 52) rfl)) rfl, WL_in (tb1 (List.mem_of_getElem? (i := 14) rfl)) rfl, WL_in (tb6 (List.mem_of_getElem? (i := 114) rfl)) rfl, rfl, by decide, by decide, by decide +kernel⟩
theorem miX12_endOfString : MI RX12 yX12_endOfString cX12_endOfString 4 (some .int) 2 := ⟨WL_in (tb6 (List.mem_of_getElem? (i := 117) rfl)) rfl, WL_in (tbS (List.mem_of_getElem? (i := 53) rfl)) rfl, WL_in (tb1 (List.mem_of_getElem? (i := 14) rfl)) rfl, WL_in (tb6 (List.mem_of_getElem? (i := 118) rfl)) rfl, rfl, by decide, by decide, by decide +kernel⟩
theorem msX12_least : MS yX12_least cX12_least 2 (some .int) 2 := ⟨WL_in (tb6 (List.mem_of_getElem? (i := 120) rfl)) rfl, WL_in (tb1 (List.mem_of_getElem? (i := 14) rfl)) rfl, WL_in (tb6 (List.mem_of_getElem? (i := 121) rfl)) rfl, by decide, by decide, by decide +kernel⟩
theorem msX12_isWord : MS yX12_isWord cX12_isWord 1 (some .boolean) 1 := ⟨WL_in (tb6 (List.mem_of_getElem? (i := 123) rfl)) rfl, WL_in (tb1 (List.mem_of_getElem? (i := 14) rfl)) rfl, WL_in (tb6 (List.mem_of_getElem? (i := 124) rfl)) rfl, by decide, by decide, by decide +kernel⟩
theorem miX12_endOfWord : MI RX12 yX12_endOfWord cX12_endOfWord 4 (some .int) 2 := ⟨WL_in (tb6 (List.mem_of_getElem? (i := 127) rfl)) rfl, WL_in (tbS (List.mem_of_getElem? (i := 54) rfl)) rfl, WL_in (tb1 (List.mem_of_getElem? (i := 14) rfl)) rfl, WL_in (tb6 (List.mem_of_getElem? (i := 128) rfl)) rfl, rfl, by decide, by decide, by decide +kernel⟩
theorem miX12_notes : MI RX12 yX12_notes cX12_notes 3 none 1 := ⟨WL_in (tb6 (List.mem_of_getElem? (i := 131) rfl)) rfl, WL_in (tbS (List.mem_of_getElem? (i := 55) rfl)) rfl, WL_in (tb1 (List.mem_of_getElem? (i := 14) rfl)) rfl, WL_in (tb6 (List.mem_of_getElem? (i := 132) rfl)) rfl, rfl, by decide, by decide, by decide +kernel⟩
theorem miX12_shuts : MI RX12 yX12_shuts cX12_shuts 5 none 1 := ⟨WL_in (tb6 (List.mem_of_getElem? (i := 135) rfl)) rfl, WL_in (tbS (List.mem_of_getElem? (i := 56) rfl)) rfl, WL_in (tb1 (List.mem_of_getElem? (i := 14) rfl)) rfl, WL_in (tb6 (List.mem_of_getElem? (i := 136) rfl)) rfl, rfl, by decide, by decide, by decide +kernel⟩
theorem miX12_hasText : MI RX12 yX12_hasText cX12_hasText 7 (some .boolean) 3 := ⟨WL_in (tb6 (List.mem_of_getElem? (i := 139) rfl)) rfl, WL_in (tbS (List.mem_of_getElem? (i := 57) rfl)) rfl, WL_in (tb1 (List.mem_of_getElem? (i := 14) rfl)) rfl, WL_in (tb6 (List.mem_of_getElem? (i := 140) rfl)) rfl, rfl, by decide, by decide, by decide +kernel⟩
theorem miX12_ruleAt : MI RX12 yX12_ruleAt cX12_ruleAt 3 (some .int) 2 := ⟨WL_in (tb6 (List.mem_of_getElem? (i := 143) rfl)) rfl, WL_in (tbS (List.mem_of_getElem? (i := 58) rfl)) rfl, WL_in (tb1 (List.mem_of_getElem? (i := 14) rfl)) rfl, WL_in (tb6 (List.mem_of_getElem? (i := 144) rfl)) rfl, rfl, by decide, by decide, by decide +kernel⟩
theorem miX12_isClosingText : MI RX12 yX12_isClosingText cX12_isClosingText 4 (some .boolean) 1 := ⟨WL_in (tb6 (List.mem_of_getElem? (i := 147) rfl)) rfl, WL_in (tbS (List.mem_of_getElem? (i := 59) rfl)) rfl, WL_in (tb1 (List.mem_of_getElem? (i := 14) rfl)) rfl, WL_in (tb6 (List.mem_of_getElem? (i := 148) rfl)) rfl, rfl, by decide, by decide, by decide +kernel⟩
theorem miX12_ruleFor : MI RX12 yX12_ruleFor cX12_ruleFor 6 (some .int) 2 := ⟨WL_in (tb6 (List.mem_of_getElem? (i := 151) rfl)) rfl, WL_in (tbS (List.mem_of_getElem? (i := 60) rfl)) rfl, WL_in (tb1 (List.mem_of_getElem? (i := 14) rfl)) rfl, WL_in (tb6 (List.mem_of_getElem? (i := 152) rfl)) rfl, rfl, by decide, by decide, by decide +kernel⟩
theorem miX12_isFree : MI RX12 yX12_isFree cX12_isFree 2 (some .boolean) 1 := ⟨WL_in (tb6 (List.mem_of_getElem? (i := 155) rfl)) rfl, WL_in (tbS (List.mem_of_getElem? (i := 61) rfl)) rfl, WL_in (tb1 (List.mem_of_getElem? (i := 14) rfl)) rfl, WL_in (tb6 (List.mem_of_getElem? (i := 156) rfl)) rfl, rfl, by decide, by decide, by decide +kernel⟩
theorem miX12_decides : MI RX12 yX12_decides cX12_decides 11 none 1 := ⟨WL_in (tb6 (List.mem_of_getElem? (i := 159) rfl)) rfl, WL_in (tbS (List.mem_of_getElem? (i := 62) rfl)) rfl, WL_in (tb1 (List.mem_of_getElem? (i := 14) rfl)) rfl, WL_in (tb6 (List.mem_of_getElem? (i := 160) rfl)) rfl, rfl, by decide, by decide, by decide +kernel⟩
theorem miX12_columnIn : MI RX12 yX12_columnIn cX12_columnIn 2 (some .int) 1 := ⟨WL_in (tb6 (List.mem_of_getElem? (i := 163) rfl)) rfl, WL_in (tbS (List.mem_of_getElem? (i := 63) rfl)) rfl, WL_in (tb1 (List.mem_of_getElem? (i := 14) rfl)) rfl, WL_in (tb6 (List.mem_of_getElem? (i := 164) rfl)) rfl, rfl, by decide, by decide, by decide +kernel⟩
theorem miX12_isAligned : MI RX12 yX12_isAligned cX12_isAligned 2 (some .boolean) 1 := ⟨WL_in (tb6 (List.mem_of_getElem? (i := 167) rfl)) rfl, WL_in (tbS (List.mem_of_getElem? (i := 64) rfl)) rfl, WL_in (tb1 (List.mem_of_getElem? (i := 14) rfl)) rfl, WL_in (tb6 (List.mem_of_getElem? (i := 168) rfl)) rfl, rfl, by decide, by decide, by decide +kernel⟩
theorem miX12_columnOf : MI RX12 yX12_columnOf cX12_columnOf 2 (some .int) 1 := ⟨WL_in (tb6 (List.mem_of_getElem? (i := 171) rfl)) rfl, WL_in (tbS (List.mem_of_getElem? (i := 65) rfl)) rfl, WL_in (tb1 (List.mem_of_getElem? (i := 14) rfl)) rfl, WL_in (tb6 (List.mem_of_getElem? (i := 172) rfl)) rfl, rfl, by decide, by decide, by decide +kernel⟩
theorem miX12_offers : MI RX12 yX12_offers cX12_offers 5 none 4 := ⟨WL_in (tb6 (List.mem_of_getElem? (i := 175) rfl)) rfl, WL_in (tbS (List.mem_of_getElem? (i := 66) rfl)) rfl, WL_in (tb1 (List.mem_of_getElem? (i := 14) rfl)) rfl, WL_in (tb6 (List.mem_of_getElem? (i := 176) rfl)) rfl, rfl, by decide, by decide, by decide +kernel⟩
theorem miX12_joinLines : MI RX12 yX12_joinLines cX12_joinLines 6 (some .int) 1 := ⟨WL_in (tb6 (List.mem_of_getElem? (i := 178) rfl)) rfl, WL_in (tb6 (List.mem_of_getElem? (i := 179) rfl)) rfl, WL_in (tb1 (List.mem_of_getElem? (i := 14) rfl)) rfl, WL_in (tb6 (List.mem_of_getElem? (i := 180) rfl)) rfl, rfl, by decide, by decide, by decide +kernel⟩
theorem miX12_shift : MI RX12 yX12_shift cX12_shift 6 (some .int) 3 := ⟨WL_in (tb6 (List.mem_of_getElem? (i := 182) rfl)) rfl, WL_in (tb6 (List.mem_of_getElem? (i := 183) rfl)) rfl, WL_in (tb1 (List.mem_of_getElem? (i := 14) rfl)) rfl, WL_in (tb6 (List.mem_of_getElem? (i := 184) rfl)) rfl, rfl, by decide, by decide, by decide +kernel⟩
theorem miX12_isRange : MI RX12 yX12_isRange cX12_isRange 3 (some .boolean) 2 := ⟨WL_in (tb6 (List.mem_of_getElem? (i := 187) rfl)) rfl, WL_in (tbS (List.mem_of_getElem? (i := 67) rfl)) rfl, WL_in (tb1 (List.mem_of_getElem? (i := 14) rfl)) rfl, WL_in (tb6 (List.mem_of_getElem? (i := 188) rfl)) rfl, rfl, by decide, by decide, by decide +kernel⟩
theorem miX12_pin : MI RX12 yX12_pin cX12_pin 2 (some .int) 1 := ⟨WL_in (tb6 (List.mem_of_getElem? (i := 190) rfl)) rfl, WL_in (tb6 (List.mem_of_getElem? (i := 191) rfl)) rfl, WL_in (tb1 (List.mem_of_getElem? (i := 14) rfl)) rfl, WL_in (tb6 (List.mem_of_getElem? (i := 192) rfl)) rfl, rfl, by decide, by decide, by decide +kernel⟩
theorem miX12_reindent : MI RX12 yX12_reindent cX12_reindent 5 (some .int) 2 := ⟨WL_in (tb6 (List.mem_of_getElem? (i := 194) rfl)) rfl, WL_in (tb6 (List.mem_of_getElem? (i := 195) rfl)) rfl, WL_in (tb1 (List.mem_of_getElem? (i := 14) rfl)) rfl, WL_in (tb6 (List.mem_of_getElem? (i := 196) rfl)) rfl, rfl, by decide, by decide, by decide +kernel⟩
theorem miX12_settles : MI RX12 yX12_settles cX12_settles 5 (some .int) 2 := ⟨WL_in (tb6 (List.mem_of_getElem? (i := 199) rfl)) rfl, WL_in (tbS (List.mem_of_getElem? (i := 68) rfl)) rfl, WL_in (tb1 (List.mem_of_getElem? (i := 14) rfl)) rfl, WL_in (tb6 (List.mem_of_getElem? (i := 200) rfl)) rfl, rfl, by decide, by decide, by decide +kernel⟩
theorem msX12_bits : MS yX12_bits cX12_bits 3 (some .int) 1 := ⟨WL_in (tb6 (List.mem_of_getElem? (i := 202) rfl)) rfl, WL_in (tb1 (List.mem_of_getElem? (i := 14) rfl)) rfl, WL_in (tb6 (List.mem_of_getElem? (i := 203) rfl)) rfl, by decide, by decide, by decide +kernel⟩
theorem miX12_lines : MI RX12 yX12_lines cX12_lines 1 (some .int) 0 := ⟨WL_in (tb6 (List.mem_of_getElem? (i := 205) rfl)) rfl, WL_in (tb6 (List.mem_of_getElem? (i := 206) rfl)) rfl, WL_in (tb1 (List.mem_of_getElem? (i := 14) rfl)) rfl, WL_in (tb6 (List.mem_of_getElem? (i := 207) rfl)) rfl, rfl, by decide, by decide, by decide +kernel⟩
theorem miX12_indentation : MI RX12 yX12_indentation cX12_indentation 2 (some .int) 1 := ⟨WL_in (tb6 (List.mem_of_getElem? (i := 209) rfl)) rfl, WL_in (tb6 (List.mem_of_getElem? (i := 210) rfl)) rfl, WL_in (tb1 (List.mem_of_getElem? (i := 14) rfl)) rfl, WL_in (tb6 (List.mem_of_getElem? (i := 211) rfl)) rfl, rfl, by decide, by decide, by decide +kernel⟩
theorem miX12_length : MI RX12 yX12_length cX12_length 2 (some .int) 1 := ⟨WL_in (tb6 (List.mem_of_getElem? (i := 213) rfl)) rfl, WL_in (tb6 (List.mem_of_getElem? (i := 214) rfl)) rfl, WL_in (tb1 (List.mem_of_getElem? (i := 14) rfl)) rfl, WL_in (tb6 (List.mem_of_getElem? (i := 215) rfl)) rfl, rfl, by decide, by decide, by decide +kernel⟩
theorem miX12_byteAt : MI RX12 yX12_byteAt cX12_byteAt 3 (some .int) 2 := ⟨WL_in (tb6 (List.mem_of_getElem? (i := 217) rfl)) rfl, WL_in (tb6 (List.mem_of_getElem? (i := 218) rfl)) rfl, WL_in (tb1 (List.mem_of_getElem? (i := 14) rfl)) rfl, WL_in (tb6 (List.mem_of_getElem? (i := 219) rfl)) rfl, rfl, by decide, by decide, by decide +kernel⟩
theorem miX12_isProtected : MI RX12 yX12_isProtected cX12_isProtected 2 (some .int) 1 := ⟨WL_in (tb6 (List.mem_of_getElem? (i := 221) rfl)) rfl, WL_in (tb6 (List.mem_of_getElem? (i := 222) rfl)) rfl, WL_in (tb1 (List.mem_of_getElem? (i := 14) rfl)) rfl, WL_in (tb6 (List.mem_of_getElem? (i := 223) rfl)) rfl, rfl, by decide, by decide, by decide +kernel⟩
theorem miX12_isPinned : MI RX12 yX12_isPinned cX12_isPinned 2 (some .int) 1 := ⟨WL_in (tb6 (List.mem_of_getElem? (i := 225) rfl)) rfl, WL_in (tb6 (List.mem_of_getElem? (i := 226) rfl)) rfl, WL_in (tb1 (List.mem_of_getElem? (i := 14) rfl)) rfl, WL_in (tb6 (List.mem_of_getElem? (i := 227) rfl)) rfl, rfl, by decide, by decide, by decide +kernel⟩
theorem miX12_setStep : MI RX12 yX12_setStep cX12_setStep 2 (some .int) 1 := ⟨WL_in (tb6 (List.mem_of_getElem? (i := 229) rfl)) rfl, WL_in (tb6 (List.mem_of_getElem? (i := 230) rfl)) rfl, WL_in (tb1 (List.mem_of_getElem? (i := 14) rfl)) rfl, WL_in (tb6 (List.mem_of_getElem? (i := 231) rfl)) rfl, rfl, by decide, by decide, by decide +kernel⟩
theorem miX12_sets : MI RX12 yX12_sets cX12_sets 4 (some .int) 2 := ⟨WL_in (tb6 (List.mem_of_getElem? (i := 234) rfl)) rfl, WL_in (tbS (List.mem_of_getElem? (i := 69) rfl)) rfl, WL_in (tb1 (List.mem_of_getElem? (i := 14) rfl)) rfl, WL_in (tb6 (List.mem_of_getElem? (i := 235) rfl)) rfl, rfl, by decide, by decide, by decide +kernel⟩
theorem miX12_setBase : MI RX12 yX12_setBase cX12_setBase 2 (some .int) 1 := ⟨WL_in (tb6 (List.mem_of_getElem? (i := 237) rfl)) rfl, WL_in (tb6 (List.mem_of_getElem? (i := 238) rfl)) rfl, WL_in (tb1 (List.mem_of_getElem? (i := 14) rfl)) rfl, WL_in (tb6 (List.mem_of_getElem? (i := 239) rfl)) rfl, rfl, by decide, by decide, by decide +kernel⟩
theorem miX12_setComment : MI RX12 yX12_setComment cX12_setComment 2 (some .int) 1 := ⟨WL_in (tb7 (List.mem_of_getElem? (i := 1) rfl)) rfl, WL_in (tb7 (List.mem_of_getElem? (i := 2) rfl)) rfl, WL_in (tb1 (List.mem_of_getElem? (i := 14) rfl)) rfl, WL_in (tb7 (List.mem_of_getElem? (i := 3) rfl)) rfl, rfl, by decide, by decide, by decide +kernel⟩
theorem miX12_pair : MI RX12 yX12_pair cX12_pair 7 (some .int) 5 := ⟨WL_in (tb7 (List.mem_of_getElem? (i := 5) rfl)) rfl, WL_in (tb7 (List.mem_of_getElem? (i := 6) rfl)) rfl, WL_in (tb1 (List.mem_of_getElem? (i := 14) rfl)) rfl, WL_in (tb7 (List.mem_of_getElem? (i := 7) rfl)) rfl, rfl, by decide, by decide, by decide +kernel⟩
theorem msX12_isRule : MS yX12_isRule cX12_isRule 2 (some .boolean) 2 := ⟨WL_in (tb7 (List.mem_of_getElem? (i := 9) rfl)) rfl, WL_in (tb1 (List.mem_of_getElem? (i := 14) rfl)) rfl, WL_in (tb7 (List.mem_of_getElem? (i := 10) rfl)) rfl, by decide, by decide, by decide +kernel⟩
theorem miX12_makes : MI RX12 yX12_makes cX12_makes 10 (some .int) 6 := ⟨WL_in (tb7 (List.mem_of_getElem? (i := 13) rfl)) rfl, WL_in (tbS (List.mem_of_getElem? (i := 70) rfl)) rfl, WL_in (tb1 (List.mem_of_getElem? (i := 14) rfl)) rfl, WL_in (tb7 (List.mem_of_getElem? (i := 14) rfl)) rfl, rfl, by decide, by decide, by decide +kernel⟩
theorem miX12_readsTexts : MI RX12 yX12_readsTexts cX12_readsTexts 4 (some .int) 1 := ⟨WL_in (tb7 (List.mem_of_getElem? (i := 17) rfl)) rfl, WL_in (tbS (List.mem_of_getElem? (i := 71) rfl)) rfl, WL_in (tb1 (List.mem_of_getElem? (i := 14) rfl)) rfl, WL_in (tb7 (List.mem_of_getElem? (i := 18) rfl)) rfl, rfl, by decide, by decide, by decide +kernel⟩
theorem miX12_readsOne : MI RX12 yX12_readsOne cX12_readsOne 3 (some .int) 1 := ⟨WL_in (tb7 (List.mem_of_getElem? (i := 21) rfl)) rfl, WL_in (tbS (List.mem_of_getElem? (i := 72) rfl)) rfl, WL_in (tb1 (List.mem_of_getElem? (i := 14) rfl)) rfl, WL_in (tb7 (List.mem_of_getElem? (i := 22) rfl)) rfl, rfl, by decide, by decide, by decide +kernel⟩
theorem miX12_skips : MI RX12 yX12_skips cX12_skips 1 none 0 := ⟨WL_in (tb7 (List.mem_of_getElem? (i := 25) rfl)) rfl, WL_in (tbS (List.mem_of_getElem? (i := 73) rfl)) rfl, WL_in (tb1 (List.mem_of_getElem? (i := 14) rfl)) rfl, WL_in (tb7 (List.mem_of_getElem? (i := 26) rfl)) rfl, rfl, by decide, by decide, by decide +kernel⟩
theorem miX12_writesText : MI RX12 yX12_writesText cX12_writesText 4 none 2 := ⟨WL_in (tb7 (List.mem_of_getElem? (i := 29) rfl)) rfl, WL_in (tbS (List.mem_of_getElem? (i := 74) rfl)) rfl, WL_in (tb1 (List.mem_of_getElem? (i := 14) rfl)) rfl, WL_in (tb7 (List.mem_of_getElem? (i := 30) rfl)) rfl, rfl, by decide, by decide, by decide +kernel⟩
theorem miX12_starter : MI RX12 yX12_starter cX12_starter 4 (some .int) 3 := ⟨WL_in (tb7 (List.mem_of_getElem? (i := 32) rfl)) rfl, WL_in (tb7 (List.mem_of_getElem? (i := 33) rfl)) rfl, WL_in (tb1 (List.mem_of_getElem? (i := 14) rfl)) rfl, WL_in (tb7 (List.mem_of_getElem? (i := 34) rfl)) rfl, rfl, by decide, by decide, by decide +kernel⟩
theorem miX12_joiner : MI RX12 yX12_joiner cX12_joiner 4 (some .int) 3 := ⟨WL_in (tb7 (List.mem_of_getElem? (i := 36) rfl)) rfl, WL_in (tb7 (List.mem_of_getElem? (i := 37) rfl)) rfl, WL_in (tb1 (List.mem_of_getElem? (i := 14) rfl)) rfl, WL_in (tb7 (List.mem_of_getElem? (i := 38) rfl)) rfl, rfl, by decide, by decide, by decide +kernel⟩
theorem miX12_dropRule : MI RX12 yX12_dropRule cX12_dropRule 4 (some .int) 1 := ⟨WL_in (tb7 (List.mem_of_getElem? (i := 40) rfl)) rfl, WL_in (tb7 (List.mem_of_getElem? (i := 41) rfl)) rfl, WL_in (tb1 (List.mem_of_getElem? (i := 14) rfl)) rfl, WL_in (tb7 (List.mem_of_getElem? (i := 42) rfl)) rfl, rfl, by decide, by decide, by decide +kernel⟩
theorem miX12_wanted : MI RX12 yX12_wanted cX12_wanted 2 (some .int) 1 := ⟨WL_in (tb7 (List.mem_of_getElem? (i := 44) rfl)) rfl, WL_in (tb7 (List.mem_of_getElem? (i := 45) rfl)) rfl, WL_in (tb1 (List.mem_of_getElem? (i := 14) rfl)) rfl, WL_in (tb7 (List.mem_of_getElem? (i := 46) rfl)) rfl, rfl, by decide, by decide, by decide +kernel⟩
theorem miX12_isDecided : MI RX12 yX12_isDecided cX12_isDecided 3 (some .boolean) 1 := ⟨WL_in (tb7 (List.mem_of_getElem? (i := 49) rfl)) rfl, WL_in (tbS (List.mem_of_getElem? (i := 75) rfl)) rfl, WL_in (tb1 (List.mem_of_getElem? (i := 14) rfl)) rfl, WL_in (tb7 (List.mem_of_getElem? (i := 50) rfl)) rfl, rfl, by decide, by decide, by decide +kernel⟩
theorem miX12_reason : MI RX12 yX12_reason cX12_reason 2 (some .int) 1 := ⟨WL_in (tb7 (List.mem_of_getElem? (i := 52) rfl)) rfl, WL_in (tb7 (List.mem_of_getElem? (i := 53) rfl)) rfl, WL_in (tb1 (List.mem_of_getElem? (i := 14) rfl)) rfl, WL_in (tb7 (List.mem_of_getElem? (i := 54) rfl)) rfl, rfl, by decide, by decide, by decide +kernel⟩
theorem miX12_decidingRule : MI RX12 yX12_decidingRule cX12_decidingRule 2 (some .int) 1 := ⟨WL_in (tb7 (List.mem_of_getElem? (i := 56) rfl)) rfl, WL_in (tb7 (List.mem_of_getElem? (i := 57) rfl)) rfl, WL_in (tb1 (List.mem_of_getElem? (i := 14) rfl)) rfl, WL_in (tb7 (List.mem_of_getElem? (i := 58) rfl)) rfl, rfl, by decide, by decide, by decide +kernel⟩
theorem miX12_wouldChange : MI RX12 yX12_wouldChange cX12_wouldChange 1 (some .int) 0 := ⟨WL_in (tb7 (List.mem_of_getElem? (i := 60) rfl)) rfl, WL_in (tb7 (List.mem_of_getElem? (i := 61) rfl)) rfl, WL_in (tb1 (List.mem_of_getElem? (i := 14) rfl)) rfl, WL_in (tb7 (List.mem_of_getElem? (i := 62) rfl)) rfl, rfl, by decide, by decide, by decide +kernel⟩
theorem miX12_changesWith : MI RX12 yX12_changesWith cX12_changesWith 3 (some .int) 2 := ⟨WL_in (tb7 (List.mem_of_getElem? (i := 64) rfl)) rfl, WL_in (tb7 (List.mem_of_getElem? (i := 65) rfl)) rfl, WL_in (tb1 (List.mem_of_getElem? (i := 14) rfl)) rfl, WL_in (tb7 (List.mem_of_getElem? (i := 66) rfl)) rfl, rfl, by decide, by decide, by decide +kernel⟩
theorem miX12_changesBy : MI RX12 yX12_changesBy cX12_changesBy 3 (some .int) 2 := ⟨WL_in (tb7 (List.mem_of_getElem? (i := 69) rfl)) rfl, WL_in (tbS (List.mem_of_getElem? (i := 76) rfl)) rfl, WL_in (tb1 (List.mem_of_getElem? (i := 14) rfl)) rfl, WL_in (tb7 (List.mem_of_getElem? (i := 70) rfl)) rfl, rfl, by decide, by decide, by decide +kernel⟩
theorem miX12_fewestChanges : MI RX12 yX12_fewestChanges cX12_fewestChanges 1 (some .int) 0 := ⟨WL_in (tb7 (List.mem_of_getElem? (i := 72) rfl)) rfl, WL_in (tb7 (List.mem_of_getElem? (i := 73) rfl)) rfl, WL_in (tb1 (List.mem_of_getElem? (i := 14) rfl)) rfl, WL_in (tb7 (List.mem_of_getElem? (i := 74) rfl)) rfl, rfl, by decide, by decide, by decide +kernel⟩
theorem miX12_searches : MI RX12 yX12_searches cX12_searches 4 none 0 := ⟨WL_in (tb7 (List.mem_of_getElem? (i := 77) rfl)) rfl, WL_in (tbS (List.mem_of_getElem? (i := 77) rfl)) rfl, WL_in (tb1 (List.mem_of_getElem? (i := 14) rfl)) rfl, WL_in (tb7 (List.mem_of_getElem? (i := 78) rfl)) rfl, rfl, by decide, by decide, by decide +kernel⟩
theorem miX12_bestStep : MI RX12 yX12_bestStep cX12_bestStep 1 (some .int) 0 := ⟨WL_in (tb7 (List.mem_of_getElem? (i := 80) rfl)) rfl, WL_in (tb7 (List.mem_of_getElem? (i := 81) rfl)) rfl, WL_in (tb1 (List.mem_of_getElem? (i := 14) rfl)) rfl, WL_in (tb7 (List.mem_of_getElem? (i := 82) rfl)) rfl, rfl, by decide, by decide, by decide +kernel⟩
theorem miX12_bestBase : MI RX12 yX12_bestBase cX12_bestBase 1 (some .int) 0 := ⟨WL_in (tb7 (List.mem_of_getElem? (i := 84) rfl)) rfl, WL_in (tb7 (List.mem_of_getElem? (i := 85) rfl)) rfl, WL_in (tb1 (List.mem_of_getElem? (i := 14) rfl)) rfl, WL_in (tb7 (List.mem_of_getElem? (i := 86) rfl)) rfl, rfl, by decide, by decide, by decide +kernel⟩
theorem miX12_tokens : MI RX12 yX12_tokens cX12_tokens 2 (some .int) 1 := ⟨WL_in (tb7 (List.mem_of_getElem? (i := 88) rfl)) rfl, WL_in (tb7 (List.mem_of_getElem? (i := 89) rfl)) rfl, WL_in (tb1 (List.mem_of_getElem? (i := 14) rfl)) rfl, WL_in (tb7 (List.mem_of_getElem? (i := 90) rfl)) rfl, rfl, by decide, by decide, by decide +kernel⟩
theorem miX12_tokenAt : MI RX12 yX12_tokenAt cX12_tokenAt 4 (some .int) 2 := ⟨WL_in (tb7 (List.mem_of_getElem? (i := 92) rfl)) rfl, WL_in (tb7 (List.mem_of_getElem? (i := 93) rfl)) rfl, WL_in (tb1 (List.mem_of_getElem? (i := 14) rfl)) rfl, WL_in (tb7 (List.mem_of_getElem? (i := 94) rfl)) rfl, rfl, by decide, by decide, by decide +kernel⟩
theorem miX12_tokenOf : MI RX12 yX12_tokenOf cX12_tokenOf 3 (some .int) 2 := ⟨WL_in (tb7 (List.mem_of_getElem? (i := 97) rfl)) rfl, WL_in (tbS (List.mem_of_getElem? (i := 78) rfl)) rfl, WL_in (tb1 (List.mem_of_getElem? (i := 14) rfl)) rfl, WL_in (tb7 (List.mem_of_getElem? (i := 98) rfl)) rfl, rfl, by decide, by decide, by decide +kernel⟩
theorem miX12_tokenLength : MI RX12 yX12_tokenLength cX12_tokenLength 4 (some .int) 2 := ⟨WL_in (tb7 (List.mem_of_getElem? (i := 100) rfl)) rfl, WL_in (tb7 (List.mem_of_getElem? (i := 101) rfl)) rfl, WL_in (tb1 (List.mem_of_getElem? (i := 14) rfl)) rfl, WL_in (tb7 (List.mem_of_getElem? (i := 102) rfl)) rfl, rfl, by decide, by decide, by decide +kernel⟩
theorem miX12_tokenKind : MI RX12 yX12_tokenKind cX12_tokenKind 4 (some .int) 2 := ⟨WL_in (tb7 (List.mem_of_getElem? (i := 104) rfl)) rfl, WL_in (tb7 (List.mem_of_getElem? (i := 105) rfl)) rfl, WL_in (tb1 (List.mem_of_getElem? (i := 14) rfl)) rfl, WL_in (tb7 (List.mem_of_getElem? (i := 106) rfl)) rfl, rfl, by decide, by decide, by decide +kernel⟩
theorem miX12_openedBy : MI RX12 yX12_openedBy cX12_openedBy 4 (some .int) 2 := ⟨WL_in (tb7 (List.mem_of_getElem? (i := 108) rfl)) rfl, WL_in (tb7 (List.mem_of_getElem? (i := 109) rfl)) rfl, WL_in (tb1 (List.mem_of_getElem? (i := 14) rfl)) rfl, WL_in (tb7 (List.mem_of_getElem? (i := 110) rfl)) rfl, rfl, by decide, by decide, by decide +kernel⟩
theorem miX12_placeOf : MI RX12 yX12_placeOf cX12_placeOf 2 (some .int) 1 := ⟨WL_in (tb7 (List.mem_of_getElem? (i := 113) rfl)) rfl, WL_in (tbS (List.mem_of_getElem? (i := 79) rfl)) rfl, WL_in (tb1 (List.mem_of_getElem? (i := 14) rfl)) rfl, WL_in (tb7 (List.mem_of_getElem? (i := 114) rfl)) rfl, rfl, by decide, by decide, by decide +kernel⟩
theorem miX12_closedBy : MI RX12 yX12_closedBy cX12_closedBy 4 (some .int) 2 := ⟨WL_in (tb7 (List.mem_of_getElem? (i := 116) rfl)) rfl, WL_in (tb7 (List.mem_of_getElem? (i := 117) rfl)) rfl, WL_in (tb1 (List.mem_of_getElem? (i := 14) rfl)) rfl, WL_in (tb7 (List.mem_of_getElem? (i := 118) rfl)) rfl, rfl, by decide, by decide, by decide +kernel⟩
theorem miX12_depth : MI RX12 yX12_depth cX12_depth 2 (some .int) 1 := ⟨WL_in (tb7 (List.mem_of_getElem? (i := 120) rfl)) rfl, WL_in (tb7 (List.mem_of_getElem? (i := 121) rfl)) rfl, WL_in (tb1 (List.mem_of_getElem? (i := 14) rfl)) rfl, WL_in (tb7 (List.mem_of_getElem? (i := 122) rfl)) rfl, rfl, by decide, by decide, by decide +kernel⟩
theorem miX12_blockRule : MI RX12 yX12_blockRule cX12_blockRule 4 (some .int) 2 := ⟨WL_in (tb7 (List.mem_of_getElem? (i := 124) rfl)) rfl, WL_in (tb7 (List.mem_of_getElem? (i := 125) rfl)) rfl, WL_in (tb1 (List.mem_of_getElem? (i := 14) rfl)) rfl, WL_in (tb7 (List.mem_of_getElem? (i := 126) rfl)) rfl, rfl, by decide, by decide, by decide +kernel⟩
theorem miX12_blockOf : MI RX12 yX12_blockOf cX12_blockOf 3 (some .int) 2 := ⟨WL_in (tb7 (List.mem_of_getElem? (i := 129) rfl)) rfl, WL_in (tbS (List.mem_of_getElem? (i := 80) rfl)) rfl, WL_in (tb1 (List.mem_of_getElem? (i := 14) rfl)) rfl, WL_in (tb7 (List.mem_of_getElem? (i := 130) rfl)) rfl, rfl, by decide, by decide, by decide +kernel⟩
theorem miX12_blockOpening : MI RX12 yX12_blockOpening cX12_blockOpening 4 (some .int) 2 := ⟨WL_in (tb7 (List.mem_of_getElem? (i := 132) rfl)) rfl, WL_in (tb7 (List.mem_of_getElem? (i := 133) rfl)) rfl, WL_in (tb1 (List.mem_of_getElem? (i := 14) rfl)) rfl, WL_in (tb7 (List.mem_of_getElem? (i := 134) rfl)) rfl, rfl, by decide, by decide, by decide +kernel⟩
theorem miX12_contentColumn : MI RX12 yX12_contentColumn cX12_contentColumn 4 (some .int) 2 := ⟨WL_in (tb7 (List.mem_of_getElem? (i := 136) rfl)) rfl, WL_in (tb7 (List.mem_of_getElem? (i := 137) rfl)) rfl, WL_in (tb1 (List.mem_of_getElem? (i := 14) rfl)) rfl, WL_in (tb7 (List.mem_of_getElem? (i := 138) rfl)) rfl, rfl, by decide, by decide, by decide +kernel⟩
theorem miX12_strays : MI RX12 yX12_strays cX12_strays 1 (some .int) 0 := ⟨WL_in (tb7 (List.mem_of_getElem? (i := 140) rfl)) rfl, WL_in (tb7 (List.mem_of_getElem? (i := 141) rfl)) rfl, WL_in (tb1 (List.mem_of_getElem? (i := 14) rfl)) rfl, WL_in (tb7 (List.mem_of_getElem? (i := 142) rfl)) rfl, rfl, by decide, by decide, by decide +kernel⟩
theorem miX12_lost : MI RX12 yX12_lost cX12_lost 1 (some .int) 0 := ⟨WL_in (tb7 (List.mem_of_getElem? (i := 144) rfl)) rfl, WL_in (tb7 (List.mem_of_getElem? (i := 145) rfl)) rfl, WL_in (tb1 (List.mem_of_getElem? (i := 14) rfl)) rfl, WL_in (tb7 (List.mem_of_getElem? (i := 146) rfl)) rfl, rfl, by decide, by decide, by decide +kernel⟩
theorem miX12_vocabulary : MI RX12 yX12_vocabulary cX12_vocabulary 3 (some .int) 0 := ⟨WL_in (tb7 (List.mem_of_getElem? (i := 148) rfl)) rfl, WL_in (tb7 (List.mem_of_getElem? (i := 149) rfl)) rfl, WL_in (tb1 (List.mem_of_getElem? (i := 14) rfl)) rfl, WL_in (tb7 (List.mem_of_getElem? (i := 150) rfl)) rfl, rfl, by decide, by decide, by decide +kernel⟩
theorem miX12_isFirst : MI RX12 yX12_isFirst cX12_isFirst 4 (some .boolean) 1 := ⟨WL_in (tb7 (List.mem_of_getElem? (i := 153) rfl)) rfl, WL_in (tbS (List.mem_of_getElem? (i := 81) rfl)) rfl, WL_in (tb1 (List.mem_of_getElem? (i := 14) rfl)) rfl, WL_in (tb7 (List.mem_of_getElem? (i := 154) rfl)) rfl, rfl, by decide, by decide, by decide +kernel⟩
theorem miX12_isSame : MI RX12 yX12_isSame cX12_isSame 5 (some .boolean) 2 := ⟨WL_in (tb7 (List.mem_of_getElem? (i := 157) rfl)) rfl, WL_in (tbS (List.mem_of_getElem? (i := 82) rfl)) rfl, WL_in (tb1 (List.mem_of_getElem? (i := 14) rfl)) rfl, WL_in (tb7 (List.mem_of_getElem? (i := 158) rfl)) rfl, rfl, by decide, by decide, by decide +kernel⟩
theorem miX12_commonestCount : MI RX12 yX12_commonestCount cX12_commonestCount 1 (some .int) 0 := ⟨WL_in (tb7 (List.mem_of_getElem? (i := 160) rfl)) rfl, WL_in (tb7 (List.mem_of_getElem? (i := 161) rfl)) rfl, WL_in (tb1 (List.mem_of_getElem? (i := 14) rfl)) rfl, WL_in (tb7 (List.mem_of_getElem? (i := 162) rfl)) rfl, rfl, by decide, by decide, by decide +kernel⟩
theorem miX12_commonest : MI RX12 yX12_commonest cX12_commonest 5 (some .int) 0 := ⟨WL_in (tb7 (List.mem_of_getElem? (i := 165) rfl)) rfl, WL_in (tbS (List.mem_of_getElem? (i := 83) rfl)) rfl, WL_in (tb1 (List.mem_of_getElem? (i := 14) rfl)) rfl, WL_in (tb7 (List.mem_of_getElem? (i := 166) rfl)) rfl, rfl, by decide, by decide, by decide +kernel⟩
theorem miX12_commonestByte : MI RX12 yX12_commonestByte cX12_commonestByte 3 (some .int) 1 := ⟨WL_in (tb7 (List.mem_of_getElem? (i := 168) rfl)) rfl, WL_in (tb7 (List.mem_of_getElem? (i := 169) rfl)) rfl, WL_in (tb1 (List.mem_of_getElem? (i := 14) rfl)) rfl, WL_in (tb7 (List.mem_of_getElem? (i := 170) rfl)) rfl, rfl, by decide, by decide, by decide +kernel⟩
theorem miX12_undo : MI RX12 yX12_undo cX12_undo 1 (some .int) 0 := ⟨WL_in (tb7 (List.mem_of_getElem? (i := 172) rfl)) rfl, WL_in (tb7 (List.mem_of_getElem? (i := 173) rfl)) rfl, WL_in (tb1 (List.mem_of_getElem? (i := 14) rfl)) rfl, WL_in (tb7 (List.mem_of_getElem? (i := 174) rfl)) rfl, rfl, by decide, by decide, by decide +kernel⟩
theorem miX12_keep : MI RX12 yX12_keep cX12_keep 3 (some .int) 1 := ⟨WL_in (tb7 (List.mem_of_getElem? (i := 176) rfl)) rfl, WL_in (tb7 (List.mem_of_getElem? (i := 177) rfl)) rfl, WL_in (tb1 (List.mem_of_getElem? (i := 14) rfl)) rfl, WL_in (tb7 (List.mem_of_getElem? (i := 178) rfl)) rfl, rfl, by decide, by decide, by decide +kernel⟩
theorem miX12_back : MI RX12 yX12_back cX12_back 2 (some .int) 1 := ⟨WL_in (tb7 (List.mem_of_getElem? (i := 180) rfl)) rfl, WL_in (tb7 (List.mem_of_getElem? (i := 181) rfl)) rfl, WL_in (tb1 (List.mem_of_getElem? (i := 14) rfl)) rfl, WL_in (tb7 (List.mem_of_getElem? (i := 182) rfl)) rfl, rfl, by decide, by decide, by decide +kernel⟩
theorem miX12_draw : MI RX12 yX12_draw cX12_draw 4 (some .int) 2 := ⟨WL_in (tb7 (List.mem_of_getElem? (i := 184) rfl)) rfl, WL_in (tb7 (List.mem_of_getElem? (i := 185) rfl)) rfl, WL_in (tb1 (List.mem_of_getElem? (i := 14) rfl)) rfl, WL_in (tb7 (List.mem_of_getElem? (i := 186) rfl)) rfl, rfl, by decide, by decide, by decide +kernel⟩
theorem miX12_drawsLine : MI RX12 yX12_drawsLine cX12_drawsLine 7 none 0 := ⟨WL_in (tb7 (List.mem_of_getElem? (i := 189) rfl)) rfl, WL_in (tbS (List.mem_of_getElem? (i := 84) rfl)) rfl, WL_in (tb1 (List.mem_of_getElem? (i := 14) rfl)) rfl, WL_in (tb7 (List.mem_of_getElem? (i := 190) rfl)) rfl, rfl, by decide, by decide, by decide +kernel⟩
theorem miX12_draws : MI RX12 yX12_draws cX12_draws 1 (some .int) 0 := ⟨WL_in (tb7 (List.mem_of_getElem? (i := 193) rfl)) rfl, WL_in (tbS (List.mem_of_getElem? (i := 85) rfl)) rfl, WL_in (tb1 (List.mem_of_getElem? (i := 14) rfl)) rfl, WL_in (tb7 (List.mem_of_getElem? (i := 194) rfl)) rfl, rfl, by decide, by decide, by decide +kernel⟩
theorem miX12_digest : MI RX12 yX12_digest cX12_digest 3 (some .long) 0 := ⟨WL_in (tb7 (List.mem_of_getElem? (i := 197) rfl)) rfl, WL_in (tb7 (List.mem_of_getElem? (i := 198) rfl)) rfl, WL_in (tb1 (List.mem_of_getElem? (i := 14) rfl)) rfl, WL_in (tb7 (List.mem_of_getElem? (i := 199) rfl)) rfl, rfl, by decide, by decide, by decide +kernel⟩
theorem miX12_mixes : MI RX12 yX12_mixes cX12_mixes 2 none 1 := ⟨WL_in (tb7 (List.mem_of_getElem? (i := 203) rfl)) rfl, WL_in (tbS (List.mem_of_getElem? (i := 86) rfl)) rfl, WL_in (tb1 (List.mem_of_getElem? (i := 14) rfl)) rfl, WL_in (tb7 (List.mem_of_getElem? (i := 204) rfl)) rfl, rfl, by decide, by decide, by decide +kernel⟩
theorem miX12_mixesRule : MI RX12 yX12_mixesRule cX12_mixesRule 4 none 1 := ⟨WL_in (tb7 (List.mem_of_getElem? (i := 208) rfl)) rfl, WL_in (tbS (List.mem_of_getElem? (i := 87) rfl)) rfl, WL_in (tb1 (List.mem_of_getElem? (i := 14) rfl)) rfl, WL_in (tb7 (List.mem_of_getElem? (i := 209) rfl)) rfl, rfl, by decide, by decide, by decide +kernel⟩
theorem miX12_mixesText : MI RX12 yX12_mixesText cX12_mixesText 3 none 1 := ⟨WL_in (tb7 (List.mem_of_getElem? (i := 212) rfl)) rfl, WL_in (tbS (List.mem_of_getElem? (i := 88) rfl)) rfl, WL_in (tb1 (List.mem_of_getElem? (i := 14) rfl)) rfl, WL_in (tb7 (List.mem_of_getElem? (i := 213) rfl)) rfl, rfl, by decide, by decide, by decide +kernel⟩
theorem mlL_9 : Cond.methodLink RL 9 yX11_init ∈ WL := WL_in (tb1 (List.mem_of_getElem? (i := 23) rfl)) rfl
theorem mlX3_17 : Cond.methodLink RX3 17 yX5_init ∈ WL := WL_in (tb1 (List.mem_of_getElem? (i := 43) rfl)) rfl
theorem mlX5_9 : Cond.methodLink RX5 9 yJ9_max_7cf53 ∈ WL := WL_in (tb1 (List.mem_of_getElem? (i := 47) rfl)) rfl
theorem mlX7_11 : Cond.methodLink RX7 11 yX5_init ∈ WL := WL_in (tb1 (List.mem_of_getElem? (i := 89) rfl)) rfl
theorem mlX1_17 : Cond.methodLink RX1 17 yX5_init ∈ WL := WL_in (tb1 (List.mem_of_getElem? (i := 152) rfl)) rfl
theorem mlX6_11 : Cond.methodLink RX6 11 yX5_init ∈ WL := WL_in (tb1 (List.mem_of_getElem? (i := 169) rfl)) rfl
theorem mlX11_32 : Cond.methodLink RX11 32 yX2_init ∈ WL := WL_in (tb1 (List.mem_of_getElem? (i := 182) rfl)) rfl
theorem mlX11_43 : Cond.methodLink RX11 43 yX5_init ∈ WL := WL_in (tb1 (List.mem_of_getElem? (i := 201) rfl)) rfl
theorem mlX9_17 : Cond.methodLink RX9 17 yX5_init ∈ WL := WL_in (tb1 (List.mem_of_getElem? (i := 209) rfl)) rfl
theorem mlX0_11 : Cond.methodLink RX0 11 yX5_init ∈ WL := WL_in (tb2 (List.mem_of_getElem? (i := 28) rfl)) rfl
theorem mlX4_11 : Cond.methodLink RX4 11 yX5_init ∈ WL := WL_in (tb2 (List.mem_of_getElem? (i := 94) rfl)) rfl
theorem mlX10_17 : Cond.methodLink RX10 17 yX5_init ∈ WL := WL_in (tb2 (List.mem_of_getElem? (i := 123) rfl)) rfl
theorem mlL_13 : Cond.methodLink RL 13 yX11_type ∈ WL := WL_in (tb2 (List.mem_of_getElem? (i := 174) rfl)) rfl
theorem mlX11_85 : Cond.methodLink RX11 85 yX11_within ∈ WL := WL_in (tb2 (List.mem_of_getElem? (i := 178) rfl)) rfl
theorem mlX11_93 : Cond.methodLink RX11 93 yX1_add ∈ WL := WL_in (tb2 (List.mem_of_getElem? (i := 181) rfl)) rfl
theorem mlX1_24 : Cond.methodLink RX1 24 yX5_set ∈ WL := WL_in (tb2 (List.mem_of_getElem? (i := 185) rfl)) rfl
theorem mlL_18 : Cond.methodLink RL 18 yX11_clear ∈ WL := WL_in (tb2 (List.mem_of_getElem? (i := 189) rfl)) rfl
theorem mlL_23 : Cond.methodLink RL 23 yX11_insertLine ∈ WL := WL_in (tb2 (List.mem_of_getElem? (i := 193) rfl)) rfl
theorem mlX11_103 : Cond.methodLink RX11 103 yX1_isLine ∈ WL := WL_in (tb2 (List.mem_of_getElem? (i := 197) rfl)) rfl
theorem mlX1_32 : Cond.methodLink RX1 32 yX1_contentStart ∈ WL := WL_in (tb2 (List.mem_of_getElem? (i := 201) rfl)) rfl
theorem mlX1_28 : Cond.methodLink RX1 28 yX5_get ∈ WL := WL_in (tb2 (List.mem_of_getElem? (i := 205) rfl)) rfl
theorem mlX1_36 : Cond.methodLink RX1 36 yX1_contentEnd ∈ WL := WL_in (tb2 (List.mem_of_getElem? (i := 209) rfl)) rfl
theorem mlX11_107 : Cond.methodLink RX11 107 yX11_beginChange ∈ WL := WL_in (tb2 (List.mem_of_getElem? (i := 213) rfl)) rfl
theorem mlX11_342 : Cond.methodLink RX11 342 yX2_remember ∈ WL := WL_in (tb2 (List.mem_of_getElem? (i := 217) rfl)) rfl
theorem mlX2_25 : Cond.methodLink RX2 25 yX2_at ∈ WL := WL_in (tb2 (List.mem_of_getElem? (i := 221) rfl)) rfl
theorem mlX2_29 : Cond.methodLink RX2 29 yX8_copy ∈ WL := WL_in (tb2 (List.mem_of_getElem? (i := 225) rfl)) rfl
theorem mlX8_33 : Cond.methodLink RX8 33 yX3_copy ∈ WL := WL_in (tb2 (List.mem_of_getElem? (i := 229) rfl)) rfl
theorem mlX3_69 : Cond.methodLink RX3 69 yX5_copy ∈ WL := WL_in (tb2 (List.mem_of_getElem? (i := 233) rfl)) rfl
theorem mlX5_21 : Cond.methodLink RX5 21 yJ9_min_7cf53 ∈ WL := WL_in (tb2 (List.mem_of_getElem? (i := 237) rfl)) rfl
theorem mlX8_37 : Cond.methodLink RX8 37 yX7_copy ∈ WL := WL_in (tb3 (List.mem_of_getElem? (i := 3) rfl)) rfl
theorem mlX7_63 : Cond.methodLink RX7 63 yX5_copy ∈ WL := WL_in (tb3 (List.mem_of_getElem? (i := 7) rfl)) rfl
theorem mlX11_110 : Cond.methodLink RX11 110 yX3_openGap ∈ WL := WL_in (tb3 (List.mem_of_getElem? (i := 8) rfl)) rfl
theorem mlX3_48 : Cond.methodLink RX3 48 yX3_copyLine ∈ WL := WL_in (tb3 (List.mem_of_getElem? (i := 12) rfl)) rfl
theorem mlX3_33 : Cond.methodLink RX3 33 yX5_get ∈ WL := WL_in (tb3 (List.mem_of_getElem? (i := 16) rfl)) rfl
theorem mlX3_37 : Cond.methodLink RX3 37 yX5_set ∈ WL := WL_in (tb3 (List.mem_of_getElem? (i := 17) rfl)) rfl
theorem mlX11_113 : Cond.methodLink RX11 113 yX1_writeLine ∈ WL := WL_in (tb3 (List.mem_of_getElem? (i := 18) rfl)) rfl
theorem mlX1_47 : Cond.methodLink RX1 47 yX3_append ∈ WL := WL_in (tb3 (List.mem_of_getElem? (i := 22) rfl)) rfl
theorem mlL_27 : Cond.methodLink RL 27 yX11_replaceLine ∈ WL := WL_in (tb3 (List.mem_of_getElem? (i := 26) rfl)) rfl
theorem mlX11_117 : Cond.methodLink RX11 117 yX3_has ∈ WL := WL_in (tb3 (List.mem_of_getElem? (i := 30) rfl)) rfl
theorem mlX11_124 : Cond.methodLink RX11 124 yX5_get ∈ WL := WL_in (tb3 (List.mem_of_getElem? (i := 34) rfl)) rfl
theorem mlL_31 : Cond.methodLink RL 31 yX11_removeLine ∈ WL := WL_in (tb3 (List.mem_of_getElem? (i := 35) rfl)) rfl
theorem mlX11_128 : Cond.methodLink RX11 128 yX3_closeGap ∈ WL := WL_in (tb3 (List.mem_of_getElem? (i := 39) rfl)) rfl
theorem mlX3_51 : Cond.methodLink RX3 51 yX3_has ∈ WL := WL_in (tb3 (List.mem_of_getElem? (i := 43) rfl)) rfl
theorem mlL_35 : Cond.methodLink RL 35 yX11_splitLine ∈ WL := WL_in (tb3 (List.mem_of_getElem? (i := 44) rfl)) rfl
theorem mlX11_134 : Cond.methodLink RX11 134 yX3_split ∈ WL := WL_in (tb3 (List.mem_of_getElem? (i := 48) rfl)) rfl
theorem mlX3_55 : Cond.methodLink RX3 55 yX3_openGap ∈ WL := WL_in (tb3 (List.mem_of_getElem? (i := 52) rfl)) rfl
theorem mlX3_41 : Cond.methodLink RX3 41 yX3_byteOf ∈ WL := WL_in (tb3 (List.mem_of_getElem? (i := 53) rfl)) rfl
theorem mlX3_58 : Cond.methodLink RX3 58 yX3_appendFrom ∈ WL := WL_in (tb3 (List.mem_of_getElem? (i := 57) rfl)) rfl
theorem mlX3_45 : Cond.methodLink RX3 45 yX3_append ∈ WL := WL_in (tb3 (List.mem_of_getElem? (i := 61) rfl)) rfl
theorem mlX11_138 : Cond.methodLink RX11 138 yX11_study ∈ WL := WL_in (tb3 (List.mem_of_getElem? (i := 62) rfl)) rfl
theorem mlX11_345 : Cond.methodLink RX11 345 yX9_divide ∈ WL := WL_in (tb3 (List.mem_of_getElem? (i := 66) rfl)) rfl
theorem mlX9_52 : Cond.methodLink RX9 52 yX5_set ∈ WL := WL_in (tb3 (List.mem_of_getElem? (i := 70) rfl)) rfl
theorem mlX9_56 : Cond.methodLink RX9 56 yX9_load ∈ WL := WL_in (tb3 (List.mem_of_getElem? (i := 71) rfl)) rfl
theorem mlX9_63 : Cond.methodLink RX9 63 yX5_get ∈ WL := WL_in (tb3 (List.mem_of_getElem? (i := 75) rfl)) rfl
theorem mlX9_68 : Cond.methodLink RX9 68 yX3_byteOf ∈ WL := WL_in (tb3 (List.mem_of_getElem? (i := 76) rfl)) rfl
theorem mlX9_60 : Cond.methodLink RX9 60 yX9_divideLine ∈ WL := WL_in (tb3 (List.mem_of_getElem? (i := 77) rfl)) rfl
theorem mlX9_72 : Cond.methodLink RX9 72 yX9_literalEnd ∈ WL := WL_in (tb3 (List.mem_of_getElem? (i := 81) rfl)) rfl
theorem mlX9_75 : Cond.methodLink RX9 75 yX9_threeQuotesAt ∈ WL := WL_in (tb3 (List.mem_of_getElem? (i := 85) rfl)) rfl
theorem mlX9_79 : Cond.methodLink RX9 79 yX9_stringEnd ∈ WL := WL_in (tb3 (List.mem_of_getElem? (i := 89) rfl)) rfl
theorem mlX9_82 : Cond.methodLink RX9 82 yX9_add ∈ WL := WL_in (tb3 (List.mem_of_getElem? (i := 93) rfl)) rfl
theorem mlX9_89 : Cond.methodLink RX9 89 yX9_wordEnd ∈ WL := WL_in (tb3 (List.mem_of_getElem? (i := 100) rfl)) rfl
theorem mlX9_92 : Cond.methodLink RX9 92 yJ9_max_7cf53 ∈ WL := WL_in (tb3 (List.mem_of_getElem? (i := 104) rfl)) rfl
theorem mlX11_348 : Cond.methodLink RX11 348 yX0_match ∈ WL := WL_in (tb3 (List.mem_of_getElem? (i := 105) rfl)) rfl
theorem mlX0_71 : Cond.methodLink RX0 71 yX0_saveStack ∈ WL := WL_in (tb3 (List.mem_of_getElem? (i := 109) rfl)) rfl
theorem mlX0_99 : Cond.methodLink RX0 99 yX5_set ∈ WL := WL_in (tb3 (List.mem_of_getElem? (i := 113) rfl)) rfl
theorem mlX0_79 : Cond.methodLink RX0 79 yX5_get ∈ WL := WL_in (tb3 (List.mem_of_getElem? (i := 114) rfl)) rfl
theorem mlX0_83 : Cond.methodLink RX0 83 yX0_findRules ∈ WL := WL_in (tb3 (List.mem_of_getElem? (i := 115) rfl)) rfl
theorem mlX0_115 : Cond.methodLink RX0 115 yX7_has ∈ WL := WL_in (tb3 (List.mem_of_getElem? (i := 119) rfl)) rfl
theorem mlX7_38 : Cond.methodLink RX7 38 yX5_get ∈ WL := WL_in (tb3 (List.mem_of_getElem? (i := 123) rfl)) rfl
theorem mlX0_121 : Cond.methodLink RX0 121 yX7_hasText ∈ WL := WL_in (tb3 (List.mem_of_getElem? (i := 124) rfl)) rfl
theorem mlX7_50 : Cond.methodLink RX7 50 yX3_byteOf ∈ WL := WL_in (tb3 (List.mem_of_getElem? (i := 128) rfl)) rfl
theorem mlX0_91 : Cond.methodLink RX0 91 yX0_close ∈ WL := WL_in (tb3 (List.mem_of_getElem? (i := 129) rfl)) rfl
theorem mlX0_125 : Cond.methodLink RX0 125 yX0_levelThatCloses ∈ WL := WL_in (tb3 (List.mem_of_getElem? (i := 133) rfl)) rfl
theorem mlX0_132 : Cond.methodLink RX0 132 yJ9_max_7cf53 ∈ WL := WL_in (tb3 (List.mem_of_getElem? (i := 137) rfl)) rfl
theorem mlX0_95 : Cond.methodLink RX0 95 yX0_open ∈ WL := WL_in (tb3 (List.mem_of_getElem? (i := 138) rfl)) rfl
theorem mlX0_138 : Cond.methodLink RX0 138 yX7_best ∈ WL := WL_in (tb3 (List.mem_of_getElem? (i := 142) rfl)) rfl
theorem mlX11_352 : Cond.methodLink RX11 352 yX4_make ∈ WL := WL_in (tb3 (List.mem_of_getElem? (i := 146) rfl)) rfl
theorem mlX4_50 : Cond.methodLink RX4 50 yX5_get ∈ WL := WL_in (tb3 (List.mem_of_getElem? (i := 150) rfl)) rfl
theorem mlX4_59 : Cond.methodLink RX4 59 yX5_set ∈ WL := WL_in (tb3 (List.mem_of_getElem? (i := 151) rfl)) rfl
theorem mlX4_67 : Cond.methodLink RX4 67 yX4_decide ∈ WL := WL_in (tb3 (List.mem_of_getElem? (i := 152) rfl)) rfl
theorem mlX4_87 : Cond.methodLink RX4 87 yX0_lastLeadingCloser ∈ WL := WL_in (tb3 (List.mem_of_getElem? (i := 156) rfl)) rfl
theorem mlX4_101 : Cond.methodLink RX4 101 yX7_best ∈ WL := WL_in (tb3 (List.mem_of_getElem? (i := 160) rfl)) rfl
theorem mlX4_106 : Cond.methodLink RX4 106 yX7_beats ∈ WL := WL_in (tb3 (List.mem_of_getElem? (i := 161) rfl)) rfl
theorem mlX4_110 : Cond.methodLink RX4 110 yX4_joinerBehind ∈ WL := WL_in (tb3 (List.mem_of_getElem? (i := 165) rfl)) rfl
theorem mlX4_117 : Cond.methodLink RX4 117 yX4_standByClosed ∈ WL := WL_in (tb3 (List.mem_of_getElem? (i := 168) rfl)) rfl
theorem mlX4_130 : Cond.methodLink RX4 130 yX4_standOnGround ∈ WL := WL_in (tb3 (List.mem_of_getElem? (i := 172) rfl)) rfl
theorem mlX4_127 : Cond.methodLink RX4 127 yX0_openBefore ∈ WL := WL_in (tb3 (List.mem_of_getElem? (i := 176) rfl)) rfl
theorem mlX4_134 : Cond.methodLink RX4 134 yX4_addSteps ∈ WL := WL_in (tb3 (List.mem_of_getElem? (i := 180) rfl)) rfl
theorem mlX11_147 : Cond.methodLink RX11 147 yX4_column ∈ WL := WL_in (tb3 (List.mem_of_getElem? (i := 184) rfl)) rfl
theorem mlX11_317 : Cond.methodLink RX11 317 yJ9_min_7cf53 ∈ WL := WL_in (tb3 (List.mem_of_getElem? (i := 191) rfl)) rfl
theorem mlX4_75 : Cond.methodLink RX4 75 yJ9_min_7cf53 ∈ WL := WL_in (tb3 (List.mem_of_getElem? (i := 192) rfl)) rfl
theorem mlX4_81 : Cond.methodLink RX4 81 yJ9_max_7cf53 ∈ WL := WL_in (tb3 (List.mem_of_getElem? (i := 193) rfl)) rfl
theorem mlX11_151 : Cond.methodLink RX11 151 yX5_set ∈ WL := WL_in (tb3 (List.mem_of_getElem? (i := 194) rfl)) rfl
theorem mlL_40 : Cond.methodLink RL 40 yX11_joinLines ∈ WL := WL_in (tb3 (List.mem_of_getElem? (i := 195) rfl)) rfl
theorem mlX11_154 : Cond.methodLink RX11 154 yX3_joinedSize ∈ WL := WL_in (tb3 (List.mem_of_getElem? (i := 199) rfl)) rfl
theorem mlX11_157 : Cond.methodLink RX11 157 yX3_join ∈ WL := WL_in (tb3 (List.mem_of_getElem? (i := 203) rfl)) rfl
theorem mlX3_62 : Cond.methodLink RX3 62 yX3_closeGap ∈ WL := WL_in (tb3 (List.mem_of_getElem? (i := 207) rfl)) rfl
theorem mlL_44 : Cond.methodLink RL 44 yX11_shift ∈ WL := WL_in (tb3 (List.mem_of_getElem? (i := 208) rfl)) rfl
theorem mlX11_160 : Cond.methodLink RX11 160 yX3_hasRange ∈ WL := WL_in (tb3 (List.mem_of_getElem? (i := 212) rfl)) rfl
theorem mlX11_164 : Cond.methodLink RX11 164 yX3_canMove ∈ WL := WL_in (tb3 (List.mem_of_getElem? (i := 216) rfl)) rfl
theorem mlX11_167 : Cond.methodLink RX11 167 yX3_move ∈ WL := WL_in (tb3 (List.mem_of_getElem? (i := 221) rfl)) rfl
theorem mlL_49 : Cond.methodLink RL 49 yX11_pin ∈ WL := WL_in (tb3 (List.mem_of_getElem? (i := 225) rfl)) rfl
theorem mlL_53 : Cond.methodLink RL 53 yX11_reindent ∈ WL := WL_in (tb3 (List.mem_of_getElem? (i := 229) rfl)) rfl
theorem mlX11_174 : Cond.methodLink RX11 174 yX11_indentAnew ∈ WL := WL_in (tb3 (List.mem_of_getElem? (i := 233) rfl)) rfl
theorem mlL_57 : Cond.methodLink RL 57 yX11_lines ∈ WL := WL_in (tb3 (List.mem_of_getElem? (i := 237) rfl)) rfl
theorem mlL_61 : Cond.methodLink RL 61 yX11_indentation ∈ WL := WL_in (tb4 (List.mem_of_getElem? (i := 1) rfl)) rfl
theorem mlL_65 : Cond.methodLink RL 65 yX11_length ∈ WL := WL_in (tb4 (List.mem_of_getElem? (i := 5) rfl)) rfl
theorem mlL_69 : Cond.methodLink RL 69 yX11_byteAt ∈ WL := WL_in (tb4 (List.mem_of_getElem? (i := 9) rfl)) rfl
theorem mlX11_178 : Cond.methodLink RX11 178 yX3_byteOf ∈ WL := WL_in (tb4 (List.mem_of_getElem? (i := 13) rfl)) rfl
theorem mlL_73 : Cond.methodLink RL 73 yX11_isProtected ∈ WL := WL_in (tb4 (List.mem_of_getElem? (i := 14) rfl)) rfl
theorem mlL_77 : Cond.methodLink RL 77 yX11_isPinned ∈ WL := WL_in (tb4 (List.mem_of_getElem? (i := 18) rfl)) rfl
theorem mlL_81 : Cond.methodLink RL 81 yX11_setStep ∈ WL := WL_in (tb4 (List.mem_of_getElem? (i := 22) rfl)) rfl
theorem mlL_85 : Cond.methodLink RL 85 yX11_setBase ∈ WL := WL_in (tb4 (List.mem_of_getElem? (i := 26) rfl)) rfl
theorem mlL_89 : Cond.methodLink RL 89 yX11_setComment ∈ WL := WL_in (tb4 (List.mem_of_getElem? (i := 30) rfl)) rfl
theorem mlX11_185 : Cond.methodLink RX11 185 yX11_canBeginComment ∈ WL := WL_in (tb4 (List.mem_of_getElem? (i := 34) rfl)) rfl
theorem mlX11_337 : Cond.methodLink RX11 337 yX11_isWordByte ∈ WL := WL_in (tb4 (List.mem_of_getElem? (i := 37) rfl)) rfl
theorem mlL_93 : Cond.methodLink RL 93 yX11_pair ∈ WL := WL_in (tb4 (List.mem_of_getElem? (i := 38) rfl)) rfl
theorem mlX11_191 : Cond.methodLink RX11 191 yX11_isRuleNumber ∈ WL := WL_in (tb4 (List.mem_of_getElem? (i := 42) rfl)) rfl
theorem mlX11_194 : Cond.methodLink RX11 194 yX6_find ∈ WL := WL_in (tb4 (List.mem_of_getElem? (i := 45) rfl)) rfl
theorem mlX6_32 : Cond.methodLink RX6 32 yX1_byteOf ∈ WL := WL_in (tb4 (List.mem_of_getElem? (i := 49) rfl)) rfl
theorem mlX6_36 : Cond.methodLink RX6 36 yX6_textEnd ∈ WL := WL_in (tb4 (List.mem_of_getElem? (i := 53) rfl)) rfl
theorem mlX6_44 : Cond.methodLink RX6 44 yJ9_max_7cf53 ∈ WL := WL_in (tb4 (List.mem_of_getElem? (i := 57) rfl)) rfl
theorem mlX6_40 : Cond.methodLink RX6 40 yX5_set ∈ WL := WL_in (tb4 (List.mem_of_getElem? (i := 58) rfl)) rfl
theorem mlX11_198 : Cond.methodLink RX11 198 yX11_makeRule ∈ WL := WL_in (tb4 (List.mem_of_getElem? (i := 59) rfl)) rfl
theorem mlX11_217 : Cond.methodLink RX11 217 yX7_has ∈ WL := WL_in (tb4 (List.mem_of_getElem? (i := 63) rfl)) rfl
theorem mlX11_356 : Cond.methodLink RX11 356 yX7_put ∈ WL := WL_in (tb4 (List.mem_of_getElem? (i := 64) rfl)) rfl
theorem mlX7_46 : Cond.methodLink RX7 46 yX5_set ∈ WL := WL_in (tb4 (List.mem_of_getElem? (i := 68) rfl)) rfl
theorem mlX11_360 : Cond.methodLink RX11 360 yX6_write ∈ WL := WL_in (tb4 (List.mem_of_getElem? (i := 69) rfl)) rfl
theorem mlX6_54 : Cond.methodLink RX6 54 yX5_get ∈ WL := WL_in (tb4 (List.mem_of_getElem? (i := 73) rfl)) rfl
theorem mlX6_57 : Cond.methodLink RX6 57 yX7_appendText ∈ WL := WL_in (tb4 (List.mem_of_getElem? (i := 74) rfl)) rfl
theorem mlL_98 : Cond.methodLink RL 98 yX11_starter ∈ WL := WL_in (tb4 (List.mem_of_getElem? (i := 78) rfl)) rfl
theorem mlX11_214 : Cond.methodLink RX11 214 yX11_refusalOfOneText ∈ WL := WL_in (tb4 (List.mem_of_getElem? (i := 82) rfl)) rfl
theorem mlL_102 : Cond.methodLink RL 102 yX11_joiner ∈ WL := WL_in (tb4 (List.mem_of_getElem? (i := 86) rfl)) rfl
theorem mlL_106 : Cond.methodLink RL 106 yX11_dropRule ∈ WL := WL_in (tb4 (List.mem_of_getElem? (i := 90) rfl)) rfl
theorem mlX11_221 : Cond.methodLink RX11 221 yX7_size ∈ WL := WL_in (tb4 (List.mem_of_getElem? (i := 94) rfl)) rfl
theorem mlX7_42 : Cond.methodLink RX7 42 yX7_has ∈ WL := WL_in (tb4 (List.mem_of_getElem? (i := 98) rfl)) rfl
theorem mlL_110 : Cond.methodLink RL 110 yX11_wanted ∈ WL := WL_in (tb4 (List.mem_of_getElem? (i := 99) rfl)) rfl
theorem mlL_114 : Cond.methodLink RL 114 yX11_reason ∈ WL := WL_in (tb4 (List.mem_of_getElem? (i := 103) rfl)) rfl
theorem mlL_118 : Cond.methodLink RL 118 yX11_decidingRule ∈ WL := WL_in (tb4 (List.mem_of_getElem? (i := 107) rfl)) rfl
theorem mlL_122 : Cond.methodLink RL 122 yX11_wouldChange ∈ WL := WL_in (tb4 (List.mem_of_getElem? (i := 111) rfl)) rfl
theorem mlX11_231 : Cond.methodLink RX11 231 yX11_linesChangedWith ∈ WL := WL_in (tb4 (List.mem_of_getElem? (i := 115) rfl)) rfl
theorem mlX11_364 : Cond.methodLink RX11 364 yX5_copy ∈ WL := WL_in (tb4 (List.mem_of_getElem? (i := 119) rfl)) rfl
theorem mlL_126 : Cond.methodLink RL 126 yX11_changesWith ∈ WL := WL_in (tb4 (List.mem_of_getElem? (i := 120) rfl)) rfl
theorem mlX11_234 : Cond.methodLink RX11 234 yJ6_bitCount_0f7a4 ∈ WL := WL_in (tb4 (List.mem_of_getElem? (i := 124) rfl)) rfl
theorem mlL_130 : Cond.methodLink RL 130 yX11_fewestChanges ∈ WL := WL_in (tb4 (List.mem_of_getElem? (i := 130) rfl)) rfl
theorem mlX11_239 : Cond.methodLink RX11 239 yX11_findBestSetting ∈ WL := WL_in (tb4 (List.mem_of_getElem? (i := 134) rfl)) rfl
theorem mlL_134 : Cond.methodLink RL 134 yX11_bestStep ∈ WL := WL_in (tb4 (List.mem_of_getElem? (i := 138) rfl)) rfl
theorem mlL_138 : Cond.methodLink RL 138 yX11_bestBase ∈ WL := WL_in (tb4 (List.mem_of_getElem? (i := 142) rfl)) rfl
theorem mlL_142 : Cond.methodLink RL 142 yX11_tokens ∈ WL := WL_in (tb4 (List.mem_of_getElem? (i := 146) rfl)) rfl
theorem mlX11_242 : Cond.methodLink RX11 242 yX9_countIn ∈ WL := WL_in (tb4 (List.mem_of_getElem? (i := 150) rfl)) rfl
theorem mlL_146 : Cond.methodLink RL 146 yX11_tokenAt ∈ WL := WL_in (tb4 (List.mem_of_getElem? (i := 154) rfl)) rfl
theorem mlX11_245 : Cond.methodLink RX11 245 yX11_findToken ∈ WL := WL_in (tb4 (List.mem_of_getElem? (i := 158) rfl)) rfl
theorem mlL_150 : Cond.methodLink RL 150 yX11_tokenLength ∈ WL := WL_in (tb4 (List.mem_of_getElem? (i := 162) rfl)) rfl
theorem mlL_154 : Cond.methodLink RL 154 yX11_tokenKind ∈ WL := WL_in (tb4 (List.mem_of_getElem? (i := 166) rfl)) rfl
theorem mlL_158 : Cond.methodLink RL 158 yX11_openedBy ∈ WL := WL_in (tb4 (List.mem_of_getElem? (i := 170) rfl)) rfl
theorem mlX11_258 : Cond.methodLink RX11 258 yX11_placeOf ∈ WL := WL_in (tb4 (List.mem_of_getElem? (i := 174) rfl)) rfl
theorem mlL_162 : Cond.methodLink RL 162 yX11_closedBy ∈ WL := WL_in (tb4 (List.mem_of_getElem? (i := 178) rfl)) rfl
theorem mlL_166 : Cond.methodLink RL 166 yX11_depth ∈ WL := WL_in (tb4 (List.mem_of_getElem? (i := 182) rfl)) rfl
theorem mlL_170 : Cond.methodLink RL 170 yX11_blockRule ∈ WL := WL_in (tb4 (List.mem_of_getElem? (i := 186) rfl)) rfl
theorem mlX11_267 : Cond.methodLink RX11 267 yX11_findBlock ∈ WL := WL_in (tb4 (List.mem_of_getElem? (i := 190) rfl)) rfl
theorem mlX11_370 : Cond.methodLink RX11 370 yX0_openBefore ∈ WL := WL_in (tb4 (List.mem_of_getElem? (i := 194) rfl)) rfl
theorem mlL_174 : Cond.methodLink RL 174 yX11_blockOpening ∈ WL := WL_in (tb4 (List.mem_of_getElem? (i := 195) rfl)) rfl
theorem mlL_178 : Cond.methodLink RL 178 yX11_contentColumn ∈ WL := WL_in (tb4 (List.mem_of_getElem? (i := 199) rfl)) rfl
theorem mlX11_282 : Cond.methodLink RX11 282 yX11_columnFrom ∈ WL := WL_in (tb4 (List.mem_of_getElem? (i := 203) rfl)) rfl
theorem mlL_182 : Cond.methodLink RL 182 yX11_strays ∈ WL := WL_in (tb4 (List.mem_of_getElem? (i := 204) rfl)) rfl
theorem mlL_186 : Cond.methodLink RL 186 yX11_lost ∈ WL := WL_in (tb4 (List.mem_of_getElem? (i := 208) rfl)) rfl
theorem mlL_190 : Cond.methodLink RL 190 yX11_vocabulary ∈ WL := WL_in (tb4 (List.mem_of_getElem? (i := 212) rfl)) rfl
theorem mlX11_291 : Cond.methodLink RX11 291 yX10_count ∈ WL := WL_in (tb4 (List.mem_of_getElem? (i := 216) rfl)) rfl
theorem mlX10_35 : Cond.methodLink RX10 35 yX5_get ∈ WL := WL_in (tb4 (List.mem_of_getElem? (i := 220) rfl)) rfl
theorem mlX10_39 : Cond.methodLink RX10 39 yX10_countToken ∈ WL := WL_in (tb4 (List.mem_of_getElem? (i := 221) rfl)) rfl
theorem mlX10_43 : Cond.methodLink RX10 43 yX10_sameText ∈ WL := WL_in (tb4 (List.mem_of_getElem? (i := 225) rfl)) rfl
theorem mlX10_60 : Cond.methodLink RX10 60 yX3_byteOf ∈ WL := WL_in (tb4 (List.mem_of_getElem? (i := 228) rfl)) rfl
theorem mlX10_47 : Cond.methodLink RX10 47 yX5_set ∈ WL := WL_in (tb4 (List.mem_of_getElem? (i := 229) rfl)) rfl
theorem mlL_194 : Cond.methodLink RL 194 yX11_commonestCount ∈ WL := WL_in (tb4 (List.mem_of_getElem? (i := 230) rfl)) rfl
theorem mlX11_296 : Cond.methodLink RX11 296 yX10_commonest ∈ WL := WL_in (tb4 (List.mem_of_getElem? (i := 234) rfl)) rfl
theorem mlL_198 : Cond.methodLink RL 198 yX11_commonestByte ∈ WL := WL_in (tb4 (List.mem_of_getElem? (i := 238) rfl)) rfl
theorem mlL_202 : Cond.methodLink RL 202 yX11_undo ∈ WL := WL_in (tb5 (List.mem_of_getElem? (i := 2) rfl)) rfl
theorem mlX11_306 : Cond.methodLink RX11 306 yX2_takeLatest ∈ WL := WL_in (tb5 (List.mem_of_getElem? (i := 6) rfl)) rfl
theorem mlL_206 : Cond.methodLink RL 206 yX11_keep ∈ WL := WL_in (tb5 (List.mem_of_getElem? (i := 10) rfl)) rfl
theorem mlX11_310 : Cond.methodLink RX11 310 yX11_imageAt ∈ WL := WL_in (tb5 (List.mem_of_getElem? (i := 14) rfl)) rfl
theorem mlX11_314 : Cond.methodLink RX11 314 yX8_copy ∈ WL := WL_in (tb5 (List.mem_of_getElem? (i := 18) rfl)) rfl
theorem mlL_210 : Cond.methodLink RL 210 yX11_back ∈ WL := WL_in (tb5 (List.mem_of_getElem? (i := 19) rfl)) rfl
theorem mlL_214 : Cond.methodLink RL 214 yX11_draw ∈ WL := WL_in (tb5 (List.mem_of_getElem? (i := 23) rfl)) rfl
theorem mlX11_322 : Cond.methodLink RX11 322 yX11_drawLine ∈ WL := WL_in (tb5 (List.mem_of_getElem? (i := 27) rfl)) rfl
theorem mlX11_373 : Cond.methodLink RX11 373 yX11_nextSeed ∈ WL := WL_in (tb5 (List.mem_of_getElem? (i := 31) rfl)) rfl
theorem mlX11_376 : Cond.methodLink RX11 376 yX11_drawnNumber ∈ WL := WL_in (tb5 (List.mem_of_getElem? (i := 35) rfl)) rfl
theorem mlX11_379 : Cond.methodLink RX11 379 yX3_append ∈ WL := WL_in (tb5 (List.mem_of_getElem? (i := 38) rfl)) rfl
theorem mlX11_382 : Cond.methodLink RX11 382 yX11_pieceText ∈ WL := WL_in (tb5 (List.mem_of_getElem? (i := 39) rfl)) rfl
theorem mlX11_386 : Cond.methodLink RX11 386 yJ0_length_8abf5 ∈ WL := WL_in (tb5 (List.mem_of_getElem? (i := 58) rfl)) rfl
theorem mlJ0_335 : Cond.methodLink RJ0 335 yJ0_coder_7d493 ∈ WL := WL_in (tb5 (List.mem_of_getElem? (i := 62) rfl)) rfl
theorem mlX11_391 : Cond.methodLink RX11 391 yJ0_charAt_5068e ∈ WL := WL_in (tb5 (List.mem_of_getElem? (i := 68) rfl)) rfl
theorem mlJ0_492 : Cond.methodLink RJ0 492 yJ0_isLatin1_aae02 ∈ WL := WL_in (tb5 (List.mem_of_getElem? (i := 72) rfl)) rfl
theorem mlJ0_495 : Cond.methodLink RJ0 495 yJ1_charAt_3b067 ∈ WL := WL_in (tb5 (List.mem_of_getElem? (i := 76) rfl)) rfl
theorem mlJ1_9 : Cond.methodLink RJ1 9 yJ0_checkIndex_df160 ∈ WL := WL_in (tb5 (List.mem_of_getElem? (i := 79) rfl)) rfl
theorem mlJ0_1059 : Cond.methodLink RJ0 1059 yJ3_checkIndex_8e157 ∈ WL := WL_in (tb5 (List.mem_of_getElem? (i := 84) rfl)) rfl
theorem mlJ0_498 : Cond.methodLink RJ0 498 yJ2_charAt_3b067 ∈ WL := WL_in (tb5 (List.mem_of_getElem? (i := 87) rfl)) rfl
theorem mlJ2_67 : Cond.methodLink RJ2 67 yJ2_checkIndex_2214a ∈ WL := WL_in (tb5 (List.mem_of_getElem? (i := 90) rfl)) rfl
theorem mlJ2_48 : Cond.methodLink RJ2 48 yJ2_length_9d52b ∈ WL := WL_in (tb5 (List.mem_of_getElem? (i := 93) rfl)) rfl
theorem mlJ2_414 : Cond.methodLink RJ2 414 yJ0_checkIndex_df160 ∈ WL := WL_in (tb5 (List.mem_of_getElem? (i := 96) rfl)) rfl
theorem mlJ2_71 : Cond.methodLink RJ2 71 yJ2_getChar_3b067 ∈ WL := WL_in (tb5 (List.mem_of_getElem? (i := 97) rfl)) rfl
theorem mlL_218 : Cond.methodLink RL 218 yX11_digest ∈ WL := WL_in (tb5 (List.mem_of_getElem? (i := 107) rfl)) rfl
theorem mlX11_327 : Cond.methodLink RX11 327 yX11_mix ∈ WL := WL_in (tb5 (List.mem_of_getElem? (i := 112) rfl)) rfl
theorem mlX11_331 : Cond.methodLink RX11 331 yX11_mixLine ∈ WL := WL_in (tb5 (List.mem_of_getElem? (i := 116) rfl)) rfl
theorem mlX11_334 : Cond.methodLink RX11 334 yX7_mixRule ∈ WL := WL_in (tb5 (List.mem_of_getElem? (i := 120) rfl)) rfl
theorem mlX7_60 : Cond.methodLink RX7 60 yX7_mixText ∈ WL := WL_in (tb5 (List.mem_of_getElem? (i := 125) rfl)) rfl
theorem mlL_12 : Cond.methodLink RL 12 yX12_init ∈ WL := WL_in (tb5 (List.mem_of_getElem? (i := 131) rfl)) rfl
theorem mlL_17 : Cond.methodLink RL 17 yX12_type ∈ WL := WL_in (tb6 (List.mem_of_getElem? (i := 20) rfl)) rfl
theorem mlX12_79 : Cond.methodLink RX12 79 yX12_in ∈ WL := WL_in (tb6 (List.mem_of_getElem? (i := 24) rfl)) rfl
theorem mlL_22 : Cond.methodLink RL 22 yX12_clear ∈ WL := WL_in (tb6 (List.mem_of_getElem? (i := 27) rfl)) rfl
theorem mlL_26 : Cond.methodLink RL 26 yX12_insertLine ∈ WL := WL_in (tb6 (List.mem_of_getElem? (i := 31) rfl)) rfl
theorem mlX12_203 : Cond.methodLink RX12 203 yX12_isLineText ∈ WL := WL_in (tb6 (List.mem_of_getElem? (i := 35) rfl)) rfl
theorem mlX12_207 : Cond.methodLink RX12 207 yX12_begins ∈ WL := WL_in (tb6 (List.mem_of_getElem? (i := 39) rfl)) rfl
theorem mlX12_75 : Cond.methodLink RX12 75 yX12_copies ∈ WL := WL_in (tb6 (List.mem_of_getElem? (i := 43) rfl)) rfl
theorem mlX12_210 : Cond.methodLink RX12 210 yX12_parts ∈ WL := WL_in (tb6 (List.mem_of_getElem? (i := 47) rfl)) rfl
theorem mlX12_200 : Cond.methodLink RX12 200 yX12_copiesLine ∈ WL := WL_in (tb6 (List.mem_of_getElem? (i := 51) rfl)) rfl
theorem mlX12_213 : Cond.methodLink RX12 213 yX12_writes ∈ WL := WL_in (tb6 (List.mem_of_getElem? (i := 55) rfl)) rfl
theorem mlL_30 : Cond.methodLink RL 30 yX12_replaceLine ∈ WL := WL_in (tb6 (List.mem_of_getElem? (i := 59) rfl)) rfl
theorem mlX12_216 : Cond.methodLink RX12 216 yX12_isLine ∈ WL := WL_in (tb6 (List.mem_of_getElem? (i := 63) rfl)) rfl
theorem mlL_34 : Cond.methodLink RL 34 yX12_removeLine ∈ WL := WL_in (tb6 (List.mem_of_getElem? (i := 67) rfl)) rfl
theorem mlX12_219 : Cond.methodLink RX12 219 yX12_drops ∈ WL := WL_in (tb6 (List.mem_of_getElem? (i := 71) rfl)) rfl
theorem mlL_39 : Cond.methodLink RL 39 yX12_splitLine ∈ WL := WL_in (tb6 (List.mem_of_getElem? (i := 75) rfl)) rfl
theorem mlX12_83 : Cond.methodLink RX12 83 yX12_contentAt ∈ WL := WL_in (tb6 (List.mem_of_getElem? (i := 79) rfl)) rfl
theorem mlX12_222 : Cond.methodLink RX12 222 yX12_uses ∈ WL := WL_in (tb6 (List.mem_of_getElem? (i := 83) rfl)) rfl
theorem mlX12_151 : Cond.methodLink RX12 151 yX12_looks ∈ WL := WL_in (tb6 (List.mem_of_getElem? (i := 87) rfl)) rfl
theorem mlX12_138 : Cond.methodLink RX12 138 yX12_tokenizes ∈ WL := WL_in (tb6 (List.mem_of_getElem? (i := 91) rfl)) rfl
theorem mlX12_114 : Cond.methodLink RX12 114 yX12_isBlank ∈ WL := WL_in (tb6 (List.mem_of_getElem? (i := 95) rfl)) rfl
theorem mlX12_101 : Cond.methodLink RX12 101 yX12_endOfLiteral ∈ WL := WL_in (tb6 (List.mem_of_getElem? (i := 99) rfl)) rfl
theorem mlX12_87 : Cond.methodLink RX12 87 yX12_isTriple ∈ WL := WL_in (tb6 (List.mem_of_getElem? (i := 103) rfl)) rfl
theorem mlX12_117 : Cond.methodLink RX12 117 yX12_divides ∈ WL := WL_in (tb6 (List.mem_of_getElem? (i := 107) rfl)) rfl
theorem mlX12_104 : Cond.methodLink RX12 104 yX12_adds ∈ WL := WL_in (tb6 (List.mem_of_getElem? (i := 111) rfl)) rfl
theorem mlX12_108 : Cond.methodLink RX12 108 yX12_endOfString ∈ WL := WL_in (tb6 (List.mem_of_getElem? (i := 115) rfl)) rfl
theorem mlX12_91 : Cond.methodLink RX12 91 yX12_least ∈ WL := WL_in (tb6 (List.mem_of_getElem? (i := 119) rfl)) rfl
theorem mlX12_94 : Cond.methodLink RX12 94 yX12_isWord ∈ WL := WL_in (tb6 (List.mem_of_getElem? (i := 122) rfl)) rfl
theorem mlX12_111 : Cond.methodLink RX12 111 yX12_endOfWord ∈ WL := WL_in (tb6 (List.mem_of_getElem? (i := 125) rfl)) rfl
theorem mlX12_141 : Cond.methodLink RX12 141 yX12_notes ∈ WL := WL_in (tb6 (List.mem_of_getElem? (i := 129) rfl)) rfl
theorem mlX12_145 : Cond.methodLink RX12 145 yX12_shuts ∈ WL := WL_in (tb6 (List.mem_of_getElem? (i := 133) rfl)) rfl
theorem mlX12_123 : Cond.methodLink RX12 123 yX12_hasText ∈ WL := WL_in (tb6 (List.mem_of_getElem? (i := 137) rfl)) rfl
theorem mlX12_120 : Cond.methodLink RX12 120 yX12_ruleAt ∈ WL := WL_in (tb6 (List.mem_of_getElem? (i := 141) rfl)) rfl
theorem mlX12_132 : Cond.methodLink RX12 132 yX12_isClosingText ∈ WL := WL_in (tb6 (List.mem_of_getElem? (i := 145) rfl)) rfl
theorem mlX12_148 : Cond.methodLink RX12 148 yX12_ruleFor ∈ WL := WL_in (tb6 (List.mem_of_getElem? (i := 149) rfl)) rfl
theorem mlX12_185 : Cond.methodLink RX12 185 yX12_isFree ∈ WL := WL_in (tb6 (List.mem_of_getElem? (i := 153) rfl)) rfl
theorem mlX12_188 : Cond.methodLink RX12 188 yX12_decides ∈ WL := WL_in (tb6 (List.mem_of_getElem? (i := 157) rfl)) rfl
theorem mlX12_179 : Cond.methodLink RX12 179 yX12_columnIn ∈ WL := WL_in (tb6 (List.mem_of_getElem? (i := 161) rfl)) rfl
theorem mlX12_160 : Cond.methodLink RX12 160 yX12_isAligned ∈ WL := WL_in (tb6 (List.mem_of_getElem? (i := 165) rfl)) rfl
theorem mlX12_163 : Cond.methodLink RX12 163 yX12_columnOf ∈ WL := WL_in (tb6 (List.mem_of_getElem? (i := 169) rfl)) rfl
theorem mlX12_182 : Cond.methodLink RX12 182 yX12_offers ∈ WL := WL_in (tb6 (List.mem_of_getElem? (i := 173) rfl)) rfl
theorem mlL_43 : Cond.methodLink RL 43 yX12_joinLines ∈ WL := WL_in (tb6 (List.mem_of_getElem? (i := 177) rfl)) rfl
theorem mlL_48 : Cond.methodLink RL 48 yX12_shift ∈ WL := WL_in (tb6 (List.mem_of_getElem? (i := 181) rfl)) rfl
theorem mlX12_225 : Cond.methodLink RX12 225 yX12_isRange ∈ WL := WL_in (tb6 (List.mem_of_getElem? (i := 185) rfl)) rfl
theorem mlL_52 : Cond.methodLink RL 52 yX12_pin ∈ WL := WL_in (tb6 (List.mem_of_getElem? (i := 189) rfl)) rfl
theorem mlL_56 : Cond.methodLink RL 56 yX12_reindent ∈ WL := WL_in (tb6 (List.mem_of_getElem? (i := 193) rfl)) rfl
theorem mlX12_228 : Cond.methodLink RX12 228 yX12_settles ∈ WL := WL_in (tb6 (List.mem_of_getElem? (i := 197) rfl)) rfl
theorem mlX12_231 : Cond.methodLink RX12 231 yX12_bits ∈ WL := WL_in (tb6 (List.mem_of_getElem? (i := 201) rfl)) rfl
theorem mlL_60 : Cond.methodLink RL 60 yX12_lines ∈ WL := WL_in (tb6 (List.mem_of_getElem? (i := 204) rfl)) rfl
theorem mlL_64 : Cond.methodLink RL 64 yX12_indentation ∈ WL := WL_in (tb6 (List.mem_of_getElem? (i := 208) rfl)) rfl
theorem mlL_68 : Cond.methodLink RL 68 yX12_length ∈ WL := WL_in (tb6 (List.mem_of_getElem? (i := 212) rfl)) rfl
theorem mlL_72 : Cond.methodLink RL 72 yX12_byteAt ∈ WL := WL_in (tb6 (List.mem_of_getElem? (i := 216) rfl)) rfl
theorem mlL_76 : Cond.methodLink RL 76 yX12_isProtected ∈ WL := WL_in (tb6 (List.mem_of_getElem? (i := 220) rfl)) rfl
theorem mlL_80 : Cond.methodLink RL 80 yX12_isPinned ∈ WL := WL_in (tb6 (List.mem_of_getElem? (i := 224) rfl)) rfl
theorem mlL_84 : Cond.methodLink RL 84 yX12_setStep ∈ WL := WL_in (tb6 (List.mem_of_getElem? (i := 228) rfl)) rfl
theorem mlX12_234 : Cond.methodLink RX12 234 yX12_sets ∈ WL := WL_in (tb6 (List.mem_of_getElem? (i := 232) rfl)) rfl
theorem mlL_88 : Cond.methodLink RL 88 yX12_setBase ∈ WL := WL_in (tb6 (List.mem_of_getElem? (i := 236) rfl)) rfl
theorem mlL_92 : Cond.methodLink RL 92 yX12_setComment ∈ WL := WL_in (tb7 (List.mem_of_getElem? (i := 0) rfl)) rfl
theorem mlL_97 : Cond.methodLink RL 97 yX12_pair ∈ WL := WL_in (tb7 (List.mem_of_getElem? (i := 4) rfl)) rfl
theorem mlX12_252 : Cond.methodLink RX12 252 yX12_isRule ∈ WL := WL_in (tb7 (List.mem_of_getElem? (i := 8) rfl)) rfl
theorem mlX12_255 : Cond.methodLink RX12 255 yX12_makes ∈ WL := WL_in (tb7 (List.mem_of_getElem? (i := 11) rfl)) rfl
theorem mlX12_246 : Cond.methodLink RX12 246 yX12_readsTexts ∈ WL := WL_in (tb7 (List.mem_of_getElem? (i := 15) rfl)) rfl
theorem mlX12_243 : Cond.methodLink RX12 243 yX12_readsOne ∈ WL := WL_in (tb7 (List.mem_of_getElem? (i := 19) rfl)) rfl
theorem mlX12_240 : Cond.methodLink RX12 240 yX12_skips ∈ WL := WL_in (tb7 (List.mem_of_getElem? (i := 23) rfl)) rfl
theorem mlX12_249 : Cond.methodLink RX12 249 yX12_writesText ∈ WL := WL_in (tb7 (List.mem_of_getElem? (i := 27) rfl)) rfl
theorem mlL_101 : Cond.methodLink RL 101 yX12_starter ∈ WL := WL_in (tb7 (List.mem_of_getElem? (i := 31) rfl)) rfl
theorem mlL_105 : Cond.methodLink RL 105 yX12_joiner ∈ WL := WL_in (tb7 (List.mem_of_getElem? (i := 35) rfl)) rfl
theorem mlL_109 : Cond.methodLink RL 109 yX12_dropRule ∈ WL := WL_in (tb7 (List.mem_of_getElem? (i := 39) rfl)) rfl
theorem mlL_113 : Cond.methodLink RL 113 yX12_wanted ∈ WL := WL_in (tb7 (List.mem_of_getElem? (i := 43) rfl)) rfl
theorem mlX12_259 : Cond.methodLink RX12 259 yX12_isDecided ∈ WL := WL_in (tb7 (List.mem_of_getElem? (i := 47) rfl)) rfl
theorem mlL_117 : Cond.methodLink RL 117 yX12_reason ∈ WL := WL_in (tb7 (List.mem_of_getElem? (i := 51) rfl)) rfl
theorem mlL_121 : Cond.methodLink RL 121 yX12_decidingRule ∈ WL := WL_in (tb7 (List.mem_of_getElem? (i := 55) rfl)) rfl
theorem mlL_125 : Cond.methodLink RL 125 yX12_wouldChange ∈ WL := WL_in (tb7 (List.mem_of_getElem? (i := 59) rfl)) rfl
theorem mlL_129 : Cond.methodLink RL 129 yX12_changesWith ∈ WL := WL_in (tb7 (List.mem_of_getElem? (i := 63) rfl)) rfl
theorem mlX12_262 : Cond.methodLink RX12 262 yX12_changesBy ∈ WL := WL_in (tb7 (List.mem_of_getElem? (i := 67) rfl)) rfl
theorem mlL_133 : Cond.methodLink RL 133 yX12_fewestChanges ∈ WL := WL_in (tb7 (List.mem_of_getElem? (i := 71) rfl)) rfl
theorem mlX12_274 : Cond.methodLink RX12 274 yX12_searches ∈ WL := WL_in (tb7 (List.mem_of_getElem? (i := 75) rfl)) rfl
theorem mlL_137 : Cond.methodLink RL 137 yX12_bestStep ∈ WL := WL_in (tb7 (List.mem_of_getElem? (i := 79) rfl)) rfl
theorem mlL_141 : Cond.methodLink RL 141 yX12_bestBase ∈ WL := WL_in (tb7 (List.mem_of_getElem? (i := 83) rfl)) rfl
theorem mlL_145 : Cond.methodLink RL 145 yX12_tokens ∈ WL := WL_in (tb7 (List.mem_of_getElem? (i := 87) rfl)) rfl
theorem mlL_149 : Cond.methodLink RL 149 yX12_tokenAt ∈ WL := WL_in (tb7 (List.mem_of_getElem? (i := 91) rfl)) rfl
theorem mlX12_277 : Cond.methodLink RX12 277 yX12_tokenOf ∈ WL := WL_in (tb7 (List.mem_of_getElem? (i := 95) rfl)) rfl
theorem mlL_153 : Cond.methodLink RL 153 yX12_tokenLength ∈ WL := WL_in (tb7 (List.mem_of_getElem? (i := 99) rfl)) rfl
theorem mlL_157 : Cond.methodLink RL 157 yX12_tokenKind ∈ WL := WL_in (tb7 (List.mem_of_getElem? (i := 103) rfl)) rfl
theorem mlL_161 : Cond.methodLink RL 161 yX12_openedBy ∈ WL := WL_in (tb7 (List.mem_of_getElem? (i := 107) rfl)) rfl
theorem mlX12_280 : Cond.methodLink RX12 280 yX12_placeOf ∈ WL := WL_in (tb7 (List.mem_of_getElem? (i := 111) rfl)) rfl
theorem mlL_165 : Cond.methodLink RL 165 yX12_closedBy ∈ WL := WL_in (tb7 (List.mem_of_getElem? (i := 115) rfl)) rfl
theorem mlL_169 : Cond.methodLink RL 169 yX12_depth ∈ WL := WL_in (tb7 (List.mem_of_getElem? (i := 119) rfl)) rfl
theorem mlL_173 : Cond.methodLink RL 173 yX12_blockRule ∈ WL := WL_in (tb7 (List.mem_of_getElem? (i := 123) rfl)) rfl
theorem mlX12_283 : Cond.methodLink RX12 283 yX12_blockOf ∈ WL := WL_in (tb7 (List.mem_of_getElem? (i := 127) rfl)) rfl
theorem mlL_177 : Cond.methodLink RL 177 yX12_blockOpening ∈ WL := WL_in (tb7 (List.mem_of_getElem? (i := 131) rfl)) rfl
theorem mlL_181 : Cond.methodLink RL 181 yX12_contentColumn ∈ WL := WL_in (tb7 (List.mem_of_getElem? (i := 135) rfl)) rfl
theorem mlL_185 : Cond.methodLink RL 185 yX12_strays ∈ WL := WL_in (tb7 (List.mem_of_getElem? (i := 139) rfl)) rfl
theorem mlL_189 : Cond.methodLink RL 189 yX12_lost ∈ WL := WL_in (tb7 (List.mem_of_getElem? (i := 143) rfl)) rfl
theorem mlL_193 : Cond.methodLink RL 193 yX12_vocabulary ∈ WL := WL_in (tb7 (List.mem_of_getElem? (i := 147) rfl)) rfl
theorem mlX12_289 : Cond.methodLink RX12 289 yX12_isFirst ∈ WL := WL_in (tb7 (List.mem_of_getElem? (i := 151) rfl)) rfl
theorem mlX12_286 : Cond.methodLink RX12 286 yX12_isSame ∈ WL := WL_in (tb7 (List.mem_of_getElem? (i := 155) rfl)) rfl
theorem mlL_197 : Cond.methodLink RL 197 yX12_commonestCount ∈ WL := WL_in (tb7 (List.mem_of_getElem? (i := 159) rfl)) rfl
theorem mlX12_295 : Cond.methodLink RX12 295 yX12_commonest ∈ WL := WL_in (tb7 (List.mem_of_getElem? (i := 163) rfl)) rfl
theorem mlL_201 : Cond.methodLink RL 201 yX12_commonestByte ∈ WL := WL_in (tb7 (List.mem_of_getElem? (i := 167) rfl)) rfl
theorem mlL_205 : Cond.methodLink RL 205 yX12_undo ∈ WL := WL_in (tb7 (List.mem_of_getElem? (i := 171) rfl)) rfl
theorem mlL_209 : Cond.methodLink RL 209 yX12_keep ∈ WL := WL_in (tb7 (List.mem_of_getElem? (i := 175) rfl)) rfl
theorem mlL_213 : Cond.methodLink RL 213 yX12_back ∈ WL := WL_in (tb7 (List.mem_of_getElem? (i := 179) rfl)) rfl
theorem mlL_217 : Cond.methodLink RL 217 yX12_draw ∈ WL := WL_in (tb7 (List.mem_of_getElem? (i := 183) rfl)) rfl
theorem mlX12_306 : Cond.methodLink RX12 306 yX12_drawsLine ∈ WL := WL_in (tb7 (List.mem_of_getElem? (i := 187) rfl)) rfl
theorem mlX12_303 : Cond.methodLink RX12 303 yX12_draws ∈ WL := WL_in (tb7 (List.mem_of_getElem? (i := 191) rfl)) rfl
theorem mlL_222 : Cond.methodLink RL 222 yX12_digest ∈ WL := WL_in (tb7 (List.mem_of_getElem? (i := 196) rfl)) rfl
theorem mlX12_315 : Cond.methodLink RX12 315 yX12_mixes ∈ WL := WL_in (tb7 (List.mem_of_getElem? (i := 201) rfl)) rfl
theorem mlX12_323 : Cond.methodLink RX12 323 yX12_mixesRule ∈ WL := WL_in (tb7 (List.mem_of_getElem? (i := 206) rfl)) rfl
theorem mlX12_318 : Cond.methodLink RX12 318 yX12_mixesText ∈ WL := WL_in (tb7 (List.mem_of_getElem? (i := 210) rfl)) rfl
