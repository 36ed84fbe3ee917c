/-! ===== the law's cases 26 to 50 (written by gen11.py) ===== -/
section CASES
variable {X : Cl} {κ : Kd} {ad : Ad} {n : Nat} {xs : Nat → Int32} {σ τ : Mem}
theorem l_k26 (hS : StdL X κ ad n xs) (hn : n ≤ 3072) {i : Nat} (hi : i + 6 ≤ n) (hI : Inv σ τ) (kk : ∀ σ' τ', Inv σ' τ' → Sl X κ 1536 (LL X κ i) [] σ' τ') : Sl X κ 960 (LL X κ i) [] σ τ := by
  obtain ⟨r, σ1, hA, r1, τ1, hB, e1, hI1⟩ := t_wouldChange hI
  rw [e1] at hB
  refine l_a1 hS dL_law_960 ?_
  refine l_callA hS (As := []) (rst := []) (c_Ai_wouldChange rfl  σ) hA miX11_wouldChange mlL_122 rfl (Nat.le_of_ble_eq_true rfl) (Nat.le_of_ble_eq_true rfl) (Nat.le_of_ble_eq_true rfl) rfl dL_law_961 ?_
  refine l_a2 hS dL_law_964 ?_
  refine l_callB hS (As := []) (rst := [iv r]) (c_Md_wouldChange rfl  τ) hB miX12_wouldChange mlL_125 rfl (Nat.le_of_ble_eq_true rfl) (Nat.le_of_ble_eq_true rfl) (Nat.le_of_ble_eq_true rfl) rfl dL_law_965 ?_
  exact l_eqI hS (r := r) (st := []) dL_law_968 (by decide) (kk σ1 τ1 hI1)
theorem l_k27 (hS : StdL X κ ad n xs) (hn : n ≤ 3072) {i : Nat} (hi : i + 6 ≤ n) (hI : Inv σ τ) (kk : ∀ σ' τ', Inv σ' τ' → Sl X κ 1536 (LL X κ i) [] σ' τ') : Sl X κ 973 (LL X κ i) [] σ τ := by
  obtain ⟨r, σ1, hA, r1, τ1, hB, e1, hI1⟩ := t_changesWith hI (RI_x xs (i + 1)) (RI_x xs (i + 2))
  rw [e1] at hB
  refine l_a1 hS dL_law_973 ?_
  refine l_arg hS (i := i) (k := 1) rfl (by omega) hn dL_law_974 dL_law_975 dL_law_976 dL_law_977 dL_law_978 ?_
  refine l_arg hS (i := i) (k := 2) rfl (by omega) hn dL_law_979 dL_law_980 dL_law_981 dL_law_982 dL_law_983 ?_
  refine l_callA hS (As := [iv (sx xs (i + 1)), iv (sx xs (i + 2))]) (rst := []) (c_Ai_changesWith rfl (sx xs (i + 1)) (sx xs (i + 2)) σ) hA miX11_changesWith mlL_126 rfl (Nat.le_of_ble_eq_true rfl) (Nat.le_of_ble_eq_true rfl) (Nat.le_of_ble_eq_true rfl) rfl dL_law_984 ?_
  refine l_a2 hS dL_law_987 ?_
  refine l_arg hS (i := i) (k := 1) rfl (by omega) hn dL_law_988 dL_law_989 dL_law_990 dL_law_991 dL_law_992 ?_
  refine l_arg hS (i := i) (k := 2) rfl (by omega) hn dL_law_993 dL_law_994 dL_law_995 dL_law_996 dL_law_997 ?_
  refine l_callB hS (As := [iv (sx xs (i + 1)), iv (sx xs (i + 2))]) (rst := [iv r]) (c_Md_changesWith rfl (sx xs (i + 1)) (sx xs (i + 2)) τ) hB miX12_changesWith mlL_129 rfl (Nat.le_of_ble_eq_true rfl) (Nat.le_of_ble_eq_true rfl) (Nat.le_of_ble_eq_true rfl) rfl dL_law_998 ?_
  exact l_eqI hS (r := r) (st := []) dL_law_1001 (by decide) (kk σ1 τ1 hI1)
theorem l_k28 (hS : StdL X κ ad n xs) (hn : n ≤ 3072) {i : Nat} (hi : i + 6 ≤ n) (hI : Inv σ τ) (kk : ∀ σ' τ', Inv σ' τ' → Sl X κ 1536 (LL X κ i) [] σ' τ') : Sl X κ 1006 (LL X κ i) [] σ τ := by
  obtain ⟨r, σ1, hA, r1, τ1, hB, e1, hI1⟩ := t_fewestChanges hI
  rw [e1] at hB
  refine l_a1 hS dL_law_1006 ?_
  refine l_callA hS (As := []) (rst := []) (c_Ai_fewestChanges rfl  σ) hA miX11_fewestChanges mlL_130 rfl (Nat.le_of_ble_eq_true rfl) (Nat.le_of_ble_eq_true rfl) (Nat.le_of_ble_eq_true rfl) rfl dL_law_1007 ?_
  refine l_a2 hS dL_law_1010 ?_
  refine l_callB hS (As := []) (rst := [iv r]) (c_Md_fewestChanges rfl  τ) hB miX12_fewestChanges mlL_133 rfl (Nat.le_of_ble_eq_true rfl) (Nat.le_of_ble_eq_true rfl) (Nat.le_of_ble_eq_true rfl) rfl dL_law_1011 ?_
  exact l_eqI hS (r := r) (st := []) dL_law_1014 (by decide) (kk σ1 τ1 hI1)
theorem l_k29 (hS : StdL X κ ad n xs) (hn : n ≤ 3072) {i : Nat} (hi : i + 6 ≤ n) (hI : Inv σ τ) (kk : ∀ σ' τ', Inv σ' τ' → Sl X κ 1536 (LL X κ i) [] σ' τ') : Sl X κ 1019 (LL X κ i) [] σ τ := by
  obtain ⟨r, σ1, hA, r1, τ1, hB, e1, hI1⟩ := t_bestStep hI
  rw [e1] at hB
  refine l_a1 hS dL_law_1019 ?_
  refine l_callA hS (As := []) (rst := []) (c_Ai_bestStep rfl  σ) hA miX11_bestStep mlL_134 rfl (Nat.le_of_ble_eq_true rfl) (Nat.le_of_ble_eq_true rfl) (Nat.le_of_ble_eq_true rfl) rfl dL_law_1020 ?_
  refine l_a2 hS dL_law_1023 ?_
  refine l_callB hS (As := []) (rst := [iv r]) (c_Md_bestStep rfl  τ) hB miX12_bestStep mlL_137 rfl (Nat.le_of_ble_eq_true rfl) (Nat.le_of_ble_eq_true rfl) (Nat.le_of_ble_eq_true rfl) rfl dL_law_1024 ?_
  exact l_eqI hS (r := r) (st := []) dL_law_1027 (by decide) (kk σ1 τ1 hI1)
theorem l_k30 (hS : StdL X κ ad n xs) (hn : n ≤ 3072) {i : Nat} (hi : i + 6 ≤ n) (hI : Inv σ τ) (kk : ∀ σ' τ', Inv σ' τ' → Sl X κ 1536 (LL X κ i) [] σ' τ') : Sl X κ 1032 (LL X κ i) [] σ τ := by
  obtain ⟨r, σ1, hA, r1, τ1, hB, e1, hI1⟩ := t_bestBase hI
  rw [e1] at hB
  refine l_a1 hS dL_law_1032 ?_
  refine l_callA hS (As := []) (rst := []) (c_Ai_bestBase rfl  σ) hA miX11_bestBase mlL_138 rfl (Nat.le_of_ble_eq_true rfl) (Nat.le_of_ble_eq_true rfl) (Nat.le_of_ble_eq_true rfl) rfl dL_law_1033 ?_
  refine l_a2 hS dL_law_1036 ?_
  refine l_callB hS (As := []) (rst := [iv r]) (c_Md_bestBase rfl  τ) hB miX12_bestBase mlL_141 rfl (Nat.le_of_ble_eq_true rfl) (Nat.le_of_ble_eq_true rfl) (Nat.le_of_ble_eq_true rfl) rfl dL_law_1037 ?_
  exact l_eqI hS (r := r) (st := []) dL_law_1040 (by decide) (kk σ1 τ1 hI1)
theorem l_k31 (hS : StdL X κ ad n xs) (hn : n ≤ 3072) {i : Nat} (hi : i + 6 ≤ n) (hI : Inv σ τ) (kk : ∀ σ' τ', Inv σ' τ' → Sl X κ 1536 (LL X κ i) [] σ' τ') : Sl X κ 1045 (LL X κ i) [] σ τ := by
  obtain ⟨r, σ1, hA, r1, τ1, hB, e1, hI1⟩ := t_tokens hI (RI_x xs (i + 1))
  rw [e1] at hB
  refine l_a1 hS dL_law_1045 ?_
  refine l_arg hS (i := i) (k := 1) rfl (by omega) hn dL_law_1046 dL_law_1047 dL_law_1048 dL_law_1049 dL_law_1050 ?_
  refine l_callA hS (As := [iv (sx xs (i + 1))]) (rst := []) (c_Ai_tokens rfl (sx xs (i + 1)) σ) hA miX11_tokens mlL_142 rfl (Nat.le_of_ble_eq_true rfl) (Nat.le_of_ble_eq_true rfl) (Nat.le_of_ble_eq_true rfl) rfl dL_law_1051 ?_
  refine l_a2 hS dL_law_1054 ?_
  refine l_arg hS (i := i) (k := 1) rfl (by omega) hn dL_law_1055 dL_law_1056 dL_law_1057 dL_law_1058 dL_law_1059 ?_
  refine l_callB hS (As := [iv (sx xs (i + 1))]) (rst := [iv r]) (c_Md_tokens rfl (sx xs (i + 1)) τ) hB miX12_tokens mlL_145 rfl (Nat.le_of_ble_eq_true rfl) (Nat.le_of_ble_eq_true rfl) (Nat.le_of_ble_eq_true rfl) rfl dL_law_1060 ?_
  exact l_eqI hS (r := r) (st := []) dL_law_1063 (by decide) (kk σ1 τ1 hI1)
theorem l_k32 (hS : StdL X κ ad n xs) (hn : n ≤ 3072) {i : Nat} (hi : i + 6 ≤ n) (hI : Inv σ τ) (kk : ∀ σ' τ', Inv σ' τ' → Sl X κ 1536 (LL X κ i) [] σ' τ') : Sl X κ 1068 (LL X κ i) [] σ τ := by
  obtain ⟨r, σ1, hA, r1, τ1, hB, e1, hI1⟩ := t_tokenAt hI (RI_x xs (i + 1)) (RI_x xs (i + 2))
  rw [e1] at hB
  refine l_a1 hS dL_law_1068 ?_
  refine l_arg hS (i := i) (k := 1) rfl (by omega) hn dL_law_1069 dL_law_1070 dL_law_1071 dL_law_1072 dL_law_1073 ?_
  refine l_arg hS (i := i) (k := 2) rfl (by omega) hn dL_law_1074 dL_law_1075 dL_law_1076 dL_law_1077 dL_law_1078 ?_
  refine l_callA hS (As := [iv (sx xs (i + 1)), iv (sx xs (i + 2))]) (rst := []) (c_Ai_tokenAt rfl (sx xs (i + 1)) (sx xs (i + 2)) σ) hA miX11_tokenAt mlL_146 rfl (Nat.le_of_ble_eq_true rfl) (Nat.le_of_ble_eq_true rfl) (Nat.le_of_ble_eq_true rfl) rfl dL_law_1079 ?_
  refine l_a2 hS dL_law_1082 ?_
  refine l_arg hS (i := i) (k := 1) rfl (by omega) hn dL_law_1083 dL_law_1084 dL_law_1085 dL_law_1086 dL_law_1087 ?_
  refine l_arg hS (i := i) (k := 2) rfl (by omega) hn dL_law_1088 dL_law_1089 dL_law_1090 dL_law_1091 dL_law_1092 ?_
  refine l_callB hS (As := [iv (sx xs (i + 1)), iv (sx xs (i + 2))]) (rst := [iv r]) (c_Md_tokenAt rfl (sx xs (i + 1)) (sx xs (i + 2)) τ) hB miX12_tokenAt mlL_149 rfl (Nat.le_of_ble_eq_true rfl) (Nat.le_of_ble_eq_true rfl) (Nat.le_of_ble_eq_true rfl) rfl dL_law_1093 ?_
  exact l_eqI hS (r := r) (st := []) dL_law_1096 (by decide) (kk σ1 τ1 hI1)
theorem l_k33 (hS : StdL X κ ad n xs) (hn : n ≤ 3072) {i : Nat} (hi : i + 6 ≤ n) (hI : Inv σ τ) (kk : ∀ σ' τ', Inv σ' τ' → Sl X κ 1536 (LL X κ i) [] σ' τ') : Sl X κ 1101 (LL X κ i) [] σ τ := by
  obtain ⟨r, σ1, hA, r1, τ1, hB, e1, hI1⟩ := t_tokenLength hI (RI_x xs (i + 1)) (RI_x xs (i + 2))
  rw [e1] at hB
  refine l_a1 hS dL_law_1101 ?_
  refine l_arg hS (i := i) (k := 1) rfl (by omega) hn dL_law_1102 dL_law_1103 dL_law_1104 dL_law_1105 dL_law_1106 ?_
  refine l_arg hS (i := i) (k := 2) rfl (by omega) hn dL_law_1107 dL_law_1108 dL_law_1109 dL_law_1110 dL_law_1111 ?_
  refine l_callA hS (As := [iv (sx xs (i + 1)), iv (sx xs (i + 2))]) (rst := []) (c_Ai_tokenLength rfl (sx xs (i + 1)) (sx xs (i + 2)) σ) hA miX11_tokenLength mlL_150 rfl (Nat.le_of_ble_eq_true rfl) (Nat.le_of_ble_eq_true rfl) (Nat.le_of_ble_eq_true rfl) rfl dL_law_1112 ?_
  refine l_a2 hS dL_law_1115 ?_
  refine l_arg hS (i := i) (k := 1) rfl (by omega) hn dL_law_1116 dL_law_1117 dL_law_1118 dL_law_1119 dL_law_1120 ?_
  refine l_arg hS (i := i) (k := 2) rfl (by omega) hn dL_law_1121 dL_law_1122 dL_law_1123 dL_law_1124 dL_law_1125 ?_
  refine l_callB hS (As := [iv (sx xs (i + 1)), iv (sx xs (i + 2))]) (rst := [iv r]) (c_Md_tokenLength rfl (sx xs (i + 1)) (sx xs (i + 2)) τ) hB miX12_tokenLength mlL_153 rfl (Nat.le_of_ble_eq_true rfl) (Nat.le_of_ble_eq_true rfl) (Nat.le_of_ble_eq_true rfl) rfl dL_law_1126 ?_
  exact l_eqI hS (r := r) (st := []) dL_law_1129 (by decide) (kk σ1 τ1 hI1)
theorem l_k34 (hS : StdL X κ ad n xs) (hn : n ≤ 3072) {i : Nat} (hi : i + 6 ≤ n) (hI : Inv σ τ) (kk : ∀ σ' τ', Inv σ' τ' → Sl X κ 1536 (LL X κ i) [] σ' τ') : Sl X κ 1134 (LL X κ i) [] σ τ := by
  obtain ⟨r, σ1, hA, r1, τ1, hB, e1, hI1⟩ := t_tokenKind hI (RI_x xs (i + 1)) (RI_x xs (i + 2))
  rw [e1] at hB
  refine l_a1 hS dL_law_1134 ?_
  refine l_arg hS (i := i) (k := 1) rfl (by omega) hn dL_law_1135 dL_law_1136 dL_law_1137 dL_law_1138 dL_law_1139 ?_
  refine l_arg hS (i := i) (k := 2) rfl (by omega) hn dL_law_1140 dL_law_1141 dL_law_1142 dL_law_1143 dL_law_1144 ?_
  refine l_callA hS (As := [iv (sx xs (i + 1)), iv (sx xs (i + 2))]) (rst := []) (c_Ai_tokenKind rfl (sx xs (i + 1)) (sx xs (i + 2)) σ) hA miX11_tokenKind mlL_154 rfl (Nat.le_of_ble_eq_true rfl) (Nat.le_of_ble_eq_true rfl) (Nat.le_of_ble_eq_true rfl) rfl dL_law_1145 ?_
  refine l_a2 hS dL_law_1148 ?_
  refine l_arg hS (i := i) (k := 1) rfl (by omega) hn dL_law_1149 dL_law_1150 dL_law_1151 dL_law_1152 dL_law_1153 ?_
  refine l_arg hS (i := i) (k := 2) rfl (by omega) hn dL_law_1154 dL_law_1155 dL_law_1156 dL_law_1157 dL_law_1158 ?_
  refine l_callB hS (As := [iv (sx xs (i + 1)), iv (sx xs (i + 2))]) (rst := [iv r]) (c_Md_tokenKind rfl (sx xs (i + 1)) (sx xs (i + 2)) τ) hB miX12_tokenKind mlL_157 rfl (Nat.le_of_ble_eq_true rfl) (Nat.le_of_ble_eq_true rfl) (Nat.le_of_ble_eq_true rfl) rfl dL_law_1159 ?_
  exact l_eqI hS (r := r) (st := []) dL_law_1162 (by decide) (kk σ1 τ1 hI1)
theorem l_k35 (hS : StdL X κ ad n xs) (hn : n ≤ 3072) {i : Nat} (hi : i + 6 ≤ n) (hI : Inv σ τ) (kk : ∀ σ' τ', Inv σ' τ' → Sl X κ 1536 (LL X κ i) [] σ' τ') : Sl X κ 1167 (LL X κ i) [] σ τ := by
  obtain ⟨r, σ1, hA, r1, τ1, hB, e1, hI1⟩ := t_openedBy hI (RI_x xs (i + 1)) (RI_x xs (i + 2))
  rw [e1] at hB
  refine l_a1 hS dL_law_1167 ?_
  refine l_arg hS (i := i) (k := 1) rfl (by omega) hn dL_law_1168 dL_law_1169 dL_law_1170 dL_law_1171 dL_law_1172 ?_
  refine l_arg hS (i := i) (k := 2) rfl (by omega) hn dL_law_1173 dL_law_1174 dL_law_1175 dL_law_1176 dL_law_1177 ?_
  refine l_callA hS (As := [iv (sx xs (i + 1)), iv (sx xs (i + 2))]) (rst := []) (c_Ai_openedBy rfl (sx xs (i + 1)) (sx xs (i + 2)) σ) hA miX11_openedBy mlL_158 rfl (Nat.le_of_ble_eq_true rfl) (Nat.le_of_ble_eq_true rfl) (Nat.le_of_ble_eq_true rfl) rfl dL_law_1178 ?_
  refine l_a2 hS dL_law_1181 ?_
  refine l_arg hS (i := i) (k := 1) rfl (by omega) hn dL_law_1182 dL_law_1183 dL_law_1184 dL_law_1185 dL_law_1186 ?_
  refine l_arg hS (i := i) (k := 2) rfl (by omega) hn dL_law_1187 dL_law_1188 dL_law_1189 dL_law_1190 dL_law_1191 ?_
  refine l_callB hS (As := [iv (sx xs (i + 1)), iv (sx xs (i + 2))]) (rst := [iv r]) (c_Md_openedBy rfl (sx xs (i + 1)) (sx xs (i + 2)) τ) hB miX12_openedBy mlL_161 rfl (Nat.le_of_ble_eq_true rfl) (Nat.le_of_ble_eq_true rfl) (Nat.le_of_ble_eq_true rfl) rfl dL_law_1192 ?_
  exact l_eqI hS (r := r) (st := []) dL_law_1195 (by decide) (kk σ1 τ1 hI1)
theorem l_k36 (hS : StdL X κ ad n xs) (hn : n ≤ 3072) {i : Nat} (hi : i + 6 ≤ n) (hI : Inv σ τ) (kk : ∀ σ' τ', Inv σ' τ' → Sl X κ 1536 (LL X κ i) [] σ' τ') : Sl X κ 1200 (LL X κ i) [] σ τ := by
  obtain ⟨r, σ1, hA, r1, τ1, hB, e1, hI1⟩ := t_closedBy hI (RI_x xs (i + 1)) (RI_x xs (i + 2))
  rw [e1] at hB
  refine l_a1 hS dL_law_1200 ?_
  refine l_arg hS (i := i) (k := 1) rfl (by omega) hn dL_law_1201 dL_law_1202 dL_law_1203 dL_law_1204 dL_law_1205 ?_
  refine l_arg hS (i := i) (k := 2) rfl (by omega) hn dL_law_1206 dL_law_1207 dL_law_1208 dL_law_1209 dL_law_1210 ?_
  refine l_callA hS (As := [iv (sx xs (i + 1)), iv (sx xs (i + 2))]) (rst := []) (c_Ai_closedBy rfl (sx xs (i + 1)) (sx xs (i + 2)) σ) hA miX11_closedBy mlL_162 rfl (Nat.le_of_ble_eq_true rfl) (Nat.le_of_ble_eq_true rfl) (Nat.le_of_ble_eq_true rfl) rfl dL_law_1211 ?_
  refine l_a2 hS dL_law_1214 ?_
  refine l_arg hS (i := i) (k := 1) rfl (by omega) hn dL_law_1215 dL_law_1216 dL_law_1217 dL_law_1218 dL_law_1219 ?_
  refine l_arg hS (i := i) (k := 2) rfl (by omega) hn dL_law_1220 dL_law_1221 dL_law_1222 dL_law_1223 dL_law_1224 ?_
  refine l_callB hS (As := [iv (sx xs (i + 1)), iv (sx xs (i + 2))]) (rst := [iv r]) (c_Md_closedBy rfl (sx xs (i + 1)) (sx xs (i + 2)) τ) hB miX12_closedBy mlL_165 rfl (Nat.le_of_ble_eq_true rfl) (Nat.le_of_ble_eq_true rfl) (Nat.le_of_ble_eq_true rfl) rfl dL_law_1225 ?_
  exact l_eqI hS (r := r) (st := []) dL_law_1228 (by decide) (kk σ1 τ1 hI1)
theorem l_k37 (hS : StdL X κ ad n xs) (hn : n ≤ 3072) {i : Nat} (hi : i + 6 ≤ n) (hI : Inv σ τ) (kk : ∀ σ' τ', Inv σ' τ' → Sl X κ 1536 (LL X κ i) [] σ' τ') : Sl X κ 1233 (LL X κ i) [] σ τ := by
  obtain ⟨r, σ1, hA, r1, τ1, hB, e1, hI1⟩ := t_depth hI (RI_x xs (i + 1))
  rw [e1] at hB
  refine l_a1 hS dL_law_1233 ?_
  refine l_arg hS (i := i) (k := 1) rfl (by omega) hn dL_law_1234 dL_law_1235 dL_law_1236 dL_law_1237 dL_law_1238 ?_
  refine l_callA hS (As := [iv (sx xs (i + 1))]) (rst := []) (c_Ai_depth rfl (sx xs (i + 1)) σ) hA miX11_depth mlL_166 rfl (Nat.le_of_ble_eq_true rfl) (Nat.le_of_ble_eq_true rfl) (Nat.le_of_ble_eq_true rfl) rfl dL_law_1239 ?_
  refine l_a2 hS dL_law_1242 ?_
  refine l_arg hS (i := i) (k := 1) rfl (by omega) hn dL_law_1243 dL_law_1244 dL_law_1245 dL_law_1246 dL_law_1247 ?_
  refine l_callB hS (As := [iv (sx xs (i + 1))]) (rst := [iv r]) (c_Md_depth rfl (sx xs (i + 1)) τ) hB miX12_depth mlL_169 rfl (Nat.le_of_ble_eq_true rfl) (Nat.le_of_ble_eq_true rfl) (Nat.le_of_ble_eq_true rfl) rfl dL_law_1248 ?_
  exact l_eqI hS (r := r) (st := []) dL_law_1251 (by decide) (kk σ1 τ1 hI1)
theorem l_k38 (hS : StdL X κ ad n xs) (hn : n ≤ 3072) {i : Nat} (hi : i + 6 ≤ n) (hI : Inv σ τ) (kk : ∀ σ' τ', Inv σ' τ' → Sl X κ 1536 (LL X κ i) [] σ' τ') : Sl X κ 1256 (LL X κ i) [] σ τ := by
  obtain ⟨r, σ1, hA, r1, τ1, hB, e1, hI1⟩ := t_blockRule hI (RI_x xs (i + 1)) (RI_x xs (i + 2))
  rw [e1] at hB
  refine l_a1 hS dL_law_1256 ?_
  refine l_arg hS (i := i) (k := 1) rfl (by omega) hn dL_law_1257 dL_law_1258 dL_law_1259 dL_law_1260 dL_law_1261 ?_
  refine l_arg hS (i := i) (k := 2) rfl (by omega) hn dL_law_1262 dL_law_1263 dL_law_1264 dL_law_1265 dL_law_1266 ?_
  refine l_callA hS (As := [iv (sx xs (i + 1)), iv (sx xs (i + 2))]) (rst := []) (c_Ai_blockRule rfl (sx xs (i + 1)) (sx xs (i + 2)) σ) hA miX11_blockRule mlL_170 rfl (Nat.le_of_ble_eq_true rfl) (Nat.le_of_ble_eq_true rfl) (Nat.le_of_ble_eq_true rfl) rfl dL_law_1267 ?_
  refine l_a2 hS dL_law_1270 ?_
  refine l_arg hS (i := i) (k := 1) rfl (by omega) hn dL_law_1271 dL_law_1272 dL_law_1273 dL_law_1274 dL_law_1275 ?_
  refine l_arg hS (i := i) (k := 2) rfl (by omega) hn dL_law_1276 dL_law_1277 dL_law_1278 dL_law_1279 dL_law_1280 ?_
  refine l_callB hS (As := [iv (sx xs (i + 1)), iv (sx xs (i + 2))]) (rst := [iv r]) (c_Md_blockRule rfl (sx xs (i + 1)) (sx xs (i + 2)) τ) hB miX12_blockRule mlL_173 rfl (Nat.le_of_ble_eq_true rfl) (Nat.le_of_ble_eq_true rfl) (Nat.le_of_ble_eq_true rfl) rfl dL_law_1281 ?_
  exact l_eqI hS (r := r) (st := []) dL_law_1284 (by decide) (kk σ1 τ1 hI1)
theorem l_k39 (hS : StdL X κ ad n xs) (hn : n ≤ 3072) {i : Nat} (hi : i + 6 ≤ n) (hI : Inv σ τ) (kk : ∀ σ' τ', Inv σ' τ' → Sl X κ 1536 (LL X κ i) [] σ' τ') : Sl X κ 1289 (LL X κ i) [] σ τ := by
  obtain ⟨r, σ1, hA, r1, τ1, hB, e1, hI1⟩ := t_blockOpening hI (RI_x xs (i + 1)) (RI_x xs (i + 2))
  rw [e1] at hB
  refine l_a1 hS dL_law_1289 ?_
  refine l_arg hS (i := i) (k := 1) rfl (by omega) hn dL_law_1290 dL_law_1291 dL_law_1292 dL_law_1293 dL_law_1294 ?_
  refine l_arg hS (i := i) (k := 2) rfl (by omega) hn dL_law_1295 dL_law_1296 dL_law_1297 dL_law_1298 dL_law_1299 ?_
  refine l_callA hS (As := [iv (sx xs (i + 1)), iv (sx xs (i + 2))]) (rst := []) (c_Ai_blockOpening rfl (sx xs (i + 1)) (sx xs (i + 2)) σ) hA miX11_blockOpening mlL_174 rfl (Nat.le_of_ble_eq_true rfl) (Nat.le_of_ble_eq_true rfl) (Nat.le_of_ble_eq_true rfl) rfl dL_law_1300 ?_
  refine l_a2 hS dL_law_1303 ?_
  refine l_arg hS (i := i) (k := 1) rfl (by omega) hn dL_law_1304 dL_law_1305 dL_law_1306 dL_law_1307 dL_law_1308 ?_
  refine l_arg hS (i := i) (k := 2) rfl (by omega) hn dL_law_1309 dL_law_1310 dL_law_1311 dL_law_1312 dL_law_1313 ?_
  refine l_callB hS (As := [iv (sx xs (i + 1)), iv (sx xs (i + 2))]) (rst := [iv r]) (c_Md_blockOpening rfl (sx xs (i + 1)) (sx xs (i + 2)) τ) hB miX12_blockOpening mlL_177 rfl (Nat.le_of_ble_eq_true rfl) (Nat.le_of_ble_eq_true rfl) (Nat.le_of_ble_eq_true rfl) rfl dL_law_1314 ?_
  exact l_eqI hS (r := r) (st := []) dL_law_1317 (by decide) (kk σ1 τ1 hI1)
theorem l_k40 (hS : StdL X κ ad n xs) (hn : n ≤ 3072) {i : Nat} (hi : i + 6 ≤ n) (hI : Inv σ τ) (kk : ∀ σ' τ', Inv σ' τ' → Sl X κ 1536 (LL X κ i) [] σ' τ') : Sl X κ 1322 (LL X κ i) [] σ τ := by
  obtain ⟨r, σ1, hA, r1, τ1, hB, e1, hI1⟩ := t_contentColumn hI (RI_x xs (i + 1)) (RI_x xs (i + 2))
  rw [e1] at hB
  refine l_a1 hS dL_law_1322 ?_
  refine l_arg hS (i := i) (k := 1) rfl (by omega) hn dL_law_1323 dL_law_1324 dL_law_1325 dL_law_1326 dL_law_1327 ?_
  refine l_arg hS (i := i) (k := 2) rfl (by omega) hn dL_law_1328 dL_law_1329 dL_law_1330 dL_law_1331 dL_law_1332 ?_
  refine l_callA hS (As := [iv (sx xs (i + 1)), iv (sx xs (i + 2))]) (rst := []) (c_Ai_contentColumn rfl (sx xs (i + 1)) (sx xs (i + 2)) σ) hA miX11_contentColumn mlL_178 rfl (Nat.le_of_ble_eq_true rfl) (Nat.le_of_ble_eq_true rfl) (Nat.le_of_ble_eq_true rfl) rfl dL_law_1333 ?_
  refine l_a2 hS dL_law_1336 ?_
  refine l_arg hS (i := i) (k := 1) rfl (by omega) hn dL_law_1337 dL_law_1338 dL_law_1339 dL_law_1340 dL_law_1341 ?_
  refine l_arg hS (i := i) (k := 2) rfl (by omega) hn dL_law_1342 dL_law_1343 dL_law_1344 dL_law_1345 dL_law_1346 ?_
  refine l_callB hS (As := [iv (sx xs (i + 1)), iv (sx xs (i + 2))]) (rst := [iv r]) (c_Md_contentColumn rfl (sx xs (i + 1)) (sx xs (i + 2)) τ) hB miX12_contentColumn mlL_181 rfl (Nat.le_of_ble_eq_true rfl) (Nat.le_of_ble_eq_true rfl) (Nat.le_of_ble_eq_true rfl) rfl dL_law_1347 ?_
  exact l_eqI hS (r := r) (st := []) dL_law_1350 (by decide) (kk σ1 τ1 hI1)
theorem l_k41 (hS : StdL X κ ad n xs) (hn : n ≤ 3072) {i : Nat} (hi : i + 6 ≤ n) (hI : Inv σ τ) (kk : ∀ σ' τ', Inv σ' τ' → Sl X κ 1536 (LL X κ i) [] σ' τ') : Sl X κ 1355 (LL X κ i) [] σ τ := by
  obtain ⟨r, σ1, hA, r1, τ1, hB, e1, hI1⟩ := t_strays hI
  rw [e1] at hB
  refine l_a1 hS dL_law_1355 ?_
  refine l_callA hS (As := []) (rst := []) (c_Ai_strays rfl  σ) hA miX11_strays mlL_182 rfl (Nat.le_of_ble_eq_true rfl) (Nat.le_of_ble_eq_true rfl) (Nat.le_of_ble_eq_true rfl) rfl dL_law_1356 ?_
  refine l_a2 hS dL_law_1359 ?_
  refine l_callB hS (As := []) (rst := [iv r]) (c_Md_strays rfl  τ) hB miX12_strays mlL_185 rfl (Nat.le_of_ble_eq_true rfl) (Nat.le_of_ble_eq_true rfl) (Nat.le_of_ble_eq_true rfl) rfl dL_law_1360 ?_
  exact l_eqI hS (r := r) (st := []) dL_law_1363 (by decide) (kk σ1 τ1 hI1)
theorem l_k42 (hS : StdL X κ ad n xs) (hn : n ≤ 3072) {i : Nat} (hi : i + 6 ≤ n) (hI : Inv σ τ) (kk : ∀ σ' τ', Inv σ' τ' → Sl X κ 1536 (LL X κ i) [] σ' τ') : Sl X κ 1368 (LL X κ i) [] σ τ := by
  obtain ⟨r, σ1, hA, r1, τ1, hB, e1, hI1⟩ := t_lost hI
  rw [e1] at hB
  refine l_a1 hS dL_law_1368 ?_
  refine l_callA hS (As := []) (rst := []) (c_Ai_lost rfl  σ) hA miX11_lost mlL_186 rfl (Nat.le_of_ble_eq_true rfl) (Nat.le_of_ble_eq_true rfl) (Nat.le_of_ble_eq_true rfl) rfl dL_law_1369 ?_
  refine l_a2 hS dL_law_1372 ?_
  refine l_callB hS (As := []) (rst := [iv r]) (c_Md_lost rfl  τ) hB miX12_lost mlL_189 rfl (Nat.le_of_ble_eq_true rfl) (Nat.le_of_ble_eq_true rfl) (Nat.le_of_ble_eq_true rfl) rfl dL_law_1373 ?_
  exact l_eqI hS (r := r) (st := []) dL_law_1376 (by decide) (kk σ1 τ1 hI1)
theorem l_k43 (hS : StdL X κ ad n xs) (hn : n ≤ 3072) {i : Nat} (hi : i + 6 ≤ n) (hI : Inv σ τ) (kk : ∀ σ' τ', Inv σ' τ' → Sl X κ 1536 (LL X κ i) [] σ' τ') : Sl X κ 1381 (LL X κ i) [] σ τ := by
  obtain ⟨r, σ1, hA, r1, τ1, hB, e1, hI1⟩ := t_vocabulary hI
  rw [e1] at hB
  refine l_a1 hS dL_law_1381 ?_
  refine l_callA hS (As := []) (rst := []) (c_Ai_vocabulary rfl  σ) hA miX11_vocabulary mlL_190 rfl (Nat.le_of_ble_eq_true rfl) (Nat.le_of_ble_eq_true rfl) (Nat.le_of_ble_eq_true rfl) rfl dL_law_1382 ?_
  refine l_a2 hS dL_law_1385 ?_
  refine l_callB hS (As := []) (rst := [iv r]) (c_Md_vocabulary rfl  τ) hB miX12_vocabulary mlL_193 rfl (Nat.le_of_ble_eq_true rfl) (Nat.le_of_ble_eq_true rfl) (Nat.le_of_ble_eq_true rfl) rfl dL_law_1386 ?_
  exact l_eqI hS (r := r) (st := []) dL_law_1389 (by decide) (kk σ1 τ1 hI1)
theorem l_k44 (hS : StdL X κ ad n xs) (hn : n ≤ 3072) {i : Nat} (hi : i + 6 ≤ n) (hI : Inv σ τ) (kk : ∀ σ' τ', Inv σ' τ' → Sl X κ 1536 (LL X κ i) [] σ' τ') : Sl X κ 1394 (LL X κ i) [] σ τ := by
  obtain ⟨r, σ1, hA, r1, τ1, hB, e1, hI1⟩ := t_commonestCount hI
  rw [e1] at hB
  refine l_a1 hS dL_law_1394 ?_
  refine l_callA hS (As := []) (rst := []) (c_Ai_commonestCount rfl  σ) hA miX11_commonestCount mlL_194 rfl (Nat.le_of_ble_eq_true rfl) (Nat.le_of_ble_eq_true rfl) (Nat.le_of_ble_eq_true rfl) rfl dL_law_1395 ?_
  refine l_a2 hS dL_law_1398 ?_
  refine l_callB hS (As := []) (rst := [iv r]) (c_Md_commonestCount rfl  τ) hB miX12_commonestCount mlL_197 rfl (Nat.le_of_ble_eq_true rfl) (Nat.le_of_ble_eq_true rfl) (Nat.le_of_ble_eq_true rfl) rfl dL_law_1399 ?_
  exact l_eqI hS (r := r) (st := []) dL_law_1402 (by decide) (kk σ1 τ1 hI1)
theorem l_k45 (hS : StdL X κ ad n xs) (hn : n ≤ 3072) {i : Nat} (hi : i + 6 ≤ n) (hI : Inv σ τ) (kk : ∀ σ' τ', Inv σ' τ' → Sl X κ 1536 (LL X κ i) [] σ' τ') : Sl X κ 1407 (LL X κ i) [] σ τ := by
  obtain ⟨r, σ1, hA, r1, τ1, hB, e1, hI1⟩ := t_commonestByte hI (RI_x xs (i + 1))
  rw [e1] at hB
  refine l_a1 hS dL_law_1407 ?_
  refine l_arg hS (i := i) (k := 1) rfl (by omega) hn dL_law_1408 dL_law_1409 dL_law_1410 dL_law_1411 dL_law_1412 ?_
  refine l_callA hS (As := [iv (sx xs (i + 1))]) (rst := []) (c_Ai_commonestByte rfl (sx xs (i + 1)) σ) hA miX11_commonestByte mlL_198 rfl (Nat.le_of_ble_eq_true rfl) (Nat.le_of_ble_eq_true rfl) (Nat.le_of_ble_eq_true rfl) rfl dL_law_1413 ?_
  refine l_a2 hS dL_law_1416 ?_
  refine l_arg hS (i := i) (k := 1) rfl (by omega) hn dL_law_1417 dL_law_1418 dL_law_1419 dL_law_1420 dL_law_1421 ?_
  refine l_callB hS (As := [iv (sx xs (i + 1))]) (rst := [iv r]) (c_Md_commonestByte rfl (sx xs (i + 1)) τ) hB miX12_commonestByte mlL_201 rfl (Nat.le_of_ble_eq_true rfl) (Nat.le_of_ble_eq_true rfl) (Nat.le_of_ble_eq_true rfl) rfl dL_law_1422 ?_
  exact l_eqI hS (r := r) (st := []) dL_law_1425 (by decide) (kk σ1 τ1 hI1)
theorem l_k46 (hS : StdL X κ ad n xs) (hn : n ≤ 3072) {i : Nat} (hi : i + 6 ≤ n) (hI : Inv σ τ) (kk : ∀ σ' τ', Inv σ' τ' → Sl X κ 1536 (LL X κ i) [] σ' τ') : Sl X κ 1430 (LL X κ i) [] σ τ := by
  obtain ⟨r, σ1, hA, r1, τ1, hB, e1, hI1⟩ := t_undo hI
  rw [e1] at hB
  refine l_a1 hS dL_law_1430 ?_
  refine l_callA hS (As := []) (rst := []) (c_Ai_undo rfl  σ) hA miX11_undo mlL_202 rfl (Nat.le_of_ble_eq_true rfl) (Nat.le_of_ble_eq_true rfl) (Nat.le_of_ble_eq_true rfl) rfl dL_law_1431 ?_
  refine l_a2 hS dL_law_1434 ?_
  refine l_callB hS (As := []) (rst := [iv r]) (c_Md_undo rfl  τ) hB miX12_undo mlL_205 rfl (Nat.le_of_ble_eq_true rfl) (Nat.le_of_ble_eq_true rfl) (Nat.le_of_ble_eq_true rfl) rfl dL_law_1435 ?_
  exact l_eqI hS (r := r) (st := []) dL_law_1438 (by decide) (kk σ1 τ1 hI1)
theorem l_k47 (hS : StdL X κ ad n xs) (hn : n ≤ 3072) {i : Nat} (hi : i + 6 ≤ n) (hI : Inv σ τ) (kk : ∀ σ' τ', Inv σ' τ' → Sl X κ 1536 (LL X κ i) [] σ' τ') : Sl X κ 1443 (LL X κ i) [] σ τ := by
  obtain ⟨r, σ1, hA, r1, τ1, hB, e1, hI1⟩ := t_keep hI (RI_x xs (i + 1))
  rw [e1] at hB
  refine l_a1 hS dL_law_1443 ?_
  refine l_arg hS (i := i) (k := 1) rfl (by omega) hn dL_law_1444 dL_law_1445 dL_law_1446 dL_law_1447 dL_law_1448 ?_
  refine l_callA hS (As := [iv (sx xs (i + 1))]) (rst := []) (c_Ai_keep rfl (sx xs (i + 1)) σ) hA miX11_keep mlL_206 rfl (Nat.le_of_ble_eq_true rfl) (Nat.le_of_ble_eq_true rfl) (Nat.le_of_ble_eq_true rfl) rfl dL_law_1449 ?_
  refine l_a2 hS dL_law_1452 ?_
  refine l_arg hS (i := i) (k := 1) rfl (by omega) hn dL_law_1453 dL_law_1454 dL_law_1455 dL_law_1456 dL_law_1457 ?_
  refine l_callB hS (As := [iv (sx xs (i + 1))]) (rst := [iv r]) (c_Md_keep rfl (sx xs (i + 1)) τ) hB miX12_keep mlL_209 rfl (Nat.le_of_ble_eq_true rfl) (Nat.le_of_ble_eq_true rfl) (Nat.le_of_ble_eq_true rfl) rfl dL_law_1458 ?_
  exact l_eqI hS (r := r) (st := []) dL_law_1461 (by decide) (kk σ1 τ1 hI1)
theorem l_k48 (hS : StdL X κ ad n xs) (hn : n ≤ 3072) {i : Nat} (hi : i + 6 ≤ n) (hI : Inv σ τ) (kk : ∀ σ' τ', Inv σ' τ' → Sl X κ 1536 (LL X κ i) [] σ' τ') : Sl X κ 1466 (LL X κ i) [] σ τ := by
  obtain ⟨r, σ1, hA, r1, τ1, hB, e1, hI1⟩ := t_back hI (RI_x xs (i + 1))
  rw [e1] at hB
  refine l_a1 hS dL_law_1466 ?_
  refine l_arg hS (i := i) (k := 1) rfl (by omega) hn dL_law_1467 dL_law_1468 dL_law_1469 dL_law_1470 dL_law_1471 ?_
  refine l_callA hS (As := [iv (sx xs (i + 1))]) (rst := []) (c_Ai_back rfl (sx xs (i + 1)) σ) hA miX11_back mlL_210 rfl (Nat.le_of_ble_eq_true rfl) (Nat.le_of_ble_eq_true rfl) (Nat.le_of_ble_eq_true rfl) rfl dL_law_1472 ?_
  refine l_a2 hS dL_law_1475 ?_
  refine l_arg hS (i := i) (k := 1) rfl (by omega) hn dL_law_1476 dL_law_1477 dL_law_1478 dL_law_1479 dL_law_1480 ?_
  refine l_callB hS (As := [iv (sx xs (i + 1))]) (rst := [iv r]) (c_Md_back rfl (sx xs (i + 1)) τ) hB miX12_back mlL_213 rfl (Nat.le_of_ble_eq_true rfl) (Nat.le_of_ble_eq_true rfl) (Nat.le_of_ble_eq_true rfl) rfl dL_law_1481 ?_
  exact l_eqI hS (r := r) (st := []) dL_law_1484 (by decide) (kk σ1 τ1 hI1)
theorem l_k49 (hS : StdL X κ ad n xs) (hn : n ≤ 3072) {i : Nat} (hi : i + 6 ≤ n) (hI : Inv σ τ) (kk : ∀ σ' τ', Inv σ' τ' → Sl X κ 1536 (LL X κ i) [] σ' τ') : Sl X κ 1489 (LL X κ i) [] σ τ := by
  obtain ⟨r, σ1, hA, r1, τ1, hB, e1, hI1⟩ := t_draw hI (a := sx xs (i + 1)) (RI_x xs (i + 2))
  rw [e1] at hB
  refine l_a1 hS dL_law_1489 ?_
  refine l_arg hS (i := i) (k := 1) rfl (by omega) hn dL_law_1490 dL_law_1491 dL_law_1492 dL_law_1493 dL_law_1494 ?_
  refine l_arg hS (i := i) (k := 2) rfl (by omega) hn dL_law_1495 dL_law_1496 dL_law_1497 dL_law_1498 dL_law_1499 ?_
  refine l_callAs hS (As := [iv (sx xs (i + 1)), iv (sx xs (i + 2))]) (rst := []) (c_Ai_draw rfl (sx xs (i + 1)) (sx xs (i + 2)) σ) hA miX11_draw mlL_214 rfl (Nat.le_of_ble_eq_true rfl) (Nat.le_of_ble_eq_true rfl) (Nat.le_of_ble_eq_true rfl) rfl dL_law_1500 ?_
  refine l_a2 hS dL_law_1503 ?_
  refine l_arg hS (i := i) (k := 1) rfl (by omega) hn dL_law_1504 dL_law_1505 dL_law_1506 dL_law_1507 dL_law_1508 ?_
  refine l_arg hS (i := i) (k := 2) rfl (by omega) hn dL_law_1509 dL_law_1510 dL_law_1511 dL_law_1512 dL_law_1513 ?_
  refine l_callB hS (As := [iv (sx xs (i + 1)), iv (sx xs (i + 2))]) (rst := [iv r]) (c_Md_draw rfl (sx xs (i + 1)) (sx xs (i + 2)) τ) hB miX12_draw mlL_217 rfl (Nat.le_of_ble_eq_true rfl) (Nat.le_of_ble_eq_true rfl) (Nat.le_of_ble_eq_true rfl) rfl dL_law_1514 ?_
  exact l_eqI hS (r := r) (st := []) dL_law_1517 (by decide) (kk σ1 τ1 hI1)
theorem l_k50 (hS : StdL X κ ad n xs) (hn : n ≤ 3072) {i : Nat} (hi : i + 6 ≤ n) (hI : Inv σ τ) (kk : ∀ σ' τ', Inv σ' τ' → Sl X κ 1536 (LL X κ i) [] σ' τ') : Sl X κ 1522 (LL X κ i) [] σ τ := by
  obtain ⟨r, σ1, hA, r1, τ1, hB, e1, hI1⟩ := t_digest hI
  rw [e1] at hB
  refine l_a1 hS dL_law_1522 ?_
  refine l_callA hS (As := []) (rst := []) (c_Ai_digest rfl  σ) hA miX11_digest mlL_218 rfl (Nat.le_of_ble_eq_true rfl) (Nat.le_of_ble_eq_true rfl) (Nat.le_of_ble_eq_true rfl) rfl dL_law_1523 ?_
  refine l_a2 hS dL_law_1526 ?_
  refine l_callB hS (As := []) (rst := [jv r]) (c_Md_digest rfl  τ) hB miX12_digest mlL_222 rfl (Nat.le_of_ble_eq_true rfl) (Nat.le_of_ble_eq_true rfl) (Nat.le_of_ble_eq_true rfl) rfl dL_law_1527 ?_
  exact l_eqJ hS (r := r) (st := []) dL_law_1530 dL_law_1531 (by decide) (kk σ1 τ1 hI1)
end CASES
