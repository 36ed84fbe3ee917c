theorem dX12_splitLine_127 : decode cX12_splitLine 127 = .ok (.iadd, 1) := by decide +kernel
theorem dX12_splitLine_128 : decode cX12_splitLine 128 = .ok (.iaload, 1) := by decide +kernel
theorem dX12_splitLine_129 : decode cX12_splitLine 129 = .ok (.iastore, 1) := by decide +kernel
theorem dX12_splitLine_130 : decode cX12_splitLine 130 = .ok (.iinc 5 1, 3) := by decide +kernel
theorem dX12_splitLine_133 : decode cX12_splitLine 133 = .ok (.goto (-44), 3) := by decide +kernel
theorem dX12_splitLine_136 : decode cX12_splitLine 136 = .ok (.aload_n 0, 1) := by decide +kernel
theorem dX12_splitLine_137 : decode cX12_splitLine 137 = .ok (.getfield 7, 3) := by decide +kernel
theorem dX12_splitLine_140 : decode cX12_splitLine 140 = .ok (.bipush 21, 2) := by decide +kernel
theorem dX12_splitLine_142 : decode cX12_splitLine 142 = .ok (.iload_n 1, 1) := by decide +kernel
theorem dX12_splitLine_143 : decode cX12_splitLine 143 = .ok (.iadd, 1) := by decide +kernel
theorem dX12_splitLine_144 : decode cX12_splitLine 144 = .ok (.iconst 1, 1) := by decide +kernel
theorem dX12_splitLine_145 : decode cX12_splitLine 145 = .ok (.iadd, 1) := by decide +kernel
theorem dX12_splitLine_146 : decode cX12_splitLine 146 = .ok (.iload 4, 2) := by decide +kernel
theorem dX12_splitLine_148 : decode cX12_splitLine 148 = .ok (.iastore, 1) := by decide +kernel
theorem dX12_splitLine_149 : decode cX12_splitLine 149 = .ok (.aload_n 0, 1) := by decide +kernel
theorem dX12_splitLine_150 : decode cX12_splitLine 150 = .ok (.getfield 7, 3) := by decide +kernel
theorem dX12_splitLine_153 : decode cX12_splitLine 153 = .ok (.iconst 1, 1) := by decide +kernel
theorem dX12_splitLine_154 : decode cX12_splitLine 154 = .ok (.iload_n 1, 1) := by decide +kernel
theorem dX12_splitLine_155 : decode cX12_splitLine 155 = .ok (.iadd, 1) := by decide +kernel
theorem dX12_splitLine_156 : decode cX12_splitLine 156 = .ok (.iconst 1, 1) := by decide +kernel
theorem dX12_splitLine_157 : decode cX12_splitLine 157 = .ok (.iadd, 1) := by decide +kernel
theorem dX12_splitLine_158 : decode cX12_splitLine 158 = .ok (.iconst 0, 1) := by decide +kernel
theorem dX12_splitLine_159 : decode cX12_splitLine 159 = .ok (.iastore, 1) := by decide +kernel
theorem dX12_splitLine_160 : decode cX12_splitLine 160 = .ok (.aload_n 0, 1) := by decide +kernel
theorem dX12_splitLine_161 : decode cX12_splitLine 161 = .ok (.getfield 7, 3) := by decide +kernel
theorem dX12_splitLine_164 : decode cX12_splitLine 164 = .ok (.bipush 21, 2) := by decide +kernel
theorem dX12_splitLine_166 : decode cX12_splitLine 166 = .ok (.iload_n 1, 1) := by decide +kernel
theorem dX12_splitLine_167 : decode cX12_splitLine 167 = .ok (.iadd, 1) := by decide +kernel
theorem dX12_splitLine_168 : decode cX12_splitLine 168 = .ok (.iload_n 2, 1) := by decide +kernel
theorem dX12_splitLine_169 : decode cX12_splitLine 169 = .ok (.iastore, 1) := by decide +kernel
theorem dX12_splitLine_170 : decode cX12_splitLine 170 = .ok (.aload_n 0, 1) := by decide +kernel
theorem dX12_splitLine_171 : decode cX12_splitLine 171 = .ok (.iload_n 1, 1) := by decide +kernel
theorem dX12_splitLine_172 : decode cX12_splitLine 172 = .ok (.aload_n 0, 1) := by decide +kernel
theorem dX12_splitLine_173 : decode cX12_splitLine 173 = .ok (.getfield 7, 3) := by decide +kernel
theorem dX12_splitLine_176 : decode cX12_splitLine 176 = .ok (.bipush 21, 2) := by decide +kernel
theorem dX12_splitLine_178 : decode cX12_splitLine 178 = .ok (.iload_n 1, 1) := by decide +kernel
theorem dX12_splitLine_179 : decode cX12_splitLine 179 = .ok (.iadd, 1) := by decide +kernel
theorem dX12_splitLine_180 : decode cX12_splitLine 180 = .ok (.iaload, 1) := by decide +kernel
theorem dX12_splitLine_181 : decode cX12_splitLine 181 = .ok (.iconst 1, 1) := by decide +kernel
theorem dX12_splitLine_182 : decode cX12_splitLine 182 = .ok (.isub, 1) := by decide +kernel
theorem dX12_splitLine_183 : decode cX12_splitLine 183 = .ok (.invokevirtual 83, 3) := by decide +kernel
theorem dX12_splitLine_186 : decode cX12_splitLine 186 = .ok (.bipush 32, 2) := by decide +kernel
theorem dX12_splitLine_188 : decode cX12_splitLine 188 = .ok (.if_icmp .ne 19, 3) := by decide +kernel
theorem dX12_splitLine_191 : decode cX12_splitLine 191 = .ok (.aload_n 0, 1) := by decide +kernel
theorem dX12_splitLine_192 : decode cX12_splitLine 192 = .ok (.getfield 7, 3) := by decide +kernel
theorem dX12_splitLine_195 : decode cX12_splitLine 195 = .ok (.bipush 21, 2) := by decide +kernel
theorem dX12_splitLine_197 : decode cX12_splitLine 197 = .ok (.iload_n 1, 1) := by decide +kernel
theorem dX12_splitLine_198 : decode cX12_splitLine 198 = .ok (.iadd, 1) := by decide +kernel
theorem dX12_splitLine_199 : decode cX12_splitLine 199 = .ok (.dup2, 1) := by decide +kernel
theorem dX12_splitLine_200 : decode cX12_splitLine 200 = .ok (.iaload, 1) := by decide +kernel
theorem dX12_splitLine_201 : decode cX12_splitLine 201 = .ok (.iconst 1, 1) := by decide +kernel
theorem dX12_splitLine_202 : decode cX12_splitLine 202 = .ok (.isub, 1) := by decide +kernel
theorem dX12_splitLine_203 : decode cX12_splitLine 203 = .ok (.iastore, 1) := by decide +kernel
theorem dX12_splitLine_204 : decode cX12_splitLine 204 = .ok (.goto (-34), 3) := by decide +kernel
theorem dX12_splitLine_207 : decode cX12_splitLine 207 = .ok (.aload_n 0, 1) := by decide +kernel
theorem dX12_splitLine_208 : decode cX12_splitLine 208 = .ok (.aload_n 0, 1) := by decide +kernel
theorem dX12_splitLine_209 : decode cX12_splitLine 209 = .ok (.getfield 7, 3) := by decide +kernel
theorem dX12_splitLine_212 : decode cX12_splitLine 212 = .ok (.sipush 977, 3) := by decide +kernel
theorem dX12_splitLine_215 : decode cX12_splitLine 215 = .ok (.iaload, 1) := by decide +kernel
theorem dX12_splitLine_216 : decode cX12_splitLine 216 = .ok (.aload_n 0, 1) := by decide +kernel
theorem dX12_splitLine_217 : decode cX12_splitLine 217 = .ok (.getfield 7, 3) := by decide +kernel
theorem dX12_splitLine_220 : decode cX12_splitLine 220 = .ok (.sipush 978, 3) := by decide +kernel
theorem dX12_splitLine_223 : decode cX12_splitLine 223 = .ok (.iaload, 1) := by decide +kernel
theorem dX12_splitLine_224 : decode cX12_splitLine 224 = .ok (.invokevirtual 222, 3) := by decide +kernel
theorem dX12_splitLine_227 : decode cX12_splitLine 227 = .ok (.aload_n 0, 1) := by decide +kernel
theorem dX12_splitLine_228 : decode cX12_splitLine 228 = .ok (.iload_n 1, 1) := by decide +kernel
theorem dX12_splitLine_229 : decode cX12_splitLine 229 = .ok (.iconst 1, 1) := by decide +kernel
theorem dX12_splitLine_230 : decode cX12_splitLine 230 = .ok (.iadd, 1) := by decide +kernel
theorem dX12_splitLine_231 : decode cX12_splitLine 231 = .ok (.invokevirtual 185, 3) := by decide +kernel
theorem dX12_splitLine_234 : decode cX12_splitLine 234 = .ok (.ifCond .eq 24, 3) := by decide +kernel
theorem dX12_splitLine_237 : decode cX12_splitLine 237 = .ok (.aload_n 0, 1) := by decide +kernel
theorem dX12_splitLine_238 : decode cX12_splitLine 238 = .ok (.iload_n 1, 1) := by decide +kernel
theorem dX12_splitLine_239 : decode cX12_splitLine 239 = .ok (.iconst 1, 1) := by decide +kernel
theorem dX12_splitLine_240 : decode cX12_splitLine 240 = .ok (.iadd, 1) := by decide +kernel
theorem dX12_splitLine_241 : decode cX12_splitLine 241 = .ok (.invokevirtual 188, 3) := by decide +kernel
theorem dX12_splitLine_244 : decode cX12_splitLine 244 = .ok (.aload_n 0, 1) := by decide +kernel
theorem dX12_splitLine_245 : decode cX12_splitLine 245 = .ok (.getfield 7, 3) := by decide +kernel
theorem dX12_splitLine_248 : decode cX12_splitLine 248 = .ok (.iconst 1, 1) := by decide +kernel
theorem dX12_splitLine_249 : decode cX12_splitLine 249 = .ok (.iload_n 1, 1) := by decide +kernel
theorem dX12_splitLine_250 : decode cX12_splitLine 250 = .ok (.iadd, 1) := by decide +kernel
theorem dX12_splitLine_251 : decode cX12_splitLine 251 = .ok (.iconst 1, 1) := by decide +kernel
theorem dX12_splitLine_252 : decode cX12_splitLine 252 = .ok (.iadd, 1) := by decide +kernel
theorem dX12_splitLine_253 : decode cX12_splitLine 253 = .ok (.aload_n 0, 1) := by decide +kernel
theorem dX12_splitLine_254 : decode cX12_splitLine 254 = .ok (.getfield 170, 3) := by decide +kernel
theorem dX12_splitLine_257 : decode cX12_splitLine 257 = .ok (.iastore, 1) := by decide +kernel
theorem dX12_splitLine_258 : decode cX12_splitLine 258 = .ok (.aload_n 0, 1) := by decide +kernel
theorem dX12_splitLine_259 : decode cX12_splitLine 259 = .ok (.getfield 7, 3) := by decide +kernel
theorem dX12_splitLine_262 : decode cX12_splitLine 262 = .ok (.iconst 1, 1) := by decide +kernel
theorem dX12_splitLine_263 : decode cX12_splitLine 263 = .ok (.iload_n 1, 1) := by decide +kernel
theorem dX12_splitLine_264 : decode cX12_splitLine 264 = .ok (.iadd, 1) := by decide +kernel
theorem dX12_splitLine_265 : decode cX12_splitLine 265 = .ok (.iconst 1, 1) := by decide +kernel
theorem dX12_splitLine_266 : decode cX12_splitLine 266 = .ok (.iadd, 1) := by decide +kernel
theorem dX12_splitLine_267 : decode cX12_splitLine 267 = .ok (.iaload, 1) := by decide +kernel
theorem dX12_splitLine_268 : decode cX12_splitLine 268 = .ok (.ireturn, 1) := by decide +kernel
theorem dX12_joinLines_0 : decode cX12_joinLines 0 = .ok (.aload_n 0, 1) := by decide +kernel
theorem dX12_joinLines_1 : decode cX12_joinLines 1 = .ok (.iload_n 1, 1) := by decide +kernel
theorem dX12_joinLines_2 : decode cX12_joinLines 2 = .ok (.invokevirtual 216, 3) := by decide +kernel
theorem dX12_joinLines_5 : decode cX12_joinLines 5 = .ok (.ifCond .eq 13, 3) := by decide +kernel
theorem dX12_joinLines_8 : decode cX12_joinLines 8 = .ok (.aload_n 0, 1) := by decide +kernel
theorem dX12_joinLines_9 : decode cX12_joinLines 9 = .ok (.iload_n 1, 1) := by decide +kernel
theorem dX12_joinLines_10 : decode cX12_joinLines 10 = .ok (.iconst 1, 1) := by decide +kernel
theorem dX12_joinLines_11 : decode cX12_joinLines 11 = .ok (.iadd, 1) := by decide +kernel
theorem dX12_joinLines_12 : decode cX12_joinLines 12 = .ok (.invokevirtual 216, 3) := by decide +kernel
theorem dX12_joinLines_15 : decode cX12_joinLines 15 = .ok (.ifCond .ne 5, 3) := by decide +kernel
theorem dX12_joinLines_18 : decode cX12_joinLines 18 = .ok (.iconst (-1), 1) := by decide +kernel
theorem dX12_joinLines_19 : decode cX12_joinLines 19 = .ok (.ireturn, 1) := by decide +kernel
theorem dX12_joinLines_20 : decode cX12_joinLines 20 = .ok (.aload_n 0, 1) := by decide +kernel
theorem dX12_joinLines_21 : decode cX12_joinLines 21 = .ok (.getfield 7, 3) := by decide +kernel
theorem dX12_joinLines_24 : decode cX12_joinLines 24 = .ok (.bipush 21, 2) := by decide +kernel
theorem dX12_joinLines_26 : decode cX12_joinLines 26 = .ok (.iload_n 1, 1) := by decide +kernel
theorem dX12_joinLines_27 : decode cX12_joinLines 27 = .ok (.iadd, 1) := by decide +kernel
theorem dX12_joinLines_28 : decode cX12_joinLines 28 = .ok (.iaload, 1) := by decide +kernel
theorem dX12_joinLines_29 : decode cX12_joinLines 29 = .ok (.istore_n 2, 1) := by decide +kernel
theorem dX12_joinLines_30 : decode cX12_joinLines 30 = .ok (.aload_n 0, 1) := by decide +kernel
theorem dX12_joinLines_31 : decode cX12_joinLines 31 = .ok (.getfield 7, 3) := by decide +kernel
theorem dX12_joinLines_34 : decode cX12_joinLines 34 = .ok (.bipush 21, 2) := by decide +kernel
theorem dX12_joinLines_36 : decode cX12_joinLines 36 = .ok (.iload_n 1, 1) := by decide +kernel
theorem dX12_joinLines_37 : decode cX12_joinLines 37 = .ok (.iadd, 1) := by decide +kernel
theorem dX12_joinLines_38 : decode cX12_joinLines 38 = .ok (.iconst 1, 1) := by decide +kernel
theorem dX12_joinLines_39 : decode cX12_joinLines 39 = .ok (.iadd, 1) := by decide +kernel
theorem dX12_joinLines_40 : decode cX12_joinLines 40 = .ok (.iaload, 1) := by decide +kernel
theorem dX12_joinLines_41 : decode cX12_joinLines 41 = .ok (.istore_n 3, 1) := by decide +kernel
theorem dX12_joinLines_42 : decode cX12_joinLines 42 = .ok (.iload_n 2, 1) := by decide +kernel
theorem dX12_joinLines_43 : decode cX12_joinLines 43 = .ok (.ifCond .le 11, 3) := by decide +kernel
theorem dX12_joinLines_46 : decode cX12_joinLines 46 = .ok (.iload_n 3, 1) := by decide +kernel
theorem dX12_joinLines_47 : decode cX12_joinLines 47 = .ok (.ifCond .le 7, 3) := by decide +kernel
theorem dX12_joinLines_50 : decode cX12_joinLines 50 = .ok (.iconst 1, 1) := by decide +kernel
theorem dX12_joinLines_51 : decode cX12_joinLines 51 = .ok (.goto 4, 3) := by decide +kernel
theorem dX12_joinLines_54 : decode cX12_joinLines 54 = .ok (.iconst 0, 1) := by decide +kernel
theorem dX12_joinLines_55 : decode cX12_joinLines 55 = .ok (.istore 4, 2) := by decide +kernel
theorem dX12_joinLines_57 : decode cX12_joinLines 57 = .ok (.iload 4, 2) := by decide +kernel
theorem dX12_joinLines_59 : decode cX12_joinLines 59 = .ok (.ifCond .eq 16, 3) := by decide +kernel
theorem dX12_joinLines_62 : decode cX12_joinLines 62 = .ok (.iload_n 2, 1) := by decide +kernel
theorem dX12_joinLines_63 : decode cX12_joinLines 63 = .ok (.iconst 1, 1) := by decide +kernel
theorem dX12_joinLines_64 : decode cX12_joinLines 64 = .ok (.iadd, 1) := by decide +kernel
theorem dX12_joinLines_65 : decode cX12_joinLines 65 = .ok (.iload_n 3, 1) := by decide +kernel
theorem dX12_joinLines_66 : decode cX12_joinLines 66 = .ok (.iadd, 1) := by decide +kernel
theorem dX12_joinLines_67 : decode cX12_joinLines 67 = .ok (.bipush 32, 2) := by decide +kernel
theorem dX12_joinLines_69 : decode cX12_joinLines 69 = .ok (.if_icmp .le 6, 3) := by decide +kernel
theorem dX12_joinLines_72 : decode cX12_joinLines 72 = .ok (.bipush (-3), 2) := by decide +kernel
theorem dX12_joinLines_74 : decode cX12_joinLines 74 = .ok (.ireturn, 1) := by decide +kernel
theorem dX12_joinLines_75 : decode cX12_joinLines 75 = .ok (.aload_n 0, 1) := by decide +kernel
theorem dX12_joinLines_76 : decode cX12_joinLines 76 = .ok (.invokevirtual 207, 3) := by decide +kernel
theorem dX12_joinLines_79 : decode cX12_joinLines 79 = .ok (.iload 4, 2) := by decide +kernel
theorem dX12_joinLines_81 : decode cX12_joinLines 81 = .ok (.ifCond .eq 87, 3) := by decide +kernel
theorem dX12_joinLines_84 : decode cX12_joinLines 84 = .ok (.aload_n 0, 1) := by decide +kernel
theorem dX12_joinLines_85 : decode cX12_joinLines 85 = .ok (.getfield 7, 3) := by decide +kernel
theorem dX12_joinLines_88 : decode cX12_joinLines 88 = .ok (.bipush 61, 2) := by decide +kernel
theorem dX12_joinLines_90 : decode cX12_joinLines 90 = .ok (.bipush 32, 2) := by decide +kernel
theorem dX12_joinLines_92 : decode cX12_joinLines 92 = .ok (.iload_n 1, 1) := by decide +kernel
theorem dX12_joinLines_93 : decode cX12_joinLines 93 = .ok (.imul, 1) := by decide +kernel
theorem dX12_joinLines_94 : decode cX12_joinLines 94 = .ok (.iadd, 1) := by decide +kernel
theorem dX12_joinLines_95 : decode cX12_joinLines 95 = .ok (.iload_n 2, 1) := by decide +kernel
theorem dX12_joinLines_96 : decode cX12_joinLines 96 = .ok (.iadd, 1) := by decide +kernel
theorem dX12_joinLines_97 : decode cX12_joinLines 97 = .ok (.bipush 32, 2) := by decide +kernel
theorem dX12_joinLines_99 : decode cX12_joinLines 99 = .ok (.iastore, 1) := by decide +kernel
theorem dX12_joinLines_100 : decode cX12_joinLines 100 = .ok (.iconst 0, 1) := by decide +kernel
theorem dX12_joinLines_101 : decode cX12_joinLines 101 = .ok (.istore 5, 2) := by decide +kernel
theorem dX12_joinLines_103 : decode cX12_joinLines 103 = .ok (.iload 5, 2) := by decide +kernel
theorem dX12_joinLines_105 : decode cX12_joinLines 105 = .ok (.iload_n 3, 1) := by decide +kernel
theorem dX12_joinLines_106 : decode cX12_joinLines 106 = .ok (.if_icmp .ge 45, 3) := by decide +kernel
theorem dX12_joinLines_109 : decode cX12_joinLines 109 = .ok (.aload_n 0, 1) := by decide +kernel
theorem dX12_joinLines_110 : decode cX12_joinLines 110 = .ok (.getfield 7, 3) := by decide +kernel
theorem dX12_joinLines_113 : decode cX12_joinLines 113 = .ok (.bipush 61, 2) := by decide +kernel
theorem dX12_joinLines_115 : decode cX12_joinLines 115 = .ok (.bipush 32, 2) := by decide +kernel
theorem dX12_joinLines_117 : decode cX12_joinLines 117 = .ok (.iload_n 1, 1) := by decide +kernel
theorem dX12_joinLines_118 : decode cX12_joinLines 118 = .ok (.imul, 1) := by decide +kernel
theorem dX12_joinLines_119 : decode cX12_joinLines 119 = .ok (.iadd, 1) := by decide +kernel
theorem dX12_joinLines_120 : decode cX12_joinLines 120 = .ok (.iload_n 2, 1) := by decide +kernel
theorem dX12_joinLines_121 : decode cX12_joinLines 121 = .ok (.iadd, 1) := by decide +kernel
theorem dX12_joinLines_122 : decode cX12_joinLines 122 = .ok (.iconst 1, 1) := by decide +kernel
theorem dX12_joinLines_123 : decode cX12_joinLines 123 = .ok (.iadd, 1) := by decide +kernel
theorem dX12_joinLines_124 : decode cX12_joinLines 124 = .ok (.iload 5, 2) := by decide +kernel
theorem dX12_joinLines_126 : decode cX12_joinLines 126 = .ok (.iadd, 1) := by decide +kernel
theorem dX12_joinLines_127 : decode cX12_joinLines 127 = .ok (.aload_n 0, 1) := by decide +kernel
theorem dX12_joinLines_128 : decode cX12_joinLines 128 = .ok (.getfield 7, 3) := by decide +kernel
theorem dX12_joinLines_131 : decode cX12_joinLines 131 = .ok (.bipush 61, 2) := by decide +kernel
theorem dX12_joinLines_133 : decode cX12_joinLines 133 = .ok (.bipush 32, 2) := by decide +kernel
theorem dX12_joinLines_135 : decode cX12_joinLines 135 = .ok (.iload_n 1, 1) := by decide +kernel
theorem dX12_joinLines_136 : decode cX12_joinLines 136 = .ok (.iconst 1, 1) := by decide +kernel
theorem dX12_joinLines_137 : decode cX12_joinLines 137 = .ok (.iadd, 1) := by decide +kernel
theorem dX12_joinLines_138 : decode cX12_joinLines 138 = .ok (.imul, 1) := by decide +kernel
theorem dX12_joinLines_139 : decode cX12_joinLines 139 = .ok (.iadd, 1) := by decide +kernel
theorem dX12_joinLines_140 : decode cX12_joinLines 140 = .ok (.iload 5, 2) := by decide +kernel
theorem dX12_joinLines_142 : decode cX12_joinLines 142 = .ok (.iadd, 1) := by decide +kernel
theorem dX12_joinLines_143 : decode cX12_joinLines 143 = .ok (.iaload, 1) := by decide +kernel
theorem dX12_joinLines_144 : decode cX12_joinLines 144 = .ok (.iastore, 1) := by decide +kernel
theorem dX12_joinLines_145 : decode cX12_joinLines 145 = .ok (.iinc 5 1, 3) := by decide +kernel
theorem dX12_joinLines_148 : decode cX12_joinLines 148 = .ok (.goto (-45), 3) := by decide +kernel
theorem dX12_joinLines_151 : decode cX12_joinLines 151 = .ok (.aload_n 0, 1) := by decide +kernel
theorem dX12_joinLines_152 : decode cX12_joinLines 152 = .ok (.getfield 7, 3) := by decide +kernel
theorem dX12_joinLines_155 : decode cX12_joinLines 155 = .ok (.bipush 21, 2) := by decide +kernel
theorem dX12_joinLines_157 : decode cX12_joinLines 157 = .ok (.iload_n 1, 1) := by decide +kernel
theorem dX12_joinLines_158 : decode cX12_joinLines 158 = .ok (.iadd, 1) := by decide +kernel
theorem dX12_joinLines_159 : decode cX12_joinLines 159 = .ok (.iload_n 2, 1) := by decide +kernel
theorem dX12_joinLines_160 : decode cX12_joinLines 160 = .ok (.iconst 1, 1) := by decide +kernel
theorem dX12_joinLines_161 : decode cX12_joinLines 161 = .ok (.iadd, 1) := by decide +kernel
theorem dX12_joinLines_162 : decode cX12_joinLines 162 = .ok (.iload_n 3, 1) := by decide +kernel
theorem dX12_joinLines_163 : decode cX12_joinLines 163 = .ok (.iadd, 1) := by decide +kernel
theorem dX12_joinLines_164 : decode cX12_joinLines 164 = .ok (.iastore, 1) := by decide +kernel
theorem dX12_joinLines_165 : decode cX12_joinLines 165 = .ok (.goto 37, 3) := by decide +kernel
theorem dX12_joinLines_168 : decode cX12_joinLines 168 = .ok (.iload_n 3, 1) := by decide +kernel
theorem dX12_joinLines_169 : decode cX12_joinLines 169 = .ok (.ifCond .le 33, 3) := by decide +kernel
theorem dX12_joinLines_172 : decode cX12_joinLines 172 = .ok (.aload_n 0, 1) := by decide +kernel
theorem dX12_joinLines_173 : decode cX12_joinLines 173 = .ok (.getfield 7, 3) := by decide +kernel
theorem dX12_joinLines_176 : decode cX12_joinLines 176 = .ok (.bipush 41, 2) := by decide +kernel
theorem dX12_joinLines_178 : decode cX12_joinLines 178 = .ok (.iload_n 1, 1) := by decide +kernel
theorem dX12_joinLines_179 : decode cX12_joinLines 179 = .ok (.iadd, 1) := by decide +kernel
theorem dX12_joinLines_180 : decode cX12_joinLines 180 = .ok (.iaload, 1) := by decide +kernel
theorem dX12_joinLines_181 : decode cX12_joinLines 181 = .ok (.istore 5, 2) := by decide +kernel
theorem dX12_joinLines_183 : decode cX12_joinLines 183 = .ok (.aload_n 0, 1) := by decide +kernel
theorem dX12_joinLines_184 : decode cX12_joinLines 184 = .ok (.iload_n 1, 1) := by decide +kernel
theorem dX12_joinLines_185 : decode cX12_joinLines 185 = .ok (.iconst 1, 1) := by decide +kernel
theorem dX12_joinLines_186 : decode cX12_joinLines 186 = .ok (.iadd, 1) := by decide +kernel
theorem dX12_joinLines_187 : decode cX12_joinLines 187 = .ok (.iload_n 1, 1) := by decide +kernel
theorem dX12_joinLines_188 : decode cX12_joinLines 188 = .ok (.invokevirtual 200, 3) := by decide +kernel
theorem dX12_joinLines_191 : decode cX12_joinLines 191 = .ok (.aload_n 0, 1) := by decide +kernel
theorem dX12_joinLines_192 : decode cX12_joinLines 192 = .ok (.getfield 7, 3) := by decide +kernel
theorem dX12_joinLines_195 : decode cX12_joinLines 195 = .ok (.bipush 41, 2) := by decide +kernel
theorem dX12_joinLines_197 : decode cX12_joinLines 197 = .ok (.iload_n 1, 1) := by decide +kernel
theorem dX12_joinLines_198 : decode cX12_joinLines 198 = .ok (.iadd, 1) := by decide +kernel
theorem dX12_joinLines_199 : decode cX12_joinLines 199 = .ok (.iload 5, 2) := by decide +kernel
theorem dX12_joinLines_201 : decode cX12_joinLines 201 = .ok (.iastore, 1) := by decide +kernel
theorem dX12_joinLines_202 : decode cX12_joinLines 202 = .ok (.aload_n 0, 1) := by decide +kernel
theorem dX12_joinLines_203 : decode cX12_joinLines 203 = .ok (.iload_n 1, 1) := by decide +kernel
theorem dX12_joinLines_204 : decode cX12_joinLines 204 = .ok (.iconst 1, 1) := by decide +kernel
theorem dX12_joinLines_205 : decode cX12_joinLines 205 = .ok (.iadd, 1) := by decide +kernel
theorem dX12_joinLines_206 : decode cX12_joinLines 206 = .ok (.invokevirtual 219, 3) := by decide +kernel
theorem dX12_joinLines_209 : decode cX12_joinLines 209 = .ok (.aload_n 0, 1) := by decide +kernel
theorem dX12_joinLines_210 : decode cX12_joinLines 210 = .ok (.getfield 7, 3) := by decide +kernel
theorem dX12_joinLines_213 : decode cX12_joinLines 213 = .ok (.bipush 21, 2) := by decide +kernel
theorem dX12_joinLines_215 : decode cX12_joinLines 215 = .ok (.iload_n 1, 1) := by decide +kernel
theorem dX12_joinLines_216 : decode cX12_joinLines 216 = .ok (.iadd, 1) := by decide +kernel
theorem dX12_joinLines_217 : decode cX12_joinLines 217 = .ok (.iaload, 1) := by decide +kernel
theorem dX12_joinLines_218 : decode cX12_joinLines 218 = .ok (.ireturn, 1) := by decide +kernel
theorem dX12_isRange_0 : decode cX12_isRange 0 = .ok (.iload_n 1, 1) := by decide +kernel
theorem dX12_isRange_1 : decode cX12_isRange 1 = .ok (.iconst 0, 1) := by decide +kernel
theorem dX12_isRange_2 : decode cX12_isRange 2 = .ok (.aload_n 0, 1) := by decide +kernel
theorem dX12_isRange_3 : decode cX12_isRange 3 = .ok (.getfield 7, 3) := by decide +kernel
theorem dX12_isRange_6 : decode cX12_isRange 6 = .ok (.iconst 0, 1) := by decide +kernel
theorem dX12_isRange_7 : decode cX12_isRange 7 = .ok (.iaload, 1) := by decide +kernel
theorem dX12_isRange_8 : decode cX12_isRange 8 = .ok (.invokestatic 79, 3) := by decide +kernel
theorem dX12_isRange_11 : decode cX12_isRange 11 = .ok (.ifCond .eq 21, 3) := by decide +kernel
theorem dX12_isRange_14 : decode cX12_isRange 14 = .ok (.iload_n 2, 1) := by decide +kernel
theorem dX12_isRange_15 : decode cX12_isRange 15 = .ok (.iload_n 1, 1) := by decide +kernel
theorem dX12_isRange_16 : decode cX12_isRange 16 = .ok (.aload_n 0, 1) := by decide +kernel
theorem dX12_isRange_17 : decode cX12_isRange 17 = .ok (.getfield 7, 3) := by decide +kernel
theorem dX12_isRange_20 : decode cX12_isRange 20 = .ok (.iconst 0, 1) := by decide +kernel
theorem dX12_isRange_21 : decode cX12_isRange 21 = .ok (.iaload, 1) := by decide +kernel
theorem dX12_isRange_22 : decode cX12_isRange 22 = .ok (.invokestatic 79, 3) := by decide +kernel
theorem dX12_isRange_25 : decode cX12_isRange 25 = .ok (.ifCond .eq 7, 3) := by decide +kernel
theorem dX12_isRange_28 : decode cX12_isRange 28 = .ok (.iconst 1, 1) := by decide +kernel
theorem dX12_isRange_29 : decode cX12_isRange 29 = .ok (.goto 4, 3) := by decide +kernel
theorem dX12_isRange_32 : decode cX12_isRange 32 = .ok (.iconst 0, 1) := by decide +kernel
theorem dX12_isRange_33 : decode cX12_isRange 33 = .ok (.ireturn, 1) := by decide +kernel
theorem dX12_shift_0 : decode cX12_shift 0 = .ok (.aload_n 0, 1) := by decide +kernel
theorem dX12_shift_1 : decode cX12_shift 1 = .ok (.iload_n 1, 1) := by decide +kernel
theorem dX12_shift_2 : decode cX12_shift 2 = .ok (.iload_n 2, 1) := by decide +kernel
theorem dX12_shift_3 : decode cX12_shift 3 = .ok (.invokevirtual 225, 3) := by decide +kernel
theorem dX12_shift_6 : decode cX12_shift 6 = .ok (.ifCond .eq 14, 3) := by decide +kernel
theorem dX12_shift_9 : decode cX12_shift 9 = .ok (.iload_n 3, 1) := by decide +kernel
theorem dX12_shift_10 : decode cX12_shift 10 = .ok (.bipush (-40), 2) := by decide +kernel
theorem dX12_shift_12 : decode cX12_shift 12 = .ok (.bipush 40, 2) := by decide +kernel
theorem dX12_shift_14 : decode cX12_shift 14 = .ok (.invokestatic 79, 3) := by decide +kernel
theorem dX12_shift_17 : decode cX12_shift 17 = .ok (.ifCond .ne 5, 3) := by decide +kernel
theorem dX12_shift_20 : decode cX12_shift 20 = .ok (.iconst (-1), 1) := by decide +kernel
theorem dX12_shift_21 : decode cX12_shift 21 = .ok (.ireturn, 1) := by decide +kernel
theorem dX12_shift_22 : decode cX12_shift 22 = .ok (.iconst 0, 1) := by decide +kernel
theorem dX12_shift_23 : decode cX12_shift 23 = .ok (.istore 4, 2) := by decide +kernel
theorem dX12_shift_25 : decode cX12_shift 25 = .ok (.iload_n 1, 1) := by decide +kernel
theorem dX12_shift_26 : decode cX12_shift 26 = .ok (.istore 5, 2) := by decide +kernel
theorem dX12_shift_28 : decode cX12_shift 28 = .ok (.iload 5, 2) := by decide +kernel
theorem dX12_shift_30 : decode cX12_shift 30 = .ok (.iload_n 2, 1) := by decide +kernel
theorem dX12_shift_31 : decode cX12_shift 31 = .ok (.if_icmp .ge 44, 3) := by decide +kernel
theorem dX12_shift_34 : decode cX12_shift 34 = .ok (.aload_n 0, 1) := by decide +kernel
theorem dX12_shift_35 : decode cX12_shift 35 = .ok (.iload 5, 2) := by decide +kernel
theorem dX12_shift_37 : decode cX12_shift 37 = .ok (.invokevirtual 114, 3) := by decide +kernel
theorem dX12_shift_40 : decode cX12_shift 40 = .ok (.ifCond .ne 29, 3) := by decide +kernel
theorem dX12_shift_43 : decode cX12_shift 43 = .ok (.iinc 4 1, 3) := by decide +kernel
theorem dX12_shift_46 : decode cX12_shift 46 = .ok (.aload_n 0, 1) := by decide +kernel
theorem dX12_shift_47 : decode cX12_shift 47 = .ok (.getfield 7, 3) := by decide +kernel
theorem dX12_shift_50 : decode cX12_shift 50 = .ok (.iconst 1, 1) := by decide +kernel
theorem dX12_shift_51 : decode cX12_shift 51 = .ok (.iload 5, 2) := by decide +kernel
theorem dX12_shift_53 : decode cX12_shift 53 = .ok (.iadd, 1) := by decide +kernel
theorem dX12_shift_54 : decode cX12_shift 54 = .ok (.iaload, 1) := by decide +kernel
theorem dX12_shift_55 : decode cX12_shift 55 = .ok (.iload_n 3, 1) := by decide +kernel
theorem dX12_shift_56 : decode cX12_shift 56 = .ok (.iadd, 1) := by decide +kernel
theorem dX12_shift_57 : decode cX12_shift 57 = .ok (.iconst 0, 1) := by decide +kernel
theorem dX12_shift_58 : decode cX12_shift 58 = .ok (.bipush 40, 2) := by decide +kernel
theorem dX12_shift_60 : decode cX12_shift 60 = .ok (.invokestatic 79, 3) := by decide +kernel
theorem dX12_shift_63 : decode cX12_shift 63 = .ok (.ifCond .ne 6, 3) := by decide +kernel
theorem dX12_shift_66 : decode cX12_shift 66 = .ok (.bipush (-2), 2) := by decide +kernel
theorem dX12_shift_68 : decode cX12_shift 68 = .ok (.ireturn, 1) := by decide +kernel
theorem dX12_shift_69 : decode cX12_shift 69 = .ok (.iinc 5 1, 3) := by decide +kernel
theorem dX12_shift_72 : decode cX12_shift 72 = .ok (.goto (-44), 3) := by decide +kernel
theorem dX12_shift_75 : decode cX12_shift 75 = .ok (.aload_n 0, 1) := by decide +kernel
theorem dX12_shift_76 : decode cX12_shift 76 = .ok (.invokevirtual 207, 3) := by decide +kernel
theorem dX12_shift_79 : decode cX12_shift 79 = .ok (.iload_n 1, 1) := by decide +kernel
theorem dX12_shift_80 : decode cX12_shift 80 = .ok (.istore 5, 2) := by decide +kernel
theorem dX12_shift_82 : decode cX12_shift 82 = .ok (.iload 5, 2) := by decide +kernel
theorem dX12_shift_84 : decode cX12_shift 84 = .ok (.iload_n 2, 1) := by decide +kernel
theorem dX12_shift_85 : decode cX12_shift 85 = .ok (.if_icmp .ge 35, 3) := by decide +kernel
theorem dX12_shift_88 : decode cX12_shift 88 = .ok (.aload_n 0, 1) := by decide +kernel
theorem dX12_shift_89 : decode cX12_shift 89 = .ok (.getfield 7, 3) := by decide +kernel
theorem dX12_shift_92 : decode cX12_shift 92 = .ok (.iconst 1, 1) := by decide +kernel
theorem dX12_shift_93 : decode cX12_shift 93 = .ok (.iload 5, 2) := by decide +kernel
theorem dX12_shift_95 : decode cX12_shift 95 = .ok (.iadd, 1) := by decide +kernel
theorem dX12_shift_96 : decode cX12_shift 96 = .ok (.dup2, 1) := by decide +kernel
theorem dX12_shift_97 : decode cX12_shift 97 = .ok (.iaload, 1) := by decide +kernel
theorem dX12_shift_98 : decode cX12_shift 98 = .ok (.aload_n 0, 1) := by decide +kernel
theorem dX12_shift_99 : decode cX12_shift 99 = .ok (.iload 5, 2) := by decide +kernel
theorem dX12_shift_101 : decode cX12_shift 101 = .ok (.invokevirtual 114, 3) := by decide +kernel
theorem dX12_shift_104 : decode cX12_shift 104 = .ok (.ifCond .eq 7, 3) := by decide +kernel
theorem dX12_shift_107 : decode cX12_shift 107 = .ok (.iconst 0, 1) := by decide +kernel
theorem dX12_shift_108 : decode cX12_shift 108 = .ok (.goto 4, 3) := by decide +kernel
theorem dX12_shift_111 : decode cX12_shift 111 = .ok (.iload_n 3, 1) := by decide +kernel
theorem dX12_shift_112 : decode cX12_shift 112 = .ok (.iadd, 1) := by decide +kernel
theorem dX12_shift_113 : decode cX12_shift 113 = .ok (.iastore, 1) := by decide +kernel
theorem dX12_shift_114 : decode cX12_shift 114 = .ok (.iinc 5 1, 3) := by decide +kernel
theorem dX12_shift_117 : decode cX12_shift 117 = .ok (.goto (-35), 3) := by decide +kernel
theorem dX12_shift_120 : decode cX12_shift 120 = .ok (.iload 4, 2) := by decide +kernel
theorem dX12_shift_122 : decode cX12_shift 122 = .ok (.ireturn, 1) := by decide +kernel
theorem dX12_pin_0 : decode cX12_pin 0 = .ok (.aload_n 0, 1) := by decide +kernel
theorem dX12_pin_1 : decode cX12_pin 1 = .ok (.iload_n 1, 1) := by decide +kernel
theorem dX12_pin_2 : decode cX12_pin 2 = .ok (.invokevirtual 216, 3) := by decide +kernel
theorem dX12_pin_5 : decode cX12_pin 5 = .ok (.ifCond .ne 5, 3) := by decide +kernel
theorem dX12_pin_8 : decode cX12_pin 8 = .ok (.iconst (-1), 1) := by decide +kernel
theorem dX12_pin_9 : decode cX12_pin 9 = .ok (.ireturn, 1) := by decide +kernel
theorem dX12_pin_10 : decode cX12_pin 10 = .ok (.aload_n 0, 1) := by decide +kernel
theorem dX12_pin_11 : decode cX12_pin 11 = .ok (.invokevirtual 207, 3) := by decide +kernel
theorem dX12_pin_14 : decode cX12_pin 14 = .ok (.aload_n 0, 1) := by decide +kernel
theorem dX12_pin_15 : decode cX12_pin 15 = .ok (.getfield 7, 3) := by decide +kernel
theorem dX12_pin_18 : decode cX12_pin 18 = .ok (.bipush 41, 2) := by decide +kernel
theorem dX12_pin_20 : decode cX12_pin 20 = .ok (.iload_n 1, 1) := by decide +kernel
theorem dX12_pin_21 : decode cX12_pin 21 = .ok (.iadd, 1) := by decide +kernel
theorem dX12_pin_22 : decode cX12_pin 22 = .ok (.iconst 1, 1) := by decide +kernel
theorem dX12_pin_23 : decode cX12_pin 23 = .ok (.aload_n 0, 1) := by decide +kernel
theorem dX12_pin_24 : decode cX12_pin 24 = .ok (.getfield 7, 3) := by decide +kernel
theorem dX12_pin_27 : decode cX12_pin 27 = .ok (.bipush 41, 2) := by decide +kernel
theorem dX12_pin_29 : decode cX12_pin 29 = .ok (.iload_n 1, 1) := by decide +kernel
theorem dX12_pin_30 : decode cX12_pin 30 = .ok (.iadd, 1) := by decide +kernel
theorem dX12_pin_31 : decode cX12_pin 31 = .ok (.iaload, 1) := by decide +kernel
theorem dX12_pin_32 : decode cX12_pin 32 = .ok (.isub, 1) := by decide +kernel
theorem dX12_pin_33 : decode cX12_pin 33 = .ok (.iastore, 1) := by decide +kernel
theorem dX12_pin_34 : decode cX12_pin 34 = .ok (.aload_n 0, 1) := by decide +kernel
theorem dX12_pin_35 : decode cX12_pin 35 = .ok (.getfield 7, 3) := by decide +kernel
theorem dX12_pin_38 : decode cX12_pin 38 = .ok (.bipush 41, 2) := by decide +kernel
theorem dX12_pin_40 : decode cX12_pin 40 = .ok (.iload_n 1, 1) := by decide +kernel
theorem dX12_pin_41 : decode cX12_pin 41 = .ok (.iadd, 1) := by decide +kernel
theorem dX12_pin_42 : decode cX12_pin 42 = .ok (.iaload, 1) := by decide +kernel
theorem dX12_pin_43 : decode cX12_pin 43 = .ok (.ireturn, 1) := by decide +kernel
theorem dX12_reindent_0 : decode cX12_reindent 0 = .ok (.aload_n 0, 1) := by decide +kernel
theorem dX12_reindent_1 : decode cX12_reindent 1 = .ok (.iload_n 1, 1) := by decide +kernel
theorem dX12_reindent_2 : decode cX12_reindent 2 = .ok (.iload_n 2, 1) := by decide +kernel
theorem dX12_reindent_3 : decode cX12_reindent 3 = .ok (.invokevirtual 225, 3) := by decide +kernel
theorem dX12_reindent_6 : decode cX12_reindent 6 = .ok (.ifCond .ne 5, 3) := by decide +kernel
theorem dX12_reindent_9 : decode cX12_reindent 9 = .ok (.iconst (-1), 1) := by decide +kernel
theorem dX12_reindent_10 : decode cX12_reindent 10 = .ok (.ireturn, 1) := by decide +kernel
theorem dX12_reindent_11 : decode cX12_reindent 11 = .ok (.aload_n 0, 1) := by decide +kernel
theorem dX12_reindent_12 : decode cX12_reindent 12 = .ok (.invokevirtual 207, 3) := by decide +kernel
theorem dX12_reindent_15 : decode cX12_reindent 15 = .ok (.aload_n 0, 1) := by decide +kernel
theorem dX12_reindent_16 : decode cX12_reindent 16 = .ok (.aload_n 0, 1) := by decide +kernel
theorem dX12_reindent_17 : decode cX12_reindent 17 = .ok (.getfield 7, 3) := by decide +kernel
theorem dX12_reindent_20 : decode cX12_reindent 20 = .ok (.sipush 977, 3) := by decide +kernel
theorem dX12_reindent_23 : decode cX12_reindent 23 = .ok (.iaload, 1) := by decide +kernel
theorem dX12_reindent_24 : decode cX12_reindent 24 = .ok (.aload_n 0, 1) := by decide +kernel
theorem dX12_reindent_25 : decode cX12_reindent 25 = .ok (.getfield 7, 3) := by decide +kernel
theorem dX12_reindent_28 : decode cX12_reindent 28 = .ok (.sipush 978, 3) := by decide +kernel
theorem dX12_reindent_31 : decode cX12_reindent 31 = .ok (.iaload, 1) := by decide +kernel
theorem dX12_reindent_32 : decode cX12_reindent 32 = .ok (.invokevirtual 222, 3) := by decide +kernel
theorem dX12_reindent_35 : decode cX12_reindent 35 = .ok (.aload_n 0, 1) := by decide +kernel
theorem dX12_reindent_36 : decode cX12_reindent 36 = .ok (.iload_n 1, 1) := by decide +kernel
theorem dX12_reindent_37 : decode cX12_reindent 37 = .ok (.iload_n 2, 1) := by decide +kernel
theorem dX12_reindent_38 : decode cX12_reindent 38 = .ok (.invokevirtual 228, 3) := by decide +kernel
theorem dX12_reindent_41 : decode cX12_reindent 41 = .ok (.istore_n 3, 1) := by decide +kernel
theorem dX12_reindent_42 : decode cX12_reindent 42 = .ok (.iconst 0, 1) := by decide +kernel
theorem dX12_reindent_43 : decode cX12_reindent 43 = .ok (.istore 4, 2) := by decide +kernel
theorem dX12_reindent_45 : decode cX12_reindent 45 = .ok (.iload 4, 2) := by decide +kernel
theorem dX12_reindent_47 : decode cX12_reindent 47 = .ok (.aload_n 0, 1) := by decide +kernel
theorem dX12_reindent_48 : decode cX12_reindent 48 = .ok (.getfield 7, 3) := by decide +kernel
theorem dX12_reindent_51 : decode cX12_reindent 51 = .ok (.iconst 0, 1) := by decide +kernel
theorem dX12_reindent_52 : decode cX12_reindent 52 = .ok (.iaload, 1) := by decide +kernel
theorem dX12_reindent_53 : decode cX12_reindent 53 = .ok (.if_icmp .ge 25, 3) := by decide +kernel
theorem dX12_reindent_56 : decode cX12_reindent 56 = .ok (.aload_n 0, 1) := by decide +kernel
theorem dX12_reindent_57 : decode cX12_reindent 57 = .ok (.getfield 7, 3) := by decide +kernel
theorem dX12_reindent_60 : decode cX12_reindent 60 = .ok (.iconst 1, 1) := by decide +kernel
theorem dX12_reindent_61 : decode cX12_reindent 61 = .ok (.iload 4, 2) := by decide +kernel
theorem dX12_reindent_63 : decode cX12_reindent 63 = .ok (.iadd, 1) := by decide +kernel
theorem dX12_reindent_64 : decode cX12_reindent 64 = .ok (.aload_n 0, 1) := by decide +kernel
theorem dX12_reindent_65 : decode cX12_reindent 65 = .ok (.getfield 56, 3) := by decide +kernel
theorem dX12_reindent_68 : decode cX12_reindent 68 = .ok (.iload 4, 2) := by decide +kernel
theorem dX12_reindent_70 : decode cX12_reindent 70 = .ok (.iaload, 1) := by decide +kernel
theorem dX12_reindent_71 : decode cX12_reindent 71 = .ok (.iastore, 1) := by decide +kernel
theorem dX12_reindent_72 : decode cX12_reindent 72 = .ok (.iinc 4 1, 3) := by decide +kernel
theorem dX12_reindent_75 : decode cX12_reindent 75 = .ok (.goto (-30), 3) := by decide +kernel
theorem dX12_reindent_78 : decode cX12_reindent 78 = .ok (.iload_n 3, 1) := by decide +kernel
theorem dX12_reindent_79 : decode cX12_reindent 79 = .ok (.invokestatic 231, 3) := by decide +kernel
theorem dX12_reindent_82 : decode cX12_reindent 82 = .ok (.ireturn, 1) := by decide +kernel
theorem dX12_lines_0 : decode cX12_lines 0 = .ok (.aload_n 0, 1) := by decide +kernel
theorem dX12_lines_1 : decode cX12_lines 1 = .ok (.getfield 7, 3) := by decide +kernel
theorem dX12_lines_4 : decode cX12_lines 4 = .ok (.iconst 0, 1) := by decide +kernel
theorem dX12_lines_5 : decode cX12_lines 5 = .ok (.iaload, 1) := by decide +kernel
theorem dX12_lines_6 : decode cX12_lines 6 = .ok (.ireturn, 1) := by decide +kernel
theorem dX12_indentation_0 : decode cX12_indentation 0 = .ok (.aload_n 0, 1) := by decide +kernel
theorem dX12_indentation_1 : decode cX12_indentation 1 = .ok (.iload_n 1, 1) := by decide +kernel
theorem dX12_indentation_2 : decode cX12_indentation 2 = .ok (.invokevirtual 216, 3) := by decide +kernel
theorem dX12_indentation_5 : decode cX12_indentation 5 = .ok (.ifCond .eq 14, 3) := by decide +kernel
theorem dX12_indentation_8 : decode cX12_indentation 8 = .ok (.aload_n 0, 1) := by decide +kernel
theorem dX12_indentation_9 : decode cX12_indentation 9 = .ok (.getfield 7, 3) := by decide +kernel
theorem dX12_indentation_12 : decode cX12_indentation 12 = .ok (.iconst 1, 1) := by decide +kernel
theorem dX12_indentation_13 : decode cX12_indentation 13 = .ok (.iload_n 1, 1) := by decide +kernel
theorem dX12_indentation_14 : decode cX12_indentation 14 = .ok (.iadd, 1) := by decide +kernel
theorem dX12_indentation_15 : decode cX12_indentation 15 = .ok (.iaload, 1) := by decide +kernel
theorem dX12_indentation_16 : decode cX12_indentation 16 = .ok (.goto 4, 3) := by decide +kernel
theorem dX12_indentation_19 : decode cX12_indentation 19 = .ok (.iconst (-1), 1) := by decide +kernel
theorem dX12_indentation_20 : decode cX12_indentation 20 = .ok (.ireturn, 1) := by decide +kernel
theorem dX12_length_0 : decode cX12_length 0 = .ok (.aload_n 0, 1) := by decide +kernel
theorem dX12_length_1 : decode cX12_length 1 = .ok (.iload_n 1, 1) := by decide +kernel
theorem dX12_length_2 : decode cX12_length 2 = .ok (.invokevirtual 216, 3) := by decide +kernel
theorem dX12_length_5 : decode cX12_length 5 = .ok (.ifCond .eq 15, 3) := by decide +kernel
theorem dX12_length_8 : decode cX12_length 8 = .ok (.aload_n 0, 1) := by decide +kernel
theorem dX12_length_9 : decode cX12_length 9 = .ok (.getfield 7, 3) := by decide +kernel
theorem dX12_length_12 : decode cX12_length 12 = .ok (.bipush 21, 2) := by decide +kernel
theorem dX12_length_14 : decode cX12_length 14 = .ok (.iload_n 1, 1) := by decide +kernel
theorem dX12_length_15 : decode cX12_length 15 = .ok (.iadd, 1) := by decide +kernel
theorem dX12_length_16 : decode cX12_length 16 = .ok (.iaload, 1) := by decide +kernel
theorem dX12_length_17 : decode cX12_length 17 = .ok (.goto 4, 3) := by decide +kernel
theorem dX12_length_20 : decode cX12_length 20 = .ok (.iconst (-1), 1) := by decide +kernel
theorem dX12_length_21 : decode cX12_length 21 = .ok (.ireturn, 1) := by decide +kernel
theorem dX12_byteAt_0 : decode cX12_byteAt 0 = .ok (.aload_n 0, 1) := by decide +kernel
theorem dX12_byteAt_1 : decode cX12_byteAt 1 = .ok (.iload_n 1, 1) := by decide +kernel
theorem dX12_byteAt_2 : decode cX12_byteAt 2 = .ok (.invokevirtual 216, 3) := by decide +kernel
theorem dX12_byteAt_5 : decode cX12_byteAt 5 = .ok (.ifCond .eq 16, 3) := by decide +kernel
theorem dX12_byteAt_8 : decode cX12_byteAt 8 = .ok (.iload_n 2, 1) := by decide +kernel
theorem dX12_byteAt_9 : decode cX12_byteAt 9 = .ok (.ifCond .lt 12, 3) := by decide +kernel
theorem dX12_byteAt_12 : decode cX12_byteAt 12 = .ok (.aload_n 0, 1) := by decide +kernel
theorem dX12_byteAt_13 : decode cX12_byteAt 13 = .ok (.iload_n 1, 1) := by decide +kernel
theorem dX12_byteAt_14 : decode cX12_byteAt 14 = .ok (.iload_n 2, 1) := by decide +kernel
theorem dX12_byteAt_15 : decode cX12_byteAt 15 = .ok (.invokevirtual 83, 3) := by decide +kernel
theorem dX12_byteAt_18 : decode cX12_byteAt 18 = .ok (.goto 4, 3) := by decide +kernel
theorem dX12_byteAt_21 : decode cX12_byteAt 21 = .ok (.iconst (-1), 1) := by decide +kernel
theorem dX12_byteAt_22 : decode cX12_byteAt 22 = .ok (.ireturn, 1) := by decide +kernel
theorem dX12_isProtected_0 : decode cX12_isProtected 0 = .ok (.aload_n 0, 1) := by decide +kernel
theorem dX12_isProtected_1 : decode cX12_isProtected 1 = .ok (.iload_n 1, 1) := by decide +kernel
theorem dX12_isProtected_2 : decode cX12_isProtected 2 = .ok (.invokevirtual 216, 3) := by decide +kernel
theorem dX12_isProtected_5 : decode cX12_isProtected 5 = .ok (.ifCond .ne 5, 3) := by decide +kernel
theorem dX12_isProtected_8 : decode cX12_isProtected 8 = .ok (.iconst (-1), 1) := by decide +kernel
theorem dX12_isProtected_9 : decode cX12_isProtected 9 = .ok (.ireturn, 1) := by decide +kernel
theorem dX12_isProtected_10 : decode cX12_isProtected 10 = .ok (.aload_n 0, 1) := by decide +kernel
theorem dX12_isProtected_11 : decode cX12_isProtected 11 = .ok (.invokevirtual 138, 3) := by decide +kernel
theorem dX12_isProtected_14 : decode cX12_isProtected 14 = .ok (.aload_n 0, 1) := by decide +kernel
theorem dX12_isProtected_15 : decode cX12_isProtected 15 = .ok (.getfield 44, 3) := by decide +kernel
theorem dX12_isProtected_18 : decode cX12_isProtected 18 = .ok (.iload_n 1, 1) := by decide +kernel
theorem dX12_isProtected_19 : decode cX12_isProtected 19 = .ok (.baload, 1) := by decide +kernel
theorem dX12_isProtected_20 : decode cX12_isProtected 20 = .ok (.ifCond .eq 7, 3) := by decide +kernel
theorem dX12_isProtected_23 : decode cX12_isProtected 23 = .ok (.iconst 1, 1) := by decide +kernel
theorem dX12_isProtected_24 : decode cX12_isProtected 24 = .ok (.goto 4, 3) := by decide +kernel
theorem dX12_isProtected_27 : decode cX12_isProtected 27 = .ok (.iconst 0, 1) := by decide +kernel
theorem dX12_isProtected_28 : decode cX12_isProtected 28 = .ok (.ireturn, 1) := by decide +kernel
theorem dX12_isPinned_0 : decode cX12_isPinned 0 = .ok (.aload_n 0, 1) := by decide +kernel
theorem dX12_isPinned_1 : decode cX12_isPinned 1 = .ok (.iload_n 1, 1) := by decide +kernel
theorem dX12_isPinned_2 : decode cX12_isPinned 2 = .ok (.invokevirtual 216, 3) := by decide +kernel
theorem dX12_isPinned_5 : decode cX12_isPinned 5 = .ok (.ifCond .eq 15, 3) := by decide +kernel
theorem dX12_isPinned_8 : decode cX12_isPinned 8 = .ok (.aload_n 0, 1) := by decide +kernel
theorem dX12_isPinned_9 : decode cX12_isPinned 9 = .ok (.getfield 7, 3) := by decide +kernel
theorem dX12_isPinned_12 : decode cX12_isPinned 12 = .ok (.bipush 41, 2) := by decide +kernel
theorem dX12_isPinned_14 : decode cX12_isPinned 14 = .ok (.iload_n 1, 1) := by decide +kernel
theorem dX12_isPinned_15 : decode cX12_isPinned 15 = .ok (.iadd, 1) := by decide +kernel
theorem dX12_isPinned_16 : decode cX12_isPinned 16 = .ok (.iaload, 1) := by decide +kernel
theorem dX12_isPinned_17 : decode cX12_isPinned 17 = .ok (.goto 4, 3) := by decide +kernel
theorem dX12_isPinned_20 : decode cX12_isPinned 20 = .ok (.iconst (-1), 1) := by decide +kernel
theorem dX12_isPinned_21 : decode cX12_isPinned 21 = .ok (.ireturn, 1) := by decide +kernel
theorem dX12_sets_0 : decode cX12_sets 0 = .ok (.aload_n 0, 1) := by decide +kernel
theorem dX12_sets_1 : decode cX12_sets 1 = .ok (.invokevirtual 207, 3) := by decide +kernel
theorem dX12_sets_4 : decode cX12_sets 4 = .ok (.aload_n 0, 1) := by decide +kernel
theorem dX12_sets_5 : decode cX12_sets 5 = .ok (.getfield 7, 3) := by decide +kernel
theorem dX12_sets_8 : decode cX12_sets 8 = .ok (.iload_n 1, 1) := by decide +kernel
theorem dX12_sets_9 : decode cX12_sets 9 = .ok (.iaload, 1) := by decide +kernel
theorem dX12_sets_10 : decode cX12_sets 10 = .ok (.istore_n 3, 1) := by decide +kernel
theorem dX12_sets_11 : decode cX12_sets 11 = .ok (.aload_n 0, 1) := by decide +kernel
theorem dX12_sets_12 : decode cX12_sets 12 = .ok (.getfield 7, 3) := by decide +kernel
theorem dX12_sets_15 : decode cX12_sets 15 = .ok (.iload_n 1, 1) := by decide +kernel
theorem dX12_sets_16 : decode cX12_sets 16 = .ok (.iload_n 2, 1) := by decide +kernel
theorem dX12_sets_17 : decode cX12_sets 17 = .ok (.iastore, 1) := by decide +kernel
theorem dX12_sets_18 : decode cX12_sets 18 = .ok (.iload_n 3, 1) := by decide +kernel
theorem dX12_sets_19 : decode cX12_sets 19 = .ok (.ireturn, 1) := by decide +kernel
theorem dX12_setStep_0 : decode cX12_setStep 0 = .ok (.iload_n 1, 1) := by decide +kernel
theorem dX12_setStep_1 : decode cX12_setStep 1 = .ok (.iconst 1, 1) := by decide +kernel
theorem dX12_setStep_2 : decode cX12_setStep 2 = .ok (.bipush 8, 2) := by decide +kernel
theorem dX12_setStep_4 : decode cX12_setStep 4 = .ok (.invokestatic 79, 3) := by decide +kernel
theorem dX12_setStep_7 : decode cX12_setStep 7 = .ok (.ifCond .eq 14, 3) := by decide +kernel
theorem dX12_setStep_10 : decode cX12_setStep 10 = .ok (.aload_n 0, 1) := by decide +kernel
theorem dX12_setStep_11 : decode cX12_setStep 11 = .ok (.sipush 977, 3) := by decide +kernel
theorem dX12_setStep_14 : decode cX12_setStep 14 = .ok (.iload_n 1, 1) := by decide +kernel
theorem dX12_setStep_15 : decode cX12_setStep 15 = .ok (.invokevirtual 234, 3) := by decide +kernel
theorem dX12_setStep_18 : decode cX12_setStep 18 = .ok (.goto 4, 3) := by decide +kernel
theorem dX12_setStep_21 : decode cX12_setStep 21 = .ok (.iconst (-1), 1) := by decide +kernel
theorem dX12_setStep_22 : decode cX12_setStep 22 = .ok (.ireturn, 1) := by decide +kernel
theorem dX12_setBase_0 : decode cX12_setBase 0 = .ok (.iload_n 1, 1) := by decide +kernel
theorem dX12_setBase_1 : decode cX12_setBase 1 = .ok (.iconst 0, 1) := by decide +kernel
theorem dX12_setBase_2 : decode cX12_setBase 2 = .ok (.bipush 20, 2) := by decide +kernel
theorem dX12_setBase_4 : decode cX12_setBase 4 = .ok (.invokestatic 79, 3) := by decide +kernel
theorem dX12_setBase_7 : decode cX12_setBase 7 = .ok (.ifCond .eq 14, 3) := by decide +kernel
theorem dX12_setBase_10 : decode cX12_setBase 10 = .ok (.aload_n 0, 1) := by decide +kernel
theorem dX12_setBase_11 : decode cX12_setBase 11 = .ok (.sipush 978, 3) := by decide +kernel
theorem dX12_setBase_14 : decode cX12_setBase 14 = .ok (.iload_n 1, 1) := by decide +kernel
theorem dX12_setBase_15 : decode cX12_setBase 15 = .ok (.invokevirtual 234, 3) := by decide +kernel
theorem dX12_setBase_18 : decode cX12_setBase 18 = .ok (.goto 4, 3) := by decide +kernel
theorem dX12_setBase_21 : decode cX12_setBase 21 = .ok (.iconst (-1), 1) := by decide +kernel
theorem dX12_setBase_22 : decode cX12_setBase 22 = .ok (.ireturn, 1) := by decide +kernel
theorem dX12_setComment_0 : decode cX12_setComment 0 = .ok (.iload_n 1, 1) := by decide +kernel
theorem dX12_setComment_1 : decode cX12_setComment 1 = .ok (.ifCond .eq 27, 3) := by decide +kernel
theorem dX12_setComment_4 : decode cX12_setComment 4 = .ok (.iload_n 1, 1) := by decide +kernel
theorem dX12_setComment_5 : decode cX12_setComment 5 = .ok (.bipush 33, 2) := by decide +kernel
theorem dX12_setComment_7 : decode cX12_setComment 7 = .ok (.bipush 126, 2) := by decide +kernel
theorem dX12_setComment_9 : decode cX12_setComment 9 = .ok (.invokestatic 79, 3) := by decide +kernel
theorem dX12_setComment_12 : decode cX12_setComment 12 = .ok (.ifCond .eq 27, 3) := by decide +kernel
theorem dX12_setComment_15 : decode cX12_setComment 15 = .ok (.iload_n 1, 1) := by decide +kernel
theorem dX12_setComment_16 : decode cX12_setComment 16 = .ok (.bipush 34, 2) := by decide +kernel
theorem dX12_setComment_18 : decode cX12_setComment 18 = .ok (.if_icmp .eq 21, 3) := by decide +kernel
theorem dX12_setComment_21 : decode cX12_setComment 21 = .ok (.iload_n 1, 1) := by decide +kernel
theorem dX12_setComment_22 : decode cX12_setComment 22 = .ok (.invokestatic 94, 3) := by decide +kernel
theorem dX12_setComment_25 : decode cX12_setComment 25 = .ok (.ifCond .ne 14, 3) := by decide +kernel
theorem dX12_setComment_28 : decode cX12_setComment 28 = .ok (.aload_n 0, 1) := by decide +kernel
theorem dX12_setComment_29 : decode cX12_setComment 29 = .ok (.sipush 979, 3) := by decide +kernel
theorem dX12_setComment_32 : decode cX12_setComment 32 = .ok (.iload_n 1, 1) := by decide +kernel
theorem dX12_setComment_33 : decode cX12_setComment 33 = .ok (.invokevirtual 234, 3) := by decide +kernel
theorem dX12_setComment_36 : decode cX12_setComment 36 = .ok (.goto 4, 3) := by decide +kernel
theorem dX12_setComment_39 : decode cX12_setComment 39 = .ok (.iconst (-1), 1) := by decide +kernel
theorem dX12_setComment_40 : decode cX12_setComment 40 = .ok (.ireturn, 1) := by decide +kernel
theorem dX12_skips_0 : decode cX12_skips 0 = .ok (.aload_n 0, 1) := by decide +kernel
theorem dX12_skips_1 : decode cX12_skips 1 = .ok (.getfield 237, 3) := by decide +kernel
theorem dX12_skips_4 : decode cX12_skips 4 = .ok (.aload_n 0, 1) := by decide +kernel
theorem dX12_skips_5 : decode cX12_skips 5 = .ok (.getfield 191, 3) := by decide +kernel
theorem dX12_skips_8 : decode cX12_skips 8 = .ok (.if_icmp .ge 30, 3) := by decide +kernel
theorem dX12_skips_11 : decode cX12_skips 11 = .ok (.aload_n 0, 1) := by decide +kernel
theorem dX12_skips_12 : decode cX12_skips 12 = .ok (.getfield 17, 3) := by decide +kernel
theorem dX12_skips_15 : decode cX12_skips 15 = .ok (.aload_n 0, 1) := by decide +kernel
theorem dX12_skips_16 : decode cX12_skips 16 = .ok (.getfield 237, 3) := by decide +kernel
theorem dX12_skips_19 : decode cX12_skips 19 = .ok (.iaload, 1) := by decide +kernel
theorem dX12_skips_20 : decode cX12_skips 20 = .ok (.bipush 32, 2) := by decide +kernel
theorem dX12_skips_22 : decode cX12_skips 22 = .ok (.if_icmp .ne 16, 3) := by decide +kernel
theorem dX12_skips_25 : decode cX12_skips 25 = .ok (.aload_n 0, 1) := by decide +kernel
theorem dX12_skips_26 : decode cX12_skips 26 = .ok (.dup, 1) := by decide +kernel
theorem dX12_skips_27 : decode cX12_skips 27 = .ok (.getfield 237, 3) := by decide +kernel
theorem dX12_skips_30 : decode cX12_skips 30 = .ok (.iconst 1, 1) := by decide +kernel
theorem dX12_skips_31 : decode cX12_skips 31 = .ok (.iadd, 1) := by decide +kernel
theorem dX12_skips_32 : decode cX12_skips 32 = .ok (.putfield 237, 3) := by decide +kernel
theorem dX12_skips_35 : decode cX12_skips 35 = .ok (.goto (-35), 3) := by decide +kernel
theorem dX12_skips_38 : decode cX12_skips 38 = .ok (.return_, 1) := by decide +kernel
theorem dX12_readsOne_0 : decode cX12_readsOne 0 = .ok (.aload_n 0, 1) := by decide +kernel
theorem dX12_readsOne_1 : decode cX12_readsOne 1 = .ok (.invokevirtual 240, 3) := by decide +kernel
theorem dX12_readsOne_4 : decode cX12_readsOne 4 = .ok (.aload_n 0, 1) := by decide +kernel
theorem dX12_readsOne_5 : decode cX12_readsOne 5 = .ok (.getfield 237, 3) := by decide +kernel
theorem dX12_readsOne_8 : decode cX12_readsOne 8 = .ok (.aload_n 0, 1) := by decide +kernel
theorem dX12_readsOne_9 : decode cX12_readsOne 9 = .ok (.getfield 191, 3) := by decide +kernel
theorem dX12_readsOne_12 : decode cX12_readsOne 12 = .ok (.if_icmp .eq 17, 3) := by decide +kernel
theorem dX12_readsOne_15 : decode cX12_readsOne 15 = .ok (.aload_n 0, 1) := by decide +kernel
theorem dX12_readsOne_16 : decode cX12_readsOne 16 = .ok (.getfield 17, 3) := by decide +kernel
theorem dX12_readsOne_19 : decode cX12_readsOne 19 = .ok (.aload_n 0, 1) := by decide +kernel
theorem dX12_readsOne_20 : decode cX12_readsOne 20 = .ok (.getfield 237, 3) := by decide +kernel
theorem dX12_readsOne_23 : decode cX12_readsOne 23 = .ok (.iaload, 1) := by decide +kernel
theorem dX12_readsOne_24 : decode cX12_readsOne 24 = .ok (.bipush 34, 2) := by decide +kernel
theorem dX12_readsOne_26 : decode cX12_readsOne 26 = .ok (.if_icmp .ne 8, 3) := by decide +kernel
theorem dX12_readsOne_29 : decode cX12_readsOne 29 = .ok (.aload_n 0, 1) := by decide +kernel
theorem dX12_readsOne_30 : decode cX12_readsOne 30 = .ok (.getfield 237, 3) := by decide +kernel
theorem dX12_readsOne_33 : decode cX12_readsOne 33 = .ok (.ireturn, 1) := by decide +kernel
theorem dX12_readsOne_34 : decode cX12_readsOne 34 = .ok (.aload_n 0, 1) := by decide +kernel
theorem dX12_readsOne_35 : decode cX12_readsOne 35 = .ok (.getfield 59, 3) := by decide +kernel
theorem dX12_readsOne_38 : decode cX12_readsOne 38 = .ok (.iload_n 1, 1) := by decide +kernel
theorem dX12_readsOne_39 : decode cX12_readsOne 39 = .ok (.aload_n 0, 1) := by decide +kernel
theorem dX12_readsOne_40 : decode cX12_readsOne 40 = .ok (.getfield 237, 3) := by decide +kernel
theorem dX12_readsOne_43 : decode cX12_readsOne 43 = .ok (.iastore, 1) := by decide +kernel
theorem dX12_readsOne_44 : decode cX12_readsOne 44 = .ok (.aload_n 0, 1) := by decide +kernel
theorem dX12_readsOne_45 : decode cX12_readsOne 45 = .ok (.getfield 17, 3) := by decide +kernel
theorem dX12_readsOne_48 : decode cX12_readsOne 48 = .ok (.aload_n 0, 1) := by decide +kernel
theorem dX12_readsOne_49 : decode cX12_readsOne 49 = .ok (.getfield 237, 3) := by decide +kernel
theorem dX12_readsOne_52 : decode cX12_readsOne 52 = .ok (.iaload, 1) := by decide +kernel
theorem dX12_readsOne_53 : decode cX12_readsOne 53 = .ok (.invokestatic 94, 3) := by decide +kernel
theorem dX12_readsOne_56 : decode cX12_readsOne 56 = .ok (.istore_n 2, 1) := by decide +kernel
theorem dX12_readsOne_57 : decode cX12_readsOne 57 = .ok (.aload_n 0, 1) := by decide +kernel
theorem dX12_readsOne_58 : decode cX12_readsOne 58 = .ok (.dup, 1) := by decide +kernel
theorem dX12_readsOne_59 : decode cX12_readsOne 59 = .ok (.getfield 237, 3) := by decide +kernel
theorem dX12_readsOne_62 : decode cX12_readsOne 62 = .ok (.iconst 1, 1) := by decide +kernel
theorem dX12_readsOne_63 : decode cX12_readsOne 63 = .ok (.iadd, 1) := by decide +kernel
theorem dX12_readsOne_64 : decode cX12_readsOne 64 = .ok (.putfield 237, 3) := by decide +kernel
theorem dX12_readsOne_67 : decode cX12_readsOne 67 = .ok (.iload_n 2, 1) := by decide +kernel
theorem dX12_readsOne_68 : decode cX12_readsOne 68 = .ok (.ifCond .eq 63, 3) := by decide +kernel
theorem dX12_readsOne_71 : decode cX12_readsOne 71 = .ok (.aload_n 0, 1) := by decide +kernel
theorem dX12_readsOne_72 : decode cX12_readsOne 72 = .ok (.getfield 237, 3) := by decide +kernel
theorem dX12_readsOne_75 : decode cX12_readsOne 75 = .ok (.aload_n 0, 1) := by decide +kernel
theorem dX12_readsOne_76 : decode cX12_readsOne 76 = .ok (.getfield 191, 3) := by decide +kernel
theorem dX12_readsOne_79 : decode cX12_readsOne 79 = .ok (.if_icmp .ge 52, 3) := by decide +kernel
theorem dX12_readsOne_82 : decode cX12_readsOne 82 = .ok (.aload_n 0, 1) := by decide +kernel
theorem dX12_readsOne_83 : decode cX12_readsOne 83 = .ok (.getfield 17, 3) := by decide +kernel
theorem dX12_readsOne_86 : decode cX12_readsOne 86 = .ok (.aload_n 0, 1) := by decide +kernel
theorem dX12_readsOne_87 : decode cX12_readsOne 87 = .ok (.getfield 237, 3) := by decide +kernel
theorem dX12_readsOne_90 : decode cX12_readsOne 90 = .ok (.iaload, 1) := by decide +kernel
theorem dX12_readsOne_91 : decode cX12_readsOne 91 = .ok (.invokestatic 94, 3) := by decide +kernel
theorem dX12_readsOne_94 : decode cX12_readsOne 94 = .ok (.ifCond .eq 37, 3) := by decide +kernel
theorem dX12_readsOne_97 : decode cX12_readsOne 97 = .ok (.aload_n 0, 1) := by decide +kernel
theorem dX12_readsOne_98 : decode cX12_readsOne 98 = .ok (.getfield 237, 3) := by decide +kernel
theorem dX12_readsOne_101 : decode cX12_readsOne 101 = .ok (.aload_n 0, 1) := by decide +kernel
theorem dX12_readsOne_102 : decode cX12_readsOne 102 = .ok (.getfield 59, 3) := by decide +kernel
theorem dX12_readsOne_105 : decode cX12_readsOne 105 = .ok (.iload_n 1, 1) := by decide +kernel
theorem dX12_readsOne_106 : decode cX12_readsOne 106 = .ok (.iaload, 1) := by decide +kernel
theorem dX12_readsOne_107 : decode cX12_readsOne 107 = .ok (.isub, 1) := by decide +kernel
theorem dX12_readsOne_108 : decode cX12_readsOne 108 = .ok (.bipush 8, 2) := by decide +kernel
theorem dX12_readsOne_110 : decode cX12_readsOne 110 = .ok (.if_icmp .ne 8, 3) := by decide +kernel
theorem dX12_readsOne_113 : decode cX12_readsOne 113 = .ok (.aload_n 0, 1) := by decide +kernel
theorem dX12_readsOne_114 : decode cX12_readsOne 114 = .ok (.getfield 237, 3) := by decide +kernel
theorem dX12_readsOne_117 : decode cX12_readsOne 117 = .ok (.ireturn, 1) := by decide +kernel
theorem dX12_readsOne_118 : decode cX12_readsOne 118 = .ok (.aload_n 0, 1) := by decide +kernel
theorem dX12_readsOne_119 : decode cX12_readsOne 119 = .ok (.dup, 1) := by decide +kernel
theorem dX12_readsOne_120 : decode cX12_readsOne 120 = .ok (.getfield 237, 3) := by decide +kernel
theorem dX12_readsOne_123 : decode cX12_readsOne 123 = .ok (.iconst 1, 1) := by decide +kernel
theorem dX12_readsOne_124 : decode cX12_readsOne 124 = .ok (.iadd, 1) := by decide +kernel
theorem dX12_readsOne_125 : decode cX12_readsOne 125 = .ok (.putfield 237, 3) := by decide +kernel
theorem dX12_readsOne_128 : decode cX12_readsOne 128 = .ok (.goto (-61), 3) := by decide +kernel
theorem dX12_readsOne_131 : decode cX12_readsOne 131 = .ok (.aload_n 0, 1) := by decide +kernel
theorem dX12_readsOne_132 : decode cX12_readsOne 132 = .ok (.getfield 62, 3) := by decide +kernel
theorem dX12_readsOne_135 : decode cX12_readsOne 135 = .ok (.iload_n 1, 1) := by decide +kernel
theorem dX12_readsOne_136 : decode cX12_readsOne 136 = .ok (.aload_n 0, 1) := by decide +kernel
theorem dX12_readsOne_137 : decode cX12_readsOne 137 = .ok (.getfield 237, 3) := by decide +kernel
theorem dX12_readsOne_140 : decode cX12_readsOne 140 = .ok (.iastore, 1) := by decide +kernel
theorem dX12_readsOne_141 : decode cX12_readsOne 141 = .ok (.bipush (-9), 2) := by decide +kernel
theorem dX12_readsOne_143 : decode cX12_readsOne 143 = .ok (.ireturn, 1) := by decide +kernel
theorem dX12_readsTexts_0 : decode cX12_readsTexts 0 = .ok (.aload_n 0, 1) := by decide +kernel
theorem dX12_readsTexts_1 : decode cX12_readsTexts 1 = .ok (.iconst 0, 1) := by decide +kernel
theorem dX12_readsTexts_2 : decode cX12_readsTexts 2 = .ok (.putfield 237, 3) := by decide +kernel
theorem dX12_readsTexts_5 : decode cX12_readsTexts 5 = .ok (.iconst 0, 1) := by decide +kernel
theorem dX12_readsTexts_6 : decode cX12_readsTexts 6 = .ok (.istore_n 2, 1) := by decide +kernel
theorem dX12_readsTexts_7 : decode cX12_readsTexts 7 = .ok (.iload_n 2, 1) := by decide +kernel
theorem dX12_readsTexts_8 : decode cX12_readsTexts 8 = .ok (.iload_n 1, 1) := by decide +kernel
theorem dX12_readsTexts_9 : decode cX12_readsTexts 9 = .ok (.if_icmp .ge 23, 3) := by decide +kernel
theorem dX12_readsTexts_12 : decode cX12_readsTexts 12 = .ok (.aload_n 0, 1) := by decide +kernel
theorem dX12_readsTexts_13 : decode cX12_readsTexts 13 = .ok (.iload_n 2, 1) := by decide +kernel
theorem dX12_readsTexts_14 : decode cX12_readsTexts 14 = .ok (.invokevirtual 243, 3) := by decide +kernel
theorem dX12_readsTexts_17 : decode cX12_readsTexts 17 = .ok (.istore_n 3, 1) := by decide +kernel
theorem dX12_readsTexts_18 : decode cX12_readsTexts 18 = .ok (.iload_n 3, 1) := by decide +kernel
theorem dX12_readsTexts_19 : decode cX12_readsTexts 19 = .ok (.bipush (-9), 2) := by decide +kernel
theorem dX12_readsTexts_21 : decode cX12_readsTexts 21 = .ok (.if_icmp .eq 5, 3) := by decide +kernel
theorem dX12_readsTexts_24 : decode cX12_readsTexts 24 = .ok (.iload_n 3, 1) := by decide +kernel
theorem dX12_readsTexts_25 : decode cX12_readsTexts 25 = .ok (.ireturn, 1) := by decide +kernel
theorem dX12_readsTexts_26 : decode cX12_readsTexts 26 = .ok (.iinc 2 1, 3) := by decide +kernel
theorem dX12_readsTexts_29 : decode cX12_readsTexts 29 = .ok (.goto (-22), 3) := by decide +kernel
theorem dX12_readsTexts_32 : decode cX12_readsTexts 32 = .ok (.aload_n 0, 1) := by decide +kernel
theorem dX12_readsTexts_33 : decode cX12_readsTexts 33 = .ok (.invokevirtual 240, 3) := by decide +kernel
theorem dX12_readsTexts_36 : decode cX12_readsTexts 36 = .ok (.aload_n 0, 1) := by decide +kernel
theorem dX12_readsTexts_37 : decode cX12_readsTexts 37 = .ok (.getfield 237, 3) := by decide +kernel
theorem dX12_readsTexts_40 : decode cX12_readsTexts 40 = .ok (.aload_n 0, 1) := by decide +kernel
theorem dX12_readsTexts_41 : decode cX12_readsTexts 41 = .ok (.getfield 191, 3) := by decide +kernel
theorem dX12_readsTexts_44 : decode cX12_readsTexts 44 = .ok (.if_icmp .ge 10, 3) := by decide +kernel
theorem dX12_readsTexts_47 : decode cX12_readsTexts 47 = .ok (.aload_n 0, 1) := by decide +kernel
theorem dX12_readsTexts_48 : decode cX12_readsTexts 48 = .ok (.getfield 237, 3) := by decide +kernel
theorem dX12_readsTexts_51 : decode cX12_readsTexts 51 = .ok (.goto 5, 3) := by decide +kernel
theorem dX12_readsTexts_54 : decode cX12_readsTexts 54 = .ok (.bipush (-9), 2) := by decide +kernel
theorem dX12_readsTexts_56 : decode cX12_readsTexts 56 = .ok (.ireturn, 1) := by decide +kernel
theorem dX12_writesText_0 : decode cX12_writesText 0 = .ok (.aload_n 0, 1) := by decide +kernel
theorem dX12_writesText_1 : decode cX12_writesText 1 = .ok (.getfield 7, 3) := by decide +kernel
theorem dX12_writesText_4 : decode cX12_writesText 4 = .ok (.iload_n 1, 1) := by decide +kernel
theorem dX12_writesText_5 : decode cX12_writesText 5 = .ok (.aload_n 0, 1) := by decide +kernel
theorem dX12_writesText_6 : decode cX12_writesText 6 = .ok (.getfield 62, 3) := by decide +kernel
theorem dX12_writesText_9 : decode cX12_writesText 9 = .ok (.iload_n 2, 1) := by decide +kernel
theorem dX12_writesText_10 : decode cX12_writesText 10 = .ok (.iaload, 1) := by decide +kernel
theorem dX12_writesText_11 : decode cX12_writesText 11 = .ok (.aload_n 0, 1) := by decide +kernel
theorem dX12_writesText_12 : decode cX12_writesText 12 = .ok (.getfield 59, 3) := by decide +kernel
theorem dX12_writesText_15 : decode cX12_writesText 15 = .ok (.iload_n 2, 1) := by decide +kernel
theorem dX12_writesText_16 : decode cX12_writesText 16 = .ok (.iaload, 1) := by decide +kernel
theorem dX12_writesText_17 : decode cX12_writesText 17 = .ok (.isub, 1) := by decide +kernel
theorem dX12_writesText_18 : decode cX12_writesText 18 = .ok (.iastore, 1) := by decide +kernel
theorem dX12_writesText_19 : decode cX12_writesText 19 = .ok (.iconst 0, 1) := by decide +kernel
theorem dX12_writesText_20 : decode cX12_writesText 20 = .ok (.istore_n 3, 1) := by decide +kernel
theorem dX12_writesText_21 : decode cX12_writesText 21 = .ok (.iload_n 3, 1) := by decide +kernel
theorem dX12_writesText_22 : decode cX12_writesText 22 = .ok (.aload_n 0, 1) := by decide +kernel
theorem dX12_writesText_23 : decode cX12_writesText 23 = .ok (.getfield 7, 3) := by decide +kernel
theorem dX12_writesText_26 : decode cX12_writesText 26 = .ok (.iload_n 1, 1) := by decide +kernel
theorem dX12_writesText_27 : decode cX12_writesText 27 = .ok (.iaload, 1) := by decide +kernel
theorem dX12_writesText_28 : decode cX12_writesText 28 = .ok (.if_icmp .ge 32, 3) := by decide +kernel
theorem dX12_writesText_31 : decode cX12_writesText 31 = .ok (.aload_n 0, 1) := by decide +kernel
theorem dX12_writesText_32 : decode cX12_writesText 32 = .ok (.getfield 7, 3) := by decide +kernel
theorem dX12_writesText_35 : decode cX12_writesText 35 = .ok (.iload_n 1, 1) := by decide +kernel
theorem dX12_writesText_36 : decode cX12_writesText 36 = .ok (.iconst 1, 1) := by decide +kernel
theorem dX12_writesText_37 : decode cX12_writesText 37 = .ok (.iadd, 1) := by decide +kernel
theorem dX12_writesText_38 : decode cX12_writesText 38 = .ok (.iload_n 3, 1) := by decide +kernel
theorem dX12_writesText_39 : decode cX12_writesText 39 = .ok (.iadd, 1) := by decide +kernel
theorem dX12_writesText_40 : decode cX12_writesText 40 = .ok (.aload_n 0, 1) := by decide +kernel
theorem dX12_writesText_41 : decode cX12_writesText 41 = .ok (.getfield 17, 3) := by decide +kernel
theorem dX12_writesText_44 : decode cX12_writesText 44 = .ok (.aload_n 0, 1) := by decide +kernel
theorem dX12_writesText_45 : decode cX12_writesText 45 = .ok (.getfield 59, 3) := by decide +kernel
theorem dX12_writesText_48 : decode cX12_writesText 48 = .ok (.iload_n 2, 1) := by decide +kernel
theorem dX12_writesText_49 : decode cX12_writesText 49 = .ok (.iaload, 1) := by decide +kernel
theorem dX12_writesText_50 : decode cX12_writesText 50 = .ok (.iload_n 3, 1) := by decide +kernel
theorem dX12_writesText_51 : decode cX12_writesText 51 = .ok (.iadd, 1) := by decide +kernel
theorem dX12_writesText_52 : decode cX12_writesText 52 = .ok (.iaload, 1) := by decide +kernel
theorem dX12_writesText_53 : decode cX12_writesText 53 = .ok (.iastore, 1) := by decide +kernel
theorem dX12_writesText_54 : decode cX12_writesText 54 = .ok (.iinc 3 1, 3) := by decide +kernel
theorem dX12_writesText_57 : decode cX12_writesText 57 = .ok (.goto (-36), 3) := by decide +kernel
theorem dX12_writesText_60 : decode cX12_writesText 60 = .ok (.return_, 1) := by decide +kernel
theorem dX12_makes_0 : decode cX12_makes 0 = .ok (.aload_n 0, 1) := by decide +kernel
theorem dX12_makes_1 : decode cX12_makes 1 = .ok (.iload_n 2, 1) := by decide +kernel
theorem dX12_makes_2 : decode cX12_makes 2 = .ok (.iconst 1, 1) := by decide +kernel
theorem dX12_makes_3 : decode cX12_makes 3 = .ok (.if_icmp .ne 7, 3) := by decide +kernel
theorem dX12_makes_6 : decode cX12_makes 6 = .ok (.iconst 2, 1) := by decide +kernel
theorem dX12_makes_7 : decode cX12_makes 7 = .ok (.goto 4, 3) := by decide +kernel
theorem dX12_makes_10 : decode cX12_makes 10 = .ok (.iconst 1, 1) := by decide +kernel
theorem dX12_makes_11 : decode cX12_makes 11 = .ok (.invokevirtual 246, 3) := by decide +kernel
theorem dX12_makes_14 : decode cX12_makes 14 = .ok (.istore 7, 2) := by decide +kernel
theorem dX12_makes_16 : decode cX12_makes 16 = .ok (.iload 7, 2) := by decide +kernel
theorem dX12_makes_18 : decode cX12_makes 18 = .ok (.bipush (-9), 2) := by decide +kernel
theorem dX12_makes_20 : decode cX12_makes 20 = .ok (.if_icmp .eq 9, 3) := by decide +kernel
theorem dX12_makes_23 : decode cX12_makes 23 = .ok (.bipush (-10), 2) := by decide +kernel
theorem dX12_makes_25 : decode cX12_makes 25 = .ok (.iload 7, 2) := by decide +kernel
theorem dX12_makes_27 : decode cX12_makes 27 = .ok (.isub, 1) := by decide +kernel
theorem dX12_makes_28 : decode cX12_makes 28 = .ok (.ireturn, 1) := by decide +kernel
theorem dX12_makes_29 : decode cX12_makes 29 = .ok (.aload_n 0, 1) := by decide +kernel
theorem dX12_makes_30 : decode cX12_makes 30 = .ok (.invokevirtual 207, 3) := by decide +kernel
theorem dX12_makes_33 : decode cX12_makes 33 = .ok (.sipush 701, 3) := by decide +kernel
theorem dX12_makes_36 : decode cX12_makes 36 = .ok (.bipush 23, 2) := by decide +kernel
theorem dX12_makes_38 : decode cX12_makes 38 = .ok (.iload_n 1, 1) := by decide +kernel
theorem dX12_makes_39 : decode cX12_makes 39 = .ok (.imul, 1) := by decide +kernel
theorem dX12_makes_40 : decode cX12_makes 40 = .ok (.iadd, 1) := by decide +kernel
theorem dX12_makes_41 : decode cX12_makes 41 = .ok (.istore 8, 2) := by decide +kernel
theorem dX12_makes_43 : decode cX12_makes 43 = .ok (.aload_n 0, 1) := by decide +kernel
theorem dX12_makes_44 : decode cX12_makes 44 = .ok (.getfield 7, 3) := by decide +kernel
theorem dX12_makes_47 : decode cX12_makes 47 = .ok (.iload 8, 2) := by decide +kernel
theorem dX12_makes_49 : decode cX12_makes 49 = .ok (.iconst 0, 1) := by decide +kernel
theorem dX12_makes_50 : decode cX12_makes 50 = .ok (.iadd, 1) := by decide +kernel
theorem dX12_makes_51 : decode cX12_makes 51 = .ok (.iaload, 1) := by decide +kernel
theorem dX12_makes_52 : decode cX12_makes 52 = .ok (.ifCond .le 7, 3) := by decide +kernel
theorem dX12_makes_55 : decode cX12_makes 55 = .ok (.iconst 1, 1) := by decide +kernel
theorem dX12_makes_56 : decode cX12_makes 56 = .ok (.goto 4, 3) := by decide +kernel
theorem dX12_makes_59 : decode cX12_makes 59 = .ok (.iconst 0, 1) := by decide +kernel
theorem dX12_makes_60 : decode cX12_makes 60 = .ok (.istore 9, 2) := by decide +kernel
theorem dX12_makes_62 : decode cX12_makes 62 = .ok (.aload_n 0, 1) := by decide +kernel
theorem dX12_makes_63 : decode cX12_makes 63 = .ok (.getfield 7, 3) := by decide +kernel
theorem dX12_makes_66 : decode cX12_makes 66 = .ok (.iload 8, 2) := by decide +kernel
theorem dX12_makes_68 : decode cX12_makes 68 = .ok (.iconst 0, 1) := by decide +kernel
theorem dX12_makes_69 : decode cX12_makes 69 = .ok (.iadd, 1) := by decide +kernel
theorem dX12_makes_70 : decode cX12_makes 70 = .ok (.iload_n 2, 1) := by decide +kernel
theorem dX12_makes_71 : decode cX12_makes 71 = .ok (.iastore, 1) := by decide +kernel
theorem dX12_makes_72 : decode cX12_makes 72 = .ok (.aload_n 0, 1) := by decide +kernel
theorem dX12_makes_73 : decode cX12_makes 73 = .ok (.getfield 7, 3) := by decide +kernel
theorem dX12_makes_76 : decode cX12_makes 76 = .ok (.iload 8, 2) := by decide +kernel
theorem dX12_makes_78 : decode cX12_makes 78 = .ok (.iconst 1, 1) := by decide +kernel
theorem dX12_makes_79 : decode cX12_makes 79 = .ok (.iadd, 1) := by decide +kernel
theorem dX12_makes_80 : decode cX12_makes 80 = .ok (.iload_n 3, 1) := by decide +kernel
theorem dX12_makes_81 : decode cX12_makes 81 = .ok (.iastore, 1) := by decide +kernel
theorem dX12_makes_82 : decode cX12_makes 82 = .ok (.aload_n 0, 1) := by decide +kernel
theorem dX12_makes_83 : decode cX12_makes 83 = .ok (.getfield 7, 3) := by decide +kernel
theorem dX12_makes_86 : decode cX12_makes 86 = .ok (.iload 8, 2) := by decide +kernel
theorem dX12_makes_88 : decode cX12_makes 88 = .ok (.iconst 2, 1) := by decide +kernel
theorem dX12_makes_89 : decode cX12_makes 89 = .ok (.iadd, 1) := by decide +kernel
theorem dX12_makes_90 : decode cX12_makes 90 = .ok (.iload 4, 2) := by decide +kernel
theorem dX12_makes_92 : decode cX12_makes 92 = .ok (.iastore, 1) := by decide +kernel
theorem dX12_makes_93 : decode cX12_makes 93 = .ok (.aload_n 0, 1) := by decide +kernel
theorem dX12_makes_94 : decode cX12_makes 94 = .ok (.getfield 7, 3) := by decide +kernel
theorem dX12_makes_97 : decode cX12_makes 97 = .ok (.iload 8, 2) := by decide +kernel
theorem dX12_makes_99 : decode cX12_makes 99 = .ok (.iconst 3, 1) := by decide +kernel
theorem dX12_makes_100 : decode cX12_makes 100 = .ok (.iadd, 1) := by decide +kernel
theorem dX12_makes_101 : decode cX12_makes 101 = .ok (.iload 5, 2) := by decide +kernel
theorem dX12_makes_103 : decode cX12_makes 103 = .ok (.iastore, 1) := by decide +kernel
theorem dX12_makes_104 : decode cX12_makes 104 = .ok (.aload_n 0, 1) := by decide +kernel
theorem dX12_makes_105 : decode cX12_makes 105 = .ok (.getfield 7, 3) := by decide +kernel
theorem dX12_makes_108 : decode cX12_makes 108 = .ok (.iload 8, 2) := by decide +kernel
theorem dX12_makes_110 : decode cX12_makes 110 = .ok (.iconst 4, 1) := by decide +kernel
theorem dX12_makes_111 : decode cX12_makes 111 = .ok (.iadd, 1) := by decide +kernel
theorem dX12_makes_112 : decode cX12_makes 112 = .ok (.iload 6, 2) := by decide +kernel
theorem dX12_makes_114 : decode cX12_makes 114 = .ok (.iastore, 1) := by decide +kernel
theorem dX12_makes_115 : decode cX12_makes 115 = .ok (.aload_n 0, 1) := by decide +kernel
theorem dX12_makes_116 : decode cX12_makes 116 = .ok (.iload 8, 2) := by decide +kernel
theorem dX12_makes_118 : decode cX12_makes 118 = .ok (.iconst 5, 1) := by decide +kernel
theorem dX12_makes_119 : decode cX12_makes 119 = .ok (.iadd, 1) := by decide +kernel
theorem dX12_makes_120 : decode cX12_makes 120 = .ok (.iconst 0, 1) := by decide +kernel
theorem dX12_makes_121 : decode cX12_makes 121 = .ok (.invokevirtual 249, 3) := by decide +kernel
theorem dX12_makes_124 : decode cX12_makes 124 = .ok (.iload_n 2, 1) := by decide +kernel
theorem dX12_makes_125 : decode cX12_makes 125 = .ok (.iconst 1, 1) := by decide +kernel
theorem dX12_makes_126 : decode cX12_makes 126 = .ok (.if_icmp .ne 13, 3) := by decide +kernel
theorem dX12_makes_129 : decode cX12_makes 129 = .ok (.aload_n 0, 1) := by decide +kernel
theorem dX12_makes_130 : decode cX12_makes 130 = .ok (.iload 8, 2) := by decide +kernel
theorem dX12_makes_132 : decode cX12_makes 132 = .ok (.bipush 14, 2) := by decide +kernel
theorem dX12_makes_134 : decode cX12_makes 134 = .ok (.iadd, 1) := by decide +kernel
theorem dX12_makes_135 : decode cX12_makes 135 = .ok (.iconst 1, 1) := by decide +kernel
theorem dX12_makes_136 : decode cX12_makes 136 = .ok (.invokevirtual 249, 3) := by decide +kernel
theorem dX12_makes_139 : decode cX12_makes 139 = .ok (.iload 9, 2) := by decide +kernel
theorem dX12_makes_141 : decode cX12_makes 141 = .ok (.ireturn, 1) := by decide +kernel
theorem dX12_isRule_0 : decode cX12_isRule 0 = .ok (.iload_n 0, 1) := by decide +kernel
theorem dX12_isRule_1 : decode cX12_isRule 1 = .ok (.iconst 0, 1) := by decide +kernel
theorem dX12_isRule_2 : decode cX12_isRule 2 = .ok (.bipush 11, 2) := by decide +kernel
theorem dX12_isRule_4 : decode cX12_isRule 4 = .ok (.invokestatic 79, 3) := by decide +kernel
theorem dX12_isRule_7 : decode cX12_isRule 7 = .ok (.ifCond .eq 17, 3) := by decide +kernel
theorem dX12_isRule_10 : decode cX12_isRule 10 = .ok (.iload_n 1, 1) := by decide +kernel
theorem dX12_isRule_11 : decode cX12_isRule 11 = .ok (.iconst 0, 1) := by decide +kernel
theorem dX12_isRule_12 : decode cX12_isRule 12 = .ok (.bipush 9, 2) := by decide +kernel
theorem dX12_isRule_14 : decode cX12_isRule 14 = .ok (.invokestatic 79, 3) := by decide +kernel
theorem dX12_isRule_17 : decode cX12_isRule 17 = .ok (.ifCond .eq 7, 3) := by decide +kernel
theorem dX12_isRule_20 : decode cX12_isRule 20 = .ok (.iconst 1, 1) := by decide +kernel
theorem dX12_isRule_21 : decode cX12_isRule 21 = .ok (.goto 4, 3) := by decide +kernel
theorem dX12_isRule_24 : decode cX12_isRule 24 = .ok (.iconst 0, 1) := by decide +kernel
theorem dX12_isRule_25 : decode cX12_isRule 25 = .ok (.ireturn, 1) := by decide +kernel
theorem dX12_pair_0 : decode cX12_pair 0 = .ok (.iload_n 1, 1) := by decide +kernel
theorem dX12_pair_1 : decode cX12_pair 1 = .ok (.iload_n 2, 1) := by decide +kernel
theorem dX12_pair_2 : decode cX12_pair 2 = .ok (.invokestatic 252, 3) := by decide +kernel
theorem dX12_pair_5 : decode cX12_pair 5 = .ok (.ifCond .eq 36, 3) := by decide +kernel
theorem dX12_pair_8 : decode cX12_pair 8 = .ok (.iload_n 3, 1) := by decide +kernel
theorem dX12_pair_9 : decode cX12_pair 9 = .ok (.iconst 0, 1) := by decide +kernel
theorem dX12_pair_10 : decode cX12_pair 10 = .ok (.iconst 4, 1) := by decide +kernel
theorem dX12_pair_11 : decode cX12_pair 11 = .ok (.invokestatic 79, 3) := by decide +kernel
theorem dX12_pair_14 : decode cX12_pair 14 = .ok (.ifCond .eq 27, 3) := by decide +kernel
theorem dX12_pair_17 : decode cX12_pair 17 = .ok (.iload 4, 2) := by decide +kernel
theorem dX12_pair_19 : decode cX12_pair 19 = .ok (.iconst 0, 1) := by decide +kernel
theorem dX12_pair_20 : decode cX12_pair 20 = .ok (.iconst 1, 1) := by decide +kernel
theorem dX12_pair_21 : decode cX12_pair 21 = .ok (.invokestatic 79, 3) := by decide +kernel
theorem dX12_pair_24 : decode cX12_pair 24 = .ok (.ifCond .eq 17, 3) := by decide +kernel
theorem dX12_pair_27 : decode cX12_pair 27 = .ok (.iload 5, 2) := by decide +kernel
theorem dX12_pair_29 : decode cX12_pair 29 = .ok (.iconst 0, 1) := by decide +kernel
theorem dX12_pair_30 : decode cX12_pair 30 = .ok (.iconst 2, 1) := by decide +kernel
theorem dX12_pair_31 : decode cX12_pair 31 = .ok (.invokestatic 79, 3) := by decide +kernel
theorem dX12_pair_34 : decode cX12_pair 34 = .ok (.ifCond .eq 7, 3) := by decide +kernel
theorem dX12_pair_37 : decode cX12_pair 37 = .ok (.iconst 1, 1) := by decide +kernel
theorem dX12_pair_38 : decode cX12_pair 38 = .ok (.goto 4, 3) := by decide +kernel
theorem dX12_pair_41 : decode cX12_pair 41 = .ok (.iconst 0, 1) := by decide +kernel
theorem dX12_pair_42 : decode cX12_pair 42 = .ok (.istore 6, 2) := by decide +kernel
theorem dX12_pair_44 : decode cX12_pair 44 = .ok (.iload 6, 2) := by decide +kernel
theorem dX12_pair_46 : decode cX12_pair 46 = .ok (.ifCond .eq 18, 3) := by decide +kernel
theorem dX12_pair_49 : decode cX12_pair 49 = .ok (.aload_n 0, 1) := by decide +kernel
theorem dX12_pair_50 : decode cX12_pair 50 = .ok (.iload_n 1, 1) := by decide +kernel
theorem dX12_pair_51 : decode cX12_pair 51 = .ok (.iconst 1, 1) := by decide +kernel
theorem dX12_pair_52 : decode cX12_pair 52 = .ok (.iload_n 2, 1) := by decide +kernel
theorem dX12_pair_53 : decode cX12_pair 53 = .ok (.iload_n 3, 1) := by decide +kernel
theorem dX12_pair_54 : decode cX12_pair 54 = .ok (.iload 4, 2) := by decide +kernel
theorem dX12_pair_56 : decode cX12_pair 56 = .ok (.iload 5, 2) := by decide +kernel
theorem dX12_pair_58 : decode cX12_pair 58 = .ok (.invokevirtual 255, 3) := by decide +kernel
theorem dX12_pair_61 : decode cX12_pair 61 = .ok (.goto 4, 3) := by decide +kernel
theorem dX12_pair_64 : decode cX12_pair 64 = .ok (.iconst (-1), 1) := by decide +kernel
theorem dX12_pair_65 : decode cX12_pair 65 = .ok (.ireturn, 1) := by decide +kernel
theorem dX12_starter_0 : decode cX12_starter 0 = .ok (.iload_n 1, 1) := by decide +kernel
theorem dX12_starter_1 : decode cX12_starter 1 = .ok (.iload_n 2, 1) := by decide +kernel
theorem dX12_starter_2 : decode cX12_starter 2 = .ok (.invokestatic 252, 3) := by decide +kernel
theorem dX12_starter_5 : decode cX12_starter 5 = .ok (.ifCond .eq 26, 3) := by decide +kernel
theorem dX12_starter_8 : decode cX12_starter 8 = .ok (.iload_n 3, 1) := by decide +kernel
theorem dX12_starter_9 : decode cX12_starter 9 = .ok (.bipush (-4), 2) := by decide +kernel
theorem dX12_starter_11 : decode cX12_starter 11 = .ok (.iconst 4, 1) := by decide +kernel
theorem dX12_starter_12 : decode cX12_starter 12 = .ok (.invokestatic 79, 3) := by decide +kernel
theorem dX12_starter_15 : decode cX12_starter 15 = .ok (.ifCond .eq 16, 3) := by decide +kernel
theorem dX12_starter_18 : decode cX12_starter 18 = .ok (.aload_n 0, 1) := by decide +kernel
theorem dX12_starter_19 : decode cX12_starter 19 = .ok (.iload_n 1, 1) := by decide +kernel
theorem dX12_starter_20 : decode cX12_starter 20 = .ok (.iconst 2, 1) := by decide +kernel
theorem dX12_starter_21 : decode cX12_starter 21 = .ok (.iload_n 2, 1) := by decide +kernel
theorem dX12_starter_22 : decode cX12_starter 22 = .ok (.iload_n 3, 1) := by decide +kernel
theorem dX12_starter_23 : decode cX12_starter 23 = .ok (.iconst 0, 1) := by decide +kernel
theorem dX12_starter_24 : decode cX12_starter 24 = .ok (.iconst 0, 1) := by decide +kernel
theorem dX12_starter_25 : decode cX12_starter 25 = .ok (.invokevirtual 255, 3) := by decide +kernel
theorem dX12_starter_28 : decode cX12_starter 28 = .ok (.goto 4, 3) := by decide +kernel
theorem dX12_starter_31 : decode cX12_starter 31 = .ok (.iconst (-1), 1) := by decide +kernel
theorem dX12_starter_32 : decode cX12_starter 32 = .ok (.ireturn, 1) := by decide +kernel
theorem dX12_joiner_0 : decode cX12_joiner 0 = .ok (.iload_n 1, 1) := by decide +kernel
theorem dX12_joiner_1 : decode cX12_joiner 1 = .ok (.iload_n 2, 1) := by decide +kernel
theorem dX12_joiner_2 : decode cX12_joiner 2 = .ok (.invokestatic 252, 3) := by decide +kernel
theorem dX12_joiner_5 : decode cX12_joiner 5 = .ok (.ifCond .eq 26, 3) := by decide +kernel
theorem dX12_joiner_8 : decode cX12_joiner 8 = .ok (.iload_n 3, 1) := by decide +kernel
theorem dX12_joiner_9 : decode cX12_joiner 9 = .ok (.bipush (-4), 2) := by decide +kernel
theorem dX12_joiner_11 : decode cX12_joiner 11 = .ok (.iconst 4, 1) := by decide +kernel
theorem dX12_joiner_12 : decode cX12_joiner 12 = .ok (.invokestatic 79, 3) := by decide +kernel
theorem dX12_joiner_15 : decode cX12_joiner 15 = .ok (.ifCond .eq 16, 3) := by decide +kernel
theorem dX12_joiner_18 : decode cX12_joiner 18 = .ok (.aload_n 0, 1) := by decide +kernel
theorem dX12_joiner_19 : decode cX12_joiner 19 = .ok (.iload_n 1, 1) := by decide +kernel
theorem dX12_joiner_20 : decode cX12_joiner 20 = .ok (.iconst 3, 1) := by decide +kernel
theorem dX12_joiner_21 : decode cX12_joiner 21 = .ok (.iload_n 2, 1) := by decide +kernel
theorem dX12_joiner_22 : decode cX12_joiner 22 = .ok (.iload_n 3, 1) := by decide +kernel
theorem dX12_joiner_23 : decode cX12_joiner 23 = .ok (.iconst 0, 1) := by decide +kernel
theorem dX12_joiner_24 : decode cX12_joiner 24 = .ok (.iconst 0, 1) := by decide +kernel
theorem dX12_joiner_25 : decode cX12_joiner 25 = .ok (.invokevirtual 255, 3) := by decide +kernel
theorem dX12_joiner_28 : decode cX12_joiner 28 = .ok (.goto 4, 3) := by decide +kernel
theorem dX12_joiner_31 : decode cX12_joiner 31 = .ok (.iconst (-1), 1) := by decide +kernel
theorem dX12_joiner_32 : decode cX12_joiner 32 = .ok (.ireturn, 1) := by decide +kernel
theorem dX12_dropRule_0 : decode cX12_dropRule 0 = .ok (.iload_n 1, 1) := by decide +kernel
theorem dX12_dropRule_1 : decode cX12_dropRule 1 = .ok (.iconst 0, 1) := by decide +kernel
theorem dX12_dropRule_2 : decode cX12_dropRule 2 = .ok (.bipush 11, 2) := by decide +kernel
theorem dX12_dropRule_4 : decode cX12_dropRule 4 = .ok (.invokestatic 79, 3) := by decide +kernel
theorem dX12_dropRule_7 : decode cX12_dropRule 7 = .ok (.ifCond .eq 12, 3) := by decide +kernel
theorem dX12_dropRule_10 : decode cX12_dropRule 10 = .ok (.aload_n 0, 1) := by decide +kernel
theorem dX12_dropRule_11 : decode cX12_dropRule 11 = .ok (.iload_n 1, 1) := by decide +kernel
theorem dX12_dropRule_12 : decode cX12_dropRule 12 = .ok (.iconst 0, 1) := by decide +kernel
theorem dX12_dropRule_13 : decode cX12_dropRule 13 = .ok (.invokevirtual 120, 3) := by decide +kernel
theorem dX12_dropRule_16 : decode cX12_dropRule 16 = .ok (.ifCond .ne 5, 3) := by decide +kernel
theorem dX12_dropRule_19 : decode cX12_dropRule 19 = .ok (.iconst (-1), 1) := by decide +kernel
theorem dX12_dropRule_20 : decode cX12_dropRule 20 = .ok (.ireturn, 1) := by decide +kernel
theorem dX12_dropRule_21 : decode cX12_dropRule 21 = .ok (.aload_n 0, 1) := by decide +kernel
theorem dX12_dropRule_22 : decode cX12_dropRule 22 = .ok (.invokevirtual 207, 3) := by decide +kernel
theorem dX12_dropRule_25 : decode cX12_dropRule 25 = .ok (.aload_n 0, 1) := by decide +kernel
theorem dX12_dropRule_26 : decode cX12_dropRule 26 = .ok (.getfield 7, 3) := by decide +kernel
theorem dX12_dropRule_29 : decode cX12_dropRule 29 = .ok (.sipush 701, 3) := by decide +kernel
theorem dX12_dropRule_32 : decode cX12_dropRule 32 = .ok (.bipush 23, 2) := by decide +kernel
theorem dX12_dropRule_34 : decode cX12_dropRule 34 = .ok (.iload_n 1, 1) := by decide +kernel
theorem dX12_dropRule_35 : decode cX12_dropRule 35 = .ok (.imul, 1) := by decide +kernel
theorem dX12_dropRule_36 : decode cX12_dropRule 36 = .ok (.iadd, 1) := by decide +kernel
theorem dX12_dropRule_37 : decode cX12_dropRule 37 = .ok (.iconst 0, 1) := by decide +kernel
theorem dX12_dropRule_38 : decode cX12_dropRule 38 = .ok (.iadd, 1) := by decide +kernel
theorem dX12_dropRule_39 : decode cX12_dropRule 39 = .ok (.iconst 0, 1) := by decide +kernel
theorem dX12_dropRule_40 : decode cX12_dropRule 40 = .ok (.iastore, 1) := by decide +kernel
theorem dX12_dropRule_41 : decode cX12_dropRule 41 = .ok (.iconst 0, 1) := by decide +kernel
theorem dX12_dropRule_42 : decode cX12_dropRule 42 = .ok (.istore_n 2, 1) := by decide +kernel
theorem dX12_dropRule_43 : decode cX12_dropRule 43 = .ok (.iconst 0, 1) := by decide +kernel
theorem dX12_dropRule_44 : decode cX12_dropRule 44 = .ok (.istore_n 3, 1) := by decide +kernel
theorem dX12_dropRule_45 : decode cX12_dropRule 45 = .ok (.iload_n 3, 1) := by decide +kernel
theorem dX12_dropRule_46 : decode cX12_dropRule 46 = .ok (.bipush 12, 2) := by decide +kernel
theorem dX12_dropRule_48 : decode cX12_dropRule 48 = .ok (.if_icmp .ge 26, 3) := by decide +kernel
theorem dX12_dropRule_51 : decode cX12_dropRule 51 = .ok (.iload_n 2, 1) := by decide +kernel
theorem dX12_dropRule_52 : decode cX12_dropRule 52 = .ok (.aload_n 0, 1) := by decide +kernel
theorem dX12_dropRule_53 : decode cX12_dropRule 53 = .ok (.iload_n 3, 1) := by decide +kernel
theorem dX12_dropRule_54 : decode cX12_dropRule 54 = .ok (.iconst 0, 1) := by decide +kernel
theorem dX12_dropRule_55 : decode cX12_dropRule 55 = .ok (.invokevirtual 120, 3) := by decide +kernel
theorem dX12_dropRule_58 : decode cX12_dropRule 58 = .ok (.ifCond .le 7, 3) := by decide +kernel
theorem dX12_dropRule_61 : decode cX12_dropRule 61 = .ok (.iconst 1, 1) := by decide +kernel
theorem dX12_dropRule_62 : decode cX12_dropRule 62 = .ok (.goto 4, 3) := by decide +kernel
theorem dX12_dropRule_65 : decode cX12_dropRule 65 = .ok (.iconst 0, 1) := by decide +kernel
theorem dX12_dropRule_66 : decode cX12_dropRule 66 = .ok (.iadd, 1) := by decide +kernel
theorem dX12_dropRule_67 : decode cX12_dropRule 67 = .ok (.istore_n 2, 1) := by decide +kernel
theorem dX12_dropRule_68 : decode cX12_dropRule 68 = .ok (.iinc 3 1, 3) := by decide +kernel
theorem dX12_dropRule_71 : decode cX12_dropRule 71 = .ok (.goto (-26), 3) := by decide +kernel
theorem dX12_dropRule_74 : decode cX12_dropRule 74 = .ok (.iload_n 2, 1) := by decide +kernel
theorem dX12_dropRule_75 : decode cX12_dropRule 75 = .ok (.ireturn, 1) := by decide +kernel
theorem dX12_isDecided_0 : decode cX12_isDecided 0 = .ok (.aload_n 0, 1) := by decide +kernel
theorem dX12_isDecided_1 : decode cX12_isDecided 1 = .ok (.aload_n 0, 1) := by decide +kernel
theorem dX12_isDecided_2 : decode cX12_isDecided 2 = .ok (.getfield 7, 3) := by decide +kernel
theorem dX12_isDecided_5 : decode cX12_isDecided 5 = .ok (.sipush 977, 3) := by decide +kernel
theorem dX12_isDecided_8 : decode cX12_isDecided 8 = .ok (.iaload, 1) := by decide +kernel
theorem dX12_isDecided_9 : decode cX12_isDecided 9 = .ok (.aload_n 0, 1) := by decide +kernel
theorem dX12_isDecided_10 : decode cX12_isDecided 10 = .ok (.getfield 7, 3) := by decide +kernel
theorem dX12_isDecided_13 : decode cX12_isDecided 13 = .ok (.sipush 978, 3) := by decide +kernel
theorem dX12_isDecided_16 : decode cX12_isDecided 16 = .ok (.iaload, 1) := by decide +kernel
theorem dX12_isDecided_17 : decode cX12_isDecided 17 = .ok (.invokevirtual 222, 3) := by decide +kernel
theorem dX12_isDecided_20 : decode cX12_isDecided 20 = .ok (.aload_n 0, 1) := by decide +kernel
theorem dX12_isDecided_21 : decode cX12_isDecided 21 = .ok (.iload_n 1, 1) := by decide +kernel
theorem dX12_isDecided_22 : decode cX12_isDecided 22 = .ok (.invokevirtual 185, 3) := by decide +kernel
theorem dX12_isDecided_25 : decode cX12_isDecided 25 = .ok (.istore_n 2, 1) := by decide +kernel
theorem dX12_isDecided_26 : decode cX12_isDecided 26 = .ok (.iload_n 2, 1) := by decide +kernel
theorem dX12_isDecided_27 : decode cX12_isDecided 27 = .ok (.ifCond .eq 8, 3) := by decide +kernel
theorem dX12_isDecided_30 : decode cX12_isDecided 30 = .ok (.aload_n 0, 1) := by decide +kernel
theorem dX12_isDecided_31 : decode cX12_isDecided 31 = .ok (.iload_n 1, 1) := by decide +kernel
theorem dX12_isDecided_32 : decode cX12_isDecided 32 = .ok (.invokevirtual 188, 3) := by decide +kernel
theorem dX12_isDecided_35 : decode cX12_isDecided 35 = .ok (.iload_n 2, 1) := by decide +kernel
theorem dX12_isDecided_36 : decode cX12_isDecided 36 = .ok (.ireturn, 1) := by decide +kernel
theorem dX12_wanted_0 : decode cX12_wanted 0 = .ok (.aload_n 0, 1) := by decide +kernel
theorem dX12_wanted_1 : decode cX12_wanted 1 = .ok (.iload_n 1, 1) := by decide +kernel
theorem dX12_wanted_2 : decode cX12_wanted 2 = .ok (.invokevirtual 216, 3) := by decide +kernel
theorem dX12_wanted_5 : decode cX12_wanted 5 = .ok (.ifCond .ne 5, 3) := by decide +kernel
theorem dX12_wanted_8 : decode cX12_wanted 8 = .ok (.iconst (-1), 1) := by decide +kernel
theorem dX12_wanted_9 : decode cX12_wanted 9 = .ok (.ireturn, 1) := by decide +kernel
theorem dX12_wanted_10 : decode cX12_wanted 10 = .ok (.aload_n 0, 1) := by decide +kernel
theorem dX12_wanted_11 : decode cX12_wanted 11 = .ok (.iload_n 1, 1) := by decide +kernel
theorem dX12_wanted_12 : decode cX12_wanted 12 = .ok (.invokevirtual 259, 3) := by decide +kernel
theorem dX12_wanted_15 : decode cX12_wanted 15 = .ok (.ifCond .eq 10, 3) := by decide +kernel
theorem dX12_wanted_18 : decode cX12_wanted 18 = .ok (.aload_n 0, 1) := by decide +kernel
theorem dX12_wanted_19 : decode cX12_wanted 19 = .ok (.getfield 170, 3) := by decide +kernel
theorem dX12_wanted_22 : decode cX12_wanted 22 = .ok (.goto 5, 3) := by decide +kernel
theorem dX12_wanted_25 : decode cX12_wanted 25 = .ok (.bipush (-9), 2) := by decide +kernel
theorem dX12_wanted_27 : decode cX12_wanted 27 = .ok (.ireturn, 1) := by decide +kernel
theorem dX12_reason_0 : decode cX12_reason 0 = .ok (.aload_n 0, 1) := by decide +kernel
theorem dX12_reason_1 : decode cX12_reason 1 = .ok (.iload_n 1, 1) := by decide +kernel
theorem dX12_reason_2 : decode cX12_reason 2 = .ok (.invokevirtual 216, 3) := by decide +kernel
theorem dX12_reason_5 : decode cX12_reason 5 = .ok (.ifCond .ne 5, 3) := by decide +kernel
theorem dX12_reason_8 : decode cX12_reason 8 = .ok (.iconst (-1), 1) := by decide +kernel
theorem dX12_reason_9 : decode cX12_reason 9 = .ok (.ireturn, 1) := by decide +kernel
theorem dX12_reason_10 : decode cX12_reason 10 = .ok (.aload_n 0, 1) := by decide +kernel
theorem dX12_reason_11 : decode cX12_reason 11 = .ok (.iload_n 1, 1) := by decide +kernel
theorem dX12_reason_12 : decode cX12_reason 12 = .ok (.invokevirtual 259, 3) := by decide +kernel
theorem dX12_reason_15 : decode cX12_reason 15 = .ok (.ifCond .eq 10, 3) := by decide +kernel
theorem dX12_reason_18 : decode cX12_reason 18 = .ok (.aload_n 0, 1) := by decide +kernel
theorem dX12_reason_19 : decode cX12_reason 19 = .ok (.getfield 173, 3) := by decide +kernel
theorem dX12_reason_22 : decode cX12_reason 22 = .ok (.goto 5, 3) := by decide +kernel
theorem dX12_reason_25 : decode cX12_reason 25 = .ok (.bipush (-9), 2) := by decide +kernel
theorem dX12_reason_27 : decode cX12_reason 27 = .ok (.ireturn, 1) := by decide +kernel
theorem dX12_decidingRule_0 : decode cX12_decidingRule 0 = .ok (.aload_n 0, 1) := by decide +kernel
theorem dX12_decidingRule_1 : decode cX12_decidingRule 1 = .ok (.iload_n 1, 1) := by decide +kernel
theorem dX12_decidingRule_2 : decode cX12_decidingRule 2 = .ok (.invokevirtual 216, 3) := by decide +kernel
theorem dX12_decidingRule_5 : decode cX12_decidingRule 5 = .ok (.ifCond .ne 5, 3) := by decide +kernel
theorem dX12_decidingRule_8 : decode cX12_decidingRule 8 = .ok (.iconst (-1), 1) := by decide +kernel
theorem dX12_decidingRule_9 : decode cX12_decidingRule 9 = .ok (.ireturn, 1) := by decide +kernel
theorem dX12_decidingRule_10 : decode cX12_decidingRule 10 = .ok (.aload_n 0, 1) := by decide +kernel
theorem dX12_decidingRule_11 : decode cX12_decidingRule 11 = .ok (.iload_n 1, 1) := by decide +kernel
theorem dX12_decidingRule_12 : decode cX12_decidingRule 12 = .ok (.invokevirtual 259, 3) := by decide +kernel
theorem dX12_decidingRule_15 : decode cX12_decidingRule 15 = .ok (.ifCond .eq 10, 3) := by decide +kernel
theorem dX12_decidingRule_18 : decode cX12_decidingRule 18 = .ok (.aload_n 0, 1) := by decide +kernel
theorem dX12_decidingRule_19 : decode cX12_decidingRule 19 = .ok (.getfield 176, 3) := by decide +kernel
theorem dX12_decidingRule_22 : decode cX12_decidingRule 22 = .ok (.goto 5, 3) := by decide +kernel
theorem dX12_decidingRule_25 : decode cX12_decidingRule 25 = .ok (.bipush (-9), 2) := by decide +kernel
theorem dX12_decidingRule_27 : decode cX12_decidingRule 27 = .ok (.ireturn, 1) := by decide +kernel
theorem dX12_wouldChange_0 : decode cX12_wouldChange 0 = .ok (.aload_n 0, 1) := by decide +kernel
theorem dX12_wouldChange_1 : decode cX12_wouldChange 1 = .ok (.aload_n 0, 1) := by decide +kernel
theorem dX12_wouldChange_2 : decode cX12_wouldChange 2 = .ok (.getfield 7, 3) := by decide +kernel
theorem dX12_wouldChange_5 : decode cX12_wouldChange 5 = .ok (.sipush 977, 3) := by decide +kernel
theorem dX12_wouldChange_8 : decode cX12_wouldChange 8 = .ok (.iaload, 1) := by decide +kernel
theorem dX12_wouldChange_9 : decode cX12_wouldChange 9 = .ok (.aload_n 0, 1) := by decide +kernel
theorem dX12_wouldChange_10 : decode cX12_wouldChange 10 = .ok (.getfield 7, 3) := by decide +kernel
theorem dX12_wouldChange_13 : decode cX12_wouldChange 13 = .ok (.sipush 978, 3) := by decide +kernel
theorem dX12_wouldChange_16 : decode cX12_wouldChange 16 = .ok (.iaload, 1) := by decide +kernel
theorem dX12_wouldChange_17 : decode cX12_wouldChange 17 = .ok (.invokevirtual 222, 3) := by decide +kernel
theorem dX12_wouldChange_20 : decode cX12_wouldChange 20 = .ok (.aload_n 0, 1) := by decide +kernel
theorem dX12_wouldChange_21 : decode cX12_wouldChange 21 = .ok (.iconst 0, 1) := by decide +kernel
theorem dX12_wouldChange_22 : decode cX12_wouldChange 22 = .ok (.aload_n 0, 1) := by decide +kernel
theorem dX12_wouldChange_23 : decode cX12_wouldChange 23 = .ok (.getfield 7, 3) := by decide +kernel
theorem dX12_wouldChange_26 : decode cX12_wouldChange 26 = .ok (.iconst 0, 1) := by decide +kernel
theorem dX12_wouldChange_27 : decode cX12_wouldChange 27 = .ok (.iaload, 1) := by decide +kernel
theorem dX12_wouldChange_28 : decode cX12_wouldChange 28 = .ok (.invokevirtual 228, 3) := by decide +kernel
theorem dX12_wouldChange_31 : decode cX12_wouldChange 31 = .ok (.ireturn, 1) := by decide +kernel
theorem dX12_changesBy_0 : decode cX12_changesBy 0 = .ok (.aload_n 0, 1) := by decide +kernel
theorem dX12_changesBy_1 : decode cX12_changesBy 1 = .ok (.iload_n 1, 1) := by decide +kernel
theorem dX12_changesBy_2 : decode cX12_changesBy 2 = .ok (.iload_n 2, 1) := by decide +kernel
theorem dX12_changesBy_3 : decode cX12_changesBy 3 = .ok (.invokevirtual 222, 3) := by decide +kernel
theorem dX12_changesBy_6 : decode cX12_changesBy 6 = .ok (.aload_n 0, 1) := by decide +kernel
theorem dX12_changesBy_7 : decode cX12_changesBy 7 = .ok (.iconst 0, 1) := by decide +kernel
theorem dX12_changesBy_8 : decode cX12_changesBy 8 = .ok (.aload_n 0, 1) := by decide +kernel
theorem dX12_changesBy_9 : decode cX12_changesBy 9 = .ok (.getfield 7, 3) := by decide +kernel
theorem dX12_changesBy_12 : decode cX12_changesBy 12 = .ok (.iconst 0, 1) := by decide +kernel
theorem dX12_changesBy_13 : decode cX12_changesBy 13 = .ok (.iaload, 1) := by decide +kernel
theorem dX12_changesBy_14 : decode cX12_changesBy 14 = .ok (.invokevirtual 228, 3) := by decide +kernel
theorem dX12_changesBy_17 : decode cX12_changesBy 17 = .ok (.invokestatic 231, 3) := by decide +kernel
theorem dX12_changesBy_20 : decode cX12_changesBy 20 = .ok (.ireturn, 1) := by decide +kernel
theorem dX12_changesWith_0 : decode cX12_changesWith 0 = .ok (.iload_n 1, 1) := by decide +kernel
theorem dX12_changesWith_1 : decode cX12_changesWith 1 = .ok (.iconst 1, 1) := by decide +kernel
theorem dX12_changesWith_2 : decode cX12_changesWith 2 = .ok (.bipush 8, 2) := by decide +kernel
theorem dX12_changesWith_4 : decode cX12_changesWith 4 = .ok (.invokestatic 79, 3) := by decide +kernel
theorem dX12_changesWith_7 : decode cX12_changesWith 7 = .ok (.ifCond .eq 22, 3) := by decide +kernel
theorem dX12_changesWith_10 : decode cX12_changesWith 10 = .ok (.iload_n 2, 1) := by decide +kernel
theorem dX12_changesWith_11 : decode cX12_changesWith 11 = .ok (.iconst 0, 1) := by decide +kernel
theorem dX12_changesWith_12 : decode cX12_changesWith 12 = .ok (.bipush 20, 2) := by decide +kernel
theorem dX12_changesWith_14 : decode cX12_changesWith 14 = .ok (.invokestatic 79, 3) := by decide +kernel
theorem dX12_changesWith_17 : decode cX12_changesWith 17 = .ok (.ifCond .eq 12, 3) := by decide +kernel
theorem dX12_changesWith_20 : decode cX12_changesWith 20 = .ok (.aload_n 0, 1) := by decide +kernel
theorem dX12_changesWith_21 : decode cX12_changesWith 21 = .ok (.iload_n 1, 1) := by decide +kernel
theorem dX12_changesWith_22 : decode cX12_changesWith 22 = .ok (.iload_n 2, 1) := by decide +kernel
theorem dX12_changesWith_23 : decode cX12_changesWith 23 = .ok (.invokevirtual 262, 3) := by decide +kernel
theorem dX12_changesWith_26 : decode cX12_changesWith 26 = .ok (.goto 4, 3) := by decide +kernel
theorem dX12_changesWith_29 : decode cX12_changesWith 29 = .ok (.iconst (-1), 1) := by decide +kernel
theorem dX12_changesWith_30 : decode cX12_changesWith 30 = .ok (.ireturn, 1) := by decide +kernel
theorem dX12_searches_0 : decode cX12_searches 0 = .ok (.aload_n 0, 1) := by decide +kernel
theorem dX12_searches_1 : decode cX12_searches 1 = .ok (.bipush 21, 2) := by decide +kernel
theorem dX12_searches_3 : decode cX12_searches 3 = .ok (.putfield 265, 3) := by decide +kernel
theorem dX12_searches_6 : decode cX12_searches 6 = .ok (.iconst 1, 1) := by decide +kernel
theorem dX12_searches_7 : decode cX12_searches 7 = .ok (.istore_n 1, 1) := by decide +kernel
theorem dX12_searches_8 : decode cX12_searches 8 = .ok (.iload_n 1, 1) := by decide +kernel
theorem dX12_searches_9 : decode cX12_searches 9 = .ok (.bipush 8, 2) := by decide +kernel
theorem dX12_searches_11 : decode cX12_searches 11 = .ok (.if_icmp .gt 53, 3) := by decide +kernel
theorem dX12_searches_14 : decode cX12_searches 14 = .ok (.iconst 0, 1) := by decide +kernel
theorem dX12_searches_15 : decode cX12_searches 15 = .ok (.istore_n 2, 1) := by decide +kernel
theorem dX12_searches_16 : decode cX12_searches 16 = .ok (.iload_n 2, 1) := by decide +kernel
theorem dX12_searches_17 : decode cX12_searches 17 = .ok (.bipush 20, 2) := by decide +kernel
theorem dX12_searches_19 : decode cX12_searches 19 = .ok (.if_icmp .gt 39, 3) := by decide +kernel
theorem dX12_searches_22 : decode cX12_searches 22 = .ok (.aload_n 0, 1) := by decide +kernel
theorem dX12_searches_23 : decode cX12_searches 23 = .ok (.iload_n 1, 1) := by decide +kernel
theorem dX12_searches_24 : decode cX12_searches 24 = .ok (.iload_n 2, 1) := by decide +kernel
theorem dX12_searches_25 : decode cX12_searches 25 = .ok (.invokevirtual 262, 3) := by decide +kernel
theorem dX12_searches_28 : decode cX12_searches 28 = .ok (.istore_n 3, 1) := by decide +kernel
theorem dX12_searches_29 : decode cX12_searches 29 = .ok (.iload_n 3, 1) := by decide +kernel
theorem dX12_searches_30 : decode cX12_searches 30 = .ok (.aload_n 0, 1) := by decide +kernel
theorem dX12_searches_31 : decode cX12_searches 31 = .ok (.getfield 265, 3) := by decide +kernel
theorem dX12_searches_34 : decode cX12_searches 34 = .ok (.if_icmp .ge 18, 3) := by decide +kernel
theorem dX12_searches_37 : decode cX12_searches 37 = .ok (.aload_n 0, 1) := by decide +kernel
theorem dX12_searches_38 : decode cX12_searches 38 = .ok (.iload_n 3, 1) := by decide +kernel
theorem dX12_searches_39 : decode cX12_searches 39 = .ok (.putfield 265, 3) := by decide +kernel
theorem dX12_searches_42 : decode cX12_searches 42 = .ok (.aload_n 0, 1) := by decide +kernel
theorem dX12_searches_43 : decode cX12_searches 43 = .ok (.iload_n 1, 1) := by decide +kernel
theorem dX12_searches_44 : decode cX12_searches 44 = .ok (.putfield 268, 3) := by decide +kernel
theorem dX12_searches_47 : decode cX12_searches 47 = .ok (.aload_n 0, 1) := by decide +kernel
theorem dX12_searches_48 : decode cX12_searches 48 = .ok (.iload_n 2, 1) := by decide +kernel
theorem dX12_searches_49 : decode cX12_searches 49 = .ok (.putfield 271, 3) := by decide +kernel
theorem dX12_searches_52 : decode cX12_searches 52 = .ok (.iinc 2 1, 3) := by decide +kernel
theorem dX12_searches_55 : decode cX12_searches 55 = .ok (.goto (-39), 3) := by decide +kernel
theorem dX12_searches_58 : decode cX12_searches 58 = .ok (.iinc 1 1, 3) := by decide +kernel
theorem dX12_searches_61 : decode cX12_searches 61 = .ok (.goto (-53), 3) := by decide +kernel
theorem dX12_searches_64 : decode cX12_searches 64 = .ok (.return_, 1) := by decide +kernel
theorem dX12_fewestChanges_0 : decode cX12_fewestChanges 0 = .ok (.aload_n 0, 1) := by decide +kernel
theorem dX12_fewestChanges_1 : decode cX12_fewestChanges 1 = .ok (.invokevirtual 274, 3) := by decide +kernel
theorem dX12_fewestChanges_4 : decode cX12_fewestChanges 4 = .ok (.aload_n 0, 1) := by decide +kernel
theorem dX12_fewestChanges_5 : decode cX12_fewestChanges 5 = .ok (.getfield 265, 3) := by decide +kernel
theorem dX12_fewestChanges_8 : decode cX12_fewestChanges 8 = .ok (.ireturn, 1) := by decide +kernel
theorem dX12_bestStep_0 : decode cX12_bestStep 0 = .ok (.aload_n 0, 1) := by decide +kernel
theorem dX12_bestStep_1 : decode cX12_bestStep 1 = .ok (.invokevirtual 274, 3) := by decide +kernel
theorem dX12_bestStep_4 : decode cX12_bestStep 4 = .ok (.aload_n 0, 1) := by decide +kernel
theorem dX12_bestStep_5 : decode cX12_bestStep 5 = .ok (.getfield 268, 3) := by decide +kernel
theorem dX12_bestStep_8 : decode cX12_bestStep 8 = .ok (.ireturn, 1) := by decide +kernel
theorem dX12_bestBase_0 : decode cX12_bestBase 0 = .ok (.aload_n 0, 1) := by decide +kernel
theorem dX12_bestBase_1 : decode cX12_bestBase 1 = .ok (.invokevirtual 274, 3) := by decide +kernel
theorem dX12_bestBase_4 : decode cX12_bestBase 4 = .ok (.aload_n 0, 1) := by decide +kernel
theorem dX12_bestBase_5 : decode cX12_bestBase 5 = .ok (.getfield 271, 3) := by decide +kernel
theorem dX12_bestBase_8 : decode cX12_bestBase 8 = .ok (.ireturn, 1) := by decide +kernel
theorem dX12_tokenOf_0 : decode cX12_tokenOf 0 = .ok (.aload_n 0, 1) := by decide +kernel
theorem dX12_tokenOf_1 : decode cX12_tokenOf 1 = .ok (.iload_n 1, 1) := by decide +kernel
theorem dX12_tokenOf_2 : decode cX12_tokenOf 2 = .ok (.invokevirtual 216, 3) := by decide +kernel
theorem dX12_tokenOf_5 : decode cX12_tokenOf 5 = .ok (.ifCond .ne 6, 3) := by decide +kernel
theorem dX12_tokenOf_8 : decode cX12_tokenOf 8 = .ok (.bipush (-9), 2) := by decide +kernel
theorem dX12_tokenOf_10 : decode cX12_tokenOf 10 = .ok (.ireturn, 1) := by decide +kernel
theorem dX12_tokenOf_11 : decode cX12_tokenOf 11 = .ok (.aload_n 0, 1) := by decide +kernel
theorem dX12_tokenOf_12 : decode cX12_tokenOf 12 = .ok (.invokevirtual 151, 3) := by decide +kernel
theorem dX12_tokenOf_15 : decode cX12_tokenOf 15 = .ok (.iload_n 2, 1) := by decide +kernel
theorem dX12_tokenOf_16 : decode cX12_tokenOf 16 = .ok (.iconst 0, 1) := by decide +kernel
theorem dX12_tokenOf_17 : decode cX12_tokenOf 17 = .ok (.aload_n 0, 1) := by decide +kernel
theorem dX12_tokenOf_18 : decode cX12_tokenOf 18 = .ok (.getfield 41, 3) := by decide +kernel
theorem dX12_tokenOf_21 : decode cX12_tokenOf 21 = .ok (.iload_n 1, 1) := by decide +kernel
theorem dX12_tokenOf_22 : decode cX12_tokenOf 22 = .ok (.iconst 1, 1) := by decide +kernel
theorem dX12_tokenOf_23 : decode cX12_tokenOf 23 = .ok (.iadd, 1) := by decide +kernel
theorem dX12_tokenOf_24 : decode cX12_tokenOf 24 = .ok (.iaload, 1) := by decide +kernel
theorem dX12_tokenOf_25 : decode cX12_tokenOf 25 = .ok (.aload_n 0, 1) := by decide +kernel
theorem dX12_tokenOf_26 : decode cX12_tokenOf 26 = .ok (.getfield 41, 3) := by decide +kernel
theorem dX12_tokenOf_29 : decode cX12_tokenOf 29 = .ok (.iload_n 1, 1) := by decide +kernel
theorem dX12_tokenOf_30 : decode cX12_tokenOf 30 = .ok (.iaload, 1) := by decide +kernel
theorem dX12_tokenOf_31 : decode cX12_tokenOf 31 = .ok (.isub, 1) := by decide +kernel
theorem dX12_tokenOf_32 : decode cX12_tokenOf 32 = .ok (.iconst 1, 1) := by decide +kernel
theorem dX12_tokenOf_33 : decode cX12_tokenOf 33 = .ok (.isub, 1) := by decide +kernel
theorem dX12_tokenOf_34 : decode cX12_tokenOf 34 = .ok (.invokestatic 79, 3) := by decide +kernel
theorem dX12_tokenOf_37 : decode cX12_tokenOf 37 = .ok (.ifCond .eq 14, 3) := by decide +kernel
theorem dX12_tokenOf_40 : decode cX12_tokenOf 40 = .ok (.aload_n 0, 1) := by decide +kernel
theorem dX12_tokenOf_41 : decode cX12_tokenOf 41 = .ok (.getfield 41, 3) := by decide +kernel
theorem dX12_tokenOf_44 : decode cX12_tokenOf 44 = .ok (.iload_n 1, 1) := by decide +kernel
theorem dX12_tokenOf_45 : decode cX12_tokenOf 45 = .ok (.iaload, 1) := by decide +kernel
theorem dX12_tokenOf_46 : decode cX12_tokenOf 46 = .ok (.iload_n 2, 1) := by decide +kernel
theorem dX12_tokenOf_47 : decode cX12_tokenOf 47 = .ok (.iadd, 1) := by decide +kernel
theorem dX12_tokenOf_48 : decode cX12_tokenOf 48 = .ok (.goto 5, 3) := by decide +kernel
theorem dX12_tokenOf_51 : decode cX12_tokenOf 51 = .ok (.bipush (-9), 2) := by decide +kernel
theorem dX12_tokenOf_53 : decode cX12_tokenOf 53 = .ok (.ireturn, 1) := by decide +kernel
theorem dX12_tokens_0 : decode cX12_tokens 0 = .ok (.aload_n 0, 1) := by decide +kernel
theorem dX12_tokens_1 : decode cX12_tokens 1 = .ok (.iload_n 1, 1) := by decide +kernel
theorem dX12_tokens_2 : decode cX12_tokens 2 = .ok (.invokevirtual 216, 3) := by decide +kernel
theorem dX12_tokens_5 : decode cX12_tokens 5 = .ok (.ifCond .ne 5, 3) := by decide +kernel
theorem dX12_tokens_8 : decode cX12_tokens 8 = .ok (.iconst (-1), 1) := by decide +kernel
theorem dX12_tokens_9 : decode cX12_tokens 9 = .ok (.ireturn, 1) := by decide +kernel
theorem dX12_tokens_10 : decode cX12_tokens 10 = .ok (.aload_n 0, 1) := by decide +kernel
theorem dX12_tokens_11 : decode cX12_tokens 11 = .ok (.invokevirtual 138, 3) := by decide +kernel
theorem dX12_tokens_14 : decode cX12_tokens 14 = .ok (.aload_n 0, 1) := by decide +kernel
theorem dX12_tokens_15 : decode cX12_tokens 15 = .ok (.getfield 41, 3) := by decide +kernel
theorem dX12_tokens_18 : decode cX12_tokens 18 = .ok (.iload_n 1, 1) := by decide +kernel
theorem dX12_tokens_19 : decode cX12_tokens 19 = .ok (.iconst 1, 1) := by decide +kernel
theorem dX12_tokens_20 : decode cX12_tokens 20 = .ok (.iadd, 1) := by decide +kernel
theorem dX12_tokens_21 : decode cX12_tokens 21 = .ok (.iaload, 1) := by decide +kernel
theorem dX12_tokens_22 : decode cX12_tokens 22 = .ok (.aload_n 0, 1) := by decide +kernel
theorem dX12_tokens_23 : decode cX12_tokens 23 = .ok (.getfield 41, 3) := by decide +kernel
theorem dX12_tokens_26 : decode cX12_tokens 26 = .ok (.iload_n 1, 1) := by decide +kernel
theorem dX12_tokens_27 : decode cX12_tokens 27 = .ok (.iaload, 1) := by decide +kernel
theorem dX12_tokens_28 : decode cX12_tokens 28 = .ok (.isub, 1) := by decide +kernel
theorem dX12_tokens_29 : decode cX12_tokens 29 = .ok (.ireturn, 1) := by decide +kernel
theorem dX12_tokenAt_0 : decode cX12_tokenAt 0 = .ok (.aload_n 0, 1) := by decide +kernel
theorem dX12_tokenAt_1 : decode cX12_tokenAt 1 = .ok (.iload_n 1, 1) := by decide +kernel
theorem dX12_tokenAt_2 : decode cX12_tokenAt 2 = .ok (.iload_n 2, 1) := by decide +kernel
theorem dX12_tokenAt_3 : decode cX12_tokenAt 3 = .ok (.invokevirtual 277, 3) := by decide +kernel
theorem dX12_tokenAt_6 : decode cX12_tokenAt 6 = .ok (.istore_n 3, 1) := by decide +kernel
theorem dX12_tokenAt_7 : decode cX12_tokenAt 7 = .ok (.iload_n 3, 1) := by decide +kernel
theorem dX12_tokenAt_8 : decode cX12_tokenAt 8 = .ok (.bipush (-9), 2) := by decide +kernel
theorem dX12_tokenAt_10 : decode cX12_tokenAt 10 = .ok (.if_icmp .ne 7, 3) := by decide +kernel
theorem dX12_tokenAt_13 : decode cX12_tokenAt 13 = .ok (.iconst (-1), 1) := by decide +kernel
theorem dX12_tokenAt_14 : decode cX12_tokenAt 14 = .ok (.goto 9, 3) := by decide +kernel
theorem dX12_tokenAt_17 : decode cX12_tokenAt 17 = .ok (.aload_n 0, 1) := by decide +kernel
theorem dX12_tokenAt_18 : decode cX12_tokenAt 18 = .ok (.getfield 23, 3) := by decide +kernel
theorem dX12_tokenAt_21 : decode cX12_tokenAt 21 = .ok (.iload_n 3, 1) := by decide +kernel
theorem dX12_tokenAt_22 : decode cX12_tokenAt 22 = .ok (.iaload, 1) := by decide +kernel
theorem dX12_tokenAt_23 : decode cX12_tokenAt 23 = .ok (.ireturn, 1) := by decide +kernel
theorem dX12_tokenLength_0 : decode cX12_tokenLength 0 = .ok (.aload_n 0, 1) := by decide +kernel
theorem dX12_tokenLength_1 : decode cX12_tokenLength 1 = .ok (.iload_n 1, 1) := by decide +kernel
theorem dX12_tokenLength_2 : decode cX12_tokenLength 2 = .ok (.iload_n 2, 1) := by decide +kernel
theorem dX12_tokenLength_3 : decode cX12_tokenLength 3 = .ok (.invokevirtual 277, 3) := by decide +kernel
theorem dX12_tokenLength_6 : decode cX12_tokenLength 6 = .ok (.istore_n 3, 1) := by decide +kernel
theorem dX12_tokenLength_7 : decode cX12_tokenLength 7 = .ok (.iload_n 3, 1) := by decide +kernel
theorem dX12_tokenLength_8 : decode cX12_tokenLength 8 = .ok (.bipush (-9), 2) := by decide +kernel
theorem dX12_tokenLength_10 : decode cX12_tokenLength 10 = .ok (.if_icmp .ne 7, 3) := by decide +kernel
theorem dX12_tokenLength_13 : decode cX12_tokenLength 13 = .ok (.iconst (-1), 1) := by decide +kernel
theorem dX12_tokenLength_14 : decode cX12_tokenLength 14 = .ok (.goto 9, 3) := by decide +kernel
theorem dX12_tokenLength_17 : decode cX12_tokenLength 17 = .ok (.aload_n 0, 1) := by decide +kernel
theorem dX12_tokenLength_18 : decode cX12_tokenLength 18 = .ok (.getfield 26, 3) := by decide +kernel
theorem dX12_tokenLength_21 : decode cX12_tokenLength 21 = .ok (.iload_n 3, 1) := by decide +kernel
theorem dX12_tokenLength_22 : decode cX12_tokenLength 22 = .ok (.iaload, 1) := by decide +kernel
theorem dX12_tokenLength_23 : decode cX12_tokenLength 23 = .ok (.ireturn, 1) := by decide +kernel
theorem dX12_tokenKind_0 : decode cX12_tokenKind 0 = .ok (.aload_n 0, 1) := by decide +kernel
theorem dX12_tokenKind_1 : decode cX12_tokenKind 1 = .ok (.iload_n 1, 1) := by decide +kernel
theorem dX12_tokenKind_2 : decode cX12_tokenKind 2 = .ok (.iload_n 2, 1) := by decide +kernel
theorem dX12_tokenKind_3 : decode cX12_tokenKind 3 = .ok (.invokevirtual 277, 3) := by decide +kernel
theorem dX12_tokenKind_6 : decode cX12_tokenKind 6 = .ok (.istore_n 3, 1) := by decide +kernel
theorem dX12_tokenKind_7 : decode cX12_tokenKind 7 = .ok (.iload_n 3, 1) := by decide +kernel
theorem dX12_tokenKind_8 : decode cX12_tokenKind 8 = .ok (.bipush (-9), 2) := by decide +kernel
theorem dX12_tokenKind_10 : decode cX12_tokenKind 10 = .ok (.if_icmp .ne 7, 3) := by decide +kernel
theorem dX12_tokenKind_13 : decode cX12_tokenKind 13 = .ok (.iconst (-1), 1) := by decide +kernel
theorem dX12_tokenKind_14 : decode cX12_tokenKind 14 = .ok (.goto 9, 3) := by decide +kernel
theorem dX12_tokenKind_17 : decode cX12_tokenKind 17 = .ok (.aload_n 0, 1) := by decide +kernel
theorem dX12_tokenKind_18 : decode cX12_tokenKind 18 = .ok (.getfield 29, 3) := by decide +kernel
theorem dX12_tokenKind_21 : decode cX12_tokenKind 21 = .ok (.iload_n 3, 1) := by decide +kernel
theorem dX12_tokenKind_22 : decode cX12_tokenKind 22 = .ok (.iaload, 1) := by decide +kernel
theorem dX12_tokenKind_23 : decode cX12_tokenKind 23 = .ok (.ireturn, 1) := by decide +kernel
theorem dX12_placeOf_0 : decode cX12_placeOf 0 = .ok (.iload_n 1, 1) := by decide +kernel
theorem dX12_placeOf_1 : decode cX12_placeOf 1 = .ok (.bipush (-9), 2) := by decide +kernel
theorem dX12_placeOf_3 : decode cX12_placeOf 3 = .ok (.if_icmp .ne 8, 3) := by decide +kernel
theorem dX12_placeOf_6 : decode cX12_placeOf 6 = .ok (.bipush (-9), 2) := by decide +kernel
theorem dX12_placeOf_8 : decode cX12_placeOf 8 = .ok (.goto 26, 3) := by decide +kernel
theorem dX12_placeOf_11 : decode cX12_placeOf 11 = .ok (.bipush 100, 2) := by decide +kernel
theorem dX12_placeOf_13 : decode cX12_placeOf 13 = .ok (.aload_n 0, 1) := by decide +kernel
theorem dX12_placeOf_14 : decode cX12_placeOf 14 = .ok (.getfield 20, 3) := by decide +kernel
theorem dX12_placeOf_17 : decode cX12_placeOf 17 = .ok (.iload_n 1, 1) := by decide +kernel
theorem dX12_placeOf_18 : decode cX12_placeOf 18 = .ok (.iaload, 1) := by decide +kernel
theorem dX12_placeOf_19 : decode cX12_placeOf 19 = .ok (.imul, 1) := by decide +kernel
theorem dX12_placeOf_20 : decode cX12_placeOf 20 = .ok (.iload_n 1, 1) := by decide +kernel
theorem dX12_placeOf_21 : decode cX12_placeOf 21 = .ok (.iadd, 1) := by decide +kernel
theorem dX12_placeOf_22 : decode cX12_placeOf 22 = .ok (.aload_n 0, 1) := by decide +kernel
theorem dX12_placeOf_23 : decode cX12_placeOf 23 = .ok (.getfield 41, 3) := by decide +kernel
theorem dX12_placeOf_26 : decode cX12_placeOf 26 = .ok (.aload_n 0, 1) := by decide +kernel
theorem dX12_placeOf_27 : decode cX12_placeOf 27 = .ok (.getfield 20, 3) := by decide +kernel
theorem dX12_placeOf_30 : decode cX12_placeOf 30 = .ok (.iload_n 1, 1) := by decide +kernel
theorem dX12_placeOf_31 : decode cX12_placeOf 31 = .ok (.iaload, 1) := by decide +kernel
theorem dX12_placeOf_32 : decode cX12_placeOf 32 = .ok (.iaload, 1) := by decide +kernel
theorem dX12_placeOf_33 : decode cX12_placeOf 33 = .ok (.isub, 1) := by decide +kernel
theorem dX12_placeOf_34 : decode cX12_placeOf 34 = .ok (.ireturn, 1) := by decide +kernel
theorem dX12_openedBy_0 : decode cX12_openedBy 0 = .ok (.aload_n 0, 1) := by decide +kernel
theorem dX12_openedBy_1 : decode cX12_openedBy 1 = .ok (.iload_n 1, 1) := by decide +kernel
theorem dX12_openedBy_2 : decode cX12_openedBy 2 = .ok (.iload_n 2, 1) := by decide +kernel
theorem dX12_openedBy_3 : decode cX12_openedBy 3 = .ok (.invokevirtual 277, 3) := by decide +kernel
theorem dX12_openedBy_6 : decode cX12_openedBy 6 = .ok (.istore_n 3, 1) := by decide +kernel
theorem dX12_openedBy_7 : decode cX12_openedBy 7 = .ok (.iload_n 3, 1) := by decide +kernel
theorem dX12_openedBy_8 : decode cX12_openedBy 8 = .ok (.bipush (-9), 2) := by decide +kernel
theorem dX12_openedBy_10 : decode cX12_openedBy 10 = .ok (.if_icmp .ne 7, 3) := by decide +kernel
theorem dX12_openedBy_13 : decode cX12_openedBy 13 = .ok (.iconst (-1), 1) := by decide +kernel
theorem dX12_openedBy_14 : decode cX12_openedBy 14 = .ok (.goto 13, 3) := by decide +kernel
theorem dX12_openedBy_17 : decode cX12_openedBy 17 = .ok (.aload_n 0, 1) := by decide +kernel
theorem dX12_openedBy_18 : decode cX12_openedBy 18 = .ok (.aload_n 0, 1) := by decide +kernel
theorem dX12_openedBy_19 : decode cX12_openedBy 19 = .ok (.getfield 35, 3) := by decide +kernel
theorem dX12_openedBy_22 : decode cX12_openedBy 22 = .ok (.iload_n 3, 1) := by decide +kernel
theorem dX12_openedBy_23 : decode cX12_openedBy 23 = .ok (.iaload, 1) := by decide +kernel
theorem dX12_openedBy_24 : decode cX12_openedBy 24 = .ok (.invokevirtual 280, 3) := by decide +kernel
theorem dX12_openedBy_27 : decode cX12_openedBy 27 = .ok (.ireturn, 1) := by decide +kernel
theorem dX12_closedBy_0 : decode cX12_closedBy 0 = .ok (.aload_n 0, 1) := by decide +kernel
theorem dX12_closedBy_1 : decode cX12_closedBy 1 = .ok (.iload_n 1, 1) := by decide +kernel
theorem dX12_closedBy_2 : decode cX12_closedBy 2 = .ok (.iload_n 2, 1) := by decide +kernel
theorem dX12_closedBy_3 : decode cX12_closedBy 3 = .ok (.invokevirtual 277, 3) := by decide +kernel
theorem dX12_closedBy_6 : decode cX12_closedBy 6 = .ok (.istore_n 3, 1) := by decide +kernel
theorem dX12_closedBy_7 : decode cX12_closedBy 7 = .ok (.iload_n 3, 1) := by decide +kernel
theorem dX12_closedBy_8 : decode cX12_closedBy 8 = .ok (.bipush (-9), 2) := by decide +kernel
theorem dX12_closedBy_10 : decode cX12_closedBy 10 = .ok (.if_icmp .ne 7, 3) := by decide +kernel
theorem dX12_closedBy_13 : decode cX12_closedBy 13 = .ok (.iconst (-1), 1) := by decide +kernel
theorem dX12_closedBy_14 : decode cX12_closedBy 14 = .ok (.goto 13, 3) := by decide +kernel
theorem dX12_closedBy_17 : decode cX12_closedBy 17 = .ok (.aload_n 0, 1) := by decide +kernel
theorem dX12_closedBy_18 : decode cX12_closedBy 18 = .ok (.aload_n 0, 1) := by decide +kernel
theorem dX12_closedBy_19 : decode cX12_closedBy 19 = .ok (.getfield 38, 3) := by decide +kernel
theorem dX12_closedBy_22 : decode cX12_closedBy 22 = .ok (.iload_n 3, 1) := by decide +kernel
theorem dX12_closedBy_23 : decode cX12_closedBy 23 = .ok (.iaload, 1) := by decide +kernel
theorem dX12_closedBy_24 : decode cX12_closedBy 24 = .ok (.invokevirtual 280, 3) := by decide +kernel
theorem dX12_closedBy_27 : decode cX12_closedBy 27 = .ok (.ireturn, 1) := by decide +kernel
theorem dX12_depth_0 : decode cX12_depth 0 = .ok (.iload_n 1, 1) := by decide +kernel
theorem dX12_depth_1 : decode cX12_depth 1 = .ok (.iconst 0, 1) := by decide +kernel
theorem dX12_depth_2 : decode cX12_depth 2 = .ok (.aload_n 0, 1) := by decide +kernel
theorem dX12_depth_3 : decode cX12_depth 3 = .ok (.getfield 7, 3) := by decide +kernel
theorem dX12_depth_6 : decode cX12_depth 6 = .ok (.iconst 0, 1) := by decide +kernel
theorem dX12_depth_7 : decode cX12_depth 7 = .ok (.iaload, 1) := by decide +kernel
theorem dX12_depth_8 : decode cX12_depth 8 = .ok (.invokestatic 79, 3) := by decide +kernel
theorem dX12_depth_11 : decode cX12_depth 11 = .ok (.ifCond .ne 5, 3) := by decide +kernel
theorem dX12_depth_14 : decode cX12_depth 14 = .ok (.iconst (-1), 1) := by decide +kernel
theorem dX12_depth_15 : decode cX12_depth 15 = .ok (.ireturn, 1) := by decide +kernel
theorem dX12_depth_16 : decode cX12_depth 16 = .ok (.aload_n 0, 1) := by decide +kernel
theorem dX12_depth_17 : decode cX12_depth 17 = .ok (.invokevirtual 151, 3) := by decide +kernel
theorem dX12_depth_20 : decode cX12_depth 20 = .ok (.aload_n 0, 1) := by decide +kernel
theorem dX12_depth_21 : decode cX12_depth 21 = .ok (.getfield 47, 3) := by decide +kernel
theorem dX12_depth_24 : decode cX12_depth 24 = .ok (.iload_n 1, 1) := by decide +kernel
theorem dX12_depth_25 : decode cX12_depth 25 = .ok (.iaload, 1) := by decide +kernel
theorem dX12_depth_26 : decode cX12_depth 26 = .ok (.ireturn, 1) := by decide +kernel
theorem dX12_blockOf_0 : decode cX12_blockOf 0 = .ok (.iload_n 1, 1) := by decide +kernel
theorem dX12_blockOf_1 : decode cX12_blockOf 1 = .ok (.iconst 0, 1) := by decide +kernel
theorem dX12_blockOf_2 : decode cX12_blockOf 2 = .ok (.aload_n 0, 1) := by decide +kernel
theorem dX12_blockOf_3 : decode cX12_blockOf 3 = .ok (.getfield 7, 3) := by decide +kernel
theorem dX12_blockOf_6 : decode cX12_blockOf 6 = .ok (.iconst 0, 1) := by decide +kernel
theorem dX12_blockOf_7 : decode cX12_blockOf 7 = .ok (.iaload, 1) := by decide +kernel
theorem dX12_blockOf_8 : decode cX12_blockOf 8 = .ok (.invokestatic 79, 3) := by decide +kernel
theorem dX12_blockOf_11 : decode cX12_blockOf 11 = .ok (.ifCond .ne 6, 3) := by decide +kernel
theorem dX12_blockOf_14 : decode cX12_blockOf 14 = .ok (.bipush (-9), 2) := by decide +kernel
theorem dX12_blockOf_16 : decode cX12_blockOf 16 = .ok (.ireturn, 1) := by decide +kernel
theorem dX12_blockOf_17 : decode cX12_blockOf 17 = .ok (.aload_n 0, 1) := by decide +kernel
theorem dX12_blockOf_18 : decode cX12_blockOf 18 = .ok (.aload_n 0, 1) := by decide +kernel
theorem dX12_blockOf_19 : decode cX12_blockOf 19 = .ok (.getfield 7, 3) := by decide +kernel
theorem dX12_blockOf_22 : decode cX12_blockOf 22 = .ok (.sipush 977, 3) := by decide +kernel
theorem dX12_blockOf_25 : decode cX12_blockOf 25 = .ok (.iaload, 1) := by decide +kernel
theorem dX12_blockOf_26 : decode cX12_blockOf 26 = .ok (.aload_n 0, 1) := by decide +kernel
theorem dX12_blockOf_27 : decode cX12_blockOf 27 = .ok (.getfield 7, 3) := by decide +kernel
theorem dX12_blockOf_30 : decode cX12_blockOf 30 = .ok (.sipush 978, 3) := by decide +kernel
theorem dX12_blockOf_33 : decode cX12_blockOf 33 = .ok (.iaload, 1) := by decide +kernel
theorem dX12_blockOf_34 : decode cX12_blockOf 34 = .ok (.invokevirtual 222, 3) := by decide +kernel
theorem dX12_blockOf_37 : decode cX12_blockOf 37 = .ok (.iload_n 2, 1) := by decide +kernel
theorem dX12_blockOf_38 : decode cX12_blockOf 38 = .ok (.iconst 0, 1) := by decide +kernel
theorem dX12_blockOf_39 : decode cX12_blockOf 39 = .ok (.aload_n 0, 1) := by decide +kernel
theorem dX12_blockOf_40 : decode cX12_blockOf 40 = .ok (.getfield 47, 3) := by decide +kernel
theorem dX12_blockOf_43 : decode cX12_blockOf 43 = .ok (.iload_n 1, 1) := by decide +kernel
theorem dX12_blockOf_44 : decode cX12_blockOf 44 = .ok (.iaload, 1) := by decide +kernel
theorem dX12_blockOf_45 : decode cX12_blockOf 45 = .ok (.iconst 1, 1) := by decide +kernel
theorem dX12_blockOf_46 : decode cX12_blockOf 46 = .ok (.isub, 1) := by decide +kernel
theorem dX12_blockOf_47 : decode cX12_blockOf 47 = .ok (.invokestatic 79, 3) := by decide +kernel
theorem dX12_blockOf_50 : decode cX12_blockOf 50 = .ok (.ifCond .eq 17, 3) := by decide +kernel
theorem dX12_blockOf_53 : decode cX12_blockOf 53 = .ok (.aload_n 0, 1) := by decide +kernel
theorem dX12_blockOf_54 : decode cX12_blockOf 54 = .ok (.getfield 50, 3) := by decide +kernel
theorem dX12_blockOf_57 : decode cX12_blockOf 57 = .ok (.bipush 12, 2) := by decide +kernel
theorem dX12_blockOf_59 : decode cX12_blockOf 59 = .ok (.iload_n 1, 1) := by decide +kernel
theorem dX12_blockOf_60 : decode cX12_blockOf 60 = .ok (.imul, 1) := by decide +kernel
theorem dX12_blockOf_61 : decode cX12_blockOf 61 = .ok (.iload_n 2, 1) := by decide +kernel
theorem dX12_blockOf_62 : decode cX12_blockOf 62 = .ok (.iadd, 1) := by decide +kernel
theorem dX12_blockOf_63 : decode cX12_blockOf 63 = .ok (.iaload, 1) := by decide +kernel
theorem dX12_blockOf_64 : decode cX12_blockOf 64 = .ok (.goto 5, 3) := by decide +kernel
theorem dX12_blockOf_67 : decode cX12_blockOf 67 = .ok (.bipush (-9), 2) := by decide +kernel
theorem dX12_blockOf_69 : decode cX12_blockOf 69 = .ok (.ireturn, 1) := by decide +kernel
theorem dX12_blockRule_0 : decode cX12_blockRule 0 = .ok (.aload_n 0, 1) := by decide +kernel
theorem dX12_blockRule_1 : decode cX12_blockRule 1 = .ok (.iload_n 1, 1) := by decide +kernel
theorem dX12_blockRule_2 : decode cX12_blockRule 2 = .ok (.iload_n 2, 1) := by decide +kernel
theorem dX12_blockRule_3 : decode cX12_blockRule 3 = .ok (.invokevirtual 283, 3) := by decide +kernel
theorem dX12_blockRule_6 : decode cX12_blockRule 6 = .ok (.istore_n 3, 1) := by decide +kernel
theorem dX12_blockRule_7 : decode cX12_blockRule 7 = .ok (.iload_n 3, 1) := by decide +kernel
theorem dX12_blockRule_8 : decode cX12_blockRule 8 = .ok (.bipush (-9), 2) := by decide +kernel
theorem dX12_blockRule_10 : decode cX12_blockRule 10 = .ok (.if_icmp .ne 7, 3) := by decide +kernel
theorem dX12_blockRule_13 : decode cX12_blockRule 13 = .ok (.iconst (-1), 1) := by decide +kernel
theorem dX12_blockRule_14 : decode cX12_blockRule 14 = .ok (.goto 9, 3) := by decide +kernel
theorem dX12_blockRule_17 : decode cX12_blockRule 17 = .ok (.aload_n 0, 1) := by decide +kernel
theorem dX12_blockRule_18 : decode cX12_blockRule 18 = .ok (.getfield 32, 3) := by decide +kernel
theorem dX12_blockRule_21 : decode cX12_blockRule 21 = .ok (.iload_n 3, 1) := by decide +kernel
theorem dX12_blockRule_22 : decode cX12_blockRule 22 = .ok (.iaload, 1) := by decide +kernel
theorem dX12_blockRule_23 : decode cX12_blockRule 23 = .ok (.ireturn, 1) := by decide +kernel
theorem dX12_blockOpening_0 : decode cX12_blockOpening 0 = .ok (.aload_n 0, 1) := by decide +kernel
theorem dX12_blockOpening_1 : decode cX12_blockOpening 1 = .ok (.iload_n 1, 1) := by decide +kernel
theorem dX12_blockOpening_2 : decode cX12_blockOpening 2 = .ok (.iload_n 2, 1) := by decide +kernel
theorem dX12_blockOpening_3 : decode cX12_blockOpening 3 = .ok (.invokevirtual 283, 3) := by decide +kernel
theorem dX12_blockOpening_6 : decode cX12_blockOpening 6 = .ok (.istore_n 3, 1) := by decide +kernel
theorem dX12_blockOpening_7 : decode cX12_blockOpening 7 = .ok (.iload_n 3, 1) := by decide +kernel
theorem dX12_blockOpening_8 : decode cX12_blockOpening 8 = .ok (.bipush (-9), 2) := by decide +kernel
theorem dX12_blockOpening_10 : decode cX12_blockOpening 10 = .ok (.if_icmp .ne 7, 3) := by decide +kernel
theorem dX12_blockOpening_13 : decode cX12_blockOpening 13 = .ok (.iconst (-1), 1) := by decide +kernel
theorem dX12_blockOpening_14 : decode cX12_blockOpening 14 = .ok (.goto 18, 3) := by decide +kernel
theorem dX12_blockOpening_17 : decode cX12_blockOpening 17 = .ok (.bipush 100, 2) := by decide +kernel
theorem dX12_blockOpening_19 : decode cX12_blockOpening 19 = .ok (.aload_n 0, 1) := by decide +kernel
theorem dX12_blockOpening_20 : decode cX12_blockOpening 20 = .ok (.getfield 20, 3) := by decide +kernel
theorem dX12_blockOpening_23 : decode cX12_blockOpening 23 = .ok (.iload_n 3, 1) := by decide +kernel
theorem dX12_blockOpening_24 : decode cX12_blockOpening 24 = .ok (.iaload, 1) := by decide +kernel
theorem dX12_blockOpening_25 : decode cX12_blockOpening 25 = .ok (.imul, 1) := by decide +kernel
theorem dX12_blockOpening_26 : decode cX12_blockOpening 26 = .ok (.aload_n 0, 1) := by decide +kernel
theorem dX12_blockOpening_27 : decode cX12_blockOpening 27 = .ok (.iload_n 3, 1) := by decide +kernel
theorem dX12_blockOpening_28 : decode cX12_blockOpening 28 = .ok (.invokevirtual 163, 3) := by decide +kernel
theorem dX12_blockOpening_31 : decode cX12_blockOpening 31 = .ok (.iadd, 1) := by decide +kernel
theorem dX12_blockOpening_32 : decode cX12_blockOpening 32 = .ok (.ireturn, 1) := by decide +kernel
theorem dX12_contentColumn_0 : decode cX12_contentColumn 0 = .ok (.aload_n 0, 1) := by decide +kernel
theorem dX12_contentColumn_1 : decode cX12_contentColumn 1 = .ok (.iload_n 1, 1) := by decide +kernel
theorem dX12_contentColumn_2 : decode cX12_contentColumn 2 = .ok (.iload_n 2, 1) := by decide +kernel
theorem dX12_contentColumn_3 : decode cX12_contentColumn 3 = .ok (.invokevirtual 283, 3) := by decide +kernel
theorem dX12_contentColumn_6 : decode cX12_contentColumn 6 = .ok (.istore_n 3, 1) := by decide +kernel
theorem dX12_contentColumn_7 : decode cX12_contentColumn 7 = .ok (.iload_n 3, 1) := by decide +kernel
theorem dX12_contentColumn_8 : decode cX12_contentColumn 8 = .ok (.bipush (-9), 2) := by decide +kernel
theorem dX12_contentColumn_10 : decode cX12_contentColumn 10 = .ok (.if_icmp .ne 7, 3) := by decide +kernel
theorem dX12_contentColumn_13 : decode cX12_contentColumn 13 = .ok (.iconst (-1), 1) := by decide +kernel
theorem dX12_contentColumn_14 : decode cX12_contentColumn 14 = .ok (.goto 8, 3) := by decide +kernel
theorem dX12_contentColumn_17 : decode cX12_contentColumn 17 = .ok (.aload_n 0, 1) := by decide +kernel
theorem dX12_contentColumn_18 : decode cX12_contentColumn 18 = .ok (.iload_n 3, 1) := by decide +kernel
theorem dX12_contentColumn_19 : decode cX12_contentColumn 19 = .ok (.invokevirtual 179, 3) := by decide +kernel
theorem dX12_contentColumn_22 : decode cX12_contentColumn 22 = .ok (.ireturn, 1) := by decide +kernel
theorem dX12_strays_0 : decode cX12_strays 0 = .ok (.aload_n 0, 1) := by decide +kernel
theorem dX12_strays_1 : decode cX12_strays 1 = .ok (.invokevirtual 151, 3) := by decide +kernel
theorem dX12_strays_4 : decode cX12_strays 4 = .ok (.aload_n 0, 1) := by decide +kernel
theorem dX12_strays_5 : decode cX12_strays 5 = .ok (.getfield 135, 3) := by decide +kernel
theorem dX12_strays_8 : decode cX12_strays 8 = .ok (.ireturn, 1) := by decide +kernel
theorem dX12_lost_0 : decode cX12_lost 0 = .ok (.aload_n 0, 1) := by decide +kernel
theorem dX12_lost_1 : decode cX12_lost 1 = .ok (.invokevirtual 151, 3) := by decide +kernel
theorem dX12_lost_4 : decode cX12_lost 4 = .ok (.aload_n 0, 1) := by decide +kernel
theorem dX12_lost_5 : decode cX12_lost 5 = .ok (.getfield 129, 3) := by decide +kernel
theorem dX12_lost_8 : decode cX12_lost 8 = .ok (.ireturn, 1) := by decide +kernel
theorem dX12_isSame_0 : decode cX12_isSame 0 = .ok (.aload_n 0, 1) := by decide +kernel
theorem dX12_isSame_1 : decode cX12_isSame 1 = .ok (.getfield 29, 3) := by decide +kernel
theorem dX12_isSame_4 : decode cX12_isSame 4 = .ok (.iload_n 1, 1) := by decide +kernel
theorem dX12_isSame_5 : decode cX12_isSame 5 = .ok (.iaload, 1) := by decide +kernel
theorem dX12_isSame_6 : decode cX12_isSame 6 = .ok (.aload_n 0, 1) := by decide +kernel
theorem dX12_isSame_7 : decode cX12_isSame 7 = .ok (.getfield 29, 3) := by decide +kernel
theorem dX12_isSame_10 : decode cX12_isSame 10 = .ok (.iload_n 2, 1) := by decide +kernel
theorem dX12_isSame_11 : decode cX12_isSame 11 = .ok (.iaload, 1) := by decide +kernel
theorem dX12_isSame_12 : decode cX12_isSame 12 = .ok (.if_icmp .ne 22, 3) := by decide +kernel
theorem dX12_isSame_15 : decode cX12_isSame 15 = .ok (.aload_n 0, 1) := by decide +kernel
theorem dX12_isSame_16 : decode cX12_isSame 16 = .ok (.getfield 26, 3) := by decide +kernel
theorem dX12_isSame_19 : decode cX12_isSame 19 = .ok (.iload_n 1, 1) := by decide +kernel
theorem dX12_isSame_20 : decode cX12_isSame 20 = .ok (.iaload, 1) := by decide +kernel
theorem dX12_isSame_21 : decode cX12_isSame 21 = .ok (.aload_n 0, 1) := by decide +kernel
theorem dX12_isSame_22 : decode cX12_isSame 22 = .ok (.getfield 26, 3) := by decide +kernel
theorem dX12_isSame_25 : decode cX12_isSame 25 = .ok (.iload_n 2, 1) := by decide +kernel
theorem dX12_isSame_26 : decode cX12_isSame 26 = .ok (.iaload, 1) := by decide +kernel
theorem dX12_isSame_27 : decode cX12_isSame 27 = .ok (.if_icmp .ne 7, 3) := by decide +kernel
theorem dX12_isSame_30 : decode cX12_isSame 30 = .ok (.iconst 1, 1) := by decide +kernel
theorem dX12_isSame_31 : decode cX12_isSame 31 = .ok (.goto 4, 3) := by decide +kernel
theorem dX12_isSame_34 : decode cX12_isSame 34 = .ok (.iconst 0, 1) := by decide +kernel
theorem dX12_isSame_35 : decode cX12_isSame 35 = .ok (.istore_n 3, 1) := by decide +kernel
theorem dX12_isSame_36 : decode cX12_isSame 36 = .ok (.iconst 0, 1) := by decide +kernel
theorem dX12_isSame_37 : decode cX12_isSame 37 = .ok (.istore 4, 2) := by decide +kernel
theorem dX12_isSame_39 : decode cX12_isSame 39 = .ok (.iload 4, 2) := by decide +kernel
theorem dX12_isSame_41 : decode cX12_isSame 41 = .ok (.aload_n 0, 1) := by decide +kernel
theorem dX12_isSame_42 : decode cX12_isSame 42 = .ok (.getfield 26, 3) := by decide +kernel
theorem dX12_isSame_45 : decode cX12_isSame 45 = .ok (.iload_n 1, 1) := by decide +kernel
theorem dX12_isSame_46 : decode cX12_isSame 46 = .ok (.iaload, 1) := by decide +kernel
theorem dX12_isSame_47 : decode cX12_isSame 47 = .ok (.if_icmp .ge 60, 3) := by decide +kernel
theorem dX12_isSame_50 : decode cX12_isSame 50 = .ok (.iload_n 3, 1) := by decide +kernel
theorem dX12_isSame_51 : decode cX12_isSame 51 = .ok (.ifCond .eq 56, 3) := by decide +kernel
theorem dX12_isSame_54 : decode cX12_isSame 54 = .ok (.aload_n 0, 1) := by decide +kernel
theorem dX12_isSame_55 : decode cX12_isSame 55 = .ok (.aload_n 0, 1) := by decide +kernel
theorem dX12_isSame_56 : decode cX12_isSame 56 = .ok (.getfield 20, 3) := by decide +kernel
theorem dX12_isSame_59 : decode cX12_isSame 59 = .ok (.iload_n 1, 1) := by decide +kernel
theorem dX12_isSame_60 : decode cX12_isSame 60 = .ok (.iaload, 1) := by decide +kernel
theorem dX12_isSame_61 : decode cX12_isSame 61 = .ok (.aload_n 0, 1) := by decide +kernel
theorem dX12_isSame_62 : decode cX12_isSame 62 = .ok (.getfield 23, 3) := by decide +kernel
theorem dX12_isSame_65 : decode cX12_isSame 65 = .ok (.iload_n 1, 1) := by decide +kernel
theorem dX12_isSame_66 : decode cX12_isSame 66 = .ok (.iaload, 1) := by decide +kernel
theorem dX12_isSame_67 : decode cX12_isSame 67 = .ok (.iload 4, 2) := by decide +kernel
theorem dX12_isSame_69 : decode cX12_isSame 69 = .ok (.iadd, 1) := by decide +kernel
theorem dX12_isSame_70 : decode cX12_isSame 70 = .ok (.invokevirtual 83, 3) := by decide +kernel
theorem dX12_isSame_73 : decode cX12_isSame 73 = .ok (.aload_n 0, 1) := by decide +kernel
theorem dX12_isSame_74 : decode cX12_isSame 74 = .ok (.aload_n 0, 1) := by decide +kernel
theorem dX12_isSame_75 : decode cX12_isSame 75 = .ok (.getfield 20, 3) := by decide +kernel
theorem dX12_isSame_78 : decode cX12_isSame 78 = .ok (.iload_n 2, 1) := by decide +kernel
theorem dX12_isSame_79 : decode cX12_isSame 79 = .ok (.iaload, 1) := by decide +kernel
theorem dX12_isSame_80 : decode cX12_isSame 80 = .ok (.aload_n 0, 1) := by decide +kernel
theorem dX12_isSame_81 : decode cX12_isSame 81 = .ok (.getfield 23, 3) := by decide +kernel
theorem dX12_isSame_84 : decode cX12_isSame 84 = .ok (.iload_n 2, 1) := by decide +kernel
theorem dX12_isSame_85 : decode cX12_isSame 85 = .ok (.iaload, 1) := by decide +kernel
theorem dX12_isSame_86 : decode cX12_isSame 86 = .ok (.iload 4, 2) := by decide +kernel
theorem dX12_isSame_88 : decode cX12_isSame 88 = .ok (.iadd, 1) := by decide +kernel
theorem dX12_isSame_89 : decode cX12_isSame 89 = .ok (.invokevirtual 83, 3) := by decide +kernel
theorem dX12_isSame_92 : decode cX12_isSame 92 = .ok (.if_icmp .ne 7, 3) := by decide +kernel
theorem dX12_isSame_95 : decode cX12_isSame 95 = .ok (.iconst 1, 1) := by decide +kernel
theorem dX12_isSame_96 : decode cX12_isSame 96 = .ok (.goto 4, 3) := by decide +kernel
theorem dX12_isSame_99 : decode cX12_isSame 99 = .ok (.iconst 0, 1) := by decide +kernel
theorem dX12_isSame_100 : decode cX12_isSame 100 = .ok (.istore_n 3, 1) := by decide +kernel
theorem dX12_isSame_101 : decode cX12_isSame 101 = .ok (.iinc 4 1, 3) := by decide +kernel
theorem dX12_isSame_104 : decode cX12_isSame 104 = .ok (.goto (-65), 3) := by decide +kernel
theorem dX12_isSame_107 : decode cX12_isSame 107 = .ok (.iload_n 3, 1) := by decide +kernel
theorem dX12_isSame_108 : decode cX12_isSame 108 = .ok (.ireturn, 1) := by decide +kernel
theorem dX12_isFirst_0 : decode cX12_isFirst 0 = .ok (.aload_n 0, 1) := by decide +kernel
theorem dX12_isFirst_1 : decode cX12_isFirst 1 = .ok (.getfield 29, 3) := by decide +kernel
theorem dX12_isFirst_4 : decode cX12_isFirst 4 = .ok (.iload_n 1, 1) := by decide +kernel
theorem dX12_isFirst_5 : decode cX12_isFirst 5 = .ok (.iaload, 1) := by decide +kernel
theorem dX12_isFirst_6 : decode cX12_isFirst 6 = .ok (.iconst 2, 1) := by decide +kernel
theorem dX12_isFirst_7 : decode cX12_isFirst 7 = .ok (.if_icmp .ge 7, 3) := by decide +kernel
theorem dX12_isFirst_10 : decode cX12_isFirst 10 = .ok (.iconst 1, 1) := by decide +kernel
theorem dX12_isFirst_11 : decode cX12_isFirst 11 = .ok (.goto 4, 3) := by decide +kernel
theorem dX12_isFirst_14 : decode cX12_isFirst 14 = .ok (.iconst 0, 1) := by decide +kernel
theorem dX12_isFirst_15 : decode cX12_isFirst 15 = .ok (.istore_n 2, 1) := by decide +kernel
theorem dX12_isFirst_16 : decode cX12_isFirst 16 = .ok (.iconst 0, 1) := by decide +kernel
theorem dX12_isFirst_17 : decode cX12_isFirst 17 = .ok (.istore_n 3, 1) := by decide +kernel
theorem dX12_isFirst_18 : decode cX12_isFirst 18 = .ok (.iload_n 3, 1) := by decide +kernel
theorem dX12_isFirst_19 : decode cX12_isFirst 19 = .ok (.iload_n 1, 1) := by decide +kernel
theorem dX12_isFirst_20 : decode cX12_isFirst 20 = .ok (.if_icmp .ge 28, 3) := by decide +kernel
theorem dX12_isFirst_23 : decode cX12_isFirst 23 = .ok (.iload_n 2, 1) := by decide +kernel
theorem dX12_isFirst_24 : decode cX12_isFirst 24 = .ok (.ifCond .eq 24, 3) := by decide +kernel
theorem dX12_isFirst_27 : decode cX12_isFirst 27 = .ok (.aload_n 0, 1) := by decide +kernel
theorem dX12_isFirst_28 : decode cX12_isFirst 28 = .ok (.iload_n 1, 1) := by decide +kernel
theorem dX12_isFirst_29 : decode cX12_isFirst 29 = .ok (.iload_n 3, 1) := by decide +kernel
theorem dX12_isFirst_30 : decode cX12_isFirst 30 = .ok (.invokevirtual 286, 3) := by decide +kernel
theorem dX12_isFirst_33 : decode cX12_isFirst 33 = .ok (.ifCond .ne 7, 3) := by decide +kernel
theorem dX12_isFirst_36 : decode cX12_isFirst 36 = .ok (.iconst 1, 1) := by decide +kernel
theorem dX12_isFirst_37 : decode cX12_isFirst 37 = .ok (.goto 4, 3) := by decide +kernel
theorem dX12_isFirst_40 : decode cX12_isFirst 40 = .ok (.iconst 0, 1) := by decide +kernel
theorem dX12_isFirst_41 : decode cX12_isFirst 41 = .ok (.istore_n 2, 1) := by decide +kernel
theorem dX12_isFirst_42 : decode cX12_isFirst 42 = .ok (.iinc 3 1, 3) := by decide +kernel
theorem dX12_isFirst_45 : decode cX12_isFirst 45 = .ok (.goto (-27), 3) := by decide +kernel
theorem dX12_isFirst_48 : decode cX12_isFirst 48 = .ok (.iload_n 2, 1) := by decide +kernel
theorem dX12_isFirst_49 : decode cX12_isFirst 49 = .ok (.ireturn, 1) := by decide +kernel
theorem dX12_vocabulary_0 : decode cX12_vocabulary 0 = .ok (.aload_n 0, 1) := by decide +kernel
theorem dX12_vocabulary_1 : decode cX12_vocabulary 1 = .ok (.invokevirtual 138, 3) := by decide +kernel
theorem dX12_vocabulary_4 : decode cX12_vocabulary 4 = .ok (.iconst 0, 1) := by decide +kernel
theorem dX12_vocabulary_5 : decode cX12_vocabulary 5 = .ok (.istore_n 1, 1) := by decide +kernel
theorem dX12_vocabulary_6 : decode cX12_vocabulary 6 = .ok (.iconst 0, 1) := by decide +kernel
theorem dX12_vocabulary_7 : decode cX12_vocabulary 7 = .ok (.istore_n 2, 1) := by decide +kernel
theorem dX12_vocabulary_8 : decode cX12_vocabulary 8 = .ok (.iload_n 2, 1) := by decide +kernel
theorem dX12_vocabulary_9 : decode cX12_vocabulary 9 = .ok (.aload_n 0, 1) := by decide +kernel
theorem dX12_vocabulary_10 : decode cX12_vocabulary 10 = .ok (.getfield 98, 3) := by decide +kernel
theorem dX12_vocabulary_13 : decode cX12_vocabulary 13 = .ok (.if_icmp .ge 25, 3) := by decide +kernel
theorem dX12_vocabulary_16 : decode cX12_vocabulary 16 = .ok (.iload_n 1, 1) := by decide +kernel
theorem dX12_vocabulary_17 : decode cX12_vocabulary 17 = .ok (.aload_n 0, 1) := by decide +kernel
theorem dX12_vocabulary_18 : decode cX12_vocabulary 18 = .ok (.iload_n 2, 1) := by decide +kernel
theorem dX12_vocabulary_19 : decode cX12_vocabulary 19 = .ok (.invokevirtual 289, 3) := by decide +kernel
theorem dX12_vocabulary_22 : decode cX12_vocabulary 22 = .ok (.ifCond .eq 7, 3) := by decide +kernel
theorem dX12_vocabulary_25 : decode cX12_vocabulary 25 = .ok (.iconst 1, 1) := by decide +kernel
theorem dX12_vocabulary_26 : decode cX12_vocabulary 26 = .ok (.goto 4, 3) := by decide +kernel
theorem dX12_vocabulary_29 : decode cX12_vocabulary 29 = .ok (.iconst 0, 1) := by decide +kernel
theorem dX12_vocabulary_30 : decode cX12_vocabulary 30 = .ok (.iadd, 1) := by decide +kernel
theorem dX12_vocabulary_31 : decode cX12_vocabulary 31 = .ok (.istore_n 1, 1) := by decide +kernel
theorem dX12_vocabulary_32 : decode cX12_vocabulary 32 = .ok (.iinc 2 1, 3) := by decide +kernel
theorem dX12_vocabulary_35 : decode cX12_vocabulary 35 = .ok (.goto (-27), 3) := by decide +kernel
theorem dX12_vocabulary_38 : decode cX12_vocabulary 38 = .ok (.iload_n 1, 1) := by decide +kernel
theorem dX12_vocabulary_39 : decode cX12_vocabulary 39 = .ok (.ireturn, 1) := by decide +kernel
theorem dX12_commonest_0 : decode cX12_commonest 0 = .ok (.aload_n 0, 1) := by decide +kernel
theorem dX12_commonest_1 : decode cX12_commonest 1 = .ok (.invokevirtual 138, 3) := by decide +kernel
theorem dX12_commonest_4 : decode cX12_commonest 4 = .ok (.bipush (-9), 2) := by decide +kernel
theorem dX12_commonest_6 : decode cX12_commonest 6 = .ok (.istore_n 1, 1) := by decide +kernel
theorem dX12_commonest_7 : decode cX12_commonest 7 = .ok (.aload_n 0, 1) := by decide +kernel
theorem dX12_commonest_8 : decode cX12_commonest 8 = .ok (.iconst 0, 1) := by decide +kernel
theorem dX12_commonest_9 : decode cX12_commonest 9 = .ok (.putfield 292, 3) := by decide +kernel
theorem dX12_commonest_12 : decode cX12_commonest 12 = .ok (.iconst 0, 1) := by decide +kernel
theorem dX12_commonest_13 : decode cX12_commonest 13 = .ok (.istore_n 2, 1) := by decide +kernel
theorem dX12_commonest_14 : decode cX12_commonest 14 = .ok (.iload_n 2, 1) := by decide +kernel
theorem dX12_commonest_15 : decode cX12_commonest 15 = .ok (.aload_n 0, 1) := by decide +kernel
theorem dX12_commonest_16 : decode cX12_commonest 16 = .ok (.getfield 98, 3) := by decide +kernel
theorem dX12_commonest_19 : decode cX12_commonest 19 = .ok (.if_icmp .ge 89, 3) := by decide +kernel
theorem dX12_commonest_22 : decode cX12_commonest 22 = .ok (.iconst 0, 1) := by decide +kernel
theorem dX12_commonest_23 : decode cX12_commonest 23 = .ok (.istore_n 3, 1) := by decide +kernel
theorem dX12_commonest_24 : decode cX12_commonest 24 = .ok (.aload_n 0, 1) := by decide +kernel
theorem dX12_commonest_25 : decode cX12_commonest 25 = .ok (.iload_n 2, 1) := by decide +kernel
theorem dX12_commonest_26 : decode cX12_commonest 26 = .ok (.invokevirtual 289, 3) := by decide +kernel
theorem dX12_commonest_29 : decode cX12_commonest 29 = .ok (.ifCond .eq 39, 3) := by decide +kernel
theorem dX12_commonest_32 : decode cX12_commonest 32 = .ok (.iload_n 2, 1) := by decide +kernel
theorem dX12_commonest_33 : decode cX12_commonest 33 = .ok (.istore 4, 2) := by decide +kernel
theorem dX12_commonest_35 : decode cX12_commonest 35 = .ok (.iload 4, 2) := by decide +kernel
theorem dX12_commonest_37 : decode cX12_commonest 37 = .ok (.aload_n 0, 1) := by decide +kernel
theorem dX12_commonest_38 : decode cX12_commonest 38 = .ok (.getfield 98, 3) := by decide +kernel
theorem dX12_commonest_41 : decode cX12_commonest 41 = .ok (.if_icmp .ge 27, 3) := by decide +kernel
theorem dX12_commonest_44 : decode cX12_commonest 44 = .ok (.iload_n 3, 1) := by decide +kernel
theorem dX12_commonest_45 : decode cX12_commonest 45 = .ok (.aload_n 0, 1) := by decide +kernel
theorem dX12_commonest_46 : decode cX12_commonest 46 = .ok (.iload_n 2, 1) := by decide +kernel
theorem dX12_commonest_47 : decode cX12_commonest 47 = .ok (.iload 4, 2) := by decide +kernel
theorem dX12_commonest_49 : decode cX12_commonest 49 = .ok (.invokevirtual 286, 3) := by decide +kernel
theorem dX12_commonest_52 : decode cX12_commonest 52 = .ok (.ifCond .eq 7, 3) := by decide +kernel
theorem dX12_commonest_55 : decode cX12_commonest 55 = .ok (.iconst 1, 1) := by decide +kernel
theorem dX12_commonest_56 : decode cX12_commonest 56 = .ok (.goto 4, 3) := by decide +kernel
theorem dX12_commonest_59 : decode cX12_commonest 59 = .ok (.iconst 0, 1) := by decide +kernel
theorem dX12_commonest_60 : decode cX12_commonest 60 = .ok (.iadd, 1) := by decide +kernel
theorem dX12_commonest_61 : decode cX12_commonest 61 = .ok (.istore_n 3, 1) := by decide +kernel
theorem dX12_commonest_62 : decode cX12_commonest 62 = .ok (.iinc 4 1, 3) := by decide +kernel
theorem dX12_commonest_65 : decode cX12_commonest 65 = .ok (.goto (-30), 3) := by decide +kernel
theorem dX12_commonest_68 : decode cX12_commonest 68 = .ok (.iload_n 3, 1) := by decide +kernel
theorem dX12_commonest_69 : decode cX12_commonest 69 = .ok (.aload_n 0, 1) := by decide +kernel
theorem dX12_commonest_70 : decode cX12_commonest 70 = .ok (.getfield 292, 3) := by decide +kernel
theorem dX12_commonest_73 : decode cX12_commonest 73 = .ok (.if_icmp .le 7, 3) := by decide +kernel
theorem dX12_commonest_76 : decode cX12_commonest 76 = .ok (.iload_n 2, 1) := by decide +kernel
theorem dX12_commonest_77 : decode cX12_commonest 77 = .ok (.goto 4, 3) := by decide +kernel
theorem dX12_commonest_80 : decode cX12_commonest 80 = .ok (.iload_n 1, 1) := by decide +kernel
theorem dX12_commonest_81 : decode cX12_commonest 81 = .ok (.istore_n 1, 1) := by decide +kernel
theorem dX12_commonest_82 : decode cX12_commonest 82 = .ok (.aload_n 0, 1) := by decide +kernel
theorem dX12_commonest_83 : decode cX12_commonest 83 = .ok (.iload_n 3, 1) := by decide +kernel
theorem dX12_commonest_84 : decode cX12_commonest 84 = .ok (.aload_n 0, 1) := by decide +kernel
theorem dX12_commonest_85 : decode cX12_commonest 85 = .ok (.getfield 292, 3) := by decide +kernel
theorem dX12_commonest_88 : decode cX12_commonest 88 = .ok (.if_icmp .le 7, 3) := by decide +kernel
theorem dX12_commonest_91 : decode cX12_commonest 91 = .ok (.iload_n 3, 1) := by decide +kernel
theorem dX12_commonest_92 : decode cX12_commonest 92 = .ok (.goto 7, 3) := by decide +kernel
theorem dX12_commonest_95 : decode cX12_commonest 95 = .ok (.aload_n 0, 1) := by decide +kernel
theorem dX12_commonest_96 : decode cX12_commonest 96 = .ok (.getfield 292, 3) := by decide +kernel
theorem dX12_commonest_99 : decode cX12_commonest 99 = .ok (.putfield 292, 3) := by decide +kernel
theorem dX12_commonest_102 : decode cX12_commonest 102 = .ok (.iinc 2 1, 3) := by decide +kernel
theorem dX12_commonest_105 : decode cX12_commonest 105 = .ok (.goto (-91), 3) := by decide +kernel
theorem dX12_commonest_108 : decode cX12_commonest 108 = .ok (.iload_n 1, 1) := by decide +kernel
theorem dX12_commonest_109 : decode cX12_commonest 109 = .ok (.ireturn, 1) := by decide +kernel
theorem dX12_commonestCount_0 : decode cX12_commonestCount 0 = .ok (.aload_n 0, 1) := by decide +kernel
theorem dX12_commonestCount_1 : decode cX12_commonestCount 1 = .ok (.invokevirtual 295, 3) := by decide +kernel
theorem dX12_commonestCount_4 : decode cX12_commonestCount 4 = .ok (.bipush (-9), 2) := by decide +kernel
theorem dX12_commonestCount_6 : decode cX12_commonestCount 6 = .ok (.if_icmp .ne 8, 3) := by decide +kernel
theorem dX12_commonestCount_9 : decode cX12_commonestCount 9 = .ok (.bipush (-9), 2) := by decide +kernel
theorem dX12_commonestCount_11 : decode cX12_commonestCount 11 = .ok (.goto 7, 3) := by decide +kernel
theorem dX12_commonestCount_14 : decode cX12_commonestCount 14 = .ok (.aload_n 0, 1) := by decide +kernel
theorem dX12_commonestCount_15 : decode cX12_commonestCount 15 = .ok (.getfield 292, 3) := by decide +kernel
theorem dX12_commonestCount_18 : decode cX12_commonestCount 18 = .ok (.ireturn, 1) := by decide +kernel
theorem dX12_commonestByte_0 : decode cX12_commonestByte 0 = .ok (.iload_n 1, 1) := by decide +kernel
theorem dX12_commonestByte_1 : decode cX12_commonestByte 1 = .ok (.ifCond .ge 5, 3) := by decide +kernel
theorem dX12_commonestByte_4 : decode cX12_commonestByte 4 = .ok (.iconst (-1), 1) := by decide +kernel
theorem dX12_commonestByte_5 : decode cX12_commonestByte 5 = .ok (.ireturn, 1) := by decide +kernel
theorem dX12_commonestByte_6 : decode cX12_commonestByte 6 = .ok (.aload_n 0, 1) := by decide +kernel
theorem dX12_commonestByte_7 : decode cX12_commonestByte 7 = .ok (.invokevirtual 295, 3) := by decide +kernel
theorem dX12_commonestByte_10 : decode cX12_commonestByte 10 = .ok (.istore_n 2, 1) := by decide +kernel
theorem dX12_commonestByte_11 : decode cX12_commonestByte 11 = .ok (.iload_n 2, 1) := by decide +kernel
theorem dX12_commonestByte_12 : decode cX12_commonestByte 12 = .ok (.bipush (-9), 2) := by decide +kernel
theorem dX12_commonestByte_14 : decode cX12_commonestByte 14 = .ok (.if_icmp .eq 13, 3) := by decide +kernel
theorem dX12_commonestByte_17 : decode cX12_commonestByte 17 = .ok (.iload_n 1, 1) := by decide +kernel
theorem dX12_commonestByte_18 : decode cX12_commonestByte 18 = .ok (.aload_n 0, 1) := by decide +kernel
theorem dX12_commonestByte_19 : decode cX12_commonestByte 19 = .ok (.getfield 26, 3) := by decide +kernel
theorem dX12_commonestByte_22 : decode cX12_commonestByte 22 = .ok (.iload_n 2, 1) := by decide +kernel
theorem dX12_commonestByte_23 : decode cX12_commonestByte 23 = .ok (.iaload, 1) := by decide +kernel
theorem dX12_commonestByte_24 : decode cX12_commonestByte 24 = .ok (.if_icmp .lt 8, 3) := by decide +kernel
theorem dX12_commonestByte_27 : decode cX12_commonestByte 27 = .ok (.bipush (-9), 2) := by decide +kernel
theorem dX12_commonestByte_29 : decode cX12_commonestByte 29 = .ok (.goto 21, 3) := by decide +kernel
theorem dX12_commonestByte_32 : decode cX12_commonestByte 32 = .ok (.aload_n 0, 1) := by decide +kernel
theorem dX12_commonestByte_33 : decode cX12_commonestByte 33 = .ok (.aload_n 0, 1) := by decide +kernel
theorem dX12_commonestByte_34 : decode cX12_commonestByte 34 = .ok (.getfield 20, 3) := by decide +kernel
theorem dX12_commonestByte_37 : decode cX12_commonestByte 37 = .ok (.iload_n 2, 1) := by decide +kernel
theorem dX12_commonestByte_38 : decode cX12_commonestByte 38 = .ok (.iaload, 1) := by decide +kernel
theorem dX12_commonestByte_39 : decode cX12_commonestByte 39 = .ok (.aload_n 0, 1) := by decide +kernel
theorem dX12_commonestByte_40 : decode cX12_commonestByte 40 = .ok (.getfield 23, 3) := by decide +kernel
theorem dX12_commonestByte_43 : decode cX12_commonestByte 43 = .ok (.iload_n 2, 1) := by decide +kernel
theorem dX12_commonestByte_44 : decode cX12_commonestByte 44 = .ok (.iaload, 1) := by decide +kernel
theorem dX12_commonestByte_45 : decode cX12_commonestByte 45 = .ok (.iload_n 1, 1) := by decide +kernel
theorem dX12_commonestByte_46 : decode cX12_commonestByte 46 = .ok (.iadd, 1) := by decide +kernel
theorem dX12_commonestByte_47 : decode cX12_commonestByte 47 = .ok (.invokevirtual 83, 3) := by decide +kernel
theorem dX12_commonestByte_50 : decode cX12_commonestByte 50 = .ok (.ireturn, 1) := by decide +kernel
theorem dX12_undo_0 : decode cX12_undo 0 = .ok (.aload_n 0, 1) := by decide +kernel
theorem dX12_undo_1 : decode cX12_undo 1 = .ok (.getfield 71, 3) := by decide +kernel
theorem dX12_undo_4 : decode cX12_undo 4 = .ok (.ifCond .ne 6, 3) := by decide +kernel
theorem dX12_undo_7 : decode cX12_undo 7 = .ok (.bipush (-2), 2) := by decide +kernel
theorem dX12_undo_9 : decode cX12_undo 9 = .ok (.ireturn, 1) := by decide +kernel
theorem dX12_undo_10 : decode cX12_undo 10 = .ok (.aload_n 0, 1) := by decide +kernel
theorem dX12_undo_11 : decode cX12_undo 11 = .ok (.dup, 1) := by decide +kernel
theorem dX12_undo_12 : decode cX12_undo 12 = .ok (.getfield 71, 3) := by decide +kernel
theorem dX12_undo_15 : decode cX12_undo 15 = .ok (.iconst 1, 1) := by decide +kernel
theorem dX12_undo_16 : decode cX12_undo 16 = .ok (.isub, 1) := by decide +kernel
theorem dX12_undo_17 : decode cX12_undo 17 = .ok (.putfield 71, 3) := by decide +kernel
theorem dX12_undo_20 : decode cX12_undo 20 = .ok (.aload_n 0, 1) := by decide +kernel
theorem dX12_undo_21 : decode cX12_undo 21 = .ok (.iconst 1, 1) := by decide +kernel
theorem dX12_undo_22 : decode cX12_undo 22 = .ok (.aload_n 0, 1) := by decide +kernel
theorem dX12_undo_23 : decode cX12_undo 23 = .ok (.getfield 71, 3) := by decide +kernel
theorem dX12_undo_26 : decode cX12_undo 26 = .ok (.iadd, 1) := by decide +kernel
theorem dX12_undo_27 : decode cX12_undo 27 = .ok (.iconst 0, 1) := by decide +kernel
theorem dX12_undo_28 : decode cX12_undo 28 = .ok (.invokevirtual 75, 3) := by decide +kernel
theorem dX12_undo_31 : decode cX12_undo 31 = .ok (.aload_n 0, 1) := by decide +kernel
theorem dX12_undo_32 : decode cX12_undo 32 = .ok (.getfield 71, 3) := by decide +kernel
theorem dX12_undo_35 : decode cX12_undo 35 = .ok (.ireturn, 1) := by decide +kernel
theorem dX12_keep_0 : decode cX12_keep 0 = .ok (.iload_n 1, 1) := by decide +kernel
theorem dX12_keep_1 : decode cX12_keep 1 = .ok (.iconst 0, 1) := by decide +kernel
theorem dX12_keep_2 : decode cX12_keep 2 = .ok (.iconst 1, 1) := by decide +kernel
theorem dX12_keep_3 : decode cX12_keep 3 = .ok (.invokestatic 79, 3) := by decide +kernel
theorem dX12_keep_6 : decode cX12_keep 6 = .ok (.ifCond .ne 5, 3) := by decide +kernel
theorem dX12_keep_9 : decode cX12_keep 9 = .ok (.iconst (-1), 1) := by decide +kernel
theorem dX12_keep_10 : decode cX12_keep 10 = .ok (.ireturn, 1) := by decide +kernel
theorem dX12_keep_11 : decode cX12_keep 11 = .ok (.aload_n 0, 1) := by decide +kernel
theorem dX12_keep_12 : decode cX12_keep 12 = .ok (.getfield 13, 3) := by decide +kernel
theorem dX12_keep_15 : decode cX12_keep 15 = .ok (.iload_n 1, 1) := by decide +kernel
theorem dX12_keep_16 : decode cX12_keep 16 = .ok (.baload, 1) := by decide +kernel
theorem dX12_keep_17 : decode cX12_keep 17 = .ok (.ifCond .eq 7, 3) := by decide +kernel
theorem dX12_keep_20 : decode cX12_keep 20 = .ok (.iconst 1, 1) := by decide +kernel
theorem dX12_keep_21 : decode cX12_keep 21 = .ok (.goto 4, 3) := by decide +kernel
theorem dX12_keep_24 : decode cX12_keep 24 = .ok (.iconst 0, 1) := by decide +kernel
theorem dX12_keep_25 : decode cX12_keep 25 = .ok (.istore_n 2, 1) := by decide +kernel
theorem dX12_keep_26 : decode cX12_keep 26 = .ok (.aload_n 0, 1) := by decide +kernel
theorem dX12_keep_27 : decode cX12_keep 27 = .ok (.iconst 0, 1) := by decide +kernel
theorem dX12_keep_28 : decode cX12_keep 28 = .ok (.bipush 9, 2) := by decide +kernel
theorem dX12_keep_30 : decode cX12_keep 30 = .ok (.iload_n 1, 1) := by decide +kernel
theorem dX12_keep_31 : decode cX12_keep 31 = .ok (.iadd, 1) := by decide +kernel
theorem dX12_keep_32 : decode cX12_keep 32 = .ok (.invokevirtual 75, 3) := by decide +kernel
theorem dX12_keep_35 : decode cX12_keep 35 = .ok (.aload_n 0, 1) := by decide +kernel
theorem dX12_keep_36 : decode cX12_keep 36 = .ok (.getfield 13, 3) := by decide +kernel
theorem dX12_keep_39 : decode cX12_keep 39 = .ok (.iload_n 1, 1) := by decide +kernel
theorem dX12_keep_40 : decode cX12_keep 40 = .ok (.iconst 1, 1) := by decide +kernel
theorem dX12_keep_41 : decode cX12_keep 41 = .ok (.bastore, 1) := by decide +kernel
theorem dX12_keep_42 : decode cX12_keep 42 = .ok (.iload_n 2, 1) := by decide +kernel
theorem dX12_keep_43 : decode cX12_keep 43 = .ok (.ireturn, 1) := by decide +kernel
theorem dX12_back_0 : decode cX12_back 0 = .ok (.iload_n 1, 1) := by decide +kernel
theorem dX12_back_1 : decode cX12_back 1 = .ok (.iconst 0, 1) := by decide +kernel
theorem dX12_back_2 : decode cX12_back 2 = .ok (.iconst 1, 1) := by decide +kernel
theorem dX12_back_3 : decode cX12_back 3 = .ok (.invokestatic 79, 3) := by decide +kernel
theorem dX12_back_6 : decode cX12_back 6 = .ok (.ifCond .eq 12, 3) := by decide +kernel
theorem dX12_back_9 : decode cX12_back 9 = .ok (.aload_n 0, 1) := by decide +kernel
theorem dX12_back_10 : decode cX12_back 10 = .ok (.getfield 13, 3) := by decide +kernel
theorem dX12_back_13 : decode cX12_back 13 = .ok (.iload_n 1, 1) := by decide +kernel
theorem dX12_back_14 : decode cX12_back 14 = .ok (.baload, 1) := by decide +kernel
theorem dX12_back_15 : decode cX12_back 15 = .ok (.ifCond .ne 5, 3) := by decide +kernel
theorem dX12_back_18 : decode cX12_back 18 = .ok (.iconst (-1), 1) := by decide +kernel
theorem dX12_back_19 : decode cX12_back 19 = .ok (.ireturn, 1) := by decide +kernel
theorem dX12_back_20 : decode cX12_back 20 = .ok (.aload_n 0, 1) := by decide +kernel
theorem dX12_back_21 : decode cX12_back 21 = .ok (.bipush 9, 2) := by decide +kernel
theorem dX12_back_23 : decode cX12_back 23 = .ok (.iload_n 1, 1) := by decide +kernel
theorem dX12_back_24 : decode cX12_back 24 = .ok (.iadd, 1) := by decide +kernel
theorem dX12_back_25 : decode cX12_back 25 = .ok (.iconst 0, 1) := by decide +kernel
theorem dX12_back_26 : decode cX12_back 26 = .ok (.invokevirtual 75, 3) := by decide +kernel
theorem dX12_back_29 : decode cX12_back 29 = .ok (.aload_n 0, 1) := by decide +kernel
theorem dX12_back_30 : decode cX12_back 30 = .ok (.iconst 0, 1) := by decide +kernel
theorem dX12_back_31 : decode cX12_back 31 = .ok (.putfield 71, 3) := by decide +kernel
theorem dX12_back_34 : decode cX12_back 34 = .ok (.aload_n 0, 1) := by decide +kernel
theorem dX12_back_35 : decode cX12_back 35 = .ok (.getfield 7, 3) := by decide +kernel
theorem dX12_back_38 : decode cX12_back 38 = .ok (.iconst 0, 1) := by decide +kernel
theorem dX12_back_39 : decode cX12_back 39 = .ok (.iaload, 1) := by decide +kernel
theorem dX12_back_40 : decode cX12_back 40 = .ok (.ireturn, 1) := by decide +kernel
theorem dX12_draws_0 : decode cX12_draws 0 = .ok (.aload_n 0, 1) := by decide +kernel
theorem dX12_draws_1 : decode cX12_draws 1 = .ok (.aload_n 0, 1) := by decide +kernel
theorem dX12_draws_2 : decode cX12_draws 2 = .ok (.getfield 299, 3) := by decide +kernel
theorem dX12_draws_5 : decode cX12_draws 5 = .ok (.ldc_w 302, 3) := by decide +kernel
theorem dX12_draws_8 : decode cX12_draws 8 = .ok (.imul, 1) := by decide +kernel
theorem dX12_draws_9 : decode cX12_draws 9 = .ok (.sipush 12345, 3) := by decide +kernel
theorem dX12_draws_12 : decode cX12_draws 12 = .ok (.iadd, 1) := by decide +kernel
theorem dX12_draws_13 : decode cX12_draws 13 = .ok (.putfield 299, 3) := by decide +kernel
theorem dX12_draws_16 : decode cX12_draws 16 = .ok (.aload_n 0, 1) := by decide +kernel
theorem dX12_draws_17 : decode cX12_draws 17 = .ok (.getfield 299, 3) := by decide +kernel
theorem dX12_draws_20 : decode cX12_draws 20 = .ok (.bipush 16, 2) := by decide +kernel
theorem dX12_draws_22 : decode cX12_draws 22 = .ok (.iushr, 1) := by decide +kernel
theorem dX12_draws_23 : decode cX12_draws 23 = .ok (.sipush 32767, 3) := by decide +kernel
theorem dX12_draws_26 : decode cX12_draws 26 = .ok (.iand, 1) := by decide +kernel
theorem dX12_draws_27 : decode cX12_draws 27 = .ok (.ireturn, 1) := by decide +kernel
theorem dX12_drawsLine_0 : decode cX12_drawsLine 0 = .ok (.aload_n 0, 1) := by decide +kernel
theorem dX12_drawsLine_1 : decode cX12_drawsLine 1 = .ok (.getfield 7, 3) := by decide +kernel
theorem dX12_drawsLine_4 : decode cX12_drawsLine 4 = .ok (.iconst 0, 1) := by decide +kernel
theorem dX12_drawsLine_5 : decode cX12_drawsLine 5 = .ok (.iaload, 1) := by decide +kernel
theorem dX12_drawsLine_6 : decode cX12_drawsLine 6 = .ok (.istore_n 1, 1) := by decide +kernel
theorem dX12_drawsLine_7 : decode cX12_drawsLine 7 = .ok (.aload_n 0, 1) := by decide +kernel
theorem dX12_drawsLine_8 : decode cX12_drawsLine 8 = .ok (.getfield 7, 3) := by decide +kernel
theorem dX12_drawsLine_11 : decode cX12_drawsLine 11 = .ok (.iconst 0, 1) := by decide +kernel
theorem dX12_drawsLine_12 : decode cX12_drawsLine 12 = .ok (.dup2, 1) := by decide +kernel
theorem dX12_drawsLine_13 : decode cX12_drawsLine 13 = .ok (.iaload, 1) := by decide +kernel
theorem dX12_drawsLine_14 : decode cX12_drawsLine 14 = .ok (.iconst 1, 1) := by decide +kernel
theorem dX12_drawsLine_15 : decode cX12_drawsLine 15 = .ok (.iadd, 1) := by decide +kernel
theorem dX12_drawsLine_16 : decode cX12_drawsLine 16 = .ok (.iastore, 1) := by decide +kernel
theorem dX12_drawsLine_17 : decode cX12_drawsLine 17 = .ok (.aload_n 0, 1) := by decide +kernel
theorem dX12_drawsLine_18 : decode cX12_drawsLine 18 = .ok (.getfield 7, 3) := by decide +kernel
theorem dX12_drawsLine_21 : decode cX12_drawsLine 21 = .ok (.bipush 41, 2) := by decide +kernel
theorem dX12_drawsLine_23 : decode cX12_drawsLine 23 = .ok (.iload_n 1, 1) := by decide +kernel
theorem dX12_drawsLine_24 : decode cX12_drawsLine 24 = .ok (.iadd, 1) := by decide +kernel
theorem dX12_drawsLine_25 : decode cX12_drawsLine 25 = .ok (.iconst 0, 1) := by decide +kernel
theorem dX12_drawsLine_26 : decode cX12_drawsLine 26 = .ok (.iastore, 1) := by decide +kernel
theorem dX12_drawsLine_27 : decode cX12_drawsLine 27 = .ok (.aload_n 0, 1) := by decide +kernel
theorem dX12_drawsLine_28 : decode cX12_drawsLine 28 = .ok (.getfield 7, 3) := by decide +kernel
theorem dX12_drawsLine_31 : decode cX12_drawsLine 31 = .ok (.iconst 1, 1) := by decide +kernel
theorem dX12_drawsLine_32 : decode cX12_drawsLine 32 = .ok (.iload_n 1, 1) := by decide +kernel
theorem dX12_drawsLine_33 : decode cX12_drawsLine 33 = .ok (.iadd, 1) := by decide +kernel
theorem dX12_drawsLine_34 : decode cX12_drawsLine 34 = .ok (.aload_n 0, 1) := by decide +kernel
theorem dX12_drawsLine_35 : decode cX12_drawsLine 35 = .ok (.invokevirtual 303, 3) := by decide +kernel
theorem dX12_drawsLine_38 : decode cX12_drawsLine 38 = .ok (.bipush 12, 2) := by decide +kernel
theorem dX12_drawsLine_40 : decode cX12_drawsLine 40 = .ok (.irem, 1) := by decide +kernel
theorem dX12_drawsLine_41 : decode cX12_drawsLine 41 = .ok (.iastore, 1) := by decide +kernel
theorem dX12_drawsLine_42 : decode cX12_drawsLine 42 = .ok (.iconst 1, 1) := by decide +kernel
theorem dX12_drawsLine_43 : decode cX12_drawsLine 43 = .ok (.aload_n 0, 1) := by decide +kernel
theorem dX12_drawsLine_44 : decode cX12_drawsLine 44 = .ok (.invokevirtual 303, 3) := by decide +kernel
theorem dX12_drawsLine_47 : decode cX12_drawsLine 47 = .ok (.iconst 3, 1) := by decide +kernel
theorem dX12_drawsLine_48 : decode cX12_drawsLine 48 = .ok (.irem, 1) := by decide +kernel
theorem dX12_drawsLine_49 : decode cX12_drawsLine 49 = .ok (.iadd, 1) := by decide +kernel
theorem dX12_drawsLine_50 : decode cX12_drawsLine 50 = .ok (.istore_n 2, 1) := by decide +kernel
theorem dX12_drawsLine_51 : decode cX12_drawsLine 51 = .ok (.iconst 0, 1) := by decide +kernel
theorem dX12_drawsLine_52 : decode cX12_drawsLine 52 = .ok (.istore_n 3, 1) := by decide +kernel
theorem dX12_drawsLine_53 : decode cX12_drawsLine 53 = .ok (.iconst 0, 1) := by decide +kernel
theorem dX12_drawsLine_54 : decode cX12_drawsLine 54 = .ok (.istore 4, 2) := by decide +kernel
theorem dX12_drawsLine_56 : decode cX12_drawsLine 56 = .ok (.iload 4, 2) := by decide +kernel
theorem dX12_drawsLine_58 : decode cX12_drawsLine 58 = .ok (.iload_n 2, 1) := by decide +kernel
theorem dX12_drawsLine_59 : decode cX12_drawsLine 59 = .ok (.if_icmp .ge 95, 3) := by decide +kernel
theorem dX12_drawsLine_62 : decode cX12_drawsLine 62 = .ok (.aload_n 0, 1) := by decide +kernel
theorem dX12_drawsLine_63 : decode cX12_drawsLine 63 = .ok (.invokevirtual 303, 3) := by decide +kernel
theorem dX12_drawsLine_66 : decode cX12_drawsLine 66 = .ok (.bipush 16, 2) := by decide +kernel
theorem dX12_drawsLine_68 : decode cX12_drawsLine 68 = .ok (.irem, 1) := by decide +kernel
theorem dX12_drawsLine_69 : decode cX12_drawsLine 69 = .ok (.istore 5, 2) := by decide +kernel
theorem dX12_drawsLine_71 : decode cX12_drawsLine 71 = .ok (.iload 4, 2) := by decide +kernel
theorem dX12_drawsLine_73 : decode cX12_drawsLine 73 = .ok (.ifCond .le 22, 3) := by decide +kernel
theorem dX12_drawsLine_76 : decode cX12_drawsLine 76 = .ok (.aload_n 0, 1) := by decide +kernel
theorem dX12_drawsLine_77 : decode cX12_drawsLine 77 = .ok (.getfield 7, 3) := by decide +kernel
theorem dX12_drawsLine_80 : decode cX12_drawsLine 80 = .ok (.bipush 61, 2) := by decide +kernel
theorem dX12_drawsLine_82 : decode cX12_drawsLine 82 = .ok (.bipush 32, 2) := by decide +kernel
theorem dX12_drawsLine_84 : decode cX12_drawsLine 84 = .ok (.iload_n 1, 1) := by decide +kernel
theorem dX12_drawsLine_85 : decode cX12_drawsLine 85 = .ok (.imul, 1) := by decide +kernel
theorem dX12_drawsLine_86 : decode cX12_drawsLine 86 = .ok (.iadd, 1) := by decide +kernel
theorem dX12_drawsLine_87 : decode cX12_drawsLine 87 = .ok (.iload_n 3, 1) := by decide +kernel
theorem dX12_drawsLine_88 : decode cX12_drawsLine 88 = .ok (.iadd, 1) := by decide +kernel
theorem dX12_drawsLine_89 : decode cX12_drawsLine 89 = .ok (.bipush 32, 2) := by decide +kernel
theorem dX12_drawsLine_91 : decode cX12_drawsLine 91 = .ok (.iastore, 1) := by decide +kernel
theorem dX12_drawsLine_92 : decode cX12_drawsLine 92 = .ok (.iinc 3 1, 3) := by decide +kernel
theorem dX12_drawsLine_95 : decode cX12_drawsLine 95 = .ok (.aload_n 0, 1) := by decide +kernel
theorem dX12_drawsLine_96 : decode cX12_drawsLine 96 = .ok (.getfield 65, 3) := by decide +kernel
theorem dX12_drawsLine_99 : decode cX12_drawsLine 99 = .ok (.iload 5, 2) := by decide +kernel
theorem dX12_drawsLine_101 : decode cX12_drawsLine 101 = .ok (.iaload, 1) := by decide +kernel
theorem dX12_drawsLine_102 : decode cX12_drawsLine 102 = .ok (.istore 6, 2) := by decide +kernel
theorem dX12_drawsLine_104 : decode cX12_drawsLine 104 = .ok (.iload 6, 2) := by decide +kernel
theorem dX12_drawsLine_106 : decode cX12_drawsLine 106 = .ok (.aload_n 0, 1) := by decide +kernel
theorem dX12_drawsLine_107 : decode cX12_drawsLine 107 = .ok (.getfield 65, 3) := by decide +kernel
theorem dX12_drawsLine_110 : decode cX12_drawsLine 110 = .ok (.iload 5, 2) := by decide +kernel
theorem dX12_drawsLine_112 : decode cX12_drawsLine 112 = .ok (.iconst 1, 1) := by decide +kernel
theorem dX12_drawsLine_113 : decode cX12_drawsLine 113 = .ok (.iadd, 1) := by decide +kernel
theorem dX12_drawsLine_114 : decode cX12_drawsLine 114 = .ok (.iaload, 1) := by decide +kernel
theorem dX12_drawsLine_115 : decode cX12_drawsLine 115 = .ok (.if_icmp .ge 33, 3) := by decide +kernel
theorem dX12_drawsLine_118 : decode cX12_drawsLine 118 = .ok (.aload_n 0, 1) := by decide +kernel
theorem dX12_drawsLine_119 : decode cX12_drawsLine 119 = .ok (.getfield 7, 3) := by decide +kernel
theorem dX12_drawsLine_122 : decode cX12_drawsLine 122 = .ok (.bipush 61, 2) := by decide +kernel
theorem dX12_drawsLine_124 : decode cX12_drawsLine 124 = .ok (.bipush 32, 2) := by decide +kernel
theorem dX12_drawsLine_126 : decode cX12_drawsLine 126 = .ok (.iload_n 1, 1) := by decide +kernel
theorem dX12_drawsLine_127 : decode cX12_drawsLine 127 = .ok (.imul, 1) := by decide +kernel
theorem dX12_drawsLine_128 : decode cX12_drawsLine 128 = .ok (.iadd, 1) := by decide +kernel
theorem dX12_drawsLine_129 : decode cX12_drawsLine 129 = .ok (.iload_n 3, 1) := by decide +kernel
theorem dX12_drawsLine_130 : decode cX12_drawsLine 130 = .ok (.iadd, 1) := by decide +kernel
theorem dX12_drawsLine_131 : decode cX12_drawsLine 131 = .ok (.aload_n 0, 1) := by decide +kernel
theorem dX12_drawsLine_132 : decode cX12_drawsLine 132 = .ok (.getfield 68, 3) := by decide +kernel
theorem dX12_drawsLine_135 : decode cX12_drawsLine 135 = .ok (.iload 6, 2) := by decide +kernel
theorem dX12_drawsLine_137 : decode cX12_drawsLine 137 = .ok (.iaload, 1) := by decide +kernel
theorem dX12_drawsLine_138 : decode cX12_drawsLine 138 = .ok (.iastore, 1) := by decide +kernel
theorem dX12_drawsLine_139 : decode cX12_drawsLine 139 = .ok (.iinc 3 1, 3) := by decide +kernel
theorem dX12_drawsLine_142 : decode cX12_drawsLine 142 = .ok (.iinc 6 1, 3) := by decide +kernel
theorem dX12_drawsLine_145 : decode cX12_drawsLine 145 = .ok (.goto (-41), 3) := by decide +kernel
theorem dX12_drawsLine_148 : decode cX12_drawsLine 148 = .ok (.iinc 4 1, 3) := by decide +kernel
theorem dX12_drawsLine_151 : decode cX12_drawsLine 151 = .ok (.goto (-95), 3) := by decide +kernel
theorem dX12_drawsLine_154 : decode cX12_drawsLine 154 = .ok (.aload_n 0, 1) := by decide +kernel
theorem dX12_drawsLine_155 : decode cX12_drawsLine 155 = .ok (.getfield 7, 3) := by decide +kernel
theorem dX12_drawsLine_158 : decode cX12_drawsLine 158 = .ok (.bipush 21, 2) := by decide +kernel
theorem dX12_drawsLine_160 : decode cX12_drawsLine 160 = .ok (.iload_n 1, 1) := by decide +kernel
theorem dX12_drawsLine_161 : decode cX12_drawsLine 161 = .ok (.iadd, 1) := by decide +kernel
theorem dX12_drawsLine_162 : decode cX12_drawsLine 162 = .ok (.iload_n 3, 1) := by decide +kernel
theorem dX12_drawsLine_163 : decode cX12_drawsLine 163 = .ok (.iastore, 1) := by decide +kernel
theorem dX12_drawsLine_164 : decode cX12_drawsLine 164 = .ok (.return_, 1) := by decide +kernel
theorem dX12_draw_0 : decode cX12_draw 0 = .ok (.iload_n 2, 1) := by decide +kernel
theorem dX12_draw_1 : decode cX12_draw 1 = .ok (.iconst 1, 1) := by decide +kernel
theorem dX12_draw_2 : decode cX12_draw 2 = .ok (.bipush 12, 2) := by decide +kernel
theorem dX12_draw_4 : decode cX12_draw 4 = .ok (.invokestatic 79, 3) := by decide +kernel
theorem dX12_draw_7 : decode cX12_draw 7 = .ok (.ifCond .ne 5, 3) := by decide +kernel
theorem dX12_draw_10 : decode cX12_draw 10 = .ok (.iconst (-1), 1) := by decide +kernel
theorem dX12_draw_11 : decode cX12_draw 11 = .ok (.ireturn, 1) := by decide +kernel
theorem dX12_draw_12 : decode cX12_draw 12 = .ok (.aload_n 0, 1) := by decide +kernel
theorem dX12_draw_13 : decode cX12_draw 13 = .ok (.invokevirtual 207, 3) := by decide +kernel
theorem dX12_draw_16 : decode cX12_draw 16 = .ok (.aload_n 0, 1) := by decide +kernel
theorem dX12_draw_17 : decode cX12_draw 17 = .ok (.iload_n 1, 1) := by decide +kernel
theorem dX12_draw_18 : decode cX12_draw 18 = .ok (.putfield 299, 3) := by decide +kernel
theorem dX12_draw_21 : decode cX12_draw 21 = .ok (.iconst 0, 1) := by decide +kernel
theorem dX12_draw_22 : decode cX12_draw 22 = .ok (.istore_n 3, 1) := by decide +kernel
theorem dX12_draw_23 : decode cX12_draw 23 = .ok (.iload_n 3, 1) := by decide +kernel
theorem dX12_draw_24 : decode cX12_draw 24 = .ok (.iload_n 2, 1) := by decide +kernel
theorem dX12_draw_25 : decode cX12_draw 25 = .ok (.if_icmp .ge 24, 3) := by decide +kernel
theorem dX12_draw_28 : decode cX12_draw 28 = .ok (.aload_n 0, 1) := by decide +kernel
theorem dX12_draw_29 : decode cX12_draw 29 = .ok (.getfield 7, 3) := by decide +kernel
theorem dX12_draw_32 : decode cX12_draw 32 = .ok (.iconst 0, 1) := by decide +kernel
theorem dX12_draw_33 : decode cX12_draw 33 = .ok (.iaload, 1) := by decide +kernel
theorem dX12_draw_34 : decode cX12_draw 34 = .ok (.bipush 20, 2) := by decide +kernel
theorem dX12_draw_36 : decode cX12_draw 36 = .ok (.if_icmp .ge 13, 3) := by decide +kernel
theorem dX12_draw_39 : decode cX12_draw 39 = .ok (.aload_n 0, 1) := by decide +kernel
theorem dX12_draw_40 : decode cX12_draw 40 = .ok (.invokevirtual 306, 3) := by decide +kernel
theorem dX12_draw_43 : decode cX12_draw 43 = .ok (.iinc 3 1, 3) := by decide +kernel
theorem dX12_draw_46 : decode cX12_draw 46 = .ok (.goto (-23), 3) := by decide +kernel
theorem dX12_draw_49 : decode cX12_draw 49 = .ok (.iload_n 3, 1) := by decide +kernel
theorem dX12_draw_50 : decode cX12_draw 50 = .ok (.ireturn, 1) := by decide +kernel
theorem dX12_mixes_0 : decode cX12_mixes 0 = .ok (.aload_n 0, 1) := by decide +kernel
theorem dX12_mixes_1 : decode cX12_mixes 1 = .ok (.ldc2_w 309, 3) := by decide +kernel
theorem dX12_mixes_4 : decode cX12_mixes 4 = .ok (.aload_n 0, 1) := by decide +kernel
theorem dX12_mixes_5 : decode cX12_mixes 5 = .ok (.getfield 311, 3) := by decide +kernel
theorem dX12_mixes_8 : decode cX12_mixes 8 = .ok (.lmul, 1) := by decide +kernel
theorem dX12_mixes_9 : decode cX12_mixes 9 = .ok (.iload_n 1, 1) := by decide +kernel
theorem dX12_mixes_10 : decode cX12_mixes 10 = .ok (.i2l, 1) := by decide +kernel
theorem dX12_mixes_11 : decode cX12_mixes 11 = .ok (.ladd, 1) := by decide +kernel
theorem dX12_mixes_12 : decode cX12_mixes 12 = .ok (.putfield 311, 3) := by decide +kernel
theorem dX12_mixes_15 : decode cX12_mixes 15 = .ok (.return_, 1) := by decide +kernel
theorem dX12_mixesText_0 : decode cX12_mixesText 0 = .ok (.iconst 0, 1) := by decide +kernel
theorem dX12_mixesText_1 : decode cX12_mixesText 1 = .ok (.istore_n 2, 1) := by decide +kernel
theorem dX12_mixesText_2 : decode cX12_mixesText 2 = .ok (.iload_n 2, 1) := by decide +kernel
theorem dX12_mixesText_3 : decode cX12_mixesText 3 = .ok (.aload_n 0, 1) := by decide +kernel
theorem dX12_mixesText_4 : decode cX12_mixesText 4 = .ok (.getfield 7, 3) := by decide +kernel
theorem dX12_mixesText_7 : decode cX12_mixesText 7 = .ok (.iload_n 1, 1) := by decide +kernel
theorem dX12_mixesText_8 : decode cX12_mixesText 8 = .ok (.iaload, 1) := by decide +kernel
theorem dX12_mixesText_9 : decode cX12_mixesText 9 = .ok (.if_icmp .ge 23, 3) := by decide +kernel
theorem dX12_mixesText_12 : decode cX12_mixesText 12 = .ok (.aload_n 0, 1) := by decide +kernel
theorem dX12_mixesText_13 : decode cX12_mixesText 13 = .ok (.aload_n 0, 1) := by decide +kernel
theorem dX12_mixesText_14 : decode cX12_mixesText 14 = .ok (.getfield 7, 3) := by decide +kernel
theorem dX12_mixesText_17 : decode cX12_mixesText 17 = .ok (.iload_n 1, 1) := by decide +kernel
theorem dX12_mixesText_18 : decode cX12_mixesText 18 = .ok (.iconst 1, 1) := by decide +kernel
theorem dX12_mixesText_19 : decode cX12_mixesText 19 = .ok (.iadd, 1) := by decide +kernel
theorem dX12_mixesText_20 : decode cX12_mixesText 20 = .ok (.iload_n 2, 1) := by decide +kernel
theorem dX12_mixesText_21 : decode cX12_mixesText 21 = .ok (.iadd, 1) := by decide +kernel
theorem dX12_mixesText_22 : decode cX12_mixesText 22 = .ok (.iaload, 1) := by decide +kernel
theorem dX12_mixesText_23 : decode cX12_mixesText 23 = .ok (.invokevirtual 315, 3) := by decide +kernel
theorem dX12_mixesText_26 : decode cX12_mixesText 26 = .ok (.iinc 2 1, 3) := by decide +kernel
theorem dX12_mixesText_29 : decode cX12_mixesText 29 = .ok (.goto (-27), 3) := by decide +kernel
theorem dX12_mixesText_32 : decode cX12_mixesText 32 = .ok (.return_, 1) := by decide +kernel
theorem dX12_mixesRule_0 : decode cX12_mixesRule 0 = .ok (.sipush 701, 3) := by decide +kernel
theorem dX12_mixesRule_3 : decode cX12_mixesRule 3 = .ok (.bipush 23, 2) := by decide +kernel
theorem dX12_mixesRule_5 : decode cX12_mixesRule 5 = .ok (.iload_n 1, 1) := by decide +kernel
theorem dX12_mixesRule_6 : decode cX12_mixesRule 6 = .ok (.imul, 1) := by decide +kernel
theorem dX12_mixesRule_7 : decode cX12_mixesRule 7 = .ok (.iadd, 1) := by decide +kernel
theorem dX12_mixesRule_8 : decode cX12_mixesRule 8 = .ok (.istore_n 2, 1) := by decide +kernel
theorem dX12_mixesRule_9 : decode cX12_mixesRule 9 = .ok (.aload_n 0, 1) := by decide +kernel
theorem dX12_mixesRule_10 : decode cX12_mixesRule 10 = .ok (.getfield 7, 3) := by decide +kernel
theorem dX12_mixesRule_13 : decode cX12_mixesRule 13 = .ok (.iload_n 2, 1) := by decide +kernel
theorem dX12_mixesRule_14 : decode cX12_mixesRule 14 = .ok (.iconst 0, 1) := by decide +kernel
theorem dX12_mixesRule_15 : decode cX12_mixesRule 15 = .ok (.iadd, 1) := by decide +kernel
theorem dX12_mixesRule_16 : decode cX12_mixesRule 16 = .ok (.iaload, 1) := by decide +kernel
theorem dX12_mixesRule_17 : decode cX12_mixesRule 17 = .ok (.istore_n 3, 1) := by decide +kernel
theorem dX12_mixesRule_18 : decode cX12_mixesRule 18 = .ok (.aload_n 0, 1) := by decide +kernel
theorem dX12_mixesRule_19 : decode cX12_mixesRule 19 = .ok (.iload_n 3, 1) := by decide +kernel
theorem dX12_mixesRule_20 : decode cX12_mixesRule 20 = .ok (.invokevirtual 315, 3) := by decide +kernel
theorem dX12_mixesRule_23 : decode cX12_mixesRule 23 = .ok (.iload_n 3, 1) := by decide +kernel
theorem dX12_mixesRule_24 : decode cX12_mixesRule 24 = .ok (.ifCond .ne 4, 3) := by decide +kernel
theorem dX12_mixesRule_27 : decode cX12_mixesRule 27 = .ok (.return_, 1) := by decide +kernel
theorem dX12_mixesRule_28 : decode cX12_mixesRule 28 = .ok (.aload_n 0, 1) := by decide +kernel
theorem dX12_mixesRule_29 : decode cX12_mixesRule 29 = .ok (.aload_n 0, 1) := by decide +kernel
theorem dX12_mixesRule_30 : decode cX12_mixesRule 30 = .ok (.getfield 7, 3) := by decide +kernel
theorem dX12_mixesRule_33 : decode cX12_mixesRule 33 = .ok (.iload_n 2, 1) := by decide +kernel
theorem dX12_mixesRule_34 : decode cX12_mixesRule 34 = .ok (.iconst 1, 1) := by decide +kernel
theorem dX12_mixesRule_35 : decode cX12_mixesRule 35 = .ok (.iadd, 1) := by decide +kernel
theorem dX12_mixesRule_36 : decode cX12_mixesRule 36 = .ok (.iaload, 1) := by decide +kernel
theorem dX12_mixesRule_37 : decode cX12_mixesRule 37 = .ok (.invokevirtual 315, 3) := by decide +kernel
theorem dX12_mixesRule_40 : decode cX12_mixesRule 40 = .ok (.aload_n 0, 1) := by decide +kernel
theorem dX12_mixesRule_41 : decode cX12_mixesRule 41 = .ok (.aload_n 0, 1) := by decide +kernel
theorem dX12_mixesRule_42 : decode cX12_mixesRule 42 = .ok (.getfield 7, 3) := by decide +kernel
theorem dX12_mixesRule_45 : decode cX12_mixesRule 45 = .ok (.iload_n 2, 1) := by decide +kernel
theorem dX12_mixesRule_46 : decode cX12_mixesRule 46 = .ok (.iconst 2, 1) := by decide +kernel
theorem dX12_mixesRule_47 : decode cX12_mixesRule 47 = .ok (.iadd, 1) := by decide +kernel
theorem dX12_mixesRule_48 : decode cX12_mixesRule 48 = .ok (.iaload, 1) := by decide +kernel
theorem dX12_mixesRule_49 : decode cX12_mixesRule 49 = .ok (.invokevirtual 315, 3) := by decide +kernel
theorem dX12_mixesRule_52 : decode cX12_mixesRule 52 = .ok (.iload_n 3, 1) := by decide +kernel
theorem dX12_mixesRule_53 : decode cX12_mixesRule 53 = .ok (.iconst 1, 1) := by decide +kernel
theorem dX12_mixesRule_54 : decode cX12_mixesRule 54 = .ok (.if_icmp .ne 27, 3) := by decide +kernel
theorem dX12_mixesRule_57 : decode cX12_mixesRule 57 = .ok (.aload_n 0, 1) := by decide +kernel
theorem dX12_mixesRule_58 : decode cX12_mixesRule 58 = .ok (.aload_n 0, 1) := by decide +kernel
theorem dX12_mixesRule_59 : decode cX12_mixesRule 59 = .ok (.getfield 7, 3) := by decide +kernel
theorem dX12_mixesRule_62 : decode cX12_mixesRule 62 = .ok (.iload_n 2, 1) := by decide +kernel
theorem dX12_mixesRule_63 : decode cX12_mixesRule 63 = .ok (.iconst 3, 1) := by decide +kernel
theorem dX12_mixesRule_64 : decode cX12_mixesRule 64 = .ok (.iadd, 1) := by decide +kernel
theorem dX12_mixesRule_65 : decode cX12_mixesRule 65 = .ok (.iaload, 1) := by decide +kernel
theorem dX12_mixesRule_66 : decode cX12_mixesRule 66 = .ok (.invokevirtual 315, 3) := by decide +kernel
theorem dX12_mixesRule_69 : decode cX12_mixesRule 69 = .ok (.aload_n 0, 1) := by decide +kernel
theorem dX12_mixesRule_70 : decode cX12_mixesRule 70 = .ok (.aload_n 0, 1) := by decide +kernel
theorem dX12_mixesRule_71 : decode cX12_mixesRule 71 = .ok (.getfield 7, 3) := by decide +kernel
theorem dX12_mixesRule_74 : decode cX12_mixesRule 74 = .ok (.iload_n 2, 1) := by decide +kernel
theorem dX12_mixesRule_75 : decode cX12_mixesRule 75 = .ok (.iconst 4, 1) := by decide +kernel
theorem dX12_mixesRule_76 : decode cX12_mixesRule 76 = .ok (.iadd, 1) := by decide +kernel
theorem dX12_mixesRule_77 : decode cX12_mixesRule 77 = .ok (.iaload, 1) := by decide +kernel
theorem dX12_mixesRule_78 : decode cX12_mixesRule 78 = .ok (.invokevirtual 315, 3) := by decide +kernel
theorem dX12_mixesRule_81 : decode cX12_mixesRule 81 = .ok (.aload_n 0, 1) := by decide +kernel
theorem dX12_mixesRule_82 : decode cX12_mixesRule 82 = .ok (.iload_n 2, 1) := by decide +kernel
theorem dX12_mixesRule_83 : decode cX12_mixesRule 83 = .ok (.iconst 5, 1) := by decide +kernel
theorem dX12_mixesRule_84 : decode cX12_mixesRule 84 = .ok (.iadd, 1) := by decide +kernel
theorem dX12_mixesRule_85 : decode cX12_mixesRule 85 = .ok (.invokevirtual 318, 3) := by decide +kernel
theorem dX12_mixesRule_88 : decode cX12_mixesRule 88 = .ok (.iload_n 3, 1) := by decide +kernel
theorem dX12_mixesRule_89 : decode cX12_mixesRule 89 = .ok (.iconst 1, 1) := by decide +kernel
theorem dX12_mixesRule_90 : decode cX12_mixesRule 90 = .ok (.if_icmp .ne 17, 3) := by decide +kernel
theorem dX12_mixesRule_93 : decode cX12_mixesRule 93 = .ok (.aload_n 0, 1) := by decide +kernel
theorem dX12_mixesRule_94 : decode cX12_mixesRule 94 = .ok (.bipush 32, 2) := by decide +kernel
theorem dX12_mixesRule_96 : decode cX12_mixesRule 96 = .ok (.invokevirtual 315, 3) := by decide +kernel
theorem dX12_mixesRule_99 : decode cX12_mixesRule 99 = .ok (.aload_n 0, 1) := by decide +kernel
theorem dX12_mixesRule_100 : decode cX12_mixesRule 100 = .ok (.iload_n 2, 1) := by decide +kernel
theorem dX12_mixesRule_101 : decode cX12_mixesRule 101 = .ok (.bipush 14, 2) := by decide +kernel
theorem dX12_mixesRule_103 : decode cX12_mixesRule 103 = .ok (.iadd, 1) := by decide +kernel
theorem dX12_mixesRule_104 : decode cX12_mixesRule 104 = .ok (.invokevirtual 318, 3) := by decide +kernel
theorem dX12_mixesRule_107 : decode cX12_mixesRule 107 = .ok (.return_, 1) := by decide +kernel
theorem dX12_digest_0 : decode cX12_digest 0 = .ok (.aload_n 0, 1) := by decide +kernel
theorem dX12_digest_1 : decode cX12_digest 1 = .ok (.ldc2_w 321, 3) := by decide +kernel
theorem dX12_digest_4 : decode cX12_digest 4 = .ok (.putfield 311, 3) := by decide +kernel
theorem dX12_digest_7 : decode cX12_digest 7 = .ok (.aload_n 0, 1) := by decide +kernel
theorem dX12_digest_8 : decode cX12_digest 8 = .ok (.aload_n 0, 1) := by decide +kernel
theorem dX12_digest_9 : decode cX12_digest 9 = .ok (.getfield 7, 3) := by decide +kernel
theorem dX12_digest_12 : decode cX12_digest 12 = .ok (.iconst 0, 1) := by decide +kernel
theorem dX12_digest_13 : decode cX12_digest 13 = .ok (.iaload, 1) := by decide +kernel
theorem dX12_digest_14 : decode cX12_digest 14 = .ok (.invokevirtual 315, 3) := by decide +kernel
theorem dX12_digest_17 : decode cX12_digest 17 = .ok (.aload_n 0, 1) := by decide +kernel
theorem dX12_digest_18 : decode cX12_digest 18 = .ok (.aload_n 0, 1) := by decide +kernel
theorem dX12_digest_19 : decode cX12_digest 19 = .ok (.getfield 7, 3) := by decide +kernel
theorem dX12_digest_22 : decode cX12_digest 22 = .ok (.sipush 977, 3) := by decide +kernel
theorem dX12_digest_25 : decode cX12_digest 25 = .ok (.iaload, 1) := by decide +kernel
theorem dX12_digest_26 : decode cX12_digest 26 = .ok (.aload_n 0, 1) := by decide +kernel
theorem dX12_digest_27 : decode cX12_digest 27 = .ok (.getfield 7, 3) := by decide +kernel
theorem dX12_digest_30 : decode cX12_digest 30 = .ok (.sipush 978, 3) := by decide +kernel
theorem dX12_digest_33 : decode cX12_digest 33 = .ok (.iaload, 1) := by decide +kernel
theorem dX12_digest_34 : decode cX12_digest 34 = .ok (.invokevirtual 222, 3) := by decide +kernel
theorem dX12_digest_37 : decode cX12_digest 37 = .ok (.iconst 0, 1) := by decide +kernel
theorem dX12_digest_38 : decode cX12_digest 38 = .ok (.istore_n 1, 1) := by decide +kernel
theorem dX12_digest_39 : decode cX12_digest 39 = .ok (.iload_n 1, 1) := by decide +kernel
theorem dX12_digest_40 : decode cX12_digest 40 = .ok (.aload_n 0, 1) := by decide +kernel
theorem dX12_digest_41 : decode cX12_digest 41 = .ok (.getfield 7, 3) := by decide +kernel
theorem dX12_digest_44 : decode cX12_digest 44 = .ok (.iconst 0, 1) := by decide +kernel
theorem dX12_digest_45 : decode cX12_digest 45 = .ok (.iaload, 1) := by decide +kernel
theorem dX12_digest_46 : decode cX12_digest 46 = .ok (.if_icmp .ge 110, 3) := by decide +kernel
theorem dX12_digest_49 : decode cX12_digest 49 = .ok (.aload_n 0, 1) := by decide +kernel
theorem dX12_digest_50 : decode cX12_digest 50 = .ok (.aload_n 0, 1) := by decide +kernel
theorem dX12_digest_51 : decode cX12_digest 51 = .ok (.getfield 7, 3) := by decide +kernel
theorem dX12_digest_54 : decode cX12_digest 54 = .ok (.iconst 1, 1) := by decide +kernel
theorem dX12_digest_55 : decode cX12_digest 55 = .ok (.iload_n 1, 1) := by decide +kernel
theorem dX12_digest_56 : decode cX12_digest 56 = .ok (.iadd, 1) := by decide +kernel
theorem dX12_digest_57 : decode cX12_digest 57 = .ok (.iaload, 1) := by decide +kernel
theorem dX12_digest_58 : decode cX12_digest 58 = .ok (.invokevirtual 315, 3) := by decide +kernel
theorem dX12_digest_61 : decode cX12_digest 61 = .ok (.aload_n 0, 1) := by decide +kernel
theorem dX12_digest_62 : decode cX12_digest 62 = .ok (.aload_n 0, 1) := by decide +kernel
theorem dX12_digest_63 : decode cX12_digest 63 = .ok (.getfield 7, 3) := by decide +kernel
theorem dX12_digest_66 : decode cX12_digest 66 = .ok (.bipush 21, 2) := by decide +kernel
theorem dX12_digest_68 : decode cX12_digest 68 = .ok (.iload_n 1, 1) := by decide +kernel
theorem dX12_digest_69 : decode cX12_digest 69 = .ok (.iadd, 1) := by decide +kernel
theorem dX12_digest_70 : decode cX12_digest 70 = .ok (.iaload, 1) := by decide +kernel
theorem dX12_digest_71 : decode cX12_digest 71 = .ok (.invokevirtual 315, 3) := by decide +kernel
theorem dX12_digest_74 : decode cX12_digest 74 = .ok (.iconst 0, 1) := by decide +kernel
theorem dX12_digest_75 : decode cX12_digest 75 = .ok (.istore_n 2, 1) := by decide +kernel
theorem dX12_digest_76 : decode cX12_digest 76 = .ok (.iload_n 2, 1) := by decide +kernel
theorem dX12_digest_77 : decode cX12_digest 77 = .ok (.aload_n 0, 1) := by decide +kernel
theorem dX12_digest_78 : decode cX12_digest 78 = .ok (.getfield 7, 3) := by decide +kernel
theorem dX12_digest_81 : decode cX12_digest 81 = .ok (.bipush 21, 2) := by decide +kernel
theorem dX12_digest_83 : decode cX12_digest 83 = .ok (.iload_n 1, 1) := by decide +kernel
theorem dX12_digest_84 : decode cX12_digest 84 = .ok (.iadd, 1) := by decide +kernel
theorem dX12_digest_85 : decode cX12_digest 85 = .ok (.iaload, 1) := by decide +kernel
theorem dX12_digest_86 : decode cX12_digest 86 = .ok (.if_icmp .ge 19, 3) := by decide +kernel
theorem dX12_digest_89 : decode cX12_digest 89 = .ok (.aload_n 0, 1) := by decide +kernel
theorem dX12_digest_90 : decode cX12_digest 90 = .ok (.aload_n 0, 1) := by decide +kernel
theorem dX12_digest_91 : decode cX12_digest 91 = .ok (.iload_n 1, 1) := by decide +kernel
theorem dX12_digest_92 : decode cX12_digest 92 = .ok (.iload_n 2, 1) := by decide +kernel
theorem dX12_digest_93 : decode cX12_digest 93 = .ok (.invokevirtual 83, 3) := by decide +kernel
theorem dX12_digest_96 : decode cX12_digest 96 = .ok (.invokevirtual 315, 3) := by decide +kernel
theorem dX12_digest_99 : decode cX12_digest 99 = .ok (.iinc 2 1, 3) := by decide +kernel
theorem dX12_digest_102 : decode cX12_digest 102 = .ok (.goto (-26), 3) := by decide +kernel
theorem dX12_digest_105 : decode cX12_digest 105 = .ok (.aload_n 0, 1) := by decide +kernel
theorem dX12_digest_106 : decode cX12_digest 106 = .ok (.aload_n 0, 1) := by decide +kernel
theorem dX12_digest_107 : decode cX12_digest 107 = .ok (.getfield 7, 3) := by decide +kernel
theorem dX12_digest_110 : decode cX12_digest 110 = .ok (.bipush 41, 2) := by decide +kernel
theorem dX12_digest_112 : decode cX12_digest 112 = .ok (.iload_n 1, 1) := by decide +kernel
theorem dX12_digest_113 : decode cX12_digest 113 = .ok (.iadd, 1) := by decide +kernel
theorem dX12_digest_114 : decode cX12_digest 114 = .ok (.iaload, 1) := by decide +kernel
theorem dX12_digest_115 : decode cX12_digest 115 = .ok (.invokevirtual 315, 3) := by decide +kernel
theorem dX12_digest_118 : decode cX12_digest 118 = .ok (.aload_n 0, 1) := by decide +kernel
theorem dX12_digest_119 : decode cX12_digest 119 = .ok (.iload_n 1, 1) := by decide +kernel
theorem dX12_digest_120 : decode cX12_digest 120 = .ok (.invokevirtual 185, 3) := by decide +kernel
theorem dX12_digest_123 : decode cX12_digest 123 = .ok (.istore_n 2, 1) := by decide +kernel
theorem dX12_digest_124 : decode cX12_digest 124 = .ok (.iload_n 2, 1) := by decide +kernel
theorem dX12_digest_125 : decode cX12_digest 125 = .ok (.ifCond .eq 8, 3) := by decide +kernel
theorem dX12_digest_128 : decode cX12_digest 128 = .ok (.aload_n 0, 1) := by decide +kernel
theorem dX12_digest_129 : decode cX12_digest 129 = .ok (.iload_n 1, 1) := by decide +kernel
theorem dX12_digest_130 : decode cX12_digest 130 = .ok (.invokevirtual 188, 3) := by decide +kernel
theorem dX12_digest_133 : decode cX12_digest 133 = .ok (.aload_n 0, 1) := by decide +kernel
theorem dX12_digest_134 : decode cX12_digest 134 = .ok (.iload_n 2, 1) := by decide +kernel
theorem dX12_digest_135 : decode cX12_digest 135 = .ok (.ifCond .eq 10, 3) := by decide +kernel
theorem dX12_digest_138 : decode cX12_digest 138 = .ok (.aload_n 0, 1) := by decide +kernel
theorem dX12_digest_139 : decode cX12_digest 139 = .ok (.getfield 170, 3) := by decide +kernel
theorem dX12_digest_142 : decode cX12_digest 142 = .ok (.goto 5, 3) := by decide +kernel
theorem dX12_digest_145 : decode cX12_digest 145 = .ok (.bipush (-9), 2) := by decide +kernel
theorem dX12_digest_147 : decode cX12_digest 147 = .ok (.invokevirtual 315, 3) := by decide +kernel
theorem dX12_digest_150 : decode cX12_digest 150 = .ok (.iinc 1 1, 3) := by decide +kernel
theorem dX12_digest_153 : decode cX12_digest 153 = .ok (.goto (-114), 3) := by decide +kernel
theorem dX12_digest_156 : decode cX12_digest 156 = .ok (.aload_n 0, 1) := by decide +kernel
theorem dX12_digest_157 : decode cX12_digest 157 = .ok (.aload_n 0, 1) := by decide +kernel
theorem dX12_digest_158 : decode cX12_digest 158 = .ok (.getfield 7, 3) := by decide +kernel
theorem dX12_digest_161 : decode cX12_digest 161 = .ok (.sipush 977, 3) := by decide +kernel
theorem dX12_digest_164 : decode cX12_digest 164 = .ok (.iaload, 1) := by decide +kernel
theorem dX12_digest_165 : decode cX12_digest 165 = .ok (.invokevirtual 315, 3) := by decide +kernel
theorem dX12_digest_168 : decode cX12_digest 168 = .ok (.aload_n 0, 1) := by decide +kernel
theorem dX12_digest_169 : decode cX12_digest 169 = .ok (.aload_n 0, 1) := by decide +kernel
theorem dX12_digest_170 : decode cX12_digest 170 = .ok (.getfield 7, 3) := by decide +kernel
theorem dX12_digest_173 : decode cX12_digest 173 = .ok (.sipush 978, 3) := by decide +kernel
theorem dX12_digest_176 : decode cX12_digest 176 = .ok (.iaload, 1) := by decide +kernel
theorem dX12_digest_177 : decode cX12_digest 177 = .ok (.invokevirtual 315, 3) := by decide +kernel
theorem dX12_digest_180 : decode cX12_digest 180 = .ok (.aload_n 0, 1) := by decide +kernel
theorem dX12_digest_181 : decode cX12_digest 181 = .ok (.aload_n 0, 1) := by decide +kernel
theorem dX12_digest_182 : decode cX12_digest 182 = .ok (.getfield 7, 3) := by decide +kernel
theorem dX12_digest_185 : decode cX12_digest 185 = .ok (.sipush 979, 3) := by decide +kernel
theorem dX12_digest_188 : decode cX12_digest 188 = .ok (.iaload, 1) := by decide +kernel
theorem dX12_digest_189 : decode cX12_digest 189 = .ok (.invokevirtual 315, 3) := by decide +kernel
theorem dX12_digest_192 : decode cX12_digest 192 = .ok (.iconst 0, 1) := by decide +kernel
theorem dX12_digest_193 : decode cX12_digest 193 = .ok (.istore_n 1, 1) := by decide +kernel
theorem dX12_digest_194 : decode cX12_digest 194 = .ok (.iload_n 1, 1) := by decide +kernel
theorem dX12_digest_195 : decode cX12_digest 195 = .ok (.bipush 12, 2) := by decide +kernel
theorem dX12_digest_197 : decode cX12_digest 197 = .ok (.if_icmp .ge 14, 3) := by decide +kernel
theorem dX12_digest_200 : decode cX12_digest 200 = .ok (.aload_n 0, 1) := by decide +kernel
theorem dX12_digest_201 : decode cX12_digest 201 = .ok (.iload_n 1, 1) := by decide +kernel
theorem dX12_digest_202 : decode cX12_digest 202 = .ok (.invokevirtual 323, 3) := by decide +kernel
theorem dX12_digest_205 : decode cX12_digest 205 = .ok (.iinc 1 1, 3) := by decide +kernel
theorem dX12_digest_208 : decode cX12_digest 208 = .ok (.goto (-14), 3) := by decide +kernel
theorem dX12_digest_211 : decode cX12_digest 211 = .ok (.aload_n 0, 1) := by decide +kernel
theorem dX12_digest_212 : decode cX12_digest 212 = .ok (.aload_n 0, 1) := by decide +kernel
theorem dX12_digest_213 : decode cX12_digest 213 = .ok (.getfield 71, 3) := by decide +kernel
theorem dX12_digest_216 : decode cX12_digest 216 = .ok (.invokevirtual 315, 3) := by decide +kernel
theorem dX12_digest_219 : decode cX12_digest 219 = .ok (.aload_n 0, 1) := by decide +kernel
theorem dX12_digest_220 : decode cX12_digest 220 = .ok (.aload_n 0, 1) := by decide +kernel
theorem dX12_digest_221 : decode cX12_digest 221 = .ok (.getfield 13, 3) := by decide +kernel
theorem dX12_digest_224 : decode cX12_digest 224 = .ok (.iconst 0, 1) := by decide +kernel
theorem dX12_digest_225 : decode cX12_digest 225 = .ok (.baload, 1) := by decide +kernel
theorem dX12_digest_226 : decode cX12_digest 226 = .ok (.ifCond .eq 7, 3) := by decide +kernel
theorem dX12_digest_229 : decode cX12_digest 229 = .ok (.iconst 1, 1) := by decide +kernel
theorem dX12_digest_230 : decode cX12_digest 230 = .ok (.goto 4, 3) := by decide +kernel
theorem dX12_digest_233 : decode cX12_digest 233 = .ok (.iconst 0, 1) := by decide +kernel
theorem dX12_digest_234 : decode cX12_digest 234 = .ok (.aload_n 0, 1) := by decide +kernel
theorem dX12_digest_235 : decode cX12_digest 235 = .ok (.getfield 13, 3) := by decide +kernel
theorem dX12_digest_238 : decode cX12_digest 238 = .ok (.iconst 1, 1) := by decide +kernel
theorem dX12_digest_239 : decode cX12_digest 239 = .ok (.baload, 1) := by decide +kernel
theorem dX12_digest_240 : decode cX12_digest 240 = .ok (.ifCond .eq 7, 3) := by decide +kernel
theorem dX12_digest_243 : decode cX12_digest 243 = .ok (.iconst 1, 1) := by decide +kernel
theorem dX12_digest_244 : decode cX12_digest 244 = .ok (.goto 4, 3) := by decide +kernel
theorem dX12_digest_247 : decode cX12_digest 247 = .ok (.iconst 0, 1) := by decide +kernel
theorem dX12_digest_248 : decode cX12_digest 248 = .ok (.iadd, 1) := by decide +kernel
theorem dX12_digest_249 : decode cX12_digest 249 = .ok (.invokevirtual 315, 3) := by decide +kernel
theorem dX12_digest_252 : decode cX12_digest 252 = .ok (.aload_n 0, 1) := by decide +kernel
theorem dX12_digest_253 : decode cX12_digest 253 = .ok (.aload_n 0, 1) := by decide +kernel
theorem dX12_digest_254 : decode cX12_digest 254 = .ok (.getfield 191, 3) := by decide +kernel
theorem dX12_digest_257 : decode cX12_digest 257 = .ok (.invokevirtual 315, 3) := by decide +kernel
theorem dX12_digest_260 : decode cX12_digest 260 = .ok (.aload_n 0, 1) := by decide +kernel
theorem dX12_digest_261 : decode cX12_digest 261 = .ok (.getfield 311, 3) := by decide +kernel
theorem dX12_digest_264 : decode cX12_digest 264 = .ok (.lreturn, 1) := by decide +kernel
