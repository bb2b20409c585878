theorem dX6_findMend_116 : decode cX6_findMend 116 = .ok (.invokevirtual 199, 3) := by decide +kernel
theorem dX6_findMend_119 : decode cX6_findMend 119 = .ok (.ifCond .eq 121, 3) := by decide +kernel
theorem dX6_findMend_122 : decode cX6_findMend 122 = .ok (.aload_n 0, 1) := by decide +kernel
theorem dX6_findMend_123 : decode cX6_findMend 123 = .ok (.iload 4, 2) := by decide +kernel
theorem dX6_findMend_125 : decode cX6_findMend 125 = .ok (.invokevirtual 199, 3) := by decide +kernel
theorem dX6_findMend_128 : decode cX6_findMend 128 = .ok (.ifCond .ne 6, 3) := by decide +kernel
theorem dX6_findMend_131 : decode cX6_findMend 131 = .ok (.goto 109, 3) := by decide +kernel
theorem dX6_findMend_134 : decode cX6_findMend 134 = .ok (.aload_n 0, 1) := by decide +kernel
theorem dX6_findMend_135 : decode cX6_findMend 135 = .ok (.getfield 13, 3) := by decide +kernel
theorem dX6_findMend_138 : decode cX6_findMend 138 = .ok (.iload_n 3, 1) := by decide +kernel
theorem dX6_findMend_139 : decode cX6_findMend 139 = .ok (.bipush 10, 2) := by decide +kernel
theorem dX6_findMend_141 : decode cX6_findMend 141 = .ok (.idiv, 1) := by decide +kernel
theorem dX6_findMend_142 : decode cX6_findMend 142 = .ok (.dup2, 1) := by decide +kernel
theorem dX6_findMend_143 : decode cX6_findMend 143 = .ok (.iaload, 1) := by decide +kernel
theorem dX6_findMend_144 : decode cX6_findMend 144 = .ok (.iconst 1, 1) := by decide +kernel
theorem dX6_findMend_145 : decode cX6_findMend 145 = .ok (.iload_n 3, 1) := by decide +kernel
theorem dX6_findMend_146 : decode cX6_findMend 146 = .ok (.bipush 10, 2) := by decide +kernel
theorem dX6_findMend_148 : decode cX6_findMend 148 = .ok (.irem, 1) := by decide +kernel
theorem dX6_findMend_149 : decode cX6_findMend 149 = .ok (.ishl, 1) := by decide +kernel
theorem dX6_findMend_150 : decode cX6_findMend 150 = .ok (.ixor, 1) := by decide +kernel
theorem dX6_findMend_151 : decode cX6_findMend 151 = .ok (.iastore, 1) := by decide +kernel
theorem dX6_findMend_152 : decode cX6_findMend 152 = .ok (.aload_n 0, 1) := by decide +kernel
theorem dX6_findMend_153 : decode cX6_findMend 153 = .ok (.getfield 13, 3) := by decide +kernel
theorem dX6_findMend_156 : decode cX6_findMend 156 = .ok (.iload 4, 2) := by decide +kernel
theorem dX6_findMend_158 : decode cX6_findMend 158 = .ok (.bipush 10, 2) := by decide +kernel
theorem dX6_findMend_160 : decode cX6_findMend 160 = .ok (.idiv, 1) := by decide +kernel
theorem dX6_findMend_161 : decode cX6_findMend 161 = .ok (.dup2, 1) := by decide +kernel
theorem dX6_findMend_162 : decode cX6_findMend 162 = .ok (.iaload, 1) := by decide +kernel
theorem dX6_findMend_163 : decode cX6_findMend 163 = .ok (.iconst 1, 1) := by decide +kernel
theorem dX6_findMend_164 : decode cX6_findMend 164 = .ok (.iload 4, 2) := by decide +kernel
theorem dX6_findMend_166 : decode cX6_findMend 166 = .ok (.bipush 10, 2) := by decide +kernel
theorem dX6_findMend_168 : decode cX6_findMend 168 = .ok (.irem, 1) := by decide +kernel
theorem dX6_findMend_169 : decode cX6_findMend 169 = .ok (.ishl, 1) := by decide +kernel
theorem dX6_findMend_170 : decode cX6_findMend 170 = .ok (.ixor, 1) := by decide +kernel
theorem dX6_findMend_171 : decode cX6_findMend 171 = .ok (.iastore, 1) := by decide +kernel
theorem dX6_findMend_172 : decode cX6_findMend 172 = .ok (.aload_n 0, 1) := by decide +kernel
theorem dX6_findMend_173 : decode cX6_findMend 173 = .ok (.iload_n 1, 1) := by decide +kernel
theorem dX6_findMend_174 : decode cX6_findMend 174 = .ok (.iload_n 2, 1) := by decide +kernel
theorem dX6_findMend_175 : decode cX6_findMend 175 = .ok (.invokevirtual 196, 3) := by decide +kernel
theorem dX6_findMend_178 : decode cX6_findMend 178 = .ok (.istore 5, 2) := by decide +kernel
theorem dX6_findMend_180 : decode cX6_findMend 180 = .ok (.aload_n 0, 1) := by decide +kernel
theorem dX6_findMend_181 : decode cX6_findMend 181 = .ok (.getfield 13, 3) := by decide +kernel
theorem dX6_findMend_184 : decode cX6_findMend 184 = .ok (.iload 4, 2) := by decide +kernel
theorem dX6_findMend_186 : decode cX6_findMend 186 = .ok (.bipush 10, 2) := by decide +kernel
theorem dX6_findMend_188 : decode cX6_findMend 188 = .ok (.idiv, 1) := by decide +kernel
theorem dX6_findMend_189 : decode cX6_findMend 189 = .ok (.dup2, 1) := by decide +kernel
theorem dX6_findMend_190 : decode cX6_findMend 190 = .ok (.iaload, 1) := by decide +kernel
theorem dX6_findMend_191 : decode cX6_findMend 191 = .ok (.iconst 1, 1) := by decide +kernel
theorem dX6_findMend_192 : decode cX6_findMend 192 = .ok (.iload 4, 2) := by decide +kernel
theorem dX6_findMend_194 : decode cX6_findMend 194 = .ok (.bipush 10, 2) := by decide +kernel
theorem dX6_findMend_196 : decode cX6_findMend 196 = .ok (.irem, 1) := by decide +kernel
theorem dX6_findMend_197 : decode cX6_findMend 197 = .ok (.ishl, 1) := by decide +kernel
theorem dX6_findMend_198 : decode cX6_findMend 198 = .ok (.ixor, 1) := by decide +kernel
theorem dX6_findMend_199 : decode cX6_findMend 199 = .ok (.iastore, 1) := by decide +kernel
theorem dX6_findMend_200 : decode cX6_findMend 200 = .ok (.aload_n 0, 1) := by decide +kernel
theorem dX6_findMend_201 : decode cX6_findMend 201 = .ok (.getfield 13, 3) := by decide +kernel
theorem dX6_findMend_204 : decode cX6_findMend 204 = .ok (.iload_n 3, 1) := by decide +kernel
theorem dX6_findMend_205 : decode cX6_findMend 205 = .ok (.bipush 10, 2) := by decide +kernel
theorem dX6_findMend_207 : decode cX6_findMend 207 = .ok (.idiv, 1) := by decide +kernel
theorem dX6_findMend_208 : decode cX6_findMend 208 = .ok (.dup2, 1) := by decide +kernel
theorem dX6_findMend_209 : decode cX6_findMend 209 = .ok (.iaload, 1) := by decide +kernel
theorem dX6_findMend_210 : decode cX6_findMend 210 = .ok (.iconst 1, 1) := by decide +kernel
theorem dX6_findMend_211 : decode cX6_findMend 211 = .ok (.iload_n 3, 1) := by decide +kernel
theorem dX6_findMend_212 : decode cX6_findMend 212 = .ok (.bipush 10, 2) := by decide +kernel
theorem dX6_findMend_214 : decode cX6_findMend 214 = .ok (.irem, 1) := by decide +kernel
theorem dX6_findMend_215 : decode cX6_findMend 215 = .ok (.ishl, 1) := by decide +kernel
theorem dX6_findMend_216 : decode cX6_findMend 216 = .ok (.ixor, 1) := by decide +kernel
theorem dX6_findMend_217 : decode cX6_findMend 217 = .ok (.iastore, 1) := by decide +kernel
theorem dX6_findMend_218 : decode cX6_findMend 218 = .ok (.aload_n 0, 1) := by decide +kernel
theorem dX6_findMend_219 : decode cX6_findMend 219 = .ok (.getfield 56, 3) := by decide +kernel
theorem dX6_findMend_222 : decode cX6_findMend 222 = .ok (.iconst 0, 1) := by decide +kernel
theorem dX6_findMend_223 : decode cX6_findMend 223 = .ok (.iload_n 3, 1) := by decide +kernel
theorem dX6_findMend_224 : decode cX6_findMend 224 = .ok (.iastore, 1) := by decide +kernel
theorem dX6_findMend_225 : decode cX6_findMend 225 = .ok (.aload_n 0, 1) := by decide +kernel
theorem dX6_findMend_226 : decode cX6_findMend 226 = .ok (.getfield 56, 3) := by decide +kernel
theorem dX6_findMend_229 : decode cX6_findMend 229 = .ok (.iconst 1, 1) := by decide +kernel
theorem dX6_findMend_230 : decode cX6_findMend 230 = .ok (.iload 4, 2) := by decide +kernel
theorem dX6_findMend_232 : decode cX6_findMend 232 = .ok (.iastore, 1) := by decide +kernel
theorem dX6_findMend_233 : decode cX6_findMend 233 = .ok (.iload 5, 2) := by decide +kernel
theorem dX6_findMend_235 : decode cX6_findMend 235 = .ok (.ifCond .eq 5, 3) := by decide +kernel
theorem dX6_findMend_238 : decode cX6_findMend 238 = .ok (.iconst 2, 1) := by decide +kernel
theorem dX6_findMend_239 : decode cX6_findMend 239 = .ok (.ireturn, 1) := by decide +kernel
theorem dX6_findMend_240 : decode cX6_findMend 240 = .ok (.iinc 4 1, 3) := by decide +kernel
theorem dX6_findMend_243 : decode cX6_findMend 243 = .ok (.goto (-136), 3) := by decide +kernel
theorem dX6_findMend_246 : decode cX6_findMend 246 = .ok (.iinc 3 1, 3) := by decide +kernel
theorem dX6_findMend_249 : decode cX6_findMend 249 = .ok (.goto (-153), 3) := by decide +kernel
theorem dX6_findMend_252 : decode cX6_findMend 252 = .ok (.bipush (-9), 2) := by decide +kernel
theorem dX6_findMend_254 : decode cX6_findMend 254 = .ok (.ireturn, 1) := by decide +kernel
set_option maxRecDepth 20000 in
theorem ggX6_mend_X6_notTwo : GoodIn wsX6_mend wsX6_notTwo := goodIn_r _ [5] (by decide +kernel) (by decide +kernel)
set_option maxRecDepth 20000 in
theorem gX6_mend_X6_notTwo : GoodIn wsX6_mend (va_wsS RX6 193 yX6_notTwo wsX6_notTwo) := goodIn_app (goodIn_of _ (by decide +kernel)) ggX6_mend_X6_notTwo
set_option maxRecDepth 20000 in
theorem ggX6_mend_X6_no : GoodIn wsX6_mend wsX6_no := goodIn_r _ [9, 10, 80, 81, 82, 83, 84, 85, 86, 87, 88, 89, 90, 91, 92, 93, 94, 95, 96, 97, 98, 99, 100, 101, 102, 103, 104, 105, 106, 107, 108, 109, 110] (by decide +kernel) (by decide +kernel)
set_option maxRecDepth 20000 in
theorem gX6_mend_X6_no : GoodIn wsX6_mend (wsV RX6 79 RX6 yX6_no wsX6_no) := goodIn_app (goodIn_of _ (by decide +kernel)) ggX6_mend_X6_no
set_option maxRecDepth 20000 in
theorem ggX6_mend_X6_findMend : GoodIn wsX6_mend wsX6_findMend := goodIn_r _ [14, 15, 1, 16, 17, 18, 4, 19, 20, 21, 22, 23, 24, 25, 26, 27, 28, 29, 30, 31, 32, 33, 34, 35, 36, 37, 38, 39, 40, 41, 42, 43, 44, 45, 46, 47, 48, 49, 50, 51, 52, 53, 54, 55, 56, 57, 58, 59, 60, 61, 62, 63, 64, 65, 66, 67, 68, 69, 70, 71, 72, 73, 74, 75, 76, 77, 78, 79, 80, 81, 82, 83, 84, 85, 86, 87, 88, 89, 90, 91, 92, 93, 94, 95, 96, 97, 98, 99, 100, 101, 102, 103, 104, 105, 106, 107, 108, 109, 110] (by decide +kernel) (by decide +kernel)
set_option maxRecDepth 20000 in
theorem gX6_mend_X6_findMend : GoodIn wsX6_mend (wsV RX6 202 RX6 yX6_findMend wsX6_findMend) := goodIn_app (goodIn_of _ (by decide +kernel)) ggX6_mend_X6_findMend
theorem dX6_mend_0 : decode cX6_mend 0 = .ok (.iload_n 3, 1) := by decide +kernel
theorem dX6_mend_1 : decode cX6_mend 1 = .ok (.iconst (-1), 1) := by decide +kernel
theorem dX6_mend_2 : decode cX6_mend 2 = .ok (.if_icmp .ge 8, 3) := by decide +kernel
theorem dX6_mend_5 : decode cX6_mend 5 = .ok (.bipush (-4), 2) := by decide +kernel
theorem dX6_mend_7 : decode cX6_mend 7 = .ok (.goto 8, 3) := by decide +kernel
theorem dX6_mend_10 : decode cX6_mend 10 = .ok (.iload_n 1, 1) := by decide +kernel
theorem dX6_mend_11 : decode cX6_mend 11 = .ok (.iload_n 2, 1) := by decide +kernel
theorem dX6_mend_12 : decode cX6_mend 12 = .ok (.invokestatic 193, 3) := by decide +kernel
theorem dX6_mend_15 : decode cX6_mend 15 = .ok (.istore 4, 2) := by decide +kernel
theorem dX6_mend_17 : decode cX6_mend 17 = .ok (.iload 4, 2) := by decide +kernel
theorem dX6_mend_19 : decode cX6_mend 19 = .ok (.ifCond .eq 10, 3) := by decide +kernel
theorem dX6_mend_22 : decode cX6_mend 22 = .ok (.aload_n 0, 1) := by decide +kernel
theorem dX6_mend_23 : decode cX6_mend 23 = .ok (.iload 4, 2) := by decide +kernel
theorem dX6_mend_25 : decode cX6_mend 25 = .ok (.invokevirtual 79, 3) := by decide +kernel
theorem dX6_mend_28 : decode cX6_mend 28 = .ok (.ireturn, 1) := by decide +kernel
theorem dX6_mend_29 : decode cX6_mend 29 = .ok (.aload_n 0, 1) := by decide +kernel
theorem dX6_mend_30 : decode cX6_mend 30 = .ok (.iload_n 1, 1) := by decide +kernel
theorem dX6_mend_31 : decode cX6_mend 31 = .ok (.iload_n 2, 1) := by decide +kernel
theorem dX6_mend_32 : decode cX6_mend 32 = .ok (.invokevirtual 202, 3) := by decide +kernel
theorem dX6_mend_35 : decode cX6_mend 35 = .ok (.istore 5, 2) := by decide +kernel
theorem dX6_mend_37 : decode cX6_mend 37 = .ok (.iload_n 3, 1) := by decide +kernel
theorem dX6_mend_38 : decode cX6_mend 38 = .ok (.iconst (-1), 1) := by decide +kernel
theorem dX6_mend_39 : decode cX6_mend 39 = .ok (.if_icmp .ne 8, 3) := by decide +kernel
theorem dX6_mend_42 : decode cX6_mend 42 = .ok (.iload 5, 2) := by decide +kernel
theorem dX6_mend_44 : decode cX6_mend 44 = .ok (.goto 20, 3) := by decide +kernel
theorem dX6_mend_47 : decode cX6_mend 47 = .ok (.iload_n 3, 1) := by decide +kernel
theorem dX6_mend_48 : decode cX6_mend 48 = .ok (.iload 5, 2) := by decide +kernel
theorem dX6_mend_50 : decode cX6_mend 50 = .ok (.if_icmp .ge 12, 3) := by decide +kernel
theorem dX6_mend_53 : decode cX6_mend 53 = .ok (.aload_n 0, 1) := by decide +kernel
theorem dX6_mend_54 : decode cX6_mend 54 = .ok (.getfield 56, 3) := by decide +kernel
theorem dX6_mend_57 : decode cX6_mend 57 = .ok (.iload_n 3, 1) := by decide +kernel
theorem dX6_mend_58 : decode cX6_mend 58 = .ok (.iaload, 1) := by decide +kernel
theorem dX6_mend_59 : decode cX6_mend 59 = .ok (.goto 5, 3) := by decide +kernel
theorem dX6_mend_62 : decode cX6_mend 62 = .ok (.bipush (-9), 2) := by decide +kernel
theorem dX6_mend_64 : decode cX6_mend 64 = .ok (.ireturn, 1) := by decide +kernel
set_option maxRecDepth 20000 in
theorem ggX6_walls_X6_bound : GoodIn wsX6_walls wsX6_bound := goodIn_r _ [6] (by decide +kernel) (by decide +kernel)
set_option maxRecDepth 20000 in
theorem gX6_walls_X6_bound : GoodIn wsX6_walls (va_wsS RX6 75 yX6_bound wsX6_bound) := goodIn_app (goodIn_of _ (by decide +kernel)) ggX6_walls_X6_bound
set_option maxRecDepth 20000 in
theorem ggX6_walls_X6_no : GoodIn wsX6_walls wsX6_no := goodIn_r _ [10, 11, 67, 68, 69, 70, 71, 72, 73, 74, 75, 76, 77, 78, 79, 80, 81, 82, 83, 84, 85, 86, 87, 88, 89, 90, 91, 92, 93, 94, 95, 96, 97] (by decide +kernel) (by decide +kernel)
set_option maxRecDepth 20000 in
theorem gX6_walls_X6_no : GoodIn wsX6_walls (wsV RX6 79 RX6 yX6_no wsX6_no) := goodIn_app (goodIn_of _ (by decide +kernel)) ggX6_walls_X6_no
set_option maxRecDepth 20000 in
theorem ggX6_walls_X6_bits : GoodIn wsX6_walls wsX6_bits := goodIn_r _ [14] (by decide +kernel) (by decide +kernel)
set_option maxRecDepth 20000 in
theorem gX6_walls_X6_bits : GoodIn wsX6_walls (va_wsS RX6 176 yX6_bits wsX6_bits) := goodIn_app (goodIn_of _ (by decide +kernel)) ggX6_walls_X6_bits
set_option maxRecDepth 20000 in
theorem ggX6_walls_X6_findKnown : GoodIn wsX6_walls wsX6_findKnown := goodIn_r _ [18, 19, 20, 21, 22, 1, 23, 2, 24, 25, 26, 27, 28, 67, 68, 69, 70, 71, 72, 73, 74, 75, 76, 77, 78, 79, 80, 81, 82, 83, 84, 85, 86, 87, 88, 89, 90, 91, 92, 93, 94, 95, 96, 97] (by decide +kernel) (by decide +kernel)
set_option maxRecDepth 20000 in
theorem gX6_walls_X6_findKnown : GoodIn wsX6_walls (wsV RX6 163 RX6 yX6_findKnown wsX6_findKnown) := goodIn_app (goodIn_of _ (by decide +kernel)) ggX6_walls_X6_findKnown
set_option maxRecDepth 20000 in
theorem ggX6_walls_X6_holdsAgainst : GoodIn wsX6_walls wsX6_holdsAgainst := goodIn_r _ [32, 19, 33, 34, 35, 5, 36, 37, 38, 39, 40, 41, 12, 13, 14, 42, 43, 44, 45, 46, 47, 48, 49, 50, 28, 51, 52, 53, 54, 55, 56, 57, 58, 59, 60, 61, 62, 63, 64, 65, 66, 67, 68, 69, 70, 71, 72, 73, 74, 75, 76, 77, 78, 79, 80, 81, 82, 83, 84, 85, 86, 87, 88, 89, 90, 91, 92, 93, 94, 95, 96, 97] (by decide +kernel) (by decide +kernel)
set_option maxRecDepth 20000 in
theorem gX6_walls_X6_holdsAgainst : GoodIn wsX6_walls (wsV RX6 185 RX6 yX6_holdsAgainst wsX6_holdsAgainst) := goodIn_app (goodIn_of _ (by decide +kernel)) ggX6_walls_X6_holdsAgainst
theorem dX6_walls_0 : decode cX6_walls 0 = .ok (.iload_n 1, 1) := by decide +kernel
theorem dX6_walls_1 : decode cX6_walls 1 = .ok (.iconst 0, 1) := by decide +kernel
theorem dX6_walls_2 : decode cX6_walls 2 = .ok (.bipush 8, 2) := by decide +kernel
theorem dX6_walls_4 : decode cX6_walls 4 = .ok (.invokestatic 75, 3) := by decide +kernel
theorem dX6_walls_7 : decode cX6_walls 7 = .ok (.istore_n 2, 1) := by decide +kernel
theorem dX6_walls_8 : decode cX6_walls 8 = .ok (.iload_n 2, 1) := by decide +kernel
theorem dX6_walls_9 : decode cX6_walls 9 = .ok (.ifCond .eq 9, 3) := by decide +kernel
theorem dX6_walls_12 : decode cX6_walls 12 = .ok (.aload_n 0, 1) := by decide +kernel
theorem dX6_walls_13 : decode cX6_walls 13 = .ok (.iload_n 2, 1) := by decide +kernel
theorem dX6_walls_14 : decode cX6_walls 14 = .ok (.invokevirtual 79, 3) := by decide +kernel
theorem dX6_walls_17 : decode cX6_walls 17 = .ok (.ireturn, 1) := by decide +kernel
theorem dX6_walls_18 : decode cX6_walls 18 = .ok (.bipush (-9), 2) := by decide +kernel
theorem dX6_walls_20 : decode cX6_walls 20 = .ok (.istore_n 3, 1) := by decide +kernel
theorem dX6_walls_21 : decode cX6_walls 21 = .ok (.iconst 0, 1) := by decide +kernel
theorem dX6_walls_22 : decode cX6_walls 22 = .ok (.istore 4, 2) := by decide +kernel
theorem dX6_walls_24 : decode cX6_walls 24 = .ok (.iload 4, 2) := by decide +kernel
theorem dX6_walls_26 : decode cX6_walls 26 = .ok (.iconst 1, 1) := by decide +kernel
theorem dX6_walls_27 : decode cX6_walls 27 = .ok (.aload_n 0, 1) := by decide +kernel
theorem dX6_walls_28 : decode cX6_walls 28 = .ok (.getfield 102, 3) := by decide +kernel
theorem dX6_walls_31 : decode cX6_walls 31 = .ok (.ishl, 1) := by decide +kernel
theorem dX6_walls_32 : decode cX6_walls 32 = .ok (.if_icmp .ge 50, 3) := by decide +kernel
theorem dX6_walls_35 : decode cX6_walls 35 = .ok (.iload_n 3, 1) := by decide +kernel
theorem dX6_walls_36 : decode cX6_walls 36 = .ok (.ifCond .lt 18, 3) := by decide +kernel
theorem dX6_walls_39 : decode cX6_walls 39 = .ok (.iload 4, 2) := by decide +kernel
theorem dX6_walls_41 : decode cX6_walls 41 = .ok (.invokestatic 176, 3) := by decide +kernel
theorem dX6_walls_44 : decode cX6_walls 44 = .ok (.iload_n 3, 1) := by decide +kernel
theorem dX6_walls_45 : decode cX6_walls 45 = .ok (.invokestatic 176, 3) := by decide +kernel
theorem dX6_walls_48 : decode cX6_walls 48 = .ok (.if_icmp .lt 6, 3) := by decide +kernel
theorem dX6_walls_51 : decode cX6_walls 51 = .ok (.goto 25, 3) := by decide +kernel
theorem dX6_walls_54 : decode cX6_walls 54 = .ok (.aload_n 0, 1) := by decide +kernel
theorem dX6_walls_55 : decode cX6_walls 55 = .ok (.iload 4, 2) := by decide +kernel
theorem dX6_walls_57 : decode cX6_walls 57 = .ok (.putfield 153, 3) := by decide +kernel
theorem dX6_walls_60 : decode cX6_walls 60 = .ok (.aload_n 0, 1) := by decide +kernel
theorem dX6_walls_61 : decode cX6_walls 61 = .ok (.invokevirtual 163, 3) := by decide +kernel
theorem dX6_walls_64 : decode cX6_walls 64 = .ok (.aload_n 0, 1) := by decide +kernel
theorem dX6_walls_65 : decode cX6_walls 65 = .ok (.iload_n 1, 1) := by decide +kernel
theorem dX6_walls_66 : decode cX6_walls 66 = .ok (.iconst 1, 1) := by decide +kernel
theorem dX6_walls_67 : decode cX6_walls 67 = .ok (.invokevirtual 185, 3) := by decide +kernel
theorem dX6_walls_70 : decode cX6_walls 70 = .ok (.ifCond .eq 6, 3) := by decide +kernel
theorem dX6_walls_73 : decode cX6_walls 73 = .ok (.iload 4, 2) := by decide +kernel
theorem dX6_walls_75 : decode cX6_walls 75 = .ok (.istore_n 3, 1) := by decide +kernel
theorem dX6_walls_76 : decode cX6_walls 76 = .ok (.iinc 4 1, 3) := by decide +kernel
theorem dX6_walls_79 : decode cX6_walls 79 = .ok (.goto (-55), 3) := by decide +kernel
theorem dX6_walls_82 : decode cX6_walls 82 = .ok (.aload_n 0, 1) := by decide +kernel
theorem dX6_walls_83 : decode cX6_walls 83 = .ok (.iconst 0, 1) := by decide +kernel
theorem dX6_walls_84 : decode cX6_walls 84 = .ok (.putfield 153, 3) := by decide +kernel
theorem dX6_walls_87 : decode cX6_walls 87 = .ok (.iload_n 3, 1) := by decide +kernel
theorem dX6_walls_88 : decode cX6_walls 88 = .ok (.ireturn, 1) := by decide +kernel
set_option maxRecDepth 20000 in
theorem ggX6_bank_X6_bound : GoodIn wsX6_bank wsX6_bound := goodIn_r _ [5] (by decide +kernel) (by decide +kernel)
set_option maxRecDepth 20000 in
theorem gX6_bank_X6_bound : GoodIn wsX6_bank (va_wsS RX6 75 yX6_bound wsX6_bound) := goodIn_app (goodIn_of _ (by decide +kernel)) ggX6_bank_X6_bound
set_option maxRecDepth 20000 in
theorem ggX6_bank_X6_no : GoodIn wsX6_bank wsX6_no := goodIn_r _ [9, 10, 67, 68, 69, 70, 71, 72, 73, 74, 75, 76, 77, 78, 79, 80, 81, 82, 83, 84, 85, 86, 87, 88, 89, 90, 91, 92, 93, 94, 95, 96, 97] (by decide +kernel) (by decide +kernel)
set_option maxRecDepth 20000 in
theorem gX6_bank_X6_no : GoodIn wsX6_bank (wsV RX6 79 RX6 yX6_no wsX6_no) := goodIn_app (goodIn_of _ (by decide +kernel)) ggX6_bank_X6_no
set_option maxRecDepth 20000 in
theorem ggX6_bank_X6_findKnown : GoodIn wsX6_bank wsX6_findKnown := goodIn_r _ [14, 15, 16, 17, 18, 19, 20, 21, 22, 23, 24, 25, 26, 67, 68, 69, 70, 71, 72, 73, 74, 75, 76, 77, 78, 79, 80, 81, 82, 83, 84, 85, 86, 87, 88, 89, 90, 91, 92, 93, 94, 95, 96, 97] (by decide +kernel) (by decide +kernel)
set_option maxRecDepth 20000 in
theorem gX6_bank_X6_findKnown : GoodIn wsX6_bank (wsV RX6 163 RX6 yX6_findKnown wsX6_findKnown) := goodIn_app (goodIn_of _ (by decide +kernel)) ggX6_bank_X6_findKnown
set_option maxRecDepth 20000 in
theorem ggX6_bank_X6_all : GoodIn wsX6_bank wsX6_all := goodIn_r _ [30, 31, 67, 68, 69, 70, 71, 72, 73, 74, 75, 76, 77, 78, 79, 80, 81, 82, 83, 84, 85, 86, 87, 88, 89, 90, 91, 92, 93, 94, 95, 96, 97] (by decide +kernel) (by decide +kernel)
set_option maxRecDepth 20000 in
theorem gX6_bank_X6_all : GoodIn wsX6_bank (wsV RX6 68 RX6 yX6_all wsX6_all) := goodIn_app (goodIn_of _ (by decide +kernel)) ggX6_bank_X6_all
set_option maxRecDepth 20000 in
theorem ggX6_bank_X6_bits : GoodIn wsX6_bank wsX6_bits := goodIn_r _ [34] (by decide +kernel) (by decide +kernel)
set_option maxRecDepth 20000 in
theorem gX6_bank_X6_bits : GoodIn wsX6_bank (va_wsS RX6 176 yX6_bits wsX6_bits) := goodIn_app (goodIn_of _ (by decide +kernel)) ggX6_bank_X6_bits
set_option maxRecDepth 20000 in
theorem ggX6_bank_X6_holdsAgainst : GoodIn wsX6_bank wsX6_holdsAgainst := goodIn_r _ [38, 15, 39, 40, 41, 4, 42, 43, 44, 45, 46, 47, 32, 33, 34, 48, 49, 50, 51, 52, 53, 54, 55, 1, 26, 56, 57, 58, 59, 60, 61, 62, 27, 28, 29, 30, 31, 63, 64, 65, 66, 67, 68, 69, 70, 71, 72, 73, 74, 75, 76, 77, 78, 79, 80, 81, 82, 83, 84, 85, 86, 87, 88, 89, 90, 91, 92, 93, 94, 95, 96, 97] (by decide +kernel) (by decide +kernel)
set_option maxRecDepth 20000 in
theorem gX6_bank_X6_holdsAgainst : GoodIn wsX6_bank (wsV RX6 185 RX6 yX6_holdsAgainst wsX6_holdsAgainst) := goodIn_app (goodIn_of _ (by decide +kernel)) ggX6_bank_X6_holdsAgainst
theorem dX6_bank_0 : decode cX6_bank 0 = .ok (.iload_n 1, 1) := by decide +kernel
theorem dX6_bank_1 : decode cX6_bank 1 = .ok (.iconst 0, 1) := by decide +kernel
theorem dX6_bank_2 : decode cX6_bank 2 = .ok (.bipush 8, 2) := by decide +kernel
theorem dX6_bank_4 : decode cX6_bank 4 = .ok (.invokestatic 75, 3) := by decide +kernel
theorem dX6_bank_7 : decode cX6_bank 7 = .ok (.istore_n 2, 1) := by decide +kernel
theorem dX6_bank_8 : decode cX6_bank 8 = .ok (.iload_n 2, 1) := by decide +kernel
theorem dX6_bank_9 : decode cX6_bank 9 = .ok (.ifCond .eq 9, 3) := by decide +kernel
theorem dX6_bank_12 : decode cX6_bank 12 = .ok (.aload_n 0, 1) := by decide +kernel
theorem dX6_bank_13 : decode cX6_bank 13 = .ok (.iload_n 2, 1) := by decide +kernel
theorem dX6_bank_14 : decode cX6_bank 14 = .ok (.invokevirtual 79, 3) := by decide +kernel
theorem dX6_bank_17 : decode cX6_bank 17 = .ok (.ireturn, 1) := by decide +kernel
theorem dX6_bank_18 : decode cX6_bank 18 = .ok (.aload_n 0, 1) := by decide +kernel
theorem dX6_bank_19 : decode cX6_bank 19 = .ok (.invokevirtual 163, 3) := by decide +kernel
theorem dX6_bank_22 : decode cX6_bank 22 = .ok (.aload_n 0, 1) := by decide +kernel
theorem dX6_bank_23 : decode cX6_bank 23 = .ok (.getfield 83, 3) := by decide +kernel
theorem dX6_bank_26 : decode cX6_bank 26 = .ok (.istore_n 3, 1) := by decide +kernel
theorem dX6_bank_27 : decode cX6_bank 27 = .ok (.bipush (-9), 2) := by decide +kernel
theorem dX6_bank_29 : decode cX6_bank 29 = .ok (.istore 4, 2) := by decide +kernel
theorem dX6_bank_31 : decode cX6_bank 31 = .ok (.iconst 0, 1) := by decide +kernel
theorem dX6_bank_32 : decode cX6_bank 32 = .ok (.istore 5, 2) := by decide +kernel
theorem dX6_bank_34 : decode cX6_bank 34 = .ok (.iload 5, 2) := by decide +kernel
theorem dX6_bank_36 : decode cX6_bank 36 = .ok (.aload_n 0, 1) := by decide +kernel
theorem dX6_bank_37 : decode cX6_bank 37 = .ok (.invokevirtual 68, 3) := by decide +kernel
theorem dX6_bank_40 : decode cX6_bank 40 = .ok (.if_icmp .gt 49, 3) := by decide +kernel
theorem dX6_bank_43 : decode cX6_bank 43 = .ok (.iload 4, 2) := by decide +kernel
theorem dX6_bank_45 : decode cX6_bank 45 = .ok (.ifCond .lt 19, 3) := by decide +kernel
theorem dX6_bank_48 : decode cX6_bank 48 = .ok (.iload 5, 2) := by decide +kernel
theorem dX6_bank_50 : decode cX6_bank 50 = .ok (.invokestatic 176, 3) := by decide +kernel
theorem dX6_bank_53 : decode cX6_bank 53 = .ok (.iload 4, 2) := by decide +kernel
theorem dX6_bank_55 : decode cX6_bank 55 = .ok (.invokestatic 176, 3) := by decide +kernel
theorem dX6_bank_58 : decode cX6_bank 58 = .ok (.if_icmp .lt 6, 3) := by decide +kernel
theorem dX6_bank_61 : decode cX6_bank 61 = .ok (.goto 22, 3) := by decide +kernel
theorem dX6_bank_64 : decode cX6_bank 64 = .ok (.aload_n 0, 1) := by decide +kernel
theorem dX6_bank_65 : decode cX6_bank 65 = .ok (.iload 5, 2) := by decide +kernel
theorem dX6_bank_67 : decode cX6_bank 67 = .ok (.putfield 83, 3) := by decide +kernel
theorem dX6_bank_70 : decode cX6_bank 70 = .ok (.aload_n 0, 1) := by decide +kernel
theorem dX6_bank_71 : decode cX6_bank 71 = .ok (.iload_n 1, 1) := by decide +kernel
theorem dX6_bank_72 : decode cX6_bank 72 = .ok (.iconst 0, 1) := by decide +kernel
theorem dX6_bank_73 : decode cX6_bank 73 = .ok (.invokevirtual 185, 3) := by decide +kernel
theorem dX6_bank_76 : decode cX6_bank 76 = .ok (.ifCond .eq 7, 3) := by decide +kernel
theorem dX6_bank_79 : decode cX6_bank 79 = .ok (.iload 5, 2) := by decide +kernel
theorem dX6_bank_81 : decode cX6_bank 81 = .ok (.istore 4, 2) := by decide +kernel
theorem dX6_bank_83 : decode cX6_bank 83 = .ok (.iinc 5 1, 3) := by decide +kernel
theorem dX6_bank_86 : decode cX6_bank 86 = .ok (.goto (-52), 3) := by decide +kernel
theorem dX6_bank_89 : decode cX6_bank 89 = .ok (.aload_n 0, 1) := by decide +kernel
theorem dX6_bank_90 : decode cX6_bank 90 = .ok (.iload_n 3, 1) := by decide +kernel
theorem dX6_bank_91 : decode cX6_bank 91 = .ok (.putfield 83, 3) := by decide +kernel
theorem dX6_bank_94 : decode cX6_bank 94 = .ok (.iload 4, 2) := by decide +kernel
theorem dX6_bank_96 : decode cX6_bank 96 = .ok (.ireturn, 1) := by decide +kernel
theorem dX6_given_0 : decode cX6_given 0 = .ok (.iconst 0, 1) := by decide +kernel
theorem dX6_given_1 : decode cX6_given 1 = .ok (.istore 4, 2) := by decide +kernel
theorem dX6_given_3 : decode cX6_given 3 = .ok (.iconst 0, 1) := by decide +kernel
theorem dX6_given_4 : decode cX6_given 4 = .ok (.istore 5, 2) := by decide +kernel
theorem dX6_given_6 : decode cX6_given 6 = .ok (.iload 5, 2) := by decide +kernel
theorem dX6_given_8 : decode cX6_given 8 = .ok (.aload_n 0, 1) := by decide +kernel
theorem dX6_given_9 : decode cX6_given 9 = .ok (.getfield 40, 3) := by decide +kernel
theorem dX6_given_12 : decode cX6_given 12 = .ok (.if_icmp .ge 128, 3) := by decide +kernel
theorem dX6_given_15 : decode cX6_given 15 = .ok (.iload_n 1, 1) := by decide +kernel
theorem dX6_given_16 : decode cX6_given 16 = .ok (.ifCond .ne 9, 3) := by decide +kernel
theorem dX6_given_19 : decode cX6_given 19 = .ok (.iconst 1, 1) := by decide +kernel
theorem dX6_given_20 : decode cX6_given 20 = .ok (.istore 6, 2) := by decide +kernel
theorem dX6_given_22 : decode cX6_given 22 = .ok (.goto 94, 3) := by decide +kernel
theorem dX6_given_25 : decode cX6_given 25 = .ok (.iload_n 1, 1) := by decide +kernel
theorem dX6_given_26 : decode cX6_given 26 = .ok (.iconst 4, 1) := by decide +kernel
theorem dX6_given_27 : decode cX6_given 27 = .ok (.if_icmp .ne 44, 3) := by decide +kernel
theorem dX6_given_30 : decode cX6_given 30 = .ok (.iload 5, 2) := by decide +kernel
theorem dX6_given_32 : decode cX6_given 32 = .ok (.aload_n 0, 1) := by decide +kernel
theorem dX6_given_33 : decode cX6_given 33 = .ok (.getfield 40, 3) := by decide +kernel
theorem dX6_given_36 : decode cX6_given 36 = .ok (.iconst 2, 1) := by decide +kernel
theorem dX6_given_37 : decode cX6_given 37 = .ok (.idiv, 1) := by decide +kernel
theorem dX6_given_38 : decode cX6_given 38 = .ok (.if_icmp .ge 7, 3) := by decide +kernel
theorem dX6_given_41 : decode cX6_given 41 = .ok (.iconst 1, 1) := by decide +kernel
theorem dX6_given_42 : decode cX6_given 42 = .ok (.goto 4, 3) := by decide +kernel
theorem dX6_given_45 : decode cX6_given 45 = .ok (.iconst 0, 1) := by decide +kernel
theorem dX6_given_46 : decode cX6_given 46 = .ok (.iload_n 2, 1) := by decide +kernel
theorem dX6_given_47 : decode cX6_given 47 = .ok (.iload_n 3, 1) := by decide +kernel
theorem dX6_given_48 : decode cX6_given 48 = .ok (.iconst 2, 1) := by decide +kernel
theorem dX6_given_49 : decode cX6_given 49 = .ok (.idiv, 1) := by decide +kernel
theorem dX6_given_50 : decode cX6_given 50 = .ok (.if_icmp .ge 7, 3) := by decide +kernel
theorem dX6_given_53 : decode cX6_given 53 = .ok (.iconst 1, 1) := by decide +kernel
theorem dX6_given_54 : decode cX6_given 54 = .ok (.goto 4, 3) := by decide +kernel
theorem dX6_given_57 : decode cX6_given 57 = .ok (.iconst 0, 1) := by decide +kernel
theorem dX6_given_58 : decode cX6_given 58 = .ok (.if_icmp .ne 7, 3) := by decide +kernel
theorem dX6_given_61 : decode cX6_given 61 = .ok (.iconst 1, 1) := by decide +kernel
theorem dX6_given_62 : decode cX6_given 62 = .ok (.goto 4, 3) := by decide +kernel
theorem dX6_given_65 : decode cX6_given 65 = .ok (.iconst 0, 1) := by decide +kernel
theorem dX6_given_66 : decode cX6_given 66 = .ok (.istore 6, 2) := by decide +kernel
theorem dX6_given_68 : decode cX6_given 68 = .ok (.goto 48, 3) := by decide +kernel
theorem dX6_given_71 : decode cX6_given 71 = .ok (.iload 5, 2) := by decide +kernel
theorem dX6_given_73 : decode cX6_given 73 = .ok (.iload_n 3, 1) := by decide +kernel
theorem dX6_given_74 : decode cX6_given 74 = .ok (.irem, 1) := by decide +kernel
theorem dX6_given_75 : decode cX6_given 75 = .ok (.iload_n 2, 1) := by decide +kernel
theorem dX6_given_76 : decode cX6_given 76 = .ok (.if_icmp .eq 33, 3) := by decide +kernel
theorem dX6_given_79 : decode cX6_given 79 = .ok (.iload_n 1, 1) := by decide +kernel
theorem dX6_given_80 : decode cX6_given 80 = .ok (.iconst 1, 1) := by decide +kernel
theorem dX6_given_81 : decode cX6_given 81 = .ok (.if_icmp .le 13, 3) := by decide +kernel
theorem dX6_given_84 : decode cX6_given 84 = .ok (.iload 5, 2) := by decide +kernel
theorem dX6_given_86 : decode cX6_given 86 = .ok (.iconst 1, 1) := by decide +kernel
theorem dX6_given_87 : decode cX6_given 87 = .ok (.iadd, 1) := by decide +kernel
theorem dX6_given_88 : decode cX6_given 88 = .ok (.iload_n 3, 1) := by decide +kernel
theorem dX6_given_89 : decode cX6_given 89 = .ok (.irem, 1) := by decide +kernel
theorem dX6_given_90 : decode cX6_given 90 = .ok (.iload_n 2, 1) := by decide +kernel
theorem dX6_given_91 : decode cX6_given 91 = .ok (.if_icmp .eq 18, 3) := by decide +kernel
theorem dX6_given_94 : decode cX6_given 94 = .ok (.iload_n 1, 1) := by decide +kernel
theorem dX6_given_95 : decode cX6_given 95 = .ok (.iconst 2, 1) := by decide +kernel
theorem dX6_given_96 : decode cX6_given 96 = .ok (.if_icmp .le 17, 3) := by decide +kernel
theorem dX6_given_99 : decode cX6_given 99 = .ok (.iload 5, 2) := by decide +kernel
theorem dX6_given_101 : decode cX6_given 101 = .ok (.iconst 2, 1) := by decide +kernel
theorem dX6_given_102 : decode cX6_given 102 = .ok (.iadd, 1) := by decide +kernel
theorem dX6_given_103 : decode cX6_given 103 = .ok (.iload_n 3, 1) := by decide +kernel
theorem dX6_given_104 : decode cX6_given 104 = .ok (.irem, 1) := by decide +kernel
theorem dX6_given_105 : decode cX6_given 105 = .ok (.iload_n 2, 1) := by decide +kernel
theorem dX6_given_106 : decode cX6_given 106 = .ok (.if_icmp .ne 7, 3) := by decide +kernel
theorem dX6_given_109 : decode cX6_given 109 = .ok (.iconst 1, 1) := by decide +kernel
theorem dX6_given_110 : decode cX6_given 110 = .ok (.goto 4, 3) := by decide +kernel
theorem dX6_given_113 : decode cX6_given 113 = .ok (.iconst 0, 1) := by decide +kernel
theorem dX6_given_114 : decode cX6_given 114 = .ok (.istore 6, 2) := by decide +kernel
theorem dX6_given_116 : decode cX6_given 116 = .ok (.iload 4, 2) := by decide +kernel
theorem dX6_given_118 : decode cX6_given 118 = .ok (.iload 6, 2) := by decide +kernel
theorem dX6_given_120 : decode cX6_given 120 = .ok (.ifCond .eq 10, 3) := by decide +kernel
theorem dX6_given_123 : decode cX6_given 123 = .ok (.iconst 1, 1) := by decide +kernel
theorem dX6_given_124 : decode cX6_given 124 = .ok (.iload 5, 2) := by decide +kernel
theorem dX6_given_126 : decode cX6_given 126 = .ok (.ishl, 1) := by decide +kernel
theorem dX6_given_127 : decode cX6_given 127 = .ok (.goto 4, 3) := by decide +kernel
theorem dX6_given_130 : decode cX6_given 130 = .ok (.iconst 0, 1) := by decide +kernel
theorem dX6_given_131 : decode cX6_given 131 = .ok (.ior, 1) := by decide +kernel
theorem dX6_given_132 : decode cX6_given 132 = .ok (.istore 4, 2) := by decide +kernel
theorem dX6_given_134 : decode cX6_given 134 = .ok (.iinc 5 1, 3) := by decide +kernel
theorem dX6_given_137 : decode cX6_given 137 = .ok (.goto (-131), 3) := by decide +kernel
theorem dX6_given_140 : decode cX6_given 140 = .ok (.iload 4, 2) := by decide +kernel
theorem dX6_given_142 : decode cX6_given 142 = .ok (.ireturn, 1) := by decide +kernel
set_option maxRecDepth 20000 in
theorem ggX6_gives_X6_houseSet : GoodIn wsX6_gives wsX6_houseSet := goodIn_r _ [9, 1, 10, 11, 12, 8, 13, 4, 22, 23, 24, 25, 26, 27, 28, 29, 30, 31, 32, 33, 34, 35, 36, 37, 38, 39, 40, 41, 42, 43, 44, 45, 46, 47, 48, 49, 50, 51, 52] (by decide +kernel) (by decide +kernel)
set_option maxRecDepth 20000 in
theorem gX6_gives_X6_houseSet : GoodIn wsX6_gives (wsV RX6 173 RX6 yX6_houseSet wsX6_houseSet) := goodIn_app (goodIn_of _ (by decide +kernel)) ggX6_gives_X6_houseSet
set_option maxRecDepth 20000 in
theorem ggX6_gives_X6_bits : GoodIn wsX6_gives wsX6_bits := goodIn_r _ [16] (by decide +kernel) (by decide +kernel)
set_option maxRecDepth 20000 in
theorem gX6_gives_X6_bits : GoodIn wsX6_gives (va_wsS RX6 176 yX6_bits wsX6_bits) := goodIn_app (goodIn_of _ (by decide +kernel)) ggX6_gives_X6_bits
set_option maxRecDepth 20000 in
theorem ggX6_gives_X6_given : GoodIn wsX6_gives wsX6_given := goodIn_r _ [20, 21, 22, 23, 24, 25, 26, 27, 28, 29, 30, 31, 32, 33, 34, 35, 36, 37, 38, 39, 40, 41, 42, 43, 44, 45, 46, 47, 48, 49, 50, 51, 52] (by decide +kernel) (by decide +kernel)
set_option maxRecDepth 20000 in
theorem gX6_gives_X6_given : GoodIn wsX6_gives (wsV RX6 205 RX6 yX6_given wsX6_given) := goodIn_app (goodIn_of _ (by decide +kernel)) ggX6_gives_X6_given
theorem dX6_gives_0 : decode cX6_gives 0 = .ok (.aload_n 0, 1) := by decide +kernel
theorem dX6_gives_1 : decode cX6_gives 1 = .ok (.invokevirtual 173, 3) := by decide +kernel
theorem dX6_gives_4 : decode cX6_gives 4 = .ok (.invokestatic 176, 3) := by decide +kernel
theorem dX6_gives_7 : decode cX6_gives 7 = .ok (.istore_n 2, 1) := by decide +kernel
theorem dX6_gives_8 : decode cX6_gives 8 = .ok (.iconst 0, 1) := by decide +kernel
theorem dX6_gives_9 : decode cX6_gives 9 = .ok (.istore_n 3, 1) := by decide +kernel
theorem dX6_gives_10 : decode cX6_gives 10 = .ok (.iconst 0, 1) := by decide +kernel
theorem dX6_gives_11 : decode cX6_gives 11 = .ok (.istore 4, 2) := by decide +kernel
theorem dX6_gives_13 : decode cX6_gives 13 = .ok (.iconst 0, 1) := by decide +kernel
theorem dX6_gives_14 : decode cX6_gives 14 = .ok (.istore 5, 2) := by decide +kernel
theorem dX6_gives_16 : decode cX6_gives 16 = .ok (.iload 5, 2) := by decide +kernel
theorem dX6_gives_18 : decode cX6_gives 18 = .ok (.aload_n 0, 1) := by decide +kernel
theorem dX6_gives_19 : decode cX6_gives 19 = .ok (.getfield 72, 3) := by decide +kernel
theorem dX6_gives_22 : decode cX6_gives 22 = .ok (.if_icmp .ge 69, 3) := by decide +kernel
theorem dX6_gives_25 : decode cX6_gives 25 = .ok (.aload_n 0, 1) := by decide +kernel
theorem dX6_gives_26 : decode cX6_gives 26 = .ok (.getfield 59, 3) := by decide +kernel
theorem dX6_gives_29 : decode cX6_gives 29 = .ok (.iload 5, 2) := by decide +kernel
theorem dX6_gives_31 : decode cX6_gives 31 = .ok (.aload_n 0, 1) := by decide +kernel
theorem dX6_gives_32 : decode cX6_gives 32 = .ok (.getfield 13, 3) := by decide +kernel
theorem dX6_gives_35 : decode cX6_gives 35 = .ok (.iload 5, 2) := by decide +kernel
theorem dX6_gives_37 : decode cX6_gives 37 = .ok (.iaload, 1) := by decide +kernel
theorem dX6_gives_38 : decode cX6_gives 38 = .ok (.iastore, 1) := by decide +kernel
theorem dX6_gives_39 : decode cX6_gives 39 = .ok (.aload_n 0, 1) := by decide +kernel
theorem dX6_gives_40 : decode cX6_gives 40 = .ok (.getfield 19, 3) := by decide +kernel
theorem dX6_gives_43 : decode cX6_gives 43 = .ok (.iload 5, 2) := by decide +kernel
theorem dX6_gives_45 : decode cX6_gives 45 = .ok (.iaload, 1) := by decide +kernel
theorem dX6_gives_46 : decode cX6_gives 46 = .ok (.iconst 1, 1) := by decide +kernel
theorem dX6_gives_47 : decode cX6_gives 47 = .ok (.if_icmp .ne 6, 3) := by decide +kernel
theorem dX6_gives_50 : decode cX6_gives 50 = .ok (.goto 35, 3) := by decide +kernel
theorem dX6_gives_53 : decode cX6_gives 53 = .ok (.aload_n 0, 1) := by decide +kernel
theorem dX6_gives_54 : decode cX6_gives 54 = .ok (.getfield 13, 3) := by decide +kernel
theorem dX6_gives_57 : decode cX6_gives 57 = .ok (.iload 5, 2) := by decide +kernel
theorem dX6_gives_59 : decode cX6_gives 59 = .ok (.aload_n 0, 1) := by decide +kernel
theorem dX6_gives_60 : decode cX6_gives 60 = .ok (.iload_n 1, 1) := by decide +kernel
theorem dX6_gives_61 : decode cX6_gives 61 = .ok (.iload_n 3, 1) := by decide +kernel
theorem dX6_gives_62 : decode cX6_gives 62 = .ok (.iload_n 2, 1) := by decide +kernel
theorem dX6_gives_63 : decode cX6_gives 63 = .ok (.invokevirtual 205, 3) := by decide +kernel
theorem dX6_gives_66 : decode cX6_gives 66 = .ok (.iastore, 1) := by decide +kernel
theorem dX6_gives_67 : decode cX6_gives 67 = .ok (.iload 4, 2) := by decide +kernel
theorem dX6_gives_69 : decode cX6_gives 69 = .ok (.aload_n 0, 1) := by decide +kernel
theorem dX6_gives_70 : decode cX6_gives 70 = .ok (.getfield 13, 3) := by decide +kernel
theorem dX6_gives_73 : decode cX6_gives 73 = .ok (.iload 5, 2) := by decide +kernel
theorem dX6_gives_75 : decode cX6_gives 75 = .ok (.iaload, 1) := by decide +kernel
theorem dX6_gives_76 : decode cX6_gives 76 = .ok (.invokestatic 176, 3) := by decide +kernel
theorem dX6_gives_79 : decode cX6_gives 79 = .ok (.iadd, 1) := by decide +kernel
theorem dX6_gives_80 : decode cX6_gives 80 = .ok (.istore 4, 2) := by decide +kernel
theorem dX6_gives_82 : decode cX6_gives 82 = .ok (.iinc 3 1, 3) := by decide +kernel
theorem dX6_gives_85 : decode cX6_gives 85 = .ok (.iinc 5 1, 3) := by decide +kernel
theorem dX6_gives_88 : decode cX6_gives 88 = .ok (.goto (-72), 3) := by decide +kernel
theorem dX6_gives_91 : decode cX6_gives 91 = .ok (.iload 4, 2) := by decide +kernel
theorem dX6_gives_93 : decode cX6_gives 93 = .ok (.ireturn, 1) := by decide +kernel
theorem dX6_givesBack_0 : decode cX6_givesBack 0 = .ok (.iconst 0, 1) := by decide +kernel
theorem dX6_givesBack_1 : decode cX6_givesBack 1 = .ok (.istore_n 1, 1) := by decide +kernel
theorem dX6_givesBack_2 : decode cX6_givesBack 2 = .ok (.iload_n 1, 1) := by decide +kernel
theorem dX6_givesBack_3 : decode cX6_givesBack 3 = .ok (.aload_n 0, 1) := by decide +kernel
theorem dX6_givesBack_4 : decode cX6_givesBack 4 = .ok (.getfield 72, 3) := by decide +kernel
theorem dX6_givesBack_7 : decode cX6_givesBack 7 = .ok (.if_icmp .ge 21, 3) := by decide +kernel
theorem dX6_givesBack_10 : decode cX6_givesBack 10 = .ok (.aload_n 0, 1) := by decide +kernel
theorem dX6_givesBack_11 : decode cX6_givesBack 11 = .ok (.getfield 13, 3) := by decide +kernel
theorem dX6_givesBack_14 : decode cX6_givesBack 14 = .ok (.iload_n 1, 1) := by decide +kernel
theorem dX6_givesBack_15 : decode cX6_givesBack 15 = .ok (.aload_n 0, 1) := by decide +kernel
theorem dX6_givesBack_16 : decode cX6_givesBack 16 = .ok (.getfield 59, 3) := by decide +kernel
theorem dX6_givesBack_19 : decode cX6_givesBack 19 = .ok (.iload_n 1, 1) := by decide +kernel
theorem dX6_givesBack_20 : decode cX6_givesBack 20 = .ok (.iaload, 1) := by decide +kernel
theorem dX6_givesBack_21 : decode cX6_givesBack 21 = .ok (.iastore, 1) := by decide +kernel
theorem dX6_givesBack_22 : decode cX6_givesBack 22 = .ok (.iinc 1 1, 3) := by decide +kernel
theorem dX6_givesBack_25 : decode cX6_givesBack 25 = .ok (.goto (-23), 3) := by decide +kernel
theorem dX6_givesBack_28 : decode cX6_givesBack 28 = .ok (.return_, 1) := by decide +kernel
set_option maxRecDepth 20000 in
theorem ggX6_giving_X6_isIn : GoodIn wsX6_giving wsX6_isIn := goodIn_r _ [4] (by decide +kernel) (by decide +kernel)
set_option maxRecDepth 20000 in
theorem gX6_giving_X6_isIn : GoodIn wsX6_giving (va_wsS RX6 159 yX6_isIn wsX6_isIn) := goodIn_app (goodIn_of _ (by decide +kernel)) ggX6_giving_X6_isIn
set_option maxRecDepth 20000 in
theorem ggX6_giving_X6_no : GoodIn wsX6_giving wsX6_no := goodIn_r _ [8, 9, 83, 84, 85, 86, 87, 88, 89, 90, 91, 92, 93, 94, 95, 96, 97, 98, 99, 100, 101, 102, 103, 104, 105, 106, 107, 108, 109, 110, 111, 112, 113] (by decide +kernel) (by decide +kernel)
set_option maxRecDepth 20000 in
theorem gX6_giving_X6_no : GoodIn wsX6_giving (wsV RX6 79 RX6 yX6_no wsX6_no) := goodIn_app (goodIn_of _ (by decide +kernel)) ggX6_giving_X6_no
set_option maxRecDepth 20000 in
theorem ggX6_giving_X6_bound : GoodIn wsX6_giving wsX6_bound := goodIn_r _ [12] (by decide +kernel) (by decide +kernel)
set_option maxRecDepth 20000 in
theorem gX6_giving_X6_bound : GoodIn wsX6_giving (va_wsS RX6 75 yX6_bound wsX6_bound) := goodIn_app (goodIn_of _ (by decide +kernel)) ggX6_giving_X6_bound
set_option maxRecDepth 20000 in
theorem ggX6_giving_X6_houseSet : GoodIn wsX6_giving wsX6_houseSet := goodIn_r _ [16, 17, 18, 19, 20, 3, 21, 22, 83, 84, 85, 86, 87, 88, 89, 90, 91, 92, 93, 94, 95, 96, 97, 98, 99, 100, 101, 102, 103, 104, 105, 106, 107, 108, 109, 110, 111, 112, 113] (by decide +kernel) (by decide +kernel)
set_option maxRecDepth 20000 in
theorem gX6_giving_X6_houseSet : GoodIn wsX6_giving (wsV RX6 173 RX6 yX6_houseSet wsX6_houseSet) := goodIn_app (goodIn_of _ (by decide +kernel)) ggX6_giving_X6_houseSet
set_option maxRecDepth 20000 in
theorem ggX6_giving_X6_gives : GoodIn wsX6_giving wsX6_gives := goodIn_r _ [26, 17, 27, 28, 22, 13, 14, 15, 3, 16, 18, 19, 20, 21, 29, 30, 31, 32, 33, 34, 35, 36, 83, 84, 85, 86, 87, 88, 89, 90, 91, 92, 93, 94, 95, 96, 97, 98, 99, 100, 101, 102, 103, 104, 105, 106, 107, 108, 109, 110, 111, 112, 113] (by decide +kernel) (by decide +kernel)
set_option maxRecDepth 20000 in
theorem gX6_giving_X6_gives : GoodIn wsX6_giving (wsV RX6 208 RX6 yX6_gives wsX6_gives) := goodIn_app (goodIn_of _ (by decide +kernel)) ggX6_giving_X6_gives
set_option maxRecDepth 20000 in
theorem ggX6_giving_X6_findKnown : GoodIn wsX6_giving wsX6_findKnown := goodIn_r _ [40, 17, 41, 28, 42, 43, 44, 45, 46, 47, 48, 49, 50, 83, 84, 85, 86, 87, 88, 89, 90, 91, 92, 93, 94, 95, 96, 97, 98, 99, 100, 101, 102, 103, 104, 105, 106, 107, 108, 109, 110, 111, 112, 113] (by decide +kernel) (by decide +kernel)
set_option maxRecDepth 20000 in
theorem gX6_giving_X6_findKnown : GoodIn wsX6_giving (wsV RX6 163 RX6 yX6_findKnown wsX6_findKnown) := goodIn_app (goodIn_of _ (by decide +kernel)) ggX6_giving_X6_findKnown
set_option maxRecDepth 20000 in
theorem ggX6_giving_X6_holdsAgainst : GoodIn wsX6_giving wsX6_holdsAgainst := goodIn_r _ [54, 17, 13, 14, 15, 3, 16, 18, 19, 20, 21, 22, 29, 30, 31, 55, 56, 57, 58, 59, 60, 61, 62, 63, 50, 64, 65, 66, 67, 68, 69, 70, 71, 72, 73, 74, 36, 75, 76, 77, 78, 83, 84, 85, 86, 87, 88, 89, 90, 91, 92, 93, 94, 95, 96, 97, 98, 99, 100, 101, 102, 103, 104, 105, 106, 107, 108, 109, 110, 111, 112, 113] (by decide +kernel) (by decide +kernel)
set_option maxRecDepth 20000 in
theorem gX6_giving_X6_holdsAgainst : GoodIn wsX6_giving (wsV RX6 185 RX6 yX6_holdsAgainst wsX6_holdsAgainst) := goodIn_app (goodIn_of _ (by decide +kernel)) ggX6_giving_X6_holdsAgainst
set_option maxRecDepth 20000 in
theorem ggX6_giving_X6_givesBack : GoodIn wsX6_giving wsX6_givesBack := goodIn_r _ [82, 17, 28, 27, 83, 84, 85, 86, 87, 88, 89, 90, 91, 92, 93, 94, 95, 96, 97, 98, 99, 100, 101, 102, 103, 104, 105, 106, 107, 108, 109, 110, 111, 112, 113] (by decide +kernel) (by decide +kernel)
set_option maxRecDepth 20000 in
theorem gX6_giving_X6_givesBack : GoodIn wsX6_giving (wsV RX6 211 RX6 yX6_givesBack wsX6_givesBack) := goodIn_app (goodIn_of _ (by decide +kernel)) ggX6_giving_X6_givesBack
theorem dX6_giving_0 : decode cX6_giving 0 = .ok (.iload_n 1, 1) := by decide +kernel
theorem dX6_giving_1 : decode cX6_giving 1 = .ok (.iconst 0, 1) := by decide +kernel
theorem dX6_giving_2 : decode cX6_giving 2 = .ok (.iconst 4, 1) := by decide +kernel
theorem dX6_giving_3 : decode cX6_giving 3 = .ok (.invokestatic 159, 3) := by decide +kernel
theorem dX6_giving_6 : decode cX6_giving 6 = .ok (.ifCond .ne 9, 3) := by decide +kernel
theorem dX6_giving_9 : decode cX6_giving 9 = .ok (.aload_n 0, 1) := by decide +kernel
theorem dX6_giving_10 : decode cX6_giving 10 = .ok (.iconst (-1), 1) := by decide +kernel
theorem dX6_giving_11 : decode cX6_giving 11 = .ok (.invokevirtual 79, 3) := by decide +kernel
theorem dX6_giving_14 : decode cX6_giving 14 = .ok (.ireturn, 1) := by decide +kernel
theorem dX6_giving_15 : decode cX6_giving 15 = .ok (.iload_n 2, 1) := by decide +kernel
theorem dX6_giving_16 : decode cX6_giving 16 = .ok (.iconst 0, 1) := by decide +kernel
theorem dX6_giving_17 : decode cX6_giving 17 = .ok (.iconst 2, 1) := by decide +kernel
theorem dX6_giving_18 : decode cX6_giving 18 = .ok (.invokestatic 159, 3) := by decide +kernel
theorem dX6_giving_21 : decode cX6_giving 21 = .ok (.ifCond .ne 10, 3) := by decide +kernel
theorem dX6_giving_24 : decode cX6_giving 24 = .ok (.aload_n 0, 1) := by decide +kernel
theorem dX6_giving_25 : decode cX6_giving 25 = .ok (.bipush (-2), 2) := by decide +kernel
theorem dX6_giving_27 : decode cX6_giving 27 = .ok (.invokevirtual 79, 3) := by decide +kernel
theorem dX6_giving_30 : decode cX6_giving 30 = .ok (.ireturn, 1) := by decide +kernel
theorem dX6_giving_31 : decode cX6_giving 31 = .ok (.iload_n 3, 1) := by decide +kernel
theorem dX6_giving_32 : decode cX6_giving 32 = .ok (.iconst 0, 1) := by decide +kernel
theorem dX6_giving_33 : decode cX6_giving 33 = .ok (.bipush 8, 2) := by decide +kernel
theorem dX6_giving_35 : decode cX6_giving 35 = .ok (.invokestatic 75, 3) := by decide +kernel
theorem dX6_giving_38 : decode cX6_giving 38 = .ok (.istore 4, 2) := by decide +kernel
theorem dX6_giving_40 : decode cX6_giving 40 = .ok (.iload 4, 2) := by decide +kernel
theorem dX6_giving_42 : decode cX6_giving 42 = .ok (.ifCond .ne 14, 3) := by decide +kernel
theorem dX6_giving_45 : decode cX6_giving 45 = .ok (.aload_n 0, 1) := by decide +kernel
theorem dX6_giving_46 : decode cX6_giving 46 = .ok (.invokevirtual 173, 3) := by decide +kernel
theorem dX6_giving_49 : decode cX6_giving 49 = .ok (.ifCond .ne 7, 3) := by decide +kernel
theorem dX6_giving_52 : decode cX6_giving 52 = .ok (.bipush (-3), 2) := by decide +kernel
theorem dX6_giving_54 : decode cX6_giving 54 = .ok (.istore 4, 2) := by decide +kernel
theorem dX6_giving_56 : decode cX6_giving 56 = .ok (.iload 4, 2) := by decide +kernel
theorem dX6_giving_58 : decode cX6_giving 58 = .ok (.ifCond .eq 10, 3) := by decide +kernel
theorem dX6_giving_61 : decode cX6_giving 61 = .ok (.aload_n 0, 1) := by decide +kernel
theorem dX6_giving_62 : decode cX6_giving 62 = .ok (.iload 4, 2) := by decide +kernel
theorem dX6_giving_64 : decode cX6_giving 64 = .ok (.invokevirtual 79, 3) := by decide +kernel
theorem dX6_giving_67 : decode cX6_giving 67 = .ok (.ireturn, 1) := by decide +kernel
theorem dX6_giving_68 : decode cX6_giving 68 = .ok (.aload_n 0, 1) := by decide +kernel
theorem dX6_giving_69 : decode cX6_giving 69 = .ok (.iload_n 1, 1) := by decide +kernel
theorem dX6_giving_70 : decode cX6_giving 70 = .ok (.invokevirtual 208, 3) := by decide +kernel
theorem dX6_giving_73 : decode cX6_giving 73 = .ok (.istore 5, 2) := by decide +kernel
theorem dX6_giving_75 : decode cX6_giving 75 = .ok (.aload_n 0, 1) := by decide +kernel
theorem dX6_giving_76 : decode cX6_giving 76 = .ok (.invokevirtual 163, 3) := by decide +kernel
theorem dX6_giving_79 : decode cX6_giving 79 = .ok (.iload_n 2, 1) := by decide +kernel
theorem dX6_giving_80 : decode cX6_giving 80 = .ok (.ifCond .ne 8, 3) := by decide +kernel
theorem dX6_giving_83 : decode cX6_giving 83 = .ok (.iload 5, 2) := by decide +kernel
theorem dX6_giving_85 : decode cX6_giving 85 = .ok (.goto 26, 3) := by decide +kernel
theorem dX6_giving_88 : decode cX6_giving 88 = .ok (.aload_n 0, 1) := by decide +kernel
theorem dX6_giving_89 : decode cX6_giving 89 = .ok (.iload_n 3, 1) := by decide +kernel
theorem dX6_giving_90 : decode cX6_giving 90 = .ok (.iload_n 2, 1) := by decide +kernel
theorem dX6_giving_91 : decode cX6_giving 91 = .ok (.iconst 2, 1) := by decide +kernel
theorem dX6_giving_92 : decode cX6_giving 92 = .ok (.if_icmp .ne 7, 3) := by decide +kernel
theorem dX6_giving_95 : decode cX6_giving 95 = .ok (.iconst 1, 1) := by decide +kernel
theorem dX6_giving_96 : decode cX6_giving 96 = .ok (.goto 4, 3) := by decide +kernel
theorem dX6_giving_99 : decode cX6_giving 99 = .ok (.iconst 0, 1) := by decide +kernel
theorem dX6_giving_100 : decode cX6_giving 100 = .ok (.invokevirtual 185, 3) := by decide +kernel
theorem dX6_giving_103 : decode cX6_giving 103 = .ok (.ifCond .eq 7, 3) := by decide +kernel
theorem dX6_giving_106 : decode cX6_giving 106 = .ok (.iconst 1, 1) := by decide +kernel
theorem dX6_giving_107 : decode cX6_giving 107 = .ok (.goto 4, 3) := by decide +kernel
theorem dX6_giving_110 : decode cX6_giving 110 = .ok (.iconst 0, 1) := by decide +kernel
theorem dX6_giving_111 : decode cX6_giving 111 = .ok (.istore 6, 2) := by decide +kernel
theorem dX6_giving_113 : decode cX6_giving 113 = .ok (.aload_n 0, 1) := by decide +kernel
theorem dX6_giving_114 : decode cX6_giving 114 = .ok (.invokevirtual 211, 3) := by decide +kernel
theorem dX6_giving_117 : decode cX6_giving 117 = .ok (.iload 6, 2) := by decide +kernel
theorem dX6_giving_119 : decode cX6_giving 119 = .ok (.ireturn, 1) := by decide +kernel
set_option maxRecDepth 20000 in
theorem ggX6_finest_X6_notTwo : GoodIn wsX6_finest wsX6_notTwo := goodIn_r _ [4] (by decide +kernel) (by decide +kernel)
set_option maxRecDepth 20000 in
theorem gX6_finest_X6_notTwo : GoodIn wsX6_finest (va_wsS RX6 193 yX6_notTwo wsX6_notTwo) := goodIn_app (goodIn_of _ (by decide +kernel)) ggX6_finest_X6_notTwo
set_option maxRecDepth 20000 in
theorem ggX6_finest_X6_houseSet : GoodIn wsX6_finest wsX6_houseSet := goodIn_r _ [8, 9, 10, 11, 12, 3, 13, 14, 84, 85, 86, 87, 88, 89, 90, 91, 92, 93, 94, 95, 96, 97, 98, 99, 100, 101, 102, 103, 104, 105, 106, 107, 108, 109, 110, 111, 112, 113, 114] (by decide +kernel) (by decide +kernel)
set_option maxRecDepth 20000 in
theorem gX6_finest_X6_houseSet : GoodIn wsX6_finest (wsV RX6 173 RX6 yX6_houseSet wsX6_houseSet) := goodIn_app (goodIn_of _ (by decide +kernel)) ggX6_finest_X6_houseSet
set_option maxRecDepth 20000 in
theorem ggX6_finest_X6_no : GoodIn wsX6_finest wsX6_no := goodIn_r _ [18, 19, 84, 85, 86, 87, 88, 89, 90, 91, 92, 93, 94, 95, 96, 97, 98, 99, 100, 101, 102, 103, 104, 105, 106, 107, 108, 109, 110, 111, 112, 113, 114] (by decide +kernel) (by decide +kernel)
set_option maxRecDepth 20000 in
theorem gX6_finest_X6_no : GoodIn wsX6_finest (wsV RX6 79 RX6 yX6_no wsX6_no) := goodIn_app (goodIn_of _ (by decide +kernel)) ggX6_finest_X6_no
set_option maxRecDepth 20000 in
theorem ggX6_finest_X6_gives : GoodIn wsX6_finest wsX6_gives := goodIn_r _ [23, 9, 24, 25, 14, 5, 6, 7, 3, 8, 10, 11, 12, 13, 26, 27, 28, 29, 30, 31, 32, 33, 84, 85, 86, 87, 88, 89, 90, 91, 92, 93, 94, 95, 96, 97, 98, 99, 100, 101, 102, 103, 104, 105, 106, 107, 108, 109, 110, 111, 112, 113, 114] (by decide +kernel) (by decide +kernel)
set_option maxRecDepth 20000 in
theorem gX6_finest_X6_gives : GoodIn wsX6_finest (wsV RX6 208 RX6 yX6_gives wsX6_gives) := goodIn_app (goodIn_of _ (by decide +kernel)) ggX6_finest_X6_gives
set_option maxRecDepth 20000 in
theorem ggX6_finest_X6_holds : GoodIn wsX6_finest wsX6_holds := goodIn_r _ [37, 38, 39, 40, 3, 41, 9, 42, 25, 43, 44, 45, 46, 47, 48, 49, 50, 51, 52, 53, 54, 55, 5, 6, 7, 8, 10, 11, 12, 13, 14, 26, 27, 28, 56, 57, 58, 59, 60, 61, 62, 63, 64, 65, 66, 67, 68, 69, 70, 71, 72, 73, 74, 75, 33, 76, 77, 78, 79, 84, 85, 86, 87, 88, 89, 90, 91, 92, 93, 94, 95, 96, 97, 98, 99, 100, 101, 102, 103, 104, 105, 106, 107, 108, 109, 110, 111, 112, 113, 114] (by decide +kernel) (by decide +kernel)
set_option maxRecDepth 20000 in
theorem gX6_finest_X6_holds : GoodIn wsX6_finest (wsV RX6 196 RX6 yX6_holds wsX6_holds) := goodIn_app (goodIn_of _ (by decide +kernel)) ggX6_finest_X6_holds
set_option maxRecDepth 20000 in
theorem ggX6_finest_X6_givesBack : GoodIn wsX6_finest wsX6_givesBack := goodIn_r _ [83, 9, 25, 24, 84, 85, 86, 87, 88, 89, 90, 91, 92, 93, 94, 95, 96, 97, 98, 99, 100, 101, 102, 103, 104, 105, 106, 107, 108, 109, 110, 111, 112, 113, 114] (by decide +kernel) (by decide +kernel)
set_option maxRecDepth 20000 in
theorem gX6_finest_X6_givesBack : GoodIn wsX6_finest (wsV RX6 211 RX6 yX6_givesBack wsX6_givesBack) := goodIn_app (goodIn_of _ (by decide +kernel)) ggX6_finest_X6_givesBack
theorem dX6_finest_0 : decode cX6_finest 0 = .ok (.iload_n 1, 1) := by decide +kernel
theorem dX6_finest_1 : decode cX6_finest 1 = .ok (.iload_n 2, 1) := by decide +kernel
theorem dX6_finest_2 : decode cX6_finest 2 = .ok (.invokestatic 193, 3) := by decide +kernel
theorem dX6_finest_5 : decode cX6_finest 5 = .ok (.istore_n 3, 1) := by decide +kernel
theorem dX6_finest_6 : decode cX6_finest 6 = .ok (.iload_n 3, 1) := by decide +kernel
theorem dX6_finest_7 : decode cX6_finest 7 = .ok (.ifCond .ne 13, 3) := by decide +kernel
theorem dX6_finest_10 : decode cX6_finest 10 = .ok (.aload_n 0, 1) := by decide +kernel
theorem dX6_finest_11 : decode cX6_finest 11 = .ok (.invokevirtual 173, 3) := by decide +kernel
theorem dX6_finest_14 : decode cX6_finest 14 = .ok (.ifCond .ne 6, 3) := by decide +kernel
theorem dX6_finest_17 : decode cX6_finest 17 = .ok (.bipush (-3), 2) := by decide +kernel
theorem dX6_finest_19 : decode cX6_finest 19 = .ok (.istore_n 3, 1) := by decide +kernel
theorem dX6_finest_20 : decode cX6_finest 20 = .ok (.iload_n 3, 1) := by decide +kernel
theorem dX6_finest_21 : decode cX6_finest 21 = .ok (.ifCond .eq 9, 3) := by decide +kernel
theorem dX6_finest_24 : decode cX6_finest 24 = .ok (.aload_n 0, 1) := by decide +kernel
theorem dX6_finest_25 : decode cX6_finest 25 = .ok (.iload_n 3, 1) := by decide +kernel
theorem dX6_finest_26 : decode cX6_finest 26 = .ok (.invokevirtual 79, 3) := by decide +kernel
theorem dX6_finest_29 : decode cX6_finest 29 = .ok (.ireturn, 1) := by decide +kernel
theorem dX6_finest_30 : decode cX6_finest 30 = .ok (.bipush (-9), 2) := by decide +kernel
theorem dX6_finest_32 : decode cX6_finest 32 = .ok (.istore 4, 2) := by decide +kernel
theorem dX6_finest_34 : decode cX6_finest 34 = .ok (.iconst 0, 1) := by decide +kernel
theorem dX6_finest_35 : decode cX6_finest 35 = .ok (.istore 5, 2) := by decide +kernel
theorem dX6_finest_37 : decode cX6_finest 37 = .ok (.iconst 0, 1) := by decide +kernel
theorem dX6_finest_38 : decode cX6_finest 38 = .ok (.istore 6, 2) := by decide +kernel
theorem dX6_finest_40 : decode cX6_finest 40 = .ok (.iload 6, 2) := by decide +kernel
theorem dX6_finest_42 : decode cX6_finest 42 = .ok (.iconst 5, 1) := by decide +kernel
theorem dX6_finest_43 : decode cX6_finest 43 = .ok (.if_icmp .ge 57, 3) := by decide +kernel
theorem dX6_finest_46 : decode cX6_finest 46 = .ok (.aload_n 0, 1) := by decide +kernel
theorem dX6_finest_47 : decode cX6_finest 47 = .ok (.iload 6, 2) := by decide +kernel
theorem dX6_finest_49 : decode cX6_finest 49 = .ok (.invokevirtual 208, 3) := by decide +kernel
theorem dX6_finest_52 : decode cX6_finest 52 = .ok (.istore 7, 2) := by decide +kernel
theorem dX6_finest_54 : decode cX6_finest 54 = .ok (.aload_n 0, 1) := by decide +kernel
theorem dX6_finest_55 : decode cX6_finest 55 = .ok (.iload_n 1, 1) := by decide +kernel
theorem dX6_finest_56 : decode cX6_finest 56 = .ok (.iload_n 2, 1) := by decide +kernel
theorem dX6_finest_57 : decode cX6_finest 57 = .ok (.invokevirtual 196, 3) := by decide +kernel
theorem dX6_finest_60 : decode cX6_finest 60 = .ok (.istore 8, 2) := by decide +kernel
theorem dX6_finest_62 : decode cX6_finest 62 = .ok (.aload_n 0, 1) := by decide +kernel
theorem dX6_finest_63 : decode cX6_finest 63 = .ok (.invokevirtual 211, 3) := by decide +kernel
theorem dX6_finest_66 : decode cX6_finest 66 = .ok (.iload 8, 2) := by decide +kernel
theorem dX6_finest_68 : decode cX6_finest 68 = .ok (.ifCond .eq 26, 3) := by decide +kernel
theorem dX6_finest_71 : decode cX6_finest 71 = .ok (.iload 4, 2) := by decide +kernel
theorem dX6_finest_73 : decode cX6_finest 73 = .ok (.ifCond .lt 13, 3) := by decide +kernel
theorem dX6_finest_76 : decode cX6_finest 76 = .ok (.iload 7, 2) := by decide +kernel
theorem dX6_finest_78 : decode cX6_finest 78 = .ok (.iload 5, 2) := by decide +kernel
theorem dX6_finest_80 : decode cX6_finest 80 = .ok (.if_icmp .lt 6, 3) := by decide +kernel
theorem dX6_finest_83 : decode cX6_finest 83 = .ok (.goto 11, 3) := by decide +kernel
theorem dX6_finest_86 : decode cX6_finest 86 = .ok (.iload 6, 2) := by decide +kernel
theorem dX6_finest_88 : decode cX6_finest 88 = .ok (.istore 4, 2) := by decide +kernel
theorem dX6_finest_90 : decode cX6_finest 90 = .ok (.iload 7, 2) := by decide +kernel
theorem dX6_finest_92 : decode cX6_finest 92 = .ok (.istore 5, 2) := by decide +kernel
theorem dX6_finest_94 : decode cX6_finest 94 = .ok (.iinc 6 1, 3) := by decide +kernel
theorem dX6_finest_97 : decode cX6_finest 97 = .ok (.goto (-57), 3) := by decide +kernel
theorem dX6_finest_100 : decode cX6_finest 100 = .ok (.iload 4, 2) := by decide +kernel
theorem dX6_finest_102 : decode cX6_finest 102 = .ok (.ireturn, 1) := by decide +kernel
set_option maxRecDepth 20000 in
theorem ggX6_likely_X6_findKnown : GoodIn wsX6_likely wsX6_findKnown := goodIn_r _ [7, 1, 8, 9, 10, 11, 12, 13, 14, 15, 16, 17, 18, 53, 54, 55, 56, 57, 58, 59, 60, 61, 62, 63, 64, 65, 66, 67, 68, 69, 70, 71, 72, 73, 74, 75, 76, 77, 78, 79, 80, 81, 82, 83] (by decide +kernel) (by decide +kernel)
set_option maxRecDepth 20000 in
theorem gX6_likely_X6_findKnown : GoodIn wsX6_likely (wsV RX6 163 RX6 yX6_findKnown wsX6_findKnown) := goodIn_app (goodIn_of _ (by decide +kernel)) ggX6_likely_X6_findKnown
set_option maxRecDepth 20000 in
theorem ggX6_likely_X6_houseSet : GoodIn wsX6_likely wsX6_houseSet := goodIn_r _ [22, 1, 23, 24, 25, 6, 26, 27, 53, 54, 55, 56, 57, 58, 59, 60, 61, 62, 63, 64, 65, 66, 67, 68, 69, 70, 71, 72, 73, 74, 75, 76, 77, 78, 79, 80, 81, 82, 83] (by decide +kernel) (by decide +kernel)
set_option maxRecDepth 20000 in
theorem gX6_likely_X6_houseSet : GoodIn wsX6_likely (wsV RX6 173 RX6 yX6_houseSet wsX6_houseSet) := goodIn_app (goodIn_of _ (by decide +kernel)) ggX6_likely_X6_houseSet
set_option maxRecDepth 20000 in
theorem ggX6_likely_X6_carriesIt : GoodIn wsX6_likely wsX6_carriesIt := goodIn_r _ [31, 1, 32, 33, 34, 6, 35, 36, 18, 37, 38, 39, 40, 41, 42, 43, 44, 45, 46, 47, 48, 53, 54, 55, 56, 57, 58, 59, 60, 61, 62, 63, 64, 65, 66, 67, 68, 69, 70, 71, 72, 73, 74, 75, 76, 77, 78, 79, 80, 81, 82, 83] (by decide +kernel) (by decide +kernel)
set_option maxRecDepth 20000 in
theorem gX6_likely_X6_carriesIt : GoodIn wsX6_likely (wsV RX6 179 RX6 yX6_carriesIt wsX6_carriesIt) := goodIn_app (goodIn_of _ (by decide +kernel)) ggX6_likely_X6_carriesIt
set_option maxRecDepth 20000 in
theorem ggX6_likely_X6_losesIt : GoodIn wsX6_likely wsX6_losesIt := goodIn_r _ [52, 32, 33, 34, 6, 35, 36, 1, 18, 37, 38, 39, 40, 41, 42, 43, 44, 45, 46, 47, 48, 53, 54, 55, 56, 57, 58, 59, 60, 61, 62, 63, 64, 65, 66, 67, 68, 69, 70, 71, 72, 73, 74, 75, 76, 77, 78, 79, 80, 81, 82, 83] (by decide +kernel) (by decide +kernel)
set_option maxRecDepth 20000 in
theorem gX6_likely_X6_losesIt : GoodIn wsX6_likely (wsV RX6 182 RX6 yX6_losesIt wsX6_losesIt) := goodIn_app (goodIn_of _ (by decide +kernel)) ggX6_likely_X6_losesIt
theorem dX6_likely_0 : decode cX6_likely 0 = .ok (.aload_n 0, 1) := by decide +kernel
theorem dX6_likely_1 : decode cX6_likely 1 = .ok (.invokevirtual 163, 3) := by decide +kernel
theorem dX6_likely_4 : decode cX6_likely 4 = .ok (.aload_n 0, 1) := by decide +kernel
theorem dX6_likely_5 : decode cX6_likely 5 = .ok (.invokevirtual 173, 3) := by decide +kernel
theorem dX6_likely_8 : decode cX6_likely 8 = .ok (.istore_n 2, 1) := by decide +kernel
theorem dX6_likely_9 : decode cX6_likely 9 = .ok (.lconst 0, 1) := by decide +kernel
theorem dX6_likely_10 : decode cX6_likely 10 = .ok (.lstore_n 3, 1) := by decide +kernel
theorem dX6_likely_11 : decode cX6_likely 11 = .ok (.iconst 0, 1) := by decide +kernel
theorem dX6_likely_12 : decode cX6_likely 12 = .ok (.istore 5, 2) := by decide +kernel
theorem dX6_likely_14 : decode cX6_likely 14 = .ok (.iload 5, 2) := by decide +kernel
theorem dX6_likely_16 : decode cX6_likely 16 = .ok (.iconst 1, 1) := by decide +kernel
theorem dX6_likely_17 : decode cX6_likely 17 = .ok (.aload_n 0, 1) := by decide +kernel
theorem dX6_likely_18 : decode cX6_likely 18 = .ok (.getfield 72, 3) := by decide +kernel
theorem dX6_likely_21 : decode cX6_likely 21 = .ok (.ishl, 1) := by decide +kernel
theorem dX6_likely_22 : decode cX6_likely 22 = .ok (.if_icmp .ge 125, 3) := by decide +kernel
theorem dX6_likely_25 : decode cX6_likely 25 = .ok (.iload 5, 2) := by decide +kernel
theorem dX6_likely_27 : decode cX6_likely 27 = .ok (.iload_n 2, 1) := by decide +kernel
theorem dX6_likely_28 : decode cX6_likely 28 = .ok (.iconst (-1), 1) := by decide +kernel
theorem dX6_likely_29 : decode cX6_likely 29 = .ok (.ixor, 1) := by decide +kernel
theorem dX6_likely_30 : decode cX6_likely 30 = .ok (.iand, 1) := by decide +kernel
theorem dX6_likely_31 : decode cX6_likely 31 = .ok (.ifCond .ne 110, 3) := by decide +kernel
theorem dX6_likely_34 : decode cX6_likely 34 = .ok (.iload_n 1, 1) := by decide +kernel
theorem dX6_likely_35 : decode cX6_likely 35 = .ok (.ifCond .eq 16, 3) := by decide +kernel
theorem dX6_likely_38 : decode cX6_likely 38 = .ok (.aload_n 0, 1) := by decide +kernel
theorem dX6_likely_39 : decode cX6_likely 39 = .ok (.iload 5, 2) := by decide +kernel
theorem dX6_likely_41 : decode cX6_likely 41 = .ok (.iload_n 2, 1) := by decide +kernel
theorem dX6_likely_42 : decode cX6_likely 42 = .ok (.invokevirtual 179, 3) := by decide +kernel
theorem dX6_likely_45 : decode cX6_likely 45 = .ok (.ifCond .eq 96, 3) := by decide +kernel
theorem dX6_likely_48 : decode cX6_likely 48 = .ok (.goto 16, 3) := by decide +kernel
theorem dX6_likely_51 : decode cX6_likely 51 = .ok (.aload_n 0, 1) := by decide +kernel
theorem dX6_likely_52 : decode cX6_likely 52 = .ok (.iload 5, 2) := by decide +kernel
theorem dX6_likely_54 : decode cX6_likely 54 = .ok (.iload_n 2, 1) := by decide +kernel
theorem dX6_likely_55 : decode cX6_likely 55 = .ok (.invokevirtual 182, 3) := by decide +kernel
theorem dX6_likely_58 : decode cX6_likely 58 = .ok (.ifCond .ne 6, 3) := by decide +kernel
theorem dX6_likely_61 : decode cX6_likely 61 = .ok (.goto 80, 3) := by decide +kernel
theorem dX6_likely_64 : decode cX6_likely 64 = .ok (.lconst 1, 1) := by decide +kernel
theorem dX6_likely_65 : decode cX6_likely 65 = .ok (.lstore 6, 2) := by decide +kernel
theorem dX6_likely_67 : decode cX6_likely 67 = .ok (.iconst 0, 1) := by decide +kernel
theorem dX6_likely_68 : decode cX6_likely 68 = .ok (.istore 8, 2) := by decide +kernel
theorem dX6_likely_70 : decode cX6_likely 70 = .ok (.iload 8, 2) := by decide +kernel
theorem dX6_likely_72 : decode cX6_likely 72 = .ok (.aload_n 0, 1) := by decide +kernel
theorem dX6_likely_73 : decode cX6_likely 73 = .ok (.getfield 72, 3) := by decide +kernel
theorem dX6_likely_76 : decode cX6_likely 76 = .ok (.if_icmp .ge 60, 3) := by decide +kernel
theorem dX6_likely_79 : decode cX6_likely 79 = .ok (.lload 6, 2) := by decide +kernel
theorem dX6_likely_81 : decode cX6_likely 81 = .ok (.iload_n 2, 1) := by decide +kernel
theorem dX6_likely_82 : decode cX6_likely 82 = .ok (.iload 8, 2) := by decide +kernel
theorem dX6_likely_84 : decode cX6_likely 84 = .ok (.ishr, 1) := by decide +kernel
theorem dX6_likely_85 : decode cX6_likely 85 = .ok (.iconst 1, 1) := by decide +kernel
theorem dX6_likely_86 : decode cX6_likely 86 = .ok (.iand, 1) := by decide +kernel
theorem dX6_likely_87 : decode cX6_likely 87 = .ok (.ifCond .ne 7, 3) := by decide +kernel
theorem dX6_likely_90 : decode cX6_likely 90 = .ok (.lconst 1, 1) := by decide +kernel
theorem dX6_likely_91 : decode cX6_likely 91 = .ok (.goto 36, 3) := by decide +kernel
theorem dX6_likely_94 : decode cX6_likely 94 = .ok (.iload 5, 2) := by decide +kernel
theorem dX6_likely_96 : decode cX6_likely 96 = .ok (.iload 8, 2) := by decide +kernel
theorem dX6_likely_98 : decode cX6_likely 98 = .ok (.ishr, 1) := by decide +kernel
theorem dX6_likely_99 : decode cX6_likely 99 = .ok (.iconst 1, 1) := by decide +kernel
theorem dX6_likely_100 : decode cX6_likely 100 = .ok (.iand, 1) := by decide +kernel
theorem dX6_likely_101 : decode cX6_likely 101 = .ok (.iconst 1, 1) := by decide +kernel
theorem dX6_likely_102 : decode cX6_likely 102 = .ok (.if_icmp .ne 14, 3) := by decide +kernel
theorem dX6_likely_105 : decode cX6_likely 105 = .ok (.aload_n 0, 1) := by decide +kernel
theorem dX6_likely_106 : decode cX6_likely 106 = .ok (.getfield 16, 3) := by decide +kernel
theorem dX6_likely_109 : decode cX6_likely 109 = .ok (.iload 8, 2) := by decide +kernel
theorem dX6_likely_111 : decode cX6_likely 111 = .ok (.iaload, 1) := by decide +kernel
theorem dX6_likely_112 : decode cX6_likely 112 = .ok (.i2l, 1) := by decide +kernel
theorem dX6_likely_113 : decode cX6_likely 113 = .ok (.goto 14, 3) := by decide +kernel
theorem dX6_likely_116 : decode cX6_likely 116 = .ok (.bipush 100, 2) := by decide +kernel
theorem dX6_likely_118 : decode cX6_likely 118 = .ok (.aload_n 0, 1) := by decide +kernel
theorem dX6_likely_119 : decode cX6_likely 119 = .ok (.getfield 16, 3) := by decide +kernel
theorem dX6_likely_122 : decode cX6_likely 122 = .ok (.iload 8, 2) := by decide +kernel
theorem dX6_likely_124 : decode cX6_likely 124 = .ok (.iaload, 1) := by decide +kernel
theorem dX6_likely_125 : decode cX6_likely 125 = .ok (.isub, 1) := by decide +kernel
theorem dX6_likely_126 : decode cX6_likely 126 = .ok (.i2l, 1) := by decide +kernel
theorem dX6_likely_127 : decode cX6_likely 127 = .ok (.lmul, 1) := by decide +kernel
theorem dX6_likely_128 : decode cX6_likely 128 = .ok (.lstore 6, 2) := by decide +kernel
theorem dX6_likely_130 : decode cX6_likely 130 = .ok (.iinc 8 1, 3) := by decide +kernel
theorem dX6_likely_133 : decode cX6_likely 133 = .ok (.goto (-63), 3) := by decide +kernel
theorem dX6_likely_136 : decode cX6_likely 136 = .ok (.lload_n 3, 1) := by decide +kernel
theorem dX6_likely_137 : decode cX6_likely 137 = .ok (.lload 6, 2) := by decide +kernel
theorem dX6_likely_139 : decode cX6_likely 139 = .ok (.ladd, 1) := by decide +kernel
theorem dX6_likely_140 : decode cX6_likely 140 = .ok (.lstore_n 3, 1) := by decide +kernel
theorem dX6_likely_141 : decode cX6_likely 141 = .ok (.iinc 5 1, 3) := by decide +kernel
theorem dX6_likely_144 : decode cX6_likely 144 = .ok (.goto (-130), 3) := by decide +kernel
theorem dX6_likely_147 : decode cX6_likely 147 = .ok (.lload_n 3, 1) := by decide +kernel
theorem dX6_likely_148 : decode cX6_likely 148 = .ok (.lreturn, 1) := by decide +kernel
set_option maxRecDepth 20000 in
theorem ggX6_loses_X6_likely : GoodIn wsX6_loses wsX6_likely := goodIn_r _ [5, 6, 7, 8, 9, 10, 4, 11, 12, 13, 14, 15, 16, 17, 18, 19, 20, 21, 22, 23, 24, 25, 26, 27, 28, 29, 30, 31, 32, 33, 34, 35, 36, 37, 38, 39, 40, 41, 42, 43, 44, 45, 46, 47, 48, 49, 50, 51, 52, 53, 54, 55, 56, 57, 58, 59, 60, 61, 62, 63, 64, 65, 66, 67, 68, 69, 70, 71, 72, 73, 74, 75, 76, 77, 78, 79, 80, 81, 82, 83, 84, 85, 86, 87] (by decide +kernel) (by decide +kernel)
set_option maxRecDepth 20000 in
theorem gX6_loses_X6_likely : GoodIn wsX6_loses (wsV RX6 214 RX6 yX6_likely wsX6_likely) := goodIn_app (goodIn_of _ (by decide +kernel)) ggX6_loses_X6_likely
theorem dX6_loses_0 : decode cX6_loses 0 = .ok (.aload_n 0, 1) := by decide +kernel
theorem dX6_loses_1 : decode cX6_loses 1 = .ok (.iconst 0, 1) := by decide +kernel
theorem dX6_loses_2 : decode cX6_loses 2 = .ok (.invokevirtual 214, 3) := by decide +kernel
theorem dX6_loses_5 : decode cX6_loses 5 = .ok (.lreturn, 1) := by decide +kernel
set_option maxRecDepth 20000 in
theorem ggX6_carries_X6_likely : GoodIn wsX6_carries wsX6_likely := goodIn_r _ [5, 6, 7, 8, 9, 10, 4, 11, 12, 13, 14, 15, 16, 17, 18, 19, 20, 21, 22, 23, 24, 25, 26, 27, 28, 29, 30, 31, 32, 33, 34, 35, 36, 37, 38, 39, 40, 41, 42, 43, 44, 45, 46, 47, 48, 49, 50, 51, 52, 53, 54, 55, 56, 57, 58, 59, 60, 61, 62, 63, 64, 65, 66, 67, 68, 69, 70, 71, 72, 73, 74, 75, 76, 77, 78, 79, 80, 81, 82, 83, 84, 85, 86, 87] (by decide +kernel) (by decide +kernel)
set_option maxRecDepth 20000 in
theorem gX6_carries_X6_likely : GoodIn wsX6_carries (wsV RX6 214 RX6 yX6_likely wsX6_likely) := goodIn_app (goodIn_of _ (by decide +kernel)) ggX6_carries_X6_likely
theorem dX6_carries_0 : decode cX6_carries 0 = .ok (.aload_n 0, 1) := by decide +kernel
theorem dX6_carries_1 : decode cX6_carries 1 = .ok (.iconst 1, 1) := by decide +kernel
theorem dX6_carries_2 : decode cX6_carries 2 = .ok (.invokevirtual 214, 3) := by decide +kernel
theorem dX6_carries_5 : decode cX6_carries 5 = .ok (.lreturn, 1) := by decide +kernel
set_option maxRecDepth 20000 in
theorem ggX6_run_X6_isIn : GoodIn wsX6_run wsX6_isIn := goodIn_r _ [9] (by decide +kernel) (by decide +kernel)
set_option maxRecDepth 20000 in
theorem gX6_run_X6_isIn : GoodIn wsX6_run (va_wsS RX6 159 yX6_isIn wsX6_isIn) := goodIn_app (goodIn_of _ (by decide +kernel)) ggX6_run_X6_isIn
set_option maxRecDepth 20000 in
theorem ggX6_run_X6_no : GoodIn wsX6_run wsX6_no := goodIn_r _ [13, 14, 67, 68, 69, 70, 71, 72, 73, 74, 75, 76, 77, 78, 79, 80, 81, 82, 83, 84, 85, 86, 87, 88, 89, 90, 91, 92, 93, 94, 95, 96, 97] (by decide +kernel) (by decide +kernel)
set_option maxRecDepth 20000 in
theorem gX6_run_X6_no : GoodIn wsX6_run (wsV RX6 79 RX6 yX6_no wsX6_no) := goodIn_app (goodIn_of _ (by decide +kernel)) ggX6_run_X6_no
set_option maxRecDepth 20000 in
theorem ggX6_run_X6_bound : GoodIn wsX6_run wsX6_bound := goodIn_r _ [17] (by decide +kernel) (by decide +kernel)
set_option maxRecDepth 20000 in
theorem gX6_run_X6_bound : GoodIn wsX6_run (va_wsS RX6 75 yX6_bound wsX6_bound) := goodIn_app (goodIn_of _ (by decide +kernel)) ggX6_run_X6_bound
set_option maxRecDepth 20000 in
theorem ggX6_run_X6_findKnown : GoodIn wsX6_run wsX6_findKnown := goodIn_r _ [21, 1, 22, 23, 24, 25, 26, 27, 28, 29, 30, 31, 32, 67, 68, 69, 70, 71, 72, 73, 74, 75, 76, 77, 78, 79, 80, 81, 82, 83, 84, 85, 86, 87, 88, 89, 90, 91, 92, 93, 94, 95, 96, 97] (by decide +kernel) (by decide +kernel)
set_option maxRecDepth 20000 in
theorem gX6_run_X6_findKnown : GoodIn wsX6_run (wsV RX6 163 RX6 yX6_findKnown wsX6_findKnown) := goodIn_app (goodIn_of _ (by decide +kernel)) ggX6_run_X6_findKnown
set_option maxRecDepth 20000 in
theorem ggX6_run_X6_houseSet : GoodIn wsX6_run wsX6_houseSet := goodIn_r _ [36, 1, 37, 38, 39, 8, 40, 41, 67, 68, 69, 70, 71, 72, 73, 74, 75, 76, 77, 78, 79, 80, 81, 82, 83, 84, 85, 86, 87, 88, 89, 90, 91, 92, 93, 94, 95, 96, 97] (by decide +kernel) (by decide +kernel)
set_option maxRecDepth 20000 in
theorem gX6_run_X6_houseSet : GoodIn wsX6_run (wsV RX6 173 RX6 yX6_houseSet wsX6_houseSet) := goodIn_app (goodIn_of _ (by decide +kernel)) ggX6_run_X6_houseSet
set_option maxRecDepth 20000 in
theorem ggX6_run_X6_losesIt : GoodIn wsX6_run wsX6_losesIt := goodIn_r _ [45, 46, 47, 48, 8, 49, 50, 1, 32, 51, 52, 53, 54, 55, 56, 57, 58, 59, 60, 61, 62, 67, 68, 69, 70, 71, 72, 73, 74, 75, 76, 77, 78, 79, 80, 81, 82, 83, 84, 85, 86, 87, 88, 89, 90, 91, 92, 93, 94, 95, 96, 97] (by decide +kernel) (by decide +kernel)
set_option maxRecDepth 20000 in
theorem gX6_run_X6_losesIt : GoodIn wsX6_run (wsV RX6 182 RX6 yX6_losesIt wsX6_losesIt) := goodIn_app (goodIn_of _ (by decide +kernel)) ggX6_run_X6_losesIt
set_option maxRecDepth 20000 in
theorem ggX6_run_X6_carriesIt : GoodIn wsX6_run wsX6_carriesIt := goodIn_r _ [66, 1, 46, 47, 48, 8, 49, 50, 32, 51, 52, 53, 54, 55, 56, 57, 58, 59, 60, 61, 62, 67, 68, 69, 70, 71, 72, 73, 74, 75, 76, 77, 78, 79, 80, 81, 82, 83, 84, 85, 86, 87, 88, 89, 90, 91, 92, 93, 94, 95, 96, 97] (by decide +kernel) (by decide +kernel)
set_option maxRecDepth 20000 in
theorem gX6_run_X6_carriesIt : GoodIn wsX6_run (wsV RX6 179 RX6 yX6_carriesIt wsX6_carriesIt) := goodIn_app (goodIn_of _ (by decide +kernel)) ggX6_run_X6_carriesIt
theorem dX6_run_0 : decode cX6_run 0 = .ok (.iload_n 3, 1) := by decide +kernel
theorem dX6_run_1 : decode cX6_run 1 = .ok (.iconst 0, 1) := by decide +kernel
theorem dX6_run_2 : decode cX6_run 2 = .ok (.iconst 2, 1) := by decide +kernel
theorem dX6_run_3 : decode cX6_run 3 = .ok (.invokestatic 159, 3) := by decide +kernel
theorem dX6_run_6 : decode cX6_run 6 = .ok (.ifCond .ne 10, 3) := by decide +kernel
theorem dX6_run_9 : decode cX6_run 9 = .ok (.aload_n 0, 1) := by decide +kernel
theorem dX6_run_10 : decode cX6_run 10 = .ok (.bipush (-2), 2) := by decide +kernel
theorem dX6_run_12 : decode cX6_run 12 = .ok (.invokevirtual 79, 3) := by decide +kernel
theorem dX6_run_15 : decode cX6_run 15 = .ok (.ireturn, 1) := by decide +kernel
theorem dX6_run_16 : decode cX6_run 16 = .ok (.iload_n 1, 1) := by decide +kernel
theorem dX6_run_17 : decode cX6_run 17 = .ok (.iconst 1, 1) := by decide +kernel
theorem dX6_run_18 : decode cX6_run 18 = .ok (.bipush 50, 2) := by decide +kernel
theorem dX6_run_20 : decode cX6_run 20 = .ok (.invokestatic 75, 3) := by decide +kernel
theorem dX6_run_23 : decode cX6_run 23 = .ok (.istore 4, 2) := by decide +kernel
theorem dX6_run_25 : decode cX6_run 25 = .ok (.iload 4, 2) := by decide +kernel
theorem dX6_run_27 : decode cX6_run 27 = .ok (.ifCond .eq 10, 3) := by decide +kernel
theorem dX6_run_30 : decode cX6_run 30 = .ok (.aload_n 0, 1) := by decide +kernel
theorem dX6_run_31 : decode cX6_run 31 = .ok (.iload 4, 2) := by decide +kernel
theorem dX6_run_33 : decode cX6_run 33 = .ok (.invokevirtual 79, 3) := by decide +kernel
theorem dX6_run_36 : decode cX6_run 36 = .ok (.ireturn, 1) := by decide +kernel
theorem dX6_run_37 : decode cX6_run 37 = .ok (.aload_n 0, 1) := by decide +kernel
theorem dX6_run_38 : decode cX6_run 38 = .ok (.invokevirtual 163, 3) := by decide +kernel
theorem dX6_run_41 : decode cX6_run 41 = .ok (.aload_n 0, 1) := by decide +kernel
theorem dX6_run_42 : decode cX6_run 42 = .ok (.invokevirtual 173, 3) := by decide +kernel
theorem dX6_run_45 : decode cX6_run 45 = .ok (.istore 5, 2) := by decide +kernel
theorem dX6_run_47 : decode cX6_run 47 = .ok (.iconst 0, 1) := by decide +kernel
theorem dX6_run_48 : decode cX6_run 48 = .ok (.istore 6, 2) := by decide +kernel
theorem dX6_run_50 : decode cX6_run 50 = .ok (.iload_n 2, 1) := by decide +kernel
theorem dX6_run_51 : decode cX6_run 51 = .ok (.istore 7, 2) := by decide +kernel
theorem dX6_run_53 : decode cX6_run 53 = .ok (.iconst 1, 1) := by decide +kernel
theorem dX6_run_54 : decode cX6_run 54 = .ok (.istore 8, 2) := by decide +kernel
theorem dX6_run_56 : decode cX6_run 56 = .ok (.iload 8, 2) := by decide +kernel
theorem dX6_run_58 : decode cX6_run 58 = .ok (.iload_n 1, 1) := by decide +kernel
theorem dX6_run_59 : decode cX6_run 59 = .ok (.if_icmp .gt 121, 3) := by decide +kernel
theorem dX6_run_62 : decode cX6_run 62 = .ok (.iconst 0, 1) := by decide +kernel
theorem dX6_run_63 : decode cX6_run 63 = .ok (.istore 9, 2) := by decide +kernel
theorem dX6_run_65 : decode cX6_run 65 = .ok (.iload 9, 2) := by decide +kernel
theorem dX6_run_67 : decode cX6_run 67 = .ok (.aload_n 0, 1) := by decide +kernel
theorem dX6_run_68 : decode cX6_run 68 = .ok (.getfield 72, 3) := by decide +kernel
theorem dX6_run_71 : decode cX6_run 71 = .ok (.if_icmp .ge 71, 3) := by decide +kernel
theorem dX6_run_74 : decode cX6_run 74 = .ok (.iload 5, 2) := by decide +kernel
theorem dX6_run_76 : decode cX6_run 76 = .ok (.iload 9, 2) := by decide +kernel
theorem dX6_run_78 : decode cX6_run 78 = .ok (.ishr, 1) := by decide +kernel
theorem dX6_run_79 : decode cX6_run 79 = .ok (.iconst 1, 1) := by decide +kernel
theorem dX6_run_80 : decode cX6_run 80 = .ok (.iand, 1) := by decide +kernel
theorem dX6_run_81 : decode cX6_run 81 = .ok (.ifCond .ne 6, 3) := by decide +kernel
theorem dX6_run_84 : decode cX6_run 84 = .ok (.goto 52, 3) := by decide +kernel
theorem dX6_run_87 : decode cX6_run 87 = .ok (.iload 7, 2) := by decide +kernel
theorem dX6_run_89 : decode cX6_run 89 = .ok (.ldc 218, 2) := by decide +kernel
theorem dX6_run_91 : decode cX6_run 91 = .ok (.imul, 1) := by decide +kernel
theorem dX6_run_92 : decode cX6_run 92 = .ok (.sipush 12345, 3) := by decide +kernel
theorem dX6_run_95 : decode cX6_run 95 = .ok (.iadd, 1) := by decide +kernel
theorem dX6_run_96 : decode cX6_run 96 = .ok (.istore 7, 2) := by decide +kernel
theorem dX6_run_98 : decode cX6_run 98 = .ok (.iload 7, 2) := by decide +kernel
theorem dX6_run_100 : decode cX6_run 100 = .ok (.ldc 219, 2) := by decide +kernel
theorem dX6_run_102 : decode cX6_run 102 = .ok (.iand, 1) := by decide +kernel
theorem dX6_run_103 : decode cX6_run 103 = .ok (.ldc 220, 2) := by decide +kernel
theorem dX6_run_105 : decode cX6_run 105 = .ok (.idiv, 1) := by decide +kernel
theorem dX6_run_106 : decode cX6_run 106 = .ok (.bipush 100, 2) := by decide +kernel
theorem dX6_run_108 : decode cX6_run 108 = .ok (.irem, 1) := by decide +kernel
theorem dX6_run_109 : decode cX6_run 109 = .ok (.aload_n 0, 1) := by decide +kernel
theorem dX6_run_110 : decode cX6_run 110 = .ok (.getfield 16, 3) := by decide +kernel
theorem dX6_run_113 : decode cX6_run 113 = .ok (.iload 9, 2) := by decide +kernel
theorem dX6_run_115 : decode cX6_run 115 = .ok (.iaload, 1) := by decide +kernel
theorem dX6_run_116 : decode cX6_run 116 = .ok (.if_icmp .lt 6, 3) := by decide +kernel
theorem dX6_run_119 : decode cX6_run 119 = .ok (.goto 17, 3) := by decide +kernel
theorem dX6_run_122 : decode cX6_run 122 = .ok (.iload 5, 2) := by decide +kernel
theorem dX6_run_124 : decode cX6_run 124 = .ok (.iconst 1, 1) := by decide +kernel
theorem dX6_run_125 : decode cX6_run 125 = .ok (.iload 9, 2) := by decide +kernel
theorem dX6_run_127 : decode cX6_run 127 = .ok (.ishl, 1) := by decide +kernel
theorem dX6_run_128 : decode cX6_run 128 = .ok (.iconst (-1), 1) := by decide +kernel
theorem dX6_run_129 : decode cX6_run 129 = .ok (.ixor, 1) := by decide +kernel
theorem dX6_run_130 : decode cX6_run 130 = .ok (.iand, 1) := by decide +kernel
theorem dX6_run_131 : decode cX6_run 131 = .ok (.istore 5, 2) := by decide +kernel
theorem dX6_run_133 : decode cX6_run 133 = .ok (.iinc 6 1, 3) := by decide +kernel
theorem dX6_run_136 : decode cX6_run 136 = .ok (.iinc 9 1, 3) := by decide +kernel
theorem dX6_run_139 : decode cX6_run 139 = .ok (.goto (-74), 3) := by decide +kernel
theorem dX6_run_142 : decode cX6_run 142 = .ok (.iload_n 3, 1) := by decide +kernel
theorem dX6_run_143 : decode cX6_run 143 = .ok (.ifCond .ne 13, 3) := by decide +kernel
theorem dX6_run_146 : decode cX6_run 146 = .ok (.aload_n 0, 1) := by decide +kernel
theorem dX6_run_147 : decode cX6_run 147 = .ok (.iconst 0, 1) := by decide +kernel
theorem dX6_run_148 : decode cX6_run 148 = .ok (.iload 5, 2) := by decide +kernel
theorem dX6_run_150 : decode cX6_run 150 = .ok (.invokevirtual 182, 3) := by decide +kernel
theorem dX6_run_153 : decode cX6_run 153 = .ok (.ifCond .ne 18, 3) := by decide +kernel
theorem dX6_run_156 : decode cX6_run 156 = .ok (.iload_n 3, 1) := by decide +kernel
theorem dX6_run_157 : decode cX6_run 157 = .ok (.iconst 1, 1) := by decide +kernel
theorem dX6_run_158 : decode cX6_run 158 = .ok (.if_icmp .ne 16, 3) := by decide +kernel
theorem dX6_run_161 : decode cX6_run 161 = .ok (.aload_n 0, 1) := by decide +kernel
theorem dX6_run_162 : decode cX6_run 162 = .ok (.iconst 0, 1) := by decide +kernel
theorem dX6_run_163 : decode cX6_run 163 = .ok (.iload 5, 2) := by decide +kernel
theorem dX6_run_165 : decode cX6_run 165 = .ok (.invokevirtual 179, 3) := by decide +kernel
theorem dX6_run_168 : decode cX6_run 168 = .ok (.ifCond .eq 6, 3) := by decide +kernel
theorem dX6_run_171 : decode cX6_run 171 = .ok (.iload 8, 2) := by decide +kernel
theorem dX6_run_173 : decode cX6_run 173 = .ok (.ireturn, 1) := by decide +kernel
theorem dX6_run_174 : decode cX6_run 174 = .ok (.iinc 8 1, 3) := by decide +kernel
theorem dX6_run_177 : decode cX6_run 177 = .ok (.goto (-121), 3) := by decide +kernel
theorem dX6_run_180 : decode cX6_run 180 = .ok (.iload_n 3, 1) := by decide +kernel
theorem dX6_run_181 : decode cX6_run 181 = .ok (.iconst 2, 1) := by decide +kernel
theorem dX6_run_182 : decode cX6_run 182 = .ok (.if_icmp .ne 8, 3) := by decide +kernel
theorem dX6_run_185 : decode cX6_run 185 = .ok (.iload 6, 2) := by decide +kernel
theorem dX6_run_187 : decode cX6_run 187 = .ok (.goto 5, 3) := by decide +kernel
theorem dX6_run_190 : decode cX6_run 190 = .ok (.bipush (-9), 2) := by decide +kernel
theorem dX6_run_192 : decode cX6_run 192 = .ok (.ireturn, 1) := by decide +kernel
set_option maxRecDepth 20000 in
theorem ggX6_put_X6_bound : GoodIn wsX6_put wsX6_bound := goodIn_r _ [6] (by decide +kernel) (by decide +kernel)
set_option maxRecDepth 20000 in
theorem gX6_put_X6_bound : GoodIn wsX6_put (va_wsS RX6 75 yX6_bound wsX6_bound) := goodIn_app (goodIn_of _ (by decide +kernel)) ggX6_put_X6_bound
set_option maxRecDepth 20000 in
theorem ggX6_put_X6_no : GoodIn wsX6_put wsX6_no := goodIn_r _ [10, 11, 12, 13, 14, 15, 16, 17, 18, 19, 20, 21, 22, 23, 24, 25, 26, 27, 28, 29, 30, 31, 32, 33, 34, 35, 36, 37, 38, 39, 40, 41, 42] (by decide +kernel) (by decide +kernel)
set_option maxRecDepth 20000 in
theorem gX6_put_X6_no : GoodIn wsX6_put (wsV RX6 79 RX6 yX6_no wsX6_no) := goodIn_app (goodIn_of _ (by decide +kernel)) ggX6_put_X6_no
theorem dX6_put_0 : decode cX6_put 0 = .ok (.iload_n 1, 1) := by decide +kernel
theorem dX6_put_1 : decode cX6_put 1 = .ok (.iconst 0, 1) := by decide +kernel
theorem dX6_put_2 : decode cX6_put 2 = .ok (.bipush 7, 2) := by decide +kernel
theorem dX6_put_4 : decode cX6_put 4 = .ok (.invokestatic 75, 3) := by decide +kernel
theorem dX6_put_7 : decode cX6_put 7 = .ok (.istore_n 2, 1) := by decide +kernel
theorem dX6_put_8 : decode cX6_put 8 = .ok (.iload_n 2, 1) := by decide +kernel
theorem dX6_put_9 : decode cX6_put 9 = .ok (.ifCond .ne 15, 3) := by decide +kernel
theorem dX6_put_12 : decode cX6_put 12 = .ok (.aload_n 0, 1) := by decide +kernel
theorem dX6_put_13 : decode cX6_put 13 = .ok (.getfield 221, 3) := by decide +kernel
theorem dX6_put_16 : decode cX6_put 16 = .ok (.bipush 8, 2) := by decide +kernel
theorem dX6_put_18 : decode cX6_put 18 = .ok (.if_icmp .ne 6, 3) := by decide +kernel
theorem dX6_put_21 : decode cX6_put 21 = .ok (.bipush (-6), 2) := by decide +kernel
theorem dX6_put_23 : decode cX6_put 23 = .ok (.istore_n 2, 1) := by decide +kernel
theorem dX6_put_24 : decode cX6_put 24 = .ok (.iload_n 2, 1) := by decide +kernel
theorem dX6_put_25 : decode cX6_put 25 = .ok (.ifCond .eq 9, 3) := by decide +kernel
theorem dX6_put_28 : decode cX6_put 28 = .ok (.aload_n 0, 1) := by decide +kernel
theorem dX6_put_29 : decode cX6_put 29 = .ok (.iload_n 2, 1) := by decide +kernel
theorem dX6_put_30 : decode cX6_put 30 = .ok (.invokevirtual 79, 3) := by decide +kernel
theorem dX6_put_33 : decode cX6_put 33 = .ok (.ireturn, 1) := by decide +kernel
theorem dX6_put_34 : decode cX6_put 34 = .ok (.aload_n 0, 1) := by decide +kernel
theorem dX6_put_35 : decode cX6_put 35 = .ok (.getfield 62, 3) := by decide +kernel
theorem dX6_put_38 : decode cX6_put 38 = .ok (.aload_n 0, 1) := by decide +kernel
theorem dX6_put_39 : decode cX6_put 39 = .ok (.getfield 221, 3) := by decide +kernel
theorem dX6_put_42 : decode cX6_put 42 = .ok (.iload_n 1, 1) := by decide +kernel
theorem dX6_put_43 : decode cX6_put 43 = .ok (.iastore, 1) := by decide +kernel
theorem dX6_put_44 : decode cX6_put 44 = .ok (.aload_n 0, 1) := by decide +kernel
theorem dX6_put_45 : decode cX6_put 45 = .ok (.dup, 1) := by decide +kernel
theorem dX6_put_46 : decode cX6_put 46 = .ok (.getfield 221, 3) := by decide +kernel
theorem dX6_put_49 : decode cX6_put 49 = .ok (.iconst 1, 1) := by decide +kernel
theorem dX6_put_50 : decode cX6_put 50 = .ok (.iadd, 1) := by decide +kernel
theorem dX6_put_51 : decode cX6_put 51 = .ok (.putfield 221, 3) := by decide +kernel
theorem dX6_put_54 : decode cX6_put 54 = .ok (.aload_n 0, 1) := by decide +kernel
theorem dX6_put_55 : decode cX6_put 55 = .ok (.getfield 221, 3) := by decide +kernel
theorem dX6_put_58 : decode cX6_put 58 = .ok (.ireturn, 1) := by decide +kernel
set_option maxRecDepth 20000 in
theorem ggX6_judge_X6_isIn : GoodIn wsX6_judge wsX6_isIn := goodIn_r _ [6] (by decide +kernel) (by decide +kernel)
set_option maxRecDepth 20000 in
theorem gX6_judge_X6_isIn : GoodIn wsX6_judge (va_wsS RX6 159 yX6_isIn wsX6_isIn) := goodIn_app (goodIn_of _ (by decide +kernel)) ggX6_judge_X6_isIn
set_option maxRecDepth 20000 in
theorem ggX6_judge_X6_no : GoodIn wsX6_judge wsX6_no := goodIn_r _ [10, 11, 62, 63, 64, 65, 66, 67, 68, 69, 70, 71, 72, 73, 74, 75, 76, 77, 78, 79, 80, 81, 82, 83, 84, 85, 86, 87, 88, 89, 90, 91, 92] (by decide +kernel) (by decide +kernel)
set_option maxRecDepth 20000 in
theorem gX6_judge_X6_no : GoodIn wsX6_judge (wsV RX6 79 RX6 yX6_no wsX6_no) := goodIn_app (goodIn_of _ (by decide +kernel)) ggX6_judge_X6_no
set_option maxRecDepth 20000 in
theorem ggX6_judge_X6_findKnown : GoodIn wsX6_judge wsX6_findKnown := goodIn_r _ [15, 16, 17, 18, 19, 20, 21, 22, 23, 24, 25, 26, 27, 62, 63, 64, 65, 66, 67, 68, 69, 70, 71, 72, 73, 74, 75, 76, 77, 78, 79, 80, 81, 82, 83, 84, 85, 86, 87, 88, 89, 90, 91, 92] (by decide +kernel) (by decide +kernel)
set_option maxRecDepth 20000 in
theorem gX6_judge_X6_findKnown : GoodIn wsX6_judge (wsV RX6 163 RX6 yX6_findKnown wsX6_findKnown) := goodIn_app (goodIn_of _ (by decide +kernel)) ggX6_judge_X6_findKnown
set_option maxRecDepth 20000 in
theorem ggX6_judge_X6_houseSet : GoodIn wsX6_judge wsX6_houseSet := goodIn_r _ [31, 16, 32, 33, 34, 5, 35, 36, 62, 63, 64, 65, 66, 67, 68, 69, 70, 71, 72, 73, 74, 75, 76, 77, 78, 79, 80, 81, 82, 83, 84, 85, 86, 87, 88, 89, 90, 91, 92] (by decide +kernel) (by decide +kernel)
set_option maxRecDepth 20000 in
theorem gX6_judge_X6_houseSet : GoodIn wsX6_judge (wsV RX6 173 RX6 yX6_houseSet wsX6_houseSet) := goodIn_app (goodIn_of _ (by decide +kernel)) ggX6_judge_X6_houseSet
set_option maxRecDepth 20000 in
theorem ggX6_judge_X6_losesIt : GoodIn wsX6_judge wsX6_losesIt := goodIn_r _ [40, 41, 42, 43, 5, 44, 45, 16, 27, 46, 47, 48, 49, 50, 51, 52, 53, 54, 55, 56, 57, 62, 63, 64, 65, 66, 67, 68, 69, 70, 71, 72, 73, 74, 75, 76, 77, 78, 79, 80, 81, 82, 83, 84, 85, 86, 87, 88, 89, 90, 91, 92] (by decide +kernel) (by decide +kernel)
set_option maxRecDepth 20000 in
theorem gX6_judge_X6_losesIt : GoodIn wsX6_judge (wsV RX6 182 RX6 yX6_losesIt wsX6_losesIt) := goodIn_app (goodIn_of _ (by decide +kernel)) ggX6_judge_X6_losesIt
set_option maxRecDepth 20000 in
theorem ggX6_judge_X6_carriesIt : GoodIn wsX6_judge wsX6_carriesIt := goodIn_r _ [61, 16, 41, 42, 43, 5, 44, 45, 27, 46, 47, 48, 49, 50, 51, 52, 53, 54, 55, 56, 57, 62, 63, 64, 65, 66, 67, 68, 69, 70, 71, 72, 73, 74, 75, 76, 77, 78, 79, 80, 81, 82, 83, 84, 85, 86, 87, 88, 89, 90, 91, 92] (by decide +kernel) (by decide +kernel)
set_option maxRecDepth 20000 in
theorem gX6_judge_X6_carriesIt : GoodIn wsX6_judge (wsV RX6 179 RX6 yX6_carriesIt wsX6_carriesIt) := goodIn_app (goodIn_of _ (by decide +kernel)) ggX6_judge_X6_carriesIt
theorem dX6_judge_0 : decode cX6_judge 0 = .ok (.iload_n 1, 1) := by decide +kernel
theorem dX6_judge_1 : decode cX6_judge 1 = .ok (.iconst 0, 1) := by decide +kernel
theorem dX6_judge_2 : decode cX6_judge 2 = .ok (.iconst 2, 1) := by decide +kernel
theorem dX6_judge_3 : decode cX6_judge 3 = .ok (.invokestatic 159, 3) := by decide +kernel
theorem dX6_judge_6 : decode cX6_judge 6 = .ok (.ifCond .ne 10, 3) := by decide +kernel
theorem dX6_judge_9 : decode cX6_judge 9 = .ok (.aload_n 0, 1) := by decide +kernel
theorem dX6_judge_10 : decode cX6_judge 10 = .ok (.bipush (-2), 2) := by decide +kernel
theorem dX6_judge_12 : decode cX6_judge 12 = .ok (.invokevirtual 79, 3) := by decide +kernel
theorem dX6_judge_15 : decode cX6_judge 15 = .ok (.ireturn, 1) := by decide +kernel
theorem dX6_judge_16 : decode cX6_judge 16 = .ok (.aload_n 0, 1) := by decide +kernel
theorem dX6_judge_17 : decode cX6_judge 17 = .ok (.getfield 221, 3) := by decide +kernel
theorem dX6_judge_20 : decode cX6_judge 20 = .ok (.istore_n 2, 1) := by decide +kernel
theorem dX6_judge_21 : decode cX6_judge 21 = .ok (.aload_n 0, 1) := by decide +kernel
theorem dX6_judge_22 : decode cX6_judge 22 = .ok (.iconst 0, 1) := by decide +kernel
theorem dX6_judge_23 : decode cX6_judge 23 = .ok (.putfield 221, 3) := by decide +kernel
theorem dX6_judge_26 : decode cX6_judge 26 = .ok (.aload_n 0, 1) := by decide +kernel
theorem dX6_judge_27 : decode cX6_judge 27 = .ok (.invokevirtual 163, 3) := by decide +kernel
theorem dX6_judge_30 : decode cX6_judge 30 = .ok (.aload_n 0, 1) := by decide +kernel
theorem dX6_judge_31 : decode cX6_judge 31 = .ok (.invokevirtual 173, 3) := by decide +kernel
theorem dX6_judge_34 : decode cX6_judge 34 = .ok (.istore_n 3, 1) := by decide +kernel
theorem dX6_judge_35 : decode cX6_judge 35 = .ok (.iconst 0, 1) := by decide +kernel
theorem dX6_judge_36 : decode cX6_judge 36 = .ok (.istore 4, 2) := by decide +kernel
theorem dX6_judge_38 : decode cX6_judge 38 = .ok (.iload 4, 2) := by decide +kernel
theorem dX6_judge_40 : decode cX6_judge 40 = .ok (.iload_n 2, 1) := by decide +kernel
theorem dX6_judge_41 : decode cX6_judge 41 = .ok (.if_icmp .ge 80, 3) := by decide +kernel
theorem dX6_judge_44 : decode cX6_judge 44 = .ok (.iload_n 3, 1) := by decide +kernel
theorem dX6_judge_45 : decode cX6_judge 45 = .ok (.aload_n 0, 1) := by decide +kernel
theorem dX6_judge_46 : decode cX6_judge 46 = .ok (.getfield 62, 3) := by decide +kernel
theorem dX6_judge_49 : decode cX6_judge 49 = .ok (.iload 4, 2) := by decide +kernel
theorem dX6_judge_51 : decode cX6_judge 51 = .ok (.iaload, 1) := by decide +kernel
theorem dX6_judge_52 : decode cX6_judge 52 = .ok (.ishr, 1) := by decide +kernel
theorem dX6_judge_53 : decode cX6_judge 53 = .ok (.iconst 1, 1) := by decide +kernel
theorem dX6_judge_54 : decode cX6_judge 54 = .ok (.iand, 1) := by decide +kernel
theorem dX6_judge_55 : decode cX6_judge 55 = .ok (.ifCond .ne 16, 3) := by decide +kernel
theorem dX6_judge_58 : decode cX6_judge 58 = .ok (.iload_n 1, 1) := by decide +kernel
theorem dX6_judge_59 : decode cX6_judge 59 = .ok (.iconst 2, 1) := by decide +kernel
theorem dX6_judge_60 : decode cX6_judge 60 = .ok (.if_icmp .ne 8, 3) := by decide +kernel
theorem dX6_judge_63 : decode cX6_judge 63 = .ok (.iload 4, 2) := by decide +kernel
theorem dX6_judge_65 : decode cX6_judge 65 = .ok (.goto 5, 3) := by decide +kernel
theorem dX6_judge_68 : decode cX6_judge 68 = .ok (.bipush (-9), 2) := by decide +kernel
theorem dX6_judge_70 : decode cX6_judge 70 = .ok (.ireturn, 1) := by decide +kernel
theorem dX6_judge_71 : decode cX6_judge 71 = .ok (.iload_n 3, 1) := by decide +kernel
theorem dX6_judge_72 : decode cX6_judge 72 = .ok (.iconst 1, 1) := by decide +kernel
theorem dX6_judge_73 : decode cX6_judge 73 = .ok (.aload_n 0, 1) := by decide +kernel
theorem dX6_judge_74 : decode cX6_judge 74 = .ok (.getfield 62, 3) := by decide +kernel
theorem dX6_judge_77 : decode cX6_judge 77 = .ok (.iload 4, 2) := by decide +kernel
theorem dX6_judge_79 : decode cX6_judge 79 = .ok (.iaload, 1) := by decide +kernel
theorem dX6_judge_80 : decode cX6_judge 80 = .ok (.ishl, 1) := by decide +kernel
theorem dX6_judge_81 : decode cX6_judge 81 = .ok (.iconst (-1), 1) := by decide +kernel
theorem dX6_judge_82 : decode cX6_judge 82 = .ok (.ixor, 1) := by decide +kernel
theorem dX6_judge_83 : decode cX6_judge 83 = .ok (.iand, 1) := by decide +kernel
theorem dX6_judge_84 : decode cX6_judge 84 = .ok (.istore_n 3, 1) := by decide +kernel
theorem dX6_judge_85 : decode cX6_judge 85 = .ok (.iload_n 1, 1) := by decide +kernel
theorem dX6_judge_86 : decode cX6_judge 86 = .ok (.ifCond .ne 12, 3) := by decide +kernel
theorem dX6_judge_89 : decode cX6_judge 89 = .ok (.aload_n 0, 1) := by decide +kernel
theorem dX6_judge_90 : decode cX6_judge 90 = .ok (.iconst 0, 1) := by decide +kernel
theorem dX6_judge_91 : decode cX6_judge 91 = .ok (.iload_n 3, 1) := by decide +kernel
theorem dX6_judge_92 : decode cX6_judge 92 = .ok (.invokevirtual 182, 3) := by decide +kernel
theorem dX6_judge_95 : decode cX6_judge 95 = .ok (.ifCond .ne 17, 3) := by decide +kernel
theorem dX6_judge_98 : decode cX6_judge 98 = .ok (.iload_n 1, 1) := by decide +kernel
theorem dX6_judge_99 : decode cX6_judge 99 = .ok (.iconst 1, 1) := by decide +kernel
theorem dX6_judge_100 : decode cX6_judge 100 = .ok (.if_icmp .ne 15, 3) := by decide +kernel
theorem dX6_judge_103 : decode cX6_judge 103 = .ok (.aload_n 0, 1) := by decide +kernel
theorem dX6_judge_104 : decode cX6_judge 104 = .ok (.iconst 0, 1) := by decide +kernel
theorem dX6_judge_105 : decode cX6_judge 105 = .ok (.iload_n 3, 1) := by decide +kernel
theorem dX6_judge_106 : decode cX6_judge 106 = .ok (.invokevirtual 179, 3) := by decide +kernel
theorem dX6_judge_109 : decode cX6_judge 109 = .ok (.ifCond .eq 6, 3) := by decide +kernel
theorem dX6_judge_112 : decode cX6_judge 112 = .ok (.iload 4, 2) := by decide +kernel
theorem dX6_judge_114 : decode cX6_judge 114 = .ok (.ireturn, 1) := by decide +kernel
theorem dX6_judge_115 : decode cX6_judge 115 = .ok (.iinc 4 1, 3) := by decide +kernel
theorem dX6_judge_118 : decode cX6_judge 118 = .ok (.goto (-80), 3) := by decide +kernel
theorem dX6_judge_121 : decode cX6_judge 121 = .ok (.bipush (-9), 2) := by decide +kernel
theorem dX6_judge_123 : decode cX6_judge 123 = .ok (.ireturn, 1) := by decide +kernel
theorem dX6_passes_0 : decode cX6_passes 0 = .ok (.iconst 0, 1) := by decide +kernel
theorem dX6_passes_1 : decode cX6_passes 1 = .ok (.istore_n 2, 1) := by decide +kernel
theorem dX6_passes_2 : decode cX6_passes 2 = .ok (.iload_n 2, 1) := by decide +kernel
theorem dX6_passes_3 : decode cX6_passes 3 = .ok (.aload_n 1, 1) := by decide +kernel
theorem dX6_passes_4 : decode cX6_passes 4 = .ok (.arraylength, 1) := by decide +kernel
theorem dX6_passes_5 : decode cX6_passes 5 = .ok (.if_icmp .ge 53, 3) := by decide +kernel
theorem dX6_passes_8 : decode cX6_passes 8 = .ok (.aload_n 0, 1) := by decide +kernel
theorem dX6_passes_9 : decode cX6_passes 9 = .ok (.getfield 224, 3) := by decide +kernel
theorem dX6_passes_12 : decode cX6_passes 12 = .ok (.ifCond .eq 18, 3) := by decide +kernel
theorem dX6_passes_15 : decode cX6_passes 15 = .ok (.aload_n 0, 1) := by decide +kernel
theorem dX6_passes_16 : decode cX6_passes 16 = .ok (.getfield 65, 3) := by decide +kernel
theorem dX6_passes_19 : decode cX6_passes 19 = .ok (.aload_n 0, 1) := by decide +kernel
theorem dX6_passes_20 : decode cX6_passes 20 = .ok (.getfield 228, 3) := by decide +kernel
theorem dX6_passes_23 : decode cX6_passes 23 = .ok (.aload_n 1, 1) := by decide +kernel
theorem dX6_passes_24 : decode cX6_passes 24 = .ok (.iload_n 2, 1) := by decide +kernel
theorem dX6_passes_25 : decode cX6_passes 25 = .ok (.iaload, 1) := by decide +kernel
theorem dX6_passes_26 : decode cX6_passes 26 = .ok (.iastore, 1) := by decide +kernel
theorem dX6_passes_27 : decode cX6_passes 27 = .ok (.goto 15, 3) := by decide +kernel
theorem dX6_passes_30 : decode cX6_passes 30 = .ok (.aload_n 1, 1) := by decide +kernel
theorem dX6_passes_31 : decode cX6_passes 31 = .ok (.iload_n 2, 1) := by decide +kernel
theorem dX6_passes_32 : decode cX6_passes 32 = .ok (.aload_n 0, 1) := by decide +kernel
theorem dX6_passes_33 : decode cX6_passes 33 = .ok (.getfield 65, 3) := by decide +kernel
theorem dX6_passes_36 : decode cX6_passes 36 = .ok (.aload_n 0, 1) := by decide +kernel
theorem dX6_passes_37 : decode cX6_passes 37 = .ok (.getfield 228, 3) := by decide +kernel
theorem dX6_passes_40 : decode cX6_passes 40 = .ok (.iaload, 1) := by decide +kernel
theorem dX6_passes_41 : decode cX6_passes 41 = .ok (.iastore, 1) := by decide +kernel
theorem dX6_passes_42 : decode cX6_passes 42 = .ok (.aload_n 0, 1) := by decide +kernel
theorem dX6_passes_43 : decode cX6_passes 43 = .ok (.dup, 1) := by decide +kernel
theorem dX6_passes_44 : decode cX6_passes 44 = .ok (.getfield 228, 3) := by decide +kernel
theorem dX6_passes_47 : decode cX6_passes 47 = .ok (.iconst 1, 1) := by decide +kernel
theorem dX6_passes_48 : decode cX6_passes 48 = .ok (.iadd, 1) := by decide +kernel
theorem dX6_passes_49 : decode cX6_passes 49 = .ok (.putfield 228, 3) := by decide +kernel
theorem dX6_passes_52 : decode cX6_passes 52 = .ok (.iinc 2 1, 3) := by decide +kernel
theorem dX6_passes_55 : decode cX6_passes 55 = .ok (.goto (-53), 3) := by decide +kernel
theorem dX6_passes_58 : decode cX6_passes 58 = .ok (.return_, 1) := by decide +kernel
theorem dX6_passOne_0 : decode cX6_passOne 0 = .ok (.aload_n 0, 1) := by decide +kernel
theorem dX6_passOne_1 : decode cX6_passOne 1 = .ok (.getfield 224, 3) := by decide +kernel
theorem dX6_passOne_4 : decode cX6_passOne 4 = .ok (.ifCond .eq 7, 3) := by decide +kernel
theorem dX6_passOne_7 : decode cX6_passOne 7 = .ok (.iload_n 1, 1) := by decide +kernel
theorem dX6_passOne_8 : decode cX6_passOne 8 = .ok (.goto 12, 3) := by decide +kernel
theorem dX6_passOne_11 : decode cX6_passOne 11 = .ok (.aload_n 0, 1) := by decide +kernel
theorem dX6_passOne_12 : decode cX6_passOne 12 = .ok (.getfield 65, 3) := by decide +kernel
theorem dX6_passOne_15 : decode cX6_passOne 15 = .ok (.aload_n 0, 1) := by decide +kernel
theorem dX6_passOne_16 : decode cX6_passOne 16 = .ok (.getfield 228, 3) := by decide +kernel
theorem dX6_passOne_19 : decode cX6_passOne 19 = .ok (.iaload, 1) := by decide +kernel
theorem dX6_passOne_20 : decode cX6_passOne 20 = .ok (.istore_n 2, 1) := by decide +kernel
theorem dX6_passOne_21 : decode cX6_passOne 21 = .ok (.aload_n 0, 1) := by decide +kernel
theorem dX6_passOne_22 : decode cX6_passOne 22 = .ok (.getfield 224, 3) := by decide +kernel
theorem dX6_passOne_25 : decode cX6_passOne 25 = .ok (.ifCond .eq 13, 3) := by decide +kernel
theorem dX6_passOne_28 : decode cX6_passOne 28 = .ok (.aload_n 0, 1) := by decide +kernel
theorem dX6_passOne_29 : decode cX6_passOne 29 = .ok (.getfield 65, 3) := by decide +kernel
theorem dX6_passOne_32 : decode cX6_passOne 32 = .ok (.aload_n 0, 1) := by decide +kernel
theorem dX6_passOne_33 : decode cX6_passOne 33 = .ok (.getfield 228, 3) := by decide +kernel
theorem dX6_passOne_36 : decode cX6_passOne 36 = .ok (.iload_n 1, 1) := by decide +kernel
theorem dX6_passOne_37 : decode cX6_passOne 37 = .ok (.iastore, 1) := by decide +kernel
theorem dX6_passOne_38 : decode cX6_passOne 38 = .ok (.aload_n 0, 1) := by decide +kernel
theorem dX6_passOne_39 : decode cX6_passOne 39 = .ok (.dup, 1) := by decide +kernel
theorem dX6_passOne_40 : decode cX6_passOne 40 = .ok (.getfield 228, 3) := by decide +kernel
theorem dX6_passOne_43 : decode cX6_passOne 43 = .ok (.iconst 1, 1) := by decide +kernel
theorem dX6_passOne_44 : decode cX6_passOne 44 = .ok (.iadd, 1) := by decide +kernel
theorem dX6_passOne_45 : decode cX6_passOne 45 = .ok (.putfield 228, 3) := by decide +kernel
theorem dX6_passOne_48 : decode cX6_passOne 48 = .ok (.iload_n 2, 1) := by decide +kernel
theorem dX6_passOne_49 : decode cX6_passOne 49 = .ok (.ireturn, 1) := by decide +kernel
set_option maxRecDepth 20000 in
theorem ggX6_passesAll_X6_passes : GoodIn wsX6_passesAll wsX6_passes := goodIn_r _ [21, 22, 23, 1, 28, 29, 30, 31, 32, 33, 34, 35, 36, 37, 38, 39, 40, 41, 42, 43, 44, 45, 46, 47, 48, 49, 50, 51, 52, 53, 54, 55, 56, 57, 58] (by decide +kernel) (by decide +kernel)
set_option maxRecDepth 20000 in
theorem gX6_passesAll_X6_passes : GoodIn wsX6_passesAll (wsV RX6 231 RX6 yX6_passes wsX6_passes) := goodIn_app (goodIn_of _ (by decide +kernel)) ggX6_passesAll_X6_passes
set_option maxRecDepth 20000 in
theorem ggX6_passesAll_X6_passOne : GoodIn wsX6_passesAll wsX6_passOne := goodIn_r _ [27, 22, 23, 1, 28, 29, 30, 31, 32, 33, 34, 35, 36, 37, 38, 39, 40, 41, 42, 43, 44, 45, 46, 47, 48, 49, 50, 51, 52, 53, 54, 55, 56, 57, 58] (by decide +kernel) (by decide +kernel)
set_option maxRecDepth 20000 in
theorem gX6_passesAll_X6_passOne : GoodIn wsX6_passesAll (wsV RX6 235 RX6 yX6_passOne wsX6_passOne) := goodIn_app (goodIn_of _ (by decide +kernel)) ggX6_passesAll_X6_passOne
theorem dX6_passesAll_0 : decode cX6_passesAll 0 = .ok (.aload_n 0, 1) := by decide +kernel
theorem dX6_passesAll_1 : decode cX6_passesAll 1 = .ok (.iconst 0, 1) := by decide +kernel
theorem dX6_passesAll_2 : decode cX6_passesAll 2 = .ok (.putfield 228, 3) := by decide +kernel
theorem dX6_passesAll_5 : decode cX6_passesAll 5 = .ok (.aload_n 0, 1) := by decide +kernel
theorem dX6_passesAll_6 : decode cX6_passesAll 6 = .ok (.aload_n 0, 1) := by decide +kernel
theorem dX6_passesAll_7 : decode cX6_passesAll 7 = .ok (.getfield 13, 3) := by decide +kernel
theorem dX6_passesAll_10 : decode cX6_passesAll 10 = .ok (.invokevirtual 231, 3) := by decide +kernel
theorem dX6_passesAll_13 : decode cX6_passesAll 13 = .ok (.aload_n 0, 1) := by decide +kernel
theorem dX6_passesAll_14 : decode cX6_passesAll 14 = .ok (.aload_n 0, 1) := by decide +kernel
theorem dX6_passesAll_15 : decode cX6_passesAll 15 = .ok (.getfield 16, 3) := by decide +kernel
theorem dX6_passesAll_18 : decode cX6_passesAll 18 = .ok (.invokevirtual 231, 3) := by decide +kernel
theorem dX6_passesAll_21 : decode cX6_passesAll 21 = .ok (.aload_n 0, 1) := by decide +kernel
theorem dX6_passesAll_22 : decode cX6_passesAll 22 = .ok (.aload_n 0, 1) := by decide +kernel
theorem dX6_passesAll_23 : decode cX6_passesAll 23 = .ok (.getfield 19, 3) := by decide +kernel
theorem dX6_passesAll_26 : decode cX6_passesAll 26 = .ok (.invokevirtual 231, 3) := by decide +kernel
theorem dX6_passesAll_29 : decode cX6_passesAll 29 = .ok (.aload_n 0, 1) := by decide +kernel
theorem dX6_passesAll_30 : decode cX6_passesAll 30 = .ok (.aload_n 0, 1) := by decide +kernel
theorem dX6_passesAll_31 : decode cX6_passesAll 31 = .ok (.getfield 22, 3) := by decide +kernel
theorem dX6_passesAll_34 : decode cX6_passesAll 34 = .ok (.invokevirtual 231, 3) := by decide +kernel
theorem dX6_passesAll_37 : decode cX6_passesAll 37 = .ok (.aload_n 0, 1) := by decide +kernel
theorem dX6_passesAll_38 : decode cX6_passesAll 38 = .ok (.aload_n 0, 1) := by decide +kernel
theorem dX6_passesAll_39 : decode cX6_passesAll 39 = .ok (.getfield 25, 3) := by decide +kernel
theorem dX6_passesAll_42 : decode cX6_passesAll 42 = .ok (.invokevirtual 231, 3) := by decide +kernel
theorem dX6_passesAll_45 : decode cX6_passesAll 45 = .ok (.aload_n 0, 1) := by decide +kernel
theorem dX6_passesAll_46 : decode cX6_passesAll 46 = .ok (.aload_n 0, 1) := by decide +kernel
theorem dX6_passesAll_47 : decode cX6_passesAll 47 = .ok (.getfield 28, 3) := by decide +kernel
theorem dX6_passesAll_50 : decode cX6_passesAll 50 = .ok (.invokevirtual 231, 3) := by decide +kernel
theorem dX6_passesAll_53 : decode cX6_passesAll 53 = .ok (.aload_n 0, 1) := by decide +kernel
theorem dX6_passesAll_54 : decode cX6_passesAll 54 = .ok (.aload_n 0, 1) := by decide +kernel
theorem dX6_passesAll_55 : decode cX6_passesAll 55 = .ok (.getfield 31, 3) := by decide +kernel
theorem dX6_passesAll_58 : decode cX6_passesAll 58 = .ok (.invokevirtual 231, 3) := by decide +kernel
theorem dX6_passesAll_61 : decode cX6_passesAll 61 = .ok (.aload_n 0, 1) := by decide +kernel
theorem dX6_passesAll_62 : decode cX6_passesAll 62 = .ok (.aload_n 0, 1) := by decide +kernel
theorem dX6_passesAll_63 : decode cX6_passesAll 63 = .ok (.getfield 34, 3) := by decide +kernel
theorem dX6_passesAll_66 : decode cX6_passesAll 66 = .ok (.invokevirtual 231, 3) := by decide +kernel
theorem dX6_passesAll_69 : decode cX6_passesAll 69 = .ok (.aload_n 0, 1) := by decide +kernel
theorem dX6_passesAll_70 : decode cX6_passesAll 70 = .ok (.aload_n 0, 1) := by decide +kernel
theorem dX6_passesAll_71 : decode cX6_passesAll 71 = .ok (.getfield 37, 3) := by decide +kernel
theorem dX6_passesAll_74 : decode cX6_passesAll 74 = .ok (.invokevirtual 231, 3) := by decide +kernel
theorem dX6_passesAll_77 : decode cX6_passesAll 77 = .ok (.aload_n 0, 1) := by decide +kernel
theorem dX6_passesAll_78 : decode cX6_passesAll 78 = .ok (.aload_n 0, 1) := by decide +kernel
theorem dX6_passesAll_79 : decode cX6_passesAll 79 = .ok (.aload_n 0, 1) := by decide +kernel
theorem dX6_passesAll_80 : decode cX6_passesAll 80 = .ok (.getfield 40, 3) := by decide +kernel
theorem dX6_passesAll_83 : decode cX6_passesAll 83 = .ok (.invokevirtual 235, 3) := by decide +kernel
theorem dX6_passesAll_86 : decode cX6_passesAll 86 = .ok (.putfield 40, 3) := by decide +kernel
theorem dX6_passesAll_89 : decode cX6_passesAll 89 = .ok (.aload_n 0, 1) := by decide +kernel
theorem dX6_passesAll_90 : decode cX6_passesAll 90 = .ok (.aload_n 0, 1) := by decide +kernel
theorem dX6_passesAll_91 : decode cX6_passesAll 91 = .ok (.aload_n 0, 1) := by decide +kernel
theorem dX6_passesAll_92 : decode cX6_passesAll 92 = .ok (.getfield 72, 3) := by decide +kernel
theorem dX6_passesAll_95 : decode cX6_passesAll 95 = .ok (.invokevirtual 235, 3) := by decide +kernel
theorem dX6_passesAll_98 : decode cX6_passesAll 98 = .ok (.putfield 72, 3) := by decide +kernel
theorem dX6_passesAll_101 : decode cX6_passesAll 101 = .ok (.aload_n 0, 1) := by decide +kernel
theorem dX6_passesAll_102 : decode cX6_passesAll 102 = .ok (.aload_n 0, 1) := by decide +kernel
theorem dX6_passesAll_103 : decode cX6_passesAll 103 = .ok (.aload_n 0, 1) := by decide +kernel
theorem dX6_passesAll_104 : decode cX6_passesAll 104 = .ok (.getfield 102, 3) := by decide +kernel
theorem dX6_passesAll_107 : decode cX6_passesAll 107 = .ok (.invokevirtual 235, 3) := by decide +kernel
theorem dX6_passesAll_110 : decode cX6_passesAll 110 = .ok (.putfield 102, 3) := by decide +kernel
theorem dX6_passesAll_113 : decode cX6_passesAll 113 = .ok (.aload_n 0, 1) := by decide +kernel
theorem dX6_passesAll_114 : decode cX6_passesAll 114 = .ok (.aload_n 0, 1) := by decide +kernel
theorem dX6_passesAll_115 : decode cX6_passesAll 115 = .ok (.aload_n 0, 1) := by decide +kernel
theorem dX6_passesAll_116 : decode cX6_passesAll 116 = .ok (.getfield 116, 3) := by decide +kernel
theorem dX6_passesAll_119 : decode cX6_passesAll 119 = .ok (.invokevirtual 235, 3) := by decide +kernel
theorem dX6_passesAll_122 : decode cX6_passesAll 122 = .ok (.putfield 116, 3) := by decide +kernel
theorem dX6_passesAll_125 : decode cX6_passesAll 125 = .ok (.aload_n 0, 1) := by decide +kernel
theorem dX6_passesAll_126 : decode cX6_passesAll 126 = .ok (.aload_n 0, 1) := by decide +kernel
theorem dX6_passesAll_127 : decode cX6_passesAll 127 = .ok (.aload_n 0, 1) := by decide +kernel
theorem dX6_passesAll_128 : decode cX6_passesAll 128 = .ok (.getfield 86, 3) := by decide +kernel
theorem dX6_passesAll_131 : decode cX6_passesAll 131 = .ok (.invokevirtual 235, 3) := by decide +kernel
theorem dX6_passesAll_134 : decode cX6_passesAll 134 = .ok (.putfield 86, 3) := by decide +kernel
theorem dX6_passesAll_137 : decode cX6_passesAll 137 = .ok (.aload_n 0, 1) := by decide +kernel
theorem dX6_passesAll_138 : decode cX6_passesAll 138 = .ok (.aload_n 0, 1) := by decide +kernel
theorem dX6_passesAll_139 : decode cX6_passesAll 139 = .ok (.aload_n 0, 1) := by decide +kernel
theorem dX6_passesAll_140 : decode cX6_passesAll 140 = .ok (.getfield 83, 3) := by decide +kernel
theorem dX6_passesAll_143 : decode cX6_passesAll 143 = .ok (.invokevirtual 235, 3) := by decide +kernel
theorem dX6_passesAll_146 : decode cX6_passesAll 146 = .ok (.putfield 83, 3) := by decide +kernel
theorem dX6_passesAll_149 : decode cX6_passesAll 149 = .ok (.return_, 1) := by decide +kernel
set_option maxRecDepth 20000 in
theorem ggX6_image_X6_passesAll : GoodIn wsX6_image wsX6_passesAll := goodIn_r _ [8, 9, 10, 11, 12, 13, 14, 15, 16, 17, 18, 19, 3, 20, 21, 22, 23, 24, 25, 26, 7, 27, 1, 28, 29, 30, 31, 32, 33, 34, 35, 36, 37, 38, 39, 40, 41, 42, 43, 44, 45, 46, 47, 48, 49, 50, 51, 52, 53, 54, 55, 56, 57, 58, 59, 60, 61, 62, 63] (by decide +kernel) (by decide +kernel)
set_option maxRecDepth 20000 in
theorem gX6_image_X6_passesAll : GoodIn wsX6_image (wsV RX6 241 RX6 yX6_passesAll wsX6_passesAll) := goodIn_app (goodIn_of _ (by decide +kernel)) ggX6_image_X6_passesAll
theorem dX6_image_0 : decode cX6_image 0 = .ok (.aload_n 0, 1) := by decide +kernel
theorem dX6_image_1 : decode cX6_image 1 = .ok (.iconst 1, 1) := by decide +kernel
theorem dX6_image_2 : decode cX6_image 2 = .ok (.putfield 224, 3) := by decide +kernel
theorem dX6_image_5 : decode cX6_image 5 = .ok (.aload_n 0, 1) := by decide +kernel
theorem dX6_image_6 : decode cX6_image 6 = .ok (.iconst 1, 1) := by decide +kernel
theorem dX6_image_7 : decode cX6_image 7 = .ok (.putfield 238, 3) := by decide +kernel
theorem dX6_image_10 : decode cX6_image 10 = .ok (.aload_n 0, 1) := by decide +kernel
theorem dX6_image_11 : decode cX6_image 11 = .ok (.invokevirtual 241, 3) := by decide +kernel
theorem dX6_image_14 : decode cX6_image 14 = .ok (.aload_n 0, 1) := by decide +kernel
theorem dX6_image_15 : decode cX6_image 15 = .ok (.getfield 72, 3) := by decide +kernel
theorem dX6_image_18 : decode cX6_image 18 = .ok (.ireturn, 1) := by decide +kernel
set_option maxRecDepth 20000 in
theorem ggX6_restore_X6_no : GoodIn wsX6_restore wsX6_no := goodIn_r _ [8, 9, 38, 39, 40, 41, 42, 43, 44, 45, 46, 47, 48, 49, 50, 51, 52, 53, 54, 55, 56, 57, 58, 59, 60, 61, 62, 63, 64, 65, 66, 67, 68] (by decide +kernel) (by decide +kernel)
set_option maxRecDepth 20000 in
theorem gX6_restore_X6_no : GoodIn wsX6_restore (wsV RX6 79 RX6 yX6_no wsX6_no) := goodIn_app (goodIn_of _ (by decide +kernel)) ggX6_restore_X6_no
set_option maxRecDepth 20000 in
theorem ggX6_restore_X6_passesAll : GoodIn wsX6_restore wsX6_passesAll := goodIn_r _ [13, 14, 15, 16, 17, 18, 19, 20, 21, 22, 23, 24, 3, 25, 26, 27, 28, 29, 30, 31, 7, 32, 2, 33, 34, 35, 36, 37, 38, 39, 40, 41, 42, 43, 44, 45, 46, 47, 48, 49, 50, 51, 52, 53, 54, 55, 56, 57, 58, 59, 60, 61, 62, 63, 64, 65, 66, 67, 68] (by decide +kernel) (by decide +kernel)
set_option maxRecDepth 20000 in
theorem gX6_restore_X6_passesAll : GoodIn wsX6_restore (wsV RX6 241 RX6 yX6_passesAll wsX6_passesAll) := goodIn_app (goodIn_of _ (by decide +kernel)) ggX6_restore_X6_passesAll
theorem dX6_restore_0 : decode cX6_restore 0 = .ok (.aload_n 0, 1) := by decide +kernel
theorem dX6_restore_1 : decode cX6_restore 1 = .ok (.getfield 238, 3) := by decide +kernel
theorem dX6_restore_4 : decode cX6_restore 4 = .ok (.ifCond .ne 10, 3) := by decide +kernel
theorem dX6_restore_7 : decode cX6_restore 7 = .ok (.aload_n 0, 1) := by decide +kernel
theorem dX6_restore_8 : decode cX6_restore 8 = .ok (.bipush (-3), 2) := by decide +kernel
theorem dX6_restore_10 : decode cX6_restore 10 = .ok (.invokevirtual 79, 3) := by decide +kernel
theorem dX6_restore_13 : decode cX6_restore 13 = .ok (.ireturn, 1) := by decide +kernel
theorem dX6_restore_14 : decode cX6_restore 14 = .ok (.aload_n 0, 1) := by decide +kernel
theorem dX6_restore_15 : decode cX6_restore 15 = .ok (.iconst 0, 1) := by decide +kernel
theorem dX6_restore_16 : decode cX6_restore 16 = .ok (.putfield 224, 3) := by decide +kernel
theorem dX6_restore_19 : decode cX6_restore 19 = .ok (.aload_n 0, 1) := by decide +kernel
theorem dX6_restore_20 : decode cX6_restore 20 = .ok (.invokevirtual 241, 3) := by decide +kernel
theorem dX6_restore_23 : decode cX6_restore 23 = .ok (.aload_n 0, 1) := by decide +kernel
theorem dX6_restore_24 : decode cX6_restore 24 = .ok (.getfield 72, 3) := by decide +kernel
theorem dX6_restore_27 : decode cX6_restore 27 = .ok (.ireturn, 1) := by decide +kernel
set_option maxRecDepth 20000 in
theorem ggX6_count_X6_isIn : GoodIn wsX6_count wsX6_isIn := goodIn_r _ [13] (by decide +kernel) (by decide +kernel)
set_option maxRecDepth 20000 in
theorem gX6_count_X6_isIn : GoodIn wsX6_count (va_wsS RX6 159 yX6_isIn wsX6_isIn) := goodIn_app (goodIn_of _ (by decide +kernel)) ggX6_count_X6_isIn
set_option maxRecDepth 20000 in
theorem ggX6_count_X6_overSet : GoodIn wsX6_count wsX6_overSet := goodIn_r _ [17, 3, 18, 22, 23, 24, 25, 26, 27, 28, 29, 30, 31, 32, 33, 34, 35, 36, 37, 38, 39, 40, 41, 42, 43, 44, 45, 46, 47, 48, 49, 50, 51, 52] (by decide +kernel) (by decide +kernel)
set_option maxRecDepth 20000 in
theorem gX6_count_X6_overSet : GoodIn wsX6_count (wsV RX6 170 RX6 yX6_overSet wsX6_overSet) := goodIn_app (goodIn_of _ (by decide +kernel)) ggX6_count_X6_overSet
set_option maxRecDepth 20000 in
theorem ggX6_count_X6_bits : GoodIn wsX6_count wsX6_bits := goodIn_r _ [21] (by decide +kernel) (by decide +kernel)
set_option maxRecDepth 20000 in
theorem gX6_count_X6_bits : GoodIn wsX6_count (va_wsS RX6 176 yX6_bits wsX6_bits) := goodIn_app (goodIn_of _ (by decide +kernel)) ggX6_count_X6_bits
theorem dX6_count_0 : decode cX6_count 0 = .ok (.iload_n 1, 1) := by decide +kernel
theorem dX6_count_1 : decode cX6_count 1 = .ok (.bipush 11, 2) := by decide +kernel
theorem dX6_count_3 : decode cX6_count 3 = .ok (.bipush 16, 2) := by decide +kernel
theorem dX6_count_5 : decode cX6_count 5 = .ok (.invokestatic 159, 3) := by decide +kernel
theorem dX6_count_8 : decode cX6_count 8 = .ok (.ifCond .eq 13, 3) := by decide +kernel
theorem dX6_count_11 : decode cX6_count 11 = .ok (.aload_n 0, 1) := by decide +kernel
theorem dX6_count_12 : decode cX6_count 12 = .ok (.getfield 7, 3) := by decide +kernel
theorem dX6_count_15 : decode cX6_count 15 = .ok (.iload_n 1, 1) := by decide +kernel
theorem dX6_count_16 : decode cX6_count 16 = .ok (.bipush 10, 2) := by decide +kernel
theorem dX6_count_18 : decode cX6_count 18 = .ok (.isub, 1) := by decide +kernel
theorem dX6_count_19 : decode cX6_count 19 = .ok (.iaload, 1) := by decide +kernel
theorem dX6_count_20 : decode cX6_count 20 = .ok (.ireturn, 1) := by decide +kernel
theorem dX6_count_21 : decode cX6_count 21 = .ok (.iconst 0, 1) := by decide +kernel
theorem dX6_count_22 : decode cX6_count 22 = .ok (.istore_n 2, 1) := by decide +kernel
theorem dX6_count_23 : decode cX6_count 23 = .ok (.iload_n 1, 1) := by decide +kernel
theorem dX6_count_24 : decode cX6_count 24 = .ok (.tableswitch 122 0 8 #[52, 57, 62, 67, 72, 77, 82, 112, 117], 52) := by decide +kernel
theorem dX6_count_76 : decode cX6_count 76 = .ok (.aload_n 0, 1) := by decide +kernel
theorem dX6_count_77 : decode cX6_count 77 = .ok (.getfield 40, 3) := by decide +kernel
theorem dX6_count_80 : decode cX6_count 80 = .ok (.ireturn, 1) := by decide +kernel
theorem dX6_count_81 : decode cX6_count 81 = .ok (.aload_n 0, 1) := by decide +kernel
theorem dX6_count_82 : decode cX6_count 82 = .ok (.getfield 72, 3) := by decide +kernel
theorem dX6_count_85 : decode cX6_count 85 = .ok (.ireturn, 1) := by decide +kernel
theorem dX6_count_86 : decode cX6_count 86 = .ok (.aload_n 0, 1) := by decide +kernel
theorem dX6_count_87 : decode cX6_count 87 = .ok (.invokevirtual 170, 3) := by decide +kernel
theorem dX6_count_90 : decode cX6_count 90 = .ok (.ireturn, 1) := by decide +kernel
theorem dX6_count_91 : decode cX6_count 91 = .ok (.aload_n 0, 1) := by decide +kernel
theorem dX6_count_92 : decode cX6_count 92 = .ok (.getfield 102, 3) := by decide +kernel
theorem dX6_count_95 : decode cX6_count 95 = .ok (.ireturn, 1) := by decide +kernel
theorem dX6_count_96 : decode cX6_count 96 = .ok (.aload_n 0, 1) := by decide +kernel
theorem dX6_count_97 : decode cX6_count 97 = .ok (.getfield 116, 3) := by decide +kernel
theorem dX6_count_100 : decode cX6_count 100 = .ok (.ireturn, 1) := by decide +kernel
theorem dX6_count_101 : decode cX6_count 101 = .ok (.aload_n 0, 1) := by decide +kernel
theorem dX6_count_102 : decode cX6_count 102 = .ok (.getfield 86, 3) := by decide +kernel
theorem dX6_count_105 : decode cX6_count 105 = .ok (.ireturn, 1) := by decide +kernel
theorem dX6_count_106 : decode cX6_count 106 = .ok (.iconst 0, 1) := by decide +kernel
theorem dX6_count_107 : decode cX6_count 107 = .ok (.istore_n 3, 1) := by decide +kernel
theorem dX6_count_108 : decode cX6_count 108 = .ok (.iload_n 3, 1) := by decide +kernel
theorem dX6_count_109 : decode cX6_count 109 = .ok (.aload_n 0, 1) := by decide +kernel
theorem dX6_count_110 : decode cX6_count 110 = .ok (.getfield 72, 3) := by decide +kernel
theorem dX6_count_113 : decode cX6_count 113 = .ok (.if_icmp .ge 21, 3) := by decide +kernel
theorem dX6_count_116 : decode cX6_count 116 = .ok (.iload_n 2, 1) := by decide +kernel
theorem dX6_count_117 : decode cX6_count 117 = .ok (.aload_n 0, 1) := by decide +kernel
theorem dX6_count_118 : decode cX6_count 118 = .ok (.getfield 13, 3) := by decide +kernel
theorem dX6_count_121 : decode cX6_count 121 = .ok (.iload_n 3, 1) := by decide +kernel
