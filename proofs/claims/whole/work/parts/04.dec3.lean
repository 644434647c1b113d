theorem dX4_leastOf_4 : decode cX4_leastOf 4 = .ok (.istore 6, 2) := by decide +kernel
theorem dX4_leastOf_6 : decode cX4_leastOf 6 = .ok (.iload 6, 2) := by decide +kernel
theorem dX4_leastOf_8 : decode cX4_leastOf 8 = .ok (.aload_n 0, 1) := by decide +kernel
theorem dX4_leastOf_9 : decode cX4_leastOf 9 = .ok (.getfield 7, 3) := by decide +kernel
theorem dX4_leastOf_12 : decode cX4_leastOf 12 = .ok (.iconst 0, 1) := by decide +kernel
theorem dX4_leastOf_13 : decode cX4_leastOf 13 = .ok (.iaload, 1) := by decide +kernel
theorem dX4_leastOf_14 : decode cX4_leastOf 14 = .ok (.if_icmp .ge 83, 3) := by decide +kernel
theorem dX4_leastOf_17 : decode cX4_leastOf 17 = .ok (.aload_n 0, 1) := by decide +kernel
theorem dX4_leastOf_18 : decode cX4_leastOf 18 = .ok (.getfield 17, 3) := by decide +kernel
theorem dX4_leastOf_21 : decode cX4_leastOf 21 = .ok (.iload 6, 2) := by decide +kernel
theorem dX4_leastOf_23 : decode cX4_leastOf 23 = .ok (.iaload, 1) := by decide +kernel
theorem dX4_leastOf_24 : decode cX4_leastOf 24 = .ok (.iload_n 1, 1) := by decide +kernel
theorem dX4_leastOf_25 : decode cX4_leastOf 25 = .ok (.if_icmp .ne 33, 3) := by decide +kernel
theorem dX4_leastOf_28 : decode cX4_leastOf 28 = .ok (.aload_n 0, 1) := by decide +kernel
theorem dX4_leastOf_29 : decode cX4_leastOf 29 = .ok (.getfield 27, 3) := by decide +kernel
theorem dX4_leastOf_32 : decode cX4_leastOf 32 = .ok (.iload 6, 2) := by decide +kernel
theorem dX4_leastOf_34 : decode cX4_leastOf 34 = .ok (.laload, 1) := by decide +kernel
theorem dX4_leastOf_35 : decode cX4_leastOf 35 = .ok (.lload_n 3, 1) := by decide +kernel
theorem dX4_leastOf_36 : decode cX4_leastOf 36 = .ok (.lcmp, 1) := by decide +kernel
theorem dX4_leastOf_37 : decode cX4_leastOf 37 = .ok (.ifCond .gt 21, 3) := by decide +kernel
theorem dX4_leastOf_40 : decode cX4_leastOf 40 = .ok (.aload_n 0, 1) := by decide +kernel
theorem dX4_leastOf_41 : decode cX4_leastOf 41 = .ok (.getfield 13, 3) := by decide +kernel
theorem dX4_leastOf_44 : decode cX4_leastOf 44 = .ok (.iload 6, 2) := by decide +kernel
theorem dX4_leastOf_46 : decode cX4_leastOf 46 = .ok (.baload, 1) := by decide +kernel
theorem dX4_leastOf_47 : decode cX4_leastOf 47 = .ok (.ifCond .ne 7, 3) := by decide +kernel
theorem dX4_leastOf_50 : decode cX4_leastOf 50 = .ok (.iload_n 2, 1) := by decide +kernel
theorem dX4_leastOf_51 : decode cX4_leastOf 51 = .ok (.ifCond .ne 7, 3) := by decide +kernel
theorem dX4_leastOf_54 : decode cX4_leastOf 54 = .ok (.iconst 1, 1) := by decide +kernel
theorem dX4_leastOf_55 : decode cX4_leastOf 55 = .ok (.goto 4, 3) := by decide +kernel
theorem dX4_leastOf_58 : decode cX4_leastOf 58 = .ok (.iconst 0, 1) := by decide +kernel
theorem dX4_leastOf_59 : decode cX4_leastOf 59 = .ok (.istore 7, 2) := by decide +kernel
theorem dX4_leastOf_61 : decode cX4_leastOf 61 = .ok (.iload 7, 2) := by decide +kernel
theorem dX4_leastOf_63 : decode cX4_leastOf 63 = .ok (.ifCond .eq 24, 3) := by decide +kernel
theorem dX4_leastOf_66 : decode cX4_leastOf 66 = .ok (.iload 5, 2) := by decide +kernel
theorem dX4_leastOf_68 : decode cX4_leastOf 68 = .ok (.ifCond .lt 14, 3) := by decide +kernel
theorem dX4_leastOf_71 : decode cX4_leastOf 71 = .ok (.aload_n 0, 1) := by decide +kernel
theorem dX4_leastOf_72 : decode cX4_leastOf 72 = .ok (.iload 6, 2) := by decide +kernel
theorem dX4_leastOf_74 : decode cX4_leastOf 74 = .ok (.iload 5, 2) := by decide +kernel
theorem dX4_leastOf_76 : decode cX4_leastOf 76 = .ok (.invokevirtual 106, 3) := by decide +kernel
theorem dX4_leastOf_79 : decode cX4_leastOf 79 = .ok (.ifCond .eq 8, 3) := by decide +kernel
theorem dX4_leastOf_82 : decode cX4_leastOf 82 = .ok (.iload 6, 2) := by decide +kernel
theorem dX4_leastOf_84 : decode cX4_leastOf 84 = .ok (.goto 5, 3) := by decide +kernel
theorem dX4_leastOf_87 : decode cX4_leastOf 87 = .ok (.iload 5, 2) := by decide +kernel
theorem dX4_leastOf_89 : decode cX4_leastOf 89 = .ok (.istore 5, 2) := by decide +kernel
theorem dX4_leastOf_91 : decode cX4_leastOf 91 = .ok (.iinc 6 1, 3) := by decide +kernel
theorem dX4_leastOf_94 : decode cX4_leastOf 94 = .ok (.goto (-88), 3) := by decide +kernel
theorem dX4_leastOf_97 : decode cX4_leastOf 97 = .ok (.iload 5, 2) := by decide +kernel
theorem dX4_leastOf_99 : decode cX4_leastOf 99 = .ok (.ireturn, 1) := by decide +kernel
set_option maxRecDepth 20000 in
theorem ggX4_pass_X4_isIn : GoodIn wsX4_pass wsX4_isIn := goodIn_r _ [19] (by decide +kernel) (by decide +kernel)
set_option maxRecDepth 20000 in
theorem gX4_pass_X4_isIn : GoodIn wsX4_pass (va_wsS RX4 76 yX4_isIn wsX4_isIn) := goodIn_app (goodIn_of _ (by decide +kernel)) ggX4_pass_X4_isIn
set_option maxRecDepth 20000 in
theorem ggX4_pass_X4_isGood : GoodIn wsX4_pass wsX4_isGood := goodIn_r _ [23, 24, 43, 44, 45, 46, 47, 48, 49, 50, 51, 52, 53, 54, 55, 56, 57, 58, 59, 60] (by decide +kernel) (by decide +kernel)
set_option maxRecDepth 20000 in
theorem gX4_pass_X4_isGood : GoodIn wsX4_pass (wsV RX4 90 RX4 yX4_isGood wsX4_isGood) := goodIn_app (goodIn_of _ (by decide +kernel)) ggX4_pass_X4_isGood
set_option maxRecDepth 20000 in
theorem ggX4_pass_X4_leastOf : GoodIn wsX4_pass wsX4_leastOf := goodIn_r _ [28, 29, 30, 11, 5, 31, 32, 33, 18, 34, 14, 9, 7, 43, 44, 45, 46, 47, 48, 49, 50, 51, 52, 53, 54, 55, 56, 57, 58, 59, 60] (by decide +kernel) (by decide +kernel)
set_option maxRecDepth 20000 in
theorem gX4_pass_X4_leastOf : GoodIn wsX4_pass (wsV RX4 110 RX4 yX4_leastOf wsX4_leastOf) := goodIn_app (goodIn_of _ (by decide +kernel)) ggX4_pass_X4_leastOf
set_option maxRecDepth 20000 in
theorem ggX4_pass_X4_take : GoodIn wsX4_pass wsX4_take := goodIn_r _ [38, 29, 39, 40, 41, 18, 42, 5, 30, 7, 9, 11, 15, 13, 43, 44, 45, 46, 47, 48, 49, 50, 51, 52, 53, 54, 55, 56, 57, 58, 59, 60] (by decide +kernel) (by decide +kernel)
set_option maxRecDepth 20000 in
theorem gX4_pass_X4_take : GoodIn wsX4_pass (wsV RX4 102 RX4 yX4_take wsX4_take) := goodIn_app (goodIn_of _ (by decide +kernel)) ggX4_pass_X4_take
theorem dX4_pass_0 : decode cX4_pass 0 = .ok (.aload_n 0, 1) := by decide +kernel
theorem dX4_pass_1 : decode cX4_pass 1 = .ok (.iload_n 1, 1) := by decide +kernel
theorem dX4_pass_2 : decode cX4_pass 2 = .ok (.i2l, 1) := by decide +kernel
theorem dX4_pass_3 : decode cX4_pass 3 = .ok (.lconst 0, 1) := by decide +kernel
theorem dX4_pass_4 : decode cX4_pass 4 = .ok (.lconst 1, 1) := by decide +kernel
theorem dX4_pass_5 : decode cX4_pass 5 = .ok (.invokestatic 76, 3) := by decide +kernel
theorem dX4_pass_8 : decode cX4_pass 8 = .ok (.ifCond .eq 25, 3) := by decide +kernel
theorem dX4_pass_11 : decode cX4_pass 11 = .ok (.lload_n 2, 1) := by decide +kernel
theorem dX4_pass_12 : decode cX4_pass 12 = .ok (.lconst 0, 1) := by decide +kernel
theorem dX4_pass_13 : decode cX4_pass 13 = .ok (.ldc2_w 80, 3) := by decide +kernel
theorem dX4_pass_16 : decode cX4_pass 16 = .ok (.invokestatic 76, 3) := by decide +kernel
theorem dX4_pass_19 : decode cX4_pass 19 = .ok (.ifCond .eq 14, 3) := by decide +kernel
theorem dX4_pass_22 : decode cX4_pass 22 = .ok (.lload_n 2, 1) := by decide +kernel
theorem dX4_pass_23 : decode cX4_pass 23 = .ok (.aload_n 0, 1) := by decide +kernel
theorem dX4_pass_24 : decode cX4_pass 24 = .ok (.getfield 36, 3) := by decide +kernel
theorem dX4_pass_27 : decode cX4_pass 27 = .ok (.iload_n 1, 1) := by decide +kernel
theorem dX4_pass_28 : decode cX4_pass 28 = .ok (.laload, 1) := by decide +kernel
theorem dX4_pass_29 : decode cX4_pass 29 = .ok (.lcmp, 1) := by decide +kernel
theorem dX4_pass_30 : decode cX4_pass 30 = .ok (.ifCond .ge 7, 3) := by decide +kernel
theorem dX4_pass_33 : decode cX4_pass 33 = .ok (.iconst 1, 1) := by decide +kernel
theorem dX4_pass_34 : decode cX4_pass 34 = .ok (.goto 4, 3) := by decide +kernel
theorem dX4_pass_37 : decode cX4_pass 37 = .ok (.iconst 0, 1) := by decide +kernel
theorem dX4_pass_38 : decode cX4_pass 38 = .ok (.invokevirtual 90, 3) := by decide +kernel
theorem dX4_pass_41 : decode cX4_pass 41 = .ok (.ifCond .ne 5, 3) := by decide +kernel
theorem dX4_pass_44 : decode cX4_pass 44 = .ok (.iconst 0, 1) := by decide +kernel
theorem dX4_pass_45 : decode cX4_pass 45 = .ok (.ireturn, 1) := by decide +kernel
theorem dX4_pass_46 : decode cX4_pass 46 = .ok (.aload_n 0, 1) := by decide +kernel
theorem dX4_pass_47 : decode cX4_pass 47 = .ok (.getfield 36, 3) := by decide +kernel
theorem dX4_pass_50 : decode cX4_pass 50 = .ok (.iload_n 1, 1) := by decide +kernel
theorem dX4_pass_51 : decode cX4_pass 51 = .ok (.lload_n 2, 1) := by decide +kernel
theorem dX4_pass_52 : decode cX4_pass 52 = .ok (.lastore, 1) := by decide +kernel
theorem dX4_pass_53 : decode cX4_pass 53 = .ok (.aload_n 0, 1) := by decide +kernel
theorem dX4_pass_54 : decode cX4_pass 54 = .ok (.iconst 0, 1) := by decide +kernel
theorem dX4_pass_55 : decode cX4_pass 55 = .ok (.putfield 69, 3) := by decide +kernel
theorem dX4_pass_58 : decode cX4_pass 58 = .ok (.aload_n 0, 1) := by decide +kernel
theorem dX4_pass_59 : decode cX4_pass 59 = .ok (.iload_n 1, 1) := by decide +kernel
theorem dX4_pass_60 : decode cX4_pass 60 = .ok (.iconst 0, 1) := by decide +kernel
theorem dX4_pass_61 : decode cX4_pass 61 = .ok (.lload_n 2, 1) := by decide +kernel
theorem dX4_pass_62 : decode cX4_pass 62 = .ok (.invokevirtual 110, 3) := by decide +kernel
theorem dX4_pass_65 : decode cX4_pass 65 = .ok (.istore 4, 2) := by decide +kernel
theorem dX4_pass_67 : decode cX4_pass 67 = .ok (.iload 4, 2) := by decide +kernel
theorem dX4_pass_69 : decode cX4_pass 69 = .ok (.ifCond .lt 193, 3) := by decide +kernel
theorem dX4_pass_72 : decode cX4_pass 72 = .ok (.aload_n 0, 1) := by decide +kernel
theorem dX4_pass_73 : decode cX4_pass 73 = .ok (.getfield 42, 3) := by decide +kernel
theorem dX4_pass_76 : decode cX4_pass 76 = .ok (.aload_n 0, 1) := by decide +kernel
theorem dX4_pass_77 : decode cX4_pass 77 = .ok (.getfield 69, 3) := by decide +kernel
theorem dX4_pass_80 : decode cX4_pass 80 = .ok (.aload_n 0, 1) := by decide +kernel
theorem dX4_pass_81 : decode cX4_pass 81 = .ok (.getfield 13, 3) := by decide +kernel
theorem dX4_pass_84 : decode cX4_pass 84 = .ok (.iload 4, 2) := by decide +kernel
theorem dX4_pass_86 : decode cX4_pass 86 = .ok (.baload, 1) := by decide +kernel
theorem dX4_pass_87 : decode cX4_pass 87 = .ok (.ifCond .eq 7, 3) := by decide +kernel
theorem dX4_pass_90 : decode cX4_pass 90 = .ok (.iconst 1, 1) := by decide +kernel
theorem dX4_pass_91 : decode cX4_pass 91 = .ok (.goto 4, 3) := by decide +kernel
theorem dX4_pass_94 : decode cX4_pass 94 = .ok (.iconst 0, 1) := by decide +kernel
theorem dX4_pass_95 : decode cX4_pass 95 = .ok (.iastore, 1) := by decide +kernel
theorem dX4_pass_96 : decode cX4_pass 96 = .ok (.aload_n 0, 1) := by decide +kernel
theorem dX4_pass_97 : decode cX4_pass 97 = .ok (.getfield 45, 3) := by decide +kernel
theorem dX4_pass_100 : decode cX4_pass 100 = .ok (.aload_n 0, 1) := by decide +kernel
theorem dX4_pass_101 : decode cX4_pass 101 = .ok (.getfield 69, 3) := by decide +kernel
theorem dX4_pass_104 : decode cX4_pass 104 = .ok (.aload_n 0, 1) := by decide +kernel
theorem dX4_pass_105 : decode cX4_pass 105 = .ok (.getfield 20, 3) := by decide +kernel
theorem dX4_pass_108 : decode cX4_pass 108 = .ok (.iload 4, 2) := by decide +kernel
theorem dX4_pass_110 : decode cX4_pass 110 = .ok (.iaload, 1) := by decide +kernel
theorem dX4_pass_111 : decode cX4_pass 111 = .ok (.iastore, 1) := by decide +kernel
theorem dX4_pass_112 : decode cX4_pass 112 = .ok (.aload_n 0, 1) := by decide +kernel
theorem dX4_pass_113 : decode cX4_pass 113 = .ok (.getfield 48, 3) := by decide +kernel
theorem dX4_pass_116 : decode cX4_pass 116 = .ok (.aload_n 0, 1) := by decide +kernel
theorem dX4_pass_117 : decode cX4_pass 117 = .ok (.getfield 69, 3) := by decide +kernel
theorem dX4_pass_120 : decode cX4_pass 120 = .ok (.aload_n 0, 1) := by decide +kernel
theorem dX4_pass_121 : decode cX4_pass 121 = .ok (.getfield 23, 3) := by decide +kernel
theorem dX4_pass_124 : decode cX4_pass 124 = .ok (.iload 4, 2) := by decide +kernel
theorem dX4_pass_126 : decode cX4_pass 126 = .ok (.laload, 1) := by decide +kernel
theorem dX4_pass_127 : decode cX4_pass 127 = .ok (.lastore, 1) := by decide +kernel
theorem dX4_pass_128 : decode cX4_pass 128 = .ok (.aload_n 0, 1) := by decide +kernel
theorem dX4_pass_129 : decode cX4_pass 129 = .ok (.getfield 51, 3) := by decide +kernel
theorem dX4_pass_132 : decode cX4_pass 132 = .ok (.aload_n 0, 1) := by decide +kernel
theorem dX4_pass_133 : decode cX4_pass 133 = .ok (.getfield 69, 3) := by decide +kernel
theorem dX4_pass_136 : decode cX4_pass 136 = .ok (.aload_n 0, 1) := by decide +kernel
theorem dX4_pass_137 : decode cX4_pass 137 = .ok (.getfield 27, 3) := by decide +kernel
theorem dX4_pass_140 : decode cX4_pass 140 = .ok (.iload 4, 2) := by decide +kernel
theorem dX4_pass_142 : decode cX4_pass 142 = .ok (.laload, 1) := by decide +kernel
theorem dX4_pass_143 : decode cX4_pass 143 = .ok (.lastore, 1) := by decide +kernel
theorem dX4_pass_144 : decode cX4_pass 144 = .ok (.aload_n 0, 1) := by decide +kernel
theorem dX4_pass_145 : decode cX4_pass 145 = .ok (.getfield 54, 3) := by decide +kernel
theorem dX4_pass_148 : decode cX4_pass 148 = .ok (.aload_n 0, 1) := by decide +kernel
theorem dX4_pass_149 : decode cX4_pass 149 = .ok (.getfield 69, 3) := by decide +kernel
theorem dX4_pass_152 : decode cX4_pass 152 = .ok (.aload_n 0, 1) := by decide +kernel
theorem dX4_pass_153 : decode cX4_pass 153 = .ok (.getfield 33, 3) := by decide +kernel
theorem dX4_pass_156 : decode cX4_pass 156 = .ok (.iload 4, 2) := by decide +kernel
theorem dX4_pass_158 : decode cX4_pass 158 = .ok (.iaload, 1) := by decide +kernel
theorem dX4_pass_159 : decode cX4_pass 159 = .ok (.iastore, 1) := by decide +kernel
theorem dX4_pass_160 : decode cX4_pass 160 = .ok (.aload_n 0, 1) := by decide +kernel
theorem dX4_pass_161 : decode cX4_pass 161 = .ok (.dup, 1) := by decide +kernel
theorem dX4_pass_162 : decode cX4_pass 162 = .ok (.getfield 69, 3) := by decide +kernel
theorem dX4_pass_165 : decode cX4_pass 165 = .ok (.iconst 1, 1) := by decide +kernel
theorem dX4_pass_166 : decode cX4_pass 166 = .ok (.iadd, 1) := by decide +kernel
theorem dX4_pass_167 : decode cX4_pass 167 = .ok (.putfield 69, 3) := by decide +kernel
theorem dX4_pass_170 : decode cX4_pass 170 = .ok (.aload_n 0, 1) := by decide +kernel
theorem dX4_pass_171 : decode cX4_pass 171 = .ok (.getfield 13, 3) := by decide +kernel
theorem dX4_pass_174 : decode cX4_pass 174 = .ok (.iload 4, 2) := by decide +kernel
theorem dX4_pass_176 : decode cX4_pass 176 = .ok (.baload, 1) := by decide +kernel
theorem dX4_pass_177 : decode cX4_pass 177 = .ok (.ifCond .eq 67, 3) := by decide +kernel
theorem dX4_pass_180 : decode cX4_pass 180 = .ok (.aload_n 0, 1) := by decide +kernel
theorem dX4_pass_181 : decode cX4_pass 181 = .ok (.getfield 33, 3) := by decide +kernel
theorem dX4_pass_184 : decode cX4_pass 184 = .ok (.iload 4, 2) := by decide +kernel
theorem dX4_pass_186 : decode cX4_pass 186 = .ok (.iaload, 1) := by decide +kernel
theorem dX4_pass_187 : decode cX4_pass 187 = .ok (.ifCond .le 57, 3) := by decide +kernel
theorem dX4_pass_190 : decode cX4_pass 190 = .ok (.aload_n 0, 1) := by decide +kernel
theorem dX4_pass_191 : decode cX4_pass 191 = .ok (.getfield 20, 3) := by decide +kernel
theorem dX4_pass_194 : decode cX4_pass 194 = .ok (.iload 4, 2) := by decide +kernel
theorem dX4_pass_196 : decode cX4_pass 196 = .ok (.aload_n 0, 1) := by decide +kernel
theorem dX4_pass_197 : decode cX4_pass 197 = .ok (.getfield 39, 3) := by decide +kernel
theorem dX4_pass_200 : decode cX4_pass 200 = .ok (.iconst 0, 1) := by decide +kernel
theorem dX4_pass_201 : decode cX4_pass 201 = .ok (.iaload, 1) := by decide +kernel
theorem dX4_pass_202 : decode cX4_pass 202 = .ok (.iastore, 1) := by decide +kernel
theorem dX4_pass_203 : decode cX4_pass 203 = .ok (.aload_n 0, 1) := by decide +kernel
theorem dX4_pass_204 : decode cX4_pass 204 = .ok (.getfield 39, 3) := by decide +kernel
theorem dX4_pass_207 : decode cX4_pass 207 = .ok (.iconst 0, 1) := by decide +kernel
theorem dX4_pass_208 : decode cX4_pass 208 = .ok (.dup2, 1) := by decide +kernel
theorem dX4_pass_209 : decode cX4_pass 209 = .ok (.iaload, 1) := by decide +kernel
theorem dX4_pass_210 : decode cX4_pass 210 = .ok (.iconst 1, 1) := by decide +kernel
theorem dX4_pass_211 : decode cX4_pass 211 = .ok (.iadd, 1) := by decide +kernel
theorem dX4_pass_212 : decode cX4_pass 212 = .ok (.iastore, 1) := by decide +kernel
theorem dX4_pass_213 : decode cX4_pass 213 = .ok (.aload_n 0, 1) := by decide +kernel
theorem dX4_pass_214 : decode cX4_pass 214 = .ok (.getfield 27, 3) := by decide +kernel
theorem dX4_pass_217 : decode cX4_pass 217 = .ok (.iload 4, 2) := by decide +kernel
theorem dX4_pass_219 : decode cX4_pass 219 = .ok (.dup2, 1) := by decide +kernel
theorem dX4_pass_220 : decode cX4_pass 220 = .ok (.laload, 1) := by decide +kernel
theorem dX4_pass_221 : decode cX4_pass 221 = .ok (.aload_n 0, 1) := by decide +kernel
theorem dX4_pass_222 : decode cX4_pass 222 = .ok (.getfield 30, 3) := by decide +kernel
theorem dX4_pass_225 : decode cX4_pass 225 = .ok (.iload 4, 2) := by decide +kernel
theorem dX4_pass_227 : decode cX4_pass 227 = .ok (.laload, 1) := by decide +kernel
theorem dX4_pass_228 : decode cX4_pass 228 = .ok (.ladd, 1) := by decide +kernel
theorem dX4_pass_229 : decode cX4_pass 229 = .ok (.lastore, 1) := by decide +kernel
theorem dX4_pass_230 : decode cX4_pass 230 = .ok (.aload_n 0, 1) := by decide +kernel
theorem dX4_pass_231 : decode cX4_pass 231 = .ok (.getfield 33, 3) := by decide +kernel
theorem dX4_pass_234 : decode cX4_pass 234 = .ok (.iload 4, 2) := by decide +kernel
theorem dX4_pass_236 : decode cX4_pass 236 = .ok (.dup2, 1) := by decide +kernel
theorem dX4_pass_237 : decode cX4_pass 237 = .ok (.iaload, 1) := by decide +kernel
theorem dX4_pass_238 : decode cX4_pass 238 = .ok (.iconst 1, 1) := by decide +kernel
theorem dX4_pass_239 : decode cX4_pass 239 = .ok (.isub, 1) := by decide +kernel
theorem dX4_pass_240 : decode cX4_pass 240 = .ok (.iastore, 1) := by decide +kernel
theorem dX4_pass_241 : decode cX4_pass 241 = .ok (.goto 9, 3) := by decide +kernel
theorem dX4_pass_244 : decode cX4_pass 244 = .ok (.aload_n 0, 1) := by decide +kernel
theorem dX4_pass_245 : decode cX4_pass 245 = .ok (.iload 4, 2) := by decide +kernel
theorem dX4_pass_247 : decode cX4_pass 247 = .ok (.invokevirtual 102, 3) := by decide +kernel
theorem dX4_pass_250 : decode cX4_pass 250 = .ok (.aload_n 0, 1) := by decide +kernel
theorem dX4_pass_251 : decode cX4_pass 251 = .ok (.iload_n 1, 1) := by decide +kernel
theorem dX4_pass_252 : decode cX4_pass 252 = .ok (.iconst 0, 1) := by decide +kernel
theorem dX4_pass_253 : decode cX4_pass 253 = .ok (.lload_n 2, 1) := by decide +kernel
theorem dX4_pass_254 : decode cX4_pass 254 = .ok (.invokevirtual 110, 3) := by decide +kernel
theorem dX4_pass_257 : decode cX4_pass 257 = .ok (.istore 4, 2) := by decide +kernel
theorem dX4_pass_259 : decode cX4_pass 259 = .ok (.goto (-192), 3) := by decide +kernel
theorem dX4_pass_262 : decode cX4_pass 262 = .ok (.aload_n 0, 1) := by decide +kernel
theorem dX4_pass_263 : decode cX4_pass 263 = .ok (.getfield 69, 3) := by decide +kernel
theorem dX4_pass_266 : decode cX4_pass 266 = .ok (.ireturn, 1) := by decide +kernel
set_option maxRecDepth 20000 in
theorem ggX4_done_X4_isIn : GoodIn wsX4_done wsX4_isIn := goodIn_r _ [11] (by decide +kernel) (by decide +kernel)
set_option maxRecDepth 20000 in
theorem gX4_done_X4_isIn : GoodIn wsX4_done (va_wsS RX4 76 yX4_isIn wsX4_isIn) := goodIn_app (goodIn_of _ (by decide +kernel)) ggX4_done_X4_isIn
set_option maxRecDepth 20000 in
theorem ggX4_done_X4_isGood : GoodIn wsX4_done wsX4_isGood := goodIn_r _ [15, 16, 17, 18, 19, 20, 21, 22, 23, 24, 25, 26, 27, 28, 29, 30, 31, 32, 33, 34] (by decide +kernel) (by decide +kernel)
set_option maxRecDepth 20000 in
theorem gX4_done_X4_isGood : GoodIn wsX4_done (wsV RX4 90 RX4 yX4_isGood wsX4_isGood) := goodIn_app (goodIn_of _ (by decide +kernel)) ggX4_done_X4_isGood
theorem dX4_done_0 : decode cX4_done 0 = .ok (.aload_n 0, 1) := by decide +kernel
theorem dX4_done_1 : decode cX4_done 1 = .ok (.iload_n 2, 1) := by decide +kernel
theorem dX4_done_2 : decode cX4_done 2 = .ok (.i2l, 1) := by decide +kernel
theorem dX4_done_3 : decode cX4_done 3 = .ok (.lconst 0, 1) := by decide +kernel
theorem dX4_done_4 : decode cX4_done 4 = .ok (.ldc2_w 114, 3) := by decide +kernel
theorem dX4_done_7 : decode cX4_done 7 = .ok (.invokestatic 76, 3) := by decide +kernel
theorem dX4_done_10 : decode cX4_done 10 = .ok (.ifCond .ne 7, 3) := by decide +kernel
theorem dX4_done_13 : decode cX4_done 13 = .ok (.iconst 1, 1) := by decide +kernel
theorem dX4_done_14 : decode cX4_done 14 = .ok (.goto 24, 3) := by decide +kernel
theorem dX4_done_17 : decode cX4_done 17 = .ok (.iload_n 1, 1) := by decide +kernel
theorem dX4_done_18 : decode cX4_done 18 = .ok (.i2l, 1) := by decide +kernel
theorem dX4_done_19 : decode cX4_done 19 = .ok (.lconst 0, 1) := by decide +kernel
theorem dX4_done_20 : decode cX4_done 20 = .ok (.aload_n 0, 1) := by decide +kernel
theorem dX4_done_21 : decode cX4_done 21 = .ok (.getfield 69, 3) := by decide +kernel
theorem dX4_done_24 : decode cX4_done 24 = .ok (.iconst 1, 1) := by decide +kernel
theorem dX4_done_25 : decode cX4_done 25 = .ok (.isub, 1) := by decide +kernel
theorem dX4_done_26 : decode cX4_done 26 = .ok (.i2l, 1) := by decide +kernel
theorem dX4_done_27 : decode cX4_done 27 = .ok (.invokestatic 76, 3) := by decide +kernel
theorem dX4_done_30 : decode cX4_done 30 = .ok (.ifCond .ne 7, 3) := by decide +kernel
theorem dX4_done_33 : decode cX4_done 33 = .ok (.iconst 2, 1) := by decide +kernel
theorem dX4_done_34 : decode cX4_done 34 = .ok (.goto 4, 3) := by decide +kernel
theorem dX4_done_37 : decode cX4_done 37 = .ok (.iconst 0, 1) := by decide +kernel
theorem dX4_done_38 : decode cX4_done 38 = .ok (.invokevirtual 90, 3) := by decide +kernel
theorem dX4_done_41 : decode cX4_done 41 = .ok (.ifCond .ne 5, 3) := by decide +kernel
theorem dX4_done_44 : decode cX4_done 44 = .ok (.lconst 0, 1) := by decide +kernel
theorem dX4_done_45 : decode cX4_done 45 = .ok (.lreturn, 1) := by decide +kernel
theorem dX4_done_46 : decode cX4_done 46 = .ok (.iload_n 2, 1) := by decide +kernel
theorem dX4_done_47 : decode cX4_done 47 = .ok (.tableswitch 59 0 3 #[29, 37, 45, 52], 29) := by decide +kernel
theorem dX4_done_76 : decode cX4_done 76 = .ok (.aload_n 0, 1) := by decide +kernel
theorem dX4_done_77 : decode cX4_done 77 = .ok (.getfield 42, 3) := by decide +kernel
theorem dX4_done_80 : decode cX4_done 80 = .ok (.iload_n 1, 1) := by decide +kernel
theorem dX4_done_81 : decode cX4_done 81 = .ok (.iaload, 1) := by decide +kernel
theorem dX4_done_82 : decode cX4_done 82 = .ok (.i2l, 1) := by decide +kernel
theorem dX4_done_83 : decode cX4_done 83 = .ok (.lreturn, 1) := by decide +kernel
theorem dX4_done_84 : decode cX4_done 84 = .ok (.aload_n 0, 1) := by decide +kernel
theorem dX4_done_85 : decode cX4_done 85 = .ok (.getfield 45, 3) := by decide +kernel
theorem dX4_done_88 : decode cX4_done 88 = .ok (.iload_n 1, 1) := by decide +kernel
theorem dX4_done_89 : decode cX4_done 89 = .ok (.iaload, 1) := by decide +kernel
theorem dX4_done_90 : decode cX4_done 90 = .ok (.i2l, 1) := by decide +kernel
theorem dX4_done_91 : decode cX4_done 91 = .ok (.lreturn, 1) := by decide +kernel
theorem dX4_done_92 : decode cX4_done 92 = .ok (.aload_n 0, 1) := by decide +kernel
theorem dX4_done_93 : decode cX4_done 93 = .ok (.getfield 48, 3) := by decide +kernel
theorem dX4_done_96 : decode cX4_done 96 = .ok (.iload_n 1, 1) := by decide +kernel
theorem dX4_done_97 : decode cX4_done 97 = .ok (.laload, 1) := by decide +kernel
theorem dX4_done_98 : decode cX4_done 98 = .ok (.lreturn, 1) := by decide +kernel
theorem dX4_done_99 : decode cX4_done 99 = .ok (.aload_n 0, 1) := by decide +kernel
theorem dX4_done_100 : decode cX4_done 100 = .ok (.getfield 51, 3) := by decide +kernel
theorem dX4_done_103 : decode cX4_done 103 = .ok (.iload_n 1, 1) := by decide +kernel
theorem dX4_done_104 : decode cX4_done 104 = .ok (.laload, 1) := by decide +kernel
theorem dX4_done_105 : decode cX4_done 105 = .ok (.lreturn, 1) := by decide +kernel
theorem dX4_done_106 : decode cX4_done 106 = .ok (.aload_n 0, 1) := by decide +kernel
theorem dX4_done_107 : decode cX4_done 107 = .ok (.getfield 54, 3) := by decide +kernel
theorem dX4_done_110 : decode cX4_done 110 = .ok (.iload_n 1, 1) := by decide +kernel
theorem dX4_done_111 : decode cX4_done 111 = .ok (.iaload, 1) := by decide +kernel
theorem dX4_done_112 : decode cX4_done 112 = .ok (.i2l, 1) := by decide +kernel
theorem dX4_done_113 : decode cX4_done 113 = .ok (.lreturn, 1) := by decide +kernel
set_option maxRecDepth 20000 in
theorem ggX4_told_X4_find : GoodIn wsX4_told wsX4_find := goodIn_r _ [11, 12, 13, 14, 23, 24, 25, 26, 27, 28, 29, 30, 31, 32, 33, 34, 35, 36, 37, 38, 39, 40] (by decide +kernel) (by decide +kernel)
set_option maxRecDepth 20000 in
theorem gX4_told_X4_find : GoodIn wsX4_told (wsV RX4 98 RX4 yX4_find wsX4_find) := goodIn_app (goodIn_of _ (by decide +kernel)) ggX4_told_X4_find
set_option maxRecDepth 20000 in
theorem ggX4_told_X4_isIn : GoodIn wsX4_told wsX4_isIn := goodIn_r _ [17] (by decide +kernel) (by decide +kernel)
set_option maxRecDepth 20000 in
theorem gX4_told_X4_isIn : GoodIn wsX4_told (va_wsS RX4 76 yX4_isIn wsX4_isIn) := goodIn_app (goodIn_of _ (by decide +kernel)) ggX4_told_X4_isIn
set_option maxRecDepth 20000 in
theorem ggX4_told_X4_isGood : GoodIn wsX4_told wsX4_isGood := goodIn_r _ [21, 22, 23, 24, 25, 26, 27, 28, 29, 30, 31, 32, 33, 34, 35, 36, 37, 38, 39, 40] (by decide +kernel) (by decide +kernel)
set_option maxRecDepth 20000 in
theorem gX4_told_X4_isGood : GoodIn wsX4_told (wsV RX4 90 RX4 yX4_isGood wsX4_isGood) := goodIn_app (goodIn_of _ (by decide +kernel)) ggX4_told_X4_isGood
theorem dX4_told_0 : decode cX4_told 0 = .ok (.aload_n 0, 1) := by decide +kernel
theorem dX4_told_1 : decode cX4_told 1 = .ok (.iload_n 1, 1) := by decide +kernel
theorem dX4_told_2 : decode cX4_told 2 = .ok (.invokevirtual 98, 3) := by decide +kernel
theorem dX4_told_5 : decode cX4_told 5 = .ok (.istore_n 3, 1) := by decide +kernel
theorem dX4_told_6 : decode cX4_told 6 = .ok (.aload_n 0, 1) := by decide +kernel
theorem dX4_told_7 : decode cX4_told 7 = .ok (.iload_n 2, 1) := by decide +kernel
theorem dX4_told_8 : decode cX4_told 8 = .ok (.i2l, 1) := by decide +kernel
theorem dX4_told_9 : decode cX4_told 9 = .ok (.lconst 0, 1) := by decide +kernel
theorem dX4_told_10 : decode cX4_told 10 = .ok (.ldc2_w 114, 3) := by decide +kernel
theorem dX4_told_13 : decode cX4_told 13 = .ok (.invokestatic 76, 3) := by decide +kernel
theorem dX4_told_16 : decode cX4_told 16 = .ok (.ifCond .ne 7, 3) := by decide +kernel
theorem dX4_told_19 : decode cX4_told 19 = .ok (.iconst 1, 1) := by decide +kernel
theorem dX4_told_20 : decode cX4_told 20 = .ok (.goto 12, 3) := by decide +kernel
theorem dX4_told_23 : decode cX4_told 23 = .ok (.iload_n 3, 1) := by decide +kernel
theorem dX4_told_24 : decode cX4_told 24 = .ok (.ifCond .ge 7, 3) := by decide +kernel
theorem dX4_told_27 : decode cX4_told 27 = .ok (.iconst 2, 1) := by decide +kernel
theorem dX4_told_28 : decode cX4_told 28 = .ok (.goto 4, 3) := by decide +kernel
theorem dX4_told_31 : decode cX4_told 31 = .ok (.iconst 0, 1) := by decide +kernel
theorem dX4_told_32 : decode cX4_told 32 = .ok (.invokevirtual 90, 3) := by decide +kernel
theorem dX4_told_35 : decode cX4_told 35 = .ok (.ifCond .ne 5, 3) := by decide +kernel
theorem dX4_told_38 : decode cX4_told 38 = .ok (.lconst 0, 1) := by decide +kernel
theorem dX4_told_39 : decode cX4_told 39 = .ok (.lreturn, 1) := by decide +kernel
theorem dX4_told_40 : decode cX4_told 40 = .ok (.iload_n 2, 1) := by decide +kernel
theorem dX4_told_41 : decode cX4_told 41 = .ok (.tableswitch 60 0 3 #[31, 39, 46, 53], 31) := by decide +kernel
theorem dX4_told_72 : decode cX4_told 72 = .ok (.aload_n 0, 1) := by decide +kernel
theorem dX4_told_73 : decode cX4_told 73 = .ok (.getfield 17, 3) := by decide +kernel
theorem dX4_told_76 : decode cX4_told 76 = .ok (.iload_n 3, 1) := by decide +kernel
theorem dX4_told_77 : decode cX4_told 77 = .ok (.iaload, 1) := by decide +kernel
theorem dX4_told_78 : decode cX4_told 78 = .ok (.i2l, 1) := by decide +kernel
theorem dX4_told_79 : decode cX4_told 79 = .ok (.lreturn, 1) := by decide +kernel
theorem dX4_told_80 : decode cX4_told 80 = .ok (.aload_n 0, 1) := by decide +kernel
theorem dX4_told_81 : decode cX4_told 81 = .ok (.getfield 23, 3) := by decide +kernel
theorem dX4_told_84 : decode cX4_told 84 = .ok (.iload_n 3, 1) := by decide +kernel
theorem dX4_told_85 : decode cX4_told 85 = .ok (.laload, 1) := by decide +kernel
theorem dX4_told_86 : decode cX4_told 86 = .ok (.lreturn, 1) := by decide +kernel
theorem dX4_told_87 : decode cX4_told 87 = .ok (.aload_n 0, 1) := by decide +kernel
theorem dX4_told_88 : decode cX4_told 88 = .ok (.getfield 27, 3) := by decide +kernel
theorem dX4_told_91 : decode cX4_told 91 = .ok (.iload_n 3, 1) := by decide +kernel
theorem dX4_told_92 : decode cX4_told 92 = .ok (.laload, 1) := by decide +kernel
theorem dX4_told_93 : decode cX4_told 93 = .ok (.lreturn, 1) := by decide +kernel
theorem dX4_told_94 : decode cX4_told 94 = .ok (.aload_n 0, 1) := by decide +kernel
theorem dX4_told_95 : decode cX4_told 95 = .ok (.getfield 30, 3) := by decide +kernel
theorem dX4_told_98 : decode cX4_told 98 = .ok (.iload_n 3, 1) := by decide +kernel
theorem dX4_told_99 : decode cX4_told 99 = .ok (.laload, 1) := by decide +kernel
theorem dX4_told_100 : decode cX4_told 100 = .ok (.lreturn, 1) := by decide +kernel
theorem dX4_told_101 : decode cX4_told 101 = .ok (.aload_n 0, 1) := by decide +kernel
theorem dX4_told_102 : decode cX4_told 102 = .ok (.getfield 33, 3) := by decide +kernel
theorem dX4_told_105 : decode cX4_told 105 = .ok (.iload_n 3, 1) := by decide +kernel
theorem dX4_told_106 : decode cX4_told 106 = .ok (.iaload, 1) := by decide +kernel
theorem dX4_told_107 : decode cX4_told 107 = .ok (.i2l, 1) := by decide +kernel
theorem dX4_told_108 : decode cX4_told 108 = .ok (.lreturn, 1) := by decide +kernel
set_option maxRecDepth 20000 in
theorem ggX4_next_X4_isIn : GoodIn wsX4_next wsX4_isIn := goodIn_r _ [6] (by decide +kernel) (by decide +kernel)
set_option maxRecDepth 20000 in
theorem gX4_next_X4_isIn : GoodIn wsX4_next (va_wsS RX4 76 yX4_isIn wsX4_isIn) := goodIn_app (goodIn_of _ (by decide +kernel)) ggX4_next_X4_isIn
set_option maxRecDepth 20000 in
theorem ggX4_next_X4_isGood : GoodIn wsX4_next wsX4_isGood := goodIn_r _ [10, 11, 26, 27, 28, 29, 30, 31, 32, 33, 34, 35, 36, 37, 38, 39, 40, 41, 42, 43] (by decide +kernel) (by decide +kernel)
set_option maxRecDepth 20000 in
theorem gX4_next_X4_isGood : GoodIn wsX4_next (wsV RX4 90 RX4 yX4_isGood wsX4_isGood) := goodIn_app (goodIn_of _ (by decide +kernel)) ggX4_next_X4_isGood
set_option maxRecDepth 20000 in
theorem ggX4_next_X4_leastOf : GoodIn wsX4_next wsX4_leastOf := goodIn_r _ [15, 16, 17, 18, 19, 20, 21, 22, 5, 23, 24, 25, 2, 26, 27, 28, 29, 30, 31, 32, 33, 34, 35, 36, 37, 38, 39, 40, 41, 42, 43] (by decide +kernel) (by decide +kernel)
set_option maxRecDepth 20000 in
theorem gX4_next_X4_leastOf : GoodIn wsX4_next (wsV RX4 110 RX4 yX4_leastOf wsX4_leastOf) := goodIn_app (goodIn_of _ (by decide +kernel)) ggX4_next_X4_leastOf
theorem dX4_next_0 : decode cX4_next 0 = .ok (.aload_n 0, 1) := by decide +kernel
theorem dX4_next_1 : decode cX4_next 1 = .ok (.iload_n 1, 1) := by decide +kernel
theorem dX4_next_2 : decode cX4_next 2 = .ok (.i2l, 1) := by decide +kernel
theorem dX4_next_3 : decode cX4_next 3 = .ok (.lconst 0, 1) := by decide +kernel
theorem dX4_next_4 : decode cX4_next 4 = .ok (.lconst 1, 1) := by decide +kernel
theorem dX4_next_5 : decode cX4_next 5 = .ok (.invokestatic 76, 3) := by decide +kernel
theorem dX4_next_8 : decode cX4_next 8 = .ok (.ifCond .eq 7, 3) := by decide +kernel
theorem dX4_next_11 : decode cX4_next 11 = .ok (.iconst 0, 1) := by decide +kernel
theorem dX4_next_12 : decode cX4_next 12 = .ok (.goto 4, 3) := by decide +kernel
theorem dX4_next_15 : decode cX4_next 15 = .ok (.iconst 1, 1) := by decide +kernel
theorem dX4_next_16 : decode cX4_next 16 = .ok (.invokevirtual 90, 3) := by decide +kernel
theorem dX4_next_19 : decode cX4_next 19 = .ok (.ifCond .ne 5, 3) := by decide +kernel
theorem dX4_next_22 : decode cX4_next 22 = .ok (.iconst 0, 1) := by decide +kernel
theorem dX4_next_23 : decode cX4_next 23 = .ok (.ireturn, 1) := by decide +kernel
theorem dX4_next_24 : decode cX4_next 24 = .ok (.aload_n 0, 1) := by decide +kernel
theorem dX4_next_25 : decode cX4_next 25 = .ok (.iload_n 1, 1) := by decide +kernel
theorem dX4_next_26 : decode cX4_next 26 = .ok (.iconst 1, 1) := by decide +kernel
theorem dX4_next_27 : decode cX4_next 27 = .ok (.ldc2_w 116, 3) := by decide +kernel
theorem dX4_next_30 : decode cX4_next 30 = .ok (.invokevirtual 110, 3) := by decide +kernel
theorem dX4_next_33 : decode cX4_next 33 = .ok (.istore_n 2, 1) := by decide +kernel
theorem dX4_next_34 : decode cX4_next 34 = .ok (.iload_n 2, 1) := by decide +kernel
theorem dX4_next_35 : decode cX4_next 35 = .ok (.ifCond .ge 7, 3) := by decide +kernel
theorem dX4_next_38 : decode cX4_next 38 = .ok (.iconst (-1), 1) := by decide +kernel
theorem dX4_next_39 : decode cX4_next 39 = .ok (.goto 9, 3) := by decide +kernel
theorem dX4_next_42 : decode cX4_next 42 = .ok (.aload_n 0, 1) := by decide +kernel
theorem dX4_next_43 : decode cX4_next 43 = .ok (.getfield 20, 3) := by decide +kernel
theorem dX4_next_46 : decode cX4_next 46 = .ok (.iload_n 2, 1) := by decide +kernel
theorem dX4_next_47 : decode cX4_next 47 = .ok (.iaload, 1) := by decide +kernel
theorem dX4_next_48 : decode cX4_next 48 = .ok (.ireturn, 1) := by decide +kernel
set_option maxRecDepth 20000 in
theorem ggX4_waiting_X4_isIn : GoodIn wsX4_waiting wsX4_isIn := goodIn_r _ [9] (by decide +kernel) (by decide +kernel)
set_option maxRecDepth 20000 in
theorem gX4_waiting_X4_isIn : GoodIn wsX4_waiting (va_wsS RX4 76 yX4_isIn wsX4_isIn) := goodIn_app (goodIn_of _ (by decide +kernel)) ggX4_waiting_X4_isIn
set_option maxRecDepth 20000 in
theorem ggX4_waiting_X4_isGood : GoodIn wsX4_waiting wsX4_isGood := goodIn_r _ [13, 14, 15, 16, 17, 18, 19, 20, 21, 22, 23, 24, 25, 26, 27, 28, 29, 30, 31, 32] (by decide +kernel) (by decide +kernel)
set_option maxRecDepth 20000 in
theorem gX4_waiting_X4_isGood : GoodIn wsX4_waiting (wsV RX4 90 RX4 yX4_isGood wsX4_isGood) := goodIn_app (goodIn_of _ (by decide +kernel)) ggX4_waiting_X4_isGood
theorem dX4_waiting_0 : decode cX4_waiting 0 = .ok (.aload_n 0, 1) := by decide +kernel
theorem dX4_waiting_1 : decode cX4_waiting 1 = .ok (.iload_n 1, 1) := by decide +kernel
theorem dX4_waiting_2 : decode cX4_waiting 2 = .ok (.i2l, 1) := by decide +kernel
theorem dX4_waiting_3 : decode cX4_waiting 3 = .ok (.lconst 0, 1) := by decide +kernel
theorem dX4_waiting_4 : decode cX4_waiting 4 = .ok (.lconst 1, 1) := by decide +kernel
theorem dX4_waiting_5 : decode cX4_waiting 5 = .ok (.invokestatic 76, 3) := by decide +kernel
theorem dX4_waiting_8 : decode cX4_waiting 8 = .ok (.ifCond .eq 15, 3) := by decide +kernel
theorem dX4_waiting_11 : decode cX4_waiting 11 = .ok (.lload 4, 2) := by decide +kernel
theorem dX4_waiting_13 : decode cX4_waiting 13 = .ok (.lload 6, 2) := by decide +kernel
theorem dX4_waiting_15 : decode cX4_waiting 15 = .ok (.lcmp, 1) := by decide +kernel
theorem dX4_waiting_16 : decode cX4_waiting 16 = .ok (.ifCond .gt 7, 3) := by decide +kernel
theorem dX4_waiting_19 : decode cX4_waiting 19 = .ok (.iconst 0, 1) := by decide +kernel
theorem dX4_waiting_20 : decode cX4_waiting 20 = .ok (.goto 4, 3) := by decide +kernel
theorem dX4_waiting_23 : decode cX4_waiting 23 = .ok (.iconst 1, 1) := by decide +kernel
theorem dX4_waiting_24 : decode cX4_waiting 24 = .ok (.invokevirtual 90, 3) := by decide +kernel
theorem dX4_waiting_27 : decode cX4_waiting 27 = .ok (.ifCond .ne 5, 3) := by decide +kernel
theorem dX4_waiting_30 : decode cX4_waiting 30 = .ok (.iconst 0, 1) := by decide +kernel
theorem dX4_waiting_31 : decode cX4_waiting 31 = .ok (.ireturn, 1) := by decide +kernel
theorem dX4_waiting_32 : decode cX4_waiting 32 = .ok (.iconst 0, 1) := by decide +kernel
theorem dX4_waiting_33 : decode cX4_waiting 33 = .ok (.istore 8, 2) := by decide +kernel
theorem dX4_waiting_35 : decode cX4_waiting 35 = .ok (.iconst 0, 1) := by decide +kernel
theorem dX4_waiting_36 : decode cX4_waiting 36 = .ok (.istore 9, 2) := by decide +kernel
theorem dX4_waiting_38 : decode cX4_waiting 38 = .ok (.iload 9, 2) := by decide +kernel
theorem dX4_waiting_40 : decode cX4_waiting 40 = .ok (.aload_n 0, 1) := by decide +kernel
theorem dX4_waiting_41 : decode cX4_waiting 41 = .ok (.getfield 7, 3) := by decide +kernel
theorem dX4_waiting_44 : decode cX4_waiting 44 = .ok (.iconst 0, 1) := by decide +kernel
theorem dX4_waiting_45 : decode cX4_waiting 45 = .ok (.iaload, 1) := by decide +kernel
theorem dX4_waiting_46 : decode cX4_waiting 46 = .ok (.if_icmp .ge 69, 3) := by decide +kernel
theorem dX4_waiting_49 : decode cX4_waiting 49 = .ok (.iload 8, 2) := by decide +kernel
theorem dX4_waiting_51 : decode cX4_waiting 51 = .ok (.aload_n 0, 1) := by decide +kernel
theorem dX4_waiting_52 : decode cX4_waiting 52 = .ok (.getfield 13, 3) := by decide +kernel
theorem dX4_waiting_55 : decode cX4_waiting 55 = .ok (.iload 9, 2) := by decide +kernel
theorem dX4_waiting_57 : decode cX4_waiting 57 = .ok (.baload, 1) := by decide +kernel
theorem dX4_waiting_58 : decode cX4_waiting 58 = .ok (.ifCond .eq 47, 3) := by decide +kernel
theorem dX4_waiting_61 : decode cX4_waiting 61 = .ok (.aload_n 0, 1) := by decide +kernel
theorem dX4_waiting_62 : decode cX4_waiting 62 = .ok (.getfield 17, 3) := by decide +kernel
theorem dX4_waiting_65 : decode cX4_waiting 65 = .ok (.iload 9, 2) := by decide +kernel
theorem dX4_waiting_67 : decode cX4_waiting 67 = .ok (.iaload, 1) := by decide +kernel
theorem dX4_waiting_68 : decode cX4_waiting 68 = .ok (.iload_n 1, 1) := by decide +kernel
theorem dX4_waiting_69 : decode cX4_waiting 69 = .ok (.if_icmp .ne 36, 3) := by decide +kernel
theorem dX4_waiting_72 : decode cX4_waiting 72 = .ok (.aload_n 0, 1) := by decide +kernel
theorem dX4_waiting_73 : decode cX4_waiting 73 = .ok (.getfield 23, 3) := by decide +kernel
theorem dX4_waiting_76 : decode cX4_waiting 76 = .ok (.iload 9, 2) := by decide +kernel
theorem dX4_waiting_78 : decode cX4_waiting 78 = .ok (.laload, 1) := by decide +kernel
theorem dX4_waiting_79 : decode cX4_waiting 79 = .ok (.lload_n 2, 1) := by decide +kernel
theorem dX4_waiting_80 : decode cX4_waiting 80 = .ok (.lcmp, 1) := by decide +kernel
theorem dX4_waiting_81 : decode cX4_waiting 81 = .ok (.ifCond .ne 24, 3) := by decide +kernel
theorem dX4_waiting_84 : decode cX4_waiting 84 = .ok (.aload_n 0, 1) := by decide +kernel
theorem dX4_waiting_85 : decode cX4_waiting 85 = .ok (.getfield 27, 3) := by decide +kernel
theorem dX4_waiting_88 : decode cX4_waiting 88 = .ok (.iload 9, 2) := by decide +kernel
theorem dX4_waiting_90 : decode cX4_waiting 90 = .ok (.laload, 1) := by decide +kernel
theorem dX4_waiting_91 : decode cX4_waiting 91 = .ok (.lload 4, 2) := by decide +kernel
theorem dX4_waiting_93 : decode cX4_waiting 93 = .ok (.lload 6, 2) := by decide +kernel
theorem dX4_waiting_95 : decode cX4_waiting 95 = .ok (.invokestatic 76, 3) := by decide +kernel
theorem dX4_waiting_98 : decode cX4_waiting 98 = .ok (.ifCond .eq 7, 3) := by decide +kernel
theorem dX4_waiting_101 : decode cX4_waiting 101 = .ok (.iconst 1, 1) := by decide +kernel
theorem dX4_waiting_102 : decode cX4_waiting 102 = .ok (.goto 4, 3) := by decide +kernel
theorem dX4_waiting_105 : decode cX4_waiting 105 = .ok (.iconst 0, 1) := by decide +kernel
theorem dX4_waiting_106 : decode cX4_waiting 106 = .ok (.iadd, 1) := by decide +kernel
theorem dX4_waiting_107 : decode cX4_waiting 107 = .ok (.istore 8, 2) := by decide +kernel
theorem dX4_waiting_109 : decode cX4_waiting 109 = .ok (.iinc 9 1, 3) := by decide +kernel
theorem dX4_waiting_112 : decode cX4_waiting 112 = .ok (.goto (-74), 3) := by decide +kernel
theorem dX4_waiting_115 : decode cX4_waiting 115 = .ok (.iload 8, 2) := by decide +kernel
theorem dX4_waiting_117 : decode cX4_waiting 117 = .ok (.ireturn, 1) := by decide +kernel
set_option maxRecDepth 20000 in
theorem ggX4_lay_X4_copy : GoodIn wsX4_lay wsX4_copy := goodIn_r _ [8, 9, 10, 11, 12, 13, 14, 15, 16, 17, 18, 19, 20, 21, 22, 23, 24, 25, 26, 27, 28, 29, 30, 31, 32, 33] (by decide +kernel) (by decide +kernel)
set_option maxRecDepth 20000 in
theorem gX4_lay_X4_copy : GoodIn wsX4_lay (wsV RX4 72 RX4 yX4_copy wsX4_copy) := goodIn_app (goodIn_of _ (by decide +kernel)) ggX4_lay_X4_copy
theorem dX4_lay_0 : decode cX4_lay 0 = .ok (.aload_n 0, 1) := by decide +kernel
theorem dX4_lay_1 : decode cX4_lay 1 = .ok (.getfield 7, 3) := by decide +kernel
theorem dX4_lay_4 : decode cX4_lay 4 = .ok (.iload_n 2, 1) := by decide +kernel
theorem dX4_lay_5 : decode cX4_lay 5 = .ok (.aload_n 0, 1) := by decide +kernel
theorem dX4_lay_6 : decode cX4_lay 6 = .ok (.getfield 7, 3) := by decide +kernel
theorem dX4_lay_9 : decode cX4_lay 9 = .ok (.iload_n 1, 1) := by decide +kernel
theorem dX4_lay_10 : decode cX4_lay 10 = .ok (.iaload, 1) := by decide +kernel
theorem dX4_lay_11 : decode cX4_lay 11 = .ok (.iastore, 1) := by decide +kernel
theorem dX4_lay_12 : decode cX4_lay 12 = .ok (.iconst 0, 1) := by decide +kernel
theorem dX4_lay_13 : decode cX4_lay 13 = .ok (.istore_n 3, 1) := by decide +kernel
theorem dX4_lay_14 : decode cX4_lay 14 = .ok (.iload_n 3, 1) := by decide +kernel
theorem dX4_lay_15 : decode cX4_lay 15 = .ok (.aload_n 0, 1) := by decide +kernel
theorem dX4_lay_16 : decode cX4_lay 16 = .ok (.getfield 7, 3) := by decide +kernel
theorem dX4_lay_19 : decode cX4_lay 19 = .ok (.iload_n 1, 1) := by decide +kernel
theorem dX4_lay_20 : decode cX4_lay 20 = .ok (.iaload, 1) := by decide +kernel
theorem dX4_lay_21 : decode cX4_lay 21 = .ok (.if_icmp .ge 25, 3) := by decide +kernel
theorem dX4_lay_24 : decode cX4_lay 24 = .ok (.aload_n 0, 1) := by decide +kernel
theorem dX4_lay_25 : decode cX4_lay 25 = .ok (.bipush 80, 2) := by decide +kernel
theorem dX4_lay_27 : decode cX4_lay 27 = .ok (.iload_n 1, 1) := by decide +kernel
theorem dX4_lay_28 : decode cX4_lay 28 = .ok (.imul, 1) := by decide +kernel
theorem dX4_lay_29 : decode cX4_lay 29 = .ok (.iload_n 3, 1) := by decide +kernel
theorem dX4_lay_30 : decode cX4_lay 30 = .ok (.iadd, 1) := by decide +kernel
theorem dX4_lay_31 : decode cX4_lay 31 = .ok (.bipush 80, 2) := by decide +kernel
theorem dX4_lay_33 : decode cX4_lay 33 = .ok (.iload_n 2, 1) := by decide +kernel
theorem dX4_lay_34 : decode cX4_lay 34 = .ok (.imul, 1) := by decide +kernel
theorem dX4_lay_35 : decode cX4_lay 35 = .ok (.iload_n 3, 1) := by decide +kernel
theorem dX4_lay_36 : decode cX4_lay 36 = .ok (.iadd, 1) := by decide +kernel
theorem dX4_lay_37 : decode cX4_lay 37 = .ok (.invokevirtual 72, 3) := by decide +kernel
theorem dX4_lay_40 : decode cX4_lay 40 = .ok (.iinc 3 1, 3) := by decide +kernel
theorem dX4_lay_43 : decode cX4_lay 43 = .ok (.goto (-29), 3) := by decide +kernel
theorem dX4_lay_46 : decode cX4_lay 46 = .ok (.aload_n 0, 1) := by decide +kernel
theorem dX4_lay_47 : decode cX4_lay 47 = .ok (.getfield 36, 3) := by decide +kernel
theorem dX4_lay_50 : decode cX4_lay 50 = .ok (.iconst 2, 1) := by decide +kernel
theorem dX4_lay_51 : decode cX4_lay 51 = .ok (.iload_n 2, 1) := by decide +kernel
theorem dX4_lay_52 : decode cX4_lay 52 = .ok (.imul, 1) := by decide +kernel
theorem dX4_lay_53 : decode cX4_lay 53 = .ok (.aload_n 0, 1) := by decide +kernel
theorem dX4_lay_54 : decode cX4_lay 54 = .ok (.getfield 36, 3) := by decide +kernel
theorem dX4_lay_57 : decode cX4_lay 57 = .ok (.iconst 2, 1) := by decide +kernel
theorem dX4_lay_58 : decode cX4_lay 58 = .ok (.iload_n 1, 1) := by decide +kernel
theorem dX4_lay_59 : decode cX4_lay 59 = .ok (.imul, 1) := by decide +kernel
theorem dX4_lay_60 : decode cX4_lay 60 = .ok (.laload, 1) := by decide +kernel
theorem dX4_lay_61 : decode cX4_lay 61 = .ok (.lastore, 1) := by decide +kernel
theorem dX4_lay_62 : decode cX4_lay 62 = .ok (.aload_n 0, 1) := by decide +kernel
theorem dX4_lay_63 : decode cX4_lay 63 = .ok (.getfield 36, 3) := by decide +kernel
theorem dX4_lay_66 : decode cX4_lay 66 = .ok (.iconst 2, 1) := by decide +kernel
theorem dX4_lay_67 : decode cX4_lay 67 = .ok (.iload_n 2, 1) := by decide +kernel
theorem dX4_lay_68 : decode cX4_lay 68 = .ok (.imul, 1) := by decide +kernel
theorem dX4_lay_69 : decode cX4_lay 69 = .ok (.iconst 1, 1) := by decide +kernel
theorem dX4_lay_70 : decode cX4_lay 70 = .ok (.iadd, 1) := by decide +kernel
theorem dX4_lay_71 : decode cX4_lay 71 = .ok (.aload_n 0, 1) := by decide +kernel
theorem dX4_lay_72 : decode cX4_lay 72 = .ok (.getfield 36, 3) := by decide +kernel
theorem dX4_lay_75 : decode cX4_lay 75 = .ok (.iconst 2, 1) := by decide +kernel
theorem dX4_lay_76 : decode cX4_lay 76 = .ok (.iload_n 1, 1) := by decide +kernel
theorem dX4_lay_77 : decode cX4_lay 77 = .ok (.imul, 1) := by decide +kernel
theorem dX4_lay_78 : decode cX4_lay 78 = .ok (.iconst 1, 1) := by decide +kernel
theorem dX4_lay_79 : decode cX4_lay 79 = .ok (.iadd, 1) := by decide +kernel
theorem dX4_lay_80 : decode cX4_lay 80 = .ok (.laload, 1) := by decide +kernel
theorem dX4_lay_81 : decode cX4_lay 81 = .ok (.lastore, 1) := by decide +kernel
theorem dX4_lay_82 : decode cX4_lay 82 = .ok (.iconst 0, 1) := by decide +kernel
theorem dX4_lay_83 : decode cX4_lay 83 = .ok (.istore_n 3, 1) := by decide +kernel
theorem dX4_lay_84 : decode cX4_lay 84 = .ok (.iload_n 3, 1) := by decide +kernel
theorem dX4_lay_85 : decode cX4_lay 85 = .ok (.iconst 4, 1) := by decide +kernel
theorem dX4_lay_86 : decode cX4_lay 86 = .ok (.if_icmp .ge 29, 3) := by decide +kernel
theorem dX4_lay_89 : decode cX4_lay 89 = .ok (.aload_n 0, 1) := by decide +kernel
theorem dX4_lay_90 : decode cX4_lay 90 = .ok (.getfield 39, 3) := by decide +kernel
theorem dX4_lay_93 : decode cX4_lay 93 = .ok (.iconst 4, 1) := by decide +kernel
theorem dX4_lay_94 : decode cX4_lay 94 = .ok (.iload_n 2, 1) := by decide +kernel
theorem dX4_lay_95 : decode cX4_lay 95 = .ok (.imul, 1) := by decide +kernel
theorem dX4_lay_96 : decode cX4_lay 96 = .ok (.iload_n 3, 1) := by decide +kernel
theorem dX4_lay_97 : decode cX4_lay 97 = .ok (.iadd, 1) := by decide +kernel
theorem dX4_lay_98 : decode cX4_lay 98 = .ok (.aload_n 0, 1) := by decide +kernel
theorem dX4_lay_99 : decode cX4_lay 99 = .ok (.getfield 39, 3) := by decide +kernel
theorem dX4_lay_102 : decode cX4_lay 102 = .ok (.iconst 4, 1) := by decide +kernel
theorem dX4_lay_103 : decode cX4_lay 103 = .ok (.iload_n 1, 1) := by decide +kernel
theorem dX4_lay_104 : decode cX4_lay 104 = .ok (.imul, 1) := by decide +kernel
theorem dX4_lay_105 : decode cX4_lay 105 = .ok (.iload_n 3, 1) := by decide +kernel
theorem dX4_lay_106 : decode cX4_lay 106 = .ok (.iadd, 1) := by decide +kernel
theorem dX4_lay_107 : decode cX4_lay 107 = .ok (.iaload, 1) := by decide +kernel
theorem dX4_lay_108 : decode cX4_lay 108 = .ok (.iastore, 1) := by decide +kernel
theorem dX4_lay_109 : decode cX4_lay 109 = .ok (.iinc 3 1, 3) := by decide +kernel
theorem dX4_lay_112 : decode cX4_lay 112 = .ok (.goto (-28), 3) := by decide +kernel
theorem dX4_lay_115 : decode cX4_lay 115 = .ok (.return_, 1) := by decide +kernel
set_option maxRecDepth 20000 in
theorem ggX4_keep_X4_isGood : GoodIn wsX4_keep wsX4_isGood := goodIn_r _ [6, 7, 26, 27, 28, 29, 30, 31, 32, 33, 34, 35, 36, 37, 38, 39, 40, 41, 42, 43] (by decide +kernel) (by decide +kernel)
set_option maxRecDepth 20000 in
theorem gX4_keep_X4_isGood : GoodIn wsX4_keep (wsV RX4 90 RX4 yX4_isGood wsX4_isGood) := goodIn_app (goodIn_of _ (by decide +kernel)) ggX4_keep_X4_isGood
set_option maxRecDepth 20000 in
theorem ggX4_keep_X4_lay : GoodIn wsX4_keep wsX4_lay := goodIn_r _ [11, 12, 13, 14, 15, 16, 17, 5, 18, 19, 20, 21, 22, 23, 24, 25, 26, 27, 28, 29, 30, 31, 32, 33, 34, 35, 36, 37, 38, 39, 40, 41, 42, 43] (by decide +kernel) (by decide +kernel)
set_option maxRecDepth 20000 in
theorem gX4_keep_X4_lay : GoodIn wsX4_keep (wsV RX4 118 RX4 yX4_lay wsX4_lay) := goodIn_app (goodIn_of _ (by decide +kernel)) ggX4_keep_X4_lay
theorem dX4_keep_0 : decode cX4_keep 0 = .ok (.aload_n 0, 1) := by decide +kernel
theorem dX4_keep_1 : decode cX4_keep 1 = .ok (.aload_n 0, 1) := by decide +kernel
theorem dX4_keep_2 : decode cX4_keep 2 = .ok (.getfield 66, 3) := by decide +kernel
theorem dX4_keep_5 : decode cX4_keep 5 = .ok (.iconst 3, 1) := by decide +kernel
theorem dX4_keep_6 : decode cX4_keep 6 = .ok (.if_icmp .ne 7, 3) := by decide +kernel
theorem dX4_keep_9 : decode cX4_keep 9 = .ok (.iconst 1, 1) := by decide +kernel
theorem dX4_keep_10 : decode cX4_keep 10 = .ok (.goto 4, 3) := by decide +kernel
theorem dX4_keep_13 : decode cX4_keep 13 = .ok (.iconst 0, 1) := by decide +kernel
theorem dX4_keep_14 : decode cX4_keep 14 = .ok (.invokevirtual 90, 3) := by decide +kernel
theorem dX4_keep_17 : decode cX4_keep 17 = .ok (.ifCond .ne 5, 3) := by decide +kernel
theorem dX4_keep_20 : decode cX4_keep 20 = .ok (.iconst 0, 1) := by decide +kernel
theorem dX4_keep_21 : decode cX4_keep 21 = .ok (.ireturn, 1) := by decide +kernel
theorem dX4_keep_22 : decode cX4_keep 22 = .ok (.aload_n 0, 1) := by decide +kernel
theorem dX4_keep_23 : decode cX4_keep 23 = .ok (.iconst 0, 1) := by decide +kernel
theorem dX4_keep_24 : decode cX4_keep 24 = .ok (.aload_n 0, 1) := by decide +kernel
theorem dX4_keep_25 : decode cX4_keep 25 = .ok (.getfield 66, 3) := by decide +kernel
theorem dX4_keep_28 : decode cX4_keep 28 = .ok (.iconst 1, 1) := by decide +kernel
theorem dX4_keep_29 : decode cX4_keep 29 = .ok (.iadd, 1) := by decide +kernel
theorem dX4_keep_30 : decode cX4_keep 30 = .ok (.invokevirtual 118, 3) := by decide +kernel
theorem dX4_keep_33 : decode cX4_keep 33 = .ok (.aload_n 0, 1) := by decide +kernel
theorem dX4_keep_34 : decode cX4_keep 34 = .ok (.dup, 1) := by decide +kernel
theorem dX4_keep_35 : decode cX4_keep 35 = .ok (.getfield 66, 3) := by decide +kernel
theorem dX4_keep_38 : decode cX4_keep 38 = .ok (.iconst 1, 1) := by decide +kernel
theorem dX4_keep_39 : decode cX4_keep 39 = .ok (.iadd, 1) := by decide +kernel
theorem dX4_keep_40 : decode cX4_keep 40 = .ok (.putfield 66, 3) := by decide +kernel
theorem dX4_keep_43 : decode cX4_keep 43 = .ok (.aload_n 0, 1) := by decide +kernel
theorem dX4_keep_44 : decode cX4_keep 44 = .ok (.getfield 66, 3) := by decide +kernel
theorem dX4_keep_47 : decode cX4_keep 47 = .ok (.iconst 1, 1) := by decide +kernel
theorem dX4_keep_48 : decode cX4_keep 48 = .ok (.isub, 1) := by decide +kernel
theorem dX4_keep_49 : decode cX4_keep 49 = .ok (.ireturn, 1) := by decide +kernel
set_option maxRecDepth 20000 in
theorem ggX4_back_X4_isIn : GoodIn wsX4_back wsX4_isIn := goodIn_r _ [5] (by decide +kernel) (by decide +kernel)
set_option maxRecDepth 20000 in
theorem gX4_back_X4_isIn : GoodIn wsX4_back (va_wsS RX4 76 yX4_isIn wsX4_isIn) := goodIn_app (goodIn_of _ (by decide +kernel)) ggX4_back_X4_isIn
set_option maxRecDepth 20000 in
theorem ggX4_back_X4_isGood : GoodIn wsX4_back wsX4_isGood := goodIn_r _ [9, 10, 33, 34, 35, 36, 37, 38, 39, 40, 41, 42, 43, 44, 45, 46, 47, 48, 49, 50] (by decide +kernel) (by decide +kernel)
set_option maxRecDepth 20000 in
theorem gX4_back_X4_isGood : GoodIn wsX4_back (wsV RX4 90 RX4 yX4_isGood wsX4_isGood) := goodIn_app (goodIn_of _ (by decide +kernel)) ggX4_back_X4_isGood
set_option maxRecDepth 20000 in
theorem ggX4_back_X4_lay : GoodIn wsX4_back wsX4_lay := goodIn_r _ [14, 15, 16, 17, 18, 19, 20, 4, 21, 22, 23, 24, 25, 26, 27, 28, 33, 34, 35, 36, 37, 38, 39, 40, 41, 42, 43, 44, 45, 46, 47, 48, 49, 50] (by decide +kernel) (by decide +kernel)
set_option maxRecDepth 20000 in
theorem gX4_back_X4_lay : GoodIn wsX4_back (wsV RX4 118 RX4 yX4_lay wsX4_lay) := goodIn_app (goodIn_of _ (by decide +kernel)) ggX4_back_X4_lay
set_option maxRecDepth 20000 in
theorem ggX4_back_X4_many : GoodIn wsX4_back wsX4_many := goodIn_r _ [32, 15, 22, 33, 34, 35, 36, 37, 38, 39, 40, 41, 42, 43, 44, 45, 46, 47, 48, 49, 50] (by decide +kernel) (by decide +kernel)
set_option maxRecDepth 20000 in
theorem gX4_back_X4_many : GoodIn wsX4_back (wsV RX4 86 RX4 yX4_many wsX4_many) := goodIn_app (goodIn_of _ (by decide +kernel)) ggX4_back_X4_many
theorem dX4_back_0 : decode cX4_back 0 = .ok (.aload_n 0, 1) := by decide +kernel
theorem dX4_back_1 : decode cX4_back 1 = .ok (.iload_n 1, 1) := by decide +kernel
theorem dX4_back_2 : decode cX4_back 2 = .ok (.i2l, 1) := by decide +kernel
theorem dX4_back_3 : decode cX4_back 3 = .ok (.lconst 0, 1) := by decide +kernel
theorem dX4_back_4 : decode cX4_back 4 = .ok (.aload_n 0, 1) := by decide +kernel
theorem dX4_back_5 : decode cX4_back 5 = .ok (.getfield 66, 3) := by decide +kernel
theorem dX4_back_8 : decode cX4_back 8 = .ok (.iconst 1, 1) := by decide +kernel
theorem dX4_back_9 : decode cX4_back 9 = .ok (.isub, 1) := by decide +kernel
theorem dX4_back_10 : decode cX4_back 10 = .ok (.i2l, 1) := by decide +kernel
theorem dX4_back_11 : decode cX4_back 11 = .ok (.invokestatic 76, 3) := by decide +kernel
theorem dX4_back_14 : decode cX4_back 14 = .ok (.ifCond .eq 7, 3) := by decide +kernel
theorem dX4_back_17 : decode cX4_back 17 = .ok (.iconst 0, 1) := by decide +kernel
theorem dX4_back_18 : decode cX4_back 18 = .ok (.goto 4, 3) := by decide +kernel
theorem dX4_back_21 : decode cX4_back 21 = .ok (.iconst 1, 1) := by decide +kernel
theorem dX4_back_22 : decode cX4_back 22 = .ok (.invokevirtual 90, 3) := by decide +kernel
theorem dX4_back_25 : decode cX4_back 25 = .ok (.ifCond .ne 5, 3) := by decide +kernel
theorem dX4_back_28 : decode cX4_back 28 = .ok (.iconst 0, 1) := by decide +kernel
theorem dX4_back_29 : decode cX4_back 29 = .ok (.ireturn, 1) := by decide +kernel
theorem dX4_back_30 : decode cX4_back 30 = .ok (.aload_n 0, 1) := by decide +kernel
theorem dX4_back_31 : decode cX4_back 31 = .ok (.iload_n 1, 1) := by decide +kernel
theorem dX4_back_32 : decode cX4_back 32 = .ok (.iconst 1, 1) := by decide +kernel
theorem dX4_back_33 : decode cX4_back 33 = .ok (.iadd, 1) := by decide +kernel
theorem dX4_back_34 : decode cX4_back 34 = .ok (.iconst 0, 1) := by decide +kernel
theorem dX4_back_35 : decode cX4_back 35 = .ok (.invokevirtual 118, 3) := by decide +kernel
theorem dX4_back_38 : decode cX4_back 38 = .ok (.aload_n 0, 1) := by decide +kernel
theorem dX4_back_39 : decode cX4_back 39 = .ok (.iconst 1, 1) := by decide +kernel
theorem dX4_back_40 : decode cX4_back 40 = .ok (.invokevirtual 86, 3) := by decide +kernel
theorem dX4_back_43 : decode cX4_back 43 = .ok (.ireturn, 1) := by decide +kernel
set_option maxRecDepth 20000 in
theorem ggX4_forget_X4_isGood : GoodIn wsX4_forget wsX4_isGood := goodIn_r _ [6, 7, 8, 9, 10, 11, 12, 13, 14, 15, 16, 17, 18, 19, 20, 21, 22, 23, 24, 25] (by decide +kernel) (by decide +kernel)
set_option maxRecDepth 20000 in
theorem gX4_forget_X4_isGood : GoodIn wsX4_forget (wsV RX4 90 RX4 yX4_isGood wsX4_isGood) := goodIn_app (goodIn_of _ (by decide +kernel)) ggX4_forget_X4_isGood
theorem dX4_forget_0 : decode cX4_forget 0 = .ok (.aload_n 0, 1) := by decide +kernel
theorem dX4_forget_1 : decode cX4_forget 1 = .ok (.aload_n 0, 1) := by decide +kernel
theorem dX4_forget_2 : decode cX4_forget 2 = .ok (.getfield 66, 3) := by decide +kernel
theorem dX4_forget_5 : decode cX4_forget 5 = .ok (.ifCond .ne 7, 3) := by decide +kernel
theorem dX4_forget_8 : decode cX4_forget 8 = .ok (.iconst 1, 1) := by decide +kernel
theorem dX4_forget_9 : decode cX4_forget 9 = .ok (.goto 4, 3) := by decide +kernel
theorem dX4_forget_12 : decode cX4_forget 12 = .ok (.iconst 0, 1) := by decide +kernel
theorem dX4_forget_13 : decode cX4_forget 13 = .ok (.invokevirtual 90, 3) := by decide +kernel
theorem dX4_forget_16 : decode cX4_forget 16 = .ok (.ifCond .ne 5, 3) := by decide +kernel
theorem dX4_forget_19 : decode cX4_forget 19 = .ok (.iconst 0, 1) := by decide +kernel
theorem dX4_forget_20 : decode cX4_forget 20 = .ok (.ireturn, 1) := by decide +kernel
theorem dX4_forget_21 : decode cX4_forget 21 = .ok (.aload_n 0, 1) := by decide +kernel
theorem dX4_forget_22 : decode cX4_forget 22 = .ok (.dup, 1) := by decide +kernel
theorem dX4_forget_23 : decode cX4_forget 23 = .ok (.getfield 66, 3) := by decide +kernel
theorem dX4_forget_26 : decode cX4_forget 26 = .ok (.iconst 1, 1) := by decide +kernel
theorem dX4_forget_27 : decode cX4_forget 27 = .ok (.isub, 1) := by decide +kernel
theorem dX4_forget_28 : decode cX4_forget 28 = .ok (.putfield 66, 3) := by decide +kernel
theorem dX4_forget_31 : decode cX4_forget 31 = .ok (.aload_n 0, 1) := by decide +kernel
theorem dX4_forget_32 : decode cX4_forget 32 = .ok (.getfield 66, 3) := by decide +kernel
theorem dX4_forget_35 : decode cX4_forget 35 = .ok (.ireturn, 1) := by decide +kernel
theorem dX4_taskOf_0 : decode cX4_taskOf 0 = .ok (.lload_n 0, 1) := by decide +kernel
theorem dX4_taskOf_1 : decode cX4_taskOf 1 = .ok (.ldc2_w 121, 3) := by decide +kernel
theorem dX4_taskOf_4 : decode cX4_taskOf 4 = .ok (.lrem, 1) := by decide +kernel
theorem dX4_taskOf_5 : decode cX4_taskOf 5 = .ok (.l2i, 1) := by decide +kernel
theorem dX4_taskOf_6 : decode cX4_taskOf 6 = .ok (.istore_n 3, 1) := by decide +kernel
theorem dX4_taskOf_7 : decode cX4_taskOf 7 = .ok (.iload_n 3, 1) := by decide +kernel
theorem dX4_taskOf_8 : decode cX4_taskOf 8 = .ok (.ifCond .ge 11, 3) := by decide +kernel
theorem dX4_taskOf_11 : decode cX4_taskOf 11 = .ok (.iload_n 3, 1) := by decide +kernel
theorem dX4_taskOf_12 : decode cX4_taskOf 12 = .ok (.sipush 128, 3) := by decide +kernel
theorem dX4_taskOf_15 : decode cX4_taskOf 15 = .ok (.iadd, 1) := by decide +kernel
theorem dX4_taskOf_16 : decode cX4_taskOf 16 = .ok (.goto 4, 3) := by decide +kernel
theorem dX4_taskOf_19 : decode cX4_taskOf 19 = .ok (.iload_n 3, 1) := by decide +kernel
theorem dX4_taskOf_20 : decode cX4_taskOf 20 = .ok (.iload_n 2, 1) := by decide +kernel
theorem dX4_taskOf_21 : decode cX4_taskOf 21 = .ok (.imul, 1) := by decide +kernel
theorem dX4_taskOf_22 : decode cX4_taskOf 22 = .ok (.sipush 128, 3) := by decide +kernel
theorem dX4_taskOf_25 : decode cX4_taskOf 25 = .ok (.idiv, 1) := by decide +kernel
theorem dX4_taskOf_26 : decode cX4_taskOf 26 = .ok (.ireturn, 1) := by decide +kernel
set_option maxRecDepth 20000 in
theorem ggX4_task_X4_isIn : GoodIn wsX4_task wsX4_isIn := goodIn_r _ [5] (by decide +kernel) (by decide +kernel)
set_option maxRecDepth 20000 in
theorem gX4_task_X4_isIn : GoodIn wsX4_task (va_wsS RX4 76 yX4_isIn wsX4_isIn) := goodIn_app (goodIn_of _ (by decide +kernel)) ggX4_task_X4_isIn
set_option maxRecDepth 20000 in
theorem ggX4_task_X4_isGood : GoodIn wsX4_task wsX4_isGood := goodIn_r _ [9, 10, 14, 15, 16, 17, 18, 19, 20, 21, 22, 23, 24, 25, 26, 27, 28, 29, 30, 31] (by decide +kernel) (by decide +kernel)
set_option maxRecDepth 20000 in
theorem gX4_task_X4_isGood : GoodIn wsX4_task (wsV RX4 90 RX4 yX4_isGood wsX4_isGood) := goodIn_app (goodIn_of _ (by decide +kernel)) ggX4_task_X4_isGood
set_option maxRecDepth 20000 in
theorem ggX4_task_X4_taskOf : GoodIn wsX4_task wsX4_taskOf := goodIn_r _ [13, 1] (by decide +kernel) (by decide +kernel)
set_option maxRecDepth 20000 in
theorem gX4_task_X4_taskOf : GoodIn wsX4_task (va_wsS RX4 123 yX4_taskOf wsX4_taskOf) := goodIn_app (goodIn_of _ (by decide +kernel)) ggX4_task_X4_taskOf
theorem dX4_task_0 : decode cX4_task 0 = .ok (.aload_n 0, 1) := by decide +kernel
theorem dX4_task_1 : decode cX4_task 1 = .ok (.iload_n 3, 1) := by decide +kernel
theorem dX4_task_2 : decode cX4_task 2 = .ok (.i2l, 1) := by decide +kernel
theorem dX4_task_3 : decode cX4_task 3 = .ok (.lconst 1, 1) := by decide +kernel
theorem dX4_task_4 : decode cX4_task 4 = .ok (.ldc2_w 121, 3) := by decide +kernel
theorem dX4_task_7 : decode cX4_task 7 = .ok (.invokestatic 76, 3) := by decide +kernel
theorem dX4_task_10 : decode cX4_task 10 = .ok (.ifCond .eq 7, 3) := by decide +kernel
theorem dX4_task_13 : decode cX4_task 13 = .ok (.iconst 0, 1) := by decide +kernel
theorem dX4_task_14 : decode cX4_task 14 = .ok (.goto 4, 3) := by decide +kernel
theorem dX4_task_17 : decode cX4_task 17 = .ok (.iconst 1, 1) := by decide +kernel
theorem dX4_task_18 : decode cX4_task 18 = .ok (.invokevirtual 90, 3) := by decide +kernel
theorem dX4_task_21 : decode cX4_task 21 = .ok (.ifCond .eq 11, 3) := by decide +kernel
theorem dX4_task_24 : decode cX4_task 24 = .ok (.lload_n 1, 1) := by decide +kernel
theorem dX4_task_25 : decode cX4_task 25 = .ok (.iload_n 3, 1) := by decide +kernel
theorem dX4_task_26 : decode cX4_task 26 = .ok (.invokestatic 123, 3) := by decide +kernel
theorem dX4_task_29 : decode cX4_task 29 = .ok (.goto 4, 3) := by decide +kernel
theorem dX4_task_32 : decode cX4_task 32 = .ok (.iconst 0, 1) := by decide +kernel
theorem dX4_task_33 : decode cX4_task 33 = .ok (.ireturn, 1) := by decide +kernel
set_option maxRecDepth 20000 in
theorem ggX4_load_X4_isIn : GoodIn wsX4_load wsX4_isIn := goodIn_r _ [7] (by decide +kernel) (by decide +kernel)
set_option maxRecDepth 20000 in
theorem gX4_load_X4_isIn : GoodIn wsX4_load (va_wsS RX4 76 yX4_isIn wsX4_isIn) := goodIn_app (goodIn_of _ (by decide +kernel)) ggX4_load_X4_isIn
set_option maxRecDepth 20000 in
theorem ggX4_load_X4_isGood : GoodIn wsX4_load wsX4_isGood := goodIn_r _ [11, 12, 16, 17, 18, 19, 20, 21, 22, 23, 24, 25, 26, 27, 28, 29, 30, 31, 32, 33] (by decide +kernel) (by decide +kernel)
set_option maxRecDepth 20000 in
theorem gX4_load_X4_isGood : GoodIn wsX4_load (wsV RX4 90 RX4 yX4_isGood wsX4_isGood) := goodIn_app (goodIn_of _ (by decide +kernel)) ggX4_load_X4_isGood
set_option maxRecDepth 20000 in
theorem ggX4_load_X4_taskOf : GoodIn wsX4_load wsX4_taskOf := goodIn_r _ [15, 1] (by decide +kernel) (by decide +kernel)
set_option maxRecDepth 20000 in
theorem gX4_load_X4_taskOf : GoodIn wsX4_load (va_wsS RX4 123 yX4_taskOf wsX4_taskOf) := goodIn_app (goodIn_of _ (by decide +kernel)) ggX4_load_X4_taskOf
theorem dX4_load_0 : decode cX4_load 0 = .ok (.aload_n 0, 1) := by decide +kernel
theorem dX4_load_1 : decode cX4_load 1 = .ok (.iload_n 2, 1) := by decide +kernel
theorem dX4_load_2 : decode cX4_load 2 = .ok (.i2l, 1) := by decide +kernel
theorem dX4_load_3 : decode cX4_load 3 = .ok (.lconst 1, 1) := by decide +kernel
theorem dX4_load_4 : decode cX4_load 4 = .ok (.ldc2_w 121, 3) := by decide +kernel
theorem dX4_load_7 : decode cX4_load 7 = .ok (.invokestatic 76, 3) := by decide +kernel
theorem dX4_load_10 : decode cX4_load 10 = .ok (.ifCond .eq 20, 3) := by decide +kernel
theorem dX4_load_13 : decode cX4_load 13 = .ok (.iload_n 1, 1) := by decide +kernel
theorem dX4_load_14 : decode cX4_load 14 = .ok (.i2l, 1) := by decide +kernel
theorem dX4_load_15 : decode cX4_load 15 = .ok (.lconst 0, 1) := by decide +kernel
theorem dX4_load_16 : decode cX4_load 16 = .ok (.iload_n 2, 1) := by decide +kernel
theorem dX4_load_17 : decode cX4_load 17 = .ok (.iconst 1, 1) := by decide +kernel
theorem dX4_load_18 : decode cX4_load 18 = .ok (.isub, 1) := by decide +kernel
theorem dX4_load_19 : decode cX4_load 19 = .ok (.i2l, 1) := by decide +kernel
theorem dX4_load_20 : decode cX4_load 20 = .ok (.invokestatic 76, 3) := by decide +kernel
theorem dX4_load_23 : decode cX4_load 23 = .ok (.ifCond .eq 7, 3) := by decide +kernel
theorem dX4_load_26 : decode cX4_load 26 = .ok (.iconst 0, 1) := by decide +kernel
theorem dX4_load_27 : decode cX4_load 27 = .ok (.goto 4, 3) := by decide +kernel
theorem dX4_load_30 : decode cX4_load 30 = .ok (.iconst 1, 1) := by decide +kernel
theorem dX4_load_31 : decode cX4_load 31 = .ok (.invokevirtual 90, 3) := by decide +kernel
theorem dX4_load_34 : decode cX4_load 34 = .ok (.ifCond .ne 5, 3) := by decide +kernel
theorem dX4_load_37 : decode cX4_load 37 = .ok (.iconst 0, 1) := by decide +kernel
theorem dX4_load_38 : decode cX4_load 38 = .ok (.ireturn, 1) := by decide +kernel
theorem dX4_load_39 : decode cX4_load 39 = .ok (.iconst 0, 1) := by decide +kernel
theorem dX4_load_40 : decode cX4_load 40 = .ok (.istore_n 3, 1) := by decide +kernel
theorem dX4_load_41 : decode cX4_load 41 = .ok (.iconst 0, 1) := by decide +kernel
theorem dX4_load_42 : decode cX4_load 42 = .ok (.istore 4, 2) := by decide +kernel
theorem dX4_load_44 : decode cX4_load 44 = .ok (.iload 4, 2) := by decide +kernel
theorem dX4_load_46 : decode cX4_load 46 = .ok (.aload_n 0, 1) := by decide +kernel
theorem dX4_load_47 : decode cX4_load 47 = .ok (.getfield 7, 3) := by decide +kernel
theorem dX4_load_50 : decode cX4_load 50 = .ok (.iconst 0, 1) := by decide +kernel
theorem dX4_load_51 : decode cX4_load 51 = .ok (.iaload, 1) := by decide +kernel
theorem dX4_load_52 : decode cX4_load 52 = .ok (.if_icmp .ge 32, 3) := by decide +kernel
theorem dX4_load_55 : decode cX4_load 55 = .ok (.iload_n 3, 1) := by decide +kernel
theorem dX4_load_56 : decode cX4_load 56 = .ok (.aload_n 0, 1) := by decide +kernel
theorem dX4_load_57 : decode cX4_load 57 = .ok (.getfield 23, 3) := by decide +kernel
theorem dX4_load_60 : decode cX4_load 60 = .ok (.iload 4, 2) := by decide +kernel
theorem dX4_load_62 : decode cX4_load 62 = .ok (.laload, 1) := by decide +kernel
theorem dX4_load_63 : decode cX4_load 63 = .ok (.iload_n 2, 1) := by decide +kernel
theorem dX4_load_64 : decode cX4_load 64 = .ok (.invokestatic 123, 3) := by decide +kernel
theorem dX4_load_67 : decode cX4_load 67 = .ok (.iload_n 1, 1) := by decide +kernel
theorem dX4_load_68 : decode cX4_load 68 = .ok (.if_icmp .ne 7, 3) := by decide +kernel
theorem dX4_load_71 : decode cX4_load 71 = .ok (.iconst 1, 1) := by decide +kernel
theorem dX4_load_72 : decode cX4_load 72 = .ok (.goto 4, 3) := by decide +kernel
theorem dX4_load_75 : decode cX4_load 75 = .ok (.iconst 0, 1) := by decide +kernel
theorem dX4_load_76 : decode cX4_load 76 = .ok (.iadd, 1) := by decide +kernel
theorem dX4_load_77 : decode cX4_load 77 = .ok (.istore_n 3, 1) := by decide +kernel
theorem dX4_load_78 : decode cX4_load 78 = .ok (.iinc 4 1, 3) := by decide +kernel
theorem dX4_load_81 : decode cX4_load 81 = .ok (.goto (-37), 3) := by decide +kernel
theorem dX4_load_84 : decode cX4_load 84 = .ok (.iload_n 3, 1) := by decide +kernel
theorem dX4_load_85 : decode cX4_load 85 = .ok (.ireturn, 1) := by decide +kernel
set_option maxRecDepth 20000 in
theorem ggX4_of_X4_isIn : GoodIn wsX4_of wsX4_isIn := goodIn_r _ [8] (by decide +kernel) (by decide +kernel)
set_option maxRecDepth 20000 in
theorem gX4_of_X4_isIn : GoodIn wsX4_of (va_wsS RX4 76 yX4_isIn wsX4_isIn) := goodIn_app (goodIn_of _ (by decide +kernel)) ggX4_of_X4_isIn
set_option maxRecDepth 20000 in
theorem ggX4_of_X4_isGood : GoodIn wsX4_of wsX4_isGood := goodIn_r _ [12, 13, 20, 21, 22, 23, 24, 25, 26, 27, 28, 29, 30, 31, 32, 33, 34, 35, 36, 37] (by decide +kernel) (by decide +kernel)
set_option maxRecDepth 20000 in
theorem gX4_of_X4_isGood : GoodIn wsX4_of (wsV RX4 90 RX4 yX4_isGood wsX4_isGood) := goodIn_app (goodIn_of _ (by decide +kernel)) ggX4_of_X4_isGood
set_option maxRecDepth 20000 in
theorem ggX4_of_X4_many : GoodIn wsX4_of wsX4_many := goodIn_r _ [17, 18, 19, 20, 21, 22, 23, 24, 25, 26, 27, 28, 29, 30, 31, 32, 33, 34, 35, 36, 37] (by decide +kernel) (by decide +kernel)
set_option maxRecDepth 20000 in
theorem gX4_of_X4_many : GoodIn wsX4_of (wsV RX4 86 RX4 yX4_many wsX4_many) := goodIn_app (goodIn_of _ (by decide +kernel)) ggX4_of_X4_many
theorem dX4_of_0 : decode cX4_of 0 = .ok (.aload_n 0, 1) := by decide +kernel
theorem dX4_of_1 : decode cX4_of 1 = .ok (.iload_n 1, 1) := by decide +kernel
theorem dX4_of_2 : decode cX4_of 2 = .ok (.i2l, 1) := by decide +kernel
theorem dX4_of_3 : decode cX4_of 3 = .ok (.lconst 0, 1) := by decide +kernel
theorem dX4_of_4 : decode cX4_of 4 = .ok (.ldc2_w 127, 3) := by decide +kernel
theorem dX4_of_7 : decode cX4_of 7 = .ok (.invokestatic 76, 3) := by decide +kernel
theorem dX4_of_10 : decode cX4_of 10 = .ok (.ifCond .eq 7, 3) := by decide +kernel
theorem dX4_of_13 : decode cX4_of 13 = .ok (.iconst 0, 1) := by decide +kernel
theorem dX4_of_14 : decode cX4_of 14 = .ok (.goto 4, 3) := by decide +kernel
theorem dX4_of_17 : decode cX4_of 17 = .ok (.iconst 1, 1) := by decide +kernel
theorem dX4_of_18 : decode cX4_of 18 = .ok (.invokevirtual 90, 3) := by decide +kernel
theorem dX4_of_21 : decode cX4_of 21 = .ok (.ifCond .ne 5, 3) := by decide +kernel
theorem dX4_of_24 : decode cX4_of 24 = .ok (.iconst 0, 1) := by decide +kernel
theorem dX4_of_25 : decode cX4_of 25 = .ok (.ireturn, 1) := by decide +kernel
theorem dX4_of_26 : decode cX4_of 26 = .ok (.iload_n 1, 1) := by decide +kernel
theorem dX4_of_27 : decode cX4_of 27 = .ok (.iconst 2, 1) := by decide +kernel
theorem dX4_of_28 : decode cX4_of 28 = .ok (.if_icmp .ge 17, 3) := by decide +kernel
theorem dX4_of_31 : decode cX4_of 31 = .ok (.aload_n 0, 1) := by decide +kernel
theorem dX4_of_32 : decode cX4_of 32 = .ok (.iload_n 1, 1) := by decide +kernel
theorem dX4_of_33 : decode cX4_of 33 = .ok (.ifCond .ne 7, 3) := by decide +kernel
theorem dX4_of_36 : decode cX4_of 36 = .ok (.iconst 1, 1) := by decide +kernel
theorem dX4_of_37 : decode cX4_of 37 = .ok (.goto 4, 3) := by decide +kernel
theorem dX4_of_40 : decode cX4_of 40 = .ok (.iconst 0, 1) := by decide +kernel
theorem dX4_of_41 : decode cX4_of 41 = .ok (.invokevirtual 86, 3) := by decide +kernel
theorem dX4_of_44 : decode cX4_of 44 = .ok (.ireturn, 1) := by decide +kernel
theorem dX4_of_45 : decode cX4_of 45 = .ok (.iload_n 1, 1) := by decide +kernel
