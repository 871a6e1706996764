theorem dX3_init_4 : decode cX3_init 4 = .ok (.aload_n 0, 1) := by decide +kernel
theorem dX3_init_5 : decode cX3_init 5 = .ok (.sipush 200, 3) := by decide +kernel
theorem dX3_init_8 : decode cX3_init 8 = .ok (.newarray .int, 2) := by decide +kernel
theorem dX3_init_10 : decode cX3_init 10 = .ok (.putfield 7, 3) := by decide +kernel
theorem dX3_init_13 : decode cX3_init 13 = .ok (.aload_n 0, 1) := by decide +kernel
theorem dX3_init_14 : decode cX3_init 14 = .ok (.bipush 50, 2) := by decide +kernel
theorem dX3_init_16 : decode cX3_init 16 = .ok (.newarray .int, 2) := by decide +kernel
theorem dX3_init_18 : decode cX3_init 18 = .ok (.putfield 13, 3) := by decide +kernel
theorem dX3_init_21 : decode cX3_init 21 = .ok (.aload_n 0, 1) := by decide +kernel
theorem dX3_init_22 : decode cX3_init 22 = .ok (.bipush 50, 2) := by decide +kernel
theorem dX3_init_24 : decode cX3_init 24 = .ok (.newarray .int, 2) := by decide +kernel
theorem dX3_init_26 : decode cX3_init 26 = .ok (.putfield 16, 3) := by decide +kernel
theorem dX3_init_29 : decode cX3_init 29 = .ok (.aload_n 0, 1) := by decide +kernel
theorem dX3_init_30 : decode cX3_init 30 = .ok (.bipush 50, 2) := by decide +kernel
theorem dX3_init_32 : decode cX3_init 32 = .ok (.newarray .int, 2) := by decide +kernel
theorem dX3_init_34 : decode cX3_init 34 = .ok (.putfield 19, 3) := by decide +kernel
theorem dX3_init_37 : decode cX3_init 37 = .ok (.aload_n 0, 1) := by decide +kernel
theorem dX3_init_38 : decode cX3_init 38 = .ok (.bipush 50, 2) := by decide +kernel
theorem dX3_init_40 : decode cX3_init 40 = .ok (.newarray .int, 2) := by decide +kernel
theorem dX3_init_42 : decode cX3_init 42 = .ok (.putfield 22, 3) := by decide +kernel
theorem dX3_init_45 : decode cX3_init 45 = .ok (.aload_n 0, 1) := by decide +kernel
theorem dX3_init_46 : decode cX3_init 46 = .ok (.bipush 10, 2) := by decide +kernel
theorem dX3_init_48 : decode cX3_init 48 = .ok (.newarray .int, 2) := by decide +kernel
theorem dX3_init_50 : decode cX3_init 50 = .ok (.putfield 25, 3) := by decide +kernel
theorem dX3_init_53 : decode cX3_init 53 = .ok (.aload_n 0, 1) := by decide +kernel
theorem dX3_init_54 : decode cX3_init 54 = .ok (.sipush 3001, 3) := by decide +kernel
theorem dX3_init_57 : decode cX3_init 57 = .ok (.newarray .long, 2) := by decide +kernel
theorem dX3_init_59 : decode cX3_init 59 = .ok (.putfield 28, 3) := by decide +kernel
theorem dX3_init_62 : decode cX3_init 62 = .ok (.aload_n 0, 1) := by decide +kernel
theorem dX3_init_63 : decode cX3_init 63 = .ok (.sipush 3001, 3) := by decide +kernel
theorem dX3_init_66 : decode cX3_init 66 = .ok (.newarray .int, 2) := by decide +kernel
theorem dX3_init_68 : decode cX3_init 68 = .ok (.putfield 32, 3) := by decide +kernel
theorem dX3_init_71 : decode cX3_init 71 = .ok (.aload_n 0, 1) := by decide +kernel
theorem dX3_init_72 : decode cX3_init 72 = .ok (.sipush 3001, 3) := by decide +kernel
theorem dX3_init_75 : decode cX3_init 75 = .ok (.newarray .int, 2) := by decide +kernel
theorem dX3_init_77 : decode cX3_init 77 = .ok (.putfield 35, 3) := by decide +kernel
theorem dX3_init_80 : decode cX3_init 80 = .ok (.aload_n 0, 1) := by decide +kernel
theorem dX3_init_81 : decode cX3_init 81 = .ok (.sipush 3001, 3) := by decide +kernel
theorem dX3_init_84 : decode cX3_init 84 = .ok (.newarray .int, 2) := by decide +kernel
theorem dX3_init_86 : decode cX3_init 86 = .ok (.putfield 38, 3) := by decide +kernel
theorem dX3_init_89 : decode cX3_init 89 = .ok (.aload_n 0, 1) := by decide +kernel
theorem dX3_init_90 : decode cX3_init 90 = .ok (.sipush 3001, 3) := by decide +kernel
theorem dX3_init_93 : decode cX3_init 93 = .ok (.newarray .int, 2) := by decide +kernel
theorem dX3_init_95 : decode cX3_init 95 = .ok (.putfield 41, 3) := by decide +kernel
theorem dX3_init_98 : decode cX3_init 98 = .ok (.aload_n 0, 1) := by decide +kernel
theorem dX3_init_99 : decode cX3_init 99 = .ok (.sipush 3001, 3) := by decide +kernel
theorem dX3_init_102 : decode cX3_init 102 = .ok (.newarray .int, 2) := by decide +kernel
theorem dX3_init_104 : decode cX3_init 104 = .ok (.putfield 44, 3) := by decide +kernel
theorem dX3_init_107 : decode cX3_init 107 = .ok (.aload_n 0, 1) := by decide +kernel
theorem dX3_init_108 : decode cX3_init 108 = .ok (.sipush 150, 3) := by decide +kernel
theorem dX3_init_111 : decode cX3_init 111 = .ok (.newarray .int, 2) := by decide +kernel
theorem dX3_init_113 : decode cX3_init 113 = .ok (.putfield 47, 3) := by decide +kernel
theorem dX3_init_116 : decode cX3_init 116 = .ok (.aload_n 0, 1) := by decide +kernel
theorem dX3_init_117 : decode cX3_init 117 = .ok (.sipush 150, 3) := by decide +kernel
theorem dX3_init_120 : decode cX3_init 120 = .ok (.newarray .int, 2) := by decide +kernel
theorem dX3_init_122 : decode cX3_init 122 = .ok (.putfield 50, 3) := by decide +kernel
theorem dX3_init_125 : decode cX3_init 125 = .ok (.aload_n 0, 1) := by decide +kernel
theorem dX3_init_126 : decode cX3_init 126 = .ok (.sipush 150, 3) := by decide +kernel
theorem dX3_init_129 : decode cX3_init 129 = .ok (.newarray .int, 2) := by decide +kernel
theorem dX3_init_131 : decode cX3_init 131 = .ok (.putfield 53, 3) := by decide +kernel
theorem dX3_init_134 : decode cX3_init 134 = .ok (.aload_n 0, 1) := by decide +kernel
theorem dX3_init_135 : decode cX3_init 135 = .ok (.sipush 150, 3) := by decide +kernel
theorem dX3_init_138 : decode cX3_init 138 = .ok (.newarray .int, 2) := by decide +kernel
theorem dX3_init_140 : decode cX3_init 140 = .ok (.putfield 56, 3) := by decide +kernel
theorem dX3_init_143 : decode cX3_init 143 = .ok (.aload_n 0, 1) := by decide +kernel
theorem dX3_init_144 : decode cX3_init 144 = .ok (.sipush 150, 3) := by decide +kernel
theorem dX3_init_147 : decode cX3_init 147 = .ok (.newarray .boolean, 2) := by decide +kernel
theorem dX3_init_149 : decode cX3_init 149 = .ok (.putfield 59, 3) := by decide +kernel
theorem dX3_init_152 : decode cX3_init 152 = .ok (.aload_n 0, 1) := by decide +kernel
theorem dX3_init_153 : decode cX3_init 153 = .ok (.sipush 150, 3) := by decide +kernel
theorem dX3_init_156 : decode cX3_init 156 = .ok (.newarray .int, 2) := by decide +kernel
theorem dX3_init_158 : decode cX3_init 158 = .ok (.putfield 63, 3) := by decide +kernel
theorem dX3_init_161 : decode cX3_init 161 = .ok (.aload_n 0, 1) := by decide +kernel
theorem dX3_init_162 : decode cX3_init 162 = .ok (.sipush 150, 3) := by decide +kernel
theorem dX3_init_165 : decode cX3_init 165 = .ok (.newarray .int, 2) := by decide +kernel
theorem dX3_init_167 : decode cX3_init 167 = .ok (.putfield 66, 3) := by decide +kernel
theorem dX3_init_170 : decode cX3_init 170 = .ok (.aload_n 0, 1) := by decide +kernel
theorem dX3_init_171 : decode cX3_init 171 = .ok (.sipush 150, 3) := by decide +kernel
theorem dX3_init_174 : decode cX3_init 174 = .ok (.newarray .int, 2) := by decide +kernel
theorem dX3_init_176 : decode cX3_init 176 = .ok (.putfield 69, 3) := by decide +kernel
theorem dX3_init_179 : decode cX3_init 179 = .ok (.aload_n 0, 1) := by decide +kernel
theorem dX3_init_180 : decode cX3_init 180 = .ok (.sipush 150, 3) := by decide +kernel
theorem dX3_init_183 : decode cX3_init 183 = .ok (.newarray .int, 2) := by decide +kernel
theorem dX3_init_185 : decode cX3_init 185 = .ok (.putfield 72, 3) := by decide +kernel
theorem dX3_init_188 : decode cX3_init 188 = .ok (.aload_n 0, 1) := by decide +kernel
theorem dX3_init_189 : decode cX3_init 189 = .ok (.sipush 150, 3) := by decide +kernel
theorem dX3_init_192 : decode cX3_init 192 = .ok (.newarray .int, 2) := by decide +kernel
theorem dX3_init_194 : decode cX3_init 194 = .ok (.putfield 75, 3) := by decide +kernel
theorem dX3_init_197 : decode cX3_init 197 = .ok (.aload_n 0, 1) := by decide +kernel
theorem dX3_init_198 : decode cX3_init 198 = .ok (.sipush 150, 3) := by decide +kernel
theorem dX3_init_201 : decode cX3_init 201 = .ok (.newarray .int, 2) := by decide +kernel
theorem dX3_init_203 : decode cX3_init 203 = .ok (.putfield 78, 3) := by decide +kernel
theorem dX3_init_206 : decode cX3_init 206 = .ok (.iconst 0, 1) := by decide +kernel
theorem dX3_init_207 : decode cX3_init 207 = .ok (.istore_n 1, 1) := by decide +kernel
theorem dX3_init_208 : decode cX3_init 208 = .ok (.iload_n 1, 1) := by decide +kernel
theorem dX3_init_209 : decode cX3_init 209 = .ok (.bipush 10, 2) := by decide +kernel
theorem dX3_init_211 : decode cX3_init 211 = .ok (.if_icmp .ge 16, 3) := by decide +kernel
theorem dX3_init_214 : decode cX3_init 214 = .ok (.aload_n 0, 1) := by decide +kernel
theorem dX3_init_215 : decode cX3_init 215 = .ok (.getfield 25, 3) := by decide +kernel
theorem dX3_init_218 : decode cX3_init 218 = .ok (.iload_n 1, 1) := by decide +kernel
theorem dX3_init_219 : decode cX3_init 219 = .ok (.iconst (-1), 1) := by decide +kernel
theorem dX3_init_220 : decode cX3_init 220 = .ok (.iastore, 1) := by decide +kernel
theorem dX3_init_221 : decode cX3_init 221 = .ok (.iinc 1 1, 3) := by decide +kernel
theorem dX3_init_224 : decode cX3_init 224 = .ok (.goto (-16), 3) := by decide +kernel
theorem dX3_init_227 : decode cX3_init 227 = .ok (.aload_n 0, 1) := by decide +kernel
theorem dX3_init_228 : decode cX3_init 228 = .ok (.getfield 13, 3) := by decide +kernel
theorem dX3_init_231 : decode cX3_init 231 = .ok (.iconst 0, 1) := by decide +kernel
theorem dX3_init_232 : decode cX3_init 232 = .ok (.iconst 2, 1) := by decide +kernel
theorem dX3_init_233 : decode cX3_init 233 = .ok (.iastore, 1) := by decide +kernel
theorem dX3_init_234 : decode cX3_init 234 = .ok (.aload_n 0, 1) := by decide +kernel
theorem dX3_init_235 : decode cX3_init 235 = .ok (.getfield 13, 3) := by decide +kernel
theorem dX3_init_238 : decode cX3_init 238 = .ok (.iconst 1, 1) := by decide +kernel
theorem dX3_init_239 : decode cX3_init 239 = .ok (.iconst 3, 1) := by decide +kernel
theorem dX3_init_240 : decode cX3_init 240 = .ok (.iastore, 1) := by decide +kernel
theorem dX3_init_241 : decode cX3_init 241 = .ok (.aload_n 0, 1) := by decide +kernel
theorem dX3_init_242 : decode cX3_init 242 = .ok (.iconst 2, 1) := by decide +kernel
theorem dX3_init_243 : decode cX3_init 243 = .ok (.putfield 81, 3) := by decide +kernel
theorem dX3_init_246 : decode cX3_init 246 = .ok (.return_, 1) := by decide +kernel
theorem dX3_in_0 : decode cX3_in 0 = .ok (.iload_n 0, 1) := by decide +kernel
theorem dX3_in_1 : decode cX3_in 1 = .ok (.iload_n 1, 1) := by decide +kernel
theorem dX3_in_2 : decode cX3_in 2 = .ok (.if_icmp .lt 12, 3) := by decide +kernel
theorem dX3_in_5 : decode cX3_in 5 = .ok (.iload_n 0, 1) := by decide +kernel
theorem dX3_in_6 : decode cX3_in 6 = .ok (.iload_n 2, 1) := by decide +kernel
theorem dX3_in_7 : decode cX3_in 7 = .ok (.if_icmp .gt 7, 3) := by decide +kernel
theorem dX3_in_10 : decode cX3_in 10 = .ok (.iconst 1, 1) := by decide +kernel
theorem dX3_in_11 : decode cX3_in 11 = .ok (.goto 4, 3) := by decide +kernel
theorem dX3_in_14 : decode cX3_in 14 = .ok (.iconst 0, 1) := by decide +kernel
theorem dX3_in_15 : decode cX3_in 15 = .ok (.ireturn, 1) := by decide +kernel
set_option maxRecDepth 20000 in
theorem ggX3_isReader_X3_in : GoodIn wsX3_isReader wsX3_in := goodIn_r _ [5] (by decide +kernel) (by decide +kernel)
set_option maxRecDepth 20000 in
theorem gX3_isReader_X3_in : GoodIn wsX3_isReader (va_wsS RX3 85 yX3_in wsX3_in) := goodIn_app (goodIn_of _ (by decide +kernel)) ggX3_isReader_X3_in
theorem dX3_isReader_0 : decode cX3_isReader 0 = .ok (.iload_n 1, 1) := by decide +kernel
theorem dX3_isReader_1 : decode cX3_isReader 1 = .ok (.iconst 0, 1) := by decide +kernel
theorem dX3_isReader_2 : decode cX3_isReader 2 = .ok (.aload_n 0, 1) := by decide +kernel
theorem dX3_isReader_3 : decode cX3_isReader 3 = .ok (.getfield 81, 3) := by decide +kernel
theorem dX3_isReader_6 : decode cX3_isReader 6 = .ok (.iconst 1, 1) := by decide +kernel
theorem dX3_isReader_7 : decode cX3_isReader 7 = .ok (.isub, 1) := by decide +kernel
theorem dX3_isReader_8 : decode cX3_isReader 8 = .ok (.invokestatic 85, 3) := by decide +kernel
theorem dX3_isReader_11 : decode cX3_isReader 11 = .ok (.ireturn, 1) := by decide +kernel
set_option maxRecDepth 20000 in
theorem ggX3_text_X3_in : GoodIn wsX3_text wsX3_in := goodIn_r _ [6] (by decide +kernel) (by decide +kernel)
set_option maxRecDepth 20000 in
theorem gX3_text_X3_in : GoodIn wsX3_text (va_wsS RX3 85 yX3_in wsX3_in) := goodIn_app (goodIn_of _ (by decide +kernel)) ggX3_text_X3_in
theorem dX3_text_0 : decode cX3_text 0 = .ok (.iload_n 1, 1) := by decide +kernel
theorem dX3_text_1 : decode cX3_text 1 = .ok (.iconst 1, 1) := by decide +kernel
theorem dX3_text_2 : decode cX3_text 2 = .ok (.bipush 8, 2) := by decide +kernel
theorem dX3_text_4 : decode cX3_text 4 = .ok (.invokestatic 85, 3) := by decide +kernel
theorem dX3_text_7 : decode cX3_text 7 = .ok (.ifCond .ne 6, 3) := by decide +kernel
theorem dX3_text_10 : decode cX3_text 10 = .ok (.bipush (-2), 2) := by decide +kernel
theorem dX3_text_12 : decode cX3_text 12 = .ok (.ireturn, 1) := by decide +kernel
theorem dX3_text_13 : decode cX3_text 13 = .ok (.aload_n 0, 1) := by decide +kernel
theorem dX3_text_14 : decode cX3_text 14 = .ok (.getfield 89, 3) := by decide +kernel
theorem dX3_text_17 : decode cX3_text 17 = .ok (.iload_n 1, 1) := by decide +kernel
theorem dX3_text_18 : decode cX3_text 18 = .ok (.iadd, 1) := by decide +kernel
theorem dX3_text_19 : decode cX3_text 19 = .ok (.sipush 200, 3) := by decide +kernel
theorem dX3_text_22 : decode cX3_text 22 = .ok (.if_icmp .le 6, 3) := by decide +kernel
theorem dX3_text_25 : decode cX3_text 25 = .ok (.bipush (-3), 2) := by decide +kernel
theorem dX3_text_27 : decode cX3_text 27 = .ok (.ireturn, 1) := by decide +kernel
theorem dX3_text_28 : decode cX3_text 28 = .ok (.iconst 0, 1) := by decide +kernel
theorem dX3_text_29 : decode cX3_text 29 = .ok (.istore 4, 2) := by decide +kernel
theorem dX3_text_31 : decode cX3_text 31 = .ok (.iload 4, 2) := by decide +kernel
theorem dX3_text_33 : decode cX3_text 33 = .ok (.iload_n 1, 1) := by decide +kernel
theorem dX3_text_34 : decode cX3_text 34 = .ok (.if_icmp .ge 39, 3) := by decide +kernel
theorem dX3_text_37 : decode cX3_text 37 = .ok (.aload_n 0, 1) := by decide +kernel
theorem dX3_text_38 : decode cX3_text 38 = .ok (.getfield 7, 3) := by decide +kernel
theorem dX3_text_41 : decode cX3_text 41 = .ok (.aload_n 0, 1) := by decide +kernel
theorem dX3_text_42 : decode cX3_text 42 = .ok (.getfield 89, 3) := by decide +kernel
theorem dX3_text_45 : decode cX3_text 45 = .ok (.lload_n 2, 1) := by decide +kernel
theorem dX3_text_46 : decode cX3_text 46 = .ok (.bipush 8, 2) := by decide +kernel
theorem dX3_text_48 : decode cX3_text 48 = .ok (.iload 4, 2) := by decide +kernel
theorem dX3_text_50 : decode cX3_text 50 = .ok (.imul, 1) := by decide +kernel
theorem dX3_text_51 : decode cX3_text 51 = .ok (.lshr, 1) := by decide +kernel
theorem dX3_text_52 : decode cX3_text 52 = .ok (.l2i, 1) := by decide +kernel
theorem dX3_text_53 : decode cX3_text 53 = .ok (.bipush 127, 2) := by decide +kernel
theorem dX3_text_55 : decode cX3_text 55 = .ok (.iand, 1) := by decide +kernel
theorem dX3_text_56 : decode cX3_text 56 = .ok (.iastore, 1) := by decide +kernel
theorem dX3_text_57 : decode cX3_text 57 = .ok (.aload_n 0, 1) := by decide +kernel
theorem dX3_text_58 : decode cX3_text 58 = .ok (.dup, 1) := by decide +kernel
theorem dX3_text_59 : decode cX3_text 59 = .ok (.getfield 89, 3) := by decide +kernel
theorem dX3_text_62 : decode cX3_text 62 = .ok (.iconst 1, 1) := by decide +kernel
theorem dX3_text_63 : decode cX3_text 63 = .ok (.iadd, 1) := by decide +kernel
theorem dX3_text_64 : decode cX3_text 64 = .ok (.putfield 89, 3) := by decide +kernel
theorem dX3_text_67 : decode cX3_text 67 = .ok (.iinc 4 1, 3) := by decide +kernel
theorem dX3_text_70 : decode cX3_text 70 = .ok (.goto (-39), 3) := by decide +kernel
theorem dX3_text_73 : decode cX3_text 73 = .ok (.aload_n 0, 1) := by decide +kernel
theorem dX3_text_74 : decode cX3_text 74 = .ok (.getfield 89, 3) := by decide +kernel
theorem dX3_text_77 : decode cX3_text 77 = .ok (.ireturn, 1) := by decide +kernel
theorem dX3_clear_0 : decode cX3_clear 0 = .ok (.aload_n 0, 1) := by decide +kernel
theorem dX3_clear_1 : decode cX3_clear 1 = .ok (.getfield 89, 3) := by decide +kernel
theorem dX3_clear_4 : decode cX3_clear 4 = .ok (.istore_n 1, 1) := by decide +kernel
theorem dX3_clear_5 : decode cX3_clear 5 = .ok (.aload_n 0, 1) := by decide +kernel
theorem dX3_clear_6 : decode cX3_clear 6 = .ok (.iconst 0, 1) := by decide +kernel
theorem dX3_clear_7 : decode cX3_clear 7 = .ok (.putfield 89, 3) := by decide +kernel
theorem dX3_clear_10 : decode cX3_clear 10 = .ok (.iload_n 1, 1) := by decide +kernel
theorem dX3_clear_11 : decode cX3_clear 11 = .ok (.ireturn, 1) := by decide +kernel
set_option maxRecDepth 20000 in
theorem ggX3_reader_X3_in : GoodIn wsX3_reader wsX3_in := goodIn_r _ [8] (by decide +kernel) (by decide +kernel)
set_option maxRecDepth 20000 in
theorem gX3_reader_X3_in : GoodIn wsX3_reader (va_wsS RX3 85 yX3_in wsX3_in) := goodIn_app (goodIn_of _ (by decide +kernel)) ggX3_reader_X3_in
set_option maxRecDepth 20000 in
theorem ggX3_reader_X3_isReader : GoodIn wsX3_reader wsX3_isReader := goodIn_r _ [12, 1, 5, 6, 7, 8, 13, 14, 15, 16, 17, 18, 19, 20, 21, 22, 23, 24, 25, 26, 27, 28, 29, 30, 31, 32, 33, 34, 35, 36, 37, 38, 39, 40, 41, 42, 43, 44, 45, 46, 47, 48] (by decide +kernel) (by decide +kernel)
set_option maxRecDepth 20000 in
theorem gX3_reader_X3_isReader : GoodIn wsX3_reader (wsV RX3 92 RX3 yX3_isReader wsX3_isReader) := goodIn_app (goodIn_of _ (by decide +kernel)) ggX3_reader_X3_isReader
theorem dX3_reader_0 : decode cX3_reader 0 = .ok (.iload_n 1, 1) := by decide +kernel
theorem dX3_reader_1 : decode cX3_reader 1 = .ok (.iconst 0, 1) := by decide +kernel
theorem dX3_reader_2 : decode cX3_reader 2 = .ok (.bipush 15, 2) := by decide +kernel
theorem dX3_reader_4 : decode cX3_reader 4 = .ok (.invokestatic 85, 3) := by decide +kernel
theorem dX3_reader_7 : decode cX3_reader 7 = .ok (.ifCond .ne 6, 3) := by decide +kernel
theorem dX3_reader_10 : decode cX3_reader 10 = .ok (.bipush (-2), 2) := by decide +kernel
theorem dX3_reader_12 : decode cX3_reader 12 = .ok (.ireturn, 1) := by decide +kernel
theorem dX3_reader_13 : decode cX3_reader 13 = .ok (.iload_n 1, 1) := by decide +kernel
theorem dX3_reader_14 : decode cX3_reader 14 = .ok (.iconst 4, 1) := by decide +kernel
theorem dX3_reader_15 : decode cX3_reader 15 = .ok (.bipush 9, 2) := by decide +kernel
theorem dX3_reader_17 : decode cX3_reader 17 = .ok (.invokestatic 85, 3) := by decide +kernel
theorem dX3_reader_20 : decode cX3_reader 20 = .ok (.ifCond .ne 9, 3) := by decide +kernel
theorem dX3_reader_23 : decode cX3_reader 23 = .ok (.iload_n 1, 1) := by decide +kernel
theorem dX3_reader_24 : decode cX3_reader 24 = .ok (.bipush 11, 2) := by decide +kernel
theorem dX3_reader_26 : decode cX3_reader 26 = .ok (.if_icmp .ne 7, 3) := by decide +kernel
theorem dX3_reader_29 : decode cX3_reader 29 = .ok (.iconst 1, 1) := by decide +kernel
theorem dX3_reader_30 : decode cX3_reader 30 = .ok (.goto 4, 3) := by decide +kernel
theorem dX3_reader_33 : decode cX3_reader 33 = .ok (.iconst 0, 1) := by decide +kernel
theorem dX3_reader_34 : decode cX3_reader 34 = .ok (.istore 4, 2) := by decide +kernel
theorem dX3_reader_36 : decode cX3_reader 36 = .ok (.iload 4, 2) := by decide +kernel
theorem dX3_reader_38 : decode cX3_reader 38 = .ok (.ifCond .eq 11, 3) := by decide +kernel
theorem dX3_reader_41 : decode cX3_reader 41 = .ok (.aload_n 0, 1) := by decide +kernel
theorem dX3_reader_42 : decode cX3_reader 42 = .ok (.iload_n 2, 1) := by decide +kernel
theorem dX3_reader_43 : decode cX3_reader 43 = .ok (.invokevirtual 92, 3) := by decide +kernel
theorem dX3_reader_46 : decode cX3_reader 46 = .ok (.ifCond .eq 21, 3) := by decide +kernel
theorem dX3_reader_49 : decode cX3_reader 49 = .ok (.iload_n 1, 1) := by decide +kernel
theorem dX3_reader_50 : decode cX3_reader 50 = .ok (.iconst 4, 1) := by decide +kernel
theorem dX3_reader_51 : decode cX3_reader 51 = .ok (.if_icmp .eq 8, 3) := by decide +kernel
theorem dX3_reader_54 : decode cX3_reader 54 = .ok (.iload_n 1, 1) := by decide +kernel
theorem dX3_reader_55 : decode cX3_reader 55 = .ok (.iconst 5, 1) := by decide +kernel
theorem dX3_reader_56 : decode cX3_reader 56 = .ok (.if_icmp .ne 14, 3) := by decide +kernel
theorem dX3_reader_59 : decode cX3_reader 59 = .ok (.aload_n 0, 1) := by decide +kernel
theorem dX3_reader_60 : decode cX3_reader 60 = .ok (.iload_n 3, 1) := by decide +kernel
theorem dX3_reader_61 : decode cX3_reader 61 = .ok (.invokevirtual 92, 3) := by decide +kernel
theorem dX3_reader_64 : decode cX3_reader 64 = .ok (.ifCond .ne 6, 3) := by decide +kernel
theorem dX3_reader_67 : decode cX3_reader 67 = .ok (.bipush (-2), 2) := by decide +kernel
theorem dX3_reader_69 : decode cX3_reader 69 = .ok (.ireturn, 1) := by decide +kernel
theorem dX3_reader_70 : decode cX3_reader 70 = .ok (.iload_n 1, 1) := by decide +kernel
theorem dX3_reader_71 : decode cX3_reader 71 = .ok (.bipush 10, 2) := by decide +kernel
theorem dX3_reader_73 : decode cX3_reader 73 = .ok (.if_icmp .ne 13, 3) := by decide +kernel
theorem dX3_reader_76 : decode cX3_reader 76 = .ok (.iload_n 2, 1) := by decide +kernel
theorem dX3_reader_77 : decode cX3_reader 77 = .ok (.iconst 0, 1) := by decide +kernel
theorem dX3_reader_78 : decode cX3_reader 78 = .ok (.bipush 9, 2) := by decide +kernel
theorem dX3_reader_80 : decode cX3_reader 80 = .ok (.invokestatic 85, 3) := by decide +kernel
theorem dX3_reader_83 : decode cX3_reader 83 = .ok (.ifCond .eq 18, 3) := by decide +kernel
theorem dX3_reader_86 : decode cX3_reader 86 = .ok (.iload_n 1, 1) := by decide +kernel
theorem dX3_reader_87 : decode cX3_reader 87 = .ok (.bipush 15, 2) := by decide +kernel
theorem dX3_reader_89 : decode cX3_reader 89 = .ok (.if_icmp .ne 15, 3) := by decide +kernel
theorem dX3_reader_92 : decode cX3_reader 92 = .ok (.iload_n 2, 1) := by decide +kernel
theorem dX3_reader_93 : decode cX3_reader 93 = .ok (.iconst 0, 1) := by decide +kernel
theorem dX3_reader_94 : decode cX3_reader 94 = .ok (.iconst 3, 1) := by decide +kernel
theorem dX3_reader_95 : decode cX3_reader 95 = .ok (.invokestatic 85, 3) := by decide +kernel
theorem dX3_reader_98 : decode cX3_reader 98 = .ok (.ifCond .ne 6, 3) := by decide +kernel
theorem dX3_reader_101 : decode cX3_reader 101 = .ok (.bipush (-2), 2) := by decide +kernel
theorem dX3_reader_103 : decode cX3_reader 103 = .ok (.ireturn, 1) := by decide +kernel
theorem dX3_reader_104 : decode cX3_reader 104 = .ok (.aload_n 0, 1) := by decide +kernel
theorem dX3_reader_105 : decode cX3_reader 105 = .ok (.getfield 81, 3) := by decide +kernel
theorem dX3_reader_108 : decode cX3_reader 108 = .ok (.bipush 50, 2) := by decide +kernel
theorem dX3_reader_110 : decode cX3_reader 110 = .ok (.if_icmp .ne 6, 3) := by decide +kernel
theorem dX3_reader_113 : decode cX3_reader 113 = .ok (.bipush (-3), 2) := by decide +kernel
theorem dX3_reader_115 : decode cX3_reader 115 = .ok (.ireturn, 1) := by decide +kernel
theorem dX3_reader_116 : decode cX3_reader 116 = .ok (.aload_n 0, 1) := by decide +kernel
theorem dX3_reader_117 : decode cX3_reader 117 = .ok (.getfield 13, 3) := by decide +kernel
theorem dX3_reader_120 : decode cX3_reader 120 = .ok (.aload_n 0, 1) := by decide +kernel
theorem dX3_reader_121 : decode cX3_reader 121 = .ok (.getfield 81, 3) := by decide +kernel
theorem dX3_reader_124 : decode cX3_reader 124 = .ok (.iload_n 1, 1) := by decide +kernel
theorem dX3_reader_125 : decode cX3_reader 125 = .ok (.iastore, 1) := by decide +kernel
theorem dX3_reader_126 : decode cX3_reader 126 = .ok (.aload_n 0, 1) := by decide +kernel
theorem dX3_reader_127 : decode cX3_reader 127 = .ok (.getfield 16, 3) := by decide +kernel
theorem dX3_reader_130 : decode cX3_reader 130 = .ok (.aload_n 0, 1) := by decide +kernel
theorem dX3_reader_131 : decode cX3_reader 131 = .ok (.getfield 81, 3) := by decide +kernel
theorem dX3_reader_134 : decode cX3_reader 134 = .ok (.iload_n 2, 1) := by decide +kernel
theorem dX3_reader_135 : decode cX3_reader 135 = .ok (.iastore, 1) := by decide +kernel
theorem dX3_reader_136 : decode cX3_reader 136 = .ok (.aload_n 0, 1) := by decide +kernel
theorem dX3_reader_137 : decode cX3_reader 137 = .ok (.getfield 19, 3) := by decide +kernel
theorem dX3_reader_140 : decode cX3_reader 140 = .ok (.aload_n 0, 1) := by decide +kernel
theorem dX3_reader_141 : decode cX3_reader 141 = .ok (.getfield 81, 3) := by decide +kernel
theorem dX3_reader_144 : decode cX3_reader 144 = .ok (.iload_n 3, 1) := by decide +kernel
theorem dX3_reader_145 : decode cX3_reader 145 = .ok (.iastore, 1) := by decide +kernel
theorem dX3_reader_146 : decode cX3_reader 146 = .ok (.aload_n 0, 1) := by decide +kernel
theorem dX3_reader_147 : decode cX3_reader 147 = .ok (.dup, 1) := by decide +kernel
theorem dX3_reader_148 : decode cX3_reader 148 = .ok (.getfield 81, 3) := by decide +kernel
theorem dX3_reader_151 : decode cX3_reader 151 = .ok (.iconst 1, 1) := by decide +kernel
theorem dX3_reader_152 : decode cX3_reader 152 = .ok (.iadd, 1) := by decide +kernel
theorem dX3_reader_153 : decode cX3_reader 153 = .ok (.putfield 81, 3) := by decide +kernel
theorem dX3_reader_156 : decode cX3_reader 156 = .ok (.aload_n 0, 1) := by decide +kernel
theorem dX3_reader_157 : decode cX3_reader 157 = .ok (.getfield 81, 3) := by decide +kernel
theorem dX3_reader_160 : decode cX3_reader 160 = .ok (.iconst 1, 1) := by decide +kernel
theorem dX3_reader_161 : decode cX3_reader 161 = .ok (.isub, 1) := by decide +kernel
theorem dX3_reader_162 : decode cX3_reader 162 = .ok (.ireturn, 1) := by decide +kernel
set_option maxRecDepth 20000 in
theorem ggX3_name_X3_in : GoodIn wsX3_name wsX3_in := goodIn_r _ [5] (by decide +kernel) (by decide +kernel)
set_option maxRecDepth 20000 in
theorem gX3_name_X3_in : GoodIn wsX3_name (va_wsS RX3 85 yX3_in wsX3_in) := goodIn_app (goodIn_of _ (by decide +kernel)) ggX3_name_X3_in
set_option maxRecDepth 20000 in
theorem ggX3_name_X3_isReader : GoodIn wsX3_name wsX3_isReader := goodIn_r _ [9, 10, 2, 3, 4, 5, 11, 12, 13, 14, 15, 16, 17, 18, 19, 20, 21, 22, 23, 24, 25, 26, 27, 28, 29, 30, 31, 32, 33, 34, 35, 36, 37, 38, 39, 40, 41, 42, 43, 44, 45, 46] (by decide +kernel) (by decide +kernel)
set_option maxRecDepth 20000 in
theorem gX3_name_X3_isReader : GoodIn wsX3_name (wsV RX3 92 RX3 yX3_isReader wsX3_isReader) := goodIn_app (goodIn_of _ (by decide +kernel)) ggX3_name_X3_isReader
theorem dX3_name_0 : decode cX3_name 0 = .ok (.iload_n 1, 1) := by decide +kernel
theorem dX3_name_1 : decode cX3_name 1 = .ok (.iconst 0, 1) := by decide +kernel
theorem dX3_name_2 : decode cX3_name 2 = .ok (.bipush 9, 2) := by decide +kernel
theorem dX3_name_4 : decode cX3_name 4 = .ok (.invokestatic 85, 3) := by decide +kernel
theorem dX3_name_7 : decode cX3_name 7 = .ok (.ifCond .eq 16, 3) := by decide +kernel
theorem dX3_name_10 : decode cX3_name 10 = .ok (.iload_n 2, 1) := by decide +kernel
theorem dX3_name_11 : decode cX3_name 11 = .ok (.iconst (-1), 1) := by decide +kernel
theorem dX3_name_12 : decode cX3_name 12 = .ok (.if_icmp .eq 14, 3) := by decide +kernel
theorem dX3_name_15 : decode cX3_name 15 = .ok (.aload_n 0, 1) := by decide +kernel
theorem dX3_name_16 : decode cX3_name 16 = .ok (.iload_n 2, 1) := by decide +kernel
theorem dX3_name_17 : decode cX3_name 17 = .ok (.invokevirtual 92, 3) := by decide +kernel
theorem dX3_name_20 : decode cX3_name 20 = .ok (.ifCond .ne 6, 3) := by decide +kernel
theorem dX3_name_23 : decode cX3_name 23 = .ok (.bipush (-2), 2) := by decide +kernel
theorem dX3_name_25 : decode cX3_name 25 = .ok (.ireturn, 1) := by decide +kernel
theorem dX3_name_26 : decode cX3_name 26 = .ok (.aload_n 0, 1) := by decide +kernel
theorem dX3_name_27 : decode cX3_name 27 = .ok (.getfield 25, 3) := by decide +kernel
theorem dX3_name_30 : decode cX3_name 30 = .ok (.iload_n 1, 1) := by decide +kernel
theorem dX3_name_31 : decode cX3_name 31 = .ok (.iaload, 1) := by decide +kernel
theorem dX3_name_32 : decode cX3_name 32 = .ok (.iconst (-1), 1) := by decide +kernel
theorem dX3_name_33 : decode cX3_name 33 = .ok (.if_icmp .ne 7, 3) := by decide +kernel
theorem dX3_name_36 : decode cX3_name 36 = .ok (.iconst 0, 1) := by decide +kernel
theorem dX3_name_37 : decode cX3_name 37 = .ok (.goto 4, 3) := by decide +kernel
theorem dX3_name_40 : decode cX3_name 40 = .ok (.iconst 1, 1) := by decide +kernel
theorem dX3_name_41 : decode cX3_name 41 = .ok (.istore_n 3, 1) := by decide +kernel
theorem dX3_name_42 : decode cX3_name 42 = .ok (.aload_n 0, 1) := by decide +kernel
theorem dX3_name_43 : decode cX3_name 43 = .ok (.getfield 25, 3) := by decide +kernel
theorem dX3_name_46 : decode cX3_name 46 = .ok (.iload_n 1, 1) := by decide +kernel
theorem dX3_name_47 : decode cX3_name 47 = .ok (.iload_n 2, 1) := by decide +kernel
theorem dX3_name_48 : decode cX3_name 48 = .ok (.iastore, 1) := by decide +kernel
theorem dX3_name_49 : decode cX3_name 49 = .ok (.iload_n 3, 1) := by decide +kernel
theorem dX3_name_50 : decode cX3_name 50 = .ok (.ireturn, 1) := by decide +kernel
theorem dX3_begin_0 : decode cX3_begin 0 = .ok (.aload_n 0, 1) := by decide +kernel
theorem dX3_begin_1 : decode cX3_begin 1 = .ok (.getfield 96, 3) := by decide +kernel
theorem dX3_begin_4 : decode cX3_begin 4 = .ok (.sipush 150, 3) := by decide +kernel
theorem dX3_begin_7 : decode cX3_begin 7 = .ok (.if_icmp .ne 11, 3) := by decide +kernel
theorem dX3_begin_10 : decode cX3_begin 10 = .ok (.aload_n 0, 1) := by decide +kernel
theorem dX3_begin_11 : decode cX3_begin 11 = .ok (.iconst 4, 1) := by decide +kernel
theorem dX3_begin_12 : decode cX3_begin 12 = .ok (.putfield 99, 3) := by decide +kernel
theorem dX3_begin_15 : decode cX3_begin 15 = .ok (.goto 176, 3) := by decide +kernel
theorem dX3_begin_18 : decode cX3_begin 18 = .ok (.aload_n 0, 1) := by decide +kernel
theorem dX3_begin_19 : decode cX3_begin 19 = .ok (.getfield 102, 3) := by decide +kernel
theorem dX3_begin_22 : decode cX3_begin 22 = .ok (.sipush 3000, 3) := by decide +kernel
theorem dX3_begin_25 : decode cX3_begin 25 = .ok (.if_icmp .ne 11, 3) := by decide +kernel
theorem dX3_begin_28 : decode cX3_begin 28 = .ok (.aload_n 0, 1) := by decide +kernel
theorem dX3_begin_29 : decode cX3_begin 29 = .ok (.iconst 5, 1) := by decide +kernel
theorem dX3_begin_30 : decode cX3_begin 30 = .ok (.putfield 99, 3) := by decide +kernel
theorem dX3_begin_33 : decode cX3_begin 33 = .ok (.goto 158, 3) := by decide +kernel
theorem dX3_begin_36 : decode cX3_begin 36 = .ok (.aload_n 0, 1) := by decide +kernel
theorem dX3_begin_37 : decode cX3_begin 37 = .ok (.dup, 1) := by decide +kernel
theorem dX3_begin_38 : decode cX3_begin 38 = .ok (.getfield 102, 3) := by decide +kernel
theorem dX3_begin_41 : decode cX3_begin 41 = .ok (.iconst 1, 1) := by decide +kernel
theorem dX3_begin_42 : decode cX3_begin 42 = .ok (.iadd, 1) := by decide +kernel
theorem dX3_begin_43 : decode cX3_begin 43 = .ok (.putfield 102, 3) := by decide +kernel
theorem dX3_begin_46 : decode cX3_begin 46 = .ok (.aload_n 0, 1) := by decide +kernel
theorem dX3_begin_47 : decode cX3_begin 47 = .ok (.dup, 1) := by decide +kernel
theorem dX3_begin_48 : decode cX3_begin 48 = .ok (.getfield 105, 3) := by decide +kernel
theorem dX3_begin_51 : decode cX3_begin 51 = .ok (.iconst 1, 1) := by decide +kernel
theorem dX3_begin_52 : decode cX3_begin 52 = .ok (.iadd, 1) := by decide +kernel
theorem dX3_begin_53 : decode cX3_begin 53 = .ok (.putfield 105, 3) := by decide +kernel
theorem dX3_begin_56 : decode cX3_begin 56 = .ok (.aload_n 0, 1) := by decide +kernel
theorem dX3_begin_57 : decode cX3_begin 57 = .ok (.getfield 22, 3) := by decide +kernel
theorem dX3_begin_60 : decode cX3_begin 60 = .ok (.iload_n 1, 1) := by decide +kernel
theorem dX3_begin_61 : decode cX3_begin 61 = .ok (.dup2, 1) := by decide +kernel
theorem dX3_begin_62 : decode cX3_begin 62 = .ok (.iaload, 1) := by decide +kernel
theorem dX3_begin_63 : decode cX3_begin 63 = .ok (.iconst 1, 1) := by decide +kernel
theorem dX3_begin_64 : decode cX3_begin 64 = .ok (.iadd, 1) := by decide +kernel
theorem dX3_begin_65 : decode cX3_begin 65 = .ok (.iastore, 1) := by decide +kernel
theorem dX3_begin_66 : decode cX3_begin 66 = .ok (.aload_n 0, 1) := by decide +kernel
theorem dX3_begin_67 : decode cX3_begin 67 = .ok (.getfield 47, 3) := by decide +kernel
theorem dX3_begin_70 : decode cX3_begin 70 = .ok (.aload_n 0, 1) := by decide +kernel
theorem dX3_begin_71 : decode cX3_begin 71 = .ok (.getfield 96, 3) := by decide +kernel
theorem dX3_begin_74 : decode cX3_begin 74 = .ok (.iload_n 1, 1) := by decide +kernel
theorem dX3_begin_75 : decode cX3_begin 75 = .ok (.iastore, 1) := by decide +kernel
theorem dX3_begin_76 : decode cX3_begin 76 = .ok (.aload_n 0, 1) := by decide +kernel
theorem dX3_begin_77 : decode cX3_begin 77 = .ok (.getfield 50, 3) := by decide +kernel
theorem dX3_begin_80 : decode cX3_begin 80 = .ok (.aload_n 0, 1) := by decide +kernel
theorem dX3_begin_81 : decode cX3_begin 81 = .ok (.getfield 96, 3) := by decide +kernel
theorem dX3_begin_84 : decode cX3_begin 84 = .ok (.iconst 0, 1) := by decide +kernel
theorem dX3_begin_85 : decode cX3_begin 85 = .ok (.iastore, 1) := by decide +kernel
theorem dX3_begin_86 : decode cX3_begin 86 = .ok (.aload_n 0, 1) := by decide +kernel
theorem dX3_begin_87 : decode cX3_begin 87 = .ok (.getfield 53, 3) := by decide +kernel
theorem dX3_begin_90 : decode cX3_begin 90 = .ok (.aload_n 0, 1) := by decide +kernel
theorem dX3_begin_91 : decode cX3_begin 91 = .ok (.getfield 96, 3) := by decide +kernel
theorem dX3_begin_94 : decode cX3_begin 94 = .ok (.iload_n 2, 1) := by decide +kernel
theorem dX3_begin_95 : decode cX3_begin 95 = .ok (.iastore, 1) := by decide +kernel
theorem dX3_begin_96 : decode cX3_begin 96 = .ok (.aload_n 0, 1) := by decide +kernel
theorem dX3_begin_97 : decode cX3_begin 97 = .ok (.getfield 56, 3) := by decide +kernel
theorem dX3_begin_100 : decode cX3_begin 100 = .ok (.aload_n 0, 1) := by decide +kernel
theorem dX3_begin_101 : decode cX3_begin 101 = .ok (.getfield 96, 3) := by decide +kernel
theorem dX3_begin_104 : decode cX3_begin 104 = .ok (.iload_n 2, 1) := by decide +kernel
theorem dX3_begin_105 : decode cX3_begin 105 = .ok (.iastore, 1) := by decide +kernel
theorem dX3_begin_106 : decode cX3_begin 106 = .ok (.aload_n 0, 1) := by decide +kernel
theorem dX3_begin_107 : decode cX3_begin 107 = .ok (.getfield 59, 3) := by decide +kernel
theorem dX3_begin_110 : decode cX3_begin 110 = .ok (.aload_n 0, 1) := by decide +kernel
theorem dX3_begin_111 : decode cX3_begin 111 = .ok (.getfield 96, 3) := by decide +kernel
theorem dX3_begin_114 : decode cX3_begin 114 = .ok (.iconst 0, 1) := by decide +kernel
theorem dX3_begin_115 : decode cX3_begin 115 = .ok (.bastore, 1) := by decide +kernel
theorem dX3_begin_116 : decode cX3_begin 116 = .ok (.aload_n 0, 1) := by decide +kernel
theorem dX3_begin_117 : decode cX3_begin 117 = .ok (.getfield 63, 3) := by decide +kernel
theorem dX3_begin_120 : decode cX3_begin 120 = .ok (.aload_n 0, 1) := by decide +kernel
theorem dX3_begin_121 : decode cX3_begin 121 = .ok (.getfield 96, 3) := by decide +kernel
theorem dX3_begin_124 : decode cX3_begin 124 = .ok (.aload_n 0, 1) := by decide +kernel
theorem dX3_begin_125 : decode cX3_begin 125 = .ok (.getfield 108, 3) := by decide +kernel
theorem dX3_begin_128 : decode cX3_begin 128 = .ok (.iastore, 1) := by decide +kernel
theorem dX3_begin_129 : decode cX3_begin 129 = .ok (.aload_n 0, 1) := by decide +kernel
theorem dX3_begin_130 : decode cX3_begin 130 = .ok (.getfield 66, 3) := by decide +kernel
theorem dX3_begin_133 : decode cX3_begin 133 = .ok (.aload_n 0, 1) := by decide +kernel
theorem dX3_begin_134 : decode cX3_begin 134 = .ok (.getfield 96, 3) := by decide +kernel
theorem dX3_begin_137 : decode cX3_begin 137 = .ok (.aload_n 0, 1) := by decide +kernel
theorem dX3_begin_138 : decode cX3_begin 138 = .ok (.getfield 111, 3) := by decide +kernel
theorem dX3_begin_141 : decode cX3_begin 141 = .ok (.iastore, 1) := by decide +kernel
theorem dX3_begin_142 : decode cX3_begin 142 = .ok (.aload_n 0, 1) := by decide +kernel
theorem dX3_begin_143 : decode cX3_begin 143 = .ok (.getfield 69, 3) := by decide +kernel
theorem dX3_begin_146 : decode cX3_begin 146 = .ok (.aload_n 0, 1) := by decide +kernel
theorem dX3_begin_147 : decode cX3_begin 147 = .ok (.getfield 96, 3) := by decide +kernel
theorem dX3_begin_150 : decode cX3_begin 150 = .ok (.aload_n 0, 1) := by decide +kernel
theorem dX3_begin_151 : decode cX3_begin 151 = .ok (.getfield 114, 3) := by decide +kernel
theorem dX3_begin_154 : decode cX3_begin 154 = .ok (.iastore, 1) := by decide +kernel
theorem dX3_begin_155 : decode cX3_begin 155 = .ok (.aload_n 0, 1) := by decide +kernel
theorem dX3_begin_156 : decode cX3_begin 156 = .ok (.dup, 1) := by decide +kernel
theorem dX3_begin_157 : decode cX3_begin 157 = .ok (.getfield 96, 3) := by decide +kernel
theorem dX3_begin_160 : decode cX3_begin 160 = .ok (.iconst 1, 1) := by decide +kernel
theorem dX3_begin_161 : decode cX3_begin 161 = .ok (.iadd, 1) := by decide +kernel
theorem dX3_begin_162 : decode cX3_begin 162 = .ok (.putfield 96, 3) := by decide +kernel
theorem dX3_begin_165 : decode cX3_begin 165 = .ok (.aload_n 0, 1) := by decide +kernel
theorem dX3_begin_166 : decode cX3_begin 166 = .ok (.aload_n 0, 1) := by decide +kernel
theorem dX3_begin_167 : decode cX3_begin 167 = .ok (.getfield 96, 3) := by decide +kernel
theorem dX3_begin_170 : decode cX3_begin 170 = .ok (.aload_n 0, 1) := by decide +kernel
theorem dX3_begin_171 : decode cX3_begin 171 = .ok (.getfield 117, 3) := by decide +kernel
theorem dX3_begin_174 : decode cX3_begin 174 = .ok (.if_icmp .le 10, 3) := by decide +kernel
theorem dX3_begin_177 : decode cX3_begin 177 = .ok (.aload_n 0, 1) := by decide +kernel
theorem dX3_begin_178 : decode cX3_begin 178 = .ok (.getfield 96, 3) := by decide +kernel
theorem dX3_begin_181 : decode cX3_begin 181 = .ok (.goto 7, 3) := by decide +kernel
theorem dX3_begin_184 : decode cX3_begin 184 = .ok (.aload_n 0, 1) := by decide +kernel
theorem dX3_begin_185 : decode cX3_begin 185 = .ok (.getfield 117, 3) := by decide +kernel
theorem dX3_begin_188 : decode cX3_begin 188 = .ok (.putfield 117, 3) := by decide +kernel
theorem dX3_begin_191 : decode cX3_begin 191 = .ok (.return_, 1) := by decide +kernel
set_option maxRecDepth 20000 in
theorem ggX3_asks_X3_begin : GoodIn wsX3_asks wsX3_begin := goodIn_r _ [7, 2, 8, 9, 10, 11, 12, 1, 13, 14, 15, 16, 17, 18, 19, 20, 21, 22, 23, 24, 25, 26, 27, 28, 29, 30, 31, 32, 33, 34, 35, 36, 37, 38, 39, 40, 41, 42, 43, 44, 45, 46, 47, 48, 49, 50, 51, 52, 53, 54, 55, 56, 57, 58] (by decide +kernel) (by decide +kernel)
set_option maxRecDepth 20000 in
theorem gX3_asks_X3_begin : GoodIn wsX3_asks (wsV RX3 120 RX3 yX3_begin wsX3_begin) := goodIn_app (goodIn_of _ (by decide +kernel)) ggX3_asks_X3_begin
theorem dX3_asks_0 : decode cX3_asks 0 = .ok (.aload_n 0, 1) := by decide +kernel
theorem dX3_asks_1 : decode cX3_asks 1 = .ok (.getfield 50, 3) := by decide +kernel
theorem dX3_asks_4 : decode cX3_asks 4 = .ok (.aload_n 0, 1) := by decide +kernel
theorem dX3_asks_5 : decode cX3_asks 5 = .ok (.getfield 96, 3) := by decide +kernel
theorem dX3_asks_8 : decode cX3_asks 8 = .ok (.iconst 1, 1) := by decide +kernel
theorem dX3_asks_9 : decode cX3_asks 9 = .ok (.isub, 1) := by decide +kernel
theorem dX3_asks_10 : decode cX3_asks 10 = .ok (.dup2, 1) := by decide +kernel
theorem dX3_asks_11 : decode cX3_asks 11 = .ok (.iaload, 1) := by decide +kernel
theorem dX3_asks_12 : decode cX3_asks 12 = .ok (.iconst 1, 1) := by decide +kernel
theorem dX3_asks_13 : decode cX3_asks 13 = .ok (.iadd, 1) := by decide +kernel
theorem dX3_asks_14 : decode cX3_asks 14 = .ok (.iastore, 1) := by decide +kernel
theorem dX3_asks_15 : decode cX3_asks 15 = .ok (.aload_n 0, 1) := by decide +kernel
theorem dX3_asks_16 : decode cX3_asks 16 = .ok (.iload_n 1, 1) := by decide +kernel
theorem dX3_asks_17 : decode cX3_asks 17 = .ok (.iload_n 2, 1) := by decide +kernel
theorem dX3_asks_18 : decode cX3_asks 18 = .ok (.invokevirtual 120, 3) := by decide +kernel
theorem dX3_asks_21 : decode cX3_asks 21 = .ok (.return_, 1) := by decide +kernel
theorem dX3_takeBack_0 : decode cX3_takeBack 0 = .ok (.aload_n 0, 1) := by decide +kernel
theorem dX3_takeBack_1 : decode cX3_takeBack 1 = .ok (.aload_n 0, 1) := by decide +kernel
theorem dX3_takeBack_2 : decode cX3_takeBack 2 = .ok (.getfield 63, 3) := by decide +kernel
theorem dX3_takeBack_5 : decode cX3_takeBack 5 = .ok (.iload_n 1, 1) := by decide +kernel
theorem dX3_takeBack_6 : decode cX3_takeBack 6 = .ok (.iaload, 1) := by decide +kernel
theorem dX3_takeBack_7 : decode cX3_takeBack 7 = .ok (.putfield 108, 3) := by decide +kernel
theorem dX3_takeBack_10 : decode cX3_takeBack 10 = .ok (.aload_n 0, 1) := by decide +kernel
theorem dX3_takeBack_11 : decode cX3_takeBack 11 = .ok (.aload_n 0, 1) := by decide +kernel
theorem dX3_takeBack_12 : decode cX3_takeBack 12 = .ok (.getfield 66, 3) := by decide +kernel
theorem dX3_takeBack_15 : decode cX3_takeBack 15 = .ok (.iload_n 1, 1) := by decide +kernel
theorem dX3_takeBack_16 : decode cX3_takeBack 16 = .ok (.iaload, 1) := by decide +kernel
theorem dX3_takeBack_17 : decode cX3_takeBack 17 = .ok (.putfield 111, 3) := by decide +kernel
theorem dX3_takeBack_20 : decode cX3_takeBack 20 = .ok (.aload_n 0, 1) := by decide +kernel
theorem dX3_takeBack_21 : decode cX3_takeBack 21 = .ok (.aload_n 0, 1) := by decide +kernel
theorem dX3_takeBack_22 : decode cX3_takeBack 22 = .ok (.getfield 69, 3) := by decide +kernel
theorem dX3_takeBack_25 : decode cX3_takeBack 25 = .ok (.iload_n 1, 1) := by decide +kernel
theorem dX3_takeBack_26 : decode cX3_takeBack 26 = .ok (.iaload, 1) := by decide +kernel
theorem dX3_takeBack_27 : decode cX3_takeBack 27 = .ok (.putfield 114, 3) := by decide +kernel
theorem dX3_takeBack_30 : decode cX3_takeBack 30 = .ok (.return_, 1) := by decide +kernel
theorem dX3_keep_0 : decode cX3_keep 0 = .ok (.aload_n 0, 1) := by decide +kernel
theorem dX3_keep_1 : decode cX3_keep 1 = .ok (.getfield 72, 3) := by decide +kernel
theorem dX3_keep_4 : decode cX3_keep 4 = .ok (.iload_n 1, 1) := by decide +kernel
theorem dX3_keep_5 : decode cX3_keep 5 = .ok (.aload_n 0, 1) := by decide +kernel
theorem dX3_keep_6 : decode cX3_keep 6 = .ok (.getfield 108, 3) := by decide +kernel
theorem dX3_keep_9 : decode cX3_keep 9 = .ok (.iastore, 1) := by decide +kernel
theorem dX3_keep_10 : decode cX3_keep 10 = .ok (.aload_n 0, 1) := by decide +kernel
theorem dX3_keep_11 : decode cX3_keep 11 = .ok (.getfield 75, 3) := by decide +kernel
theorem dX3_keep_14 : decode cX3_keep 14 = .ok (.iload_n 1, 1) := by decide +kernel
theorem dX3_keep_15 : decode cX3_keep 15 = .ok (.aload_n 0, 1) := by decide +kernel
theorem dX3_keep_16 : decode cX3_keep 16 = .ok (.getfield 111, 3) := by decide +kernel
theorem dX3_keep_19 : decode cX3_keep 19 = .ok (.iastore, 1) := by decide +kernel
theorem dX3_keep_20 : decode cX3_keep 20 = .ok (.aload_n 0, 1) := by decide +kernel
theorem dX3_keep_21 : decode cX3_keep 21 = .ok (.getfield 78, 3) := by decide +kernel
theorem dX3_keep_24 : decode cX3_keep 24 = .ok (.iload_n 1, 1) := by decide +kernel
theorem dX3_keep_25 : decode cX3_keep 25 = .ok (.aload_n 0, 1) := by decide +kernel
theorem dX3_keep_26 : decode cX3_keep 26 = .ok (.getfield 114, 3) := by decide +kernel
theorem dX3_keep_29 : decode cX3_keep 29 = .ok (.iastore, 1) := by decide +kernel
theorem dX3_keep_30 : decode cX3_keep 30 = .ok (.return_, 1) := by decide +kernel
set_option maxRecDepth 20000 in
theorem ggX3_ends_X3_takeBack : GoodIn wsX3_ends wsX3_takeBack := goodIn_r _ [7, 8, 9, 10, 11, 12, 13, 14, 15, 16, 17, 18, 19, 20, 21, 22, 23, 24, 25, 26, 27, 28, 29, 30, 31, 32, 33, 34, 35, 36, 37, 38, 39, 40, 41, 42, 43, 44, 45, 46, 47, 48, 49] (by decide +kernel) (by decide +kernel)
set_option maxRecDepth 20000 in
theorem gX3_ends_X3_takeBack : GoodIn wsX3_ends (wsV RX3 124 RX3 yX3_takeBack wsX3_takeBack) := goodIn_app (goodIn_of _ (by decide +kernel)) ggX3_ends_X3_takeBack
theorem dX3_ends_0 : decode cX3_ends 0 = .ok (.aload_n 0, 1) := by decide +kernel
theorem dX3_ends_1 : decode cX3_ends 1 = .ok (.dup, 1) := by decide +kernel
theorem dX3_ends_2 : decode cX3_ends 2 = .ok (.getfield 96, 3) := by decide +kernel
theorem dX3_ends_5 : decode cX3_ends 5 = .ok (.iconst 1, 1) := by decide +kernel
theorem dX3_ends_6 : decode cX3_ends 6 = .ok (.isub, 1) := by decide +kernel
theorem dX3_ends_7 : decode cX3_ends 7 = .ok (.putfield 96, 3) := by decide +kernel
theorem dX3_ends_10 : decode cX3_ends 10 = .ok (.iload_n 1, 1) := by decide +kernel
theorem dX3_ends_11 : decode cX3_ends 11 = .ok (.iconst (-1), 1) := by decide +kernel
theorem dX3_ends_12 : decode cX3_ends 12 = .ok (.if_icmp .ne 11, 3) := by decide +kernel
theorem dX3_ends_15 : decode cX3_ends 15 = .ok (.aload_n 0, 1) := by decide +kernel
theorem dX3_ends_16 : decode cX3_ends 16 = .ok (.aload_n 0, 1) := by decide +kernel
theorem dX3_ends_17 : decode cX3_ends 17 = .ok (.getfield 96, 3) := by decide +kernel
theorem dX3_ends_20 : decode cX3_ends 20 = .ok (.invokevirtual 124, 3) := by decide +kernel
theorem dX3_ends_23 : decode cX3_ends 23 = .ok (.aload_n 0, 1) := by decide +kernel
theorem dX3_ends_24 : decode cX3_ends 24 = .ok (.iload_n 1, 1) := by decide +kernel
theorem dX3_ends_25 : decode cX3_ends 25 = .ok (.putfield 128, 3) := by decide +kernel
theorem dX3_ends_28 : decode cX3_ends 28 = .ok (.return_, 1) := by decide +kernel
theorem dX3_lay_0 : decode cX3_lay 0 = .ok (.aload_n 0, 1) := by decide +kernel
theorem dX3_lay_1 : decode cX3_lay 1 = .ok (.dup, 1) := by decide +kernel
theorem dX3_lay_2 : decode cX3_lay 2 = .ok (.getfield 111, 3) := by decide +kernel
theorem dX3_lay_5 : decode cX3_lay 5 = .ok (.iconst 1, 1) := by decide +kernel
theorem dX3_lay_6 : decode cX3_lay 6 = .ok (.iadd, 1) := by decide +kernel
theorem dX3_lay_7 : decode cX3_lay 7 = .ok (.putfield 111, 3) := by decide +kernel
theorem dX3_lay_10 : decode cX3_lay 10 = .ok (.aload_n 0, 1) := by decide +kernel
theorem dX3_lay_11 : decode cX3_lay 11 = .ok (.getfield 28, 3) := by decide +kernel
theorem dX3_lay_14 : decode cX3_lay 14 = .ok (.aload_n 0, 1) := by decide +kernel
theorem dX3_lay_15 : decode cX3_lay 15 = .ok (.getfield 111, 3) := by decide +kernel
theorem dX3_lay_18 : decode cX3_lay 18 = .ok (.lload_n 1, 1) := by decide +kernel
theorem dX3_lay_19 : decode cX3_lay 19 = .ok (.lastore, 1) := by decide +kernel
theorem dX3_lay_20 : decode cX3_lay 20 = .ok (.aload_n 0, 1) := by decide +kernel
theorem dX3_lay_21 : decode cX3_lay 21 = .ok (.getfield 32, 3) := by decide +kernel
theorem dX3_lay_24 : decode cX3_lay 24 = .ok (.aload_n 0, 1) := by decide +kernel
theorem dX3_lay_25 : decode cX3_lay 25 = .ok (.getfield 111, 3) := by decide +kernel
theorem dX3_lay_28 : decode cX3_lay 28 = .ok (.iload_n 3, 1) := by decide +kernel
theorem dX3_lay_29 : decode cX3_lay 29 = .ok (.iastore, 1) := by decide +kernel
theorem dX3_lay_30 : decode cX3_lay 30 = .ok (.aload_n 0, 1) := by decide +kernel
theorem dX3_lay_31 : decode cX3_lay 31 = .ok (.getfield 35, 3) := by decide +kernel
theorem dX3_lay_34 : decode cX3_lay 34 = .ok (.aload_n 0, 1) := by decide +kernel
theorem dX3_lay_35 : decode cX3_lay 35 = .ok (.getfield 111, 3) := by decide +kernel
theorem dX3_lay_38 : decode cX3_lay 38 = .ok (.iload_n 3, 1) := by decide +kernel
theorem dX3_lay_39 : decode cX3_lay 39 = .ok (.ifCond .ne 7, 3) := by decide +kernel
theorem dX3_lay_42 : decode cX3_lay 42 = .ok (.iconst 1, 1) := by decide +kernel
theorem dX3_lay_43 : decode cX3_lay 43 = .ok (.goto 11, 3) := by decide +kernel
theorem dX3_lay_46 : decode cX3_lay 46 = .ok (.aload_n 0, 1) := by decide +kernel
theorem dX3_lay_47 : decode cX3_lay 47 = .ok (.getfield 35, 3) := by decide +kernel
theorem dX3_lay_50 : decode cX3_lay 50 = .ok (.iload_n 3, 1) := by decide +kernel
theorem dX3_lay_51 : decode cX3_lay 51 = .ok (.iaload, 1) := by decide +kernel
theorem dX3_lay_52 : decode cX3_lay 52 = .ok (.iconst 1, 1) := by decide +kernel
theorem dX3_lay_53 : decode cX3_lay 53 = .ok (.iadd, 1) := by decide +kernel
theorem dX3_lay_54 : decode cX3_lay 54 = .ok (.iastore, 1) := by decide +kernel
theorem dX3_lay_55 : decode cX3_lay 55 = .ok (.aload_n 0, 1) := by decide +kernel
theorem dX3_lay_56 : decode cX3_lay 56 = .ok (.aload_n 0, 1) := by decide +kernel
theorem dX3_lay_57 : decode cX3_lay 57 = .ok (.getfield 111, 3) := by decide +kernel
theorem dX3_lay_60 : decode cX3_lay 60 = .ok (.putfield 108, 3) := by decide +kernel
theorem dX3_lay_63 : decode cX3_lay 63 = .ok (.return_, 1) := by decide +kernel
theorem dX3_height_0 : decode cX3_height 0 = .ok (.aload_n 0, 1) := by decide +kernel
theorem dX3_height_1 : decode cX3_height 1 = .ok (.getfield 108, 3) := by decide +kernel
theorem dX3_height_4 : decode cX3_height 4 = .ok (.ifCond .ne 7, 3) := by decide +kernel
theorem dX3_height_7 : decode cX3_height 7 = .ok (.iconst 0, 1) := by decide +kernel
theorem dX3_height_8 : decode cX3_height 8 = .ok (.goto 12, 3) := by decide +kernel
theorem dX3_height_11 : decode cX3_height 11 = .ok (.aload_n 0, 1) := by decide +kernel
theorem dX3_height_12 : decode cX3_height 12 = .ok (.getfield 35, 3) := by decide +kernel
theorem dX3_height_15 : decode cX3_height 15 = .ok (.aload_n 0, 1) := by decide +kernel
theorem dX3_height_16 : decode cX3_height 16 = .ok (.getfield 108, 3) := by decide +kernel
theorem dX3_height_19 : decode cX3_height 19 = .ok (.iaload, 1) := by decide +kernel
theorem dX3_height_20 : decode cX3_height 20 = .ok (.ireturn, 1) := by decide +kernel
set_option maxRecDepth 20000 in
theorem ggX3_goesOn_X3_sign : GoodIn wsX3_goesOn wsX3_sign := goodIn_r _ [8, 9, 10, 11, 3, 12, 13, 14, 15, 16, 7, 17, 1, 18, 19, 20, 21, 22, 23, 24, 25, 26, 27, 28, 29, 30, 31, 96, 97, 98, 99, 100, 101, 102, 103, 104, 105, 106, 107, 108, 109, 110, 111, 112, 113, 114, 115, 116, 117, 118, 119, 120, 121, 122, 123, 124, 125, 126, 127, 128, 129, 130, 131] (by decide +kernel) (by decide +kernel)
set_option maxRecDepth 20000 in
theorem gX3_goesOn_X3_sign : GoodIn wsX3_goesOn (wsV RX3 131 RX3 yX3_sign wsX3_sign) := goodIn_app (goodIn_of _ (by decide +kernel)) ggX3_goesOn_X3_sign
set_option maxRecDepth 20000 in
theorem ggX3_goesOn_X3_joins : GoodIn wsX3_goesOn wsX3_joins := goodIn_r _ [35, 9, 36, 3, 12, 18, 13, 37, 38, 39, 40, 7, 41, 42, 24, 43, 26, 44, 28, 45, 46, 47, 48, 1, 49, 50, 51, 52, 53, 54, 55, 56, 2, 57, 23, 25, 27, 58, 14, 15, 16, 17, 19, 20, 21, 22, 59, 60, 61, 62, 96, 97, 98, 99, 100, 101, 102, 103, 104, 105, 106, 107, 108, 109, 110, 111, 112, 113, 114, 115, 116, 117, 118, 119, 120, 121, 122, 123, 124, 125, 126, 127, 128, 129, 130, 131] (by decide +kernel) (by decide +kernel)
set_option maxRecDepth 20000 in
theorem gX3_goesOn_X3_joins : GoodIn wsX3_goesOn (wsV RX3 134 RX3 yX3_joins wsX3_joins) := goodIn_app (goodIn_of _ (by decide +kernel)) ggX3_goesOn_X3_joins
set_option maxRecDepth 20000 in
theorem ggX3_goesOn_X3_others : GoodIn wsX3_goesOn wsX3_others := goodIn_r _ [66, 9, 3, 36, 18, 67, 12, 53, 68, 28, 13, 69, 70, 24, 14, 15, 16, 7, 17, 1, 19, 20, 21, 22, 23, 25, 26, 27, 45, 46, 47, 48, 49, 50, 51, 52, 54, 55, 56, 2, 57, 37, 58, 71, 72, 73, 74, 75, 76, 77, 78, 79, 80, 81, 82, 83, 84, 85, 10, 11, 86, 87, 29, 30, 31, 88, 89, 90, 91, 92, 93, 94, 95, 96, 97, 98, 99, 100, 101, 102, 103, 104, 105, 106, 107, 108, 109, 110, 111, 112, 113, 114, 115, 116, 117, 118, 119, 120, 121, 122, 123, 124, 125, 126, 127, 128, 129, 130, 131] (by decide +kernel) (by decide +kernel)
set_option maxRecDepth 20000 in
theorem gX3_goesOn_X3_others : GoodIn wsX3_goesOn (wsV RX3 137 RX3 yX3_others wsX3_others) := goodIn_app (goodIn_of _ (by decide +kernel)) ggX3_goesOn_X3_others
theorem dX3_goesOn_0 : decode cX3_goesOn 0 = .ok (.aload_n 0, 1) := by decide +kernel
theorem dX3_goesOn_1 : decode cX3_goesOn 1 = .ok (.getfield 96, 3) := by decide +kernel
theorem dX3_goesOn_4 : decode cX3_goesOn 4 = .ok (.iconst 1, 1) := by decide +kernel
theorem dX3_goesOn_5 : decode cX3_goesOn 5 = .ok (.isub, 1) := by decide +kernel
theorem dX3_goesOn_6 : decode cX3_goesOn 6 = .ok (.istore_n 1, 1) := by decide +kernel
theorem dX3_goesOn_7 : decode cX3_goesOn 7 = .ok (.aload_n 0, 1) := by decide +kernel
theorem dX3_goesOn_8 : decode cX3_goesOn 8 = .ok (.getfield 47, 3) := by decide +kernel
theorem dX3_goesOn_11 : decode cX3_goesOn 11 = .ok (.iload_n 1, 1) := by decide +kernel
theorem dX3_goesOn_12 : decode cX3_goesOn 12 = .ok (.iaload, 1) := by decide +kernel
theorem dX3_goesOn_13 : decode cX3_goesOn 13 = .ok (.istore_n 2, 1) := by decide +kernel
theorem dX3_goesOn_14 : decode cX3_goesOn 14 = .ok (.aload_n 0, 1) := by decide +kernel
theorem dX3_goesOn_15 : decode cX3_goesOn 15 = .ok (.getfield 13, 3) := by decide +kernel
theorem dX3_goesOn_18 : decode cX3_goesOn 18 = .ok (.iload_n 2, 1) := by decide +kernel
theorem dX3_goesOn_19 : decode cX3_goesOn 19 = .ok (.iaload, 1) := by decide +kernel
theorem dX3_goesOn_20 : decode cX3_goesOn 20 = .ok (.istore_n 3, 1) := by decide +kernel
theorem dX3_goesOn_21 : decode cX3_goesOn 21 = .ok (.iload_n 3, 1) := by decide +kernel
theorem dX3_goesOn_22 : decode cX3_goesOn 22 = .ok (.iconst 4, 1) := by decide +kernel
theorem dX3_goesOn_23 : decode cX3_goesOn 23 = .ok (.if_icmp .ge 12, 3) := by decide +kernel
theorem dX3_goesOn_26 : decode cX3_goesOn 26 = .ok (.aload_n 0, 1) := by decide +kernel
theorem dX3_goesOn_27 : decode cX3_goesOn 27 = .ok (.iload_n 1, 1) := by decide +kernel
theorem dX3_goesOn_28 : decode cX3_goesOn 28 = .ok (.iload_n 2, 1) := by decide +kernel
theorem dX3_goesOn_29 : decode cX3_goesOn 29 = .ok (.invokevirtual 131, 3) := by decide +kernel
theorem dX3_goesOn_32 : decode cX3_goesOn 32 = .ok (.goto 24, 3) := by decide +kernel
theorem dX3_goesOn_35 : decode cX3_goesOn 35 = .ok (.iload_n 3, 1) := by decide +kernel
theorem dX3_goesOn_36 : decode cX3_goesOn 36 = .ok (.bipush 10, 2) := by decide +kernel
theorem dX3_goesOn_38 : decode cX3_goesOn 38 = .ok (.if_icmp .ge 12, 3) := by decide +kernel
theorem dX3_goesOn_41 : decode cX3_goesOn 41 = .ok (.aload_n 0, 1) := by decide +kernel
theorem dX3_goesOn_42 : decode cX3_goesOn 42 = .ok (.iload_n 1, 1) := by decide +kernel
theorem dX3_goesOn_43 : decode cX3_goesOn 43 = .ok (.iload_n 2, 1) := by decide +kernel
theorem dX3_goesOn_44 : decode cX3_goesOn 44 = .ok (.invokevirtual 134, 3) := by decide +kernel
theorem dX3_goesOn_47 : decode cX3_goesOn 47 = .ok (.goto 9, 3) := by decide +kernel
theorem dX3_goesOn_50 : decode cX3_goesOn 50 = .ok (.aload_n 0, 1) := by decide +kernel
theorem dX3_goesOn_51 : decode cX3_goesOn 51 = .ok (.iload_n 1, 1) := by decide +kernel
theorem dX3_goesOn_52 : decode cX3_goesOn 52 = .ok (.iload_n 2, 1) := by decide +kernel
theorem dX3_goesOn_53 : decode cX3_goesOn 53 = .ok (.invokevirtual 137, 3) := by decide +kernel
theorem dX3_goesOn_56 : decode cX3_goesOn 56 = .ok (.return_, 1) := by decide +kernel
set_option maxRecDepth 20000 in
theorem ggX3_sign_X3_ends : GoodIn wsX3_sign wsX3_ends := goodIn_r _ [11, 12, 13, 14, 15, 16, 10, 17, 18, 19, 20, 21, 22, 23, 27, 28, 29, 30, 31, 32, 33, 34, 35, 36, 37, 38, 39, 40, 41, 42, 43, 44, 45, 46, 47, 48, 49, 50, 51, 52, 53, 54, 55, 56, 57, 58, 59, 60, 61, 62] (by decide +kernel) (by decide +kernel)
set_option maxRecDepth 20000 in
theorem gX3_sign_X3_ends : GoodIn wsX3_sign (wsV RX3 140 RX3 yX3_ends wsX3_ends) := goodIn_app (goodIn_of _ (by decide +kernel)) ggX3_sign_X3_ends
set_option maxRecDepth 20000 in
theorem ggX3_sign_X3_in : GoodIn wsX3_sign wsX3_in := goodIn_r _ [26] (by decide +kernel) (by decide +kernel)
set_option maxRecDepth 20000 in
theorem gX3_sign_X3_in : GoodIn wsX3_sign (va_wsS RX3 85 yX3_in wsX3_in) := goodIn_app (goodIn_of _ (by decide +kernel)) ggX3_sign_X3_in
theorem dX3_sign_0 : decode cX3_sign 0 = .ok (.aload_n 0, 1) := by decide +kernel
theorem dX3_sign_1 : decode cX3_sign 1 = .ok (.getfield 53, 3) := by decide +kernel
theorem dX3_sign_4 : decode cX3_sign 4 = .ok (.iload_n 1, 1) := by decide +kernel
theorem dX3_sign_5 : decode cX3_sign 5 = .ok (.iaload, 1) := by decide +kernel
theorem dX3_sign_6 : decode cX3_sign 6 = .ok (.istore_n 3, 1) := by decide +kernel
theorem dX3_sign_7 : decode cX3_sign 7 = .ok (.iload_n 3, 1) := by decide +kernel
theorem dX3_sign_8 : decode cX3_sign 8 = .ok (.aload_n 0, 1) := by decide +kernel
theorem dX3_sign_9 : decode cX3_sign 9 = .ok (.getfield 89, 3) := by decide +kernel
theorem dX3_sign_12 : decode cX3_sign 12 = .ok (.if_icmp .ge 7, 3) := by decide +kernel
theorem dX3_sign_15 : decode cX3_sign 15 = .ok (.iconst 1, 1) := by decide +kernel
theorem dX3_sign_16 : decode cX3_sign 16 = .ok (.goto 4, 3) := by decide +kernel
theorem dX3_sign_19 : decode cX3_sign 19 = .ok (.iconst 0, 1) := by decide +kernel
theorem dX3_sign_20 : decode cX3_sign 20 = .ok (.istore 4, 2) := by decide +kernel
theorem dX3_sign_22 : decode cX3_sign 22 = .ok (.iload 4, 2) := by decide +kernel
theorem dX3_sign_24 : decode cX3_sign 24 = .ok (.ifCond .eq 12, 3) := by decide +kernel
theorem dX3_sign_27 : decode cX3_sign 27 = .ok (.aload_n 0, 1) := by decide +kernel
theorem dX3_sign_28 : decode cX3_sign 28 = .ok (.getfield 7, 3) := by decide +kernel
theorem dX3_sign_31 : decode cX3_sign 31 = .ok (.iload_n 3, 1) := by decide +kernel
theorem dX3_sign_32 : decode cX3_sign 32 = .ok (.iaload, 1) := by decide +kernel
theorem dX3_sign_33 : decode cX3_sign 33 = .ok (.goto 4, 3) := by decide +kernel
theorem dX3_sign_36 : decode cX3_sign 36 = .ok (.iconst (-1), 1) := by decide +kernel
theorem dX3_sign_37 : decode cX3_sign 37 = .ok (.istore 5, 2) := by decide +kernel
theorem dX3_sign_39 : decode cX3_sign 39 = .ok (.aload_n 0, 1) := by decide +kernel
theorem dX3_sign_40 : decode cX3_sign 40 = .ok (.getfield 13, 3) := by decide +kernel
theorem dX3_sign_43 : decode cX3_sign 43 = .ok (.iload_n 2, 1) := by decide +kernel
theorem dX3_sign_44 : decode cX3_sign 44 = .ok (.iaload, 1) := by decide +kernel
theorem dX3_sign_45 : decode cX3_sign 45 = .ok (.tableswitch 115 0 2 #[27, 57, 96], 27) := by decide +kernel
