theorem dX3_sign_72 : decode cX3_sign 72 = .ok (.aload_n 0, 1) := by decide +kernel
theorem dX3_sign_73 : decode cX3_sign 73 = .ok (.iload 4, 2) := by decide +kernel
theorem dX3_sign_75 : decode cX3_sign 75 = .ok (.ifCond .eq 20, 3) := by decide +kernel
theorem dX3_sign_78 : decode cX3_sign 78 = .ok (.iload 5, 2) := by decide +kernel
theorem dX3_sign_80 : decode cX3_sign 80 = .ok (.aload_n 0, 1) := by decide +kernel
theorem dX3_sign_81 : decode cX3_sign 81 = .ok (.getfield 16, 3) := by decide +kernel
theorem dX3_sign_84 : decode cX3_sign 84 = .ok (.iload_n 2, 1) := by decide +kernel
theorem dX3_sign_85 : decode cX3_sign 85 = .ok (.iaload, 1) := by decide +kernel
theorem dX3_sign_86 : decode cX3_sign 86 = .ok (.if_icmp .ne 9, 3) := by decide +kernel
theorem dX3_sign_89 : decode cX3_sign 89 = .ok (.iload_n 3, 1) := by decide +kernel
theorem dX3_sign_90 : decode cX3_sign 90 = .ok (.iconst 1, 1) := by decide +kernel
theorem dX3_sign_91 : decode cX3_sign 91 = .ok (.iadd, 1) := by decide +kernel
theorem dX3_sign_92 : decode cX3_sign 92 = .ok (.goto 4, 3) := by decide +kernel
theorem dX3_sign_95 : decode cX3_sign 95 = .ok (.iconst (-1), 1) := by decide +kernel
theorem dX3_sign_96 : decode cX3_sign 96 = .ok (.invokevirtual 140, 3) := by decide +kernel
theorem dX3_sign_99 : decode cX3_sign 99 = .ok (.goto 75, 3) := by decide +kernel
theorem dX3_sign_102 : decode cX3_sign 102 = .ok (.aload_n 0, 1) := by decide +kernel
theorem dX3_sign_103 : decode cX3_sign 103 = .ok (.iload 4, 2) := by decide +kernel
theorem dX3_sign_105 : decode cX3_sign 105 = .ok (.ifCond .eq 29, 3) := by decide +kernel
theorem dX3_sign_108 : decode cX3_sign 108 = .ok (.iload 5, 2) := by decide +kernel
theorem dX3_sign_110 : decode cX3_sign 110 = .ok (.aload_n 0, 1) := by decide +kernel
theorem dX3_sign_111 : decode cX3_sign 111 = .ok (.getfield 16, 3) := by decide +kernel
theorem dX3_sign_114 : decode cX3_sign 114 = .ok (.iload_n 2, 1) := by decide +kernel
theorem dX3_sign_115 : decode cX3_sign 115 = .ok (.iaload, 1) := by decide +kernel
theorem dX3_sign_116 : decode cX3_sign 116 = .ok (.aload_n 0, 1) := by decide +kernel
theorem dX3_sign_117 : decode cX3_sign 117 = .ok (.getfield 19, 3) := by decide +kernel
theorem dX3_sign_120 : decode cX3_sign 120 = .ok (.iload_n 2, 1) := by decide +kernel
theorem dX3_sign_121 : decode cX3_sign 121 = .ok (.iaload, 1) := by decide +kernel
theorem dX3_sign_122 : decode cX3_sign 122 = .ok (.invokestatic 85, 3) := by decide +kernel
theorem dX3_sign_125 : decode cX3_sign 125 = .ok (.ifCond .eq 9, 3) := by decide +kernel
theorem dX3_sign_128 : decode cX3_sign 128 = .ok (.iload_n 3, 1) := by decide +kernel
theorem dX3_sign_129 : decode cX3_sign 129 = .ok (.iconst 1, 1) := by decide +kernel
theorem dX3_sign_130 : decode cX3_sign 130 = .ok (.iadd, 1) := by decide +kernel
theorem dX3_sign_131 : decode cX3_sign 131 = .ok (.goto 4, 3) := by decide +kernel
theorem dX3_sign_134 : decode cX3_sign 134 = .ok (.iconst (-1), 1) := by decide +kernel
theorem dX3_sign_135 : decode cX3_sign 135 = .ok (.invokevirtual 140, 3) := by decide +kernel
theorem dX3_sign_138 : decode cX3_sign 138 = .ok (.goto 36, 3) := by decide +kernel
theorem dX3_sign_141 : decode cX3_sign 141 = .ok (.aload_n 0, 1) := by decide +kernel
theorem dX3_sign_142 : decode cX3_sign 142 = .ok (.iload 4, 2) := by decide +kernel
theorem dX3_sign_144 : decode cX3_sign 144 = .ok (.ifCond .eq 9, 3) := by decide +kernel
theorem dX3_sign_147 : decode cX3_sign 147 = .ok (.iload_n 3, 1) := by decide +kernel
theorem dX3_sign_148 : decode cX3_sign 148 = .ok (.iconst 1, 1) := by decide +kernel
theorem dX3_sign_149 : decode cX3_sign 149 = .ok (.iadd, 1) := by decide +kernel
theorem dX3_sign_150 : decode cX3_sign 150 = .ok (.goto 4, 3) := by decide +kernel
theorem dX3_sign_153 : decode cX3_sign 153 = .ok (.iconst (-1), 1) := by decide +kernel
theorem dX3_sign_154 : decode cX3_sign 154 = .ok (.invokevirtual 140, 3) := by decide +kernel
theorem dX3_sign_157 : decode cX3_sign 157 = .ok (.goto 17, 3) := by decide +kernel
theorem dX3_sign_160 : decode cX3_sign 160 = .ok (.aload_n 0, 1) := by decide +kernel
theorem dX3_sign_161 : decode cX3_sign 161 = .ok (.iload 4, 2) := by decide +kernel
theorem dX3_sign_163 : decode cX3_sign 163 = .ok (.ifCond .eq 7, 3) := by decide +kernel
theorem dX3_sign_166 : decode cX3_sign 166 = .ok (.iconst (-1), 1) := by decide +kernel
theorem dX3_sign_167 : decode cX3_sign 167 = .ok (.goto 4, 3) := by decide +kernel
theorem dX3_sign_170 : decode cX3_sign 170 = .ok (.iload_n 3, 1) := by decide +kernel
theorem dX3_sign_171 : decode cX3_sign 171 = .ok (.invokevirtual 140, 3) := by decide +kernel
theorem dX3_sign_174 : decode cX3_sign 174 = .ok (.return_, 1) := by decide +kernel
set_option maxRecDepth 20000 in
theorem ggX3_joins_X3_keep : GoodIn wsX3_joins wsX3_keep := goodIn_r _ [12, 13, 14, 15, 16, 17, 18, 50, 51, 52, 53, 54, 55, 56, 57, 58, 59, 60, 61, 62, 63, 64, 65, 66, 67, 68, 69, 70, 71, 72, 73, 74, 75, 76, 77, 78, 79, 80, 81, 82, 83, 84, 85] (by decide +kernel) (by decide +kernel)
set_option maxRecDepth 20000 in
theorem gX3_joins_X3_keep : GoodIn wsX3_joins (wsV RX3 143 RX3 yX3_keep wsX3_keep) := goodIn_app (goodIn_of _ (by decide +kernel)) ggX3_joins_X3_keep
set_option maxRecDepth 20000 in
theorem ggX3_joins_X3_asks : GoodIn wsX3_joins wsX3_asks := goodIn_r _ [22, 2, 23, 24, 25, 26, 11, 27, 28, 29, 30, 31, 32, 1, 33, 7, 34, 14, 35, 16, 36, 18, 37, 50, 51, 52, 53, 54, 55, 56, 57, 58, 59, 60, 61, 62, 63, 64, 65, 66, 67, 68, 69, 70, 71, 72, 73, 74, 75, 76, 77, 78, 79, 80, 81, 82, 83, 84, 85] (by decide +kernel) (by decide +kernel)
set_option maxRecDepth 20000 in
theorem gX3_joins_X3_asks : GoodIn wsX3_joins (wsV RX3 146 RX3 yX3_asks wsX3_asks) := goodIn_app (goodIn_of _ (by decide +kernel)) ggX3_joins_X3_asks
set_option maxRecDepth 20000 in
theorem ggX3_joins_X3_ends : GoodIn wsX3_joins wsX3_ends := goodIn_r _ [41, 23, 5, 42, 43, 44, 11, 45, 34, 14, 35, 16, 36, 18, 50, 51, 52, 53, 54, 55, 56, 57, 58, 59, 60, 61, 62, 63, 64, 65, 66, 67, 68, 69, 70, 71, 72, 73, 74, 75, 76, 77, 78, 79, 80, 81, 82, 83, 84, 85] (by decide +kernel) (by decide +kernel)
set_option maxRecDepth 20000 in
theorem gX3_joins_X3_ends : GoodIn wsX3_joins (wsV RX3 140 RX3 yX3_ends wsX3_ends) := goodIn_app (goodIn_of _ (by decide +kernel)) ggX3_joins_X3_ends
set_option maxRecDepth 20000 in
theorem ggX3_joins_X3_again : GoodIn wsX3_joins wsX3_again := goodIn_r _ [49, 5, 33, 4, 13, 14, 15, 16, 17, 18, 8, 9, 10, 11, 12, 19, 20, 21, 22, 2, 23, 24, 25, 26, 27, 28, 29, 30, 31, 32, 1, 7, 34, 35, 36, 37, 38, 39, 40, 41, 42, 43, 44, 45, 50, 51, 52, 53, 54, 55, 56, 57, 58, 59, 60, 61, 62, 63, 64, 65, 66, 67, 68, 69, 70, 71, 72, 73, 74, 75, 76, 77, 78, 79, 80, 81, 82, 83, 84, 85] (by decide +kernel) (by decide +kernel)
set_option maxRecDepth 20000 in
theorem gX3_joins_X3_again : GoodIn wsX3_joins (wsV RX3 149 RX3 yX3_again wsX3_again) := goodIn_app (goodIn_of _ (by decide +kernel)) ggX3_joins_X3_again
set_option maxRecDepth 20000 in
theorem ggX3_joins_X3_takeBack : GoodIn wsX3_joins wsX3_takeBack := goodIn_r _ [45, 34, 14, 35, 16, 36, 18, 50, 51, 52, 53, 54, 55, 56, 57, 58, 59, 60, 61, 62, 63, 64, 65, 66, 67, 68, 69, 70, 71, 72, 73, 74, 75, 76, 77, 78, 79, 80, 81, 82, 83, 84, 85] (by decide +kernel) (by decide +kernel)
set_option maxRecDepth 20000 in
theorem gX3_joins_X3_takeBack : GoodIn wsX3_joins (wsV RX3 124 RX3 yX3_takeBack wsX3_takeBack) := goodIn_app (goodIn_of _ (by decide +kernel)) ggX3_joins_X3_takeBack
theorem dX3_joins_0 : decode cX3_joins 0 = .ok (.aload_n 0, 1) := by decide +kernel
theorem dX3_joins_1 : decode cX3_joins 1 = .ok (.getfield 53, 3) := by decide +kernel
theorem dX3_joins_4 : decode cX3_joins 4 = .ok (.iload_n 1, 1) := by decide +kernel
theorem dX3_joins_5 : decode cX3_joins 5 = .ok (.iaload, 1) := by decide +kernel
theorem dX3_joins_6 : decode cX3_joins 6 = .ok (.istore_n 3, 1) := by decide +kernel
theorem dX3_joins_7 : decode cX3_joins 7 = .ok (.aload_n 0, 1) := by decide +kernel
theorem dX3_joins_8 : decode cX3_joins 8 = .ok (.getfield 50, 3) := by decide +kernel
theorem dX3_joins_11 : decode cX3_joins 11 = .ok (.iload_n 1, 1) := by decide +kernel
theorem dX3_joins_12 : decode cX3_joins 12 = .ok (.iaload, 1) := by decide +kernel
theorem dX3_joins_13 : decode cX3_joins 13 = .ok (.ifCond .ne 31, 3) := by decide +kernel
theorem dX3_joins_16 : decode cX3_joins 16 = .ok (.aload_n 0, 1) := by decide +kernel
theorem dX3_joins_17 : decode cX3_joins 17 = .ok (.getfield 13, 3) := by decide +kernel
theorem dX3_joins_20 : decode cX3_joins 20 = .ok (.iload_n 2, 1) := by decide +kernel
theorem dX3_joins_21 : decode cX3_joins 21 = .ok (.iaload, 1) := by decide +kernel
theorem dX3_joins_22 : decode cX3_joins 22 = .ok (.bipush 6, 2) := by decide +kernel
theorem dX3_joins_24 : decode cX3_joins 24 = .ok (.if_icmp .ne 8, 3) := by decide +kernel
theorem dX3_joins_27 : decode cX3_joins 27 = .ok (.aload_n 0, 1) := by decide +kernel
theorem dX3_joins_28 : decode cX3_joins 28 = .ok (.iload_n 1, 1) := by decide +kernel
theorem dX3_joins_29 : decode cX3_joins 29 = .ok (.invokevirtual 143, 3) := by decide +kernel
theorem dX3_joins_32 : decode cX3_joins 32 = .ok (.aload_n 0, 1) := by decide +kernel
theorem dX3_joins_33 : decode cX3_joins 33 = .ok (.aload_n 0, 1) := by decide +kernel
theorem dX3_joins_34 : decode cX3_joins 34 = .ok (.getfield 16, 3) := by decide +kernel
theorem dX3_joins_37 : decode cX3_joins 37 = .ok (.iload_n 2, 1) := by decide +kernel
theorem dX3_joins_38 : decode cX3_joins 38 = .ok (.iaload, 1) := by decide +kernel
theorem dX3_joins_39 : decode cX3_joins 39 = .ok (.iload_n 3, 1) := by decide +kernel
theorem dX3_joins_40 : decode cX3_joins 40 = .ok (.invokevirtual 146, 3) := by decide +kernel
theorem dX3_joins_43 : decode cX3_joins 43 = .ok (.return_, 1) := by decide +kernel
theorem dX3_joins_44 : decode cX3_joins 44 = .ok (.aload_n 0, 1) := by decide +kernel
theorem dX3_joins_45 : decode cX3_joins 45 = .ok (.getfield 128, 3) := by decide +kernel
theorem dX3_joins_48 : decode cX3_joins 48 = .ok (.iconst (-1), 1) := by decide +kernel
theorem dX3_joins_49 : decode cX3_joins 49 = .ok (.if_icmp .ne 7, 3) := by decide +kernel
theorem dX3_joins_52 : decode cX3_joins 52 = .ok (.iconst 1, 1) := by decide +kernel
theorem dX3_joins_53 : decode cX3_joins 53 = .ok (.goto 4, 3) := by decide +kernel
theorem dX3_joins_56 : decode cX3_joins 56 = .ok (.iconst 0, 1) := by decide +kernel
theorem dX3_joins_57 : decode cX3_joins 57 = .ok (.istore 4, 2) := by decide +kernel
theorem dX3_joins_59 : decode cX3_joins 59 = .ok (.aload_n 0, 1) := by decide +kernel
theorem dX3_joins_60 : decode cX3_joins 60 = .ok (.getfield 13, 3) := by decide +kernel
theorem dX3_joins_63 : decode cX3_joins 63 = .ok (.iload_n 2, 1) := by decide +kernel
theorem dX3_joins_64 : decode cX3_joins 64 = .ok (.iaload, 1) := by decide +kernel
theorem dX3_joins_65 : decode cX3_joins 65 = .ok (.tableswitch 175 4 8 #[35, 78, 127, 138, 158], 35) := by decide +kernel
theorem dX3_joins_100 : decode cX3_joins 100 = .ok (.aload_n 0, 1) := by decide +kernel
theorem dX3_joins_101 : decode cX3_joins 101 = .ok (.getfield 50, 3) := by decide +kernel
theorem dX3_joins_104 : decode cX3_joins 104 = .ok (.iload_n 1, 1) := by decide +kernel
theorem dX3_joins_105 : decode cX3_joins 105 = .ok (.iaload, 1) := by decide +kernel
theorem dX3_joins_106 : decode cX3_joins 106 = .ok (.iconst 1, 1) := by decide +kernel
theorem dX3_joins_107 : decode cX3_joins 107 = .ok (.if_icmp .ne 25, 3) := by decide +kernel
theorem dX3_joins_110 : decode cX3_joins 110 = .ok (.iload 4, 2) := by decide +kernel
theorem dX3_joins_112 : decode cX3_joins 112 = .ok (.ifCond .ne 20, 3) := by decide +kernel
theorem dX3_joins_115 : decode cX3_joins 115 = .ok (.aload_n 0, 1) := by decide +kernel
theorem dX3_joins_116 : decode cX3_joins 116 = .ok (.aload_n 0, 1) := by decide +kernel
theorem dX3_joins_117 : decode cX3_joins 117 = .ok (.getfield 19, 3) := by decide +kernel
theorem dX3_joins_120 : decode cX3_joins 120 = .ok (.iload_n 2, 1) := by decide +kernel
theorem dX3_joins_121 : decode cX3_joins 121 = .ok (.iaload, 1) := by decide +kernel
theorem dX3_joins_122 : decode cX3_joins 122 = .ok (.aload_n 0, 1) := by decide +kernel
theorem dX3_joins_123 : decode cX3_joins 123 = .ok (.getfield 128, 3) := by decide +kernel
theorem dX3_joins_126 : decode cX3_joins 126 = .ok (.invokevirtual 146, 3) := by decide +kernel
theorem dX3_joins_129 : decode cX3_joins 129 = .ok (.goto 135, 3) := by decide +kernel
theorem dX3_joins_132 : decode cX3_joins 132 = .ok (.aload_n 0, 1) := by decide +kernel
theorem dX3_joins_133 : decode cX3_joins 133 = .ok (.aload_n 0, 1) := by decide +kernel
theorem dX3_joins_134 : decode cX3_joins 134 = .ok (.getfield 128, 3) := by decide +kernel
theorem dX3_joins_137 : decode cX3_joins 137 = .ok (.invokevirtual 140, 3) := by decide +kernel
theorem dX3_joins_140 : decode cX3_joins 140 = .ok (.goto 124, 3) := by decide +kernel
theorem dX3_joins_143 : decode cX3_joins 143 = .ok (.aload_n 0, 1) := by decide +kernel
theorem dX3_joins_144 : decode cX3_joins 144 = .ok (.getfield 50, 3) := by decide +kernel
theorem dX3_joins_147 : decode cX3_joins 147 = .ok (.iload_n 1, 1) := by decide +kernel
theorem dX3_joins_148 : decode cX3_joins 148 = .ok (.iaload, 1) := by decide +kernel
theorem dX3_joins_149 : decode cX3_joins 149 = .ok (.iconst 1, 1) := by decide +kernel
theorem dX3_joins_150 : decode cX3_joins 150 = .ok (.if_icmp .ne 31, 3) := by decide +kernel
theorem dX3_joins_153 : decode cX3_joins 153 = .ok (.iload 4, 2) := by decide +kernel
theorem dX3_joins_155 : decode cX3_joins 155 = .ok (.ifCond .eq 26, 3) := by decide +kernel
theorem dX3_joins_158 : decode cX3_joins 158 = .ok (.aload_n 0, 1) := by decide +kernel
theorem dX3_joins_159 : decode cX3_joins 159 = .ok (.getfield 59, 3) := by decide +kernel
theorem dX3_joins_162 : decode cX3_joins 162 = .ok (.iload_n 1, 1) := by decide +kernel
theorem dX3_joins_163 : decode cX3_joins 163 = .ok (.baload, 1) := by decide +kernel
theorem dX3_joins_164 : decode cX3_joins 164 = .ok (.ifCond .ne 17, 3) := by decide +kernel
theorem dX3_joins_167 : decode cX3_joins 167 = .ok (.aload_n 0, 1) := by decide +kernel
theorem dX3_joins_168 : decode cX3_joins 168 = .ok (.aload_n 0, 1) := by decide +kernel
theorem dX3_joins_169 : decode cX3_joins 169 = .ok (.getfield 19, 3) := by decide +kernel
theorem dX3_joins_172 : decode cX3_joins 172 = .ok (.iload_n 2, 1) := by decide +kernel
theorem dX3_joins_173 : decode cX3_joins 173 = .ok (.iaload, 1) := by decide +kernel
theorem dX3_joins_174 : decode cX3_joins 174 = .ok (.iload_n 3, 1) := by decide +kernel
theorem dX3_joins_175 : decode cX3_joins 175 = .ok (.invokevirtual 146, 3) := by decide +kernel
theorem dX3_joins_178 : decode cX3_joins 178 = .ok (.goto 86, 3) := by decide +kernel
theorem dX3_joins_181 : decode cX3_joins 181 = .ok (.aload_n 0, 1) := by decide +kernel
theorem dX3_joins_182 : decode cX3_joins 182 = .ok (.aload_n 0, 1) := by decide +kernel
theorem dX3_joins_183 : decode cX3_joins 183 = .ok (.getfield 128, 3) := by decide +kernel
theorem dX3_joins_186 : decode cX3_joins 186 = .ok (.invokevirtual 140, 3) := by decide +kernel
theorem dX3_joins_189 : decode cX3_joins 189 = .ok (.goto 75, 3) := by decide +kernel
theorem dX3_joins_192 : decode cX3_joins 192 = .ok (.aload_n 0, 1) := by decide +kernel
theorem dX3_joins_193 : decode cX3_joins 193 = .ok (.iload_n 1, 1) := by decide +kernel
theorem dX3_joins_194 : decode cX3_joins 194 = .ok (.iload_n 2, 1) := by decide +kernel
theorem dX3_joins_195 : decode cX3_joins 195 = .ok (.iload 4, 2) := by decide +kernel
theorem dX3_joins_197 : decode cX3_joins 197 = .ok (.invokevirtual 149, 3) := by decide +kernel
theorem dX3_joins_200 : decode cX3_joins 200 = .ok (.goto 64, 3) := by decide +kernel
theorem dX3_joins_203 : decode cX3_joins 203 = .ok (.aload_n 0, 1) := by decide +kernel
theorem dX3_joins_204 : decode cX3_joins 204 = .ok (.iload 4, 2) := by decide +kernel
theorem dX3_joins_206 : decode cX3_joins 206 = .ok (.ifCond .eq 7, 3) := by decide +kernel
theorem dX3_joins_209 : decode cX3_joins 209 = .ok (.iload_n 3, 1) := by decide +kernel
theorem dX3_joins_210 : decode cX3_joins 210 = .ok (.goto 7, 3) := by decide +kernel
theorem dX3_joins_213 : decode cX3_joins 213 = .ok (.aload_n 0, 1) := by decide +kernel
theorem dX3_joins_214 : decode cX3_joins 214 = .ok (.getfield 128, 3) := by decide +kernel
theorem dX3_joins_217 : decode cX3_joins 217 = .ok (.invokevirtual 140, 3) := by decide +kernel
theorem dX3_joins_220 : decode cX3_joins 220 = .ok (.goto 44, 3) := by decide +kernel
theorem dX3_joins_223 : decode cX3_joins 223 = .ok (.aload_n 0, 1) := by decide +kernel
theorem dX3_joins_224 : decode cX3_joins 224 = .ok (.iload 4, 2) := by decide +kernel
theorem dX3_joins_226 : decode cX3_joins 226 = .ok (.ifCond .eq 7, 3) := by decide +kernel
theorem dX3_joins_229 : decode cX3_joins 229 = .ok (.iload_n 3, 1) := by decide +kernel
theorem dX3_joins_230 : decode cX3_joins 230 = .ok (.goto 4, 3) := by decide +kernel
theorem dX3_joins_233 : decode cX3_joins 233 = .ok (.iconst (-1), 1) := by decide +kernel
theorem dX3_joins_234 : decode cX3_joins 234 = .ok (.invokevirtual 140, 3) := by decide +kernel
theorem dX3_joins_237 : decode cX3_joins 237 = .ok (.goto 27, 3) := by decide +kernel
theorem dX3_joins_240 : decode cX3_joins 240 = .ok (.iload 4, 2) := by decide +kernel
theorem dX3_joins_242 : decode cX3_joins 242 = .ok (.ifCond .ne 8, 3) := by decide +kernel
theorem dX3_joins_245 : decode cX3_joins 245 = .ok (.aload_n 0, 1) := by decide +kernel
theorem dX3_joins_246 : decode cX3_joins 246 = .ok (.iload_n 1, 1) := by decide +kernel
theorem dX3_joins_247 : decode cX3_joins 247 = .ok (.invokevirtual 124, 3) := by decide +kernel
theorem dX3_joins_250 : decode cX3_joins 250 = .ok (.aload_n 0, 1) := by decide +kernel
theorem dX3_joins_251 : decode cX3_joins 251 = .ok (.iload 4, 2) := by decide +kernel
theorem dX3_joins_253 : decode cX3_joins 253 = .ok (.ifCond .eq 7, 3) := by decide +kernel
theorem dX3_joins_256 : decode cX3_joins 256 = .ok (.iconst (-1), 1) := by decide +kernel
theorem dX3_joins_257 : decode cX3_joins 257 = .ok (.goto 4, 3) := by decide +kernel
theorem dX3_joins_260 : decode cX3_joins 260 = .ok (.iload_n 3, 1) := by decide +kernel
theorem dX3_joins_261 : decode cX3_joins 261 = .ok (.invokevirtual 140, 3) := by decide +kernel
theorem dX3_joins_264 : decode cX3_joins 264 = .ok (.return_, 1) := by decide +kernel
set_option maxRecDepth 20000 in
theorem ggX3_again_X3_keep : GoodIn wsX3_again wsX3_keep := goodIn_r _ [14, 4, 5, 6, 7, 8, 9, 44, 45, 46, 47, 48, 49, 50, 51, 52, 53, 54, 55, 56, 57, 58, 59, 60, 61, 62, 63, 64, 65, 66, 67, 68, 69, 70, 71, 72, 73, 74, 75, 76, 77, 78, 79] (by decide +kernel) (by decide +kernel)
set_option maxRecDepth 20000 in
theorem gX3_again_X3_keep : GoodIn wsX3_again (wsV RX3 143 RX3 yX3_keep wsX3_keep) := goodIn_app (goodIn_of _ (by decide +kernel)) ggX3_again_X3_keep
set_option maxRecDepth 20000 in
theorem ggX3_again_X3_asks : GoodIn wsX3_again wsX3_asks := goodIn_r _ [18, 19, 20, 21, 22, 23, 13, 24, 25, 26, 27, 28, 29, 30, 2, 31, 32, 5, 33, 7, 34, 9, 35, 44, 45, 46, 47, 48, 49, 50, 51, 52, 53, 54, 55, 56, 57, 58, 59, 60, 61, 62, 63, 64, 65, 66, 67, 68, 69, 70, 71, 72, 73, 74, 75, 76, 77, 78, 79] (by decide +kernel) (by decide +kernel)
set_option maxRecDepth 20000 in
theorem gX3_again_X3_asks : GoodIn wsX3_again (wsV RX3 146 RX3 yX3_asks wsX3_asks) := goodIn_app (goodIn_of _ (by decide +kernel)) ggX3_again_X3_asks
set_option maxRecDepth 20000 in
theorem ggX3_again_X3_ends : GoodIn wsX3_again wsX3_ends := goodIn_r _ [39, 20, 1, 40, 41, 42, 13, 43, 32, 5, 33, 7, 34, 9, 44, 45, 46, 47, 48, 49, 50, 51, 52, 53, 54, 55, 56, 57, 58, 59, 60, 61, 62, 63, 64, 65, 66, 67, 68, 69, 70, 71, 72, 73, 74, 75, 76, 77, 78, 79] (by decide +kernel) (by decide +kernel)
set_option maxRecDepth 20000 in
theorem gX3_again_X3_ends : GoodIn wsX3_again (wsV RX3 140 RX3 yX3_ends wsX3_ends) := goodIn_app (goodIn_of _ (by decide +kernel)) ggX3_again_X3_ends
theorem dX3_again_0 : decode cX3_again 0 = .ok (.iload_n 3, 1) := by decide +kernel
theorem dX3_again_1 : decode cX3_again 1 = .ok (.ifCond .ne 48, 3) := by decide +kernel
theorem dX3_again_4 : decode cX3_again 4 = .ok (.aload_n 0, 1) := by decide +kernel
theorem dX3_again_5 : decode cX3_again 5 = .ok (.getfield 128, 3) := by decide +kernel
theorem dX3_again_8 : decode cX3_again 8 = .ok (.aload_n 0, 1) := by decide +kernel
theorem dX3_again_9 : decode cX3_again 9 = .ok (.getfield 56, 3) := by decide +kernel
theorem dX3_again_12 : decode cX3_again 12 = .ok (.iload_n 1, 1) := by decide +kernel
theorem dX3_again_13 : decode cX3_again 13 = .ok (.iaload, 1) := by decide +kernel
theorem dX3_again_14 : decode cX3_again 14 = .ok (.if_icmp .le 35, 3) := by decide +kernel
theorem dX3_again_17 : decode cX3_again 17 = .ok (.aload_n 0, 1) := by decide +kernel
theorem dX3_again_18 : decode cX3_again 18 = .ok (.getfield 56, 3) := by decide +kernel
theorem dX3_again_21 : decode cX3_again 21 = .ok (.iload_n 1, 1) := by decide +kernel
theorem dX3_again_22 : decode cX3_again 22 = .ok (.aload_n 0, 1) := by decide +kernel
theorem dX3_again_23 : decode cX3_again 23 = .ok (.getfield 128, 3) := by decide +kernel
theorem dX3_again_26 : decode cX3_again 26 = .ok (.iastore, 1) := by decide +kernel
theorem dX3_again_27 : decode cX3_again 27 = .ok (.aload_n 0, 1) := by decide +kernel
theorem dX3_again_28 : decode cX3_again 28 = .ok (.iload_n 1, 1) := by decide +kernel
theorem dX3_again_29 : decode cX3_again 29 = .ok (.invokevirtual 143, 3) := by decide +kernel
theorem dX3_again_32 : decode cX3_again 32 = .ok (.aload_n 0, 1) := by decide +kernel
theorem dX3_again_33 : decode cX3_again 33 = .ok (.aload_n 0, 1) := by decide +kernel
theorem dX3_again_34 : decode cX3_again 34 = .ok (.getfield 16, 3) := by decide +kernel
theorem dX3_again_37 : decode cX3_again 37 = .ok (.iload_n 2, 1) := by decide +kernel
theorem dX3_again_38 : decode cX3_again 38 = .ok (.iaload, 1) := by decide +kernel
theorem dX3_again_39 : decode cX3_again 39 = .ok (.aload_n 0, 1) := by decide +kernel
theorem dX3_again_40 : decode cX3_again 40 = .ok (.getfield 56, 3) := by decide +kernel
theorem dX3_again_43 : decode cX3_again 43 = .ok (.iload_n 1, 1) := by decide +kernel
theorem dX3_again_44 : decode cX3_again 44 = .ok (.iaload, 1) := by decide +kernel
theorem dX3_again_45 : decode cX3_again 45 = .ok (.invokevirtual 146, 3) := by decide +kernel
theorem dX3_again_48 : decode cX3_again 48 = .ok (.return_, 1) := by decide +kernel
theorem dX3_again_49 : decode cX3_again 49 = .ok (.aload_n 0, 1) := by decide +kernel
theorem dX3_again_50 : decode cX3_again 50 = .ok (.aload_n 0, 1) := by decide +kernel
theorem dX3_again_51 : decode cX3_again 51 = .ok (.getfield 72, 3) := by decide +kernel
theorem dX3_again_54 : decode cX3_again 54 = .ok (.iload_n 1, 1) := by decide +kernel
theorem dX3_again_55 : decode cX3_again 55 = .ok (.iaload, 1) := by decide +kernel
theorem dX3_again_56 : decode cX3_again 56 = .ok (.putfield 108, 3) := by decide +kernel
theorem dX3_again_59 : decode cX3_again 59 = .ok (.aload_n 0, 1) := by decide +kernel
theorem dX3_again_60 : decode cX3_again 60 = .ok (.aload_n 0, 1) := by decide +kernel
theorem dX3_again_61 : decode cX3_again 61 = .ok (.getfield 75, 3) := by decide +kernel
theorem dX3_again_64 : decode cX3_again 64 = .ok (.iload_n 1, 1) := by decide +kernel
theorem dX3_again_65 : decode cX3_again 65 = .ok (.iaload, 1) := by decide +kernel
theorem dX3_again_66 : decode cX3_again 66 = .ok (.putfield 111, 3) := by decide +kernel
theorem dX3_again_69 : decode cX3_again 69 = .ok (.aload_n 0, 1) := by decide +kernel
theorem dX3_again_70 : decode cX3_again 70 = .ok (.aload_n 0, 1) := by decide +kernel
theorem dX3_again_71 : decode cX3_again 71 = .ok (.getfield 78, 3) := by decide +kernel
theorem dX3_again_74 : decode cX3_again 74 = .ok (.iload_n 1, 1) := by decide +kernel
theorem dX3_again_75 : decode cX3_again 75 = .ok (.iaload, 1) := by decide +kernel
theorem dX3_again_76 : decode cX3_again 76 = .ok (.putfield 114, 3) := by decide +kernel
theorem dX3_again_79 : decode cX3_again 79 = .ok (.aload_n 0, 1) := by decide +kernel
theorem dX3_again_80 : decode cX3_again 80 = .ok (.aload_n 0, 1) := by decide +kernel
theorem dX3_again_81 : decode cX3_again 81 = .ok (.getfield 56, 3) := by decide +kernel
theorem dX3_again_84 : decode cX3_again 84 = .ok (.iload_n 1, 1) := by decide +kernel
theorem dX3_again_85 : decode cX3_again 85 = .ok (.iaload, 1) := by decide +kernel
theorem dX3_again_86 : decode cX3_again 86 = .ok (.invokevirtual 140, 3) := by decide +kernel
theorem dX3_again_89 : decode cX3_again 89 = .ok (.return_, 1) := by decide +kernel
set_option maxRecDepth 20000 in
theorem ggX3_others_X3_ends : GoodIn wsX3_others wsX3_ends := goodIn_r _ [18, 19, 4, 20, 21, 22, 17, 23, 24, 13, 25, 26, 27, 9, 73, 74, 75, 76, 77, 78, 79, 80, 81, 82, 83, 84, 85, 86, 87, 88, 89, 90, 91, 92, 93, 94, 95, 96, 97, 98, 99, 100, 101, 102, 103, 104, 105, 106, 107, 108] (by decide +kernel) (by decide +kernel)
set_option maxRecDepth 20000 in
theorem gX3_others_X3_ends : GoodIn wsX3_others (wsV RX3 140 RX3 yX3_ends wsX3_ends) := goodIn_app (goodIn_of _ (by decide +kernel)) ggX3_others_X3_ends
set_option maxRecDepth 20000 in
theorem ggX3_others_X3_asks : GoodIn wsX3_others wsX3_asks := goodIn_r _ [31, 3, 19, 32, 33, 34, 17, 35, 7, 36, 37, 38, 39, 1, 40, 41, 24, 13, 25, 26, 27, 9, 42, 73, 74, 75, 76, 77, 78, 79, 80, 81, 82, 83, 84, 85, 86, 87, 88, 89, 90, 91, 92, 93, 94, 95, 96, 97, 98, 99, 100, 101, 102, 103, 104, 105, 106, 107, 108] (by decide +kernel) (by decide +kernel)
set_option maxRecDepth 20000 in
theorem gX3_others_X3_asks : GoodIn wsX3_others (wsV RX3 146 RX3 yX3_asks wsX3_asks) := goodIn_app (goodIn_of _ (by decide +kernel)) ggX3_others_X3_asks
set_option maxRecDepth 20000 in
theorem ggX3_others_X3_bars : GoodIn wsX3_others wsX3_bars := goodIn_r _ [46, 2, 39, 3, 41, 73, 74, 75, 76, 77, 78, 79, 80, 81, 82, 83, 84, 85, 86, 87, 88, 89, 90, 91, 92, 93, 94, 95, 96, 97, 98, 99, 100, 101, 102, 103, 104, 105, 106, 107, 108] (by decide +kernel) (by decide +kernel)
set_option maxRecDepth 20000 in
theorem gX3_others_X3_bars : GoodIn wsX3_others (wsV RX3 153 RX3 yX3_bars wsX3_bars) := goodIn_app (goodIn_of _ (by decide +kernel)) ggX3_others_X3_bars
set_option maxRecDepth 20000 in
theorem ggX3_others_X3_lay : GoodIn wsX3_others wsX3_lay := goodIn_r _ [50, 26, 51, 52, 53, 13, 73, 74, 75, 76, 77, 78, 79, 80, 81, 82, 83, 84, 85, 86, 87, 88, 89, 90, 91, 92, 93, 94, 95, 96, 97, 98, 99, 100, 101, 102, 103, 104, 105, 106, 107, 108] (by decide +kernel) (by decide +kernel)
set_option maxRecDepth 20000 in
theorem gX3_others_X3_lay : GoodIn wsX3_others (wsV RX3 156 RX3 yX3_lay wsX3_lay) := goodIn_app (goodIn_of _ (by decide +kernel)) ggX3_others_X3_lay
set_option maxRecDepth 20000 in
theorem ggX3_others_X3_figure : GoodIn wsX3_others wsX3_figure := goodIn_r _ [57, 58, 59, 13, 7, 60, 51, 61, 52, 62, 63, 17, 64, 14, 15, 16, 18, 19, 4, 20, 21, 22, 23, 24, 25, 26, 27, 9, 47, 48, 49, 50, 53, 73, 74, 75, 76, 77, 78, 79, 80, 81, 82, 83, 84, 85, 86, 87, 88, 89, 90, 91, 92, 93, 94, 95, 96, 97, 98, 99, 100, 101, 102, 103, 104, 105, 106, 107, 108] (by decide +kernel) (by decide +kernel)
set_option maxRecDepth 20000 in
theorem gX3_others_X3_figure : GoodIn wsX3_others (wsV RX3 160 RX3 yX3_figure wsX3_figure) := goodIn_app (goodIn_of _ (by decide +kernel)) ggX3_others_X3_figure
set_option maxRecDepth 20000 in
theorem ggX3_others_X3_acts : GoodIn wsX3_others wsX3_acts := goodIn_r _ [68, 7, 51, 13, 52, 69, 70, 71, 17, 72, 53, 47, 48, 49, 50, 26, 14, 15, 16, 18, 19, 4, 20, 21, 22, 23, 24, 25, 27, 9, 73, 74, 75, 76, 77, 78, 79, 80, 81, 82, 83, 84, 85, 86, 87, 88, 89, 90, 91, 92, 93, 94, 95, 96, 97, 98, 99, 100, 101, 102, 103, 104, 105, 106, 107, 108] (by decide +kernel) (by decide +kernel)
set_option maxRecDepth 20000 in
theorem gX3_others_X3_acts : GoodIn wsX3_others (wsV RX3 163 RX3 yX3_acts wsX3_acts) := goodIn_app (goodIn_of _ (by decide +kernel)) ggX3_others_X3_acts
theorem dX3_others_0 : decode cX3_others 0 = .ok (.aload_n 0, 1) := by decide +kernel
theorem dX3_others_1 : decode cX3_others 1 = .ok (.getfield 53, 3) := by decide +kernel
theorem dX3_others_4 : decode cX3_others 4 = .ok (.iload_n 1, 1) := by decide +kernel
theorem dX3_others_5 : decode cX3_others 5 = .ok (.iaload, 1) := by decide +kernel
theorem dX3_others_6 : decode cX3_others 6 = .ok (.istore_n 3, 1) := by decide +kernel
theorem dX3_others_7 : decode cX3_others 7 = .ok (.aload_n 0, 1) := by decide +kernel
theorem dX3_others_8 : decode cX3_others 8 = .ok (.getfield 13, 3) := by decide +kernel
theorem dX3_others_11 : decode cX3_others 11 = .ok (.iload_n 2, 1) := by decide +kernel
theorem dX3_others_12 : decode cX3_others 12 = .ok (.iaload, 1) := by decide +kernel
theorem dX3_others_13 : decode cX3_others 13 = .ok (.tableswitch 231 10 14 #[35, 97, 187, 200, 223], 35) := by decide +kernel
theorem dX3_others_48 : decode cX3_others 48 = .ok (.aload_n 0, 1) := by decide +kernel
theorem dX3_others_49 : decode cX3_others 49 = .ok (.getfield 50, 3) := by decide +kernel
theorem dX3_others_52 : decode cX3_others 52 = .ok (.iload_n 1, 1) := by decide +kernel
theorem dX3_others_53 : decode cX3_others 53 = .ok (.iaload, 1) := by decide +kernel
theorem dX3_others_54 : decode cX3_others 54 = .ok (.ifCond .le 14, 3) := by decide +kernel
theorem dX3_others_57 : decode cX3_others 57 = .ok (.aload_n 0, 1) := by decide +kernel
theorem dX3_others_58 : decode cX3_others 58 = .ok (.aload_n 0, 1) := by decide +kernel
theorem dX3_others_59 : decode cX3_others 59 = .ok (.getfield 128, 3) := by decide +kernel
theorem dX3_others_62 : decode cX3_others 62 = .ok (.invokevirtual 140, 3) := by decide +kernel
theorem dX3_others_65 : decode cX3_others 65 = .ok (.goto 190, 3) := by decide +kernel
theorem dX3_others_68 : decode cX3_others 68 = .ok (.aload_n 0, 1) := by decide +kernel
theorem dX3_others_69 : decode cX3_others 69 = .ok (.getfield 25, 3) := by decide +kernel
theorem dX3_others_72 : decode cX3_others 72 = .ok (.aload_n 0, 1) := by decide +kernel
theorem dX3_others_73 : decode cX3_others 73 = .ok (.getfield 16, 3) := by decide +kernel
theorem dX3_others_76 : decode cX3_others 76 = .ok (.iload_n 2, 1) := by decide +kernel
theorem dX3_others_77 : decode cX3_others 77 = .ok (.iaload, 1) := by decide +kernel
theorem dX3_others_78 : decode cX3_others 78 = .ok (.iaload, 1) := by decide +kernel
theorem dX3_others_79 : decode cX3_others 79 = .ok (.iconst (-1), 1) := by decide +kernel
theorem dX3_others_80 : decode cX3_others 80 = .ok (.if_icmp .ne 11, 3) := by decide +kernel
theorem dX3_others_83 : decode cX3_others 83 = .ok (.aload_n 0, 1) := by decide +kernel
theorem dX3_others_84 : decode cX3_others 84 = .ok (.iconst 1, 1) := by decide +kernel
theorem dX3_others_85 : decode cX3_others 85 = .ok (.putfield 99, 3) := by decide +kernel
theorem dX3_others_88 : decode cX3_others 88 = .ok (.goto 167, 3) := by decide +kernel
theorem dX3_others_91 : decode cX3_others 91 = .ok (.aload_n 0, 1) := by decide +kernel
theorem dX3_others_92 : decode cX3_others 92 = .ok (.aload_n 0, 1) := by decide +kernel
theorem dX3_others_93 : decode cX3_others 93 = .ok (.getfield 25, 3) := by decide +kernel
theorem dX3_others_96 : decode cX3_others 96 = .ok (.aload_n 0, 1) := by decide +kernel
theorem dX3_others_97 : decode cX3_others 97 = .ok (.getfield 16, 3) := by decide +kernel
theorem dX3_others_100 : decode cX3_others 100 = .ok (.iload_n 2, 1) := by decide +kernel
theorem dX3_others_101 : decode cX3_others 101 = .ok (.iaload, 1) := by decide +kernel
theorem dX3_others_102 : decode cX3_others 102 = .ok (.iaload, 1) := by decide +kernel
theorem dX3_others_103 : decode cX3_others 103 = .ok (.iload_n 3, 1) := by decide +kernel
theorem dX3_others_104 : decode cX3_others 104 = .ok (.invokevirtual 146, 3) := by decide +kernel
theorem dX3_others_107 : decode cX3_others 107 = .ok (.goto 148, 3) := by decide +kernel
theorem dX3_others_110 : decode cX3_others 110 = .ok (.aload_n 0, 1) := by decide +kernel
theorem dX3_others_111 : decode cX3_others 111 = .ok (.getfield 50, 3) := by decide +kernel
theorem dX3_others_114 : decode cX3_others 114 = .ok (.iload_n 1, 1) := by decide +kernel
theorem dX3_others_115 : decode cX3_others 115 = .ok (.iaload, 1) := by decide +kernel
theorem dX3_others_116 : decode cX3_others 116 = .ok (.ifCond .ne 17, 3) := by decide +kernel
theorem dX3_others_119 : decode cX3_others 119 = .ok (.aload_n 0, 1) := by decide +kernel
theorem dX3_others_120 : decode cX3_others 120 = .ok (.aload_n 0, 1) := by decide +kernel
theorem dX3_others_121 : decode cX3_others 121 = .ok (.getfield 16, 3) := by decide +kernel
theorem dX3_others_124 : decode cX3_others 124 = .ok (.iload_n 2, 1) := by decide +kernel
theorem dX3_others_125 : decode cX3_others 125 = .ok (.iaload, 1) := by decide +kernel
theorem dX3_others_126 : decode cX3_others 126 = .ok (.iload_n 3, 1) := by decide +kernel
theorem dX3_others_127 : decode cX3_others 127 = .ok (.invokevirtual 146, 3) := by decide +kernel
theorem dX3_others_130 : decode cX3_others 130 = .ok (.goto 125, 3) := by decide +kernel
theorem dX3_others_133 : decode cX3_others 133 = .ok (.aload_n 0, 1) := by decide +kernel
theorem dX3_others_134 : decode cX3_others 134 = .ok (.getfield 128, 3) := by decide +kernel
theorem dX3_others_137 : decode cX3_others 137 = .ok (.iconst (-1), 1) := by decide +kernel
theorem dX3_others_138 : decode cX3_others 138 = .ok (.if_icmp .eq 51, 3) := by decide +kernel
theorem dX3_others_141 : decode cX3_others 141 = .ok (.aload_n 0, 1) := by decide +kernel
theorem dX3_others_142 : decode cX3_others 142 = .ok (.getfield 38, 3) := by decide +kernel
theorem dX3_others_145 : decode cX3_others 145 = .ok (.aload_n 0, 1) := by decide +kernel
theorem dX3_others_146 : decode cX3_others 146 = .ok (.getfield 114, 3) := by decide +kernel
theorem dX3_others_149 : decode cX3_others 149 = .ok (.aload_n 0, 1) := by decide +kernel
theorem dX3_others_150 : decode cX3_others 150 = .ok (.getfield 19, 3) := by decide +kernel
theorem dX3_others_153 : decode cX3_others 153 = .ok (.iload_n 2, 1) := by decide +kernel
theorem dX3_others_154 : decode cX3_others 154 = .ok (.iaload, 1) := by decide +kernel
theorem dX3_others_155 : decode cX3_others 155 = .ok (.iastore, 1) := by decide +kernel
theorem dX3_others_156 : decode cX3_others 156 = .ok (.aload_n 0, 1) := by decide +kernel
theorem dX3_others_157 : decode cX3_others 157 = .ok (.getfield 41, 3) := by decide +kernel
theorem dX3_others_160 : decode cX3_others 160 = .ok (.aload_n 0, 1) := by decide +kernel
theorem dX3_others_161 : decode cX3_others 161 = .ok (.getfield 114, 3) := by decide +kernel
theorem dX3_others_164 : decode cX3_others 164 = .ok (.iload_n 3, 1) := by decide +kernel
theorem dX3_others_165 : decode cX3_others 165 = .ok (.iastore, 1) := by decide +kernel
theorem dX3_others_166 : decode cX3_others 166 = .ok (.aload_n 0, 1) := by decide +kernel
theorem dX3_others_167 : decode cX3_others 167 = .ok (.getfield 44, 3) := by decide +kernel
theorem dX3_others_170 : decode cX3_others 170 = .ok (.aload_n 0, 1) := by decide +kernel
theorem dX3_others_171 : decode cX3_others 171 = .ok (.getfield 114, 3) := by decide +kernel
theorem dX3_others_174 : decode cX3_others 174 = .ok (.aload_n 0, 1) := by decide +kernel
theorem dX3_others_175 : decode cX3_others 175 = .ok (.getfield 128, 3) := by decide +kernel
theorem dX3_others_178 : decode cX3_others 178 = .ok (.iastore, 1) := by decide +kernel
theorem dX3_others_179 : decode cX3_others 179 = .ok (.aload_n 0, 1) := by decide +kernel
theorem dX3_others_180 : decode cX3_others 180 = .ok (.dup, 1) := by decide +kernel
theorem dX3_others_181 : decode cX3_others 181 = .ok (.getfield 114, 3) := by decide +kernel
theorem dX3_others_184 : decode cX3_others 184 = .ok (.iconst 1, 1) := by decide +kernel
theorem dX3_others_185 : decode cX3_others 185 = .ok (.iadd, 1) := by decide +kernel
theorem dX3_others_186 : decode cX3_others 186 = .ok (.putfield 114, 3) := by decide +kernel
theorem dX3_others_189 : decode cX3_others 189 = .ok (.aload_n 0, 1) := by decide +kernel
theorem dX3_others_190 : decode cX3_others 190 = .ok (.aload_n 0, 1) := by decide +kernel
theorem dX3_others_191 : decode cX3_others 191 = .ok (.getfield 128, 3) := by decide +kernel
theorem dX3_others_194 : decode cX3_others 194 = .ok (.invokevirtual 140, 3) := by decide +kernel
theorem dX3_others_197 : decode cX3_others 197 = .ok (.goto 58, 3) := by decide +kernel
theorem dX3_others_200 : decode cX3_others 200 = .ok (.aload_n 0, 1) := by decide +kernel
theorem dX3_others_201 : decode cX3_others 201 = .ok (.iload_n 1, 1) := by decide +kernel
theorem dX3_others_202 : decode cX3_others 202 = .ok (.invokevirtual 153, 3) := by decide +kernel
theorem dX3_others_205 : decode cX3_others 205 = .ok (.aload_n 0, 1) := by decide +kernel
theorem dX3_others_206 : decode cX3_others 206 = .ok (.iload_n 3, 1) := by decide +kernel
theorem dX3_others_207 : decode cX3_others 207 = .ok (.invokevirtual 140, 3) := by decide +kernel
theorem dX3_others_210 : decode cX3_others 210 = .ok (.goto 45, 3) := by decide +kernel
theorem dX3_others_213 : decode cX3_others 213 = .ok (.aload_n 0, 1) := by decide +kernel
theorem dX3_others_214 : decode cX3_others 214 = .ok (.aload_n 0, 1) := by decide +kernel
theorem dX3_others_215 : decode cX3_others 215 = .ok (.getfield 16, 3) := by decide +kernel
theorem dX3_others_218 : decode cX3_others 218 = .ok (.iload_n 2, 1) := by decide +kernel
theorem dX3_others_219 : decode cX3_others 219 = .ok (.iaload, 1) := by decide +kernel
theorem dX3_others_220 : decode cX3_others 220 = .ok (.i2l, 1) := by decide +kernel
theorem dX3_others_221 : decode cX3_others 221 = .ok (.aload_n 0, 1) := by decide +kernel
theorem dX3_others_222 : decode cX3_others 222 = .ok (.getfield 108, 3) := by decide +kernel
theorem dX3_others_225 : decode cX3_others 225 = .ok (.invokevirtual 156, 3) := by decide +kernel
theorem dX3_others_228 : decode cX3_others 228 = .ok (.aload_n 0, 1) := by decide +kernel
theorem dX3_others_229 : decode cX3_others 229 = .ok (.iload_n 3, 1) := by decide +kernel
theorem dX3_others_230 : decode cX3_others 230 = .ok (.invokevirtual 140, 3) := by decide +kernel
theorem dX3_others_233 : decode cX3_others 233 = .ok (.goto 22, 3) := by decide +kernel
theorem dX3_others_236 : decode cX3_others 236 = .ok (.aload_n 0, 1) := by decide +kernel
theorem dX3_others_237 : decode cX3_others 237 = .ok (.iload_n 3, 1) := by decide +kernel
theorem dX3_others_238 : decode cX3_others 238 = .ok (.invokevirtual 160, 3) := by decide +kernel
theorem dX3_others_241 : decode cX3_others 241 = .ok (.goto 14, 3) := by decide +kernel
theorem dX3_others_244 : decode cX3_others 244 = .ok (.aload_n 0, 1) := by decide +kernel
theorem dX3_others_245 : decode cX3_others 245 = .ok (.iload_n 3, 1) := by decide +kernel
theorem dX3_others_246 : decode cX3_others 246 = .ok (.aload_n 0, 1) := by decide +kernel
theorem dX3_others_247 : decode cX3_others 247 = .ok (.getfield 16, 3) := by decide +kernel
theorem dX3_others_250 : decode cX3_others 250 = .ok (.iload_n 2, 1) := by decide +kernel
theorem dX3_others_251 : decode cX3_others 251 = .ok (.iaload, 1) := by decide +kernel
theorem dX3_others_252 : decode cX3_others 252 = .ok (.invokevirtual 163, 3) := by decide +kernel
theorem dX3_others_255 : decode cX3_others 255 = .ok (.return_, 1) := by decide +kernel
theorem dX3_bars_0 : decode cX3_bars 0 = .ok (.iload_n 1, 1) := by decide +kernel
theorem dX3_bars_1 : decode cX3_bars 1 = .ok (.iconst 1, 1) := by decide +kernel
theorem dX3_bars_2 : decode cX3_bars 2 = .ok (.isub, 1) := by decide +kernel
theorem dX3_bars_3 : decode cX3_bars 3 = .ok (.istore_n 2, 1) := by decide +kernel
theorem dX3_bars_4 : decode cX3_bars 4 = .ok (.iload_n 2, 1) := by decide +kernel
theorem dX3_bars_5 : decode cX3_bars 5 = .ok (.ifCond .lt 34, 3) := by decide +kernel
theorem dX3_bars_8 : decode cX3_bars 8 = .ok (.aload_n 0, 1) := by decide +kernel
theorem dX3_bars_9 : decode cX3_bars 9 = .ok (.getfield 13, 3) := by decide +kernel
theorem dX3_bars_12 : decode cX3_bars 12 = .ok (.aload_n 0, 1) := by decide +kernel
theorem dX3_bars_13 : decode cX3_bars 13 = .ok (.getfield 47, 3) := by decide +kernel
theorem dX3_bars_16 : decode cX3_bars 16 = .ok (.iload_n 2, 1) := by decide +kernel
theorem dX3_bars_17 : decode cX3_bars 17 = .ok (.iaload, 1) := by decide +kernel
theorem dX3_bars_18 : decode cX3_bars 18 = .ok (.iaload, 1) := by decide +kernel
theorem dX3_bars_19 : decode cX3_bars 19 = .ok (.iconst 5, 1) := by decide +kernel
theorem dX3_bars_20 : decode cX3_bars 20 = .ok (.if_icmp .ne 13, 3) := by decide +kernel
theorem dX3_bars_23 : decode cX3_bars 23 = .ok (.aload_n 0, 1) := by decide +kernel
theorem dX3_bars_24 : decode cX3_bars 24 = .ok (.getfield 50, 3) := by decide +kernel
theorem dX3_bars_27 : decode cX3_bars 27 = .ok (.iload_n 2, 1) := by decide +kernel
theorem dX3_bars_28 : decode cX3_bars 28 = .ok (.iaload, 1) := by decide +kernel
theorem dX3_bars_29 : decode cX3_bars 29 = .ok (.iconst 1, 1) := by decide +kernel
theorem dX3_bars_30 : decode cX3_bars 30 = .ok (.if_icmp .eq 9, 3) := by decide +kernel
theorem dX3_bars_33 : decode cX3_bars 33 = .ok (.iinc 2 (-1), 3) := by decide +kernel
theorem dX3_bars_36 : decode cX3_bars 36 = .ok (.goto (-32), 3) := by decide +kernel
theorem dX3_bars_39 : decode cX3_bars 39 = .ok (.iload_n 2, 1) := by decide +kernel
theorem dX3_bars_40 : decode cX3_bars 40 = .ok (.ifCond .lt 10, 3) := by decide +kernel
theorem dX3_bars_43 : decode cX3_bars 43 = .ok (.aload_n 0, 1) := by decide +kernel
theorem dX3_bars_44 : decode cX3_bars 44 = .ok (.getfield 59, 3) := by decide +kernel
theorem dX3_bars_47 : decode cX3_bars 47 = .ok (.iload_n 2, 1) := by decide +kernel
theorem dX3_bars_48 : decode cX3_bars 48 = .ok (.iconst 1, 1) := by decide +kernel
theorem dX3_bars_49 : decode cX3_bars 49 = .ok (.bastore, 1) := by decide +kernel
theorem dX3_bars_50 : decode cX3_bars 50 = .ok (.return_, 1) := by decide +kernel
set_option maxRecDepth 20000 in
theorem ggX3_figure_X3_in : GoodIn wsX3_figure wsX3_in := goodIn_r _ [12] (by decide +kernel) (by decide +kernel)
set_option maxRecDepth 20000 in
theorem gX3_figure_X3_in : GoodIn wsX3_figure (va_wsS RX3 85 yX3_in wsX3_in) := goodIn_app (goodIn_of _ (by decide +kernel)) ggX3_figure_X3_in
set_option maxRecDepth 20000 in
theorem ggX3_figure_X3_ends : GoodIn wsX3_figure wsX3_ends := goodIn_r _ [16, 17, 18, 19, 20, 21, 11, 22, 23, 3, 24, 25, 26, 27, 33, 34, 35, 36, 37, 38, 39, 40, 41, 42, 43, 44, 45, 46, 47, 48, 49, 50, 51, 52, 53, 54, 55, 56, 57, 58, 59, 60, 61, 62, 63, 64, 65, 66, 67, 68] (by decide +kernel) (by decide +kernel)
set_option maxRecDepth 20000 in
theorem gX3_figure_X3_ends : GoodIn wsX3_figure (wsV RX3 140 RX3 yX3_ends wsX3_ends) := goodIn_app (goodIn_of _ (by decide +kernel)) ggX3_figure_X3_ends
set_option maxRecDepth 20000 in
theorem ggX3_figure_X3_lay : GoodIn wsX3_figure wsX3_lay := goodIn_r _ [31, 25, 6, 8, 32, 3, 33, 34, 35, 36, 37, 38, 39, 40, 41, 42, 43, 44, 45, 46, 47, 48, 49, 50, 51, 52, 53, 54, 55, 56, 57, 58, 59, 60, 61, 62, 63, 64, 65, 66, 67, 68] (by decide +kernel) (by decide +kernel)
set_option maxRecDepth 20000 in
theorem gX3_figure_X3_lay : GoodIn wsX3_figure (wsV RX3 156 RX3 yX3_lay wsX3_lay) := goodIn_app (goodIn_of _ (by decide +kernel)) ggX3_figure_X3_lay
theorem dX3_figure_0 : decode cX3_figure 0 = .ok (.iload_n 1, 1) := by decide +kernel
theorem dX3_figure_1 : decode cX3_figure 1 = .ok (.aload_n 0, 1) := by decide +kernel
theorem dX3_figure_2 : decode cX3_figure 2 = .ok (.getfield 89, 3) := by decide +kernel
theorem dX3_figure_5 : decode cX3_figure 5 = .ok (.if_icmp .ge 19, 3) := by decide +kernel
theorem dX3_figure_8 : decode cX3_figure 8 = .ok (.aload_n 0, 1) := by decide +kernel
theorem dX3_figure_9 : decode cX3_figure 9 = .ok (.getfield 7, 3) := by decide +kernel
theorem dX3_figure_12 : decode cX3_figure 12 = .ok (.iload_n 1, 1) := by decide +kernel
theorem dX3_figure_13 : decode cX3_figure 13 = .ok (.iaload, 1) := by decide +kernel
theorem dX3_figure_14 : decode cX3_figure 14 = .ok (.bipush 48, 2) := by decide +kernel
theorem dX3_figure_16 : decode cX3_figure 16 = .ok (.bipush 57, 2) := by decide +kernel
theorem dX3_figure_18 : decode cX3_figure 18 = .ok (.invokestatic 85, 3) := by decide +kernel
theorem dX3_figure_21 : decode cX3_figure 21 = .ok (.ifCond .ne 11, 3) := by decide +kernel
theorem dX3_figure_24 : decode cX3_figure 24 = .ok (.aload_n 0, 1) := by decide +kernel
theorem dX3_figure_25 : decode cX3_figure 25 = .ok (.iconst (-1), 1) := by decide +kernel
theorem dX3_figure_26 : decode cX3_figure 26 = .ok (.invokevirtual 140, 3) := by decide +kernel
theorem dX3_figure_29 : decode cX3_figure 29 = .ok (.goto 63, 3) := by decide +kernel
theorem dX3_figure_32 : decode cX3_figure 32 = .ok (.aload_n 0, 1) := by decide +kernel
theorem dX3_figure_33 : decode cX3_figure 33 = .ok (.getfield 108, 3) := by decide +kernel
theorem dX3_figure_36 : decode cX3_figure 36 = .ok (.ifCond .ne 11, 3) := by decide +kernel
theorem dX3_figure_39 : decode cX3_figure 39 = .ok (.aload_n 0, 1) := by decide +kernel
theorem dX3_figure_40 : decode cX3_figure 40 = .ok (.iconst 3, 1) := by decide +kernel
theorem dX3_figure_41 : decode cX3_figure 41 = .ok (.putfield 99, 3) := by decide +kernel
theorem dX3_figure_44 : decode cX3_figure 44 = .ok (.goto 48, 3) := by decide +kernel
theorem dX3_figure_47 : decode cX3_figure 47 = .ok (.aload_n 0, 1) := by decide +kernel
theorem dX3_figure_48 : decode cX3_figure 48 = .ok (.ldc2_w 166, 3) := by decide +kernel
theorem dX3_figure_51 : decode cX3_figure 51 = .ok (.aload_n 0, 1) := by decide +kernel
theorem dX3_figure_52 : decode cX3_figure 52 = .ok (.getfield 28, 3) := by decide +kernel
theorem dX3_figure_55 : decode cX3_figure 55 = .ok (.aload_n 0, 1) := by decide +kernel
theorem dX3_figure_56 : decode cX3_figure 56 = .ok (.getfield 108, 3) := by decide +kernel
theorem dX3_figure_59 : decode cX3_figure 59 = .ok (.laload, 1) := by decide +kernel
theorem dX3_figure_60 : decode cX3_figure 60 = .ok (.lmul, 1) := by decide +kernel
theorem dX3_figure_61 : decode cX3_figure 61 = .ok (.aload_n 0, 1) := by decide +kernel
theorem dX3_figure_62 : decode cX3_figure 62 = .ok (.getfield 7, 3) := by decide +kernel
theorem dX3_figure_65 : decode cX3_figure 65 = .ok (.iload_n 1, 1) := by decide +kernel
theorem dX3_figure_66 : decode cX3_figure 66 = .ok (.iaload, 1) := by decide +kernel
theorem dX3_figure_67 : decode cX3_figure 67 = .ok (.i2l, 1) := by decide +kernel
theorem dX3_figure_68 : decode cX3_figure 68 = .ok (.ladd, 1) := by decide +kernel
theorem dX3_figure_69 : decode cX3_figure 69 = .ok (.ldc2_w 168, 3) := by decide +kernel
theorem dX3_figure_72 : decode cX3_figure 72 = .ok (.lsub, 1) := by decide +kernel
theorem dX3_figure_73 : decode cX3_figure 73 = .ok (.aload_n 0, 1) := by decide +kernel
theorem dX3_figure_74 : decode cX3_figure 74 = .ok (.getfield 32, 3) := by decide +kernel
theorem dX3_figure_77 : decode cX3_figure 77 = .ok (.aload_n 0, 1) := by decide +kernel
theorem dX3_figure_78 : decode cX3_figure 78 = .ok (.getfield 108, 3) := by decide +kernel
theorem dX3_figure_81 : decode cX3_figure 81 = .ok (.iaload, 1) := by decide +kernel
theorem dX3_figure_82 : decode cX3_figure 82 = .ok (.invokevirtual 156, 3) := by decide +kernel
theorem dX3_figure_85 : decode cX3_figure 85 = .ok (.aload_n 0, 1) := by decide +kernel
theorem dX3_figure_86 : decode cX3_figure 86 = .ok (.iload_n 1, 1) := by decide +kernel
theorem dX3_figure_87 : decode cX3_figure 87 = .ok (.iconst 1, 1) := by decide +kernel
theorem dX3_figure_88 : decode cX3_figure 88 = .ok (.iadd, 1) := by decide +kernel
theorem dX3_figure_89 : decode cX3_figure 89 = .ok (.invokevirtual 140, 3) := by decide +kernel
theorem dX3_figure_92 : decode cX3_figure 92 = .ok (.return_, 1) := by decide +kernel
set_option maxRecDepth 20000 in
theorem ggX3_acts_X3_height : GoodIn wsX3_acts wsX3_height := goodIn_r _ [9, 3, 10, 30, 31, 32, 33, 34, 35, 36, 37, 38, 39, 40, 41, 42, 43, 44, 45, 46, 47, 48, 49, 50, 51, 52, 53, 54, 55, 56, 57, 58, 59, 60, 61, 62, 63, 64, 65] (by decide +kernel) (by decide +kernel)
set_option maxRecDepth 20000 in
theorem gX3_acts_X3_height : GoodIn wsX3_acts (wsV RX3 170 RX3 yX3_height wsX3_height) := goodIn_app (goodIn_of _ (by decide +kernel)) ggX3_acts_X3_height
set_option maxRecDepth 20000 in
theorem ggX3_acts_X3_lay : GoodIn wsX3_acts wsX3_lay := goodIn_r _ [14, 15, 2, 4, 10, 3, 30, 31, 32, 33, 34, 35, 36, 37, 38, 39, 40, 41, 42, 43, 44, 45, 46, 47, 48, 49, 50, 51, 52, 53, 54, 55, 56, 57, 58, 59, 60, 61, 62, 63, 64, 65] (by decide +kernel) (by decide +kernel)
set_option maxRecDepth 20000 in
theorem gX3_acts_X3_lay : GoodIn wsX3_acts (wsV RX3 156 RX3 yX3_lay wsX3_lay) := goodIn_app (goodIn_of _ (by decide +kernel)) ggX3_acts_X3_lay
set_option maxRecDepth 20000 in
theorem ggX3_acts_X3_ends : GoodIn wsX3_acts wsX3_ends := goodIn_r _ [19, 20, 21, 22, 23, 24, 8, 25, 26, 3, 27, 15, 28, 29, 30, 31, 32, 33, 34, 35, 36, 37, 38, 39, 40, 41, 42, 43, 44, 45, 46, 47, 48, 49, 50, 51, 52, 53, 54, 55, 56, 57, 58, 59, 60, 61, 62, 63, 64, 65] (by decide +kernel) (by decide +kernel)
set_option maxRecDepth 20000 in
theorem gX3_acts_X3_ends : GoodIn wsX3_acts (wsV RX3 140 RX3 yX3_ends wsX3_ends) := goodIn_app (goodIn_of _ (by decide +kernel)) ggX3_acts_X3_ends
theorem dX3_acts_0 : decode cX3_acts 0 = .ok (.aload_n 0, 1) := by decide +kernel
theorem dX3_acts_1 : decode cX3_acts 1 = .ok (.invokevirtual 170, 3) := by decide +kernel
theorem dX3_acts_4 : decode cX3_acts 4 = .ok (.iconst 2, 1) := by decide +kernel
theorem dX3_acts_5 : decode cX3_acts 5 = .ok (.if_icmp .ge 9, 3) := by decide +kernel
theorem dX3_acts_8 : decode cX3_acts 8 = .ok (.aload_n 0, 1) := by decide +kernel
theorem dX3_acts_9 : decode cX3_acts 9 = .ok (.iconst 3, 1) := by decide +kernel
theorem dX3_acts_10 : decode cX3_acts 10 = .ok (.putfield 99, 3) := by decide +kernel
theorem dX3_acts_13 : decode cX3_acts 13 = .ok (.return_, 1) := by decide +kernel
theorem dX3_acts_14 : decode cX3_acts 14 = .ok (.aload_n 0, 1) := by decide +kernel
theorem dX3_acts_15 : decode cX3_acts 15 = .ok (.getfield 28, 3) := by decide +kernel
theorem dX3_acts_18 : decode cX3_acts 18 = .ok (.aload_n 0, 1) := by decide +kernel
theorem dX3_acts_19 : decode cX3_acts 19 = .ok (.getfield 108, 3) := by decide +kernel
theorem dX3_acts_22 : decode cX3_acts 22 = .ok (.laload, 1) := by decide +kernel
theorem dX3_acts_23 : decode cX3_acts 23 = .ok (.lstore_n 3, 1) := by decide +kernel
theorem dX3_acts_24 : decode cX3_acts 24 = .ok (.aload_n 0, 1) := by decide +kernel
theorem dX3_acts_25 : decode cX3_acts 25 = .ok (.getfield 28, 3) := by decide +kernel
theorem dX3_acts_28 : decode cX3_acts 28 = .ok (.aload_n 0, 1) := by decide +kernel
theorem dX3_acts_29 : decode cX3_acts 29 = .ok (.getfield 32, 3) := by decide +kernel
theorem dX3_acts_32 : decode cX3_acts 32 = .ok (.aload_n 0, 1) := by decide +kernel
theorem dX3_acts_33 : decode cX3_acts 33 = .ok (.getfield 108, 3) := by decide +kernel
theorem dX3_acts_36 : decode cX3_acts 36 = .ok (.iaload, 1) := by decide +kernel
theorem dX3_acts_37 : decode cX3_acts 37 = .ok (.laload, 1) := by decide +kernel
theorem dX3_acts_38 : decode cX3_acts 38 = .ok (.lstore 5, 2) := by decide +kernel
theorem dX3_acts_40 : decode cX3_acts 40 = .ok (.iload_n 2, 1) := by decide +kernel
theorem dX3_acts_41 : decode cX3_acts 41 = .ok (.iconst 3, 1) := by decide +kernel
theorem dX3_acts_42 : decode cX3_acts 42 = .ok (.if_icmp .ne 15, 3) := by decide +kernel
theorem dX3_acts_45 : decode cX3_acts 45 = .ok (.lload_n 3, 1) := by decide +kernel
theorem dX3_acts_46 : decode cX3_acts 46 = .ok (.lconst 0, 1) := by decide +kernel
theorem dX3_acts_47 : decode cX3_acts 47 = .ok (.lcmp, 1) := by decide +kernel
theorem dX3_acts_48 : decode cX3_acts 48 = .ok (.ifCond .ne 9, 3) := by decide +kernel
theorem dX3_acts_51 : decode cX3_acts 51 = .ok (.aload_n 0, 1) := by decide +kernel
theorem dX3_acts_52 : decode cX3_acts 52 = .ok (.iconst 2, 1) := by decide +kernel
theorem dX3_acts_53 : decode cX3_acts 53 = .ok (.putfield 99, 3) := by decide +kernel
theorem dX3_acts_56 : decode cX3_acts 56 = .ok (.return_, 1) := by decide +kernel
theorem dX3_acts_57 : decode cX3_acts 57 = .ok (.aload_n 0, 1) := by decide +kernel
theorem dX3_acts_58 : decode cX3_acts 58 = .ok (.iload_n 2, 1) := by decide +kernel
theorem dX3_acts_59 : decode cX3_acts 59 = .ok (.ifCond .ne 10, 3) := by decide +kernel
theorem dX3_acts_62 : decode cX3_acts 62 = .ok (.lload 5, 2) := by decide +kernel
theorem dX3_acts_64 : decode cX3_acts 64 = .ok (.lload_n 3, 1) := by decide +kernel
theorem dX3_acts_65 : decode cX3_acts 65 = .ok (.ladd, 1) := by decide +kernel
theorem dX3_acts_66 : decode cX3_acts 66 = .ok (.goto 31, 3) := by decide +kernel
theorem dX3_acts_69 : decode cX3_acts 69 = .ok (.iload_n 2, 1) := by decide +kernel
theorem dX3_acts_70 : decode cX3_acts 70 = .ok (.iconst 1, 1) := by decide +kernel
theorem dX3_acts_71 : decode cX3_acts 71 = .ok (.if_icmp .ne 10, 3) := by decide +kernel
theorem dX3_acts_74 : decode cX3_acts 74 = .ok (.lload 5, 2) := by decide +kernel
theorem dX3_acts_76 : decode cX3_acts 76 = .ok (.lload_n 3, 1) := by decide +kernel
theorem dX3_acts_77 : decode cX3_acts 77 = .ok (.lsub, 1) := by decide +kernel
theorem dX3_acts_78 : decode cX3_acts 78 = .ok (.goto 19, 3) := by decide +kernel
theorem dX3_acts_81 : decode cX3_acts 81 = .ok (.iload_n 2, 1) := by decide +kernel
theorem dX3_acts_82 : decode cX3_acts 82 = .ok (.iconst 2, 1) := by decide +kernel
theorem dX3_acts_83 : decode cX3_acts 83 = .ok (.if_icmp .ne 10, 3) := by decide +kernel
theorem dX3_acts_86 : decode cX3_acts 86 = .ok (.lload 5, 2) := by decide +kernel
theorem dX3_acts_88 : decode cX3_acts 88 = .ok (.lload_n 3, 1) := by decide +kernel
theorem dX3_acts_89 : decode cX3_acts 89 = .ok (.lmul, 1) := by decide +kernel
theorem dX3_acts_90 : decode cX3_acts 90 = .ok (.goto 7, 3) := by decide +kernel
theorem dX3_acts_93 : decode cX3_acts 93 = .ok (.lload 5, 2) := by decide +kernel
theorem dX3_acts_95 : decode cX3_acts 95 = .ok (.lload_n 3, 1) := by decide +kernel
theorem dX3_acts_96 : decode cX3_acts 96 = .ok (.ldiv, 1) := by decide +kernel
theorem dX3_acts_97 : decode cX3_acts 97 = .ok (.aload_n 0, 1) := by decide +kernel
theorem dX3_acts_98 : decode cX3_acts 98 = .ok (.getfield 32, 3) := by decide +kernel
theorem dX3_acts_101 : decode cX3_acts 101 = .ok (.aload_n 0, 1) := by decide +kernel
theorem dX3_acts_102 : decode cX3_acts 102 = .ok (.getfield 32, 3) := by decide +kernel
theorem dX3_acts_105 : decode cX3_acts 105 = .ok (.aload_n 0, 1) := by decide +kernel
theorem dX3_acts_106 : decode cX3_acts 106 = .ok (.getfield 108, 3) := by decide +kernel
theorem dX3_acts_109 : decode cX3_acts 109 = .ok (.iaload, 1) := by decide +kernel
theorem dX3_acts_110 : decode cX3_acts 110 = .ok (.iaload, 1) := by decide +kernel
theorem dX3_acts_111 : decode cX3_acts 111 = .ok (.invokevirtual 156, 3) := by decide +kernel
theorem dX3_acts_114 : decode cX3_acts 114 = .ok (.aload_n 0, 1) := by decide +kernel
theorem dX3_acts_115 : decode cX3_acts 115 = .ok (.iload_n 1, 1) := by decide +kernel
theorem dX3_acts_116 : decode cX3_acts 116 = .ok (.invokevirtual 140, 3) := by decide +kernel
theorem dX3_acts_119 : decode cX3_acts 119 = .ok (.return_, 1) := by decide +kernel
theorem dX3_ready_0 : decode cX3_ready 0 = .ok (.aload_n 0, 1) := by decide +kernel
theorem dX3_ready_1 : decode cX3_ready 1 = .ok (.iconst 0, 1) := by decide +kernel
theorem dX3_ready_2 : decode cX3_ready 2 = .ok (.putfield 111, 3) := by decide +kernel
theorem dX3_ready_5 : decode cX3_ready 5 = .ok (.aload_n 0, 1) := by decide +kernel
theorem dX3_ready_6 : decode cX3_ready 6 = .ok (.iconst 0, 1) := by decide +kernel
theorem dX3_ready_7 : decode cX3_ready 7 = .ok (.putfield 108, 3) := by decide +kernel
theorem dX3_ready_10 : decode cX3_ready 10 = .ok (.aload_n 0, 1) := by decide +kernel
theorem dX3_ready_11 : decode cX3_ready 11 = .ok (.iconst 0, 1) := by decide +kernel
theorem dX3_ready_12 : decode cX3_ready 12 = .ok (.putfield 114, 3) := by decide +kernel
theorem dX3_ready_15 : decode cX3_ready 15 = .ok (.aload_n 0, 1) := by decide +kernel
theorem dX3_ready_16 : decode cX3_ready 16 = .ok (.iconst 0, 1) := by decide +kernel
theorem dX3_ready_17 : decode cX3_ready 17 = .ok (.putfield 99, 3) := by decide +kernel
theorem dX3_ready_20 : decode cX3_ready 20 = .ok (.aload_n 0, 1) := by decide +kernel
theorem dX3_ready_21 : decode cX3_ready 21 = .ok (.iconst 0, 1) := by decide +kernel
theorem dX3_ready_22 : decode cX3_ready 22 = .ok (.putfield 102, 3) := by decide +kernel
theorem dX3_ready_25 : decode cX3_ready 25 = .ok (.aload_n 0, 1) := by decide +kernel
theorem dX3_ready_26 : decode cX3_ready 26 = .ok (.iconst 0, 1) := by decide +kernel
theorem dX3_ready_27 : decode cX3_ready 27 = .ok (.putfield 96, 3) := by decide +kernel
theorem dX3_ready_30 : decode cX3_ready 30 = .ok (.aload_n 0, 1) := by decide +kernel
theorem dX3_ready_31 : decode cX3_ready 31 = .ok (.iconst 0, 1) := by decide +kernel
theorem dX3_ready_32 : decode cX3_ready 32 = .ok (.putfield 117, 3) := by decide +kernel
theorem dX3_ready_35 : decode cX3_ready 35 = .ok (.return_, 1) := by decide +kernel
set_option maxRecDepth 20000 in
theorem ggX3_reads_X3_begin : GoodIn wsX3_reads wsX3_begin := goodIn_r _ [7, 1, 2, 8, 9, 10, 11, 12, 13, 14, 15, 16, 17, 18, 19, 20, 21, 22, 100, 101, 102, 103, 104, 105, 106, 107, 108, 109, 110, 111, 112, 113, 114, 115, 116, 117, 118, 119, 120, 121, 122, 123, 124, 125, 126, 127, 128, 129, 130, 131, 132, 133, 134, 135] (by decide +kernel) (by decide +kernel)
set_option maxRecDepth 20000 in
theorem gX3_reads_X3_begin : GoodIn wsX3_reads (wsV RX3 120 RX3 yX3_begin wsX3_begin) := goodIn_app (goodIn_of _ (by decide +kernel)) ggX3_reads_X3_begin
set_option maxRecDepth 20000 in
theorem ggX3_reads_X3_goesOn : GoodIn wsX3_reads wsX3_goesOn := goodIn_r _ [26, 1, 11, 27, 28, 29, 30, 6, 31, 13, 32, 33, 34, 35, 36, 37, 38, 39, 40, 41, 42, 43, 44, 16, 17, 18, 19, 20, 21, 45, 46, 47, 48, 49, 50, 51, 12, 15, 52, 53, 54, 55, 56, 57, 58, 59, 60, 61, 62, 3, 4, 5, 7, 2, 8, 9, 10, 14, 22, 63, 64, 65, 66, 67, 68, 69, 70, 71, 72, 73, 74, 75, 76, 77, 78, 79, 80, 81, 82, 83, 84, 85, 86, 87, 88, 89, 90, 91, 92, 93, 94, 95, 96, 97, 98, 99, 100, 101, 102, 103, 104, 105, 106, 107, 108, 109, 110, 111, 112, 113, 114, 115, 116, 117, 118, 119, 120, 121, 122, 123, 124, 125, 126, 127, 128, 129, 130, 131, 132, 133, 134, 135] (by decide +kernel) (by decide +kernel)
set_option maxRecDepth 20000 in
theorem gX3_reads_X3_goesOn : GoodIn wsX3_reads (wsV RX3 174 RX3 yX3_goesOn wsX3_goesOn) := goodIn_app (goodIn_of _ (by decide +kernel)) ggX3_reads_X3_goesOn
theorem dX3_reads_0 : decode cX3_reads 0 = .ok (.aload_n 0, 1) := by decide +kernel
theorem dX3_reads_1 : decode cX3_reads 1 = .ok (.iconst 0, 1) := by decide +kernel
theorem dX3_reads_2 : decode cX3_reads 2 = .ok (.putfield 96, 3) := by decide +kernel
theorem dX3_reads_5 : decode cX3_reads 5 = .ok (.aload_n 0, 1) := by decide +kernel
theorem dX3_reads_6 : decode cX3_reads 6 = .ok (.iload_n 1, 1) := by decide +kernel
theorem dX3_reads_7 : decode cX3_reads 7 = .ok (.iload_n 2, 1) := by decide +kernel
theorem dX3_reads_8 : decode cX3_reads 8 = .ok (.invokevirtual 120, 3) := by decide +kernel
theorem dX3_reads_11 : decode cX3_reads 11 = .ok (.aload_n 0, 1) := by decide +kernel
theorem dX3_reads_12 : decode cX3_reads 12 = .ok (.getfield 96, 3) := by decide +kernel
theorem dX3_reads_15 : decode cX3_reads 15 = .ok (.ifCond .le 17, 3) := by decide +kernel
theorem dX3_reads_18 : decode cX3_reads 18 = .ok (.aload_n 0, 1) := by decide +kernel
theorem dX3_reads_19 : decode cX3_reads 19 = .ok (.getfield 99, 3) := by decide +kernel
theorem dX3_reads_22 : decode cX3_reads 22 = .ok (.ifCond .ne 10, 3) := by decide +kernel
theorem dX3_reads_25 : decode cX3_reads 25 = .ok (.aload_n 0, 1) := by decide +kernel
theorem dX3_reads_26 : decode cX3_reads 26 = .ok (.invokevirtual 174, 3) := by decide +kernel
theorem dX3_reads_29 : decode cX3_reads 29 = .ok (.goto (-18), 3) := by decide +kernel
theorem dX3_reads_32 : decode cX3_reads 32 = .ok (.return_, 1) := by decide +kernel
theorem dX3_faulty_0 : decode cX3_faulty 0 = .ok (.aload_n 0, 1) := by decide +kernel
theorem dX3_faulty_1 : decode cX3_faulty 1 = .ok (.dup, 1) := by decide +kernel
theorem dX3_faulty_2 : decode cX3_faulty 2 = .ok (.getfield 177, 3) := by decide +kernel
theorem dX3_faulty_5 : decode cX3_faulty 5 = .ok (.iconst 1, 1) := by decide +kernel
theorem dX3_faulty_6 : decode cX3_faulty 6 = .ok (.iadd, 1) := by decide +kernel
theorem dX3_faulty_7 : decode cX3_faulty 7 = .ok (.putfield 177, 3) := by decide +kernel
theorem dX3_faulty_10 : decode cX3_faulty 10 = .ok (.aload_n 0, 1) := by decide +kernel
theorem dX3_faulty_11 : decode cX3_faulty 11 = .ok (.aload_n 0, 1) := by decide +kernel
theorem dX3_faulty_12 : decode cX3_faulty 12 = .ok (.getfield 99, 3) := by decide +kernel
theorem dX3_faulty_15 : decode cX3_faulty 15 = .ok (.putfield 180, 3) := by decide +kernel
theorem dX3_faulty_18 : decode cX3_faulty 18 = .ok (.bipush (-10), 2) := by decide +kernel
