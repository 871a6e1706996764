theorem dX2_fitsSecond_6 : decode cX2_fitsSecond 6 = .ok (.iconst 5, 1) := by decide +kernel
theorem dX2_fitsSecond_7 : decode cX2_fitsSecond 7 = .ok (.if_icmp .ne 11, 3) := by decide +kernel
theorem dX2_fitsSecond_10 : decode cX2_fitsSecond 10 = .ok (.aload_n 0, 1) := by decide +kernel
theorem dX2_fitsSecond_11 : decode cX2_fitsSecond 11 = .ok (.iload_n 2, 1) := by decide +kernel
theorem dX2_fitsSecond_12 : decode cX2_fitsSecond 12 = .ok (.invokevirtual 77, 3) := by decide +kernel
theorem dX2_fitsSecond_15 : decode cX2_fitsSecond 15 = .ok (.ifCond .eq 7, 3) := by decide +kernel
theorem dX2_fitsSecond_18 : decode cX2_fitsSecond 18 = .ok (.iconst 1, 1) := by decide +kernel
theorem dX2_fitsSecond_19 : decode cX2_fitsSecond 19 = .ok (.goto 4, 3) := by decide +kernel
theorem dX2_fitsSecond_22 : decode cX2_fitsSecond 22 = .ok (.iconst 0, 1) := by decide +kernel
theorem dX2_fitsSecond_23 : decode cX2_fitsSecond 23 = .ok (.ireturn, 1) := by decide +kernel
theorem dX2_addReader_0 : decode cX2_addReader 0 = .ok (.aload_n 0, 1) := by decide +kernel
theorem dX2_addReader_1 : decode cX2_addReader 1 = .ok (.getfield 70, 3) := by decide +kernel
theorem dX2_addReader_4 : decode cX2_addReader 4 = .ok (.istore 4, 2) := by decide +kernel
theorem dX2_addReader_6 : decode cX2_addReader 6 = .ok (.aload_n 0, 1) := by decide +kernel
theorem dX2_addReader_7 : decode cX2_addReader 7 = .ok (.getfield 13, 3) := by decide +kernel
theorem dX2_addReader_10 : decode cX2_addReader 10 = .ok (.iload 4, 2) := by decide +kernel
theorem dX2_addReader_12 : decode cX2_addReader 12 = .ok (.iload_n 1, 1) := by decide +kernel
theorem dX2_addReader_13 : decode cX2_addReader 13 = .ok (.iastore, 1) := by decide +kernel
theorem dX2_addReader_14 : decode cX2_addReader 14 = .ok (.aload_n 0, 1) := by decide +kernel
theorem dX2_addReader_15 : decode cX2_addReader 15 = .ok (.getfield 17, 3) := by decide +kernel
theorem dX2_addReader_18 : decode cX2_addReader 18 = .ok (.iload 4, 2) := by decide +kernel
theorem dX2_addReader_20 : decode cX2_addReader 20 = .ok (.iload_n 2, 1) := by decide +kernel
theorem dX2_addReader_21 : decode cX2_addReader 21 = .ok (.iastore, 1) := by decide +kernel
theorem dX2_addReader_22 : decode cX2_addReader 22 = .ok (.aload_n 0, 1) := by decide +kernel
theorem dX2_addReader_23 : decode cX2_addReader 23 = .ok (.getfield 20, 3) := by decide +kernel
theorem dX2_addReader_26 : decode cX2_addReader 26 = .ok (.iload 4, 2) := by decide +kernel
theorem dX2_addReader_28 : decode cX2_addReader 28 = .ok (.iload_n 3, 1) := by decide +kernel
theorem dX2_addReader_29 : decode cX2_addReader 29 = .ok (.iastore, 1) := by decide +kernel
theorem dX2_addReader_30 : decode cX2_addReader 30 = .ok (.aload_n 0, 1) := by decide +kernel
theorem dX2_addReader_31 : decode cX2_addReader 31 = .ok (.dup, 1) := by decide +kernel
theorem dX2_addReader_32 : decode cX2_addReader 32 = .ok (.getfield 70, 3) := by decide +kernel
theorem dX2_addReader_35 : decode cX2_addReader 35 = .ok (.iconst 1, 1) := by decide +kernel
theorem dX2_addReader_36 : decode cX2_addReader 36 = .ok (.iadd, 1) := by decide +kernel
theorem dX2_addReader_37 : decode cX2_addReader 37 = .ok (.putfield 70, 3) := by decide +kernel
theorem dX2_addReader_40 : decode cX2_addReader 40 = .ok (.iload 4, 2) := by decide +kernel
theorem dX2_addReader_42 : decode cX2_addReader 42 = .ok (.ireturn, 1) := by decide +kernel
set_option maxRecDepth 20000 in
theorem ggX2_startCall_X1_makeEmpty : GoodIn wsX2_startCall wsX1_makeEmpty := goodIn_r _ [10, 11, 12, 33, 34, 35, 36, 37] (by decide +kernel) (by decide +kernel)
set_option maxRecDepth 20000 in
theorem gX2_startCall_X1_makeEmpty : GoodIn wsX2_startCall (wsV RX2 136 RX1 yX1_makeEmpty wsX1_makeEmpty) := goodIn_app (goodIn_of _ (by decide +kernel)) ggX2_startCall_X1_makeEmpty
theorem dX2_startCall_0 : decode cX2_startCall 0 = .ok (.aload_n 0, 1) := by decide +kernel
theorem dX2_startCall_1 : decode cX2_startCall 1 = .ok (.getfield 36, 3) := by decide +kernel
theorem dX2_startCall_4 : decode cX2_startCall 4 = .ok (.invokevirtual 136, 3) := by decide +kernel
theorem dX2_startCall_7 : decode cX2_startCall 7 = .ok (.aload_n 0, 1) := by decide +kernel
theorem dX2_startCall_8 : decode cX2_startCall 8 = .ok (.getfield 43, 3) := by decide +kernel
theorem dX2_startCall_11 : decode cX2_startCall 11 = .ok (.iconst 0, 1) := by decide +kernel
theorem dX2_startCall_12 : decode cX2_startCall 12 = .ok (.putfield 97, 3) := by decide +kernel
theorem dX2_startCall_15 : decode cX2_startCall 15 = .ok (.aload_n 0, 1) := by decide +kernel
theorem dX2_startCall_16 : decode cX2_startCall 16 = .ok (.iconst 0, 1) := by decide +kernel
theorem dX2_startCall_17 : decode cX2_startCall 17 = .ok (.putfield 121, 3) := by decide +kernel
theorem dX2_startCall_20 : decode cX2_startCall 20 = .ok (.aload_n 0, 1) := by decide +kernel
theorem dX2_startCall_21 : decode cX2_startCall 21 = .ok (.iconst 0, 1) := by decide +kernel
theorem dX2_startCall_22 : decode cX2_startCall 22 = .ok (.putfield 124, 3) := by decide +kernel
theorem dX2_startCall_25 : decode cX2_startCall 25 = .ok (.return_, 1) := by decide +kernel
theorem dX2_faultAnswer_0 : decode cX2_faultAnswer 0 = .ok (.bipush (-10), 2) := by decide +kernel
theorem dX2_faultAnswer_2 : decode cX2_faultAnswer 2 = .ok (.iload_n 0, 1) := by decide +kernel
theorem dX2_faultAnswer_3 : decode cX2_faultAnswer 3 = .ok (.isub, 1) := by decide +kernel
theorem dX2_faultAnswer_4 : decode cX2_faultAnswer 4 = .ok (.ireturn, 1) := by decide +kernel
theorem dX2_isFault_0 : decode cX2_isFault 0 = .ok (.iload_n 0, 1) := by decide +kernel
theorem dX2_isFault_1 : decode cX2_isFault 1 = .ok (.bipush (-10), 2) := by decide +kernel
theorem dX2_isFault_3 : decode cX2_isFault 3 = .ok (.if_icmp .ge 7, 3) := by decide +kernel
theorem dX2_isFault_6 : decode cX2_isFault 6 = .ok (.iconst 1, 1) := by decide +kernel
theorem dX2_isFault_7 : decode cX2_isFault 7 = .ok (.goto 4, 3) := by decide +kernel
theorem dX2_isFault_10 : decode cX2_isFault 10 = .ok (.iconst 0, 1) := by decide +kernel
theorem dX2_isFault_11 : decode cX2_isFault 11 = .ok (.ireturn, 1) := by decide +kernel
theorem dX2_noteFault_0 : decode cX2_noteFault 0 = .ok (.aload_n 0, 1) := by decide +kernel
theorem dX2_noteFault_1 : decode cX2_noteFault 1 = .ok (.dup, 1) := by decide +kernel
theorem dX2_noteFault_2 : decode cX2_noteFault 2 = .ok (.getfield 130, 3) := by decide +kernel
theorem dX2_noteFault_5 : decode cX2_noteFault 5 = .ok (.iconst 1, 1) := by decide +kernel
theorem dX2_noteFault_6 : decode cX2_noteFault 6 = .ok (.iadd, 1) := by decide +kernel
theorem dX2_noteFault_7 : decode cX2_noteFault 7 = .ok (.putfield 130, 3) := by decide +kernel
theorem dX2_noteFault_10 : decode cX2_noteFault 10 = .ok (.aload_n 0, 1) := by decide +kernel
theorem dX2_noteFault_11 : decode cX2_noteFault 11 = .ok (.bipush (-10), 2) := by decide +kernel
theorem dX2_noteFault_13 : decode cX2_noteFault 13 = .ok (.iload_n 1, 1) := by decide +kernel
theorem dX2_noteFault_14 : decode cX2_noteFault 14 = .ok (.isub, 1) := by decide +kernel
theorem dX2_noteFault_15 : decode cX2_noteFault 15 = .ok (.putfield 133, 3) := by decide +kernel
theorem dX2_noteFault_18 : decode cX2_noteFault 18 = .ok (.return_, 1) := by decide +kernel
theorem dX2_takeBack_0 : decode cX2_takeBack 0 = .ok (.aload_n 0, 1) := by decide +kernel
theorem dX2_takeBack_1 : decode cX2_takeBack 1 = .ok (.getfield 36, 3) := by decide +kernel
theorem dX2_takeBack_4 : decode cX2_takeBack 4 = .ok (.iload_n 1, 1) := by decide +kernel
theorem dX2_takeBack_5 : decode cX2_takeBack 5 = .ok (.putfield 94, 3) := by decide +kernel
theorem dX2_takeBack_8 : decode cX2_takeBack 8 = .ok (.aload_n 0, 1) := by decide +kernel
theorem dX2_takeBack_9 : decode cX2_takeBack 9 = .ok (.getfield 43, 3) := by decide +kernel
theorem dX2_takeBack_12 : decode cX2_takeBack 12 = .ok (.iload_n 2, 1) := by decide +kernel
theorem dX2_takeBack_13 : decode cX2_takeBack 13 = .ok (.putfield 97, 3) := by decide +kernel
theorem dX2_takeBack_16 : decode cX2_takeBack 16 = .ok (.return_, 1) := by decide +kernel
set_option maxRecDepth 20000 in
theorem ggX2_follow_X2_begin : GoodIn wsX2_follow wsX2_begin := goodIn_r _ [14, 15, 16, 17, 18, 19, 20, 21, 22, 23, 24, 13, 25, 95, 96, 97, 98, 99, 100, 101, 102, 103, 104, 105, 106, 107, 108, 109, 110] (by decide +kernel) (by decide +kernel)
set_option maxRecDepth 20000 in
theorem gX2_follow_X2_begin : GoodIn wsX2_follow (wsV RX2 139 RX2 yX2_begin wsX2_begin) := goodIn_app (goodIn_of _ (by decide +kernel)) ggX2_follow_X2_begin
set_option maxRecDepth 20000 in
theorem ggX2_follow_X2_follow : GoodIn wsX2_follow wsX2_follow := goodIn_r _ [0, 1, 2, 3, 4, 5, 6, 7, 8, 9, 10, 11, 12, 13, 14, 15, 16, 17, 18, 19, 20, 21, 22, 23, 24, 25, 26, 27, 28, 29, 30, 31, 32, 33, 34, 35, 36, 37, 38, 39, 40, 41, 42, 43, 44, 45, 46, 47, 48, 49, 50, 51, 52, 53, 54, 55, 56, 57, 58, 59, 60, 61, 62, 63, 64, 65, 66, 67, 68, 69, 70, 71, 72, 73, 74, 75, 76, 77, 78, 79, 80, 81, 82, 83, 84, 85, 86, 87, 88, 89, 90, 91, 92, 93, 94, 95, 96, 97, 98, 99, 100, 101, 102, 103, 104, 105, 106, 107, 108, 109, 110, 111, 112, 113, 114, 115, 116, 117, 118, 119] (by decide +kernel) (by decide +kernel)
set_option maxRecDepth 20000 in
theorem gX2_follow_X2_follow : GoodIn wsX2_follow (wsV RX2 83 RX2 yX2_follow wsX2_follow) := goodIn_app (goodIn_of _ (by decide +kernel)) ggX2_follow_X2_follow
set_option maxRecDepth 20000 in
theorem ggX2_follow_X2_isFault : GoodIn wsX2_follow wsX2_isFault := goodIn_r _ [31] (by decide +kernel) (by decide +kernel)
set_option maxRecDepth 20000 in
theorem gX2_follow_X2_isFault : GoodIn wsX2_follow (va_wsS RX2 87 yX2_isFault wsX2_isFault) := goodIn_app (goodIn_of _ (by decide +kernel)) ggX2_follow_X2_isFault
set_option maxRecDepth 20000 in
theorem ggX2_follow_X2_takeBack : GoodIn wsX2_follow wsX2_takeBack := goodIn_r _ [35, 1, 2, 3, 4, 95, 96, 97, 98, 99, 100, 101, 102, 103, 104, 105, 106, 107, 108, 109, 110, 111, 112, 113, 114, 115, 116, 117, 118, 119] (by decide +kernel) (by decide +kernel)
set_option maxRecDepth 20000 in
theorem gX2_follow_X2_takeBack : GoodIn wsX2_follow (wsV RX2 100 RX2 yX2_takeBack wsX2_takeBack) := goodIn_app (goodIn_of _ (by decide +kernel)) ggX2_follow_X2_takeBack
set_option maxRecDepth 20000 in
theorem ggX2_follow_X2_faultAnswer : GoodIn wsX2_follow wsX2_faultAnswer := goodIn_r _ [25] (by decide +kernel) (by decide +kernel)
set_option maxRecDepth 20000 in
theorem gX2_follow_X2_faultAnswer : GoodIn wsX2_follow (va_wsS RX2 143 yX2_faultAnswer wsX2_faultAnswer) := goodIn_app (goodIn_of _ (by decide +kernel)) ggX2_follow_X2_faultAnswer
set_option maxRecDepth 20000 in
theorem ggX2_follow_X2_turn : GoodIn wsX2_follow wsX2_turn := goodIn_r _ [39, 6, 3, 7, 29, 30, 13, 31, 32, 33, 34, 35, 1, 2, 4, 40, 41, 42, 43, 44, 45, 46, 47, 48, 95, 96, 97, 98, 99, 100, 101, 102, 103, 104, 105, 106, 107, 108, 109, 110, 111, 112, 113, 114, 115, 116, 117, 118, 119] (by decide +kernel) (by decide +kernel)
set_option maxRecDepth 20000 in
theorem gX2_follow_X2_turn : GoodIn wsX2_follow (wsV RX2 147 RX2 yX2_turn wsX2_turn) := goodIn_app (goodIn_of _ (by decide +kernel)) ggX2_follow_X2_turn
set_option maxRecDepth 20000 in
theorem ggX2_follow_X2_readAlone : GoodIn wsX2_follow wsX2_readAlone := goodIn_r _ [52, 5, 6, 7, 53, 8, 1, 54, 55, 56, 13, 57, 58, 59, 60, 61, 62, 63, 64, 65, 66, 67, 68, 69, 70, 71, 72, 73, 74, 75, 76, 77, 78, 79, 80, 81, 82, 23, 24, 25, 83, 84, 85, 86, 87, 88, 89, 90, 91, 92, 93, 94, 95, 96, 97, 98, 99, 100, 101, 102, 103, 104, 105, 106, 107, 108, 109, 110, 111, 112, 113, 114, 115] (by decide +kernel) (by decide +kernel)
set_option maxRecDepth 20000 in
theorem gX2_follow_X2_readAlone : GoodIn wsX2_follow (wsV RX2 151 RX2 yX2_readAlone wsX2_readAlone) := goodIn_app (goodIn_of _ (by decide +kernel)) ggX2_follow_X2_readAlone
theorem dX2_follow_0 : decode cX2_follow 0 = .ok (.aload_n 0, 1) := by decide +kernel
theorem dX2_follow_1 : decode cX2_follow 1 = .ok (.iload_n 1, 1) := by decide +kernel
theorem dX2_follow_2 : decode cX2_follow 2 = .ok (.iload_n 3, 1) := by decide +kernel
theorem dX2_follow_3 : decode cX2_follow 3 = .ok (.invokevirtual 139, 3) := by decide +kernel
theorem dX2_follow_6 : decode cX2_follow 6 = .ok (.istore 5, 2) := by decide +kernel
theorem dX2_follow_8 : decode cX2_follow 8 = .ok (.iload 5, 2) := by decide +kernel
theorem dX2_follow_10 : decode cX2_follow 10 = .ok (.ifCond .eq 6, 3) := by decide +kernel
theorem dX2_follow_13 : decode cX2_follow 13 = .ok (.iload 5, 2) := by decide +kernel
theorem dX2_follow_15 : decode cX2_follow 15 = .ok (.ireturn, 1) := by decide +kernel
theorem dX2_follow_16 : decode cX2_follow 16 = .ok (.aload_n 0, 1) := by decide +kernel
theorem dX2_follow_17 : decode cX2_follow 17 = .ok (.getfield 36, 3) := by decide +kernel
theorem dX2_follow_20 : decode cX2_follow 20 = .ok (.getfield 94, 3) := by decide +kernel
theorem dX2_follow_23 : decode cX2_follow 23 = .ok (.istore 6, 2) := by decide +kernel
theorem dX2_follow_25 : decode cX2_follow 25 = .ok (.aload_n 0, 1) := by decide +kernel
theorem dX2_follow_26 : decode cX2_follow 26 = .ok (.getfield 43, 3) := by decide +kernel
theorem dX2_follow_29 : decode cX2_follow 29 = .ok (.getfield 97, 3) := by decide +kernel
theorem dX2_follow_32 : decode cX2_follow 32 = .ok (.istore 7, 2) := by decide +kernel
theorem dX2_follow_34 : decode cX2_follow 34 = .ok (.aload_n 0, 1) := by decide +kernel
theorem dX2_follow_35 : decode cX2_follow 35 = .ok (.getfield 17, 3) := by decide +kernel
theorem dX2_follow_38 : decode cX2_follow 38 = .ok (.iload_n 1, 1) := by decide +kernel
theorem dX2_follow_39 : decode cX2_follow 39 = .ok (.iaload, 1) := by decide +kernel
theorem dX2_follow_40 : decode cX2_follow 40 = .ok (.istore 8, 2) := by decide +kernel
theorem dX2_follow_42 : decode cX2_follow 42 = .ok (.aload_n 0, 1) := by decide +kernel
theorem dX2_follow_43 : decode cX2_follow 43 = .ok (.getfield 13, 3) := by decide +kernel
theorem dX2_follow_46 : decode cX2_follow 46 = .ok (.iload_n 1, 1) := by decide +kernel
theorem dX2_follow_47 : decode cX2_follow 47 = .ok (.iaload, 1) := by decide +kernel
theorem dX2_follow_48 : decode cX2_follow 48 = .ok (.tableswitch 305 4 11 #[48, 89, 145, 274, 274, 274, 234, 274], 48) := by decide +kernel
theorem dX2_follow_96 : decode cX2_follow 96 = .ok (.aload_n 0, 1) := by decide +kernel
theorem dX2_follow_97 : decode cX2_follow 97 = .ok (.iload 8, 2) := by decide +kernel
theorem dX2_follow_99 : decode cX2_follow 99 = .ok (.iload_n 2, 1) := by decide +kernel
theorem dX2_follow_100 : decode cX2_follow 100 = .ok (.iload_n 3, 1) := by decide +kernel
theorem dX2_follow_101 : decode cX2_follow 101 = .ok (.iconst 1, 1) := by decide +kernel
theorem dX2_follow_102 : decode cX2_follow 102 = .ok (.iadd, 1) := by decide +kernel
theorem dX2_follow_103 : decode cX2_follow 103 = .ok (.iload 4, 2) := by decide +kernel
theorem dX2_follow_105 : decode cX2_follow 105 = .ok (.invokevirtual 83, 3) := by decide +kernel
theorem dX2_follow_108 : decode cX2_follow 108 = .ok (.istore 9, 2) := by decide +kernel
theorem dX2_follow_110 : decode cX2_follow 110 = .ok (.iload 9, 2) := by decide +kernel
theorem dX2_follow_112 : decode cX2_follow 112 = .ok (.ifCond .lt 251, 3) := by decide +kernel
theorem dX2_follow_115 : decode cX2_follow 115 = .ok (.aload_n 0, 1) := by decide +kernel
theorem dX2_follow_116 : decode cX2_follow 116 = .ok (.aload_n 0, 1) := by decide +kernel
theorem dX2_follow_117 : decode cX2_follow 117 = .ok (.getfield 20, 3) := by decide +kernel
theorem dX2_follow_120 : decode cX2_follow 120 = .ok (.iload_n 1, 1) := by decide +kernel
theorem dX2_follow_121 : decode cX2_follow 121 = .ok (.iaload, 1) := by decide +kernel
theorem dX2_follow_122 : decode cX2_follow 122 = .ok (.iload 9, 2) := by decide +kernel
theorem dX2_follow_124 : decode cX2_follow 124 = .ok (.iload_n 3, 1) := by decide +kernel
theorem dX2_follow_125 : decode cX2_follow 125 = .ok (.iconst 1, 1) := by decide +kernel
theorem dX2_follow_126 : decode cX2_follow 126 = .ok (.iadd, 1) := by decide +kernel
theorem dX2_follow_127 : decode cX2_follow 127 = .ok (.iload 4, 2) := by decide +kernel
theorem dX2_follow_129 : decode cX2_follow 129 = .ok (.invokevirtual 83, 3) := by decide +kernel
theorem dX2_follow_132 : decode cX2_follow 132 = .ok (.istore 9, 2) := by decide +kernel
theorem dX2_follow_134 : decode cX2_follow 134 = .ok (.goto 229, 3) := by decide +kernel
theorem dX2_follow_137 : decode cX2_follow 137 = .ok (.aload_n 0, 1) := by decide +kernel
theorem dX2_follow_138 : decode cX2_follow 138 = .ok (.getfield 29, 3) := by decide +kernel
theorem dX2_follow_141 : decode cX2_follow 141 = .ok (.iload_n 3, 1) := by decide +kernel
theorem dX2_follow_142 : decode cX2_follow 142 = .ok (.iconst 0, 1) := by decide +kernel
theorem dX2_follow_143 : decode cX2_follow 143 = .ok (.bastore, 1) := by decide +kernel
theorem dX2_follow_144 : decode cX2_follow 144 = .ok (.aload_n 0, 1) := by decide +kernel
theorem dX2_follow_145 : decode cX2_follow 145 = .ok (.iload 8, 2) := by decide +kernel
theorem dX2_follow_147 : decode cX2_follow 147 = .ok (.iload_n 2, 1) := by decide +kernel
theorem dX2_follow_148 : decode cX2_follow 148 = .ok (.iload_n 3, 1) := by decide +kernel
theorem dX2_follow_149 : decode cX2_follow 149 = .ok (.iconst 1, 1) := by decide +kernel
theorem dX2_follow_150 : decode cX2_follow 150 = .ok (.iadd, 1) := by decide +kernel
theorem dX2_follow_151 : decode cX2_follow 151 = .ok (.iload_n 3, 1) := by decide +kernel
theorem dX2_follow_152 : decode cX2_follow 152 = .ok (.invokevirtual 83, 3) := by decide +kernel
theorem dX2_follow_155 : decode cX2_follow 155 = .ok (.istore 9, 2) := by decide +kernel
theorem dX2_follow_157 : decode cX2_follow 157 = .ok (.iload 9, 2) := by decide +kernel
theorem dX2_follow_159 : decode cX2_follow 159 = .ok (.iconst (-1), 1) := by decide +kernel
theorem dX2_follow_160 : decode cX2_follow 160 = .ok (.if_icmp .ne 203, 3) := by decide +kernel
theorem dX2_follow_163 : decode cX2_follow 163 = .ok (.aload_n 0, 1) := by decide +kernel
theorem dX2_follow_164 : decode cX2_follow 164 = .ok (.getfield 29, 3) := by decide +kernel
theorem dX2_follow_167 : decode cX2_follow 167 = .ok (.iload_n 3, 1) := by decide +kernel
theorem dX2_follow_168 : decode cX2_follow 168 = .ok (.baload, 1) := by decide +kernel
theorem dX2_follow_169 : decode cX2_follow 169 = .ok (.ifCond .ne 194, 3) := by decide +kernel
theorem dX2_follow_172 : decode cX2_follow 172 = .ok (.aload_n 0, 1) := by decide +kernel
theorem dX2_follow_173 : decode cX2_follow 173 = .ok (.aload_n 0, 1) := by decide +kernel
theorem dX2_follow_174 : decode cX2_follow 174 = .ok (.getfield 20, 3) := by decide +kernel
theorem dX2_follow_177 : decode cX2_follow 177 = .ok (.iload_n 1, 1) := by decide +kernel
theorem dX2_follow_178 : decode cX2_follow 178 = .ok (.iaload, 1) := by decide +kernel
theorem dX2_follow_179 : decode cX2_follow 179 = .ok (.iload_n 2, 1) := by decide +kernel
theorem dX2_follow_180 : decode cX2_follow 180 = .ok (.iload_n 3, 1) := by decide +kernel
theorem dX2_follow_181 : decode cX2_follow 181 = .ok (.iconst 1, 1) := by decide +kernel
theorem dX2_follow_182 : decode cX2_follow 182 = .ok (.iadd, 1) := by decide +kernel
theorem dX2_follow_183 : decode cX2_follow 183 = .ok (.iload 4, 2) := by decide +kernel
theorem dX2_follow_185 : decode cX2_follow 185 = .ok (.invokevirtual 83, 3) := by decide +kernel
theorem dX2_follow_188 : decode cX2_follow 188 = .ok (.istore 9, 2) := by decide +kernel
theorem dX2_follow_190 : decode cX2_follow 190 = .ok (.goto 173, 3) := by decide +kernel
theorem dX2_follow_193 : decode cX2_follow 193 = .ok (.iload_n 2, 1) := by decide +kernel
theorem dX2_follow_194 : decode cX2_follow 194 = .ok (.istore 9, 2) := by decide +kernel
theorem dX2_follow_196 : decode cX2_follow 196 = .ok (.iconst 0, 1) := by decide +kernel
theorem dX2_follow_197 : decode cX2_follow 197 = .ok (.istore 10, 2) := by decide +kernel
theorem dX2_follow_199 : decode cX2_follow 199 = .ok (.iload 10, 2) := by decide +kernel
theorem dX2_follow_201 : decode cX2_follow 201 = .ok (.sipush 200, 3) := by decide +kernel
theorem dX2_follow_204 : decode cX2_follow 204 = .ok (.if_icmp .gt 75, 3) := by decide +kernel
theorem dX2_follow_207 : decode cX2_follow 207 = .ok (.aload_n 0, 1) := by decide +kernel
theorem dX2_follow_208 : decode cX2_follow 208 = .ok (.getfield 36, 3) := by decide +kernel
theorem dX2_follow_211 : decode cX2_follow 211 = .ok (.getfield 94, 3) := by decide +kernel
theorem dX2_follow_214 : decode cX2_follow 214 = .ok (.istore 6, 2) := by decide +kernel
theorem dX2_follow_216 : decode cX2_follow 216 = .ok (.aload_n 0, 1) := by decide +kernel
theorem dX2_follow_217 : decode cX2_follow 217 = .ok (.getfield 43, 3) := by decide +kernel
theorem dX2_follow_220 : decode cX2_follow 220 = .ok (.getfield 97, 3) := by decide +kernel
theorem dX2_follow_223 : decode cX2_follow 223 = .ok (.istore 7, 2) := by decide +kernel
theorem dX2_follow_225 : decode cX2_follow 225 = .ok (.aload_n 0, 1) := by decide +kernel
theorem dX2_follow_226 : decode cX2_follow 226 = .ok (.iload 8, 2) := by decide +kernel
theorem dX2_follow_228 : decode cX2_follow 228 = .ok (.iload 9, 2) := by decide +kernel
theorem dX2_follow_230 : decode cX2_follow 230 = .ok (.iload_n 3, 1) := by decide +kernel
theorem dX2_follow_231 : decode cX2_follow 231 = .ok (.iconst 1, 1) := by decide +kernel
theorem dX2_follow_232 : decode cX2_follow 232 = .ok (.iadd, 1) := by decide +kernel
theorem dX2_follow_233 : decode cX2_follow 233 = .ok (.iload 4, 2) := by decide +kernel
theorem dX2_follow_235 : decode cX2_follow 235 = .ok (.invokevirtual 83, 3) := by decide +kernel
theorem dX2_follow_238 : decode cX2_follow 238 = .ok (.istore 11, 2) := by decide +kernel
theorem dX2_follow_240 : decode cX2_follow 240 = .ok (.iload 11, 2) := by decide +kernel
theorem dX2_follow_242 : decode cX2_follow 242 = .ok (.invokestatic 87, 3) := by decide +kernel
theorem dX2_follow_245 : decode cX2_follow 245 = .ok (.ifCond .eq 6, 3) := by decide +kernel
theorem dX2_follow_248 : decode cX2_follow 248 = .ok (.iload 11, 2) := by decide +kernel
theorem dX2_follow_250 : decode cX2_follow 250 = .ok (.ireturn, 1) := by decide +kernel
theorem dX2_follow_251 : decode cX2_follow 251 = .ok (.iload 11, 2) := by decide +kernel
theorem dX2_follow_253 : decode cX2_follow 253 = .ok (.iload 9, 2) := by decide +kernel
theorem dX2_follow_255 : decode cX2_follow 255 = .ok (.if_icmp .gt 14, 3) := by decide +kernel
theorem dX2_follow_258 : decode cX2_follow 258 = .ok (.aload_n 0, 1) := by decide +kernel
theorem dX2_follow_259 : decode cX2_follow 259 = .ok (.iload 6, 2) := by decide +kernel
theorem dX2_follow_261 : decode cX2_follow 261 = .ok (.iload 7, 2) := by decide +kernel
theorem dX2_follow_263 : decode cX2_follow 263 = .ok (.invokevirtual 100, 3) := by decide +kernel
theorem dX2_follow_266 : decode cX2_follow 266 = .ok (.goto 13, 3) := by decide +kernel
theorem dX2_follow_269 : decode cX2_follow 269 = .ok (.iload 11, 2) := by decide +kernel
theorem dX2_follow_271 : decode cX2_follow 271 = .ok (.istore 9, 2) := by decide +kernel
theorem dX2_follow_273 : decode cX2_follow 273 = .ok (.iinc 10 1, 3) := by decide +kernel
theorem dX2_follow_276 : decode cX2_follow 276 = .ok (.goto (-77), 3) := by decide +kernel
theorem dX2_follow_279 : decode cX2_follow 279 = .ok (.goto 84, 3) := by decide +kernel
theorem dX2_follow_282 : decode cX2_follow 282 = .ok (.aload_n 0, 1) := by decide +kernel
theorem dX2_follow_283 : decode cX2_follow 283 = .ok (.getfield 26, 3) := by decide +kernel
theorem dX2_follow_286 : decode cX2_follow 286 = .ok (.iload 8, 2) := by decide +kernel
theorem dX2_follow_288 : decode cX2_follow 288 = .ok (.iaload, 1) := by decide +kernel
theorem dX2_follow_289 : decode cX2_follow 289 = .ok (.iconst (-1), 1) := by decide +kernel
theorem dX2_follow_290 : decode cX2_follow 290 = .ok (.if_icmp .ne 10, 3) := by decide +kernel
theorem dX2_follow_293 : decode cX2_follow 293 = .ok (.iconst 1, 1) := by decide +kernel
theorem dX2_follow_294 : decode cX2_follow 294 = .ok (.invokestatic 143, 3) := by decide +kernel
theorem dX2_follow_297 : decode cX2_follow 297 = .ok (.goto 20, 3) := by decide +kernel
theorem dX2_follow_300 : decode cX2_follow 300 = .ok (.aload_n 0, 1) := by decide +kernel
theorem dX2_follow_301 : decode cX2_follow 301 = .ok (.aload_n 0, 1) := by decide +kernel
theorem dX2_follow_302 : decode cX2_follow 302 = .ok (.getfield 26, 3) := by decide +kernel
theorem dX2_follow_305 : decode cX2_follow 305 = .ok (.iload 8, 2) := by decide +kernel
theorem dX2_follow_307 : decode cX2_follow 307 = .ok (.iaload, 1) := by decide +kernel
theorem dX2_follow_308 : decode cX2_follow 308 = .ok (.iload_n 2, 1) := by decide +kernel
theorem dX2_follow_309 : decode cX2_follow 309 = .ok (.iload_n 3, 1) := by decide +kernel
theorem dX2_follow_310 : decode cX2_follow 310 = .ok (.iconst 1, 1) := by decide +kernel
theorem dX2_follow_311 : decode cX2_follow 311 = .ok (.iadd, 1) := by decide +kernel
theorem dX2_follow_312 : decode cX2_follow 312 = .ok (.iload 4, 2) := by decide +kernel
theorem dX2_follow_314 : decode cX2_follow 314 = .ok (.invokevirtual 83, 3) := by decide +kernel
theorem dX2_follow_317 : decode cX2_follow 317 = .ok (.istore 9, 2) := by decide +kernel
theorem dX2_follow_319 : decode cX2_follow 319 = .ok (.goto 44, 3) := by decide +kernel
theorem dX2_follow_322 : decode cX2_follow 322 = .ok (.aload_n 0, 1) := by decide +kernel
theorem dX2_follow_323 : decode cX2_follow 323 = .ok (.iload 8, 2) := by decide +kernel
theorem dX2_follow_325 : decode cX2_follow 325 = .ok (.iload_n 2, 1) := by decide +kernel
theorem dX2_follow_326 : decode cX2_follow 326 = .ok (.iload_n 3, 1) := by decide +kernel
theorem dX2_follow_327 : decode cX2_follow 327 = .ok (.iconst 1, 1) := by decide +kernel
theorem dX2_follow_328 : decode cX2_follow 328 = .ok (.iadd, 1) := by decide +kernel
theorem dX2_follow_329 : decode cX2_follow 329 = .ok (.iload 4, 2) := by decide +kernel
theorem dX2_follow_331 : decode cX2_follow 331 = .ok (.invokevirtual 83, 3) := by decide +kernel
theorem dX2_follow_334 : decode cX2_follow 334 = .ok (.istore 9, 2) := by decide +kernel
theorem dX2_follow_336 : decode cX2_follow 336 = .ok (.aload_n 0, 1) := by decide +kernel
theorem dX2_follow_337 : decode cX2_follow 337 = .ok (.iload_n 1, 1) := by decide +kernel
theorem dX2_follow_338 : decode cX2_follow 338 = .ok (.iload_n 2, 1) := by decide +kernel
theorem dX2_follow_339 : decode cX2_follow 339 = .ok (.iload 9, 2) := by decide +kernel
theorem dX2_follow_341 : decode cX2_follow 341 = .ok (.iload 6, 2) := by decide +kernel
theorem dX2_follow_343 : decode cX2_follow 343 = .ok (.iload 7, 2) := by decide +kernel
theorem dX2_follow_345 : decode cX2_follow 345 = .ok (.invokevirtual 147, 3) := by decide +kernel
theorem dX2_follow_348 : decode cX2_follow 348 = .ok (.istore 9, 2) := by decide +kernel
theorem dX2_follow_350 : decode cX2_follow 350 = .ok (.goto 13, 3) := by decide +kernel
theorem dX2_follow_353 : decode cX2_follow 353 = .ok (.aload_n 0, 1) := by decide +kernel
theorem dX2_follow_354 : decode cX2_follow 354 = .ok (.iload_n 1, 1) := by decide +kernel
theorem dX2_follow_355 : decode cX2_follow 355 = .ok (.iload_n 2, 1) := by decide +kernel
theorem dX2_follow_356 : decode cX2_follow 356 = .ok (.iload 4, 2) := by decide +kernel
theorem dX2_follow_358 : decode cX2_follow 358 = .ok (.invokevirtual 151, 3) := by decide +kernel
theorem dX2_follow_361 : decode cX2_follow 361 = .ok (.istore 9, 2) := by decide +kernel
theorem dX2_follow_363 : decode cX2_follow 363 = .ok (.iload 9, 2) := by decide +kernel
theorem dX2_follow_365 : decode cX2_follow 365 = .ok (.iconst (-1), 1) := by decide +kernel
theorem dX2_follow_366 : decode cX2_follow 366 = .ok (.if_icmp .ne 11, 3) := by decide +kernel
theorem dX2_follow_369 : decode cX2_follow 369 = .ok (.aload_n 0, 1) := by decide +kernel
theorem dX2_follow_370 : decode cX2_follow 370 = .ok (.iload 6, 2) := by decide +kernel
theorem dX2_follow_372 : decode cX2_follow 372 = .ok (.iload 7, 2) := by decide +kernel
theorem dX2_follow_374 : decode cX2_follow 374 = .ok (.invokevirtual 100, 3) := by decide +kernel
theorem dX2_follow_377 : decode cX2_follow 377 = .ok (.iload 9, 2) := by decide +kernel
theorem dX2_follow_379 : decode cX2_follow 379 = .ok (.ireturn, 1) := by decide +kernel
set_option maxRecDepth 20000 in
theorem ggX2_begin_X2_faultAnswer : GoodIn wsX2_begin wsX2_faultAnswer := goodIn_r _ [12] (by decide +kernel) (by decide +kernel)
set_option maxRecDepth 20000 in
theorem gX2_begin_X2_faultAnswer : GoodIn wsX2_begin (va_wsS RX2 143 yX2_faultAnswer wsX2_faultAnswer) := goodIn_app (goodIn_of _ (by decide +kernel)) ggX2_begin_X2_faultAnswer
theorem dX2_begin_0 : decode cX2_begin 0 = .ok (.iload_n 2, 1) := by decide +kernel
theorem dX2_begin_1 : decode cX2_begin 1 = .ok (.sipush 150, 3) := by decide +kernel
theorem dX2_begin_4 : decode cX2_begin 4 = .ok (.if_icmp .le 8, 3) := by decide +kernel
theorem dX2_begin_7 : decode cX2_begin 7 = .ok (.iconst 4, 1) := by decide +kernel
theorem dX2_begin_8 : decode cX2_begin 8 = .ok (.invokestatic 143, 3) := by decide +kernel
theorem dX2_begin_11 : decode cX2_begin 11 = .ok (.ireturn, 1) := by decide +kernel
theorem dX2_begin_12 : decode cX2_begin 12 = .ok (.aload_n 0, 1) := by decide +kernel
theorem dX2_begin_13 : decode cX2_begin 13 = .ok (.getfield 121, 3) := by decide +kernel
theorem dX2_begin_16 : decode cX2_begin 16 = .ok (.sipush 3000, 3) := by decide +kernel
theorem dX2_begin_19 : decode cX2_begin 19 = .ok (.if_icmp .lt 8, 3) := by decide +kernel
theorem dX2_begin_22 : decode cX2_begin 22 = .ok (.iconst 5, 1) := by decide +kernel
theorem dX2_begin_23 : decode cX2_begin 23 = .ok (.invokestatic 143, 3) := by decide +kernel
theorem dX2_begin_26 : decode cX2_begin 26 = .ok (.ireturn, 1) := by decide +kernel
theorem dX2_begin_27 : decode cX2_begin 27 = .ok (.aload_n 0, 1) := by decide +kernel
theorem dX2_begin_28 : decode cX2_begin 28 = .ok (.dup, 1) := by decide +kernel
theorem dX2_begin_29 : decode cX2_begin 29 = .ok (.getfield 121, 3) := by decide +kernel
theorem dX2_begin_32 : decode cX2_begin 32 = .ok (.iconst 1, 1) := by decide +kernel
theorem dX2_begin_33 : decode cX2_begin 33 = .ok (.iadd, 1) := by decide +kernel
theorem dX2_begin_34 : decode cX2_begin 34 = .ok (.putfield 121, 3) := by decide +kernel
theorem dX2_begin_37 : decode cX2_begin 37 = .ok (.aload_n 0, 1) := by decide +kernel
theorem dX2_begin_38 : decode cX2_begin 38 = .ok (.dup, 1) := by decide +kernel
theorem dX2_begin_39 : decode cX2_begin 39 = .ok (.getfield 127, 3) := by decide +kernel
theorem dX2_begin_42 : decode cX2_begin 42 = .ok (.iconst 1, 1) := by decide +kernel
theorem dX2_begin_43 : decode cX2_begin 43 = .ok (.iadd, 1) := by decide +kernel
theorem dX2_begin_44 : decode cX2_begin 44 = .ok (.putfield 127, 3) := by decide +kernel
theorem dX2_begin_47 : decode cX2_begin 47 = .ok (.aload_n 0, 1) := by decide +kernel
theorem dX2_begin_48 : decode cX2_begin 48 = .ok (.getfield 23, 3) := by decide +kernel
theorem dX2_begin_51 : decode cX2_begin 51 = .ok (.iload_n 1, 1) := by decide +kernel
theorem dX2_begin_52 : decode cX2_begin 52 = .ok (.dup2, 1) := by decide +kernel
theorem dX2_begin_53 : decode cX2_begin 53 = .ok (.iaload, 1) := by decide +kernel
theorem dX2_begin_54 : decode cX2_begin 54 = .ok (.iconst 1, 1) := by decide +kernel
theorem dX2_begin_55 : decode cX2_begin 55 = .ok (.iadd, 1) := by decide +kernel
theorem dX2_begin_56 : decode cX2_begin 56 = .ok (.iastore, 1) := by decide +kernel
theorem dX2_begin_57 : decode cX2_begin 57 = .ok (.aload_n 0, 1) := by decide +kernel
theorem dX2_begin_58 : decode cX2_begin 58 = .ok (.aload_n 0, 1) := by decide +kernel
theorem dX2_begin_59 : decode cX2_begin 59 = .ok (.getfield 124, 3) := by decide +kernel
theorem dX2_begin_62 : decode cX2_begin 62 = .ok (.iload_n 2, 1) := by decide +kernel
theorem dX2_begin_63 : decode cX2_begin 63 = .ok (.invokestatic 154, 3) := by decide +kernel
theorem dX2_begin_66 : decode cX2_begin 66 = .ok (.putfield 124, 3) := by decide +kernel
theorem dX2_begin_69 : decode cX2_begin 69 = .ok (.iconst 0, 1) := by decide +kernel
theorem dX2_begin_70 : decode cX2_begin 70 = .ok (.ireturn, 1) := by decide +kernel
set_option maxRecDepth 20000 in
theorem ggX2_turn_X2_isFault : GoodIn wsX2_turn wsX2_isFault := goodIn_r _ [7] (by decide +kernel) (by decide +kernel)
set_option maxRecDepth 20000 in
theorem gX2_turn_X2_isFault : GoodIn wsX2_turn (va_wsS RX2 87 yX2_isFault wsX2_isFault) := goodIn_app (goodIn_of _ (by decide +kernel)) ggX2_turn_X2_isFault
set_option maxRecDepth 20000 in
theorem ggX2_turn_X2_takeBack : GoodIn wsX2_turn wsX2_takeBack := goodIn_r _ [11, 12, 13, 2, 14, 24, 25, 26, 27, 28, 29, 30, 31, 32, 33, 34, 35, 36, 37, 38, 39, 40, 41, 42, 43, 44, 45, 46, 47, 48] (by decide +kernel) (by decide +kernel)
set_option maxRecDepth 20000 in
theorem gX2_turn_X2_takeBack : GoodIn wsX2_turn (wsV RX2 100 RX2 yX2_takeBack wsX2_takeBack) := goodIn_app (goodIn_of _ (by decide +kernel)) ggX2_turn_X2_takeBack
set_option maxRecDepth 20000 in
theorem ggX2_turn_X0_add : GoodIn wsX2_turn wsX0_add := goodIn_r _ [19, 20, 21, 22, 23, 45, 46, 47, 48] (by decide +kernel) (by decide +kernel)
set_option maxRecDepth 20000 in
theorem gX2_turn_X0_add : GoodIn wsX2_turn (wsV RX2 159 RX0 yX0_add wsX0_add) := goodIn_app (goodIn_of _ (by decide +kernel)) ggX2_turn_X0_add
theorem dX2_turn_0 : decode cX2_turn 0 = .ok (.iload_n 3, 1) := by decide +kernel
theorem dX2_turn_1 : decode cX2_turn 1 = .ok (.invokestatic 87, 3) := by decide +kernel
theorem dX2_turn_4 : decode cX2_turn 4 = .ok (.ifCond .eq 5, 3) := by decide +kernel
theorem dX2_turn_7 : decode cX2_turn 7 = .ok (.iload_n 3, 1) := by decide +kernel
theorem dX2_turn_8 : decode cX2_turn 8 = .ok (.ireturn, 1) := by decide +kernel
theorem dX2_turn_9 : decode cX2_turn 9 = .ok (.aload_n 0, 1) := by decide +kernel
theorem dX2_turn_10 : decode cX2_turn 10 = .ok (.getfield 13, 3) := by decide +kernel
theorem dX2_turn_13 : decode cX2_turn 13 = .ok (.iload_n 1, 1) := by decide +kernel
theorem dX2_turn_14 : decode cX2_turn 14 = .ok (.iaload, 1) := by decide +kernel
theorem dX2_turn_15 : decode cX2_turn 15 = .ok (.tableswitch 66 7 9 #[25, 36, 47], 25) := by decide +kernel
theorem dX2_turn_40 : decode cX2_turn 40 = .ok (.iload_n 3, 1) := by decide +kernel
theorem dX2_turn_41 : decode cX2_turn 41 = .ok (.iconst (-1), 1) := by decide +kernel
theorem dX2_turn_42 : decode cX2_turn 42 = .ok (.if_icmp .ne 7, 3) := by decide +kernel
theorem dX2_turn_45 : decode cX2_turn 45 = .ok (.iload_n 2, 1) := by decide +kernel
theorem dX2_turn_46 : decode cX2_turn 46 = .ok (.goto 4, 3) := by decide +kernel
theorem dX2_turn_49 : decode cX2_turn 49 = .ok (.iload_n 3, 1) := by decide +kernel
theorem dX2_turn_50 : decode cX2_turn 50 = .ok (.ireturn, 1) := by decide +kernel
theorem dX2_turn_51 : decode cX2_turn 51 = .ok (.iload_n 3, 1) := by decide +kernel
theorem dX2_turn_52 : decode cX2_turn 52 = .ok (.iconst (-1), 1) := by decide +kernel
theorem dX2_turn_53 : decode cX2_turn 53 = .ok (.if_icmp .ne 7, 3) := by decide +kernel
theorem dX2_turn_56 : decode cX2_turn 56 = .ok (.iload_n 2, 1) := by decide +kernel
theorem dX2_turn_57 : decode cX2_turn 57 = .ok (.goto 4, 3) := by decide +kernel
theorem dX2_turn_60 : decode cX2_turn 60 = .ok (.iconst (-1), 1) := by decide +kernel
theorem dX2_turn_61 : decode cX2_turn 61 = .ok (.ireturn, 1) := by decide +kernel
theorem dX2_turn_62 : decode cX2_turn 62 = .ok (.aload_n 0, 1) := by decide +kernel
theorem dX2_turn_63 : decode cX2_turn 63 = .ok (.iload 4, 2) := by decide +kernel
theorem dX2_turn_65 : decode cX2_turn 65 = .ok (.iload 5, 2) := by decide +kernel
theorem dX2_turn_67 : decode cX2_turn 67 = .ok (.invokevirtual 100, 3) := by decide +kernel
theorem dX2_turn_70 : decode cX2_turn 70 = .ok (.iload_n 3, 1) := by decide +kernel
theorem dX2_turn_71 : decode cX2_turn 71 = .ok (.iconst (-1), 1) := by decide +kernel
theorem dX2_turn_72 : decode cX2_turn 72 = .ok (.if_icmp .ne 7, 3) := by decide +kernel
theorem dX2_turn_75 : decode cX2_turn 75 = .ok (.iconst (-1), 1) := by decide +kernel
theorem dX2_turn_76 : decode cX2_turn 76 = .ok (.goto 4, 3) := by decide +kernel
theorem dX2_turn_79 : decode cX2_turn 79 = .ok (.iload_n 2, 1) := by decide +kernel
theorem dX2_turn_80 : decode cX2_turn 80 = .ok (.ireturn, 1) := by decide +kernel
theorem dX2_turn_81 : decode cX2_turn 81 = .ok (.iload_n 3, 1) := by decide +kernel
theorem dX2_turn_82 : decode cX2_turn 82 = .ok (.iconst (-1), 1) := by decide +kernel
theorem dX2_turn_83 : decode cX2_turn 83 = .ok (.if_icmp .eq 18, 3) := by decide +kernel
theorem dX2_turn_86 : decode cX2_turn 86 = .ok (.aload_n 0, 1) := by decide +kernel
theorem dX2_turn_87 : decode cX2_turn 87 = .ok (.getfield 43, 3) := by decide +kernel
theorem dX2_turn_90 : decode cX2_turn 90 = .ok (.aload_n 0, 1) := by decide +kernel
theorem dX2_turn_91 : decode cX2_turn 91 = .ok (.getfield 20, 3) := by decide +kernel
theorem dX2_turn_94 : decode cX2_turn 94 = .ok (.iload_n 1, 1) := by decide +kernel
theorem dX2_turn_95 : decode cX2_turn 95 = .ok (.iaload, 1) := by decide +kernel
theorem dX2_turn_96 : decode cX2_turn 96 = .ok (.iload_n 2, 1) := by decide +kernel
theorem dX2_turn_97 : decode cX2_turn 97 = .ok (.iload_n 3, 1) := by decide +kernel
theorem dX2_turn_98 : decode cX2_turn 98 = .ok (.invokevirtual 159, 3) := by decide +kernel
theorem dX2_turn_101 : decode cX2_turn 101 = .ok (.iload_n 3, 1) := by decide +kernel
theorem dX2_turn_102 : decode cX2_turn 102 = .ok (.ireturn, 1) := by decide +kernel
set_option maxRecDepth 20000 in
theorem ggX2_readAlone_X2_passSign : GoodIn wsX2_readAlone wsX2_passSign := goodIn_r _ [11, 4, 12, 52, 53, 54, 55, 56, 57, 58, 59, 60, 61, 62, 63, 64, 65, 66, 67] (by decide +kernel) (by decide +kernel)
set_option maxRecDepth 20000 in
theorem gX2_readAlone_X2_passSign : GoodIn wsX2_readAlone (wsV RX2 163 RX2 yX2_passSign wsX2_passSign) := goodIn_app (goodIn_of _ (by decide +kernel)) ggX2_readAlone_X2_passSign
set_option maxRecDepth 20000 in
theorem ggX2_readAlone_X1_lay : GoodIn wsX2_readAlone wsX1_lay := goodIn_r _ [17, 18, 19, 20, 21, 22, 23, 24, 25, 16, 26, 68, 69, 70, 71, 72] (by decide +kernel) (by decide +kernel)
set_option maxRecDepth 20000 in
theorem gX2_readAlone_X1_lay : GoodIn wsX2_readAlone (wsV RX2 166 RX1 yX1_lay wsX1_lay) := goodIn_app (goodIn_of _ (by decide +kernel)) ggX2_readAlone_X1_lay
set_option maxRecDepth 20000 in
theorem ggX2_readAlone_X2_readFigure : GoodIn wsX2_readAlone wsX2_readFigure := goodIn_r _ [30, 6, 31, 12, 32, 7, 8, 9, 10, 11, 4, 33, 34, 35, 16, 36, 21, 22, 37, 38, 39, 40, 41, 42, 43, 19, 44, 23, 24, 25, 26, 20, 13, 14, 15, 17, 18, 52, 53, 54, 55, 56, 57, 58, 59, 60, 61, 62, 63, 64, 65, 66, 67, 68, 69, 70, 71, 72] (by decide +kernel) (by decide +kernel)
set_option maxRecDepth 20000 in
theorem gX2_readAlone_X2_readFigure : GoodIn wsX2_readAlone (wsV RX2 170 RX2 yX2_readFigure wsX2_readFigure) := goodIn_app (goodIn_of _ (by decide +kernel)) ggX2_readAlone_X2_readFigure
set_option maxRecDepth 20000 in
theorem ggX2_readAlone_X2_act : GoodIn wsX2_readAlone wsX2_act := goodIn_r _ [48, 6, 33, 34, 35, 16, 36, 21, 22, 37, 38, 10, 39, 40, 41, 42, 43, 19, 44, 23, 24, 25, 26, 20, 49, 50, 51, 13, 14, 15, 17, 18, 52, 53, 54, 55, 56, 57, 58, 59, 60, 61, 62, 63, 64, 65, 66, 67, 68, 69, 70, 71, 72] (by decide +kernel) (by decide +kernel)
set_option maxRecDepth 20000 in
theorem gX2_readAlone_X2_act : GoodIn wsX2_readAlone (wsV RX2 173 RX2 yX2_act wsX2_act) := goodIn_app (goodIn_of _ (by decide +kernel)) ggX2_readAlone_X2_act
theorem dX2_readAlone_0 : decode cX2_readAlone 0 = .ok (.aload_n 0, 1) := by decide +kernel
theorem dX2_readAlone_1 : decode cX2_readAlone 1 = .ok (.getfield 17, 3) := by decide +kernel
theorem dX2_readAlone_4 : decode cX2_readAlone 4 = .ok (.iload_n 1, 1) := by decide +kernel
theorem dX2_readAlone_5 : decode cX2_readAlone 5 = .ok (.iaload, 1) := by decide +kernel
theorem dX2_readAlone_6 : decode cX2_readAlone 6 = .ok (.istore 4, 2) := by decide +kernel
theorem dX2_readAlone_8 : decode cX2_readAlone 8 = .ok (.aload_n 0, 1) := by decide +kernel
theorem dX2_readAlone_9 : decode cX2_readAlone 9 = .ok (.getfield 13, 3) := by decide +kernel
theorem dX2_readAlone_12 : decode cX2_readAlone 12 = .ok (.iload_n 1, 1) := by decide +kernel
theorem dX2_readAlone_13 : decode cX2_readAlone 13 = .ok (.iaload, 1) := by decide +kernel
theorem dX2_readAlone_14 : decode cX2_readAlone 14 = .ok (.tableswitch 149 0 14 #[74, 84, 98, 107, 149, 149, 149, 149, 149, 149, 149, 149, 121, 130, 143], 74) := by decide +kernel
theorem dX2_readAlone_88 : decode cX2_readAlone 88 = .ok (.aload_n 0, 1) := by decide +kernel
theorem dX2_readAlone_89 : decode cX2_readAlone 89 = .ok (.iload_n 2, 1) := by decide +kernel
theorem dX2_readAlone_90 : decode cX2_readAlone 90 = .ok (.iload 4, 2) := by decide +kernel
theorem dX2_readAlone_92 : decode cX2_readAlone 92 = .ok (.iload 4, 2) := by decide +kernel
theorem dX2_readAlone_94 : decode cX2_readAlone 94 = .ok (.invokevirtual 163, 3) := by decide +kernel
theorem dX2_readAlone_97 : decode cX2_readAlone 97 = .ok (.ireturn, 1) := by decide +kernel
theorem dX2_readAlone_98 : decode cX2_readAlone 98 = .ok (.aload_n 0, 1) := by decide +kernel
theorem dX2_readAlone_99 : decode cX2_readAlone 99 = .ok (.iload_n 2, 1) := by decide +kernel
theorem dX2_readAlone_100 : decode cX2_readAlone 100 = .ok (.iload 4, 2) := by decide +kernel
theorem dX2_readAlone_102 : decode cX2_readAlone 102 = .ok (.aload_n 0, 1) := by decide +kernel
theorem dX2_readAlone_103 : decode cX2_readAlone 103 = .ok (.getfield 20, 3) := by decide +kernel
theorem dX2_readAlone_106 : decode cX2_readAlone 106 = .ok (.iload_n 1, 1) := by decide +kernel
theorem dX2_readAlone_107 : decode cX2_readAlone 107 = .ok (.iaload, 1) := by decide +kernel
theorem dX2_readAlone_108 : decode cX2_readAlone 108 = .ok (.invokevirtual 163, 3) := by decide +kernel
theorem dX2_readAlone_111 : decode cX2_readAlone 111 = .ok (.ireturn, 1) := by decide +kernel
theorem dX2_readAlone_112 : decode cX2_readAlone 112 = .ok (.aload_n 0, 1) := by decide +kernel
theorem dX2_readAlone_113 : decode cX2_readAlone 113 = .ok (.iload_n 2, 1) := by decide +kernel
theorem dX2_readAlone_114 : decode cX2_readAlone 114 = .ok (.iconst 0, 1) := by decide +kernel
theorem dX2_readAlone_115 : decode cX2_readAlone 115 = .ok (.bipush 127, 2) := by decide +kernel
theorem dX2_readAlone_117 : decode cX2_readAlone 117 = .ok (.invokevirtual 163, 3) := by decide +kernel
theorem dX2_readAlone_120 : decode cX2_readAlone 120 = .ok (.ireturn, 1) := by decide +kernel
theorem dX2_readAlone_121 : decode cX2_readAlone 121 = .ok (.iload_n 2, 1) := by decide +kernel
theorem dX2_readAlone_122 : decode cX2_readAlone 122 = .ok (.aload_n 0, 1) := by decide +kernel
theorem dX2_readAlone_123 : decode cX2_readAlone 123 = .ok (.getfield 57, 3) := by decide +kernel
theorem dX2_readAlone_126 : decode cX2_readAlone 126 = .ok (.if_icmp .ne 7, 3) := by decide +kernel
theorem dX2_readAlone_129 : decode cX2_readAlone 129 = .ok (.iload_n 2, 1) := by decide +kernel
theorem dX2_readAlone_130 : decode cX2_readAlone 130 = .ok (.goto 4, 3) := by decide +kernel
theorem dX2_readAlone_133 : decode cX2_readAlone 133 = .ok (.iconst (-1), 1) := by decide +kernel
theorem dX2_readAlone_134 : decode cX2_readAlone 134 = .ok (.ireturn, 1) := by decide +kernel
theorem dX2_readAlone_135 : decode cX2_readAlone 135 = .ok (.aload_n 0, 1) := by decide +kernel
theorem dX2_readAlone_136 : decode cX2_readAlone 136 = .ok (.getfield 29, 3) := by decide +kernel
theorem dX2_readAlone_139 : decode cX2_readAlone 139 = .ok (.iload_n 3, 1) := by decide +kernel
theorem dX2_readAlone_140 : decode cX2_readAlone 140 = .ok (.iconst 1, 1) := by decide +kernel
theorem dX2_readAlone_141 : decode cX2_readAlone 141 = .ok (.bastore, 1) := by decide +kernel
theorem dX2_readAlone_142 : decode cX2_readAlone 142 = .ok (.iload_n 2, 1) := by decide +kernel
theorem dX2_readAlone_143 : decode cX2_readAlone 143 = .ok (.ireturn, 1) := by decide +kernel
theorem dX2_readAlone_144 : decode cX2_readAlone 144 = .ok (.aload_n 0, 1) := by decide +kernel
theorem dX2_readAlone_145 : decode cX2_readAlone 145 = .ok (.getfield 36, 3) := by decide +kernel
theorem dX2_readAlone_148 : decode cX2_readAlone 148 = .ok (.iload 4, 2) := by decide +kernel
theorem dX2_readAlone_150 : decode cX2_readAlone 150 = .ok (.i2l, 1) := by decide +kernel
theorem dX2_readAlone_151 : decode cX2_readAlone 151 = .ok (.iconst 0, 1) := by decide +kernel
theorem dX2_readAlone_152 : decode cX2_readAlone 152 = .ok (.invokevirtual 166, 3) := by decide +kernel
theorem dX2_readAlone_155 : decode cX2_readAlone 155 = .ok (.iload_n 2, 1) := by decide +kernel
theorem dX2_readAlone_156 : decode cX2_readAlone 156 = .ok (.ireturn, 1) := by decide +kernel
theorem dX2_readAlone_157 : decode cX2_readAlone 157 = .ok (.aload_n 0, 1) := by decide +kernel
theorem dX2_readAlone_158 : decode cX2_readAlone 158 = .ok (.iload_n 2, 1) := by decide +kernel
theorem dX2_readAlone_159 : decode cX2_readAlone 159 = .ok (.invokevirtual 170, 3) := by decide +kernel
theorem dX2_readAlone_162 : decode cX2_readAlone 162 = .ok (.ireturn, 1) := by decide +kernel
theorem dX2_readAlone_163 : decode cX2_readAlone 163 = .ok (.aload_n 0, 1) := by decide +kernel
theorem dX2_readAlone_164 : decode cX2_readAlone 164 = .ok (.iload 4, 2) := by decide +kernel
theorem dX2_readAlone_166 : decode cX2_readAlone 166 = .ok (.iload_n 2, 1) := by decide +kernel
theorem dX2_readAlone_167 : decode cX2_readAlone 167 = .ok (.invokevirtual 173, 3) := by decide +kernel
theorem dX2_readAlone_170 : decode cX2_readAlone 170 = .ok (.ireturn, 1) := by decide +kernel
theorem dX2_passSign_0 : decode cX2_passSign 0 = .ok (.iload_n 1, 1) := by decide +kernel
theorem dX2_passSign_1 : decode cX2_passSign 1 = .ok (.ifCond .lt 11, 3) := by decide +kernel
theorem dX2_passSign_4 : decode cX2_passSign 4 = .ok (.iload_n 1, 1) := by decide +kernel
theorem dX2_passSign_5 : decode cX2_passSign 5 = .ok (.aload_n 0, 1) := by decide +kernel
theorem dX2_passSign_6 : decode cX2_passSign 6 = .ok (.getfield 57, 3) := by decide +kernel
theorem dX2_passSign_9 : decode cX2_passSign 9 = .ok (.if_icmp .lt 5, 3) := by decide +kernel
theorem dX2_passSign_12 : decode cX2_passSign 12 = .ok (.iconst (-1), 1) := by decide +kernel
theorem dX2_passSign_13 : decode cX2_passSign 13 = .ok (.ireturn, 1) := by decide +kernel
theorem dX2_passSign_14 : decode cX2_passSign 14 = .ok (.aload_n 0, 1) := by decide +kernel
theorem dX2_passSign_15 : decode cX2_passSign 15 = .ok (.getfield 9, 3) := by decide +kernel
theorem dX2_passSign_18 : decode cX2_passSign 18 = .ok (.iload_n 1, 1) := by decide +kernel
theorem dX2_passSign_19 : decode cX2_passSign 19 = .ok (.baload, 1) := by decide +kernel
theorem dX2_passSign_20 : decode cX2_passSign 20 = .ok (.istore 4, 2) := by decide +kernel
theorem dX2_passSign_22 : decode cX2_passSign 22 = .ok (.iload 4, 2) := by decide +kernel
theorem dX2_passSign_24 : decode cX2_passSign 24 = .ok (.iload_n 2, 1) := by decide +kernel
theorem dX2_passSign_25 : decode cX2_passSign 25 = .ok (.if_icmp .lt 15, 3) := by decide +kernel
theorem dX2_passSign_28 : decode cX2_passSign 28 = .ok (.iload 4, 2) := by decide +kernel
theorem dX2_passSign_30 : decode cX2_passSign 30 = .ok (.iload_n 3, 1) := by decide +kernel
theorem dX2_passSign_31 : decode cX2_passSign 31 = .ok (.if_icmp .gt 9, 3) := by decide +kernel
theorem dX2_passSign_34 : decode cX2_passSign 34 = .ok (.iload_n 1, 1) := by decide +kernel
theorem dX2_passSign_35 : decode cX2_passSign 35 = .ok (.iconst 1, 1) := by decide +kernel
theorem dX2_passSign_36 : decode cX2_passSign 36 = .ok (.iadd, 1) := by decide +kernel
theorem dX2_passSign_37 : decode cX2_passSign 37 = .ok (.goto 4, 3) := by decide +kernel
theorem dX2_passSign_40 : decode cX2_passSign 40 = .ok (.iconst (-1), 1) := by decide +kernel
theorem dX2_passSign_41 : decode cX2_passSign 41 = .ok (.ireturn, 1) := by decide +kernel
set_option maxRecDepth 20000 in
theorem ggX2_readFigure_X2_passSign : GoodIn wsX2_readFigure wsX2_passSign := goodIn_r _ [9, 10, 3, 37, 38, 39, 40, 41, 42, 43, 44, 45, 46, 47, 48, 49, 50, 51, 52] (by decide +kernel) (by decide +kernel)
set_option maxRecDepth 20000 in
theorem gX2_readFigure_X2_passSign : GoodIn wsX2_readFigure (wsV RX2 163 RX2 yX2_passSign wsX2_passSign) := goodIn_app (goodIn_of _ (by decide +kernel)) ggX2_readFigure_X2_passSign
set_option maxRecDepth 20000 in
theorem ggX2_readFigure_X1_height : GoodIn wsX2_readFigure wsX1_height := goodIn_r _ [15, 16, 17, 53, 54, 55, 56, 57] (by decide +kernel) (by decide +kernel)
set_option maxRecDepth 20000 in
theorem gX2_readFigure_X1_height : GoodIn wsX2_readFigure (wsV RX2 117 RX1 yX1_height wsX1_height) := goodIn_app (goodIn_of _ (by decide +kernel)) ggX2_readFigure_X1_height
set_option maxRecDepth 20000 in
theorem ggX2_readFigure_X2_faultAnswer : GoodIn wsX2_readFigure wsX2_faultAnswer := goodIn_r _ [20] (by decide +kernel) (by decide +kernel)
set_option maxRecDepth 20000 in
theorem gX2_readFigure_X2_faultAnswer : GoodIn wsX2_readFigure (va_wsS RX2 143 yX2_faultAnswer wsX2_faultAnswer) := goodIn_app (goodIn_of _ (by decide +kernel)) ggX2_readFigure_X2_faultAnswer
set_option maxRecDepth 20000 in
theorem ggX2_readFigure_X1_numberUnder : GoodIn wsX2_readFigure wsX1_numberUnder := goodIn_r _ [24, 25, 26, 12, 13, 14, 15, 16, 17, 27, 28, 29, 30, 31, 53, 54, 55, 56, 57] (by decide +kernel) (by decide +kernel)
set_option maxRecDepth 20000 in
theorem gX2_readFigure_X1_numberUnder : GoodIn wsX2_readFigure (wsV RX2 104 RX1 yX1_numberUnder wsX1_numberUnder) := goodIn_app (goodIn_of _ (by decide +kernel)) ggX2_readFigure_X1_numberUnder
set_option maxRecDepth 20000 in
theorem ggX2_readFigure_X1_lay : GoodIn wsX2_readFigure wsX1_lay := goodIn_r _ [35, 36, 25, 31, 16, 17, 27, 28, 29, 14, 30, 53, 54, 55, 56, 57] (by decide +kernel) (by decide +kernel)
set_option maxRecDepth 20000 in
theorem gX2_readFigure_X1_lay : GoodIn wsX2_readFigure (wsV RX2 166 RX1 yX1_lay wsX1_lay) := goodIn_app (goodIn_of _ (by decide +kernel)) ggX2_readFigure_X1_lay
theorem dX2_readFigure_0 : decode cX2_readFigure 0 = .ok (.aload_n 0, 1) := by decide +kernel
theorem dX2_readFigure_1 : decode cX2_readFigure 1 = .ok (.iload_n 1, 1) := by decide +kernel
theorem dX2_readFigure_2 : decode cX2_readFigure 2 = .ok (.bipush 48, 2) := by decide +kernel
theorem dX2_readFigure_4 : decode cX2_readFigure 4 = .ok (.bipush 57, 2) := by decide +kernel
theorem dX2_readFigure_6 : decode cX2_readFigure 6 = .ok (.invokevirtual 163, 3) := by decide +kernel
theorem dX2_readFigure_9 : decode cX2_readFigure 9 = .ok (.istore_n 2, 1) := by decide +kernel
theorem dX2_readFigure_10 : decode cX2_readFigure 10 = .ok (.iload_n 2, 1) := by decide +kernel
theorem dX2_readFigure_11 : decode cX2_readFigure 11 = .ok (.iconst (-1), 1) := by decide +kernel
theorem dX2_readFigure_12 : decode cX2_readFigure 12 = .ok (.if_icmp .ne 5, 3) := by decide +kernel
theorem dX2_readFigure_15 : decode cX2_readFigure 15 = .ok (.iconst (-1), 1) := by decide +kernel
theorem dX2_readFigure_16 : decode cX2_readFigure 16 = .ok (.ireturn, 1) := by decide +kernel
theorem dX2_readFigure_17 : decode cX2_readFigure 17 = .ok (.aload_n 0, 1) := by decide +kernel
theorem dX2_readFigure_18 : decode cX2_readFigure 18 = .ok (.getfield 36, 3) := by decide +kernel
theorem dX2_readFigure_21 : decode cX2_readFigure 21 = .ok (.invokevirtual 117, 3) := by decide +kernel
theorem dX2_readFigure_24 : decode cX2_readFigure 24 = .ok (.iconst 1, 1) := by decide +kernel
theorem dX2_readFigure_25 : decode cX2_readFigure 25 = .ok (.if_icmp .ge 8, 3) := by decide +kernel
theorem dX2_readFigure_28 : decode cX2_readFigure 28 = .ok (.iconst 3, 1) := by decide +kernel
theorem dX2_readFigure_29 : decode cX2_readFigure 29 = .ok (.invokestatic 143, 3) := by decide +kernel
theorem dX2_readFigure_32 : decode cX2_readFigure 32 = .ok (.ireturn, 1) := by decide +kernel
theorem dX2_readFigure_33 : decode cX2_readFigure 33 = .ok (.aload_n 0, 1) := by decide +kernel
theorem dX2_readFigure_34 : decode cX2_readFigure 34 = .ok (.getfield 36, 3) := by decide +kernel
theorem dX2_readFigure_37 : decode cX2_readFigure 37 = .ok (.ldc2_w 176, 3) := by decide +kernel
theorem dX2_readFigure_40 : decode cX2_readFigure 40 = .ok (.aload_n 0, 1) := by decide +kernel
theorem dX2_readFigure_41 : decode cX2_readFigure 41 = .ok (.getfield 36, 3) := by decide +kernel
theorem dX2_readFigure_44 : decode cX2_readFigure 44 = .ok (.iconst 0, 1) := by decide +kernel
theorem dX2_readFigure_45 : decode cX2_readFigure 45 = .ok (.invokevirtual 104, 3) := by decide +kernel
theorem dX2_readFigure_48 : decode cX2_readFigure 48 = .ok (.lmul, 1) := by decide +kernel
theorem dX2_readFigure_49 : decode cX2_readFigure 49 = .ok (.aload_n 0, 1) := by decide +kernel
theorem dX2_readFigure_50 : decode cX2_readFigure 50 = .ok (.getfield 9, 3) := by decide +kernel
theorem dX2_readFigure_53 : decode cX2_readFigure 53 = .ok (.iload_n 1, 1) := by decide +kernel
theorem dX2_readFigure_54 : decode cX2_readFigure 54 = .ok (.baload, 1) := by decide +kernel
theorem dX2_readFigure_55 : decode cX2_readFigure 55 = .ok (.i2l, 1) := by decide +kernel
theorem dX2_readFigure_56 : decode cX2_readFigure 56 = .ok (.ladd, 1) := by decide +kernel
theorem dX2_readFigure_57 : decode cX2_readFigure 57 = .ok (.ldc2_w 178, 3) := by decide +kernel
theorem dX2_readFigure_60 : decode cX2_readFigure 60 = .ok (.lsub, 1) := by decide +kernel
theorem dX2_readFigure_61 : decode cX2_readFigure 61 = .ok (.iconst 1, 1) := by decide +kernel
theorem dX2_readFigure_62 : decode cX2_readFigure 62 = .ok (.invokevirtual 166, 3) := by decide +kernel
theorem dX2_readFigure_65 : decode cX2_readFigure 65 = .ok (.iload_n 2, 1) := by decide +kernel
theorem dX2_readFigure_66 : decode cX2_readFigure 66 = .ok (.ireturn, 1) := by decide +kernel
set_option maxRecDepth 20000 in
theorem ggX2_act_X1_height : GoodIn wsX2_act wsX1_height := goodIn_r _ [6, 7, 8, 48, 49, 50, 51, 52] (by decide +kernel) (by decide +kernel)
set_option maxRecDepth 20000 in
theorem gX2_act_X1_height : GoodIn wsX2_act (wsV RX2 117 RX1 yX1_height wsX1_height) := goodIn_app (goodIn_of _ (by decide +kernel)) ggX2_act_X1_height
set_option maxRecDepth 20000 in
theorem ggX2_act_X2_faultAnswer : GoodIn wsX2_act wsX2_faultAnswer := goodIn_r _ [12] (by decide +kernel) (by decide +kernel)
set_option maxRecDepth 20000 in
theorem gX2_act_X2_faultAnswer : GoodIn wsX2_act (va_wsS RX2 143 yX2_faultAnswer wsX2_faultAnswer) := goodIn_app (goodIn_of _ (by decide +kernel)) ggX2_act_X2_faultAnswer
set_option maxRecDepth 20000 in
theorem ggX2_act_X1_numberUnder : GoodIn wsX2_act wsX1_numberUnder := goodIn_r _ [16, 17, 18, 3, 4, 5, 6, 7, 8, 19, 20, 21, 22, 23, 48, 49, 50, 51, 52] (by decide +kernel) (by decide +kernel)
set_option maxRecDepth 20000 in
theorem gX2_act_X1_numberUnder : GoodIn wsX2_act (wsV RX2 104 RX1 yX1_numberUnder wsX1_numberUnder) := goodIn_app (goodIn_of _ (by decide +kernel)) ggX2_act_X1_numberUnder
set_option maxRecDepth 20000 in
theorem ggX2_act_X2_reckon : GoodIn wsX2_act wsX2_reckon := goodIn_r _ [26] (by decide +kernel) (by decide +kernel)
set_option maxRecDepth 20000 in
theorem gX2_act_X2_reckon : GoodIn wsX2_act (va_wsS RX2 180 yX2_reckon wsX2_reckon) := goodIn_app (goodIn_of _ (by decide +kernel)) ggX2_act_X2_reckon
set_option maxRecDepth 20000 in
theorem ggX2_act_X1_lay : GoodIn wsX2_act wsX1_lay := goodIn_r _ [30, 31, 17, 23, 7, 8, 19, 20, 21, 5, 22, 48, 49, 50, 51, 52] (by decide +kernel) (by decide +kernel)
set_option maxRecDepth 20000 in
theorem gX2_act_X1_lay : GoodIn wsX2_act (wsV RX2 166 RX1 yX1_lay wsX1_lay) := goodIn_app (goodIn_of _ (by decide +kernel)) ggX2_act_X1_lay
theorem dX2_act_0 : decode cX2_act 0 = .ok (.aload_n 0, 1) := by decide +kernel
theorem dX2_act_1 : decode cX2_act 1 = .ok (.getfield 36, 3) := by decide +kernel
theorem dX2_act_4 : decode cX2_act 4 = .ok (.invokevirtual 117, 3) := by decide +kernel
theorem dX2_act_7 : decode cX2_act 7 = .ok (.iconst 2, 1) := by decide +kernel
theorem dX2_act_8 : decode cX2_act 8 = .ok (.if_icmp .ge 8, 3) := by decide +kernel
theorem dX2_act_11 : decode cX2_act 11 = .ok (.iconst 3, 1) := by decide +kernel
theorem dX2_act_12 : decode cX2_act 12 = .ok (.invokestatic 143, 3) := by decide +kernel
theorem dX2_act_15 : decode cX2_act 15 = .ok (.ireturn, 1) := by decide +kernel
theorem dX2_act_16 : decode cX2_act 16 = .ok (.aload_n 0, 1) := by decide +kernel
theorem dX2_act_17 : decode cX2_act 17 = .ok (.getfield 36, 3) := by decide +kernel
theorem dX2_act_20 : decode cX2_act 20 = .ok (.iconst 0, 1) := by decide +kernel
theorem dX2_act_21 : decode cX2_act 21 = .ok (.invokevirtual 104, 3) := by decide +kernel
theorem dX2_act_24 : decode cX2_act 24 = .ok (.lstore_n 3, 1) := by decide +kernel
theorem dX2_act_25 : decode cX2_act 25 = .ok (.aload_n 0, 1) := by decide +kernel
theorem dX2_act_26 : decode cX2_act 26 = .ok (.getfield 36, 3) := by decide +kernel
theorem dX2_act_29 : decode cX2_act 29 = .ok (.iconst 1, 1) := by decide +kernel
theorem dX2_act_30 : decode cX2_act 30 = .ok (.invokevirtual 104, 3) := by decide +kernel
theorem dX2_act_33 : decode cX2_act 33 = .ok (.lstore 5, 2) := by decide +kernel
theorem dX2_act_35 : decode cX2_act 35 = .ok (.iload_n 1, 1) := by decide +kernel
theorem dX2_act_36 : decode cX2_act 36 = .ok (.iconst 3, 1) := by decide +kernel
theorem dX2_act_37 : decode cX2_act 37 = .ok (.if_icmp .ne 14, 3) := by decide +kernel
theorem dX2_act_40 : decode cX2_act 40 = .ok (.lload_n 3, 1) := by decide +kernel
theorem dX2_act_41 : decode cX2_act 41 = .ok (.lconst 0, 1) := by decide +kernel
theorem dX2_act_42 : decode cX2_act 42 = .ok (.lcmp, 1) := by decide +kernel
theorem dX2_act_43 : decode cX2_act 43 = .ok (.ifCond .ne 8, 3) := by decide +kernel
theorem dX2_act_46 : decode cX2_act 46 = .ok (.iconst 2, 1) := by decide +kernel
theorem dX2_act_47 : decode cX2_act 47 = .ok (.invokestatic 143, 3) := by decide +kernel
theorem dX2_act_50 : decode cX2_act 50 = .ok (.ireturn, 1) := by decide +kernel
theorem dX2_act_51 : decode cX2_act 51 = .ok (.aload_n 0, 1) := by decide +kernel
theorem dX2_act_52 : decode cX2_act 52 = .ok (.getfield 36, 3) := by decide +kernel
theorem dX2_act_55 : decode cX2_act 55 = .ok (.iload_n 1, 1) := by decide +kernel
theorem dX2_act_56 : decode cX2_act 56 = .ok (.lload 5, 2) := by decide +kernel
theorem dX2_act_58 : decode cX2_act 58 = .ok (.lload_n 3, 1) := by decide +kernel
theorem dX2_act_59 : decode cX2_act 59 = .ok (.invokestatic 180, 3) := by decide +kernel
theorem dX2_act_62 : decode cX2_act 62 = .ok (.iconst 2, 1) := by decide +kernel
theorem dX2_act_63 : decode cX2_act 63 = .ok (.invokevirtual 166, 3) := by decide +kernel
theorem dX2_act_66 : decode cX2_act 66 = .ok (.iload_n 2, 1) := by decide +kernel
theorem dX2_act_67 : decode cX2_act 67 = .ok (.ireturn, 1) := by decide +kernel
theorem dX2_reckon_0 : decode cX2_reckon 0 = .ok (.iload_n 0, 1) := by decide +kernel
theorem dX2_reckon_1 : decode cX2_reckon 1 = .ok (.tableswitch 39 0 2 #[27, 31, 35], 27) := by decide +kernel
theorem dX2_reckon_28 : decode cX2_reckon 28 = .ok (.lload_n 1, 1) := by decide +kernel
theorem dX2_reckon_29 : decode cX2_reckon 29 = .ok (.lload_n 3, 1) := by decide +kernel
theorem dX2_reckon_30 : decode cX2_reckon 30 = .ok (.ladd, 1) := by decide +kernel
theorem dX2_reckon_31 : decode cX2_reckon 31 = .ok (.lreturn, 1) := by decide +kernel
theorem dX2_reckon_32 : decode cX2_reckon 32 = .ok (.lload_n 1, 1) := by decide +kernel
theorem dX2_reckon_33 : decode cX2_reckon 33 = .ok (.lload_n 3, 1) := by decide +kernel
theorem dX2_reckon_34 : decode cX2_reckon 34 = .ok (.lsub, 1) := by decide +kernel
theorem dX2_reckon_35 : decode cX2_reckon 35 = .ok (.lreturn, 1) := by decide +kernel
theorem dX2_reckon_36 : decode cX2_reckon 36 = .ok (.lload_n 1, 1) := by decide +kernel
theorem dX2_reckon_37 : decode cX2_reckon 37 = .ok (.lload_n 3, 1) := by decide +kernel
theorem dX2_reckon_38 : decode cX2_reckon 38 = .ok (.lmul, 1) := by decide +kernel
theorem dX2_reckon_39 : decode cX2_reckon 39 = .ok (.lreturn, 1) := by decide +kernel
theorem dX2_reckon_40 : decode cX2_reckon 40 = .ok (.lload_n 3, 1) := by decide +kernel
theorem dX2_reckon_41 : decode cX2_reckon 41 = .ok (.lconst 0, 1) := by decide +kernel
theorem dX2_reckon_42 : decode cX2_reckon 42 = .ok (.lcmp, 1) := by decide +kernel
theorem dX2_reckon_43 : decode cX2_reckon 43 = .ok (.ifCond .ne 7, 3) := by decide +kernel
theorem dX2_reckon_46 : decode cX2_reckon 46 = .ok (.lconst 0, 1) := by decide +kernel
theorem dX2_reckon_47 : decode cX2_reckon 47 = .ok (.goto 6, 3) := by decide +kernel
theorem dX2_reckon_50 : decode cX2_reckon 50 = .ok (.lload_n 1, 1) := by decide +kernel
theorem dX2_reckon_51 : decode cX2_reckon 51 = .ok (.lload_n 3, 1) := by decide +kernel
theorem dX2_reckon_52 : decode cX2_reckon 52 = .ok (.ldiv, 1) := by decide +kernel
theorem dX2_reckon_53 : decode cX2_reckon 53 = .ok (.lreturn, 1) := by decide +kernel
theorem dX3_init_0 : decode cX3_init 0 = .ok (.aload_n 0, 1) := by decide +kernel
theorem dX3_init_1 : decode cX3_init 1 = .ok (.invokespecial 1, 3) := by decide +kernel
