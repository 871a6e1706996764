theorem dX3_faulty_20 : decode cX3_faulty 20 = .ok (.aload_n 0, 1) := by decide +kernel
theorem dX3_faulty_21 : decode cX3_faulty 21 = .ok (.getfield 99, 3) := by decide +kernel
theorem dX3_faulty_24 : decode cX3_faulty 24 = .ok (.isub, 1) := by decide +kernel
theorem dX3_faulty_25 : decode cX3_faulty 25 = .ok (.ireturn, 1) := by decide +kernel
set_option maxRecDepth 20000 in
theorem ggX3_read_X3_isReader : GoodIn wsX3_read wsX3_isReader := goodIn_r _ [8, 9, 10, 11, 7, 12, 119, 120, 121, 122, 123, 124, 125, 126, 127, 128, 129, 130, 131, 132, 133, 134, 135, 136, 137, 138, 139, 140, 141, 142, 143, 144, 145, 146, 147, 148, 149, 150, 151, 152, 153, 154] (by decide +kernel) (by decide +kernel)
set_option maxRecDepth 20000 in
theorem gX3_read_X3_isReader : GoodIn wsX3_read (wsV RX3 92 RX3 yX3_isReader wsX3_isReader) := goodIn_app (goodIn_of _ (by decide +kernel)) ggX3_read_X3_isReader
set_option maxRecDepth 20000 in
theorem ggX3_read_X3_in : GoodIn wsX3_read wsX3_in := goodIn_r _ [12] (by decide +kernel) (by decide +kernel)
set_option maxRecDepth 20000 in
theorem gX3_read_X3_in : GoodIn wsX3_read (va_wsS RX3 85 yX3_in wsX3_in) := goodIn_app (goodIn_of _ (by decide +kernel)) ggX3_read_X3_in
set_option maxRecDepth 20000 in
theorem ggX3_read_X3_ready : GoodIn wsX3_read wsX3_ready := goodIn_r _ [16, 17, 18, 19, 2, 20, 21, 22, 119, 120, 121, 122, 123, 124, 125, 126, 127, 128, 129, 130, 131, 132, 133, 134, 135, 136, 137, 138, 139, 140, 141, 142, 143, 144, 145, 146, 147, 148, 149, 150, 151, 152, 153, 154] (by decide +kernel) (by decide +kernel)
set_option maxRecDepth 20000 in
theorem gX3_read_X3_ready : GoodIn wsX3_read (wsV RX3 183 RX3 yX3_ready wsX3_ready) := goodIn_app (goodIn_of _ (by decide +kernel)) ggX3_read_X3_ready
set_option maxRecDepth 20000 in
theorem ggX3_read_X3_reads : GoodIn wsX3_read wsX3_reads := goodIn_r _ [26, 21, 2, 27, 28, 29, 7, 30, 20, 31, 32, 33, 34, 35, 36, 37, 38, 18, 39, 17, 40, 19, 22, 41, 42, 43, 44, 45, 46, 47, 48, 49, 1, 50, 51, 52, 53, 54, 55, 56, 3, 57, 58, 59, 60, 10, 11, 12, 61, 62, 63, 64, 65, 66, 67, 68, 69, 70, 71, 72, 73, 74, 75, 76, 77, 78, 79, 80, 81, 82, 83, 84, 85, 86, 87, 88, 89, 90, 91, 92, 93, 94, 95, 96, 97, 98, 99, 100, 101, 102, 103, 104, 105, 106, 107, 108, 109, 110, 111, 112, 119, 120, 121, 122, 123, 124, 125, 126, 127, 128, 129, 130, 131, 132, 133, 134, 135, 136, 137, 138, 139, 140, 141, 142, 143, 144, 145, 146, 147, 148, 149, 150, 151, 152, 153, 154] (by decide +kernel) (by decide +kernel)
set_option maxRecDepth 20000 in
theorem gX3_read_X3_reads : GoodIn wsX3_read (wsV RX3 186 RX3 yX3_reads wsX3_reads) := goodIn_app (goodIn_of _ (by decide +kernel)) ggX3_read_X3_reads
set_option maxRecDepth 20000 in
theorem ggX3_read_X3_faulty : GoodIn wsX3_read wsX3_faulty := goodIn_r _ [116, 117, 2, 118, 119, 120, 121, 122, 123, 124, 125, 126, 127, 128, 129, 130, 131, 132, 133, 134, 135, 136, 137, 138, 139, 140, 141, 142, 143, 144, 145, 146, 147, 148, 149, 150, 151, 152, 153, 154] (by decide +kernel) (by decide +kernel)
set_option maxRecDepth 20000 in
theorem gX3_read_X3_faulty : GoodIn wsX3_read (wsV RX3 189 RX3 yX3_faulty wsX3_faulty) := goodIn_app (goodIn_of _ (by decide +kernel)) ggX3_read_X3_faulty
theorem dX3_read_0 : decode cX3_read 0 = .ok (.aload_n 0, 1) := by decide +kernel
theorem dX3_read_1 : decode cX3_read 1 = .ok (.iload_n 1, 1) := by decide +kernel
theorem dX3_read_2 : decode cX3_read 2 = .ok (.invokevirtual 92, 3) := by decide +kernel
theorem dX3_read_5 : decode cX3_read 5 = .ok (.ifCond .eq 15, 3) := by decide +kernel
theorem dX3_read_8 : decode cX3_read 8 = .ok (.iload_n 2, 1) := by decide +kernel
theorem dX3_read_9 : decode cX3_read 9 = .ok (.iconst 0, 1) := by decide +kernel
theorem dX3_read_10 : decode cX3_read 10 = .ok (.aload_n 0, 1) := by decide +kernel
theorem dX3_read_11 : decode cX3_read 11 = .ok (.getfield 89, 3) := by decide +kernel
theorem dX3_read_14 : decode cX3_read 14 = .ok (.invokestatic 85, 3) := by decide +kernel
theorem dX3_read_17 : decode cX3_read 17 = .ok (.ifCond .ne 6, 3) := by decide +kernel
theorem dX3_read_20 : decode cX3_read 20 = .ok (.bipush (-2), 2) := by decide +kernel
theorem dX3_read_22 : decode cX3_read 22 = .ok (.ireturn, 1) := by decide +kernel
theorem dX3_read_23 : decode cX3_read 23 = .ok (.aload_n 0, 1) := by decide +kernel
theorem dX3_read_24 : decode cX3_read 24 = .ok (.invokevirtual 183, 3) := by decide +kernel
theorem dX3_read_27 : decode cX3_read 27 = .ok (.aload_n 0, 1) := by decide +kernel
theorem dX3_read_28 : decode cX3_read 28 = .ok (.iload_n 1, 1) := by decide +kernel
theorem dX3_read_29 : decode cX3_read 29 = .ok (.iload_n 2, 1) := by decide +kernel
theorem dX3_read_30 : decode cX3_read 30 = .ok (.invokevirtual 186, 3) := by decide +kernel
theorem dX3_read_33 : decode cX3_read 33 = .ok (.aload_n 0, 1) := by decide +kernel
theorem dX3_read_34 : decode cX3_read 34 = .ok (.getfield 99, 3) := by decide +kernel
theorem dX3_read_37 : decode cX3_read 37 = .ok (.ifCond .le 10, 3) := by decide +kernel
theorem dX3_read_40 : decode cX3_read 40 = .ok (.aload_n 0, 1) := by decide +kernel
theorem dX3_read_41 : decode cX3_read 41 = .ok (.invokevirtual 189, 3) := by decide +kernel
theorem dX3_read_44 : decode cX3_read 44 = .ok (.goto 7, 3) := by decide +kernel
theorem dX3_read_47 : decode cX3_read 47 = .ok (.aload_n 0, 1) := by decide +kernel
theorem dX3_read_48 : decode cX3_read 48 = .ok (.getfield 128, 3) := by decide +kernel
theorem dX3_read_51 : decode cX3_read 51 = .ok (.ireturn, 1) := by decide +kernel
set_option maxRecDepth 20000 in
theorem ggX3_all_X3_isReader : GoodIn wsX3_all wsX3_isReader := goodIn_r _ [10, 11, 12, 13, 9, 14, 119, 120, 121, 122, 123, 124, 125, 126, 127, 128, 129, 130, 131, 132, 133, 134, 135, 136, 137, 138, 139, 140, 141, 142, 143, 144, 145, 146, 147, 148, 149, 150, 151, 152, 153, 154] (by decide +kernel) (by decide +kernel)
set_option maxRecDepth 20000 in
theorem gX3_all_X3_isReader : GoodIn wsX3_all (wsV RX3 92 RX3 yX3_isReader wsX3_isReader) := goodIn_app (goodIn_of _ (by decide +kernel)) ggX3_all_X3_isReader
set_option maxRecDepth 20000 in
theorem ggX3_all_X3_ready : GoodIn wsX3_all wsX3_ready := goodIn_r _ [18, 2, 1, 3, 4, 19, 20, 21, 119, 120, 121, 122, 123, 124, 125, 126, 127, 128, 129, 130, 131, 132, 133, 134, 135, 136, 137, 138, 139, 140, 141, 142, 143, 144, 145, 146, 147, 148, 149, 150, 151, 152, 153, 154] (by decide +kernel) (by decide +kernel)
set_option maxRecDepth 20000 in
theorem gX3_all_X3_ready : GoodIn wsX3_all (wsV RX3 183 RX3 yX3_ready wsX3_ready) := goodIn_app (goodIn_of _ (by decide +kernel)) ggX3_all_X3_ready
set_option maxRecDepth 20000 in
theorem ggX3_all_X3_reads : GoodIn wsX3_all wsX3_reads := goodIn_r _ [25, 20, 4, 26, 27, 28, 9, 29, 19, 30, 31, 32, 33, 34, 35, 36, 37, 1, 38, 2, 39, 3, 21, 40, 41, 42, 43, 44, 45, 46, 47, 48, 49, 50, 51, 52, 53, 54, 55, 56, 5, 57, 58, 59, 60, 12, 13, 14, 61, 62, 63, 64, 65, 66, 67, 68, 69, 70, 71, 72, 73, 74, 75, 76, 77, 78, 79, 80, 81, 82, 83, 84, 85, 86, 87, 88, 89, 90, 91, 92, 93, 94, 95, 96, 97, 98, 99, 100, 101, 102, 103, 104, 105, 106, 107, 108, 109, 110, 111, 112, 119, 120, 121, 122, 123, 124, 125, 126, 127, 128, 129, 130, 131, 132, 133, 134, 135, 136, 137, 138, 139, 140, 141, 142, 143, 144, 145, 146, 147, 148, 149, 150, 151, 152, 153, 154] (by decide +kernel) (by decide +kernel)
set_option maxRecDepth 20000 in
theorem gX3_all_X3_reads : GoodIn wsX3_all (wsV RX3 186 RX3 yX3_reads wsX3_reads) := goodIn_app (goodIn_of _ (by decide +kernel)) ggX3_all_X3_reads
set_option maxRecDepth 20000 in
theorem ggX3_all_X3_faulty : GoodIn wsX3_all wsX3_faulty := goodIn_r _ [116, 117, 4, 118, 119, 120, 121, 122, 123, 124, 125, 126, 127, 128, 129, 130, 131, 132, 133, 134, 135, 136, 137, 138, 139, 140, 141, 142, 143, 144, 145, 146, 147, 148, 149, 150, 151, 152, 153, 154] (by decide +kernel) (by decide +kernel)
set_option maxRecDepth 20000 in
theorem gX3_all_X3_faulty : GoodIn wsX3_all (wsV RX3 189 RX3 yX3_faulty wsX3_faulty) := goodIn_app (goodIn_of _ (by decide +kernel)) ggX3_all_X3_faulty
theorem dX3_all_0 : decode cX3_all 0 = .ok (.aload_n 0, 1) := by decide +kernel
theorem dX3_all_1 : decode cX3_all 1 = .ok (.iload_n 1, 1) := by decide +kernel
theorem dX3_all_2 : decode cX3_all 2 = .ok (.invokevirtual 92, 3) := by decide +kernel
theorem dX3_all_5 : decode cX3_all 5 = .ok (.ifCond .ne 6, 3) := by decide +kernel
theorem dX3_all_8 : decode cX3_all 8 = .ok (.bipush (-2), 2) := by decide +kernel
theorem dX3_all_10 : decode cX3_all 10 = .ok (.ireturn, 1) := by decide +kernel
theorem dX3_all_11 : decode cX3_all 11 = .ok (.aload_n 0, 1) := by decide +kernel
theorem dX3_all_12 : decode cX3_all 12 = .ok (.invokevirtual 183, 3) := by decide +kernel
theorem dX3_all_15 : decode cX3_all 15 = .ok (.iconst 0, 1) := by decide +kernel
theorem dX3_all_16 : decode cX3_all 16 = .ok (.istore_n 2, 1) := by decide +kernel
theorem dX3_all_17 : decode cX3_all 17 = .ok (.iconst 0, 1) := by decide +kernel
theorem dX3_all_18 : decode cX3_all 18 = .ok (.istore_n 3, 1) := by decide +kernel
theorem dX3_all_19 : decode cX3_all 19 = .ok (.iconst 1, 1) := by decide +kernel
theorem dX3_all_20 : decode cX3_all 20 = .ok (.istore 4, 2) := by decide +kernel
theorem dX3_all_22 : decode cX3_all 22 = .ok (.iload 4, 2) := by decide +kernel
theorem dX3_all_24 : decode cX3_all 24 = .ok (.ifCond .eq 91, 3) := by decide +kernel
theorem dX3_all_27 : decode cX3_all 27 = .ok (.aload_n 0, 1) := by decide +kernel
theorem dX3_all_28 : decode cX3_all 28 = .ok (.getfield 108, 3) := by decide +kernel
theorem dX3_all_31 : decode cX3_all 31 = .ok (.istore 5, 2) := by decide +kernel
theorem dX3_all_33 : decode cX3_all 33 = .ok (.aload_n 0, 1) := by decide +kernel
theorem dX3_all_34 : decode cX3_all 34 = .ok (.getfield 111, 3) := by decide +kernel
theorem dX3_all_37 : decode cX3_all 37 = .ok (.istore 6, 2) := by decide +kernel
theorem dX3_all_39 : decode cX3_all 39 = .ok (.aload_n 0, 1) := by decide +kernel
theorem dX3_all_40 : decode cX3_all 40 = .ok (.getfield 114, 3) := by decide +kernel
theorem dX3_all_43 : decode cX3_all 43 = .ok (.istore 7, 2) := by decide +kernel
theorem dX3_all_45 : decode cX3_all 45 = .ok (.aload_n 0, 1) := by decide +kernel
theorem dX3_all_46 : decode cX3_all 46 = .ok (.iload_n 1, 1) := by decide +kernel
theorem dX3_all_47 : decode cX3_all 47 = .ok (.iload_n 2, 1) := by decide +kernel
theorem dX3_all_48 : decode cX3_all 48 = .ok (.invokevirtual 186, 3) := by decide +kernel
theorem dX3_all_51 : decode cX3_all 51 = .ok (.aload_n 0, 1) := by decide +kernel
theorem dX3_all_52 : decode cX3_all 52 = .ok (.getfield 99, 3) := by decide +kernel
theorem dX3_all_55 : decode cX3_all 55 = .ok (.ifCond .le 8, 3) := by decide +kernel
theorem dX3_all_58 : decode cX3_all 58 = .ok (.aload_n 0, 1) := by decide +kernel
theorem dX3_all_59 : decode cX3_all 59 = .ok (.invokevirtual 189, 3) := by decide +kernel
theorem dX3_all_62 : decode cX3_all 62 = .ok (.ireturn, 1) := by decide +kernel
theorem dX3_all_63 : decode cX3_all 63 = .ok (.aload_n 0, 1) := by decide +kernel
theorem dX3_all_64 : decode cX3_all 64 = .ok (.getfield 128, 3) := by decide +kernel
theorem dX3_all_67 : decode cX3_all 67 = .ok (.iload_n 2, 1) := by decide +kernel
theorem dX3_all_68 : decode cX3_all 68 = .ok (.if_icmp .le 7, 3) := by decide +kernel
theorem dX3_all_71 : decode cX3_all 71 = .ok (.iconst 1, 1) := by decide +kernel
theorem dX3_all_72 : decode cX3_all 72 = .ok (.goto 4, 3) := by decide +kernel
theorem dX3_all_75 : decode cX3_all 75 = .ok (.iconst 0, 1) := by decide +kernel
theorem dX3_all_76 : decode cX3_all 76 = .ok (.istore 4, 2) := by decide +kernel
theorem dX3_all_78 : decode cX3_all 78 = .ok (.iload 4, 2) := by decide +kernel
theorem dX3_all_80 : decode cX3_all 80 = .ok (.ifCond .eq 14, 3) := by decide +kernel
theorem dX3_all_83 : decode cX3_all 83 = .ok (.aload_n 0, 1) := by decide +kernel
theorem dX3_all_84 : decode cX3_all 84 = .ok (.getfield 128, 3) := by decide +kernel
theorem dX3_all_87 : decode cX3_all 87 = .ok (.istore_n 2, 1) := by decide +kernel
theorem dX3_all_88 : decode cX3_all 88 = .ok (.iinc 3 1, 3) := by decide +kernel
theorem dX3_all_91 : decode cX3_all 91 = .ok (.goto 21, 3) := by decide +kernel
theorem dX3_all_94 : decode cX3_all 94 = .ok (.aload_n 0, 1) := by decide +kernel
theorem dX3_all_95 : decode cX3_all 95 = .ok (.iload 5, 2) := by decide +kernel
theorem dX3_all_97 : decode cX3_all 97 = .ok (.putfield 108, 3) := by decide +kernel
theorem dX3_all_100 : decode cX3_all 100 = .ok (.aload_n 0, 1) := by decide +kernel
theorem dX3_all_101 : decode cX3_all 101 = .ok (.iload 6, 2) := by decide +kernel
theorem dX3_all_103 : decode cX3_all 103 = .ok (.putfield 111, 3) := by decide +kernel
theorem dX3_all_106 : decode cX3_all 106 = .ok (.aload_n 0, 1) := by decide +kernel
theorem dX3_all_107 : decode cX3_all 107 = .ok (.iload 7, 2) := by decide +kernel
theorem dX3_all_109 : decode cX3_all 109 = .ok (.putfield 114, 3) := by decide +kernel
theorem dX3_all_112 : decode cX3_all 112 = .ok (.goto (-90), 3) := by decide +kernel
theorem dX3_all_115 : decode cX3_all 115 = .ok (.iload_n 3, 1) := by decide +kernel
theorem dX3_all_116 : decode cX3_all 116 = .ok (.ireturn, 1) := by decide +kernel
set_option maxRecDepth 20000 in
theorem ggX3_pile_X3_height : GoodIn wsX3_pile wsX3_height := goodIn_r _ [8, 1, 9, 13, 14, 15, 16, 17, 18, 19, 20, 21, 22, 23, 24, 25, 26, 27, 28, 29, 30, 31, 32, 33, 34, 35, 36, 37, 38, 39, 40, 41, 42, 43, 44, 45, 46, 47, 48] (by decide +kernel) (by decide +kernel)
set_option maxRecDepth 20000 in
theorem gX3_pile_X3_height : GoodIn wsX3_pile (wsV RX3 170 RX3 yX3_height wsX3_height) := goodIn_app (goodIn_of _ (by decide +kernel)) ggX3_pile_X3_height
set_option maxRecDepth 20000 in
theorem ggX3_pile_X3_in : GoodIn wsX3_pile wsX3_in := goodIn_r _ [12] (by decide +kernel) (by decide +kernel)
set_option maxRecDepth 20000 in
theorem gX3_pile_X3_in : GoodIn wsX3_pile (va_wsS RX3 85 yX3_in wsX3_in) := goodIn_app (goodIn_of _ (by decide +kernel)) ggX3_pile_X3_in
theorem dX3_pile_0 : decode cX3_pile 0 = .ok (.iload_n 1, 1) := by decide +kernel
theorem dX3_pile_1 : decode cX3_pile 1 = .ok (.iconst 0, 1) := by decide +kernel
theorem dX3_pile_2 : decode cX3_pile 2 = .ok (.aload_n 0, 1) := by decide +kernel
theorem dX3_pile_3 : decode cX3_pile 3 = .ok (.invokevirtual 170, 3) := by decide +kernel
theorem dX3_pile_6 : decode cX3_pile 6 = .ok (.iconst 1, 1) := by decide +kernel
theorem dX3_pile_7 : decode cX3_pile 7 = .ok (.isub, 1) := by decide +kernel
theorem dX3_pile_8 : decode cX3_pile 8 = .ok (.invokestatic 85, 3) := by decide +kernel
theorem dX3_pile_11 : decode cX3_pile 11 = .ok (.ifCond .ne 5, 3) := by decide +kernel
theorem dX3_pile_14 : decode cX3_pile 14 = .ok (.lconst 0, 1) := by decide +kernel
theorem dX3_pile_15 : decode cX3_pile 15 = .ok (.lreturn, 1) := by decide +kernel
theorem dX3_pile_16 : decode cX3_pile 16 = .ok (.aload_n 0, 1) := by decide +kernel
theorem dX3_pile_17 : decode cX3_pile 17 = .ok (.getfield 108, 3) := by decide +kernel
theorem dX3_pile_20 : decode cX3_pile 20 = .ok (.istore_n 2, 1) := by decide +kernel
theorem dX3_pile_21 : decode cX3_pile 21 = .ok (.iconst 0, 1) := by decide +kernel
theorem dX3_pile_22 : decode cX3_pile 22 = .ok (.istore_n 3, 1) := by decide +kernel
theorem dX3_pile_23 : decode cX3_pile 23 = .ok (.iload_n 3, 1) := by decide +kernel
theorem dX3_pile_24 : decode cX3_pile 24 = .ok (.iload_n 1, 1) := by decide +kernel
theorem dX3_pile_25 : decode cX3_pile 25 = .ok (.if_icmp .ge 16, 3) := by decide +kernel
theorem dX3_pile_28 : decode cX3_pile 28 = .ok (.aload_n 0, 1) := by decide +kernel
theorem dX3_pile_29 : decode cX3_pile 29 = .ok (.getfield 32, 3) := by decide +kernel
theorem dX3_pile_32 : decode cX3_pile 32 = .ok (.iload_n 2, 1) := by decide +kernel
theorem dX3_pile_33 : decode cX3_pile 33 = .ok (.iaload, 1) := by decide +kernel
theorem dX3_pile_34 : decode cX3_pile 34 = .ok (.istore_n 2, 1) := by decide +kernel
theorem dX3_pile_35 : decode cX3_pile 35 = .ok (.iinc 3 1, 3) := by decide +kernel
theorem dX3_pile_38 : decode cX3_pile 38 = .ok (.goto (-15), 3) := by decide +kernel
theorem dX3_pile_41 : decode cX3_pile 41 = .ok (.aload_n 0, 1) := by decide +kernel
theorem dX3_pile_42 : decode cX3_pile 42 = .ok (.getfield 28, 3) := by decide +kernel
theorem dX3_pile_45 : decode cX3_pile 45 = .ok (.iload_n 2, 1) := by decide +kernel
theorem dX3_pile_46 : decode cX3_pile 46 = .ok (.laload, 1) := by decide +kernel
theorem dX3_pile_47 : decode cX3_pile 47 = .ok (.lreturn, 1) := by decide +kernel
set_option maxRecDepth 20000 in
theorem ggX3_mark_X3_in : GoodIn wsX3_mark wsX3_in := goodIn_r _ [8] (by decide +kernel) (by decide +kernel)
set_option maxRecDepth 20000 in
theorem gX3_mark_X3_in : GoodIn wsX3_mark (va_wsS RX3 85 yX3_in wsX3_in) := goodIn_app (goodIn_of _ (by decide +kernel)) ggX3_mark_X3_in
theorem dX3_mark_0 : decode cX3_mark 0 = .ok (.iload_n 2, 1) := by decide +kernel
theorem dX3_mark_1 : decode cX3_mark 1 = .ok (.iconst 0, 1) := by decide +kernel
theorem dX3_mark_2 : decode cX3_mark 2 = .ok (.iconst 2, 1) := by decide +kernel
theorem dX3_mark_3 : decode cX3_mark 3 = .ok (.invokestatic 85, 3) := by decide +kernel
theorem dX3_mark_6 : decode cX3_mark 6 = .ok (.ifCond .ne 6, 3) := by decide +kernel
theorem dX3_mark_9 : decode cX3_mark 9 = .ok (.bipush (-2), 2) := by decide +kernel
theorem dX3_mark_11 : decode cX3_mark 11 = .ok (.ireturn, 1) := by decide +kernel
theorem dX3_mark_12 : decode cX3_mark 12 = .ok (.iload_n 1, 1) := by decide +kernel
theorem dX3_mark_13 : decode cX3_mark 13 = .ok (.iconst 0, 1) := by decide +kernel
theorem dX3_mark_14 : decode cX3_mark 14 = .ok (.aload_n 0, 1) := by decide +kernel
theorem dX3_mark_15 : decode cX3_mark 15 = .ok (.getfield 114, 3) := by decide +kernel
theorem dX3_mark_18 : decode cX3_mark 18 = .ok (.iconst 1, 1) := by decide +kernel
theorem dX3_mark_19 : decode cX3_mark 19 = .ok (.isub, 1) := by decide +kernel
theorem dX3_mark_20 : decode cX3_mark 20 = .ok (.invokestatic 85, 3) := by decide +kernel
theorem dX3_mark_23 : decode cX3_mark 23 = .ok (.ifCond .ne 5, 3) := by decide +kernel
theorem dX3_mark_26 : decode cX3_mark 26 = .ok (.iconst (-1), 1) := by decide +kernel
theorem dX3_mark_27 : decode cX3_mark 27 = .ok (.ireturn, 1) := by decide +kernel
theorem dX3_mark_28 : decode cX3_mark 28 = .ok (.iload_n 2, 1) := by decide +kernel
theorem dX3_mark_29 : decode cX3_mark 29 = .ok (.ifCond .ne 12, 3) := by decide +kernel
theorem dX3_mark_32 : decode cX3_mark 32 = .ok (.aload_n 0, 1) := by decide +kernel
theorem dX3_mark_33 : decode cX3_mark 33 = .ok (.getfield 38, 3) := by decide +kernel
theorem dX3_mark_36 : decode cX3_mark 36 = .ok (.iload_n 1, 1) := by decide +kernel
theorem dX3_mark_37 : decode cX3_mark 37 = .ok (.iaload, 1) := by decide +kernel
theorem dX3_mark_38 : decode cX3_mark 38 = .ok (.goto 23, 3) := by decide +kernel
theorem dX3_mark_41 : decode cX3_mark 41 = .ok (.iload_n 2, 1) := by decide +kernel
theorem dX3_mark_42 : decode cX3_mark 42 = .ok (.iconst 1, 1) := by decide +kernel
theorem dX3_mark_43 : decode cX3_mark 43 = .ok (.if_icmp .ne 12, 3) := by decide +kernel
theorem dX3_mark_46 : decode cX3_mark 46 = .ok (.aload_n 0, 1) := by decide +kernel
theorem dX3_mark_47 : decode cX3_mark 47 = .ok (.getfield 41, 3) := by decide +kernel
theorem dX3_mark_50 : decode cX3_mark 50 = .ok (.iload_n 1, 1) := by decide +kernel
theorem dX3_mark_51 : decode cX3_mark 51 = .ok (.iaload, 1) := by decide +kernel
theorem dX3_mark_52 : decode cX3_mark 52 = .ok (.goto 9, 3) := by decide +kernel
theorem dX3_mark_55 : decode cX3_mark 55 = .ok (.aload_n 0, 1) := by decide +kernel
theorem dX3_mark_56 : decode cX3_mark 56 = .ok (.getfield 44, 3) := by decide +kernel
theorem dX3_mark_59 : decode cX3_mark 59 = .ok (.iload_n 1, 1) := by decide +kernel
theorem dX3_mark_60 : decode cX3_mark 60 = .ok (.iaload, 1) := by decide +kernel
theorem dX3_mark_61 : decode cX3_mark 61 = .ok (.ireturn, 1) := by decide +kernel
set_option maxRecDepth 20000 in
theorem ggX3_count_X3_height : GoodIn wsX3_count wsX3_height := goodIn_r _ [13, 14, 15, 16, 17, 18, 19, 20, 21, 22, 23, 24, 25, 26, 27, 28, 29, 30, 31, 32, 33, 34, 35, 36, 37, 38, 39, 40, 41, 42, 43, 44, 45, 46, 47, 48, 49, 50, 51] (by decide +kernel) (by decide +kernel)
set_option maxRecDepth 20000 in
theorem gX3_count_X3_height : GoodIn wsX3_count (wsV RX3 170 RX3 yX3_height wsX3_height) := goodIn_app (goodIn_of _ (by decide +kernel)) ggX3_count_X3_height
theorem dX3_count_0 : decode cX3_count 0 = .ok (.iload_n 1, 1) := by decide +kernel
theorem dX3_count_1 : decode cX3_count 1 = .ok (.tableswitch 96 0 8 #[51, 56, 61, 66, 71, 76, 81, 86, 91], 51) := by decide +kernel
theorem dX3_count_52 : decode cX3_count 52 = .ok (.aload_n 0, 1) := by decide +kernel
theorem dX3_count_53 : decode cX3_count 53 = .ok (.getfield 89, 3) := by decide +kernel
theorem dX3_count_56 : decode cX3_count 56 = .ok (.ireturn, 1) := by decide +kernel
theorem dX3_count_57 : decode cX3_count 57 = .ok (.aload_n 0, 1) := by decide +kernel
theorem dX3_count_58 : decode cX3_count 58 = .ok (.getfield 81, 3) := by decide +kernel
theorem dX3_count_61 : decode cX3_count 61 = .ok (.ireturn, 1) := by decide +kernel
theorem dX3_count_62 : decode cX3_count 62 = .ok (.aload_n 0, 1) := by decide +kernel
theorem dX3_count_63 : decode cX3_count 63 = .ok (.invokevirtual 170, 3) := by decide +kernel
theorem dX3_count_66 : decode cX3_count 66 = .ok (.ireturn, 1) := by decide +kernel
theorem dX3_count_67 : decode cX3_count 67 = .ok (.aload_n 0, 1) := by decide +kernel
theorem dX3_count_68 : decode cX3_count 68 = .ok (.getfield 114, 3) := by decide +kernel
theorem dX3_count_71 : decode cX3_count 71 = .ok (.ireturn, 1) := by decide +kernel
theorem dX3_count_72 : decode cX3_count 72 = .ok (.aload_n 0, 1) := by decide +kernel
theorem dX3_count_73 : decode cX3_count 73 = .ok (.getfield 102, 3) := by decide +kernel
theorem dX3_count_76 : decode cX3_count 76 = .ok (.ireturn, 1) := by decide +kernel
theorem dX3_count_77 : decode cX3_count 77 = .ok (.aload_n 0, 1) := by decide +kernel
theorem dX3_count_78 : decode cX3_count 78 = .ok (.getfield 117, 3) := by decide +kernel
theorem dX3_count_81 : decode cX3_count 81 = .ok (.ireturn, 1) := by decide +kernel
theorem dX3_count_82 : decode cX3_count 82 = .ok (.aload_n 0, 1) := by decide +kernel
theorem dX3_count_83 : decode cX3_count 83 = .ok (.getfield 105, 3) := by decide +kernel
theorem dX3_count_86 : decode cX3_count 86 = .ok (.ireturn, 1) := by decide +kernel
theorem dX3_count_87 : decode cX3_count 87 = .ok (.aload_n 0, 1) := by decide +kernel
theorem dX3_count_88 : decode cX3_count 88 = .ok (.getfield 177, 3) := by decide +kernel
theorem dX3_count_91 : decode cX3_count 91 = .ok (.ireturn, 1) := by decide +kernel
theorem dX3_count_92 : decode cX3_count 92 = .ok (.aload_n 0, 1) := by decide +kernel
theorem dX3_count_93 : decode cX3_count 93 = .ok (.getfield 180, 3) := by decide +kernel
theorem dX3_count_96 : decode cX3_count 96 = .ok (.ireturn, 1) := by decide +kernel
theorem dX3_count_97 : decode cX3_count 97 = .ok (.bipush (-2), 2) := by decide +kernel
theorem dX3_count_99 : decode cX3_count 99 = .ok (.ireturn, 1) := by decide +kernel
set_option maxRecDepth 20000 in
theorem ggX3_began_X3_isReader : GoodIn wsX3_began wsX3_isReader := goodIn_r _ [6, 7, 8, 9, 5, 10, 11, 12, 13, 14, 15, 16, 17, 18, 19, 20, 21, 22, 23, 24, 25, 26, 27, 28, 29, 30, 31, 32, 33, 34, 35, 36, 37, 38, 39, 40, 41, 42, 43, 44, 45, 46] (by decide +kernel) (by decide +kernel)
set_option maxRecDepth 20000 in
theorem gX3_began_X3_isReader : GoodIn wsX3_began (wsV RX3 92 RX3 yX3_isReader wsX3_isReader) := goodIn_app (goodIn_of _ (by decide +kernel)) ggX3_began_X3_isReader
theorem dX3_began_0 : decode cX3_began 0 = .ok (.aload_n 0, 1) := by decide +kernel
theorem dX3_began_1 : decode cX3_began 1 = .ok (.iload_n 1, 1) := by decide +kernel
theorem dX3_began_2 : decode cX3_began 2 = .ok (.invokevirtual 92, 3) := by decide +kernel
theorem dX3_began_5 : decode cX3_began 5 = .ok (.ifCond .eq 12, 3) := by decide +kernel
theorem dX3_began_8 : decode cX3_began 8 = .ok (.aload_n 0, 1) := by decide +kernel
theorem dX3_began_9 : decode cX3_began 9 = .ok (.getfield 22, 3) := by decide +kernel
theorem dX3_began_12 : decode cX3_began 12 = .ok (.iload_n 1, 1) := by decide +kernel
theorem dX3_began_13 : decode cX3_began 13 = .ok (.iaload, 1) := by decide +kernel
theorem dX3_began_14 : decode cX3_began 14 = .ok (.goto 5, 3) := by decide +kernel
theorem dX3_began_17 : decode cX3_began 17 = .ok (.bipush (-2), 2) := by decide +kernel
theorem dX3_began_19 : decode cX3_began 19 = .ok (.ireturn, 1) := by decide +kernel
theorem dJ9_max_7cf53_0 : decode cJ9_max_7cf53 0 = .ok (.iload_n 0, 1) := by decide +kernel
theorem dJ9_max_7cf53_1 : decode cJ9_max_7cf53 1 = .ok (.iload_n 1, 1) := by decide +kernel
theorem dJ9_max_7cf53_2 : decode cJ9_max_7cf53 2 = .ok (.if_icmp .lt 7, 3) := by decide +kernel
theorem dJ9_max_7cf53_5 : decode cJ9_max_7cf53 5 = .ok (.iload_n 0, 1) := by decide +kernel
theorem dJ9_max_7cf53_6 : decode cJ9_max_7cf53 6 = .ok (.goto 4, 3) := by decide +kernel
theorem dJ9_max_7cf53_9 : decode cJ9_max_7cf53 9 = .ok (.iload_n 1, 1) := by decide +kernel
theorem dJ9_max_7cf53_10 : decode cJ9_max_7cf53 10 = .ok (.ireturn, 1) := by decide +kernel
theorem dJ7_fill_53178_0 : decode cJ7_fill_53178 0 = .ok (.iconst 0, 1) := by decide +kernel
theorem dJ7_fill_53178_1 : decode cJ7_fill_53178 1 = .ok (.istore_n 2, 1) := by decide +kernel
theorem dJ7_fill_53178_2 : decode cJ7_fill_53178 2 = .ok (.aload_n 0, 1) := by decide +kernel
theorem dJ7_fill_53178_3 : decode cJ7_fill_53178 3 = .ok (.arraylength, 1) := by decide +kernel
theorem dJ7_fill_53178_4 : decode cJ7_fill_53178 4 = .ok (.istore_n 3, 1) := by decide +kernel
theorem dJ7_fill_53178_5 : decode cJ7_fill_53178 5 = .ok (.iload_n 2, 1) := by decide +kernel
theorem dJ7_fill_53178_6 : decode cJ7_fill_53178 6 = .ok (.iload_n 3, 1) := by decide +kernel
theorem dJ7_fill_53178_7 : decode cJ7_fill_53178 7 = .ok (.if_icmp .ge 13, 3) := by decide +kernel
theorem dJ7_fill_53178_10 : decode cJ7_fill_53178 10 = .ok (.aload_n 0, 1) := by decide +kernel
theorem dJ7_fill_53178_11 : decode cJ7_fill_53178 11 = .ok (.iload_n 2, 1) := by decide +kernel
theorem dJ7_fill_53178_12 : decode cJ7_fill_53178 12 = .ok (.iload_n 1, 1) := by decide +kernel
theorem dJ7_fill_53178_13 : decode cJ7_fill_53178 13 = .ok (.iastore, 1) := by decide +kernel
theorem dJ7_fill_53178_14 : decode cJ7_fill_53178 14 = .ok (.iinc 2 1, 3) := by decide +kernel
theorem dJ7_fill_53178_17 : decode cJ7_fill_53178 17 = .ok (.goto (-12), 3) := by decide +kernel
theorem dJ7_fill_53178_20 : decode cJ7_fill_53178 20 = .ok (.return_, 1) := by decide +kernel
set_option maxRecDepth 20000 in
theorem ggL_law_X2_init : GoodIn wsL_law wsX2_init := goodIn_r _ [9, 10, 11, 12, 13, 14, 15, 16, 17, 18, 19, 20, 21, 22, 23, 24, 25, 26, 27, 28, 29, 30, 31, 32, 33, 34, 35, 36, 37, 38, 39, 40, 41, 42, 43, 44, 45, 46, 47, 48, 49, 50, 2, 51, 52, 364, 365, 366, 367, 368, 369, 370, 371, 372, 373, 374, 375, 376, 377, 378, 379, 416, 417, 418, 419, 420, 421, 422, 423, 424] (by decide +kernel) (by decide +kernel)
set_option maxRecDepth 20000 in
theorem gL_law_X2_init : GoodIn wsL_law (wsX2_init) := ggL_law_X2_init
set_option maxRecDepth 20000 in
theorem ggL_law_X3_init : GoodIn wsL_law wsX3_init := goodIn_r _ [55, 56, 11, 12, 15, 57, 58, 59, 60, 61, 62, 34, 63, 64, 65, 66, 67, 68, 69, 70, 71, 72, 21, 73, 74, 75, 76, 77, 78, 79, 80, 380, 381, 382, 383, 384, 385, 386, 387, 388, 389, 390, 391, 392, 393, 394, 395, 396, 397, 398, 399, 400, 401, 402, 403, 404, 405, 406, 407, 408, 409, 410, 411, 412, 413, 414, 415] (by decide +kernel) (by decide +kernel)
set_option maxRecDepth 20000 in
theorem gL_law_X3_init : GoodIn wsL_law (wsX3_init) := ggL_law_X3_init
set_option maxRecDepth 20000 in
theorem ggL_law_X2_text : GoodIn wsL_law wsX2_text := goodIn_r _ [84, 85, 14, 86, 364, 365, 366, 367, 368, 369, 370, 371, 372, 373, 374, 375, 376, 377, 378, 379] (by decide +kernel) (by decide +kernel)
set_option maxRecDepth 20000 in
theorem gL_law_X2_text : GoodIn wsL_law (wsV RL 15 RX2 yX2_text wsX2_text) := goodIn_app (goodIn_of _ (by decide +kernel)) ggL_law_X2_text
set_option maxRecDepth 20000 in
theorem ggL_law_X3_text : GoodIn wsL_law wsX3_text := goodIn_r _ [90, 91, 57, 92, 93, 5, 94, 380, 381, 382, 383, 384, 385, 386, 387, 388, 389, 390, 391, 392, 393, 394, 395, 396, 397, 398, 399, 400, 401, 402, 403, 404, 405, 406, 407, 408, 409, 410, 411, 412, 413, 414, 415] (by decide +kernel) (by decide +kernel)
set_option maxRecDepth 20000 in
theorem gL_law_X3_text : GoodIn wsL_law (wsV RL 19 RX3 yX3_text wsX3_text) := goodIn_app (goodIn_of _ (by decide +kernel)) ggL_law_X3_text
set_option maxRecDepth 20000 in
theorem ggL_law_X2_clear : GoodIn wsL_law wsX2_clear := goodIn_r _ [98, 85, 364, 365, 366, 367, 368, 369, 370, 371, 372, 373, 374, 375, 376, 377, 378, 379] (by decide +kernel) (by decide +kernel)
set_option maxRecDepth 20000 in
theorem gL_law_X2_clear : GoodIn wsL_law (wsV RL 20 RX2 yX2_clear wsX2_clear) := goodIn_app (goodIn_of _ (by decide +kernel)) ggL_law_X2_clear
set_option maxRecDepth 20000 in
theorem ggL_law_X3_clear : GoodIn wsL_law wsX3_clear := goodIn_r _ [102, 91, 380, 381, 382, 383, 384, 385, 386, 387, 388, 389, 390, 391, 392, 393, 394, 395, 396, 397, 398, 399, 400, 401, 402, 403, 404, 405, 406, 407, 408, 409, 410, 411, 412, 413, 414, 415] (by decide +kernel) (by decide +kernel)
set_option maxRecDepth 20000 in
theorem gL_law_X3_clear : GoodIn wsL_law (wsV RL 24 RX3 yX3_clear wsX3_clear) := goodIn_app (goodIn_of _ (by decide +kernel)) ggL_law_X3_clear
set_option maxRecDepth 20000 in
theorem ggL_law_X2_reader : GoodIn wsL_law wsX2_reader := goodIn_r _ [106, 52, 107, 108, 109, 2, 110, 111, 112, 113, 114, 115, 116, 117, 118, 119, 120, 121, 48, 49, 50, 51, 16, 17, 18, 364, 365, 366, 367, 368, 369, 370, 371, 372, 373, 374, 375, 376, 377, 378, 379] (by decide +kernel) (by decide +kernel)
set_option maxRecDepth 20000 in
theorem gL_law_X2_reader : GoodIn wsL_law (wsV RL 25 RX2 yX2_reader wsX2_reader) := goodIn_app (goodIn_of _ (by decide +kernel)) ggL_law_X2_reader
set_option maxRecDepth 20000 in
theorem ggL_law_X3_reader : GoodIn wsL_law wsX3_reader := goodIn_r _ [125, 80, 58, 59, 60, 92, 93, 5, 94, 126, 127, 128, 129, 380, 381, 382, 383, 384, 385, 386, 387, 388, 389, 390, 391, 392, 393, 394, 395, 396, 397, 398, 399, 400, 401, 402, 403, 404, 405, 406, 407, 408, 409, 410, 411, 412, 413, 414, 415] (by decide +kernel) (by decide +kernel)
set_option maxRecDepth 20000 in
theorem gL_law_X3_reader : GoodIn wsL_law (wsV RL 29 RX3 yX3_reader wsX3_reader) := goodIn_app (goodIn_of _ (by decide +kernel)) ggL_law_X3_reader
set_option maxRecDepth 20000 in
theorem ggL_law_X2_name : GoodIn wsL_law wsX2_name := goodIn_r _ [133, 20, 115, 116, 2, 117, 111, 112, 113, 114, 52, 364, 365, 366, 367, 368, 369, 370, 371, 372, 373, 374, 375, 376, 377, 378, 379] (by decide +kernel) (by decide +kernel)
set_option maxRecDepth 20000 in
theorem gL_law_X2_name : GoodIn wsL_law (wsV RL 30 RX2 yX2_name wsX2_name) := goodIn_app (goodIn_of _ (by decide +kernel)) ggL_law_X2_name
set_option maxRecDepth 20000 in
theorem ggL_law_X3_name : GoodIn wsL_law wsX3_name := goodIn_r _ [137, 62, 92, 93, 5, 94, 126, 127, 128, 129, 80, 380, 381, 382, 383, 384, 385, 386, 387, 388, 389, 390, 391, 392, 393, 394, 395, 396, 397, 398, 399, 400, 401, 402, 403, 404, 405, 406, 407, 408, 409, 410, 411, 412, 413, 414, 415] (by decide +kernel) (by decide +kernel)
set_option maxRecDepth 20000 in
theorem gL_law_X3_name : GoodIn wsL_law (wsV RL 34 RX3 yX3_name wsX3_name) := goodIn_app (goodIn_of _ (by decide +kernel)) ggL_law_X3_name
set_option maxRecDepth 20000 in
theorem ggL_law_X2_read : GoodIn wsL_law wsX2_read := goodIn_r _ [141, 85, 111, 112, 113, 2, 114, 52, 142, 143, 144, 145, 26, 30, 146, 147, 148, 149, 150, 151, 25, 152, 153, 154, 155, 156, 157, 158, 159, 17, 16, 18, 22, 20, 160, 161, 162, 163, 164, 19, 165, 166, 167, 168, 169, 170, 171, 172, 173, 174, 175, 176, 177, 178, 179, 180, 181, 182, 183, 184, 185, 29, 186, 187, 41, 42, 43, 188, 189, 190, 191, 192, 193, 194, 195, 14, 196, 197, 198, 199, 35, 36, 37, 200, 201, 202, 203, 204, 205, 206, 207, 208, 209, 210, 211, 212, 213, 214, 215, 216, 217, 218, 219, 220, 221, 222, 223, 224, 225, 226, 227, 228, 229, 230, 231, 364, 365, 366, 367, 368, 369, 370, 371, 372, 373, 374, 375, 376, 377, 378, 379, 421, 422, 423, 424, 416, 417, 418, 419, 420] (by decide +kernel) (by decide +kernel)
set_option maxRecDepth 20000 in
theorem gL_law_X2_read : GoodIn wsL_law (wsV RL 35 RX2 yX2_read wsX2_read) := goodIn_app (goodIn_of _ (by decide +kernel)) ggL_law_X2_read
set_option maxRecDepth 20000 in
theorem ggL_law_X3_read : GoodIn wsL_law wsX3_read := goodIn_r _ [235, 91, 236, 237, 126, 127, 128, 5, 129, 80, 92, 93, 94, 238, 239, 240, 241, 242, 243, 244, 245, 246, 247, 248, 249, 250, 251, 252, 253, 254, 255, 256, 61, 69, 70, 71, 72, 73, 74, 75, 76, 257, 258, 259, 260, 58, 261, 262, 263, 264, 57, 59, 60, 265, 266, 267, 268, 269, 270, 271, 272, 273, 274, 275, 276, 277, 278, 279, 280, 77, 78, 79, 281, 282, 283, 284, 285, 286, 287, 288, 289, 290, 291, 292, 62, 66, 67, 68, 293, 294, 295, 296, 297, 298, 299, 300, 63, 64, 65, 301, 302, 303, 304, 305, 306, 307, 308, 309, 310, 311, 312, 313, 314, 315, 316, 317, 318, 319, 320, 380, 381, 382, 383, 384, 385, 386, 387, 388, 389, 390, 391, 392, 393, 394, 395, 396, 397, 398, 399, 400, 401, 402, 403, 404, 405, 406, 407, 408, 409, 410, 411, 412, 413, 414, 415] (by decide +kernel) (by decide +kernel)
set_option maxRecDepth 20000 in
theorem gL_law_X3_read : GoodIn wsL_law (wsV RL 38 RX3 yX3_read wsX3_read) := goodIn_app (goodIn_of _ (by decide +kernel)) ggL_law_X3_read
set_option maxRecDepth 20000 in
theorem ggL_law_X2_all : GoodIn wsL_law wsX2_all := goodIn_r _ [324, 26, 159, 30, 146, 111, 112, 113, 2, 114, 52, 142, 143, 144, 145, 147, 148, 149, 150, 151, 25, 152, 153, 154, 155, 156, 157, 158, 17, 16, 18, 22, 20, 160, 161, 162, 163, 164, 19, 165, 166, 167, 168, 169, 170, 171, 172, 173, 174, 175, 176, 177, 178, 179, 180, 181, 182, 183, 184, 185, 29, 186, 187, 41, 42, 43, 188, 189, 190, 191, 85, 192, 193, 194, 195, 14, 196, 197, 198, 199, 35, 36, 37, 200, 201, 202, 203, 204, 205, 206, 207, 208, 209, 210, 211, 212, 213, 214, 215, 216, 217, 218, 219, 220, 221, 222, 223, 224, 225, 226, 227, 228, 229, 230, 231, 364, 365, 366, 367, 368, 369, 370, 371, 372, 373, 374, 375, 376, 377, 378, 379, 416, 417, 418, 419, 420, 421, 422, 423, 424] (by decide +kernel) (by decide +kernel)
set_option maxRecDepth 20000 in
theorem gL_law_X2_all : GoodIn wsL_law (wsV RL 39 RX2 yX2_all wsX2_all) := goodIn_app (goodIn_of _ (by decide +kernel)) ggL_law_X2_all
set_option maxRecDepth 20000 in
theorem ggL_law_X3_all : GoodIn wsL_law wsX3_all := goodIn_r _ [328, 243, 242, 244, 236, 237, 126, 127, 128, 5, 129, 80, 92, 93, 94, 238, 239, 240, 241, 245, 246, 247, 248, 249, 250, 251, 252, 253, 254, 255, 256, 61, 69, 70, 71, 72, 73, 74, 75, 76, 257, 258, 259, 260, 58, 261, 262, 263, 264, 91, 57, 59, 60, 265, 266, 267, 268, 269, 270, 271, 272, 273, 274, 275, 276, 277, 278, 279, 280, 77, 78, 79, 281, 282, 283, 284, 285, 286, 287, 288, 289, 290, 291, 292, 62, 66, 67, 68, 293, 294, 295, 296, 297, 298, 299, 300, 63, 64, 65, 301, 302, 303, 304, 305, 306, 307, 308, 309, 310, 311, 312, 313, 314, 315, 316, 317, 318, 319, 320, 380, 381, 382, 383, 384, 385, 386, 387, 388, 389, 390, 391, 392, 393, 394, 395, 396, 397, 398, 399, 400, 401, 402, 403, 404, 405, 406, 407, 408, 409, 410, 411, 412, 413, 414, 415] (by decide +kernel) (by decide +kernel)
set_option maxRecDepth 20000 in
theorem gL_law_X3_all : GoodIn wsL_law (wsV RL 43 RX3 yX3_all wsX3_all) := goodIn_app (goodIn_of _ (by decide +kernel)) ggL_law_X3_all
set_option maxRecDepth 20000 in
theorem ggL_law_X2_pile : GoodIn wsL_law wsX2_pile := goodIn_r _ [332, 26, 214, 215, 216, 25, 217, 35, 218, 211, 212, 213, 37, 154, 200, 201, 202, 203, 36, 364, 365, 366, 367, 368, 369, 370, 371, 372, 373, 374, 375, 376, 377, 378, 379, 416, 417, 418, 419, 420] (by decide +kernel) (by decide +kernel)
set_option maxRecDepth 20000 in
theorem gL_law_X2_pile : GoodIn wsL_law (wsV RL 44 RX2 yX2_pile wsX2_pile) := goodIn_app (goodIn_of _ (by decide +kernel)) ggL_law_X2_pile
set_option maxRecDepth 20000 in
theorem ggL_law_X3_pile : GoodIn wsL_law wsX3_pile := goodIn_r _ [336, 243, 64, 63, 311, 312, 313, 5, 314, 65, 92, 93, 94, 380, 381, 382, 383, 384, 385, 386, 387, 388, 389, 390, 391, 392, 393, 394, 395, 396, 397, 398, 399, 400, 401, 402, 403, 404, 405, 406, 407, 408, 409, 410, 411, 412, 413, 414, 415] (by decide +kernel) (by decide +kernel)
set_option maxRecDepth 20000 in
theorem gL_law_X3_pile : GoodIn wsL_law (wsV RL 48 RX3 yX3_pile wsX3_pile) := goodIn_app (goodIn_of _ (by decide +kernel)) ggL_law_X3_pile
set_option maxRecDepth 20000 in
theorem ggL_law_X2_mark : GoodIn wsL_law wsX2_mark := goodIn_r _ [340, 30, 146, 341, 342, 343, 364, 365, 366, 367, 368, 369, 370, 371, 372, 373, 374, 375, 376, 377, 378, 379, 421, 422, 423, 424] (by decide +kernel) (by decide +kernel)
set_option maxRecDepth 20000 in
theorem gL_law_X2_mark : GoodIn wsL_law (wsV RL 49 RX2 yX2_mark wsX2_mark) := goodIn_app (goodIn_of _ (by decide +kernel)) ggL_law_X2_mark
set_option maxRecDepth 20000 in
theorem ggL_law_X3_mark : GoodIn wsL_law wsX3_mark := goodIn_r _ [347, 244, 66, 67, 68, 92, 93, 5, 94, 380, 381, 382, 383, 384, 385, 386, 387, 388, 389, 390, 391, 392, 393, 394, 395, 396, 397, 398, 399, 400, 401, 402, 403, 404, 405, 406, 407, 408, 409, 410, 411, 412, 413, 414, 415] (by decide +kernel) (by decide +kernel)
set_option maxRecDepth 20000 in
theorem gL_law_X3_mark : GoodIn wsL_law (wsV RL 52 RX3 yX3_mark wsX3_mark) := goodIn_app (goodIn_of _ (by decide +kernel)) ggL_law_X3_mark
set_option maxRecDepth 20000 in
theorem ggL_law_X2_count : GoodIn wsL_law wsX2_count := goodIn_r _ [351, 85, 52, 26, 30, 146, 147, 148, 164, 230, 231, 210, 211, 212, 25, 213, 37, 154, 364, 365, 366, 367, 368, 369, 370, 371, 372, 373, 374, 375, 376, 377, 378, 379, 421, 422, 423, 424, 416, 417, 418, 419, 420] (by decide +kernel) (by decide +kernel)
set_option maxRecDepth 20000 in
theorem gL_law_X2_count : GoodIn wsL_law (wsV RL 53 RX2 yX2_count wsX2_count) := goodIn_app (goodIn_of _ (by decide +kernel)) ggL_law_X2_count
set_option maxRecDepth 20000 in
theorem ggL_law_X3_count : GoodIn wsL_law wsX3_count := goodIn_r _ [355, 91, 80, 244, 245, 247, 256, 319, 320, 311, 312, 313, 5, 314, 243, 65, 380, 381, 382, 383, 384, 385, 386, 387, 388, 389, 390, 391, 392, 393, 394, 395, 396, 397, 398, 399, 400, 401, 402, 403, 404, 405, 406, 407, 408, 409, 410, 411, 412, 413, 414, 415] (by decide +kernel) (by decide +kernel)
set_option maxRecDepth 20000 in
theorem gL_law_X3_count : GoodIn wsL_law (wsV RL 56 RX3 yX3_count wsX3_count) := goodIn_app (goodIn_of _ (by decide +kernel)) ggL_law_X3_count
set_option maxRecDepth 20000 in
theorem ggL_law_X2_began : GoodIn wsL_law wsX2_began := goodIn_r _ [359, 19, 111, 112, 113, 2, 114, 52, 364, 365, 366, 367, 368, 369, 370, 371, 372, 373, 374, 375, 376, 377, 378, 379] (by decide +kernel) (by decide +kernel)
set_option maxRecDepth 20000 in
theorem gL_law_X2_began : GoodIn wsL_law (wsV RL 57 RX2 yX2_began wsX2_began) := goodIn_app (goodIn_of _ (by decide +kernel)) ggL_law_X2_began
set_option maxRecDepth 20000 in
theorem ggL_law_X3_began : GoodIn wsL_law wsX3_began := goodIn_r _ [363, 61, 126, 127, 128, 5, 129, 80, 92, 93, 94, 380, 381, 382, 383, 384, 385, 386, 387, 388, 389, 390, 391, 392, 393, 394, 395, 396, 397, 398, 399, 400, 401, 402, 403, 404, 405, 406, 407, 408, 409, 410, 411, 412, 413, 414, 415] (by decide +kernel) (by decide +kernel)
set_option maxRecDepth 20000 in
theorem gL_law_X3_began : GoodIn wsL_law (wsV RL 60 RX3 yX3_began wsX3_began) := goodIn_app (goodIn_of _ (by decide +kernel)) ggL_law_X3_began
theorem dL_law_0 : decode cL_law 0 = .ok (.new 7, 3) := by decide +kernel
theorem dL_law_3 : decode cL_law 3 = .ok (.dup, 1) := by decide +kernel
theorem dL_law_4 : decode cL_law 4 = .ok (.invokespecial 9, 3) := by decide +kernel
theorem dL_law_7 : decode cL_law 7 = .ok (.astore_n 1, 1) := by decide +kernel
theorem dL_law_8 : decode cL_law 8 = .ok (.new 10, 3) := by decide +kernel
theorem dL_law_11 : decode cL_law 11 = .ok (.dup, 1) := by decide +kernel
theorem dL_law_12 : decode cL_law 12 = .ok (.invokespecial 12, 3) := by decide +kernel
theorem dL_law_15 : decode cL_law 15 = .ok (.astore_n 2, 1) := by decide +kernel
theorem dL_law_16 : decode cL_law 16 = .ok (.iconst 0, 1) := by decide +kernel
theorem dL_law_17 : decode cL_law 17 = .ok (.istore_n 3, 1) := by decide +kernel
theorem dL_law_18 : decode cL_law 18 = .ok (.iload_n 3, 1) := by decide +kernel
theorem dL_law_19 : decode cL_law 19 = .ok (.aload_n 0, 1) := by decide +kernel
theorem dL_law_20 : decode cL_law 20 = .ok (.arraylength, 1) := by decide +kernel
theorem dL_law_21 : decode cL_law 21 = .ok (.iconst 4, 1) := by decide +kernel
theorem dL_law_22 : decode cL_law 22 = .ok (.isub, 1) := by decide +kernel
theorem dL_law_23 : decode cL_law 23 = .ok (.if_icmp .gt 382, 3) := by decide +kernel
theorem dL_law_26 : decode cL_law 26 = .ok (.aload_n 0, 1) := by decide +kernel
theorem dL_law_27 : decode cL_law 27 = .ok (.iload_n 3, 1) := by decide +kernel
theorem dL_law_28 : decode cL_law 28 = .ok (.iaload, 1) := by decide +kernel
theorem dL_law_29 : decode cL_law 29 = .ok (.bipush 15, 2) := by decide +kernel
theorem dL_law_31 : decode cL_law 31 = .ok (.iand, 1) := by decide +kernel
theorem dL_law_32 : decode cL_law 32 = .ok (.tableswitch 367 0 9 #[56, 119, 132, 175, 208, 241, 264, 288, 321, 344], 56) := by decide +kernel
theorem dL_law_88 : decode cL_law 88 = .ok (.aload_n 1, 1) := by decide +kernel
theorem dL_law_89 : decode cL_law 89 = .ok (.aload_n 0, 1) := by decide +kernel
theorem dL_law_90 : decode cL_law 90 = .ok (.iload_n 3, 1) := by decide +kernel
theorem dL_law_91 : decode cL_law 91 = .ok (.iconst 1, 1) := by decide +kernel
theorem dL_law_92 : decode cL_law 92 = .ok (.iadd, 1) := by decide +kernel
theorem dL_law_93 : decode cL_law 93 = .ok (.iaload, 1) := by decide +kernel
theorem dL_law_94 : decode cL_law 94 = .ok (.aload_n 0, 1) := by decide +kernel
theorem dL_law_95 : decode cL_law 95 = .ok (.iload_n 3, 1) := by decide +kernel
theorem dL_law_96 : decode cL_law 96 = .ok (.iconst 2, 1) := by decide +kernel
theorem dL_law_97 : decode cL_law 97 = .ok (.iadd, 1) := by decide +kernel
theorem dL_law_98 : decode cL_law 98 = .ok (.iaload, 1) := by decide +kernel
theorem dL_law_99 : decode cL_law 99 = .ok (.i2l, 1) := by decide +kernel
theorem dL_law_100 : decode cL_law 100 = .ok (.bipush 32, 2) := by decide +kernel
theorem dL_law_102 : decode cL_law 102 = .ok (.lshl, 1) := by decide +kernel
theorem dL_law_103 : decode cL_law 103 = .ok (.aload_n 0, 1) := by decide +kernel
theorem dL_law_104 : decode cL_law 104 = .ok (.iload_n 3, 1) := by decide +kernel
theorem dL_law_105 : decode cL_law 105 = .ok (.iconst 3, 1) := by decide +kernel
theorem dL_law_106 : decode cL_law 106 = .ok (.iadd, 1) := by decide +kernel
theorem dL_law_107 : decode cL_law 107 = .ok (.iaload, 1) := by decide +kernel
theorem dL_law_108 : decode cL_law 108 = .ok (.i2l, 1) := by decide +kernel
theorem dL_law_109 : decode cL_law 109 = .ok (.ldc2_w 13, 3) := by decide +kernel
theorem dL_law_112 : decode cL_law 112 = .ok (.land, 1) := by decide +kernel
theorem dL_law_113 : decode cL_law 113 = .ok (.lor, 1) := by decide +kernel
theorem dL_law_114 : decode cL_law 114 = .ok (.invokevirtual 15, 3) := by decide +kernel
theorem dL_law_117 : decode cL_law 117 = .ok (.aload_n 2, 1) := by decide +kernel
theorem dL_law_118 : decode cL_law 118 = .ok (.aload_n 0, 1) := by decide +kernel
theorem dL_law_119 : decode cL_law 119 = .ok (.iload_n 3, 1) := by decide +kernel
theorem dL_law_120 : decode cL_law 120 = .ok (.iconst 1, 1) := by decide +kernel
theorem dL_law_121 : decode cL_law 121 = .ok (.iadd, 1) := by decide +kernel
theorem dL_law_122 : decode cL_law 122 = .ok (.iaload, 1) := by decide +kernel
theorem dL_law_123 : decode cL_law 123 = .ok (.aload_n 0, 1) := by decide +kernel
theorem dL_law_124 : decode cL_law 124 = .ok (.iload_n 3, 1) := by decide +kernel
theorem dL_law_125 : decode cL_law 125 = .ok (.iconst 2, 1) := by decide +kernel
theorem dL_law_126 : decode cL_law 126 = .ok (.iadd, 1) := by decide +kernel
theorem dL_law_127 : decode cL_law 127 = .ok (.iaload, 1) := by decide +kernel
theorem dL_law_128 : decode cL_law 128 = .ok (.i2l, 1) := by decide +kernel
theorem dL_law_129 : decode cL_law 129 = .ok (.bipush 32, 2) := by decide +kernel
theorem dL_law_131 : decode cL_law 131 = .ok (.lshl, 1) := by decide +kernel
theorem dL_law_132 : decode cL_law 132 = .ok (.aload_n 0, 1) := by decide +kernel
theorem dL_law_133 : decode cL_law 133 = .ok (.iload_n 3, 1) := by decide +kernel
theorem dL_law_134 : decode cL_law 134 = .ok (.iconst 3, 1) := by decide +kernel
theorem dL_law_135 : decode cL_law 135 = .ok (.iadd, 1) := by decide +kernel
theorem dL_law_136 : decode cL_law 136 = .ok (.iaload, 1) := by decide +kernel
theorem dL_law_137 : decode cL_law 137 = .ok (.i2l, 1) := by decide +kernel
theorem dL_law_138 : decode cL_law 138 = .ok (.ldc2_w 13, 3) := by decide +kernel
theorem dL_law_141 : decode cL_law 141 = .ok (.land, 1) := by decide +kernel
theorem dL_law_142 : decode cL_law 142 = .ok (.lor, 1) := by decide +kernel
theorem dL_law_143 : decode cL_law 143 = .ok (.invokevirtual 19, 3) := by decide +kernel
theorem dL_law_146 : decode cL_law 146 = .ok (.if_icmp .eq 253, 3) := by decide +kernel
theorem dL_law_149 : decode cL_law 149 = .ok (.iconst 0, 1) := by decide +kernel
theorem dL_law_150 : decode cL_law 150 = .ok (.ireturn, 1) := by decide +kernel
theorem dL_law_151 : decode cL_law 151 = .ok (.aload_n 1, 1) := by decide +kernel
theorem dL_law_152 : decode cL_law 152 = .ok (.invokevirtual 20, 3) := by decide +kernel
theorem dL_law_155 : decode cL_law 155 = .ok (.aload_n 2, 1) := by decide +kernel
theorem dL_law_156 : decode cL_law 156 = .ok (.invokevirtual 24, 3) := by decide +kernel
theorem dL_law_159 : decode cL_law 159 = .ok (.if_icmp .eq 240, 3) := by decide +kernel
theorem dL_law_162 : decode cL_law 162 = .ok (.iconst 0, 1) := by decide +kernel
theorem dL_law_163 : decode cL_law 163 = .ok (.ireturn, 1) := by decide +kernel
theorem dL_law_164 : decode cL_law 164 = .ok (.aload_n 1, 1) := by decide +kernel
theorem dL_law_165 : decode cL_law 165 = .ok (.aload_n 0, 1) := by decide +kernel
theorem dL_law_166 : decode cL_law 166 = .ok (.iload_n 3, 1) := by decide +kernel
theorem dL_law_167 : decode cL_law 167 = .ok (.iconst 1, 1) := by decide +kernel
theorem dL_law_168 : decode cL_law 168 = .ok (.iadd, 1) := by decide +kernel
theorem dL_law_169 : decode cL_law 169 = .ok (.iaload, 1) := by decide +kernel
theorem dL_law_170 : decode cL_law 170 = .ok (.aload_n 0, 1) := by decide +kernel
theorem dL_law_171 : decode cL_law 171 = .ok (.iload_n 3, 1) := by decide +kernel
theorem dL_law_172 : decode cL_law 172 = .ok (.iconst 2, 1) := by decide +kernel
theorem dL_law_173 : decode cL_law 173 = .ok (.iadd, 1) := by decide +kernel
theorem dL_law_174 : decode cL_law 174 = .ok (.iaload, 1) := by decide +kernel
theorem dL_law_175 : decode cL_law 175 = .ok (.aload_n 0, 1) := by decide +kernel
theorem dL_law_176 : decode cL_law 176 = .ok (.iload_n 3, 1) := by decide +kernel
theorem dL_law_177 : decode cL_law 177 = .ok (.iconst 3, 1) := by decide +kernel
theorem dL_law_178 : decode cL_law 178 = .ok (.iadd, 1) := by decide +kernel
theorem dL_law_179 : decode cL_law 179 = .ok (.iaload, 1) := by decide +kernel
theorem dL_law_180 : decode cL_law 180 = .ok (.invokevirtual 25, 3) := by decide +kernel
theorem dL_law_183 : decode cL_law 183 = .ok (.aload_n 2, 1) := by decide +kernel
theorem dL_law_184 : decode cL_law 184 = .ok (.aload_n 0, 1) := by decide +kernel
theorem dL_law_185 : decode cL_law 185 = .ok (.iload_n 3, 1) := by decide +kernel
theorem dL_law_186 : decode cL_law 186 = .ok (.iconst 1, 1) := by decide +kernel
theorem dL_law_187 : decode cL_law 187 = .ok (.iadd, 1) := by decide +kernel
theorem dL_law_188 : decode cL_law 188 = .ok (.iaload, 1) := by decide +kernel
theorem dL_law_189 : decode cL_law 189 = .ok (.aload_n 0, 1) := by decide +kernel
theorem dL_law_190 : decode cL_law 190 = .ok (.iload_n 3, 1) := by decide +kernel
theorem dL_law_191 : decode cL_law 191 = .ok (.iconst 2, 1) := by decide +kernel
theorem dL_law_192 : decode cL_law 192 = .ok (.iadd, 1) := by decide +kernel
theorem dL_law_193 : decode cL_law 193 = .ok (.iaload, 1) := by decide +kernel
theorem dL_law_194 : decode cL_law 194 = .ok (.aload_n 0, 1) := by decide +kernel
theorem dL_law_195 : decode cL_law 195 = .ok (.iload_n 3, 1) := by decide +kernel
theorem dL_law_196 : decode cL_law 196 = .ok (.iconst 3, 1) := by decide +kernel
theorem dL_law_197 : decode cL_law 197 = .ok (.iadd, 1) := by decide +kernel
theorem dL_law_198 : decode cL_law 198 = .ok (.iaload, 1) := by decide +kernel
theorem dL_law_199 : decode cL_law 199 = .ok (.invokevirtual 29, 3) := by decide +kernel
theorem dL_law_202 : decode cL_law 202 = .ok (.if_icmp .eq 197, 3) := by decide +kernel
theorem dL_law_205 : decode cL_law 205 = .ok (.iconst 0, 1) := by decide +kernel
theorem dL_law_206 : decode cL_law 206 = .ok (.ireturn, 1) := by decide +kernel
theorem dL_law_207 : decode cL_law 207 = .ok (.aload_n 1, 1) := by decide +kernel
theorem dL_law_208 : decode cL_law 208 = .ok (.aload_n 0, 1) := by decide +kernel
theorem dL_law_209 : decode cL_law 209 = .ok (.iload_n 3, 1) := by decide +kernel
theorem dL_law_210 : decode cL_law 210 = .ok (.iconst 1, 1) := by decide +kernel
theorem dL_law_211 : decode cL_law 211 = .ok (.iadd, 1) := by decide +kernel
theorem dL_law_212 : decode cL_law 212 = .ok (.iaload, 1) := by decide +kernel
theorem dL_law_213 : decode cL_law 213 = .ok (.aload_n 0, 1) := by decide +kernel
theorem dL_law_214 : decode cL_law 214 = .ok (.iload_n 3, 1) := by decide +kernel
theorem dL_law_215 : decode cL_law 215 = .ok (.iconst 2, 1) := by decide +kernel
theorem dL_law_216 : decode cL_law 216 = .ok (.iadd, 1) := by decide +kernel
theorem dL_law_217 : decode cL_law 217 = .ok (.iaload, 1) := by decide +kernel
theorem dL_law_218 : decode cL_law 218 = .ok (.invokevirtual 30, 3) := by decide +kernel
theorem dL_law_221 : decode cL_law 221 = .ok (.aload_n 2, 1) := by decide +kernel
theorem dL_law_222 : decode cL_law 222 = .ok (.aload_n 0, 1) := by decide +kernel
theorem dL_law_223 : decode cL_law 223 = .ok (.iload_n 3, 1) := by decide +kernel
theorem dL_law_224 : decode cL_law 224 = .ok (.iconst 1, 1) := by decide +kernel
theorem dL_law_225 : decode cL_law 225 = .ok (.iadd, 1) := by decide +kernel
theorem dL_law_226 : decode cL_law 226 = .ok (.iaload, 1) := by decide +kernel
theorem dL_law_227 : decode cL_law 227 = .ok (.aload_n 0, 1) := by decide +kernel
theorem dL_law_228 : decode cL_law 228 = .ok (.iload_n 3, 1) := by decide +kernel
theorem dL_law_229 : decode cL_law 229 = .ok (.iconst 2, 1) := by decide +kernel
theorem dL_law_230 : decode cL_law 230 = .ok (.iadd, 1) := by decide +kernel
theorem dL_law_231 : decode cL_law 231 = .ok (.iaload, 1) := by decide +kernel
theorem dL_law_232 : decode cL_law 232 = .ok (.invokevirtual 34, 3) := by decide +kernel
theorem dL_law_235 : decode cL_law 235 = .ok (.if_icmp .eq 164, 3) := by decide +kernel
theorem dL_law_238 : decode cL_law 238 = .ok (.iconst 0, 1) := by decide +kernel
theorem dL_law_239 : decode cL_law 239 = .ok (.ireturn, 1) := by decide +kernel
theorem dL_law_240 : decode cL_law 240 = .ok (.aload_n 1, 1) := by decide +kernel
theorem dL_law_241 : decode cL_law 241 = .ok (.aload_n 0, 1) := by decide +kernel
theorem dL_law_242 : decode cL_law 242 = .ok (.iload_n 3, 1) := by decide +kernel
theorem dL_law_243 : decode cL_law 243 = .ok (.iconst 1, 1) := by decide +kernel
theorem dL_law_244 : decode cL_law 244 = .ok (.iadd, 1) := by decide +kernel
theorem dL_law_245 : decode cL_law 245 = .ok (.iaload, 1) := by decide +kernel
theorem dL_law_246 : decode cL_law 246 = .ok (.aload_n 0, 1) := by decide +kernel
theorem dL_law_247 : decode cL_law 247 = .ok (.iload_n 3, 1) := by decide +kernel
theorem dL_law_248 : decode cL_law 248 = .ok (.iconst 2, 1) := by decide +kernel
theorem dL_law_249 : decode cL_law 249 = .ok (.iadd, 1) := by decide +kernel
theorem dL_law_250 : decode cL_law 250 = .ok (.iaload, 1) := by decide +kernel
theorem dL_law_251 : decode cL_law 251 = .ok (.invokevirtual 35, 3) := by decide +kernel
theorem dL_law_254 : decode cL_law 254 = .ok (.aload_n 2, 1) := by decide +kernel
theorem dL_law_255 : decode cL_law 255 = .ok (.aload_n 0, 1) := by decide +kernel
theorem dL_law_256 : decode cL_law 256 = .ok (.iload_n 3, 1) := by decide +kernel
theorem dL_law_257 : decode cL_law 257 = .ok (.iconst 1, 1) := by decide +kernel
theorem dL_law_258 : decode cL_law 258 = .ok (.iadd, 1) := by decide +kernel
theorem dL_law_259 : decode cL_law 259 = .ok (.iaload, 1) := by decide +kernel
theorem dL_law_260 : decode cL_law 260 = .ok (.aload_n 0, 1) := by decide +kernel
theorem dL_law_261 : decode cL_law 261 = .ok (.iload_n 3, 1) := by decide +kernel
theorem dL_law_262 : decode cL_law 262 = .ok (.iconst 2, 1) := by decide +kernel
theorem dL_law_263 : decode cL_law 263 = .ok (.iadd, 1) := by decide +kernel
theorem dL_law_264 : decode cL_law 264 = .ok (.iaload, 1) := by decide +kernel
theorem dL_law_265 : decode cL_law 265 = .ok (.invokevirtual 38, 3) := by decide +kernel
theorem dL_law_268 : decode cL_law 268 = .ok (.if_icmp .eq 131, 3) := by decide +kernel
theorem dL_law_271 : decode cL_law 271 = .ok (.iconst 0, 1) := by decide +kernel
theorem dL_law_272 : decode cL_law 272 = .ok (.ireturn, 1) := by decide +kernel
theorem dL_law_273 : decode cL_law 273 = .ok (.aload_n 1, 1) := by decide +kernel
theorem dL_law_274 : decode cL_law 274 = .ok (.aload_n 0, 1) := by decide +kernel
theorem dL_law_275 : decode cL_law 275 = .ok (.iload_n 3, 1) := by decide +kernel
theorem dL_law_276 : decode cL_law 276 = .ok (.iconst 1, 1) := by decide +kernel
theorem dL_law_277 : decode cL_law 277 = .ok (.iadd, 1) := by decide +kernel
theorem dL_law_278 : decode cL_law 278 = .ok (.iaload, 1) := by decide +kernel
theorem dL_law_279 : decode cL_law 279 = .ok (.invokevirtual 39, 3) := by decide +kernel
theorem dL_law_282 : decode cL_law 282 = .ok (.aload_n 2, 1) := by decide +kernel
theorem dL_law_283 : decode cL_law 283 = .ok (.aload_n 0, 1) := by decide +kernel
theorem dL_law_284 : decode cL_law 284 = .ok (.iload_n 3, 1) := by decide +kernel
theorem dL_law_285 : decode cL_law 285 = .ok (.iconst 1, 1) := by decide +kernel
theorem dL_law_286 : decode cL_law 286 = .ok (.iadd, 1) := by decide +kernel
theorem dL_law_287 : decode cL_law 287 = .ok (.iaload, 1) := by decide +kernel
theorem dL_law_288 : decode cL_law 288 = .ok (.invokevirtual 43, 3) := by decide +kernel
theorem dL_law_291 : decode cL_law 291 = .ok (.if_icmp .eq 108, 3) := by decide +kernel
theorem dL_law_294 : decode cL_law 294 = .ok (.iconst 0, 1) := by decide +kernel
theorem dL_law_295 : decode cL_law 295 = .ok (.ireturn, 1) := by decide +kernel
theorem dL_law_296 : decode cL_law 296 = .ok (.aload_n 1, 1) := by decide +kernel
theorem dL_law_297 : decode cL_law 297 = .ok (.aload_n 0, 1) := by decide +kernel
theorem dL_law_298 : decode cL_law 298 = .ok (.iload_n 3, 1) := by decide +kernel
theorem dL_law_299 : decode cL_law 299 = .ok (.iconst 1, 1) := by decide +kernel
theorem dL_law_300 : decode cL_law 300 = .ok (.iadd, 1) := by decide +kernel
theorem dL_law_301 : decode cL_law 301 = .ok (.iaload, 1) := by decide +kernel
theorem dL_law_302 : decode cL_law 302 = .ok (.invokevirtual 44, 3) := by decide +kernel
theorem dL_law_305 : decode cL_law 305 = .ok (.aload_n 2, 1) := by decide +kernel
theorem dL_law_306 : decode cL_law 306 = .ok (.aload_n 0, 1) := by decide +kernel
theorem dL_law_307 : decode cL_law 307 = .ok (.iload_n 3, 1) := by decide +kernel
theorem dL_law_308 : decode cL_law 308 = .ok (.iconst 1, 1) := by decide +kernel
theorem dL_law_309 : decode cL_law 309 = .ok (.iadd, 1) := by decide +kernel
theorem dL_law_310 : decode cL_law 310 = .ok (.iaload, 1) := by decide +kernel
theorem dL_law_311 : decode cL_law 311 = .ok (.invokevirtual 48, 3) := by decide +kernel
theorem dL_law_314 : decode cL_law 314 = .ok (.lcmp, 1) := by decide +kernel
theorem dL_law_315 : decode cL_law 315 = .ok (.ifCond .eq 84, 3) := by decide +kernel
theorem dL_law_318 : decode cL_law 318 = .ok (.iconst 0, 1) := by decide +kernel
theorem dL_law_319 : decode cL_law 319 = .ok (.ireturn, 1) := by decide +kernel
theorem dL_law_320 : decode cL_law 320 = .ok (.aload_n 1, 1) := by decide +kernel
theorem dL_law_321 : decode cL_law 321 = .ok (.aload_n 0, 1) := by decide +kernel
theorem dL_law_322 : decode cL_law 322 = .ok (.iload_n 3, 1) := by decide +kernel
theorem dL_law_323 : decode cL_law 323 = .ok (.iconst 1, 1) := by decide +kernel
theorem dL_law_324 : decode cL_law 324 = .ok (.iadd, 1) := by decide +kernel
theorem dL_law_325 : decode cL_law 325 = .ok (.iaload, 1) := by decide +kernel
theorem dL_law_326 : decode cL_law 326 = .ok (.aload_n 0, 1) := by decide +kernel
theorem dL_law_327 : decode cL_law 327 = .ok (.iload_n 3, 1) := by decide +kernel
theorem dL_law_328 : decode cL_law 328 = .ok (.iconst 2, 1) := by decide +kernel
theorem dL_law_329 : decode cL_law 329 = .ok (.iadd, 1) := by decide +kernel
theorem dL_law_330 : decode cL_law 330 = .ok (.iaload, 1) := by decide +kernel
theorem dL_law_331 : decode cL_law 331 = .ok (.invokevirtual 49, 3) := by decide +kernel
theorem dL_law_334 : decode cL_law 334 = .ok (.aload_n 2, 1) := by decide +kernel
theorem dL_law_335 : decode cL_law 335 = .ok (.aload_n 0, 1) := by decide +kernel
theorem dL_law_336 : decode cL_law 336 = .ok (.iload_n 3, 1) := by decide +kernel
theorem dL_law_337 : decode cL_law 337 = .ok (.iconst 1, 1) := by decide +kernel
theorem dL_law_338 : decode cL_law 338 = .ok (.iadd, 1) := by decide +kernel
theorem dL_law_339 : decode cL_law 339 = .ok (.iaload, 1) := by decide +kernel
theorem dL_law_340 : decode cL_law 340 = .ok (.aload_n 0, 1) := by decide +kernel
theorem dL_law_341 : decode cL_law 341 = .ok (.iload_n 3, 1) := by decide +kernel
theorem dL_law_342 : decode cL_law 342 = .ok (.iconst 2, 1) := by decide +kernel
theorem dL_law_343 : decode cL_law 343 = .ok (.iadd, 1) := by decide +kernel
theorem dL_law_344 : decode cL_law 344 = .ok (.iaload, 1) := by decide +kernel
theorem dL_law_345 : decode cL_law 345 = .ok (.invokevirtual 52, 3) := by decide +kernel
theorem dL_law_348 : decode cL_law 348 = .ok (.if_icmp .eq 51, 3) := by decide +kernel
theorem dL_law_351 : decode cL_law 351 = .ok (.iconst 0, 1) := by decide +kernel
theorem dL_law_352 : decode cL_law 352 = .ok (.ireturn, 1) := by decide +kernel
theorem dL_law_353 : decode cL_law 353 = .ok (.aload_n 1, 1) := by decide +kernel
theorem dL_law_354 : decode cL_law 354 = .ok (.aload_n 0, 1) := by decide +kernel
theorem dL_law_355 : decode cL_law 355 = .ok (.iload_n 3, 1) := by decide +kernel
theorem dL_law_356 : decode cL_law 356 = .ok (.iconst 1, 1) := by decide +kernel
theorem dL_law_357 : decode cL_law 357 = .ok (.iadd, 1) := by decide +kernel
theorem dL_law_358 : decode cL_law 358 = .ok (.iaload, 1) := by decide +kernel
theorem dL_law_359 : decode cL_law 359 = .ok (.invokevirtual 53, 3) := by decide +kernel
theorem dL_law_362 : decode cL_law 362 = .ok (.aload_n 2, 1) := by decide +kernel
theorem dL_law_363 : decode cL_law 363 = .ok (.aload_n 0, 1) := by decide +kernel
theorem dL_law_364 : decode cL_law 364 = .ok (.iload_n 3, 1) := by decide +kernel
theorem dL_law_365 : decode cL_law 365 = .ok (.iconst 1, 1) := by decide +kernel
theorem dL_law_366 : decode cL_law 366 = .ok (.iadd, 1) := by decide +kernel
theorem dL_law_367 : decode cL_law 367 = .ok (.iaload, 1) := by decide +kernel
theorem dL_law_368 : decode cL_law 368 = .ok (.invokevirtual 56, 3) := by decide +kernel
theorem dL_law_371 : decode cL_law 371 = .ok (.if_icmp .eq 28, 3) := by decide +kernel
theorem dL_law_374 : decode cL_law 374 = .ok (.iconst 0, 1) := by decide +kernel
theorem dL_law_375 : decode cL_law 375 = .ok (.ireturn, 1) := by decide +kernel
theorem dL_law_376 : decode cL_law 376 = .ok (.aload_n 1, 1) := by decide +kernel
theorem dL_law_377 : decode cL_law 377 = .ok (.aload_n 0, 1) := by decide +kernel
theorem dL_law_378 : decode cL_law 378 = .ok (.iload_n 3, 1) := by decide +kernel
theorem dL_law_379 : decode cL_law 379 = .ok (.iconst 1, 1) := by decide +kernel
theorem dL_law_380 : decode cL_law 380 = .ok (.iadd, 1) := by decide +kernel
theorem dL_law_381 : decode cL_law 381 = .ok (.iaload, 1) := by decide +kernel
theorem dL_law_382 : decode cL_law 382 = .ok (.invokevirtual 57, 3) := by decide +kernel
theorem dL_law_385 : decode cL_law 385 = .ok (.aload_n 2, 1) := by decide +kernel
theorem dL_law_386 : decode cL_law 386 = .ok (.aload_n 0, 1) := by decide +kernel
theorem dL_law_387 : decode cL_law 387 = .ok (.iload_n 3, 1) := by decide +kernel
theorem dL_law_388 : decode cL_law 388 = .ok (.iconst 1, 1) := by decide +kernel
theorem dL_law_389 : decode cL_law 389 = .ok (.iadd, 1) := by decide +kernel
theorem dL_law_390 : decode cL_law 390 = .ok (.iaload, 1) := by decide +kernel
theorem dL_law_391 : decode cL_law 391 = .ok (.invokevirtual 60, 3) := by decide +kernel
theorem dL_law_394 : decode cL_law 394 = .ok (.if_icmp .eq 5, 3) := by decide +kernel
theorem dL_law_397 : decode cL_law 397 = .ok (.iconst 0, 1) := by decide +kernel
theorem dL_law_398 : decode cL_law 398 = .ok (.ireturn, 1) := by decide +kernel
theorem dL_law_399 : decode cL_law 399 = .ok (.iinc 3 4, 3) := by decide +kernel
theorem dL_law_402 : decode cL_law 402 = .ok (.goto (-384), 3) := by decide +kernel
theorem dL_law_405 : decode cL_law 405 = .ok (.iconst 1, 1) := by decide +kernel
theorem dL_law_406 : decode cL_law 406 = .ok (.ireturn, 1) := by decide +kernel
