theorem dX0_init_0 : decode cX0_init 0 = .ok (.aload_n 0, 1) := by decide +kernel
theorem dX0_init_1 : decode cX0_init 1 = .ok (.invokespecial 3, 3) := by decide +kernel
theorem dX0_init_4 : decode cX0_init 4 = .ok (.aload_n 0, 1) := by decide +kernel
theorem dX0_init_5 : decode cX0_init 5 = .ok (.sipush 3000, 3) := by decide +kernel
theorem dX0_init_8 : decode cX0_init 8 = .ok (.newarray .int, 2) := by decide +kernel
theorem dX0_init_10 : decode cX0_init 10 = .ok (.putfield 9, 3) := by decide +kernel
theorem dX0_init_13 : decode cX0_init 13 = .ok (.aload_n 0, 1) := by decide +kernel
theorem dX0_init_14 : decode cX0_init 14 = .ok (.sipush 3000, 3) := by decide +kernel
theorem dX0_init_17 : decode cX0_init 17 = .ok (.newarray .int, 2) := by decide +kernel
theorem dX0_init_19 : decode cX0_init 19 = .ok (.putfield 15, 3) := by decide +kernel
theorem dX0_init_22 : decode cX0_init 22 = .ok (.aload_n 0, 1) := by decide +kernel
theorem dX0_init_23 : decode cX0_init 23 = .ok (.sipush 3000, 3) := by decide +kernel
theorem dX0_init_26 : decode cX0_init 26 = .ok (.newarray .int, 2) := by decide +kernel
theorem dX0_init_28 : decode cX0_init 28 = .ok (.putfield 18, 3) := by decide +kernel
theorem dX0_init_31 : decode cX0_init 31 = .ok (.return_, 1) := by decide +kernel
theorem dX0_add_0 : decode cX0_add 0 = .ok (.aload_n 0, 1) := by decide +kernel
theorem dX0_add_1 : decode cX0_add 1 = .ok (.getfield 21, 3) := by decide +kernel
theorem dX0_add_4 : decode cX0_add 4 = .ok (.sipush 3000, 3) := by decide +kernel
theorem dX0_add_7 : decode cX0_add 7 = .ok (.if_icmp .lt 4, 3) := by decide +kernel
theorem dX0_add_10 : decode cX0_add 10 = .ok (.return_, 1) := by decide +kernel
theorem dX0_add_11 : decode cX0_add 11 = .ok (.aload_n 0, 1) := by decide +kernel
theorem dX0_add_12 : decode cX0_add 12 = .ok (.getfield 9, 3) := by decide +kernel
theorem dX0_add_15 : decode cX0_add 15 = .ok (.aload_n 0, 1) := by decide +kernel
theorem dX0_add_16 : decode cX0_add 16 = .ok (.getfield 21, 3) := by decide +kernel
theorem dX0_add_19 : decode cX0_add 19 = .ok (.iload_n 1, 1) := by decide +kernel
theorem dX0_add_20 : decode cX0_add 20 = .ok (.iastore, 1) := by decide +kernel
theorem dX0_add_21 : decode cX0_add 21 = .ok (.aload_n 0, 1) := by decide +kernel
theorem dX0_add_22 : decode cX0_add 22 = .ok (.getfield 15, 3) := by decide +kernel
theorem dX0_add_25 : decode cX0_add 25 = .ok (.aload_n 0, 1) := by decide +kernel
theorem dX0_add_26 : decode cX0_add 26 = .ok (.getfield 21, 3) := by decide +kernel
theorem dX0_add_29 : decode cX0_add 29 = .ok (.iload_n 2, 1) := by decide +kernel
theorem dX0_add_30 : decode cX0_add 30 = .ok (.iastore, 1) := by decide +kernel
theorem dX0_add_31 : decode cX0_add 31 = .ok (.aload_n 0, 1) := by decide +kernel
theorem dX0_add_32 : decode cX0_add 32 = .ok (.getfield 18, 3) := by decide +kernel
theorem dX0_add_35 : decode cX0_add 35 = .ok (.aload_n 0, 1) := by decide +kernel
theorem dX0_add_36 : decode cX0_add 36 = .ok (.getfield 21, 3) := by decide +kernel
theorem dX0_add_39 : decode cX0_add 39 = .ok (.iload_n 3, 1) := by decide +kernel
theorem dX0_add_40 : decode cX0_add 40 = .ok (.iastore, 1) := by decide +kernel
theorem dX0_add_41 : decode cX0_add 41 = .ok (.aload_n 0, 1) := by decide +kernel
theorem dX0_add_42 : decode cX0_add 42 = .ok (.dup, 1) := by decide +kernel
theorem dX0_add_43 : decode cX0_add 43 = .ok (.getfield 21, 3) := by decide +kernel
theorem dX0_add_46 : decode cX0_add 46 = .ok (.iconst 1, 1) := by decide +kernel
theorem dX0_add_47 : decode cX0_add 47 = .ok (.iadd, 1) := by decide +kernel
theorem dX0_add_48 : decode cX0_add 48 = .ok (.putfield 21, 3) := by decide +kernel
theorem dX0_add_51 : decode cX0_add 51 = .ok (.return_, 1) := by decide +kernel
theorem dX1_init_0 : decode cX1_init 0 = .ok (.aload_n 0, 1) := by decide +kernel
theorem dX1_init_1 : decode cX1_init 1 = .ok (.invokespecial 3, 3) := by decide +kernel
theorem dX1_init_4 : decode cX1_init 4 = .ok (.aload_n 0, 1) := by decide +kernel
theorem dX1_init_5 : decode cX1_init 5 = .ok (.sipush 3001, 3) := by decide +kernel
theorem dX1_init_8 : decode cX1_init 8 = .ok (.newarray .long, 2) := by decide +kernel
theorem dX1_init_10 : decode cX1_init 10 = .ok (.putfield 9, 3) := by decide +kernel
theorem dX1_init_13 : decode cX1_init 13 = .ok (.aload_n 0, 1) := by decide +kernel
theorem dX1_init_14 : decode cX1_init 14 = .ok (.sipush 3001, 3) := by decide +kernel
theorem dX1_init_17 : decode cX1_init 17 = .ok (.newarray .int, 2) := by decide +kernel
theorem dX1_init_19 : decode cX1_init 19 = .ok (.putfield 15, 3) := by decide +kernel
theorem dX1_init_22 : decode cX1_init 22 = .ok (.aload_n 0, 1) := by decide +kernel
theorem dX1_init_23 : decode cX1_init 23 = .ok (.sipush 3001, 3) := by decide +kernel
theorem dX1_init_26 : decode cX1_init 26 = .ok (.newarray .int, 2) := by decide +kernel
theorem dX1_init_28 : decode cX1_init 28 = .ok (.putfield 19, 3) := by decide +kernel
theorem dX1_init_31 : decode cX1_init 31 = .ok (.return_, 1) := by decide +kernel
theorem dX1_makeEmpty_0 : decode cX1_makeEmpty 0 = .ok (.aload_n 0, 1) := by decide +kernel
theorem dX1_makeEmpty_1 : decode cX1_makeEmpty 1 = .ok (.iconst 0, 1) := by decide +kernel
theorem dX1_makeEmpty_2 : decode cX1_makeEmpty 2 = .ok (.putfield 22, 3) := by decide +kernel
theorem dX1_makeEmpty_5 : decode cX1_makeEmpty 5 = .ok (.aload_n 0, 1) := by decide +kernel
theorem dX1_makeEmpty_6 : decode cX1_makeEmpty 6 = .ok (.iconst 0, 1) := by decide +kernel
theorem dX1_makeEmpty_7 : decode cX1_makeEmpty 7 = .ok (.putfield 26, 3) := by decide +kernel
theorem dX1_makeEmpty_10 : decode cX1_makeEmpty 10 = .ok (.return_, 1) := by decide +kernel
theorem dX1_height_0 : decode cX1_height 0 = .ok (.aload_n 0, 1) := by decide +kernel
theorem dX1_height_1 : decode cX1_height 1 = .ok (.getfield 19, 3) := by decide +kernel
theorem dX1_height_4 : decode cX1_height 4 = .ok (.aload_n 0, 1) := by decide +kernel
theorem dX1_height_5 : decode cX1_height 5 = .ok (.getfield 26, 3) := by decide +kernel
theorem dX1_height_8 : decode cX1_height 8 = .ok (.iaload, 1) := by decide +kernel
theorem dX1_height_9 : decode cX1_height 9 = .ok (.ireturn, 1) := by decide +kernel
set_option maxRecDepth 20000 in
theorem ggX1_numberUnder_X1_height : GoodIn wsX1_numberUnder wsX1_height := goodIn_r _ [6, 7, 8, 14, 15, 16, 17, 18] (by decide +kernel) (by decide +kernel)
set_option maxRecDepth 20000 in
theorem gX1_numberUnder_X1_height : GoodIn wsX1_numberUnder (wsV RX1 29 RX1 yX1_height wsX1_height) := goodIn_app (goodIn_of _ (by decide +kernel)) ggX1_numberUnder_X1_height
set_option maxRecDepth 20000 in
theorem ggX1_numberUnder_X1_slotUnder : GoodIn wsX1_numberUnder wsX1_slotUnder := goodIn_r _ [12, 8, 13, 14, 15, 16, 17, 18] (by decide +kernel) (by decide +kernel)
set_option maxRecDepth 20000 in
theorem gX1_numberUnder_X1_slotUnder : GoodIn wsX1_numberUnder (wsV RX1 33 RX1 yX1_slotUnder wsX1_slotUnder) := goodIn_app (goodIn_of _ (by decide +kernel)) ggX1_numberUnder_X1_slotUnder
theorem dX1_numberUnder_0 : decode cX1_numberUnder 0 = .ok (.iload_n 1, 1) := by decide +kernel
theorem dX1_numberUnder_1 : decode cX1_numberUnder 1 = .ok (.ifCond .lt 11, 3) := by decide +kernel
theorem dX1_numberUnder_4 : decode cX1_numberUnder 4 = .ok (.iload_n 1, 1) := by decide +kernel
theorem dX1_numberUnder_5 : decode cX1_numberUnder 5 = .ok (.aload_n 0, 1) := by decide +kernel
theorem dX1_numberUnder_6 : decode cX1_numberUnder 6 = .ok (.invokevirtual 29, 3) := by decide +kernel
theorem dX1_numberUnder_9 : decode cX1_numberUnder 9 = .ok (.if_icmp .lt 7, 3) := by decide +kernel
theorem dX1_numberUnder_12 : decode cX1_numberUnder 12 = .ok (.lconst 0, 1) := by decide +kernel
theorem dX1_numberUnder_13 : decode cX1_numberUnder 13 = .ok (.goto 13, 3) := by decide +kernel
theorem dX1_numberUnder_16 : decode cX1_numberUnder 16 = .ok (.aload_n 0, 1) := by decide +kernel
theorem dX1_numberUnder_17 : decode cX1_numberUnder 17 = .ok (.getfield 9, 3) := by decide +kernel
theorem dX1_numberUnder_20 : decode cX1_numberUnder 20 = .ok (.aload_n 0, 1) := by decide +kernel
theorem dX1_numberUnder_21 : decode cX1_numberUnder 21 = .ok (.iload_n 1, 1) := by decide +kernel
theorem dX1_numberUnder_22 : decode cX1_numberUnder 22 = .ok (.invokevirtual 33, 3) := by decide +kernel
theorem dX1_numberUnder_25 : decode cX1_numberUnder 25 = .ok (.laload, 1) := by decide +kernel
theorem dX1_numberUnder_26 : decode cX1_numberUnder 26 = .ok (.lreturn, 1) := by decide +kernel
set_option maxRecDepth 20000 in
theorem ggX1_lay_X1_slotUnder : GoodIn wsX1_lay wsX1_slotUnder := goodIn_r _ [10, 5, 3, 11, 12, 13, 14, 15] (by decide +kernel) (by decide +kernel)
set_option maxRecDepth 20000 in
theorem gX1_lay_X1_slotUnder : GoodIn wsX1_lay (wsV RX1 33 RX1 yX1_slotUnder wsX1_slotUnder) := goodIn_app (goodIn_of _ (by decide +kernel)) ggX1_lay_X1_slotUnder
theorem dX1_lay_0 : decode cX1_lay 0 = .ok (.aload_n 0, 1) := by decide +kernel
theorem dX1_lay_1 : decode cX1_lay 1 = .ok (.getfield 22, 3) := by decide +kernel
theorem dX1_lay_4 : decode cX1_lay 4 = .ok (.sipush 3000, 3) := by decide +kernel
theorem dX1_lay_7 : decode cX1_lay 7 = .ok (.if_icmp .lt 4, 3) := by decide +kernel
theorem dX1_lay_10 : decode cX1_lay 10 = .ok (.return_, 1) := by decide +kernel
theorem dX1_lay_11 : decode cX1_lay 11 = .ok (.aload_n 0, 1) := by decide +kernel
theorem dX1_lay_12 : decode cX1_lay 12 = .ok (.iload_n 3, 1) := by decide +kernel
theorem dX1_lay_13 : decode cX1_lay 13 = .ok (.invokevirtual 33, 3) := by decide +kernel
theorem dX1_lay_16 : decode cX1_lay 16 = .ok (.istore 4, 2) := by decide +kernel
theorem dX1_lay_18 : decode cX1_lay 18 = .ok (.aload_n 0, 1) := by decide +kernel
theorem dX1_lay_19 : decode cX1_lay 19 = .ok (.dup, 1) := by decide +kernel
theorem dX1_lay_20 : decode cX1_lay 20 = .ok (.getfield 22, 3) := by decide +kernel
theorem dX1_lay_23 : decode cX1_lay 23 = .ok (.iconst 1, 1) := by decide +kernel
theorem dX1_lay_24 : decode cX1_lay 24 = .ok (.iadd, 1) := by decide +kernel
theorem dX1_lay_25 : decode cX1_lay 25 = .ok (.putfield 22, 3) := by decide +kernel
theorem dX1_lay_28 : decode cX1_lay 28 = .ok (.aload_n 0, 1) := by decide +kernel
theorem dX1_lay_29 : decode cX1_lay 29 = .ok (.getfield 9, 3) := by decide +kernel
theorem dX1_lay_32 : decode cX1_lay 32 = .ok (.aload_n 0, 1) := by decide +kernel
theorem dX1_lay_33 : decode cX1_lay 33 = .ok (.getfield 22, 3) := by decide +kernel
theorem dX1_lay_36 : decode cX1_lay 36 = .ok (.lload_n 1, 1) := by decide +kernel
theorem dX1_lay_37 : decode cX1_lay 37 = .ok (.lastore, 1) := by decide +kernel
theorem dX1_lay_38 : decode cX1_lay 38 = .ok (.aload_n 0, 1) := by decide +kernel
theorem dX1_lay_39 : decode cX1_lay 39 = .ok (.getfield 15, 3) := by decide +kernel
theorem dX1_lay_42 : decode cX1_lay 42 = .ok (.aload_n 0, 1) := by decide +kernel
theorem dX1_lay_43 : decode cX1_lay 43 = .ok (.getfield 22, 3) := by decide +kernel
theorem dX1_lay_46 : decode cX1_lay 46 = .ok (.iload 4, 2) := by decide +kernel
theorem dX1_lay_48 : decode cX1_lay 48 = .ok (.iastore, 1) := by decide +kernel
theorem dX1_lay_49 : decode cX1_lay 49 = .ok (.aload_n 0, 1) := by decide +kernel
theorem dX1_lay_50 : decode cX1_lay 50 = .ok (.getfield 19, 3) := by decide +kernel
theorem dX1_lay_53 : decode cX1_lay 53 = .ok (.aload_n 0, 1) := by decide +kernel
theorem dX1_lay_54 : decode cX1_lay 54 = .ok (.getfield 22, 3) := by decide +kernel
theorem dX1_lay_57 : decode cX1_lay 57 = .ok (.aload_n 0, 1) := by decide +kernel
theorem dX1_lay_58 : decode cX1_lay 58 = .ok (.getfield 19, 3) := by decide +kernel
theorem dX1_lay_61 : decode cX1_lay 61 = .ok (.iload 4, 2) := by decide +kernel
theorem dX1_lay_63 : decode cX1_lay 63 = .ok (.iaload, 1) := by decide +kernel
theorem dX1_lay_64 : decode cX1_lay 64 = .ok (.iconst 1, 1) := by decide +kernel
theorem dX1_lay_65 : decode cX1_lay 65 = .ok (.iadd, 1) := by decide +kernel
theorem dX1_lay_66 : decode cX1_lay 66 = .ok (.iastore, 1) := by decide +kernel
theorem dX1_lay_67 : decode cX1_lay 67 = .ok (.aload_n 0, 1) := by decide +kernel
theorem dX1_lay_68 : decode cX1_lay 68 = .ok (.aload_n 0, 1) := by decide +kernel
theorem dX1_lay_69 : decode cX1_lay 69 = .ok (.getfield 22, 3) := by decide +kernel
theorem dX1_lay_72 : decode cX1_lay 72 = .ok (.putfield 26, 3) := by decide +kernel
theorem dX1_lay_75 : decode cX1_lay 75 = .ok (.return_, 1) := by decide +kernel
theorem dX1_slotUnder_0 : decode cX1_slotUnder 0 = .ok (.aload_n 0, 1) := by decide +kernel
theorem dX1_slotUnder_1 : decode cX1_slotUnder 1 = .ok (.getfield 26, 3) := by decide +kernel
theorem dX1_slotUnder_4 : decode cX1_slotUnder 4 = .ok (.istore_n 2, 1) := by decide +kernel
theorem dX1_slotUnder_5 : decode cX1_slotUnder 5 = .ok (.iconst 0, 1) := by decide +kernel
theorem dX1_slotUnder_6 : decode cX1_slotUnder 6 = .ok (.istore_n 3, 1) := by decide +kernel
theorem dX1_slotUnder_7 : decode cX1_slotUnder 7 = .ok (.iload_n 3, 1) := by decide +kernel
theorem dX1_slotUnder_8 : decode cX1_slotUnder 8 = .ok (.iload_n 1, 1) := by decide +kernel
theorem dX1_slotUnder_9 : decode cX1_slotUnder 9 = .ok (.if_icmp .ge 16, 3) := by decide +kernel
theorem dX1_slotUnder_12 : decode cX1_slotUnder 12 = .ok (.aload_n 0, 1) := by decide +kernel
theorem dX1_slotUnder_13 : decode cX1_slotUnder 13 = .ok (.getfield 15, 3) := by decide +kernel
theorem dX1_slotUnder_16 : decode cX1_slotUnder 16 = .ok (.iload_n 2, 1) := by decide +kernel
theorem dX1_slotUnder_17 : decode cX1_slotUnder 17 = .ok (.iaload, 1) := by decide +kernel
theorem dX1_slotUnder_18 : decode cX1_slotUnder 18 = .ok (.istore_n 2, 1) := by decide +kernel
theorem dX1_slotUnder_19 : decode cX1_slotUnder 19 = .ok (.iinc 3 1, 3) := by decide +kernel
theorem dX1_slotUnder_22 : decode cX1_slotUnder 22 = .ok (.goto (-15), 3) := by decide +kernel
theorem dX1_slotUnder_25 : decode cX1_slotUnder 25 = .ok (.iload_n 2, 1) := by decide +kernel
theorem dX1_slotUnder_26 : decode cX1_slotUnder 26 = .ok (.ireturn, 1) := by decide +kernel
set_option maxRecDepth 20000 in
theorem ggX2_init_X1_init : GoodIn wsX2_init wsX1_init := goodIn_r _ [23, 24, 2, 3, 25, 26, 6, 27, 28, 61, 62, 63, 64, 65] (by decide +kernel) (by decide +kernel)
set_option maxRecDepth 20000 in
theorem gX2_init_X1_init_n35 : GoodIn wsX2_init (wsX1_init) := ggX2_init_X1_init
set_option maxRecDepth 20000 in
theorem ggX2_init_X0_init : GoodIn wsX2_init wsX0_init := goodIn_r _ [30, 31, 2, 3, 6, 32, 33, 34, 66, 67, 68, 69] (by decide +kernel) (by decide +kernel)
set_option maxRecDepth 20000 in
theorem gX2_init_X0_init_n42 : GoodIn wsX2_init (wsX0_init) := ggX2_init_X0_init
set_option maxRecDepth 20000 in
theorem ggX2_init_J7_fill_53178 : GoodIn wsX2_init wsJ7_fill_53178 := goodIn_r _ [38] (by decide +kernel) (by decide +kernel)
set_option maxRecDepth 20000 in
theorem gX2_init_J7_fill_53178 : GoodIn wsX2_init (va_wsS RX2 47 yJ7_fill_53178 wsJ7_fill_53178) := goodIn_app (goodIn_of _ (by decide +kernel)) ggX2_init_J7_fill_53178
set_option maxRecDepth 20000 in
theorem ggX2_init_X2_addReader : GoodIn wsX2_init wsX2_addReader := goodIn_r _ [43, 44, 7, 8, 9, 45, 46, 47, 48, 49, 50, 51, 52, 53, 54, 55, 56, 57, 58, 59, 60] (by decide +kernel) (by decide +kernel)
set_option maxRecDepth 20000 in
theorem gX2_init_X2_addReader : GoodIn wsX2_init (wsV RX2 53 RX2 yX2_addReader wsX2_addReader) := goodIn_app (goodIn_of _ (by decide +kernel)) ggX2_init_X2_addReader
theorem dX2_init_0 : decode cX2_init 0 = .ok (.aload_n 0, 1) := by decide +kernel
theorem dX2_init_1 : decode cX2_init 1 = .ok (.invokespecial 1, 3) := by decide +kernel
theorem dX2_init_4 : decode cX2_init 4 = .ok (.aload_n 0, 1) := by decide +kernel
theorem dX2_init_5 : decode cX2_init 5 = .ok (.sipush 200, 3) := by decide +kernel
theorem dX2_init_8 : decode cX2_init 8 = .ok (.newarray .byte, 2) := by decide +kernel
theorem dX2_init_10 : decode cX2_init 10 = .ok (.putfield 9, 3) := by decide +kernel
theorem dX2_init_13 : decode cX2_init 13 = .ok (.aload_n 0, 1) := by decide +kernel
theorem dX2_init_14 : decode cX2_init 14 = .ok (.bipush 50, 2) := by decide +kernel
theorem dX2_init_16 : decode cX2_init 16 = .ok (.newarray .int, 2) := by decide +kernel
theorem dX2_init_18 : decode cX2_init 18 = .ok (.putfield 13, 3) := by decide +kernel
theorem dX2_init_21 : decode cX2_init 21 = .ok (.aload_n 0, 1) := by decide +kernel
theorem dX2_init_22 : decode cX2_init 22 = .ok (.bipush 50, 2) := by decide +kernel
theorem dX2_init_24 : decode cX2_init 24 = .ok (.newarray .int, 2) := by decide +kernel
theorem dX2_init_26 : decode cX2_init 26 = .ok (.putfield 17, 3) := by decide +kernel
theorem dX2_init_29 : decode cX2_init 29 = .ok (.aload_n 0, 1) := by decide +kernel
theorem dX2_init_30 : decode cX2_init 30 = .ok (.bipush 50, 2) := by decide +kernel
theorem dX2_init_32 : decode cX2_init 32 = .ok (.newarray .int, 2) := by decide +kernel
theorem dX2_init_34 : decode cX2_init 34 = .ok (.putfield 20, 3) := by decide +kernel
theorem dX2_init_37 : decode cX2_init 37 = .ok (.aload_n 0, 1) := by decide +kernel
theorem dX2_init_38 : decode cX2_init 38 = .ok (.bipush 50, 2) := by decide +kernel
theorem dX2_init_40 : decode cX2_init 40 = .ok (.newarray .int, 2) := by decide +kernel
theorem dX2_init_42 : decode cX2_init 42 = .ok (.putfield 23, 3) := by decide +kernel
theorem dX2_init_45 : decode cX2_init 45 = .ok (.aload_n 0, 1) := by decide +kernel
theorem dX2_init_46 : decode cX2_init 46 = .ok (.bipush 10, 2) := by decide +kernel
theorem dX2_init_48 : decode cX2_init 48 = .ok (.newarray .int, 2) := by decide +kernel
theorem dX2_init_50 : decode cX2_init 50 = .ok (.putfield 26, 3) := by decide +kernel
theorem dX2_init_53 : decode cX2_init 53 = .ok (.aload_n 0, 1) := by decide +kernel
theorem dX2_init_54 : decode cX2_init 54 = .ok (.sipush 151, 3) := by decide +kernel
theorem dX2_init_57 : decode cX2_init 57 = .ok (.newarray .boolean, 2) := by decide +kernel
theorem dX2_init_59 : decode cX2_init 59 = .ok (.putfield 29, 3) := by decide +kernel
theorem dX2_init_62 : decode cX2_init 62 = .ok (.aload_n 0, 1) := by decide +kernel
theorem dX2_init_63 : decode cX2_init 63 = .ok (.new 33, 3) := by decide +kernel
theorem dX2_init_66 : decode cX2_init 66 = .ok (.dup, 1) := by decide +kernel
theorem dX2_init_67 : decode cX2_init 67 = .ok (.invokespecial 35, 3) := by decide +kernel
theorem dX2_init_70 : decode cX2_init 70 = .ok (.putfield 36, 3) := by decide +kernel
theorem dX2_init_73 : decode cX2_init 73 = .ok (.aload_n 0, 1) := by decide +kernel
theorem dX2_init_74 : decode cX2_init 74 = .ok (.new 40, 3) := by decide +kernel
theorem dX2_init_77 : decode cX2_init 77 = .ok (.dup, 1) := by decide +kernel
theorem dX2_init_78 : decode cX2_init 78 = .ok (.invokespecial 42, 3) := by decide +kernel
theorem dX2_init_81 : decode cX2_init 81 = .ok (.putfield 43, 3) := by decide +kernel
theorem dX2_init_84 : decode cX2_init 84 = .ok (.aload_n 0, 1) := by decide +kernel
theorem dX2_init_85 : decode cX2_init 85 = .ok (.getfield 26, 3) := by decide +kernel
theorem dX2_init_88 : decode cX2_init 88 = .ok (.iconst (-1), 1) := by decide +kernel
theorem dX2_init_89 : decode cX2_init 89 = .ok (.invokestatic 47, 3) := by decide +kernel
theorem dX2_init_92 : decode cX2_init 92 = .ok (.aload_n 0, 1) := by decide +kernel
theorem dX2_init_93 : decode cX2_init 93 = .ok (.iconst 2, 1) := by decide +kernel
theorem dX2_init_94 : decode cX2_init 94 = .ok (.iconst 0, 1) := by decide +kernel
theorem dX2_init_95 : decode cX2_init 95 = .ok (.iconst 0, 1) := by decide +kernel
theorem dX2_init_96 : decode cX2_init 96 = .ok (.invokevirtual 53, 3) := by decide +kernel
theorem dX2_init_99 : decode cX2_init 99 = .ok (.pop, 1) := by decide +kernel
theorem dX2_init_100 : decode cX2_init 100 = .ok (.aload_n 0, 1) := by decide +kernel
theorem dX2_init_101 : decode cX2_init 101 = .ok (.iconst 3, 1) := by decide +kernel
theorem dX2_init_102 : decode cX2_init 102 = .ok (.iconst 0, 1) := by decide +kernel
theorem dX2_init_103 : decode cX2_init 103 = .ok (.iconst 0, 1) := by decide +kernel
theorem dX2_init_104 : decode cX2_init 104 = .ok (.invokevirtual 53, 3) := by decide +kernel
theorem dX2_init_107 : decode cX2_init 107 = .ok (.pop, 1) := by decide +kernel
theorem dX2_init_108 : decode cX2_init 108 = .ok (.return_, 1) := by decide +kernel
theorem dX2_text_0 : decode cX2_text 0 = .ok (.iload_n 1, 1) := by decide +kernel
theorem dX2_text_1 : decode cX2_text 1 = .ok (.iconst 1, 1) := by decide +kernel
theorem dX2_text_2 : decode cX2_text 2 = .ok (.if_icmp .lt 9, 3) := by decide +kernel
theorem dX2_text_5 : decode cX2_text 5 = .ok (.iload_n 1, 1) := by decide +kernel
theorem dX2_text_6 : decode cX2_text 6 = .ok (.bipush 8, 2) := by decide +kernel
theorem dX2_text_8 : decode cX2_text 8 = .ok (.if_icmp .le 6, 3) := by decide +kernel
theorem dX2_text_11 : decode cX2_text 11 = .ok (.bipush (-2), 2) := by decide +kernel
theorem dX2_text_13 : decode cX2_text 13 = .ok (.ireturn, 1) := by decide +kernel
theorem dX2_text_14 : decode cX2_text 14 = .ok (.aload_n 0, 1) := by decide +kernel
theorem dX2_text_15 : decode cX2_text 15 = .ok (.getfield 57, 3) := by decide +kernel
theorem dX2_text_18 : decode cX2_text 18 = .ok (.iload_n 1, 1) := by decide +kernel
theorem dX2_text_19 : decode cX2_text 19 = .ok (.iadd, 1) := by decide +kernel
theorem dX2_text_20 : decode cX2_text 20 = .ok (.sipush 200, 3) := by decide +kernel
theorem dX2_text_23 : decode cX2_text 23 = .ok (.if_icmp .le 6, 3) := by decide +kernel
theorem dX2_text_26 : decode cX2_text 26 = .ok (.bipush (-3), 2) := by decide +kernel
theorem dX2_text_28 : decode cX2_text 28 = .ok (.ireturn, 1) := by decide +kernel
theorem dX2_text_29 : decode cX2_text 29 = .ok (.iconst 0, 1) := by decide +kernel
theorem dX2_text_30 : decode cX2_text 30 = .ok (.istore 4, 2) := by decide +kernel
theorem dX2_text_32 : decode cX2_text 32 = .ok (.iload 4, 2) := by decide +kernel
theorem dX2_text_34 : decode cX2_text 34 = .ok (.iload_n 1, 1) := by decide +kernel
theorem dX2_text_35 : decode cX2_text 35 = .ok (.if_icmp .ge 34, 3) := by decide +kernel
theorem dX2_text_38 : decode cX2_text 38 = .ok (.aload_n 0, 1) := by decide +kernel
theorem dX2_text_39 : decode cX2_text 39 = .ok (.getfield 9, 3) := by decide +kernel
theorem dX2_text_42 : decode cX2_text 42 = .ok (.aload_n 0, 1) := by decide +kernel
theorem dX2_text_43 : decode cX2_text 43 = .ok (.getfield 57, 3) := by decide +kernel
theorem dX2_text_46 : decode cX2_text 46 = .ok (.iload 4, 2) := by decide +kernel
theorem dX2_text_48 : decode cX2_text 48 = .ok (.iadd, 1) := by decide +kernel
theorem dX2_text_49 : decode cX2_text 49 = .ok (.lload_n 2, 1) := by decide +kernel
theorem dX2_text_50 : decode cX2_text 50 = .ok (.bipush 8, 2) := by decide +kernel
theorem dX2_text_52 : decode cX2_text 52 = .ok (.iload 4, 2) := by decide +kernel
theorem dX2_text_54 : decode cX2_text 54 = .ok (.imul, 1) := by decide +kernel
theorem dX2_text_55 : decode cX2_text 55 = .ok (.lushr, 1) := by decide +kernel
theorem dX2_text_56 : decode cX2_text 56 = .ok (.ldc2_w 61, 3) := by decide +kernel
theorem dX2_text_59 : decode cX2_text 59 = .ok (.land, 1) := by decide +kernel
theorem dX2_text_60 : decode cX2_text 60 = .ok (.l2i, 1) := by decide +kernel
theorem dX2_text_61 : decode cX2_text 61 = .ok (.i2b, 1) := by decide +kernel
theorem dX2_text_62 : decode cX2_text 62 = .ok (.bastore, 1) := by decide +kernel
theorem dX2_text_63 : decode cX2_text 63 = .ok (.iinc 4 1, 3) := by decide +kernel
theorem dX2_text_66 : decode cX2_text 66 = .ok (.goto (-34), 3) := by decide +kernel
theorem dX2_text_69 : decode cX2_text 69 = .ok (.aload_n 0, 1) := by decide +kernel
theorem dX2_text_70 : decode cX2_text 70 = .ok (.dup, 1) := by decide +kernel
theorem dX2_text_71 : decode cX2_text 71 = .ok (.getfield 57, 3) := by decide +kernel
theorem dX2_text_74 : decode cX2_text 74 = .ok (.iload_n 1, 1) := by decide +kernel
theorem dX2_text_75 : decode cX2_text 75 = .ok (.iadd, 1) := by decide +kernel
theorem dX2_text_76 : decode cX2_text 76 = .ok (.putfield 57, 3) := by decide +kernel
theorem dX2_text_79 : decode cX2_text 79 = .ok (.aload_n 0, 1) := by decide +kernel
theorem dX2_text_80 : decode cX2_text 80 = .ok (.getfield 57, 3) := by decide +kernel
theorem dX2_text_83 : decode cX2_text 83 = .ok (.ireturn, 1) := by decide +kernel
theorem dX2_clear_0 : decode cX2_clear 0 = .ok (.aload_n 0, 1) := by decide +kernel
theorem dX2_clear_1 : decode cX2_clear 1 = .ok (.getfield 57, 3) := by decide +kernel
theorem dX2_clear_4 : decode cX2_clear 4 = .ok (.istore_n 1, 1) := by decide +kernel
theorem dX2_clear_5 : decode cX2_clear 5 = .ok (.aload_n 0, 1) := by decide +kernel
theorem dX2_clear_6 : decode cX2_clear 6 = .ok (.iconst 0, 1) := by decide +kernel
theorem dX2_clear_7 : decode cX2_clear 7 = .ok (.putfield 57, 3) := by decide +kernel
theorem dX2_clear_10 : decode cX2_clear 10 = .ok (.iload_n 1, 1) := by decide +kernel
theorem dX2_clear_11 : decode cX2_clear 11 = .ok (.ireturn, 1) := by decide +kernel
set_option maxRecDepth 20000 in
theorem ggX2_reader_X2_fitsFirst : GoodIn wsX2_reader wsX2_fitsFirst := goodIn_r _ [6, 7, 8, 9, 5, 10, 1, 11, 12, 13, 25, 26, 27, 28, 29, 30, 31, 32, 33, 34, 35, 36, 37, 38, 39, 40] (by decide +kernel) (by decide +kernel)
set_option maxRecDepth 20000 in
theorem gX2_reader_X2_fitsFirst : GoodIn wsX2_reader (wsV RX2 63 RX2 yX2_fitsFirst wsX2_fitsFirst) := goodIn_app (goodIn_of _ (by decide +kernel)) ggX2_reader_X2_fitsFirst
set_option maxRecDepth 20000 in
theorem ggX2_reader_X2_fitsSecond : GoodIn wsX2_reader wsX2_fitsSecond := goodIn_r _ [17, 7, 8, 9, 5, 10, 1, 25, 26, 27, 28, 29, 30, 31, 32, 33, 34, 35, 36, 37, 38, 39, 40] (by decide +kernel) (by decide +kernel)
set_option maxRecDepth 20000 in
theorem gX2_reader_X2_fitsSecond : GoodIn wsX2_reader (wsV RX2 67 RX2 yX2_fitsSecond wsX2_fitsSecond) := goodIn_app (goodIn_of _ (by decide +kernel)) ggX2_reader_X2_fitsSecond
set_option maxRecDepth 20000 in
theorem ggX2_reader_X2_addReader : GoodIn wsX2_reader wsX2_addReader := goodIn_r _ [21, 1, 22, 23, 24, 25, 26, 27, 28, 29, 30, 31, 32, 33, 34, 35, 36, 37, 38, 39, 40] (by decide +kernel) (by decide +kernel)
set_option maxRecDepth 20000 in
theorem gX2_reader_X2_addReader : GoodIn wsX2_reader (wsV RX2 53 RX2 yX2_addReader wsX2_addReader) := goodIn_app (goodIn_of _ (by decide +kernel)) ggX2_reader_X2_addReader
theorem dX2_reader_0 : decode cX2_reader 0 = .ok (.iload_n 1, 1) := by decide +kernel
theorem dX2_reader_1 : decode cX2_reader 1 = .ok (.ifCond .lt 27, 3) := by decide +kernel
theorem dX2_reader_4 : decode cX2_reader 4 = .ok (.iload_n 1, 1) := by decide +kernel
theorem dX2_reader_5 : decode cX2_reader 5 = .ok (.bipush 15, 2) := by decide +kernel
theorem dX2_reader_7 : decode cX2_reader 7 = .ok (.if_icmp .gt 21, 3) := by decide +kernel
theorem dX2_reader_10 : decode cX2_reader 10 = .ok (.aload_n 0, 1) := by decide +kernel
theorem dX2_reader_11 : decode cX2_reader 11 = .ok (.iload_n 1, 1) := by decide +kernel
theorem dX2_reader_12 : decode cX2_reader 12 = .ok (.iload_n 2, 1) := by decide +kernel
theorem dX2_reader_13 : decode cX2_reader 13 = .ok (.invokevirtual 63, 3) := by decide +kernel
theorem dX2_reader_16 : decode cX2_reader 16 = .ok (.ifCond .eq 12, 3) := by decide +kernel
theorem dX2_reader_19 : decode cX2_reader 19 = .ok (.aload_n 0, 1) := by decide +kernel
theorem dX2_reader_20 : decode cX2_reader 20 = .ok (.iload_n 1, 1) := by decide +kernel
theorem dX2_reader_21 : decode cX2_reader 21 = .ok (.iload_n 3, 1) := by decide +kernel
theorem dX2_reader_22 : decode cX2_reader 22 = .ok (.invokevirtual 67, 3) := by decide +kernel
theorem dX2_reader_25 : decode cX2_reader 25 = .ok (.ifCond .ne 6, 3) := by decide +kernel
theorem dX2_reader_28 : decode cX2_reader 28 = .ok (.bipush (-2), 2) := by decide +kernel
theorem dX2_reader_30 : decode cX2_reader 30 = .ok (.ireturn, 1) := by decide +kernel
theorem dX2_reader_31 : decode cX2_reader 31 = .ok (.aload_n 0, 1) := by decide +kernel
theorem dX2_reader_32 : decode cX2_reader 32 = .ok (.getfield 70, 3) := by decide +kernel
theorem dX2_reader_35 : decode cX2_reader 35 = .ok (.bipush 50, 2) := by decide +kernel
theorem dX2_reader_37 : decode cX2_reader 37 = .ok (.if_icmp .lt 6, 3) := by decide +kernel
theorem dX2_reader_40 : decode cX2_reader 40 = .ok (.bipush (-3), 2) := by decide +kernel
theorem dX2_reader_42 : decode cX2_reader 42 = .ok (.ireturn, 1) := by decide +kernel
theorem dX2_reader_43 : decode cX2_reader 43 = .ok (.aload_n 0, 1) := by decide +kernel
theorem dX2_reader_44 : decode cX2_reader 44 = .ok (.iload_n 1, 1) := by decide +kernel
theorem dX2_reader_45 : decode cX2_reader 45 = .ok (.iload_n 2, 1) := by decide +kernel
theorem dX2_reader_46 : decode cX2_reader 46 = .ok (.iload_n 3, 1) := by decide +kernel
theorem dX2_reader_47 : decode cX2_reader 47 = .ok (.invokevirtual 53, 3) := by decide +kernel
theorem dX2_reader_50 : decode cX2_reader 50 = .ok (.ireturn, 1) := by decide +kernel
set_option maxRecDepth 20000 in
theorem ggX2_name_X2_isName : GoodIn wsX2_name wsX2_isName := goodIn_r _ [5] (by decide +kernel) (by decide +kernel)
set_option maxRecDepth 20000 in
theorem gX2_name_X2_isName : GoodIn wsX2_name (va_wsS RX2 73 yX2_isName wsX2_isName) := goodIn_app (goodIn_of _ (by decide +kernel)) ggX2_name_X2_isName
set_option maxRecDepth 20000 in
theorem ggX2_name_X2_isReader : GoodIn wsX2_name wsX2_isReader := goodIn_r _ [9, 10, 11, 12, 13, 14, 15, 16, 17, 18, 19, 20, 21, 22, 23, 24, 25, 26] (by decide +kernel) (by decide +kernel)
set_option maxRecDepth 20000 in
theorem gX2_name_X2_isReader : GoodIn wsX2_name (wsV RX2 77 RX2 yX2_isReader wsX2_isReader) := goodIn_app (goodIn_of _ (by decide +kernel)) ggX2_name_X2_isReader
theorem dX2_name_0 : decode cX2_name 0 = .ok (.iload_n 1, 1) := by decide +kernel
theorem dX2_name_1 : decode cX2_name 1 = .ok (.invokestatic 73, 3) := by decide +kernel
theorem dX2_name_4 : decode cX2_name 4 = .ok (.ifCond .eq 16, 3) := by decide +kernel
theorem dX2_name_7 : decode cX2_name 7 = .ok (.iload_n 2, 1) := by decide +kernel
theorem dX2_name_8 : decode cX2_name 8 = .ok (.iconst (-1), 1) := by decide +kernel
theorem dX2_name_9 : decode cX2_name 9 = .ok (.if_icmp .eq 14, 3) := by decide +kernel
theorem dX2_name_12 : decode cX2_name 12 = .ok (.aload_n 0, 1) := by decide +kernel
theorem dX2_name_13 : decode cX2_name 13 = .ok (.iload_n 2, 1) := by decide +kernel
theorem dX2_name_14 : decode cX2_name 14 = .ok (.invokevirtual 77, 3) := by decide +kernel
theorem dX2_name_17 : decode cX2_name 17 = .ok (.ifCond .ne 6, 3) := by decide +kernel
theorem dX2_name_20 : decode cX2_name 20 = .ok (.bipush (-2), 2) := by decide +kernel
theorem dX2_name_22 : decode cX2_name 22 = .ok (.ireturn, 1) := by decide +kernel
theorem dX2_name_23 : decode cX2_name 23 = .ok (.aload_n 0, 1) := by decide +kernel
theorem dX2_name_24 : decode cX2_name 24 = .ok (.getfield 26, 3) := by decide +kernel
theorem dX2_name_27 : decode cX2_name 27 = .ok (.iload_n 1, 1) := by decide +kernel
theorem dX2_name_28 : decode cX2_name 28 = .ok (.iaload, 1) := by decide +kernel
theorem dX2_name_29 : decode cX2_name 29 = .ok (.istore_n 3, 1) := by decide +kernel
theorem dX2_name_30 : decode cX2_name 30 = .ok (.aload_n 0, 1) := by decide +kernel
theorem dX2_name_31 : decode cX2_name 31 = .ok (.getfield 26, 3) := by decide +kernel
theorem dX2_name_34 : decode cX2_name 34 = .ok (.iload_n 1, 1) := by decide +kernel
theorem dX2_name_35 : decode cX2_name 35 = .ok (.iload_n 2, 1) := by decide +kernel
theorem dX2_name_36 : decode cX2_name 36 = .ok (.iastore, 1) := by decide +kernel
theorem dX2_name_37 : decode cX2_name 37 = .ok (.iload_n 3, 1) := by decide +kernel
theorem dX2_name_38 : decode cX2_name 38 = .ok (.iconst (-1), 1) := by decide +kernel
theorem dX2_name_39 : decode cX2_name 39 = .ok (.if_icmp .ne 7, 3) := by decide +kernel
theorem dX2_name_42 : decode cX2_name 42 = .ok (.iconst 0, 1) := by decide +kernel
theorem dX2_name_43 : decode cX2_name 43 = .ok (.goto 4, 3) := by decide +kernel
theorem dX2_name_46 : decode cX2_name 46 = .ok (.iconst 1, 1) := by decide +kernel
theorem dX2_name_47 : decode cX2_name 47 = .ok (.ireturn, 1) := by decide +kernel
set_option maxRecDepth 20000 in
theorem ggX2_read_X2_isReader : GoodIn wsX2_read wsX2_isReader := goodIn_r _ [6, 7, 115, 116, 117, 118, 119, 120, 121, 122, 123, 124, 125, 126, 127, 128, 129, 130] (by decide +kernel) (by decide +kernel)
set_option maxRecDepth 20000 in
theorem gX2_read_X2_isReader : GoodIn wsX2_read (wsV RX2 77 RX2 yX2_isReader wsX2_isReader) := goodIn_app (goodIn_of _ (by decide +kernel)) ggX2_read_X2_isReader
set_option maxRecDepth 20000 in
theorem ggX2_read_X2_startCall : GoodIn wsX2_read wsX2_startCall := goodIn_r _ [11, 12, 13, 14, 15, 16, 17, 18, 19, 20, 21, 22, 23, 115, 116, 117, 118, 119, 120, 121, 122, 123, 124, 125, 126, 127, 128, 129, 130, 131, 132, 133, 134, 135, 136, 137, 138, 139] (by decide +kernel) (by decide +kernel)
set_option maxRecDepth 20000 in
theorem gX2_read_X2_startCall : GoodIn wsX2_read (wsV RX2 80 RX2 yX2_startCall wsX2_startCall) := goodIn_app (goodIn_of _ (by decide +kernel)) ggX2_read_X2_startCall
set_option maxRecDepth 20000 in
theorem ggX2_read_X2_follow : GoodIn wsX2_read wsX2_follow := goodIn_r _ [27, 12, 28, 13, 14, 29, 30, 31, 32, 33, 34, 35, 36, 5, 37, 15, 38, 39, 16, 40, 41, 42, 43, 44, 45, 46, 24, 25, 26, 47, 48, 49, 50, 51, 52, 53, 54, 55, 56, 57, 58, 59, 60, 61, 62, 63, 64, 65, 66, 67, 68, 69, 70, 1, 71, 72, 73, 74, 75, 76, 77, 78, 20, 79, 22, 80, 81, 82, 23, 83, 84, 85, 86, 87, 88, 89, 90, 91, 92, 93, 94, 95, 96, 97, 98, 99, 100, 101, 102, 103, 104, 105, 106, 107, 108, 115, 116, 117, 118, 119, 120, 121, 122, 123, 124, 125, 126, 127, 128, 129, 130, 135, 136, 137, 138, 139, 131, 132, 133, 134] (by decide +kernel) (by decide +kernel)
set_option maxRecDepth 20000 in
theorem gX2_read_X2_follow : GoodIn wsX2_read (wsV RX2 83 RX2 yX2_follow wsX2_follow) := goodIn_app (goodIn_of _ (by decide +kernel)) ggX2_read_X2_follow
set_option maxRecDepth 20000 in
theorem ggX2_read_X2_isFault : GoodIn wsX2_read wsX2_isFault := goodIn_r _ [49] (by decide +kernel) (by decide +kernel)
set_option maxRecDepth 20000 in
theorem gX2_read_X2_isFault : GoodIn wsX2_read (va_wsS RX2 87 yX2_isFault wsX2_isFault) := goodIn_app (goodIn_of _ (by decide +kernel)) ggX2_read_X2_isFault
set_option maxRecDepth 20000 in
theorem ggX2_read_X2_noteFault : GoodIn wsX2_read wsX2_noteFault := goodIn_r _ [112, 113, 114, 115, 116, 117, 118, 119, 120, 121, 122, 123, 124, 125, 126, 127, 128, 129, 130] (by decide +kernel) (by decide +kernel)
set_option maxRecDepth 20000 in
theorem gX2_read_X2_noteFault : GoodIn wsX2_read (wsV RX2 90 RX2 yX2_noteFault wsX2_noteFault) := goodIn_app (goodIn_of _ (by decide +kernel)) ggX2_read_X2_noteFault
theorem dX2_read_0 : decode cX2_read 0 = .ok (.aload_n 0, 1) := by decide +kernel
theorem dX2_read_1 : decode cX2_read 1 = .ok (.iload_n 1, 1) := by decide +kernel
theorem dX2_read_2 : decode cX2_read 2 = .ok (.invokevirtual 77, 3) := by decide +kernel
theorem dX2_read_5 : decode cX2_read 5 = .ok (.ifCond .eq 15, 3) := by decide +kernel
theorem dX2_read_8 : decode cX2_read 8 = .ok (.iload_n 2, 1) := by decide +kernel
theorem dX2_read_9 : decode cX2_read 9 = .ok (.ifCond .lt 11, 3) := by decide +kernel
theorem dX2_read_12 : decode cX2_read 12 = .ok (.iload_n 2, 1) := by decide +kernel
theorem dX2_read_13 : decode cX2_read 13 = .ok (.aload_n 0, 1) := by decide +kernel
theorem dX2_read_14 : decode cX2_read 14 = .ok (.getfield 57, 3) := by decide +kernel
theorem dX2_read_17 : decode cX2_read 17 = .ok (.if_icmp .le 6, 3) := by decide +kernel
theorem dX2_read_20 : decode cX2_read 20 = .ok (.bipush (-2), 2) := by decide +kernel
theorem dX2_read_22 : decode cX2_read 22 = .ok (.ireturn, 1) := by decide +kernel
theorem dX2_read_23 : decode cX2_read 23 = .ok (.aload_n 0, 1) := by decide +kernel
theorem dX2_read_24 : decode cX2_read 24 = .ok (.invokevirtual 80, 3) := by decide +kernel
theorem dX2_read_27 : decode cX2_read 27 = .ok (.aload_n 0, 1) := by decide +kernel
theorem dX2_read_28 : decode cX2_read 28 = .ok (.iload_n 1, 1) := by decide +kernel
theorem dX2_read_29 : decode cX2_read 29 = .ok (.iload_n 2, 1) := by decide +kernel
theorem dX2_read_30 : decode cX2_read 30 = .ok (.iconst 1, 1) := by decide +kernel
theorem dX2_read_31 : decode cX2_read 31 = .ok (.iconst 0, 1) := by decide +kernel
theorem dX2_read_32 : decode cX2_read 32 = .ok (.invokevirtual 83, 3) := by decide +kernel
theorem dX2_read_35 : decode cX2_read 35 = .ok (.istore_n 3, 1) := by decide +kernel
theorem dX2_read_36 : decode cX2_read 36 = .ok (.iload_n 3, 1) := by decide +kernel
theorem dX2_read_37 : decode cX2_read 37 = .ok (.invokestatic 87, 3) := by decide +kernel
theorem dX2_read_40 : decode cX2_read 40 = .ok (.ifCond .eq 8, 3) := by decide +kernel
theorem dX2_read_43 : decode cX2_read 43 = .ok (.aload_n 0, 1) := by decide +kernel
theorem dX2_read_44 : decode cX2_read 44 = .ok (.iload_n 3, 1) := by decide +kernel
theorem dX2_read_45 : decode cX2_read 45 = .ok (.invokevirtual 90, 3) := by decide +kernel
theorem dX2_read_48 : decode cX2_read 48 = .ok (.iload_n 3, 1) := by decide +kernel
theorem dX2_read_49 : decode cX2_read 49 = .ok (.ireturn, 1) := by decide +kernel
set_option maxRecDepth 20000 in
theorem ggX2_all_X2_isReader : GoodIn wsX2_all wsX2_isReader := goodIn_r _ [9, 10, 115, 116, 117, 118, 119, 120, 121, 122, 123, 124, 125, 126, 127, 128, 129, 130] (by decide +kernel) (by decide +kernel)
set_option maxRecDepth 20000 in
theorem gX2_all_X2_isReader : GoodIn wsX2_all (wsV RX2 77 RX2 yX2_isReader wsX2_isReader) := goodIn_app (goodIn_of _ (by decide +kernel)) ggX2_all_X2_isReader
set_option maxRecDepth 20000 in
theorem ggX2_all_X2_startCall : GoodIn wsX2_all wsX2_startCall := goodIn_r _ [14, 1, 3, 4, 15, 16, 17, 18, 19, 20, 21, 22, 23, 115, 116, 117, 118, 119, 120, 121, 122, 123, 124, 125, 126, 127, 128, 129, 130, 136, 137, 138, 139, 131, 132, 133, 134, 135] (by decide +kernel) (by decide +kernel)
set_option maxRecDepth 20000 in
theorem gX2_all_X2_startCall : GoodIn wsX2_all (wsV RX2 80 RX2 yX2_startCall wsX2_startCall) := goodIn_app (goodIn_of _ (by decide +kernel)) ggX2_all_X2_startCall
set_option maxRecDepth 20000 in
theorem ggX2_all_X2_follow : GoodIn wsX2_all wsX2_follow := goodIn_r _ [27, 1, 2, 3, 4, 28, 29, 30, 31, 32, 33, 34, 35, 8, 36, 15, 37, 38, 16, 39, 40, 41, 42, 43, 44, 45, 24, 25, 26, 46, 47, 48, 49, 50, 51, 52, 53, 54, 55, 56, 57, 58, 59, 60, 61, 62, 63, 64, 65, 66, 67, 68, 69, 70, 71, 72, 73, 74, 75, 76, 77, 78, 20, 79, 22, 80, 81, 82, 23, 83, 84, 85, 86, 87, 88, 89, 90, 91, 92, 93, 94, 95, 96, 97, 98, 99, 100, 101, 102, 103, 104, 105, 106, 107, 108, 115, 116, 117, 118, 119, 120, 121, 122, 123, 124, 125, 126, 127, 128, 129, 130, 131, 132, 133, 134, 135, 136, 137, 138, 139] (by decide +kernel) (by decide +kernel)
set_option maxRecDepth 20000 in
theorem gX2_all_X2_follow : GoodIn wsX2_all (wsV RX2 83 RX2 yX2_follow wsX2_follow) := goodIn_app (goodIn_of _ (by decide +kernel)) ggX2_all_X2_follow
set_option maxRecDepth 20000 in
theorem ggX2_all_X2_isFault : GoodIn wsX2_all wsX2_isFault := goodIn_r _ [48] (by decide +kernel) (by decide +kernel)
set_option maxRecDepth 20000 in
theorem gX2_all_X2_isFault : GoodIn wsX2_all (va_wsS RX2 87 yX2_isFault wsX2_isFault) := goodIn_app (goodIn_of _ (by decide +kernel)) ggX2_all_X2_isFault
set_option maxRecDepth 20000 in
theorem ggX2_all_X2_noteFault : GoodIn wsX2_all wsX2_noteFault := goodIn_r _ [112, 113, 114, 115, 116, 117, 118, 119, 120, 121, 122, 123, 124, 125, 126, 127, 128, 129, 130] (by decide +kernel) (by decide +kernel)
set_option maxRecDepth 20000 in
theorem gX2_all_X2_noteFault : GoodIn wsX2_all (wsV RX2 90 RX2 yX2_noteFault wsX2_noteFault) := goodIn_app (goodIn_of _ (by decide +kernel)) ggX2_all_X2_noteFault
set_option maxRecDepth 20000 in
theorem ggX2_all_X2_takeBack : GoodIn wsX2_all wsX2_takeBack := goodIn_r _ [52, 1, 2, 3, 4, 115, 116, 117, 118, 119, 120, 121, 122, 123, 124, 125, 126, 127, 128, 129, 130, 131, 132, 133, 134, 135, 136, 137, 138, 139] (by decide +kernel) (by decide +kernel)
set_option maxRecDepth 20000 in
theorem gX2_all_X2_takeBack : GoodIn wsX2_all (wsV RX2 100 RX2 yX2_takeBack wsX2_takeBack) := goodIn_app (goodIn_of _ (by decide +kernel)) ggX2_all_X2_takeBack
theorem dX2_all_0 : decode cX2_all 0 = .ok (.aload_n 0, 1) := by decide +kernel
theorem dX2_all_1 : decode cX2_all 1 = .ok (.iload_n 1, 1) := by decide +kernel
theorem dX2_all_2 : decode cX2_all 2 = .ok (.invokevirtual 77, 3) := by decide +kernel
theorem dX2_all_5 : decode cX2_all 5 = .ok (.ifCond .ne 6, 3) := by decide +kernel
theorem dX2_all_8 : decode cX2_all 8 = .ok (.bipush (-2), 2) := by decide +kernel
theorem dX2_all_10 : decode cX2_all 10 = .ok (.ireturn, 1) := by decide +kernel
theorem dX2_all_11 : decode cX2_all 11 = .ok (.aload_n 0, 1) := by decide +kernel
theorem dX2_all_12 : decode cX2_all 12 = .ok (.invokevirtual 80, 3) := by decide +kernel
theorem dX2_all_15 : decode cX2_all 15 = .ok (.iconst 0, 1) := by decide +kernel
theorem dX2_all_16 : decode cX2_all 16 = .ok (.istore_n 2, 1) := by decide +kernel
theorem dX2_all_17 : decode cX2_all 17 = .ok (.iconst 0, 1) := by decide +kernel
theorem dX2_all_18 : decode cX2_all 18 = .ok (.istore_n 3, 1) := by decide +kernel
theorem dX2_all_19 : decode cX2_all 19 = .ok (.iconst 0, 1) := by decide +kernel
theorem dX2_all_20 : decode cX2_all 20 = .ok (.istore 4, 2) := by decide +kernel
theorem dX2_all_22 : decode cX2_all 22 = .ok (.iload 4, 2) := by decide +kernel
theorem dX2_all_24 : decode cX2_all 24 = .ok (.sipush 200, 3) := by decide +kernel
theorem dX2_all_27 : decode cX2_all 27 = .ok (.if_icmp .gt 77, 3) := by decide +kernel
theorem dX2_all_30 : decode cX2_all 30 = .ok (.aload_n 0, 1) := by decide +kernel
theorem dX2_all_31 : decode cX2_all 31 = .ok (.getfield 36, 3) := by decide +kernel
theorem dX2_all_34 : decode cX2_all 34 = .ok (.getfield 94, 3) := by decide +kernel
theorem dX2_all_37 : decode cX2_all 37 = .ok (.istore 5, 2) := by decide +kernel
theorem dX2_all_39 : decode cX2_all 39 = .ok (.aload_n 0, 1) := by decide +kernel
theorem dX2_all_40 : decode cX2_all 40 = .ok (.getfield 43, 3) := by decide +kernel
theorem dX2_all_43 : decode cX2_all 43 = .ok (.getfield 97, 3) := by decide +kernel
theorem dX2_all_46 : decode cX2_all 46 = .ok (.istore 6, 2) := by decide +kernel
theorem dX2_all_48 : decode cX2_all 48 = .ok (.aload_n 0, 1) := by decide +kernel
theorem dX2_all_49 : decode cX2_all 49 = .ok (.iload_n 1, 1) := by decide +kernel
theorem dX2_all_50 : decode cX2_all 50 = .ok (.iload_n 2, 1) := by decide +kernel
theorem dX2_all_51 : decode cX2_all 51 = .ok (.iconst 1, 1) := by decide +kernel
theorem dX2_all_52 : decode cX2_all 52 = .ok (.iconst 0, 1) := by decide +kernel
theorem dX2_all_53 : decode cX2_all 53 = .ok (.invokevirtual 83, 3) := by decide +kernel
theorem dX2_all_56 : decode cX2_all 56 = .ok (.istore 7, 2) := by decide +kernel
theorem dX2_all_58 : decode cX2_all 58 = .ok (.iload 7, 2) := by decide +kernel
theorem dX2_all_60 : decode cX2_all 60 = .ok (.invokestatic 87, 3) := by decide +kernel
theorem dX2_all_63 : decode cX2_all 63 = .ok (.ifCond .eq 12, 3) := by decide +kernel
theorem dX2_all_66 : decode cX2_all 66 = .ok (.aload_n 0, 1) := by decide +kernel
theorem dX2_all_67 : decode cX2_all 67 = .ok (.iload 7, 2) := by decide +kernel
theorem dX2_all_69 : decode cX2_all 69 = .ok (.invokevirtual 90, 3) := by decide +kernel
theorem dX2_all_72 : decode cX2_all 72 = .ok (.iload 7, 2) := by decide +kernel
theorem dX2_all_74 : decode cX2_all 74 = .ok (.ireturn, 1) := by decide +kernel
theorem dX2_all_75 : decode cX2_all 75 = .ok (.iload 7, 2) := by decide +kernel
theorem dX2_all_77 : decode cX2_all 77 = .ok (.iload_n 2, 1) := by decide +kernel
theorem dX2_all_78 : decode cX2_all 78 = .ok (.if_icmp .gt 14, 3) := by decide +kernel
theorem dX2_all_81 : decode cX2_all 81 = .ok (.aload_n 0, 1) := by decide +kernel
theorem dX2_all_82 : decode cX2_all 82 = .ok (.iload 5, 2) := by decide +kernel
theorem dX2_all_84 : decode cX2_all 84 = .ok (.iload 6, 2) := by decide +kernel
theorem dX2_all_86 : decode cX2_all 86 = .ok (.invokevirtual 100, 3) := by decide +kernel
theorem dX2_all_89 : decode cX2_all 89 = .ok (.goto 15, 3) := by decide +kernel
theorem dX2_all_92 : decode cX2_all 92 = .ok (.iload 7, 2) := by decide +kernel
theorem dX2_all_94 : decode cX2_all 94 = .ok (.istore_n 2, 1) := by decide +kernel
theorem dX2_all_95 : decode cX2_all 95 = .ok (.iinc 3 1, 3) := by decide +kernel
theorem dX2_all_98 : decode cX2_all 98 = .ok (.iinc 4 1, 3) := by decide +kernel
theorem dX2_all_101 : decode cX2_all 101 = .ok (.goto (-79), 3) := by decide +kernel
theorem dX2_all_104 : decode cX2_all 104 = .ok (.iload_n 3, 1) := by decide +kernel
theorem dX2_all_105 : decode cX2_all 105 = .ok (.ireturn, 1) := by decide +kernel
set_option maxRecDepth 20000 in
theorem ggX2_pile_X1_numberUnder : GoodIn wsX2_pile wsX1_numberUnder := goodIn_r _ [6, 7, 8, 9, 10, 5, 11, 12, 13, 14, 15, 16, 17, 18, 35, 36, 37, 38, 39] (by decide +kernel) (by decide +kernel)
set_option maxRecDepth 20000 in
theorem gX2_pile_X1_numberUnder : GoodIn wsX2_pile (wsV RX2 104 RX1 yX1_numberUnder wsX1_numberUnder) := goodIn_app (goodIn_of _ (by decide +kernel)) ggX2_pile_X1_numberUnder
theorem dX2_pile_0 : decode cX2_pile 0 = .ok (.aload_n 0, 1) := by decide +kernel
theorem dX2_pile_1 : decode cX2_pile 1 = .ok (.getfield 36, 3) := by decide +kernel
theorem dX2_pile_4 : decode cX2_pile 4 = .ok (.iload_n 1, 1) := by decide +kernel
theorem dX2_pile_5 : decode cX2_pile 5 = .ok (.invokevirtual 104, 3) := by decide +kernel
theorem dX2_pile_8 : decode cX2_pile 8 = .ok (.lreturn, 1) := by decide +kernel
theorem dX2_mark_0 : decode cX2_mark 0 = .ok (.iload_n 2, 1) := by decide +kernel
theorem dX2_mark_1 : decode cX2_mark 1 = .ok (.ifCond .lt 8, 3) := by decide +kernel
theorem dX2_mark_4 : decode cX2_mark 4 = .ok (.iload_n 2, 1) := by decide +kernel
theorem dX2_mark_5 : decode cX2_mark 5 = .ok (.iconst 2, 1) := by decide +kernel
theorem dX2_mark_6 : decode cX2_mark 6 = .ok (.if_icmp .le 6, 3) := by decide +kernel
theorem dX2_mark_9 : decode cX2_mark 9 = .ok (.bipush (-2), 2) := by decide +kernel
theorem dX2_mark_11 : decode cX2_mark 11 = .ok (.ireturn, 1) := by decide +kernel
theorem dX2_mark_12 : decode cX2_mark 12 = .ok (.iload_n 1, 1) := by decide +kernel
theorem dX2_mark_13 : decode cX2_mark 13 = .ok (.ifCond .lt 14, 3) := by decide +kernel
theorem dX2_mark_16 : decode cX2_mark 16 = .ok (.iload_n 1, 1) := by decide +kernel
theorem dX2_mark_17 : decode cX2_mark 17 = .ok (.aload_n 0, 1) := by decide +kernel
theorem dX2_mark_18 : decode cX2_mark 18 = .ok (.getfield 43, 3) := by decide +kernel
theorem dX2_mark_21 : decode cX2_mark 21 = .ok (.getfield 97, 3) := by decide +kernel
theorem dX2_mark_24 : decode cX2_mark 24 = .ok (.if_icmp .lt 5, 3) := by decide +kernel
theorem dX2_mark_27 : decode cX2_mark 27 = .ok (.iconst (-1), 1) := by decide +kernel
theorem dX2_mark_28 : decode cX2_mark 28 = .ok (.ireturn, 1) := by decide +kernel
theorem dX2_mark_29 : decode cX2_mark 29 = .ok (.iload_n 2, 1) := by decide +kernel
theorem dX2_mark_30 : decode cX2_mark 30 = .ok (.ifCond .ne 15, 3) := by decide +kernel
theorem dX2_mark_33 : decode cX2_mark 33 = .ok (.aload_n 0, 1) := by decide +kernel
theorem dX2_mark_34 : decode cX2_mark 34 = .ok (.getfield 43, 3) := by decide +kernel
theorem dX2_mark_37 : decode cX2_mark 37 = .ok (.getfield 108, 3) := by decide +kernel
theorem dX2_mark_40 : decode cX2_mark 40 = .ok (.iload_n 1, 1) := by decide +kernel
theorem dX2_mark_41 : decode cX2_mark 41 = .ok (.iaload, 1) := by decide +kernel
theorem dX2_mark_42 : decode cX2_mark 42 = .ok (.goto 29, 3) := by decide +kernel
theorem dX2_mark_45 : decode cX2_mark 45 = .ok (.iload_n 2, 1) := by decide +kernel
theorem dX2_mark_46 : decode cX2_mark 46 = .ok (.iconst 1, 1) := by decide +kernel
theorem dX2_mark_47 : decode cX2_mark 47 = .ok (.if_icmp .ne 15, 3) := by decide +kernel
theorem dX2_mark_50 : decode cX2_mark 50 = .ok (.aload_n 0, 1) := by decide +kernel
theorem dX2_mark_51 : decode cX2_mark 51 = .ok (.getfield 43, 3) := by decide +kernel
theorem dX2_mark_54 : decode cX2_mark 54 = .ok (.getfield 111, 3) := by decide +kernel
theorem dX2_mark_57 : decode cX2_mark 57 = .ok (.iload_n 1, 1) := by decide +kernel
theorem dX2_mark_58 : decode cX2_mark 58 = .ok (.iaload, 1) := by decide +kernel
theorem dX2_mark_59 : decode cX2_mark 59 = .ok (.goto 12, 3) := by decide +kernel
theorem dX2_mark_62 : decode cX2_mark 62 = .ok (.aload_n 0, 1) := by decide +kernel
theorem dX2_mark_63 : decode cX2_mark 63 = .ok (.getfield 43, 3) := by decide +kernel
theorem dX2_mark_66 : decode cX2_mark 66 = .ok (.getfield 114, 3) := by decide +kernel
theorem dX2_mark_69 : decode cX2_mark 69 = .ok (.iload_n 1, 1) := by decide +kernel
theorem dX2_mark_70 : decode cX2_mark 70 = .ok (.iaload, 1) := by decide +kernel
theorem dX2_mark_71 : decode cX2_mark 71 = .ok (.ireturn, 1) := by decide +kernel
set_option maxRecDepth 20000 in
theorem ggX2_count_X1_height : GoodIn wsX2_count wsX1_height := goodIn_r _ [15, 16, 17, 38, 39, 40, 41, 42] (by decide +kernel) (by decide +kernel)
set_option maxRecDepth 20000 in
theorem gX2_count_X1_height : GoodIn wsX2_count (wsV RX2 117 RX1 yX1_height wsX1_height) := goodIn_app (goodIn_of _ (by decide +kernel)) ggX2_count_X1_height
theorem dX2_count_0 : decode cX2_count 0 = .ok (.iload_n 1, 1) := by decide +kernel
theorem dX2_count_1 : decode cX2_count 1 = .ok (.tableswitch 102 0 8 #[51, 56, 61, 69, 77, 82, 87, 92, 97], 51) := by decide +kernel
theorem dX2_count_52 : decode cX2_count 52 = .ok (.aload_n 0, 1) := by decide +kernel
theorem dX2_count_53 : decode cX2_count 53 = .ok (.getfield 57, 3) := by decide +kernel
theorem dX2_count_56 : decode cX2_count 56 = .ok (.ireturn, 1) := by decide +kernel
theorem dX2_count_57 : decode cX2_count 57 = .ok (.aload_n 0, 1) := by decide +kernel
theorem dX2_count_58 : decode cX2_count 58 = .ok (.getfield 70, 3) := by decide +kernel
theorem dX2_count_61 : decode cX2_count 61 = .ok (.ireturn, 1) := by decide +kernel
theorem dX2_count_62 : decode cX2_count 62 = .ok (.aload_n 0, 1) := by decide +kernel
theorem dX2_count_63 : decode cX2_count 63 = .ok (.getfield 36, 3) := by decide +kernel
theorem dX2_count_66 : decode cX2_count 66 = .ok (.invokevirtual 117, 3) := by decide +kernel
theorem dX2_count_69 : decode cX2_count 69 = .ok (.ireturn, 1) := by decide +kernel
theorem dX2_count_70 : decode cX2_count 70 = .ok (.aload_n 0, 1) := by decide +kernel
theorem dX2_count_71 : decode cX2_count 71 = .ok (.getfield 43, 3) := by decide +kernel
theorem dX2_count_74 : decode cX2_count 74 = .ok (.getfield 97, 3) := by decide +kernel
theorem dX2_count_77 : decode cX2_count 77 = .ok (.ireturn, 1) := by decide +kernel
theorem dX2_count_78 : decode cX2_count 78 = .ok (.aload_n 0, 1) := by decide +kernel
theorem dX2_count_79 : decode cX2_count 79 = .ok (.getfield 121, 3) := by decide +kernel
theorem dX2_count_82 : decode cX2_count 82 = .ok (.ireturn, 1) := by decide +kernel
theorem dX2_count_83 : decode cX2_count 83 = .ok (.aload_n 0, 1) := by decide +kernel
theorem dX2_count_84 : decode cX2_count 84 = .ok (.getfield 124, 3) := by decide +kernel
theorem dX2_count_87 : decode cX2_count 87 = .ok (.ireturn, 1) := by decide +kernel
theorem dX2_count_88 : decode cX2_count 88 = .ok (.aload_n 0, 1) := by decide +kernel
theorem dX2_count_89 : decode cX2_count 89 = .ok (.getfield 127, 3) := by decide +kernel
theorem dX2_count_92 : decode cX2_count 92 = .ok (.ireturn, 1) := by decide +kernel
theorem dX2_count_93 : decode cX2_count 93 = .ok (.aload_n 0, 1) := by decide +kernel
theorem dX2_count_94 : decode cX2_count 94 = .ok (.getfield 130, 3) := by decide +kernel
theorem dX2_count_97 : decode cX2_count 97 = .ok (.ireturn, 1) := by decide +kernel
theorem dX2_count_98 : decode cX2_count 98 = .ok (.aload_n 0, 1) := by decide +kernel
theorem dX2_count_99 : decode cX2_count 99 = .ok (.getfield 133, 3) := by decide +kernel
theorem dX2_count_102 : decode cX2_count 102 = .ok (.ireturn, 1) := by decide +kernel
theorem dX2_count_103 : decode cX2_count 103 = .ok (.bipush (-2), 2) := by decide +kernel
theorem dX2_count_105 : decode cX2_count 105 = .ok (.ireturn, 1) := by decide +kernel
set_option maxRecDepth 20000 in
theorem ggX2_began_X2_isReader : GoodIn wsX2_began wsX2_isReader := goodIn_r _ [6, 7, 8, 9, 10, 11, 12, 13, 14, 15, 16, 17, 18, 19, 20, 21, 22, 23] (by decide +kernel) (by decide +kernel)
set_option maxRecDepth 20000 in
theorem gX2_began_X2_isReader : GoodIn wsX2_began (wsV RX2 77 RX2 yX2_isReader wsX2_isReader) := goodIn_app (goodIn_of _ (by decide +kernel)) ggX2_began_X2_isReader
theorem dX2_began_0 : decode cX2_began 0 = .ok (.aload_n 0, 1) := by decide +kernel
theorem dX2_began_1 : decode cX2_began 1 = .ok (.iload_n 1, 1) := by decide +kernel
theorem dX2_began_2 : decode cX2_began 2 = .ok (.invokevirtual 77, 3) := by decide +kernel
theorem dX2_began_5 : decode cX2_began 5 = .ok (.ifCond .eq 12, 3) := by decide +kernel
theorem dX2_began_8 : decode cX2_began 8 = .ok (.aload_n 0, 1) := by decide +kernel
theorem dX2_began_9 : decode cX2_began 9 = .ok (.getfield 23, 3) := by decide +kernel
theorem dX2_began_12 : decode cX2_began 12 = .ok (.iload_n 1, 1) := by decide +kernel
theorem dX2_began_13 : decode cX2_began 13 = .ok (.iaload, 1) := by decide +kernel
theorem dX2_began_14 : decode cX2_began 14 = .ok (.goto 5, 3) := by decide +kernel
theorem dX2_began_17 : decode cX2_began 17 = .ok (.bipush (-2), 2) := by decide +kernel
theorem dX2_began_19 : decode cX2_began 19 = .ok (.ireturn, 1) := by decide +kernel
theorem dX2_isReader_0 : decode cX2_isReader 0 = .ok (.iload_n 1, 1) := by decide +kernel
theorem dX2_isReader_1 : decode cX2_isReader 1 = .ok (.ifCond .lt 15, 3) := by decide +kernel
theorem dX2_isReader_4 : decode cX2_isReader 4 = .ok (.iload_n 1, 1) := by decide +kernel
theorem dX2_isReader_5 : decode cX2_isReader 5 = .ok (.aload_n 0, 1) := by decide +kernel
theorem dX2_isReader_6 : decode cX2_isReader 6 = .ok (.getfield 70, 3) := by decide +kernel
theorem dX2_isReader_9 : decode cX2_isReader 9 = .ok (.if_icmp .ge 7, 3) := by decide +kernel
theorem dX2_isReader_12 : decode cX2_isReader 12 = .ok (.iconst 1, 1) := by decide +kernel
theorem dX2_isReader_13 : decode cX2_isReader 13 = .ok (.goto 4, 3) := by decide +kernel
theorem dX2_isReader_16 : decode cX2_isReader 16 = .ok (.iconst 0, 1) := by decide +kernel
theorem dX2_isReader_17 : decode cX2_isReader 17 = .ok (.ireturn, 1) := by decide +kernel
theorem dX2_isName_0 : decode cX2_isName 0 = .ok (.iload_n 0, 1) := by decide +kernel
theorem dX2_isName_1 : decode cX2_isName 1 = .ok (.ifCond .lt 13, 3) := by decide +kernel
theorem dX2_isName_4 : decode cX2_isName 4 = .ok (.iload_n 0, 1) := by decide +kernel
theorem dX2_isName_5 : decode cX2_isName 5 = .ok (.bipush 10, 2) := by decide +kernel
theorem dX2_isName_7 : decode cX2_isName 7 = .ok (.if_icmp .ge 7, 3) := by decide +kernel
theorem dX2_isName_10 : decode cX2_isName 10 = .ok (.iconst 1, 1) := by decide +kernel
theorem dX2_isName_11 : decode cX2_isName 11 = .ok (.goto 4, 3) := by decide +kernel
theorem dX2_isName_14 : decode cX2_isName 14 = .ok (.iconst 0, 1) := by decide +kernel
theorem dX2_isName_15 : decode cX2_isName 15 = .ok (.ireturn, 1) := by decide +kernel
set_option maxRecDepth 20000 in
theorem ggX2_fitsFirst_X2_isReader : GoodIn wsX2_fitsFirst wsX2_isReader := goodIn_r _ [5, 6, 10, 11, 12, 13, 14, 15, 16, 17, 18, 19, 20, 21, 22, 23, 24, 25] (by decide +kernel) (by decide +kernel)
set_option maxRecDepth 20000 in
theorem gX2_fitsFirst_X2_isReader : GoodIn wsX2_fitsFirst (wsV RX2 77 RX2 yX2_isReader wsX2_isReader) := goodIn_app (goodIn_of _ (by decide +kernel)) ggX2_fitsFirst_X2_isReader
set_option maxRecDepth 20000 in
theorem ggX2_fitsFirst_X2_isName : GoodIn wsX2_fitsFirst wsX2_isName := goodIn_r _ [9] (by decide +kernel) (by decide +kernel)
set_option maxRecDepth 20000 in
theorem gX2_fitsFirst_X2_isName : GoodIn wsX2_fitsFirst (va_wsS RX2 73 yX2_isName wsX2_isName) := goodIn_app (goodIn_of _ (by decide +kernel)) ggX2_fitsFirst_X2_isName
theorem dX2_fitsFirst_0 : decode cX2_fitsFirst 0 = .ok (.iload_n 1, 1) := by decide +kernel
theorem dX2_fitsFirst_1 : decode cX2_fitsFirst 1 = .ok (.tableswitch 89 4 15 #[63, 63, 63, 63, 63, 63, 69, 63, 89, 89, 89, 74], 63) := by decide +kernel
theorem dX2_fitsFirst_64 : decode cX2_fitsFirst 64 = .ok (.aload_n 0, 1) := by decide +kernel
theorem dX2_fitsFirst_65 : decode cX2_fitsFirst 65 = .ok (.iload_n 2, 1) := by decide +kernel
theorem dX2_fitsFirst_66 : decode cX2_fitsFirst 66 = .ok (.invokevirtual 77, 3) := by decide +kernel
theorem dX2_fitsFirst_69 : decode cX2_fitsFirst 69 = .ok (.ireturn, 1) := by decide +kernel
theorem dX2_fitsFirst_70 : decode cX2_fitsFirst 70 = .ok (.iload_n 2, 1) := by decide +kernel
theorem dX2_fitsFirst_71 : decode cX2_fitsFirst 71 = .ok (.invokestatic 73, 3) := by decide +kernel
theorem dX2_fitsFirst_74 : decode cX2_fitsFirst 74 = .ok (.ireturn, 1) := by decide +kernel
theorem dX2_fitsFirst_75 : decode cX2_fitsFirst 75 = .ok (.iload_n 2, 1) := by decide +kernel
theorem dX2_fitsFirst_76 : decode cX2_fitsFirst 76 = .ok (.ifCond .lt 12, 3) := by decide +kernel
theorem dX2_fitsFirst_79 : decode cX2_fitsFirst 79 = .ok (.iload_n 2, 1) := by decide +kernel
theorem dX2_fitsFirst_80 : decode cX2_fitsFirst 80 = .ok (.iconst 3, 1) := by decide +kernel
theorem dX2_fitsFirst_81 : decode cX2_fitsFirst 81 = .ok (.if_icmp .gt 7, 3) := by decide +kernel
theorem dX2_fitsFirst_84 : decode cX2_fitsFirst 84 = .ok (.iconst 1, 1) := by decide +kernel
theorem dX2_fitsFirst_85 : decode cX2_fitsFirst 85 = .ok (.goto 4, 3) := by decide +kernel
theorem dX2_fitsFirst_88 : decode cX2_fitsFirst 88 = .ok (.iconst 0, 1) := by decide +kernel
theorem dX2_fitsFirst_89 : decode cX2_fitsFirst 89 = .ok (.ireturn, 1) := by decide +kernel
theorem dX2_fitsFirst_90 : decode cX2_fitsFirst 90 = .ok (.iconst 1, 1) := by decide +kernel
theorem dX2_fitsFirst_91 : decode cX2_fitsFirst 91 = .ok (.ireturn, 1) := by decide +kernel
set_option maxRecDepth 20000 in
theorem ggX2_fitsSecond_X2_isReader : GoodIn wsX2_fitsSecond wsX2_isReader := goodIn_r _ [5, 6, 7, 8, 9, 10, 11, 12, 13, 14, 15, 16, 17, 18, 19, 20, 21, 22] (by decide +kernel) (by decide +kernel)
set_option maxRecDepth 20000 in
theorem gX2_fitsSecond_X2_isReader : GoodIn wsX2_fitsSecond (wsV RX2 77 RX2 yX2_isReader wsX2_isReader) := goodIn_app (goodIn_of _ (by decide +kernel)) ggX2_fitsSecond_X2_isReader
theorem dX2_fitsSecond_0 : decode cX2_fitsSecond 0 = .ok (.iload_n 1, 1) := by decide +kernel
theorem dX2_fitsSecond_1 : decode cX2_fitsSecond 1 = .ok (.iconst 4, 1) := by decide +kernel
theorem dX2_fitsSecond_2 : decode cX2_fitsSecond 2 = .ok (.if_icmp .eq 8, 3) := by decide +kernel
theorem dX2_fitsSecond_5 : decode cX2_fitsSecond 5 = .ok (.iload_n 1, 1) := by decide +kernel
