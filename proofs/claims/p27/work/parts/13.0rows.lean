theorem dX10_in_0 : decode cX10_in 0 = .ok (.lload_n 0, 1) := by decide +kernel
theorem dX10_in_1 : decode cX10_in 1 = .ok (.lload_n 2, 1) := by decide +kernel
theorem dX10_in_2 : decode cX10_in 2 = .ok (.lcmp, 1) := by decide +kernel
theorem dX10_in_3 : decode cX10_in 3 = .ok (.ifCond .lt 14, 3) := by decide +kernel
theorem dX10_in_6 : decode cX10_in 6 = .ok (.lload_n 0, 1) := by decide +kernel
theorem dX10_in_7 : decode cX10_in 7 = .ok (.lload 4, 2) := by decide +kernel
theorem dX10_in_9 : decode cX10_in 9 = .ok (.lcmp, 1) := by decide +kernel
theorem dX10_in_10 : decode cX10_in 10 = .ok (.ifCond .gt 7, 3) := by decide +kernel
theorem dX10_in_13 : decode cX10_in 13 = .ok (.iconst 1, 1) := by decide +kernel
theorem dX10_in_14 : decode cX10_in 14 = .ok (.goto 4, 3) := by decide +kernel
theorem dX10_in_17 : decode cX10_in 17 = .ok (.iconst 0, 1) := by decide +kernel
theorem dX10_in_18 : decode cX10_in 18 = .ok (.ireturn, 1) := by decide +kernel
theorem dX10_sizeOf_0 : decode cX10_sizeOf 0 = .ok (.iconst 0, 1) := by decide +kernel
theorem dX10_sizeOf_1 : decode cX10_sizeOf 1 = .ok (.istore_n 1, 1) := by decide +kernel
theorem dX10_sizeOf_2 : decode cX10_sizeOf 2 = .ok (.iload_n 0, 1) := by decide +kernel
theorem dX10_sizeOf_3 : decode cX10_sizeOf 3 = .ok (.istore_n 2, 1) := by decide +kernel
theorem dX10_sizeOf_4 : decode cX10_sizeOf 4 = .ok (.iload_n 2, 1) := by decide +kernel
theorem dX10_sizeOf_5 : decode cX10_sizeOf 5 = .ok (.ifCond .le 16, 3) := by decide +kernel
theorem dX10_sizeOf_8 : decode cX10_sizeOf 8 = .ok (.iload_n 1, 1) := by decide +kernel
theorem dX10_sizeOf_9 : decode cX10_sizeOf 9 = .ok (.iload_n 2, 1) := by decide +kernel
theorem dX10_sizeOf_10 : decode cX10_sizeOf 10 = .ok (.iconst 1, 1) := by decide +kernel
theorem dX10_sizeOf_11 : decode cX10_sizeOf 11 = .ok (.iand, 1) := by decide +kernel
theorem dX10_sizeOf_12 : decode cX10_sizeOf 12 = .ok (.iadd, 1) := by decide +kernel
theorem dX10_sizeOf_13 : decode cX10_sizeOf 13 = .ok (.istore_n 1, 1) := by decide +kernel
theorem dX10_sizeOf_14 : decode cX10_sizeOf 14 = .ok (.iload_n 2, 1) := by decide +kernel
theorem dX10_sizeOf_15 : decode cX10_sizeOf 15 = .ok (.iconst 1, 1) := by decide +kernel
theorem dX10_sizeOf_16 : decode cX10_sizeOf 16 = .ok (.ishr, 1) := by decide +kernel
theorem dX10_sizeOf_17 : decode cX10_sizeOf 17 = .ok (.istore_n 2, 1) := by decide +kernel
theorem dX10_sizeOf_18 : decode cX10_sizeOf 18 = .ok (.goto (-14), 3) := by decide +kernel
theorem dX10_sizeOf_21 : decode cX10_sizeOf 21 = .ok (.iload_n 1, 1) := by decide +kernel
theorem dX10_sizeOf_22 : decode cX10_sizeOf 22 = .ok (.ireturn, 1) := by decide +kernel
theorem dX10_init_0 : decode cX10_init 0 = .ok (.aload_n 0, 1) := by decide +kernel
theorem dX10_init_1 : decode cX10_init 1 = .ok (.invokespecial 1, 3) := by decide +kernel
theorem dX10_init_4 : decode cX10_init 4 = .ok (.aload_n 0, 1) := by decide +kernel
theorem dX10_init_5 : decode cX10_init 5 = .ok (.bipush 16, 2) := by decide +kernel
theorem dX10_init_7 : decode cX10_init 7 = .ok (.newarray .int, 2) := by decide +kernel
theorem dX10_init_9 : decode cX10_init 9 = .ok (.putfield 7, 3) := by decide +kernel
theorem dX10_init_12 : decode cX10_init 12 = .ok (.aload_n 0, 1) := by decide +kernel
theorem dX10_init_13 : decode cX10_init 13 = .ok (.bipush 40, 2) := by decide +kernel
theorem dX10_init_15 : decode cX10_init 15 = .ok (.newarray .int, 2) := by decide +kernel
theorem dX10_init_17 : decode cX10_init 17 = .ok (.putfield 13, 3) := by decide +kernel
theorem dX10_init_20 : decode cX10_init 20 = .ok (.aload_n 0, 1) := by decide +kernel
theorem dX10_init_21 : decode cX10_init 21 = .ok (.bipush 10, 2) := by decide +kernel
theorem dX10_init_23 : decode cX10_init 23 = .ok (.newarray .int, 2) := by decide +kernel
theorem dX10_init_25 : decode cX10_init 25 = .ok (.putfield 16, 3) := by decide +kernel
theorem dX10_init_28 : decode cX10_init 28 = .ok (.aload_n 0, 1) := by decide +kernel
theorem dX10_init_29 : decode cX10_init 29 = .ok (.sipush 297, 3) := by decide +kernel
theorem dX10_init_32 : decode cX10_init 32 = .ok (.newarray .long, 2) := by decide +kernel
theorem dX10_init_34 : decode cX10_init 34 = .ok (.putfield 19, 3) := by decide +kernel
theorem dX10_init_37 : decode cX10_init 37 = .ok (.aload_n 0, 1) := by decide +kernel
theorem dX10_init_38 : decode cX10_init 38 = .ok (.bipush 10, 2) := by decide +kernel
theorem dX10_init_40 : decode cX10_init 40 = .ok (.newarray .int, 2) := by decide +kernel
theorem dX10_init_42 : decode cX10_init 42 = .ok (.putfield 23, 3) := by decide +kernel
theorem dX10_init_45 : decode cX10_init 45 = .ok (.aload_n 0, 1) := by decide +kernel
theorem dX10_init_46 : decode cX10_init 46 = .ok (.sipush 1024, 3) := by decide +kernel
theorem dX10_init_49 : decode cX10_init 49 = .ok (.newarray .boolean, 2) := by decide +kernel
theorem dX10_init_51 : decode cX10_init 51 = .ok (.putfield 26, 3) := by decide +kernel
theorem dX10_init_54 : decode cX10_init 54 = .ok (.aload_n 0, 1) := by decide +kernel
theorem dX10_init_55 : decode cX10_init 55 = .ok (.bipush 10, 2) := by decide +kernel
theorem dX10_init_57 : decode cX10_init 57 = .ok (.newarray .int, 2) := by decide +kernel
theorem dX10_init_59 : decode cX10_init 59 = .ok (.putfield 30, 3) := by decide +kernel
theorem dX10_init_62 : decode cX10_init 62 = .ok (.aload_n 0, 1) := by decide +kernel
theorem dX10_init_63 : decode cX10_init 63 = .ok (.bipush 16, 2) := by decide +kernel
theorem dX10_init_65 : decode cX10_init 65 = .ok (.newarray .int, 2) := by decide +kernel
theorem dX10_init_67 : decode cX10_init 67 = .ok (.putfield 33, 3) := by decide +kernel
theorem dX10_init_70 : decode cX10_init 70 = .ok (.aload_n 0, 1) := by decide +kernel
theorem dX10_init_71 : decode cX10_init 71 = .ok (.ldc 36, 2) := by decide +kernel
theorem dX10_init_73 : decode cX10_init 73 = .ok (.newarray .boolean, 2) := by decide +kernel
theorem dX10_init_75 : decode cX10_init 75 = .ok (.putfield 37, 3) := by decide +kernel
theorem dX10_init_78 : decode cX10_init 78 = .ok (.aload_n 0, 1) := by decide +kernel
theorem dX10_init_79 : decode cX10_init 79 = .ok (.sipush 4096, 3) := by decide +kernel
theorem dX10_init_82 : decode cX10_init 82 = .ok (.newarray .int, 2) := by decide +kernel
theorem dX10_init_84 : decode cX10_init 84 = .ok (.putfield 40, 3) := by decide +kernel
theorem dX10_init_87 : decode cX10_init 87 = .ok (.aload_n 0, 1) := by decide +kernel
theorem dX10_init_88 : decode cX10_init 88 = .ok (.bipush 8, 2) := by decide +kernel
theorem dX10_init_90 : decode cX10_init 90 = .ok (.putfield 43, 3) := by decide +kernel
theorem dX10_init_93 : decode cX10_init 93 = .ok (.iconst 0, 1) := by decide +kernel
theorem dX10_init_94 : decode cX10_init 94 = .ok (.istore_n 1, 1) := by decide +kernel
theorem dX10_init_95 : decode cX10_init 95 = .ok (.iload_n 1, 1) := by decide +kernel
theorem dX10_init_96 : decode cX10_init 96 = .ok (.bipush 10, 2) := by decide +kernel
theorem dX10_init_98 : decode cX10_init 98 = .ok (.if_icmp .ge 16, 3) := by decide +kernel
theorem dX10_init_101 : decode cX10_init 101 = .ok (.aload_n 0, 1) := by decide +kernel
theorem dX10_init_102 : decode cX10_init 102 = .ok (.getfield 16, 3) := by decide +kernel
theorem dX10_init_105 : decode cX10_init 105 = .ok (.iload_n 1, 1) := by decide +kernel
theorem dX10_init_106 : decode cX10_init 106 = .ok (.iconst 1, 1) := by decide +kernel
theorem dX10_init_107 : decode cX10_init 107 = .ok (.iastore, 1) := by decide +kernel
theorem dX10_init_108 : decode cX10_init 108 = .ok (.iinc 1 1, 3) := by decide +kernel
theorem dX10_init_111 : decode cX10_init 111 = .ok (.goto (-16), 3) := by decide +kernel
theorem dX10_init_114 : decode cX10_init 114 = .ok (.aload_n 0, 1) := by decide +kernel
theorem dX10_init_115 : decode cX10_init 115 = .ok (.lconst 1, 1) := by decide +kernel
theorem dX10_init_116 : decode cX10_init 116 = .ok (.putfield 47, 3) := by decide +kernel
theorem dX10_init_119 : decode cX10_init 119 = .ok (.return_, 1) := by decide +kernel
theorem dX10_all_0 : decode cX10_all 0 = .ok (.iconst 1, 1) := by decide +kernel
theorem dX10_all_1 : decode cX10_all 1 = .ok (.aload_n 0, 1) := by decide +kernel
theorem dX10_all_2 : decode cX10_all 2 = .ok (.getfield 43, 3) := by decide +kernel
theorem dX10_all_5 : decode cX10_all 5 = .ok (.ishl, 1) := by decide +kernel
theorem dX10_all_6 : decode cX10_all 6 = .ok (.iconst 1, 1) := by decide +kernel
theorem dX10_all_7 : decode cX10_all 7 = .ok (.isub, 1) := by decide +kernel
theorem dX10_all_8 : decode cX10_all 8 = .ok (.ireturn, 1) := by decide +kernel
set_option maxRecDepth 20000 in
theorem ggX10_isElement_X10_in : GoodIn wsX10_isElement wsX10_in := sw_good (sw_cons (t1_ (al_ (t4_ h1_))) sw_nil) (by decide +kernel)
set_option maxRecDepth 20000 in
theorem gX10_isElement_X10_in : GoodIn wsX10_isElement (va_wsS RX10 51 yX10_in wsX10_in) := goodIn_app (sw_good (sw_cons (t1_ (al_ (t1_ h1_))) (sw_cons (t1_ (al_ (t1_ (t1_ h1_)))) (sw_cons (t1_ (al_ (t1_ (t1_ (t1_ h1_))))) sw_nil))) (by decide +kernel)) ggX10_isElement_X10_in
theorem dX10_isElement_0 : decode cX10_isElement 0 = .ok (.iload_n 1, 1) := by decide +kernel
theorem dX10_isElement_1 : decode cX10_isElement 1 = .ok (.i2l, 1) := by decide +kernel
theorem dX10_isElement_2 : decode cX10_isElement 2 = .ok (.lconst 0, 1) := by decide +kernel
theorem dX10_isElement_3 : decode cX10_isElement 3 = .ok (.aload_n 0, 1) := by decide +kernel
theorem dX10_isElement_4 : decode cX10_isElement 4 = .ok (.getfield 43, 3) := by decide +kernel
theorem dX10_isElement_7 : decode cX10_isElement 7 = .ok (.iconst 1, 1) := by decide +kernel
theorem dX10_isElement_8 : decode cX10_isElement 8 = .ok (.isub, 1) := by decide +kernel
theorem dX10_isElement_9 : decode cX10_isElement 9 = .ok (.i2l, 1) := by decide +kernel
theorem dX10_isElement_10 : decode cX10_isElement 10 = .ok (.invokestatic 51, 3) := by decide +kernel
theorem dX10_isElement_13 : decode cX10_isElement 13 = .ok (.ireturn, 1) := by decide +kernel
set_option maxRecDepth 20000 in
theorem ggX10_isPart_X10_all : GoodIn wsX10_isPart wsX10_all := sw_good (sw_cons (t1_ (al_ (t4_ h1_))) (sw_app (sw_cons (t1_ (al_ (t4_ (t1_ h1_)))) sw_nil) (fun _ h => (t1_ (ar_ h))))) (by decide +kernel)
set_option maxRecDepth 20000 in
theorem gX10_isPart_X10_all : GoodIn wsX10_isPart (wsV RX10 55 RX10 yX10_all wsX10_all) := goodIn_app (sw_good (sw_cons (t1_ (al_ h1_)) (sw_cons (t1_ (al_ (t1_ h1_))) (sw_cons (t1_ (al_ (t1_ (t1_ h1_)))) (sw_cons (t1_ (al_ (t1_ (t1_ (t1_ h1_))))) sw_nil)))) (by decide +kernel)) ggX10_isPart_X10_all
set_option maxRecDepth 20000 in
theorem ggX10_isPart_X10_in : GoodIn wsX10_isPart wsX10_in := sw_good (sw_cons (t1_ (al_ (t4_ (t4_ h1_)))) sw_nil) (by decide +kernel)
set_option maxRecDepth 20000 in
theorem gX10_isPart_X10_in : GoodIn wsX10_isPart (va_wsS RX10 51 yX10_in wsX10_in) := goodIn_app (sw_good (sw_cons (t1_ (al_ (t4_ (t1_ (t1_ h1_))))) (sw_cons (t1_ (al_ (t4_ (t1_ (t1_ (t1_ h1_)))))) (sw_cons (t1_ (al_ (t1_ (t1_ (t1_ h1_))))) sw_nil))) (by decide +kernel)) ggX10_isPart_X10_in
theorem dX10_isPart_0 : decode cX10_isPart 0 = .ok (.iload_n 1, 1) := by decide +kernel
theorem dX10_isPart_1 : decode cX10_isPart 1 = .ok (.i2l, 1) := by decide +kernel
theorem dX10_isPart_2 : decode cX10_isPart 2 = .ok (.lconst 0, 1) := by decide +kernel
theorem dX10_isPart_3 : decode cX10_isPart 3 = .ok (.aload_n 0, 1) := by decide +kernel
theorem dX10_isPart_4 : decode cX10_isPart 4 = .ok (.invokevirtual 55, 3) := by decide +kernel
theorem dX10_isPart_7 : decode cX10_isPart 7 = .ok (.i2l, 1) := by decide +kernel
theorem dX10_isPart_8 : decode cX10_isPart 8 = .ok (.invokestatic 51, 3) := by decide +kernel
theorem dX10_isPart_11 : decode cX10_isPart 11 = .ok (.ireturn, 1) := by decide +kernel
set_option maxRecDepth 20000 in
theorem ggX10_ground_X10_in : GoodIn wsX10_ground wsX10_in := sw_good (sw_cons (t1_ (al_ (t4_ (t1_ (t1_ (t1_ h1_)))))) sw_nil) (by decide +kernel)
set_option maxRecDepth 20000 in
theorem gX10_ground_X10_in : GoodIn wsX10_ground (va_wsS RX10 51 yX10_in wsX10_in) := goodIn_app (sw_good (sw_cons (t1_ (al_ (t4_ h1_))) (sw_cons (t1_ (al_ (t4_ (t1_ h1_)))) (sw_cons (t1_ (al_ (t4_ (t1_ (t1_ h1_))))) sw_nil))) (by decide +kernel)) ggX10_ground_X10_in
theorem dX10_ground_0 : decode cX10_ground 0 = .ok (.iload_n 1, 1) := by decide +kernel
theorem dX10_ground_1 : decode cX10_ground 1 = .ok (.i2l, 1) := by decide +kernel
theorem dX10_ground_2 : decode cX10_ground 2 = .ok (.lconst 1, 1) := by decide +kernel
theorem dX10_ground_3 : decode cX10_ground 3 = .ok (.ldc2_w 59, 3) := by decide +kernel
theorem dX10_ground_6 : decode cX10_ground 6 = .ok (.invokestatic 51, 3) := by decide +kernel
theorem dX10_ground_9 : decode cX10_ground 9 = .ok (.ifCond .ne 6, 3) := by decide +kernel
theorem dX10_ground_12 : decode cX10_ground 12 = .ok (.bipush (-2), 2) := by decide +kernel
theorem dX10_ground_14 : decode cX10_ground 14 = .ok (.ireturn, 1) := by decide +kernel
theorem dX10_ground_15 : decode cX10_ground 15 = .ok (.aload_n 0, 1) := by decide +kernel
theorem dX10_ground_16 : decode cX10_ground 16 = .ok (.iload_n 1, 1) := by decide +kernel
theorem dX10_ground_17 : decode cX10_ground 17 = .ok (.putfield 43, 3) := by decide +kernel
theorem dX10_ground_20 : decode cX10_ground 20 = .ok (.aload_n 0, 1) := by decide +kernel
theorem dX10_ground_21 : decode cX10_ground 21 = .ok (.iconst 0, 1) := by decide +kernel
theorem dX10_ground_22 : decode cX10_ground 22 = .ok (.putfield 61, 3) := by decide +kernel
theorem dX10_ground_25 : decode cX10_ground 25 = .ok (.aload_n 0, 1) := by decide +kernel
theorem dX10_ground_26 : decode cX10_ground 26 = .ok (.iconst 0, 1) := by decide +kernel
theorem dX10_ground_27 : decode cX10_ground 27 = .ok (.putfield 64, 3) := by decide +kernel
theorem dX10_ground_30 : decode cX10_ground 30 = .ok (.iconst 1, 1) := by decide +kernel
theorem dX10_ground_31 : decode cX10_ground 31 = .ok (.ireturn, 1) := by decide +kernel
set_option maxRecDepth 20000 in
theorem ggX10_set_X10_all : GoodIn wsX10_set wsX10_all := sw_good (sw_cons (t1_ (al_ (t4_ (t1_ (t1_ h1_))))) (sw_app (sw_cons (t1_ (al_ (t4_ (t1_ (t1_ (t1_ h1_)))))) sw_nil) (fun _ h => (t1_ (ar_ h))))) (by decide +kernel)
set_option maxRecDepth 20000 in
theorem gX10_set_X10_all : GoodIn wsX10_set (wsV RX10 55 RX10 yX10_all wsX10_all) := goodIn_app (sw_good (sw_cons (t1_ (al_ (t1_ (t1_ h1_)))) (sw_cons (t1_ (al_ (t1_ (t1_ (t1_ h1_))))) (sw_cons (t1_ (al_ (t4_ h1_))) (sw_cons (t1_ (al_ (t4_ (t1_ h1_)))) sw_nil)))) (by decide +kernel)) ggX10_set_X10_all
set_option maxRecDepth 20000 in
theorem ggX10_set_X10_in : GoodIn wsX10_set wsX10_in := sw_good (sw_cons (t1_ (al_ (t4_ (t4_ (t1_ (t1_ h1_)))))) sw_nil) (by decide +kernel)
set_option maxRecDepth 20000 in
theorem gX10_set_X10_in : GoodIn wsX10_set (va_wsS RX10 51 yX10_in wsX10_in) := goodIn_app (sw_good (sw_cons (t1_ (al_ (t4_ (t4_ h1_)))) (sw_cons (t1_ (al_ (t4_ (t4_ (t1_ h1_))))) (sw_cons (t1_ (al_ (t4_ (t1_ h1_)))) sw_nil))) (by decide +kernel)) ggX10_set_X10_in
theorem dX10_set_0 : decode cX10_set 0 = .ok (.iload_n 1, 1) := by decide +kernel
theorem dX10_set_1 : decode cX10_set 1 = .ok (.i2l, 1) := by decide +kernel
theorem dX10_set_2 : decode cX10_set 2 = .ok (.lconst 1, 1) := by decide +kernel
theorem dX10_set_3 : decode cX10_set 3 = .ok (.aload_n 0, 1) := by decide +kernel
theorem dX10_set_4 : decode cX10_set 4 = .ok (.invokevirtual 55, 3) := by decide +kernel
theorem dX10_set_7 : decode cX10_set 7 = .ok (.i2l, 1) := by decide +kernel
theorem dX10_set_8 : decode cX10_set 8 = .ok (.invokestatic 51, 3) := by decide +kernel
theorem dX10_set_11 : decode cX10_set 11 = .ok (.ifCond .ne 6, 3) := by decide +kernel
theorem dX10_set_14 : decode cX10_set 14 = .ok (.bipush (-2), 2) := by decide +kernel
theorem dX10_set_16 : decode cX10_set 16 = .ok (.ireturn, 1) := by decide +kernel
theorem dX10_set_17 : decode cX10_set 17 = .ok (.iconst 0, 1) := by decide +kernel
theorem dX10_set_18 : decode cX10_set 18 = .ok (.istore_n 2, 1) := by decide +kernel
theorem dX10_set_19 : decode cX10_set 19 = .ok (.iload_n 2, 1) := by decide +kernel
theorem dX10_set_20 : decode cX10_set 20 = .ok (.aload_n 0, 1) := by decide +kernel
theorem dX10_set_21 : decode cX10_set 21 = .ok (.getfield 61, 3) := by decide +kernel
theorem dX10_set_24 : decode cX10_set 24 = .ok (.if_icmp .ge 22, 3) := by decide +kernel
theorem dX10_set_27 : decode cX10_set 27 = .ok (.aload_n 0, 1) := by decide +kernel
theorem dX10_set_28 : decode cX10_set 28 = .ok (.getfield 7, 3) := by decide +kernel
theorem dX10_set_31 : decode cX10_set 31 = .ok (.iload_n 2, 1) := by decide +kernel
theorem dX10_set_32 : decode cX10_set 32 = .ok (.iaload, 1) := by decide +kernel
theorem dX10_set_33 : decode cX10_set 33 = .ok (.iload_n 1, 1) := by decide +kernel
theorem dX10_set_34 : decode cX10_set 34 = .ok (.if_icmp .ne 6, 3) := by decide +kernel
theorem dX10_set_37 : decode cX10_set 37 = .ok (.bipush (-2), 2) := by decide +kernel
theorem dX10_set_39 : decode cX10_set 39 = .ok (.ireturn, 1) := by decide +kernel
theorem dX10_set_40 : decode cX10_set 40 = .ok (.iinc 2 1, 3) := by decide +kernel
theorem dX10_set_43 : decode cX10_set 43 = .ok (.goto (-24), 3) := by decide +kernel
theorem dX10_set_46 : decode cX10_set 46 = .ok (.aload_n 0, 1) := by decide +kernel
theorem dX10_set_47 : decode cX10_set 47 = .ok (.getfield 61, 3) := by decide +kernel
theorem dX10_set_50 : decode cX10_set 50 = .ok (.bipush 16, 2) := by decide +kernel
theorem dX10_set_52 : decode cX10_set 52 = .ok (.if_icmp .ne 6, 3) := by decide +kernel
theorem dX10_set_55 : decode cX10_set 55 = .ok (.bipush (-4), 2) := by decide +kernel
theorem dX10_set_57 : decode cX10_set 57 = .ok (.ireturn, 1) := by decide +kernel
theorem dX10_set_58 : decode cX10_set 58 = .ok (.aload_n 0, 1) := by decide +kernel
theorem dX10_set_59 : decode cX10_set 59 = .ok (.getfield 7, 3) := by decide +kernel
theorem dX10_set_62 : decode cX10_set 62 = .ok (.aload_n 0, 1) := by decide +kernel
theorem dX10_set_63 : decode cX10_set 63 = .ok (.getfield 61, 3) := by decide +kernel
theorem dX10_set_66 : decode cX10_set 66 = .ok (.iload_n 1, 1) := by decide +kernel
theorem dX10_set_67 : decode cX10_set 67 = .ok (.iastore, 1) := by decide +kernel
theorem dX10_set_68 : decode cX10_set 68 = .ok (.aload_n 0, 1) := by decide +kernel
theorem dX10_set_69 : decode cX10_set 69 = .ok (.dup, 1) := by decide +kernel
theorem dX10_set_70 : decode cX10_set 70 = .ok (.getfield 61, 3) := by decide +kernel
theorem dX10_set_73 : decode cX10_set 73 = .ok (.iconst 1, 1) := by decide +kernel
theorem dX10_set_74 : decode cX10_set 74 = .ok (.iadd, 1) := by decide +kernel
theorem dX10_set_75 : decode cX10_set 75 = .ok (.putfield 61, 3) := by decide +kernel
theorem dX10_set_78 : decode cX10_set 78 = .ok (.aload_n 0, 1) := by decide +kernel
theorem dX10_set_79 : decode cX10_set 79 = .ok (.getfield 61, 3) := by decide +kernel
theorem dX10_set_82 : decode cX10_set 82 = .ok (.iconst 1, 1) := by decide +kernel
theorem dX10_set_83 : decode cX10_set 83 = .ok (.isub, 1) := by decide +kernel
theorem dX10_set_84 : decode cX10_set 84 = .ok (.ireturn, 1) := by decide +kernel
theorem dX10_drop_0 : decode cX10_drop 0 = .ok (.aload_n 0, 1) := by decide +kernel
theorem dX10_drop_1 : decode cX10_drop 1 = .ok (.getfield 61, 3) := by decide +kernel
theorem dX10_drop_4 : decode cX10_drop 4 = .ok (.ifCond .ne 6, 3) := by decide +kernel
theorem dX10_drop_7 : decode cX10_drop 7 = .ok (.bipush (-3), 2) := by decide +kernel
theorem dX10_drop_9 : decode cX10_drop 9 = .ok (.ireturn, 1) := by decide +kernel
theorem dX10_drop_10 : decode cX10_drop 10 = .ok (.aload_n 0, 1) := by decide +kernel
theorem dX10_drop_11 : decode cX10_drop 11 = .ok (.dup, 1) := by decide +kernel
theorem dX10_drop_12 : decode cX10_drop 12 = .ok (.getfield 61, 3) := by decide +kernel
theorem dX10_drop_15 : decode cX10_drop 15 = .ok (.iconst 1, 1) := by decide +kernel
theorem dX10_drop_16 : decode cX10_drop 16 = .ok (.isub, 1) := by decide +kernel
theorem dX10_drop_17 : decode cX10_drop 17 = .ok (.putfield 61, 3) := by decide +kernel
theorem dX10_drop_20 : decode cX10_drop 20 = .ok (.aload_n 0, 1) := by decide +kernel
theorem dX10_drop_21 : decode cX10_drop 21 = .ok (.getfield 7, 3) := by decide +kernel
theorem dX10_drop_24 : decode cX10_drop 24 = .ok (.aload_n 0, 1) := by decide +kernel
theorem dX10_drop_25 : decode cX10_drop 25 = .ok (.getfield 61, 3) := by decide +kernel
theorem dX10_drop_28 : decode cX10_drop 28 = .ok (.iaload, 1) := by decide +kernel
theorem dX10_drop_29 : decode cX10_drop 29 = .ok (.ireturn, 1) := by decide +kernel
set_option maxRecDepth 20000 in
theorem ggX10_cost_X10_isElement : GoodIn wsX10_cost wsX10_isElement := sw_good (sw_cons (t1_ (al_ (t4_ (t1_ (t1_ h1_))))) (sw_app (sw_cons (t1_ (al_ (t4_ (t1_ (t1_ (t1_ h1_)))))) (sw_cons (t1_ (al_ (t4_ (t4_ h1_)))) (sw_cons (t1_ (al_ (t4_ (t4_ (t1_ h1_))))) (sw_cons (t1_ (al_ (t4_ (t1_ h1_)))) (sw_cons (t1_ (al_ (t4_ (t4_ (t1_ (t1_ h1_)))))) sw_nil))))) (fun _ h => (t1_ (ar_ h))))) (by decide +kernel)
set_option maxRecDepth 20000 in
theorem gX10_cost_X10_isElement : GoodIn wsX10_cost (wsV RX10 67 RX10 yX10_isElement wsX10_isElement) := goodIn_app (sw_good (sw_cons (t1_ (al_ (t1_ (t1_ h1_)))) (sw_cons (t1_ (al_ (t1_ (t1_ (t1_ h1_))))) (sw_cons (t1_ (al_ (t4_ h1_))) (sw_cons (t1_ (al_ (t4_ (t1_ h1_)))) sw_nil)))) (by decide +kernel)) ggX10_cost_X10_isElement
set_option maxRecDepth 20000 in
theorem ggX10_cost_X10_in : GoodIn wsX10_cost wsX10_in := sw_good (sw_cons (t1_ (al_ (t4_ (t4_ (t1_ (t1_ h1_)))))) sw_nil) (by decide +kernel)
set_option maxRecDepth 20000 in
theorem gX10_cost_X10_in : GoodIn wsX10_cost (va_wsS RX10 51 yX10_in wsX10_in) := goodIn_app (sw_good (sw_cons (t1_ (al_ (t4_ (t4_ h1_)))) (sw_cons (t1_ (al_ (t4_ (t4_ (t1_ h1_))))) (sw_cons (t1_ (al_ (t4_ (t1_ h1_)))) sw_nil))) (by decide +kernel)) ggX10_cost_X10_in
theorem dX10_cost_0 : decode cX10_cost 0 = .ok (.aload_n 0, 1) := by decide +kernel
theorem dX10_cost_1 : decode cX10_cost 1 = .ok (.iload_n 1, 1) := by decide +kernel
theorem dX10_cost_2 : decode cX10_cost 2 = .ok (.invokevirtual 67, 3) := by decide +kernel
theorem dX10_cost_5 : decode cX10_cost 5 = .ok (.ifCond .eq 15, 3) := by decide +kernel
theorem dX10_cost_8 : decode cX10_cost 8 = .ok (.iload_n 2, 1) := by decide +kernel
theorem dX10_cost_9 : decode cX10_cost 9 = .ok (.i2l, 1) := by decide +kernel
theorem dX10_cost_10 : decode cX10_cost 10 = .ok (.lconst 0, 1) := by decide +kernel
theorem dX10_cost_11 : decode cX10_cost 11 = .ok (.ldc2_w 71, 3) := by decide +kernel
theorem dX10_cost_14 : decode cX10_cost 14 = .ok (.invokestatic 51, 3) := by decide +kernel
theorem dX10_cost_17 : decode cX10_cost 17 = .ok (.ifCond .ne 6, 3) := by decide +kernel
theorem dX10_cost_20 : decode cX10_cost 20 = .ok (.bipush (-2), 2) := by decide +kernel
theorem dX10_cost_22 : decode cX10_cost 22 = .ok (.ireturn, 1) := by decide +kernel
theorem dX10_cost_23 : decode cX10_cost 23 = .ok (.aload_n 0, 1) := by decide +kernel
theorem dX10_cost_24 : decode cX10_cost 24 = .ok (.getfield 16, 3) := by decide +kernel
theorem dX10_cost_27 : decode cX10_cost 27 = .ok (.iload_n 1, 1) := by decide +kernel
theorem dX10_cost_28 : decode cX10_cost 28 = .ok (.iaload, 1) := by decide +kernel
theorem dX10_cost_29 : decode cX10_cost 29 = .ok (.istore_n 3, 1) := by decide +kernel
theorem dX10_cost_30 : decode cX10_cost 30 = .ok (.aload_n 0, 1) := by decide +kernel
theorem dX10_cost_31 : decode cX10_cost 31 = .ok (.getfield 16, 3) := by decide +kernel
theorem dX10_cost_34 : decode cX10_cost 34 = .ok (.iload_n 1, 1) := by decide +kernel
theorem dX10_cost_35 : decode cX10_cost 35 = .ok (.iload_n 2, 1) := by decide +kernel
theorem dX10_cost_36 : decode cX10_cost 36 = .ok (.iastore, 1) := by decide +kernel
theorem dX10_cost_37 : decode cX10_cost 37 = .ok (.iload_n 3, 1) := by decide +kernel
theorem dX10_cost_38 : decode cX10_cost 38 = .ok (.ireturn, 1) := by decide +kernel
theorem dX10_meets_0 : decode cX10_meets 0 = .ok (.iconst 1, 1) := by decide +kernel
theorem dX10_meets_1 : decode cX10_meets 1 = .ok (.istore_n 2, 1) := by decide +kernel
theorem dX10_meets_2 : decode cX10_meets 2 = .ok (.iconst 0, 1) := by decide +kernel
theorem dX10_meets_3 : decode cX10_meets 3 = .ok (.istore_n 3, 1) := by decide +kernel
theorem dX10_meets_4 : decode cX10_meets 4 = .ok (.iload_n 3, 1) := by decide +kernel
theorem dX10_meets_5 : decode cX10_meets 5 = .ok (.aload_n 0, 1) := by decide +kernel
theorem dX10_meets_6 : decode cX10_meets 6 = .ok (.getfield 61, 3) := by decide +kernel
theorem dX10_meets_9 : decode cX10_meets 9 = .ok (.if_icmp .ge 30, 3) := by decide +kernel
theorem dX10_meets_12 : decode cX10_meets 12 = .ok (.iload_n 2, 1) := by decide +kernel
theorem dX10_meets_13 : decode cX10_meets 13 = .ok (.ifCond .eq 26, 3) := by decide +kernel
theorem dX10_meets_16 : decode cX10_meets 16 = .ok (.aload_n 0, 1) := by decide +kernel
theorem dX10_meets_17 : decode cX10_meets 17 = .ok (.getfield 7, 3) := by decide +kernel
theorem dX10_meets_20 : decode cX10_meets 20 = .ok (.iload_n 3, 1) := by decide +kernel
theorem dX10_meets_21 : decode cX10_meets 21 = .ok (.iaload, 1) := by decide +kernel
theorem dX10_meets_22 : decode cX10_meets 22 = .ok (.iload_n 1, 1) := by decide +kernel
theorem dX10_meets_23 : decode cX10_meets 23 = .ok (.iand, 1) := by decide +kernel
theorem dX10_meets_24 : decode cX10_meets 24 = .ok (.ifCond .eq 7, 3) := by decide +kernel
theorem dX10_meets_27 : decode cX10_meets 27 = .ok (.iconst 1, 1) := by decide +kernel
theorem dX10_meets_28 : decode cX10_meets 28 = .ok (.goto 4, 3) := by decide +kernel
theorem dX10_meets_31 : decode cX10_meets 31 = .ok (.iconst 0, 1) := by decide +kernel
theorem dX10_meets_32 : decode cX10_meets 32 = .ok (.istore_n 2, 1) := by decide +kernel
theorem dX10_meets_33 : decode cX10_meets 33 = .ok (.iinc 3 1, 3) := by decide +kernel
theorem dX10_meets_36 : decode cX10_meets 36 = .ok (.goto (-32), 3) := by decide +kernel
theorem dX10_meets_39 : decode cX10_meets 39 = .ok (.iload_n 2, 1) := by decide +kernel
theorem dX10_meets_40 : decode cX10_meets 40 = .ok (.ireturn, 1) := by decide +kernel
set_option maxRecDepth 20000 in
theorem ggX10_isLeast_X10_meets : GoodIn wsX10_isLeast wsX10_meets := sw_good (sw_cons (t1_ (al_ (t4_ (t1_ h1_)))) (sw_app (sw_cons (t1_ (al_ (t4_ (t1_ (t1_ h1_))))) (sw_cons (t1_ (al_ (t4_ (t1_ (t1_ (t1_ h1_)))))) sw_nil)) (fun _ h => (t1_ (ar_ h))))) (by decide +kernel)
set_option maxRecDepth 20000 in
theorem gX10_isLeast_X10_meets : GoodIn wsX10_isLeast (wsV RX10 73 RX10 yX10_meets wsX10_meets) := goodIn_app (sw_good (sw_cons (t1_ (al_ (t1_ h1_))) (sw_cons (t1_ (al_ (t1_ (t1_ h1_)))) (sw_cons (t1_ (al_ (t1_ (t1_ (t1_ h1_))))) (sw_cons (t1_ (al_ (t4_ h1_))) sw_nil)))) (by decide +kernel)) ggX10_isLeast_X10_meets
theorem dX10_isLeast_0 : decode cX10_isLeast 0 = .ok (.aload_n 0, 1) := by decide +kernel
theorem dX10_isLeast_1 : decode cX10_isLeast 1 = .ok (.iload_n 1, 1) := by decide +kernel
theorem dX10_isLeast_2 : decode cX10_isLeast 2 = .ok (.invokevirtual 73, 3) := by decide +kernel
theorem dX10_isLeast_5 : decode cX10_isLeast 5 = .ok (.istore_n 2, 1) := by decide +kernel
theorem dX10_isLeast_6 : decode cX10_isLeast 6 = .ok (.iconst 0, 1) := by decide +kernel
theorem dX10_isLeast_7 : decode cX10_isLeast 7 = .ok (.istore_n 3, 1) := by decide +kernel
theorem dX10_isLeast_8 : decode cX10_isLeast 8 = .ok (.iload_n 3, 1) := by decide +kernel
theorem dX10_isLeast_9 : decode cX10_isLeast 9 = .ok (.aload_n 0, 1) := by decide +kernel
theorem dX10_isLeast_10 : decode cX10_isLeast 10 = .ok (.getfield 43, 3) := by decide +kernel
theorem dX10_isLeast_13 : decode cX10_isLeast 13 = .ok (.if_icmp .ge 39, 3) := by decide +kernel
theorem dX10_isLeast_16 : decode cX10_isLeast 16 = .ok (.iload_n 2, 1) := by decide +kernel
theorem dX10_isLeast_17 : decode cX10_isLeast 17 = .ok (.ifCond .eq 35, 3) := by decide +kernel
theorem dX10_isLeast_20 : decode cX10_isLeast 20 = .ok (.iload_n 1, 1) := by decide +kernel
theorem dX10_isLeast_21 : decode cX10_isLeast 21 = .ok (.iload_n 3, 1) := by decide +kernel
theorem dX10_isLeast_22 : decode cX10_isLeast 22 = .ok (.ishr, 1) := by decide +kernel
theorem dX10_isLeast_23 : decode cX10_isLeast 23 = .ok (.iconst 1, 1) := by decide +kernel
theorem dX10_isLeast_24 : decode cX10_isLeast 24 = .ok (.iand, 1) := by decide +kernel
theorem dX10_isLeast_25 : decode cX10_isLeast 25 = .ok (.ifCond .eq 15, 3) := by decide +kernel
theorem dX10_isLeast_28 : decode cX10_isLeast 28 = .ok (.aload_n 0, 1) := by decide +kernel
theorem dX10_isLeast_29 : decode cX10_isLeast 29 = .ok (.iload_n 1, 1) := by decide +kernel
theorem dX10_isLeast_30 : decode cX10_isLeast 30 = .ok (.iconst 1, 1) := by decide +kernel
theorem dX10_isLeast_31 : decode cX10_isLeast 31 = .ok (.iload_n 3, 1) := by decide +kernel
theorem dX10_isLeast_32 : decode cX10_isLeast 32 = .ok (.ishl, 1) := by decide +kernel
theorem dX10_isLeast_33 : decode cX10_isLeast 33 = .ok (.ixor, 1) := by decide +kernel
theorem dX10_isLeast_34 : decode cX10_isLeast 34 = .ok (.invokevirtual 73, 3) := by decide +kernel
theorem dX10_isLeast_37 : decode cX10_isLeast 37 = .ok (.ifCond .ne 7, 3) := by decide +kernel
theorem dX10_isLeast_40 : decode cX10_isLeast 40 = .ok (.iconst 1, 1) := by decide +kernel
theorem dX10_isLeast_41 : decode cX10_isLeast 41 = .ok (.goto 4, 3) := by decide +kernel
theorem dX10_isLeast_44 : decode cX10_isLeast 44 = .ok (.iconst 0, 1) := by decide +kernel
theorem dX10_isLeast_45 : decode cX10_isLeast 45 = .ok (.istore_n 2, 1) := by decide +kernel
theorem dX10_isLeast_46 : decode cX10_isLeast 46 = .ok (.iinc 3 1, 3) := by decide +kernel
theorem dX10_isLeast_49 : decode cX10_isLeast 49 = .ok (.goto (-41), 3) := by decide +kernel
theorem dX10_isLeast_52 : decode cX10_isLeast 52 = .ok (.iload_n 2, 1) := by decide +kernel
theorem dX10_isLeast_53 : decode cX10_isLeast 53 = .ok (.ireturn, 1) := by decide +kernel
set_option maxRecDepth 20000 in
theorem ggX10_many_X10_all : GoodIn wsX10_many wsX10_all := sw_good (sw_cons (t1_ (al_ (t4_ h1_))) (sw_app (sw_cons (t1_ (al_ (t4_ (t1_ h1_)))) sw_nil) (fun _ h => (t1_ (ar_ h))))) (by decide +kernel)
set_option maxRecDepth 20000 in
theorem gX10_many_X10_all : GoodIn wsX10_many (wsV RX10 55 RX10 yX10_all wsX10_all) := goodIn_app (sw_good (sw_cons (t1_ (al_ h1_)) (sw_cons (t1_ (al_ (t1_ h1_))) (sw_cons (t1_ (al_ (t1_ (t1_ h1_)))) (sw_cons (t1_ (al_ (t1_ (t1_ (t1_ h1_))))) sw_nil)))) (by decide +kernel)) ggX10_many_X10_all
set_option maxRecDepth 20000 in
theorem ggX10_many_X10_isLeast : GoodIn wsX10_many wsX10_isLeast := sw_good (sw_cons (t1_ (al_ (t4_ (t4_ (t1_ h1_))))) (sw_app (sw_cons (t1_ (al_ (t4_ (t1_ h1_)))) (sw_cons (t1_ (al_ (t4_ (t4_ (t1_ (t1_ h1_)))))) (sw_cons (t1_ (al_ (t4_ (t4_ (t1_ (t1_ (t1_ h1_))))))) (sw_cons (t1_ (al_ (t4_ (t4_ (t4_ h1_))))) (sw_cons (t1_ (al_ (t1_ (t1_ (t1_ h1_))))) (sw_cons (t1_ (al_ (t4_ (t4_ (t4_ (t1_ h1_)))))) (sw_cons (t1_ (al_ (t4_ (t4_ (t4_ (t1_ (t1_ h1_))))))) (sw_cons (t1_ (al_ (t4_ (t4_ (t4_ (t1_ (t1_ (t1_ h1_)))))))) sw_nil)))))))) (fun _ h => (t1_ (ar_ h))))) (by decide +kernel)
set_option maxRecDepth 20000 in
theorem gX10_many_X10_isLeast : GoodIn wsX10_many (wsV RX10 76 RX10 yX10_isLeast wsX10_isLeast) := goodIn_app (sw_good (sw_cons (t1_ (al_ (t4_ (t1_ (t1_ h1_))))) (sw_cons (t1_ (al_ (t4_ (t1_ (t1_ (t1_ h1_)))))) (sw_cons (t1_ (al_ (t4_ (t4_ h1_)))) (sw_cons (t1_ (al_ (t1_ (t1_ (t1_ h1_))))) sw_nil)))) (by decide +kernel)) ggX10_many_X10_isLeast
theorem dX10_many_0 : decode cX10_many 0 = .ok (.iconst 0, 1) := by decide +kernel
theorem dX10_many_1 : decode cX10_many 1 = .ok (.istore_n 1, 1) := by decide +kernel
theorem dX10_many_2 : decode cX10_many 2 = .ok (.iconst 0, 1) := by decide +kernel
theorem dX10_many_3 : decode cX10_many 3 = .ok (.istore_n 2, 1) := by decide +kernel
theorem dX10_many_4 : decode cX10_many 4 = .ok (.iload_n 2, 1) := by decide +kernel
theorem dX10_many_5 : decode cX10_many 5 = .ok (.aload_n 0, 1) := by decide +kernel
theorem dX10_many_6 : decode cX10_many 6 = .ok (.invokevirtual 55, 3) := by decide +kernel
theorem dX10_many_9 : decode cX10_many 9 = .ok (.if_icmp .gt 25, 3) := by decide +kernel
theorem dX10_many_12 : decode cX10_many 12 = .ok (.iload_n 1, 1) := by decide +kernel
theorem dX10_many_13 : decode cX10_many 13 = .ok (.aload_n 0, 1) := by decide +kernel
theorem dX10_many_14 : decode cX10_many 14 = .ok (.iload_n 2, 1) := by decide +kernel
theorem dX10_many_15 : decode cX10_many 15 = .ok (.invokevirtual 76, 3) := by decide +kernel
theorem dX10_many_18 : decode cX10_many 18 = .ok (.ifCond .eq 7, 3) := by decide +kernel
theorem dX10_many_21 : decode cX10_many 21 = .ok (.iconst 1, 1) := by decide +kernel
theorem dX10_many_22 : decode cX10_many 22 = .ok (.goto 4, 3) := by decide +kernel
theorem dX10_many_25 : decode cX10_many 25 = .ok (.iconst 0, 1) := by decide +kernel
theorem dX10_many_26 : decode cX10_many 26 = .ok (.iadd, 1) := by decide +kernel
theorem dX10_many_27 : decode cX10_many 27 = .ok (.istore_n 1, 1) := by decide +kernel
theorem dX10_many_28 : decode cX10_many 28 = .ok (.iinc 2 1, 3) := by decide +kernel
theorem dX10_many_31 : decode cX10_many 31 = .ok (.goto (-27), 3) := by decide +kernel
theorem dX10_many_34 : decode cX10_many 34 = .ok (.iload_n 1, 1) := by decide +kernel
theorem dX10_many_35 : decode cX10_many 35 = .ok (.ireturn, 1) := by decide +kernel
set_option maxRecDepth 20000 in
theorem ggX10_meeters_X10_many : GoodIn wsX10_meeters wsX10_many := sw_good (sw_cons (t1_ (al_ (t4_ h1_))) (sw_app (sw_cons (t1_ (al_ (t4_ (t1_ h1_)))) (sw_cons (t1_ (al_ (t4_ (t1_ (t1_ h1_))))) (sw_cons (t1_ (al_ (t4_ (t1_ (t1_ (t1_ h1_)))))) (sw_cons (t1_ (al_ (t1_ (t1_ (t1_ h1_))))) (sw_cons (t1_ (al_ (t4_ (t4_ h1_)))) (sw_cons (t1_ (al_ (t4_ (t4_ (t1_ h1_))))) (sw_cons (t1_ (al_ (t4_ (t4_ (t1_ (t1_ h1_)))))) (sw_cons (t1_ (al_ (t4_ (t4_ (t1_ (t1_ (t1_ h1_))))))) (sw_cons (t1_ (al_ (t4_ (t4_ (t4_ h1_))))) (sw_cons (t1_ (al_ (t4_ (t4_ (t4_ (t1_ h1_)))))) (sw_cons (t1_ (al_ (t4_ (t4_ (t4_ (t1_ (t1_ h1_))))))) (sw_cons (t1_ (al_ (t4_ (t4_ (t4_ (t1_ (t1_ (t1_ h1_)))))))) (sw_cons (t1_ (al_ (t16_ h1_))) (sw_cons (t1_ (al_ (t16_ (t1_ h1_)))) (sw_cons (t1_ (al_ (t16_ (t1_ (t1_ h1_))))) (sw_cons (t1_ (al_ (t16_ (t1_ (t1_ (t1_ h1_)))))) sw_nil)))))))))))))))) (fun _ h => (t1_ (ar_ h))))) (by decide +kernel)
set_option maxRecDepth 20000 in
theorem gX10_meeters_X10_many : GoodIn wsX10_meeters (wsV RX10 79 RX10 yX10_many wsX10_many) := goodIn_app (sw_good (sw_cons (t1_ (al_ h1_)) (sw_cons (t1_ (al_ (t1_ h1_))) (sw_cons (t1_ (al_ (t1_ (t1_ h1_)))) (sw_cons (t1_ (al_ (t1_ (t1_ (t1_ h1_))))) sw_nil)))) (by decide +kernel)) ggX10_meeters_X10_many
theorem dX10_meeters_0 : decode cX10_meeters 0 = .ok (.aload_n 0, 1) := by decide +kernel
theorem dX10_meeters_1 : decode cX10_meeters 1 = .ok (.invokevirtual 79, 3) := by decide +kernel
theorem dX10_meeters_4 : decode cX10_meeters 4 = .ok (.ireturn, 1) := by decide +kernel
set_option maxRecDepth 20000 in
theorem ggX10_meeter_X10_all : GoodIn wsX10_meeter wsX10_all := sw_good (sw_cons (t1_ (al_ (t4_ h1_))) (sw_app (sw_cons (t1_ (al_ (t4_ (t1_ h1_)))) sw_nil) (fun _ h => (t1_ (ar_ h))))) (by decide +kernel)
set_option maxRecDepth 20000 in
theorem gX10_meeter_X10_all : GoodIn wsX10_meeter (wsV RX10 55 RX10 yX10_all wsX10_all) := goodIn_app (sw_good (sw_cons (t1_ (al_ h1_)) (sw_cons (t1_ (al_ (t1_ h1_))) (sw_cons (t1_ (al_ (t1_ (t1_ h1_)))) (sw_cons (t1_ (al_ (t1_ (t1_ (t1_ h1_))))) sw_nil)))) (by decide +kernel)) ggX10_meeter_X10_all
set_option maxRecDepth 20000 in
theorem ggX10_meeter_X10_isLeast : GoodIn wsX10_meeter wsX10_isLeast := sw_good (sw_cons (t1_ (al_ (t4_ (t4_ (t1_ h1_))))) (sw_app (sw_cons (t1_ (al_ (t4_ (t1_ h1_)))) (sw_cons (t1_ (al_ (t4_ (t4_ (t1_ (t1_ h1_)))))) (sw_cons (t1_ (al_ (t4_ (t4_ (t1_ (t1_ (t1_ h1_))))))) (sw_cons (t1_ (al_ (t4_ (t4_ (t4_ h1_))))) (sw_cons (t1_ (al_ (t1_ (t1_ (t1_ h1_))))) (sw_cons (t1_ (al_ (t4_ (t4_ (t4_ (t1_ h1_)))))) (sw_cons (t1_ (al_ (t4_ (t4_ (t4_ (t1_ (t1_ h1_))))))) (sw_cons (t1_ (al_ (t4_ (t4_ (t4_ (t1_ (t1_ (t1_ h1_)))))))) sw_nil)))))))) (fun _ h => (t1_ (ar_ h))))) (by decide +kernel)
set_option maxRecDepth 20000 in
theorem gX10_meeter_X10_isLeast : GoodIn wsX10_meeter (wsV RX10 76 RX10 yX10_isLeast wsX10_isLeast) := goodIn_app (sw_good (sw_cons (t1_ (al_ (t4_ (t1_ (t1_ h1_))))) (sw_cons (t1_ (al_ (t4_ (t1_ (t1_ (t1_ h1_)))))) (sw_cons (t1_ (al_ (t4_ (t4_ h1_)))) (sw_cons (t1_ (al_ (t1_ (t1_ (t1_ h1_))))) sw_nil)))) (by decide +kernel)) ggX10_meeter_X10_isLeast
theorem dX10_meeter_0 : decode cX10_meeter 0 = .ok (.iload_n 1, 1) := by decide +kernel
theorem dX10_meeter_1 : decode cX10_meeter 1 = .ok (.ifCond .ge 6, 3) := by decide +kernel
theorem dX10_meeter_4 : decode cX10_meeter 4 = .ok (.bipush (-2), 2) := by decide +kernel
theorem dX10_meeter_6 : decode cX10_meeter 6 = .ok (.ireturn, 1) := by decide +kernel
theorem dX10_meeter_7 : decode cX10_meeter 7 = .ok (.iconst 0, 1) := by decide +kernel
theorem dX10_meeter_8 : decode cX10_meeter 8 = .ok (.istore_n 2, 1) := by decide +kernel
theorem dX10_meeter_9 : decode cX10_meeter 9 = .ok (.iconst 0, 1) := by decide +kernel
theorem dX10_meeter_10 : decode cX10_meeter 10 = .ok (.istore_n 3, 1) := by decide +kernel
theorem dX10_meeter_11 : decode cX10_meeter 11 = .ok (.iload_n 3, 1) := by decide +kernel
theorem dX10_meeter_12 : decode cX10_meeter 12 = .ok (.aload_n 0, 1) := by decide +kernel
theorem dX10_meeter_13 : decode cX10_meeter 13 = .ok (.invokevirtual 55, 3) := by decide +kernel
theorem dX10_meeter_16 : decode cX10_meeter 16 = .ok (.if_icmp .gt 27, 3) := by decide +kernel
theorem dX10_meeter_19 : decode cX10_meeter 19 = .ok (.aload_n 0, 1) := by decide +kernel
theorem dX10_meeter_20 : decode cX10_meeter 20 = .ok (.iload_n 3, 1) := by decide +kernel
theorem dX10_meeter_21 : decode cX10_meeter 21 = .ok (.invokevirtual 76, 3) := by decide +kernel
theorem dX10_meeter_24 : decode cX10_meeter 24 = .ok (.ifCond .eq 13, 3) := by decide +kernel
theorem dX10_meeter_27 : decode cX10_meeter 27 = .ok (.iload_n 2, 1) := by decide +kernel
theorem dX10_meeter_28 : decode cX10_meeter 28 = .ok (.iload_n 1, 1) := by decide +kernel
theorem dX10_meeter_29 : decode cX10_meeter 29 = .ok (.if_icmp .ne 5, 3) := by decide +kernel
theorem dX10_meeter_32 : decode cX10_meeter 32 = .ok (.iload_n 3, 1) := by decide +kernel
theorem dX10_meeter_33 : decode cX10_meeter 33 = .ok (.ireturn, 1) := by decide +kernel
theorem dX10_meeter_34 : decode cX10_meeter 34 = .ok (.iinc 2 1, 3) := by decide +kernel
theorem dX10_meeter_37 : decode cX10_meeter 37 = .ok (.iinc 3 1, 3) := by decide +kernel
theorem dX10_meeter_40 : decode cX10_meeter 40 = .ok (.goto (-29), 3) := by decide +kernel
theorem dX10_meeter_43 : decode cX10_meeter 43 = .ok (.iconst (-1), 1) := by decide +kernel
theorem dX10_meeter_44 : decode cX10_meeter 44 = .ok (.ireturn, 1) := by decide +kernel
theorem dX10_costOf_0 : decode cX10_costOf 0 = .ok (.iconst 0, 1) := by decide +kernel
theorem dX10_costOf_1 : decode cX10_costOf 1 = .ok (.istore_n 2, 1) := by decide +kernel
theorem dX10_costOf_2 : decode cX10_costOf 2 = .ok (.iconst 0, 1) := by decide +kernel
theorem dX10_costOf_3 : decode cX10_costOf 3 = .ok (.istore_n 3, 1) := by decide +kernel
theorem dX10_costOf_4 : decode cX10_costOf 4 = .ok (.iload_n 3, 1) := by decide +kernel
theorem dX10_costOf_5 : decode cX10_costOf 5 = .ok (.aload_n 0, 1) := by decide +kernel
theorem dX10_costOf_6 : decode cX10_costOf 6 = .ok (.getfield 43, 3) := by decide +kernel
theorem dX10_costOf_9 : decode cX10_costOf 9 = .ok (.if_icmp .ge 31, 3) := by decide +kernel
theorem dX10_costOf_12 : decode cX10_costOf 12 = .ok (.iload_n 2, 1) := by decide +kernel
theorem dX10_costOf_13 : decode cX10_costOf 13 = .ok (.iload_n 1, 1) := by decide +kernel
theorem dX10_costOf_14 : decode cX10_costOf 14 = .ok (.iload_n 3, 1) := by decide +kernel
theorem dX10_costOf_15 : decode cX10_costOf 15 = .ok (.ishr, 1) := by decide +kernel
theorem dX10_costOf_16 : decode cX10_costOf 16 = .ok (.iconst 1, 1) := by decide +kernel
theorem dX10_costOf_17 : decode cX10_costOf 17 = .ok (.iand, 1) := by decide +kernel
theorem dX10_costOf_18 : decode cX10_costOf 18 = .ok (.iconst 1, 1) := by decide +kernel
theorem dX10_costOf_19 : decode cX10_costOf 19 = .ok (.if_icmp .ne 12, 3) := by decide +kernel
theorem dX10_costOf_22 : decode cX10_costOf 22 = .ok (.aload_n 0, 1) := by decide +kernel
theorem dX10_costOf_23 : decode cX10_costOf 23 = .ok (.getfield 16, 3) := by decide +kernel
theorem dX10_costOf_26 : decode cX10_costOf 26 = .ok (.iload_n 3, 1) := by decide +kernel
theorem dX10_costOf_27 : decode cX10_costOf 27 = .ok (.iaload, 1) := by decide +kernel
theorem dX10_costOf_28 : decode cX10_costOf 28 = .ok (.goto 4, 3) := by decide +kernel
theorem dX10_costOf_31 : decode cX10_costOf 31 = .ok (.iconst 0, 1) := by decide +kernel
theorem dX10_costOf_32 : decode cX10_costOf 32 = .ok (.iadd, 1) := by decide +kernel
theorem dX10_costOf_33 : decode cX10_costOf 33 = .ok (.istore_n 2, 1) := by decide +kernel
theorem dX10_costOf_34 : decode cX10_costOf 34 = .ok (.iinc 3 1, 3) := by decide +kernel
theorem dX10_costOf_37 : decode cX10_costOf 37 = .ok (.goto (-33), 3) := by decide +kernel
theorem dX10_costOf_40 : decode cX10_costOf 40 = .ok (.iload_n 2, 1) := by decide +kernel
theorem dX10_costOf_41 : decode cX10_costOf 41 = .ok (.ireturn, 1) := by decide +kernel
set_option maxRecDepth 20000 in
theorem ggX10_rank_X10_costOf : GoodIn wsX10_rank wsX10_costOf := sw_good (sw_cons (t1_ (al_ (t4_ h1_))) (sw_app (sw_cons (t1_ (al_ (t4_ (t1_ h1_)))) (sw_cons (t1_ (al_ (t4_ (t1_ (t1_ h1_))))) sw_nil)) (fun _ h => (t1_ (ar_ h))))) (by decide +kernel)
set_option maxRecDepth 20000 in
theorem gX10_rank_X10_costOf : GoodIn wsX10_rank (wsV RX10 82 RX10 yX10_costOf wsX10_costOf) := goodIn_app (sw_good (sw_cons (t1_ (al_ h1_)) (sw_cons (t1_ (al_ (t1_ h1_))) (sw_cons (t1_ (al_ (t1_ (t1_ h1_)))) (sw_cons (t1_ (al_ (t1_ (t1_ (t1_ h1_))))) sw_nil)))) (by decide +kernel)) ggX10_rank_X10_costOf
set_option maxRecDepth 20000 in
theorem ggX10_rank_X10_sizeOf : GoodIn wsX10_rank wsX10_sizeOf := sw_good (sw_cons (t1_ (al_ (t4_ (t4_ (t1_ h1_))))) sw_nil) (by decide +kernel)
set_option maxRecDepth 20000 in
theorem gX10_rank_X10_sizeOf : GoodIn wsX10_rank (va_wsS RX10 86 yX10_sizeOf wsX10_sizeOf) := goodIn_app (sw_good (sw_cons (t1_ (al_ (t4_ (t1_ (t1_ (t1_ h1_)))))) (sw_cons (t1_ (al_ (t4_ (t4_ h1_)))) (sw_cons (t1_ (al_ (t1_ (t1_ (t1_ h1_))))) sw_nil))) (by decide +kernel)) ggX10_rank_X10_sizeOf
theorem dX10_rank_0 : decode cX10_rank 0 = .ok (.iload_n 2, 1) := by decide +kernel
theorem dX10_rank_1 : decode cX10_rank 1 = .ok (.iconst 1, 1) := by decide +kernel
theorem dX10_rank_2 : decode cX10_rank 2 = .ok (.if_icmp .ne 14, 3) := by decide +kernel
theorem dX10_rank_5 : decode cX10_rank 5 = .ok (.bipush 100, 2) := by decide +kernel
theorem dX10_rank_7 : decode cX10_rank 7 = .ok (.aload_n 0, 1) := by decide +kernel
theorem dX10_rank_8 : decode cX10_rank 8 = .ok (.iload_n 1, 1) := by decide +kernel
theorem dX10_rank_9 : decode cX10_rank 9 = .ok (.invokevirtual 82, 3) := by decide +kernel
theorem dX10_rank_12 : decode cX10_rank 12 = .ok (.imul, 1) := by decide +kernel
theorem dX10_rank_13 : decode cX10_rank 13 = .ok (.goto 4, 3) := by decide +kernel
theorem dX10_rank_16 : decode cX10_rank 16 = .ok (.iconst 0, 1) := by decide +kernel
theorem dX10_rank_17 : decode cX10_rank 17 = .ok (.iload_n 1, 1) := by decide +kernel
theorem dX10_rank_18 : decode cX10_rank 18 = .ok (.invokestatic 86, 3) := by decide +kernel
theorem dX10_rank_21 : decode cX10_rank 21 = .ok (.iadd, 1) := by decide +kernel
theorem dX10_rank_22 : decode cX10_rank 22 = .ok (.ireturn, 1) := by decide +kernel
set_option maxRecDepth 20000 in
theorem ggX10_bestOf_X10_all : GoodIn wsX10_bestOf wsX10_all := sw_good (sw_cons (t1_ (al_ (t4_ h1_))) (sw_app (sw_cons (t1_ (al_ (t4_ (t1_ h1_)))) sw_nil) (fun _ h => (t1_ (ar_ h))))) (by decide +kernel)
set_option maxRecDepth 20000 in
theorem gX10_bestOf_X10_all : GoodIn wsX10_bestOf (wsV RX10 55 RX10 yX10_all wsX10_all) := goodIn_app (sw_good (sw_cons (t1_ (al_ h1_)) (sw_cons (t1_ (al_ (t1_ h1_))) (sw_cons (t1_ (al_ (t1_ (t1_ h1_)))) (sw_cons (t1_ (al_ (t1_ (t1_ (t1_ h1_))))) sw_nil)))) (by decide +kernel)) ggX10_bestOf_X10_all
set_option maxRecDepth 20000 in
theorem ggX10_bestOf_X10_meets : GoodIn wsX10_bestOf wsX10_meets := sw_good (sw_cons (t1_ (al_ (t4_ (t4_ (t1_ h1_))))) (sw_app (sw_cons (t1_ (al_ (t4_ (t4_ (t1_ (t1_ h1_)))))) (sw_cons (t1_ (al_ (t4_ (t4_ (t1_ (t1_ (t1_ h1_))))))) sw_nil)) (fun _ h => (t1_ (ar_ h))))) (by decide +kernel)
set_option maxRecDepth 20000 in
theorem gX10_bestOf_X10_meets : GoodIn wsX10_bestOf (wsV RX10 73 RX10 yX10_meets wsX10_meets) := goodIn_app (sw_good (sw_cons (t1_ (al_ (t4_ (t1_ (t1_ h1_))))) (sw_cons (t1_ (al_ (t4_ (t1_ (t1_ (t1_ h1_)))))) (sw_cons (t1_ (al_ (t4_ (t4_ h1_)))) (sw_cons (t1_ (al_ (t1_ (t1_ (t1_ h1_))))) sw_nil)))) (by decide +kernel)) ggX10_bestOf_X10_meets
set_option maxRecDepth 20000 in
theorem ggX10_bestOf_X10_rank : GoodIn wsX10_bestOf wsX10_rank := sw_good (sw_cons (t1_ (al_ (t4_ (t4_ (t4_ (t1_ (t1_ (t1_ h1_)))))))) (sw_app (sw_cons (t1_ (al_ (t16_ h1_))) (sw_cons (t1_ (al_ (t16_ (t1_ h1_)))) (sw_cons (t1_ (al_ (t16_ (t1_ (t1_ h1_))))) (sw_cons (t1_ (al_ (t1_ (t1_ (t1_ h1_))))) (sw_cons (t1_ (al_ (t16_ (t1_ (t1_ (t1_ h1_)))))) (sw_cons (t1_ (al_ (t4_ (t1_ h1_)))) (sw_cons (t1_ (al_ (t16_ (t4_ h1_)))) (sw_cons (t1_ (al_ (t16_ (t4_ (t1_ h1_))))) (sw_cons (t1_ (al_ (t16_ (t4_ (t1_ (t1_ h1_)))))) (sw_cons (t1_ (al_ (t16_ (t4_ (t1_ (t1_ (t1_ h1_))))))) sw_nil)))))))))) (fun _ h => (t1_ (ar_ h))))) (by decide +kernel)
set_option maxRecDepth 20000 in
theorem gX10_bestOf_X10_rank : GoodIn wsX10_bestOf (wsV RX10 89 RX10 yX10_rank wsX10_rank) := goodIn_app (sw_good (sw_cons (t1_ (al_ (t4_ (t4_ (t4_ h1_))))) (sw_cons (t1_ (al_ (t4_ (t4_ (t4_ (t1_ h1_)))))) (sw_cons (t1_ (al_ (t4_ (t4_ (t4_ (t1_ (t1_ h1_))))))) (sw_cons (t1_ (al_ (t1_ (t1_ (t1_ h1_))))) sw_nil)))) (by decide +kernel)) ggX10_bestOf_X10_rank
theorem dX10_bestOf_0 : decode cX10_bestOf 0 = .ok (.iconst (-1), 1) := by decide +kernel
theorem dX10_bestOf_1 : decode cX10_bestOf 1 = .ok (.istore_n 2, 1) := by decide +kernel
theorem dX10_bestOf_2 : decode cX10_bestOf 2 = .ok (.iconst 0, 1) := by decide +kernel
theorem dX10_bestOf_3 : decode cX10_bestOf 3 = .ok (.istore_n 3, 1) := by decide +kernel
theorem dX10_bestOf_4 : decode cX10_bestOf 4 = .ok (.iload_n 3, 1) := by decide +kernel
theorem dX10_bestOf_5 : decode cX10_bestOf 5 = .ok (.aload_n 0, 1) := by decide +kernel
theorem dX10_bestOf_6 : decode cX10_bestOf 6 = .ok (.invokevirtual 55, 3) := by decide +kernel
theorem dX10_bestOf_9 : decode cX10_bestOf 9 = .ok (.if_icmp .gt 43, 3) := by decide +kernel
theorem dX10_bestOf_12 : decode cX10_bestOf 12 = .ok (.aload_n 0, 1) := by decide +kernel
theorem dX10_bestOf_13 : decode cX10_bestOf 13 = .ok (.iload_n 3, 1) := by decide +kernel
theorem dX10_bestOf_14 : decode cX10_bestOf 14 = .ok (.invokevirtual 73, 3) := by decide +kernel
theorem dX10_bestOf_17 : decode cX10_bestOf 17 = .ok (.ifCond .eq 27, 3) := by decide +kernel
theorem dX10_bestOf_20 : decode cX10_bestOf 20 = .ok (.iload_n 2, 1) := by decide +kernel
theorem dX10_bestOf_21 : decode cX10_bestOf 21 = .ok (.iconst (-1), 1) := by decide +kernel
theorem dX10_bestOf_22 : decode cX10_bestOf 22 = .ok (.if_icmp .eq 18, 3) := by decide +kernel
theorem dX10_bestOf_25 : decode cX10_bestOf 25 = .ok (.aload_n 0, 1) := by decide +kernel
theorem dX10_bestOf_26 : decode cX10_bestOf 26 = .ok (.iload_n 3, 1) := by decide +kernel
theorem dX10_bestOf_27 : decode cX10_bestOf 27 = .ok (.iload_n 1, 1) := by decide +kernel
theorem dX10_bestOf_28 : decode cX10_bestOf 28 = .ok (.invokevirtual 89, 3) := by decide +kernel
theorem dX10_bestOf_31 : decode cX10_bestOf 31 = .ok (.aload_n 0, 1) := by decide +kernel
theorem dX10_bestOf_32 : decode cX10_bestOf 32 = .ok (.iload_n 2, 1) := by decide +kernel
theorem dX10_bestOf_33 : decode cX10_bestOf 33 = .ok (.iload_n 1, 1) := by decide +kernel
theorem dX10_bestOf_34 : decode cX10_bestOf 34 = .ok (.invokevirtual 89, 3) := by decide +kernel
theorem dX10_bestOf_37 : decode cX10_bestOf 37 = .ok (.if_icmp .ge 7, 3) := by decide +kernel
theorem dX10_bestOf_40 : decode cX10_bestOf 40 = .ok (.iload_n 3, 1) := by decide +kernel
theorem dX10_bestOf_41 : decode cX10_bestOf 41 = .ok (.goto 4, 3) := by decide +kernel
theorem dX10_bestOf_44 : decode cX10_bestOf 44 = .ok (.iload_n 2, 1) := by decide +kernel
theorem dX10_bestOf_45 : decode cX10_bestOf 45 = .ok (.istore_n 2, 1) := by decide +kernel
theorem dX10_bestOf_46 : decode cX10_bestOf 46 = .ok (.iinc 3 1, 3) := by decide +kernel
theorem dX10_bestOf_49 : decode cX10_bestOf 49 = .ok (.goto (-45), 3) := by decide +kernel
theorem dX10_bestOf_52 : decode cX10_bestOf 52 = .ok (.iload_n 2, 1) := by decide +kernel
theorem dX10_bestOf_53 : decode cX10_bestOf 53 = .ok (.ireturn, 1) := by decide +kernel
set_option maxRecDepth 20000 in
theorem ggX10_best_X10_in : GoodIn wsX10_best wsX10_in := sw_good (sw_cons (t1_ (al_ (al_ (t1_ (t1_ (t1_ h1_)))))) sw_nil) (by decide +kernel)
set_option maxRecDepth 20000 in
theorem gX10_best_X10_in : GoodIn wsX10_best (va_wsS RX10 51 yX10_in wsX10_in) := goodIn_app (sw_good (sw_cons (t1_ (al_ (al_ h1_))) (sw_cons (t1_ (al_ (al_ (t1_ h1_)))) (sw_cons (t1_ (al_ (al_ (t1_ (t1_ h1_))))) sw_nil))) (by decide +kernel)) ggX10_best_X10_in
set_option maxRecDepth 20000 in
theorem ggX10_best_X10_bestOf : GoodIn wsX10_best wsX10_bestOf := sw_good (sw_cons (t1_ (al_ (al_ (t4_ (t1_ (t1_ (t1_ h1_))))))) (sw_app (sw_cons (t1_ (al_ (al_ (t4_ (t4_ h1_))))) (sw_cons (t1_ (al_ (al_ (t4_ (t4_ (t1_ h1_)))))) (sw_cons (t1_ (al_ (al_ (t4_ (t4_ (t1_ (t1_ h1_))))))) (sw_cons (t1_ (al_ (al_ (t1_ (t1_ h1_))))) (sw_cons (t1_ (al_ (al_ (t4_ (t4_ (t1_ (t1_ (t1_ h1_)))))))) (sw_cons (t1_ (al_ (al_ (t4_ (t4_ (t4_ h1_)))))) (sw_cons (t1_ (al_ (al_ (t4_ (t4_ (t4_ (t1_ h1_))))))) (sw_cons (t1_ (al_ (al_ (t4_ (t4_ (t4_ (t1_ (t1_ h1_)))))))) (sw_cons (t1_ (al_ (al_ (t4_ (t4_ (t4_ (t1_ (t1_ (t1_ h1_))))))))) (sw_cons (t1_ (al_ (al_ (t16_ h1_)))) (sw_cons (t1_ (al_ (al_ (t16_ (t1_ h1_))))) (sw_cons (t1_ (al_ (al_ (t16_ (t1_ (t1_ h1_)))))) (sw_cons (t1_ (al_ (al_ (t16_ (t1_ (t1_ (t1_ h1_))))))) (sw_cons (t1_ (al_ (al_ (t16_ (t4_ h1_))))) (sw_cons (t1_ (al_ (al_ (t16_ (t4_ (t1_ h1_)))))) (sw_cons (t1_ (al_ (al_ (t16_ (t4_ (t1_ (t1_ h1_))))))) (sw_cons (t1_ (al_ (al_ (t16_ (t4_ (t1_ (t1_ (t1_ h1_)))))))) (sw_cons (t1_ (al_ (ar_ h1_))) (sw_cons (t1_ (al_ (ar_ (t1_ h1_)))) (sw_cons (t1_ (al_ (ar_ (t1_ (t1_ h1_))))) (sw_cons (t1_ (al_ (ar_ (t1_ (t1_ (t1_ h1_)))))) (sw_cons (t1_ (al_ (ar_ (t4_ h1_)))) (sw_cons (t1_ (al_ (ar_ (t4_ (t1_ h1_))))) (sw_cons (t1_ (al_ (ar_ (t4_ (t1_ (t1_ h1_)))))) sw_nil)))))))))))))))))))))))) (fun _ h => (t1_ (ar_ h))))) (by decide +kernel)
set_option maxRecDepth 20000 in
theorem gX10_best_X10_bestOf : GoodIn wsX10_best (wsV RX10 93 RX10 yX10_bestOf wsX10_bestOf) := goodIn_app (sw_good (sw_cons (t1_ (al_ (al_ (t4_ h1_)))) (sw_cons (t1_ (al_ (al_ (t4_ (t1_ h1_))))) (sw_cons (t1_ (al_ (al_ (t4_ (t1_ (t1_ h1_)))))) (sw_cons (t1_ (al_ (al_ (t1_ (t1_ h1_))))) sw_nil)))) (by decide +kernel)) ggX10_best_X10_bestOf
theorem dX10_best_0 : decode cX10_best 0 = .ok (.iload_n 1, 1) := by decide +kernel
theorem dX10_best_1 : decode cX10_best 1 = .ok (.i2l, 1) := by decide +kernel
theorem dX10_best_2 : decode cX10_best 2 = .ok (.lconst 0, 1) := by decide +kernel
theorem dX10_best_3 : decode cX10_best 3 = .ok (.lconst 1, 1) := by decide +kernel
theorem dX10_best_4 : decode cX10_best 4 = .ok (.invokestatic 51, 3) := by decide +kernel
theorem dX10_best_7 : decode cX10_best 7 = .ok (.ifCond .eq 11, 3) := by decide +kernel
theorem dX10_best_10 : decode cX10_best 10 = .ok (.aload_n 0, 1) := by decide +kernel
theorem dX10_best_11 : decode cX10_best 11 = .ok (.iload_n 1, 1) := by decide +kernel
theorem dX10_best_12 : decode cX10_best 12 = .ok (.invokevirtual 93, 3) := by decide +kernel
theorem dX10_best_15 : decode cX10_best 15 = .ok (.goto 5, 3) := by decide +kernel
theorem dX10_best_18 : decode cX10_best 18 = .ok (.bipush (-2), 2) := by decide +kernel
theorem dX10_best_20 : decode cX10_best 20 = .ok (.ireturn, 1) := by decide +kernel
set_option maxRecDepth 20000 in
theorem ggX10_other_X10_isPart : GoodIn wsX10_other wsX10_isPart := sw_good (sw_cons (t1_ (al_ (t4_ (t1_ (t1_ h1_))))) (sw_app (sw_cons (t1_ (al_ (t4_ (t1_ (t1_ (t1_ h1_)))))) (sw_cons (t1_ (al_ (t4_ (t4_ h1_)))) (sw_cons (t1_ (al_ (t4_ (t4_ (t1_ h1_))))) (sw_cons (t1_ (al_ (t4_ (t1_ h1_)))) (sw_cons (t1_ (al_ (t4_ (t4_ (t1_ (t1_ h1_)))))) (sw_cons (t1_ (al_ (t4_ (t4_ (t1_ (t1_ (t1_ h1_))))))) (sw_cons (t1_ (al_ (t4_ (t4_ (t4_ h1_))))) (sw_cons (t1_ (al_ (t4_ (t4_ (t4_ (t1_ h1_)))))) (sw_cons (t1_ (al_ (t4_ (t4_ (t4_ (t1_ (t1_ h1_))))))) sw_nil))))))))) (fun _ h => (t1_ (ar_ h))))) (by decide +kernel)
set_option maxRecDepth 20000 in
theorem gX10_other_X10_isPart : GoodIn wsX10_other (wsV RX10 96 RX10 yX10_isPart wsX10_isPart) := goodIn_app (sw_good (sw_cons (t1_ (al_ (t1_ (t1_ h1_)))) (sw_cons (t1_ (al_ (t1_ (t1_ (t1_ h1_))))) (sw_cons (t1_ (al_ (t4_ h1_))) (sw_cons (t1_ (al_ (t4_ (t1_ h1_)))) sw_nil)))) (by decide +kernel)) ggX10_other_X10_isPart
theorem dX10_other_0 : decode cX10_other 0 = .ok (.aload_n 0, 1) := by decide +kernel
theorem dX10_other_1 : decode cX10_other 1 = .ok (.iload_n 1, 1) := by decide +kernel
theorem dX10_other_2 : decode cX10_other 2 = .ok (.invokevirtual 96, 3) := by decide +kernel
theorem dX10_other_5 : decode cX10_other 5 = .ok (.ifCond .ne 6, 3) := by decide +kernel
theorem dX10_other_8 : decode cX10_other 8 = .ok (.bipush (-2), 2) := by decide +kernel
theorem dX10_other_10 : decode cX10_other 10 = .ok (.ireturn, 1) := by decide +kernel
theorem dX10_other_11 : decode cX10_other 11 = .ok (.iconst 0, 1) := by decide +kernel
theorem dX10_other_12 : decode cX10_other 12 = .ok (.istore_n 2, 1) := by decide +kernel
theorem dX10_other_13 : decode cX10_other 13 = .ok (.iload_n 2, 1) := by decide +kernel
theorem dX10_other_14 : decode cX10_other 14 = .ok (.aload_n 0, 1) := by decide +kernel
theorem dX10_other_15 : decode cX10_other 15 = .ok (.getfield 64, 3) := by decide +kernel
theorem dX10_other_18 : decode cX10_other 18 = .ok (.if_icmp .ge 22, 3) := by decide +kernel
theorem dX10_other_21 : decode cX10_other 21 = .ok (.aload_n 0, 1) := by decide +kernel
theorem dX10_other_22 : decode cX10_other 22 = .ok (.getfield 13, 3) := by decide +kernel
theorem dX10_other_25 : decode cX10_other 25 = .ok (.iload_n 2, 1) := by decide +kernel
theorem dX10_other_26 : decode cX10_other 26 = .ok (.iaload, 1) := by decide +kernel
theorem dX10_other_27 : decode cX10_other 27 = .ok (.iload_n 1, 1) := by decide +kernel
theorem dX10_other_28 : decode cX10_other 28 = .ok (.if_icmp .ne 6, 3) := by decide +kernel
theorem dX10_other_31 : decode cX10_other 31 = .ok (.bipush (-2), 2) := by decide +kernel
theorem dX10_other_33 : decode cX10_other 33 = .ok (.ireturn, 1) := by decide +kernel
theorem dX10_other_34 : decode cX10_other 34 = .ok (.iinc 2 1, 3) := by decide +kernel
theorem dX10_other_37 : decode cX10_other 37 = .ok (.goto (-24), 3) := by decide +kernel
theorem dX10_other_40 : decode cX10_other 40 = .ok (.aload_n 0, 1) := by decide +kernel
theorem dX10_other_41 : decode cX10_other 41 = .ok (.getfield 64, 3) := by decide +kernel
theorem dX10_other_44 : decode cX10_other 44 = .ok (.bipush 40, 2) := by decide +kernel
theorem dX10_other_46 : decode cX10_other 46 = .ok (.if_icmp .ne 6, 3) := by decide +kernel
theorem dX10_other_49 : decode cX10_other 49 = .ok (.bipush (-4), 2) := by decide +kernel
theorem dX10_other_51 : decode cX10_other 51 = .ok (.ireturn, 1) := by decide +kernel
theorem dX10_other_52 : decode cX10_other 52 = .ok (.aload_n 0, 1) := by decide +kernel
theorem dX10_other_53 : decode cX10_other 53 = .ok (.getfield 13, 3) := by decide +kernel
theorem dX10_other_56 : decode cX10_other 56 = .ok (.aload_n 0, 1) := by decide +kernel
theorem dX10_other_57 : decode cX10_other 57 = .ok (.getfield 64, 3) := by decide +kernel
theorem dX10_other_60 : decode cX10_other 60 = .ok (.iload_n 1, 1) := by decide +kernel
theorem dX10_other_61 : decode cX10_other 61 = .ok (.iastore, 1) := by decide +kernel
theorem dX10_other_62 : decode cX10_other 62 = .ok (.aload_n 0, 1) := by decide +kernel
theorem dX10_other_63 : decode cX10_other 63 = .ok (.dup, 1) := by decide +kernel
theorem dX10_other_64 : decode cX10_other 64 = .ok (.getfield 64, 3) := by decide +kernel
theorem dX10_other_67 : decode cX10_other 67 = .ok (.iconst 1, 1) := by decide +kernel
theorem dX10_other_68 : decode cX10_other 68 = .ok (.iadd, 1) := by decide +kernel
theorem dX10_other_69 : decode cX10_other 69 = .ok (.putfield 64, 3) := by decide +kernel
theorem dX10_other_72 : decode cX10_other 72 = .ok (.aload_n 0, 1) := by decide +kernel
theorem dX10_other_73 : decode cX10_other 73 = .ok (.getfield 64, 3) := by decide +kernel
theorem dX10_other_76 : decode cX10_other 76 = .ok (.ireturn, 1) := by decide +kernel
theorem dX10_otherless_0 : decode cX10_otherless 0 = .ok (.aload_n 0, 1) := by decide +kernel
theorem dX10_otherless_1 : decode cX10_otherless 1 = .ok (.getfield 64, 3) := by decide +kernel
theorem dX10_otherless_4 : decode cX10_otherless 4 = .ok (.istore_n 1, 1) := by decide +kernel
theorem dX10_otherless_5 : decode cX10_otherless 5 = .ok (.aload_n 0, 1) := by decide +kernel
theorem dX10_otherless_6 : decode cX10_otherless 6 = .ok (.iconst 0, 1) := by decide +kernel
theorem dX10_otherless_7 : decode cX10_otherless 7 = .ok (.putfield 64, 3) := by decide +kernel
theorem dX10_otherless_10 : decode cX10_otherless 10 = .ok (.iload_n 1, 1) := by decide +kernel
theorem dX10_otherless_11 : decode cX10_otherless 11 = .ok (.ireturn, 1) := by decide +kernel
set_option maxRecDepth 20000 in
theorem ggX10_take_X10_many : GoodIn wsX10_take wsX10_many := sw_good (sw_cons (t1_ (al_ (t4_ (t1_ (t1_ h1_))))) (sw_app (sw_cons (t1_ (al_ (t4_ (t1_ (t1_ (t1_ h1_)))))) (sw_cons (t1_ (al_ (t4_ (t4_ h1_)))) (sw_cons (t1_ (al_ (t4_ (t4_ (t1_ h1_))))) (sw_cons (t1_ (al_ (t4_ (t1_ h1_)))) (sw_cons (t1_ (al_ (t4_ (t4_ (t1_ (t1_ h1_)))))) (sw_cons (t1_ (al_ (t4_ (t4_ (t1_ (t1_ (t1_ h1_))))))) (sw_cons (t1_ (al_ (t4_ (t4_ (t4_ h1_))))) (sw_cons (t1_ (al_ (t4_ (t4_ (t4_ (t1_ h1_)))))) (sw_cons (t1_ (al_ (t4_ (t4_ (t4_ (t1_ (t1_ h1_))))))) (sw_cons (t1_ (al_ (t4_ (t4_ (t4_ (t1_ (t1_ (t1_ h1_)))))))) (sw_cons (t1_ (al_ (t16_ h1_))) (sw_cons (t1_ (al_ (t16_ (t1_ h1_)))) (sw_cons (t1_ (al_ (t16_ (t1_ (t1_ h1_))))) (sw_cons (t1_ (al_ (t16_ (t1_ (t1_ (t1_ h1_)))))) (sw_cons (t1_ (al_ (t16_ (t4_ h1_)))) (sw_cons (t1_ (al_ (t16_ (t4_ (t1_ h1_))))) sw_nil)))))))))))))))) (fun _ h => (t1_ (ar_ h))))) (by decide +kernel)
set_option maxRecDepth 20000 in
theorem gX10_take_X10_many : GoodIn wsX10_take (wsV RX10 79 RX10 yX10_many wsX10_many) := goodIn_app (sw_good (sw_cons (t1_ (al_ (t1_ (t1_ h1_)))) (sw_cons (t1_ (al_ (t1_ (t1_ (t1_ h1_))))) (sw_cons (t1_ (al_ (t4_ h1_))) (sw_cons (t1_ (al_ (t4_ (t1_ h1_)))) sw_nil)))) (by decide +kernel)) ggX10_take_X10_many
set_option maxRecDepth 20000 in
theorem ggX10_take_X10_all : GoodIn wsX10_take wsX10_all := sw_good (sw_cons (t1_ (al_ (t4_ (t4_ (t1_ (t1_ h1_)))))) (sw_app (sw_cons (t1_ (al_ (t4_ (t4_ (t1_ (t1_ (t1_ h1_))))))) sw_nil) (fun _ h => (t1_ (ar_ h))))) (by decide +kernel)
set_option maxRecDepth 20000 in
theorem gX10_take_X10_all : GoodIn wsX10_take (wsV RX10 55 RX10 yX10_all wsX10_all) := goodIn_app (sw_good (sw_cons (t1_ (al_ (t4_ (t1_ (t1_ (t1_ h1_)))))) (sw_cons (t1_ (al_ (t4_ (t4_ h1_)))) (sw_cons (t1_ (al_ (t4_ (t4_ (t1_ h1_))))) (sw_cons (t1_ (al_ (t4_ (t1_ h1_)))) sw_nil)))) (by decide +kernel)) ggX10_take_X10_all
set_option maxRecDepth 20000 in
theorem ggX10_take_X10_isLeast : GoodIn wsX10_take wsX10_isLeast := sw_good (sw_cons (t1_ (al_ (t4_ (t4_ (t4_ (t1_ (t1_ (t1_ h1_)))))))) (sw_app (sw_cons (t1_ (al_ (t4_ (t4_ (t1_ (t1_ (t1_ h1_))))))) (sw_cons (t1_ (al_ (t16_ h1_))) (sw_cons (t1_ (al_ (t16_ (t1_ h1_)))) (sw_cons (t1_ (al_ (t16_ (t1_ (t1_ h1_))))) (sw_cons (t1_ (al_ (t4_ (t1_ h1_)))) (sw_cons (t1_ (al_ (t16_ (t1_ (t1_ (t1_ h1_)))))) (sw_cons (t1_ (al_ (t16_ (t4_ h1_)))) (sw_cons (t1_ (al_ (t16_ (t4_ (t1_ h1_))))) sw_nil)))))))) (fun _ h => (t1_ (ar_ h))))) (by decide +kernel)
set_option maxRecDepth 20000 in
theorem gX10_take_X10_isLeast : GoodIn wsX10_take (wsV RX10 76 RX10 yX10_isLeast wsX10_isLeast) := goodIn_app (sw_good (sw_cons (t1_ (al_ (t4_ (t4_ (t4_ h1_))))) (sw_cons (t1_ (al_ (t4_ (t4_ (t4_ (t1_ h1_)))))) (sw_cons (t1_ (al_ (t4_ (t4_ (t4_ (t1_ (t1_ h1_))))))) (sw_cons (t1_ (al_ (t4_ (t1_ h1_)))) sw_nil)))) (by decide +kernel)) ggX10_take_X10_isLeast
theorem dX10_take_0 : decode cX10_take 0 = .ok (.aload_n 0, 1) := by decide +kernel
theorem dX10_take_1 : decode cX10_take 1 = .ok (.invokevirtual 79, 3) := by decide +kernel
theorem dX10_take_4 : decode cX10_take 4 = .ok (.bipush 40, 2) := by decide +kernel
theorem dX10_take_6 : decode cX10_take 6 = .ok (.if_icmp .le 6, 3) := by decide +kernel
theorem dX10_take_9 : decode cX10_take 9 = .ok (.bipush (-3), 2) := by decide +kernel
theorem dX10_take_11 : decode cX10_take 11 = .ok (.ireturn, 1) := by decide +kernel
theorem dX10_take_12 : decode cX10_take 12 = .ok (.aload_n 0, 1) := by decide +kernel
theorem dX10_take_13 : decode cX10_take 13 = .ok (.iconst 0, 1) := by decide +kernel
theorem dX10_take_14 : decode cX10_take 14 = .ok (.putfield 64, 3) := by decide +kernel
theorem dX10_take_17 : decode cX10_take 17 = .ok (.iconst 0, 1) := by decide +kernel
theorem dX10_take_18 : decode cX10_take 18 = .ok (.istore_n 1, 1) := by decide +kernel
theorem dX10_take_19 : decode cX10_take 19 = .ok (.iload_n 1, 1) := by decide +kernel
theorem dX10_take_20 : decode cX10_take 20 = .ok (.aload_n 0, 1) := by decide +kernel
theorem dX10_take_21 : decode cX10_take 21 = .ok (.invokevirtual 55, 3) := by decide +kernel
theorem dX10_take_24 : decode cX10_take 24 = .ok (.if_icmp .gt 37, 3) := by decide +kernel
theorem dX10_take_27 : decode cX10_take 27 = .ok (.aload_n 0, 1) := by decide +kernel
theorem dX10_take_28 : decode cX10_take 28 = .ok (.iload_n 1, 1) := by decide +kernel
theorem dX10_take_29 : decode cX10_take 29 = .ok (.invokevirtual 76, 3) := by decide +kernel
theorem dX10_take_32 : decode cX10_take 32 = .ok (.ifCond .eq 23, 3) := by decide +kernel
theorem dX10_take_35 : decode cX10_take 35 = .ok (.aload_n 0, 1) := by decide +kernel
theorem dX10_take_36 : decode cX10_take 36 = .ok (.getfield 13, 3) := by decide +kernel
theorem dX10_take_39 : decode cX10_take 39 = .ok (.aload_n 0, 1) := by decide +kernel
theorem dX10_take_40 : decode cX10_take 40 = .ok (.getfield 64, 3) := by decide +kernel
theorem dX10_take_43 : decode cX10_take 43 = .ok (.iload_n 1, 1) := by decide +kernel
theorem dX10_take_44 : decode cX10_take 44 = .ok (.iastore, 1) := by decide +kernel
theorem dX10_take_45 : decode cX10_take 45 = .ok (.aload_n 0, 1) := by decide +kernel
theorem dX10_take_46 : decode cX10_take 46 = .ok (.dup, 1) := by decide +kernel
theorem dX10_take_47 : decode cX10_take 47 = .ok (.getfield 64, 3) := by decide +kernel
theorem dX10_take_50 : decode cX10_take 50 = .ok (.iconst 1, 1) := by decide +kernel
theorem dX10_take_51 : decode cX10_take 51 = .ok (.iadd, 1) := by decide +kernel
theorem dX10_take_52 : decode cX10_take 52 = .ok (.putfield 64, 3) := by decide +kernel
theorem dX10_take_55 : decode cX10_take 55 = .ok (.iinc 1 1, 3) := by decide +kernel
theorem dX10_take_58 : decode cX10_take 58 = .ok (.goto (-39), 3) := by decide +kernel
theorem dX10_take_61 : decode cX10_take 61 = .ok (.aload_n 0, 1) := by decide +kernel
theorem dX10_take_62 : decode cX10_take 62 = .ok (.getfield 64, 3) := by decide +kernel
theorem dX10_take_65 : decode cX10_take 65 = .ok (.ireturn, 1) := by decide +kernel
set_option maxRecDepth 20000 in
theorem ggX10_witness_X10_all : GoodIn wsX10_witness wsX10_all := sw_good (sw_cons (t1_ (al_ (t4_ (t4_ h1_)))) (sw_app (sw_cons (t1_ (al_ (t4_ (t4_ (t1_ h1_))))) sw_nil) (fun _ h => (t1_ (ar_ h))))) (by decide +kernel)
set_option maxRecDepth 20000 in
theorem gX10_witness_X10_all : GoodIn wsX10_witness (wsV RX10 55 RX10 yX10_all wsX10_all) := goodIn_app (sw_good (sw_cons (t1_ (al_ (t4_ h1_))) (sw_cons (t1_ (al_ (t4_ (t1_ h1_)))) (sw_cons (t1_ (al_ (t4_ (t1_ (t1_ h1_))))) (sw_cons (t1_ (al_ (t4_ (t1_ (t1_ (t1_ h1_)))))) sw_nil)))) (by decide +kernel)) ggX10_witness_X10_all
theorem dX10_witness_0 : decode cX10_witness 0 = .ok (.iconst 0, 1) := by decide +kernel
theorem dX10_witness_1 : decode cX10_witness 1 = .ok (.istore_n 1, 1) := by decide +kernel
theorem dX10_witness_2 : decode cX10_witness 2 = .ok (.iload_n 1, 1) := by decide +kernel
theorem dX10_witness_3 : decode cX10_witness 3 = .ok (.aload_n 0, 1) := by decide +kernel
theorem dX10_witness_4 : decode cX10_witness 4 = .ok (.invokevirtual 55, 3) := by decide +kernel
theorem dX10_witness_7 : decode cX10_witness 7 = .ok (.if_icmp .gt 99, 3) := by decide +kernel
theorem dX10_witness_10 : decode cX10_witness 10 = .ok (.iconst 0, 1) := by decide +kernel
theorem dX10_witness_11 : decode cX10_witness 11 = .ok (.istore_n 2, 1) := by decide +kernel
theorem dX10_witness_12 : decode cX10_witness 12 = .ok (.iconst 0, 1) := by decide +kernel
theorem dX10_witness_13 : decode cX10_witness 13 = .ok (.istore_n 3, 1) := by decide +kernel
theorem dX10_witness_14 : decode cX10_witness 14 = .ok (.iload_n 3, 1) := by decide +kernel
theorem dX10_witness_15 : decode cX10_witness 15 = .ok (.aload_n 0, 1) := by decide +kernel
theorem dX10_witness_16 : decode cX10_witness 16 = .ok (.getfield 61, 3) := by decide +kernel
theorem dX10_witness_19 : decode cX10_witness 19 = .ok (.if_icmp .ge 32, 3) := by decide +kernel
theorem dX10_witness_22 : decode cX10_witness 22 = .ok (.iload_n 2, 1) := by decide +kernel
theorem dX10_witness_23 : decode cX10_witness 23 = .ok (.ifCond .ne 16, 3) := by decide +kernel
theorem dX10_witness_26 : decode cX10_witness 26 = .ok (.aload_n 0, 1) := by decide +kernel
theorem dX10_witness_27 : decode cX10_witness 27 = .ok (.getfield 7, 3) := by decide +kernel
theorem dX10_witness_30 : decode cX10_witness 30 = .ok (.iload_n 3, 1) := by decide +kernel
theorem dX10_witness_31 : decode cX10_witness 31 = .ok (.iaload, 1) := by decide +kernel
theorem dX10_witness_32 : decode cX10_witness 32 = .ok (.iload_n 1, 1) := by decide +kernel
theorem dX10_witness_33 : decode cX10_witness 33 = .ok (.iconst (-1), 1) := by decide +kernel
theorem dX10_witness_34 : decode cX10_witness 34 = .ok (.ixor, 1) := by decide +kernel
theorem dX10_witness_35 : decode cX10_witness 35 = .ok (.iand, 1) := by decide +kernel
theorem dX10_witness_36 : decode cX10_witness 36 = .ok (.ifCond .ne 7, 3) := by decide +kernel
theorem dX10_witness_39 : decode cX10_witness 39 = .ok (.iconst 1, 1) := by decide +kernel
theorem dX10_witness_40 : decode cX10_witness 40 = .ok (.goto 4, 3) := by decide +kernel
theorem dX10_witness_43 : decode cX10_witness 43 = .ok (.iconst 0, 1) := by decide +kernel
theorem dX10_witness_44 : decode cX10_witness 44 = .ok (.istore_n 2, 1) := by decide +kernel
theorem dX10_witness_45 : decode cX10_witness 45 = .ok (.iinc 3 1, 3) := by decide +kernel
theorem dX10_witness_48 : decode cX10_witness 48 = .ok (.goto (-34), 3) := by decide +kernel
theorem dX10_witness_51 : decode cX10_witness 51 = .ok (.iconst 0, 1) := by decide +kernel
theorem dX10_witness_52 : decode cX10_witness 52 = .ok (.istore_n 3, 1) := by decide +kernel
theorem dX10_witness_53 : decode cX10_witness 53 = .ok (.iconst 0, 1) := by decide +kernel
theorem dX10_witness_54 : decode cX10_witness 54 = .ok (.istore 4, 2) := by decide +kernel
theorem dX10_witness_56 : decode cX10_witness 56 = .ok (.iload 4, 2) := by decide +kernel
theorem dX10_witness_58 : decode cX10_witness 58 = .ok (.aload_n 0, 1) := by decide +kernel
theorem dX10_witness_59 : decode cX10_witness 59 = .ok (.getfield 64, 3) := by decide +kernel
theorem dX10_witness_62 : decode cX10_witness 62 = .ok (.if_icmp .ge 31, 3) := by decide +kernel
theorem dX10_witness_65 : decode cX10_witness 65 = .ok (.iload_n 3, 1) := by decide +kernel
theorem dX10_witness_66 : decode cX10_witness 66 = .ok (.ifCond .ne 15, 3) := by decide +kernel
theorem dX10_witness_69 : decode cX10_witness 69 = .ok (.aload_n 0, 1) := by decide +kernel
theorem dX10_witness_70 : decode cX10_witness 70 = .ok (.getfield 13, 3) := by decide +kernel
theorem dX10_witness_73 : decode cX10_witness 73 = .ok (.iload 4, 2) := by decide +kernel
theorem dX10_witness_75 : decode cX10_witness 75 = .ok (.iaload, 1) := by decide +kernel
theorem dX10_witness_76 : decode cX10_witness 76 = .ok (.iload_n 1, 1) := by decide +kernel
theorem dX10_witness_77 : decode cX10_witness 77 = .ok (.iand, 1) := by decide +kernel
theorem dX10_witness_78 : decode cX10_witness 78 = .ok (.ifCond .ne 7, 3) := by decide +kernel
theorem dX10_witness_81 : decode cX10_witness 81 = .ok (.iconst 1, 1) := by decide +kernel
theorem dX10_witness_82 : decode cX10_witness 82 = .ok (.goto 4, 3) := by decide +kernel
theorem dX10_witness_85 : decode cX10_witness 85 = .ok (.iconst 0, 1) := by decide +kernel
theorem dX10_witness_86 : decode cX10_witness 86 = .ok (.istore_n 3, 1) := by decide +kernel
theorem dX10_witness_87 : decode cX10_witness 87 = .ok (.iinc 4 1, 3) := by decide +kernel
theorem dX10_witness_90 : decode cX10_witness 90 = .ok (.goto (-34), 3) := by decide +kernel
theorem dX10_witness_93 : decode cX10_witness 93 = .ok (.iload_n 2, 1) := by decide +kernel
theorem dX10_witness_94 : decode cX10_witness 94 = .ok (.iload_n 3, 1) := by decide +kernel
theorem dX10_witness_95 : decode cX10_witness 95 = .ok (.if_icmp .ne 5, 3) := by decide +kernel
theorem dX10_witness_98 : decode cX10_witness 98 = .ok (.iload_n 1, 1) := by decide +kernel
theorem dX10_witness_99 : decode cX10_witness 99 = .ok (.ireturn, 1) := by decide +kernel
theorem dX10_witness_100 : decode cX10_witness 100 = .ok (.iinc 1 1, 3) := by decide +kernel
theorem dX10_witness_103 : decode cX10_witness 103 = .ok (.goto (-101), 3) := by decide +kernel
theorem dX10_witness_106 : decode cX10_witness 106 = .ok (.iconst (-1), 1) := by decide +kernel
theorem dX10_witness_107 : decode cX10_witness 107 = .ok (.ireturn, 1) := by decide +kernel
theorem dX10_lays_0 : decode cX10_lays 0 = .ok (.iconst 0, 1) := by decide +kernel
theorem dX10_lays_1 : decode cX10_lays 1 = .ok (.istore_n 1, 1) := by decide +kernel
theorem dX10_lays_2 : decode cX10_lays 2 = .ok (.iload_n 1, 1) := by decide +kernel
theorem dX10_lays_3 : decode cX10_lays 3 = .ok (.sipush 297, 3) := by decide +kernel
theorem dX10_lays_6 : decode cX10_lays 6 = .ok (.if_icmp .ge 16, 3) := by decide +kernel
theorem dX10_lays_9 : decode cX10_lays 9 = .ok (.aload_n 0, 1) := by decide +kernel
theorem dX10_lays_10 : decode cX10_lays 10 = .ok (.getfield 19, 3) := by decide +kernel
theorem dX10_lays_13 : decode cX10_lays 13 = .ok (.iload_n 1, 1) := by decide +kernel
theorem dX10_lays_14 : decode cX10_lays 14 = .ok (.lconst 0, 1) := by decide +kernel
theorem dX10_lays_15 : decode cX10_lays 15 = .ok (.lastore, 1) := by decide +kernel
theorem dX10_lays_16 : decode cX10_lays 16 = .ok (.iinc 1 1, 3) := by decide +kernel
theorem dX10_lays_19 : decode cX10_lays 19 = .ok (.goto (-17), 3) := by decide +kernel
theorem dX10_lays_22 : decode cX10_lays 22 = .ok (.aload_n 0, 1) := by decide +kernel
theorem dX10_lays_23 : decode cX10_lays 23 = .ok (.lconst 1, 1) := by decide +kernel
theorem dX10_lays_24 : decode cX10_lays 24 = .ok (.putfield 99, 3) := by decide +kernel
theorem dX10_lays_27 : decode cX10_lays 27 = .ok (.iconst 0, 1) := by decide +kernel
theorem dX10_lays_28 : decode cX10_lays 28 = .ok (.istore_n 1, 1) := by decide +kernel
theorem dX10_lays_29 : decode cX10_lays 29 = .ok (.iload_n 1, 1) := by decide +kernel
theorem dX10_lays_30 : decode cX10_lays 30 = .ok (.aload_n 0, 1) := by decide +kernel
theorem dX10_lays_31 : decode cX10_lays 31 = .ok (.getfield 43, 3) := by decide +kernel
theorem dX10_lays_34 : decode cX10_lays 34 = .ok (.if_icmp .ge 91, 3) := by decide +kernel
theorem dX10_lays_37 : decode cX10_lays 37 = .ok (.iconst 0, 1) := by decide +kernel
theorem dX10_lays_38 : decode cX10_lays 38 = .ok (.istore_n 2, 1) := by decide +kernel
theorem dX10_lays_39 : decode cX10_lays 39 = .ok (.iload_n 2, 1) := by decide +kernel
theorem dX10_lays_40 : decode cX10_lays 40 = .ok (.aload_n 0, 1) := by decide +kernel
theorem dX10_lays_41 : decode cX10_lays 41 = .ok (.getfield 61, 3) := by decide +kernel
theorem dX10_lays_44 : decode cX10_lays 44 = .ok (.if_icmp .ge 31, 3) := by decide +kernel
theorem dX10_lays_47 : decode cX10_lays 47 = .ok (.aload_n 0, 1) := by decide +kernel
theorem dX10_lays_48 : decode cX10_lays 48 = .ok (.getfield 19, 3) := by decide +kernel
theorem dX10_lays_51 : decode cX10_lays 51 = .ok (.bipush 27, 2) := by decide +kernel
theorem dX10_lays_53 : decode cX10_lays 53 = .ok (.iload_n 1, 1) := by decide +kernel
theorem dX10_lays_54 : decode cX10_lays 54 = .ok (.imul, 1) := by decide +kernel
theorem dX10_lays_55 : decode cX10_lays 55 = .ok (.iload_n 2, 1) := by decide +kernel
theorem dX10_lays_56 : decode cX10_lays 56 = .ok (.iadd, 1) := by decide +kernel
theorem dX10_lays_57 : decode cX10_lays 57 = .ok (.aload_n 0, 1) := by decide +kernel
theorem dX10_lays_58 : decode cX10_lays 58 = .ok (.getfield 7, 3) := by decide +kernel
theorem dX10_lays_61 : decode cX10_lays 61 = .ok (.iload_n 2, 1) := by decide +kernel
theorem dX10_lays_62 : decode cX10_lays 62 = .ok (.iaload, 1) := by decide +kernel
theorem dX10_lays_63 : decode cX10_lays 63 = .ok (.iload_n 1, 1) := by decide +kernel
theorem dX10_lays_64 : decode cX10_lays 64 = .ok (.ishr, 1) := by decide +kernel
theorem dX10_lays_65 : decode cX10_lays 65 = .ok (.iconst 1, 1) := by decide +kernel
theorem dX10_lays_66 : decode cX10_lays 66 = .ok (.iand, 1) := by decide +kernel
theorem dX10_lays_67 : decode cX10_lays 67 = .ok (.i2l, 1) := by decide +kernel
theorem dX10_lays_68 : decode cX10_lays 68 = .ok (.lastore, 1) := by decide +kernel
theorem dX10_lays_69 : decode cX10_lays 69 = .ok (.iinc 2 1, 3) := by decide +kernel
theorem dX10_lays_72 : decode cX10_lays 72 = .ok (.goto (-33), 3) := by decide +kernel
theorem dX10_lays_75 : decode cX10_lays 75 = .ok (.aload_n 0, 1) := by decide +kernel
theorem dX10_lays_76 : decode cX10_lays 76 = .ok (.getfield 19, 3) := by decide +kernel
theorem dX10_lays_79 : decode cX10_lays 79 = .ok (.bipush 27, 2) := by decide +kernel
theorem dX10_lays_81 : decode cX10_lays 81 = .ok (.iload_n 1, 1) := by decide +kernel
theorem dX10_lays_82 : decode cX10_lays 82 = .ok (.imul, 1) := by decide +kernel
theorem dX10_lays_83 : decode cX10_lays 83 = .ok (.bipush 16, 2) := by decide +kernel
theorem dX10_lays_85 : decode cX10_lays 85 = .ok (.iadd, 1) := by decide +kernel
theorem dX10_lays_86 : decode cX10_lays 86 = .ok (.iload_n 1, 1) := by decide +kernel
theorem dX10_lays_87 : decode cX10_lays 87 = .ok (.iadd, 1) := by decide +kernel
theorem dX10_lays_88 : decode cX10_lays 88 = .ok (.lconst 1, 1) := by decide +kernel
theorem dX10_lays_89 : decode cX10_lays 89 = .ok (.lastore, 1) := by decide +kernel
theorem dX10_lays_90 : decode cX10_lays 90 = .ok (.aload_n 0, 1) := by decide +kernel
theorem dX10_lays_91 : decode cX10_lays 91 = .ok (.getfield 19, 3) := by decide +kernel
theorem dX10_lays_94 : decode cX10_lays 94 = .ok (.bipush 27, 2) := by decide +kernel
theorem dX10_lays_96 : decode cX10_lays 96 = .ok (.iload_n 1, 1) := by decide +kernel
theorem dX10_lays_97 : decode cX10_lays 97 = .ok (.imul, 1) := by decide +kernel
theorem dX10_lays_98 : decode cX10_lays 98 = .ok (.bipush 26, 2) := by decide +kernel
theorem dX10_lays_100 : decode cX10_lays 100 = .ok (.iadd, 1) := by decide +kernel
theorem dX10_lays_101 : decode cX10_lays 101 = .ok (.aload_n 0, 1) := by decide +kernel
theorem dX10_lays_102 : decode cX10_lays 102 = .ok (.getfield 16, 3) := by decide +kernel
theorem dX10_lays_105 : decode cX10_lays 105 = .ok (.iload_n 1, 1) := by decide +kernel
theorem dX10_lays_106 : decode cX10_lays 106 = .ok (.iaload, 1) := by decide +kernel
theorem dX10_lays_107 : decode cX10_lays 107 = .ok (.i2l, 1) := by decide +kernel
theorem dX10_lays_108 : decode cX10_lays 108 = .ok (.lastore, 1) := by decide +kernel
theorem dX10_lays_109 : decode cX10_lays 109 = .ok (.aload_n 0, 1) := by decide +kernel
theorem dX10_lays_110 : decode cX10_lays 110 = .ok (.getfield 23, 3) := by decide +kernel
theorem dX10_lays_113 : decode cX10_lays 113 = .ok (.iload_n 1, 1) := by decide +kernel
theorem dX10_lays_114 : decode cX10_lays 114 = .ok (.bipush 16, 2) := by decide +kernel
theorem dX10_lays_116 : decode cX10_lays 116 = .ok (.iload_n 1, 1) := by decide +kernel
theorem dX10_lays_117 : decode cX10_lays 117 = .ok (.iadd, 1) := by decide +kernel
theorem dX10_lays_118 : decode cX10_lays 118 = .ok (.iastore, 1) := by decide +kernel
theorem dX10_lays_119 : decode cX10_lays 119 = .ok (.iinc 1 1, 3) := by decide +kernel
theorem dX10_lays_122 : decode cX10_lays 122 = .ok (.goto (-93), 3) := by decide +kernel
theorem dX10_lays_125 : decode cX10_lays 125 = .ok (.iconst 0, 1) := by decide +kernel
theorem dX10_lays_126 : decode cX10_lays 126 = .ok (.istore_n 1, 1) := by decide +kernel
theorem dX10_lays_127 : decode cX10_lays 127 = .ok (.iload_n 1, 1) := by decide +kernel
theorem dX10_lays_128 : decode cX10_lays 128 = .ok (.aload_n 0, 1) := by decide +kernel
theorem dX10_lays_129 : decode cX10_lays 129 = .ok (.getfield 61, 3) := by decide +kernel
theorem dX10_lays_132 : decode cX10_lays 132 = .ok (.if_icmp .ge 22, 3) := by decide +kernel
theorem dX10_lays_135 : decode cX10_lays 135 = .ok (.aload_n 0, 1) := by decide +kernel
theorem dX10_lays_136 : decode cX10_lays 136 = .ok (.getfield 19, 3) := by decide +kernel
theorem dX10_lays_139 : decode cX10_lays 139 = .ok (.sipush 270, 3) := by decide +kernel
theorem dX10_lays_142 : decode cX10_lays 142 = .ok (.iload_n 1, 1) := by decide +kernel
theorem dX10_lays_143 : decode cX10_lays 143 = .ok (.iadd, 1) := by decide +kernel
theorem dX10_lays_144 : decode cX10_lays 144 = .ok (.ldc2_w 102, 3) := by decide +kernel
theorem dX10_lays_147 : decode cX10_lays 147 = .ok (.lastore, 1) := by decide +kernel
theorem dX10_lays_148 : decode cX10_lays 148 = .ok (.iinc 1 1, 3) := by decide +kernel
theorem dX10_lays_151 : decode cX10_lays 151 = .ok (.goto (-24), 3) := by decide +kernel
theorem dX10_lays_154 : decode cX10_lays 154 = .ok (.return_, 1) := by decide +kernel
theorem dX10_enters_0 : decode cX10_enters 0 = .ok (.iconst 0, 1) := by decide +kernel
theorem dX10_enters_1 : decode cX10_enters 1 = .ok (.istore_n 1, 1) := by decide +kernel
theorem dX10_enters_2 : decode cX10_enters 2 = .ok (.iload_n 1, 1) := by decide +kernel
theorem dX10_enters_3 : decode cX10_enters 3 = .ok (.bipush 26, 2) := by decide +kernel
theorem dX10_enters_5 : decode cX10_enters 5 = .ok (.if_icmp .ge 26, 3) := by decide +kernel
theorem dX10_enters_8 : decode cX10_enters 8 = .ok (.aload_n 0, 1) := by decide +kernel
theorem dX10_enters_9 : decode cX10_enters 9 = .ok (.getfield 19, 3) := by decide +kernel
theorem dX10_enters_12 : decode cX10_enters 12 = .ok (.sipush 270, 3) := by decide +kernel
theorem dX10_enters_15 : decode cX10_enters 15 = .ok (.iload_n 1, 1) := by decide +kernel
theorem dX10_enters_16 : decode cX10_enters 16 = .ok (.iadd, 1) := by decide +kernel
theorem dX10_enters_17 : decode cX10_enters 17 = .ok (.laload, 1) := by decide +kernel
theorem dX10_enters_18 : decode cX10_enters 18 = .ok (.lconst 0, 1) := by decide +kernel
theorem dX10_enters_19 : decode cX10_enters 19 = .ok (.lcmp, 1) := by decide +kernel
theorem dX10_enters_20 : decode cX10_enters 20 = .ok (.ifCond .ge 5, 3) := by decide +kernel
theorem dX10_enters_23 : decode cX10_enters 23 = .ok (.iload_n 1, 1) := by decide +kernel
theorem dX10_enters_24 : decode cX10_enters 24 = .ok (.ireturn, 1) := by decide +kernel
theorem dX10_enters_25 : decode cX10_enters 25 = .ok (.iinc 1 1, 3) := by decide +kernel
theorem dX10_enters_28 : decode cX10_enters 28 = .ok (.goto (-26), 3) := by decide +kernel
theorem dX10_enters_31 : decode cX10_enters 31 = .ok (.iconst (-1), 1) := by decide +kernel
theorem dX10_enters_32 : decode cX10_enters 32 = .ok (.ireturn, 1) := by decide +kernel
theorem dX10_leaves_0 : decode cX10_leaves 0 = .ok (.iconst (-1), 1) := by decide +kernel
theorem dX10_leaves_1 : decode cX10_leaves 1 = .ok (.istore_n 2, 1) := by decide +kernel
theorem dX10_leaves_2 : decode cX10_leaves 2 = .ok (.iconst 0, 1) := by decide +kernel
theorem dX10_leaves_3 : decode cX10_leaves 3 = .ok (.istore_n 3, 1) := by decide +kernel
theorem dX10_leaves_4 : decode cX10_leaves 4 = .ok (.iload_n 3, 1) := by decide +kernel
theorem dX10_leaves_5 : decode cX10_leaves 5 = .ok (.aload_n 0, 1) := by decide +kernel
theorem dX10_leaves_6 : decode cX10_leaves 6 = .ok (.getfield 43, 3) := by decide +kernel
theorem dX10_leaves_9 : decode cX10_leaves 9 = .ok (.if_icmp .ge 122, 3) := by decide +kernel
theorem dX10_leaves_12 : decode cX10_leaves 12 = .ok (.aload_n 0, 1) := by decide +kernel
theorem dX10_leaves_13 : decode cX10_leaves 13 = .ok (.getfield 19, 3) := by decide +kernel
theorem dX10_leaves_16 : decode cX10_leaves 16 = .ok (.bipush 27, 2) := by decide +kernel
theorem dX10_leaves_18 : decode cX10_leaves 18 = .ok (.iload_n 3, 1) := by decide +kernel
theorem dX10_leaves_19 : decode cX10_leaves 19 = .ok (.imul, 1) := by decide +kernel
theorem dX10_leaves_20 : decode cX10_leaves 20 = .ok (.iload_n 1, 1) := by decide +kernel
theorem dX10_leaves_21 : decode cX10_leaves 21 = .ok (.iadd, 1) := by decide +kernel
theorem dX10_leaves_22 : decode cX10_leaves 22 = .ok (.laload, 1) := by decide +kernel
theorem dX10_leaves_23 : decode cX10_leaves 23 = .ok (.lconst 0, 1) := by decide +kernel
theorem dX10_leaves_24 : decode cX10_leaves 24 = .ok (.lcmp, 1) := by decide +kernel
theorem dX10_leaves_25 : decode cX10_leaves 25 = .ok (.ifCond .le 100, 3) := by decide +kernel
theorem dX10_leaves_28 : decode cX10_leaves 28 = .ok (.iload_n 2, 1) := by decide +kernel
theorem dX10_leaves_29 : decode cX10_leaves 29 = .ok (.iconst (-1), 1) := by decide +kernel
theorem dX10_leaves_30 : decode cX10_leaves 30 = .ok (.if_icmp .ne 9, 3) := by decide +kernel
theorem dX10_leaves_33 : decode cX10_leaves 33 = .ok (.ldc2_w 102, 3) := by decide +kernel
theorem dX10_leaves_36 : decode cX10_leaves 36 = .ok (.goto 52, 3) := by decide +kernel
theorem dX10_leaves_39 : decode cX10_leaves 39 = .ok (.aload_n 0, 1) := by decide +kernel
theorem dX10_leaves_40 : decode cX10_leaves 40 = .ok (.getfield 19, 3) := by decide +kernel
theorem dX10_leaves_43 : decode cX10_leaves 43 = .ok (.bipush 27, 2) := by decide +kernel
theorem dX10_leaves_45 : decode cX10_leaves 45 = .ok (.iload_n 3, 1) := by decide +kernel
theorem dX10_leaves_46 : decode cX10_leaves 46 = .ok (.imul, 1) := by decide +kernel
theorem dX10_leaves_47 : decode cX10_leaves 47 = .ok (.bipush 26, 2) := by decide +kernel
theorem dX10_leaves_49 : decode cX10_leaves 49 = .ok (.iadd, 1) := by decide +kernel
theorem dX10_leaves_50 : decode cX10_leaves 50 = .ok (.laload, 1) := by decide +kernel
theorem dX10_leaves_51 : decode cX10_leaves 51 = .ok (.aload_n 0, 1) := by decide +kernel
theorem dX10_leaves_52 : decode cX10_leaves 52 = .ok (.getfield 19, 3) := by decide +kernel
theorem dX10_leaves_55 : decode cX10_leaves 55 = .ok (.bipush 27, 2) := by decide +kernel
theorem dX10_leaves_57 : decode cX10_leaves 57 = .ok (.iload_n 2, 1) := by decide +kernel
theorem dX10_leaves_58 : decode cX10_leaves 58 = .ok (.imul, 1) := by decide +kernel
theorem dX10_leaves_59 : decode cX10_leaves 59 = .ok (.iload_n 1, 1) := by decide +kernel
theorem dX10_leaves_60 : decode cX10_leaves 60 = .ok (.iadd, 1) := by decide +kernel
theorem dX10_leaves_61 : decode cX10_leaves 61 = .ok (.laload, 1) := by decide +kernel
theorem dX10_leaves_62 : decode cX10_leaves 62 = .ok (.lmul, 1) := by decide +kernel
theorem dX10_leaves_63 : decode cX10_leaves 63 = .ok (.aload_n 0, 1) := by decide +kernel
theorem dX10_leaves_64 : decode cX10_leaves 64 = .ok (.getfield 19, 3) := by decide +kernel
theorem dX10_leaves_67 : decode cX10_leaves 67 = .ok (.bipush 27, 2) := by decide +kernel
theorem dX10_leaves_69 : decode cX10_leaves 69 = .ok (.iload_n 2, 1) := by decide +kernel
theorem dX10_leaves_70 : decode cX10_leaves 70 = .ok (.imul, 1) := by decide +kernel
theorem dX10_leaves_71 : decode cX10_leaves 71 = .ok (.bipush 26, 2) := by decide +kernel
theorem dX10_leaves_73 : decode cX10_leaves 73 = .ok (.iadd, 1) := by decide +kernel
theorem dX10_leaves_74 : decode cX10_leaves 74 = .ok (.laload, 1) := by decide +kernel
theorem dX10_leaves_75 : decode cX10_leaves 75 = .ok (.aload_n 0, 1) := by decide +kernel
theorem dX10_leaves_76 : decode cX10_leaves 76 = .ok (.getfield 19, 3) := by decide +kernel
theorem dX10_leaves_79 : decode cX10_leaves 79 = .ok (.bipush 27, 2) := by decide +kernel
theorem dX10_leaves_81 : decode cX10_leaves 81 = .ok (.iload_n 3, 1) := by decide +kernel
theorem dX10_leaves_82 : decode cX10_leaves 82 = .ok (.imul, 1) := by decide +kernel
theorem dX10_leaves_83 : decode cX10_leaves 83 = .ok (.iload_n 1, 1) := by decide +kernel
theorem dX10_leaves_84 : decode cX10_leaves 84 = .ok (.iadd, 1) := by decide +kernel
theorem dX10_leaves_85 : decode cX10_leaves 85 = .ok (.laload, 1) := by decide +kernel
theorem dX10_leaves_86 : decode cX10_leaves 86 = .ok (.lmul, 1) := by decide +kernel
theorem dX10_leaves_87 : decode cX10_leaves 87 = .ok (.lsub, 1) := by decide +kernel
theorem dX10_leaves_88 : decode cX10_leaves 88 = .ok (.lstore 4, 2) := by decide +kernel
theorem dX10_leaves_90 : decode cX10_leaves 90 = .ok (.lload 4, 2) := by decide +kernel
theorem dX10_leaves_92 : decode cX10_leaves 92 = .ok (.lconst 0, 1) := by decide +kernel
theorem dX10_leaves_93 : decode cX10_leaves 93 = .ok (.lcmp, 1) := by decide +kernel
theorem dX10_leaves_94 : decode cX10_leaves 94 = .ok (.ifCond .lt 25, 3) := by decide +kernel
theorem dX10_leaves_97 : decode cX10_leaves 97 = .ok (.lload 4, 2) := by decide +kernel
theorem dX10_leaves_99 : decode cX10_leaves 99 = .ok (.lconst 0, 1) := by decide +kernel
theorem dX10_leaves_100 : decode cX10_leaves 100 = .ok (.lcmp, 1) := by decide +kernel
theorem dX10_leaves_101 : decode cX10_leaves 101 = .ok (.ifCond .ne 22, 3) := by decide +kernel
theorem dX10_leaves_104 : decode cX10_leaves 104 = .ok (.aload_n 0, 1) := by decide +kernel
theorem dX10_leaves_105 : decode cX10_leaves 105 = .ok (.getfield 23, 3) := by decide +kernel
theorem dX10_leaves_108 : decode cX10_leaves 108 = .ok (.iload_n 3, 1) := by decide +kernel
theorem dX10_leaves_109 : decode cX10_leaves 109 = .ok (.iaload, 1) := by decide +kernel
theorem dX10_leaves_110 : decode cX10_leaves 110 = .ok (.aload_n 0, 1) := by decide +kernel
theorem dX10_leaves_111 : decode cX10_leaves 111 = .ok (.getfield 23, 3) := by decide +kernel
theorem dX10_leaves_114 : decode cX10_leaves 114 = .ok (.iload_n 2, 1) := by decide +kernel
theorem dX10_leaves_115 : decode cX10_leaves 115 = .ok (.iaload, 1) := by decide +kernel
theorem dX10_leaves_116 : decode cX10_leaves 116 = .ok (.if_icmp .ge 7, 3) := by decide +kernel
theorem dX10_leaves_119 : decode cX10_leaves 119 = .ok (.iload_n 3, 1) := by decide +kernel
theorem dX10_leaves_120 : decode cX10_leaves 120 = .ok (.goto 4, 3) := by decide +kernel
theorem dX10_leaves_123 : decode cX10_leaves 123 = .ok (.iload_n 2, 1) := by decide +kernel
theorem dX10_leaves_124 : decode cX10_leaves 124 = .ok (.istore_n 2, 1) := by decide +kernel
theorem dX10_leaves_125 : decode cX10_leaves 125 = .ok (.iinc 3 1, 3) := by decide +kernel
theorem dX10_leaves_128 : decode cX10_leaves 128 = .ok (.goto (-124), 3) := by decide +kernel
theorem dX10_leaves_131 : decode cX10_leaves 131 = .ok (.iload_n 2, 1) := by decide +kernel
theorem dX10_leaves_132 : decode cX10_leaves 132 = .ok (.ireturn, 1) := by decide +kernel
theorem dX10_turns_0 : decode cX10_turns 0 = .ok (.aload_n 0, 1) := by decide +kernel
theorem dX10_turns_1 : decode cX10_turns 1 = .ok (.getfield 19, 3) := by decide +kernel
theorem dX10_turns_4 : decode cX10_turns 4 = .ok (.bipush 27, 2) := by decide +kernel
theorem dX10_turns_6 : decode cX10_turns 6 = .ok (.iload_n 1, 1) := by decide +kernel
theorem dX10_turns_7 : decode cX10_turns 7 = .ok (.imul, 1) := by decide +kernel
theorem dX10_turns_8 : decode cX10_turns 8 = .ok (.iload_n 2, 1) := by decide +kernel
theorem dX10_turns_9 : decode cX10_turns 9 = .ok (.iadd, 1) := by decide +kernel
theorem dX10_turns_10 : decode cX10_turns 10 = .ok (.laload, 1) := by decide +kernel
theorem dX10_turns_11 : decode cX10_turns 11 = .ok (.lstore_n 3, 1) := by decide +kernel
theorem dX10_turns_12 : decode cX10_turns 12 = .ok (.iconst 0, 1) := by decide +kernel
theorem dX10_turns_13 : decode cX10_turns 13 = .ok (.istore 5, 2) := by decide +kernel
theorem dX10_turns_15 : decode cX10_turns 15 = .ok (.iload 5, 2) := by decide +kernel
theorem dX10_turns_17 : decode cX10_turns 17 = .ok (.bipush 10, 2) := by decide +kernel
theorem dX10_turns_19 : decode cX10_turns 19 = .ok (.if_icmp .gt 110, 3) := by decide +kernel
theorem dX10_turns_22 : decode cX10_turns 22 = .ok (.iload 5, 2) := by decide +kernel
theorem dX10_turns_24 : decode cX10_turns 24 = .ok (.iload_n 1, 1) := by decide +kernel
theorem dX10_turns_25 : decode cX10_turns 25 = .ok (.if_icmp .eq 98, 3) := by decide +kernel
theorem dX10_turns_28 : decode cX10_turns 28 = .ok (.iload 5, 2) := by decide +kernel
theorem dX10_turns_30 : decode cX10_turns 30 = .ok (.aload_n 0, 1) := by decide +kernel
theorem dX10_turns_31 : decode cX10_turns 31 = .ok (.getfield 43, 3) := by decide +kernel
theorem dX10_turns_34 : decode cX10_turns 34 = .ok (.if_icmp .lt 10, 3) := by decide +kernel
theorem dX10_turns_37 : decode cX10_turns 37 = .ok (.iload 5, 2) := by decide +kernel
theorem dX10_turns_39 : decode cX10_turns 39 = .ok (.bipush 10, 2) := by decide +kernel
theorem dX10_turns_41 : decode cX10_turns 41 = .ok (.if_icmp .ne 82, 3) := by decide +kernel
theorem dX10_turns_44 : decode cX10_turns 44 = .ok (.aload_n 0, 1) := by decide +kernel
theorem dX10_turns_45 : decode cX10_turns 45 = .ok (.getfield 19, 3) := by decide +kernel
theorem dX10_turns_48 : decode cX10_turns 48 = .ok (.bipush 27, 2) := by decide +kernel
theorem dX10_turns_50 : decode cX10_turns 50 = .ok (.iload 5, 2) := by decide +kernel
theorem dX10_turns_52 : decode cX10_turns 52 = .ok (.imul, 1) := by decide +kernel
theorem dX10_turns_53 : decode cX10_turns 53 = .ok (.iload_n 2, 1) := by decide +kernel
theorem dX10_turns_54 : decode cX10_turns 54 = .ok (.iadd, 1) := by decide +kernel
theorem dX10_turns_55 : decode cX10_turns 55 = .ok (.laload, 1) := by decide +kernel
theorem dX10_turns_56 : decode cX10_turns 56 = .ok (.lstore 6, 2) := by decide +kernel
theorem dX10_turns_58 : decode cX10_turns 58 = .ok (.iconst 0, 1) := by decide +kernel
theorem dX10_turns_59 : decode cX10_turns 59 = .ok (.istore 8, 2) := by decide +kernel
theorem dX10_turns_61 : decode cX10_turns 61 = .ok (.iload 8, 2) := by decide +kernel
theorem dX10_turns_63 : decode cX10_turns 63 = .ok (.bipush 27, 2) := by decide +kernel
theorem dX10_turns_65 : decode cX10_turns 65 = .ok (.if_icmp .ge 58, 3) := by decide +kernel
theorem dX10_turns_68 : decode cX10_turns 68 = .ok (.aload_n 0, 1) := by decide +kernel
theorem dX10_turns_69 : decode cX10_turns 69 = .ok (.getfield 19, 3) := by decide +kernel
theorem dX10_turns_72 : decode cX10_turns 72 = .ok (.bipush 27, 2) := by decide +kernel
theorem dX10_turns_74 : decode cX10_turns 74 = .ok (.iload 5, 2) := by decide +kernel
theorem dX10_turns_76 : decode cX10_turns 76 = .ok (.imul, 1) := by decide +kernel
theorem dX10_turns_77 : decode cX10_turns 77 = .ok (.iload 8, 2) := by decide +kernel
theorem dX10_turns_79 : decode cX10_turns 79 = .ok (.iadd, 1) := by decide +kernel
theorem dX10_turns_80 : decode cX10_turns 80 = .ok (.aload_n 0, 1) := by decide +kernel
theorem dX10_turns_81 : decode cX10_turns 81 = .ok (.getfield 19, 3) := by decide +kernel
theorem dX10_turns_84 : decode cX10_turns 84 = .ok (.bipush 27, 2) := by decide +kernel
theorem dX10_turns_86 : decode cX10_turns 86 = .ok (.iload 5, 2) := by decide +kernel
theorem dX10_turns_88 : decode cX10_turns 88 = .ok (.imul, 1) := by decide +kernel
theorem dX10_turns_89 : decode cX10_turns 89 = .ok (.iload 8, 2) := by decide +kernel
theorem dX10_turns_91 : decode cX10_turns 91 = .ok (.iadd, 1) := by decide +kernel
theorem dX10_turns_92 : decode cX10_turns 92 = .ok (.laload, 1) := by decide +kernel
theorem dX10_turns_93 : decode cX10_turns 93 = .ok (.lload_n 3, 1) := by decide +kernel
theorem dX10_turns_94 : decode cX10_turns 94 = .ok (.lmul, 1) := by decide +kernel
theorem dX10_turns_95 : decode cX10_turns 95 = .ok (.lload 6, 2) := by decide +kernel
theorem dX10_turns_97 : decode cX10_turns 97 = .ok (.aload_n 0, 1) := by decide +kernel
theorem dX10_turns_98 : decode cX10_turns 98 = .ok (.getfield 19, 3) := by decide +kernel
theorem dX10_turns_101 : decode cX10_turns 101 = .ok (.bipush 27, 2) := by decide +kernel
theorem dX10_turns_103 : decode cX10_turns 103 = .ok (.iload_n 1, 1) := by decide +kernel
theorem dX10_turns_104 : decode cX10_turns 104 = .ok (.imul, 1) := by decide +kernel
theorem dX10_turns_105 : decode cX10_turns 105 = .ok (.iload 8, 2) := by decide +kernel
theorem dX10_turns_107 : decode cX10_turns 107 = .ok (.iadd, 1) := by decide +kernel
theorem dX10_turns_108 : decode cX10_turns 108 = .ok (.laload, 1) := by decide +kernel
theorem dX10_turns_109 : decode cX10_turns 109 = .ok (.lmul, 1) := by decide +kernel
theorem dX10_turns_110 : decode cX10_turns 110 = .ok (.lsub, 1) := by decide +kernel
theorem dX10_turns_111 : decode cX10_turns 111 = .ok (.aload_n 0, 1) := by decide +kernel
theorem dX10_turns_112 : decode cX10_turns 112 = .ok (.getfield 99, 3) := by decide +kernel
theorem dX10_turns_115 : decode cX10_turns 115 = .ok (.ldiv, 1) := by decide +kernel
theorem dX10_turns_116 : decode cX10_turns 116 = .ok (.lastore, 1) := by decide +kernel
theorem dX10_turns_117 : decode cX10_turns 117 = .ok (.iinc 8 1, 3) := by decide +kernel
theorem dX10_turns_120 : decode cX10_turns 120 = .ok (.goto (-59), 3) := by decide +kernel
theorem dX10_turns_123 : decode cX10_turns 123 = .ok (.iinc 5 1, 3) := by decide +kernel
theorem dX10_turns_126 : decode cX10_turns 126 = .ok (.goto (-111), 3) := by decide +kernel
theorem dX10_turns_129 : decode cX10_turns 129 = .ok (.aload_n 0, 1) := by decide +kernel
theorem dX10_turns_130 : decode cX10_turns 130 = .ok (.lload_n 3, 1) := by decide +kernel
theorem dX10_turns_131 : decode cX10_turns 131 = .ok (.putfield 99, 3) := by decide +kernel
theorem dX10_turns_134 : decode cX10_turns 134 = .ok (.aload_n 0, 1) := by decide +kernel
theorem dX10_turns_135 : decode cX10_turns 135 = .ok (.getfield 23, 3) := by decide +kernel
theorem dX10_turns_138 : decode cX10_turns 138 = .ok (.iload_n 1, 1) := by decide +kernel
theorem dX10_turns_139 : decode cX10_turns 139 = .ok (.iload_n 2, 1) := by decide +kernel
theorem dX10_turns_140 : decode cX10_turns 140 = .ok (.iastore, 1) := by decide +kernel
theorem dX10_turns_141 : decode cX10_turns 141 = .ok (.return_, 1) := by decide +kernel
theorem dX10_divisor_0 : decode cX10_divisor 0 = .ok (.lload_n 0, 1) := by decide +kernel
theorem dX10_divisor_1 : decode cX10_divisor 1 = .ok (.lstore 4, 2) := by decide +kernel
theorem dX10_divisor_3 : decode cX10_divisor 3 = .ok (.lload_n 2, 1) := by decide +kernel
theorem dX10_divisor_4 : decode cX10_divisor 4 = .ok (.lstore 6, 2) := by decide +kernel
theorem dX10_divisor_6 : decode cX10_divisor 6 = .ok (.lload 6, 2) := by decide +kernel
theorem dX10_divisor_8 : decode cX10_divisor 8 = .ok (.lconst 0, 1) := by decide +kernel
theorem dX10_divisor_9 : decode cX10_divisor 9 = .ok (.lcmp, 1) := by decide +kernel
theorem dX10_divisor_10 : decode cX10_divisor 10 = .ok (.ifCond .eq 21, 3) := by decide +kernel
theorem dX10_divisor_13 : decode cX10_divisor 13 = .ok (.lload 4, 2) := by decide +kernel
theorem dX10_divisor_15 : decode cX10_divisor 15 = .ok (.lload 6, 2) := by decide +kernel
theorem dX10_divisor_17 : decode cX10_divisor 17 = .ok (.lrem, 1) := by decide +kernel
theorem dX10_divisor_18 : decode cX10_divisor 18 = .ok (.lstore 8, 2) := by decide +kernel
theorem dX10_divisor_20 : decode cX10_divisor 20 = .ok (.lload 6, 2) := by decide +kernel
theorem dX10_divisor_22 : decode cX10_divisor 22 = .ok (.lstore 4, 2) := by decide +kernel
theorem dX10_divisor_24 : decode cX10_divisor 24 = .ok (.lload 8, 2) := by decide +kernel
theorem dX10_divisor_26 : decode cX10_divisor 26 = .ok (.lstore 6, 2) := by decide +kernel
theorem dX10_divisor_28 : decode cX10_divisor 28 = .ok (.goto (-22), 3) := by decide +kernel
theorem dX10_divisor_31 : decode cX10_divisor 31 = .ok (.lload 4, 2) := by decide +kernel
theorem dX10_divisor_33 : decode cX10_divisor 33 = .ok (.lreturn, 1) := by decide +kernel
set_option maxRecDepth 20000 in
theorem ggX10_tells_X10_divisor : GoodIn wsX10_tells wsX10_divisor := sw_good (sw_cons (t1_ (al_ (t4_ (t1_ h1_)))) sw_nil) (by decide +kernel)
set_option maxRecDepth 20000 in
theorem gX10_tells_X10_divisor : GoodIn wsX10_tells (va_wsS RX10 104 yX10_divisor wsX10_divisor) := goodIn_app (sw_good (sw_cons (t1_ (al_ (t1_ (t1_ h1_)))) (sw_cons (t1_ (al_ (t1_ (t1_ (t1_ h1_))))) (sw_cons (t1_ (al_ (t4_ h1_))) sw_nil))) (by decide +kernel)) ggX10_tells_X10_divisor
theorem dX10_tells_0 : decode cX10_tells 0 = .ok (.lload_n 1, 1) := by decide +kernel
theorem dX10_tells_1 : decode cX10_tells 1 = .ok (.lload_n 3, 1) := by decide +kernel
theorem dX10_tells_2 : decode cX10_tells 2 = .ok (.invokestatic 104, 3) := by decide +kernel
theorem dX10_tells_5 : decode cX10_tells 5 = .ok (.lstore 5, 2) := by decide +kernel
theorem dX10_tells_7 : decode cX10_tells 7 = .ok (.aload_n 0, 1) := by decide +kernel
theorem dX10_tells_8 : decode cX10_tells 8 = .ok (.lload_n 1, 1) := by decide +kernel
theorem dX10_tells_9 : decode cX10_tells 9 = .ok (.lload 5, 2) := by decide +kernel
theorem dX10_tells_11 : decode cX10_tells 11 = .ok (.ldiv, 1) := by decide +kernel
theorem dX10_tells_12 : decode cX10_tells 12 = .ok (.putfield 108, 3) := by decide +kernel
theorem dX10_tells_15 : decode cX10_tells 15 = .ok (.aload_n 0, 1) := by decide +kernel
theorem dX10_tells_16 : decode cX10_tells 16 = .ok (.lload_n 3, 1) := by decide +kernel
theorem dX10_tells_17 : decode cX10_tells 17 = .ok (.lload 5, 2) := by decide +kernel
theorem dX10_tells_19 : decode cX10_tells 19 = .ok (.ldiv, 1) := by decide +kernel
theorem dX10_tells_20 : decode cX10_tells 20 = .ok (.putfield 47, 3) := by decide +kernel
theorem dX10_tells_23 : decode cX10_tells 23 = .ok (.iconst 1, 1) := by decide +kernel
theorem dX10_tells_24 : decode cX10_tells 24 = .ok (.ireturn, 1) := by decide +kernel
set_option maxRecDepth 20000 in
theorem ggX10_shares_X10_lays : GoodIn wsX10_shares wsX10_lays := sw_good (sw_cons (t1_ (al_ (al_ (t4_ (t1_ (t1_ h1_)))))) (sw_app (sw_cons (t1_ (al_ (al_ h1_))) (sw_cons (t1_ (al_ (al_ (t1_ h1_)))) (sw_cons (t1_ (al_ (al_ (t4_ (t1_ (t1_ (t1_ h1_))))))) (sw_cons (t1_ (al_ (al_ (t4_ (t4_ h1_))))) (sw_cons (t1_ (al_ (al_ (t4_ (t4_ (t1_ h1_)))))) (sw_cons (t1_ (al_ (al_ (t4_ (t4_ (t1_ (t1_ h1_))))))) (sw_cons (t1_ (al_ (al_ (t4_ (t4_ (t1_ (t1_ (t1_ h1_)))))))) (sw_cons (t1_ (al_ (al_ (t4_ (t4_ (t4_ h1_)))))) sw_nil)))))))) (fun _ h => (t1_ (ar_ h))))) (by decide +kernel)
set_option maxRecDepth 20000 in
theorem gX10_shares_X10_lays : GoodIn wsX10_shares (wsV RX10 111 RX10 yX10_lays wsX10_lays) := goodIn_app (sw_good (sw_cons (t1_ (al_ (al_ (t1_ (t1_ h1_))))) (sw_cons (t1_ (al_ (al_ (t1_ (t1_ (t1_ h1_)))))) (sw_cons (t1_ (al_ (al_ (t4_ h1_)))) (sw_cons (t1_ (al_ (al_ (t4_ (t1_ h1_))))) sw_nil)))) (by decide +kernel)) ggX10_shares_X10_lays
set_option maxRecDepth 20000 in
theorem ggX10_shares_X10_enters : GoodIn wsX10_shares wsX10_enters := sw_good (sw_cons (t1_ (al_ (al_ (t16_ h1_)))) (sw_app (sw_cons (t1_ (al_ (al_ h1_))) sw_nil) (fun _ h => (t1_ (ar_ h))))) (by decide +kernel)
set_option maxRecDepth 20000 in
theorem gX10_shares_X10_enters : GoodIn wsX10_shares (wsV RX10 114 RX10 yX10_enters wsX10_enters) := goodIn_app (sw_good (sw_cons (t1_ (al_ (al_ (t4_ (t4_ (t4_ (t1_ h1_))))))) (sw_cons (t1_ (al_ (al_ (t4_ (t4_ (t4_ (t1_ (t1_ h1_)))))))) (sw_cons (t1_ (al_ (al_ (t4_ (t4_ (t4_ (t1_ (t1_ (t1_ h1_))))))))) (sw_cons (t1_ (al_ (al_ (t4_ (t1_ h1_))))) sw_nil)))) (by decide +kernel)) ggX10_shares_X10_enters
set_option maxRecDepth 20000 in
theorem ggX10_shares_X10_leaves : GoodIn wsX10_shares wsX10_leaves := sw_good (sw_cons (t1_ (al_ (al_ (t16_ (t4_ h1_))))) (sw_app (sw_cons (t1_ (al_ (al_ (t4_ (t1_ (t1_ (t1_ h1_))))))) (sw_cons (t1_ (al_ (al_ h1_))) (sw_cons (t1_ (al_ (al_ (t4_ (t4_ (t4_ h1_)))))) (sw_cons (t1_ (al_ (al_ (t4_ (t4_ (t1_ (t1_ (t1_ h1_)))))))) sw_nil)))) (fun _ h => (t1_ (ar_ h))))) (by decide +kernel)
set_option maxRecDepth 20000 in
theorem gX10_shares_X10_leaves : GoodIn wsX10_shares (wsV RX10 117 RX10 yX10_leaves wsX10_leaves) := goodIn_app (sw_good (sw_cons (t1_ (al_ (al_ (t16_ (t1_ h1_))))) (sw_cons (t1_ (al_ (al_ (t16_ (t1_ (t1_ h1_)))))) (sw_cons (t1_ (al_ (al_ (t16_ (t1_ (t1_ (t1_ h1_))))))) (sw_cons (t1_ (al_ (al_ (t4_ (t1_ h1_))))) sw_nil)))) (by decide +kernel)) ggX10_shares_X10_leaves
set_option maxRecDepth 20000 in
theorem ggX10_shares_X10_turns : GoodIn wsX10_shares wsX10_turns := sw_good (sw_cons (t1_ (al_ (ar_ h1_))) (sw_app (sw_cons (t1_ (al_ (al_ h1_))) (sw_cons (t1_ (al_ (al_ (t4_ (t1_ (t1_ (t1_ h1_))))))) (sw_cons (t1_ (al_ (al_ (t1_ h1_)))) (sw_cons (t1_ (al_ (al_ (t4_ (t4_ (t1_ (t1_ (t1_ h1_)))))))) sw_nil)))) (fun _ h => (t1_ (ar_ h))))) (by decide +kernel)
set_option maxRecDepth 20000 in
theorem gX10_shares_X10_turns : GoodIn wsX10_shares (wsV RX10 120 RX10 yX10_turns wsX10_turns) := goodIn_app (sw_good (sw_cons (t1_ (al_ (al_ (t16_ (t4_ (t1_ h1_)))))) (sw_cons (t1_ (al_ (al_ (t16_ (t4_ (t1_ (t1_ h1_))))))) (sw_cons (t1_ (al_ (al_ (t16_ (t4_ (t1_ (t1_ (t1_ h1_)))))))) (sw_cons (t1_ (al_ (al_ (t4_ (t1_ h1_))))) sw_nil)))) (by decide +kernel)) ggX10_shares_X10_turns
set_option maxRecDepth 20000 in
theorem ggX10_shares_X10_tells : GoodIn wsX10_shares wsX10_tells := sw_good (sw_cons (t1_ (al_ (ar_ (t4_ h1_)))) (sw_app (sw_cons (t1_ (al_ (ar_ (t4_ (t1_ h1_))))) (sw_cons (t1_ (al_ (ar_ (t4_ (t1_ (t1_ h1_)))))) (sw_cons (t1_ (al_ (ar_ (t4_ (t1_ (t1_ (t1_ h1_))))))) (sw_cons (t1_ (al_ (ar_ (t4_ (t4_ h1_))))) (sw_cons (t1_ (al_ (al_ (t4_ (t1_ h1_))))) (sw_cons (t1_ (al_ (ar_ (t4_ (t4_ (t1_ h1_)))))) sw_nil)))))) (fun _ h => (t1_ (ar_ h))))) (by decide +kernel)
set_option maxRecDepth 20000 in
theorem gX10_shares_X10_tells : GoodIn wsX10_shares (wsV RX10 124 RX10 yX10_tells wsX10_tells) := goodIn_app (sw_good (sw_cons (t1_ (al_ (ar_ (t1_ h1_)))) (sw_cons (t1_ (al_ (ar_ (t1_ (t1_ h1_))))) (sw_cons (t1_ (al_ (ar_ (t1_ (t1_ (t1_ h1_)))))) (sw_cons (t1_ (al_ (al_ (t4_ (t1_ h1_))))) sw_nil)))) (by decide +kernel)) ggX10_shares_X10_tells
theorem dX10_shares_0 : decode cX10_shares 0 = .ok (.aload_n 0, 1) := by decide +kernel
theorem dX10_shares_1 : decode cX10_shares 1 = .ok (.invokevirtual 111, 3) := by decide +kernel
theorem dX10_shares_4 : decode cX10_shares 4 = .ok (.aload_n 0, 1) := by decide +kernel
theorem dX10_shares_5 : decode cX10_shares 5 = .ok (.invokevirtual 114, 3) := by decide +kernel
theorem dX10_shares_8 : decode cX10_shares 8 = .ok (.istore_n 1, 1) := by decide +kernel
theorem dX10_shares_9 : decode cX10_shares 9 = .ok (.iload_n 1, 1) := by decide +kernel
theorem dX10_shares_10 : decode cX10_shares 10 = .ok (.iconst (-1), 1) := by decide +kernel
theorem dX10_shares_11 : decode cX10_shares 11 = .ok (.if_icmp .eq 21, 3) := by decide +kernel
theorem dX10_shares_14 : decode cX10_shares 14 = .ok (.aload_n 0, 1) := by decide +kernel
theorem dX10_shares_15 : decode cX10_shares 15 = .ok (.aload_n 0, 1) := by decide +kernel
theorem dX10_shares_16 : decode cX10_shares 16 = .ok (.iload_n 1, 1) := by decide +kernel
theorem dX10_shares_17 : decode cX10_shares 17 = .ok (.invokevirtual 117, 3) := by decide +kernel
theorem dX10_shares_20 : decode cX10_shares 20 = .ok (.iload_n 1, 1) := by decide +kernel
theorem dX10_shares_21 : decode cX10_shares 21 = .ok (.invokevirtual 120, 3) := by decide +kernel
theorem dX10_shares_24 : decode cX10_shares 24 = .ok (.aload_n 0, 1) := by decide +kernel
theorem dX10_shares_25 : decode cX10_shares 25 = .ok (.invokevirtual 114, 3) := by decide +kernel
theorem dX10_shares_28 : decode cX10_shares 28 = .ok (.istore_n 1, 1) := by decide +kernel
theorem dX10_shares_29 : decode cX10_shares 29 = .ok (.goto (-20), 3) := by decide +kernel
theorem dX10_shares_32 : decode cX10_shares 32 = .ok (.aload_n 0, 1) := by decide +kernel
theorem dX10_shares_33 : decode cX10_shares 33 = .ok (.aload_n 0, 1) := by decide +kernel
theorem dX10_shares_34 : decode cX10_shares 34 = .ok (.getfield 19, 3) := by decide +kernel
theorem dX10_shares_37 : decode cX10_shares 37 = .ok (.sipush 296, 3) := by decide +kernel
theorem dX10_shares_40 : decode cX10_shares 40 = .ok (.laload, 1) := by decide +kernel
theorem dX10_shares_41 : decode cX10_shares 41 = .ok (.aload_n 0, 1) := by decide +kernel
theorem dX10_shares_42 : decode cX10_shares 42 = .ok (.getfield 99, 3) := by decide +kernel
theorem dX10_shares_45 : decode cX10_shares 45 = .ok (.invokevirtual 124, 3) := by decide +kernel
theorem dX10_shares_48 : decode cX10_shares 48 = .ok (.ireturn, 1) := by decide +kernel
theorem dX10_part_0 : decode cX10_part 0 = .ok (.iload_n 1, 1) := by decide +kernel
theorem dX10_part_1 : decode cX10_part 1 = .ok (.ifCond .ne 10, 3) := by decide +kernel
theorem dX10_part_4 : decode cX10_part 4 = .ok (.aload_n 0, 1) := by decide +kernel
theorem dX10_part_5 : decode cX10_part 5 = .ok (.getfield 108, 3) := by decide +kernel
theorem dX10_part_8 : decode cX10_part 8 = .ok (.goto 18, 3) := by decide +kernel
theorem dX10_part_11 : decode cX10_part 11 = .ok (.iload_n 1, 1) := by decide +kernel
theorem dX10_part_12 : decode cX10_part 12 = .ok (.iconst 1, 1) := by decide +kernel
theorem dX10_part_13 : decode cX10_part 13 = .ok (.if_icmp .ne 10, 3) := by decide +kernel
theorem dX10_part_16 : decode cX10_part 16 = .ok (.aload_n 0, 1) := by decide +kernel
theorem dX10_part_17 : decode cX10_part 17 = .ok (.getfield 47, 3) := by decide +kernel
theorem dX10_part_20 : decode cX10_part 20 = .ok (.goto 6, 3) := by decide +kernel
theorem dX10_part_23 : decode cX10_part 23 = .ok (.ldc2_w 102, 3) := by decide +kernel
theorem dX10_part_26 : decode cX10_part 26 = .ok (.lreturn, 1) := by decide +kernel
theorem dX10_areApart_0 : decode cX10_areApart 0 = .ok (.iconst 0, 1) := by decide +kernel
theorem dX10_areApart_1 : decode cX10_areApart 1 = .ok (.istore_n 2, 1) := by decide +kernel
theorem dX10_areApart_2 : decode cX10_areApart 2 = .ok (.iconst 1, 1) := by decide +kernel
theorem dX10_areApart_3 : decode cX10_areApart 3 = .ok (.istore_n 3, 1) := by decide +kernel
theorem dX10_areApart_4 : decode cX10_areApart 4 = .ok (.iconst 0, 1) := by decide +kernel
theorem dX10_areApart_5 : decode cX10_areApart 5 = .ok (.istore 4, 2) := by decide +kernel
theorem dX10_areApart_7 : decode cX10_areApart 7 = .ok (.iload 4, 2) := by decide +kernel
theorem dX10_areApart_9 : decode cX10_areApart 9 = .ok (.aload_n 0, 1) := by decide +kernel
theorem dX10_areApart_10 : decode cX10_areApart 10 = .ok (.getfield 61, 3) := by decide +kernel
theorem dX10_areApart_13 : decode cX10_areApart 13 = .ok (.if_icmp .ge 51, 3) := by decide +kernel
theorem dX10_areApart_16 : decode cX10_areApart 16 = .ok (.iload_n 3, 1) := by decide +kernel
theorem dX10_areApart_17 : decode cX10_areApart 17 = .ok (.ifCond .eq 47, 3) := by decide +kernel
theorem dX10_areApart_20 : decode cX10_areApart 20 = .ok (.iload_n 1, 1) := by decide +kernel
theorem dX10_areApart_21 : decode cX10_areApart 21 = .ok (.iload 4, 2) := by decide +kernel
theorem dX10_areApart_23 : decode cX10_areApart 23 = .ok (.ishr, 1) := by decide +kernel
theorem dX10_areApart_24 : decode cX10_areApart 24 = .ok (.iconst 1, 1) := by decide +kernel
theorem dX10_areApart_25 : decode cX10_areApart 25 = .ok (.iand, 1) := by decide +kernel
theorem dX10_areApart_26 : decode cX10_areApart 26 = .ok (.iconst 1, 1) := by decide +kernel
theorem dX10_areApart_27 : decode cX10_areApart 27 = .ok (.if_icmp .ne 31, 3) := by decide +kernel
theorem dX10_areApart_30 : decode cX10_areApart 30 = .ok (.iload_n 2, 1) := by decide +kernel
theorem dX10_areApart_31 : decode cX10_areApart 31 = .ok (.aload_n 0, 1) := by decide +kernel
theorem dX10_areApart_32 : decode cX10_areApart 32 = .ok (.getfield 7, 3) := by decide +kernel
theorem dX10_areApart_35 : decode cX10_areApart 35 = .ok (.iload 4, 2) := by decide +kernel
theorem dX10_areApart_37 : decode cX10_areApart 37 = .ok (.iaload, 1) := by decide +kernel
theorem dX10_areApart_38 : decode cX10_areApart 38 = .ok (.iand, 1) := by decide +kernel
theorem dX10_areApart_39 : decode cX10_areApart 39 = .ok (.ifCond .ne 7, 3) := by decide +kernel
theorem dX10_areApart_42 : decode cX10_areApart 42 = .ok (.iconst 1, 1) := by decide +kernel
theorem dX10_areApart_43 : decode cX10_areApart 43 = .ok (.goto 4, 3) := by decide +kernel
theorem dX10_areApart_46 : decode cX10_areApart 46 = .ok (.iconst 0, 1) := by decide +kernel
theorem dX10_areApart_47 : decode cX10_areApart 47 = .ok (.istore_n 3, 1) := by decide +kernel
theorem dX10_areApart_48 : decode cX10_areApart 48 = .ok (.iload_n 2, 1) := by decide +kernel
theorem dX10_areApart_49 : decode cX10_areApart 49 = .ok (.aload_n 0, 1) := by decide +kernel
theorem dX10_areApart_50 : decode cX10_areApart 50 = .ok (.getfield 7, 3) := by decide +kernel
theorem dX10_areApart_53 : decode cX10_areApart 53 = .ok (.iload 4, 2) := by decide +kernel
theorem dX10_areApart_55 : decode cX10_areApart 55 = .ok (.iaload, 1) := by decide +kernel
theorem dX10_areApart_56 : decode cX10_areApart 56 = .ok (.ior, 1) := by decide +kernel
theorem dX10_areApart_57 : decode cX10_areApart 57 = .ok (.istore_n 2, 1) := by decide +kernel
theorem dX10_areApart_58 : decode cX10_areApart 58 = .ok (.iinc 4 1, 3) := by decide +kernel
theorem dX10_areApart_61 : decode cX10_areApart 61 = .ok (.goto (-54), 3) := by decide +kernel
theorem dX10_areApart_64 : decode cX10_areApart 64 = .ok (.iload_n 3, 1) := by decide +kernel
theorem dX10_areApart_65 : decode cX10_areApart 65 = .ok (.ireturn, 1) := by decide +kernel
set_option maxRecDepth 20000 in
theorem ggX10_apartOf_X10_sizeOf : GoodIn wsX10_apartOf wsX10_sizeOf := sw_good (sw_cons (t1_ (al_ (t4_ h1_))) sw_nil) (by decide +kernel)
set_option maxRecDepth 20000 in
theorem gX10_apartOf_X10_sizeOf : GoodIn wsX10_apartOf (va_wsS RX10 86 yX10_sizeOf wsX10_sizeOf) := goodIn_app (sw_good (sw_cons (t1_ (al_ (t1_ h1_))) (sw_cons (t1_ (al_ (t1_ (t1_ h1_)))) (sw_cons (t1_ (al_ (t1_ (t1_ (t1_ h1_))))) sw_nil))) (by decide +kernel)) ggX10_apartOf_X10_sizeOf
set_option maxRecDepth 20000 in
theorem ggX10_apartOf_X10_areApart : GoodIn wsX10_apartOf wsX10_areApart := sw_good (sw_cons (t1_ (al_ (t4_ (t4_ h1_)))) (sw_app (sw_cons (t1_ (al_ h1_)) (sw_cons (t1_ (al_ (t4_ (t4_ (t1_ h1_))))) sw_nil)) (fun _ h => (t1_ (ar_ h))))) (by decide +kernel)
set_option maxRecDepth 20000 in
theorem gX10_apartOf_X10_areApart : GoodIn wsX10_apartOf (wsV RX10 128 RX10 yX10_areApart wsX10_areApart) := goodIn_app (sw_good (sw_cons (t1_ (al_ (t4_ (t1_ h1_)))) (sw_cons (t1_ (al_ (t4_ (t1_ (t1_ h1_))))) (sw_cons (t1_ (al_ (t4_ (t1_ (t1_ (t1_ h1_)))))) (sw_cons (t1_ (al_ (t1_ (t1_ (t1_ h1_))))) sw_nil)))) (by decide +kernel)) ggX10_apartOf_X10_areApart
theorem dX10_apartOf_0 : decode cX10_apartOf 0 = .ok (.iconst 0, 1) := by decide +kernel
theorem dX10_apartOf_1 : decode cX10_apartOf 1 = .ok (.istore_n 1, 1) := by decide +kernel
theorem dX10_apartOf_2 : decode cX10_apartOf 2 = .ok (.iconst 1, 1) := by decide +kernel
theorem dX10_apartOf_3 : decode cX10_apartOf 3 = .ok (.istore_n 2, 1) := by decide +kernel
theorem dX10_apartOf_4 : decode cX10_apartOf 4 = .ok (.iload_n 2, 1) := by decide +kernel
theorem dX10_apartOf_5 : decode cX10_apartOf 5 = .ok (.iconst 1, 1) := by decide +kernel
theorem dX10_apartOf_6 : decode cX10_apartOf 6 = .ok (.aload_n 0, 1) := by decide +kernel
theorem dX10_apartOf_7 : decode cX10_apartOf 7 = .ok (.getfield 61, 3) := by decide +kernel
theorem dX10_apartOf_10 : decode cX10_apartOf 10 = .ok (.ishl, 1) := by decide +kernel
theorem dX10_apartOf_11 : decode cX10_apartOf 11 = .ok (.if_icmp .ge 34, 3) := by decide +kernel
theorem dX10_apartOf_14 : decode cX10_apartOf 14 = .ok (.iload_n 2, 1) := by decide +kernel
theorem dX10_apartOf_15 : decode cX10_apartOf 15 = .ok (.invokestatic 86, 3) := by decide +kernel
theorem dX10_apartOf_18 : decode cX10_apartOf 18 = .ok (.iload_n 1, 1) := by decide +kernel
theorem dX10_apartOf_19 : decode cX10_apartOf 19 = .ok (.invokestatic 86, 3) := by decide +kernel
theorem dX10_apartOf_22 : decode cX10_apartOf 22 = .ok (.if_icmp .le 15, 3) := by decide +kernel
theorem dX10_apartOf_25 : decode cX10_apartOf 25 = .ok (.aload_n 0, 1) := by decide +kernel
theorem dX10_apartOf_26 : decode cX10_apartOf 26 = .ok (.iload_n 2, 1) := by decide +kernel
theorem dX10_apartOf_27 : decode cX10_apartOf 27 = .ok (.invokevirtual 128, 3) := by decide +kernel
theorem dX10_apartOf_30 : decode cX10_apartOf 30 = .ok (.ifCond .eq 7, 3) := by decide +kernel
theorem dX10_apartOf_33 : decode cX10_apartOf 33 = .ok (.iload_n 2, 1) := by decide +kernel
theorem dX10_apartOf_34 : decode cX10_apartOf 34 = .ok (.goto 4, 3) := by decide +kernel
theorem dX10_apartOf_37 : decode cX10_apartOf 37 = .ok (.iload_n 1, 1) := by decide +kernel
theorem dX10_apartOf_38 : decode cX10_apartOf 38 = .ok (.istore_n 1, 1) := by decide +kernel
theorem dX10_apartOf_39 : decode cX10_apartOf 39 = .ok (.iinc 2 1, 3) := by decide +kernel
theorem dX10_apartOf_42 : decode cX10_apartOf 42 = .ok (.goto (-38), 3) := by decide +kernel
theorem dX10_apartOf_45 : decode cX10_apartOf 45 = .ok (.iload_n 1, 1) := by decide +kernel
theorem dX10_apartOf_46 : decode cX10_apartOf 46 = .ok (.ireturn, 1) := by decide +kernel
set_option maxRecDepth 20000 in
theorem ggX10_apart_X10_apartOf : GoodIn wsX10_apart wsX10_apartOf := sw_good (sw_cons (t1_ (al_ (t4_ h1_))) (sw_app (sw_cons (t1_ (al_ (t4_ (t1_ h1_)))) (sw_cons (t1_ (al_ (t4_ (t1_ (t1_ h1_))))) (sw_cons (t1_ (al_ (t4_ (t1_ (t1_ (t1_ h1_)))))) (sw_cons (t1_ (al_ (t1_ (t1_ (t1_ h1_))))) (sw_cons (t1_ (al_ (t4_ (t4_ h1_)))) (sw_cons (t1_ (al_ (t4_ (t4_ (t1_ h1_))))) (sw_cons (t1_ (al_ (t4_ (t4_ (t1_ (t1_ h1_)))))) (sw_cons (t1_ (al_ (t4_ (t4_ (t1_ (t1_ (t1_ h1_))))))) (sw_cons (t1_ (al_ (t4_ (t4_ (t4_ h1_))))) (sw_cons (t1_ (al_ (t4_ (t4_ (t4_ (t1_ h1_)))))) sw_nil)))))))))) (fun _ h => (t1_ (ar_ h))))) (by decide +kernel)
set_option maxRecDepth 20000 in
theorem gX10_apart_X10_apartOf : GoodIn wsX10_apart (wsV RX10 131 RX10 yX10_apartOf wsX10_apartOf) := goodIn_app (sw_good (sw_cons (t1_ (al_ h1_)) (sw_cons (t1_ (al_ (t1_ h1_))) (sw_cons (t1_ (al_ (t1_ (t1_ h1_)))) (sw_cons (t1_ (al_ (t1_ (t1_ (t1_ h1_))))) sw_nil)))) (by decide +kernel)) ggX10_apart_X10_apartOf
theorem dX10_apart_0 : decode cX10_apart 0 = .ok (.aload_n 0, 1) := by decide +kernel
theorem dX10_apart_1 : decode cX10_apart 1 = .ok (.invokevirtual 131, 3) := by decide +kernel
theorem dX10_apart_4 : decode cX10_apart 4 = .ok (.ireturn, 1) := by decide +kernel
set_option maxRecDepth 20000 in
theorem ggX10_common_X10_all : GoodIn wsX10_common wsX10_all := sw_good (sw_cons (t1_ (al_ (t4_ (t1_ (t1_ h1_))))) (sw_app (sw_cons (t1_ (al_ (t4_ (t1_ (t1_ (t1_ h1_)))))) sw_nil) (fun _ h => (t1_ (ar_ h))))) (by decide +kernel)
set_option maxRecDepth 20000 in
theorem gX10_common_X10_all : GoodIn wsX10_common (wsV RX10 55 RX10 yX10_all wsX10_all) := goodIn_app (sw_good (sw_cons (t1_ (al_ (t1_ (t1_ h1_)))) (sw_cons (t1_ (al_ (t1_ (t1_ (t1_ h1_))))) (sw_cons (t1_ (al_ (t4_ h1_))) (sw_cons (t1_ (al_ (t4_ (t1_ h1_)))) sw_nil)))) (by decide +kernel)) ggX10_common_X10_all
theorem dX10_common_0 : decode cX10_common 0 = .ok (.aload_n 0, 1) := by decide +kernel
theorem dX10_common_1 : decode cX10_common 1 = .ok (.invokevirtual 55, 3) := by decide +kernel
theorem dX10_common_4 : decode cX10_common 4 = .ok (.istore_n 2, 1) := by decide +kernel
theorem dX10_common_5 : decode cX10_common 5 = .ok (.iconst 0, 1) := by decide +kernel
theorem dX10_common_6 : decode cX10_common 6 = .ok (.istore_n 3, 1) := by decide +kernel
theorem dX10_common_7 : decode cX10_common 7 = .ok (.iload_n 3, 1) := by decide +kernel
theorem dX10_common_8 : decode cX10_common 8 = .ok (.aload_n 0, 1) := by decide +kernel
theorem dX10_common_9 : decode cX10_common 9 = .ok (.getfield 61, 3) := by decide +kernel
theorem dX10_common_12 : decode cX10_common 12 = .ok (.if_icmp .ge 31, 3) := by decide +kernel
theorem dX10_common_15 : decode cX10_common 15 = .ok (.iload_n 2, 1) := by decide +kernel
theorem dX10_common_16 : decode cX10_common 16 = .ok (.iload_n 1, 1) := by decide +kernel
theorem dX10_common_17 : decode cX10_common 17 = .ok (.iload_n 3, 1) := by decide +kernel
theorem dX10_common_18 : decode cX10_common 18 = .ok (.ishr, 1) := by decide +kernel
theorem dX10_common_19 : decode cX10_common 19 = .ok (.iconst 1, 1) := by decide +kernel
theorem dX10_common_20 : decode cX10_common 20 = .ok (.iand, 1) := by decide +kernel
theorem dX10_common_21 : decode cX10_common 21 = .ok (.iconst 1, 1) := by decide +kernel
theorem dX10_common_22 : decode cX10_common 22 = .ok (.if_icmp .ne 12, 3) := by decide +kernel
theorem dX10_common_25 : decode cX10_common 25 = .ok (.aload_n 0, 1) := by decide +kernel
theorem dX10_common_26 : decode cX10_common 26 = .ok (.getfield 7, 3) := by decide +kernel
theorem dX10_common_29 : decode cX10_common 29 = .ok (.iload_n 3, 1) := by decide +kernel
theorem dX10_common_30 : decode cX10_common 30 = .ok (.iaload, 1) := by decide +kernel
theorem dX10_common_31 : decode cX10_common 31 = .ok (.goto 4, 3) := by decide +kernel
theorem dX10_common_34 : decode cX10_common 34 = .ok (.iload_n 2, 1) := by decide +kernel
theorem dX10_common_35 : decode cX10_common 35 = .ok (.iand, 1) := by decide +kernel
theorem dX10_common_36 : decode cX10_common 36 = .ok (.istore_n 2, 1) := by decide +kernel
theorem dX10_common_37 : decode cX10_common 37 = .ok (.iinc 3 1, 3) := by decide +kernel
theorem dX10_common_40 : decode cX10_common 40 = .ok (.goto (-33), 3) := by decide +kernel
theorem dX10_common_43 : decode cX10_common 43 = .ok (.iload_n 2, 1) := by decide +kernel
theorem dX10_common_44 : decode cX10_common 44 = .ok (.ireturn, 1) := by decide +kernel
set_option maxRecDepth 20000 in
theorem ggX10_isStar_X10_common : GoodIn wsX10_isStar wsX10_common := sw_good (sw_cons (t1_ (al_ (t4_ (t1_ (t1_ h1_))))) (sw_app (sw_cons (t1_ (al_ h1_)) (sw_cons (t1_ (al_ (t1_ h1_))) (sw_cons (t1_ (al_ (t4_ (t1_ (t1_ (t1_ h1_)))))) (sw_cons (t1_ (al_ (t4_ (t4_ h1_)))) (sw_cons (t1_ (al_ (t4_ (t4_ (t1_ h1_))))) (sw_cons (t1_ (al_ (t4_ (t1_ h1_)))) (sw_cons (t1_ (al_ (t4_ (t4_ (t1_ (t1_ h1_)))))) (sw_cons (t1_ (al_ (t4_ (t4_ (t1_ (t1_ (t1_ h1_))))))) sw_nil)))))))) (fun _ h => (t1_ (ar_ h))))) (by decide +kernel)
set_option maxRecDepth 20000 in
theorem gX10_isStar_X10_common : GoodIn wsX10_isStar (wsV RX10 134 RX10 yX10_common wsX10_common) := goodIn_app (sw_good (sw_cons (t1_ (al_ (t1_ (t1_ h1_)))) (sw_cons (t1_ (al_ (t1_ (t1_ (t1_ h1_))))) (sw_cons (t1_ (al_ (t4_ h1_))) (sw_cons (t1_ (al_ (t4_ (t1_ h1_)))) sw_nil)))) (by decide +kernel)) ggX10_isStar_X10_common
theorem dX10_isStar_0 : decode cX10_isStar 0 = .ok (.aload_n 0, 1) := by decide +kernel
theorem dX10_isStar_1 : decode cX10_isStar 1 = .ok (.iload_n 1, 1) := by decide +kernel
theorem dX10_isStar_2 : decode cX10_isStar 2 = .ok (.invokevirtual 134, 3) := by decide +kernel
theorem dX10_isStar_5 : decode cX10_isStar 5 = .ok (.istore_n 2, 1) := by decide +kernel
theorem dX10_isStar_6 : decode cX10_isStar 6 = .ok (.iconst 0, 1) := by decide +kernel
theorem dX10_isStar_7 : decode cX10_isStar 7 = .ok (.istore_n 3, 1) := by decide +kernel
theorem dX10_isStar_8 : decode cX10_isStar 8 = .ok (.iconst 1, 1) := by decide +kernel
theorem dX10_isStar_9 : decode cX10_isStar 9 = .ok (.istore 4, 2) := by decide +kernel
theorem dX10_isStar_11 : decode cX10_isStar 11 = .ok (.iconst 0, 1) := by decide +kernel
theorem dX10_isStar_12 : decode cX10_isStar 12 = .ok (.istore 5, 2) := by decide +kernel
theorem dX10_isStar_14 : decode cX10_isStar 14 = .ok (.iload 5, 2) := by decide +kernel
theorem dX10_isStar_16 : decode cX10_isStar 16 = .ok (.aload_n 0, 1) := by decide +kernel
theorem dX10_isStar_17 : decode cX10_isStar 17 = .ok (.getfield 61, 3) := by decide +kernel
theorem dX10_isStar_20 : decode cX10_isStar 20 = .ok (.if_icmp .ge 57, 3) := by decide +kernel
theorem dX10_isStar_23 : decode cX10_isStar 23 = .ok (.iload 4, 2) := by decide +kernel
theorem dX10_isStar_25 : decode cX10_isStar 25 = .ok (.ifCond .eq 52, 3) := by decide +kernel
theorem dX10_isStar_28 : decode cX10_isStar 28 = .ok (.iload_n 1, 1) := by decide +kernel
theorem dX10_isStar_29 : decode cX10_isStar 29 = .ok (.iload 5, 2) := by decide +kernel
theorem dX10_isStar_31 : decode cX10_isStar 31 = .ok (.ishr, 1) := by decide +kernel
theorem dX10_isStar_32 : decode cX10_isStar 32 = .ok (.iconst 1, 1) := by decide +kernel
theorem dX10_isStar_33 : decode cX10_isStar 33 = .ok (.iand, 1) := by decide +kernel
theorem dX10_isStar_34 : decode cX10_isStar 34 = .ok (.iconst 1, 1) := by decide +kernel
theorem dX10_isStar_35 : decode cX10_isStar 35 = .ok (.if_icmp .ne 36, 3) := by decide +kernel
theorem dX10_isStar_38 : decode cX10_isStar 38 = .ok (.iload_n 3, 1) := by decide +kernel
theorem dX10_isStar_39 : decode cX10_isStar 39 = .ok (.aload_n 0, 1) := by decide +kernel
theorem dX10_isStar_40 : decode cX10_isStar 40 = .ok (.getfield 7, 3) := by decide +kernel
theorem dX10_isStar_43 : decode cX10_isStar 43 = .ok (.iload 5, 2) := by decide +kernel
theorem dX10_isStar_45 : decode cX10_isStar 45 = .ok (.iaload, 1) := by decide +kernel
theorem dX10_isStar_46 : decode cX10_isStar 46 = .ok (.iand, 1) := by decide +kernel
theorem dX10_isStar_47 : decode cX10_isStar 47 = .ok (.iload_n 2, 1) := by decide +kernel
theorem dX10_isStar_48 : decode cX10_isStar 48 = .ok (.iconst (-1), 1) := by decide +kernel
theorem dX10_isStar_49 : decode cX10_isStar 49 = .ok (.ixor, 1) := by decide +kernel
theorem dX10_isStar_50 : decode cX10_isStar 50 = .ok (.iand, 1) := by decide +kernel
theorem dX10_isStar_51 : decode cX10_isStar 51 = .ok (.ifCond .ne 7, 3) := by decide +kernel
theorem dX10_isStar_54 : decode cX10_isStar 54 = .ok (.iconst 1, 1) := by decide +kernel
theorem dX10_isStar_55 : decode cX10_isStar 55 = .ok (.goto 4, 3) := by decide +kernel
theorem dX10_isStar_58 : decode cX10_isStar 58 = .ok (.iconst 0, 1) := by decide +kernel
theorem dX10_isStar_59 : decode cX10_isStar 59 = .ok (.istore 4, 2) := by decide +kernel
theorem dX10_isStar_61 : decode cX10_isStar 61 = .ok (.iload_n 3, 1) := by decide +kernel
theorem dX10_isStar_62 : decode cX10_isStar 62 = .ok (.aload_n 0, 1) := by decide +kernel
theorem dX10_isStar_63 : decode cX10_isStar 63 = .ok (.getfield 7, 3) := by decide +kernel
theorem dX10_isStar_66 : decode cX10_isStar 66 = .ok (.iload 5, 2) := by decide +kernel
theorem dX10_isStar_68 : decode cX10_isStar 68 = .ok (.iaload, 1) := by decide +kernel
theorem dX10_isStar_69 : decode cX10_isStar 69 = .ok (.ior, 1) := by decide +kernel
theorem dX10_isStar_70 : decode cX10_isStar 70 = .ok (.istore_n 3, 1) := by decide +kernel
theorem dX10_isStar_71 : decode cX10_isStar 71 = .ok (.iinc 5 1, 3) := by decide +kernel
theorem dX10_isStar_74 : decode cX10_isStar 74 = .ok (.goto (-60), 3) := by decide +kernel
theorem dX10_isStar_77 : decode cX10_isStar 77 = .ok (.iload 4, 2) := by decide +kernel
theorem dX10_isStar_79 : decode cX10_isStar 79 = .ok (.ireturn, 1) := by decide +kernel
set_option maxRecDepth 20000 in
theorem ggX10_star_X10_in : GoodIn wsX10_star wsX10_in := sw_good (sw_cons (t1_ (al_ (t4_ h1_))) sw_nil) (by decide +kernel)
set_option maxRecDepth 20000 in
theorem gX10_star_X10_in : GoodIn wsX10_star (va_wsS RX10 51 yX10_in wsX10_in) := goodIn_app (sw_good (sw_cons (t1_ (al_ (t1_ h1_))) (sw_cons (t1_ (al_ (t1_ (t1_ h1_)))) (sw_cons (t1_ (al_ (t1_ (t1_ (t1_ h1_))))) sw_nil))) (by decide +kernel)) ggX10_star_X10_in
set_option maxRecDepth 20000 in
theorem ggX10_star_X10_sizeOf : GoodIn wsX10_star wsX10_sizeOf := sw_good (sw_cons (t1_ (al_ (t4_ (t1_ (t1_ (t1_ h1_)))))) sw_nil) (by decide +kernel)
set_option maxRecDepth 20000 in
theorem gX10_star_X10_sizeOf : GoodIn wsX10_star (va_wsS RX10 86 yX10_sizeOf wsX10_sizeOf) := goodIn_app (sw_good (sw_cons (t1_ (al_ (t4_ (t1_ h1_)))) (sw_cons (t1_ (al_ (t4_ (t1_ (t1_ h1_))))) (sw_cons (t1_ (al_ (t1_ (t1_ (t1_ h1_))))) sw_nil))) (by decide +kernel)) ggX10_star_X10_sizeOf
set_option maxRecDepth 20000 in
theorem ggX10_star_X10_isStar : GoodIn wsX10_star wsX10_isStar := sw_good (sw_cons (t1_ (al_ (t4_ (t4_ (t1_ (t1_ (t1_ h1_))))))) (sw_app (sw_cons (t1_ (al_ h1_)) (sw_cons (t1_ (al_ (t4_ (t4_ (t4_ h1_))))) (sw_cons (t1_ (al_ (t4_ (t4_ (t4_ (t1_ h1_)))))) (sw_cons (t1_ (al_ (t4_ (t4_ (t4_ (t1_ (t1_ h1_))))))) (sw_cons (t1_ (al_ (t4_ (t4_ (t4_ (t1_ (t1_ (t1_ h1_)))))))) (sw_cons (t1_ (al_ (t1_ (t1_ (t1_ h1_))))) (sw_cons (t1_ (al_ (t16_ h1_))) (sw_cons (t1_ (al_ (t16_ (t1_ h1_)))) (sw_cons (t1_ (al_ (t16_ (t1_ (t1_ h1_))))) (sw_cons (t1_ (al_ (t16_ (t1_ (t1_ (t1_ h1_)))))) (sw_cons (t1_ (al_ (t16_ (t4_ h1_)))) (sw_cons (t1_ (al_ (t16_ (t4_ (t1_ h1_))))) sw_nil)))))))))))) (fun _ h => (t1_ (ar_ h))))) (by decide +kernel)
set_option maxRecDepth 20000 in
theorem gX10_star_X10_isStar : GoodIn wsX10_star (wsV RX10 137 RX10 yX10_isStar wsX10_isStar) := goodIn_app (sw_good (sw_cons (t1_ (al_ (t4_ (t4_ h1_)))) (sw_cons (t1_ (al_ (t4_ (t4_ (t1_ h1_))))) (sw_cons (t1_ (al_ (t4_ (t4_ (t1_ (t1_ h1_)))))) (sw_cons (t1_ (al_ (t1_ (t1_ (t1_ h1_))))) sw_nil)))) (by decide +kernel)) ggX10_star_X10_isStar
set_option maxRecDepth 20000 in
theorem ggX10_star_X10_common : GoodIn wsX10_star wsX10_common := sw_good (sw_cons (t1_ (al_ (t16_ h1_))) (sw_app (sw_cons (t1_ (al_ h1_)) (sw_cons (t1_ (al_ (t4_ (t4_ (t4_ h1_))))) (sw_cons (t1_ (al_ (t16_ (t1_ h1_)))) (sw_cons (t1_ (al_ (t16_ (t1_ (t1_ h1_))))) (sw_cons (t1_ (al_ (t16_ (t1_ (t1_ (t1_ h1_)))))) (sw_cons (t1_ (al_ (t1_ (t1_ (t1_ h1_))))) (sw_cons (t1_ (al_ (t16_ (t4_ h1_)))) (sw_cons (t1_ (al_ (t16_ (t4_ (t1_ h1_))))) sw_nil)))))))) (fun _ h => (t1_ (ar_ h))))) (by decide +kernel)
set_option maxRecDepth 20000 in
theorem gX10_star_X10_common : GoodIn wsX10_star (wsV RX10 134 RX10 yX10_common wsX10_common) := goodIn_app (sw_good (sw_cons (t1_ (al_ (t4_ (t4_ (t4_ (t1_ h1_)))))) (sw_cons (t1_ (al_ (t4_ (t4_ (t4_ (t1_ (t1_ h1_))))))) (sw_cons (t1_ (al_ (t4_ (t4_ (t4_ (t1_ (t1_ (t1_ h1_)))))))) (sw_cons (t1_ (al_ (t1_ (t1_ (t1_ h1_))))) sw_nil)))) (by decide +kernel)) ggX10_star_X10_common
theorem dX10_star_0 : decode cX10_star 0 = .ok (.iload_n 1, 1) := by decide +kernel
theorem dX10_star_1 : decode cX10_star 1 = .ok (.i2l, 1) := by decide +kernel
theorem dX10_star_2 : decode cX10_star 2 = .ok (.lconst 0, 1) := by decide +kernel
theorem dX10_star_3 : decode cX10_star 3 = .ok (.lconst 1, 1) := by decide +kernel
theorem dX10_star_4 : decode cX10_star 4 = .ok (.invokestatic 51, 3) := by decide +kernel
theorem dX10_star_7 : decode cX10_star 7 = .ok (.ifCond .ne 6, 3) := by decide +kernel
theorem dX10_star_10 : decode cX10_star 10 = .ok (.bipush (-2), 2) := by decide +kernel
theorem dX10_star_12 : decode cX10_star 12 = .ok (.ireturn, 1) := by decide +kernel
theorem dX10_star_13 : decode cX10_star 13 = .ok (.aload_n 0, 1) := by decide +kernel
theorem dX10_star_14 : decode cX10_star 14 = .ok (.getfield 61, 3) := by decide +kernel
theorem dX10_star_17 : decode cX10_star 17 = .ok (.iconst 2, 1) := by decide +kernel
theorem dX10_star_18 : decode cX10_star 18 = .ok (.if_icmp .ge 5, 3) := by decide +kernel
theorem dX10_star_21 : decode cX10_star 21 = .ok (.iconst (-1), 1) := by decide +kernel
theorem dX10_star_22 : decode cX10_star 22 = .ok (.ireturn, 1) := by decide +kernel
theorem dX10_star_23 : decode cX10_star 23 = .ok (.iconst 0, 1) := by decide +kernel
theorem dX10_star_24 : decode cX10_star 24 = .ok (.istore_n 2, 1) := by decide +kernel
theorem dX10_star_25 : decode cX10_star 25 = .ok (.iconst 1, 1) := by decide +kernel
theorem dX10_star_26 : decode cX10_star 26 = .ok (.istore_n 3, 1) := by decide +kernel
theorem dX10_star_27 : decode cX10_star 27 = .ok (.iload_n 3, 1) := by decide +kernel
theorem dX10_star_28 : decode cX10_star 28 = .ok (.iconst 1, 1) := by decide +kernel
theorem dX10_star_29 : decode cX10_star 29 = .ok (.aload_n 0, 1) := by decide +kernel
theorem dX10_star_30 : decode cX10_star 30 = .ok (.getfield 61, 3) := by decide +kernel
theorem dX10_star_33 : decode cX10_star 33 = .ok (.ishl, 1) := by decide +kernel
theorem dX10_star_34 : decode cX10_star 34 = .ok (.if_icmp .ge 44, 3) := by decide +kernel
theorem dX10_star_37 : decode cX10_star 37 = .ok (.iload_n 3, 1) := by decide +kernel
theorem dX10_star_38 : decode cX10_star 38 = .ok (.invokestatic 86, 3) := by decide +kernel
theorem dX10_star_41 : decode cX10_star 41 = .ok (.istore 4, 2) := by decide +kernel
theorem dX10_star_43 : decode cX10_star 43 = .ok (.iload 4, 2) := by decide +kernel
theorem dX10_star_45 : decode cX10_star 45 = .ok (.iconst 1, 1) := by decide +kernel
theorem dX10_star_46 : decode cX10_star 46 = .ok (.if_icmp .le 24, 3) := by decide +kernel
theorem dX10_star_49 : decode cX10_star 49 = .ok (.iload 4, 2) := by decide +kernel
theorem dX10_star_51 : decode cX10_star 51 = .ok (.iload_n 2, 1) := by decide +kernel
theorem dX10_star_52 : decode cX10_star 52 = .ok (.invokestatic 86, 3) := by decide +kernel
theorem dX10_star_55 : decode cX10_star 55 = .ok (.if_icmp .le 15, 3) := by decide +kernel
theorem dX10_star_58 : decode cX10_star 58 = .ok (.aload_n 0, 1) := by decide +kernel
theorem dX10_star_59 : decode cX10_star 59 = .ok (.iload_n 3, 1) := by decide +kernel
theorem dX10_star_60 : decode cX10_star 60 = .ok (.invokevirtual 137, 3) := by decide +kernel
theorem dX10_star_63 : decode cX10_star 63 = .ok (.ifCond .eq 7, 3) := by decide +kernel
theorem dX10_star_66 : decode cX10_star 66 = .ok (.iload_n 3, 1) := by decide +kernel
theorem dX10_star_67 : decode cX10_star 67 = .ok (.goto 4, 3) := by decide +kernel
theorem dX10_star_70 : decode cX10_star 70 = .ok (.iload_n 2, 1) := by decide +kernel
theorem dX10_star_71 : decode cX10_star 71 = .ok (.istore_n 2, 1) := by decide +kernel
theorem dX10_star_72 : decode cX10_star 72 = .ok (.iinc 3 1, 3) := by decide +kernel
theorem dX10_star_75 : decode cX10_star 75 = .ok (.goto (-48), 3) := by decide +kernel
theorem dX10_star_78 : decode cX10_star 78 = .ok (.iload_n 1, 1) := by decide +kernel
theorem dX10_star_79 : decode cX10_star 79 = .ok (.ifCond .ne 7, 3) := by decide +kernel
theorem dX10_star_82 : decode cX10_star 82 = .ok (.iload_n 2, 1) := by decide +kernel
theorem dX10_star_83 : decode cX10_star 83 = .ok (.goto 8, 3) := by decide +kernel
theorem dX10_star_86 : decode cX10_star 86 = .ok (.aload_n 0, 1) := by decide +kernel
theorem dX10_star_87 : decode cX10_star 87 = .ok (.iload_n 2, 1) := by decide +kernel
theorem dX10_star_88 : decode cX10_star 88 = .ok (.invokevirtual 134, 3) := by decide +kernel
theorem dX10_star_91 : decode cX10_star 91 = .ok (.ireturn, 1) := by decide +kernel
theorem dX10_seenOf_0 : decode cX10_seenOf 0 = .ok (.iconst 0, 1) := by decide +kernel
theorem dX10_seenOf_1 : decode cX10_seenOf 1 = .ok (.istore_n 2, 1) := by decide +kernel
theorem dX10_seenOf_2 : decode cX10_seenOf 2 = .ok (.iload_n 2, 1) := by decide +kernel
theorem dX10_seenOf_3 : decode cX10_seenOf 3 = .ok (.sipush 1024, 3) := by decide +kernel
theorem dX10_seenOf_6 : decode cX10_seenOf 6 = .ok (.if_icmp .ge 16, 3) := by decide +kernel
theorem dX10_seenOf_9 : decode cX10_seenOf 9 = .ok (.aload_n 0, 1) := by decide +kernel
theorem dX10_seenOf_10 : decode cX10_seenOf 10 = .ok (.getfield 26, 3) := by decide +kernel
theorem dX10_seenOf_13 : decode cX10_seenOf 13 = .ok (.iload_n 2, 1) := by decide +kernel
theorem dX10_seenOf_14 : decode cX10_seenOf 14 = .ok (.iconst 0, 1) := by decide +kernel
theorem dX10_seenOf_15 : decode cX10_seenOf 15 = .ok (.bastore, 1) := by decide +kernel
theorem dX10_seenOf_16 : decode cX10_seenOf 16 = .ok (.iinc 2 1, 3) := by decide +kernel
theorem dX10_seenOf_19 : decode cX10_seenOf 19 = .ok (.goto (-17), 3) := by decide +kernel
theorem dX10_seenOf_22 : decode cX10_seenOf 22 = .ok (.iconst 0, 1) := by decide +kernel
theorem dX10_seenOf_23 : decode cX10_seenOf 23 = .ok (.istore_n 2, 1) := by decide +kernel
theorem dX10_seenOf_24 : decode cX10_seenOf 24 = .ok (.iconst 0, 1) := by decide +kernel
theorem dX10_seenOf_25 : decode cX10_seenOf 25 = .ok (.istore_n 3, 1) := by decide +kernel
theorem dX10_seenOf_26 : decode cX10_seenOf 26 = .ok (.iload_n 3, 1) := by decide +kernel
theorem dX10_seenOf_27 : decode cX10_seenOf 27 = .ok (.aload_n 0, 1) := by decide +kernel
theorem dX10_seenOf_28 : decode cX10_seenOf 28 = .ok (.getfield 61, 3) := by decide +kernel
theorem dX10_seenOf_31 : decode cX10_seenOf 31 = .ok (.if_icmp .ge 47, 3) := by decide +kernel
theorem dX10_seenOf_34 : decode cX10_seenOf 34 = .ok (.iload_n 2, 1) := by decide +kernel
theorem dX10_seenOf_35 : decode cX10_seenOf 35 = .ok (.aload_n 0, 1) := by decide +kernel
theorem dX10_seenOf_36 : decode cX10_seenOf 36 = .ok (.getfield 26, 3) := by decide +kernel
theorem dX10_seenOf_39 : decode cX10_seenOf 39 = .ok (.aload_n 0, 1) := by decide +kernel
theorem dX10_seenOf_40 : decode cX10_seenOf 40 = .ok (.getfield 7, 3) := by decide +kernel
theorem dX10_seenOf_43 : decode cX10_seenOf 43 = .ok (.iload_n 3, 1) := by decide +kernel
theorem dX10_seenOf_44 : decode cX10_seenOf 44 = .ok (.iaload, 1) := by decide +kernel
theorem dX10_seenOf_45 : decode cX10_seenOf 45 = .ok (.iload_n 1, 1) := by decide +kernel
theorem dX10_seenOf_46 : decode cX10_seenOf 46 = .ok (.iand, 1) := by decide +kernel
theorem dX10_seenOf_47 : decode cX10_seenOf 47 = .ok (.baload, 1) := by decide +kernel
theorem dX10_seenOf_48 : decode cX10_seenOf 48 = .ok (.ifCond .eq 7, 3) := by decide +kernel
theorem dX10_seenOf_51 : decode cX10_seenOf 51 = .ok (.iconst 0, 1) := by decide +kernel
theorem dX10_seenOf_52 : decode cX10_seenOf 52 = .ok (.goto 4, 3) := by decide +kernel
theorem dX10_seenOf_55 : decode cX10_seenOf 55 = .ok (.iconst 1, 1) := by decide +kernel
theorem dX10_seenOf_56 : decode cX10_seenOf 56 = .ok (.iadd, 1) := by decide +kernel
theorem dX10_seenOf_57 : decode cX10_seenOf 57 = .ok (.istore_n 2, 1) := by decide +kernel
theorem dX10_seenOf_58 : decode cX10_seenOf 58 = .ok (.aload_n 0, 1) := by decide +kernel
theorem dX10_seenOf_59 : decode cX10_seenOf 59 = .ok (.getfield 26, 3) := by decide +kernel
theorem dX10_seenOf_62 : decode cX10_seenOf 62 = .ok (.aload_n 0, 1) := by decide +kernel
theorem dX10_seenOf_63 : decode cX10_seenOf 63 = .ok (.getfield 7, 3) := by decide +kernel
theorem dX10_seenOf_66 : decode cX10_seenOf 66 = .ok (.iload_n 3, 1) := by decide +kernel
theorem dX10_seenOf_67 : decode cX10_seenOf 67 = .ok (.iaload, 1) := by decide +kernel
theorem dX10_seenOf_68 : decode cX10_seenOf 68 = .ok (.iload_n 1, 1) := by decide +kernel
theorem dX10_seenOf_69 : decode cX10_seenOf 69 = .ok (.iand, 1) := by decide +kernel
theorem dX10_seenOf_70 : decode cX10_seenOf 70 = .ok (.iconst 1, 1) := by decide +kernel
theorem dX10_seenOf_71 : decode cX10_seenOf 71 = .ok (.bastore, 1) := by decide +kernel
theorem dX10_seenOf_72 : decode cX10_seenOf 72 = .ok (.iinc 3 1, 3) := by decide +kernel
theorem dX10_seenOf_75 : decode cX10_seenOf 75 = .ok (.goto (-49), 3) := by decide +kernel
theorem dX10_seenOf_78 : decode cX10_seenOf 78 = .ok (.iload_n 2, 1) := by decide +kernel
theorem dX10_seenOf_79 : decode cX10_seenOf 79 = .ok (.ireturn, 1) := by decide +kernel
set_option maxRecDepth 20000 in
theorem ggX10_seen_X10_isPart : GoodIn wsX10_seen wsX10_isPart := sw_good (sw_cons (t1_ (al_ (t4_ h1_))) (sw_app (sw_cons (t1_ (al_ (t4_ (t1_ h1_)))) (sw_cons (t1_ (al_ (t4_ (t1_ (t1_ h1_))))) (sw_cons (t1_ (al_ (t4_ (t1_ (t1_ (t1_ h1_)))))) (sw_cons (t1_ (al_ (t1_ (t1_ (t1_ h1_))))) (sw_cons (t1_ (al_ (t4_ (t4_ h1_)))) (sw_cons (t1_ (al_ (t4_ (t4_ (t1_ h1_))))) (sw_cons (t1_ (al_ (t4_ (t4_ (t1_ (t1_ h1_)))))) (sw_cons (t1_ (al_ (t4_ (t4_ (t1_ (t1_ (t1_ h1_))))))) (sw_cons (t1_ (al_ (t4_ (t4_ (t4_ h1_))))) sw_nil))))))))) (fun _ h => (t1_ (ar_ h))))) (by decide +kernel)
set_option maxRecDepth 20000 in
theorem gX10_seen_X10_isPart : GoodIn wsX10_seen (wsV RX10 96 RX10 yX10_isPart wsX10_isPart) := goodIn_app (sw_good (sw_cons (t1_ (al_ h1_)) (sw_cons (t1_ (al_ (t1_ h1_))) (sw_cons (t1_ (al_ (t1_ (t1_ h1_)))) (sw_cons (t1_ (al_ (t1_ (t1_ (t1_ h1_))))) sw_nil)))) (by decide +kernel)) ggX10_seen_X10_isPart
set_option maxRecDepth 20000 in
theorem ggX10_seen_X10_seenOf : GoodIn wsX10_seen wsX10_seenOf := sw_good (sw_cons (t1_ (al_ (t16_ h1_))) (sw_app (sw_cons (t1_ (al_ (t16_ (t1_ h1_)))) (sw_cons (t1_ (al_ (t16_ (t1_ (t1_ h1_))))) (sw_cons (t1_ (al_ (t16_ (t1_ (t1_ (t1_ h1_)))))) sw_nil))) (fun _ h => (t1_ (ar_ h))))) (by decide +kernel)
set_option maxRecDepth 20000 in
theorem gX10_seen_X10_seenOf : GoodIn wsX10_seen (wsV RX10 140 RX10 yX10_seenOf wsX10_seenOf) := goodIn_app (sw_good (sw_cons (t1_ (al_ (t4_ (t4_ (t4_ (t1_ h1_)))))) (sw_cons (t1_ (al_ (t4_ (t4_ (t4_ (t1_ (t1_ h1_))))))) (sw_cons (t1_ (al_ (t4_ (t4_ (t4_ (t1_ (t1_ (t1_ h1_)))))))) (sw_cons (t1_ (al_ (t1_ (t1_ (t1_ h1_))))) sw_nil)))) (by decide +kernel)) ggX10_seen_X10_seenOf
theorem dX10_seen_0 : decode cX10_seen 0 = .ok (.aload_n 0, 1) := by decide +kernel
theorem dX10_seen_1 : decode cX10_seen 1 = .ok (.iload_n 1, 1) := by decide +kernel
theorem dX10_seen_2 : decode cX10_seen 2 = .ok (.invokevirtual 96, 3) := by decide +kernel
theorem dX10_seen_5 : decode cX10_seen 5 = .ok (.ifCond .eq 11, 3) := by decide +kernel
theorem dX10_seen_8 : decode cX10_seen 8 = .ok (.aload_n 0, 1) := by decide +kernel
theorem dX10_seen_9 : decode cX10_seen 9 = .ok (.iload_n 1, 1) := by decide +kernel
theorem dX10_seen_10 : decode cX10_seen 10 = .ok (.invokevirtual 140, 3) := by decide +kernel
theorem dX10_seen_13 : decode cX10_seen 13 = .ok (.goto 5, 3) := by decide +kernel
theorem dX10_seen_16 : decode cX10_seen 16 = .ok (.bipush (-2), 2) := by decide +kernel
theorem dX10_seen_18 : decode cX10_seen 18 = .ok (.ireturn, 1) := by decide +kernel
set_option maxRecDepth 20000 in
theorem ggX10_dimension_X10_in : GoodIn wsX10_dimension wsX10_in := sw_good (sw_cons (t1_ (al_ (t1_ (t1_ (t1_ h1_))))) sw_nil) (by decide +kernel)
set_option maxRecDepth 20000 in
theorem gX10_dimension_X10_in : GoodIn wsX10_dimension (va_wsS RX10 51 yX10_in wsX10_in) := goodIn_app (sw_good (sw_cons (t1_ (al_ h1_)) (sw_cons (t1_ (al_ (t1_ h1_))) (sw_cons (t1_ (al_ (t1_ (t1_ h1_)))) sw_nil))) (by decide +kernel)) ggX10_dimension_X10_in
set_option maxRecDepth 20000 in
theorem ggX10_dimension_X10_all : GoodIn wsX10_dimension wsX10_all := sw_good (sw_cons (t1_ (al_ (t4_ (t1_ (t1_ (t1_ h1_)))))) (sw_app (sw_cons (t1_ (al_ (t4_ (t4_ h1_)))) sw_nil) (fun _ h => (t1_ (ar_ h))))) (by decide +kernel)
set_option maxRecDepth 20000 in
theorem gX10_dimension_X10_all : GoodIn wsX10_dimension (wsV RX10 55 RX10 yX10_all wsX10_all) := goodIn_app (sw_good (sw_cons (t1_ (al_ (t4_ h1_))) (sw_cons (t1_ (al_ (t4_ (t1_ h1_)))) (sw_cons (t1_ (al_ (t4_ (t1_ (t1_ h1_))))) (sw_cons (t1_ (al_ (t1_ (t1_ h1_)))) sw_nil)))) (by decide +kernel)) ggX10_dimension_X10_all
set_option maxRecDepth 20000 in
theorem ggX10_dimension_X10_sizeOf : GoodIn wsX10_dimension wsX10_sizeOf := sw_good (sw_cons (t1_ (al_ (t4_ (t4_ (t1_ (t1_ (t1_ h1_))))))) sw_nil) (by decide +kernel)
set_option maxRecDepth 20000 in
theorem gX10_dimension_X10_sizeOf : GoodIn wsX10_dimension (va_wsS RX10 86 yX10_sizeOf wsX10_sizeOf) := goodIn_app (sw_good (sw_cons (t1_ (al_ (t4_ (t4_ (t1_ h1_))))) (sw_cons (t1_ (al_ (t4_ (t4_ (t1_ (t1_ h1_)))))) (sw_cons (t1_ (al_ (t1_ (t1_ h1_)))) sw_nil))) (by decide +kernel)) ggX10_dimension_X10_sizeOf
set_option maxRecDepth 20000 in
theorem ggX10_dimension_X10_seenOf : GoodIn wsX10_dimension wsX10_seenOf := sw_good (sw_cons (t1_ (al_ (t4_ (t4_ (t4_ (t1_ (t1_ (t1_ h1_)))))))) (sw_app (sw_cons (t1_ (al_ (t16_ h1_))) (sw_cons (t1_ (al_ (t16_ (t1_ h1_)))) (sw_cons (t1_ (al_ (t16_ (t1_ (t1_ h1_))))) sw_nil))) (fun _ h => (t1_ (ar_ h))))) (by decide +kernel)
set_option maxRecDepth 20000 in
theorem gX10_dimension_X10_seenOf : GoodIn wsX10_dimension (wsV RX10 140 RX10 yX10_seenOf wsX10_seenOf) := goodIn_app (sw_good (sw_cons (t1_ (al_ (t4_ (t4_ (t4_ h1_))))) (sw_cons (t1_ (al_ (t4_ (t4_ (t4_ (t1_ h1_)))))) (sw_cons (t1_ (al_ (t4_ (t4_ (t4_ (t1_ (t1_ h1_))))))) (sw_cons (t1_ (al_ (t1_ (t1_ h1_)))) sw_nil)))) (by decide +kernel)) ggX10_dimension_X10_seenOf
theorem dX10_dimension_0 : decode cX10_dimension 0 = .ok (.iload_n 1, 1) := by decide +kernel
theorem dX10_dimension_1 : decode cX10_dimension 1 = .ok (.i2l, 1) := by decide +kernel
theorem dX10_dimension_2 : decode cX10_dimension 2 = .ok (.lconst 0, 1) := by decide +kernel
theorem dX10_dimension_3 : decode cX10_dimension 3 = .ok (.lconst 1, 1) := by decide +kernel
theorem dX10_dimension_4 : decode cX10_dimension 4 = .ok (.invokestatic 51, 3) := by decide +kernel
theorem dX10_dimension_7 : decode cX10_dimension 7 = .ok (.ifCond .ne 6, 3) := by decide +kernel
theorem dX10_dimension_10 : decode cX10_dimension 10 = .ok (.bipush (-2), 2) := by decide +kernel
theorem dX10_dimension_12 : decode cX10_dimension 12 = .ok (.ireturn, 1) := by decide +kernel
theorem dX10_dimension_13 : decode cX10_dimension 13 = .ok (.iconst (-1), 1) := by decide +kernel
theorem dX10_dimension_14 : decode cX10_dimension 14 = .ok (.istore_n 2, 1) := by decide +kernel
theorem dX10_dimension_15 : decode cX10_dimension 15 = .ok (.iconst 0, 1) := by decide +kernel
theorem dX10_dimension_16 : decode cX10_dimension 16 = .ok (.istore_n 3, 1) := by decide +kernel
theorem dX10_dimension_17 : decode cX10_dimension 17 = .ok (.iload_n 3, 1) := by decide +kernel
theorem dX10_dimension_18 : decode cX10_dimension 18 = .ok (.aload_n 0, 1) := by decide +kernel
theorem dX10_dimension_19 : decode cX10_dimension 19 = .ok (.invokevirtual 55, 3) := by decide +kernel
theorem dX10_dimension_22 : decode cX10_dimension 22 = .ok (.if_icmp .gt 65, 3) := by decide +kernel
theorem dX10_dimension_25 : decode cX10_dimension 25 = .ok (.iload_n 3, 1) := by decide +kernel
theorem dX10_dimension_26 : decode cX10_dimension 26 = .ok (.invokestatic 86, 3) := by decide +kernel
theorem dX10_dimension_29 : decode cX10_dimension 29 = .ok (.istore 4, 2) := by decide +kernel
theorem dX10_dimension_31 : decode cX10_dimension 31 = .ok (.iload_n 2, 1) := by decide +kernel
theorem dX10_dimension_32 : decode cX10_dimension 32 = .ok (.iconst (-1), 1) := by decide +kernel
theorem dX10_dimension_33 : decode cX10_dimension 33 = .ok (.if_icmp .eq 12, 3) := by decide +kernel
theorem dX10_dimension_36 : decode cX10_dimension 36 = .ok (.iload 4, 2) := by decide +kernel
theorem dX10_dimension_38 : decode cX10_dimension 38 = .ok (.iload_n 2, 1) := by decide +kernel
theorem dX10_dimension_39 : decode cX10_dimension 39 = .ok (.invokestatic 86, 3) := by decide +kernel
theorem dX10_dimension_42 : decode cX10_dimension 42 = .ok (.if_icmp .le 7, 3) := by decide +kernel
theorem dX10_dimension_45 : decode cX10_dimension 45 = .ok (.iconst 1, 1) := by decide +kernel
theorem dX10_dimension_46 : decode cX10_dimension 46 = .ok (.goto 4, 3) := by decide +kernel
theorem dX10_dimension_49 : decode cX10_dimension 49 = .ok (.iconst 0, 1) := by decide +kernel
theorem dX10_dimension_50 : decode cX10_dimension 50 = .ok (.istore 5, 2) := by decide +kernel
theorem dX10_dimension_52 : decode cX10_dimension 52 = .ok (.iload 5, 2) := by decide +kernel
theorem dX10_dimension_54 : decode cX10_dimension 54 = .ok (.ifCond .eq 25, 3) := by decide +kernel
theorem dX10_dimension_57 : decode cX10_dimension 57 = .ok (.iload 4, 2) := by decide +kernel
theorem dX10_dimension_59 : decode cX10_dimension 59 = .ok (.iconst 5, 1) := by decide +kernel
theorem dX10_dimension_60 : decode cX10_dimension 60 = .ok (.if_icmp .ge 19, 3) := by decide +kernel
theorem dX10_dimension_63 : decode cX10_dimension 63 = .ok (.aload_n 0, 1) := by decide +kernel
theorem dX10_dimension_64 : decode cX10_dimension 64 = .ok (.iload_n 3, 1) := by decide +kernel
theorem dX10_dimension_65 : decode cX10_dimension 65 = .ok (.invokevirtual 140, 3) := by decide +kernel
theorem dX10_dimension_68 : decode cX10_dimension 68 = .ok (.iconst 1, 1) := by decide +kernel
theorem dX10_dimension_69 : decode cX10_dimension 69 = .ok (.iload 4, 2) := by decide +kernel
theorem dX10_dimension_71 : decode cX10_dimension 71 = .ok (.ishl, 1) := by decide +kernel
theorem dX10_dimension_72 : decode cX10_dimension 72 = .ok (.if_icmp .ne 7, 3) := by decide +kernel
theorem dX10_dimension_75 : decode cX10_dimension 75 = .ok (.iload_n 3, 1) := by decide +kernel
theorem dX10_dimension_76 : decode cX10_dimension 76 = .ok (.goto 4, 3) := by decide +kernel
theorem dX10_dimension_79 : decode cX10_dimension 79 = .ok (.iload_n 2, 1) := by decide +kernel
theorem dX10_dimension_80 : decode cX10_dimension 80 = .ok (.istore_n 2, 1) := by decide +kernel
theorem dX10_dimension_81 : decode cX10_dimension 81 = .ok (.iinc 3 1, 3) := by decide +kernel
theorem dX10_dimension_84 : decode cX10_dimension 84 = .ok (.goto (-67), 3) := by decide +kernel
theorem dX10_dimension_87 : decode cX10_dimension 87 = .ok (.iload_n 1, 1) := by decide +kernel
theorem dX10_dimension_88 : decode cX10_dimension 88 = .ok (.iconst 1, 1) := by decide +kernel
theorem dX10_dimension_89 : decode cX10_dimension 89 = .ok (.if_icmp .eq 8, 3) := by decide +kernel
theorem dX10_dimension_92 : decode cX10_dimension 92 = .ok (.iload_n 2, 1) := by decide +kernel
theorem dX10_dimension_93 : decode cX10_dimension 93 = .ok (.iconst (-1), 1) := by decide +kernel
theorem dX10_dimension_94 : decode cX10_dimension 94 = .ok (.if_icmp .ne 7, 3) := by decide +kernel
theorem dX10_dimension_97 : decode cX10_dimension 97 = .ok (.iload_n 2, 1) := by decide +kernel
theorem dX10_dimension_98 : decode cX10_dimension 98 = .ok (.goto 7, 3) := by decide +kernel
theorem dX10_dimension_101 : decode cX10_dimension 101 = .ok (.iload_n 2, 1) := by decide +kernel
theorem dX10_dimension_102 : decode cX10_dimension 102 = .ok (.invokestatic 86, 3) := by decide +kernel
theorem dX10_dimension_105 : decode cX10_dimension 105 = .ok (.ireturn, 1) := by decide +kernel
theorem dX10_isOne_0 : decode cX10_isOne 0 = .ok (.iconst 0, 1) := by decide +kernel
theorem dX10_isOne_1 : decode cX10_isOne 1 = .ok (.istore_n 2, 1) := by decide +kernel
theorem dX10_isOne_2 : decode cX10_isOne 2 = .ok (.iload_n 2, 1) := by decide +kernel
theorem dX10_isOne_3 : decode cX10_isOne 3 = .ok (.aload_n 0, 1) := by decide +kernel
theorem dX10_isOne_4 : decode cX10_isOne 4 = .ok (.getfield 61, 3) := by decide +kernel
theorem dX10_isOne_7 : decode cX10_isOne 7 = .ok (.if_icmp .ge 84, 3) := by decide +kernel
theorem dX10_isOne_10 : decode cX10_isOne 10 = .ok (.aload_n 0, 1) := by decide +kernel
theorem dX10_isOne_11 : decode cX10_isOne 11 = .ok (.getfield 7, 3) := by decide +kernel
theorem dX10_isOne_14 : decode cX10_isOne 14 = .ok (.iload_n 2, 1) := by decide +kernel
theorem dX10_isOne_15 : decode cX10_isOne 15 = .ok (.iaload, 1) := by decide +kernel
theorem dX10_isOne_16 : decode cX10_isOne 16 = .ok (.iload_n 1, 1) := by decide +kernel
theorem dX10_isOne_17 : decode cX10_isOne 17 = .ok (.ishr, 1) := by decide +kernel
theorem dX10_isOne_18 : decode cX10_isOne 18 = .ok (.iconst 1, 1) := by decide +kernel
theorem dX10_isOne_19 : decode cX10_isOne 19 = .ok (.if_icmp .ne 66, 3) := by decide +kernel
theorem dX10_isOne_22 : decode cX10_isOne 22 = .ok (.iconst 1, 1) := by decide +kernel
theorem dX10_isOne_23 : decode cX10_isOne 23 = .ok (.istore_n 3, 1) := by decide +kernel
theorem dX10_isOne_24 : decode cX10_isOne 24 = .ok (.iconst 0, 1) := by decide +kernel
theorem dX10_isOne_25 : decode cX10_isOne 25 = .ok (.istore 4, 2) := by decide +kernel
theorem dX10_isOne_27 : decode cX10_isOne 27 = .ok (.iload 4, 2) := by decide +kernel
theorem dX10_isOne_29 : decode cX10_isOne 29 = .ok (.iload_n 1, 1) := by decide +kernel
theorem dX10_isOne_30 : decode cX10_isOne 30 = .ok (.if_icmp .ge 49, 3) := by decide +kernel
theorem dX10_isOne_33 : decode cX10_isOne 33 = .ok (.iload_n 3, 1) := by decide +kernel
theorem dX10_isOne_34 : decode cX10_isOne 34 = .ok (.ifCond .eq 37, 3) := by decide +kernel
theorem dX10_isOne_37 : decode cX10_isOne 37 = .ok (.aload_n 0, 1) := by decide +kernel
theorem dX10_isOne_38 : decode cX10_isOne 38 = .ok (.getfield 7, 3) := by decide +kernel
theorem dX10_isOne_41 : decode cX10_isOne 41 = .ok (.iload_n 2, 1) := by decide +kernel
theorem dX10_isOne_42 : decode cX10_isOne 42 = .ok (.iaload, 1) := by decide +kernel
theorem dX10_isOne_43 : decode cX10_isOne 43 = .ok (.iload 4, 2) := by decide +kernel
theorem dX10_isOne_45 : decode cX10_isOne 45 = .ok (.ishr, 1) := by decide +kernel
theorem dX10_isOne_46 : decode cX10_isOne 46 = .ok (.iconst 1, 1) := by decide +kernel
theorem dX10_isOne_47 : decode cX10_isOne 47 = .ok (.iand, 1) := by decide +kernel
theorem dX10_isOne_48 : decode cX10_isOne 48 = .ok (.ifCond .eq 19, 3) := by decide +kernel
theorem dX10_isOne_51 : decode cX10_isOne 51 = .ok (.aload_n 0, 1) := by decide +kernel
theorem dX10_isOne_52 : decode cX10_isOne 52 = .ok (.getfield 30, 3) := by decide +kernel
theorem dX10_isOne_55 : decode cX10_isOne 55 = .ok (.iload 4, 2) := by decide +kernel
theorem dX10_isOne_57 : decode cX10_isOne 57 = .ok (.iaload, 1) := by decide +kernel
theorem dX10_isOne_58 : decode cX10_isOne 58 = .ok (.aload_n 0, 1) := by decide +kernel
theorem dX10_isOne_59 : decode cX10_isOne 59 = .ok (.getfield 30, 3) := by decide +kernel
theorem dX10_isOne_62 : decode cX10_isOne 62 = .ok (.iload_n 1, 1) := by decide +kernel
theorem dX10_isOne_63 : decode cX10_isOne 63 = .ok (.iaload, 1) := by decide +kernel
theorem dX10_isOne_64 : decode cX10_isOne 64 = .ok (.if_icmp .ne 7, 3) := by decide +kernel
theorem dX10_isOne_67 : decode cX10_isOne 67 = .ok (.iconst 1, 1) := by decide +kernel
theorem dX10_isOne_68 : decode cX10_isOne 68 = .ok (.goto 4, 3) := by decide +kernel
theorem dX10_isOne_71 : decode cX10_isOne 71 = .ok (.iconst 0, 1) := by decide +kernel
theorem dX10_isOne_72 : decode cX10_isOne 72 = .ok (.istore_n 3, 1) := by decide +kernel
theorem dX10_isOne_73 : decode cX10_isOne 73 = .ok (.iinc 4 1, 3) := by decide +kernel
theorem dX10_isOne_76 : decode cX10_isOne 76 = .ok (.goto (-49), 3) := by decide +kernel
theorem dX10_isOne_79 : decode cX10_isOne 79 = .ok (.iload_n 3, 1) := by decide +kernel
theorem dX10_isOne_80 : decode cX10_isOne 80 = .ok (.ifCond .eq 5, 3) := by decide +kernel
theorem dX10_isOne_83 : decode cX10_isOne 83 = .ok (.iconst 1, 1) := by decide +kernel
theorem dX10_isOne_84 : decode cX10_isOne 84 = .ok (.ireturn, 1) := by decide +kernel
theorem dX10_isOne_85 : decode cX10_isOne 85 = .ok (.iinc 2 1, 3) := by decide +kernel
theorem dX10_isOne_88 : decode cX10_isOne 88 = .ok (.goto (-86), 3) := by decide +kernel
theorem dX10_isOne_91 : decode cX10_isOne 91 = .ok (.iconst 0, 1) := by decide +kernel
theorem dX10_isOne_92 : decode cX10_isOne 92 = .ok (.ireturn, 1) := by decide +kernel
set_option maxRecDepth 20000 in
theorem ggX10_colourings_X10_in : GoodIn wsX10_colourings wsX10_in := sw_good (sw_cons (t1_ (al_ (t4_ (t1_ (t1_ (t1_ h1_)))))) sw_nil) (by decide +kernel)
set_option maxRecDepth 20000 in
theorem gX10_colourings_X10_in : GoodIn wsX10_colourings (va_wsS RX10 51 yX10_in wsX10_in) := goodIn_app (sw_good (sw_cons (t1_ (al_ (t4_ h1_))) (sw_cons (t1_ (al_ (t4_ (t1_ h1_)))) (sw_cons (t1_ (al_ (t4_ (t1_ (t1_ h1_))))) sw_nil))) (by decide +kernel)) ggX10_colourings_X10_in
set_option maxRecDepth 20000 in
theorem ggX10_colourings_X10_isOne : GoodIn wsX10_colourings wsX10_isOne := sw_good (sw_cons (t1_ (al_ (t4_ (t4_ (t1_ (t1_ (t1_ h1_))))))) (sw_app (sw_cons (t1_ (al_ (t4_ (t4_ (t4_ h1_))))) (sw_cons (t1_ (al_ (t4_ (t4_ (t4_ (t1_ h1_)))))) (sw_cons (t1_ (al_ (t1_ (t1_ h1_)))) sw_nil))) (fun _ h => (t1_ (ar_ h))))) (by decide +kernel)
set_option maxRecDepth 20000 in
theorem gX10_colourings_X10_isOne : GoodIn wsX10_colourings (wsV RX10 147 RX10 yX10_isOne wsX10_isOne) := goodIn_app (sw_good (sw_cons (t1_ (al_ (t4_ (t4_ h1_)))) (sw_cons (t1_ (al_ (t4_ (t4_ (t1_ h1_))))) (sw_cons (t1_ (al_ (t4_ (t4_ (t1_ (t1_ h1_)))))) (sw_cons (t1_ (al_ (t4_ (t1_ (t1_ h1_))))) sw_nil)))) (by decide +kernel)) ggX10_colourings_X10_isOne
theorem dX10_colourings_0 : decode cX10_colourings 0 = .ok (.iload_n 1, 1) := by decide +kernel
theorem dX10_colourings_1 : decode cX10_colourings 1 = .ok (.i2l, 1) := by decide +kernel
theorem dX10_colourings_2 : decode cX10_colourings 2 = .ok (.ldc2_w 143, 3) := by decide +kernel
theorem dX10_colourings_5 : decode cX10_colourings 5 = .ok (.ldc2_w 145, 3) := by decide +kernel
theorem dX10_colourings_8 : decode cX10_colourings 8 = .ok (.invokestatic 51, 3) := by decide +kernel
theorem dX10_colourings_11 : decode cX10_colourings 11 = .ok (.ifCond .ne 6, 3) := by decide +kernel
theorem dX10_colourings_14 : decode cX10_colourings 14 = .ok (.bipush (-2), 2) := by decide +kernel
theorem dX10_colourings_16 : decode cX10_colourings 16 = .ok (.ireturn, 1) := by decide +kernel
theorem dX10_colourings_17 : decode cX10_colourings 17 = .ok (.iconst 0, 1) := by decide +kernel
theorem dX10_colourings_18 : decode cX10_colourings 18 = .ok (.istore_n 2, 1) := by decide +kernel
theorem dX10_colourings_19 : decode cX10_colourings 19 = .ok (.iconst 0, 1) := by decide +kernel
theorem dX10_colourings_20 : decode cX10_colourings 20 = .ok (.istore_n 3, 1) := by decide +kernel
theorem dX10_colourings_21 : decode cX10_colourings 21 = .ok (.aload_n 0, 1) := by decide +kernel
theorem dX10_colourings_22 : decode cX10_colourings 22 = .ok (.getfield 30, 3) := by decide +kernel
theorem dX10_colourings_25 : decode cX10_colourings 25 = .ok (.iconst 0, 1) := by decide +kernel
theorem dX10_colourings_26 : decode cX10_colourings 26 = .ok (.iconst (-1), 1) := by decide +kernel
theorem dX10_colourings_27 : decode cX10_colourings 27 = .ok (.iastore, 1) := by decide +kernel
theorem dX10_colourings_28 : decode cX10_colourings 28 = .ok (.iload_n 3, 1) := by decide +kernel
theorem dX10_colourings_29 : decode cX10_colourings 29 = .ok (.ifCond .lt 66, 3) := by decide +kernel
theorem dX10_colourings_32 : decode cX10_colourings 32 = .ok (.aload_n 0, 1) := by decide +kernel
theorem dX10_colourings_33 : decode cX10_colourings 33 = .ok (.getfield 30, 3) := by decide +kernel
theorem dX10_colourings_36 : decode cX10_colourings 36 = .ok (.iload_n 3, 1) := by decide +kernel
theorem dX10_colourings_37 : decode cX10_colourings 37 = .ok (.dup2, 1) := by decide +kernel
theorem dX10_colourings_38 : decode cX10_colourings 38 = .ok (.iaload, 1) := by decide +kernel
theorem dX10_colourings_39 : decode cX10_colourings 39 = .ok (.iconst 1, 1) := by decide +kernel
theorem dX10_colourings_40 : decode cX10_colourings 40 = .ok (.iadd, 1) := by decide +kernel
theorem dX10_colourings_41 : decode cX10_colourings 41 = .ok (.iastore, 1) := by decide +kernel
theorem dX10_colourings_42 : decode cX10_colourings 42 = .ok (.aload_n 0, 1) := by decide +kernel
theorem dX10_colourings_43 : decode cX10_colourings 43 = .ok (.getfield 30, 3) := by decide +kernel
theorem dX10_colourings_46 : decode cX10_colourings 46 = .ok (.iload_n 3, 1) := by decide +kernel
theorem dX10_colourings_47 : decode cX10_colourings 47 = .ok (.iaload, 1) := by decide +kernel
theorem dX10_colourings_48 : decode cX10_colourings 48 = .ok (.iload_n 1, 1) := by decide +kernel
theorem dX10_colourings_49 : decode cX10_colourings 49 = .ok (.if_icmp .ne 9, 3) := by decide +kernel
theorem dX10_colourings_52 : decode cX10_colourings 52 = .ok (.iinc 3 (-1), 3) := by decide +kernel
theorem dX10_colourings_55 : decode cX10_colourings 55 = .ok (.goto (-27), 3) := by decide +kernel
theorem dX10_colourings_58 : decode cX10_colourings 58 = .ok (.aload_n 0, 1) := by decide +kernel
theorem dX10_colourings_59 : decode cX10_colourings 59 = .ok (.iload_n 3, 1) := by decide +kernel
theorem dX10_colourings_60 : decode cX10_colourings 60 = .ok (.invokevirtual 147, 3) := by decide +kernel
theorem dX10_colourings_63 : decode cX10_colourings 63 = .ok (.ifCond .ne (-35), 3) := by decide +kernel
theorem dX10_colourings_66 : decode cX10_colourings 66 = .ok (.iload_n 3, 1) := by decide +kernel
theorem dX10_colourings_67 : decode cX10_colourings 67 = .ok (.iconst 1, 1) := by decide +kernel
theorem dX10_colourings_68 : decode cX10_colourings 68 = .ok (.iadd, 1) := by decide +kernel
theorem dX10_colourings_69 : decode cX10_colourings 69 = .ok (.aload_n 0, 1) := by decide +kernel
theorem dX10_colourings_70 : decode cX10_colourings 70 = .ok (.getfield 43, 3) := by decide +kernel
theorem dX10_colourings_73 : decode cX10_colourings 73 = .ok (.if_icmp .ne 9, 3) := by decide +kernel
theorem dX10_colourings_76 : decode cX10_colourings 76 = .ok (.iinc 2 1, 3) := by decide +kernel
theorem dX10_colourings_79 : decode cX10_colourings 79 = .ok (.goto (-51), 3) := by decide +kernel
theorem dX10_colourings_82 : decode cX10_colourings 82 = .ok (.iinc 3 1, 3) := by decide +kernel
theorem dX10_colourings_85 : decode cX10_colourings 85 = .ok (.aload_n 0, 1) := by decide +kernel
theorem dX10_colourings_86 : decode cX10_colourings 86 = .ok (.getfield 30, 3) := by decide +kernel
theorem dX10_colourings_89 : decode cX10_colourings 89 = .ok (.iload_n 3, 1) := by decide +kernel
theorem dX10_colourings_90 : decode cX10_colourings 90 = .ok (.iconst (-1), 1) := by decide +kernel
theorem dX10_colourings_91 : decode cX10_colourings 91 = .ok (.iastore, 1) := by decide +kernel
theorem dX10_colourings_92 : decode cX10_colourings 92 = .ok (.goto (-64), 3) := by decide +kernel
theorem dX10_colourings_95 : decode cX10_colourings 95 = .ok (.iload_n 2, 1) := by decide +kernel
theorem dX10_colourings_96 : decode cX10_colourings 96 = .ok (.ireturn, 1) := by decide +kernel
set_option maxRecDepth 20000 in
theorem ggX10_colouring_X10_all : GoodIn wsX10_colouring wsX10_all := sw_good (sw_cons (t1_ (al_ (t4_ (t1_ (t1_ h1_))))) (sw_app (sw_cons (t1_ (al_ (t4_ (t1_ (t1_ (t1_ h1_)))))) sw_nil) (fun _ h => (t1_ (ar_ h))))) (by decide +kernel)
set_option maxRecDepth 20000 in
theorem gX10_colouring_X10_all : GoodIn wsX10_colouring (wsV RX10 55 RX10 yX10_all wsX10_all) := goodIn_app (sw_good (sw_cons (t1_ (al_ (t1_ (t1_ h1_)))) (sw_cons (t1_ (al_ (t1_ (t1_ (t1_ h1_))))) (sw_cons (t1_ (al_ (t4_ h1_))) (sw_cons (t1_ (al_ (t4_ (t1_ h1_)))) sw_nil)))) (by decide +kernel)) ggX10_colouring_X10_all
theorem dX10_colouring_0 : decode cX10_colouring 0 = .ok (.iconst 0, 1) := by decide +kernel
theorem dX10_colouring_1 : decode cX10_colouring 1 = .ok (.istore_n 1, 1) := by decide +kernel
theorem dX10_colouring_2 : decode cX10_colouring 2 = .ok (.iload_n 1, 1) := by decide +kernel
theorem dX10_colouring_3 : decode cX10_colouring 3 = .ok (.aload_n 0, 1) := by decide +kernel
theorem dX10_colouring_4 : decode cX10_colouring 4 = .ok (.invokevirtual 55, 3) := by decide +kernel
theorem dX10_colouring_7 : decode cX10_colouring 7 = .ok (.if_icmp .gt 67, 3) := by decide +kernel
theorem dX10_colouring_10 : decode cX10_colouring 10 = .ok (.iconst 1, 1) := by decide +kernel
theorem dX10_colouring_11 : decode cX10_colouring 11 = .ok (.istore_n 2, 1) := by decide +kernel
theorem dX10_colouring_12 : decode cX10_colouring 12 = .ok (.iconst 0, 1) := by decide +kernel
theorem dX10_colouring_13 : decode cX10_colouring 13 = .ok (.istore_n 3, 1) := by decide +kernel
theorem dX10_colouring_14 : decode cX10_colouring 14 = .ok (.iload_n 3, 1) := by decide +kernel
theorem dX10_colouring_15 : decode cX10_colouring 15 = .ok (.aload_n 0, 1) := by decide +kernel
theorem dX10_colouring_16 : decode cX10_colouring 16 = .ok (.getfield 61, 3) := by decide +kernel
theorem dX10_colouring_19 : decode cX10_colouring 19 = .ok (.if_icmp .ge 43, 3) := by decide +kernel
theorem dX10_colouring_22 : decode cX10_colouring 22 = .ok (.iload_n 2, 1) := by decide +kernel
theorem dX10_colouring_23 : decode cX10_colouring 23 = .ok (.ifCond .eq 31, 3) := by decide +kernel
theorem dX10_colouring_26 : decode cX10_colouring 26 = .ok (.aload_n 0, 1) := by decide +kernel
theorem dX10_colouring_27 : decode cX10_colouring 27 = .ok (.getfield 7, 3) := by decide +kernel
theorem dX10_colouring_30 : decode cX10_colouring 30 = .ok (.iload_n 3, 1) := by decide +kernel
theorem dX10_colouring_31 : decode cX10_colouring 31 = .ok (.iaload, 1) := by decide +kernel
theorem dX10_colouring_32 : decode cX10_colouring 32 = .ok (.iload_n 1, 1) := by decide +kernel
theorem dX10_colouring_33 : decode cX10_colouring 33 = .ok (.iand, 1) := by decide +kernel
theorem dX10_colouring_34 : decode cX10_colouring 34 = .ok (.ifCond .eq 20, 3) := by decide +kernel
theorem dX10_colouring_37 : decode cX10_colouring 37 = .ok (.aload_n 0, 1) := by decide +kernel
theorem dX10_colouring_38 : decode cX10_colouring 38 = .ok (.getfield 7, 3) := by decide +kernel
theorem dX10_colouring_41 : decode cX10_colouring 41 = .ok (.iload_n 3, 1) := by decide +kernel
theorem dX10_colouring_42 : decode cX10_colouring 42 = .ok (.iaload, 1) := by decide +kernel
theorem dX10_colouring_43 : decode cX10_colouring 43 = .ok (.iload_n 1, 1) := by decide +kernel
theorem dX10_colouring_44 : decode cX10_colouring 44 = .ok (.iconst (-1), 1) := by decide +kernel
theorem dX10_colouring_45 : decode cX10_colouring 45 = .ok (.ixor, 1) := by decide +kernel
theorem dX10_colouring_46 : decode cX10_colouring 46 = .ok (.iand, 1) := by decide +kernel
theorem dX10_colouring_47 : decode cX10_colouring 47 = .ok (.ifCond .eq 7, 3) := by decide +kernel
theorem dX10_colouring_50 : decode cX10_colouring 50 = .ok (.iconst 1, 1) := by decide +kernel
theorem dX10_colouring_51 : decode cX10_colouring 51 = .ok (.goto 4, 3) := by decide +kernel
theorem dX10_colouring_54 : decode cX10_colouring 54 = .ok (.iconst 0, 1) := by decide +kernel
theorem dX10_colouring_55 : decode cX10_colouring 55 = .ok (.istore_n 2, 1) := by decide +kernel
theorem dX10_colouring_56 : decode cX10_colouring 56 = .ok (.iinc 3 1, 3) := by decide +kernel
theorem dX10_colouring_59 : decode cX10_colouring 59 = .ok (.goto (-45), 3) := by decide +kernel
theorem dX10_colouring_62 : decode cX10_colouring 62 = .ok (.iload_n 2, 1) := by decide +kernel
theorem dX10_colouring_63 : decode cX10_colouring 63 = .ok (.ifCond .eq 5, 3) := by decide +kernel
theorem dX10_colouring_66 : decode cX10_colouring 66 = .ok (.iload_n 1, 1) := by decide +kernel
theorem dX10_colouring_67 : decode cX10_colouring 67 = .ok (.ireturn, 1) := by decide +kernel
theorem dX10_colouring_68 : decode cX10_colouring 68 = .ok (.iinc 1 1, 3) := by decide +kernel
theorem dX10_colouring_71 : decode cX10_colouring 71 = .ok (.goto (-69), 3) := by decide +kernel
theorem dX10_colouring_74 : decode cX10_colouring 74 = .ok (.iconst (-1), 1) := by decide +kernel
theorem dX10_colouring_75 : decode cX10_colouring 75 = .ok (.ireturn, 1) := by decide +kernel
theorem dX10_holder_0 : decode cX10_holder 0 = .ok (.iconst (-1), 1) := by decide +kernel
theorem dX10_holder_1 : decode cX10_holder 1 = .ok (.istore_n 3, 1) := by decide +kernel
theorem dX10_holder_2 : decode cX10_holder 2 = .ok (.iconst 0, 1) := by decide +kernel
theorem dX10_holder_3 : decode cX10_holder 3 = .ok (.istore 4, 2) := by decide +kernel
theorem dX10_holder_5 : decode cX10_holder 5 = .ok (.iconst 0, 1) := by decide +kernel
theorem dX10_holder_6 : decode cX10_holder 6 = .ok (.istore 5, 2) := by decide +kernel
theorem dX10_holder_8 : decode cX10_holder 8 = .ok (.iload 5, 2) := by decide +kernel
theorem dX10_holder_10 : decode cX10_holder 10 = .ok (.aload_n 0, 1) := by decide +kernel
theorem dX10_holder_11 : decode cX10_holder 11 = .ok (.getfield 61, 3) := by decide +kernel
theorem dX10_holder_14 : decode cX10_holder 14 = .ok (.if_icmp .ge 40, 3) := by decide +kernel
theorem dX10_holder_17 : decode cX10_holder 17 = .ok (.iload_n 2, 1) := by decide +kernel
theorem dX10_holder_18 : decode cX10_holder 18 = .ok (.iload 5, 2) := by decide +kernel
theorem dX10_holder_20 : decode cX10_holder 20 = .ok (.ishr, 1) := by decide +kernel
theorem dX10_holder_21 : decode cX10_holder 21 = .ok (.iconst 1, 1) := by decide +kernel
theorem dX10_holder_22 : decode cX10_holder 22 = .ok (.iand, 1) := by decide +kernel
theorem dX10_holder_23 : decode cX10_holder 23 = .ok (.iconst 1, 1) := by decide +kernel
theorem dX10_holder_24 : decode cX10_holder 24 = .ok (.if_icmp .ne 24, 3) := by decide +kernel
theorem dX10_holder_27 : decode cX10_holder 27 = .ok (.aload_n 0, 1) := by decide +kernel
theorem dX10_holder_28 : decode cX10_holder 28 = .ok (.getfield 33, 3) := by decide +kernel
theorem dX10_holder_31 : decode cX10_holder 31 = .ok (.iload 5, 2) := by decide +kernel
theorem dX10_holder_33 : decode cX10_holder 33 = .ok (.iaload, 1) := by decide +kernel
theorem dX10_holder_34 : decode cX10_holder 34 = .ok (.iload_n 1, 1) := by decide +kernel
theorem dX10_holder_35 : decode cX10_holder 35 = .ok (.ishr, 1) := by decide +kernel
theorem dX10_holder_36 : decode cX10_holder 36 = .ok (.iconst 1, 1) := by decide +kernel
theorem dX10_holder_37 : decode cX10_holder 37 = .ok (.iand, 1) := by decide +kernel
theorem dX10_holder_38 : decode cX10_holder 38 = .ok (.iconst 1, 1) := by decide +kernel
theorem dX10_holder_39 : decode cX10_holder 39 = .ok (.if_icmp .ne 9, 3) := by decide +kernel
theorem dX10_holder_42 : decode cX10_holder 42 = .ok (.iload 5, 2) := by decide +kernel
theorem dX10_holder_44 : decode cX10_holder 44 = .ok (.istore_n 3, 1) := by decide +kernel
theorem dX10_holder_45 : decode cX10_holder 45 = .ok (.iinc 4 1, 3) := by decide +kernel
theorem dX10_holder_48 : decode cX10_holder 48 = .ok (.iinc 5 1, 3) := by decide +kernel
theorem dX10_holder_51 : decode cX10_holder 51 = .ok (.goto (-43), 3) := by decide +kernel
theorem dX10_holder_54 : decode cX10_holder 54 = .ok (.iload 4, 2) := by decide +kernel
theorem dX10_holder_56 : decode cX10_holder 56 = .ok (.iconst 1, 1) := by decide +kernel
theorem dX10_holder_57 : decode cX10_holder 57 = .ok (.if_icmp .ne 7, 3) := by decide +kernel
theorem dX10_holder_60 : decode cX10_holder 60 = .ok (.iload_n 3, 1) := by decide +kernel
theorem dX10_holder_61 : decode cX10_holder 61 = .ok (.goto 4, 3) := by decide +kernel
theorem dX10_holder_64 : decode cX10_holder 64 = .ok (.iconst (-1), 1) := by decide +kernel
theorem dX10_holder_65 : decode cX10_holder 65 = .ok (.ireturn, 1) := by decide +kernel
theorem dX10_lies_0 : decode cX10_lies 0 = .ok (.aload_n 0, 1) := by decide +kernel
theorem dX10_lies_1 : decode cX10_lies 1 = .ok (.getfield 33, 3) := by decide +kernel
theorem dX10_lies_4 : decode cX10_lies 4 = .ok (.iload_n 1, 1) := by decide +kernel
theorem dX10_lies_5 : decode cX10_lies 5 = .ok (.iaload, 1) := by decide +kernel
theorem dX10_lies_6 : decode cX10_lies 6 = .ok (.ifCond .ne 7, 3) := by decide +kernel
theorem dX10_lies_9 : decode cX10_lies 9 = .ok (.iconst 1, 1) := by decide +kernel
theorem dX10_lies_10 : decode cX10_lies 10 = .ok (.goto 4, 3) := by decide +kernel
theorem dX10_lies_13 : decode cX10_lies 13 = .ok (.iconst 0, 1) := by decide +kernel
theorem dX10_lies_14 : decode cX10_lies 14 = .ok (.istore_n 3, 1) := by decide +kernel
theorem dX10_lies_15 : decode cX10_lies 15 = .ok (.iconst 0, 1) := by decide +kernel
theorem dX10_lies_16 : decode cX10_lies 16 = .ok (.istore 4, 2) := by decide +kernel
theorem dX10_lies_18 : decode cX10_lies 18 = .ok (.iload 4, 2) := by decide +kernel
theorem dX10_lies_20 : decode cX10_lies 20 = .ok (.aload_n 0, 1) := by decide +kernel
theorem dX10_lies_21 : decode cX10_lies 21 = .ok (.getfield 61, 3) := by decide +kernel
theorem dX10_lies_24 : decode cX10_lies 24 = .ok (.if_icmp .ge 54, 3) := by decide +kernel
theorem dX10_lies_27 : decode cX10_lies 27 = .ok (.iload_n 3, 1) := by decide +kernel
theorem dX10_lies_28 : decode cX10_lies 28 = .ok (.ifCond .ne 38, 3) := by decide +kernel
theorem dX10_lies_31 : decode cX10_lies 31 = .ok (.iload 4, 2) := by decide +kernel
theorem dX10_lies_33 : decode cX10_lies 33 = .ok (.iload_n 1, 1) := by decide +kernel
theorem dX10_lies_34 : decode cX10_lies 34 = .ok (.if_icmp .eq 36, 3) := by decide +kernel
theorem dX10_lies_37 : decode cX10_lies 37 = .ok (.iload_n 2, 1) := by decide +kernel
theorem dX10_lies_38 : decode cX10_lies 38 = .ok (.iload 4, 2) := by decide +kernel
theorem dX10_lies_40 : decode cX10_lies 40 = .ok (.ishr, 1) := by decide +kernel
theorem dX10_lies_41 : decode cX10_lies 41 = .ok (.iconst 1, 1) := by decide +kernel
theorem dX10_lies_42 : decode cX10_lies 42 = .ok (.iand, 1) := by decide +kernel
theorem dX10_lies_43 : decode cX10_lies 43 = .ok (.iconst 1, 1) := by decide +kernel
theorem dX10_lies_44 : decode cX10_lies 44 = .ok (.if_icmp .ne 26, 3) := by decide +kernel
theorem dX10_lies_47 : decode cX10_lies 47 = .ok (.aload_n 0, 1) := by decide +kernel
theorem dX10_lies_48 : decode cX10_lies 48 = .ok (.getfield 33, 3) := by decide +kernel
theorem dX10_lies_51 : decode cX10_lies 51 = .ok (.iload_n 1, 1) := by decide +kernel
theorem dX10_lies_52 : decode cX10_lies 52 = .ok (.iaload, 1) := by decide +kernel
theorem dX10_lies_53 : decode cX10_lies 53 = .ok (.aload_n 0, 1) := by decide +kernel
theorem dX10_lies_54 : decode cX10_lies 54 = .ok (.getfield 33, 3) := by decide +kernel
theorem dX10_lies_57 : decode cX10_lies 57 = .ok (.iload 4, 2) := by decide +kernel
theorem dX10_lies_59 : decode cX10_lies 59 = .ok (.iaload, 1) := by decide +kernel
theorem dX10_lies_60 : decode cX10_lies 60 = .ok (.iconst (-1), 1) := by decide +kernel
theorem dX10_lies_61 : decode cX10_lies 61 = .ok (.ixor, 1) := by decide +kernel
theorem dX10_lies_62 : decode cX10_lies 62 = .ok (.iand, 1) := by decide +kernel
theorem dX10_lies_63 : decode cX10_lies 63 = .ok (.ifCond .ne 7, 3) := by decide +kernel
theorem dX10_lies_66 : decode cX10_lies 66 = .ok (.iconst 1, 1) := by decide +kernel
theorem dX10_lies_67 : decode cX10_lies 67 = .ok (.goto 4, 3) := by decide +kernel
theorem dX10_lies_70 : decode cX10_lies 70 = .ok (.iconst 0, 1) := by decide +kernel
theorem dX10_lies_71 : decode cX10_lies 71 = .ok (.istore_n 3, 1) := by decide +kernel
theorem dX10_lies_72 : decode cX10_lies 72 = .ok (.iinc 4 1, 3) := by decide +kernel
theorem dX10_lies_75 : decode cX10_lies 75 = .ok (.goto (-57), 3) := by decide +kernel
theorem dX10_lies_78 : decode cX10_lies 78 = .ok (.iload_n 3, 1) := by decide +kernel
theorem dX10_lies_79 : decode cX10_lies 79 = .ok (.ireturn, 1) := by decide +kernel
set_option maxRecDepth 20000 in
theorem ggX10_earsOf_X10_holder : GoodIn wsX10_earsOf wsX10_holder := sw_good (sw_cons (t1_ (al_ (t4_ (t4_ h1_)))) (sw_app (sw_cons (t1_ (al_ h1_)) (sw_cons (t1_ (al_ (t1_ h1_))) sw_nil)) (fun _ h => (t1_ (ar_ h))))) (by decide +kernel)
set_option maxRecDepth 20000 in
theorem gX10_earsOf_X10_holder : GoodIn wsX10_earsOf (wsV RX10 150 RX10 yX10_holder wsX10_holder) := goodIn_app (sw_good (sw_cons (t1_ (al_ (t4_ h1_))) (sw_cons (t1_ (al_ (t4_ (t1_ h1_)))) (sw_cons (t1_ (al_ (t4_ (t1_ (t1_ h1_))))) (sw_cons (t1_ (al_ (t4_ (t1_ (t1_ (t1_ h1_)))))) sw_nil)))) (by decide +kernel)) ggX10_earsOf_X10_holder
set_option maxRecDepth 20000 in
theorem ggX10_earsOf_X10_lies : GoodIn wsX10_earsOf wsX10_lies := sw_good (sw_cons (t1_ (al_ (t4_ (t4_ (t4_ h1_))))) (sw_app (sw_cons (t1_ (al_ (t1_ h1_))) (sw_cons (t1_ (al_ h1_)) sw_nil)) (fun _ h => (t1_ (ar_ h))))) (by decide +kernel)
set_option maxRecDepth 20000 in
theorem gX10_earsOf_X10_lies : GoodIn wsX10_earsOf (wsV RX10 153 RX10 yX10_lies wsX10_lies) := goodIn_app (sw_good (sw_cons (t1_ (al_ (t4_ (t4_ (t1_ h1_))))) (sw_cons (t1_ (al_ (t4_ (t4_ (t1_ (t1_ h1_)))))) (sw_cons (t1_ (al_ (t4_ (t4_ (t1_ (t1_ (t1_ h1_))))))) (sw_cons (t1_ (al_ (t4_ (t1_ (t1_ (t1_ h1_)))))) sw_nil)))) (by decide +kernel)) ggX10_earsOf_X10_lies
theorem dX10_earsOf_0 : decode cX10_earsOf 0 = .ok (.iconst 1, 1) := by decide +kernel
theorem dX10_earsOf_1 : decode cX10_earsOf 1 = .ok (.aload_n 0, 1) := by decide +kernel
theorem dX10_earsOf_2 : decode cX10_earsOf 2 = .ok (.getfield 61, 3) := by decide +kernel
theorem dX10_earsOf_5 : decode cX10_earsOf 5 = .ok (.ishl, 1) := by decide +kernel
theorem dX10_earsOf_6 : decode cX10_earsOf 6 = .ok (.iconst 1, 1) := by decide +kernel
theorem dX10_earsOf_7 : decode cX10_earsOf 7 = .ok (.isub, 1) := by decide +kernel
theorem dX10_earsOf_8 : decode cX10_earsOf 8 = .ok (.istore_n 1, 1) := by decide +kernel
theorem dX10_earsOf_9 : decode cX10_earsOf 9 = .ok (.iconst 0, 1) := by decide +kernel
theorem dX10_earsOf_10 : decode cX10_earsOf 10 = .ok (.istore_n 2, 1) := by decide +kernel
theorem dX10_earsOf_11 : decode cX10_earsOf 11 = .ok (.iload_n 2, 1) := by decide +kernel
theorem dX10_earsOf_12 : decode cX10_earsOf 12 = .ok (.aload_n 0, 1) := by decide +kernel
theorem dX10_earsOf_13 : decode cX10_earsOf 13 = .ok (.getfield 61, 3) := by decide +kernel
theorem dX10_earsOf_16 : decode cX10_earsOf 16 = .ok (.if_icmp .ge 21, 3) := by decide +kernel
theorem dX10_earsOf_19 : decode cX10_earsOf 19 = .ok (.aload_n 0, 1) := by decide +kernel
theorem dX10_earsOf_20 : decode cX10_earsOf 20 = .ok (.getfield 33, 3) := by decide +kernel
theorem dX10_earsOf_23 : decode cX10_earsOf 23 = .ok (.iload_n 2, 1) := by decide +kernel
theorem dX10_earsOf_24 : decode cX10_earsOf 24 = .ok (.aload_n 0, 1) := by decide +kernel
theorem dX10_earsOf_25 : decode cX10_earsOf 25 = .ok (.getfield 7, 3) := by decide +kernel
theorem dX10_earsOf_28 : decode cX10_earsOf 28 = .ok (.iload_n 2, 1) := by decide +kernel
theorem dX10_earsOf_29 : decode cX10_earsOf 29 = .ok (.iaload, 1) := by decide +kernel
theorem dX10_earsOf_30 : decode cX10_earsOf 30 = .ok (.iastore, 1) := by decide +kernel
theorem dX10_earsOf_31 : decode cX10_earsOf 31 = .ok (.iinc 2 1, 3) := by decide +kernel
theorem dX10_earsOf_34 : decode cX10_earsOf 34 = .ok (.goto (-23), 3) := by decide +kernel
theorem dX10_earsOf_37 : decode cX10_earsOf 37 = .ok (.iconst 1, 1) := by decide +kernel
theorem dX10_earsOf_38 : decode cX10_earsOf 38 = .ok (.istore_n 2, 1) := by decide +kernel
theorem dX10_earsOf_39 : decode cX10_earsOf 39 = .ok (.iload_n 2, 1) := by decide +kernel
theorem dX10_earsOf_40 : decode cX10_earsOf 40 = .ok (.ifCond .eq 103, 3) := by decide +kernel
theorem dX10_earsOf_43 : decode cX10_earsOf 43 = .ok (.iconst 0, 1) := by decide +kernel
theorem dX10_earsOf_44 : decode cX10_earsOf 44 = .ok (.istore_n 2, 1) := by decide +kernel
theorem dX10_earsOf_45 : decode cX10_earsOf 45 = .ok (.iconst 0, 1) := by decide +kernel
theorem dX10_earsOf_46 : decode cX10_earsOf 46 = .ok (.istore_n 3, 1) := by decide +kernel
theorem dX10_earsOf_47 : decode cX10_earsOf 47 = .ok (.iload_n 3, 1) := by decide +kernel
theorem dX10_earsOf_48 : decode cX10_earsOf 48 = .ok (.aload_n 0, 1) := by decide +kernel
theorem dX10_earsOf_49 : decode cX10_earsOf 49 = .ok (.getfield 43, 3) := by decide +kernel
theorem dX10_earsOf_52 : decode cX10_earsOf 52 = .ok (.if_icmp .ge 42, 3) := by decide +kernel
theorem dX10_earsOf_55 : decode cX10_earsOf 55 = .ok (.iload_n 2, 1) := by decide +kernel
theorem dX10_earsOf_56 : decode cX10_earsOf 56 = .ok (.ifCond .ne 38, 3) := by decide +kernel
theorem dX10_earsOf_59 : decode cX10_earsOf 59 = .ok (.aload_n 0, 1) := by decide +kernel
theorem dX10_earsOf_60 : decode cX10_earsOf 60 = .ok (.iload_n 3, 1) := by decide +kernel
theorem dX10_earsOf_61 : decode cX10_earsOf 61 = .ok (.iload_n 1, 1) := by decide +kernel
theorem dX10_earsOf_62 : decode cX10_earsOf 62 = .ok (.invokevirtual 150, 3) := by decide +kernel
theorem dX10_earsOf_65 : decode cX10_earsOf 65 = .ok (.istore 4, 2) := by decide +kernel
theorem dX10_earsOf_67 : decode cX10_earsOf 67 = .ok (.iload 4, 2) := by decide +kernel
theorem dX10_earsOf_69 : decode cX10_earsOf 69 = .ok (.iconst (-1), 1) := by decide +kernel
theorem dX10_earsOf_70 : decode cX10_earsOf 70 = .ok (.if_icmp .eq 18, 3) := by decide +kernel
theorem dX10_earsOf_73 : decode cX10_earsOf 73 = .ok (.aload_n 0, 1) := by decide +kernel
theorem dX10_earsOf_74 : decode cX10_earsOf 74 = .ok (.getfield 33, 3) := by decide +kernel
theorem dX10_earsOf_77 : decode cX10_earsOf 77 = .ok (.iload 4, 2) := by decide +kernel
theorem dX10_earsOf_79 : decode cX10_earsOf 79 = .ok (.dup2, 1) := by decide +kernel
theorem dX10_earsOf_80 : decode cX10_earsOf 80 = .ok (.iaload, 1) := by decide +kernel
theorem dX10_earsOf_81 : decode cX10_earsOf 81 = .ok (.iconst 1, 1) := by decide +kernel
theorem dX10_earsOf_82 : decode cX10_earsOf 82 = .ok (.iload_n 3, 1) := by decide +kernel
theorem dX10_earsOf_83 : decode cX10_earsOf 83 = .ok (.ishl, 1) := by decide +kernel
theorem dX10_earsOf_84 : decode cX10_earsOf 84 = .ok (.ixor, 1) := by decide +kernel
theorem dX10_earsOf_85 : decode cX10_earsOf 85 = .ok (.iastore, 1) := by decide +kernel
theorem dX10_earsOf_86 : decode cX10_earsOf 86 = .ok (.iconst 1, 1) := by decide +kernel
theorem dX10_earsOf_87 : decode cX10_earsOf 87 = .ok (.istore_n 2, 1) := by decide +kernel
theorem dX10_earsOf_88 : decode cX10_earsOf 88 = .ok (.iinc 3 1, 3) := by decide +kernel
theorem dX10_earsOf_91 : decode cX10_earsOf 91 = .ok (.goto (-44), 3) := by decide +kernel
theorem dX10_earsOf_94 : decode cX10_earsOf 94 = .ok (.iconst 0, 1) := by decide +kernel
theorem dX10_earsOf_95 : decode cX10_earsOf 95 = .ok (.istore_n 3, 1) := by decide +kernel
theorem dX10_earsOf_96 : decode cX10_earsOf 96 = .ok (.iload_n 3, 1) := by decide +kernel
theorem dX10_earsOf_97 : decode cX10_earsOf 97 = .ok (.aload_n 0, 1) := by decide +kernel
theorem dX10_earsOf_98 : decode cX10_earsOf 98 = .ok (.getfield 61, 3) := by decide +kernel
theorem dX10_earsOf_101 : decode cX10_earsOf 101 = .ok (.if_icmp .ge 39, 3) := by decide +kernel
theorem dX10_earsOf_104 : decode cX10_earsOf 104 = .ok (.iload_n 2, 1) := by decide +kernel
theorem dX10_earsOf_105 : decode cX10_earsOf 105 = .ok (.ifCond .ne 35, 3) := by decide +kernel
theorem dX10_earsOf_108 : decode cX10_earsOf 108 = .ok (.iload_n 1, 1) := by decide +kernel
theorem dX10_earsOf_109 : decode cX10_earsOf 109 = .ok (.iload_n 3, 1) := by decide +kernel
theorem dX10_earsOf_110 : decode cX10_earsOf 110 = .ok (.ishr, 1) := by decide +kernel
theorem dX10_earsOf_111 : decode cX10_earsOf 111 = .ok (.iconst 1, 1) := by decide +kernel
theorem dX10_earsOf_112 : decode cX10_earsOf 112 = .ok (.iand, 1) := by decide +kernel
theorem dX10_earsOf_113 : decode cX10_earsOf 113 = .ok (.iconst 1, 1) := by decide +kernel
theorem dX10_earsOf_114 : decode cX10_earsOf 114 = .ok (.if_icmp .ne 20, 3) := by decide +kernel
theorem dX10_earsOf_117 : decode cX10_earsOf 117 = .ok (.aload_n 0, 1) := by decide +kernel
theorem dX10_earsOf_118 : decode cX10_earsOf 118 = .ok (.iload_n 3, 1) := by decide +kernel
theorem dX10_earsOf_119 : decode cX10_earsOf 119 = .ok (.iload_n 1, 1) := by decide +kernel
theorem dX10_earsOf_120 : decode cX10_earsOf 120 = .ok (.invokevirtual 153, 3) := by decide +kernel
theorem dX10_earsOf_123 : decode cX10_earsOf 123 = .ok (.ifCond .eq 11, 3) := by decide +kernel
theorem dX10_earsOf_126 : decode cX10_earsOf 126 = .ok (.iload_n 1, 1) := by decide +kernel
theorem dX10_earsOf_127 : decode cX10_earsOf 127 = .ok (.iconst 1, 1) := by decide +kernel
theorem dX10_earsOf_128 : decode cX10_earsOf 128 = .ok (.iload_n 3, 1) := by decide +kernel
theorem dX10_earsOf_129 : decode cX10_earsOf 129 = .ok (.ishl, 1) := by decide +kernel
theorem dX10_earsOf_130 : decode cX10_earsOf 130 = .ok (.ixor, 1) := by decide +kernel
theorem dX10_earsOf_131 : decode cX10_earsOf 131 = .ok (.istore_n 1, 1) := by decide +kernel
theorem dX10_earsOf_132 : decode cX10_earsOf 132 = .ok (.iconst 1, 1) := by decide +kernel
theorem dX10_earsOf_133 : decode cX10_earsOf 133 = .ok (.istore_n 2, 1) := by decide +kernel
theorem dX10_earsOf_134 : decode cX10_earsOf 134 = .ok (.iinc 3 1, 3) := by decide +kernel
theorem dX10_earsOf_137 : decode cX10_earsOf 137 = .ok (.goto (-41), 3) := by decide +kernel
theorem dX10_earsOf_140 : decode cX10_earsOf 140 = .ok (.goto (-101), 3) := by decide +kernel
theorem dX10_earsOf_143 : decode cX10_earsOf 143 = .ok (.iload_n 1, 1) := by decide +kernel
theorem dX10_earsOf_144 : decode cX10_earsOf 144 = .ok (.ireturn, 1) := by decide +kernel
set_option maxRecDepth 20000 in
theorem ggX10_ears_X10_earsOf : GoodIn wsX10_ears wsX10_earsOf := sw_good (sw_cons (t1_ (al_ (t4_ h1_))) (sw_app (sw_cons (t1_ (al_ (t4_ (t1_ h1_)))) (sw_cons (t1_ (al_ (t4_ (t1_ (t1_ h1_))))) (sw_cons (t1_ (al_ (t4_ (t1_ (t1_ (t1_ h1_)))))) (sw_cons (t1_ (al_ (t4_ (t4_ h1_)))) (sw_cons (t1_ (al_ (t4_ (t4_ (t1_ h1_))))) (sw_cons (t1_ (al_ (t4_ (t4_ (t1_ (t1_ h1_)))))) (sw_cons (t1_ (al_ (t4_ (t4_ (t1_ (t1_ (t1_ h1_))))))) (sw_cons (t1_ (al_ (t1_ (t1_ (t1_ h1_))))) (sw_cons (t1_ (al_ (t4_ (t4_ (t4_ h1_))))) (sw_cons (t1_ (al_ (t4_ (t4_ (t4_ (t1_ h1_)))))) (sw_cons (t1_ (al_ (t4_ (t4_ (t4_ (t1_ (t1_ h1_))))))) (sw_cons (t1_ (al_ (t4_ (t4_ (t4_ (t1_ (t1_ (t1_ h1_)))))))) (sw_cons (t1_ (al_ (t16_ h1_))) sw_nil))))))))))))) (fun _ h => (t1_ (ar_ h))))) (by decide +kernel)
set_option maxRecDepth 20000 in
theorem gX10_ears_X10_earsOf : GoodIn wsX10_ears (wsV RX10 157 RX10 yX10_earsOf wsX10_earsOf) := goodIn_app (sw_good (sw_cons (t1_ (al_ h1_)) (sw_cons (t1_ (al_ (t1_ h1_))) (sw_cons (t1_ (al_ (t1_ (t1_ h1_)))) (sw_cons (t1_ (al_ (t1_ (t1_ (t1_ h1_))))) sw_nil)))) (by decide +kernel)) ggX10_ears_X10_earsOf
theorem dX10_ears_0 : decode cX10_ears 0 = .ok (.aload_n 0, 1) := by decide +kernel
theorem dX10_ears_1 : decode cX10_ears 1 = .ok (.invokevirtual 157, 3) := by decide +kernel
theorem dX10_ears_4 : decode cX10_ears 4 = .ok (.ireturn, 1) := by decide +kernel
set_option maxRecDepth 20000 in
theorem ggX10_twoByTwo_X10_all : GoodIn wsX10_twoByTwo wsX10_all := sw_good (sw_cons (t1_ (al_ (t4_ (t1_ (t1_ h1_))))) (sw_app (sw_cons (t1_ (al_ (t4_ (t1_ (t1_ (t1_ h1_)))))) sw_nil) (fun _ h => (t1_ (ar_ h))))) (by decide +kernel)
set_option maxRecDepth 20000 in
theorem gX10_twoByTwo_X10_all : GoodIn wsX10_twoByTwo (wsV RX10 55 RX10 yX10_all wsX10_all) := goodIn_app (sw_good (sw_cons (t1_ (al_ (t1_ (t1_ h1_)))) (sw_cons (t1_ (al_ (t1_ (t1_ (t1_ h1_))))) (sw_cons (t1_ (al_ (t4_ h1_))) (sw_cons (t1_ (al_ (t4_ (t1_ h1_)))) sw_nil)))) (by decide +kernel)) ggX10_twoByTwo_X10_all
set_option maxRecDepth 20000 in
theorem ggX10_twoByTwo_X10_sizeOf : GoodIn wsX10_twoByTwo wsX10_sizeOf := sw_good (sw_cons (t1_ (al_ (t4_ (t4_ (t1_ (t1_ h1_)))))) sw_nil) (by decide +kernel)
set_option maxRecDepth 20000 in
theorem gX10_twoByTwo_X10_sizeOf : GoodIn wsX10_twoByTwo (va_wsS RX10 86 yX10_sizeOf wsX10_sizeOf) := goodIn_app (sw_good (sw_cons (t1_ (al_ (t4_ (t4_ h1_)))) (sw_cons (t1_ (al_ (t4_ (t4_ (t1_ h1_))))) (sw_cons (t1_ (al_ (t4_ (t1_ h1_)))) sw_nil))) (by decide +kernel)) ggX10_twoByTwo_X10_sizeOf
set_option maxRecDepth 20000 in
theorem ggX10_twoByTwo_X10_common : GoodIn wsX10_twoByTwo wsX10_common := sw_good (sw_cons (t1_ (al_ (t4_ (t4_ (t4_ (t1_ (t1_ h1_))))))) (sw_app (sw_cons (t1_ (al_ h1_)) (sw_cons (t1_ (al_ (t1_ h1_))) (sw_cons (t1_ (al_ (t1_ (t1_ h1_)))) (sw_cons (t1_ (al_ (t1_ (t1_ (t1_ h1_))))) (sw_cons (t1_ (al_ (t4_ h1_))) (sw_cons (t1_ (al_ (t4_ (t1_ h1_)))) (sw_cons (t1_ (al_ (t4_ (t1_ (t1_ h1_))))) (sw_cons (t1_ (al_ (t4_ (t1_ (t1_ (t1_ h1_)))))) sw_nil)))))))) (fun _ h => (t1_ (ar_ h))))) (by decide +kernel)
set_option maxRecDepth 20000 in
theorem gX10_twoByTwo_X10_common : GoodIn wsX10_twoByTwo (wsV RX10 134 RX10 yX10_common wsX10_common) := goodIn_app (sw_good (sw_cons (t1_ (al_ (t4_ (t4_ (t1_ (t1_ (t1_ h1_))))))) (sw_cons (t1_ (al_ (t4_ (t4_ (t4_ h1_))))) (sw_cons (t1_ (al_ (t4_ (t4_ (t4_ (t1_ h1_)))))) (sw_cons (t1_ (al_ (t4_ (t1_ h1_)))) sw_nil)))) (by decide +kernel)) ggX10_twoByTwo_X10_common
theorem dX10_twoByTwo_0 : decode cX10_twoByTwo 0 = .ok (.iconst 0, 1) := by decide +kernel
theorem dX10_twoByTwo_1 : decode cX10_twoByTwo 1 = .ok (.istore_n 1, 1) := by decide +kernel
theorem dX10_twoByTwo_2 : decode cX10_twoByTwo 2 = .ok (.iload_n 1, 1) := by decide +kernel
theorem dX10_twoByTwo_3 : decode cX10_twoByTwo 3 = .ok (.aload_n 0, 1) := by decide +kernel
theorem dX10_twoByTwo_4 : decode cX10_twoByTwo 4 = .ok (.invokevirtual 55, 3) := by decide +kernel
theorem dX10_twoByTwo_7 : decode cX10_twoByTwo 7 = .ok (.if_icmp .gt 74, 3) := by decide +kernel
theorem dX10_twoByTwo_10 : decode cX10_twoByTwo 10 = .ok (.iload_n 1, 1) := by decide +kernel
theorem dX10_twoByTwo_11 : decode cX10_twoByTwo 11 = .ok (.invokestatic 86, 3) := by decide +kernel
theorem dX10_twoByTwo_14 : decode cX10_twoByTwo 14 = .ok (.iconst 3, 1) := by decide +kernel
theorem dX10_twoByTwo_15 : decode cX10_twoByTwo 15 = .ok (.if_icmp .ne 60, 3) := by decide +kernel
theorem dX10_twoByTwo_18 : decode cX10_twoByTwo 18 = .ok (.iconst 0, 1) := by decide +kernel
theorem dX10_twoByTwo_19 : decode cX10_twoByTwo 19 = .ok (.istore_n 2, 1) := by decide +kernel
theorem dX10_twoByTwo_20 : decode cX10_twoByTwo 20 = .ok (.iconst 0, 1) := by decide +kernel
theorem dX10_twoByTwo_21 : decode cX10_twoByTwo 21 = .ok (.istore_n 3, 1) := by decide +kernel
theorem dX10_twoByTwo_22 : decode cX10_twoByTwo 22 = .ok (.iload_n 3, 1) := by decide +kernel
theorem dX10_twoByTwo_23 : decode cX10_twoByTwo 23 = .ok (.aload_n 0, 1) := by decide +kernel
theorem dX10_twoByTwo_24 : decode cX10_twoByTwo 24 = .ok (.getfield 61, 3) := by decide +kernel
theorem dX10_twoByTwo_27 : decode cX10_twoByTwo 27 = .ok (.if_icmp .ge 34, 3) := by decide +kernel
theorem dX10_twoByTwo_30 : decode cX10_twoByTwo 30 = .ok (.iload_n 2, 1) := by decide +kernel
theorem dX10_twoByTwo_31 : decode cX10_twoByTwo 31 = .ok (.aload_n 0, 1) := by decide +kernel
theorem dX10_twoByTwo_32 : decode cX10_twoByTwo 32 = .ok (.getfield 7, 3) := by decide +kernel
theorem dX10_twoByTwo_35 : decode cX10_twoByTwo 35 = .ok (.iload_n 3, 1) := by decide +kernel
theorem dX10_twoByTwo_36 : decode cX10_twoByTwo 36 = .ok (.iaload, 1) := by decide +kernel
theorem dX10_twoByTwo_37 : decode cX10_twoByTwo 37 = .ok (.iload_n 1, 1) := by decide +kernel
theorem dX10_twoByTwo_38 : decode cX10_twoByTwo 38 = .ok (.iand, 1) := by decide +kernel
theorem dX10_twoByTwo_39 : decode cX10_twoByTwo 39 = .ok (.invokestatic 86, 3) := by decide +kernel
theorem dX10_twoByTwo_42 : decode cX10_twoByTwo 42 = .ok (.iconst 1, 1) := by decide +kernel
theorem dX10_twoByTwo_43 : decode cX10_twoByTwo 43 = .ok (.if_icmp .le 9, 3) := by decide +kernel
theorem dX10_twoByTwo_46 : decode cX10_twoByTwo 46 = .ok (.iconst 1, 1) := by decide +kernel
theorem dX10_twoByTwo_47 : decode cX10_twoByTwo 47 = .ok (.iload_n 3, 1) := by decide +kernel
theorem dX10_twoByTwo_48 : decode cX10_twoByTwo 48 = .ok (.ishl, 1) := by decide +kernel
theorem dX10_twoByTwo_49 : decode cX10_twoByTwo 49 = .ok (.goto 4, 3) := by decide +kernel
theorem dX10_twoByTwo_52 : decode cX10_twoByTwo 52 = .ok (.iconst 0, 1) := by decide +kernel
theorem dX10_twoByTwo_53 : decode cX10_twoByTwo 53 = .ok (.ior, 1) := by decide +kernel
theorem dX10_twoByTwo_54 : decode cX10_twoByTwo 54 = .ok (.istore_n 2, 1) := by decide +kernel
theorem dX10_twoByTwo_55 : decode cX10_twoByTwo 55 = .ok (.iinc 3 1, 3) := by decide +kernel
theorem dX10_twoByTwo_58 : decode cX10_twoByTwo 58 = .ok (.goto (-36), 3) := by decide +kernel
theorem dX10_twoByTwo_61 : decode cX10_twoByTwo 61 = .ok (.iload_n 2, 1) := by decide +kernel
theorem dX10_twoByTwo_62 : decode cX10_twoByTwo 62 = .ok (.ifCond .eq 13, 3) := by decide +kernel
theorem dX10_twoByTwo_65 : decode cX10_twoByTwo 65 = .ok (.aload_n 0, 1) := by decide +kernel
theorem dX10_twoByTwo_66 : decode cX10_twoByTwo 66 = .ok (.iload_n 2, 1) := by decide +kernel
theorem dX10_twoByTwo_67 : decode cX10_twoByTwo 67 = .ok (.invokevirtual 134, 3) := by decide +kernel
theorem dX10_twoByTwo_70 : decode cX10_twoByTwo 70 = .ok (.ifCond .ne 5, 3) := by decide +kernel
theorem dX10_twoByTwo_73 : decode cX10_twoByTwo 73 = .ok (.iload_n 1, 1) := by decide +kernel
theorem dX10_twoByTwo_74 : decode cX10_twoByTwo 74 = .ok (.ireturn, 1) := by decide +kernel
theorem dX10_twoByTwo_75 : decode cX10_twoByTwo 75 = .ok (.iinc 1 1, 3) := by decide +kernel
theorem dX10_twoByTwo_78 : decode cX10_twoByTwo 78 = .ok (.goto (-76), 3) := by decide +kernel
theorem dX10_twoByTwo_81 : decode cX10_twoByTwo 81 = .ok (.iconst (-1), 1) := by decide +kernel
theorem dX10_twoByTwo_82 : decode cX10_twoByTwo 82 = .ok (.ireturn, 1) := by decide +kernel
theorem dX10_isMade_0 : decode cX10_isMade 0 = .ok (.iconst 0, 1) := by decide +kernel
theorem dX10_isMade_1 : decode cX10_isMade 1 = .ok (.istore_n 2, 1) := by decide +kernel
theorem dX10_isMade_2 : decode cX10_isMade 2 = .ok (.iload_n 1, 1) := by decide +kernel
theorem dX10_isMade_3 : decode cX10_isMade 3 = .ok (.istore_n 3, 1) := by decide +kernel
theorem dX10_isMade_4 : decode cX10_isMade 4 = .ok (.iconst 0, 1) := by decide +kernel
theorem dX10_isMade_5 : decode cX10_isMade 5 = .ok (.istore 4, 2) := by decide +kernel
theorem dX10_isMade_7 : decode cX10_isMade 7 = .ok (.iload 4, 2) := by decide +kernel
theorem dX10_isMade_9 : decode cX10_isMade 9 = .ok (.aload_n 0, 1) := by decide +kernel
theorem dX10_isMade_10 : decode cX10_isMade 10 = .ok (.getfield 43, 3) := by decide +kernel
theorem dX10_isMade_13 : decode cX10_isMade 13 = .ok (.if_icmp .ge 31, 3) := by decide +kernel
theorem dX10_isMade_16 : decode cX10_isMade 16 = .ok (.iload_n 2, 1) := by decide +kernel
theorem dX10_isMade_17 : decode cX10_isMade 17 = .ok (.iload_n 3, 1) := by decide +kernel
theorem dX10_isMade_18 : decode cX10_isMade 18 = .ok (.iconst 3, 1) := by decide +kernel
theorem dX10_isMade_19 : decode cX10_isMade 19 = .ok (.irem, 1) := by decide +kernel
theorem dX10_isMade_20 : decode cX10_isMade 20 = .ok (.iconst 1, 1) := by decide +kernel
theorem dX10_isMade_21 : decode cX10_isMade 21 = .ok (.if_icmp .ne 10, 3) := by decide +kernel
theorem dX10_isMade_24 : decode cX10_isMade 24 = .ok (.iconst 1, 1) := by decide +kernel
theorem dX10_isMade_25 : decode cX10_isMade 25 = .ok (.iload 4, 2) := by decide +kernel
theorem dX10_isMade_27 : decode cX10_isMade 27 = .ok (.ishl, 1) := by decide +kernel
theorem dX10_isMade_28 : decode cX10_isMade 28 = .ok (.goto 4, 3) := by decide +kernel
theorem dX10_isMade_31 : decode cX10_isMade 31 = .ok (.iconst 0, 1) := by decide +kernel
theorem dX10_isMade_32 : decode cX10_isMade 32 = .ok (.ior, 1) := by decide +kernel
theorem dX10_isMade_33 : decode cX10_isMade 33 = .ok (.istore_n 2, 1) := by decide +kernel
theorem dX10_isMade_34 : decode cX10_isMade 34 = .ok (.iload_n 3, 1) := by decide +kernel
theorem dX10_isMade_35 : decode cX10_isMade 35 = .ok (.iconst 3, 1) := by decide +kernel
theorem dX10_isMade_36 : decode cX10_isMade 36 = .ok (.idiv, 1) := by decide +kernel
theorem dX10_isMade_37 : decode cX10_isMade 37 = .ok (.istore_n 3, 1) := by decide +kernel
theorem dX10_isMade_38 : decode cX10_isMade 38 = .ok (.iinc 4 1, 3) := by decide +kernel
theorem dX10_isMade_41 : decode cX10_isMade 41 = .ok (.goto (-34), 3) := by decide +kernel
theorem dX10_isMade_44 : decode cX10_isMade 44 = .ok (.iconst 0, 1) := by decide +kernel
theorem dX10_isMade_45 : decode cX10_isMade 45 = .ok (.istore 4, 2) := by decide +kernel
theorem dX10_isMade_47 : decode cX10_isMade 47 = .ok (.iconst 0, 1) := by decide +kernel
theorem dX10_isMade_48 : decode cX10_isMade 48 = .ok (.istore 5, 2) := by decide +kernel
theorem dX10_isMade_50 : decode cX10_isMade 50 = .ok (.iload 5, 2) := by decide +kernel
theorem dX10_isMade_52 : decode cX10_isMade 52 = .ok (.aload_n 0, 1) := by decide +kernel
theorem dX10_isMade_53 : decode cX10_isMade 53 = .ok (.getfield 61, 3) := by decide +kernel
theorem dX10_isMade_56 : decode cX10_isMade 56 = .ok (.if_icmp .ge 35, 3) := by decide +kernel
theorem dX10_isMade_59 : decode cX10_isMade 59 = .ok (.iload 4, 2) := by decide +kernel
theorem dX10_isMade_61 : decode cX10_isMade 61 = .ok (.ifCond .ne 17, 3) := by decide +kernel
theorem dX10_isMade_64 : decode cX10_isMade 64 = .ok (.aload_n 0, 1) := by decide +kernel
theorem dX10_isMade_65 : decode cX10_isMade 65 = .ok (.getfield 7, 3) := by decide +kernel
theorem dX10_isMade_68 : decode cX10_isMade 68 = .ok (.iload 5, 2) := by decide +kernel
theorem dX10_isMade_70 : decode cX10_isMade 70 = .ok (.iaload, 1) := by decide +kernel
theorem dX10_isMade_71 : decode cX10_isMade 71 = .ok (.iload_n 2, 1) := by decide +kernel
theorem dX10_isMade_72 : decode cX10_isMade 72 = .ok (.iconst (-1), 1) := by decide +kernel
theorem dX10_isMade_73 : decode cX10_isMade 73 = .ok (.ixor, 1) := by decide +kernel
theorem dX10_isMade_74 : decode cX10_isMade 74 = .ok (.iand, 1) := by decide +kernel
theorem dX10_isMade_75 : decode cX10_isMade 75 = .ok (.ifCond .ne 7, 3) := by decide +kernel
theorem dX10_isMade_78 : decode cX10_isMade 78 = .ok (.iconst 1, 1) := by decide +kernel
theorem dX10_isMade_79 : decode cX10_isMade 79 = .ok (.goto 4, 3) := by decide +kernel
theorem dX10_isMade_82 : decode cX10_isMade 82 = .ok (.iconst 0, 1) := by decide +kernel
theorem dX10_isMade_83 : decode cX10_isMade 83 = .ok (.istore 4, 2) := by decide +kernel
theorem dX10_isMade_85 : decode cX10_isMade 85 = .ok (.iinc 5 1, 3) := by decide +kernel
theorem dX10_isMade_88 : decode cX10_isMade 88 = .ok (.goto (-38), 3) := by decide +kernel
theorem dX10_isMade_91 : decode cX10_isMade 91 = .ok (.iload 4, 2) := by decide +kernel
theorem dX10_isMade_93 : decode cX10_isMade 93 = .ok (.ireturn, 1) := by decide +kernel
theorem dX10_taken_0 : decode cX10_taken 0 = .ok (.iconst 0, 1) := by decide +kernel
theorem dX10_taken_1 : decode cX10_taken 1 = .ok (.istore_n 1, 1) := by decide +kernel
theorem dX10_taken_2 : decode cX10_taken 2 = .ok (.iload_n 0, 1) := by decide +kernel
theorem dX10_taken_3 : decode cX10_taken 3 = .ok (.istore_n 2, 1) := by decide +kernel
theorem dX10_taken_4 : decode cX10_taken 4 = .ok (.iload_n 2, 1) := by decide +kernel
theorem dX10_taken_5 : decode cX10_taken 5 = .ok (.ifCond .le 24, 3) := by decide +kernel
theorem dX10_taken_8 : decode cX10_taken 8 = .ok (.iload_n 1, 1) := by decide +kernel
theorem dX10_taken_9 : decode cX10_taken 9 = .ok (.iload_n 2, 1) := by decide +kernel
theorem dX10_taken_10 : decode cX10_taken 10 = .ok (.iconst 3, 1) := by decide +kernel
theorem dX10_taken_11 : decode cX10_taken 11 = .ok (.irem, 1) := by decide +kernel
theorem dX10_taken_12 : decode cX10_taken 12 = .ok (.ifCond .le 7, 3) := by decide +kernel
theorem dX10_taken_15 : decode cX10_taken 15 = .ok (.iconst 1, 1) := by decide +kernel
theorem dX10_taken_16 : decode cX10_taken 16 = .ok (.goto 4, 3) := by decide +kernel
theorem dX10_taken_19 : decode cX10_taken 19 = .ok (.iconst 0, 1) := by decide +kernel
theorem dX10_taken_20 : decode cX10_taken 20 = .ok (.iadd, 1) := by decide +kernel
theorem dX10_taken_21 : decode cX10_taken 21 = .ok (.istore_n 1, 1) := by decide +kernel
theorem dX10_taken_22 : decode cX10_taken 22 = .ok (.iload_n 2, 1) := by decide +kernel
theorem dX10_taken_23 : decode cX10_taken 23 = .ok (.iconst 3, 1) := by decide +kernel
theorem dX10_taken_24 : decode cX10_taken 24 = .ok (.idiv, 1) := by decide +kernel
theorem dX10_taken_25 : decode cX10_taken 25 = .ok (.istore_n 2, 1) := by decide +kernel
theorem dX10_taken_26 : decode cX10_taken 26 = .ok (.goto (-22), 3) := by decide +kernel
theorem dX10_taken_29 : decode cX10_taken 29 = .ok (.iload_n 1, 1) := by decide +kernel
theorem dX10_taken_30 : decode cX10_taken 30 = .ok (.ireturn, 1) := by decide +kernel
set_option maxRecDepth 20000 in
theorem ggX10_turn_X10_taken : GoodIn wsX10_turn wsX10_taken := sw_good (sw_cons (t1_ (t1_ (t1_ (t1_ h1_)))) sw_nil) (by decide +kernel)
set_option maxRecDepth 20000 in
theorem gX10_turn_X10_taken : GoodIn wsX10_turn (va_wsS RX10 160 yX10_taken wsX10_taken) := goodIn_app (sw_good (sw_cons (t1_ h1_) (sw_cons (t1_ (t1_ h1_)) (sw_cons (t1_ (t1_ (t1_ h1_))) sw_nil))) (by decide +kernel)) ggX10_turn_X10_taken
theorem dX10_turn_0 : decode cX10_turn 0 = .ok (.iload_n 0, 1) := by decide +kernel
theorem dX10_turn_1 : decode cX10_turn 1 = .ok (.iload_n 1, 1) := by decide +kernel
theorem dX10_turn_2 : decode cX10_turn 2 = .ok (.invokestatic 160, 3) := by decide +kernel
theorem dX10_turn_5 : decode cX10_turn 5 = .ok (.iadd, 1) := by decide +kernel
theorem dX10_turn_6 : decode cX10_turn 6 = .ok (.iconst 2, 1) := by decide +kernel
theorem dX10_turn_7 : decode cX10_turn 7 = .ok (.irem, 1) := by decide +kernel
theorem dX10_turn_8 : decode cX10_turn 8 = .ok (.ireturn, 1) := by decide +kernel
set_option maxRecDepth 20000 in
theorem ggX10_plays_X10_taken : GoodIn wsX10_plays wsX10_taken := sw_good (sw_cons (t1_ (al_ (t4_ (t1_ h1_)))) sw_nil) (by decide +kernel)
set_option maxRecDepth 20000 in
theorem gX10_plays_X10_taken : GoodIn wsX10_plays (va_wsS RX10 160 yX10_taken wsX10_taken) := goodIn_app (sw_good (sw_cons (t1_ (al_ (t1_ (t1_ h1_)))) (sw_cons (t1_ (al_ (t1_ (t1_ (t1_ h1_))))) (sw_cons (t1_ (al_ (t4_ h1_))) sw_nil))) (by decide +kernel)) ggX10_plays_X10_taken
set_option maxRecDepth 20000 in
theorem ggX10_plays_X10_isMade : GoodIn wsX10_plays wsX10_isMade := sw_good (sw_cons (t1_ (al_ (t4_ (t4_ (t1_ h1_))))) (sw_app (sw_cons (t1_ (al_ h1_)) (sw_cons (t1_ (al_ (t4_ (t4_ (t1_ (t1_ h1_)))))) (sw_cons (t1_ (al_ (t4_ (t4_ (t1_ (t1_ (t1_ h1_))))))) sw_nil))) (fun _ h => (t1_ (ar_ h))))) (by decide +kernel)
set_option maxRecDepth 20000 in
theorem gX10_plays_X10_isMade : GoodIn wsX10_plays (wsV RX10 163 RX10 yX10_isMade wsX10_isMade) := goodIn_app (sw_good (sw_cons (t1_ (al_ (t4_ (t1_ (t1_ h1_))))) (sw_cons (t1_ (al_ (t4_ (t1_ (t1_ (t1_ h1_)))))) (sw_cons (t1_ (al_ (t4_ (t4_ h1_)))) (sw_cons (t1_ (al_ (t4_ h1_))) sw_nil)))) (by decide +kernel)) ggX10_plays_X10_isMade
set_option maxRecDepth 20000 in
theorem ggX10_plays_X10_turn : GoodIn wsX10_plays wsX10_turn := sw_good (sw_cons (t1_ (al_ (t4_ (t4_ (t4_ (t1_ (t1_ h1_))))))) (sw_cons (t1_ (al_ (t1_ (t1_ h1_)))) (sw_cons (t1_ (al_ (t1_ (t1_ (t1_ h1_))))) (sw_cons (t1_ (al_ (t4_ h1_))) (sw_cons (t1_ (al_ (t4_ (t1_ h1_)))) sw_nil))))) (by decide +kernel)
set_option maxRecDepth 20000 in
theorem gX10_plays_X10_turn : GoodIn wsX10_plays (va_wsS RX10 166 yX10_turn wsX10_turn) := goodIn_app (sw_good (sw_cons (t1_ (al_ (t4_ (t4_ (t4_ h1_))))) (sw_cons (t1_ (al_ (t4_ (t4_ (t4_ (t1_ h1_)))))) (sw_cons (t1_ (al_ (t4_ h1_))) sw_nil))) (by decide +kernel)) ggX10_plays_X10_turn
theorem dX10_plays_0 : decode cX10_plays 0 = .ok (.iconst 1, 1) := by decide +kernel
theorem dX10_plays_1 : decode cX10_plays 1 = .ok (.istore_n 2, 1) := by decide +kernel
theorem dX10_plays_2 : decode cX10_plays 2 = .ok (.iconst 0, 1) := by decide +kernel
theorem dX10_plays_3 : decode cX10_plays 3 = .ok (.istore_n 3, 1) := by decide +kernel
theorem dX10_plays_4 : decode cX10_plays 4 = .ok (.iload_n 3, 1) := by decide +kernel
theorem dX10_plays_5 : decode cX10_plays 5 = .ok (.aload_n 0, 1) := by decide +kernel
theorem dX10_plays_6 : decode cX10_plays 6 = .ok (.getfield 43, 3) := by decide +kernel
theorem dX10_plays_9 : decode cX10_plays 9 = .ok (.if_icmp .ge 13, 3) := by decide +kernel
theorem dX10_plays_12 : decode cX10_plays 12 = .ok (.iload_n 2, 1) := by decide +kernel
theorem dX10_plays_13 : decode cX10_plays 13 = .ok (.iconst 3, 1) := by decide +kernel
theorem dX10_plays_14 : decode cX10_plays 14 = .ok (.imul, 1) := by decide +kernel
theorem dX10_plays_15 : decode cX10_plays 15 = .ok (.istore_n 2, 1) := by decide +kernel
theorem dX10_plays_16 : decode cX10_plays 16 = .ok (.iinc 3 1, 3) := by decide +kernel
theorem dX10_plays_19 : decode cX10_plays 19 = .ok (.goto (-15), 3) := by decide +kernel
theorem dX10_plays_22 : decode cX10_plays 22 = .ok (.iload_n 2, 1) := by decide +kernel
theorem dX10_plays_23 : decode cX10_plays 23 = .ok (.iconst 1, 1) := by decide +kernel
theorem dX10_plays_24 : decode cX10_plays 24 = .ok (.isub, 1) := by decide +kernel
theorem dX10_plays_25 : decode cX10_plays 25 = .ok (.istore_n 3, 1) := by decide +kernel
theorem dX10_plays_26 : decode cX10_plays 26 = .ok (.iload_n 3, 1) := by decide +kernel
theorem dX10_plays_27 : decode cX10_plays 27 = .ok (.ifCond .lt 154, 3) := by decide +kernel
theorem dX10_plays_30 : decode cX10_plays 30 = .ok (.iload_n 3, 1) := by decide +kernel
theorem dX10_plays_31 : decode cX10_plays 31 = .ok (.invokestatic 160, 3) := by decide +kernel
theorem dX10_plays_34 : decode cX10_plays 34 = .ok (.aload_n 0, 1) := by decide +kernel
theorem dX10_plays_35 : decode cX10_plays 35 = .ok (.getfield 43, 3) := by decide +kernel
theorem dX10_plays_38 : decode cX10_plays 38 = .ok (.if_icmp .ne 17, 3) := by decide +kernel
theorem dX10_plays_41 : decode cX10_plays 41 = .ok (.aload_n 0, 1) := by decide +kernel
theorem dX10_plays_42 : decode cX10_plays 42 = .ok (.getfield 37, 3) := by decide +kernel
theorem dX10_plays_45 : decode cX10_plays 45 = .ok (.iload_n 3, 1) := by decide +kernel
theorem dX10_plays_46 : decode cX10_plays 46 = .ok (.aload_n 0, 1) := by decide +kernel
theorem dX10_plays_47 : decode cX10_plays 47 = .ok (.iload_n 3, 1) := by decide +kernel
theorem dX10_plays_48 : decode cX10_plays 48 = .ok (.invokevirtual 163, 3) := by decide +kernel
theorem dX10_plays_51 : decode cX10_plays 51 = .ok (.bastore, 1) := by decide +kernel
theorem dX10_plays_52 : decode cX10_plays 52 = .ok (.goto 123, 3) := by decide +kernel
theorem dX10_plays_55 : decode cX10_plays 55 = .ok (.iload_n 1, 1) := by decide +kernel
theorem dX10_plays_56 : decode cX10_plays 56 = .ok (.iload_n 3, 1) := by decide +kernel
theorem dX10_plays_57 : decode cX10_plays 57 = .ok (.invokestatic 166, 3) := by decide +kernel
theorem dX10_plays_60 : decode cX10_plays 60 = .ok (.istore 4, 2) := by decide +kernel
theorem dX10_plays_62 : decode cX10_plays 62 = .ok (.iload 4, 2) := by decide +kernel
theorem dX10_plays_64 : decode cX10_plays 64 = .ok (.iconst 1, 1) := by decide +kernel
theorem dX10_plays_65 : decode cX10_plays 65 = .ok (.if_icmp .ne 7, 3) := by decide +kernel
theorem dX10_plays_68 : decode cX10_plays 68 = .ok (.iconst 1, 1) := by decide +kernel
theorem dX10_plays_69 : decode cX10_plays 69 = .ok (.goto 4, 3) := by decide +kernel
theorem dX10_plays_72 : decode cX10_plays 72 = .ok (.iconst 0, 1) := by decide +kernel
theorem dX10_plays_73 : decode cX10_plays 73 = .ok (.istore 5, 2) := by decide +kernel
theorem dX10_plays_75 : decode cX10_plays 75 = .ok (.iconst 1, 1) := by decide +kernel
theorem dX10_plays_76 : decode cX10_plays 76 = .ok (.istore 6, 2) := by decide +kernel
theorem dX10_plays_78 : decode cX10_plays 78 = .ok (.iconst 0, 1) := by decide +kernel
theorem dX10_plays_79 : decode cX10_plays 79 = .ok (.istore 7, 2) := by decide +kernel
theorem dX10_plays_81 : decode cX10_plays 81 = .ok (.iload 7, 2) := by decide +kernel
theorem dX10_plays_83 : decode cX10_plays 83 = .ok (.aload_n 0, 1) := by decide +kernel
theorem dX10_plays_84 : decode cX10_plays 84 = .ok (.getfield 43, 3) := by decide +kernel
theorem dX10_plays_87 : decode cX10_plays 87 = .ok (.if_icmp .ge 80, 3) := by decide +kernel
theorem dX10_plays_90 : decode cX10_plays 90 = .ok (.iload_n 3, 1) := by decide +kernel
theorem dX10_plays_91 : decode cX10_plays 91 = .ok (.iload 6, 2) := by decide +kernel
theorem dX10_plays_93 : decode cX10_plays 93 = .ok (.idiv, 1) := by decide +kernel
theorem dX10_plays_94 : decode cX10_plays 94 = .ok (.iconst 3, 1) := by decide +kernel
theorem dX10_plays_95 : decode cX10_plays 95 = .ok (.irem, 1) := by decide +kernel
theorem dX10_plays_96 : decode cX10_plays 96 = .ok (.ifCond .ne 59, 3) := by decide +kernel
theorem dX10_plays_99 : decode cX10_plays 99 = .ok (.aload_n 0, 1) := by decide +kernel
theorem dX10_plays_100 : decode cX10_plays 100 = .ok (.getfield 37, 3) := by decide +kernel
theorem dX10_plays_103 : decode cX10_plays 103 = .ok (.iload_n 3, 1) := by decide +kernel
theorem dX10_plays_104 : decode cX10_plays 104 = .ok (.iconst 1, 1) := by decide +kernel
theorem dX10_plays_105 : decode cX10_plays 105 = .ok (.iload 4, 2) := by decide +kernel
theorem dX10_plays_107 : decode cX10_plays 107 = .ok (.iadd, 1) := by decide +kernel
theorem dX10_plays_108 : decode cX10_plays 108 = .ok (.iload 6, 2) := by decide +kernel
theorem dX10_plays_110 : decode cX10_plays 110 = .ok (.imul, 1) := by decide +kernel
theorem dX10_plays_111 : decode cX10_plays 111 = .ok (.iadd, 1) := by decide +kernel
theorem dX10_plays_112 : decode cX10_plays 112 = .ok (.baload, 1) := by decide +kernel
theorem dX10_plays_113 : decode cX10_plays 113 = .ok (.istore 8, 2) := by decide +kernel
theorem dX10_plays_115 : decode cX10_plays 115 = .ok (.iload 4, 2) := by decide +kernel
theorem dX10_plays_117 : decode cX10_plays 117 = .ok (.ifCond .ne 21, 3) := by decide +kernel
theorem dX10_plays_120 : decode cX10_plays 120 = .ok (.iload 5, 2) := by decide +kernel
theorem dX10_plays_122 : decode cX10_plays 122 = .ok (.ifCond .ne 8, 3) := by decide +kernel
theorem dX10_plays_125 : decode cX10_plays 125 = .ok (.iload 8, 2) := by decide +kernel
theorem dX10_plays_127 : decode cX10_plays 127 = .ok (.ifCond .eq 7, 3) := by decide +kernel
theorem dX10_plays_130 : decode cX10_plays 130 = .ok (.iconst 1, 1) := by decide +kernel
theorem dX10_plays_131 : decode cX10_plays 131 = .ok (.goto 22, 3) := by decide +kernel
theorem dX10_plays_134 : decode cX10_plays 134 = .ok (.iconst 0, 1) := by decide +kernel
theorem dX10_plays_135 : decode cX10_plays 135 = .ok (.goto 18, 3) := by decide +kernel
theorem dX10_plays_138 : decode cX10_plays 138 = .ok (.iload 5, 2) := by decide +kernel
theorem dX10_plays_140 : decode cX10_plays 140 = .ok (.ifCond .eq 12, 3) := by decide +kernel
theorem dX10_plays_143 : decode cX10_plays 143 = .ok (.iload 8, 2) := by decide +kernel
theorem dX10_plays_145 : decode cX10_plays 145 = .ok (.ifCond .eq 7, 3) := by decide +kernel
theorem dX10_plays_148 : decode cX10_plays 148 = .ok (.iconst 1, 1) := by decide +kernel
theorem dX10_plays_149 : decode cX10_plays 149 = .ok (.goto 4, 3) := by decide +kernel
theorem dX10_plays_152 : decode cX10_plays 152 = .ok (.iconst 0, 1) := by decide +kernel
theorem dX10_plays_153 : decode cX10_plays 153 = .ok (.istore 5, 2) := by decide +kernel
theorem dX10_plays_155 : decode cX10_plays 155 = .ok (.iload 6, 2) := by decide +kernel
theorem dX10_plays_157 : decode cX10_plays 157 = .ok (.iconst 3, 1) := by decide +kernel
theorem dX10_plays_158 : decode cX10_plays 158 = .ok (.imul, 1) := by decide +kernel
theorem dX10_plays_159 : decode cX10_plays 159 = .ok (.istore 6, 2) := by decide +kernel
theorem dX10_plays_161 : decode cX10_plays 161 = .ok (.iinc 7 1, 3) := by decide +kernel
theorem dX10_plays_164 : decode cX10_plays 164 = .ok (.goto (-83), 3) := by decide +kernel
theorem dX10_plays_167 : decode cX10_plays 167 = .ok (.aload_n 0, 1) := by decide +kernel
theorem dX10_plays_168 : decode cX10_plays 168 = .ok (.getfield 37, 3) := by decide +kernel
theorem dX10_plays_171 : decode cX10_plays 171 = .ok (.iload_n 3, 1) := by decide +kernel
theorem dX10_plays_172 : decode cX10_plays 172 = .ok (.iload 5, 2) := by decide +kernel
theorem dX10_plays_174 : decode cX10_plays 174 = .ok (.bastore, 1) := by decide +kernel
theorem dX10_plays_175 : decode cX10_plays 175 = .ok (.iinc 3 (-1), 3) := by decide +kernel
theorem dX10_plays_178 : decode cX10_plays 178 = .ok (.goto (-152), 3) := by decide +kernel
theorem dX10_plays_181 : decode cX10_plays 181 = .ok (.return_, 1) := by decide +kernel
set_option maxRecDepth 20000 in
theorem ggX10_game_X10_in : GoodIn wsX10_game wsX10_in := sw_good (sw_cons (t1_ (al_ (t4_ (t1_ h1_)))) sw_nil) (by decide +kernel)
set_option maxRecDepth 20000 in
theorem gX10_game_X10_in : GoodIn wsX10_game (va_wsS RX10 51 yX10_in wsX10_in) := goodIn_app (sw_good (sw_cons (t1_ (al_ (t1_ (t1_ h1_)))) (sw_cons (t1_ (al_ (t1_ (t1_ (t1_ h1_))))) (sw_cons (t1_ (al_ (t4_ h1_))) sw_nil))) (by decide +kernel)) ggX10_game_X10_in
set_option maxRecDepth 20000 in
theorem ggX10_game_X10_plays : GoodIn wsX10_game wsX10_plays := sw_good (sw_cons (t1_ (al_ (t4_ (t4_ (t1_ h1_))))) (sw_app (sw_cons (t1_ (al_ (t1_ h1_))) (sw_cons (t1_ (al_ h1_)) (sw_cons (t1_ (al_ (t4_ (t4_ (t1_ (t1_ h1_)))))) (sw_cons (t1_ (al_ (t4_ (t4_ (t1_ (t1_ (t1_ h1_))))))) (sw_cons (t1_ (al_ (t4_ h1_))) (sw_cons (t1_ (al_ (t4_ (t4_ (t4_ h1_))))) (sw_cons (t1_ (al_ (t4_ (t4_ (t4_ (t1_ h1_)))))) (sw_cons (t1_ (al_ (t4_ (t4_ (t4_ (t1_ (t1_ h1_))))))) (sw_cons (t1_ (al_ (t4_ (t4_ (t4_ (t1_ (t1_ (t1_ h1_)))))))) (sw_cons (t1_ (al_ (t16_ h1_))) (sw_cons (t1_ (al_ (t16_ (t1_ h1_)))) (sw_cons (t1_ (al_ (t16_ (t1_ (t1_ h1_))))) (sw_cons (t1_ (al_ (t16_ (t1_ (t1_ (t1_ h1_)))))) (sw_cons (t1_ (al_ (t16_ (t4_ h1_)))) (sw_cons (t1_ (al_ (t16_ (t4_ (t1_ h1_))))) sw_nil))))))))))))))) (fun _ h => (t1_ (ar_ h))))) (by decide +kernel)
set_option maxRecDepth 20000 in
theorem gX10_game_X10_plays : GoodIn wsX10_game (wsV RX10 169 RX10 yX10_plays wsX10_plays) := goodIn_app (sw_good (sw_cons (t1_ (al_ (t4_ (t1_ (t1_ h1_))))) (sw_cons (t1_ (al_ (t4_ (t1_ (t1_ (t1_ h1_)))))) (sw_cons (t1_ (al_ (t4_ (t4_ h1_)))) (sw_cons (t1_ (al_ (t4_ h1_))) sw_nil)))) (by decide +kernel)) ggX10_game_X10_plays
theorem dX10_game_0 : decode cX10_game 0 = .ok (.iload_n 1, 1) := by decide +kernel
theorem dX10_game_1 : decode cX10_game 1 = .ok (.i2l, 1) := by decide +kernel
theorem dX10_game_2 : decode cX10_game 2 = .ok (.lconst 0, 1) := by decide +kernel
theorem dX10_game_3 : decode cX10_game 3 = .ok (.lconst 1, 1) := by decide +kernel
theorem dX10_game_4 : decode cX10_game 4 = .ok (.invokestatic 51, 3) := by decide +kernel
theorem dX10_game_7 : decode cX10_game 7 = .ok (.ifCond .eq 13, 3) := by decide +kernel
theorem dX10_game_10 : decode cX10_game 10 = .ok (.iload_n 2, 1) := by decide +kernel
theorem dX10_game_11 : decode cX10_game 11 = .ok (.i2l, 1) := by decide +kernel
theorem dX10_game_12 : decode cX10_game 12 = .ok (.lconst 0, 1) := by decide +kernel
theorem dX10_game_13 : decode cX10_game 13 = .ok (.lconst 1, 1) := by decide +kernel
theorem dX10_game_14 : decode cX10_game 14 = .ok (.invokestatic 51, 3) := by decide +kernel
theorem dX10_game_17 : decode cX10_game 17 = .ok (.ifCond .ne 6, 3) := by decide +kernel
theorem dX10_game_20 : decode cX10_game 20 = .ok (.bipush (-2), 2) := by decide +kernel
theorem dX10_game_22 : decode cX10_game 22 = .ok (.ireturn, 1) := by decide +kernel
theorem dX10_game_23 : decode cX10_game 23 = .ok (.aload_n 0, 1) := by decide +kernel
theorem dX10_game_24 : decode cX10_game 24 = .ok (.iload_n 1, 1) := by decide +kernel
theorem dX10_game_25 : decode cX10_game 25 = .ok (.invokevirtual 169, 3) := by decide +kernel
theorem dX10_game_28 : decode cX10_game 28 = .ok (.iload_n 2, 1) := by decide +kernel
theorem dX10_game_29 : decode cX10_game 29 = .ok (.ifCond .ne 18, 3) := by decide +kernel
theorem dX10_game_32 : decode cX10_game 32 = .ok (.aload_n 0, 1) := by decide +kernel
theorem dX10_game_33 : decode cX10_game 33 = .ok (.getfield 37, 3) := by decide +kernel
theorem dX10_game_36 : decode cX10_game 36 = .ok (.iconst 0, 1) := by decide +kernel
theorem dX10_game_37 : decode cX10_game 37 = .ok (.baload, 1) := by decide +kernel
theorem dX10_game_38 : decode cX10_game 38 = .ok (.ifCond .eq 7, 3) := by decide +kernel
theorem dX10_game_41 : decode cX10_game 41 = .ok (.iconst 0, 1) := by decide +kernel
theorem dX10_game_42 : decode cX10_game 42 = .ok (.goto 4, 3) := by decide +kernel
theorem dX10_game_45 : decode cX10_game 45 = .ok (.iconst 1, 1) := by decide +kernel
theorem dX10_game_46 : decode cX10_game 46 = .ok (.ireturn, 1) := by decide +kernel
theorem dX10_game_47 : decode cX10_game 47 = .ok (.iconst 1, 1) := by decide +kernel
theorem dX10_game_48 : decode cX10_game 48 = .ok (.istore_n 3, 1) := by decide +kernel
theorem dX10_game_49 : decode cX10_game 49 = .ok (.iconst 0, 1) := by decide +kernel
theorem dX10_game_50 : decode cX10_game 50 = .ok (.istore 4, 2) := by decide +kernel
theorem dX10_game_52 : decode cX10_game 52 = .ok (.iload 4, 2) := by decide +kernel
theorem dX10_game_54 : decode cX10_game 54 = .ok (.aload_n 0, 1) := by decide +kernel
theorem dX10_game_55 : decode cX10_game 55 = .ok (.getfield 43, 3) := by decide +kernel
theorem dX10_game_58 : decode cX10_game 58 = .ok (.if_icmp .ge 38, 3) := by decide +kernel
theorem dX10_game_61 : decode cX10_game 61 = .ok (.aload_n 0, 1) := by decide +kernel
theorem dX10_game_62 : decode cX10_game 62 = .ok (.getfield 37, 3) := by decide +kernel
theorem dX10_game_65 : decode cX10_game 65 = .ok (.iconst 1, 1) := by decide +kernel
theorem dX10_game_66 : decode cX10_game 66 = .ok (.iload_n 1, 1) := by decide +kernel
theorem dX10_game_67 : decode cX10_game 67 = .ok (.iadd, 1) := by decide +kernel
theorem dX10_game_68 : decode cX10_game 68 = .ok (.iload_n 3, 1) := by decide +kernel
theorem dX10_game_69 : decode cX10_game 69 = .ok (.imul, 1) := by decide +kernel
theorem dX10_game_70 : decode cX10_game 70 = .ok (.baload, 1) := by decide +kernel
theorem dX10_game_71 : decode cX10_game 71 = .ok (.iload_n 1, 1) := by decide +kernel
theorem dX10_game_72 : decode cX10_game 72 = .ok (.ifCond .ne 7, 3) := by decide +kernel
theorem dX10_game_75 : decode cX10_game 75 = .ok (.iconst 1, 1) := by decide +kernel
theorem dX10_game_76 : decode cX10_game 76 = .ok (.goto 4, 3) := by decide +kernel
theorem dX10_game_79 : decode cX10_game 79 = .ok (.iconst 0, 1) := by decide +kernel
theorem dX10_game_80 : decode cX10_game 80 = .ok (.if_icmp .ne 6, 3) := by decide +kernel
theorem dX10_game_83 : decode cX10_game 83 = .ok (.iload 4, 2) := by decide +kernel
theorem dX10_game_85 : decode cX10_game 85 = .ok (.ireturn, 1) := by decide +kernel
theorem dX10_game_86 : decode cX10_game 86 = .ok (.iload_n 3, 1) := by decide +kernel
theorem dX10_game_87 : decode cX10_game 87 = .ok (.iconst 3, 1) := by decide +kernel
theorem dX10_game_88 : decode cX10_game 88 = .ok (.imul, 1) := by decide +kernel
theorem dX10_game_89 : decode cX10_game 89 = .ok (.istore_n 3, 1) := by decide +kernel
theorem dX10_game_90 : decode cX10_game 90 = .ok (.iinc 4 1, 3) := by decide +kernel
theorem dX10_game_93 : decode cX10_game 93 = .ok (.goto (-41), 3) := by decide +kernel
theorem dX10_game_96 : decode cX10_game 96 = .ok (.iconst (-1), 1) := by decide +kernel
theorem dX10_game_97 : decode cX10_game 97 = .ok (.ireturn, 1) := by decide +kernel
theorem dX10_power_0 : decode cX10_power 0 = .ok (.lconst 1, 1) := by decide +kernel
theorem dX10_power_1 : decode cX10_power 1 = .ok (.lstore_n 3, 1) := by decide +kernel
theorem dX10_power_2 : decode cX10_power 2 = .ok (.iconst 0, 1) := by decide +kernel
theorem dX10_power_3 : decode cX10_power 3 = .ok (.istore 5, 2) := by decide +kernel
theorem dX10_power_5 : decode cX10_power 5 = .ok (.iload 5, 2) := by decide +kernel
theorem dX10_power_7 : decode cX10_power 7 = .ok (.iload_n 2, 1) := by decide +kernel
theorem dX10_power_8 : decode cX10_power 8 = .ok (.if_icmp .ge 13, 3) := by decide +kernel
theorem dX10_power_11 : decode cX10_power 11 = .ok (.lload_n 3, 1) := by decide +kernel
theorem dX10_power_12 : decode cX10_power 12 = .ok (.lload_n 0, 1) := by decide +kernel
theorem dX10_power_13 : decode cX10_power 13 = .ok (.lmul, 1) := by decide +kernel
theorem dX10_power_14 : decode cX10_power 14 = .ok (.lstore_n 3, 1) := by decide +kernel
theorem dX10_power_15 : decode cX10_power 15 = .ok (.iinc 5 1, 3) := by decide +kernel
theorem dX10_power_18 : decode cX10_power 18 = .ok (.goto (-13), 3) := by decide +kernel
theorem dX10_power_21 : decode cX10_power 21 = .ok (.lload_n 3, 1) := by decide +kernel
theorem dX10_power_22 : decode cX10_power 22 = .ok (.lreturn, 1) := by decide +kernel
set_option maxRecDepth 20000 in
theorem ggX10_chance_X10_in : GoodIn wsX10_chance wsX10_in := sw_good (sw_cons (t1_ (al_ (al_ (t4_ (t1_ h1_))))) sw_nil) (by decide +kernel)
set_option maxRecDepth 20000 in
theorem gX10_chance_X10_in : GoodIn wsX10_chance (va_wsS RX10 51 yX10_in wsX10_in) := goodIn_app (sw_good (sw_cons (t1_ (al_ (al_ (t1_ (t1_ h1_))))) (sw_cons (t1_ (al_ (al_ (t1_ (t1_ (t1_ h1_)))))) (sw_cons (t1_ (al_ (al_ (t4_ h1_)))) sw_nil))) (by decide +kernel)) ggX10_chance_X10_in
set_option maxRecDepth 20000 in
theorem ggX10_chance_X10_all : GoodIn wsX10_chance wsX10_all := sw_good (sw_cons (t1_ (al_ (al_ (t4_ (t4_ (t1_ h1_)))))) (sw_app (sw_cons (t1_ (al_ (al_ (t1_ h1_)))) sw_nil) (fun _ h => (t1_ (ar_ h))))) (by decide +kernel)
set_option maxRecDepth 20000 in
theorem gX10_chance_X10_all : GoodIn wsX10_chance (wsV RX10 55 RX10 yX10_all wsX10_all) := goodIn_app (sw_good (sw_cons (t1_ (al_ (al_ (t4_ (t1_ (t1_ h1_)))))) (sw_cons (t1_ (al_ (al_ (t4_ (t1_ (t1_ (t1_ h1_))))))) (sw_cons (t1_ (al_ (al_ (t4_ (t4_ h1_))))) (sw_cons (t1_ (al_ (al_ (t4_ h1_)))) sw_nil)))) (by decide +kernel)) ggX10_chance_X10_all
set_option maxRecDepth 20000 in
theorem ggX10_chance_X10_sizeOf : GoodIn wsX10_chance wsX10_sizeOf := sw_good (sw_cons (t1_ (al_ (al_ (t4_ (t4_ (t4_ h1_)))))) sw_nil) (by decide +kernel)
set_option maxRecDepth 20000 in
theorem gX10_chance_X10_sizeOf : GoodIn wsX10_chance (va_wsS RX10 86 yX10_sizeOf wsX10_sizeOf) := goodIn_app (sw_good (sw_cons (t1_ (al_ (al_ (t4_ (t4_ (t1_ (t1_ h1_))))))) (sw_cons (t1_ (al_ (al_ (t4_ (t4_ (t1_ (t1_ (t1_ h1_)))))))) (sw_cons (t1_ (al_ (al_ (t4_ h1_)))) sw_nil))) (by decide +kernel)) ggX10_chance_X10_sizeOf
set_option maxRecDepth 20000 in
theorem ggX10_chance_X10_meets : GoodIn wsX10_chance wsX10_meets := sw_good (sw_cons (t1_ (al_ (al_ (t16_ h1_)))) (sw_app (sw_cons (t1_ (al_ (al_ (t16_ (t1_ h1_))))) (sw_cons (t1_ (al_ (al_ (t16_ (t1_ (t1_ h1_)))))) sw_nil)) (fun _ h => (t1_ (ar_ h))))) (by decide +kernel)
set_option maxRecDepth 20000 in
theorem gX10_chance_X10_meets : GoodIn wsX10_chance (wsV RX10 73 RX10 yX10_meets wsX10_meets) := goodIn_app (sw_good (sw_cons (t1_ (al_ (al_ (t4_ (t4_ (t4_ (t1_ h1_))))))) (sw_cons (t1_ (al_ (al_ (t4_ (t4_ (t4_ (t1_ (t1_ h1_)))))))) (sw_cons (t1_ (al_ (al_ (t4_ (t4_ (t4_ (t1_ (t1_ (t1_ h1_))))))))) (sw_cons (t1_ (al_ (al_ (t4_ h1_)))) sw_nil)))) (by decide +kernel)) ggX10_chance_X10_meets
set_option maxRecDepth 20000 in
theorem ggX10_chance_X10_power : GoodIn wsX10_chance wsX10_power := sw_good (sw_cons (t1_ (al_ (al_ (t16_ (t4_ (t1_ h1_)))))) sw_nil) (by decide +kernel)
set_option maxRecDepth 20000 in
theorem gX10_chance_X10_power : GoodIn wsX10_chance (va_wsS RX10 173 yX10_power wsX10_power) := goodIn_app (sw_good (sw_cons (t1_ (al_ (al_ (t16_ (t1_ (t1_ (t1_ h1_))))))) (sw_cons (t1_ (al_ (al_ (t16_ (t4_ h1_))))) (sw_cons (t1_ (al_ (al_ (t4_ h1_)))) sw_nil))) (by decide +kernel)) ggX10_chance_X10_power
set_option maxRecDepth 20000 in
theorem ggX10_chance_X10_tells : GoodIn wsX10_chance wsX10_tells := sw_good (sw_cons (t1_ (al_ (ar_ (t1_ h1_)))) (sw_app (sw_cons (t1_ (al_ (ar_ (t1_ (t1_ h1_))))) (sw_cons (t1_ (al_ (ar_ (t1_ (t1_ (t1_ h1_)))))) (sw_cons (t1_ (al_ (ar_ (t4_ h1_)))) (sw_cons (t1_ (al_ (ar_ (t4_ (t1_ h1_))))) (sw_cons (t1_ (al_ (al_ (t4_ h1_)))) (sw_cons (t1_ (al_ (ar_ (t4_ (t1_ (t1_ h1_)))))) sw_nil)))))) (fun _ h => (t1_ (ar_ h))))) (by decide +kernel)
set_option maxRecDepth 20000 in
theorem gX10_chance_X10_tells : GoodIn wsX10_chance (wsV RX10 124 RX10 yX10_tells wsX10_tells) := goodIn_app (sw_good (sw_cons (t1_ (al_ (al_ (t16_ (t4_ (t1_ (t1_ h1_))))))) (sw_cons (t1_ (al_ (al_ (t16_ (t4_ (t1_ (t1_ (t1_ h1_)))))))) (sw_cons (t1_ (al_ (ar_ h1_))) (sw_cons (t1_ (al_ (al_ (t4_ h1_)))) sw_nil)))) (by decide +kernel)) ggX10_chance_X10_tells
theorem dX10_chance_0 : decode cX10_chance 0 = .ok (.iload_n 2, 1) := by decide +kernel
theorem dX10_chance_1 : decode cX10_chance 1 = .ok (.i2l, 1) := by decide +kernel
theorem dX10_chance_2 : decode cX10_chance 2 = .ok (.lconst 1, 1) := by decide +kernel
theorem dX10_chance_3 : decode cX10_chance 3 = .ok (.ldc2_w 59, 3) := by decide +kernel
theorem dX10_chance_6 : decode cX10_chance 6 = .ok (.invokestatic 51, 3) := by decide +kernel
theorem dX10_chance_9 : decode cX10_chance 9 = .ok (.ifCond .eq 14, 3) := by decide +kernel
theorem dX10_chance_12 : decode cX10_chance 12 = .ok (.iload_n 1, 1) := by decide +kernel
theorem dX10_chance_13 : decode cX10_chance 13 = .ok (.i2l, 1) := by decide +kernel
theorem dX10_chance_14 : decode cX10_chance 14 = .ok (.lconst 0, 1) := by decide +kernel
theorem dX10_chance_15 : decode cX10_chance 15 = .ok (.iload_n 2, 1) := by decide +kernel
theorem dX10_chance_16 : decode cX10_chance 16 = .ok (.i2l, 1) := by decide +kernel
theorem dX10_chance_17 : decode cX10_chance 17 = .ok (.invokestatic 51, 3) := by decide +kernel
theorem dX10_chance_20 : decode cX10_chance 20 = .ok (.ifCond .ne 6, 3) := by decide +kernel
theorem dX10_chance_23 : decode cX10_chance 23 = .ok (.bipush (-2), 2) := by decide +kernel
theorem dX10_chance_25 : decode cX10_chance 25 = .ok (.ireturn, 1) := by decide +kernel
theorem dX10_chance_26 : decode cX10_chance 26 = .ok (.lconst 0, 1) := by decide +kernel
theorem dX10_chance_27 : decode cX10_chance 27 = .ok (.lstore_n 3, 1) := by decide +kernel
theorem dX10_chance_28 : decode cX10_chance 28 = .ok (.iconst 0, 1) := by decide +kernel
theorem dX10_chance_29 : decode cX10_chance 29 = .ok (.istore 5, 2) := by decide +kernel
theorem dX10_chance_31 : decode cX10_chance 31 = .ok (.iload 5, 2) := by decide +kernel
theorem dX10_chance_33 : decode cX10_chance 33 = .ok (.aload_n 0, 1) := by decide +kernel
theorem dX10_chance_34 : decode cX10_chance 34 = .ok (.invokevirtual 55, 3) := by decide +kernel
theorem dX10_chance_37 : decode cX10_chance 37 = .ok (.if_icmp .gt 54, 3) := by decide +kernel
theorem dX10_chance_40 : decode cX10_chance 40 = .ok (.iload 5, 2) := by decide +kernel
theorem dX10_chance_42 : decode cX10_chance 42 = .ok (.invokestatic 86, 3) := by decide +kernel
theorem dX10_chance_45 : decode cX10_chance 45 = .ok (.istore 6, 2) := by decide +kernel
theorem dX10_chance_47 : decode cX10_chance 47 = .ok (.lload_n 3, 1) := by decide +kernel
theorem dX10_chance_48 : decode cX10_chance 48 = .ok (.aload_n 0, 1) := by decide +kernel
theorem dX10_chance_49 : decode cX10_chance 49 = .ok (.iload 5, 2) := by decide +kernel
theorem dX10_chance_51 : decode cX10_chance 51 = .ok (.invokevirtual 73, 3) := by decide +kernel
theorem dX10_chance_54 : decode cX10_chance 54 = .ok (.ifCond .eq 28, 3) := by decide +kernel
theorem dX10_chance_57 : decode cX10_chance 57 = .ok (.iload_n 1, 1) := by decide +kernel
theorem dX10_chance_58 : decode cX10_chance 58 = .ok (.i2l, 1) := by decide +kernel
theorem dX10_chance_59 : decode cX10_chance 59 = .ok (.iload 6, 2) := by decide +kernel
theorem dX10_chance_61 : decode cX10_chance 61 = .ok (.invokestatic 173, 3) := by decide +kernel
theorem dX10_chance_64 : decode cX10_chance 64 = .ok (.iload_n 2, 1) := by decide +kernel
theorem dX10_chance_65 : decode cX10_chance 65 = .ok (.iload_n 1, 1) := by decide +kernel
theorem dX10_chance_66 : decode cX10_chance 66 = .ok (.isub, 1) := by decide +kernel
theorem dX10_chance_67 : decode cX10_chance 67 = .ok (.i2l, 1) := by decide +kernel
theorem dX10_chance_68 : decode cX10_chance 68 = .ok (.aload_n 0, 1) := by decide +kernel
theorem dX10_chance_69 : decode cX10_chance 69 = .ok (.getfield 43, 3) := by decide +kernel
theorem dX10_chance_72 : decode cX10_chance 72 = .ok (.iload 6, 2) := by decide +kernel
theorem dX10_chance_74 : decode cX10_chance 74 = .ok (.isub, 1) := by decide +kernel
theorem dX10_chance_75 : decode cX10_chance 75 = .ok (.invokestatic 173, 3) := by decide +kernel
theorem dX10_chance_78 : decode cX10_chance 78 = .ok (.lmul, 1) := by decide +kernel
theorem dX10_chance_79 : decode cX10_chance 79 = .ok (.goto 4, 3) := by decide +kernel
theorem dX10_chance_82 : decode cX10_chance 82 = .ok (.lconst 0, 1) := by decide +kernel
theorem dX10_chance_83 : decode cX10_chance 83 = .ok (.ladd, 1) := by decide +kernel
theorem dX10_chance_84 : decode cX10_chance 84 = .ok (.lstore_n 3, 1) := by decide +kernel
theorem dX10_chance_85 : decode cX10_chance 85 = .ok (.iinc 5 1, 3) := by decide +kernel
theorem dX10_chance_88 : decode cX10_chance 88 = .ok (.goto (-57), 3) := by decide +kernel
theorem dX10_chance_91 : decode cX10_chance 91 = .ok (.aload_n 0, 1) := by decide +kernel
theorem dX10_chance_92 : decode cX10_chance 92 = .ok (.lload_n 3, 1) := by decide +kernel
theorem dX10_chance_93 : decode cX10_chance 93 = .ok (.iload_n 2, 1) := by decide +kernel
theorem dX10_chance_94 : decode cX10_chance 94 = .ok (.i2l, 1) := by decide +kernel
theorem dX10_chance_95 : decode cX10_chance 95 = .ok (.aload_n 0, 1) := by decide +kernel
theorem dX10_chance_96 : decode cX10_chance 96 = .ok (.getfield 43, 3) := by decide +kernel
theorem dX10_chance_99 : decode cX10_chance 99 = .ok (.invokestatic 173, 3) := by decide +kernel
theorem dX10_chance_102 : decode cX10_chance 102 = .ok (.invokevirtual 124, 3) := by decide +kernel
theorem dX10_chance_105 : decode cX10_chance 105 = .ok (.ireturn, 1) := by decide +kernel
set_option maxRecDepth 20000 in
theorem ggX10_swings_X10_isElement : GoodIn wsX10_swings wsX10_isElement := sw_good (sw_cons (t1_ (al_ (t4_ h1_))) (sw_app (sw_cons (t1_ (al_ (t4_ (t1_ h1_)))) (sw_cons (t1_ (al_ (t4_ (t1_ (t1_ h1_))))) (sw_cons (t1_ (al_ (t4_ (t1_ (t1_ (t1_ h1_)))))) (sw_cons (t1_ (al_ (t1_ (t1_ (t1_ h1_))))) (sw_cons (t1_ (al_ (t4_ (t4_ h1_)))) sw_nil))))) (fun _ h => (t1_ (ar_ h))))) (by decide +kernel)
set_option maxRecDepth 20000 in
theorem gX10_swings_X10_isElement : GoodIn wsX10_swings (wsV RX10 67 RX10 yX10_isElement wsX10_isElement) := goodIn_app (sw_good (sw_cons (t1_ (al_ h1_)) (sw_cons (t1_ (al_ (t1_ h1_))) (sw_cons (t1_ (al_ (t1_ (t1_ h1_)))) (sw_cons (t1_ (al_ (t1_ (t1_ (t1_ h1_))))) sw_nil)))) (by decide +kernel)) ggX10_swings_X10_isElement
set_option maxRecDepth 20000 in
theorem ggX10_swings_X10_all : GoodIn wsX10_swings wsX10_all := sw_good (sw_cons (t1_ (al_ (t4_ (t4_ (t4_ h1_))))) (sw_app (sw_cons (t1_ (al_ (t4_ (t1_ h1_)))) sw_nil) (fun _ h => (t1_ (ar_ h))))) (by decide +kernel)
set_option maxRecDepth 20000 in
theorem gX10_swings_X10_all : GoodIn wsX10_swings (wsV RX10 55 RX10 yX10_all wsX10_all) := goodIn_app (sw_good (sw_cons (t1_ (al_ (t4_ (t4_ (t1_ h1_))))) (sw_cons (t1_ (al_ (t4_ (t4_ (t1_ (t1_ h1_)))))) (sw_cons (t1_ (al_ (t4_ (t4_ (t1_ (t1_ (t1_ h1_))))))) (sw_cons (t1_ (al_ (t1_ (t1_ (t1_ h1_))))) sw_nil)))) (by decide +kernel)) ggX10_swings_X10_all
set_option maxRecDepth 20000 in
theorem ggX10_swings_X10_meets : GoodIn wsX10_swings wsX10_meets := sw_good (sw_cons (t1_ (al_ (t16_ h1_))) (sw_app (sw_cons (t1_ (al_ (t16_ (t1_ h1_)))) (sw_cons (t1_ (al_ (t16_ (t1_ (t1_ h1_))))) sw_nil)) (fun _ h => (t1_ (ar_ h))))) (by decide +kernel)
set_option maxRecDepth 20000 in
theorem gX10_swings_X10_meets : GoodIn wsX10_swings (wsV RX10 73 RX10 yX10_meets wsX10_meets) := goodIn_app (sw_good (sw_cons (t1_ (al_ (t4_ (t4_ (t4_ (t1_ h1_)))))) (sw_cons (t1_ (al_ (t4_ (t4_ (t4_ (t1_ (t1_ h1_))))))) (sw_cons (t1_ (al_ (t4_ (t4_ (t4_ (t1_ (t1_ (t1_ h1_)))))))) (sw_cons (t1_ (al_ (t1_ (t1_ (t1_ h1_))))) sw_nil)))) (by decide +kernel)) ggX10_swings_X10_meets
theorem dX10_swings_0 : decode cX10_swings 0 = .ok (.aload_n 0, 1) := by decide +kernel
theorem dX10_swings_1 : decode cX10_swings 1 = .ok (.iload_n 1, 1) := by decide +kernel
theorem dX10_swings_2 : decode cX10_swings 2 = .ok (.invokevirtual 67, 3) := by decide +kernel
theorem dX10_swings_5 : decode cX10_swings 5 = .ok (.ifCond .ne 6, 3) := by decide +kernel
theorem dX10_swings_8 : decode cX10_swings 8 = .ok (.bipush (-2), 2) := by decide +kernel
theorem dX10_swings_10 : decode cX10_swings 10 = .ok (.ireturn, 1) := by decide +kernel
theorem dX10_swings_11 : decode cX10_swings 11 = .ok (.iconst 0, 1) := by decide +kernel
theorem dX10_swings_12 : decode cX10_swings 12 = .ok (.istore_n 2, 1) := by decide +kernel
theorem dX10_swings_13 : decode cX10_swings 13 = .ok (.iconst 0, 1) := by decide +kernel
theorem dX10_swings_14 : decode cX10_swings 14 = .ok (.istore_n 3, 1) := by decide +kernel
theorem dX10_swings_15 : decode cX10_swings 15 = .ok (.iload_n 3, 1) := by decide +kernel
theorem dX10_swings_16 : decode cX10_swings 16 = .ok (.aload_n 0, 1) := by decide +kernel
theorem dX10_swings_17 : decode cX10_swings 17 = .ok (.invokevirtual 55, 3) := by decide +kernel
theorem dX10_swings_20 : decode cX10_swings 20 = .ok (.if_icmp .gt 45, 3) := by decide +kernel
theorem dX10_swings_23 : decode cX10_swings 23 = .ok (.iload_n 2, 1) := by decide +kernel
theorem dX10_swings_24 : decode cX10_swings 24 = .ok (.iload_n 3, 1) := by decide +kernel
theorem dX10_swings_25 : decode cX10_swings 25 = .ok (.iload_n 1, 1) := by decide +kernel
theorem dX10_swings_26 : decode cX10_swings 26 = .ok (.ishr, 1) := by decide +kernel
theorem dX10_swings_27 : decode cX10_swings 27 = .ok (.iconst 1, 1) := by decide +kernel
theorem dX10_swings_28 : decode cX10_swings 28 = .ok (.iand, 1) := by decide +kernel
theorem dX10_swings_29 : decode cX10_swings 29 = .ok (.ifCond .ne 27, 3) := by decide +kernel
theorem dX10_swings_32 : decode cX10_swings 32 = .ok (.aload_n 0, 1) := by decide +kernel
theorem dX10_swings_33 : decode cX10_swings 33 = .ok (.iload_n 3, 1) := by decide +kernel
theorem dX10_swings_34 : decode cX10_swings 34 = .ok (.invokevirtual 73, 3) := by decide +kernel
theorem dX10_swings_37 : decode cX10_swings 37 = .ok (.ifCond .ne 19, 3) := by decide +kernel
theorem dX10_swings_40 : decode cX10_swings 40 = .ok (.aload_n 0, 1) := by decide +kernel
theorem dX10_swings_41 : decode cX10_swings 41 = .ok (.iload_n 3, 1) := by decide +kernel
theorem dX10_swings_42 : decode cX10_swings 42 = .ok (.iconst 1, 1) := by decide +kernel
theorem dX10_swings_43 : decode cX10_swings 43 = .ok (.iload_n 1, 1) := by decide +kernel
theorem dX10_swings_44 : decode cX10_swings 44 = .ok (.ishl, 1) := by decide +kernel
theorem dX10_swings_45 : decode cX10_swings 45 = .ok (.ior, 1) := by decide +kernel
theorem dX10_swings_46 : decode cX10_swings 46 = .ok (.invokevirtual 73, 3) := by decide +kernel
theorem dX10_swings_49 : decode cX10_swings 49 = .ok (.ifCond .eq 7, 3) := by decide +kernel
theorem dX10_swings_52 : decode cX10_swings 52 = .ok (.iconst 1, 1) := by decide +kernel
theorem dX10_swings_53 : decode cX10_swings 53 = .ok (.goto 4, 3) := by decide +kernel
theorem dX10_swings_56 : decode cX10_swings 56 = .ok (.iconst 0, 1) := by decide +kernel
theorem dX10_swings_57 : decode cX10_swings 57 = .ok (.iadd, 1) := by decide +kernel
theorem dX10_swings_58 : decode cX10_swings 58 = .ok (.istore_n 2, 1) := by decide +kernel
theorem dX10_swings_59 : decode cX10_swings 59 = .ok (.iinc 3 1, 3) := by decide +kernel
theorem dX10_swings_62 : decode cX10_swings 62 = .ok (.goto (-47), 3) := by decide +kernel
theorem dX10_swings_65 : decode cX10_swings 65 = .ok (.iload_n 2, 1) := by decide +kernel
theorem dX10_swings_66 : decode cX10_swings 66 = .ok (.ireturn, 1) := by decide +kernel
theorem dX10_asked_0 : decode cX10_asked 0 = .ok (.iconst 0, 1) := by decide +kernel
theorem dX10_asked_1 : decode cX10_asked 1 = .ok (.istore_n 3, 1) := by decide +kernel
theorem dX10_asked_2 : decode cX10_asked 2 = .ok (.iconst 0, 1) := by decide +kernel
theorem dX10_asked_3 : decode cX10_asked 3 = .ok (.istore 4, 2) := by decide +kernel
theorem dX10_asked_5 : decode cX10_asked 5 = .ok (.iload 4, 2) := by decide +kernel
theorem dX10_asked_7 : decode cX10_asked 7 = .ok (.aload_n 0, 1) := by decide +kernel
theorem dX10_asked_8 : decode cX10_asked 8 = .ok (.getfield 61, 3) := by decide +kernel
theorem dX10_asked_11 : decode cX10_asked 11 = .ok (.if_icmp .ge 45, 3) := by decide +kernel
theorem dX10_asked_14 : decode cX10_asked 14 = .ok (.iload_n 3, 1) := by decide +kernel
theorem dX10_asked_15 : decode cX10_asked 15 = .ok (.iload_n 1, 1) := by decide +kernel
theorem dX10_asked_16 : decode cX10_asked 16 = .ok (.iload 4, 2) := by decide +kernel
theorem dX10_asked_18 : decode cX10_asked 18 = .ok (.ishr, 1) := by decide +kernel
theorem dX10_asked_19 : decode cX10_asked 19 = .ok (.iconst 1, 1) := by decide +kernel
theorem dX10_asked_20 : decode cX10_asked 20 = .ok (.iand, 1) := by decide +kernel
theorem dX10_asked_21 : decode cX10_asked 21 = .ok (.iconst 1, 1) := by decide +kernel
theorem dX10_asked_22 : decode cX10_asked 22 = .ok (.if_icmp .ne 25, 3) := by decide +kernel
theorem dX10_asked_25 : decode cX10_asked 25 = .ok (.aload_n 0, 1) := by decide +kernel
theorem dX10_asked_26 : decode cX10_asked 26 = .ok (.getfield 7, 3) := by decide +kernel
theorem dX10_asked_29 : decode cX10_asked 29 = .ok (.iload 4, 2) := by decide +kernel
theorem dX10_asked_31 : decode cX10_asked 31 = .ok (.iaload, 1) := by decide +kernel
theorem dX10_asked_32 : decode cX10_asked 32 = .ok (.iload_n 2, 1) := by decide +kernel
theorem dX10_asked_33 : decode cX10_asked 33 = .ok (.ishr, 1) := by decide +kernel
theorem dX10_asked_34 : decode cX10_asked 34 = .ok (.iconst 1, 1) := by decide +kernel
theorem dX10_asked_35 : decode cX10_asked 35 = .ok (.iand, 1) := by decide +kernel
theorem dX10_asked_36 : decode cX10_asked 36 = .ok (.iconst 1, 1) := by decide +kernel
theorem dX10_asked_37 : decode cX10_asked 37 = .ok (.if_icmp .ne 10, 3) := by decide +kernel
theorem dX10_asked_40 : decode cX10_asked 40 = .ok (.iconst 1, 1) := by decide +kernel
theorem dX10_asked_41 : decode cX10_asked 41 = .ok (.iload 4, 2) := by decide +kernel
theorem dX10_asked_43 : decode cX10_asked 43 = .ok (.ishl, 1) := by decide +kernel
theorem dX10_asked_44 : decode cX10_asked 44 = .ok (.goto 4, 3) := by decide +kernel
theorem dX10_asked_47 : decode cX10_asked 47 = .ok (.iconst 0, 1) := by decide +kernel
theorem dX10_asked_48 : decode cX10_asked 48 = .ok (.ior, 1) := by decide +kernel
theorem dX10_asked_49 : decode cX10_asked 49 = .ok (.istore_n 3, 1) := by decide +kernel
theorem dX10_asked_50 : decode cX10_asked 50 = .ok (.iinc 4 1, 3) := by decide +kernel
theorem dX10_asked_53 : decode cX10_asked 53 = .ok (.goto (-48), 3) := by decide +kernel
theorem dX10_asked_56 : decode cX10_asked 56 = .ok (.iload_n 1, 1) := by decide +kernel
theorem dX10_asked_57 : decode cX10_asked 57 = .ok (.iload_n 3, 1) := by decide +kernel
theorem dX10_asked_58 : decode cX10_asked 58 = .ok (.ixor, 1) := by decide +kernel
theorem dX10_asked_59 : decode cX10_asked 59 = .ok (.istore 4, 2) := by decide +kernel
theorem dX10_asked_61 : decode cX10_asked 61 = .ok (.iload_n 3, 1) := by decide +kernel
theorem dX10_asked_62 : decode cX10_asked 62 = .ok (.ifCond .eq 8, 3) := by decide +kernel
theorem dX10_asked_65 : decode cX10_asked 65 = .ok (.iload 4, 2) := by decide +kernel
theorem dX10_asked_67 : decode cX10_asked 67 = .ok (.ifCond .ne 6, 3) := by decide +kernel
theorem dX10_asked_70 : decode cX10_asked 70 = .ok (.bipush 100, 2) := by decide +kernel
theorem dX10_asked_72 : decode cX10_asked 72 = .ok (.ireturn, 1) := by decide +kernel
theorem dX10_asked_73 : decode cX10_asked 73 = .ok (.iconst 1, 1) := by decide +kernel
theorem dX10_asked_74 : decode cX10_asked 74 = .ok (.aload_n 0, 1) := by decide +kernel
theorem dX10_asked_75 : decode cX10_asked 75 = .ok (.getfield 40, 3) := by decide +kernel
theorem dX10_asked_78 : decode cX10_asked 78 = .ok (.iload_n 3, 1) := by decide +kernel
theorem dX10_asked_79 : decode cX10_asked 79 = .ok (.iaload, 1) := by decide +kernel
theorem dX10_asked_80 : decode cX10_asked 80 = .ok (.aload_n 0, 1) := by decide +kernel
theorem dX10_asked_81 : decode cX10_asked 81 = .ok (.getfield 40, 3) := by decide +kernel
theorem dX10_asked_84 : decode cX10_asked 84 = .ok (.iload 4, 2) := by decide +kernel
theorem dX10_asked_86 : decode cX10_asked 86 = .ok (.iaload, 1) := by decide +kernel
theorem dX10_asked_87 : decode cX10_asked 87 = .ok (.if_icmp .le 12, 3) := by decide +kernel
theorem dX10_asked_90 : decode cX10_asked 90 = .ok (.aload_n 0, 1) := by decide +kernel
theorem dX10_asked_91 : decode cX10_asked 91 = .ok (.getfield 40, 3) := by decide +kernel
theorem dX10_asked_94 : decode cX10_asked 94 = .ok (.iload_n 3, 1) := by decide +kernel
theorem dX10_asked_95 : decode cX10_asked 95 = .ok (.iaload, 1) := by decide +kernel
theorem dX10_asked_96 : decode cX10_asked 96 = .ok (.goto 10, 3) := by decide +kernel
theorem dX10_asked_99 : decode cX10_asked 99 = .ok (.aload_n 0, 1) := by decide +kernel
theorem dX10_asked_100 : decode cX10_asked 100 = .ok (.getfield 40, 3) := by decide +kernel
theorem dX10_asked_103 : decode cX10_asked 103 = .ok (.iload 4, 2) := by decide +kernel
theorem dX10_asked_105 : decode cX10_asked 105 = .ok (.iaload, 1) := by decide +kernel
theorem dX10_asked_106 : decode cX10_asked 106 = .ok (.iadd, 1) := by decide +kernel
theorem dX10_asked_107 : decode cX10_asked 107 = .ok (.ireturn, 1) := by decide +kernel
set_option maxRecDepth 20000 in
theorem ggX10_questions_X10_in : GoodIn wsX10_questions wsX10_in := sw_good (sw_cons (t1_ (al_ (t4_ (t1_ (t1_ (t1_ h1_)))))) sw_nil) (by decide +kernel)
set_option maxRecDepth 20000 in
theorem gX10_questions_X10_in : GoodIn wsX10_questions (va_wsS RX10 51 yX10_in wsX10_in) := goodIn_app (sw_good (sw_cons (t1_ (al_ (t4_ h1_))) (sw_cons (t1_ (al_ (t4_ (t1_ h1_)))) (sw_cons (t1_ (al_ (t4_ (t1_ (t1_ h1_))))) sw_nil))) (by decide +kernel)) ggX10_questions_X10_in
set_option maxRecDepth 20000 in
theorem ggX10_questions_X10_asked : GoodIn wsX10_questions wsX10_asked := sw_good (sw_cons (t1_ (al_ (t4_ (t4_ (t1_ (t1_ (t1_ h1_))))))) (sw_app (sw_cons (t1_ (al_ h1_)) (sw_cons (t1_ (al_ (t4_ (t4_ (t4_ h1_))))) (sw_cons (t1_ (al_ (t1_ (t1_ (t1_ h1_))))) sw_nil))) (fun _ h => (t1_ (ar_ h))))) (by decide +kernel)
set_option maxRecDepth 20000 in
theorem gX10_questions_X10_asked : GoodIn wsX10_questions (wsV RX10 179 RX10 yX10_asked wsX10_asked) := goodIn_app (sw_good (sw_cons (t1_ (al_ (t4_ (t4_ h1_)))) (sw_cons (t1_ (al_ (t4_ (t4_ (t1_ h1_))))) (sw_cons (t1_ (al_ (t4_ (t4_ (t1_ (t1_ h1_)))))) (sw_cons (t1_ (al_ (t4_ (t1_ (t1_ h1_))))) sw_nil)))) (by decide +kernel)) ggX10_questions_X10_asked
theorem dX10_questions_0 : decode cX10_questions 0 = .ok (.iload_n 1, 1) := by decide +kernel
theorem dX10_questions_1 : decode cX10_questions 1 = .ok (.i2l, 1) := by decide +kernel
theorem dX10_questions_2 : decode cX10_questions 2 = .ok (.lconst 0, 1) := by decide +kernel
theorem dX10_questions_3 : decode cX10_questions 3 = .ok (.lconst 1, 1) := by decide +kernel
theorem dX10_questions_4 : decode cX10_questions 4 = .ok (.invokestatic 51, 3) := by decide +kernel
theorem dX10_questions_7 : decode cX10_questions 7 = .ok (.ifCond .ne 6, 3) := by decide +kernel
theorem dX10_questions_10 : decode cX10_questions 10 = .ok (.bipush (-2), 2) := by decide +kernel
theorem dX10_questions_12 : decode cX10_questions 12 = .ok (.ireturn, 1) := by decide +kernel
theorem dX10_questions_13 : decode cX10_questions 13 = .ok (.aload_n 0, 1) := by decide +kernel
theorem dX10_questions_14 : decode cX10_questions 14 = .ok (.getfield 61, 3) := by decide +kernel
theorem dX10_questions_17 : decode cX10_questions 17 = .ok (.i2l, 1) := by decide +kernel
theorem dX10_questions_18 : decode cX10_questions 18 = .ok (.lconst 1, 1) := by decide +kernel
theorem dX10_questions_19 : decode cX10_questions 19 = .ok (.ldc2_w 177, 3) := by decide +kernel
theorem dX10_questions_22 : decode cX10_questions 22 = .ok (.invokestatic 51, 3) := by decide +kernel
theorem dX10_questions_25 : decode cX10_questions 25 = .ok (.ifCond .ne 6, 3) := by decide +kernel
theorem dX10_questions_28 : decode cX10_questions 28 = .ok (.bipush (-3), 2) := by decide +kernel
theorem dX10_questions_30 : decode cX10_questions 30 = .ok (.ireturn, 1) := by decide +kernel
theorem dX10_questions_31 : decode cX10_questions 31 = .ok (.iconst 1, 1) := by decide +kernel
theorem dX10_questions_32 : decode cX10_questions 32 = .ok (.istore_n 2, 1) := by decide +kernel
theorem dX10_questions_33 : decode cX10_questions 33 = .ok (.iload_n 2, 1) := by decide +kernel
theorem dX10_questions_34 : decode cX10_questions 34 = .ok (.iconst 1, 1) := by decide +kernel
theorem dX10_questions_35 : decode cX10_questions 35 = .ok (.aload_n 0, 1) := by decide +kernel
theorem dX10_questions_36 : decode cX10_questions 36 = .ok (.getfield 61, 3) := by decide +kernel
theorem dX10_questions_39 : decode cX10_questions 39 = .ok (.ishl, 1) := by decide +kernel
theorem dX10_questions_40 : decode cX10_questions 40 = .ok (.if_icmp .ge 75, 3) := by decide +kernel
theorem dX10_questions_43 : decode cX10_questions 43 = .ok (.iload_n 2, 1) := by decide +kernel
theorem dX10_questions_44 : decode cX10_questions 44 = .ok (.iload_n 2, 1) := by decide +kernel
theorem dX10_questions_45 : decode cX10_questions 45 = .ok (.iconst 1, 1) := by decide +kernel
theorem dX10_questions_46 : decode cX10_questions 46 = .ok (.isub, 1) := by decide +kernel
theorem dX10_questions_47 : decode cX10_questions 47 = .ok (.iand, 1) := by decide +kernel
theorem dX10_questions_48 : decode cX10_questions 48 = .ok (.ifCond .ne 7, 3) := by decide +kernel
theorem dX10_questions_51 : decode cX10_questions 51 = .ok (.iconst 0, 1) := by decide +kernel
theorem dX10_questions_52 : decode cX10_questions 52 = .ok (.goto 5, 3) := by decide +kernel
theorem dX10_questions_55 : decode cX10_questions 55 = .ok (.bipush 100, 2) := by decide +kernel
theorem dX10_questions_57 : decode cX10_questions 57 = .ok (.istore_n 3, 1) := by decide +kernel
theorem dX10_questions_58 : decode cX10_questions 58 = .ok (.iconst 0, 1) := by decide +kernel
theorem dX10_questions_59 : decode cX10_questions 59 = .ok (.istore 4, 2) := by decide +kernel
theorem dX10_questions_61 : decode cX10_questions 61 = .ok (.iload 4, 2) := by decide +kernel
theorem dX10_questions_63 : decode cX10_questions 63 = .ok (.aload_n 0, 1) := by decide +kernel
theorem dX10_questions_64 : decode cX10_questions 64 = .ok (.getfield 43, 3) := by decide +kernel
theorem dX10_questions_67 : decode cX10_questions 67 = .ok (.if_icmp .ge 35, 3) := by decide +kernel
theorem dX10_questions_70 : decode cX10_questions 70 = .ok (.iload_n 3, 1) := by decide +kernel
theorem dX10_questions_71 : decode cX10_questions 71 = .ok (.ifCond .le 31, 3) := by decide +kernel
theorem dX10_questions_74 : decode cX10_questions 74 = .ok (.aload_n 0, 1) := by decide +kernel
theorem dX10_questions_75 : decode cX10_questions 75 = .ok (.iload_n 2, 1) := by decide +kernel
theorem dX10_questions_76 : decode cX10_questions 76 = .ok (.iload 4, 2) := by decide +kernel
theorem dX10_questions_78 : decode cX10_questions 78 = .ok (.invokevirtual 179, 3) := by decide +kernel
theorem dX10_questions_81 : decode cX10_questions 81 = .ok (.istore 5, 2) := by decide +kernel
theorem dX10_questions_83 : decode cX10_questions 83 = .ok (.iload 5, 2) := by decide +kernel
theorem dX10_questions_85 : decode cX10_questions 85 = .ok (.iload_n 3, 1) := by decide +kernel
theorem dX10_questions_86 : decode cX10_questions 86 = .ok (.if_icmp .ge 8, 3) := by decide +kernel
theorem dX10_questions_89 : decode cX10_questions 89 = .ok (.iload 5, 2) := by decide +kernel
theorem dX10_questions_91 : decode cX10_questions 91 = .ok (.goto 4, 3) := by decide +kernel
theorem dX10_questions_94 : decode cX10_questions 94 = .ok (.iload_n 3, 1) := by decide +kernel
theorem dX10_questions_95 : decode cX10_questions 95 = .ok (.istore_n 3, 1) := by decide +kernel
theorem dX10_questions_96 : decode cX10_questions 96 = .ok (.iinc 4 1, 3) := by decide +kernel
theorem dX10_questions_99 : decode cX10_questions 99 = .ok (.goto (-38), 3) := by decide +kernel
theorem dX10_questions_102 : decode cX10_questions 102 = .ok (.aload_n 0, 1) := by decide +kernel
theorem dX10_questions_103 : decode cX10_questions 103 = .ok (.getfield 40, 3) := by decide +kernel
theorem dX10_questions_106 : decode cX10_questions 106 = .ok (.iload_n 2, 1) := by decide +kernel
theorem dX10_questions_107 : decode cX10_questions 107 = .ok (.iload_n 3, 1) := by decide +kernel
theorem dX10_questions_108 : decode cX10_questions 108 = .ok (.iastore, 1) := by decide +kernel
theorem dX10_questions_109 : decode cX10_questions 109 = .ok (.iinc 2 1, 3) := by decide +kernel
theorem dX10_questions_112 : decode cX10_questions 112 = .ok (.goto (-79), 3) := by decide +kernel
theorem dX10_questions_115 : decode cX10_questions 115 = .ok (.iconst 1, 1) := by decide +kernel
theorem dX10_questions_116 : decode cX10_questions 116 = .ok (.aload_n 0, 1) := by decide +kernel
theorem dX10_questions_117 : decode cX10_questions 117 = .ok (.getfield 61, 3) := by decide +kernel
theorem dX10_questions_120 : decode cX10_questions 120 = .ok (.ishl, 1) := by decide +kernel
theorem dX10_questions_121 : decode cX10_questions 121 = .ok (.iconst 1, 1) := by decide +kernel
theorem dX10_questions_122 : decode cX10_questions 122 = .ok (.isub, 1) := by decide +kernel
theorem dX10_questions_123 : decode cX10_questions 123 = .ok (.istore_n 2, 1) := by decide +kernel
theorem dX10_questions_124 : decode cX10_questions 124 = .ok (.iload_n 1, 1) := by decide +kernel
theorem dX10_questions_125 : decode cX10_questions 125 = .ok (.ifCond .ne 10, 3) := by decide +kernel
theorem dX10_questions_128 : decode cX10_questions 128 = .ok (.aload_n 0, 1) := by decide +kernel
theorem dX10_questions_129 : decode cX10_questions 129 = .ok (.getfield 40, 3) := by decide +kernel
theorem dX10_questions_132 : decode cX10_questions 132 = .ok (.iload_n 2, 1) := by decide +kernel
theorem dX10_questions_133 : decode cX10_questions 133 = .ok (.iaload, 1) := by decide +kernel
theorem dX10_questions_134 : decode cX10_questions 134 = .ok (.ireturn, 1) := by decide +kernel
theorem dX10_questions_135 : decode cX10_questions 135 = .ok (.iconst 0, 1) := by decide +kernel
theorem dX10_questions_136 : decode cX10_questions 136 = .ok (.istore_n 3, 1) := by decide +kernel
theorem dX10_questions_137 : decode cX10_questions 137 = .ok (.iload_n 3, 1) := by decide +kernel
theorem dX10_questions_138 : decode cX10_questions 138 = .ok (.aload_n 0, 1) := by decide +kernel
theorem dX10_questions_139 : decode cX10_questions 139 = .ok (.getfield 43, 3) := by decide +kernel
theorem dX10_questions_142 : decode cX10_questions 142 = .ok (.if_icmp .ge 34, 3) := by decide +kernel
theorem dX10_questions_145 : decode cX10_questions 145 = .ok (.aload_n 0, 1) := by decide +kernel
theorem dX10_questions_146 : decode cX10_questions 146 = .ok (.getfield 61, 3) := by decide +kernel
theorem dX10_questions_149 : decode cX10_questions 149 = .ok (.iconst 1, 1) := by decide +kernel
theorem dX10_questions_150 : decode cX10_questions 150 = .ok (.if_icmp .le 26, 3) := by decide +kernel
theorem dX10_questions_153 : decode cX10_questions 153 = .ok (.aload_n 0, 1) := by decide +kernel
theorem dX10_questions_154 : decode cX10_questions 154 = .ok (.iload_n 2, 1) := by decide +kernel
theorem dX10_questions_155 : decode cX10_questions 155 = .ok (.iload_n 3, 1) := by decide +kernel
theorem dX10_questions_156 : decode cX10_questions 156 = .ok (.invokevirtual 179, 3) := by decide +kernel
theorem dX10_questions_159 : decode cX10_questions 159 = .ok (.aload_n 0, 1) := by decide +kernel
theorem dX10_questions_160 : decode cX10_questions 160 = .ok (.getfield 40, 3) := by decide +kernel
theorem dX10_questions_163 : decode cX10_questions 163 = .ok (.iload_n 2, 1) := by decide +kernel
theorem dX10_questions_164 : decode cX10_questions 164 = .ok (.iaload, 1) := by decide +kernel
theorem dX10_questions_165 : decode cX10_questions 165 = .ok (.if_icmp .ne 5, 3) := by decide +kernel
theorem dX10_questions_168 : decode cX10_questions 168 = .ok (.iload_n 3, 1) := by decide +kernel
theorem dX10_questions_169 : decode cX10_questions 169 = .ok (.ireturn, 1) := by decide +kernel
theorem dX10_questions_170 : decode cX10_questions 170 = .ok (.iinc 3 1, 3) := by decide +kernel
theorem dX10_questions_173 : decode cX10_questions 173 = .ok (.goto (-36), 3) := by decide +kernel
theorem dX10_questions_176 : decode cX10_questions 176 = .ok (.iconst (-1), 1) := by decide +kernel
theorem dX10_questions_177 : decode cX10_questions 177 = .ok (.ireturn, 1) := by decide +kernel
theorem dX10_count_0 : decode cX10_count 0 = .ok (.iload_n 1, 1) := by decide +kernel
theorem dX10_count_1 : decode cX10_count 1 = .ok (.ifCond .ne 10, 3) := by decide +kernel
theorem dX10_count_4 : decode cX10_count 4 = .ok (.aload_n 0, 1) := by decide +kernel
theorem dX10_count_5 : decode cX10_count 5 = .ok (.getfield 43, 3) := by decide +kernel
theorem dX10_count_8 : decode cX10_count 8 = .ok (.goto 29, 3) := by decide +kernel
theorem dX10_count_11 : decode cX10_count 11 = .ok (.iload_n 1, 1) := by decide +kernel
theorem dX10_count_12 : decode cX10_count 12 = .ok (.iconst 1, 1) := by decide +kernel
theorem dX10_count_13 : decode cX10_count 13 = .ok (.if_icmp .ne 10, 3) := by decide +kernel
theorem dX10_count_16 : decode cX10_count 16 = .ok (.aload_n 0, 1) := by decide +kernel
theorem dX10_count_17 : decode cX10_count 17 = .ok (.getfield 61, 3) := by decide +kernel
theorem dX10_count_20 : decode cX10_count 20 = .ok (.goto 17, 3) := by decide +kernel
theorem dX10_count_23 : decode cX10_count 23 = .ok (.iload_n 1, 1) := by decide +kernel
theorem dX10_count_24 : decode cX10_count 24 = .ok (.iconst 2, 1) := by decide +kernel
theorem dX10_count_25 : decode cX10_count 25 = .ok (.if_icmp .ne 10, 3) := by decide +kernel
theorem dX10_count_28 : decode cX10_count 28 = .ok (.aload_n 0, 1) := by decide +kernel
theorem dX10_count_29 : decode cX10_count 29 = .ok (.getfield 64, 3) := by decide +kernel
theorem dX10_count_32 : decode cX10_count 32 = .ok (.goto 5, 3) := by decide +kernel
theorem dX10_count_35 : decode cX10_count 35 = .ok (.bipush (-2), 2) := by decide +kernel
theorem dX10_count_37 : decode cX10_count 37 = .ok (.ireturn, 1) := by decide +kernel
set_option maxRecDepth 20000 in
theorem ggX10_digest_X10_many : GoodIn wsX10_digest wsX10_many := sw_good (sw_cons (t1_ (al_ (al_ (t4_ (t4_ (t4_ (t1_ (t1_ h1_)))))))) (sw_app (sw_cons (t1_ (al_ (al_ (t4_ (t4_ (t4_ (t1_ (t1_ (t1_ h1_))))))))) (sw_cons (t1_ (al_ (al_ (t16_ h1_)))) (sw_cons (t1_ (al_ (al_ (t16_ (t1_ h1_))))) (sw_cons (t1_ (al_ (al_ (t4_ (t4_ (t4_ (t1_ h1_))))))) (sw_cons (t1_ (al_ (al_ (t16_ (t1_ (t1_ h1_)))))) (sw_cons (t1_ (al_ (al_ (t1_ (t1_ h1_))))) (sw_cons (t1_ (al_ (al_ (t16_ (t1_ (t1_ (t1_ h1_))))))) (sw_cons (t1_ (al_ (al_ (t16_ (t4_ h1_))))) (sw_cons (t1_ (al_ (al_ (t16_ (t4_ (t1_ h1_)))))) (sw_cons (t1_ (al_ (al_ (t16_ (t4_ (t1_ (t1_ h1_))))))) (sw_cons (t1_ (al_ (al_ (t16_ (t4_ (t1_ (t1_ (t1_ h1_)))))))) (sw_cons (t1_ (al_ (ar_ (al_ h1_)))) (sw_cons (t1_ (al_ (ar_ (al_ (t1_ h1_))))) (sw_cons (t1_ (al_ (ar_ (al_ (t1_ (t1_ h1_)))))) (sw_cons (t1_ (al_ (al_ (t1_ (t1_ (t1_ h1_)))))) (sw_cons (t1_ (al_ (al_ (t4_ (t1_ h1_))))) sw_nil)))))))))))))))) (fun _ h => (t1_ (ar_ h))))) (by decide +kernel)
set_option maxRecDepth 20000 in
theorem gX10_digest_X10_many : GoodIn wsX10_digest (wsV RX10 79 RX10 yX10_many wsX10_many) := goodIn_app (sw_good (sw_cons (t1_ (al_ (al_ (t4_ (t4_ (t1_ (t1_ h1_))))))) (sw_cons (t1_ (al_ (al_ (t4_ (t4_ (t1_ (t1_ (t1_ h1_)))))))) (sw_cons (t1_ (al_ (al_ (t4_ (t4_ (t4_ h1_)))))) (sw_cons (t1_ (al_ (al_ (t4_ (t4_ (t4_ (t1_ h1_))))))) sw_nil)))) (by decide +kernel)) ggX10_digest_X10_many
set_option maxRecDepth 20000 in
theorem ggX10_digest_X10_bestOf : GoodIn wsX10_digest wsX10_bestOf := sw_good (sw_cons (t1_ (al_ (ar_ (al_ (t4_ (t1_ (t1_ h1_))))))) (sw_app (sw_cons (t1_ (al_ (al_ (t4_ (t4_ (t4_ (t1_ (t1_ (t1_ h1_))))))))) (sw_cons (t1_ (al_ (al_ (t16_ h1_)))) (sw_cons (t1_ (al_ (al_ (t16_ (t1_ h1_))))) (sw_cons (t1_ (al_ (al_ (t4_ (t4_ (t4_ (t1_ h1_))))))) (sw_cons (t1_ (al_ (al_ (t16_ (t1_ (t1_ h1_)))))) (sw_cons (t1_ (al_ (al_ (t1_ (t1_ h1_))))) (sw_cons (t1_ (al_ (al_ (t16_ (t4_ (t1_ (t1_ (t1_ h1_)))))))) (sw_cons (t1_ (al_ (ar_ (al_ h1_)))) (sw_cons (t1_ (al_ (ar_ (al_ (t1_ h1_))))) (sw_cons (t1_ (al_ (ar_ (al_ (t1_ (t1_ h1_)))))) (sw_cons (t1_ (al_ (al_ (t1_ (t1_ (t1_ h1_)))))) (sw_cons (t1_ (al_ (al_ (t4_ (t1_ h1_))))) (sw_cons (t1_ (al_ (ar_ (al_ (t4_ (t1_ (t1_ (t1_ h1_)))))))) (sw_cons (t1_ (al_ (ar_ (al_ (t4_ (t4_ h1_)))))) (sw_cons (t1_ (al_ (ar_ (al_ (t4_ (t4_ (t1_ h1_))))))) (sw_cons (t1_ (al_ (ar_ (al_ (t4_ (t4_ (t1_ (t1_ h1_)))))))) (sw_cons (t1_ (al_ (ar_ (al_ (t4_ (t4_ (t1_ (t1_ (t1_ h1_))))))))) (sw_cons (t1_ (al_ (ar_ (al_ (t4_ (t4_ (t4_ h1_))))))) (sw_cons (t1_ (al_ (ar_ (al_ (t4_ (t4_ (t4_ (t1_ h1_)))))))) (sw_cons (t1_ (al_ (ar_ (al_ (t4_ (t4_ (t4_ (t1_ (t1_ h1_))))))))) (sw_cons (t1_ (al_ (al_ (t4_ (t1_ (t1_ (t1_ h1_))))))) (sw_cons (t1_ (al_ (ar_ (al_ (t4_ (t4_ (t4_ (t1_ (t1_ (t1_ h1_)))))))))) (sw_cons (t1_ (al_ (ar_ (al_ (t16_ h1_))))) (sw_cons (t1_ (al_ (ar_ (al_ (t16_ (t1_ h1_)))))) sw_nil)))))))))))))))))))))))) (fun _ h => (t1_ (ar_ h))))) (by decide +kernel)
set_option maxRecDepth 20000 in
theorem gX10_digest_X10_bestOf : GoodIn wsX10_digest (wsV RX10 93 RX10 yX10_bestOf wsX10_bestOf) := goodIn_app (sw_good (sw_cons (t1_ (al_ (ar_ (al_ (t1_ (t1_ (t1_ h1_))))))) (sw_cons (t1_ (al_ (ar_ (al_ (t4_ h1_))))) (sw_cons (t1_ (al_ (ar_ (al_ (t4_ (t1_ h1_)))))) (sw_cons (t1_ (al_ (al_ (t4_ (t4_ (t4_ (t1_ h1_))))))) sw_nil)))) (by decide +kernel)) ggX10_digest_X10_bestOf
set_option maxRecDepth 20000 in
theorem ggX10_digest_X10_apartOf : GoodIn wsX10_digest wsX10_apartOf := sw_good (sw_cons (t1_ (al_ (ar_ (al_ (t16_ (t4_ (t1_ h1_))))))) (sw_app (sw_cons (t1_ (al_ (al_ (t1_ (t1_ (t1_ h1_)))))) (sw_cons (t1_ (al_ (ar_ (al_ (t4_ (t4_ (t4_ (t1_ (t1_ (t1_ h1_)))))))))) (sw_cons (t1_ (al_ (ar_ (al_ (t16_ h1_))))) (sw_cons (t1_ (al_ (al_ (t4_ (t4_ (t4_ (t1_ h1_))))))) (sw_cons (t1_ (al_ (ar_ (al_ (t16_ (t1_ h1_)))))) (sw_cons (t1_ (al_ (ar_ (al_ (t16_ (t4_ (t1_ (t1_ h1_)))))))) (sw_cons (t1_ (al_ (ar_ (al_ (t16_ (t4_ (t1_ (t1_ (t1_ h1_))))))))) (sw_cons (t1_ (al_ (ar_ (ar_ h1_)))) (sw_cons (t1_ (al_ (ar_ (ar_ (t1_ h1_))))) (sw_cons (t1_ (al_ (al_ (t4_ (t1_ h1_))))) sw_nil)))))))))) (fun _ h => (t1_ (ar_ h))))) (by decide +kernel)
set_option maxRecDepth 20000 in
theorem gX10_digest_X10_apartOf : GoodIn wsX10_digest (wsV RX10 131 RX10 yX10_apartOf wsX10_apartOf) := goodIn_app (sw_good (sw_cons (t1_ (al_ (ar_ (al_ (t16_ (t1_ (t1_ h1_))))))) (sw_cons (t1_ (al_ (ar_ (al_ (t16_ (t1_ (t1_ (t1_ h1_)))))))) (sw_cons (t1_ (al_ (ar_ (al_ (t16_ (t4_ h1_)))))) (sw_cons (t1_ (al_ (al_ (t4_ (t4_ (t4_ (t1_ h1_))))))) sw_nil)))) (by decide +kernel)) ggX10_digest_X10_apartOf
set_option maxRecDepth 20000 in
theorem ggX10_digest_X10_earsOf : GoodIn wsX10_digest wsX10_earsOf := sw_good (sw_cons (t1_ (al_ (ar_ (ar_ (t4_ (t1_ h1_)))))) (sw_app (sw_cons (t1_ (al_ (al_ (t1_ (t1_ (t1_ h1_)))))) (sw_cons (t1_ (al_ (ar_ (ar_ (t4_ (t1_ (t1_ h1_))))))) (sw_cons (t1_ (al_ (al_ (t4_ (t1_ h1_))))) (sw_cons (t1_ (al_ (al_ (t1_ (t1_ h1_))))) (sw_cons (t1_ (al_ (ar_ (ar_ (t4_ (t1_ (t1_ (t1_ h1_)))))))) (sw_cons (t1_ (al_ (ar_ (ar_ (t4_ (t4_ h1_)))))) (sw_cons (t1_ (al_ (ar_ (ar_ (t4_ (t4_ (t1_ h1_))))))) (sw_cons (t1_ (al_ (al_ (t4_ (t4_ (t4_ (t1_ h1_))))))) (sw_cons (t1_ (al_ (ar_ (ar_ (t4_ (t4_ (t1_ (t1_ h1_)))))))) (sw_cons (t1_ (al_ (ar_ (ar_ (t4_ (t4_ (t1_ (t1_ (t1_ h1_))))))))) (sw_cons (t1_ (al_ (ar_ (ar_ (t4_ (t4_ (t4_ h1_))))))) (sw_cons (t1_ (al_ (ar_ (ar_ (t4_ (t4_ (t4_ (t1_ h1_)))))))) (sw_cons (t1_ (al_ (ar_ (ar_ (t4_ (t4_ (t4_ (t1_ (t1_ h1_))))))))) sw_nil))))))))))))) (fun _ h => (t1_ (ar_ h))))) (by decide +kernel)
set_option maxRecDepth 20000 in
theorem gX10_digest_X10_earsOf : GoodIn wsX10_digest (wsV RX10 157 RX10 yX10_earsOf wsX10_earsOf) := goodIn_app (sw_good (sw_cons (t1_ (al_ (ar_ (ar_ (t1_ (t1_ h1_)))))) (sw_cons (t1_ (al_ (ar_ (ar_ (t1_ (t1_ (t1_ h1_))))))) (sw_cons (t1_ (al_ (ar_ (ar_ (t4_ h1_))))) (sw_cons (t1_ (al_ (al_ (t4_ (t4_ (t4_ (t1_ h1_))))))) sw_nil)))) (by decide +kernel)) ggX10_digest_X10_earsOf
theorem dX10_digest_0 : decode cX10_digest 0 = .ok (.ldc2_w 182, 3) := by decide +kernel
theorem dX10_digest_3 : decode cX10_digest 3 = .ok (.ldc2_w 182, 3) := by decide +kernel
theorem dX10_digest_6 : decode cX10_digest 6 = .ok (.ldc2_w 184, 3) := by decide +kernel
theorem dX10_digest_9 : decode cX10_digest 9 = .ok (.aload_n 0, 1) := by decide +kernel
theorem dX10_digest_10 : decode cX10_digest 10 = .ok (.getfield 43, 3) := by decide +kernel
theorem dX10_digest_13 : decode cX10_digest 13 = .ok (.i2l, 1) := by decide +kernel
theorem dX10_digest_14 : decode cX10_digest 14 = .ok (.ladd, 1) := by decide +kernel
theorem dX10_digest_15 : decode cX10_digest 15 = .ok (.lmul, 1) := by decide +kernel
theorem dX10_digest_16 : decode cX10_digest 16 = .ok (.aload_n 0, 1) := by decide +kernel
theorem dX10_digest_17 : decode cX10_digest 17 = .ok (.getfield 61, 3) := by decide +kernel
theorem dX10_digest_20 : decode cX10_digest 20 = .ok (.i2l, 1) := by decide +kernel
theorem dX10_digest_21 : decode cX10_digest 21 = .ok (.ladd, 1) := by decide +kernel
theorem dX10_digest_22 : decode cX10_digest 22 = .ok (.lmul, 1) := by decide +kernel
theorem dX10_digest_23 : decode cX10_digest 23 = .ok (.aload_n 0, 1) := by decide +kernel
theorem dX10_digest_24 : decode cX10_digest 24 = .ok (.getfield 64, 3) := by decide +kernel
theorem dX10_digest_27 : decode cX10_digest 27 = .ok (.i2l, 1) := by decide +kernel
theorem dX10_digest_28 : decode cX10_digest 28 = .ok (.ladd, 1) := by decide +kernel
theorem dX10_digest_29 : decode cX10_digest 29 = .ok (.lstore_n 1, 1) := by decide +kernel
theorem dX10_digest_30 : decode cX10_digest 30 = .ok (.iconst 0, 1) := by decide +kernel
theorem dX10_digest_31 : decode cX10_digest 31 = .ok (.istore_n 3, 1) := by decide +kernel
theorem dX10_digest_32 : decode cX10_digest 32 = .ok (.iload_n 3, 1) := by decide +kernel
theorem dX10_digest_33 : decode cX10_digest 33 = .ok (.aload_n 0, 1) := by decide +kernel
theorem dX10_digest_34 : decode cX10_digest 34 = .ok (.getfield 61, 3) := by decide +kernel
theorem dX10_digest_37 : decode cX10_digest 37 = .ok (.if_icmp .ge 23, 3) := by decide +kernel
theorem dX10_digest_40 : decode cX10_digest 40 = .ok (.ldc2_w 182, 3) := by decide +kernel
theorem dX10_digest_43 : decode cX10_digest 43 = .ok (.lload_n 1, 1) := by decide +kernel
theorem dX10_digest_44 : decode cX10_digest 44 = .ok (.lmul, 1) := by decide +kernel
theorem dX10_digest_45 : decode cX10_digest 45 = .ok (.aload_n 0, 1) := by decide +kernel
theorem dX10_digest_46 : decode cX10_digest 46 = .ok (.getfield 7, 3) := by decide +kernel
theorem dX10_digest_49 : decode cX10_digest 49 = .ok (.iload_n 3, 1) := by decide +kernel
theorem dX10_digest_50 : decode cX10_digest 50 = .ok (.iaload, 1) := by decide +kernel
theorem dX10_digest_51 : decode cX10_digest 51 = .ok (.i2l, 1) := by decide +kernel
theorem dX10_digest_52 : decode cX10_digest 52 = .ok (.ladd, 1) := by decide +kernel
theorem dX10_digest_53 : decode cX10_digest 53 = .ok (.lstore_n 1, 1) := by decide +kernel
theorem dX10_digest_54 : decode cX10_digest 54 = .ok (.iinc 3 1, 3) := by decide +kernel
theorem dX10_digest_57 : decode cX10_digest 57 = .ok (.goto (-25), 3) := by decide +kernel
theorem dX10_digest_60 : decode cX10_digest 60 = .ok (.iconst 0, 1) := by decide +kernel
theorem dX10_digest_61 : decode cX10_digest 61 = .ok (.istore_n 3, 1) := by decide +kernel
theorem dX10_digest_62 : decode cX10_digest 62 = .ok (.iload_n 3, 1) := by decide +kernel
theorem dX10_digest_63 : decode cX10_digest 63 = .ok (.aload_n 0, 1) := by decide +kernel
theorem dX10_digest_64 : decode cX10_digest 64 = .ok (.getfield 64, 3) := by decide +kernel
theorem dX10_digest_67 : decode cX10_digest 67 = .ok (.if_icmp .ge 23, 3) := by decide +kernel
theorem dX10_digest_70 : decode cX10_digest 70 = .ok (.ldc2_w 182, 3) := by decide +kernel
theorem dX10_digest_73 : decode cX10_digest 73 = .ok (.lload_n 1, 1) := by decide +kernel
theorem dX10_digest_74 : decode cX10_digest 74 = .ok (.lmul, 1) := by decide +kernel
theorem dX10_digest_75 : decode cX10_digest 75 = .ok (.aload_n 0, 1) := by decide +kernel
theorem dX10_digest_76 : decode cX10_digest 76 = .ok (.getfield 13, 3) := by decide +kernel
theorem dX10_digest_79 : decode cX10_digest 79 = .ok (.iload_n 3, 1) := by decide +kernel
theorem dX10_digest_80 : decode cX10_digest 80 = .ok (.iaload, 1) := by decide +kernel
theorem dX10_digest_81 : decode cX10_digest 81 = .ok (.i2l, 1) := by decide +kernel
theorem dX10_digest_82 : decode cX10_digest 82 = .ok (.ladd, 1) := by decide +kernel
theorem dX10_digest_83 : decode cX10_digest 83 = .ok (.lstore_n 1, 1) := by decide +kernel
theorem dX10_digest_84 : decode cX10_digest 84 = .ok (.iinc 3 1, 3) := by decide +kernel
theorem dX10_digest_87 : decode cX10_digest 87 = .ok (.goto (-25), 3) := by decide +kernel
theorem dX10_digest_90 : decode cX10_digest 90 = .ok (.iconst 0, 1) := by decide +kernel
theorem dX10_digest_91 : decode cX10_digest 91 = .ok (.istore_n 3, 1) := by decide +kernel
theorem dX10_digest_92 : decode cX10_digest 92 = .ok (.iload_n 3, 1) := by decide +kernel
theorem dX10_digest_93 : decode cX10_digest 93 = .ok (.aload_n 0, 1) := by decide +kernel
theorem dX10_digest_94 : decode cX10_digest 94 = .ok (.getfield 43, 3) := by decide +kernel
theorem dX10_digest_97 : decode cX10_digest 97 = .ok (.if_icmp .ge 23, 3) := by decide +kernel
theorem dX10_digest_100 : decode cX10_digest 100 = .ok (.ldc2_w 182, 3) := by decide +kernel
theorem dX10_digest_103 : decode cX10_digest 103 = .ok (.lload_n 1, 1) := by decide +kernel
theorem dX10_digest_104 : decode cX10_digest 104 = .ok (.lmul, 1) := by decide +kernel
theorem dX10_digest_105 : decode cX10_digest 105 = .ok (.aload_n 0, 1) := by decide +kernel
theorem dX10_digest_106 : decode cX10_digest 106 = .ok (.getfield 16, 3) := by decide +kernel
theorem dX10_digest_109 : decode cX10_digest 109 = .ok (.iload_n 3, 1) := by decide +kernel
theorem dX10_digest_110 : decode cX10_digest 110 = .ok (.iaload, 1) := by decide +kernel
theorem dX10_digest_111 : decode cX10_digest 111 = .ok (.i2l, 1) := by decide +kernel
theorem dX10_digest_112 : decode cX10_digest 112 = .ok (.ladd, 1) := by decide +kernel
theorem dX10_digest_113 : decode cX10_digest 113 = .ok (.lstore_n 1, 1) := by decide +kernel
theorem dX10_digest_114 : decode cX10_digest 114 = .ok (.iinc 3 1, 3) := by decide +kernel
theorem dX10_digest_117 : decode cX10_digest 117 = .ok (.goto (-25), 3) := by decide +kernel
theorem dX10_digest_120 : decode cX10_digest 120 = .ok (.ldc2_w 182, 3) := by decide +kernel
theorem dX10_digest_123 : decode cX10_digest 123 = .ok (.ldc2_w 182, 3) := by decide +kernel
theorem dX10_digest_126 : decode cX10_digest 126 = .ok (.ldc2_w 182, 3) := by decide +kernel
theorem dX10_digest_129 : decode cX10_digest 129 = .ok (.lload_n 1, 1) := by decide +kernel
theorem dX10_digest_130 : decode cX10_digest 130 = .ok (.lmul, 1) := by decide +kernel
theorem dX10_digest_131 : decode cX10_digest 131 = .ok (.aload_n 0, 1) := by decide +kernel
theorem dX10_digest_132 : decode cX10_digest 132 = .ok (.invokevirtual 79, 3) := by decide +kernel
theorem dX10_digest_135 : decode cX10_digest 135 = .ok (.i2l, 1) := by decide +kernel
theorem dX10_digest_136 : decode cX10_digest 136 = .ok (.ladd, 1) := by decide +kernel
theorem dX10_digest_137 : decode cX10_digest 137 = .ok (.lmul, 1) := by decide +kernel
theorem dX10_digest_138 : decode cX10_digest 138 = .ok (.aload_n 0, 1) := by decide +kernel
theorem dX10_digest_139 : decode cX10_digest 139 = .ok (.iconst 0, 1) := by decide +kernel
theorem dX10_digest_140 : decode cX10_digest 140 = .ok (.invokevirtual 93, 3) := by decide +kernel
theorem dX10_digest_143 : decode cX10_digest 143 = .ok (.i2l, 1) := by decide +kernel
theorem dX10_digest_144 : decode cX10_digest 144 = .ok (.ladd, 1) := by decide +kernel
theorem dX10_digest_145 : decode cX10_digest 145 = .ok (.lmul, 1) := by decide +kernel
theorem dX10_digest_146 : decode cX10_digest 146 = .ok (.aload_n 0, 1) := by decide +kernel
theorem dX10_digest_147 : decode cX10_digest 147 = .ok (.iconst 1, 1) := by decide +kernel
theorem dX10_digest_148 : decode cX10_digest 148 = .ok (.invokevirtual 93, 3) := by decide +kernel
theorem dX10_digest_151 : decode cX10_digest 151 = .ok (.i2l, 1) := by decide +kernel
theorem dX10_digest_152 : decode cX10_digest 152 = .ok (.ladd, 1) := by decide +kernel
theorem dX10_digest_153 : decode cX10_digest 153 = .ok (.lstore_n 1, 1) := by decide +kernel
theorem dX10_digest_154 : decode cX10_digest 154 = .ok (.ldc2_w 182, 3) := by decide +kernel
theorem dX10_digest_157 : decode cX10_digest 157 = .ok (.ldc2_w 182, 3) := by decide +kernel
theorem dX10_digest_160 : decode cX10_digest 160 = .ok (.lload_n 1, 1) := by decide +kernel
theorem dX10_digest_161 : decode cX10_digest 161 = .ok (.lmul, 1) := by decide +kernel
theorem dX10_digest_162 : decode cX10_digest 162 = .ok (.aload_n 0, 1) := by decide +kernel
theorem dX10_digest_163 : decode cX10_digest 163 = .ok (.invokevirtual 131, 3) := by decide +kernel
theorem dX10_digest_166 : decode cX10_digest 166 = .ok (.i2l, 1) := by decide +kernel
theorem dX10_digest_167 : decode cX10_digest 167 = .ok (.ladd, 1) := by decide +kernel
theorem dX10_digest_168 : decode cX10_digest 168 = .ok (.lmul, 1) := by decide +kernel
theorem dX10_digest_169 : decode cX10_digest 169 = .ok (.aload_n 0, 1) := by decide +kernel
theorem dX10_digest_170 : decode cX10_digest 170 = .ok (.invokevirtual 157, 3) := by decide +kernel
theorem dX10_digest_173 : decode cX10_digest 173 = .ok (.i2l, 1) := by decide +kernel
theorem dX10_digest_174 : decode cX10_digest 174 = .ok (.ladd, 1) := by decide +kernel
theorem dX10_digest_175 : decode cX10_digest 175 = .ok (.lstore_n 1, 1) := by decide +kernel
theorem dX10_digest_176 : decode cX10_digest 176 = .ok (.ldc2_w 182, 3) := by decide +kernel
theorem dX10_digest_179 : decode cX10_digest 179 = .ok (.ldc2_w 182, 3) := by decide +kernel
theorem dX10_digest_182 : decode cX10_digest 182 = .ok (.lload_n 1, 1) := by decide +kernel
theorem dX10_digest_183 : decode cX10_digest 183 = .ok (.lmul, 1) := by decide +kernel
theorem dX10_digest_184 : decode cX10_digest 184 = .ok (.aload_n 0, 1) := by decide +kernel
theorem dX10_digest_185 : decode cX10_digest 185 = .ok (.getfield 108, 3) := by decide +kernel
theorem dX10_digest_188 : decode cX10_digest 188 = .ok (.ladd, 1) := by decide +kernel
theorem dX10_digest_189 : decode cX10_digest 189 = .ok (.lmul, 1) := by decide +kernel
theorem dX10_digest_190 : decode cX10_digest 190 = .ok (.aload_n 0, 1) := by decide +kernel
theorem dX10_digest_191 : decode cX10_digest 191 = .ok (.getfield 47, 3) := by decide +kernel
theorem dX10_digest_194 : decode cX10_digest 194 = .ok (.ladd, 1) := by decide +kernel
theorem dX10_digest_195 : decode cX10_digest 195 = .ok (.lreturn, 1) := by decide +kernel
