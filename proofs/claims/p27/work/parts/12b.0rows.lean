theorem dX3_init_0 : decode cX3_init 0 = .ok (.aload_n 0, 1) := by decide +kernel
theorem dX3_init_1 : decode cX3_init 1 = .ok (.invokespecial 1, 3) := by decide +kernel
theorem dX3_init_4 : decode cX3_init 4 = .ok (.aload_n 0, 1) := by decide +kernel
theorem dX3_init_5 : decode cX3_init 5 = .ok (.aload_n 1, 1) := by decide +kernel
theorem dX3_init_6 : decode cX3_init 6 = .ok (.putfield 7, 3) := by decide +kernel
theorem dX3_init_9 : decode cX3_init 9 = .ok (.aload_n 0, 1) := by decide +kernel
theorem dX3_init_10 : decode cX3_init 10 = .ok (.iconst 0, 1) := by decide +kernel
theorem dX3_init_11 : decode cX3_init 11 = .ok (.putfield 13, 3) := by decide +kernel
theorem dX3_init_14 : decode cX3_init 14 = .ok (.aload_n 0, 1) := by decide +kernel
theorem dX3_init_15 : decode cX3_init 15 = .ok (.iconst 0, 1) := by decide +kernel
theorem dX3_init_16 : decode cX3_init 16 = .ok (.putfield 17, 3) := by decide +kernel
theorem dX3_init_19 : decode cX3_init 19 = .ok (.aload_n 0, 1) := by decide +kernel
theorem dX3_init_20 : decode cX3_init 20 = .ok (.iconst 0, 1) := by decide +kernel
theorem dX3_init_21 : decode cX3_init 21 = .ok (.putfield 20, 3) := by decide +kernel
theorem dX3_init_24 : decode cX3_init 24 = .ok (.return_, 1) := by decide +kernel
set_option maxRecDepth 20000 in
theorem ggX3_findApart_X3_start : GoodIn wsX3_findApart wsX3_start := sw_good (sw_cons (t1_ (al_ (al_ (t4_ h1_)))) (sw_app (sw_app (sw_cons (t1_ (al_ (al_ (t4_ (t1_ h1_))))) (sw_cons (t1_ (al_ (al_ (t4_ (t1_ (t1_ h1_)))))) (sw_cons (t1_ (al_ (al_ (t4_ (t1_ (t1_ (t1_ h1_))))))) (sw_cons (t1_ (al_ (al_ (t4_ (t4_ h1_))))) (sw_cons (t1_ (al_ (al_ (t4_ (t4_ (t1_ h1_)))))) (sw_cons (t1_ (al_ (al_ (t4_ (t4_ (t1_ (t1_ h1_))))))) (sw_cons (t1_ (al_ (al_ (t4_ (t4_ (t1_ (t1_ (t1_ h1_)))))))) (sw_cons (t1_ (al_ (al_ (t4_ (t4_ (t4_ h1_)))))) (sw_cons (t1_ (al_ (al_ (t1_ (t1_ (t1_ h1_)))))) (sw_cons (t1_ (al_ (al_ (t4_ (t4_ (t4_ (t1_ h1_))))))) (sw_cons (t1_ (al_ (al_ (t4_ (t4_ (t4_ (t1_ (t1_ h1_)))))))) sw_nil))))))))))) (fun _ h => (t1_ (al_ (ar_ h))))) (fun _ h => (t1_ (ar_ h))))) (by decide +kernel)
set_option maxRecDepth 20000 in
theorem gX3_findApart_X3_start : GoodIn wsX3_findApart (wsV RX3 23 RX3 yX3_start wsX3_start) := goodIn_app (sw_good (sw_cons (t1_ (al_ (al_ h1_))) (sw_cons (t1_ (al_ (al_ (t1_ h1_)))) (sw_cons (t1_ (al_ (al_ (t1_ (t1_ h1_))))) (sw_cons (t1_ (al_ (al_ (t1_ (t1_ (t1_ h1_)))))) sw_nil)))) (by decide +kernel)) ggX3_findApart_X3_start
theorem dX3_findApart_0 : decode cX3_findApart 0 = .ok (.aload_n 0, 1) := by decide +kernel
theorem dX3_findApart_1 : decode cX3_findApart 1 = .ok (.iconst 0, 1) := by decide +kernel
theorem dX3_findApart_2 : decode cX3_findApart 2 = .ok (.iconst 0, 1) := by decide +kernel
theorem dX3_findApart_3 : decode cX3_findApart 3 = .ok (.invokevirtual 23, 3) := by decide +kernel
theorem dX3_findApart_6 : decode cX3_findApart 6 = .ok (.return_, 1) := by decide +kernel
set_option maxRecDepth 20000 in
theorem ggX3_findStar_X3_start : GoodIn wsX3_findStar wsX3_start := sw_good (sw_cons (t1_ (al_ (al_ (t4_ h1_)))) (sw_app (sw_app (sw_cons (t1_ (al_ (al_ (t4_ (t1_ h1_))))) (sw_cons (t1_ (al_ (al_ (t4_ (t1_ (t1_ h1_)))))) (sw_cons (t1_ (al_ (al_ (t4_ (t1_ (t1_ (t1_ h1_))))))) (sw_cons (t1_ (al_ (al_ (t4_ (t4_ h1_))))) (sw_cons (t1_ (al_ (al_ (t4_ (t4_ (t1_ h1_)))))) (sw_cons (t1_ (al_ (al_ (t4_ (t4_ (t1_ (t1_ h1_))))))) (sw_cons (t1_ (al_ (al_ (t4_ (t4_ (t1_ (t1_ (t1_ h1_)))))))) (sw_cons (t1_ (al_ (al_ (t4_ (t4_ (t4_ h1_)))))) (sw_cons (t1_ (al_ (al_ (t1_ (t1_ (t1_ h1_)))))) (sw_cons (t1_ (al_ (al_ (t4_ (t4_ (t4_ (t1_ h1_))))))) (sw_cons (t1_ (al_ (al_ (t4_ (t4_ (t4_ (t1_ (t1_ h1_)))))))) sw_nil))))))))))) (fun _ h => (t1_ (al_ (ar_ h))))) (fun _ h => (t1_ (ar_ h))))) (by decide +kernel)
set_option maxRecDepth 20000 in
theorem gX3_findStar_X3_start : GoodIn wsX3_findStar (wsV RX3 23 RX3 yX3_start wsX3_start) := goodIn_app (sw_good (sw_cons (t1_ (al_ (al_ h1_))) (sw_cons (t1_ (al_ (al_ (t1_ h1_)))) (sw_cons (t1_ (al_ (al_ (t1_ (t1_ h1_))))) (sw_cons (t1_ (al_ (al_ (t1_ (t1_ (t1_ h1_)))))) sw_nil)))) (by decide +kernel)) ggX3_findStar_X3_start
theorem dX3_findStar_0 : decode cX3_findStar 0 = .ok (.aload_n 0, 1) := by decide +kernel
theorem dX3_findStar_1 : decode cX3_findStar 1 = .ok (.iconst 1, 1) := by decide +kernel
theorem dX3_findStar_2 : decode cX3_findStar 2 = .ok (.iconst (-1), 1) := by decide +kernel
theorem dX3_findStar_3 : decode cX3_findStar 3 = .ok (.invokevirtual 23, 3) := by decide +kernel
theorem dX3_findStar_6 : decode cX3_findStar 6 = .ok (.return_, 1) := by decide +kernel
set_option maxRecDepth 20000 in
theorem ggX3_start_X3_search : GoodIn wsX3_start wsX3_search := sw_good (sw_cons (t1_ (al_ (al_ (t4_ (t4_ (t1_ h1_)))))) (sw_app (sw_app (sw_cons (t1_ (al_ (al_ (t1_ (t1_ h1_))))) (sw_cons (t1_ (al_ (al_ h1_))) (sw_cons (t1_ (al_ (al_ (t1_ h1_)))) (sw_cons (t1_ (al_ (al_ (t1_ (t1_ (t1_ h1_)))))) (sw_cons (t1_ (al_ (al_ (t4_ (t4_ (t1_ (t1_ h1_))))))) (sw_cons (t1_ (al_ (al_ (t4_ (t1_ h1_))))) (sw_cons (t1_ (al_ (al_ (t4_ (t1_ (t1_ h1_)))))) (sw_cons (t1_ (al_ (al_ (t4_ (t1_ (t1_ (t1_ h1_))))))) (sw_cons (t1_ (al_ (al_ (t4_ (t4_ h1_))))) sw_nil))))))))) (fun _ h => (t1_ (al_ (ar_ h))))) (fun _ h => (t1_ (ar_ h))))) (by decide +kernel)
set_option maxRecDepth 20000 in
theorem gX3_start_X3_search : GoodIn wsX3_start (wsV RX3 32 RX3 yX3_search wsX3_search) := goodIn_app (sw_good (sw_cons (t1_ (al_ (al_ (t4_ (t1_ h1_))))) (sw_cons (t1_ (al_ (al_ (t4_ (t1_ (t1_ h1_)))))) (sw_cons (t1_ (al_ (al_ (t4_ (t1_ (t1_ (t1_ h1_))))))) (sw_cons (t1_ (al_ (al_ (t4_ (t4_ h1_))))) sw_nil)))) (by decide +kernel)) ggX3_start_X3_search
theorem dX3_start_0 : decode cX3_start 0 = .ok (.aload_n 0, 1) := by decide +kernel
theorem dX3_start_1 : decode cX3_start 1 = .ok (.iconst 0, 1) := by decide +kernel
theorem dX3_start_2 : decode cX3_start 2 = .ok (.putfield 13, 3) := by decide +kernel
theorem dX3_start_5 : decode cX3_start 5 = .ok (.aload_n 0, 1) := by decide +kernel
theorem dX3_start_6 : decode cX3_start 6 = .ok (.iconst 0, 1) := by decide +kernel
theorem dX3_start_7 : decode cX3_start 7 = .ok (.putfield 17, 3) := by decide +kernel
theorem dX3_start_10 : decode cX3_start 10 = .ok (.aload_n 0, 1) := by decide +kernel
theorem dX3_start_11 : decode cX3_start 11 = .ok (.iload_n 1, 1) := by decide +kernel
theorem dX3_start_12 : decode cX3_start 12 = .ok (.putfield 20, 3) := by decide +kernel
theorem dX3_start_15 : decode cX3_start 15 = .ok (.aload_n 0, 1) := by decide +kernel
theorem dX3_start_16 : decode cX3_start 16 = .ok (.aload_n 0, 1) := by decide +kernel
theorem dX3_start_17 : decode cX3_start 17 = .ok (.getfield 7, 3) := by decide +kernel
theorem dX3_start_20 : decode cX3_start 20 = .ok (.getfield 27, 3) := by decide +kernel
theorem dX3_start_23 : decode cX3_start 23 = .ok (.iconst 0, 1) := by decide +kernel
theorem dX3_start_24 : decode cX3_start 24 = .ok (.iconst 0, 1) := by decide +kernel
theorem dX3_start_25 : decode cX3_start 25 = .ok (.iconst 0, 1) := by decide +kernel
theorem dX3_start_26 : decode cX3_start 26 = .ok (.iload_n 2, 1) := by decide +kernel
theorem dX3_start_27 : decode cX3_start 27 = .ok (.invokevirtual 32, 3) := by decide +kernel
theorem dX3_start_30 : decode cX3_start 30 = .ok (.return_, 1) := by decide +kernel
set_option maxRecDepth 20000 in
theorem ggX3_search_X3_search : GoodIn wsX3_search wsX3_search := sw_good (sw_cons h1_ (sw_app (sw_app (sw_cons (t1_ (al_ (al_ h1_))) (sw_cons (t1_ (al_ (al_ (t1_ h1_)))) (sw_cons (t1_ (al_ (al_ (t1_ (t1_ h1_))))) (sw_cons (t1_ (al_ (al_ (t1_ (t1_ (t1_ h1_)))))) (sw_cons (t1_ (al_ (al_ (t4_ h1_)))) (sw_cons (t1_ (al_ (al_ (t4_ (t1_ h1_))))) (sw_cons (t1_ (al_ (al_ (t4_ (t1_ (t1_ h1_)))))) (sw_cons (t1_ (al_ (al_ (t4_ (t1_ (t1_ (t1_ h1_))))))) (sw_cons (t1_ (al_ (al_ (t4_ (t4_ h1_))))) sw_nil))))))))) (fun _ h => (t1_ (al_ (ar_ h))))) (fun _ h => (t1_ (ar_ h))))) (by decide +kernel)
set_option maxRecDepth 20000 in
theorem gX3_search_X3_search : GoodIn wsX3_search (wsV RX3 32 RX3 yX3_search wsX3_search) := goodIn_app (sw_good (sw_cons (t1_ (al_ (al_ (t4_ (t1_ h1_))))) (sw_cons (t1_ (al_ (al_ (t4_ (t1_ (t1_ h1_)))))) (sw_cons (t1_ (al_ (al_ (t4_ (t1_ (t1_ (t1_ h1_))))))) (sw_cons (t1_ (al_ (al_ (t4_ (t4_ h1_))))) sw_nil)))) (by decide +kernel)) ggX3_search_X3_search
theorem dX3_search_0 : decode cX3_search 0 = .ok (.iload_n 3, 1) := by decide +kernel
theorem dX3_search_1 : decode cX3_search 1 = .ok (.iload_n 1, 1) := by decide +kernel
theorem dX3_search_2 : decode cX3_search 2 = .ok (.iadd, 1) := by decide +kernel
theorem dX3_search_3 : decode cX3_search 3 = .ok (.aload_n 0, 1) := by decide +kernel
theorem dX3_search_4 : decode cX3_search 4 = .ok (.getfield 20, 3) := by decide +kernel
theorem dX3_search_7 : decode cX3_search 7 = .ok (.if_icmp .gt 4, 3) := by decide +kernel
theorem dX3_search_10 : decode cX3_search 10 = .ok (.return_, 1) := by decide +kernel
theorem dX3_search_11 : decode cX3_search 11 = .ok (.iload_n 1, 1) := by decide +kernel
theorem dX3_search_12 : decode cX3_search 12 = .ok (.ifCond .gt 20, 3) := by decide +kernel
theorem dX3_search_15 : decode cX3_search 15 = .ok (.aload_n 0, 1) := by decide +kernel
theorem dX3_search_16 : decode cX3_search 16 = .ok (.iload_n 2, 1) := by decide +kernel
theorem dX3_search_17 : decode cX3_search 17 = .ok (.putfield 13, 3) := by decide +kernel
theorem dX3_search_20 : decode cX3_search 20 = .ok (.aload_n 0, 1) := by decide +kernel
theorem dX3_search_21 : decode cX3_search 21 = .ok (.iload 5, 2) := by decide +kernel
theorem dX3_search_23 : decode cX3_search 23 = .ok (.putfield 17, 3) := by decide +kernel
theorem dX3_search_26 : decode cX3_search 26 = .ok (.aload_n 0, 1) := by decide +kernel
theorem dX3_search_27 : decode cX3_search 27 = .ok (.iload_n 3, 1) := by decide +kernel
theorem dX3_search_28 : decode cX3_search 28 = .ok (.putfield 20, 3) := by decide +kernel
theorem dX3_search_31 : decode cX3_search 31 = .ok (.return_, 1) := by decide +kernel
theorem dX3_search_32 : decode cX3_search 32 = .ok (.iload_n 1, 1) := by decide +kernel
theorem dX3_search_33 : decode cX3_search 33 = .ok (.iconst 1, 1) := by decide +kernel
theorem dX3_search_34 : decode cX3_search 34 = .ok (.isub, 1) := by decide +kernel
theorem dX3_search_35 : decode cX3_search 35 = .ok (.istore 6, 2) := by decide +kernel
theorem dX3_search_37 : decode cX3_search 37 = .ok (.aload_n 0, 1) := by decide +kernel
theorem dX3_search_38 : decode cX3_search 38 = .ok (.iload 6, 2) := by decide +kernel
theorem dX3_search_40 : decode cX3_search 40 = .ok (.iload_n 2, 1) := by decide +kernel
theorem dX3_search_41 : decode cX3_search 41 = .ok (.iload_n 3, 1) := by decide +kernel
theorem dX3_search_42 : decode cX3_search 42 = .ok (.iload 4, 2) := by decide +kernel
theorem dX3_search_44 : decode cX3_search 44 = .ok (.iload 5, 2) := by decide +kernel
theorem dX3_search_46 : decode cX3_search 46 = .ok (.invokevirtual 32, 3) := by decide +kernel
theorem dX3_search_49 : decode cX3_search 49 = .ok (.aload_n 0, 1) := by decide +kernel
theorem dX3_search_50 : decode cX3_search 50 = .ok (.getfield 7, 3) := by decide +kernel
theorem dX3_search_53 : decode cX3_search 53 = .ok (.getfield 36, 3) := by decide +kernel
theorem dX3_search_56 : decode cX3_search 56 = .ok (.iload 6, 2) := by decide +kernel
theorem dX3_search_58 : decode cX3_search 58 = .ok (.iaload, 1) := by decide +kernel
theorem dX3_search_59 : decode cX3_search 59 = .ok (.istore 7, 2) := by decide +kernel
theorem dX3_search_61 : decode cX3_search 61 = .ok (.iload 7, 2) := by decide +kernel
theorem dX3_search_63 : decode cX3_search 63 = .ok (.iload 4, 2) := by decide +kernel
theorem dX3_search_65 : decode cX3_search 65 = .ok (.iand, 1) := by decide +kernel
theorem dX3_search_66 : decode cX3_search 66 = .ok (.istore 8, 2) := by decide +kernel
theorem dX3_search_68 : decode cX3_search 68 = .ok (.iload 5, 2) := by decide +kernel
theorem dX3_search_70 : decode cX3_search 70 = .ok (.iconst (-1), 1) := by decide +kernel
theorem dX3_search_71 : decode cX3_search 71 = .ok (.if_icmp .eq 10, 3) := by decide +kernel
theorem dX3_search_74 : decode cX3_search 74 = .ok (.iload 8, 2) := by decide +kernel
theorem dX3_search_76 : decode cX3_search 76 = .ok (.iload 5, 2) := by decide +kernel
theorem dX3_search_78 : decode cX3_search 78 = .ok (.if_icmp .ne 45, 3) := by decide +kernel
theorem dX3_search_81 : decode cX3_search 81 = .ok (.iload 5, 2) := by decide +kernel
theorem dX3_search_83 : decode cX3_search 83 = .ok (.iconst (-1), 1) := by decide +kernel
theorem dX3_search_84 : decode cX3_search 84 = .ok (.if_icmp .ne 13, 3) := by decide +kernel
theorem dX3_search_87 : decode cX3_search 87 = .ok (.iload_n 3, 1) := by decide +kernel
theorem dX3_search_88 : decode cX3_search 88 = .ok (.iconst 1, 1) := by decide +kernel
theorem dX3_search_89 : decode cX3_search 89 = .ok (.if_icmp .ne 8, 3) := by decide +kernel
theorem dX3_search_92 : decode cX3_search 92 = .ok (.iload 8, 2) := by decide +kernel
theorem dX3_search_94 : decode cX3_search 94 = .ok (.goto 5, 3) := by decide +kernel
theorem dX3_search_97 : decode cX3_search 97 = .ok (.iload 5, 2) := by decide +kernel
theorem dX3_search_99 : decode cX3_search 99 = .ok (.istore 9, 2) := by decide +kernel
theorem dX3_search_101 : decode cX3_search 101 = .ok (.aload_n 0, 1) := by decide +kernel
theorem dX3_search_102 : decode cX3_search 102 = .ok (.iload 6, 2) := by decide +kernel
theorem dX3_search_104 : decode cX3_search 104 = .ok (.iload_n 2, 1) := by decide +kernel
theorem dX3_search_105 : decode cX3_search 105 = .ok (.iconst 1, 1) := by decide +kernel
theorem dX3_search_106 : decode cX3_search 106 = .ok (.iload 6, 2) := by decide +kernel
theorem dX3_search_108 : decode cX3_search 108 = .ok (.ishl, 1) := by decide +kernel
theorem dX3_search_109 : decode cX3_search 109 = .ok (.ior, 1) := by decide +kernel
theorem dX3_search_110 : decode cX3_search 110 = .ok (.iload_n 3, 1) := by decide +kernel
theorem dX3_search_111 : decode cX3_search 111 = .ok (.iconst 1, 1) := by decide +kernel
theorem dX3_search_112 : decode cX3_search 112 = .ok (.iadd, 1) := by decide +kernel
theorem dX3_search_113 : decode cX3_search 113 = .ok (.iload 4, 2) := by decide +kernel
theorem dX3_search_115 : decode cX3_search 115 = .ok (.iload 7, 2) := by decide +kernel
theorem dX3_search_117 : decode cX3_search 117 = .ok (.ior, 1) := by decide +kernel
theorem dX3_search_118 : decode cX3_search 118 = .ok (.iload 9, 2) := by decide +kernel
theorem dX3_search_120 : decode cX3_search 120 = .ok (.invokevirtual 32, 3) := by decide +kernel
theorem dX3_search_123 : decode cX3_search 123 = .ok (.return_, 1) := by decide +kernel
theorem dX0_init_0 : decode cX0_init 0 = .ok (.aload_n 0, 1) := by decide +kernel
theorem dX0_init_1 : decode cX0_init 1 = .ok (.invokespecial 3, 3) := by decide +kernel
theorem dX0_init_4 : decode cX0_init 4 = .ok (.aload_n 0, 1) := by decide +kernel
theorem dX0_init_5 : decode cX0_init 5 = .ok (.aload_n 1, 1) := by decide +kernel
theorem dX0_init_6 : decode cX0_init 6 = .ok (.putfield 9, 3) := by decide +kernel
theorem dX0_init_9 : decode cX0_init 9 = .ok (.aload_n 0, 1) := by decide +kernel
theorem dX0_init_10 : decode cX0_init 10 = .ok (.bipush 10, 2) := by decide +kernel
theorem dX0_init_12 : decode cX0_init 12 = .ok (.newarray .int, 2) := by decide +kernel
theorem dX0_init_14 : decode cX0_init 14 = .ok (.putfield 15, 3) := by decide +kernel
theorem dX0_init_17 : decode cX0_init 17 = .ok (.aload_n 0, 1) := by decide +kernel
theorem dX0_init_18 : decode cX0_init 18 = .ok (.sipush 4096, 3) := by decide +kernel
theorem dX0_init_21 : decode cX0_init 21 = .ok (.newarray .int, 2) := by decide +kernel
theorem dX0_init_23 : decode cX0_init 23 = .ok (.putfield 19, 3) := by decide +kernel
theorem dX0_init_26 : decode cX0_init 26 = .ok (.return_, 1) := by decide +kernel
set_option maxRecDepth 20000 in
theorem ggX0_prepare_J7_fill_53178 : GoodIn wsX0_prepare wsJ7_fill_53178 := sw_good (sw_cons (t1_ (al_ (al_ (t4_ (t4_ (t1_ h1_)))))) sw_nil) (by decide +kernel)
set_option maxRecDepth 20000 in
theorem gX0_prepare_J7_fill_53178 : GoodIn wsX0_prepare (va_wsS RX0 22 yJ7_fill_53178 wsJ7_fill_53178) := goodIn_app (sw_good (sw_cons (t1_ (al_ (al_ (t4_ (t1_ (t1_ h1_)))))) (sw_cons (t1_ (al_ (al_ (t4_ (t1_ (t1_ (t1_ h1_))))))) (sw_cons (t1_ (al_ (al_ (t4_ (t4_ h1_))))) sw_nil))) (by decide +kernel)) ggX0_prepare_J7_fill_53178
set_option maxRecDepth 20000 in
theorem ggX0_prepare_X9_has : GoodIn wsX0_prepare wsX9_has := sw_good (sw_cons (t1_ (al_ (al_ (t4_ (t4_ (t4_ h1_)))))) sw_nil) (by decide +kernel)
set_option maxRecDepth 20000 in
theorem gX0_prepare_X9_has_n40 : GoodIn wsX0_prepare (wsX9_has) := ggX0_prepare_X9_has
theorem dX0_prepare_0 : decode cX0_prepare 0 = .ok (.aload_n 0, 1) := by decide +kernel
theorem dX0_prepare_1 : decode cX0_prepare 1 = .ok (.getfield 19, 3) := by decide +kernel
theorem dX0_prepare_4 : decode cX0_prepare 4 = .ok (.iconst 0, 1) := by decide +kernel
theorem dX0_prepare_5 : decode cX0_prepare 5 = .ok (.invokestatic 22, 3) := by decide +kernel
theorem dX0_prepare_8 : decode cX0_prepare 8 = .ok (.iconst 0, 1) := by decide +kernel
theorem dX0_prepare_9 : decode cX0_prepare 9 = .ok (.istore_n 1, 1) := by decide +kernel
theorem dX0_prepare_10 : decode cX0_prepare 10 = .ok (.iload_n 1, 1) := by decide +kernel
theorem dX0_prepare_11 : decode cX0_prepare 11 = .ok (.aload_n 0, 1) := by decide +kernel
theorem dX0_prepare_12 : decode cX0_prepare 12 = .ok (.getfield 9, 3) := by decide +kernel
theorem dX0_prepare_15 : decode cX0_prepare 15 = .ok (.getfield 28, 3) := by decide +kernel
theorem dX0_prepare_18 : decode cX0_prepare 18 = .ok (.if_icmp .ge 67, 3) := by decide +kernel
theorem dX0_prepare_21 : decode cX0_prepare 21 = .ok (.aload_n 0, 1) := by decide +kernel
theorem dX0_prepare_22 : decode cX0_prepare 22 = .ok (.getfield 15, 3) := by decide +kernel
theorem dX0_prepare_25 : decode cX0_prepare 25 = .ok (.iload_n 1, 1) := by decide +kernel
theorem dX0_prepare_26 : decode cX0_prepare 26 = .ok (.iconst 0, 1) := by decide +kernel
theorem dX0_prepare_27 : decode cX0_prepare 27 = .ok (.iastore, 1) := by decide +kernel
theorem dX0_prepare_28 : decode cX0_prepare 28 = .ok (.iconst 0, 1) := by decide +kernel
theorem dX0_prepare_29 : decode cX0_prepare 29 = .ok (.istore_n 2, 1) := by decide +kernel
theorem dX0_prepare_30 : decode cX0_prepare 30 = .ok (.iload_n 2, 1) := by decide +kernel
theorem dX0_prepare_31 : decode cX0_prepare 31 = .ok (.aload_n 0, 1) := by decide +kernel
theorem dX0_prepare_32 : decode cX0_prepare 32 = .ok (.getfield 9, 3) := by decide +kernel
theorem dX0_prepare_35 : decode cX0_prepare 35 = .ok (.getfield 34, 3) := by decide +kernel
theorem dX0_prepare_38 : decode cX0_prepare 38 = .ok (.if_icmp .ge 41, 3) := by decide +kernel
theorem dX0_prepare_41 : decode cX0_prepare 41 = .ok (.aload_n 0, 1) := by decide +kernel
theorem dX0_prepare_42 : decode cX0_prepare 42 = .ok (.getfield 15, 3) := by decide +kernel
theorem dX0_prepare_45 : decode cX0_prepare 45 = .ok (.iload_n 1, 1) := by decide +kernel
theorem dX0_prepare_46 : decode cX0_prepare 46 = .ok (.dup2, 1) := by decide +kernel
theorem dX0_prepare_47 : decode cX0_prepare 47 = .ok (.iaload, 1) := by decide +kernel
theorem dX0_prepare_48 : decode cX0_prepare 48 = .ok (.aload_n 0, 1) := by decide +kernel
theorem dX0_prepare_49 : decode cX0_prepare 49 = .ok (.getfield 9, 3) := by decide +kernel
theorem dX0_prepare_52 : decode cX0_prepare 52 = .ok (.getfield 37, 3) := by decide +kernel
theorem dX0_prepare_55 : decode cX0_prepare 55 = .ok (.iload_n 2, 1) := by decide +kernel
theorem dX0_prepare_56 : decode cX0_prepare 56 = .ok (.iaload, 1) := by decide +kernel
theorem dX0_prepare_57 : decode cX0_prepare 57 = .ok (.iload_n 1, 1) := by decide +kernel
theorem dX0_prepare_58 : decode cX0_prepare 58 = .ok (.invokestatic 40, 3) := by decide +kernel
theorem dX0_prepare_61 : decode cX0_prepare 61 = .ok (.ifCond .eq 9, 3) := by decide +kernel
theorem dX0_prepare_64 : decode cX0_prepare 64 = .ok (.iconst 1, 1) := by decide +kernel
theorem dX0_prepare_65 : decode cX0_prepare 65 = .ok (.iload_n 2, 1) := by decide +kernel
theorem dX0_prepare_66 : decode cX0_prepare 66 = .ok (.ishl, 1) := by decide +kernel
theorem dX0_prepare_67 : decode cX0_prepare 67 = .ok (.goto 4, 3) := by decide +kernel
theorem dX0_prepare_70 : decode cX0_prepare 70 = .ok (.iconst 0, 1) := by decide +kernel
theorem dX0_prepare_71 : decode cX0_prepare 71 = .ok (.ior, 1) := by decide +kernel
theorem dX0_prepare_72 : decode cX0_prepare 72 = .ok (.iastore, 1) := by decide +kernel
theorem dX0_prepare_73 : decode cX0_prepare 73 = .ok (.iinc 2 1, 3) := by decide +kernel
theorem dX0_prepare_76 : decode cX0_prepare 76 = .ok (.goto (-46), 3) := by decide +kernel
theorem dX0_prepare_79 : decode cX0_prepare 79 = .ok (.iinc 1 1, 3) := by decide +kernel
theorem dX0_prepare_82 : decode cX0_prepare 82 = .ok (.goto (-72), 3) := by decide +kernel
theorem dX0_prepare_85 : decode cX0_prepare 85 = .ok (.return_, 1) := by decide +kernel
set_option maxRecDepth 20000 in
theorem ggX0_fewestAtWorst_X0_allHidden : GoodIn wsX0_fewestAtWorst wsX0_allHidden := sw_good (sw_cons (t1_ (al_ (al_ (al_ (t4_ h1_))))) (sw_app (sw_app (sw_cons (t1_ (al_ (al_ (al_ (t4_ (t1_ h1_)))))) (sw_cons (t1_ (al_ (al_ (al_ (t4_ (t1_ (t1_ h1_))))))) (sw_cons (t1_ (al_ (al_ (al_ (t4_ (t1_ (t1_ (t1_ h1_)))))))) (sw_cons (t1_ (al_ (al_ (al_ (t4_ (t4_ h1_)))))) (sw_cons (t1_ (al_ (al_ (al_ (t4_ (t4_ (t1_ h1_))))))) (sw_cons (t1_ (al_ (al_ (al_ (t4_ (t4_ (t1_ (t1_ h1_)))))))) sw_nil)))))) (fun _ h => (t1_ (al_ (ar_ h))))) (fun _ h => (t1_ (ar_ h))))) (by decide +kernel)
set_option maxRecDepth 20000 in
theorem gX0_fewestAtWorst_X0_allHidden : GoodIn wsX0_fewestAtWorst (wsV RX0 44 RX0 yX0_allHidden wsX0_allHidden) := goodIn_app (sw_good (sw_cons (t1_ (al_ (al_ (al_ h1_)))) (sw_cons (t1_ (al_ (al_ (al_ (t1_ h1_))))) (sw_cons (t1_ (al_ (al_ (al_ (t1_ (t1_ h1_)))))) (sw_cons (t1_ (al_ (al_ (al_ (t1_ (t1_ (t1_ h1_))))))) sw_nil)))) (by decide +kernel)) ggX0_fewestAtWorst_X0_allHidden
set_option maxRecDepth 20000 in
theorem ggX0_fewestAtWorst_X0_fewestFor : GoodIn wsX0_fewestAtWorst wsX0_fewestFor := sw_good (sw_cons (t1_ (al_ (al_ (al_ (t4_ (t4_ (t4_ (t1_ (t1_ h1_))))))))) (sw_app (sw_app (sw_app (sw_cons (t1_ (al_ (al_ (al_ (t4_ (t4_ (t4_ (t1_ (t1_ (t1_ h1_)))))))))) (sw_cons (t1_ (al_ (al_ (al_ (t4_ (t1_ h1_)))))) (sw_cons (t1_ (al_ (al_ (al_ (t16_ h1_))))) (sw_cons (t1_ (al_ (al_ (al_ (t4_ (t1_ (t1_ (t1_ h1_)))))))) (sw_cons (t1_ (al_ (al_ (al_ (t4_ (t4_ h1_)))))) (sw_cons (t1_ (al_ (al_ (al_ (t4_ (t4_ (t1_ h1_))))))) (sw_cons (t1_ (al_ (al_ (al_ (t4_ (t4_ (t1_ (t1_ h1_)))))))) (sw_cons (t1_ (al_ (al_ (al_ (t16_ (t1_ h1_)))))) (sw_cons (t1_ (al_ (al_ (al_ (t16_ (t1_ (t1_ h1_))))))) (sw_cons (t1_ (al_ (al_ (al_ (t16_ (t1_ (t1_ (t1_ h1_)))))))) (sw_cons (t1_ (al_ (al_ (al_ (t16_ (t4_ h1_)))))) (sw_cons (t1_ (al_ (al_ (al_ (t16_ (t4_ (t1_ h1_))))))) (sw_cons (t1_ (al_ (al_ (al_ (t16_ (t4_ (t1_ (t1_ h1_)))))))) (sw_cons (t1_ (al_ (al_ (al_ (t16_ (t4_ (t1_ (t1_ (t1_ h1_))))))))) (sw_cons (t1_ (al_ (al_ (ar_ h1_)))) (sw_cons (t1_ (al_ (al_ (ar_ (t1_ h1_))))) (sw_cons (t1_ (al_ (al_ (al_ (t1_ (t1_ (t1_ h1_))))))) (sw_cons (t1_ (al_ (al_ (ar_ (t1_ (t1_ h1_)))))) (sw_cons (t1_ (al_ (al_ (ar_ (t1_ (t1_ (t1_ h1_))))))) (sw_cons (t1_ (al_ (al_ (ar_ (t4_ h1_))))) (sw_cons (t1_ (al_ (al_ (ar_ (t4_ (t1_ h1_)))))) (sw_cons (t1_ (al_ (al_ (ar_ (t4_ (t1_ (t1_ h1_))))))) (sw_cons (t1_ (al_ (al_ (ar_ (t4_ (t1_ (t1_ (t1_ h1_)))))))) (sw_cons (t1_ (al_ (al_ (ar_ (t4_ (t4_ h1_)))))) sw_nil)))))))))))))))))))))))) (sw_cons (t1_ (al_ (al_ (ar_ (t4_ (t4_ (t1_ h1_))))))) (sw_cons (t1_ (al_ (al_ (ar_ (t4_ (t4_ (t1_ (t1_ h1_)))))))) (sw_cons (t1_ (al_ (al_ (ar_ (t4_ (t4_ (t1_ (t1_ (t1_ h1_))))))))) (sw_cons (t1_ (al_ (al_ (ar_ (t4_ (t4_ (t4_ h1_))))))) (sw_cons (t1_ (al_ (al_ (ar_ (t4_ (t4_ (t4_ (t1_ h1_)))))))) (sw_cons (t1_ (al_ (al_ (ar_ (t4_ (t4_ (t4_ (t1_ (t1_ h1_))))))))) (sw_cons (t1_ (al_ (al_ (al_ (t4_ (t4_ (t1_ (t1_ (t1_ h1_))))))))) (sw_cons (t1_ (al_ (al_ (al_ (t4_ (t4_ (t4_ h1_))))))) (sw_cons (t1_ (al_ (al_ (al_ (t4_ (t4_ (t4_ (t1_ h1_)))))))) sw_nil)))))))))) (fun _ h => (t1_ (al_ (ar_ h))))) (fun _ h => (t1_ (ar_ h))))) (by decide +kernel)
set_option maxRecDepth 20000 in
theorem gX0_fewestAtWorst_X0_fewestFor : GoodIn wsX0_fewestAtWorst (wsV RX0 48 RX0 yX0_fewestFor wsX0_fewestFor) := goodIn_app (sw_good (sw_cons (t1_ (al_ (al_ (al_ (t4_ (t4_ (t1_ (t1_ (t1_ h1_))))))))) (sw_cons (t1_ (al_ (al_ (al_ (t4_ (t4_ (t4_ h1_))))))) (sw_cons (t1_ (al_ (al_ (al_ (t4_ (t4_ (t4_ (t1_ h1_)))))))) (sw_cons (t1_ (al_ (al_ (al_ (t1_ (t1_ (t1_ h1_))))))) sw_nil)))) (by decide +kernel)) ggX0_fewestAtWorst_X0_fewestFor
theorem dX0_fewestAtWorst_0 : decode cX0_fewestAtWorst 0 = .ok (.aload_n 0, 1) := by decide +kernel
theorem dX0_fewestAtWorst_1 : decode cX0_fewestAtWorst 1 = .ok (.aload_n 0, 1) := by decide +kernel
theorem dX0_fewestAtWorst_2 : decode cX0_fewestAtWorst 2 = .ok (.invokevirtual 44, 3) := by decide +kernel
theorem dX0_fewestAtWorst_5 : decode cX0_fewestAtWorst 5 = .ok (.bipush 12, 2) := by decide +kernel
theorem dX0_fewestAtWorst_7 : decode cX0_fewestAtWorst 7 = .ok (.invokevirtual 48, 3) := by decide +kernel
theorem dX0_fewestAtWorst_10 : decode cX0_fewestAtWorst 10 = .ok (.ireturn, 1) := by decide +kernel
set_option maxRecDepth 20000 in
theorem ggX0_firstToAsk_X0_allHidden : GoodIn wsX0_firstToAsk wsX0_allHidden := sw_good (sw_cons (t1_ (al_ (al_ (al_ (t4_ (t1_ (t1_ h1_))))))) (sw_app (sw_app (sw_cons (t1_ (al_ (al_ (al_ h1_)))) (sw_cons (t1_ (al_ (al_ (al_ (t4_ (t1_ (t1_ (t1_ h1_)))))))) (sw_cons (t1_ (al_ (al_ (al_ (t4_ (t4_ h1_)))))) (sw_cons (t1_ (al_ (al_ (al_ (t4_ (t4_ (t1_ h1_))))))) (sw_cons (t1_ (al_ (al_ (al_ (t4_ (t4_ (t1_ (t1_ h1_)))))))) (sw_cons (t1_ (al_ (al_ (al_ (t4_ (t4_ (t1_ (t1_ (t1_ h1_))))))))) sw_nil)))))) (fun _ h => (t1_ (al_ (ar_ h))))) (fun _ h => (t1_ (ar_ h))))) (by decide +kernel)
set_option maxRecDepth 20000 in
theorem gX0_firstToAsk_X0_allHidden : GoodIn wsX0_firstToAsk (wsV RX0 44 RX0 yX0_allHidden wsX0_allHidden) := goodIn_app (sw_good (sw_cons (t1_ (al_ (al_ (al_ (t1_ (t1_ h1_)))))) (sw_cons (t1_ (al_ (al_ (al_ (t1_ (t1_ (t1_ h1_))))))) (sw_cons (t1_ (al_ (al_ (al_ (t4_ h1_))))) (sw_cons (t1_ (al_ (al_ (al_ (t4_ (t1_ h1_)))))) sw_nil)))) (by decide +kernel)) ggX0_firstToAsk_X0_allHidden
set_option maxRecDepth 20000 in
theorem ggX0_firstToAsk_X0_fewestFor : GoodIn wsX0_firstToAsk wsX0_fewestFor := sw_good (sw_cons (t1_ (al_ (al_ (al_ (t4_ (t4_ (t4_ (t1_ (t1_ (t1_ h1_)))))))))) (sw_app (sw_app (sw_app (sw_cons (t1_ (al_ (al_ (al_ (t16_ h1_))))) (sw_cons (t1_ (al_ (al_ (al_ h1_)))) (sw_cons (t1_ (al_ (al_ (al_ (t1_ h1_))))) (sw_cons (t1_ (al_ (al_ (al_ (t4_ (t4_ h1_)))))) (sw_cons (t1_ (al_ (al_ (al_ (t4_ (t4_ (t1_ h1_))))))) (sw_cons (t1_ (al_ (al_ (al_ (t4_ (t4_ (t1_ (t1_ h1_)))))))) (sw_cons (t1_ (al_ (al_ (al_ (t4_ (t4_ (t1_ (t1_ (t1_ h1_))))))))) (sw_cons (t1_ (al_ (al_ (al_ (t16_ (t1_ h1_)))))) (sw_cons (t1_ (al_ (al_ (al_ (t16_ (t1_ (t1_ h1_))))))) (sw_cons (t1_ (al_ (al_ (al_ (t16_ (t1_ (t1_ (t1_ h1_)))))))) (sw_cons (t1_ (al_ (al_ (al_ (t16_ (t4_ h1_)))))) (sw_cons (t1_ (al_ (al_ (al_ (t16_ (t4_ (t1_ h1_))))))) (sw_cons (t1_ (al_ (al_ (al_ (t16_ (t4_ (t1_ (t1_ h1_)))))))) (sw_cons (t1_ (al_ (al_ (al_ (t16_ (t4_ (t1_ (t1_ (t1_ h1_))))))))) (sw_cons (t1_ (al_ (al_ (ar_ h1_)))) (sw_cons (t1_ (al_ (al_ (ar_ (t1_ h1_))))) (sw_cons (t1_ (al_ (al_ (al_ (t4_ (t1_ h1_)))))) (sw_cons (t1_ (al_ (al_ (ar_ (t1_ (t1_ h1_)))))) (sw_cons (t1_ (al_ (al_ (ar_ (t1_ (t1_ (t1_ h1_))))))) (sw_cons (t1_ (al_ (al_ (ar_ (t4_ h1_))))) (sw_cons (t1_ (al_ (al_ (ar_ (t4_ (t1_ h1_)))))) (sw_cons (t1_ (al_ (al_ (ar_ (t4_ (t1_ (t1_ h1_))))))) (sw_cons (t1_ (al_ (al_ (ar_ (t4_ (t1_ (t1_ (t1_ h1_)))))))) (sw_cons (t1_ (al_ (al_ (ar_ (t4_ (t4_ h1_)))))) sw_nil)))))))))))))))))))))))) (sw_cons (t1_ (al_ (al_ (ar_ (t4_ (t4_ (t1_ h1_))))))) (sw_cons (t1_ (al_ (al_ (ar_ (t4_ (t4_ (t1_ (t1_ h1_)))))))) (sw_cons (t1_ (al_ (al_ (ar_ (t4_ (t4_ (t1_ (t1_ (t1_ h1_))))))))) (sw_cons (t1_ (al_ (al_ (ar_ (t4_ (t4_ (t4_ h1_))))))) (sw_cons (t1_ (al_ (al_ (ar_ (t4_ (t4_ (t4_ (t1_ h1_)))))))) (sw_cons (t1_ (al_ (al_ (ar_ (t4_ (t4_ (t4_ (t1_ (t1_ h1_))))))))) (sw_cons (t1_ (al_ (al_ (al_ (t4_ (t4_ (t4_ h1_))))))) (sw_cons (t1_ (al_ (al_ (al_ (t4_ (t4_ (t4_ (t1_ h1_)))))))) (sw_cons (t1_ (al_ (al_ (al_ (t4_ (t4_ (t4_ (t1_ (t1_ h1_))))))))) sw_nil)))))))))) (fun _ h => (t1_ (al_ (ar_ h))))) (fun _ h => (t1_ (ar_ h))))) (by decide +kernel)
set_option maxRecDepth 20000 in
theorem gX0_firstToAsk_X0_fewestFor : GoodIn wsX0_firstToAsk (wsV RX0 48 RX0 yX0_fewestFor wsX0_fewestFor) := goodIn_app (sw_good (sw_cons (t1_ (al_ (al_ (al_ (t4_ (t4_ (t4_ h1_))))))) (sw_cons (t1_ (al_ (al_ (al_ (t4_ (t4_ (t4_ (t1_ h1_)))))))) (sw_cons (t1_ (al_ (al_ (al_ (t4_ (t4_ (t4_ (t1_ (t1_ h1_))))))))) (sw_cons (t1_ (al_ (al_ (al_ (t4_ (t1_ h1_)))))) sw_nil)))) (by decide +kernel)) ggX0_firstToAsk_X0_fewestFor
set_option maxRecDepth 20000 in
theorem ggX0_firstToAsk_X0_splits : GoodIn wsX0_firstToAsk wsX0_splits := sw_good (sw_cons (t1_ (al_ (al_ (ar_ (t4_ (t1_ (t1_ h1_))))))) (sw_app (sw_cons (t1_ (al_ (al_ (ar_ (t4_ (t1_ (t1_ (t1_ h1_)))))))) sw_nil) (fun _ h => (t1_ (al_ (ar_ h)))))) (by decide +kernel)
set_option maxRecDepth 20000 in
theorem gX0_firstToAsk_X0_splits : GoodIn wsX0_firstToAsk (wsV RX0 52 RX0 yX0_splits wsX0_splits) := goodIn_app (sw_good (sw_cons (t1_ (al_ (al_ (ar_ (t1_ (t1_ (t1_ h1_))))))) (sw_cons (t1_ (al_ (al_ (ar_ (t4_ h1_))))) (sw_cons (t1_ (al_ (al_ (ar_ (t4_ (t1_ h1_)))))) (sw_cons (t1_ (al_ (al_ (al_ (t4_ (t1_ h1_)))))) sw_nil)))) (by decide +kernel)) ggX0_firstToAsk_X0_splits
set_option maxRecDepth 20000 in
theorem ggX0_firstToAsk_X0_fewestBy : GoodIn wsX0_firstToAsk wsX0_fewestBy := sw_good (sw_cons (t1_ (al_ (al_ (ar_ (t4_ (t4_ (t1_ (t1_ (t1_ h1_))))))))) (sw_app (sw_app (sw_app (sw_cons (t1_ (al_ (al_ (ar_ (t4_ (t1_ (t1_ (t1_ h1_)))))))) (sw_cons (t1_ (al_ (al_ (ar_ (t4_ (t4_ (t4_ h1_))))))) (sw_cons (t1_ (al_ (al_ (ar_ (t4_ (t4_ (t4_ (t1_ h1_)))))))) (sw_cons (t1_ (al_ (al_ (al_ (t4_ (t4_ (t1_ (t1_ h1_)))))))) (sw_cons (t1_ (al_ (al_ (ar_ (t4_ (t4_ (t4_ (t1_ (t1_ h1_))))))))) (sw_cons (t1_ (al_ (al_ (al_ (t4_ (t4_ (t4_ h1_))))))) (sw_cons (t1_ (al_ (al_ (al_ (t4_ (t4_ (t4_ (t1_ h1_)))))))) (sw_cons (t1_ (al_ (al_ (al_ (t4_ (t4_ (t4_ (t1_ (t1_ h1_))))))))) (sw_cons (t1_ (al_ (al_ (al_ (t4_ (t1_ h1_)))))) (sw_cons (t1_ (al_ (al_ (al_ (t4_ (t4_ (t4_ (t1_ (t1_ (t1_ h1_)))))))))) (sw_cons (t1_ (al_ (al_ (al_ (t16_ h1_))))) (sw_cons (t1_ (al_ (al_ (al_ h1_)))) (sw_cons (t1_ (al_ (al_ (al_ (t1_ h1_))))) (sw_cons (t1_ (al_ (al_ (al_ (t4_ (t4_ h1_)))))) (sw_cons (t1_ (al_ (al_ (al_ (t4_ (t4_ (t1_ h1_))))))) (sw_cons (t1_ (al_ (al_ (al_ (t4_ (t4_ (t1_ (t1_ (t1_ h1_))))))))) (sw_cons (t1_ (al_ (al_ (al_ (t16_ (t1_ h1_)))))) (sw_cons (t1_ (al_ (al_ (al_ (t16_ (t1_ (t1_ h1_))))))) (sw_cons (t1_ (al_ (al_ (al_ (t16_ (t1_ (t1_ (t1_ h1_)))))))) (sw_cons (t1_ (al_ (al_ (al_ (t16_ (t4_ h1_)))))) (sw_cons (t1_ (al_ (al_ (al_ (t16_ (t4_ (t1_ h1_))))))) (sw_cons (t1_ (al_ (al_ (al_ (t16_ (t4_ (t1_ (t1_ h1_)))))))) (sw_cons (t1_ (al_ (al_ (al_ (t16_ (t4_ (t1_ (t1_ (t1_ h1_))))))))) (sw_cons (t1_ (al_ (al_ (ar_ h1_)))) sw_nil)))))))))))))))))))))))) (sw_cons (t1_ (al_ (al_ (ar_ (t1_ h1_))))) (sw_cons (t1_ (al_ (al_ (ar_ (t1_ (t1_ h1_)))))) (sw_cons (t1_ (al_ (al_ (ar_ (t1_ (t1_ (t1_ h1_))))))) (sw_cons (t1_ (al_ (al_ (ar_ (t4_ h1_))))) (sw_cons (t1_ (al_ (al_ (ar_ (t4_ (t1_ h1_)))))) (sw_cons (t1_ (al_ (al_ (ar_ (t4_ (t1_ (t1_ h1_))))))) (sw_cons (t1_ (al_ (al_ (ar_ (t4_ (t4_ h1_)))))) (sw_cons (t1_ (al_ (al_ (ar_ (t4_ (t4_ (t1_ h1_))))))) (sw_cons (t1_ (al_ (al_ (ar_ (t4_ (t4_ (t1_ (t1_ h1_)))))))) sw_nil)))))))))) (fun _ h => (t1_ (al_ (ar_ h))))) (fun _ h => (t1_ (ar_ h))))) (by decide +kernel)
set_option maxRecDepth 20000 in
theorem gX0_firstToAsk_X0_fewestBy : GoodIn wsX0_firstToAsk (wsV RX0 55 RX0 yX0_fewestBy wsX0_fewestBy) := goodIn_app (sw_good (sw_cons (t1_ (al_ (al_ (ar_ (t4_ (t4_ h1_)))))) (sw_cons (t1_ (al_ (al_ (ar_ (t4_ (t4_ (t1_ h1_))))))) (sw_cons (t1_ (al_ (al_ (ar_ (t4_ (t4_ (t1_ (t1_ h1_)))))))) (sw_cons (t1_ (al_ (al_ (al_ (t4_ (t1_ h1_)))))) sw_nil)))) (by decide +kernel)) ggX0_firstToAsk_X0_fewestBy
theorem dX0_firstToAsk_0 : decode cX0_firstToAsk 0 = .ok (.aload_n 0, 1) := by decide +kernel
theorem dX0_firstToAsk_1 : decode cX0_firstToAsk 1 = .ok (.invokevirtual 44, 3) := by decide +kernel
theorem dX0_firstToAsk_4 : decode cX0_firstToAsk 4 = .ok (.istore_n 1, 1) := by decide +kernel
theorem dX0_firstToAsk_5 : decode cX0_firstToAsk 5 = .ok (.aload_n 0, 1) := by decide +kernel
theorem dX0_firstToAsk_6 : decode cX0_firstToAsk 6 = .ok (.iload_n 1, 1) := by decide +kernel
theorem dX0_firstToAsk_7 : decode cX0_firstToAsk 7 = .ok (.bipush 12, 2) := by decide +kernel
theorem dX0_firstToAsk_9 : decode cX0_firstToAsk 9 = .ok (.invokevirtual 48, 3) := by decide +kernel
theorem dX0_firstToAsk_12 : decode cX0_firstToAsk 12 = .ok (.istore_n 2, 1) := by decide +kernel
theorem dX0_firstToAsk_13 : decode cX0_firstToAsk 13 = .ok (.iconst 0, 1) := by decide +kernel
theorem dX0_firstToAsk_14 : decode cX0_firstToAsk 14 = .ok (.istore_n 3, 1) := by decide +kernel
theorem dX0_firstToAsk_15 : decode cX0_firstToAsk 15 = .ok (.iload_n 3, 1) := by decide +kernel
theorem dX0_firstToAsk_16 : decode cX0_firstToAsk 16 = .ok (.aload_n 0, 1) := by decide +kernel
theorem dX0_firstToAsk_17 : decode cX0_firstToAsk 17 = .ok (.getfield 9, 3) := by decide +kernel
theorem dX0_firstToAsk_20 : decode cX0_firstToAsk 20 = .ok (.getfield 28, 3) := by decide +kernel
theorem dX0_firstToAsk_23 : decode cX0_firstToAsk 23 = .ok (.if_icmp .ge 36, 3) := by decide +kernel
theorem dX0_firstToAsk_26 : decode cX0_firstToAsk 26 = .ok (.iload_n 2, 1) := by decide +kernel
theorem dX0_firstToAsk_27 : decode cX0_firstToAsk 27 = .ok (.ifCond .le 32, 3) := by decide +kernel
theorem dX0_firstToAsk_30 : decode cX0_firstToAsk 30 = .ok (.aload_n 0, 1) := by decide +kernel
theorem dX0_firstToAsk_31 : decode cX0_firstToAsk 31 = .ok (.iload_n 3, 1) := by decide +kernel
theorem dX0_firstToAsk_32 : decode cX0_firstToAsk 32 = .ok (.iload_n 1, 1) := by decide +kernel
theorem dX0_firstToAsk_33 : decode cX0_firstToAsk 33 = .ok (.invokevirtual 52, 3) := by decide +kernel
theorem dX0_firstToAsk_36 : decode cX0_firstToAsk 36 = .ok (.ifCond .eq 17, 3) := by decide +kernel
theorem dX0_firstToAsk_39 : decode cX0_firstToAsk 39 = .ok (.aload_n 0, 1) := by decide +kernel
theorem dX0_firstToAsk_40 : decode cX0_firstToAsk 40 = .ok (.iload_n 3, 1) := by decide +kernel
theorem dX0_firstToAsk_41 : decode cX0_firstToAsk 41 = .ok (.iload_n 1, 1) := by decide +kernel
theorem dX0_firstToAsk_42 : decode cX0_firstToAsk 42 = .ok (.bipush 12, 2) := by decide +kernel
theorem dX0_firstToAsk_44 : decode cX0_firstToAsk 44 = .ok (.invokevirtual 55, 3) := by decide +kernel
theorem dX0_firstToAsk_47 : decode cX0_firstToAsk 47 = .ok (.iload_n 2, 1) := by decide +kernel
theorem dX0_firstToAsk_48 : decode cX0_firstToAsk 48 = .ok (.if_icmp .ne 5, 3) := by decide +kernel
theorem dX0_firstToAsk_51 : decode cX0_firstToAsk 51 = .ok (.iload_n 3, 1) := by decide +kernel
theorem dX0_firstToAsk_52 : decode cX0_firstToAsk 52 = .ok (.ireturn, 1) := by decide +kernel
theorem dX0_firstToAsk_53 : decode cX0_firstToAsk 53 = .ok (.iinc 3 1, 3) := by decide +kernel
theorem dX0_firstToAsk_56 : decode cX0_firstToAsk 56 = .ok (.goto (-41), 3) := by decide +kernel
theorem dX0_firstToAsk_59 : decode cX0_firstToAsk 59 = .ok (.iconst (-1), 1) := by decide +kernel
theorem dX0_firstToAsk_60 : decode cX0_firstToAsk 60 = .ok (.ireturn, 1) := by decide +kernel
theorem dX0_allHidden_0 : decode cX0_allHidden 0 = .ok (.iconst 1, 1) := by decide +kernel
theorem dX0_allHidden_1 : decode cX0_allHidden 1 = .ok (.aload_n 0, 1) := by decide +kernel
theorem dX0_allHidden_2 : decode cX0_allHidden 2 = .ok (.getfield 9, 3) := by decide +kernel
theorem dX0_allHidden_5 : decode cX0_allHidden 5 = .ok (.getfield 34, 3) := by decide +kernel
theorem dX0_allHidden_8 : decode cX0_allHidden 8 = .ok (.bipush 12, 2) := by decide +kernel
theorem dX0_allHidden_10 : decode cX0_allHidden 10 = .ok (.invokestatic 59, 3) := by decide +kernel
theorem dX0_allHidden_13 : decode cX0_allHidden 13 = .ok (.ishl, 1) := by decide +kernel
theorem dX0_allHidden_14 : decode cX0_allHidden 14 = .ok (.iconst 1, 1) := by decide +kernel
theorem dX0_allHidden_15 : decode cX0_allHidden 15 = .ok (.isub, 1) := by decide +kernel
theorem dX0_allHidden_16 : decode cX0_allHidden 16 = .ok (.ireturn, 1) := by decide +kernel
theorem dX0_splits_0 : decode cX0_splits 0 = .ok (.iload_n 2, 1) := by decide +kernel
theorem dX0_splits_1 : decode cX0_splits 1 = .ok (.aload_n 0, 1) := by decide +kernel
theorem dX0_splits_2 : decode cX0_splits 2 = .ok (.getfield 15, 3) := by decide +kernel
theorem dX0_splits_5 : decode cX0_splits 5 = .ok (.iload_n 1, 1) := by decide +kernel
theorem dX0_splits_6 : decode cX0_splits 6 = .ok (.iaload, 1) := by decide +kernel
theorem dX0_splits_7 : decode cX0_splits 7 = .ok (.iand, 1) := by decide +kernel
theorem dX0_splits_8 : decode cX0_splits 8 = .ok (.istore_n 3, 1) := by decide +kernel
theorem dX0_splits_9 : decode cX0_splits 9 = .ok (.iload_n 3, 1) := by decide +kernel
theorem dX0_splits_10 : decode cX0_splits 10 = .ok (.ifCond .eq 12, 3) := by decide +kernel
theorem dX0_splits_13 : decode cX0_splits 13 = .ok (.iload_n 3, 1) := by decide +kernel
theorem dX0_splits_14 : decode cX0_splits 14 = .ok (.iload_n 2, 1) := by decide +kernel
theorem dX0_splits_15 : decode cX0_splits 15 = .ok (.if_icmp .eq 7, 3) := by decide +kernel
theorem dX0_splits_18 : decode cX0_splits 18 = .ok (.iconst 1, 1) := by decide +kernel
theorem dX0_splits_19 : decode cX0_splits 19 = .ok (.goto 4, 3) := by decide +kernel
theorem dX0_splits_22 : decode cX0_splits 22 = .ok (.iconst 0, 1) := by decide +kernel
theorem dX0_splits_23 : decode cX0_splits 23 = .ok (.ireturn, 1) := by decide +kernel
set_option maxRecDepth 20000 in
theorem ggX0_fewestBy_X0_fewestFor : GoodIn wsX0_fewestBy wsX0_fewestFor := sw_good (sw_cons (t1_ (al_ (al_ (al_ (t4_ (t4_ (t1_ h1_))))))) (sw_app (sw_app (sw_app (sw_cons (t1_ (al_ (al_ (al_ (t4_ (t4_ (t1_ (t1_ h1_)))))))) (sw_cons (t1_ (al_ (al_ (al_ (t4_ (t4_ (t1_ (t1_ (t1_ h1_))))))))) (sw_cons (t1_ (al_ (al_ (al_ (t4_ (t4_ (t4_ h1_))))))) (sw_cons (t1_ (al_ (al_ (al_ (t4_ (t4_ (t4_ (t1_ h1_)))))))) (sw_cons (t1_ (al_ (al_ (al_ (t4_ (t4_ (t4_ (t1_ (t1_ h1_))))))))) (sw_cons (t1_ (al_ (al_ (al_ (t1_ (t1_ (t1_ h1_))))))) (sw_cons (t1_ (al_ (al_ (al_ (t4_ (t4_ (t4_ (t1_ (t1_ (t1_ h1_)))))))))) (sw_cons (t1_ (al_ (al_ (al_ (t16_ h1_))))) (sw_cons (t1_ (al_ (al_ (al_ (t16_ (t1_ h1_)))))) (sw_cons (t1_ (al_ (al_ (al_ (t16_ (t1_ (t1_ h1_))))))) (sw_cons (t1_ (al_ (al_ (al_ (t16_ (t1_ (t1_ (t1_ h1_)))))))) (sw_cons (t1_ (al_ (al_ (al_ (t16_ (t4_ h1_)))))) (sw_cons (t1_ (al_ (al_ (al_ (t16_ (t4_ (t1_ h1_))))))) (sw_cons (t1_ (al_ (al_ (al_ (t16_ (t4_ (t1_ (t1_ h1_)))))))) (sw_cons (t1_ (al_ (al_ (al_ (t16_ (t4_ (t1_ (t1_ (t1_ h1_))))))))) (sw_cons (t1_ (al_ (al_ (ar_ h1_)))) (sw_cons (t1_ (al_ (al_ (al_ (t4_ (t4_ h1_)))))) (sw_cons (t1_ (al_ (al_ (ar_ (t1_ h1_))))) (sw_cons (t1_ (al_ (al_ (ar_ (t1_ (t1_ h1_)))))) (sw_cons (t1_ (al_ (al_ (ar_ (t1_ (t1_ (t1_ h1_))))))) (sw_cons (t1_ (al_ (al_ (ar_ (t4_ h1_))))) (sw_cons (t1_ (al_ (al_ (ar_ (t4_ (t1_ h1_)))))) (sw_cons (t1_ (al_ (al_ (al_ h1_)))) (sw_cons (t1_ (al_ (al_ (ar_ (t4_ (t1_ (t1_ h1_))))))) sw_nil)))))))))))))))))))))))) (sw_cons (t1_ (al_ (al_ (ar_ (t4_ (t1_ (t1_ (t1_ h1_)))))))) (sw_cons (t1_ (al_ (al_ (ar_ (t4_ (t4_ h1_)))))) (sw_cons h1_ (sw_cons (t1_ (al_ (al_ (al_ (t1_ h1_))))) (sw_cons (t1_ (al_ (al_ (al_ (t1_ (t1_ h1_)))))) (sw_cons (t1_ (al_ (al_ (al_ (t4_ h1_))))) (sw_cons (t1_ (al_ (al_ (al_ (t4_ (t1_ h1_)))))) (sw_cons (t1_ (al_ (al_ (al_ (t4_ (t1_ (t1_ h1_))))))) (sw_cons (t1_ (al_ (al_ (al_ (t4_ (t1_ (t1_ (t1_ h1_)))))))) sw_nil)))))))))) (fun _ h => (t1_ (al_ (ar_ h))))) (fun _ h => (t1_ (ar_ h))))) (by decide +kernel)
set_option maxRecDepth 20000 in
theorem gX0_fewestBy_X0_fewestFor : GoodIn wsX0_fewestBy (wsV RX0 48 RX0 yX0_fewestFor wsX0_fewestFor) := goodIn_app (sw_good (sw_cons (t1_ (al_ (al_ (al_ (t4_ (t1_ h1_)))))) (sw_cons (t1_ (al_ (al_ (al_ (t4_ (t1_ (t1_ h1_))))))) (sw_cons (t1_ (al_ (al_ (al_ (t4_ (t1_ (t1_ (t1_ h1_)))))))) (sw_cons (t1_ (al_ (al_ (al_ (t4_ (t4_ h1_)))))) sw_nil)))) (by decide +kernel)) ggX0_fewestBy_X0_fewestFor
theorem dX0_fewestBy_0 : decode cX0_fewestBy 0 = .ok (.aload_n 0, 1) := by decide +kernel
theorem dX0_fewestBy_1 : decode cX0_fewestBy 1 = .ok (.iload_n 2, 1) := by decide +kernel
theorem dX0_fewestBy_2 : decode cX0_fewestBy 2 = .ok (.aload_n 0, 1) := by decide +kernel
theorem dX0_fewestBy_3 : decode cX0_fewestBy 3 = .ok (.getfield 15, 3) := by decide +kernel
theorem dX0_fewestBy_6 : decode cX0_fewestBy 6 = .ok (.iload_n 1, 1) := by decide +kernel
theorem dX0_fewestBy_7 : decode cX0_fewestBy 7 = .ok (.iaload, 1) := by decide +kernel
theorem dX0_fewestBy_8 : decode cX0_fewestBy 8 = .ok (.iand, 1) := by decide +kernel
theorem dX0_fewestBy_9 : decode cX0_fewestBy 9 = .ok (.iload_n 3, 1) := by decide +kernel
theorem dX0_fewestBy_10 : decode cX0_fewestBy 10 = .ok (.iconst 1, 1) := by decide +kernel
theorem dX0_fewestBy_11 : decode cX0_fewestBy 11 = .ok (.isub, 1) := by decide +kernel
theorem dX0_fewestBy_12 : decode cX0_fewestBy 12 = .ok (.invokevirtual 48, 3) := by decide +kernel
theorem dX0_fewestBy_15 : decode cX0_fewestBy 15 = .ok (.istore 4, 2) := by decide +kernel
theorem dX0_fewestBy_17 : decode cX0_fewestBy 17 = .ok (.aload_n 0, 1) := by decide +kernel
theorem dX0_fewestBy_18 : decode cX0_fewestBy 18 = .ok (.iload_n 2, 1) := by decide +kernel
theorem dX0_fewestBy_19 : decode cX0_fewestBy 19 = .ok (.aload_n 0, 1) := by decide +kernel
theorem dX0_fewestBy_20 : decode cX0_fewestBy 20 = .ok (.getfield 15, 3) := by decide +kernel
theorem dX0_fewestBy_23 : decode cX0_fewestBy 23 = .ok (.iload_n 1, 1) := by decide +kernel
theorem dX0_fewestBy_24 : decode cX0_fewestBy 24 = .ok (.iaload, 1) := by decide +kernel
theorem dX0_fewestBy_25 : decode cX0_fewestBy 25 = .ok (.iconst (-1), 1) := by decide +kernel
theorem dX0_fewestBy_26 : decode cX0_fewestBy 26 = .ok (.ixor, 1) := by decide +kernel
theorem dX0_fewestBy_27 : decode cX0_fewestBy 27 = .ok (.iand, 1) := by decide +kernel
theorem dX0_fewestBy_28 : decode cX0_fewestBy 28 = .ok (.iload_n 3, 1) := by decide +kernel
theorem dX0_fewestBy_29 : decode cX0_fewestBy 29 = .ok (.iconst 1, 1) := by decide +kernel
theorem dX0_fewestBy_30 : decode cX0_fewestBy 30 = .ok (.isub, 1) := by decide +kernel
theorem dX0_fewestBy_31 : decode cX0_fewestBy 31 = .ok (.invokevirtual 48, 3) := by decide +kernel
theorem dX0_fewestBy_34 : decode cX0_fewestBy 34 = .ok (.istore 5, 2) := by decide +kernel
theorem dX0_fewestBy_36 : decode cX0_fewestBy 36 = .ok (.iconst 1, 1) := by decide +kernel
theorem dX0_fewestBy_37 : decode cX0_fewestBy 37 = .ok (.iload 4, 2) := by decide +kernel
theorem dX0_fewestBy_39 : decode cX0_fewestBy 39 = .ok (.iload 5, 2) := by decide +kernel
theorem dX0_fewestBy_41 : decode cX0_fewestBy 41 = .ok (.invokestatic 64, 3) := by decide +kernel
theorem dX0_fewestBy_44 : decode cX0_fewestBy 44 = .ok (.iadd, 1) := by decide +kernel
theorem dX0_fewestBy_45 : decode cX0_fewestBy 45 = .ok (.ireturn, 1) := by decide +kernel
set_option maxRecDepth 20000 in
theorem ggX0_fewestFor_J6_bitCount_0f7a4 : GoodIn wsX0_fewestFor wsJ6_bitCount_0f7a4 := sw_good (sw_cons (t1_ (al_ (al_ (al_ (t4_ (t4_ (t1_ (t1_ h1_)))))))) (sw_cons (t1_ (al_ (al_ (al_ (t4_ (t4_ (t1_ (t1_ (t1_ h1_))))))))) (sw_cons (t1_ (al_ (al_ (al_ (t4_ (t4_ (t4_ h1_))))))) (sw_cons (t1_ (al_ (al_ (al_ (t4_ (t4_ (t4_ (t1_ h1_)))))))) sw_nil)))) (by decide +kernel)
set_option maxRecDepth 20000 in
theorem gX0_fewestFor_J6_bitCount_0f7a4 : GoodIn wsX0_fewestFor (va_wsS RX0 67 yJ6_bitCount_0f7a4 wsJ6_bitCount_0f7a4) := goodIn_app (sw_good (sw_cons (t1_ (al_ (al_ (al_ (t4_ (t1_ (t1_ (t1_ h1_)))))))) (sw_cons (t1_ (al_ (al_ (al_ (t4_ (t4_ h1_)))))) (sw_cons (t1_ (al_ (al_ (al_ (t4_ (t4_ (t1_ h1_))))))) sw_nil))) (by decide +kernel)) ggX0_fewestFor_J6_bitCount_0f7a4
set_option maxRecDepth 20000 in
theorem ggX0_fewestFor_X0_leastThinkable : GoodIn wsX0_fewestFor wsX0_leastThinkable := sw_good (sw_cons (t1_ (al_ (al_ (al_ (t16_ (t1_ h1_)))))) sw_nil) (by decide +kernel)
set_option maxRecDepth 20000 in
theorem gX0_fewestFor_X0_leastThinkable : GoodIn wsX0_fewestFor (va_wsS RX0 73 yX0_leastThinkable wsX0_leastThinkable) := goodIn_app (sw_good (sw_cons (t1_ (al_ (al_ (al_ (t4_ (t4_ (t4_ (t1_ (t1_ h1_))))))))) (sw_cons (t1_ (al_ (al_ (al_ (t4_ (t4_ (t4_ (t1_ (t1_ (t1_ h1_)))))))))) (sw_cons (t1_ (al_ (al_ (al_ (t16_ h1_))))) sw_nil))) (by decide +kernel)) ggX0_fewestFor_X0_leastThinkable
set_option maxRecDepth 20000 in
theorem ggX0_fewestFor_X0_splits : GoodIn wsX0_fewestFor wsX0_splits := sw_good (sw_cons (t1_ (al_ (al_ (al_ (t16_ (t4_ (t1_ h1_))))))) (sw_app (sw_cons (t1_ (al_ (al_ (al_ (t16_ (t4_ (t1_ (t1_ h1_)))))))) sw_nil) (fun _ h => (t1_ (al_ (ar_ h)))))) (by decide +kernel)
set_option maxRecDepth 20000 in
theorem gX0_fewestFor_X0_splits : GoodIn wsX0_fewestFor (wsV RX0 52 RX0 yX0_splits wsX0_splits) := goodIn_app (sw_good (sw_cons (t1_ (al_ (al_ (al_ (t16_ (t1_ (t1_ h1_))))))) (sw_cons (t1_ (al_ (al_ (al_ (t16_ (t1_ (t1_ (t1_ h1_)))))))) (sw_cons (t1_ (al_ (al_ (al_ (t16_ (t4_ h1_)))))) (sw_cons (t1_ (al_ (al_ (al_ (t16_ h1_))))) sw_nil)))) (by decide +kernel)) ggX0_fewestFor_X0_splits
set_option maxRecDepth 20000 in
theorem ggX0_fewestFor_X0_fewestBy : GoodIn wsX0_fewestFor wsX0_fewestBy := sw_good (sw_cons (t1_ (al_ (al_ (ar_ (t1_ (t1_ h1_)))))) (sw_app (sw_app (sw_app (sw_cons (t1_ (al_ (al_ (al_ (t16_ (t4_ (t1_ (t1_ h1_)))))))) (sw_cons (t1_ (al_ (al_ (ar_ (t1_ (t1_ (t1_ h1_))))))) (sw_cons (t1_ (al_ (al_ (ar_ (t4_ h1_))))) (sw_cons (t1_ (al_ (al_ (al_ (t4_ (t1_ h1_)))))) (sw_cons (t1_ (al_ (al_ (ar_ (t4_ (t1_ h1_)))))) (sw_cons (t1_ (al_ (al_ (ar_ (t4_ (t1_ (t1_ h1_))))))) (sw_cons (t1_ (al_ (al_ (ar_ (t4_ (t1_ (t1_ (t1_ h1_)))))))) (sw_cons (t1_ (al_ (al_ (ar_ (t4_ (t4_ h1_)))))) (sw_cons (t1_ (al_ (al_ (al_ (t16_ h1_))))) (sw_cons h1_ (sw_cons (t1_ (al_ (al_ (al_ h1_)))) (sw_cons (t1_ (al_ (al_ (al_ (t1_ h1_))))) (sw_cons (t1_ (al_ (al_ (al_ (t1_ (t1_ h1_)))))) (sw_cons (t1_ (al_ (al_ (al_ (t1_ (t1_ (t1_ h1_))))))) (sw_cons (t1_ (al_ (al_ (al_ (t4_ h1_))))) (sw_cons (t1_ (al_ (al_ (al_ (t4_ (t1_ (t1_ h1_))))))) (sw_cons (t1_ (al_ (al_ (al_ (t4_ (t1_ (t1_ (t1_ h1_)))))))) (sw_cons (t1_ (al_ (al_ (al_ (t4_ (t4_ h1_)))))) (sw_cons (t1_ (al_ (al_ (al_ (t4_ (t4_ (t1_ h1_))))))) (sw_cons (t1_ (al_ (al_ (al_ (t4_ (t4_ (t1_ (t1_ h1_)))))))) (sw_cons (t1_ (al_ (al_ (al_ (t4_ (t4_ (t1_ (t1_ (t1_ h1_))))))))) (sw_cons (t1_ (al_ (al_ (al_ (t4_ (t4_ (t4_ h1_))))))) (sw_cons (t1_ (al_ (al_ (al_ (t4_ (t4_ (t4_ (t1_ h1_)))))))) (sw_cons (t1_ (al_ (al_ (al_ (t4_ (t4_ (t4_ (t1_ (t1_ h1_))))))))) sw_nil)))))))))))))))))))))))) (sw_cons (t1_ (al_ (al_ (al_ (t4_ (t4_ (t4_ (t1_ (t1_ (t1_ h1_)))))))))) (sw_cons (t1_ (al_ (al_ (al_ (t16_ (t1_ h1_)))))) (sw_cons (t1_ (al_ (al_ (al_ (t16_ (t1_ (t1_ h1_))))))) (sw_cons (t1_ (al_ (al_ (al_ (t16_ (t1_ (t1_ (t1_ h1_)))))))) (sw_cons (t1_ (al_ (al_ (al_ (t16_ (t4_ h1_)))))) (sw_cons (t1_ (al_ (al_ (al_ (t16_ (t4_ (t1_ h1_))))))) (sw_cons (t1_ (al_ (al_ (al_ (t16_ (t4_ (t1_ (t1_ (t1_ h1_))))))))) (sw_cons (t1_ (al_ (al_ (ar_ h1_)))) (sw_cons (t1_ (al_ (al_ (ar_ (t1_ h1_))))) sw_nil)))))))))) (fun _ h => (t1_ (al_ (ar_ h))))) (fun _ h => (t1_ (ar_ h))))) (by decide +kernel)
set_option maxRecDepth 20000 in
theorem gX0_fewestFor_X0_fewestBy : GoodIn wsX0_fewestFor (wsV RX0 55 RX0 yX0_fewestBy wsX0_fewestBy) := goodIn_app (sw_good (sw_cons (t1_ (al_ (al_ (al_ (t16_ (t4_ (t1_ (t1_ (t1_ h1_))))))))) (sw_cons (t1_ (al_ (al_ (ar_ h1_)))) (sw_cons (t1_ (al_ (al_ (ar_ (t1_ h1_))))) (sw_cons (t1_ (al_ (al_ (al_ (t16_ h1_))))) sw_nil)))) (by decide +kernel)) ggX0_fewestFor_X0_fewestBy
theorem dX0_fewestFor_0 : decode cX0_fewestFor 0 = .ok (.iload_n 1, 1) := by decide +kernel
theorem dX0_fewestFor_1 : decode cX0_fewestFor 1 = .ok (.invokestatic 67, 3) := by decide +kernel
theorem dX0_fewestFor_4 : decode cX0_fewestFor 4 = .ok (.istore_n 3, 1) := by decide +kernel
theorem dX0_fewestFor_5 : decode cX0_fewestFor 5 = .ok (.iload_n 3, 1) := by decide +kernel
theorem dX0_fewestFor_6 : decode cX0_fewestFor 6 = .ok (.iconst 1, 1) := by decide +kernel
theorem dX0_fewestFor_7 : decode cX0_fewestFor 7 = .ok (.if_icmp .le 7, 3) := by decide +kernel
theorem dX0_fewestFor_10 : decode cX0_fewestFor 10 = .ok (.iload_n 2, 1) := by decide +kernel
theorem dX0_fewestFor_11 : decode cX0_fewestFor 11 = .ok (.ifCond .gt 5, 3) := by decide +kernel
theorem dX0_fewestFor_14 : decode cX0_fewestFor 14 = .ok (.iconst 0, 1) := by decide +kernel
theorem dX0_fewestFor_15 : decode cX0_fewestFor 15 = .ok (.ireturn, 1) := by decide +kernel
theorem dX0_fewestFor_16 : decode cX0_fewestFor 16 = .ok (.aload_n 0, 1) := by decide +kernel
theorem dX0_fewestFor_17 : decode cX0_fewestFor 17 = .ok (.getfield 19, 3) := by decide +kernel
theorem dX0_fewestFor_20 : decode cX0_fewestFor 20 = .ok (.iload_n 1, 1) := by decide +kernel
theorem dX0_fewestFor_21 : decode cX0_fewestFor 21 = .ok (.iaload, 1) := by decide +kernel
theorem dX0_fewestFor_22 : decode cX0_fewestFor 22 = .ok (.ifCond .eq 10, 3) := by decide +kernel
theorem dX0_fewestFor_25 : decode cX0_fewestFor 25 = .ok (.aload_n 0, 1) := by decide +kernel
theorem dX0_fewestFor_26 : decode cX0_fewestFor 26 = .ok (.getfield 19, 3) := by decide +kernel
theorem dX0_fewestFor_29 : decode cX0_fewestFor 29 = .ok (.iload_n 1, 1) := by decide +kernel
theorem dX0_fewestFor_30 : decode cX0_fewestFor 30 = .ok (.iaload, 1) := by decide +kernel
theorem dX0_fewestFor_31 : decode cX0_fewestFor 31 = .ok (.ireturn, 1) := by decide +kernel
theorem dX0_fewestFor_32 : decode cX0_fewestFor 32 = .ok (.iload_n 3, 1) := by decide +kernel
theorem dX0_fewestFor_33 : decode cX0_fewestFor 33 = .ok (.invokestatic 73, 3) := by decide +kernel
theorem dX0_fewestFor_36 : decode cX0_fewestFor 36 = .ok (.istore 4, 2) := by decide +kernel
theorem dX0_fewestFor_38 : decode cX0_fewestFor 38 = .ok (.iload_n 3, 1) := by decide +kernel
theorem dX0_fewestFor_39 : decode cX0_fewestFor 39 = .ok (.istore 5, 2) := by decide +kernel
theorem dX0_fewestFor_41 : decode cX0_fewestFor 41 = .ok (.iconst 0, 1) := by decide +kernel
theorem dX0_fewestFor_42 : decode cX0_fewestFor 42 = .ok (.istore 6, 2) := by decide +kernel
theorem dX0_fewestFor_44 : decode cX0_fewestFor 44 = .ok (.iload 6, 2) := by decide +kernel
theorem dX0_fewestFor_46 : decode cX0_fewestFor 46 = .ok (.aload_n 0, 1) := by decide +kernel
theorem dX0_fewestFor_47 : decode cX0_fewestFor 47 = .ok (.getfield 9, 3) := by decide +kernel
theorem dX0_fewestFor_50 : decode cX0_fewestFor 50 = .ok (.getfield 28, 3) := by decide +kernel
theorem dX0_fewestFor_53 : decode cX0_fewestFor 53 = .ok (.if_icmp .ge 41, 3) := by decide +kernel
theorem dX0_fewestFor_56 : decode cX0_fewestFor 56 = .ok (.iload 5, 2) := by decide +kernel
theorem dX0_fewestFor_58 : decode cX0_fewestFor 58 = .ok (.iload 4, 2) := by decide +kernel
theorem dX0_fewestFor_60 : decode cX0_fewestFor 60 = .ok (.if_icmp .le 34, 3) := by decide +kernel
theorem dX0_fewestFor_63 : decode cX0_fewestFor 63 = .ok (.aload_n 0, 1) := by decide +kernel
theorem dX0_fewestFor_64 : decode cX0_fewestFor 64 = .ok (.iload 6, 2) := by decide +kernel
theorem dX0_fewestFor_66 : decode cX0_fewestFor 66 = .ok (.iload_n 1, 1) := by decide +kernel
theorem dX0_fewestFor_67 : decode cX0_fewestFor 67 = .ok (.invokevirtual 52, 3) := by decide +kernel
theorem dX0_fewestFor_70 : decode cX0_fewestFor 70 = .ok (.ifCond .eq 18, 3) := by decide +kernel
theorem dX0_fewestFor_73 : decode cX0_fewestFor 73 = .ok (.iload 5, 2) := by decide +kernel
theorem dX0_fewestFor_75 : decode cX0_fewestFor 75 = .ok (.aload_n 0, 1) := by decide +kernel
theorem dX0_fewestFor_76 : decode cX0_fewestFor 76 = .ok (.iload 6, 2) := by decide +kernel
theorem dX0_fewestFor_78 : decode cX0_fewestFor 78 = .ok (.iload_n 1, 1) := by decide +kernel
theorem dX0_fewestFor_79 : decode cX0_fewestFor 79 = .ok (.iload_n 2, 1) := by decide +kernel
theorem dX0_fewestFor_80 : decode cX0_fewestFor 80 = .ok (.invokevirtual 55, 3) := by decide +kernel
theorem dX0_fewestFor_83 : decode cX0_fewestFor 83 = .ok (.invokestatic 59, 3) := by decide +kernel
theorem dX0_fewestFor_86 : decode cX0_fewestFor 86 = .ok (.istore 5, 2) := by decide +kernel
theorem dX0_fewestFor_88 : decode cX0_fewestFor 88 = .ok (.iinc 6 1, 3) := by decide +kernel
theorem dX0_fewestFor_91 : decode cX0_fewestFor 91 = .ok (.goto (-47), 3) := by decide +kernel
theorem dX0_fewestFor_94 : decode cX0_fewestFor 94 = .ok (.aload_n 0, 1) := by decide +kernel
theorem dX0_fewestFor_95 : decode cX0_fewestFor 95 = .ok (.getfield 19, 3) := by decide +kernel
theorem dX0_fewestFor_98 : decode cX0_fewestFor 98 = .ok (.iload_n 1, 1) := by decide +kernel
theorem dX0_fewestFor_99 : decode cX0_fewestFor 99 = .ok (.iload 5, 2) := by decide +kernel
theorem dX0_fewestFor_101 : decode cX0_fewestFor 101 = .ok (.iastore, 1) := by decide +kernel
theorem dX0_fewestFor_102 : decode cX0_fewestFor 102 = .ok (.iload 5, 2) := by decide +kernel
theorem dX0_fewestFor_104 : decode cX0_fewestFor 104 = .ok (.ireturn, 1) := by decide +kernel
theorem dX0_leastThinkable_0 : decode cX0_leastThinkable 0 = .ok (.iconst 0, 1) := by decide +kernel
theorem dX0_leastThinkable_1 : decode cX0_leastThinkable 1 = .ok (.istore_n 1, 1) := by decide +kernel
theorem dX0_leastThinkable_2 : decode cX0_leastThinkable 2 = .ok (.iconst 1, 1) := by decide +kernel
theorem dX0_leastThinkable_3 : decode cX0_leastThinkable 3 = .ok (.istore_n 2, 1) := by decide +kernel
theorem dX0_leastThinkable_4 : decode cX0_leastThinkable 4 = .ok (.iload_n 2, 1) := by decide +kernel
theorem dX0_leastThinkable_5 : decode cX0_leastThinkable 5 = .ok (.iload_n 0, 1) := by decide +kernel
theorem dX0_leastThinkable_6 : decode cX0_leastThinkable 6 = .ok (.if_icmp .ge 13, 3) := by decide +kernel
theorem dX0_leastThinkable_9 : decode cX0_leastThinkable 9 = .ok (.iinc 1 1, 3) := by decide +kernel
theorem dX0_leastThinkable_12 : decode cX0_leastThinkable 12 = .ok (.iload_n 2, 1) := by decide +kernel
theorem dX0_leastThinkable_13 : decode cX0_leastThinkable 13 = .ok (.iconst 2, 1) := by decide +kernel
theorem dX0_leastThinkable_14 : decode cX0_leastThinkable 14 = .ok (.imul, 1) := by decide +kernel
theorem dX0_leastThinkable_15 : decode cX0_leastThinkable 15 = .ok (.istore_n 2, 1) := by decide +kernel
theorem dX0_leastThinkable_16 : decode cX0_leastThinkable 16 = .ok (.goto (-12), 3) := by decide +kernel
theorem dX0_leastThinkable_19 : decode cX0_leastThinkable 19 = .ok (.iload_n 1, 1) := by decide +kernel
theorem dX0_leastThinkable_20 : decode cX0_leastThinkable 20 = .ok (.ireturn, 1) := by decide +kernel
theorem dX5_init_0 : decode cX5_init 0 = .ok (.aload_n 0, 1) := by decide +kernel
theorem dX5_init_1 : decode cX5_init 1 = .ok (.invokespecial 3, 3) := by decide +kernel
theorem dX5_init_4 : decode cX5_init 4 = .ok (.aload_n 0, 1) := by decide +kernel
theorem dX5_init_5 : decode cX5_init 5 = .ok (.aload_n 1, 1) := by decide +kernel
theorem dX5_init_6 : decode cX5_init 6 = .ok (.putfield 9, 3) := by decide +kernel
theorem dX5_init_9 : decode cX5_init 9 = .ok (.aload_n 0, 1) := by decide +kernel
theorem dX5_init_10 : decode cX5_init 10 = .ok (.sipush 3691, 3) := by decide +kernel
theorem dX5_init_13 : decode cX5_init 13 = .ok (.newarray .int, 2) := by decide +kernel
theorem dX5_init_15 : decode cX5_init 15 = .ok (.putfield 15, 3) := by decide +kernel
theorem dX5_init_18 : decode cX5_init 18 = .ok (.return_, 1) := by decide +kernel
set_option maxRecDepth 20000 in
theorem ggX5_winningMove_J7_fill_53178 : GoodIn wsX5_winningMove wsJ7_fill_53178 := sw_good (sw_cons (t1_ (al_ (al_ (al_ (t4_ (t1_ (t1_ h1_))))))) sw_nil) (by decide +kernel)
set_option maxRecDepth 20000 in
theorem gX5_winningMove_J7_fill_53178 : GoodIn wsX5_winningMove (va_wsS RX5 19 yJ7_fill_53178 wsJ7_fill_53178) := goodIn_app (sw_good (sw_cons (t1_ (al_ (al_ (al_ (t1_ (t1_ (t1_ h1_))))))) (sw_cons (t1_ (al_ (al_ (al_ (t4_ h1_))))) (sw_cons (t1_ (al_ (al_ (al_ (t4_ (t1_ h1_)))))) sw_nil))) (by decide +kernel)) ggX5_winningMove_J7_fill_53178
set_option maxRecDepth 20000 in
theorem ggX5_winningMove_X5_makerWinsAfter : GoodIn wsX5_winningMove wsX5_makerWinsAfter := sw_good (sw_cons (t1_ (al_ (al_ (al_ (t4_ (t4_ (t1_ (t1_ (t1_ h1_))))))))) (sw_app (sw_app (sw_app (sw_cons (t1_ (al_ (al_ (al_ (t4_ (t4_ (t4_ h1_))))))) (sw_cons (t1_ (al_ (al_ (al_ (t4_ (t4_ (t4_ (t1_ h1_)))))))) (sw_cons (t1_ (al_ (al_ (al_ (t4_ (t4_ (t4_ (t1_ (t1_ h1_))))))))) (sw_cons (t1_ (al_ (al_ (al_ (t4_ (t4_ (t4_ (t1_ (t1_ (t1_ h1_)))))))))) (sw_cons (t1_ (al_ (al_ (al_ (t4_ (t4_ (t1_ (t1_ h1_)))))))) (sw_cons (t1_ (al_ (al_ (al_ (t16_ h1_))))) (sw_cons (t1_ (al_ (al_ (al_ (t1_ h1_))))) (sw_cons (t1_ (al_ (al_ (al_ h1_)))) (sw_cons (t1_ (al_ (al_ (al_ (t1_ (t1_ h1_)))))) (sw_cons (t1_ (al_ (al_ (al_ (t16_ (t1_ h1_)))))) (sw_cons (t1_ (al_ (al_ (al_ (t16_ (t1_ (t1_ h1_))))))) (sw_cons (t1_ (al_ (al_ (al_ (t16_ (t1_ (t1_ (t1_ h1_)))))))) (sw_cons (t1_ (al_ (al_ (al_ (t16_ (t4_ h1_)))))) (sw_cons (t1_ (al_ (al_ (al_ (t16_ (t4_ (t1_ h1_))))))) (sw_cons (t1_ (al_ (al_ (al_ (t16_ (t4_ (t1_ (t1_ h1_)))))))) (sw_cons (t1_ (al_ (al_ (al_ (t16_ (t4_ (t1_ (t1_ (t1_ h1_))))))))) (sw_cons (t1_ (al_ (al_ (ar_ h1_)))) (sw_cons (t1_ (al_ (al_ (ar_ (t1_ h1_))))) (sw_cons (t1_ (al_ (al_ (ar_ (t1_ (t1_ h1_)))))) (sw_cons (t1_ (al_ (al_ (ar_ (t1_ (t1_ (t1_ h1_))))))) (sw_cons (t1_ (al_ (al_ (ar_ (t4_ h1_))))) (sw_cons (t1_ (al_ (al_ (ar_ (t4_ (t1_ h1_)))))) (sw_cons (t1_ (al_ (al_ (ar_ (t4_ (t1_ (t1_ h1_))))))) (sw_cons (t1_ (al_ (al_ (ar_ (t4_ (t1_ (t1_ (t1_ h1_)))))))) sw_nil)))))))))))))))))))))))) (sw_cons (t1_ (al_ (al_ (ar_ (t4_ (t4_ h1_)))))) (sw_cons (t1_ (al_ (al_ (ar_ (t4_ (t4_ (t1_ h1_))))))) (sw_cons (t1_ (al_ (al_ (ar_ (t4_ (t4_ (t1_ (t1_ h1_)))))))) (sw_cons (t1_ (al_ (al_ (ar_ (t4_ (t4_ (t1_ (t1_ (t1_ h1_))))))))) (sw_cons (t1_ (al_ (al_ (ar_ (t4_ (t4_ (t4_ h1_))))))) (sw_cons (t1_ (al_ (al_ (ar_ (t4_ (t4_ (t4_ (t1_ h1_)))))))) (sw_cons (t1_ (al_ (al_ (ar_ (t4_ (t4_ (t4_ (t1_ (t1_ h1_))))))))) (sw_cons (t1_ (al_ (al_ (al_ (t4_ (t1_ (t1_ (t1_ h1_)))))))) (sw_cons (t1_ (al_ (al_ (al_ (t4_ (t4_ h1_)))))) (sw_cons (t1_ (al_ (al_ (al_ (t4_ (t4_ (t1_ h1_))))))) sw_nil))))))))))) (fun _ h => (t1_ (al_ (ar_ h))))) (fun _ h => (t1_ (ar_ h))))) (by decide +kernel)
set_option maxRecDepth 20000 in
theorem gX5_winningMove_X5_makerWinsAfter : GoodIn wsX5_winningMove (wsV RX5 31 RX5 yX5_makerWinsAfter wsX5_makerWinsAfter) := goodIn_app (sw_good (sw_cons (t1_ (al_ (al_ (al_ (t4_ (t1_ (t1_ (t1_ h1_)))))))) (sw_cons (t1_ (al_ (al_ (al_ (t4_ (t4_ h1_)))))) (sw_cons (t1_ (al_ (al_ (al_ (t4_ (t4_ (t1_ h1_))))))) (sw_cons (t1_ (al_ (al_ (al_ (t4_ (t4_ (t1_ (t1_ h1_)))))))) sw_nil)))) (by decide +kernel)) ggX5_winningMove_X5_makerWinsAfter
theorem dX5_winningMove_0 : decode cX5_winningMove 0 = .ok (.aload_n 0, 1) := by decide +kernel
theorem dX5_winningMove_1 : decode cX5_winningMove 1 = .ok (.getfield 15, 3) := by decide +kernel
theorem dX5_winningMove_4 : decode cX5_winningMove 4 = .ok (.iconst 0, 1) := by decide +kernel
theorem dX5_winningMove_5 : decode cX5_winningMove 5 = .ok (.invokestatic 19, 3) := by decide +kernel
theorem dX5_winningMove_8 : decode cX5_winningMove 8 = .ok (.iload_n 1, 1) := by decide +kernel
theorem dX5_winningMove_9 : decode cX5_winningMove 9 = .ok (.ifCond .ne 7, 3) := by decide +kernel
theorem dX5_winningMove_12 : decode cX5_winningMove 12 = .ok (.iconst 1, 1) := by decide +kernel
theorem dX5_winningMove_13 : decode cX5_winningMove 13 = .ok (.goto 4, 3) := by decide +kernel
theorem dX5_winningMove_16 : decode cX5_winningMove 16 = .ok (.iconst 0, 1) := by decide +kernel
theorem dX5_winningMove_17 : decode cX5_winningMove 17 = .ok (.istore_n 2, 1) := by decide +kernel
theorem dX5_winningMove_18 : decode cX5_winningMove 18 = .ok (.iconst 0, 1) := by decide +kernel
theorem dX5_winningMove_19 : decode cX5_winningMove 19 = .ok (.istore_n 3, 1) := by decide +kernel
theorem dX5_winningMove_20 : decode cX5_winningMove 20 = .ok (.iload_n 3, 1) := by decide +kernel
theorem dX5_winningMove_21 : decode cX5_winningMove 21 = .ok (.aload_n 0, 1) := by decide +kernel
theorem dX5_winningMove_22 : decode cX5_winningMove 22 = .ok (.getfield 9, 3) := by decide +kernel
theorem dX5_winningMove_25 : decode cX5_winningMove 25 = .ok (.getfield 25, 3) := by decide +kernel
theorem dX5_winningMove_28 : decode cX5_winningMove 28 = .ok (.if_icmp .ge 31, 3) := by decide +kernel
theorem dX5_winningMove_31 : decode cX5_winningMove 31 = .ok (.aload_n 0, 1) := by decide +kernel
theorem dX5_winningMove_32 : decode cX5_winningMove 32 = .ok (.iload_n 3, 1) := by decide +kernel
theorem dX5_winningMove_33 : decode cX5_winningMove 33 = .ok (.iconst 0, 1) := by decide +kernel
theorem dX5_winningMove_34 : decode cX5_winningMove 34 = .ok (.iconst 0, 1) := by decide +kernel
theorem dX5_winningMove_35 : decode cX5_winningMove 35 = .ok (.iconst 0, 1) := by decide +kernel
theorem dX5_winningMove_36 : decode cX5_winningMove 36 = .ok (.iload_n 2, 1) := by decide +kernel
theorem dX5_winningMove_37 : decode cX5_winningMove 37 = .ok (.aload_n 0, 1) := by decide +kernel
theorem dX5_winningMove_38 : decode cX5_winningMove 38 = .ok (.getfield 9, 3) := by decide +kernel
theorem dX5_winningMove_41 : decode cX5_winningMove 41 = .ok (.getfield 25, 3) := by decide +kernel
theorem dX5_winningMove_44 : decode cX5_winningMove 44 = .ok (.invokevirtual 31, 3) := by decide +kernel
theorem dX5_winningMove_47 : decode cX5_winningMove 47 = .ok (.iload_n 2, 1) := by decide +kernel
theorem dX5_winningMove_48 : decode cX5_winningMove 48 = .ok (.if_icmp .ne 5, 3) := by decide +kernel
theorem dX5_winningMove_51 : decode cX5_winningMove 51 = .ok (.iload_n 3, 1) := by decide +kernel
theorem dX5_winningMove_52 : decode cX5_winningMove 52 = .ok (.ireturn, 1) := by decide +kernel
theorem dX5_winningMove_53 : decode cX5_winningMove 53 = .ok (.iinc 3 1, 3) := by decide +kernel
theorem dX5_winningMove_56 : decode cX5_winningMove 56 = .ok (.goto (-36), 3) := by decide +kernel
theorem dX5_winningMove_59 : decode cX5_winningMove 59 = .ok (.iconst (-1), 1) := by decide +kernel
theorem dX5_winningMove_60 : decode cX5_winningMove 60 = .ok (.ireturn, 1) := by decide +kernel
set_option maxRecDepth 20000 in
theorem ggX5_makerWinsAfter_X5_makerWins : GoodIn wsX5_makerWinsAfter wsX5_makerWins := sw_good (sw_cons (t1_ (al_ (al_ (al_ (t4_ (t1_ h1_)))))) (sw_app (sw_app (sw_app (sw_cons (t1_ (al_ (al_ (al_ (t4_ (t1_ (t1_ h1_))))))) (sw_cons (t1_ (al_ (al_ (al_ (t4_ (t1_ (t1_ (t1_ h1_)))))))) (sw_cons (t1_ (al_ (al_ (al_ (t4_ (t4_ h1_)))))) (sw_cons (t1_ (al_ (al_ (al_ (t4_ (t4_ (t1_ h1_))))))) (sw_cons (t1_ (al_ (al_ (al_ (t4_ (t4_ (t1_ (t1_ h1_)))))))) (sw_cons (t1_ (al_ (al_ (al_ (t4_ (t4_ (t1_ (t1_ (t1_ h1_))))))))) (sw_cons (t1_ (al_ (al_ (al_ (t4_ (t4_ (t4_ h1_))))))) (sw_cons (t1_ (al_ (al_ (al_ (t4_ (t4_ (t4_ (t1_ h1_)))))))) (sw_cons (t1_ (al_ (al_ (al_ (t4_ (t4_ (t4_ (t1_ (t1_ h1_))))))))) (sw_cons (t1_ (al_ (al_ (al_ (t4_ (t4_ (t4_ (t1_ (t1_ (t1_ h1_)))))))))) (sw_cons (t1_ (al_ (al_ (al_ (t16_ h1_))))) (sw_cons (t1_ (al_ (al_ (al_ (t16_ (t1_ h1_)))))) (sw_cons (t1_ (al_ (al_ (al_ (t16_ (t1_ (t1_ h1_))))))) (sw_cons (t1_ (al_ (al_ (al_ (t16_ (t1_ (t1_ (t1_ h1_)))))))) (sw_cons (t1_ (al_ (al_ (al_ (t16_ (t4_ h1_)))))) (sw_cons (t1_ (al_ (al_ (al_ (t16_ (t4_ (t1_ h1_))))))) (sw_cons (t1_ (al_ (al_ (al_ (t4_ h1_))))) (sw_cons (t1_ (al_ (al_ (al_ (t16_ (t4_ (t1_ (t1_ h1_)))))))) (sw_cons (t1_ (al_ (al_ (al_ (t16_ (t4_ (t1_ (t1_ (t1_ h1_))))))))) (sw_cons (t1_ (al_ (al_ (ar_ h1_)))) (sw_cons (t1_ (al_ (al_ (ar_ (t1_ h1_))))) (sw_cons (t1_ (al_ (al_ (ar_ (t1_ (t1_ h1_)))))) (sw_cons (t1_ (al_ (al_ (ar_ (t1_ (t1_ (t1_ h1_))))))) (sw_cons (t1_ (al_ (al_ (ar_ (t4_ h1_))))) sw_nil)))))))))))))))))))))))) (sw_cons (t1_ (al_ (al_ (ar_ (t4_ (t1_ h1_)))))) (sw_cons (t1_ (al_ (al_ (ar_ (t4_ (t1_ (t1_ h1_))))))) (sw_cons (t1_ (al_ (al_ (ar_ (t4_ (t1_ (t1_ (t1_ h1_)))))))) (sw_cons (t1_ (al_ (al_ (ar_ (t4_ (t4_ h1_)))))) (sw_cons (t1_ (al_ (al_ (ar_ (t4_ (t4_ (t1_ h1_))))))) (sw_cons h1_ (sw_cons (t1_ (al_ (al_ (al_ h1_)))) (sw_cons (t1_ (al_ (al_ (al_ (t1_ h1_))))) (sw_cons (t1_ (al_ (al_ (al_ (t1_ (t1_ h1_)))))) (sw_cons (t1_ (al_ (al_ (al_ (t1_ (t1_ (t1_ h1_))))))) sw_nil))))))))))) (fun _ h => (t1_ (al_ (ar_ h))))) (fun _ h => (t1_ (ar_ h))))) (by decide +kernel)
set_option maxRecDepth 20000 in
theorem gX5_makerWinsAfter_X5_makerWins : GoodIn wsX5_makerWinsAfter (wsV RX5 38 RX5 yX5_makerWins wsX5_makerWins) := goodIn_app (sw_good (sw_cons (t1_ (al_ (al_ (al_ (t1_ h1_))))) (sw_cons (t1_ (al_ (al_ (al_ (t1_ (t1_ h1_)))))) (sw_cons (t1_ (al_ (al_ (al_ (t1_ (t1_ (t1_ h1_))))))) (sw_cons (t1_ (al_ (al_ (al_ (t4_ h1_))))) sw_nil)))) (by decide +kernel)) ggX5_makerWinsAfter_X5_makerWins
theorem dX5_makerWinsAfter_0 : decode cX5_makerWinsAfter 0 = .ok (.iconst 1, 1) := by decide +kernel
theorem dX5_makerWinsAfter_1 : decode cX5_makerWinsAfter 1 = .ok (.iload_n 1, 1) := by decide +kernel
theorem dX5_makerWinsAfter_2 : decode cX5_makerWinsAfter 2 = .ok (.ishl, 1) := by decide +kernel
theorem dX5_makerWinsAfter_3 : decode cX5_makerWinsAfter 3 = .ok (.istore 7, 2) := by decide +kernel
theorem dX5_makerWinsAfter_5 : decode cX5_makerWinsAfter 5 = .ok (.iload 5, 2) := by decide +kernel
theorem dX5_makerWinsAfter_7 : decode cX5_makerWinsAfter 7 = .ok (.ifCond .eq 28, 3) := by decide +kernel
theorem dX5_makerWinsAfter_10 : decode cX5_makerWinsAfter 10 = .ok (.aload_n 0, 1) := by decide +kernel
theorem dX5_makerWinsAfter_11 : decode cX5_makerWinsAfter 11 = .ok (.iload_n 2, 1) := by decide +kernel
theorem dX5_makerWinsAfter_12 : decode cX5_makerWinsAfter 12 = .ok (.iload 7, 2) := by decide +kernel
theorem dX5_makerWinsAfter_14 : decode cX5_makerWinsAfter 14 = .ok (.ior, 1) := by decide +kernel
theorem dX5_makerWinsAfter_15 : decode cX5_makerWinsAfter 15 = .ok (.iload_n 3, 1) := by decide +kernel
theorem dX5_makerWinsAfter_16 : decode cX5_makerWinsAfter 16 = .ok (.iload 4, 2) := by decide +kernel
theorem dX5_makerWinsAfter_18 : decode cX5_makerWinsAfter 18 = .ok (.getstatic 35, 3) := by decide +kernel
theorem dX5_makerWinsAfter_21 : decode cX5_makerWinsAfter 21 = .ok (.iload_n 1, 1) := by decide +kernel
theorem dX5_makerWinsAfter_22 : decode cX5_makerWinsAfter 22 = .ok (.iaload, 1) := by decide +kernel
theorem dX5_makerWinsAfter_23 : decode cX5_makerWinsAfter 23 = .ok (.iadd, 1) := by decide +kernel
theorem dX5_makerWinsAfter_24 : decode cX5_makerWinsAfter 24 = .ok (.iconst 0, 1) := by decide +kernel
theorem dX5_makerWinsAfter_25 : decode cX5_makerWinsAfter 25 = .ok (.iload 6, 2) := by decide +kernel
theorem dX5_makerWinsAfter_27 : decode cX5_makerWinsAfter 27 = .ok (.iconst 1, 1) := by decide +kernel
theorem dX5_makerWinsAfter_28 : decode cX5_makerWinsAfter 28 = .ok (.isub, 1) := by decide +kernel
theorem dX5_makerWinsAfter_29 : decode cX5_makerWinsAfter 29 = .ok (.invokevirtual 38, 3) := by decide +kernel
theorem dX5_makerWinsAfter_32 : decode cX5_makerWinsAfter 32 = .ok (.goto 27, 3) := by decide +kernel
theorem dX5_makerWinsAfter_35 : decode cX5_makerWinsAfter 35 = .ok (.aload_n 0, 1) := by decide +kernel
theorem dX5_makerWinsAfter_36 : decode cX5_makerWinsAfter 36 = .ok (.iload_n 2, 1) := by decide +kernel
theorem dX5_makerWinsAfter_37 : decode cX5_makerWinsAfter 37 = .ok (.iload_n 3, 1) := by decide +kernel
theorem dX5_makerWinsAfter_38 : decode cX5_makerWinsAfter 38 = .ok (.iload 7, 2) := by decide +kernel
theorem dX5_makerWinsAfter_40 : decode cX5_makerWinsAfter 40 = .ok (.ior, 1) := by decide +kernel
theorem dX5_makerWinsAfter_41 : decode cX5_makerWinsAfter 41 = .ok (.iload 4, 2) := by decide +kernel
theorem dX5_makerWinsAfter_43 : decode cX5_makerWinsAfter 43 = .ok (.iconst 2, 1) := by decide +kernel
theorem dX5_makerWinsAfter_44 : decode cX5_makerWinsAfter 44 = .ok (.getstatic 35, 3) := by decide +kernel
theorem dX5_makerWinsAfter_47 : decode cX5_makerWinsAfter 47 = .ok (.iload_n 1, 1) := by decide +kernel
theorem dX5_makerWinsAfter_48 : decode cX5_makerWinsAfter 48 = .ok (.iaload, 1) := by decide +kernel
theorem dX5_makerWinsAfter_49 : decode cX5_makerWinsAfter 49 = .ok (.imul, 1) := by decide +kernel
theorem dX5_makerWinsAfter_50 : decode cX5_makerWinsAfter 50 = .ok (.iadd, 1) := by decide +kernel
theorem dX5_makerWinsAfter_51 : decode cX5_makerWinsAfter 51 = .ok (.iconst 1, 1) := by decide +kernel
theorem dX5_makerWinsAfter_52 : decode cX5_makerWinsAfter 52 = .ok (.iload 6, 2) := by decide +kernel
theorem dX5_makerWinsAfter_54 : decode cX5_makerWinsAfter 54 = .ok (.iconst 1, 1) := by decide +kernel
theorem dX5_makerWinsAfter_55 : decode cX5_makerWinsAfter 55 = .ok (.isub, 1) := by decide +kernel
theorem dX5_makerWinsAfter_56 : decode cX5_makerWinsAfter 56 = .ok (.invokevirtual 38, 3) := by decide +kernel
theorem dX5_makerWinsAfter_59 : decode cX5_makerWinsAfter 59 = .ok (.ireturn, 1) := by decide +kernel
set_option maxRecDepth 20000 in
theorem ggX5_makerWins_X6_hasSetIn : GoodIn wsX5_makerWins wsX6_hasSetIn := sw_good (sw_cons (t1_ (al_ (al_ (al_ (t4_ (t1_ (t1_ (t1_ h1_)))))))) (sw_app (sw_cons (t1_ (al_ (al_ (al_ (t4_ (t4_ h1_)))))) sw_nil) (fun _ h => (t1_ (ar_ h))))) (by decide +kernel)
set_option maxRecDepth 20000 in
theorem gX5_makerWins_X6_hasSetIn : GoodIn wsX5_makerWins (wsV RX5 42 RX6 yX6_hasSetIn wsX6_hasSetIn) := goodIn_app (sw_good (sw_cons (t1_ (al_ (al_ (al_ (t1_ (t1_ (t1_ h1_))))))) (sw_cons (t1_ (al_ (al_ (al_ (t4_ h1_))))) (sw_cons (t1_ (al_ (al_ (al_ (t4_ (t1_ h1_)))))) (sw_cons (t1_ (al_ (al_ (al_ (t4_ (t1_ (t1_ h1_))))))) sw_nil)))) (by decide +kernel)) ggX5_makerWins_X6_hasSetIn
set_option maxRecDepth 20000 in
theorem ggX5_makerWins_X6_isMeeter : GoodIn wsX5_makerWins wsX6_isMeeter := sw_good (sw_cons (t1_ (al_ (al_ (al_ (t4_ (t4_ (t4_ h1_))))))) (sw_app (sw_cons (t1_ (al_ (al_ (al_ (t4_ (t4_ h1_)))))) (sw_cons (t1_ (al_ (al_ (al_ (t4_ (t4_ (t4_ (t1_ h1_)))))))) sw_nil)) (fun _ h => (t1_ (ar_ h))))) (by decide +kernel)
set_option maxRecDepth 20000 in
theorem gX5_makerWins_X6_isMeeter : GoodIn wsX5_makerWins (wsV RX5 46 RX6 yX6_isMeeter wsX6_isMeeter) := goodIn_app (sw_good (sw_cons (t1_ (al_ (al_ (al_ (t4_ (t4_ (t1_ h1_))))))) (sw_cons (t1_ (al_ (al_ (al_ (t4_ (t4_ (t1_ (t1_ h1_)))))))) (sw_cons (t1_ (al_ (al_ (al_ (t4_ (t4_ (t1_ (t1_ (t1_ h1_))))))))) (sw_cons (t1_ (al_ (al_ (al_ (t4_ (t1_ (t1_ h1_))))))) sw_nil)))) (by decide +kernel)) ggX5_makerWins_X6_isMeeter
set_option maxRecDepth 20000 in
theorem ggX5_makerWins_X5_shiftOf : GoodIn wsX5_makerWins wsX5_shiftOf := sw_good (sw_cons (t1_ (al_ (al_ (al_ (t16_ (t1_ h1_)))))) sw_nil) (by decide +kernel)
set_option maxRecDepth 20000 in
theorem gX5_makerWins_X5_shiftOf : GoodIn wsX5_makerWins (va_wsS RX5 49 yX5_shiftOf wsX5_shiftOf) := goodIn_app (sw_good (sw_cons (t1_ (al_ (al_ (al_ (t4_ (t4_ (t4_ (t1_ (t1_ h1_))))))))) (sw_cons (t1_ (al_ (al_ (al_ (t4_ (t4_ (t4_ (t1_ (t1_ (t1_ h1_)))))))))) (sw_cons (t1_ (al_ (al_ (al_ (t16_ h1_))))) sw_nil))) (by decide +kernel)) ggX5_makerWins_X5_shiftOf
set_option maxRecDepth 20000 in
theorem ggX5_makerWins_X5_worthTaking : GoodIn wsX5_makerWins wsX5_worthTaking := sw_good (sw_cons (t1_ (al_ (al_ (al_ (t16_ (t4_ (t1_ h1_))))))) (sw_app (sw_app (sw_cons (t1_ (al_ (al_ (al_ h1_)))) (sw_cons (t1_ (al_ (al_ (al_ (t16_ (t4_ (t1_ (t1_ h1_)))))))) (sw_cons (t1_ (al_ (al_ (al_ (t1_ (t1_ h1_)))))) (sw_cons (t1_ (al_ (al_ (al_ (t16_ (t4_ (t1_ (t1_ (t1_ h1_))))))))) (sw_cons (t1_ (al_ (al_ (ar_ h1_)))) (sw_cons (t1_ (al_ (al_ (ar_ (t1_ h1_))))) (sw_cons (t1_ (al_ (al_ (al_ (t1_ (t1_ (t1_ h1_))))))) (sw_cons (t1_ (al_ (al_ (al_ (t4_ h1_))))) (sw_cons (t1_ (al_ (al_ (al_ (t4_ (t1_ h1_)))))) (sw_cons (t1_ (al_ (al_ (al_ (t4_ (t1_ (t1_ h1_))))))) (sw_cons (t1_ (al_ (al_ (al_ (t4_ (t1_ (t1_ (t1_ h1_)))))))) (sw_cons (t1_ (al_ (al_ (al_ (t4_ (t4_ h1_)))))) (sw_cons (t1_ (al_ (al_ (al_ (t4_ (t4_ (t1_ h1_))))))) (sw_cons (t1_ (al_ (al_ (al_ (t4_ (t4_ (t1_ (t1_ h1_)))))))) (sw_cons (t1_ (al_ (al_ (al_ (t4_ (t4_ (t1_ (t1_ (t1_ h1_))))))))) (sw_cons (t1_ (al_ (al_ (al_ (t4_ (t4_ (t4_ h1_))))))) (sw_cons (t1_ (al_ (al_ (al_ (t4_ (t4_ (t4_ (t1_ h1_)))))))) sw_nil))))))))))))))))) (fun _ h => (t1_ (al_ (ar_ h))))) (fun _ h => (t1_ (ar_ h))))) (by decide +kernel)
set_option maxRecDepth 20000 in
theorem gX5_makerWins_X5_worthTaking : GoodIn wsX5_makerWins (wsV RX5 53 RX5 yX5_worthTaking wsX5_worthTaking) := goodIn_app (sw_good (sw_cons (t1_ (al_ (al_ (al_ (t16_ (t1_ (t1_ h1_))))))) (sw_cons (t1_ (al_ (al_ (al_ (t16_ (t1_ (t1_ (t1_ h1_)))))))) (sw_cons (t1_ (al_ (al_ (al_ (t16_ (t4_ h1_)))))) (sw_cons (t1_ (al_ (al_ (al_ (t16_ h1_))))) sw_nil)))) (by decide +kernel)) ggX5_makerWins_X5_worthTaking
set_option maxRecDepth 20000 in
theorem ggX5_makerWins_X9_has : GoodIn wsX5_makerWins wsX9_has := sw_good (sw_cons (t1_ (al_ (al_ (ar_ (t1_ h1_))))) sw_nil) (by decide +kernel)
set_option maxRecDepth 20000 in
theorem gX5_makerWins_X9_has_n57 : GoodIn wsX5_makerWins (wsX9_has) := ggX5_makerWins_X9_has
set_option maxRecDepth 20000 in
theorem ggX5_makerWins_X5_makerWinsAfter : GoodIn wsX5_makerWins wsX5_makerWinsAfter := sw_good (sw_cons (t1_ (al_ (al_ (ar_ (t4_ (t1_ h1_)))))) (sw_app (sw_app (sw_app (sw_cons (t1_ (al_ (al_ (ar_ (t4_ (t1_ (t1_ h1_))))))) (sw_cons (t1_ (al_ (al_ (ar_ (t4_ (t1_ (t1_ (t1_ h1_)))))))) (sw_cons (t1_ (al_ (al_ (ar_ (t4_ (t4_ h1_)))))) (sw_cons (t1_ (al_ (al_ (ar_ (t4_ (t4_ (t1_ h1_))))))) (sw_cons (t1_ (al_ (al_ (al_ (t16_ h1_))))) (sw_cons h1_ (sw_cons (t1_ (al_ (al_ (al_ h1_)))) (sw_cons (t1_ (al_ (al_ (al_ (t1_ h1_))))) (sw_cons (t1_ (al_ (al_ (al_ (t1_ (t1_ h1_)))))) (sw_cons (t1_ (al_ (al_ (al_ (t1_ (t1_ (t1_ h1_))))))) (sw_cons (t1_ (al_ (al_ (al_ (t4_ h1_))))) (sw_cons (t1_ (al_ (al_ (al_ (t4_ (t1_ h1_)))))) (sw_cons (t1_ (al_ (al_ (al_ (t4_ (t1_ (t1_ h1_))))))) (sw_cons (t1_ (al_ (al_ (al_ (t4_ (t1_ (t1_ (t1_ h1_)))))))) (sw_cons (t1_ (al_ (al_ (al_ (t4_ (t4_ h1_)))))) (sw_cons (t1_ (al_ (al_ (al_ (t4_ (t4_ (t1_ h1_))))))) (sw_cons (t1_ (al_ (al_ (al_ (t4_ (t4_ (t1_ (t1_ h1_)))))))) (sw_cons (t1_ (al_ (al_ (al_ (t4_ (t4_ (t1_ (t1_ (t1_ h1_))))))))) (sw_cons (t1_ (al_ (al_ (al_ (t4_ (t4_ (t4_ h1_))))))) (sw_cons (t1_ (al_ (al_ (al_ (t4_ (t4_ (t4_ (t1_ h1_)))))))) (sw_cons (t1_ (al_ (al_ (al_ (t4_ (t4_ (t4_ (t1_ (t1_ h1_))))))))) (sw_cons (t1_ (al_ (al_ (al_ (t4_ (t4_ (t4_ (t1_ (t1_ (t1_ h1_)))))))))) (sw_cons (t1_ (al_ (al_ (al_ (t16_ (t1_ h1_)))))) (sw_cons (t1_ (al_ (al_ (al_ (t16_ (t1_ (t1_ h1_))))))) sw_nil)))))))))))))))))))))))) (sw_cons (t1_ (al_ (al_ (al_ (t16_ (t1_ (t1_ (t1_ h1_)))))))) (sw_cons (t1_ (al_ (al_ (al_ (t16_ (t4_ h1_)))))) (sw_cons (t1_ (al_ (al_ (al_ (t16_ (t4_ (t1_ h1_))))))) (sw_cons (t1_ (al_ (al_ (al_ (t16_ (t4_ (t1_ (t1_ h1_)))))))) (sw_cons (t1_ (al_ (al_ (al_ (t16_ (t4_ (t1_ (t1_ (t1_ h1_))))))))) (sw_cons (t1_ (al_ (al_ (ar_ h1_)))) (sw_cons (t1_ (al_ (al_ (ar_ (t1_ h1_))))) (sw_cons (t1_ (al_ (al_ (ar_ (t1_ (t1_ h1_)))))) (sw_cons (t1_ (al_ (al_ (ar_ (t1_ (t1_ (t1_ h1_))))))) (sw_cons (t1_ (al_ (al_ (ar_ (t4_ h1_))))) sw_nil))))))))))) (fun _ h => (t1_ (al_ (ar_ h))))) (fun _ h => (t1_ (ar_ h))))) (by decide +kernel)
set_option maxRecDepth 20000 in
theorem gX5_makerWins_X5_makerWinsAfter : GoodIn wsX5_makerWins (wsV RX5 31 RX5 yX5_makerWinsAfter wsX5_makerWinsAfter) := goodIn_app (sw_good (sw_cons (t1_ (al_ (al_ (ar_ (t1_ (t1_ h1_)))))) (sw_cons (t1_ (al_ (al_ (ar_ (t1_ (t1_ (t1_ h1_))))))) (sw_cons (t1_ (al_ (al_ (ar_ (t4_ h1_))))) (sw_cons (t1_ (al_ (al_ (al_ (t16_ h1_))))) sw_nil)))) (by decide +kernel)) ggX5_makerWins_X5_makerWinsAfter
theorem dX5_makerWins_0 : decode cX5_makerWins 0 = .ok (.aload_n 0, 1) := by decide +kernel
theorem dX5_makerWins_1 : decode cX5_makerWins 1 = .ok (.getfield 9, 3) := by decide +kernel
theorem dX5_makerWins_4 : decode cX5_makerWins 4 = .ok (.iload_n 1, 1) := by decide +kernel
theorem dX5_makerWins_5 : decode cX5_makerWins 5 = .ok (.invokevirtual 42, 3) := by decide +kernel
theorem dX5_makerWins_8 : decode cX5_makerWins 8 = .ok (.ifCond .eq 5, 3) := by decide +kernel
theorem dX5_makerWins_11 : decode cX5_makerWins 11 = .ok (.iconst 1, 1) := by decide +kernel
theorem dX5_makerWins_12 : decode cX5_makerWins 12 = .ok (.ireturn, 1) := by decide +kernel
theorem dX5_makerWins_13 : decode cX5_makerWins 13 = .ok (.iload 5, 2) := by decide +kernel
theorem dX5_makerWins_15 : decode cX5_makerWins 15 = .ok (.ifCond .le 14, 3) := by decide +kernel
theorem dX5_makerWins_18 : decode cX5_makerWins 18 = .ok (.aload_n 0, 1) := by decide +kernel
theorem dX5_makerWins_19 : decode cX5_makerWins 19 = .ok (.getfield 9, 3) := by decide +kernel
theorem dX5_makerWins_22 : decode cX5_makerWins 22 = .ok (.iload_n 2, 1) := by decide +kernel
theorem dX5_makerWins_23 : decode cX5_makerWins 23 = .ok (.invokevirtual 46, 3) := by decide +kernel
theorem dX5_makerWins_26 : decode cX5_makerWins 26 = .ok (.ifCond .eq 5, 3) := by decide +kernel
theorem dX5_makerWins_29 : decode cX5_makerWins 29 = .ok (.iconst 0, 1) := by decide +kernel
theorem dX5_makerWins_30 : decode cX5_makerWins 30 = .ok (.ireturn, 1) := by decide +kernel
theorem dX5_makerWins_31 : decode cX5_makerWins 31 = .ok (.aload_n 0, 1) := by decide +kernel
theorem dX5_makerWins_32 : decode cX5_makerWins 32 = .ok (.getfield 15, 3) := by decide +kernel
theorem dX5_makerWins_35 : decode cX5_makerWins 35 = .ok (.iload_n 3, 1) := by decide +kernel
theorem dX5_makerWins_36 : decode cX5_makerWins 36 = .ok (.bipush 16, 2) := by decide +kernel
theorem dX5_makerWins_38 : decode cX5_makerWins 38 = .ok (.idiv, 1) := by decide +kernel
theorem dX5_makerWins_39 : decode cX5_makerWins 39 = .ok (.iaload, 1) := by decide +kernel
theorem dX5_makerWins_40 : decode cX5_makerWins 40 = .ok (.iload_n 3, 1) := by decide +kernel
theorem dX5_makerWins_41 : decode cX5_makerWins 41 = .ok (.invokestatic 49, 3) := by decide +kernel
theorem dX5_makerWins_44 : decode cX5_makerWins 44 = .ok (.ishr, 1) := by decide +kernel
theorem dX5_makerWins_45 : decode cX5_makerWins 45 = .ok (.iconst 3, 1) := by decide +kernel
theorem dX5_makerWins_46 : decode cX5_makerWins 46 = .ok (.iand, 1) := by decide +kernel
theorem dX5_makerWins_47 : decode cX5_makerWins 47 = .ok (.istore 6, 2) := by decide +kernel
theorem dX5_makerWins_49 : decode cX5_makerWins 49 = .ok (.iload 6, 2) := by decide +kernel
theorem dX5_makerWins_51 : decode cX5_makerWins 51 = .ok (.ifCond .eq 15, 3) := by decide +kernel
theorem dX5_makerWins_54 : decode cX5_makerWins 54 = .ok (.iload 6, 2) := by decide +kernel
theorem dX5_makerWins_56 : decode cX5_makerWins 56 = .ok (.iconst 3, 1) := by decide +kernel
theorem dX5_makerWins_57 : decode cX5_makerWins 57 = .ok (.if_icmp .ne 7, 3) := by decide +kernel
theorem dX5_makerWins_60 : decode cX5_makerWins 60 = .ok (.iconst 1, 1) := by decide +kernel
theorem dX5_makerWins_61 : decode cX5_makerWins 61 = .ok (.goto 4, 3) := by decide +kernel
theorem dX5_makerWins_64 : decode cX5_makerWins 64 = .ok (.iconst 0, 1) := by decide +kernel
theorem dX5_makerWins_65 : decode cX5_makerWins 65 = .ok (.ireturn, 1) := by decide +kernel
theorem dX5_makerWins_66 : decode cX5_makerWins 66 = .ok (.aload_n 0, 1) := by decide +kernel
theorem dX5_makerWins_67 : decode cX5_makerWins 67 = .ok (.iload_n 1, 1) := by decide +kernel
theorem dX5_makerWins_68 : decode cX5_makerWins 68 = .ok (.iload_n 2, 1) := by decide +kernel
theorem dX5_makerWins_69 : decode cX5_makerWins 69 = .ok (.invokevirtual 53, 3) := by decide +kernel
theorem dX5_makerWins_72 : decode cX5_makerWins 72 = .ok (.istore 7, 2) := by decide +kernel
theorem dX5_makerWins_74 : decode cX5_makerWins 74 = .ok (.iload 4, 2) := by decide +kernel
theorem dX5_makerWins_76 : decode cX5_makerWins 76 = .ok (.ifCond .ne 7, 3) := by decide +kernel
theorem dX5_makerWins_79 : decode cX5_makerWins 79 = .ok (.iconst 1, 1) := by decide +kernel
theorem dX5_makerWins_80 : decode cX5_makerWins 80 = .ok (.goto 4, 3) := by decide +kernel
theorem dX5_makerWins_83 : decode cX5_makerWins 83 = .ok (.iconst 0, 1) := by decide +kernel
theorem dX5_makerWins_84 : decode cX5_makerWins 84 = .ok (.istore 8, 2) := by decide +kernel
theorem dX5_makerWins_86 : decode cX5_makerWins 86 = .ok (.iconst 0, 1) := by decide +kernel
theorem dX5_makerWins_87 : decode cX5_makerWins 87 = .ok (.istore 9, 2) := by decide +kernel
theorem dX5_makerWins_89 : decode cX5_makerWins 89 = .ok (.iload 9, 2) := by decide +kernel
theorem dX5_makerWins_91 : decode cX5_makerWins 91 = .ok (.aload_n 0, 1) := by decide +kernel
theorem dX5_makerWins_92 : decode cX5_makerWins 92 = .ok (.getfield 9, 3) := by decide +kernel
theorem dX5_makerWins_95 : decode cX5_makerWins 95 = .ok (.getfield 25, 3) := by decide +kernel
theorem dX5_makerWins_98 : decode cX5_makerWins 98 = .ok (.if_icmp .ge 41, 3) := by decide +kernel
theorem dX5_makerWins_101 : decode cX5_makerWins 101 = .ok (.iload 8, 2) := by decide +kernel
theorem dX5_makerWins_103 : decode cX5_makerWins 103 = .ok (.iload 4, 2) := by decide +kernel
theorem dX5_makerWins_105 : decode cX5_makerWins 105 = .ok (.if_icmp .eq 34, 3) := by decide +kernel
theorem dX5_makerWins_108 : decode cX5_makerWins 108 = .ok (.iload 7, 2) := by decide +kernel
theorem dX5_makerWins_110 : decode cX5_makerWins 110 = .ok (.iload 9, 2) := by decide +kernel
theorem dX5_makerWins_112 : decode cX5_makerWins 112 = .ok (.invokestatic 57, 3) := by decide +kernel
theorem dX5_makerWins_115 : decode cX5_makerWins 115 = .ok (.ifCond .eq 18, 3) := by decide +kernel
theorem dX5_makerWins_118 : decode cX5_makerWins 118 = .ok (.aload_n 0, 1) := by decide +kernel
theorem dX5_makerWins_119 : decode cX5_makerWins 119 = .ok (.iload 9, 2) := by decide +kernel
theorem dX5_makerWins_121 : decode cX5_makerWins 121 = .ok (.iload_n 1, 1) := by decide +kernel
theorem dX5_makerWins_122 : decode cX5_makerWins 122 = .ok (.iload_n 2, 1) := by decide +kernel
theorem dX5_makerWins_123 : decode cX5_makerWins 123 = .ok (.iload_n 3, 1) := by decide +kernel
theorem dX5_makerWins_124 : decode cX5_makerWins 124 = .ok (.iload 4, 2) := by decide +kernel
theorem dX5_makerWins_126 : decode cX5_makerWins 126 = .ok (.iload 5, 2) := by decide +kernel
theorem dX5_makerWins_128 : decode cX5_makerWins 128 = .ok (.invokevirtual 31, 3) := by decide +kernel
theorem dX5_makerWins_131 : decode cX5_makerWins 131 = .ok (.istore 8, 2) := by decide +kernel
theorem dX5_makerWins_133 : decode cX5_makerWins 133 = .ok (.iinc 9 1, 3) := by decide +kernel
theorem dX5_makerWins_136 : decode cX5_makerWins 136 = .ok (.goto (-47), 3) := by decide +kernel
theorem dX5_makerWins_139 : decode cX5_makerWins 139 = .ok (.aload_n 0, 1) := by decide +kernel
theorem dX5_makerWins_140 : decode cX5_makerWins 140 = .ok (.getfield 15, 3) := by decide +kernel
theorem dX5_makerWins_143 : decode cX5_makerWins 143 = .ok (.iload_n 3, 1) := by decide +kernel
theorem dX5_makerWins_144 : decode cX5_makerWins 144 = .ok (.bipush 16, 2) := by decide +kernel
theorem dX5_makerWins_146 : decode cX5_makerWins 146 = .ok (.idiv, 1) := by decide +kernel
theorem dX5_makerWins_147 : decode cX5_makerWins 147 = .ok (.dup2, 1) := by decide +kernel
theorem dX5_makerWins_148 : decode cX5_makerWins 148 = .ok (.iaload, 1) := by decide +kernel
theorem dX5_makerWins_149 : decode cX5_makerWins 149 = .ok (.iload 8, 2) := by decide +kernel
theorem dX5_makerWins_151 : decode cX5_makerWins 151 = .ok (.ifCond .eq 7, 3) := by decide +kernel
theorem dX5_makerWins_154 : decode cX5_makerWins 154 = .ok (.iconst 3, 1) := by decide +kernel
theorem dX5_makerWins_155 : decode cX5_makerWins 155 = .ok (.goto 4, 3) := by decide +kernel
theorem dX5_makerWins_158 : decode cX5_makerWins 158 = .ok (.iconst 2, 1) := by decide +kernel
theorem dX5_makerWins_159 : decode cX5_makerWins 159 = .ok (.iload_n 3, 1) := by decide +kernel
theorem dX5_makerWins_160 : decode cX5_makerWins 160 = .ok (.invokestatic 49, 3) := by decide +kernel
theorem dX5_makerWins_163 : decode cX5_makerWins 163 = .ok (.ishl, 1) := by decide +kernel
theorem dX5_makerWins_164 : decode cX5_makerWins 164 = .ok (.ior, 1) := by decide +kernel
theorem dX5_makerWins_165 : decode cX5_makerWins 165 = .ok (.iastore, 1) := by decide +kernel
theorem dX5_makerWins_166 : decode cX5_makerWins 166 = .ok (.iload 8, 2) := by decide +kernel
theorem dX5_makerWins_168 : decode cX5_makerWins 168 = .ok (.ireturn, 1) := by decide +kernel
set_option maxRecDepth 20000 in
theorem ggX5_worthTaking_X9_has : GoodIn wsX5_worthTaking wsX9_has := sw_good (sw_cons (t1_ (al_ (al_ (t4_ (t1_ h1_))))) sw_nil) (by decide +kernel)
set_option maxRecDepth 20000 in
theorem gX5_worthTaking_X9_has_n57 : GoodIn wsX5_worthTaking (wsX9_has) := ggX5_worthTaking_X9_has
set_option maxRecDepth 20000 in
theorem ggX5_worthTaking_X6_hasSetIn : GoodIn wsX5_worthTaking wsX6_hasSetIn := sw_good (sw_cons (t1_ (al_ (al_ (t4_ (t4_ (t1_ (t1_ h1_))))))) (sw_app (sw_cons (t1_ (al_ (al_ (t4_ (t4_ (t1_ (t1_ (t1_ h1_)))))))) sw_nil) (fun _ h => (t1_ (ar_ h))))) (by decide +kernel)
set_option maxRecDepth 20000 in
theorem gX5_worthTaking_X6_hasSetIn : GoodIn wsX5_worthTaking (wsV RX5 42 RX6 yX6_hasSetIn wsX6_hasSetIn) := goodIn_app (sw_good (sw_cons (t1_ (al_ (al_ (t4_ (t1_ (t1_ h1_)))))) (sw_cons (t1_ (al_ (al_ (t4_ (t1_ (t1_ (t1_ h1_))))))) (sw_cons (t1_ (al_ (al_ (t4_ (t4_ h1_))))) (sw_cons (t1_ (al_ (al_ (t4_ (t4_ (t1_ h1_)))))) sw_nil)))) (by decide +kernel)) ggX5_worthTaking_X6_hasSetIn
set_option maxRecDepth 20000 in
theorem ggX5_worthTaking_X6_isMeeter : GoodIn wsX5_worthTaking wsX6_isMeeter := sw_good (sw_cons (t1_ (al_ (al_ (t4_ (t4_ (t4_ (t1_ (t1_ (t1_ h1_))))))))) (sw_app (sw_cons (t1_ (al_ (al_ (t4_ (t4_ (t1_ (t1_ (t1_ h1_)))))))) (sw_cons (t1_ (al_ (al_ (t16_ h1_)))) sw_nil)) (fun _ h => (t1_ (ar_ h))))) (by decide +kernel)
set_option maxRecDepth 20000 in
theorem gX5_worthTaking_X6_isMeeter : GoodIn wsX5_worthTaking (wsV RX5 46 RX6 yX6_isMeeter wsX6_isMeeter) := goodIn_app (sw_good (sw_cons (t1_ (al_ (al_ (t4_ (t4_ (t4_ h1_)))))) (sw_cons (t1_ (al_ (al_ (t4_ (t4_ (t4_ (t1_ h1_))))))) (sw_cons (t1_ (al_ (al_ (t4_ (t4_ (t4_ (t1_ (t1_ h1_)))))))) (sw_cons (t1_ (al_ (al_ (t4_ (t4_ (t1_ h1_)))))) sw_nil)))) (by decide +kernel)) ggX5_worthTaking_X6_isMeeter
theorem dX5_worthTaking_0 : decode cX5_worthTaking 0 = .ok (.iconst 0, 1) := by decide +kernel
theorem dX5_worthTaking_1 : decode cX5_worthTaking 1 = .ok (.istore_n 3, 1) := by decide +kernel
theorem dX5_worthTaking_2 : decode cX5_worthTaking 2 = .ok (.aload_n 0, 1) := by decide +kernel
theorem dX5_worthTaking_3 : decode cX5_worthTaking 3 = .ok (.getfield 9, 3) := by decide +kernel
theorem dX5_worthTaking_6 : decode cX5_worthTaking 6 = .ok (.getfield 61, 3) := by decide +kernel
theorem dX5_worthTaking_9 : decode cX5_worthTaking 9 = .ok (.iconst 1, 1) := by decide +kernel
theorem dX5_worthTaking_10 : decode cX5_worthTaking 10 = .ok (.isub, 1) := by decide +kernel
theorem dX5_worthTaking_11 : decode cX5_worthTaking 11 = .ok (.iload_n 1, 1) := by decide +kernel
theorem dX5_worthTaking_12 : decode cX5_worthTaking 12 = .ok (.iload_n 2, 1) := by decide +kernel
theorem dX5_worthTaking_13 : decode cX5_worthTaking 13 = .ok (.ior, 1) := by decide +kernel
theorem dX5_worthTaking_14 : decode cX5_worthTaking 14 = .ok (.iconst (-1), 1) := by decide +kernel
theorem dX5_worthTaking_15 : decode cX5_worthTaking 15 = .ok (.ixor, 1) := by decide +kernel
theorem dX5_worthTaking_16 : decode cX5_worthTaking 16 = .ok (.iand, 1) := by decide +kernel
theorem dX5_worthTaking_17 : decode cX5_worthTaking 17 = .ok (.istore 4, 2) := by decide +kernel
theorem dX5_worthTaking_19 : decode cX5_worthTaking 19 = .ok (.iconst 0, 1) := by decide +kernel
theorem dX5_worthTaking_20 : decode cX5_worthTaking 20 = .ok (.istore 5, 2) := by decide +kernel
theorem dX5_worthTaking_22 : decode cX5_worthTaking 22 = .ok (.iload 5, 2) := by decide +kernel
theorem dX5_worthTaking_24 : decode cX5_worthTaking 24 = .ok (.aload_n 0, 1) := by decide +kernel
theorem dX5_worthTaking_25 : decode cX5_worthTaking 25 = .ok (.getfield 9, 3) := by decide +kernel
theorem dX5_worthTaking_28 : decode cX5_worthTaking 28 = .ok (.getfield 25, 3) := by decide +kernel
theorem dX5_worthTaking_31 : decode cX5_worthTaking 31 = .ok (.if_icmp .ge 58, 3) := by decide +kernel
theorem dX5_worthTaking_34 : decode cX5_worthTaking 34 = .ok (.iconst 1, 1) := by decide +kernel
theorem dX5_worthTaking_35 : decode cX5_worthTaking 35 = .ok (.iload 5, 2) := by decide +kernel
theorem dX5_worthTaking_37 : decode cX5_worthTaking 37 = .ok (.ishl, 1) := by decide +kernel
theorem dX5_worthTaking_38 : decode cX5_worthTaking 38 = .ok (.istore 6, 2) := by decide +kernel
theorem dX5_worthTaking_40 : decode cX5_worthTaking 40 = .ok (.iload 4, 2) := by decide +kernel
theorem dX5_worthTaking_42 : decode cX5_worthTaking 42 = .ok (.iload 5, 2) := by decide +kernel
theorem dX5_worthTaking_44 : decode cX5_worthTaking 44 = .ok (.invokestatic 57, 3) := by decide +kernel
theorem dX5_worthTaking_47 : decode cX5_worthTaking 47 = .ok (.ifCond .eq 36, 3) := by decide +kernel
theorem dX5_worthTaking_50 : decode cX5_worthTaking 50 = .ok (.aload_n 0, 1) := by decide +kernel
theorem dX5_worthTaking_51 : decode cX5_worthTaking 51 = .ok (.getfield 9, 3) := by decide +kernel
theorem dX5_worthTaking_54 : decode cX5_worthTaking 54 = .ok (.iload_n 1, 1) := by decide +kernel
theorem dX5_worthTaking_55 : decode cX5_worthTaking 55 = .ok (.iload 6, 2) := by decide +kernel
theorem dX5_worthTaking_57 : decode cX5_worthTaking 57 = .ok (.ior, 1) := by decide +kernel
theorem dX5_worthTaking_58 : decode cX5_worthTaking 58 = .ok (.invokevirtual 42, 3) := by decide +kernel
theorem dX5_worthTaking_61 : decode cX5_worthTaking 61 = .ok (.ifCond .ne 17, 3) := by decide +kernel
theorem dX5_worthTaking_64 : decode cX5_worthTaking 64 = .ok (.aload_n 0, 1) := by decide +kernel
theorem dX5_worthTaking_65 : decode cX5_worthTaking 65 = .ok (.getfield 9, 3) := by decide +kernel
theorem dX5_worthTaking_68 : decode cX5_worthTaking 68 = .ok (.iload_n 2, 1) := by decide +kernel
theorem dX5_worthTaking_69 : decode cX5_worthTaking 69 = .ok (.iload 6, 2) := by decide +kernel
theorem dX5_worthTaking_71 : decode cX5_worthTaking 71 = .ok (.ior, 1) := by decide +kernel
theorem dX5_worthTaking_72 : decode cX5_worthTaking 72 = .ok (.invokevirtual 46, 3) := by decide +kernel
theorem dX5_worthTaking_75 : decode cX5_worthTaking 75 = .ok (.ifCond .eq 8, 3) := by decide +kernel
theorem dX5_worthTaking_78 : decode cX5_worthTaking 78 = .ok (.iload_n 3, 1) := by decide +kernel
theorem dX5_worthTaking_79 : decode cX5_worthTaking 79 = .ok (.iload 6, 2) := by decide +kernel
theorem dX5_worthTaking_81 : decode cX5_worthTaking 81 = .ok (.ior, 1) := by decide +kernel
theorem dX5_worthTaking_82 : decode cX5_worthTaking 82 = .ok (.istore_n 3, 1) := by decide +kernel
theorem dX5_worthTaking_83 : decode cX5_worthTaking 83 = .ok (.iinc 5 1, 3) := by decide +kernel
theorem dX5_worthTaking_86 : decode cX5_worthTaking 86 = .ok (.goto (-64), 3) := by decide +kernel
theorem dX5_worthTaking_89 : decode cX5_worthTaking 89 = .ok (.iload_n 3, 1) := by decide +kernel
theorem dX5_worthTaking_90 : decode cX5_worthTaking 90 = .ok (.ifCond .eq 7, 3) := by decide +kernel
theorem dX5_worthTaking_93 : decode cX5_worthTaking 93 = .ok (.iload_n 3, 1) := by decide +kernel
theorem dX5_worthTaking_94 : decode cX5_worthTaking 94 = .ok (.goto 5, 3) := by decide +kernel
theorem dX5_worthTaking_97 : decode cX5_worthTaking 97 = .ok (.iload 4, 2) := by decide +kernel
theorem dX5_worthTaking_99 : decode cX5_worthTaking 99 = .ok (.ireturn, 1) := by decide +kernel
theorem dX5_shiftOf_0 : decode cX5_shiftOf 0 = .ok (.iload_n 0, 1) := by decide +kernel
theorem dX5_shiftOf_1 : decode cX5_shiftOf 1 = .ok (.bipush 16, 2) := by decide +kernel
theorem dX5_shiftOf_3 : decode cX5_shiftOf 3 = .ok (.irem, 1) := by decide +kernel
theorem dX5_shiftOf_4 : decode cX5_shiftOf 4 = .ok (.iconst 2, 1) := by decide +kernel
theorem dX5_shiftOf_5 : decode cX5_shiftOf 5 = .ok (.imul, 1) := by decide +kernel
theorem dX5_shiftOf_6 : decode cX5_shiftOf 6 = .ok (.ireturn, 1) := by decide +kernel
