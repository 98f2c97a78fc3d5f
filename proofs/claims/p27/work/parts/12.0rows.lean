theorem dX1_init_0 : decode cX1_init 0 = .ok (.aload_n 0, 1) := by decide +kernel
theorem dX1_init_1 : decode cX1_init 1 = .ok (.invokespecial 1, 3) := by decide +kernel
theorem dX1_init_4 : decode cX1_init 4 = .ok (.aload_n 0, 1) := by decide +kernel
theorem dX1_init_5 : decode cX1_init 5 = .ok (.aload_n 1, 1) := by decide +kernel
theorem dX1_init_6 : decode cX1_init 6 = .ok (.putfield 7, 3) := by decide +kernel
theorem dX1_init_9 : decode cX1_init 9 = .ok (.return_, 1) := by decide +kernel
set_option maxRecDepth 20000 in
theorem ggX1_waysBy_X1_waysByTwo : GoodIn wsX1_waysBy wsX1_waysByTwo := sw_good (sw_cons (t1_ (al_ (al_ (t4_ (t1_ (t1_ h1_)))))) (sw_app (sw_app (sw_cons (t1_ (al_ (al_ h1_))) (sw_cons (t1_ (al_ (al_ (t4_ (t1_ (t1_ (t1_ h1_))))))) (sw_cons (t1_ (al_ (al_ (t4_ (t4_ h1_))))) (sw_cons (t1_ (al_ (al_ (t4_ (t4_ (t1_ h1_)))))) (sw_cons (t1_ (al_ (al_ (t4_ (t4_ (t1_ (t1_ h1_))))))) (sw_cons (t1_ (al_ (al_ (t4_ (t4_ (t1_ (t1_ (t1_ h1_)))))))) (sw_cons (t1_ (al_ (al_ (t4_ (t4_ (t4_ h1_)))))) (sw_cons (t1_ (al_ (al_ (t4_ (t4_ (t4_ (t1_ h1_))))))) (sw_cons (t1_ (al_ (al_ (t4_ (t4_ (t4_ (t1_ (t1_ h1_)))))))) (sw_cons (t1_ (al_ (al_ (t4_ (t4_ (t4_ (t1_ (t1_ (t1_ h1_))))))))) (sw_cons (t1_ (al_ (al_ (t16_ h1_)))) (sw_cons (t1_ (al_ (al_ (t16_ (t1_ h1_))))) (sw_cons (t1_ (al_ (al_ (t16_ (t1_ (t1_ h1_)))))) (sw_cons (t1_ (al_ (al_ (t16_ (t1_ (t1_ (t1_ h1_))))))) sw_nil)))))))))))))) (fun _ h => (t1_ (al_ (ar_ h))))) (fun _ h => (t1_ (ar_ h))))) (by decide +kernel)
set_option maxRecDepth 20000 in
theorem gX1_waysBy_X1_waysByTwo : GoodIn wsX1_waysBy (wsV RX1 19 RX1 yX1_waysByTwo wsX1_waysByTwo) := goodIn_app (sw_good (sw_cons (t1_ (al_ (al_ (t1_ (t1_ h1_))))) (sw_cons (t1_ (al_ (al_ (t1_ (t1_ (t1_ h1_)))))) (sw_cons (t1_ (al_ (al_ (t4_ h1_)))) (sw_cons (t1_ (al_ (al_ (t4_ (t1_ h1_))))) sw_nil)))) (by decide +kernel)) ggX1_waysBy_X1_waysByTwo
set_option maxRecDepth 20000 in
theorem ggX1_waysBy_X1_waysByOne : GoodIn wsX1_waysBy wsX1_waysByOne := sw_good (sw_cons (t1_ (al_ (al_ (t16_ (t4_ (t1_ (t1_ (t1_ h1_)))))))) (sw_app (sw_app (sw_cons (t1_ (al_ (al_ h1_))) (sw_cons (t1_ (al_ (al_ (t4_ (t1_ (t1_ (t1_ h1_))))))) (sw_cons (t1_ (al_ (al_ (t4_ (t4_ h1_))))) (sw_cons (t1_ (al_ (al_ (t4_ (t4_ (t1_ h1_)))))) (sw_cons (t1_ (al_ (al_ (t4_ (t4_ (t1_ (t1_ h1_))))))) (sw_cons (t1_ (al_ (al_ (t4_ (t4_ (t1_ (t1_ (t1_ h1_)))))))) (sw_cons (t1_ (al_ (al_ (t4_ (t4_ (t4_ h1_)))))) sw_nil))))))) (fun _ h => (t1_ (al_ (ar_ h))))) (fun _ h => (t1_ (ar_ h))))) (by decide +kernel)
set_option maxRecDepth 20000 in
theorem gX1_waysBy_X1_waysByOne : GoodIn wsX1_waysBy (wsV RX1 23 RX1 yX1_waysByOne wsX1_waysByOne) := goodIn_app (sw_good (sw_cons (t1_ (al_ (al_ (t16_ (t4_ h1_))))) (sw_cons (t1_ (al_ (al_ (t16_ (t4_ (t1_ h1_)))))) (sw_cons (t1_ (al_ (al_ (t16_ (t4_ (t1_ (t1_ h1_))))))) (sw_cons (t1_ (al_ (al_ (t4_ (t1_ h1_))))) sw_nil)))) (by decide +kernel)) ggX1_waysBy_X1_waysByOne
theorem dX1_waysBy_0 : decode cX1_waysBy 0 = .ok (.aload_n 0, 1) := by decide +kernel
theorem dX1_waysBy_1 : decode cX1_waysBy 1 = .ok (.getfield 7, 3) := by decide +kernel
theorem dX1_waysBy_4 : decode cX1_waysBy 4 = .ok (.getfield 13, 3) := by decide +kernel
theorem dX1_waysBy_7 : decode cX1_waysBy 7 = .ok (.iconst 1, 1) := by decide +kernel
theorem dX1_waysBy_8 : decode cX1_waysBy 8 = .ok (.isub, 1) := by decide +kernel
theorem dX1_waysBy_9 : decode cX1_waysBy 9 = .ok (.istore_n 2, 1) := by decide +kernel
theorem dX1_waysBy_10 : decode cX1_waysBy 10 = .ok (.iload_n 1, 1) := by decide +kernel
theorem dX1_waysBy_11 : decode cX1_waysBy 11 = .ok (.iconst 2, 1) := by decide +kernel
theorem dX1_waysBy_12 : decode cX1_waysBy 12 = .ok (.if_icmp .ne 9, 3) := by decide +kernel
theorem dX1_waysBy_15 : decode cX1_waysBy 15 = .ok (.aload_n 0, 1) := by decide +kernel
theorem dX1_waysBy_16 : decode cX1_waysBy 16 = .ok (.iload_n 2, 1) := by decide +kernel
theorem dX1_waysBy_17 : decode cX1_waysBy 17 = .ok (.invokevirtual 19, 3) := by decide +kernel
theorem dX1_waysBy_20 : decode cX1_waysBy 20 = .ok (.ireturn, 1) := by decide +kernel
theorem dX1_waysBy_21 : decode cX1_waysBy 21 = .ok (.iconst 0, 1) := by decide +kernel
theorem dX1_waysBy_22 : decode cX1_waysBy 22 = .ok (.istore_n 3, 1) := by decide +kernel
theorem dX1_waysBy_23 : decode cX1_waysBy 23 = .ok (.iconst 1, 1) := by decide +kernel
theorem dX1_waysBy_24 : decode cX1_waysBy 24 = .ok (.istore 4, 2) := by decide +kernel
theorem dX1_waysBy_26 : decode cX1_waysBy 26 = .ok (.iload 4, 2) := by decide +kernel
theorem dX1_waysBy_28 : decode cX1_waysBy 28 = .ok (.iload_n 2, 1) := by decide +kernel
theorem dX1_waysBy_29 : decode cX1_waysBy 29 = .ok (.if_icmp .gt 50, 3) := by decide +kernel
theorem dX1_waysBy_32 : decode cX1_waysBy 32 = .ok (.iload_n 1, 1) := by decide +kernel
theorem dX1_waysBy_33 : decode cX1_waysBy 33 = .ok (.iconst 3, 1) := by decide +kernel
theorem dX1_waysBy_34 : decode cX1_waysBy 34 = .ok (.if_icmp .ne 12, 3) := by decide +kernel
theorem dX1_waysBy_37 : decode cX1_waysBy 37 = .ok (.aload_n 0, 1) := by decide +kernel
theorem dX1_waysBy_38 : decode cX1_waysBy 38 = .ok (.iload 4, 2) := by decide +kernel
theorem dX1_waysBy_40 : decode cX1_waysBy 40 = .ok (.invokevirtual 23, 3) := by decide +kernel
theorem dX1_waysBy_43 : decode cX1_waysBy 43 = .ok (.goto 9, 3) := by decide +kernel
theorem dX1_waysBy_46 : decode cX1_waysBy 46 = .ok (.aload_n 0, 1) := by decide +kernel
theorem dX1_waysBy_47 : decode cX1_waysBy 47 = .ok (.iload 4, 2) := by decide +kernel
theorem dX1_waysBy_49 : decode cX1_waysBy 49 = .ok (.invokevirtual 19, 3) := by decide +kernel
theorem dX1_waysBy_52 : decode cX1_waysBy 52 = .ok (.istore 5, 2) := by decide +kernel
theorem dX1_waysBy_54 : decode cX1_waysBy 54 = .ok (.iload 5, 2) := by decide +kernel
theorem dX1_waysBy_56 : decode cX1_waysBy 56 = .ok (.ifCond .eq 17, 3) := by decide +kernel
theorem dX1_waysBy_59 : decode cX1_waysBy 59 = .ok (.iload_n 3, 1) := by decide +kernel
theorem dX1_waysBy_60 : decode cX1_waysBy 60 = .ok (.iload 5, 2) := by decide +kernel
theorem dX1_waysBy_62 : decode cX1_waysBy 62 = .ok (.aload_n 0, 1) := by decide +kernel
theorem dX1_waysBy_63 : decode cX1_waysBy 63 = .ok (.iload_n 2, 1) := by decide +kernel
theorem dX1_waysBy_64 : decode cX1_waysBy 64 = .ok (.iload 4, 2) := by decide +kernel
theorem dX1_waysBy_66 : decode cX1_waysBy 66 = .ok (.ixor, 1) := by decide +kernel
theorem dX1_waysBy_67 : decode cX1_waysBy 67 = .ok (.invokevirtual 19, 3) := by decide +kernel
theorem dX1_waysBy_70 : decode cX1_waysBy 70 = .ok (.imul, 1) := by decide +kernel
theorem dX1_waysBy_71 : decode cX1_waysBy 71 = .ok (.iadd, 1) := by decide +kernel
theorem dX1_waysBy_72 : decode cX1_waysBy 72 = .ok (.istore_n 3, 1) := by decide +kernel
theorem dX1_waysBy_73 : decode cX1_waysBy 73 = .ok (.iinc 4 2, 3) := by decide +kernel
theorem dX1_waysBy_76 : decode cX1_waysBy 76 = .ok (.goto (-50), 3) := by decide +kernel
theorem dX1_waysBy_79 : decode cX1_waysBy 79 = .ok (.iload_n 1, 1) := by decide +kernel
theorem dX1_waysBy_80 : decode cX1_waysBy 80 = .ok (.iconst 3, 1) := by decide +kernel
theorem dX1_waysBy_81 : decode cX1_waysBy 81 = .ok (.if_icmp .ne 9, 3) := by decide +kernel
theorem dX1_waysBy_84 : decode cX1_waysBy 84 = .ok (.iconst 3, 1) := by decide +kernel
theorem dX1_waysBy_85 : decode cX1_waysBy 85 = .ok (.iload_n 3, 1) := by decide +kernel
theorem dX1_waysBy_86 : decode cX1_waysBy 86 = .ok (.imul, 1) := by decide +kernel
theorem dX1_waysBy_87 : decode cX1_waysBy 87 = .ok (.goto 6, 3) := by decide +kernel
theorem dX1_waysBy_90 : decode cX1_waysBy 90 = .ok (.iconst 2, 1) := by decide +kernel
theorem dX1_waysBy_91 : decode cX1_waysBy 91 = .ok (.iload_n 3, 1) := by decide +kernel
theorem dX1_waysBy_92 : decode cX1_waysBy 92 = .ok (.imul, 1) := by decide +kernel
theorem dX1_waysBy_93 : decode cX1_waysBy 93 = .ok (.ireturn, 1) := by decide +kernel
set_option maxRecDepth 20000 in
theorem ggX1_waysByOne_X6_hasSetIn : GoodIn wsX1_waysByOne wsX6_hasSetIn := sw_good (sw_cons (t1_ (al_ (al_ (t4_ (t1_ h1_))))) (sw_app (sw_cons (t1_ (al_ (al_ (t4_ (t1_ (t1_ h1_)))))) sw_nil) (fun _ h => (t1_ (ar_ h))))) (by decide +kernel)
set_option maxRecDepth 20000 in
theorem gX1_waysByOne_X6_hasSetIn : GoodIn wsX1_waysByOne (wsV RX1 26 RX6 yX6_hasSetIn wsX6_hasSetIn) := goodIn_app (sw_good (sw_cons (t1_ (al_ (al_ (t1_ h1_)))) (sw_cons (t1_ (al_ (al_ (t1_ (t1_ h1_))))) (sw_cons (t1_ (al_ (al_ (t1_ (t1_ (t1_ h1_)))))) (sw_cons (t1_ (al_ (al_ (t4_ h1_)))) sw_nil)))) (by decide +kernel)) ggX1_waysByOne_X6_hasSetIn
theorem dX1_waysByOne_0 : decode cX1_waysByOne 0 = .ok (.aload_n 0, 1) := by decide +kernel
theorem dX1_waysByOne_1 : decode cX1_waysByOne 1 = .ok (.getfield 7, 3) := by decide +kernel
theorem dX1_waysByOne_4 : decode cX1_waysByOne 4 = .ok (.iload_n 1, 1) := by decide +kernel
theorem dX1_waysByOne_5 : decode cX1_waysByOne 5 = .ok (.invokevirtual 26, 3) := by decide +kernel
theorem dX1_waysByOne_8 : decode cX1_waysByOne 8 = .ok (.ifCond .eq 7, 3) := by decide +kernel
theorem dX1_waysByOne_11 : decode cX1_waysByOne 11 = .ok (.iconst 0, 1) := by decide +kernel
theorem dX1_waysByOne_12 : decode cX1_waysByOne 12 = .ok (.goto 4, 3) := by decide +kernel
theorem dX1_waysByOne_15 : decode cX1_waysByOne 15 = .ok (.iconst 1, 1) := by decide +kernel
theorem dX1_waysByOne_16 : decode cX1_waysByOne 16 = .ok (.ireturn, 1) := by decide +kernel
set_option maxRecDepth 20000 in
theorem ggX1_waysByTwo_X6_hasSetIn : GoodIn wsX1_waysByTwo wsX6_hasSetIn := sw_good (sw_cons (t1_ (al_ (al_ (t4_ (t1_ h1_))))) (sw_app (sw_cons (t1_ (al_ (al_ (t4_ (t1_ (t1_ h1_)))))) sw_nil) (fun _ h => (t1_ (ar_ h))))) (by decide +kernel)
set_option maxRecDepth 20000 in
theorem gX1_waysByTwo_X6_hasSetIn : GoodIn wsX1_waysByTwo (wsV RX1 26 RX6 yX6_hasSetIn wsX6_hasSetIn) := goodIn_app (sw_good (sw_cons (t1_ (al_ (al_ (t1_ h1_)))) (sw_cons (t1_ (al_ (al_ (t1_ (t1_ h1_))))) (sw_cons (t1_ (al_ (al_ (t1_ (t1_ (t1_ h1_)))))) (sw_cons (t1_ (al_ (al_ (t4_ h1_)))) sw_nil)))) (by decide +kernel)) ggX1_waysByTwo_X6_hasSetIn
set_option maxRecDepth 20000 in
theorem ggX1_waysByTwo_J6_bitCount_0f7a4 : GoodIn wsX1_waysByTwo wsJ6_bitCount_0f7a4 := sw_good (sw_cons (t1_ (al_ (al_ (t4_ (t4_ (t1_ (t1_ h1_))))))) (sw_cons (t1_ (al_ (al_ (t4_ (t4_ (t1_ (t1_ (t1_ h1_)))))))) (sw_cons (t1_ (al_ (al_ (t4_ (t4_ (t4_ h1_)))))) (sw_cons (t1_ (al_ (al_ (t4_ (t4_ (t4_ (t1_ h1_))))))) sw_nil)))) (by decide +kernel)
set_option maxRecDepth 20000 in
theorem gX1_waysByTwo_J6_bitCount_0f7a4 : GoodIn wsX1_waysByTwo (va_wsS RX1 30 yJ6_bitCount_0f7a4 wsJ6_bitCount_0f7a4) := goodIn_app (sw_good (sw_cons (t1_ (al_ (al_ (t4_ (t1_ (t1_ (t1_ h1_))))))) (sw_cons (t1_ (al_ (al_ (t4_ (t4_ h1_))))) (sw_cons (t1_ (al_ (al_ (t4_ (t4_ (t1_ h1_)))))) sw_nil))) (by decide +kernel)) ggX1_waysByTwo_J6_bitCount_0f7a4
theorem dX1_waysByTwo_0 : decode cX1_waysByTwo 0 = .ok (.aload_n 0, 1) := by decide +kernel
theorem dX1_waysByTwo_1 : decode cX1_waysByTwo 1 = .ok (.getfield 7, 3) := by decide +kernel
theorem dX1_waysByTwo_4 : decode cX1_waysByTwo 4 = .ok (.iload_n 1, 1) := by decide +kernel
theorem dX1_waysByTwo_5 : decode cX1_waysByTwo 5 = .ok (.invokevirtual 26, 3) := by decide +kernel
theorem dX1_waysByTwo_8 : decode cX1_waysByTwo 8 = .ok (.ifCond .ne 10, 3) := by decide +kernel
theorem dX1_waysByTwo_11 : decode cX1_waysByTwo 11 = .ok (.iconst 1, 1) := by decide +kernel
theorem dX1_waysByTwo_12 : decode cX1_waysByTwo 12 = .ok (.iload_n 1, 1) := by decide +kernel
theorem dX1_waysByTwo_13 : decode cX1_waysByTwo 13 = .ok (.invokestatic 30, 3) := by decide +kernel
theorem dX1_waysByTwo_16 : decode cX1_waysByTwo 16 = .ok (.ishl, 1) := by decide +kernel
theorem dX1_waysByTwo_17 : decode cX1_waysByTwo 17 = .ok (.ireturn, 1) := by decide +kernel
theorem dX1_waysByTwo_18 : decode cX1_waysByTwo 18 = .ok (.iload_n 1, 1) := by decide +kernel
theorem dX1_waysByTwo_19 : decode cX1_waysByTwo 19 = .ok (.iload_n 1, 1) := by decide +kernel
theorem dX1_waysByTwo_20 : decode cX1_waysByTwo 20 = .ok (.iconst 1, 1) := by decide +kernel
theorem dX1_waysByTwo_21 : decode cX1_waysByTwo 21 = .ok (.isub, 1) := by decide +kernel
theorem dX1_waysByTwo_22 : decode cX1_waysByTwo 22 = .ok (.iand, 1) := by decide +kernel
theorem dX1_waysByTwo_23 : decode cX1_waysByTwo 23 = .ok (.istore_n 2, 1) := by decide +kernel
theorem dX1_waysByTwo_24 : decode cX1_waysByTwo 24 = .ok (.iconst 1, 1) := by decide +kernel
theorem dX1_waysByTwo_25 : decode cX1_waysByTwo 25 = .ok (.iload_n 2, 1) := by decide +kernel
theorem dX1_waysByTwo_26 : decode cX1_waysByTwo 26 = .ok (.invokestatic 30, 3) := by decide +kernel
theorem dX1_waysByTwo_29 : decode cX1_waysByTwo 29 = .ok (.ishl, 1) := by decide +kernel
theorem dX1_waysByTwo_30 : decode cX1_waysByTwo 30 = .ok (.istore_n 3, 1) := by decide +kernel
theorem dX1_waysByTwo_31 : decode cX1_waysByTwo 31 = .ok (.iconst 0, 1) := by decide +kernel
theorem dX1_waysByTwo_32 : decode cX1_waysByTwo 32 = .ok (.istore 4, 2) := by decide +kernel
theorem dX1_waysByTwo_34 : decode cX1_waysByTwo 34 = .ok (.iconst 0, 1) := by decide +kernel
theorem dX1_waysByTwo_35 : decode cX1_waysByTwo 35 = .ok (.istore 5, 2) := by decide +kernel
theorem dX1_waysByTwo_37 : decode cX1_waysByTwo 37 = .ok (.iconst 0, 1) := by decide +kernel
theorem dX1_waysByTwo_38 : decode cX1_waysByTwo 38 = .ok (.istore 6, 2) := by decide +kernel
theorem dX1_waysByTwo_40 : decode cX1_waysByTwo 40 = .ok (.iload 6, 2) := by decide +kernel
theorem dX1_waysByTwo_42 : decode cX1_waysByTwo 42 = .ok (.iload_n 3, 1) := by decide +kernel
theorem dX1_waysByTwo_43 : decode cX1_waysByTwo 43 = .ok (.if_icmp .ge 46, 3) := by decide +kernel
theorem dX1_waysByTwo_46 : decode cX1_waysByTwo 46 = .ok (.aload_n 0, 1) := by decide +kernel
theorem dX1_waysByTwo_47 : decode cX1_waysByTwo 47 = .ok (.getfield 7, 3) := by decide +kernel
theorem dX1_waysByTwo_50 : decode cX1_waysByTwo 50 = .ok (.iload 5, 2) := by decide +kernel
theorem dX1_waysByTwo_52 : decode cX1_waysByTwo 52 = .ok (.invokevirtual 26, 3) := by decide +kernel
theorem dX1_waysByTwo_55 : decode cX1_waysByTwo 55 = .ok (.ifCond .ne 20, 3) := by decide +kernel
theorem dX1_waysByTwo_58 : decode cX1_waysByTwo 58 = .ok (.aload_n 0, 1) := by decide +kernel
theorem dX1_waysByTwo_59 : decode cX1_waysByTwo 59 = .ok (.getfield 7, 3) := by decide +kernel
theorem dX1_waysByTwo_62 : decode cX1_waysByTwo 62 = .ok (.iload_n 1, 1) := by decide +kernel
theorem dX1_waysByTwo_63 : decode cX1_waysByTwo 63 = .ok (.iload 5, 2) := by decide +kernel
theorem dX1_waysByTwo_65 : decode cX1_waysByTwo 65 = .ok (.ixor, 1) := by decide +kernel
theorem dX1_waysByTwo_66 : decode cX1_waysByTwo 66 = .ok (.invokevirtual 26, 3) := by decide +kernel
theorem dX1_waysByTwo_69 : decode cX1_waysByTwo 69 = .ok (.ifCond .ne 6, 3) := by decide +kernel
theorem dX1_waysByTwo_72 : decode cX1_waysByTwo 72 = .ok (.iinc 4 2, 3) := by decide +kernel
theorem dX1_waysByTwo_75 : decode cX1_waysByTwo 75 = .ok (.iload 5, 2) := by decide +kernel
theorem dX1_waysByTwo_77 : decode cX1_waysByTwo 77 = .ok (.iload_n 2, 1) := by decide +kernel
theorem dX1_waysByTwo_78 : decode cX1_waysByTwo 78 = .ok (.isub, 1) := by decide +kernel
theorem dX1_waysByTwo_79 : decode cX1_waysByTwo 79 = .ok (.iload_n 2, 1) := by decide +kernel
theorem dX1_waysByTwo_80 : decode cX1_waysByTwo 80 = .ok (.iand, 1) := by decide +kernel
theorem dX1_waysByTwo_81 : decode cX1_waysByTwo 81 = .ok (.istore 5, 2) := by decide +kernel
theorem dX1_waysByTwo_83 : decode cX1_waysByTwo 83 = .ok (.iinc 6 1, 3) := by decide +kernel
theorem dX1_waysByTwo_86 : decode cX1_waysByTwo 86 = .ok (.goto (-46), 3) := by decide +kernel
theorem dX1_waysByTwo_89 : decode cX1_waysByTwo 89 = .ok (.iload 4, 2) := by decide +kernel
theorem dX1_waysByTwo_91 : decode cX1_waysByTwo 91 = .ok (.ireturn, 1) := by decide +kernel
theorem dX8_init_0 : decode cX8_init 0 = .ok (.aload_n 0, 1) := by decide +kernel
theorem dX8_init_1 : decode cX8_init 1 = .ok (.invokespecial 3, 3) := by decide +kernel
theorem dX8_init_4 : decode cX8_init 4 = .ok (.aload_n 0, 1) := by decide +kernel
theorem dX8_init_5 : decode cX8_init 5 = .ok (.aload_n 1, 1) := by decide +kernel
theorem dX8_init_6 : decode cX8_init 6 = .ok (.putfield 9, 3) := by decide +kernel
theorem dX8_init_9 : decode cX8_init 9 = .ok (.aload_n 0, 1) := by decide +kernel
theorem dX8_init_10 : decode cX8_init 10 = .ok (.sipush 1024, 3) := by decide +kernel
theorem dX8_init_13 : decode cX8_init 13 = .ok (.newarray .int, 2) := by decide +kernel
theorem dX8_init_15 : decode cX8_init 15 = .ok (.putfield 15, 3) := by decide +kernel
theorem dX8_init_18 : decode cX8_init 18 = .ok (.aload_n 0, 1) := by decide +kernel
theorem dX8_init_19 : decode cX8_init 19 = .ok (.iconst 0, 1) := by decide +kernel
theorem dX8_init_20 : decode cX8_init 20 = .ok (.putfield 19, 3) := by decide +kernel
theorem dX8_init_23 : decode cX8_init 23 = .ok (.return_, 1) := by decide +kernel
theorem dX8_manySeenOf_0 : decode cX8_manySeenOf 0 = .ok (.aload_n 0, 1) := by decide +kernel
theorem dX8_manySeenOf_1 : decode cX8_manySeenOf 1 = .ok (.dup, 1) := by decide +kernel
theorem dX8_manySeenOf_2 : decode cX8_manySeenOf 2 = .ok (.getfield 19, 3) := by decide +kernel
theorem dX8_manySeenOf_5 : decode cX8_manySeenOf 5 = .ok (.iconst 1, 1) := by decide +kernel
theorem dX8_manySeenOf_6 : decode cX8_manySeenOf 6 = .ok (.iadd, 1) := by decide +kernel
theorem dX8_manySeenOf_7 : decode cX8_manySeenOf 7 = .ok (.putfield 19, 3) := by decide +kernel
theorem dX8_manySeenOf_10 : decode cX8_manySeenOf 10 = .ok (.iconst 0, 1) := by decide +kernel
theorem dX8_manySeenOf_11 : decode cX8_manySeenOf 11 = .ok (.istore_n 2, 1) := by decide +kernel
theorem dX8_manySeenOf_12 : decode cX8_manySeenOf 12 = .ok (.iconst 0, 1) := by decide +kernel
theorem dX8_manySeenOf_13 : decode cX8_manySeenOf 13 = .ok (.istore_n 3, 1) := by decide +kernel
theorem dX8_manySeenOf_14 : decode cX8_manySeenOf 14 = .ok (.iload_n 3, 1) := by decide +kernel
theorem dX8_manySeenOf_15 : decode cX8_manySeenOf 15 = .ok (.aload_n 0, 1) := by decide +kernel
theorem dX8_manySeenOf_16 : decode cX8_manySeenOf 16 = .ok (.getfield 9, 3) := by decide +kernel
theorem dX8_manySeenOf_19 : decode cX8_manySeenOf 19 = .ok (.getfield 23, 3) := by decide +kernel
theorem dX8_manySeenOf_22 : decode cX8_manySeenOf 22 = .ok (.if_icmp .ge 50, 3) := by decide +kernel
theorem dX8_manySeenOf_25 : decode cX8_manySeenOf 25 = .ok (.aload_n 0, 1) := by decide +kernel
theorem dX8_manySeenOf_26 : decode cX8_manySeenOf 26 = .ok (.getfield 9, 3) := by decide +kernel
theorem dX8_manySeenOf_29 : decode cX8_manySeenOf 29 = .ok (.getfield 28, 3) := by decide +kernel
theorem dX8_manySeenOf_32 : decode cX8_manySeenOf 32 = .ok (.iload_n 3, 1) := by decide +kernel
theorem dX8_manySeenOf_33 : decode cX8_manySeenOf 33 = .ok (.iaload, 1) := by decide +kernel
theorem dX8_manySeenOf_34 : decode cX8_manySeenOf 34 = .ok (.iload_n 1, 1) := by decide +kernel
theorem dX8_manySeenOf_35 : decode cX8_manySeenOf 35 = .ok (.iand, 1) := by decide +kernel
theorem dX8_manySeenOf_36 : decode cX8_manySeenOf 36 = .ok (.istore 4, 2) := by decide +kernel
theorem dX8_manySeenOf_38 : decode cX8_manySeenOf 38 = .ok (.aload_n 0, 1) := by decide +kernel
theorem dX8_manySeenOf_39 : decode cX8_manySeenOf 39 = .ok (.getfield 15, 3) := by decide +kernel
theorem dX8_manySeenOf_42 : decode cX8_manySeenOf 42 = .ok (.iload 4, 2) := by decide +kernel
theorem dX8_manySeenOf_44 : decode cX8_manySeenOf 44 = .ok (.iaload, 1) := by decide +kernel
theorem dX8_manySeenOf_45 : decode cX8_manySeenOf 45 = .ok (.aload_n 0, 1) := by decide +kernel
theorem dX8_manySeenOf_46 : decode cX8_manySeenOf 46 = .ok (.getfield 19, 3) := by decide +kernel
theorem dX8_manySeenOf_49 : decode cX8_manySeenOf 49 = .ok (.if_icmp .eq 17, 3) := by decide +kernel
theorem dX8_manySeenOf_52 : decode cX8_manySeenOf 52 = .ok (.aload_n 0, 1) := by decide +kernel
theorem dX8_manySeenOf_53 : decode cX8_manySeenOf 53 = .ok (.getfield 15, 3) := by decide +kernel
theorem dX8_manySeenOf_56 : decode cX8_manySeenOf 56 = .ok (.iload 4, 2) := by decide +kernel
theorem dX8_manySeenOf_58 : decode cX8_manySeenOf 58 = .ok (.aload_n 0, 1) := by decide +kernel
theorem dX8_manySeenOf_59 : decode cX8_manySeenOf 59 = .ok (.getfield 19, 3) := by decide +kernel
theorem dX8_manySeenOf_62 : decode cX8_manySeenOf 62 = .ok (.iastore, 1) := by decide +kernel
theorem dX8_manySeenOf_63 : decode cX8_manySeenOf 63 = .ok (.iinc 2 1, 3) := by decide +kernel
theorem dX8_manySeenOf_66 : decode cX8_manySeenOf 66 = .ok (.iinc 3 1, 3) := by decide +kernel
theorem dX8_manySeenOf_69 : decode cX8_manySeenOf 69 = .ok (.goto (-55), 3) := by decide +kernel
theorem dX8_manySeenOf_72 : decode cX8_manySeenOf 72 = .ok (.iload_n 2, 1) := by decide +kernel
theorem dX8_manySeenOf_73 : decode cX8_manySeenOf 73 = .ok (.ireturn, 1) := by decide +kernel
set_option maxRecDepth 20000 in
theorem ggX8_greatestAllSeen_J6_bitCount_0f7a4 : GoodIn wsX8_greatestAllSeen wsJ6_bitCount_0f7a4 := sw_good (sw_cons (t1_ (al_ (al_ (t4_ (t1_ (t1_ h1_)))))) (sw_cons (t1_ (al_ (al_ (t4_ (t1_ (t1_ (t1_ h1_))))))) (sw_cons (t1_ (al_ (al_ (t4_ (t4_ h1_))))) (sw_cons (t1_ (al_ (al_ (t4_ (t4_ (t1_ h1_)))))) sw_nil)))) (by decide +kernel)
set_option maxRecDepth 20000 in
theorem gX8_greatestAllSeen_J6_bitCount_0f7a4 : GoodIn wsX8_greatestAllSeen (va_wsS RX8 34 yJ6_bitCount_0f7a4 wsJ6_bitCount_0f7a4) := goodIn_app (sw_good (sw_cons (t1_ (al_ (al_ (t1_ (t1_ (t1_ h1_)))))) (sw_cons (t1_ (al_ (al_ (t4_ h1_)))) (sw_cons (t1_ (al_ (al_ (t4_ (t1_ h1_))))) sw_nil))) (by decide +kernel)) ggX8_greatestAllSeen_J6_bitCount_0f7a4
set_option maxRecDepth 20000 in
theorem ggX8_greatestAllSeen_X8_manySeenOf : GoodIn wsX8_greatestAllSeen wsX8_manySeenOf := sw_good (sw_cons (t1_ (al_ (al_ (t4_ (t4_ (t4_ (t1_ (t1_ h1_)))))))) (sw_app (sw_app (sw_cons (t1_ (al_ (al_ (t4_ (t4_ (t4_ (t1_ (t1_ (t1_ h1_))))))))) (sw_cons (t1_ (al_ (al_ h1_))) (sw_cons (t1_ (al_ (al_ (t1_ (t1_ h1_))))) (sw_cons (t1_ (al_ (al_ (t16_ h1_)))) (sw_cons (t1_ (al_ (al_ (t16_ (t1_ h1_))))) sw_nil))))) (fun _ h => (t1_ (al_ (ar_ h))))) (fun _ h => (t1_ (ar_ h))))) (by decide +kernel)
set_option maxRecDepth 20000 in
theorem gX8_greatestAllSeen_X8_manySeenOf : GoodIn wsX8_greatestAllSeen (wsV RX8 40 RX8 yX8_manySeenOf wsX8_manySeenOf) := goodIn_app (sw_good (sw_cons (t1_ (al_ (al_ (t4_ (t4_ (t1_ (t1_ h1_))))))) (sw_cons (t1_ (al_ (al_ (t4_ (t4_ (t1_ (t1_ (t1_ h1_)))))))) (sw_cons (t1_ (al_ (al_ (t4_ (t4_ (t4_ h1_)))))) (sw_cons (t1_ (al_ (al_ (t4_ (t4_ (t4_ (t1_ h1_))))))) sw_nil)))) (by decide +kernel)) ggX8_greatestAllSeen_X8_manySeenOf
theorem dX8_greatestAllSeen_0 : decode cX8_greatestAllSeen 0 = .ok (.iconst 0, 1) := by decide +kernel
theorem dX8_greatestAllSeen_1 : decode cX8_greatestAllSeen 1 = .ok (.istore_n 1, 1) := by decide +kernel
theorem dX8_greatestAllSeen_2 : decode cX8_greatestAllSeen 2 = .ok (.iconst 0, 1) := by decide +kernel
theorem dX8_greatestAllSeen_3 : decode cX8_greatestAllSeen 3 = .ok (.istore_n 2, 1) := by decide +kernel
theorem dX8_greatestAllSeen_4 : decode cX8_greatestAllSeen 4 = .ok (.iconst 1, 1) := by decide +kernel
theorem dX8_greatestAllSeen_5 : decode cX8_greatestAllSeen 5 = .ok (.istore_n 3, 1) := by decide +kernel
theorem dX8_greatestAllSeen_6 : decode cX8_greatestAllSeen 6 = .ok (.iload_n 3, 1) := by decide +kernel
theorem dX8_greatestAllSeen_7 : decode cX8_greatestAllSeen 7 = .ok (.aload_n 0, 1) := by decide +kernel
theorem dX8_greatestAllSeen_8 : decode cX8_greatestAllSeen 8 = .ok (.getfield 9, 3) := by decide +kernel
theorem dX8_greatestAllSeen_11 : decode cX8_greatestAllSeen 11 = .ok (.getfield 31, 3) := by decide +kernel
theorem dX8_greatestAllSeen_14 : decode cX8_greatestAllSeen 14 = .ok (.if_icmp .ge 52, 3) := by decide +kernel
theorem dX8_greatestAllSeen_17 : decode cX8_greatestAllSeen 17 = .ok (.iload_n 3, 1) := by decide +kernel
theorem dX8_greatestAllSeen_18 : decode cX8_greatestAllSeen 18 = .ok (.invokestatic 34, 3) := by decide +kernel
theorem dX8_greatestAllSeen_21 : decode cX8_greatestAllSeen 21 = .ok (.istore 4, 2) := by decide +kernel
theorem dX8_greatestAllSeen_23 : decode cX8_greatestAllSeen 23 = .ok (.iload 4, 2) := by decide +kernel
theorem dX8_greatestAllSeen_25 : decode cX8_greatestAllSeen 25 = .ok (.iload_n 2, 1) := by decide +kernel
theorem dX8_greatestAllSeen_26 : decode cX8_greatestAllSeen 26 = .ok (.if_icmp .le 34, 3) := by decide +kernel
theorem dX8_greatestAllSeen_29 : decode cX8_greatestAllSeen 29 = .ok (.iconst 1, 1) := by decide +kernel
theorem dX8_greatestAllSeen_30 : decode cX8_greatestAllSeen 30 = .ok (.iload 4, 2) := by decide +kernel
theorem dX8_greatestAllSeen_32 : decode cX8_greatestAllSeen 32 = .ok (.ishl, 1) := by decide +kernel
theorem dX8_greatestAllSeen_33 : decode cX8_greatestAllSeen 33 = .ok (.aload_n 0, 1) := by decide +kernel
theorem dX8_greatestAllSeen_34 : decode cX8_greatestAllSeen 34 = .ok (.getfield 9, 3) := by decide +kernel
theorem dX8_greatestAllSeen_37 : decode cX8_greatestAllSeen 37 = .ok (.getfield 23, 3) := by decide +kernel
theorem dX8_greatestAllSeen_40 : decode cX8_greatestAllSeen 40 = .ok (.if_icmp .gt 20, 3) := by decide +kernel
theorem dX8_greatestAllSeen_43 : decode cX8_greatestAllSeen 43 = .ok (.aload_n 0, 1) := by decide +kernel
theorem dX8_greatestAllSeen_44 : decode cX8_greatestAllSeen 44 = .ok (.iload_n 3, 1) := by decide +kernel
theorem dX8_greatestAllSeen_45 : decode cX8_greatestAllSeen 45 = .ok (.invokevirtual 40, 3) := by decide +kernel
theorem dX8_greatestAllSeen_48 : decode cX8_greatestAllSeen 48 = .ok (.iconst 1, 1) := by decide +kernel
theorem dX8_greatestAllSeen_49 : decode cX8_greatestAllSeen 49 = .ok (.iload 4, 2) := by decide +kernel
theorem dX8_greatestAllSeen_51 : decode cX8_greatestAllSeen 51 = .ok (.ishl, 1) := by decide +kernel
theorem dX8_greatestAllSeen_52 : decode cX8_greatestAllSeen 52 = .ok (.if_icmp .ne 8, 3) := by decide +kernel
theorem dX8_greatestAllSeen_55 : decode cX8_greatestAllSeen 55 = .ok (.iload_n 3, 1) := by decide +kernel
theorem dX8_greatestAllSeen_56 : decode cX8_greatestAllSeen 56 = .ok (.istore_n 1, 1) := by decide +kernel
theorem dX8_greatestAllSeen_57 : decode cX8_greatestAllSeen 57 = .ok (.iload 4, 2) := by decide +kernel
theorem dX8_greatestAllSeen_59 : decode cX8_greatestAllSeen 59 = .ok (.istore_n 2, 1) := by decide +kernel
theorem dX8_greatestAllSeen_60 : decode cX8_greatestAllSeen 60 = .ok (.iinc 3 1, 3) := by decide +kernel
theorem dX8_greatestAllSeen_63 : decode cX8_greatestAllSeen 63 = .ok (.goto (-57), 3) := by decide +kernel
theorem dX8_greatestAllSeen_66 : decode cX8_greatestAllSeen 66 = .ok (.iload_n 1, 1) := by decide +kernel
theorem dX8_greatestAllSeen_67 : decode cX8_greatestAllSeen 67 = .ok (.ireturn, 1) := by decide +kernel
theorem dX2_init_0 : decode cX2_init 0 = .ok (.aload_n 0, 1) := by decide +kernel
theorem dX2_init_1 : decode cX2_init 1 = .ok (.invokespecial 3, 3) := by decide +kernel
theorem dX2_init_4 : decode cX2_init 4 = .ok (.aload_n 0, 1) := by decide +kernel
theorem dX2_init_5 : decode cX2_init 5 = .ok (.aload_n 1, 1) := by decide +kernel
theorem dX2_init_6 : decode cX2_init 6 = .ok (.putfield 9, 3) := by decide +kernel
theorem dX2_init_9 : decode cX2_init 9 = .ok (.aload_n 0, 1) := by decide +kernel
theorem dX2_init_10 : decode cX2_init 10 = .ok (.bipush 16, 2) := by decide +kernel
theorem dX2_init_12 : decode cX2_init 12 = .ok (.newarray .int, 2) := by decide +kernel
theorem dX2_init_14 : decode cX2_init 14 = .ok (.putfield 15, 3) := by decide +kernel
theorem dX2_init_17 : decode cX2_init 17 = .ok (.aload_n 0, 1) := by decide +kernel
theorem dX2_init_18 : decode cX2_init 18 = .ok (.iconst 0, 1) := by decide +kernel
theorem dX2_init_19 : decode cX2_init 19 = .ok (.putfield 19, 3) := by decide +kernel
theorem dX2_init_22 : decode cX2_init 22 = .ok (.return_, 1) := by decide +kernel
set_option maxRecDepth 20000 in
theorem ggX2_whatIsLeft_X2_elementGoes : GoodIn wsX2_whatIsLeft wsX2_elementGoes := sw_good (sw_cons (t1_ (al_ (al_ (t4_ (t4_ (t1_ h1_)))))) (sw_app (sw_app (sw_cons (t1_ (al_ (al_ h1_))) (sw_cons (t1_ (al_ (al_ (t1_ h1_)))) (sw_cons (t1_ (al_ (al_ (t4_ h1_)))) (sw_cons (t1_ (al_ (al_ (t1_ (t1_ h1_))))) (sw_cons (t1_ (al_ (al_ (t4_ (t4_ (t1_ (t1_ h1_))))))) (sw_cons (t1_ (al_ (al_ (t4_ (t4_ (t1_ (t1_ (t1_ h1_)))))))) (sw_cons (t1_ (al_ (al_ (t4_ (t4_ (t4_ h1_)))))) sw_nil))))))) (fun _ h => (t1_ (al_ (ar_ h))))) (fun _ h => (t1_ (ar_ h))))) (by decide +kernel)
set_option maxRecDepth 20000 in
theorem gX2_whatIsLeft_X2_elementGoes : GoodIn wsX2_whatIsLeft (wsV RX2 31 RX2 yX2_elementGoes wsX2_elementGoes) := goodIn_app (sw_good (sw_cons (t1_ (al_ (al_ (t4_ (t1_ h1_))))) (sw_cons (t1_ (al_ (al_ (t4_ (t1_ (t1_ h1_)))))) (sw_cons (t1_ (al_ (al_ (t4_ (t1_ (t1_ (t1_ h1_))))))) (sw_cons (t1_ (al_ (al_ (t4_ (t4_ h1_))))) sw_nil)))) (by decide +kernel)) ggX2_whatIsLeft_X2_elementGoes
set_option maxRecDepth 20000 in
theorem ggX2_whatIsLeft_X2_setGoes : GoodIn wsX2_whatIsLeft wsX2_setGoes := sw_good (sw_cons (t1_ (al_ (al_ (t16_ h1_)))) (sw_app (sw_app (sw_cons (t1_ (al_ (al_ h1_))) (sw_cons (t1_ (al_ (al_ (t1_ h1_)))) (sw_cons (t1_ (al_ (al_ (t4_ h1_)))) (sw_cons (t1_ (al_ (al_ (t1_ (t1_ h1_))))) (sw_cons (t1_ (al_ (al_ (t4_ (t4_ (t1_ (t1_ h1_))))))) (sw_cons (t1_ (al_ (al_ (t4_ (t4_ (t1_ (t1_ (t1_ h1_)))))))) (sw_cons (t1_ (al_ (al_ (t4_ (t4_ (t4_ h1_)))))) (sw_cons (t1_ (al_ (al_ (t16_ (t1_ h1_))))) (sw_cons (t1_ (al_ (al_ (t16_ (t1_ (t1_ h1_)))))) (sw_cons (t1_ (al_ (al_ (t16_ (t1_ (t1_ (t1_ h1_))))))) (sw_cons (t1_ (al_ (al_ (t4_ (t4_ h1_))))) (sw_cons (t1_ (al_ (al_ (t16_ (t4_ h1_))))) sw_nil)))))))))))) (fun _ h => (t1_ (al_ (ar_ h))))) (fun _ h => (t1_ (ar_ h))))) (by decide +kernel)
set_option maxRecDepth 20000 in
theorem gX2_whatIsLeft_X2_setGoes : GoodIn wsX2_whatIsLeft (wsV RX2 35 RX2 yX2_setGoes wsX2_setGoes) := goodIn_app (sw_good (sw_cons (t1_ (al_ (al_ (t4_ (t4_ (t4_ (t1_ h1_))))))) (sw_cons (t1_ (al_ (al_ (t4_ (t4_ (t4_ (t1_ (t1_ h1_)))))))) (sw_cons (t1_ (al_ (al_ (t4_ (t4_ (t4_ (t1_ (t1_ (t1_ h1_))))))))) (sw_cons (t1_ (al_ (al_ (t4_ (t4_ h1_))))) sw_nil)))) (by decide +kernel)) ggX2_whatIsLeft_X2_setGoes
theorem dX2_whatIsLeft_0 : decode cX2_whatIsLeft 0 = .ok (.iconst 0, 1) := by decide +kernel
theorem dX2_whatIsLeft_1 : decode cX2_whatIsLeft 1 = .ok (.istore_n 1, 1) := by decide +kernel
theorem dX2_whatIsLeft_2 : decode cX2_whatIsLeft 2 = .ok (.iload_n 1, 1) := by decide +kernel
theorem dX2_whatIsLeft_3 : decode cX2_whatIsLeft 3 = .ok (.aload_n 0, 1) := by decide +kernel
theorem dX2_whatIsLeft_4 : decode cX2_whatIsLeft 4 = .ok (.getfield 9, 3) := by decide +kernel
theorem dX2_whatIsLeft_7 : decode cX2_whatIsLeft 7 = .ok (.getfield 23, 3) := by decide +kernel
theorem dX2_whatIsLeft_10 : decode cX2_whatIsLeft 10 = .ok (.if_icmp .ge 24, 3) := by decide +kernel
theorem dX2_whatIsLeft_13 : decode cX2_whatIsLeft 13 = .ok (.aload_n 0, 1) := by decide +kernel
theorem dX2_whatIsLeft_14 : decode cX2_whatIsLeft 14 = .ok (.getfield 15, 3) := by decide +kernel
theorem dX2_whatIsLeft_17 : decode cX2_whatIsLeft 17 = .ok (.iload_n 1, 1) := by decide +kernel
theorem dX2_whatIsLeft_18 : decode cX2_whatIsLeft 18 = .ok (.aload_n 0, 1) := by decide +kernel
theorem dX2_whatIsLeft_19 : decode cX2_whatIsLeft 19 = .ok (.getfield 9, 3) := by decide +kernel
theorem dX2_whatIsLeft_22 : decode cX2_whatIsLeft 22 = .ok (.getfield 28, 3) := by decide +kernel
theorem dX2_whatIsLeft_25 : decode cX2_whatIsLeft 25 = .ok (.iload_n 1, 1) := by decide +kernel
theorem dX2_whatIsLeft_26 : decode cX2_whatIsLeft 26 = .ok (.iaload, 1) := by decide +kernel
theorem dX2_whatIsLeft_27 : decode cX2_whatIsLeft 27 = .ok (.iastore, 1) := by decide +kernel
theorem dX2_whatIsLeft_28 : decode cX2_whatIsLeft 28 = .ok (.iinc 1 1, 3) := by decide +kernel
theorem dX2_whatIsLeft_31 : decode cX2_whatIsLeft 31 = .ok (.goto (-29), 3) := by decide +kernel
theorem dX2_whatIsLeft_34 : decode cX2_whatIsLeft 34 = .ok (.aload_n 0, 1) := by decide +kernel
theorem dX2_whatIsLeft_35 : decode cX2_whatIsLeft 35 = .ok (.iconst 1, 1) := by decide +kernel
theorem dX2_whatIsLeft_36 : decode cX2_whatIsLeft 36 = .ok (.aload_n 0, 1) := by decide +kernel
theorem dX2_whatIsLeft_37 : decode cX2_whatIsLeft 37 = .ok (.getfield 9, 3) := by decide +kernel
theorem dX2_whatIsLeft_40 : decode cX2_whatIsLeft 40 = .ok (.getfield 23, 3) := by decide +kernel
theorem dX2_whatIsLeft_43 : decode cX2_whatIsLeft 43 = .ok (.ishl, 1) := by decide +kernel
theorem dX2_whatIsLeft_44 : decode cX2_whatIsLeft 44 = .ok (.iconst 1, 1) := by decide +kernel
theorem dX2_whatIsLeft_45 : decode cX2_whatIsLeft 45 = .ok (.isub, 1) := by decide +kernel
theorem dX2_whatIsLeft_46 : decode cX2_whatIsLeft 46 = .ok (.putfield 19, 3) := by decide +kernel
theorem dX2_whatIsLeft_49 : decode cX2_whatIsLeft 49 = .ok (.iconst 1, 1) := by decide +kernel
theorem dX2_whatIsLeft_50 : decode cX2_whatIsLeft 50 = .ok (.istore_n 1, 1) := by decide +kernel
theorem dX2_whatIsLeft_51 : decode cX2_whatIsLeft 51 = .ok (.iconst 0, 1) := by decide +kernel
theorem dX2_whatIsLeft_52 : decode cX2_whatIsLeft 52 = .ok (.istore_n 2, 1) := by decide +kernel
theorem dX2_whatIsLeft_53 : decode cX2_whatIsLeft 53 = .ok (.iload_n 2, 1) := by decide +kernel
theorem dX2_whatIsLeft_54 : decode cX2_whatIsLeft 54 = .ok (.bipush 26, 2) := by decide +kernel
theorem dX2_whatIsLeft_56 : decode cX2_whatIsLeft 56 = .ok (.if_icmp .ge 33, 3) := by decide +kernel
theorem dX2_whatIsLeft_59 : decode cX2_whatIsLeft 59 = .ok (.iload_n 1, 1) := by decide +kernel
theorem dX2_whatIsLeft_60 : decode cX2_whatIsLeft 60 = .ok (.ifCond .eq 29, 3) := by decide +kernel
theorem dX2_whatIsLeft_63 : decode cX2_whatIsLeft 63 = .ok (.aload_n 0, 1) := by decide +kernel
theorem dX2_whatIsLeft_64 : decode cX2_whatIsLeft 64 = .ok (.invokevirtual 31, 3) := by decide +kernel
theorem dX2_whatIsLeft_67 : decode cX2_whatIsLeft 67 = .ok (.ifCond .ne 10, 3) := by decide +kernel
theorem dX2_whatIsLeft_70 : decode cX2_whatIsLeft 70 = .ok (.aload_n 0, 1) := by decide +kernel
theorem dX2_whatIsLeft_71 : decode cX2_whatIsLeft 71 = .ok (.invokevirtual 35, 3) := by decide +kernel
theorem dX2_whatIsLeft_74 : decode cX2_whatIsLeft 74 = .ok (.ifCond .eq 7, 3) := by decide +kernel
theorem dX2_whatIsLeft_77 : decode cX2_whatIsLeft 77 = .ok (.iconst 1, 1) := by decide +kernel
theorem dX2_whatIsLeft_78 : decode cX2_whatIsLeft 78 = .ok (.goto 4, 3) := by decide +kernel
theorem dX2_whatIsLeft_81 : decode cX2_whatIsLeft 81 = .ok (.iconst 0, 1) := by decide +kernel
theorem dX2_whatIsLeft_82 : decode cX2_whatIsLeft 82 = .ok (.istore_n 1, 1) := by decide +kernel
theorem dX2_whatIsLeft_83 : decode cX2_whatIsLeft 83 = .ok (.iinc 2 1, 3) := by decide +kernel
theorem dX2_whatIsLeft_86 : decode cX2_whatIsLeft 86 = .ok (.goto (-33), 3) := by decide +kernel
theorem dX2_whatIsLeft_89 : decode cX2_whatIsLeft 89 = .ok (.aload_n 0, 1) := by decide +kernel
theorem dX2_whatIsLeft_90 : decode cX2_whatIsLeft 90 = .ok (.getfield 19, 3) := by decide +kernel
theorem dX2_whatIsLeft_93 : decode cX2_whatIsLeft 93 = .ok (.ireturn, 1) := by decide +kernel
set_option maxRecDepth 20000 in
theorem ggX2_elementGoes_X9_has : GoodIn wsX2_elementGoes wsX9_has := sw_good (sw_cons (t1_ (al_ (al_ (t4_ (t1_ (t1_ h1_)))))) sw_nil) (by decide +kernel)
set_option maxRecDepth 20000 in
theorem gX2_elementGoes_X9_has_n38 : GoodIn wsX2_elementGoes (wsX9_has) := ggX2_elementGoes_X9_has
theorem dX2_elementGoes_0 : decode cX2_elementGoes 0 = .ok (.iconst 0, 1) := by decide +kernel
theorem dX2_elementGoes_1 : decode cX2_elementGoes 1 = .ok (.istore_n 1, 1) := by decide +kernel
theorem dX2_elementGoes_2 : decode cX2_elementGoes 2 = .ok (.iconst 0, 1) := by decide +kernel
theorem dX2_elementGoes_3 : decode cX2_elementGoes 3 = .ok (.istore_n 2, 1) := by decide +kernel
theorem dX2_elementGoes_4 : decode cX2_elementGoes 4 = .ok (.iconst 0, 1) := by decide +kernel
theorem dX2_elementGoes_5 : decode cX2_elementGoes 5 = .ok (.istore_n 3, 1) := by decide +kernel
theorem dX2_elementGoes_6 : decode cX2_elementGoes 6 = .ok (.iload_n 3, 1) := by decide +kernel
theorem dX2_elementGoes_7 : decode cX2_elementGoes 7 = .ok (.aload_n 0, 1) := by decide +kernel
theorem dX2_elementGoes_8 : decode cX2_elementGoes 8 = .ok (.getfield 9, 3) := by decide +kernel
theorem dX2_elementGoes_11 : decode cX2_elementGoes 11 = .ok (.getfield 23, 3) := by decide +kernel
theorem dX2_elementGoes_14 : decode cX2_elementGoes 14 = .ok (.if_icmp .ge 40, 3) := by decide +kernel
theorem dX2_elementGoes_17 : decode cX2_elementGoes 17 = .ok (.aload_n 0, 1) := by decide +kernel
theorem dX2_elementGoes_18 : decode cX2_elementGoes 18 = .ok (.getfield 19, 3) := by decide +kernel
theorem dX2_elementGoes_21 : decode cX2_elementGoes 21 = .ok (.iload_n 3, 1) := by decide +kernel
theorem dX2_elementGoes_22 : decode cX2_elementGoes 22 = .ok (.invokestatic 38, 3) := by decide +kernel
theorem dX2_elementGoes_25 : decode cX2_elementGoes 25 = .ok (.ifCond .eq 23, 3) := by decide +kernel
theorem dX2_elementGoes_28 : decode cX2_elementGoes 28 = .ok (.iload_n 2, 1) := by decide +kernel
theorem dX2_elementGoes_29 : decode cX2_elementGoes 29 = .ok (.iload_n 1, 1) := by decide +kernel
theorem dX2_elementGoes_30 : decode cX2_elementGoes 30 = .ok (.aload_n 0, 1) := by decide +kernel
theorem dX2_elementGoes_31 : decode cX2_elementGoes 31 = .ok (.getfield 15, 3) := by decide +kernel
theorem dX2_elementGoes_34 : decode cX2_elementGoes 34 = .ok (.iload_n 3, 1) := by decide +kernel
theorem dX2_elementGoes_35 : decode cX2_elementGoes 35 = .ok (.iaload, 1) := by decide +kernel
theorem dX2_elementGoes_36 : decode cX2_elementGoes 36 = .ok (.iand, 1) := by decide +kernel
theorem dX2_elementGoes_37 : decode cX2_elementGoes 37 = .ok (.ior, 1) := by decide +kernel
theorem dX2_elementGoes_38 : decode cX2_elementGoes 38 = .ok (.istore_n 2, 1) := by decide +kernel
theorem dX2_elementGoes_39 : decode cX2_elementGoes 39 = .ok (.iload_n 1, 1) := by decide +kernel
theorem dX2_elementGoes_40 : decode cX2_elementGoes 40 = .ok (.aload_n 0, 1) := by decide +kernel
theorem dX2_elementGoes_41 : decode cX2_elementGoes 41 = .ok (.getfield 15, 3) := by decide +kernel
theorem dX2_elementGoes_44 : decode cX2_elementGoes 44 = .ok (.iload_n 3, 1) := by decide +kernel
theorem dX2_elementGoes_45 : decode cX2_elementGoes 45 = .ok (.iaload, 1) := by decide +kernel
theorem dX2_elementGoes_46 : decode cX2_elementGoes 46 = .ok (.ior, 1) := by decide +kernel
theorem dX2_elementGoes_47 : decode cX2_elementGoes 47 = .ok (.istore_n 1, 1) := by decide +kernel
theorem dX2_elementGoes_48 : decode cX2_elementGoes 48 = .ok (.iinc 3 1, 3) := by decide +kernel
theorem dX2_elementGoes_51 : decode cX2_elementGoes 51 = .ok (.goto (-45), 3) := by decide +kernel
theorem dX2_elementGoes_54 : decode cX2_elementGoes 54 = .ok (.iload_n 1, 1) := by decide +kernel
theorem dX2_elementGoes_55 : decode cX2_elementGoes 55 = .ok (.iload_n 2, 1) := by decide +kernel
theorem dX2_elementGoes_56 : decode cX2_elementGoes 56 = .ok (.iconst (-1), 1) := by decide +kernel
theorem dX2_elementGoes_57 : decode cX2_elementGoes 57 = .ok (.ixor, 1) := by decide +kernel
theorem dX2_elementGoes_58 : decode cX2_elementGoes 58 = .ok (.iand, 1) := by decide +kernel
theorem dX2_elementGoes_59 : decode cX2_elementGoes 59 = .ok (.istore_n 3, 1) := by decide +kernel
theorem dX2_elementGoes_60 : decode cX2_elementGoes 60 = .ok (.iload_n 3, 1) := by decide +kernel
theorem dX2_elementGoes_61 : decode cX2_elementGoes 61 = .ok (.iload_n 3, 1) := by decide +kernel
theorem dX2_elementGoes_62 : decode cX2_elementGoes 62 = .ok (.ineg, 1) := by decide +kernel
theorem dX2_elementGoes_63 : decode cX2_elementGoes 63 = .ok (.iand, 1) := by decide +kernel
theorem dX2_elementGoes_64 : decode cX2_elementGoes 64 = .ok (.istore 4, 2) := by decide +kernel
theorem dX2_elementGoes_66 : decode cX2_elementGoes 66 = .ok (.iconst 0, 1) := by decide +kernel
theorem dX2_elementGoes_67 : decode cX2_elementGoes 67 = .ok (.istore 5, 2) := by decide +kernel
theorem dX2_elementGoes_69 : decode cX2_elementGoes 69 = .ok (.iload 5, 2) := by decide +kernel
theorem dX2_elementGoes_71 : decode cX2_elementGoes 71 = .ok (.aload_n 0, 1) := by decide +kernel
theorem dX2_elementGoes_72 : decode cX2_elementGoes 72 = .ok (.getfield 9, 3) := by decide +kernel
theorem dX2_elementGoes_75 : decode cX2_elementGoes 75 = .ok (.getfield 23, 3) := by decide +kernel
theorem dX2_elementGoes_78 : decode cX2_elementGoes 78 = .ok (.if_icmp .ge 23, 3) := by decide +kernel
theorem dX2_elementGoes_81 : decode cX2_elementGoes 81 = .ok (.aload_n 0, 1) := by decide +kernel
theorem dX2_elementGoes_82 : decode cX2_elementGoes 82 = .ok (.getfield 15, 3) := by decide +kernel
theorem dX2_elementGoes_85 : decode cX2_elementGoes 85 = .ok (.iload 5, 2) := by decide +kernel
theorem dX2_elementGoes_87 : decode cX2_elementGoes 87 = .ok (.dup2, 1) := by decide +kernel
theorem dX2_elementGoes_88 : decode cX2_elementGoes 88 = .ok (.iaload, 1) := by decide +kernel
theorem dX2_elementGoes_89 : decode cX2_elementGoes 89 = .ok (.iload 4, 2) := by decide +kernel
theorem dX2_elementGoes_91 : decode cX2_elementGoes 91 = .ok (.iconst (-1), 1) := by decide +kernel
theorem dX2_elementGoes_92 : decode cX2_elementGoes 92 = .ok (.ixor, 1) := by decide +kernel
theorem dX2_elementGoes_93 : decode cX2_elementGoes 93 = .ok (.iand, 1) := by decide +kernel
theorem dX2_elementGoes_94 : decode cX2_elementGoes 94 = .ok (.iastore, 1) := by decide +kernel
theorem dX2_elementGoes_95 : decode cX2_elementGoes 95 = .ok (.iinc 5 1, 3) := by decide +kernel
theorem dX2_elementGoes_98 : decode cX2_elementGoes 98 = .ok (.goto (-29), 3) := by decide +kernel
theorem dX2_elementGoes_101 : decode cX2_elementGoes 101 = .ok (.iload 4, 2) := by decide +kernel
theorem dX2_elementGoes_103 : decode cX2_elementGoes 103 = .ok (.ifCond .eq 7, 3) := by decide +kernel
theorem dX2_elementGoes_106 : decode cX2_elementGoes 106 = .ok (.iconst 1, 1) := by decide +kernel
theorem dX2_elementGoes_107 : decode cX2_elementGoes 107 = .ok (.goto 4, 3) := by decide +kernel
theorem dX2_elementGoes_110 : decode cX2_elementGoes 110 = .ok (.iconst 0, 1) := by decide +kernel
theorem dX2_elementGoes_111 : decode cX2_elementGoes 111 = .ok (.ireturn, 1) := by decide +kernel
set_option maxRecDepth 20000 in
theorem ggX2_setGoes_X9_has : GoodIn wsX2_setGoes wsX9_has := sw_good (sw_cons (t1_ (al_ (al_ (t4_ (t1_ (t1_ h1_)))))) sw_nil) (by decide +kernel)
set_option maxRecDepth 20000 in
theorem gX2_setGoes_X9_has_n38 : GoodIn wsX2_setGoes (wsX9_has) := ggX2_setGoes_X9_has
set_option maxRecDepth 20000 in
theorem ggX2_setGoes_X2_liesInAnother : GoodIn wsX2_setGoes wsX2_liesInAnother := sw_good (sw_cons (t1_ (al_ (al_ (t4_ (t4_ (t1_ (t1_ (t1_ h1_)))))))) (sw_app (sw_app (sw_cons (t1_ (al_ (al_ h1_))) (sw_cons (t1_ (al_ (al_ (t1_ h1_)))) (sw_cons (t1_ (al_ (al_ (t1_ (t1_ h1_))))) (sw_cons (t1_ (al_ (al_ (t1_ (t1_ (t1_ h1_)))))) (sw_cons (t1_ (al_ (al_ (t4_ h1_)))) (sw_cons (t1_ (al_ (al_ (t4_ (t1_ h1_))))) (sw_cons (t1_ (al_ (al_ (t4_ (t1_ (t1_ h1_)))))) sw_nil))))))) (fun _ h => (t1_ (al_ (ar_ h))))) (fun _ h => (t1_ (ar_ h))))) (by decide +kernel)
set_option maxRecDepth 20000 in
theorem gX2_setGoes_X2_liesInAnother : GoodIn wsX2_setGoes (wsV RX2 42 RX2 yX2_liesInAnother wsX2_liesInAnother) := goodIn_app (sw_good (sw_cons (t1_ (al_ (al_ (t4_ (t1_ (t1_ (t1_ h1_))))))) (sw_cons (t1_ (al_ (al_ (t4_ (t4_ h1_))))) (sw_cons (t1_ (al_ (al_ (t4_ (t4_ (t1_ h1_)))))) (sw_cons (t1_ (al_ (al_ (t4_ (t4_ (t1_ (t1_ h1_))))))) sw_nil)))) (by decide +kernel)) ggX2_setGoes_X2_liesInAnother
theorem dX2_setGoes_0 : decode cX2_setGoes 0 = .ok (.iconst 0, 1) := by decide +kernel
theorem dX2_setGoes_1 : decode cX2_setGoes 1 = .ok (.istore_n 1, 1) := by decide +kernel
theorem dX2_setGoes_2 : decode cX2_setGoes 2 = .ok (.iload_n 1, 1) := by decide +kernel
theorem dX2_setGoes_3 : decode cX2_setGoes 3 = .ok (.aload_n 0, 1) := by decide +kernel
theorem dX2_setGoes_4 : decode cX2_setGoes 4 = .ok (.getfield 9, 3) := by decide +kernel
theorem dX2_setGoes_7 : decode cX2_setGoes 7 = .ok (.getfield 23, 3) := by decide +kernel
theorem dX2_setGoes_10 : decode cX2_setGoes 10 = .ok (.if_icmp .ge 51, 3) := by decide +kernel
theorem dX2_setGoes_13 : decode cX2_setGoes 13 = .ok (.aload_n 0, 1) := by decide +kernel
theorem dX2_setGoes_14 : decode cX2_setGoes 14 = .ok (.getfield 19, 3) := by decide +kernel
theorem dX2_setGoes_17 : decode cX2_setGoes 17 = .ok (.iload_n 1, 1) := by decide +kernel
theorem dX2_setGoes_18 : decode cX2_setGoes 18 = .ok (.invokestatic 38, 3) := by decide +kernel
theorem dX2_setGoes_21 : decode cX2_setGoes 21 = .ok (.ifCond .eq 34, 3) := by decide +kernel
theorem dX2_setGoes_24 : decode cX2_setGoes 24 = .ok (.aload_n 0, 1) := by decide +kernel
theorem dX2_setGoes_25 : decode cX2_setGoes 25 = .ok (.getfield 15, 3) := by decide +kernel
theorem dX2_setGoes_28 : decode cX2_setGoes 28 = .ok (.iload_n 1, 1) := by decide +kernel
theorem dX2_setGoes_29 : decode cX2_setGoes 29 = .ok (.iaload, 1) := by decide +kernel
theorem dX2_setGoes_30 : decode cX2_setGoes 30 = .ok (.ifCond .eq 11, 3) := by decide +kernel
theorem dX2_setGoes_33 : decode cX2_setGoes 33 = .ok (.aload_n 0, 1) := by decide +kernel
theorem dX2_setGoes_34 : decode cX2_setGoes 34 = .ok (.iload_n 1, 1) := by decide +kernel
theorem dX2_setGoes_35 : decode cX2_setGoes 35 = .ok (.invokevirtual 42, 3) := by decide +kernel
theorem dX2_setGoes_38 : decode cX2_setGoes 38 = .ok (.ifCond .eq 17, 3) := by decide +kernel
theorem dX2_setGoes_41 : decode cX2_setGoes 41 = .ok (.aload_n 0, 1) := by decide +kernel
theorem dX2_setGoes_42 : decode cX2_setGoes 42 = .ok (.dup, 1) := by decide +kernel
theorem dX2_setGoes_43 : decode cX2_setGoes 43 = .ok (.getfield 19, 3) := by decide +kernel
theorem dX2_setGoes_46 : decode cX2_setGoes 46 = .ok (.iconst 1, 1) := by decide +kernel
theorem dX2_setGoes_47 : decode cX2_setGoes 47 = .ok (.iload_n 1, 1) := by decide +kernel
theorem dX2_setGoes_48 : decode cX2_setGoes 48 = .ok (.ishl, 1) := by decide +kernel
theorem dX2_setGoes_49 : decode cX2_setGoes 49 = .ok (.ixor, 1) := by decide +kernel
theorem dX2_setGoes_50 : decode cX2_setGoes 50 = .ok (.putfield 19, 3) := by decide +kernel
theorem dX2_setGoes_53 : decode cX2_setGoes 53 = .ok (.iconst 1, 1) := by decide +kernel
theorem dX2_setGoes_54 : decode cX2_setGoes 54 = .ok (.ireturn, 1) := by decide +kernel
theorem dX2_setGoes_55 : decode cX2_setGoes 55 = .ok (.iinc 1 1, 3) := by decide +kernel
theorem dX2_setGoes_58 : decode cX2_setGoes 58 = .ok (.goto (-56), 3) := by decide +kernel
theorem dX2_setGoes_61 : decode cX2_setGoes 61 = .ok (.iconst 0, 1) := by decide +kernel
theorem dX2_setGoes_62 : decode cX2_setGoes 62 = .ok (.ireturn, 1) := by decide +kernel
set_option maxRecDepth 20000 in
theorem ggX2_liesInAnother_X9_has : GoodIn wsX2_liesInAnother wsX9_has := sw_good (sw_cons (t1_ (al_ (al_ (t4_ (t1_ (t1_ h1_)))))) sw_nil) (by decide +kernel)
set_option maxRecDepth 20000 in
theorem gX2_liesInAnother_X9_has_n38 : GoodIn wsX2_liesInAnother (wsX9_has) := ggX2_liesInAnother_X9_has
theorem dX2_liesInAnother_0 : decode cX2_liesInAnother 0 = .ok (.iconst 0, 1) := by decide +kernel
theorem dX2_liesInAnother_1 : decode cX2_liesInAnother 1 = .ok (.istore_n 2, 1) := by decide +kernel
theorem dX2_liesInAnother_2 : decode cX2_liesInAnother 2 = .ok (.iload_n 2, 1) := by decide +kernel
theorem dX2_liesInAnother_3 : decode cX2_liesInAnother 3 = .ok (.aload_n 0, 1) := by decide +kernel
theorem dX2_liesInAnother_4 : decode cX2_liesInAnother 4 = .ok (.getfield 9, 3) := by decide +kernel
theorem dX2_liesInAnother_7 : decode cX2_liesInAnother 7 = .ok (.getfield 23, 3) := by decide +kernel
theorem dX2_liesInAnother_10 : decode cX2_liesInAnother 10 = .ok (.if_icmp .ge 45, 3) := by decide +kernel
theorem dX2_liesInAnother_13 : decode cX2_liesInAnother 13 = .ok (.iload_n 2, 1) := by decide +kernel
theorem dX2_liesInAnother_14 : decode cX2_liesInAnother 14 = .ok (.iload_n 1, 1) := by decide +kernel
theorem dX2_liesInAnother_15 : decode cX2_liesInAnother 15 = .ok (.if_icmp .eq 34, 3) := by decide +kernel
theorem dX2_liesInAnother_18 : decode cX2_liesInAnother 18 = .ok (.aload_n 0, 1) := by decide +kernel
theorem dX2_liesInAnother_19 : decode cX2_liesInAnother 19 = .ok (.getfield 19, 3) := by decide +kernel
theorem dX2_liesInAnother_22 : decode cX2_liesInAnother 22 = .ok (.iload_n 2, 1) := by decide +kernel
theorem dX2_liesInAnother_23 : decode cX2_liesInAnother 23 = .ok (.invokestatic 38, 3) := by decide +kernel
theorem dX2_liesInAnother_26 : decode cX2_liesInAnother 26 = .ok (.ifCond .eq 23, 3) := by decide +kernel
theorem dX2_liesInAnother_29 : decode cX2_liesInAnother 29 = .ok (.aload_n 0, 1) := by decide +kernel
theorem dX2_liesInAnother_30 : decode cX2_liesInAnother 30 = .ok (.getfield 15, 3) := by decide +kernel
theorem dX2_liesInAnother_33 : decode cX2_liesInAnother 33 = .ok (.iload_n 1, 1) := by decide +kernel
theorem dX2_liesInAnother_34 : decode cX2_liesInAnother 34 = .ok (.iaload, 1) := by decide +kernel
theorem dX2_liesInAnother_35 : decode cX2_liesInAnother 35 = .ok (.aload_n 0, 1) := by decide +kernel
theorem dX2_liesInAnother_36 : decode cX2_liesInAnother 36 = .ok (.getfield 15, 3) := by decide +kernel
theorem dX2_liesInAnother_39 : decode cX2_liesInAnother 39 = .ok (.iload_n 2, 1) := by decide +kernel
theorem dX2_liesInAnother_40 : decode cX2_liesInAnother 40 = .ok (.iaload, 1) := by decide +kernel
theorem dX2_liesInAnother_41 : decode cX2_liesInAnother 41 = .ok (.iconst (-1), 1) := by decide +kernel
theorem dX2_liesInAnother_42 : decode cX2_liesInAnother 42 = .ok (.ixor, 1) := by decide +kernel
theorem dX2_liesInAnother_43 : decode cX2_liesInAnother 43 = .ok (.iand, 1) := by decide +kernel
theorem dX2_liesInAnother_44 : decode cX2_liesInAnother 44 = .ok (.ifCond .ne 5, 3) := by decide +kernel
theorem dX2_liesInAnother_47 : decode cX2_liesInAnother 47 = .ok (.iconst 1, 1) := by decide +kernel
theorem dX2_liesInAnother_48 : decode cX2_liesInAnother 48 = .ok (.ireturn, 1) := by decide +kernel
theorem dX2_liesInAnother_49 : decode cX2_liesInAnother 49 = .ok (.iinc 2 1, 3) := by decide +kernel
theorem dX2_liesInAnother_52 : decode cX2_liesInAnother 52 = .ok (.goto (-50), 3) := by decide +kernel
theorem dX2_liesInAnother_55 : decode cX2_liesInAnother 55 = .ok (.iconst 0, 1) := by decide +kernel
theorem dX2_liesInAnother_56 : decode cX2_liesInAnother 56 = .ok (.ireturn, 1) := by decide +kernel
