theorem dX7_init_0 : decode cX7_init 0 = .ok (.aload_n 0, 1) := by decide +kernel
theorem dX7_init_1 : decode cX7_init 1 = .ok (.invokespecial 3, 3) := by decide +kernel
theorem dX7_init_4 : decode cX7_init 4 = .ok (.aload_n 0, 1) := by decide +kernel
theorem dX7_init_5 : decode cX7_init 5 = .ok (.bipush 11, 2) := by decide +kernel
theorem dX7_init_7 : decode cX7_init 7 = .ok (.bipush 17, 2) := by decide +kernel
theorem dX7_init_9 : decode cX7_init 9 = .ok (.multianewarray 11 2, 4) := by decide +kernel
theorem dX7_init_13 : decode cX7_init 13 = .ok (.putfield 13, 3) := by decide +kernel
theorem dX7_init_16 : decode cX7_init 16 = .ok (.aload_n 0, 1) := by decide +kernel
theorem dX7_init_17 : decode cX7_init 17 = .ok (.bipush 10, 2) := by decide +kernel
theorem dX7_init_19 : decode cX7_init 19 = .ok (.newarray .int, 2) := by decide +kernel
theorem dX7_init_21 : decode cX7_init 21 = .ok (.putfield 16, 3) := by decide +kernel
theorem dX7_init_24 : decode cX7_init 24 = .ok (.aload_n 0, 1) := by decide +kernel
theorem dX7_init_25 : decode cX7_init 25 = .ok (.bipush 16, 2) := by decide +kernel
theorem dX7_init_27 : decode cX7_init 27 = .ok (.newarray .int, 2) := by decide +kernel
theorem dX7_init_29 : decode cX7_init 29 = .ok (.putfield 20, 3) := by decide +kernel
theorem dX7_init_32 : decode cX7_init 32 = .ok (.aload_n 0, 1) := by decide +kernel
theorem dX7_init_33 : decode cX7_init 33 = .ok (.iconst 0, 1) := by decide +kernel
theorem dX7_init_34 : decode cX7_init 34 = .ok (.putfield 23, 3) := by decide +kernel
theorem dX7_init_37 : decode cX7_init 37 = .ok (.aload_n 0, 1) := by decide +kernel
theorem dX7_init_38 : decode cX7_init 38 = .ok (.iconst 0, 1) := by decide +kernel
theorem dX7_init_39 : decode cX7_init 39 = .ok (.putfield 27, 3) := by decide +kernel
theorem dX7_init_42 : decode cX7_init 42 = .ok (.aload_n 0, 1) := by decide +kernel
theorem dX7_init_43 : decode cX7_init 43 = .ok (.lconst 1, 1) := by decide +kernel
theorem dX7_init_44 : decode cX7_init 44 = .ok (.putfield 30, 3) := by decide +kernel
theorem dX7_init_47 : decode cX7_init 47 = .ok (.return_, 1) := by decide +kernel
theorem dX7_above_0 : decode cX7_above 0 = .ok (.aload_n 0, 1) := by decide +kernel
theorem dX7_above_1 : decode cX7_above 1 = .ok (.getfield 13, 3) := by decide +kernel
theorem dX7_above_4 : decode cX7_above 4 = .ok (.aload_n 0, 1) := by decide +kernel
theorem dX7_above_5 : decode cX7_above 5 = .ok (.getfield 23, 3) := by decide +kernel
theorem dX7_above_8 : decode cX7_above 8 = .ok (.aaload, 1) := by decide +kernel
theorem dX7_above_9 : decode cX7_above 9 = .ok (.aload_n 0, 1) := by decide +kernel
theorem dX7_above_10 : decode cX7_above 10 = .ok (.getfield 27, 3) := by decide +kernel
theorem dX7_above_13 : decode cX7_above 13 = .ok (.laload, 1) := by decide +kernel
theorem dX7_above_14 : decode cX7_above 14 = .ok (.lreturn, 1) := by decide +kernel
theorem dX7_below_0 : decode cX7_below 0 = .ok (.aload_n 0, 1) := by decide +kernel
theorem dX7_below_1 : decode cX7_below 1 = .ok (.getfield 30, 3) := by decide +kernel
theorem dX7_below_4 : decode cX7_below 4 = .ok (.lreturn, 1) := by decide +kernel
set_option maxRecDepth 20000 in
theorem ggX7_solve_X7_lay : GoodIn wsX7_solve wsX7_lay := sw_good (sw_cons (t1_ (al_ (al_ (al_ (t4_ (t1_ h1_)))))) (sw_app (sw_app (sw_cons (t1_ (al_ (al_ (al_ (t4_ (t1_ (t1_ h1_))))))) (sw_cons (t1_ (al_ (al_ (al_ (t4_ (t1_ (t1_ (t1_ h1_)))))))) (sw_cons (t1_ (al_ (al_ (al_ (t4_ (t4_ h1_)))))) (sw_cons (t1_ (al_ (al_ (al_ (t4_ (t4_ (t1_ h1_))))))) (sw_cons (t1_ (al_ (al_ (al_ (t4_ (t4_ (t1_ (t1_ h1_)))))))) (sw_cons (t1_ (al_ (al_ (al_ (t4_ (t4_ (t1_ (t1_ (t1_ h1_))))))))) (sw_cons (t1_ (al_ (al_ (al_ (t4_ (t4_ (t4_ h1_))))))) (sw_cons (t1_ (al_ (al_ (al_ (t4_ (t4_ (t4_ (t1_ h1_)))))))) (sw_cons (t1_ (al_ (al_ (al_ (t4_ (t4_ (t4_ (t1_ (t1_ h1_))))))))) (sw_cons (t1_ (al_ (al_ (al_ (t4_ (t4_ (t4_ (t1_ (t1_ (t1_ h1_)))))))))) (sw_cons (t1_ (al_ (al_ (al_ (t16_ h1_))))) (sw_cons (t1_ (al_ (al_ (al_ (t16_ (t1_ h1_)))))) (sw_cons (t1_ (al_ (al_ (al_ (t16_ (t1_ (t1_ h1_))))))) sw_nil))))))))))))) (fun _ h => (t1_ (al_ (ar_ h))))) (fun _ h => (t1_ (ar_ h))))) (by decide +kernel)
set_option maxRecDepth 20000 in
theorem gX7_solve_X7_lay : GoodIn wsX7_solve (wsV RX7 34 RX7 yX7_lay wsX7_lay) := goodIn_app (sw_good (sw_cons (t1_ (al_ (al_ (al_ (t1_ h1_))))) (sw_cons (t1_ (al_ (al_ (al_ (t1_ (t1_ h1_)))))) (sw_cons (t1_ (al_ (al_ (al_ (t1_ (t1_ (t1_ h1_))))))) (sw_cons (t1_ (al_ (al_ (al_ (t4_ h1_))))) sw_nil)))) (by decide +kernel)) ggX7_solve_X7_lay
set_option maxRecDepth 20000 in
theorem ggX7_solve_X7_enteringColumn : GoodIn wsX7_solve wsX7_enteringColumn := sw_good (sw_cons (t1_ (al_ (al_ (al_ (t16_ (t4_ (t1_ (t1_ h1_)))))))) (sw_app (sw_cons (t1_ (al_ (al_ (al_ (t4_ (t4_ (t1_ h1_))))))) (sw_cons (t1_ (al_ (al_ (al_ (t4_ (t4_ (t4_ h1_))))))) (sw_cons (t1_ (al_ (al_ (al_ (t4_ (t1_ (t1_ (t1_ h1_)))))))) (sw_cons (t1_ (al_ (al_ (al_ (t4_ (t4_ (t4_ (t1_ (t1_ h1_))))))))) sw_nil)))) (fun _ h => (t1_ (ar_ h))))) (by decide +kernel)
set_option maxRecDepth 20000 in
theorem gX7_solve_X7_enteringColumn : GoodIn wsX7_solve (wsV RX7 39 RX7 yX7_enteringColumn wsX7_enteringColumn) := goodIn_app (sw_good (sw_cons (t1_ (al_ (al_ (al_ (t16_ (t1_ (t1_ (t1_ h1_)))))))) (sw_cons (t1_ (al_ (al_ (al_ (t16_ (t4_ h1_)))))) (sw_cons (t1_ (al_ (al_ (al_ (t16_ (t4_ (t1_ h1_))))))) (sw_cons (t1_ (al_ (al_ (al_ (t4_ h1_))))) sw_nil)))) (by decide +kernel)) ggX7_solve_X7_enteringColumn
set_option maxRecDepth 20000 in
theorem ggX7_solve_X7_leavingRow : GoodIn wsX7_solve wsX7_leavingRow := sw_good (sw_cons (t1_ (al_ (al_ (ar_ (t1_ (t1_ h1_)))))) (sw_app (sw_cons (t1_ (al_ (al_ (al_ (t4_ (t1_ (t1_ (t1_ h1_)))))))) (sw_cons (t1_ (al_ (al_ (al_ (t4_ (t4_ (t4_ h1_))))))) (sw_cons (t1_ (al_ (al_ (ar_ (t1_ (t1_ (t1_ h1_))))))) (sw_cons (t1_ (al_ (al_ (ar_ (t4_ h1_))))) (sw_cons (t1_ (al_ (al_ (ar_ (t4_ (t1_ h1_)))))) (sw_cons (t1_ (al_ (al_ (al_ (t4_ h1_))))) (sw_cons (t1_ (al_ (al_ (ar_ (t4_ (t1_ (t1_ h1_))))))) (sw_cons (t1_ (al_ (al_ (al_ (t4_ (t4_ (t1_ h1_))))))) (sw_cons (t1_ (al_ (al_ (al_ (t4_ (t4_ (t1_ (t1_ (t1_ h1_))))))))) sw_nil))))))))) (fun _ h => (t1_ (ar_ h))))) (by decide +kernel)
set_option maxRecDepth 20000 in
theorem gX7_solve_X7_leavingRow : GoodIn wsX7_solve (wsV RX7 43 RX7 yX7_leavingRow wsX7_leavingRow) := goodIn_app (sw_good (sw_cons (t1_ (al_ (al_ (al_ (t16_ (t4_ (t1_ (t1_ (t1_ h1_))))))))) (sw_cons (t1_ (al_ (al_ (ar_ h1_)))) (sw_cons (t1_ (al_ (al_ (ar_ (t1_ h1_))))) (sw_cons (t1_ (al_ (al_ (al_ (t4_ h1_))))) sw_nil)))) (by decide +kernel)) ggX7_solve_X7_leavingRow
set_option maxRecDepth 20000 in
theorem ggX7_solve_X7_pivot : GoodIn wsX7_solve wsX7_pivot := sw_good (sw_cons (t1_ (al_ (al_ (ar_ (t4_ (t4_ (t1_ (t1_ h1_)))))))) (sw_app (sw_cons (t1_ (al_ (al_ (al_ (t4_ (t4_ (t4_ h1_))))))) (sw_cons (t1_ (al_ (al_ (al_ (t4_ (t4_ (t1_ (t1_ h1_)))))))) (sw_cons (t1_ (al_ (al_ (al_ (t4_ (t1_ (t1_ (t1_ h1_)))))))) (sw_cons (t1_ (al_ (al_ (al_ (t4_ (t4_ (t1_ (t1_ (t1_ h1_))))))))) (sw_cons (t1_ (al_ (al_ (al_ (t4_ (t4_ (t4_ (t1_ (t1_ h1_))))))))) (sw_cons (t1_ (al_ (al_ (ar_ (t4_ (t4_ (t1_ (t1_ (t1_ h1_))))))))) (sw_cons (t1_ (al_ (al_ (ar_ (t4_ (t4_ (t4_ h1_))))))) (sw_cons (t1_ (al_ (al_ (ar_ (t4_ (t4_ (t4_ (t1_ h1_)))))))) (sw_cons (t1_ (al_ (al_ (al_ (t4_ h1_))))) (sw_cons (t1_ (al_ (al_ (ar_ (t4_ (t4_ (t4_ (t1_ (t1_ h1_))))))))) (sw_cons (t1_ (al_ (al_ (al_ (t4_ (t4_ (t1_ h1_))))))) sw_nil))))))))))) (fun _ h => (t1_ (ar_ h))))) (by decide +kernel)
set_option maxRecDepth 20000 in
theorem gX7_solve_X7_pivot : GoodIn wsX7_solve (wsV RX7 47 RX7 yX7_pivot wsX7_pivot) := goodIn_app (sw_good (sw_cons (t1_ (al_ (al_ (ar_ (t4_ (t1_ (t1_ (t1_ h1_)))))))) (sw_cons (t1_ (al_ (al_ (ar_ (t4_ (t4_ h1_)))))) (sw_cons (t1_ (al_ (al_ (ar_ (t4_ (t4_ (t1_ h1_))))))) (sw_cons (t1_ (al_ (al_ (al_ (t4_ h1_))))) sw_nil)))) (by decide +kernel)) ggX7_solve_X7_pivot
theorem dX7_solve_0 : decode cX7_solve 0 = .ok (.aload_n 0, 1) := by decide +kernel
theorem dX7_solve_1 : decode cX7_solve 1 = .ok (.aload_n 1, 1) := by decide +kernel
theorem dX7_solve_2 : decode cX7_solve 2 = .ok (.aload_n 2, 1) := by decide +kernel
theorem dX7_solve_3 : decode cX7_solve 3 = .ok (.invokevirtual 34, 3) := by decide +kernel
theorem dX7_solve_6 : decode cX7_solve 6 = .ok (.iconst 0, 1) := by decide +kernel
theorem dX7_solve_7 : decode cX7_solve 7 = .ok (.istore_n 3, 1) := by decide +kernel
theorem dX7_solve_8 : decode cX7_solve 8 = .ok (.iload_n 3, 1) := by decide +kernel
theorem dX7_solve_9 : decode cX7_solve 9 = .ok (.ldc 38, 2) := by decide +kernel
theorem dX7_solve_11 : decode cX7_solve 11 = .ok (.if_icmp .ge 43, 3) := by decide +kernel
theorem dX7_solve_14 : decode cX7_solve 14 = .ok (.aload_n 0, 1) := by decide +kernel
theorem dX7_solve_15 : decode cX7_solve 15 = .ok (.invokevirtual 39, 3) := by decide +kernel
theorem dX7_solve_18 : decode cX7_solve 18 = .ok (.istore 4, 2) := by decide +kernel
theorem dX7_solve_20 : decode cX7_solve 20 = .ok (.iload 4, 2) := by decide +kernel
theorem dX7_solve_22 : decode cX7_solve 22 = .ok (.ifCond .ge 4, 3) := by decide +kernel
theorem dX7_solve_25 : decode cX7_solve 25 = .ok (.return_, 1) := by decide +kernel
theorem dX7_solve_26 : decode cX7_solve 26 = .ok (.aload_n 0, 1) := by decide +kernel
theorem dX7_solve_27 : decode cX7_solve 27 = .ok (.iload 4, 2) := by decide +kernel
theorem dX7_solve_29 : decode cX7_solve 29 = .ok (.invokevirtual 43, 3) := by decide +kernel
theorem dX7_solve_32 : decode cX7_solve 32 = .ok (.istore 5, 2) := by decide +kernel
theorem dX7_solve_34 : decode cX7_solve 34 = .ok (.iload 5, 2) := by decide +kernel
theorem dX7_solve_36 : decode cX7_solve 36 = .ok (.ifCond .ge 4, 3) := by decide +kernel
theorem dX7_solve_39 : decode cX7_solve 39 = .ok (.return_, 1) := by decide +kernel
theorem dX7_solve_40 : decode cX7_solve 40 = .ok (.aload_n 0, 1) := by decide +kernel
theorem dX7_solve_41 : decode cX7_solve 41 = .ok (.iload 5, 2) := by decide +kernel
theorem dX7_solve_43 : decode cX7_solve 43 = .ok (.iload 4, 2) := by decide +kernel
theorem dX7_solve_45 : decode cX7_solve 45 = .ok (.invokevirtual 47, 3) := by decide +kernel
theorem dX7_solve_48 : decode cX7_solve 48 = .ok (.iinc 3 1, 3) := by decide +kernel
theorem dX7_solve_51 : decode cX7_solve 51 = .ok (.goto (-43), 3) := by decide +kernel
theorem dX7_solve_54 : decode cX7_solve 54 = .ok (.return_, 1) := by decide +kernel
set_option maxRecDepth 20000 in
theorem ggX7_lay_X9_has : GoodIn wsX7_lay wsX9_has := sw_good (sw_cons (t1_ (al_ (al_ (t4_ (t4_ (t4_ h1_)))))) sw_nil) (by decide +kernel)
set_option maxRecDepth 20000 in
theorem gX7_lay_X9_has_n61 : GoodIn wsX7_lay (wsX9_has) := ggX7_lay_X9_has
theorem dX7_lay_0 : decode cX7_lay 0 = .ok (.aload_n 0, 1) := by decide +kernel
theorem dX7_lay_1 : decode cX7_lay 1 = .ok (.aload_n 1, 1) := by decide +kernel
theorem dX7_lay_2 : decode cX7_lay 2 = .ok (.getfield 51, 3) := by decide +kernel
theorem dX7_lay_5 : decode cX7_lay 5 = .ok (.putfield 23, 3) := by decide +kernel
theorem dX7_lay_8 : decode cX7_lay 8 = .ok (.aload_n 0, 1) := by decide +kernel
theorem dX7_lay_9 : decode cX7_lay 9 = .ok (.aload_n 1, 1) := by decide +kernel
theorem dX7_lay_10 : decode cX7_lay 10 = .ok (.getfield 56, 3) := by decide +kernel
theorem dX7_lay_13 : decode cX7_lay 13 = .ok (.putfield 27, 3) := by decide +kernel
theorem dX7_lay_16 : decode cX7_lay 16 = .ok (.aload_n 0, 1) := by decide +kernel
theorem dX7_lay_17 : decode cX7_lay 17 = .ok (.lconst 1, 1) := by decide +kernel
theorem dX7_lay_18 : decode cX7_lay 18 = .ok (.putfield 30, 3) := by decide +kernel
theorem dX7_lay_21 : decode cX7_lay 21 = .ok (.iconst 0, 1) := by decide +kernel
theorem dX7_lay_22 : decode cX7_lay 22 = .ok (.istore_n 3, 1) := by decide +kernel
theorem dX7_lay_23 : decode cX7_lay 23 = .ok (.iload_n 3, 1) := by decide +kernel
theorem dX7_lay_24 : decode cX7_lay 24 = .ok (.aload_n 0, 1) := by decide +kernel
theorem dX7_lay_25 : decode cX7_lay 25 = .ok (.getfield 23, 3) := by decide +kernel
theorem dX7_lay_28 : decode cX7_lay 28 = .ok (.if_icmp .ge 82, 3) := by decide +kernel
theorem dX7_lay_31 : decode cX7_lay 31 = .ok (.aload_n 0, 1) := by decide +kernel
theorem dX7_lay_32 : decode cX7_lay 32 = .ok (.getfield 16, 3) := by decide +kernel
theorem dX7_lay_35 : decode cX7_lay 35 = .ok (.iload_n 3, 1) := by decide +kernel
theorem dX7_lay_36 : decode cX7_lay 36 = .ok (.aload_n 0, 1) := by decide +kernel
theorem dX7_lay_37 : decode cX7_lay 37 = .ok (.getfield 27, 3) := by decide +kernel
theorem dX7_lay_40 : decode cX7_lay 40 = .ok (.iload_n 3, 1) := by decide +kernel
theorem dX7_lay_41 : decode cX7_lay 41 = .ok (.iadd, 1) := by decide +kernel
theorem dX7_lay_42 : decode cX7_lay 42 = .ok (.iastore, 1) := by decide +kernel
theorem dX7_lay_43 : decode cX7_lay 43 = .ok (.aload_n 0, 1) := by decide +kernel
theorem dX7_lay_44 : decode cX7_lay 44 = .ok (.getfield 13, 3) := by decide +kernel
theorem dX7_lay_47 : decode cX7_lay 47 = .ok (.iload_n 3, 1) := by decide +kernel
theorem dX7_lay_48 : decode cX7_lay 48 = .ok (.aaload, 1) := by decide +kernel
theorem dX7_lay_49 : decode cX7_lay 49 = .ok (.aload_n 0, 1) := by decide +kernel
theorem dX7_lay_50 : decode cX7_lay 50 = .ok (.getfield 27, 3) := by decide +kernel
theorem dX7_lay_53 : decode cX7_lay 53 = .ok (.aload_n 2, 1) := by decide +kernel
theorem dX7_lay_54 : decode cX7_lay 54 = .ok (.iload_n 3, 1) := by decide +kernel
theorem dX7_lay_55 : decode cX7_lay 55 = .ok (.iaload, 1) := by decide +kernel
theorem dX7_lay_56 : decode cX7_lay 56 = .ok (.i2l, 1) := by decide +kernel
theorem dX7_lay_57 : decode cX7_lay 57 = .ok (.lastore, 1) := by decide +kernel
theorem dX7_lay_58 : decode cX7_lay 58 = .ok (.iconst 0, 1) := by decide +kernel
theorem dX7_lay_59 : decode cX7_lay 59 = .ok (.istore 4, 2) := by decide +kernel
theorem dX7_lay_61 : decode cX7_lay 61 = .ok (.iload 4, 2) := by decide +kernel
theorem dX7_lay_63 : decode cX7_lay 63 = .ok (.aload_n 0, 1) := by decide +kernel
theorem dX7_lay_64 : decode cX7_lay 64 = .ok (.getfield 27, 3) := by decide +kernel
theorem dX7_lay_67 : decode cX7_lay 67 = .ok (.if_icmp .ge 37, 3) := by decide +kernel
theorem dX7_lay_70 : decode cX7_lay 70 = .ok (.aload_n 0, 1) := by decide +kernel
theorem dX7_lay_71 : decode cX7_lay 71 = .ok (.getfield 13, 3) := by decide +kernel
theorem dX7_lay_74 : decode cX7_lay 74 = .ok (.iload_n 3, 1) := by decide +kernel
theorem dX7_lay_75 : decode cX7_lay 75 = .ok (.aaload, 1) := by decide +kernel
theorem dX7_lay_76 : decode cX7_lay 76 = .ok (.iload 4, 2) := by decide +kernel
theorem dX7_lay_78 : decode cX7_lay 78 = .ok (.aload_n 1, 1) := by decide +kernel
theorem dX7_lay_79 : decode cX7_lay 79 = .ok (.getfield 59, 3) := by decide +kernel
theorem dX7_lay_82 : decode cX7_lay 82 = .ok (.iload 4, 2) := by decide +kernel
theorem dX7_lay_84 : decode cX7_lay 84 = .ok (.iaload, 1) := by decide +kernel
theorem dX7_lay_85 : decode cX7_lay 85 = .ok (.iload_n 3, 1) := by decide +kernel
theorem dX7_lay_86 : decode cX7_lay 86 = .ok (.invokestatic 61, 3) := by decide +kernel
theorem dX7_lay_89 : decode cX7_lay 89 = .ok (.ifCond .eq 7, 3) := by decide +kernel
theorem dX7_lay_92 : decode cX7_lay 92 = .ok (.lconst 1, 1) := by decide +kernel
theorem dX7_lay_93 : decode cX7_lay 93 = .ok (.goto 4, 3) := by decide +kernel
theorem dX7_lay_96 : decode cX7_lay 96 = .ok (.lconst 0, 1) := by decide +kernel
theorem dX7_lay_97 : decode cX7_lay 97 = .ok (.lastore, 1) := by decide +kernel
theorem dX7_lay_98 : decode cX7_lay 98 = .ok (.iinc 4 1, 3) := by decide +kernel
theorem dX7_lay_101 : decode cX7_lay 101 = .ok (.goto (-40), 3) := by decide +kernel
theorem dX7_lay_104 : decode cX7_lay 104 = .ok (.iinc 3 1, 3) := by decide +kernel
theorem dX7_lay_107 : decode cX7_lay 107 = .ok (.goto (-84), 3) := by decide +kernel
theorem dX7_lay_110 : decode cX7_lay 110 = .ok (.iconst 0, 1) := by decide +kernel
theorem dX7_lay_111 : decode cX7_lay 111 = .ok (.istore_n 3, 1) := by decide +kernel
theorem dX7_lay_112 : decode cX7_lay 112 = .ok (.iload_n 3, 1) := by decide +kernel
theorem dX7_lay_113 : decode cX7_lay 113 = .ok (.aload_n 0, 1) := by decide +kernel
theorem dX7_lay_114 : decode cX7_lay 114 = .ok (.getfield 27, 3) := by decide +kernel
theorem dX7_lay_117 : decode cX7_lay 117 = .ok (.if_icmp .ge 30, 3) := by decide +kernel
theorem dX7_lay_120 : decode cX7_lay 120 = .ok (.aload_n 0, 1) := by decide +kernel
theorem dX7_lay_121 : decode cX7_lay 121 = .ok (.getfield 20, 3) := by decide +kernel
theorem dX7_lay_124 : decode cX7_lay 124 = .ok (.iload_n 3, 1) := by decide +kernel
theorem dX7_lay_125 : decode cX7_lay 125 = .ok (.iload_n 3, 1) := by decide +kernel
theorem dX7_lay_126 : decode cX7_lay 126 = .ok (.iastore, 1) := by decide +kernel
theorem dX7_lay_127 : decode cX7_lay 127 = .ok (.aload_n 0, 1) := by decide +kernel
theorem dX7_lay_128 : decode cX7_lay 128 = .ok (.getfield 13, 3) := by decide +kernel
theorem dX7_lay_131 : decode cX7_lay 131 = .ok (.aload_n 0, 1) := by decide +kernel
theorem dX7_lay_132 : decode cX7_lay 132 = .ok (.getfield 23, 3) := by decide +kernel
theorem dX7_lay_135 : decode cX7_lay 135 = .ok (.aaload, 1) := by decide +kernel
theorem dX7_lay_136 : decode cX7_lay 136 = .ok (.iload_n 3, 1) := by decide +kernel
theorem dX7_lay_137 : decode cX7_lay 137 = .ok (.ldc2_w 65, 3) := by decide +kernel
theorem dX7_lay_140 : decode cX7_lay 140 = .ok (.lastore, 1) := by decide +kernel
theorem dX7_lay_141 : decode cX7_lay 141 = .ok (.iinc 3 1, 3) := by decide +kernel
theorem dX7_lay_144 : decode cX7_lay 144 = .ok (.goto (-32), 3) := by decide +kernel
theorem dX7_lay_147 : decode cX7_lay 147 = .ok (.aload_n 0, 1) := by decide +kernel
theorem dX7_lay_148 : decode cX7_lay 148 = .ok (.getfield 13, 3) := by decide +kernel
theorem dX7_lay_151 : decode cX7_lay 151 = .ok (.aload_n 0, 1) := by decide +kernel
theorem dX7_lay_152 : decode cX7_lay 152 = .ok (.getfield 23, 3) := by decide +kernel
theorem dX7_lay_155 : decode cX7_lay 155 = .ok (.aaload, 1) := by decide +kernel
theorem dX7_lay_156 : decode cX7_lay 156 = .ok (.aload_n 0, 1) := by decide +kernel
theorem dX7_lay_157 : decode cX7_lay 157 = .ok (.getfield 27, 3) := by decide +kernel
theorem dX7_lay_160 : decode cX7_lay 160 = .ok (.lconst 0, 1) := by decide +kernel
theorem dX7_lay_161 : decode cX7_lay 161 = .ok (.lastore, 1) := by decide +kernel
theorem dX7_lay_162 : decode cX7_lay 162 = .ok (.return_, 1) := by decide +kernel
theorem dX7_enteringColumn_0 : decode cX7_enteringColumn 0 = .ok (.iconst (-1), 1) := by decide +kernel
theorem dX7_enteringColumn_1 : decode cX7_enteringColumn 1 = .ok (.istore_n 1, 1) := by decide +kernel
theorem dX7_enteringColumn_2 : decode cX7_enteringColumn 2 = .ok (.iconst 0, 1) := by decide +kernel
theorem dX7_enteringColumn_3 : decode cX7_enteringColumn 3 = .ok (.istore_n 2, 1) := by decide +kernel
theorem dX7_enteringColumn_4 : decode cX7_enteringColumn 4 = .ok (.iload_n 2, 1) := by decide +kernel
theorem dX7_enteringColumn_5 : decode cX7_enteringColumn 5 = .ok (.aload_n 0, 1) := by decide +kernel
theorem dX7_enteringColumn_6 : decode cX7_enteringColumn 6 = .ok (.getfield 27, 3) := by decide +kernel
theorem dX7_enteringColumn_9 : decode cX7_enteringColumn 9 = .ok (.if_icmp .ge 46, 3) := by decide +kernel
theorem dX7_enteringColumn_12 : decode cX7_enteringColumn 12 = .ok (.aload_n 0, 1) := by decide +kernel
theorem dX7_enteringColumn_13 : decode cX7_enteringColumn 13 = .ok (.getfield 13, 3) := by decide +kernel
theorem dX7_enteringColumn_16 : decode cX7_enteringColumn 16 = .ok (.aload_n 0, 1) := by decide +kernel
theorem dX7_enteringColumn_17 : decode cX7_enteringColumn 17 = .ok (.getfield 23, 3) := by decide +kernel
theorem dX7_enteringColumn_20 : decode cX7_enteringColumn 20 = .ok (.aaload, 1) := by decide +kernel
theorem dX7_enteringColumn_21 : decode cX7_enteringColumn 21 = .ok (.iload_n 2, 1) := by decide +kernel
theorem dX7_enteringColumn_22 : decode cX7_enteringColumn 22 = .ok (.laload, 1) := by decide +kernel
theorem dX7_enteringColumn_23 : decode cX7_enteringColumn 23 = .ok (.lconst 0, 1) := by decide +kernel
theorem dX7_enteringColumn_24 : decode cX7_enteringColumn 24 = .ok (.lcmp, 1) := by decide +kernel
theorem dX7_enteringColumn_25 : decode cX7_enteringColumn 25 = .ok (.ifCond .ge 24, 3) := by decide +kernel
theorem dX7_enteringColumn_28 : decode cX7_enteringColumn 28 = .ok (.iload_n 1, 1) := by decide +kernel
theorem dX7_enteringColumn_29 : decode cX7_enteringColumn 29 = .ok (.ifCond .lt 18, 3) := by decide +kernel
theorem dX7_enteringColumn_32 : decode cX7_enteringColumn 32 = .ok (.aload_n 0, 1) := by decide +kernel
theorem dX7_enteringColumn_33 : decode cX7_enteringColumn 33 = .ok (.getfield 20, 3) := by decide +kernel
theorem dX7_enteringColumn_36 : decode cX7_enteringColumn 36 = .ok (.iload_n 2, 1) := by decide +kernel
theorem dX7_enteringColumn_37 : decode cX7_enteringColumn 37 = .ok (.iaload, 1) := by decide +kernel
theorem dX7_enteringColumn_38 : decode cX7_enteringColumn 38 = .ok (.aload_n 0, 1) := by decide +kernel
theorem dX7_enteringColumn_39 : decode cX7_enteringColumn 39 = .ok (.getfield 20, 3) := by decide +kernel
theorem dX7_enteringColumn_42 : decode cX7_enteringColumn 42 = .ok (.iload_n 1, 1) := by decide +kernel
theorem dX7_enteringColumn_43 : decode cX7_enteringColumn 43 = .ok (.iaload, 1) := by decide +kernel
theorem dX7_enteringColumn_44 : decode cX7_enteringColumn 44 = .ok (.if_icmp .ge 5, 3) := by decide +kernel
theorem dX7_enteringColumn_47 : decode cX7_enteringColumn 47 = .ok (.iload_n 2, 1) := by decide +kernel
theorem dX7_enteringColumn_48 : decode cX7_enteringColumn 48 = .ok (.istore_n 1, 1) := by decide +kernel
theorem dX7_enteringColumn_49 : decode cX7_enteringColumn 49 = .ok (.iinc 2 1, 3) := by decide +kernel
theorem dX7_enteringColumn_52 : decode cX7_enteringColumn 52 = .ok (.goto (-48), 3) := by decide +kernel
theorem dX7_enteringColumn_55 : decode cX7_enteringColumn 55 = .ok (.iload_n 1, 1) := by decide +kernel
theorem dX7_enteringColumn_56 : decode cX7_enteringColumn 56 = .ok (.ireturn, 1) := by decide +kernel
set_option maxRecDepth 20000 in
theorem ggX7_leavingRow_X7_bindsBefore : GoodIn wsX7_leavingRow wsX7_bindsBefore := sw_good (sw_cons (t1_ (al_ (t4_ (t1_ (t1_ h1_))))) (sw_app (sw_cons (t1_ (al_ (t1_ h1_))) (sw_cons (t1_ (al_ (t4_ (t1_ (t1_ (t1_ h1_)))))) (sw_cons (t1_ (al_ (t4_ (t4_ h1_)))) sw_nil))) (fun _ h => (t1_ (ar_ h))))) (by decide +kernel)
set_option maxRecDepth 20000 in
theorem gX7_leavingRow_X7_bindsBefore : GoodIn wsX7_leavingRow (wsV RX7 67 RX7 yX7_bindsBefore wsX7_bindsBefore) := goodIn_app (sw_good (sw_cons (t1_ (al_ (t1_ (t1_ h1_)))) (sw_cons (t1_ (al_ (t1_ (t1_ (t1_ h1_))))) (sw_cons (t1_ (al_ (t4_ h1_))) (sw_cons (t1_ (al_ (t4_ (t1_ h1_)))) sw_nil)))) (by decide +kernel)) ggX7_leavingRow_X7_bindsBefore
theorem dX7_leavingRow_0 : decode cX7_leavingRow 0 = .ok (.iconst (-1), 1) := by decide +kernel
theorem dX7_leavingRow_1 : decode cX7_leavingRow 1 = .ok (.istore_n 2, 1) := by decide +kernel
theorem dX7_leavingRow_2 : decode cX7_leavingRow 2 = .ok (.iconst 0, 1) := by decide +kernel
theorem dX7_leavingRow_3 : decode cX7_leavingRow 3 = .ok (.istore_n 3, 1) := by decide +kernel
theorem dX7_leavingRow_4 : decode cX7_leavingRow 4 = .ok (.iload_n 3, 1) := by decide +kernel
theorem dX7_leavingRow_5 : decode cX7_leavingRow 5 = .ok (.aload_n 0, 1) := by decide +kernel
theorem dX7_leavingRow_6 : decode cX7_leavingRow 6 = .ok (.getfield 23, 3) := by decide +kernel
theorem dX7_leavingRow_9 : decode cX7_leavingRow 9 = .ok (.if_icmp .ge 38, 3) := by decide +kernel
theorem dX7_leavingRow_12 : decode cX7_leavingRow 12 = .ok (.aload_n 0, 1) := by decide +kernel
theorem dX7_leavingRow_13 : decode cX7_leavingRow 13 = .ok (.getfield 13, 3) := by decide +kernel
theorem dX7_leavingRow_16 : decode cX7_leavingRow 16 = .ok (.iload_n 3, 1) := by decide +kernel
theorem dX7_leavingRow_17 : decode cX7_leavingRow 17 = .ok (.aaload, 1) := by decide +kernel
theorem dX7_leavingRow_18 : decode cX7_leavingRow 18 = .ok (.iload_n 1, 1) := by decide +kernel
theorem dX7_leavingRow_19 : decode cX7_leavingRow 19 = .ok (.laload, 1) := by decide +kernel
theorem dX7_leavingRow_20 : decode cX7_leavingRow 20 = .ok (.lconst 0, 1) := by decide +kernel
theorem dX7_leavingRow_21 : decode cX7_leavingRow 21 = .ok (.lcmp, 1) := by decide +kernel
theorem dX7_leavingRow_22 : decode cX7_leavingRow 22 = .ok (.ifCond .le 19, 3) := by decide +kernel
theorem dX7_leavingRow_25 : decode cX7_leavingRow 25 = .ok (.iload_n 2, 1) := by decide +kernel
theorem dX7_leavingRow_26 : decode cX7_leavingRow 26 = .ok (.ifCond .lt 13, 3) := by decide +kernel
theorem dX7_leavingRow_29 : decode cX7_leavingRow 29 = .ok (.aload_n 0, 1) := by decide +kernel
theorem dX7_leavingRow_30 : decode cX7_leavingRow 30 = .ok (.iload_n 3, 1) := by decide +kernel
theorem dX7_leavingRow_31 : decode cX7_leavingRow 31 = .ok (.iload_n 2, 1) := by decide +kernel
theorem dX7_leavingRow_32 : decode cX7_leavingRow 32 = .ok (.iload_n 1, 1) := by decide +kernel
theorem dX7_leavingRow_33 : decode cX7_leavingRow 33 = .ok (.invokevirtual 67, 3) := by decide +kernel
theorem dX7_leavingRow_36 : decode cX7_leavingRow 36 = .ok (.ifCond .eq 5, 3) := by decide +kernel
theorem dX7_leavingRow_39 : decode cX7_leavingRow 39 = .ok (.iload_n 3, 1) := by decide +kernel
theorem dX7_leavingRow_40 : decode cX7_leavingRow 40 = .ok (.istore_n 2, 1) := by decide +kernel
theorem dX7_leavingRow_41 : decode cX7_leavingRow 41 = .ok (.iinc 3 1, 3) := by decide +kernel
theorem dX7_leavingRow_44 : decode cX7_leavingRow 44 = .ok (.goto (-40), 3) := by decide +kernel
theorem dX7_leavingRow_47 : decode cX7_leavingRow 47 = .ok (.iload_n 2, 1) := by decide +kernel
theorem dX7_leavingRow_48 : decode cX7_leavingRow 48 = .ok (.ireturn, 1) := by decide +kernel
theorem dX7_bindsBefore_0 : decode cX7_bindsBefore 0 = .ok (.aload_n 0, 1) := by decide +kernel
theorem dX7_bindsBefore_1 : decode cX7_bindsBefore 1 = .ok (.getfield 13, 3) := by decide +kernel
theorem dX7_bindsBefore_4 : decode cX7_bindsBefore 4 = .ok (.iload_n 1, 1) := by decide +kernel
theorem dX7_bindsBefore_5 : decode cX7_bindsBefore 5 = .ok (.aaload, 1) := by decide +kernel
theorem dX7_bindsBefore_6 : decode cX7_bindsBefore 6 = .ok (.aload_n 0, 1) := by decide +kernel
theorem dX7_bindsBefore_7 : decode cX7_bindsBefore 7 = .ok (.getfield 27, 3) := by decide +kernel
theorem dX7_bindsBefore_10 : decode cX7_bindsBefore 10 = .ok (.laload, 1) := by decide +kernel
theorem dX7_bindsBefore_11 : decode cX7_bindsBefore 11 = .ok (.aload_n 0, 1) := by decide +kernel
theorem dX7_bindsBefore_12 : decode cX7_bindsBefore 12 = .ok (.getfield 13, 3) := by decide +kernel
theorem dX7_bindsBefore_15 : decode cX7_bindsBefore 15 = .ok (.iload_n 2, 1) := by decide +kernel
theorem dX7_bindsBefore_16 : decode cX7_bindsBefore 16 = .ok (.aaload, 1) := by decide +kernel
theorem dX7_bindsBefore_17 : decode cX7_bindsBefore 17 = .ok (.iload_n 3, 1) := by decide +kernel
theorem dX7_bindsBefore_18 : decode cX7_bindsBefore 18 = .ok (.laload, 1) := by decide +kernel
theorem dX7_bindsBefore_19 : decode cX7_bindsBefore 19 = .ok (.lmul, 1) := by decide +kernel
theorem dX7_bindsBefore_20 : decode cX7_bindsBefore 20 = .ok (.lstore 4, 2) := by decide +kernel
theorem dX7_bindsBefore_22 : decode cX7_bindsBefore 22 = .ok (.aload_n 0, 1) := by decide +kernel
theorem dX7_bindsBefore_23 : decode cX7_bindsBefore 23 = .ok (.getfield 13, 3) := by decide +kernel
theorem dX7_bindsBefore_26 : decode cX7_bindsBefore 26 = .ok (.iload_n 2, 1) := by decide +kernel
theorem dX7_bindsBefore_27 : decode cX7_bindsBefore 27 = .ok (.aaload, 1) := by decide +kernel
theorem dX7_bindsBefore_28 : decode cX7_bindsBefore 28 = .ok (.aload_n 0, 1) := by decide +kernel
theorem dX7_bindsBefore_29 : decode cX7_bindsBefore 29 = .ok (.getfield 27, 3) := by decide +kernel
theorem dX7_bindsBefore_32 : decode cX7_bindsBefore 32 = .ok (.laload, 1) := by decide +kernel
theorem dX7_bindsBefore_33 : decode cX7_bindsBefore 33 = .ok (.aload_n 0, 1) := by decide +kernel
theorem dX7_bindsBefore_34 : decode cX7_bindsBefore 34 = .ok (.getfield 13, 3) := by decide +kernel
theorem dX7_bindsBefore_37 : decode cX7_bindsBefore 37 = .ok (.iload_n 1, 1) := by decide +kernel
theorem dX7_bindsBefore_38 : decode cX7_bindsBefore 38 = .ok (.aaload, 1) := by decide +kernel
theorem dX7_bindsBefore_39 : decode cX7_bindsBefore 39 = .ok (.iload_n 3, 1) := by decide +kernel
theorem dX7_bindsBefore_40 : decode cX7_bindsBefore 40 = .ok (.laload, 1) := by decide +kernel
theorem dX7_bindsBefore_41 : decode cX7_bindsBefore 41 = .ok (.lmul, 1) := by decide +kernel
theorem dX7_bindsBefore_42 : decode cX7_bindsBefore 42 = .ok (.lstore 6, 2) := by decide +kernel
theorem dX7_bindsBefore_44 : decode cX7_bindsBefore 44 = .ok (.lload 4, 2) := by decide +kernel
theorem dX7_bindsBefore_46 : decode cX7_bindsBefore 46 = .ok (.lload 6, 2) := by decide +kernel
theorem dX7_bindsBefore_48 : decode cX7_bindsBefore 48 = .ok (.lcmp, 1) := by decide +kernel
theorem dX7_bindsBefore_49 : decode cX7_bindsBefore 49 = .ok (.ifCond .lt 26, 3) := by decide +kernel
theorem dX7_bindsBefore_52 : decode cX7_bindsBefore 52 = .ok (.lload 4, 2) := by decide +kernel
theorem dX7_bindsBefore_54 : decode cX7_bindsBefore 54 = .ok (.lload 6, 2) := by decide +kernel
theorem dX7_bindsBefore_56 : decode cX7_bindsBefore 56 = .ok (.lcmp, 1) := by decide +kernel
theorem dX7_bindsBefore_57 : decode cX7_bindsBefore 57 = .ok (.ifCond .ne 22, 3) := by decide +kernel
theorem dX7_bindsBefore_60 : decode cX7_bindsBefore 60 = .ok (.aload_n 0, 1) := by decide +kernel
theorem dX7_bindsBefore_61 : decode cX7_bindsBefore 61 = .ok (.getfield 16, 3) := by decide +kernel
theorem dX7_bindsBefore_64 : decode cX7_bindsBefore 64 = .ok (.iload_n 1, 1) := by decide +kernel
theorem dX7_bindsBefore_65 : decode cX7_bindsBefore 65 = .ok (.iaload, 1) := by decide +kernel
theorem dX7_bindsBefore_66 : decode cX7_bindsBefore 66 = .ok (.aload_n 0, 1) := by decide +kernel
theorem dX7_bindsBefore_67 : decode cX7_bindsBefore 67 = .ok (.getfield 16, 3) := by decide +kernel
theorem dX7_bindsBefore_70 : decode cX7_bindsBefore 70 = .ok (.iload_n 2, 1) := by decide +kernel
theorem dX7_bindsBefore_71 : decode cX7_bindsBefore 71 = .ok (.iaload, 1) := by decide +kernel
theorem dX7_bindsBefore_72 : decode cX7_bindsBefore 72 = .ok (.if_icmp .ge 7, 3) := by decide +kernel
theorem dX7_bindsBefore_75 : decode cX7_bindsBefore 75 = .ok (.iconst 1, 1) := by decide +kernel
theorem dX7_bindsBefore_76 : decode cX7_bindsBefore 76 = .ok (.goto 4, 3) := by decide +kernel
theorem dX7_bindsBefore_79 : decode cX7_bindsBefore 79 = .ok (.iconst 0, 1) := by decide +kernel
theorem dX7_bindsBefore_80 : decode cX7_bindsBefore 80 = .ok (.ireturn, 1) := by decide +kernel
set_option maxRecDepth 20000 in
theorem ggX7_pivot_X7_clearFromRow : GoodIn wsX7_pivot wsX7_clearFromRow := sw_good (sw_cons (t1_ (al_ (t4_ (t4_ (t1_ h1_))))) (sw_app (sw_cons (t1_ (al_ (t4_ (t4_ (t1_ (t1_ h1_)))))) (sw_cons (t1_ (al_ (t1_ h1_))) sw_nil)) (fun _ h => (t1_ (ar_ h))))) (by decide +kernel)
set_option maxRecDepth 20000 in
theorem gX7_pivot_X7_clearFromRow : GoodIn wsX7_pivot (wsV RX7 71 RX7 yX7_clearFromRow wsX7_clearFromRow) := goodIn_app (sw_good (sw_cons (t1_ (al_ (t4_ (t1_ h1_)))) (sw_cons (t1_ (al_ (t4_ (t1_ (t1_ h1_))))) (sw_cons (t1_ (al_ (t4_ (t1_ (t1_ (t1_ h1_)))))) (sw_cons (t1_ (al_ (t4_ (t4_ h1_)))) sw_nil)))) (by decide +kernel)) ggX7_pivot_X7_clearFromRow
theorem dX7_pivot_0 : decode cX7_pivot 0 = .ok (.aload_n 0, 1) := by decide +kernel
theorem dX7_pivot_1 : decode cX7_pivot 1 = .ok (.getfield 13, 3) := by decide +kernel
theorem dX7_pivot_4 : decode cX7_pivot 4 = .ok (.iload_n 1, 1) := by decide +kernel
theorem dX7_pivot_5 : decode cX7_pivot 5 = .ok (.aaload, 1) := by decide +kernel
theorem dX7_pivot_6 : decode cX7_pivot 6 = .ok (.iload_n 2, 1) := by decide +kernel
theorem dX7_pivot_7 : decode cX7_pivot 7 = .ok (.laload, 1) := by decide +kernel
theorem dX7_pivot_8 : decode cX7_pivot 8 = .ok (.lstore_n 3, 1) := by decide +kernel
theorem dX7_pivot_9 : decode cX7_pivot 9 = .ok (.lload_n 3, 1) := by decide +kernel
theorem dX7_pivot_10 : decode cX7_pivot 10 = .ok (.lconst 0, 1) := by decide +kernel
theorem dX7_pivot_11 : decode cX7_pivot 11 = .ok (.lcmp, 1) := by decide +kernel
theorem dX7_pivot_12 : decode cX7_pivot 12 = .ok (.ifCond .le 12, 3) := by decide +kernel
theorem dX7_pivot_15 : decode cX7_pivot 15 = .ok (.aload_n 0, 1) := by decide +kernel
theorem dX7_pivot_16 : decode cX7_pivot 16 = .ok (.getfield 30, 3) := by decide +kernel
theorem dX7_pivot_19 : decode cX7_pivot 19 = .ok (.lconst 0, 1) := by decide +kernel
theorem dX7_pivot_20 : decode cX7_pivot 20 = .ok (.lcmp, 1) := by decide +kernel
theorem dX7_pivot_21 : decode cX7_pivot 21 = .ok (.ifCond .gt 4, 3) := by decide +kernel
theorem dX7_pivot_24 : decode cX7_pivot 24 = .ok (.return_, 1) := by decide +kernel
theorem dX7_pivot_25 : decode cX7_pivot 25 = .ok (.iconst 0, 1) := by decide +kernel
theorem dX7_pivot_26 : decode cX7_pivot 26 = .ok (.istore 5, 2) := by decide +kernel
theorem dX7_pivot_28 : decode cX7_pivot 28 = .ok (.iload 5, 2) := by decide +kernel
theorem dX7_pivot_30 : decode cX7_pivot 30 = .ok (.aload_n 0, 1) := by decide +kernel
theorem dX7_pivot_31 : decode cX7_pivot 31 = .ok (.getfield 23, 3) := by decide +kernel
theorem dX7_pivot_34 : decode cX7_pivot 34 = .ok (.if_icmp .gt 34, 3) := by decide +kernel
theorem dX7_pivot_37 : decode cX7_pivot 37 = .ok (.iload 5, 2) := by decide +kernel
theorem dX7_pivot_39 : decode cX7_pivot 39 = .ok (.iload_n 1, 1) := by decide +kernel
theorem dX7_pivot_40 : decode cX7_pivot 40 = .ok (.if_icmp .eq 22, 3) := by decide +kernel
theorem dX7_pivot_43 : decode cX7_pivot 43 = .ok (.aload_n 0, 1) := by decide +kernel
theorem dX7_pivot_44 : decode cX7_pivot 44 = .ok (.aload_n 0, 1) := by decide +kernel
theorem dX7_pivot_45 : decode cX7_pivot 45 = .ok (.getfield 13, 3) := by decide +kernel
theorem dX7_pivot_48 : decode cX7_pivot 48 = .ok (.iload 5, 2) := by decide +kernel
theorem dX7_pivot_50 : decode cX7_pivot 50 = .ok (.aaload, 1) := by decide +kernel
theorem dX7_pivot_51 : decode cX7_pivot 51 = .ok (.aload_n 0, 1) := by decide +kernel
theorem dX7_pivot_52 : decode cX7_pivot 52 = .ok (.getfield 13, 3) := by decide +kernel
theorem dX7_pivot_55 : decode cX7_pivot 55 = .ok (.iload_n 1, 1) := by decide +kernel
theorem dX7_pivot_56 : decode cX7_pivot 56 = .ok (.aaload, 1) := by decide +kernel
theorem dX7_pivot_57 : decode cX7_pivot 57 = .ok (.iload_n 2, 1) := by decide +kernel
theorem dX7_pivot_58 : decode cX7_pivot 58 = .ok (.lload_n 3, 1) := by decide +kernel
theorem dX7_pivot_59 : decode cX7_pivot 59 = .ok (.invokevirtual 71, 3) := by decide +kernel
theorem dX7_pivot_62 : decode cX7_pivot 62 = .ok (.iinc 5 1, 3) := by decide +kernel
theorem dX7_pivot_65 : decode cX7_pivot 65 = .ok (.goto (-37), 3) := by decide +kernel
theorem dX7_pivot_68 : decode cX7_pivot 68 = .ok (.aload_n 0, 1) := by decide +kernel
theorem dX7_pivot_69 : decode cX7_pivot 69 = .ok (.getfield 13, 3) := by decide +kernel
theorem dX7_pivot_72 : decode cX7_pivot 72 = .ok (.iload_n 1, 1) := by decide +kernel
theorem dX7_pivot_73 : decode cX7_pivot 73 = .ok (.aaload, 1) := by decide +kernel
theorem dX7_pivot_74 : decode cX7_pivot 74 = .ok (.iload_n 2, 1) := by decide +kernel
theorem dX7_pivot_75 : decode cX7_pivot 75 = .ok (.aload_n 0, 1) := by decide +kernel
theorem dX7_pivot_76 : decode cX7_pivot 76 = .ok (.getfield 30, 3) := by decide +kernel
theorem dX7_pivot_79 : decode cX7_pivot 79 = .ok (.lastore, 1) := by decide +kernel
theorem dX7_pivot_80 : decode cX7_pivot 80 = .ok (.aload_n 0, 1) := by decide +kernel
theorem dX7_pivot_81 : decode cX7_pivot 81 = .ok (.lload_n 3, 1) := by decide +kernel
theorem dX7_pivot_82 : decode cX7_pivot 82 = .ok (.putfield 30, 3) := by decide +kernel
theorem dX7_pivot_85 : decode cX7_pivot 85 = .ok (.aload_n 0, 1) := by decide +kernel
theorem dX7_pivot_86 : decode cX7_pivot 86 = .ok (.getfield 16, 3) := by decide +kernel
theorem dX7_pivot_89 : decode cX7_pivot 89 = .ok (.iload_n 1, 1) := by decide +kernel
theorem dX7_pivot_90 : decode cX7_pivot 90 = .ok (.iaload, 1) := by decide +kernel
theorem dX7_pivot_91 : decode cX7_pivot 91 = .ok (.istore 5, 2) := by decide +kernel
theorem dX7_pivot_93 : decode cX7_pivot 93 = .ok (.aload_n 0, 1) := by decide +kernel
theorem dX7_pivot_94 : decode cX7_pivot 94 = .ok (.getfield 16, 3) := by decide +kernel
theorem dX7_pivot_97 : decode cX7_pivot 97 = .ok (.iload_n 1, 1) := by decide +kernel
theorem dX7_pivot_98 : decode cX7_pivot 98 = .ok (.aload_n 0, 1) := by decide +kernel
theorem dX7_pivot_99 : decode cX7_pivot 99 = .ok (.getfield 20, 3) := by decide +kernel
theorem dX7_pivot_102 : decode cX7_pivot 102 = .ok (.iload_n 2, 1) := by decide +kernel
theorem dX7_pivot_103 : decode cX7_pivot 103 = .ok (.iaload, 1) := by decide +kernel
theorem dX7_pivot_104 : decode cX7_pivot 104 = .ok (.iastore, 1) := by decide +kernel
theorem dX7_pivot_105 : decode cX7_pivot 105 = .ok (.aload_n 0, 1) := by decide +kernel
theorem dX7_pivot_106 : decode cX7_pivot 106 = .ok (.getfield 20, 3) := by decide +kernel
theorem dX7_pivot_109 : decode cX7_pivot 109 = .ok (.iload_n 2, 1) := by decide +kernel
theorem dX7_pivot_110 : decode cX7_pivot 110 = .ok (.iload 5, 2) := by decide +kernel
theorem dX7_pivot_112 : decode cX7_pivot 112 = .ok (.iastore, 1) := by decide +kernel
theorem dX7_pivot_113 : decode cX7_pivot 113 = .ok (.return_, 1) := by decide +kernel
theorem dX7_clearFromRow_0 : decode cX7_clearFromRow 0 = .ok (.aload_n 1, 1) := by decide +kernel
theorem dX7_clearFromRow_1 : decode cX7_clearFromRow 1 = .ok (.iload_n 3, 1) := by decide +kernel
theorem dX7_clearFromRow_2 : decode cX7_clearFromRow 2 = .ok (.laload, 1) := by decide +kernel
theorem dX7_clearFromRow_3 : decode cX7_clearFromRow 3 = .ok (.lstore 6, 2) := by decide +kernel
theorem dX7_clearFromRow_5 : decode cX7_clearFromRow 5 = .ok (.iconst 0, 1) := by decide +kernel
theorem dX7_clearFromRow_6 : decode cX7_clearFromRow 6 = .ok (.istore 8, 2) := by decide +kernel
theorem dX7_clearFromRow_8 : decode cX7_clearFromRow 8 = .ok (.iload 8, 2) := by decide +kernel
theorem dX7_clearFromRow_10 : decode cX7_clearFromRow 10 = .ok (.aload_n 0, 1) := by decide +kernel
theorem dX7_clearFromRow_11 : decode cX7_clearFromRow 11 = .ok (.getfield 27, 3) := by decide +kernel
theorem dX7_clearFromRow_14 : decode cX7_clearFromRow 14 = .ok (.if_icmp .gt 39, 3) := by decide +kernel
theorem dX7_clearFromRow_17 : decode cX7_clearFromRow 17 = .ok (.iload 8, 2) := by decide +kernel
theorem dX7_clearFromRow_19 : decode cX7_clearFromRow 19 = .ok (.iload_n 3, 1) := by decide +kernel
theorem dX7_clearFromRow_20 : decode cX7_clearFromRow 20 = .ok (.if_icmp .eq 27, 3) := by decide +kernel
theorem dX7_clearFromRow_23 : decode cX7_clearFromRow 23 = .ok (.aload_n 1, 1) := by decide +kernel
theorem dX7_clearFromRow_24 : decode cX7_clearFromRow 24 = .ok (.iload 8, 2) := by decide +kernel
theorem dX7_clearFromRow_26 : decode cX7_clearFromRow 26 = .ok (.aload_n 1, 1) := by decide +kernel
theorem dX7_clearFromRow_27 : decode cX7_clearFromRow 27 = .ok (.iload 8, 2) := by decide +kernel
theorem dX7_clearFromRow_29 : decode cX7_clearFromRow 29 = .ok (.laload, 1) := by decide +kernel
theorem dX7_clearFromRow_30 : decode cX7_clearFromRow 30 = .ok (.lload 4, 2) := by decide +kernel
theorem dX7_clearFromRow_32 : decode cX7_clearFromRow 32 = .ok (.lmul, 1) := by decide +kernel
theorem dX7_clearFromRow_33 : decode cX7_clearFromRow 33 = .ok (.lload 6, 2) := by decide +kernel
theorem dX7_clearFromRow_35 : decode cX7_clearFromRow 35 = .ok (.aload_n 2, 1) := by decide +kernel
theorem dX7_clearFromRow_36 : decode cX7_clearFromRow 36 = .ok (.iload 8, 2) := by decide +kernel
theorem dX7_clearFromRow_38 : decode cX7_clearFromRow 38 = .ok (.laload, 1) := by decide +kernel
theorem dX7_clearFromRow_39 : decode cX7_clearFromRow 39 = .ok (.lmul, 1) := by decide +kernel
theorem dX7_clearFromRow_40 : decode cX7_clearFromRow 40 = .ok (.lsub, 1) := by decide +kernel
theorem dX7_clearFromRow_41 : decode cX7_clearFromRow 41 = .ok (.aload_n 0, 1) := by decide +kernel
theorem dX7_clearFromRow_42 : decode cX7_clearFromRow 42 = .ok (.getfield 30, 3) := by decide +kernel
theorem dX7_clearFromRow_45 : decode cX7_clearFromRow 45 = .ok (.ldiv, 1) := by decide +kernel
theorem dX7_clearFromRow_46 : decode cX7_clearFromRow 46 = .ok (.lastore, 1) := by decide +kernel
theorem dX7_clearFromRow_47 : decode cX7_clearFromRow 47 = .ok (.iinc 8 1, 3) := by decide +kernel
theorem dX7_clearFromRow_50 : decode cX7_clearFromRow 50 = .ok (.goto (-42), 3) := by decide +kernel
theorem dX7_clearFromRow_53 : decode cX7_clearFromRow 53 = .ok (.aload_n 1, 1) := by decide +kernel
theorem dX7_clearFromRow_54 : decode cX7_clearFromRow 54 = .ok (.iload_n 3, 1) := by decide +kernel
theorem dX7_clearFromRow_55 : decode cX7_clearFromRow 55 = .ok (.lload 6, 2) := by decide +kernel
theorem dX7_clearFromRow_57 : decode cX7_clearFromRow 57 = .ok (.lneg, 1) := by decide +kernel
theorem dX7_clearFromRow_58 : decode cX7_clearFromRow 58 = .ok (.lastore, 1) := by decide +kernel
theorem dX7_clearFromRow_59 : decode cX7_clearFromRow 59 = .ok (.return_, 1) := by decide +kernel
