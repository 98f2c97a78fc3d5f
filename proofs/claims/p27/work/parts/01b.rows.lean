theorem dX4_init_0 : decode cX4_init 0 = .ok (.aload_n 0, 1) := by decide +kernel
theorem dX4_init_1 : decode cX4_init 1 = .ok (.invokespecial 1, 3) := by decide +kernel
theorem dX4_init_4 : decode cX4_init 4 = .ok (.aload_n 0, 1) := by decide +kernel
theorem dX4_init_5 : decode cX4_init 5 = .ok (.lconst 0, 1) := by decide +kernel
theorem dX4_init_6 : decode cX4_init 6 = .ok (.putfield 7, 3) := by decide +kernel
theorem dX4_init_9 : decode cX4_init 9 = .ok (.aload_n 0, 1) := by decide +kernel
theorem dX4_init_10 : decode cX4_init 10 = .ok (.lconst 1, 1) := by decide +kernel
theorem dX4_init_11 : decode cX4_init 11 = .ok (.putfield 13, 3) := by decide +kernel
theorem dX4_init_14 : decode cX4_init 14 = .ok (.return_, 1) := by decide +kernel
set_option maxRecDepth 20000 in
theorem ggX4_become_X4_commonDivisor : GoodIn wsX4_become wsX4_commonDivisor := sw_good (sw_cons (t1_ (al_ (t4_ (t1_ h1_)))) sw_nil) (by decide +kernel)
set_option maxRecDepth 20000 in
theorem gX4_become_X4_commonDivisor : GoodIn wsX4_become (va_wsS RX4 16 yX4_commonDivisor wsX4_commonDivisor) := goodIn_app (sw_good (sw_cons (t1_ (al_ (t1_ (t1_ h1_)))) (sw_cons (t1_ (al_ (t1_ (t1_ (t1_ h1_))))) (sw_cons (t1_ (al_ (t4_ h1_))) sw_nil))) (by decide +kernel)) ggX4_become_X4_commonDivisor
theorem dX4_become_0 : decode cX4_become 0 = .ok (.lload_n 1, 1) := by decide +kernel
theorem dX4_become_1 : decode cX4_become 1 = .ok (.lload_n 3, 1) := by decide +kernel
theorem dX4_become_2 : decode cX4_become 2 = .ok (.invokestatic 16, 3) := by decide +kernel
theorem dX4_become_5 : decode cX4_become 5 = .ok (.lstore 5, 2) := by decide +kernel
theorem dX4_become_7 : decode cX4_become 7 = .ok (.lload 5, 2) := by decide +kernel
theorem dX4_become_9 : decode cX4_become 9 = .ok (.lconst 0, 1) := by decide +kernel
theorem dX4_become_10 : decode cX4_become 10 = .ok (.lcmp, 1) := by decide +kernel
theorem dX4_become_11 : decode cX4_become 11 = .ok (.ifCond .le 25, 3) := by decide +kernel
theorem dX4_become_14 : decode cX4_become 14 = .ok (.lload_n 3, 1) := by decide +kernel
theorem dX4_become_15 : decode cX4_become 15 = .ok (.lconst 0, 1) := by decide +kernel
theorem dX4_become_16 : decode cX4_become 16 = .ok (.lcmp, 1) := by decide +kernel
theorem dX4_become_17 : decode cX4_become 17 = .ok (.ifCond .le 19, 3) := by decide +kernel
theorem dX4_become_20 : decode cX4_become 20 = .ok (.aload_n 0, 1) := by decide +kernel
theorem dX4_become_21 : decode cX4_become 21 = .ok (.lload_n 1, 1) := by decide +kernel
theorem dX4_become_22 : decode cX4_become 22 = .ok (.lload 5, 2) := by decide +kernel
theorem dX4_become_24 : decode cX4_become 24 = .ok (.ldiv, 1) := by decide +kernel
theorem dX4_become_25 : decode cX4_become 25 = .ok (.putfield 7, 3) := by decide +kernel
theorem dX4_become_28 : decode cX4_become 28 = .ok (.aload_n 0, 1) := by decide +kernel
theorem dX4_become_29 : decode cX4_become 29 = .ok (.lload_n 3, 1) := by decide +kernel
theorem dX4_become_30 : decode cX4_become 30 = .ok (.lload 5, 2) := by decide +kernel
theorem dX4_become_32 : decode cX4_become 32 = .ok (.ldiv, 1) := by decide +kernel
theorem dX4_become_33 : decode cX4_become 33 = .ok (.putfield 13, 3) := by decide +kernel
theorem dX4_become_36 : decode cX4_become 36 = .ok (.return_, 1) := by decide +kernel
theorem dX4_commonDivisor_0 : decode cX4_commonDivisor 0 = .ok (.lload_n 0, 1) := by decide +kernel
theorem dX4_commonDivisor_1 : decode cX4_commonDivisor 1 = .ok (.lstore 4, 2) := by decide +kernel
theorem dX4_commonDivisor_3 : decode cX4_commonDivisor 3 = .ok (.lload_n 2, 1) := by decide +kernel
theorem dX4_commonDivisor_4 : decode cX4_commonDivisor 4 = .ok (.lstore 6, 2) := by decide +kernel
theorem dX4_commonDivisor_6 : decode cX4_commonDivisor 6 = .ok (.iconst 0, 1) := by decide +kernel
theorem dX4_commonDivisor_7 : decode cX4_commonDivisor 7 = .ok (.istore 8, 2) := by decide +kernel
theorem dX4_commonDivisor_9 : decode cX4_commonDivisor 9 = .ok (.iload 8, 2) := by decide +kernel
theorem dX4_commonDivisor_11 : decode cX4_commonDivisor 11 = .ok (.bipush 100, 2) := by decide +kernel
theorem dX4_commonDivisor_13 : decode cX4_commonDivisor 13 = .ok (.if_icmp .ge 31, 3) := by decide +kernel
theorem dX4_commonDivisor_16 : decode cX4_commonDivisor 16 = .ok (.lload 6, 2) := by decide +kernel
theorem dX4_commonDivisor_18 : decode cX4_commonDivisor 18 = .ok (.lconst 0, 1) := by decide +kernel
theorem dX4_commonDivisor_19 : decode cX4_commonDivisor 19 = .ok (.lcmp, 1) := by decide +kernel
theorem dX4_commonDivisor_20 : decode cX4_commonDivisor 20 = .ok (.ifCond .eq 24, 3) := by decide +kernel
theorem dX4_commonDivisor_23 : decode cX4_commonDivisor 23 = .ok (.lload 4, 2) := by decide +kernel
theorem dX4_commonDivisor_25 : decode cX4_commonDivisor 25 = .ok (.lload 6, 2) := by decide +kernel
theorem dX4_commonDivisor_27 : decode cX4_commonDivisor 27 = .ok (.lrem, 1) := by decide +kernel
theorem dX4_commonDivisor_28 : decode cX4_commonDivisor 28 = .ok (.lstore 9, 2) := by decide +kernel
theorem dX4_commonDivisor_30 : decode cX4_commonDivisor 30 = .ok (.lload 6, 2) := by decide +kernel
theorem dX4_commonDivisor_32 : decode cX4_commonDivisor 32 = .ok (.lstore 4, 2) := by decide +kernel
theorem dX4_commonDivisor_34 : decode cX4_commonDivisor 34 = .ok (.lload 9, 2) := by decide +kernel
theorem dX4_commonDivisor_36 : decode cX4_commonDivisor 36 = .ok (.lstore 6, 2) := by decide +kernel
theorem dX4_commonDivisor_38 : decode cX4_commonDivisor 38 = .ok (.iinc 8 1, 3) := by decide +kernel
theorem dX4_commonDivisor_41 : decode cX4_commonDivisor 41 = .ok (.goto (-32), 3) := by decide +kernel
theorem dX4_commonDivisor_44 : decode cX4_commonDivisor 44 = .ok (.lload 4, 2) := by decide +kernel
theorem dX4_commonDivisor_46 : decode cX4_commonDivisor 46 = .ok (.lreturn, 1) := by decide +kernel
theorem dX6_init_0 : decode cX6_init 0 = .ok (.aload_n 0, 1) := by decide +kernel
theorem dX6_init_1 : decode cX6_init 1 = .ok (.invokespecial 3, 3) := by decide +kernel
theorem dX6_init_4 : decode cX6_init 4 = .ok (.aload_n 0, 1) := by decide +kernel
theorem dX6_init_5 : decode cX6_init 5 = .ok (.aload_n 1, 1) := by decide +kernel
theorem dX6_init_6 : decode cX6_init 6 = .ok (.putfield 9, 3) := by decide +kernel
theorem dX6_init_9 : decode cX6_init 9 = .ok (.aload_n 0, 1) := by decide +kernel
theorem dX6_init_10 : decode cX6_init 10 = .ok (.sipush 1024, 3) := by decide +kernel
theorem dX6_init_13 : decode cX6_init 13 = .ok (.newarray .int, 2) := by decide +kernel
theorem dX6_init_15 : decode cX6_init 15 = .ok (.putfield 15, 3) := by decide +kernel
theorem dX6_init_18 : decode cX6_init 18 = .ok (.aload_n 0, 1) := by decide +kernel
theorem dX6_init_19 : decode cX6_init 19 = .ok (.iconst 0, 1) := by decide +kernel
theorem dX6_init_20 : decode cX6_init 20 = .ok (.putfield 18, 3) := by decide +kernel
theorem dX6_init_23 : decode cX6_init 23 = .ok (.aload_n 0, 1) := by decide +kernel
theorem dX6_init_24 : decode cX6_init 24 = .ok (.iload_n 2, 1) := by decide +kernel
theorem dX6_init_25 : decode cX6_init 25 = .ok (.putfield 22, 3) := by decide +kernel
theorem dX6_init_28 : decode cX6_init 28 = .ok (.aload_n 0, 1) := by decide +kernel
theorem dX6_init_29 : decode cX6_init 29 = .ok (.iconst 1, 1) := by decide +kernel
theorem dX6_init_30 : decode cX6_init 30 = .ok (.iload_n 2, 1) := by decide +kernel
theorem dX6_init_31 : decode cX6_init 31 = .ok (.ishl, 1) := by decide +kernel
theorem dX6_init_32 : decode cX6_init 32 = .ok (.putfield 25, 3) := by decide +kernel
theorem dX6_init_35 : decode cX6_init 35 = .ok (.return_, 1) := by decide +kernel
set_option maxRecDepth 20000 in
theorem ggX6_clearFor_J7_fill_53178 : GoodIn wsX6_clearFor wsJ7_fill_53178 := sw_good (sw_cons (t1_ (al_ (t4_ (t1_ (t1_ (t1_ h1_)))))) sw_nil) (by decide +kernel)
set_option maxRecDepth 20000 in
theorem gX6_clearFor_J7_fill_53178 : GoodIn wsX6_clearFor (va_wsS RX6 28 yJ7_fill_53178 wsJ7_fill_53178) := goodIn_app (sw_good (sw_cons (t1_ (al_ (t4_ h1_))) (sw_cons (t1_ (al_ (t4_ (t1_ h1_)))) (sw_cons (t1_ (al_ (t4_ (t1_ (t1_ h1_))))) sw_nil))) (by decide +kernel)) ggX6_clearFor_J7_fill_53178
theorem dX6_clearFor_0 : decode cX6_clearFor 0 = .ok (.aload_n 0, 1) := by decide +kernel
theorem dX6_clearFor_1 : decode cX6_clearFor 1 = .ok (.iconst 0, 1) := by decide +kernel
theorem dX6_clearFor_2 : decode cX6_clearFor 2 = .ok (.putfield 18, 3) := by decide +kernel
theorem dX6_clearFor_5 : decode cX6_clearFor 5 = .ok (.aload_n 0, 1) := by decide +kernel
theorem dX6_clearFor_6 : decode cX6_clearFor 6 = .ok (.iload_n 1, 1) := by decide +kernel
theorem dX6_clearFor_7 : decode cX6_clearFor 7 = .ok (.putfield 22, 3) := by decide +kernel
theorem dX6_clearFor_10 : decode cX6_clearFor 10 = .ok (.aload_n 0, 1) := by decide +kernel
theorem dX6_clearFor_11 : decode cX6_clearFor 11 = .ok (.iconst 1, 1) := by decide +kernel
theorem dX6_clearFor_12 : decode cX6_clearFor 12 = .ok (.iload_n 1, 1) := by decide +kernel
theorem dX6_clearFor_13 : decode cX6_clearFor 13 = .ok (.ishl, 1) := by decide +kernel
theorem dX6_clearFor_14 : decode cX6_clearFor 14 = .ok (.putfield 25, 3) := by decide +kernel
theorem dX6_clearFor_17 : decode cX6_clearFor 17 = .ok (.aload_n 0, 1) := by decide +kernel
theorem dX6_clearFor_18 : decode cX6_clearFor 18 = .ok (.getfield 15, 3) := by decide +kernel
theorem dX6_clearFor_21 : decode cX6_clearFor 21 = .ok (.iconst 0, 1) := by decide +kernel
theorem dX6_clearFor_22 : decode cX6_clearFor 22 = .ok (.invokestatic 28, 3) := by decide +kernel
theorem dX6_clearFor_25 : decode cX6_clearFor 25 = .ok (.return_, 1) := by decide +kernel
theorem dX6_isPart_0 : decode cX6_isPart 0 = .ok (.iload_n 1, 1) := by decide +kernel
theorem dX6_isPart_1 : decode cX6_isPart 1 = .ok (.ifCond .lt 15, 3) := by decide +kernel
theorem dX6_isPart_4 : decode cX6_isPart 4 = .ok (.iload_n 1, 1) := by decide +kernel
theorem dX6_isPart_5 : decode cX6_isPart 5 = .ok (.aload_n 0, 1) := by decide +kernel
theorem dX6_isPart_6 : decode cX6_isPart 6 = .ok (.getfield 25, 3) := by decide +kernel
theorem dX6_isPart_9 : decode cX6_isPart 9 = .ok (.if_icmp .ge 7, 3) := by decide +kernel
theorem dX6_isPart_12 : decode cX6_isPart 12 = .ok (.iconst 1, 1) := by decide +kernel
theorem dX6_isPart_13 : decode cX6_isPart 13 = .ok (.goto 4, 3) := by decide +kernel
theorem dX6_isPart_16 : decode cX6_isPart 16 = .ok (.iconst 0, 1) := by decide +kernel
theorem dX6_isPart_17 : decode cX6_isPart 17 = .ok (.ireturn, 1) := by decide +kernel
theorem dX6_isFull_0 : decode cX6_isFull 0 = .ok (.aload_n 0, 1) := by decide +kernel
theorem dX6_isFull_1 : decode cX6_isFull 1 = .ok (.getfield 18, 3) := by decide +kernel
theorem dX6_isFull_4 : decode cX6_isFull 4 = .ok (.aload_n 0, 1) := by decide +kernel
theorem dX6_isFull_5 : decode cX6_isFull 5 = .ok (.getfield 9, 3) := by decide +kernel
theorem dX6_isFull_8 : decode cX6_isFull 8 = .ok (.arraylength, 1) := by decide +kernel
theorem dX6_isFull_9 : decode cX6_isFull 9 = .ok (.if_icmp .lt 7, 3) := by decide +kernel
theorem dX6_isFull_12 : decode cX6_isFull 12 = .ok (.iconst 1, 1) := by decide +kernel
theorem dX6_isFull_13 : decode cX6_isFull 13 = .ok (.goto 4, 3) := by decide +kernel
theorem dX6_isFull_16 : decode cX6_isFull 16 = .ok (.iconst 0, 1) := by decide +kernel
theorem dX6_isFull_17 : decode cX6_isFull 17 = .ok (.ireturn, 1) := by decide +kernel
theorem dX6_holds_0 : decode cX6_holds 0 = .ok (.iconst 0, 1) := by decide +kernel
theorem dX6_holds_1 : decode cX6_holds 1 = .ok (.istore_n 2, 1) := by decide +kernel
theorem dX6_holds_2 : decode cX6_holds 2 = .ok (.iload_n 2, 1) := by decide +kernel
theorem dX6_holds_3 : decode cX6_holds 3 = .ok (.aload_n 0, 1) := by decide +kernel
theorem dX6_holds_4 : decode cX6_holds 4 = .ok (.getfield 18, 3) := by decide +kernel
theorem dX6_holds_7 : decode cX6_holds 7 = .ok (.if_icmp .ge 21, 3) := by decide +kernel
theorem dX6_holds_10 : decode cX6_holds 10 = .ok (.aload_n 0, 1) := by decide +kernel
theorem dX6_holds_11 : decode cX6_holds 11 = .ok (.getfield 9, 3) := by decide +kernel
theorem dX6_holds_14 : decode cX6_holds 14 = .ok (.iload_n 2, 1) := by decide +kernel
theorem dX6_holds_15 : decode cX6_holds 15 = .ok (.iaload, 1) := by decide +kernel
theorem dX6_holds_16 : decode cX6_holds 16 = .ok (.iload_n 1, 1) := by decide +kernel
theorem dX6_holds_17 : decode cX6_holds 17 = .ok (.if_icmp .ne 5, 3) := by decide +kernel
theorem dX6_holds_20 : decode cX6_holds 20 = .ok (.iconst 1, 1) := by decide +kernel
theorem dX6_holds_21 : decode cX6_holds 21 = .ok (.ireturn, 1) := by decide +kernel
theorem dX6_holds_22 : decode cX6_holds 22 = .ok (.iinc 2 1, 3) := by decide +kernel
theorem dX6_holds_25 : decode cX6_holds 25 = .ok (.goto (-23), 3) := by decide +kernel
theorem dX6_holds_28 : decode cX6_holds 28 = .ok (.iconst 0, 1) := by decide +kernel
theorem dX6_holds_29 : decode cX6_holds 29 = .ok (.ireturn, 1) := by decide +kernel
set_option maxRecDepth 20000 in
theorem ggX6_append_X6_isFull : GoodIn wsX6_append wsX6_isFull := sw_good (sw_cons (t1_ (al_ (t4_ (t1_ (t1_ h1_))))) (sw_app (sw_cons (t1_ (al_ (t1_ h1_))) (sw_cons (t1_ (al_ h1_)) sw_nil)) (fun _ h => (t1_ (ar_ h))))) (by decide +kernel)
set_option maxRecDepth 20000 in
theorem gX6_append_X6_isFull : GoodIn wsX6_append (wsV RX6 34 RX6 yX6_isFull wsX6_isFull) := goodIn_app (sw_good (sw_cons (t1_ (al_ (t1_ (t1_ h1_)))) (sw_cons (t1_ (al_ (t1_ (t1_ (t1_ h1_))))) (sw_cons (t1_ (al_ (t4_ h1_))) (sw_cons (t1_ (al_ (t4_ (t1_ h1_)))) sw_nil)))) (by decide +kernel)) ggX6_append_X6_isFull
set_option maxRecDepth 20000 in
theorem ggX6_append_X6_tally : GoodIn wsX6_append wsX6_tally := sw_good (sw_cons (t1_ (al_ (t4_ (t4_ (t1_ (t1_ h1_)))))) (sw_app (sw_cons (t1_ (al_ (t4_ (t4_ (t1_ (t1_ (t1_ h1_))))))) (sw_cons (t1_ (al_ (t4_ (t4_ (t4_ h1_))))) sw_nil)) (fun _ h => (t1_ (ar_ h))))) (by decide +kernel)
set_option maxRecDepth 20000 in
theorem gX6_append_X6_tally : GoodIn wsX6_append (wsV RX6 38 RX6 yX6_tally wsX6_tally) := goodIn_app (sw_good (sw_cons (t1_ (al_ (t4_ (t1_ (t1_ (t1_ h1_)))))) (sw_cons (t1_ (al_ (t4_ (t4_ h1_)))) (sw_cons (t1_ (al_ (t4_ (t4_ (t1_ h1_))))) (sw_cons (t1_ (al_ (t4_ (t1_ h1_)))) sw_nil)))) (by decide +kernel)) ggX6_append_X6_tally
theorem dX6_append_0 : decode cX6_append 0 = .ok (.aload_n 0, 1) := by decide +kernel
theorem dX6_append_1 : decode cX6_append 1 = .ok (.invokevirtual 34, 3) := by decide +kernel
theorem dX6_append_4 : decode cX6_append 4 = .ok (.ifCond .ne 29, 3) := by decide +kernel
theorem dX6_append_7 : decode cX6_append 7 = .ok (.aload_n 0, 1) := by decide +kernel
theorem dX6_append_8 : decode cX6_append 8 = .ok (.getfield 9, 3) := by decide +kernel
theorem dX6_append_11 : decode cX6_append 11 = .ok (.aload_n 0, 1) := by decide +kernel
theorem dX6_append_12 : decode cX6_append 12 = .ok (.getfield 18, 3) := by decide +kernel
theorem dX6_append_15 : decode cX6_append 15 = .ok (.iload_n 1, 1) := by decide +kernel
theorem dX6_append_16 : decode cX6_append 16 = .ok (.iastore, 1) := by decide +kernel
theorem dX6_append_17 : decode cX6_append 17 = .ok (.aload_n 0, 1) := by decide +kernel
theorem dX6_append_18 : decode cX6_append 18 = .ok (.dup, 1) := by decide +kernel
theorem dX6_append_19 : decode cX6_append 19 = .ok (.getfield 18, 3) := by decide +kernel
theorem dX6_append_22 : decode cX6_append 22 = .ok (.iconst 1, 1) := by decide +kernel
theorem dX6_append_23 : decode cX6_append 23 = .ok (.iadd, 1) := by decide +kernel
theorem dX6_append_24 : decode cX6_append 24 = .ok (.putfield 18, 3) := by decide +kernel
theorem dX6_append_27 : decode cX6_append 27 = .ok (.aload_n 0, 1) := by decide +kernel
theorem dX6_append_28 : decode cX6_append 28 = .ok (.iload_n 1, 1) := by decide +kernel
theorem dX6_append_29 : decode cX6_append 29 = .ok (.iconst 1, 1) := by decide +kernel
theorem dX6_append_30 : decode cX6_append 30 = .ok (.invokevirtual 38, 3) := by decide +kernel
theorem dX6_append_33 : decode cX6_append 33 = .ok (.return_, 1) := by decide +kernel
set_option maxRecDepth 20000 in
theorem ggX6_removeLast_X6_tally : GoodIn wsX6_removeLast wsX6_tally := sw_good (sw_cons (t1_ (al_ (t4_ (t1_ (t1_ h1_))))) (sw_app (sw_cons (t1_ (al_ (t4_ (t1_ (t1_ (t1_ h1_)))))) (sw_cons (t1_ (al_ (t4_ (t4_ h1_)))) sw_nil)) (fun _ h => (t1_ (ar_ h))))) (by decide +kernel)
set_option maxRecDepth 20000 in
theorem gX6_removeLast_X6_tally : GoodIn wsX6_removeLast (wsV RX6 38 RX6 yX6_tally wsX6_tally) := goodIn_app (sw_good (sw_cons (t1_ (al_ (t1_ (t1_ h1_)))) (sw_cons (t1_ (al_ (t1_ (t1_ (t1_ h1_))))) (sw_cons (t1_ (al_ (t4_ h1_))) (sw_cons (t1_ (al_ (t4_ (t1_ h1_)))) sw_nil)))) (by decide +kernel)) ggX6_removeLast_X6_tally
theorem dX6_removeLast_0 : decode cX6_removeLast 0 = .ok (.aload_n 0, 1) := by decide +kernel
theorem dX6_removeLast_1 : decode cX6_removeLast 1 = .ok (.getfield 18, 3) := by decide +kernel
theorem dX6_removeLast_4 : decode cX6_removeLast 4 = .ok (.ifCond .ne 5, 3) := by decide +kernel
theorem dX6_removeLast_7 : decode cX6_removeLast 7 = .ok (.iconst 0, 1) := by decide +kernel
theorem dX6_removeLast_8 : decode cX6_removeLast 8 = .ok (.ireturn, 1) := by decide +kernel
theorem dX6_removeLast_9 : decode cX6_removeLast 9 = .ok (.aload_n 0, 1) := by decide +kernel
theorem dX6_removeLast_10 : decode cX6_removeLast 10 = .ok (.dup, 1) := by decide +kernel
theorem dX6_removeLast_11 : decode cX6_removeLast 11 = .ok (.getfield 18, 3) := by decide +kernel
theorem dX6_removeLast_14 : decode cX6_removeLast 14 = .ok (.iconst 1, 1) := by decide +kernel
theorem dX6_removeLast_15 : decode cX6_removeLast 15 = .ok (.isub, 1) := by decide +kernel
theorem dX6_removeLast_16 : decode cX6_removeLast 16 = .ok (.putfield 18, 3) := by decide +kernel
theorem dX6_removeLast_19 : decode cX6_removeLast 19 = .ok (.aload_n 0, 1) := by decide +kernel
theorem dX6_removeLast_20 : decode cX6_removeLast 20 = .ok (.aload_n 0, 1) := by decide +kernel
theorem dX6_removeLast_21 : decode cX6_removeLast 21 = .ok (.getfield 9, 3) := by decide +kernel
theorem dX6_removeLast_24 : decode cX6_removeLast 24 = .ok (.aload_n 0, 1) := by decide +kernel
theorem dX6_removeLast_25 : decode cX6_removeLast 25 = .ok (.getfield 18, 3) := by decide +kernel
theorem dX6_removeLast_28 : decode cX6_removeLast 28 = .ok (.iaload, 1) := by decide +kernel
theorem dX6_removeLast_29 : decode cX6_removeLast 29 = .ok (.iconst (-1), 1) := by decide +kernel
theorem dX6_removeLast_30 : decode cX6_removeLast 30 = .ok (.invokevirtual 38, 3) := by decide +kernel
theorem dX6_removeLast_33 : decode cX6_removeLast 33 = .ok (.aload_n 0, 1) := by decide +kernel
theorem dX6_removeLast_34 : decode cX6_removeLast 34 = .ok (.getfield 9, 3) := by decide +kernel
theorem dX6_removeLast_37 : decode cX6_removeLast 37 = .ok (.aload_n 0, 1) := by decide +kernel
theorem dX6_removeLast_38 : decode cX6_removeLast 38 = .ok (.getfield 18, 3) := by decide +kernel
theorem dX6_removeLast_41 : decode cX6_removeLast 41 = .ok (.iaload, 1) := by decide +kernel
theorem dX6_removeLast_42 : decode cX6_removeLast 42 = .ok (.ireturn, 1) := by decide +kernel
theorem dX6_hasSetIn_0 : decode cX6_hasSetIn 0 = .ok (.aload_n 0, 1) := by decide +kernel
theorem dX6_hasSetIn_1 : decode cX6_hasSetIn 1 = .ok (.getfield 15, 3) := by decide +kernel
theorem dX6_hasSetIn_4 : decode cX6_hasSetIn 4 = .ok (.iload_n 1, 1) := by decide +kernel
theorem dX6_hasSetIn_5 : decode cX6_hasSetIn 5 = .ok (.iaload, 1) := by decide +kernel
theorem dX6_hasSetIn_6 : decode cX6_hasSetIn 6 = .ok (.ifCond .le 7, 3) := by decide +kernel
theorem dX6_hasSetIn_9 : decode cX6_hasSetIn 9 = .ok (.iconst 1, 1) := by decide +kernel
theorem dX6_hasSetIn_10 : decode cX6_hasSetIn 10 = .ok (.goto 4, 3) := by decide +kernel
theorem dX6_hasSetIn_13 : decode cX6_hasSetIn 13 = .ok (.iconst 0, 1) := by decide +kernel
theorem dX6_hasSetIn_14 : decode cX6_hasSetIn 14 = .ok (.ireturn, 1) := by decide +kernel
theorem dX6_isMeeter_0 : decode cX6_isMeeter 0 = .ok (.aload_n 0, 1) := by decide +kernel
theorem dX6_isMeeter_1 : decode cX6_isMeeter 1 = .ok (.getfield 15, 3) := by decide +kernel
theorem dX6_isMeeter_4 : decode cX6_isMeeter 4 = .ok (.aload_n 0, 1) := by decide +kernel
theorem dX6_isMeeter_5 : decode cX6_isMeeter 5 = .ok (.getfield 25, 3) := by decide +kernel
theorem dX6_isMeeter_8 : decode cX6_isMeeter 8 = .ok (.iconst 1, 1) := by decide +kernel
theorem dX6_isMeeter_9 : decode cX6_isMeeter 9 = .ok (.isub, 1) := by decide +kernel
theorem dX6_isMeeter_10 : decode cX6_isMeeter 10 = .ok (.iload_n 1, 1) := by decide +kernel
theorem dX6_isMeeter_11 : decode cX6_isMeeter 11 = .ok (.ixor, 1) := by decide +kernel
theorem dX6_isMeeter_12 : decode cX6_isMeeter 12 = .ok (.iaload, 1) := by decide +kernel
theorem dX6_isMeeter_13 : decode cX6_isMeeter 13 = .ok (.ifCond .ne 7, 3) := by decide +kernel
theorem dX6_isMeeter_16 : decode cX6_isMeeter 16 = .ok (.iconst 1, 1) := by decide +kernel
theorem dX6_isMeeter_17 : decode cX6_isMeeter 17 = .ok (.goto 4, 3) := by decide +kernel
theorem dX6_isMeeter_20 : decode cX6_isMeeter 20 = .ok (.iconst 0, 1) := by decide +kernel
theorem dX6_isMeeter_21 : decode cX6_isMeeter 21 = .ok (.ireturn, 1) := by decide +kernel
set_option maxRecDepth 20000 in
theorem ggX6_isLeastMeeter_X6_isMeeter : GoodIn wsX6_isLeastMeeter wsX6_isMeeter := sw_good (sw_cons (t1_ (al_ (t4_ (t1_ h1_)))) (sw_app (sw_cons (t1_ (al_ (t4_ (t1_ (t1_ h1_))))) (sw_cons (t1_ (al_ (t4_ (t1_ (t1_ (t1_ h1_)))))) sw_nil)) (fun _ h => (t1_ (ar_ h))))) (by decide +kernel)
set_option maxRecDepth 20000 in
theorem gX6_isLeastMeeter_X6_isMeeter : GoodIn wsX6_isLeastMeeter (wsV RX6 42 RX6 yX6_isMeeter wsX6_isMeeter) := goodIn_app (sw_good (sw_cons (t1_ (al_ (t1_ h1_))) (sw_cons (t1_ (al_ (t1_ (t1_ h1_)))) (sw_cons (t1_ (al_ (t1_ (t1_ (t1_ h1_))))) (sw_cons (t1_ (al_ (t4_ h1_))) sw_nil)))) (by decide +kernel)) ggX6_isLeastMeeter_X6_isMeeter
set_option maxRecDepth 20000 in
theorem ggX6_isLeastMeeter_X9_has : GoodIn wsX6_isLeastMeeter wsX9_has := sw_good (sw_cons (t1_ (al_ (t4_ (t4_ (t1_ (t1_ h1_)))))) sw_nil) (by decide +kernel)
set_option maxRecDepth 20000 in
theorem gX6_isLeastMeeter_X9_has_n46 : GoodIn wsX6_isLeastMeeter (wsX9_has) := ggX6_isLeastMeeter_X9_has
theorem dX6_isLeastMeeter_0 : decode cX6_isLeastMeeter 0 = .ok (.aload_n 0, 1) := by decide +kernel
theorem dX6_isLeastMeeter_1 : decode cX6_isLeastMeeter 1 = .ok (.iload_n 1, 1) := by decide +kernel
theorem dX6_isLeastMeeter_2 : decode cX6_isLeastMeeter 2 = .ok (.invokevirtual 42, 3) := by decide +kernel
theorem dX6_isLeastMeeter_5 : decode cX6_isLeastMeeter 5 = .ok (.ifCond .ne 5, 3) := by decide +kernel
theorem dX6_isLeastMeeter_8 : decode cX6_isLeastMeeter 8 = .ok (.iconst 0, 1) := by decide +kernel
theorem dX6_isLeastMeeter_9 : decode cX6_isLeastMeeter 9 = .ok (.ireturn, 1) := by decide +kernel
theorem dX6_isLeastMeeter_10 : decode cX6_isLeastMeeter 10 = .ok (.iconst 0, 1) := by decide +kernel
theorem dX6_isLeastMeeter_11 : decode cX6_isLeastMeeter 11 = .ok (.istore_n 2, 1) := by decide +kernel
theorem dX6_isLeastMeeter_12 : decode cX6_isLeastMeeter 12 = .ok (.iload_n 2, 1) := by decide +kernel
theorem dX6_isLeastMeeter_13 : decode cX6_isLeastMeeter 13 = .ok (.aload_n 0, 1) := by decide +kernel
theorem dX6_isLeastMeeter_14 : decode cX6_isLeastMeeter 14 = .ok (.getfield 22, 3) := by decide +kernel
theorem dX6_isLeastMeeter_17 : decode cX6_isLeastMeeter 17 = .ok (.if_icmp .ge 31, 3) := by decide +kernel
theorem dX6_isLeastMeeter_20 : decode cX6_isLeastMeeter 20 = .ok (.iload_n 1, 1) := by decide +kernel
theorem dX6_isLeastMeeter_21 : decode cX6_isLeastMeeter 21 = .ok (.iload_n 2, 1) := by decide +kernel
theorem dX6_isLeastMeeter_22 : decode cX6_isLeastMeeter 22 = .ok (.invokestatic 46, 3) := by decide +kernel
theorem dX6_isLeastMeeter_25 : decode cX6_isLeastMeeter 25 = .ok (.ifCond .eq 17, 3) := by decide +kernel
theorem dX6_isLeastMeeter_28 : decode cX6_isLeastMeeter 28 = .ok (.aload_n 0, 1) := by decide +kernel
theorem dX6_isLeastMeeter_29 : decode cX6_isLeastMeeter 29 = .ok (.iload_n 1, 1) := by decide +kernel
theorem dX6_isLeastMeeter_30 : decode cX6_isLeastMeeter 30 = .ok (.iconst 1, 1) := by decide +kernel
theorem dX6_isLeastMeeter_31 : decode cX6_isLeastMeeter 31 = .ok (.iload_n 2, 1) := by decide +kernel
theorem dX6_isLeastMeeter_32 : decode cX6_isLeastMeeter 32 = .ok (.ishl, 1) := by decide +kernel
theorem dX6_isLeastMeeter_33 : decode cX6_isLeastMeeter 33 = .ok (.ixor, 1) := by decide +kernel
theorem dX6_isLeastMeeter_34 : decode cX6_isLeastMeeter 34 = .ok (.invokevirtual 42, 3) := by decide +kernel
theorem dX6_isLeastMeeter_37 : decode cX6_isLeastMeeter 37 = .ok (.ifCond .eq 5, 3) := by decide +kernel
theorem dX6_isLeastMeeter_40 : decode cX6_isLeastMeeter 40 = .ok (.iconst 0, 1) := by decide +kernel
theorem dX6_isLeastMeeter_41 : decode cX6_isLeastMeeter 41 = .ok (.ireturn, 1) := by decide +kernel
theorem dX6_isLeastMeeter_42 : decode cX6_isLeastMeeter 42 = .ok (.iinc 2 1, 3) := by decide +kernel
theorem dX6_isLeastMeeter_45 : decode cX6_isLeastMeeter 45 = .ok (.goto (-33), 3) := by decide +kernel
theorem dX6_isLeastMeeter_48 : decode cX6_isLeastMeeter 48 = .ok (.iconst 1, 1) := by decide +kernel
theorem dX6_isLeastMeeter_49 : decode cX6_isLeastMeeter 49 = .ok (.ireturn, 1) := by decide +kernel
theorem dX6_mixedInto_0 : decode cX6_mixedInto 0 = .ok (.lload_n 1, 1) := by decide +kernel
theorem dX6_mixedInto_1 : decode cX6_mixedInto 1 = .ok (.lstore_n 3, 1) := by decide +kernel
theorem dX6_mixedInto_2 : decode cX6_mixedInto 2 = .ok (.iconst 0, 1) := by decide +kernel
theorem dX6_mixedInto_3 : decode cX6_mixedInto 3 = .ok (.istore 5, 2) := by decide +kernel
theorem dX6_mixedInto_5 : decode cX6_mixedInto 5 = .ok (.iload 5, 2) := by decide +kernel
theorem dX6_mixedInto_7 : decode cX6_mixedInto 7 = .ok (.aload_n 0, 1) := by decide +kernel
theorem dX6_mixedInto_8 : decode cX6_mixedInto 8 = .ok (.getfield 18, 3) := by decide +kernel
theorem dX6_mixedInto_11 : decode cX6_mixedInto 11 = .ok (.if_icmp .ge 24, 3) := by decide +kernel
theorem dX6_mixedInto_14 : decode cX6_mixedInto 14 = .ok (.ldc2_w 50, 3) := by decide +kernel
theorem dX6_mixedInto_17 : decode cX6_mixedInto 17 = .ok (.lload_n 3, 1) := by decide +kernel
theorem dX6_mixedInto_18 : decode cX6_mixedInto 18 = .ok (.lmul, 1) := by decide +kernel
theorem dX6_mixedInto_19 : decode cX6_mixedInto 19 = .ok (.aload_n 0, 1) := by decide +kernel
theorem dX6_mixedInto_20 : decode cX6_mixedInto 20 = .ok (.getfield 9, 3) := by decide +kernel
theorem dX6_mixedInto_23 : decode cX6_mixedInto 23 = .ok (.iload 5, 2) := by decide +kernel
theorem dX6_mixedInto_25 : decode cX6_mixedInto 25 = .ok (.iaload, 1) := by decide +kernel
theorem dX6_mixedInto_26 : decode cX6_mixedInto 26 = .ok (.i2l, 1) := by decide +kernel
theorem dX6_mixedInto_27 : decode cX6_mixedInto 27 = .ok (.ladd, 1) := by decide +kernel
theorem dX6_mixedInto_28 : decode cX6_mixedInto 28 = .ok (.lstore_n 3, 1) := by decide +kernel
theorem dX6_mixedInto_29 : decode cX6_mixedInto 29 = .ok (.iinc 5 1, 3) := by decide +kernel
theorem dX6_mixedInto_32 : decode cX6_mixedInto 32 = .ok (.goto (-27), 3) := by decide +kernel
theorem dX6_mixedInto_35 : decode cX6_mixedInto 35 = .ok (.lload_n 3, 1) := by decide +kernel
theorem dX6_mixedInto_36 : decode cX6_mixedInto 36 = .ok (.lreturn, 1) := by decide +kernel
theorem dX6_tally_0 : decode cX6_tally 0 = .ok (.iload_n 1, 1) := by decide +kernel
theorem dX6_tally_1 : decode cX6_tally 1 = .ok (.istore_n 3, 1) := by decide +kernel
theorem dX6_tally_2 : decode cX6_tally 2 = .ok (.iload_n 3, 1) := by decide +kernel
theorem dX6_tally_3 : decode cX6_tally 3 = .ok (.aload_n 0, 1) := by decide +kernel
theorem dX6_tally_4 : decode cX6_tally 4 = .ok (.getfield 25, 3) := by decide +kernel
theorem dX6_tally_7 : decode cX6_tally 7 = .ok (.if_icmp .ge 22, 3) := by decide +kernel
theorem dX6_tally_10 : decode cX6_tally 10 = .ok (.aload_n 0, 1) := by decide +kernel
theorem dX6_tally_11 : decode cX6_tally 11 = .ok (.getfield 15, 3) := by decide +kernel
theorem dX6_tally_14 : decode cX6_tally 14 = .ok (.iload_n 3, 1) := by decide +kernel
theorem dX6_tally_15 : decode cX6_tally 15 = .ok (.dup2, 1) := by decide +kernel
theorem dX6_tally_16 : decode cX6_tally 16 = .ok (.iaload, 1) := by decide +kernel
theorem dX6_tally_17 : decode cX6_tally 17 = .ok (.iload_n 2, 1) := by decide +kernel
theorem dX6_tally_18 : decode cX6_tally 18 = .ok (.iadd, 1) := by decide +kernel
theorem dX6_tally_19 : decode cX6_tally 19 = .ok (.iastore, 1) := by decide +kernel
theorem dX6_tally_20 : decode cX6_tally 20 = .ok (.iload_n 3, 1) := by decide +kernel
theorem dX6_tally_21 : decode cX6_tally 21 = .ok (.iconst 1, 1) := by decide +kernel
theorem dX6_tally_22 : decode cX6_tally 22 = .ok (.iadd, 1) := by decide +kernel
theorem dX6_tally_23 : decode cX6_tally 23 = .ok (.iload_n 1, 1) := by decide +kernel
theorem dX6_tally_24 : decode cX6_tally 24 = .ok (.ior, 1) := by decide +kernel
theorem dX6_tally_25 : decode cX6_tally 25 = .ok (.istore_n 3, 1) := by decide +kernel
theorem dX6_tally_26 : decode cX6_tally 26 = .ok (.goto (-24), 3) := by decide +kernel
theorem dX6_tally_29 : decode cX6_tally 29 = .ok (.return_, 1) := by decide +kernel
theorem dJ6_bitCount_0f7a4_0 : decode cJ6_bitCount_0f7a4 0 = .ok (.iload_n 0, 1) := by decide +kernel
theorem dJ6_bitCount_0f7a4_1 : decode cJ6_bitCount_0f7a4 1 = .ok (.iload_n 0, 1) := by decide +kernel
theorem dJ6_bitCount_0f7a4_2 : decode cJ6_bitCount_0f7a4 2 = .ok (.iconst 1, 1) := by decide +kernel
theorem dJ6_bitCount_0f7a4_3 : decode cJ6_bitCount_0f7a4 3 = .ok (.iushr, 1) := by decide +kernel
theorem dJ6_bitCount_0f7a4_4 : decode cJ6_bitCount_0f7a4 4 = .ok (.ldc_w 265, 3) := by decide +kernel
theorem dJ6_bitCount_0f7a4_7 : decode cJ6_bitCount_0f7a4 7 = .ok (.iand, 1) := by decide +kernel
theorem dJ6_bitCount_0f7a4_8 : decode cJ6_bitCount_0f7a4 8 = .ok (.isub, 1) := by decide +kernel
theorem dJ6_bitCount_0f7a4_9 : decode cJ6_bitCount_0f7a4 9 = .ok (.istore_n 0, 1) := by decide +kernel
theorem dJ6_bitCount_0f7a4_10 : decode cJ6_bitCount_0f7a4 10 = .ok (.iload_n 0, 1) := by decide +kernel
theorem dJ6_bitCount_0f7a4_11 : decode cJ6_bitCount_0f7a4 11 = .ok (.ldc_w 266, 3) := by decide +kernel
theorem dJ6_bitCount_0f7a4_14 : decode cJ6_bitCount_0f7a4 14 = .ok (.iand, 1) := by decide +kernel
theorem dJ6_bitCount_0f7a4_15 : decode cJ6_bitCount_0f7a4 15 = .ok (.iload_n 0, 1) := by decide +kernel
theorem dJ6_bitCount_0f7a4_16 : decode cJ6_bitCount_0f7a4 16 = .ok (.iconst 2, 1) := by decide +kernel
theorem dJ6_bitCount_0f7a4_17 : decode cJ6_bitCount_0f7a4 17 = .ok (.iushr, 1) := by decide +kernel
theorem dJ6_bitCount_0f7a4_18 : decode cJ6_bitCount_0f7a4 18 = .ok (.ldc_w 266, 3) := by decide +kernel
theorem dJ6_bitCount_0f7a4_21 : decode cJ6_bitCount_0f7a4 21 = .ok (.iand, 1) := by decide +kernel
theorem dJ6_bitCount_0f7a4_22 : decode cJ6_bitCount_0f7a4 22 = .ok (.iadd, 1) := by decide +kernel
theorem dJ6_bitCount_0f7a4_23 : decode cJ6_bitCount_0f7a4 23 = .ok (.istore_n 0, 1) := by decide +kernel
theorem dJ6_bitCount_0f7a4_24 : decode cJ6_bitCount_0f7a4 24 = .ok (.iload_n 0, 1) := by decide +kernel
theorem dJ6_bitCount_0f7a4_25 : decode cJ6_bitCount_0f7a4 25 = .ok (.iload_n 0, 1) := by decide +kernel
theorem dJ6_bitCount_0f7a4_26 : decode cJ6_bitCount_0f7a4 26 = .ok (.iconst 4, 1) := by decide +kernel
theorem dJ6_bitCount_0f7a4_27 : decode cJ6_bitCount_0f7a4 27 = .ok (.iushr, 1) := by decide +kernel
theorem dJ6_bitCount_0f7a4_28 : decode cJ6_bitCount_0f7a4 28 = .ok (.iadd, 1) := by decide +kernel
theorem dJ6_bitCount_0f7a4_29 : decode cJ6_bitCount_0f7a4 29 = .ok (.ldc_w 267, 3) := by decide +kernel
theorem dJ6_bitCount_0f7a4_32 : decode cJ6_bitCount_0f7a4 32 = .ok (.iand, 1) := by decide +kernel
theorem dJ6_bitCount_0f7a4_33 : decode cJ6_bitCount_0f7a4 33 = .ok (.istore_n 0, 1) := by decide +kernel
theorem dJ6_bitCount_0f7a4_34 : decode cJ6_bitCount_0f7a4 34 = .ok (.iload_n 0, 1) := by decide +kernel
theorem dJ6_bitCount_0f7a4_35 : decode cJ6_bitCount_0f7a4 35 = .ok (.iload_n 0, 1) := by decide +kernel
theorem dJ6_bitCount_0f7a4_36 : decode cJ6_bitCount_0f7a4 36 = .ok (.bipush 8, 2) := by decide +kernel
theorem dJ6_bitCount_0f7a4_38 : decode cJ6_bitCount_0f7a4 38 = .ok (.iushr, 1) := by decide +kernel
theorem dJ6_bitCount_0f7a4_39 : decode cJ6_bitCount_0f7a4 39 = .ok (.iadd, 1) := by decide +kernel
theorem dJ6_bitCount_0f7a4_40 : decode cJ6_bitCount_0f7a4 40 = .ok (.istore_n 0, 1) := by decide +kernel
theorem dJ6_bitCount_0f7a4_41 : decode cJ6_bitCount_0f7a4 41 = .ok (.iload_n 0, 1) := by decide +kernel
theorem dJ6_bitCount_0f7a4_42 : decode cJ6_bitCount_0f7a4 42 = .ok (.iload_n 0, 1) := by decide +kernel
theorem dJ6_bitCount_0f7a4_43 : decode cJ6_bitCount_0f7a4 43 = .ok (.bipush 16, 2) := by decide +kernel
theorem dJ6_bitCount_0f7a4_45 : decode cJ6_bitCount_0f7a4 45 = .ok (.iushr, 1) := by decide +kernel
theorem dJ6_bitCount_0f7a4_46 : decode cJ6_bitCount_0f7a4 46 = .ok (.iadd, 1) := by decide +kernel
theorem dJ6_bitCount_0f7a4_47 : decode cJ6_bitCount_0f7a4 47 = .ok (.istore_n 0, 1) := by decide +kernel
theorem dJ6_bitCount_0f7a4_48 : decode cJ6_bitCount_0f7a4 48 = .ok (.iload_n 0, 1) := by decide +kernel
theorem dJ6_bitCount_0f7a4_49 : decode cJ6_bitCount_0f7a4 49 = .ok (.bipush 63, 2) := by decide +kernel
theorem dJ6_bitCount_0f7a4_51 : decode cJ6_bitCount_0f7a4 51 = .ok (.iand, 1) := by decide +kernel
theorem dJ6_bitCount_0f7a4_52 : decode cJ6_bitCount_0f7a4 52 = .ok (.ireturn, 1) := by decide +kernel
theorem dJ9_max_7cf53_0 : decode cJ9_max_7cf53 0 = .ok (.iload_n 0, 1) := by decide +kernel
theorem dJ9_max_7cf53_1 : decode cJ9_max_7cf53 1 = .ok (.iload_n 1, 1) := by decide +kernel
theorem dJ9_max_7cf53_2 : decode cJ9_max_7cf53 2 = .ok (.if_icmp .lt 7, 3) := by decide +kernel
theorem dJ9_max_7cf53_5 : decode cJ9_max_7cf53 5 = .ok (.iload_n 0, 1) := by decide +kernel
theorem dJ9_max_7cf53_6 : decode cJ9_max_7cf53 6 = .ok (.goto 4, 3) := by decide +kernel
theorem dJ9_max_7cf53_9 : decode cJ9_max_7cf53 9 = .ok (.iload_n 1, 1) := by decide +kernel
theorem dJ9_max_7cf53_10 : decode cJ9_max_7cf53 10 = .ok (.ireturn, 1) := by decide +kernel
theorem dJ9_min_7cf53_0 : decode cJ9_min_7cf53 0 = .ok (.iload_n 0, 1) := by decide +kernel
theorem dJ9_min_7cf53_1 : decode cJ9_min_7cf53 1 = .ok (.iload_n 1, 1) := by decide +kernel
theorem dJ9_min_7cf53_2 : decode cJ9_min_7cf53 2 = .ok (.if_icmp .gt 7, 3) := by decide +kernel
theorem dJ9_min_7cf53_5 : decode cJ9_min_7cf53 5 = .ok (.iload_n 0, 1) := by decide +kernel
theorem dJ9_min_7cf53_6 : decode cJ9_min_7cf53 6 = .ok (.goto 4, 3) := by decide +kernel
theorem dJ9_min_7cf53_9 : decode cJ9_min_7cf53 9 = .ok (.iload_n 1, 1) := by decide +kernel
theorem dJ9_min_7cf53_10 : decode cJ9_min_7cf53 10 = .ok (.ireturn, 1) := by decide +kernel
theorem dJ7_fill_53178_0 : decode cJ7_fill_53178 0 = .ok (.iconst 0, 1) := by decide +kernel
theorem dJ7_fill_53178_1 : decode cJ7_fill_53178 1 = .ok (.istore_n 2, 1) := by decide +kernel
theorem dJ7_fill_53178_2 : decode cJ7_fill_53178 2 = .ok (.aload_n 0, 1) := by decide +kernel
theorem dJ7_fill_53178_3 : decode cJ7_fill_53178 3 = .ok (.arraylength, 1) := by decide +kernel
theorem dJ7_fill_53178_4 : decode cJ7_fill_53178 4 = .ok (.istore_n 3, 1) := by decide +kernel
theorem dJ7_fill_53178_5 : decode cJ7_fill_53178 5 = .ok (.iload_n 2, 1) := by decide +kernel
theorem dJ7_fill_53178_6 : decode cJ7_fill_53178 6 = .ok (.iload_n 3, 1) := by decide +kernel
theorem dJ7_fill_53178_7 : decode cJ7_fill_53178 7 = .ok (.if_icmp .ge 13, 3) := by decide +kernel
theorem dJ7_fill_53178_10 : decode cJ7_fill_53178 10 = .ok (.aload_n 0, 1) := by decide +kernel
theorem dJ7_fill_53178_11 : decode cJ7_fill_53178 11 = .ok (.iload_n 2, 1) := by decide +kernel
theorem dJ7_fill_53178_12 : decode cJ7_fill_53178 12 = .ok (.iload_n 1, 1) := by decide +kernel
theorem dJ7_fill_53178_13 : decode cJ7_fill_53178 13 = .ok (.iastore, 1) := by decide +kernel
theorem dJ7_fill_53178_14 : decode cJ7_fill_53178 14 = .ok (.iinc 2 1, 3) := by decide +kernel
theorem dJ7_fill_53178_17 : decode cJ7_fill_53178 17 = .ok (.goto (-12), 3) := by decide +kernel
theorem dJ7_fill_53178_20 : decode cJ7_fill_53178 20 = .ok (.return_, 1) := by decide +kernel
