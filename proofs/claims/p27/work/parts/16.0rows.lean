set_option maxRecDepth 20000 in
theorem ggX9_init_J7_fill_53178 : GoodIn wsX9_init wsJ7_fill_53178 := sw_good (sw_cons (t1_ (al_ (al_ (al_ (al_ (al_ (al_ (al_ (al_ (al_ (al_ (ar_ (al_ (t16_ (t4_ (t1_ h1_)))))))))))))))) sw_nil) (by decide +kernel)
set_option maxRecDepth 20000 in
theorem gX9_init_J7_fill_53178 : GoodIn wsX9_init (va_wsS RX9 13 yJ7_fill_53178 wsJ7_fill_53178) := goodIn_app (sw_good (sw_cons (t1_ (al_ (al_ (al_ (al_ (al_ (al_ (al_ (al_ (al_ (al_ (ar_ (al_ (t16_ (t1_ (t1_ h1_)))))))))))))))) (sw_cons (t1_ (al_ (al_ (al_ (al_ (al_ (al_ (al_ (al_ (al_ (al_ (ar_ (al_ (t16_ (t1_ (t1_ (t1_ h1_))))))))))))))))) (sw_cons (t1_ (al_ (al_ (al_ (al_ (al_ (al_ (al_ (al_ (al_ (al_ (ar_ (al_ (t16_ (t4_ h1_))))))))))))))) sw_nil))) (by decide +kernel)) ggX9_init_J7_fill_53178
set_option maxRecDepth 20000 in
theorem ggX9_init_X6_init : GoodIn wsX9_init wsX6_init := sw_good (sw_cons (t1_ (al_ (al_ (al_ (al_ (al_ (al_ (al_ (al_ (al_ (al_ (ar_ (ar_ (al_ h1_)))))))))))))) (sw_app (sw_cons (t1_ (al_ (al_ (al_ (al_ (al_ (al_ (al_ (al_ (al_ (al_ (ar_ (ar_ (al_ (t1_ h1_))))))))))))))) (sw_cons (t1_ (al_ (al_ (al_ (al_ (al_ (al_ (al_ (al_ (al_ (al_ (al_ (t1_ h1_))))))))))))) (sw_cons (t1_ (al_ (al_ (al_ (al_ (al_ (al_ (al_ (al_ (al_ (al_ (al_ (t1_ (t1_ h1_)))))))))))))) (sw_cons (t1_ (al_ (al_ (al_ (al_ (al_ (al_ (al_ (al_ (al_ (al_ (ar_ (ar_ (al_ (t1_ (t1_ h1_)))))))))))))))) (sw_cons (t1_ (al_ (al_ (al_ (al_ (al_ (al_ (al_ (al_ (al_ (al_ (al_ (t1_ (t1_ (t1_ h1_))))))))))))))) (sw_cons (t1_ (al_ (al_ (al_ (al_ (al_ (al_ (al_ (al_ (al_ (al_ (ar_ (ar_ (al_ (t1_ (t1_ (t1_ h1_))))))))))))))))) (sw_cons (t1_ (al_ (al_ (al_ (al_ (al_ (al_ (al_ (al_ (al_ (al_ (ar_ (ar_ (al_ (t4_ h1_))))))))))))))) (sw_cons (t1_ (al_ (al_ (al_ (al_ (al_ (al_ (al_ (al_ (al_ (al_ (ar_ (ar_ (al_ (t4_ (t1_ h1_)))))))))))))))) (sw_cons (t1_ (al_ (al_ (al_ (al_ (al_ (al_ (al_ (al_ (al_ (al_ (ar_ (ar_ (al_ (t4_ (t1_ (t1_ h1_))))))))))))))))) sw_nil))))))))) (fun _ h => (t1_ (al_ (al_ (al_ (al_ (al_ (al_ (al_ (al_ (ar_ h))))))))))))) (by decide +kernel)
set_option maxRecDepth 20000 in
theorem gX9_init_X6_init : GoodIn wsX9_init (wsX6_init) := ggX9_init_X6_init
set_option maxRecDepth 20000 in
theorem ggX9_init_X4_init : GoodIn wsX9_init wsX4_init := sw_good (sw_cons (t1_ (al_ (al_ (al_ (al_ (al_ (al_ (al_ (al_ (al_ (al_ (ar_ (ar_ (al_ (t4_ (t4_ (t1_ h1_))))))))))))))))) (sw_app (sw_cons (t1_ (al_ (al_ (al_ (al_ (al_ (al_ (al_ (al_ (al_ (al_ (ar_ (ar_ (al_ (t4_ (t4_ (t1_ (t1_ h1_)))))))))))))))))) (sw_cons (t1_ (al_ (al_ (al_ (al_ (al_ (al_ (al_ (al_ (al_ (al_ (al_ (t1_ h1_))))))))))))) (sw_cons (t1_ (al_ (al_ (al_ (al_ (al_ (al_ (al_ (al_ (al_ (al_ (al_ (t1_ (t1_ h1_)))))))))))))) (sw_cons (t1_ (al_ (al_ (al_ (al_ (al_ (al_ (al_ (al_ (al_ (al_ (ar_ (ar_ (al_ (t4_ (t4_ (t1_ (t1_ (t1_ h1_))))))))))))))))))) (sw_cons (t1_ (al_ (al_ (al_ (al_ (al_ (al_ (al_ (al_ (al_ (al_ (ar_ (ar_ (al_ (t4_ (t4_ (t4_ h1_))))))))))))))))) sw_nil))))) (fun _ h => (t1_ (al_ (al_ (al_ (al_ (al_ (al_ (al_ (ar_ h)))))))))))) (by decide +kernel)
set_option maxRecDepth 20000 in
theorem gX9_init_X4_init : GoodIn wsX9_init (wsX4_init) := ggX9_init_X4_init
set_option maxRecDepth 20000 in
theorem ggX9_init_X7_init : GoodIn wsX9_init wsX7_init := sw_good (sw_cons (t1_ (al_ (al_ (al_ (al_ (al_ (al_ (al_ (al_ (al_ (al_ (ar_ (ar_ (al_ (t4_ (t4_ (t4_ (t1_ (t1_ (t1_ h1_)))))))))))))))))))) (sw_app (sw_cons (t1_ (al_ (al_ (al_ (al_ (al_ (al_ (al_ (al_ (al_ (al_ (ar_ (ar_ (al_ (t16_ h1_))))))))))))))) (sw_cons (t1_ (al_ (al_ (al_ (al_ (al_ (al_ (al_ (al_ (al_ (al_ (al_ (t1_ h1_))))))))))))) (sw_cons (t1_ (al_ (al_ (al_ (al_ (al_ (al_ (al_ (al_ (al_ (al_ (al_ (t1_ (t1_ h1_)))))))))))))) (sw_cons (t1_ (al_ (al_ (al_ (al_ (al_ (al_ (al_ (al_ (al_ (al_ (ar_ (ar_ (al_ (t16_ (t1_ h1_)))))))))))))))) (sw_cons (t1_ (al_ (al_ (al_ (al_ (al_ (al_ (al_ (al_ (al_ (al_ (ar_ (ar_ (al_ (t16_ (t1_ (t1_ h1_))))))))))))))))) (sw_cons (t1_ (al_ (al_ (al_ (al_ (al_ (al_ (al_ (al_ (al_ (al_ (ar_ (ar_ (al_ (t16_ (t1_ (t1_ (t1_ h1_)))))))))))))))))) (sw_cons (t1_ (al_ (al_ (al_ (al_ (al_ (al_ (al_ (al_ (al_ (al_ (al_ (t1_ (t1_ (t1_ h1_))))))))))))))) (sw_cons (t1_ (al_ (al_ (al_ (al_ (al_ (al_ (al_ (al_ (al_ (al_ (ar_ (ar_ (al_ (t16_ (t4_ h1_)))))))))))))))) (sw_cons (t1_ (al_ (al_ (al_ (al_ (al_ (al_ (al_ (al_ (al_ (al_ (ar_ (ar_ (al_ (t16_ (t4_ (t1_ h1_))))))))))))))))) (sw_cons (t1_ (al_ (al_ (al_ (al_ (al_ (al_ (al_ (al_ (al_ (al_ (ar_ (ar_ (al_ (t16_ (t4_ (t1_ (t1_ h1_)))))))))))))))))) (sw_cons (t1_ (al_ (al_ (al_ (al_ (al_ (al_ (al_ (al_ (al_ (al_ (ar_ (ar_ (al_ (t16_ (t4_ (t1_ (t1_ (t1_ h1_))))))))))))))))))) (sw_cons (t1_ (al_ (al_ (al_ (al_ (al_ (al_ (al_ (al_ (al_ (al_ (ar_ (ar_ (ar_ (al_ h1_))))))))))))))) sw_nil)))))))))))) (fun _ h => (t1_ (al_ (al_ (al_ (al_ (al_ (al_ (ar_ h))))))))))) (by decide +kernel)
set_option maxRecDepth 20000 in
theorem gX9_init_X7_init : GoodIn wsX9_init (wsX7_init) := ggX9_init_X7_init
set_option maxRecDepth 20000 in
theorem ggX9_init_X3_init : GoodIn wsX9_init wsX3_init := sw_good (sw_cons (t1_ (al_ (al_ (al_ (al_ (al_ (al_ (al_ (al_ (al_ (al_ (ar_ (ar_ (ar_ (al_ (t1_ (t1_ (t1_ h1_)))))))))))))))))) (sw_app (sw_cons (t1_ (al_ (al_ (al_ (al_ (al_ (al_ (al_ (al_ (al_ (al_ (ar_ (ar_ (ar_ (al_ (t4_ h1_)))))))))))))))) (sw_cons (t1_ (al_ (al_ (al_ (al_ (al_ (al_ (al_ (al_ (al_ (al_ (al_ (t1_ h1_))))))))))))) (sw_cons (t1_ (al_ (al_ (al_ (al_ (al_ (al_ (al_ (al_ (al_ (al_ (al_ (t1_ (t1_ h1_)))))))))))))) (sw_cons (t1_ (al_ (al_ (al_ (al_ (al_ (al_ (al_ (al_ (al_ (al_ (ar_ (ar_ (ar_ (al_ (t4_ (t1_ h1_))))))))))))))))) (sw_cons (t1_ (al_ (al_ (al_ (al_ (al_ (al_ (al_ (al_ (al_ (al_ (ar_ (ar_ (ar_ (al_ (t4_ (t1_ (t1_ h1_)))))))))))))))))) (sw_cons (t1_ (al_ (al_ (al_ (al_ (al_ (al_ (al_ (al_ (al_ (al_ (ar_ (ar_ (ar_ (al_ (t4_ (t1_ (t1_ (t1_ h1_))))))))))))))))))) (sw_cons (t1_ (al_ (al_ (al_ (al_ (al_ (al_ (al_ (al_ (al_ (al_ (ar_ (ar_ (ar_ (al_ (t4_ (t4_ h1_))))))))))))))))) sw_nil))))))) (fun _ h => (t1_ (al_ (al_ (al_ (al_ (al_ (ar_ h)))))))))) (by decide +kernel)
set_option maxRecDepth 20000 in
theorem gX9_init_X3_init : GoodIn wsX9_init (wsX3_init) := ggX9_init_X3_init
set_option maxRecDepth 20000 in
theorem ggX9_init_X8_init : GoodIn wsX9_init wsX8_init := sw_good (sw_cons (t1_ (al_ (al_ (al_ (al_ (al_ (al_ (al_ (al_ (al_ (al_ (ar_ (ar_ (ar_ (al_ (t4_ (t4_ (t1_ (t1_ (t1_ h1_)))))))))))))))))))) (sw_app (sw_cons (t1_ (al_ (al_ (al_ (al_ (al_ (al_ (al_ (al_ (al_ (al_ (ar_ (ar_ (ar_ (al_ (t4_ (t4_ (t4_ h1_)))))))))))))))))) (sw_cons (t1_ (al_ (al_ (al_ (al_ (al_ (al_ (al_ (al_ (al_ (al_ (al_ (t1_ h1_))))))))))))) (sw_cons (t1_ (al_ (al_ (al_ (al_ (al_ (al_ (al_ (al_ (al_ (al_ (al_ (t1_ (t1_ h1_)))))))))))))) (sw_cons (t1_ (al_ (al_ (al_ (al_ (al_ (al_ (al_ (al_ (al_ (al_ (ar_ (ar_ (ar_ (al_ (t4_ (t4_ (t4_ (t1_ h1_))))))))))))))))))) (sw_cons (t1_ (al_ (al_ (al_ (al_ (al_ (al_ (al_ (al_ (al_ (al_ (al_ (t1_ (t1_ (t1_ h1_))))))))))))))) (sw_cons (t1_ (al_ (al_ (al_ (al_ (al_ (al_ (al_ (al_ (al_ (al_ (ar_ (ar_ (ar_ (al_ (t4_ (t4_ (t4_ (t1_ (t1_ h1_)))))))))))))))))))) (sw_cons (t1_ (al_ (al_ (al_ (al_ (al_ (al_ (al_ (al_ (al_ (al_ (ar_ (ar_ (ar_ (al_ (t4_ (t4_ (t4_ (t1_ (t1_ (t1_ h1_))))))))))))))))))))) sw_nil))))))) (fun _ h => (t1_ (al_ (al_ (al_ (al_ (ar_ h))))))))) (by decide +kernel)
set_option maxRecDepth 20000 in
theorem gX9_init_X8_init : GoodIn wsX9_init (wsX8_init) := ggX9_init_X8_init
set_option maxRecDepth 20000 in
theorem ggX9_init_X1_init : GoodIn wsX9_init wsX1_init := sw_good (sw_cons (t1_ (al_ (al_ (al_ (al_ (al_ (al_ (al_ (al_ (al_ (al_ (ar_ (ar_ (ar_ (al_ (t16_ (t1_ (t1_ h1_)))))))))))))))))) (sw_app (sw_cons (t1_ (al_ (al_ (al_ (al_ (al_ (al_ (al_ (al_ (al_ (al_ (ar_ (ar_ (ar_ (al_ (t16_ (t1_ (t1_ (t1_ h1_))))))))))))))))))) (sw_cons (t1_ (al_ (al_ (al_ (al_ (al_ (al_ (al_ (al_ (al_ (al_ (al_ (t1_ h1_))))))))))))) (sw_cons (t1_ (al_ (al_ (al_ (al_ (al_ (al_ (al_ (al_ (al_ (al_ (al_ (t1_ (t1_ h1_)))))))))))))) (sw_cons (t1_ (al_ (al_ (al_ (al_ (al_ (al_ (al_ (al_ (al_ (al_ (ar_ (ar_ (ar_ (al_ (t16_ (t4_ h1_))))))))))))))))) sw_nil)))) (fun _ h => (t1_ (al_ (al_ (al_ (ar_ h)))))))) (by decide +kernel)
set_option maxRecDepth 20000 in
theorem gX9_init_X1_init : GoodIn wsX9_init (wsX1_init) := ggX9_init_X1_init
set_option maxRecDepth 20000 in
theorem ggX9_init_X2_init : GoodIn wsX9_init wsX2_init := sw_good (sw_cons (t1_ (al_ (al_ (al_ (al_ (al_ (al_ (al_ (al_ (al_ (al_ (ar_ (ar_ (ar_ (al_ (t16_ (t4_ (t1_ (t1_ (t1_ h1_)))))))))))))))))))) (sw_app (sw_cons (t1_ (al_ (al_ (al_ (al_ (al_ (al_ (al_ (al_ (al_ (al_ (ar_ (ar_ (ar_ (ar_ h1_))))))))))))))) (sw_cons (t1_ (al_ (al_ (al_ (al_ (al_ (al_ (al_ (al_ (al_ (al_ (al_ (t1_ h1_))))))))))))) (sw_cons (t1_ (al_ (al_ (al_ (al_ (al_ (al_ (al_ (al_ (al_ (al_ (al_ (t1_ (t1_ h1_)))))))))))))) (sw_cons (t1_ (al_ (al_ (al_ (al_ (al_ (al_ (al_ (al_ (al_ (al_ (ar_ (ar_ (ar_ (ar_ (t1_ h1_)))))))))))))))) (sw_cons (t1_ (al_ (al_ (al_ (al_ (al_ (al_ (al_ (al_ (al_ (al_ (al_ (t1_ (t1_ (t1_ h1_))))))))))))))) (sw_cons (t1_ (al_ (al_ (al_ (al_ (al_ (al_ (al_ (al_ (al_ (al_ (ar_ (ar_ (ar_ (ar_ (t1_ (t1_ h1_))))))))))))))))) (sw_cons (t1_ (al_ (al_ (al_ (al_ (al_ (al_ (al_ (al_ (al_ (al_ (ar_ (ar_ (ar_ (ar_ (t1_ (t1_ (t1_ h1_)))))))))))))))))) sw_nil))))))) (fun _ h => (t1_ (al_ (al_ (ar_ h))))))) (by decide +kernel)
set_option maxRecDepth 20000 in
theorem gX9_init_X2_init : GoodIn wsX9_init (wsX2_init) := ggX9_init_X2_init
set_option maxRecDepth 20000 in
theorem ggX9_init_X5_init : GoodIn wsX9_init wsX5_init := sw_good (sw_cons (t1_ (al_ (al_ (al_ (al_ (al_ (al_ (al_ (al_ (al_ (al_ (ar_ (ar_ (ar_ (ar_ (t4_ (t1_ (t1_ h1_)))))))))))))))))) (sw_app (sw_cons (t1_ (al_ (al_ (al_ (al_ (al_ (al_ (al_ (al_ (al_ (al_ (ar_ (ar_ (ar_ (ar_ (t4_ (t1_ (t1_ (t1_ h1_))))))))))))))))))) (sw_cons (t1_ (al_ (al_ (al_ (al_ (al_ (al_ (al_ (al_ (al_ (al_ (al_ (t1_ h1_))))))))))))) (sw_cons (t1_ (al_ (al_ (al_ (al_ (al_ (al_ (al_ (al_ (al_ (al_ (al_ (t1_ (t1_ h1_)))))))))))))) (sw_cons (t1_ (al_ (al_ (al_ (al_ (al_ (al_ (al_ (al_ (al_ (al_ (ar_ (ar_ (ar_ (ar_ (t4_ (t4_ h1_))))))))))))))))) (sw_cons (t1_ (al_ (al_ (al_ (al_ (al_ (al_ (al_ (al_ (al_ (al_ (al_ (t1_ (t1_ (t1_ h1_))))))))))))))) (sw_cons (t1_ (al_ (al_ (al_ (al_ (al_ (al_ (al_ (al_ (al_ (al_ (ar_ (ar_ (ar_ (ar_ (t4_ (t4_ (t1_ h1_)))))))))))))))))) sw_nil)))))) (fun _ h => (t1_ (al_ (ar_ h)))))) (by decide +kernel)
set_option maxRecDepth 20000 in
theorem gX9_init_X5_init : GoodIn wsX9_init (wsX5_init) := ggX9_init_X5_init
set_option maxRecDepth 20000 in
theorem ggX9_init_X0_init : GoodIn wsX9_init wsX0_init := sw_good (sw_cons (t1_ (al_ (al_ (al_ (al_ (al_ (al_ (al_ (al_ (al_ (al_ (ar_ (ar_ (ar_ (ar_ (t4_ (t4_ (t4_ h1_)))))))))))))))))) (sw_app (sw_cons (t1_ (al_ (al_ (al_ (al_ (al_ (al_ (al_ (al_ (al_ (al_ (ar_ (ar_ (ar_ (ar_ (t4_ (t4_ (t4_ (t1_ h1_))))))))))))))))))) (sw_cons (t1_ (al_ (al_ (al_ (al_ (al_ (al_ (al_ (al_ (al_ (al_ (al_ (t1_ h1_))))))))))))) (sw_cons (t1_ (al_ (al_ (al_ (al_ (al_ (al_ (al_ (al_ (al_ (al_ (al_ (t1_ (t1_ h1_)))))))))))))) (sw_cons (t1_ (al_ (al_ (al_ (al_ (al_ (al_ (al_ (al_ (al_ (al_ (ar_ (ar_ (ar_ (ar_ (t4_ (t4_ (t4_ (t1_ (t1_ h1_)))))))))))))))))))) (sw_cons (t1_ (al_ (al_ (al_ (al_ (al_ (al_ (al_ (al_ (al_ (al_ (al_ (t1_ (t1_ (t1_ h1_))))))))))))))) (sw_cons (t1_ (al_ (al_ (al_ (al_ (al_ (al_ (al_ (al_ (al_ (al_ (ar_ (ar_ (ar_ (ar_ (t4_ (t4_ (t4_ (t1_ (t1_ (t1_ h1_))))))))))))))))))))) (sw_cons (t1_ (al_ (al_ (al_ (al_ (al_ (al_ (al_ (al_ (al_ (al_ (ar_ (ar_ (ar_ (ar_ (t16_ h1_)))))))))))))))) sw_nil))))))) (fun _ h => (t1_ (ar_ h))))) (by decide +kernel)
set_option maxRecDepth 20000 in
theorem gX9_init_X0_init : GoodIn wsX9_init (wsX0_init) := ggX9_init_X0_init
theorem dX9_init_0 : decode cX9_init 0 = .ok (.aload_n 0, 1) := by decide +kernel
theorem dX9_init_1 : decode cX9_init 1 = .ok (.invokespecial 3, 3) := by decide +kernel
theorem dX9_init_4 : decode cX9_init 4 = .ok (.aload_n 0, 1) := by decide +kernel
theorem dX9_init_5 : decode cX9_init 5 = .ok (.bipush 10, 2) := by decide +kernel
theorem dX9_init_7 : decode cX9_init 7 = .ok (.newarray .int, 2) := by decide +kernel
theorem dX9_init_9 : decode cX9_init 9 = .ok (.putfield 9, 3) := by decide +kernel
theorem dX9_init_12 : decode cX9_init 12 = .ok (.aload_n 0, 1) := by decide +kernel
theorem dX9_init_13 : decode cX9_init 13 = .ok (.getfield 9, 3) := by decide +kernel
theorem dX9_init_16 : decode cX9_init 16 = .ok (.iconst 1, 1) := by decide +kernel
theorem dX9_init_17 : decode cX9_init 17 = .ok (.invokestatic 13, 3) := by decide +kernel
theorem dX9_init_20 : decode cX9_init 20 = .ok (.aload_n 0, 1) := by decide +kernel
theorem dX9_init_21 : decode cX9_init 21 = .ok (.new 19, 3) := by decide +kernel
theorem dX9_init_24 : decode cX9_init 24 = .ok (.dup, 1) := by decide +kernel
theorem dX9_init_25 : decode cX9_init 25 = .ok (.bipush 16, 2) := by decide +kernel
theorem dX9_init_27 : decode cX9_init 27 = .ok (.newarray .int, 2) := by decide +kernel
theorem dX9_init_29 : decode cX9_init 29 = .ok (.bipush 8, 2) := by decide +kernel
theorem dX9_init_31 : decode cX9_init 31 = .ok (.invokespecial 21, 3) := by decide +kernel
theorem dX9_init_34 : decode cX9_init 34 = .ok (.putfield 23, 3) := by decide +kernel
theorem dX9_init_37 : decode cX9_init 37 = .ok (.aload_n 0, 1) := by decide +kernel
theorem dX9_init_38 : decode cX9_init 38 = .ok (.new 19, 3) := by decide +kernel
theorem dX9_init_41 : decode cX9_init 41 = .ok (.dup, 1) := by decide +kernel
theorem dX9_init_42 : decode cX9_init 42 = .ok (.bipush 40, 2) := by decide +kernel
theorem dX9_init_44 : decode cX9_init 44 = .ok (.newarray .int, 2) := by decide +kernel
theorem dX9_init_46 : decode cX9_init 46 = .ok (.bipush 8, 2) := by decide +kernel
theorem dX9_init_48 : decode cX9_init 48 = .ok (.invokespecial 21, 3) := by decide +kernel
theorem dX9_init_51 : decode cX9_init 51 = .ok (.putfield 27, 3) := by decide +kernel
theorem dX9_init_54 : decode cX9_init 54 = .ok (.aload_n 0, 1) := by decide +kernel
theorem dX9_init_55 : decode cX9_init 55 = .ok (.new 30, 3) := by decide +kernel
theorem dX9_init_58 : decode cX9_init 58 = .ok (.dup, 1) := by decide +kernel
theorem dX9_init_59 : decode cX9_init 59 = .ok (.invokespecial 32, 3) := by decide +kernel
theorem dX9_init_62 : decode cX9_init 62 = .ok (.putfield 33, 3) := by decide +kernel
theorem dX9_init_65 : decode cX9_init 65 = .ok (.aload_n 0, 1) := by decide +kernel
theorem dX9_init_66 : decode cX9_init 66 = .ok (.new 37, 3) := by decide +kernel
theorem dX9_init_69 : decode cX9_init 69 = .ok (.dup, 1) := by decide +kernel
theorem dX9_init_70 : decode cX9_init 70 = .ok (.invokespecial 39, 3) := by decide +kernel
theorem dX9_init_73 : decode cX9_init 73 = .ok (.putfield 40, 3) := by decide +kernel
theorem dX9_init_76 : decode cX9_init 76 = .ok (.aload_n 0, 1) := by decide +kernel
theorem dX9_init_77 : decode cX9_init 77 = .ok (.new 44, 3) := by decide +kernel
theorem dX9_init_80 : decode cX9_init 80 = .ok (.dup, 1) := by decide +kernel
theorem dX9_init_81 : decode cX9_init 81 = .ok (.aload_n 0, 1) := by decide +kernel
theorem dX9_init_82 : decode cX9_init 82 = .ok (.getfield 23, 3) := by decide +kernel
theorem dX9_init_85 : decode cX9_init 85 = .ok (.invokespecial 46, 3) := by decide +kernel
theorem dX9_init_88 : decode cX9_init 88 = .ok (.putfield 49, 3) := by decide +kernel
theorem dX9_init_91 : decode cX9_init 91 = .ok (.aload_n 0, 1) := by decide +kernel
theorem dX9_init_92 : decode cX9_init 92 = .ok (.new 53, 3) := by decide +kernel
theorem dX9_init_95 : decode cX9_init 95 = .ok (.dup, 1) := by decide +kernel
theorem dX9_init_96 : decode cX9_init 96 = .ok (.aload_n 0, 1) := by decide +kernel
theorem dX9_init_97 : decode cX9_init 97 = .ok (.getfield 23, 3) := by decide +kernel
theorem dX9_init_100 : decode cX9_init 100 = .ok (.invokespecial 55, 3) := by decide +kernel
theorem dX9_init_103 : decode cX9_init 103 = .ok (.putfield 56, 3) := by decide +kernel
theorem dX9_init_106 : decode cX9_init 106 = .ok (.aload_n 0, 1) := by decide +kernel
theorem dX9_init_107 : decode cX9_init 107 = .ok (.new 60, 3) := by decide +kernel
theorem dX9_init_110 : decode cX9_init 110 = .ok (.dup, 1) := by decide +kernel
theorem dX9_init_111 : decode cX9_init 111 = .ok (.aload_n 0, 1) := by decide +kernel
theorem dX9_init_112 : decode cX9_init 112 = .ok (.getfield 23, 3) := by decide +kernel
theorem dX9_init_115 : decode cX9_init 115 = .ok (.invokespecial 62, 3) := by decide +kernel
theorem dX9_init_118 : decode cX9_init 118 = .ok (.putfield 63, 3) := by decide +kernel
theorem dX9_init_121 : decode cX9_init 121 = .ok (.aload_n 0, 1) := by decide +kernel
theorem dX9_init_122 : decode cX9_init 122 = .ok (.new 67, 3) := by decide +kernel
theorem dX9_init_125 : decode cX9_init 125 = .ok (.dup, 1) := by decide +kernel
theorem dX9_init_126 : decode cX9_init 126 = .ok (.aload_n 0, 1) := by decide +kernel
theorem dX9_init_127 : decode cX9_init 127 = .ok (.getfield 23, 3) := by decide +kernel
theorem dX9_init_130 : decode cX9_init 130 = .ok (.invokespecial 69, 3) := by decide +kernel
theorem dX9_init_133 : decode cX9_init 133 = .ok (.putfield 70, 3) := by decide +kernel
theorem dX9_init_136 : decode cX9_init 136 = .ok (.aload_n 0, 1) := by decide +kernel
theorem dX9_init_137 : decode cX9_init 137 = .ok (.new 74, 3) := by decide +kernel
theorem dX9_init_140 : decode cX9_init 140 = .ok (.dup, 1) := by decide +kernel
theorem dX9_init_141 : decode cX9_init 141 = .ok (.aload_n 0, 1) := by decide +kernel
theorem dX9_init_142 : decode cX9_init 142 = .ok (.getfield 23, 3) := by decide +kernel
theorem dX9_init_145 : decode cX9_init 145 = .ok (.invokespecial 76, 3) := by decide +kernel
theorem dX9_init_148 : decode cX9_init 148 = .ok (.putfield 77, 3) := by decide +kernel
theorem dX9_init_151 : decode cX9_init 151 = .ok (.aload_n 0, 1) := by decide +kernel
theorem dX9_init_152 : decode cX9_init 152 = .ok (.new 81, 3) := by decide +kernel
theorem dX9_init_155 : decode cX9_init 155 = .ok (.dup, 1) := by decide +kernel
theorem dX9_init_156 : decode cX9_init 156 = .ok (.aload_n 0, 1) := by decide +kernel
theorem dX9_init_157 : decode cX9_init 157 = .ok (.getfield 23, 3) := by decide +kernel
theorem dX9_init_160 : decode cX9_init 160 = .ok (.invokespecial 83, 3) := by decide +kernel
theorem dX9_init_163 : decode cX9_init 163 = .ok (.putfield 84, 3) := by decide +kernel
theorem dX9_init_166 : decode cX9_init 166 = .ok (.return_, 1) := by decide +kernel
set_option maxRecDepth 20000 in
theorem ggX9_ground_X6_clearFor : GoodIn wsX9_ground wsX6_clearFor := sw_good (sw_cons (t1_ (al_ (al_ (t4_ (t1_ (t1_ h1_)))))) (sw_app (sw_cons (t1_ (al_ (al_ (t4_ (t1_ (t1_ (t1_ h1_))))))) (sw_cons (t1_ (al_ (al_ (t4_ (t4_ h1_))))) (sw_cons (t1_ (al_ (al_ (t4_ (t4_ (t1_ h1_)))))) (sw_cons (t1_ (al_ (al_ (t4_ (t4_ (t1_ (t1_ h1_))))))) (sw_cons (t1_ (al_ (al_ (t4_ (t4_ (t1_ (t1_ (t1_ h1_)))))))) (sw_cons (t1_ (al_ (al_ (t4_ (t4_ (t4_ h1_)))))) (sw_cons (t1_ (al_ (al_ (t4_ (t4_ (t4_ (t1_ h1_))))))) (sw_cons (t1_ (al_ (al_ (t4_ (t4_ (t4_ (t1_ (t1_ h1_)))))))) sw_nil)))))))) (fun _ h => (t1_ (ar_ h))))) (by decide +kernel)
set_option maxRecDepth 20000 in
theorem gX9_ground_X6_clearFor : GoodIn wsX9_ground (wsV RX9 88 RX6 yX6_clearFor wsX6_clearFor) := goodIn_app (sw_good (sw_cons (t1_ (al_ (al_ (t1_ (t1_ h1_))))) (sw_cons (t1_ (al_ (al_ (t1_ (t1_ (t1_ h1_)))))) (sw_cons (t1_ (al_ (al_ (t4_ h1_)))) (sw_cons (t1_ (al_ (al_ (t4_ (t1_ h1_))))) sw_nil)))) (by decide +kernel)) ggX9_ground_X6_clearFor
theorem dX9_ground_0 : decode cX9_ground 0 = .ok (.iload_n 1, 1) := by decide +kernel
theorem dX9_ground_1 : decode cX9_ground 1 = .ok (.iconst 1, 1) := by decide +kernel
theorem dX9_ground_2 : decode cX9_ground 2 = .ok (.if_icmp .lt 9, 3) := by decide +kernel
theorem dX9_ground_5 : decode cX9_ground 5 = .ok (.iload_n 1, 1) := by decide +kernel
theorem dX9_ground_6 : decode cX9_ground 6 = .ok (.bipush 10, 2) := by decide +kernel
theorem dX9_ground_8 : decode cX9_ground 8 = .ok (.if_icmp .le 6, 3) := by decide +kernel
theorem dX9_ground_11 : decode cX9_ground 11 = .ok (.bipush (-2), 2) := by decide +kernel
theorem dX9_ground_13 : decode cX9_ground 13 = .ok (.ireturn, 1) := by decide +kernel
theorem dX9_ground_14 : decode cX9_ground 14 = .ok (.aload_n 0, 1) := by decide +kernel
theorem dX9_ground_15 : decode cX9_ground 15 = .ok (.getfield 23, 3) := by decide +kernel
theorem dX9_ground_18 : decode cX9_ground 18 = .ok (.iload_n 1, 1) := by decide +kernel
theorem dX9_ground_19 : decode cX9_ground 19 = .ok (.invokevirtual 88, 3) := by decide +kernel
theorem dX9_ground_22 : decode cX9_ground 22 = .ok (.aload_n 0, 1) := by decide +kernel
theorem dX9_ground_23 : decode cX9_ground 23 = .ok (.getfield 27, 3) := by decide +kernel
theorem dX9_ground_26 : decode cX9_ground 26 = .ok (.iload_n 1, 1) := by decide +kernel
theorem dX9_ground_27 : decode cX9_ground 27 = .ok (.invokevirtual 88, 3) := by decide +kernel
theorem dX9_ground_30 : decode cX9_ground 30 = .ok (.iconst 1, 1) := by decide +kernel
theorem dX9_ground_31 : decode cX9_ground 31 = .ok (.ireturn, 1) := by decide +kernel
set_option maxRecDepth 20000 in
theorem ggX9_set_X6_isPart : GoodIn wsX9_set wsX6_isPart := sw_good (sw_cons (t1_ (al_ (al_ (al_ (t4_ (t1_ (t1_ h1_))))))) (sw_app (sw_cons (t1_ (al_ (al_ (al_ (t4_ (t1_ (t1_ (t1_ h1_)))))))) sw_nil) (fun _ h => (t1_ (ar_ h))))) (by decide +kernel)
set_option maxRecDepth 20000 in
theorem gX9_set_X6_isPart : GoodIn wsX9_set (wsV RX9 92 RX6 yX6_isPart wsX6_isPart) := goodIn_app (sw_good (sw_cons (t1_ (al_ (al_ (al_ (t1_ (t1_ h1_)))))) (sw_cons (t1_ (al_ (al_ (al_ (t1_ (t1_ (t1_ h1_))))))) (sw_cons (t1_ (al_ (al_ (al_ (t4_ h1_))))) (sw_cons (t1_ (al_ (al_ (al_ (t4_ (t1_ h1_)))))) sw_nil)))) (by decide +kernel)) ggX9_set_X6_isPart
set_option maxRecDepth 20000 in
theorem ggX9_set_X6_holds : GoodIn wsX9_set wsX6_holds := sw_good (sw_cons (t1_ (al_ (al_ (al_ (t4_ (t4_ (t1_ (t1_ (t1_ h1_))))))))) (sw_app (sw_cons (t1_ (al_ (al_ (al_ (t4_ (t4_ (t4_ h1_))))))) (sw_cons (t1_ (al_ (al_ (al_ (t4_ (t4_ (t4_ (t1_ h1_)))))))) sw_nil)) (fun _ h => (t1_ (ar_ h))))) (by decide +kernel)
set_option maxRecDepth 20000 in
theorem gX9_set_X6_holds : GoodIn wsX9_set (wsV RX9 96 RX6 yX6_holds wsX6_holds) := goodIn_app (sw_good (sw_cons (t1_ (al_ (al_ (al_ (t4_ (t4_ h1_)))))) (sw_cons (t1_ (al_ (al_ (al_ (t4_ (t4_ (t1_ h1_))))))) (sw_cons (t1_ (al_ (al_ (al_ (t4_ (t4_ (t1_ (t1_ h1_)))))))) (sw_cons (t1_ (al_ (al_ (al_ (t4_ (t1_ h1_)))))) sw_nil)))) (by decide +kernel)) ggX9_set_X6_holds
set_option maxRecDepth 20000 in
theorem ggX9_set_X6_isFull : GoodIn wsX9_set wsX6_isFull := sw_good (sw_cons (t1_ (al_ (al_ (al_ (t16_ (t1_ h1_)))))) (sw_app (sw_cons (t1_ (al_ (al_ (al_ (t4_ (t4_ (t4_ h1_))))))) (sw_cons (t1_ (al_ (al_ (al_ (t4_ (t4_ (t4_ (t1_ h1_)))))))) sw_nil)) (fun _ h => (t1_ (ar_ h))))) (by decide +kernel)
set_option maxRecDepth 20000 in
theorem gX9_set_X6_isFull : GoodIn wsX9_set (wsV RX9 99 RX6 yX6_isFull wsX6_isFull) := goodIn_app (sw_good (sw_cons (t1_ (al_ (al_ (al_ (t4_ (t4_ (t4_ (t1_ (t1_ h1_))))))))) (sw_cons (t1_ (al_ (al_ (al_ (t4_ (t4_ (t4_ (t1_ (t1_ (t1_ h1_)))))))))) (sw_cons (t1_ (al_ (al_ (al_ (t16_ h1_))))) (sw_cons (t1_ (al_ (al_ (al_ (t4_ (t1_ h1_)))))) sw_nil)))) (by decide +kernel)) ggX9_set_X6_isFull
set_option maxRecDepth 20000 in
theorem ggX9_set_X6_append : GoodIn wsX9_set wsX6_append := sw_good (sw_cons (t1_ (al_ (al_ (al_ (t16_ (t4_ (t1_ h1_))))))) (sw_app (sw_cons (t1_ (al_ (al_ (al_ (t4_ (t4_ (t4_ (t1_ h1_)))))))) (sw_cons (t1_ (al_ (al_ (al_ (t4_ (t4_ (t4_ h1_))))))) (sw_cons (t1_ (al_ (al_ (al_ (t16_ (t4_ (t1_ (t1_ h1_)))))))) (sw_cons (t1_ (al_ (al_ (al_ (t4_ (t4_ (t4_ (t1_ (t1_ (t1_ h1_)))))))))) (sw_cons (t1_ (al_ (al_ (al_ (t16_ h1_))))) (sw_cons (t1_ (al_ (al_ (al_ (t4_ (t1_ h1_)))))) (sw_cons (t1_ (al_ (al_ (al_ (t16_ (t1_ h1_)))))) (sw_cons (t1_ (al_ (al_ (al_ (t16_ (t4_ (t1_ (t1_ (t1_ h1_))))))))) (sw_cons (t1_ (al_ (al_ (ar_ h1_)))) (sw_cons (t1_ (al_ (al_ (ar_ (t1_ h1_))))) (sw_cons (t1_ (al_ (al_ (ar_ (t1_ (t1_ h1_)))))) (sw_cons (t1_ (al_ (al_ (al_ (t4_ (t1_ (t1_ (t1_ h1_)))))))) (sw_cons (t1_ (al_ (al_ (ar_ (t1_ (t1_ (t1_ h1_))))))) sw_nil))))))))))))) (fun _ h => (t1_ (ar_ h))))) (by decide +kernel)
set_option maxRecDepth 20000 in
theorem gX9_set_X6_append : GoodIn wsX9_set (wsV RX9 103 RX6 yX6_append wsX6_append) := goodIn_app (sw_good (sw_cons (t1_ (al_ (al_ (al_ (t16_ (t1_ (t1_ h1_))))))) (sw_cons (t1_ (al_ (al_ (al_ (t16_ (t1_ (t1_ (t1_ h1_)))))))) (sw_cons (t1_ (al_ (al_ (al_ (t16_ (t4_ h1_)))))) (sw_cons (t1_ (al_ (al_ (al_ (t4_ (t1_ h1_)))))) sw_nil)))) (by decide +kernel)) ggX9_set_X6_append
theorem dX9_set_0 : decode cX9_set 0 = .ok (.iload_n 1, 1) := by decide +kernel
theorem dX9_set_1 : decode cX9_set 1 = .ok (.ifCond .eq 25, 3) := by decide +kernel
theorem dX9_set_4 : decode cX9_set 4 = .ok (.aload_n 0, 1) := by decide +kernel
theorem dX9_set_5 : decode cX9_set 5 = .ok (.getfield 23, 3) := by decide +kernel
theorem dX9_set_8 : decode cX9_set 8 = .ok (.iload_n 1, 1) := by decide +kernel
theorem dX9_set_9 : decode cX9_set 9 = .ok (.invokevirtual 92, 3) := by decide +kernel
theorem dX9_set_12 : decode cX9_set 12 = .ok (.ifCond .eq 14, 3) := by decide +kernel
theorem dX9_set_15 : decode cX9_set 15 = .ok (.aload_n 0, 1) := by decide +kernel
theorem dX9_set_16 : decode cX9_set 16 = .ok (.getfield 23, 3) := by decide +kernel
theorem dX9_set_19 : decode cX9_set 19 = .ok (.iload_n 1, 1) := by decide +kernel
theorem dX9_set_20 : decode cX9_set 20 = .ok (.invokevirtual 96, 3) := by decide +kernel
theorem dX9_set_23 : decode cX9_set 23 = .ok (.ifCond .eq 6, 3) := by decide +kernel
theorem dX9_set_26 : decode cX9_set 26 = .ok (.bipush (-2), 2) := by decide +kernel
theorem dX9_set_28 : decode cX9_set 28 = .ok (.ireturn, 1) := by decide +kernel
theorem dX9_set_29 : decode cX9_set 29 = .ok (.aload_n 0, 1) := by decide +kernel
theorem dX9_set_30 : decode cX9_set 30 = .ok (.getfield 23, 3) := by decide +kernel
theorem dX9_set_33 : decode cX9_set 33 = .ok (.invokevirtual 99, 3) := by decide +kernel
theorem dX9_set_36 : decode cX9_set 36 = .ok (.ifCond .eq 6, 3) := by decide +kernel
theorem dX9_set_39 : decode cX9_set 39 = .ok (.bipush (-4), 2) := by decide +kernel
theorem dX9_set_41 : decode cX9_set 41 = .ok (.ireturn, 1) := by decide +kernel
theorem dX9_set_42 : decode cX9_set 42 = .ok (.aload_n 0, 1) := by decide +kernel
theorem dX9_set_43 : decode cX9_set 43 = .ok (.getfield 23, 3) := by decide +kernel
theorem dX9_set_46 : decode cX9_set 46 = .ok (.iload_n 1, 1) := by decide +kernel
theorem dX9_set_47 : decode cX9_set 47 = .ok (.invokevirtual 103, 3) := by decide +kernel
theorem dX9_set_50 : decode cX9_set 50 = .ok (.aload_n 0, 1) := by decide +kernel
theorem dX9_set_51 : decode cX9_set 51 = .ok (.getfield 23, 3) := by decide +kernel
theorem dX9_set_54 : decode cX9_set 54 = .ok (.getfield 106, 3) := by decide +kernel
theorem dX9_set_57 : decode cX9_set 57 = .ok (.iconst 1, 1) := by decide +kernel
theorem dX9_set_58 : decode cX9_set 58 = .ok (.isub, 1) := by decide +kernel
theorem dX9_set_59 : decode cX9_set 59 = .ok (.ireturn, 1) := by decide +kernel
set_option maxRecDepth 20000 in
theorem ggX9_drop_X6_removeLast : GoodIn wsX9_drop wsX6_removeLast := sw_good (sw_cons (t1_ (al_ (al_ (t4_ (t1_ (t1_ h1_)))))) (sw_app (sw_cons (t1_ (al_ (al_ (t4_ (t1_ (t1_ (t1_ h1_))))))) (sw_cons (t1_ (al_ (al_ (t4_ (t4_ h1_))))) (sw_cons (t1_ (al_ (al_ (t4_ (t4_ (t1_ h1_)))))) (sw_cons (t1_ (al_ (al_ (t4_ (t4_ (t1_ (t1_ h1_))))))) (sw_cons (t1_ (al_ (al_ (t4_ (t4_ (t1_ (t1_ (t1_ h1_)))))))) (sw_cons (t1_ (al_ (al_ (t4_ (t1_ h1_))))) (sw_cons (t1_ (al_ (al_ (t4_ (t4_ (t4_ h1_)))))) (sw_cons (t1_ (al_ (al_ (t4_ (t4_ (t4_ (t1_ h1_))))))) (sw_cons (t1_ (al_ (al_ (t4_ (t4_ (t4_ (t1_ (t1_ h1_)))))))) sw_nil))))))))) (fun _ h => (t1_ (ar_ h))))) (by decide +kernel)
set_option maxRecDepth 20000 in
theorem gX9_drop_X6_removeLast : GoodIn wsX9_drop (wsV RX9 110 RX6 yX6_removeLast wsX6_removeLast) := goodIn_app (sw_good (sw_cons (t1_ (al_ (al_ (t1_ (t1_ h1_))))) (sw_cons (t1_ (al_ (al_ (t1_ (t1_ (t1_ h1_)))))) (sw_cons (t1_ (al_ (al_ (t4_ h1_)))) (sw_cons (t1_ (al_ (al_ (t4_ (t1_ h1_))))) sw_nil)))) (by decide +kernel)) ggX9_drop_X6_removeLast
theorem dX9_drop_0 : decode cX9_drop 0 = .ok (.aload_n 0, 1) := by decide +kernel
theorem dX9_drop_1 : decode cX9_drop 1 = .ok (.getfield 23, 3) := by decide +kernel
theorem dX9_drop_4 : decode cX9_drop 4 = .ok (.getfield 106, 3) := by decide +kernel
theorem dX9_drop_7 : decode cX9_drop 7 = .ok (.ifCond .ne 8, 3) := by decide +kernel
theorem dX9_drop_10 : decode cX9_drop 10 = .ok (.bipush (-3), 2) := by decide +kernel
theorem dX9_drop_12 : decode cX9_drop 12 = .ok (.goto 10, 3) := by decide +kernel
theorem dX9_drop_15 : decode cX9_drop 15 = .ok (.aload_n 0, 1) := by decide +kernel
theorem dX9_drop_16 : decode cX9_drop 16 = .ok (.getfield 23, 3) := by decide +kernel
theorem dX9_drop_19 : decode cX9_drop 19 = .ok (.invokevirtual 110, 3) := by decide +kernel
theorem dX9_drop_22 : decode cX9_drop 22 = .ok (.ireturn, 1) := by decide +kernel
set_option maxRecDepth 20000 in
theorem ggX9_cost_X9_isElement : GoodIn wsX9_cost wsX9_isElement := sw_good (sw_cons (t1_ (al_ (al_ (t4_ (t1_ h1_))))) (sw_app (sw_app (sw_cons (t1_ (al_ (al_ (t4_ (t1_ (t1_ h1_)))))) (sw_cons (t1_ (al_ (al_ (t4_ (t1_ (t1_ (t1_ h1_))))))) sw_nil)) (fun _ h => (t1_ (al_ (ar_ h))))) (fun _ h => (t1_ (ar_ h))))) (by decide +kernel)
set_option maxRecDepth 20000 in
theorem gX9_cost_X9_isElement : GoodIn wsX9_cost (wsV RX9 114 RX9 yX9_isElement wsX9_isElement) := goodIn_app (sw_good (sw_cons (t1_ (al_ (al_ (t1_ h1_)))) (sw_cons (t1_ (al_ (al_ (t1_ (t1_ h1_))))) (sw_cons (t1_ (al_ (al_ (t1_ (t1_ (t1_ h1_)))))) (sw_cons (t1_ (al_ (al_ (t4_ h1_)))) sw_nil)))) (by decide +kernel)) ggX9_cost_X9_isElement
theorem dX9_cost_0 : decode cX9_cost 0 = .ok (.aload_n 0, 1) := by decide +kernel
theorem dX9_cost_1 : decode cX9_cost 1 = .ok (.iload_n 1, 1) := by decide +kernel
theorem dX9_cost_2 : decode cX9_cost 2 = .ok (.invokevirtual 114, 3) := by decide +kernel
theorem dX9_cost_5 : decode cX9_cost 5 = .ok (.ifCond .eq 13, 3) := by decide +kernel
theorem dX9_cost_8 : decode cX9_cost 8 = .ok (.iload_n 2, 1) := by decide +kernel
theorem dX9_cost_9 : decode cX9_cost 9 = .ok (.ifCond .lt 9, 3) := by decide +kernel
theorem dX9_cost_12 : decode cX9_cost 12 = .ok (.iload_n 2, 1) := by decide +kernel
theorem dX9_cost_13 : decode cX9_cost 13 = .ok (.bipush 20, 2) := by decide +kernel
theorem dX9_cost_15 : decode cX9_cost 15 = .ok (.if_icmp .le 6, 3) := by decide +kernel
theorem dX9_cost_18 : decode cX9_cost 18 = .ok (.bipush (-2), 2) := by decide +kernel
theorem dX9_cost_20 : decode cX9_cost 20 = .ok (.ireturn, 1) := by decide +kernel
theorem dX9_cost_21 : decode cX9_cost 21 = .ok (.aload_n 0, 1) := by decide +kernel
theorem dX9_cost_22 : decode cX9_cost 22 = .ok (.getfield 9, 3) := by decide +kernel
theorem dX9_cost_25 : decode cX9_cost 25 = .ok (.iload_n 1, 1) := by decide +kernel
theorem dX9_cost_26 : decode cX9_cost 26 = .ok (.iaload, 1) := by decide +kernel
theorem dX9_cost_27 : decode cX9_cost 27 = .ok (.istore_n 3, 1) := by decide +kernel
theorem dX9_cost_28 : decode cX9_cost 28 = .ok (.aload_n 0, 1) := by decide +kernel
theorem dX9_cost_29 : decode cX9_cost 29 = .ok (.getfield 9, 3) := by decide +kernel
theorem dX9_cost_32 : decode cX9_cost 32 = .ok (.iload_n 1, 1) := by decide +kernel
theorem dX9_cost_33 : decode cX9_cost 33 = .ok (.iload_n 2, 1) := by decide +kernel
theorem dX9_cost_34 : decode cX9_cost 34 = .ok (.iastore, 1) := by decide +kernel
theorem dX9_cost_35 : decode cX9_cost 35 = .ok (.iload_n 3, 1) := by decide +kernel
theorem dX9_cost_36 : decode cX9_cost 36 = .ok (.ireturn, 1) := by decide +kernel
set_option maxRecDepth 20000 in
theorem ggX9_meeters_X6_isLeastMeeter : GoodIn wsX9_meeters wsX6_isLeastMeeter := sw_good (sw_cons (t1_ (al_ (al_ (t4_ (t1_ (t1_ h1_)))))) (sw_app (sw_cons (t1_ (al_ (al_ (t4_ (t1_ (t1_ (t1_ h1_))))))) (sw_cons (t1_ (al_ (al_ (t4_ (t4_ h1_))))) (sw_cons (t1_ (al_ (al_ (t4_ (t4_ (t1_ h1_)))))) (sw_cons (t1_ (al_ (al_ (t4_ (t4_ (t1_ (t1_ h1_))))))) (sw_cons (t1_ (al_ (al_ (t4_ (t1_ h1_))))) (sw_cons (t1_ (al_ (al_ (t4_ (t4_ (t1_ (t1_ (t1_ h1_)))))))) (sw_cons (t1_ (al_ (al_ (t4_ (t4_ (t4_ h1_)))))) (sw_cons (t1_ (al_ (al_ (t4_ (t4_ (t4_ (t1_ h1_))))))) (sw_cons (t1_ (al_ (al_ (t4_ (t4_ (t4_ (t1_ (t1_ h1_)))))))) (sw_cons (t1_ (al_ (al_ (t4_ (t4_ (t4_ (t1_ (t1_ (t1_ h1_))))))))) (sw_cons (t1_ (al_ (al_ (t16_ h1_)))) sw_nil))))))))))) (fun _ h => (t1_ (ar_ h))))) (by decide +kernel)
set_option maxRecDepth 20000 in
theorem gX9_meeters_X6_isLeastMeeter : GoodIn wsX9_meeters (wsV RX9 120 RX6 yX6_isLeastMeeter wsX6_isLeastMeeter) := goodIn_app (sw_good (sw_cons (t1_ (al_ (al_ (t1_ (t1_ h1_))))) (sw_cons (t1_ (al_ (al_ (t1_ (t1_ (t1_ h1_)))))) (sw_cons (t1_ (al_ (al_ (t4_ h1_)))) (sw_cons (t1_ (al_ (al_ (t4_ (t1_ h1_))))) sw_nil)))) (by decide +kernel)) ggX9_meeters_X6_isLeastMeeter
theorem dX9_meeters_0 : decode cX9_meeters 0 = .ok (.iconst 0, 1) := by decide +kernel
theorem dX9_meeters_1 : decode cX9_meeters 1 = .ok (.istore_n 1, 1) := by decide +kernel
theorem dX9_meeters_2 : decode cX9_meeters 2 = .ok (.iconst 0, 1) := by decide +kernel
theorem dX9_meeters_3 : decode cX9_meeters 3 = .ok (.istore_n 2, 1) := by decide +kernel
theorem dX9_meeters_4 : decode cX9_meeters 4 = .ok (.iload_n 2, 1) := by decide +kernel
theorem dX9_meeters_5 : decode cX9_meeters 5 = .ok (.aload_n 0, 1) := by decide +kernel
theorem dX9_meeters_6 : decode cX9_meeters 6 = .ok (.getfield 23, 3) := by decide +kernel
theorem dX9_meeters_9 : decode cX9_meeters 9 = .ok (.getfield 117, 3) := by decide +kernel
theorem dX9_meeters_12 : decode cX9_meeters 12 = .ok (.if_icmp .ge 23, 3) := by decide +kernel
theorem dX9_meeters_15 : decode cX9_meeters 15 = .ok (.aload_n 0, 1) := by decide +kernel
theorem dX9_meeters_16 : decode cX9_meeters 16 = .ok (.getfield 23, 3) := by decide +kernel
theorem dX9_meeters_19 : decode cX9_meeters 19 = .ok (.iload_n 2, 1) := by decide +kernel
theorem dX9_meeters_20 : decode cX9_meeters 20 = .ok (.invokevirtual 120, 3) := by decide +kernel
theorem dX9_meeters_23 : decode cX9_meeters 23 = .ok (.ifCond .eq 6, 3) := by decide +kernel
theorem dX9_meeters_26 : decode cX9_meeters 26 = .ok (.iinc 1 1, 3) := by decide +kernel
theorem dX9_meeters_29 : decode cX9_meeters 29 = .ok (.iinc 2 1, 3) := by decide +kernel
theorem dX9_meeters_32 : decode cX9_meeters 32 = .ok (.goto (-28), 3) := by decide +kernel
theorem dX9_meeters_35 : decode cX9_meeters 35 = .ok (.iload_n 1, 1) := by decide +kernel
theorem dX9_meeters_36 : decode cX9_meeters 36 = .ok (.ireturn, 1) := by decide +kernel
set_option maxRecDepth 20000 in
theorem ggX9_meeter_X6_isLeastMeeter : GoodIn wsX9_meeter wsX6_isLeastMeeter := sw_good (sw_cons (t1_ (al_ (al_ (t4_ (t1_ (t1_ h1_)))))) (sw_app (sw_cons (t1_ (al_ (al_ (t4_ (t1_ (t1_ (t1_ h1_))))))) (sw_cons (t1_ (al_ (al_ (t4_ (t4_ h1_))))) (sw_cons (t1_ (al_ (al_ (t4_ (t4_ (t1_ h1_)))))) (sw_cons (t1_ (al_ (al_ (t4_ (t4_ (t1_ (t1_ h1_))))))) (sw_cons (t1_ (al_ (al_ (t4_ (t1_ h1_))))) (sw_cons (t1_ (al_ (al_ (t4_ (t4_ (t1_ (t1_ (t1_ h1_)))))))) (sw_cons (t1_ (al_ (al_ (t4_ (t4_ (t4_ h1_)))))) (sw_cons (t1_ (al_ (al_ (t4_ (t4_ (t4_ (t1_ h1_))))))) (sw_cons (t1_ (al_ (al_ (t4_ (t4_ (t4_ (t1_ (t1_ h1_)))))))) (sw_cons (t1_ (al_ (al_ (t4_ (t4_ (t4_ (t1_ (t1_ (t1_ h1_))))))))) (sw_cons (t1_ (al_ (al_ (t16_ h1_)))) sw_nil))))))))))) (fun _ h => (t1_ (ar_ h))))) (by decide +kernel)
set_option maxRecDepth 20000 in
theorem gX9_meeter_X6_isLeastMeeter : GoodIn wsX9_meeter (wsV RX9 120 RX6 yX6_isLeastMeeter wsX6_isLeastMeeter) := goodIn_app (sw_good (sw_cons (t1_ (al_ (al_ (t1_ (t1_ h1_))))) (sw_cons (t1_ (al_ (al_ (t1_ (t1_ (t1_ h1_)))))) (sw_cons (t1_ (al_ (al_ (t4_ h1_)))) (sw_cons (t1_ (al_ (al_ (t4_ (t1_ h1_))))) sw_nil)))) (by decide +kernel)) ggX9_meeter_X6_isLeastMeeter
theorem dX9_meeter_0 : decode cX9_meeter 0 = .ok (.iload_n 1, 1) := by decide +kernel
theorem dX9_meeter_1 : decode cX9_meeter 1 = .ok (.ifCond .ge 6, 3) := by decide +kernel
theorem dX9_meeter_4 : decode cX9_meeter 4 = .ok (.bipush (-2), 2) := by decide +kernel
theorem dX9_meeter_6 : decode cX9_meeter 6 = .ok (.ireturn, 1) := by decide +kernel
theorem dX9_meeter_7 : decode cX9_meeter 7 = .ok (.iconst 0, 1) := by decide +kernel
theorem dX9_meeter_8 : decode cX9_meeter 8 = .ok (.istore_n 2, 1) := by decide +kernel
theorem dX9_meeter_9 : decode cX9_meeter 9 = .ok (.iconst 0, 1) := by decide +kernel
theorem dX9_meeter_10 : decode cX9_meeter 10 = .ok (.istore_n 3, 1) := by decide +kernel
theorem dX9_meeter_11 : decode cX9_meeter 11 = .ok (.iload_n 3, 1) := by decide +kernel
theorem dX9_meeter_12 : decode cX9_meeter 12 = .ok (.aload_n 0, 1) := by decide +kernel
theorem dX9_meeter_13 : decode cX9_meeter 13 = .ok (.getfield 23, 3) := by decide +kernel
theorem dX9_meeter_16 : decode cX9_meeter 16 = .ok (.getfield 117, 3) := by decide +kernel
theorem dX9_meeter_19 : decode cX9_meeter 19 = .ok (.if_icmp .ge 30, 3) := by decide +kernel
theorem dX9_meeter_22 : decode cX9_meeter 22 = .ok (.aload_n 0, 1) := by decide +kernel
theorem dX9_meeter_23 : decode cX9_meeter 23 = .ok (.getfield 23, 3) := by decide +kernel
theorem dX9_meeter_26 : decode cX9_meeter 26 = .ok (.iload_n 3, 1) := by decide +kernel
theorem dX9_meeter_27 : decode cX9_meeter 27 = .ok (.invokevirtual 120, 3) := by decide +kernel
theorem dX9_meeter_30 : decode cX9_meeter 30 = .ok (.ifCond .eq 13, 3) := by decide +kernel
theorem dX9_meeter_33 : decode cX9_meeter 33 = .ok (.iload_n 2, 1) := by decide +kernel
theorem dX9_meeter_34 : decode cX9_meeter 34 = .ok (.iload_n 1, 1) := by decide +kernel
theorem dX9_meeter_35 : decode cX9_meeter 35 = .ok (.if_icmp .ne 5, 3) := by decide +kernel
theorem dX9_meeter_38 : decode cX9_meeter 38 = .ok (.iload_n 3, 1) := by decide +kernel
theorem dX9_meeter_39 : decode cX9_meeter 39 = .ok (.ireturn, 1) := by decide +kernel
theorem dX9_meeter_40 : decode cX9_meeter 40 = .ok (.iinc 2 1, 3) := by decide +kernel
theorem dX9_meeter_43 : decode cX9_meeter 43 = .ok (.iinc 3 1, 3) := by decide +kernel
theorem dX9_meeter_46 : decode cX9_meeter 46 = .ok (.goto (-35), 3) := by decide +kernel
theorem dX9_meeter_49 : decode cX9_meeter 49 = .ok (.iconst (-1), 1) := by decide +kernel
theorem dX9_meeter_50 : decode cX9_meeter 50 = .ok (.ireturn, 1) := by decide +kernel
set_option maxRecDepth 20000 in
theorem ggX9_best_X9_isZeroOrOne : GoodIn wsX9_best wsX9_isZeroOrOne := sw_good (sw_cons (t1_ (al_ (al_ (al_ (t4_ (t1_ h1_)))))) sw_nil) (by decide +kernel)
set_option maxRecDepth 20000 in
theorem gX9_best_X9_isZeroOrOne : GoodIn wsX9_best (va_wsS RX9 123 yX9_isZeroOrOne wsX9_isZeroOrOne) := goodIn_app (sw_good (sw_cons (t1_ (al_ (al_ (al_ (t1_ (t1_ h1_)))))) (sw_cons (t1_ (al_ (al_ (al_ (t1_ (t1_ (t1_ h1_))))))) (sw_cons (t1_ (al_ (al_ (al_ (t4_ h1_))))) sw_nil))) (by decide +kernel)) ggX9_best_X9_isZeroOrOne
set_option maxRecDepth 20000 in
theorem ggX9_best_X6_isMeeter : GoodIn wsX9_best wsX6_isMeeter := sw_good (sw_cons (t1_ (al_ (al_ (al_ (t4_ (t4_ (t1_ (t1_ h1_)))))))) (sw_app (sw_cons (t1_ (al_ (al_ (al_ (t4_ (t4_ (t1_ (t1_ (t1_ h1_))))))))) (sw_cons (t1_ (al_ (al_ (al_ (t4_ (t4_ (t4_ h1_))))))) sw_nil)) (fun _ h => (t1_ (ar_ h))))) (by decide +kernel)
set_option maxRecDepth 20000 in
theorem gX9_best_X6_isMeeter : GoodIn wsX9_best (wsV RX9 126 RX6 yX6_isMeeter wsX6_isMeeter) := goodIn_app (sw_good (sw_cons (t1_ (al_ (al_ (al_ (t4_ (t1_ (t1_ h1_))))))) (sw_cons (t1_ (al_ (al_ (al_ (t4_ (t1_ (t1_ (t1_ h1_)))))))) (sw_cons (t1_ (al_ (al_ (al_ (t4_ (t4_ h1_)))))) (sw_cons (t1_ (al_ (al_ (al_ (t4_ (t4_ (t1_ h1_))))))) sw_nil)))) (by decide +kernel)) ggX9_best_X6_isMeeter
set_option maxRecDepth 20000 in
theorem ggX9_best_X9_priceOf : GoodIn wsX9_best wsX9_priceOf := sw_good (sw_cons (t1_ (al_ (al_ (al_ (t16_ h1_))))) (sw_app (sw_app (sw_cons (t1_ (al_ (al_ (al_ h1_)))) (sw_cons (t1_ (al_ (al_ (al_ (t16_ (t1_ h1_)))))) (sw_cons (t1_ (al_ (al_ (al_ (t16_ (t1_ (t1_ h1_))))))) (sw_cons (t1_ (al_ (al_ (al_ (t16_ (t1_ (t1_ (t1_ h1_)))))))) (sw_cons (t1_ (al_ (al_ (al_ (t16_ (t4_ h1_)))))) (sw_cons (t1_ (al_ (al_ (al_ (t4_ h1_))))) (sw_cons (t1_ (al_ (al_ (al_ (t16_ (t4_ (t1_ h1_))))))) sw_nil))))))) (fun _ h => (t1_ (al_ (ar_ h))))) (fun _ h => (t1_ (ar_ h))))) (by decide +kernel)
set_option maxRecDepth 20000 in
theorem gX9_best_X9_priceOf : GoodIn wsX9_best (wsV RX9 129 RX9 yX9_priceOf wsX9_priceOf) := goodIn_app (sw_good (sw_cons (t1_ (al_ (al_ (al_ (t4_ (t4_ (t4_ (t1_ h1_)))))))) (sw_cons (t1_ (al_ (al_ (al_ (t4_ (t4_ (t4_ (t1_ (t1_ h1_))))))))) (sw_cons (t1_ (al_ (al_ (al_ (t4_ (t4_ (t4_ (t1_ (t1_ (t1_ h1_)))))))))) (sw_cons (t1_ (al_ (al_ (al_ (t4_ h1_))))) sw_nil)))) (by decide +kernel)) ggX9_best_X9_priceOf
set_option maxRecDepth 20000 in
theorem ggX9_best_J6_bitCount_0f7a4 : GoodIn wsX9_best wsJ6_bitCount_0f7a4 := sw_good (sw_cons (t1_ (al_ (al_ (ar_ (t1_ h1_))))) (sw_cons (t1_ (al_ (al_ (ar_ (t1_ (t1_ h1_)))))) (sw_cons (t1_ (al_ (al_ (ar_ (t1_ (t1_ (t1_ h1_))))))) (sw_cons (t1_ (al_ (al_ (ar_ (t4_ h1_))))) sw_nil)))) (by decide +kernel)
set_option maxRecDepth 20000 in
theorem gX9_best_J6_bitCount_0f7a4 : GoodIn wsX9_best (va_wsS RX9 133 yJ6_bitCount_0f7a4 wsJ6_bitCount_0f7a4) := goodIn_app (sw_good (sw_cons (t1_ (al_ (al_ (al_ (t16_ (t4_ (t1_ (t1_ h1_)))))))) (sw_cons (t1_ (al_ (al_ (al_ (t16_ (t4_ (t1_ (t1_ (t1_ h1_))))))))) (sw_cons (t1_ (al_ (al_ (ar_ h1_)))) sw_nil))) (by decide +kernel)) ggX9_best_J6_bitCount_0f7a4
theorem dX9_best_0 : decode cX9_best 0 = .ok (.iload_n 1, 1) := by decide +kernel
theorem dX9_best_1 : decode cX9_best 1 = .ok (.invokestatic 123, 3) := by decide +kernel
theorem dX9_best_4 : decode cX9_best 4 = .ok (.ifCond .ne 6, 3) := by decide +kernel
theorem dX9_best_7 : decode cX9_best 7 = .ok (.bipush (-2), 2) := by decide +kernel
theorem dX9_best_9 : decode cX9_best 9 = .ok (.ireturn, 1) := by decide +kernel
theorem dX9_best_10 : decode cX9_best 10 = .ok (.iconst (-1), 1) := by decide +kernel
theorem dX9_best_11 : decode cX9_best 11 = .ok (.istore_n 2, 1) := by decide +kernel
theorem dX9_best_12 : decode cX9_best 12 = .ok (.iconst 0, 1) := by decide +kernel
theorem dX9_best_13 : decode cX9_best 13 = .ok (.istore_n 3, 1) := by decide +kernel
theorem dX9_best_14 : decode cX9_best 14 = .ok (.iconst 0, 1) := by decide +kernel
theorem dX9_best_15 : decode cX9_best 15 = .ok (.istore 4, 2) := by decide +kernel
theorem dX9_best_17 : decode cX9_best 17 = .ok (.iconst 0, 1) := by decide +kernel
theorem dX9_best_18 : decode cX9_best 18 = .ok (.istore 5, 2) := by decide +kernel
theorem dX9_best_20 : decode cX9_best 20 = .ok (.iload 5, 2) := by decide +kernel
theorem dX9_best_22 : decode cX9_best 22 = .ok (.aload_n 0, 1) := by decide +kernel
theorem dX9_best_23 : decode cX9_best 23 = .ok (.getfield 23, 3) := by decide +kernel
theorem dX9_best_26 : decode cX9_best 26 = .ok (.getfield 117, 3) := by decide +kernel
theorem dX9_best_29 : decode cX9_best 29 = .ok (.if_icmp .ge 81, 3) := by decide +kernel
theorem dX9_best_32 : decode cX9_best 32 = .ok (.aload_n 0, 1) := by decide +kernel
theorem dX9_best_33 : decode cX9_best 33 = .ok (.getfield 23, 3) := by decide +kernel
theorem dX9_best_36 : decode cX9_best 36 = .ok (.iload 5, 2) := by decide +kernel
theorem dX9_best_38 : decode cX9_best 38 = .ok (.invokevirtual 126, 3) := by decide +kernel
theorem dX9_best_41 : decode cX9_best 41 = .ok (.ifCond .ne 6, 3) := by decide +kernel
theorem dX9_best_44 : decode cX9_best 44 = .ok (.goto 60, 3) := by decide +kernel
theorem dX9_best_47 : decode cX9_best 47 = .ok (.iload_n 1, 1) := by decide +kernel
theorem dX9_best_48 : decode cX9_best 48 = .ok (.ifCond .ne 7, 3) := by decide +kernel
theorem dX9_best_51 : decode cX9_best 51 = .ok (.iconst 0, 1) := by decide +kernel
theorem dX9_best_52 : decode cX9_best 52 = .ok (.goto 9, 3) := by decide +kernel
theorem dX9_best_55 : decode cX9_best 55 = .ok (.aload_n 0, 1) := by decide +kernel
theorem dX9_best_56 : decode cX9_best 56 = .ok (.iload 5, 2) := by decide +kernel
theorem dX9_best_58 : decode cX9_best 58 = .ok (.invokevirtual 129, 3) := by decide +kernel
theorem dX9_best_61 : decode cX9_best 61 = .ok (.istore 6, 2) := by decide +kernel
theorem dX9_best_63 : decode cX9_best 63 = .ok (.iload 5, 2) := by decide +kernel
theorem dX9_best_65 : decode cX9_best 65 = .ok (.invokestatic 133, 3) := by decide +kernel
theorem dX9_best_68 : decode cX9_best 68 = .ok (.istore 7, 2) := by decide +kernel
theorem dX9_best_70 : decode cX9_best 70 = .ok (.iload_n 2, 1) := by decide +kernel
theorem dX9_best_71 : decode cX9_best 71 = .ok (.iconst (-1), 1) := by decide +kernel
theorem dX9_best_72 : decode cX9_best 72 = .ok (.if_icmp .eq 22, 3) := by decide +kernel
theorem dX9_best_75 : decode cX9_best 75 = .ok (.iload 6, 2) := by decide +kernel
theorem dX9_best_77 : decode cX9_best 77 = .ok (.iload_n 3, 1) := by decide +kernel
theorem dX9_best_78 : decode cX9_best 78 = .ok (.if_icmp .lt 16, 3) := by decide +kernel
theorem dX9_best_81 : decode cX9_best 81 = .ok (.iload 6, 2) := by decide +kernel
theorem dX9_best_83 : decode cX9_best 83 = .ok (.iload_n 3, 1) := by decide +kernel
theorem dX9_best_84 : decode cX9_best 84 = .ok (.if_icmp .ne 20, 3) := by decide +kernel
theorem dX9_best_87 : decode cX9_best 87 = .ok (.iload 7, 2) := by decide +kernel
theorem dX9_best_89 : decode cX9_best 89 = .ok (.iload 4, 2) := by decide +kernel
theorem dX9_best_91 : decode cX9_best 91 = .ok (.if_icmp .ge 13, 3) := by decide +kernel
theorem dX9_best_94 : decode cX9_best 94 = .ok (.iload 5, 2) := by decide +kernel
theorem dX9_best_96 : decode cX9_best 96 = .ok (.istore_n 2, 1) := by decide +kernel
theorem dX9_best_97 : decode cX9_best 97 = .ok (.iload 6, 2) := by decide +kernel
theorem dX9_best_99 : decode cX9_best 99 = .ok (.istore_n 3, 1) := by decide +kernel
theorem dX9_best_100 : decode cX9_best 100 = .ok (.iload 7, 2) := by decide +kernel
theorem dX9_best_102 : decode cX9_best 102 = .ok (.istore 4, 2) := by decide +kernel
theorem dX9_best_104 : decode cX9_best 104 = .ok (.iinc 5 1, 3) := by decide +kernel
theorem dX9_best_107 : decode cX9_best 107 = .ok (.goto (-87), 3) := by decide +kernel
theorem dX9_best_110 : decode cX9_best 110 = .ok (.iload_n 2, 1) := by decide +kernel
theorem dX9_best_111 : decode cX9_best 111 = .ok (.ireturn, 1) := by decide +kernel
set_option maxRecDepth 20000 in
theorem ggX9_other_X6_isPart : GoodIn wsX9_other wsX6_isPart := sw_good (sw_cons (t1_ (al_ (al_ (al_ (t4_ (t1_ (t1_ h1_))))))) (sw_app (sw_cons (t1_ (al_ (al_ (al_ (t4_ (t1_ (t1_ (t1_ h1_)))))))) sw_nil) (fun _ h => (t1_ (ar_ h))))) (by decide +kernel)
set_option maxRecDepth 20000 in
theorem gX9_other_X6_isPart : GoodIn wsX9_other (wsV RX9 92 RX6 yX6_isPart wsX6_isPart) := goodIn_app (sw_good (sw_cons (t1_ (al_ (al_ (al_ (t1_ (t1_ h1_)))))) (sw_cons (t1_ (al_ (al_ (al_ (t1_ (t1_ (t1_ h1_))))))) (sw_cons (t1_ (al_ (al_ (al_ (t4_ h1_))))) (sw_cons (t1_ (al_ (al_ (al_ (t4_ (t1_ h1_)))))) sw_nil)))) (by decide +kernel)) ggX9_other_X6_isPart
set_option maxRecDepth 20000 in
theorem ggX9_other_X6_holds : GoodIn wsX9_other wsX6_holds := sw_good (sw_cons (t1_ (al_ (al_ (al_ (t4_ (t4_ (t1_ (t1_ (t1_ h1_))))))))) (sw_app (sw_cons (t1_ (al_ (al_ (al_ (t4_ (t4_ (t4_ h1_))))))) (sw_cons (t1_ (al_ (al_ (al_ (t4_ (t4_ (t4_ (t1_ h1_)))))))) sw_nil)) (fun _ h => (t1_ (ar_ h))))) (by decide +kernel)
set_option maxRecDepth 20000 in
theorem gX9_other_X6_holds : GoodIn wsX9_other (wsV RX9 96 RX6 yX6_holds wsX6_holds) := goodIn_app (sw_good (sw_cons (t1_ (al_ (al_ (al_ (t4_ (t4_ h1_)))))) (sw_cons (t1_ (al_ (al_ (al_ (t4_ (t4_ (t1_ h1_))))))) (sw_cons (t1_ (al_ (al_ (al_ (t4_ (t4_ (t1_ (t1_ h1_)))))))) (sw_cons (t1_ (al_ (al_ (al_ (t4_ (t1_ h1_)))))) sw_nil)))) (by decide +kernel)) ggX9_other_X6_holds
set_option maxRecDepth 20000 in
theorem ggX9_other_X6_isFull : GoodIn wsX9_other wsX6_isFull := sw_good (sw_cons (t1_ (al_ (al_ (al_ (t16_ (t1_ h1_)))))) (sw_app (sw_cons (t1_ (al_ (al_ (al_ (t4_ (t4_ (t4_ h1_))))))) (sw_cons (t1_ (al_ (al_ (al_ (t4_ (t4_ (t4_ (t1_ h1_)))))))) sw_nil)) (fun _ h => (t1_ (ar_ h))))) (by decide +kernel)
set_option maxRecDepth 20000 in
theorem gX9_other_X6_isFull : GoodIn wsX9_other (wsV RX9 99 RX6 yX6_isFull wsX6_isFull) := goodIn_app (sw_good (sw_cons (t1_ (al_ (al_ (al_ (t4_ (t4_ (t4_ (t1_ (t1_ h1_))))))))) (sw_cons (t1_ (al_ (al_ (al_ (t4_ (t4_ (t4_ (t1_ (t1_ (t1_ h1_)))))))))) (sw_cons (t1_ (al_ (al_ (al_ (t16_ h1_))))) (sw_cons (t1_ (al_ (al_ (al_ (t4_ (t1_ h1_)))))) sw_nil)))) (by decide +kernel)) ggX9_other_X6_isFull
set_option maxRecDepth 20000 in
theorem ggX9_other_X6_append : GoodIn wsX9_other wsX6_append := sw_good (sw_cons (t1_ (al_ (al_ (al_ (t16_ (t4_ (t1_ h1_))))))) (sw_app (sw_cons (t1_ (al_ (al_ (al_ (t4_ (t4_ (t4_ (t1_ h1_)))))))) (sw_cons (t1_ (al_ (al_ (al_ (t4_ (t4_ (t4_ h1_))))))) (sw_cons (t1_ (al_ (al_ (al_ (t16_ (t4_ (t1_ (t1_ h1_)))))))) (sw_cons (t1_ (al_ (al_ (al_ (t4_ (t4_ (t4_ (t1_ (t1_ (t1_ h1_)))))))))) (sw_cons (t1_ (al_ (al_ (al_ (t16_ h1_))))) (sw_cons (t1_ (al_ (al_ (al_ (t4_ (t1_ h1_)))))) (sw_cons (t1_ (al_ (al_ (al_ (t16_ (t1_ h1_)))))) (sw_cons (t1_ (al_ (al_ (al_ (t16_ (t4_ (t1_ (t1_ (t1_ h1_))))))))) (sw_cons (t1_ (al_ (al_ (ar_ h1_)))) (sw_cons (t1_ (al_ (al_ (ar_ (t1_ h1_))))) (sw_cons (t1_ (al_ (al_ (ar_ (t1_ (t1_ h1_)))))) (sw_cons (t1_ (al_ (al_ (al_ (t4_ (t1_ (t1_ (t1_ h1_)))))))) (sw_cons (t1_ (al_ (al_ (ar_ (t1_ (t1_ (t1_ h1_))))))) sw_nil))))))))))))) (fun _ h => (t1_ (ar_ h))))) (by decide +kernel)
set_option maxRecDepth 20000 in
theorem gX9_other_X6_append : GoodIn wsX9_other (wsV RX9 103 RX6 yX6_append wsX6_append) := goodIn_app (sw_good (sw_cons (t1_ (al_ (al_ (al_ (t16_ (t1_ (t1_ h1_))))))) (sw_cons (t1_ (al_ (al_ (al_ (t16_ (t1_ (t1_ (t1_ h1_)))))))) (sw_cons (t1_ (al_ (al_ (al_ (t16_ (t4_ h1_)))))) (sw_cons (t1_ (al_ (al_ (al_ (t4_ (t1_ h1_)))))) sw_nil)))) (by decide +kernel)) ggX9_other_X6_append
theorem dX9_other_0 : decode cX9_other 0 = .ok (.aload_n 0, 1) := by decide +kernel
theorem dX9_other_1 : decode cX9_other 1 = .ok (.getfield 27, 3) := by decide +kernel
theorem dX9_other_4 : decode cX9_other 4 = .ok (.iload_n 1, 1) := by decide +kernel
theorem dX9_other_5 : decode cX9_other 5 = .ok (.invokevirtual 92, 3) := by decide +kernel
theorem dX9_other_8 : decode cX9_other 8 = .ok (.ifCond .eq 14, 3) := by decide +kernel
theorem dX9_other_11 : decode cX9_other 11 = .ok (.aload_n 0, 1) := by decide +kernel
theorem dX9_other_12 : decode cX9_other 12 = .ok (.getfield 27, 3) := by decide +kernel
theorem dX9_other_15 : decode cX9_other 15 = .ok (.iload_n 1, 1) := by decide +kernel
theorem dX9_other_16 : decode cX9_other 16 = .ok (.invokevirtual 96, 3) := by decide +kernel
theorem dX9_other_19 : decode cX9_other 19 = .ok (.ifCond .eq 6, 3) := by decide +kernel
theorem dX9_other_22 : decode cX9_other 22 = .ok (.bipush (-2), 2) := by decide +kernel
theorem dX9_other_24 : decode cX9_other 24 = .ok (.ireturn, 1) := by decide +kernel
theorem dX9_other_25 : decode cX9_other 25 = .ok (.aload_n 0, 1) := by decide +kernel
theorem dX9_other_26 : decode cX9_other 26 = .ok (.getfield 27, 3) := by decide +kernel
theorem dX9_other_29 : decode cX9_other 29 = .ok (.invokevirtual 99, 3) := by decide +kernel
theorem dX9_other_32 : decode cX9_other 32 = .ok (.ifCond .eq 6, 3) := by decide +kernel
theorem dX9_other_35 : decode cX9_other 35 = .ok (.bipush (-4), 2) := by decide +kernel
theorem dX9_other_37 : decode cX9_other 37 = .ok (.ireturn, 1) := by decide +kernel
theorem dX9_other_38 : decode cX9_other 38 = .ok (.aload_n 0, 1) := by decide +kernel
theorem dX9_other_39 : decode cX9_other 39 = .ok (.getfield 27, 3) := by decide +kernel
theorem dX9_other_42 : decode cX9_other 42 = .ok (.iload_n 1, 1) := by decide +kernel
theorem dX9_other_43 : decode cX9_other 43 = .ok (.invokevirtual 103, 3) := by decide +kernel
theorem dX9_other_46 : decode cX9_other 46 = .ok (.aload_n 0, 1) := by decide +kernel
theorem dX9_other_47 : decode cX9_other 47 = .ok (.getfield 27, 3) := by decide +kernel
theorem dX9_other_50 : decode cX9_other 50 = .ok (.getfield 106, 3) := by decide +kernel
theorem dX9_other_53 : decode cX9_other 53 = .ok (.ireturn, 1) := by decide +kernel
set_option maxRecDepth 20000 in
theorem ggX9_otherless_X6_clearFor : GoodIn wsX9_otherless wsX6_clearFor := sw_good (sw_cons (t1_ (al_ (al_ (t4_ (t4_ h1_))))) (sw_app (sw_cons (t1_ (al_ (al_ (t4_ (t4_ (t1_ h1_)))))) (sw_cons (t1_ (al_ (al_ (t4_ (t4_ (t1_ (t1_ h1_))))))) (sw_cons (t1_ (al_ (al_ (t4_ (t4_ (t1_ (t1_ (t1_ h1_)))))))) (sw_cons (t1_ (al_ (al_ (t4_ (t4_ (t4_ h1_)))))) (sw_cons (t1_ (al_ (al_ (t4_ (t4_ (t4_ (t1_ h1_))))))) (sw_cons (t1_ (al_ (al_ (t4_ (t4_ (t4_ (t1_ (t1_ h1_)))))))) (sw_cons (t1_ (al_ (al_ (t4_ (t4_ (t4_ (t1_ (t1_ (t1_ h1_))))))))) (sw_cons (t1_ (al_ (al_ (t16_ h1_)))) sw_nil)))))))) (fun _ h => (t1_ (ar_ h))))) (by decide +kernel)
set_option maxRecDepth 20000 in
theorem gX9_otherless_X6_clearFor : GoodIn wsX9_otherless (wsV RX9 88 RX6 yX6_clearFor wsX6_clearFor) := goodIn_app (sw_good (sw_cons (t1_ (al_ (al_ (t4_ h1_)))) (sw_cons (t1_ (al_ (al_ (t4_ (t1_ h1_))))) (sw_cons (t1_ (al_ (al_ (t4_ (t1_ (t1_ h1_)))))) (sw_cons (t1_ (al_ (al_ (t4_ (t1_ (t1_ (t1_ h1_))))))) sw_nil)))) (by decide +kernel)) ggX9_otherless_X6_clearFor
theorem dX9_otherless_0 : decode cX9_otherless 0 = .ok (.aload_n 0, 1) := by decide +kernel
theorem dX9_otherless_1 : decode cX9_otherless 1 = .ok (.getfield 27, 3) := by decide +kernel
theorem dX9_otherless_4 : decode cX9_otherless 4 = .ok (.getfield 106, 3) := by decide +kernel
theorem dX9_otherless_7 : decode cX9_otherless 7 = .ok (.istore_n 1, 1) := by decide +kernel
theorem dX9_otherless_8 : decode cX9_otherless 8 = .ok (.aload_n 0, 1) := by decide +kernel
theorem dX9_otherless_9 : decode cX9_otherless 9 = .ok (.getfield 27, 3) := by decide +kernel
theorem dX9_otherless_12 : decode cX9_otherless 12 = .ok (.aload_n 0, 1) := by decide +kernel
theorem dX9_otherless_13 : decode cX9_otherless 13 = .ok (.getfield 23, 3) := by decide +kernel
theorem dX9_otherless_16 : decode cX9_otherless 16 = .ok (.getfield 138, 3) := by decide +kernel
theorem dX9_otherless_19 : decode cX9_otherless 19 = .ok (.invokevirtual 88, 3) := by decide +kernel
theorem dX9_otherless_22 : decode cX9_otherless 22 = .ok (.iload_n 1, 1) := by decide +kernel
theorem dX9_otherless_23 : decode cX9_otherless 23 = .ok (.ireturn, 1) := by decide +kernel
set_option maxRecDepth 20000 in
theorem ggX9_take_X9_meeters : GoodIn wsX9_take wsX9_meeters := sw_good (sw_cons (t1_ (al_ (al_ (al_ (t4_ (t4_ h1_)))))) (sw_app (sw_app (sw_cons (t1_ (al_ (al_ (al_ (t1_ h1_))))) (sw_cons (t1_ (al_ (al_ (al_ (t1_ (t1_ (t1_ h1_))))))) (sw_cons (t1_ (al_ (al_ (al_ (t4_ (t4_ (t1_ h1_))))))) (sw_cons (t1_ (al_ (al_ (al_ (t4_ (t4_ (t1_ (t1_ h1_)))))))) (sw_cons (t1_ (al_ (al_ (al_ (t4_ (t4_ (t1_ (t1_ (t1_ h1_))))))))) (sw_cons (t1_ (al_ (al_ (al_ (t4_ (t4_ (t4_ h1_))))))) (sw_cons (t1_ (al_ (al_ (al_ (t4_ (t4_ (t4_ (t1_ h1_)))))))) (sw_cons (t1_ (al_ (al_ (al_ (t4_ (t4_ (t4_ (t1_ (t1_ h1_))))))))) (sw_cons (t1_ (al_ (al_ (al_ (t4_ (t4_ (t4_ (t1_ (t1_ (t1_ h1_)))))))))) (sw_cons (t1_ (al_ (al_ (al_ (t16_ h1_))))) (sw_cons (t1_ (al_ (al_ (al_ (t16_ (t1_ h1_)))))) (sw_cons (t1_ (al_ (al_ (al_ (t16_ (t1_ (t1_ h1_))))))) (sw_cons (t1_ (al_ (al_ (al_ (t16_ (t1_ (t1_ (t1_ h1_)))))))) (sw_cons (t1_ (al_ (al_ (al_ (t16_ (t4_ h1_)))))) (sw_cons (t1_ (al_ (al_ (al_ (t16_ (t4_ (t1_ h1_))))))) (sw_cons (t1_ (al_ (al_ (al_ (t4_ (t1_ (t1_ (t1_ h1_)))))))) (sw_cons (t1_ (al_ (al_ (al_ (t16_ (t4_ (t1_ (t1_ h1_)))))))) sw_nil))))))))))))))))) (fun _ h => (t1_ (al_ (ar_ h))))) (fun _ h => (t1_ (ar_ h))))) (by decide +kernel)
set_option maxRecDepth 20000 in
theorem gX9_take_X9_meeters : GoodIn wsX9_take (wsV RX9 141 RX9 yX9_meeters wsX9_meeters) := goodIn_app (sw_good (sw_cons (t1_ (al_ (al_ (al_ (t4_ h1_))))) (sw_cons (t1_ (al_ (al_ (al_ (t4_ (t1_ h1_)))))) (sw_cons (t1_ (al_ (al_ (al_ (t4_ (t1_ (t1_ h1_))))))) (sw_cons (t1_ (al_ (al_ (al_ (t4_ (t1_ (t1_ (t1_ h1_)))))))) sw_nil)))) (by decide +kernel)) ggX9_take_X9_meeters
set_option maxRecDepth 20000 in
theorem ggX9_take_X6_clearFor : GoodIn wsX9_take wsX6_clearFor := sw_good (sw_cons (t1_ (al_ (al_ (ar_ (t1_ (t1_ h1_)))))) (sw_app (sw_cons (t1_ (al_ (al_ (ar_ (t1_ (t1_ (t1_ h1_))))))) (sw_cons (t1_ (al_ (al_ (al_ (t4_ (t4_ (t4_ (t1_ (t1_ h1_))))))))) (sw_cons (t1_ (al_ (al_ (al_ (t16_ (t4_ h1_)))))) (sw_cons (t1_ (al_ (al_ (al_ (t16_ (t1_ (t1_ (t1_ h1_)))))))) (sw_cons (t1_ (al_ (al_ (ar_ (t4_ h1_))))) (sw_cons (t1_ (al_ (al_ (ar_ (t4_ (t1_ h1_)))))) (sw_cons (t1_ (al_ (al_ (ar_ (t4_ (t1_ (t1_ h1_))))))) (sw_cons (t1_ (al_ (al_ (ar_ (t4_ (t1_ (t1_ (t1_ h1_)))))))) sw_nil)))))))) (fun _ h => (t1_ (ar_ h))))) (by decide +kernel)
set_option maxRecDepth 20000 in
theorem gX9_take_X6_clearFor : GoodIn wsX9_take (wsV RX9 88 RX6 yX6_clearFor wsX6_clearFor) := goodIn_app (sw_good (sw_cons (t1_ (al_ (al_ (al_ (t16_ (t4_ (t1_ (t1_ (t1_ h1_))))))))) (sw_cons (t1_ (al_ (al_ (ar_ h1_)))) (sw_cons (t1_ (al_ (al_ (ar_ (t1_ h1_))))) (sw_cons (t1_ (al_ (al_ (al_ (t4_ (t4_ (t4_ h1_))))))) sw_nil)))) (by decide +kernel)) ggX9_take_X6_clearFor
set_option maxRecDepth 20000 in
theorem ggX9_take_X6_isLeastMeeter : GoodIn wsX9_take wsX6_isLeastMeeter := sw_good (sw_cons (t1_ (al_ (al_ (al_ (t4_ (t4_ (t4_ (t1_ h1_)))))))) (sw_app (sw_cons (t1_ (al_ (al_ (al_ (t4_ (t4_ (t4_ (t1_ (t1_ h1_))))))))) (sw_cons (t1_ (al_ (al_ (al_ (t4_ (t4_ (t4_ (t1_ (t1_ (t1_ h1_)))))))))) (sw_cons (t1_ (al_ (al_ (al_ (t16_ h1_))))) (sw_cons (t1_ (al_ (al_ (al_ (t16_ (t1_ h1_)))))) (sw_cons (t1_ (al_ (al_ (al_ (t4_ (t4_ (t4_ h1_))))))) (sw_cons (t1_ (al_ (al_ (al_ (t16_ (t1_ (t1_ h1_))))))) (sw_cons (t1_ (al_ (al_ (al_ (t16_ (t1_ (t1_ (t1_ h1_)))))))) (sw_cons (t1_ (al_ (al_ (al_ (t16_ (t4_ h1_)))))) (sw_cons (t1_ (al_ (al_ (al_ (t16_ (t4_ (t1_ h1_))))))) (sw_cons (t1_ (al_ (al_ (al_ (t4_ (t1_ (t1_ (t1_ h1_)))))))) (sw_cons (t1_ (al_ (al_ (al_ (t16_ (t4_ (t1_ (t1_ h1_)))))))) sw_nil))))))))))) (fun _ h => (t1_ (ar_ h))))) (by decide +kernel)
set_option maxRecDepth 20000 in
theorem gX9_take_X6_isLeastMeeter : GoodIn wsX9_take (wsV RX9 120 RX6 yX6_isLeastMeeter wsX6_isLeastMeeter) := goodIn_app (sw_good (sw_cons (t1_ (al_ (al_ (al_ (t4_ (t4_ (t1_ h1_))))))) (sw_cons (t1_ (al_ (al_ (al_ (t4_ (t4_ (t1_ (t1_ h1_)))))))) (sw_cons (t1_ (al_ (al_ (al_ (t4_ (t4_ (t1_ (t1_ (t1_ h1_))))))))) (sw_cons (t1_ (al_ (al_ (al_ (t4_ (t4_ (t4_ h1_))))))) sw_nil)))) (by decide +kernel)) ggX9_take_X6_isLeastMeeter
set_option maxRecDepth 20000 in
theorem ggX9_take_X6_append : GoodIn wsX9_take wsX6_append := sw_good (sw_cons (t1_ (al_ (al_ (ar_ (t4_ (t4_ (t1_ (t1_ (t1_ h1_))))))))) (sw_app (sw_cons (t1_ (al_ (al_ (ar_ (t4_ (t4_ (t4_ h1_))))))) (sw_cons (t1_ (al_ (al_ (ar_ (t1_ (t1_ (t1_ h1_))))))) (sw_cons (t1_ (al_ (al_ (ar_ (t4_ (t4_ (t4_ (t1_ h1_)))))))) (sw_cons (t1_ (al_ (al_ (ar_ (t4_ (t4_ (t4_ (t1_ (t1_ h1_))))))))) (sw_cons (t1_ (al_ (al_ (ar_ (t4_ (t4_ (t4_ (t1_ (t1_ (t1_ h1_)))))))))) (sw_cons (t1_ (al_ (al_ (al_ (t4_ (t4_ (t4_ h1_))))))) (sw_cons (t1_ (al_ (al_ (ar_ (t16_ h1_))))) (sw_cons (t1_ (al_ (al_ (ar_ (t16_ (t1_ h1_)))))) (sw_cons (t1_ (al_ (al_ (ar_ (t16_ (t1_ (t1_ h1_))))))) (sw_cons (t1_ (al_ (al_ (ar_ (t16_ (t1_ (t1_ (t1_ h1_)))))))) (sw_cons (t1_ (al_ (al_ (ar_ (t16_ (t4_ h1_)))))) (sw_cons (t1_ (al_ (al_ (al_ (t16_ (t4_ h1_)))))) (sw_cons (t1_ (al_ (al_ (al_ (t16_ (t1_ (t1_ (t1_ h1_)))))))) sw_nil))))))))))))) (fun _ h => (t1_ (ar_ h))))) (by decide +kernel)
set_option maxRecDepth 20000 in
theorem gX9_take_X6_append : GoodIn wsX9_take (wsV RX9 103 RX6 yX6_append wsX6_append) := goodIn_app (sw_good (sw_cons (t1_ (al_ (al_ (ar_ (t4_ (t4_ h1_)))))) (sw_cons (t1_ (al_ (al_ (ar_ (t4_ (t4_ (t1_ h1_))))))) (sw_cons (t1_ (al_ (al_ (ar_ (t4_ (t4_ (t1_ (t1_ h1_)))))))) (sw_cons (t1_ (al_ (al_ (al_ (t4_ (t4_ (t4_ h1_))))))) sw_nil)))) (by decide +kernel)) ggX9_take_X6_append
theorem dX9_take_0 : decode cX9_take 0 = .ok (.aload_n 0, 1) := by decide +kernel
theorem dX9_take_1 : decode cX9_take 1 = .ok (.invokevirtual 141, 3) := by decide +kernel
theorem dX9_take_4 : decode cX9_take 4 = .ok (.istore_n 1, 1) := by decide +kernel
theorem dX9_take_5 : decode cX9_take 5 = .ok (.iload_n 1, 1) := by decide +kernel
theorem dX9_take_6 : decode cX9_take 6 = .ok (.bipush 40, 2) := by decide +kernel
theorem dX9_take_8 : decode cX9_take 8 = .ok (.if_icmp .le 6, 3) := by decide +kernel
theorem dX9_take_11 : decode cX9_take 11 = .ok (.bipush (-3), 2) := by decide +kernel
theorem dX9_take_13 : decode cX9_take 13 = .ok (.ireturn, 1) := by decide +kernel
theorem dX9_take_14 : decode cX9_take 14 = .ok (.aload_n 0, 1) := by decide +kernel
theorem dX9_take_15 : decode cX9_take 15 = .ok (.getfield 27, 3) := by decide +kernel
theorem dX9_take_18 : decode cX9_take 18 = .ok (.aload_n 0, 1) := by decide +kernel
theorem dX9_take_19 : decode cX9_take 19 = .ok (.getfield 23, 3) := by decide +kernel
theorem dX9_take_22 : decode cX9_take 22 = .ok (.getfield 138, 3) := by decide +kernel
theorem dX9_take_25 : decode cX9_take 25 = .ok (.invokevirtual 88, 3) := by decide +kernel
theorem dX9_take_28 : decode cX9_take 28 = .ok (.iconst 0, 1) := by decide +kernel
theorem dX9_take_29 : decode cX9_take 29 = .ok (.istore_n 2, 1) := by decide +kernel
theorem dX9_take_30 : decode cX9_take 30 = .ok (.iload_n 2, 1) := by decide +kernel
theorem dX9_take_31 : decode cX9_take 31 = .ok (.aload_n 0, 1) := by decide +kernel
theorem dX9_take_32 : decode cX9_take 32 = .ok (.getfield 23, 3) := by decide +kernel
theorem dX9_take_35 : decode cX9_take 35 = .ok (.getfield 117, 3) := by decide +kernel
theorem dX9_take_38 : decode cX9_take 38 = .ok (.if_icmp .ge 28, 3) := by decide +kernel
theorem dX9_take_41 : decode cX9_take 41 = .ok (.aload_n 0, 1) := by decide +kernel
theorem dX9_take_42 : decode cX9_take 42 = .ok (.getfield 23, 3) := by decide +kernel
theorem dX9_take_45 : decode cX9_take 45 = .ok (.iload_n 2, 1) := by decide +kernel
theorem dX9_take_46 : decode cX9_take 46 = .ok (.invokevirtual 120, 3) := by decide +kernel
theorem dX9_take_49 : decode cX9_take 49 = .ok (.ifCond .eq 11, 3) := by decide +kernel
theorem dX9_take_52 : decode cX9_take 52 = .ok (.aload_n 0, 1) := by decide +kernel
theorem dX9_take_53 : decode cX9_take 53 = .ok (.getfield 27, 3) := by decide +kernel
theorem dX9_take_56 : decode cX9_take 56 = .ok (.iload_n 2, 1) := by decide +kernel
theorem dX9_take_57 : decode cX9_take 57 = .ok (.invokevirtual 103, 3) := by decide +kernel
theorem dX9_take_60 : decode cX9_take 60 = .ok (.iinc 2 1, 3) := by decide +kernel
theorem dX9_take_63 : decode cX9_take 63 = .ok (.goto (-33), 3) := by decide +kernel
theorem dX9_take_66 : decode cX9_take 66 = .ok (.iload_n 1, 1) := by decide +kernel
theorem dX9_take_67 : decode cX9_take 67 = .ok (.ireturn, 1) := by decide +kernel
set_option maxRecDepth 20000 in
theorem ggX9_witness_X6_hasSetIn : GoodIn wsX9_witness wsX6_hasSetIn := sw_good (sw_cons (t1_ (al_ (al_ (t4_ (t1_ (t1_ (t1_ h1_))))))) (sw_app (sw_cons (t1_ (al_ (al_ (t4_ (t4_ h1_))))) sw_nil) (fun _ h => (t1_ (ar_ h))))) (by decide +kernel)
set_option maxRecDepth 20000 in
theorem gX9_witness_X6_hasSetIn : GoodIn wsX9_witness (wsV RX9 144 RX6 yX6_hasSetIn wsX6_hasSetIn) := goodIn_app (sw_good (sw_cons (t1_ (al_ (al_ (t1_ (t1_ (t1_ h1_)))))) (sw_cons (t1_ (al_ (al_ (t4_ h1_)))) (sw_cons (t1_ (al_ (al_ (t4_ (t1_ h1_))))) (sw_cons (t1_ (al_ (al_ (t4_ (t1_ (t1_ h1_)))))) sw_nil)))) (by decide +kernel)) ggX9_witness_X6_hasSetIn
theorem dX9_witness_0 : decode cX9_witness 0 = .ok (.aload_n 0, 1) := by decide +kernel
theorem dX9_witness_1 : decode cX9_witness 1 = .ok (.getfield 23, 3) := by decide +kernel
theorem dX9_witness_4 : decode cX9_witness 4 = .ok (.getfield 117, 3) := by decide +kernel
theorem dX9_witness_7 : decode cX9_witness 7 = .ok (.iconst 1, 1) := by decide +kernel
theorem dX9_witness_8 : decode cX9_witness 8 = .ok (.isub, 1) := by decide +kernel
theorem dX9_witness_9 : decode cX9_witness 9 = .ok (.istore_n 1, 1) := by decide +kernel
theorem dX9_witness_10 : decode cX9_witness 10 = .ok (.iconst 0, 1) := by decide +kernel
theorem dX9_witness_11 : decode cX9_witness 11 = .ok (.istore_n 2, 1) := by decide +kernel
theorem dX9_witness_12 : decode cX9_witness 12 = .ok (.iload_n 2, 1) := by decide +kernel
theorem dX9_witness_13 : decode cX9_witness 13 = .ok (.aload_n 0, 1) := by decide +kernel
theorem dX9_witness_14 : decode cX9_witness 14 = .ok (.getfield 23, 3) := by decide +kernel
theorem dX9_witness_17 : decode cX9_witness 17 = .ok (.getfield 117, 3) := by decide +kernel
theorem dX9_witness_20 : decode cX9_witness 20 = .ok (.if_icmp .ge 32, 3) := by decide +kernel
theorem dX9_witness_23 : decode cX9_witness 23 = .ok (.aload_n 0, 1) := by decide +kernel
theorem dX9_witness_24 : decode cX9_witness 24 = .ok (.getfield 23, 3) := by decide +kernel
theorem dX9_witness_27 : decode cX9_witness 27 = .ok (.iload_n 2, 1) := by decide +kernel
theorem dX9_witness_28 : decode cX9_witness 28 = .ok (.invokevirtual 144, 3) := by decide +kernel
theorem dX9_witness_31 : decode cX9_witness 31 = .ok (.aload_n 0, 1) := by decide +kernel
theorem dX9_witness_32 : decode cX9_witness 32 = .ok (.getfield 27, 3) := by decide +kernel
theorem dX9_witness_35 : decode cX9_witness 35 = .ok (.iload_n 1, 1) := by decide +kernel
theorem dX9_witness_36 : decode cX9_witness 36 = .ok (.iload_n 2, 1) := by decide +kernel
theorem dX9_witness_37 : decode cX9_witness 37 = .ok (.ixor, 1) := by decide +kernel
theorem dX9_witness_38 : decode cX9_witness 38 = .ok (.invokevirtual 144, 3) := by decide +kernel
theorem dX9_witness_41 : decode cX9_witness 41 = .ok (.if_icmp .ne 5, 3) := by decide +kernel
theorem dX9_witness_44 : decode cX9_witness 44 = .ok (.iload_n 2, 1) := by decide +kernel
theorem dX9_witness_45 : decode cX9_witness 45 = .ok (.ireturn, 1) := by decide +kernel
theorem dX9_witness_46 : decode cX9_witness 46 = .ok (.iinc 2 1, 3) := by decide +kernel
theorem dX9_witness_49 : decode cX9_witness 49 = .ok (.goto (-37), 3) := by decide +kernel
theorem dX9_witness_52 : decode cX9_witness 52 = .ok (.iconst (-1), 1) := by decide +kernel
theorem dX9_witness_53 : decode cX9_witness 53 = .ok (.ireturn, 1) := by decide +kernel
set_option maxRecDepth 20000 in
theorem ggX9_shares_X7_solve : GoodIn wsX9_shares wsX7_solve := sw_good (sw_cons (t1_ (al_ (al_ (al_ (al_ (al_ (t4_ (t4_ h1_)))))))) (sw_app (sw_app (sw_app (sw_cons (t1_ (al_ (al_ (al_ (al_ (al_ (t4_ (t4_ (t1_ h1_))))))))) (sw_cons (t1_ (al_ (al_ (al_ (al_ (al_ (t4_ (t4_ (t1_ (t1_ h1_)))))))))) (sw_cons (t1_ (al_ (al_ (al_ (al_ (al_ (t4_ (t4_ (t1_ (t1_ (t1_ h1_))))))))))) (sw_cons (t1_ (al_ (al_ (al_ (al_ (al_ (t4_ (t4_ (t4_ h1_))))))))) (sw_cons (t1_ (al_ (al_ (al_ (al_ (al_ (t4_ (t1_ (t1_ (t1_ h1_)))))))))) (sw_cons (t1_ (al_ (al_ (al_ (al_ (al_ (t4_ (t4_ (t4_ (t1_ h1_)))))))))) (sw_cons (t1_ (al_ (al_ (al_ (al_ (al_ (t4_ (t4_ (t4_ (t1_ (t1_ h1_))))))))))) (sw_cons (t1_ (al_ (al_ (al_ (al_ (al_ (t4_ (t4_ (t4_ (t1_ (t1_ (t1_ h1_)))))))))))) (sw_cons (t1_ (al_ (al_ (al_ (al_ (al_ (t16_ h1_))))))) (sw_cons (t1_ (al_ (al_ (al_ (al_ (al_ (t16_ (t1_ h1_)))))))) (sw_cons (t1_ (al_ (al_ (al_ (al_ (al_ (t16_ (t1_ (t1_ h1_))))))))) (sw_cons (t1_ (al_ (al_ (al_ (al_ (al_ (t16_ (t1_ (t1_ (t1_ h1_)))))))))) (sw_cons (t1_ (al_ (al_ (al_ (al_ (al_ (t16_ (t4_ h1_)))))))) (sw_cons (t1_ (al_ (al_ (al_ (al_ (al_ (t16_ (t4_ (t1_ h1_))))))))) (sw_cons (t1_ (al_ (al_ (al_ (al_ (al_ (t16_ (t4_ (t1_ (t1_ h1_)))))))))) (sw_cons (t1_ (al_ (al_ (al_ (al_ (al_ (t16_ (t4_ (t1_ (t1_ (t1_ h1_))))))))))) (sw_cons (t1_ (al_ (al_ (al_ (al_ (ar_ (al_ h1_))))))) (sw_cons (t1_ (al_ (al_ (al_ (al_ (ar_ (al_ (t1_ h1_)))))))) (sw_cons (t1_ (al_ (al_ (al_ (al_ (ar_ (al_ (t1_ (t1_ h1_))))))))) (sw_cons (t1_ (al_ (al_ (al_ (al_ (ar_ (al_ (t1_ (t1_ (t1_ h1_)))))))))) (sw_cons (t1_ (al_ (al_ (al_ (al_ (ar_ (al_ (t4_ h1_)))))))) (sw_cons (t1_ (al_ (al_ (al_ (al_ (ar_ (al_ (t4_ (t1_ h1_))))))))) (sw_cons (t1_ (al_ (al_ (al_ (al_ (ar_ (al_ (t4_ (t1_ (t1_ h1_)))))))))) (sw_cons (t1_ (al_ (al_ (al_ (al_ (ar_ (al_ (t4_ (t1_ (t1_ (t1_ h1_))))))))))) sw_nil)))))))))))))))))))))))) (sw_cons (t1_ (al_ (al_ (al_ (al_ (ar_ (al_ (t4_ (t4_ h1_))))))))) (sw_cons (t1_ (al_ (al_ (al_ (al_ (ar_ (al_ (t4_ (t4_ (t1_ h1_)))))))))) (sw_cons (t1_ (al_ (al_ (al_ (al_ (ar_ (al_ (t4_ (t4_ (t1_ (t1_ h1_))))))))))) (sw_cons (t1_ (al_ (al_ (al_ (al_ (ar_ (al_ (t4_ (t4_ (t1_ (t1_ (t1_ h1_)))))))))))) (sw_cons (t1_ (al_ (al_ (al_ (al_ (ar_ (al_ (t4_ (t4_ (t4_ h1_)))))))))) (sw_cons (t1_ (al_ (al_ (al_ (al_ (ar_ (al_ (t4_ (t4_ (t4_ (t1_ h1_))))))))))) (sw_cons (t1_ (al_ (al_ (al_ (al_ (ar_ (al_ (t4_ (t4_ (t4_ (t1_ (t1_ h1_)))))))))))) (sw_cons (t1_ (al_ (al_ (al_ (al_ (ar_ (al_ (t4_ (t4_ (t4_ (t1_ (t1_ (t1_ h1_))))))))))))) (sw_cons (t1_ (al_ (al_ (al_ (al_ (ar_ (al_ (t16_ h1_)))))))) (sw_cons (t1_ (al_ (al_ (al_ (al_ (ar_ (al_ (t16_ (t1_ h1_))))))))) (sw_cons (t1_ (al_ (al_ (al_ (al_ (ar_ (al_ (t16_ (t1_ (t1_ h1_)))))))))) (sw_cons (t1_ (al_ (al_ (al_ (al_ (ar_ (al_ (t16_ (t1_ (t1_ (t1_ h1_))))))))))) (sw_cons (t1_ (al_ (al_ (al_ (al_ (ar_ (al_ (t16_ (t4_ h1_))))))))) (sw_cons (t1_ (al_ (al_ (al_ (al_ (ar_ (al_ (t16_ (t4_ (t1_ h1_)))))))))) (sw_cons (t1_ (al_ (al_ (al_ (al_ (ar_ (al_ (t16_ (t4_ (t1_ (t1_ h1_))))))))))) sw_nil)))))))))))))))) (fun _ h => (t1_ (al_ (al_ (ar_ h)))))) (fun _ h => (t1_ (al_ (ar_ h)))))) (by decide +kernel)
set_option maxRecDepth 20000 in
theorem gX9_shares_X7_solve : GoodIn wsX9_shares (wsV RX9 147 RX7 yX7_solve wsX7_solve) := goodIn_app (sw_good (sw_cons (t1_ (al_ (al_ (al_ (al_ (al_ (t4_ h1_))))))) (sw_cons (t1_ (al_ (al_ (al_ (al_ (al_ (t4_ (t1_ h1_)))))))) (sw_cons (t1_ (al_ (al_ (al_ (al_ (al_ (t4_ (t1_ (t1_ h1_))))))))) (sw_cons (t1_ (al_ (al_ (al_ (al_ (al_ (t4_ (t1_ (t1_ (t1_ h1_)))))))))) sw_nil)))) (by decide +kernel)) ggX9_shares_X7_solve
set_option maxRecDepth 20000 in
theorem ggX9_shares_X7_above : GoodIn wsX9_shares wsX7_above := sw_good (sw_cons (t1_ (al_ (al_ (al_ (al_ (ar_ (ar_ (t1_ (t1_ h1_))))))))) (sw_app (sw_cons (t1_ (al_ (al_ (al_ (al_ (al_ (t16_ (t4_ h1_)))))))) (sw_cons (t1_ (al_ (al_ (al_ (al_ (al_ (t4_ (t4_ (t4_ (t1_ (t1_ (t1_ h1_)))))))))))) (sw_cons (t1_ (al_ (al_ (al_ (al_ (al_ (t16_ (t1_ h1_)))))))) sw_nil))) (fun _ h => (t1_ (al_ (ar_ h)))))) (by decide +kernel)
set_option maxRecDepth 20000 in
theorem gX9_shares_X7_above : GoodIn wsX9_shares (wsV RX9 151 RX7 yX7_above wsX7_above) := goodIn_app (sw_good (sw_cons (t1_ (al_ (al_ (al_ (al_ (ar_ (al_ (t16_ (t4_ (t1_ (t1_ (t1_ h1_)))))))))))) (sw_cons (t1_ (al_ (al_ (al_ (al_ (ar_ (ar_ h1_))))))) (sw_cons (t1_ (al_ (al_ (al_ (al_ (ar_ (ar_ (t1_ h1_)))))))) (sw_cons (t1_ (al_ (al_ (al_ (al_ (al_ (t4_ (t1_ (t1_ (t1_ h1_)))))))))) sw_nil)))) (by decide +kernel)) ggX9_shares_X7_above
set_option maxRecDepth 20000 in
theorem ggX9_shares_X7_below : GoodIn wsX9_shares wsX7_below := sw_good (sw_cons (t1_ (al_ (al_ (al_ (al_ (ar_ (ar_ (t4_ (t1_ (t1_ h1_)))))))))) (sw_app (sw_cons (t1_ (al_ (al_ (al_ (al_ (al_ (t16_ (t1_ (t1_ h1_))))))))) sw_nil) (fun _ h => (t1_ (al_ (ar_ h)))))) (by decide +kernel)
set_option maxRecDepth 20000 in
theorem gX9_shares_X7_below : GoodIn wsX9_shares (wsV RX9 155 RX7 yX7_below wsX7_below) := goodIn_app (sw_good (sw_cons (t1_ (al_ (al_ (al_ (al_ (ar_ (ar_ (t1_ (t1_ (t1_ h1_)))))))))) (sw_cons (t1_ (al_ (al_ (al_ (al_ (ar_ (ar_ (t4_ h1_)))))))) (sw_cons (t1_ (al_ (al_ (al_ (al_ (ar_ (ar_ (t4_ (t1_ h1_))))))))) (sw_cons (t1_ (al_ (al_ (al_ (al_ (al_ (t4_ (t1_ (t1_ (t1_ h1_)))))))))) sw_nil)))) (by decide +kernel)) ggX9_shares_X7_below
set_option maxRecDepth 20000 in
theorem ggX9_shares_X4_become : GoodIn wsX9_shares wsX4_become := sw_good (sw_cons (t1_ (al_ (al_ (al_ (al_ (ar_ (ar_ (t4_ (t4_ (t1_ (t1_ (t1_ h1_)))))))))))) (sw_app (sw_cons (t1_ (al_ (al_ (al_ (al_ (ar_ (ar_ (t4_ (t4_ (t4_ h1_)))))))))) (sw_cons (t1_ (al_ (al_ (al_ (al_ (ar_ (ar_ (t4_ (t4_ (t4_ (t1_ h1_))))))))))) (sw_cons (t1_ (al_ (al_ (al_ (al_ (ar_ (ar_ (t4_ (t4_ (t4_ (t1_ (t1_ h1_)))))))))))) (sw_cons (t1_ (al_ (al_ (al_ (al_ (ar_ (ar_ (t4_ (t4_ (t4_ (t1_ (t1_ (t1_ h1_))))))))))))) (sw_cons (t1_ (al_ (al_ (al_ (al_ (ar_ (ar_ (t4_ (t4_ (t1_ (t1_ h1_))))))))))) (sw_cons (t1_ (al_ (al_ (al_ (al_ (ar_ (ar_ (t16_ h1_)))))))) sw_nil)))))) (fun _ h => (t1_ (ar_ h))))) (by decide +kernel)
set_option maxRecDepth 20000 in
theorem gX9_shares_X4_become : GoodIn wsX9_shares (wsV RX9 158 RX4 yX4_become wsX4_become) := goodIn_app (sw_good (sw_cons (t1_ (al_ (al_ (al_ (al_ (ar_ (ar_ (t4_ (t1_ (t1_ (t1_ h1_))))))))))) (sw_cons (t1_ (al_ (al_ (al_ (al_ (ar_ (ar_ (t4_ (t4_ h1_))))))))) (sw_cons (t1_ (al_ (al_ (al_ (al_ (ar_ (ar_ (t4_ (t4_ (t1_ h1_)))))))))) (sw_cons (t1_ (al_ (al_ (al_ (al_ (ar_ (ar_ (t4_ (t4_ (t1_ (t1_ h1_))))))))))) sw_nil)))) (by decide +kernel)) ggX9_shares_X4_become
theorem dX9_shares_0 : decode cX9_shares 0 = .ok (.aload_n 0, 1) := by decide +kernel
theorem dX9_shares_1 : decode cX9_shares 1 = .ok (.getfield 40, 3) := by decide +kernel
theorem dX9_shares_4 : decode cX9_shares 4 = .ok (.aload_n 0, 1) := by decide +kernel
theorem dX9_shares_5 : decode cX9_shares 5 = .ok (.getfield 23, 3) := by decide +kernel
theorem dX9_shares_8 : decode cX9_shares 8 = .ok (.aload_n 0, 1) := by decide +kernel
theorem dX9_shares_9 : decode cX9_shares 9 = .ok (.getfield 9, 3) := by decide +kernel
theorem dX9_shares_12 : decode cX9_shares 12 = .ok (.invokevirtual 147, 3) := by decide +kernel
theorem dX9_shares_15 : decode cX9_shares 15 = .ok (.aload_n 0, 1) := by decide +kernel
theorem dX9_shares_16 : decode cX9_shares 16 = .ok (.getfield 33, 3) := by decide +kernel
theorem dX9_shares_19 : decode cX9_shares 19 = .ok (.aload_n 0, 1) := by decide +kernel
theorem dX9_shares_20 : decode cX9_shares 20 = .ok (.getfield 40, 3) := by decide +kernel
theorem dX9_shares_23 : decode cX9_shares 23 = .ok (.invokevirtual 151, 3) := by decide +kernel
theorem dX9_shares_26 : decode cX9_shares 26 = .ok (.aload_n 0, 1) := by decide +kernel
theorem dX9_shares_27 : decode cX9_shares 27 = .ok (.getfield 40, 3) := by decide +kernel
theorem dX9_shares_30 : decode cX9_shares 30 = .ok (.invokevirtual 155, 3) := by decide +kernel
theorem dX9_shares_33 : decode cX9_shares 33 = .ok (.invokevirtual 158, 3) := by decide +kernel
theorem dX9_shares_36 : decode cX9_shares 36 = .ok (.iconst 1, 1) := by decide +kernel
theorem dX9_shares_37 : decode cX9_shares 37 = .ok (.ireturn, 1) := by decide +kernel
set_option maxRecDepth 20000 in
theorem ggX9_apart_X3_findApart : GoodIn wsX9_apart wsX3_findApart := sw_good (sw_cons (t1_ (al_ (al_ (al_ (t4_ (t1_ (t1_ h1_))))))) (sw_app (sw_app (sw_cons (t1_ (al_ (al_ (al_ (t4_ (t1_ (t1_ (t1_ h1_)))))))) (sw_cons (t1_ (al_ (al_ (al_ (t4_ (t4_ h1_)))))) (sw_cons (t1_ (al_ (al_ (al_ (t4_ (t4_ (t1_ h1_))))))) (sw_cons (t1_ (al_ (al_ (al_ (t4_ (t1_ h1_)))))) (sw_cons (t1_ (al_ (al_ (al_ (t4_ (t4_ (t1_ (t1_ h1_)))))))) (sw_cons (t1_ (al_ (al_ (al_ (t4_ (t4_ (t1_ (t1_ (t1_ h1_))))))))) (sw_cons (t1_ (al_ (al_ (al_ (t4_ (t4_ (t4_ h1_))))))) (sw_cons (t1_ (al_ (al_ (al_ (t4_ (t4_ (t4_ (t1_ h1_)))))))) (sw_cons (t1_ (al_ (al_ (al_ (t4_ (t4_ (t4_ (t1_ (t1_ h1_))))))))) (sw_cons (t1_ (al_ (al_ (al_ (t4_ (t4_ (t4_ (t1_ (t1_ (t1_ h1_)))))))))) (sw_cons (t1_ (al_ (al_ (al_ (t16_ h1_))))) (sw_cons (t1_ (al_ (al_ (al_ (t16_ (t1_ h1_)))))) (sw_cons (t1_ (al_ (al_ (al_ (t16_ (t1_ (t1_ h1_))))))) (sw_cons (t1_ (al_ (al_ (al_ (t16_ (t1_ (t1_ (t1_ h1_)))))))) (sw_cons (t1_ (al_ (al_ (al_ (t16_ (t4_ h1_)))))) sw_nil))))))))))))))) (fun _ h => (t1_ (al_ (ar_ h))))) (fun _ h => (t1_ (ar_ h))))) (by decide +kernel)
set_option maxRecDepth 20000 in
theorem gX9_apart_X3_findApart : GoodIn wsX9_apart (wsV RX9 162 RX3 yX3_findApart wsX3_findApart) := goodIn_app (sw_good (sw_cons (t1_ (al_ (al_ (al_ (t1_ (t1_ h1_)))))) (sw_cons (t1_ (al_ (al_ (al_ (t1_ (t1_ (t1_ h1_))))))) (sw_cons (t1_ (al_ (al_ (al_ (t4_ h1_))))) (sw_cons (t1_ (al_ (al_ (al_ (t4_ (t1_ h1_)))))) sw_nil)))) (by decide +kernel)) ggX9_apart_X3_findApart
theorem dX9_apart_0 : decode cX9_apart 0 = .ok (.aload_n 0, 1) := by decide +kernel
theorem dX9_apart_1 : decode cX9_apart 1 = .ok (.getfield 49, 3) := by decide +kernel
theorem dX9_apart_4 : decode cX9_apart 4 = .ok (.invokevirtual 162, 3) := by decide +kernel
theorem dX9_apart_7 : decode cX9_apart 7 = .ok (.aload_n 0, 1) := by decide +kernel
theorem dX9_apart_8 : decode cX9_apart 8 = .ok (.getfield 49, 3) := by decide +kernel
theorem dX9_apart_11 : decode cX9_apart 11 = .ok (.getfield 165, 3) := by decide +kernel
theorem dX9_apart_14 : decode cX9_apart 14 = .ok (.ireturn, 1) := by decide +kernel
set_option maxRecDepth 20000 in
theorem ggX9_star_X9_isZeroOrOne : GoodIn wsX9_star wsX9_isZeroOrOne := sw_good (sw_cons (t1_ (al_ (al_ (al_ (al_ (t4_ (t4_ h1_))))))) sw_nil) (by decide +kernel)
set_option maxRecDepth 20000 in
theorem gX9_star_X9_isZeroOrOne : GoodIn wsX9_star (va_wsS RX9 123 yX9_isZeroOrOne wsX9_isZeroOrOne) := goodIn_app (sw_good (sw_cons (t1_ (al_ (al_ (al_ (al_ (t4_ (t1_ h1_))))))) (sw_cons (t1_ (al_ (al_ (al_ (al_ (t4_ (t1_ (t1_ h1_)))))))) (sw_cons (t1_ (al_ (al_ (al_ (al_ (t4_ (t1_ (t1_ (t1_ h1_))))))))) sw_nil))) (by decide +kernel)) ggX9_star_X9_isZeroOrOne
set_option maxRecDepth 20000 in
theorem ggX9_star_X3_findStar : GoodIn wsX9_star wsX3_findStar := sw_good (sw_cons (t1_ (al_ (al_ (al_ (al_ (t4_ (t4_ (t4_ (t1_ h1_))))))))) (sw_app (sw_app (sw_cons (t1_ (al_ (al_ (al_ (al_ (t4_ (t4_ (t4_ (t1_ (t1_ h1_)))))))))) (sw_cons (t1_ (al_ (al_ (al_ (al_ (t4_ (t4_ (t4_ (t1_ (t1_ (t1_ h1_))))))))))) (sw_cons (t1_ (al_ (al_ (al_ (al_ (t16_ h1_)))))) (sw_cons (t1_ (al_ (al_ (al_ (al_ (t4_ (t4_ (t4_ h1_)))))))) (sw_cons (t1_ (al_ (al_ (al_ (al_ (t16_ (t1_ h1_))))))) (sw_cons (t1_ (al_ (al_ (al_ (al_ (t16_ (t1_ (t1_ h1_)))))))) (sw_cons (t1_ (al_ (al_ (al_ (al_ (t16_ (t1_ (t1_ (t1_ h1_))))))))) (sw_cons (t1_ (al_ (al_ (al_ (al_ (t16_ (t4_ h1_))))))) (sw_cons (t1_ (al_ (al_ (al_ (al_ (t16_ (t4_ (t1_ h1_)))))))) (sw_cons (t1_ (al_ (al_ (al_ (al_ (t16_ (t4_ (t1_ (t1_ h1_))))))))) (sw_cons (t1_ (al_ (al_ (al_ (al_ (t16_ (t4_ (t1_ (t1_ (t1_ h1_)))))))))) (sw_cons (t1_ (al_ (al_ (al_ (ar_ h1_))))) (sw_cons (t1_ (al_ (al_ (al_ (ar_ (t1_ h1_)))))) (sw_cons (t1_ (al_ (al_ (al_ (ar_ (t1_ (t1_ h1_))))))) (sw_cons (t1_ (al_ (al_ (al_ (ar_ (t1_ (t1_ (t1_ h1_)))))))) sw_nil))))))))))))))) (fun _ h => (t1_ (ar_ h)))) (fun _ h => (t1_ (al_ (ar_ h)))))) (by decide +kernel)
set_option maxRecDepth 20000 in
theorem gX9_star_X3_findStar : GoodIn wsX9_star (wsV RX9 168 RX3 yX3_findStar wsX3_findStar) := goodIn_app (sw_good (sw_cons (t1_ (al_ (al_ (al_ (al_ (t4_ (t4_ (t1_ h1_)))))))) (sw_cons (t1_ (al_ (al_ (al_ (al_ (t4_ (t4_ (t1_ (t1_ h1_))))))))) (sw_cons (t1_ (al_ (al_ (al_ (al_ (t4_ (t4_ (t1_ (t1_ (t1_ h1_)))))))))) (sw_cons (t1_ (al_ (al_ (al_ (al_ (t4_ (t4_ (t4_ h1_)))))))) sw_nil)))) (by decide +kernel)) ggX9_star_X3_findStar
theorem dX9_star_0 : decode cX9_star 0 = .ok (.iload_n 1, 1) := by decide +kernel
theorem dX9_star_1 : decode cX9_star 1 = .ok (.invokestatic 123, 3) := by decide +kernel
theorem dX9_star_4 : decode cX9_star 4 = .ok (.ifCond .ne 6, 3) := by decide +kernel
theorem dX9_star_7 : decode cX9_star 7 = .ok (.bipush (-2), 2) := by decide +kernel
theorem dX9_star_9 : decode cX9_star 9 = .ok (.ireturn, 1) := by decide +kernel
theorem dX9_star_10 : decode cX9_star 10 = .ok (.aload_n 0, 1) := by decide +kernel
theorem dX9_star_11 : decode cX9_star 11 = .ok (.getfield 23, 3) := by decide +kernel
theorem dX9_star_14 : decode cX9_star 14 = .ok (.getfield 106, 3) := by decide +kernel
theorem dX9_star_17 : decode cX9_star 17 = .ok (.iconst 2, 1) := by decide +kernel
theorem dX9_star_18 : decode cX9_star 18 = .ok (.if_icmp .ge 5, 3) := by decide +kernel
theorem dX9_star_21 : decode cX9_star 21 = .ok (.iconst (-1), 1) := by decide +kernel
theorem dX9_star_22 : decode cX9_star 22 = .ok (.ireturn, 1) := by decide +kernel
theorem dX9_star_23 : decode cX9_star 23 = .ok (.aload_n 0, 1) := by decide +kernel
theorem dX9_star_24 : decode cX9_star 24 = .ok (.getfield 49, 3) := by decide +kernel
theorem dX9_star_27 : decode cX9_star 27 = .ok (.invokevirtual 168, 3) := by decide +kernel
theorem dX9_star_30 : decode cX9_star 30 = .ok (.iload_n 1, 1) := by decide +kernel
theorem dX9_star_31 : decode cX9_star 31 = .ok (.ifCond .ne 13, 3) := by decide +kernel
theorem dX9_star_34 : decode cX9_star 34 = .ok (.aload_n 0, 1) := by decide +kernel
theorem dX9_star_35 : decode cX9_star 35 = .ok (.getfield 49, 3) := by decide +kernel
theorem dX9_star_38 : decode cX9_star 38 = .ok (.getfield 165, 3) := by decide +kernel
theorem dX9_star_41 : decode cX9_star 41 = .ok (.goto 10, 3) := by decide +kernel
theorem dX9_star_44 : decode cX9_star 44 = .ok (.aload_n 0, 1) := by decide +kernel
theorem dX9_star_45 : decode cX9_star 45 = .ok (.getfield 49, 3) := by decide +kernel
theorem dX9_star_48 : decode cX9_star 48 = .ok (.getfield 171, 3) := by decide +kernel
theorem dX9_star_51 : decode cX9_star 51 = .ok (.ireturn, 1) := by decide +kernel
set_option maxRecDepth 20000 in
theorem ggX9_seen_X6_isPart : GoodIn wsX9_seen wsX6_isPart := sw_good (sw_cons (t1_ (al_ (al_ (al_ (t4_ (t1_ (t1_ h1_))))))) (sw_app (sw_cons (t1_ (al_ (al_ (al_ (t4_ (t1_ (t1_ (t1_ h1_)))))))) sw_nil) (fun _ h => (t1_ (al_ (ar_ h)))))) (by decide +kernel)
set_option maxRecDepth 20000 in
theorem gX9_seen_X6_isPart : GoodIn wsX9_seen (wsV RX9 92 RX6 yX6_isPart wsX6_isPart) := goodIn_app (sw_good (sw_cons (t1_ (al_ (al_ (al_ (t1_ (t1_ h1_)))))) (sw_cons (t1_ (al_ (al_ (al_ (t1_ (t1_ (t1_ h1_))))))) (sw_cons (t1_ (al_ (al_ (al_ (t4_ h1_))))) (sw_cons (t1_ (al_ (al_ (al_ (t4_ (t1_ h1_)))))) sw_nil)))) (by decide +kernel)) ggX9_seen_X6_isPart
set_option maxRecDepth 20000 in
theorem ggX9_seen_X8_manySeenOf : GoodIn wsX9_seen wsX8_manySeenOf := sw_good (sw_cons (t1_ (al_ (al_ (al_ (t4_ (t4_ (t4_ h1_))))))) (sw_app (sw_app (sw_cons (t1_ (al_ (al_ (al_ (t4_ (t4_ (t4_ (t1_ h1_)))))))) (sw_cons (t1_ (al_ (al_ (al_ (t4_ (t4_ (t4_ (t1_ (t1_ h1_))))))))) (sw_cons (t1_ (al_ (al_ (al_ (t4_ (t4_ (t4_ (t1_ (t1_ (t1_ h1_)))))))))) (sw_cons (t1_ (al_ (al_ (al_ (t16_ h1_))))) (sw_cons (t1_ (al_ (al_ (al_ (t16_ (t1_ h1_)))))) sw_nil))))) (fun _ h => (t1_ (ar_ h)))) (fun _ h => (t1_ (al_ (ar_ h)))))) (by decide +kernel)
set_option maxRecDepth 20000 in
theorem gX9_seen_X8_manySeenOf : GoodIn wsX9_seen (wsV RX9 174 RX8 yX8_manySeenOf wsX8_manySeenOf) := goodIn_app (sw_good (sw_cons (t1_ (al_ (al_ (al_ (t4_ (t4_ h1_)))))) (sw_cons (t1_ (al_ (al_ (al_ (t4_ (t4_ (t1_ h1_))))))) (sw_cons (t1_ (al_ (al_ (al_ (t4_ (t4_ (t1_ (t1_ h1_)))))))) (sw_cons (t1_ (al_ (al_ (al_ (t4_ (t4_ (t1_ (t1_ (t1_ h1_))))))))) sw_nil)))) (by decide +kernel)) ggX9_seen_X8_manySeenOf
theorem dX9_seen_0 : decode cX9_seen 0 = .ok (.aload_n 0, 1) := by decide +kernel
theorem dX9_seen_1 : decode cX9_seen 1 = .ok (.getfield 23, 3) := by decide +kernel
theorem dX9_seen_4 : decode cX9_seen 4 = .ok (.iload_n 1, 1) := by decide +kernel
theorem dX9_seen_5 : decode cX9_seen 5 = .ok (.invokevirtual 92, 3) := by decide +kernel
theorem dX9_seen_8 : decode cX9_seen 8 = .ok (.ifCond .eq 14, 3) := by decide +kernel
theorem dX9_seen_11 : decode cX9_seen 11 = .ok (.aload_n 0, 1) := by decide +kernel
theorem dX9_seen_12 : decode cX9_seen 12 = .ok (.getfield 56, 3) := by decide +kernel
theorem dX9_seen_15 : decode cX9_seen 15 = .ok (.iload_n 1, 1) := by decide +kernel
theorem dX9_seen_16 : decode cX9_seen 16 = .ok (.invokevirtual 174, 3) := by decide +kernel
theorem dX9_seen_19 : decode cX9_seen 19 = .ok (.goto 5, 3) := by decide +kernel
theorem dX9_seen_22 : decode cX9_seen 22 = .ok (.bipush (-2), 2) := by decide +kernel
theorem dX9_seen_24 : decode cX9_seen 24 = .ok (.ireturn, 1) := by decide +kernel
set_option maxRecDepth 20000 in
theorem ggX9_dimension_X9_isZeroOrOne : GoodIn wsX9_dimension wsX9_isZeroOrOne := sw_good (sw_cons (t1_ (al_ (al_ (al_ (al_ (t4_ (t1_ (t1_ h1_)))))))) sw_nil) (by decide +kernel)
set_option maxRecDepth 20000 in
theorem gX9_dimension_X9_isZeroOrOne : GoodIn wsX9_dimension (va_wsS RX9 123 yX9_isZeroOrOne wsX9_isZeroOrOne) := goodIn_app (sw_good (sw_cons (t1_ (al_ (al_ (al_ (al_ (t1_ (t1_ (t1_ h1_)))))))) (sw_cons (t1_ (al_ (al_ (al_ (al_ (t4_ h1_)))))) (sw_cons (t1_ (al_ (al_ (al_ (al_ (t4_ (t1_ h1_))))))) sw_nil))) (by decide +kernel)) ggX9_dimension_X9_isZeroOrOne
set_option maxRecDepth 20000 in
theorem ggX9_dimension_X8_greatestAllSeen : GoodIn wsX9_dimension wsX8_greatestAllSeen := sw_good (sw_cons (t1_ (al_ (al_ (al_ (al_ (t4_ (t4_ (t1_ (t1_ (t1_ h1_)))))))))) (sw_app (sw_app (sw_cons (t1_ (al_ (al_ (al_ (al_ (t4_ (t4_ (t4_ h1_)))))))) (sw_cons (t1_ (al_ (al_ (al_ (al_ (t4_ (t4_ (t4_ (t1_ h1_))))))))) (sw_cons (t1_ (al_ (al_ (al_ (al_ (t4_ (t4_ (t4_ (t1_ (t1_ h1_)))))))))) (sw_cons (t1_ (al_ (al_ (al_ (al_ (t4_ (t4_ (t4_ (t1_ (t1_ (t1_ h1_))))))))))) (sw_cons (t1_ (al_ (al_ (al_ (al_ (t16_ h1_)))))) (sw_cons (t1_ (al_ (al_ (al_ (al_ (t16_ (t1_ h1_))))))) (sw_cons (t1_ (al_ (al_ (al_ (al_ (t16_ (t1_ (t1_ h1_)))))))) (sw_cons (t1_ (al_ (al_ (al_ (al_ (t16_ (t1_ (t1_ (t1_ h1_))))))))) (sw_cons (t1_ (al_ (al_ (al_ (al_ (t16_ (t4_ h1_))))))) (sw_cons (t1_ (al_ (al_ (al_ (al_ (t16_ (t4_ (t1_ h1_)))))))) (sw_cons (t1_ (al_ (al_ (al_ (al_ (t16_ (t4_ (t1_ (t1_ h1_))))))))) (sw_cons (t1_ (al_ (al_ (al_ (al_ (t16_ (t4_ (t1_ (t1_ (t1_ h1_)))))))))) (sw_cons (t1_ (al_ (al_ (al_ (ar_ h1_))))) (sw_cons (t1_ (al_ (al_ (al_ (al_ (t4_ (t4_ (t1_ (t1_ h1_))))))))) (sw_cons (t1_ (al_ (al_ (al_ (ar_ (t1_ h1_)))))) (sw_cons (t1_ (al_ (al_ (al_ (ar_ (t1_ (t1_ h1_))))))) (sw_cons (t1_ (al_ (al_ (al_ (ar_ (t1_ (t1_ (t1_ h1_)))))))) (sw_cons (t1_ (al_ (al_ (al_ (ar_ (t4_ h1_)))))) sw_nil)))))))))))))))))) (fun _ h => (t1_ (ar_ h)))) (fun _ h => (t1_ (al_ (ar_ h)))))) (by decide +kernel)
set_option maxRecDepth 20000 in
theorem gX9_dimension_X8_greatestAllSeen : GoodIn wsX9_dimension (wsV RX9 177 RX8 yX8_greatestAllSeen wsX8_greatestAllSeen) := goodIn_app (sw_good (sw_cons (t1_ (al_ (al_ (al_ (al_ (t4_ (t1_ (t1_ (t1_ h1_))))))))) (sw_cons (t1_ (al_ (al_ (al_ (al_ (t4_ (t4_ h1_))))))) (sw_cons (t1_ (al_ (al_ (al_ (al_ (t4_ (t4_ (t1_ h1_)))))))) (sw_cons (t1_ (al_ (al_ (al_ (al_ (t4_ (t4_ (t1_ (t1_ h1_))))))))) sw_nil)))) (by decide +kernel)) ggX9_dimension_X8_greatestAllSeen
set_option maxRecDepth 20000 in
theorem ggX9_dimension_J6_bitCount_0f7a4 : GoodIn wsX9_dimension wsJ6_bitCount_0f7a4 := sw_good (sw_cons (t1_ (al_ (al_ (al_ (al_ (t16_ (t1_ (t1_ h1_)))))))) (sw_cons (t1_ (al_ (al_ (al_ (al_ (t16_ (t1_ (t1_ (t1_ h1_))))))))) (sw_cons (t1_ (al_ (al_ (al_ (al_ (t16_ (t4_ h1_))))))) (sw_cons (t1_ (al_ (al_ (al_ (al_ (t16_ (t4_ (t1_ h1_)))))))) sw_nil)))) (by decide +kernel)
set_option maxRecDepth 20000 in
theorem gX9_dimension_J6_bitCount_0f7a4 : GoodIn wsX9_dimension (va_wsS RX9 133 yJ6_bitCount_0f7a4 wsJ6_bitCount_0f7a4) := goodIn_app (sw_good (sw_cons (t1_ (al_ (al_ (al_ (ar_ (t4_ (t1_ h1_))))))) (sw_cons (t1_ (al_ (al_ (al_ (al_ (t16_ h1_)))))) (sw_cons (t1_ (al_ (al_ (al_ (al_ (t16_ (t1_ h1_))))))) sw_nil))) (by decide +kernel)) ggX9_dimension_J6_bitCount_0f7a4
theorem dX9_dimension_0 : decode cX9_dimension 0 = .ok (.iload_n 1, 1) := by decide +kernel
theorem dX9_dimension_1 : decode cX9_dimension 1 = .ok (.invokestatic 123, 3) := by decide +kernel
theorem dX9_dimension_4 : decode cX9_dimension 4 = .ok (.ifCond .ne 6, 3) := by decide +kernel
theorem dX9_dimension_7 : decode cX9_dimension 7 = .ok (.bipush (-2), 2) := by decide +kernel
theorem dX9_dimension_9 : decode cX9_dimension 9 = .ok (.ireturn, 1) := by decide +kernel
theorem dX9_dimension_10 : decode cX9_dimension 10 = .ok (.aload_n 0, 1) := by decide +kernel
theorem dX9_dimension_11 : decode cX9_dimension 11 = .ok (.getfield 23, 3) := by decide +kernel
theorem dX9_dimension_14 : decode cX9_dimension 14 = .ok (.getfield 106, 3) := by decide +kernel
theorem dX9_dimension_17 : decode cX9_dimension 17 = .ok (.ifCond .ne 5, 3) := by decide +kernel
theorem dX9_dimension_20 : decode cX9_dimension 20 = .ok (.iconst (-1), 1) := by decide +kernel
theorem dX9_dimension_21 : decode cX9_dimension 21 = .ok (.ireturn, 1) := by decide +kernel
theorem dX9_dimension_22 : decode cX9_dimension 22 = .ok (.aload_n 0, 1) := by decide +kernel
theorem dX9_dimension_23 : decode cX9_dimension 23 = .ok (.getfield 56, 3) := by decide +kernel
theorem dX9_dimension_26 : decode cX9_dimension 26 = .ok (.invokevirtual 177, 3) := by decide +kernel
theorem dX9_dimension_29 : decode cX9_dimension 29 = .ok (.istore_n 2, 1) := by decide +kernel
theorem dX9_dimension_30 : decode cX9_dimension 30 = .ok (.iload_n 1, 1) := by decide +kernel
theorem dX9_dimension_31 : decode cX9_dimension 31 = .ok (.ifCond .ne 10, 3) := by decide +kernel
theorem dX9_dimension_34 : decode cX9_dimension 34 = .ok (.iload_n 2, 1) := by decide +kernel
theorem dX9_dimension_35 : decode cX9_dimension 35 = .ok (.invokestatic 133, 3) := by decide +kernel
theorem dX9_dimension_38 : decode cX9_dimension 38 = .ok (.goto 4, 3) := by decide +kernel
theorem dX9_dimension_41 : decode cX9_dimension 41 = .ok (.iload_n 2, 1) := by decide +kernel
theorem dX9_dimension_42 : decode cX9_dimension 42 = .ok (.ireturn, 1) := by decide +kernel
set_option maxRecDepth 20000 in
theorem ggX9_colourings_X1_waysBy : GoodIn wsX9_colourings wsX1_waysBy := sw_good (sw_cons (t1_ (al_ (al_ (al_ (al_ (t4_ (t1_ h1_))))))) (sw_app (sw_app (sw_cons (t1_ (al_ (al_ (al_ (al_ (t4_ (t1_ (t1_ h1_)))))))) (sw_cons (t1_ (al_ (al_ (al_ (al_ (t4_ (t1_ (t1_ (t1_ h1_))))))))) (sw_cons (t1_ (al_ (al_ (al_ (al_ (t4_ (t4_ h1_))))))) (sw_cons (t1_ (al_ (al_ (al_ (al_ (t4_ (t4_ (t1_ h1_)))))))) (sw_cons (t1_ (al_ (al_ (al_ (al_ (t4_ (t4_ (t1_ (t1_ h1_))))))))) (sw_cons (t1_ (al_ (al_ (al_ (al_ (t4_ h1_)))))) (sw_cons (t1_ (al_ (al_ (al_ (al_ (t4_ (t4_ (t1_ (t1_ (t1_ h1_)))))))))) (sw_cons (t1_ (al_ (al_ (al_ (al_ (t4_ (t4_ (t4_ h1_)))))))) (sw_cons (t1_ (al_ (al_ (al_ (al_ (t4_ (t4_ (t4_ (t1_ h1_))))))))) (sw_cons (t1_ (al_ (al_ (al_ (al_ (t4_ (t4_ (t4_ (t1_ (t1_ h1_)))))))))) (sw_cons (t1_ (al_ (al_ (al_ (al_ (t4_ (t4_ (t4_ (t1_ (t1_ (t1_ h1_))))))))))) (sw_cons (t1_ (al_ (al_ (al_ (al_ (t16_ h1_)))))) (sw_cons (t1_ (al_ (al_ (al_ (al_ (t16_ (t1_ h1_))))))) (sw_cons (t1_ (al_ (al_ (al_ (al_ (t16_ (t1_ (t1_ h1_)))))))) (sw_cons (t1_ (al_ (al_ (al_ (al_ (t16_ (t1_ (t1_ (t1_ h1_))))))))) (sw_cons (t1_ (al_ (al_ (al_ (al_ (t16_ (t4_ h1_))))))) (sw_cons (t1_ (al_ (al_ (al_ (al_ (t16_ (t4_ (t1_ h1_)))))))) (sw_cons (t1_ (al_ (al_ (al_ (al_ (t16_ (t4_ (t1_ (t1_ h1_))))))))) (sw_cons (t1_ (al_ (al_ (al_ (al_ (t16_ (t4_ (t1_ (t1_ (t1_ h1_)))))))))) (sw_cons (t1_ (al_ (al_ (al_ (ar_ h1_))))) (sw_cons (t1_ (al_ (al_ (al_ (ar_ (t1_ h1_)))))) (sw_cons (t1_ (al_ (al_ (al_ (ar_ (t1_ (t1_ h1_))))))) (sw_cons (t1_ (al_ (al_ (al_ (ar_ (t1_ (t1_ (t1_ h1_)))))))) (sw_cons (t1_ (al_ (al_ (al_ (ar_ (t4_ h1_)))))) sw_nil)))))))))))))))))))))))) (fun _ h => (t1_ (al_ (ar_ h))))) (fun _ h => (t1_ (ar_ h))))) (by decide +kernel)
set_option maxRecDepth 20000 in
theorem gX9_colourings_X1_waysBy : GoodIn wsX9_colourings (wsV RX9 180 RX1 yX1_waysBy wsX1_waysBy) := goodIn_app (sw_good (sw_cons (t1_ (al_ (al_ (al_ (al_ (t1_ h1_)))))) (sw_cons (t1_ (al_ (al_ (al_ (al_ (t1_ (t1_ h1_))))))) (sw_cons (t1_ (al_ (al_ (al_ (al_ (t1_ (t1_ (t1_ h1_)))))))) (sw_cons (t1_ (al_ (al_ (al_ (al_ (t4_ h1_)))))) sw_nil)))) (by decide +kernel)) ggX9_colourings_X1_waysBy
theorem dX9_colourings_0 : decode cX9_colourings 0 = .ok (.iload_n 1, 1) := by decide +kernel
theorem dX9_colourings_1 : decode cX9_colourings 1 = .ok (.iconst 2, 1) := by decide +kernel
theorem dX9_colourings_2 : decode cX9_colourings 2 = .ok (.if_icmp .lt 8, 3) := by decide +kernel
theorem dX9_colourings_5 : decode cX9_colourings 5 = .ok (.iload_n 1, 1) := by decide +kernel
theorem dX9_colourings_6 : decode cX9_colourings 6 = .ok (.iconst 4, 1) := by decide +kernel
theorem dX9_colourings_7 : decode cX9_colourings 7 = .ok (.if_icmp .le 8, 3) := by decide +kernel
theorem dX9_colourings_10 : decode cX9_colourings 10 = .ok (.bipush (-2), 2) := by decide +kernel
theorem dX9_colourings_12 : decode cX9_colourings 12 = .ok (.goto 11, 3) := by decide +kernel
theorem dX9_colourings_15 : decode cX9_colourings 15 = .ok (.aload_n 0, 1) := by decide +kernel
theorem dX9_colourings_16 : decode cX9_colourings 16 = .ok (.getfield 63, 3) := by decide +kernel
theorem dX9_colourings_19 : decode cX9_colourings 19 = .ok (.iload_n 1, 1) := by decide +kernel
theorem dX9_colourings_20 : decode cX9_colourings 20 = .ok (.invokevirtual 180, 3) := by decide +kernel
theorem dX9_colourings_23 : decode cX9_colourings 23 = .ok (.ireturn, 1) := by decide +kernel
set_option maxRecDepth 20000 in
theorem ggX9_colouring_X6_hasSetIn : GoodIn wsX9_colouring wsX6_hasSetIn := sw_good (sw_cons (t1_ (al_ (al_ (t4_ (t1_ (t1_ h1_)))))) (sw_app (sw_cons (t1_ (al_ (al_ (t4_ (t1_ (t1_ (t1_ h1_))))))) sw_nil) (fun _ h => (t1_ (ar_ h))))) (by decide +kernel)
set_option maxRecDepth 20000 in
theorem gX9_colouring_X6_hasSetIn : GoodIn wsX9_colouring (wsV RX9 144 RX6 yX6_hasSetIn wsX6_hasSetIn) := goodIn_app (sw_good (sw_cons (t1_ (al_ (al_ (t1_ (t1_ h1_))))) (sw_cons (t1_ (al_ (al_ (t1_ (t1_ (t1_ h1_)))))) (sw_cons (t1_ (al_ (al_ (t4_ h1_)))) (sw_cons (t1_ (al_ (al_ (t4_ (t1_ h1_))))) sw_nil)))) (by decide +kernel)) ggX9_colouring_X6_hasSetIn
theorem dX9_colouring_0 : decode cX9_colouring 0 = .ok (.aload_n 0, 1) := by decide +kernel
theorem dX9_colouring_1 : decode cX9_colouring 1 = .ok (.getfield 23, 3) := by decide +kernel
theorem dX9_colouring_4 : decode cX9_colouring 4 = .ok (.getfield 117, 3) := by decide +kernel
theorem dX9_colouring_7 : decode cX9_colouring 7 = .ok (.iconst 1, 1) := by decide +kernel
theorem dX9_colouring_8 : decode cX9_colouring 8 = .ok (.isub, 1) := by decide +kernel
theorem dX9_colouring_9 : decode cX9_colouring 9 = .ok (.istore_n 1, 1) := by decide +kernel
theorem dX9_colouring_10 : decode cX9_colouring 10 = .ok (.iconst 0, 1) := by decide +kernel
theorem dX9_colouring_11 : decode cX9_colouring 11 = .ok (.istore_n 2, 1) := by decide +kernel
theorem dX9_colouring_12 : decode cX9_colouring 12 = .ok (.iload_n 2, 1) := by decide +kernel
theorem dX9_colouring_13 : decode cX9_colouring 13 = .ok (.aload_n 0, 1) := by decide +kernel
theorem dX9_colouring_14 : decode cX9_colouring 14 = .ok (.getfield 23, 3) := by decide +kernel
theorem dX9_colouring_17 : decode cX9_colouring 17 = .ok (.getfield 117, 3) := by decide +kernel
theorem dX9_colouring_20 : decode cX9_colouring 20 = .ok (.if_icmp .ge 35, 3) := by decide +kernel
theorem dX9_colouring_23 : decode cX9_colouring 23 = .ok (.aload_n 0, 1) := by decide +kernel
theorem dX9_colouring_24 : decode cX9_colouring 24 = .ok (.getfield 23, 3) := by decide +kernel
theorem dX9_colouring_27 : decode cX9_colouring 27 = .ok (.iload_n 2, 1) := by decide +kernel
theorem dX9_colouring_28 : decode cX9_colouring 28 = .ok (.invokevirtual 144, 3) := by decide +kernel
theorem dX9_colouring_31 : decode cX9_colouring 31 = .ok (.ifCond .ne 18, 3) := by decide +kernel
theorem dX9_colouring_34 : decode cX9_colouring 34 = .ok (.aload_n 0, 1) := by decide +kernel
theorem dX9_colouring_35 : decode cX9_colouring 35 = .ok (.getfield 23, 3) := by decide +kernel
theorem dX9_colouring_38 : decode cX9_colouring 38 = .ok (.iload_n 1, 1) := by decide +kernel
theorem dX9_colouring_39 : decode cX9_colouring 39 = .ok (.iload_n 2, 1) := by decide +kernel
theorem dX9_colouring_40 : decode cX9_colouring 40 = .ok (.ixor, 1) := by decide +kernel
theorem dX9_colouring_41 : decode cX9_colouring 41 = .ok (.invokevirtual 144, 3) := by decide +kernel
theorem dX9_colouring_44 : decode cX9_colouring 44 = .ok (.ifCond .ne 5, 3) := by decide +kernel
theorem dX9_colouring_47 : decode cX9_colouring 47 = .ok (.iload_n 2, 1) := by decide +kernel
theorem dX9_colouring_48 : decode cX9_colouring 48 = .ok (.ireturn, 1) := by decide +kernel
theorem dX9_colouring_49 : decode cX9_colouring 49 = .ok (.iinc 2 1, 3) := by decide +kernel
theorem dX9_colouring_52 : decode cX9_colouring 52 = .ok (.goto (-40), 3) := by decide +kernel
theorem dX9_colouring_55 : decode cX9_colouring 55 = .ok (.iconst (-1), 1) := by decide +kernel
theorem dX9_colouring_56 : decode cX9_colouring 56 = .ok (.ireturn, 1) := by decide +kernel
set_option maxRecDepth 20000 in
theorem ggX9_ears_X2_whatIsLeft : GoodIn wsX9_ears wsX2_whatIsLeft := sw_good (sw_cons (t1_ (al_ (al_ (al_ (al_ (t4_ (t1_ h1_))))))) (sw_app (sw_app (sw_cons (t1_ (al_ (al_ (al_ (al_ (t4_ (t1_ (t1_ h1_)))))))) (sw_cons (t1_ (al_ (al_ (al_ (al_ (t4_ (t1_ (t1_ (t1_ h1_))))))))) (sw_cons (t1_ (al_ (al_ (al_ (al_ (t4_ (t4_ h1_))))))) (sw_cons (t1_ (al_ (al_ (al_ (al_ (t4_ (t4_ (t1_ h1_)))))))) (sw_cons (t1_ (al_ (al_ (al_ (al_ (t4_ (t4_ (t1_ (t1_ h1_))))))))) (sw_cons (t1_ (al_ (al_ (al_ (al_ (t4_ (t4_ (t1_ (t1_ (t1_ h1_)))))))))) (sw_cons (t1_ (al_ (al_ (al_ (al_ (t4_ (t4_ (t4_ h1_)))))))) (sw_cons (t1_ (al_ (al_ (al_ (al_ (t4_ (t4_ (t4_ (t1_ h1_))))))))) (sw_cons (t1_ (al_ (al_ (al_ (al_ (t4_ h1_)))))) (sw_cons (t1_ (al_ (al_ (al_ (al_ (t4_ (t4_ (t4_ (t1_ (t1_ h1_)))))))))) (sw_cons (t1_ (al_ (al_ (al_ (al_ (t4_ (t4_ (t4_ (t1_ (t1_ (t1_ h1_))))))))))) (sw_cons (t1_ (al_ (al_ (al_ (al_ (t16_ h1_)))))) (sw_cons (t1_ (al_ (al_ (al_ (al_ (t16_ (t1_ h1_))))))) (sw_cons (t1_ (al_ (al_ (al_ (al_ (t16_ (t1_ (t1_ h1_)))))))) (sw_cons (t1_ (al_ (al_ (al_ (al_ (t16_ (t1_ (t1_ (t1_ h1_))))))))) (sw_cons (t1_ (al_ (al_ (al_ (al_ (t16_ (t4_ h1_))))))) (sw_cons (t1_ (al_ (al_ (al_ (al_ (t16_ (t4_ (t1_ h1_)))))))) (sw_cons (t1_ (al_ (al_ (al_ (al_ (t16_ (t4_ (t1_ (t1_ h1_))))))))) (sw_cons (t1_ (al_ (al_ (al_ (al_ (t16_ (t4_ (t1_ (t1_ (t1_ h1_)))))))))) (sw_cons (t1_ (al_ (al_ (al_ (ar_ h1_))))) (sw_cons (t1_ (al_ (al_ (al_ (ar_ (t1_ h1_)))))) sw_nil))))))))))))))))))))) (fun _ h => (t1_ (al_ (ar_ h))))) (fun _ h => (t1_ (ar_ h))))) (by decide +kernel)
set_option maxRecDepth 20000 in
theorem gX9_ears_X2_whatIsLeft : GoodIn wsX9_ears (wsV RX9 183 RX2 yX2_whatIsLeft wsX2_whatIsLeft) := goodIn_app (sw_good (sw_cons (t1_ (al_ (al_ (al_ (al_ (t1_ h1_)))))) (sw_cons (t1_ (al_ (al_ (al_ (al_ (t1_ (t1_ h1_))))))) (sw_cons (t1_ (al_ (al_ (al_ (al_ (t1_ (t1_ (t1_ h1_)))))))) (sw_cons (t1_ (al_ (al_ (al_ (al_ (t4_ h1_)))))) sw_nil)))) (by decide +kernel)) ggX9_ears_X2_whatIsLeft
theorem dX9_ears_0 : decode cX9_ears 0 = .ok (.aload_n 0, 1) := by decide +kernel
theorem dX9_ears_1 : decode cX9_ears 1 = .ok (.getfield 70, 3) := by decide +kernel
theorem dX9_ears_4 : decode cX9_ears 4 = .ok (.invokevirtual 183, 3) := by decide +kernel
theorem dX9_ears_7 : decode cX9_ears 7 = .ok (.ireturn, 1) := by decide +kernel
set_option maxRecDepth 20000 in
theorem ggX9_twoByTwo_J6_bitCount_0f7a4 : GoodIn wsX9_twoByTwo wsJ6_bitCount_0f7a4 := sw_good (sw_cons (t1_ (al_ (al_ (t4_ (t1_ h1_))))) (sw_cons (t1_ (al_ (al_ (t4_ (t1_ (t1_ h1_)))))) (sw_cons (t1_ (al_ (al_ (t4_ (t1_ (t1_ (t1_ h1_))))))) (sw_cons (t1_ (al_ (al_ (t4_ (t4_ h1_))))) sw_nil)))) (by decide +kernel)
set_option maxRecDepth 20000 in
theorem gX9_twoByTwo_J6_bitCount_0f7a4 : GoodIn wsX9_twoByTwo (va_wsS RX9 133 yJ6_bitCount_0f7a4 wsJ6_bitCount_0f7a4) := goodIn_app (sw_good (sw_cons (t1_ (al_ (al_ (t1_ (t1_ h1_))))) (sw_cons (t1_ (al_ (al_ (t1_ (t1_ (t1_ h1_)))))) (sw_cons (t1_ (al_ (al_ (t4_ h1_)))) sw_nil))) (by decide +kernel)) ggX9_twoByTwo_J6_bitCount_0f7a4
set_option maxRecDepth 20000 in
theorem ggX9_twoByTwo_X9_nothingInCommon : GoodIn wsX9_twoByTwo wsX9_nothingInCommon := sw_good (sw_cons (t1_ (al_ (al_ (t4_ (t4_ (t4_ (t1_ h1_))))))) (sw_app (sw_app (sw_cons (t1_ (al_ (al_ h1_))) (sw_cons (t1_ (al_ (al_ (t1_ h1_)))) (sw_cons (t1_ (al_ (al_ (t4_ (t4_ (t4_ (t1_ (t1_ h1_)))))))) (sw_cons (t1_ (al_ (al_ (t4_ (t4_ (t4_ (t1_ (t1_ (t1_ h1_))))))))) (sw_cons (t1_ (al_ (al_ (t1_ (t1_ h1_))))) (sw_cons (t1_ (al_ (al_ (t1_ (t1_ (t1_ h1_)))))) (sw_cons (t1_ (al_ (al_ (t4_ h1_)))) (sw_cons (t1_ (al_ (al_ (t4_ (t1_ h1_))))) (sw_cons (t1_ (al_ (al_ (t4_ (t1_ (t1_ h1_)))))) (sw_cons (t1_ (al_ (al_ (t4_ (t1_ (t1_ (t1_ h1_))))))) (sw_cons (t1_ (al_ (al_ (t4_ (t4_ h1_))))) sw_nil))))))))))) (fun _ h => (t1_ (al_ (ar_ h))))) (fun _ h => (t1_ (ar_ h))))) (by decide +kernel)
set_option maxRecDepth 20000 in
theorem gX9_twoByTwo_X9_nothingInCommon : GoodIn wsX9_twoByTwo (wsV RX9 186 RX9 yX9_nothingInCommon wsX9_nothingInCommon) := goodIn_app (sw_good (sw_cons (t1_ (al_ (al_ (t4_ (t4_ (t1_ h1_)))))) (sw_cons (t1_ (al_ (al_ (t4_ (t4_ (t1_ (t1_ h1_))))))) (sw_cons (t1_ (al_ (al_ (t4_ (t4_ (t1_ (t1_ (t1_ h1_)))))))) (sw_cons (t1_ (al_ (al_ (t4_ (t4_ (t4_ h1_)))))) sw_nil)))) (by decide +kernel)) ggX9_twoByTwo_X9_nothingInCommon
theorem dX9_twoByTwo_0 : decode cX9_twoByTwo 0 = .ok (.iconst 0, 1) := by decide +kernel
theorem dX9_twoByTwo_1 : decode cX9_twoByTwo 1 = .ok (.istore_n 1, 1) := by decide +kernel
theorem dX9_twoByTwo_2 : decode cX9_twoByTwo 2 = .ok (.iload_n 1, 1) := by decide +kernel
theorem dX9_twoByTwo_3 : decode cX9_twoByTwo 3 = .ok (.aload_n 0, 1) := by decide +kernel
theorem dX9_twoByTwo_4 : decode cX9_twoByTwo 4 = .ok (.getfield 23, 3) := by decide +kernel
theorem dX9_twoByTwo_7 : decode cX9_twoByTwo 7 = .ok (.getfield 117, 3) := by decide +kernel
theorem dX9_twoByTwo_10 : decode cX9_twoByTwo 10 = .ok (.if_icmp .ge 27, 3) := by decide +kernel
theorem dX9_twoByTwo_13 : decode cX9_twoByTwo 13 = .ok (.iload_n 1, 1) := by decide +kernel
theorem dX9_twoByTwo_14 : decode cX9_twoByTwo 14 = .ok (.invokestatic 133, 3) := by decide +kernel
theorem dX9_twoByTwo_17 : decode cX9_twoByTwo 17 = .ok (.iconst 3, 1) := by decide +kernel
theorem dX9_twoByTwo_18 : decode cX9_twoByTwo 18 = .ok (.if_icmp .ne 13, 3) := by decide +kernel
theorem dX9_twoByTwo_21 : decode cX9_twoByTwo 21 = .ok (.aload_n 0, 1) := by decide +kernel
theorem dX9_twoByTwo_22 : decode cX9_twoByTwo 22 = .ok (.iload_n 1, 1) := by decide +kernel
theorem dX9_twoByTwo_23 : decode cX9_twoByTwo 23 = .ok (.invokevirtual 186, 3) := by decide +kernel
theorem dX9_twoByTwo_26 : decode cX9_twoByTwo 26 = .ok (.ifCond .eq 5, 3) := by decide +kernel
theorem dX9_twoByTwo_29 : decode cX9_twoByTwo 29 = .ok (.iload_n 1, 1) := by decide +kernel
theorem dX9_twoByTwo_30 : decode cX9_twoByTwo 30 = .ok (.ireturn, 1) := by decide +kernel
theorem dX9_twoByTwo_31 : decode cX9_twoByTwo 31 = .ok (.iinc 1 1, 3) := by decide +kernel
theorem dX9_twoByTwo_34 : decode cX9_twoByTwo 34 = .ok (.goto (-32), 3) := by decide +kernel
theorem dX9_twoByTwo_37 : decode cX9_twoByTwo 37 = .ok (.iconst (-1), 1) := by decide +kernel
theorem dX9_twoByTwo_38 : decode cX9_twoByTwo 38 = .ok (.ireturn, 1) := by decide +kernel
set_option maxRecDepth 20000 in
theorem ggX9_game_X9_isZeroOrOne : GoodIn wsX9_game wsX9_isZeroOrOne := sw_good (sw_cons (t1_ (al_ (al_ (al_ (al_ (t4_ h1_)))))) sw_nil) (by decide +kernel)
set_option maxRecDepth 20000 in
theorem gX9_game_X9_isZeroOrOne : GoodIn wsX9_game (va_wsS RX9 123 yX9_isZeroOrOne wsX9_isZeroOrOne) := goodIn_app (sw_good (sw_cons (t1_ (al_ (al_ (al_ (al_ (t1_ h1_)))))) (sw_cons (t1_ (al_ (al_ (al_ (al_ (t1_ (t1_ h1_))))))) (sw_cons (t1_ (al_ (al_ (al_ (al_ (t1_ (t1_ (t1_ h1_)))))))) sw_nil))) (by decide +kernel)) ggX9_game_X9_isZeroOrOne
set_option maxRecDepth 20000 in
theorem ggX9_game_X5_winningMove : GoodIn wsX9_game wsX5_winningMove := sw_good (sw_cons (t1_ (al_ (al_ (al_ (al_ (t4_ (t4_ (t1_ h1_)))))))) (sw_app (sw_app (sw_app (sw_cons (t1_ (al_ (al_ (al_ (al_ (t4_ (t4_ (t1_ (t1_ h1_))))))))) (sw_cons (t1_ (al_ (al_ (al_ (al_ (t4_ (t4_ (t1_ (t1_ (t1_ h1_)))))))))) (sw_cons (t1_ (al_ (al_ (al_ (al_ (t4_ (t4_ (t4_ h1_)))))))) (sw_cons (t1_ (al_ (al_ (al_ (al_ (t4_ (t4_ (t4_ (t1_ h1_))))))))) (sw_cons (t1_ (al_ (al_ (al_ (al_ (t4_ (t4_ (t4_ (t1_ (t1_ h1_)))))))))) (sw_cons (t1_ (al_ (al_ (al_ (al_ (t4_ (t4_ (t4_ (t1_ (t1_ (t1_ h1_))))))))))) (sw_cons (t1_ (al_ (al_ (al_ (al_ (t16_ h1_)))))) (sw_cons (t1_ (al_ (al_ (al_ (al_ (t16_ (t1_ h1_))))))) (sw_cons (t1_ (al_ (al_ (al_ (al_ (t16_ (t1_ (t1_ h1_)))))))) (sw_cons (t1_ (al_ (al_ (al_ (al_ (t16_ (t1_ (t1_ (t1_ h1_))))))))) (sw_cons (t1_ (al_ (al_ (al_ (al_ (t4_ (t4_ h1_))))))) (sw_cons (t1_ (al_ (al_ (al_ (al_ (t16_ (t4_ h1_))))))) (sw_cons (t1_ (al_ (al_ (al_ (al_ (t16_ (t4_ (t1_ h1_)))))))) (sw_cons (t1_ (al_ (al_ (al_ (al_ (t16_ (t4_ (t1_ (t1_ h1_))))))))) (sw_cons (t1_ (al_ (al_ (al_ (al_ (t16_ (t4_ (t1_ (t1_ (t1_ h1_)))))))))) (sw_cons (t1_ (al_ (al_ (al_ (ar_ h1_))))) (sw_cons (t1_ (al_ (al_ (al_ (ar_ (t1_ h1_)))))) (sw_cons (t1_ (al_ (al_ (al_ (ar_ (t1_ (t1_ h1_))))))) (sw_cons (t1_ (al_ (al_ (al_ (ar_ (t1_ (t1_ (t1_ h1_)))))))) (sw_cons (t1_ (al_ (al_ (al_ (ar_ (t4_ h1_)))))) (sw_cons (t1_ (al_ (al_ (al_ (ar_ (t4_ (t1_ h1_))))))) (sw_cons (t1_ (al_ (al_ (al_ (ar_ (t4_ (t1_ (t1_ h1_)))))))) (sw_cons (t1_ (al_ (al_ (al_ (ar_ (t4_ (t1_ (t1_ (t1_ h1_))))))))) (sw_cons (t1_ (al_ (al_ (al_ (ar_ (t4_ (t4_ h1_))))))) sw_nil)))))))))))))))))))))))) (sw_cons (t1_ (al_ (al_ (al_ (ar_ (t4_ (t4_ (t1_ h1_)))))))) (sw_cons (t1_ (al_ (al_ (al_ (ar_ (t4_ (t4_ (t1_ (t1_ h1_))))))))) (sw_cons (t1_ (al_ (al_ (al_ (ar_ (t4_ (t4_ (t1_ (t1_ (t1_ h1_)))))))))) (sw_cons (t1_ (al_ (al_ (al_ (ar_ (t4_ (t4_ (t4_ h1_)))))))) (sw_cons (t1_ (al_ (al_ (al_ (ar_ (t4_ (t4_ (t4_ (t1_ h1_))))))))) (sw_cons (t1_ (al_ (al_ (al_ (ar_ (t4_ (t4_ (t4_ (t1_ (t1_ h1_)))))))))) (sw_cons (t1_ (al_ (al_ (al_ (ar_ (t4_ (t4_ (t4_ (t1_ (t1_ (t1_ h1_))))))))))) (sw_cons (t1_ (al_ (al_ (al_ (ar_ (t16_ h1_)))))) (sw_cons (t1_ (al_ (al_ (al_ (ar_ (t16_ (t1_ h1_))))))) (sw_cons (t1_ (al_ (al_ (al_ (ar_ (t16_ (t1_ (t1_ h1_)))))))) (sw_cons (t1_ (al_ (al_ (al_ (ar_ (t16_ (t1_ (t1_ (t1_ h1_))))))))) (sw_cons (t1_ (al_ (al_ (al_ (ar_ (t16_ (t4_ h1_))))))) (sw_cons (t1_ (al_ (al_ (al_ (ar_ (t16_ (t4_ (t1_ h1_)))))))) (sw_cons (t1_ (al_ (al_ (al_ (al_ (t1_ (t1_ (t1_ h1_)))))))) (sw_cons (t1_ (al_ (al_ (al_ (ar_ (t16_ (t4_ (t1_ (t1_ h1_))))))))) sw_nil)))))))))))))))) (fun _ h => (t1_ (al_ (ar_ h))))) (fun _ h => (t1_ (ar_ h))))) (by decide +kernel)
set_option maxRecDepth 20000 in
theorem gX9_game_X5_winningMove : GoodIn wsX9_game (wsV RX9 189 RX5 yX5_winningMove wsX5_winningMove) := goodIn_app (sw_good (sw_cons (t1_ (al_ (al_ (al_ (al_ (t4_ (t1_ h1_))))))) (sw_cons (t1_ (al_ (al_ (al_ (al_ (t4_ (t1_ (t1_ h1_)))))))) (sw_cons (t1_ (al_ (al_ (al_ (al_ (t4_ (t1_ (t1_ (t1_ h1_))))))))) (sw_cons (t1_ (al_ (al_ (al_ (al_ (t4_ (t4_ h1_))))))) sw_nil)))) (by decide +kernel)) ggX9_game_X5_winningMove
theorem dX9_game_0 : decode cX9_game 0 = .ok (.iload_n 1, 1) := by decide +kernel
theorem dX9_game_1 : decode cX9_game 1 = .ok (.invokestatic 123, 3) := by decide +kernel
theorem dX9_game_4 : decode cX9_game 4 = .ok (.ifCond .eq 10, 3) := by decide +kernel
theorem dX9_game_7 : decode cX9_game 7 = .ok (.iload_n 2, 1) := by decide +kernel
theorem dX9_game_8 : decode cX9_game 8 = .ok (.invokestatic 123, 3) := by decide +kernel
theorem dX9_game_11 : decode cX9_game 11 = .ok (.ifCond .ne 6, 3) := by decide +kernel
theorem dX9_game_14 : decode cX9_game 14 = .ok (.bipush (-2), 2) := by decide +kernel
theorem dX9_game_16 : decode cX9_game 16 = .ok (.ireturn, 1) := by decide +kernel
theorem dX9_game_17 : decode cX9_game 17 = .ok (.aload_n 0, 1) := by decide +kernel
theorem dX9_game_18 : decode cX9_game 18 = .ok (.getfield 77, 3) := by decide +kernel
theorem dX9_game_21 : decode cX9_game 21 = .ok (.iload_n 1, 1) := by decide +kernel
theorem dX9_game_22 : decode cX9_game 22 = .ok (.invokevirtual 189, 3) := by decide +kernel
theorem dX9_game_25 : decode cX9_game 25 = .ok (.istore_n 3, 1) := by decide +kernel
theorem dX9_game_26 : decode cX9_game 26 = .ok (.iload_n 2, 1) := by decide +kernel
theorem dX9_game_27 : decode cX9_game 27 = .ok (.iconst 1, 1) := by decide +kernel
theorem dX9_game_28 : decode cX9_game 28 = .ok (.if_icmp .ne 5, 3) := by decide +kernel
theorem dX9_game_31 : decode cX9_game 31 = .ok (.iload_n 3, 1) := by decide +kernel
theorem dX9_game_32 : decode cX9_game 32 = .ok (.ireturn, 1) := by decide +kernel
theorem dX9_game_33 : decode cX9_game 33 = .ok (.iload_n 1, 1) := by decide +kernel
theorem dX9_game_34 : decode cX9_game 34 = .ok (.ifCond .ne 7, 3) := by decide +kernel
theorem dX9_game_37 : decode cX9_game 37 = .ok (.iconst 1, 1) := by decide +kernel
theorem dX9_game_38 : decode cX9_game 38 = .ok (.goto 4, 3) := by decide +kernel
theorem dX9_game_41 : decode cX9_game 41 = .ok (.iconst 0, 1) := by decide +kernel
theorem dX9_game_42 : decode cX9_game 42 = .ok (.istore 4, 2) := by decide +kernel
theorem dX9_game_44 : decode cX9_game 44 = .ok (.iload_n 3, 1) := by decide +kernel
theorem dX9_game_45 : decode cX9_game 45 = .ok (.iconst (-1), 1) := by decide +kernel
theorem dX9_game_46 : decode cX9_game 46 = .ok (.if_icmp .ne 8, 3) := by decide +kernel
theorem dX9_game_49 : decode cX9_game 49 = .ok (.iload 4, 2) := by decide +kernel
theorem dX9_game_51 : decode cX9_game 51 = .ok (.goto 4, 3) := by decide +kernel
theorem dX9_game_54 : decode cX9_game 54 = .ok (.iload_n 1, 1) := by decide +kernel
theorem dX9_game_55 : decode cX9_game 55 = .ok (.ireturn, 1) := by decide +kernel
set_option maxRecDepth 20000 in
theorem ggX9_chance_X6_isMeeter : GoodIn wsX9_chance wsX6_isMeeter := sw_good (sw_cons (t1_ (al_ (al_ (al_ (al_ (t4_ (t4_ h1_))))))) (sw_app (sw_cons (t1_ (al_ (al_ (al_ (al_ (t4_ (t4_ (t1_ h1_)))))))) (sw_cons (t1_ (al_ (al_ (al_ (al_ (t4_ (t4_ (t1_ (t1_ h1_))))))))) sw_nil)) (fun _ h => (t1_ (al_ (ar_ h)))))) (by decide +kernel)
set_option maxRecDepth 20000 in
theorem gX9_chance_X6_isMeeter : GoodIn wsX9_chance (wsV RX9 126 RX6 yX6_isMeeter wsX6_isMeeter) := goodIn_app (sw_good (sw_cons (t1_ (al_ (al_ (al_ (al_ (t4_ h1_)))))) (sw_cons (t1_ (al_ (al_ (al_ (al_ (t4_ (t1_ h1_))))))) (sw_cons (t1_ (al_ (al_ (al_ (al_ (t4_ (t1_ (t1_ h1_)))))))) (sw_cons (t1_ (al_ (al_ (al_ (al_ (t4_ (t1_ (t1_ (t1_ h1_))))))))) sw_nil)))) (by decide +kernel)) ggX9_chance_X6_isMeeter
set_option maxRecDepth 20000 in
theorem ggX9_chance_J6_bitCount_0f7a4 : GoodIn wsX9_chance wsJ6_bitCount_0f7a4 := sw_good (sw_cons (t1_ (al_ (al_ (al_ (al_ (t4_ (t4_ (t4_ (t1_ (t1_ h1_)))))))))) (sw_cons (t1_ (al_ (al_ (al_ (al_ (t4_ (t4_ (t4_ (t1_ (t1_ (t1_ h1_))))))))))) (sw_cons (t1_ (al_ (al_ (al_ (al_ (t16_ h1_)))))) (sw_cons (t1_ (al_ (al_ (al_ (al_ (t16_ (t1_ h1_))))))) sw_nil)))) (by decide +kernel)
set_option maxRecDepth 20000 in
theorem gX9_chance_J6_bitCount_0f7a4 : GoodIn wsX9_chance (va_wsS RX9 133 yJ6_bitCount_0f7a4 wsJ6_bitCount_0f7a4) := goodIn_app (sw_good (sw_cons (t1_ (al_ (al_ (al_ (al_ (t4_ (t4_ (t1_ (t1_ (t1_ h1_)))))))))) (sw_cons (t1_ (al_ (al_ (al_ (al_ (t4_ (t4_ (t4_ h1_)))))))) (sw_cons (t1_ (al_ (al_ (al_ (al_ (t4_ (t4_ (t4_ (t1_ h1_))))))))) sw_nil))) (by decide +kernel)) ggX9_chance_J6_bitCount_0f7a4
set_option maxRecDepth 20000 in
theorem ggX9_chance_X9_power : GoodIn wsX9_chance wsX9_power := sw_good (sw_cons (t1_ (al_ (al_ (al_ (al_ (t16_ (t4_ (t1_ h1_)))))))) sw_nil) (by decide +kernel)
set_option maxRecDepth 20000 in
theorem gX9_chance_X9_power : GoodIn wsX9_chance (va_wsS RX9 192 yX9_power wsX9_power) := goodIn_app (sw_good (sw_cons (t1_ (al_ (al_ (al_ (al_ (t16_ (t1_ (t1_ h1_)))))))) (sw_cons (t1_ (al_ (al_ (al_ (al_ (t16_ (t1_ (t1_ (t1_ h1_))))))))) (sw_cons (t1_ (al_ (al_ (al_ (al_ (t16_ (t4_ h1_))))))) sw_nil))) (by decide +kernel)) ggX9_chance_X9_power
set_option maxRecDepth 20000 in
theorem ggX9_chance_X4_become : GoodIn wsX9_chance wsX4_become := sw_good (sw_cons (t1_ (al_ (al_ (al_ (ar_ (t1_ (t1_ h1_))))))) (sw_app (sw_cons (t1_ (al_ (al_ (al_ (ar_ (t1_ (t1_ (t1_ h1_)))))))) (sw_cons (t1_ (al_ (al_ (al_ (ar_ (t4_ h1_)))))) (sw_cons (t1_ (al_ (al_ (al_ (ar_ (t4_ (t1_ h1_))))))) (sw_cons (t1_ (al_ (al_ (al_ (ar_ (t4_ (t1_ (t1_ h1_)))))))) (sw_cons (t1_ (al_ (al_ (al_ (ar_ (t1_ h1_)))))) (sw_cons (t1_ (al_ (al_ (al_ (ar_ (t4_ (t1_ (t1_ (t1_ h1_))))))))) sw_nil)))))) (fun _ h => (t1_ (ar_ h))))) (by decide +kernel)
set_option maxRecDepth 20000 in
theorem gX9_chance_X4_become : GoodIn wsX9_chance (wsV RX9 158 RX4 yX4_become wsX4_become) := goodIn_app (sw_good (sw_cons (t1_ (al_ (al_ (al_ (al_ (t16_ (t4_ (t1_ (t1_ h1_))))))))) (sw_cons (t1_ (al_ (al_ (al_ (al_ (t16_ (t4_ (t1_ (t1_ (t1_ h1_)))))))))) (sw_cons (t1_ (al_ (al_ (al_ (ar_ h1_))))) (sw_cons (t1_ (al_ (al_ (al_ (ar_ (t1_ h1_)))))) sw_nil)))) (by decide +kernel)) ggX9_chance_X4_become
theorem dX9_chance_0 : decode cX9_chance 0 = .ok (.iload_n 1, 1) := by decide +kernel
theorem dX9_chance_1 : decode cX9_chance 1 = .ok (.ifCond .lt 19, 3) := by decide +kernel
theorem dX9_chance_4 : decode cX9_chance 4 = .ok (.iload_n 1, 1) := by decide +kernel
theorem dX9_chance_5 : decode cX9_chance 5 = .ok (.iload_n 2, 1) := by decide +kernel
theorem dX9_chance_6 : decode cX9_chance 6 = .ok (.if_icmp .gt 14, 3) := by decide +kernel
theorem dX9_chance_9 : decode cX9_chance 9 = .ok (.iload_n 2, 1) := by decide +kernel
theorem dX9_chance_10 : decode cX9_chance 10 = .ok (.iconst 1, 1) := by decide +kernel
theorem dX9_chance_11 : decode cX9_chance 11 = .ok (.if_icmp .lt 9, 3) := by decide +kernel
theorem dX9_chance_14 : decode cX9_chance 14 = .ok (.iload_n 2, 1) := by decide +kernel
theorem dX9_chance_15 : decode cX9_chance 15 = .ok (.bipush 10, 2) := by decide +kernel
theorem dX9_chance_17 : decode cX9_chance 17 = .ok (.if_icmp .le 6, 3) := by decide +kernel
theorem dX9_chance_20 : decode cX9_chance 20 = .ok (.bipush (-2), 2) := by decide +kernel
theorem dX9_chance_22 : decode cX9_chance 22 = .ok (.ireturn, 1) := by decide +kernel
theorem dX9_chance_23 : decode cX9_chance 23 = .ok (.lconst 0, 1) := by decide +kernel
theorem dX9_chance_24 : decode cX9_chance 24 = .ok (.lstore_n 3, 1) := by decide +kernel
theorem dX9_chance_25 : decode cX9_chance 25 = .ok (.iconst 0, 1) := by decide +kernel
theorem dX9_chance_26 : decode cX9_chance 26 = .ok (.istore 5, 2) := by decide +kernel
theorem dX9_chance_28 : decode cX9_chance 28 = .ok (.iload 5, 2) := by decide +kernel
theorem dX9_chance_30 : decode cX9_chance 30 = .ok (.aload_n 0, 1) := by decide +kernel
theorem dX9_chance_31 : decode cX9_chance 31 = .ok (.getfield 23, 3) := by decide +kernel
theorem dX9_chance_34 : decode cX9_chance 34 = .ok (.getfield 117, 3) := by decide +kernel
theorem dX9_chance_37 : decode cX9_chance 37 = .ok (.if_icmp .ge 54, 3) := by decide +kernel
theorem dX9_chance_40 : decode cX9_chance 40 = .ok (.aload_n 0, 1) := by decide +kernel
theorem dX9_chance_41 : decode cX9_chance 41 = .ok (.getfield 23, 3) := by decide +kernel
theorem dX9_chance_44 : decode cX9_chance 44 = .ok (.iload 5, 2) := by decide +kernel
theorem dX9_chance_46 : decode cX9_chance 46 = .ok (.invokevirtual 126, 3) := by decide +kernel
theorem dX9_chance_49 : decode cX9_chance 49 = .ok (.ifCond .eq 36, 3) := by decide +kernel
theorem dX9_chance_52 : decode cX9_chance 52 = .ok (.iload 5, 2) := by decide +kernel
theorem dX9_chance_54 : decode cX9_chance 54 = .ok (.invokestatic 133, 3) := by decide +kernel
theorem dX9_chance_57 : decode cX9_chance 57 = .ok (.istore 6, 2) := by decide +kernel
theorem dX9_chance_59 : decode cX9_chance 59 = .ok (.lload_n 3, 1) := by decide +kernel
theorem dX9_chance_60 : decode cX9_chance 60 = .ok (.iload_n 1, 1) := by decide +kernel
theorem dX9_chance_61 : decode cX9_chance 61 = .ok (.iload 6, 2) := by decide +kernel
theorem dX9_chance_63 : decode cX9_chance 63 = .ok (.invokestatic 192, 3) := by decide +kernel
theorem dX9_chance_66 : decode cX9_chance 66 = .ok (.iload_n 2, 1) := by decide +kernel
theorem dX9_chance_67 : decode cX9_chance 67 = .ok (.iload_n 1, 1) := by decide +kernel
theorem dX9_chance_68 : decode cX9_chance 68 = .ok (.isub, 1) := by decide +kernel
theorem dX9_chance_69 : decode cX9_chance 69 = .ok (.aload_n 0, 1) := by decide +kernel
theorem dX9_chance_70 : decode cX9_chance 70 = .ok (.getfield 23, 3) := by decide +kernel
theorem dX9_chance_73 : decode cX9_chance 73 = .ok (.getfield 138, 3) := by decide +kernel
theorem dX9_chance_76 : decode cX9_chance 76 = .ok (.iload 6, 2) := by decide +kernel
theorem dX9_chance_78 : decode cX9_chance 78 = .ok (.isub, 1) := by decide +kernel
theorem dX9_chance_79 : decode cX9_chance 79 = .ok (.invokestatic 192, 3) := by decide +kernel
theorem dX9_chance_82 : decode cX9_chance 82 = .ok (.lmul, 1) := by decide +kernel
theorem dX9_chance_83 : decode cX9_chance 83 = .ok (.ladd, 1) := by decide +kernel
theorem dX9_chance_84 : decode cX9_chance 84 = .ok (.lstore_n 3, 1) := by decide +kernel
theorem dX9_chance_85 : decode cX9_chance 85 = .ok (.iinc 5 1, 3) := by decide +kernel
theorem dX9_chance_88 : decode cX9_chance 88 = .ok (.goto (-60), 3) := by decide +kernel
theorem dX9_chance_91 : decode cX9_chance 91 = .ok (.aload_n 0, 1) := by decide +kernel
theorem dX9_chance_92 : decode cX9_chance 92 = .ok (.getfield 33, 3) := by decide +kernel
theorem dX9_chance_95 : decode cX9_chance 95 = .ok (.lload_n 3, 1) := by decide +kernel
theorem dX9_chance_96 : decode cX9_chance 96 = .ok (.iload_n 2, 1) := by decide +kernel
theorem dX9_chance_97 : decode cX9_chance 97 = .ok (.aload_n 0, 1) := by decide +kernel
theorem dX9_chance_98 : decode cX9_chance 98 = .ok (.getfield 23, 3) := by decide +kernel
theorem dX9_chance_101 : decode cX9_chance 101 = .ok (.getfield 138, 3) := by decide +kernel
theorem dX9_chance_104 : decode cX9_chance 104 = .ok (.invokestatic 192, 3) := by decide +kernel
theorem dX9_chance_107 : decode cX9_chance 107 = .ok (.invokevirtual 158, 3) := by decide +kernel
theorem dX9_chance_110 : decode cX9_chance 110 = .ok (.iconst 1, 1) := by decide +kernel
theorem dX9_chance_111 : decode cX9_chance 111 = .ok (.ireturn, 1) := by decide +kernel
set_option maxRecDepth 20000 in
theorem ggX9_part_X9_isZeroOrOne : GoodIn wsX9_part wsX9_isZeroOrOne := sw_good (sw_cons (t1_ (al_ (al_ (t4_ (t1_ (t1_ (t1_ h1_))))))) sw_nil) (by decide +kernel)
set_option maxRecDepth 20000 in
theorem gX9_part_X9_isZeroOrOne : GoodIn wsX9_part (va_wsS RX9 123 yX9_isZeroOrOne wsX9_isZeroOrOne) := goodIn_app (sw_good (sw_cons (t1_ (al_ (al_ (t4_ h1_)))) (sw_cons (t1_ (al_ (al_ (t4_ (t1_ h1_))))) (sw_cons (t1_ (al_ (al_ (t4_ (t1_ (t1_ h1_)))))) sw_nil))) (by decide +kernel)) ggX9_part_X9_isZeroOrOne
theorem dX9_part_0 : decode cX9_part 0 = .ok (.iload_n 1, 1) := by decide +kernel
theorem dX9_part_1 : decode cX9_part 1 = .ok (.invokestatic 123, 3) := by decide +kernel
theorem dX9_part_4 : decode cX9_part 4 = .ok (.ifCond .ne 7, 3) := by decide +kernel
theorem dX9_part_7 : decode cX9_part 7 = .ok (.ldc2_w 196, 3) := by decide +kernel
theorem dX9_part_10 : decode cX9_part 10 = .ok (.lreturn, 1) := by decide +kernel
theorem dX9_part_11 : decode cX9_part 11 = .ok (.iload_n 1, 1) := by decide +kernel
theorem dX9_part_12 : decode cX9_part 12 = .ok (.ifCond .ne 13, 3) := by decide +kernel
theorem dX9_part_15 : decode cX9_part 15 = .ok (.aload_n 0, 1) := by decide +kernel
theorem dX9_part_16 : decode cX9_part 16 = .ok (.getfield 33, 3) := by decide +kernel
theorem dX9_part_19 : decode cX9_part 19 = .ok (.getfield 198, 3) := by decide +kernel
theorem dX9_part_22 : decode cX9_part 22 = .ok (.goto 10, 3) := by decide +kernel
theorem dX9_part_25 : decode cX9_part 25 = .ok (.aload_n 0, 1) := by decide +kernel
theorem dX9_part_26 : decode cX9_part 26 = .ok (.getfield 33, 3) := by decide +kernel
theorem dX9_part_29 : decode cX9_part 29 = .ok (.getfield 201, 3) := by decide +kernel
theorem dX9_part_32 : decode cX9_part 32 = .ok (.lreturn, 1) := by decide +kernel
set_option maxRecDepth 20000 in
theorem ggX9_swings_X9_isElement : GoodIn wsX9_swings wsX9_isElement := sw_good (sw_cons (t1_ (al_ (al_ (t4_ (t1_ (t1_ h1_)))))) (sw_app (sw_app (sw_cons (t1_ (al_ (al_ h1_))) (sw_cons (t1_ (al_ (al_ (t4_ (t1_ (t1_ (t1_ h1_))))))) sw_nil)) (fun _ h => (t1_ (al_ (ar_ h))))) (fun _ h => (t1_ (ar_ h))))) (by decide +kernel)
set_option maxRecDepth 20000 in
theorem gX9_swings_X9_isElement : GoodIn wsX9_swings (wsV RX9 114 RX9 yX9_isElement wsX9_isElement) := goodIn_app (sw_good (sw_cons (t1_ (al_ (al_ (t1_ (t1_ h1_))))) (sw_cons (t1_ (al_ (al_ (t1_ (t1_ (t1_ h1_)))))) (sw_cons (t1_ (al_ (al_ (t4_ h1_)))) (sw_cons (t1_ (al_ (al_ (t4_ (t1_ h1_))))) sw_nil)))) (by decide +kernel)) ggX9_swings_X9_isElement
set_option maxRecDepth 20000 in
theorem ggX9_swings_X9_has : GoodIn wsX9_swings wsX9_has := sw_good (sw_cons (t1_ (al_ (al_ (t4_ (t4_ (t1_ (t1_ h1_))))))) sw_nil) (by decide +kernel)
set_option maxRecDepth 20000 in
theorem gX9_swings_X9_has : GoodIn wsX9_swings (va_wsS RX9 203 yX9_has wsX9_has) := goodIn_app (sw_good (sw_cons (t1_ (al_ (al_ (t4_ (t4_ h1_))))) (sw_cons (t1_ (al_ (al_ (t4_ (t4_ (t1_ h1_)))))) (sw_cons (t1_ (al_ (al_ (t4_ (t1_ h1_))))) sw_nil))) (by decide +kernel)) ggX9_swings_X9_has
set_option maxRecDepth 20000 in
theorem ggX9_swings_X6_isMeeter : GoodIn wsX9_swings wsX6_isMeeter := sw_good (sw_cons (t1_ (al_ (al_ (t4_ (t4_ (t4_ (t1_ (t1_ (t1_ h1_))))))))) (sw_app (sw_cons (t1_ (al_ (al_ (t16_ h1_)))) (sw_cons (t1_ (al_ (al_ (t16_ (t1_ h1_))))) sw_nil)) (fun _ h => (t1_ (ar_ h))))) (by decide +kernel)
set_option maxRecDepth 20000 in
theorem gX9_swings_X6_isMeeter : GoodIn wsX9_swings (wsV RX9 126 RX6 yX6_isMeeter wsX6_isMeeter) := goodIn_app (sw_good (sw_cons (t1_ (al_ (al_ (t4_ (t4_ (t1_ (t1_ (t1_ h1_)))))))) (sw_cons (t1_ (al_ (al_ (t4_ (t4_ (t4_ h1_)))))) (sw_cons (t1_ (al_ (al_ (t4_ (t4_ (t4_ (t1_ h1_))))))) (sw_cons (t1_ (al_ (al_ (t4_ (t4_ (t4_ (t1_ (t1_ h1_)))))))) sw_nil)))) (by decide +kernel)) ggX9_swings_X6_isMeeter
theorem dX9_swings_0 : decode cX9_swings 0 = .ok (.aload_n 0, 1) := by decide +kernel
theorem dX9_swings_1 : decode cX9_swings 1 = .ok (.iload_n 1, 1) := by decide +kernel
theorem dX9_swings_2 : decode cX9_swings 2 = .ok (.invokevirtual 114, 3) := by decide +kernel
theorem dX9_swings_5 : decode cX9_swings 5 = .ok (.ifCond .ne 6, 3) := by decide +kernel
theorem dX9_swings_8 : decode cX9_swings 8 = .ok (.bipush (-2), 2) := by decide +kernel
theorem dX9_swings_10 : decode cX9_swings 10 = .ok (.ireturn, 1) := by decide +kernel
theorem dX9_swings_11 : decode cX9_swings 11 = .ok (.iconst 0, 1) := by decide +kernel
theorem dX9_swings_12 : decode cX9_swings 12 = .ok (.istore_n 2, 1) := by decide +kernel
theorem dX9_swings_13 : decode cX9_swings 13 = .ok (.iconst 0, 1) := by decide +kernel
theorem dX9_swings_14 : decode cX9_swings 14 = .ok (.istore_n 3, 1) := by decide +kernel
theorem dX9_swings_15 : decode cX9_swings 15 = .ok (.iload_n 3, 1) := by decide +kernel
theorem dX9_swings_16 : decode cX9_swings 16 = .ok (.aload_n 0, 1) := by decide +kernel
theorem dX9_swings_17 : decode cX9_swings 17 = .ok (.getfield 23, 3) := by decide +kernel
theorem dX9_swings_20 : decode cX9_swings 20 = .ok (.getfield 117, 3) := by decide +kernel
theorem dX9_swings_23 : decode cX9_swings 23 = .ok (.if_icmp .ge 46, 3) := by decide +kernel
theorem dX9_swings_26 : decode cX9_swings 26 = .ok (.iload_n 3, 1) := by decide +kernel
theorem dX9_swings_27 : decode cX9_swings 27 = .ok (.iload_n 1, 1) := by decide +kernel
theorem dX9_swings_28 : decode cX9_swings 28 = .ok (.invokestatic 203, 3) := by decide +kernel
theorem dX9_swings_31 : decode cX9_swings 31 = .ok (.ifCond .ne 32, 3) := by decide +kernel
theorem dX9_swings_34 : decode cX9_swings 34 = .ok (.aload_n 0, 1) := by decide +kernel
theorem dX9_swings_35 : decode cX9_swings 35 = .ok (.getfield 23, 3) := by decide +kernel
theorem dX9_swings_38 : decode cX9_swings 38 = .ok (.iload_n 3, 1) := by decide +kernel
theorem dX9_swings_39 : decode cX9_swings 39 = .ok (.invokevirtual 126, 3) := by decide +kernel
theorem dX9_swings_42 : decode cX9_swings 42 = .ok (.ifCond .ne 21, 3) := by decide +kernel
theorem dX9_swings_45 : decode cX9_swings 45 = .ok (.aload_n 0, 1) := by decide +kernel
theorem dX9_swings_46 : decode cX9_swings 46 = .ok (.getfield 23, 3) := by decide +kernel
theorem dX9_swings_49 : decode cX9_swings 49 = .ok (.iload_n 3, 1) := by decide +kernel
theorem dX9_swings_50 : decode cX9_swings 50 = .ok (.iconst 1, 1) := by decide +kernel
theorem dX9_swings_51 : decode cX9_swings 51 = .ok (.iload_n 1, 1) := by decide +kernel
theorem dX9_swings_52 : decode cX9_swings 52 = .ok (.ishl, 1) := by decide +kernel
theorem dX9_swings_53 : decode cX9_swings 53 = .ok (.ior, 1) := by decide +kernel
theorem dX9_swings_54 : decode cX9_swings 54 = .ok (.invokevirtual 126, 3) := by decide +kernel
theorem dX9_swings_57 : decode cX9_swings 57 = .ok (.ifCond .eq 6, 3) := by decide +kernel
theorem dX9_swings_60 : decode cX9_swings 60 = .ok (.iinc 2 1, 3) := by decide +kernel
theorem dX9_swings_63 : decode cX9_swings 63 = .ok (.iinc 3 1, 3) := by decide +kernel
theorem dX9_swings_66 : decode cX9_swings 66 = .ok (.goto (-51), 3) := by decide +kernel
theorem dX9_swings_69 : decode cX9_swings 69 = .ok (.iload_n 2, 1) := by decide +kernel
theorem dX9_swings_70 : decode cX9_swings 70 = .ok (.ireturn, 1) := by decide +kernel
set_option maxRecDepth 20000 in
theorem ggX9_questions_X9_isZeroOrOne : GoodIn wsX9_questions wsX9_isZeroOrOne := sw_good (sw_cons (t1_ (al_ (al_ (al_ (al_ (t4_ (t1_ (t1_ h1_)))))))) sw_nil) (by decide +kernel)
set_option maxRecDepth 20000 in
theorem gX9_questions_X9_isZeroOrOne : GoodIn wsX9_questions (va_wsS RX9 123 yX9_isZeroOrOne wsX9_isZeroOrOne) := goodIn_app (sw_good (sw_cons (t1_ (al_ (al_ (al_ (al_ (t1_ (t1_ (t1_ h1_)))))))) (sw_cons (t1_ (al_ (al_ (al_ (al_ (t4_ h1_)))))) (sw_cons (t1_ (al_ (al_ (al_ (al_ (t4_ (t1_ h1_))))))) sw_nil))) (by decide +kernel)) ggX9_questions_X9_isZeroOrOne
set_option maxRecDepth 20000 in
theorem ggX9_questions_X0_prepare : GoodIn wsX9_questions wsX0_prepare := sw_good (sw_cons (t1_ (al_ (al_ (al_ (al_ (t4_ (t4_ (t1_ (t1_ (t1_ h1_)))))))))) (sw_app (sw_app (sw_cons (t1_ (al_ (al_ (al_ (al_ (t4_ (t4_ (t4_ h1_)))))))) (sw_cons (t1_ (al_ (al_ (al_ (al_ (t4_ (t4_ (t4_ (t1_ h1_))))))))) (sw_cons (t1_ (al_ (al_ (al_ (al_ (t4_ (t4_ (t4_ (t1_ (t1_ h1_)))))))))) (sw_cons (t1_ (al_ (al_ (al_ (al_ (t4_ (t4_ (t4_ (t1_ (t1_ (t1_ h1_))))))))))) (sw_cons (t1_ (al_ (al_ (al_ (al_ (t16_ h1_)))))) (sw_cons (t1_ (al_ (al_ (al_ (al_ (t16_ (t1_ h1_))))))) (sw_cons (t1_ (al_ (al_ (al_ (al_ (t16_ (t1_ (t1_ h1_)))))))) (sw_cons (t1_ (al_ (al_ (al_ (al_ (t16_ (t1_ (t1_ (t1_ h1_))))))))) (sw_cons (t1_ (al_ (al_ (al_ (al_ (t16_ (t4_ h1_))))))) (sw_cons (t1_ (al_ (al_ (al_ (al_ (t16_ (t4_ (t1_ h1_)))))))) (sw_cons (t1_ (al_ (al_ (al_ (al_ (t16_ (t4_ (t1_ (t1_ h1_))))))))) (sw_cons (t1_ (al_ (al_ (al_ (al_ (t4_ (t1_ h1_))))))) (sw_cons (t1_ (al_ (al_ (al_ (al_ (t16_ (t4_ (t1_ (t1_ (t1_ h1_)))))))))) sw_nil))))))))))))) (fun _ h => (t1_ (ar_ h)))) (fun _ h => (t1_ (al_ (ar_ h)))))) (by decide +kernel)
set_option maxRecDepth 20000 in
theorem gX9_questions_X0_prepare : GoodIn wsX9_questions (wsV RX9 207 RX0 yX0_prepare wsX0_prepare) := goodIn_app (sw_good (sw_cons (t1_ (al_ (al_ (al_ (al_ (t4_ (t1_ (t1_ (t1_ h1_))))))))) (sw_cons (t1_ (al_ (al_ (al_ (al_ (t4_ (t4_ h1_))))))) (sw_cons (t1_ (al_ (al_ (al_ (al_ (t4_ (t4_ (t1_ h1_)))))))) (sw_cons (t1_ (al_ (al_ (al_ (al_ (t4_ (t4_ (t1_ (t1_ h1_))))))))) sw_nil)))) (by decide +kernel)) ggX9_questions_X0_prepare
set_option maxRecDepth 20000 in
theorem ggX9_questions_X0_fewestAtWorst : GoodIn wsX9_questions wsX0_fewestAtWorst := sw_good (sw_cons (t1_ (al_ (al_ (al_ (ar_ (al_ (t1_ (t1_ (t1_ h1_))))))))) (sw_app (sw_app (sw_app (sw_cons (t1_ (al_ (al_ (al_ (ar_ (al_ (t4_ h1_))))))) (sw_cons (t1_ (al_ (al_ (al_ (ar_ (al_ (t4_ (t1_ h1_)))))))) (sw_cons (t1_ (al_ (al_ (al_ (ar_ (al_ (t4_ (t1_ (t1_ h1_))))))))) (sw_cons (t1_ (al_ (al_ (al_ (al_ (t4_ (t4_ (t1_ (t1_ h1_))))))))) (sw_cons (t1_ (al_ (al_ (al_ (ar_ (al_ (t4_ (t1_ (t1_ (t1_ h1_)))))))))) (sw_cons (t1_ (al_ (al_ (al_ (al_ (t4_ (t4_ (t4_ (t1_ h1_))))))))) (sw_cons (t1_ (al_ (al_ (al_ (al_ (t16_ h1_)))))) (sw_cons (t1_ (al_ (al_ (al_ (ar_ (al_ (t4_ (t4_ h1_)))))))) (sw_cons (t1_ (al_ (al_ (al_ (ar_ (al_ (t4_ (t4_ (t1_ h1_))))))))) (sw_cons (t1_ (al_ (al_ (al_ (ar_ (al_ (t4_ (t4_ (t1_ (t1_ h1_)))))))))) (sw_cons (t1_ (al_ (al_ (al_ (ar_ (al_ (t4_ (t4_ (t1_ (t1_ (t1_ h1_))))))))))) (sw_cons (t1_ (al_ (al_ (al_ (ar_ (al_ (t4_ (t4_ (t4_ h1_))))))))) (sw_cons (t1_ (al_ (al_ (al_ (ar_ (al_ (t4_ (t4_ (t4_ (t1_ h1_)))))))))) (sw_cons (t1_ (al_ (al_ (al_ (ar_ (al_ (t4_ (t4_ (t4_ (t1_ (t1_ h1_))))))))))) (sw_cons (t1_ (al_ (al_ (al_ (ar_ (al_ (t4_ (t4_ (t4_ (t1_ (t1_ (t1_ h1_)))))))))))) (sw_cons (t1_ (al_ (al_ (al_ (al_ (t4_ (t4_ (t4_ h1_)))))))) (sw_cons (t1_ (al_ (al_ (al_ (al_ (t4_ (t4_ (t4_ (t1_ (t1_ h1_)))))))))) (sw_cons (t1_ (al_ (al_ (al_ (ar_ (al_ (t16_ h1_))))))) (sw_cons (t1_ (al_ (al_ (al_ (ar_ (al_ (t16_ (t1_ h1_)))))))) (sw_cons (t1_ (al_ (al_ (al_ (ar_ (al_ (t16_ (t1_ (t1_ h1_))))))))) (sw_cons (t1_ (al_ (al_ (al_ (ar_ (al_ (t16_ (t1_ (t1_ (t1_ h1_)))))))))) (sw_cons (t1_ (al_ (al_ (al_ (ar_ (al_ (t16_ (t4_ h1_)))))))) (sw_cons (t1_ (al_ (al_ (al_ (ar_ (al_ (t16_ (t4_ (t1_ h1_))))))))) (sw_cons (t1_ (al_ (al_ (al_ (ar_ (al_ (t16_ (t4_ (t1_ (t1_ h1_)))))))))) sw_nil)))))))))))))))))))))))) (sw_cons (t1_ (al_ (al_ (al_ (ar_ (al_ (t16_ (t4_ (t1_ (t1_ (t1_ h1_))))))))))) (sw_cons (t1_ (al_ (al_ (al_ (ar_ (ar_ h1_)))))) (sw_cons (t1_ (al_ (al_ (al_ (ar_ (ar_ (t1_ h1_))))))) (sw_cons (t1_ (al_ (al_ (al_ (ar_ (ar_ (t1_ (t1_ h1_)))))))) (sw_cons (t1_ (al_ (al_ (al_ (ar_ (ar_ (t1_ (t1_ (t1_ h1_))))))))) (sw_cons (t1_ (al_ (al_ (al_ (ar_ (ar_ (t4_ h1_))))))) (sw_cons (t1_ (al_ (al_ (al_ (ar_ (ar_ (t4_ (t1_ h1_)))))))) (sw_cons (t1_ (al_ (al_ (al_ (al_ (t4_ (t4_ (t4_ (t1_ (t1_ (t1_ h1_))))))))))) (sw_cons (t1_ (al_ (al_ (al_ (ar_ (ar_ (t4_ (t1_ (t1_ h1_))))))))) (sw_cons (t1_ (al_ (al_ (al_ (ar_ (ar_ (t4_ (t1_ (t1_ (t1_ h1_)))))))))) (sw_cons (t1_ (al_ (al_ (al_ (ar_ (ar_ (t4_ (t4_ h1_)))))))) (sw_cons (t1_ (al_ (al_ (al_ (ar_ (ar_ (t4_ (t4_ (t1_ h1_))))))))) (sw_cons (t1_ (al_ (al_ (al_ (ar_ (ar_ (t4_ (t4_ (t1_ (t1_ h1_)))))))))) (sw_cons (t1_ (al_ (al_ (al_ (ar_ (ar_ (t4_ (t4_ (t1_ (t1_ (t1_ h1_))))))))))) (sw_cons (t1_ (al_ (al_ (al_ (ar_ (ar_ (t4_ (t4_ (t4_ h1_))))))))) sw_nil)))))))))))))))) (fun _ h => (t1_ (ar_ h)))) (fun _ h => (t1_ (al_ (ar_ h)))))) (by decide +kernel)
set_option maxRecDepth 20000 in
theorem gX9_questions_X0_fewestAtWorst : GoodIn wsX9_questions (wsV RX9 210 RX0 yX0_fewestAtWorst wsX0_fewestAtWorst) := goodIn_app (sw_good (sw_cons (t1_ (al_ (al_ (al_ (ar_ (al_ h1_)))))) (sw_cons (t1_ (al_ (al_ (al_ (ar_ (al_ (t1_ h1_))))))) (sw_cons (t1_ (al_ (al_ (al_ (ar_ (al_ (t1_ (t1_ h1_)))))))) (sw_cons (t1_ (al_ (al_ (al_ (al_ (t4_ (t4_ (t1_ (t1_ h1_))))))))) sw_nil)))) (by decide +kernel)) ggX9_questions_X0_fewestAtWorst
set_option maxRecDepth 20000 in
theorem ggX9_questions_X0_firstToAsk : GoodIn wsX9_questions wsX0_firstToAsk := sw_good (sw_cons (t1_ (al_ (al_ (al_ (ar_ (ar_ (t16_ h1_))))))) (sw_app (sw_app (sw_app (sw_cons (t1_ (al_ (al_ (al_ (al_ (t4_ (t4_ (t4_ (t1_ h1_))))))))) (sw_cons (t1_ (al_ (al_ (al_ (al_ (t4_ (t4_ (t4_ (t1_ (t1_ h1_)))))))))) (sw_cons (t1_ (al_ (al_ (al_ (ar_ (al_ (t4_ h1_))))))) (sw_cons (t1_ (al_ (al_ (al_ (ar_ (al_ (t4_ (t1_ h1_)))))))) (sw_cons (t1_ (al_ (al_ (al_ (ar_ (al_ (t4_ (t1_ (t1_ h1_))))))))) (sw_cons (t1_ (al_ (al_ (al_ (al_ (t4_ (t4_ (t1_ (t1_ h1_))))))))) (sw_cons (t1_ (al_ (al_ (al_ (ar_ (al_ (t4_ (t1_ (t1_ (t1_ h1_)))))))))) (sw_cons (t1_ (al_ (al_ (al_ (al_ (t16_ h1_)))))) (sw_cons (t1_ (al_ (al_ (al_ (ar_ (al_ (t4_ (t4_ h1_)))))))) (sw_cons (t1_ (al_ (al_ (al_ (ar_ (al_ (t4_ (t4_ (t1_ h1_))))))))) (sw_cons (t1_ (al_ (al_ (al_ (ar_ (al_ (t4_ (t4_ (t1_ (t1_ h1_)))))))))) (sw_cons (t1_ (al_ (al_ (al_ (ar_ (al_ (t4_ (t4_ (t1_ (t1_ (t1_ h1_))))))))))) (sw_cons (t1_ (al_ (al_ (al_ (ar_ (al_ (t4_ (t4_ (t4_ h1_))))))))) (sw_cons (t1_ (al_ (al_ (al_ (ar_ (al_ (t4_ (t4_ (t4_ (t1_ h1_)))))))))) (sw_cons (t1_ (al_ (al_ (al_ (ar_ (al_ (t4_ (t4_ (t4_ (t1_ (t1_ h1_))))))))))) (sw_cons (t1_ (al_ (al_ (al_ (ar_ (al_ (t4_ (t4_ (t4_ (t1_ (t1_ (t1_ h1_)))))))))))) (sw_cons (t1_ (al_ (al_ (al_ (al_ (t4_ (t4_ (t4_ h1_)))))))) (sw_cons (t1_ (al_ (al_ (al_ (ar_ (al_ (t16_ h1_))))))) (sw_cons (t1_ (al_ (al_ (al_ (ar_ (al_ (t16_ (t1_ h1_)))))))) (sw_cons (t1_ (al_ (al_ (al_ (ar_ (al_ (t16_ (t1_ (t1_ h1_))))))))) (sw_cons (t1_ (al_ (al_ (al_ (ar_ (al_ (t16_ (t1_ (t1_ (t1_ h1_)))))))))) (sw_cons (t1_ (al_ (al_ (al_ (ar_ (al_ (t16_ (t4_ h1_)))))))) (sw_cons (t1_ (al_ (al_ (al_ (ar_ (al_ (t16_ (t4_ (t1_ h1_))))))))) (sw_cons (t1_ (al_ (al_ (al_ (ar_ (al_ (t16_ (t4_ (t1_ (t1_ h1_)))))))))) sw_nil)))))))))))))))))))))))) (sw_cons (t1_ (al_ (al_ (al_ (ar_ (al_ (t16_ (t4_ (t1_ (t1_ (t1_ h1_))))))))))) (sw_cons (t1_ (al_ (al_ (al_ (ar_ (ar_ h1_)))))) (sw_cons (t1_ (al_ (al_ (al_ (ar_ (ar_ (t1_ h1_))))))) (sw_cons (t1_ (al_ (al_ (al_ (ar_ (ar_ (t1_ (t1_ h1_)))))))) (sw_cons (t1_ (al_ (al_ (al_ (ar_ (ar_ (t1_ (t1_ (t1_ h1_))))))))) (sw_cons (t1_ (al_ (al_ (al_ (ar_ (ar_ (t4_ h1_))))))) (sw_cons (t1_ (al_ (al_ (al_ (ar_ (ar_ (t4_ (t1_ h1_)))))))) (sw_cons (t1_ (al_ (al_ (al_ (al_ (t4_ (t4_ (t4_ (t1_ (t1_ (t1_ h1_))))))))))) (sw_cons (t1_ (al_ (al_ (al_ (ar_ (ar_ (t4_ (t1_ (t1_ h1_))))))))) (sw_cons (t1_ (al_ (al_ (al_ (ar_ (ar_ (t4_ (t1_ (t1_ (t1_ h1_)))))))))) (sw_cons (t1_ (al_ (al_ (al_ (ar_ (ar_ (t4_ (t4_ h1_)))))))) (sw_cons (t1_ (al_ (al_ (al_ (ar_ (ar_ (t4_ (t4_ (t1_ h1_))))))))) (sw_cons (t1_ (al_ (al_ (al_ (ar_ (ar_ (t4_ (t4_ (t1_ (t1_ h1_)))))))))) (sw_cons (t1_ (al_ (al_ (al_ (ar_ (ar_ (t4_ (t4_ (t1_ (t1_ (t1_ h1_))))))))))) (sw_cons (t1_ (al_ (al_ (al_ (ar_ (ar_ (t4_ (t4_ (t4_ h1_))))))))) sw_nil)))))))))))))))) (fun _ h => (t1_ (ar_ h)))) (fun _ h => (t1_ (al_ (ar_ h)))))) (by decide +kernel)
set_option maxRecDepth 20000 in
theorem gX9_questions_X0_firstToAsk : GoodIn wsX9_questions (wsV RX9 213 RX0 yX0_firstToAsk wsX0_firstToAsk) := goodIn_app (sw_good (sw_cons (t1_ (al_ (al_ (al_ (ar_ (ar_ (t4_ (t4_ (t4_ (t1_ h1_)))))))))) (sw_cons (t1_ (al_ (al_ (al_ (ar_ (ar_ (t4_ (t4_ (t4_ (t1_ (t1_ h1_))))))))))) (sw_cons (t1_ (al_ (al_ (al_ (ar_ (ar_ (t4_ (t4_ (t4_ (t1_ (t1_ (t1_ h1_)))))))))))) (sw_cons (t1_ (al_ (al_ (al_ (al_ (t4_ (t4_ (t1_ (t1_ h1_))))))))) sw_nil)))) (by decide +kernel)) ggX9_questions_X0_firstToAsk
theorem dX9_questions_0 : decode cX9_questions 0 = .ok (.iload_n 1, 1) := by decide +kernel
theorem dX9_questions_1 : decode cX9_questions 1 = .ok (.invokestatic 123, 3) := by decide +kernel
theorem dX9_questions_4 : decode cX9_questions 4 = .ok (.ifCond .ne 6, 3) := by decide +kernel
theorem dX9_questions_7 : decode cX9_questions 7 = .ok (.bipush (-2), 2) := by decide +kernel
theorem dX9_questions_9 : decode cX9_questions 9 = .ok (.ireturn, 1) := by decide +kernel
theorem dX9_questions_10 : decode cX9_questions 10 = .ok (.aload_n 0, 1) := by decide +kernel
theorem dX9_questions_11 : decode cX9_questions 11 = .ok (.getfield 23, 3) := by decide +kernel
theorem dX9_questions_14 : decode cX9_questions 14 = .ok (.getfield 106, 3) := by decide +kernel
theorem dX9_questions_17 : decode cX9_questions 17 = .ok (.ifCond .eq 15, 3) := by decide +kernel
theorem dX9_questions_20 : decode cX9_questions 20 = .ok (.aload_n 0, 1) := by decide +kernel
theorem dX9_questions_21 : decode cX9_questions 21 = .ok (.getfield 23, 3) := by decide +kernel
theorem dX9_questions_24 : decode cX9_questions 24 = .ok (.getfield 106, 3) := by decide +kernel
theorem dX9_questions_27 : decode cX9_questions 27 = .ok (.bipush 12, 2) := by decide +kernel
theorem dX9_questions_29 : decode cX9_questions 29 = .ok (.if_icmp .le 6, 3) := by decide +kernel
theorem dX9_questions_32 : decode cX9_questions 32 = .ok (.bipush (-3), 2) := by decide +kernel
theorem dX9_questions_34 : decode cX9_questions 34 = .ok (.ireturn, 1) := by decide +kernel
theorem dX9_questions_35 : decode cX9_questions 35 = .ok (.aload_n 0, 1) := by decide +kernel
theorem dX9_questions_36 : decode cX9_questions 36 = .ok (.getfield 84, 3) := by decide +kernel
theorem dX9_questions_39 : decode cX9_questions 39 = .ok (.invokevirtual 207, 3) := by decide +kernel
theorem dX9_questions_42 : decode cX9_questions 42 = .ok (.iload_n 1, 1) := by decide +kernel
theorem dX9_questions_43 : decode cX9_questions 43 = .ok (.ifCond .ne 13, 3) := by decide +kernel
theorem dX9_questions_46 : decode cX9_questions 46 = .ok (.aload_n 0, 1) := by decide +kernel
theorem dX9_questions_47 : decode cX9_questions 47 = .ok (.getfield 84, 3) := by decide +kernel
theorem dX9_questions_50 : decode cX9_questions 50 = .ok (.invokevirtual 210, 3) := by decide +kernel
theorem dX9_questions_53 : decode cX9_questions 53 = .ok (.goto 10, 3) := by decide +kernel
theorem dX9_questions_56 : decode cX9_questions 56 = .ok (.aload_n 0, 1) := by decide +kernel
theorem dX9_questions_57 : decode cX9_questions 57 = .ok (.getfield 84, 3) := by decide +kernel
theorem dX9_questions_60 : decode cX9_questions 60 = .ok (.invokevirtual 213, 3) := by decide +kernel
theorem dX9_questions_63 : decode cX9_questions 63 = .ok (.ireturn, 1) := by decide +kernel
theorem dX9_count_0 : decode cX9_count 0 = .ok (.iload_n 1, 1) := by decide +kernel
theorem dX9_count_1 : decode cX9_count 1 = .ok (.tableswitch 51 0 2 #[27, 35, 43], 27) := by decide +kernel
theorem dX9_count_28 : decode cX9_count 28 = .ok (.aload_n 0, 1) := by decide +kernel
theorem dX9_count_29 : decode cX9_count 29 = .ok (.getfield 23, 3) := by decide +kernel
theorem dX9_count_32 : decode cX9_count 32 = .ok (.getfield 138, 3) := by decide +kernel
theorem dX9_count_35 : decode cX9_count 35 = .ok (.ireturn, 1) := by decide +kernel
theorem dX9_count_36 : decode cX9_count 36 = .ok (.aload_n 0, 1) := by decide +kernel
theorem dX9_count_37 : decode cX9_count 37 = .ok (.getfield 23, 3) := by decide +kernel
theorem dX9_count_40 : decode cX9_count 40 = .ok (.getfield 106, 3) := by decide +kernel
theorem dX9_count_43 : decode cX9_count 43 = .ok (.ireturn, 1) := by decide +kernel
theorem dX9_count_44 : decode cX9_count 44 = .ok (.aload_n 0, 1) := by decide +kernel
theorem dX9_count_45 : decode cX9_count 45 = .ok (.getfield 27, 3) := by decide +kernel
theorem dX9_count_48 : decode cX9_count 48 = .ok (.getfield 106, 3) := by decide +kernel
theorem dX9_count_51 : decode cX9_count 51 = .ok (.ireturn, 1) := by decide +kernel
theorem dX9_count_52 : decode cX9_count 52 = .ok (.bipush (-2), 2) := by decide +kernel
theorem dX9_count_54 : decode cX9_count 54 = .ok (.ireturn, 1) := by decide +kernel
set_option maxRecDepth 20000 in
theorem ggX9_digest_X9_count : GoodIn wsX9_digest wsX9_count := sw_good (sw_cons (t1_ (al_ (al_ (al_ (al_ (al_ (al_ (t4_ (t4_ (t4_ (t1_ h1_))))))))))) (sw_app (sw_app (sw_cons (t1_ (al_ (al_ (al_ (al_ (al_ (al_ (t1_ (t1_ h1_))))))))) (sw_cons (t1_ (al_ (al_ (al_ (al_ (al_ (al_ (t4_ h1_)))))))) (sw_cons (t1_ (al_ (al_ (al_ (al_ (al_ (al_ (t4_ (t4_ (t4_ (t1_ (t1_ h1_)))))))))))) (sw_cons (t1_ (al_ (al_ (al_ (al_ (al_ (al_ (t1_ (t1_ (t1_ h1_)))))))))) sw_nil)))) (fun _ h => (t1_ (al_ (al_ (al_ (al_ (ar_ h)))))))) (fun _ h => (t1_ (al_ (al_ (al_ (ar_ h)))))))) (by decide +kernel)
set_option maxRecDepth 20000 in
theorem gX9_digest_X9_count : GoodIn wsX9_digest (wsV RX9 220 RX9 yX9_count wsX9_count) := goodIn_app (sw_good (sw_cons (t1_ (al_ (al_ (al_ (al_ (al_ (al_ (t4_ (t4_ (t1_ h1_)))))))))) (sw_cons (t1_ (al_ (al_ (al_ (al_ (al_ (al_ (t4_ (t4_ (t1_ (t1_ h1_))))))))))) (sw_cons (t1_ (al_ (al_ (al_ (al_ (al_ (al_ (t4_ (t4_ (t1_ (t1_ (t1_ h1_)))))))))))) (sw_cons (t1_ (al_ (al_ (al_ (al_ (al_ (al_ (t4_ (t4_ (t4_ h1_)))))))))) sw_nil)))) (by decide +kernel)) ggX9_digest_X9_count
set_option maxRecDepth 20000 in
theorem ggX9_digest_X6_mixedInto : GoodIn wsX9_digest wsX6_mixedInto := sw_good (sw_cons (t1_ (al_ (al_ (al_ (al_ (al_ (al_ (t16_ (t1_ (t1_ (t1_ h1_))))))))))) (sw_app (sw_cons (t1_ (al_ (al_ (al_ (al_ (al_ (al_ (t16_ (t4_ h1_))))))))) (sw_cons (t1_ (al_ (al_ (al_ (al_ (al_ (al_ (t16_ (t4_ (t1_ h1_)))))))))) (sw_cons (t1_ (al_ (al_ (al_ (al_ (al_ (al_ (t16_ (t4_ (t1_ (t1_ h1_))))))))))) sw_nil))) (fun _ h => (t1_ (al_ (al_ (al_ (ar_ h)))))))) (by decide +kernel)
set_option maxRecDepth 20000 in
theorem gX9_digest_X6_mixedInto : GoodIn wsX9_digest (wsV RX9 223 RX6 yX6_mixedInto wsX6_mixedInto) := goodIn_app (sw_good (sw_cons (t1_ (al_ (al_ (al_ (al_ (al_ (al_ (t4_ (t4_ (t4_ (t1_ (t1_ (t1_ h1_))))))))))))) (sw_cons (t1_ (al_ (al_ (al_ (al_ (al_ (al_ (t16_ h1_)))))))) (sw_cons (t1_ (al_ (al_ (al_ (al_ (al_ (al_ (t16_ (t1_ h1_))))))))) (sw_cons (t1_ (al_ (al_ (al_ (al_ (al_ (al_ (t16_ (t1_ (t1_ h1_)))))))))) sw_nil)))) (by decide +kernel)) ggX9_digest_X6_mixedInto
set_option maxRecDepth 20000 in
theorem ggX9_digest_X9_meeters : GoodIn wsX9_digest wsX9_meeters := sw_good (sw_cons (t1_ (al_ (al_ (al_ (al_ (al_ (ar_ (al_ (t1_ (t1_ h1_)))))))))) (sw_app (sw_app (sw_cons (t1_ (al_ (al_ (al_ (al_ (al_ (al_ (t1_ (t1_ h1_))))))))) (sw_cons (t1_ (al_ (al_ (al_ (al_ (al_ (ar_ (al_ (t1_ (t1_ (t1_ h1_))))))))))) (sw_cons (t1_ (al_ (al_ (al_ (al_ (al_ (ar_ (al_ (t4_ h1_))))))))) (sw_cons (t1_ (al_ (al_ (al_ (al_ (al_ (ar_ (al_ (t4_ (t1_ h1_)))))))))) (sw_cons (t1_ (al_ (al_ (al_ (al_ (al_ (ar_ (al_ (t4_ (t1_ (t1_ h1_))))))))))) (sw_cons (t1_ (al_ (al_ (al_ (al_ (al_ (al_ (t16_ (t1_ (t1_ h1_)))))))))) (sw_cons (t1_ (al_ (al_ (al_ (al_ (al_ (ar_ (al_ (t4_ (t1_ (t1_ (t1_ h1_)))))))))))) (sw_cons (t1_ (al_ (al_ (al_ (al_ (al_ (ar_ (al_ (t4_ (t4_ h1_)))))))))) (sw_cons (t1_ (al_ (al_ (al_ (al_ (al_ (ar_ (al_ (t4_ (t4_ (t1_ h1_))))))))))) (sw_cons (t1_ (al_ (al_ (al_ (al_ (al_ (ar_ (al_ (t4_ (t4_ (t1_ (t1_ h1_)))))))))))) (sw_cons (t1_ (al_ (al_ (al_ (al_ (al_ (ar_ (al_ (t4_ (t4_ (t1_ (t1_ (t1_ h1_))))))))))))) (sw_cons (t1_ (al_ (al_ (al_ (al_ (al_ (ar_ (al_ (t4_ (t4_ (t4_ h1_))))))))))) (sw_cons (t1_ (al_ (al_ (al_ (al_ (al_ (ar_ (al_ (t4_ (t4_ (t4_ (t1_ h1_)))))))))))) (sw_cons (t1_ (al_ (al_ (al_ (al_ (al_ (ar_ (al_ (t4_ (t4_ (t4_ (t1_ (t1_ h1_))))))))))))) (sw_cons (t1_ (al_ (al_ (al_ (al_ (al_ (ar_ (al_ (t4_ (t4_ (t4_ (t1_ (t1_ (t1_ h1_)))))))))))))) (sw_cons (t1_ (al_ (al_ (al_ (al_ (al_ (al_ (t4_ (t4_ (t4_ h1_)))))))))) (sw_cons (t1_ (al_ (al_ (al_ (al_ (al_ (ar_ (al_ (t16_ h1_))))))))) sw_nil))))))))))))))))) (fun _ h => (t1_ (al_ (al_ (al_ (al_ (ar_ h)))))))) (fun _ h => (t1_ (al_ (al_ (al_ (ar_ h)))))))) (by decide +kernel)
set_option maxRecDepth 20000 in
theorem gX9_digest_X9_meeters : GoodIn wsX9_digest (wsV RX9 141 RX9 yX9_meeters wsX9_meeters) := goodIn_app (sw_good (sw_cons (t1_ (al_ (al_ (al_ (al_ (al_ (al_ (t16_ (t4_ (t1_ (t1_ (t1_ h1_)))))))))))) (sw_cons (t1_ (al_ (al_ (al_ (al_ (al_ (ar_ (al_ h1_)))))))) (sw_cons (t1_ (al_ (al_ (al_ (al_ (al_ (ar_ (al_ (t1_ h1_))))))))) (sw_cons (t1_ (al_ (al_ (al_ (al_ (al_ (al_ (t4_ (t4_ (t4_ h1_)))))))))) sw_nil)))) (by decide +kernel)) ggX9_digest_X9_meeters
set_option maxRecDepth 20000 in
theorem ggX9_digest_X9_best : GoodIn wsX9_digest wsX9_best := sw_good (sw_cons (t1_ (al_ (al_ (al_ (al_ (al_ (ar_ (al_ (t16_ (t4_ h1_)))))))))) (sw_app (sw_app (sw_app (sw_cons (t1_ (al_ (al_ (al_ (al_ (al_ (al_ (t1_ (t1_ h1_))))))))) (sw_cons (t1_ (al_ (al_ (al_ (al_ (al_ (ar_ (al_ (t1_ (t1_ (t1_ h1_))))))))))) (sw_cons (t1_ (al_ (al_ (al_ (al_ (al_ (ar_ (al_ (t16_ (t4_ (t1_ h1_))))))))))) (sw_cons (t1_ (al_ (al_ (al_ (al_ (al_ (ar_ (al_ (t16_ (t4_ (t1_ (t1_ h1_)))))))))))) (sw_cons (t1_ (al_ (al_ (al_ (al_ (al_ (al_ (t4_ (t4_ (t4_ h1_)))))))))) (sw_cons (t1_ (al_ (al_ (al_ (al_ (al_ (ar_ (al_ (t16_ (t4_ (t1_ (t1_ (t1_ h1_))))))))))))) (sw_cons (t1_ (al_ (al_ (al_ (al_ (al_ (ar_ (ar_ (al_ h1_))))))))) (sw_cons (t1_ (al_ (al_ (al_ (al_ (al_ (ar_ (al_ (t4_ (t4_ (t1_ (t1_ h1_)))))))))))) (sw_cons (t1_ (al_ (al_ (al_ (al_ (al_ (ar_ (al_ (t4_ (t4_ (t1_ (t1_ (t1_ h1_))))))))))))) (sw_cons (t1_ (al_ (al_ (al_ (al_ (al_ (al_ (t16_ (t1_ (t1_ h1_)))))))))) (sw_cons (t1_ (al_ (al_ (al_ (al_ (al_ (ar_ (al_ (t4_ (t4_ (t4_ h1_))))))))))) (sw_cons (t1_ (al_ (al_ (al_ (al_ (al_ (ar_ (al_ (t4_ (t4_ (t4_ (t1_ h1_)))))))))))) (sw_cons (t1_ (al_ (al_ (al_ (al_ (al_ (ar_ (al_ (t4_ (t4_ (t4_ (t1_ (t1_ h1_))))))))))))) (sw_cons (t1_ (al_ (al_ (al_ (al_ (al_ (ar_ (ar_ (al_ (t1_ h1_)))))))))) (sw_cons (t1_ (al_ (al_ (al_ (al_ (al_ (ar_ (ar_ (al_ (t1_ (t1_ h1_))))))))))) (sw_cons (t1_ (al_ (al_ (al_ (al_ (al_ (ar_ (ar_ (al_ (t1_ (t1_ (t1_ h1_)))))))))))) (sw_cons (t1_ (al_ (al_ (al_ (al_ (al_ (ar_ (ar_ (al_ (t4_ h1_)))))))))) (sw_cons (t1_ (al_ (al_ (al_ (al_ (al_ (al_ (t4_ h1_)))))))) (sw_cons (t1_ (al_ (al_ (al_ (al_ (al_ (al_ (t4_ (t1_ h1_))))))))) (sw_cons (t1_ (al_ (al_ (al_ (al_ (al_ (ar_ (ar_ (al_ (t4_ (t1_ h1_))))))))))) (sw_cons (t1_ (al_ (al_ (al_ (al_ (al_ (ar_ (al_ (t4_ (t4_ (t4_ (t1_ (t1_ (t1_ h1_)))))))))))))) (sw_cons (t1_ (al_ (al_ (al_ (al_ (al_ (ar_ (al_ (t16_ h1_))))))))) (sw_cons (t1_ (al_ (al_ (al_ (al_ (al_ (ar_ (ar_ (al_ (t4_ (t1_ (t1_ h1_)))))))))))) (sw_cons (t1_ (al_ (al_ (al_ (al_ (al_ (ar_ (ar_ (al_ (t4_ (t1_ (t1_ (t1_ h1_))))))))))))) sw_nil)))))))))))))))))))))))) (sw_cons (t1_ (al_ (al_ (al_ (al_ (al_ (ar_ (ar_ (al_ (t4_ (t4_ h1_))))))))))) (sw_cons (t1_ (al_ (al_ (al_ (al_ (al_ (ar_ (ar_ (al_ (t4_ (t4_ (t1_ h1_)))))))))))) (sw_cons (t1_ (al_ (al_ (al_ (al_ (al_ (ar_ (ar_ (al_ (t4_ (t4_ (t1_ (t1_ h1_))))))))))))) (sw_cons (t1_ (al_ (al_ (al_ (al_ (al_ (ar_ (ar_ (al_ (t4_ (t4_ (t1_ (t1_ (t1_ h1_)))))))))))))) (sw_cons (t1_ (al_ (al_ (al_ (al_ (al_ (ar_ (ar_ (al_ (t4_ (t4_ (t4_ h1_)))))))))))) sw_nil)))))) (fun _ h => (t1_ (al_ (al_ (al_ (al_ (ar_ h)))))))) (fun _ h => (t1_ (al_ (al_ (al_ (ar_ h)))))))) (by decide +kernel)
set_option maxRecDepth 20000 in
theorem gX9_digest_X9_best : GoodIn wsX9_digest (wsV RX9 227 RX9 yX9_best wsX9_best) := goodIn_app (sw_good (sw_cons (t1_ (al_ (al_ (al_ (al_ (al_ (ar_ (al_ (t16_ (t1_ h1_)))))))))) (sw_cons (t1_ (al_ (al_ (al_ (al_ (al_ (ar_ (al_ (t16_ (t1_ (t1_ h1_))))))))))) (sw_cons (t1_ (al_ (al_ (al_ (al_ (al_ (ar_ (al_ (t16_ (t1_ (t1_ (t1_ h1_)))))))))))) (sw_cons (t1_ (al_ (al_ (al_ (al_ (al_ (al_ (t4_ (t4_ (t4_ h1_)))))))))) sw_nil)))) (by decide +kernel)) ggX9_digest_X9_best
set_option maxRecDepth 20000 in
theorem ggX9_digest_X9_apart : GoodIn wsX9_digest wsX9_apart := sw_good (sw_cons (t1_ (al_ (al_ (al_ (al_ (al_ (ar_ (ar_ (al_ (t16_ h1_)))))))))) (sw_app (sw_app (sw_app (sw_cons (t1_ (al_ (al_ (al_ (al_ (al_ (ar_ (ar_ (al_ (t16_ (t1_ h1_))))))))))) (sw_cons (t1_ (al_ (al_ (al_ (al_ (al_ (ar_ (ar_ (al_ (t16_ (t1_ (t1_ h1_)))))))))))) (sw_cons (t1_ (al_ (al_ (al_ (al_ (al_ (ar_ (ar_ (al_ (t16_ (t1_ (t1_ (t1_ h1_))))))))))))) (sw_cons (t1_ (al_ (al_ (al_ (al_ (al_ (ar_ (ar_ (al_ (t16_ (t4_ h1_))))))))))) (sw_cons (t1_ (al_ (al_ (al_ (al_ (al_ (ar_ (ar_ (al_ (t16_ (t4_ (t1_ h1_)))))))))))) (sw_cons (t1_ (al_ (al_ (al_ (al_ (al_ (ar_ (ar_ (al_ (t16_ (t4_ (t1_ (t1_ h1_))))))))))))) (sw_cons (t1_ (al_ (al_ (al_ (al_ (al_ (ar_ (ar_ (al_ (t16_ (t4_ (t1_ (t1_ (t1_ h1_)))))))))))))) (sw_cons (t1_ (al_ (al_ (al_ (al_ (al_ (ar_ (ar_ (ar_ (al_ h1_)))))))))) (sw_cons (t1_ (al_ (al_ (al_ (al_ (al_ (ar_ (ar_ (ar_ (al_ (t1_ h1_))))))))))) (sw_cons (t1_ (al_ (al_ (al_ (al_ (al_ (ar_ (ar_ (ar_ (al_ (t1_ (t1_ h1_)))))))))))) (sw_cons (t1_ (al_ (al_ (al_ (al_ (al_ (ar_ (ar_ (ar_ (al_ (t1_ (t1_ (t1_ h1_))))))))))))) (sw_cons (t1_ (al_ (al_ (al_ (al_ (al_ (ar_ (ar_ (ar_ (al_ (t4_ h1_))))))))))) (sw_cons (t1_ (al_ (al_ (al_ (al_ (al_ (ar_ (ar_ (ar_ (al_ (t4_ (t1_ h1_)))))))))))) (sw_cons (t1_ (al_ (al_ (al_ (al_ (al_ (ar_ (ar_ (ar_ (al_ (t4_ (t1_ (t1_ h1_))))))))))))) (sw_cons (t1_ (al_ (al_ (al_ (al_ (al_ (ar_ (ar_ (ar_ (al_ (t4_ (t1_ (t1_ (t1_ h1_)))))))))))))) (sw_cons (t1_ (al_ (al_ (al_ (al_ (al_ (ar_ (ar_ (ar_ (al_ (t4_ (t4_ h1_)))))))))))) (sw_cons (t1_ (al_ (al_ (al_ (al_ (al_ (ar_ (ar_ (ar_ (al_ (t4_ (t4_ (t1_ h1_))))))))))))) (sw_cons (t1_ (al_ (al_ (al_ (al_ (al_ (ar_ (ar_ (ar_ (al_ (t4_ (t4_ (t1_ (t1_ h1_)))))))))))))) (sw_cons (t1_ (al_ (al_ (al_ (al_ (al_ (ar_ (ar_ (ar_ (al_ (t4_ (t4_ (t1_ (t1_ (t1_ h1_))))))))))))))) (sw_cons (t1_ (al_ (al_ (al_ (al_ (al_ (ar_ (ar_ (ar_ (al_ (t4_ (t4_ (t4_ h1_))))))))))))) (sw_cons (t1_ (al_ (al_ (al_ (al_ (al_ (ar_ (ar_ (ar_ (al_ (t4_ (t4_ (t4_ (t1_ h1_)))))))))))))) sw_nil))))))))))))))))))))) (fun _ h => (t1_ (al_ (al_ (al_ (al_ (ar_ h)))))))) (fun _ h => (t1_ (al_ (ar_ h))))) (fun _ h => (t1_ (al_ (al_ (al_ (ar_ h)))))))) (by decide +kernel)
set_option maxRecDepth 20000 in
theorem gX9_digest_X9_apart : GoodIn wsX9_digest (wsV RX9 230 RX9 yX9_apart wsX9_apart) := goodIn_app (sw_good (sw_cons (t1_ (al_ (al_ (al_ (al_ (al_ (ar_ (ar_ (al_ (t4_ (t4_ (t4_ (t1_ h1_))))))))))))) (sw_cons (t1_ (al_ (al_ (al_ (al_ (al_ (ar_ (ar_ (al_ (t4_ (t4_ (t4_ (t1_ (t1_ h1_)))))))))))))) (sw_cons (t1_ (al_ (al_ (al_ (al_ (al_ (ar_ (ar_ (al_ (t4_ (t4_ (t4_ (t1_ (t1_ (t1_ h1_))))))))))))))) (sw_cons (t1_ (al_ (al_ (al_ (al_ (al_ (al_ (t4_ (t4_ (t4_ h1_)))))))))) sw_nil)))) (by decide +kernel)) ggX9_digest_X9_apart
set_option maxRecDepth 20000 in
theorem ggX9_digest_X9_ears : GoodIn wsX9_digest wsX9_ears := sw_good (sw_cons (t1_ (al_ (al_ (al_ (al_ (al_ (ar_ (ar_ (ar_ (al_ (t16_ (t1_ h1_)))))))))))) (sw_app (sw_app (sw_app (sw_app (sw_cons (t1_ (al_ (al_ (al_ (al_ (al_ (ar_ (ar_ (ar_ (al_ (t16_ (t1_ (t1_ h1_))))))))))))) (sw_cons (t1_ (al_ (al_ (al_ (al_ (al_ (ar_ (ar_ (ar_ (al_ (t16_ (t1_ (t1_ (t1_ h1_)))))))))))))) (sw_cons (t1_ (al_ (al_ (al_ (al_ (al_ (ar_ (ar_ (ar_ (al_ (t16_ (t4_ h1_)))))))))))) (sw_cons (t1_ (al_ (al_ (al_ (al_ (al_ (ar_ (ar_ (ar_ (al_ (t16_ (t4_ (t1_ h1_))))))))))))) (sw_cons (t1_ (al_ (al_ (al_ (al_ (al_ (ar_ (ar_ (ar_ (al_ (t16_ (t4_ (t1_ (t1_ h1_)))))))))))))) (sw_cons (t1_ (al_ (al_ (al_ (al_ (al_ (ar_ (ar_ (ar_ (al_ (t16_ (t4_ (t1_ (t1_ (t1_ h1_))))))))))))))) (sw_cons (t1_ (al_ (al_ (al_ (al_ (al_ (ar_ (ar_ (ar_ (ar_ h1_)))))))))) (sw_cons (t1_ (al_ (al_ (al_ (al_ (al_ (ar_ (ar_ (ar_ (ar_ (t1_ h1_))))))))))) (sw_cons (t1_ (al_ (al_ (al_ (al_ (al_ (ar_ (ar_ (ar_ (ar_ (t1_ (t1_ h1_)))))))))))) (sw_cons (t1_ (al_ (al_ (al_ (al_ (al_ (ar_ (ar_ (ar_ (ar_ (t1_ (t1_ (t1_ h1_))))))))))))) (sw_cons (t1_ (al_ (al_ (al_ (al_ (al_ (ar_ (ar_ (ar_ (ar_ (t4_ h1_))))))))))) (sw_cons (t1_ (al_ (al_ (al_ (al_ (al_ (ar_ (ar_ (ar_ (ar_ (t4_ (t1_ h1_)))))))))))) (sw_cons (t1_ (al_ (al_ (al_ (al_ (al_ (ar_ (ar_ (ar_ (ar_ (t4_ (t1_ (t1_ h1_))))))))))))) (sw_cons (t1_ (al_ (al_ (al_ (al_ (al_ (ar_ (ar_ (ar_ (ar_ (t4_ (t1_ (t1_ (t1_ h1_)))))))))))))) (sw_cons (t1_ (al_ (al_ (al_ (al_ (al_ (ar_ (ar_ (ar_ (ar_ (t4_ (t4_ h1_)))))))))))) (sw_cons (t1_ (al_ (al_ (al_ (al_ (al_ (ar_ (al_ (t4_ (t4_ (t4_ (t1_ (t1_ (t1_ h1_)))))))))))))) (sw_cons (t1_ (al_ (al_ (al_ (al_ (al_ (al_ (t4_ (t4_ (t4_ h1_)))))))))) (sw_cons (t1_ (al_ (al_ (al_ (al_ (al_ (ar_ (al_ (t16_ h1_))))))))) (sw_cons (t1_ (al_ (al_ (al_ (al_ (al_ (ar_ (ar_ (ar_ (ar_ (t4_ (t4_ (t1_ h1_))))))))))))) (sw_cons (t1_ (al_ (al_ (al_ (al_ (al_ (ar_ (ar_ (ar_ (ar_ (t4_ (t4_ (t1_ (t1_ h1_)))))))))))))) (sw_cons (t1_ (al_ (al_ (al_ (al_ (al_ (ar_ (ar_ (ar_ (ar_ (t4_ (t4_ (t1_ (t1_ (t1_ h1_))))))))))))))) (sw_cons (t1_ (al_ (al_ (al_ (al_ (al_ (ar_ (ar_ (ar_ (ar_ (t4_ (t4_ (t4_ h1_))))))))))))) (sw_cons (t1_ (al_ (al_ (al_ (al_ (al_ (ar_ (ar_ (ar_ (ar_ (t4_ (t4_ (t4_ (t1_ h1_)))))))))))))) (sw_cons (t1_ (al_ (al_ (al_ (al_ (al_ (ar_ (ar_ (ar_ (ar_ (t4_ (t4_ (t4_ (t1_ (t1_ h1_))))))))))))))) sw_nil)))))))))))))))))))))))) (sw_cons (t1_ (al_ (al_ (al_ (al_ (al_ (ar_ (ar_ (ar_ (ar_ (t4_ (t4_ (t4_ (t1_ (t1_ (t1_ h1_)))))))))))))))) (sw_cons (t1_ (al_ (al_ (al_ (al_ (al_ (ar_ (ar_ (ar_ (ar_ (t16_ h1_))))))))))) sw_nil))) (fun _ h => (t1_ (al_ (al_ (al_ (al_ (ar_ h)))))))) (fun _ h => (t1_ (ar_ h)))) (fun _ h => (t1_ (al_ (al_ (al_ (ar_ h)))))))) (by decide +kernel)
set_option maxRecDepth 20000 in
theorem gX9_digest_X9_ears : GoodIn wsX9_digest (wsV RX9 233 RX9 yX9_ears wsX9_ears) := goodIn_app (sw_good (sw_cons (t1_ (al_ (al_ (al_ (al_ (al_ (ar_ (ar_ (ar_ (al_ (t4_ (t4_ (t4_ (t1_ (t1_ h1_))))))))))))))) (sw_cons (t1_ (al_ (al_ (al_ (al_ (al_ (ar_ (ar_ (ar_ (al_ (t4_ (t4_ (t4_ (t1_ (t1_ (t1_ h1_)))))))))))))))) (sw_cons (t1_ (al_ (al_ (al_ (al_ (al_ (ar_ (ar_ (ar_ (al_ (t16_ h1_))))))))))) (sw_cons (t1_ (al_ (al_ (al_ (al_ (al_ (al_ (t4_ (t4_ (t4_ h1_)))))))))) sw_nil)))) (by decide +kernel)) ggX9_digest_X9_ears
theorem dX9_digest_0 : decode cX9_digest 0 = .ok (.ldc2_w 216, 3) := by decide +kernel
theorem dX9_digest_3 : decode cX9_digest 3 = .ok (.lstore_n 1, 1) := by decide +kernel
theorem dX9_digest_4 : decode cX9_digest 4 = .ok (.iconst 0, 1) := by decide +kernel
theorem dX9_digest_5 : decode cX9_digest 5 = .ok (.istore_n 3, 1) := by decide +kernel
theorem dX9_digest_6 : decode cX9_digest 6 = .ok (.iload_n 3, 1) := by decide +kernel
theorem dX9_digest_7 : decode cX9_digest 7 = .ok (.iconst 2, 1) := by decide +kernel
theorem dX9_digest_8 : decode cX9_digest 8 = .ok (.if_icmp .gt 22, 3) := by decide +kernel
theorem dX9_digest_11 : decode cX9_digest 11 = .ok (.ldc2_w 218, 3) := by decide +kernel
theorem dX9_digest_14 : decode cX9_digest 14 = .ok (.lload_n 1, 1) := by decide +kernel
theorem dX9_digest_15 : decode cX9_digest 15 = .ok (.lmul, 1) := by decide +kernel
theorem dX9_digest_16 : decode cX9_digest 16 = .ok (.aload_n 0, 1) := by decide +kernel
theorem dX9_digest_17 : decode cX9_digest 17 = .ok (.iload_n 3, 1) := by decide +kernel
theorem dX9_digest_18 : decode cX9_digest 18 = .ok (.invokevirtual 220, 3) := by decide +kernel
theorem dX9_digest_21 : decode cX9_digest 21 = .ok (.i2l, 1) := by decide +kernel
theorem dX9_digest_22 : decode cX9_digest 22 = .ok (.ladd, 1) := by decide +kernel
theorem dX9_digest_23 : decode cX9_digest 23 = .ok (.lstore_n 1, 1) := by decide +kernel
theorem dX9_digest_24 : decode cX9_digest 24 = .ok (.iinc 3 1, 3) := by decide +kernel
theorem dX9_digest_27 : decode cX9_digest 27 = .ok (.goto (-21), 3) := by decide +kernel
theorem dX9_digest_30 : decode cX9_digest 30 = .ok (.aload_n 0, 1) := by decide +kernel
theorem dX9_digest_31 : decode cX9_digest 31 = .ok (.getfield 23, 3) := by decide +kernel
theorem dX9_digest_34 : decode cX9_digest 34 = .ok (.lload_n 1, 1) := by decide +kernel
theorem dX9_digest_35 : decode cX9_digest 35 = .ok (.invokevirtual 223, 3) := by decide +kernel
theorem dX9_digest_38 : decode cX9_digest 38 = .ok (.lstore_n 1, 1) := by decide +kernel
theorem dX9_digest_39 : decode cX9_digest 39 = .ok (.aload_n 0, 1) := by decide +kernel
theorem dX9_digest_40 : decode cX9_digest 40 = .ok (.getfield 27, 3) := by decide +kernel
theorem dX9_digest_43 : decode cX9_digest 43 = .ok (.lload_n 1, 1) := by decide +kernel
theorem dX9_digest_44 : decode cX9_digest 44 = .ok (.invokevirtual 223, 3) := by decide +kernel
theorem dX9_digest_47 : decode cX9_digest 47 = .ok (.lstore_n 1, 1) := by decide +kernel
theorem dX9_digest_48 : decode cX9_digest 48 = .ok (.iconst 0, 1) := by decide +kernel
theorem dX9_digest_49 : decode cX9_digest 49 = .ok (.istore_n 3, 1) := by decide +kernel
theorem dX9_digest_50 : decode cX9_digest 50 = .ok (.iload_n 3, 1) := by decide +kernel
theorem dX9_digest_51 : decode cX9_digest 51 = .ok (.aload_n 0, 1) := by decide +kernel
theorem dX9_digest_52 : decode cX9_digest 52 = .ok (.getfield 23, 3) := by decide +kernel
theorem dX9_digest_55 : decode cX9_digest 55 = .ok (.getfield 138, 3) := by decide +kernel
theorem dX9_digest_58 : decode cX9_digest 58 = .ok (.if_icmp .ge 23, 3) := by decide +kernel
theorem dX9_digest_61 : decode cX9_digest 61 = .ok (.ldc2_w 218, 3) := by decide +kernel
theorem dX9_digest_64 : decode cX9_digest 64 = .ok (.lload_n 1, 1) := by decide +kernel
theorem dX9_digest_65 : decode cX9_digest 65 = .ok (.lmul, 1) := by decide +kernel
theorem dX9_digest_66 : decode cX9_digest 66 = .ok (.aload_n 0, 1) := by decide +kernel
theorem dX9_digest_67 : decode cX9_digest 67 = .ok (.getfield 9, 3) := by decide +kernel
theorem dX9_digest_70 : decode cX9_digest 70 = .ok (.iload_n 3, 1) := by decide +kernel
theorem dX9_digest_71 : decode cX9_digest 71 = .ok (.iaload, 1) := by decide +kernel
theorem dX9_digest_72 : decode cX9_digest 72 = .ok (.i2l, 1) := by decide +kernel
theorem dX9_digest_73 : decode cX9_digest 73 = .ok (.ladd, 1) := by decide +kernel
theorem dX9_digest_74 : decode cX9_digest 74 = .ok (.lstore_n 1, 1) := by decide +kernel
theorem dX9_digest_75 : decode cX9_digest 75 = .ok (.iinc 3 1, 3) := by decide +kernel
theorem dX9_digest_78 : decode cX9_digest 78 = .ok (.goto (-28), 3) := by decide +kernel
theorem dX9_digest_81 : decode cX9_digest 81 = .ok (.ldc2_w 218, 3) := by decide +kernel
theorem dX9_digest_84 : decode cX9_digest 84 = .ok (.lload_n 1, 1) := by decide +kernel
theorem dX9_digest_85 : decode cX9_digest 85 = .ok (.lmul, 1) := by decide +kernel
theorem dX9_digest_86 : decode cX9_digest 86 = .ok (.aload_n 0, 1) := by decide +kernel
theorem dX9_digest_87 : decode cX9_digest 87 = .ok (.invokevirtual 141, 3) := by decide +kernel
theorem dX9_digest_90 : decode cX9_digest 90 = .ok (.i2l, 1) := by decide +kernel
theorem dX9_digest_91 : decode cX9_digest 91 = .ok (.ladd, 1) := by decide +kernel
theorem dX9_digest_92 : decode cX9_digest 92 = .ok (.lstore_n 1, 1) := by decide +kernel
theorem dX9_digest_93 : decode cX9_digest 93 = .ok (.ldc2_w 218, 3) := by decide +kernel
theorem dX9_digest_96 : decode cX9_digest 96 = .ok (.lload_n 1, 1) := by decide +kernel
theorem dX9_digest_97 : decode cX9_digest 97 = .ok (.lmul, 1) := by decide +kernel
theorem dX9_digest_98 : decode cX9_digest 98 = .ok (.aload_n 0, 1) := by decide +kernel
theorem dX9_digest_99 : decode cX9_digest 99 = .ok (.iconst 0, 1) := by decide +kernel
theorem dX9_digest_100 : decode cX9_digest 100 = .ok (.invokevirtual 227, 3) := by decide +kernel
theorem dX9_digest_103 : decode cX9_digest 103 = .ok (.i2l, 1) := by decide +kernel
theorem dX9_digest_104 : decode cX9_digest 104 = .ok (.ladd, 1) := by decide +kernel
theorem dX9_digest_105 : decode cX9_digest 105 = .ok (.lstore_n 1, 1) := by decide +kernel
theorem dX9_digest_106 : decode cX9_digest 106 = .ok (.ldc2_w 218, 3) := by decide +kernel
theorem dX9_digest_109 : decode cX9_digest 109 = .ok (.lload_n 1, 1) := by decide +kernel
theorem dX9_digest_110 : decode cX9_digest 110 = .ok (.lmul, 1) := by decide +kernel
theorem dX9_digest_111 : decode cX9_digest 111 = .ok (.aload_n 0, 1) := by decide +kernel
theorem dX9_digest_112 : decode cX9_digest 112 = .ok (.iconst 1, 1) := by decide +kernel
theorem dX9_digest_113 : decode cX9_digest 113 = .ok (.invokevirtual 227, 3) := by decide +kernel
theorem dX9_digest_116 : decode cX9_digest 116 = .ok (.i2l, 1) := by decide +kernel
theorem dX9_digest_117 : decode cX9_digest 117 = .ok (.ladd, 1) := by decide +kernel
theorem dX9_digest_118 : decode cX9_digest 118 = .ok (.lstore_n 1, 1) := by decide +kernel
theorem dX9_digest_119 : decode cX9_digest 119 = .ok (.ldc2_w 218, 3) := by decide +kernel
theorem dX9_digest_122 : decode cX9_digest 122 = .ok (.lload_n 1, 1) := by decide +kernel
theorem dX9_digest_123 : decode cX9_digest 123 = .ok (.lmul, 1) := by decide +kernel
theorem dX9_digest_124 : decode cX9_digest 124 = .ok (.aload_n 0, 1) := by decide +kernel
theorem dX9_digest_125 : decode cX9_digest 125 = .ok (.invokevirtual 230, 3) := by decide +kernel
theorem dX9_digest_128 : decode cX9_digest 128 = .ok (.i2l, 1) := by decide +kernel
theorem dX9_digest_129 : decode cX9_digest 129 = .ok (.ladd, 1) := by decide +kernel
theorem dX9_digest_130 : decode cX9_digest 130 = .ok (.lstore_n 1, 1) := by decide +kernel
theorem dX9_digest_131 : decode cX9_digest 131 = .ok (.ldc2_w 218, 3) := by decide +kernel
theorem dX9_digest_134 : decode cX9_digest 134 = .ok (.lload_n 1, 1) := by decide +kernel
theorem dX9_digest_135 : decode cX9_digest 135 = .ok (.lmul, 1) := by decide +kernel
theorem dX9_digest_136 : decode cX9_digest 136 = .ok (.aload_n 0, 1) := by decide +kernel
theorem dX9_digest_137 : decode cX9_digest 137 = .ok (.invokevirtual 233, 3) := by decide +kernel
theorem dX9_digest_140 : decode cX9_digest 140 = .ok (.i2l, 1) := by decide +kernel
theorem dX9_digest_141 : decode cX9_digest 141 = .ok (.ladd, 1) := by decide +kernel
theorem dX9_digest_142 : decode cX9_digest 142 = .ok (.lstore_n 1, 1) := by decide +kernel
theorem dX9_digest_143 : decode cX9_digest 143 = .ok (.ldc2_w 218, 3) := by decide +kernel
theorem dX9_digest_146 : decode cX9_digest 146 = .ok (.lload_n 1, 1) := by decide +kernel
theorem dX9_digest_147 : decode cX9_digest 147 = .ok (.lmul, 1) := by decide +kernel
theorem dX9_digest_148 : decode cX9_digest 148 = .ok (.aload_n 0, 1) := by decide +kernel
theorem dX9_digest_149 : decode cX9_digest 149 = .ok (.getfield 33, 3) := by decide +kernel
theorem dX9_digest_152 : decode cX9_digest 152 = .ok (.getfield 198, 3) := by decide +kernel
theorem dX9_digest_155 : decode cX9_digest 155 = .ok (.ladd, 1) := by decide +kernel
theorem dX9_digest_156 : decode cX9_digest 156 = .ok (.lstore_n 1, 1) := by decide +kernel
theorem dX9_digest_157 : decode cX9_digest 157 = .ok (.ldc2_w 218, 3) := by decide +kernel
theorem dX9_digest_160 : decode cX9_digest 160 = .ok (.lload_n 1, 1) := by decide +kernel
theorem dX9_digest_161 : decode cX9_digest 161 = .ok (.lmul, 1) := by decide +kernel
theorem dX9_digest_162 : decode cX9_digest 162 = .ok (.aload_n 0, 1) := by decide +kernel
theorem dX9_digest_163 : decode cX9_digest 163 = .ok (.getfield 33, 3) := by decide +kernel
theorem dX9_digest_166 : decode cX9_digest 166 = .ok (.getfield 201, 3) := by decide +kernel
theorem dX9_digest_169 : decode cX9_digest 169 = .ok (.ladd, 1) := by decide +kernel
theorem dX9_digest_170 : decode cX9_digest 170 = .ok (.lreturn, 1) := by decide +kernel
theorem dX9_isElement_0 : decode cX9_isElement 0 = .ok (.iload_n 1, 1) := by decide +kernel
theorem dX9_isElement_1 : decode cX9_isElement 1 = .ok (.ifCond .lt 18, 3) := by decide +kernel
theorem dX9_isElement_4 : decode cX9_isElement 4 = .ok (.iload_n 1, 1) := by decide +kernel
theorem dX9_isElement_5 : decode cX9_isElement 5 = .ok (.aload_n 0, 1) := by decide +kernel
theorem dX9_isElement_6 : decode cX9_isElement 6 = .ok (.getfield 23, 3) := by decide +kernel
theorem dX9_isElement_9 : decode cX9_isElement 9 = .ok (.getfield 138, 3) := by decide +kernel
theorem dX9_isElement_12 : decode cX9_isElement 12 = .ok (.if_icmp .ge 7, 3) := by decide +kernel
theorem dX9_isElement_15 : decode cX9_isElement 15 = .ok (.iconst 1, 1) := by decide +kernel
theorem dX9_isElement_16 : decode cX9_isElement 16 = .ok (.goto 4, 3) := by decide +kernel
theorem dX9_isElement_19 : decode cX9_isElement 19 = .ok (.iconst 0, 1) := by decide +kernel
theorem dX9_isElement_20 : decode cX9_isElement 20 = .ok (.ireturn, 1) := by decide +kernel
set_option maxRecDepth 20000 in
theorem ggX9_priceOf_X9_has : GoodIn wsX9_priceOf wsX9_has := sw_good (sw_cons (t1_ (al_ (al_ (t4_ (t1_ (t1_ h1_)))))) sw_nil) (by decide +kernel)
set_option maxRecDepth 20000 in
theorem gX9_priceOf_X9_has : GoodIn wsX9_priceOf (va_wsS RX9 203 yX9_has wsX9_has) := goodIn_app (sw_good (sw_cons (t1_ (al_ (al_ (t1_ (t1_ (t1_ h1_)))))) (sw_cons (t1_ (al_ (al_ (t4_ h1_)))) (sw_cons (t1_ (al_ (al_ (t4_ (t1_ h1_))))) sw_nil))) (by decide +kernel)) ggX9_priceOf_X9_has
theorem dX9_priceOf_0 : decode cX9_priceOf 0 = .ok (.iconst 0, 1) := by decide +kernel
theorem dX9_priceOf_1 : decode cX9_priceOf 1 = .ok (.istore_n 2, 1) := by decide +kernel
theorem dX9_priceOf_2 : decode cX9_priceOf 2 = .ok (.iconst 0, 1) := by decide +kernel
theorem dX9_priceOf_3 : decode cX9_priceOf 3 = .ok (.istore_n 3, 1) := by decide +kernel
theorem dX9_priceOf_4 : decode cX9_priceOf 4 = .ok (.iload_n 3, 1) := by decide +kernel
theorem dX9_priceOf_5 : decode cX9_priceOf 5 = .ok (.aload_n 0, 1) := by decide +kernel
theorem dX9_priceOf_6 : decode cX9_priceOf 6 = .ok (.getfield 23, 3) := by decide +kernel
theorem dX9_priceOf_9 : decode cX9_priceOf 9 = .ok (.getfield 138, 3) := by decide +kernel
theorem dX9_priceOf_12 : decode cX9_priceOf 12 = .ok (.if_icmp .ge 26, 3) := by decide +kernel
theorem dX9_priceOf_15 : decode cX9_priceOf 15 = .ok (.iload_n 1, 1) := by decide +kernel
theorem dX9_priceOf_16 : decode cX9_priceOf 16 = .ok (.iload_n 3, 1) := by decide +kernel
theorem dX9_priceOf_17 : decode cX9_priceOf 17 = .ok (.invokestatic 203, 3) := by decide +kernel
theorem dX9_priceOf_20 : decode cX9_priceOf 20 = .ok (.ifCond .eq 12, 3) := by decide +kernel
theorem dX9_priceOf_23 : decode cX9_priceOf 23 = .ok (.iload_n 2, 1) := by decide +kernel
theorem dX9_priceOf_24 : decode cX9_priceOf 24 = .ok (.aload_n 0, 1) := by decide +kernel
theorem dX9_priceOf_25 : decode cX9_priceOf 25 = .ok (.getfield 9, 3) := by decide +kernel
theorem dX9_priceOf_28 : decode cX9_priceOf 28 = .ok (.iload_n 3, 1) := by decide +kernel
theorem dX9_priceOf_29 : decode cX9_priceOf 29 = .ok (.iaload, 1) := by decide +kernel
theorem dX9_priceOf_30 : decode cX9_priceOf 30 = .ok (.iadd, 1) := by decide +kernel
theorem dX9_priceOf_31 : decode cX9_priceOf 31 = .ok (.istore_n 2, 1) := by decide +kernel
theorem dX9_priceOf_32 : decode cX9_priceOf 32 = .ok (.iinc 3 1, 3) := by decide +kernel
theorem dX9_priceOf_35 : decode cX9_priceOf 35 = .ok (.goto (-31), 3) := by decide +kernel
theorem dX9_priceOf_38 : decode cX9_priceOf 38 = .ok (.iload_n 2, 1) := by decide +kernel
theorem dX9_priceOf_39 : decode cX9_priceOf 39 = .ok (.ireturn, 1) := by decide +kernel
set_option maxRecDepth 20000 in
theorem ggX9_nothingInCommon_J6_bitCount_0f7a4 : GoodIn wsX9_nothingInCommon wsJ6_bitCount_0f7a4 := sw_good (sw_cons (t1_ (al_ (al_ (t4_ (t1_ (t1_ (t1_ h1_))))))) (sw_cons (t1_ (al_ (al_ (t4_ (t4_ h1_))))) (sw_cons (t1_ (al_ (al_ (t4_ (t4_ (t1_ h1_)))))) (sw_cons (t1_ (al_ (al_ (t4_ (t4_ (t1_ (t1_ h1_))))))) sw_nil)))) (by decide +kernel)
set_option maxRecDepth 20000 in
theorem gX9_nothingInCommon_J6_bitCount_0f7a4 : GoodIn wsX9_nothingInCommon (va_wsS RX9 133 yJ6_bitCount_0f7a4 wsJ6_bitCount_0f7a4) := goodIn_app (sw_good (sw_cons (t1_ (al_ (al_ (t4_ h1_)))) (sw_cons (t1_ (al_ (al_ (t4_ (t1_ h1_))))) (sw_cons (t1_ (al_ (al_ (t4_ (t1_ (t1_ h1_)))))) sw_nil))) (by decide +kernel)) ggX9_nothingInCommon_J6_bitCount_0f7a4
theorem dX9_nothingInCommon_0 : decode cX9_nothingInCommon 0 = .ok (.iconst 0, 1) := by decide +kernel
theorem dX9_nothingInCommon_1 : decode cX9_nothingInCommon 1 = .ok (.istore_n 2, 1) := by decide +kernel
theorem dX9_nothingInCommon_2 : decode cX9_nothingInCommon 2 = .ok (.aload_n 0, 1) := by decide +kernel
theorem dX9_nothingInCommon_3 : decode cX9_nothingInCommon 3 = .ok (.getfield 23, 3) := by decide +kernel
theorem dX9_nothingInCommon_6 : decode cX9_nothingInCommon 6 = .ok (.getfield 117, 3) := by decide +kernel
theorem dX9_nothingInCommon_9 : decode cX9_nothingInCommon 9 = .ok (.iconst 1, 1) := by decide +kernel
theorem dX9_nothingInCommon_10 : decode cX9_nothingInCommon 10 = .ok (.isub, 1) := by decide +kernel
theorem dX9_nothingInCommon_11 : decode cX9_nothingInCommon 11 = .ok (.istore_n 3, 1) := by decide +kernel
theorem dX9_nothingInCommon_12 : decode cX9_nothingInCommon 12 = .ok (.iconst 0, 1) := by decide +kernel
theorem dX9_nothingInCommon_13 : decode cX9_nothingInCommon 13 = .ok (.istore 4, 2) := by decide +kernel
theorem dX9_nothingInCommon_15 : decode cX9_nothingInCommon 15 = .ok (.iload 4, 2) := by decide +kernel
theorem dX9_nothingInCommon_17 : decode cX9_nothingInCommon 17 = .ok (.aload_n 0, 1) := by decide +kernel
theorem dX9_nothingInCommon_18 : decode cX9_nothingInCommon 18 = .ok (.getfield 23, 3) := by decide +kernel
theorem dX9_nothingInCommon_21 : decode cX9_nothingInCommon 21 = .ok (.getfield 106, 3) := by decide +kernel
theorem dX9_nothingInCommon_24 : decode cX9_nothingInCommon 24 = .ok (.if_icmp .ge 43, 3) := by decide +kernel
theorem dX9_nothingInCommon_27 : decode cX9_nothingInCommon 27 = .ok (.aload_n 0, 1) := by decide +kernel
theorem dX9_nothingInCommon_28 : decode cX9_nothingInCommon 28 = .ok (.getfield 23, 3) := by decide +kernel
theorem dX9_nothingInCommon_31 : decode cX9_nothingInCommon 31 = .ok (.getfield 236, 3) := by decide +kernel
theorem dX9_nothingInCommon_34 : decode cX9_nothingInCommon 34 = .ok (.iload 4, 2) := by decide +kernel
theorem dX9_nothingInCommon_36 : decode cX9_nothingInCommon 36 = .ok (.iaload, 1) := by decide +kernel
theorem dX9_nothingInCommon_37 : decode cX9_nothingInCommon 37 = .ok (.iload_n 1, 1) := by decide +kernel
theorem dX9_nothingInCommon_38 : decode cX9_nothingInCommon 38 = .ok (.iand, 1) := by decide +kernel
theorem dX9_nothingInCommon_39 : decode cX9_nothingInCommon 39 = .ok (.invokestatic 133, 3) := by decide +kernel
theorem dX9_nothingInCommon_42 : decode cX9_nothingInCommon 42 = .ok (.iconst 2, 1) := by decide +kernel
theorem dX9_nothingInCommon_43 : decode cX9_nothingInCommon 43 = .ok (.if_icmp .lt 18, 3) := by decide +kernel
theorem dX9_nothingInCommon_46 : decode cX9_nothingInCommon 46 = .ok (.iconst 1, 1) := by decide +kernel
theorem dX9_nothingInCommon_47 : decode cX9_nothingInCommon 47 = .ok (.istore_n 2, 1) := by decide +kernel
theorem dX9_nothingInCommon_48 : decode cX9_nothingInCommon 48 = .ok (.iload_n 3, 1) := by decide +kernel
theorem dX9_nothingInCommon_49 : decode cX9_nothingInCommon 49 = .ok (.aload_n 0, 1) := by decide +kernel
theorem dX9_nothingInCommon_50 : decode cX9_nothingInCommon 50 = .ok (.getfield 23, 3) := by decide +kernel
theorem dX9_nothingInCommon_53 : decode cX9_nothingInCommon 53 = .ok (.getfield 236, 3) := by decide +kernel
theorem dX9_nothingInCommon_56 : decode cX9_nothingInCommon 56 = .ok (.iload 4, 2) := by decide +kernel
theorem dX9_nothingInCommon_58 : decode cX9_nothingInCommon 58 = .ok (.iaload, 1) := by decide +kernel
theorem dX9_nothingInCommon_59 : decode cX9_nothingInCommon 59 = .ok (.iand, 1) := by decide +kernel
theorem dX9_nothingInCommon_60 : decode cX9_nothingInCommon 60 = .ok (.istore_n 3, 1) := by decide +kernel
theorem dX9_nothingInCommon_61 : decode cX9_nothingInCommon 61 = .ok (.iinc 4 1, 3) := by decide +kernel
theorem dX9_nothingInCommon_64 : decode cX9_nothingInCommon 64 = .ok (.goto (-49), 3) := by decide +kernel
theorem dX9_nothingInCommon_67 : decode cX9_nothingInCommon 67 = .ok (.iload_n 2, 1) := by decide +kernel
theorem dX9_nothingInCommon_68 : decode cX9_nothingInCommon 68 = .ok (.ifCond .eq 11, 3) := by decide +kernel
theorem dX9_nothingInCommon_71 : decode cX9_nothingInCommon 71 = .ok (.iload_n 3, 1) := by decide +kernel
theorem dX9_nothingInCommon_72 : decode cX9_nothingInCommon 72 = .ok (.ifCond .ne 7, 3) := by decide +kernel
theorem dX9_nothingInCommon_75 : decode cX9_nothingInCommon 75 = .ok (.iconst 1, 1) := by decide +kernel
theorem dX9_nothingInCommon_76 : decode cX9_nothingInCommon 76 = .ok (.goto 4, 3) := by decide +kernel
theorem dX9_nothingInCommon_79 : decode cX9_nothingInCommon 79 = .ok (.iconst 0, 1) := by decide +kernel
theorem dX9_nothingInCommon_80 : decode cX9_nothingInCommon 80 = .ok (.ireturn, 1) := by decide +kernel
