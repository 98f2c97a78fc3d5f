set_option maxRecDepth 20000 in
theorem ggL_law_X9_init : GoodIn wsL_law wsX9_init := sw_good (sw_cons (ml1_ (t4_ (t4_ h1_))) (sw_app (sw_app (sw_app (sw_app (sw_app (sw_app (sw_app (sw_app (sw_app (sw_app (sw_app (sw_cons (ml1_ (t4_ (t4_ (t1_ h1_)))) (sw_cons (ml1_ (t4_ (t4_ (t1_ (t1_ h1_))))) (sw_cons (ml1_ (t4_ (t4_ (t1_ (t1_ (t1_ h1_)))))) (sw_cons (ml1_ (t4_ (t4_ (t4_ h1_)))) (sw_cons (ml1_ (t4_ (t4_ (t4_ (t1_ h1_))))) (sw_cons (ml1_ (t4_ (t4_ (t4_ (t1_ (t1_ h1_)))))) (sw_cons (ml1_ (t4_ (t4_ (t4_ (t1_ (t1_ (t1_ h1_))))))) (sw_cons (ml1_ (t16_ h1_)) (sw_cons (ml1_ (t16_ (t1_ h1_))) (sw_cons (ml1_ (t16_ (t1_ (t1_ h1_)))) (sw_cons (ml1_ (t16_ (t1_ (t1_ (t1_ h1_))))) (sw_cons (ml1_ (t16_ (t4_ h1_))) (sw_cons (ml1_ (t16_ (t4_ (t1_ h1_)))) (sw_cons (ml1_ (t16_ (t4_ (t1_ (t1_ h1_))))) (sw_cons (ml1_ (t16_ (t4_ (t1_ (t1_ (t1_ h1_)))))) (sw_cons (ml2_ h1_) (sw_cons (ml2_ (t1_ h1_)) (sw_cons (ml2_ (t1_ (t1_ h1_))) (sw_cons (ml2_ (t1_ (t1_ (t1_ h1_)))) (sw_cons (ml2_ (t4_ h1_)) (sw_cons (ml2_ (t4_ (t1_ h1_))) (sw_cons (ml2_ (t4_ (t1_ (t1_ h1_)))) (sw_cons (ml2_ (t4_ (t1_ (t1_ (t1_ h1_))))) (sw_cons (ml2_ (t4_ (t4_ h1_))) sw_nil)))))))))))))))))))))))) (sw_app (sw_cons (ml2_ (t4_ (t4_ (t1_ h1_)))) (sw_cons (ml2_ (t4_ (t4_ (t1_ (t1_ h1_))))) (sw_cons (ml2_ (t4_ (t4_ (t1_ (t1_ (t1_ h1_)))))) (sw_cons (ml2_ (t4_ (t4_ (t4_ h1_)))) (sw_cons (ml2_ (t4_ (t4_ (t4_ (t1_ h1_))))) (sw_cons (ml2_ (t4_ (t4_ (t4_ (t1_ (t1_ h1_)))))) (sw_cons (ml2_ (t4_ (t4_ (t4_ (t1_ (t1_ (t1_ h1_))))))) (sw_cons (ml2_ (t16_ h1_)) (sw_cons (ml2_ (t16_ (t1_ h1_))) (sw_cons (ml2_ (t16_ (t1_ (t1_ h1_)))) (sw_cons (ml2_ (t16_ (t1_ (t1_ (t1_ h1_))))) (sw_cons (ml2_ (t16_ (t4_ h1_))) (sw_cons (ml2_ (t16_ (t4_ (t1_ h1_)))) (sw_cons (ml2_ (t16_ (t4_ (t1_ (t1_ h1_))))) (sw_cons (ml2_ (t16_ (t4_ (t1_ (t1_ (t1_ h1_)))))) (sw_cons (ml3_ h1_) (sw_cons (ml3_ (t1_ h1_)) (sw_cons (ml3_ (t1_ (t1_ h1_))) (sw_cons (ml3_ (t1_ (t1_ (t1_ h1_)))) (sw_cons (ml3_ (t4_ h1_)) (sw_cons (ml3_ (t4_ (t1_ h1_))) (sw_cons (ml3_ (t4_ (t1_ (t1_ h1_)))) (sw_cons (ml3_ (t4_ (t1_ (t1_ (t1_ h1_))))) (sw_cons (ml3_ (t4_ (t4_ h1_))) sw_nil)))))))))))))))))))))))) (sw_app (sw_cons (ml3_ (t4_ (t4_ (t1_ h1_)))) (sw_cons (ml3_ (t4_ (t4_ (t1_ (t1_ h1_))))) (sw_cons (ml3_ (t4_ (t4_ (t1_ (t1_ (t1_ h1_)))))) (sw_cons (ml3_ (t4_ (t4_ (t4_ h1_)))) (sw_cons (ml3_ (t4_ (t4_ (t4_ (t1_ h1_))))) (sw_cons (ml3_ (t4_ (t4_ (t4_ (t1_ (t1_ h1_)))))) (sw_cons (ml3_ (t4_ (t4_ (t4_ (t1_ (t1_ (t1_ h1_))))))) (sw_cons (ml3_ (t16_ h1_)) (sw_cons (ml3_ (t16_ (t1_ h1_))) (sw_cons (ml3_ (t16_ (t1_ (t1_ h1_)))) (sw_cons (ml3_ (t16_ (t1_ (t1_ (t1_ h1_))))) (sw_cons (ml3_ (t16_ (t4_ h1_))) (sw_cons (ml3_ (t16_ (t4_ (t1_ h1_)))) (sw_cons (ml3_ (t16_ (t4_ (t1_ (t1_ h1_))))) (sw_cons (ml3_ (t16_ (t4_ (t1_ (t1_ (t1_ h1_)))))) (sw_cons (ml4_ h1_) (sw_cons (ml4_ (t1_ h1_)) (sw_cons (ml4_ (t1_ (t1_ h1_))) (sw_cons (ml4_ (t1_ (t1_ (t1_ h1_)))) (sw_cons (ml4_ (t4_ h1_)) (sw_cons (ml4_ (t4_ (t1_ h1_))) (sw_cons (ml4_ (t4_ (t1_ (t1_ h1_)))) (sw_cons (ml4_ (t4_ (t1_ (t1_ (t1_ h1_))))) (sw_cons (ml4_ (t4_ (t4_ h1_))) sw_nil)))))))))))))))))))))))) (sw_app (sw_cons (ml4_ (t4_ (t4_ (t1_ h1_)))) (sw_cons (ml4_ (t4_ (t4_ (t1_ (t1_ h1_))))) (sw_cons (ml4_ (t4_ (t4_ (t1_ (t1_ (t1_ h1_)))))) (sw_cons (ml4_ (t4_ (t4_ (t4_ h1_)))) (sw_cons (ml4_ (t4_ (t4_ (t4_ (t1_ h1_))))) (sw_cons (ml4_ (t4_ (t4_ (t4_ (t1_ (t1_ h1_)))))) (sw_cons (ml4_ (t4_ (t4_ (t4_ (t1_ (t1_ (t1_ h1_))))))) (sw_cons (ml4_ (t16_ h1_)) (sw_cons (ml4_ (t16_ (t1_ h1_))) (sw_cons (ml4_ (t16_ (t1_ (t1_ h1_)))) (sw_cons (ml4_ (t16_ (t1_ (t1_ (t1_ h1_))))) (sw_cons (ml4_ (t16_ (t4_ h1_))) (sw_cons (ml4_ (t16_ (t4_ (t1_ h1_)))) (sw_cons (ml4_ (t16_ (t4_ (t1_ (t1_ h1_))))) (sw_cons (ml4_ (t16_ (t4_ (t1_ (t1_ (t1_ h1_)))))) (sw_cons (ml5_ h1_) (sw_cons (ml5_ (t1_ h1_)) (sw_cons (ml5_ (t1_ (t1_ h1_))) (sw_cons (ml5_ (t1_ (t1_ (t1_ h1_)))) (sw_cons (ml5_ (t4_ h1_)) (sw_cons (ml5_ (t4_ (t1_ h1_))) (sw_cons (ml5_ (t4_ (t1_ (t1_ h1_)))) (sw_cons (ml5_ (t4_ (t1_ (t1_ (t1_ h1_))))) (sw_cons (ml5_ (t4_ (t4_ h1_))) sw_nil)))))))))))))))))))))))) (sw_cons (ml5_ (t4_ (t4_ (t1_ h1_)))) (sw_cons (ml5_ (t4_ (t4_ (t1_ (t1_ h1_))))) (sw_cons (ml5_ (t4_ (t4_ (t1_ (t1_ (t1_ h1_)))))) (sw_cons (ml5_ (t4_ (t4_ (t4_ h1_)))) (sw_cons (ml5_ (t4_ (t4_ (t4_ (t1_ h1_))))) (sw_cons (ml5_ (t4_ (t4_ (t4_ (t1_ (t1_ h1_)))))) (sw_cons (ml5_ (t4_ (t4_ (t4_ (t1_ (t1_ (t1_ h1_))))))) (sw_cons (ml5_ (t16_ h1_)) (sw_cons (ml5_ (t16_ (t1_ h1_))) (sw_cons (ml5_ (t16_ (t1_ (t1_ h1_)))) (sw_cons (ml5_ (t16_ (t1_ (t1_ (t1_ h1_))))) (sw_cons (ml5_ (t16_ (t4_ h1_))) (sw_cons (ml5_ (t16_ (t4_ (t1_ h1_)))) (sw_cons (ml5_ (t16_ (t4_ (t1_ (t1_ h1_))))) (sw_cons (ml5_ (t16_ (t4_ (t1_ (t1_ (t1_ h1_)))))) (sw_cons (ml6_ h1_) (sw_cons (ml6_ (t1_ h1_)) sw_nil))))))))))))))))))))) (fun _ h => (al_ (al_ (al_ (al_ (al_ (al_ (al_ (al_ (al_ (al_ (al_ (ar_ h)))))))))))))) (fun _ h => (al_ (al_ (al_ (al_ (al_ (al_ (al_ (al_ (al_ (ar_ h)))))))))))) (fun _ h => (al_ (al_ (al_ (al_ (al_ (al_ (al_ (al_ (ar_ h))))))))))) (fun _ h => (al_ (al_ (al_ (al_ (al_ (al_ (al_ (ar_ h)))))))))) (fun _ h => (al_ (al_ (al_ (al_ (al_ (al_ (ar_ h))))))))) (fun _ h => (al_ (al_ (al_ (al_ (al_ (ar_ h)))))))) (fun _ h => (al_ (al_ (al_ (al_ (ar_ h))))))) (fun _ h => (al_ (al_ (al_ (ar_ h)))))) (fun _ h => (al_ (al_ (ar_ h))))) (fun _ h => (al_ (ar_ h))))) (by decide +kernel)
set_option maxRecDepth 20000 in
theorem gL_law_X9_init : GoodIn wsL_law (wsX9_init) := ggL_law_X9_init
set_option maxRecDepth 20000 in
theorem ggL_law_X10_init : GoodIn wsL_law wsX10_init := sw_good (sw_cons (ml6_ (t4_ h1_)) (sw_app (sw_cons (ml6_ (t4_ (t1_ h1_))) (sw_cons (ml1_ (t4_ (t4_ (t1_ (t1_ h1_))))) (sw_cons (ml1_ (t4_ (t4_ (t1_ (t1_ (t1_ h1_)))))) (sw_cons (ml1_ (t4_ (t4_ (t4_ h1_)))) (sw_cons (ml6_ (t4_ (t1_ (t1_ h1_)))) (sw_cons (ml6_ (t4_ (t1_ (t1_ (t1_ h1_))))) (sw_cons (ml6_ (t4_ (t4_ h1_))) (sw_cons (ml4_ (t1_ (t1_ (t1_ h1_)))) (sw_cons (ml6_ (t4_ (t4_ (t1_ h1_)))) (sw_cons (ml6_ (t4_ (t4_ (t1_ (t1_ h1_))))) (sw_cons (ml6_ (t4_ (t4_ (t1_ (t1_ (t1_ h1_)))))) (sw_cons (ml6_ (t4_ (t4_ (t4_ h1_)))) (sw_cons (ml6_ (t4_ (t4_ (t4_ (t1_ h1_))))) (sw_cons (ml6_ (t4_ (t4_ (t4_ (t1_ (t1_ h1_)))))) (sw_cons (ml6_ (t4_ (t4_ (t4_ (t1_ (t1_ (t1_ h1_))))))) (sw_cons (ml6_ (t16_ h1_)) (sw_cons (ml6_ (t16_ (t1_ h1_))) (sw_cons (ml6_ (t16_ (t1_ (t1_ h1_)))) (sw_cons (ml6_ (t16_ (t1_ (t1_ (t1_ h1_))))) sw_nil))))))))))))))))))) (fun _ h => (al_ (al_ (al_ (al_ (al_ (al_ (al_ (al_ (al_ (al_ (ar_ h)))))))))))))) (by decide +kernel)
set_option maxRecDepth 20000 in
theorem gL_law_X10_init : GoodIn wsL_law (wsX10_init) := ggL_law_X10_init
set_option maxRecDepth 20000 in
theorem ggL_law_X9_ground : GoodIn wsL_law wsX9_ground := sw_good (sw_cons (ml6_ (t16_ (t4_ (t1_ (t1_ (t1_ h1_)))))) (sw_app (sw_app (sw_cons (ml1_ (t16_ (t1_ h1_))) (sw_cons (ml1_ (t16_ (t1_ (t1_ h1_)))) (sw_cons (ml7_ h1_) (sw_cons (ml7_ (t1_ h1_)) (sw_cons (ml7_ (t1_ (t1_ h1_))) (sw_cons (ml1_ (t16_ h1_)) (sw_cons (ml7_ (t1_ (t1_ (t1_ h1_)))) (sw_cons (ml3_ (t4_ (t4_ (t4_ (t1_ h1_))))) (sw_cons (ml3_ (t4_ (t4_ (t4_ (t1_ (t1_ h1_)))))) (sw_cons (ml3_ (t4_ (t4_ (t4_ (t1_ (t1_ (t1_ h1_))))))) (sw_cons (ml3_ (t4_ (t4_ (t4_ h1_)))) (sw_cons (ml7_ (t4_ h1_)) (sw_cons (ml3_ (t4_ h1_)) (sw_cons (ml3_ (t4_ (t1_ h1_))) (sw_cons (ml3_ (t4_ (t1_ (t1_ h1_)))) sw_nil))))))))))))))) (fun _ h => (al_ (al_ (al_ (al_ (al_ (al_ (al_ (al_ (al_ (al_ (al_ (ar_ h)))))))))))))) (fun _ h => (al_ (al_ (al_ (al_ (al_ (al_ (al_ (al_ (al_ (ar_ h))))))))))))) (by decide +kernel)
set_option maxRecDepth 20000 in
theorem gL_law_X9_ground : GoodIn wsL_law (wsV RL 13 RX9 yX9_ground wsX9_ground) := goodIn_app (sw_good (sw_cons (ml6_ (t16_ (t4_ h1_))) (sw_cons (ml6_ (t16_ (t4_ (t1_ h1_)))) (sw_cons (ml6_ (t16_ (t4_ (t1_ (t1_ h1_))))) (sw_cons (ml1_ (t1_ (t1_ h1_))) sw_nil)))) (by decide +kernel)) ggL_law_X9_ground
set_option maxRecDepth 20000 in
theorem ggL_law_X10_ground : GoodIn wsL_law wsX10_ground := sw_good (sw_cons (ml7_ (t4_ (t4_ h1_))) (sw_app (sw_cons (ml7_ (t4_ (t4_ (t1_ h1_)))) (sw_cons (ml6_ (t16_ (t1_ (t1_ h1_)))) (sw_cons (ml7_ (t4_ (t4_ (t1_ (t1_ h1_))))) (sw_cons (ml7_ (t4_ (t4_ (t1_ (t1_ (t1_ h1_)))))) (sw_cons (ml7_ (t4_ (t4_ (t4_ h1_)))) (sw_cons (ml7_ (t4_ (t4_ (t4_ (t1_ h1_))))) (sw_cons (ml1_ (t4_ (t1_ h1_))) (sw_cons (ml7_ (t4_ (t4_ (t4_ (t1_ (t1_ h1_)))))) sw_nil)))))))) (fun _ h => (al_ (al_ (al_ (al_ (al_ (al_ (al_ (al_ (al_ (al_ (ar_ h)))))))))))))) (by decide +kernel)
set_option maxRecDepth 20000 in
theorem gL_law_X10_ground : GoodIn wsL_law (wsV RL 17 RX10 yX10_ground wsX10_ground) := goodIn_app (sw_good (sw_cons (ml7_ (t4_ (t1_ h1_))) (sw_cons (ml7_ (t4_ (t1_ (t1_ h1_)))) (sw_cons (ml7_ (t4_ (t1_ (t1_ (t1_ h1_))))) (sw_cons (ml1_ (t4_ (t1_ h1_))) sw_nil)))) (by decide +kernel)) ggL_law_X10_ground
set_option maxRecDepth 20000 in
theorem ggL_law_X9_set : GoodIn wsL_law wsX9_set := sw_good (sw_cons (ml7_ (t16_ (t1_ (t1_ h1_)))) (sw_app (sw_app (sw_app (sw_cons (ml1_ (t16_ (t1_ h1_))) (sw_cons (ml7_ (t16_ (t1_ (t1_ (t1_ h1_))))) (sw_cons (ml7_ (t16_ (t4_ h1_))) (sw_cons (ml7_ (t16_ (t4_ (t1_ h1_)))) (sw_cons (ml7_ (t16_ (t4_ (t1_ (t1_ h1_))))) (sw_cons (ml1_ (t16_ h1_)) (sw_cons (ml7_ (t16_ (t4_ (t1_ (t1_ (t1_ h1_)))))) (sw_cons (ml3_ (t4_ (t4_ (t4_ (t1_ (t1_ (t1_ h1_))))))) (sw_cons (ml8_ h1_) (sw_cons (ml8_ (t1_ h1_)) (sw_cons (ml8_ (t1_ (t1_ h1_))) (sw_cons (ml8_ (t1_ (t1_ (t1_ h1_)))) (sw_cons (ml3_ (t4_ (t4_ (t4_ (t1_ h1_))))) (sw_cons (ml3_ (t4_ (t4_ (t1_ (t1_ (t1_ h1_)))))) (sw_cons (ml8_ (t4_ h1_)) (sw_cons (ml8_ (t4_ (t1_ h1_))) (sw_cons (ml8_ (t4_ (t1_ (t1_ h1_)))) (sw_cons (ml8_ (t4_ (t1_ (t1_ (t1_ h1_))))) (sw_cons (ml8_ (t4_ (t4_ h1_))) (sw_cons (ml8_ (t4_ (t4_ (t1_ h1_)))) (sw_cons (ml8_ (t4_ (t4_ (t1_ (t1_ h1_))))) (sw_cons (ml8_ (t4_ (t4_ (t1_ (t1_ (t1_ h1_)))))) (sw_cons (ml8_ (t4_ (t4_ (t4_ h1_)))) (sw_cons (ml8_ (t4_ (t4_ (t4_ (t1_ h1_))))) sw_nil)))))))))))))))))))))))) (sw_cons (ml8_ (t4_ (t4_ (t4_ (t1_ (t1_ h1_)))))) (sw_cons (ml8_ (t4_ (t4_ (t4_ (t1_ (t1_ (t1_ h1_))))))) (sw_cons (ml8_ (t16_ h1_)) (sw_cons (ml3_ (t4_ (t4_ (t4_ h1_)))) sw_nil))))) (fun _ h => (al_ (al_ (al_ (al_ (al_ (al_ (al_ (al_ (al_ (al_ (al_ (ar_ h)))))))))))))) (fun _ h => (al_ (al_ (al_ (al_ (al_ (al_ (al_ (al_ (al_ (ar_ h))))))))))))) (by decide +kernel)
set_option maxRecDepth 20000 in
theorem gL_law_X9_set : GoodIn wsL_law (wsV RL 18 RX9 yX9_set wsX9_set) := goodIn_app (sw_good (sw_cons (ml7_ (t4_ (t4_ (t4_ (t1_ (t1_ (t1_ h1_))))))) (sw_cons (ml7_ (t16_ h1_)) (sw_cons (ml7_ (t16_ (t1_ h1_))) (sw_cons (ml1_ (t1_ (t1_ h1_))) sw_nil)))) (by decide +kernel)) ggL_law_X9_set
set_option maxRecDepth 20000 in
theorem ggL_law_X10_set : GoodIn wsL_law wsX10_set := sw_good (sw_cons (ml8_ (t16_ (t4_ h1_))) (sw_app (sw_cons (ml7_ (t4_ (t4_ (t1_ (t1_ h1_))))) (sw_cons (ml6_ (t4_ (t1_ (t1_ h1_)))) (sw_cons (ml8_ (t16_ (t4_ (t1_ h1_)))) (sw_cons (ml8_ (t16_ (t4_ (t1_ (t1_ h1_))))) (sw_cons (ml8_ (t16_ (t4_ (t1_ (t1_ (t1_ h1_)))))) (sw_cons (ml1_ (t4_ (t1_ h1_))) (sw_cons (ml9_ h1_) (sw_cons (ml6_ (t16_ (t1_ (t1_ h1_)))) (sw_cons (ml7_ (t4_ (t4_ (t4_ h1_)))) (sw_cons (ml7_ (t4_ (t4_ (t4_ (t1_ h1_))))) (sw_cons (ml7_ (t4_ (t4_ (t4_ (t1_ (t1_ h1_)))))) sw_nil))))))))))) (fun _ h => (al_ (al_ (al_ (al_ (al_ (al_ (al_ (al_ (al_ (al_ (ar_ h)))))))))))))) (by decide +kernel)
set_option maxRecDepth 20000 in
theorem gL_law_X10_set : GoodIn wsL_law (wsV RL 21 RX10 yX10_set wsX10_set) := goodIn_app (sw_good (sw_cons (ml8_ (t16_ (t1_ h1_))) (sw_cons (ml8_ (t16_ (t1_ (t1_ h1_)))) (sw_cons (ml8_ (t16_ (t1_ (t1_ (t1_ h1_))))) (sw_cons (ml1_ (t4_ (t1_ h1_))) sw_nil)))) (by decide +kernel)) ggL_law_X10_set
set_option maxRecDepth 20000 in
theorem ggL_law_X9_drop : GoodIn wsL_law wsX9_drop := sw_good (sw_cons (ml9_ (t4_ h1_)) (sw_app (sw_app (sw_cons (ml1_ (t16_ (t1_ h1_))) (sw_cons (ml7_ (t16_ (t1_ (t1_ (t1_ h1_))))) (sw_cons (ml9_ (t4_ (t1_ h1_))) (sw_cons (ml9_ (t4_ (t1_ (t1_ h1_)))) (sw_cons (ml9_ (t4_ (t1_ (t1_ (t1_ h1_))))) (sw_cons (ml1_ (t16_ h1_)) (sw_cons (ml9_ (t4_ (t4_ h1_))) (sw_cons (ml3_ (t4_ (t4_ (t4_ (t1_ h1_))))) (sw_cons (ml3_ (t4_ (t4_ (t1_ (t1_ (t1_ h1_)))))) (sw_cons (ml8_ (t4_ (t4_ (t4_ (t1_ h1_))))) (sw_cons (ml8_ (t4_ (t4_ (t4_ (t1_ (t1_ h1_)))))) (sw_cons (ml8_ (t4_ (t4_ (t4_ (t1_ (t1_ (t1_ h1_))))))) (sw_cons (ml8_ (t16_ h1_)) (sw_cons (ml3_ (t4_ (t4_ (t4_ (t1_ (t1_ (t1_ h1_))))))) (sw_cons (ml3_ (t4_ (t4_ (t4_ h1_)))) sw_nil))))))))))))))) (fun _ h => (al_ (al_ (al_ (al_ (al_ (al_ (al_ (al_ (al_ (al_ (al_ (ar_ h)))))))))))))) (fun _ h => (al_ (al_ (al_ (al_ (al_ (al_ (al_ (al_ (al_ (ar_ h))))))))))))) (by decide +kernel)
set_option maxRecDepth 20000 in
theorem gL_law_X9_drop : GoodIn wsL_law (wsV RL 22 RX9 yX9_drop wsX9_drop) := goodIn_app (sw_good (sw_cons (ml9_ (t1_ h1_)) (sw_cons (ml9_ (t1_ (t1_ h1_))) (sw_cons (ml9_ (t1_ (t1_ (t1_ h1_)))) (sw_cons (ml1_ (t1_ (t1_ h1_))) sw_nil)))) (by decide +kernel)) ggL_law_X9_drop
set_option maxRecDepth 20000 in
theorem ggL_law_X10_drop : GoodIn wsL_law wsX10_drop := sw_good (sw_cons (ml9_ (t4_ (t4_ (t4_ h1_)))) (sw_app (sw_cons (ml7_ (t4_ (t4_ (t1_ (t1_ h1_))))) (sw_cons (ml6_ (t4_ (t1_ (t1_ h1_)))) sw_nil)) (fun _ h => (al_ (al_ (al_ (al_ (al_ (al_ (al_ (al_ (al_ (al_ (ar_ h)))))))))))))) (by decide +kernel)
set_option maxRecDepth 20000 in
theorem gL_law_X10_drop : GoodIn wsL_law (wsV RL 26 RX10 yX10_drop wsX10_drop) := goodIn_app (sw_good (sw_cons (ml9_ (t4_ (t4_ (t1_ h1_)))) (sw_cons (ml9_ (t4_ (t4_ (t1_ (t1_ h1_))))) (sw_cons (ml9_ (t4_ (t4_ (t1_ (t1_ (t1_ h1_)))))) (sw_cons (ml1_ (t4_ (t1_ h1_))) sw_nil)))) (by decide +kernel)) ggL_law_X10_drop
set_option maxRecDepth 20000 in
theorem ggL_law_X9_cost : GoodIn wsL_law wsX9_cost := sw_good (sw_cons (ml9_ (t16_ h1_)) (sw_app (sw_app (sw_cons (ml1_ (t4_ (t4_ (t4_ (t1_ h1_))))) (sw_cons (ml9_ (t16_ (t1_ h1_))) (sw_cons (ml9_ (t16_ (t1_ (t1_ h1_)))) (sw_cons (ml9_ (t16_ (t1_ (t1_ (t1_ h1_))))) (sw_cons (ml1_ (t1_ (t1_ h1_))) (sw_cons (ml9_ (t16_ (t4_ h1_))) (sw_cons (ml1_ (t16_ (t1_ h1_))) (sw_cons (ml9_ (t16_ (t4_ (t1_ h1_)))) sw_nil)))))))) (fun _ h => (al_ (al_ (al_ (al_ (al_ (al_ (al_ (al_ (al_ (al_ (al_ (ar_ h)))))))))))))) (fun _ h => (al_ (al_ (al_ (al_ (al_ (al_ (al_ (al_ (al_ (ar_ h))))))))))))) (by decide +kernel)
set_option maxRecDepth 20000 in
theorem gL_law_X9_cost : GoodIn wsL_law (wsV RL 27 RX9 yX9_cost wsX9_cost) := goodIn_app (sw_good (sw_cons (ml9_ (t4_ (t4_ (t4_ (t1_ h1_))))) (sw_cons (ml9_ (t4_ (t4_ (t4_ (t1_ (t1_ h1_)))))) (sw_cons (ml9_ (t4_ (t4_ (t4_ (t1_ (t1_ (t1_ h1_))))))) (sw_cons (ml1_ (t1_ (t1_ h1_))) sw_nil)))) (by decide +kernel)) ggL_law_X9_cost
set_option maxRecDepth 20000 in
theorem ggL_law_X10_cost : GoodIn wsL_law wsX10_cost := sw_good (sw_cons (ml10_ (t1_ h1_)) (sw_app (sw_cons (ml10_ (t1_ (t1_ h1_))) (sw_cons (ml6_ (t4_ (t4_ h1_))) (sw_cons (ml10_ (t1_ (t1_ (t1_ h1_)))) (sw_cons (ml10_ (t4_ h1_)) (sw_cons (ml10_ (t4_ (t1_ h1_))) (sw_cons (ml1_ (t4_ (t1_ h1_))) (sw_cons (ml10_ (t4_ (t1_ (t1_ h1_)))) (sw_cons (ml6_ (t16_ (t1_ (t1_ h1_)))) (sw_cons (ml7_ (t4_ (t4_ (t4_ h1_)))) (sw_cons (ml7_ (t4_ (t4_ (t4_ (t1_ h1_))))) (sw_cons (ml7_ (t4_ (t4_ (t4_ (t1_ (t1_ h1_)))))) sw_nil))))))))))) (fun _ h => (al_ (al_ (al_ (al_ (al_ (al_ (al_ (al_ (al_ (al_ (ar_ h)))))))))))))) (by decide +kernel)
set_option maxRecDepth 20000 in
theorem gL_law_X10_cost : GoodIn wsL_law (wsV RL 31 RX10 yX10_cost wsX10_cost) := goodIn_app (sw_good (sw_cons (ml9_ (t16_ (t4_ (t1_ (t1_ h1_))))) (sw_cons (ml9_ (t16_ (t4_ (t1_ (t1_ (t1_ h1_)))))) (sw_cons (ml10_ h1_) (sw_cons (ml1_ (t4_ (t1_ h1_))) sw_nil)))) (by decide +kernel)) ggL_law_X10_cost
set_option maxRecDepth 20000 in
theorem ggL_law_X9_meeters : GoodIn wsL_law wsX9_meeters := sw_good (sw_cons (ml10_ (t4_ (t4_ (t1_ (t1_ h1_))))) (sw_app (sw_app (sw_cons (ml1_ (t16_ (t1_ h1_))) (sw_cons (ml10_ (t4_ (t4_ (t1_ (t1_ (t1_ h1_)))))) (sw_cons (ml10_ (t4_ (t4_ (t4_ h1_)))) (sw_cons (ml10_ (t4_ (t4_ (t4_ (t1_ h1_))))) (sw_cons (ml10_ (t4_ (t4_ (t4_ (t1_ (t1_ h1_)))))) (sw_cons (ml1_ (t16_ h1_)) (sw_cons (ml10_ (t4_ (t4_ (t4_ (t1_ (t1_ (t1_ h1_))))))) (sw_cons (ml3_ (t4_ (t4_ (t4_ (t1_ (t1_ h1_)))))) (sw_cons (ml10_ (t16_ h1_)) (sw_cons (ml10_ (t16_ (t1_ h1_))) (sw_cons (ml10_ (t16_ (t1_ (t1_ h1_)))) (sw_cons (ml10_ (t16_ (t1_ (t1_ (t1_ h1_))))) (sw_cons (ml3_ (t4_ (t4_ (t4_ h1_)))) (sw_cons (ml3_ (t4_ (t4_ (t4_ (t1_ (t1_ (t1_ h1_))))))) (sw_cons (ml10_ (t16_ (t4_ h1_))) (sw_cons (ml1_ (t1_ (t1_ h1_))) (sw_cons (ml10_ (t16_ (t4_ (t1_ h1_)))) sw_nil))))))))))))))))) (fun _ h => (al_ (al_ (al_ (al_ (al_ (al_ (al_ (al_ (al_ (al_ (al_ (ar_ h)))))))))))))) (fun _ h => (al_ (al_ (al_ (al_ (al_ (al_ (al_ (al_ (al_ (ar_ h))))))))))))) (by decide +kernel)
set_option maxRecDepth 20000 in
theorem gL_law_X9_meeters : GoodIn wsL_law (wsV RL 32 RX9 yX9_meeters wsX9_meeters) := goodIn_app (sw_good (sw_cons (ml10_ (t4_ (t1_ (t1_ (t1_ h1_))))) (sw_cons (ml10_ (t4_ (t4_ h1_))) (sw_cons (ml10_ (t4_ (t4_ (t1_ h1_)))) (sw_cons (ml1_ (t1_ (t1_ h1_))) sw_nil)))) (by decide +kernel)) ggL_law_X9_meeters
set_option maxRecDepth 20000 in
theorem ggL_law_X10_meeters : GoodIn wsL_law wsX10_meeters := sw_good (sw_cons (ml11_ (t1_ h1_)) (sw_app (sw_cons (ml11_ (t1_ (t1_ h1_))) (sw_cons (ml11_ (t1_ (t1_ (t1_ h1_)))) (sw_cons (ml11_ (t4_ h1_)) (sw_cons (ml1_ (t4_ (t1_ h1_))) (sw_cons (ml11_ (t4_ (t1_ h1_))) (sw_cons (ml8_ (t16_ (t4_ (t1_ h1_)))) (sw_cons (ml8_ (t16_ (t4_ (t1_ (t1_ h1_))))) (sw_cons (ml8_ (t16_ (t4_ (t1_ (t1_ (t1_ h1_)))))) (sw_cons (ml9_ h1_) (sw_cons (ml6_ (t16_ (t1_ (t1_ h1_)))) (sw_cons (ml11_ (t4_ (t1_ (t1_ h1_)))) (sw_cons (ml11_ (t4_ (t1_ (t1_ (t1_ h1_))))) (sw_cons (ml11_ (t4_ (t4_ h1_))) (sw_cons (ml11_ (t4_ (t4_ (t1_ h1_)))) (sw_cons (ml11_ (t4_ (t4_ (t1_ (t1_ h1_))))) (sw_cons (ml11_ (t4_ (t4_ (t1_ (t1_ (t1_ h1_)))))) (sw_cons (ml11_ (t4_ (t4_ (t4_ h1_)))) (sw_cons (ml11_ (t4_ (t4_ (t4_ (t1_ h1_))))) (sw_cons (ml7_ (t4_ (t4_ (t1_ (t1_ h1_))))) (sw_cons (ml6_ (t4_ (t1_ (t1_ h1_)))) sw_nil)))))))))))))))))))) (fun _ h => (al_ (al_ (al_ (al_ (al_ (al_ (al_ (al_ (al_ (al_ (ar_ h)))))))))))))) (by decide +kernel)
set_option maxRecDepth 20000 in
theorem gL_law_X10_meeters : GoodIn wsL_law (wsV RL 35 RX10 yX10_meeters wsX10_meeters) := goodIn_app (sw_good (sw_cons (ml10_ (t16_ (t4_ (t1_ (t1_ h1_))))) (sw_cons (ml10_ (t16_ (t4_ (t1_ (t1_ (t1_ h1_)))))) (sw_cons (ml11_ h1_) (sw_cons (ml1_ (t4_ (t1_ h1_))) sw_nil)))) (by decide +kernel)) ggL_law_X10_meeters
set_option maxRecDepth 20000 in
theorem ggL_law_X9_meeter : GoodIn wsL_law wsX9_meeter := sw_good (sw_cons (ml11_ (t16_ (t1_ h1_))) (sw_app (sw_app (sw_cons (ml1_ (t16_ (t1_ h1_))) (sw_cons (ml10_ (t4_ (t4_ (t1_ (t1_ (t1_ h1_)))))) (sw_cons (ml10_ (t4_ (t4_ (t4_ h1_)))) (sw_cons (ml10_ (t4_ (t4_ (t4_ (t1_ h1_))))) (sw_cons (ml10_ (t4_ (t4_ (t4_ (t1_ (t1_ h1_)))))) (sw_cons (ml1_ (t16_ h1_)) (sw_cons (ml10_ (t4_ (t4_ (t4_ (t1_ (t1_ (t1_ h1_))))))) (sw_cons (ml3_ (t4_ (t4_ (t4_ (t1_ (t1_ h1_)))))) (sw_cons (ml10_ (t16_ h1_)) (sw_cons (ml10_ (t16_ (t1_ h1_))) (sw_cons (ml10_ (t16_ (t1_ (t1_ h1_)))) (sw_cons (ml10_ (t16_ (t1_ (t1_ (t1_ h1_))))) (sw_cons (ml3_ (t4_ (t4_ (t4_ h1_)))) (sw_cons (ml3_ (t4_ (t4_ (t4_ (t1_ (t1_ (t1_ h1_))))))) (sw_cons (ml10_ (t16_ (t4_ h1_))) (sw_cons (ml1_ (t1_ (t1_ h1_))) (sw_cons (ml10_ (t16_ (t4_ (t1_ h1_)))) sw_nil))))))))))))))))) (fun _ h => (al_ (al_ (al_ (al_ (al_ (al_ (al_ (al_ (al_ (al_ (al_ (ar_ h)))))))))))))) (fun _ h => (al_ (al_ (al_ (al_ (al_ (al_ (al_ (al_ (al_ (ar_ h))))))))))))) (by decide +kernel)
set_option maxRecDepth 20000 in
theorem gL_law_X9_meeter : GoodIn wsL_law (wsV RL 36 RX9 yX9_meeter wsX9_meeter) := goodIn_app (sw_good (sw_cons (ml11_ (t4_ (t4_ (t4_ (t1_ (t1_ h1_)))))) (sw_cons (ml11_ (t4_ (t4_ (t4_ (t1_ (t1_ (t1_ h1_))))))) (sw_cons (ml11_ (t16_ h1_)) (sw_cons (ml1_ (t1_ (t1_ h1_))) sw_nil)))) (by decide +kernel)) ggL_law_X9_meeter
set_option maxRecDepth 20000 in
theorem ggL_law_X10_meeter : GoodIn wsL_law wsX10_meeter := sw_good (sw_cons (ml11_ (t16_ (t4_ (t1_ h1_)))) (sw_app (sw_cons (ml8_ (t16_ (t4_ (t1_ h1_)))) (sw_cons (ml8_ (t16_ (t4_ (t1_ (t1_ h1_))))) (sw_cons (ml8_ (t16_ (t4_ (t1_ (t1_ (t1_ h1_)))))) (sw_cons (ml1_ (t4_ (t1_ h1_))) (sw_cons (ml9_ h1_) (sw_cons (ml6_ (t16_ (t1_ (t1_ h1_)))) (sw_cons (ml11_ (t4_ (t1_ (t1_ h1_)))) (sw_cons (ml11_ (t4_ (t1_ (t1_ (t1_ h1_))))) (sw_cons (ml11_ (t4_ (t4_ h1_))) (sw_cons (ml11_ (t4_ (t4_ (t1_ h1_)))) (sw_cons (ml11_ (t4_ (t4_ (t1_ (t1_ h1_))))) (sw_cons (ml11_ (t4_ (t4_ (t1_ (t1_ (t1_ h1_)))))) (sw_cons (ml11_ (t4_ (t4_ (t4_ h1_)))) (sw_cons (ml11_ (t4_ (t4_ (t4_ (t1_ h1_))))) (sw_cons (ml7_ (t4_ (t4_ (t1_ (t1_ h1_))))) (sw_cons (ml6_ (t4_ (t1_ (t1_ h1_)))) sw_nil)))))))))))))))) (fun _ h => (al_ (al_ (al_ (al_ (al_ (al_ (al_ (al_ (al_ (al_ (ar_ h)))))))))))))) (by decide +kernel)
set_option maxRecDepth 20000 in
theorem gL_law_X10_meeter : GoodIn wsL_law (wsV RL 39 RX10 yX10_meeter wsX10_meeter) := goodIn_app (sw_good (sw_cons (ml11_ (t16_ (t1_ (t1_ h1_)))) (sw_cons (ml11_ (t16_ (t1_ (t1_ (t1_ h1_))))) (sw_cons (ml11_ (t16_ (t4_ h1_))) (sw_cons (ml1_ (t4_ (t1_ h1_))) sw_nil)))) (by decide +kernel)) ggL_law_X10_meeter
set_option maxRecDepth 20000 in
theorem ggL_law_X9_best : GoodIn wsL_law wsX9_best := sw_good (sw_cons (ml12_ (t1_ h1_)) (sw_app (sw_app (sw_app (sw_cons (ml1_ (t16_ (t1_ h1_))) (sw_cons (ml10_ (t4_ (t4_ (t1_ (t1_ (t1_ h1_)))))) (sw_cons (ml12_ (t1_ (t1_ h1_))) (sw_cons (ml12_ (t1_ (t1_ (t1_ h1_)))) (sw_cons (ml1_ (t1_ (t1_ h1_))) (sw_cons (ml12_ (t4_ h1_)) (sw_cons (ml12_ (t4_ (t1_ h1_))) (sw_cons (ml10_ (t16_ (t1_ h1_))) (sw_cons (ml10_ (t16_ (t1_ (t1_ h1_)))) (sw_cons (ml1_ (t16_ h1_)) (sw_cons (ml10_ (t16_ (t1_ (t1_ (t1_ h1_))))) (sw_cons (ml3_ (t4_ (t4_ (t4_ h1_)))) (sw_cons (ml3_ (t4_ (t4_ (t4_ (t1_ (t1_ (t1_ h1_))))))) (sw_cons (ml12_ (t4_ (t1_ (t1_ h1_)))) (sw_cons (ml12_ (t4_ (t1_ (t1_ (t1_ h1_))))) (sw_cons (ml12_ (t4_ (t4_ h1_))) (sw_cons (ml12_ (t4_ (t4_ (t1_ h1_)))) (sw_cons (ml9_ (t16_ (t4_ (t1_ h1_)))) (sw_cons (ml1_ (t4_ (t4_ (t4_ (t1_ h1_))))) (sw_cons (ml12_ (t4_ (t4_ (t1_ (t1_ h1_))))) (sw_cons (ml10_ (t16_ (t4_ h1_))) (sw_cons (ml10_ (t16_ (t4_ (t1_ h1_)))) (sw_cons (ml12_ (t4_ (t4_ (t1_ (t1_ (t1_ h1_)))))) (sw_cons (ml12_ (t4_ (t4_ (t4_ h1_)))) sw_nil)))))))))))))))))))))))) (sw_cons (ml12_ (t4_ (t4_ (t4_ (t1_ h1_))))) (sw_cons (ml12_ (t4_ (t4_ (t4_ (t1_ (t1_ h1_)))))) (sw_cons (ml12_ (t4_ (t4_ (t4_ (t1_ (t1_ (t1_ h1_))))))) (sw_cons (ml12_ (t16_ h1_)) (sw_cons (ml12_ (t16_ (t1_ h1_))) sw_nil)))))) (fun _ h => (al_ (al_ (al_ (al_ (al_ (al_ (al_ (al_ (al_ (al_ (al_ (ar_ h)))))))))))))) (fun _ h => (al_ (al_ (al_ (al_ (al_ (al_ (al_ (al_ (al_ (ar_ h))))))))))))) (by decide +kernel)
set_option maxRecDepth 20000 in
theorem gL_law_X9_best : GoodIn wsL_law (wsV RL 40 RX9 yX9_best wsX9_best) := goodIn_app (sw_good (sw_cons (ml11_ (t16_ (t4_ (t1_ (t1_ h1_))))) (sw_cons (ml11_ (t16_ (t4_ (t1_ (t1_ (t1_ h1_)))))) (sw_cons (ml12_ h1_) (sw_cons (ml1_ (t1_ (t1_ h1_))) sw_nil)))) (by decide +kernel)) ggL_law_X9_best
set_option maxRecDepth 20000 in
theorem ggL_law_X10_best : GoodIn wsL_law wsX10_best := sw_good (sw_cons (ml12_ (t16_ (t4_ (t1_ h1_)))) (sw_app (sw_app (sw_cons (ml7_ (t4_ (t4_ (t4_ h1_)))) (sw_cons (ml7_ (t4_ (t4_ (t4_ (t1_ h1_))))) (sw_cons (ml1_ (t4_ (t1_ h1_))) (sw_cons (ml7_ (t4_ (t4_ (t4_ (t1_ (t1_ h1_)))))) (sw_cons (ml12_ (t16_ (t4_ (t1_ (t1_ h1_))))) (sw_cons (ml12_ (t16_ (t4_ (t1_ (t1_ (t1_ h1_)))))) (sw_cons (ml13_ h1_) (sw_cons (ml13_ (t1_ h1_)) (sw_cons (ml8_ (t16_ (t4_ (t1_ h1_)))) (sw_cons (ml8_ (t16_ (t4_ (t1_ (t1_ h1_))))) (sw_cons (ml8_ (t16_ (t4_ (t1_ (t1_ (t1_ h1_)))))) (sw_cons (ml9_ h1_) (sw_cons (ml6_ (t16_ (t1_ (t1_ h1_)))) (sw_cons (ml11_ (t4_ (t4_ (t1_ (t1_ h1_))))) (sw_cons (ml11_ (t4_ (t4_ (t1_ (t1_ (t1_ h1_)))))) (sw_cons (ml11_ (t4_ (t4_ (t4_ h1_)))) (sw_cons (ml11_ (t4_ (t4_ (t4_ (t1_ h1_))))) (sw_cons (ml7_ (t4_ (t4_ (t1_ (t1_ h1_))))) (sw_cons (ml6_ (t4_ (t1_ (t1_ h1_)))) (sw_cons (ml13_ (t1_ (t1_ h1_))) (sw_cons (ml13_ (t1_ (t1_ (t1_ h1_)))) (sw_cons (ml13_ (t4_ h1_)) (sw_cons (ml13_ (t4_ (t1_ h1_))) (sw_cons (ml13_ (t4_ (t1_ (t1_ h1_)))) sw_nil)))))))))))))))))))))))) (sw_cons (ml13_ (t4_ (t1_ (t1_ (t1_ h1_))))) (sw_cons (ml13_ (t4_ (t4_ h1_))) (sw_cons (ml13_ (t4_ (t4_ (t1_ h1_)))) (sw_cons (ml6_ (t4_ (t4_ h1_))) (sw_cons (ml13_ (t4_ (t4_ (t1_ (t1_ h1_))))) (sw_cons (ml13_ (t4_ (t4_ (t1_ (t1_ (t1_ h1_)))))) (sw_cons (ml13_ (t4_ (t4_ (t4_ h1_)))) sw_nil)))))))) (fun _ h => (al_ (al_ (al_ (al_ (al_ (al_ (al_ (al_ (al_ (al_ (ar_ h)))))))))))))) (by decide +kernel)
set_option maxRecDepth 20000 in
theorem gL_law_X10_best : GoodIn wsL_law (wsV RL 43 RX10 yX10_best wsX10_best) := goodIn_app (sw_good (sw_cons (ml12_ (t16_ (t1_ (t1_ h1_)))) (sw_cons (ml12_ (t16_ (t1_ (t1_ (t1_ h1_))))) (sw_cons (ml12_ (t16_ (t4_ h1_))) (sw_cons (ml1_ (t4_ (t1_ h1_))) sw_nil)))) (by decide +kernel)) ggL_law_X10_best
set_option maxRecDepth 20000 in
theorem ggL_law_X9_other : GoodIn wsL_law wsX9_other := sw_good (sw_cons (ml13_ (t16_ h1_)) (sw_app (sw_app (sw_app (sw_cons (ml1_ (t16_ (t1_ (t1_ h1_)))) (sw_cons (ml7_ (t16_ (t1_ (t1_ (t1_ h1_))))) (sw_cons (ml7_ (t16_ (t4_ h1_))) (sw_cons (ml7_ (t16_ (t4_ (t1_ h1_)))) (sw_cons (ml7_ (t16_ (t4_ (t1_ (t1_ h1_))))) (sw_cons (ml1_ (t16_ h1_)) (sw_cons (ml7_ (t16_ (t4_ (t1_ (t1_ (t1_ h1_)))))) (sw_cons (ml3_ (t4_ (t4_ (t4_ (t1_ (t1_ (t1_ h1_))))))) (sw_cons (ml8_ h1_) (sw_cons (ml8_ (t1_ h1_)) (sw_cons (ml8_ (t1_ (t1_ h1_))) (sw_cons (ml8_ (t1_ (t1_ (t1_ h1_)))) (sw_cons (ml3_ (t4_ (t4_ (t4_ (t1_ h1_))))) (sw_cons (ml3_ (t4_ (t4_ (t1_ (t1_ (t1_ h1_)))))) (sw_cons (ml8_ (t4_ h1_)) (sw_cons (ml8_ (t4_ (t1_ h1_))) (sw_cons (ml8_ (t4_ (t1_ (t1_ h1_)))) (sw_cons (ml8_ (t4_ (t1_ (t1_ (t1_ h1_))))) (sw_cons (ml8_ (t4_ (t4_ h1_))) (sw_cons (ml8_ (t4_ (t4_ (t1_ h1_)))) (sw_cons (ml8_ (t4_ (t4_ (t1_ (t1_ h1_))))) (sw_cons (ml8_ (t4_ (t4_ (t1_ (t1_ (t1_ h1_)))))) (sw_cons (ml8_ (t4_ (t4_ (t4_ h1_)))) (sw_cons (ml8_ (t4_ (t4_ (t4_ (t1_ h1_))))) sw_nil)))))))))))))))))))))))) (sw_cons (ml8_ (t4_ (t4_ (t4_ (t1_ (t1_ h1_)))))) (sw_cons (ml8_ (t4_ (t4_ (t4_ (t1_ (t1_ (t1_ h1_))))))) (sw_cons (ml8_ (t16_ h1_)) (sw_cons (ml3_ (t4_ (t4_ (t4_ h1_)))) sw_nil))))) (fun _ h => (al_ (al_ (al_ (al_ (al_ (al_ (al_ (al_ (al_ (al_ (al_ (ar_ h)))))))))))))) (fun _ h => (al_ (al_ (al_ (al_ (al_ (al_ (al_ (al_ (al_ (ar_ h))))))))))))) (by decide +kernel)
set_option maxRecDepth 20000 in
theorem gL_law_X9_other : GoodIn wsL_law (wsV RL 44 RX9 yX9_other wsX9_other) := goodIn_app (sw_good (sw_cons (ml13_ (t4_ (t4_ (t4_ (t1_ h1_))))) (sw_cons (ml13_ (t4_ (t4_ (t4_ (t1_ (t1_ h1_)))))) (sw_cons (ml13_ (t4_ (t4_ (t4_ (t1_ (t1_ (t1_ h1_))))))) (sw_cons (ml1_ (t1_ (t1_ h1_))) sw_nil)))) (by decide +kernel)) ggL_law_X9_other
set_option maxRecDepth 20000 in
theorem ggL_law_X10_other : GoodIn wsL_law wsX10_other := sw_good (sw_cons (ml13_ (t16_ (t4_ h1_))) (sw_app (sw_cons (ml7_ (t4_ (t4_ (t1_ (t1_ (t1_ h1_)))))) (sw_cons (ml6_ (t4_ (t1_ (t1_ (t1_ h1_))))) (sw_cons (ml13_ (t16_ (t4_ (t1_ h1_)))) (sw_cons (ml13_ (t16_ (t4_ (t1_ (t1_ h1_))))) (sw_cons (ml13_ (t16_ (t4_ (t1_ (t1_ (t1_ h1_)))))) (sw_cons (ml1_ (t4_ (t1_ h1_))) (sw_cons (ml14_ h1_) (sw_cons (ml8_ (t16_ (t4_ (t1_ h1_)))) (sw_cons (ml8_ (t16_ (t4_ (t1_ (t1_ h1_))))) (sw_cons (ml8_ (t16_ (t4_ (t1_ (t1_ (t1_ h1_)))))) (sw_cons (ml9_ h1_) (sw_cons (ml6_ (t16_ (t1_ (t1_ h1_)))) (sw_cons (ml7_ (t4_ (t4_ (t4_ h1_)))) (sw_cons (ml7_ (t4_ (t4_ (t4_ (t1_ h1_))))) (sw_cons (ml7_ (t4_ (t4_ (t4_ (t1_ (t1_ h1_)))))) sw_nil))))))))))))))) (fun _ h => (al_ (al_ (al_ (al_ (al_ (al_ (al_ (al_ (al_ (al_ (ar_ h)))))))))))))) (by decide +kernel)
set_option maxRecDepth 20000 in
theorem gL_law_X10_other : GoodIn wsL_law (wsV RL 47 RX10 yX10_other wsX10_other) := goodIn_app (sw_good (sw_cons (ml13_ (t16_ (t1_ h1_))) (sw_cons (ml13_ (t16_ (t1_ (t1_ h1_)))) (sw_cons (ml13_ (t16_ (t1_ (t1_ (t1_ h1_))))) (sw_cons (ml1_ (t4_ (t1_ h1_))) sw_nil)))) (by decide +kernel)) ggL_law_X10_other
set_option maxRecDepth 20000 in
theorem ggL_law_X9_otherless : GoodIn wsL_law wsX9_otherless := sw_good (sw_cons (ml14_ (t4_ h1_)) (sw_app (sw_app (sw_cons (ml1_ (t16_ (t1_ (t1_ h1_)))) (sw_cons (ml7_ (t16_ (t1_ (t1_ (t1_ h1_))))) (sw_cons (ml1_ (t16_ (t1_ h1_))) (sw_cons (ml9_ (t16_ (t4_ (t1_ h1_)))) (sw_cons (ml7_ h1_) (sw_cons (ml7_ (t1_ h1_)) (sw_cons (ml7_ (t1_ (t1_ h1_))) (sw_cons (ml1_ (t16_ h1_)) (sw_cons (ml7_ (t1_ (t1_ (t1_ h1_)))) (sw_cons (ml3_ (t4_ (t4_ (t4_ (t1_ h1_))))) (sw_cons (ml3_ (t4_ (t4_ (t4_ (t1_ (t1_ h1_)))))) (sw_cons (ml3_ (t4_ (t4_ (t4_ (t1_ (t1_ (t1_ h1_))))))) (sw_cons (ml3_ (t4_ (t4_ (t4_ h1_)))) (sw_cons (ml7_ (t4_ h1_)) (sw_cons (ml3_ (t4_ h1_)) (sw_cons (ml3_ (t4_ (t1_ h1_))) (sw_cons (ml3_ (t4_ (t1_ (t1_ h1_)))) sw_nil))))))))))))))))) (fun _ h => (al_ (al_ (al_ (al_ (al_ (al_ (al_ (al_ (al_ (al_ (al_ (ar_ h)))))))))))))) (fun _ h => (al_ (al_ (al_ (al_ (al_ (al_ (al_ (al_ (al_ (ar_ h))))))))))))) (by decide +kernel)
set_option maxRecDepth 20000 in
theorem gL_law_X9_otherless : GoodIn wsL_law (wsV RL 48 RX9 yX9_otherless wsX9_otherless) := goodIn_app (sw_good (sw_cons (ml14_ (t1_ h1_)) (sw_cons (ml14_ (t1_ (t1_ h1_))) (sw_cons (ml14_ (t1_ (t1_ (t1_ h1_)))) (sw_cons (ml1_ (t1_ (t1_ h1_))) sw_nil)))) (by decide +kernel)) ggL_law_X9_otherless
set_option maxRecDepth 20000 in
theorem ggL_law_X10_otherless : GoodIn wsL_law wsX10_otherless := sw_good (sw_cons (ml14_ (t4_ (t4_ h1_))) (sw_app (sw_cons (ml7_ (t4_ (t4_ (t1_ (t1_ (t1_ h1_)))))) sw_nil) (fun _ h => (al_ (al_ (al_ (al_ (al_ (al_ (al_ (al_ (al_ (al_ (ar_ h)))))))))))))) (by decide +kernel)
set_option maxRecDepth 20000 in
theorem gL_law_X10_otherless : GoodIn wsL_law (wsV RL 51 RX10 yX10_otherless wsX10_otherless) := goodIn_app (sw_good (sw_cons (ml14_ (t4_ (t1_ h1_))) (sw_cons (ml14_ (t4_ (t1_ (t1_ h1_)))) (sw_cons (ml14_ (t4_ (t1_ (t1_ (t1_ h1_))))) (sw_cons (ml1_ (t4_ (t1_ h1_))) sw_nil)))) (by decide +kernel)) ggL_law_X10_otherless
set_option maxRecDepth 20000 in
theorem ggL_law_X9_take : GoodIn wsL_law wsX9_take := sw_good (sw_cons (ml14_ (t4_ (t4_ (t4_ h1_)))) (sw_app (sw_app (sw_app (sw_cons (ml1_ (t16_ (t1_ (t1_ h1_)))) (sw_cons (ml1_ (t16_ (t1_ h1_))) (sw_cons (ml9_ (t16_ (t4_ (t1_ h1_)))) (sw_cons (ml10_ (t4_ (t4_ (t1_ (t1_ (t1_ h1_)))))) (sw_cons (ml14_ (t4_ (t4_ (t4_ (t1_ h1_))))) (sw_cons (ml10_ (t4_ (t4_ h1_))) (sw_cons (ml10_ (t4_ (t4_ (t1_ h1_)))) (sw_cons (ml1_ (t1_ (t1_ h1_))) (sw_cons (ml10_ (t4_ (t4_ (t1_ (t1_ h1_))))) (sw_cons (ml10_ (t4_ (t4_ (t4_ h1_)))) (sw_cons (ml10_ (t4_ (t4_ (t4_ (t1_ h1_))))) (sw_cons (ml10_ (t4_ (t4_ (t4_ (t1_ (t1_ h1_)))))) (sw_cons (ml1_ (t16_ h1_)) (sw_cons (ml10_ (t4_ (t4_ (t4_ (t1_ (t1_ (t1_ h1_))))))) (sw_cons (ml3_ (t4_ (t4_ (t4_ (t1_ (t1_ h1_)))))) (sw_cons (ml10_ (t16_ h1_)) (sw_cons (ml10_ (t16_ (t1_ h1_))) (sw_cons (ml10_ (t16_ (t1_ (t1_ h1_)))) (sw_cons (ml10_ (t16_ (t1_ (t1_ (t1_ h1_))))) (sw_cons (ml3_ (t4_ (t4_ (t4_ h1_)))) (sw_cons (ml3_ (t4_ (t4_ (t4_ (t1_ (t1_ (t1_ h1_))))))) (sw_cons (ml10_ (t16_ (t4_ h1_))) (sw_cons (ml10_ (t16_ (t4_ (t1_ h1_)))) (sw_cons (ml7_ h1_) sw_nil)))))))))))))))))))))))) (sw_cons (ml7_ (t1_ h1_)) (sw_cons (ml7_ (t1_ (t1_ h1_))) (sw_cons (ml7_ (t1_ (t1_ (t1_ h1_)))) (sw_cons (ml3_ (t4_ (t4_ (t4_ (t1_ h1_))))) (sw_cons (ml7_ (t4_ h1_)) (sw_cons (ml3_ (t4_ h1_)) (sw_cons (ml3_ (t4_ (t1_ h1_))) (sw_cons (ml3_ (t4_ (t1_ (t1_ h1_)))) (sw_cons (ml8_ (t4_ (t4_ h1_))) (sw_cons (ml8_ (t4_ (t4_ (t1_ h1_)))) (sw_cons (ml8_ (t4_ (t4_ (t1_ (t1_ h1_))))) (sw_cons (ml8_ (t4_ (t4_ (t1_ (t1_ (t1_ h1_)))))) (sw_cons (ml3_ (t4_ (t4_ (t1_ (t1_ (t1_ h1_)))))) (sw_cons (ml8_ (t4_ (t4_ (t4_ h1_)))) (sw_cons (ml8_ (t4_ (t1_ h1_))) (sw_cons (ml8_ (t4_ (t1_ (t1_ h1_)))) (sw_cons (ml8_ (t4_ (t1_ (t1_ (t1_ h1_))))) (sw_cons (ml8_ (t4_ (t4_ (t4_ (t1_ h1_))))) (sw_cons (ml8_ (t4_ (t4_ (t4_ (t1_ (t1_ h1_)))))) (sw_cons (ml8_ (t4_ (t4_ (t4_ (t1_ (t1_ (t1_ h1_))))))) (sw_cons (ml8_ (t16_ h1_)) sw_nil)))))))))))))))))))))) (fun _ h => (al_ (al_ (al_ (al_ (al_ (al_ (al_ (al_ (al_ (al_ (al_ (ar_ h)))))))))))))) (fun _ h => (al_ (al_ (al_ (al_ (al_ (al_ (al_ (al_ (al_ (ar_ h))))))))))))) (by decide +kernel)
set_option maxRecDepth 20000 in
theorem gL_law_X9_take : GoodIn wsL_law (wsV RL 52 RX9 yX9_take wsX9_take) := goodIn_app (sw_good (sw_cons (ml14_ (t4_ (t4_ (t1_ h1_)))) (sw_cons (ml14_ (t4_ (t4_ (t1_ (t1_ h1_))))) (sw_cons (ml14_ (t4_ (t4_ (t1_ (t1_ (t1_ h1_)))))) (sw_cons (ml1_ (t1_ (t1_ h1_))) sw_nil)))) (by decide +kernel)) ggL_law_X9_take
set_option maxRecDepth 20000 in
theorem ggL_law_X10_take : GoodIn wsL_law wsX10_take := sw_good (sw_cons (ml14_ (t16_ (t1_ h1_))) (sw_app (sw_cons (ml7_ (t4_ (t4_ (t1_ (t1_ (t1_ h1_)))))) (sw_cons (ml6_ (t4_ (t1_ (t1_ (t1_ h1_))))) (sw_cons (ml11_ (t1_ (t1_ h1_))) (sw_cons (ml11_ (t1_ (t1_ (t1_ h1_)))) (sw_cons (ml11_ (t4_ h1_)) (sw_cons (ml1_ (t4_ (t1_ h1_))) (sw_cons (ml11_ (t4_ (t1_ h1_))) (sw_cons (ml8_ (t16_ (t4_ (t1_ h1_)))) (sw_cons (ml8_ (t16_ (t4_ (t1_ (t1_ h1_))))) (sw_cons (ml8_ (t16_ (t4_ (t1_ (t1_ (t1_ h1_)))))) (sw_cons (ml9_ h1_) (sw_cons (ml6_ (t16_ (t1_ (t1_ h1_)))) (sw_cons (ml11_ (t4_ (t1_ (t1_ h1_)))) (sw_cons (ml11_ (t4_ (t1_ (t1_ (t1_ h1_))))) (sw_cons (ml11_ (t4_ (t4_ h1_))) (sw_cons (ml11_ (t4_ (t4_ (t1_ h1_)))) (sw_cons (ml11_ (t4_ (t4_ (t1_ (t1_ h1_))))) (sw_cons (ml11_ (t4_ (t4_ (t1_ (t1_ (t1_ h1_)))))) (sw_cons (ml11_ (t4_ (t4_ (t4_ h1_)))) (sw_cons (ml11_ (t4_ (t4_ (t4_ (t1_ h1_))))) (sw_cons (ml7_ (t4_ (t4_ (t1_ (t1_ h1_))))) (sw_cons (ml6_ (t4_ (t1_ (t1_ h1_)))) sw_nil)))))))))))))))))))))) (fun _ h => (al_ (al_ (al_ (al_ (al_ (al_ (al_ (al_ (al_ (al_ (ar_ h)))))))))))))) (by decide +kernel)
set_option maxRecDepth 20000 in
theorem gL_law_X10_take : GoodIn wsL_law (wsV RL 55 RX10 yX10_take wsX10_take) := goodIn_app (sw_good (sw_cons (ml14_ (t4_ (t4_ (t4_ (t1_ (t1_ h1_)))))) (sw_cons (ml14_ (t4_ (t4_ (t4_ (t1_ (t1_ (t1_ h1_))))))) (sw_cons (ml14_ (t16_ h1_)) (sw_cons (ml1_ (t4_ (t1_ h1_))) sw_nil)))) (by decide +kernel)) ggL_law_X10_take
set_option maxRecDepth 20000 in
theorem ggL_law_X9_witness : GoodIn wsL_law wsX9_witness := sw_good (sw_cons (ml14_ (t16_ (t4_ (t1_ h1_)))) (sw_app (sw_app (sw_cons (ml1_ (t16_ (t1_ h1_))) (sw_cons (ml10_ (t4_ (t4_ (t1_ (t1_ (t1_ h1_)))))) (sw_cons (ml1_ (t16_ (t1_ (t1_ h1_)))) (sw_cons (ml14_ (t16_ (t4_ (t1_ (t1_ h1_))))) (sw_cons (ml14_ (t16_ (t4_ (t1_ (t1_ (t1_ h1_)))))) (sw_cons (ml15_ h1_) (sw_cons (ml1_ (t16_ h1_)) (sw_cons (ml15_ (t1_ h1_)) (sw_cons (ml3_ (t4_ (t4_ (t4_ h1_)))) sw_nil))))))))) (fun _ h => (al_ (al_ (al_ (al_ (al_ (al_ (al_ (al_ (al_ (al_ (al_ (ar_ h)))))))))))))) (fun _ h => (al_ (al_ (al_ (al_ (al_ (al_ (al_ (al_ (al_ (ar_ h))))))))))))) (by decide +kernel)
set_option maxRecDepth 20000 in
theorem gL_law_X9_witness : GoodIn wsL_law (wsV RL 56 RX9 yX9_witness wsX9_witness) := goodIn_app (sw_good (sw_cons (ml14_ (t16_ (t1_ (t1_ h1_)))) (sw_cons (ml14_ (t16_ (t1_ (t1_ (t1_ h1_))))) (sw_cons (ml14_ (t16_ (t4_ h1_))) (sw_cons (ml1_ (t1_ (t1_ h1_))) sw_nil)))) (by decide +kernel)) ggL_law_X9_witness
set_option maxRecDepth 20000 in
theorem ggL_law_X10_witness : GoodIn wsL_law wsX10_witness := sw_good (sw_cons (ml15_ (t4_ (t1_ h1_))) (sw_app (sw_cons (ml7_ (t4_ (t4_ (t1_ (t1_ h1_))))) (sw_cons (ml6_ (t4_ (t1_ (t1_ h1_)))) (sw_cons (ml7_ (t4_ (t4_ (t1_ (t1_ (t1_ h1_)))))) (sw_cons (ml6_ (t4_ (t1_ (t1_ (t1_ h1_))))) (sw_cons (ml8_ (t16_ (t4_ (t1_ h1_)))) (sw_cons (ml8_ (t16_ (t4_ (t1_ (t1_ h1_))))) (sw_cons (ml8_ (t16_ (t4_ (t1_ (t1_ (t1_ h1_)))))) (sw_cons (ml1_ (t4_ (t1_ h1_))) (sw_cons (ml9_ h1_) (sw_cons (ml6_ (t16_ (t1_ (t1_ h1_)))) sw_nil)))))))))) (fun _ h => (al_ (al_ (al_ (al_ (al_ (al_ (al_ (al_ (al_ (al_ (ar_ h)))))))))))))) (by decide +kernel)
set_option maxRecDepth 20000 in
theorem gL_law_X10_witness : GoodIn wsL_law (wsV RL 59 RX10 yX10_witness wsX10_witness) := goodIn_app (sw_good (sw_cons (ml15_ (t1_ (t1_ h1_))) (sw_cons (ml15_ (t1_ (t1_ (t1_ h1_)))) (sw_cons (ml15_ (t4_ h1_)) (sw_cons (ml1_ (t4_ (t1_ h1_))) sw_nil)))) (by decide +kernel)) ggL_law_X10_witness
set_option maxRecDepth 20000 in
theorem ggL_law_X9_shares : GoodIn wsL_law wsX9_shares := sw_good (sw_cons (ml15_ (t4_ (t4_ (t1_ h1_)))) (sw_app (sw_app (sw_app (sw_app (sw_app (sw_cons (ml2_ (t1_ (t1_ h1_))) (sw_cons (ml1_ (t16_ (t1_ h1_))) (sw_cons (ml1_ (t4_ (t4_ (t4_ (t1_ h1_))))) (sw_cons (ml1_ (t16_ (t4_ (t1_ (t1_ h1_))))) (sw_cons (ml15_ (t4_ (t4_ (t1_ (t1_ h1_))))) (sw_cons (ml15_ (t4_ (t4_ (t1_ (t1_ (t1_ h1_)))))) (sw_cons (ml15_ (t4_ (t4_ (t4_ h1_)))) (sw_cons (ml2_ (t1_ h1_)) (sw_cons (ml15_ (t4_ (t4_ (t4_ (t1_ h1_))))) (sw_cons (ml15_ (t4_ (t4_ (t4_ (t1_ (t1_ h1_)))))) (sw_cons (ml15_ (t4_ (t4_ (t4_ (t1_ (t1_ (t1_ h1_))))))) (sw_cons (ml15_ (t16_ h1_)) (sw_cons (ml15_ (t16_ (t1_ h1_))) (sw_cons (ml15_ (t16_ (t1_ (t1_ h1_)))) (sw_cons (ml15_ (t16_ (t1_ (t1_ (t1_ h1_))))) (sw_cons (ml4_ (t4_ (t1_ (t1_ (t1_ h1_))))) (sw_cons (ml15_ (t16_ (t4_ h1_))) (sw_cons (ml4_ (t4_ (t4_ h1_))) (sw_cons (ml4_ (t4_ (t4_ (t1_ h1_)))) (sw_cons (ml4_ (t4_ (t1_ h1_))) (sw_cons (ml4_ (t4_ h1_)) (sw_cons (ml15_ (t16_ (t4_ (t1_ h1_)))) (sw_cons (ml4_ (t4_ (t1_ (t1_ h1_)))) (sw_cons (ml15_ (t16_ (t4_ (t1_ (t1_ h1_))))) sw_nil)))))))))))))))))))))))) (sw_app (sw_cons (ml10_ (t16_ (t4_ h1_))) (sw_cons (ml1_ (t1_ (t1_ h1_))) (sw_cons (ml10_ (t16_ (t4_ (t1_ h1_)))) (sw_cons (ml15_ (t16_ (t4_ (t1_ (t1_ (t1_ h1_)))))) (sw_cons (ml16_ h1_) (sw_cons (ml16_ (t1_ h1_)) (sw_cons (ml16_ (t1_ (t1_ h1_))) (sw_cons (ml16_ (t1_ (t1_ (t1_ h1_)))) (sw_cons (ml16_ (t4_ h1_)) (sw_cons (ml16_ (t4_ (t1_ h1_))) (sw_cons (ml16_ (t4_ (t1_ (t1_ h1_)))) (sw_cons (ml16_ (t4_ (t1_ (t1_ (t1_ h1_))))) (sw_cons (ml16_ (t4_ (t4_ h1_))) (sw_cons (ml16_ (t4_ (t4_ (t1_ h1_)))) (sw_cons (ml16_ (t4_ (t4_ (t1_ (t1_ h1_))))) (sw_cons (ml16_ (t4_ (t4_ (t1_ (t1_ (t1_ h1_)))))) (sw_cons (ml16_ (t4_ (t4_ (t4_ h1_)))) (sw_cons (ml16_ (t4_ (t4_ (t4_ (t1_ h1_))))) (sw_cons (ml16_ (t4_ (t4_ (t4_ (t1_ (t1_ h1_)))))) (sw_cons (ml16_ (t4_ (t4_ (t4_ (t1_ (t1_ (t1_ h1_))))))) (sw_cons (ml16_ (t16_ h1_)) (sw_cons (ml16_ (t16_ (t1_ h1_))) (sw_cons (ml16_ (t16_ (t1_ (t1_ h1_)))) (sw_cons (ml16_ (t16_ (t1_ (t1_ (t1_ h1_))))) sw_nil)))))))))))))))))))))))) (sw_cons (ml16_ (t16_ (t4_ h1_))) (sw_cons (ml16_ (t16_ (t4_ (t1_ h1_)))) (sw_cons (ml16_ (t16_ (t4_ (t1_ (t1_ h1_))))) (sw_cons (ml16_ (t16_ (t4_ (t1_ (t1_ (t1_ h1_)))))) (sw_cons (ml17_ h1_) (sw_cons (ml17_ (t1_ h1_)) (sw_cons (ml17_ (t1_ (t1_ h1_))) (sw_cons (ml17_ (t1_ (t1_ (t1_ h1_)))) (sw_cons (ml17_ (t4_ h1_)) (sw_cons (ml17_ (t4_ (t1_ h1_))) (sw_cons (ml1_ (t16_ (t4_ (t1_ h1_)))) (sw_cons (ml17_ (t4_ (t1_ (t1_ h1_)))) (sw_cons (ml3_ (t16_ (t4_ h1_))) (sw_cons (ml3_ (t16_ (t4_ (t1_ h1_)))) (sw_cons (ml17_ (t4_ (t1_ (t1_ (t1_ h1_))))) (sw_cons (ml17_ (t4_ (t4_ h1_))) (sw_cons (ml17_ (t4_ (t4_ (t1_ h1_)))) sw_nil))))))))))))))))))) (fun _ h => (al_ (al_ (al_ (al_ (al_ (al_ (al_ (al_ (al_ (al_ (al_ (ar_ h)))))))))))))) (fun _ h => (al_ (al_ (al_ (al_ (al_ (al_ (al_ (al_ (al_ (ar_ h)))))))))))) (fun _ h => (al_ (al_ (al_ (al_ (al_ (al_ (al_ (ar_ h)))))))))) (fun _ h => (al_ (al_ (al_ (al_ (al_ (al_ (al_ (al_ (ar_ h)))))))))))) (by decide +kernel)
set_option maxRecDepth 20000 in
theorem gL_law_X9_shares : GoodIn wsL_law (wsV RL 60 RX9 yX9_shares wsX9_shares) := goodIn_app (sw_good (sw_cons (ml15_ (t4_ (t1_ (t1_ h1_)))) (sw_cons (ml15_ (t4_ (t1_ (t1_ (t1_ h1_))))) (sw_cons (ml15_ (t4_ (t4_ h1_))) (sw_cons (ml1_ (t1_ (t1_ h1_))) sw_nil)))) (by decide +kernel)) ggL_law_X9_shares
set_option maxRecDepth 20000 in
theorem ggL_law_X10_shares : GoodIn wsL_law wsX10_shares := sw_good (sw_cons (ml17_ (t4_ (t4_ (t4_ (t1_ h1_))))) (sw_app (sw_app (sw_cons (ml6_ (t4_ (t4_ (t1_ h1_)))) (sw_cons (ml17_ (t4_ (t4_ (t4_ (t1_ (t1_ h1_)))))) (sw_cons (ml17_ (t4_ (t4_ (t4_ (t1_ (t1_ (t1_ h1_))))))) (sw_cons (ml17_ (t16_ h1_)) (sw_cons (ml17_ (t16_ (t1_ h1_))) (sw_cons (ml1_ (t4_ (t1_ h1_))) (sw_cons (ml17_ (t16_ (t1_ (t1_ h1_)))) (sw_cons (ml6_ (t16_ (t1_ (t1_ h1_)))) (sw_cons (ml7_ (t4_ (t4_ (t1_ (t1_ h1_))))) (sw_cons (ml6_ (t4_ (t1_ (t1_ h1_)))) (sw_cons (ml6_ (t4_ (t4_ h1_))) (sw_cons (ml6_ (t4_ (t4_ (t1_ (t1_ h1_))))) (sw_cons (ml17_ (t16_ (t1_ (t1_ (t1_ h1_))))) (sw_cons (ml17_ (t16_ (t4_ h1_))) (sw_cons (ml17_ (t16_ (t4_ (t1_ h1_)))) (sw_cons (ml17_ (t16_ (t4_ (t1_ (t1_ h1_))))) (sw_cons (ml17_ (t16_ (t4_ (t1_ (t1_ (t1_ h1_)))))) (sw_cons (ml18_ h1_) (sw_cons (ml18_ (t1_ h1_)) (sw_cons (ml18_ (t1_ (t1_ h1_))) (sw_cons (ml18_ (t1_ (t1_ (t1_ h1_)))) (sw_cons (ml18_ (t4_ h1_)) (sw_cons (ml18_ (t4_ (t1_ h1_))) (sw_cons (ml18_ (t4_ (t1_ (t1_ h1_)))) sw_nil)))))))))))))))))))))))) (sw_cons (ml18_ (t4_ (t1_ (t1_ (t1_ h1_))))) (sw_cons (ml18_ (t4_ (t4_ h1_))) (sw_cons (ml18_ (t4_ (t4_ (t1_ h1_)))) (sw_cons (ml18_ (t4_ (t4_ (t1_ (t1_ h1_))))) (sw_cons (ml18_ (t4_ (t4_ (t1_ (t1_ (t1_ h1_)))))) (sw_cons (ml18_ (t4_ (t4_ (t4_ h1_)))) (sw_cons (ml6_ (t16_ (t1_ (t1_ (t1_ h1_))))) (sw_cons (ml18_ (t4_ (t4_ (t4_ (t1_ h1_))))) (sw_cons (ml18_ (t4_ (t4_ (t4_ (t1_ (t1_ h1_)))))) (sw_cons (ml18_ (t4_ (t4_ (t4_ (t1_ (t1_ (t1_ h1_))))))) sw_nil))))))))))) (fun _ h => (al_ (al_ (al_ (al_ (al_ (al_ (al_ (al_ (al_ (al_ (ar_ h)))))))))))))) (by decide +kernel)
set_option maxRecDepth 20000 in
theorem gL_law_X10_shares : GoodIn wsL_law (wsV RL 63 RX10 yX10_shares wsX10_shares) := goodIn_app (sw_good (sw_cons (ml17_ (t4_ (t4_ (t1_ (t1_ h1_))))) (sw_cons (ml17_ (t4_ (t4_ (t1_ (t1_ (t1_ h1_)))))) (sw_cons (ml17_ (t4_ (t4_ (t4_ h1_)))) (sw_cons (ml1_ (t4_ (t1_ h1_))) sw_nil)))) (by decide +kernel)) ggL_law_X10_shares
set_option maxRecDepth 20000 in
theorem ggL_law_X9_apart : GoodIn wsL_law wsX9_apart := sw_good (sw_cons (ml18_ (t16_ (t1_ (t1_ (t1_ h1_))))) (sw_app (sw_app (sw_app (sw_cons (ml2_ (t4_ (t1_ (t1_ h1_)))) (sw_cons (ml18_ (t16_ (t4_ h1_))) (sw_cons (ml18_ (t16_ (t4_ (t1_ h1_)))) (sw_cons (ml18_ (t16_ (t4_ (t1_ (t1_ h1_))))) (sw_cons (ml18_ (t16_ (t4_ (t1_ (t1_ (t1_ h1_)))))) (sw_cons (ml2_ (t4_ (t1_ h1_))) (sw_cons (ml19_ h1_) (sw_cons (ml19_ (t1_ h1_)) (sw_cons (ml19_ (t1_ (t1_ h1_))) (sw_cons (ml19_ (t1_ (t1_ (t1_ h1_)))) (sw_cons (ml19_ (t4_ h1_)) (sw_cons (ml4_ (t4_ (t4_ (t4_ (t1_ (t1_ (t1_ h1_))))))) (sw_cons (ml4_ (t16_ h1_)) (sw_cons (ml4_ (t16_ (t1_ h1_))) (sw_cons (ml4_ (t4_ (t4_ (t4_ (t1_ (t1_ h1_)))))) (sw_cons (ml19_ (t4_ (t1_ h1_))) (sw_cons (ml19_ (t4_ (t1_ (t1_ h1_)))) (sw_cons (ml19_ (t4_ (t1_ (t1_ (t1_ h1_))))) (sw_cons (ml19_ (t4_ (t4_ h1_))) (sw_cons (ml19_ (t4_ (t4_ (t1_ h1_)))) (sw_cons (ml19_ (t4_ (t4_ (t1_ (t1_ h1_))))) sw_nil))))))))))))))))))))) (fun _ h => (al_ (al_ (al_ (al_ (al_ (al_ (al_ (al_ (al_ (al_ (al_ (ar_ h)))))))))))))) (fun _ h => (al_ (al_ (al_ (al_ (al_ (al_ (ar_ h))))))))) (fun _ h => (al_ (al_ (al_ (al_ (al_ (al_ (al_ (al_ (al_ (ar_ h))))))))))))) (by decide +kernel)
set_option maxRecDepth 20000 in
theorem gL_law_X9_apart : GoodIn wsL_law (wsV RL 64 RX9 yX9_apart wsX9_apart) := goodIn_app (sw_good (sw_cons (ml18_ (t16_ h1_)) (sw_cons (ml18_ (t16_ (t1_ h1_))) (sw_cons (ml18_ (t16_ (t1_ (t1_ h1_)))) (sw_cons (ml1_ (t1_ (t1_ h1_))) sw_nil)))) (by decide +kernel)) ggL_law_X9_apart
set_option maxRecDepth 20000 in
theorem ggL_law_X10_apart : GoodIn wsL_law wsX10_apart := sw_good (sw_cons (ml19_ (t4_ (t4_ (t4_ (t1_ (t1_ h1_)))))) (sw_app (sw_cons (ml19_ (t4_ (t4_ (t4_ (t1_ (t1_ (t1_ h1_))))))) (sw_cons (ml19_ (t16_ h1_)) (sw_cons (ml19_ (t16_ (t1_ h1_))) (sw_cons (ml1_ (t4_ (t1_ h1_))) (sw_cons (ml19_ (t16_ (t1_ (t1_ h1_)))) (sw_cons (ml7_ (t4_ (t4_ (t1_ (t1_ h1_))))) (sw_cons (ml13_ (t4_ (t4_ (t1_ (t1_ h1_))))) (sw_cons (ml13_ (t4_ (t4_ (t1_ (t1_ (t1_ h1_)))))) (sw_cons (ml13_ (t4_ (t4_ (t4_ h1_)))) (sw_cons (ml19_ (t16_ (t1_ (t1_ (t1_ h1_))))) (sw_cons (ml19_ (t16_ (t4_ h1_))) (sw_cons (ml19_ (t16_ (t4_ (t1_ h1_)))) (sw_cons (ml19_ (t16_ (t4_ (t1_ (t1_ h1_))))) (sw_cons (ml6_ (t4_ (t1_ (t1_ h1_)))) sw_nil)))))))))))))) (fun _ h => (al_ (al_ (al_ (al_ (al_ (al_ (al_ (al_ (al_ (al_ (ar_ h)))))))))))))) (by decide +kernel)
set_option maxRecDepth 20000 in
theorem gL_law_X10_apart : GoodIn wsL_law (wsV RL 67 RX10 yX10_apart wsX10_apart) := goodIn_app (sw_good (sw_cons (ml19_ (t4_ (t4_ (t1_ (t1_ (t1_ h1_)))))) (sw_cons (ml19_ (t4_ (t4_ (t4_ h1_)))) (sw_cons (ml19_ (t4_ (t4_ (t4_ (t1_ h1_))))) (sw_cons (ml1_ (t4_ (t1_ h1_))) sw_nil)))) (by decide +kernel)) ggL_law_X10_apart
set_option maxRecDepth 20000 in
theorem ggL_law_X9_star : GoodIn wsL_law wsX9_star := sw_good (sw_cons (ml20_ (t1_ (t1_ h1_))) (sw_app (sw_app (sw_app (sw_app (sw_cons (ml1_ (t16_ (t1_ h1_))) (sw_cons (ml7_ (t16_ (t1_ (t1_ (t1_ h1_))))) (sw_cons (ml2_ (t4_ (t1_ (t1_ h1_)))) (sw_cons (ml18_ (t16_ (t4_ h1_))) (sw_cons (ml20_ (t1_ (t1_ (t1_ h1_)))) (sw_cons (ml12_ (t1_ (t1_ h1_))) (sw_cons (ml12_ (t1_ (t1_ (t1_ h1_)))) (sw_cons (ml1_ (t1_ (t1_ h1_))) (sw_cons (ml12_ (t4_ h1_)) (sw_cons (ml20_ (t4_ h1_)) (sw_cons (ml20_ (t4_ (t1_ h1_))) (sw_cons (ml20_ (t4_ (t1_ (t1_ h1_)))) (sw_cons (ml2_ (t4_ (t1_ h1_))) (sw_cons (ml20_ (t4_ (t1_ (t1_ (t1_ h1_))))) (sw_cons (ml19_ (t1_ h1_)) (sw_cons (ml19_ (t1_ (t1_ h1_))) (sw_cons (ml19_ (t1_ (t1_ (t1_ h1_)))) (sw_cons (ml19_ (t4_ h1_)) (sw_cons (ml4_ (t4_ (t4_ (t4_ (t1_ (t1_ (t1_ h1_))))))) (sw_cons (ml4_ (t16_ h1_)) (sw_cons (ml4_ (t16_ (t1_ h1_))) (sw_cons (ml4_ (t4_ (t4_ (t4_ (t1_ (t1_ h1_)))))) (sw_cons (ml19_ (t4_ (t1_ h1_))) (sw_cons (ml19_ (t4_ (t1_ (t1_ h1_)))) sw_nil)))))))))))))))))))))))) (sw_cons (ml19_ (t4_ (t1_ (t1_ (t1_ h1_))))) (sw_cons (ml19_ (t4_ (t4_ h1_))) (sw_cons (ml19_ (t4_ (t4_ (t1_ h1_)))) (sw_cons (ml19_ (t4_ (t4_ (t1_ (t1_ h1_))))) sw_nil))))) (fun _ h => (al_ (al_ (al_ (al_ (al_ (al_ (al_ (al_ (al_ (al_ (al_ (ar_ h)))))))))))))) (fun _ h => (al_ (al_ (al_ (al_ (al_ (al_ (al_ (al_ (al_ (ar_ h)))))))))))) (fun _ h => (al_ (al_ (al_ (al_ (al_ (al_ (ar_ h)))))))))) (by decide +kernel)
set_option maxRecDepth 20000 in
theorem gL_law_X9_star : GoodIn wsL_law (wsV RL 68 RX9 yX9_star wsX9_star) := goodIn_app (sw_good (sw_cons (ml19_ (t16_ (t4_ (t1_ (t1_ (t1_ h1_)))))) (sw_cons (ml20_ h1_) (sw_cons (ml20_ (t1_ h1_)) (sw_cons (ml1_ (t1_ (t1_ h1_))) sw_nil)))) (by decide +kernel)) ggL_law_X9_star
set_option maxRecDepth 20000 in
theorem ggL_law_X10_star : GoodIn wsL_law wsX10_star := sw_good (sw_cons (ml20_ (t4_ (t4_ (t1_ (t1_ (t1_ h1_)))))) (sw_app (sw_cons (ml7_ (t4_ (t4_ (t1_ (t1_ h1_))))) (sw_cons (ml7_ (t4_ (t4_ (t4_ h1_)))) (sw_cons (ml7_ (t4_ (t4_ (t4_ (t1_ h1_))))) (sw_cons (ml1_ (t4_ (t1_ h1_))) (sw_cons (ml7_ (t4_ (t4_ (t4_ (t1_ (t1_ h1_)))))) (sw_cons (ml13_ (t4_ (t4_ (t1_ (t1_ h1_))))) (sw_cons (ml13_ (t4_ (t4_ (t1_ (t1_ (t1_ h1_)))))) (sw_cons (ml13_ (t4_ (t4_ (t4_ h1_)))) (sw_cons (ml20_ (t4_ (t4_ (t4_ h1_)))) (sw_cons (ml20_ (t4_ (t4_ (t4_ (t1_ h1_))))) (sw_cons (ml20_ (t4_ (t4_ (t4_ (t1_ (t1_ h1_)))))) (sw_cons (ml20_ (t4_ (t4_ (t4_ (t1_ (t1_ (t1_ h1_))))))) (sw_cons (ml6_ (t4_ (t1_ (t1_ h1_)))) (sw_cons (ml20_ (t16_ h1_)) (sw_cons (ml20_ (t16_ (t1_ h1_))) (sw_cons (ml20_ (t16_ (t1_ (t1_ h1_)))) (sw_cons (ml20_ (t16_ (t1_ (t1_ (t1_ h1_))))) (sw_cons (ml8_ (t16_ (t4_ (t1_ h1_)))) (sw_cons (ml8_ (t16_ (t4_ (t1_ (t1_ h1_))))) (sw_cons (ml8_ (t16_ (t4_ (t1_ (t1_ (t1_ h1_)))))) (sw_cons (ml9_ h1_) (sw_cons (ml6_ (t16_ (t1_ (t1_ h1_)))) sw_nil)))))))))))))))))))))) (fun _ h => (al_ (al_ (al_ (al_ (al_ (al_ (al_ (al_ (al_ (al_ (ar_ h)))))))))))))) (by decide +kernel)
set_option maxRecDepth 20000 in
theorem gL_law_X10_star : GoodIn wsL_law (wsV RL 71 RX10 yX10_star wsX10_star) := goodIn_app (sw_good (sw_cons (ml20_ (t4_ (t4_ h1_))) (sw_cons (ml20_ (t4_ (t4_ (t1_ h1_)))) (sw_cons (ml20_ (t4_ (t4_ (t1_ (t1_ h1_))))) (sw_cons (ml1_ (t4_ (t1_ h1_))) sw_nil)))) (by decide +kernel)) ggL_law_X10_star
set_option maxRecDepth 20000 in
theorem ggL_law_X9_seen : GoodIn wsL_law wsX9_seen := sw_good (sw_cons (ml20_ (t16_ (t4_ (t1_ (t1_ (t1_ h1_)))))) (sw_app (sw_app (sw_app (sw_cons (ml1_ (t16_ (t1_ h1_))) (sw_cons (ml2_ (t4_ (t4_ (t1_ (t1_ h1_))))) (sw_cons (ml7_ (t16_ (t4_ h1_))) (sw_cons (ml7_ (t16_ (t4_ (t1_ h1_)))) (sw_cons (ml7_ (t16_ (t4_ (t1_ (t1_ h1_))))) (sw_cons (ml1_ (t16_ h1_)) (sw_cons (ml7_ (t16_ (t4_ (t1_ (t1_ (t1_ h1_)))))) (sw_cons (ml3_ (t4_ (t4_ (t4_ (t1_ (t1_ (t1_ h1_))))))) (sw_cons (ml21_ h1_) (sw_cons (ml21_ (t1_ h1_)) (sw_cons (ml21_ (t1_ (t1_ h1_))) (sw_cons (ml2_ (t4_ (t4_ (t1_ h1_)))) (sw_cons (ml21_ (t1_ (t1_ (t1_ h1_)))) (sw_cons (ml5_ h1_) (sw_cons (ml4_ (t16_ (t4_ (t1_ (t1_ h1_))))) (sw_cons (ml21_ (t4_ h1_)) (sw_cons (ml21_ (t4_ (t1_ h1_))) (sw_cons (ml4_ (t16_ (t4_ (t1_ (t1_ (t1_ h1_)))))) sw_nil)))))))))))))))))) (fun _ h => (al_ (al_ (al_ (al_ (al_ (al_ (al_ (al_ (al_ (al_ (al_ (ar_ h)))))))))))))) (fun _ h => (al_ (al_ (al_ (al_ (al_ (al_ (al_ (al_ (al_ (ar_ h)))))))))))) (fun _ h => (al_ (al_ (al_ (al_ (al_ (ar_ h))))))))) (by decide +kernel)
set_option maxRecDepth 20000 in
theorem gL_law_X9_seen : GoodIn wsL_law (wsV RL 72 RX9 yX9_seen wsX9_seen) := goodIn_app (sw_good (sw_cons (ml20_ (t16_ (t4_ h1_))) (sw_cons (ml20_ (t16_ (t4_ (t1_ h1_)))) (sw_cons (ml20_ (t16_ (t4_ (t1_ (t1_ h1_))))) (sw_cons (ml1_ (t1_ (t1_ h1_))) sw_nil)))) (by decide +kernel)) ggL_law_X9_seen
set_option maxRecDepth 20000 in
theorem ggL_law_X10_seen : GoodIn wsL_law wsX10_seen := sw_good (sw_cons (ml21_ (t4_ (t4_ (t1_ h1_)))) (sw_app (sw_cons (ml13_ (t16_ (t4_ (t1_ h1_)))) (sw_cons (ml13_ (t16_ (t4_ (t1_ (t1_ h1_))))) (sw_cons (ml13_ (t16_ (t4_ (t1_ (t1_ (t1_ h1_)))))) (sw_cons (ml1_ (t4_ (t1_ h1_))) (sw_cons (ml14_ h1_) (sw_cons (ml8_ (t16_ (t4_ (t1_ h1_)))) (sw_cons (ml8_ (t16_ (t4_ (t1_ (t1_ h1_))))) (sw_cons (ml8_ (t16_ (t4_ (t1_ (t1_ (t1_ h1_)))))) (sw_cons (ml9_ h1_) (sw_cons (ml6_ (t16_ (t1_ (t1_ h1_)))) (sw_cons (ml7_ (t4_ (t4_ (t4_ h1_)))) (sw_cons (ml7_ (t4_ (t4_ (t4_ (t1_ h1_))))) (sw_cons (ml7_ (t4_ (t4_ (t4_ (t1_ (t1_ h1_)))))) (sw_cons (ml21_ (t4_ (t4_ (t1_ (t1_ h1_))))) (sw_cons (ml21_ (t4_ (t4_ (t1_ (t1_ (t1_ h1_)))))) (sw_cons (ml21_ (t4_ (t4_ (t4_ h1_)))) (sw_cons (ml21_ (t4_ (t4_ (t4_ (t1_ h1_))))) (sw_cons (ml6_ (t4_ (t4_ (t4_ h1_)))) (sw_cons (ml7_ (t4_ (t4_ (t1_ (t1_ h1_))))) (sw_cons (ml6_ (t4_ (t1_ (t1_ h1_)))) sw_nil)))))))))))))))))))) (fun _ h => (al_ (al_ (al_ (al_ (al_ (al_ (al_ (al_ (al_ (al_ (ar_ h)))))))))))))) (by decide +kernel)
set_option maxRecDepth 20000 in
theorem gL_law_X10_seen : GoodIn wsL_law (wsV RL 75 RX10 yX10_seen wsX10_seen) := goodIn_app (sw_good (sw_cons (ml21_ (t4_ (t1_ (t1_ h1_)))) (sw_cons (ml21_ (t4_ (t1_ (t1_ (t1_ h1_))))) (sw_cons (ml21_ (t4_ (t4_ h1_))) (sw_cons (ml1_ (t4_ (t1_ h1_))) sw_nil)))) (by decide +kernel)) ggL_law_X10_seen
set_option maxRecDepth 20000 in
theorem ggL_law_X9_dimension : GoodIn wsL_law wsX9_dimension := sw_good (sw_cons (ml21_ (t16_ (t1_ h1_))) (sw_app (sw_app (sw_app (sw_app (sw_cons (ml1_ (t16_ (t1_ h1_))) (sw_cons (ml7_ (t16_ (t1_ (t1_ (t1_ h1_))))) (sw_cons (ml2_ (t4_ (t4_ (t1_ (t1_ h1_))))) (sw_cons (ml12_ (t1_ (t1_ h1_))) (sw_cons (ml12_ (t1_ (t1_ (t1_ h1_)))) (sw_cons (ml1_ (t1_ (t1_ h1_))) (sw_cons (ml12_ (t4_ h1_)) (sw_cons (ml21_ (t16_ (t1_ (t1_ h1_)))) (sw_cons (ml21_ (t16_ (t1_ (t1_ (t1_ h1_))))) (sw_cons (ml21_ (t16_ (t4_ h1_))) (sw_cons (ml2_ (t4_ (t4_ (t1_ h1_)))) (sw_cons (ml21_ (t16_ (t4_ (t1_ h1_)))) (sw_cons (ml4_ (t16_ (t4_ (t1_ (t1_ h1_))))) (sw_cons (ml21_ (t16_ (t4_ (t1_ (t1_ h1_))))) (sw_cons (ml21_ (t4_ h1_)) (sw_cons (ml21_ (t16_ (t4_ (t1_ (t1_ (t1_ h1_)))))) (sw_cons (ml12_ (t4_ (t4_ (t4_ h1_)))) (sw_cons (ml12_ (t4_ (t4_ (t4_ (t1_ h1_))))) (sw_cons (ml12_ (t4_ (t4_ (t4_ (t1_ (t1_ h1_)))))) (sw_cons (ml12_ (t4_ (t4_ (t4_ (t1_ (t1_ (t1_ h1_))))))) (sw_cons (ml12_ (t16_ h1_)) (sw_cons (ml12_ (t16_ (t1_ h1_))) (sw_cons (ml22_ h1_) (sw_cons (ml21_ (t1_ h1_)) sw_nil)))))))))))))))))))))))) (sw_cons (ml21_ (t1_ (t1_ h1_))) (sw_cons (ml21_ (t1_ (t1_ (t1_ h1_)))) (sw_cons (ml5_ h1_) (sw_cons (ml21_ (t4_ (t1_ h1_))) (sw_cons (ml4_ (t16_ (t4_ (t1_ (t1_ (t1_ h1_)))))) (sw_cons (ml12_ (t4_ (t4_ (t1_ (t1_ (t1_ h1_)))))) sw_nil))))))) (fun _ h => (al_ (al_ (al_ (al_ (al_ (al_ (al_ (al_ (al_ (al_ (al_ (ar_ h)))))))))))))) (fun _ h => (al_ (al_ (al_ (al_ (al_ (al_ (al_ (al_ (al_ (ar_ h)))))))))))) (fun _ h => (al_ (al_ (al_ (al_ (al_ (ar_ h))))))))) (by decide +kernel)
set_option maxRecDepth 20000 in
theorem gL_law_X9_dimension : GoodIn wsL_law (wsV RL 76 RX9 yX9_dimension wsX9_dimension) := goodIn_app (sw_good (sw_cons (ml21_ (t4_ (t4_ (t4_ (t1_ (t1_ h1_)))))) (sw_cons (ml21_ (t4_ (t4_ (t4_ (t1_ (t1_ (t1_ h1_))))))) (sw_cons (ml21_ (t16_ h1_)) (sw_cons (ml1_ (t1_ (t1_ h1_))) sw_nil)))) (by decide +kernel)) ggL_law_X9_dimension
set_option maxRecDepth 20000 in
theorem ggL_law_X10_dimension : GoodIn wsL_law wsX10_dimension := sw_good (sw_cons (ml22_ (t4_ h1_)) (sw_app (sw_cons (ml7_ (t4_ (t4_ (t4_ h1_)))) (sw_cons (ml7_ (t4_ (t4_ (t4_ (t1_ h1_))))) (sw_cons (ml1_ (t4_ (t1_ h1_))) (sw_cons (ml7_ (t4_ (t4_ (t4_ (t1_ (t1_ h1_)))))) (sw_cons (ml8_ (t16_ (t4_ (t1_ h1_)))) (sw_cons (ml8_ (t16_ (t4_ (t1_ (t1_ h1_))))) (sw_cons (ml8_ (t16_ (t4_ (t1_ (t1_ (t1_ h1_)))))) (sw_cons (ml9_ h1_) (sw_cons (ml6_ (t16_ (t1_ (t1_ h1_)))) (sw_cons (ml13_ (t4_ (t4_ (t1_ (t1_ h1_))))) (sw_cons (ml13_ (t4_ (t4_ (t1_ (t1_ (t1_ h1_)))))) (sw_cons (ml13_ (t4_ (t4_ (t4_ h1_)))) (sw_cons (ml21_ (t4_ (t4_ (t1_ (t1_ h1_))))) (sw_cons (ml21_ (t4_ (t4_ (t1_ (t1_ (t1_ h1_)))))) (sw_cons (ml21_ (t4_ (t4_ (t4_ h1_)))) (sw_cons (ml21_ (t4_ (t4_ (t4_ (t1_ h1_))))) (sw_cons (ml6_ (t4_ (t4_ (t4_ h1_)))) (sw_cons (ml7_ (t4_ (t4_ (t1_ (t1_ h1_))))) (sw_cons (ml6_ (t4_ (t1_ (t1_ h1_)))) sw_nil))))))))))))))))))) (fun _ h => (al_ (al_ (al_ (al_ (al_ (al_ (al_ (al_ (al_ (al_ (ar_ h)))))))))))))) (by decide +kernel)
set_option maxRecDepth 20000 in
theorem gL_law_X10_dimension : GoodIn wsL_law (wsV RL 79 RX10 yX10_dimension wsX10_dimension) := goodIn_app (sw_good (sw_cons (ml22_ (t1_ h1_)) (sw_cons (ml22_ (t1_ (t1_ h1_))) (sw_cons (ml22_ (t1_ (t1_ (t1_ h1_)))) (sw_cons (ml1_ (t4_ (t1_ h1_))) sw_nil)))) (by decide +kernel)) ggL_law_X10_dimension
set_option maxRecDepth 20000 in
theorem ggL_law_X9_colourings : GoodIn wsL_law wsX9_colourings := sw_good (sw_cons (ml22_ (t4_ (t4_ h1_))) (sw_app (sw_app (sw_app (sw_app (sw_cons (ml2_ (t4_ (t4_ (t4_ (t1_ (t1_ h1_)))))) (sw_cons (ml22_ (t4_ (t4_ (t1_ h1_)))) (sw_cons (ml22_ (t4_ (t4_ (t1_ (t1_ h1_))))) (sw_cons (ml22_ (t4_ (t4_ (t1_ (t1_ (t1_ h1_)))))) (sw_cons (ml2_ (t4_ (t4_ (t4_ (t1_ h1_))))) (sw_cons (ml22_ (t4_ (t4_ (t4_ h1_)))) (sw_cons (ml5_ (t4_ (t1_ h1_))) (sw_cons (ml22_ (t4_ (t4_ (t4_ (t1_ h1_))))) (sw_cons (ml22_ (t4_ (t4_ (t4_ (t1_ (t1_ h1_)))))) (sw_cons (ml22_ (t4_ (t4_ (t4_ (t1_ (t1_ (t1_ h1_))))))) (sw_cons (ml22_ (t16_ h1_)) (sw_cons (ml22_ (t16_ (t1_ h1_))) (sw_cons (ml22_ (t16_ (t1_ (t1_ h1_)))) (sw_cons (ml14_ (t16_ (t4_ (t1_ (t1_ (t1_ h1_)))))) (sw_cons (ml15_ h1_) (sw_cons (ml1_ (t16_ h1_)) (sw_cons (ml15_ (t1_ h1_)) (sw_cons (ml3_ (t4_ (t4_ (t4_ h1_)))) (sw_cons (ml22_ (t16_ (t1_ (t1_ (t1_ h1_))))) (sw_cons (ml12_ (t4_ (t4_ (t4_ h1_)))) (sw_cons (ml12_ (t4_ (t4_ (t4_ (t1_ h1_))))) (sw_cons (ml12_ (t4_ (t4_ (t4_ (t1_ (t1_ h1_)))))) (sw_cons (ml12_ (t4_ (t4_ (t4_ (t1_ (t1_ (t1_ h1_))))))) (sw_cons (ml12_ (t16_ h1_)) sw_nil)))))))))))))))))))))))) (sw_cons (ml12_ (t16_ (t1_ h1_))) (sw_cons (ml22_ (t16_ (t4_ h1_))) (sw_cons (ml22_ (t16_ (t4_ (t1_ h1_)))) (sw_cons (ml22_ (t16_ (t4_ (t1_ (t1_ h1_))))) (sw_cons (ml22_ (t16_ (t4_ (t1_ (t1_ (t1_ h1_)))))) sw_nil)))))) (fun _ h => (al_ (al_ (al_ (al_ (al_ (al_ (al_ (al_ (al_ (al_ (al_ (ar_ h)))))))))))))) (fun _ h => (al_ (al_ (al_ (al_ (ar_ h))))))) (fun _ h => (al_ (al_ (al_ (al_ (al_ (al_ (al_ (al_ (al_ (ar_ h))))))))))))) (by decide +kernel)
set_option maxRecDepth 20000 in
theorem gL_law_X9_colourings : GoodIn wsL_law (wsV RL 80 RX9 yX9_colourings wsX9_colourings) := goodIn_app (sw_good (sw_cons (ml22_ (t4_ (t1_ h1_))) (sw_cons (ml22_ (t4_ (t1_ (t1_ h1_)))) (sw_cons (ml22_ (t4_ (t1_ (t1_ (t1_ h1_))))) (sw_cons (ml1_ (t1_ (t1_ h1_))) sw_nil)))) (by decide +kernel)) ggL_law_X9_colourings
set_option maxRecDepth 20000 in
theorem ggL_law_X10_colourings : GoodIn wsL_law wsX10_colourings := sw_good (sw_cons (ml23_ (t1_ (t1_ (t1_ h1_)))) (sw_app (sw_cons (ml23_ (t4_ h1_)) (sw_cons (ml23_ (t4_ (t1_ h1_))) (sw_cons (ml6_ (t4_ (t4_ (t4_ (t1_ h1_))))) (sw_cons (ml6_ (t16_ (t1_ (t1_ h1_)))) (sw_cons (ml7_ (t4_ (t4_ (t4_ h1_)))) (sw_cons (ml7_ (t4_ (t4_ (t4_ (t1_ h1_))))) (sw_cons (ml1_ (t4_ (t1_ h1_))) (sw_cons (ml7_ (t4_ (t4_ (t4_ (t1_ (t1_ h1_)))))) (sw_cons (ml23_ (t4_ (t1_ (t1_ h1_)))) (sw_cons (ml23_ (t4_ (t1_ (t1_ (t1_ h1_))))) (sw_cons (ml23_ (t4_ (t4_ h1_))) (sw_cons (ml23_ (t4_ (t4_ (t1_ h1_)))) (sw_cons (ml7_ (t4_ (t4_ (t1_ (t1_ h1_))))) (sw_cons (ml6_ (t4_ (t1_ (t1_ h1_)))) sw_nil)))))))))))))) (fun _ h => (al_ (al_ (al_ (al_ (al_ (al_ (al_ (al_ (al_ (al_ (ar_ h)))))))))))))) (by decide +kernel)
set_option maxRecDepth 20000 in
theorem gL_law_X10_colourings : GoodIn wsL_law (wsV RL 83 RX10 yX10_colourings wsX10_colourings) := goodIn_app (sw_good (sw_cons (ml23_ h1_) (sw_cons (ml23_ (t1_ h1_)) (sw_cons (ml23_ (t1_ (t1_ h1_))) (sw_cons (ml1_ (t4_ (t1_ h1_))) sw_nil)))) (by decide +kernel)) ggL_law_X10_colourings
set_option maxRecDepth 20000 in
theorem ggL_law_X9_colouring : GoodIn wsL_law wsX9_colouring := sw_good (sw_cons (ml23_ (t4_ (t4_ (t4_ (t1_ h1_))))) (sw_app (sw_app (sw_cons (ml1_ (t16_ (t1_ h1_))) (sw_cons (ml10_ (t4_ (t4_ (t1_ (t1_ (t1_ h1_)))))) (sw_cons (ml14_ (t16_ (t4_ (t1_ (t1_ h1_))))) (sw_cons (ml14_ (t16_ (t4_ (t1_ (t1_ (t1_ h1_)))))) (sw_cons (ml15_ h1_) (sw_cons (ml1_ (t16_ h1_)) (sw_cons (ml15_ (t1_ h1_)) (sw_cons (ml3_ (t4_ (t4_ (t4_ h1_)))) sw_nil)))))))) (fun _ h => (al_ (al_ (al_ (al_ (al_ (al_ (al_ (al_ (al_ (al_ (al_ (ar_ h)))))))))))))) (fun _ h => (al_ (al_ (al_ (al_ (al_ (al_ (al_ (al_ (al_ (ar_ h))))))))))))) (by decide +kernel)
set_option maxRecDepth 20000 in
theorem gL_law_X9_colouring : GoodIn wsL_law (wsV RL 84 RX9 yX9_colouring wsX9_colouring) := goodIn_app (sw_good (sw_cons (ml23_ (t4_ (t4_ (t1_ (t1_ h1_))))) (sw_cons (ml23_ (t4_ (t4_ (t1_ (t1_ (t1_ h1_)))))) (sw_cons (ml23_ (t4_ (t4_ (t4_ h1_)))) (sw_cons (ml1_ (t1_ (t1_ h1_))) sw_nil)))) (by decide +kernel)) ggL_law_X9_colouring
set_option maxRecDepth 20000 in
theorem ggL_law_X10_colouring : GoodIn wsL_law wsX10_colouring := sw_good (sw_cons (ml23_ (t16_ (t1_ h1_))) (sw_app (sw_cons (ml7_ (t4_ (t4_ (t1_ (t1_ h1_))))) (sw_cons (ml6_ (t4_ (t1_ (t1_ h1_)))) (sw_cons (ml8_ (t16_ (t4_ (t1_ h1_)))) (sw_cons (ml8_ (t16_ (t4_ (t1_ (t1_ h1_))))) (sw_cons (ml8_ (t16_ (t4_ (t1_ (t1_ (t1_ h1_)))))) (sw_cons (ml1_ (t4_ (t1_ h1_))) (sw_cons (ml9_ h1_) (sw_cons (ml6_ (t16_ (t1_ (t1_ h1_)))) sw_nil)))))))) (fun _ h => (al_ (al_ (al_ (al_ (al_ (al_ (al_ (al_ (al_ (al_ (ar_ h)))))))))))))) (by decide +kernel)
set_option maxRecDepth 20000 in
theorem gL_law_X10_colouring : GoodIn wsL_law (wsV RL 87 RX10 yX10_colouring wsX10_colouring) := goodIn_app (sw_good (sw_cons (ml23_ (t4_ (t4_ (t4_ (t1_ (t1_ h1_)))))) (sw_cons (ml23_ (t4_ (t4_ (t4_ (t1_ (t1_ (t1_ h1_))))))) (sw_cons (ml23_ (t16_ h1_)) (sw_cons (ml1_ (t4_ (t1_ h1_))) sw_nil)))) (by decide +kernel)) ggL_law_X10_colouring
set_option maxRecDepth 20000 in
theorem ggL_law_X9_ears : GoodIn wsL_law wsX9_ears := sw_good (sw_cons (ml23_ (t16_ (t4_ (t1_ h1_)))) (sw_app (sw_app (sw_app (sw_app (sw_cons (ml2_ (t16_ (t1_ (t1_ h1_)))) (sw_cons (ml23_ (t16_ (t4_ (t1_ (t1_ h1_))))) (sw_cons (ml23_ (t16_ (t4_ (t1_ (t1_ (t1_ h1_)))))) (sw_cons (ml24_ h1_) (sw_cons (ml2_ (t16_ (t1_ h1_))) (sw_cons (ml24_ (t1_ h1_)) (sw_cons (ml5_ (t4_ (t4_ (t1_ (t1_ h1_))))) (sw_cons (ml24_ (t1_ (t1_ h1_))) (sw_cons (ml5_ (t4_ (t4_ (t1_ (t1_ (t1_ h1_)))))) (sw_cons (ml24_ (t1_ (t1_ (t1_ h1_)))) (sw_cons (ml5_ (t4_ (t4_ (t4_ h1_)))) (sw_cons (ml24_ (t4_ h1_)) (sw_cons (ml24_ (t4_ (t1_ h1_))) (sw_cons (ml24_ (t4_ (t1_ (t1_ h1_)))) (sw_cons (ml24_ (t4_ (t1_ (t1_ (t1_ h1_))))) (sw_cons (ml10_ (t16_ (t4_ h1_))) (sw_cons (ml1_ (t1_ (t1_ h1_))) (sw_cons (ml10_ (t16_ (t4_ (t1_ h1_)))) (sw_cons (ml24_ (t4_ (t4_ h1_))) (sw_cons (ml24_ (t4_ (t4_ (t1_ h1_)))) (sw_cons (ml24_ (t4_ (t4_ (t1_ (t1_ h1_))))) (sw_cons (ml24_ (t4_ (t4_ (t1_ (t1_ (t1_ h1_)))))) (sw_cons (ml24_ (t4_ (t4_ (t4_ h1_)))) (sw_cons (ml24_ (t4_ (t4_ (t4_ (t1_ h1_))))) sw_nil)))))))))))))))))))))))) (sw_cons (ml24_ (t4_ (t4_ (t4_ (t1_ (t1_ h1_)))))) (sw_cons (ml24_ (t4_ (t4_ (t4_ (t1_ (t1_ (t1_ h1_))))))) sw_nil))) (fun _ h => (al_ (al_ (al_ (al_ (al_ (al_ (al_ (al_ (al_ (al_ (al_ (ar_ h)))))))))))))) (fun _ h => (al_ (al_ (al_ (ar_ h)))))) (fun _ h => (al_ (al_ (al_ (al_ (al_ (al_ (al_ (al_ (al_ (ar_ h))))))))))))) (by decide +kernel)
set_option maxRecDepth 20000 in
theorem gL_law_X9_ears : GoodIn wsL_law (wsV RL 88 RX9 yX9_ears wsX9_ears) := goodIn_app (sw_good (sw_cons (ml23_ (t16_ (t1_ (t1_ h1_)))) (sw_cons (ml23_ (t16_ (t1_ (t1_ (t1_ h1_))))) (sw_cons (ml23_ (t16_ (t4_ h1_))) (sw_cons (ml1_ (t1_ (t1_ h1_))) sw_nil)))) (by decide +kernel)) ggL_law_X9_ears
set_option maxRecDepth 20000 in
theorem ggL_law_X10_ears : GoodIn wsL_law wsX10_ears := sw_good (sw_cons (ml24_ (t16_ (t1_ (t1_ (t1_ h1_))))) (sw_app (sw_cons (ml24_ (t16_ (t4_ h1_))) (sw_cons (ml24_ (t16_ (t4_ (t1_ h1_)))) (sw_cons (ml24_ (t16_ (t4_ (t1_ (t1_ h1_))))) (sw_cons (ml1_ (t4_ (t1_ h1_))) (sw_cons (ml24_ (t16_ (t4_ (t1_ (t1_ (t1_ h1_)))))) (sw_cons (ml7_ (t4_ (t4_ (t1_ (t1_ h1_))))) (sw_cons (ml6_ (t4_ (t4_ (t4_ (t1_ (t1_ h1_)))))) (sw_cons (ml6_ (t4_ (t1_ (t1_ h1_)))) (sw_cons (ml6_ (t16_ (t1_ (t1_ h1_)))) (sw_cons (ml25_ h1_) (sw_cons (ml25_ (t1_ h1_)) (sw_cons (ml25_ (t1_ (t1_ h1_))) (sw_cons (ml25_ (t1_ (t1_ (t1_ h1_)))) (sw_cons (ml25_ (t4_ h1_)) (sw_cons (ml25_ (t4_ (t1_ h1_))) (sw_cons (ml25_ (t4_ (t1_ (t1_ h1_)))) (sw_cons (ml25_ (t4_ (t1_ (t1_ (t1_ h1_))))) sw_nil))))))))))))))))) (fun _ h => (al_ (al_ (al_ (al_ (al_ (al_ (al_ (al_ (al_ (al_ (ar_ h)))))))))))))) (by decide +kernel)
set_option maxRecDepth 20000 in
theorem gL_law_X10_ears : GoodIn wsL_law (wsV RL 91 RX10 yX10_ears wsX10_ears) := goodIn_app (sw_good (sw_cons (ml24_ (t16_ h1_)) (sw_cons (ml24_ (t16_ (t1_ h1_))) (sw_cons (ml24_ (t16_ (t1_ (t1_ h1_)))) (sw_cons (ml1_ (t4_ (t1_ h1_))) sw_nil)))) (by decide +kernel)) ggL_law_X10_ears
set_option maxRecDepth 20000 in
theorem ggL_law_X9_twoByTwo : GoodIn wsL_law wsX9_twoByTwo := sw_good (sw_cons (ml25_ (t4_ (t4_ (t1_ (t1_ (t1_ h1_)))))) (sw_app (sw_app (sw_cons (ml1_ (t16_ (t1_ h1_))) (sw_cons (ml10_ (t4_ (t4_ (t1_ (t1_ (t1_ h1_)))))) (sw_cons (ml12_ (t4_ (t4_ (t1_ (t1_ (t1_ h1_)))))) (sw_cons (ml12_ (t4_ (t4_ (t4_ h1_)))) (sw_cons (ml12_ (t4_ (t4_ (t4_ (t1_ h1_))))) (sw_cons (ml12_ (t4_ (t4_ (t4_ (t1_ (t1_ h1_)))))) (sw_cons (ml12_ (t4_ (t4_ (t4_ (t1_ (t1_ (t1_ h1_))))))) (sw_cons (ml12_ (t16_ h1_)) (sw_cons (ml12_ (t16_ (t1_ h1_))) (sw_cons (ml25_ (t4_ (t4_ (t4_ h1_)))) (sw_cons (ml25_ (t4_ (t4_ (t4_ (t1_ h1_))))) (sw_cons (ml25_ (t4_ (t4_ (t4_ (t1_ (t1_ h1_)))))) (sw_cons (ml1_ (t1_ (t1_ h1_))) (sw_cons (ml25_ (t4_ (t4_ (t4_ (t1_ (t1_ (t1_ h1_))))))) (sw_cons (ml7_ (t16_ (t1_ (t1_ (t1_ h1_))))) (sw_cons (ml25_ (t16_ h1_)) sw_nil)))))))))))))))) (fun _ h => (al_ (al_ (al_ (al_ (al_ (al_ (al_ (al_ (al_ (al_ (al_ (ar_ h)))))))))))))) (fun _ h => (al_ (al_ (al_ (al_ (al_ (al_ (al_ (al_ (al_ (ar_ h))))))))))))) (by decide +kernel)
set_option maxRecDepth 20000 in
theorem gL_law_X9_twoByTwo : GoodIn wsL_law (wsV RL 92 RX9 yX9_twoByTwo wsX9_twoByTwo) := goodIn_app (sw_good (sw_cons (ml25_ (t4_ (t4_ h1_))) (sw_cons (ml25_ (t4_ (t4_ (t1_ h1_)))) (sw_cons (ml25_ (t4_ (t4_ (t1_ (t1_ h1_))))) (sw_cons (ml1_ (t1_ (t1_ h1_))) sw_nil)))) (by decide +kernel)) ggL_law_X9_twoByTwo
set_option maxRecDepth 20000 in
theorem ggL_law_X10_twoByTwo : GoodIn wsL_law wsX10_twoByTwo := sw_good (sw_cons (ml25_ (t16_ (t4_ h1_))) (sw_app (sw_cons (ml7_ (t4_ (t4_ (t1_ (t1_ h1_))))) (sw_cons (ml6_ (t4_ (t1_ (t1_ h1_)))) (sw_cons (ml8_ (t16_ (t4_ (t1_ h1_)))) (sw_cons (ml8_ (t16_ (t4_ (t1_ (t1_ h1_))))) (sw_cons (ml8_ (t16_ (t4_ (t1_ (t1_ (t1_ h1_)))))) (sw_cons (ml1_ (t4_ (t1_ h1_))) (sw_cons (ml9_ h1_) (sw_cons (ml6_ (t16_ (t1_ (t1_ h1_)))) (sw_cons (ml13_ (t4_ (t4_ (t1_ (t1_ h1_))))) (sw_cons (ml13_ (t4_ (t4_ (t1_ (t1_ (t1_ h1_)))))) (sw_cons (ml13_ (t4_ (t4_ (t4_ h1_)))) (sw_cons (ml20_ (t16_ h1_)) (sw_cons (ml20_ (t16_ (t1_ h1_))) (sw_cons (ml20_ (t16_ (t1_ (t1_ h1_)))) (sw_cons (ml20_ (t16_ (t1_ (t1_ (t1_ h1_))))) sw_nil))))))))))))))) (fun _ h => (al_ (al_ (al_ (al_ (al_ (al_ (al_ (al_ (al_ (al_ (ar_ h)))))))))))))) (by decide +kernel)
set_option maxRecDepth 20000 in
theorem gL_law_X10_twoByTwo : GoodIn wsL_law (wsV RL 95 RX10 yX10_twoByTwo wsX10_twoByTwo) := goodIn_app (sw_good (sw_cons (ml25_ (t16_ (t1_ h1_))) (sw_cons (ml25_ (t16_ (t1_ (t1_ h1_)))) (sw_cons (ml25_ (t16_ (t1_ (t1_ (t1_ h1_))))) (sw_cons (ml1_ (t4_ (t1_ h1_))) sw_nil)))) (by decide +kernel)) ggL_law_X10_twoByTwo
set_option maxRecDepth 20000 in
theorem ggL_law_X9_game : GoodIn wsL_law wsX9_game := sw_good (sw_cons (ml26_ h1_) (sw_app (sw_app (sw_app (sw_app (sw_cons (ml2_ (t16_ (t4_ (t1_ (t1_ h1_))))) (sw_cons (ml12_ (t1_ (t1_ h1_))) (sw_cons (ml12_ (t1_ (t1_ (t1_ h1_)))) (sw_cons (ml1_ (t1_ (t1_ h1_))) (sw_cons (ml12_ (t4_ h1_)) (sw_cons (ml26_ (t1_ h1_)) (sw_cons (ml26_ (t1_ (t1_ h1_))) (sw_cons (ml26_ (t1_ (t1_ (t1_ h1_)))) (sw_cons (ml2_ (t16_ (t4_ (t1_ h1_)))) (sw_cons (ml26_ (t4_ h1_)) (sw_cons (ml5_ (t16_ (t1_ (t1_ h1_)))) (sw_cons (ml5_ (t16_ (t1_ h1_))) (sw_cons (ml26_ (t4_ (t1_ h1_))) (sw_cons (ml26_ (t4_ (t1_ (t1_ h1_)))) (sw_cons (ml3_ (t4_ h1_)) (sw_cons (ml3_ (t4_ (t1_ h1_))) (sw_cons (ml3_ (t4_ (t1_ (t1_ h1_)))) (sw_cons (ml26_ (t4_ (t1_ (t1_ (t1_ h1_))))) (sw_cons (ml26_ (t4_ (t4_ h1_))) (sw_cons (ml26_ (t4_ (t4_ (t1_ h1_)))) (sw_cons (ml26_ (t4_ (t4_ (t1_ (t1_ h1_))))) (sw_cons (ml26_ (t4_ (t4_ (t1_ (t1_ (t1_ h1_)))))) (sw_cons (ml26_ (t4_ (t4_ (t4_ h1_)))) (sw_cons (ml26_ (t4_ (t4_ (t4_ (t1_ h1_))))) sw_nil)))))))))))))))))))))))) (sw_cons (ml26_ (t4_ (t4_ (t4_ (t1_ (t1_ h1_)))))) (sw_cons (ml26_ (t4_ (t4_ (t4_ (t1_ (t1_ (t1_ h1_))))))) (sw_cons (ml26_ (t16_ h1_)) (sw_cons (ml14_ (t16_ (t4_ (t1_ (t1_ (t1_ h1_)))))) (sw_cons (ml15_ h1_) (sw_cons (ml1_ (t16_ h1_)) (sw_cons (ml15_ (t1_ h1_)) (sw_cons (ml3_ (t4_ (t4_ (t4_ h1_)))) (sw_cons (ml26_ (t16_ (t1_ h1_))) (sw_cons (ml10_ (t16_ (t1_ h1_))) (sw_cons (ml10_ (t16_ (t1_ (t1_ h1_)))) (sw_cons (ml10_ (t16_ (t1_ (t1_ (t1_ h1_))))) (sw_cons (ml3_ (t4_ (t4_ (t4_ (t1_ (t1_ (t1_ h1_))))))) (sw_cons (ml26_ (t16_ (t1_ (t1_ h1_)))) (sw_cons (ml26_ (t16_ (t1_ (t1_ (t1_ h1_))))) (sw_cons (ml26_ (t16_ (t4_ h1_))) (sw_cons (ml26_ (t16_ (t4_ (t1_ h1_)))) (sw_cons (ml26_ (t16_ (t4_ (t1_ (t1_ h1_))))) (sw_cons (ml26_ (t16_ (t4_ (t1_ (t1_ (t1_ h1_)))))) (sw_cons (ml27_ h1_) (sw_cons (ml27_ (t1_ h1_)) (sw_cons (ml10_ (t16_ (t4_ h1_))) (sw_cons (ml10_ (t16_ (t4_ (t1_ h1_)))) sw_nil)))))))))))))))))))))))) (fun _ h => (al_ (al_ (al_ (al_ (al_ (al_ (al_ (al_ (al_ (al_ (al_ (ar_ h)))))))))))))) (fun _ h => (al_ (al_ (ar_ h))))) (fun _ h => (al_ (al_ (al_ (al_ (al_ (al_ (al_ (al_ (al_ (ar_ h))))))))))))) (by decide +kernel)
set_option maxRecDepth 20000 in
theorem gL_law_X9_game : GoodIn wsL_law (wsV RL 96 RX9 yX9_game wsX9_game) := goodIn_app (sw_good (sw_cons (ml25_ (t16_ (t4_ (t1_ h1_)))) (sw_cons (ml25_ (t16_ (t4_ (t1_ (t1_ h1_))))) (sw_cons (ml25_ (t16_ (t4_ (t1_ (t1_ (t1_ h1_)))))) (sw_cons (ml1_ (t1_ (t1_ h1_))) sw_nil)))) (by decide +kernel)) ggL_law_X9_game
set_option maxRecDepth 20000 in
theorem ggL_law_X10_game : GoodIn wsL_law wsX10_game := sw_good (sw_cons (ml27_ (t4_ (t1_ h1_))) (sw_app (sw_cons (ml6_ (t16_ h1_)) (sw_cons (ml6_ (t16_ (t1_ (t1_ h1_)))) (sw_cons (ml7_ (t4_ (t4_ (t4_ h1_)))) (sw_cons (ml7_ (t4_ (t4_ (t4_ (t1_ h1_))))) (sw_cons (ml1_ (t4_ (t1_ h1_))) (sw_cons (ml7_ (t4_ (t4_ (t4_ (t1_ (t1_ h1_)))))) (sw_cons (ml27_ (t4_ (t1_ (t1_ h1_)))) (sw_cons (ml27_ (t4_ (t1_ (t1_ (t1_ h1_))))) (sw_cons (ml27_ (t4_ (t4_ h1_))) (sw_cons (ml27_ (t4_ (t4_ (t1_ h1_)))) (sw_cons (ml27_ (t4_ (t4_ (t1_ (t1_ h1_))))) (sw_cons (ml27_ (t4_ (t4_ (t1_ (t1_ (t1_ h1_)))))) (sw_cons (ml27_ (t4_ (t4_ (t4_ h1_)))) (sw_cons (ml27_ (t4_ (t4_ (t4_ (t1_ h1_))))) (sw_cons (ml27_ (t4_ (t4_ (t4_ (t1_ (t1_ h1_)))))) (sw_cons (ml27_ (t4_ (t4_ (t4_ (t1_ (t1_ (t1_ h1_))))))) (sw_cons (ml27_ (t16_ h1_)) (sw_cons (ml7_ (t4_ (t4_ (t1_ (t1_ h1_))))) (sw_cons (ml6_ (t4_ (t1_ (t1_ h1_)))) (sw_cons (ml27_ (t16_ (t1_ h1_))) (sw_cons (ml27_ (t16_ (t1_ (t1_ h1_)))) (sw_cons (ml27_ (t16_ (t1_ (t1_ (t1_ h1_))))) sw_nil)))))))))))))))))))))) (fun _ h => (al_ (al_ (al_ (al_ (al_ (al_ (al_ (al_ (al_ (al_ (ar_ h)))))))))))))) (by decide +kernel)
set_option maxRecDepth 20000 in
theorem gL_law_X10_game : GoodIn wsL_law (wsV RL 99 RX10 yX10_game wsX10_game) := goodIn_app (sw_good (sw_cons (ml27_ (t1_ (t1_ h1_))) (sw_cons (ml27_ (t1_ (t1_ (t1_ h1_)))) (sw_cons (ml27_ (t4_ h1_)) (sw_cons (ml1_ (t4_ (t1_ h1_))) sw_nil)))) (by decide +kernel)) ggL_law_X10_game
set_option maxRecDepth 20000 in
theorem ggL_law_X9_chance : GoodIn wsL_law wsX9_chance := sw_good (sw_cons (ml27_ (t16_ (t4_ (t1_ (t1_ (t1_ h1_)))))) (sw_app (sw_app (sw_app (sw_app (sw_cons (ml1_ (t16_ (t1_ h1_))) (sw_cons (ml10_ (t4_ (t4_ (t1_ (t1_ (t1_ h1_)))))) (sw_cons (ml9_ (t16_ (t4_ (t1_ h1_)))) (sw_cons (ml1_ (t16_ (t4_ (t1_ (t1_ h1_))))) (sw_cons (ml12_ (t4_ (t1_ h1_))) (sw_cons (ml10_ (t16_ (t1_ h1_))) (sw_cons (ml10_ (t16_ (t1_ (t1_ h1_)))) (sw_cons (ml1_ (t16_ h1_)) (sw_cons (ml10_ (t16_ (t1_ (t1_ (t1_ h1_))))) (sw_cons (ml3_ (t4_ (t4_ (t4_ h1_)))) (sw_cons (ml3_ (t4_ (t4_ (t4_ (t1_ (t1_ (t1_ h1_))))))) (sw_cons (ml12_ (t4_ (t4_ (t1_ (t1_ (t1_ h1_)))))) (sw_cons (ml12_ (t4_ (t4_ (t4_ h1_)))) (sw_cons (ml12_ (t4_ (t4_ (t4_ (t1_ h1_))))) (sw_cons (ml12_ (t4_ (t4_ (t4_ (t1_ (t1_ h1_)))))) (sw_cons (ml12_ (t4_ (t4_ (t4_ (t1_ (t1_ (t1_ h1_))))))) (sw_cons (ml12_ (t16_ h1_)) (sw_cons (ml12_ (t16_ (t1_ h1_))) (sw_cons (ml28_ h1_) (sw_cons (ml28_ (t1_ h1_)) (sw_cons (ml1_ (t1_ (t1_ h1_))) (sw_cons (ml28_ (t1_ (t1_ h1_))) (sw_cons (ml17_ (t1_ (t1_ (t1_ h1_)))) (sw_cons (ml17_ (t4_ h1_)) sw_nil)))))))))))))))))))))))) (sw_cons (ml17_ (t4_ (t1_ h1_))) (sw_cons (ml1_ (t16_ (t4_ (t1_ h1_)))) (sw_cons (ml17_ (t4_ (t1_ (t1_ h1_)))) (sw_cons (ml3_ (t16_ (t4_ h1_))) (sw_cons (ml3_ (t16_ (t4_ (t1_ h1_)))) (sw_cons (ml17_ (t4_ (t1_ (t1_ (t1_ h1_))))) (sw_cons (ml17_ (t4_ (t4_ h1_))) (sw_cons (ml17_ (t4_ (t4_ (t1_ h1_)))) sw_nil))))))))) (fun _ h => (al_ (al_ (al_ (al_ (al_ (al_ (al_ (al_ (al_ (al_ (al_ (ar_ h)))))))))))))) (fun _ h => (al_ (al_ (al_ (al_ (al_ (al_ (al_ (al_ (al_ (ar_ h)))))))))))) (fun _ h => (al_ (al_ (al_ (al_ (al_ (al_ (al_ (al_ (ar_ h)))))))))))) (by decide +kernel)
set_option maxRecDepth 20000 in
theorem gL_law_X9_chance : GoodIn wsL_law (wsV RL 100 RX9 yX9_chance wsX9_chance) := goodIn_app (sw_good (sw_cons (ml27_ (t16_ (t4_ h1_))) (sw_cons (ml27_ (t16_ (t4_ (t1_ h1_)))) (sw_cons (ml27_ (t16_ (t4_ (t1_ (t1_ h1_))))) (sw_cons (ml1_ (t1_ (t1_ h1_))) sw_nil)))) (by decide +kernel)) ggL_law_X9_chance
set_option maxRecDepth 20000 in
theorem ggL_law_X10_chance : GoodIn wsL_law wsX10_chance := sw_good (sw_cons (ml28_ (t4_ (t1_ (t1_ h1_)))) (sw_app (sw_app (sw_cons (ml7_ (t4_ (t4_ (t1_ h1_)))) (sw_cons (ml6_ (t16_ (t1_ (t1_ h1_)))) (sw_cons (ml7_ (t4_ (t4_ (t4_ h1_)))) (sw_cons (ml7_ (t4_ (t4_ (t4_ (t1_ h1_))))) (sw_cons (ml1_ (t4_ (t1_ h1_))) (sw_cons (ml7_ (t4_ (t4_ (t4_ (t1_ (t1_ h1_)))))) (sw_cons (ml8_ (t16_ (t4_ (t1_ h1_)))) (sw_cons (ml8_ (t16_ (t4_ (t1_ (t1_ h1_))))) (sw_cons (ml8_ (t16_ (t4_ (t1_ (t1_ (t1_ h1_)))))) (sw_cons (ml9_ h1_) (sw_cons (ml13_ (t4_ (t4_ (t1_ (t1_ h1_))))) (sw_cons (ml13_ (t4_ (t4_ (t1_ (t1_ (t1_ h1_)))))) (sw_cons (ml13_ (t4_ (t4_ (t4_ h1_)))) (sw_cons (ml11_ (t4_ (t4_ (t1_ (t1_ h1_))))) (sw_cons (ml11_ (t4_ (t4_ (t1_ (t1_ (t1_ h1_)))))) (sw_cons (ml11_ (t4_ (t4_ (t4_ h1_)))) (sw_cons (ml11_ (t4_ (t4_ (t4_ (t1_ h1_))))) (sw_cons (ml7_ (t4_ (t4_ (t1_ (t1_ h1_))))) (sw_cons (ml6_ (t4_ (t1_ (t1_ h1_)))) (sw_cons (ml28_ (t4_ (t1_ (t1_ (t1_ h1_))))) (sw_cons (ml28_ (t4_ (t4_ h1_))) (sw_cons (ml28_ (t4_ (t4_ (t1_ h1_)))) (sw_cons (ml18_ (t4_ (t4_ h1_))) (sw_cons (ml18_ (t4_ (t4_ (t1_ h1_)))) sw_nil)))))))))))))))))))))))) (sw_cons (ml18_ (t4_ (t4_ (t1_ (t1_ h1_))))) (sw_cons (ml18_ (t4_ (t4_ (t1_ (t1_ (t1_ h1_)))))) (sw_cons (ml18_ (t4_ (t4_ (t4_ h1_)))) (sw_cons (ml6_ (t16_ (t1_ (t1_ (t1_ h1_))))) (sw_cons (ml18_ (t4_ (t4_ (t4_ (t1_ h1_))))) (sw_cons (ml18_ (t4_ (t4_ (t4_ (t1_ (t1_ h1_)))))) (sw_cons (ml18_ (t4_ (t4_ (t4_ (t1_ (t1_ (t1_ h1_))))))) sw_nil)))))))) (fun _ h => (al_ (al_ (al_ (al_ (al_ (al_ (al_ (al_ (al_ (al_ (ar_ h)))))))))))))) (by decide +kernel)
set_option maxRecDepth 20000 in
theorem gL_law_X10_chance : GoodIn wsL_law (wsV RL 103 RX10 yX10_chance wsX10_chance) := goodIn_app (sw_good (sw_cons (ml28_ (t1_ (t1_ (t1_ h1_)))) (sw_cons (ml28_ (t4_ h1_)) (sw_cons (ml28_ (t4_ (t1_ h1_))) (sw_cons (ml1_ (t4_ (t1_ h1_))) sw_nil)))) (by decide +kernel)) ggL_law_X10_chance
set_option maxRecDepth 20000 in
theorem ggL_law_X9_part : GoodIn wsL_law wsX9_part := sw_good (sw_cons (ml28_ (t4_ (t4_ (t4_ (t1_ h1_))))) (sw_app (sw_app (sw_cons (ml28_ (t4_ (t4_ (t4_ (t1_ (t1_ h1_)))))) (sw_cons (ml1_ (t16_ (t4_ (t1_ (t1_ h1_))))) (sw_cons (ml28_ (t4_ (t4_ (t4_ (t1_ (t1_ (t1_ h1_))))))) (sw_cons (ml28_ (t16_ h1_)) (sw_cons (ml12_ (t1_ (t1_ h1_))) (sw_cons (ml12_ (t1_ (t1_ (t1_ h1_)))) (sw_cons (ml1_ (t1_ (t1_ h1_))) (sw_cons (ml12_ (t4_ h1_)) sw_nil)))))))) (fun _ h => (al_ (al_ (al_ (al_ (al_ (al_ (al_ (al_ (al_ (al_ (al_ (ar_ h)))))))))))))) (fun _ h => (al_ (al_ (al_ (al_ (al_ (al_ (al_ (al_ (ar_ h)))))))))))) (by decide +kernel)
set_option maxRecDepth 20000 in
theorem gL_law_X9_part : GoodIn wsL_law (wsV RL 104 RX9 yX9_part wsX9_part) := goodIn_app (sw_good (sw_cons (ml28_ (t4_ (t4_ (t1_ (t1_ h1_))))) (sw_cons (ml28_ (t4_ (t4_ (t1_ (t1_ (t1_ h1_)))))) (sw_cons (ml28_ (t4_ (t4_ (t4_ h1_)))) (sw_cons (ml1_ (t1_ (t1_ h1_))) sw_nil)))) (by decide +kernel)) ggL_law_X9_part
set_option maxRecDepth 20000 in
theorem ggL_law_X10_part : GoodIn wsL_law wsX10_part := sw_good (sw_cons (ml28_ (t16_ (t4_ h1_))) (sw_app (sw_cons (ml18_ (t4_ (t4_ (t4_ h1_)))) (sw_cons (ml6_ (t16_ (t1_ (t1_ (t1_ h1_))))) (sw_cons (ml17_ (t16_ (t1_ (t1_ (t1_ h1_))))) sw_nil))) (fun _ h => (al_ (al_ (al_ (al_ (al_ (al_ (al_ (al_ (al_ (al_ (ar_ h)))))))))))))) (by decide +kernel)
set_option maxRecDepth 20000 in
theorem gL_law_X10_part : GoodIn wsL_law (wsV RL 108 RX10 yX10_part wsX10_part) := goodIn_app (sw_good (sw_cons (ml28_ (t16_ (t1_ h1_))) (sw_cons (ml28_ (t16_ (t1_ (t1_ h1_)))) (sw_cons (ml28_ (t16_ (t1_ (t1_ (t1_ h1_))))) (sw_cons (ml1_ (t4_ (t1_ h1_))) sw_nil)))) (by decide +kernel)) ggL_law_X10_part
set_option maxRecDepth 20000 in
theorem ggL_law_X9_swings : GoodIn wsL_law wsX9_swings := sw_good (sw_cons (ml29_ h1_) (sw_app (sw_app (sw_cons (ml1_ (t16_ (t1_ h1_))) (sw_cons (ml10_ (t4_ (t4_ (t1_ (t1_ (t1_ h1_)))))) (sw_cons (ml9_ (t16_ (t1_ h1_))) (sw_cons (ml9_ (t16_ (t1_ (t1_ h1_)))) (sw_cons (ml9_ (t16_ (t1_ (t1_ (t1_ h1_))))) (sw_cons (ml1_ (t1_ (t1_ h1_))) (sw_cons (ml9_ (t16_ (t4_ h1_))) (sw_cons (ml9_ (t16_ (t4_ (t1_ h1_)))) (sw_cons (ml12_ (t4_ (t4_ (t1_ (t1_ h1_))))) (sw_cons (ml10_ (t16_ (t4_ h1_))) (sw_cons (ml10_ (t16_ (t4_ (t1_ h1_)))) (sw_cons (ml12_ (t4_ (t1_ h1_))) (sw_cons (ml10_ (t16_ (t1_ h1_))) (sw_cons (ml10_ (t16_ (t1_ (t1_ h1_)))) (sw_cons (ml1_ (t16_ h1_)) (sw_cons (ml10_ (t16_ (t1_ (t1_ (t1_ h1_))))) (sw_cons (ml3_ (t4_ (t4_ (t4_ h1_)))) (sw_cons (ml3_ (t4_ (t4_ (t4_ (t1_ (t1_ (t1_ h1_))))))) sw_nil)))))))))))))))))) (fun _ h => (al_ (al_ (al_ (al_ (al_ (al_ (al_ (al_ (al_ (al_ (al_ (ar_ h)))))))))))))) (fun _ h => (al_ (al_ (al_ (al_ (al_ (al_ (al_ (al_ (al_ (ar_ h))))))))))))) (by decide +kernel)
set_option maxRecDepth 20000 in
theorem gL_law_X9_swings : GoodIn wsL_law (wsV RL 109 RX9 yX9_swings wsX9_swings) := goodIn_app (sw_good (sw_cons (ml28_ (t16_ (t4_ (t1_ h1_)))) (sw_cons (ml28_ (t16_ (t4_ (t1_ (t1_ h1_))))) (sw_cons (ml28_ (t16_ (t4_ (t1_ (t1_ (t1_ h1_)))))) (sw_cons (ml1_ (t1_ (t1_ h1_))) sw_nil)))) (by decide +kernel)) ggL_law_X9_swings
set_option maxRecDepth 20000 in
theorem ggL_law_X10_swings : GoodIn wsL_law wsX10_swings := sw_good (sw_cons (ml29_ (t4_ h1_)) (sw_app (sw_cons (ml10_ (t1_ (t1_ (t1_ h1_)))) (sw_cons (ml10_ (t4_ h1_)) (sw_cons (ml10_ (t4_ (t1_ h1_))) (sw_cons (ml1_ (t4_ (t1_ h1_))) (sw_cons (ml10_ (t4_ (t1_ (t1_ h1_)))) (sw_cons (ml6_ (t16_ (t1_ (t1_ h1_)))) (sw_cons (ml7_ (t4_ (t4_ (t4_ h1_)))) (sw_cons (ml7_ (t4_ (t4_ (t4_ (t1_ h1_))))) (sw_cons (ml7_ (t4_ (t4_ (t4_ (t1_ (t1_ h1_)))))) (sw_cons (ml8_ (t16_ (t4_ (t1_ h1_)))) (sw_cons (ml8_ (t16_ (t4_ (t1_ (t1_ h1_))))) (sw_cons (ml8_ (t16_ (t4_ (t1_ (t1_ (t1_ h1_)))))) (sw_cons (ml9_ h1_) (sw_cons (ml11_ (t4_ (t4_ (t1_ (t1_ h1_))))) (sw_cons (ml11_ (t4_ (t4_ (t1_ (t1_ (t1_ h1_)))))) (sw_cons (ml11_ (t4_ (t4_ (t4_ h1_)))) (sw_cons (ml11_ (t4_ (t4_ (t4_ (t1_ h1_))))) (sw_cons (ml7_ (t4_ (t4_ (t1_ (t1_ h1_))))) (sw_cons (ml6_ (t4_ (t1_ (t1_ h1_)))) sw_nil))))))))))))))))))) (fun _ h => (al_ (al_ (al_ (al_ (al_ (al_ (al_ (al_ (al_ (al_ (ar_ h)))))))))))))) (by decide +kernel)
set_option maxRecDepth 20000 in
theorem gL_law_X10_swings : GoodIn wsL_law (wsV RL 112 RX10 yX10_swings wsX10_swings) := goodIn_app (sw_good (sw_cons (ml29_ (t1_ h1_)) (sw_cons (ml29_ (t1_ (t1_ h1_))) (sw_cons (ml29_ (t1_ (t1_ (t1_ h1_)))) (sw_cons (ml1_ (t4_ (t1_ h1_))) sw_nil)))) (by decide +kernel)) ggL_law_X10_swings
set_option maxRecDepth 20000 in
theorem ggL_law_X9_questions : GoodIn wsL_law wsX9_questions := sw_good (sw_cons (ml29_ (t4_ (t4_ h1_))) (sw_app (sw_app (sw_app (sw_app (sw_cons (ml1_ (t16_ (t1_ h1_))) (sw_cons (ml7_ (t16_ (t1_ (t1_ (t1_ h1_))))) (sw_cons (ml3_ (t1_ (t1_ h1_))) (sw_cons (ml12_ (t1_ (t1_ h1_))) (sw_cons (ml12_ (t1_ (t1_ (t1_ h1_)))) (sw_cons (ml1_ (t1_ (t1_ h1_))) (sw_cons (ml12_ (t4_ h1_)) (sw_cons (ml29_ (t4_ (t4_ (t1_ h1_)))) (sw_cons (ml29_ (t4_ (t4_ (t1_ (t1_ h1_))))) (sw_cons (ml29_ (t4_ (t4_ (t1_ (t1_ (t1_ h1_)))))) (sw_cons (ml3_ (t1_ h1_)) (sw_cons (ml29_ (t4_ (t4_ (t4_ h1_)))) (sw_cons (ml6_ (t1_ h1_)) (sw_cons (ml5_ (t16_ (t4_ (t1_ (t1_ (t1_ h1_)))))) (sw_cons (ml29_ (t4_ (t4_ (t4_ (t1_ h1_))))) (sw_cons (ml6_ h1_) (sw_cons (ml29_ (t4_ (t4_ (t4_ (t1_ (t1_ h1_)))))) (sw_cons (ml29_ (t4_ (t4_ (t4_ (t1_ (t1_ (t1_ h1_))))))) (sw_cons (ml29_ (t16_ h1_)) (sw_cons (ml3_ (t4_ h1_)) (sw_cons (ml3_ (t4_ (t1_ h1_))) (sw_cons (ml3_ (t4_ (t1_ (t1_ h1_)))) (sw_cons (ml10_ (t16_ (t4_ h1_))) (sw_cons (ml10_ (t16_ (t4_ (t1_ h1_)))) sw_nil)))))))))))))))))))))))) (sw_app (sw_cons (ml29_ (t16_ (t1_ h1_))) (sw_cons (ml29_ (t16_ (t1_ (t1_ h1_)))) (sw_cons (ml29_ (t16_ (t1_ (t1_ (t1_ h1_))))) (sw_cons (ml29_ (t16_ (t4_ h1_))) (sw_cons (ml29_ (t16_ (t4_ (t1_ h1_)))) (sw_cons (ml29_ (t16_ (t4_ (t1_ (t1_ h1_))))) (sw_cons (ml29_ (t16_ (t4_ (t1_ (t1_ (t1_ h1_)))))) (sw_cons (ml30_ h1_) (sw_cons (ml30_ (t1_ h1_)) (sw_cons (ml30_ (t1_ (t1_ h1_))) (sw_cons (ml30_ (t1_ (t1_ (t1_ h1_)))) (sw_cons (ml30_ (t4_ h1_)) (sw_cons (ml30_ (t4_ (t1_ h1_))) (sw_cons (ml30_ (t4_ (t1_ (t1_ h1_)))) (sw_cons (ml30_ (t4_ (t1_ (t1_ (t1_ h1_))))) (sw_cons (ml30_ (t4_ (t4_ h1_))) (sw_cons (ml30_ (t4_ (t4_ (t1_ h1_)))) (sw_cons (ml12_ (t4_ (t4_ (t4_ h1_)))) (sw_cons (ml12_ (t4_ (t4_ (t4_ (t1_ h1_))))) (sw_cons (ml12_ (t4_ (t4_ (t4_ (t1_ (t1_ h1_)))))) (sw_cons (ml12_ (t4_ (t4_ (t4_ (t1_ (t1_ (t1_ h1_))))))) (sw_cons (ml12_ (t16_ h1_)) (sw_cons (ml12_ (t16_ (t1_ h1_))) (sw_cons (ml30_ (t4_ (t4_ (t1_ (t1_ h1_))))) sw_nil)))))))))))))))))))))))) (sw_cons (ml30_ (t4_ (t4_ (t1_ (t1_ (t1_ h1_)))))) (sw_cons (ml30_ (t4_ (t4_ (t4_ h1_)))) (sw_cons (ml30_ (t4_ (t4_ (t4_ (t1_ h1_))))) (sw_cons (ml30_ (t4_ (t4_ (t4_ (t1_ (t1_ h1_)))))) (sw_cons (ml30_ (t4_ (t4_ (t4_ (t1_ (t1_ (t1_ h1_))))))) (sw_cons (ml30_ (t16_ h1_)) (sw_cons (ml30_ (t16_ (t1_ h1_))) (sw_cons (ml30_ (t16_ (t1_ (t1_ h1_)))) (sw_cons (ml30_ (t16_ (t1_ (t1_ (t1_ h1_))))) (sw_cons (ml30_ (t16_ (t4_ h1_))) (sw_cons (ml30_ (t16_ (t4_ (t1_ h1_)))) (sw_cons (ml30_ (t16_ (t4_ (t1_ (t1_ h1_))))) (sw_cons (ml30_ (t16_ (t4_ (t1_ (t1_ (t1_ h1_)))))) (sw_cons (ml31_ h1_) (sw_cons (ml31_ (t1_ h1_)) (sw_cons (ml31_ (t1_ (t1_ h1_))) (sw_cons (ml31_ (t1_ (t1_ (t1_ h1_)))) sw_nil))))))))))))))))))) (fun _ h => (al_ (al_ (al_ (al_ (al_ (al_ (al_ (al_ (al_ (al_ (al_ (ar_ h)))))))))))))) (fun _ h => (al_ (al_ (al_ (al_ (al_ (al_ (al_ (al_ (al_ (ar_ h)))))))))))) (fun _ h => (al_ (ar_ h))))) (by decide +kernel)
set_option maxRecDepth 20000 in
theorem gL_law_X9_questions : GoodIn wsL_law (wsV RL 113 RX9 yX9_questions wsX9_questions) := goodIn_app (sw_good (sw_cons (ml29_ (t4_ (t1_ h1_))) (sw_cons (ml29_ (t4_ (t1_ (t1_ h1_)))) (sw_cons (ml29_ (t4_ (t1_ (t1_ (t1_ h1_))))) (sw_cons (ml1_ (t1_ (t1_ h1_))) sw_nil)))) (by decide +kernel)) ggL_law_X9_questions
set_option maxRecDepth 20000 in
theorem ggL_law_X10_questions : GoodIn wsL_law wsX10_questions := sw_good (sw_cons (ml31_ (t4_ (t1_ (t1_ (t1_ h1_))))) (sw_app (sw_cons (ml7_ (t4_ (t4_ (t1_ (t1_ h1_))))) (sw_cons (ml31_ (t4_ (t4_ h1_))) (sw_cons (ml6_ (t16_ (t1_ (t1_ h1_)))) (sw_cons (ml6_ (t16_ (t1_ h1_))) (sw_cons (ml7_ (t4_ (t4_ (t4_ h1_)))) (sw_cons (ml7_ (t4_ (t4_ (t4_ (t1_ h1_))))) (sw_cons (ml1_ (t4_ (t1_ h1_))) (sw_cons (ml7_ (t4_ (t4_ (t4_ (t1_ (t1_ h1_)))))) (sw_cons (ml31_ (t4_ (t4_ (t1_ h1_)))) (sw_cons (ml31_ (t4_ (t4_ (t1_ (t1_ h1_))))) (sw_cons (ml31_ (t4_ (t4_ (t1_ (t1_ (t1_ h1_)))))) (sw_cons (ml31_ (t4_ (t4_ (t4_ h1_)))) (sw_cons (ml6_ (t4_ (t1_ (t1_ h1_)))) sw_nil))))))))))))) (fun _ h => (al_ (al_ (al_ (al_ (al_ (al_ (al_ (al_ (al_ (al_ (ar_ h)))))))))))))) (by decide +kernel)
set_option maxRecDepth 20000 in
theorem gL_law_X10_questions : GoodIn wsL_law (wsV RL 116 RX10 yX10_questions wsX10_questions) := goodIn_app (sw_good (sw_cons (ml31_ (t4_ h1_)) (sw_cons (ml31_ (t4_ (t1_ h1_))) (sw_cons (ml31_ (t4_ (t1_ (t1_ h1_)))) (sw_cons (ml1_ (t4_ (t1_ h1_))) sw_nil)))) (by decide +kernel)) ggL_law_X10_questions
set_option maxRecDepth 20000 in
theorem ggL_law_X9_count : GoodIn wsL_law wsX9_count := sw_good (sw_cons (ml31_ (t16_ h1_)) (sw_app (sw_app (sw_cons (ml1_ (t16_ (t1_ h1_))) (sw_cons (ml9_ (t16_ (t4_ (t1_ h1_)))) (sw_cons (ml7_ (t16_ (t1_ (t1_ (t1_ h1_))))) (sw_cons (ml1_ (t16_ (t1_ (t1_ h1_)))) sw_nil)))) (fun _ h => (al_ (al_ (al_ (al_ (al_ (al_ (al_ (al_ (al_ (al_ (al_ (ar_ h)))))))))))))) (fun _ h => (al_ (al_ (al_ (al_ (al_ (al_ (al_ (al_ (al_ (ar_ h))))))))))))) (by decide +kernel)
set_option maxRecDepth 20000 in
theorem gL_law_X9_count : GoodIn wsL_law (wsV RL 117 RX9 yX9_count wsX9_count) := goodIn_app (sw_good (sw_cons (ml31_ (t4_ (t4_ (t4_ (t1_ h1_))))) (sw_cons (ml31_ (t4_ (t4_ (t4_ (t1_ (t1_ h1_)))))) (sw_cons (ml31_ (t4_ (t4_ (t4_ (t1_ (t1_ (t1_ h1_))))))) (sw_cons (ml1_ (t1_ (t1_ h1_))) sw_nil)))) (by decide +kernel)) ggL_law_X9_count
set_option maxRecDepth 20000 in
theorem ggL_law_X10_count : GoodIn wsL_law wsX10_count := sw_good (sw_cons (ml31_ (t16_ (t4_ h1_))) (sw_app (sw_cons (ml6_ (t16_ (t1_ (t1_ h1_)))) (sw_cons (ml7_ (t4_ (t4_ (t1_ (t1_ h1_))))) (sw_cons (ml7_ (t4_ (t4_ (t1_ (t1_ (t1_ h1_)))))) sw_nil))) (fun _ h => (al_ (al_ (al_ (al_ (al_ (al_ (al_ (al_ (al_ (al_ (ar_ h)))))))))))))) (by decide +kernel)
set_option maxRecDepth 20000 in
theorem gL_law_X10_count : GoodIn wsL_law (wsV RL 120 RX10 yX10_count wsX10_count) := goodIn_app (sw_good (sw_cons (ml31_ (t16_ (t1_ h1_))) (sw_cons (ml31_ (t16_ (t1_ (t1_ h1_)))) (sw_cons (ml31_ (t16_ (t1_ (t1_ (t1_ h1_))))) (sw_cons (ml1_ (t4_ (t1_ h1_))) sw_nil)))) (by decide +kernel)) ggL_law_X10_count
set_option maxRecDepth 20000 in
theorem ggL_law_X9_digest : GoodIn wsL_law wsX9_digest := sw_good (sw_cons (ml32_ h1_) (sw_app (sw_app (sw_app (sw_app (sw_app (sw_app (sw_cons (ml32_ (t1_ h1_)) (sw_cons (ml32_ (t1_ (t1_ h1_))) (sw_cons (ml1_ (t16_ (t1_ h1_))) (sw_cons (ml1_ (t16_ (t1_ (t1_ h1_)))) (sw_cons (ml9_ (t16_ (t4_ (t1_ h1_)))) (sw_cons (ml1_ (t4_ (t4_ (t4_ (t1_ h1_))))) (sw_cons (ml1_ (t16_ (t4_ (t1_ (t1_ h1_))))) (sw_cons (ml28_ (t4_ (t4_ (t4_ (t1_ (t1_ (t1_ h1_))))))) (sw_cons (ml28_ (t16_ h1_)) (sw_cons (ml32_ (t1_ (t1_ (t1_ h1_)))) (sw_cons (ml31_ (t4_ (t4_ (t4_ (t1_ (t1_ h1_)))))) (sw_cons (ml31_ (t4_ (t4_ (t4_ (t1_ (t1_ (t1_ h1_))))))) (sw_cons (ml1_ (t1_ (t1_ h1_))) (sw_cons (ml31_ (t16_ h1_)) (sw_cons (ml7_ (t16_ (t1_ (t1_ (t1_ h1_))))) (sw_cons (ml32_ (t4_ h1_)) (sw_cons (ml32_ (t4_ (t1_ h1_))) (sw_cons (ml32_ (t4_ (t1_ (t1_ h1_)))) (sw_cons (ml1_ (t16_ h1_)) (sw_cons (ml32_ (t4_ (t1_ (t1_ (t1_ h1_))))) (sw_cons (ml3_ (t4_ (t4_ (t4_ (t1_ h1_))))) (sw_cons (ml32_ (t4_ (t4_ h1_))) (sw_cons (ml3_ (t4_ (t4_ (t1_ (t1_ (t1_ h1_)))))) (sw_cons (ml14_ (t4_ (t4_ (t4_ (t1_ h1_))))) sw_nil)))))))))))))))))))))))) (sw_app (sw_cons (ml10_ (t4_ (t4_ h1_))) (sw_cons (ml10_ (t4_ (t4_ (t1_ h1_)))) (sw_cons (ml10_ (t4_ (t4_ (t1_ (t1_ h1_))))) (sw_cons (ml10_ (t4_ (t4_ (t1_ (t1_ (t1_ h1_)))))) (sw_cons (ml10_ (t4_ (t4_ (t4_ h1_)))) (sw_cons (ml10_ (t4_ (t4_ (t4_ (t1_ h1_))))) (sw_cons (ml10_ (t4_ (t4_ (t4_ (t1_ (t1_ h1_)))))) (sw_cons (ml10_ (t4_ (t4_ (t4_ (t1_ (t1_ (t1_ h1_))))))) (sw_cons (ml3_ (t4_ (t4_ (t4_ (t1_ (t1_ h1_)))))) (sw_cons (ml10_ (t16_ h1_)) (sw_cons (ml10_ (t16_ (t1_ h1_))) (sw_cons (ml10_ (t16_ (t1_ (t1_ h1_)))) (sw_cons (ml10_ (t16_ (t1_ (t1_ (t1_ h1_))))) (sw_cons (ml3_ (t4_ (t4_ (t4_ h1_)))) (sw_cons (ml3_ (t4_ (t4_ (t4_ (t1_ (t1_ (t1_ h1_))))))) (sw_cons (ml10_ (t16_ (t4_ h1_))) (sw_cons (ml10_ (t16_ (t4_ (t1_ h1_)))) (sw_cons (ml32_ (t4_ (t4_ (t1_ h1_)))) (sw_cons (ml11_ (t16_ (t4_ (t1_ (t1_ (t1_ h1_)))))) (sw_cons (ml12_ h1_) (sw_cons (ml12_ (t1_ h1_)) (sw_cons (ml12_ (t1_ (t1_ h1_))) (sw_cons (ml12_ (t1_ (t1_ (t1_ h1_)))) (sw_cons (ml12_ (t4_ h1_)) sw_nil)))))))))))))))))))))))) (sw_app (sw_cons (ml12_ (t4_ (t1_ h1_))) (sw_cons (ml12_ (t4_ (t1_ (t1_ h1_)))) (sw_cons (ml12_ (t4_ (t1_ (t1_ (t1_ h1_))))) (sw_cons (ml12_ (t4_ (t4_ h1_))) (sw_cons (ml12_ (t4_ (t4_ (t1_ h1_)))) (sw_cons (ml12_ (t4_ (t4_ (t1_ (t1_ h1_))))) (sw_cons (ml12_ (t4_ (t4_ (t1_ (t1_ (t1_ h1_)))))) (sw_cons (ml12_ (t4_ (t4_ (t4_ h1_)))) (sw_cons (ml12_ (t4_ (t4_ (t4_ (t1_ h1_))))) (sw_cons (ml12_ (t4_ (t4_ (t4_ (t1_ (t1_ h1_)))))) (sw_cons (ml12_ (t4_ (t4_ (t4_ (t1_ (t1_ (t1_ h1_))))))) (sw_cons (ml12_ (t16_ h1_)) (sw_cons (ml12_ (t16_ (t1_ h1_))) (sw_cons (ml32_ (t4_ (t4_ (t1_ (t1_ h1_))))) (sw_cons (ml18_ (t16_ (t1_ h1_))) (sw_cons (ml18_ (t16_ (t1_ (t1_ h1_)))) (sw_cons (ml18_ (t16_ (t1_ (t1_ (t1_ h1_))))) (sw_cons (ml2_ (t4_ (t1_ (t1_ h1_)))) (sw_cons (ml18_ (t16_ (t4_ h1_))) (sw_cons (ml18_ (t16_ (t4_ (t1_ h1_)))) (sw_cons (ml18_ (t16_ (t4_ (t1_ (t1_ h1_))))) (sw_cons (ml18_ (t16_ (t4_ (t1_ (t1_ (t1_ h1_)))))) (sw_cons (ml2_ (t4_ (t1_ h1_))) (sw_cons (ml19_ h1_) sw_nil)))))))))))))))))))))))) (sw_app (sw_cons (ml19_ (t1_ h1_)) (sw_cons (ml19_ (t1_ (t1_ h1_))) (sw_cons (ml19_ (t1_ (t1_ (t1_ h1_)))) (sw_cons (ml19_ (t4_ h1_)) (sw_cons (ml4_ (t4_ (t4_ (t4_ (t1_ (t1_ (t1_ h1_))))))) (sw_cons (ml4_ (t16_ h1_)) (sw_cons (ml4_ (t16_ (t1_ h1_))) (sw_cons (ml4_ (t4_ (t4_ (t4_ (t1_ (t1_ h1_)))))) (sw_cons (ml19_ (t4_ (t1_ h1_))) (sw_cons (ml19_ (t4_ (t1_ (t1_ h1_)))) (sw_cons (ml19_ (t4_ (t1_ (t1_ (t1_ h1_))))) (sw_cons (ml19_ (t4_ (t4_ h1_))) (sw_cons (ml19_ (t4_ (t4_ (t1_ h1_)))) (sw_cons (ml19_ (t4_ (t4_ (t1_ (t1_ h1_))))) (sw_cons (ml32_ (t4_ (t4_ (t1_ (t1_ (t1_ h1_)))))) (sw_cons (ml23_ (t16_ (t1_ (t1_ (t1_ h1_))))) (sw_cons (ml23_ (t16_ (t4_ h1_))) (sw_cons (ml23_ (t16_ (t4_ (t1_ h1_)))) (sw_cons (ml2_ (t16_ (t1_ (t1_ h1_)))) (sw_cons (ml23_ (t16_ (t4_ (t1_ (t1_ h1_))))) (sw_cons (ml23_ (t16_ (t4_ (t1_ (t1_ (t1_ h1_)))))) (sw_cons (ml24_ h1_) (sw_cons (ml2_ (t16_ (t1_ h1_))) (sw_cons (ml24_ (t1_ h1_)) sw_nil)))))))))))))))))))))))) (sw_cons (ml5_ (t4_ (t4_ (t1_ (t1_ h1_))))) (sw_cons (ml24_ (t1_ (t1_ h1_))) (sw_cons (ml5_ (t4_ (t4_ (t1_ (t1_ (t1_ h1_)))))) (sw_cons (ml24_ (t1_ (t1_ (t1_ h1_)))) (sw_cons (ml5_ (t4_ (t4_ (t4_ h1_)))) (sw_cons (ml24_ (t4_ h1_)) (sw_cons (ml24_ (t4_ (t1_ h1_))) (sw_cons (ml24_ (t4_ (t1_ (t1_ h1_)))) (sw_cons (ml24_ (t4_ (t1_ (t1_ (t1_ h1_))))) (sw_cons (ml24_ (t4_ (t4_ h1_))) (sw_cons (ml24_ (t4_ (t4_ (t1_ h1_)))) (sw_cons (ml24_ (t4_ (t4_ (t1_ (t1_ h1_))))) (sw_cons (ml24_ (t4_ (t4_ (t1_ (t1_ (t1_ h1_)))))) (sw_cons (ml24_ (t4_ (t4_ (t4_ h1_)))) (sw_cons (ml24_ (t4_ (t4_ (t4_ (t1_ h1_))))) (sw_cons (ml24_ (t4_ (t4_ (t4_ (t1_ (t1_ h1_)))))) (sw_cons (ml24_ (t4_ (t4_ (t4_ (t1_ (t1_ (t1_ h1_))))))) sw_nil))))))))))))))))))))) (fun _ h => (al_ (al_ (al_ (al_ (al_ (al_ (al_ (al_ (al_ (al_ (al_ (ar_ h)))))))))))))) (fun _ h => (al_ (al_ (al_ (al_ (al_ (al_ (al_ (al_ (al_ (ar_ h)))))))))))) (fun _ h => (al_ (al_ (al_ (al_ (al_ (al_ (al_ (al_ (ar_ h))))))))))) (fun _ h => (al_ (al_ (al_ (al_ (al_ (al_ (ar_ h))))))))) (fun _ h => (al_ (al_ (al_ (ar_ h))))))) (by decide +kernel)
set_option maxRecDepth 20000 in
theorem gL_law_X9_digest : GoodIn wsL_law (wsV RL 121 RX9 yX9_digest wsX9_digest) := goodIn_app (sw_good (sw_cons (ml31_ (t16_ (t4_ (t1_ h1_)))) (sw_cons (ml31_ (t16_ (t4_ (t1_ (t1_ h1_))))) (sw_cons (ml31_ (t16_ (t4_ (t1_ (t1_ (t1_ h1_)))))) (sw_cons (ml1_ (t1_ (t1_ h1_))) sw_nil)))) (by decide +kernel)) ggL_law_X9_digest
set_option maxRecDepth 20000 in
theorem ggL_law_X10_digest : GoodIn wsL_law wsX10_digest := sw_good (sw_cons (ml32_ (t4_ (t4_ (t4_ (t1_ (t1_ (t1_ h1_))))))) (sw_app (sw_app (sw_cons (ml32_ (t16_ h1_)) (sw_cons (ml32_ (t16_ (t1_ h1_))) (sw_cons (ml6_ (t16_ (t1_ (t1_ h1_)))) (sw_cons (ml7_ (t4_ (t4_ (t1_ (t1_ h1_))))) (sw_cons (ml7_ (t4_ (t4_ (t1_ (t1_ (t1_ h1_)))))) (sw_cons (ml6_ (t4_ (t1_ (t1_ h1_)))) (sw_cons (ml6_ (t4_ (t1_ (t1_ (t1_ h1_))))) (sw_cons (ml6_ (t4_ (t4_ h1_))) (sw_cons (ml18_ (t4_ (t4_ (t4_ h1_)))) (sw_cons (ml6_ (t16_ (t1_ (t1_ (t1_ h1_))))) (sw_cons (ml11_ (t1_ (t1_ h1_))) (sw_cons (ml11_ (t1_ (t1_ (t1_ h1_)))) (sw_cons (ml11_ (t4_ h1_)) (sw_cons (ml1_ (t4_ (t1_ h1_))) (sw_cons (ml11_ (t4_ (t1_ h1_))) (sw_cons (ml8_ (t16_ (t4_ (t1_ h1_)))) (sw_cons (ml8_ (t16_ (t4_ (t1_ (t1_ h1_))))) (sw_cons (ml8_ (t16_ (t4_ (t1_ (t1_ (t1_ h1_)))))) (sw_cons (ml9_ h1_) (sw_cons (ml11_ (t4_ (t1_ (t1_ h1_)))) (sw_cons (ml11_ (t4_ (t1_ (t1_ (t1_ h1_))))) (sw_cons (ml11_ (t4_ (t4_ h1_))) (sw_cons (ml11_ (t4_ (t4_ (t1_ h1_)))) (sw_cons (ml11_ (t4_ (t4_ (t1_ (t1_ h1_))))) sw_nil)))))))))))))))))))))))) (sw_app (sw_cons (ml11_ (t4_ (t4_ (t1_ (t1_ (t1_ h1_)))))) (sw_cons (ml11_ (t4_ (t4_ (t4_ h1_)))) (sw_cons (ml11_ (t4_ (t4_ (t4_ (t1_ h1_))))) (sw_cons (ml12_ (t16_ (t4_ (t1_ (t1_ h1_))))) (sw_cons (ml12_ (t16_ (t4_ (t1_ (t1_ (t1_ h1_)))))) (sw_cons (ml13_ h1_) (sw_cons (ml13_ (t1_ h1_)) (sw_cons (ml13_ (t1_ (t1_ h1_))) (sw_cons (ml13_ (t1_ (t1_ (t1_ h1_)))) (sw_cons (ml13_ (t4_ h1_)) (sw_cons (ml13_ (t4_ (t1_ h1_))) (sw_cons (ml13_ (t4_ (t1_ (t1_ h1_)))) (sw_cons (ml13_ (t4_ (t1_ (t1_ (t1_ h1_))))) (sw_cons (ml13_ (t4_ (t4_ h1_))) (sw_cons (ml13_ (t4_ (t4_ (t1_ h1_)))) (sw_cons (ml13_ (t4_ (t4_ (t1_ (t1_ h1_))))) (sw_cons (ml13_ (t4_ (t4_ (t1_ (t1_ (t1_ h1_)))))) (sw_cons (ml13_ (t4_ (t4_ (t4_ h1_)))) (sw_cons (ml19_ (t4_ (t4_ (t4_ (t1_ (t1_ (t1_ h1_))))))) (sw_cons (ml19_ (t16_ h1_)) (sw_cons (ml19_ (t16_ (t1_ h1_))) (sw_cons (ml19_ (t16_ (t1_ (t1_ h1_)))) (sw_cons (ml19_ (t16_ (t1_ (t1_ (t1_ h1_))))) (sw_cons (ml19_ (t16_ (t4_ h1_))) sw_nil)))))))))))))))))))))))) (sw_cons (ml19_ (t16_ (t4_ (t1_ h1_)))) (sw_cons (ml19_ (t16_ (t4_ (t1_ (t1_ h1_))))) (sw_cons (ml24_ (t16_ (t4_ h1_))) (sw_cons (ml24_ (t16_ (t4_ (t1_ h1_)))) (sw_cons (ml24_ (t16_ (t4_ (t1_ (t1_ h1_))))) (sw_cons (ml24_ (t16_ (t4_ (t1_ (t1_ (t1_ h1_)))))) (sw_cons (ml6_ (t4_ (t4_ (t4_ (t1_ (t1_ h1_)))))) (sw_cons (ml25_ h1_) (sw_cons (ml25_ (t1_ h1_)) (sw_cons (ml25_ (t1_ (t1_ h1_))) (sw_cons (ml25_ (t1_ (t1_ (t1_ h1_)))) (sw_cons (ml25_ (t4_ h1_)) (sw_cons (ml25_ (t4_ (t1_ h1_))) (sw_cons (ml25_ (t4_ (t1_ (t1_ h1_)))) (sw_cons (ml25_ (t4_ (t1_ (t1_ (t1_ h1_))))) sw_nil))))))))))))))))) (fun _ h => (al_ (al_ (al_ (al_ (al_ (al_ (al_ (al_ (al_ (al_ (ar_ h)))))))))))))) (by decide +kernel)
set_option maxRecDepth 20000 in
theorem gL_law_X10_digest : GoodIn wsL_law (wsV RL 125 RX10 yX10_digest wsX10_digest) := goodIn_app (sw_good (sw_cons (ml32_ (t4_ (t4_ (t4_ h1_)))) (sw_cons (ml32_ (t4_ (t4_ (t4_ (t1_ h1_))))) (sw_cons (ml32_ (t4_ (t4_ (t4_ (t1_ (t1_ h1_)))))) (sw_cons (ml1_ (t4_ (t1_ h1_))) sw_nil)))) (by decide +kernel)) ggL_law_X10_digest
theorem dL_law_0 : decode cL_law 0 = .ok (.new 7, 3) := by decide +kernel
theorem dL_law_3 : decode cL_law 3 = .ok (.dup, 1) := by decide +kernel
theorem dL_law_4 : decode cL_law 4 = .ok (.invokespecial 9, 3) := by decide +kernel
theorem dL_law_7 : decode cL_law 7 = .ok (.astore_n 1, 1) := by decide +kernel
theorem dL_law_8 : decode cL_law 8 = .ok (.new 10, 3) := by decide +kernel
theorem dL_law_11 : decode cL_law 11 = .ok (.dup, 1) := by decide +kernel
theorem dL_law_12 : decode cL_law 12 = .ok (.invokespecial 12, 3) := by decide +kernel
theorem dL_law_15 : decode cL_law 15 = .ok (.astore_n 2, 1) := by decide +kernel
theorem dL_law_16 : decode cL_law 16 = .ok (.iconst 0, 1) := by decide +kernel
theorem dL_law_17 : decode cL_law 17 = .ok (.istore_n 3, 1) := by decide +kernel
theorem dL_law_18 : decode cL_law 18 = .ok (.iload_n 3, 1) := by decide +kernel
theorem dL_law_19 : decode cL_law 19 = .ok (.aload_n 0, 1) := by decide +kernel
theorem dL_law_20 : decode cL_law 20 = .ok (.arraylength, 1) := by decide +kernel
theorem dL_law_21 : decode cL_law 21 = .ok (.iconst 3, 1) := by decide +kernel
theorem dL_law_22 : decode cL_law 22 = .ok (.isub, 1) := by decide +kernel
theorem dL_law_23 : decode cL_law 23 = .ok (.if_icmp .gt 680, 3) := by decide +kernel
theorem dL_law_26 : decode cL_law 26 = .ok (.aload_n 0, 1) := by decide +kernel
theorem dL_law_27 : decode cL_law 27 = .ok (.iload_n 3, 1) := by decide +kernel
theorem dL_law_28 : decode cL_law 28 = .ok (.iaload, 1) := by decide +kernel
theorem dL_law_29 : decode cL_law 29 = .ok (.bipush 31, 2) := by decide +kernel
theorem dL_law_31 : decode cL_law 31 = .ok (.iand, 1) := by decide +kernel
theorem dL_law_32 : decode cL_law 32 = .ok (.tableswitch 665 0 26 #[124, 147, 170, 183, 216, 229, 252, 275, 298, 311, 324, 337, 350, 363, 386, 409, 432, 455, 468, 481, 494, 527, 560, 583, 606, 629, 652], 124) := by decide +kernel
theorem dL_law_156 : decode cL_law 156 = .ok (.aload_n 1, 1) := by decide +kernel
theorem dL_law_157 : decode cL_law 157 = .ok (.aload_n 0, 1) := by decide +kernel
theorem dL_law_158 : decode cL_law 158 = .ok (.iload_n 3, 1) := by decide +kernel
theorem dL_law_159 : decode cL_law 159 = .ok (.iconst 1, 1) := by decide +kernel
theorem dL_law_160 : decode cL_law 160 = .ok (.iadd, 1) := by decide +kernel
theorem dL_law_161 : decode cL_law 161 = .ok (.iaload, 1) := by decide +kernel
theorem dL_law_162 : decode cL_law 162 = .ok (.invokevirtual 13, 3) := by decide +kernel
theorem dL_law_165 : decode cL_law 165 = .ok (.pop, 1) := by decide +kernel
theorem dL_law_166 : decode cL_law 166 = .ok (.aload_n 2, 1) := by decide +kernel
theorem dL_law_167 : decode cL_law 167 = .ok (.aload_n 0, 1) := by decide +kernel
theorem dL_law_168 : decode cL_law 168 = .ok (.iload_n 3, 1) := by decide +kernel
theorem dL_law_169 : decode cL_law 169 = .ok (.iconst 1, 1) := by decide +kernel
theorem dL_law_170 : decode cL_law 170 = .ok (.iadd, 1) := by decide +kernel
theorem dL_law_171 : decode cL_law 171 = .ok (.iaload, 1) := by decide +kernel
theorem dL_law_172 : decode cL_law 172 = .ok (.invokevirtual 17, 3) := by decide +kernel
theorem dL_law_175 : decode cL_law 175 = .ok (.pop, 1) := by decide +kernel
theorem dL_law_176 : decode cL_law 176 = .ok (.goto 521, 3) := by decide +kernel
theorem dL_law_179 : decode cL_law 179 = .ok (.aload_n 1, 1) := by decide +kernel
theorem dL_law_180 : decode cL_law 180 = .ok (.aload_n 0, 1) := by decide +kernel
theorem dL_law_181 : decode cL_law 181 = .ok (.iload_n 3, 1) := by decide +kernel
theorem dL_law_182 : decode cL_law 182 = .ok (.iconst 1, 1) := by decide +kernel
theorem dL_law_183 : decode cL_law 183 = .ok (.iadd, 1) := by decide +kernel
theorem dL_law_184 : decode cL_law 184 = .ok (.iaload, 1) := by decide +kernel
theorem dL_law_185 : decode cL_law 185 = .ok (.invokevirtual 18, 3) := by decide +kernel
theorem dL_law_188 : decode cL_law 188 = .ok (.pop, 1) := by decide +kernel
theorem dL_law_189 : decode cL_law 189 = .ok (.aload_n 2, 1) := by decide +kernel
theorem dL_law_190 : decode cL_law 190 = .ok (.aload_n 0, 1) := by decide +kernel
theorem dL_law_191 : decode cL_law 191 = .ok (.iload_n 3, 1) := by decide +kernel
theorem dL_law_192 : decode cL_law 192 = .ok (.iconst 1, 1) := by decide +kernel
theorem dL_law_193 : decode cL_law 193 = .ok (.iadd, 1) := by decide +kernel
theorem dL_law_194 : decode cL_law 194 = .ok (.iaload, 1) := by decide +kernel
theorem dL_law_195 : decode cL_law 195 = .ok (.invokevirtual 21, 3) := by decide +kernel
theorem dL_law_198 : decode cL_law 198 = .ok (.pop, 1) := by decide +kernel
theorem dL_law_199 : decode cL_law 199 = .ok (.goto 498, 3) := by decide +kernel
theorem dL_law_202 : decode cL_law 202 = .ok (.aload_n 1, 1) := by decide +kernel
theorem dL_law_203 : decode cL_law 203 = .ok (.invokevirtual 22, 3) := by decide +kernel
theorem dL_law_206 : decode cL_law 206 = .ok (.pop, 1) := by decide +kernel
theorem dL_law_207 : decode cL_law 207 = .ok (.aload_n 2, 1) := by decide +kernel
theorem dL_law_208 : decode cL_law 208 = .ok (.invokevirtual 26, 3) := by decide +kernel
theorem dL_law_211 : decode cL_law 211 = .ok (.pop, 1) := by decide +kernel
theorem dL_law_212 : decode cL_law 212 = .ok (.goto 485, 3) := by decide +kernel
theorem dL_law_215 : decode cL_law 215 = .ok (.aload_n 1, 1) := by decide +kernel
theorem dL_law_216 : decode cL_law 216 = .ok (.aload_n 0, 1) := by decide +kernel
theorem dL_law_217 : decode cL_law 217 = .ok (.iload_n 3, 1) := by decide +kernel
theorem dL_law_218 : decode cL_law 218 = .ok (.iconst 1, 1) := by decide +kernel
theorem dL_law_219 : decode cL_law 219 = .ok (.iadd, 1) := by decide +kernel
theorem dL_law_220 : decode cL_law 220 = .ok (.iaload, 1) := by decide +kernel
theorem dL_law_221 : decode cL_law 221 = .ok (.aload_n 0, 1) := by decide +kernel
theorem dL_law_222 : decode cL_law 222 = .ok (.iload_n 3, 1) := by decide +kernel
theorem dL_law_223 : decode cL_law 223 = .ok (.iconst 2, 1) := by decide +kernel
theorem dL_law_224 : decode cL_law 224 = .ok (.iadd, 1) := by decide +kernel
theorem dL_law_225 : decode cL_law 225 = .ok (.iaload, 1) := by decide +kernel
theorem dL_law_226 : decode cL_law 226 = .ok (.invokevirtual 27, 3) := by decide +kernel
theorem dL_law_229 : decode cL_law 229 = .ok (.pop, 1) := by decide +kernel
theorem dL_law_230 : decode cL_law 230 = .ok (.aload_n 2, 1) := by decide +kernel
theorem dL_law_231 : decode cL_law 231 = .ok (.aload_n 0, 1) := by decide +kernel
theorem dL_law_232 : decode cL_law 232 = .ok (.iload_n 3, 1) := by decide +kernel
theorem dL_law_233 : decode cL_law 233 = .ok (.iconst 1, 1) := by decide +kernel
theorem dL_law_234 : decode cL_law 234 = .ok (.iadd, 1) := by decide +kernel
theorem dL_law_235 : decode cL_law 235 = .ok (.iaload, 1) := by decide +kernel
theorem dL_law_236 : decode cL_law 236 = .ok (.aload_n 0, 1) := by decide +kernel
theorem dL_law_237 : decode cL_law 237 = .ok (.iload_n 3, 1) := by decide +kernel
theorem dL_law_238 : decode cL_law 238 = .ok (.iconst 2, 1) := by decide +kernel
theorem dL_law_239 : decode cL_law 239 = .ok (.iadd, 1) := by decide +kernel
theorem dL_law_240 : decode cL_law 240 = .ok (.iaload, 1) := by decide +kernel
theorem dL_law_241 : decode cL_law 241 = .ok (.invokevirtual 31, 3) := by decide +kernel
theorem dL_law_244 : decode cL_law 244 = .ok (.pop, 1) := by decide +kernel
theorem dL_law_245 : decode cL_law 245 = .ok (.goto 452, 3) := by decide +kernel
theorem dL_law_248 : decode cL_law 248 = .ok (.aload_n 1, 1) := by decide +kernel
theorem dL_law_249 : decode cL_law 249 = .ok (.invokevirtual 32, 3) := by decide +kernel
theorem dL_law_252 : decode cL_law 252 = .ok (.pop, 1) := by decide +kernel
theorem dL_law_253 : decode cL_law 253 = .ok (.aload_n 2, 1) := by decide +kernel
theorem dL_law_254 : decode cL_law 254 = .ok (.invokevirtual 35, 3) := by decide +kernel
theorem dL_law_257 : decode cL_law 257 = .ok (.pop, 1) := by decide +kernel
theorem dL_law_258 : decode cL_law 258 = .ok (.goto 439, 3) := by decide +kernel
theorem dL_law_261 : decode cL_law 261 = .ok (.aload_n 1, 1) := by decide +kernel
theorem dL_law_262 : decode cL_law 262 = .ok (.aload_n 0, 1) := by decide +kernel
theorem dL_law_263 : decode cL_law 263 = .ok (.iload_n 3, 1) := by decide +kernel
theorem dL_law_264 : decode cL_law 264 = .ok (.iconst 1, 1) := by decide +kernel
theorem dL_law_265 : decode cL_law 265 = .ok (.iadd, 1) := by decide +kernel
theorem dL_law_266 : decode cL_law 266 = .ok (.iaload, 1) := by decide +kernel
theorem dL_law_267 : decode cL_law 267 = .ok (.invokevirtual 36, 3) := by decide +kernel
theorem dL_law_270 : decode cL_law 270 = .ok (.pop, 1) := by decide +kernel
theorem dL_law_271 : decode cL_law 271 = .ok (.aload_n 2, 1) := by decide +kernel
theorem dL_law_272 : decode cL_law 272 = .ok (.aload_n 0, 1) := by decide +kernel
theorem dL_law_273 : decode cL_law 273 = .ok (.iload_n 3, 1) := by decide +kernel
theorem dL_law_274 : decode cL_law 274 = .ok (.iconst 1, 1) := by decide +kernel
theorem dL_law_275 : decode cL_law 275 = .ok (.iadd, 1) := by decide +kernel
theorem dL_law_276 : decode cL_law 276 = .ok (.iaload, 1) := by decide +kernel
theorem dL_law_277 : decode cL_law 277 = .ok (.invokevirtual 39, 3) := by decide +kernel
theorem dL_law_280 : decode cL_law 280 = .ok (.pop, 1) := by decide +kernel
theorem dL_law_281 : decode cL_law 281 = .ok (.goto 416, 3) := by decide +kernel
theorem dL_law_284 : decode cL_law 284 = .ok (.aload_n 1, 1) := by decide +kernel
theorem dL_law_285 : decode cL_law 285 = .ok (.aload_n 0, 1) := by decide +kernel
theorem dL_law_286 : decode cL_law 286 = .ok (.iload_n 3, 1) := by decide +kernel
theorem dL_law_287 : decode cL_law 287 = .ok (.iconst 1, 1) := by decide +kernel
theorem dL_law_288 : decode cL_law 288 = .ok (.iadd, 1) := by decide +kernel
theorem dL_law_289 : decode cL_law 289 = .ok (.iaload, 1) := by decide +kernel
theorem dL_law_290 : decode cL_law 290 = .ok (.invokevirtual 40, 3) := by decide +kernel
theorem dL_law_293 : decode cL_law 293 = .ok (.pop, 1) := by decide +kernel
theorem dL_law_294 : decode cL_law 294 = .ok (.aload_n 2, 1) := by decide +kernel
theorem dL_law_295 : decode cL_law 295 = .ok (.aload_n 0, 1) := by decide +kernel
theorem dL_law_296 : decode cL_law 296 = .ok (.iload_n 3, 1) := by decide +kernel
theorem dL_law_297 : decode cL_law 297 = .ok (.iconst 1, 1) := by decide +kernel
theorem dL_law_298 : decode cL_law 298 = .ok (.iadd, 1) := by decide +kernel
theorem dL_law_299 : decode cL_law 299 = .ok (.iaload, 1) := by decide +kernel
theorem dL_law_300 : decode cL_law 300 = .ok (.invokevirtual 43, 3) := by decide +kernel
theorem dL_law_303 : decode cL_law 303 = .ok (.pop, 1) := by decide +kernel
theorem dL_law_304 : decode cL_law 304 = .ok (.goto 393, 3) := by decide +kernel
theorem dL_law_307 : decode cL_law 307 = .ok (.aload_n 1, 1) := by decide +kernel
theorem dL_law_308 : decode cL_law 308 = .ok (.aload_n 0, 1) := by decide +kernel
theorem dL_law_309 : decode cL_law 309 = .ok (.iload_n 3, 1) := by decide +kernel
theorem dL_law_310 : decode cL_law 310 = .ok (.iconst 1, 1) := by decide +kernel
theorem dL_law_311 : decode cL_law 311 = .ok (.iadd, 1) := by decide +kernel
theorem dL_law_312 : decode cL_law 312 = .ok (.iaload, 1) := by decide +kernel
theorem dL_law_313 : decode cL_law 313 = .ok (.invokevirtual 44, 3) := by decide +kernel
theorem dL_law_316 : decode cL_law 316 = .ok (.pop, 1) := by decide +kernel
theorem dL_law_317 : decode cL_law 317 = .ok (.aload_n 2, 1) := by decide +kernel
theorem dL_law_318 : decode cL_law 318 = .ok (.aload_n 0, 1) := by decide +kernel
theorem dL_law_319 : decode cL_law 319 = .ok (.iload_n 3, 1) := by decide +kernel
theorem dL_law_320 : decode cL_law 320 = .ok (.iconst 1, 1) := by decide +kernel
theorem dL_law_321 : decode cL_law 321 = .ok (.iadd, 1) := by decide +kernel
theorem dL_law_322 : decode cL_law 322 = .ok (.iaload, 1) := by decide +kernel
theorem dL_law_323 : decode cL_law 323 = .ok (.invokevirtual 47, 3) := by decide +kernel
theorem dL_law_326 : decode cL_law 326 = .ok (.pop, 1) := by decide +kernel
theorem dL_law_327 : decode cL_law 327 = .ok (.goto 370, 3) := by decide +kernel
theorem dL_law_330 : decode cL_law 330 = .ok (.aload_n 1, 1) := by decide +kernel
theorem dL_law_331 : decode cL_law 331 = .ok (.invokevirtual 48, 3) := by decide +kernel
theorem dL_law_334 : decode cL_law 334 = .ok (.pop, 1) := by decide +kernel
theorem dL_law_335 : decode cL_law 335 = .ok (.aload_n 2, 1) := by decide +kernel
theorem dL_law_336 : decode cL_law 336 = .ok (.invokevirtual 51, 3) := by decide +kernel
theorem dL_law_339 : decode cL_law 339 = .ok (.pop, 1) := by decide +kernel
theorem dL_law_340 : decode cL_law 340 = .ok (.goto 357, 3) := by decide +kernel
theorem dL_law_343 : decode cL_law 343 = .ok (.aload_n 1, 1) := by decide +kernel
theorem dL_law_344 : decode cL_law 344 = .ok (.invokevirtual 52, 3) := by decide +kernel
theorem dL_law_347 : decode cL_law 347 = .ok (.pop, 1) := by decide +kernel
theorem dL_law_348 : decode cL_law 348 = .ok (.aload_n 2, 1) := by decide +kernel
theorem dL_law_349 : decode cL_law 349 = .ok (.invokevirtual 55, 3) := by decide +kernel
theorem dL_law_352 : decode cL_law 352 = .ok (.pop, 1) := by decide +kernel
theorem dL_law_353 : decode cL_law 353 = .ok (.goto 344, 3) := by decide +kernel
theorem dL_law_356 : decode cL_law 356 = .ok (.aload_n 1, 1) := by decide +kernel
theorem dL_law_357 : decode cL_law 357 = .ok (.invokevirtual 56, 3) := by decide +kernel
theorem dL_law_360 : decode cL_law 360 = .ok (.pop, 1) := by decide +kernel
theorem dL_law_361 : decode cL_law 361 = .ok (.aload_n 2, 1) := by decide +kernel
theorem dL_law_362 : decode cL_law 362 = .ok (.invokevirtual 59, 3) := by decide +kernel
theorem dL_law_365 : decode cL_law 365 = .ok (.pop, 1) := by decide +kernel
theorem dL_law_366 : decode cL_law 366 = .ok (.goto 331, 3) := by decide +kernel
theorem dL_law_369 : decode cL_law 369 = .ok (.aload_n 1, 1) := by decide +kernel
theorem dL_law_370 : decode cL_law 370 = .ok (.invokevirtual 60, 3) := by decide +kernel
theorem dL_law_373 : decode cL_law 373 = .ok (.pop, 1) := by decide +kernel
theorem dL_law_374 : decode cL_law 374 = .ok (.aload_n 2, 1) := by decide +kernel
theorem dL_law_375 : decode cL_law 375 = .ok (.invokevirtual 63, 3) := by decide +kernel
theorem dL_law_378 : decode cL_law 378 = .ok (.pop, 1) := by decide +kernel
theorem dL_law_379 : decode cL_law 379 = .ok (.goto 318, 3) := by decide +kernel
theorem dL_law_382 : decode cL_law 382 = .ok (.aload_n 1, 1) := by decide +kernel
theorem dL_law_383 : decode cL_law 383 = .ok (.invokevirtual 64, 3) := by decide +kernel
theorem dL_law_386 : decode cL_law 386 = .ok (.pop, 1) := by decide +kernel
theorem dL_law_387 : decode cL_law 387 = .ok (.aload_n 2, 1) := by decide +kernel
theorem dL_law_388 : decode cL_law 388 = .ok (.invokevirtual 67, 3) := by decide +kernel
theorem dL_law_391 : decode cL_law 391 = .ok (.pop, 1) := by decide +kernel
theorem dL_law_392 : decode cL_law 392 = .ok (.goto 305, 3) := by decide +kernel
theorem dL_law_395 : decode cL_law 395 = .ok (.aload_n 1, 1) := by decide +kernel
theorem dL_law_396 : decode cL_law 396 = .ok (.aload_n 0, 1) := by decide +kernel
theorem dL_law_397 : decode cL_law 397 = .ok (.iload_n 3, 1) := by decide +kernel
theorem dL_law_398 : decode cL_law 398 = .ok (.iconst 1, 1) := by decide +kernel
theorem dL_law_399 : decode cL_law 399 = .ok (.iadd, 1) := by decide +kernel
theorem dL_law_400 : decode cL_law 400 = .ok (.iaload, 1) := by decide +kernel
theorem dL_law_401 : decode cL_law 401 = .ok (.invokevirtual 68, 3) := by decide +kernel
theorem dL_law_404 : decode cL_law 404 = .ok (.pop, 1) := by decide +kernel
theorem dL_law_405 : decode cL_law 405 = .ok (.aload_n 2, 1) := by decide +kernel
theorem dL_law_406 : decode cL_law 406 = .ok (.aload_n 0, 1) := by decide +kernel
theorem dL_law_407 : decode cL_law 407 = .ok (.iload_n 3, 1) := by decide +kernel
theorem dL_law_408 : decode cL_law 408 = .ok (.iconst 1, 1) := by decide +kernel
theorem dL_law_409 : decode cL_law 409 = .ok (.iadd, 1) := by decide +kernel
theorem dL_law_410 : decode cL_law 410 = .ok (.iaload, 1) := by decide +kernel
theorem dL_law_411 : decode cL_law 411 = .ok (.invokevirtual 71, 3) := by decide +kernel
theorem dL_law_414 : decode cL_law 414 = .ok (.pop, 1) := by decide +kernel
theorem dL_law_415 : decode cL_law 415 = .ok (.goto 282, 3) := by decide +kernel
theorem dL_law_418 : decode cL_law 418 = .ok (.aload_n 1, 1) := by decide +kernel
theorem dL_law_419 : decode cL_law 419 = .ok (.aload_n 0, 1) := by decide +kernel
theorem dL_law_420 : decode cL_law 420 = .ok (.iload_n 3, 1) := by decide +kernel
theorem dL_law_421 : decode cL_law 421 = .ok (.iconst 1, 1) := by decide +kernel
theorem dL_law_422 : decode cL_law 422 = .ok (.iadd, 1) := by decide +kernel
theorem dL_law_423 : decode cL_law 423 = .ok (.iaload, 1) := by decide +kernel
theorem dL_law_424 : decode cL_law 424 = .ok (.invokevirtual 72, 3) := by decide +kernel
theorem dL_law_427 : decode cL_law 427 = .ok (.pop, 1) := by decide +kernel
theorem dL_law_428 : decode cL_law 428 = .ok (.aload_n 2, 1) := by decide +kernel
theorem dL_law_429 : decode cL_law 429 = .ok (.aload_n 0, 1) := by decide +kernel
theorem dL_law_430 : decode cL_law 430 = .ok (.iload_n 3, 1) := by decide +kernel
theorem dL_law_431 : decode cL_law 431 = .ok (.iconst 1, 1) := by decide +kernel
theorem dL_law_432 : decode cL_law 432 = .ok (.iadd, 1) := by decide +kernel
theorem dL_law_433 : decode cL_law 433 = .ok (.iaload, 1) := by decide +kernel
theorem dL_law_434 : decode cL_law 434 = .ok (.invokevirtual 75, 3) := by decide +kernel
theorem dL_law_437 : decode cL_law 437 = .ok (.pop, 1) := by decide +kernel
theorem dL_law_438 : decode cL_law 438 = .ok (.goto 259, 3) := by decide +kernel
theorem dL_law_441 : decode cL_law 441 = .ok (.aload_n 1, 1) := by decide +kernel
theorem dL_law_442 : decode cL_law 442 = .ok (.aload_n 0, 1) := by decide +kernel
theorem dL_law_443 : decode cL_law 443 = .ok (.iload_n 3, 1) := by decide +kernel
theorem dL_law_444 : decode cL_law 444 = .ok (.iconst 1, 1) := by decide +kernel
theorem dL_law_445 : decode cL_law 445 = .ok (.iadd, 1) := by decide +kernel
theorem dL_law_446 : decode cL_law 446 = .ok (.iaload, 1) := by decide +kernel
theorem dL_law_447 : decode cL_law 447 = .ok (.invokevirtual 76, 3) := by decide +kernel
theorem dL_law_450 : decode cL_law 450 = .ok (.pop, 1) := by decide +kernel
theorem dL_law_451 : decode cL_law 451 = .ok (.aload_n 2, 1) := by decide +kernel
theorem dL_law_452 : decode cL_law 452 = .ok (.aload_n 0, 1) := by decide +kernel
theorem dL_law_453 : decode cL_law 453 = .ok (.iload_n 3, 1) := by decide +kernel
theorem dL_law_454 : decode cL_law 454 = .ok (.iconst 1, 1) := by decide +kernel
theorem dL_law_455 : decode cL_law 455 = .ok (.iadd, 1) := by decide +kernel
theorem dL_law_456 : decode cL_law 456 = .ok (.iaload, 1) := by decide +kernel
theorem dL_law_457 : decode cL_law 457 = .ok (.invokevirtual 79, 3) := by decide +kernel
theorem dL_law_460 : decode cL_law 460 = .ok (.pop, 1) := by decide +kernel
theorem dL_law_461 : decode cL_law 461 = .ok (.goto 236, 3) := by decide +kernel
theorem dL_law_464 : decode cL_law 464 = .ok (.aload_n 1, 1) := by decide +kernel
theorem dL_law_465 : decode cL_law 465 = .ok (.aload_n 0, 1) := by decide +kernel
theorem dL_law_466 : decode cL_law 466 = .ok (.iload_n 3, 1) := by decide +kernel
theorem dL_law_467 : decode cL_law 467 = .ok (.iconst 1, 1) := by decide +kernel
theorem dL_law_468 : decode cL_law 468 = .ok (.iadd, 1) := by decide +kernel
theorem dL_law_469 : decode cL_law 469 = .ok (.iaload, 1) := by decide +kernel
theorem dL_law_470 : decode cL_law 470 = .ok (.invokevirtual 80, 3) := by decide +kernel
theorem dL_law_473 : decode cL_law 473 = .ok (.pop, 1) := by decide +kernel
theorem dL_law_474 : decode cL_law 474 = .ok (.aload_n 2, 1) := by decide +kernel
theorem dL_law_475 : decode cL_law 475 = .ok (.aload_n 0, 1) := by decide +kernel
theorem dL_law_476 : decode cL_law 476 = .ok (.iload_n 3, 1) := by decide +kernel
theorem dL_law_477 : decode cL_law 477 = .ok (.iconst 1, 1) := by decide +kernel
theorem dL_law_478 : decode cL_law 478 = .ok (.iadd, 1) := by decide +kernel
theorem dL_law_479 : decode cL_law 479 = .ok (.iaload, 1) := by decide +kernel
theorem dL_law_480 : decode cL_law 480 = .ok (.invokevirtual 83, 3) := by decide +kernel
theorem dL_law_483 : decode cL_law 483 = .ok (.pop, 1) := by decide +kernel
theorem dL_law_484 : decode cL_law 484 = .ok (.goto 213, 3) := by decide +kernel
theorem dL_law_487 : decode cL_law 487 = .ok (.aload_n 1, 1) := by decide +kernel
theorem dL_law_488 : decode cL_law 488 = .ok (.invokevirtual 84, 3) := by decide +kernel
theorem dL_law_491 : decode cL_law 491 = .ok (.pop, 1) := by decide +kernel
theorem dL_law_492 : decode cL_law 492 = .ok (.aload_n 2, 1) := by decide +kernel
theorem dL_law_493 : decode cL_law 493 = .ok (.invokevirtual 87, 3) := by decide +kernel
theorem dL_law_496 : decode cL_law 496 = .ok (.pop, 1) := by decide +kernel
theorem dL_law_497 : decode cL_law 497 = .ok (.goto 200, 3) := by decide +kernel
theorem dL_law_500 : decode cL_law 500 = .ok (.aload_n 1, 1) := by decide +kernel
theorem dL_law_501 : decode cL_law 501 = .ok (.invokevirtual 88, 3) := by decide +kernel
theorem dL_law_504 : decode cL_law 504 = .ok (.pop, 1) := by decide +kernel
theorem dL_law_505 : decode cL_law 505 = .ok (.aload_n 2, 1) := by decide +kernel
theorem dL_law_506 : decode cL_law 506 = .ok (.invokevirtual 91, 3) := by decide +kernel
theorem dL_law_509 : decode cL_law 509 = .ok (.pop, 1) := by decide +kernel
theorem dL_law_510 : decode cL_law 510 = .ok (.goto 187, 3) := by decide +kernel
theorem dL_law_513 : decode cL_law 513 = .ok (.aload_n 1, 1) := by decide +kernel
theorem dL_law_514 : decode cL_law 514 = .ok (.invokevirtual 92, 3) := by decide +kernel
theorem dL_law_517 : decode cL_law 517 = .ok (.pop, 1) := by decide +kernel
theorem dL_law_518 : decode cL_law 518 = .ok (.aload_n 2, 1) := by decide +kernel
theorem dL_law_519 : decode cL_law 519 = .ok (.invokevirtual 95, 3) := by decide +kernel
theorem dL_law_522 : decode cL_law 522 = .ok (.pop, 1) := by decide +kernel
theorem dL_law_523 : decode cL_law 523 = .ok (.goto 174, 3) := by decide +kernel
theorem dL_law_526 : decode cL_law 526 = .ok (.aload_n 1, 1) := by decide +kernel
theorem dL_law_527 : decode cL_law 527 = .ok (.aload_n 0, 1) := by decide +kernel
theorem dL_law_528 : decode cL_law 528 = .ok (.iload_n 3, 1) := by decide +kernel
theorem dL_law_529 : decode cL_law 529 = .ok (.iconst 1, 1) := by decide +kernel
theorem dL_law_530 : decode cL_law 530 = .ok (.iadd, 1) := by decide +kernel
theorem dL_law_531 : decode cL_law 531 = .ok (.iaload, 1) := by decide +kernel
theorem dL_law_532 : decode cL_law 532 = .ok (.aload_n 0, 1) := by decide +kernel
theorem dL_law_533 : decode cL_law 533 = .ok (.iload_n 3, 1) := by decide +kernel
theorem dL_law_534 : decode cL_law 534 = .ok (.iconst 2, 1) := by decide +kernel
theorem dL_law_535 : decode cL_law 535 = .ok (.iadd, 1) := by decide +kernel
theorem dL_law_536 : decode cL_law 536 = .ok (.iaload, 1) := by decide +kernel
theorem dL_law_537 : decode cL_law 537 = .ok (.invokevirtual 96, 3) := by decide +kernel
theorem dL_law_540 : decode cL_law 540 = .ok (.pop, 1) := by decide +kernel
theorem dL_law_541 : decode cL_law 541 = .ok (.aload_n 2, 1) := by decide +kernel
theorem dL_law_542 : decode cL_law 542 = .ok (.aload_n 0, 1) := by decide +kernel
theorem dL_law_543 : decode cL_law 543 = .ok (.iload_n 3, 1) := by decide +kernel
theorem dL_law_544 : decode cL_law 544 = .ok (.iconst 1, 1) := by decide +kernel
theorem dL_law_545 : decode cL_law 545 = .ok (.iadd, 1) := by decide +kernel
theorem dL_law_546 : decode cL_law 546 = .ok (.iaload, 1) := by decide +kernel
theorem dL_law_547 : decode cL_law 547 = .ok (.aload_n 0, 1) := by decide +kernel
theorem dL_law_548 : decode cL_law 548 = .ok (.iload_n 3, 1) := by decide +kernel
theorem dL_law_549 : decode cL_law 549 = .ok (.iconst 2, 1) := by decide +kernel
theorem dL_law_550 : decode cL_law 550 = .ok (.iadd, 1) := by decide +kernel
theorem dL_law_551 : decode cL_law 551 = .ok (.iaload, 1) := by decide +kernel
theorem dL_law_552 : decode cL_law 552 = .ok (.invokevirtual 99, 3) := by decide +kernel
theorem dL_law_555 : decode cL_law 555 = .ok (.pop, 1) := by decide +kernel
theorem dL_law_556 : decode cL_law 556 = .ok (.goto 141, 3) := by decide +kernel
theorem dL_law_559 : decode cL_law 559 = .ok (.aload_n 1, 1) := by decide +kernel
theorem dL_law_560 : decode cL_law 560 = .ok (.aload_n 0, 1) := by decide +kernel
theorem dL_law_561 : decode cL_law 561 = .ok (.iload_n 3, 1) := by decide +kernel
theorem dL_law_562 : decode cL_law 562 = .ok (.iconst 1, 1) := by decide +kernel
theorem dL_law_563 : decode cL_law 563 = .ok (.iadd, 1) := by decide +kernel
theorem dL_law_564 : decode cL_law 564 = .ok (.iaload, 1) := by decide +kernel
theorem dL_law_565 : decode cL_law 565 = .ok (.aload_n 0, 1) := by decide +kernel
theorem dL_law_566 : decode cL_law 566 = .ok (.iload_n 3, 1) := by decide +kernel
theorem dL_law_567 : decode cL_law 567 = .ok (.iconst 2, 1) := by decide +kernel
theorem dL_law_568 : decode cL_law 568 = .ok (.iadd, 1) := by decide +kernel
theorem dL_law_569 : decode cL_law 569 = .ok (.iaload, 1) := by decide +kernel
theorem dL_law_570 : decode cL_law 570 = .ok (.invokevirtual 100, 3) := by decide +kernel
theorem dL_law_573 : decode cL_law 573 = .ok (.pop, 1) := by decide +kernel
theorem dL_law_574 : decode cL_law 574 = .ok (.aload_n 2, 1) := by decide +kernel
theorem dL_law_575 : decode cL_law 575 = .ok (.aload_n 0, 1) := by decide +kernel
theorem dL_law_576 : decode cL_law 576 = .ok (.iload_n 3, 1) := by decide +kernel
theorem dL_law_577 : decode cL_law 577 = .ok (.iconst 1, 1) := by decide +kernel
theorem dL_law_578 : decode cL_law 578 = .ok (.iadd, 1) := by decide +kernel
theorem dL_law_579 : decode cL_law 579 = .ok (.iaload, 1) := by decide +kernel
theorem dL_law_580 : decode cL_law 580 = .ok (.aload_n 0, 1) := by decide +kernel
theorem dL_law_581 : decode cL_law 581 = .ok (.iload_n 3, 1) := by decide +kernel
theorem dL_law_582 : decode cL_law 582 = .ok (.iconst 2, 1) := by decide +kernel
theorem dL_law_583 : decode cL_law 583 = .ok (.iadd, 1) := by decide +kernel
theorem dL_law_584 : decode cL_law 584 = .ok (.iaload, 1) := by decide +kernel
theorem dL_law_585 : decode cL_law 585 = .ok (.invokevirtual 103, 3) := by decide +kernel
theorem dL_law_588 : decode cL_law 588 = .ok (.pop, 1) := by decide +kernel
theorem dL_law_589 : decode cL_law 589 = .ok (.goto 108, 3) := by decide +kernel
theorem dL_law_592 : decode cL_law 592 = .ok (.aload_n 1, 1) := by decide +kernel
theorem dL_law_593 : decode cL_law 593 = .ok (.aload_n 0, 1) := by decide +kernel
theorem dL_law_594 : decode cL_law 594 = .ok (.iload_n 3, 1) := by decide +kernel
theorem dL_law_595 : decode cL_law 595 = .ok (.iconst 1, 1) := by decide +kernel
theorem dL_law_596 : decode cL_law 596 = .ok (.iadd, 1) := by decide +kernel
theorem dL_law_597 : decode cL_law 597 = .ok (.iaload, 1) := by decide +kernel
theorem dL_law_598 : decode cL_law 598 = .ok (.invokevirtual 104, 3) := by decide +kernel
theorem dL_law_601 : decode cL_law 601 = .ok (.pop2, 1) := by decide +kernel
theorem dL_law_602 : decode cL_law 602 = .ok (.aload_n 2, 1) := by decide +kernel
theorem dL_law_603 : decode cL_law 603 = .ok (.aload_n 0, 1) := by decide +kernel
theorem dL_law_604 : decode cL_law 604 = .ok (.iload_n 3, 1) := by decide +kernel
theorem dL_law_605 : decode cL_law 605 = .ok (.iconst 1, 1) := by decide +kernel
theorem dL_law_606 : decode cL_law 606 = .ok (.iadd, 1) := by decide +kernel
theorem dL_law_607 : decode cL_law 607 = .ok (.iaload, 1) := by decide +kernel
theorem dL_law_608 : decode cL_law 608 = .ok (.invokevirtual 108, 3) := by decide +kernel
theorem dL_law_611 : decode cL_law 611 = .ok (.pop2, 1) := by decide +kernel
theorem dL_law_612 : decode cL_law 612 = .ok (.goto 85, 3) := by decide +kernel
theorem dL_law_615 : decode cL_law 615 = .ok (.aload_n 1, 1) := by decide +kernel
theorem dL_law_616 : decode cL_law 616 = .ok (.aload_n 0, 1) := by decide +kernel
theorem dL_law_617 : decode cL_law 617 = .ok (.iload_n 3, 1) := by decide +kernel
theorem dL_law_618 : decode cL_law 618 = .ok (.iconst 1, 1) := by decide +kernel
theorem dL_law_619 : decode cL_law 619 = .ok (.iadd, 1) := by decide +kernel
theorem dL_law_620 : decode cL_law 620 = .ok (.iaload, 1) := by decide +kernel
theorem dL_law_621 : decode cL_law 621 = .ok (.invokevirtual 109, 3) := by decide +kernel
theorem dL_law_624 : decode cL_law 624 = .ok (.pop, 1) := by decide +kernel
theorem dL_law_625 : decode cL_law 625 = .ok (.aload_n 2, 1) := by decide +kernel
theorem dL_law_626 : decode cL_law 626 = .ok (.aload_n 0, 1) := by decide +kernel
theorem dL_law_627 : decode cL_law 627 = .ok (.iload_n 3, 1) := by decide +kernel
theorem dL_law_628 : decode cL_law 628 = .ok (.iconst 1, 1) := by decide +kernel
theorem dL_law_629 : decode cL_law 629 = .ok (.iadd, 1) := by decide +kernel
theorem dL_law_630 : decode cL_law 630 = .ok (.iaload, 1) := by decide +kernel
theorem dL_law_631 : decode cL_law 631 = .ok (.invokevirtual 112, 3) := by decide +kernel
theorem dL_law_634 : decode cL_law 634 = .ok (.pop, 1) := by decide +kernel
theorem dL_law_635 : decode cL_law 635 = .ok (.goto 62, 3) := by decide +kernel
theorem dL_law_638 : decode cL_law 638 = .ok (.aload_n 1, 1) := by decide +kernel
theorem dL_law_639 : decode cL_law 639 = .ok (.aload_n 0, 1) := by decide +kernel
theorem dL_law_640 : decode cL_law 640 = .ok (.iload_n 3, 1) := by decide +kernel
theorem dL_law_641 : decode cL_law 641 = .ok (.iconst 1, 1) := by decide +kernel
theorem dL_law_642 : decode cL_law 642 = .ok (.iadd, 1) := by decide +kernel
theorem dL_law_643 : decode cL_law 643 = .ok (.iaload, 1) := by decide +kernel
theorem dL_law_644 : decode cL_law 644 = .ok (.invokevirtual 113, 3) := by decide +kernel
theorem dL_law_647 : decode cL_law 647 = .ok (.pop, 1) := by decide +kernel
theorem dL_law_648 : decode cL_law 648 = .ok (.aload_n 2, 1) := by decide +kernel
theorem dL_law_649 : decode cL_law 649 = .ok (.aload_n 0, 1) := by decide +kernel
theorem dL_law_650 : decode cL_law 650 = .ok (.iload_n 3, 1) := by decide +kernel
theorem dL_law_651 : decode cL_law 651 = .ok (.iconst 1, 1) := by decide +kernel
theorem dL_law_652 : decode cL_law 652 = .ok (.iadd, 1) := by decide +kernel
theorem dL_law_653 : decode cL_law 653 = .ok (.iaload, 1) := by decide +kernel
theorem dL_law_654 : decode cL_law 654 = .ok (.invokevirtual 116, 3) := by decide +kernel
theorem dL_law_657 : decode cL_law 657 = .ok (.pop, 1) := by decide +kernel
theorem dL_law_658 : decode cL_law 658 = .ok (.goto 39, 3) := by decide +kernel
theorem dL_law_661 : decode cL_law 661 = .ok (.aload_n 1, 1) := by decide +kernel
theorem dL_law_662 : decode cL_law 662 = .ok (.aload_n 0, 1) := by decide +kernel
theorem dL_law_663 : decode cL_law 663 = .ok (.iload_n 3, 1) := by decide +kernel
theorem dL_law_664 : decode cL_law 664 = .ok (.iconst 1, 1) := by decide +kernel
theorem dL_law_665 : decode cL_law 665 = .ok (.iadd, 1) := by decide +kernel
theorem dL_law_666 : decode cL_law 666 = .ok (.iaload, 1) := by decide +kernel
theorem dL_law_667 : decode cL_law 667 = .ok (.invokevirtual 117, 3) := by decide +kernel
theorem dL_law_670 : decode cL_law 670 = .ok (.aload_n 2, 1) := by decide +kernel
theorem dL_law_671 : decode cL_law 671 = .ok (.aload_n 0, 1) := by decide +kernel
theorem dL_law_672 : decode cL_law 672 = .ok (.iload_n 3, 1) := by decide +kernel
theorem dL_law_673 : decode cL_law 673 = .ok (.iconst 1, 1) := by decide +kernel
theorem dL_law_674 : decode cL_law 674 = .ok (.iadd, 1) := by decide +kernel
theorem dL_law_675 : decode cL_law 675 = .ok (.iaload, 1) := by decide +kernel
theorem dL_law_676 : decode cL_law 676 = .ok (.invokevirtual 120, 3) := by decide +kernel
theorem dL_law_679 : decode cL_law 679 = .ok (.if_icmp .eq 18, 3) := by decide +kernel
theorem dL_law_682 : decode cL_law 682 = .ok (.iconst 0, 1) := by decide +kernel
theorem dL_law_683 : decode cL_law 683 = .ok (.ireturn, 1) := by decide +kernel
theorem dL_law_684 : decode cL_law 684 = .ok (.aload_n 1, 1) := by decide +kernel
theorem dL_law_685 : decode cL_law 685 = .ok (.invokevirtual 121, 3) := by decide +kernel
theorem dL_law_688 : decode cL_law 688 = .ok (.pop2, 1) := by decide +kernel
theorem dL_law_689 : decode cL_law 689 = .ok (.aload_n 2, 1) := by decide +kernel
theorem dL_law_690 : decode cL_law 690 = .ok (.invokevirtual 125, 3) := by decide +kernel
theorem dL_law_693 : decode cL_law 693 = .ok (.pop2, 1) := by decide +kernel
theorem dL_law_694 : decode cL_law 694 = .ok (.goto 3, 3) := by decide +kernel
theorem dL_law_697 : decode cL_law 697 = .ok (.iinc 3 3, 3) := by decide +kernel
theorem dL_law_700 : decode cL_law 700 = .ok (.goto (-682), 3) := by decide +kernel
theorem dL_law_703 : decode cL_law 703 = .ok (.iconst 1, 1) := by decide +kernel
theorem dL_law_704 : decode cL_law 704 = .ok (.ireturn, 1) := by decide +kernel
