noncomputable def pX7_lay_L61_6 (r_len : Nat) (r_size : Int32) (r_rows : Nat → Int32) (s23 : Int32 × (Nat → Int32) × (Nat → Nat → Int64)) (s61 : Int32 × (Nat → Nat → Int64)) : Option ((Int32 × (Nat → Nat → Int64)) ⊕ (Nat → Nat → Int64)) :=
  if r_size ≤ s61.1 then (some (Sum.inr s61.2)) else (gd (vp_in s23.1 11) (gd (vp_in s61.1 r_len) (Option.bind (pX9_has (r_rows s61.1.toNatClampNeg) s23.1) (fun r10 => if r10 = 0 then (gd (vp_in s61.1 17) (some (Sum.inl (s61.1 + 1, gU s61.2 s23.1.toNatClampNeg (vp_updL (s61.2 s23.1.toNatClampNeg) s61.1.toNatClampNeg 0))))) else (gd (vp_in s61.1 17) (some (Sum.inl (s61.1 + 1, gU s61.2 s23.1.toNatClampNeg (vp_updL (s61.2 s23.1.toNatClampNeg) s61.1.toNatClampNeg 1)))))))))
noncomputable def pX7_lay_L23 (r_len : Nat) (x_costs : Nat → Int32) (r_size : Int32) (r_n : Int32) (r_rows : Nat → Int32) (s23 : Int32 × (Nat → Int32) × (Nat → Nat → Int64)) : Option ((Int32 × (Nat → Int32) × (Nat → Nat → Int64)) ⊕ ((Nat → Int32) × (Nat → Nat → Int64))) :=
  if r_n ≤ s23.1 then (some (Sum.inr (s23.2.1, s23.2.2))) else (gd (vp_in s23.1 10) (gd (vp_in s23.1 11) (gd (vp_in s23.1 10) (gd (vp_in r_size 17) (Option.bind (lp (pX7_lay_L61_6 r_len r_size r_rows s23) (0, gU s23.2.2 s23.1.toNatClampNeg (vp_updL (s23.2.2 s23.1.toNatClampNeg) r_size.toNatClampNeg ((x_costs s23.1.toNatClampNeg).toInt64)))) (fun e61 => some (Sum.inl (s23.1 + 1, upd s23.2.1 s23.1.toNatClampNeg (r_size + s23.1), e61))))))))
noncomputable def pX7_lay_L112 (r_size : Int32) (r_n : Int32) (s112 : Int32 × (Nat → Int32) × (Nat → Nat → Int64)) : Option ((Int32 × (Nat → Int32) × (Nat → Nat → Int64)) ⊕ ((Nat → Int32) × (Nat → Nat → Int64))) :=
  if r_size ≤ s112.1 then (some (Sum.inr (s112.2.1, s112.2.2))) else (gd (vp_in s112.1 16) (gd (vp_in r_n 11) (gd (vp_in s112.1 17) (some (Sum.inl (s112.1 + 1, upd s112.2.1 s112.1.toNatClampNeg s112.1, gU s112.2.2 r_n.toNatClampNeg (vp_updL (s112.2.2 r_n.toNatClampNeg) s112.1.toNatClampNeg (-1))))))))
noncomputable def pX7_lay (r_len : Nat) (x_costs : Nat → Int32) (r_size : Int32) (r_n : Int32) (r_rows : Nat → Int32) (h_rows : Int32) (h_columns : Int32) (h_divisor : Int64) (h_rl : Nat → Int32) (h_cl : Nat → Int32) (h_g : Nat → Nat → Int64) : Option (Int32 × Int32 × Int64 × (Nat → Int32) × (Nat → Int32) × (Nat → Nat → Int64)) :=
  Option.bind (lp (pX7_lay_L23 r_len x_costs r_size r_n r_rows) (0, h_rl, h_g)) (fun e23 => Option.bind (lp (pX7_lay_L112 r_size r_n) (0, h_cl, e23.2)) (fun e112 => gd (vp_in r_n 11) (gd (vp_in r_size 17) (some (r_n, r_size, 1, e23.1, e112.1, gU e112.2 r_n.toNatClampNeg (vp_updL (e112.2 r_n.toNatClampNeg) r_size.toNatClampNeg 0))))))
set_option maxHeartbeats 4000000 in
set_option maxRecDepth 100000 in
theorem c_X7_lay (l : Launch) (dC : Nat → ClassId) (dI : Nat → Nat → Nat) (a_x_costs : Nat) (a_r : Nat) (a_r_rows : Nat) (a_r_ins : Nat) (a_h : Nat) (a_h_t : Nat) (a_h_rl : Nat) (a_h_cl : Nat) (a_h_g : Nat → Nat) (c_x_costs c_r_rows c_h_t c_h_rl c_h_cl c_h_g : ClassId) (r_len : Nat) (sz : Nat) (x_costs : Nat → Int32) (r_size : Int32) (r_n : Int32) (r_parts : Int32) (r_rows : Nat → Int32) (h_rows : Int32) (h_columns : Int32) (h_divisor : Int64) (h_rl : Nat → Int32) (h_cl : Nat → Int32) (h_g : Nat → Nat → Int64) (rv : Int32 × Int32 × Int64 × (Nat → Int32) × (Nat → Int32) × (Nat → Nat → Int64)) (hs : pX7_lay r_len x_costs r_size r_n r_rows h_rows h_columns h_divisor h_rl h_cl h_g = some rv) : Met l yX7_lay wsX7_lay ({ frames := 1, cells := 0, slots := 0, locals := 21 }) (sPc [.ref a_h, .ref a_r, .ref a_x_costs] (dC, dI) [(c_x_costs, .int), (c_r_rows, .int), (c_h_t, .array .long), (c_h_rl, .int), (c_h_cl, .int), (c_h_g, .long)] ([(a_x_costs, .inl (c_x_costs, 10, .inl x_costs)), (a_r, .inr (6, [.ref a_r_rows, .ref a_r_ins, .int r_size, .int r_n, .int r_parts])), (a_r_rows, .inl (c_r_rows, r_len, .inl r_rows)), (a_h, .inr (7, [.ref a_h_t, .ref a_h_rl, .ref a_h_cl, .int h_rows, .int h_columns, .long h_divisor])), (a_h_t, .inl (c_h_t, 11, .inr (.inr (.inr (.inr (fun i => if i < 11 then some (a_h_g i) else none)))))), (a_h_rl, .inl (c_h_rl, 10, .inl h_rl)), (a_h_cl, .inl (c_h_cl, 16, .inl h_cl))] ++ gR a_h_g c_h_g h_g) sz) (va_Qv (fun (_ : Unit) => True) (sB (dC, dI) [(c_x_costs, .int), (c_r_rows, .int), (c_h_t, .array .long), (c_h_rl, .int), (c_h_cl, .int), (c_h_g, .long)] (va_A ([(a_x_costs, .inl (c_x_costs, 10, .inl x_costs)), (a_r, .inr (6, [.ref a_r_rows, .ref a_r_ins, .int r_size, .int r_n, .int r_parts])), (a_r_rows, .inl (c_r_rows, r_len, .inl r_rows)), (a_h, .inr (7, [.ref a_h_t, .ref a_h_rl, .ref a_h_cl, .int h_rows, .int h_columns, .long h_divisor])), (a_h_t, .inl (c_h_t, 11, .inr (.inr (.inr (.inr (fun i => if i < 11 then some (a_h_g i) else none)))))), (a_h_rl, .inl (c_h_rl, 10, .inl h_rl)), (a_h_cl, .inl (c_h_cl, 16, .inl h_cl))] ++ gR a_h_g c_h_g h_g) sz) ([(a_x_costs, .inl (c_x_costs, 10, .inl x_costs)), (a_r, .inr (6, [.ref a_r_rows, .ref a_r_ins, .int r_size, .int r_n, .int r_parts])), (a_r_rows, .inl (c_r_rows, r_len, .inl r_rows)), (a_h, .inr (7, [.ref a_h_t, .ref a_h_rl, .ref a_h_cl, .int rv.1, .int rv.2.1, .long rv.2.2.1])), (a_h_t, .inl (c_h_t, 11, .inr (.inr (.inr (.inr (fun i => if i < 11 then some (a_h_g i) else none)))))), (a_h_rl, .inl (c_h_rl, 10, .inl rv.2.2.2.1)), (a_h_cl, .inl (c_h_cl, 16, .inl rv.2.2.2.2.1))] ++ gR a_h_g c_h_g rv.2.2.2.2.2)) (va_A ([(a_x_costs, .inl (c_x_costs, 10, .inl x_costs)), (a_r, .inr (6, [.ref a_r_rows, .ref a_r_ins, .int r_size, .int r_n, .int r_parts])), (a_r_rows, .inl (c_r_rows, r_len, .inl r_rows)), (a_h, .inr (7, [.ref a_h_t, .ref a_h_rl, .ref a_h_cl, .int h_rows, .int h_columns, .long h_divisor])), (a_h_t, .inl (c_h_t, 11, .inr (.inr (.inr (.inr (fun i => if i < 11 then some (a_h_g i) else none)))))), (a_h_rl, .inl (c_h_rl, 10, .inl h_rl)), (a_h_cl, .inl (c_h_cl, 16, .inl h_cl))] ++ gR a_h_g c_h_g h_g) sz)) 0 0 (va_A ([(a_x_costs, .inl (c_x_costs, 10, .inl x_costs)), (a_r, .inr (6, [.ref a_r_rows, .ref a_r_ins, .int r_size, .int r_n, .int r_parts])), (a_r_rows, .inl (c_r_rows, r_len, .inl r_rows)), (a_h, .inr (7, [.ref a_h_t, .ref a_h_rl, .ref a_h_cl, .int h_rows, .int h_columns, .long h_divisor])), (a_h_t, .inl (c_h_t, 11, .inr (.inr (.inr (.inr (fun i => if i < 11 then some (a_h_g i) else none)))))), (a_h_rl, .inl (c_h_rl, 10, .inl h_rl)), (a_h_cl, .inl (c_h_cl, 16, .inl h_cl))] ++ gR a_h_g c_h_g h_g) sz) := by
  refine Met.ofW (cc := cX7_lay) (maxL := 5) (ret := none) (by decide) rfl ?_
  intro p e s m args below meth c s₁ B hml hv
  obtain ⟨rfl, hsz, hP, hK, hD0, hN⟩ := hv
  have hx := B.exec
  have hb := B.bytes
  have hr := B.returns
  have hts := atoms_spec (ws := wsX7_lay) B.pre
  have hown : s.vm.findClass RX7 = some m.cls := findClass_of_methodNamed B.named
  have hlocks := B.notSynchronized
  subst hsz
  have hD := hD0.self (sz := s.heap.size)
  generalize hAe : va_A ([(a_x_costs, .inl (c_x_costs, 10, .inl x_costs)), (a_r, .inr (6, [.ref a_r_rows, .ref a_r_ins, .int r_size, .int r_n, .int r_parts])), (a_r_rows, .inl (c_r_rows, r_len, .inl r_rows)), (a_h, .inr (7, [.ref a_h_t, .ref a_h_rl, .ref a_h_cl, .int h_rows, .int h_columns, .long h_divisor])), (a_h_t, .inl (c_h_t, 11, .inr (.inr (.inr (.inr (fun i => if i < 11 then some (a_h_g i) else none)))))), (a_h_rl, .inl (c_h_rl, 10, .inl h_rl)), (a_h_cl, .inl (c_h_cl, 16, .inl h_cl))] ++ gR a_h_g c_h_g h_g) s.heap.size = A at hD hN ⊢
  have hA : ∀ q : Nat, s.heap.size ≤ q → A q := fun q h => by rw [← hAe]; exact Or.inr h
  have hS : va_S A s.heap s.heap [] := va_S.rf
  have hP : va_P (dC, dI) vwCl ([(a_x_costs, .inl (c_x_costs, 10, .inl x_costs)), (a_r, .inr (6, [.ref a_r_rows, .ref a_r_ins, .int r_size, .int r_n, .int r_parts])), (a_r_rows, .inl (c_r_rows, r_len, .inl r_rows)), (a_h, .inr (7, [.ref a_h_t, .ref a_h_rl, .ref a_h_cl, .int h_rows, .int h_columns, .long h_divisor])), (a_h_t, .inl (c_h_t, 11, .inr (.inr (.inr (.inr (fun i => if i < 11 then some (a_h_g i) else none)))))), (a_h_rl, .inl (c_h_rl, 10, .inl h_rl)), (a_h_cl, .inl (c_h_cl, 16, .inl h_cl))] ++ gR a_h_g c_h_g h_g) s.heap := hP
  have hl := lv_entry ([.ref a_h, .ref a_r, .ref a_x_costs]) (n := 5) (Nat.le_of_ble_eq_true rfl)
  rw [lg_entry_eq]
  generalize (lg_sl ([.ref a_h, .ref a_r, .ref a_x_costs]) ++ List.replicate (5 - (lg_sl ([.ref a_h, .ref a_r, .ref a_x_costs])).length) Slot.unset).toArray = ls at hl ⊢
  have hl : lv_has ls 5 [(0, .ref a_h), (1, .ref a_r), (2, .ref a_x_costs)] := hl
  have hiX6 : ∀ w ∈ wsX60, w ∈ wsX7_lay := fun _ h => List.mem_cons_of_mem _ (List.mem_append_left _ (List.mem_append_right _ h))
  have hf51 := hts (.fieldLink RX7 51 "MeetSets$SetRow" "n" "I") (t1_ (al_ (al_ h1_)))
  have hiX7 : ∀ w ∈ wsX70, w ∈ wsX7_lay := fun _ h => List.mem_cons_of_mem _ (List.mem_append_right _ h)
  have hf23 := hts (.fieldLink RX7 23 "MeetSets$Shares" "rows" "I") (t1_ (al_ (al_ (t1_ h1_))))
  have hf56 := hts (.fieldLink RX7 56 "MeetSets$SetRow" "size" "I") (t1_ (al_ (al_ (t1_ (t1_ h1_)))))
  have hf27 := hts (.fieldLink RX7 27 "MeetSets$Shares" "columns" "I") (t1_ (al_ (al_ (t1_ (t1_ (t1_ h1_))))))
  have hf30 := hts (.fieldLink RX7 30 "MeetSets$Shares" "divisor" "J") (t1_ (al_ (al_ (t4_ h1_))))
  have hf16 := hts (.fieldLink RX7 16 "MeetSets$Shares" "rowLabels" "[I") (t1_ (al_ (al_ (t4_ (t1_ h1_)))))
  have hf13 := hts (.fieldLink RX7 13 "MeetSets$Shares" "table" "[[J") (t1_ (al_ (al_ (t4_ (t1_ (t1_ h1_))))))
  have hf59 := hts (.fieldLink RX7 59 "MeetSets$SetRow" "rows" "[I") (t1_ (al_ (al_ (t4_ (t1_ (t1_ (t1_ h1_)))))))
  have hf20 := hts (.fieldLink RX7 20 "MeetSets$Shares" "columnLabels" "[I") (t1_ (al_ (al_ (t4_ (t4_ h1_)))))
  refine w_abs (fun Z hZv hZw => ?_)
  refine hZv ?_
  obtain ⟨H, hH⟩ : ∃ H, H = s.heap := ⟨_, rfl⟩
  obtain ⟨locs, hlo⟩ : ∃ L : List Loc, L = [] := ⟨_, rfl⟩
  rw [← hlo, ← hH]
  have hS : va_S A s.heap H locs := by rw [hlo, hH]; exact hS
  have hP : va_P (dC, dI) vwCl ([(a_x_costs, .inl (c_x_costs, 10, .inl x_costs)), (a_r, .inr (6, [.ref a_r_rows, .ref a_r_ins, .int r_size, .int r_n, .int r_parts])), (a_r_rows, .inl (c_r_rows, r_len, .inl r_rows)), (a_h, .inr (7, [.ref a_h_t, .ref a_h_rl, .ref a_h_cl, .int h_rows, .int h_columns, .long h_divisor])), (a_h_t, .inl (c_h_t, 11, .inr (.inr (.inr (.inr (fun i => if i < 11 then some (a_h_g i) else none)))))), (a_h_rl, .inl (c_h_rl, 10, .inl h_rl)), (a_h_cl, .inl (c_h_cl, 16, .inl h_cl))] ++ gR a_h_g c_h_g h_g) H := by rw [hH]; exact hP
  clear hH hlo
  unfold pX7_lay at hs
  refine lv_aload_n hx hb dX7_lay_0 rfl (lv_at hl 0 rfl) ?_
  refine lv_aload_n hx hb dX7_lay_1 rfl (lv_at hl 1 rfl) ?_
  refine va_get (D := (dC, dI)) (ci := 6) (v := .int r_n) (C := RX6) (T := TX6) (N := 5) hx hb hts hiX6 hown hK hP 1 rfl rfl 3 (by decide) hf51 (fun _ h9 => h9) rfl dX7_lay_2 ?_
  refine va_put (D := (dC, dI)) (ci := 7) (v := .int r_n) (ty := .int) (C := RX7) (T := TX7) (N := 6) hx hb hts hiX7 tyX7 tyX7_ok nmX7 hown hK hP hD hS 3 rfl rfl 3 (by decide) hf23 (fun _ h9 => h9) rfl (by decide +kernel) rfl rfl (Nat.le_of_ble_eq_true rfl) dX7_lay_5 (fun H locs hP hD hS => ?_)
  have hP : va_P (dC, dI) vwCl ([(a_x_costs, .inl (c_x_costs, 10, .inl x_costs)), (a_r, .inr (6, [.ref a_r_rows, .ref a_r_ins, .int r_size, .int r_n, .int r_parts])), (a_r_rows, .inl (c_r_rows, r_len, .inl r_rows)), (a_h, .inr (7, [.ref a_h_t, .ref a_h_rl, .ref a_h_cl, .int r_n, .int h_columns, .long h_divisor])), (a_h_t, .inl (c_h_t, 11, .inr (.inr (.inr (.inr (fun i => if i < 11 then some (a_h_g i) else none)))))), (a_h_rl, .inl (c_h_rl, 10, .inl h_rl)), (a_h_cl, .inl (c_h_cl, 16, .inl h_cl))] ++ gR a_h_g c_h_g h_g) H := hP
  have hD : va_D A ([(a_x_costs, .inl (c_x_costs, 10, .inl x_costs)), (a_r, .inr (6, [.ref a_r_rows, .ref a_r_ins, .int r_size, .int r_n, .int r_parts])), (a_r_rows, .inl (c_r_rows, r_len, .inl r_rows)), (a_h, .inr (7, [.ref a_h_t, .ref a_h_rl, .ref a_h_cl, .int r_n, .int h_columns, .long h_divisor])), (a_h_t, .inl (c_h_t, 11, .inr (.inr (.inr (.inr (fun i => if i < 11 then some (a_h_g i) else none)))))), (a_h_rl, .inl (c_h_rl, 10, .inl h_rl)), (a_h_cl, .inl (c_h_cl, 16, .inl h_cl))] ++ gR a_h_g c_h_g h_g) := hD
  refine lv_aload_n hx hb dX7_lay_8 rfl (lv_at hl 0 rfl) ?_
  refine lv_aload_n hx hb dX7_lay_9 rfl (lv_at hl 1 rfl) ?_
  refine va_get (D := (dC, dI)) (ci := 6) (v := .int r_size) (C := RX6) (T := TX6) (N := 5) hx hb hts hiX6 hown hK hP 1 rfl rfl 2 (by decide) hf56 (fun _ h9 => h9) rfl dX7_lay_10 ?_
  refine va_put (D := (dC, dI)) (ci := 7) (v := .int r_size) (ty := .int) (C := RX7) (T := TX7) (N := 6) hx hb hts hiX7 tyX7 tyX7_ok nmX7 hown hK hP hD hS 3 rfl rfl 4 (by decide) hf27 (fun _ h9 => h9) rfl (by decide +kernel) rfl rfl (Nat.le_of_ble_eq_true rfl) dX7_lay_13 (fun H locs hP hD hS => ?_)
  have hP : va_P (dC, dI) vwCl ([(a_x_costs, .inl (c_x_costs, 10, .inl x_costs)), (a_r, .inr (6, [.ref a_r_rows, .ref a_r_ins, .int r_size, .int r_n, .int r_parts])), (a_r_rows, .inl (c_r_rows, r_len, .inl r_rows)), (a_h, .inr (7, [.ref a_h_t, .ref a_h_rl, .ref a_h_cl, .int r_n, .int r_size, .long h_divisor])), (a_h_t, .inl (c_h_t, 11, .inr (.inr (.inr (.inr (fun i => if i < 11 then some (a_h_g i) else none)))))), (a_h_rl, .inl (c_h_rl, 10, .inl h_rl)), (a_h_cl, .inl (c_h_cl, 16, .inl h_cl))] ++ gR a_h_g c_h_g h_g) H := hP
  have hD : va_D A ([(a_x_costs, .inl (c_x_costs, 10, .inl x_costs)), (a_r, .inr (6, [.ref a_r_rows, .ref a_r_ins, .int r_size, .int r_n, .int r_parts])), (a_r_rows, .inl (c_r_rows, r_len, .inl r_rows)), (a_h, .inr (7, [.ref a_h_t, .ref a_h_rl, .ref a_h_cl, .int r_n, .int r_size, .long h_divisor])), (a_h_t, .inl (c_h_t, 11, .inr (.inr (.inr (.inr (fun i => if i < 11 then some (a_h_g i) else none)))))), (a_h_rl, .inl (c_h_rl, 10, .inl h_rl)), (a_h_cl, .inl (c_h_cl, 16, .inl h_cl))] ++ gR a_h_g c_h_g h_g) := hD
  refine lv_aload_n hx hb dX7_lay_16 rfl (lv_at hl 0 rfl) ?_
  refine lv_lconst (v := 1) hx hb dX7_lay_17 (by decide) ?_
  refine va_put (D := (dC, dI)) (ci := 7) (v := .long 1) (ty := .long) (C := RX7) (T := TX7) (N := 6) hx hb hts hiX7 tyX7 tyX7_ok nmX7 hown hK hP hD hS 3 rfl rfl 5 (by decide) hf30 (fun _ h9 => h9) rfl (by decide +kernel) rfl rfl (Nat.le_of_ble_eq_true rfl) dX7_lay_18 (fun H locs hP hD hS => ?_)
  have hP : va_P (dC, dI) vwCl ([(a_x_costs, .inl (c_x_costs, 10, .inl x_costs)), (a_r, .inr (6, [.ref a_r_rows, .ref a_r_ins, .int r_size, .int r_n, .int r_parts])), (a_r_rows, .inl (c_r_rows, r_len, .inl r_rows)), (a_h, .inr (7, [.ref a_h_t, .ref a_h_rl, .ref a_h_cl, .int r_n, .int r_size, .long 1])), (a_h_t, .inl (c_h_t, 11, .inr (.inr (.inr (.inr (fun i => if i < 11 then some (a_h_g i) else none)))))), (a_h_rl, .inl (c_h_rl, 10, .inl h_rl)), (a_h_cl, .inl (c_h_cl, 16, .inl h_cl))] ++ gR a_h_g c_h_g h_g) H := hP
  have hD : va_D A ([(a_x_costs, .inl (c_x_costs, 10, .inl x_costs)), (a_r, .inr (6, [.ref a_r_rows, .ref a_r_ins, .int r_size, .int r_n, .int r_parts])), (a_r_rows, .inl (c_r_rows, r_len, .inl r_rows)), (a_h, .inr (7, [.ref a_h_t, .ref a_h_rl, .ref a_h_cl, .int r_n, .int r_size, .long 1])), (a_h_t, .inl (c_h_t, 11, .inr (.inr (.inr (.inr (fun i => if i < 11 then some (a_h_g i) else none)))))), (a_h_rl, .inl (c_h_rl, 10, .inl h_rl)), (a_h_cl, .inl (c_h_cl, 16, .inl h_cl))] ++ gR a_h_g c_h_g h_g) := hD
  refine lv_iconst (v := 0) hx hb dX7_lay_21 (by decide) ?_
  refine lv_istore_n (lv' := [(3, .int 0), (0, .ref a_h), (1, .ref a_r), (2, .ref a_x_costs)]) hx hb dX7_lay_22 rfl hl (by decide) rfl (fun ls hl => ?_)
  obtain ⟨e23, he23, hs⟩ := bd_s hs
  have hX23 : ∀ (H : Heap) (locs : List Loc) (ls : Array Slot), va_P (dC, dI) vwCl ([(a_x_costs, .inl (c_x_costs, 10, .inl x_costs)), (a_r, .inr (6, [.ref a_r_rows, .ref a_r_ins, .int r_size, .int r_n, .int r_parts])), (a_r_rows, .inl (c_r_rows, r_len, .inl r_rows)), (a_h, .inr (7, [.ref a_h_t, .ref a_h_rl, .ref a_h_cl, .int r_n, .int r_size, .long 1])), (a_h_t, .inl (c_h_t, 11, .inr (.inr (.inr (.inr (fun i => if i < 11 then some (a_h_g i) else none)))))), (a_h_rl, .inl (c_h_rl, 10, .inl e23.1)), (a_h_cl, .inl (c_h_cl, 16, .inl h_cl))] ++ gR a_h_g c_h_g e23.2) H → va_D A ([(a_x_costs, .inl (c_x_costs, 10, .inl x_costs)), (a_r, .inr (6, [.ref a_r_rows, .ref a_r_ins, .int r_size, .int r_n, .int r_parts])), (a_r_rows, .inl (c_r_rows, r_len, .inl r_rows)), (a_h, .inr (7, [.ref a_h_t, .ref a_h_rl, .ref a_h_cl, .int r_n, .int r_size, .long 1])), (a_h_t, .inl (c_h_t, 11, .inr (.inr (.inr (.inr (fun i => if i < 11 then some (a_h_g i) else none)))))), (a_h_rl, .inl (c_h_rl, 10, .inl e23.1)), (a_h_cl, .inl (c_h_cl, 16, .inl h_cl))] ++ gR a_h_g c_h_g e23.2) → va_S A s.heap H locs → lv_has ls 5 [(0, .ref a_h)] → Z H locs 0 0 (F0 m 110 ls []) := by
    intro H locs ls hP hD hS hl
    refine hZv ?_
    refine lv_iconst (v := 0) hx hb dX7_lay_110 (by decide) ?_
    refine lv_istore_n (lv' := [(3, .int 0), (0, .ref a_h)]) hx hb dX7_lay_111 rfl hl (by decide) rfl (fun ls hl => ?_)
    obtain ⟨e112, he112, hs⟩ := bd_s hs
    have hX112 : ∀ (H : Heap) (locs : List Loc) (ls : Array Slot), va_P (dC, dI) vwCl ([(a_x_costs, .inl (c_x_costs, 10, .inl x_costs)), (a_r, .inr (6, [.ref a_r_rows, .ref a_r_ins, .int r_size, .int r_n, .int r_parts])), (a_r_rows, .inl (c_r_rows, r_len, .inl r_rows)), (a_h, .inr (7, [.ref a_h_t, .ref a_h_rl, .ref a_h_cl, .int r_n, .int r_size, .long 1])), (a_h_t, .inl (c_h_t, 11, .inr (.inr (.inr (.inr (fun i => if i < 11 then some (a_h_g i) else none)))))), (a_h_rl, .inl (c_h_rl, 10, .inl e23.1)), (a_h_cl, .inl (c_h_cl, 16, .inl e112.1))] ++ gR a_h_g c_h_g e112.2) H → va_D A ([(a_x_costs, .inl (c_x_costs, 10, .inl x_costs)), (a_r, .inr (6, [.ref a_r_rows, .ref a_r_ins, .int r_size, .int r_n, .int r_parts])), (a_r_rows, .inl (c_r_rows, r_len, .inl r_rows)), (a_h, .inr (7, [.ref a_h_t, .ref a_h_rl, .ref a_h_cl, .int r_n, .int r_size, .long 1])), (a_h_t, .inl (c_h_t, 11, .inr (.inr (.inr (.inr (fun i => if i < 11 then some (a_h_g i) else none)))))), (a_h_rl, .inl (c_h_rl, 10, .inl e23.1)), (a_h_cl, .inl (c_h_cl, 16, .inl e112.1))] ++ gR a_h_g c_h_g e112.2) → va_S A s.heap H locs → lv_has ls 5 [(0, .ref a_h)] → Z H locs 0 0 (F0 m 147 ls []) := by
      intro H locs ls hP hD hS hl
      refine hZv ?_
      refine lv_aload_n hx hb dX7_lay_147 rfl (lv_at hl 0 rfl) ?_
      refine va_get (D := (dC, dI)) (ci := 7) (v := .ref a_h_t) (C := RX7) (T := TX7) (N := 6) hx hb hts hiX7 hown hK hP 3 rfl rfl 0 (by decide) hf13 (fun _ h9 => h9) rfl dX7_lay_148 ?_
      refine lv_aload_n hx hb dX7_lay_151 rfl (lv_at hl 0 rfl) ?_
      refine va_get (D := (dC, dI)) (ci := 7) (v := .int r_n) (C := RX7) (T := TX7) (N := 6) hx hb hts hiX7 hown hK hP 3 rfl rfl 3 (by decide) hf23 (fun _ h9 => h9) rfl dX7_lay_152 ?_
      obtain ⟨hg17, hs⟩ := gd_s hs
      refine va_aldG hx hb hK hP 4 2 rfl rfl hg17 dX7_lay_155 ?_
      refine lv_aload_n hx hb dX7_lay_156 rfl (lv_at hl 0 rfl) ?_
      refine va_get (D := (dC, dI)) (ci := 7) (v := .int r_size) (C := RX7) (T := TX7) (N := 6) hx hb hts hiX7 hown hK hP 3 rfl rfl 4 (by decide) hf27 (fun _ h9 => h9) rfl dX7_lay_157 ?_
      refine lv_lconst (v := 0) hx hb dX7_lay_160 (by decide) ?_
      obtain ⟨hg18, hs⟩ := gd_s hs
      refine va_lastG (X := [(a_x_costs, .inl (c_x_costs, 10, .inl x_costs)), (a_r, .inr (6, [.ref a_r_rows, .ref a_r_ins, .int r_size, .int r_n, .int r_parts])), (a_r_rows, .inl (c_r_rows, r_len, .inl r_rows)), (a_h, .inr (7, [.ref a_h_t, .ref a_h_rl, .ref a_h_cl, .int r_n, .int r_size, .long 1])), (a_h_t, .inl (c_h_t, 11, .inr (.inr (.inr (.inr (fun i => if i < 11 then some (a_h_g i) else none)))))), (a_h_rl, .inl (c_h_rl, 10, .inl e23.1)), (a_h_cl, .inl (c_h_cl, 16, .inl e112.1))]) hx hb hK hP hD hS 5 rfl hg17 hg18 dX7_lay_161 (fun H locs hP hD hS => ?_)
      have hP : va_P (dC, dI) vwCl ([(a_x_costs, .inl (c_x_costs, 10, .inl x_costs)), (a_r, .inr (6, [.ref a_r_rows, .ref a_r_ins, .int r_size, .int r_n, .int r_parts])), (a_r_rows, .inl (c_r_rows, r_len, .inl r_rows)), (a_h, .inr (7, [.ref a_h_t, .ref a_h_rl, .ref a_h_cl, .int r_n, .int r_size, .long 1])), (a_h_t, .inl (c_h_t, 11, .inr (.inr (.inr (.inr (fun i => if i < 11 then some (a_h_g i) else none)))))), (a_h_rl, .inl (c_h_rl, 10, .inl e23.1)), (a_h_cl, .inl (c_h_cl, 16, .inl e112.1))] ++ gR a_h_g c_h_g (gU e112.2 r_n.toNatClampNeg (vp_updL (e112.2 r_n.toNatClampNeg) r_size.toNatClampNeg 0))) H := hP
      have hD : va_D A ([(a_x_costs, .inl (c_x_costs, 10, .inl x_costs)), (a_r, .inr (6, [.ref a_r_rows, .ref a_r_ins, .int r_size, .int r_n, .int r_parts])), (a_r_rows, .inl (c_r_rows, r_len, .inl r_rows)), (a_h, .inr (7, [.ref a_h_t, .ref a_h_rl, .ref a_h_cl, .int r_n, .int r_size, .long 1])), (a_h_t, .inl (c_h_t, 11, .inr (.inr (.inr (.inr (fun i => if i < 11 then some (a_h_g i) else none)))))), (a_h_rl, .inl (c_h_rl, 10, .inl e23.1)), (a_h_cl, .inl (c_h_cl, 16, .inl e112.1))] ++ gR a_h_g c_h_g (gU e112.2 r_n.toNatClampNeg (vp_updL (e112.2 r_n.toNatClampNeg) r_size.toNatClampNeg 0))) := hD
      replace hs := Option.some.inj hs
      subst hs
      exact W.vret hx hb hr (fun t ht hW => ⟨⟨(), rfl, trivial, by rw [ht]; exact hP, va_K.moved hW.alike hK, hD⟩, hS.F ht⟩) hS.2.2 dX7_lay_162
    clear hs
    have hL112 : ∀ (n : Nat) (s112 : Int32 × (Nat → Int32) × (Nat → Nat → Int64)) (H : Heap) (locs : List Loc) (ls : Array Slot), itr (pX7_lay_L112 r_size r_n) n s112 = some e112 → va_P (dC, dI) vwCl ([(a_x_costs, .inl (c_x_costs, 10, .inl x_costs)), (a_r, .inr (6, [.ref a_r_rows, .ref a_r_ins, .int r_size, .int r_n, .int r_parts])), (a_r_rows, .inl (c_r_rows, r_len, .inl r_rows)), (a_h, .inr (7, [.ref a_h_t, .ref a_h_rl, .ref a_h_cl, .int r_n, .int r_size, .long 1])), (a_h_t, .inl (c_h_t, 11, .inr (.inr (.inr (.inr (fun i => if i < 11 then some (a_h_g i) else none)))))), (a_h_rl, .inl (c_h_rl, 10, .inl e23.1)), (a_h_cl, .inl (c_h_cl, 16, .inl s112.2.1))] ++ gR a_h_g c_h_g s112.2.2) H → va_D A ([(a_x_costs, .inl (c_x_costs, 10, .inl x_costs)), (a_r, .inr (6, [.ref a_r_rows, .ref a_r_ins, .int r_size, .int r_n, .int r_parts])), (a_r_rows, .inl (c_r_rows, r_len, .inl r_rows)), (a_h, .inr (7, [.ref a_h_t, .ref a_h_rl, .ref a_h_cl, .int r_n, .int r_size, .long 1])), (a_h_t, .inl (c_h_t, 11, .inr (.inr (.inr (.inr (fun i => if i < 11 then some (a_h_g i) else none)))))), (a_h_rl, .inl (c_h_rl, 10, .inl e23.1)), (a_h_cl, .inl (c_h_cl, 16, .inl s112.2.1))] ++ gR a_h_g c_h_g s112.2.2) → va_S A s.heap H locs → lv_has ls 5 [(0, .ref a_h), (3, .int s112.1)] → Z H locs 0 0 (F0 m 112 ls []) := by
      intro n
      induction n with
      | zero =>
        intro s112 H locs ls hn
        exact (itr_0 hn).elim
      | succ n ih =>
        intro s112 H locs ls hn hP hD hS hl
        obtain ⟨y13, hs, hn⟩ := itr_s hn
        unfold pX7_lay_L112 at hs
        refine hZv ?_
        refine lv_iload_n hx hb dX7_lay_112 rfl (lv_at hl 1 rfl) ?_
        refine lv_aload_n hx hb dX7_lay_113 rfl (lv_at hl 0 rfl) ?_
        refine va_get (D := (dC, dI)) (ci := 7) (v := .int r_size) (C := RX7) (T := TX7) (N := 6) hx hb hts hiX7 hown hK hP 3 rfl rfl 4 (by decide) hf27 (fun _ h9 => h9) rfl dX7_lay_114 ?_
        refine lv_icmp_ge (tgt := 147) hx hb dX7_lay_117 (by decide) (fun hc => ?_) (fun hc => ?_)
        · replace hs := it_t hc hs
          replace hs := Option.some.inj hs
          subst hs
          obtain rfl : (s112.2.1, s112.2.2) = e112 := hn
          exact hZw (hX112 H locs ls hP hD hS (lv_sub hl [0] rfl))
        · replace hs := it_f hc hs
          refine lv_aload_n hx hb dX7_lay_120 rfl (lv_at hl 0 rfl) ?_
          refine va_get (D := (dC, dI)) (ci := 7) (v := .ref a_h_cl) (C := RX7) (T := TX7) (N := 6) hx hb hts hiX7 hown hK hP 3 rfl rfl 2 (by decide) hf20 (fun _ h9 => h9) rfl dX7_lay_121 ?_
          refine lv_iload_n hx hb dX7_lay_124 rfl (lv_at hl 1 rfl) ?_
          refine lv_iload_n hx hb dX7_lay_125 rfl (lv_at hl 1 rfl) ?_
          obtain ⟨hg14, hs⟩ := gd_s hs
          refine va_iast hx hb hK hP hD hS 6 4 rfl rfl hg14 dX7_lay_126 (fun H locs hP hD hS => ?_)
          have hP : va_P (dC, dI) vwCl ([(a_x_costs, .inl (c_x_costs, 10, .inl x_costs)), (a_r, .inr (6, [.ref a_r_rows, .ref a_r_ins, .int r_size, .int r_n, .int r_parts])), (a_r_rows, .inl (c_r_rows, r_len, .inl r_rows)), (a_h, .inr (7, [.ref a_h_t, .ref a_h_rl, .ref a_h_cl, .int r_n, .int r_size, .long 1])), (a_h_t, .inl (c_h_t, 11, .inr (.inr (.inr (.inr (fun i => if i < 11 then some (a_h_g i) else none)))))), (a_h_rl, .inl (c_h_rl, 10, .inl e23.1)), (a_h_cl, .inl (c_h_cl, 16, .inl (upd s112.2.1 s112.1.toNatClampNeg s112.1)))] ++ gR a_h_g c_h_g s112.2.2) H := hP
          have hD : va_D A ([(a_x_costs, .inl (c_x_costs, 10, .inl x_costs)), (a_r, .inr (6, [.ref a_r_rows, .ref a_r_ins, .int r_size, .int r_n, .int r_parts])), (a_r_rows, .inl (c_r_rows, r_len, .inl r_rows)), (a_h, .inr (7, [.ref a_h_t, .ref a_h_rl, .ref a_h_cl, .int r_n, .int r_size, .long 1])), (a_h_t, .inl (c_h_t, 11, .inr (.inr (.inr (.inr (fun i => if i < 11 then some (a_h_g i) else none)))))), (a_h_rl, .inl (c_h_rl, 10, .inl e23.1)), (a_h_cl, .inl (c_h_cl, 16, .inl (upd s112.2.1 s112.1.toNatClampNeg s112.1)))] ++ gR a_h_g c_h_g s112.2.2) := hD
          refine lv_aload_n hx hb dX7_lay_127 rfl (lv_at hl 0 rfl) ?_
          refine va_get (D := (dC, dI)) (ci := 7) (v := .ref a_h_t) (C := RX7) (T := TX7) (N := 6) hx hb hts hiX7 hown hK hP 3 rfl rfl 0 (by decide) hf13 (fun _ h9 => h9) rfl dX7_lay_128 ?_
          refine lv_aload_n hx hb dX7_lay_131 rfl (lv_at hl 0 rfl) ?_
          refine va_get (D := (dC, dI)) (ci := 7) (v := .int r_n) (C := RX7) (T := TX7) (N := 6) hx hb hts hiX7 hown hK hP 3 rfl rfl 3 (by decide) hf23 (fun _ h9 => h9) rfl dX7_lay_132 ?_
          obtain ⟨hg15, hs⟩ := gd_s hs
          refine va_aldG hx hb hK hP 4 2 rfl rfl hg15 dX7_lay_135 ?_
          refine lv_iload_n hx hb dX7_lay_136 rfl (lv_at hl 1 rfl) ?_
          refine lv_ldc2 (v := (-1)) hx hb hown (hts (.constantLong RX7 65 (-1)) (t1_ (al_ (al_ (t4_ (t4_ (t1_ h1_))))))) dX7_lay_137 ?_
          obtain ⟨hg16, hs⟩ := gd_s hs
          refine va_lastG (X := [(a_x_costs, .inl (c_x_costs, 10, .inl x_costs)), (a_r, .inr (6, [.ref a_r_rows, .ref a_r_ins, .int r_size, .int r_n, .int r_parts])), (a_r_rows, .inl (c_r_rows, r_len, .inl r_rows)), (a_h, .inr (7, [.ref a_h_t, .ref a_h_rl, .ref a_h_cl, .int r_n, .int r_size, .long 1])), (a_h_t, .inl (c_h_t, 11, .inr (.inr (.inr (.inr (fun i => if i < 11 then some (a_h_g i) else none)))))), (a_h_rl, .inl (c_h_rl, 10, .inl e23.1)), (a_h_cl, .inl (c_h_cl, 16, .inl (upd s112.2.1 s112.1.toNatClampNeg s112.1)))]) hx hb hK hP hD hS 5 rfl hg15 hg16 dX7_lay_140 (fun H locs hP hD hS => ?_)
          have hP : va_P (dC, dI) vwCl ([(a_x_costs, .inl (c_x_costs, 10, .inl x_costs)), (a_r, .inr (6, [.ref a_r_rows, .ref a_r_ins, .int r_size, .int r_n, .int r_parts])), (a_r_rows, .inl (c_r_rows, r_len, .inl r_rows)), (a_h, .inr (7, [.ref a_h_t, .ref a_h_rl, .ref a_h_cl, .int r_n, .int r_size, .long 1])), (a_h_t, .inl (c_h_t, 11, .inr (.inr (.inr (.inr (fun i => if i < 11 then some (a_h_g i) else none)))))), (a_h_rl, .inl (c_h_rl, 10, .inl e23.1)), (a_h_cl, .inl (c_h_cl, 16, .inl (upd s112.2.1 s112.1.toNatClampNeg s112.1)))] ++ gR a_h_g c_h_g (gU s112.2.2 r_n.toNatClampNeg (vp_updL (s112.2.2 r_n.toNatClampNeg) s112.1.toNatClampNeg (-1)))) H := hP
          have hD : va_D A ([(a_x_costs, .inl (c_x_costs, 10, .inl x_costs)), (a_r, .inr (6, [.ref a_r_rows, .ref a_r_ins, .int r_size, .int r_n, .int r_parts])), (a_r_rows, .inl (c_r_rows, r_len, .inl r_rows)), (a_h, .inr (7, [.ref a_h_t, .ref a_h_rl, .ref a_h_cl, .int r_n, .int r_size, .long 1])), (a_h_t, .inl (c_h_t, 11, .inr (.inr (.inr (.inr (fun i => if i < 11 then some (a_h_g i) else none)))))), (a_h_rl, .inl (c_h_rl, 10, .inl e23.1)), (a_h_cl, .inl (c_h_cl, 16, .inl (upd s112.2.1 s112.1.toNatClampNeg s112.1)))] ++ gR a_h_g c_h_g (gU s112.2.2 r_n.toNatClampNeg (vp_updL (s112.2.2 r_n.toNatClampNeg) s112.1.toNatClampNeg (-1)))) := hD
          refine lv_iinc (v := s112.1 + 1) (lv' := [(3, .int (s112.1 + 1)), (0, .ref a_h)]) hx hb dX7_lay_141 hl (k := 1) rfl (by rfl) (by decide) rfl (fun ls hl => ?_)
          refine lv_goto (tgt := 112) hx hb dX7_lay_144 (by decide) ?_
          replace hs := Option.some.inj hs
          subst hs
          exact hZw (ih (s112.1 + 1, upd s112.2.1 s112.1.toNatClampNeg s112.1, gU s112.2.2 r_n.toNatClampNeg (vp_updL (s112.2.2 r_n.toNatClampNeg) s112.1.toNatClampNeg (-1))) H locs ls hn hP hD hS (lv_sub hl [1, 0] rfl))
    obtain ⟨n112, hn112⟩ := lp_ex he112
    exact hZw (hL112 n112 (0, h_cl, e23.2) H locs ls hn112 hP hD hS (lv_sub hl [1, 0] rfl))
  clear hs
  have hL23 : ∀ (n : Nat) (s23 : Int32 × (Nat → Int32) × (Nat → Nat → Int64)) (H : Heap) (locs : List Loc) (ls : Array Slot), itr (pX7_lay_L23 r_len x_costs r_size r_n r_rows) n s23 = some e23 → va_P (dC, dI) vwCl ([(a_x_costs, .inl (c_x_costs, 10, .inl x_costs)), (a_r, .inr (6, [.ref a_r_rows, .ref a_r_ins, .int r_size, .int r_n, .int r_parts])), (a_r_rows, .inl (c_r_rows, r_len, .inl r_rows)), (a_h, .inr (7, [.ref a_h_t, .ref a_h_rl, .ref a_h_cl, .int r_n, .int r_size, .long 1])), (a_h_t, .inl (c_h_t, 11, .inr (.inr (.inr (.inr (fun i => if i < 11 then some (a_h_g i) else none)))))), (a_h_rl, .inl (c_h_rl, 10, .inl s23.2.1)), (a_h_cl, .inl (c_h_cl, 16, .inl h_cl))] ++ gR a_h_g c_h_g s23.2.2) H → va_D A ([(a_x_costs, .inl (c_x_costs, 10, .inl x_costs)), (a_r, .inr (6, [.ref a_r_rows, .ref a_r_ins, .int r_size, .int r_n, .int r_parts])), (a_r_rows, .inl (c_r_rows, r_len, .inl r_rows)), (a_h, .inr (7, [.ref a_h_t, .ref a_h_rl, .ref a_h_cl, .int r_n, .int r_size, .long 1])), (a_h_t, .inl (c_h_t, 11, .inr (.inr (.inr (.inr (fun i => if i < 11 then some (a_h_g i) else none)))))), (a_h_rl, .inl (c_h_rl, 10, .inl s23.2.1)), (a_h_cl, .inl (c_h_cl, 16, .inl h_cl))] ++ gR a_h_g c_h_g s23.2.2) → va_S A s.heap H locs → lv_has ls 5 [(0, .ref a_h), (1, .ref a_r), (2, .ref a_x_costs), (3, .int s23.1)] → Z H locs 0 0 (F0 m 23 ls []) := by
    intro n
    induction n with
    | zero =>
      intro s23 H locs ls hn
      exact (itr_0 hn).elim
    | succ n ih =>
      intro s23 H locs ls hn hP hD hS hl
      obtain ⟨y1, hs, hn⟩ := itr_s hn
      unfold pX7_lay_L23 at hs
      refine hZv ?_
      refine lv_iload_n hx hb dX7_lay_23 rfl (lv_at hl 3 rfl) ?_
      refine lv_aload_n hx hb dX7_lay_24 rfl (lv_at hl 0 rfl) ?_
      refine va_get (D := (dC, dI)) (ci := 7) (v := .int r_n) (C := RX7) (T := TX7) (N := 6) hx hb hts hiX7 hown hK hP 3 rfl rfl 3 (by decide) hf23 (fun _ h9 => h9) rfl dX7_lay_25 ?_
      refine lv_icmp_ge (tgt := 110) hx hb dX7_lay_28 (by decide) (fun hc => ?_) (fun hc => ?_)
      · replace hs := it_t hc hs
        replace hs := Option.some.inj hs
        subst hs
        obtain rfl : (s23.2.1, s23.2.2) = e23 := hn
        exact hZw (hX23 H locs ls hP hD hS (lv_sub hl [0] rfl))
      · replace hs := it_f hc hs
        refine lv_aload_n hx hb dX7_lay_31 rfl (lv_at hl 0 rfl) ?_
        refine va_get (D := (dC, dI)) (ci := 7) (v := .ref a_h_rl) (C := RX7) (T := TX7) (N := 6) hx hb hts hiX7 hown hK hP 3 rfl rfl 1 (by decide) hf16 (fun _ h9 => h9) rfl dX7_lay_32 ?_
        refine lv_iload_n hx hb dX7_lay_35 rfl (lv_at hl 3 rfl) ?_
        refine lv_aload_n hx hb dX7_lay_36 rfl (lv_at hl 0 rfl) ?_
        refine va_get (D := (dC, dI)) (ci := 7) (v := .int r_size) (C := RX7) (T := TX7) (N := 6) hx hb hts hiX7 hown hK hP 3 rfl rfl 4 (by decide) hf27 (fun _ h9 => h9) rfl dX7_lay_37 ?_
        refine lv_iload_n hx hb dX7_lay_40 rfl (lv_at hl 3 rfl) ?_
        refine lv_iadd hx hb dX7_lay_41 ?_
        obtain ⟨hg2, hs⟩ := gd_s hs
        refine va_iast hx hb hK hP hD hS 5 3 rfl rfl hg2 dX7_lay_42 (fun H locs hP hD hS => ?_)
        have hP : va_P (dC, dI) vwCl ([(a_x_costs, .inl (c_x_costs, 10, .inl x_costs)), (a_r, .inr (6, [.ref a_r_rows, .ref a_r_ins, .int r_size, .int r_n, .int r_parts])), (a_r_rows, .inl (c_r_rows, r_len, .inl r_rows)), (a_h, .inr (7, [.ref a_h_t, .ref a_h_rl, .ref a_h_cl, .int r_n, .int r_size, .long 1])), (a_h_t, .inl (c_h_t, 11, .inr (.inr (.inr (.inr (fun i => if i < 11 then some (a_h_g i) else none)))))), (a_h_rl, .inl (c_h_rl, 10, .inl (upd s23.2.1 s23.1.toNatClampNeg (r_size + s23.1)))), (a_h_cl, .inl (c_h_cl, 16, .inl h_cl))] ++ gR a_h_g c_h_g s23.2.2) H := hP
        have hD : va_D A ([(a_x_costs, .inl (c_x_costs, 10, .inl x_costs)), (a_r, .inr (6, [.ref a_r_rows, .ref a_r_ins, .int r_size, .int r_n, .int r_parts])), (a_r_rows, .inl (c_r_rows, r_len, .inl r_rows)), (a_h, .inr (7, [.ref a_h_t, .ref a_h_rl, .ref a_h_cl, .int r_n, .int r_size, .long 1])), (a_h_t, .inl (c_h_t, 11, .inr (.inr (.inr (.inr (fun i => if i < 11 then some (a_h_g i) else none)))))), (a_h_rl, .inl (c_h_rl, 10, .inl (upd s23.2.1 s23.1.toNatClampNeg (r_size + s23.1)))), (a_h_cl, .inl (c_h_cl, 16, .inl h_cl))] ++ gR a_h_g c_h_g s23.2.2) := hD
        refine lv_aload_n hx hb dX7_lay_43 rfl (lv_at hl 0 rfl) ?_
        refine va_get (D := (dC, dI)) (ci := 7) (v := .ref a_h_t) (C := RX7) (T := TX7) (N := 6) hx hb hts hiX7 hown hK hP 3 rfl rfl 0 (by decide) hf13 (fun _ h9 => h9) rfl dX7_lay_44 ?_
        refine lv_iload_n hx hb dX7_lay_47 rfl (lv_at hl 3 rfl) ?_
        obtain ⟨hg3, hs⟩ := gd_s hs
        refine va_aldG hx hb hK hP 4 2 rfl rfl hg3 dX7_lay_48 ?_
        refine lv_aload_n hx hb dX7_lay_49 rfl (lv_at hl 0 rfl) ?_
        refine va_get (D := (dC, dI)) (ci := 7) (v := .int r_size) (C := RX7) (T := TX7) (N := 6) hx hb hts hiX7 hown hK hP 3 rfl rfl 4 (by decide) hf27 (fun _ h9 => h9) rfl dX7_lay_50 ?_
        refine lv_aload_n hx hb dX7_lay_53 rfl (lv_at hl 2 rfl) ?_
        refine lv_iload_n hx hb dX7_lay_54 rfl (lv_at hl 3 rfl) ?_
        obtain ⟨hg4, hs⟩ := gd_s hs
        refine va_iald hx hb hK hP 0 0 rfl rfl hg4 dX7_lay_55 ?_
        refine lv_i2l (v := (x_costs s23.1.toNatClampNeg).toInt64) hx hb dX7_lay_56 rfl ?_
        obtain ⟨hg5, hs⟩ := gd_s hs
        refine va_lastG (X := [(a_x_costs, .inl (c_x_costs, 10, .inl x_costs)), (a_r, .inr (6, [.ref a_r_rows, .ref a_r_ins, .int r_size, .int r_n, .int r_parts])), (a_r_rows, .inl (c_r_rows, r_len, .inl r_rows)), (a_h, .inr (7, [.ref a_h_t, .ref a_h_rl, .ref a_h_cl, .int r_n, .int r_size, .long 1])), (a_h_t, .inl (c_h_t, 11, .inr (.inr (.inr (.inr (fun i => if i < 11 then some (a_h_g i) else none)))))), (a_h_rl, .inl (c_h_rl, 10, .inl (upd s23.2.1 s23.1.toNatClampNeg (r_size + s23.1)))), (a_h_cl, .inl (c_h_cl, 16, .inl h_cl))]) hx hb hK hP hD hS 5 rfl hg3 hg5 dX7_lay_57 (fun H locs hP hD hS => ?_)
        have hP : va_P (dC, dI) vwCl ([(a_x_costs, .inl (c_x_costs, 10, .inl x_costs)), (a_r, .inr (6, [.ref a_r_rows, .ref a_r_ins, .int r_size, .int r_n, .int r_parts])), (a_r_rows, .inl (c_r_rows, r_len, .inl r_rows)), (a_h, .inr (7, [.ref a_h_t, .ref a_h_rl, .ref a_h_cl, .int r_n, .int r_size, .long 1])), (a_h_t, .inl (c_h_t, 11, .inr (.inr (.inr (.inr (fun i => if i < 11 then some (a_h_g i) else none)))))), (a_h_rl, .inl (c_h_rl, 10, .inl (upd s23.2.1 s23.1.toNatClampNeg (r_size + s23.1)))), (a_h_cl, .inl (c_h_cl, 16, .inl h_cl))] ++ gR a_h_g c_h_g (gU s23.2.2 s23.1.toNatClampNeg (vp_updL (s23.2.2 s23.1.toNatClampNeg) r_size.toNatClampNeg ((x_costs s23.1.toNatClampNeg).toInt64)))) H := hP
        have hD : va_D A ([(a_x_costs, .inl (c_x_costs, 10, .inl x_costs)), (a_r, .inr (6, [.ref a_r_rows, .ref a_r_ins, .int r_size, .int r_n, .int r_parts])), (a_r_rows, .inl (c_r_rows, r_len, .inl r_rows)), (a_h, .inr (7, [.ref a_h_t, .ref a_h_rl, .ref a_h_cl, .int r_n, .int r_size, .long 1])), (a_h_t, .inl (c_h_t, 11, .inr (.inr (.inr (.inr (fun i => if i < 11 then some (a_h_g i) else none)))))), (a_h_rl, .inl (c_h_rl, 10, .inl (upd s23.2.1 s23.1.toNatClampNeg (r_size + s23.1)))), (a_h_cl, .inl (c_h_cl, 16, .inl h_cl))] ++ gR a_h_g c_h_g (gU s23.2.2 s23.1.toNatClampNeg (vp_updL (s23.2.2 s23.1.toNatClampNeg) r_size.toNatClampNeg ((x_costs s23.1.toNatClampNeg).toInt64)))) := hD
        refine lv_iconst (v := 0) hx hb dX7_lay_58 (by decide) ?_
        refine lv_istore (lv' := [(4, .int 0), (0, .ref a_h), (1, .ref a_r), (2, .ref a_x_costs), (3, .int s23.1)]) hx hb dX7_lay_59 hl (by decide) rfl (fun ls hl => ?_)
        obtain ⟨e61, he61, hs⟩ := bd_s hs
        have hX61 : ∀ (H : Heap) (locs : List Loc) (ls : Array Slot), va_P (dC, dI) vwCl ([(a_x_costs, .inl (c_x_costs, 10, .inl x_costs)), (a_r, .inr (6, [.ref a_r_rows, .ref a_r_ins, .int r_size, .int r_n, .int r_parts])), (a_r_rows, .inl (c_r_rows, r_len, .inl r_rows)), (a_h, .inr (7, [.ref a_h_t, .ref a_h_rl, .ref a_h_cl, .int r_n, .int r_size, .long 1])), (a_h_t, .inl (c_h_t, 11, .inr (.inr (.inr (.inr (fun i => if i < 11 then some (a_h_g i) else none)))))), (a_h_rl, .inl (c_h_rl, 10, .inl (upd s23.2.1 s23.1.toNatClampNeg (r_size + s23.1)))), (a_h_cl, .inl (c_h_cl, 16, .inl h_cl))] ++ gR a_h_g c_h_g e61) H → va_D A ([(a_x_costs, .inl (c_x_costs, 10, .inl x_costs)), (a_r, .inr (6, [.ref a_r_rows, .ref a_r_ins, .int r_size, .int r_n, .int r_parts])), (a_r_rows, .inl (c_r_rows, r_len, .inl r_rows)), (a_h, .inr (7, [.ref a_h_t, .ref a_h_rl, .ref a_h_cl, .int r_n, .int r_size, .long 1])), (a_h_t, .inl (c_h_t, 11, .inr (.inr (.inr (.inr (fun i => if i < 11 then some (a_h_g i) else none)))))), (a_h_rl, .inl (c_h_rl, 10, .inl (upd s23.2.1 s23.1.toNatClampNeg (r_size + s23.1)))), (a_h_cl, .inl (c_h_cl, 16, .inl h_cl))] ++ gR a_h_g c_h_g e61) → va_S A s.heap H locs → lv_has ls 5 [(0, .ref a_h), (1, .ref a_r), (2, .ref a_x_costs), (3, .int s23.1)] → Z H locs 0 0 (F0 m 104 ls []) := by
          intro H locs ls hP hD hS hl
          refine hZv ?_
          refine lv_iinc (v := s23.1 + 1) (lv' := [(3, .int (s23.1 + 1)), (0, .ref a_h), (1, .ref a_r), (2, .ref a_x_costs)]) hx hb dX7_lay_104 hl (k := 3) rfl (by rfl) (by decide) rfl (fun ls hl => ?_)
          refine lv_goto (tgt := 23) hx hb dX7_lay_107 (by decide) ?_
          replace hs := Option.some.inj hs
          subst hs
          exact hZw (ih (s23.1 + 1, upd s23.2.1 s23.1.toNatClampNeg (r_size + s23.1), e61) H locs ls hn hP hD hS (lv_sub hl [1, 2, 3, 0] rfl))
        clear hs
        have hL61 : ∀ (n : Nat) (s61 : Int32 × (Nat → Nat → Int64)) (H : Heap) (locs : List Loc) (ls : Array Slot), itr (pX7_lay_L61_6 r_len r_size r_rows s23) n s61 = some e61 → va_P (dC, dI) vwCl ([(a_x_costs, .inl (c_x_costs, 10, .inl x_costs)), (a_r, .inr (6, [.ref a_r_rows, .ref a_r_ins, .int r_size, .int r_n, .int r_parts])), (a_r_rows, .inl (c_r_rows, r_len, .inl r_rows)), (a_h, .inr (7, [.ref a_h_t, .ref a_h_rl, .ref a_h_cl, .int r_n, .int r_size, .long 1])), (a_h_t, .inl (c_h_t, 11, .inr (.inr (.inr (.inr (fun i => if i < 11 then some (a_h_g i) else none)))))), (a_h_rl, .inl (c_h_rl, 10, .inl (upd s23.2.1 s23.1.toNatClampNeg (r_size + s23.1)))), (a_h_cl, .inl (c_h_cl, 16, .inl h_cl))] ++ gR a_h_g c_h_g s61.2) H → va_D A ([(a_x_costs, .inl (c_x_costs, 10, .inl x_costs)), (a_r, .inr (6, [.ref a_r_rows, .ref a_r_ins, .int r_size, .int r_n, .int r_parts])), (a_r_rows, .inl (c_r_rows, r_len, .inl r_rows)), (a_h, .inr (7, [.ref a_h_t, .ref a_h_rl, .ref a_h_cl, .int r_n, .int r_size, .long 1])), (a_h_t, .inl (c_h_t, 11, .inr (.inr (.inr (.inr (fun i => if i < 11 then some (a_h_g i) else none)))))), (a_h_rl, .inl (c_h_rl, 10, .inl (upd s23.2.1 s23.1.toNatClampNeg (r_size + s23.1)))), (a_h_cl, .inl (c_h_cl, 16, .inl h_cl))] ++ gR a_h_g c_h_g s61.2) → va_S A s.heap H locs → lv_has ls 5 [(0, .ref a_h), (1, .ref a_r), (2, .ref a_x_costs), (3, .int s23.1), (4, .int s61.1)] → Z H locs 0 0 (F0 m 61 ls []) := by
          intro n
          induction n with
          | zero =>
            intro s61 H locs ls hn
            exact (itr_0 hn).elim
          | succ n ih =>
            intro s61 H locs ls hn hP hD hS hl
            obtain ⟨y7, hs, hn⟩ := itr_s hn
            unfold pX7_lay_L61_6 at hs
            refine hZv ?_
            refine lv_iload hx hb dX7_lay_61 (lv_at hl 4 rfl) ?_
            refine lv_aload_n hx hb dX7_lay_63 rfl (lv_at hl 0 rfl) ?_
            refine va_get (D := (dC, dI)) (ci := 7) (v := .int r_size) (C := RX7) (T := TX7) (N := 6) hx hb hts hiX7 hown hK hP 3 rfl rfl 4 (by decide) hf27 (fun _ h9 => h9) rfl dX7_lay_64 ?_
            refine lv_icmp_ge (tgt := 104) hx hb dX7_lay_67 (by decide) (fun hc => ?_) (fun hc => ?_)
            · replace hs := it_t hc hs
              replace hs := Option.some.inj hs
              subst hs
              obtain rfl : s61.2 = e61 := hn
              exact hZw (hX61 H locs ls hP hD hS (lv_sub hl [0, 1, 2, 3] rfl))
            · replace hs := it_f hc hs
              refine lv_aload_n hx hb dX7_lay_70 rfl (lv_at hl 0 rfl) ?_
              refine va_get (D := (dC, dI)) (ci := 7) (v := .ref a_h_t) (C := RX7) (T := TX7) (N := 6) hx hb hts hiX7 hown hK hP 3 rfl rfl 0 (by decide) hf13 (fun _ h9 => h9) rfl dX7_lay_71 ?_
              refine lv_iload_n hx hb dX7_lay_74 rfl (lv_at hl 3 rfl) ?_
              obtain ⟨hg8, hs⟩ := gd_s hs
              refine va_aldG hx hb hK hP 4 2 rfl rfl hg8 dX7_lay_75 ?_
              refine lv_iload hx hb dX7_lay_76 (lv_at hl 4 rfl) ?_
              refine lv_aload_n hx hb dX7_lay_78 rfl (lv_at hl 1 rfl) ?_
              refine va_get (D := (dC, dI)) (ci := 6) (v := .ref a_r_rows) (C := RX6) (T := TX6) (N := 5) hx hb hts hiX6 hown hK hP 1 rfl rfl 0 (by decide) hf59 (fun _ h9 => h9) rfl dX7_lay_79 ?_
              refine lv_iload hx hb dX7_lay_82 (lv_at hl 4 rfl) ?_
              obtain ⟨hg9, hs⟩ := gd_s hs
              refine va_iald hx hb hK hP 2 1 rfl rfl hg9 dX7_lay_84 ?_
              refine lv_iload_n hx hb dX7_lay_85 rfl (lv_at hl 3 rfl) ?_
              obtain ⟨r10, hr10, hs⟩ := bd_s hs
              refine kc_i (isC := []) (isR := [0, 1, 2, 3, 4, 5, 6] ++ List.range' 7 11) (pm := [0, 1, 2, 3, 4, 5, 6] ++ List.range' 7 11) (wr := ([(a_x_costs, .inl (c_x_costs, 10, .inl x_costs)), (a_r, .inr (6, [.ref a_r_rows, .ref a_r_ins, .int r_size, .int r_n, .int r_parts])), (a_r_rows, .inl (c_r_rows, r_len, .inl r_rows)), (a_h, .inr (7, [.ref a_h_t, .ref a_h_rl, .ref a_h_cl, .int r_n, .int r_size, .long 1])), (a_h_t, .inl (c_h_t, 11, .inr (.inr (.inr (.inr (fun i => if i < 11 then some (a_h_g i) else none)))))), (a_h_rl, .inl (c_h_rl, 10, .inl (upd s23.2.1 s23.1.toNatClampNeg (r_size + s23.1)))), (a_h_cl, .inl (c_h_cl, 16, .inl h_cl))] ++ gR a_h_g c_h_g s61.2)) (w1 := []) (w2 := ([(a_x_costs, .inl (c_x_costs, 10, .inl x_costs)), (a_r, .inr (6, [.ref a_r_rows, .ref a_r_ins, .int r_size, .int r_n, .int r_parts])), (a_r_rows, .inl (c_r_rows, r_len, .inl r_rows)), (a_h, .inr (7, [.ref a_h_t, .ref a_h_rl, .ref a_h_cl, .int r_n, .int r_size, .long 1])), (a_h_t, .inl (c_h_t, 11, .inr (.inr (.inr (.inr (fun i => if i < 11 then some (a_h_g i) else none)))))), (a_h_rl, .inl (c_h_rl, 10, .inl (upd s23.2.1 s23.1.toNatClampNeg (r_size + s23.1)))), (a_h_cl, .inl (c_h_cl, 16, .inl h_cl))] ++ gR a_h_g c_h_g s61.2)) (va_runSN (As := [.int (r_rows s61.1.toNatClampNeg), .int s23.1]) (rest := [.int s61.1, .ref (a_h_g s23.1.toNatClampNeg)]) ⟨hx, hb, hml, hown, hts⟩ (c_X9_has l dC dI H.size (r_rows s61.1.toNatClampNeg) s23.1 r10 hr10) ⟨va_cnB 2 hts gX7_lay_X9_has_n61 rfl rfl rfl hN.1.2.1 (hts (.initialized RX9) (t1_ (al_ (al_ (t4_ (t4_ (t1_ (t1_ (t1_ h1_))))))))) (by decide +kernel) ⟨Nat.le_of_ble_eq_true rfl, Nat.le_of_ble_eq_true rfl⟩, hts (.static yX9_has) (t1_ (al_ (al_ (t4_ (t4_ (t1_ (t1_ h1_))))))), trivial⟩ (kp_S hK hP hD hS hA hN (isC := []) (isT := []) (wc := []) rfl (by decide +kernel) rfl) rfl rfl hl.1 rfl (lv_room (Nat.le_of_ble_eq_true rfl)) dX7_lay_86 ⟨Nat.le_of_ble_eq_true rfl, Nat.le_of_ble_eq_true rfl⟩) hP hD hS hA rfl (gC_ rfl rfl) (by decide +kernel) (by decide +kernel) (gQ_ rfl rfl) (by decide +kernel) (fun H locs hP hD hS => ?_)
              refine lv_if_eq (tgt := 96) hx hb dX7_lay_89 (by decide) (fun hc => ?_) (fun hc => ?_)
              · replace hs := it_t hc hs
                refine lv_lconst (v := 0) hx hb dX7_lay_96 (by decide) ?_
                obtain ⟨hg11, hs⟩ := gd_s hs
                refine va_lastG (X := [(a_x_costs, .inl (c_x_costs, 10, .inl x_costs)), (a_r, .inr (6, [.ref a_r_rows, .ref a_r_ins, .int r_size, .int r_n, .int r_parts])), (a_r_rows, .inl (c_r_rows, r_len, .inl r_rows)), (a_h, .inr (7, [.ref a_h_t, .ref a_h_rl, .ref a_h_cl, .int r_n, .int r_size, .long 1])), (a_h_t, .inl (c_h_t, 11, .inr (.inr (.inr (.inr (fun i => if i < 11 then some (a_h_g i) else none)))))), (a_h_rl, .inl (c_h_rl, 10, .inl (upd s23.2.1 s23.1.toNatClampNeg (r_size + s23.1)))), (a_h_cl, .inl (c_h_cl, 16, .inl h_cl))]) hx hb hK hP hD hS 5 rfl hg8 hg11 dX7_lay_97 (fun H locs hP hD hS => ?_)
                have hP : va_P (dC, dI) vwCl ([(a_x_costs, .inl (c_x_costs, 10, .inl x_costs)), (a_r, .inr (6, [.ref a_r_rows, .ref a_r_ins, .int r_size, .int r_n, .int r_parts])), (a_r_rows, .inl (c_r_rows, r_len, .inl r_rows)), (a_h, .inr (7, [.ref a_h_t, .ref a_h_rl, .ref a_h_cl, .int r_n, .int r_size, .long 1])), (a_h_t, .inl (c_h_t, 11, .inr (.inr (.inr (.inr (fun i => if i < 11 then some (a_h_g i) else none)))))), (a_h_rl, .inl (c_h_rl, 10, .inl (upd s23.2.1 s23.1.toNatClampNeg (r_size + s23.1)))), (a_h_cl, .inl (c_h_cl, 16, .inl h_cl))] ++ gR a_h_g c_h_g (gU s61.2 s23.1.toNatClampNeg (vp_updL (s61.2 s23.1.toNatClampNeg) s61.1.toNatClampNeg 0))) H := hP
                have hD : va_D A ([(a_x_costs, .inl (c_x_costs, 10, .inl x_costs)), (a_r, .inr (6, [.ref a_r_rows, .ref a_r_ins, .int r_size, .int r_n, .int r_parts])), (a_r_rows, .inl (c_r_rows, r_len, .inl r_rows)), (a_h, .inr (7, [.ref a_h_t, .ref a_h_rl, .ref a_h_cl, .int r_n, .int r_size, .long 1])), (a_h_t, .inl (c_h_t, 11, .inr (.inr (.inr (.inr (fun i => if i < 11 then some (a_h_g i) else none)))))), (a_h_rl, .inl (c_h_rl, 10, .inl (upd s23.2.1 s23.1.toNatClampNeg (r_size + s23.1)))), (a_h_cl, .inl (c_h_cl, 16, .inl h_cl))] ++ gR a_h_g c_h_g (gU s61.2 s23.1.toNatClampNeg (vp_updL (s61.2 s23.1.toNatClampNeg) s61.1.toNatClampNeg 0))) := hD
                refine lv_iinc (v := s61.1 + 1) (lv' := [(4, .int (s61.1 + 1)), (0, .ref a_h), (1, .ref a_r), (2, .ref a_x_costs), (3, .int s23.1)]) hx hb dX7_lay_98 hl (k := 4) rfl (by rfl) (by decide) rfl (fun ls hl => ?_)
                refine lv_goto (tgt := 61) hx hb dX7_lay_101 (by decide) ?_
                replace hs := Option.some.inj hs
                subst hs
                exact hZw (ih (s61.1 + 1, gU s61.2 s23.1.toNatClampNeg (vp_updL (s61.2 s23.1.toNatClampNeg) s61.1.toNatClampNeg 0)) H locs ls hn hP hD hS (lv_sub hl [1, 2, 3, 4, 0] rfl))
              · replace hs := it_f hc hs
                refine lv_lconst (v := 1) hx hb dX7_lay_92 (by decide) ?_
                refine lv_goto (tgt := 97) hx hb dX7_lay_93 (by decide) ?_
                obtain ⟨hg12, hs⟩ := gd_s hs
                refine va_lastG (X := [(a_x_costs, .inl (c_x_costs, 10, .inl x_costs)), (a_r, .inr (6, [.ref a_r_rows, .ref a_r_ins, .int r_size, .int r_n, .int r_parts])), (a_r_rows, .inl (c_r_rows, r_len, .inl r_rows)), (a_h, .inr (7, [.ref a_h_t, .ref a_h_rl, .ref a_h_cl, .int r_n, .int r_size, .long 1])), (a_h_t, .inl (c_h_t, 11, .inr (.inr (.inr (.inr (fun i => if i < 11 then some (a_h_g i) else none)))))), (a_h_rl, .inl (c_h_rl, 10, .inl (upd s23.2.1 s23.1.toNatClampNeg (r_size + s23.1)))), (a_h_cl, .inl (c_h_cl, 16, .inl h_cl))]) hx hb hK hP hD hS 5 rfl hg8 hg12 dX7_lay_97 (fun H locs hP hD hS => ?_)
                have hP : va_P (dC, dI) vwCl ([(a_x_costs, .inl (c_x_costs, 10, .inl x_costs)), (a_r, .inr (6, [.ref a_r_rows, .ref a_r_ins, .int r_size, .int r_n, .int r_parts])), (a_r_rows, .inl (c_r_rows, r_len, .inl r_rows)), (a_h, .inr (7, [.ref a_h_t, .ref a_h_rl, .ref a_h_cl, .int r_n, .int r_size, .long 1])), (a_h_t, .inl (c_h_t, 11, .inr (.inr (.inr (.inr (fun i => if i < 11 then some (a_h_g i) else none)))))), (a_h_rl, .inl (c_h_rl, 10, .inl (upd s23.2.1 s23.1.toNatClampNeg (r_size + s23.1)))), (a_h_cl, .inl (c_h_cl, 16, .inl h_cl))] ++ gR a_h_g c_h_g (gU s61.2 s23.1.toNatClampNeg (vp_updL (s61.2 s23.1.toNatClampNeg) s61.1.toNatClampNeg 1))) H := hP
                have hD : va_D A ([(a_x_costs, .inl (c_x_costs, 10, .inl x_costs)), (a_r, .inr (6, [.ref a_r_rows, .ref a_r_ins, .int r_size, .int r_n, .int r_parts])), (a_r_rows, .inl (c_r_rows, r_len, .inl r_rows)), (a_h, .inr (7, [.ref a_h_t, .ref a_h_rl, .ref a_h_cl, .int r_n, .int r_size, .long 1])), (a_h_t, .inl (c_h_t, 11, .inr (.inr (.inr (.inr (fun i => if i < 11 then some (a_h_g i) else none)))))), (a_h_rl, .inl (c_h_rl, 10, .inl (upd s23.2.1 s23.1.toNatClampNeg (r_size + s23.1)))), (a_h_cl, .inl (c_h_cl, 16, .inl h_cl))] ++ gR a_h_g c_h_g (gU s61.2 s23.1.toNatClampNeg (vp_updL (s61.2 s23.1.toNatClampNeg) s61.1.toNatClampNeg 1))) := hD
                refine lv_iinc (v := s61.1 + 1) (lv' := [(4, .int (s61.1 + 1)), (0, .ref a_h), (1, .ref a_r), (2, .ref a_x_costs), (3, .int s23.1)]) hx hb dX7_lay_98 hl (k := 4) rfl (by rfl) (by decide) rfl (fun ls hl => ?_)
                refine lv_goto (tgt := 61) hx hb dX7_lay_101 (by decide) ?_
                replace hs := Option.some.inj hs
                subst hs
                exact hZw (ih (s61.1 + 1, gU s61.2 s23.1.toNatClampNeg (vp_updL (s61.2 s23.1.toNatClampNeg) s61.1.toNatClampNeg 1)) H locs ls hn hP hD hS (lv_sub hl [1, 2, 3, 4, 0] rfl))
        obtain ⟨n61, hn61⟩ := lp_ex he61
        exact hZw (hL61 n61 (0, gU s23.2.2 s23.1.toNatClampNeg (vp_updL (s23.2.2 s23.1.toNatClampNeg) r_size.toNatClampNeg ((x_costs s23.1.toNatClampNeg).toInt64))) H locs ls hn61 hP hD hS (lv_sub hl [1, 2, 3, 4, 0] rfl))
  obtain ⟨n23, hn23⟩ := lp_ex he23
  exact hZw (hL23 n23 (0, h_rl, h_g) H locs ls hn23 hP hD hS (lv_sub hl [1, 2, 3, 0] rfl))
