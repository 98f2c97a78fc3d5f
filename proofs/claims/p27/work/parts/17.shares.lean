noncomputable def pX7_above (h_rows : Int32) (h_columns : Int32) (h_g : Nat → Nat → Int64) : Option (Int64) :=
  gd (vp_in h_rows 11) (gd (vp_in h_columns 17) (some (h_g h_rows.toNatClampNeg h_columns.toNatClampNeg)))
set_option maxHeartbeats 4000000 in
set_option maxRecDepth 100000 in
theorem c_X7_above (l : Launch) (dC : Nat → ClassId) (dI : Nat → Nat → Nat) (a_h : Nat) (a_h_t : Nat) (a_h_rl : Nat) (a_h_cl : Nat) (a_h_g : Nat → Nat) (c_h_t c_h_g : ClassId) (sz : Nat) (h_rows : Int32) (h_columns : Int32) (h_divisor : Int64) (h_g : Nat → Nat → Int64) (rv : Int64) (hs : pX7_above h_rows h_columns h_g = some rv) : Met l yX7_above wsX7_above ({ frames := 0, cells := 0, slots := 0, locals := 0 }) (sPc [.ref a_h] (dC, dI) [(c_h_t, .array .long), (c_h_g, .long)] ([(a_h, .inr (7, [.ref a_h_t, .ref a_h_rl, .ref a_h_cl, .int h_rows, .int h_columns, .long h_divisor])), (a_h_t, .inl (c_h_t, 11, .inr (.inr (.inr (.inr (fun i => if i < 11 then some (a_h_g i) else none))))))] ++ gR a_h_g c_h_g h_g) sz) (va_Ql (fun (r : Int64) (_ : Unit) => r = rv) (sB (dC, dI) [(c_h_t, .array .long), (c_h_g, .long)] (va_A ([(a_h, .inr (7, [.ref a_h_t, .ref a_h_rl, .ref a_h_cl, .int h_rows, .int h_columns, .long h_divisor])), (a_h_t, .inl (c_h_t, 11, .inr (.inr (.inr (.inr (fun i => if i < 11 then some (a_h_g i) else none))))))] ++ gR a_h_g c_h_g h_g) sz) ([(a_h, .inr (7, [.ref a_h_t, .ref a_h_rl, .ref a_h_cl, .int h_rows, .int h_columns, .long h_divisor])), (a_h_t, .inl (c_h_t, 11, .inr (.inr (.inr (.inr (fun i => if i < 11 then some (a_h_g i) else none))))))] ++ gR a_h_g c_h_g h_g)) (va_A ([(a_h, .inr (7, [.ref a_h_t, .ref a_h_rl, .ref a_h_cl, .int h_rows, .int h_columns, .long h_divisor])), (a_h_t, .inl (c_h_t, 11, .inr (.inr (.inr (.inr (fun i => if i < 11 then some (a_h_g i) else none))))))] ++ gR a_h_g c_h_g h_g) sz)) 0 0 (va_A ([(a_h, .inr (7, [.ref a_h_t, .ref a_h_rl, .ref a_h_cl, .int h_rows, .int h_columns, .long h_divisor])), (a_h_t, .inl (c_h_t, 11, .inr (.inr (.inr (.inr (fun i => if i < 11 then some (a_h_g i) else none))))))] ++ gR a_h_g c_h_g h_g) sz) := by
  refine Met.ofW (cc := cX7_above) (maxL := 1) (ret := (some .long)) (by decide) rfl ?_
  intro p e s m args below meth c s₁ B hml hv
  obtain ⟨rfl, hsz, hP, hK, hD0, hN⟩ := hv
  have hx := B.exec
  have hb := B.bytes
  have hr := B.returns
  have hts := atoms_spec (ws := wsX7_above) B.pre
  have hown : s.vm.findClass RX7 = some m.cls := findClass_of_methodNamed B.named
  have hlocks := B.notSynchronized
  subst hsz
  have hD := hD0.self (sz := s.heap.size)
  generalize hAe : va_A ([(a_h, .inr (7, [.ref a_h_t, .ref a_h_rl, .ref a_h_cl, .int h_rows, .int h_columns, .long h_divisor])), (a_h_t, .inl (c_h_t, 11, .inr (.inr (.inr (.inr (fun i => if i < 11 then some (a_h_g i) else none))))))] ++ gR a_h_g c_h_g h_g) s.heap.size = A at hD hN ⊢
  have hA : ∀ q : Nat, s.heap.size ≤ q → A q := fun q h => by rw [← hAe]; exact Or.inr h
  have hS : va_S A s.heap s.heap [] := va_S.rf
  have hP : va_P (dC, dI) vwCl ([(a_h, .inr (7, [.ref a_h_t, .ref a_h_rl, .ref a_h_cl, .int h_rows, .int h_columns, .long h_divisor])), (a_h_t, .inl (c_h_t, 11, .inr (.inr (.inr (.inr (fun i => if i < 11 then some (a_h_g i) else none))))))] ++ gR a_h_g c_h_g h_g) s.heap := hP
  have hl := lv_entry ([.ref a_h]) (n := 1) (Nat.le_of_ble_eq_true rfl)
  rw [lg_entry_eq]
  generalize (lg_sl ([.ref a_h]) ++ List.replicate (1 - (lg_sl ([.ref a_h])).length) Slot.unset).toArray = ls at hl ⊢
  have hl : lv_has ls 1 [(0, .ref a_h)] := hl
  have hiX7 : ∀ w ∈ wsX70, w ∈ wsX7_above := fun _ h => List.mem_cons_of_mem _ (List.mem_append_right _ h)
  have hf13 := hts (.fieldLink RX7 13 "MeetSets$Shares" "table" "[[J") (t1_ (al_ h1_))
  have hf23 := hts (.fieldLink RX7 23 "MeetSets$Shares" "rows" "I") (t1_ (al_ (t1_ h1_)))
  have hf27 := hts (.fieldLink RX7 27 "MeetSets$Shares" "columns" "I") (t1_ (al_ (t1_ (t1_ h1_))))
  refine w_abs (fun Z hZv hZw => ?_)
  refine hZv ?_
  obtain ⟨H, hH⟩ : ∃ H, H = s.heap := ⟨_, rfl⟩
  obtain ⟨locs, hlo⟩ : ∃ L : List Loc, L = [] := ⟨_, rfl⟩
  rw [← hlo, ← hH]
  have hS : va_S A s.heap H locs := by rw [hlo, hH]; exact hS
  have hP : va_P (dC, dI) vwCl ([(a_h, .inr (7, [.ref a_h_t, .ref a_h_rl, .ref a_h_cl, .int h_rows, .int h_columns, .long h_divisor])), (a_h_t, .inl (c_h_t, 11, .inr (.inr (.inr (.inr (fun i => if i < 11 then some (a_h_g i) else none))))))] ++ gR a_h_g c_h_g h_g) H := by rw [hH]; exact hP
  clear hH hlo
  unfold pX7_above at hs
  refine lv_aload_n hx hb dX7_above_0 rfl (lv_at hl 0 rfl) ?_
  refine va_get (D := (dC, dI)) (ci := 7) (v := .ref a_h_t) (C := RX7) (T := TX7) (N := 6) hx hb hts hiX7 hown hK hP 0 rfl rfl 0 (by decide) hf13 (fun _ h9 => h9) rfl dX7_above_1 ?_
  refine lv_aload_n hx hb dX7_above_4 rfl (lv_at hl 0 rfl) ?_
  refine va_get (D := (dC, dI)) (ci := 7) (v := .int h_rows) (C := RX7) (T := TX7) (N := 6) hx hb hts hiX7 hown hK hP 0 rfl rfl 3 (by decide) hf23 (fun _ h9 => h9) rfl dX7_above_5 ?_
  obtain ⟨hg1, hs⟩ := gd_s hs
  refine va_aldG hx hb hK hP 1 0 rfl rfl hg1 dX7_above_8 ?_
  refine lv_aload_n hx hb dX7_above_9 rfl (lv_at hl 0 rfl) ?_
  refine va_get (D := (dC, dI)) (ci := 7) (v := .int h_columns) (C := RX7) (T := TX7) (N := 6) hx hb hts hiX7 hown hK hP 0 rfl rfl 4 (by decide) hf27 (fun _ h9 => h9) rfl dX7_above_10 ?_
  obtain ⟨hg2, hs⟩ := gd_s hs
  refine va_laldG (X := [(a_h, .inr (7, [.ref a_h_t, .ref a_h_rl, .ref a_h_cl, .int h_rows, .int h_columns, .long h_divisor])), (a_h_t, .inl (c_h_t, 11, .inr (.inr (.inr (.inr (fun i => if i < 11 then some (a_h_g i) else none))))))]) hx hb hK hP 1 rfl hg1 hg2 dX7_above_13 ?_
  replace hs := Option.some.inj hs
  subst hs
  exact W.lret (v := h_g h_rows.toNatClampNeg h_columns.toNatClampNeg) hx hb hr (fun t ht hW => ⟨⟨h_g h_rows.toNatClampNeg h_columns.toNatClampNeg, (), rfl, rfl, by rw [ht]; exact hP, va_K.moved hW.alike hK, hD⟩, hS.F ht⟩) hS.2.2 dX7_above_14
noncomputable def pX7_below (h_divisor : Int64) : Option (Int64) :=
  some h_divisor
set_option maxHeartbeats 4000000 in
set_option maxRecDepth 100000 in
theorem c_X7_below (l : Launch) (dC : Nat → ClassId) (dI : Nat → Nat → Nat) (a_h : Nat) (a_h_t : Nat) (a_h_rl : Nat) (a_h_cl : Nat) (sz : Nat) (h_rows : Int32) (h_columns : Int32) (h_divisor : Int64) (rv : Int64) (hs : pX7_below h_divisor = some rv) : Met l yX7_below wsX7_below ({ frames := 0, cells := 0, slots := 0, locals := 0 }) (sPc [.ref a_h] (dC, dI) [] [(a_h, .inr (7, [.ref a_h_t, .ref a_h_rl, .ref a_h_cl, .int h_rows, .int h_columns, .long h_divisor]))] sz) (va_Ql (fun (r : Int64) (_ : Unit) => r = rv) (sB (dC, dI) [] (va_A [(a_h, .inr (7, [.ref a_h_t, .ref a_h_rl, .ref a_h_cl, .int h_rows, .int h_columns, .long h_divisor]))] sz) [(a_h, .inr (7, [.ref a_h_t, .ref a_h_rl, .ref a_h_cl, .int h_rows, .int h_columns, .long h_divisor]))]) (va_A [(a_h, .inr (7, [.ref a_h_t, .ref a_h_rl, .ref a_h_cl, .int h_rows, .int h_columns, .long h_divisor]))] sz)) 0 0 (va_A [(a_h, .inr (7, [.ref a_h_t, .ref a_h_rl, .ref a_h_cl, .int h_rows, .int h_columns, .long h_divisor]))] sz) := by
  refine Met.ofW (cc := cX7_below) (maxL := 1) (ret := (some .long)) (by decide) rfl ?_
  intro p e s m args below meth c s₁ B hml hv
  obtain ⟨rfl, hsz, hP, hK, hD0, hN⟩ := hv
  have hx := B.exec
  have hb := B.bytes
  have hr := B.returns
  have hts := atoms_spec (ws := wsX7_below) B.pre
  have hown : s.vm.findClass RX7 = some m.cls := findClass_of_methodNamed B.named
  have hlocks := B.notSynchronized
  subst hsz
  have hD := hD0.self (sz := s.heap.size)
  generalize hAe : va_A [(a_h, .inr (7, [.ref a_h_t, .ref a_h_rl, .ref a_h_cl, .int h_rows, .int h_columns, .long h_divisor]))] s.heap.size = A at hD hN ⊢
  have hA : ∀ q : Nat, s.heap.size ≤ q → A q := fun q h => by rw [← hAe]; exact Or.inr h
  have hS : va_S A s.heap s.heap [] := va_S.rf
  have hP : va_P (dC, dI) vwCl [(a_h, .inr (7, [.ref a_h_t, .ref a_h_rl, .ref a_h_cl, .int h_rows, .int h_columns, .long h_divisor]))] s.heap := hP
  have hl := lv_entry ([.ref a_h]) (n := 1) (Nat.le_of_ble_eq_true rfl)
  rw [lg_entry_eq]
  generalize (lg_sl ([.ref a_h]) ++ List.replicate (1 - (lg_sl ([.ref a_h])).length) Slot.unset).toArray = ls at hl ⊢
  have hl : lv_has ls 1 [(0, .ref a_h)] := hl
  have hiX7 : ∀ w ∈ wsX70, w ∈ wsX7_below := fun _ h => List.mem_cons_of_mem _ (List.mem_append_right _ h)
  have hf30 := hts (.fieldLink RX7 30 "MeetSets$Shares" "divisor" "J") (t1_ (al_ h1_))
  refine w_abs (fun Z hZv hZw => ?_)
  refine hZv ?_
  obtain ⟨H, hH⟩ : ∃ H, H = s.heap := ⟨_, rfl⟩
  obtain ⟨locs, hlo⟩ : ∃ L : List Loc, L = [] := ⟨_, rfl⟩
  rw [← hlo, ← hH]
  have hS : va_S A s.heap H locs := by rw [hlo, hH]; exact hS
  have hP : va_P (dC, dI) vwCl [(a_h, .inr (7, [.ref a_h_t, .ref a_h_rl, .ref a_h_cl, .int h_rows, .int h_columns, .long h_divisor]))] H := by rw [hH]; exact hP
  clear hH hlo
  unfold pX7_below at hs
  refine lv_aload_n hx hb dX7_below_0 rfl (lv_at hl 0 rfl) ?_
  refine va_get (D := (dC, dI)) (ci := 7) (v := .long h_divisor) (C := RX7) (T := TX7) (N := 6) hx hb hts hiX7 hown hK hP 0 rfl rfl 5 (by decide) hf30 (fun _ h9 => h9) rfl dX7_below_1 ?_
  replace hs := Option.some.inj hs
  subst hs
  exact W.lret (v := h_divisor) hx hb hr (fun t ht hW => ⟨⟨h_divisor, (), rfl, rfl, by rw [ht]; exact hP, va_K.moved hW.alike hK, hD⟩, hS.F ht⟩) hS.2.2 dX7_below_4
noncomputable def pX7_lay_L61_6 (r_len : Nat) (r_size : Int32) (r_rows : Nat → Int32) (s23 : Int32 × (Nat → Int32) × (Nat → Nat → Int64)) (s61 : Int32 × (Nat → Nat → Int64)) : Option ((Int32 × (Nat → Nat → Int64)) ⊕ (Nat → Nat → Int64)) :=
  if r_size ≤ s61.1 then (some (Sum.inr s61.2)) else (gd (vp_in s23.1 11) (gd (vp_in s61.1 r_len) (Option.bind (pX9_has (r_rows s61.1.toNatClampNeg) s23.1) (fun r10 => if r10 = 0 then (gd (vp_in s61.1 17) (some (Sum.inl (s61.1 + 1, gU s61.2 s23.1.toNatClampNeg (vp_updL (s61.2 s23.1.toNatClampNeg) s61.1.toNatClampNeg 0))))) else (gd (vp_in s61.1 17) (some (Sum.inl (s61.1 + 1, gU s61.2 s23.1.toNatClampNeg (vp_updL (s61.2 s23.1.toNatClampNeg) s61.1.toNatClampNeg 1)))))))))
noncomputable def pX7_lay_L23 (r_len : Nat) (x_costs : Nat → Int32) (r_size : Int32) (r_n : Int32) (r_rows : Nat → Int32) (s23 : Int32 × (Nat → Int32) × (Nat → Nat → Int64)) : Option ((Int32 × (Nat → Int32) × (Nat → Nat → Int64)) ⊕ ((Nat → Int32) × (Nat → Nat → Int64))) :=
  if r_n ≤ s23.1 then (some (Sum.inr (s23.2.1, s23.2.2))) else (gd (vp_in s23.1 10) (gd (vp_in s23.1 11) (gd (vp_in s23.1 10) (gd (vp_in r_size 17) (Option.bind (lp (pX7_lay_L61_6 r_len r_size r_rows s23) (0, gU s23.2.2 s23.1.toNatClampNeg (vp_updL (s23.2.2 s23.1.toNatClampNeg) r_size.toNatClampNeg ((x_costs s23.1.toNatClampNeg).toInt64)))) (fun e61 => some (Sum.inl (s23.1 + 1, upd s23.2.1 s23.1.toNatClampNeg (r_size + s23.1), e61))))))))
noncomputable def pX7_lay_L112 (r_size : Int32) (r_n : Int32) (s112 : Int32 × (Nat → Int32) × (Nat → Nat → Int64)) : Option ((Int32 × (Nat → Int32) × (Nat → Nat → Int64)) ⊕ ((Nat → Int32) × (Nat → Nat → Int64))) :=
  if r_size ≤ s112.1 then (some (Sum.inr (s112.2.1, s112.2.2))) else (gd (vp_in s112.1 16) (gd (vp_in r_n 11) (gd (vp_in s112.1 17) (some (Sum.inl (s112.1 + 1, upd s112.2.1 s112.1.toNatClampNeg s112.1, gU s112.2.2 r_n.toNatClampNeg (vp_updL (s112.2.2 r_n.toNatClampNeg) s112.1.toNatClampNeg (-1))))))))
noncomputable def pX7_lay (r_len : Nat) (x_costs : Nat → Int32) (r_size : Int32) (r_n : Int32) (r_rows : Nat → Int32) (h_rows : Int32) (h_columns : Int32) (h_divisor : Int64) (h_rl : Nat → Int32) (h_cl : Nat → Int32) (h_g : Nat → Nat → Int64) : Option (Int32 × Int32 × Int64 × (Nat → Int32) × (Nat → Int32) × (Nat → Nat → Int64)) :=
  Option.bind (lp (pX7_lay_L23 r_len x_costs r_size r_n r_rows) (0, h_rl, h_g)) (fun e23 => Option.bind (lp (pX7_lay_L112 r_size r_n) (0, h_cl, e23.2)) (fun e112 => gd (vp_in r_n 11) (gd (vp_in r_size 17) (some (r_n, r_size, 1, e23.1, e112.1, gU e112.2 r_n.toNatClampNeg (vp_updL (e112.2 r_n.toNatClampNeg) r_size.toNatClampNeg 0))))))
set_option maxHeartbeats 4000000 in
set_option maxRecDepth 100000 in
theorem c_X7_lay (l : Launch) (dC : Nat → ClassId) (dI : Nat → Nat → Nat) (a_x_costs : Nat) (a_r : Nat) (a_r_rows : Nat) (a_r_ins : Nat) (a_h : Nat) (a_h_t : Nat) (a_h_rl : Nat) (a_h_cl : Nat) (a_h_g : Nat → Nat) (c_x_costs c_r_rows c_h_t c_h_rl c_h_cl c_h_g : ClassId) (r_len : Nat) (sz : Nat) (x_costs : Nat → Int32) (r_size : Int32) (r_n : Int32) (r_parts : Int32) (r_rows : Nat → Int32) (h_rows : Int32) (h_columns : Int32) (h_divisor : Int64) (h_rl : Nat → Int32) (h_cl : Nat → Int32) (h_g : Nat → Nat → Int64) (rv : Int32 × Int32 × Int64 × (Nat → Int32) × (Nat → Int32) × (Nat → Nat → Int64)) (hs : pX7_lay r_len x_costs r_size r_n r_rows h_rows h_columns h_divisor h_rl h_cl h_g = some rv) : Met l yX7_lay wsX7_lay ({ frames := 1, cells := 0, slots := 0, locals := 21 }) (sPc [.ref a_h, .ref a_r, .ref a_x_costs] (dC, dI) [(c_x_costs, .int), (c_r_rows, .int), (c_h_t, .array .long), (c_h_rl, .int), (c_h_cl, .int), (c_h_g, .long)] ([(a_x_costs, .inl (c_x_costs, 10, .inl x_costs)), (a_r, .inr (6, [.ref a_r_rows, .ref a_r_ins, .int r_size, .int r_n, .int r_parts])), (a_r_rows, .inl (c_r_rows, r_len, .inl r_rows)), (a_h, .inr (7, [.ref a_h_t, .ref a_h_rl, .ref a_h_cl, .int h_rows, .int h_columns, .long h_divisor])), (a_h_t, .inl (c_h_t, 11, .inr (.inr (.inr (.inr (fun i => if i < 11 then some (a_h_g i) else none)))))), (a_h_rl, .inl (c_h_rl, 10, .inl h_rl)), (a_h_cl, .inl (c_h_cl, 16, .inl h_cl))] ++ gR a_h_g c_h_g h_g) sz) (va_Qv (fun (_ : Unit) => True) (sB (dC, dI) [(c_x_costs, .int), (c_r_rows, .int), (c_h_t, .array .long), (c_h_rl, .int), (c_h_cl, .int), (c_h_g, .long)] (va_A ([(a_x_costs, .inl (c_x_costs, 10, .inl x_costs)), (a_r, .inr (6, [.ref a_r_rows, .ref a_r_ins, .int r_size, .int r_n, .int r_parts])), (a_r_rows, .inl (c_r_rows, r_len, .inl r_rows)), (a_h, .inr (7, [.ref a_h_t, .ref a_h_rl, .ref a_h_cl, .int h_rows, .int h_columns, .long h_divisor])), (a_h_t, .inl (c_h_t, 11, .inr (.inr (.inr (.inr (fun i => if i < 11 then some (a_h_g i) else none)))))), (a_h_rl, .inl (c_h_rl, 10, .inl h_rl)), (a_h_cl, .inl (c_h_cl, 16, .inl h_cl))] ++ gR a_h_g c_h_g h_g) sz) ([(a_x_costs, .inl (c_x_costs, 10, .inl x_costs)), (a_r, .inr (6, [.ref a_r_rows, .ref a_r_ins, .int r_size, .int r_n, .int r_parts])), (a_r_rows, .inl (c_r_rows, r_len, .inl r_rows)), (a_h, .inr (7, [.ref a_h_t, .ref a_h_rl, .ref a_h_cl, .int rv.1, .int rv.2.1, .long rv.2.2.1])), (a_h_t, .inl (c_h_t, 11, .inr (.inr (.inr (.inr (fun i => if i < 11 then some (a_h_g i) else none)))))), (a_h_rl, .inl (c_h_rl, 10, .inl rv.2.2.2.1)), (a_h_cl, .inl (c_h_cl, 16, .inl rv.2.2.2.2.1))] ++ gR a_h_g c_h_g rv.2.2.2.2.2)) (va_A ([(a_x_costs, .inl (c_x_costs, 10, .inl x_costs)), (a_r, .inr (6, [.ref a_r_rows, .ref a_r_ins, .int r_size, .int r_n, .int r_parts])), (a_r_rows, .inl (c_r_rows, r_len, .inl r_rows)), (a_h, .inr (7, [.ref a_h_t, .ref a_h_rl, .ref a_h_cl, .int h_rows, .int h_columns, .long h_divisor])), (a_h_t, .inl (c_h_t, 11, .inr (.inr (.inr (.inr (fun i => if i < 11 then some (a_h_g i) else none)))))), (a_h_rl, .inl (c_h_rl, 10, .inl h_rl)), (a_h_cl, .inl (c_h_cl, 16, .inl h_cl))] ++ gR a_h_g c_h_g h_g) sz)) 0 0 (va_A ([(a_x_costs, .inl (c_x_costs, 10, .inl x_costs)), (a_r, .inr (6, [.ref a_r_rows, .ref a_r_ins, .int r_size, .int r_n, .int r_parts])), (a_r_rows, .inl (c_r_rows, r_len, .inl r_rows)), (a_h, .inr (7, [.ref a_h_t, .ref a_h_rl, .ref a_h_cl, .int h_rows, .int h_columns, .long h_divisor])), (a_h_t, .inl (c_h_t, 11, .inr (.inr (.inr (.inr (fun i => if i < 11 then some (a_h_g i) else none)))))), (a_h_rl, .inl (c_h_rl, 10, .inl h_rl)), (a_h_cl, .inl (c_h_cl, 16, .inl h_cl))] ++ gR a_h_g c_h_g h_g) sz) := by
  refine Met.ofW (cc := cX7_lay) (maxL := 5) (ret := none) (by decide) rfl ?_
  intro p e s m args below meth c s₁ B hml hv
  obtain ⟨rfl, hsz, hP, hK, hD0, hN⟩ := hv
  have hx := B.exec
  have hb := B.bytes
  have hr := B.returns
  have hts := atoms_spec (ws := wsX7_lay) B.pre
  have hown : s.vm.findClass RX7 = some m.cls := findClass_of_methodNamed B.named
  have hlocks := B.notSynchronized
  subst hsz
  have hD := hD0.self (sz := s.heap.size)
  generalize hAe : va_A ([(a_x_costs, .inl (c_x_costs, 10, .inl x_costs)), (a_r, .inr (6, [.ref a_r_rows, .ref a_r_ins, .int r_size, .int r_n, .int r_parts])), (a_r_rows, .inl (c_r_rows, r_len, .inl r_rows)), (a_h, .inr (7, [.ref a_h_t, .ref a_h_rl, .ref a_h_cl, .int h_rows, .int h_columns, .long h_divisor])), (a_h_t, .inl (c_h_t, 11, .inr (.inr (.inr (.inr (fun i => if i < 11 then some (a_h_g i) else none)))))), (a_h_rl, .inl (c_h_rl, 10, .inl h_rl)), (a_h_cl, .inl (c_h_cl, 16, .inl h_cl))] ++ gR a_h_g c_h_g h_g) s.heap.size = A at hD hN ⊢
  have hA : ∀ q : Nat, s.heap.size ≤ q → A q := fun q h => by rw [← hAe]; exact Or.inr h
  have hS : va_S A s.heap s.heap [] := va_S.rf
  have hP : va_P (dC, dI) vwCl ([(a_x_costs, .inl (c_x_costs, 10, .inl x_costs)), (a_r, .inr (6, [.ref a_r_rows, .ref a_r_ins, .int r_size, .int r_n, .int r_parts])), (a_r_rows, .inl (c_r_rows, r_len, .inl r_rows)), (a_h, .inr (7, [.ref a_h_t, .ref a_h_rl, .ref a_h_cl, .int h_rows, .int h_columns, .long h_divisor])), (a_h_t, .inl (c_h_t, 11, .inr (.inr (.inr (.inr (fun i => if i < 11 then some (a_h_g i) else none)))))), (a_h_rl, .inl (c_h_rl, 10, .inl h_rl)), (a_h_cl, .inl (c_h_cl, 16, .inl h_cl))] ++ gR a_h_g c_h_g h_g) s.heap := hP
  have hl := lv_entry ([.ref a_h, .ref a_r, .ref a_x_costs]) (n := 5) (Nat.le_of_ble_eq_true rfl)
  rw [lg_entry_eq]
  generalize (lg_sl ([.ref a_h, .ref a_r, .ref a_x_costs]) ++ List.replicate (5 - (lg_sl ([.ref a_h, .ref a_r, .ref a_x_costs])).length) Slot.unset).toArray = ls at hl ⊢
  have hl : lv_has ls 5 [(0, .ref a_h), (1, .ref a_r), (2, .ref a_x_costs)] := hl
  have hiX6 : ∀ w ∈ wsX60, w ∈ wsX7_lay := fun _ h => List.mem_cons_of_mem _ (List.mem_append_left _ (List.mem_append_right _ h))
  have hf51 := hts (.fieldLink RX7 51 "MeetSets$SetRow" "n" "I") (t1_ (al_ (al_ h1_)))
  have hiX7 : ∀ w ∈ wsX70, w ∈ wsX7_lay := fun _ h => List.mem_cons_of_mem _ (List.mem_append_right _ h)
  have hf23 := hts (.fieldLink RX7 23 "MeetSets$Shares" "rows" "I") (t1_ (al_ (al_ (t1_ h1_))))
  have hf56 := hts (.fieldLink RX7 56 "MeetSets$SetRow" "size" "I") (t1_ (al_ (al_ (t1_ (t1_ h1_)))))
  have hf27 := hts (.fieldLink RX7 27 "MeetSets$Shares" "columns" "I") (t1_ (al_ (al_ (t1_ (t1_ (t1_ h1_))))))
  have hf30 := hts (.fieldLink RX7 30 "MeetSets$Shares" "divisor" "J") (t1_ (al_ (al_ (t4_ h1_))))
  have hf16 := hts (.fieldLink RX7 16 "MeetSets$Shares" "rowLabels" "[I") (t1_ (al_ (al_ (t4_ (t1_ h1_)))))
  have hf13 := hts (.fieldLink RX7 13 "MeetSets$Shares" "table" "[[J") (t1_ (al_ (al_ (t4_ (t1_ (t1_ h1_))))))
  have hf59 := hts (.fieldLink RX7 59 "MeetSets$SetRow" "rows" "[I") (t1_ (al_ (al_ (t4_ (t1_ (t1_ (t1_ h1_)))))))
  have hf20 := hts (.fieldLink RX7 20 "MeetSets$Shares" "columnLabels" "[I") (t1_ (al_ (al_ (t4_ (t4_ h1_)))))
  refine w_abs (fun Z hZv hZw => ?_)
  refine hZv ?_
  obtain ⟨H, hH⟩ : ∃ H, H = s.heap := ⟨_, rfl⟩
  obtain ⟨locs, hlo⟩ : ∃ L : List Loc, L = [] := ⟨_, rfl⟩
  rw [← hlo, ← hH]
  have hS : va_S A s.heap H locs := by rw [hlo, hH]; exact hS
  have hP : va_P (dC, dI) vwCl ([(a_x_costs, .inl (c_x_costs, 10, .inl x_costs)), (a_r, .inr (6, [.ref a_r_rows, .ref a_r_ins, .int r_size, .int r_n, .int r_parts])), (a_r_rows, .inl (c_r_rows, r_len, .inl r_rows)), (a_h, .inr (7, [.ref a_h_t, .ref a_h_rl, .ref a_h_cl, .int h_rows, .int h_columns, .long h_divisor])), (a_h_t, .inl (c_h_t, 11, .inr (.inr (.inr (.inr (fun i => if i < 11 then some (a_h_g i) else none)))))), (a_h_rl, .inl (c_h_rl, 10, .inl h_rl)), (a_h_cl, .inl (c_h_cl, 16, .inl h_cl))] ++ gR a_h_g c_h_g h_g) H := by rw [hH]; exact hP
  clear hH hlo
  unfold pX7_lay at hs
  refine lv_aload_n hx hb dX7_lay_0 rfl (lv_at hl 0 rfl) ?_
  refine lv_aload_n hx hb dX7_lay_1 rfl (lv_at hl 1 rfl) ?_
  refine va_get (D := (dC, dI)) (ci := 6) (v := .int r_n) (C := RX6) (T := TX6) (N := 5) hx hb hts hiX6 hown hK hP 1 rfl rfl 3 (by decide) hf51 (fun _ h9 => h9) rfl dX7_lay_2 ?_
  refine va_put (D := (dC, dI)) (ci := 7) (v := .int r_n) (ty := .int) (C := RX7) (T := TX7) (N := 6) hx hb hts hiX7 tyX7 tyX7_ok nmX7 hown hK hP hD hS 3 rfl rfl 3 (by decide) hf23 (fun _ h9 => h9) rfl (by decide +kernel) rfl rfl (Nat.le_of_ble_eq_true rfl) dX7_lay_5 (fun H locs hP hD hS => ?_)
  have hP : va_P (dC, dI) vwCl ([(a_x_costs, .inl (c_x_costs, 10, .inl x_costs)), (a_r, .inr (6, [.ref a_r_rows, .ref a_r_ins, .int r_size, .int r_n, .int r_parts])), (a_r_rows, .inl (c_r_rows, r_len, .inl r_rows)), (a_h, .inr (7, [.ref a_h_t, .ref a_h_rl, .ref a_h_cl, .int r_n, .int h_columns, .long h_divisor])), (a_h_t, .inl (c_h_t, 11, .inr (.inr (.inr (.inr (fun i => if i < 11 then some (a_h_g i) else none)))))), (a_h_rl, .inl (c_h_rl, 10, .inl h_rl)), (a_h_cl, .inl (c_h_cl, 16, .inl h_cl))] ++ gR a_h_g c_h_g h_g) H := hP
  have hD : va_D A ([(a_x_costs, .inl (c_x_costs, 10, .inl x_costs)), (a_r, .inr (6, [.ref a_r_rows, .ref a_r_ins, .int r_size, .int r_n, .int r_parts])), (a_r_rows, .inl (c_r_rows, r_len, .inl r_rows)), (a_h, .inr (7, [.ref a_h_t, .ref a_h_rl, .ref a_h_cl, .int r_n, .int h_columns, .long h_divisor])), (a_h_t, .inl (c_h_t, 11, .inr (.inr (.inr (.inr (fun i => if i < 11 then some (a_h_g i) else none)))))), (a_h_rl, .inl (c_h_rl, 10, .inl h_rl)), (a_h_cl, .inl (c_h_cl, 16, .inl h_cl))] ++ gR a_h_g c_h_g h_g) := hD
  refine lv_aload_n hx hb dX7_lay_8 rfl (lv_at hl 0 rfl) ?_
  refine lv_aload_n hx hb dX7_lay_9 rfl (lv_at hl 1 rfl) ?_
  refine va_get (D := (dC, dI)) (ci := 6) (v := .int r_size) (C := RX6) (T := TX6) (N := 5) hx hb hts hiX6 hown hK hP 1 rfl rfl 2 (by decide) hf56 (fun _ h9 => h9) rfl dX7_lay_10 ?_
  refine va_put (D := (dC, dI)) (ci := 7) (v := .int r_size) (ty := .int) (C := RX7) (T := TX7) (N := 6) hx hb hts hiX7 tyX7 tyX7_ok nmX7 hown hK hP hD hS 3 rfl rfl 4 (by decide) hf27 (fun _ h9 => h9) rfl (by decide +kernel) rfl rfl (Nat.le_of_ble_eq_true rfl) dX7_lay_13 (fun H locs hP hD hS => ?_)
  have hP : va_P (dC, dI) vwCl ([(a_x_costs, .inl (c_x_costs, 10, .inl x_costs)), (a_r, .inr (6, [.ref a_r_rows, .ref a_r_ins, .int r_size, .int r_n, .int r_parts])), (a_r_rows, .inl (c_r_rows, r_len, .inl r_rows)), (a_h, .inr (7, [.ref a_h_t, .ref a_h_rl, .ref a_h_cl, .int r_n, .int r_size, .long h_divisor])), (a_h_t, .inl (c_h_t, 11, .inr (.inr (.inr (.inr (fun i => if i < 11 then some (a_h_g i) else none)))))), (a_h_rl, .inl (c_h_rl, 10, .inl h_rl)), (a_h_cl, .inl (c_h_cl, 16, .inl h_cl))] ++ gR a_h_g c_h_g h_g) H := hP
  have hD : va_D A ([(a_x_costs, .inl (c_x_costs, 10, .inl x_costs)), (a_r, .inr (6, [.ref a_r_rows, .ref a_r_ins, .int r_size, .int r_n, .int r_parts])), (a_r_rows, .inl (c_r_rows, r_len, .inl r_rows)), (a_h, .inr (7, [.ref a_h_t, .ref a_h_rl, .ref a_h_cl, .int r_n, .int r_size, .long h_divisor])), (a_h_t, .inl (c_h_t, 11, .inr (.inr (.inr (.inr (fun i => if i < 11 then some (a_h_g i) else none)))))), (a_h_rl, .inl (c_h_rl, 10, .inl h_rl)), (a_h_cl, .inl (c_h_cl, 16, .inl h_cl))] ++ gR a_h_g c_h_g h_g) := hD
  refine lv_aload_n hx hb dX7_lay_16 rfl (lv_at hl 0 rfl) ?_
  refine lv_lconst (v := 1) hx hb dX7_lay_17 (by decide) ?_
  refine va_put (D := (dC, dI)) (ci := 7) (v := .long 1) (ty := .long) (C := RX7) (T := TX7) (N := 6) hx hb hts hiX7 tyX7 tyX7_ok nmX7 hown hK hP hD hS 3 rfl rfl 5 (by decide) hf30 (fun _ h9 => h9) rfl (by decide +kernel) rfl rfl (Nat.le_of_ble_eq_true rfl) dX7_lay_18 (fun H locs hP hD hS => ?_)
  have hP : va_P (dC, dI) vwCl ([(a_x_costs, .inl (c_x_costs, 10, .inl x_costs)), (a_r, .inr (6, [.ref a_r_rows, .ref a_r_ins, .int r_size, .int r_n, .int r_parts])), (a_r_rows, .inl (c_r_rows, r_len, .inl r_rows)), (a_h, .inr (7, [.ref a_h_t, .ref a_h_rl, .ref a_h_cl, .int r_n, .int r_size, .long 1])), (a_h_t, .inl (c_h_t, 11, .inr (.inr (.inr (.inr (fun i => if i < 11 then some (a_h_g i) else none)))))), (a_h_rl, .inl (c_h_rl, 10, .inl h_rl)), (a_h_cl, .inl (c_h_cl, 16, .inl h_cl))] ++ gR a_h_g c_h_g h_g) H := hP
  have hD : va_D A ([(a_x_costs, .inl (c_x_costs, 10, .inl x_costs)), (a_r, .inr (6, [.ref a_r_rows, .ref a_r_ins, .int r_size, .int r_n, .int r_parts])), (a_r_rows, .inl (c_r_rows, r_len, .inl r_rows)), (a_h, .inr (7, [.ref a_h_t, .ref a_h_rl, .ref a_h_cl, .int r_n, .int r_size, .long 1])), (a_h_t, .inl (c_h_t, 11, .inr (.inr (.inr (.inr (fun i => if i < 11 then some (a_h_g i) else none)))))), (a_h_rl, .inl (c_h_rl, 10, .inl h_rl)), (a_h_cl, .inl (c_h_cl, 16, .inl h_cl))] ++ gR a_h_g c_h_g h_g) := hD
  refine lv_iconst (v := 0) hx hb dX7_lay_21 (by decide) ?_
  refine lv_istore_n (lv' := [(3, .int 0), (0, .ref a_h), (1, .ref a_r), (2, .ref a_x_costs)]) hx hb dX7_lay_22 rfl hl (by decide) rfl (fun ls hl => ?_)
  obtain ⟨e23, he23, hs⟩ := bd_s hs
  have hX23 : ∀ (H : Heap) (locs : List Loc) (ls : Array Slot), va_P (dC, dI) vwCl ([(a_x_costs, .inl (c_x_costs, 10, .inl x_costs)), (a_r, .inr (6, [.ref a_r_rows, .ref a_r_ins, .int r_size, .int r_n, .int r_parts])), (a_r_rows, .inl (c_r_rows, r_len, .inl r_rows)), (a_h, .inr (7, [.ref a_h_t, .ref a_h_rl, .ref a_h_cl, .int r_n, .int r_size, .long 1])), (a_h_t, .inl (c_h_t, 11, .inr (.inr (.inr (.inr (fun i => if i < 11 then some (a_h_g i) else none)))))), (a_h_rl, .inl (c_h_rl, 10, .inl e23.1)), (a_h_cl, .inl (c_h_cl, 16, .inl h_cl))] ++ gR a_h_g c_h_g e23.2) H → va_D A ([(a_x_costs, .inl (c_x_costs, 10, .inl x_costs)), (a_r, .inr (6, [.ref a_r_rows, .ref a_r_ins, .int r_size, .int r_n, .int r_parts])), (a_r_rows, .inl (c_r_rows, r_len, .inl r_rows)), (a_h, .inr (7, [.ref a_h_t, .ref a_h_rl, .ref a_h_cl, .int r_n, .int r_size, .long 1])), (a_h_t, .inl (c_h_t, 11, .inr (.inr (.inr (.inr (fun i => if i < 11 then some (a_h_g i) else none)))))), (a_h_rl, .inl (c_h_rl, 10, .inl e23.1)), (a_h_cl, .inl (c_h_cl, 16, .inl h_cl))] ++ gR a_h_g c_h_g e23.2) → va_S A s.heap H locs → lv_has ls 5 [(0, .ref a_h)] → Z H locs 0 0 (F0 m 110 ls []) := by
    intro H locs ls hP hD hS hl
    refine hZv ?_
    refine lv_iconst (v := 0) hx hb dX7_lay_110 (by decide) ?_
    refine lv_istore_n (lv' := [(3, .int 0), (0, .ref a_h)]) hx hb dX7_lay_111 rfl hl (by decide) rfl (fun ls hl => ?_)
    obtain ⟨e112, he112, hs⟩ := bd_s hs
    have hX112 : ∀ (H : Heap) (locs : List Loc) (ls : Array Slot), va_P (dC, dI) vwCl ([(a_x_costs, .inl (c_x_costs, 10, .inl x_costs)), (a_r, .inr (6, [.ref a_r_rows, .ref a_r_ins, .int r_size, .int r_n, .int r_parts])), (a_r_rows, .inl (c_r_rows, r_len, .inl r_rows)), (a_h, .inr (7, [.ref a_h_t, .ref a_h_rl, .ref a_h_cl, .int r_n, .int r_size, .long 1])), (a_h_t, .inl (c_h_t, 11, .inr (.inr (.inr (.inr (fun i => if i < 11 then some (a_h_g i) else none)))))), (a_h_rl, .inl (c_h_rl, 10, .inl e23.1)), (a_h_cl, .inl (c_h_cl, 16, .inl e112.1))] ++ gR a_h_g c_h_g e112.2) H → va_D A ([(a_x_costs, .inl (c_x_costs, 10, .inl x_costs)), (a_r, .inr (6, [.ref a_r_rows, .ref a_r_ins, .int r_size, .int r_n, .int r_parts])), (a_r_rows, .inl (c_r_rows, r_len, .inl r_rows)), (a_h, .inr (7, [.ref a_h_t, .ref a_h_rl, .ref a_h_cl, .int r_n, .int r_size, .long 1])), (a_h_t, .inl (c_h_t, 11, .inr (.inr (.inr (.inr (fun i => if i < 11 then some (a_h_g i) else none)))))), (a_h_rl, .inl (c_h_rl, 10, .inl e23.1)), (a_h_cl, .inl (c_h_cl, 16, .inl e112.1))] ++ gR a_h_g c_h_g e112.2) → va_S A s.heap H locs → lv_has ls 5 [(0, .ref a_h)] → Z H locs 0 0 (F0 m 147 ls []) := by
      intro H locs ls hP hD hS hl
      refine hZv ?_
      refine lv_aload_n hx hb dX7_lay_147 rfl (lv_at hl 0 rfl) ?_
      refine va_get (D := (dC, dI)) (ci := 7) (v := .ref a_h_t) (C := RX7) (T := TX7) (N := 6) hx hb hts hiX7 hown hK hP 3 rfl rfl 0 (by decide) hf13 (fun _ h9 => h9) rfl dX7_lay_148 ?_
      refine lv_aload_n hx hb dX7_lay_151 rfl (lv_at hl 0 rfl) ?_
      refine va_get (D := (dC, dI)) (ci := 7) (v := .int r_n) (C := RX7) (T := TX7) (N := 6) hx hb hts hiX7 hown hK hP 3 rfl rfl 3 (by decide) hf23 (fun _ h9 => h9) rfl dX7_lay_152 ?_
      obtain ⟨hg17, hs⟩ := gd_s hs
      refine va_aldG hx hb hK hP 4 2 rfl rfl hg17 dX7_lay_155 ?_
      refine lv_aload_n hx hb dX7_lay_156 rfl (lv_at hl 0 rfl) ?_
      refine va_get (D := (dC, dI)) (ci := 7) (v := .int r_size) (C := RX7) (T := TX7) (N := 6) hx hb hts hiX7 hown hK hP 3 rfl rfl 4 (by decide) hf27 (fun _ h9 => h9) rfl dX7_lay_157 ?_
      refine lv_lconst (v := 0) hx hb dX7_lay_160 (by decide) ?_
      obtain ⟨hg18, hs⟩ := gd_s hs
      refine va_lastG (X := [(a_x_costs, .inl (c_x_costs, 10, .inl x_costs)), (a_r, .inr (6, [.ref a_r_rows, .ref a_r_ins, .int r_size, .int r_n, .int r_parts])), (a_r_rows, .inl (c_r_rows, r_len, .inl r_rows)), (a_h, .inr (7, [.ref a_h_t, .ref a_h_rl, .ref a_h_cl, .int r_n, .int r_size, .long 1])), (a_h_t, .inl (c_h_t, 11, .inr (.inr (.inr (.inr (fun i => if i < 11 then some (a_h_g i) else none)))))), (a_h_rl, .inl (c_h_rl, 10, .inl e23.1)), (a_h_cl, .inl (c_h_cl, 16, .inl e112.1))]) hx hb hK hP hD hS 5 rfl hg17 hg18 dX7_lay_161 (fun H locs hP hD hS => ?_)
      have hP : va_P (dC, dI) vwCl ([(a_x_costs, .inl (c_x_costs, 10, .inl x_costs)), (a_r, .inr (6, [.ref a_r_rows, .ref a_r_ins, .int r_size, .int r_n, .int r_parts])), (a_r_rows, .inl (c_r_rows, r_len, .inl r_rows)), (a_h, .inr (7, [.ref a_h_t, .ref a_h_rl, .ref a_h_cl, .int r_n, .int r_size, .long 1])), (a_h_t, .inl (c_h_t, 11, .inr (.inr (.inr (.inr (fun i => if i < 11 then some (a_h_g i) else none)))))), (a_h_rl, .inl (c_h_rl, 10, .inl e23.1)), (a_h_cl, .inl (c_h_cl, 16, .inl e112.1))] ++ gR a_h_g c_h_g (gU e112.2 r_n.toNatClampNeg (vp_updL (e112.2 r_n.toNatClampNeg) r_size.toNatClampNeg 0))) H := hP
      have hD : va_D A ([(a_x_costs, .inl (c_x_costs, 10, .inl x_costs)), (a_r, .inr (6, [.ref a_r_rows, .ref a_r_ins, .int r_size, .int r_n, .int r_parts])), (a_r_rows, .inl (c_r_rows, r_len, .inl r_rows)), (a_h, .inr (7, [.ref a_h_t, .ref a_h_rl, .ref a_h_cl, .int r_n, .int r_size, .long 1])), (a_h_t, .inl (c_h_t, 11, .inr (.inr (.inr (.inr (fun i => if i < 11 then some (a_h_g i) else none)))))), (a_h_rl, .inl (c_h_rl, 10, .inl e23.1)), (a_h_cl, .inl (c_h_cl, 16, .inl e112.1))] ++ gR a_h_g c_h_g (gU e112.2 r_n.toNatClampNeg (vp_updL (e112.2 r_n.toNatClampNeg) r_size.toNatClampNeg 0))) := hD
      replace hs := Option.some.inj hs
      subst hs
      exact W.vret hx hb hr (fun t ht hW => ⟨⟨(), rfl, trivial, by rw [ht]; exact hP, va_K.moved hW.alike hK, hD⟩, hS.F ht⟩) hS.2.2 dX7_lay_162
    clear hs
    have hL112 : ∀ (n : Nat) (s112 : Int32 × (Nat → Int32) × (Nat → Nat → Int64)) (H : Heap) (locs : List Loc) (ls : Array Slot), itr (pX7_lay_L112 r_size r_n) n s112 = some e112 → va_P (dC, dI) vwCl ([(a_x_costs, .inl (c_x_costs, 10, .inl x_costs)), (a_r, .inr (6, [.ref a_r_rows, .ref a_r_ins, .int r_size, .int r_n, .int r_parts])), (a_r_rows, .inl (c_r_rows, r_len, .inl r_rows)), (a_h, .inr (7, [.ref a_h_t, .ref a_h_rl, .ref a_h_cl, .int r_n, .int r_size, .long 1])), (a_h_t, .inl (c_h_t, 11, .inr (.inr (.inr (.inr (fun i => if i < 11 then some (a_h_g i) else none)))))), (a_h_rl, .inl (c_h_rl, 10, .inl e23.1)), (a_h_cl, .inl (c_h_cl, 16, .inl s112.2.1))] ++ gR a_h_g c_h_g s112.2.2) H → va_D A ([(a_x_costs, .inl (c_x_costs, 10, .inl x_costs)), (a_r, .inr (6, [.ref a_r_rows, .ref a_r_ins, .int r_size, .int r_n, .int r_parts])), (a_r_rows, .inl (c_r_rows, r_len, .inl r_rows)), (a_h, .inr (7, [.ref a_h_t, .ref a_h_rl, .ref a_h_cl, .int r_n, .int r_size, .long 1])), (a_h_t, .inl (c_h_t, 11, .inr (.inr (.inr (.inr (fun i => if i < 11 then some (a_h_g i) else none)))))), (a_h_rl, .inl (c_h_rl, 10, .inl e23.1)), (a_h_cl, .inl (c_h_cl, 16, .inl s112.2.1))] ++ gR a_h_g c_h_g s112.2.2) → va_S A s.heap H locs → lv_has ls 5 [(0, .ref a_h), (3, .int s112.1)] → Z H locs 0 0 (F0 m 112 ls []) := by
      intro n
      induction n with
      | zero =>
        intro s112 H locs ls hn
        exact (itr_0 hn).elim
      | succ n ih =>
        intro s112 H locs ls hn hP hD hS hl
        obtain ⟨y13, hs, hn⟩ := itr_s hn
        unfold pX7_lay_L112 at hs
        refine hZv ?_
        refine lv_iload_n hx hb dX7_lay_112 rfl (lv_at hl 1 rfl) ?_
        refine lv_aload_n hx hb dX7_lay_113 rfl (lv_at hl 0 rfl) ?_
        refine va_get (D := (dC, dI)) (ci := 7) (v := .int r_size) (C := RX7) (T := TX7) (N := 6) hx hb hts hiX7 hown hK hP 3 rfl rfl 4 (by decide) hf27 (fun _ h9 => h9) rfl dX7_lay_114 ?_
        refine lv_icmp_ge (tgt := 147) hx hb dX7_lay_117 (by decide) (fun hc => ?_) (fun hc => ?_)
        · replace hs := it_t hc hs
          replace hs := Option.some.inj hs
          subst hs
          obtain rfl : (s112.2.1, s112.2.2) = e112 := hn
          exact hZw (hX112 H locs ls hP hD hS (lv_sub hl [0] rfl))
        · replace hs := it_f hc hs
          refine lv_aload_n hx hb dX7_lay_120 rfl (lv_at hl 0 rfl) ?_
          refine va_get (D := (dC, dI)) (ci := 7) (v := .ref a_h_cl) (C := RX7) (T := TX7) (N := 6) hx hb hts hiX7 hown hK hP 3 rfl rfl 2 (by decide) hf20 (fun _ h9 => h9) rfl dX7_lay_121 ?_
          refine lv_iload_n hx hb dX7_lay_124 rfl (lv_at hl 1 rfl) ?_
          refine lv_iload_n hx hb dX7_lay_125 rfl (lv_at hl 1 rfl) ?_
          obtain ⟨hg14, hs⟩ := gd_s hs
          refine va_iast hx hb hK hP hD hS 6 4 rfl rfl hg14 dX7_lay_126 (fun H locs hP hD hS => ?_)
          have hP : va_P (dC, dI) vwCl ([(a_x_costs, .inl (c_x_costs, 10, .inl x_costs)), (a_r, .inr (6, [.ref a_r_rows, .ref a_r_ins, .int r_size, .int r_n, .int r_parts])), (a_r_rows, .inl (c_r_rows, r_len, .inl r_rows)), (a_h, .inr (7, [.ref a_h_t, .ref a_h_rl, .ref a_h_cl, .int r_n, .int r_size, .long 1])), (a_h_t, .inl (c_h_t, 11, .inr (.inr (.inr (.inr (fun i => if i < 11 then some (a_h_g i) else none)))))), (a_h_rl, .inl (c_h_rl, 10, .inl e23.1)), (a_h_cl, .inl (c_h_cl, 16, .inl (upd s112.2.1 s112.1.toNatClampNeg s112.1)))] ++ gR a_h_g c_h_g s112.2.2) H := hP
          have hD : va_D A ([(a_x_costs, .inl (c_x_costs, 10, .inl x_costs)), (a_r, .inr (6, [.ref a_r_rows, .ref a_r_ins, .int r_size, .int r_n, .int r_parts])), (a_r_rows, .inl (c_r_rows, r_len, .inl r_rows)), (a_h, .inr (7, [.ref a_h_t, .ref a_h_rl, .ref a_h_cl, .int r_n, .int r_size, .long 1])), (a_h_t, .inl (c_h_t, 11, .inr (.inr (.inr (.inr (fun i => if i < 11 then some (a_h_g i) else none)))))), (a_h_rl, .inl (c_h_rl, 10, .inl e23.1)), (a_h_cl, .inl (c_h_cl, 16, .inl (upd s112.2.1 s112.1.toNatClampNeg s112.1)))] ++ gR a_h_g c_h_g s112.2.2) := hD
          refine lv_aload_n hx hb dX7_lay_127 rfl (lv_at hl 0 rfl) ?_
          refine va_get (D := (dC, dI)) (ci := 7) (v := .ref a_h_t) (C := RX7) (T := TX7) (N := 6) hx hb hts hiX7 hown hK hP 3 rfl rfl 0 (by decide) hf13 (fun _ h9 => h9) rfl dX7_lay_128 ?_
          refine lv_aload_n hx hb dX7_lay_131 rfl (lv_at hl 0 rfl) ?_
          refine va_get (D := (dC, dI)) (ci := 7) (v := .int r_n) (C := RX7) (T := TX7) (N := 6) hx hb hts hiX7 hown hK hP 3 rfl rfl 3 (by decide) hf23 (fun _ h9 => h9) rfl dX7_lay_132 ?_
          obtain ⟨hg15, hs⟩ := gd_s hs
          refine va_aldG hx hb hK hP 4 2 rfl rfl hg15 dX7_lay_135 ?_
          refine lv_iload_n hx hb dX7_lay_136 rfl (lv_at hl 1 rfl) ?_
          refine lv_ldc2 (v := (-1)) hx hb hown (hts (.constantLong RX7 65 (-1)) (t1_ (al_ (al_ (t4_ (t4_ (t1_ h1_))))))) dX7_lay_137 ?_
          obtain ⟨hg16, hs⟩ := gd_s hs
          refine va_lastG (X := [(a_x_costs, .inl (c_x_costs, 10, .inl x_costs)), (a_r, .inr (6, [.ref a_r_rows, .ref a_r_ins, .int r_size, .int r_n, .int r_parts])), (a_r_rows, .inl (c_r_rows, r_len, .inl r_rows)), (a_h, .inr (7, [.ref a_h_t, .ref a_h_rl, .ref a_h_cl, .int r_n, .int r_size, .long 1])), (a_h_t, .inl (c_h_t, 11, .inr (.inr (.inr (.inr (fun i => if i < 11 then some (a_h_g i) else none)))))), (a_h_rl, .inl (c_h_rl, 10, .inl e23.1)), (a_h_cl, .inl (c_h_cl, 16, .inl (upd s112.2.1 s112.1.toNatClampNeg s112.1)))]) hx hb hK hP hD hS 5 rfl hg15 hg16 dX7_lay_140 (fun H locs hP hD hS => ?_)
          have hP : va_P (dC, dI) vwCl ([(a_x_costs, .inl (c_x_costs, 10, .inl x_costs)), (a_r, .inr (6, [.ref a_r_rows, .ref a_r_ins, .int r_size, .int r_n, .int r_parts])), (a_r_rows, .inl (c_r_rows, r_len, .inl r_rows)), (a_h, .inr (7, [.ref a_h_t, .ref a_h_rl, .ref a_h_cl, .int r_n, .int r_size, .long 1])), (a_h_t, .inl (c_h_t, 11, .inr (.inr (.inr (.inr (fun i => if i < 11 then some (a_h_g i) else none)))))), (a_h_rl, .inl (c_h_rl, 10, .inl e23.1)), (a_h_cl, .inl (c_h_cl, 16, .inl (upd s112.2.1 s112.1.toNatClampNeg s112.1)))] ++ gR a_h_g c_h_g (gU s112.2.2 r_n.toNatClampNeg (vp_updL (s112.2.2 r_n.toNatClampNeg) s112.1.toNatClampNeg (-1)))) H := hP
          have hD : va_D A ([(a_x_costs, .inl (c_x_costs, 10, .inl x_costs)), (a_r, .inr (6, [.ref a_r_rows, .ref a_r_ins, .int r_size, .int r_n, .int r_parts])), (a_r_rows, .inl (c_r_rows, r_len, .inl r_rows)), (a_h, .inr (7, [.ref a_h_t, .ref a_h_rl, .ref a_h_cl, .int r_n, .int r_size, .long 1])), (a_h_t, .inl (c_h_t, 11, .inr (.inr (.inr (.inr (fun i => if i < 11 then some (a_h_g i) else none)))))), (a_h_rl, .inl (c_h_rl, 10, .inl e23.1)), (a_h_cl, .inl (c_h_cl, 16, .inl (upd s112.2.1 s112.1.toNatClampNeg s112.1)))] ++ gR a_h_g c_h_g (gU s112.2.2 r_n.toNatClampNeg (vp_updL (s112.2.2 r_n.toNatClampNeg) s112.1.toNatClampNeg (-1)))) := hD
          refine lv_iinc (v := s112.1 + 1) (lv' := [(3, .int (s112.1 + 1)), (0, .ref a_h)]) hx hb dX7_lay_141 hl (k := 1) rfl (by rfl) (by decide) rfl (fun ls hl => ?_)
          refine lv_goto (tgt := 112) hx hb dX7_lay_144 (by decide) ?_
          replace hs := Option.some.inj hs
          subst hs
          exact hZw (ih (s112.1 + 1, upd s112.2.1 s112.1.toNatClampNeg s112.1, gU s112.2.2 r_n.toNatClampNeg (vp_updL (s112.2.2 r_n.toNatClampNeg) s112.1.toNatClampNeg (-1))) H locs ls hn hP hD hS (lv_sub hl [1, 0] rfl))
    obtain ⟨n112, hn112⟩ := lp_ex he112
    exact hZw (hL112 n112 (0, h_cl, e23.2) H locs ls hn112 hP hD hS (lv_sub hl [1, 0] rfl))
  clear hs
  have hL23 : ∀ (n : Nat) (s23 : Int32 × (Nat → Int32) × (Nat → Nat → Int64)) (H : Heap) (locs : List Loc) (ls : Array Slot), itr (pX7_lay_L23 r_len x_costs r_size r_n r_rows) n s23 = some e23 → va_P (dC, dI) vwCl ([(a_x_costs, .inl (c_x_costs, 10, .inl x_costs)), (a_r, .inr (6, [.ref a_r_rows, .ref a_r_ins, .int r_size, .int r_n, .int r_parts])), (a_r_rows, .inl (c_r_rows, r_len, .inl r_rows)), (a_h, .inr (7, [.ref a_h_t, .ref a_h_rl, .ref a_h_cl, .int r_n, .int r_size, .long 1])), (a_h_t, .inl (c_h_t, 11, .inr (.inr (.inr (.inr (fun i => if i < 11 then some (a_h_g i) else none)))))), (a_h_rl, .inl (c_h_rl, 10, .inl s23.2.1)), (a_h_cl, .inl (c_h_cl, 16, .inl h_cl))] ++ gR a_h_g c_h_g s23.2.2) H → va_D A ([(a_x_costs, .inl (c_x_costs, 10, .inl x_costs)), (a_r, .inr (6, [.ref a_r_rows, .ref a_r_ins, .int r_size, .int r_n, .int r_parts])), (a_r_rows, .inl (c_r_rows, r_len, .inl r_rows)), (a_h, .inr (7, [.ref a_h_t, .ref a_h_rl, .ref a_h_cl, .int r_n, .int r_size, .long 1])), (a_h_t, .inl (c_h_t, 11, .inr (.inr (.inr (.inr (fun i => if i < 11 then some (a_h_g i) else none)))))), (a_h_rl, .inl (c_h_rl, 10, .inl s23.2.1)), (a_h_cl, .inl (c_h_cl, 16, .inl h_cl))] ++ gR a_h_g c_h_g s23.2.2) → va_S A s.heap H locs → lv_has ls 5 [(0, .ref a_h), (1, .ref a_r), (2, .ref a_x_costs), (3, .int s23.1)] → Z H locs 0 0 (F0 m 23 ls []) := by
    intro n
    induction n with
    | zero =>
      intro s23 H locs ls hn
      exact (itr_0 hn).elim
    | succ n ih =>
      intro s23 H locs ls hn hP hD hS hl
      obtain ⟨y1, hs, hn⟩ := itr_s hn
      unfold pX7_lay_L23 at hs
      refine hZv ?_
      refine lv_iload_n hx hb dX7_lay_23 rfl (lv_at hl 3 rfl) ?_
      refine lv_aload_n hx hb dX7_lay_24 rfl (lv_at hl 0 rfl) ?_
      refine va_get (D := (dC, dI)) (ci := 7) (v := .int r_n) (C := RX7) (T := TX7) (N := 6) hx hb hts hiX7 hown hK hP 3 rfl rfl 3 (by decide) hf23 (fun _ h9 => h9) rfl dX7_lay_25 ?_
      refine lv_icmp_ge (tgt := 110) hx hb dX7_lay_28 (by decide) (fun hc => ?_) (fun hc => ?_)
      · replace hs := it_t hc hs
        replace hs := Option.some.inj hs
        subst hs
        obtain rfl : (s23.2.1, s23.2.2) = e23 := hn
        exact hZw (hX23 H locs ls hP hD hS (lv_sub hl [0] rfl))
      · replace hs := it_f hc hs
        refine lv_aload_n hx hb dX7_lay_31 rfl (lv_at hl 0 rfl) ?_
        refine va_get (D := (dC, dI)) (ci := 7) (v := .ref a_h_rl) (C := RX7) (T := TX7) (N := 6) hx hb hts hiX7 hown hK hP 3 rfl rfl 1 (by decide) hf16 (fun _ h9 => h9) rfl dX7_lay_32 ?_
        refine lv_iload_n hx hb dX7_lay_35 rfl (lv_at hl 3 rfl) ?_
        refine lv_aload_n hx hb dX7_lay_36 rfl (lv_at hl 0 rfl) ?_
        refine va_get (D := (dC, dI)) (ci := 7) (v := .int r_size) (C := RX7) (T := TX7) (N := 6) hx hb hts hiX7 hown hK hP 3 rfl rfl 4 (by decide) hf27 (fun _ h9 => h9) rfl dX7_lay_37 ?_
        refine lv_iload_n hx hb dX7_lay_40 rfl (lv_at hl 3 rfl) ?_
        refine lv_iadd hx hb dX7_lay_41 ?_
        obtain ⟨hg2, hs⟩ := gd_s hs
        refine va_iast hx hb hK hP hD hS 5 3 rfl rfl hg2 dX7_lay_42 (fun H locs hP hD hS => ?_)
        have hP : va_P (dC, dI) vwCl ([(a_x_costs, .inl (c_x_costs, 10, .inl x_costs)), (a_r, .inr (6, [.ref a_r_rows, .ref a_r_ins, .int r_size, .int r_n, .int r_parts])), (a_r_rows, .inl (c_r_rows, r_len, .inl r_rows)), (a_h, .inr (7, [.ref a_h_t, .ref a_h_rl, .ref a_h_cl, .int r_n, .int r_size, .long 1])), (a_h_t, .inl (c_h_t, 11, .inr (.inr (.inr (.inr (fun i => if i < 11 then some (a_h_g i) else none)))))), (a_h_rl, .inl (c_h_rl, 10, .inl (upd s23.2.1 s23.1.toNatClampNeg (r_size + s23.1)))), (a_h_cl, .inl (c_h_cl, 16, .inl h_cl))] ++ gR a_h_g c_h_g s23.2.2) H := hP
        have hD : va_D A ([(a_x_costs, .inl (c_x_costs, 10, .inl x_costs)), (a_r, .inr (6, [.ref a_r_rows, .ref a_r_ins, .int r_size, .int r_n, .int r_parts])), (a_r_rows, .inl (c_r_rows, r_len, .inl r_rows)), (a_h, .inr (7, [.ref a_h_t, .ref a_h_rl, .ref a_h_cl, .int r_n, .int r_size, .long 1])), (a_h_t, .inl (c_h_t, 11, .inr (.inr (.inr (.inr (fun i => if i < 11 then some (a_h_g i) else none)))))), (a_h_rl, .inl (c_h_rl, 10, .inl (upd s23.2.1 s23.1.toNatClampNeg (r_size + s23.1)))), (a_h_cl, .inl (c_h_cl, 16, .inl h_cl))] ++ gR a_h_g c_h_g s23.2.2) := hD
        refine lv_aload_n hx hb dX7_lay_43 rfl (lv_at hl 0 rfl) ?_
        refine va_get (D := (dC, dI)) (ci := 7) (v := .ref a_h_t) (C := RX7) (T := TX7) (N := 6) hx hb hts hiX7 hown hK hP 3 rfl rfl 0 (by decide) hf13 (fun _ h9 => h9) rfl dX7_lay_44 ?_
        refine lv_iload_n hx hb dX7_lay_47 rfl (lv_at hl 3 rfl) ?_
        obtain ⟨hg3, hs⟩ := gd_s hs
        refine va_aldG hx hb hK hP 4 2 rfl rfl hg3 dX7_lay_48 ?_
        refine lv_aload_n hx hb dX7_lay_49 rfl (lv_at hl 0 rfl) ?_
        refine va_get (D := (dC, dI)) (ci := 7) (v := .int r_size) (C := RX7) (T := TX7) (N := 6) hx hb hts hiX7 hown hK hP 3 rfl rfl 4 (by decide) hf27 (fun _ h9 => h9) rfl dX7_lay_50 ?_
        refine lv_aload_n hx hb dX7_lay_53 rfl (lv_at hl 2 rfl) ?_
        refine lv_iload_n hx hb dX7_lay_54 rfl (lv_at hl 3 rfl) ?_
        obtain ⟨hg4, hs⟩ := gd_s hs
        refine va_iald hx hb hK hP 0 0 rfl rfl hg4 dX7_lay_55 ?_
        refine lv_i2l (v := (x_costs s23.1.toNatClampNeg).toInt64) hx hb dX7_lay_56 rfl ?_
        obtain ⟨hg5, hs⟩ := gd_s hs
        refine va_lastG (X := [(a_x_costs, .inl (c_x_costs, 10, .inl x_costs)), (a_r, .inr (6, [.ref a_r_rows, .ref a_r_ins, .int r_size, .int r_n, .int r_parts])), (a_r_rows, .inl (c_r_rows, r_len, .inl r_rows)), (a_h, .inr (7, [.ref a_h_t, .ref a_h_rl, .ref a_h_cl, .int r_n, .int r_size, .long 1])), (a_h_t, .inl (c_h_t, 11, .inr (.inr (.inr (.inr (fun i => if i < 11 then some (a_h_g i) else none)))))), (a_h_rl, .inl (c_h_rl, 10, .inl (upd s23.2.1 s23.1.toNatClampNeg (r_size + s23.1)))), (a_h_cl, .inl (c_h_cl, 16, .inl h_cl))]) hx hb hK hP hD hS 5 rfl hg3 hg5 dX7_lay_57 (fun H locs hP hD hS => ?_)
        have hP : va_P (dC, dI) vwCl ([(a_x_costs, .inl (c_x_costs, 10, .inl x_costs)), (a_r, .inr (6, [.ref a_r_rows, .ref a_r_ins, .int r_size, .int r_n, .int r_parts])), (a_r_rows, .inl (c_r_rows, r_len, .inl r_rows)), (a_h, .inr (7, [.ref a_h_t, .ref a_h_rl, .ref a_h_cl, .int r_n, .int r_size, .long 1])), (a_h_t, .inl (c_h_t, 11, .inr (.inr (.inr (.inr (fun i => if i < 11 then some (a_h_g i) else none)))))), (a_h_rl, .inl (c_h_rl, 10, .inl (upd s23.2.1 s23.1.toNatClampNeg (r_size + s23.1)))), (a_h_cl, .inl (c_h_cl, 16, .inl h_cl))] ++ gR a_h_g c_h_g (gU s23.2.2 s23.1.toNatClampNeg (vp_updL (s23.2.2 s23.1.toNatClampNeg) r_size.toNatClampNeg ((x_costs s23.1.toNatClampNeg).toInt64)))) H := hP
        have hD : va_D A ([(a_x_costs, .inl (c_x_costs, 10, .inl x_costs)), (a_r, .inr (6, [.ref a_r_rows, .ref a_r_ins, .int r_size, .int r_n, .int r_parts])), (a_r_rows, .inl (c_r_rows, r_len, .inl r_rows)), (a_h, .inr (7, [.ref a_h_t, .ref a_h_rl, .ref a_h_cl, .int r_n, .int r_size, .long 1])), (a_h_t, .inl (c_h_t, 11, .inr (.inr (.inr (.inr (fun i => if i < 11 then some (a_h_g i) else none)))))), (a_h_rl, .inl (c_h_rl, 10, .inl (upd s23.2.1 s23.1.toNatClampNeg (r_size + s23.1)))), (a_h_cl, .inl (c_h_cl, 16, .inl h_cl))] ++ gR a_h_g c_h_g (gU s23.2.2 s23.1.toNatClampNeg (vp_updL (s23.2.2 s23.1.toNatClampNeg) r_size.toNatClampNeg ((x_costs s23.1.toNatClampNeg).toInt64)))) := hD
        refine lv_iconst (v := 0) hx hb dX7_lay_58 (by decide) ?_
        refine lv_istore (lv' := [(4, .int 0), (0, .ref a_h), (1, .ref a_r), (2, .ref a_x_costs), (3, .int s23.1)]) hx hb dX7_lay_59 hl (by decide) rfl (fun ls hl => ?_)
        obtain ⟨e61, he61, hs⟩ := bd_s hs
        have hX61 : ∀ (H : Heap) (locs : List Loc) (ls : Array Slot), va_P (dC, dI) vwCl ([(a_x_costs, .inl (c_x_costs, 10, .inl x_costs)), (a_r, .inr (6, [.ref a_r_rows, .ref a_r_ins, .int r_size, .int r_n, .int r_parts])), (a_r_rows, .inl (c_r_rows, r_len, .inl r_rows)), (a_h, .inr (7, [.ref a_h_t, .ref a_h_rl, .ref a_h_cl, .int r_n, .int r_size, .long 1])), (a_h_t, .inl (c_h_t, 11, .inr (.inr (.inr (.inr (fun i => if i < 11 then some (a_h_g i) else none)))))), (a_h_rl, .inl (c_h_rl, 10, .inl (upd s23.2.1 s23.1.toNatClampNeg (r_size + s23.1)))), (a_h_cl, .inl (c_h_cl, 16, .inl h_cl))] ++ gR a_h_g c_h_g e61) H → va_D A ([(a_x_costs, .inl (c_x_costs, 10, .inl x_costs)), (a_r, .inr (6, [.ref a_r_rows, .ref a_r_ins, .int r_size, .int r_n, .int r_parts])), (a_r_rows, .inl (c_r_rows, r_len, .inl r_rows)), (a_h, .inr (7, [.ref a_h_t, .ref a_h_rl, .ref a_h_cl, .int r_n, .int r_size, .long 1])), (a_h_t, .inl (c_h_t, 11, .inr (.inr (.inr (.inr (fun i => if i < 11 then some (a_h_g i) else none)))))), (a_h_rl, .inl (c_h_rl, 10, .inl (upd s23.2.1 s23.1.toNatClampNeg (r_size + s23.1)))), (a_h_cl, .inl (c_h_cl, 16, .inl h_cl))] ++ gR a_h_g c_h_g e61) → va_S A s.heap H locs → lv_has ls 5 [(0, .ref a_h), (1, .ref a_r), (2, .ref a_x_costs), (3, .int s23.1)] → Z H locs 0 0 (F0 m 104 ls []) := by
          intro H locs ls hP hD hS hl
          refine hZv ?_
          refine lv_iinc (v := s23.1 + 1) (lv' := [(3, .int (s23.1 + 1)), (0, .ref a_h), (1, .ref a_r), (2, .ref a_x_costs)]) hx hb dX7_lay_104 hl (k := 3) rfl (by rfl) (by decide) rfl (fun ls hl => ?_)
          refine lv_goto (tgt := 23) hx hb dX7_lay_107 (by decide) ?_
          replace hs := Option.some.inj hs
          subst hs
          exact hZw (ih (s23.1 + 1, upd s23.2.1 s23.1.toNatClampNeg (r_size + s23.1), e61) H locs ls hn hP hD hS (lv_sub hl [1, 2, 3, 0] rfl))
        clear hs
        have hL61 : ∀ (n : Nat) (s61 : Int32 × (Nat → Nat → Int64)) (H : Heap) (locs : List Loc) (ls : Array Slot), itr (pX7_lay_L61_6 r_len r_size r_rows s23) n s61 = some e61 → va_P (dC, dI) vwCl ([(a_x_costs, .inl (c_x_costs, 10, .inl x_costs)), (a_r, .inr (6, [.ref a_r_rows, .ref a_r_ins, .int r_size, .int r_n, .int r_parts])), (a_r_rows, .inl (c_r_rows, r_len, .inl r_rows)), (a_h, .inr (7, [.ref a_h_t, .ref a_h_rl, .ref a_h_cl, .int r_n, .int r_size, .long 1])), (a_h_t, .inl (c_h_t, 11, .inr (.inr (.inr (.inr (fun i => if i < 11 then some (a_h_g i) else none)))))), (a_h_rl, .inl (c_h_rl, 10, .inl (upd s23.2.1 s23.1.toNatClampNeg (r_size + s23.1)))), (a_h_cl, .inl (c_h_cl, 16, .inl h_cl))] ++ gR a_h_g c_h_g s61.2) H → va_D A ([(a_x_costs, .inl (c_x_costs, 10, .inl x_costs)), (a_r, .inr (6, [.ref a_r_rows, .ref a_r_ins, .int r_size, .int r_n, .int r_parts])), (a_r_rows, .inl (c_r_rows, r_len, .inl r_rows)), (a_h, .inr (7, [.ref a_h_t, .ref a_h_rl, .ref a_h_cl, .int r_n, .int r_size, .long 1])), (a_h_t, .inl (c_h_t, 11, .inr (.inr (.inr (.inr (fun i => if i < 11 then some (a_h_g i) else none)))))), (a_h_rl, .inl (c_h_rl, 10, .inl (upd s23.2.1 s23.1.toNatClampNeg (r_size + s23.1)))), (a_h_cl, .inl (c_h_cl, 16, .inl h_cl))] ++ gR a_h_g c_h_g s61.2) → va_S A s.heap H locs → lv_has ls 5 [(0, .ref a_h), (1, .ref a_r), (2, .ref a_x_costs), (3, .int s23.1), (4, .int s61.1)] → Z H locs 0 0 (F0 m 61 ls []) := by
          intro n
          induction n with
          | zero =>
            intro s61 H locs ls hn
            exact (itr_0 hn).elim
          | succ n ih =>
            intro s61 H locs ls hn hP hD hS hl
            obtain ⟨y7, hs, hn⟩ := itr_s hn
            unfold pX7_lay_L61_6 at hs
            refine hZv ?_
            refine lv_iload hx hb dX7_lay_61 (lv_at hl 4 rfl) ?_
            refine lv_aload_n hx hb dX7_lay_63 rfl (lv_at hl 0 rfl) ?_
            refine va_get (D := (dC, dI)) (ci := 7) (v := .int r_size) (C := RX7) (T := TX7) (N := 6) hx hb hts hiX7 hown hK hP 3 rfl rfl 4 (by decide) hf27 (fun _ h9 => h9) rfl dX7_lay_64 ?_
            refine lv_icmp_ge (tgt := 104) hx hb dX7_lay_67 (by decide) (fun hc => ?_) (fun hc => ?_)
            · replace hs := it_t hc hs
              replace hs := Option.some.inj hs
              subst hs
              obtain rfl : s61.2 = e61 := hn
              exact hZw (hX61 H locs ls hP hD hS (lv_sub hl [0, 1, 2, 3] rfl))
            · replace hs := it_f hc hs
              refine lv_aload_n hx hb dX7_lay_70 rfl (lv_at hl 0 rfl) ?_
              refine va_get (D := (dC, dI)) (ci := 7) (v := .ref a_h_t) (C := RX7) (T := TX7) (N := 6) hx hb hts hiX7 hown hK hP 3 rfl rfl 0 (by decide) hf13 (fun _ h9 => h9) rfl dX7_lay_71 ?_
              refine lv_iload_n hx hb dX7_lay_74 rfl (lv_at hl 3 rfl) ?_
              obtain ⟨hg8, hs⟩ := gd_s hs
              refine va_aldG hx hb hK hP 4 2 rfl rfl hg8 dX7_lay_75 ?_
              refine lv_iload hx hb dX7_lay_76 (lv_at hl 4 rfl) ?_
              refine lv_aload_n hx hb dX7_lay_78 rfl (lv_at hl 1 rfl) ?_
              refine va_get (D := (dC, dI)) (ci := 6) (v := .ref a_r_rows) (C := RX6) (T := TX6) (N := 5) hx hb hts hiX6 hown hK hP 1 rfl rfl 0 (by decide) hf59 (fun _ h9 => h9) rfl dX7_lay_79 ?_
              refine lv_iload hx hb dX7_lay_82 (lv_at hl 4 rfl) ?_
              obtain ⟨hg9, hs⟩ := gd_s hs
              refine va_iald hx hb hK hP 2 1 rfl rfl hg9 dX7_lay_84 ?_
              refine lv_iload_n hx hb dX7_lay_85 rfl (lv_at hl 3 rfl) ?_
              obtain ⟨r10, hr10, hs⟩ := bd_s hs
              refine kc_i (isC := []) (isR := [0, 1, 2, 3, 4, 5, 6] ++ List.range' 7 11) (pm := [0, 1, 2, 3, 4, 5, 6] ++ List.range' 7 11) (wr := ([(a_x_costs, .inl (c_x_costs, 10, .inl x_costs)), (a_r, .inr (6, [.ref a_r_rows, .ref a_r_ins, .int r_size, .int r_n, .int r_parts])), (a_r_rows, .inl (c_r_rows, r_len, .inl r_rows)), (a_h, .inr (7, [.ref a_h_t, .ref a_h_rl, .ref a_h_cl, .int r_n, .int r_size, .long 1])), (a_h_t, .inl (c_h_t, 11, .inr (.inr (.inr (.inr (fun i => if i < 11 then some (a_h_g i) else none)))))), (a_h_rl, .inl (c_h_rl, 10, .inl (upd s23.2.1 s23.1.toNatClampNeg (r_size + s23.1)))), (a_h_cl, .inl (c_h_cl, 16, .inl h_cl))] ++ gR a_h_g c_h_g s61.2)) (w1 := []) (w2 := ([(a_x_costs, .inl (c_x_costs, 10, .inl x_costs)), (a_r, .inr (6, [.ref a_r_rows, .ref a_r_ins, .int r_size, .int r_n, .int r_parts])), (a_r_rows, .inl (c_r_rows, r_len, .inl r_rows)), (a_h, .inr (7, [.ref a_h_t, .ref a_h_rl, .ref a_h_cl, .int r_n, .int r_size, .long 1])), (a_h_t, .inl (c_h_t, 11, .inr (.inr (.inr (.inr (fun i => if i < 11 then some (a_h_g i) else none)))))), (a_h_rl, .inl (c_h_rl, 10, .inl (upd s23.2.1 s23.1.toNatClampNeg (r_size + s23.1)))), (a_h_cl, .inl (c_h_cl, 16, .inl h_cl))] ++ gR a_h_g c_h_g s61.2)) (va_runSN (As := [.int (r_rows s61.1.toNatClampNeg), .int s23.1]) (rest := [.int s61.1, .ref (a_h_g s23.1.toNatClampNeg)]) ⟨hx, hb, hml, hown, hts⟩ (c_X9_has l dC dI H.size (r_rows s61.1.toNatClampNeg) s23.1 r10 hr10) ⟨va_cnB 2 hts gX7_lay_X9_has_n61 rfl rfl rfl hN.1.2.1 (hts (.initialized RX9) (t1_ (al_ (al_ (t4_ (t4_ (t1_ (t1_ (t1_ h1_))))))))) (by decide +kernel) ⟨Nat.le_of_ble_eq_true rfl, Nat.le_of_ble_eq_true rfl⟩, hts (.static yX9_has) (t1_ (al_ (al_ (t4_ (t4_ (t1_ (t1_ h1_))))))), trivial⟩ (kp_S hK hP hD hS hA hN (isC := []) (isT := []) (wc := []) rfl (by decide +kernel) rfl) rfl rfl hl.1 rfl (lv_room (Nat.le_of_ble_eq_true rfl)) dX7_lay_86 ⟨Nat.le_of_ble_eq_true rfl, Nat.le_of_ble_eq_true rfl⟩) hP hD hS hA rfl (gC_ rfl rfl) (by decide +kernel) (by decide +kernel) (gQ_ rfl rfl) (by decide +kernel) (fun H locs hP hD hS => ?_)
              refine lv_if_eq (tgt := 96) hx hb dX7_lay_89 (by decide) (fun hc => ?_) (fun hc => ?_)
              · replace hs := it_t hc hs
                refine lv_lconst (v := 0) hx hb dX7_lay_96 (by decide) ?_
                obtain ⟨hg11, hs⟩ := gd_s hs
                refine va_lastG (X := [(a_x_costs, .inl (c_x_costs, 10, .inl x_costs)), (a_r, .inr (6, [.ref a_r_rows, .ref a_r_ins, .int r_size, .int r_n, .int r_parts])), (a_r_rows, .inl (c_r_rows, r_len, .inl r_rows)), (a_h, .inr (7, [.ref a_h_t, .ref a_h_rl, .ref a_h_cl, .int r_n, .int r_size, .long 1])), (a_h_t, .inl (c_h_t, 11, .inr (.inr (.inr (.inr (fun i => if i < 11 then some (a_h_g i) else none)))))), (a_h_rl, .inl (c_h_rl, 10, .inl (upd s23.2.1 s23.1.toNatClampNeg (r_size + s23.1)))), (a_h_cl, .inl (c_h_cl, 16, .inl h_cl))]) hx hb hK hP hD hS 5 rfl hg8 hg11 dX7_lay_97 (fun H locs hP hD hS => ?_)
                have hP : va_P (dC, dI) vwCl ([(a_x_costs, .inl (c_x_costs, 10, .inl x_costs)), (a_r, .inr (6, [.ref a_r_rows, .ref a_r_ins, .int r_size, .int r_n, .int r_parts])), (a_r_rows, .inl (c_r_rows, r_len, .inl r_rows)), (a_h, .inr (7, [.ref a_h_t, .ref a_h_rl, .ref a_h_cl, .int r_n, .int r_size, .long 1])), (a_h_t, .inl (c_h_t, 11, .inr (.inr (.inr (.inr (fun i => if i < 11 then some (a_h_g i) else none)))))), (a_h_rl, .inl (c_h_rl, 10, .inl (upd s23.2.1 s23.1.toNatClampNeg (r_size + s23.1)))), (a_h_cl, .inl (c_h_cl, 16, .inl h_cl))] ++ gR a_h_g c_h_g (gU s61.2 s23.1.toNatClampNeg (vp_updL (s61.2 s23.1.toNatClampNeg) s61.1.toNatClampNeg 0))) H := hP
                have hD : va_D A ([(a_x_costs, .inl (c_x_costs, 10, .inl x_costs)), (a_r, .inr (6, [.ref a_r_rows, .ref a_r_ins, .int r_size, .int r_n, .int r_parts])), (a_r_rows, .inl (c_r_rows, r_len, .inl r_rows)), (a_h, .inr (7, [.ref a_h_t, .ref a_h_rl, .ref a_h_cl, .int r_n, .int r_size, .long 1])), (a_h_t, .inl (c_h_t, 11, .inr (.inr (.inr (.inr (fun i => if i < 11 then some (a_h_g i) else none)))))), (a_h_rl, .inl (c_h_rl, 10, .inl (upd s23.2.1 s23.1.toNatClampNeg (r_size + s23.1)))), (a_h_cl, .inl (c_h_cl, 16, .inl h_cl))] ++ gR a_h_g c_h_g (gU s61.2 s23.1.toNatClampNeg (vp_updL (s61.2 s23.1.toNatClampNeg) s61.1.toNatClampNeg 0))) := hD
                refine lv_iinc (v := s61.1 + 1) (lv' := [(4, .int (s61.1 + 1)), (0, .ref a_h), (1, .ref a_r), (2, .ref a_x_costs), (3, .int s23.1)]) hx hb dX7_lay_98 hl (k := 4) rfl (by rfl) (by decide) rfl (fun ls hl => ?_)
                refine lv_goto (tgt := 61) hx hb dX7_lay_101 (by decide) ?_
                replace hs := Option.some.inj hs
                subst hs
                exact hZw (ih (s61.1 + 1, gU s61.2 s23.1.toNatClampNeg (vp_updL (s61.2 s23.1.toNatClampNeg) s61.1.toNatClampNeg 0)) H locs ls hn hP hD hS (lv_sub hl [1, 2, 3, 4, 0] rfl))
              · replace hs := it_f hc hs
                refine lv_lconst (v := 1) hx hb dX7_lay_92 (by decide) ?_
                refine lv_goto (tgt := 97) hx hb dX7_lay_93 (by decide) ?_
                obtain ⟨hg12, hs⟩ := gd_s hs
                refine va_lastG (X := [(a_x_costs, .inl (c_x_costs, 10, .inl x_costs)), (a_r, .inr (6, [.ref a_r_rows, .ref a_r_ins, .int r_size, .int r_n, .int r_parts])), (a_r_rows, .inl (c_r_rows, r_len, .inl r_rows)), (a_h, .inr (7, [.ref a_h_t, .ref a_h_rl, .ref a_h_cl, .int r_n, .int r_size, .long 1])), (a_h_t, .inl (c_h_t, 11, .inr (.inr (.inr (.inr (fun i => if i < 11 then some (a_h_g i) else none)))))), (a_h_rl, .inl (c_h_rl, 10, .inl (upd s23.2.1 s23.1.toNatClampNeg (r_size + s23.1)))), (a_h_cl, .inl (c_h_cl, 16, .inl h_cl))]) hx hb hK hP hD hS 5 rfl hg8 hg12 dX7_lay_97 (fun H locs hP hD hS => ?_)
                have hP : va_P (dC, dI) vwCl ([(a_x_costs, .inl (c_x_costs, 10, .inl x_costs)), (a_r, .inr (6, [.ref a_r_rows, .ref a_r_ins, .int r_size, .int r_n, .int r_parts])), (a_r_rows, .inl (c_r_rows, r_len, .inl r_rows)), (a_h, .inr (7, [.ref a_h_t, .ref a_h_rl, .ref a_h_cl, .int r_n, .int r_size, .long 1])), (a_h_t, .inl (c_h_t, 11, .inr (.inr (.inr (.inr (fun i => if i < 11 then some (a_h_g i) else none)))))), (a_h_rl, .inl (c_h_rl, 10, .inl (upd s23.2.1 s23.1.toNatClampNeg (r_size + s23.1)))), (a_h_cl, .inl (c_h_cl, 16, .inl h_cl))] ++ gR a_h_g c_h_g (gU s61.2 s23.1.toNatClampNeg (vp_updL (s61.2 s23.1.toNatClampNeg) s61.1.toNatClampNeg 1))) H := hP
                have hD : va_D A ([(a_x_costs, .inl (c_x_costs, 10, .inl x_costs)), (a_r, .inr (6, [.ref a_r_rows, .ref a_r_ins, .int r_size, .int r_n, .int r_parts])), (a_r_rows, .inl (c_r_rows, r_len, .inl r_rows)), (a_h, .inr (7, [.ref a_h_t, .ref a_h_rl, .ref a_h_cl, .int r_n, .int r_size, .long 1])), (a_h_t, .inl (c_h_t, 11, .inr (.inr (.inr (.inr (fun i => if i < 11 then some (a_h_g i) else none)))))), (a_h_rl, .inl (c_h_rl, 10, .inl (upd s23.2.1 s23.1.toNatClampNeg (r_size + s23.1)))), (a_h_cl, .inl (c_h_cl, 16, .inl h_cl))] ++ gR a_h_g c_h_g (gU s61.2 s23.1.toNatClampNeg (vp_updL (s61.2 s23.1.toNatClampNeg) s61.1.toNatClampNeg 1))) := hD
                refine lv_iinc (v := s61.1 + 1) (lv' := [(4, .int (s61.1 + 1)), (0, .ref a_h), (1, .ref a_r), (2, .ref a_x_costs), (3, .int s23.1)]) hx hb dX7_lay_98 hl (k := 4) rfl (by rfl) (by decide) rfl (fun ls hl => ?_)
                refine lv_goto (tgt := 61) hx hb dX7_lay_101 (by decide) ?_
                replace hs := Option.some.inj hs
                subst hs
                exact hZw (ih (s61.1 + 1, gU s61.2 s23.1.toNatClampNeg (vp_updL (s61.2 s23.1.toNatClampNeg) s61.1.toNatClampNeg 1)) H locs ls hn hP hD hS (lv_sub hl [1, 2, 3, 4, 0] rfl))
        obtain ⟨n61, hn61⟩ := lp_ex he61
        exact hZw (hL61 n61 (0, gU s23.2.2 s23.1.toNatClampNeg (vp_updL (s23.2.2 s23.1.toNatClampNeg) r_size.toNatClampNeg ((x_costs s23.1.toNatClampNeg).toInt64))) H locs ls hn61 hP hD hS (lv_sub hl [1, 2, 3, 4, 0] rfl))
  obtain ⟨n23, hn23⟩ := lp_ex he23
  exact hZw (hL23 n23 (0, h_rl, h_g) H locs ls hn23 hP hD hS (lv_sub hl [1, 2, 3, 0] rfl))
noncomputable def pX7_enteringColumn_J47_4 (s4 : Int32 × Int32) (t47 : Unit) : Option ((Int32 × Int32) ⊕ (Int32)) :=
  some (Sum.inl (s4.2, s4.2 + 1))
noncomputable def pX7_enteringColumn_L4 (h_rows : Int32) (h_columns : Int32) (h_cl : Nat → Int32) (h_g : Nat → Nat → Int64) (s4 : Int32 × Int32) : Option ((Int32 × Int32) ⊕ (Int32)) :=
  if h_columns ≤ s4.2 then (some (Sum.inr s4.1)) else (gd (vp_in h_rows 11) (gd (vp_in s4.2 17) (if 0 ≤ (lg_cmp (h_g h_rows.toNatClampNeg s4.2.toNatClampNeg) 0) then (some (Sum.inl (s4.1, s4.2 + 1))) else (if s4.1 < 0 then (pX7_enteringColumn_J47_4 s4 ()) else (gd (vp_in s4.2 16) (gd (vp_in s4.1 16) (if (h_cl s4.1.toNatClampNeg) ≤ (h_cl s4.2.toNatClampNeg) then (some (Sum.inl (s4.1, s4.2 + 1))) else (pX7_enteringColumn_J47_4 s4 ()))))))))
noncomputable def pX7_enteringColumn (h_rows : Int32) (h_columns : Int32) (h_cl : Nat → Int32) (h_g : Nat → Nat → Int64) : Option (Int32) :=
  Option.bind (lp (pX7_enteringColumn_L4 h_rows h_columns h_cl h_g) ((-1), 0)) (fun e4 => some e4)
set_option maxHeartbeats 4000000 in
set_option maxRecDepth 100000 in
theorem c_X7_enteringColumn (l : Launch) (dC : Nat → ClassId) (dI : Nat → Nat → Nat) (a_h : Nat) (a_h_t : Nat) (a_h_rl : Nat) (a_h_cl : Nat) (a_h_g : Nat → Nat) (c_h_t c_h_cl c_h_g : ClassId) (sz : Nat) (h_rows : Int32) (h_columns : Int32) (h_divisor : Int64) (h_cl : Nat → Int32) (h_g : Nat → Nat → Int64) (rv : Int32) (hs : pX7_enteringColumn h_rows h_columns h_cl h_g = some rv) : Met l yX7_enteringColumn wsX7_enteringColumn ({ frames := 0, cells := 0, slots := 0, locals := 0 }) (sPc [.ref a_h] (dC, dI) [(c_h_t, .array .long), (c_h_cl, .int), (c_h_g, .long)] ([(a_h, .inr (7, [.ref a_h_t, .ref a_h_rl, .ref a_h_cl, .int h_rows, .int h_columns, .long h_divisor])), (a_h_t, .inl (c_h_t, 11, .inr (.inr (.inr (.inr (fun i => if i < 11 then some (a_h_g i) else none)))))), (a_h_cl, .inl (c_h_cl, 16, .inl h_cl))] ++ gR a_h_g c_h_g h_g) sz) (va_Qi (fun (r : Int32) (_ : Unit) => r = rv) (sB (dC, dI) [(c_h_t, .array .long), (c_h_cl, .int), (c_h_g, .long)] (va_A ([(a_h, .inr (7, [.ref a_h_t, .ref a_h_rl, .ref a_h_cl, .int h_rows, .int h_columns, .long h_divisor])), (a_h_t, .inl (c_h_t, 11, .inr (.inr (.inr (.inr (fun i => if i < 11 then some (a_h_g i) else none)))))), (a_h_cl, .inl (c_h_cl, 16, .inl h_cl))] ++ gR a_h_g c_h_g h_g) sz) ([(a_h, .inr (7, [.ref a_h_t, .ref a_h_rl, .ref a_h_cl, .int h_rows, .int h_columns, .long h_divisor])), (a_h_t, .inl (c_h_t, 11, .inr (.inr (.inr (.inr (fun i => if i < 11 then some (a_h_g i) else none)))))), (a_h_cl, .inl (c_h_cl, 16, .inl h_cl))] ++ gR a_h_g c_h_g h_g)) (va_A ([(a_h, .inr (7, [.ref a_h_t, .ref a_h_rl, .ref a_h_cl, .int h_rows, .int h_columns, .long h_divisor])), (a_h_t, .inl (c_h_t, 11, .inr (.inr (.inr (.inr (fun i => if i < 11 then some (a_h_g i) else none)))))), (a_h_cl, .inl (c_h_cl, 16, .inl h_cl))] ++ gR a_h_g c_h_g h_g) sz)) 0 0 (va_A ([(a_h, .inr (7, [.ref a_h_t, .ref a_h_rl, .ref a_h_cl, .int h_rows, .int h_columns, .long h_divisor])), (a_h_t, .inl (c_h_t, 11, .inr (.inr (.inr (.inr (fun i => if i < 11 then some (a_h_g i) else none)))))), (a_h_cl, .inl (c_h_cl, 16, .inl h_cl))] ++ gR a_h_g c_h_g h_g) sz) := by
  refine Met.ofW (cc := cX7_enteringColumn) (maxL := 3) (ret := (some .int)) (by decide) rfl ?_
  intro p e s m args below meth c s₁ B hml hv
  obtain ⟨rfl, hsz, hP, hK, hD0, hN⟩ := hv
  have hx := B.exec
  have hb := B.bytes
  have hr := B.returns
  have hts := atoms_spec (ws := wsX7_enteringColumn) B.pre
  have hown : s.vm.findClass RX7 = some m.cls := findClass_of_methodNamed B.named
  have hlocks := B.notSynchronized
  subst hsz
  have hD := hD0.self (sz := s.heap.size)
  generalize hAe : va_A ([(a_h, .inr (7, [.ref a_h_t, .ref a_h_rl, .ref a_h_cl, .int h_rows, .int h_columns, .long h_divisor])), (a_h_t, .inl (c_h_t, 11, .inr (.inr (.inr (.inr (fun i => if i < 11 then some (a_h_g i) else none)))))), (a_h_cl, .inl (c_h_cl, 16, .inl h_cl))] ++ gR a_h_g c_h_g h_g) s.heap.size = A at hD hN ⊢
  have hA : ∀ q : Nat, s.heap.size ≤ q → A q := fun q h => by rw [← hAe]; exact Or.inr h
  have hS : va_S A s.heap s.heap [] := va_S.rf
  have hP : va_P (dC, dI) vwCl ([(a_h, .inr (7, [.ref a_h_t, .ref a_h_rl, .ref a_h_cl, .int h_rows, .int h_columns, .long h_divisor])), (a_h_t, .inl (c_h_t, 11, .inr (.inr (.inr (.inr (fun i => if i < 11 then some (a_h_g i) else none)))))), (a_h_cl, .inl (c_h_cl, 16, .inl h_cl))] ++ gR a_h_g c_h_g h_g) s.heap := hP
  have hl := lv_entry ([.ref a_h]) (n := 3) (Nat.le_of_ble_eq_true rfl)
  rw [lg_entry_eq]
  generalize (lg_sl ([.ref a_h]) ++ List.replicate (3 - (lg_sl ([.ref a_h])).length) Slot.unset).toArray = ls at hl ⊢
  have hl : lv_has ls 3 [(0, .ref a_h)] := hl
  have hiX7 : ∀ w ∈ wsX70, w ∈ wsX7_enteringColumn := fun _ h => List.mem_cons_of_mem _ (List.mem_append_right _ h)
  have hf27 := hts (.fieldLink RX7 27 "MeetSets$Shares" "columns" "I") (t1_ (al_ h1_))
  have hf13 := hts (.fieldLink RX7 13 "MeetSets$Shares" "table" "[[J") (t1_ (al_ (t1_ h1_)))
  have hf23 := hts (.fieldLink RX7 23 "MeetSets$Shares" "rows" "I") (t1_ (al_ (t1_ (t1_ h1_))))
  have hf20 := hts (.fieldLink RX7 20 "MeetSets$Shares" "columnLabels" "[I") (t1_ (al_ (t1_ (t1_ (t1_ h1_)))))
  refine w_abs (fun Z hZv hZw => ?_)
  refine hZv ?_
  obtain ⟨H, hH⟩ : ∃ H, H = s.heap := ⟨_, rfl⟩
  obtain ⟨locs, hlo⟩ : ∃ L : List Loc, L = [] := ⟨_, rfl⟩
  rw [← hlo, ← hH]
  have hS : va_S A s.heap H locs := by rw [hlo, hH]; exact hS
  have hP : va_P (dC, dI) vwCl ([(a_h, .inr (7, [.ref a_h_t, .ref a_h_rl, .ref a_h_cl, .int h_rows, .int h_columns, .long h_divisor])), (a_h_t, .inl (c_h_t, 11, .inr (.inr (.inr (.inr (fun i => if i < 11 then some (a_h_g i) else none)))))), (a_h_cl, .inl (c_h_cl, 16, .inl h_cl))] ++ gR a_h_g c_h_g h_g) H := by rw [hH]; exact hP
  clear hH hlo
  unfold pX7_enteringColumn at hs
  refine lv_iconst (v := (-1)) hx hb dX7_enteringColumn_0 (by decide) ?_
  refine lv_istore_n (lv' := [(1, .int (-1)), (0, .ref a_h)]) hx hb dX7_enteringColumn_1 rfl hl (by decide) rfl (fun ls hl => ?_)
  refine lv_iconst (v := 0) hx hb dX7_enteringColumn_2 (by decide) ?_
  refine lv_istore_n (lv' := [(2, .int 0), (1, .int (-1)), (0, .ref a_h)]) hx hb dX7_enteringColumn_3 rfl hl (by decide) rfl (fun ls hl => ?_)
  obtain ⟨e4, he4, hs⟩ := bd_s hs
  have hX4 : ∀ (H : Heap) (locs : List Loc) (ls : Array Slot), va_P (dC, dI) vwCl ([(a_h, .inr (7, [.ref a_h_t, .ref a_h_rl, .ref a_h_cl, .int h_rows, .int h_columns, .long h_divisor])), (a_h_t, .inl (c_h_t, 11, .inr (.inr (.inr (.inr (fun i => if i < 11 then some (a_h_g i) else none)))))), (a_h_cl, .inl (c_h_cl, 16, .inl h_cl))] ++ gR a_h_g c_h_g h_g) H → va_D A ([(a_h, .inr (7, [.ref a_h_t, .ref a_h_rl, .ref a_h_cl, .int h_rows, .int h_columns, .long h_divisor])), (a_h_t, .inl (c_h_t, 11, .inr (.inr (.inr (.inr (fun i => if i < 11 then some (a_h_g i) else none)))))), (a_h_cl, .inl (c_h_cl, 16, .inl h_cl))] ++ gR a_h_g c_h_g h_g) → va_S A s.heap H locs → lv_has ls 3 [(1, .int e4)] → Z H locs 0 0 (F0 m 55 ls []) := by
    intro H locs ls hP hD hS hl
    refine hZv ?_
    refine lv_iload_n hx hb dX7_enteringColumn_55 rfl (lv_at hl 0 rfl) ?_
    replace hs := Option.some.inj hs
    subst hs
    exact W.iret (v := e4) hx hb hr (fun t ht hW => ⟨⟨e4, (), rfl, rfl, by rw [ht]; exact hP, va_K.moved hW.alike hK, hD⟩, hS.F ht⟩) hS.2.2 dX7_enteringColumn_56
  clear hs
  have hL4 : ∀ (n : Nat) (s4 : Int32 × Int32) (H : Heap) (locs : List Loc) (ls : Array Slot), itr (pX7_enteringColumn_L4 h_rows h_columns h_cl h_g) n s4 = some e4 → va_P (dC, dI) vwCl ([(a_h, .inr (7, [.ref a_h_t, .ref a_h_rl, .ref a_h_cl, .int h_rows, .int h_columns, .long h_divisor])), (a_h_t, .inl (c_h_t, 11, .inr (.inr (.inr (.inr (fun i => if i < 11 then some (a_h_g i) else none)))))), (a_h_cl, .inl (c_h_cl, 16, .inl h_cl))] ++ gR a_h_g c_h_g h_g) H → va_D A ([(a_h, .inr (7, [.ref a_h_t, .ref a_h_rl, .ref a_h_cl, .int h_rows, .int h_columns, .long h_divisor])), (a_h_t, .inl (c_h_t, 11, .inr (.inr (.inr (.inr (fun i => if i < 11 then some (a_h_g i) else none)))))), (a_h_cl, .inl (c_h_cl, 16, .inl h_cl))] ++ gR a_h_g c_h_g h_g) → va_S A s.heap H locs → lv_has ls 3 [(0, .ref a_h), (1, .int s4.1), (2, .int s4.2)] → Z H locs 0 0 (F0 m 4 ls []) := by
    intro n
    induction n with
    | zero =>
      intro s4 H locs ls hn
      exact (itr_0 hn).elim
    | succ n ih =>
      intro s4 H locs ls hn hP hD hS hl
      obtain ⟨y1, hs, hn⟩ := itr_s hn
      unfold pX7_enteringColumn_L4 at hs
      refine hZv ?_
      refine lv_iload_n hx hb dX7_enteringColumn_4 rfl (lv_at hl 2 rfl) ?_
      refine lv_aload_n hx hb dX7_enteringColumn_5 rfl (lv_at hl 0 rfl) ?_
      refine va_get (D := (dC, dI)) (ci := 7) (v := .int h_columns) (C := RX7) (T := TX7) (N := 6) hx hb hts hiX7 hown hK hP 0 rfl rfl 4 (by decide) hf27 (fun _ h9 => h9) rfl dX7_enteringColumn_6 ?_
      refine lv_icmp_ge (tgt := 55) hx hb dX7_enteringColumn_9 (by decide) (fun hc => ?_) (fun hc => ?_)
      · replace hs := it_t hc hs
        replace hs := Option.some.inj hs
        subst hs
        obtain rfl : s4.1 = e4 := hn
        exact hZw (hX4 H locs ls hP hD hS (lv_sub hl [1] rfl))
      · replace hs := it_f hc hs
        refine lv_aload_n hx hb dX7_enteringColumn_12 rfl (lv_at hl 0 rfl) ?_
        refine va_get (D := (dC, dI)) (ci := 7) (v := .ref a_h_t) (C := RX7) (T := TX7) (N := 6) hx hb hts hiX7 hown hK hP 0 rfl rfl 0 (by decide) hf13 (fun _ h9 => h9) rfl dX7_enteringColumn_13 ?_
        refine lv_aload_n hx hb dX7_enteringColumn_16 rfl (lv_at hl 0 rfl) ?_
        refine va_get (D := (dC, dI)) (ci := 7) (v := .int h_rows) (C := RX7) (T := TX7) (N := 6) hx hb hts hiX7 hown hK hP 0 rfl rfl 3 (by decide) hf23 (fun _ h9 => h9) rfl dX7_enteringColumn_17 ?_
        obtain ⟨hg2, hs⟩ := gd_s hs
        refine va_aldG hx hb hK hP 1 0 rfl rfl hg2 dX7_enteringColumn_20 ?_
        refine lv_iload_n hx hb dX7_enteringColumn_21 rfl (lv_at hl 2 rfl) ?_
        obtain ⟨hg3, hs⟩ := gd_s hs
        refine va_laldG (X := [(a_h, .inr (7, [.ref a_h_t, .ref a_h_rl, .ref a_h_cl, .int h_rows, .int h_columns, .long h_divisor])), (a_h_t, .inl (c_h_t, 11, .inr (.inr (.inr (.inr (fun i => if i < 11 then some (a_h_g i) else none)))))), (a_h_cl, .inl (c_h_cl, 16, .inl h_cl))]) hx hb hK hP 2 rfl hg2 hg3 dX7_enteringColumn_22 ?_
        refine lv_lconst (v := 0) hx hb dX7_enteringColumn_23 (by decide) ?_
        refine W.lcmp hx hb dX7_enteringColumn_24 ?_
        refine lv_if_ge (tgt := 49) hx hb dX7_enteringColumn_25 (by decide) (fun hc => ?_) (fun hc => ?_)
        · replace hs := it_t hc hs
          refine lv_iinc (v := s4.2 + 1) (lv' := [(2, .int (s4.2 + 1)), (0, .ref a_h), (1, .int s4.1)]) hx hb dX7_enteringColumn_49 hl (k := 2) rfl (by rfl) (by decide) rfl (fun ls hl => ?_)
          refine lv_goto (tgt := 4) hx hb dX7_enteringColumn_52 (by decide) ?_
          replace hs := Option.some.inj hs
          subst hs
          exact hZw (ih (s4.1, s4.2 + 1) H locs ls hn hP hD hS (lv_sub hl [1, 2, 0] rfl))
        · replace hs := it_f hc hs
          refine lv_iload_n hx hb dX7_enteringColumn_28 rfl (lv_at hl 1 rfl) ?_
          have hJ47 : ∀ (t47 : Unit), pX7_enteringColumn_J47_4 s4 t47 = some y1 → ∀ (H : Heap) (locs : List Loc) (ls : Array Slot), va_P (dC, dI) vwCl ([(a_h, .inr (7, [.ref a_h_t, .ref a_h_rl, .ref a_h_cl, .int h_rows, .int h_columns, .long h_divisor])), (a_h_t, .inl (c_h_t, 11, .inr (.inr (.inr (.inr (fun i => if i < 11 then some (a_h_g i) else none)))))), (a_h_cl, .inl (c_h_cl, 16, .inl h_cl))] ++ gR a_h_g c_h_g h_g) H → va_D A ([(a_h, .inr (7, [.ref a_h_t, .ref a_h_rl, .ref a_h_cl, .int h_rows, .int h_columns, .long h_divisor])), (a_h_t, .inl (c_h_t, 11, .inr (.inr (.inr (.inr (fun i => if i < 11 then some (a_h_g i) else none)))))), (a_h_cl, .inl (c_h_cl, 16, .inl h_cl))] ++ gR a_h_g c_h_g h_g) → va_S A s.heap H locs → lv_has ls 3 [(0, .ref a_h), (2, .int s4.2)] → Z H locs 0 0 (F0 m 47 ls []) := by
            intro t47 hs H locs ls hP hD hS hl
            refine hZv ?_
            unfold pX7_enteringColumn_J47_4 at hs
            refine lv_iload_n hx hb dX7_enteringColumn_47 rfl (lv_at hl 1 rfl) ?_
            refine lv_istore_n (lv' := [(1, .int s4.2), (0, .ref a_h), (2, .int s4.2)]) hx hb dX7_enteringColumn_48 rfl hl (by decide) rfl (fun ls hl => ?_)
            refine lv_iinc (v := s4.2 + 1) (lv' := [(2, .int (s4.2 + 1)), (1, .int s4.2), (0, .ref a_h)]) hx hb dX7_enteringColumn_49 hl (k := 2) rfl (by rfl) (by decide) rfl (fun ls hl => ?_)
            refine lv_goto (tgt := 4) hx hb dX7_enteringColumn_52 (by decide) ?_
            replace hs := Option.some.inj hs
            subst hs
            exact hZw (ih (s4.2, s4.2 + 1) H locs ls hn hP hD hS (lv_sub hl [2, 1, 0] rfl))
          refine lv_if_lt (tgt := 47) hx hb dX7_enteringColumn_29 (by decide) (fun hc => ?_) (fun hc => ?_)
          · replace hs := it_t hc hs
            exact hZw (hJ47 () hs H locs ls hP hD hS (lv_sub hl [0, 2] rfl))
          · replace hs := it_f hc hs
            refine lv_aload_n hx hb dX7_enteringColumn_32 rfl (lv_at hl 0 rfl) ?_
            refine va_get (D := (dC, dI)) (ci := 7) (v := .ref a_h_cl) (C := RX7) (T := TX7) (N := 6) hx hb hts hiX7 hown hK hP 0 rfl rfl 2 (by decide) hf20 (fun _ h9 => h9) rfl dX7_enteringColumn_33 ?_
            refine lv_iload_n hx hb dX7_enteringColumn_36 rfl (lv_at hl 2 rfl) ?_
            obtain ⟨hg5, hs⟩ := gd_s hs
            refine va_iald hx hb hK hP 2 1 rfl rfl hg5 dX7_enteringColumn_37 ?_
            refine lv_aload_n hx hb dX7_enteringColumn_38 rfl (lv_at hl 0 rfl) ?_
            refine va_get (D := (dC, dI)) (ci := 7) (v := .ref a_h_cl) (C := RX7) (T := TX7) (N := 6) hx hb hts hiX7 hown hK hP 0 rfl rfl 2 (by decide) hf20 (fun _ h9 => h9) rfl dX7_enteringColumn_39 ?_
            refine lv_iload_n hx hb dX7_enteringColumn_42 rfl (lv_at hl 1 rfl) ?_
            obtain ⟨hg6, hs⟩ := gd_s hs
            refine va_iald hx hb hK hP 2 1 rfl rfl hg6 dX7_enteringColumn_43 ?_
            refine lv_icmp_ge (tgt := 49) hx hb dX7_enteringColumn_44 (by decide) (fun hc => ?_) (fun hc => ?_)
            · replace hs := it_t hc hs
              refine lv_iinc (v := s4.2 + 1) (lv' := [(2, .int (s4.2 + 1)), (0, .ref a_h), (1, .int s4.1)]) hx hb dX7_enteringColumn_49 hl (k := 2) rfl (by rfl) (by decide) rfl (fun ls hl => ?_)
              refine lv_goto (tgt := 4) hx hb dX7_enteringColumn_52 (by decide) ?_
              replace hs := Option.some.inj hs
              subst hs
              exact hZw (ih (s4.1, s4.2 + 1) H locs ls hn hP hD hS (lv_sub hl [1, 2, 0] rfl))
            · replace hs := it_f hc hs
              exact hZw (hJ47 () hs H locs ls hP hD hS (lv_sub hl [0, 2] rfl))
  obtain ⟨n4, hn4⟩ := lp_ex he4
  exact hZw (hL4 n4 ((-1), 0) H locs ls hn4 hP hD hS (lv_sub hl [2, 1, 0] rfl))
noncomputable def pX7_bindsBefore_J75 (t75 : Unit) : Option (Int32) :=
  some 1
noncomputable def pX7_bindsBefore (h_columns : Int32) (h_rl : Nat → Int32) (h_g : Nat → Nat → Int64) (p1 : Int32) (p2 : Int32) (p3 : Int32) : Option (Int32) :=
  gd (vp_in p1 11) (gd (vp_in h_columns 17) (gd (vp_in p2 11) (gd (vp_in p3 17) (gd (vp_in p2 11) (gd (vp_in h_columns 17) (gd (vp_in p1 11) (gd (vp_in p3 17) (if (lg_cmp ((h_g p1.toNatClampNeg h_columns.toNatClampNeg) * (h_g p2.toNatClampNeg p3.toNatClampNeg)) ((h_g p2.toNatClampNeg h_columns.toNatClampNeg) * (h_g p1.toNatClampNeg p3.toNatClampNeg))) < 0 then (pX7_bindsBefore_J75 ()) else (if (lg_cmp ((h_g p1.toNatClampNeg h_columns.toNatClampNeg) * (h_g p2.toNatClampNeg p3.toNatClampNeg)) ((h_g p2.toNatClampNeg h_columns.toNatClampNeg) * (h_g p1.toNatClampNeg p3.toNatClampNeg))) = 0 then (gd (vp_in p1 10) (gd (vp_in p2 10) (if (h_rl p2.toNatClampNeg) ≤ (h_rl p1.toNatClampNeg) then (some 0) else (pX7_bindsBefore_J75 ())))) else (some 0))))))))))
set_option maxHeartbeats 4000000 in
set_option maxRecDepth 100000 in
theorem c_X7_bindsBefore (l : Launch) (dC : Nat → ClassId) (dI : Nat → Nat → Nat) (a_h : Nat) (a_h_t : Nat) (a_h_rl : Nat) (a_h_cl : Nat) (a_h_g : Nat → Nat) (c_h_t c_h_rl c_h_g : ClassId) (sz : Nat) (h_rows : Int32) (h_columns : Int32) (h_divisor : Int64) (h_rl : Nat → Int32) (h_g : Nat → Nat → Int64) (p1 : Int32) (p2 : Int32) (p3 : Int32) (rv : Int32) (hs : pX7_bindsBefore h_columns h_rl h_g p1 p2 p3 = some rv) : Met l yX7_bindsBefore wsX7_bindsBefore ({ frames := 0, cells := 0, slots := 0, locals := 0 }) (sPc [.ref a_h, .int p1, .int p2, .int p3] (dC, dI) [(c_h_t, .array .long), (c_h_rl, .int), (c_h_g, .long)] ([(a_h, .inr (7, [.ref a_h_t, .ref a_h_rl, .ref a_h_cl, .int h_rows, .int h_columns, .long h_divisor])), (a_h_t, .inl (c_h_t, 11, .inr (.inr (.inr (.inr (fun i => if i < 11 then some (a_h_g i) else none)))))), (a_h_rl, .inl (c_h_rl, 10, .inl h_rl))] ++ gR a_h_g c_h_g h_g) sz) (va_Qi (fun (r : Int32) (_ : Unit) => r = rv) (sB (dC, dI) [(c_h_t, .array .long), (c_h_rl, .int), (c_h_g, .long)] (va_A ([(a_h, .inr (7, [.ref a_h_t, .ref a_h_rl, .ref a_h_cl, .int h_rows, .int h_columns, .long h_divisor])), (a_h_t, .inl (c_h_t, 11, .inr (.inr (.inr (.inr (fun i => if i < 11 then some (a_h_g i) else none)))))), (a_h_rl, .inl (c_h_rl, 10, .inl h_rl))] ++ gR a_h_g c_h_g h_g) sz) ([(a_h, .inr (7, [.ref a_h_t, .ref a_h_rl, .ref a_h_cl, .int h_rows, .int h_columns, .long h_divisor])), (a_h_t, .inl (c_h_t, 11, .inr (.inr (.inr (.inr (fun i => if i < 11 then some (a_h_g i) else none)))))), (a_h_rl, .inl (c_h_rl, 10, .inl h_rl))] ++ gR a_h_g c_h_g h_g)) (va_A ([(a_h, .inr (7, [.ref a_h_t, .ref a_h_rl, .ref a_h_cl, .int h_rows, .int h_columns, .long h_divisor])), (a_h_t, .inl (c_h_t, 11, .inr (.inr (.inr (.inr (fun i => if i < 11 then some (a_h_g i) else none)))))), (a_h_rl, .inl (c_h_rl, 10, .inl h_rl))] ++ gR a_h_g c_h_g h_g) sz)) 0 0 (va_A ([(a_h, .inr (7, [.ref a_h_t, .ref a_h_rl, .ref a_h_cl, .int h_rows, .int h_columns, .long h_divisor])), (a_h_t, .inl (c_h_t, 11, .inr (.inr (.inr (.inr (fun i => if i < 11 then some (a_h_g i) else none)))))), (a_h_rl, .inl (c_h_rl, 10, .inl h_rl))] ++ gR a_h_g c_h_g h_g) sz) := by
  refine Met.ofW (cc := cX7_bindsBefore) (maxL := 8) (ret := (some .boolean)) (by decide) rfl ?_
  intro p e s m args below meth c s₁ B hml hv
  obtain ⟨rfl, hsz, hP, hK, hD0, hN⟩ := hv
  have hx := B.exec
  have hb := B.bytes
  have hr := B.returns
  have hts := atoms_spec (ws := wsX7_bindsBefore) B.pre
  have hown : s.vm.findClass RX7 = some m.cls := findClass_of_methodNamed B.named
  have hlocks := B.notSynchronized
  subst hsz
  have hD := hD0.self (sz := s.heap.size)
  generalize hAe : va_A ([(a_h, .inr (7, [.ref a_h_t, .ref a_h_rl, .ref a_h_cl, .int h_rows, .int h_columns, .long h_divisor])), (a_h_t, .inl (c_h_t, 11, .inr (.inr (.inr (.inr (fun i => if i < 11 then some (a_h_g i) else none)))))), (a_h_rl, .inl (c_h_rl, 10, .inl h_rl))] ++ gR a_h_g c_h_g h_g) s.heap.size = A at hD hN ⊢
  have hA : ∀ q : Nat, s.heap.size ≤ q → A q := fun q h => by rw [← hAe]; exact Or.inr h
  have hS : va_S A s.heap s.heap [] := va_S.rf
  have hP : va_P (dC, dI) vwCl ([(a_h, .inr (7, [.ref a_h_t, .ref a_h_rl, .ref a_h_cl, .int h_rows, .int h_columns, .long h_divisor])), (a_h_t, .inl (c_h_t, 11, .inr (.inr (.inr (.inr (fun i => if i < 11 then some (a_h_g i) else none)))))), (a_h_rl, .inl (c_h_rl, 10, .inl h_rl))] ++ gR a_h_g c_h_g h_g) s.heap := hP
  have hl := lv_entry ([.ref a_h, .int p1, .int p2, .int p3]) (n := 8) (Nat.le_of_ble_eq_true rfl)
  rw [lg_entry_eq]
  generalize (lg_sl ([.ref a_h, .int p1, .int p2, .int p3]) ++ List.replicate (8 - (lg_sl ([.ref a_h, .int p1, .int p2, .int p3])).length) Slot.unset).toArray = ls at hl ⊢
  have hl : lv_has ls 8 [(0, .ref a_h), (1, .int p1), (2, .int p2), (3, .int p3)] := hl
  have hiX7 : ∀ w ∈ wsX70, w ∈ wsX7_bindsBefore := fun _ h => List.mem_cons_of_mem _ (List.mem_append_right _ h)
  have hf13 := hts (.fieldLink RX7 13 "MeetSets$Shares" "table" "[[J") (t1_ (al_ h1_))
  have hf27 := hts (.fieldLink RX7 27 "MeetSets$Shares" "columns" "I") (t1_ (al_ (t1_ h1_)))
  have hf16 := hts (.fieldLink RX7 16 "MeetSets$Shares" "rowLabels" "[I") (t1_ (al_ (t1_ (t1_ h1_))))
  refine w_abs (fun Z hZv hZw => ?_)
  refine hZv ?_
  obtain ⟨H, hH⟩ : ∃ H, H = s.heap := ⟨_, rfl⟩
  obtain ⟨locs, hlo⟩ : ∃ L : List Loc, L = [] := ⟨_, rfl⟩
  rw [← hlo, ← hH]
  have hS : va_S A s.heap H locs := by rw [hlo, hH]; exact hS
  have hP : va_P (dC, dI) vwCl ([(a_h, .inr (7, [.ref a_h_t, .ref a_h_rl, .ref a_h_cl, .int h_rows, .int h_columns, .long h_divisor])), (a_h_t, .inl (c_h_t, 11, .inr (.inr (.inr (.inr (fun i => if i < 11 then some (a_h_g i) else none)))))), (a_h_rl, .inl (c_h_rl, 10, .inl h_rl))] ++ gR a_h_g c_h_g h_g) H := by rw [hH]; exact hP
  clear hH hlo
  unfold pX7_bindsBefore at hs
  refine lv_aload_n hx hb dX7_bindsBefore_0 rfl (lv_at hl 0 rfl) ?_
  refine va_get (D := (dC, dI)) (ci := 7) (v := .ref a_h_t) (C := RX7) (T := TX7) (N := 6) hx hb hts hiX7 hown hK hP 0 rfl rfl 0 (by decide) hf13 (fun _ h9 => h9) rfl dX7_bindsBefore_1 ?_
  refine lv_iload_n hx hb dX7_bindsBefore_4 rfl (lv_at hl 1 rfl) ?_
  obtain ⟨hg1, hs⟩ := gd_s hs
  refine va_aldG hx hb hK hP 1 0 rfl rfl hg1 dX7_bindsBefore_5 ?_
  refine lv_aload_n hx hb dX7_bindsBefore_6 rfl (lv_at hl 0 rfl) ?_
  refine va_get (D := (dC, dI)) (ci := 7) (v := .int h_columns) (C := RX7) (T := TX7) (N := 6) hx hb hts hiX7 hown hK hP 0 rfl rfl 4 (by decide) hf27 (fun _ h9 => h9) rfl dX7_bindsBefore_7 ?_
  obtain ⟨hg2, hs⟩ := gd_s hs
  refine va_laldG (X := [(a_h, .inr (7, [.ref a_h_t, .ref a_h_rl, .ref a_h_cl, .int h_rows, .int h_columns, .long h_divisor])), (a_h_t, .inl (c_h_t, 11, .inr (.inr (.inr (.inr (fun i => if i < 11 then some (a_h_g i) else none)))))), (a_h_rl, .inl (c_h_rl, 10, .inl h_rl))]) hx hb hK hP 2 rfl hg1 hg2 dX7_bindsBefore_10 ?_
  refine lv_aload_n hx hb dX7_bindsBefore_11 rfl (lv_at hl 0 rfl) ?_
  refine va_get (D := (dC, dI)) (ci := 7) (v := .ref a_h_t) (C := RX7) (T := TX7) (N := 6) hx hb hts hiX7 hown hK hP 0 rfl rfl 0 (by decide) hf13 (fun _ h9 => h9) rfl dX7_bindsBefore_12 ?_
  refine lv_iload_n hx hb dX7_bindsBefore_15 rfl (lv_at hl 2 rfl) ?_
  obtain ⟨hg3, hs⟩ := gd_s hs
  refine va_aldG hx hb hK hP 1 0 rfl rfl hg3 dX7_bindsBefore_16 ?_
  refine lv_iload_n hx hb dX7_bindsBefore_17 rfl (lv_at hl 3 rfl) ?_
  obtain ⟨hg4, hs⟩ := gd_s hs
  refine va_laldG (X := [(a_h, .inr (7, [.ref a_h_t, .ref a_h_rl, .ref a_h_cl, .int h_rows, .int h_columns, .long h_divisor])), (a_h_t, .inl (c_h_t, 11, .inr (.inr (.inr (.inr (fun i => if i < 11 then some (a_h_g i) else none)))))), (a_h_rl, .inl (c_h_rl, 10, .inl h_rl))]) hx hb hK hP 2 rfl hg3 hg4 dX7_bindsBefore_18 ?_
  refine lv_lmul hx hb dX7_bindsBefore_19 ?_
  refine lv_lstore (lv' := [(4, .long ((h_g p1.toNatClampNeg h_columns.toNatClampNeg) * (h_g p2.toNatClampNeg p3.toNatClampNeg))), (0, .ref a_h), (1, .int p1), (2, .int p2), (3, .int p3)]) hx hb dX7_bindsBefore_20 hl (by decide) rfl (fun ls hl => ?_)
  refine lv_aload_n hx hb dX7_bindsBefore_22 rfl (lv_at hl 1 rfl) ?_
  refine va_get (D := (dC, dI)) (ci := 7) (v := .ref a_h_t) (C := RX7) (T := TX7) (N := 6) hx hb hts hiX7 hown hK hP 0 rfl rfl 0 (by decide) hf13 (fun _ h9 => h9) rfl dX7_bindsBefore_23 ?_
  refine lv_iload_n hx hb dX7_bindsBefore_26 rfl (lv_at hl 3 rfl) ?_
  obtain ⟨hg5, hs⟩ := gd_s hs
  refine va_aldG hx hb hK hP 1 0 rfl rfl hg5 dX7_bindsBefore_27 ?_
  refine lv_aload_n hx hb dX7_bindsBefore_28 rfl (lv_at hl 1 rfl) ?_
  refine va_get (D := (dC, dI)) (ci := 7) (v := .int h_columns) (C := RX7) (T := TX7) (N := 6) hx hb hts hiX7 hown hK hP 0 rfl rfl 4 (by decide) hf27 (fun _ h9 => h9) rfl dX7_bindsBefore_29 ?_
  obtain ⟨hg6, hs⟩ := gd_s hs
  refine va_laldG (X := [(a_h, .inr (7, [.ref a_h_t, .ref a_h_rl, .ref a_h_cl, .int h_rows, .int h_columns, .long h_divisor])), (a_h_t, .inl (c_h_t, 11, .inr (.inr (.inr (.inr (fun i => if i < 11 then some (a_h_g i) else none)))))), (a_h_rl, .inl (c_h_rl, 10, .inl h_rl))]) hx hb hK hP 2 rfl hg5 hg6 dX7_bindsBefore_32 ?_
  refine lv_aload_n hx hb dX7_bindsBefore_33 rfl (lv_at hl 1 rfl) ?_
  refine va_get (D := (dC, dI)) (ci := 7) (v := .ref a_h_t) (C := RX7) (T := TX7) (N := 6) hx hb hts hiX7 hown hK hP 0 rfl rfl 0 (by decide) hf13 (fun _ h9 => h9) rfl dX7_bindsBefore_34 ?_
  refine lv_iload_n hx hb dX7_bindsBefore_37 rfl (lv_at hl 2 rfl) ?_
  obtain ⟨hg7, hs⟩ := gd_s hs
  refine va_aldG hx hb hK hP 1 0 rfl rfl hg7 dX7_bindsBefore_38 ?_
  refine lv_iload_n hx hb dX7_bindsBefore_39 rfl (lv_at hl 4 rfl) ?_
  obtain ⟨hg8, hs⟩ := gd_s hs
  refine va_laldG (X := [(a_h, .inr (7, [.ref a_h_t, .ref a_h_rl, .ref a_h_cl, .int h_rows, .int h_columns, .long h_divisor])), (a_h_t, .inl (c_h_t, 11, .inr (.inr (.inr (.inr (fun i => if i < 11 then some (a_h_g i) else none)))))), (a_h_rl, .inl (c_h_rl, 10, .inl h_rl))]) hx hb hK hP 2 rfl hg7 hg8 dX7_bindsBefore_40 ?_
  refine lv_lmul hx hb dX7_bindsBefore_41 ?_
  refine lv_lstore (lv' := [(6, .long ((h_g p2.toNatClampNeg h_columns.toNatClampNeg) * (h_g p1.toNatClampNeg p3.toNatClampNeg))), (4, .long ((h_g p1.toNatClampNeg h_columns.toNatClampNeg) * (h_g p2.toNatClampNeg p3.toNatClampNeg))), (0, .ref a_h), (1, .int p1), (2, .int p2), (3, .int p3)]) hx hb dX7_bindsBefore_42 hl (by decide) rfl (fun ls hl => ?_)
  refine lv_lload hx hb dX7_bindsBefore_44 (lv_at hl 1 rfl) ?_
  refine lv_lload hx hb dX7_bindsBefore_46 (lv_at hl 0 rfl) ?_
  refine W.lcmp hx hb dX7_bindsBefore_48 ?_
  have hJ75 : ∀ (t75 : Unit), pX7_bindsBefore_J75 t75 = some rv → ∀ (H : Heap) (locs : List Loc) (ls : Array Slot), va_P (dC, dI) vwCl ([(a_h, .inr (7, [.ref a_h_t, .ref a_h_rl, .ref a_h_cl, .int h_rows, .int h_columns, .long h_divisor])), (a_h_t, .inl (c_h_t, 11, .inr (.inr (.inr (.inr (fun i => if i < 11 then some (a_h_g i) else none)))))), (a_h_rl, .inl (c_h_rl, 10, .inl h_rl))] ++ gR a_h_g c_h_g h_g) H → va_D A ([(a_h, .inr (7, [.ref a_h_t, .ref a_h_rl, .ref a_h_cl, .int h_rows, .int h_columns, .long h_divisor])), (a_h_t, .inl (c_h_t, 11, .inr (.inr (.inr (.inr (fun i => if i < 11 then some (a_h_g i) else none)))))), (a_h_rl, .inl (c_h_rl, 10, .inl h_rl))] ++ gR a_h_g c_h_g h_g) → va_S A s.heap H locs → lv_has ls 8 [] → Z H locs 0 0 (F0 m 75 ls []) := by
    intro t75 hs H locs ls hP hD hS hl
    refine hZv ?_
    unfold pX7_bindsBefore_J75 at hs
    refine lv_iconst (v := 1) hx hb dX7_bindsBefore_75 (by decide) ?_
    refine lv_goto (tgt := 80) hx hb dX7_bindsBefore_76 (by decide) ?_
    replace hs := Option.some.inj hs
    subst hs
    exact W.zret (v := 1) (ty := .boolean) hx hb hr rfl (fun t ht hW => ⟨⟨1, (), rfl, rfl, by rw [ht]; exact hP, va_K.moved hW.alike hK, hD⟩, hS.F ht⟩) hS.2.2 dX7_bindsBefore_80
  refine lv_if_lt (tgt := 75) hx hb dX7_bindsBefore_49 (by decide) (fun hc => ?_) (fun hc => ?_)
  · replace hs := it_t hc hs
    exact hZw (hJ75 () hs H locs ls hP hD hS (lv_sub hl [] rfl))
  · replace hs := it_f hc hs
    refine lv_lload hx hb dX7_bindsBefore_52 (lv_at hl 1 rfl) ?_
    refine lv_lload hx hb dX7_bindsBefore_54 (lv_at hl 0 rfl) ?_
    refine W.lcmp hx hb dX7_bindsBefore_56 ?_
    refine lv_if_ne (tgt := 79) hx hb dX7_bindsBefore_57 (by decide) (fun hc => ?_) (fun hc => ?_)
    · replace hs := it_f hc hs
      refine lv_iconst (v := 0) hx hb dX7_bindsBefore_79 (by decide) ?_
      replace hs := Option.some.inj hs
      subst hs
      exact W.zret (v := 0) (ty := .boolean) hx hb hr rfl (fun t ht hW => ⟨⟨0, (), rfl, rfl, by rw [ht]; exact hP, va_K.moved hW.alike hK, hD⟩, hS.F ht⟩) hS.2.2 dX7_bindsBefore_80
    · replace hs := it_t hc hs
      refine lv_aload_n hx hb dX7_bindsBefore_60 rfl (lv_at hl 2 rfl) ?_
      refine va_get (D := (dC, dI)) (ci := 7) (v := .ref a_h_rl) (C := RX7) (T := TX7) (N := 6) hx hb hts hiX7 hown hK hP 0 rfl rfl 1 (by decide) hf16 (fun _ h9 => h9) rfl dX7_bindsBefore_61 ?_
      refine lv_iload_n hx hb dX7_bindsBefore_64 rfl (lv_at hl 3 rfl) ?_
      obtain ⟨hg9, hs⟩ := gd_s hs
      refine va_iald hx hb hK hP 2 1 rfl rfl hg9 dX7_bindsBefore_65 ?_
      refine lv_aload_n hx hb dX7_bindsBefore_66 rfl (lv_at hl 2 rfl) ?_
      refine va_get (D := (dC, dI)) (ci := 7) (v := .ref a_h_rl) (C := RX7) (T := TX7) (N := 6) hx hb hts hiX7 hown hK hP 0 rfl rfl 1 (by decide) hf16 (fun _ h9 => h9) rfl dX7_bindsBefore_67 ?_
      refine lv_iload_n hx hb dX7_bindsBefore_70 rfl (lv_at hl 4 rfl) ?_
      obtain ⟨hg10, hs⟩ := gd_s hs
      refine va_iald hx hb hK hP 2 1 rfl rfl hg10 dX7_bindsBefore_71 ?_
      refine lv_icmp_ge (tgt := 79) hx hb dX7_bindsBefore_72 (by decide) (fun hc => ?_) (fun hc => ?_)
      · replace hs := it_t hc hs
        refine lv_iconst (v := 0) hx hb dX7_bindsBefore_79 (by decide) ?_
        replace hs := Option.some.inj hs
        subst hs
        exact W.zret (v := 0) (ty := .boolean) hx hb hr rfl (fun t ht hW => ⟨⟨0, (), rfl, rfl, by rw [ht]; exact hP, va_K.moved hW.alike hK, hD⟩, hS.F ht⟩) hS.2.2 dX7_bindsBefore_80
      · replace hs := it_f hc hs
        exact hZw (hJ75 () hs H locs ls hP hD hS (lv_sub hl [] rfl))
noncomputable def pX7_leavingRow_J39_4 (s4 : Int32 × Int32) (t39 : Unit) : Option ((Int32 × Int32) ⊕ (Int32)) :=
  some (Sum.inl (s4.2, s4.2 + 1))
noncomputable def pX7_leavingRow_L4 (h_rows : Int32) (h_columns : Int32) (h_rl : Nat → Int32) (h_g : Nat → Nat → Int64) (p1 : Int32) (s4 : Int32 × Int32) : Option ((Int32 × Int32) ⊕ (Int32)) :=
  if h_rows ≤ s4.2 then (some (Sum.inr s4.1)) else (gd (vp_in s4.2 11) (gd (vp_in p1 17) (if (lg_cmp (h_g s4.2.toNatClampNeg p1.toNatClampNeg) 0) ≤ 0 then (some (Sum.inl (s4.1, s4.2 + 1))) else (if s4.1 < 0 then (pX7_leavingRow_J39_4 s4 ()) else (Option.bind (pX7_bindsBefore h_columns h_rl h_g s4.2 s4.1 p1) (fun r5 => if r5 = 0 then (some (Sum.inl (s4.1, s4.2 + 1))) else (pX7_leavingRow_J39_4 s4 ())))))))
noncomputable def pX7_leavingRow (h_rows : Int32) (h_columns : Int32) (h_rl : Nat → Int32) (h_g : Nat → Nat → Int64) (p1 : Int32) : Option (Int32) :=
  Option.bind (lp (pX7_leavingRow_L4 h_rows h_columns h_rl h_g p1) ((-1), 0)) (fun e4 => some e4)
set_option maxHeartbeats 4000000 in
set_option maxRecDepth 100000 in
theorem c_X7_leavingRow (l : Launch) (dC : Nat → ClassId) (dI : Nat → Nat → Nat) (a_h : Nat) (a_h_t : Nat) (a_h_rl : Nat) (a_h_cl : Nat) (a_h_g : Nat → Nat) (c_h_t c_h_rl c_h_g : ClassId) (sz : Nat) (h_rows : Int32) (h_columns : Int32) (h_divisor : Int64) (h_rl : Nat → Int32) (h_g : Nat → Nat → Int64) (p1 : Int32) (rv : Int32) (hs : pX7_leavingRow h_rows h_columns h_rl h_g p1 = some rv) : Met l yX7_leavingRow wsX7_leavingRow ({ frames := 1, cells := 0, slots := 0, locals := 27 }) (sPc [.ref a_h, .int p1] (dC, dI) [(c_h_t, .array .long), (c_h_rl, .int), (c_h_g, .long)] ([(a_h, .inr (7, [.ref a_h_t, .ref a_h_rl, .ref a_h_cl, .int h_rows, .int h_columns, .long h_divisor])), (a_h_t, .inl (c_h_t, 11, .inr (.inr (.inr (.inr (fun i => if i < 11 then some (a_h_g i) else none)))))), (a_h_rl, .inl (c_h_rl, 10, .inl h_rl))] ++ gR a_h_g c_h_g h_g) sz) (va_Qi (fun (r : Int32) (_ : Unit) => r = rv) (sB (dC, dI) [(c_h_t, .array .long), (c_h_rl, .int), (c_h_g, .long)] (va_A ([(a_h, .inr (7, [.ref a_h_t, .ref a_h_rl, .ref a_h_cl, .int h_rows, .int h_columns, .long h_divisor])), (a_h_t, .inl (c_h_t, 11, .inr (.inr (.inr (.inr (fun i => if i < 11 then some (a_h_g i) else none)))))), (a_h_rl, .inl (c_h_rl, 10, .inl h_rl))] ++ gR a_h_g c_h_g h_g) sz) ([(a_h, .inr (7, [.ref a_h_t, .ref a_h_rl, .ref a_h_cl, .int h_rows, .int h_columns, .long h_divisor])), (a_h_t, .inl (c_h_t, 11, .inr (.inr (.inr (.inr (fun i => if i < 11 then some (a_h_g i) else none)))))), (a_h_rl, .inl (c_h_rl, 10, .inl h_rl))] ++ gR a_h_g c_h_g h_g)) (va_A ([(a_h, .inr (7, [.ref a_h_t, .ref a_h_rl, .ref a_h_cl, .int h_rows, .int h_columns, .long h_divisor])), (a_h_t, .inl (c_h_t, 11, .inr (.inr (.inr (.inr (fun i => if i < 11 then some (a_h_g i) else none)))))), (a_h_rl, .inl (c_h_rl, 10, .inl h_rl))] ++ gR a_h_g c_h_g h_g) sz)) 0 0 (va_A ([(a_h, .inr (7, [.ref a_h_t, .ref a_h_rl, .ref a_h_cl, .int h_rows, .int h_columns, .long h_divisor])), (a_h_t, .inl (c_h_t, 11, .inr (.inr (.inr (.inr (fun i => if i < 11 then some (a_h_g i) else none)))))), (a_h_rl, .inl (c_h_rl, 10, .inl h_rl))] ++ gR a_h_g c_h_g h_g) sz) := by
  refine Met.ofW (cc := cX7_leavingRow) (maxL := 4) (ret := (some .int)) (by decide) rfl ?_
  intro p e s m args below meth c s₁ B hml hv
  obtain ⟨rfl, hsz, hP, hK, hD0, hN⟩ := hv
  have hx := B.exec
  have hb := B.bytes
  have hr := B.returns
  have hts := atoms_spec (ws := wsX7_leavingRow) B.pre
  have hown : s.vm.findClass RX7 = some m.cls := findClass_of_methodNamed B.named
  have hlocks := B.notSynchronized
  subst hsz
  have hD := hD0.self (sz := s.heap.size)
  generalize hAe : va_A ([(a_h, .inr (7, [.ref a_h_t, .ref a_h_rl, .ref a_h_cl, .int h_rows, .int h_columns, .long h_divisor])), (a_h_t, .inl (c_h_t, 11, .inr (.inr (.inr (.inr (fun i => if i < 11 then some (a_h_g i) else none)))))), (a_h_rl, .inl (c_h_rl, 10, .inl h_rl))] ++ gR a_h_g c_h_g h_g) s.heap.size = A at hD hN ⊢
  have hA : ∀ q : Nat, s.heap.size ≤ q → A q := fun q h => by rw [← hAe]; exact Or.inr h
  have hS : va_S A s.heap s.heap [] := va_S.rf
  have hP : va_P (dC, dI) vwCl ([(a_h, .inr (7, [.ref a_h_t, .ref a_h_rl, .ref a_h_cl, .int h_rows, .int h_columns, .long h_divisor])), (a_h_t, .inl (c_h_t, 11, .inr (.inr (.inr (.inr (fun i => if i < 11 then some (a_h_g i) else none)))))), (a_h_rl, .inl (c_h_rl, 10, .inl h_rl))] ++ gR a_h_g c_h_g h_g) s.heap := hP
  have hl := lv_entry ([.ref a_h, .int p1]) (n := 4) (Nat.le_of_ble_eq_true rfl)
  rw [lg_entry_eq]
  generalize (lg_sl ([.ref a_h, .int p1]) ++ List.replicate (4 - (lg_sl ([.ref a_h, .int p1])).length) Slot.unset).toArray = ls at hl ⊢
  have hl : lv_has ls 4 [(0, .ref a_h), (1, .int p1)] := hl
  have hiX7 : ∀ w ∈ wsX70, w ∈ wsX7_leavingRow := fun _ h => List.mem_cons_of_mem _ (List.mem_append_right _ h)
  have hf23 := hts (.fieldLink RX7 23 "MeetSets$Shares" "rows" "I") (t1_ (al_ h1_))
  have hf13 := hts (.fieldLink RX7 13 "MeetSets$Shares" "table" "[[J") (t1_ (al_ (t1_ h1_)))
  refine w_abs (fun Z hZv hZw => ?_)
  refine hZv ?_
  obtain ⟨H, hH⟩ : ∃ H, H = s.heap := ⟨_, rfl⟩
  obtain ⟨locs, hlo⟩ : ∃ L : List Loc, L = [] := ⟨_, rfl⟩
  rw [← hlo, ← hH]
  have hS : va_S A s.heap H locs := by rw [hlo, hH]; exact hS
  have hP : va_P (dC, dI) vwCl ([(a_h, .inr (7, [.ref a_h_t, .ref a_h_rl, .ref a_h_cl, .int h_rows, .int h_columns, .long h_divisor])), (a_h_t, .inl (c_h_t, 11, .inr (.inr (.inr (.inr (fun i => if i < 11 then some (a_h_g i) else none)))))), (a_h_rl, .inl (c_h_rl, 10, .inl h_rl))] ++ gR a_h_g c_h_g h_g) H := by rw [hH]; exact hP
  clear hH hlo
  unfold pX7_leavingRow at hs
  refine lv_iconst (v := (-1)) hx hb dX7_leavingRow_0 (by decide) ?_
  refine lv_istore_n (lv' := [(2, .int (-1)), (0, .ref a_h), (1, .int p1)]) hx hb dX7_leavingRow_1 rfl hl (by decide) rfl (fun ls hl => ?_)
  refine lv_iconst (v := 0) hx hb dX7_leavingRow_2 (by decide) ?_
  refine lv_istore_n (lv' := [(3, .int 0), (2, .int (-1)), (0, .ref a_h), (1, .int p1)]) hx hb dX7_leavingRow_3 rfl hl (by decide) rfl (fun ls hl => ?_)
  obtain ⟨e4, he4, hs⟩ := bd_s hs
  have hX4 : ∀ (H : Heap) (locs : List Loc) (ls : Array Slot), va_P (dC, dI) vwCl ([(a_h, .inr (7, [.ref a_h_t, .ref a_h_rl, .ref a_h_cl, .int h_rows, .int h_columns, .long h_divisor])), (a_h_t, .inl (c_h_t, 11, .inr (.inr (.inr (.inr (fun i => if i < 11 then some (a_h_g i) else none)))))), (a_h_rl, .inl (c_h_rl, 10, .inl h_rl))] ++ gR a_h_g c_h_g h_g) H → va_D A ([(a_h, .inr (7, [.ref a_h_t, .ref a_h_rl, .ref a_h_cl, .int h_rows, .int h_columns, .long h_divisor])), (a_h_t, .inl (c_h_t, 11, .inr (.inr (.inr (.inr (fun i => if i < 11 then some (a_h_g i) else none)))))), (a_h_rl, .inl (c_h_rl, 10, .inl h_rl))] ++ gR a_h_g c_h_g h_g) → va_S A s.heap H locs → lv_has ls 4 [(2, .int e4)] → Z H locs 0 0 (F0 m 47 ls []) := by
    intro H locs ls hP hD hS hl
    refine hZv ?_
    refine lv_iload_n hx hb dX7_leavingRow_47 rfl (lv_at hl 0 rfl) ?_
    replace hs := Option.some.inj hs
    subst hs
    exact W.iret (v := e4) hx hb hr (fun t ht hW => ⟨⟨e4, (), rfl, rfl, by rw [ht]; exact hP, va_K.moved hW.alike hK, hD⟩, hS.F ht⟩) hS.2.2 dX7_leavingRow_48
  clear hs
  have hL4 : ∀ (n : Nat) (s4 : Int32 × Int32) (H : Heap) (locs : List Loc) (ls : Array Slot), itr (pX7_leavingRow_L4 h_rows h_columns h_rl h_g p1) n s4 = some e4 → va_P (dC, dI) vwCl ([(a_h, .inr (7, [.ref a_h_t, .ref a_h_rl, .ref a_h_cl, .int h_rows, .int h_columns, .long h_divisor])), (a_h_t, .inl (c_h_t, 11, .inr (.inr (.inr (.inr (fun i => if i < 11 then some (a_h_g i) else none)))))), (a_h_rl, .inl (c_h_rl, 10, .inl h_rl))] ++ gR a_h_g c_h_g h_g) H → va_D A ([(a_h, .inr (7, [.ref a_h_t, .ref a_h_rl, .ref a_h_cl, .int h_rows, .int h_columns, .long h_divisor])), (a_h_t, .inl (c_h_t, 11, .inr (.inr (.inr (.inr (fun i => if i < 11 then some (a_h_g i) else none)))))), (a_h_rl, .inl (c_h_rl, 10, .inl h_rl))] ++ gR a_h_g c_h_g h_g) → va_S A s.heap H locs → lv_has ls 4 [(0, .ref a_h), (1, .int p1), (2, .int s4.1), (3, .int s4.2)] → Z H locs 0 0 (F0 m 4 ls []) := by
    intro n
    induction n with
    | zero =>
      intro s4 H locs ls hn
      exact (itr_0 hn).elim
    | succ n ih =>
      intro s4 H locs ls hn hP hD hS hl
      obtain ⟨y1, hs, hn⟩ := itr_s hn
      unfold pX7_leavingRow_L4 at hs
      refine hZv ?_
      refine lv_iload_n hx hb dX7_leavingRow_4 rfl (lv_at hl 3 rfl) ?_
      refine lv_aload_n hx hb dX7_leavingRow_5 rfl (lv_at hl 0 rfl) ?_
      refine va_get (D := (dC, dI)) (ci := 7) (v := .int h_rows) (C := RX7) (T := TX7) (N := 6) hx hb hts hiX7 hown hK hP 0 rfl rfl 3 (by decide) hf23 (fun _ h9 => h9) rfl dX7_leavingRow_6 ?_
      refine lv_icmp_ge (tgt := 47) hx hb dX7_leavingRow_9 (by decide) (fun hc => ?_) (fun hc => ?_)
      · replace hs := it_t hc hs
        replace hs := Option.some.inj hs
        subst hs
        obtain rfl : s4.1 = e4 := hn
        exact hZw (hX4 H locs ls hP hD hS (lv_sub hl [2] rfl))
      · replace hs := it_f hc hs
        refine lv_aload_n hx hb dX7_leavingRow_12 rfl (lv_at hl 0 rfl) ?_
        refine va_get (D := (dC, dI)) (ci := 7) (v := .ref a_h_t) (C := RX7) (T := TX7) (N := 6) hx hb hts hiX7 hown hK hP 0 rfl rfl 0 (by decide) hf13 (fun _ h9 => h9) rfl dX7_leavingRow_13 ?_
        refine lv_iload_n hx hb dX7_leavingRow_16 rfl (lv_at hl 3 rfl) ?_
        obtain ⟨hg2, hs⟩ := gd_s hs
        refine va_aldG hx hb hK hP 1 0 rfl rfl hg2 dX7_leavingRow_17 ?_
        refine lv_iload_n hx hb dX7_leavingRow_18 rfl (lv_at hl 1 rfl) ?_
        obtain ⟨hg3, hs⟩ := gd_s hs
        refine va_laldG (X := [(a_h, .inr (7, [.ref a_h_t, .ref a_h_rl, .ref a_h_cl, .int h_rows, .int h_columns, .long h_divisor])), (a_h_t, .inl (c_h_t, 11, .inr (.inr (.inr (.inr (fun i => if i < 11 then some (a_h_g i) else none)))))), (a_h_rl, .inl (c_h_rl, 10, .inl h_rl))]) hx hb hK hP 2 rfl hg2 hg3 dX7_leavingRow_19 ?_
        refine lv_lconst (v := 0) hx hb dX7_leavingRow_20 (by decide) ?_
        refine W.lcmp hx hb dX7_leavingRow_21 ?_
        refine lv_if_le (tgt := 41) hx hb dX7_leavingRow_22 (by decide) (fun hc => ?_) (fun hc => ?_)
        · replace hs := it_t hc hs
          refine lv_iinc (v := s4.2 + 1) (lv' := [(3, .int (s4.2 + 1)), (0, .ref a_h), (1, .int p1), (2, .int s4.1)]) hx hb dX7_leavingRow_41 hl (k := 3) rfl (by rfl) (by decide) rfl (fun ls hl => ?_)
          refine lv_goto (tgt := 4) hx hb dX7_leavingRow_44 (by decide) ?_
          replace hs := Option.some.inj hs
          subst hs
          exact hZw (ih (s4.1, s4.2 + 1) H locs ls hn hP hD hS (lv_sub hl [1, 2, 3, 0] rfl))
        · replace hs := it_f hc hs
          refine lv_iload_n hx hb dX7_leavingRow_25 rfl (lv_at hl 2 rfl) ?_
          have hJ39 : ∀ (t39 : Unit), pX7_leavingRow_J39_4 s4 t39 = some y1 → ∀ (H : Heap) (locs : List Loc) (ls : Array Slot), va_P (dC, dI) vwCl ([(a_h, .inr (7, [.ref a_h_t, .ref a_h_rl, .ref a_h_cl, .int h_rows, .int h_columns, .long h_divisor])), (a_h_t, .inl (c_h_t, 11, .inr (.inr (.inr (.inr (fun i => if i < 11 then some (a_h_g i) else none)))))), (a_h_rl, .inl (c_h_rl, 10, .inl h_rl))] ++ gR a_h_g c_h_g h_g) H → va_D A ([(a_h, .inr (7, [.ref a_h_t, .ref a_h_rl, .ref a_h_cl, .int h_rows, .int h_columns, .long h_divisor])), (a_h_t, .inl (c_h_t, 11, .inr (.inr (.inr (.inr (fun i => if i < 11 then some (a_h_g i) else none)))))), (a_h_rl, .inl (c_h_rl, 10, .inl h_rl))] ++ gR a_h_g c_h_g h_g) → va_S A s.heap H locs → lv_has ls 4 [(0, .ref a_h), (1, .int p1), (3, .int s4.2)] → Z H locs 0 0 (F0 m 39 ls []) := by
            intro t39 hs H locs ls hP hD hS hl
            refine hZv ?_
            unfold pX7_leavingRow_J39_4 at hs
            refine lv_iload_n hx hb dX7_leavingRow_39 rfl (lv_at hl 2 rfl) ?_
            refine lv_istore_n (lv' := [(2, .int s4.2), (0, .ref a_h), (1, .int p1), (3, .int s4.2)]) hx hb dX7_leavingRow_40 rfl hl (by decide) rfl (fun ls hl => ?_)
            refine lv_iinc (v := s4.2 + 1) (lv' := [(3, .int (s4.2 + 1)), (2, .int s4.2), (0, .ref a_h), (1, .int p1)]) hx hb dX7_leavingRow_41 hl (k := 3) rfl (by rfl) (by decide) rfl (fun ls hl => ?_)
            refine lv_goto (tgt := 4) hx hb dX7_leavingRow_44 (by decide) ?_
            replace hs := Option.some.inj hs
            subst hs
            exact hZw (ih (s4.2, s4.2 + 1) H locs ls hn hP hD hS (lv_sub hl [2, 3, 1, 0] rfl))
          refine lv_if_lt (tgt := 39) hx hb dX7_leavingRow_26 (by decide) (fun hc => ?_) (fun hc => ?_)
          · replace hs := it_t hc hs
            exact hZw (hJ39 () hs H locs ls hP hD hS (lv_sub hl [0, 1, 3] rfl))
          · replace hs := it_f hc hs
            refine lv_aload_n hx hb dX7_leavingRow_29 rfl (lv_at hl 0 rfl) ?_
            refine lv_iload_n hx hb dX7_leavingRow_30 rfl (lv_at hl 3 rfl) ?_
            refine lv_iload_n hx hb dX7_leavingRow_31 rfl (lv_at hl 2 rfl) ?_
            refine lv_iload_n hx hb dX7_leavingRow_32 rfl (lv_at hl 1 rfl) ?_
            obtain ⟨r5, hr5, hs⟩ := bd_s hs
            refine kc_i (isC := [0, 1, 2] ++ List.range' 3 11) (isR := []) (pm := [0, 1, 2] ++ List.range' 3 11) (wr := []) (w1 := ([(a_h, .inr (7, [.ref a_h_t, .ref a_h_rl, .ref a_h_cl, .int h_rows, .int h_columns, .long h_divisor])), (a_h_t, .inl (c_h_t, 11, .inr (.inr (.inr (.inr (fun i => if i < 11 then some (a_h_g i) else none)))))), (a_h_rl, .inl (c_h_rl, 10, .inl h_rl))] ++ gR a_h_g c_h_g h_g)) (w2 := ([(a_h, .inr (7, [.ref a_h_t, .ref a_h_rl, .ref a_h_cl, .int h_rows, .int h_columns, .long h_divisor])), (a_h_t, .inl (c_h_t, 11, .inr (.inr (.inr (.inr (fun i => if i < 11 then some (a_h_g i) else none)))))), (a_h_rl, .inl (c_h_rl, 10, .inl h_rl))] ++ gR a_h_g c_h_g h_g)) (va_runV (As := [.int s4.2, .int s4.1, .int p1]) (rest := []) ⟨hx, hb, hml, hown, hts⟩ (c_X7_bindsBefore l dC dI a_h a_h_t a_h_rl a_h_cl a_h_g c_h_t c_h_rl c_h_g H.size h_rows h_columns h_divisor h_rl h_g s4.2 s4.1 p1 r5 hr5) (cwV 3 hts gX7_leavingRow_X7_bindsBefore rfl rfl rfl (by decide +kernel) ⟨Nat.le_of_ble_eq_true rfl, Nat.le_of_ble_eq_true rfl⟩) (kp_V hK hP hD hS hA hN (isC := [0, 1, 2] ++ List.range' 3 11) (isT := [0, 1, 2]) (wc := ([(a_h, .inr (7, [.ref a_h_t, .ref a_h_rl, .ref a_h_cl, .int h_rows, .int h_columns, .long h_divisor])), (a_h_t, .inl (c_h_t, 11, .inr (.inr (.inr (.inr (fun i => if i < 11 then some (a_h_g i) else none)))))), (a_h_rl, .inl (c_h_rl, 10, .inl h_rl))] ++ gR a_h_g c_h_g h_g)) (gC_ rfl rfl) (by decide +kernel) rfl (ci := 7) (q0 := 0) rfl rfl) rfl rfl hl.1 rfl (lv_room (Nat.le_of_ble_eq_true rfl)) dX7_leavingRow_33 ⟨Nat.le_of_ble_eq_true rfl, Nat.le_of_ble_eq_true rfl⟩) hP hD hS hA (gC_ rfl rfl) rfl (by decide +kernel) (by decide +kernel) (gP_ rfl rfl) (by decide +kernel) (fun H locs hP hD hS => ?_)
            refine lv_if_eq (tgt := 41) hx hb dX7_leavingRow_36 (by decide) (fun hc => ?_) (fun hc => ?_)
            · replace hs := it_t hc hs
              refine lv_iinc (v := s4.2 + 1) (lv' := [(3, .int (s4.2 + 1)), (0, .ref a_h), (1, .int p1), (2, .int s4.1)]) hx hb dX7_leavingRow_41 hl (k := 3) rfl (by rfl) (by decide) rfl (fun ls hl => ?_)
              refine lv_goto (tgt := 4) hx hb dX7_leavingRow_44 (by decide) ?_
              replace hs := Option.some.inj hs
              subst hs
              exact hZw (ih (s4.1, s4.2 + 1) H locs ls hn hP hD hS (lv_sub hl [1, 2, 3, 0] rfl))
            · replace hs := it_f hc hs
              exact hZw (hJ39 () hs H locs ls hP hD hS (lv_sub hl [0, 1, 3] rfl))
  obtain ⟨n4, hn4⟩ := lp_ex he4
  exact hZw (hL4 n4 ((-1), 0) H locs ls hn4 hP hD hS (lv_sub hl [2, 3, 1, 0] rfl))
noncomputable def pX7_clearFromRow_L8 (h_columns : Int32) (h_divisor : Int64) (b_tg : Nat → Int64) (b_sr : Nat → Int64) (p3 : Int32) (p4 : Int64) (s8 : Int32 × (Nat → Int64)) : Option ((Int32 × (Nat → Int64)) ⊕ (Nat → Int64)) :=
  if h_columns < s8.1 then (some (Sum.inr s8.2)) else (if s8.1 = p3 then (some (Sum.inl (s8.1 + 1, s8.2))) else (gd (vp_in s8.1 17) (gd (vp_in s8.1 17) (gd (¬ (h_divisor : Int64) = 0) (gd (vp_in s8.1 17) (some (Sum.inl (s8.1 + 1, vp_updL s8.2 s8.1.toNatClampNeg ((((s8.2 s8.1.toNatClampNeg) * p4) - ((b_tg p3.toNatClampNeg) * (b_sr s8.1.toNatClampNeg))) / h_divisor)))))))))
noncomputable def pX7_clearFromRow (h_columns : Int32) (h_divisor : Int64) (b_tg : Nat → Int64) (b_sr : Nat → Int64) (p3 : Int32) (p4 : Int64) : Option (Nat → Int64) :=
  gd (vp_in p3 17) (Option.bind (lp (pX7_clearFromRow_L8 h_columns h_divisor b_tg b_sr p3 p4) (0, b_tg)) (fun e8 => gd (vp_in p3 17) (some (vp_updL e8 p3.toNatClampNeg (-(b_tg p3.toNatClampNeg))))))
set_option maxHeartbeats 4000000 in
set_option maxRecDepth 100000 in
theorem c_X7_clearFromRow (l : Launch) (dC : Nat → ClassId) (dI : Nat → Nat → Nat) (a_h : Nat) (a_h_t : Nat) (a_h_rl : Nat) (a_h_cl : Nat) (a_b_tg : Nat) (a_b_sr : Nat) (c_b_tg c_b_sr : ClassId) (sz : Nat) (h_rows : Int32) (h_columns : Int32) (h_divisor : Int64) (b_tg : Nat → Int64) (b_sr : Nat → Int64) (p3 : Int32) (p4 : Int64) (rv : Nat → Int64) (hs : pX7_clearFromRow h_columns h_divisor b_tg b_sr p3 p4 = some rv) : Met l yX7_clearFromRow wsX7_clearFromRow ({ frames := 0, cells := 0, slots := 0, locals := 0 }) (sPc [.ref a_h, .ref a_b_tg, .ref a_b_sr, .int p3, .long p4] (dC, dI) [(c_b_tg, .long), (c_b_sr, .long)] [(a_h, .inr (7, [.ref a_h_t, .ref a_h_rl, .ref a_h_cl, .int h_rows, .int h_columns, .long h_divisor])), (a_b_tg, .inl (c_b_tg, 17, .inr (.inl b_tg))), (a_b_sr, .inl (c_b_sr, 17, .inr (.inl b_sr)))] sz) (va_Qv (fun (_ : Unit) => True) (sB (dC, dI) [(c_b_tg, .long), (c_b_sr, .long)] (va_A [(a_h, .inr (7, [.ref a_h_t, .ref a_h_rl, .ref a_h_cl, .int h_rows, .int h_columns, .long h_divisor])), (a_b_tg, .inl (c_b_tg, 17, .inr (.inl b_tg))), (a_b_sr, .inl (c_b_sr, 17, .inr (.inl b_sr)))] sz) [(a_h, .inr (7, [.ref a_h_t, .ref a_h_rl, .ref a_h_cl, .int h_rows, .int h_columns, .long h_divisor])), (a_b_tg, .inl (c_b_tg, 17, .inr (.inl rv))), (a_b_sr, .inl (c_b_sr, 17, .inr (.inl b_sr)))]) (va_A [(a_h, .inr (7, [.ref a_h_t, .ref a_h_rl, .ref a_h_cl, .int h_rows, .int h_columns, .long h_divisor])), (a_b_tg, .inl (c_b_tg, 17, .inr (.inl b_tg))), (a_b_sr, .inl (c_b_sr, 17, .inr (.inl b_sr)))] sz)) 0 0 (va_A [(a_h, .inr (7, [.ref a_h_t, .ref a_h_rl, .ref a_h_cl, .int h_rows, .int h_columns, .long h_divisor])), (a_b_tg, .inl (c_b_tg, 17, .inr (.inl b_tg))), (a_b_sr, .inl (c_b_sr, 17, .inr (.inl b_sr)))] sz) := by
  refine Met.ofW (cc := cX7_clearFromRow) (maxL := 9) (ret := none) (by decide) rfl ?_
  intro p e s m args below meth c s₁ B hml hv
  obtain ⟨rfl, hsz, hP, hK, hD0, hN⟩ := hv
  have hx := B.exec
  have hb := B.bytes
  have hr := B.returns
  have hts := atoms_spec (ws := wsX7_clearFromRow) B.pre
  have hown : s.vm.findClass RX7 = some m.cls := findClass_of_methodNamed B.named
  have hlocks := B.notSynchronized
  subst hsz
  have hD := hD0.self (sz := s.heap.size)
  generalize hAe : va_A [(a_h, .inr (7, [.ref a_h_t, .ref a_h_rl, .ref a_h_cl, .int h_rows, .int h_columns, .long h_divisor])), (a_b_tg, .inl (c_b_tg, 17, .inr (.inl b_tg))), (a_b_sr, .inl (c_b_sr, 17, .inr (.inl b_sr)))] s.heap.size = A at hD hN ⊢
  have hA : ∀ q : Nat, s.heap.size ≤ q → A q := fun q h => by rw [← hAe]; exact Or.inr h
  have hS : va_S A s.heap s.heap [] := va_S.rf
  have hP : va_P (dC, dI) vwCl [(a_h, .inr (7, [.ref a_h_t, .ref a_h_rl, .ref a_h_cl, .int h_rows, .int h_columns, .long h_divisor])), (a_b_tg, .inl (c_b_tg, 17, .inr (.inl b_tg))), (a_b_sr, .inl (c_b_sr, 17, .inr (.inl b_sr)))] s.heap := hP
  have hl := lv_entry ([.ref a_h, .ref a_b_tg, .ref a_b_sr, .int p3, .long p4]) (n := 9) (Nat.le_of_ble_eq_true rfl)
  rw [lg_entry_eq]
  generalize (lg_sl ([.ref a_h, .ref a_b_tg, .ref a_b_sr, .int p3, .long p4]) ++ List.replicate (9 - (lg_sl ([.ref a_h, .ref a_b_tg, .ref a_b_sr, .int p3, .long p4])).length) Slot.unset).toArray = ls at hl ⊢
  have hl : lv_has ls 9 [(0, .ref a_h), (1, .ref a_b_tg), (2, .ref a_b_sr), (3, .int p3), (4, .long p4)] := hl
  have hiX7 : ∀ w ∈ wsX70, w ∈ wsX7_clearFromRow := fun _ h => List.mem_cons_of_mem _ (List.mem_append_right _ h)
  have hf27 := hts (.fieldLink RX7 27 "MeetSets$Shares" "columns" "I") (t1_ (al_ h1_))
  have hf30 := hts (.fieldLink RX7 30 "MeetSets$Shares" "divisor" "J") (t1_ (al_ (t1_ h1_)))
  refine w_abs (fun Z hZv hZw => ?_)
  refine hZv ?_
  obtain ⟨H, hH⟩ : ∃ H, H = s.heap := ⟨_, rfl⟩
  obtain ⟨locs, hlo⟩ : ∃ L : List Loc, L = [] := ⟨_, rfl⟩
  rw [← hlo, ← hH]
  have hS : va_S A s.heap H locs := by rw [hlo, hH]; exact hS
  have hP : va_P (dC, dI) vwCl [(a_h, .inr (7, [.ref a_h_t, .ref a_h_rl, .ref a_h_cl, .int h_rows, .int h_columns, .long h_divisor])), (a_b_tg, .inl (c_b_tg, 17, .inr (.inl b_tg))), (a_b_sr, .inl (c_b_sr, 17, .inr (.inl b_sr)))] H := by rw [hH]; exact hP
  clear hH hlo
  unfold pX7_clearFromRow at hs
  refine lv_aload_n hx hb dX7_clearFromRow_0 rfl (lv_at hl 1 rfl) ?_
  refine lv_iload_n hx hb dX7_clearFromRow_1 rfl (lv_at hl 3 rfl) ?_
  obtain ⟨hg1, hs⟩ := gd_s hs
  refine va_lald hx hb hK hP 1 0 rfl rfl hg1 dX7_clearFromRow_2 ?_
  refine lv_lstore (lv' := [(6, .long (b_tg p3.toNatClampNeg)), (0, .ref a_h), (1, .ref a_b_tg), (2, .ref a_b_sr), (3, .int p3), (4, .long p4)]) hx hb dX7_clearFromRow_3 hl (by decide) rfl (fun ls hl => ?_)
  refine lv_iconst (v := 0) hx hb dX7_clearFromRow_5 (by decide) ?_
  refine lv_istore (lv' := [(8, .int 0), (6, .long (b_tg p3.toNatClampNeg)), (0, .ref a_h), (1, .ref a_b_tg), (2, .ref a_b_sr), (3, .int p3), (4, .long p4)]) hx hb dX7_clearFromRow_6 hl (by decide) rfl (fun ls hl => ?_)
  obtain ⟨e8, he8, hs⟩ := bd_s hs
  have hX8 : ∀ (H : Heap) (locs : List Loc) (ls : Array Slot), va_P (dC, dI) vwCl [(a_h, .inr (7, [.ref a_h_t, .ref a_h_rl, .ref a_h_cl, .int h_rows, .int h_columns, .long h_divisor])), (a_b_tg, .inl (c_b_tg, 17, .inr (.inl e8))), (a_b_sr, .inl (c_b_sr, 17, .inr (.inl b_sr)))] H → va_D A [(a_h, .inr (7, [.ref a_h_t, .ref a_h_rl, .ref a_h_cl, .int h_rows, .int h_columns, .long h_divisor])), (a_b_tg, .inl (c_b_tg, 17, .inr (.inl e8))), (a_b_sr, .inl (c_b_sr, 17, .inr (.inl b_sr)))] → va_S A s.heap H locs → lv_has ls 9 [(1, .ref a_b_tg), (3, .int p3), (6, .long (b_tg p3.toNatClampNeg))] → Z H locs 0 0 (F0 m 53 ls []) := by
    intro H locs ls hP hD hS hl
    refine hZv ?_
    refine lv_aload_n hx hb dX7_clearFromRow_53 rfl (lv_at hl 0 rfl) ?_
    refine lv_iload_n hx hb dX7_clearFromRow_54 rfl (lv_at hl 1 rfl) ?_
    refine lv_lload hx hb dX7_clearFromRow_55 (lv_at hl 2 rfl) ?_
    refine lv_lneg hx hb dX7_clearFromRow_57 ?_
    obtain ⟨hg7, hs⟩ := gd_s hs
    refine va_last hx hb hK hP hD hS 1 0 rfl rfl hg7 dX7_clearFromRow_58 (fun H locs hP hD hS => ?_)
    have hP : va_P (dC, dI) vwCl [(a_h, .inr (7, [.ref a_h_t, .ref a_h_rl, .ref a_h_cl, .int h_rows, .int h_columns, .long h_divisor])), (a_b_tg, .inl (c_b_tg, 17, .inr (.inl (vp_updL e8 p3.toNatClampNeg (-(b_tg p3.toNatClampNeg)))))), (a_b_sr, .inl (c_b_sr, 17, .inr (.inl b_sr)))] H := hP
    have hD : va_D A [(a_h, .inr (7, [.ref a_h_t, .ref a_h_rl, .ref a_h_cl, .int h_rows, .int h_columns, .long h_divisor])), (a_b_tg, .inl (c_b_tg, 17, .inr (.inl (vp_updL e8 p3.toNatClampNeg (-(b_tg p3.toNatClampNeg)))))), (a_b_sr, .inl (c_b_sr, 17, .inr (.inl b_sr)))] := hD
    replace hs := Option.some.inj hs
    subst hs
    exact W.vret hx hb hr (fun t ht hW => ⟨⟨(), rfl, trivial, by rw [ht]; exact hP, va_K.moved hW.alike hK, hD⟩, hS.F ht⟩) hS.2.2 dX7_clearFromRow_59
  clear hs
  have hL8 : ∀ (n : Nat) (s8 : Int32 × (Nat → Int64)) (H : Heap) (locs : List Loc) (ls : Array Slot), itr (pX7_clearFromRow_L8 h_columns h_divisor b_tg b_sr p3 p4) n s8 = some e8 → va_P (dC, dI) vwCl [(a_h, .inr (7, [.ref a_h_t, .ref a_h_rl, .ref a_h_cl, .int h_rows, .int h_columns, .long h_divisor])), (a_b_tg, .inl (c_b_tg, 17, .inr (.inl s8.2))), (a_b_sr, .inl (c_b_sr, 17, .inr (.inl b_sr)))] H → va_D A [(a_h, .inr (7, [.ref a_h_t, .ref a_h_rl, .ref a_h_cl, .int h_rows, .int h_columns, .long h_divisor])), (a_b_tg, .inl (c_b_tg, 17, .inr (.inl s8.2))), (a_b_sr, .inl (c_b_sr, 17, .inr (.inl b_sr)))] → va_S A s.heap H locs → lv_has ls 9 [(0, .ref a_h), (1, .ref a_b_tg), (2, .ref a_b_sr), (3, .int p3), (4, .long p4), (6, .long (b_tg p3.toNatClampNeg)), (8, .int s8.1)] → Z H locs 0 0 (F0 m 8 ls []) := by
    intro n
    induction n with
    | zero =>
      intro s8 H locs ls hn
      exact (itr_0 hn).elim
    | succ n ih =>
      intro s8 H locs ls hn hP hD hS hl
      obtain ⟨y2, hs, hn⟩ := itr_s hn
      unfold pX7_clearFromRow_L8 at hs
      refine hZv ?_
      refine lv_iload hx hb dX7_clearFromRow_8 (lv_at hl 6 rfl) ?_
      refine lv_aload_n hx hb dX7_clearFromRow_10 rfl (lv_at hl 0 rfl) ?_
      refine va_get (D := (dC, dI)) (ci := 7) (v := .int h_columns) (C := RX7) (T := TX7) (N := 6) hx hb hts hiX7 hown hK hP 0 rfl rfl 4 (by decide) hf27 (fun _ h9 => h9) rfl dX7_clearFromRow_11 ?_
      refine lv_icmp_gt (tgt := 53) hx hb dX7_clearFromRow_14 (by decide) (fun hc => ?_) (fun hc => ?_)
      · replace hs := it_t hc hs
        replace hs := Option.some.inj hs
        subst hs
        obtain rfl : s8.2 = e8 := hn
        exact hZw (hX8 H locs ls hP hD hS (lv_sub hl [1, 3, 5] rfl))
      · replace hs := it_f hc hs
        refine lv_iload hx hb dX7_clearFromRow_17 (lv_at hl 6 rfl) ?_
        refine lv_iload_n hx hb dX7_clearFromRow_19 rfl (lv_at hl 3 rfl) ?_
        refine lv_icmp_eq (tgt := 47) hx hb dX7_clearFromRow_20 (by decide) (fun hc => ?_) (fun hc => ?_)
        · replace hs := it_t hc hs
          refine lv_iinc (v := s8.1 + 1) (lv' := [(8, .int (s8.1 + 1)), (0, .ref a_h), (1, .ref a_b_tg), (2, .ref a_b_sr), (3, .int p3), (4, .long p4), (6, .long (b_tg p3.toNatClampNeg))]) hx hb dX7_clearFromRow_47 hl (k := 6) rfl (by rfl) (by decide) rfl (fun ls hl => ?_)
          refine lv_goto (tgt := 8) hx hb dX7_clearFromRow_50 (by decide) ?_
          replace hs := Option.some.inj hs
          subst hs
          exact hZw (ih (s8.1 + 1, s8.2) H locs ls hn hP hD hS (lv_sub hl [1, 2, 3, 4, 5, 6, 0] rfl))
        · replace hs := it_f hc hs
          refine lv_aload_n hx hb dX7_clearFromRow_23 rfl (lv_at hl 1 rfl) ?_
          refine lv_iload hx hb dX7_clearFromRow_24 (lv_at hl 6 rfl) ?_
          refine lv_aload_n hx hb dX7_clearFromRow_26 rfl (lv_at hl 1 rfl) ?_
          refine lv_iload hx hb dX7_clearFromRow_27 (lv_at hl 6 rfl) ?_
          obtain ⟨hg3, hs⟩ := gd_s hs
          refine va_lald hx hb hK hP 1 0 rfl rfl hg3 dX7_clearFromRow_29 ?_
          refine lv_lload hx hb dX7_clearFromRow_30 (lv_at hl 4 rfl) ?_
          refine lv_lmul hx hb dX7_clearFromRow_32 ?_
          refine lv_lload hx hb dX7_clearFromRow_33 (lv_at hl 5 rfl) ?_
          refine lv_aload_n hx hb dX7_clearFromRow_35 rfl (lv_at hl 2 rfl) ?_
          refine lv_iload hx hb dX7_clearFromRow_36 (lv_at hl 6 rfl) ?_
          obtain ⟨hg4, hs⟩ := gd_s hs
          refine va_lald hx hb hK hP 2 1 rfl rfl hg4 dX7_clearFromRow_38 ?_
          refine lv_lmul hx hb dX7_clearFromRow_39 ?_
          refine lv_lsub hx hb dX7_clearFromRow_40 ?_
          refine lv_aload_n hx hb dX7_clearFromRow_41 rfl (lv_at hl 0 rfl) ?_
          refine va_get (D := (dC, dI)) (ci := 7) (v := .long h_divisor) (C := RX7) (T := TX7) (N := 6) hx hb hts hiX7 hown hK hP 0 rfl rfl 5 (by decide) hf30 (fun _ h9 => h9) rfl dX7_clearFromRow_42 ?_
          obtain ⟨hz5, hs⟩ := gd_s hs
          refine lv_ldiv hx hb dX7_clearFromRow_45 hz5 ?_
          obtain ⟨hg6, hs⟩ := gd_s hs
          refine va_last hx hb hK hP hD hS 1 0 rfl rfl hg6 dX7_clearFromRow_46 (fun H locs hP hD hS => ?_)
          have hP : va_P (dC, dI) vwCl [(a_h, .inr (7, [.ref a_h_t, .ref a_h_rl, .ref a_h_cl, .int h_rows, .int h_columns, .long h_divisor])), (a_b_tg, .inl (c_b_tg, 17, .inr (.inl (vp_updL s8.2 s8.1.toNatClampNeg ((((s8.2 s8.1.toNatClampNeg) * p4) - ((b_tg p3.toNatClampNeg) * (b_sr s8.1.toNatClampNeg))) / h_divisor))))), (a_b_sr, .inl (c_b_sr, 17, .inr (.inl b_sr)))] H := hP
          have hD : va_D A [(a_h, .inr (7, [.ref a_h_t, .ref a_h_rl, .ref a_h_cl, .int h_rows, .int h_columns, .long h_divisor])), (a_b_tg, .inl (c_b_tg, 17, .inr (.inl (vp_updL s8.2 s8.1.toNatClampNeg ((((s8.2 s8.1.toNatClampNeg) * p4) - ((b_tg p3.toNatClampNeg) * (b_sr s8.1.toNatClampNeg))) / h_divisor))))), (a_b_sr, .inl (c_b_sr, 17, .inr (.inl b_sr)))] := hD
          refine lv_iinc (v := s8.1 + 1) (lv' := [(8, .int (s8.1 + 1)), (0, .ref a_h), (1, .ref a_b_tg), (2, .ref a_b_sr), (3, .int p3), (4, .long p4), (6, .long (b_tg p3.toNatClampNeg))]) hx hb dX7_clearFromRow_47 hl (k := 6) rfl (by rfl) (by decide) rfl (fun ls hl => ?_)
          refine lv_goto (tgt := 8) hx hb dX7_clearFromRow_50 (by decide) ?_
          replace hs := Option.some.inj hs
          subst hs
          exact hZw (ih (s8.1 + 1, vp_updL s8.2 s8.1.toNatClampNeg ((((s8.2 s8.1.toNatClampNeg) * p4) - ((b_tg p3.toNatClampNeg) * (b_sr s8.1.toNatClampNeg))) / h_divisor)) H locs ls hn hP hD hS (lv_sub hl [1, 2, 3, 4, 5, 6, 0] rfl))
  obtain ⟨n8, hn8⟩ := lp_ex he8
  exact hZw (hL8 n8 (0, b_tg) H locs ls hn8 hP hD hS (lv_sub hl [2, 3, 4, 5, 6, 1, 0] rfl))
noncomputable def pX7_pivot_L28 (h_rows : Int32) (h_columns : Int32) (h_divisor : Int64) (h_g : Nat → Nat → Int64) (p1 : Int32) (p2 : Int32) (s28 : Int32 × (Nat → Nat → Int64)) : Option ((Int32 × (Nat → Nat → Int64)) ⊕ (Nat → Nat → Int64)) :=
  if h_rows < s28.1 then (some (Sum.inr s28.2)) else (if s28.1 = p1 then (some (Sum.inl (s28.1 + 1, s28.2))) else (gd (vp_in s28.1 11) (gd (vp_in p1 11) (gd (¬ s28.1.toNatClampNeg = p1.toNatClampNeg) (Option.bind (pX7_clearFromRow h_columns h_divisor (s28.2 s28.1.toNatClampNeg) (s28.2 p1.toNatClampNeg) p2 (h_g p1.toNatClampNeg p2.toNatClampNeg)) (fun r6 => some (Sum.inl (s28.1 + 1, gU s28.2 s28.1.toNatClampNeg r6))))))))
noncomputable def pX7_pivot (h_rows : Int32) (h_columns : Int32) (h_divisor : Int64) (h_rl : Nat → Int32) (h_cl : Nat → Int32) (h_g : Nat → Nat → Int64) (p1 : Int32) (p2 : Int32) : Option (Int64 × (Nat → Int32) × (Nat → Int32) × (Nat → Nat → Int64)) :=
  gd (vp_in p1 11) (gd (vp_in p2 17) (if (lg_cmp (h_g p1.toNatClampNeg p2.toNatClampNeg) 0) ≤ 0 then (some (h_divisor, h_rl, h_cl, h_g)) else (if 0 < (lg_cmp h_divisor 0) then (Option.bind (lp (pX7_pivot_L28 h_rows h_columns h_divisor h_g p1 p2) (0, h_g)) (fun e28 => gd (vp_in p1 11) (gd (vp_in p2 17) (gd (vp_in p1 10) (gd (vp_in p2 16) (gd (vp_in p1 10) (gd (vp_in p2 16) (some (h_g p1.toNatClampNeg p2.toNatClampNeg, upd h_rl p1.toNatClampNeg (h_cl p2.toNatClampNeg), upd h_cl p2.toNatClampNeg (h_rl p1.toNatClampNeg), gU e28 p1.toNatClampNeg (vp_updL (e28 p1.toNatClampNeg) p2.toNatClampNeg h_divisor)))))))))) else (some (h_divisor, h_rl, h_cl, h_g)))))
set_option maxHeartbeats 4000000 in
set_option maxRecDepth 100000 in
theorem c_X7_pivot (l : Launch) (dC : Nat → ClassId) (dI : Nat → Nat → Nat) (a_h : Nat) (a_h_t : Nat) (a_h_rl : Nat) (a_h_cl : Nat) (a_h_g : Nat → Nat) (c_h_t c_h_rl c_h_cl c_h_g : ClassId) (sz : Nat) (h_rows : Int32) (h_columns : Int32) (h_divisor : Int64) (h_rl : Nat → Int32) (h_cl : Nat → Int32) (h_g : Nat → Nat → Int64) (p1 : Int32) (p2 : Int32) (rv : Int64 × (Nat → Int32) × (Nat → Int32) × (Nat → Nat → Int64)) (hs : pX7_pivot h_rows h_columns h_divisor h_rl h_cl h_g p1 p2 = some rv) : Met l yX7_pivot wsX7_pivot ({ frames := 1, cells := 0, slots := 0, locals := 28 }) (sPc [.ref a_h, .int p1, .int p2] (dC, dI) [(c_h_t, .array .long), (c_h_rl, .int), (c_h_cl, .int), (c_h_g, .long)] ([(a_h, .inr (7, [.ref a_h_t, .ref a_h_rl, .ref a_h_cl, .int h_rows, .int h_columns, .long h_divisor])), (a_h_t, .inl (c_h_t, 11, .inr (.inr (.inr (.inr (fun i => if i < 11 then some (a_h_g i) else none)))))), (a_h_rl, .inl (c_h_rl, 10, .inl h_rl)), (a_h_cl, .inl (c_h_cl, 16, .inl h_cl))] ++ gR a_h_g c_h_g h_g) sz) (va_Qv (fun (_ : Unit) => True) (sB (dC, dI) [(c_h_t, .array .long), (c_h_rl, .int), (c_h_cl, .int), (c_h_g, .long)] (va_A ([(a_h, .inr (7, [.ref a_h_t, .ref a_h_rl, .ref a_h_cl, .int h_rows, .int h_columns, .long h_divisor])), (a_h_t, .inl (c_h_t, 11, .inr (.inr (.inr (.inr (fun i => if i < 11 then some (a_h_g i) else none)))))), (a_h_rl, .inl (c_h_rl, 10, .inl h_rl)), (a_h_cl, .inl (c_h_cl, 16, .inl h_cl))] ++ gR a_h_g c_h_g h_g) sz) ([(a_h, .inr (7, [.ref a_h_t, .ref a_h_rl, .ref a_h_cl, .int h_rows, .int h_columns, .long rv.1])), (a_h_t, .inl (c_h_t, 11, .inr (.inr (.inr (.inr (fun i => if i < 11 then some (a_h_g i) else none)))))), (a_h_rl, .inl (c_h_rl, 10, .inl rv.2.1)), (a_h_cl, .inl (c_h_cl, 16, .inl rv.2.2.1))] ++ gR a_h_g c_h_g rv.2.2.2)) (va_A ([(a_h, .inr (7, [.ref a_h_t, .ref a_h_rl, .ref a_h_cl, .int h_rows, .int h_columns, .long h_divisor])), (a_h_t, .inl (c_h_t, 11, .inr (.inr (.inr (.inr (fun i => if i < 11 then some (a_h_g i) else none)))))), (a_h_rl, .inl (c_h_rl, 10, .inl h_rl)), (a_h_cl, .inl (c_h_cl, 16, .inl h_cl))] ++ gR a_h_g c_h_g h_g) sz)) 0 0 (va_A ([(a_h, .inr (7, [.ref a_h_t, .ref a_h_rl, .ref a_h_cl, .int h_rows, .int h_columns, .long h_divisor])), (a_h_t, .inl (c_h_t, 11, .inr (.inr (.inr (.inr (fun i => if i < 11 then some (a_h_g i) else none)))))), (a_h_rl, .inl (c_h_rl, 10, .inl h_rl)), (a_h_cl, .inl (c_h_cl, 16, .inl h_cl))] ++ gR a_h_g c_h_g h_g) sz) := by
  refine Met.ofW (cc := cX7_pivot) (maxL := 6) (ret := none) (by decide) rfl ?_
  intro p e s m args below meth c s₁ B hml hv
  obtain ⟨rfl, hsz, hP, hK, hD0, hN⟩ := hv
  have hx := B.exec
  have hb := B.bytes
  have hr := B.returns
  have hts := atoms_spec (ws := wsX7_pivot) B.pre
  have hown : s.vm.findClass RX7 = some m.cls := findClass_of_methodNamed B.named
  have hlocks := B.notSynchronized
  subst hsz
  have hD := hD0.self (sz := s.heap.size)
  generalize hAe : va_A ([(a_h, .inr (7, [.ref a_h_t, .ref a_h_rl, .ref a_h_cl, .int h_rows, .int h_columns, .long h_divisor])), (a_h_t, .inl (c_h_t, 11, .inr (.inr (.inr (.inr (fun i => if i < 11 then some (a_h_g i) else none)))))), (a_h_rl, .inl (c_h_rl, 10, .inl h_rl)), (a_h_cl, .inl (c_h_cl, 16, .inl h_cl))] ++ gR a_h_g c_h_g h_g) s.heap.size = A at hD hN ⊢
  have hA : ∀ q : Nat, s.heap.size ≤ q → A q := fun q h => by rw [← hAe]; exact Or.inr h
  have hS : va_S A s.heap s.heap [] := va_S.rf
  have hP : va_P (dC, dI) vwCl ([(a_h, .inr (7, [.ref a_h_t, .ref a_h_rl, .ref a_h_cl, .int h_rows, .int h_columns, .long h_divisor])), (a_h_t, .inl (c_h_t, 11, .inr (.inr (.inr (.inr (fun i => if i < 11 then some (a_h_g i) else none)))))), (a_h_rl, .inl (c_h_rl, 10, .inl h_rl)), (a_h_cl, .inl (c_h_cl, 16, .inl h_cl))] ++ gR a_h_g c_h_g h_g) s.heap := hP
  have hl := lv_entry ([.ref a_h, .int p1, .int p2]) (n := 6) (Nat.le_of_ble_eq_true rfl)
  rw [lg_entry_eq]
  generalize (lg_sl ([.ref a_h, .int p1, .int p2]) ++ List.replicate (6 - (lg_sl ([.ref a_h, .int p1, .int p2])).length) Slot.unset).toArray = ls at hl ⊢
  have hl : lv_has ls 6 [(0, .ref a_h), (1, .int p1), (2, .int p2)] := hl
  have hiX7 : ∀ w ∈ wsX70, w ∈ wsX7_pivot := fun _ h => List.mem_cons_of_mem _ (List.mem_append_right _ h)
  have hf13 := hts (.fieldLink RX7 13 "MeetSets$Shares" "table" "[[J") (t1_ (al_ h1_))
  have hf30 := hts (.fieldLink RX7 30 "MeetSets$Shares" "divisor" "J") (t1_ (al_ (t1_ h1_)))
  have hf23 := hts (.fieldLink RX7 23 "MeetSets$Shares" "rows" "I") (t1_ (al_ (t1_ (t1_ h1_))))
  have hf16 := hts (.fieldLink RX7 16 "MeetSets$Shares" "rowLabels" "[I") (t1_ (al_ (t1_ (t1_ (t1_ h1_)))))
  have hf20 := hts (.fieldLink RX7 20 "MeetSets$Shares" "columnLabels" "[I") (t1_ (al_ (t4_ h1_)))
  refine w_abs (fun Z hZv hZw => ?_)
  refine hZv ?_
  obtain ⟨H, hH⟩ : ∃ H, H = s.heap := ⟨_, rfl⟩
  obtain ⟨locs, hlo⟩ : ∃ L : List Loc, L = [] := ⟨_, rfl⟩
  rw [← hlo, ← hH]
  have hS : va_S A s.heap H locs := by rw [hlo, hH]; exact hS
  have hP : va_P (dC, dI) vwCl ([(a_h, .inr (7, [.ref a_h_t, .ref a_h_rl, .ref a_h_cl, .int h_rows, .int h_columns, .long h_divisor])), (a_h_t, .inl (c_h_t, 11, .inr (.inr (.inr (.inr (fun i => if i < 11 then some (a_h_g i) else none)))))), (a_h_rl, .inl (c_h_rl, 10, .inl h_rl)), (a_h_cl, .inl (c_h_cl, 16, .inl h_cl))] ++ gR a_h_g c_h_g h_g) H := by rw [hH]; exact hP
  clear hH hlo
  unfold pX7_pivot at hs
  refine lv_aload_n hx hb dX7_pivot_0 rfl (lv_at hl 0 rfl) ?_
  refine va_get (D := (dC, dI)) (ci := 7) (v := .ref a_h_t) (C := RX7) (T := TX7) (N := 6) hx hb hts hiX7 hown hK hP 0 rfl rfl 0 (by decide) hf13 (fun _ h9 => h9) rfl dX7_pivot_1 ?_
  refine lv_iload_n hx hb dX7_pivot_4 rfl (lv_at hl 1 rfl) ?_
  obtain ⟨hg1, hs⟩ := gd_s hs
  refine va_aldG hx hb hK hP 1 0 rfl rfl hg1 dX7_pivot_5 ?_
  refine lv_iload_n hx hb dX7_pivot_6 rfl (lv_at hl 2 rfl) ?_
  obtain ⟨hg2, hs⟩ := gd_s hs
  refine va_laldG (X := [(a_h, .inr (7, [.ref a_h_t, .ref a_h_rl, .ref a_h_cl, .int h_rows, .int h_columns, .long h_divisor])), (a_h_t, .inl (c_h_t, 11, .inr (.inr (.inr (.inr (fun i => if i < 11 then some (a_h_g i) else none)))))), (a_h_rl, .inl (c_h_rl, 10, .inl h_rl)), (a_h_cl, .inl (c_h_cl, 16, .inl h_cl))]) hx hb hK hP 3 rfl hg1 hg2 dX7_pivot_7 ?_
  refine lv_lstore_n (lv' := [(3, .long (h_g p1.toNatClampNeg p2.toNatClampNeg)), (0, .ref a_h), (1, .int p1), (2, .int p2)]) hx hb dX7_pivot_8 rfl hl (by decide) rfl (fun ls hl => ?_)
  refine lv_lload_n hx hb dX7_pivot_9 rfl (lv_at hl 0 rfl) ?_
  refine lv_lconst (v := 0) hx hb dX7_pivot_10 (by decide) ?_
  refine W.lcmp hx hb dX7_pivot_11 ?_
  refine lv_if_le (tgt := 24) hx hb dX7_pivot_12 (by decide) (fun hc => ?_) (fun hc => ?_)
  · replace hs := it_t hc hs
    replace hs := Option.some.inj hs
    subst hs
    exact W.vret hx hb hr (fun t ht hW => ⟨⟨(), rfl, trivial, by rw [ht]; exact hP, va_K.moved hW.alike hK, hD⟩, hS.F ht⟩) hS.2.2 dX7_pivot_24
  · replace hs := it_f hc hs
    refine lv_aload_n hx hb dX7_pivot_15 rfl (lv_at hl 1 rfl) ?_
    refine va_get (D := (dC, dI)) (ci := 7) (v := .long h_divisor) (C := RX7) (T := TX7) (N := 6) hx hb hts hiX7 hown hK hP 0 rfl rfl 5 (by decide) hf30 (fun _ h9 => h9) rfl dX7_pivot_16 ?_
    refine lv_lconst (v := 0) hx hb dX7_pivot_19 (by decide) ?_
    refine W.lcmp hx hb dX7_pivot_20 ?_
    refine lv_if_gt (tgt := 25) hx hb dX7_pivot_21 (by decide) (fun hc => ?_) (fun hc => ?_)
    · replace hs := it_t hc hs
      refine lv_iconst (v := 0) hx hb dX7_pivot_25 (by decide) ?_
      refine lv_istore (lv' := [(5, .int 0), (3, .long (h_g p1.toNatClampNeg p2.toNatClampNeg)), (0, .ref a_h), (1, .int p1), (2, .int p2)]) hx hb dX7_pivot_26 hl (by decide) rfl (fun ls hl => ?_)
      obtain ⟨e28, he28, hs⟩ := bd_s hs
      have hX28 : ∀ (H : Heap) (locs : List Loc) (ls : Array Slot), va_P (dC, dI) vwCl ([(a_h, .inr (7, [.ref a_h_t, .ref a_h_rl, .ref a_h_cl, .int h_rows, .int h_columns, .long h_divisor])), (a_h_t, .inl (c_h_t, 11, .inr (.inr (.inr (.inr (fun i => if i < 11 then some (a_h_g i) else none)))))), (a_h_rl, .inl (c_h_rl, 10, .inl h_rl)), (a_h_cl, .inl (c_h_cl, 16, .inl h_cl))] ++ gR a_h_g c_h_g e28) H → va_D A ([(a_h, .inr (7, [.ref a_h_t, .ref a_h_rl, .ref a_h_cl, .int h_rows, .int h_columns, .long h_divisor])), (a_h_t, .inl (c_h_t, 11, .inr (.inr (.inr (.inr (fun i => if i < 11 then some (a_h_g i) else none)))))), (a_h_rl, .inl (c_h_rl, 10, .inl h_rl)), (a_h_cl, .inl (c_h_cl, 16, .inl h_cl))] ++ gR a_h_g c_h_g e28) → va_S A s.heap H locs → lv_has ls 6 [(0, .ref a_h), (1, .int p1), (2, .int p2), (3, .long (h_g p1.toNatClampNeg p2.toNatClampNeg))] → Z H locs 0 0 (F0 m 68 ls []) := by
        intro H locs ls hP hD hS hl
        refine hZv ?_
        refine lv_aload_n hx hb dX7_pivot_68 rfl (lv_at hl 0 rfl) ?_
        refine va_get (D := (dC, dI)) (ci := 7) (v := .ref a_h_t) (C := RX7) (T := TX7) (N := 6) hx hb hts hiX7 hown hK hP 0 rfl rfl 0 (by decide) hf13 (fun _ h9 => h9) rfl dX7_pivot_69 ?_
        refine lv_iload_n hx hb dX7_pivot_72 rfl (lv_at hl 1 rfl) ?_
        obtain ⟨hg8, hs⟩ := gd_s hs
        refine va_aldG hx hb hK hP 1 0 rfl rfl hg8 dX7_pivot_73 ?_
        refine lv_iload_n hx hb dX7_pivot_74 rfl (lv_at hl 2 rfl) ?_
        refine lv_aload_n hx hb dX7_pivot_75 rfl (lv_at hl 0 rfl) ?_
        refine va_get (D := (dC, dI)) (ci := 7) (v := .long h_divisor) (C := RX7) (T := TX7) (N := 6) hx hb hts hiX7 hown hK hP 0 rfl rfl 5 (by decide) hf30 (fun _ h9 => h9) rfl dX7_pivot_76 ?_
        obtain ⟨hg9, hs⟩ := gd_s hs
        refine va_lastG (X := [(a_h, .inr (7, [.ref a_h_t, .ref a_h_rl, .ref a_h_cl, .int h_rows, .int h_columns, .long h_divisor])), (a_h_t, .inl (c_h_t, 11, .inr (.inr (.inr (.inr (fun i => if i < 11 then some (a_h_g i) else none)))))), (a_h_rl, .inl (c_h_rl, 10, .inl h_rl)), (a_h_cl, .inl (c_h_cl, 16, .inl h_cl))]) hx hb hK hP hD hS 3 rfl hg8 hg9 dX7_pivot_79 (fun H locs hP hD hS => ?_)
        have hP : va_P (dC, dI) vwCl ([(a_h, .inr (7, [.ref a_h_t, .ref a_h_rl, .ref a_h_cl, .int h_rows, .int h_columns, .long h_divisor])), (a_h_t, .inl (c_h_t, 11, .inr (.inr (.inr (.inr (fun i => if i < 11 then some (a_h_g i) else none)))))), (a_h_rl, .inl (c_h_rl, 10, .inl h_rl)), (a_h_cl, .inl (c_h_cl, 16, .inl h_cl))] ++ gR a_h_g c_h_g (gU e28 p1.toNatClampNeg (vp_updL (e28 p1.toNatClampNeg) p2.toNatClampNeg h_divisor))) H := hP
        have hD : va_D A ([(a_h, .inr (7, [.ref a_h_t, .ref a_h_rl, .ref a_h_cl, .int h_rows, .int h_columns, .long h_divisor])), (a_h_t, .inl (c_h_t, 11, .inr (.inr (.inr (.inr (fun i => if i < 11 then some (a_h_g i) else none)))))), (a_h_rl, .inl (c_h_rl, 10, .inl h_rl)), (a_h_cl, .inl (c_h_cl, 16, .inl h_cl))] ++ gR a_h_g c_h_g (gU e28 p1.toNatClampNeg (vp_updL (e28 p1.toNatClampNeg) p2.toNatClampNeg h_divisor))) := hD
        refine lv_aload_n hx hb dX7_pivot_80 rfl (lv_at hl 0 rfl) ?_
        refine lv_lload_n hx hb dX7_pivot_81 rfl (lv_at hl 3 rfl) ?_
        refine va_put (D := (dC, dI)) (ci := 7) (v := .long (h_g p1.toNatClampNeg p2.toNatClampNeg)) (ty := .long) (C := RX7) (T := TX7) (N := 6) hx hb hts hiX7 tyX7 tyX7_ok nmX7 hown hK hP hD hS 0 rfl rfl 5 (by decide) hf30 (fun _ h9 => h9) rfl (by decide +kernel) rfl rfl (Nat.le_of_ble_eq_true rfl) dX7_pivot_82 (fun H locs hP hD hS => ?_)
        have hP : va_P (dC, dI) vwCl ([(a_h, .inr (7, [.ref a_h_t, .ref a_h_rl, .ref a_h_cl, .int h_rows, .int h_columns, .long (h_g p1.toNatClampNeg p2.toNatClampNeg)])), (a_h_t, .inl (c_h_t, 11, .inr (.inr (.inr (.inr (fun i => if i < 11 then some (a_h_g i) else none)))))), (a_h_rl, .inl (c_h_rl, 10, .inl h_rl)), (a_h_cl, .inl (c_h_cl, 16, .inl h_cl))] ++ gR a_h_g c_h_g (gU e28 p1.toNatClampNeg (vp_updL (e28 p1.toNatClampNeg) p2.toNatClampNeg h_divisor))) H := hP
        have hD : va_D A ([(a_h, .inr (7, [.ref a_h_t, .ref a_h_rl, .ref a_h_cl, .int h_rows, .int h_columns, .long (h_g p1.toNatClampNeg p2.toNatClampNeg)])), (a_h_t, .inl (c_h_t, 11, .inr (.inr (.inr (.inr (fun i => if i < 11 then some (a_h_g i) else none)))))), (a_h_rl, .inl (c_h_rl, 10, .inl h_rl)), (a_h_cl, .inl (c_h_cl, 16, .inl h_cl))] ++ gR a_h_g c_h_g (gU e28 p1.toNatClampNeg (vp_updL (e28 p1.toNatClampNeg) p2.toNatClampNeg h_divisor))) := hD
        refine lv_aload_n hx hb dX7_pivot_85 rfl (lv_at hl 0 rfl) ?_
        refine va_get (D := (dC, dI)) (ci := 7) (v := .ref a_h_rl) (C := RX7) (T := TX7) (N := 6) hx hb hts hiX7 hown hK hP 0 rfl rfl 1 (by decide) hf16 (fun _ h9 => h9) rfl dX7_pivot_86 ?_
        refine lv_iload_n hx hb dX7_pivot_89 rfl (lv_at hl 1 rfl) ?_
        obtain ⟨hg10, hs⟩ := gd_s hs
        refine va_iald hx hb hK hP 2 1 rfl rfl hg10 dX7_pivot_90 ?_
        refine lv_istore (lv' := [(5, .int (h_rl p1.toNatClampNeg)), (0, .ref a_h), (1, .int p1), (2, .int p2), (3, .long (h_g p1.toNatClampNeg p2.toNatClampNeg))]) hx hb dX7_pivot_91 hl (by decide) rfl (fun ls hl => ?_)
        refine lv_aload_n hx hb dX7_pivot_93 rfl (lv_at hl 1 rfl) ?_
        refine va_get (D := (dC, dI)) (ci := 7) (v := .ref a_h_rl) (C := RX7) (T := TX7) (N := 6) hx hb hts hiX7 hown hK hP 0 rfl rfl 1 (by decide) hf16 (fun _ h9 => h9) rfl dX7_pivot_94 ?_
        refine lv_iload_n hx hb dX7_pivot_97 rfl (lv_at hl 2 rfl) ?_
        refine lv_aload_n hx hb dX7_pivot_98 rfl (lv_at hl 1 rfl) ?_
        refine va_get (D := (dC, dI)) (ci := 7) (v := .ref a_h_cl) (C := RX7) (T := TX7) (N := 6) hx hb hts hiX7 hown hK hP 0 rfl rfl 2 (by decide) hf20 (fun _ h9 => h9) rfl dX7_pivot_99 ?_
        refine lv_iload_n hx hb dX7_pivot_102 rfl (lv_at hl 3 rfl) ?_
        obtain ⟨hg11, hs⟩ := gd_s hs
        refine va_iald hx hb hK hP 3 2 rfl rfl hg11 dX7_pivot_103 ?_
        obtain ⟨hg12, hs⟩ := gd_s hs
        refine va_iast hx hb hK hP hD hS 2 1 rfl rfl hg12 dX7_pivot_104 (fun H locs hP hD hS => ?_)
        have hP : va_P (dC, dI) vwCl ([(a_h, .inr (7, [.ref a_h_t, .ref a_h_rl, .ref a_h_cl, .int h_rows, .int h_columns, .long (h_g p1.toNatClampNeg p2.toNatClampNeg)])), (a_h_t, .inl (c_h_t, 11, .inr (.inr (.inr (.inr (fun i => if i < 11 then some (a_h_g i) else none)))))), (a_h_rl, .inl (c_h_rl, 10, .inl (upd h_rl p1.toNatClampNeg (h_cl p2.toNatClampNeg)))), (a_h_cl, .inl (c_h_cl, 16, .inl h_cl))] ++ gR a_h_g c_h_g (gU e28 p1.toNatClampNeg (vp_updL (e28 p1.toNatClampNeg) p2.toNatClampNeg h_divisor))) H := hP
        have hD : va_D A ([(a_h, .inr (7, [.ref a_h_t, .ref a_h_rl, .ref a_h_cl, .int h_rows, .int h_columns, .long (h_g p1.toNatClampNeg p2.toNatClampNeg)])), (a_h_t, .inl (c_h_t, 11, .inr (.inr (.inr (.inr (fun i => if i < 11 then some (a_h_g i) else none)))))), (a_h_rl, .inl (c_h_rl, 10, .inl (upd h_rl p1.toNatClampNeg (h_cl p2.toNatClampNeg)))), (a_h_cl, .inl (c_h_cl, 16, .inl h_cl))] ++ gR a_h_g c_h_g (gU e28 p1.toNatClampNeg (vp_updL (e28 p1.toNatClampNeg) p2.toNatClampNeg h_divisor))) := hD
        refine lv_aload_n hx hb dX7_pivot_105 rfl (lv_at hl 1 rfl) ?_
        refine va_get (D := (dC, dI)) (ci := 7) (v := .ref a_h_cl) (C := RX7) (T := TX7) (N := 6) hx hb hts hiX7 hown hK hP 0 rfl rfl 2 (by decide) hf20 (fun _ h9 => h9) rfl dX7_pivot_106 ?_
        refine lv_iload_n hx hb dX7_pivot_109 rfl (lv_at hl 3 rfl) ?_
        refine lv_iload hx hb dX7_pivot_110 (lv_at hl 0 rfl) ?_
        obtain ⟨hg13, hs⟩ := gd_s hs
        refine va_iast hx hb hK hP hD hS 3 2 rfl rfl hg13 dX7_pivot_112 (fun H locs hP hD hS => ?_)
        have hP : va_P (dC, dI) vwCl ([(a_h, .inr (7, [.ref a_h_t, .ref a_h_rl, .ref a_h_cl, .int h_rows, .int h_columns, .long (h_g p1.toNatClampNeg p2.toNatClampNeg)])), (a_h_t, .inl (c_h_t, 11, .inr (.inr (.inr (.inr (fun i => if i < 11 then some (a_h_g i) else none)))))), (a_h_rl, .inl (c_h_rl, 10, .inl (upd h_rl p1.toNatClampNeg (h_cl p2.toNatClampNeg)))), (a_h_cl, .inl (c_h_cl, 16, .inl (upd h_cl p2.toNatClampNeg (h_rl p1.toNatClampNeg))))] ++ gR a_h_g c_h_g (gU e28 p1.toNatClampNeg (vp_updL (e28 p1.toNatClampNeg) p2.toNatClampNeg h_divisor))) H := hP
        have hD : va_D A ([(a_h, .inr (7, [.ref a_h_t, .ref a_h_rl, .ref a_h_cl, .int h_rows, .int h_columns, .long (h_g p1.toNatClampNeg p2.toNatClampNeg)])), (a_h_t, .inl (c_h_t, 11, .inr (.inr (.inr (.inr (fun i => if i < 11 then some (a_h_g i) else none)))))), (a_h_rl, .inl (c_h_rl, 10, .inl (upd h_rl p1.toNatClampNeg (h_cl p2.toNatClampNeg)))), (a_h_cl, .inl (c_h_cl, 16, .inl (upd h_cl p2.toNatClampNeg (h_rl p1.toNatClampNeg))))] ++ gR a_h_g c_h_g (gU e28 p1.toNatClampNeg (vp_updL (e28 p1.toNatClampNeg) p2.toNatClampNeg h_divisor))) := hD
        replace hs := Option.some.inj hs
        subst hs
        exact W.vret hx hb hr (fun t ht hW => ⟨⟨(), rfl, trivial, by rw [ht]; exact hP, va_K.moved hW.alike hK, hD⟩, hS.F ht⟩) hS.2.2 dX7_pivot_113
      clear hs
      have hL28 : ∀ (n : Nat) (s28 : Int32 × (Nat → Nat → Int64)) (H : Heap) (locs : List Loc) (ls : Array Slot), itr (pX7_pivot_L28 h_rows h_columns h_divisor h_g p1 p2) n s28 = some e28 → va_P (dC, dI) vwCl ([(a_h, .inr (7, [.ref a_h_t, .ref a_h_rl, .ref a_h_cl, .int h_rows, .int h_columns, .long h_divisor])), (a_h_t, .inl (c_h_t, 11, .inr (.inr (.inr (.inr (fun i => if i < 11 then some (a_h_g i) else none)))))), (a_h_rl, .inl (c_h_rl, 10, .inl h_rl)), (a_h_cl, .inl (c_h_cl, 16, .inl h_cl))] ++ gR a_h_g c_h_g s28.2) H → va_D A ([(a_h, .inr (7, [.ref a_h_t, .ref a_h_rl, .ref a_h_cl, .int h_rows, .int h_columns, .long h_divisor])), (a_h_t, .inl (c_h_t, 11, .inr (.inr (.inr (.inr (fun i => if i < 11 then some (a_h_g i) else none)))))), (a_h_rl, .inl (c_h_rl, 10, .inl h_rl)), (a_h_cl, .inl (c_h_cl, 16, .inl h_cl))] ++ gR a_h_g c_h_g s28.2) → va_S A s.heap H locs → lv_has ls 6 [(0, .ref a_h), (1, .int p1), (2, .int p2), (3, .long (h_g p1.toNatClampNeg p2.toNatClampNeg)), (5, .int s28.1)] → Z H locs 0 0 (F0 m 28 ls []) := by
        intro n
        induction n with
        | zero =>
          intro s28 H locs ls hn
          exact (itr_0 hn).elim
        | succ n ih =>
          intro s28 H locs ls hn hP hD hS hl
          obtain ⟨y3, hs, hn⟩ := itr_s hn
          unfold pX7_pivot_L28 at hs
          refine hZv ?_
          refine lv_iload hx hb dX7_pivot_28 (lv_at hl 4 rfl) ?_
          refine lv_aload_n hx hb dX7_pivot_30 rfl (lv_at hl 0 rfl) ?_
          refine va_get (D := (dC, dI)) (ci := 7) (v := .int h_rows) (C := RX7) (T := TX7) (N := 6) hx hb hts hiX7 hown hK hP 0 rfl rfl 3 (by decide) hf23 (fun _ h9 => h9) rfl dX7_pivot_31 ?_
          refine lv_icmp_gt (tgt := 68) hx hb dX7_pivot_34 (by decide) (fun hc => ?_) (fun hc => ?_)
          · replace hs := it_t hc hs
            replace hs := Option.some.inj hs
            subst hs
            obtain rfl : s28.2 = e28 := hn
            exact hZw (hX28 H locs ls hP hD hS (lv_sub hl [0, 1, 2, 3] rfl))
          · replace hs := it_f hc hs
            refine lv_iload hx hb dX7_pivot_37 (lv_at hl 4 rfl) ?_
            refine lv_iload_n hx hb dX7_pivot_39 rfl (lv_at hl 1 rfl) ?_
            refine lv_icmp_eq (tgt := 62) hx hb dX7_pivot_40 (by decide) (fun hc => ?_) (fun hc => ?_)
            · replace hs := it_t hc hs
              refine lv_iinc (v := s28.1 + 1) (lv' := [(5, .int (s28.1 + 1)), (0, .ref a_h), (1, .int p1), (2, .int p2), (3, .long (h_g p1.toNatClampNeg p2.toNatClampNeg))]) hx hb dX7_pivot_62 hl (k := 4) rfl (by rfl) (by decide) rfl (fun ls hl => ?_)
              refine lv_goto (tgt := 28) hx hb dX7_pivot_65 (by decide) ?_
              replace hs := Option.some.inj hs
              subst hs
              exact hZw (ih (s28.1 + 1, s28.2) H locs ls hn hP hD hS (lv_sub hl [1, 2, 3, 4, 0] rfl))
            · replace hs := it_f hc hs
              refine lv_aload_n hx hb dX7_pivot_43 rfl (lv_at hl 0 rfl) ?_
              refine lv_aload_n hx hb dX7_pivot_44 rfl (lv_at hl 0 rfl) ?_
              refine va_get (D := (dC, dI)) (ci := 7) (v := .ref a_h_t) (C := RX7) (T := TX7) (N := 6) hx hb hts hiX7 hown hK hP 0 rfl rfl 0 (by decide) hf13 (fun _ h9 => h9) rfl dX7_pivot_45 ?_
              refine lv_iload hx hb dX7_pivot_48 (lv_at hl 4 rfl) ?_
              obtain ⟨hg4, hs⟩ := gd_s hs
              refine va_aldG hx hb hK hP 1 0 rfl rfl hg4 dX7_pivot_50 ?_
              refine lv_aload_n hx hb dX7_pivot_51 rfl (lv_at hl 0 rfl) ?_
              refine va_get (D := (dC, dI)) (ci := 7) (v := .ref a_h_t) (C := RX7) (T := TX7) (N := 6) hx hb hts hiX7 hown hK hP 0 rfl rfl 0 (by decide) hf13 (fun _ h9 => h9) rfl dX7_pivot_52 ?_
              refine lv_iload_n hx hb dX7_pivot_55 rfl (lv_at hl 1 rfl) ?_
              obtain ⟨hg5, hs⟩ := gd_s hs
              refine va_aldG hx hb hK hP 1 0 rfl rfl hg5 dX7_pivot_56 ?_
              refine lv_iload_n hx hb dX7_pivot_57 rfl (lv_at hl 2 rfl) ?_
              refine lv_lload_n hx hb dX7_pivot_58 rfl (lv_at hl 3 rfl) ?_
              obtain ⟨hne7, hs⟩ := gd_s hs
              obtain ⟨r6, hr6, hs⟩ := bd_s hs
              refine kc_G (X := [(a_h, .inr (7, [.ref a_h_t, .ref a_h_rl, .ref a_h_cl, .int h_rows, .int h_columns, .long h_divisor])), (a_h_t, .inl (c_h_t, 11, .inr (.inr (.inr (.inr (fun i => if i < 11 then some (a_h_g i) else none)))))), (a_h_rl, .inl (c_h_rl, 10, .inl h_rl)), (a_h_cl, .inl (c_h_cl, 16, .inl h_cl))]) (va_runV (As := [.ref (a_h_g s28.1.toNatClampNeg), .ref (a_h_g p1.toNatClampNeg), .int p2, .long (h_g p1.toNatClampNeg p2.toNatClampNeg)]) (rest := []) ⟨hx, hb, hml, hown, hts⟩ (c_X7_clearFromRow l dC dI a_h a_h_t a_h_rl a_h_cl (a_h_g s28.1.toNatClampNeg) (a_h_g p1.toNatClampNeg) c_h_g c_h_g H.size h_rows h_columns h_divisor (s28.2 s28.1.toNatClampNeg) (s28.2 p1.toNatClampNeg) p2 (h_g p1.toNatClampNeg p2.toNatClampNeg) r6 hr6) (cwV 4 hts gX7_pivot_X7_clearFromRow rfl rfl rfl (by decide +kernel) ⟨Nat.le_of_ble_eq_true rfl, Nat.le_of_ble_eq_true rfl⟩) (kp_G (X := [(a_h, .inr (7, [.ref a_h_t, .ref a_h_rl, .ref a_h_cl, .int h_rows, .int h_columns, .long h_divisor])), (a_h_t, .inl (c_h_t, 11, .inr (.inr (.inr (.inr (fun i => if i < 11 then some (a_h_g i) else none)))))), (a_h_rl, .inl (c_h_rl, 10, .inl h_rl)), (a_h_cl, .inl (c_h_cl, 16, .inl h_cl))]) hK hP hD hS hA hN hg4 hg5 hne7 (q := 0) (tp := 3) rfl rfl rfl) rfl rfl hl.1 rfl (lv_room (Nat.le_of_ble_eq_true rfl)) dX7_pivot_59 ⟨Nat.le_of_ble_eq_true rfl, Nat.le_of_ble_eq_true rfl⟩) hP hD hS hA hg4 hg5 hne7 (q := 0) rfl (fun H locs hP hD hS => ?_)
              have hP : va_P (dC, dI) vwCl ([(a_h, .inr (7, [.ref a_h_t, .ref a_h_rl, .ref a_h_cl, .int h_rows, .int h_columns, .long h_divisor])), (a_h_t, .inl (c_h_t, 11, .inr (.inr (.inr (.inr (fun i => if i < 11 then some (a_h_g i) else none)))))), (a_h_rl, .inl (c_h_rl, 10, .inl h_rl)), (a_h_cl, .inl (c_h_cl, 16, .inl h_cl))] ++ gR a_h_g c_h_g (gU s28.2 s28.1.toNatClampNeg r6)) H := hP
              have hD : va_D A ([(a_h, .inr (7, [.ref a_h_t, .ref a_h_rl, .ref a_h_cl, .int h_rows, .int h_columns, .long h_divisor])), (a_h_t, .inl (c_h_t, 11, .inr (.inr (.inr (.inr (fun i => if i < 11 then some (a_h_g i) else none)))))), (a_h_rl, .inl (c_h_rl, 10, .inl h_rl)), (a_h_cl, .inl (c_h_cl, 16, .inl h_cl))] ++ gR a_h_g c_h_g (gU s28.2 s28.1.toNatClampNeg r6)) := hD
              refine lv_iinc (v := s28.1 + 1) (lv' := [(5, .int (s28.1 + 1)), (0, .ref a_h), (1, .int p1), (2, .int p2), (3, .long (h_g p1.toNatClampNeg p2.toNatClampNeg))]) hx hb dX7_pivot_62 hl (k := 4) rfl (by rfl) (by decide) rfl (fun ls hl => ?_)
              refine lv_goto (tgt := 28) hx hb dX7_pivot_65 (by decide) ?_
              replace hs := Option.some.inj hs
              subst hs
              exact hZw (ih (s28.1 + 1, gU s28.2 s28.1.toNatClampNeg r6) H locs ls hn hP hD hS (lv_sub hl [1, 2, 3, 4, 0] rfl))
      obtain ⟨n28, hn28⟩ := lp_ex he28
      exact hZw (hL28 n28 (0, h_g) H locs ls hn28 hP hD hS (lv_sub hl [2, 3, 4, 1, 0] rfl))
    · replace hs := it_f hc hs
      replace hs := Option.some.inj hs
      subst hs
      exact W.vret hx hb hr (fun t ht hW => ⟨⟨(), rfl, trivial, by rw [ht]; exact hP, va_K.moved hW.alike hK, hD⟩, hS.F ht⟩) hS.2.2 dX7_pivot_24
noncomputable def pX7_solve_L8 (r1 : Int32 × Int32 × Int64 × (Nat → Int32) × (Nat → Int32) × (Nat → Nat → Int64)) (s8 : Int32 × Int64 × (Nat → Int32) × (Nat → Int32) × (Nat → Nat → Int64)) : Option ((Int32 × Int64 × (Nat → Int32) × (Nat → Int32) × (Nat → Nat → Int64)) ⊕ ((Int64 × (Nat → Int32) × (Nat → Int32) × (Nat → Nat → Int64)) ⊕ ((Int64 × (Nat → Int32) × (Nat → Int32) × (Nat → Nat → Int64)) ⊕ (Int64 × (Nat → Int32) × (Nat → Int32) × (Nat → Nat → Int64))))) :=
  if 1000000 ≤ s8.1 then (some (Sum.inr (Sum.inr (Sum.inr (s8.2.1, s8.2.2.1, s8.2.2.2.1, s8.2.2.2.2))))) else (Option.bind (pX7_enteringColumn r1.1 r1.2.1 s8.2.2.2.1 s8.2.2.2.2) (fun r3 => if 0 ≤ r3 then (Option.bind (pX7_leavingRow r1.1 r1.2.1 s8.2.2.1 s8.2.2.2.2 r3) (fun r4 => if 0 ≤ r4 then (Option.bind (pX7_pivot r1.1 r1.2.1 s8.2.1 s8.2.2.1 s8.2.2.2.1 s8.2.2.2.2 r4 r3) (fun r5 => some (Sum.inl (s8.1 + 1, r5.1, r5.2.1, r5.2.2.1, r5.2.2.2)))) else (some (Sum.inr (Sum.inr (Sum.inl (s8.2.1, s8.2.2.1, s8.2.2.2.1, s8.2.2.2.2))))))) else (some (Sum.inr (Sum.inl (s8.2.1, s8.2.2.1, s8.2.2.2.1, s8.2.2.2.2))))))
noncomputable def pX7_solve (r_len : Nat) (x_costs : Nat → Int32) (r_size : Int32) (r_n : Int32) (r_rows : Nat → Int32) (h_rows : Int32) (h_columns : Int32) (h_divisor : Int64) (h_rl : Nat → Int32) (h_cl : Nat → Int32) (h_g : Nat → Nat → Int64) : Option (Int32 × Int32 × Int64 × (Nat → Int32) × (Nat → Int32) × (Nat → Nat → Int64)) :=
  Option.bind (pX7_lay r_len x_costs r_size r_n r_rows h_rows h_columns h_divisor h_rl h_cl h_g) (fun r1 => Option.bind (lp (pX7_solve_L8 r1) (0, r1.2.2.1, r1.2.2.2.1, r1.2.2.2.2.1, r1.2.2.2.2.2)) (Sum.elim (fun e8_0 => some (r1.1, r1.2.1, e8_0.1, e8_0.2.1, e8_0.2.2.1, e8_0.2.2.2)) (Sum.elim (fun e8_1 => some (r1.1, r1.2.1, e8_1.1, e8_1.2.1, e8_1.2.2.1, e8_1.2.2.2)) (fun e8_2 => some (r1.1, r1.2.1, e8_2.1, e8_2.2.1, e8_2.2.2.1, e8_2.2.2.2)))))
set_option maxHeartbeats 4000000 in
set_option maxRecDepth 100000 in
theorem c_X7_solve (l : Launch) (dC : Nat → ClassId) (dI : Nat → Nat → Nat) (a_x_costs : Nat) (a_r : Nat) (a_r_rows : Nat) (a_r_ins : Nat) (a_h : Nat) (a_h_t : Nat) (a_h_rl : Nat) (a_h_cl : Nat) (a_h_g : Nat → Nat) (c_x_costs c_r_rows c_h_t c_h_rl c_h_cl c_h_g : ClassId) (r_len : Nat) (sz : Nat) (x_costs : Nat → Int32) (r_size : Int32) (r_n : Int32) (r_parts : Int32) (r_rows : Nat → Int32) (h_rows : Int32) (h_columns : Int32) (h_divisor : Int64) (h_rl : Nat → Int32) (h_cl : Nat → Int32) (h_g : Nat → Nat → Int64) (rv : Int32 × Int32 × Int64 × (Nat → Int32) × (Nat → Int32) × (Nat → Nat → Int64)) (hs : pX7_solve r_len x_costs r_size r_n r_rows h_rows h_columns h_divisor h_rl h_cl h_g = some rv) : Met l yX7_solve wsX7_solve ({ frames := 2, cells := 0, slots := 0, locals := 53 }) (sPc [.ref a_h, .ref a_r, .ref a_x_costs] (dC, dI) [(c_x_costs, .int), (c_r_rows, .int), (c_h_t, .array .long), (c_h_rl, .int), (c_h_cl, .int), (c_h_g, .long)] ([(a_x_costs, .inl (c_x_costs, 10, .inl x_costs)), (a_r, .inr (6, [.ref a_r_rows, .ref a_r_ins, .int r_size, .int r_n, .int r_parts])), (a_r_rows, .inl (c_r_rows, r_len, .inl r_rows)), (a_h, .inr (7, [.ref a_h_t, .ref a_h_rl, .ref a_h_cl, .int h_rows, .int h_columns, .long h_divisor])), (a_h_t, .inl (c_h_t, 11, .inr (.inr (.inr (.inr (fun i => if i < 11 then some (a_h_g i) else none)))))), (a_h_rl, .inl (c_h_rl, 10, .inl h_rl)), (a_h_cl, .inl (c_h_cl, 16, .inl h_cl))] ++ gR a_h_g c_h_g h_g) sz) (va_Qv (fun (_ : Unit) => True) (sB (dC, dI) [(c_x_costs, .int), (c_r_rows, .int), (c_h_t, .array .long), (c_h_rl, .int), (c_h_cl, .int), (c_h_g, .long)] (va_A ([(a_x_costs, .inl (c_x_costs, 10, .inl x_costs)), (a_r, .inr (6, [.ref a_r_rows, .ref a_r_ins, .int r_size, .int r_n, .int r_parts])), (a_r_rows, .inl (c_r_rows, r_len, .inl r_rows)), (a_h, .inr (7, [.ref a_h_t, .ref a_h_rl, .ref a_h_cl, .int h_rows, .int h_columns, .long h_divisor])), (a_h_t, .inl (c_h_t, 11, .inr (.inr (.inr (.inr (fun i => if i < 11 then some (a_h_g i) else none)))))), (a_h_rl, .inl (c_h_rl, 10, .inl h_rl)), (a_h_cl, .inl (c_h_cl, 16, .inl h_cl))] ++ gR a_h_g c_h_g h_g) sz) ([(a_x_costs, .inl (c_x_costs, 10, .inl x_costs)), (a_r, .inr (6, [.ref a_r_rows, .ref a_r_ins, .int r_size, .int r_n, .int r_parts])), (a_r_rows, .inl (c_r_rows, r_len, .inl r_rows)), (a_h, .inr (7, [.ref a_h_t, .ref a_h_rl, .ref a_h_cl, .int rv.1, .int rv.2.1, .long rv.2.2.1])), (a_h_t, .inl (c_h_t, 11, .inr (.inr (.inr (.inr (fun i => if i < 11 then some (a_h_g i) else none)))))), (a_h_rl, .inl (c_h_rl, 10, .inl rv.2.2.2.1)), (a_h_cl, .inl (c_h_cl, 16, .inl rv.2.2.2.2.1))] ++ gR a_h_g c_h_g rv.2.2.2.2.2)) (va_A ([(a_x_costs, .inl (c_x_costs, 10, .inl x_costs)), (a_r, .inr (6, [.ref a_r_rows, .ref a_r_ins, .int r_size, .int r_n, .int r_parts])), (a_r_rows, .inl (c_r_rows, r_len, .inl r_rows)), (a_h, .inr (7, [.ref a_h_t, .ref a_h_rl, .ref a_h_cl, .int h_rows, .int h_columns, .long h_divisor])), (a_h_t, .inl (c_h_t, 11, .inr (.inr (.inr (.inr (fun i => if i < 11 then some (a_h_g i) else none)))))), (a_h_rl, .inl (c_h_rl, 10, .inl h_rl)), (a_h_cl, .inl (c_h_cl, 16, .inl h_cl))] ++ gR a_h_g c_h_g h_g) sz)) 0 0 (va_A ([(a_x_costs, .inl (c_x_costs, 10, .inl x_costs)), (a_r, .inr (6, [.ref a_r_rows, .ref a_r_ins, .int r_size, .int r_n, .int r_parts])), (a_r_rows, .inl (c_r_rows, r_len, .inl r_rows)), (a_h, .inr (7, [.ref a_h_t, .ref a_h_rl, .ref a_h_cl, .int h_rows, .int h_columns, .long h_divisor])), (a_h_t, .inl (c_h_t, 11, .inr (.inr (.inr (.inr (fun i => if i < 11 then some (a_h_g i) else none)))))), (a_h_rl, .inl (c_h_rl, 10, .inl h_rl)), (a_h_cl, .inl (c_h_cl, 16, .inl h_cl))] ++ gR a_h_g c_h_g h_g) sz) := by
  refine Met.ofW (cc := cX7_solve) (maxL := 6) (ret := none) (by decide) rfl ?_
  intro p e s m args below meth c s₁ B hml hv
  obtain ⟨rfl, hsz, hP, hK, hD0, hN⟩ := hv
  have hx := B.exec
  have hb := B.bytes
  have hr := B.returns
  have hts := atoms_spec (ws := wsX7_solve) B.pre
  have hown : s.vm.findClass RX7 = some m.cls := findClass_of_methodNamed B.named
  have hlocks := B.notSynchronized
  subst hsz
  have hD := hD0.self (sz := s.heap.size)
  generalize hAe : va_A ([(a_x_costs, .inl (c_x_costs, 10, .inl x_costs)), (a_r, .inr (6, [.ref a_r_rows, .ref a_r_ins, .int r_size, .int r_n, .int r_parts])), (a_r_rows, .inl (c_r_rows, r_len, .inl r_rows)), (a_h, .inr (7, [.ref a_h_t, .ref a_h_rl, .ref a_h_cl, .int h_rows, .int h_columns, .long h_divisor])), (a_h_t, .inl (c_h_t, 11, .inr (.inr (.inr (.inr (fun i => if i < 11 then some (a_h_g i) else none)))))), (a_h_rl, .inl (c_h_rl, 10, .inl h_rl)), (a_h_cl, .inl (c_h_cl, 16, .inl h_cl))] ++ gR a_h_g c_h_g h_g) s.heap.size = A at hD hN ⊢
  have hA : ∀ q : Nat, s.heap.size ≤ q → A q := fun q h => by rw [← hAe]; exact Or.inr h
  have hS : va_S A s.heap s.heap [] := va_S.rf
  have hP : va_P (dC, dI) vwCl ([(a_x_costs, .inl (c_x_costs, 10, .inl x_costs)), (a_r, .inr (6, [.ref a_r_rows, .ref a_r_ins, .int r_size, .int r_n, .int r_parts])), (a_r_rows, .inl (c_r_rows, r_len, .inl r_rows)), (a_h, .inr (7, [.ref a_h_t, .ref a_h_rl, .ref a_h_cl, .int h_rows, .int h_columns, .long h_divisor])), (a_h_t, .inl (c_h_t, 11, .inr (.inr (.inr (.inr (fun i => if i < 11 then some (a_h_g i) else none)))))), (a_h_rl, .inl (c_h_rl, 10, .inl h_rl)), (a_h_cl, .inl (c_h_cl, 16, .inl h_cl))] ++ gR a_h_g c_h_g h_g) s.heap := hP
  have hl := lv_entry ([.ref a_h, .ref a_r, .ref a_x_costs]) (n := 6) (Nat.le_of_ble_eq_true rfl)
  rw [lg_entry_eq]
  generalize (lg_sl ([.ref a_h, .ref a_r, .ref a_x_costs]) ++ List.replicate (6 - (lg_sl ([.ref a_h, .ref a_r, .ref a_x_costs])).length) Slot.unset).toArray = ls at hl ⊢
  have hl : lv_has ls 6 [(0, .ref a_h), (1, .ref a_r), (2, .ref a_x_costs)] := hl
  refine w_abs (fun Z hZv hZw => ?_)
  refine hZv ?_
  obtain ⟨H, hH⟩ : ∃ H, H = s.heap := ⟨_, rfl⟩
  obtain ⟨locs, hlo⟩ : ∃ L : List Loc, L = [] := ⟨_, rfl⟩
  rw [← hlo, ← hH]
  have hS : va_S A s.heap H locs := by rw [hlo, hH]; exact hS
  have hP : va_P (dC, dI) vwCl ([(a_x_costs, .inl (c_x_costs, 10, .inl x_costs)), (a_r, .inr (6, [.ref a_r_rows, .ref a_r_ins, .int r_size, .int r_n, .int r_parts])), (a_r_rows, .inl (c_r_rows, r_len, .inl r_rows)), (a_h, .inr (7, [.ref a_h_t, .ref a_h_rl, .ref a_h_cl, .int h_rows, .int h_columns, .long h_divisor])), (a_h_t, .inl (c_h_t, 11, .inr (.inr (.inr (.inr (fun i => if i < 11 then some (a_h_g i) else none)))))), (a_h_rl, .inl (c_h_rl, 10, .inl h_rl)), (a_h_cl, .inl (c_h_cl, 16, .inl h_cl))] ++ gR a_h_g c_h_g h_g) H := by rw [hH]; exact hP
  clear hH hlo
  unfold pX7_solve at hs
  refine lv_aload_n hx hb dX7_solve_0 rfl (lv_at hl 0 rfl) ?_
  refine lv_aload_n hx hb dX7_solve_1 rfl (lv_at hl 1 rfl) ?_
  refine lv_aload_n hx hb dX7_solve_2 rfl (lv_at hl 2 rfl) ?_
  obtain ⟨r1, hr1, hs⟩ := bd_s hs
  refine kc_v (isC := [0, 1, 2, 3, 4, 5, 6] ++ List.range' 7 11) (isR := []) (pm := [0, 1, 2, 3, 4, 5, 6] ++ List.range' 7 11) (wr := []) (w1 := ([(a_x_costs, .inl (c_x_costs, 10, .inl x_costs)), (a_r, .inr (6, [.ref a_r_rows, .ref a_r_ins, .int r_size, .int r_n, .int r_parts])), (a_r_rows, .inl (c_r_rows, r_len, .inl r_rows)), (a_h, .inr (7, [.ref a_h_t, .ref a_h_rl, .ref a_h_cl, .int r1.1, .int r1.2.1, .long r1.2.2.1])), (a_h_t, .inl (c_h_t, 11, .inr (.inr (.inr (.inr (fun i => if i < 11 then some (a_h_g i) else none)))))), (a_h_rl, .inl (c_h_rl, 10, .inl r1.2.2.2.1)), (a_h_cl, .inl (c_h_cl, 16, .inl r1.2.2.2.2.1))] ++ gR a_h_g c_h_g r1.2.2.2.2.2)) (w2 := ([(a_x_costs, .inl (c_x_costs, 10, .inl x_costs)), (a_r, .inr (6, [.ref a_r_rows, .ref a_r_ins, .int r_size, .int r_n, .int r_parts])), (a_r_rows, .inl (c_r_rows, r_len, .inl r_rows)), (a_h, .inr (7, [.ref a_h_t, .ref a_h_rl, .ref a_h_cl, .int r1.1, .int r1.2.1, .long r1.2.2.1])), (a_h_t, .inl (c_h_t, 11, .inr (.inr (.inr (.inr (fun i => if i < 11 then some (a_h_g i) else none)))))), (a_h_rl, .inl (c_h_rl, 10, .inl r1.2.2.2.1)), (a_h_cl, .inl (c_h_cl, 16, .inl r1.2.2.2.2.1))] ++ gR a_h_g c_h_g r1.2.2.2.2.2)) (va_runV (As := [.ref a_r, .ref a_x_costs]) (rest := []) ⟨hx, hb, hml, hown, hts⟩ (c_X7_lay l dC dI a_x_costs a_r a_r_rows a_r_ins a_h a_h_t a_h_rl a_h_cl a_h_g c_x_costs c_r_rows c_h_t c_h_rl c_h_cl c_h_g r_len H.size x_costs r_size r_n r_parts r_rows h_rows h_columns h_divisor h_rl h_cl h_g r1 hr1) (cwV 2 hts gX7_solve_X7_lay rfl rfl rfl (by decide +kernel) ⟨Nat.le_of_ble_eq_true rfl, Nat.le_of_ble_eq_true rfl⟩) (kp_V hK hP hD hS hA hN (isC := [0, 1, 2, 3, 4, 5, 6] ++ List.range' 7 11) (isT := [0, 1, 2, 3, 4, 5]) (wc := ([(a_x_costs, .inl (c_x_costs, 10, .inl x_costs)), (a_r, .inr (6, [.ref a_r_rows, .ref a_r_ins, .int r_size, .int r_n, .int r_parts])), (a_r_rows, .inl (c_r_rows, r_len, .inl r_rows)), (a_h, .inr (7, [.ref a_h_t, .ref a_h_rl, .ref a_h_cl, .int h_rows, .int h_columns, .long h_divisor])), (a_h_t, .inl (c_h_t, 11, .inr (.inr (.inr (.inr (fun i => if i < 11 then some (a_h_g i) else none)))))), (a_h_rl, .inl (c_h_rl, 10, .inl h_rl)), (a_h_cl, .inl (c_h_cl, 16, .inl h_cl))] ++ gR a_h_g c_h_g h_g)) (gC_ rfl rfl) (by decide +kernel) rfl (ci := 7) (q0 := 3) rfl rfl) rfl rfl hl.1 rfl (lv_room (Nat.le_of_ble_eq_true rfl)) dX7_solve_3 ⟨Nat.le_of_ble_eq_true rfl, Nat.le_of_ble_eq_true rfl⟩) hP hD hS hA (gC_ rfl rfl) rfl (by decide +kernel) (by decide +kernel) (gP_ rfl rfl) (by decide +kernel) (fun H locs hP hD hS => ?_)
  refine lv_iconst (v := 0) hx hb dX7_solve_6 (by decide) ?_
  refine lv_istore_n (lv' := [(3, .int 0), (0, .ref a_h), (1, .ref a_r), (2, .ref a_x_costs)]) hx hb dX7_solve_7 rfl hl (by decide) rfl (fun ls hl => ?_)
  obtain ⟨e8, he8, hs⟩ := bd_s hs
  have hX8_0 : ∀ (e8_0 : Int64 × (Nat → Int32) × (Nat → Int32) × (Nat → Nat → Int64)), (Sum.inl e8_0) = e8 → ∀ (H : Heap) (locs : List Loc) (ls : Array Slot), va_P (dC, dI) vwCl ([(a_x_costs, .inl (c_x_costs, 10, .inl x_costs)), (a_r, .inr (6, [.ref a_r_rows, .ref a_r_ins, .int r_size, .int r_n, .int r_parts])), (a_r_rows, .inl (c_r_rows, r_len, .inl r_rows)), (a_h, .inr (7, [.ref a_h_t, .ref a_h_rl, .ref a_h_cl, .int r1.1, .int r1.2.1, .long e8_0.1])), (a_h_t, .inl (c_h_t, 11, .inr (.inr (.inr (.inr (fun i => if i < 11 then some (a_h_g i) else none)))))), (a_h_rl, .inl (c_h_rl, 10, .inl e8_0.2.1)), (a_h_cl, .inl (c_h_cl, 16, .inl e8_0.2.2.1))] ++ gR a_h_g c_h_g e8_0.2.2.2) H → va_D A ([(a_x_costs, .inl (c_x_costs, 10, .inl x_costs)), (a_r, .inr (6, [.ref a_r_rows, .ref a_r_ins, .int r_size, .int r_n, .int r_parts])), (a_r_rows, .inl (c_r_rows, r_len, .inl r_rows)), (a_h, .inr (7, [.ref a_h_t, .ref a_h_rl, .ref a_h_cl, .int r1.1, .int r1.2.1, .long e8_0.1])), (a_h_t, .inl (c_h_t, 11, .inr (.inr (.inr (.inr (fun i => if i < 11 then some (a_h_g i) else none)))))), (a_h_rl, .inl (c_h_rl, 10, .inl e8_0.2.1)), (a_h_cl, .inl (c_h_cl, 16, .inl e8_0.2.2.1))] ++ gR a_h_g c_h_g e8_0.2.2.2) → va_S A s.heap H locs → lv_has ls 6 [] → Z H locs 0 0 (F0 m 25 ls []) := by
    intro e8_0 he H locs ls hP hD hS hl
    subst he
    replace hs := sm_l hs
    refine hZv ?_
    replace hs := Option.some.inj hs
    subst hs
    exact W.vret hx hb hr (fun t ht hW => ⟨⟨(), rfl, trivial, by rw [ht]; exact hP, va_K.moved hW.alike hK, hD⟩, hS.F ht⟩) hS.2.2 dX7_solve_25
  have hX8_1 : ∀ (e8_1 : Int64 × (Nat → Int32) × (Nat → Int32) × (Nat → Nat → Int64)), (Sum.inr (Sum.inl e8_1)) = e8 → ∀ (H : Heap) (locs : List Loc) (ls : Array Slot), va_P (dC, dI) vwCl ([(a_x_costs, .inl (c_x_costs, 10, .inl x_costs)), (a_r, .inr (6, [.ref a_r_rows, .ref a_r_ins, .int r_size, .int r_n, .int r_parts])), (a_r_rows, .inl (c_r_rows, r_len, .inl r_rows)), (a_h, .inr (7, [.ref a_h_t, .ref a_h_rl, .ref a_h_cl, .int r1.1, .int r1.2.1, .long e8_1.1])), (a_h_t, .inl (c_h_t, 11, .inr (.inr (.inr (.inr (fun i => if i < 11 then some (a_h_g i) else none)))))), (a_h_rl, .inl (c_h_rl, 10, .inl e8_1.2.1)), (a_h_cl, .inl (c_h_cl, 16, .inl e8_1.2.2.1))] ++ gR a_h_g c_h_g e8_1.2.2.2) H → va_D A ([(a_x_costs, .inl (c_x_costs, 10, .inl x_costs)), (a_r, .inr (6, [.ref a_r_rows, .ref a_r_ins, .int r_size, .int r_n, .int r_parts])), (a_r_rows, .inl (c_r_rows, r_len, .inl r_rows)), (a_h, .inr (7, [.ref a_h_t, .ref a_h_rl, .ref a_h_cl, .int r1.1, .int r1.2.1, .long e8_1.1])), (a_h_t, .inl (c_h_t, 11, .inr (.inr (.inr (.inr (fun i => if i < 11 then some (a_h_g i) else none)))))), (a_h_rl, .inl (c_h_rl, 10, .inl e8_1.2.1)), (a_h_cl, .inl (c_h_cl, 16, .inl e8_1.2.2.1))] ++ gR a_h_g c_h_g e8_1.2.2.2) → va_S A s.heap H locs → lv_has ls 6 [] → Z H locs 0 0 (F0 m 39 ls []) := by
    intro e8_1 he H locs ls hP hD hS hl
    subst he
    replace hs := sm_r hs
    replace hs := sm_l hs
    refine hZv ?_
    replace hs := Option.some.inj hs
    subst hs
    exact W.vret hx hb hr (fun t ht hW => ⟨⟨(), rfl, trivial, by rw [ht]; exact hP, va_K.moved hW.alike hK, hD⟩, hS.F ht⟩) hS.2.2 dX7_solve_39
  have hX8_2 : ∀ (e8_2 : Int64 × (Nat → Int32) × (Nat → Int32) × (Nat → Nat → Int64)), (Sum.inr (Sum.inr e8_2)) = e8 → ∀ (H : Heap) (locs : List Loc) (ls : Array Slot), va_P (dC, dI) vwCl ([(a_x_costs, .inl (c_x_costs, 10, .inl x_costs)), (a_r, .inr (6, [.ref a_r_rows, .ref a_r_ins, .int r_size, .int r_n, .int r_parts])), (a_r_rows, .inl (c_r_rows, r_len, .inl r_rows)), (a_h, .inr (7, [.ref a_h_t, .ref a_h_rl, .ref a_h_cl, .int r1.1, .int r1.2.1, .long e8_2.1])), (a_h_t, .inl (c_h_t, 11, .inr (.inr (.inr (.inr (fun i => if i < 11 then some (a_h_g i) else none)))))), (a_h_rl, .inl (c_h_rl, 10, .inl e8_2.2.1)), (a_h_cl, .inl (c_h_cl, 16, .inl e8_2.2.2.1))] ++ gR a_h_g c_h_g e8_2.2.2.2) H → va_D A ([(a_x_costs, .inl (c_x_costs, 10, .inl x_costs)), (a_r, .inr (6, [.ref a_r_rows, .ref a_r_ins, .int r_size, .int r_n, .int r_parts])), (a_r_rows, .inl (c_r_rows, r_len, .inl r_rows)), (a_h, .inr (7, [.ref a_h_t, .ref a_h_rl, .ref a_h_cl, .int r1.1, .int r1.2.1, .long e8_2.1])), (a_h_t, .inl (c_h_t, 11, .inr (.inr (.inr (.inr (fun i => if i < 11 then some (a_h_g i) else none)))))), (a_h_rl, .inl (c_h_rl, 10, .inl e8_2.2.1)), (a_h_cl, .inl (c_h_cl, 16, .inl e8_2.2.2.1))] ++ gR a_h_g c_h_g e8_2.2.2.2) → va_S A s.heap H locs → lv_has ls 6 [] → Z H locs 0 0 (F0 m 54 ls []) := by
    intro e8_2 he H locs ls hP hD hS hl
    subst he
    replace hs := sm_r hs
    replace hs := sm_r hs
    refine hZv ?_
    replace hs := Option.some.inj hs
    subst hs
    exact W.vret hx hb hr (fun t ht hW => ⟨⟨(), rfl, trivial, by rw [ht]; exact hP, va_K.moved hW.alike hK, hD⟩, hS.F ht⟩) hS.2.2 dX7_solve_54
  clear hs
  have hL8 : ∀ (n : Nat) (s8 : Int32 × Int64 × (Nat → Int32) × (Nat → Int32) × (Nat → Nat → Int64)) (H : Heap) (locs : List Loc) (ls : Array Slot), itr (pX7_solve_L8 r1) n s8 = some e8 → va_P (dC, dI) vwCl ([(a_x_costs, .inl (c_x_costs, 10, .inl x_costs)), (a_r, .inr (6, [.ref a_r_rows, .ref a_r_ins, .int r_size, .int r_n, .int r_parts])), (a_r_rows, .inl (c_r_rows, r_len, .inl r_rows)), (a_h, .inr (7, [.ref a_h_t, .ref a_h_rl, .ref a_h_cl, .int r1.1, .int r1.2.1, .long s8.2.1])), (a_h_t, .inl (c_h_t, 11, .inr (.inr (.inr (.inr (fun i => if i < 11 then some (a_h_g i) else none)))))), (a_h_rl, .inl (c_h_rl, 10, .inl s8.2.2.1)), (a_h_cl, .inl (c_h_cl, 16, .inl s8.2.2.2.1))] ++ gR a_h_g c_h_g s8.2.2.2.2) H → va_D A ([(a_x_costs, .inl (c_x_costs, 10, .inl x_costs)), (a_r, .inr (6, [.ref a_r_rows, .ref a_r_ins, .int r_size, .int r_n, .int r_parts])), (a_r_rows, .inl (c_r_rows, r_len, .inl r_rows)), (a_h, .inr (7, [.ref a_h_t, .ref a_h_rl, .ref a_h_cl, .int r1.1, .int r1.2.1, .long s8.2.1])), (a_h_t, .inl (c_h_t, 11, .inr (.inr (.inr (.inr (fun i => if i < 11 then some (a_h_g i) else none)))))), (a_h_rl, .inl (c_h_rl, 10, .inl s8.2.2.1)), (a_h_cl, .inl (c_h_cl, 16, .inl s8.2.2.2.1))] ++ gR a_h_g c_h_g s8.2.2.2.2) → va_S A s.heap H locs → lv_has ls 6 [(0, .ref a_h), (3, .int s8.1)] → Z H locs 0 0 (F0 m 8 ls []) := by
    intro n
    induction n with
    | zero =>
      intro s8 H locs ls hn
      exact (itr_0 hn).elim
    | succ n ih =>
      intro s8 H locs ls hn hP hD hS hl
      obtain ⟨y2, hs, hn⟩ := itr_s hn
      unfold pX7_solve_L8 at hs
      refine hZv ?_
      refine lv_iload_n hx hb dX7_solve_8 rfl (lv_at hl 1 rfl) ?_
      refine lv_ldc (v := 1000000) hx hb hown (hts (.constant RX7 38 (1000000)) (t1_ (al_ (al_ (al_ h1_))))) dX7_solve_9 ?_
      refine lv_icmp_ge (tgt := 54) hx hb dX7_solve_11 (by decide) (fun hc => ?_) (fun hc => ?_)
      · replace hs := it_t hc hs
        replace hs := Option.some.inj hs
        subst hs
        obtain rfl : (Sum.inr (Sum.inr (s8.2.1, s8.2.2.1, s8.2.2.2.1, s8.2.2.2.2))) = e8 := hn
        exact hZw (hX8_2 (s8.2.1, s8.2.2.1, s8.2.2.2.1, s8.2.2.2.2) rfl H locs ls hP hD hS (lv_sub hl [] rfl))
      · replace hs := it_f hc hs
        refine lv_aload_n hx hb dX7_solve_14 rfl (lv_at hl 0 rfl) ?_
        obtain ⟨r3, hr3, hs⟩ := bd_s hs
        refine kc_i (isC := [3, 4, 6] ++ List.range' 7 11) (isR := [0, 1, 2, 5]) (pm := [0, 1, 2, 4, 5, 3, 6] ++ List.range' 7 11) (wr := [(a_x_costs, .inl (c_x_costs, 10, .inl x_costs)), (a_r, .inr (6, [.ref a_r_rows, .ref a_r_ins, .int r_size, .int r_n, .int r_parts])), (a_r_rows, .inl (c_r_rows, r_len, .inl r_rows)), (a_h_rl, .inl (c_h_rl, 10, .inl s8.2.2.1))]) (w1 := ([(a_h, .inr (7, [.ref a_h_t, .ref a_h_rl, .ref a_h_cl, .int r1.1, .int r1.2.1, .long s8.2.1])), (a_h_t, .inl (c_h_t, 11, .inr (.inr (.inr (.inr (fun i => if i < 11 then some (a_h_g i) else none)))))), (a_h_cl, .inl (c_h_cl, 16, .inl s8.2.2.2.1))] ++ gR a_h_g c_h_g s8.2.2.2.2)) (w2 := ([(a_x_costs, .inl (c_x_costs, 10, .inl x_costs)), (a_r, .inr (6, [.ref a_r_rows, .ref a_r_ins, .int r_size, .int r_n, .int r_parts])), (a_r_rows, .inl (c_r_rows, r_len, .inl r_rows)), (a_h, .inr (7, [.ref a_h_t, .ref a_h_rl, .ref a_h_cl, .int r1.1, .int r1.2.1, .long s8.2.1])), (a_h_t, .inl (c_h_t, 11, .inr (.inr (.inr (.inr (fun i => if i < 11 then some (a_h_g i) else none)))))), (a_h_rl, .inl (c_h_rl, 10, .inl s8.2.2.1)), (a_h_cl, .inl (c_h_cl, 16, .inl s8.2.2.2.1))] ++ gR a_h_g c_h_g s8.2.2.2.2)) (va_runV (As := []) (rest := []) ⟨hx, hb, hml, hown, hts⟩ (c_X7_enteringColumn l dC dI a_h a_h_t a_h_rl a_h_cl a_h_g c_h_t c_h_cl c_h_g H.size r1.1 r1.2.1 s8.2.1 s8.2.2.2.1 s8.2.2.2.2 r3 hr3) (cwV 0 hts gX7_solve_X7_enteringColumn rfl rfl rfl (by decide +kernel) ⟨Nat.le_of_ble_eq_true rfl, Nat.le_of_ble_eq_true rfl⟩) (kp_V hK hP hD hS hA hN (isC := [3, 4, 6] ++ List.range' 7 11) (isT := [2, 4, 5]) (wc := ([(a_h, .inr (7, [.ref a_h_t, .ref a_h_rl, .ref a_h_cl, .int r1.1, .int r1.2.1, .long s8.2.1])), (a_h_t, .inl (c_h_t, 11, .inr (.inr (.inr (.inr (fun i => if i < 11 then some (a_h_g i) else none)))))), (a_h_cl, .inl (c_h_cl, 16, .inl s8.2.2.2.1))] ++ gR a_h_g c_h_g s8.2.2.2.2)) (gC_ rfl rfl) (by decide +kernel) rfl (ci := 7) (q0 := 0) rfl rfl) rfl rfl hl.1 rfl (lv_room (Nat.le_of_ble_eq_true rfl)) dX7_solve_15 ⟨Nat.le_of_ble_eq_true rfl, Nat.le_of_ble_eq_true rfl⟩) hP hD hS hA (gC_ rfl rfl) rfl (by decide +kernel) (by decide +kernel) (gP_ rfl rfl) (by decide +kernel) (fun H locs hP hD hS => ?_)
        refine lv_istore (lv' := [(4, .int r3), (0, .ref a_h), (3, .int s8.1)]) hx hb dX7_solve_18 hl (by decide) rfl (fun ls hl => ?_)
        refine lv_iload hx hb dX7_solve_20 (lv_at hl 0 rfl) ?_
        refine lv_if_ge (tgt := 26) hx hb dX7_solve_22 (by decide) (fun hc => ?_) (fun hc => ?_)
        · replace hs := it_t hc hs
          refine lv_aload_n hx hb dX7_solve_26 rfl (lv_at hl 1 rfl) ?_
          refine lv_iload hx hb dX7_solve_27 (lv_at hl 0 rfl) ?_
          obtain ⟨r4, hr4, hs⟩ := bd_s hs
          refine kc_i (isC := [3, 4, 5] ++ List.range' 7 11) (isR := [0, 1, 2, 6]) (pm := [0, 1, 2, 4, 5, 6, 3] ++ List.range' 7 11) (wr := [(a_x_costs, .inl (c_x_costs, 10, .inl x_costs)), (a_r, .inr (6, [.ref a_r_rows, .ref a_r_ins, .int r_size, .int r_n, .int r_parts])), (a_r_rows, .inl (c_r_rows, r_len, .inl r_rows)), (a_h_cl, .inl (c_h_cl, 16, .inl s8.2.2.2.1))]) (w1 := ([(a_h, .inr (7, [.ref a_h_t, .ref a_h_rl, .ref a_h_cl, .int r1.1, .int r1.2.1, .long s8.2.1])), (a_h_t, .inl (c_h_t, 11, .inr (.inr (.inr (.inr (fun i => if i < 11 then some (a_h_g i) else none)))))), (a_h_rl, .inl (c_h_rl, 10, .inl s8.2.2.1))] ++ gR a_h_g c_h_g s8.2.2.2.2)) (w2 := ([(a_x_costs, .inl (c_x_costs, 10, .inl x_costs)), (a_r, .inr (6, [.ref a_r_rows, .ref a_r_ins, .int r_size, .int r_n, .int r_parts])), (a_r_rows, .inl (c_r_rows, r_len, .inl r_rows)), (a_h, .inr (7, [.ref a_h_t, .ref a_h_rl, .ref a_h_cl, .int r1.1, .int r1.2.1, .long s8.2.1])), (a_h_t, .inl (c_h_t, 11, .inr (.inr (.inr (.inr (fun i => if i < 11 then some (a_h_g i) else none)))))), (a_h_rl, .inl (c_h_rl, 10, .inl s8.2.2.1)), (a_h_cl, .inl (c_h_cl, 16, .inl s8.2.2.2.1))] ++ gR a_h_g c_h_g s8.2.2.2.2)) (va_runV (As := [.int r3]) (rest := []) ⟨hx, hb, hml, hown, hts⟩ (c_X7_leavingRow l dC dI a_h a_h_t a_h_rl a_h_cl a_h_g c_h_t c_h_rl c_h_g H.size r1.1 r1.2.1 s8.2.1 s8.2.2.1 s8.2.2.2.2 r3 r4 hr4) (cwV 1 hts gX7_solve_X7_leavingRow rfl rfl rfl (by decide +kernel) ⟨Nat.le_of_ble_eq_true rfl, Nat.le_of_ble_eq_true rfl⟩) (kp_V hK hP hD hS hA hN (isC := [3, 4, 5] ++ List.range' 7 11) (isT := [2, 3, 5]) (wc := ([(a_h, .inr (7, [.ref a_h_t, .ref a_h_rl, .ref a_h_cl, .int r1.1, .int r1.2.1, .long s8.2.1])), (a_h_t, .inl (c_h_t, 11, .inr (.inr (.inr (.inr (fun i => if i < 11 then some (a_h_g i) else none)))))), (a_h_rl, .inl (c_h_rl, 10, .inl s8.2.2.1))] ++ gR a_h_g c_h_g s8.2.2.2.2)) (gC_ rfl rfl) (by decide +kernel) rfl (ci := 7) (q0 := 0) rfl rfl) rfl rfl hl.1 rfl (lv_room (Nat.le_of_ble_eq_true rfl)) dX7_solve_29 ⟨Nat.le_of_ble_eq_true rfl, Nat.le_of_ble_eq_true rfl⟩) hP hD hS hA (gC_ rfl rfl) rfl (by decide +kernel) (by decide +kernel) (gP_ rfl rfl) (by decide +kernel) (fun H locs hP hD hS => ?_)
          refine lv_istore (lv' := [(5, .int r4), (4, .int r3), (0, .ref a_h), (3, .int s8.1)]) hx hb dX7_solve_32 hl (by decide) rfl (fun ls hl => ?_)
          refine lv_iload hx hb dX7_solve_34 (lv_at hl 0 rfl) ?_
          refine lv_if_ge (tgt := 40) hx hb dX7_solve_36 (by decide) (fun hc => ?_) (fun hc => ?_)
          · replace hs := it_t hc hs
            refine lv_aload_n hx hb dX7_solve_40 rfl (lv_at hl 2 rfl) ?_
            refine lv_iload hx hb dX7_solve_41 (lv_at hl 0 rfl) ?_
            refine lv_iload hx hb dX7_solve_43 (lv_at hl 1 rfl) ?_
            obtain ⟨r5, hr5, hs⟩ := bd_s hs
            refine kc_v (isC := [3, 4, 5, 6] ++ List.range' 7 11) (isR := [0, 1, 2]) (pm := [0, 1, 2, 3, 4, 5, 6] ++ List.range' 7 11) (wr := [(a_x_costs, .inl (c_x_costs, 10, .inl x_costs)), (a_r, .inr (6, [.ref a_r_rows, .ref a_r_ins, .int r_size, .int r_n, .int r_parts])), (a_r_rows, .inl (c_r_rows, r_len, .inl r_rows))]) (w1 := ([(a_h, .inr (7, [.ref a_h_t, .ref a_h_rl, .ref a_h_cl, .int r1.1, .int r1.2.1, .long r5.1])), (a_h_t, .inl (c_h_t, 11, .inr (.inr (.inr (.inr (fun i => if i < 11 then some (a_h_g i) else none)))))), (a_h_rl, .inl (c_h_rl, 10, .inl r5.2.1)), (a_h_cl, .inl (c_h_cl, 16, .inl r5.2.2.1))] ++ gR a_h_g c_h_g r5.2.2.2)) (w2 := ([(a_x_costs, .inl (c_x_costs, 10, .inl x_costs)), (a_r, .inr (6, [.ref a_r_rows, .ref a_r_ins, .int r_size, .int r_n, .int r_parts])), (a_r_rows, .inl (c_r_rows, r_len, .inl r_rows)), (a_h, .inr (7, [.ref a_h_t, .ref a_h_rl, .ref a_h_cl, .int r1.1, .int r1.2.1, .long r5.1])), (a_h_t, .inl (c_h_t, 11, .inr (.inr (.inr (.inr (fun i => if i < 11 then some (a_h_g i) else none)))))), (a_h_rl, .inl (c_h_rl, 10, .inl r5.2.1)), (a_h_cl, .inl (c_h_cl, 16, .inl r5.2.2.1))] ++ gR a_h_g c_h_g r5.2.2.2)) (va_runV (As := [.int r4, .int r3]) (rest := []) ⟨hx, hb, hml, hown, hts⟩ (c_X7_pivot l dC dI a_h a_h_t a_h_rl a_h_cl a_h_g c_h_t c_h_rl c_h_cl c_h_g H.size r1.1 r1.2.1 s8.2.1 s8.2.2.1 s8.2.2.2.1 s8.2.2.2.2 r4 r3 r5 hr5) (cwV 2 hts gX7_solve_X7_pivot rfl rfl rfl (by decide +kernel) ⟨Nat.le_of_ble_eq_true rfl, Nat.le_of_ble_eq_true rfl⟩) (kp_V hK hP hD hS hA hN (isC := [3, 4, 5, 6] ++ List.range' 7 11) (isT := [2, 3, 4, 5]) (wc := ([(a_h, .inr (7, [.ref a_h_t, .ref a_h_rl, .ref a_h_cl, .int r1.1, .int r1.2.1, .long s8.2.1])), (a_h_t, .inl (c_h_t, 11, .inr (.inr (.inr (.inr (fun i => if i < 11 then some (a_h_g i) else none)))))), (a_h_rl, .inl (c_h_rl, 10, .inl s8.2.2.1)), (a_h_cl, .inl (c_h_cl, 16, .inl s8.2.2.2.1))] ++ gR a_h_g c_h_g s8.2.2.2.2)) (gC_ rfl rfl) (by decide +kernel) rfl (ci := 7) (q0 := 0) rfl rfl) rfl rfl hl.1 rfl (lv_room (Nat.le_of_ble_eq_true rfl)) dX7_solve_45 ⟨Nat.le_of_ble_eq_true rfl, Nat.le_of_ble_eq_true rfl⟩) hP hD hS hA (gC_ rfl rfl) rfl (by decide +kernel) (by decide +kernel) (gP_ rfl rfl) (by decide +kernel) (fun H locs hP hD hS => ?_)
            refine lv_iinc (v := s8.1 + 1) (lv' := [(3, .int (s8.1 + 1)), (5, .int r4), (4, .int r3), (0, .ref a_h)]) hx hb dX7_solve_48 hl (k := 3) rfl (by rfl) (by decide) rfl (fun ls hl => ?_)
            refine lv_goto (tgt := 8) hx hb dX7_solve_51 (by decide) ?_
            replace hs := Option.some.inj hs
            subst hs
            exact hZw (ih (s8.1 + 1, r5.1, r5.2.1, r5.2.2.1, r5.2.2.2) H locs ls hn hP hD hS (lv_sub hl [3, 0] rfl))
          · replace hs := it_f hc hs
            replace hs := Option.some.inj hs
            subst hs
            obtain rfl : (Sum.inr (Sum.inl (s8.2.1, s8.2.2.1, s8.2.2.2.1, s8.2.2.2.2))) = e8 := hn
            exact hZw (hX8_1 (s8.2.1, s8.2.2.1, s8.2.2.2.1, s8.2.2.2.2) rfl H locs ls hP hD hS (lv_sub hl [] rfl))
        · replace hs := it_f hc hs
          replace hs := Option.some.inj hs
          subst hs
          obtain rfl : (Sum.inl (s8.2.1, s8.2.2.1, s8.2.2.2.1, s8.2.2.2.2)) = e8 := hn
          exact hZw (hX8_0 (s8.2.1, s8.2.2.1, s8.2.2.2.1, s8.2.2.2.2) rfl H locs ls hP hD hS (lv_sub hl [] rfl))
  obtain ⟨n8, hn8⟩ := lp_ex he8
  exact hZw (hL8 n8 (0, r1.2.2.1, r1.2.2.2.1, r1.2.2.2.2.1, r1.2.2.2.2.2) H locs ls hn8 hP hD hS (lv_sub hl [1, 0] rfl))
noncomputable def pX9_shares (r_len : Nat) (x_costs : Nat → Int32) (r_size : Int32) (r_n : Int32) (r_rows : Nat → Int32) (q_above : Int64) (q_below : Int64) (h_rows : Int32) (h_columns : Int32) (h_divisor : Int64) (h_rl : Nat → Int32) (h_cl : Nat → Int32) (h_g : Nat → Nat → Int64) : Option (Int32 × Int64 × Int64 × Int32 × Int32 × Int64 × (Nat → Int32) × (Nat → Int32) × (Nat → Nat → Int64)) :=
  Option.bind (pX7_solve r_len x_costs r_size r_n r_rows h_rows h_columns h_divisor h_rl h_cl h_g) (fun r1 => Option.bind (pX7_above r1.1 r1.2.1 r1.2.2.2.2.2) (fun r2 => Option.bind (pX7_below r1.2.2.1) (fun r3 => Option.bind (pX4_become q_above q_below r2 r3) (fun r4 => some (1, r4.1, r4.2, r1.1, r1.2.1, r1.2.2.1, r1.2.2.2.1, r1.2.2.2.2.1, r1.2.2.2.2.2)))))
set_option maxHeartbeats 4000000 in
set_option maxRecDepth 100000 in
theorem c_X9_shares (l : Launch) (dC : Nat → ClassId) (dI : Nat → Nat → Nat) (a_x : Nat) (a_x_costs : Nat) (a_r : Nat) (a_r_rows : Nat) (a_r_ins : Nat) (a_u : Nat) (a_q : Nat) (a_h : Nat) (a_h_t : Nat) (a_h_rl : Nat) (a_h_cl : Nat) (a_f : Nat) (a_w : Nat) (a_o : Nat) (a_z : Nat) (a_g : Nat) (a_k : Nat) (a_h_g : Nat → Nat) (c_x_costs c_r_rows c_h_t c_h_rl c_h_cl c_h_g : ClassId) (r_len : Nat) (sz : Nat) (x_costs : Nat → Int32) (r_size : Int32) (r_n : Int32) (r_parts : Int32) (r_rows : Nat → Int32) (q_above : Int64) (q_below : Int64) (h_rows : Int32) (h_columns : Int32) (h_divisor : Int64) (h_rl : Nat → Int32) (h_cl : Nat → Int32) (h_g : Nat → Nat → Int64) (rv : Int32 × Int64 × Int64 × Int32 × Int32 × Int64 × (Nat → Int32) × (Nat → Int32) × (Nat → Nat → Int64)) (hs : pX9_shares r_len x_costs r_size r_n r_rows q_above q_below h_rows h_columns h_divisor h_rl h_cl h_g = some rv) : Met l yX9_shares wsX9_shares ({ frames := 3, cells := 0, slots := 0, locals := 78 }) (sPc [.ref a_x] (dC, dI) [(c_x_costs, .int), (c_r_rows, .int), (c_h_t, .array .long), (c_h_rl, .int), (c_h_cl, .int), (c_h_g, .long)] ([(a_x, .inr (9, [.ref a_x_costs, .ref a_r, .ref a_u, .ref a_q, .ref a_h, .ref a_f, .ref a_w, .ref a_o, .ref a_z, .ref a_g, .ref a_k])), (a_x_costs, .inl (c_x_costs, 10, .inl x_costs)), (a_r, .inr (6, [.ref a_r_rows, .ref a_r_ins, .int r_size, .int r_n, .int r_parts])), (a_r_rows, .inl (c_r_rows, r_len, .inl r_rows)), (a_q, .inr (4, [.long q_above, .long q_below])), (a_h, .inr (7, [.ref a_h_t, .ref a_h_rl, .ref a_h_cl, .int h_rows, .int h_columns, .long h_divisor])), (a_h_t, .inl (c_h_t, 11, .inr (.inr (.inr (.inr (fun i => if i < 11 then some (a_h_g i) else none)))))), (a_h_rl, .inl (c_h_rl, 10, .inl h_rl)), (a_h_cl, .inl (c_h_cl, 16, .inl h_cl))] ++ gR a_h_g c_h_g h_g) sz) (va_Qi (fun (r : Int32) (_ : Unit) => r = rv.1) (sB (dC, dI) [(c_x_costs, .int), (c_r_rows, .int), (c_h_t, .array .long), (c_h_rl, .int), (c_h_cl, .int), (c_h_g, .long)] (va_A ([(a_x, .inr (9, [.ref a_x_costs, .ref a_r, .ref a_u, .ref a_q, .ref a_h, .ref a_f, .ref a_w, .ref a_o, .ref a_z, .ref a_g, .ref a_k])), (a_x_costs, .inl (c_x_costs, 10, .inl x_costs)), (a_r, .inr (6, [.ref a_r_rows, .ref a_r_ins, .int r_size, .int r_n, .int r_parts])), (a_r_rows, .inl (c_r_rows, r_len, .inl r_rows)), (a_q, .inr (4, [.long q_above, .long q_below])), (a_h, .inr (7, [.ref a_h_t, .ref a_h_rl, .ref a_h_cl, .int h_rows, .int h_columns, .long h_divisor])), (a_h_t, .inl (c_h_t, 11, .inr (.inr (.inr (.inr (fun i => if i < 11 then some (a_h_g i) else none)))))), (a_h_rl, .inl (c_h_rl, 10, .inl h_rl)), (a_h_cl, .inl (c_h_cl, 16, .inl h_cl))] ++ gR a_h_g c_h_g h_g) sz) ([(a_x, .inr (9, [.ref a_x_costs, .ref a_r, .ref a_u, .ref a_q, .ref a_h, .ref a_f, .ref a_w, .ref a_o, .ref a_z, .ref a_g, .ref a_k])), (a_x_costs, .inl (c_x_costs, 10, .inl x_costs)), (a_r, .inr (6, [.ref a_r_rows, .ref a_r_ins, .int r_size, .int r_n, .int r_parts])), (a_r_rows, .inl (c_r_rows, r_len, .inl r_rows)), (a_q, .inr (4, [.long rv.2.1, .long rv.2.2.1])), (a_h, .inr (7, [.ref a_h_t, .ref a_h_rl, .ref a_h_cl, .int rv.2.2.2.1, .int rv.2.2.2.2.1, .long rv.2.2.2.2.2.1])), (a_h_t, .inl (c_h_t, 11, .inr (.inr (.inr (.inr (fun i => if i < 11 then some (a_h_g i) else none)))))), (a_h_rl, .inl (c_h_rl, 10, .inl rv.2.2.2.2.2.2.1)), (a_h_cl, .inl (c_h_cl, 16, .inl rv.2.2.2.2.2.2.2.1))] ++ gR a_h_g c_h_g rv.2.2.2.2.2.2.2.2)) (va_A ([(a_x, .inr (9, [.ref a_x_costs, .ref a_r, .ref a_u, .ref a_q, .ref a_h, .ref a_f, .ref a_w, .ref a_o, .ref a_z, .ref a_g, .ref a_k])), (a_x_costs, .inl (c_x_costs, 10, .inl x_costs)), (a_r, .inr (6, [.ref a_r_rows, .ref a_r_ins, .int r_size, .int r_n, .int r_parts])), (a_r_rows, .inl (c_r_rows, r_len, .inl r_rows)), (a_q, .inr (4, [.long q_above, .long q_below])), (a_h, .inr (7, [.ref a_h_t, .ref a_h_rl, .ref a_h_cl, .int h_rows, .int h_columns, .long h_divisor])), (a_h_t, .inl (c_h_t, 11, .inr (.inr (.inr (.inr (fun i => if i < 11 then some (a_h_g i) else none)))))), (a_h_rl, .inl (c_h_rl, 10, .inl h_rl)), (a_h_cl, .inl (c_h_cl, 16, .inl h_cl))] ++ gR a_h_g c_h_g h_g) sz)) 0 0 (va_A ([(a_x, .inr (9, [.ref a_x_costs, .ref a_r, .ref a_u, .ref a_q, .ref a_h, .ref a_f, .ref a_w, .ref a_o, .ref a_z, .ref a_g, .ref a_k])), (a_x_costs, .inl (c_x_costs, 10, .inl x_costs)), (a_r, .inr (6, [.ref a_r_rows, .ref a_r_ins, .int r_size, .int r_n, .int r_parts])), (a_r_rows, .inl (c_r_rows, r_len, .inl r_rows)), (a_q, .inr (4, [.long q_above, .long q_below])), (a_h, .inr (7, [.ref a_h_t, .ref a_h_rl, .ref a_h_cl, .int h_rows, .int h_columns, .long h_divisor])), (a_h_t, .inl (c_h_t, 11, .inr (.inr (.inr (.inr (fun i => if i < 11 then some (a_h_g i) else none)))))), (a_h_rl, .inl (c_h_rl, 10, .inl h_rl)), (a_h_cl, .inl (c_h_cl, 16, .inl h_cl))] ++ gR a_h_g c_h_g h_g) sz) := by
  refine Met.ofW (cc := cX9_shares) (maxL := 1) (ret := (some .int)) (by decide) rfl ?_
  intro p e s m args below meth c s₁ B hml hv
  obtain ⟨rfl, hsz, hP, hK, hD0, hN⟩ := hv
  have hx := B.exec
  have hb := B.bytes
  have hr := B.returns
  have hts := atoms_spec (ws := wsX9_shares) B.pre
  have hown : s.vm.findClass RX9 = some m.cls := findClass_of_methodNamed B.named
  have hlocks := B.notSynchronized
  subst hsz
  have hD := hD0.self (sz := s.heap.size)
  generalize hAe : va_A ([(a_x, .inr (9, [.ref a_x_costs, .ref a_r, .ref a_u, .ref a_q, .ref a_h, .ref a_f, .ref a_w, .ref a_o, .ref a_z, .ref a_g, .ref a_k])), (a_x_costs, .inl (c_x_costs, 10, .inl x_costs)), (a_r, .inr (6, [.ref a_r_rows, .ref a_r_ins, .int r_size, .int r_n, .int r_parts])), (a_r_rows, .inl (c_r_rows, r_len, .inl r_rows)), (a_q, .inr (4, [.long q_above, .long q_below])), (a_h, .inr (7, [.ref a_h_t, .ref a_h_rl, .ref a_h_cl, .int h_rows, .int h_columns, .long h_divisor])), (a_h_t, .inl (c_h_t, 11, .inr (.inr (.inr (.inr (fun i => if i < 11 then some (a_h_g i) else none)))))), (a_h_rl, .inl (c_h_rl, 10, .inl h_rl)), (a_h_cl, .inl (c_h_cl, 16, .inl h_cl))] ++ gR a_h_g c_h_g h_g) s.heap.size = A at hD hN ⊢
  have hA : ∀ q : Nat, s.heap.size ≤ q → A q := fun q h => by rw [← hAe]; exact Or.inr h
  have hS : va_S A s.heap s.heap [] := va_S.rf
  have hP : va_P (dC, dI) vwCl ([(a_x, .inr (9, [.ref a_x_costs, .ref a_r, .ref a_u, .ref a_q, .ref a_h, .ref a_f, .ref a_w, .ref a_o, .ref a_z, .ref a_g, .ref a_k])), (a_x_costs, .inl (c_x_costs, 10, .inl x_costs)), (a_r, .inr (6, [.ref a_r_rows, .ref a_r_ins, .int r_size, .int r_n, .int r_parts])), (a_r_rows, .inl (c_r_rows, r_len, .inl r_rows)), (a_q, .inr (4, [.long q_above, .long q_below])), (a_h, .inr (7, [.ref a_h_t, .ref a_h_rl, .ref a_h_cl, .int h_rows, .int h_columns, .long h_divisor])), (a_h_t, .inl (c_h_t, 11, .inr (.inr (.inr (.inr (fun i => if i < 11 then some (a_h_g i) else none)))))), (a_h_rl, .inl (c_h_rl, 10, .inl h_rl)), (a_h_cl, .inl (c_h_cl, 16, .inl h_cl))] ++ gR a_h_g c_h_g h_g) s.heap := hP
  have hl := lv_entry ([.ref a_x]) (n := 1) (Nat.le_of_ble_eq_true rfl)
  rw [lg_entry_eq]
  generalize (lg_sl ([.ref a_x]) ++ List.replicate (1 - (lg_sl ([.ref a_x])).length) Slot.unset).toArray = ls at hl ⊢
  have hl : lv_has ls 1 [(0, .ref a_x)] := hl
  have hiX9 : ∀ w ∈ wsX90, w ∈ wsX9_shares := fun _ h => List.mem_cons_of_mem _ (List.mem_append_left _ (List.mem_append_left _ (List.mem_append_left _ (List.mem_append_right _ h))))
  have hf40 := hts (.fieldLink RX9 40 "MeetSets" "sharing" "LMeetSets$Shares;") (t1_ (al_ (al_ (al_ (al_ (al_ h1_))))))
  have hf23 := hts (.fieldLink RX9 23 "MeetSets" "list" "LMeetSets$SetRow;") (t1_ (al_ (al_ (al_ (al_ (al_ (t1_ h1_)))))))
  have hf9 := hts (.fieldLink RX9 9 "MeetSets" "costs" "[I") (t1_ (al_ (al_ (al_ (al_ (al_ (t1_ (t1_ h1_))))))))
  have hf33 := hts (.fieldLink RX9 33 "MeetSets" "fraction" "LMeetSets$Fraction;") (t1_ (al_ (al_ (al_ (al_ (al_ (t1_ (t1_ (t1_ h1_)))))))))
  refine w_abs (fun Z hZv hZw => ?_)
  refine hZv ?_
  obtain ⟨H, hH⟩ : ∃ H, H = s.heap := ⟨_, rfl⟩
  obtain ⟨locs, hlo⟩ : ∃ L : List Loc, L = [] := ⟨_, rfl⟩
  rw [← hlo, ← hH]
  have hS : va_S A s.heap H locs := by rw [hlo, hH]; exact hS
  have hP : va_P (dC, dI) vwCl ([(a_x, .inr (9, [.ref a_x_costs, .ref a_r, .ref a_u, .ref a_q, .ref a_h, .ref a_f, .ref a_w, .ref a_o, .ref a_z, .ref a_g, .ref a_k])), (a_x_costs, .inl (c_x_costs, 10, .inl x_costs)), (a_r, .inr (6, [.ref a_r_rows, .ref a_r_ins, .int r_size, .int r_n, .int r_parts])), (a_r_rows, .inl (c_r_rows, r_len, .inl r_rows)), (a_q, .inr (4, [.long q_above, .long q_below])), (a_h, .inr (7, [.ref a_h_t, .ref a_h_rl, .ref a_h_cl, .int h_rows, .int h_columns, .long h_divisor])), (a_h_t, .inl (c_h_t, 11, .inr (.inr (.inr (.inr (fun i => if i < 11 then some (a_h_g i) else none)))))), (a_h_rl, .inl (c_h_rl, 10, .inl h_rl)), (a_h_cl, .inl (c_h_cl, 16, .inl h_cl))] ++ gR a_h_g c_h_g h_g) H := by rw [hH]; exact hP
  clear hH hlo
  unfold pX9_shares at hs
  refine lv_aload_n hx hb dX9_shares_0 rfl (lv_at hl 0 rfl) ?_
  refine va_get (D := (dC, dI)) (ci := 9) (v := .ref a_h) (C := RX9) (T := TX9) (N := 11) hx hb hts hiX9 hown hK hP 0 rfl rfl 4 (by decide) hf40 (fun _ h9 => h9) rfl dX9_shares_1 ?_
  refine lv_aload_n hx hb dX9_shares_4 rfl (lv_at hl 0 rfl) ?_
  refine va_get (D := (dC, dI)) (ci := 9) (v := .ref a_r) (C := RX9) (T := TX9) (N := 11) hx hb hts hiX9 hown hK hP 0 rfl rfl 1 (by decide) hf23 (fun _ h9 => h9) rfl dX9_shares_5 ?_
  refine lv_aload_n hx hb dX9_shares_8 rfl (lv_at hl 0 rfl) ?_
  refine va_get (D := (dC, dI)) (ci := 9) (v := .ref a_x_costs) (C := RX9) (T := TX9) (N := 11) hx hb hts hiX9 hown hK hP 0 rfl rfl 0 (by decide) hf9 (fun _ h9 => h9) rfl dX9_shares_9 ?_
  obtain ⟨r1, hr1, hs⟩ := bd_s hs
  refine kc_v (isC := [1, 2, 3, 5, 6, 7, 8] ++ List.range' 9 11) (isR := [0, 4]) (pm := [0, 2, 3, 4, 1, 5, 6, 7, 8] ++ List.range' 9 11) (wr := [(a_x, .inr (9, [.ref a_x_costs, .ref a_r, .ref a_u, .ref a_q, .ref a_h, .ref a_f, .ref a_w, .ref a_o, .ref a_z, .ref a_g, .ref a_k])), (a_q, .inr (4, [.long q_above, .long q_below]))]) (w1 := ([(a_x_costs, .inl (c_x_costs, 10, .inl x_costs)), (a_r, .inr (6, [.ref a_r_rows, .ref a_r_ins, .int r_size, .int r_n, .int r_parts])), (a_r_rows, .inl (c_r_rows, r_len, .inl r_rows)), (a_h, .inr (7, [.ref a_h_t, .ref a_h_rl, .ref a_h_cl, .int r1.1, .int r1.2.1, .long r1.2.2.1])), (a_h_t, .inl (c_h_t, 11, .inr (.inr (.inr (.inr (fun i => if i < 11 then some (a_h_g i) else none)))))), (a_h_rl, .inl (c_h_rl, 10, .inl r1.2.2.2.1)), (a_h_cl, .inl (c_h_cl, 16, .inl r1.2.2.2.2.1))] ++ gR a_h_g c_h_g r1.2.2.2.2.2)) (w2 := ([(a_x, .inr (9, [.ref a_x_costs, .ref a_r, .ref a_u, .ref a_q, .ref a_h, .ref a_f, .ref a_w, .ref a_o, .ref a_z, .ref a_g, .ref a_k])), (a_x_costs, .inl (c_x_costs, 10, .inl x_costs)), (a_r, .inr (6, [.ref a_r_rows, .ref a_r_ins, .int r_size, .int r_n, .int r_parts])), (a_r_rows, .inl (c_r_rows, r_len, .inl r_rows)), (a_q, .inr (4, [.long q_above, .long q_below])), (a_h, .inr (7, [.ref a_h_t, .ref a_h_rl, .ref a_h_cl, .int r1.1, .int r1.2.1, .long r1.2.2.1])), (a_h_t, .inl (c_h_t, 11, .inr (.inr (.inr (.inr (fun i => if i < 11 then some (a_h_g i) else none)))))), (a_h_rl, .inl (c_h_rl, 10, .inl r1.2.2.2.1)), (a_h_cl, .inl (c_h_cl, 16, .inl r1.2.2.2.2.1))] ++ gR a_h_g c_h_g r1.2.2.2.2.2)) (va_runV (As := [.ref a_r, .ref a_x_costs]) (rest := []) ⟨hx, hb, hml, hown, hts⟩ (c_X7_solve l dC dI a_x_costs a_r a_r_rows a_r_ins a_h a_h_t a_h_rl a_h_cl a_h_g c_x_costs c_r_rows c_h_t c_h_rl c_h_cl c_h_g r_len H.size x_costs r_size r_n r_parts r_rows h_rows h_columns h_divisor h_rl h_cl h_g r1 hr1) (cwV 2 hts gX9_shares_X7_solve rfl rfl rfl (by decide +kernel) ⟨Nat.le_of_ble_eq_true rfl, Nat.le_of_ble_eq_true rfl⟩) (kp_V hK hP hD hS hA hN (isC := [1, 2, 3, 5, 6, 7, 8] ++ List.range' 9 11) (isT := [0, 1, 2, 3, 4, 5]) (wc := ([(a_x_costs, .inl (c_x_costs, 10, .inl x_costs)), (a_r, .inr (6, [.ref a_r_rows, .ref a_r_ins, .int r_size, .int r_n, .int r_parts])), (a_r_rows, .inl (c_r_rows, r_len, .inl r_rows)), (a_h, .inr (7, [.ref a_h_t, .ref a_h_rl, .ref a_h_cl, .int h_rows, .int h_columns, .long h_divisor])), (a_h_t, .inl (c_h_t, 11, .inr (.inr (.inr (.inr (fun i => if i < 11 then some (a_h_g i) else none)))))), (a_h_rl, .inl (c_h_rl, 10, .inl h_rl)), (a_h_cl, .inl (c_h_cl, 16, .inl h_cl))] ++ gR a_h_g c_h_g h_g)) (gC_ rfl rfl) (by decide +kernel) rfl (ci := 7) (q0 := 3) rfl rfl) rfl rfl hl.1 rfl (lv_room (Nat.le_of_ble_eq_true rfl)) dX9_shares_12 ⟨Nat.le_of_ble_eq_true rfl, Nat.le_of_ble_eq_true rfl⟩) hP hD hS hA (gC_ rfl rfl) rfl (by decide +kernel) (by decide +kernel) (gP_ rfl rfl) (by decide +kernel) (fun H locs hP hD hS => ?_)
  refine lv_aload_n hx hb dX9_shares_15 rfl (lv_at hl 0 rfl) ?_
  refine va_get (D := (dC, dI)) (ci := 9) (v := .ref a_q) (C := RX9) (T := TX9) (N := 11) hx hb hts hiX9 hown hK hP 0 rfl rfl 3 (by decide) hf33 (fun _ h9 => h9) rfl dX9_shares_16 ?_
  refine lv_aload_n hx hb dX9_shares_19 rfl (lv_at hl 0 rfl) ?_
  refine va_get (D := (dC, dI)) (ci := 9) (v := .ref a_h) (C := RX9) (T := TX9) (N := 11) hx hb hts hiX9 hown hK hP 0 rfl rfl 4 (by decide) hf40 (fun _ h9 => h9) rfl dX9_shares_20 ?_
  obtain ⟨r2, hr2, hs⟩ := bd_s hs
  refine kc_l (isC := [5, 6] ++ List.range' 9 11) (isR := [0, 1, 2, 3, 4, 7, 8]) (pm := [0, 1, 2, 3, 4, 7, 8, 5, 6] ++ List.range' 9 11) (wr := [(a_x, .inr (9, [.ref a_x_costs, .ref a_r, .ref a_u, .ref a_q, .ref a_h, .ref a_f, .ref a_w, .ref a_o, .ref a_z, .ref a_g, .ref a_k])), (a_x_costs, .inl (c_x_costs, 10, .inl x_costs)), (a_r, .inr (6, [.ref a_r_rows, .ref a_r_ins, .int r_size, .int r_n, .int r_parts])), (a_r_rows, .inl (c_r_rows, r_len, .inl r_rows)), (a_q, .inr (4, [.long q_above, .long q_below])), (a_h_rl, .inl (c_h_rl, 10, .inl r1.2.2.2.1)), (a_h_cl, .inl (c_h_cl, 16, .inl r1.2.2.2.2.1))]) (w1 := ([(a_h, .inr (7, [.ref a_h_t, .ref a_h_rl, .ref a_h_cl, .int r1.1, .int r1.2.1, .long r1.2.2.1])), (a_h_t, .inl (c_h_t, 11, .inr (.inr (.inr (.inr (fun i => if i < 11 then some (a_h_g i) else none))))))] ++ gR a_h_g c_h_g r1.2.2.2.2.2)) (w2 := ([(a_x, .inr (9, [.ref a_x_costs, .ref a_r, .ref a_u, .ref a_q, .ref a_h, .ref a_f, .ref a_w, .ref a_o, .ref a_z, .ref a_g, .ref a_k])), (a_x_costs, .inl (c_x_costs, 10, .inl x_costs)), (a_r, .inr (6, [.ref a_r_rows, .ref a_r_ins, .int r_size, .int r_n, .int r_parts])), (a_r_rows, .inl (c_r_rows, r_len, .inl r_rows)), (a_q, .inr (4, [.long q_above, .long q_below])), (a_h, .inr (7, [.ref a_h_t, .ref a_h_rl, .ref a_h_cl, .int r1.1, .int r1.2.1, .long r1.2.2.1])), (a_h_t, .inl (c_h_t, 11, .inr (.inr (.inr (.inr (fun i => if i < 11 then some (a_h_g i) else none)))))), (a_h_rl, .inl (c_h_rl, 10, .inl r1.2.2.2.1)), (a_h_cl, .inl (c_h_cl, 16, .inl r1.2.2.2.2.1))] ++ gR a_h_g c_h_g r1.2.2.2.2.2)) (va_runV (As := []) (rest := [.ref a_q]) ⟨hx, hb, hml, hown, hts⟩ (c_X7_above l dC dI a_h a_h_t a_h_rl a_h_cl a_h_g c_h_t c_h_g H.size r1.1 r1.2.1 r1.2.2.1 r1.2.2.2.2.2 r2 hr2) (cwV 0 hts gX9_shares_X7_above rfl rfl rfl (by decide +kernel) ⟨Nat.le_of_ble_eq_true rfl, Nat.le_of_ble_eq_true rfl⟩) (kp_V hK hP hD hS hA hN (isC := [5, 6] ++ List.range' 9 11) (isT := [2, 5]) (wc := ([(a_h, .inr (7, [.ref a_h_t, .ref a_h_rl, .ref a_h_cl, .int r1.1, .int r1.2.1, .long r1.2.2.1])), (a_h_t, .inl (c_h_t, 11, .inr (.inr (.inr (.inr (fun i => if i < 11 then some (a_h_g i) else none))))))] ++ gR a_h_g c_h_g r1.2.2.2.2.2)) (gC_ rfl rfl) (by decide +kernel) rfl (ci := 7) (q0 := 0) rfl rfl) rfl rfl hl.1 rfl (lv_room (Nat.le_of_ble_eq_true rfl)) dX9_shares_23 ⟨Nat.le_of_ble_eq_true rfl, Nat.le_of_ble_eq_true rfl⟩) hP hD hS hA (gC_ rfl rfl) rfl (by decide +kernel) (by decide +kernel) (gP_ rfl rfl) (by decide +kernel) (fun H locs hP hD hS => ?_)
  refine lv_aload_n hx hb dX9_shares_26 rfl (lv_at hl 0 rfl) ?_
  refine va_get (D := (dC, dI)) (ci := 9) (v := .ref a_h) (C := RX9) (T := TX9) (N := 11) hx hb hts hiX9 hown hK hP 0 rfl rfl 4 (by decide) hf40 (fun _ h9 => h9) rfl dX9_shares_27 ?_
  obtain ⟨r3, hr3, hs⟩ := bd_s hs
  refine kc_l (isC := [5]) (isR := [0, 1, 2, 3, 4, 6, 7, 8] ++ List.range' 9 11) (pm := [0, 1, 2, 3, 4, 19, 5, 6, 7] ++ List.range' 8 11) (wr := ([(a_x, .inr (9, [.ref a_x_costs, .ref a_r, .ref a_u, .ref a_q, .ref a_h, .ref a_f, .ref a_w, .ref a_o, .ref a_z, .ref a_g, .ref a_k])), (a_x_costs, .inl (c_x_costs, 10, .inl x_costs)), (a_r, .inr (6, [.ref a_r_rows, .ref a_r_ins, .int r_size, .int r_n, .int r_parts])), (a_r_rows, .inl (c_r_rows, r_len, .inl r_rows)), (a_q, .inr (4, [.long q_above, .long q_below])), (a_h_t, .inl (c_h_t, 11, .inr (.inr (.inr (.inr (fun i => if i < 11 then some (a_h_g i) else none)))))), (a_h_rl, .inl (c_h_rl, 10, .inl r1.2.2.2.1)), (a_h_cl, .inl (c_h_cl, 16, .inl r1.2.2.2.2.1))] ++ gR a_h_g c_h_g r1.2.2.2.2.2)) (w1 := [(a_h, .inr (7, [.ref a_h_t, .ref a_h_rl, .ref a_h_cl, .int r1.1, .int r1.2.1, .long r1.2.2.1]))]) (w2 := ([(a_x, .inr (9, [.ref a_x_costs, .ref a_r, .ref a_u, .ref a_q, .ref a_h, .ref a_f, .ref a_w, .ref a_o, .ref a_z, .ref a_g, .ref a_k])), (a_x_costs, .inl (c_x_costs, 10, .inl x_costs)), (a_r, .inr (6, [.ref a_r_rows, .ref a_r_ins, .int r_size, .int r_n, .int r_parts])), (a_r_rows, .inl (c_r_rows, r_len, .inl r_rows)), (a_q, .inr (4, [.long q_above, .long q_below])), (a_h, .inr (7, [.ref a_h_t, .ref a_h_rl, .ref a_h_cl, .int r1.1, .int r1.2.1, .long r1.2.2.1])), (a_h_t, .inl (c_h_t, 11, .inr (.inr (.inr (.inr (fun i => if i < 11 then some (a_h_g i) else none)))))), (a_h_rl, .inl (c_h_rl, 10, .inl r1.2.2.2.1)), (a_h_cl, .inl (c_h_cl, 16, .inl r1.2.2.2.2.1))] ++ gR a_h_g c_h_g r1.2.2.2.2.2)) (va_runV (As := []) (rest := [.long r2, .ref a_q]) ⟨hx, hb, hml, hown, hts⟩ (c_X7_below l dC dI a_h a_h_t a_h_rl a_h_cl H.size r1.1 r1.2.1 r1.2.2.1 r3 hr3) (cwV 0 hts gX9_shares_X7_below rfl rfl rfl (by decide +kernel) ⟨Nat.le_of_ble_eq_true rfl, Nat.le_of_ble_eq_true rfl⟩) (kp_V hK hP hD hS hA hN (isC := [5]) (isT := []) (wc := [(a_h, .inr (7, [.ref a_h_t, .ref a_h_rl, .ref a_h_cl, .int r1.1, .int r1.2.1, .long r1.2.2.1]))]) rfl (by decide +kernel) rfl (ci := 7) (q0 := 0) rfl rfl) rfl rfl hl.1 rfl (lv_room (Nat.le_of_ble_eq_true rfl)) dX9_shares_30 ⟨Nat.le_of_ble_eq_true rfl, Nat.le_of_ble_eq_true rfl⟩) hP hD hS hA rfl (gC_ rfl rfl) (by decide +kernel) (by decide +kernel) (gQ_ rfl rfl) (by decide +kernel) (fun H locs hP hD hS => ?_)
  obtain ⟨r4, hr4, hs⟩ := bd_s hs
  refine kc_v (isC := [4]) (isR := [0, 1, 2, 3, 5, 6, 7, 8] ++ List.range' 9 11) (pm := [0, 1, 2, 3, 19, 4, 5, 6, 7] ++ List.range' 8 11) (wr := ([(a_x, .inr (9, [.ref a_x_costs, .ref a_r, .ref a_u, .ref a_q, .ref a_h, .ref a_f, .ref a_w, .ref a_o, .ref a_z, .ref a_g, .ref a_k])), (a_x_costs, .inl (c_x_costs, 10, .inl x_costs)), (a_r, .inr (6, [.ref a_r_rows, .ref a_r_ins, .int r_size, .int r_n, .int r_parts])), (a_r_rows, .inl (c_r_rows, r_len, .inl r_rows)), (a_h, .inr (7, [.ref a_h_t, .ref a_h_rl, .ref a_h_cl, .int r1.1, .int r1.2.1, .long r1.2.2.1])), (a_h_t, .inl (c_h_t, 11, .inr (.inr (.inr (.inr (fun i => if i < 11 then some (a_h_g i) else none)))))), (a_h_rl, .inl (c_h_rl, 10, .inl r1.2.2.2.1)), (a_h_cl, .inl (c_h_cl, 16, .inl r1.2.2.2.2.1))] ++ gR a_h_g c_h_g r1.2.2.2.2.2)) (w1 := [(a_q, .inr (4, [.long r4.1, .long r4.2]))]) (w2 := ([(a_x, .inr (9, [.ref a_x_costs, .ref a_r, .ref a_u, .ref a_q, .ref a_h, .ref a_f, .ref a_w, .ref a_o, .ref a_z, .ref a_g, .ref a_k])), (a_x_costs, .inl (c_x_costs, 10, .inl x_costs)), (a_r, .inr (6, [.ref a_r_rows, .ref a_r_ins, .int r_size, .int r_n, .int r_parts])), (a_r_rows, .inl (c_r_rows, r_len, .inl r_rows)), (a_q, .inr (4, [.long r4.1, .long r4.2])), (a_h, .inr (7, [.ref a_h_t, .ref a_h_rl, .ref a_h_cl, .int r1.1, .int r1.2.1, .long r1.2.2.1])), (a_h_t, .inl (c_h_t, 11, .inr (.inr (.inr (.inr (fun i => if i < 11 then some (a_h_g i) else none)))))), (a_h_rl, .inl (c_h_rl, 10, .inl r1.2.2.2.1)), (a_h_cl, .inl (c_h_cl, 16, .inl r1.2.2.2.2.1))] ++ gR a_h_g c_h_g r1.2.2.2.2.2)) (va_runV (As := [.long r2, .long r3]) (rest := []) ⟨hx, hb, hml, hown, hts⟩ (c_X4_become l dC dI a_q H.size q_above q_below r2 r3 r4 hr4) (cwV 2 hts gX9_shares_X4_become rfl rfl rfl (by decide +kernel) ⟨Nat.le_of_ble_eq_true rfl, Nat.le_of_ble_eq_true rfl⟩) (kp_V hK hP hD hS hA hN (isC := [4]) (isT := []) (wc := [(a_q, .inr (4, [.long q_above, .long q_below]))]) rfl (by decide +kernel) rfl (ci := 4) (q0 := 0) rfl rfl) rfl rfl hl.1 rfl (lv_room (Nat.le_of_ble_eq_true rfl)) dX9_shares_33 ⟨Nat.le_of_ble_eq_true rfl, Nat.le_of_ble_eq_true rfl⟩) hP hD hS hA rfl (gC_ rfl rfl) (by decide +kernel) (by decide +kernel) (gQ_ rfl rfl) (by decide +kernel) (fun H locs hP hD hS => ?_)
  refine lv_iconst (v := 1) hx hb dX9_shares_36 (by decide) ?_
  replace hs := Option.some.inj hs
  subst hs
  exact W.iret (v := 1) hx hb hr (fun t ht hW => ⟨⟨1, (), rfl, rfl, by rw [ht]; exact hP, va_K.moved hW.alike hK, hD⟩, hS.F ht⟩) hS.2.2 dX9_shares_37
