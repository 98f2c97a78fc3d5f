noncomputable def pX10_lays_L2 (s2 : Int32 × (Nat → Int64)) : Option ((Int32 × (Nat → Int64)) ⊕ (Nat → Int64)) :=
  if 297 ≤ s2.1 then (some (Sum.inr s2.2)) else (gd (vp_in s2.1 297) (some (Sum.inl (s2.1 + 1, vp_updL s2.2 s2.1.toNatClampNeg 0))))
noncomputable def pX10_lays_L39_4 (y_sets : Int32) (y_list : Nat → Int32) (s29 : Int32 × (Nat → Int64) × (Nat → Int32)) (s39 : Int32 × (Nat → Int64)) : Option ((Int32 × (Nat → Int64)) ⊕ (Nat → Int64)) :=
  if y_sets ≤ s39.1 then (some (Sum.inr s39.2)) else (gd (vp_in s39.1 16) (gd (vp_in ((27 * s29.1) + s39.1) 297) (some (Sum.inl (s39.1 + 1, vp_updL s39.2 ((27 * s29.1) + s39.1).toNatClampNeg ((((y_list s39.1.toNatClampNeg) >>> (s29.1 &&& 31)) &&& 1).toInt64))))))
noncomputable def pX10_lays_L29 (y_n : Int32) (y_sets : Int32) (y_list : Nat → Int32) (y_costs : Nat → Int32) (s29 : Int32 × (Nat → Int64) × (Nat → Int32)) : Option ((Int32 × (Nat → Int64) × (Nat → Int32)) ⊕ ((Nat → Int64) × (Nat → Int32))) :=
  if y_n ≤ s29.1 then (some (Sum.inr (s29.2.1, s29.2.2))) else (Option.bind (lp (pX10_lays_L39_4 y_sets y_list s29) (0, s29.2.1)) (fun e39 => gd (vp_in (((27 * s29.1) + 16) + s29.1) 297) (gd (vp_in s29.1 10) (gd (vp_in ((27 * s29.1) + 26) 297) (gd (vp_in s29.1 10) (some (Sum.inl (s29.1 + 1, vp_updL (vp_updL e39 (((27 * s29.1) + 16) + s29.1).toNatClampNeg 1) ((27 * s29.1) + 26).toNatClampNeg ((y_costs s29.1.toNatClampNeg).toInt64), upd s29.2.2 s29.1.toNatClampNeg (16 + s29.1)))))))))
noncomputable def pX10_lays_L127 (y_sets : Int32) (s127 : Int32 × (Nat → Int64)) : Option ((Int32 × (Nat → Int64)) ⊕ (Nat → Int64)) :=
  if y_sets ≤ s127.1 then (some (Sum.inr s127.2)) else (gd (vp_in (270 + s127.1) 297) (some (Sum.inl (s127.1 + 1, vp_updL s127.2 (270 + s127.1).toNatClampNeg (-1)))))
noncomputable def pX10_lays (y_n : Int32) (y_sets : Int32) (y_by : Int64) (y_list : Nat → Int32) (y_costs : Nat → Int32) (y_table : Nat → Int64) (y_basis : Nat → Int32) : Option (Int64 × (Nat → Int64) × (Nat → Int32)) :=
  Option.bind (lp (pX10_lays_L2) (0, y_table)) (fun e2 => Option.bind (lp (pX10_lays_L29 y_n y_sets y_list y_costs) (0, e2, y_basis)) (fun e29 => Option.bind (lp (pX10_lays_L127 y_sets) (0, e29.1)) (fun e127 => some (1, e127, e29.2))))
set_option maxHeartbeats 4000000 in
set_option maxRecDepth 100000 in
theorem c_X10_lays (l : Launch) (dC : Nat → ClassId) (dI : Nat → Nat → Nat) (a_y : Nat) (a_y_list : Nat) (a_y_others : Nat) (a_y_costs : Nat) (a_y_table : Nat) (a_y_basis : Nat) (a_y_isSeen : Nat) (a_y_colour : Nat) (a_y_rest : Nat) (a_y_makes : Nat) (a_y_worst : Nat) (c_y_list c_y_costs c_y_table c_y_basis : ClassId) (sz : Nat) (y_n : Int32) (y_sets : Int32) (y_otherMany : Int32) (y_above : Int64) (y_below : Int64) (y_by : Int64) (y_list : Nat → Int32) (y_costs : Nat → Int32) (y_table : Nat → Int64) (y_basis : Nat → Int32) (rv : Int64 × (Nat → Int64) × (Nat → Int32)) (hs : pX10_lays y_n y_sets y_by y_list y_costs y_table y_basis = some rv) : Met l yX10_lays wsX10_lays ({ frames := 0, cells := 0, slots := 0, locals := 0 }) (sPc [.ref a_y] (dC, dI) [(c_y_list, .int), (c_y_costs, .int), (c_y_table, .long), (c_y_basis, .int)] [(a_y, .inr (10, [.int y_n, .ref a_y_list, .int y_sets, .ref a_y_others, .int y_otherMany, .ref a_y_costs, .long y_above, .long y_below, .ref a_y_table, .long y_by, .ref a_y_basis, .ref a_y_isSeen, .ref a_y_colour, .ref a_y_rest, .ref a_y_makes, .ref a_y_worst])), (a_y_list, .inl (c_y_list, 16, .inl y_list)), (a_y_costs, .inl (c_y_costs, 10, .inl y_costs)), (a_y_table, .inl (c_y_table, 297, .inr (.inl y_table))), (a_y_basis, .inl (c_y_basis, 10, .inl y_basis))] sz) (va_Qv (fun (_ : Unit) => True) (sB (dC, dI) [(c_y_list, .int), (c_y_costs, .int), (c_y_table, .long), (c_y_basis, .int)] (va_A [(a_y, .inr (10, [.int y_n, .ref a_y_list, .int y_sets, .ref a_y_others, .int y_otherMany, .ref a_y_costs, .long y_above, .long y_below, .ref a_y_table, .long y_by, .ref a_y_basis, .ref a_y_isSeen, .ref a_y_colour, .ref a_y_rest, .ref a_y_makes, .ref a_y_worst])), (a_y_list, .inl (c_y_list, 16, .inl y_list)), (a_y_costs, .inl (c_y_costs, 10, .inl y_costs)), (a_y_table, .inl (c_y_table, 297, .inr (.inl y_table))), (a_y_basis, .inl (c_y_basis, 10, .inl y_basis))] sz) [(a_y, .inr (10, [.int y_n, .ref a_y_list, .int y_sets, .ref a_y_others, .int y_otherMany, .ref a_y_costs, .long y_above, .long y_below, .ref a_y_table, .long rv.1, .ref a_y_basis, .ref a_y_isSeen, .ref a_y_colour, .ref a_y_rest, .ref a_y_makes, .ref a_y_worst])), (a_y_list, .inl (c_y_list, 16, .inl y_list)), (a_y_costs, .inl (c_y_costs, 10, .inl y_costs)), (a_y_table, .inl (c_y_table, 297, .inr (.inl rv.2.1))), (a_y_basis, .inl (c_y_basis, 10, .inl rv.2.2))]) (va_A [(a_y, .inr (10, [.int y_n, .ref a_y_list, .int y_sets, .ref a_y_others, .int y_otherMany, .ref a_y_costs, .long y_above, .long y_below, .ref a_y_table, .long y_by, .ref a_y_basis, .ref a_y_isSeen, .ref a_y_colour, .ref a_y_rest, .ref a_y_makes, .ref a_y_worst])), (a_y_list, .inl (c_y_list, 16, .inl y_list)), (a_y_costs, .inl (c_y_costs, 10, .inl y_costs)), (a_y_table, .inl (c_y_table, 297, .inr (.inl y_table))), (a_y_basis, .inl (c_y_basis, 10, .inl y_basis))] sz)) 0 0 (va_A [(a_y, .inr (10, [.int y_n, .ref a_y_list, .int y_sets, .ref a_y_others, .int y_otherMany, .ref a_y_costs, .long y_above, .long y_below, .ref a_y_table, .long y_by, .ref a_y_basis, .ref a_y_isSeen, .ref a_y_colour, .ref a_y_rest, .ref a_y_makes, .ref a_y_worst])), (a_y_list, .inl (c_y_list, 16, .inl y_list)), (a_y_costs, .inl (c_y_costs, 10, .inl y_costs)), (a_y_table, .inl (c_y_table, 297, .inr (.inl y_table))), (a_y_basis, .inl (c_y_basis, 10, .inl y_basis))] sz) := by
  refine Met.ofW (cc := cX10_lays) (maxL := 3) (ret := none) (by decide) rfl ?_
  intro p e s m args below meth c s₁ B hml hv
  obtain ⟨rfl, hsz, hP, hK, hD0, hN⟩ := hv
  have hx := B.exec
  have hb := B.bytes
  have hr := B.returns
  have hts := atoms_spec (ws := wsX10_lays) B.pre
  have hown : s.vm.findClass RX10 = some m.cls := findClass_of_methodNamed B.named
  have hlocks := B.notSynchronized
  subst hsz
  have hD := hD0.self (sz := s.heap.size)
  generalize hAe : va_A [(a_y, .inr (10, [.int y_n, .ref a_y_list, .int y_sets, .ref a_y_others, .int y_otherMany, .ref a_y_costs, .long y_above, .long y_below, .ref a_y_table, .long y_by, .ref a_y_basis, .ref a_y_isSeen, .ref a_y_colour, .ref a_y_rest, .ref a_y_makes, .ref a_y_worst])), (a_y_list, .inl (c_y_list, 16, .inl y_list)), (a_y_costs, .inl (c_y_costs, 10, .inl y_costs)), (a_y_table, .inl (c_y_table, 297, .inr (.inl y_table))), (a_y_basis, .inl (c_y_basis, 10, .inl y_basis))] s.heap.size = A at hD hN ⊢
  have hA : ∀ q : Nat, s.heap.size ≤ q → A q := fun q h => by rw [← hAe]; exact Or.inr h
  have hS : va_S A s.heap s.heap [] := va_S.rf
  have hP : va_P (dC, dI) vwCl [(a_y, .inr (10, [.int y_n, .ref a_y_list, .int y_sets, .ref a_y_others, .int y_otherMany, .ref a_y_costs, .long y_above, .long y_below, .ref a_y_table, .long y_by, .ref a_y_basis, .ref a_y_isSeen, .ref a_y_colour, .ref a_y_rest, .ref a_y_makes, .ref a_y_worst])), (a_y_list, .inl (c_y_list, 16, .inl y_list)), (a_y_costs, .inl (c_y_costs, 10, .inl y_costs)), (a_y_table, .inl (c_y_table, 297, .inr (.inl y_table))), (a_y_basis, .inl (c_y_basis, 10, .inl y_basis))] s.heap := hP
  have hl := lv_entry ([.ref a_y]) (n := 3) (Nat.le_of_ble_eq_true rfl)
  rw [lg_entry_eq]
  generalize (lg_sl ([.ref a_y]) ++ List.replicate (3 - (lg_sl ([.ref a_y])).length) Slot.unset).toArray = ls at hl ⊢
  have hl : lv_has ls 3 [(0, .ref a_y)] := hl
  have hiX10 : ∀ w ∈ wsX100, w ∈ wsX10_lays := fun _ h => List.mem_cons_of_mem _ (List.mem_append_right _ h)
  have hf19 := hts (.fieldLink RX10 19 "MeetSetsModel" "table" "[J") (t1_ (al_ h1_))
  have hf99 := hts (.fieldLink RX10 99 "MeetSetsModel" "by" "J") (t1_ (al_ (t1_ h1_)))
  have hf43 := hts (.fieldLink RX10 43 "MeetSetsModel" "n" "I") (t1_ (al_ (t1_ (t1_ h1_))))
  have hf61 := hts (.fieldLink RX10 61 "MeetSetsModel" "sets" "I") (t1_ (al_ (t1_ (t1_ (t1_ h1_)))))
  have hf7 := hts (.fieldLink RX10 7 "MeetSetsModel" "list" "[I") (t1_ (al_ (t4_ h1_)))
  have hf16 := hts (.fieldLink RX10 16 "MeetSetsModel" "costs" "[I") (t1_ (al_ (t4_ (t1_ h1_))))
  have hf23 := hts (.fieldLink RX10 23 "MeetSetsModel" "basis" "[I") (t1_ (al_ (t4_ (t1_ (t1_ h1_)))))
  refine w_abs (fun Z hZv hZw => ?_)
  refine hZv ?_
  obtain ⟨H, hH⟩ : ∃ H, H = s.heap := ⟨_, rfl⟩
  obtain ⟨locs, hlo⟩ : ∃ L : List Loc, L = [] := ⟨_, rfl⟩
  rw [← hlo, ← hH]
  have hS : va_S A s.heap H locs := by rw [hlo, hH]; exact hS
  have hP : va_P (dC, dI) vwCl [(a_y, .inr (10, [.int y_n, .ref a_y_list, .int y_sets, .ref a_y_others, .int y_otherMany, .ref a_y_costs, .long y_above, .long y_below, .ref a_y_table, .long y_by, .ref a_y_basis, .ref a_y_isSeen, .ref a_y_colour, .ref a_y_rest, .ref a_y_makes, .ref a_y_worst])), (a_y_list, .inl (c_y_list, 16, .inl y_list)), (a_y_costs, .inl (c_y_costs, 10, .inl y_costs)), (a_y_table, .inl (c_y_table, 297, .inr (.inl y_table))), (a_y_basis, .inl (c_y_basis, 10, .inl y_basis))] H := by rw [hH]; exact hP
  clear hH hlo
  unfold pX10_lays at hs
  refine lv_iconst (v := 0) hx hb dX10_lays_0 (by decide) ?_
  refine lv_istore_n (lv' := [(1, .int 0), (0, .ref a_y)]) hx hb dX10_lays_1 rfl hl (by decide) rfl (fun ls hl => ?_)
  obtain ⟨e2, he2, hs⟩ := bd_s hs
  have hX2 : ∀ (H : Heap) (locs : List Loc) (ls : Array Slot), va_P (dC, dI) vwCl [(a_y, .inr (10, [.int y_n, .ref a_y_list, .int y_sets, .ref a_y_others, .int y_otherMany, .ref a_y_costs, .long y_above, .long y_below, .ref a_y_table, .long y_by, .ref a_y_basis, .ref a_y_isSeen, .ref a_y_colour, .ref a_y_rest, .ref a_y_makes, .ref a_y_worst])), (a_y_list, .inl (c_y_list, 16, .inl y_list)), (a_y_costs, .inl (c_y_costs, 10, .inl y_costs)), (a_y_table, .inl (c_y_table, 297, .inr (.inl e2))), (a_y_basis, .inl (c_y_basis, 10, .inl y_basis))] H → va_D A [(a_y, .inr (10, [.int y_n, .ref a_y_list, .int y_sets, .ref a_y_others, .int y_otherMany, .ref a_y_costs, .long y_above, .long y_below, .ref a_y_table, .long y_by, .ref a_y_basis, .ref a_y_isSeen, .ref a_y_colour, .ref a_y_rest, .ref a_y_makes, .ref a_y_worst])), (a_y_list, .inl (c_y_list, 16, .inl y_list)), (a_y_costs, .inl (c_y_costs, 10, .inl y_costs)), (a_y_table, .inl (c_y_table, 297, .inr (.inl e2))), (a_y_basis, .inl (c_y_basis, 10, .inl y_basis))] → va_S A s.heap H locs → lv_has ls 3 [(0, .ref a_y)] → Z H locs 0 0 (F0 m 22 ls []) := by
    intro H locs ls hP hD hS hl
    refine hZv ?_
    refine lv_aload_n hx hb dX10_lays_22 rfl (lv_at hl 0 rfl) ?_
    refine lv_lconst (v := 1) hx hb dX10_lays_23 (by decide) ?_
    refine va_put (D := (dC, dI)) (ci := 10) (v := .long 1) (ty := .long) (C := RX10) (T := TX10) (N := 16) hx hb hts hiX10 tyX10 tyX10_ok nmX10 hown hK hP hD hS 0 rfl rfl 9 (by decide) hf99 (fun _ h9 => h9) rfl (by decide +kernel) rfl rfl (Nat.le_of_ble_eq_true rfl) dX10_lays_24 (fun H locs hP hD hS => ?_)
    have hP : va_P (dC, dI) vwCl [(a_y, .inr (10, [.int y_n, .ref a_y_list, .int y_sets, .ref a_y_others, .int y_otherMany, .ref a_y_costs, .long y_above, .long y_below, .ref a_y_table, .long 1, .ref a_y_basis, .ref a_y_isSeen, .ref a_y_colour, .ref a_y_rest, .ref a_y_makes, .ref a_y_worst])), (a_y_list, .inl (c_y_list, 16, .inl y_list)), (a_y_costs, .inl (c_y_costs, 10, .inl y_costs)), (a_y_table, .inl (c_y_table, 297, .inr (.inl e2))), (a_y_basis, .inl (c_y_basis, 10, .inl y_basis))] H := hP
    have hD : va_D A [(a_y, .inr (10, [.int y_n, .ref a_y_list, .int y_sets, .ref a_y_others, .int y_otherMany, .ref a_y_costs, .long y_above, .long y_below, .ref a_y_table, .long 1, .ref a_y_basis, .ref a_y_isSeen, .ref a_y_colour, .ref a_y_rest, .ref a_y_makes, .ref a_y_worst])), (a_y_list, .inl (c_y_list, 16, .inl y_list)), (a_y_costs, .inl (c_y_costs, 10, .inl y_costs)), (a_y_table, .inl (c_y_table, 297, .inr (.inl e2))), (a_y_basis, .inl (c_y_basis, 10, .inl y_basis))] := hD
    refine lv_iconst (v := 0) hx hb dX10_lays_27 (by decide) ?_
    refine lv_istore_n (lv' := [(1, .int 0), (0, .ref a_y)]) hx hb dX10_lays_28 rfl hl (by decide) rfl (fun ls hl => ?_)
    obtain ⟨e29, he29, hs⟩ := bd_s hs
    have hX29 : ∀ (H : Heap) (locs : List Loc) (ls : Array Slot), va_P (dC, dI) vwCl [(a_y, .inr (10, [.int y_n, .ref a_y_list, .int y_sets, .ref a_y_others, .int y_otherMany, .ref a_y_costs, .long y_above, .long y_below, .ref a_y_table, .long 1, .ref a_y_basis, .ref a_y_isSeen, .ref a_y_colour, .ref a_y_rest, .ref a_y_makes, .ref a_y_worst])), (a_y_list, .inl (c_y_list, 16, .inl y_list)), (a_y_costs, .inl (c_y_costs, 10, .inl y_costs)), (a_y_table, .inl (c_y_table, 297, .inr (.inl e29.1))), (a_y_basis, .inl (c_y_basis, 10, .inl e29.2))] H → va_D A [(a_y, .inr (10, [.int y_n, .ref a_y_list, .int y_sets, .ref a_y_others, .int y_otherMany, .ref a_y_costs, .long y_above, .long y_below, .ref a_y_table, .long 1, .ref a_y_basis, .ref a_y_isSeen, .ref a_y_colour, .ref a_y_rest, .ref a_y_makes, .ref a_y_worst])), (a_y_list, .inl (c_y_list, 16, .inl y_list)), (a_y_costs, .inl (c_y_costs, 10, .inl y_costs)), (a_y_table, .inl (c_y_table, 297, .inr (.inl e29.1))), (a_y_basis, .inl (c_y_basis, 10, .inl e29.2))] → va_S A s.heap H locs → lv_has ls 3 [(0, .ref a_y)] → Z H locs 0 0 (F0 m 125 ls []) := by
      intro H locs ls hP hD hS hl
      refine hZv ?_
      refine lv_iconst (v := 0) hx hb dX10_lays_125 (by decide) ?_
      refine lv_istore_n (lv' := [(1, .int 0), (0, .ref a_y)]) hx hb dX10_lays_126 rfl hl (by decide) rfl (fun ls hl => ?_)
      obtain ⟨e127, he127, hs⟩ := bd_s hs
      have hX127 : ∀ (H : Heap) (locs : List Loc) (ls : Array Slot), va_P (dC, dI) vwCl [(a_y, .inr (10, [.int y_n, .ref a_y_list, .int y_sets, .ref a_y_others, .int y_otherMany, .ref a_y_costs, .long y_above, .long y_below, .ref a_y_table, .long 1, .ref a_y_basis, .ref a_y_isSeen, .ref a_y_colour, .ref a_y_rest, .ref a_y_makes, .ref a_y_worst])), (a_y_list, .inl (c_y_list, 16, .inl y_list)), (a_y_costs, .inl (c_y_costs, 10, .inl y_costs)), (a_y_table, .inl (c_y_table, 297, .inr (.inl e127))), (a_y_basis, .inl (c_y_basis, 10, .inl e29.2))] H → va_D A [(a_y, .inr (10, [.int y_n, .ref a_y_list, .int y_sets, .ref a_y_others, .int y_otherMany, .ref a_y_costs, .long y_above, .long y_below, .ref a_y_table, .long 1, .ref a_y_basis, .ref a_y_isSeen, .ref a_y_colour, .ref a_y_rest, .ref a_y_makes, .ref a_y_worst])), (a_y_list, .inl (c_y_list, 16, .inl y_list)), (a_y_costs, .inl (c_y_costs, 10, .inl y_costs)), (a_y_table, .inl (c_y_table, 297, .inr (.inl e127))), (a_y_basis, .inl (c_y_basis, 10, .inl e29.2))] → va_S A s.heap H locs → lv_has ls 3 [] → Z H locs 0 0 (F0 m 154 ls []) := by
        intro H locs ls hP hD hS hl
        refine hZv ?_
        replace hs := Option.some.inj hs
        subst hs
        exact W.vret hx hb hr (fun t ht hW => ⟨⟨(), rfl, trivial, by rw [ht]; exact hP, va_K.moved hW.alike hK, hD⟩, hS.F ht⟩) hS.2.2 dX10_lays_154
      clear hs
      have hL127 : ∀ (n : Nat) (s127 : Int32 × (Nat → Int64)) (H : Heap) (locs : List Loc) (ls : Array Slot), itr (pX10_lays_L127 y_sets) n s127 = some e127 → va_P (dC, dI) vwCl [(a_y, .inr (10, [.int y_n, .ref a_y_list, .int y_sets, .ref a_y_others, .int y_otherMany, .ref a_y_costs, .long y_above, .long y_below, .ref a_y_table, .long 1, .ref a_y_basis, .ref a_y_isSeen, .ref a_y_colour, .ref a_y_rest, .ref a_y_makes, .ref a_y_worst])), (a_y_list, .inl (c_y_list, 16, .inl y_list)), (a_y_costs, .inl (c_y_costs, 10, .inl y_costs)), (a_y_table, .inl (c_y_table, 297, .inr (.inl s127.2))), (a_y_basis, .inl (c_y_basis, 10, .inl e29.2))] H → va_D A [(a_y, .inr (10, [.int y_n, .ref a_y_list, .int y_sets, .ref a_y_others, .int y_otherMany, .ref a_y_costs, .long y_above, .long y_below, .ref a_y_table, .long 1, .ref a_y_basis, .ref a_y_isSeen, .ref a_y_colour, .ref a_y_rest, .ref a_y_makes, .ref a_y_worst])), (a_y_list, .inl (c_y_list, 16, .inl y_list)), (a_y_costs, .inl (c_y_costs, 10, .inl y_costs)), (a_y_table, .inl (c_y_table, 297, .inr (.inl s127.2))), (a_y_basis, .inl (c_y_basis, 10, .inl e29.2))] → va_S A s.heap H locs → lv_has ls 3 [(0, .ref a_y), (1, .int s127.1)] → Z H locs 0 0 (F0 m 127 ls []) := by
        intro n
        induction n with
        | zero =>
          intro s127 H locs ls hn
          exact (itr_0 hn).elim
        | succ n ih =>
          intro s127 H locs ls hn hP hD hS hl
          obtain ⟨y12, hs, hn⟩ := itr_s hn
          unfold pX10_lays_L127 at hs
          refine hZv ?_
          refine lv_iload_n hx hb dX10_lays_127 rfl (lv_at hl 1 rfl) ?_
          refine lv_aload_n hx hb dX10_lays_128 rfl (lv_at hl 0 rfl) ?_
          refine va_get (D := (dC, dI)) (ci := 10) (v := .int y_sets) (C := RX10) (T := TX10) (N := 16) hx hb hts hiX10 hown hK hP 0 rfl rfl 2 (by decide) hf61 (fun _ h9 => h9) rfl dX10_lays_129 ?_
          refine lv_icmp_ge (tgt := 154) hx hb dX10_lays_132 (by decide) (fun hc => ?_) (fun hc => ?_)
          · replace hs := it_t hc hs
            replace hs := Option.some.inj hs
            subst hs
            obtain rfl : s127.2 = e127 := hn
            exact hZw (hX127 H locs ls hP hD hS (lv_sub hl [] rfl))
          · replace hs := it_f hc hs
            refine lv_aload_n hx hb dX10_lays_135 rfl (lv_at hl 0 rfl) ?_
            refine va_get (D := (dC, dI)) (ci := 10) (v := .ref a_y_table) (C := RX10) (T := TX10) (N := 16) hx hb hts hiX10 hown hK hP 0 rfl rfl 8 (by decide) hf19 (fun _ h9 => h9) rfl dX10_lays_136 ?_
            refine lv_sipush (v := 270) hx hb dX10_lays_139 (by decide) ?_
            refine lv_iload_n hx hb dX10_lays_142 rfl (lv_at hl 1 rfl) ?_
            refine lv_iadd hx hb dX10_lays_143 ?_
            refine lv_ldc2 (v := (-1)) hx hb hown (hts (.constantLong RX10 102 (-1)) (t1_ (al_ (t4_ (t1_ (t1_ (t1_ h1_))))))) dX10_lays_144 ?_
            obtain ⟨hg13, hs⟩ := gd_s hs
            refine va_last hx hb hK hP hD hS 3 2 rfl rfl hg13 dX10_lays_147 (fun H locs hP hD hS => ?_)
            have hP : va_P (dC, dI) vwCl [(a_y, .inr (10, [.int y_n, .ref a_y_list, .int y_sets, .ref a_y_others, .int y_otherMany, .ref a_y_costs, .long y_above, .long y_below, .ref a_y_table, .long 1, .ref a_y_basis, .ref a_y_isSeen, .ref a_y_colour, .ref a_y_rest, .ref a_y_makes, .ref a_y_worst])), (a_y_list, .inl (c_y_list, 16, .inl y_list)), (a_y_costs, .inl (c_y_costs, 10, .inl y_costs)), (a_y_table, .inl (c_y_table, 297, .inr (.inl (vp_updL s127.2 (270 + s127.1).toNatClampNeg (-1))))), (a_y_basis, .inl (c_y_basis, 10, .inl e29.2))] H := hP
            have hD : va_D A [(a_y, .inr (10, [.int y_n, .ref a_y_list, .int y_sets, .ref a_y_others, .int y_otherMany, .ref a_y_costs, .long y_above, .long y_below, .ref a_y_table, .long 1, .ref a_y_basis, .ref a_y_isSeen, .ref a_y_colour, .ref a_y_rest, .ref a_y_makes, .ref a_y_worst])), (a_y_list, .inl (c_y_list, 16, .inl y_list)), (a_y_costs, .inl (c_y_costs, 10, .inl y_costs)), (a_y_table, .inl (c_y_table, 297, .inr (.inl (vp_updL s127.2 (270 + s127.1).toNatClampNeg (-1))))), (a_y_basis, .inl (c_y_basis, 10, .inl e29.2))] := hD
            refine lv_iinc (v := s127.1 + 1) (lv' := [(1, .int (s127.1 + 1)), (0, .ref a_y)]) hx hb dX10_lays_148 hl (k := 1) rfl (by rfl) (by decide) rfl (fun ls hl => ?_)
            refine lv_goto (tgt := 127) hx hb dX10_lays_151 (by decide) ?_
            replace hs := Option.some.inj hs
            subst hs
            exact hZw (ih (s127.1 + 1, vp_updL s127.2 (270 + s127.1).toNatClampNeg (-1)) H locs ls hn hP hD hS (lv_sub hl [1, 0] rfl))
      obtain ⟨n127, hn127⟩ := lp_ex he127
      exact hZw (hL127 n127 (0, e29.1) H locs ls hn127 hP hD hS (lv_sub hl [1, 0] rfl))
    clear hs
    have hL29 : ∀ (n : Nat) (s29 : Int32 × (Nat → Int64) × (Nat → Int32)) (H : Heap) (locs : List Loc) (ls : Array Slot), itr (pX10_lays_L29 y_n y_sets y_list y_costs) n s29 = some e29 → va_P (dC, dI) vwCl [(a_y, .inr (10, [.int y_n, .ref a_y_list, .int y_sets, .ref a_y_others, .int y_otherMany, .ref a_y_costs, .long y_above, .long y_below, .ref a_y_table, .long 1, .ref a_y_basis, .ref a_y_isSeen, .ref a_y_colour, .ref a_y_rest, .ref a_y_makes, .ref a_y_worst])), (a_y_list, .inl (c_y_list, 16, .inl y_list)), (a_y_costs, .inl (c_y_costs, 10, .inl y_costs)), (a_y_table, .inl (c_y_table, 297, .inr (.inl s29.2.1))), (a_y_basis, .inl (c_y_basis, 10, .inl s29.2.2))] H → va_D A [(a_y, .inr (10, [.int y_n, .ref a_y_list, .int y_sets, .ref a_y_others, .int y_otherMany, .ref a_y_costs, .long y_above, .long y_below, .ref a_y_table, .long 1, .ref a_y_basis, .ref a_y_isSeen, .ref a_y_colour, .ref a_y_rest, .ref a_y_makes, .ref a_y_worst])), (a_y_list, .inl (c_y_list, 16, .inl y_list)), (a_y_costs, .inl (c_y_costs, 10, .inl y_costs)), (a_y_table, .inl (c_y_table, 297, .inr (.inl s29.2.1))), (a_y_basis, .inl (c_y_basis, 10, .inl s29.2.2))] → va_S A s.heap H locs → lv_has ls 3 [(0, .ref a_y), (1, .int s29.1)] → Z H locs 0 0 (F0 m 29 ls []) := by
      intro n
      induction n with
      | zero =>
        intro s29 H locs ls hn
        exact (itr_0 hn).elim
      | succ n ih =>
        intro s29 H locs ls hn hP hD hS hl
        obtain ⟨y3, hs, hn⟩ := itr_s hn
        unfold pX10_lays_L29 at hs
        refine hZv ?_
        refine lv_iload_n hx hb dX10_lays_29 rfl (lv_at hl 1 rfl) ?_
        refine lv_aload_n hx hb dX10_lays_30 rfl (lv_at hl 0 rfl) ?_
        refine va_get (D := (dC, dI)) (ci := 10) (v := .int y_n) (C := RX10) (T := TX10) (N := 16) hx hb hts hiX10 hown hK hP 0 rfl rfl 0 (by decide) hf43 (fun _ h9 => h9) rfl dX10_lays_31 ?_
        refine lv_icmp_ge (tgt := 125) hx hb dX10_lays_34 (by decide) (fun hc => ?_) (fun hc => ?_)
        · replace hs := it_t hc hs
          replace hs := Option.some.inj hs
          subst hs
          obtain rfl : (s29.2.1, s29.2.2) = e29 := hn
          exact hZw (hX29 H locs ls hP hD hS (lv_sub hl [0] rfl))
        · replace hs := it_f hc hs
          refine lv_iconst (v := 0) hx hb dX10_lays_37 (by decide) ?_
          refine lv_istore_n (lv' := [(2, .int 0), (0, .ref a_y), (1, .int s29.1)]) hx hb dX10_lays_38 rfl hl (by decide) rfl (fun ls hl => ?_)
          obtain ⟨e39, he39, hs⟩ := bd_s hs
          have hX39 : ∀ (H : Heap) (locs : List Loc) (ls : Array Slot), va_P (dC, dI) vwCl [(a_y, .inr (10, [.int y_n, .ref a_y_list, .int y_sets, .ref a_y_others, .int y_otherMany, .ref a_y_costs, .long y_above, .long y_below, .ref a_y_table, .long 1, .ref a_y_basis, .ref a_y_isSeen, .ref a_y_colour, .ref a_y_rest, .ref a_y_makes, .ref a_y_worst])), (a_y_list, .inl (c_y_list, 16, .inl y_list)), (a_y_costs, .inl (c_y_costs, 10, .inl y_costs)), (a_y_table, .inl (c_y_table, 297, .inr (.inl e39))), (a_y_basis, .inl (c_y_basis, 10, .inl s29.2.2))] H → va_D A [(a_y, .inr (10, [.int y_n, .ref a_y_list, .int y_sets, .ref a_y_others, .int y_otherMany, .ref a_y_costs, .long y_above, .long y_below, .ref a_y_table, .long 1, .ref a_y_basis, .ref a_y_isSeen, .ref a_y_colour, .ref a_y_rest, .ref a_y_makes, .ref a_y_worst])), (a_y_list, .inl (c_y_list, 16, .inl y_list)), (a_y_costs, .inl (c_y_costs, 10, .inl y_costs)), (a_y_table, .inl (c_y_table, 297, .inr (.inl e39))), (a_y_basis, .inl (c_y_basis, 10, .inl s29.2.2))] → va_S A s.heap H locs → lv_has ls 3 [(0, .ref a_y), (1, .int s29.1)] → Z H locs 0 0 (F0 m 75 ls []) := by
            intro H locs ls hP hD hS hl
            refine hZv ?_
            refine lv_aload_n hx hb dX10_lays_75 rfl (lv_at hl 0 rfl) ?_
            refine va_get (D := (dC, dI)) (ci := 10) (v := .ref a_y_table) (C := RX10) (T := TX10) (N := 16) hx hb hts hiX10 hown hK hP 0 rfl rfl 8 (by decide) hf19 (fun _ h9 => h9) rfl dX10_lays_76 ?_
            refine lv_bipush (v := 27) hx hb dX10_lays_79 (by decide) ?_
            refine lv_iload_n hx hb dX10_lays_81 rfl (lv_at hl 1 rfl) ?_
            refine lv_imul hx hb dX10_lays_82 ?_
            refine lv_bipush (v := 16) hx hb dX10_lays_83 (by decide) ?_
            refine lv_iadd hx hb dX10_lays_85 ?_
            refine lv_iload_n hx hb dX10_lays_86 rfl (lv_at hl 1 rfl) ?_
            refine lv_iadd hx hb dX10_lays_87 ?_
            refine lv_lconst (v := 1) hx hb dX10_lays_88 (by decide) ?_
            obtain ⟨hg8, hs⟩ := gd_s hs
            refine va_last hx hb hK hP hD hS 3 2 rfl rfl hg8 dX10_lays_89 (fun H locs hP hD hS => ?_)
            have hP : va_P (dC, dI) vwCl [(a_y, .inr (10, [.int y_n, .ref a_y_list, .int y_sets, .ref a_y_others, .int y_otherMany, .ref a_y_costs, .long y_above, .long y_below, .ref a_y_table, .long 1, .ref a_y_basis, .ref a_y_isSeen, .ref a_y_colour, .ref a_y_rest, .ref a_y_makes, .ref a_y_worst])), (a_y_list, .inl (c_y_list, 16, .inl y_list)), (a_y_costs, .inl (c_y_costs, 10, .inl y_costs)), (a_y_table, .inl (c_y_table, 297, .inr (.inl (vp_updL e39 (((27 * s29.1) + 16) + s29.1).toNatClampNeg 1)))), (a_y_basis, .inl (c_y_basis, 10, .inl s29.2.2))] H := hP
            have hD : va_D A [(a_y, .inr (10, [.int y_n, .ref a_y_list, .int y_sets, .ref a_y_others, .int y_otherMany, .ref a_y_costs, .long y_above, .long y_below, .ref a_y_table, .long 1, .ref a_y_basis, .ref a_y_isSeen, .ref a_y_colour, .ref a_y_rest, .ref a_y_makes, .ref a_y_worst])), (a_y_list, .inl (c_y_list, 16, .inl y_list)), (a_y_costs, .inl (c_y_costs, 10, .inl y_costs)), (a_y_table, .inl (c_y_table, 297, .inr (.inl (vp_updL e39 (((27 * s29.1) + 16) + s29.1).toNatClampNeg 1)))), (a_y_basis, .inl (c_y_basis, 10, .inl s29.2.2))] := hD
            refine lv_aload_n hx hb dX10_lays_90 rfl (lv_at hl 0 rfl) ?_
            refine va_get (D := (dC, dI)) (ci := 10) (v := .ref a_y_table) (C := RX10) (T := TX10) (N := 16) hx hb hts hiX10 hown hK hP 0 rfl rfl 8 (by decide) hf19 (fun _ h9 => h9) rfl dX10_lays_91 ?_
            refine lv_bipush (v := 27) hx hb dX10_lays_94 (by decide) ?_
            refine lv_iload_n hx hb dX10_lays_96 rfl (lv_at hl 1 rfl) ?_
            refine lv_imul hx hb dX10_lays_97 ?_
            refine lv_bipush (v := 26) hx hb dX10_lays_98 (by decide) ?_
            refine lv_iadd hx hb dX10_lays_100 ?_
            refine lv_aload_n hx hb dX10_lays_101 rfl (lv_at hl 0 rfl) ?_
            refine va_get (D := (dC, dI)) (ci := 10) (v := .ref a_y_costs) (C := RX10) (T := TX10) (N := 16) hx hb hts hiX10 hown hK hP 0 rfl rfl 5 (by decide) hf16 (fun _ h9 => h9) rfl dX10_lays_102 ?_
            refine lv_iload_n hx hb dX10_lays_105 rfl (lv_at hl 1 rfl) ?_
            obtain ⟨hg9, hs⟩ := gd_s hs
            refine va_iald hx hb hK hP 2 1 rfl rfl hg9 dX10_lays_106 ?_
            refine lv_i2l (v := (y_costs s29.1.toNatClampNeg).toInt64) hx hb dX10_lays_107 rfl ?_
            obtain ⟨hg10, hs⟩ := gd_s hs
            refine va_last hx hb hK hP hD hS 3 2 rfl rfl hg10 dX10_lays_108 (fun H locs hP hD hS => ?_)
            have hP : va_P (dC, dI) vwCl [(a_y, .inr (10, [.int y_n, .ref a_y_list, .int y_sets, .ref a_y_others, .int y_otherMany, .ref a_y_costs, .long y_above, .long y_below, .ref a_y_table, .long 1, .ref a_y_basis, .ref a_y_isSeen, .ref a_y_colour, .ref a_y_rest, .ref a_y_makes, .ref a_y_worst])), (a_y_list, .inl (c_y_list, 16, .inl y_list)), (a_y_costs, .inl (c_y_costs, 10, .inl y_costs)), (a_y_table, .inl (c_y_table, 297, .inr (.inl (vp_updL (vp_updL e39 (((27 * s29.1) + 16) + s29.1).toNatClampNeg 1) ((27 * s29.1) + 26).toNatClampNeg ((y_costs s29.1.toNatClampNeg).toInt64))))), (a_y_basis, .inl (c_y_basis, 10, .inl s29.2.2))] H := hP
            have hD : va_D A [(a_y, .inr (10, [.int y_n, .ref a_y_list, .int y_sets, .ref a_y_others, .int y_otherMany, .ref a_y_costs, .long y_above, .long y_below, .ref a_y_table, .long 1, .ref a_y_basis, .ref a_y_isSeen, .ref a_y_colour, .ref a_y_rest, .ref a_y_makes, .ref a_y_worst])), (a_y_list, .inl (c_y_list, 16, .inl y_list)), (a_y_costs, .inl (c_y_costs, 10, .inl y_costs)), (a_y_table, .inl (c_y_table, 297, .inr (.inl (vp_updL (vp_updL e39 (((27 * s29.1) + 16) + s29.1).toNatClampNeg 1) ((27 * s29.1) + 26).toNatClampNeg ((y_costs s29.1.toNatClampNeg).toInt64))))), (a_y_basis, .inl (c_y_basis, 10, .inl s29.2.2))] := hD
            refine lv_aload_n hx hb dX10_lays_109 rfl (lv_at hl 0 rfl) ?_
            refine va_get (D := (dC, dI)) (ci := 10) (v := .ref a_y_basis) (C := RX10) (T := TX10) (N := 16) hx hb hts hiX10 hown hK hP 0 rfl rfl 10 (by decide) hf23 (fun _ h9 => h9) rfl dX10_lays_110 ?_
            refine lv_iload_n hx hb dX10_lays_113 rfl (lv_at hl 1 rfl) ?_
            refine lv_bipush (v := 16) hx hb dX10_lays_114 (by decide) ?_
            refine lv_iload_n hx hb dX10_lays_116 rfl (lv_at hl 1 rfl) ?_
            refine lv_iadd hx hb dX10_lays_117 ?_
            obtain ⟨hg11, hs⟩ := gd_s hs
            refine va_iast hx hb hK hP hD hS 4 3 rfl rfl hg11 dX10_lays_118 (fun H locs hP hD hS => ?_)
            have hP : va_P (dC, dI) vwCl [(a_y, .inr (10, [.int y_n, .ref a_y_list, .int y_sets, .ref a_y_others, .int y_otherMany, .ref a_y_costs, .long y_above, .long y_below, .ref a_y_table, .long 1, .ref a_y_basis, .ref a_y_isSeen, .ref a_y_colour, .ref a_y_rest, .ref a_y_makes, .ref a_y_worst])), (a_y_list, .inl (c_y_list, 16, .inl y_list)), (a_y_costs, .inl (c_y_costs, 10, .inl y_costs)), (a_y_table, .inl (c_y_table, 297, .inr (.inl (vp_updL (vp_updL e39 (((27 * s29.1) + 16) + s29.1).toNatClampNeg 1) ((27 * s29.1) + 26).toNatClampNeg ((y_costs s29.1.toNatClampNeg).toInt64))))), (a_y_basis, .inl (c_y_basis, 10, .inl (upd s29.2.2 s29.1.toNatClampNeg (16 + s29.1))))] H := hP
            have hD : va_D A [(a_y, .inr (10, [.int y_n, .ref a_y_list, .int y_sets, .ref a_y_others, .int y_otherMany, .ref a_y_costs, .long y_above, .long y_below, .ref a_y_table, .long 1, .ref a_y_basis, .ref a_y_isSeen, .ref a_y_colour, .ref a_y_rest, .ref a_y_makes, .ref a_y_worst])), (a_y_list, .inl (c_y_list, 16, .inl y_list)), (a_y_costs, .inl (c_y_costs, 10, .inl y_costs)), (a_y_table, .inl (c_y_table, 297, .inr (.inl (vp_updL (vp_updL e39 (((27 * s29.1) + 16) + s29.1).toNatClampNeg 1) ((27 * s29.1) + 26).toNatClampNeg ((y_costs s29.1.toNatClampNeg).toInt64))))), (a_y_basis, .inl (c_y_basis, 10, .inl (upd s29.2.2 s29.1.toNatClampNeg (16 + s29.1))))] := hD
            refine lv_iinc (v := s29.1 + 1) (lv' := [(1, .int (s29.1 + 1)), (0, .ref a_y)]) hx hb dX10_lays_119 hl (k := 1) rfl (by rfl) (by decide) rfl (fun ls hl => ?_)
            refine lv_goto (tgt := 29) hx hb dX10_lays_122 (by decide) ?_
            replace hs := Option.some.inj hs
            subst hs
            exact hZw (ih (s29.1 + 1, vp_updL (vp_updL e39 (((27 * s29.1) + 16) + s29.1).toNatClampNeg 1) ((27 * s29.1) + 26).toNatClampNeg ((y_costs s29.1.toNatClampNeg).toInt64), upd s29.2.2 s29.1.toNatClampNeg (16 + s29.1)) H locs ls hn hP hD hS (lv_sub hl [1, 0] rfl))
          clear hs
          have hL39 : ∀ (n : Nat) (s39 : Int32 × (Nat → Int64)) (H : Heap) (locs : List Loc) (ls : Array Slot), itr (pX10_lays_L39_4 y_sets y_list s29) n s39 = some e39 → va_P (dC, dI) vwCl [(a_y, .inr (10, [.int y_n, .ref a_y_list, .int y_sets, .ref a_y_others, .int y_otherMany, .ref a_y_costs, .long y_above, .long y_below, .ref a_y_table, .long 1, .ref a_y_basis, .ref a_y_isSeen, .ref a_y_colour, .ref a_y_rest, .ref a_y_makes, .ref a_y_worst])), (a_y_list, .inl (c_y_list, 16, .inl y_list)), (a_y_costs, .inl (c_y_costs, 10, .inl y_costs)), (a_y_table, .inl (c_y_table, 297, .inr (.inl s39.2))), (a_y_basis, .inl (c_y_basis, 10, .inl s29.2.2))] H → va_D A [(a_y, .inr (10, [.int y_n, .ref a_y_list, .int y_sets, .ref a_y_others, .int y_otherMany, .ref a_y_costs, .long y_above, .long y_below, .ref a_y_table, .long 1, .ref a_y_basis, .ref a_y_isSeen, .ref a_y_colour, .ref a_y_rest, .ref a_y_makes, .ref a_y_worst])), (a_y_list, .inl (c_y_list, 16, .inl y_list)), (a_y_costs, .inl (c_y_costs, 10, .inl y_costs)), (a_y_table, .inl (c_y_table, 297, .inr (.inl s39.2))), (a_y_basis, .inl (c_y_basis, 10, .inl s29.2.2))] → va_S A s.heap H locs → lv_has ls 3 [(0, .ref a_y), (1, .int s29.1), (2, .int s39.1)] → Z H locs 0 0 (F0 m 39 ls []) := by
            intro n
            induction n with
            | zero =>
              intro s39 H locs ls hn
              exact (itr_0 hn).elim
            | succ n ih =>
              intro s39 H locs ls hn hP hD hS hl
              obtain ⟨y5, hs, hn⟩ := itr_s hn
              unfold pX10_lays_L39_4 at hs
              refine hZv ?_
              refine lv_iload_n hx hb dX10_lays_39 rfl (lv_at hl 2 rfl) ?_
              refine lv_aload_n hx hb dX10_lays_40 rfl (lv_at hl 0 rfl) ?_
              refine va_get (D := (dC, dI)) (ci := 10) (v := .int y_sets) (C := RX10) (T := TX10) (N := 16) hx hb hts hiX10 hown hK hP 0 rfl rfl 2 (by decide) hf61 (fun _ h9 => h9) rfl dX10_lays_41 ?_
              refine lv_icmp_ge (tgt := 75) hx hb dX10_lays_44 (by decide) (fun hc => ?_) (fun hc => ?_)
              · replace hs := it_t hc hs
                replace hs := Option.some.inj hs
                subst hs
                obtain rfl : s39.2 = e39 := hn
                exact hZw (hX39 H locs ls hP hD hS (lv_sub hl [0, 1] rfl))
              · replace hs := it_f hc hs
                refine lv_aload_n hx hb dX10_lays_47 rfl (lv_at hl 0 rfl) ?_
                refine va_get (D := (dC, dI)) (ci := 10) (v := .ref a_y_table) (C := RX10) (T := TX10) (N := 16) hx hb hts hiX10 hown hK hP 0 rfl rfl 8 (by decide) hf19 (fun _ h9 => h9) rfl dX10_lays_48 ?_
                refine lv_bipush (v := 27) hx hb dX10_lays_51 (by decide) ?_
                refine lv_iload_n hx hb dX10_lays_53 rfl (lv_at hl 1 rfl) ?_
                refine lv_imul hx hb dX10_lays_54 ?_
                refine lv_iload_n hx hb dX10_lays_55 rfl (lv_at hl 2 rfl) ?_
                refine lv_iadd hx hb dX10_lays_56 ?_
                refine lv_aload_n hx hb dX10_lays_57 rfl (lv_at hl 0 rfl) ?_
                refine va_get (D := (dC, dI)) (ci := 10) (v := .ref a_y_list) (C := RX10) (T := TX10) (N := 16) hx hb hts hiX10 hown hK hP 0 rfl rfl 1 (by decide) hf7 (fun _ h9 => h9) rfl dX10_lays_58 ?_
                refine lv_iload_n hx hb dX10_lays_61 rfl (lv_at hl 2 rfl) ?_
                obtain ⟨hg6, hs⟩ := gd_s hs
                refine va_iald hx hb hK hP 1 0 rfl rfl hg6 dX10_lays_62 ?_
                refine lv_iload_n hx hb dX10_lays_63 rfl (lv_at hl 1 rfl) ?_
                refine lv_ishr hx hb dX10_lays_64 ?_
                refine lv_iconst (v := 1) hx hb dX10_lays_65 (by decide) ?_
                refine lv_iand hx hb dX10_lays_66 ?_
                refine lv_i2l (v := (((y_list s39.1.toNatClampNeg) >>> (s29.1 &&& 31)) &&& 1).toInt64) hx hb dX10_lays_67 rfl ?_
                obtain ⟨hg7, hs⟩ := gd_s hs
                refine va_last hx hb hK hP hD hS 3 2 rfl rfl hg7 dX10_lays_68 (fun H locs hP hD hS => ?_)
                have hP : va_P (dC, dI) vwCl [(a_y, .inr (10, [.int y_n, .ref a_y_list, .int y_sets, .ref a_y_others, .int y_otherMany, .ref a_y_costs, .long y_above, .long y_below, .ref a_y_table, .long 1, .ref a_y_basis, .ref a_y_isSeen, .ref a_y_colour, .ref a_y_rest, .ref a_y_makes, .ref a_y_worst])), (a_y_list, .inl (c_y_list, 16, .inl y_list)), (a_y_costs, .inl (c_y_costs, 10, .inl y_costs)), (a_y_table, .inl (c_y_table, 297, .inr (.inl (vp_updL s39.2 ((27 * s29.1) + s39.1).toNatClampNeg ((((y_list s39.1.toNatClampNeg) >>> (s29.1 &&& 31)) &&& 1).toInt64))))), (a_y_basis, .inl (c_y_basis, 10, .inl s29.2.2))] H := hP
                have hD : va_D A [(a_y, .inr (10, [.int y_n, .ref a_y_list, .int y_sets, .ref a_y_others, .int y_otherMany, .ref a_y_costs, .long y_above, .long y_below, .ref a_y_table, .long 1, .ref a_y_basis, .ref a_y_isSeen, .ref a_y_colour, .ref a_y_rest, .ref a_y_makes, .ref a_y_worst])), (a_y_list, .inl (c_y_list, 16, .inl y_list)), (a_y_costs, .inl (c_y_costs, 10, .inl y_costs)), (a_y_table, .inl (c_y_table, 297, .inr (.inl (vp_updL s39.2 ((27 * s29.1) + s39.1).toNatClampNeg ((((y_list s39.1.toNatClampNeg) >>> (s29.1 &&& 31)) &&& 1).toInt64))))), (a_y_basis, .inl (c_y_basis, 10, .inl s29.2.2))] := hD
                refine lv_iinc (v := s39.1 + 1) (lv' := [(2, .int (s39.1 + 1)), (0, .ref a_y), (1, .int s29.1)]) hx hb dX10_lays_69 hl (k := 2) rfl (by rfl) (by decide) rfl (fun ls hl => ?_)
                refine lv_goto (tgt := 39) hx hb dX10_lays_72 (by decide) ?_
                replace hs := Option.some.inj hs
                subst hs
                exact hZw (ih (s39.1 + 1, vp_updL s39.2 ((27 * s29.1) + s39.1).toNatClampNeg ((((y_list s39.1.toNatClampNeg) >>> (s29.1 &&& 31)) &&& 1).toInt64)) H locs ls hn hP hD hS (lv_sub hl [1, 2, 0] rfl))
          obtain ⟨n39, hn39⟩ := lp_ex he39
          exact hZw (hL39 n39 (0, s29.2.1) H locs ls hn39 hP hD hS (lv_sub hl [1, 2, 0] rfl))
    obtain ⟨n29, hn29⟩ := lp_ex he29
    exact hZw (hL29 n29 (0, e2, y_basis) H locs ls hn29 hP hD hS (lv_sub hl [1, 0] rfl))
  clear hs
  have hL2 : ∀ (n : Nat) (s2 : Int32 × (Nat → Int64)) (H : Heap) (locs : List Loc) (ls : Array Slot), itr (pX10_lays_L2) n s2 = some e2 → va_P (dC, dI) vwCl [(a_y, .inr (10, [.int y_n, .ref a_y_list, .int y_sets, .ref a_y_others, .int y_otherMany, .ref a_y_costs, .long y_above, .long y_below, .ref a_y_table, .long y_by, .ref a_y_basis, .ref a_y_isSeen, .ref a_y_colour, .ref a_y_rest, .ref a_y_makes, .ref a_y_worst])), (a_y_list, .inl (c_y_list, 16, .inl y_list)), (a_y_costs, .inl (c_y_costs, 10, .inl y_costs)), (a_y_table, .inl (c_y_table, 297, .inr (.inl s2.2))), (a_y_basis, .inl (c_y_basis, 10, .inl y_basis))] H → va_D A [(a_y, .inr (10, [.int y_n, .ref a_y_list, .int y_sets, .ref a_y_others, .int y_otherMany, .ref a_y_costs, .long y_above, .long y_below, .ref a_y_table, .long y_by, .ref a_y_basis, .ref a_y_isSeen, .ref a_y_colour, .ref a_y_rest, .ref a_y_makes, .ref a_y_worst])), (a_y_list, .inl (c_y_list, 16, .inl y_list)), (a_y_costs, .inl (c_y_costs, 10, .inl y_costs)), (a_y_table, .inl (c_y_table, 297, .inr (.inl s2.2))), (a_y_basis, .inl (c_y_basis, 10, .inl y_basis))] → va_S A s.heap H locs → lv_has ls 3 [(0, .ref a_y), (1, .int s2.1)] → Z H locs 0 0 (F0 m 2 ls []) := by
    intro n
    induction n with
    | zero =>
      intro s2 H locs ls hn
      exact (itr_0 hn).elim
    | succ n ih =>
      intro s2 H locs ls hn hP hD hS hl
      obtain ⟨y1, hs, hn⟩ := itr_s hn
      unfold pX10_lays_L2 at hs
      refine hZv ?_
      refine lv_iload_n hx hb dX10_lays_2 rfl (lv_at hl 1 rfl) ?_
      refine lv_sipush (v := 297) hx hb dX10_lays_3 (by decide) ?_
      refine lv_icmp_ge (tgt := 22) hx hb dX10_lays_6 (by decide) (fun hc => ?_) (fun hc => ?_)
      · replace hs := it_t hc hs
        replace hs := Option.some.inj hs
        subst hs
        obtain rfl : s2.2 = e2 := hn
        exact hZw (hX2 H locs ls hP hD hS (lv_sub hl [0] rfl))
      · replace hs := it_f hc hs
        refine lv_aload_n hx hb dX10_lays_9 rfl (lv_at hl 0 rfl) ?_
        refine va_get (D := (dC, dI)) (ci := 10) (v := .ref a_y_table) (C := RX10) (T := TX10) (N := 16) hx hb hts hiX10 hown hK hP 0 rfl rfl 8 (by decide) hf19 (fun _ h9 => h9) rfl dX10_lays_10 ?_
        refine lv_iload_n hx hb dX10_lays_13 rfl (lv_at hl 1 rfl) ?_
        refine lv_lconst (v := 0) hx hb dX10_lays_14 (by decide) ?_
        obtain ⟨hg2, hs⟩ := gd_s hs
        refine va_last hx hb hK hP hD hS 3 2 rfl rfl hg2 dX10_lays_15 (fun H locs hP hD hS => ?_)
        have hP : va_P (dC, dI) vwCl [(a_y, .inr (10, [.int y_n, .ref a_y_list, .int y_sets, .ref a_y_others, .int y_otherMany, .ref a_y_costs, .long y_above, .long y_below, .ref a_y_table, .long y_by, .ref a_y_basis, .ref a_y_isSeen, .ref a_y_colour, .ref a_y_rest, .ref a_y_makes, .ref a_y_worst])), (a_y_list, .inl (c_y_list, 16, .inl y_list)), (a_y_costs, .inl (c_y_costs, 10, .inl y_costs)), (a_y_table, .inl (c_y_table, 297, .inr (.inl (vp_updL s2.2 s2.1.toNatClampNeg 0)))), (a_y_basis, .inl (c_y_basis, 10, .inl y_basis))] H := hP
        have hD : va_D A [(a_y, .inr (10, [.int y_n, .ref a_y_list, .int y_sets, .ref a_y_others, .int y_otherMany, .ref a_y_costs, .long y_above, .long y_below, .ref a_y_table, .long y_by, .ref a_y_basis, .ref a_y_isSeen, .ref a_y_colour, .ref a_y_rest, .ref a_y_makes, .ref a_y_worst])), (a_y_list, .inl (c_y_list, 16, .inl y_list)), (a_y_costs, .inl (c_y_costs, 10, .inl y_costs)), (a_y_table, .inl (c_y_table, 297, .inr (.inl (vp_updL s2.2 s2.1.toNatClampNeg 0)))), (a_y_basis, .inl (c_y_basis, 10, .inl y_basis))] := hD
        refine lv_iinc (v := s2.1 + 1) (lv' := [(1, .int (s2.1 + 1)), (0, .ref a_y)]) hx hb dX10_lays_16 hl (k := 1) rfl (by rfl) (by decide) rfl (fun ls hl => ?_)
        refine lv_goto (tgt := 2) hx hb dX10_lays_19 (by decide) ?_
        replace hs := Option.some.inj hs
        subst hs
        exact hZw (ih (s2.1 + 1, vp_updL s2.2 s2.1.toNatClampNeg 0) H locs ls hn hP hD hS (lv_sub hl [1, 0] rfl))
  obtain ⟨n2, hn2⟩ := lp_ex he2
  exact hZw (hL2 n2 (0, y_table) H locs ls hn2 hP hD hS (lv_sub hl [1, 0] rfl))
noncomputable def pX10_enters_L2 (y_table : Nat → Int64) (s2 : Int32) : Option ((Int32) ⊕ ((Int32) ⊕ (Unit))) :=
  if 26 ≤ s2 then (some (Sum.inr (Sum.inr ()))) else (gd (vp_in (270 + s2) 297) (if 0 ≤ (lg_cmp (y_table (270 + s2).toNatClampNeg) 0) then (some (Sum.inl (s2 + 1))) else (some (Sum.inr (Sum.inl s2)))))
noncomputable def pX10_enters (y_table : Nat → Int64) : Option (Int32) :=
  Option.bind (lp (pX10_enters_L2 y_table) 0) (Sum.elim (fun e2_0 => some e2_0) (fun e2_1 => some (-1)))
set_option maxHeartbeats 4000000 in
set_option maxRecDepth 100000 in
theorem c_X10_enters (l : Launch) (dC : Nat → ClassId) (dI : Nat → Nat → Nat) (a_y : Nat) (a_y_list : Nat) (a_y_others : Nat) (a_y_costs : Nat) (a_y_table : Nat) (a_y_basis : Nat) (a_y_isSeen : Nat) (a_y_colour : Nat) (a_y_rest : Nat) (a_y_makes : Nat) (a_y_worst : Nat) (c_y_table : ClassId) (sz : Nat) (y_n : Int32) (y_sets : Int32) (y_otherMany : Int32) (y_above : Int64) (y_below : Int64) (y_by : Int64) (y_table : Nat → Int64) (rv : Int32) (hs : pX10_enters y_table = some rv) : Met l yX10_enters wsX10_enters ({ frames := 0, cells := 0, slots := 0, locals := 0 }) (sPc [.ref a_y] (dC, dI) [(c_y_table, .long)] [(a_y, .inr (10, [.int y_n, .ref a_y_list, .int y_sets, .ref a_y_others, .int y_otherMany, .ref a_y_costs, .long y_above, .long y_below, .ref a_y_table, .long y_by, .ref a_y_basis, .ref a_y_isSeen, .ref a_y_colour, .ref a_y_rest, .ref a_y_makes, .ref a_y_worst])), (a_y_table, .inl (c_y_table, 297, .inr (.inl y_table)))] sz) (va_Qi (fun (r : Int32) (_ : Unit) => r = rv) (sB (dC, dI) [(c_y_table, .long)] (va_A [(a_y, .inr (10, [.int y_n, .ref a_y_list, .int y_sets, .ref a_y_others, .int y_otherMany, .ref a_y_costs, .long y_above, .long y_below, .ref a_y_table, .long y_by, .ref a_y_basis, .ref a_y_isSeen, .ref a_y_colour, .ref a_y_rest, .ref a_y_makes, .ref a_y_worst])), (a_y_table, .inl (c_y_table, 297, .inr (.inl y_table)))] sz) [(a_y, .inr (10, [.int y_n, .ref a_y_list, .int y_sets, .ref a_y_others, .int y_otherMany, .ref a_y_costs, .long y_above, .long y_below, .ref a_y_table, .long y_by, .ref a_y_basis, .ref a_y_isSeen, .ref a_y_colour, .ref a_y_rest, .ref a_y_makes, .ref a_y_worst])), (a_y_table, .inl (c_y_table, 297, .inr (.inl y_table)))]) (va_A [(a_y, .inr (10, [.int y_n, .ref a_y_list, .int y_sets, .ref a_y_others, .int y_otherMany, .ref a_y_costs, .long y_above, .long y_below, .ref a_y_table, .long y_by, .ref a_y_basis, .ref a_y_isSeen, .ref a_y_colour, .ref a_y_rest, .ref a_y_makes, .ref a_y_worst])), (a_y_table, .inl (c_y_table, 297, .inr (.inl y_table)))] sz)) 0 0 (va_A [(a_y, .inr (10, [.int y_n, .ref a_y_list, .int y_sets, .ref a_y_others, .int y_otherMany, .ref a_y_costs, .long y_above, .long y_below, .ref a_y_table, .long y_by, .ref a_y_basis, .ref a_y_isSeen, .ref a_y_colour, .ref a_y_rest, .ref a_y_makes, .ref a_y_worst])), (a_y_table, .inl (c_y_table, 297, .inr (.inl y_table)))] sz) := by
  refine Met.ofW (cc := cX10_enters) (maxL := 2) (ret := (some .int)) (by decide) rfl ?_
  intro p e s m args below meth c s₁ B hml hv
  obtain ⟨rfl, hsz, hP, hK, hD0, hN⟩ := hv
  have hx := B.exec
  have hb := B.bytes
  have hr := B.returns
  have hts := atoms_spec (ws := wsX10_enters) B.pre
  have hown : s.vm.findClass RX10 = some m.cls := findClass_of_methodNamed B.named
  have hlocks := B.notSynchronized
  subst hsz
  have hD := hD0.self (sz := s.heap.size)
  generalize hAe : va_A [(a_y, .inr (10, [.int y_n, .ref a_y_list, .int y_sets, .ref a_y_others, .int y_otherMany, .ref a_y_costs, .long y_above, .long y_below, .ref a_y_table, .long y_by, .ref a_y_basis, .ref a_y_isSeen, .ref a_y_colour, .ref a_y_rest, .ref a_y_makes, .ref a_y_worst])), (a_y_table, .inl (c_y_table, 297, .inr (.inl y_table)))] s.heap.size = A at hD hN ⊢
  have hA : ∀ q : Nat, s.heap.size ≤ q → A q := fun q h => by rw [← hAe]; exact Or.inr h
  have hS : va_S A s.heap s.heap [] := va_S.rf
  have hP : va_P (dC, dI) vwCl [(a_y, .inr (10, [.int y_n, .ref a_y_list, .int y_sets, .ref a_y_others, .int y_otherMany, .ref a_y_costs, .long y_above, .long y_below, .ref a_y_table, .long y_by, .ref a_y_basis, .ref a_y_isSeen, .ref a_y_colour, .ref a_y_rest, .ref a_y_makes, .ref a_y_worst])), (a_y_table, .inl (c_y_table, 297, .inr (.inl y_table)))] s.heap := hP
  have hl := lv_entry ([.ref a_y]) (n := 2) (Nat.le_of_ble_eq_true rfl)
  rw [lg_entry_eq]
  generalize (lg_sl ([.ref a_y]) ++ List.replicate (2 - (lg_sl ([.ref a_y])).length) Slot.unset).toArray = ls at hl ⊢
  have hl : lv_has ls 2 [(0, .ref a_y)] := hl
  have hiX10 : ∀ w ∈ wsX100, w ∈ wsX10_enters := fun _ h => List.mem_cons_of_mem _ (List.mem_append_right _ h)
  have hf19 := hts (.fieldLink RX10 19 "MeetSetsModel" "table" "[J") (t1_ (al_ h1_))
  refine w_abs (fun Z hZv hZw => ?_)
  refine hZv ?_
  obtain ⟨H, hH⟩ : ∃ H, H = s.heap := ⟨_, rfl⟩
  obtain ⟨locs, hlo⟩ : ∃ L : List Loc, L = [] := ⟨_, rfl⟩
  rw [← hlo, ← hH]
  have hS : va_S A s.heap H locs := by rw [hlo, hH]; exact hS
  have hP : va_P (dC, dI) vwCl [(a_y, .inr (10, [.int y_n, .ref a_y_list, .int y_sets, .ref a_y_others, .int y_otherMany, .ref a_y_costs, .long y_above, .long y_below, .ref a_y_table, .long y_by, .ref a_y_basis, .ref a_y_isSeen, .ref a_y_colour, .ref a_y_rest, .ref a_y_makes, .ref a_y_worst])), (a_y_table, .inl (c_y_table, 297, .inr (.inl y_table)))] H := by rw [hH]; exact hP
  clear hH hlo
  unfold pX10_enters at hs
  refine lv_iconst (v := 0) hx hb dX10_enters_0 (by decide) ?_
  refine lv_istore_n (lv' := [(1, .int 0), (0, .ref a_y)]) hx hb dX10_enters_1 rfl hl (by decide) rfl (fun ls hl => ?_)
  obtain ⟨e2, he2, hs⟩ := bd_s hs
  have hX2_0 : ∀ (e2_0 : Int32), (Sum.inl e2_0) = e2 → ∀ (H : Heap) (locs : List Loc) (ls : Array Slot), va_P (dC, dI) vwCl [(a_y, .inr (10, [.int y_n, .ref a_y_list, .int y_sets, .ref a_y_others, .int y_otherMany, .ref a_y_costs, .long y_above, .long y_below, .ref a_y_table, .long y_by, .ref a_y_basis, .ref a_y_isSeen, .ref a_y_colour, .ref a_y_rest, .ref a_y_makes, .ref a_y_worst])), (a_y_table, .inl (c_y_table, 297, .inr (.inl y_table)))] H → va_D A [(a_y, .inr (10, [.int y_n, .ref a_y_list, .int y_sets, .ref a_y_others, .int y_otherMany, .ref a_y_costs, .long y_above, .long y_below, .ref a_y_table, .long y_by, .ref a_y_basis, .ref a_y_isSeen, .ref a_y_colour, .ref a_y_rest, .ref a_y_makes, .ref a_y_worst])), (a_y_table, .inl (c_y_table, 297, .inr (.inl y_table)))] → va_S A s.heap H locs → lv_has ls 2 [(1, .int e2_0)] → Z H locs 0 0 (F0 m 23 ls []) := by
    intro e2_0 he H locs ls hP hD hS hl
    subst he
    replace hs := sm_l hs
    refine hZv ?_
    refine lv_iload_n hx hb dX10_enters_23 rfl (lv_at hl 0 rfl) ?_
    replace hs := Option.some.inj hs
    subst hs
    exact W.iret (v := e2_0) hx hb hr (fun t ht hW => ⟨⟨e2_0, (), rfl, rfl, by rw [ht]; exact hP, va_K.moved hW.alike hK, hD⟩, hS.F ht⟩) hS.2.2 dX10_enters_24
  have hX2_1 : ∀ (e2_1 : Unit), (Sum.inr e2_1) = e2 → ∀ (H : Heap) (locs : List Loc) (ls : Array Slot), va_P (dC, dI) vwCl [(a_y, .inr (10, [.int y_n, .ref a_y_list, .int y_sets, .ref a_y_others, .int y_otherMany, .ref a_y_costs, .long y_above, .long y_below, .ref a_y_table, .long y_by, .ref a_y_basis, .ref a_y_isSeen, .ref a_y_colour, .ref a_y_rest, .ref a_y_makes, .ref a_y_worst])), (a_y_table, .inl (c_y_table, 297, .inr (.inl y_table)))] H → va_D A [(a_y, .inr (10, [.int y_n, .ref a_y_list, .int y_sets, .ref a_y_others, .int y_otherMany, .ref a_y_costs, .long y_above, .long y_below, .ref a_y_table, .long y_by, .ref a_y_basis, .ref a_y_isSeen, .ref a_y_colour, .ref a_y_rest, .ref a_y_makes, .ref a_y_worst])), (a_y_table, .inl (c_y_table, 297, .inr (.inl y_table)))] → va_S A s.heap H locs → lv_has ls 2 [] → Z H locs 0 0 (F0 m 31 ls []) := by
    intro e2_1 he H locs ls hP hD hS hl
    subst he
    replace hs := sm_r hs
    refine hZv ?_
    refine lv_iconst (v := (-1)) hx hb dX10_enters_31 (by decide) ?_
    replace hs := Option.some.inj hs
    subst hs
    exact W.iret (v := (-1)) hx hb hr (fun t ht hW => ⟨⟨(-1), (), rfl, rfl, by rw [ht]; exact hP, va_K.moved hW.alike hK, hD⟩, hS.F ht⟩) hS.2.2 dX10_enters_32
  clear hs
  have hL2 : ∀ (n : Nat) (s2 : Int32) (H : Heap) (locs : List Loc) (ls : Array Slot), itr (pX10_enters_L2 y_table) n s2 = some e2 → va_P (dC, dI) vwCl [(a_y, .inr (10, [.int y_n, .ref a_y_list, .int y_sets, .ref a_y_others, .int y_otherMany, .ref a_y_costs, .long y_above, .long y_below, .ref a_y_table, .long y_by, .ref a_y_basis, .ref a_y_isSeen, .ref a_y_colour, .ref a_y_rest, .ref a_y_makes, .ref a_y_worst])), (a_y_table, .inl (c_y_table, 297, .inr (.inl y_table)))] H → va_D A [(a_y, .inr (10, [.int y_n, .ref a_y_list, .int y_sets, .ref a_y_others, .int y_otherMany, .ref a_y_costs, .long y_above, .long y_below, .ref a_y_table, .long y_by, .ref a_y_basis, .ref a_y_isSeen, .ref a_y_colour, .ref a_y_rest, .ref a_y_makes, .ref a_y_worst])), (a_y_table, .inl (c_y_table, 297, .inr (.inl y_table)))] → va_S A s.heap H locs → lv_has ls 2 [(0, .ref a_y), (1, .int s2)] → Z H locs 0 0 (F0 m 2 ls []) := by
    intro n
    induction n with
    | zero =>
      intro s2 H locs ls hn
      exact (itr_0 hn).elim
    | succ n ih =>
      intro s2 H locs ls hn hP hD hS hl
      obtain ⟨y1, hs, hn⟩ := itr_s hn
      unfold pX10_enters_L2 at hs
      refine hZv ?_
      refine lv_iload_n hx hb dX10_enters_2 rfl (lv_at hl 1 rfl) ?_
      refine lv_bipush (v := 26) hx hb dX10_enters_3 (by decide) ?_
      refine lv_icmp_ge (tgt := 31) hx hb dX10_enters_5 (by decide) (fun hc => ?_) (fun hc => ?_)
      · replace hs := it_t hc hs
        replace hs := Option.some.inj hs
        subst hs
        obtain rfl : (Sum.inr ()) = e2 := hn
        exact hZw (hX2_1 () rfl H locs ls hP hD hS (lv_sub hl [] rfl))
      · replace hs := it_f hc hs
        refine lv_aload_n hx hb dX10_enters_8 rfl (lv_at hl 0 rfl) ?_
        refine va_get (D := (dC, dI)) (ci := 10) (v := .ref a_y_table) (C := RX10) (T := TX10) (N := 16) hx hb hts hiX10 hown hK hP 0 rfl rfl 8 (by decide) hf19 (fun _ h9 => h9) rfl dX10_enters_9 ?_
        refine lv_sipush (v := 270) hx hb dX10_enters_12 (by decide) ?_
        refine lv_iload_n hx hb dX10_enters_15 rfl (lv_at hl 1 rfl) ?_
        refine lv_iadd hx hb dX10_enters_16 ?_
        obtain ⟨hg2, hs⟩ := gd_s hs
        refine va_lald hx hb hK hP 1 0 rfl rfl hg2 dX10_enters_17 ?_
        refine lv_lconst (v := 0) hx hb dX10_enters_18 (by decide) ?_
        refine W.lcmp hx hb dX10_enters_19 ?_
        refine lv_if_ge (tgt := 25) hx hb dX10_enters_20 (by decide) (fun hc => ?_) (fun hc => ?_)
        · replace hs := it_t hc hs
          refine lv_iinc (v := s2 + 1) (lv' := [(1, .int (s2 + 1)), (0, .ref a_y)]) hx hb dX10_enters_25 hl (k := 1) rfl (by rfl) (by decide) rfl (fun ls hl => ?_)
          refine lv_goto (tgt := 2) hx hb dX10_enters_28 (by decide) ?_
          replace hs := Option.some.inj hs
          subst hs
          exact hZw (ih (s2 + 1) H locs ls hn hP hD hS (lv_sub hl [1, 0] rfl))
        · replace hs := it_f hc hs
          replace hs := Option.some.inj hs
          subst hs
          obtain rfl : (Sum.inl s2) = e2 := hn
          exact hZw (hX2_0 s2 rfl H locs ls hP hD hS (lv_sub hl [1] rfl))
  obtain ⟨n2, hn2⟩ := lp_ex he2
  exact hZw (hL2 n2 0 H locs ls hn2 hP hD hS (lv_sub hl [1, 0] rfl))
noncomputable def pX10_leaves_J119_3 (s4 : Int32 × Int32) (t119 : Unit) : Option ((Int32 × Int32) ⊕ (Int32)) :=
  some (Sum.inl (s4.2, s4.2 + 1))
noncomputable def pX10_leaves_J123_4 (s4 : Int32 × Int32) (t123 : Unit) : Option ((Int32 × Int32) ⊕ (Int32)) :=
  some (Sum.inl (s4.1, s4.2 + 1))
noncomputable def pX10_leaves_L4 (y_n : Int32) (y_table : Nat → Int64) (y_basis : Nat → Int32) (p1 : Int32) (s4 : Int32 × Int32) : Option ((Int32 × Int32) ⊕ (Int32)) :=
  if y_n ≤ s4.2 then (some (Sum.inr s4.1)) else (gd (vp_in ((27 * s4.2) + p1) 297) (if (lg_cmp (y_table ((27 * s4.2) + p1).toNatClampNeg) 0) ≤ 0 then (some (Sum.inl (s4.1, s4.2 + 1))) else (Option.bind (if s4.1 = (-1) then (some (-1)) else (gd (vp_in ((27 * s4.2) + 26) 297) (gd (vp_in ((27 * s4.1) + p1) 297) (gd (vp_in ((27 * s4.1) + 26) 297) (gd (vp_in ((27 * s4.2) + p1) 297) (some (((y_table ((27 * s4.2) + 26).toNatClampNeg) * (y_table ((27 * s4.1) + p1).toNatClampNeg)) - ((y_table ((27 * s4.1) + 26).toNatClampNeg) * (y_table ((27 * s4.2) + p1).toNatClampNeg)))))))) : Option (Int64)) (fun t88 => if (lg_cmp t88 0) < 0 then (pX10_leaves_J119_3 s4 ()) else (if (lg_cmp t88 0) = 0 then (gd (vp_in s4.2 10) (gd (vp_in s4.1 10) (if (y_basis s4.1.toNatClampNeg) ≤ (y_basis s4.2.toNatClampNeg) then (pX10_leaves_J123_4 s4 ()) else (pX10_leaves_J119_3 s4 ())))) else (pX10_leaves_J123_4 s4 ()))))))
noncomputable def pX10_leaves (y_n : Int32) (y_table : Nat → Int64) (y_basis : Nat → Int32) (p1 : Int32) : Option (Int32) :=
  Option.bind (lp (pX10_leaves_L4 y_n y_table y_basis p1) ((-1), 0)) (fun e4 => some e4)
set_option maxHeartbeats 4000000 in
set_option maxRecDepth 100000 in
theorem c_X10_leaves (l : Launch) (dC : Nat → ClassId) (dI : Nat → Nat → Nat) (a_y : Nat) (a_y_list : Nat) (a_y_others : Nat) (a_y_costs : Nat) (a_y_table : Nat) (a_y_basis : Nat) (a_y_isSeen : Nat) (a_y_colour : Nat) (a_y_rest : Nat) (a_y_makes : Nat) (a_y_worst : Nat) (c_y_table c_y_basis : ClassId) (sz : Nat) (y_n : Int32) (y_sets : Int32) (y_otherMany : Int32) (y_above : Int64) (y_below : Int64) (y_by : Int64) (y_table : Nat → Int64) (y_basis : Nat → Int32) (p1 : Int32) (rv : Int32) (hs : pX10_leaves y_n y_table y_basis p1 = some rv) : Met l yX10_leaves wsX10_leaves ({ frames := 0, cells := 0, slots := 0, locals := 0 }) (sPc [.ref a_y, .int p1] (dC, dI) [(c_y_table, .long), (c_y_basis, .int)] [(a_y, .inr (10, [.int y_n, .ref a_y_list, .int y_sets, .ref a_y_others, .int y_otherMany, .ref a_y_costs, .long y_above, .long y_below, .ref a_y_table, .long y_by, .ref a_y_basis, .ref a_y_isSeen, .ref a_y_colour, .ref a_y_rest, .ref a_y_makes, .ref a_y_worst])), (a_y_table, .inl (c_y_table, 297, .inr (.inl y_table))), (a_y_basis, .inl (c_y_basis, 10, .inl y_basis))] sz) (va_Qi (fun (r : Int32) (_ : Unit) => r = rv) (sB (dC, dI) [(c_y_table, .long), (c_y_basis, .int)] (va_A [(a_y, .inr (10, [.int y_n, .ref a_y_list, .int y_sets, .ref a_y_others, .int y_otherMany, .ref a_y_costs, .long y_above, .long y_below, .ref a_y_table, .long y_by, .ref a_y_basis, .ref a_y_isSeen, .ref a_y_colour, .ref a_y_rest, .ref a_y_makes, .ref a_y_worst])), (a_y_table, .inl (c_y_table, 297, .inr (.inl y_table))), (a_y_basis, .inl (c_y_basis, 10, .inl y_basis))] sz) [(a_y, .inr (10, [.int y_n, .ref a_y_list, .int y_sets, .ref a_y_others, .int y_otherMany, .ref a_y_costs, .long y_above, .long y_below, .ref a_y_table, .long y_by, .ref a_y_basis, .ref a_y_isSeen, .ref a_y_colour, .ref a_y_rest, .ref a_y_makes, .ref a_y_worst])), (a_y_table, .inl (c_y_table, 297, .inr (.inl y_table))), (a_y_basis, .inl (c_y_basis, 10, .inl y_basis))]) (va_A [(a_y, .inr (10, [.int y_n, .ref a_y_list, .int y_sets, .ref a_y_others, .int y_otherMany, .ref a_y_costs, .long y_above, .long y_below, .ref a_y_table, .long y_by, .ref a_y_basis, .ref a_y_isSeen, .ref a_y_colour, .ref a_y_rest, .ref a_y_makes, .ref a_y_worst])), (a_y_table, .inl (c_y_table, 297, .inr (.inl y_table))), (a_y_basis, .inl (c_y_basis, 10, .inl y_basis))] sz)) 0 0 (va_A [(a_y, .inr (10, [.int y_n, .ref a_y_list, .int y_sets, .ref a_y_others, .int y_otherMany, .ref a_y_costs, .long y_above, .long y_below, .ref a_y_table, .long y_by, .ref a_y_basis, .ref a_y_isSeen, .ref a_y_colour, .ref a_y_rest, .ref a_y_makes, .ref a_y_worst])), (a_y_table, .inl (c_y_table, 297, .inr (.inl y_table))), (a_y_basis, .inl (c_y_basis, 10, .inl y_basis))] sz) := by
  refine Met.ofW (cc := cX10_leaves) (maxL := 6) (ret := (some .int)) (by decide) rfl ?_
  intro p e s m args below meth c s₁ B hml hv
  obtain ⟨rfl, hsz, hP, hK, hD0, hN⟩ := hv
  have hx := B.exec
  have hb := B.bytes
  have hr := B.returns
  have hts := atoms_spec (ws := wsX10_leaves) B.pre
  have hown : s.vm.findClass RX10 = some m.cls := findClass_of_methodNamed B.named
  have hlocks := B.notSynchronized
  subst hsz
  have hD := hD0.self (sz := s.heap.size)
  generalize hAe : va_A [(a_y, .inr (10, [.int y_n, .ref a_y_list, .int y_sets, .ref a_y_others, .int y_otherMany, .ref a_y_costs, .long y_above, .long y_below, .ref a_y_table, .long y_by, .ref a_y_basis, .ref a_y_isSeen, .ref a_y_colour, .ref a_y_rest, .ref a_y_makes, .ref a_y_worst])), (a_y_table, .inl (c_y_table, 297, .inr (.inl y_table))), (a_y_basis, .inl (c_y_basis, 10, .inl y_basis))] s.heap.size = A at hD hN ⊢
  have hA : ∀ q : Nat, s.heap.size ≤ q → A q := fun q h => by rw [← hAe]; exact Or.inr h
  have hS : va_S A s.heap s.heap [] := va_S.rf
  have hP : va_P (dC, dI) vwCl [(a_y, .inr (10, [.int y_n, .ref a_y_list, .int y_sets, .ref a_y_others, .int y_otherMany, .ref a_y_costs, .long y_above, .long y_below, .ref a_y_table, .long y_by, .ref a_y_basis, .ref a_y_isSeen, .ref a_y_colour, .ref a_y_rest, .ref a_y_makes, .ref a_y_worst])), (a_y_table, .inl (c_y_table, 297, .inr (.inl y_table))), (a_y_basis, .inl (c_y_basis, 10, .inl y_basis))] s.heap := hP
  have hl := lv_entry ([.ref a_y, .int p1]) (n := 6) (Nat.le_of_ble_eq_true rfl)
  rw [lg_entry_eq]
  generalize (lg_sl ([.ref a_y, .int p1]) ++ List.replicate (6 - (lg_sl ([.ref a_y, .int p1])).length) Slot.unset).toArray = ls at hl ⊢
  have hl : lv_has ls 6 [(0, .ref a_y), (1, .int p1)] := hl
  have hiX10 : ∀ w ∈ wsX100, w ∈ wsX10_leaves := fun _ h => List.mem_cons_of_mem _ (List.mem_append_right _ h)
  have hf43 := hts (.fieldLink RX10 43 "MeetSetsModel" "n" "I") (t1_ (al_ h1_))
  have hf19 := hts (.fieldLink RX10 19 "MeetSetsModel" "table" "[J") (t1_ (al_ (t1_ h1_)))
  have hf23 := hts (.fieldLink RX10 23 "MeetSetsModel" "basis" "[I") (t1_ (al_ (t1_ (t1_ (t1_ h1_)))))
  refine w_abs (fun Z hZv hZw => ?_)
  refine hZv ?_
  obtain ⟨H, hH⟩ : ∃ H, H = s.heap := ⟨_, rfl⟩
  obtain ⟨locs, hlo⟩ : ∃ L : List Loc, L = [] := ⟨_, rfl⟩
  rw [← hlo, ← hH]
  have hS : va_S A s.heap H locs := by rw [hlo, hH]; exact hS
  have hP : va_P (dC, dI) vwCl [(a_y, .inr (10, [.int y_n, .ref a_y_list, .int y_sets, .ref a_y_others, .int y_otherMany, .ref a_y_costs, .long y_above, .long y_below, .ref a_y_table, .long y_by, .ref a_y_basis, .ref a_y_isSeen, .ref a_y_colour, .ref a_y_rest, .ref a_y_makes, .ref a_y_worst])), (a_y_table, .inl (c_y_table, 297, .inr (.inl y_table))), (a_y_basis, .inl (c_y_basis, 10, .inl y_basis))] H := by rw [hH]; exact hP
  clear hH hlo
  unfold pX10_leaves at hs
  refine lv_iconst (v := (-1)) hx hb dX10_leaves_0 (by decide) ?_
  refine lv_istore_n (lv' := [(2, .int (-1)), (0, .ref a_y), (1, .int p1)]) hx hb dX10_leaves_1 rfl hl (by decide) rfl (fun ls hl => ?_)
  refine lv_iconst (v := 0) hx hb dX10_leaves_2 (by decide) ?_
  refine lv_istore_n (lv' := [(3, .int 0), (2, .int (-1)), (0, .ref a_y), (1, .int p1)]) hx hb dX10_leaves_3 rfl hl (by decide) rfl (fun ls hl => ?_)
  obtain ⟨e4, he4, hs⟩ := bd_s hs
  have hX4 : ∀ (H : Heap) (locs : List Loc) (ls : Array Slot), va_P (dC, dI) vwCl [(a_y, .inr (10, [.int y_n, .ref a_y_list, .int y_sets, .ref a_y_others, .int y_otherMany, .ref a_y_costs, .long y_above, .long y_below, .ref a_y_table, .long y_by, .ref a_y_basis, .ref a_y_isSeen, .ref a_y_colour, .ref a_y_rest, .ref a_y_makes, .ref a_y_worst])), (a_y_table, .inl (c_y_table, 297, .inr (.inl y_table))), (a_y_basis, .inl (c_y_basis, 10, .inl y_basis))] H → va_D A [(a_y, .inr (10, [.int y_n, .ref a_y_list, .int y_sets, .ref a_y_others, .int y_otherMany, .ref a_y_costs, .long y_above, .long y_below, .ref a_y_table, .long y_by, .ref a_y_basis, .ref a_y_isSeen, .ref a_y_colour, .ref a_y_rest, .ref a_y_makes, .ref a_y_worst])), (a_y_table, .inl (c_y_table, 297, .inr (.inl y_table))), (a_y_basis, .inl (c_y_basis, 10, .inl y_basis))] → va_S A s.heap H locs → lv_has ls 6 [(2, .int e4)] → Z H locs 0 0 (F0 m 131 ls []) := by
    intro H locs ls hP hD hS hl
    refine hZv ?_
    refine lv_iload_n hx hb dX10_leaves_131 rfl (lv_at hl 0 rfl) ?_
    replace hs := Option.some.inj hs
    subst hs
    exact W.iret (v := e4) hx hb hr (fun t ht hW => ⟨⟨e4, (), rfl, rfl, by rw [ht]; exact hP, va_K.moved hW.alike hK, hD⟩, hS.F ht⟩) hS.2.2 dX10_leaves_132
  clear hs
  have hL4 : ∀ (n : Nat) (s4 : Int32 × Int32) (H : Heap) (locs : List Loc) (ls : Array Slot), itr (pX10_leaves_L4 y_n y_table y_basis p1) n s4 = some e4 → va_P (dC, dI) vwCl [(a_y, .inr (10, [.int y_n, .ref a_y_list, .int y_sets, .ref a_y_others, .int y_otherMany, .ref a_y_costs, .long y_above, .long y_below, .ref a_y_table, .long y_by, .ref a_y_basis, .ref a_y_isSeen, .ref a_y_colour, .ref a_y_rest, .ref a_y_makes, .ref a_y_worst])), (a_y_table, .inl (c_y_table, 297, .inr (.inl y_table))), (a_y_basis, .inl (c_y_basis, 10, .inl y_basis))] H → va_D A [(a_y, .inr (10, [.int y_n, .ref a_y_list, .int y_sets, .ref a_y_others, .int y_otherMany, .ref a_y_costs, .long y_above, .long y_below, .ref a_y_table, .long y_by, .ref a_y_basis, .ref a_y_isSeen, .ref a_y_colour, .ref a_y_rest, .ref a_y_makes, .ref a_y_worst])), (a_y_table, .inl (c_y_table, 297, .inr (.inl y_table))), (a_y_basis, .inl (c_y_basis, 10, .inl y_basis))] → va_S A s.heap H locs → lv_has ls 6 [(0, .ref a_y), (1, .int p1), (2, .int s4.1), (3, .int s4.2)] → Z H locs 0 0 (F0 m 4 ls []) := by
    intro n
    induction n with
    | zero =>
      intro s4 H locs ls hn
      exact (itr_0 hn).elim
    | succ n ih =>
      intro s4 H locs ls hn hP hD hS hl
      obtain ⟨y1, hs, hn⟩ := itr_s hn
      unfold pX10_leaves_L4 at hs
      refine hZv ?_
      refine lv_iload_n hx hb dX10_leaves_4 rfl (lv_at hl 3 rfl) ?_
      refine lv_aload_n hx hb dX10_leaves_5 rfl (lv_at hl 0 rfl) ?_
      refine va_get (D := (dC, dI)) (ci := 10) (v := .int y_n) (C := RX10) (T := TX10) (N := 16) hx hb hts hiX10 hown hK hP 0 rfl rfl 0 (by decide) hf43 (fun _ h9 => h9) rfl dX10_leaves_6 ?_
      refine lv_icmp_ge (tgt := 131) hx hb dX10_leaves_9 (by decide) (fun hc => ?_) (fun hc => ?_)
      · replace hs := it_t hc hs
        replace hs := Option.some.inj hs
        subst hs
        obtain rfl : s4.1 = e4 := hn
        exact hZw (hX4 H locs ls hP hD hS (lv_sub hl [2] rfl))
      · replace hs := it_f hc hs
        refine lv_aload_n hx hb dX10_leaves_12 rfl (lv_at hl 0 rfl) ?_
        refine va_get (D := (dC, dI)) (ci := 10) (v := .ref a_y_table) (C := RX10) (T := TX10) (N := 16) hx hb hts hiX10 hown hK hP 0 rfl rfl 8 (by decide) hf19 (fun _ h9 => h9) rfl dX10_leaves_13 ?_
        refine lv_bipush (v := 27) hx hb dX10_leaves_16 (by decide) ?_
        refine lv_iload_n hx hb dX10_leaves_18 rfl (lv_at hl 3 rfl) ?_
        refine lv_imul hx hb dX10_leaves_19 ?_
        refine lv_iload_n hx hb dX10_leaves_20 rfl (lv_at hl 1 rfl) ?_
        refine lv_iadd hx hb dX10_leaves_21 ?_
        obtain ⟨hg2, hs⟩ := gd_s hs
        refine va_lald hx hb hK hP 1 0 rfl rfl hg2 dX10_leaves_22 ?_
        refine lv_lconst (v := 0) hx hb dX10_leaves_23 (by decide) ?_
        refine W.lcmp hx hb dX10_leaves_24 ?_
        refine lv_if_le (tgt := 125) hx hb dX10_leaves_25 (by decide) (fun hc => ?_) (fun hc => ?_)
        · replace hs := it_t hc hs
          refine lv_iinc (v := s4.2 + 1) (lv' := [(3, .int (s4.2 + 1)), (0, .ref a_y), (1, .int p1), (2, .int s4.1)]) hx hb dX10_leaves_125 hl (k := 3) rfl (by rfl) (by decide) rfl (fun ls hl => ?_)
          refine lv_goto (tgt := 4) hx hb dX10_leaves_128 (by decide) ?_
          replace hs := Option.some.inj hs
          subst hs
          exact hZw (ih (s4.1, s4.2 + 1) H locs ls hn hP hD hS (lv_sub hl [1, 2, 3, 0] rfl))
        · replace hs := it_f hc hs
          refine lv_iload_n hx hb dX10_leaves_28 rfl (lv_at hl 2 rfl) ?_
          refine lv_iconst (v := (-1)) hx hb dX10_leaves_29 (by decide) ?_
          obtain ⟨t88, hq88, hs⟩ := bd_s hs
          have hJ88 : ∀ (H : Heap) (locs : List Loc) (ls : Array Slot), va_P (dC, dI) vwCl [(a_y, .inr (10, [.int y_n, .ref a_y_list, .int y_sets, .ref a_y_others, .int y_otherMany, .ref a_y_costs, .long y_above, .long y_below, .ref a_y_table, .long y_by, .ref a_y_basis, .ref a_y_isSeen, .ref a_y_colour, .ref a_y_rest, .ref a_y_makes, .ref a_y_worst])), (a_y_table, .inl (c_y_table, 297, .inr (.inl y_table))), (a_y_basis, .inl (c_y_basis, 10, .inl y_basis))] H → va_D A [(a_y, .inr (10, [.int y_n, .ref a_y_list, .int y_sets, .ref a_y_others, .int y_otherMany, .ref a_y_costs, .long y_above, .long y_below, .ref a_y_table, .long y_by, .ref a_y_basis, .ref a_y_isSeen, .ref a_y_colour, .ref a_y_rest, .ref a_y_makes, .ref a_y_worst])), (a_y_table, .inl (c_y_table, 297, .inr (.inl y_table))), (a_y_basis, .inl (c_y_basis, 10, .inl y_basis))] → va_S A s.heap H locs → lv_has ls 6 [(0, .ref a_y), (1, .int p1), (2, .int s4.1), (3, .int s4.2)] → Z H locs 0 0 (F0 m 88 ls [.long t88]) := by
            intro H locs ls hP hD hS hl
            refine hZv ?_
            refine lv_lstore (lv' := [(4, .long t88), (0, .ref a_y), (1, .int p1), (2, .int s4.1), (3, .int s4.2)]) hx hb dX10_leaves_88 hl (by decide) rfl (fun ls hl => ?_)
            refine lv_lload hx hb dX10_leaves_90 (lv_at hl 0 rfl) ?_
            refine lv_lconst (v := 0) hx hb dX10_leaves_92 (by decide) ?_
            refine W.lcmp hx hb dX10_leaves_93 ?_
            have hJ119 : ∀ (t119 : Unit), pX10_leaves_J119_3 s4 t119 = some y1 → ∀ (H : Heap) (locs : List Loc) (ls : Array Slot), va_P (dC, dI) vwCl [(a_y, .inr (10, [.int y_n, .ref a_y_list, .int y_sets, .ref a_y_others, .int y_otherMany, .ref a_y_costs, .long y_above, .long y_below, .ref a_y_table, .long y_by, .ref a_y_basis, .ref a_y_isSeen, .ref a_y_colour, .ref a_y_rest, .ref a_y_makes, .ref a_y_worst])), (a_y_table, .inl (c_y_table, 297, .inr (.inl y_table))), (a_y_basis, .inl (c_y_basis, 10, .inl y_basis))] H → va_D A [(a_y, .inr (10, [.int y_n, .ref a_y_list, .int y_sets, .ref a_y_others, .int y_otherMany, .ref a_y_costs, .long y_above, .long y_below, .ref a_y_table, .long y_by, .ref a_y_basis, .ref a_y_isSeen, .ref a_y_colour, .ref a_y_rest, .ref a_y_makes, .ref a_y_worst])), (a_y_table, .inl (c_y_table, 297, .inr (.inl y_table))), (a_y_basis, .inl (c_y_basis, 10, .inl y_basis))] → va_S A s.heap H locs → lv_has ls 6 [(0, .ref a_y), (1, .int p1), (3, .int s4.2)] → Z H locs 0 0 (F0 m 119 ls []) := by
              intro t119 hs H locs ls hP hD hS hl
              refine hZv ?_
              unfold pX10_leaves_J119_3 at hs
              refine lv_iload_n hx hb dX10_leaves_119 rfl (lv_at hl 2 rfl) ?_
              refine lv_goto (tgt := 124) hx hb dX10_leaves_120 (by decide) ?_
              refine lv_istore_n (lv' := [(2, .int s4.2), (0, .ref a_y), (1, .int p1), (3, .int s4.2)]) hx hb dX10_leaves_124 rfl hl (by decide) rfl (fun ls hl => ?_)
              refine lv_iinc (v := s4.2 + 1) (lv' := [(3, .int (s4.2 + 1)), (2, .int s4.2), (0, .ref a_y), (1, .int p1)]) hx hb dX10_leaves_125 hl (k := 3) rfl (by rfl) (by decide) rfl (fun ls hl => ?_)
              refine lv_goto (tgt := 4) hx hb dX10_leaves_128 (by decide) ?_
              replace hs := Option.some.inj hs
              subst hs
              exact hZw (ih (s4.2, s4.2 + 1) H locs ls hn hP hD hS (lv_sub hl [2, 3, 1, 0] rfl))
            refine lv_if_lt (tgt := 119) hx hb dX10_leaves_94 (by decide) (fun hc => ?_) (fun hc => ?_)
            · replace hs := it_t hc hs
              exact hZw (hJ119 () hs H locs ls hP hD hS (lv_sub hl [1, 2, 4] rfl))
            · replace hs := it_f hc hs
              refine lv_lload hx hb dX10_leaves_97 (lv_at hl 0 rfl) ?_
              refine lv_lconst (v := 0) hx hb dX10_leaves_99 (by decide) ?_
              refine W.lcmp hx hb dX10_leaves_100 ?_
              have hJ123 : ∀ (t123 : Unit), pX10_leaves_J123_4 s4 t123 = some y1 → ∀ (H : Heap) (locs : List Loc) (ls : Array Slot), va_P (dC, dI) vwCl [(a_y, .inr (10, [.int y_n, .ref a_y_list, .int y_sets, .ref a_y_others, .int y_otherMany, .ref a_y_costs, .long y_above, .long y_below, .ref a_y_table, .long y_by, .ref a_y_basis, .ref a_y_isSeen, .ref a_y_colour, .ref a_y_rest, .ref a_y_makes, .ref a_y_worst])), (a_y_table, .inl (c_y_table, 297, .inr (.inl y_table))), (a_y_basis, .inl (c_y_basis, 10, .inl y_basis))] H → va_D A [(a_y, .inr (10, [.int y_n, .ref a_y_list, .int y_sets, .ref a_y_others, .int y_otherMany, .ref a_y_costs, .long y_above, .long y_below, .ref a_y_table, .long y_by, .ref a_y_basis, .ref a_y_isSeen, .ref a_y_colour, .ref a_y_rest, .ref a_y_makes, .ref a_y_worst])), (a_y_table, .inl (c_y_table, 297, .inr (.inl y_table))), (a_y_basis, .inl (c_y_basis, 10, .inl y_basis))] → va_S A s.heap H locs → lv_has ls 6 [(0, .ref a_y), (1, .int p1), (2, .int s4.1), (3, .int s4.2)] → Z H locs 0 0 (F0 m 123 ls []) := by
                intro t123 hs H locs ls hP hD hS hl
                refine hZv ?_
                unfold pX10_leaves_J123_4 at hs
                refine lv_iload_n hx hb dX10_leaves_123 rfl (lv_at hl 2 rfl) ?_
                refine lv_istore_n (lv' := [(2, .int s4.1), (0, .ref a_y), (1, .int p1), (3, .int s4.2)]) hx hb dX10_leaves_124 rfl hl (by decide) rfl (fun ls hl => ?_)
                refine lv_iinc (v := s4.2 + 1) (lv' := [(3, .int (s4.2 + 1)), (2, .int s4.1), (0, .ref a_y), (1, .int p1)]) hx hb dX10_leaves_125 hl (k := 3) rfl (by rfl) (by decide) rfl (fun ls hl => ?_)
                refine lv_goto (tgt := 4) hx hb dX10_leaves_128 (by decide) ?_
                replace hs := Option.some.inj hs
                subst hs
                exact hZw (ih (s4.1, s4.2 + 1) H locs ls hn hP hD hS (lv_sub hl [2, 3, 1, 0] rfl))
              refine lv_if_ne (tgt := 123) hx hb dX10_leaves_101 (by decide) (fun hc => ?_) (fun hc => ?_)
              · replace hs := it_f hc hs
                exact hZw (hJ123 () hs H locs ls hP hD hS (lv_sub hl [1, 2, 3, 4] rfl))
              · replace hs := it_t hc hs
                refine lv_aload_n hx hb dX10_leaves_104 rfl (lv_at hl 1 rfl) ?_
                refine va_get (D := (dC, dI)) (ci := 10) (v := .ref a_y_basis) (C := RX10) (T := TX10) (N := 16) hx hb hts hiX10 hown hK hP 0 rfl rfl 10 (by decide) hf23 (fun _ h9 => h9) rfl dX10_leaves_105 ?_
                refine lv_iload_n hx hb dX10_leaves_108 rfl (lv_at hl 4 rfl) ?_
                obtain ⟨hg5, hs⟩ := gd_s hs
                refine va_iald hx hb hK hP 2 1 rfl rfl hg5 dX10_leaves_109 ?_
                refine lv_aload_n hx hb dX10_leaves_110 rfl (lv_at hl 1 rfl) ?_
                refine va_get (D := (dC, dI)) (ci := 10) (v := .ref a_y_basis) (C := RX10) (T := TX10) (N := 16) hx hb hts hiX10 hown hK hP 0 rfl rfl 10 (by decide) hf23 (fun _ h9 => h9) rfl dX10_leaves_111 ?_
                refine lv_iload_n hx hb dX10_leaves_114 rfl (lv_at hl 3 rfl) ?_
                obtain ⟨hg6, hs⟩ := gd_s hs
                refine va_iald hx hb hK hP 2 1 rfl rfl hg6 dX10_leaves_115 ?_
                refine lv_icmp_ge (tgt := 123) hx hb dX10_leaves_116 (by decide) (fun hc => ?_) (fun hc => ?_)
                · replace hs := it_t hc hs
                  exact hZw (hJ123 () hs H locs ls hP hD hS (lv_sub hl [1, 2, 3, 4] rfl))
                · replace hs := it_f hc hs
                  exact hZw (hJ119 () hs H locs ls hP hD hS (lv_sub hl [1, 2, 4] rfl))
          clear hs
          have hs := hq88
          refine lv_icmp_ne (tgt := 39) hx hb dX10_leaves_30 (by decide) (fun hc => ?_) (fun hc => ?_)
          · replace hs := it_f hc hs
            refine lv_aload_n hx hb dX10_leaves_39 rfl (lv_at hl 0 rfl) ?_
            refine va_get (D := (dC, dI)) (ci := 10) (v := .ref a_y_table) (C := RX10) (T := TX10) (N := 16) hx hb hts hiX10 hown hK hP 0 rfl rfl 8 (by decide) hf19 (fun _ h9 => h9) rfl dX10_leaves_40 ?_
            refine lv_bipush (v := 27) hx hb dX10_leaves_43 (by decide) ?_
            refine lv_iload_n hx hb dX10_leaves_45 rfl (lv_at hl 3 rfl) ?_
            refine lv_imul hx hb dX10_leaves_46 ?_
            refine lv_bipush (v := 26) hx hb dX10_leaves_47 (by decide) ?_
            refine lv_iadd hx hb dX10_leaves_49 ?_
            obtain ⟨hg7, hs⟩ := gd_s hs
            refine va_lald hx hb hK hP 1 0 rfl rfl hg7 dX10_leaves_50 ?_
            refine lv_aload_n hx hb dX10_leaves_51 rfl (lv_at hl 0 rfl) ?_
            refine va_get (D := (dC, dI)) (ci := 10) (v := .ref a_y_table) (C := RX10) (T := TX10) (N := 16) hx hb hts hiX10 hown hK hP 0 rfl rfl 8 (by decide) hf19 (fun _ h9 => h9) rfl dX10_leaves_52 ?_
            refine lv_bipush (v := 27) hx hb dX10_leaves_55 (by decide) ?_
            refine lv_iload_n hx hb dX10_leaves_57 rfl (lv_at hl 2 rfl) ?_
            refine lv_imul hx hb dX10_leaves_58 ?_
            refine lv_iload_n hx hb dX10_leaves_59 rfl (lv_at hl 1 rfl) ?_
            refine lv_iadd hx hb dX10_leaves_60 ?_
            obtain ⟨hg8, hs⟩ := gd_s hs
            refine va_lald hx hb hK hP 1 0 rfl rfl hg8 dX10_leaves_61 ?_
            refine lv_lmul hx hb dX10_leaves_62 ?_
            refine lv_aload_n hx hb dX10_leaves_63 rfl (lv_at hl 0 rfl) ?_
            refine va_get (D := (dC, dI)) (ci := 10) (v := .ref a_y_table) (C := RX10) (T := TX10) (N := 16) hx hb hts hiX10 hown hK hP 0 rfl rfl 8 (by decide) hf19 (fun _ h9 => h9) rfl dX10_leaves_64 ?_
            refine lv_bipush (v := 27) hx hb dX10_leaves_67 (by decide) ?_
            refine lv_iload_n hx hb dX10_leaves_69 rfl (lv_at hl 2 rfl) ?_
            refine lv_imul hx hb dX10_leaves_70 ?_
            refine lv_bipush (v := 26) hx hb dX10_leaves_71 (by decide) ?_
            refine lv_iadd hx hb dX10_leaves_73 ?_
            obtain ⟨hg9, hs⟩ := gd_s hs
            refine va_lald hx hb hK hP 1 0 rfl rfl hg9 dX10_leaves_74 ?_
            refine lv_aload_n hx hb dX10_leaves_75 rfl (lv_at hl 0 rfl) ?_
            refine va_get (D := (dC, dI)) (ci := 10) (v := .ref a_y_table) (C := RX10) (T := TX10) (N := 16) hx hb hts hiX10 hown hK hP 0 rfl rfl 8 (by decide) hf19 (fun _ h9 => h9) rfl dX10_leaves_76 ?_
            refine lv_bipush (v := 27) hx hb dX10_leaves_79 (by decide) ?_
            refine lv_iload_n hx hb dX10_leaves_81 rfl (lv_at hl 3 rfl) ?_
            refine lv_imul hx hb dX10_leaves_82 ?_
            refine lv_iload_n hx hb dX10_leaves_83 rfl (lv_at hl 1 rfl) ?_
            refine lv_iadd hx hb dX10_leaves_84 ?_
            obtain ⟨hg10, hs⟩ := gd_s hs
            refine va_lald hx hb hK hP 1 0 rfl rfl hg10 dX10_leaves_85 ?_
            refine lv_lmul hx hb dX10_leaves_86 ?_
            refine lv_lsub hx hb dX10_leaves_87 ?_
            replace hs := Option.some.inj hs
            subst hs
            exact hZw (hJ88 H locs ls hP hD hS hl)
          · replace hs := it_t hc hs
            refine lv_ldc2 (v := (-1)) hx hb hown (hts (.constantLong RX10 102 (-1)) (t1_ (al_ (t1_ (t1_ h1_))))) dX10_leaves_33 ?_
            refine lv_goto (tgt := 88) hx hb dX10_leaves_36 (by decide) ?_
            replace hs := Option.some.inj hs
            subst hs
            exact hZw (hJ88 H locs ls hP hD hS hl)
  obtain ⟨n4, hn4⟩ := lp_ex he4
  exact hZw (hL4 n4 ((-1), 0) H locs ls hn4 hP hD hS (lv_sub hl [2, 3, 1, 0] rfl))
noncomputable def pX10_turns_L61_4 (y_by : Int64) (y_table : Nat → Int64) (p1 : Int32) (p2 : Int32) (s15 : Int32 × (Nat → Int64)) (s61 : Int32 × (Nat → Int64)) : Option ((Int32 × (Nat → Int64)) ⊕ (Nat → Int64)) :=
  if 27 ≤ s61.1 then (some (Sum.inr s61.2)) else (gd (vp_in ((27 * s15.1) + s61.1) 297) (gd (vp_in ((27 * p1) + s61.1) 297) (gd (¬ (y_by : Int64) = 0) (gd (vp_in ((27 * s15.1) + s61.1) 297) (some (Sum.inl (s61.1 + 1, vp_updL s61.2 ((27 * s15.1) + s61.1).toNatClampNeg ((((s61.2 ((27 * s15.1) + s61.1).toNatClampNeg) * (y_table ((27 * p1) + p2).toNatClampNeg)) - ((s15.2 ((27 * s15.1) + p2).toNatClampNeg) * (s61.2 ((27 * p1) + s61.1).toNatClampNeg))) / y_by))))))))
noncomputable def pX10_turns_J44_10 (y_by : Int64) (y_table : Nat → Int64) (p1 : Int32) (p2 : Int32) (s15 : Int32 × (Nat → Int64)) (t44 : Unit) : Option ((Int32 × (Nat → Int64)) ⊕ (Nat → Int64)) :=
  gd (vp_in ((27 * s15.1) + p2) 297) (Option.bind (lp (pX10_turns_L61_4 y_by y_table p1 p2 s15) (0, s15.2)) (fun e61 => some (Sum.inl (s15.1 + 1, e61))))
noncomputable def pX10_turns_L15 (y_n : Int32) (y_by : Int64) (y_table : Nat → Int64) (p1 : Int32) (p2 : Int32) (s15 : Int32 × (Nat → Int64)) : Option ((Int32 × (Nat → Int64)) ⊕ (Nat → Int64)) :=
  if 10 < s15.1 then (some (Sum.inr s15.2)) else (if s15.1 = p1 then (some (Sum.inl (s15.1 + 1, s15.2))) else (if s15.1 < y_n then (pX10_turns_J44_10 y_by y_table p1 p2 s15 ()) else (if s15.1 = 10 then (pX10_turns_J44_10 y_by y_table p1 p2 s15 ()) else (some (Sum.inl (s15.1 + 1, s15.2))))))
noncomputable def pX10_turns (y_n : Int32) (y_by : Int64) (y_table : Nat → Int64) (y_basis : Nat → Int32) (p1 : Int32) (p2 : Int32) : Option (Int64 × (Nat → Int64) × (Nat → Int32)) :=
  gd (vp_in ((27 * p1) + p2) 297) (Option.bind (lp (pX10_turns_L15 y_n y_by y_table p1 p2) (0, y_table)) (fun e15 => gd (vp_in p1 10) (some (y_table ((27 * p1) + p2).toNatClampNeg, e15, upd y_basis p1.toNatClampNeg p2))))
set_option maxHeartbeats 4000000 in
set_option maxRecDepth 100000 in
theorem c_X10_turns (l : Launch) (dC : Nat → ClassId) (dI : Nat → Nat → Nat) (a_y : Nat) (a_y_list : Nat) (a_y_others : Nat) (a_y_costs : Nat) (a_y_table : Nat) (a_y_basis : Nat) (a_y_isSeen : Nat) (a_y_colour : Nat) (a_y_rest : Nat) (a_y_makes : Nat) (a_y_worst : Nat) (c_y_table c_y_basis : ClassId) (sz : Nat) (y_n : Int32) (y_sets : Int32) (y_otherMany : Int32) (y_above : Int64) (y_below : Int64) (y_by : Int64) (y_table : Nat → Int64) (y_basis : Nat → Int32) (p1 : Int32) (p2 : Int32) (rv : Int64 × (Nat → Int64) × (Nat → Int32)) (hs : pX10_turns y_n y_by y_table y_basis p1 p2 = some rv) : Met l yX10_turns wsX10_turns ({ frames := 0, cells := 0, slots := 0, locals := 0 }) (sPc [.ref a_y, .int p1, .int p2] (dC, dI) [(c_y_table, .long), (c_y_basis, .int)] [(a_y, .inr (10, [.int y_n, .ref a_y_list, .int y_sets, .ref a_y_others, .int y_otherMany, .ref a_y_costs, .long y_above, .long y_below, .ref a_y_table, .long y_by, .ref a_y_basis, .ref a_y_isSeen, .ref a_y_colour, .ref a_y_rest, .ref a_y_makes, .ref a_y_worst])), (a_y_table, .inl (c_y_table, 297, .inr (.inl y_table))), (a_y_basis, .inl (c_y_basis, 10, .inl y_basis))] sz) (va_Qv (fun (_ : Unit) => True) (sB (dC, dI) [(c_y_table, .long), (c_y_basis, .int)] (va_A [(a_y, .inr (10, [.int y_n, .ref a_y_list, .int y_sets, .ref a_y_others, .int y_otherMany, .ref a_y_costs, .long y_above, .long y_below, .ref a_y_table, .long y_by, .ref a_y_basis, .ref a_y_isSeen, .ref a_y_colour, .ref a_y_rest, .ref a_y_makes, .ref a_y_worst])), (a_y_table, .inl (c_y_table, 297, .inr (.inl y_table))), (a_y_basis, .inl (c_y_basis, 10, .inl y_basis))] sz) [(a_y, .inr (10, [.int y_n, .ref a_y_list, .int y_sets, .ref a_y_others, .int y_otherMany, .ref a_y_costs, .long y_above, .long y_below, .ref a_y_table, .long rv.1, .ref a_y_basis, .ref a_y_isSeen, .ref a_y_colour, .ref a_y_rest, .ref a_y_makes, .ref a_y_worst])), (a_y_table, .inl (c_y_table, 297, .inr (.inl rv.2.1))), (a_y_basis, .inl (c_y_basis, 10, .inl rv.2.2))]) (va_A [(a_y, .inr (10, [.int y_n, .ref a_y_list, .int y_sets, .ref a_y_others, .int y_otherMany, .ref a_y_costs, .long y_above, .long y_below, .ref a_y_table, .long y_by, .ref a_y_basis, .ref a_y_isSeen, .ref a_y_colour, .ref a_y_rest, .ref a_y_makes, .ref a_y_worst])), (a_y_table, .inl (c_y_table, 297, .inr (.inl y_table))), (a_y_basis, .inl (c_y_basis, 10, .inl y_basis))] sz)) 0 0 (va_A [(a_y, .inr (10, [.int y_n, .ref a_y_list, .int y_sets, .ref a_y_others, .int y_otherMany, .ref a_y_costs, .long y_above, .long y_below, .ref a_y_table, .long y_by, .ref a_y_basis, .ref a_y_isSeen, .ref a_y_colour, .ref a_y_rest, .ref a_y_makes, .ref a_y_worst])), (a_y_table, .inl (c_y_table, 297, .inr (.inl y_table))), (a_y_basis, .inl (c_y_basis, 10, .inl y_basis))] sz) := by
  refine Met.ofW (cc := cX10_turns) (maxL := 9) (ret := none) (by decide) rfl ?_
  intro p e s m args below meth c s₁ B hml hv
  obtain ⟨rfl, hsz, hP, hK, hD0, hN⟩ := hv
  have hx := B.exec
  have hb := B.bytes
  have hr := B.returns
  have hts := atoms_spec (ws := wsX10_turns) B.pre
  have hown : s.vm.findClass RX10 = some m.cls := findClass_of_methodNamed B.named
  have hlocks := B.notSynchronized
  subst hsz
  have hD := hD0.self (sz := s.heap.size)
  generalize hAe : va_A [(a_y, .inr (10, [.int y_n, .ref a_y_list, .int y_sets, .ref a_y_others, .int y_otherMany, .ref a_y_costs, .long y_above, .long y_below, .ref a_y_table, .long y_by, .ref a_y_basis, .ref a_y_isSeen, .ref a_y_colour, .ref a_y_rest, .ref a_y_makes, .ref a_y_worst])), (a_y_table, .inl (c_y_table, 297, .inr (.inl y_table))), (a_y_basis, .inl (c_y_basis, 10, .inl y_basis))] s.heap.size = A at hD hN ⊢
  have hA : ∀ q : Nat, s.heap.size ≤ q → A q := fun q h => by rw [← hAe]; exact Or.inr h
  have hS : va_S A s.heap s.heap [] := va_S.rf
  have hP : va_P (dC, dI) vwCl [(a_y, .inr (10, [.int y_n, .ref a_y_list, .int y_sets, .ref a_y_others, .int y_otherMany, .ref a_y_costs, .long y_above, .long y_below, .ref a_y_table, .long y_by, .ref a_y_basis, .ref a_y_isSeen, .ref a_y_colour, .ref a_y_rest, .ref a_y_makes, .ref a_y_worst])), (a_y_table, .inl (c_y_table, 297, .inr (.inl y_table))), (a_y_basis, .inl (c_y_basis, 10, .inl y_basis))] s.heap := hP
  have hl := lv_entry ([.ref a_y, .int p1, .int p2]) (n := 9) (Nat.le_of_ble_eq_true rfl)
  rw [lg_entry_eq]
  generalize (lg_sl ([.ref a_y, .int p1, .int p2]) ++ List.replicate (9 - (lg_sl ([.ref a_y, .int p1, .int p2])).length) Slot.unset).toArray = ls at hl ⊢
  have hl : lv_has ls 9 [(0, .ref a_y), (1, .int p1), (2, .int p2)] := hl
  have hiX10 : ∀ w ∈ wsX100, w ∈ wsX10_turns := fun _ h => List.mem_cons_of_mem _ (List.mem_append_right _ h)
  have hf19 := hts (.fieldLink RX10 19 "MeetSetsModel" "table" "[J") (t1_ (al_ h1_))
  have hf43 := hts (.fieldLink RX10 43 "MeetSetsModel" "n" "I") (t1_ (al_ (t1_ h1_)))
  have hf99 := hts (.fieldLink RX10 99 "MeetSetsModel" "by" "J") (t1_ (al_ (t1_ (t1_ h1_))))
  have hf23 := hts (.fieldLink RX10 23 "MeetSetsModel" "basis" "[I") (t1_ (al_ (t1_ (t1_ (t1_ h1_)))))
  refine w_abs (fun Z hZv hZw => ?_)
  refine hZv ?_
  obtain ⟨H, hH⟩ : ∃ H, H = s.heap := ⟨_, rfl⟩
  obtain ⟨locs, hlo⟩ : ∃ L : List Loc, L = [] := ⟨_, rfl⟩
  rw [← hlo, ← hH]
  have hS : va_S A s.heap H locs := by rw [hlo, hH]; exact hS
  have hP : va_P (dC, dI) vwCl [(a_y, .inr (10, [.int y_n, .ref a_y_list, .int y_sets, .ref a_y_others, .int y_otherMany, .ref a_y_costs, .long y_above, .long y_below, .ref a_y_table, .long y_by, .ref a_y_basis, .ref a_y_isSeen, .ref a_y_colour, .ref a_y_rest, .ref a_y_makes, .ref a_y_worst])), (a_y_table, .inl (c_y_table, 297, .inr (.inl y_table))), (a_y_basis, .inl (c_y_basis, 10, .inl y_basis))] H := by rw [hH]; exact hP
  clear hH hlo
  unfold pX10_turns at hs
  refine lv_aload_n hx hb dX10_turns_0 rfl (lv_at hl 0 rfl) ?_
  refine va_get (D := (dC, dI)) (ci := 10) (v := .ref a_y_table) (C := RX10) (T := TX10) (N := 16) hx hb hts hiX10 hown hK hP 0 rfl rfl 8 (by decide) hf19 (fun _ h9 => h9) rfl dX10_turns_1 ?_
  refine lv_bipush (v := 27) hx hb dX10_turns_4 (by decide) ?_
  refine lv_iload_n hx hb dX10_turns_6 rfl (lv_at hl 1 rfl) ?_
  refine lv_imul hx hb dX10_turns_7 ?_
  refine lv_iload_n hx hb dX10_turns_8 rfl (lv_at hl 2 rfl) ?_
  refine lv_iadd hx hb dX10_turns_9 ?_
  obtain ⟨hg1, hs⟩ := gd_s hs
  refine va_lald hx hb hK hP 1 0 rfl rfl hg1 dX10_turns_10 ?_
  refine lv_lstore_n (lv' := [(3, .long (y_table ((27 * p1) + p2).toNatClampNeg)), (0, .ref a_y), (1, .int p1), (2, .int p2)]) hx hb dX10_turns_11 rfl hl (by decide) rfl (fun ls hl => ?_)
  refine lv_iconst (v := 0) hx hb dX10_turns_12 (by decide) ?_
  refine lv_istore (lv' := [(5, .int 0), (3, .long (y_table ((27 * p1) + p2).toNatClampNeg)), (0, .ref a_y), (1, .int p1), (2, .int p2)]) hx hb dX10_turns_13 hl (by decide) rfl (fun ls hl => ?_)
  obtain ⟨e15, he15, hs⟩ := bd_s hs
  have hX15 : ∀ (H : Heap) (locs : List Loc) (ls : Array Slot), va_P (dC, dI) vwCl [(a_y, .inr (10, [.int y_n, .ref a_y_list, .int y_sets, .ref a_y_others, .int y_otherMany, .ref a_y_costs, .long y_above, .long y_below, .ref a_y_table, .long y_by, .ref a_y_basis, .ref a_y_isSeen, .ref a_y_colour, .ref a_y_rest, .ref a_y_makes, .ref a_y_worst])), (a_y_table, .inl (c_y_table, 297, .inr (.inl e15))), (a_y_basis, .inl (c_y_basis, 10, .inl y_basis))] H → va_D A [(a_y, .inr (10, [.int y_n, .ref a_y_list, .int y_sets, .ref a_y_others, .int y_otherMany, .ref a_y_costs, .long y_above, .long y_below, .ref a_y_table, .long y_by, .ref a_y_basis, .ref a_y_isSeen, .ref a_y_colour, .ref a_y_rest, .ref a_y_makes, .ref a_y_worst])), (a_y_table, .inl (c_y_table, 297, .inr (.inl e15))), (a_y_basis, .inl (c_y_basis, 10, .inl y_basis))] → va_S A s.heap H locs → lv_has ls 9 [(0, .ref a_y), (1, .int p1), (2, .int p2), (3, .long (y_table ((27 * p1) + p2).toNatClampNeg))] → Z H locs 0 0 (F0 m 129 ls []) := by
    intro H locs ls hP hD hS hl
    refine hZv ?_
    refine lv_aload_n hx hb dX10_turns_129 rfl (lv_at hl 0 rfl) ?_
    refine lv_lload_n hx hb dX10_turns_130 rfl (lv_at hl 3 rfl) ?_
    refine va_put (D := (dC, dI)) (ci := 10) (v := .long (y_table ((27 * p1) + p2).toNatClampNeg)) (ty := .long) (C := RX10) (T := TX10) (N := 16) hx hb hts hiX10 tyX10 tyX10_ok nmX10 hown hK hP hD hS 0 rfl rfl 9 (by decide) hf99 (fun _ h9 => h9) rfl (by decide +kernel) rfl rfl (Nat.le_of_ble_eq_true rfl) dX10_turns_131 (fun H locs hP hD hS => ?_)
    have hP : va_P (dC, dI) vwCl [(a_y, .inr (10, [.int y_n, .ref a_y_list, .int y_sets, .ref a_y_others, .int y_otherMany, .ref a_y_costs, .long y_above, .long y_below, .ref a_y_table, .long (y_table ((27 * p1) + p2).toNatClampNeg), .ref a_y_basis, .ref a_y_isSeen, .ref a_y_colour, .ref a_y_rest, .ref a_y_makes, .ref a_y_worst])), (a_y_table, .inl (c_y_table, 297, .inr (.inl e15))), (a_y_basis, .inl (c_y_basis, 10, .inl y_basis))] H := hP
    have hD : va_D A [(a_y, .inr (10, [.int y_n, .ref a_y_list, .int y_sets, .ref a_y_others, .int y_otherMany, .ref a_y_costs, .long y_above, .long y_below, .ref a_y_table, .long (y_table ((27 * p1) + p2).toNatClampNeg), .ref a_y_basis, .ref a_y_isSeen, .ref a_y_colour, .ref a_y_rest, .ref a_y_makes, .ref a_y_worst])), (a_y_table, .inl (c_y_table, 297, .inr (.inl e15))), (a_y_basis, .inl (c_y_basis, 10, .inl y_basis))] := hD
    refine lv_aload_n hx hb dX10_turns_134 rfl (lv_at hl 0 rfl) ?_
    refine va_get (D := (dC, dI)) (ci := 10) (v := .ref a_y_basis) (C := RX10) (T := TX10) (N := 16) hx hb hts hiX10 hown hK hP 0 rfl rfl 10 (by decide) hf23 (fun _ h9 => h9) rfl dX10_turns_135 ?_
    refine lv_iload_n hx hb dX10_turns_138 rfl (lv_at hl 1 rfl) ?_
    refine lv_iload_n hx hb dX10_turns_139 rfl (lv_at hl 2 rfl) ?_
    obtain ⟨hg11, hs⟩ := gd_s hs
    refine va_iast hx hb hK hP hD hS 2 1 rfl rfl hg11 dX10_turns_140 (fun H locs hP hD hS => ?_)
    have hP : va_P (dC, dI) vwCl [(a_y, .inr (10, [.int y_n, .ref a_y_list, .int y_sets, .ref a_y_others, .int y_otherMany, .ref a_y_costs, .long y_above, .long y_below, .ref a_y_table, .long (y_table ((27 * p1) + p2).toNatClampNeg), .ref a_y_basis, .ref a_y_isSeen, .ref a_y_colour, .ref a_y_rest, .ref a_y_makes, .ref a_y_worst])), (a_y_table, .inl (c_y_table, 297, .inr (.inl e15))), (a_y_basis, .inl (c_y_basis, 10, .inl (upd y_basis p1.toNatClampNeg p2)))] H := hP
    have hD : va_D A [(a_y, .inr (10, [.int y_n, .ref a_y_list, .int y_sets, .ref a_y_others, .int y_otherMany, .ref a_y_costs, .long y_above, .long y_below, .ref a_y_table, .long (y_table ((27 * p1) + p2).toNatClampNeg), .ref a_y_basis, .ref a_y_isSeen, .ref a_y_colour, .ref a_y_rest, .ref a_y_makes, .ref a_y_worst])), (a_y_table, .inl (c_y_table, 297, .inr (.inl e15))), (a_y_basis, .inl (c_y_basis, 10, .inl (upd y_basis p1.toNatClampNeg p2)))] := hD
    replace hs := Option.some.inj hs
    subst hs
    exact W.vret hx hb hr (fun t ht hW => ⟨⟨(), rfl, trivial, by rw [ht]; exact hP, va_K.moved hW.alike hK, hD⟩, hS.F ht⟩) hS.2.2 dX10_turns_141
  clear hs
  have hL15 : ∀ (n : Nat) (s15 : Int32 × (Nat → Int64)) (H : Heap) (locs : List Loc) (ls : Array Slot), itr (pX10_turns_L15 y_n y_by y_table p1 p2) n s15 = some e15 → va_P (dC, dI) vwCl [(a_y, .inr (10, [.int y_n, .ref a_y_list, .int y_sets, .ref a_y_others, .int y_otherMany, .ref a_y_costs, .long y_above, .long y_below, .ref a_y_table, .long y_by, .ref a_y_basis, .ref a_y_isSeen, .ref a_y_colour, .ref a_y_rest, .ref a_y_makes, .ref a_y_worst])), (a_y_table, .inl (c_y_table, 297, .inr (.inl s15.2))), (a_y_basis, .inl (c_y_basis, 10, .inl y_basis))] H → va_D A [(a_y, .inr (10, [.int y_n, .ref a_y_list, .int y_sets, .ref a_y_others, .int y_otherMany, .ref a_y_costs, .long y_above, .long y_below, .ref a_y_table, .long y_by, .ref a_y_basis, .ref a_y_isSeen, .ref a_y_colour, .ref a_y_rest, .ref a_y_makes, .ref a_y_worst])), (a_y_table, .inl (c_y_table, 297, .inr (.inl s15.2))), (a_y_basis, .inl (c_y_basis, 10, .inl y_basis))] → va_S A s.heap H locs → lv_has ls 9 [(0, .ref a_y), (1, .int p1), (2, .int p2), (3, .long (y_table ((27 * p1) + p2).toNatClampNeg)), (5, .int s15.1)] → Z H locs 0 0 (F0 m 15 ls []) := by
    intro n
    induction n with
    | zero =>
      intro s15 H locs ls hn
      exact (itr_0 hn).elim
    | succ n ih =>
      intro s15 H locs ls hn hP hD hS hl
      obtain ⟨y2, hs, hn⟩ := itr_s hn
      unfold pX10_turns_L15 at hs
      refine hZv ?_
      refine lv_iload hx hb dX10_turns_15 (lv_at hl 4 rfl) ?_
      refine lv_bipush (v := 10) hx hb dX10_turns_17 (by decide) ?_
      refine lv_icmp_gt (tgt := 129) hx hb dX10_turns_19 (by decide) (fun hc => ?_) (fun hc => ?_)
      · replace hs := it_t hc hs
        replace hs := Option.some.inj hs
        subst hs
        obtain rfl : s15.2 = e15 := hn
        exact hZw (hX15 H locs ls hP hD hS (lv_sub hl [0, 1, 2, 3] rfl))
      · replace hs := it_f hc hs
        refine lv_iload hx hb dX10_turns_22 (lv_at hl 4 rfl) ?_
        refine lv_iload_n hx hb dX10_turns_24 rfl (lv_at hl 1 rfl) ?_
        refine lv_icmp_eq (tgt := 123) hx hb dX10_turns_25 (by decide) (fun hc => ?_) (fun hc => ?_)
        · replace hs := it_t hc hs
          refine lv_iinc (v := s15.1 + 1) (lv' := [(5, .int (s15.1 + 1)), (0, .ref a_y), (1, .int p1), (2, .int p2), (3, .long (y_table ((27 * p1) + p2).toNatClampNeg))]) hx hb dX10_turns_123 hl (k := 4) rfl (by rfl) (by decide) rfl (fun ls hl => ?_)
          refine lv_goto (tgt := 15) hx hb dX10_turns_126 (by decide) ?_
          replace hs := Option.some.inj hs
          subst hs
          exact hZw (ih (s15.1 + 1, s15.2) H locs ls hn hP hD hS (lv_sub hl [1, 2, 3, 4, 0] rfl))
        · replace hs := it_f hc hs
          refine lv_iload hx hb dX10_turns_28 (lv_at hl 4 rfl) ?_
          refine lv_aload_n hx hb dX10_turns_30 rfl (lv_at hl 0 rfl) ?_
          refine va_get (D := (dC, dI)) (ci := 10) (v := .int y_n) (C := RX10) (T := TX10) (N := 16) hx hb hts hiX10 hown hK hP 0 rfl rfl 0 (by decide) hf43 (fun _ h9 => h9) rfl dX10_turns_31 ?_
          have hJ44 : ∀ (t44 : Unit), pX10_turns_J44_10 y_by y_table p1 p2 s15 t44 = some y2 → ∀ (H : Heap) (locs : List Loc) (ls : Array Slot), va_P (dC, dI) vwCl [(a_y, .inr (10, [.int y_n, .ref a_y_list, .int y_sets, .ref a_y_others, .int y_otherMany, .ref a_y_costs, .long y_above, .long y_below, .ref a_y_table, .long y_by, .ref a_y_basis, .ref a_y_isSeen, .ref a_y_colour, .ref a_y_rest, .ref a_y_makes, .ref a_y_worst])), (a_y_table, .inl (c_y_table, 297, .inr (.inl s15.2))), (a_y_basis, .inl (c_y_basis, 10, .inl y_basis))] H → va_D A [(a_y, .inr (10, [.int y_n, .ref a_y_list, .int y_sets, .ref a_y_others, .int y_otherMany, .ref a_y_costs, .long y_above, .long y_below, .ref a_y_table, .long y_by, .ref a_y_basis, .ref a_y_isSeen, .ref a_y_colour, .ref a_y_rest, .ref a_y_makes, .ref a_y_worst])), (a_y_table, .inl (c_y_table, 297, .inr (.inl s15.2))), (a_y_basis, .inl (c_y_basis, 10, .inl y_basis))] → va_S A s.heap H locs → lv_has ls 9 [(0, .ref a_y), (1, .int p1), (2, .int p2), (3, .long (y_table ((27 * p1) + p2).toNatClampNeg)), (5, .int s15.1)] → Z H locs 0 0 (F0 m 44 ls []) := by
            intro t44 hs H locs ls hP hD hS hl
            refine hZv ?_
            unfold pX10_turns_J44_10 at hs
            refine lv_aload_n hx hb dX10_turns_44 rfl (lv_at hl 0 rfl) ?_
            refine va_get (D := (dC, dI)) (ci := 10) (v := .ref a_y_table) (C := RX10) (T := TX10) (N := 16) hx hb hts hiX10 hown hK hP 0 rfl rfl 8 (by decide) hf19 (fun _ h9 => h9) rfl dX10_turns_45 ?_
            refine lv_bipush (v := 27) hx hb dX10_turns_48 (by decide) ?_
            refine lv_iload hx hb dX10_turns_50 (lv_at hl 4 rfl) ?_
            refine lv_imul hx hb dX10_turns_52 ?_
            refine lv_iload_n hx hb dX10_turns_53 rfl (lv_at hl 2 rfl) ?_
            refine lv_iadd hx hb dX10_turns_54 ?_
            obtain ⟨hg3, hs⟩ := gd_s hs
            refine va_lald hx hb hK hP 1 0 rfl rfl hg3 dX10_turns_55 ?_
            refine lv_lstore (lv' := [(6, .long (s15.2 ((27 * s15.1) + p2).toNatClampNeg)), (0, .ref a_y), (1, .int p1), (2, .int p2), (3, .long (y_table ((27 * p1) + p2).toNatClampNeg)), (5, .int s15.1)]) hx hb dX10_turns_56 hl (by decide) rfl (fun ls hl => ?_)
            refine lv_iconst (v := 0) hx hb dX10_turns_58 (by decide) ?_
            refine lv_istore (lv' := [(8, .int 0), (6, .long (s15.2 ((27 * s15.1) + p2).toNatClampNeg)), (0, .ref a_y), (1, .int p1), (2, .int p2), (3, .long (y_table ((27 * p1) + p2).toNatClampNeg)), (5, .int s15.1)]) hx hb dX10_turns_59 hl (by decide) rfl (fun ls hl => ?_)
            obtain ⟨e61, he61, hs⟩ := bd_s hs
            have hX61 : ∀ (H : Heap) (locs : List Loc) (ls : Array Slot), va_P (dC, dI) vwCl [(a_y, .inr (10, [.int y_n, .ref a_y_list, .int y_sets, .ref a_y_others, .int y_otherMany, .ref a_y_costs, .long y_above, .long y_below, .ref a_y_table, .long y_by, .ref a_y_basis, .ref a_y_isSeen, .ref a_y_colour, .ref a_y_rest, .ref a_y_makes, .ref a_y_worst])), (a_y_table, .inl (c_y_table, 297, .inr (.inl e61))), (a_y_basis, .inl (c_y_basis, 10, .inl y_basis))] H → va_D A [(a_y, .inr (10, [.int y_n, .ref a_y_list, .int y_sets, .ref a_y_others, .int y_otherMany, .ref a_y_costs, .long y_above, .long y_below, .ref a_y_table, .long y_by, .ref a_y_basis, .ref a_y_isSeen, .ref a_y_colour, .ref a_y_rest, .ref a_y_makes, .ref a_y_worst])), (a_y_table, .inl (c_y_table, 297, .inr (.inl e61))), (a_y_basis, .inl (c_y_basis, 10, .inl y_basis))] → va_S A s.heap H locs → lv_has ls 9 [(0, .ref a_y), (1, .int p1), (2, .int p2), (3, .long (y_table ((27 * p1) + p2).toNatClampNeg)), (5, .int s15.1)] → Z H locs 0 0 (F0 m 123 ls []) := by
              intro H locs ls hP hD hS hl
              refine hZv ?_
              refine lv_iinc (v := s15.1 + 1) (lv' := [(5, .int (s15.1 + 1)), (0, .ref a_y), (1, .int p1), (2, .int p2), (3, .long (y_table ((27 * p1) + p2).toNatClampNeg))]) hx hb dX10_turns_123 hl (k := 4) rfl (by rfl) (by decide) rfl (fun ls hl => ?_)
              refine lv_goto (tgt := 15) hx hb dX10_turns_126 (by decide) ?_
              replace hs := Option.some.inj hs
              subst hs
              exact hZw (ih (s15.1 + 1, e61) H locs ls hn hP hD hS (lv_sub hl [1, 2, 3, 4, 0] rfl))
            clear hs
            have hL61 : ∀ (n : Nat) (s61 : Int32 × (Nat → Int64)) (H : Heap) (locs : List Loc) (ls : Array Slot), itr (pX10_turns_L61_4 y_by y_table p1 p2 s15) n s61 = some e61 → va_P (dC, dI) vwCl [(a_y, .inr (10, [.int y_n, .ref a_y_list, .int y_sets, .ref a_y_others, .int y_otherMany, .ref a_y_costs, .long y_above, .long y_below, .ref a_y_table, .long y_by, .ref a_y_basis, .ref a_y_isSeen, .ref a_y_colour, .ref a_y_rest, .ref a_y_makes, .ref a_y_worst])), (a_y_table, .inl (c_y_table, 297, .inr (.inl s61.2))), (a_y_basis, .inl (c_y_basis, 10, .inl y_basis))] H → va_D A [(a_y, .inr (10, [.int y_n, .ref a_y_list, .int y_sets, .ref a_y_others, .int y_otherMany, .ref a_y_costs, .long y_above, .long y_below, .ref a_y_table, .long y_by, .ref a_y_basis, .ref a_y_isSeen, .ref a_y_colour, .ref a_y_rest, .ref a_y_makes, .ref a_y_worst])), (a_y_table, .inl (c_y_table, 297, .inr (.inl s61.2))), (a_y_basis, .inl (c_y_basis, 10, .inl y_basis))] → va_S A s.heap H locs → lv_has ls 9 [(0, .ref a_y), (1, .int p1), (2, .int p2), (3, .long (y_table ((27 * p1) + p2).toNatClampNeg)), (5, .int s15.1), (6, .long (s15.2 ((27 * s15.1) + p2).toNatClampNeg)), (8, .int s61.1)] → Z H locs 0 0 (F0 m 61 ls []) := by
              intro n
              induction n with
              | zero =>
                intro s61 H locs ls hn
                exact (itr_0 hn).elim
              | succ n ih =>
                intro s61 H locs ls hn hP hD hS hl
                obtain ⟨y5, hs, hn⟩ := itr_s hn
                unfold pX10_turns_L61_4 at hs
                refine hZv ?_
                refine lv_iload hx hb dX10_turns_61 (lv_at hl 6 rfl) ?_
                refine lv_bipush (v := 27) hx hb dX10_turns_63 (by decide) ?_
                refine lv_icmp_ge (tgt := 123) hx hb dX10_turns_65 (by decide) (fun hc => ?_) (fun hc => ?_)
                · replace hs := it_t hc hs
                  replace hs := Option.some.inj hs
                  subst hs
                  obtain rfl : s61.2 = e61 := hn
                  exact hZw (hX61 H locs ls hP hD hS (lv_sub hl [0, 1, 2, 3, 4] rfl))
                · replace hs := it_f hc hs
                  refine lv_aload_n hx hb dX10_turns_68 rfl (lv_at hl 0 rfl) ?_
                  refine va_get (D := (dC, dI)) (ci := 10) (v := .ref a_y_table) (C := RX10) (T := TX10) (N := 16) hx hb hts hiX10 hown hK hP 0 rfl rfl 8 (by decide) hf19 (fun _ h9 => h9) rfl dX10_turns_69 ?_
                  refine lv_bipush (v := 27) hx hb dX10_turns_72 (by decide) ?_
                  refine lv_iload hx hb dX10_turns_74 (lv_at hl 4 rfl) ?_
                  refine lv_imul hx hb dX10_turns_76 ?_
                  refine lv_iload hx hb dX10_turns_77 (lv_at hl 6 rfl) ?_
                  refine lv_iadd hx hb dX10_turns_79 ?_
                  refine lv_aload_n hx hb dX10_turns_80 rfl (lv_at hl 0 rfl) ?_
                  refine va_get (D := (dC, dI)) (ci := 10) (v := .ref a_y_table) (C := RX10) (T := TX10) (N := 16) hx hb hts hiX10 hown hK hP 0 rfl rfl 8 (by decide) hf19 (fun _ h9 => h9) rfl dX10_turns_81 ?_
                  refine lv_bipush (v := 27) hx hb dX10_turns_84 (by decide) ?_
                  refine lv_iload hx hb dX10_turns_86 (lv_at hl 4 rfl) ?_
                  refine lv_imul hx hb dX10_turns_88 ?_
                  refine lv_iload hx hb dX10_turns_89 (lv_at hl 6 rfl) ?_
                  refine lv_iadd hx hb dX10_turns_91 ?_
                  obtain ⟨hg6, hs⟩ := gd_s hs
                  refine va_lald hx hb hK hP 1 0 rfl rfl hg6 dX10_turns_92 ?_
                  refine lv_lload_n hx hb dX10_turns_93 rfl (lv_at hl 3 rfl) ?_
                  refine lv_lmul hx hb dX10_turns_94 ?_
                  refine lv_lload hx hb dX10_turns_95 (lv_at hl 5 rfl) ?_
                  refine lv_aload_n hx hb dX10_turns_97 rfl (lv_at hl 0 rfl) ?_
                  refine va_get (D := (dC, dI)) (ci := 10) (v := .ref a_y_table) (C := RX10) (T := TX10) (N := 16) hx hb hts hiX10 hown hK hP 0 rfl rfl 8 (by decide) hf19 (fun _ h9 => h9) rfl dX10_turns_98 ?_
                  refine lv_bipush (v := 27) hx hb dX10_turns_101 (by decide) ?_
                  refine lv_iload_n hx hb dX10_turns_103 rfl (lv_at hl 1 rfl) ?_
                  refine lv_imul hx hb dX10_turns_104 ?_
                  refine lv_iload hx hb dX10_turns_105 (lv_at hl 6 rfl) ?_
                  refine lv_iadd hx hb dX10_turns_107 ?_
                  obtain ⟨hg7, hs⟩ := gd_s hs
                  refine va_lald hx hb hK hP 1 0 rfl rfl hg7 dX10_turns_108 ?_
                  refine lv_lmul hx hb dX10_turns_109 ?_
                  refine lv_lsub hx hb dX10_turns_110 ?_
                  refine lv_aload_n hx hb dX10_turns_111 rfl (lv_at hl 0 rfl) ?_
                  refine va_get (D := (dC, dI)) (ci := 10) (v := .long y_by) (C := RX10) (T := TX10) (N := 16) hx hb hts hiX10 hown hK hP 0 rfl rfl 9 (by decide) hf99 (fun _ h9 => h9) rfl dX10_turns_112 ?_
                  obtain ⟨hz8, hs⟩ := gd_s hs
                  refine lv_ldiv hx hb dX10_turns_115 hz8 ?_
                  obtain ⟨hg9, hs⟩ := gd_s hs
                  refine va_last hx hb hK hP hD hS 1 0 rfl rfl hg9 dX10_turns_116 (fun H locs hP hD hS => ?_)
                  have hP : va_P (dC, dI) vwCl [(a_y, .inr (10, [.int y_n, .ref a_y_list, .int y_sets, .ref a_y_others, .int y_otherMany, .ref a_y_costs, .long y_above, .long y_below, .ref a_y_table, .long y_by, .ref a_y_basis, .ref a_y_isSeen, .ref a_y_colour, .ref a_y_rest, .ref a_y_makes, .ref a_y_worst])), (a_y_table, .inl (c_y_table, 297, .inr (.inl (vp_updL s61.2 ((27 * s15.1) + s61.1).toNatClampNeg ((((s61.2 ((27 * s15.1) + s61.1).toNatClampNeg) * (y_table ((27 * p1) + p2).toNatClampNeg)) - ((s15.2 ((27 * s15.1) + p2).toNatClampNeg) * (s61.2 ((27 * p1) + s61.1).toNatClampNeg))) / y_by))))), (a_y_basis, .inl (c_y_basis, 10, .inl y_basis))] H := hP
                  have hD : va_D A [(a_y, .inr (10, [.int y_n, .ref a_y_list, .int y_sets, .ref a_y_others, .int y_otherMany, .ref a_y_costs, .long y_above, .long y_below, .ref a_y_table, .long y_by, .ref a_y_basis, .ref a_y_isSeen, .ref a_y_colour, .ref a_y_rest, .ref a_y_makes, .ref a_y_worst])), (a_y_table, .inl (c_y_table, 297, .inr (.inl (vp_updL s61.2 ((27 * s15.1) + s61.1).toNatClampNeg ((((s61.2 ((27 * s15.1) + s61.1).toNatClampNeg) * (y_table ((27 * p1) + p2).toNatClampNeg)) - ((s15.2 ((27 * s15.1) + p2).toNatClampNeg) * (s61.2 ((27 * p1) + s61.1).toNatClampNeg))) / y_by))))), (a_y_basis, .inl (c_y_basis, 10, .inl y_basis))] := hD
                  refine lv_iinc (v := s61.1 + 1) (lv' := [(8, .int (s61.1 + 1)), (0, .ref a_y), (1, .int p1), (2, .int p2), (3, .long (y_table ((27 * p1) + p2).toNatClampNeg)), (5, .int s15.1), (6, .long (s15.2 ((27 * s15.1) + p2).toNatClampNeg))]) hx hb dX10_turns_117 hl (k := 6) rfl (by rfl) (by decide) rfl (fun ls hl => ?_)
                  refine lv_goto (tgt := 61) hx hb dX10_turns_120 (by decide) ?_
                  replace hs := Option.some.inj hs
                  subst hs
                  exact hZw (ih (s61.1 + 1, vp_updL s61.2 ((27 * s15.1) + s61.1).toNatClampNeg ((((s61.2 ((27 * s15.1) + s61.1).toNatClampNeg) * (y_table ((27 * p1) + p2).toNatClampNeg)) - ((s15.2 ((27 * s15.1) + p2).toNatClampNeg) * (s61.2 ((27 * p1) + s61.1).toNatClampNeg))) / y_by)) H locs ls hn hP hD hS (lv_sub hl [1, 2, 3, 4, 5, 6, 0] rfl))
            obtain ⟨n61, hn61⟩ := lp_ex he61
            exact hZw (hL61 n61 (0, s15.2) H locs ls hn61 hP hD hS (lv_sub hl [2, 3, 4, 5, 6, 1, 0] rfl))
          refine lv_icmp_lt (tgt := 44) hx hb dX10_turns_34 (by decide) (fun hc => ?_) (fun hc => ?_)
          · replace hs := it_t hc hs
            exact hZw (hJ44 () hs H locs ls hP hD hS hl)
          · replace hs := it_f hc hs
            refine lv_iload hx hb dX10_turns_37 (lv_at hl 4 rfl) ?_
            refine lv_bipush (v := 10) hx hb dX10_turns_39 (by decide) ?_
            refine lv_icmp_ne (tgt := 123) hx hb dX10_turns_41 (by decide) (fun hc => ?_) (fun hc => ?_)
            · replace hs := it_f hc hs
              refine lv_iinc (v := s15.1 + 1) (lv' := [(5, .int (s15.1 + 1)), (0, .ref a_y), (1, .int p1), (2, .int p2), (3, .long (y_table ((27 * p1) + p2).toNatClampNeg))]) hx hb dX10_turns_123 hl (k := 4) rfl (by rfl) (by decide) rfl (fun ls hl => ?_)
              refine lv_goto (tgt := 15) hx hb dX10_turns_126 (by decide) ?_
              replace hs := Option.some.inj hs
              subst hs
              exact hZw (ih (s15.1 + 1, s15.2) H locs ls hn hP hD hS (lv_sub hl [1, 2, 3, 4, 0] rfl))
            · replace hs := it_t hc hs
              exact hZw (hJ44 () hs H locs ls hP hD hS hl)
  obtain ⟨n15, hn15⟩ := lp_ex he15
  exact hZw (hL15 n15 (0, y_table) H locs ls hn15 hP hD hS (lv_sub hl [2, 3, 4, 1, 0] rfl))
noncomputable def pX10_divisor_L6 (s6 : Int64 × Int64) : Option ((Int64 × Int64) ⊕ (Int64)) :=
  if (lg_cmp s6.2 0) = 0 then (some (Sum.inr s6.1)) else (gd (¬ (s6.2 : Int64) = 0) (some (Sum.inl (s6.2, s6.1 - s6.1 / s6.2 * s6.2))))
noncomputable def pX10_divisor (p0 : Int64) (p2 : Int64) : Option (Int64) :=
  Option.bind (lp (pX10_divisor_L6) (p0, p2)) (fun e6 => some e6)
set_option maxHeartbeats 4000000 in
set_option maxRecDepth 100000 in
theorem c_X10_divisor (l : Launch) (dC : Nat → ClassId) (dI : Nat → Nat → Nat) (sz : Nat) (p0 : Int64) (p2 : Int64) (rv : Int64) (hs : pX10_divisor p0 p2 = some rv) : Met l yX10_divisor wsX10_divisor ({ frames := 0, cells := 0, slots := 0, locals := 0 }) (sPc [.long p0, .long p2] (dC, dI) [] [] sz) (va_Ql (fun (r : Int64) (_ : Unit) => r = rv) (sB (dC, dI) [] (va_A [] sz) []) (va_A [] sz)) 0 0 (va_A [] sz) := by
  refine Met.ofW (cc := cX10_divisor) (maxL := 10) (ret := (some .long)) (by decide) rfl ?_
  intro p e s m args below meth c s₁ B hml hv
  obtain ⟨rfl, hsz, hP, hK, hD0, hN⟩ := hv
  have hx := B.exec
  have hb := B.bytes
  have hr := B.returns
  have hts := atoms_spec (ws := wsX10_divisor) B.pre
  have hown : s.vm.findClass RX10 = some m.cls := findClass_of_methodNamed B.named
  have hlocks := B.notSynchronized
  subst hsz
  have hD := hD0.self (sz := s.heap.size)
  generalize hAe : va_A [] s.heap.size = A at hD hN ⊢
  have hA : ∀ q : Nat, s.heap.size ≤ q → A q := fun q h => by rw [← hAe]; exact Or.inr h
  have hS : va_S A s.heap s.heap [] := va_S.rf
  have hP : va_P (dC, dI) vwCl [] s.heap := hP
  have hl := lv_entry ([.long p0, .long p2]) (n := 10) (Nat.le_of_ble_eq_true rfl)
  rw [lg_entry_eq]
  generalize (lg_sl ([.long p0, .long p2]) ++ List.replicate (10 - (lg_sl ([.long p0, .long p2])).length) Slot.unset).toArray = ls at hl ⊢
  have hl : lv_has ls 10 [(0, .long p0), (2, .long p2)] := hl
  refine w_abs (fun Z hZv hZw => ?_)
  refine hZv ?_
  obtain ⟨H, hH⟩ : ∃ H, H = s.heap := ⟨_, rfl⟩
  obtain ⟨locs, hlo⟩ : ∃ L : List Loc, L = [] := ⟨_, rfl⟩
  rw [← hlo, ← hH]
  have hS : va_S A s.heap H locs := by rw [hlo, hH]; exact hS
  have hP : va_P (dC, dI) vwCl [] H := by rw [hH]; exact hP
  clear hH hlo
  unfold pX10_divisor at hs
  refine lv_lload_n hx hb dX10_divisor_0 rfl (lv_at hl 0 rfl) ?_
  refine lv_lstore (lv' := [(4, .long p0), (0, .long p0), (2, .long p2)]) hx hb dX10_divisor_1 hl (by decide) rfl (fun ls hl => ?_)
  refine lv_lload_n hx hb dX10_divisor_3 rfl (lv_at hl 2 rfl) ?_
  refine lv_lstore (lv' := [(6, .long p2), (4, .long p0), (0, .long p0), (2, .long p2)]) hx hb dX10_divisor_4 hl (by decide) rfl (fun ls hl => ?_)
  obtain ⟨e6, he6, hs⟩ := bd_s hs
  have hX6 : ∀ (H : Heap) (locs : List Loc) (ls : Array Slot), va_P (dC, dI) vwCl [] H → va_D A [] → va_S A s.heap H locs → lv_has ls 10 [(4, .long e6)] → Z H locs 0 0 (F0 m 31 ls []) := by
    intro H locs ls hP hD hS hl
    refine hZv ?_
    refine lv_lload hx hb dX10_divisor_31 (lv_at hl 0 rfl) ?_
    replace hs := Option.some.inj hs
    subst hs
    exact W.lret (v := e6) hx hb hr (fun t ht hW => ⟨⟨e6, (), rfl, rfl, by rw [ht]; exact hP, va_K.moved hW.alike hK, hD⟩, hS.F ht⟩) hS.2.2 dX10_divisor_33
  clear hs
  have hL6 : ∀ (n : Nat) (s6 : Int64 × Int64) (H : Heap) (locs : List Loc) (ls : Array Slot), itr (pX10_divisor_L6) n s6 = some e6 → va_P (dC, dI) vwCl [] H → va_D A [] → va_S A s.heap H locs → lv_has ls 10 [(4, .long s6.1), (6, .long s6.2)] → Z H locs 0 0 (F0 m 6 ls []) := by
    intro n
    induction n with
    | zero =>
      intro s6 H locs ls hn
      exact (itr_0 hn).elim
    | succ n ih =>
      intro s6 H locs ls hn hP hD hS hl
      obtain ⟨y1, hs, hn⟩ := itr_s hn
      unfold pX10_divisor_L6 at hs
      refine hZv ?_
      refine lv_lload hx hb dX10_divisor_6 (lv_at hl 1 rfl) ?_
      refine lv_lconst (v := 0) hx hb dX10_divisor_8 (by decide) ?_
      refine W.lcmp hx hb dX10_divisor_9 ?_
      refine lv_if_eq (tgt := 31) hx hb dX10_divisor_10 (by decide) (fun hc => ?_) (fun hc => ?_)
      · replace hs := it_t hc hs
        replace hs := Option.some.inj hs
        subst hs
        obtain rfl : s6.1 = e6 := hn
        exact hZw (hX6 H locs ls hP hD hS (lv_sub hl [0] rfl))
      · replace hs := it_f hc hs
        refine lv_lload hx hb dX10_divisor_13 (lv_at hl 0 rfl) ?_
        refine lv_lload hx hb dX10_divisor_15 (lv_at hl 1 rfl) ?_
        obtain ⟨hz2, hs⟩ := gd_s hs
        refine lv_lrem hx hb dX10_divisor_17 hz2 ?_
        refine lv_lstore (lv' := [(8, .long (s6.1 - s6.1 / s6.2 * s6.2)), (4, .long s6.1), (6, .long s6.2)]) hx hb dX10_divisor_18 hl (by decide) rfl (fun ls hl => ?_)
        refine lv_lload hx hb dX10_divisor_20 (lv_at hl 2 rfl) ?_
        refine lv_lstore (lv' := [(4, .long s6.2), (8, .long (s6.1 - s6.1 / s6.2 * s6.2)), (6, .long s6.2)]) hx hb dX10_divisor_22 hl (by decide) rfl (fun ls hl => ?_)
        refine lv_lload hx hb dX10_divisor_24 (lv_at hl 1 rfl) ?_
        refine lv_lstore (lv' := [(6, .long (s6.1 - s6.1 / s6.2 * s6.2)), (4, .long s6.2), (8, .long (s6.1 - s6.1 / s6.2 * s6.2))]) hx hb dX10_divisor_26 hl (by decide) rfl (fun ls hl => ?_)
        refine lv_goto (tgt := 6) hx hb dX10_divisor_28 (by decide) ?_
        replace hs := Option.some.inj hs
        subst hs
        exact hZw (ih (s6.2, s6.1 - s6.1 / s6.2 * s6.2) H locs ls hn hP hD hS (lv_sub hl [1, 0] rfl))
  obtain ⟨n6, hn6⟩ := lp_ex he6
  exact hZw (hL6 n6 (p0, p2) H locs ls hn6 hP hD hS (lv_sub hl [1, 0] rfl))
noncomputable def pX10_tells (y_above : Int64) (y_below : Int64) (p1 : Int64) (p3 : Int64) : Option (Int32 × Int64 × Int64) :=
  Option.bind (pX10_divisor p1 p3) (fun r1 => gd (¬ (r1 : Int64) = 0) (gd (¬ (r1 : Int64) = 0) (some (1, p1 / r1, p3 / r1))))
set_option maxHeartbeats 4000000 in
set_option maxRecDepth 100000 in
theorem c_X10_tells (l : Launch) (dC : Nat → ClassId) (dI : Nat → Nat → Nat) (a_y : Nat) (a_y_list : Nat) (a_y_others : Nat) (a_y_costs : Nat) (a_y_table : Nat) (a_y_basis : Nat) (a_y_isSeen : Nat) (a_y_colour : Nat) (a_y_rest : Nat) (a_y_makes : Nat) (a_y_worst : Nat) (sz : Nat) (y_n : Int32) (y_sets : Int32) (y_otherMany : Int32) (y_above : Int64) (y_below : Int64) (y_by : Int64) (p1 : Int64) (p3 : Int64) (rv : Int32 × Int64 × Int64) (hs : pX10_tells y_above y_below p1 p3 = some rv) : Met l yX10_tells wsX10_tells ({ frames := 1, cells := 0, slots := 0, locals := 29 }) (sPc [.ref a_y, .long p1, .long p3] (dC, dI) [] [(a_y, .inr (10, [.int y_n, .ref a_y_list, .int y_sets, .ref a_y_others, .int y_otherMany, .ref a_y_costs, .long y_above, .long y_below, .ref a_y_table, .long y_by, .ref a_y_basis, .ref a_y_isSeen, .ref a_y_colour, .ref a_y_rest, .ref a_y_makes, .ref a_y_worst]))] sz) (va_Qi (fun (r : Int32) (_ : Unit) => r = rv.1) (sB (dC, dI) [] (va_A [(a_y, .inr (10, [.int y_n, .ref a_y_list, .int y_sets, .ref a_y_others, .int y_otherMany, .ref a_y_costs, .long y_above, .long y_below, .ref a_y_table, .long y_by, .ref a_y_basis, .ref a_y_isSeen, .ref a_y_colour, .ref a_y_rest, .ref a_y_makes, .ref a_y_worst]))] sz) [(a_y, .inr (10, [.int y_n, .ref a_y_list, .int y_sets, .ref a_y_others, .int y_otherMany, .ref a_y_costs, .long rv.2.1, .long rv.2.2, .ref a_y_table, .long y_by, .ref a_y_basis, .ref a_y_isSeen, .ref a_y_colour, .ref a_y_rest, .ref a_y_makes, .ref a_y_worst]))]) (va_A [(a_y, .inr (10, [.int y_n, .ref a_y_list, .int y_sets, .ref a_y_others, .int y_otherMany, .ref a_y_costs, .long y_above, .long y_below, .ref a_y_table, .long y_by, .ref a_y_basis, .ref a_y_isSeen, .ref a_y_colour, .ref a_y_rest, .ref a_y_makes, .ref a_y_worst]))] sz)) 0 0 (va_A [(a_y, .inr (10, [.int y_n, .ref a_y_list, .int y_sets, .ref a_y_others, .int y_otherMany, .ref a_y_costs, .long y_above, .long y_below, .ref a_y_table, .long y_by, .ref a_y_basis, .ref a_y_isSeen, .ref a_y_colour, .ref a_y_rest, .ref a_y_makes, .ref a_y_worst]))] sz) := by
  refine Met.ofW (cc := cX10_tells) (maxL := 7) (ret := (some .int)) (by decide) rfl ?_
  intro p e s m args below meth c s₁ B hml hv
  obtain ⟨rfl, hsz, hP, hK, hD0, hN⟩ := hv
  have hx := B.exec
  have hb := B.bytes
  have hr := B.returns
  have hts := atoms_spec (ws := wsX10_tells) B.pre
  have hown : s.vm.findClass RX10 = some m.cls := findClass_of_methodNamed B.named
  have hlocks := B.notSynchronized
  subst hsz
  have hD := hD0.self (sz := s.heap.size)
  generalize hAe : va_A [(a_y, .inr (10, [.int y_n, .ref a_y_list, .int y_sets, .ref a_y_others, .int y_otherMany, .ref a_y_costs, .long y_above, .long y_below, .ref a_y_table, .long y_by, .ref a_y_basis, .ref a_y_isSeen, .ref a_y_colour, .ref a_y_rest, .ref a_y_makes, .ref a_y_worst]))] s.heap.size = A at hD hN ⊢
  have hA : ∀ q : Nat, s.heap.size ≤ q → A q := fun q h => by rw [← hAe]; exact Or.inr h
  have hS : va_S A s.heap s.heap [] := va_S.rf
  have hP : va_P (dC, dI) vwCl [(a_y, .inr (10, [.int y_n, .ref a_y_list, .int y_sets, .ref a_y_others, .int y_otherMany, .ref a_y_costs, .long y_above, .long y_below, .ref a_y_table, .long y_by, .ref a_y_basis, .ref a_y_isSeen, .ref a_y_colour, .ref a_y_rest, .ref a_y_makes, .ref a_y_worst]))] s.heap := hP
  have hl := lv_entry ([.ref a_y, .long p1, .long p3]) (n := 7) (Nat.le_of_ble_eq_true rfl)
  rw [lg_entry_eq]
  generalize (lg_sl ([.ref a_y, .long p1, .long p3]) ++ List.replicate (7 - (lg_sl ([.ref a_y, .long p1, .long p3])).length) Slot.unset).toArray = ls at hl ⊢
  have hl : lv_has ls 7 [(0, .ref a_y), (1, .long p1), (3, .long p3)] := hl
  have hiX10 : ∀ w ∈ wsX100, w ∈ wsX10_tells := fun _ h => List.mem_cons_of_mem _ (List.mem_append_right _ h)
  have hf108 := hts (.fieldLink RX10 108 "MeetSetsModel" "above" "J") (t1_ (al_ h1_))
  have hf47 := hts (.fieldLink RX10 47 "MeetSetsModel" "below" "J") (t1_ (al_ (t1_ h1_)))
  refine w_abs (fun Z hZv hZw => ?_)
  refine hZv ?_
  obtain ⟨H, hH⟩ : ∃ H, H = s.heap := ⟨_, rfl⟩
  obtain ⟨locs, hlo⟩ : ∃ L : List Loc, L = [] := ⟨_, rfl⟩
  rw [← hlo, ← hH]
  have hS : va_S A s.heap H locs := by rw [hlo, hH]; exact hS
  have hP : va_P (dC, dI) vwCl [(a_y, .inr (10, [.int y_n, .ref a_y_list, .int y_sets, .ref a_y_others, .int y_otherMany, .ref a_y_costs, .long y_above, .long y_below, .ref a_y_table, .long y_by, .ref a_y_basis, .ref a_y_isSeen, .ref a_y_colour, .ref a_y_rest, .ref a_y_makes, .ref a_y_worst]))] H := by rw [hH]; exact hP
  clear hH hlo
  unfold pX10_tells at hs
  refine lv_lload_n hx hb dX10_tells_0 rfl (lv_at hl 1 rfl) ?_
  refine lv_lload_n hx hb dX10_tells_1 rfl (lv_at hl 2 rfl) ?_
  obtain ⟨r1, hr1, hs⟩ := bd_s hs
  refine kc_l (isC := []) (isR := [0]) (pm := [0]) (wr := [(a_y, .inr (10, [.int y_n, .ref a_y_list, .int y_sets, .ref a_y_others, .int y_otherMany, .ref a_y_costs, .long y_above, .long y_below, .ref a_y_table, .long y_by, .ref a_y_basis, .ref a_y_isSeen, .ref a_y_colour, .ref a_y_rest, .ref a_y_makes, .ref a_y_worst]))]) (w1 := []) (w2 := [(a_y, .inr (10, [.int y_n, .ref a_y_list, .int y_sets, .ref a_y_others, .int y_otherMany, .ref a_y_costs, .long y_above, .long y_below, .ref a_y_table, .long y_by, .ref a_y_basis, .ref a_y_isSeen, .ref a_y_colour, .ref a_y_rest, .ref a_y_makes, .ref a_y_worst]))]) (va_runS (As := [.long p1, .long p3]) (rest := []) ⟨hx, hb, hml, hown, hts⟩ (c_X10_divisor l dC dI H.size p1 p3 r1 hr1) (va_cwS 2 hts gX10_tells_X10_divisor rfl rfl rfl (by decide +kernel) ⟨Nat.le_of_ble_eq_true rfl, Nat.le_of_ble_eq_true rfl⟩) (kp_S hK hP hD hS hA hN (isC := []) (isT := []) (wc := []) rfl (by decide +kernel) rfl) rfl rfl hl.1 rfl (lv_room (Nat.le_of_ble_eq_true rfl)) dX10_tells_2 ⟨Nat.le_of_ble_eq_true rfl, Nat.le_of_ble_eq_true rfl⟩) hP hD hS hA rfl rfl (by decide +kernel) (by decide +kernel) rfl (by decide +kernel) (fun H locs hP hD hS => ?_)
  refine lv_lstore (lv' := [(5, .long r1), (0, .ref a_y), (1, .long p1), (3, .long p3)]) hx hb dX10_tells_5 hl (by decide) rfl (fun ls hl => ?_)
  refine lv_aload_n hx hb dX10_tells_7 rfl (lv_at hl 1 rfl) ?_
  refine lv_lload_n hx hb dX10_tells_8 rfl (lv_at hl 2 rfl) ?_
  refine lv_lload hx hb dX10_tells_9 (lv_at hl 0 rfl) ?_
  obtain ⟨hz2, hs⟩ := gd_s hs
  refine lv_ldiv hx hb dX10_tells_11 hz2 ?_
  refine va_put (D := (dC, dI)) (ci := 10) (v := .long (p1 / r1)) (ty := .long) (C := RX10) (T := TX10) (N := 16) hx hb hts hiX10 tyX10 tyX10_ok nmX10 hown hK hP hD hS 0 rfl rfl 6 (by decide) hf108 (fun _ h9 => h9) rfl (by decide +kernel) rfl rfl (Nat.le_of_ble_eq_true rfl) dX10_tells_12 (fun H locs hP hD hS => ?_)
  have hP : va_P (dC, dI) vwCl [(a_y, .inr (10, [.int y_n, .ref a_y_list, .int y_sets, .ref a_y_others, .int y_otherMany, .ref a_y_costs, .long (p1 / r1), .long y_below, .ref a_y_table, .long y_by, .ref a_y_basis, .ref a_y_isSeen, .ref a_y_colour, .ref a_y_rest, .ref a_y_makes, .ref a_y_worst]))] H := hP
  have hD : va_D A [(a_y, .inr (10, [.int y_n, .ref a_y_list, .int y_sets, .ref a_y_others, .int y_otherMany, .ref a_y_costs, .long (p1 / r1), .long y_below, .ref a_y_table, .long y_by, .ref a_y_basis, .ref a_y_isSeen, .ref a_y_colour, .ref a_y_rest, .ref a_y_makes, .ref a_y_worst]))] := hD
  refine lv_aload_n hx hb dX10_tells_15 rfl (lv_at hl 1 rfl) ?_
  refine lv_lload_n hx hb dX10_tells_16 rfl (lv_at hl 3 rfl) ?_
  refine lv_lload hx hb dX10_tells_17 (lv_at hl 0 rfl) ?_
  obtain ⟨hz3, hs⟩ := gd_s hs
  refine lv_ldiv hx hb dX10_tells_19 hz3 ?_
  refine va_put (D := (dC, dI)) (ci := 10) (v := .long (p3 / r1)) (ty := .long) (C := RX10) (T := TX10) (N := 16) hx hb hts hiX10 tyX10 tyX10_ok nmX10 hown hK hP hD hS 0 rfl rfl 7 (by decide) hf47 (fun _ h9 => h9) rfl (by decide +kernel) rfl rfl (Nat.le_of_ble_eq_true rfl) dX10_tells_20 (fun H locs hP hD hS => ?_)
  have hP : va_P (dC, dI) vwCl [(a_y, .inr (10, [.int y_n, .ref a_y_list, .int y_sets, .ref a_y_others, .int y_otherMany, .ref a_y_costs, .long (p1 / r1), .long (p3 / r1), .ref a_y_table, .long y_by, .ref a_y_basis, .ref a_y_isSeen, .ref a_y_colour, .ref a_y_rest, .ref a_y_makes, .ref a_y_worst]))] H := hP
  have hD : va_D A [(a_y, .inr (10, [.int y_n, .ref a_y_list, .int y_sets, .ref a_y_others, .int y_otherMany, .ref a_y_costs, .long (p1 / r1), .long (p3 / r1), .ref a_y_table, .long y_by, .ref a_y_basis, .ref a_y_isSeen, .ref a_y_colour, .ref a_y_rest, .ref a_y_makes, .ref a_y_worst]))] := hD
  refine lv_iconst (v := 1) hx hb dX10_tells_23 (by decide) ?_
  replace hs := Option.some.inj hs
  subst hs
  exact W.iret (v := 1) hx hb hr (fun t ht hW => ⟨⟨1, (), rfl, rfl, by rw [ht]; exact hP, va_K.moved hW.alike hK, hD⟩, hS.F ht⟩) hS.2.2 dX10_tells_24
noncomputable def pX10_shares_L9 (y_n : Int32) (s9 : Int32 × Int64 × (Nat → Int64) × (Nat → Int32)) : Option ((Int32 × Int64 × (Nat → Int64) × (Nat → Int32)) ⊕ (Int64 × (Nat → Int64) × (Nat → Int32))) :=
  if s9.1 = (-1) then (some (Sum.inr (s9.2.1, s9.2.2.1, s9.2.2.2))) else (Option.bind (pX10_leaves y_n s9.2.2.1 s9.2.2.2 s9.1) (fun r4 => Option.bind (pX10_turns y_n s9.2.1 s9.2.2.1 s9.2.2.2 r4 s9.1) (fun r5 => Option.bind (pX10_enters r5.2.1) (fun r6 => some (Sum.inl (r6, r5.1, r5.2.1, r5.2.2))))))
noncomputable def pX10_shares (y_n : Int32) (y_sets : Int32) (y_above : Int64) (y_below : Int64) (y_by : Int64) (y_list : Nat → Int32) (y_costs : Nat → Int32) (y_table : Nat → Int64) (y_basis : Nat → Int32) : Option (Int32 × Int64 × Int64 × Int64 × (Nat → Int64) × (Nat → Int32)) :=
  Option.bind (pX10_lays y_n y_sets y_by y_list y_costs y_table y_basis) (fun r1 => Option.bind (pX10_enters r1.2.1) (fun r2 => Option.bind (lp (pX10_shares_L9 y_n) (r2, r1.1, r1.2.1, r1.2.2)) (fun e9 => gd (vp_in 296 297) (Option.bind (pX10_tells y_above y_below (e9.2.1 (296 : Int32).toNatClampNeg) e9.1) (fun r8 => some (r8.1, r8.2.1, r8.2.2, e9.1, e9.2.1, e9.2.2))))))
set_option maxHeartbeats 4000000 in
set_option maxRecDepth 100000 in
theorem c_X10_shares (l : Launch) (dC : Nat → ClassId) (dI : Nat → Nat → Nat) (a_y : Nat) (a_y_list : Nat) (a_y_others : Nat) (a_y_costs : Nat) (a_y_table : Nat) (a_y_basis : Nat) (a_y_isSeen : Nat) (a_y_colour : Nat) (a_y_rest : Nat) (a_y_makes : Nat) (a_y_worst : Nat) (c_y_list c_y_costs c_y_table c_y_basis : ClassId) (sz : Nat) (y_n : Int32) (y_sets : Int32) (y_otherMany : Int32) (y_above : Int64) (y_below : Int64) (y_by : Int64) (y_list : Nat → Int32) (y_costs : Nat → Int32) (y_table : Nat → Int64) (y_basis : Nat → Int32) (rv : Int32 × Int64 × Int64 × Int64 × (Nat → Int64) × (Nat → Int32)) (hs : pX10_shares y_n y_sets y_above y_below y_by y_list y_costs y_table y_basis = some rv) : Met l yX10_shares wsX10_shares ({ frames := 2, cells := 0, slots := 0, locals := 55 }) (sPc [.ref a_y] (dC, dI) [(c_y_list, .int), (c_y_costs, .int), (c_y_table, .long), (c_y_basis, .int)] [(a_y, .inr (10, [.int y_n, .ref a_y_list, .int y_sets, .ref a_y_others, .int y_otherMany, .ref a_y_costs, .long y_above, .long y_below, .ref a_y_table, .long y_by, .ref a_y_basis, .ref a_y_isSeen, .ref a_y_colour, .ref a_y_rest, .ref a_y_makes, .ref a_y_worst])), (a_y_list, .inl (c_y_list, 16, .inl y_list)), (a_y_costs, .inl (c_y_costs, 10, .inl y_costs)), (a_y_table, .inl (c_y_table, 297, .inr (.inl y_table))), (a_y_basis, .inl (c_y_basis, 10, .inl y_basis))] sz) (va_Qi (fun (r : Int32) (_ : Unit) => r = rv.1) (sB (dC, dI) [(c_y_list, .int), (c_y_costs, .int), (c_y_table, .long), (c_y_basis, .int)] (va_A [(a_y, .inr (10, [.int y_n, .ref a_y_list, .int y_sets, .ref a_y_others, .int y_otherMany, .ref a_y_costs, .long y_above, .long y_below, .ref a_y_table, .long y_by, .ref a_y_basis, .ref a_y_isSeen, .ref a_y_colour, .ref a_y_rest, .ref a_y_makes, .ref a_y_worst])), (a_y_list, .inl (c_y_list, 16, .inl y_list)), (a_y_costs, .inl (c_y_costs, 10, .inl y_costs)), (a_y_table, .inl (c_y_table, 297, .inr (.inl y_table))), (a_y_basis, .inl (c_y_basis, 10, .inl y_basis))] sz) [(a_y, .inr (10, [.int y_n, .ref a_y_list, .int y_sets, .ref a_y_others, .int y_otherMany, .ref a_y_costs, .long rv.2.1, .long rv.2.2.1, .ref a_y_table, .long rv.2.2.2.1, .ref a_y_basis, .ref a_y_isSeen, .ref a_y_colour, .ref a_y_rest, .ref a_y_makes, .ref a_y_worst])), (a_y_list, .inl (c_y_list, 16, .inl y_list)), (a_y_costs, .inl (c_y_costs, 10, .inl y_costs)), (a_y_table, .inl (c_y_table, 297, .inr (.inl rv.2.2.2.2.1))), (a_y_basis, .inl (c_y_basis, 10, .inl rv.2.2.2.2.2))]) (va_A [(a_y, .inr (10, [.int y_n, .ref a_y_list, .int y_sets, .ref a_y_others, .int y_otherMany, .ref a_y_costs, .long y_above, .long y_below, .ref a_y_table, .long y_by, .ref a_y_basis, .ref a_y_isSeen, .ref a_y_colour, .ref a_y_rest, .ref a_y_makes, .ref a_y_worst])), (a_y_list, .inl (c_y_list, 16, .inl y_list)), (a_y_costs, .inl (c_y_costs, 10, .inl y_costs)), (a_y_table, .inl (c_y_table, 297, .inr (.inl y_table))), (a_y_basis, .inl (c_y_basis, 10, .inl y_basis))] sz)) 0 0 (va_A [(a_y, .inr (10, [.int y_n, .ref a_y_list, .int y_sets, .ref a_y_others, .int y_otherMany, .ref a_y_costs, .long y_above, .long y_below, .ref a_y_table, .long y_by, .ref a_y_basis, .ref a_y_isSeen, .ref a_y_colour, .ref a_y_rest, .ref a_y_makes, .ref a_y_worst])), (a_y_list, .inl (c_y_list, 16, .inl y_list)), (a_y_costs, .inl (c_y_costs, 10, .inl y_costs)), (a_y_table, .inl (c_y_table, 297, .inr (.inl y_table))), (a_y_basis, .inl (c_y_basis, 10, .inl y_basis))] sz) := by
  refine Met.ofW (cc := cX10_shares) (maxL := 2) (ret := (some .int)) (by decide) rfl ?_
  intro p e s m args below meth c s₁ B hml hv
  obtain ⟨rfl, hsz, hP, hK, hD0, hN⟩ := hv
  have hx := B.exec
  have hb := B.bytes
  have hr := B.returns
  have hts := atoms_spec (ws := wsX10_shares) B.pre
  have hown : s.vm.findClass RX10 = some m.cls := findClass_of_methodNamed B.named
  have hlocks := B.notSynchronized
  subst hsz
  have hD := hD0.self (sz := s.heap.size)
  generalize hAe : va_A [(a_y, .inr (10, [.int y_n, .ref a_y_list, .int y_sets, .ref a_y_others, .int y_otherMany, .ref a_y_costs, .long y_above, .long y_below, .ref a_y_table, .long y_by, .ref a_y_basis, .ref a_y_isSeen, .ref a_y_colour, .ref a_y_rest, .ref a_y_makes, .ref a_y_worst])), (a_y_list, .inl (c_y_list, 16, .inl y_list)), (a_y_costs, .inl (c_y_costs, 10, .inl y_costs)), (a_y_table, .inl (c_y_table, 297, .inr (.inl y_table))), (a_y_basis, .inl (c_y_basis, 10, .inl y_basis))] s.heap.size = A at hD hN ⊢
  have hA : ∀ q : Nat, s.heap.size ≤ q → A q := fun q h => by rw [← hAe]; exact Or.inr h
  have hS : va_S A s.heap s.heap [] := va_S.rf
  have hP : va_P (dC, dI) vwCl [(a_y, .inr (10, [.int y_n, .ref a_y_list, .int y_sets, .ref a_y_others, .int y_otherMany, .ref a_y_costs, .long y_above, .long y_below, .ref a_y_table, .long y_by, .ref a_y_basis, .ref a_y_isSeen, .ref a_y_colour, .ref a_y_rest, .ref a_y_makes, .ref a_y_worst])), (a_y_list, .inl (c_y_list, 16, .inl y_list)), (a_y_costs, .inl (c_y_costs, 10, .inl y_costs)), (a_y_table, .inl (c_y_table, 297, .inr (.inl y_table))), (a_y_basis, .inl (c_y_basis, 10, .inl y_basis))] s.heap := hP
  have hl := lv_entry ([.ref a_y]) (n := 2) (Nat.le_of_ble_eq_true rfl)
  rw [lg_entry_eq]
  generalize (lg_sl ([.ref a_y]) ++ List.replicate (2 - (lg_sl ([.ref a_y])).length) Slot.unset).toArray = ls at hl ⊢
  have hl : lv_has ls 2 [(0, .ref a_y)] := hl
  have hiX10 : ∀ w ∈ wsX100, w ∈ wsX10_shares := fun _ h => List.mem_cons_of_mem _ (List.mem_append_right _ h)
  have hf19 := hts (.fieldLink RX10 19 "MeetSetsModel" "table" "[J") (t1_ (al_ (al_ h1_)))
  have hf99 := hts (.fieldLink RX10 99 "MeetSetsModel" "by" "J") (t1_ (al_ (al_ (t1_ h1_))))
  refine w_abs (fun Z hZv hZw => ?_)
  refine hZv ?_
  obtain ⟨H, hH⟩ : ∃ H, H = s.heap := ⟨_, rfl⟩
  obtain ⟨locs, hlo⟩ : ∃ L : List Loc, L = [] := ⟨_, rfl⟩
  rw [← hlo, ← hH]
  have hS : va_S A s.heap H locs := by rw [hlo, hH]; exact hS
  have hP : va_P (dC, dI) vwCl [(a_y, .inr (10, [.int y_n, .ref a_y_list, .int y_sets, .ref a_y_others, .int y_otherMany, .ref a_y_costs, .long y_above, .long y_below, .ref a_y_table, .long y_by, .ref a_y_basis, .ref a_y_isSeen, .ref a_y_colour, .ref a_y_rest, .ref a_y_makes, .ref a_y_worst])), (a_y_list, .inl (c_y_list, 16, .inl y_list)), (a_y_costs, .inl (c_y_costs, 10, .inl y_costs)), (a_y_table, .inl (c_y_table, 297, .inr (.inl y_table))), (a_y_basis, .inl (c_y_basis, 10, .inl y_basis))] H := by rw [hH]; exact hP
  clear hH hlo
  unfold pX10_shares at hs
  refine lv_aload_n hx hb dX10_shares_0 rfl (lv_at hl 0 rfl) ?_
  obtain ⟨r1, hr1, hs⟩ := bd_s hs
  refine kc_v (isC := [0, 1, 2, 3, 4]) (isR := []) (pm := [0, 1, 2, 3, 4]) (wr := []) (w1 := [(a_y, .inr (10, [.int y_n, .ref a_y_list, .int y_sets, .ref a_y_others, .int y_otherMany, .ref a_y_costs, .long y_above, .long y_below, .ref a_y_table, .long r1.1, .ref a_y_basis, .ref a_y_isSeen, .ref a_y_colour, .ref a_y_rest, .ref a_y_makes, .ref a_y_worst])), (a_y_list, .inl (c_y_list, 16, .inl y_list)), (a_y_costs, .inl (c_y_costs, 10, .inl y_costs)), (a_y_table, .inl (c_y_table, 297, .inr (.inl r1.2.1))), (a_y_basis, .inl (c_y_basis, 10, .inl r1.2.2))]) (w2 := [(a_y, .inr (10, [.int y_n, .ref a_y_list, .int y_sets, .ref a_y_others, .int y_otherMany, .ref a_y_costs, .long y_above, .long y_below, .ref a_y_table, .long r1.1, .ref a_y_basis, .ref a_y_isSeen, .ref a_y_colour, .ref a_y_rest, .ref a_y_makes, .ref a_y_worst])), (a_y_list, .inl (c_y_list, 16, .inl y_list)), (a_y_costs, .inl (c_y_costs, 10, .inl y_costs)), (a_y_table, .inl (c_y_table, 297, .inr (.inl r1.2.1))), (a_y_basis, .inl (c_y_basis, 10, .inl r1.2.2))]) (va_runV (As := []) (rest := []) ⟨hx, hb, hml, hown, hts⟩ (c_X10_lays l dC dI a_y a_y_list a_y_others a_y_costs a_y_table a_y_basis a_y_isSeen a_y_colour a_y_rest a_y_makes a_y_worst c_y_list c_y_costs c_y_table c_y_basis H.size y_n y_sets y_otherMany y_above y_below y_by y_list y_costs y_table y_basis r1 hr1) (cwV 0 hts gX10_shares_X10_lays rfl rfl rfl (by decide +kernel) ⟨Nat.le_of_ble_eq_true rfl, Nat.le_of_ble_eq_true rfl⟩) (kp_V hK hP hD hS hA hN (isC := [0, 1, 2, 3, 4]) (isT := [0, 1, 2, 3]) (wc := [(a_y, .inr (10, [.int y_n, .ref a_y_list, .int y_sets, .ref a_y_others, .int y_otherMany, .ref a_y_costs, .long y_above, .long y_below, .ref a_y_table, .long y_by, .ref a_y_basis, .ref a_y_isSeen, .ref a_y_colour, .ref a_y_rest, .ref a_y_makes, .ref a_y_worst])), (a_y_list, .inl (c_y_list, 16, .inl y_list)), (a_y_costs, .inl (c_y_costs, 10, .inl y_costs)), (a_y_table, .inl (c_y_table, 297, .inr (.inl y_table))), (a_y_basis, .inl (c_y_basis, 10, .inl y_basis))]) rfl (by decide +kernel) rfl (ci := 10) (q0 := 0) rfl rfl) rfl rfl hl.1 rfl (lv_room (Nat.le_of_ble_eq_true rfl)) dX10_shares_1 ⟨Nat.le_of_ble_eq_true rfl, Nat.le_of_ble_eq_true rfl⟩) hP hD hS hA rfl rfl (by decide +kernel) (by decide +kernel) rfl (by decide +kernel) (fun H locs hP hD hS => ?_)
  refine lv_aload_n hx hb dX10_shares_4 rfl (lv_at hl 0 rfl) ?_
  obtain ⟨r2, hr2, hs⟩ := bd_s hs
  refine kc_i (isC := [0, 3]) (isR := [1, 2, 4]) (pm := [3, 0, 1, 4, 2]) (wr := [(a_y_list, .inl (c_y_list, 16, .inl y_list)), (a_y_costs, .inl (c_y_costs, 10, .inl y_costs)), (a_y_basis, .inl (c_y_basis, 10, .inl r1.2.2))]) (w1 := [(a_y, .inr (10, [.int y_n, .ref a_y_list, .int y_sets, .ref a_y_others, .int y_otherMany, .ref a_y_costs, .long y_above, .long y_below, .ref a_y_table, .long r1.1, .ref a_y_basis, .ref a_y_isSeen, .ref a_y_colour, .ref a_y_rest, .ref a_y_makes, .ref a_y_worst])), (a_y_table, .inl (c_y_table, 297, .inr (.inl r1.2.1)))]) (w2 := [(a_y, .inr (10, [.int y_n, .ref a_y_list, .int y_sets, .ref a_y_others, .int y_otherMany, .ref a_y_costs, .long y_above, .long y_below, .ref a_y_table, .long r1.1, .ref a_y_basis, .ref a_y_isSeen, .ref a_y_colour, .ref a_y_rest, .ref a_y_makes, .ref a_y_worst])), (a_y_list, .inl (c_y_list, 16, .inl y_list)), (a_y_costs, .inl (c_y_costs, 10, .inl y_costs)), (a_y_table, .inl (c_y_table, 297, .inr (.inl r1.2.1))), (a_y_basis, .inl (c_y_basis, 10, .inl r1.2.2))]) (va_runV (As := []) (rest := []) ⟨hx, hb, hml, hown, hts⟩ (c_X10_enters l dC dI a_y a_y_list a_y_others a_y_costs a_y_table a_y_basis a_y_isSeen a_y_colour a_y_rest a_y_makes a_y_worst c_y_table H.size y_n y_sets y_otherMany y_above y_below r1.1 r1.2.1 r2 hr2) (cwV 0 hts gX10_shares_X10_enters rfl rfl rfl (by decide +kernel) ⟨Nat.le_of_ble_eq_true rfl, Nat.le_of_ble_eq_true rfl⟩) (kp_V hK hP hD hS hA hN (isC := [0, 3]) (isT := [2]) (wc := [(a_y, .inr (10, [.int y_n, .ref a_y_list, .int y_sets, .ref a_y_others, .int y_otherMany, .ref a_y_costs, .long y_above, .long y_below, .ref a_y_table, .long r1.1, .ref a_y_basis, .ref a_y_isSeen, .ref a_y_colour, .ref a_y_rest, .ref a_y_makes, .ref a_y_worst])), (a_y_table, .inl (c_y_table, 297, .inr (.inl r1.2.1)))]) rfl (by decide +kernel) rfl (ci := 10) (q0 := 0) rfl rfl) rfl rfl hl.1 rfl (lv_room (Nat.le_of_ble_eq_true rfl)) dX10_shares_5 ⟨Nat.le_of_ble_eq_true rfl, Nat.le_of_ble_eq_true rfl⟩) hP hD hS hA rfl rfl (by decide +kernel) (by decide +kernel) rfl (by decide +kernel) (fun H locs hP hD hS => ?_)
  refine lv_istore_n (lv' := [(1, .int r2), (0, .ref a_y)]) hx hb dX10_shares_8 rfl hl (by decide) rfl (fun ls hl => ?_)
  obtain ⟨e9, he9, hs⟩ := bd_s hs
  have hX9 : ∀ (H : Heap) (locs : List Loc) (ls : Array Slot), va_P (dC, dI) vwCl [(a_y, .inr (10, [.int y_n, .ref a_y_list, .int y_sets, .ref a_y_others, .int y_otherMany, .ref a_y_costs, .long y_above, .long y_below, .ref a_y_table, .long e9.1, .ref a_y_basis, .ref a_y_isSeen, .ref a_y_colour, .ref a_y_rest, .ref a_y_makes, .ref a_y_worst])), (a_y_list, .inl (c_y_list, 16, .inl y_list)), (a_y_costs, .inl (c_y_costs, 10, .inl y_costs)), (a_y_table, .inl (c_y_table, 297, .inr (.inl e9.2.1))), (a_y_basis, .inl (c_y_basis, 10, .inl e9.2.2))] H → va_D A [(a_y, .inr (10, [.int y_n, .ref a_y_list, .int y_sets, .ref a_y_others, .int y_otherMany, .ref a_y_costs, .long y_above, .long y_below, .ref a_y_table, .long e9.1, .ref a_y_basis, .ref a_y_isSeen, .ref a_y_colour, .ref a_y_rest, .ref a_y_makes, .ref a_y_worst])), (a_y_list, .inl (c_y_list, 16, .inl y_list)), (a_y_costs, .inl (c_y_costs, 10, .inl y_costs)), (a_y_table, .inl (c_y_table, 297, .inr (.inl e9.2.1))), (a_y_basis, .inl (c_y_basis, 10, .inl e9.2.2))] → va_S A s.heap H locs → lv_has ls 2 [(0, .ref a_y)] → Z H locs 0 0 (F0 m 32 ls []) := by
    intro H locs ls hP hD hS hl
    refine hZv ?_
    refine lv_aload_n hx hb dX10_shares_32 rfl (lv_at hl 0 rfl) ?_
    refine lv_aload_n hx hb dX10_shares_33 rfl (lv_at hl 0 rfl) ?_
    refine va_get (D := (dC, dI)) (ci := 10) (v := .ref a_y_table) (C := RX10) (T := TX10) (N := 16) hx hb hts hiX10 hown hK hP 0 rfl rfl 8 (by decide) hf19 (fun _ h9 => h9) rfl dX10_shares_34 ?_
    refine lv_sipush (v := 296) hx hb dX10_shares_37 (by decide) ?_
    obtain ⟨hg7, hs⟩ := gd_s hs
    refine va_lald hx hb hK hP 3 2 rfl rfl hg7 dX10_shares_40 ?_
    refine lv_aload_n hx hb dX10_shares_41 rfl (lv_at hl 0 rfl) ?_
    refine va_get (D := (dC, dI)) (ci := 10) (v := .long e9.1) (C := RX10) (T := TX10) (N := 16) hx hb hts hiX10 hown hK hP 0 rfl rfl 9 (by decide) hf99 (fun _ h9 => h9) rfl dX10_shares_42 ?_
    obtain ⟨r8, hr8, hs⟩ := bd_s hs
    refine kc_i (isC := [0]) (isR := [1, 2, 3, 4]) (pm := [4, 0, 1, 2, 3]) (wr := [(a_y_list, .inl (c_y_list, 16, .inl y_list)), (a_y_costs, .inl (c_y_costs, 10, .inl y_costs)), (a_y_table, .inl (c_y_table, 297, .inr (.inl e9.2.1))), (a_y_basis, .inl (c_y_basis, 10, .inl e9.2.2))]) (w1 := [(a_y, .inr (10, [.int y_n, .ref a_y_list, .int y_sets, .ref a_y_others, .int y_otherMany, .ref a_y_costs, .long r8.2.1, .long r8.2.2, .ref a_y_table, .long e9.1, .ref a_y_basis, .ref a_y_isSeen, .ref a_y_colour, .ref a_y_rest, .ref a_y_makes, .ref a_y_worst]))]) (w2 := [(a_y, .inr (10, [.int y_n, .ref a_y_list, .int y_sets, .ref a_y_others, .int y_otherMany, .ref a_y_costs, .long r8.2.1, .long r8.2.2, .ref a_y_table, .long e9.1, .ref a_y_basis, .ref a_y_isSeen, .ref a_y_colour, .ref a_y_rest, .ref a_y_makes, .ref a_y_worst])), (a_y_list, .inl (c_y_list, 16, .inl y_list)), (a_y_costs, .inl (c_y_costs, 10, .inl y_costs)), (a_y_table, .inl (c_y_table, 297, .inr (.inl e9.2.1))), (a_y_basis, .inl (c_y_basis, 10, .inl e9.2.2))]) (va_runV (As := [.long (e9.2.1 (296 : Int32).toNatClampNeg), .long e9.1]) (rest := []) ⟨hx, hb, hml, hown, hts⟩ (c_X10_tells l dC dI a_y a_y_list a_y_others a_y_costs a_y_table a_y_basis a_y_isSeen a_y_colour a_y_rest a_y_makes a_y_worst H.size y_n y_sets y_otherMany y_above y_below e9.1 (e9.2.1 (296 : Int32).toNatClampNeg) e9.1 r8 hr8) (cwV 2 hts gX10_shares_X10_tells rfl rfl rfl (by decide +kernel) ⟨Nat.le_of_ble_eq_true rfl, Nat.le_of_ble_eq_true rfl⟩) (kp_V hK hP hD hS hA hN (isC := [0]) (isT := []) (wc := [(a_y, .inr (10, [.int y_n, .ref a_y_list, .int y_sets, .ref a_y_others, .int y_otherMany, .ref a_y_costs, .long y_above, .long y_below, .ref a_y_table, .long e9.1, .ref a_y_basis, .ref a_y_isSeen, .ref a_y_colour, .ref a_y_rest, .ref a_y_makes, .ref a_y_worst]))]) rfl (by decide +kernel) rfl (ci := 10) (q0 := 0) rfl rfl) rfl rfl hl.1 rfl (lv_room (Nat.le_of_ble_eq_true rfl)) dX10_shares_45 ⟨Nat.le_of_ble_eq_true rfl, Nat.le_of_ble_eq_true rfl⟩) hP hD hS hA rfl rfl (by decide +kernel) (by decide +kernel) rfl (by decide +kernel) (fun H locs hP hD hS => ?_)
    replace hs := Option.some.inj hs
    subst hs
    exact W.iret (v := r8.1) hx hb hr (fun t ht hW => ⟨⟨r8.1, (), rfl, rfl, by rw [ht]; exact hP, va_K.moved hW.alike hK, hD⟩, hS.F ht⟩) hS.2.2 dX10_shares_48
  clear hs
  have hL9 : ∀ (n : Nat) (s9 : Int32 × Int64 × (Nat → Int64) × (Nat → Int32)) (H : Heap) (locs : List Loc) (ls : Array Slot), itr (pX10_shares_L9 y_n) n s9 = some e9 → va_P (dC, dI) vwCl [(a_y, .inr (10, [.int y_n, .ref a_y_list, .int y_sets, .ref a_y_others, .int y_otherMany, .ref a_y_costs, .long y_above, .long y_below, .ref a_y_table, .long s9.2.1, .ref a_y_basis, .ref a_y_isSeen, .ref a_y_colour, .ref a_y_rest, .ref a_y_makes, .ref a_y_worst])), (a_y_list, .inl (c_y_list, 16, .inl y_list)), (a_y_costs, .inl (c_y_costs, 10, .inl y_costs)), (a_y_table, .inl (c_y_table, 297, .inr (.inl s9.2.2.1))), (a_y_basis, .inl (c_y_basis, 10, .inl s9.2.2.2))] H → va_D A [(a_y, .inr (10, [.int y_n, .ref a_y_list, .int y_sets, .ref a_y_others, .int y_otherMany, .ref a_y_costs, .long y_above, .long y_below, .ref a_y_table, .long s9.2.1, .ref a_y_basis, .ref a_y_isSeen, .ref a_y_colour, .ref a_y_rest, .ref a_y_makes, .ref a_y_worst])), (a_y_list, .inl (c_y_list, 16, .inl y_list)), (a_y_costs, .inl (c_y_costs, 10, .inl y_costs)), (a_y_table, .inl (c_y_table, 297, .inr (.inl s9.2.2.1))), (a_y_basis, .inl (c_y_basis, 10, .inl s9.2.2.2))] → va_S A s.heap H locs → lv_has ls 2 [(0, .ref a_y), (1, .int s9.1)] → Z H locs 0 0 (F0 m 9 ls []) := by
    intro n
    induction n with
    | zero =>
      intro s9 H locs ls hn
      exact (itr_0 hn).elim
    | succ n ih =>
      intro s9 H locs ls hn hP hD hS hl
      obtain ⟨y3, hs, hn⟩ := itr_s hn
      unfold pX10_shares_L9 at hs
      refine hZv ?_
      refine lv_iload_n hx hb dX10_shares_9 rfl (lv_at hl 1 rfl) ?_
      refine lv_iconst (v := (-1)) hx hb dX10_shares_10 (by decide) ?_
      refine lv_icmp_eq (tgt := 32) hx hb dX10_shares_11 (by decide) (fun hc => ?_) (fun hc => ?_)
      · replace hs := it_t hc hs
        replace hs := Option.some.inj hs
        subst hs
        obtain rfl : (s9.2.1, s9.2.2.1, s9.2.2.2) = e9 := hn
        exact hZw (hX9 H locs ls hP hD hS (lv_sub hl [0] rfl))
      · replace hs := it_f hc hs
        refine lv_aload_n hx hb dX10_shares_14 rfl (lv_at hl 0 rfl) ?_
        refine lv_aload_n hx hb dX10_shares_15 rfl (lv_at hl 0 rfl) ?_
        refine lv_iload_n hx hb dX10_shares_16 rfl (lv_at hl 1 rfl) ?_
        obtain ⟨r4, hr4, hs⟩ := bd_s hs
        refine kc_i (isC := [0, 3, 4]) (isR := [1, 2]) (pm := [2, 0, 1, 3, 4]) (wr := [(a_y_list, .inl (c_y_list, 16, .inl y_list)), (a_y_costs, .inl (c_y_costs, 10, .inl y_costs))]) (w1 := [(a_y, .inr (10, [.int y_n, .ref a_y_list, .int y_sets, .ref a_y_others, .int y_otherMany, .ref a_y_costs, .long y_above, .long y_below, .ref a_y_table, .long s9.2.1, .ref a_y_basis, .ref a_y_isSeen, .ref a_y_colour, .ref a_y_rest, .ref a_y_makes, .ref a_y_worst])), (a_y_table, .inl (c_y_table, 297, .inr (.inl s9.2.2.1))), (a_y_basis, .inl (c_y_basis, 10, .inl s9.2.2.2))]) (w2 := [(a_y, .inr (10, [.int y_n, .ref a_y_list, .int y_sets, .ref a_y_others, .int y_otherMany, .ref a_y_costs, .long y_above, .long y_below, .ref a_y_table, .long s9.2.1, .ref a_y_basis, .ref a_y_isSeen, .ref a_y_colour, .ref a_y_rest, .ref a_y_makes, .ref a_y_worst])), (a_y_list, .inl (c_y_list, 16, .inl y_list)), (a_y_costs, .inl (c_y_costs, 10, .inl y_costs)), (a_y_table, .inl (c_y_table, 297, .inr (.inl s9.2.2.1))), (a_y_basis, .inl (c_y_basis, 10, .inl s9.2.2.2))]) (va_runV (As := [.int s9.1]) (rest := [.ref a_y]) ⟨hx, hb, hml, hown, hts⟩ (c_X10_leaves l dC dI a_y a_y_list a_y_others a_y_costs a_y_table a_y_basis a_y_isSeen a_y_colour a_y_rest a_y_makes a_y_worst c_y_table c_y_basis H.size y_n y_sets y_otherMany y_above y_below s9.2.1 s9.2.2.1 s9.2.2.2 s9.1 r4 hr4) (cwV 1 hts gX10_shares_X10_leaves rfl rfl rfl (by decide +kernel) ⟨Nat.le_of_ble_eq_true rfl, Nat.le_of_ble_eq_true rfl⟩) (kp_V hK hP hD hS hA hN (isC := [0, 3, 4]) (isT := [2, 3]) (wc := [(a_y, .inr (10, [.int y_n, .ref a_y_list, .int y_sets, .ref a_y_others, .int y_otherMany, .ref a_y_costs, .long y_above, .long y_below, .ref a_y_table, .long s9.2.1, .ref a_y_basis, .ref a_y_isSeen, .ref a_y_colour, .ref a_y_rest, .ref a_y_makes, .ref a_y_worst])), (a_y_table, .inl (c_y_table, 297, .inr (.inl s9.2.2.1))), (a_y_basis, .inl (c_y_basis, 10, .inl s9.2.2.2))]) rfl (by decide +kernel) rfl (ci := 10) (q0 := 0) rfl rfl) rfl rfl hl.1 rfl (lv_room (Nat.le_of_ble_eq_true rfl)) dX10_shares_17 ⟨Nat.le_of_ble_eq_true rfl, Nat.le_of_ble_eq_true rfl⟩) hP hD hS hA rfl rfl (by decide +kernel) (by decide +kernel) rfl (by decide +kernel) (fun H locs hP hD hS => ?_)
        refine lv_iload_n hx hb dX10_shares_20 rfl (lv_at hl 1 rfl) ?_
        obtain ⟨r5, hr5, hs⟩ := bd_s hs
        refine kc_v (isC := [0, 3, 4]) (isR := [1, 2]) (pm := [2, 0, 1, 3, 4]) (wr := [(a_y_list, .inl (c_y_list, 16, .inl y_list)), (a_y_costs, .inl (c_y_costs, 10, .inl y_costs))]) (w1 := [(a_y, .inr (10, [.int y_n, .ref a_y_list, .int y_sets, .ref a_y_others, .int y_otherMany, .ref a_y_costs, .long y_above, .long y_below, .ref a_y_table, .long r5.1, .ref a_y_basis, .ref a_y_isSeen, .ref a_y_colour, .ref a_y_rest, .ref a_y_makes, .ref a_y_worst])), (a_y_table, .inl (c_y_table, 297, .inr (.inl r5.2.1))), (a_y_basis, .inl (c_y_basis, 10, .inl r5.2.2))]) (w2 := [(a_y, .inr (10, [.int y_n, .ref a_y_list, .int y_sets, .ref a_y_others, .int y_otherMany, .ref a_y_costs, .long y_above, .long y_below, .ref a_y_table, .long r5.1, .ref a_y_basis, .ref a_y_isSeen, .ref a_y_colour, .ref a_y_rest, .ref a_y_makes, .ref a_y_worst])), (a_y_list, .inl (c_y_list, 16, .inl y_list)), (a_y_costs, .inl (c_y_costs, 10, .inl y_costs)), (a_y_table, .inl (c_y_table, 297, .inr (.inl r5.2.1))), (a_y_basis, .inl (c_y_basis, 10, .inl r5.2.2))]) (va_runV (As := [.int r4, .int s9.1]) (rest := []) ⟨hx, hb, hml, hown, hts⟩ (c_X10_turns l dC dI a_y a_y_list a_y_others a_y_costs a_y_table a_y_basis a_y_isSeen a_y_colour a_y_rest a_y_makes a_y_worst c_y_table c_y_basis H.size y_n y_sets y_otherMany y_above y_below s9.2.1 s9.2.2.1 s9.2.2.2 r4 s9.1 r5 hr5) (cwV 2 hts gX10_shares_X10_turns rfl rfl rfl (by decide +kernel) ⟨Nat.le_of_ble_eq_true rfl, Nat.le_of_ble_eq_true rfl⟩) (kp_V hK hP hD hS hA hN (isC := [0, 3, 4]) (isT := [2, 3]) (wc := [(a_y, .inr (10, [.int y_n, .ref a_y_list, .int y_sets, .ref a_y_others, .int y_otherMany, .ref a_y_costs, .long y_above, .long y_below, .ref a_y_table, .long s9.2.1, .ref a_y_basis, .ref a_y_isSeen, .ref a_y_colour, .ref a_y_rest, .ref a_y_makes, .ref a_y_worst])), (a_y_table, .inl (c_y_table, 297, .inr (.inl s9.2.2.1))), (a_y_basis, .inl (c_y_basis, 10, .inl s9.2.2.2))]) rfl (by decide +kernel) rfl (ci := 10) (q0 := 0) rfl rfl) rfl rfl hl.1 rfl (lv_room (Nat.le_of_ble_eq_true rfl)) dX10_shares_21 ⟨Nat.le_of_ble_eq_true rfl, Nat.le_of_ble_eq_true rfl⟩) hP hD hS hA rfl rfl (by decide +kernel) (by decide +kernel) rfl (by decide +kernel) (fun H locs hP hD hS => ?_)
        refine lv_aload_n hx hb dX10_shares_24 rfl (lv_at hl 0 rfl) ?_
        obtain ⟨r6, hr6, hs⟩ := bd_s hs
        refine kc_i (isC := [0, 3]) (isR := [1, 2, 4]) (pm := [3, 0, 1, 4, 2]) (wr := [(a_y_list, .inl (c_y_list, 16, .inl y_list)), (a_y_costs, .inl (c_y_costs, 10, .inl y_costs)), (a_y_basis, .inl (c_y_basis, 10, .inl r5.2.2))]) (w1 := [(a_y, .inr (10, [.int y_n, .ref a_y_list, .int y_sets, .ref a_y_others, .int y_otherMany, .ref a_y_costs, .long y_above, .long y_below, .ref a_y_table, .long r5.1, .ref a_y_basis, .ref a_y_isSeen, .ref a_y_colour, .ref a_y_rest, .ref a_y_makes, .ref a_y_worst])), (a_y_table, .inl (c_y_table, 297, .inr (.inl r5.2.1)))]) (w2 := [(a_y, .inr (10, [.int y_n, .ref a_y_list, .int y_sets, .ref a_y_others, .int y_otherMany, .ref a_y_costs, .long y_above, .long y_below, .ref a_y_table, .long r5.1, .ref a_y_basis, .ref a_y_isSeen, .ref a_y_colour, .ref a_y_rest, .ref a_y_makes, .ref a_y_worst])), (a_y_list, .inl (c_y_list, 16, .inl y_list)), (a_y_costs, .inl (c_y_costs, 10, .inl y_costs)), (a_y_table, .inl (c_y_table, 297, .inr (.inl r5.2.1))), (a_y_basis, .inl (c_y_basis, 10, .inl r5.2.2))]) (va_runV (As := []) (rest := []) ⟨hx, hb, hml, hown, hts⟩ (c_X10_enters l dC dI a_y a_y_list a_y_others a_y_costs a_y_table a_y_basis a_y_isSeen a_y_colour a_y_rest a_y_makes a_y_worst c_y_table H.size y_n y_sets y_otherMany y_above y_below r5.1 r5.2.1 r6 hr6) (cwV 0 hts gX10_shares_X10_enters rfl rfl rfl (by decide +kernel) ⟨Nat.le_of_ble_eq_true rfl, Nat.le_of_ble_eq_true rfl⟩) (kp_V hK hP hD hS hA hN (isC := [0, 3]) (isT := [2]) (wc := [(a_y, .inr (10, [.int y_n, .ref a_y_list, .int y_sets, .ref a_y_others, .int y_otherMany, .ref a_y_costs, .long y_above, .long y_below, .ref a_y_table, .long r5.1, .ref a_y_basis, .ref a_y_isSeen, .ref a_y_colour, .ref a_y_rest, .ref a_y_makes, .ref a_y_worst])), (a_y_table, .inl (c_y_table, 297, .inr (.inl r5.2.1)))]) rfl (by decide +kernel) rfl (ci := 10) (q0 := 0) rfl rfl) rfl rfl hl.1 rfl (lv_room (Nat.le_of_ble_eq_true rfl)) dX10_shares_25 ⟨Nat.le_of_ble_eq_true rfl, Nat.le_of_ble_eq_true rfl⟩) hP hD hS hA rfl rfl (by decide +kernel) (by decide +kernel) rfl (by decide +kernel) (fun H locs hP hD hS => ?_)
        refine lv_istore_n (lv' := [(1, .int r6), (0, .ref a_y)]) hx hb dX10_shares_28 rfl hl (by decide) rfl (fun ls hl => ?_)
        refine lv_goto (tgt := 9) hx hb dX10_shares_29 (by decide) ?_
        replace hs := Option.some.inj hs
        subst hs
        exact hZw (ih (r6, r5.1, r5.2.1, r5.2.2) H locs ls hn hP hD hS (lv_sub hl [1, 0] rfl))
  obtain ⟨n9, hn9⟩ := lp_ex he9
  exact hZw (hL9 n9 (r2, r1.1, r1.2.1, r1.2.2) H locs ls hn9 hP hD hS (lv_sub hl [1, 0] rfl))
noncomputable def pX10_part (y_above : Int64) (y_below : Int64) (p1 : Int32) : Option (Int64) :=
  if p1 = 0 then (some y_above) else (if p1 = 1 then (some y_below) else (some (-1)))
set_option maxHeartbeats 4000000 in
set_option maxRecDepth 100000 in
theorem c_X10_part (l : Launch) (dC : Nat → ClassId) (dI : Nat → Nat → Nat) (a_y : Nat) (a_y_list : Nat) (a_y_others : Nat) (a_y_costs : Nat) (a_y_table : Nat) (a_y_basis : Nat) (a_y_isSeen : Nat) (a_y_colour : Nat) (a_y_rest : Nat) (a_y_makes : Nat) (a_y_worst : Nat) (sz : Nat) (y_n : Int32) (y_sets : Int32) (y_otherMany : Int32) (y_above : Int64) (y_below : Int64) (y_by : Int64) (p1 : Int32) (rv : Int64) (hs : pX10_part y_above y_below p1 = some rv) : Met l yX10_part wsX10_part ({ frames := 0, cells := 0, slots := 0, locals := 0 }) (sPc [.ref a_y, .int p1] (dC, dI) [] [(a_y, .inr (10, [.int y_n, .ref a_y_list, .int y_sets, .ref a_y_others, .int y_otherMany, .ref a_y_costs, .long y_above, .long y_below, .ref a_y_table, .long y_by, .ref a_y_basis, .ref a_y_isSeen, .ref a_y_colour, .ref a_y_rest, .ref a_y_makes, .ref a_y_worst]))] sz) (va_Ql (fun (r : Int64) (_ : Unit) => r = rv) (sB (dC, dI) [] (va_A [(a_y, .inr (10, [.int y_n, .ref a_y_list, .int y_sets, .ref a_y_others, .int y_otherMany, .ref a_y_costs, .long y_above, .long y_below, .ref a_y_table, .long y_by, .ref a_y_basis, .ref a_y_isSeen, .ref a_y_colour, .ref a_y_rest, .ref a_y_makes, .ref a_y_worst]))] sz) [(a_y, .inr (10, [.int y_n, .ref a_y_list, .int y_sets, .ref a_y_others, .int y_otherMany, .ref a_y_costs, .long y_above, .long y_below, .ref a_y_table, .long y_by, .ref a_y_basis, .ref a_y_isSeen, .ref a_y_colour, .ref a_y_rest, .ref a_y_makes, .ref a_y_worst]))]) (va_A [(a_y, .inr (10, [.int y_n, .ref a_y_list, .int y_sets, .ref a_y_others, .int y_otherMany, .ref a_y_costs, .long y_above, .long y_below, .ref a_y_table, .long y_by, .ref a_y_basis, .ref a_y_isSeen, .ref a_y_colour, .ref a_y_rest, .ref a_y_makes, .ref a_y_worst]))] sz)) 0 0 (va_A [(a_y, .inr (10, [.int y_n, .ref a_y_list, .int y_sets, .ref a_y_others, .int y_otherMany, .ref a_y_costs, .long y_above, .long y_below, .ref a_y_table, .long y_by, .ref a_y_basis, .ref a_y_isSeen, .ref a_y_colour, .ref a_y_rest, .ref a_y_makes, .ref a_y_worst]))] sz) := by
  refine Met.ofW (cc := cX10_part) (maxL := 2) (ret := (some .long)) (by decide) rfl ?_
  intro p e s m args below meth c s₁ B hml hv
  obtain ⟨rfl, hsz, hP, hK, hD0, hN⟩ := hv
  have hx := B.exec
  have hb := B.bytes
  have hr := B.returns
  have hts := atoms_spec (ws := wsX10_part) B.pre
  have hown : s.vm.findClass RX10 = some m.cls := findClass_of_methodNamed B.named
  have hlocks := B.notSynchronized
  subst hsz
  have hD := hD0.self (sz := s.heap.size)
  generalize hAe : va_A [(a_y, .inr (10, [.int y_n, .ref a_y_list, .int y_sets, .ref a_y_others, .int y_otherMany, .ref a_y_costs, .long y_above, .long y_below, .ref a_y_table, .long y_by, .ref a_y_basis, .ref a_y_isSeen, .ref a_y_colour, .ref a_y_rest, .ref a_y_makes, .ref a_y_worst]))] s.heap.size = A at hD hN ⊢
  have hA : ∀ q : Nat, s.heap.size ≤ q → A q := fun q h => by rw [← hAe]; exact Or.inr h
  have hS : va_S A s.heap s.heap [] := va_S.rf
  have hP : va_P (dC, dI) vwCl [(a_y, .inr (10, [.int y_n, .ref a_y_list, .int y_sets, .ref a_y_others, .int y_otherMany, .ref a_y_costs, .long y_above, .long y_below, .ref a_y_table, .long y_by, .ref a_y_basis, .ref a_y_isSeen, .ref a_y_colour, .ref a_y_rest, .ref a_y_makes, .ref a_y_worst]))] s.heap := hP
  have hl := lv_entry ([.ref a_y, .int p1]) (n := 2) (Nat.le_of_ble_eq_true rfl)
  rw [lg_entry_eq]
  generalize (lg_sl ([.ref a_y, .int p1]) ++ List.replicate (2 - (lg_sl ([.ref a_y, .int p1])).length) Slot.unset).toArray = ls at hl ⊢
  have hl : lv_has ls 2 [(0, .ref a_y), (1, .int p1)] := hl
  have hiX10 : ∀ w ∈ wsX100, w ∈ wsX10_part := fun _ h => List.mem_cons_of_mem _ (List.mem_append_right _ h)
  have hf47 := hts (.fieldLink RX10 47 "MeetSetsModel" "below" "J") (t1_ (al_ (t1_ h1_)))
  have hf108 := hts (.fieldLink RX10 108 "MeetSetsModel" "above" "J") (t1_ (al_ h1_))
  refine w_abs (fun Z hZv hZw => ?_)
  refine hZv ?_
  obtain ⟨H, hH⟩ : ∃ H, H = s.heap := ⟨_, rfl⟩
  obtain ⟨locs, hlo⟩ : ∃ L : List Loc, L = [] := ⟨_, rfl⟩
  rw [← hlo, ← hH]
  have hS : va_S A s.heap H locs := by rw [hlo, hH]; exact hS
  have hP : va_P (dC, dI) vwCl [(a_y, .inr (10, [.int y_n, .ref a_y_list, .int y_sets, .ref a_y_others, .int y_otherMany, .ref a_y_costs, .long y_above, .long y_below, .ref a_y_table, .long y_by, .ref a_y_basis, .ref a_y_isSeen, .ref a_y_colour, .ref a_y_rest, .ref a_y_makes, .ref a_y_worst]))] H := by rw [hH]; exact hP
  clear hH hlo
  unfold pX10_part at hs
  refine lv_iload_n hx hb dX10_part_0 rfl (lv_at hl 1 rfl) ?_
  refine lv_if_ne (tgt := 11) hx hb dX10_part_1 (by decide) (fun hc => ?_) (fun hc => ?_)
  · replace hs := it_f hc hs
    refine lv_iload_n hx hb dX10_part_11 rfl (lv_at hl 1 rfl) ?_
    refine lv_iconst (v := 1) hx hb dX10_part_12 (by decide) ?_
    refine lv_icmp_ne (tgt := 23) hx hb dX10_part_13 (by decide) (fun hc => ?_) (fun hc => ?_)
    · replace hs := it_f hc hs
      refine lv_ldc2 (v := (-1)) hx hb hown (hts (.constantLong RX10 102 (-1)) (t1_ (al_ (t1_ (t1_ h1_))))) dX10_part_23 ?_
      replace hs := Option.some.inj hs
      subst hs
      exact W.lret (v := (-1)) hx hb hr (fun t ht hW => ⟨⟨(-1), (), rfl, rfl, by rw [ht]; exact hP, va_K.moved hW.alike hK, hD⟩, hS.F ht⟩) hS.2.2 dX10_part_26
    · replace hs := it_t hc hs
      refine lv_aload_n hx hb dX10_part_16 rfl (lv_at hl 0 rfl) ?_
      refine va_get (D := (dC, dI)) (ci := 10) (v := .long y_below) (C := RX10) (T := TX10) (N := 16) hx hb hts hiX10 hown hK hP 0 rfl rfl 7 (by decide) hf47 (fun _ h9 => h9) rfl dX10_part_17 ?_
      refine lv_goto (tgt := 26) hx hb dX10_part_20 (by decide) ?_
      replace hs := Option.some.inj hs
      subst hs
      exact W.lret (v := y_below) hx hb hr (fun t ht hW => ⟨⟨y_below, (), rfl, rfl, by rw [ht]; exact hP, va_K.moved hW.alike hK, hD⟩, hS.F ht⟩) hS.2.2 dX10_part_26
  · replace hs := it_t hc hs
    refine lv_aload_n hx hb dX10_part_4 rfl (lv_at hl 0 rfl) ?_
    refine va_get (D := (dC, dI)) (ci := 10) (v := .long y_above) (C := RX10) (T := TX10) (N := 16) hx hb hts hiX10 hown hK hP 0 rfl rfl 6 (by decide) hf108 (fun _ h9 => h9) rfl dX10_part_5 ?_
    refine lv_goto (tgt := 26) hx hb dX10_part_8 (by decide) ?_
    replace hs := Option.some.inj hs
    subst hs
    exact W.lret (v := y_above) hx hb hr (fun t ht hW => ⟨⟨y_above, (), rfl, rfl, by rw [ht]; exact hP, va_K.moved hW.alike hK, hD⟩, hS.F ht⟩) hS.2.2 dX10_part_26
noncomputable def pX10_areApart_L7 (y_sets : Int32) (y_list : Nat → Int32) (p1 : Int32) (s7 : Int32 × Int32 × Int32) : Option ((Int32 × Int32 × Int32) ⊕ (Int32)) :=
  if y_sets ≤ s7.2.2 then (some (Sum.inr s7.2.1)) else (if s7.2.1 = 0 then (some (Sum.inr s7.2.1)) else (if ((p1 >>> (s7.2.2 &&& 31)) &&& 1) = 1 then (gd (vp_in s7.2.2 16) (Option.bind (if (s7.1 &&& (y_list s7.2.2.toNatClampNeg)) = 0 then (some 1) else (some 0) : Option (Int32)) (fun t47 => gd (vp_in s7.2.2 16) (some (Sum.inl (s7.1 ||| (y_list s7.2.2.toNatClampNeg), t47, s7.2.2 + 1)))))) else (some (Sum.inl (s7.1, s7.2.1, s7.2.2 + 1)))))
noncomputable def pX10_areApart (y_sets : Int32) (y_list : Nat → Int32) (p1 : Int32) : Option (Int32) :=
  Option.bind (lp (pX10_areApart_L7 y_sets y_list p1) (0, 1, 0)) (fun e7 => gd (narrow .boolean (.int e7) = .int e7) (some e7))
set_option maxHeartbeats 4000000 in
set_option maxRecDepth 100000 in
theorem c_X10_areApart (l : Launch) (dC : Nat → ClassId) (dI : Nat → Nat → Nat) (a_y : Nat) (a_y_list : Nat) (a_y_others : Nat) (a_y_costs : Nat) (a_y_table : Nat) (a_y_basis : Nat) (a_y_isSeen : Nat) (a_y_colour : Nat) (a_y_rest : Nat) (a_y_makes : Nat) (a_y_worst : Nat) (c_y_list : ClassId) (sz : Nat) (y_n : Int32) (y_sets : Int32) (y_otherMany : Int32) (y_above : Int64) (y_below : Int64) (y_by : Int64) (y_list : Nat → Int32) (p1 : Int32) (rv : Int32) (hs : pX10_areApart y_sets y_list p1 = some rv) : Met l yX10_areApart wsX10_areApart ({ frames := 0, cells := 0, slots := 0, locals := 0 }) (sPc [.ref a_y, .int p1] (dC, dI) [(c_y_list, .int)] [(a_y, .inr (10, [.int y_n, .ref a_y_list, .int y_sets, .ref a_y_others, .int y_otherMany, .ref a_y_costs, .long y_above, .long y_below, .ref a_y_table, .long y_by, .ref a_y_basis, .ref a_y_isSeen, .ref a_y_colour, .ref a_y_rest, .ref a_y_makes, .ref a_y_worst])), (a_y_list, .inl (c_y_list, 16, .inl y_list))] sz) (va_Qi (fun (r : Int32) (_ : Unit) => r = rv) (sB (dC, dI) [(c_y_list, .int)] (va_A [(a_y, .inr (10, [.int y_n, .ref a_y_list, .int y_sets, .ref a_y_others, .int y_otherMany, .ref a_y_costs, .long y_above, .long y_below, .ref a_y_table, .long y_by, .ref a_y_basis, .ref a_y_isSeen, .ref a_y_colour, .ref a_y_rest, .ref a_y_makes, .ref a_y_worst])), (a_y_list, .inl (c_y_list, 16, .inl y_list))] sz) [(a_y, .inr (10, [.int y_n, .ref a_y_list, .int y_sets, .ref a_y_others, .int y_otherMany, .ref a_y_costs, .long y_above, .long y_below, .ref a_y_table, .long y_by, .ref a_y_basis, .ref a_y_isSeen, .ref a_y_colour, .ref a_y_rest, .ref a_y_makes, .ref a_y_worst])), (a_y_list, .inl (c_y_list, 16, .inl y_list))]) (va_A [(a_y, .inr (10, [.int y_n, .ref a_y_list, .int y_sets, .ref a_y_others, .int y_otherMany, .ref a_y_costs, .long y_above, .long y_below, .ref a_y_table, .long y_by, .ref a_y_basis, .ref a_y_isSeen, .ref a_y_colour, .ref a_y_rest, .ref a_y_makes, .ref a_y_worst])), (a_y_list, .inl (c_y_list, 16, .inl y_list))] sz)) 0 0 (va_A [(a_y, .inr (10, [.int y_n, .ref a_y_list, .int y_sets, .ref a_y_others, .int y_otherMany, .ref a_y_costs, .long y_above, .long y_below, .ref a_y_table, .long y_by, .ref a_y_basis, .ref a_y_isSeen, .ref a_y_colour, .ref a_y_rest, .ref a_y_makes, .ref a_y_worst])), (a_y_list, .inl (c_y_list, 16, .inl y_list))] sz) := by
  refine Met.ofW (cc := cX10_areApart) (maxL := 5) (ret := (some .boolean)) (by decide) rfl ?_
  intro p e s m args below meth c s₁ B hml hv
  obtain ⟨rfl, hsz, hP, hK, hD0, hN⟩ := hv
  have hx := B.exec
  have hb := B.bytes
  have hr := B.returns
  have hts := atoms_spec (ws := wsX10_areApart) B.pre
  have hown : s.vm.findClass RX10 = some m.cls := findClass_of_methodNamed B.named
  have hlocks := B.notSynchronized
  subst hsz
  have hD := hD0.self (sz := s.heap.size)
  generalize hAe : va_A [(a_y, .inr (10, [.int y_n, .ref a_y_list, .int y_sets, .ref a_y_others, .int y_otherMany, .ref a_y_costs, .long y_above, .long y_below, .ref a_y_table, .long y_by, .ref a_y_basis, .ref a_y_isSeen, .ref a_y_colour, .ref a_y_rest, .ref a_y_makes, .ref a_y_worst])), (a_y_list, .inl (c_y_list, 16, .inl y_list))] s.heap.size = A at hD hN ⊢
  have hA : ∀ q : Nat, s.heap.size ≤ q → A q := fun q h => by rw [← hAe]; exact Or.inr h
  have hS : va_S A s.heap s.heap [] := va_S.rf
  have hP : va_P (dC, dI) vwCl [(a_y, .inr (10, [.int y_n, .ref a_y_list, .int y_sets, .ref a_y_others, .int y_otherMany, .ref a_y_costs, .long y_above, .long y_below, .ref a_y_table, .long y_by, .ref a_y_basis, .ref a_y_isSeen, .ref a_y_colour, .ref a_y_rest, .ref a_y_makes, .ref a_y_worst])), (a_y_list, .inl (c_y_list, 16, .inl y_list))] s.heap := hP
  have hl := lv_entry ([.ref a_y, .int p1]) (n := 5) (Nat.le_of_ble_eq_true rfl)
  rw [lg_entry_eq]
  generalize (lg_sl ([.ref a_y, .int p1]) ++ List.replicate (5 - (lg_sl ([.ref a_y, .int p1])).length) Slot.unset).toArray = ls at hl ⊢
  have hl : lv_has ls 5 [(0, .ref a_y), (1, .int p1)] := hl
  have hiX10 : ∀ w ∈ wsX100, w ∈ wsX10_areApart := fun _ h => List.mem_cons_of_mem _ (List.mem_append_right _ h)
  have hf61 := hts (.fieldLink RX10 61 "MeetSetsModel" "sets" "I") (t1_ (al_ h1_))
  have hf7 := hts (.fieldLink RX10 7 "MeetSetsModel" "list" "[I") (t1_ (al_ (t1_ h1_)))
  refine w_abs (fun Z hZv hZw => ?_)
  refine hZv ?_
  obtain ⟨H, hH⟩ : ∃ H, H = s.heap := ⟨_, rfl⟩
  obtain ⟨locs, hlo⟩ : ∃ L : List Loc, L = [] := ⟨_, rfl⟩
  rw [← hlo, ← hH]
  have hS : va_S A s.heap H locs := by rw [hlo, hH]; exact hS
  have hP : va_P (dC, dI) vwCl [(a_y, .inr (10, [.int y_n, .ref a_y_list, .int y_sets, .ref a_y_others, .int y_otherMany, .ref a_y_costs, .long y_above, .long y_below, .ref a_y_table, .long y_by, .ref a_y_basis, .ref a_y_isSeen, .ref a_y_colour, .ref a_y_rest, .ref a_y_makes, .ref a_y_worst])), (a_y_list, .inl (c_y_list, 16, .inl y_list))] H := by rw [hH]; exact hP
  clear hH hlo
  unfold pX10_areApart at hs
  refine lv_iconst (v := 0) hx hb dX10_areApart_0 (by decide) ?_
  refine lv_istore_n (lv' := [(2, .int 0), (0, .ref a_y), (1, .int p1)]) hx hb dX10_areApart_1 rfl hl (by decide) rfl (fun ls hl => ?_)
  refine lv_iconst (v := 1) hx hb dX10_areApart_2 (by decide) ?_
  refine lv_istore_n (lv' := [(3, .int 1), (2, .int 0), (0, .ref a_y), (1, .int p1)]) hx hb dX10_areApart_3 rfl hl (by decide) rfl (fun ls hl => ?_)
  refine lv_iconst (v := 0) hx hb dX10_areApart_4 (by decide) ?_
  refine lv_istore (lv' := [(4, .int 0), (3, .int 1), (2, .int 0), (0, .ref a_y), (1, .int p1)]) hx hb dX10_areApart_5 hl (by decide) rfl (fun ls hl => ?_)
  obtain ⟨e7, he7, hs⟩ := bd_s hs
  have hX7 : ∀ (H : Heap) (locs : List Loc) (ls : Array Slot), va_P (dC, dI) vwCl [(a_y, .inr (10, [.int y_n, .ref a_y_list, .int y_sets, .ref a_y_others, .int y_otherMany, .ref a_y_costs, .long y_above, .long y_below, .ref a_y_table, .long y_by, .ref a_y_basis, .ref a_y_isSeen, .ref a_y_colour, .ref a_y_rest, .ref a_y_makes, .ref a_y_worst])), (a_y_list, .inl (c_y_list, 16, .inl y_list))] H → va_D A [(a_y, .inr (10, [.int y_n, .ref a_y_list, .int y_sets, .ref a_y_others, .int y_otherMany, .ref a_y_costs, .long y_above, .long y_below, .ref a_y_table, .long y_by, .ref a_y_basis, .ref a_y_isSeen, .ref a_y_colour, .ref a_y_rest, .ref a_y_makes, .ref a_y_worst])), (a_y_list, .inl (c_y_list, 16, .inl y_list))] → va_S A s.heap H locs → lv_has ls 5 [(3, .int e7)] → Z H locs 0 0 (F0 m 64 ls []) := by
    intro H locs ls hP hD hS hl
    refine hZv ?_
    refine lv_iload_n hx hb dX10_areApart_64 rfl (lv_at hl 0 rfl) ?_
    obtain ⟨hb4, hs⟩ := gd_s hs
    replace hs := Option.some.inj hs
    subst hs
    exact W.zret (v := e7) (ty := .boolean) hx hb hr hb4 (fun t ht hW => ⟨⟨e7, (), rfl, rfl, by rw [ht]; exact hP, va_K.moved hW.alike hK, hD⟩, hS.F ht⟩) hS.2.2 dX10_areApart_65
  clear hs
  have hL7 : ∀ (n : Nat) (s7 : Int32 × Int32 × Int32) (H : Heap) (locs : List Loc) (ls : Array Slot), itr (pX10_areApart_L7 y_sets y_list p1) n s7 = some e7 → va_P (dC, dI) vwCl [(a_y, .inr (10, [.int y_n, .ref a_y_list, .int y_sets, .ref a_y_others, .int y_otherMany, .ref a_y_costs, .long y_above, .long y_below, .ref a_y_table, .long y_by, .ref a_y_basis, .ref a_y_isSeen, .ref a_y_colour, .ref a_y_rest, .ref a_y_makes, .ref a_y_worst])), (a_y_list, .inl (c_y_list, 16, .inl y_list))] H → va_D A [(a_y, .inr (10, [.int y_n, .ref a_y_list, .int y_sets, .ref a_y_others, .int y_otherMany, .ref a_y_costs, .long y_above, .long y_below, .ref a_y_table, .long y_by, .ref a_y_basis, .ref a_y_isSeen, .ref a_y_colour, .ref a_y_rest, .ref a_y_makes, .ref a_y_worst])), (a_y_list, .inl (c_y_list, 16, .inl y_list))] → va_S A s.heap H locs → lv_has ls 5 [(0, .ref a_y), (1, .int p1), (2, .int s7.1), (3, .int s7.2.1), (4, .int s7.2.2)] → Z H locs 0 0 (F0 m 7 ls []) := by
    intro n
    induction n with
    | zero =>
      intro s7 H locs ls hn
      exact (itr_0 hn).elim
    | succ n ih =>
      intro s7 H locs ls hn hP hD hS hl
      obtain ⟨y1, hs, hn⟩ := itr_s hn
      unfold pX10_areApart_L7 at hs
      refine hZv ?_
      refine lv_iload hx hb dX10_areApart_7 (lv_at hl 4 rfl) ?_
      refine lv_aload_n hx hb dX10_areApart_9 rfl (lv_at hl 0 rfl) ?_
      refine va_get (D := (dC, dI)) (ci := 10) (v := .int y_sets) (C := RX10) (T := TX10) (N := 16) hx hb hts hiX10 hown hK hP 0 rfl rfl 2 (by decide) hf61 (fun _ h9 => h9) rfl dX10_areApart_10 ?_
      refine lv_icmp_ge (tgt := 64) hx hb dX10_areApart_13 (by decide) (fun hc => ?_) (fun hc => ?_)
      · replace hs := it_t hc hs
        replace hs := Option.some.inj hs
        subst hs
        obtain rfl : s7.2.1 = e7 := hn
        exact hZw (hX7 H locs ls hP hD hS (lv_sub hl [3] rfl))
      · replace hs := it_f hc hs
        refine lv_iload_n hx hb dX10_areApart_16 rfl (lv_at hl 3 rfl) ?_
        refine lv_if_eq (tgt := 64) hx hb dX10_areApart_17 (by decide) (fun hc => ?_) (fun hc => ?_)
        · replace hs := it_t hc hs
          replace hs := Option.some.inj hs
          subst hs
          obtain rfl : s7.2.1 = e7 := hn
          exact hZw (hX7 H locs ls hP hD hS (lv_sub hl [3] rfl))
        · replace hs := it_f hc hs
          refine lv_iload_n hx hb dX10_areApart_20 rfl (lv_at hl 1 rfl) ?_
          refine lv_iload hx hb dX10_areApart_21 (lv_at hl 4 rfl) ?_
          refine lv_ishr hx hb dX10_areApart_23 ?_
          refine lv_iconst (v := 1) hx hb dX10_areApart_24 (by decide) ?_
          refine lv_iand hx hb dX10_areApart_25 ?_
          refine lv_iconst (v := 1) hx hb dX10_areApart_26 (by decide) ?_
          refine lv_icmp_ne (tgt := 58) hx hb dX10_areApart_27 (by decide) (fun hc => ?_) (fun hc => ?_)
          · replace hs := it_f hc hs
            refine lv_iinc (v := s7.2.2 + 1) (lv' := [(4, .int (s7.2.2 + 1)), (0, .ref a_y), (1, .int p1), (2, .int s7.1), (3, .int s7.2.1)]) hx hb dX10_areApart_58 hl (k := 4) rfl (by rfl) (by decide) rfl (fun ls hl => ?_)
            refine lv_goto (tgt := 7) hx hb dX10_areApart_61 (by decide) ?_
            replace hs := Option.some.inj hs
            subst hs
            exact hZw (ih (s7.1, s7.2.1, s7.2.2 + 1) H locs ls hn hP hD hS (lv_sub hl [1, 2, 3, 4, 0] rfl))
          · replace hs := it_t hc hs
            refine lv_iload_n hx hb dX10_areApart_30 rfl (lv_at hl 2 rfl) ?_
            refine lv_aload_n hx hb dX10_areApart_31 rfl (lv_at hl 0 rfl) ?_
            refine va_get (D := (dC, dI)) (ci := 10) (v := .ref a_y_list) (C := RX10) (T := TX10) (N := 16) hx hb hts hiX10 hown hK hP 0 rfl rfl 1 (by decide) hf7 (fun _ h9 => h9) rfl dX10_areApart_32 ?_
            refine lv_iload hx hb dX10_areApart_35 (lv_at hl 4 rfl) ?_
            obtain ⟨hg2, hs⟩ := gd_s hs
            refine va_iald hx hb hK hP 1 0 rfl rfl hg2 dX10_areApart_37 ?_
            refine lv_iand hx hb dX10_areApart_38 ?_
            obtain ⟨t47, hq47, hs⟩ := bd_s hs
            have hJ47 : ∀ (H : Heap) (locs : List Loc) (ls : Array Slot), va_P (dC, dI) vwCl [(a_y, .inr (10, [.int y_n, .ref a_y_list, .int y_sets, .ref a_y_others, .int y_otherMany, .ref a_y_costs, .long y_above, .long y_below, .ref a_y_table, .long y_by, .ref a_y_basis, .ref a_y_isSeen, .ref a_y_colour, .ref a_y_rest, .ref a_y_makes, .ref a_y_worst])), (a_y_list, .inl (c_y_list, 16, .inl y_list))] H → va_D A [(a_y, .inr (10, [.int y_n, .ref a_y_list, .int y_sets, .ref a_y_others, .int y_otherMany, .ref a_y_costs, .long y_above, .long y_below, .ref a_y_table, .long y_by, .ref a_y_basis, .ref a_y_isSeen, .ref a_y_colour, .ref a_y_rest, .ref a_y_makes, .ref a_y_worst])), (a_y_list, .inl (c_y_list, 16, .inl y_list))] → va_S A s.heap H locs → lv_has ls 5 [(0, .ref a_y), (1, .int p1), (2, .int s7.1), (4, .int s7.2.2)] → Z H locs 0 0 (F0 m 47 ls [.int t47]) := by
              intro H locs ls hP hD hS hl
              refine hZv ?_
              refine lv_istore_n (lv' := [(3, .int t47), (0, .ref a_y), (1, .int p1), (2, .int s7.1), (4, .int s7.2.2)]) hx hb dX10_areApart_47 rfl hl (by decide) rfl (fun ls hl => ?_)
              refine lv_iload_n hx hb dX10_areApart_48 rfl (lv_at hl 3 rfl) ?_
              refine lv_aload_n hx hb dX10_areApart_49 rfl (lv_at hl 1 rfl) ?_
              refine va_get (D := (dC, dI)) (ci := 10) (v := .ref a_y_list) (C := RX10) (T := TX10) (N := 16) hx hb hts hiX10 hown hK hP 0 rfl rfl 1 (by decide) hf7 (fun _ h9 => h9) rfl dX10_areApart_50 ?_
              refine lv_iload hx hb dX10_areApart_53 (lv_at hl 4 rfl) ?_
              obtain ⟨hg3, hs⟩ := gd_s hs
              refine va_iald hx hb hK hP 1 0 rfl rfl hg3 dX10_areApart_55 ?_
              refine lv_ior hx hb dX10_areApart_56 ?_
              refine lv_istore_n (lv' := [(2, .int (s7.1 ||| (y_list s7.2.2.toNatClampNeg))), (3, .int t47), (0, .ref a_y), (1, .int p1), (4, .int s7.2.2)]) hx hb dX10_areApart_57 rfl hl (by decide) rfl (fun ls hl => ?_)
              refine lv_iinc (v := s7.2.2 + 1) (lv' := [(4, .int (s7.2.2 + 1)), (2, .int (s7.1 ||| (y_list s7.2.2.toNatClampNeg))), (3, .int t47), (0, .ref a_y), (1, .int p1)]) hx hb dX10_areApart_58 hl (k := 4) rfl (by rfl) (by decide) rfl (fun ls hl => ?_)
              refine lv_goto (tgt := 7) hx hb dX10_areApart_61 (by decide) ?_
              replace hs := Option.some.inj hs
              subst hs
              exact hZw (ih (s7.1 ||| (y_list s7.2.2.toNatClampNeg), t47, s7.2.2 + 1) H locs ls hn hP hD hS (lv_sub hl [3, 4, 1, 2, 0] rfl))
            clear hs
            have hs := hq47
            refine lv_if_ne (tgt := 46) hx hb dX10_areApart_39 (by decide) (fun hc => ?_) (fun hc => ?_)
            · replace hs := it_f hc hs
              refine lv_iconst (v := 0) hx hb dX10_areApart_46 (by decide) ?_
              replace hs := Option.some.inj hs
              subst hs
              exact hZw (hJ47 H locs ls hP hD hS (lv_sub hl [0, 1, 2, 4] rfl))
            · replace hs := it_t hc hs
              refine lv_iconst (v := 1) hx hb dX10_areApart_42 (by decide) ?_
              refine lv_goto (tgt := 47) hx hb dX10_areApart_43 (by decide) ?_
              replace hs := Option.some.inj hs
              subst hs
              exact hZw (hJ47 H locs ls hP hD hS (lv_sub hl [0, 1, 2, 4] rfl))
  obtain ⟨n7, hn7⟩ := lp_ex he7
  exact hZw (hL7 n7 (0, 1, 0) H locs ls hn7 hP hD hS (lv_sub hl [3, 4, 2, 1, 0] rfl))
noncomputable def pX10_apartOf_J37_4 (s4 : Int32 × Int32) (t37 : Unit) : Option ((Int32 × Int32) ⊕ (Int32)) :=
  some (Sum.inl (s4.1, s4.2 + 1))
noncomputable def pX10_apartOf_L4 (y_sets : Int32) (y_list : Nat → Int32) (s4 : Int32 × Int32) : Option ((Int32 × Int32) ⊕ (Int32)) :=
  if (1 <<< (y_sets &&& 31)) ≤ s4.2 then (some (Sum.inr s4.1)) else (Option.bind (pX10_sizeOf s4.2) (fun r2 => Option.bind (pX10_sizeOf s4.1) (fun r3 => if r2 ≤ r3 then (pX10_apartOf_J37_4 s4 ()) else (Option.bind (pX10_areApart y_sets y_list s4.2) (fun r5 => if r5 = 0 then (pX10_apartOf_J37_4 s4 ()) else (some (Sum.inl (s4.2, s4.2 + 1))))))))
noncomputable def pX10_apartOf (y_sets : Int32) (y_list : Nat → Int32) : Option (Int32) :=
  Option.bind (lp (pX10_apartOf_L4 y_sets y_list) (0, 1)) (fun e4 => some e4)
set_option maxHeartbeats 4000000 in
set_option maxRecDepth 100000 in
theorem c_X10_apartOf (l : Launch) (dC : Nat → ClassId) (dI : Nat → Nat → Nat) (a_y : Nat) (a_y_list : Nat) (a_y_others : Nat) (a_y_costs : Nat) (a_y_table : Nat) (a_y_basis : Nat) (a_y_isSeen : Nat) (a_y_colour : Nat) (a_y_rest : Nat) (a_y_makes : Nat) (a_y_worst : Nat) (c_y_list : ClassId) (sz : Nat) (y_n : Int32) (y_sets : Int32) (y_otherMany : Int32) (y_above : Int64) (y_below : Int64) (y_by : Int64) (y_list : Nat → Int32) (rv : Int32) (hs : pX10_apartOf y_sets y_list = some rv) : Met l yX10_apartOf wsX10_apartOf ({ frames := 1, cells := 0, slots := 0, locals := 24 }) (sPc [.ref a_y] (dC, dI) [(c_y_list, .int)] [(a_y, .inr (10, [.int y_n, .ref a_y_list, .int y_sets, .ref a_y_others, .int y_otherMany, .ref a_y_costs, .long y_above, .long y_below, .ref a_y_table, .long y_by, .ref a_y_basis, .ref a_y_isSeen, .ref a_y_colour, .ref a_y_rest, .ref a_y_makes, .ref a_y_worst])), (a_y_list, .inl (c_y_list, 16, .inl y_list))] sz) (va_Qi (fun (r : Int32) (_ : Unit) => r = rv) (sB (dC, dI) [(c_y_list, .int)] (va_A [(a_y, .inr (10, [.int y_n, .ref a_y_list, .int y_sets, .ref a_y_others, .int y_otherMany, .ref a_y_costs, .long y_above, .long y_below, .ref a_y_table, .long y_by, .ref a_y_basis, .ref a_y_isSeen, .ref a_y_colour, .ref a_y_rest, .ref a_y_makes, .ref a_y_worst])), (a_y_list, .inl (c_y_list, 16, .inl y_list))] sz) [(a_y, .inr (10, [.int y_n, .ref a_y_list, .int y_sets, .ref a_y_others, .int y_otherMany, .ref a_y_costs, .long y_above, .long y_below, .ref a_y_table, .long y_by, .ref a_y_basis, .ref a_y_isSeen, .ref a_y_colour, .ref a_y_rest, .ref a_y_makes, .ref a_y_worst])), (a_y_list, .inl (c_y_list, 16, .inl y_list))]) (va_A [(a_y, .inr (10, [.int y_n, .ref a_y_list, .int y_sets, .ref a_y_others, .int y_otherMany, .ref a_y_costs, .long y_above, .long y_below, .ref a_y_table, .long y_by, .ref a_y_basis, .ref a_y_isSeen, .ref a_y_colour, .ref a_y_rest, .ref a_y_makes, .ref a_y_worst])), (a_y_list, .inl (c_y_list, 16, .inl y_list))] sz)) 0 0 (va_A [(a_y, .inr (10, [.int y_n, .ref a_y_list, .int y_sets, .ref a_y_others, .int y_otherMany, .ref a_y_costs, .long y_above, .long y_below, .ref a_y_table, .long y_by, .ref a_y_basis, .ref a_y_isSeen, .ref a_y_colour, .ref a_y_rest, .ref a_y_makes, .ref a_y_worst])), (a_y_list, .inl (c_y_list, 16, .inl y_list))] sz) := by
  refine Met.ofW (cc := cX10_apartOf) (maxL := 3) (ret := (some .int)) (by decide) rfl ?_
  intro p e s m args below meth c s₁ B hml hv
  obtain ⟨rfl, hsz, hP, hK, hD0, hN⟩ := hv
  have hx := B.exec
  have hb := B.bytes
  have hr := B.returns
  have hts := atoms_spec (ws := wsX10_apartOf) B.pre
  have hown : s.vm.findClass RX10 = some m.cls := findClass_of_methodNamed B.named
  have hlocks := B.notSynchronized
  subst hsz
  have hD := hD0.self (sz := s.heap.size)
  generalize hAe : va_A [(a_y, .inr (10, [.int y_n, .ref a_y_list, .int y_sets, .ref a_y_others, .int y_otherMany, .ref a_y_costs, .long y_above, .long y_below, .ref a_y_table, .long y_by, .ref a_y_basis, .ref a_y_isSeen, .ref a_y_colour, .ref a_y_rest, .ref a_y_makes, .ref a_y_worst])), (a_y_list, .inl (c_y_list, 16, .inl y_list))] s.heap.size = A at hD hN ⊢
  have hA : ∀ q : Nat, s.heap.size ≤ q → A q := fun q h => by rw [← hAe]; exact Or.inr h
  have hS : va_S A s.heap s.heap [] := va_S.rf
  have hP : va_P (dC, dI) vwCl [(a_y, .inr (10, [.int y_n, .ref a_y_list, .int y_sets, .ref a_y_others, .int y_otherMany, .ref a_y_costs, .long y_above, .long y_below, .ref a_y_table, .long y_by, .ref a_y_basis, .ref a_y_isSeen, .ref a_y_colour, .ref a_y_rest, .ref a_y_makes, .ref a_y_worst])), (a_y_list, .inl (c_y_list, 16, .inl y_list))] s.heap := hP
  have hl := lv_entry ([.ref a_y]) (n := 3) (Nat.le_of_ble_eq_true rfl)
  rw [lg_entry_eq]
  generalize (lg_sl ([.ref a_y]) ++ List.replicate (3 - (lg_sl ([.ref a_y])).length) Slot.unset).toArray = ls at hl ⊢
  have hl : lv_has ls 3 [(0, .ref a_y)] := hl
  have hiX10 : ∀ w ∈ wsX100, w ∈ wsX10_apartOf := fun _ h => List.mem_cons_of_mem _ (List.mem_append_right _ h)
  have hf61 := hts (.fieldLink RX10 61 "MeetSetsModel" "sets" "I") (t1_ (al_ h1_))
  refine w_abs (fun Z hZv hZw => ?_)
  refine hZv ?_
  obtain ⟨H, hH⟩ : ∃ H, H = s.heap := ⟨_, rfl⟩
  obtain ⟨locs, hlo⟩ : ∃ L : List Loc, L = [] := ⟨_, rfl⟩
  rw [← hlo, ← hH]
  have hS : va_S A s.heap H locs := by rw [hlo, hH]; exact hS
  have hP : va_P (dC, dI) vwCl [(a_y, .inr (10, [.int y_n, .ref a_y_list, .int y_sets, .ref a_y_others, .int y_otherMany, .ref a_y_costs, .long y_above, .long y_below, .ref a_y_table, .long y_by, .ref a_y_basis, .ref a_y_isSeen, .ref a_y_colour, .ref a_y_rest, .ref a_y_makes, .ref a_y_worst])), (a_y_list, .inl (c_y_list, 16, .inl y_list))] H := by rw [hH]; exact hP
  clear hH hlo
  unfold pX10_apartOf at hs
  refine lv_iconst (v := 0) hx hb dX10_apartOf_0 (by decide) ?_
  refine lv_istore_n (lv' := [(1, .int 0), (0, .ref a_y)]) hx hb dX10_apartOf_1 rfl hl (by decide) rfl (fun ls hl => ?_)
  refine lv_iconst (v := 1) hx hb dX10_apartOf_2 (by decide) ?_
  refine lv_istore_n (lv' := [(2, .int 1), (1, .int 0), (0, .ref a_y)]) hx hb dX10_apartOf_3 rfl hl (by decide) rfl (fun ls hl => ?_)
  obtain ⟨e4, he4, hs⟩ := bd_s hs
  have hX4 : ∀ (H : Heap) (locs : List Loc) (ls : Array Slot), va_P (dC, dI) vwCl [(a_y, .inr (10, [.int y_n, .ref a_y_list, .int y_sets, .ref a_y_others, .int y_otherMany, .ref a_y_costs, .long y_above, .long y_below, .ref a_y_table, .long y_by, .ref a_y_basis, .ref a_y_isSeen, .ref a_y_colour, .ref a_y_rest, .ref a_y_makes, .ref a_y_worst])), (a_y_list, .inl (c_y_list, 16, .inl y_list))] H → va_D A [(a_y, .inr (10, [.int y_n, .ref a_y_list, .int y_sets, .ref a_y_others, .int y_otherMany, .ref a_y_costs, .long y_above, .long y_below, .ref a_y_table, .long y_by, .ref a_y_basis, .ref a_y_isSeen, .ref a_y_colour, .ref a_y_rest, .ref a_y_makes, .ref a_y_worst])), (a_y_list, .inl (c_y_list, 16, .inl y_list))] → va_S A s.heap H locs → lv_has ls 3 [(1, .int e4)] → Z H locs 0 0 (F0 m 45 ls []) := by
    intro H locs ls hP hD hS hl
    refine hZv ?_
    refine lv_iload_n hx hb dX10_apartOf_45 rfl (lv_at hl 0 rfl) ?_
    replace hs := Option.some.inj hs
    subst hs
    exact W.iret (v := e4) hx hb hr (fun t ht hW => ⟨⟨e4, (), rfl, rfl, by rw [ht]; exact hP, va_K.moved hW.alike hK, hD⟩, hS.F ht⟩) hS.2.2 dX10_apartOf_46
  clear hs
  have hL4 : ∀ (n : Nat) (s4 : Int32 × Int32) (H : Heap) (locs : List Loc) (ls : Array Slot), itr (pX10_apartOf_L4 y_sets y_list) n s4 = some e4 → va_P (dC, dI) vwCl [(a_y, .inr (10, [.int y_n, .ref a_y_list, .int y_sets, .ref a_y_others, .int y_otherMany, .ref a_y_costs, .long y_above, .long y_below, .ref a_y_table, .long y_by, .ref a_y_basis, .ref a_y_isSeen, .ref a_y_colour, .ref a_y_rest, .ref a_y_makes, .ref a_y_worst])), (a_y_list, .inl (c_y_list, 16, .inl y_list))] H → va_D A [(a_y, .inr (10, [.int y_n, .ref a_y_list, .int y_sets, .ref a_y_others, .int y_otherMany, .ref a_y_costs, .long y_above, .long y_below, .ref a_y_table, .long y_by, .ref a_y_basis, .ref a_y_isSeen, .ref a_y_colour, .ref a_y_rest, .ref a_y_makes, .ref a_y_worst])), (a_y_list, .inl (c_y_list, 16, .inl y_list))] → va_S A s.heap H locs → lv_has ls 3 [(0, .ref a_y), (1, .int s4.1), (2, .int s4.2)] → Z H locs 0 0 (F0 m 4 ls []) := by
    intro n
    induction n with
    | zero =>
      intro s4 H locs ls hn
      exact (itr_0 hn).elim
    | succ n ih =>
      intro s4 H locs ls hn hP hD hS hl
      obtain ⟨y1, hs, hn⟩ := itr_s hn
      unfold pX10_apartOf_L4 at hs
      refine hZv ?_
      refine lv_iload_n hx hb dX10_apartOf_4 rfl (lv_at hl 2 rfl) ?_
      refine lv_iconst (v := 1) hx hb dX10_apartOf_5 (by decide) ?_
      refine lv_aload_n hx hb dX10_apartOf_6 rfl (lv_at hl 0 rfl) ?_
      refine va_get (D := (dC, dI)) (ci := 10) (v := .int y_sets) (C := RX10) (T := TX10) (N := 16) hx hb hts hiX10 hown hK hP 0 rfl rfl 2 (by decide) hf61 (fun _ h9 => h9) rfl dX10_apartOf_7 ?_
      refine lv_ishl hx hb dX10_apartOf_10 ?_
      refine lv_icmp_ge (tgt := 45) hx hb dX10_apartOf_11 (by decide) (fun hc => ?_) (fun hc => ?_)
      · replace hs := it_t hc hs
        replace hs := Option.some.inj hs
        subst hs
        obtain rfl : s4.1 = e4 := hn
        exact hZw (hX4 H locs ls hP hD hS (lv_sub hl [1] rfl))
      · replace hs := it_f hc hs
        refine lv_iload_n hx hb dX10_apartOf_14 rfl (lv_at hl 2 rfl) ?_
        obtain ⟨r2, hr2, hs⟩ := bd_s hs
        refine kc_i (isC := []) (isR := [0, 1]) (pm := [0, 1]) (wr := [(a_y, .inr (10, [.int y_n, .ref a_y_list, .int y_sets, .ref a_y_others, .int y_otherMany, .ref a_y_costs, .long y_above, .long y_below, .ref a_y_table, .long y_by, .ref a_y_basis, .ref a_y_isSeen, .ref a_y_colour, .ref a_y_rest, .ref a_y_makes, .ref a_y_worst])), (a_y_list, .inl (c_y_list, 16, .inl y_list))]) (w1 := []) (w2 := [(a_y, .inr (10, [.int y_n, .ref a_y_list, .int y_sets, .ref a_y_others, .int y_otherMany, .ref a_y_costs, .long y_above, .long y_below, .ref a_y_table, .long y_by, .ref a_y_basis, .ref a_y_isSeen, .ref a_y_colour, .ref a_y_rest, .ref a_y_makes, .ref a_y_worst])), (a_y_list, .inl (c_y_list, 16, .inl y_list))]) (va_runS (As := [.int s4.2]) (rest := []) ⟨hx, hb, hml, hown, hts⟩ (c_X10_sizeOf l dC dI H.size s4.2 r2 hr2) (va_cwS 1 hts gX10_apartOf_X10_sizeOf rfl rfl rfl (by decide +kernel) ⟨Nat.le_of_ble_eq_true rfl, Nat.le_of_ble_eq_true rfl⟩) (kp_S hK hP hD hS hA hN (isC := []) (isT := []) (wc := []) rfl (by decide +kernel) rfl) rfl rfl hl.1 rfl (lv_room (Nat.le_of_ble_eq_true rfl)) dX10_apartOf_15 ⟨Nat.le_of_ble_eq_true rfl, Nat.le_of_ble_eq_true rfl⟩) hP hD hS hA rfl rfl (by decide +kernel) (by decide +kernel) rfl (by decide +kernel) (fun H locs hP hD hS => ?_)
        refine lv_iload_n hx hb dX10_apartOf_18 rfl (lv_at hl 1 rfl) ?_
        obtain ⟨r3, hr3, hs⟩ := bd_s hs
        refine kc_i (isC := []) (isR := [0, 1]) (pm := [0, 1]) (wr := [(a_y, .inr (10, [.int y_n, .ref a_y_list, .int y_sets, .ref a_y_others, .int y_otherMany, .ref a_y_costs, .long y_above, .long y_below, .ref a_y_table, .long y_by, .ref a_y_basis, .ref a_y_isSeen, .ref a_y_colour, .ref a_y_rest, .ref a_y_makes, .ref a_y_worst])), (a_y_list, .inl (c_y_list, 16, .inl y_list))]) (w1 := []) (w2 := [(a_y, .inr (10, [.int y_n, .ref a_y_list, .int y_sets, .ref a_y_others, .int y_otherMany, .ref a_y_costs, .long y_above, .long y_below, .ref a_y_table, .long y_by, .ref a_y_basis, .ref a_y_isSeen, .ref a_y_colour, .ref a_y_rest, .ref a_y_makes, .ref a_y_worst])), (a_y_list, .inl (c_y_list, 16, .inl y_list))]) (va_runS (As := [.int s4.1]) (rest := [.int r2]) ⟨hx, hb, hml, hown, hts⟩ (c_X10_sizeOf l dC dI H.size s4.1 r3 hr3) (va_cwS 1 hts gX10_apartOf_X10_sizeOf rfl rfl rfl (by decide +kernel) ⟨Nat.le_of_ble_eq_true rfl, Nat.le_of_ble_eq_true rfl⟩) (kp_S hK hP hD hS hA hN (isC := []) (isT := []) (wc := []) rfl (by decide +kernel) rfl) rfl rfl hl.1 rfl (lv_room (Nat.le_of_ble_eq_true rfl)) dX10_apartOf_19 ⟨Nat.le_of_ble_eq_true rfl, Nat.le_of_ble_eq_true rfl⟩) hP hD hS hA rfl rfl (by decide +kernel) (by decide +kernel) rfl (by decide +kernel) (fun H locs hP hD hS => ?_)
        have hJ37 : ∀ (t37 : Unit), pX10_apartOf_J37_4 s4 t37 = some y1 → ∀ (H : Heap) (locs : List Loc) (ls : Array Slot), va_P (dC, dI) vwCl [(a_y, .inr (10, [.int y_n, .ref a_y_list, .int y_sets, .ref a_y_others, .int y_otherMany, .ref a_y_costs, .long y_above, .long y_below, .ref a_y_table, .long y_by, .ref a_y_basis, .ref a_y_isSeen, .ref a_y_colour, .ref a_y_rest, .ref a_y_makes, .ref a_y_worst])), (a_y_list, .inl (c_y_list, 16, .inl y_list))] H → va_D A [(a_y, .inr (10, [.int y_n, .ref a_y_list, .int y_sets, .ref a_y_others, .int y_otherMany, .ref a_y_costs, .long y_above, .long y_below, .ref a_y_table, .long y_by, .ref a_y_basis, .ref a_y_isSeen, .ref a_y_colour, .ref a_y_rest, .ref a_y_makes, .ref a_y_worst])), (a_y_list, .inl (c_y_list, 16, .inl y_list))] → va_S A s.heap H locs → lv_has ls 3 [(0, .ref a_y), (1, .int s4.1), (2, .int s4.2)] → Z H locs 0 0 (F0 m 37 ls []) := by
          intro t37 hs H locs ls hP hD hS hl
          refine hZv ?_
          unfold pX10_apartOf_J37_4 at hs
          refine lv_iload_n hx hb dX10_apartOf_37 rfl (lv_at hl 1 rfl) ?_
          refine lv_istore_n (lv' := [(1, .int s4.1), (0, .ref a_y), (2, .int s4.2)]) hx hb dX10_apartOf_38 rfl hl (by decide) rfl (fun ls hl => ?_)
          refine lv_iinc (v := s4.2 + 1) (lv' := [(2, .int (s4.2 + 1)), (1, .int s4.1), (0, .ref a_y)]) hx hb dX10_apartOf_39 hl (k := 2) rfl (by rfl) (by decide) rfl (fun ls hl => ?_)
          refine lv_goto (tgt := 4) hx hb dX10_apartOf_42 (by decide) ?_
          replace hs := Option.some.inj hs
          subst hs
          exact hZw (ih (s4.1, s4.2 + 1) H locs ls hn hP hD hS (lv_sub hl [2, 1, 0] rfl))
        refine lv_icmp_le (tgt := 37) hx hb dX10_apartOf_22 (by decide) (fun hc => ?_) (fun hc => ?_)
        · replace hs := it_t hc hs
          exact hZw (hJ37 () hs H locs ls hP hD hS hl)
        · replace hs := it_f hc hs
          refine lv_aload_n hx hb dX10_apartOf_25 rfl (lv_at hl 0 rfl) ?_
          refine lv_iload_n hx hb dX10_apartOf_26 rfl (lv_at hl 2 rfl) ?_
          obtain ⟨r5, hr5, hs⟩ := bd_s hs
          refine kc_i (isC := [0, 1]) (isR := []) (pm := [0, 1]) (wr := []) (w1 := [(a_y, .inr (10, [.int y_n, .ref a_y_list, .int y_sets, .ref a_y_others, .int y_otherMany, .ref a_y_costs, .long y_above, .long y_below, .ref a_y_table, .long y_by, .ref a_y_basis, .ref a_y_isSeen, .ref a_y_colour, .ref a_y_rest, .ref a_y_makes, .ref a_y_worst])), (a_y_list, .inl (c_y_list, 16, .inl y_list))]) (w2 := [(a_y, .inr (10, [.int y_n, .ref a_y_list, .int y_sets, .ref a_y_others, .int y_otherMany, .ref a_y_costs, .long y_above, .long y_below, .ref a_y_table, .long y_by, .ref a_y_basis, .ref a_y_isSeen, .ref a_y_colour, .ref a_y_rest, .ref a_y_makes, .ref a_y_worst])), (a_y_list, .inl (c_y_list, 16, .inl y_list))]) (va_runV (As := [.int s4.2]) (rest := []) ⟨hx, hb, hml, hown, hts⟩ (c_X10_areApart l dC dI a_y a_y_list a_y_others a_y_costs a_y_table a_y_basis a_y_isSeen a_y_colour a_y_rest a_y_makes a_y_worst c_y_list H.size y_n y_sets y_otherMany y_above y_below y_by y_list s4.2 r5 hr5) (cwV 1 hts gX10_apartOf_X10_areApart rfl rfl rfl (by decide +kernel) ⟨Nat.le_of_ble_eq_true rfl, Nat.le_of_ble_eq_true rfl⟩) (kp_V hK hP hD hS hA hN (isC := [0, 1]) (isT := [0]) (wc := [(a_y, .inr (10, [.int y_n, .ref a_y_list, .int y_sets, .ref a_y_others, .int y_otherMany, .ref a_y_costs, .long y_above, .long y_below, .ref a_y_table, .long y_by, .ref a_y_basis, .ref a_y_isSeen, .ref a_y_colour, .ref a_y_rest, .ref a_y_makes, .ref a_y_worst])), (a_y_list, .inl (c_y_list, 16, .inl y_list))]) rfl (by decide +kernel) rfl (ci := 10) (q0 := 0) rfl rfl) rfl rfl hl.1 rfl (lv_room (Nat.le_of_ble_eq_true rfl)) dX10_apartOf_27 ⟨Nat.le_of_ble_eq_true rfl, Nat.le_of_ble_eq_true rfl⟩) hP hD hS hA rfl rfl (by decide +kernel) (by decide +kernel) rfl (by decide +kernel) (fun H locs hP hD hS => ?_)
          refine lv_if_eq (tgt := 37) hx hb dX10_apartOf_30 (by decide) (fun hc => ?_) (fun hc => ?_)
          · replace hs := it_t hc hs
            exact hZw (hJ37 () hs H locs ls hP hD hS hl)
          · replace hs := it_f hc hs
            refine lv_iload_n hx hb dX10_apartOf_33 rfl (lv_at hl 2 rfl) ?_
            refine lv_goto (tgt := 38) hx hb dX10_apartOf_34 (by decide) ?_
            refine lv_istore_n (lv' := [(1, .int s4.2), (0, .ref a_y), (2, .int s4.2)]) hx hb dX10_apartOf_38 rfl hl (by decide) rfl (fun ls hl => ?_)
            refine lv_iinc (v := s4.2 + 1) (lv' := [(2, .int (s4.2 + 1)), (1, .int s4.2), (0, .ref a_y)]) hx hb dX10_apartOf_39 hl (k := 2) rfl (by rfl) (by decide) rfl (fun ls hl => ?_)
            refine lv_goto (tgt := 4) hx hb dX10_apartOf_42 (by decide) ?_
            replace hs := Option.some.inj hs
            subst hs
            exact hZw (ih (s4.2, s4.2 + 1) H locs ls hn hP hD hS (lv_sub hl [2, 1, 0] rfl))
  obtain ⟨n4, hn4⟩ := lp_ex he4
  exact hZw (hL4 n4 (0, 1) H locs ls hn4 hP hD hS (lv_sub hl [2, 1, 0] rfl))
noncomputable def pX10_apart (y_sets : Int32) (y_list : Nat → Int32) : Option (Int32) :=
  Option.bind (pX10_apartOf y_sets y_list) (fun r1 => some r1)
set_option maxHeartbeats 4000000 in
set_option maxRecDepth 100000 in
theorem c_X10_apart (l : Launch) (dC : Nat → ClassId) (dI : Nat → Nat → Nat) (a_y : Nat) (a_y_list : Nat) (a_y_others : Nat) (a_y_costs : Nat) (a_y_table : Nat) (a_y_basis : Nat) (a_y_isSeen : Nat) (a_y_colour : Nat) (a_y_rest : Nat) (a_y_makes : Nat) (a_y_worst : Nat) (c_y_list : ClassId) (sz : Nat) (y_n : Int32) (y_sets : Int32) (y_otherMany : Int32) (y_above : Int64) (y_below : Int64) (y_by : Int64) (y_list : Nat → Int32) (rv : Int32) (hs : pX10_apart y_sets y_list = some rv) : Met l yX10_apart wsX10_apart ({ frames := 2, cells := 0, slots := 0, locals := 46 }) (sPc [.ref a_y] (dC, dI) [(c_y_list, .int)] [(a_y, .inr (10, [.int y_n, .ref a_y_list, .int y_sets, .ref a_y_others, .int y_otherMany, .ref a_y_costs, .long y_above, .long y_below, .ref a_y_table, .long y_by, .ref a_y_basis, .ref a_y_isSeen, .ref a_y_colour, .ref a_y_rest, .ref a_y_makes, .ref a_y_worst])), (a_y_list, .inl (c_y_list, 16, .inl y_list))] sz) (va_Qi (fun (r : Int32) (_ : Unit) => r = rv) (sB (dC, dI) [(c_y_list, .int)] (va_A [(a_y, .inr (10, [.int y_n, .ref a_y_list, .int y_sets, .ref a_y_others, .int y_otherMany, .ref a_y_costs, .long y_above, .long y_below, .ref a_y_table, .long y_by, .ref a_y_basis, .ref a_y_isSeen, .ref a_y_colour, .ref a_y_rest, .ref a_y_makes, .ref a_y_worst])), (a_y_list, .inl (c_y_list, 16, .inl y_list))] sz) [(a_y, .inr (10, [.int y_n, .ref a_y_list, .int y_sets, .ref a_y_others, .int y_otherMany, .ref a_y_costs, .long y_above, .long y_below, .ref a_y_table, .long y_by, .ref a_y_basis, .ref a_y_isSeen, .ref a_y_colour, .ref a_y_rest, .ref a_y_makes, .ref a_y_worst])), (a_y_list, .inl (c_y_list, 16, .inl y_list))]) (va_A [(a_y, .inr (10, [.int y_n, .ref a_y_list, .int y_sets, .ref a_y_others, .int y_otherMany, .ref a_y_costs, .long y_above, .long y_below, .ref a_y_table, .long y_by, .ref a_y_basis, .ref a_y_isSeen, .ref a_y_colour, .ref a_y_rest, .ref a_y_makes, .ref a_y_worst])), (a_y_list, .inl (c_y_list, 16, .inl y_list))] sz)) 0 0 (va_A [(a_y, .inr (10, [.int y_n, .ref a_y_list, .int y_sets, .ref a_y_others, .int y_otherMany, .ref a_y_costs, .long y_above, .long y_below, .ref a_y_table, .long y_by, .ref a_y_basis, .ref a_y_isSeen, .ref a_y_colour, .ref a_y_rest, .ref a_y_makes, .ref a_y_worst])), (a_y_list, .inl (c_y_list, 16, .inl y_list))] sz) := by
  refine Met.ofW (cc := cX10_apart) (maxL := 1) (ret := (some .int)) (by decide) rfl ?_
  intro p e s m args below meth c s₁ B hml hv
  obtain ⟨rfl, hsz, hP, hK, hD0, hN⟩ := hv
  have hx := B.exec
  have hb := B.bytes
  have hr := B.returns
  have hts := atoms_spec (ws := wsX10_apart) B.pre
  have hown : s.vm.findClass RX10 = some m.cls := findClass_of_methodNamed B.named
  have hlocks := B.notSynchronized
  subst hsz
  have hD := hD0.self (sz := s.heap.size)
  generalize hAe : va_A [(a_y, .inr (10, [.int y_n, .ref a_y_list, .int y_sets, .ref a_y_others, .int y_otherMany, .ref a_y_costs, .long y_above, .long y_below, .ref a_y_table, .long y_by, .ref a_y_basis, .ref a_y_isSeen, .ref a_y_colour, .ref a_y_rest, .ref a_y_makes, .ref a_y_worst])), (a_y_list, .inl (c_y_list, 16, .inl y_list))] s.heap.size = A at hD hN ⊢
  have hA : ∀ q : Nat, s.heap.size ≤ q → A q := fun q h => by rw [← hAe]; exact Or.inr h
  have hS : va_S A s.heap s.heap [] := va_S.rf
  have hP : va_P (dC, dI) vwCl [(a_y, .inr (10, [.int y_n, .ref a_y_list, .int y_sets, .ref a_y_others, .int y_otherMany, .ref a_y_costs, .long y_above, .long y_below, .ref a_y_table, .long y_by, .ref a_y_basis, .ref a_y_isSeen, .ref a_y_colour, .ref a_y_rest, .ref a_y_makes, .ref a_y_worst])), (a_y_list, .inl (c_y_list, 16, .inl y_list))] s.heap := hP
  have hl := lv_entry ([.ref a_y]) (n := 1) (Nat.le_of_ble_eq_true rfl)
  rw [lg_entry_eq]
  generalize (lg_sl ([.ref a_y]) ++ List.replicate (1 - (lg_sl ([.ref a_y])).length) Slot.unset).toArray = ls at hl ⊢
  have hl : lv_has ls 1 [(0, .ref a_y)] := hl
  refine w_abs (fun Z hZv hZw => ?_)
  refine hZv ?_
  obtain ⟨H, hH⟩ : ∃ H, H = s.heap := ⟨_, rfl⟩
  obtain ⟨locs, hlo⟩ : ∃ L : List Loc, L = [] := ⟨_, rfl⟩
  rw [← hlo, ← hH]
  have hS : va_S A s.heap H locs := by rw [hlo, hH]; exact hS
  have hP : va_P (dC, dI) vwCl [(a_y, .inr (10, [.int y_n, .ref a_y_list, .int y_sets, .ref a_y_others, .int y_otherMany, .ref a_y_costs, .long y_above, .long y_below, .ref a_y_table, .long y_by, .ref a_y_basis, .ref a_y_isSeen, .ref a_y_colour, .ref a_y_rest, .ref a_y_makes, .ref a_y_worst])), (a_y_list, .inl (c_y_list, 16, .inl y_list))] H := by rw [hH]; exact hP
  clear hH hlo
  unfold pX10_apart at hs
  refine lv_aload_n hx hb dX10_apart_0 rfl (lv_at hl 0 rfl) ?_
  obtain ⟨r1, hr1, hs⟩ := bd_s hs
  refine kc_i (isC := [0, 1]) (isR := []) (pm := [0, 1]) (wr := []) (w1 := [(a_y, .inr (10, [.int y_n, .ref a_y_list, .int y_sets, .ref a_y_others, .int y_otherMany, .ref a_y_costs, .long y_above, .long y_below, .ref a_y_table, .long y_by, .ref a_y_basis, .ref a_y_isSeen, .ref a_y_colour, .ref a_y_rest, .ref a_y_makes, .ref a_y_worst])), (a_y_list, .inl (c_y_list, 16, .inl y_list))]) (w2 := [(a_y, .inr (10, [.int y_n, .ref a_y_list, .int y_sets, .ref a_y_others, .int y_otherMany, .ref a_y_costs, .long y_above, .long y_below, .ref a_y_table, .long y_by, .ref a_y_basis, .ref a_y_isSeen, .ref a_y_colour, .ref a_y_rest, .ref a_y_makes, .ref a_y_worst])), (a_y_list, .inl (c_y_list, 16, .inl y_list))]) (va_runV (As := []) (rest := []) ⟨hx, hb, hml, hown, hts⟩ (c_X10_apartOf l dC dI a_y a_y_list a_y_others a_y_costs a_y_table a_y_basis a_y_isSeen a_y_colour a_y_rest a_y_makes a_y_worst c_y_list H.size y_n y_sets y_otherMany y_above y_below y_by y_list r1 hr1) (cwV 0 hts gX10_apart_X10_apartOf rfl rfl rfl (by decide +kernel) ⟨Nat.le_of_ble_eq_true rfl, Nat.le_of_ble_eq_true rfl⟩) (kp_V hK hP hD hS hA hN (isC := [0, 1]) (isT := [0]) (wc := [(a_y, .inr (10, [.int y_n, .ref a_y_list, .int y_sets, .ref a_y_others, .int y_otherMany, .ref a_y_costs, .long y_above, .long y_below, .ref a_y_table, .long y_by, .ref a_y_basis, .ref a_y_isSeen, .ref a_y_colour, .ref a_y_rest, .ref a_y_makes, .ref a_y_worst])), (a_y_list, .inl (c_y_list, 16, .inl y_list))]) rfl (by decide +kernel) rfl (ci := 10) (q0 := 0) rfl rfl) rfl rfl hl.1 rfl (lv_room (Nat.le_of_ble_eq_true rfl)) dX10_apart_1 ⟨Nat.le_of_ble_eq_true rfl, Nat.le_of_ble_eq_true rfl⟩) hP hD hS hA rfl rfl (by decide +kernel) (by decide +kernel) rfl (by decide +kernel) (fun H locs hP hD hS => ?_)
  replace hs := Option.some.inj hs
  subst hs
  exact W.iret (v := r1) hx hb hr (fun t ht hW => ⟨⟨r1, (), rfl, rfl, by rw [ht]; exact hP, va_K.moved hW.alike hK, hD⟩, hS.F ht⟩) hS.2.2 dX10_apart_4
noncomputable def pX10_common_L7 (y_sets : Int32) (y_list : Nat → Int32) (p1 : Int32) (s7 : Int32 × Int32) : Option ((Int32 × Int32) ⊕ (Int32)) :=
  if y_sets ≤ s7.2 then (some (Sum.inr s7.1)) else (Option.bind (if ((p1 >>> (s7.2 &&& 31)) &&& 1) = 1 then (gd (vp_in s7.2 16) (some (y_list s7.2.toNatClampNeg))) else (some s7.1) : Option (Int32)) (fun t35 => some (Sum.inl (s7.1 &&& t35, s7.2 + 1))))
noncomputable def pX10_common (y_n : Int32) (y_sets : Int32) (y_list : Nat → Int32) (p1 : Int32) : Option (Int32) :=
  Option.bind (pX10_all y_n) (fun r1 => Option.bind (lp (pX10_common_L7 y_sets y_list p1) (r1, 0)) (fun e7 => some e7))
set_option maxHeartbeats 4000000 in
set_option maxRecDepth 100000 in
theorem c_X10_common (l : Launch) (dC : Nat → ClassId) (dI : Nat → Nat → Nat) (a_y : Nat) (a_y_list : Nat) (a_y_others : Nat) (a_y_costs : Nat) (a_y_table : Nat) (a_y_basis : Nat) (a_y_isSeen : Nat) (a_y_colour : Nat) (a_y_rest : Nat) (a_y_makes : Nat) (a_y_worst : Nat) (c_y_list : ClassId) (sz : Nat) (y_n : Int32) (y_sets : Int32) (y_otherMany : Int32) (y_above : Int64) (y_below : Int64) (y_by : Int64) (y_list : Nat → Int32) (p1 : Int32) (rv : Int32) (hs : pX10_common y_n y_sets y_list p1 = some rv) : Met l yX10_common wsX10_common ({ frames := 1, cells := 0, slots := 0, locals := 20 }) (sPc [.ref a_y, .int p1] (dC, dI) [(c_y_list, .int)] [(a_y, .inr (10, [.int y_n, .ref a_y_list, .int y_sets, .ref a_y_others, .int y_otherMany, .ref a_y_costs, .long y_above, .long y_below, .ref a_y_table, .long y_by, .ref a_y_basis, .ref a_y_isSeen, .ref a_y_colour, .ref a_y_rest, .ref a_y_makes, .ref a_y_worst])), (a_y_list, .inl (c_y_list, 16, .inl y_list))] sz) (va_Qi (fun (r : Int32) (_ : Unit) => r = rv) (sB (dC, dI) [(c_y_list, .int)] (va_A [(a_y, .inr (10, [.int y_n, .ref a_y_list, .int y_sets, .ref a_y_others, .int y_otherMany, .ref a_y_costs, .long y_above, .long y_below, .ref a_y_table, .long y_by, .ref a_y_basis, .ref a_y_isSeen, .ref a_y_colour, .ref a_y_rest, .ref a_y_makes, .ref a_y_worst])), (a_y_list, .inl (c_y_list, 16, .inl y_list))] sz) [(a_y, .inr (10, [.int y_n, .ref a_y_list, .int y_sets, .ref a_y_others, .int y_otherMany, .ref a_y_costs, .long y_above, .long y_below, .ref a_y_table, .long y_by, .ref a_y_basis, .ref a_y_isSeen, .ref a_y_colour, .ref a_y_rest, .ref a_y_makes, .ref a_y_worst])), (a_y_list, .inl (c_y_list, 16, .inl y_list))]) (va_A [(a_y, .inr (10, [.int y_n, .ref a_y_list, .int y_sets, .ref a_y_others, .int y_otherMany, .ref a_y_costs, .long y_above, .long y_below, .ref a_y_table, .long y_by, .ref a_y_basis, .ref a_y_isSeen, .ref a_y_colour, .ref a_y_rest, .ref a_y_makes, .ref a_y_worst])), (a_y_list, .inl (c_y_list, 16, .inl y_list))] sz)) 0 0 (va_A [(a_y, .inr (10, [.int y_n, .ref a_y_list, .int y_sets, .ref a_y_others, .int y_otherMany, .ref a_y_costs, .long y_above, .long y_below, .ref a_y_table, .long y_by, .ref a_y_basis, .ref a_y_isSeen, .ref a_y_colour, .ref a_y_rest, .ref a_y_makes, .ref a_y_worst])), (a_y_list, .inl (c_y_list, 16, .inl y_list))] sz) := by
  refine Met.ofW (cc := cX10_common) (maxL := 4) (ret := (some .int)) (by decide) rfl ?_
  intro p e s m args below meth c s₁ B hml hv
  obtain ⟨rfl, hsz, hP, hK, hD0, hN⟩ := hv
  have hx := B.exec
  have hb := B.bytes
  have hr := B.returns
  have hts := atoms_spec (ws := wsX10_common) B.pre
  have hown : s.vm.findClass RX10 = some m.cls := findClass_of_methodNamed B.named
  have hlocks := B.notSynchronized
  subst hsz
  have hD := hD0.self (sz := s.heap.size)
  generalize hAe : va_A [(a_y, .inr (10, [.int y_n, .ref a_y_list, .int y_sets, .ref a_y_others, .int y_otherMany, .ref a_y_costs, .long y_above, .long y_below, .ref a_y_table, .long y_by, .ref a_y_basis, .ref a_y_isSeen, .ref a_y_colour, .ref a_y_rest, .ref a_y_makes, .ref a_y_worst])), (a_y_list, .inl (c_y_list, 16, .inl y_list))] s.heap.size = A at hD hN ⊢
  have hA : ∀ q : Nat, s.heap.size ≤ q → A q := fun q h => by rw [← hAe]; exact Or.inr h
  have hS : va_S A s.heap s.heap [] := va_S.rf
  have hP : va_P (dC, dI) vwCl [(a_y, .inr (10, [.int y_n, .ref a_y_list, .int y_sets, .ref a_y_others, .int y_otherMany, .ref a_y_costs, .long y_above, .long y_below, .ref a_y_table, .long y_by, .ref a_y_basis, .ref a_y_isSeen, .ref a_y_colour, .ref a_y_rest, .ref a_y_makes, .ref a_y_worst])), (a_y_list, .inl (c_y_list, 16, .inl y_list))] s.heap := hP
  have hl := lv_entry ([.ref a_y, .int p1]) (n := 4) (Nat.le_of_ble_eq_true rfl)
  rw [lg_entry_eq]
  generalize (lg_sl ([.ref a_y, .int p1]) ++ List.replicate (4 - (lg_sl ([.ref a_y, .int p1])).length) Slot.unset).toArray = ls at hl ⊢
  have hl : lv_has ls 4 [(0, .ref a_y), (1, .int p1)] := hl
  have hiX10 : ∀ w ∈ wsX100, w ∈ wsX10_common := fun _ h => List.mem_cons_of_mem _ (List.mem_append_right _ h)
  have hf61 := hts (.fieldLink RX10 61 "MeetSetsModel" "sets" "I") (t1_ (al_ h1_))
  have hf7 := hts (.fieldLink RX10 7 "MeetSetsModel" "list" "[I") (t1_ (al_ (t1_ h1_)))
  refine w_abs (fun Z hZv hZw => ?_)
  refine hZv ?_
  obtain ⟨H, hH⟩ : ∃ H, H = s.heap := ⟨_, rfl⟩
  obtain ⟨locs, hlo⟩ : ∃ L : List Loc, L = [] := ⟨_, rfl⟩
  rw [← hlo, ← hH]
  have hS : va_S A s.heap H locs := by rw [hlo, hH]; exact hS
  have hP : va_P (dC, dI) vwCl [(a_y, .inr (10, [.int y_n, .ref a_y_list, .int y_sets, .ref a_y_others, .int y_otherMany, .ref a_y_costs, .long y_above, .long y_below, .ref a_y_table, .long y_by, .ref a_y_basis, .ref a_y_isSeen, .ref a_y_colour, .ref a_y_rest, .ref a_y_makes, .ref a_y_worst])), (a_y_list, .inl (c_y_list, 16, .inl y_list))] H := by rw [hH]; exact hP
  clear hH hlo
  unfold pX10_common at hs
  refine lv_aload_n hx hb dX10_common_0 rfl (lv_at hl 0 rfl) ?_
  obtain ⟨r1, hr1, hs⟩ := bd_s hs
  refine kc_i (isC := [0]) (isR := [1]) (pm := [1, 0]) (wr := [(a_y_list, .inl (c_y_list, 16, .inl y_list))]) (w1 := [(a_y, .inr (10, [.int y_n, .ref a_y_list, .int y_sets, .ref a_y_others, .int y_otherMany, .ref a_y_costs, .long y_above, .long y_below, .ref a_y_table, .long y_by, .ref a_y_basis, .ref a_y_isSeen, .ref a_y_colour, .ref a_y_rest, .ref a_y_makes, .ref a_y_worst]))]) (w2 := [(a_y, .inr (10, [.int y_n, .ref a_y_list, .int y_sets, .ref a_y_others, .int y_otherMany, .ref a_y_costs, .long y_above, .long y_below, .ref a_y_table, .long y_by, .ref a_y_basis, .ref a_y_isSeen, .ref a_y_colour, .ref a_y_rest, .ref a_y_makes, .ref a_y_worst])), (a_y_list, .inl (c_y_list, 16, .inl y_list))]) (va_runV (As := []) (rest := []) ⟨hx, hb, hml, hown, hts⟩ (c_X10_all l dC dI a_y a_y_list a_y_others a_y_costs a_y_table a_y_basis a_y_isSeen a_y_colour a_y_rest a_y_makes a_y_worst H.size y_n y_sets y_otherMany y_above y_below y_by r1 hr1) (cwV 0 hts gX10_common_X10_all rfl rfl rfl (by decide +kernel) ⟨Nat.le_of_ble_eq_true rfl, Nat.le_of_ble_eq_true rfl⟩) (kp_V hK hP hD hS hA hN (isC := [0]) (isT := []) (wc := [(a_y, .inr (10, [.int y_n, .ref a_y_list, .int y_sets, .ref a_y_others, .int y_otherMany, .ref a_y_costs, .long y_above, .long y_below, .ref a_y_table, .long y_by, .ref a_y_basis, .ref a_y_isSeen, .ref a_y_colour, .ref a_y_rest, .ref a_y_makes, .ref a_y_worst]))]) rfl (by decide +kernel) rfl (ci := 10) (q0 := 0) rfl rfl) rfl rfl hl.1 rfl (lv_room (Nat.le_of_ble_eq_true rfl)) dX10_common_1 ⟨Nat.le_of_ble_eq_true rfl, Nat.le_of_ble_eq_true rfl⟩) hP hD hS hA rfl rfl (by decide +kernel) (by decide +kernel) rfl (by decide +kernel) (fun H locs hP hD hS => ?_)
  refine lv_istore_n (lv' := [(2, .int r1), (0, .ref a_y), (1, .int p1)]) hx hb dX10_common_4 rfl hl (by decide) rfl (fun ls hl => ?_)
  refine lv_iconst (v := 0) hx hb dX10_common_5 (by decide) ?_
  refine lv_istore_n (lv' := [(3, .int 0), (2, .int r1), (0, .ref a_y), (1, .int p1)]) hx hb dX10_common_6 rfl hl (by decide) rfl (fun ls hl => ?_)
  obtain ⟨e7, he7, hs⟩ := bd_s hs
  have hX7 : ∀ (H : Heap) (locs : List Loc) (ls : Array Slot), va_P (dC, dI) vwCl [(a_y, .inr (10, [.int y_n, .ref a_y_list, .int y_sets, .ref a_y_others, .int y_otherMany, .ref a_y_costs, .long y_above, .long y_below, .ref a_y_table, .long y_by, .ref a_y_basis, .ref a_y_isSeen, .ref a_y_colour, .ref a_y_rest, .ref a_y_makes, .ref a_y_worst])), (a_y_list, .inl (c_y_list, 16, .inl y_list))] H → va_D A [(a_y, .inr (10, [.int y_n, .ref a_y_list, .int y_sets, .ref a_y_others, .int y_otherMany, .ref a_y_costs, .long y_above, .long y_below, .ref a_y_table, .long y_by, .ref a_y_basis, .ref a_y_isSeen, .ref a_y_colour, .ref a_y_rest, .ref a_y_makes, .ref a_y_worst])), (a_y_list, .inl (c_y_list, 16, .inl y_list))] → va_S A s.heap H locs → lv_has ls 4 [(2, .int e7)] → Z H locs 0 0 (F0 m 43 ls []) := by
    intro H locs ls hP hD hS hl
    refine hZv ?_
    refine lv_iload_n hx hb dX10_common_43 rfl (lv_at hl 0 rfl) ?_
    replace hs := Option.some.inj hs
    subst hs
    exact W.iret (v := e7) hx hb hr (fun t ht hW => ⟨⟨e7, (), rfl, rfl, by rw [ht]; exact hP, va_K.moved hW.alike hK, hD⟩, hS.F ht⟩) hS.2.2 dX10_common_44
  clear hs
  have hL7 : ∀ (n : Nat) (s7 : Int32 × Int32) (H : Heap) (locs : List Loc) (ls : Array Slot), itr (pX10_common_L7 y_sets y_list p1) n s7 = some e7 → va_P (dC, dI) vwCl [(a_y, .inr (10, [.int y_n, .ref a_y_list, .int y_sets, .ref a_y_others, .int y_otherMany, .ref a_y_costs, .long y_above, .long y_below, .ref a_y_table, .long y_by, .ref a_y_basis, .ref a_y_isSeen, .ref a_y_colour, .ref a_y_rest, .ref a_y_makes, .ref a_y_worst])), (a_y_list, .inl (c_y_list, 16, .inl y_list))] H → va_D A [(a_y, .inr (10, [.int y_n, .ref a_y_list, .int y_sets, .ref a_y_others, .int y_otherMany, .ref a_y_costs, .long y_above, .long y_below, .ref a_y_table, .long y_by, .ref a_y_basis, .ref a_y_isSeen, .ref a_y_colour, .ref a_y_rest, .ref a_y_makes, .ref a_y_worst])), (a_y_list, .inl (c_y_list, 16, .inl y_list))] → va_S A s.heap H locs → lv_has ls 4 [(0, .ref a_y), (1, .int p1), (2, .int s7.1), (3, .int s7.2)] → Z H locs 0 0 (F0 m 7 ls []) := by
    intro n
    induction n with
    | zero =>
      intro s7 H locs ls hn
      exact (itr_0 hn).elim
    | succ n ih =>
      intro s7 H locs ls hn hP hD hS hl
      obtain ⟨y2, hs, hn⟩ := itr_s hn
      unfold pX10_common_L7 at hs
      refine hZv ?_
      refine lv_iload_n hx hb dX10_common_7 rfl (lv_at hl 3 rfl) ?_
      refine lv_aload_n hx hb dX10_common_8 rfl (lv_at hl 0 rfl) ?_
      refine va_get (D := (dC, dI)) (ci := 10) (v := .int y_sets) (C := RX10) (T := TX10) (N := 16) hx hb hts hiX10 hown hK hP 0 rfl rfl 2 (by decide) hf61 (fun _ h9 => h9) rfl dX10_common_9 ?_
      refine lv_icmp_ge (tgt := 43) hx hb dX10_common_12 (by decide) (fun hc => ?_) (fun hc => ?_)
      · replace hs := it_t hc hs
        replace hs := Option.some.inj hs
        subst hs
        obtain rfl : s7.1 = e7 := hn
        exact hZw (hX7 H locs ls hP hD hS (lv_sub hl [2] rfl))
      · replace hs := it_f hc hs
        refine lv_iload_n hx hb dX10_common_15 rfl (lv_at hl 2 rfl) ?_
        refine lv_iload_n hx hb dX10_common_16 rfl (lv_at hl 1 rfl) ?_
        refine lv_iload_n hx hb dX10_common_17 rfl (lv_at hl 3 rfl) ?_
        refine lv_ishr hx hb dX10_common_18 ?_
        refine lv_iconst (v := 1) hx hb dX10_common_19 (by decide) ?_
        refine lv_iand hx hb dX10_common_20 ?_
        refine lv_iconst (v := 1) hx hb dX10_common_21 (by decide) ?_
        obtain ⟨t35, hq35, hs⟩ := bd_s hs
        have hJ35 : ∀ (H : Heap) (locs : List Loc) (ls : Array Slot), va_P (dC, dI) vwCl [(a_y, .inr (10, [.int y_n, .ref a_y_list, .int y_sets, .ref a_y_others, .int y_otherMany, .ref a_y_costs, .long y_above, .long y_below, .ref a_y_table, .long y_by, .ref a_y_basis, .ref a_y_isSeen, .ref a_y_colour, .ref a_y_rest, .ref a_y_makes, .ref a_y_worst])), (a_y_list, .inl (c_y_list, 16, .inl y_list))] H → va_D A [(a_y, .inr (10, [.int y_n, .ref a_y_list, .int y_sets, .ref a_y_others, .int y_otherMany, .ref a_y_costs, .long y_above, .long y_below, .ref a_y_table, .long y_by, .ref a_y_basis, .ref a_y_isSeen, .ref a_y_colour, .ref a_y_rest, .ref a_y_makes, .ref a_y_worst])), (a_y_list, .inl (c_y_list, 16, .inl y_list))] → va_S A s.heap H locs → lv_has ls 4 [(0, .ref a_y), (1, .int p1), (3, .int s7.2)] → Z H locs 0 0 (F0 m 35 ls [.int t35, .int s7.1]) := by
          intro H locs ls hP hD hS hl
          refine hZv ?_
          refine lv_iand hx hb dX10_common_35 ?_
          refine lv_istore_n (lv' := [(2, .int (s7.1 &&& t35)), (0, .ref a_y), (1, .int p1), (3, .int s7.2)]) hx hb dX10_common_36 rfl hl (by decide) rfl (fun ls hl => ?_)
          refine lv_iinc (v := s7.2 + 1) (lv' := [(3, .int (s7.2 + 1)), (2, .int (s7.1 &&& t35)), (0, .ref a_y), (1, .int p1)]) hx hb dX10_common_37 hl (k := 3) rfl (by rfl) (by decide) rfl (fun ls hl => ?_)
          refine lv_goto (tgt := 7) hx hb dX10_common_40 (by decide) ?_
          replace hs := Option.some.inj hs
          subst hs
          exact hZw (ih (s7.1 &&& t35, s7.2 + 1) H locs ls hn hP hD hS (lv_sub hl [2, 3, 1, 0] rfl))
        clear hs
        have hs := hq35
        refine lv_icmp_ne (tgt := 34) hx hb dX10_common_22 (by decide) (fun hc => ?_) (fun hc => ?_)
        · replace hs := it_f hc hs
          refine lv_iload_n hx hb dX10_common_34 rfl (lv_at hl 2 rfl) ?_
          replace hs := Option.some.inj hs
          subst hs
          exact hZw (hJ35 H locs ls hP hD hS (lv_sub hl [0, 1, 3] rfl))
        · replace hs := it_t hc hs
          refine lv_aload_n hx hb dX10_common_25 rfl (lv_at hl 0 rfl) ?_
          refine va_get (D := (dC, dI)) (ci := 10) (v := .ref a_y_list) (C := RX10) (T := TX10) (N := 16) hx hb hts hiX10 hown hK hP 0 rfl rfl 1 (by decide) hf7 (fun _ h9 => h9) rfl dX10_common_26 ?_
          refine lv_iload_n hx hb dX10_common_29 rfl (lv_at hl 3 rfl) ?_
          obtain ⟨hg3, hs⟩ := gd_s hs
          refine va_iald hx hb hK hP 1 0 rfl rfl hg3 dX10_common_30 ?_
          refine lv_goto (tgt := 35) hx hb dX10_common_31 (by decide) ?_
          replace hs := Option.some.inj hs
          subst hs
          exact hZw (hJ35 H locs ls hP hD hS (lv_sub hl [0, 1, 3] rfl))
  obtain ⟨n7, hn7⟩ := lp_ex he7
  exact hZw (hL7 n7 (r1, 0) H locs ls hn7 hP hD hS (lv_sub hl [2, 3, 1, 0] rfl))
noncomputable def pX10_isStar_L14 (y_sets : Int32) (y_list : Nat → Int32) (p1 : Int32) (r1 : Int32) (s14 : Int32 × Int32 × Int32) : Option ((Int32 × Int32 × Int32) ⊕ (Int32)) :=
  if y_sets ≤ s14.2.2 then (some (Sum.inr s14.2.1)) else (if s14.2.1 = 0 then (some (Sum.inr s14.2.1)) else (if ((p1 >>> (s14.2.2 &&& 31)) &&& 1) = 1 then (gd (vp_in s14.2.2 16) (Option.bind (if ((s14.1 &&& (y_list s14.2.2.toNatClampNeg)) &&& (r1 ^^^ (-1))) = 0 then (some 1) else (some 0) : Option (Int32)) (fun t59 => gd (vp_in s14.2.2 16) (some (Sum.inl (s14.1 ||| (y_list s14.2.2.toNatClampNeg), t59, s14.2.2 + 1)))))) else (some (Sum.inl (s14.1, s14.2.1, s14.2.2 + 1)))))
noncomputable def pX10_isStar (y_n : Int32) (y_sets : Int32) (y_list : Nat → Int32) (p1 : Int32) : Option (Int32) :=
  Option.bind (pX10_common y_n y_sets y_list p1) (fun r1 => Option.bind (lp (pX10_isStar_L14 y_sets y_list p1 r1) (0, 1, 0)) (fun e14 => gd (narrow .boolean (.int e14) = .int e14) (some e14)))
set_option maxHeartbeats 4000000 in
set_option maxRecDepth 100000 in
theorem c_X10_isStar (l : Launch) (dC : Nat → ClassId) (dI : Nat → Nat → Nat) (a_y : Nat) (a_y_list : Nat) (a_y_others : Nat) (a_y_costs : Nat) (a_y_table : Nat) (a_y_basis : Nat) (a_y_isSeen : Nat) (a_y_colour : Nat) (a_y_rest : Nat) (a_y_makes : Nat) (a_y_worst : Nat) (c_y_list : ClassId) (sz : Nat) (y_n : Int32) (y_sets : Int32) (y_otherMany : Int32) (y_above : Int64) (y_below : Int64) (y_by : Int64) (y_list : Nat → Int32) (p1 : Int32) (rv : Int32) (hs : pX10_isStar y_n y_sets y_list p1 = some rv) : Met l yX10_isStar wsX10_isStar ({ frames := 2, cells := 0, slots := 0, locals := 43 }) (sPc [.ref a_y, .int p1] (dC, dI) [(c_y_list, .int)] [(a_y, .inr (10, [.int y_n, .ref a_y_list, .int y_sets, .ref a_y_others, .int y_otherMany, .ref a_y_costs, .long y_above, .long y_below, .ref a_y_table, .long y_by, .ref a_y_basis, .ref a_y_isSeen, .ref a_y_colour, .ref a_y_rest, .ref a_y_makes, .ref a_y_worst])), (a_y_list, .inl (c_y_list, 16, .inl y_list))] sz) (va_Qi (fun (r : Int32) (_ : Unit) => r = rv) (sB (dC, dI) [(c_y_list, .int)] (va_A [(a_y, .inr (10, [.int y_n, .ref a_y_list, .int y_sets, .ref a_y_others, .int y_otherMany, .ref a_y_costs, .long y_above, .long y_below, .ref a_y_table, .long y_by, .ref a_y_basis, .ref a_y_isSeen, .ref a_y_colour, .ref a_y_rest, .ref a_y_makes, .ref a_y_worst])), (a_y_list, .inl (c_y_list, 16, .inl y_list))] sz) [(a_y, .inr (10, [.int y_n, .ref a_y_list, .int y_sets, .ref a_y_others, .int y_otherMany, .ref a_y_costs, .long y_above, .long y_below, .ref a_y_table, .long y_by, .ref a_y_basis, .ref a_y_isSeen, .ref a_y_colour, .ref a_y_rest, .ref a_y_makes, .ref a_y_worst])), (a_y_list, .inl (c_y_list, 16, .inl y_list))]) (va_A [(a_y, .inr (10, [.int y_n, .ref a_y_list, .int y_sets, .ref a_y_others, .int y_otherMany, .ref a_y_costs, .long y_above, .long y_below, .ref a_y_table, .long y_by, .ref a_y_basis, .ref a_y_isSeen, .ref a_y_colour, .ref a_y_rest, .ref a_y_makes, .ref a_y_worst])), (a_y_list, .inl (c_y_list, 16, .inl y_list))] sz)) 0 0 (va_A [(a_y, .inr (10, [.int y_n, .ref a_y_list, .int y_sets, .ref a_y_others, .int y_otherMany, .ref a_y_costs, .long y_above, .long y_below, .ref a_y_table, .long y_by, .ref a_y_basis, .ref a_y_isSeen, .ref a_y_colour, .ref a_y_rest, .ref a_y_makes, .ref a_y_worst])), (a_y_list, .inl (c_y_list, 16, .inl y_list))] sz) := by
  refine Met.ofW (cc := cX10_isStar) (maxL := 6) (ret := (some .boolean)) (by decide) rfl ?_
  intro p e s m args below meth c s₁ B hml hv
  obtain ⟨rfl, hsz, hP, hK, hD0, hN⟩ := hv
  have hx := B.exec
  have hb := B.bytes
  have hr := B.returns
  have hts := atoms_spec (ws := wsX10_isStar) B.pre
  have hown : s.vm.findClass RX10 = some m.cls := findClass_of_methodNamed B.named
  have hlocks := B.notSynchronized
  subst hsz
  have hD := hD0.self (sz := s.heap.size)
  generalize hAe : va_A [(a_y, .inr (10, [.int y_n, .ref a_y_list, .int y_sets, .ref a_y_others, .int y_otherMany, .ref a_y_costs, .long y_above, .long y_below, .ref a_y_table, .long y_by, .ref a_y_basis, .ref a_y_isSeen, .ref a_y_colour, .ref a_y_rest, .ref a_y_makes, .ref a_y_worst])), (a_y_list, .inl (c_y_list, 16, .inl y_list))] s.heap.size = A at hD hN ⊢
  have hA : ∀ q : Nat, s.heap.size ≤ q → A q := fun q h => by rw [← hAe]; exact Or.inr h
  have hS : va_S A s.heap s.heap [] := va_S.rf
  have hP : va_P (dC, dI) vwCl [(a_y, .inr (10, [.int y_n, .ref a_y_list, .int y_sets, .ref a_y_others, .int y_otherMany, .ref a_y_costs, .long y_above, .long y_below, .ref a_y_table, .long y_by, .ref a_y_basis, .ref a_y_isSeen, .ref a_y_colour, .ref a_y_rest, .ref a_y_makes, .ref a_y_worst])), (a_y_list, .inl (c_y_list, 16, .inl y_list))] s.heap := hP
  have hl := lv_entry ([.ref a_y, .int p1]) (n := 6) (Nat.le_of_ble_eq_true rfl)
  rw [lg_entry_eq]
  generalize (lg_sl ([.ref a_y, .int p1]) ++ List.replicate (6 - (lg_sl ([.ref a_y, .int p1])).length) Slot.unset).toArray = ls at hl ⊢
  have hl : lv_has ls 6 [(0, .ref a_y), (1, .int p1)] := hl
  have hiX10 : ∀ w ∈ wsX100, w ∈ wsX10_isStar := fun _ h => List.mem_cons_of_mem _ (List.mem_append_right _ h)
  have hf61 := hts (.fieldLink RX10 61 "MeetSetsModel" "sets" "I") (t1_ (al_ h1_))
  have hf7 := hts (.fieldLink RX10 7 "MeetSetsModel" "list" "[I") (t1_ (al_ (t1_ h1_)))
  refine w_abs (fun Z hZv hZw => ?_)
  refine hZv ?_
  obtain ⟨H, hH⟩ : ∃ H, H = s.heap := ⟨_, rfl⟩
  obtain ⟨locs, hlo⟩ : ∃ L : List Loc, L = [] := ⟨_, rfl⟩
  rw [← hlo, ← hH]
  have hS : va_S A s.heap H locs := by rw [hlo, hH]; exact hS
  have hP : va_P (dC, dI) vwCl [(a_y, .inr (10, [.int y_n, .ref a_y_list, .int y_sets, .ref a_y_others, .int y_otherMany, .ref a_y_costs, .long y_above, .long y_below, .ref a_y_table, .long y_by, .ref a_y_basis, .ref a_y_isSeen, .ref a_y_colour, .ref a_y_rest, .ref a_y_makes, .ref a_y_worst])), (a_y_list, .inl (c_y_list, 16, .inl y_list))] H := by rw [hH]; exact hP
  clear hH hlo
  unfold pX10_isStar at hs
  refine lv_aload_n hx hb dX10_isStar_0 rfl (lv_at hl 0 rfl) ?_
  refine lv_iload_n hx hb dX10_isStar_1 rfl (lv_at hl 1 rfl) ?_
  obtain ⟨r1, hr1, hs⟩ := bd_s hs
  refine kc_i (isC := [0, 1]) (isR := []) (pm := [0, 1]) (wr := []) (w1 := [(a_y, .inr (10, [.int y_n, .ref a_y_list, .int y_sets, .ref a_y_others, .int y_otherMany, .ref a_y_costs, .long y_above, .long y_below, .ref a_y_table, .long y_by, .ref a_y_basis, .ref a_y_isSeen, .ref a_y_colour, .ref a_y_rest, .ref a_y_makes, .ref a_y_worst])), (a_y_list, .inl (c_y_list, 16, .inl y_list))]) (w2 := [(a_y, .inr (10, [.int y_n, .ref a_y_list, .int y_sets, .ref a_y_others, .int y_otherMany, .ref a_y_costs, .long y_above, .long y_below, .ref a_y_table, .long y_by, .ref a_y_basis, .ref a_y_isSeen, .ref a_y_colour, .ref a_y_rest, .ref a_y_makes, .ref a_y_worst])), (a_y_list, .inl (c_y_list, 16, .inl y_list))]) (va_runV (As := [.int p1]) (rest := []) ⟨hx, hb, hml, hown, hts⟩ (c_X10_common l dC dI a_y a_y_list a_y_others a_y_costs a_y_table a_y_basis a_y_isSeen a_y_colour a_y_rest a_y_makes a_y_worst c_y_list H.size y_n y_sets y_otherMany y_above y_below y_by y_list p1 r1 hr1) (cwV 1 hts gX10_isStar_X10_common rfl rfl rfl (by decide +kernel) ⟨Nat.le_of_ble_eq_true rfl, Nat.le_of_ble_eq_true rfl⟩) (kp_V hK hP hD hS hA hN (isC := [0, 1]) (isT := [0]) (wc := [(a_y, .inr (10, [.int y_n, .ref a_y_list, .int y_sets, .ref a_y_others, .int y_otherMany, .ref a_y_costs, .long y_above, .long y_below, .ref a_y_table, .long y_by, .ref a_y_basis, .ref a_y_isSeen, .ref a_y_colour, .ref a_y_rest, .ref a_y_makes, .ref a_y_worst])), (a_y_list, .inl (c_y_list, 16, .inl y_list))]) rfl (by decide +kernel) rfl (ci := 10) (q0 := 0) rfl rfl) rfl rfl hl.1 rfl (lv_room (Nat.le_of_ble_eq_true rfl)) dX10_isStar_2 ⟨Nat.le_of_ble_eq_true rfl, Nat.le_of_ble_eq_true rfl⟩) hP hD hS hA rfl rfl (by decide +kernel) (by decide +kernel) rfl (by decide +kernel) (fun H locs hP hD hS => ?_)
  refine lv_istore_n (lv' := [(2, .int r1), (0, .ref a_y), (1, .int p1)]) hx hb dX10_isStar_5 rfl hl (by decide) rfl (fun ls hl => ?_)
  refine lv_iconst (v := 0) hx hb dX10_isStar_6 (by decide) ?_
  refine lv_istore_n (lv' := [(3, .int 0), (2, .int r1), (0, .ref a_y), (1, .int p1)]) hx hb dX10_isStar_7 rfl hl (by decide) rfl (fun ls hl => ?_)
  refine lv_iconst (v := 1) hx hb dX10_isStar_8 (by decide) ?_
  refine lv_istore (lv' := [(4, .int 1), (3, .int 0), (2, .int r1), (0, .ref a_y), (1, .int p1)]) hx hb dX10_isStar_9 hl (by decide) rfl (fun ls hl => ?_)
  refine lv_iconst (v := 0) hx hb dX10_isStar_11 (by decide) ?_
  refine lv_istore (lv' := [(5, .int 0), (4, .int 1), (3, .int 0), (2, .int r1), (0, .ref a_y), (1, .int p1)]) hx hb dX10_isStar_12 hl (by decide) rfl (fun ls hl => ?_)
  obtain ⟨e14, he14, hs⟩ := bd_s hs
  have hX14 : ∀ (H : Heap) (locs : List Loc) (ls : Array Slot), va_P (dC, dI) vwCl [(a_y, .inr (10, [.int y_n, .ref a_y_list, .int y_sets, .ref a_y_others, .int y_otherMany, .ref a_y_costs, .long y_above, .long y_below, .ref a_y_table, .long y_by, .ref a_y_basis, .ref a_y_isSeen, .ref a_y_colour, .ref a_y_rest, .ref a_y_makes, .ref a_y_worst])), (a_y_list, .inl (c_y_list, 16, .inl y_list))] H → va_D A [(a_y, .inr (10, [.int y_n, .ref a_y_list, .int y_sets, .ref a_y_others, .int y_otherMany, .ref a_y_costs, .long y_above, .long y_below, .ref a_y_table, .long y_by, .ref a_y_basis, .ref a_y_isSeen, .ref a_y_colour, .ref a_y_rest, .ref a_y_makes, .ref a_y_worst])), (a_y_list, .inl (c_y_list, 16, .inl y_list))] → va_S A s.heap H locs → lv_has ls 6 [(4, .int e14)] → Z H locs 0 0 (F0 m 77 ls []) := by
    intro H locs ls hP hD hS hl
    refine hZv ?_
    refine lv_iload hx hb dX10_isStar_77 (lv_at hl 0 rfl) ?_
    obtain ⟨hb5, hs⟩ := gd_s hs
    replace hs := Option.some.inj hs
    subst hs
    exact W.zret (v := e14) (ty := .boolean) hx hb hr hb5 (fun t ht hW => ⟨⟨e14, (), rfl, rfl, by rw [ht]; exact hP, va_K.moved hW.alike hK, hD⟩, hS.F ht⟩) hS.2.2 dX10_isStar_79
  clear hs
  have hL14 : ∀ (n : Nat) (s14 : Int32 × Int32 × Int32) (H : Heap) (locs : List Loc) (ls : Array Slot), itr (pX10_isStar_L14 y_sets y_list p1 r1) n s14 = some e14 → va_P (dC, dI) vwCl [(a_y, .inr (10, [.int y_n, .ref a_y_list, .int y_sets, .ref a_y_others, .int y_otherMany, .ref a_y_costs, .long y_above, .long y_below, .ref a_y_table, .long y_by, .ref a_y_basis, .ref a_y_isSeen, .ref a_y_colour, .ref a_y_rest, .ref a_y_makes, .ref a_y_worst])), (a_y_list, .inl (c_y_list, 16, .inl y_list))] H → va_D A [(a_y, .inr (10, [.int y_n, .ref a_y_list, .int y_sets, .ref a_y_others, .int y_otherMany, .ref a_y_costs, .long y_above, .long y_below, .ref a_y_table, .long y_by, .ref a_y_basis, .ref a_y_isSeen, .ref a_y_colour, .ref a_y_rest, .ref a_y_makes, .ref a_y_worst])), (a_y_list, .inl (c_y_list, 16, .inl y_list))] → va_S A s.heap H locs → lv_has ls 6 [(0, .ref a_y), (1, .int p1), (2, .int r1), (3, .int s14.1), (4, .int s14.2.1), (5, .int s14.2.2)] → Z H locs 0 0 (F0 m 14 ls []) := by
    intro n
    induction n with
    | zero =>
      intro s14 H locs ls hn
      exact (itr_0 hn).elim
    | succ n ih =>
      intro s14 H locs ls hn hP hD hS hl
      obtain ⟨y2, hs, hn⟩ := itr_s hn
      unfold pX10_isStar_L14 at hs
      refine hZv ?_
      refine lv_iload hx hb dX10_isStar_14 (lv_at hl 5 rfl) ?_
      refine lv_aload_n hx hb dX10_isStar_16 rfl (lv_at hl 0 rfl) ?_
      refine va_get (D := (dC, dI)) (ci := 10) (v := .int y_sets) (C := RX10) (T := TX10) (N := 16) hx hb hts hiX10 hown hK hP 0 rfl rfl 2 (by decide) hf61 (fun _ h9 => h9) rfl dX10_isStar_17 ?_
      refine lv_icmp_ge (tgt := 77) hx hb dX10_isStar_20 (by decide) (fun hc => ?_) (fun hc => ?_)
      · replace hs := it_t hc hs
        replace hs := Option.some.inj hs
        subst hs
        obtain rfl : s14.2.1 = e14 := hn
        exact hZw (hX14 H locs ls hP hD hS (lv_sub hl [4] rfl))
      · replace hs := it_f hc hs
        refine lv_iload hx hb dX10_isStar_23 (lv_at hl 4 rfl) ?_
        refine lv_if_eq (tgt := 77) hx hb dX10_isStar_25 (by decide) (fun hc => ?_) (fun hc => ?_)
        · replace hs := it_t hc hs
          replace hs := Option.some.inj hs
          subst hs
          obtain rfl : s14.2.1 = e14 := hn
          exact hZw (hX14 H locs ls hP hD hS (lv_sub hl [4] rfl))
        · replace hs := it_f hc hs
          refine lv_iload_n hx hb dX10_isStar_28 rfl (lv_at hl 1 rfl) ?_
          refine lv_iload hx hb dX10_isStar_29 (lv_at hl 5 rfl) ?_
          refine lv_ishr hx hb dX10_isStar_31 ?_
          refine lv_iconst (v := 1) hx hb dX10_isStar_32 (by decide) ?_
          refine lv_iand hx hb dX10_isStar_33 ?_
          refine lv_iconst (v := 1) hx hb dX10_isStar_34 (by decide) ?_
          refine lv_icmp_ne (tgt := 71) hx hb dX10_isStar_35 (by decide) (fun hc => ?_) (fun hc => ?_)
          · replace hs := it_f hc hs
            refine lv_iinc (v := s14.2.2 + 1) (lv' := [(5, .int (s14.2.2 + 1)), (0, .ref a_y), (1, .int p1), (2, .int r1), (3, .int s14.1), (4, .int s14.2.1)]) hx hb dX10_isStar_71 hl (k := 5) rfl (by rfl) (by decide) rfl (fun ls hl => ?_)
            refine lv_goto (tgt := 14) hx hb dX10_isStar_74 (by decide) ?_
            replace hs := Option.some.inj hs
            subst hs
            exact hZw (ih (s14.1, s14.2.1, s14.2.2 + 1) H locs ls hn hP hD hS (lv_sub hl [1, 2, 3, 4, 5, 0] rfl))
          · replace hs := it_t hc hs
            refine lv_iload_n hx hb dX10_isStar_38 rfl (lv_at hl 3 rfl) ?_
            refine lv_aload_n hx hb dX10_isStar_39 rfl (lv_at hl 0 rfl) ?_
            refine va_get (D := (dC, dI)) (ci := 10) (v := .ref a_y_list) (C := RX10) (T := TX10) (N := 16) hx hb hts hiX10 hown hK hP 0 rfl rfl 1 (by decide) hf7 (fun _ h9 => h9) rfl dX10_isStar_40 ?_
            refine lv_iload hx hb dX10_isStar_43 (lv_at hl 5 rfl) ?_
            obtain ⟨hg3, hs⟩ := gd_s hs
            refine va_iald hx hb hK hP 1 0 rfl rfl hg3 dX10_isStar_45 ?_
            refine lv_iand hx hb dX10_isStar_46 ?_
            refine lv_iload_n hx hb dX10_isStar_47 rfl (lv_at hl 2 rfl) ?_
            refine lv_iconst (v := (-1)) hx hb dX10_isStar_48 (by decide) ?_
            refine lv_ixor hx hb dX10_isStar_49 ?_
            refine lv_iand hx hb dX10_isStar_50 ?_
            obtain ⟨t59, hq59, hs⟩ := bd_s hs
            have hJ59 : ∀ (H : Heap) (locs : List Loc) (ls : Array Slot), va_P (dC, dI) vwCl [(a_y, .inr (10, [.int y_n, .ref a_y_list, .int y_sets, .ref a_y_others, .int y_otherMany, .ref a_y_costs, .long y_above, .long y_below, .ref a_y_table, .long y_by, .ref a_y_basis, .ref a_y_isSeen, .ref a_y_colour, .ref a_y_rest, .ref a_y_makes, .ref a_y_worst])), (a_y_list, .inl (c_y_list, 16, .inl y_list))] H → va_D A [(a_y, .inr (10, [.int y_n, .ref a_y_list, .int y_sets, .ref a_y_others, .int y_otherMany, .ref a_y_costs, .long y_above, .long y_below, .ref a_y_table, .long y_by, .ref a_y_basis, .ref a_y_isSeen, .ref a_y_colour, .ref a_y_rest, .ref a_y_makes, .ref a_y_worst])), (a_y_list, .inl (c_y_list, 16, .inl y_list))] → va_S A s.heap H locs → lv_has ls 6 [(0, .ref a_y), (1, .int p1), (2, .int r1), (3, .int s14.1), (5, .int s14.2.2)] → Z H locs 0 0 (F0 m 59 ls [.int t59]) := by
              intro H locs ls hP hD hS hl
              refine hZv ?_
              refine lv_istore (lv' := [(4, .int t59), (0, .ref a_y), (1, .int p1), (2, .int r1), (3, .int s14.1), (5, .int s14.2.2)]) hx hb dX10_isStar_59 hl (by decide) rfl (fun ls hl => ?_)
              refine lv_iload_n hx hb dX10_isStar_61 rfl (lv_at hl 4 rfl) ?_
              refine lv_aload_n hx hb dX10_isStar_62 rfl (lv_at hl 1 rfl) ?_
              refine va_get (D := (dC, dI)) (ci := 10) (v := .ref a_y_list) (C := RX10) (T := TX10) (N := 16) hx hb hts hiX10 hown hK hP 0 rfl rfl 1 (by decide) hf7 (fun _ h9 => h9) rfl dX10_isStar_63 ?_
              refine lv_iload hx hb dX10_isStar_66 (lv_at hl 5 rfl) ?_
              obtain ⟨hg4, hs⟩ := gd_s hs
              refine va_iald hx hb hK hP 1 0 rfl rfl hg4 dX10_isStar_68 ?_
              refine lv_ior hx hb dX10_isStar_69 ?_
              refine lv_istore_n (lv' := [(3, .int (s14.1 ||| (y_list s14.2.2.toNatClampNeg))), (4, .int t59), (0, .ref a_y), (1, .int p1), (2, .int r1), (5, .int s14.2.2)]) hx hb dX10_isStar_70 rfl hl (by decide) rfl (fun ls hl => ?_)
              refine lv_iinc (v := s14.2.2 + 1) (lv' := [(5, .int (s14.2.2 + 1)), (3, .int (s14.1 ||| (y_list s14.2.2.toNatClampNeg))), (4, .int t59), (0, .ref a_y), (1, .int p1), (2, .int r1)]) hx hb dX10_isStar_71 hl (k := 5) rfl (by rfl) (by decide) rfl (fun ls hl => ?_)
              refine lv_goto (tgt := 14) hx hb dX10_isStar_74 (by decide) ?_
              replace hs := Option.some.inj hs
              subst hs
              exact hZw (ih (s14.1 ||| (y_list s14.2.2.toNatClampNeg), t59, s14.2.2 + 1) H locs ls hn hP hD hS (lv_sub hl [3, 4, 5, 1, 2, 0] rfl))
            clear hs
            have hs := hq59
            refine lv_if_ne (tgt := 58) hx hb dX10_isStar_51 (by decide) (fun hc => ?_) (fun hc => ?_)
            · replace hs := it_f hc hs
              refine lv_iconst (v := 0) hx hb dX10_isStar_58 (by decide) ?_
              replace hs := Option.some.inj hs
              subst hs
              exact hZw (hJ59 H locs ls hP hD hS (lv_sub hl [0, 1, 2, 3, 5] rfl))
            · replace hs := it_t hc hs
              refine lv_iconst (v := 1) hx hb dX10_isStar_54 (by decide) ?_
              refine lv_goto (tgt := 59) hx hb dX10_isStar_55 (by decide) ?_
              replace hs := Option.some.inj hs
              subst hs
              exact hZw (hJ59 H locs ls hP hD hS (lv_sub hl [0, 1, 2, 3, 5] rfl))
  obtain ⟨n14, hn14⟩ := lp_ex he14
  exact hZw (hL14 n14 (0, 1, 0) H locs ls hn14 hP hD hS (lv_sub hl [4, 5, 3, 2, 1, 0] rfl))
noncomputable def pX10_star_J70_4 (s27 : Int32 × Int32) (t70 : Unit) : Option ((Int32 × Int32) ⊕ (Int32)) :=
  some (Sum.inl (s27.1, s27.2 + 1))
noncomputable def pX10_star_L27 (y_n : Int32) (y_sets : Int32) (y_list : Nat → Int32) (s27 : Int32 × Int32) : Option ((Int32 × Int32) ⊕ (Int32)) :=
  if (1 <<< (y_sets &&& 31)) ≤ s27.2 then (some (Sum.inr s27.1)) else (Option.bind (pX10_sizeOf s27.2) (fun r3 => if r3 ≤ 1 then (pX10_star_J70_4 s27 ()) else (Option.bind (pX10_sizeOf s27.1) (fun r5 => if r3 ≤ r5 then (pX10_star_J70_4 s27 ()) else (Option.bind (pX10_isStar y_n y_sets y_list s27.2) (fun r6 => if r6 = 0 then (pX10_star_J70_4 s27 ()) else (some (Sum.inl (s27.2, s27.2 + 1)))))))))
noncomputable def pX10_star (y_n : Int32) (y_sets : Int32) (y_list : Nat → Int32) (p1 : Int32) : Option (Int32) :=
  Option.bind (pX10_in p1.toInt64 0 1) (fun r1 => if r1 = 0 then (some (-2)) else (if 2 ≤ y_sets then (Option.bind (lp (pX10_star_L27 y_n y_sets y_list) (0, 1)) (fun e27 => if p1 = 0 then (some e27) else (Option.bind (pX10_common y_n y_sets y_list e27) (fun r7 => some r7)))) else (some (-1))))
set_option maxHeartbeats 4000000 in
set_option maxRecDepth 100000 in
theorem c_X10_star (l : Launch) (dC : Nat → ClassId) (dI : Nat → Nat → Nat) (a_y : Nat) (a_y_list : Nat) (a_y_others : Nat) (a_y_costs : Nat) (a_y_table : Nat) (a_y_basis : Nat) (a_y_isSeen : Nat) (a_y_colour : Nat) (a_y_rest : Nat) (a_y_makes : Nat) (a_y_worst : Nat) (c_y_list : ClassId) (sz : Nat) (y_n : Int32) (y_sets : Int32) (y_otherMany : Int32) (y_above : Int64) (y_below : Int64) (y_by : Int64) (y_list : Nat → Int32) (p1 : Int32) (rv : Int32) (hs : pX10_star y_n y_sets y_list p1 = some rv) : Met l yX10_star wsX10_star ({ frames := 3, cells := 0, slots := 0, locals := 68 }) (sPc [.ref a_y, .int p1] (dC, dI) [(c_y_list, .int)] [(a_y, .inr (10, [.int y_n, .ref a_y_list, .int y_sets, .ref a_y_others, .int y_otherMany, .ref a_y_costs, .long y_above, .long y_below, .ref a_y_table, .long y_by, .ref a_y_basis, .ref a_y_isSeen, .ref a_y_colour, .ref a_y_rest, .ref a_y_makes, .ref a_y_worst])), (a_y_list, .inl (c_y_list, 16, .inl y_list))] sz) (va_Qi (fun (r : Int32) (_ : Unit) => r = rv) (sB (dC, dI) [(c_y_list, .int)] (va_A [(a_y, .inr (10, [.int y_n, .ref a_y_list, .int y_sets, .ref a_y_others, .int y_otherMany, .ref a_y_costs, .long y_above, .long y_below, .ref a_y_table, .long y_by, .ref a_y_basis, .ref a_y_isSeen, .ref a_y_colour, .ref a_y_rest, .ref a_y_makes, .ref a_y_worst])), (a_y_list, .inl (c_y_list, 16, .inl y_list))] sz) [(a_y, .inr (10, [.int y_n, .ref a_y_list, .int y_sets, .ref a_y_others, .int y_otherMany, .ref a_y_costs, .long y_above, .long y_below, .ref a_y_table, .long y_by, .ref a_y_basis, .ref a_y_isSeen, .ref a_y_colour, .ref a_y_rest, .ref a_y_makes, .ref a_y_worst])), (a_y_list, .inl (c_y_list, 16, .inl y_list))]) (va_A [(a_y, .inr (10, [.int y_n, .ref a_y_list, .int y_sets, .ref a_y_others, .int y_otherMany, .ref a_y_costs, .long y_above, .long y_below, .ref a_y_table, .long y_by, .ref a_y_basis, .ref a_y_isSeen, .ref a_y_colour, .ref a_y_rest, .ref a_y_makes, .ref a_y_worst])), (a_y_list, .inl (c_y_list, 16, .inl y_list))] sz)) 0 0 (va_A [(a_y, .inr (10, [.int y_n, .ref a_y_list, .int y_sets, .ref a_y_others, .int y_otherMany, .ref a_y_costs, .long y_above, .long y_below, .ref a_y_table, .long y_by, .ref a_y_basis, .ref a_y_isSeen, .ref a_y_colour, .ref a_y_rest, .ref a_y_makes, .ref a_y_worst])), (a_y_list, .inl (c_y_list, 16, .inl y_list))] sz) := by
  refine Met.ofW (cc := cX10_star) (maxL := 5) (ret := (some .int)) (by decide) rfl ?_
  intro p e s m args below meth c s₁ B hml hv
  obtain ⟨rfl, hsz, hP, hK, hD0, hN⟩ := hv
  have hx := B.exec
  have hb := B.bytes
  have hr := B.returns
  have hts := atoms_spec (ws := wsX10_star) B.pre
  have hown : s.vm.findClass RX10 = some m.cls := findClass_of_methodNamed B.named
  have hlocks := B.notSynchronized
  subst hsz
  have hD := hD0.self (sz := s.heap.size)
  generalize hAe : va_A [(a_y, .inr (10, [.int y_n, .ref a_y_list, .int y_sets, .ref a_y_others, .int y_otherMany, .ref a_y_costs, .long y_above, .long y_below, .ref a_y_table, .long y_by, .ref a_y_basis, .ref a_y_isSeen, .ref a_y_colour, .ref a_y_rest, .ref a_y_makes, .ref a_y_worst])), (a_y_list, .inl (c_y_list, 16, .inl y_list))] s.heap.size = A at hD hN ⊢
  have hA : ∀ q : Nat, s.heap.size ≤ q → A q := fun q h => by rw [← hAe]; exact Or.inr h
  have hS : va_S A s.heap s.heap [] := va_S.rf
  have hP : va_P (dC, dI) vwCl [(a_y, .inr (10, [.int y_n, .ref a_y_list, .int y_sets, .ref a_y_others, .int y_otherMany, .ref a_y_costs, .long y_above, .long y_below, .ref a_y_table, .long y_by, .ref a_y_basis, .ref a_y_isSeen, .ref a_y_colour, .ref a_y_rest, .ref a_y_makes, .ref a_y_worst])), (a_y_list, .inl (c_y_list, 16, .inl y_list))] s.heap := hP
  have hl := lv_entry ([.ref a_y, .int p1]) (n := 5) (Nat.le_of_ble_eq_true rfl)
  rw [lg_entry_eq]
  generalize (lg_sl ([.ref a_y, .int p1]) ++ List.replicate (5 - (lg_sl ([.ref a_y, .int p1])).length) Slot.unset).toArray = ls at hl ⊢
  have hl : lv_has ls 5 [(0, .ref a_y), (1, .int p1)] := hl
  have hiX10 : ∀ w ∈ wsX100, w ∈ wsX10_star := fun _ h => List.mem_cons_of_mem _ (List.mem_append_right _ h)
  have hf61 := hts (.fieldLink RX10 61 "MeetSetsModel" "sets" "I") (t1_ (al_ h1_))
  refine w_abs (fun Z hZv hZw => ?_)
  refine hZv ?_
  obtain ⟨H, hH⟩ : ∃ H, H = s.heap := ⟨_, rfl⟩
  obtain ⟨locs, hlo⟩ : ∃ L : List Loc, L = [] := ⟨_, rfl⟩
  rw [← hlo, ← hH]
  have hS : va_S A s.heap H locs := by rw [hlo, hH]; exact hS
  have hP : va_P (dC, dI) vwCl [(a_y, .inr (10, [.int y_n, .ref a_y_list, .int y_sets, .ref a_y_others, .int y_otherMany, .ref a_y_costs, .long y_above, .long y_below, .ref a_y_table, .long y_by, .ref a_y_basis, .ref a_y_isSeen, .ref a_y_colour, .ref a_y_rest, .ref a_y_makes, .ref a_y_worst])), (a_y_list, .inl (c_y_list, 16, .inl y_list))] H := by rw [hH]; exact hP
  clear hH hlo
  unfold pX10_star at hs
  refine lv_iload_n hx hb dX10_star_0 rfl (lv_at hl 1 rfl) ?_
  refine lv_i2l (v := p1.toInt64) hx hb dX10_star_1 rfl ?_
  refine lv_lconst (v := 0) hx hb dX10_star_2 (by decide) ?_
  refine lv_lconst (v := 1) hx hb dX10_star_3 (by decide) ?_
  obtain ⟨r1, hr1, hs⟩ := bd_s hs
  refine kc_i (isC := []) (isR := [0, 1]) (pm := [0, 1]) (wr := [(a_y, .inr (10, [.int y_n, .ref a_y_list, .int y_sets, .ref a_y_others, .int y_otherMany, .ref a_y_costs, .long y_above, .long y_below, .ref a_y_table, .long y_by, .ref a_y_basis, .ref a_y_isSeen, .ref a_y_colour, .ref a_y_rest, .ref a_y_makes, .ref a_y_worst])), (a_y_list, .inl (c_y_list, 16, .inl y_list))]) (w1 := []) (w2 := [(a_y, .inr (10, [.int y_n, .ref a_y_list, .int y_sets, .ref a_y_others, .int y_otherMany, .ref a_y_costs, .long y_above, .long y_below, .ref a_y_table, .long y_by, .ref a_y_basis, .ref a_y_isSeen, .ref a_y_colour, .ref a_y_rest, .ref a_y_makes, .ref a_y_worst])), (a_y_list, .inl (c_y_list, 16, .inl y_list))]) (va_runS (As := [.long p1.toInt64, .long 0, .long 1]) (rest := []) ⟨hx, hb, hml, hown, hts⟩ (c_X10_in l dC dI H.size p1.toInt64 0 1 r1 hr1) (va_cwS 3 hts gX10_star_X10_in rfl rfl rfl (by decide +kernel) ⟨Nat.le_of_ble_eq_true rfl, Nat.le_of_ble_eq_true rfl⟩) (kp_S hK hP hD hS hA hN (isC := []) (isT := []) (wc := []) rfl (by decide +kernel) rfl) rfl rfl hl.1 rfl (lv_room (Nat.le_of_ble_eq_true rfl)) dX10_star_4 ⟨Nat.le_of_ble_eq_true rfl, Nat.le_of_ble_eq_true rfl⟩) hP hD hS hA rfl rfl (by decide +kernel) (by decide +kernel) rfl (by decide +kernel) (fun H locs hP hD hS => ?_)
  refine lv_if_ne (tgt := 13) hx hb dX10_star_7 (by decide) (fun hc => ?_) (fun hc => ?_)
  · replace hs := it_f hc hs
    refine lv_aload_n hx hb dX10_star_13 rfl (lv_at hl 0 rfl) ?_
    refine va_get (D := (dC, dI)) (ci := 10) (v := .int y_sets) (C := RX10) (T := TX10) (N := 16) hx hb hts hiX10 hown hK hP 0 rfl rfl 2 (by decide) hf61 (fun _ h9 => h9) rfl dX10_star_14 ?_
    refine lv_iconst (v := 2) hx hb dX10_star_17 (by decide) ?_
    refine lv_icmp_ge (tgt := 23) hx hb dX10_star_18 (by decide) (fun hc => ?_) (fun hc => ?_)
    · replace hs := it_t hc hs
      refine lv_iconst (v := 0) hx hb dX10_star_23 (by decide) ?_
      refine lv_istore_n (lv' := [(2, .int 0), (0, .ref a_y), (1, .int p1)]) hx hb dX10_star_24 rfl hl (by decide) rfl (fun ls hl => ?_)
      refine lv_iconst (v := 1) hx hb dX10_star_25 (by decide) ?_
      refine lv_istore_n (lv' := [(3, .int 1), (2, .int 0), (0, .ref a_y), (1, .int p1)]) hx hb dX10_star_26 rfl hl (by decide) rfl (fun ls hl => ?_)
      obtain ⟨e27, he27, hs⟩ := bd_s hs
      have hX27 : ∀ (H : Heap) (locs : List Loc) (ls : Array Slot), va_P (dC, dI) vwCl [(a_y, .inr (10, [.int y_n, .ref a_y_list, .int y_sets, .ref a_y_others, .int y_otherMany, .ref a_y_costs, .long y_above, .long y_below, .ref a_y_table, .long y_by, .ref a_y_basis, .ref a_y_isSeen, .ref a_y_colour, .ref a_y_rest, .ref a_y_makes, .ref a_y_worst])), (a_y_list, .inl (c_y_list, 16, .inl y_list))] H → va_D A [(a_y, .inr (10, [.int y_n, .ref a_y_list, .int y_sets, .ref a_y_others, .int y_otherMany, .ref a_y_costs, .long y_above, .long y_below, .ref a_y_table, .long y_by, .ref a_y_basis, .ref a_y_isSeen, .ref a_y_colour, .ref a_y_rest, .ref a_y_makes, .ref a_y_worst])), (a_y_list, .inl (c_y_list, 16, .inl y_list))] → va_S A s.heap H locs → lv_has ls 5 [(0, .ref a_y), (1, .int p1), (2, .int e27)] → Z H locs 0 0 (F0 m 78 ls []) := by
        intro H locs ls hP hD hS hl
        refine hZv ?_
        refine lv_iload_n hx hb dX10_star_78 rfl (lv_at hl 1 rfl) ?_
        refine lv_if_ne (tgt := 86) hx hb dX10_star_79 (by decide) (fun hc => ?_) (fun hc => ?_)
        · replace hs := it_f hc hs
          refine lv_aload_n hx hb dX10_star_86 rfl (lv_at hl 0 rfl) ?_
          refine lv_iload_n hx hb dX10_star_87 rfl (lv_at hl 2 rfl) ?_
          obtain ⟨r7, hr7, hs⟩ := bd_s hs
          refine kc_i (isC := [0, 1]) (isR := []) (pm := [0, 1]) (wr := []) (w1 := [(a_y, .inr (10, [.int y_n, .ref a_y_list, .int y_sets, .ref a_y_others, .int y_otherMany, .ref a_y_costs, .long y_above, .long y_below, .ref a_y_table, .long y_by, .ref a_y_basis, .ref a_y_isSeen, .ref a_y_colour, .ref a_y_rest, .ref a_y_makes, .ref a_y_worst])), (a_y_list, .inl (c_y_list, 16, .inl y_list))]) (w2 := [(a_y, .inr (10, [.int y_n, .ref a_y_list, .int y_sets, .ref a_y_others, .int y_otherMany, .ref a_y_costs, .long y_above, .long y_below, .ref a_y_table, .long y_by, .ref a_y_basis, .ref a_y_isSeen, .ref a_y_colour, .ref a_y_rest, .ref a_y_makes, .ref a_y_worst])), (a_y_list, .inl (c_y_list, 16, .inl y_list))]) (va_runV (As := [.int e27]) (rest := []) ⟨hx, hb, hml, hown, hts⟩ (c_X10_common l dC dI a_y a_y_list a_y_others a_y_costs a_y_table a_y_basis a_y_isSeen a_y_colour a_y_rest a_y_makes a_y_worst c_y_list H.size y_n y_sets y_otherMany y_above y_below y_by y_list e27 r7 hr7) (cwV 1 hts gX10_star_X10_common rfl rfl rfl (by decide +kernel) ⟨Nat.le_of_ble_eq_true rfl, Nat.le_of_ble_eq_true rfl⟩) (kp_V hK hP hD hS hA hN (isC := [0, 1]) (isT := [0]) (wc := [(a_y, .inr (10, [.int y_n, .ref a_y_list, .int y_sets, .ref a_y_others, .int y_otherMany, .ref a_y_costs, .long y_above, .long y_below, .ref a_y_table, .long y_by, .ref a_y_basis, .ref a_y_isSeen, .ref a_y_colour, .ref a_y_rest, .ref a_y_makes, .ref a_y_worst])), (a_y_list, .inl (c_y_list, 16, .inl y_list))]) rfl (by decide +kernel) rfl (ci := 10) (q0 := 0) rfl rfl) rfl rfl hl.1 rfl (lv_room (Nat.le_of_ble_eq_true rfl)) dX10_star_88 ⟨Nat.le_of_ble_eq_true rfl, Nat.le_of_ble_eq_true rfl⟩) hP hD hS hA rfl rfl (by decide +kernel) (by decide +kernel) rfl (by decide +kernel) (fun H locs hP hD hS => ?_)
          replace hs := Option.some.inj hs
          subst hs
          exact W.iret (v := r7) hx hb hr (fun t ht hW => ⟨⟨r7, (), rfl, rfl, by rw [ht]; exact hP, va_K.moved hW.alike hK, hD⟩, hS.F ht⟩) hS.2.2 dX10_star_91
        · replace hs := it_t hc hs
          refine lv_iload_n hx hb dX10_star_82 rfl (lv_at hl 2 rfl) ?_
          refine lv_goto (tgt := 91) hx hb dX10_star_83 (by decide) ?_
          replace hs := Option.some.inj hs
          subst hs
          exact W.iret (v := e27) hx hb hr (fun t ht hW => ⟨⟨e27, (), rfl, rfl, by rw [ht]; exact hP, va_K.moved hW.alike hK, hD⟩, hS.F ht⟩) hS.2.2 dX10_star_91
      clear hs
      have hL27 : ∀ (n : Nat) (s27 : Int32 × Int32) (H : Heap) (locs : List Loc) (ls : Array Slot), itr (pX10_star_L27 y_n y_sets y_list) n s27 = some e27 → va_P (dC, dI) vwCl [(a_y, .inr (10, [.int y_n, .ref a_y_list, .int y_sets, .ref a_y_others, .int y_otherMany, .ref a_y_costs, .long y_above, .long y_below, .ref a_y_table, .long y_by, .ref a_y_basis, .ref a_y_isSeen, .ref a_y_colour, .ref a_y_rest, .ref a_y_makes, .ref a_y_worst])), (a_y_list, .inl (c_y_list, 16, .inl y_list))] H → va_D A [(a_y, .inr (10, [.int y_n, .ref a_y_list, .int y_sets, .ref a_y_others, .int y_otherMany, .ref a_y_costs, .long y_above, .long y_below, .ref a_y_table, .long y_by, .ref a_y_basis, .ref a_y_isSeen, .ref a_y_colour, .ref a_y_rest, .ref a_y_makes, .ref a_y_worst])), (a_y_list, .inl (c_y_list, 16, .inl y_list))] → va_S A s.heap H locs → lv_has ls 5 [(0, .ref a_y), (1, .int p1), (2, .int s27.1), (3, .int s27.2)] → Z H locs 0 0 (F0 m 27 ls []) := by
        intro n
        induction n with
        | zero =>
          intro s27 H locs ls hn
          exact (itr_0 hn).elim
        | succ n ih =>
          intro s27 H locs ls hn hP hD hS hl
          obtain ⟨y2, hs, hn⟩ := itr_s hn
          unfold pX10_star_L27 at hs
          refine hZv ?_
          refine lv_iload_n hx hb dX10_star_27 rfl (lv_at hl 3 rfl) ?_
          refine lv_iconst (v := 1) hx hb dX10_star_28 (by decide) ?_
          refine lv_aload_n hx hb dX10_star_29 rfl (lv_at hl 0 rfl) ?_
          refine va_get (D := (dC, dI)) (ci := 10) (v := .int y_sets) (C := RX10) (T := TX10) (N := 16) hx hb hts hiX10 hown hK hP 0 rfl rfl 2 (by decide) hf61 (fun _ h9 => h9) rfl dX10_star_30 ?_
          refine lv_ishl hx hb dX10_star_33 ?_
          refine lv_icmp_ge (tgt := 78) hx hb dX10_star_34 (by decide) (fun hc => ?_) (fun hc => ?_)
          · replace hs := it_t hc hs
            replace hs := Option.some.inj hs
            subst hs
            obtain rfl : s27.1 = e27 := hn
            exact hZw (hX27 H locs ls hP hD hS (lv_sub hl [0, 1, 2] rfl))
          · replace hs := it_f hc hs
            refine lv_iload_n hx hb dX10_star_37 rfl (lv_at hl 3 rfl) ?_
            obtain ⟨r3, hr3, hs⟩ := bd_s hs
            refine kc_i (isC := []) (isR := [0, 1]) (pm := [0, 1]) (wr := [(a_y, .inr (10, [.int y_n, .ref a_y_list, .int y_sets, .ref a_y_others, .int y_otherMany, .ref a_y_costs, .long y_above, .long y_below, .ref a_y_table, .long y_by, .ref a_y_basis, .ref a_y_isSeen, .ref a_y_colour, .ref a_y_rest, .ref a_y_makes, .ref a_y_worst])), (a_y_list, .inl (c_y_list, 16, .inl y_list))]) (w1 := []) (w2 := [(a_y, .inr (10, [.int y_n, .ref a_y_list, .int y_sets, .ref a_y_others, .int y_otherMany, .ref a_y_costs, .long y_above, .long y_below, .ref a_y_table, .long y_by, .ref a_y_basis, .ref a_y_isSeen, .ref a_y_colour, .ref a_y_rest, .ref a_y_makes, .ref a_y_worst])), (a_y_list, .inl (c_y_list, 16, .inl y_list))]) (va_runS (As := [.int s27.2]) (rest := []) ⟨hx, hb, hml, hown, hts⟩ (c_X10_sizeOf l dC dI H.size s27.2 r3 hr3) (va_cwS 1 hts gX10_star_X10_sizeOf rfl rfl rfl (by decide +kernel) ⟨Nat.le_of_ble_eq_true rfl, Nat.le_of_ble_eq_true rfl⟩) (kp_S hK hP hD hS hA hN (isC := []) (isT := []) (wc := []) rfl (by decide +kernel) rfl) rfl rfl hl.1 rfl (lv_room (Nat.le_of_ble_eq_true rfl)) dX10_star_38 ⟨Nat.le_of_ble_eq_true rfl, Nat.le_of_ble_eq_true rfl⟩) hP hD hS hA rfl rfl (by decide +kernel) (by decide +kernel) rfl (by decide +kernel) (fun H locs hP hD hS => ?_)
            refine lv_istore (lv' := [(4, .int r3), (0, .ref a_y), (1, .int p1), (2, .int s27.1), (3, .int s27.2)]) hx hb dX10_star_41 hl (by decide) rfl (fun ls hl => ?_)
            refine lv_iload hx hb dX10_star_43 (lv_at hl 0 rfl) ?_
            refine lv_iconst (v := 1) hx hb dX10_star_45 (by decide) ?_
            have hJ70 : ∀ (t70 : Unit), pX10_star_J70_4 s27 t70 = some y2 → ∀ (H : Heap) (locs : List Loc) (ls : Array Slot), va_P (dC, dI) vwCl [(a_y, .inr (10, [.int y_n, .ref a_y_list, .int y_sets, .ref a_y_others, .int y_otherMany, .ref a_y_costs, .long y_above, .long y_below, .ref a_y_table, .long y_by, .ref a_y_basis, .ref a_y_isSeen, .ref a_y_colour, .ref a_y_rest, .ref a_y_makes, .ref a_y_worst])), (a_y_list, .inl (c_y_list, 16, .inl y_list))] H → va_D A [(a_y, .inr (10, [.int y_n, .ref a_y_list, .int y_sets, .ref a_y_others, .int y_otherMany, .ref a_y_costs, .long y_above, .long y_below, .ref a_y_table, .long y_by, .ref a_y_basis, .ref a_y_isSeen, .ref a_y_colour, .ref a_y_rest, .ref a_y_makes, .ref a_y_worst])), (a_y_list, .inl (c_y_list, 16, .inl y_list))] → va_S A s.heap H locs → lv_has ls 5 [(0, .ref a_y), (1, .int p1), (2, .int s27.1), (3, .int s27.2)] → Z H locs 0 0 (F0 m 70 ls []) := by
              intro t70 hs H locs ls hP hD hS hl
              refine hZv ?_
              unfold pX10_star_J70_4 at hs
              refine lv_iload_n hx hb dX10_star_70 rfl (lv_at hl 2 rfl) ?_
              refine lv_istore_n (lv' := [(2, .int s27.1), (0, .ref a_y), (1, .int p1), (3, .int s27.2)]) hx hb dX10_star_71 rfl hl (by decide) rfl (fun ls hl => ?_)
              refine lv_iinc (v := s27.2 + 1) (lv' := [(3, .int (s27.2 + 1)), (2, .int s27.1), (0, .ref a_y), (1, .int p1)]) hx hb dX10_star_72 hl (k := 3) rfl (by rfl) (by decide) rfl (fun ls hl => ?_)
              refine lv_goto (tgt := 27) hx hb dX10_star_75 (by decide) ?_
              replace hs := Option.some.inj hs
              subst hs
              exact hZw (ih (s27.1, s27.2 + 1) H locs ls hn hP hD hS (lv_sub hl [2, 3, 1, 0] rfl))
            refine lv_icmp_le (tgt := 70) hx hb dX10_star_46 (by decide) (fun hc => ?_) (fun hc => ?_)
            · replace hs := it_t hc hs
              exact hZw (hJ70 () hs H locs ls hP hD hS (lv_sub hl [1, 2, 3, 4] rfl))
            · replace hs := it_f hc hs
              refine lv_iload hx hb dX10_star_49 (lv_at hl 0 rfl) ?_
              refine lv_iload_n hx hb dX10_star_51 rfl (lv_at hl 3 rfl) ?_
              obtain ⟨r5, hr5, hs⟩ := bd_s hs
              refine kc_i (isC := []) (isR := [0, 1]) (pm := [0, 1]) (wr := [(a_y, .inr (10, [.int y_n, .ref a_y_list, .int y_sets, .ref a_y_others, .int y_otherMany, .ref a_y_costs, .long y_above, .long y_below, .ref a_y_table, .long y_by, .ref a_y_basis, .ref a_y_isSeen, .ref a_y_colour, .ref a_y_rest, .ref a_y_makes, .ref a_y_worst])), (a_y_list, .inl (c_y_list, 16, .inl y_list))]) (w1 := []) (w2 := [(a_y, .inr (10, [.int y_n, .ref a_y_list, .int y_sets, .ref a_y_others, .int y_otherMany, .ref a_y_costs, .long y_above, .long y_below, .ref a_y_table, .long y_by, .ref a_y_basis, .ref a_y_isSeen, .ref a_y_colour, .ref a_y_rest, .ref a_y_makes, .ref a_y_worst])), (a_y_list, .inl (c_y_list, 16, .inl y_list))]) (va_runS (As := [.int s27.1]) (rest := [.int r3]) ⟨hx, hb, hml, hown, hts⟩ (c_X10_sizeOf l dC dI H.size s27.1 r5 hr5) (va_cwS 1 hts gX10_star_X10_sizeOf rfl rfl rfl (by decide +kernel) ⟨Nat.le_of_ble_eq_true rfl, Nat.le_of_ble_eq_true rfl⟩) (kp_S hK hP hD hS hA hN (isC := []) (isT := []) (wc := []) rfl (by decide +kernel) rfl) rfl rfl hl.1 rfl (lv_room (Nat.le_of_ble_eq_true rfl)) dX10_star_52 ⟨Nat.le_of_ble_eq_true rfl, Nat.le_of_ble_eq_true rfl⟩) hP hD hS hA rfl rfl (by decide +kernel) (by decide +kernel) rfl (by decide +kernel) (fun H locs hP hD hS => ?_)
              refine lv_icmp_le (tgt := 70) hx hb dX10_star_55 (by decide) (fun hc => ?_) (fun hc => ?_)
              · replace hs := it_t hc hs
                exact hZw (hJ70 () hs H locs ls hP hD hS (lv_sub hl [1, 2, 3, 4] rfl))
              · replace hs := it_f hc hs
                refine lv_aload_n hx hb dX10_star_58 rfl (lv_at hl 1 rfl) ?_
                refine lv_iload_n hx hb dX10_star_59 rfl (lv_at hl 4 rfl) ?_
                obtain ⟨r6, hr6, hs⟩ := bd_s hs
                refine kc_i (isC := [0, 1]) (isR := []) (pm := [0, 1]) (wr := []) (w1 := [(a_y, .inr (10, [.int y_n, .ref a_y_list, .int y_sets, .ref a_y_others, .int y_otherMany, .ref a_y_costs, .long y_above, .long y_below, .ref a_y_table, .long y_by, .ref a_y_basis, .ref a_y_isSeen, .ref a_y_colour, .ref a_y_rest, .ref a_y_makes, .ref a_y_worst])), (a_y_list, .inl (c_y_list, 16, .inl y_list))]) (w2 := [(a_y, .inr (10, [.int y_n, .ref a_y_list, .int y_sets, .ref a_y_others, .int y_otherMany, .ref a_y_costs, .long y_above, .long y_below, .ref a_y_table, .long y_by, .ref a_y_basis, .ref a_y_isSeen, .ref a_y_colour, .ref a_y_rest, .ref a_y_makes, .ref a_y_worst])), (a_y_list, .inl (c_y_list, 16, .inl y_list))]) (va_runV (As := [.int s27.2]) (rest := []) ⟨hx, hb, hml, hown, hts⟩ (c_X10_isStar l dC dI a_y a_y_list a_y_others a_y_costs a_y_table a_y_basis a_y_isSeen a_y_colour a_y_rest a_y_makes a_y_worst c_y_list H.size y_n y_sets y_otherMany y_above y_below y_by y_list s27.2 r6 hr6) (cwV 1 hts gX10_star_X10_isStar rfl rfl rfl (by decide +kernel) ⟨Nat.le_of_ble_eq_true rfl, Nat.le_of_ble_eq_true rfl⟩) (kp_V hK hP hD hS hA hN (isC := [0, 1]) (isT := [0]) (wc := [(a_y, .inr (10, [.int y_n, .ref a_y_list, .int y_sets, .ref a_y_others, .int y_otherMany, .ref a_y_costs, .long y_above, .long y_below, .ref a_y_table, .long y_by, .ref a_y_basis, .ref a_y_isSeen, .ref a_y_colour, .ref a_y_rest, .ref a_y_makes, .ref a_y_worst])), (a_y_list, .inl (c_y_list, 16, .inl y_list))]) rfl (by decide +kernel) rfl (ci := 10) (q0 := 0) rfl rfl) rfl rfl hl.1 rfl (lv_room (Nat.le_of_ble_eq_true rfl)) dX10_star_60 ⟨Nat.le_of_ble_eq_true rfl, Nat.le_of_ble_eq_true rfl⟩) hP hD hS hA rfl rfl (by decide +kernel) (by decide +kernel) rfl (by decide +kernel) (fun H locs hP hD hS => ?_)
                refine lv_if_eq (tgt := 70) hx hb dX10_star_63 (by decide) (fun hc => ?_) (fun hc => ?_)
                · replace hs := it_t hc hs
                  exact hZw (hJ70 () hs H locs ls hP hD hS (lv_sub hl [1, 2, 3, 4] rfl))
                · replace hs := it_f hc hs
                  refine lv_iload_n hx hb dX10_star_66 rfl (lv_at hl 4 rfl) ?_
                  refine lv_goto (tgt := 71) hx hb dX10_star_67 (by decide) ?_
                  refine lv_istore_n (lv' := [(2, .int s27.2), (4, .int r3), (0, .ref a_y), (1, .int p1), (3, .int s27.2)]) hx hb dX10_star_71 rfl hl (by decide) rfl (fun ls hl => ?_)
                  refine lv_iinc (v := s27.2 + 1) (lv' := [(3, .int (s27.2 + 1)), (2, .int s27.2), (4, .int r3), (0, .ref a_y), (1, .int p1)]) hx hb dX10_star_72 hl (k := 4) rfl (by rfl) (by decide) rfl (fun ls hl => ?_)
                  refine lv_goto (tgt := 27) hx hb dX10_star_75 (by decide) ?_
                  replace hs := Option.some.inj hs
                  subst hs
                  exact hZw (ih (s27.2, s27.2 + 1) H locs ls hn hP hD hS (lv_sub hl [3, 4, 1, 0] rfl))
      obtain ⟨n27, hn27⟩ := lp_ex he27
      exact hZw (hL27 n27 (0, 1) H locs ls hn27 hP hD hS (lv_sub hl [2, 3, 1, 0] rfl))
    · replace hs := it_f hc hs
      refine lv_iconst (v := (-1)) hx hb dX10_star_21 (by decide) ?_
      replace hs := Option.some.inj hs
      subst hs
      exact W.iret (v := (-1)) hx hb hr (fun t ht hW => ⟨⟨(-1), (), rfl, rfl, by rw [ht]; exact hP, va_K.moved hW.alike hK, hD⟩, hS.F ht⟩) hS.2.2 dX10_star_22
  · replace hs := it_t hc hs
    refine lv_bipush (v := (-2)) hx hb dX10_star_10 (by decide) ?_
    replace hs := Option.some.inj hs
    subst hs
    exact W.iret (v := (-2)) hx hb hr (fun t ht hW => ⟨⟨(-2), (), rfl, rfl, by rw [ht]; exact hP, va_K.moved hW.alike hK, hD⟩, hS.F ht⟩) hS.2.2 dX10_star_12
noncomputable def pX10_seenOf_L2 (s2 : Int32 × (Nat → Int32)) : Option ((Int32 × (Nat → Int32)) ⊕ (Nat → Int32)) :=
  if 1024 ≤ s2.1 then (some (Sum.inr s2.2)) else (gd (vp_in s2.1 1024) (some (Sum.inl (s2.1 + 1, upd s2.2 s2.1.toNatClampNeg (vp_nar .boolean 0)))))
noncomputable def pX10_seenOf_L26 (y_sets : Int32) (y_list : Nat → Int32) (p1 : Int32) (s26 : Int32 × Int32 × (Nat → Int32)) : Option ((Int32 × Int32 × (Nat → Int32)) ⊕ (Int32 × (Nat → Int32))) :=
  if y_sets ≤ s26.2.1 then (some (Sum.inr (s26.1, s26.2.2))) else (gd (vp_in s26.2.1 16) (gd (vp_in ((y_list s26.2.1.toNatClampNeg) &&& p1) 1024) (Option.bind (if (s26.2.2 ((y_list s26.2.1.toNatClampNeg) &&& p1).toNatClampNeg) = 0 then (some 1) else (some 0) : Option (Int32)) (fun t56 => gd (vp_in s26.2.1 16) (gd (vp_in ((y_list s26.2.1.toNatClampNeg) &&& p1) 1024) (some (Sum.inl (s26.1 + t56, s26.2.1 + 1, upd s26.2.2 ((y_list s26.2.1.toNatClampNeg) &&& p1).toNatClampNeg (vp_nar .boolean 1)))))))))
noncomputable def pX10_seenOf (y_sets : Int32) (y_list : Nat → Int32) (y_isSeen : Nat → Int32) (p1 : Int32) : Option (Int32 × (Nat → Int32)) :=
  Option.bind (lp (pX10_seenOf_L2) (0, y_isSeen)) (fun e2 => Option.bind (lp (pX10_seenOf_L26 y_sets y_list p1) (0, 0, e2)) (fun e26 => some (e26.1, e26.2)))
set_option maxHeartbeats 4000000 in
set_option maxRecDepth 100000 in
theorem c_X10_seenOf (l : Launch) (dC : Nat → ClassId) (dI : Nat → Nat → Nat) (a_y : Nat) (a_y_list : Nat) (a_y_others : Nat) (a_y_costs : Nat) (a_y_table : Nat) (a_y_basis : Nat) (a_y_isSeen : Nat) (a_y_colour : Nat) (a_y_rest : Nat) (a_y_makes : Nat) (a_y_worst : Nat) (c_y_list c_y_isSeen : ClassId) (sz : Nat) (y_n : Int32) (y_sets : Int32) (y_otherMany : Int32) (y_above : Int64) (y_below : Int64) (y_by : Int64) (y_list : Nat → Int32) (y_isSeen : Nat → Int32) (p1 : Int32) (rv : Int32 × (Nat → Int32)) (hs : pX10_seenOf y_sets y_list y_isSeen p1 = some rv) : Met l yX10_seenOf wsX10_seenOf ({ frames := 0, cells := 0, slots := 0, locals := 0 }) (sPc [.ref a_y, .int p1] (dC, dI) [(c_y_list, .int), (c_y_isSeen, .boolean)] [(a_y, .inr (10, [.int y_n, .ref a_y_list, .int y_sets, .ref a_y_others, .int y_otherMany, .ref a_y_costs, .long y_above, .long y_below, .ref a_y_table, .long y_by, .ref a_y_basis, .ref a_y_isSeen, .ref a_y_colour, .ref a_y_rest, .ref a_y_makes, .ref a_y_worst])), (a_y_list, .inl (c_y_list, 16, .inl y_list)), (a_y_isSeen, .inl (c_y_isSeen, 1024, .inl y_isSeen))] sz) (va_Qi (fun (r : Int32) (_ : Unit) => r = rv.1) (sB (dC, dI) [(c_y_list, .int), (c_y_isSeen, .boolean)] (va_A [(a_y, .inr (10, [.int y_n, .ref a_y_list, .int y_sets, .ref a_y_others, .int y_otherMany, .ref a_y_costs, .long y_above, .long y_below, .ref a_y_table, .long y_by, .ref a_y_basis, .ref a_y_isSeen, .ref a_y_colour, .ref a_y_rest, .ref a_y_makes, .ref a_y_worst])), (a_y_list, .inl (c_y_list, 16, .inl y_list)), (a_y_isSeen, .inl (c_y_isSeen, 1024, .inl y_isSeen))] sz) [(a_y, .inr (10, [.int y_n, .ref a_y_list, .int y_sets, .ref a_y_others, .int y_otherMany, .ref a_y_costs, .long y_above, .long y_below, .ref a_y_table, .long y_by, .ref a_y_basis, .ref a_y_isSeen, .ref a_y_colour, .ref a_y_rest, .ref a_y_makes, .ref a_y_worst])), (a_y_list, .inl (c_y_list, 16, .inl y_list)), (a_y_isSeen, .inl (c_y_isSeen, 1024, .inl rv.2))]) (va_A [(a_y, .inr (10, [.int y_n, .ref a_y_list, .int y_sets, .ref a_y_others, .int y_otherMany, .ref a_y_costs, .long y_above, .long y_below, .ref a_y_table, .long y_by, .ref a_y_basis, .ref a_y_isSeen, .ref a_y_colour, .ref a_y_rest, .ref a_y_makes, .ref a_y_worst])), (a_y_list, .inl (c_y_list, 16, .inl y_list)), (a_y_isSeen, .inl (c_y_isSeen, 1024, .inl y_isSeen))] sz)) 0 0 (va_A [(a_y, .inr (10, [.int y_n, .ref a_y_list, .int y_sets, .ref a_y_others, .int y_otherMany, .ref a_y_costs, .long y_above, .long y_below, .ref a_y_table, .long y_by, .ref a_y_basis, .ref a_y_isSeen, .ref a_y_colour, .ref a_y_rest, .ref a_y_makes, .ref a_y_worst])), (a_y_list, .inl (c_y_list, 16, .inl y_list)), (a_y_isSeen, .inl (c_y_isSeen, 1024, .inl y_isSeen))] sz) := by
  refine Met.ofW (cc := cX10_seenOf) (maxL := 4) (ret := (some .int)) (by decide) rfl ?_
  intro p e s m args below meth c s₁ B hml hv
  obtain ⟨rfl, hsz, hP, hK, hD0, hN⟩ := hv
  have hx := B.exec
  have hb := B.bytes
  have hr := B.returns
  have hts := atoms_spec (ws := wsX10_seenOf) B.pre
  have hown : s.vm.findClass RX10 = some m.cls := findClass_of_methodNamed B.named
  have hlocks := B.notSynchronized
  subst hsz
  have hD := hD0.self (sz := s.heap.size)
  generalize hAe : va_A [(a_y, .inr (10, [.int y_n, .ref a_y_list, .int y_sets, .ref a_y_others, .int y_otherMany, .ref a_y_costs, .long y_above, .long y_below, .ref a_y_table, .long y_by, .ref a_y_basis, .ref a_y_isSeen, .ref a_y_colour, .ref a_y_rest, .ref a_y_makes, .ref a_y_worst])), (a_y_list, .inl (c_y_list, 16, .inl y_list)), (a_y_isSeen, .inl (c_y_isSeen, 1024, .inl y_isSeen))] s.heap.size = A at hD hN ⊢
  have hA : ∀ q : Nat, s.heap.size ≤ q → A q := fun q h => by rw [← hAe]; exact Or.inr h
  have hS : va_S A s.heap s.heap [] := va_S.rf
  have hP : va_P (dC, dI) vwCl [(a_y, .inr (10, [.int y_n, .ref a_y_list, .int y_sets, .ref a_y_others, .int y_otherMany, .ref a_y_costs, .long y_above, .long y_below, .ref a_y_table, .long y_by, .ref a_y_basis, .ref a_y_isSeen, .ref a_y_colour, .ref a_y_rest, .ref a_y_makes, .ref a_y_worst])), (a_y_list, .inl (c_y_list, 16, .inl y_list)), (a_y_isSeen, .inl (c_y_isSeen, 1024, .inl y_isSeen))] s.heap := hP
  have hl := lv_entry ([.ref a_y, .int p1]) (n := 4) (Nat.le_of_ble_eq_true rfl)
  rw [lg_entry_eq]
  generalize (lg_sl ([.ref a_y, .int p1]) ++ List.replicate (4 - (lg_sl ([.ref a_y, .int p1])).length) Slot.unset).toArray = ls at hl ⊢
  have hl : lv_has ls 4 [(0, .ref a_y), (1, .int p1)] := hl
  have hiX10 : ∀ w ∈ wsX100, w ∈ wsX10_seenOf := fun _ h => List.mem_cons_of_mem _ (List.mem_append_right _ h)
  have hf26 := hts (.fieldLink RX10 26 "MeetSetsModel" "isSeen" "[Z") (t1_ (al_ h1_))
  have hf61 := hts (.fieldLink RX10 61 "MeetSetsModel" "sets" "I") (t1_ (al_ (t1_ h1_)))
  have hf7 := hts (.fieldLink RX10 7 "MeetSetsModel" "list" "[I") (t1_ (al_ (t1_ (t1_ h1_))))
  refine w_abs (fun Z hZv hZw => ?_)
  refine hZv ?_
  obtain ⟨H, hH⟩ : ∃ H, H = s.heap := ⟨_, rfl⟩
  obtain ⟨locs, hlo⟩ : ∃ L : List Loc, L = [] := ⟨_, rfl⟩
  rw [← hlo, ← hH]
  have hS : va_S A s.heap H locs := by rw [hlo, hH]; exact hS
  have hP : va_P (dC, dI) vwCl [(a_y, .inr (10, [.int y_n, .ref a_y_list, .int y_sets, .ref a_y_others, .int y_otherMany, .ref a_y_costs, .long y_above, .long y_below, .ref a_y_table, .long y_by, .ref a_y_basis, .ref a_y_isSeen, .ref a_y_colour, .ref a_y_rest, .ref a_y_makes, .ref a_y_worst])), (a_y_list, .inl (c_y_list, 16, .inl y_list)), (a_y_isSeen, .inl (c_y_isSeen, 1024, .inl y_isSeen))] H := by rw [hH]; exact hP
  clear hH hlo
  unfold pX10_seenOf at hs
  refine lv_iconst (v := 0) hx hb dX10_seenOf_0 (by decide) ?_
  refine lv_istore_n (lv' := [(2, .int 0), (0, .ref a_y), (1, .int p1)]) hx hb dX10_seenOf_1 rfl hl (by decide) rfl (fun ls hl => ?_)
  obtain ⟨e2, he2, hs⟩ := bd_s hs
  have hX2 : ∀ (H : Heap) (locs : List Loc) (ls : Array Slot), va_P (dC, dI) vwCl [(a_y, .inr (10, [.int y_n, .ref a_y_list, .int y_sets, .ref a_y_others, .int y_otherMany, .ref a_y_costs, .long y_above, .long y_below, .ref a_y_table, .long y_by, .ref a_y_basis, .ref a_y_isSeen, .ref a_y_colour, .ref a_y_rest, .ref a_y_makes, .ref a_y_worst])), (a_y_list, .inl (c_y_list, 16, .inl y_list)), (a_y_isSeen, .inl (c_y_isSeen, 1024, .inl e2))] H → va_D A [(a_y, .inr (10, [.int y_n, .ref a_y_list, .int y_sets, .ref a_y_others, .int y_otherMany, .ref a_y_costs, .long y_above, .long y_below, .ref a_y_table, .long y_by, .ref a_y_basis, .ref a_y_isSeen, .ref a_y_colour, .ref a_y_rest, .ref a_y_makes, .ref a_y_worst])), (a_y_list, .inl (c_y_list, 16, .inl y_list)), (a_y_isSeen, .inl (c_y_isSeen, 1024, .inl e2))] → va_S A s.heap H locs → lv_has ls 4 [(0, .ref a_y), (1, .int p1)] → Z H locs 0 0 (F0 m 22 ls []) := by
    intro H locs ls hP hD hS hl
    refine hZv ?_
    refine lv_iconst (v := 0) hx hb dX10_seenOf_22 (by decide) ?_
    refine lv_istore_n (lv' := [(2, .int 0), (0, .ref a_y), (1, .int p1)]) hx hb dX10_seenOf_23 rfl hl (by decide) rfl (fun ls hl => ?_)
    refine lv_iconst (v := 0) hx hb dX10_seenOf_24 (by decide) ?_
    refine lv_istore_n (lv' := [(3, .int 0), (2, .int 0), (0, .ref a_y), (1, .int p1)]) hx hb dX10_seenOf_25 rfl hl (by decide) rfl (fun ls hl => ?_)
    obtain ⟨e26, he26, hs⟩ := bd_s hs
    have hX26 : ∀ (H : Heap) (locs : List Loc) (ls : Array Slot), va_P (dC, dI) vwCl [(a_y, .inr (10, [.int y_n, .ref a_y_list, .int y_sets, .ref a_y_others, .int y_otherMany, .ref a_y_costs, .long y_above, .long y_below, .ref a_y_table, .long y_by, .ref a_y_basis, .ref a_y_isSeen, .ref a_y_colour, .ref a_y_rest, .ref a_y_makes, .ref a_y_worst])), (a_y_list, .inl (c_y_list, 16, .inl y_list)), (a_y_isSeen, .inl (c_y_isSeen, 1024, .inl e26.2))] H → va_D A [(a_y, .inr (10, [.int y_n, .ref a_y_list, .int y_sets, .ref a_y_others, .int y_otherMany, .ref a_y_costs, .long y_above, .long y_below, .ref a_y_table, .long y_by, .ref a_y_basis, .ref a_y_isSeen, .ref a_y_colour, .ref a_y_rest, .ref a_y_makes, .ref a_y_worst])), (a_y_list, .inl (c_y_list, 16, .inl y_list)), (a_y_isSeen, .inl (c_y_isSeen, 1024, .inl e26.2))] → va_S A s.heap H locs → lv_has ls 4 [(2, .int e26.1)] → Z H locs 0 0 (F0 m 78 ls []) := by
      intro H locs ls hP hD hS hl
      refine hZv ?_
      refine lv_iload_n hx hb dX10_seenOf_78 rfl (lv_at hl 0 rfl) ?_
      replace hs := Option.some.inj hs
      subst hs
      exact W.iret (v := e26.1) hx hb hr (fun t ht hW => ⟨⟨e26.1, (), rfl, rfl, by rw [ht]; exact hP, va_K.moved hW.alike hK, hD⟩, hS.F ht⟩) hS.2.2 dX10_seenOf_79
    clear hs
    have hL26 : ∀ (n : Nat) (s26 : Int32 × Int32 × (Nat → Int32)) (H : Heap) (locs : List Loc) (ls : Array Slot), itr (pX10_seenOf_L26 y_sets y_list p1) n s26 = some e26 → va_P (dC, dI) vwCl [(a_y, .inr (10, [.int y_n, .ref a_y_list, .int y_sets, .ref a_y_others, .int y_otherMany, .ref a_y_costs, .long y_above, .long y_below, .ref a_y_table, .long y_by, .ref a_y_basis, .ref a_y_isSeen, .ref a_y_colour, .ref a_y_rest, .ref a_y_makes, .ref a_y_worst])), (a_y_list, .inl (c_y_list, 16, .inl y_list)), (a_y_isSeen, .inl (c_y_isSeen, 1024, .inl s26.2.2))] H → va_D A [(a_y, .inr (10, [.int y_n, .ref a_y_list, .int y_sets, .ref a_y_others, .int y_otherMany, .ref a_y_costs, .long y_above, .long y_below, .ref a_y_table, .long y_by, .ref a_y_basis, .ref a_y_isSeen, .ref a_y_colour, .ref a_y_rest, .ref a_y_makes, .ref a_y_worst])), (a_y_list, .inl (c_y_list, 16, .inl y_list)), (a_y_isSeen, .inl (c_y_isSeen, 1024, .inl s26.2.2))] → va_S A s.heap H locs → lv_has ls 4 [(0, .ref a_y), (1, .int p1), (2, .int s26.1), (3, .int s26.2.1)] → Z H locs 0 0 (F0 m 26 ls []) := by
      intro n
      induction n with
      | zero =>
        intro s26 H locs ls hn
        exact (itr_0 hn).elim
      | succ n ih =>
        intro s26 H locs ls hn hP hD hS hl
        obtain ⟨y3, hs, hn⟩ := itr_s hn
        unfold pX10_seenOf_L26 at hs
        refine hZv ?_
        refine lv_iload_n hx hb dX10_seenOf_26 rfl (lv_at hl 3 rfl) ?_
        refine lv_aload_n hx hb dX10_seenOf_27 rfl (lv_at hl 0 rfl) ?_
        refine va_get (D := (dC, dI)) (ci := 10) (v := .int y_sets) (C := RX10) (T := TX10) (N := 16) hx hb hts hiX10 hown hK hP 0 rfl rfl 2 (by decide) hf61 (fun _ h9 => h9) rfl dX10_seenOf_28 ?_
        refine lv_icmp_ge (tgt := 78) hx hb dX10_seenOf_31 (by decide) (fun hc => ?_) (fun hc => ?_)
        · replace hs := it_t hc hs
          replace hs := Option.some.inj hs
          subst hs
          obtain rfl : (s26.1, s26.2.2) = e26 := hn
          exact hZw (hX26 H locs ls hP hD hS (lv_sub hl [2] rfl))
        · replace hs := it_f hc hs
          refine lv_iload_n hx hb dX10_seenOf_34 rfl (lv_at hl 2 rfl) ?_
          refine lv_aload_n hx hb dX10_seenOf_35 rfl (lv_at hl 0 rfl) ?_
          refine va_get (D := (dC, dI)) (ci := 10) (v := .ref a_y_isSeen) (C := RX10) (T := TX10) (N := 16) hx hb hts hiX10 hown hK hP 0 rfl rfl 11 (by decide) hf26 (fun _ h9 => h9) rfl dX10_seenOf_36 ?_
          refine lv_aload_n hx hb dX10_seenOf_39 rfl (lv_at hl 0 rfl) ?_
          refine va_get (D := (dC, dI)) (ci := 10) (v := .ref a_y_list) (C := RX10) (T := TX10) (N := 16) hx hb hts hiX10 hown hK hP 0 rfl rfl 1 (by decide) hf7 (fun _ h9 => h9) rfl dX10_seenOf_40 ?_
          refine lv_iload_n hx hb dX10_seenOf_43 rfl (lv_at hl 3 rfl) ?_
          obtain ⟨hg4, hs⟩ := gd_s hs
          refine va_iald hx hb hK hP 1 0 rfl rfl hg4 dX10_seenOf_44 ?_
          refine lv_iload_n hx hb dX10_seenOf_45 rfl (lv_at hl 1 rfl) ?_
          refine lv_iand hx hb dX10_seenOf_46 ?_
          obtain ⟨hg5, hs⟩ := gd_s hs
          refine va_zald hx hb hK hP 2 1 rfl rfl hg5 dX10_seenOf_47 ?_
          obtain ⟨t56, hq56, hs⟩ := bd_s hs
          have hJ56 : ∀ (H : Heap) (locs : List Loc) (ls : Array Slot), va_P (dC, dI) vwCl [(a_y, .inr (10, [.int y_n, .ref a_y_list, .int y_sets, .ref a_y_others, .int y_otherMany, .ref a_y_costs, .long y_above, .long y_below, .ref a_y_table, .long y_by, .ref a_y_basis, .ref a_y_isSeen, .ref a_y_colour, .ref a_y_rest, .ref a_y_makes, .ref a_y_worst])), (a_y_list, .inl (c_y_list, 16, .inl y_list)), (a_y_isSeen, .inl (c_y_isSeen, 1024, .inl s26.2.2))] H → va_D A [(a_y, .inr (10, [.int y_n, .ref a_y_list, .int y_sets, .ref a_y_others, .int y_otherMany, .ref a_y_costs, .long y_above, .long y_below, .ref a_y_table, .long y_by, .ref a_y_basis, .ref a_y_isSeen, .ref a_y_colour, .ref a_y_rest, .ref a_y_makes, .ref a_y_worst])), (a_y_list, .inl (c_y_list, 16, .inl y_list)), (a_y_isSeen, .inl (c_y_isSeen, 1024, .inl s26.2.2))] → va_S A s.heap H locs → lv_has ls 4 [(0, .ref a_y), (1, .int p1), (3, .int s26.2.1)] → Z H locs 0 0 (F0 m 56 ls [.int t56, .int s26.1]) := by
            intro H locs ls hP hD hS hl
            refine hZv ?_
            refine lv_iadd hx hb dX10_seenOf_56 ?_
            refine lv_istore_n (lv' := [(2, .int (s26.1 + t56)), (0, .ref a_y), (1, .int p1), (3, .int s26.2.1)]) hx hb dX10_seenOf_57 rfl hl (by decide) rfl (fun ls hl => ?_)
            refine lv_aload_n hx hb dX10_seenOf_58 rfl (lv_at hl 1 rfl) ?_
            refine va_get (D := (dC, dI)) (ci := 10) (v := .ref a_y_isSeen) (C := RX10) (T := TX10) (N := 16) hx hb hts hiX10 hown hK hP 0 rfl rfl 11 (by decide) hf26 (fun _ h9 => h9) rfl dX10_seenOf_59 ?_
            refine lv_aload_n hx hb dX10_seenOf_62 rfl (lv_at hl 1 rfl) ?_
            refine va_get (D := (dC, dI)) (ci := 10) (v := .ref a_y_list) (C := RX10) (T := TX10) (N := 16) hx hb hts hiX10 hown hK hP 0 rfl rfl 1 (by decide) hf7 (fun _ h9 => h9) rfl dX10_seenOf_63 ?_
            refine lv_iload_n hx hb dX10_seenOf_66 rfl (lv_at hl 3 rfl) ?_
            obtain ⟨hg6, hs⟩ := gd_s hs
            refine va_iald hx hb hK hP 1 0 rfl rfl hg6 dX10_seenOf_67 ?_
            refine lv_iload_n hx hb dX10_seenOf_68 rfl (lv_at hl 2 rfl) ?_
            refine lv_iand hx hb dX10_seenOf_69 ?_
            refine lv_iconst (v := 1) hx hb dX10_seenOf_70 (by decide) ?_
            obtain ⟨hg7, hs⟩ := gd_s hs
            refine va_zast hx hb hK hP hD hS 2 1 rfl rfl hg7 dX10_seenOf_71 (fun H locs hP hD hS => ?_)
            have hP : va_P (dC, dI) vwCl [(a_y, .inr (10, [.int y_n, .ref a_y_list, .int y_sets, .ref a_y_others, .int y_otherMany, .ref a_y_costs, .long y_above, .long y_below, .ref a_y_table, .long y_by, .ref a_y_basis, .ref a_y_isSeen, .ref a_y_colour, .ref a_y_rest, .ref a_y_makes, .ref a_y_worst])), (a_y_list, .inl (c_y_list, 16, .inl y_list)), (a_y_isSeen, .inl (c_y_isSeen, 1024, .inl (upd s26.2.2 ((y_list s26.2.1.toNatClampNeg) &&& p1).toNatClampNeg (vp_nar .boolean 1))))] H := hP
            have hD : va_D A [(a_y, .inr (10, [.int y_n, .ref a_y_list, .int y_sets, .ref a_y_others, .int y_otherMany, .ref a_y_costs, .long y_above, .long y_below, .ref a_y_table, .long y_by, .ref a_y_basis, .ref a_y_isSeen, .ref a_y_colour, .ref a_y_rest, .ref a_y_makes, .ref a_y_worst])), (a_y_list, .inl (c_y_list, 16, .inl y_list)), (a_y_isSeen, .inl (c_y_isSeen, 1024, .inl (upd s26.2.2 ((y_list s26.2.1.toNatClampNeg) &&& p1).toNatClampNeg (vp_nar .boolean 1))))] := hD
            refine lv_iinc (v := s26.2.1 + 1) (lv' := [(3, .int (s26.2.1 + 1)), (2, .int (s26.1 + t56)), (0, .ref a_y), (1, .int p1)]) hx hb dX10_seenOf_72 hl (k := 3) rfl (by rfl) (by decide) rfl (fun ls hl => ?_)
            refine lv_goto (tgt := 26) hx hb dX10_seenOf_75 (by decide) ?_
            replace hs := Option.some.inj hs
            subst hs
            exact hZw (ih (s26.1 + t56, s26.2.1 + 1, upd s26.2.2 ((y_list s26.2.1.toNatClampNeg) &&& p1).toNatClampNeg (vp_nar .boolean 1)) H locs ls hn hP hD hS (lv_sub hl [2, 3, 1, 0] rfl))
          clear hs
          have hs := hq56
          refine lv_if_eq (tgt := 55) hx hb dX10_seenOf_48 (by decide) (fun hc => ?_) (fun hc => ?_)
          · replace hs := it_t hc hs
            refine lv_iconst (v := 1) hx hb dX10_seenOf_55 (by decide) ?_
            replace hs := Option.some.inj hs
            subst hs
            exact hZw (hJ56 H locs ls hP hD hS (lv_sub hl [0, 1, 3] rfl))
          · replace hs := it_f hc hs
            refine lv_iconst (v := 0) hx hb dX10_seenOf_51 (by decide) ?_
            refine lv_goto (tgt := 56) hx hb dX10_seenOf_52 (by decide) ?_
            replace hs := Option.some.inj hs
            subst hs
            exact hZw (hJ56 H locs ls hP hD hS (lv_sub hl [0, 1, 3] rfl))
    obtain ⟨n26, hn26⟩ := lp_ex he26
    exact hZw (hL26 n26 (0, 0, e2) H locs ls hn26 hP hD hS (lv_sub hl [2, 3, 1, 0] rfl))
  clear hs
  have hL2 : ∀ (n : Nat) (s2 : Int32 × (Nat → Int32)) (H : Heap) (locs : List Loc) (ls : Array Slot), itr (pX10_seenOf_L2) n s2 = some e2 → va_P (dC, dI) vwCl [(a_y, .inr (10, [.int y_n, .ref a_y_list, .int y_sets, .ref a_y_others, .int y_otherMany, .ref a_y_costs, .long y_above, .long y_below, .ref a_y_table, .long y_by, .ref a_y_basis, .ref a_y_isSeen, .ref a_y_colour, .ref a_y_rest, .ref a_y_makes, .ref a_y_worst])), (a_y_list, .inl (c_y_list, 16, .inl y_list)), (a_y_isSeen, .inl (c_y_isSeen, 1024, .inl s2.2))] H → va_D A [(a_y, .inr (10, [.int y_n, .ref a_y_list, .int y_sets, .ref a_y_others, .int y_otherMany, .ref a_y_costs, .long y_above, .long y_below, .ref a_y_table, .long y_by, .ref a_y_basis, .ref a_y_isSeen, .ref a_y_colour, .ref a_y_rest, .ref a_y_makes, .ref a_y_worst])), (a_y_list, .inl (c_y_list, 16, .inl y_list)), (a_y_isSeen, .inl (c_y_isSeen, 1024, .inl s2.2))] → va_S A s.heap H locs → lv_has ls 4 [(0, .ref a_y), (1, .int p1), (2, .int s2.1)] → Z H locs 0 0 (F0 m 2 ls []) := by
    intro n
    induction n with
    | zero =>
      intro s2 H locs ls hn
      exact (itr_0 hn).elim
    | succ n ih =>
      intro s2 H locs ls hn hP hD hS hl
      obtain ⟨y1, hs, hn⟩ := itr_s hn
      unfold pX10_seenOf_L2 at hs
      refine hZv ?_
      refine lv_iload_n hx hb dX10_seenOf_2 rfl (lv_at hl 2 rfl) ?_
      refine lv_sipush (v := 1024) hx hb dX10_seenOf_3 (by decide) ?_
      refine lv_icmp_ge (tgt := 22) hx hb dX10_seenOf_6 (by decide) (fun hc => ?_) (fun hc => ?_)
      · replace hs := it_t hc hs
        replace hs := Option.some.inj hs
        subst hs
        obtain rfl : s2.2 = e2 := hn
        exact hZw (hX2 H locs ls hP hD hS (lv_sub hl [0, 1] rfl))
      · replace hs := it_f hc hs
        refine lv_aload_n hx hb dX10_seenOf_9 rfl (lv_at hl 0 rfl) ?_
        refine va_get (D := (dC, dI)) (ci := 10) (v := .ref a_y_isSeen) (C := RX10) (T := TX10) (N := 16) hx hb hts hiX10 hown hK hP 0 rfl rfl 11 (by decide) hf26 (fun _ h9 => h9) rfl dX10_seenOf_10 ?_
        refine lv_iload_n hx hb dX10_seenOf_13 rfl (lv_at hl 2 rfl) ?_
        refine lv_iconst (v := 0) hx hb dX10_seenOf_14 (by decide) ?_
        obtain ⟨hg2, hs⟩ := gd_s hs
        refine va_zast hx hb hK hP hD hS 2 1 rfl rfl hg2 dX10_seenOf_15 (fun H locs hP hD hS => ?_)
        have hP : va_P (dC, dI) vwCl [(a_y, .inr (10, [.int y_n, .ref a_y_list, .int y_sets, .ref a_y_others, .int y_otherMany, .ref a_y_costs, .long y_above, .long y_below, .ref a_y_table, .long y_by, .ref a_y_basis, .ref a_y_isSeen, .ref a_y_colour, .ref a_y_rest, .ref a_y_makes, .ref a_y_worst])), (a_y_list, .inl (c_y_list, 16, .inl y_list)), (a_y_isSeen, .inl (c_y_isSeen, 1024, .inl (upd s2.2 s2.1.toNatClampNeg (vp_nar .boolean 0))))] H := hP
        have hD : va_D A [(a_y, .inr (10, [.int y_n, .ref a_y_list, .int y_sets, .ref a_y_others, .int y_otherMany, .ref a_y_costs, .long y_above, .long y_below, .ref a_y_table, .long y_by, .ref a_y_basis, .ref a_y_isSeen, .ref a_y_colour, .ref a_y_rest, .ref a_y_makes, .ref a_y_worst])), (a_y_list, .inl (c_y_list, 16, .inl y_list)), (a_y_isSeen, .inl (c_y_isSeen, 1024, .inl (upd s2.2 s2.1.toNatClampNeg (vp_nar .boolean 0))))] := hD
        refine lv_iinc (v := s2.1 + 1) (lv' := [(2, .int (s2.1 + 1)), (0, .ref a_y), (1, .int p1)]) hx hb dX10_seenOf_16 hl (k := 2) rfl (by rfl) (by decide) rfl (fun ls hl => ?_)
        refine lv_goto (tgt := 2) hx hb dX10_seenOf_19 (by decide) ?_
        replace hs := Option.some.inj hs
        subst hs
        exact hZw (ih (s2.1 + 1, upd s2.2 s2.1.toNatClampNeg (vp_nar .boolean 0)) H locs ls hn hP hD hS (lv_sub hl [1, 2, 0] rfl))
  obtain ⟨n2, hn2⟩ := lp_ex he2
  exact hZw (hL2 n2 (0, y_isSeen) H locs ls hn2 hP hD hS (lv_sub hl [1, 2, 0] rfl))
noncomputable def pX10_seen (y_n : Int32) (y_sets : Int32) (y_list : Nat → Int32) (y_isSeen : Nat → Int32) (p1 : Int32) : Option (Int32 × (Nat → Int32)) :=
  Option.bind (pX10_isPart y_n p1) (fun r1 => if r1 = 0 then (some ((-2), y_isSeen)) else (Option.bind (pX10_seenOf y_sets y_list y_isSeen p1) (fun r2 => some (r2.1, r2.2))))
set_option maxHeartbeats 4000000 in
set_option maxRecDepth 100000 in
theorem c_X10_seen (l : Launch) (dC : Nat → ClassId) (dI : Nat → Nat → Nat) (a_y : Nat) (a_y_list : Nat) (a_y_others : Nat) (a_y_costs : Nat) (a_y_table : Nat) (a_y_basis : Nat) (a_y_isSeen : Nat) (a_y_colour : Nat) (a_y_rest : Nat) (a_y_makes : Nat) (a_y_worst : Nat) (c_y_list c_y_isSeen : ClassId) (sz : Nat) (y_n : Int32) (y_sets : Int32) (y_otherMany : Int32) (y_above : Int64) (y_below : Int64) (y_by : Int64) (y_list : Nat → Int32) (y_isSeen : Nat → Int32) (p1 : Int32) (rv : Int32 × (Nat → Int32)) (hs : pX10_seen y_n y_sets y_list y_isSeen p1 = some rv) : Met l yX10_seen wsX10_seen ({ frames := 2, cells := 0, slots := 0, locals := 46 }) (sPc [.ref a_y, .int p1] (dC, dI) [(c_y_list, .int), (c_y_isSeen, .boolean)] [(a_y, .inr (10, [.int y_n, .ref a_y_list, .int y_sets, .ref a_y_others, .int y_otherMany, .ref a_y_costs, .long y_above, .long y_below, .ref a_y_table, .long y_by, .ref a_y_basis, .ref a_y_isSeen, .ref a_y_colour, .ref a_y_rest, .ref a_y_makes, .ref a_y_worst])), (a_y_list, .inl (c_y_list, 16, .inl y_list)), (a_y_isSeen, .inl (c_y_isSeen, 1024, .inl y_isSeen))] sz) (va_Qi (fun (r : Int32) (_ : Unit) => r = rv.1) (sB (dC, dI) [(c_y_list, .int), (c_y_isSeen, .boolean)] (va_A [(a_y, .inr (10, [.int y_n, .ref a_y_list, .int y_sets, .ref a_y_others, .int y_otherMany, .ref a_y_costs, .long y_above, .long y_below, .ref a_y_table, .long y_by, .ref a_y_basis, .ref a_y_isSeen, .ref a_y_colour, .ref a_y_rest, .ref a_y_makes, .ref a_y_worst])), (a_y_list, .inl (c_y_list, 16, .inl y_list)), (a_y_isSeen, .inl (c_y_isSeen, 1024, .inl y_isSeen))] sz) [(a_y, .inr (10, [.int y_n, .ref a_y_list, .int y_sets, .ref a_y_others, .int y_otherMany, .ref a_y_costs, .long y_above, .long y_below, .ref a_y_table, .long y_by, .ref a_y_basis, .ref a_y_isSeen, .ref a_y_colour, .ref a_y_rest, .ref a_y_makes, .ref a_y_worst])), (a_y_list, .inl (c_y_list, 16, .inl y_list)), (a_y_isSeen, .inl (c_y_isSeen, 1024, .inl rv.2))]) (va_A [(a_y, .inr (10, [.int y_n, .ref a_y_list, .int y_sets, .ref a_y_others, .int y_otherMany, .ref a_y_costs, .long y_above, .long y_below, .ref a_y_table, .long y_by, .ref a_y_basis, .ref a_y_isSeen, .ref a_y_colour, .ref a_y_rest, .ref a_y_makes, .ref a_y_worst])), (a_y_list, .inl (c_y_list, 16, .inl y_list)), (a_y_isSeen, .inl (c_y_isSeen, 1024, .inl y_isSeen))] sz)) 0 0 (va_A [(a_y, .inr (10, [.int y_n, .ref a_y_list, .int y_sets, .ref a_y_others, .int y_otherMany, .ref a_y_costs, .long y_above, .long y_below, .ref a_y_table, .long y_by, .ref a_y_basis, .ref a_y_isSeen, .ref a_y_colour, .ref a_y_rest, .ref a_y_makes, .ref a_y_worst])), (a_y_list, .inl (c_y_list, 16, .inl y_list)), (a_y_isSeen, .inl (c_y_isSeen, 1024, .inl y_isSeen))] sz) := by
  refine Met.ofW (cc := cX10_seen) (maxL := 2) (ret := (some .int)) (by decide) rfl ?_
  intro p e s m args below meth c s₁ B hml hv
  obtain ⟨rfl, hsz, hP, hK, hD0, hN⟩ := hv
  have hx := B.exec
  have hb := B.bytes
  have hr := B.returns
  have hts := atoms_spec (ws := wsX10_seen) B.pre
  have hown : s.vm.findClass RX10 = some m.cls := findClass_of_methodNamed B.named
  have hlocks := B.notSynchronized
  subst hsz
  have hD := hD0.self (sz := s.heap.size)
  generalize hAe : va_A [(a_y, .inr (10, [.int y_n, .ref a_y_list, .int y_sets, .ref a_y_others, .int y_otherMany, .ref a_y_costs, .long y_above, .long y_below, .ref a_y_table, .long y_by, .ref a_y_basis, .ref a_y_isSeen, .ref a_y_colour, .ref a_y_rest, .ref a_y_makes, .ref a_y_worst])), (a_y_list, .inl (c_y_list, 16, .inl y_list)), (a_y_isSeen, .inl (c_y_isSeen, 1024, .inl y_isSeen))] s.heap.size = A at hD hN ⊢
  have hA : ∀ q : Nat, s.heap.size ≤ q → A q := fun q h => by rw [← hAe]; exact Or.inr h
  have hS : va_S A s.heap s.heap [] := va_S.rf
  have hP : va_P (dC, dI) vwCl [(a_y, .inr (10, [.int y_n, .ref a_y_list, .int y_sets, .ref a_y_others, .int y_otherMany, .ref a_y_costs, .long y_above, .long y_below, .ref a_y_table, .long y_by, .ref a_y_basis, .ref a_y_isSeen, .ref a_y_colour, .ref a_y_rest, .ref a_y_makes, .ref a_y_worst])), (a_y_list, .inl (c_y_list, 16, .inl y_list)), (a_y_isSeen, .inl (c_y_isSeen, 1024, .inl y_isSeen))] s.heap := hP
  have hl := lv_entry ([.ref a_y, .int p1]) (n := 2) (Nat.le_of_ble_eq_true rfl)
  rw [lg_entry_eq]
  generalize (lg_sl ([.ref a_y, .int p1]) ++ List.replicate (2 - (lg_sl ([.ref a_y, .int p1])).length) Slot.unset).toArray = ls at hl ⊢
  have hl : lv_has ls 2 [(0, .ref a_y), (1, .int p1)] := hl
  refine w_abs (fun Z hZv hZw => ?_)
  refine hZv ?_
  obtain ⟨H, hH⟩ : ∃ H, H = s.heap := ⟨_, rfl⟩
  obtain ⟨locs, hlo⟩ : ∃ L : List Loc, L = [] := ⟨_, rfl⟩
  rw [← hlo, ← hH]
  have hS : va_S A s.heap H locs := by rw [hlo, hH]; exact hS
  have hP : va_P (dC, dI) vwCl [(a_y, .inr (10, [.int y_n, .ref a_y_list, .int y_sets, .ref a_y_others, .int y_otherMany, .ref a_y_costs, .long y_above, .long y_below, .ref a_y_table, .long y_by, .ref a_y_basis, .ref a_y_isSeen, .ref a_y_colour, .ref a_y_rest, .ref a_y_makes, .ref a_y_worst])), (a_y_list, .inl (c_y_list, 16, .inl y_list)), (a_y_isSeen, .inl (c_y_isSeen, 1024, .inl y_isSeen))] H := by rw [hH]; exact hP
  clear hH hlo
  unfold pX10_seen at hs
  refine lv_aload_n hx hb dX10_seen_0 rfl (lv_at hl 0 rfl) ?_
  refine lv_iload_n hx hb dX10_seen_1 rfl (lv_at hl 1 rfl) ?_
  obtain ⟨r1, hr1, hs⟩ := bd_s hs
  refine kc_i (isC := [0]) (isR := [1, 2]) (pm := [2, 0, 1]) (wr := [(a_y_list, .inl (c_y_list, 16, .inl y_list)), (a_y_isSeen, .inl (c_y_isSeen, 1024, .inl y_isSeen))]) (w1 := [(a_y, .inr (10, [.int y_n, .ref a_y_list, .int y_sets, .ref a_y_others, .int y_otherMany, .ref a_y_costs, .long y_above, .long y_below, .ref a_y_table, .long y_by, .ref a_y_basis, .ref a_y_isSeen, .ref a_y_colour, .ref a_y_rest, .ref a_y_makes, .ref a_y_worst]))]) (w2 := [(a_y, .inr (10, [.int y_n, .ref a_y_list, .int y_sets, .ref a_y_others, .int y_otherMany, .ref a_y_costs, .long y_above, .long y_below, .ref a_y_table, .long y_by, .ref a_y_basis, .ref a_y_isSeen, .ref a_y_colour, .ref a_y_rest, .ref a_y_makes, .ref a_y_worst])), (a_y_list, .inl (c_y_list, 16, .inl y_list)), (a_y_isSeen, .inl (c_y_isSeen, 1024, .inl y_isSeen))]) (va_runV (As := [.int p1]) (rest := []) ⟨hx, hb, hml, hown, hts⟩ (c_X10_isPart l dC dI a_y a_y_list a_y_others a_y_costs a_y_table a_y_basis a_y_isSeen a_y_colour a_y_rest a_y_makes a_y_worst H.size y_n y_sets y_otherMany y_above y_below y_by p1 r1 hr1) (cwV 1 hts gX10_seen_X10_isPart rfl rfl rfl (by decide +kernel) ⟨Nat.le_of_ble_eq_true rfl, Nat.le_of_ble_eq_true rfl⟩) (kp_V hK hP hD hS hA hN (isC := [0]) (isT := []) (wc := [(a_y, .inr (10, [.int y_n, .ref a_y_list, .int y_sets, .ref a_y_others, .int y_otherMany, .ref a_y_costs, .long y_above, .long y_below, .ref a_y_table, .long y_by, .ref a_y_basis, .ref a_y_isSeen, .ref a_y_colour, .ref a_y_rest, .ref a_y_makes, .ref a_y_worst]))]) rfl (by decide +kernel) rfl (ci := 10) (q0 := 0) rfl rfl) rfl rfl hl.1 rfl (lv_room (Nat.le_of_ble_eq_true rfl)) dX10_seen_2 ⟨Nat.le_of_ble_eq_true rfl, Nat.le_of_ble_eq_true rfl⟩) hP hD hS hA rfl rfl (by decide +kernel) (by decide +kernel) rfl (by decide +kernel) (fun H locs hP hD hS => ?_)
  refine lv_if_eq (tgt := 16) hx hb dX10_seen_5 (by decide) (fun hc => ?_) (fun hc => ?_)
  · replace hs := it_t hc hs
    refine lv_bipush (v := (-2)) hx hb dX10_seen_16 (by decide) ?_
    replace hs := Option.some.inj hs
    subst hs
    exact W.iret (v := (-2)) hx hb hr (fun t ht hW => ⟨⟨(-2), (), rfl, rfl, by rw [ht]; exact hP, va_K.moved hW.alike hK, hD⟩, hS.F ht⟩) hS.2.2 dX10_seen_18
  · replace hs := it_f hc hs
    refine lv_aload_n hx hb dX10_seen_8 rfl (lv_at hl 0 rfl) ?_
    refine lv_iload_n hx hb dX10_seen_9 rfl (lv_at hl 1 rfl) ?_
    obtain ⟨r2, hr2, hs⟩ := bd_s hs
    refine kc_i (isC := [0, 1, 2]) (isR := []) (pm := [0, 1, 2]) (wr := []) (w1 := [(a_y, .inr (10, [.int y_n, .ref a_y_list, .int y_sets, .ref a_y_others, .int y_otherMany, .ref a_y_costs, .long y_above, .long y_below, .ref a_y_table, .long y_by, .ref a_y_basis, .ref a_y_isSeen, .ref a_y_colour, .ref a_y_rest, .ref a_y_makes, .ref a_y_worst])), (a_y_list, .inl (c_y_list, 16, .inl y_list)), (a_y_isSeen, .inl (c_y_isSeen, 1024, .inl r2.2))]) (w2 := [(a_y, .inr (10, [.int y_n, .ref a_y_list, .int y_sets, .ref a_y_others, .int y_otherMany, .ref a_y_costs, .long y_above, .long y_below, .ref a_y_table, .long y_by, .ref a_y_basis, .ref a_y_isSeen, .ref a_y_colour, .ref a_y_rest, .ref a_y_makes, .ref a_y_worst])), (a_y_list, .inl (c_y_list, 16, .inl y_list)), (a_y_isSeen, .inl (c_y_isSeen, 1024, .inl r2.2))]) (va_runV (As := [.int p1]) (rest := []) ⟨hx, hb, hml, hown, hts⟩ (c_X10_seenOf l dC dI a_y a_y_list a_y_others a_y_costs a_y_table a_y_basis a_y_isSeen a_y_colour a_y_rest a_y_makes a_y_worst c_y_list c_y_isSeen H.size y_n y_sets y_otherMany y_above y_below y_by y_list y_isSeen p1 r2 hr2) (cwV 1 hts gX10_seen_X10_seenOf rfl rfl rfl (by decide +kernel) ⟨Nat.le_of_ble_eq_true rfl, Nat.le_of_ble_eq_true rfl⟩) (kp_V hK hP hD hS hA hN (isC := [0, 1, 2]) (isT := [0, 1]) (wc := [(a_y, .inr (10, [.int y_n, .ref a_y_list, .int y_sets, .ref a_y_others, .int y_otherMany, .ref a_y_costs, .long y_above, .long y_below, .ref a_y_table, .long y_by, .ref a_y_basis, .ref a_y_isSeen, .ref a_y_colour, .ref a_y_rest, .ref a_y_makes, .ref a_y_worst])), (a_y_list, .inl (c_y_list, 16, .inl y_list)), (a_y_isSeen, .inl (c_y_isSeen, 1024, .inl y_isSeen))]) rfl (by decide +kernel) rfl (ci := 10) (q0 := 0) rfl rfl) rfl rfl hl.1 rfl (lv_room (Nat.le_of_ble_eq_true rfl)) dX10_seen_10 ⟨Nat.le_of_ble_eq_true rfl, Nat.le_of_ble_eq_true rfl⟩) hP hD hS hA rfl rfl (by decide +kernel) (by decide +kernel) rfl (by decide +kernel) (fun H locs hP hD hS => ?_)
    refine lv_goto (tgt := 18) hx hb dX10_seen_13 (by decide) ?_
    replace hs := Option.some.inj hs
    subst hs
    exact W.iret (v := r2.1) hx hb hr (fun t ht hW => ⟨⟨r2.1, (), rfl, rfl, by rw [ht]; exact hP, va_K.moved hW.alike hK, hD⟩, hS.F ht⟩) hS.2.2 dX10_seen_18
noncomputable def pX10_dimension_J79_5 (s17 : Int32 × Int32 × (Nat → Int32)) (t79 : Nat → Int32) : Option ((Int32 × Int32 × (Nat → Int32)) ⊕ (Int32 × (Nat → Int32))) :=
  some (Sum.inl (s17.1, s17.2.1 + 1, t79))
noncomputable def pX10_dimension_J45_7 (t45 : Unit) : Option (Int32) :=
  some 1
noncomputable def pX10_dimension_L17 (y_n : Int32) (y_sets : Int32) (y_list : Nat → Int32) (s17 : Int32 × Int32 × (Nat → Int32)) : Option ((Int32 × Int32 × (Nat → Int32)) ⊕ (Int32 × (Nat → Int32))) :=
  Option.bind (pX10_all y_n) (fun r3 => if r3 < s17.2.1 then (some (Sum.inr (s17.1, s17.2.2))) else (Option.bind (pX10_sizeOf s17.2.1) (fun r4 => Option.bind (if s17.1 = (-1) then (pX10_dimension_J45_7 ()) else (Option.bind (pX10_sizeOf s17.1) (fun r8 => if r4 ≤ r8 then (some 0) else (pX10_dimension_J45_7 ()))) : Option (Int32)) (fun t50 => if t50 = 0 then (pX10_dimension_J79_5 s17 s17.2.2) else (if 5 ≤ r4 then (pX10_dimension_J79_5 s17 s17.2.2) else (Option.bind (pX10_seenOf y_sets y_list s17.2.2 s17.2.1) (fun r6 => if r6.1 = (1 <<< (r4 &&& 31)) then (some (Sum.inl (s17.2.1, s17.2.1 + 1, r6.2))) else (pX10_dimension_J79_5 s17 r6.2))))))))
noncomputable def pX10_dimension_J97 (e17 : Int32 × (Nat → Int32)) (t97 : Unit) : Option (Int32 × (Nat → Int32)) :=
  some (e17.1, e17.2)
noncomputable def pX10_dimension (y_n : Int32) (y_sets : Int32) (y_list : Nat → Int32) (y_isSeen : Nat → Int32) (p1 : Int32) : Option (Int32 × (Nat → Int32)) :=
  Option.bind (pX10_in p1.toInt64 0 1) (fun r1 => if r1 = 0 then (some ((-2), y_isSeen)) else (Option.bind (lp (pX10_dimension_L17 y_n y_sets y_list) ((-1), 0, y_isSeen)) (fun e17 => if p1 = 1 then (pX10_dimension_J97 e17 ()) else (if e17.1 = (-1) then (pX10_dimension_J97 e17 ()) else (Option.bind (pX10_sizeOf e17.1) (fun r9 => some (r9, e17.2)))))))
set_option maxHeartbeats 4000000 in
set_option maxRecDepth 100000 in
theorem c_X10_dimension (l : Launch) (dC : Nat → ClassId) (dI : Nat → Nat → Nat) (a_y : Nat) (a_y_list : Nat) (a_y_others : Nat) (a_y_costs : Nat) (a_y_table : Nat) (a_y_basis : Nat) (a_y_isSeen : Nat) (a_y_colour : Nat) (a_y_rest : Nat) (a_y_makes : Nat) (a_y_worst : Nat) (c_y_list c_y_isSeen : ClassId) (sz : Nat) (y_n : Int32) (y_sets : Int32) (y_otherMany : Int32) (y_above : Int64) (y_below : Int64) (y_by : Int64) (y_list : Nat → Int32) (y_isSeen : Nat → Int32) (p1 : Int32) (rv : Int32 × (Nat → Int32)) (hs : pX10_dimension y_n y_sets y_list y_isSeen p1 = some rv) : Met l yX10_dimension wsX10_dimension ({ frames := 1, cells := 0, slots := 0, locals := 25 }) (sPc [.ref a_y, .int p1] (dC, dI) [(c_y_list, .int), (c_y_isSeen, .boolean)] [(a_y, .inr (10, [.int y_n, .ref a_y_list, .int y_sets, .ref a_y_others, .int y_otherMany, .ref a_y_costs, .long y_above, .long y_below, .ref a_y_table, .long y_by, .ref a_y_basis, .ref a_y_isSeen, .ref a_y_colour, .ref a_y_rest, .ref a_y_makes, .ref a_y_worst])), (a_y_list, .inl (c_y_list, 16, .inl y_list)), (a_y_isSeen, .inl (c_y_isSeen, 1024, .inl y_isSeen))] sz) (va_Qi (fun (r : Int32) (_ : Unit) => r = rv.1) (sB (dC, dI) [(c_y_list, .int), (c_y_isSeen, .boolean)] (va_A [(a_y, .inr (10, [.int y_n, .ref a_y_list, .int y_sets, .ref a_y_others, .int y_otherMany, .ref a_y_costs, .long y_above, .long y_below, .ref a_y_table, .long y_by, .ref a_y_basis, .ref a_y_isSeen, .ref a_y_colour, .ref a_y_rest, .ref a_y_makes, .ref a_y_worst])), (a_y_list, .inl (c_y_list, 16, .inl y_list)), (a_y_isSeen, .inl (c_y_isSeen, 1024, .inl y_isSeen))] sz) [(a_y, .inr (10, [.int y_n, .ref a_y_list, .int y_sets, .ref a_y_others, .int y_otherMany, .ref a_y_costs, .long y_above, .long y_below, .ref a_y_table, .long y_by, .ref a_y_basis, .ref a_y_isSeen, .ref a_y_colour, .ref a_y_rest, .ref a_y_makes, .ref a_y_worst])), (a_y_list, .inl (c_y_list, 16, .inl y_list)), (a_y_isSeen, .inl (c_y_isSeen, 1024, .inl rv.2))]) (va_A [(a_y, .inr (10, [.int y_n, .ref a_y_list, .int y_sets, .ref a_y_others, .int y_otherMany, .ref a_y_costs, .long y_above, .long y_below, .ref a_y_table, .long y_by, .ref a_y_basis, .ref a_y_isSeen, .ref a_y_colour, .ref a_y_rest, .ref a_y_makes, .ref a_y_worst])), (a_y_list, .inl (c_y_list, 16, .inl y_list)), (a_y_isSeen, .inl (c_y_isSeen, 1024, .inl y_isSeen))] sz)) 0 0 (va_A [(a_y, .inr (10, [.int y_n, .ref a_y_list, .int y_sets, .ref a_y_others, .int y_otherMany, .ref a_y_costs, .long y_above, .long y_below, .ref a_y_table, .long y_by, .ref a_y_basis, .ref a_y_isSeen, .ref a_y_colour, .ref a_y_rest, .ref a_y_makes, .ref a_y_worst])), (a_y_list, .inl (c_y_list, 16, .inl y_list)), (a_y_isSeen, .inl (c_y_isSeen, 1024, .inl y_isSeen))] sz) := by
  refine Met.ofW (cc := cX10_dimension) (maxL := 6) (ret := (some .int)) (by decide) rfl ?_
  intro p e s m args below meth c s₁ B hml hv
  obtain ⟨rfl, hsz, hP, hK, hD0, hN⟩ := hv
  have hx := B.exec
  have hb := B.bytes
  have hr := B.returns
  have hts := atoms_spec (ws := wsX10_dimension) B.pre
  have hown : s.vm.findClass RX10 = some m.cls := findClass_of_methodNamed B.named
  have hlocks := B.notSynchronized
  subst hsz
  have hD := hD0.self (sz := s.heap.size)
  generalize hAe : va_A [(a_y, .inr (10, [.int y_n, .ref a_y_list, .int y_sets, .ref a_y_others, .int y_otherMany, .ref a_y_costs, .long y_above, .long y_below, .ref a_y_table, .long y_by, .ref a_y_basis, .ref a_y_isSeen, .ref a_y_colour, .ref a_y_rest, .ref a_y_makes, .ref a_y_worst])), (a_y_list, .inl (c_y_list, 16, .inl y_list)), (a_y_isSeen, .inl (c_y_isSeen, 1024, .inl y_isSeen))] s.heap.size = A at hD hN ⊢
  have hA : ∀ q : Nat, s.heap.size ≤ q → A q := fun q h => by rw [← hAe]; exact Or.inr h
  have hS : va_S A s.heap s.heap [] := va_S.rf
  have hP : va_P (dC, dI) vwCl [(a_y, .inr (10, [.int y_n, .ref a_y_list, .int y_sets, .ref a_y_others, .int y_otherMany, .ref a_y_costs, .long y_above, .long y_below, .ref a_y_table, .long y_by, .ref a_y_basis, .ref a_y_isSeen, .ref a_y_colour, .ref a_y_rest, .ref a_y_makes, .ref a_y_worst])), (a_y_list, .inl (c_y_list, 16, .inl y_list)), (a_y_isSeen, .inl (c_y_isSeen, 1024, .inl y_isSeen))] s.heap := hP
  have hl := lv_entry ([.ref a_y, .int p1]) (n := 6) (Nat.le_of_ble_eq_true rfl)
  rw [lg_entry_eq]
  generalize (lg_sl ([.ref a_y, .int p1]) ++ List.replicate (6 - (lg_sl ([.ref a_y, .int p1])).length) Slot.unset).toArray = ls at hl ⊢
  have hl : lv_has ls 6 [(0, .ref a_y), (1, .int p1)] := hl
  refine w_abs (fun Z hZv hZw => ?_)
  refine hZv ?_
  obtain ⟨H, hH⟩ : ∃ H, H = s.heap := ⟨_, rfl⟩
  obtain ⟨locs, hlo⟩ : ∃ L : List Loc, L = [] := ⟨_, rfl⟩
  rw [← hlo, ← hH]
  have hS : va_S A s.heap H locs := by rw [hlo, hH]; exact hS
  have hP : va_P (dC, dI) vwCl [(a_y, .inr (10, [.int y_n, .ref a_y_list, .int y_sets, .ref a_y_others, .int y_otherMany, .ref a_y_costs, .long y_above, .long y_below, .ref a_y_table, .long y_by, .ref a_y_basis, .ref a_y_isSeen, .ref a_y_colour, .ref a_y_rest, .ref a_y_makes, .ref a_y_worst])), (a_y_list, .inl (c_y_list, 16, .inl y_list)), (a_y_isSeen, .inl (c_y_isSeen, 1024, .inl y_isSeen))] H := by rw [hH]; exact hP
  clear hH hlo
  unfold pX10_dimension at hs
  refine lv_iload_n hx hb dX10_dimension_0 rfl (lv_at hl 1 rfl) ?_
  refine lv_i2l (v := p1.toInt64) hx hb dX10_dimension_1 rfl ?_
  refine lv_lconst (v := 0) hx hb dX10_dimension_2 (by decide) ?_
  refine lv_lconst (v := 1) hx hb dX10_dimension_3 (by decide) ?_
  obtain ⟨r1, hr1, hs⟩ := bd_s hs
  refine kc_i (isC := []) (isR := [0, 1, 2]) (pm := [0, 1, 2]) (wr := [(a_y, .inr (10, [.int y_n, .ref a_y_list, .int y_sets, .ref a_y_others, .int y_otherMany, .ref a_y_costs, .long y_above, .long y_below, .ref a_y_table, .long y_by, .ref a_y_basis, .ref a_y_isSeen, .ref a_y_colour, .ref a_y_rest, .ref a_y_makes, .ref a_y_worst])), (a_y_list, .inl (c_y_list, 16, .inl y_list)), (a_y_isSeen, .inl (c_y_isSeen, 1024, .inl y_isSeen))]) (w1 := []) (w2 := [(a_y, .inr (10, [.int y_n, .ref a_y_list, .int y_sets, .ref a_y_others, .int y_otherMany, .ref a_y_costs, .long y_above, .long y_below, .ref a_y_table, .long y_by, .ref a_y_basis, .ref a_y_isSeen, .ref a_y_colour, .ref a_y_rest, .ref a_y_makes, .ref a_y_worst])), (a_y_list, .inl (c_y_list, 16, .inl y_list)), (a_y_isSeen, .inl (c_y_isSeen, 1024, .inl y_isSeen))]) (va_runS (As := [.long p1.toInt64, .long 0, .long 1]) (rest := []) ⟨hx, hb, hml, hown, hts⟩ (c_X10_in l dC dI H.size p1.toInt64 0 1 r1 hr1) (va_cwS 3 hts gX10_dimension_X10_in rfl rfl rfl (by decide +kernel) ⟨Nat.le_of_ble_eq_true rfl, Nat.le_of_ble_eq_true rfl⟩) (kp_S hK hP hD hS hA hN (isC := []) (isT := []) (wc := []) rfl (by decide +kernel) rfl) rfl rfl hl.1 rfl (lv_room (Nat.le_of_ble_eq_true rfl)) dX10_dimension_4 ⟨Nat.le_of_ble_eq_true rfl, Nat.le_of_ble_eq_true rfl⟩) hP hD hS hA rfl rfl (by decide +kernel) (by decide +kernel) rfl (by decide +kernel) (fun H locs hP hD hS => ?_)
  refine lv_if_ne (tgt := 13) hx hb dX10_dimension_7 (by decide) (fun hc => ?_) (fun hc => ?_)
  · replace hs := it_f hc hs
    refine lv_iconst (v := (-1)) hx hb dX10_dimension_13 (by decide) ?_
    refine lv_istore_n (lv' := [(2, .int (-1)), (0, .ref a_y), (1, .int p1)]) hx hb dX10_dimension_14 rfl hl (by decide) rfl (fun ls hl => ?_)
    refine lv_iconst (v := 0) hx hb dX10_dimension_15 (by decide) ?_
    refine lv_istore_n (lv' := [(3, .int 0), (2, .int (-1)), (0, .ref a_y), (1, .int p1)]) hx hb dX10_dimension_16 rfl hl (by decide) rfl (fun ls hl => ?_)
    obtain ⟨e17, he17, hs⟩ := bd_s hs
    have hX17 : ∀ (H : Heap) (locs : List Loc) (ls : Array Slot), va_P (dC, dI) vwCl [(a_y, .inr (10, [.int y_n, .ref a_y_list, .int y_sets, .ref a_y_others, .int y_otherMany, .ref a_y_costs, .long y_above, .long y_below, .ref a_y_table, .long y_by, .ref a_y_basis, .ref a_y_isSeen, .ref a_y_colour, .ref a_y_rest, .ref a_y_makes, .ref a_y_worst])), (a_y_list, .inl (c_y_list, 16, .inl y_list)), (a_y_isSeen, .inl (c_y_isSeen, 1024, .inl e17.2))] H → va_D A [(a_y, .inr (10, [.int y_n, .ref a_y_list, .int y_sets, .ref a_y_others, .int y_otherMany, .ref a_y_costs, .long y_above, .long y_below, .ref a_y_table, .long y_by, .ref a_y_basis, .ref a_y_isSeen, .ref a_y_colour, .ref a_y_rest, .ref a_y_makes, .ref a_y_worst])), (a_y_list, .inl (c_y_list, 16, .inl y_list)), (a_y_isSeen, .inl (c_y_isSeen, 1024, .inl e17.2))] → va_S A s.heap H locs → lv_has ls 6 [(1, .int p1), (2, .int e17.1)] → Z H locs 0 0 (F0 m 87 ls []) := by
      intro H locs ls hP hD hS hl
      refine hZv ?_
      refine lv_iload_n hx hb dX10_dimension_87 rfl (lv_at hl 0 rfl) ?_
      refine lv_iconst (v := 1) hx hb dX10_dimension_88 (by decide) ?_
      have hJ97 : ∀ (t97 : Unit), pX10_dimension_J97 e17 t97 = some rv → ∀ (H : Heap) (locs : List Loc) (ls : Array Slot), va_P (dC, dI) vwCl [(a_y, .inr (10, [.int y_n, .ref a_y_list, .int y_sets, .ref a_y_others, .int y_otherMany, .ref a_y_costs, .long y_above, .long y_below, .ref a_y_table, .long y_by, .ref a_y_basis, .ref a_y_isSeen, .ref a_y_colour, .ref a_y_rest, .ref a_y_makes, .ref a_y_worst])), (a_y_list, .inl (c_y_list, 16, .inl y_list)), (a_y_isSeen, .inl (c_y_isSeen, 1024, .inl e17.2))] H → va_D A [(a_y, .inr (10, [.int y_n, .ref a_y_list, .int y_sets, .ref a_y_others, .int y_otherMany, .ref a_y_costs, .long y_above, .long y_below, .ref a_y_table, .long y_by, .ref a_y_basis, .ref a_y_isSeen, .ref a_y_colour, .ref a_y_rest, .ref a_y_makes, .ref a_y_worst])), (a_y_list, .inl (c_y_list, 16, .inl y_list)), (a_y_isSeen, .inl (c_y_isSeen, 1024, .inl e17.2))] → va_S A s.heap H locs → lv_has ls 6 [(2, .int e17.1)] → Z H locs 0 0 (F0 m 97 ls []) := by
        intro t97 hs H locs ls hP hD hS hl
        refine hZv ?_
        unfold pX10_dimension_J97 at hs
        refine lv_iload_n hx hb dX10_dimension_97 rfl (lv_at hl 0 rfl) ?_
        refine lv_goto (tgt := 105) hx hb dX10_dimension_98 (by decide) ?_
        replace hs := Option.some.inj hs
        subst hs
        exact W.iret (v := e17.1) hx hb hr (fun t ht hW => ⟨⟨e17.1, (), rfl, rfl, by rw [ht]; exact hP, va_K.moved hW.alike hK, hD⟩, hS.F ht⟩) hS.2.2 dX10_dimension_105
      refine lv_icmp_eq (tgt := 97) hx hb dX10_dimension_89 (by decide) (fun hc => ?_) (fun hc => ?_)
      · replace hs := it_t hc hs
        exact hZw (hJ97 () hs H locs ls hP hD hS (lv_sub hl [1] rfl))
      · replace hs := it_f hc hs
        refine lv_iload_n hx hb dX10_dimension_92 rfl (lv_at hl 1 rfl) ?_
        refine lv_iconst (v := (-1)) hx hb dX10_dimension_93 (by decide) ?_
        refine lv_icmp_ne (tgt := 101) hx hb dX10_dimension_94 (by decide) (fun hc => ?_) (fun hc => ?_)
        · replace hs := it_f hc hs
          refine lv_iload_n hx hb dX10_dimension_101 rfl (lv_at hl 1 rfl) ?_
          obtain ⟨r9, hr9, hs⟩ := bd_s hs
          refine kc_i (isC := []) (isR := [0, 1, 2]) (pm := [0, 1, 2]) (wr := [(a_y, .inr (10, [.int y_n, .ref a_y_list, .int y_sets, .ref a_y_others, .int y_otherMany, .ref a_y_costs, .long y_above, .long y_below, .ref a_y_table, .long y_by, .ref a_y_basis, .ref a_y_isSeen, .ref a_y_colour, .ref a_y_rest, .ref a_y_makes, .ref a_y_worst])), (a_y_list, .inl (c_y_list, 16, .inl y_list)), (a_y_isSeen, .inl (c_y_isSeen, 1024, .inl e17.2))]) (w1 := []) (w2 := [(a_y, .inr (10, [.int y_n, .ref a_y_list, .int y_sets, .ref a_y_others, .int y_otherMany, .ref a_y_costs, .long y_above, .long y_below, .ref a_y_table, .long y_by, .ref a_y_basis, .ref a_y_isSeen, .ref a_y_colour, .ref a_y_rest, .ref a_y_makes, .ref a_y_worst])), (a_y_list, .inl (c_y_list, 16, .inl y_list)), (a_y_isSeen, .inl (c_y_isSeen, 1024, .inl e17.2))]) (va_runS (As := [.int e17.1]) (rest := []) ⟨hx, hb, hml, hown, hts⟩ (c_X10_sizeOf l dC dI H.size e17.1 r9 hr9) (va_cwS 1 hts gX10_dimension_X10_sizeOf rfl rfl rfl (by decide +kernel) ⟨Nat.le_of_ble_eq_true rfl, Nat.le_of_ble_eq_true rfl⟩) (kp_S hK hP hD hS hA hN (isC := []) (isT := []) (wc := []) rfl (by decide +kernel) rfl) rfl rfl hl.1 rfl (lv_room (Nat.le_of_ble_eq_true rfl)) dX10_dimension_102 ⟨Nat.le_of_ble_eq_true rfl, Nat.le_of_ble_eq_true rfl⟩) hP hD hS hA rfl rfl (by decide +kernel) (by decide +kernel) rfl (by decide +kernel) (fun H locs hP hD hS => ?_)
          replace hs := Option.some.inj hs
          subst hs
          exact W.iret (v := r9) hx hb hr (fun t ht hW => ⟨⟨r9, (), rfl, rfl, by rw [ht]; exact hP, va_K.moved hW.alike hK, hD⟩, hS.F ht⟩) hS.2.2 dX10_dimension_105
        · replace hs := it_t hc hs
          exact hZw (hJ97 () hs H locs ls hP hD hS (lv_sub hl [1] rfl))
    clear hs
    have hL17 : ∀ (n : Nat) (s17 : Int32 × Int32 × (Nat → Int32)) (H : Heap) (locs : List Loc) (ls : Array Slot), itr (pX10_dimension_L17 y_n y_sets y_list) n s17 = some e17 → va_P (dC, dI) vwCl [(a_y, .inr (10, [.int y_n, .ref a_y_list, .int y_sets, .ref a_y_others, .int y_otherMany, .ref a_y_costs, .long y_above, .long y_below, .ref a_y_table, .long y_by, .ref a_y_basis, .ref a_y_isSeen, .ref a_y_colour, .ref a_y_rest, .ref a_y_makes, .ref a_y_worst])), (a_y_list, .inl (c_y_list, 16, .inl y_list)), (a_y_isSeen, .inl (c_y_isSeen, 1024, .inl s17.2.2))] H → va_D A [(a_y, .inr (10, [.int y_n, .ref a_y_list, .int y_sets, .ref a_y_others, .int y_otherMany, .ref a_y_costs, .long y_above, .long y_below, .ref a_y_table, .long y_by, .ref a_y_basis, .ref a_y_isSeen, .ref a_y_colour, .ref a_y_rest, .ref a_y_makes, .ref a_y_worst])), (a_y_list, .inl (c_y_list, 16, .inl y_list)), (a_y_isSeen, .inl (c_y_isSeen, 1024, .inl s17.2.2))] → va_S A s.heap H locs → lv_has ls 6 [(0, .ref a_y), (1, .int p1), (2, .int s17.1), (3, .int s17.2.1)] → Z H locs 0 0 (F0 m 17 ls []) := by
      intro n
      induction n with
      | zero =>
        intro s17 H locs ls hn
        exact (itr_0 hn).elim
      | succ n ih =>
        intro s17 H locs ls hn hP hD hS hl
        obtain ⟨y2, hs, hn⟩ := itr_s hn
        unfold pX10_dimension_L17 at hs
        refine hZv ?_
        refine lv_iload_n hx hb dX10_dimension_17 rfl (lv_at hl 3 rfl) ?_
        refine lv_aload_n hx hb dX10_dimension_18 rfl (lv_at hl 0 rfl) ?_
        obtain ⟨r3, hr3, hs⟩ := bd_s hs
        refine kc_i (isC := [0]) (isR := [1, 2]) (pm := [2, 0, 1]) (wr := [(a_y_list, .inl (c_y_list, 16, .inl y_list)), (a_y_isSeen, .inl (c_y_isSeen, 1024, .inl s17.2.2))]) (w1 := [(a_y, .inr (10, [.int y_n, .ref a_y_list, .int y_sets, .ref a_y_others, .int y_otherMany, .ref a_y_costs, .long y_above, .long y_below, .ref a_y_table, .long y_by, .ref a_y_basis, .ref a_y_isSeen, .ref a_y_colour, .ref a_y_rest, .ref a_y_makes, .ref a_y_worst]))]) (w2 := [(a_y, .inr (10, [.int y_n, .ref a_y_list, .int y_sets, .ref a_y_others, .int y_otherMany, .ref a_y_costs, .long y_above, .long y_below, .ref a_y_table, .long y_by, .ref a_y_basis, .ref a_y_isSeen, .ref a_y_colour, .ref a_y_rest, .ref a_y_makes, .ref a_y_worst])), (a_y_list, .inl (c_y_list, 16, .inl y_list)), (a_y_isSeen, .inl (c_y_isSeen, 1024, .inl s17.2.2))]) (va_runV (As := []) (rest := [.int s17.2.1]) ⟨hx, hb, hml, hown, hts⟩ (c_X10_all l dC dI a_y a_y_list a_y_others a_y_costs a_y_table a_y_basis a_y_isSeen a_y_colour a_y_rest a_y_makes a_y_worst H.size y_n y_sets y_otherMany y_above y_below y_by r3 hr3) (cwV 0 hts gX10_dimension_X10_all rfl rfl rfl (by decide +kernel) ⟨Nat.le_of_ble_eq_true rfl, Nat.le_of_ble_eq_true rfl⟩) (kp_V hK hP hD hS hA hN (isC := [0]) (isT := []) (wc := [(a_y, .inr (10, [.int y_n, .ref a_y_list, .int y_sets, .ref a_y_others, .int y_otherMany, .ref a_y_costs, .long y_above, .long y_below, .ref a_y_table, .long y_by, .ref a_y_basis, .ref a_y_isSeen, .ref a_y_colour, .ref a_y_rest, .ref a_y_makes, .ref a_y_worst]))]) rfl (by decide +kernel) rfl (ci := 10) (q0 := 0) rfl rfl) rfl rfl hl.1 rfl (lv_room (Nat.le_of_ble_eq_true rfl)) dX10_dimension_19 ⟨Nat.le_of_ble_eq_true rfl, Nat.le_of_ble_eq_true rfl⟩) hP hD hS hA rfl rfl (by decide +kernel) (by decide +kernel) rfl (by decide +kernel) (fun H locs hP hD hS => ?_)
        refine lv_icmp_gt (tgt := 87) hx hb dX10_dimension_22 (by decide) (fun hc => ?_) (fun hc => ?_)
        · replace hs := it_t hc hs
          replace hs := Option.some.inj hs
          subst hs
          obtain rfl : (s17.1, s17.2.2) = e17 := hn
          exact hZw (hX17 H locs ls hP hD hS (lv_sub hl [1, 2] rfl))
        · replace hs := it_f hc hs
          refine lv_iload_n hx hb dX10_dimension_25 rfl (lv_at hl 3 rfl) ?_
          obtain ⟨r4, hr4, hs⟩ := bd_s hs
          refine kc_i (isC := []) (isR := [0, 1, 2]) (pm := [0, 1, 2]) (wr := [(a_y, .inr (10, [.int y_n, .ref a_y_list, .int y_sets, .ref a_y_others, .int y_otherMany, .ref a_y_costs, .long y_above, .long y_below, .ref a_y_table, .long y_by, .ref a_y_basis, .ref a_y_isSeen, .ref a_y_colour, .ref a_y_rest, .ref a_y_makes, .ref a_y_worst])), (a_y_list, .inl (c_y_list, 16, .inl y_list)), (a_y_isSeen, .inl (c_y_isSeen, 1024, .inl s17.2.2))]) (w1 := []) (w2 := [(a_y, .inr (10, [.int y_n, .ref a_y_list, .int y_sets, .ref a_y_others, .int y_otherMany, .ref a_y_costs, .long y_above, .long y_below, .ref a_y_table, .long y_by, .ref a_y_basis, .ref a_y_isSeen, .ref a_y_colour, .ref a_y_rest, .ref a_y_makes, .ref a_y_worst])), (a_y_list, .inl (c_y_list, 16, .inl y_list)), (a_y_isSeen, .inl (c_y_isSeen, 1024, .inl s17.2.2))]) (va_runS (As := [.int s17.2.1]) (rest := []) ⟨hx, hb, hml, hown, hts⟩ (c_X10_sizeOf l dC dI H.size s17.2.1 r4 hr4) (va_cwS 1 hts gX10_dimension_X10_sizeOf rfl rfl rfl (by decide +kernel) ⟨Nat.le_of_ble_eq_true rfl, Nat.le_of_ble_eq_true rfl⟩) (kp_S hK hP hD hS hA hN (isC := []) (isT := []) (wc := []) rfl (by decide +kernel) rfl) rfl rfl hl.1 rfl (lv_room (Nat.le_of_ble_eq_true rfl)) dX10_dimension_26 ⟨Nat.le_of_ble_eq_true rfl, Nat.le_of_ble_eq_true rfl⟩) hP hD hS hA rfl rfl (by decide +kernel) (by decide +kernel) rfl (by decide +kernel) (fun H locs hP hD hS => ?_)
          refine lv_istore (lv' := [(4, .int r4), (0, .ref a_y), (1, .int p1), (2, .int s17.1), (3, .int s17.2.1)]) hx hb dX10_dimension_29 hl (by decide) rfl (fun ls hl => ?_)
          refine lv_iload_n hx hb dX10_dimension_31 rfl (lv_at hl 3 rfl) ?_
          refine lv_iconst (v := (-1)) hx hb dX10_dimension_32 (by decide) ?_
          obtain ⟨t50, hq50, hs⟩ := bd_s hs
          have hJ50 : ∀ (H : Heap) (locs : List Loc) (ls : Array Slot), va_P (dC, dI) vwCl [(a_y, .inr (10, [.int y_n, .ref a_y_list, .int y_sets, .ref a_y_others, .int y_otherMany, .ref a_y_costs, .long y_above, .long y_below, .ref a_y_table, .long y_by, .ref a_y_basis, .ref a_y_isSeen, .ref a_y_colour, .ref a_y_rest, .ref a_y_makes, .ref a_y_worst])), (a_y_list, .inl (c_y_list, 16, .inl y_list)), (a_y_isSeen, .inl (c_y_isSeen, 1024, .inl s17.2.2))] H → va_D A [(a_y, .inr (10, [.int y_n, .ref a_y_list, .int y_sets, .ref a_y_others, .int y_otherMany, .ref a_y_costs, .long y_above, .long y_below, .ref a_y_table, .long y_by, .ref a_y_basis, .ref a_y_isSeen, .ref a_y_colour, .ref a_y_rest, .ref a_y_makes, .ref a_y_worst])), (a_y_list, .inl (c_y_list, 16, .inl y_list)), (a_y_isSeen, .inl (c_y_isSeen, 1024, .inl s17.2.2))] → va_S A s.heap H locs → lv_has ls 6 [(0, .ref a_y), (1, .int p1), (2, .int s17.1), (3, .int s17.2.1), (4, .int r4)] → Z H locs 0 0 (F0 m 50 ls [.int t50]) := by
            intro H locs ls hP hD hS hl
            refine hZv ?_
            refine lv_istore (lv' := [(5, .int t50), (0, .ref a_y), (1, .int p1), (2, .int s17.1), (3, .int s17.2.1), (4, .int r4)]) hx hb dX10_dimension_50 hl (by decide) rfl (fun ls hl => ?_)
            refine lv_iload hx hb dX10_dimension_52 (lv_at hl 0 rfl) ?_
            have hJ79 : ∀ (t79 : Nat → Int32), pX10_dimension_J79_5 s17 t79 = some y2 → ∀ (H : Heap) (locs : List Loc) (ls : Array Slot), va_P (dC, dI) vwCl [(a_y, .inr (10, [.int y_n, .ref a_y_list, .int y_sets, .ref a_y_others, .int y_otherMany, .ref a_y_costs, .long y_above, .long y_below, .ref a_y_table, .long y_by, .ref a_y_basis, .ref a_y_isSeen, .ref a_y_colour, .ref a_y_rest, .ref a_y_makes, .ref a_y_worst])), (a_y_list, .inl (c_y_list, 16, .inl y_list)), (a_y_isSeen, .inl (c_y_isSeen, 1024, .inl t79))] H → va_D A [(a_y, .inr (10, [.int y_n, .ref a_y_list, .int y_sets, .ref a_y_others, .int y_otherMany, .ref a_y_costs, .long y_above, .long y_below, .ref a_y_table, .long y_by, .ref a_y_basis, .ref a_y_isSeen, .ref a_y_colour, .ref a_y_rest, .ref a_y_makes, .ref a_y_worst])), (a_y_list, .inl (c_y_list, 16, .inl y_list)), (a_y_isSeen, .inl (c_y_isSeen, 1024, .inl t79))] → va_S A s.heap H locs → lv_has ls 6 [(0, .ref a_y), (1, .int p1), (2, .int s17.1), (3, .int s17.2.1)] → Z H locs 0 0 (F0 m 79 ls []) := by
              intro t79 hs H locs ls hP hD hS hl
              refine hZv ?_
              unfold pX10_dimension_J79_5 at hs
              refine lv_iload_n hx hb dX10_dimension_79 rfl (lv_at hl 2 rfl) ?_
              refine lv_istore_n (lv' := [(2, .int s17.1), (0, .ref a_y), (1, .int p1), (3, .int s17.2.1)]) hx hb dX10_dimension_80 rfl hl (by decide) rfl (fun ls hl => ?_)
              refine lv_iinc (v := s17.2.1 + 1) (lv' := [(3, .int (s17.2.1 + 1)), (2, .int s17.1), (0, .ref a_y), (1, .int p1)]) hx hb dX10_dimension_81 hl (k := 3) rfl (by rfl) (by decide) rfl (fun ls hl => ?_)
              refine lv_goto (tgt := 17) hx hb dX10_dimension_84 (by decide) ?_
              replace hs := Option.some.inj hs
              subst hs
              exact hZw (ih (s17.1, s17.2.1 + 1, t79) H locs ls hn hP hD hS (lv_sub hl [2, 3, 1, 0] rfl))
            refine lv_if_eq (tgt := 79) hx hb dX10_dimension_54 (by decide) (fun hc => ?_) (fun hc => ?_)
            · replace hs := it_t hc hs
              exact hZw (hJ79 s17.2.2 hs H locs ls hP hD hS (lv_sub hl [1, 2, 3, 4] rfl))
            · replace hs := it_f hc hs
              refine lv_iload hx hb dX10_dimension_57 (lv_at hl 5 rfl) ?_
              refine lv_iconst (v := 5) hx hb dX10_dimension_59 (by decide) ?_
              refine lv_icmp_ge (tgt := 79) hx hb dX10_dimension_60 (by decide) (fun hc => ?_) (fun hc => ?_)
              · replace hs := it_t hc hs
                exact hZw (hJ79 s17.2.2 hs H locs ls hP hD hS (lv_sub hl [1, 2, 3, 4] rfl))
              · replace hs := it_f hc hs
                refine lv_aload_n hx hb dX10_dimension_63 rfl (lv_at hl 1 rfl) ?_
                refine lv_iload_n hx hb dX10_dimension_64 rfl (lv_at hl 4 rfl) ?_
                obtain ⟨r6, hr6, hs⟩ := bd_s hs
                refine kc_i (isC := [0, 1, 2]) (isR := []) (pm := [0, 1, 2]) (wr := []) (w1 := [(a_y, .inr (10, [.int y_n, .ref a_y_list, .int y_sets, .ref a_y_others, .int y_otherMany, .ref a_y_costs, .long y_above, .long y_below, .ref a_y_table, .long y_by, .ref a_y_basis, .ref a_y_isSeen, .ref a_y_colour, .ref a_y_rest, .ref a_y_makes, .ref a_y_worst])), (a_y_list, .inl (c_y_list, 16, .inl y_list)), (a_y_isSeen, .inl (c_y_isSeen, 1024, .inl r6.2))]) (w2 := [(a_y, .inr (10, [.int y_n, .ref a_y_list, .int y_sets, .ref a_y_others, .int y_otherMany, .ref a_y_costs, .long y_above, .long y_below, .ref a_y_table, .long y_by, .ref a_y_basis, .ref a_y_isSeen, .ref a_y_colour, .ref a_y_rest, .ref a_y_makes, .ref a_y_worst])), (a_y_list, .inl (c_y_list, 16, .inl y_list)), (a_y_isSeen, .inl (c_y_isSeen, 1024, .inl r6.2))]) (va_runV (As := [.int s17.2.1]) (rest := []) ⟨hx, hb, hml, hown, hts⟩ (c_X10_seenOf l dC dI a_y a_y_list a_y_others a_y_costs a_y_table a_y_basis a_y_isSeen a_y_colour a_y_rest a_y_makes a_y_worst c_y_list c_y_isSeen H.size y_n y_sets y_otherMany y_above y_below y_by y_list s17.2.2 s17.2.1 r6 hr6) (cwV 1 hts gX10_dimension_X10_seenOf rfl rfl rfl (by decide +kernel) ⟨Nat.le_of_ble_eq_true rfl, Nat.le_of_ble_eq_true rfl⟩) (kp_V hK hP hD hS hA hN (isC := [0, 1, 2]) (isT := [0, 1]) (wc := [(a_y, .inr (10, [.int y_n, .ref a_y_list, .int y_sets, .ref a_y_others, .int y_otherMany, .ref a_y_costs, .long y_above, .long y_below, .ref a_y_table, .long y_by, .ref a_y_basis, .ref a_y_isSeen, .ref a_y_colour, .ref a_y_rest, .ref a_y_makes, .ref a_y_worst])), (a_y_list, .inl (c_y_list, 16, .inl y_list)), (a_y_isSeen, .inl (c_y_isSeen, 1024, .inl s17.2.2))]) rfl (by decide +kernel) rfl (ci := 10) (q0 := 0) rfl rfl) rfl rfl hl.1 rfl (lv_room (Nat.le_of_ble_eq_true rfl)) dX10_dimension_65 ⟨Nat.le_of_ble_eq_true rfl, Nat.le_of_ble_eq_true rfl⟩) hP hD hS hA rfl rfl (by decide +kernel) (by decide +kernel) rfl (by decide +kernel) (fun H locs hP hD hS => ?_)
                refine lv_iconst (v := 1) hx hb dX10_dimension_68 (by decide) ?_
                refine lv_iload hx hb dX10_dimension_69 (lv_at hl 5 rfl) ?_
                refine lv_ishl hx hb dX10_dimension_71 ?_
                refine lv_icmp_ne (tgt := 79) hx hb dX10_dimension_72 (by decide) (fun hc => ?_) (fun hc => ?_)
                · replace hs := it_f hc hs
                  exact hZw (hJ79 r6.2 hs H locs ls hP hD hS (lv_sub hl [1, 2, 3, 4] rfl))
                · replace hs := it_t hc hs
                  refine lv_iload_n hx hb dX10_dimension_75 rfl (lv_at hl 4 rfl) ?_
                  refine lv_goto (tgt := 80) hx hb dX10_dimension_76 (by decide) ?_
                  refine lv_istore_n (lv' := [(2, .int s17.2.1), (5, .int t50), (0, .ref a_y), (1, .int p1), (3, .int s17.2.1), (4, .int r4)]) hx hb dX10_dimension_80 rfl hl (by decide) rfl (fun ls hl => ?_)
                  refine lv_iinc (v := s17.2.1 + 1) (lv' := [(3, .int (s17.2.1 + 1)), (2, .int s17.2.1), (5, .int t50), (0, .ref a_y), (1, .int p1), (4, .int r4)]) hx hb dX10_dimension_81 hl (k := 4) rfl (by rfl) (by decide) rfl (fun ls hl => ?_)
                  refine lv_goto (tgt := 17) hx hb dX10_dimension_84 (by decide) ?_
                  replace hs := Option.some.inj hs
                  subst hs
                  exact hZw (ih (s17.2.1, s17.2.1 + 1, r6.2) H locs ls hn hP hD hS (lv_sub hl [3, 4, 1, 0] rfl))
          clear hs
          have hs := hq50
          have hJ45 : ∀ (t45 : Unit), pX10_dimension_J45_7 t45 = some t50 → ∀ (H : Heap) (locs : List Loc) (ls : Array Slot), va_P (dC, dI) vwCl [(a_y, .inr (10, [.int y_n, .ref a_y_list, .int y_sets, .ref a_y_others, .int y_otherMany, .ref a_y_costs, .long y_above, .long y_below, .ref a_y_table, .long y_by, .ref a_y_basis, .ref a_y_isSeen, .ref a_y_colour, .ref a_y_rest, .ref a_y_makes, .ref a_y_worst])), (a_y_list, .inl (c_y_list, 16, .inl y_list)), (a_y_isSeen, .inl (c_y_isSeen, 1024, .inl s17.2.2))] H → va_D A [(a_y, .inr (10, [.int y_n, .ref a_y_list, .int y_sets, .ref a_y_others, .int y_otherMany, .ref a_y_costs, .long y_above, .long y_below, .ref a_y_table, .long y_by, .ref a_y_basis, .ref a_y_isSeen, .ref a_y_colour, .ref a_y_rest, .ref a_y_makes, .ref a_y_worst])), (a_y_list, .inl (c_y_list, 16, .inl y_list)), (a_y_isSeen, .inl (c_y_isSeen, 1024, .inl s17.2.2))] → va_S A s.heap H locs → lv_has ls 6 [(0, .ref a_y), (1, .int p1), (2, .int s17.1), (3, .int s17.2.1), (4, .int r4)] → Z H locs 0 0 (F0 m 45 ls []) := by
            intro t45 hs H locs ls hP hD hS hl
            refine hZv ?_
            unfold pX10_dimension_J45_7 at hs
            refine lv_iconst (v := 1) hx hb dX10_dimension_45 (by decide) ?_
            refine lv_goto (tgt := 50) hx hb dX10_dimension_46 (by decide) ?_
            replace hs := Option.some.inj hs
            subst hs
            exact hZw (hJ50 H locs ls hP hD hS hl)
          refine lv_icmp_eq (tgt := 45) hx hb dX10_dimension_33 (by decide) (fun hc => ?_) (fun hc => ?_)
          · replace hs := it_t hc hs
            exact hZw (hJ45 () hs H locs ls hP hD hS (lv_sub hl [1, 2, 3, 4, 0] rfl))
          · replace hs := it_f hc hs
            refine lv_iload hx hb dX10_dimension_36 (lv_at hl 0 rfl) ?_
            refine lv_iload_n hx hb dX10_dimension_38 rfl (lv_at hl 3 rfl) ?_
            obtain ⟨r8, hr8, hs⟩ := bd_s hs
            refine kc_i (isC := []) (isR := [0, 1, 2]) (pm := [0, 1, 2]) (wr := [(a_y, .inr (10, [.int y_n, .ref a_y_list, .int y_sets, .ref a_y_others, .int y_otherMany, .ref a_y_costs, .long y_above, .long y_below, .ref a_y_table, .long y_by, .ref a_y_basis, .ref a_y_isSeen, .ref a_y_colour, .ref a_y_rest, .ref a_y_makes, .ref a_y_worst])), (a_y_list, .inl (c_y_list, 16, .inl y_list)), (a_y_isSeen, .inl (c_y_isSeen, 1024, .inl s17.2.2))]) (w1 := []) (w2 := [(a_y, .inr (10, [.int y_n, .ref a_y_list, .int y_sets, .ref a_y_others, .int y_otherMany, .ref a_y_costs, .long y_above, .long y_below, .ref a_y_table, .long y_by, .ref a_y_basis, .ref a_y_isSeen, .ref a_y_colour, .ref a_y_rest, .ref a_y_makes, .ref a_y_worst])), (a_y_list, .inl (c_y_list, 16, .inl y_list)), (a_y_isSeen, .inl (c_y_isSeen, 1024, .inl s17.2.2))]) (va_runS (As := [.int s17.1]) (rest := [.int r4]) ⟨hx, hb, hml, hown, hts⟩ (c_X10_sizeOf l dC dI H.size s17.1 r8 hr8) (va_cwS 1 hts gX10_dimension_X10_sizeOf rfl rfl rfl (by decide +kernel) ⟨Nat.le_of_ble_eq_true rfl, Nat.le_of_ble_eq_true rfl⟩) (kp_S hK hP hD hS hA hN (isC := []) (isT := []) (wc := []) rfl (by decide +kernel) rfl) rfl rfl hl.1 rfl (lv_room (Nat.le_of_ble_eq_true rfl)) dX10_dimension_39 ⟨Nat.le_of_ble_eq_true rfl, Nat.le_of_ble_eq_true rfl⟩) hP hD hS hA rfl rfl (by decide +kernel) (by decide +kernel) rfl (by decide +kernel) (fun H locs hP hD hS => ?_)
            refine lv_icmp_le (tgt := 49) hx hb dX10_dimension_42 (by decide) (fun hc => ?_) (fun hc => ?_)
            · replace hs := it_t hc hs
              refine lv_iconst (v := 0) hx hb dX10_dimension_49 (by decide) ?_
              replace hs := Option.some.inj hs
              subst hs
              exact hZw (hJ50 H locs ls hP hD hS (lv_sub hl [1, 2, 3, 4, 0] rfl))
            · replace hs := it_f hc hs
              exact hZw (hJ45 () hs H locs ls hP hD hS (lv_sub hl [1, 2, 3, 4, 0] rfl))
    obtain ⟨n17, hn17⟩ := lp_ex he17
    exact hZw (hL17 n17 ((-1), 0, y_isSeen) H locs ls hn17 hP hD hS (lv_sub hl [2, 3, 1, 0] rfl))
  · replace hs := it_t hc hs
    refine lv_bipush (v := (-2)) hx hb dX10_dimension_10 (by decide) ?_
    replace hs := Option.some.inj hs
    subst hs
    exact W.iret (v := (-2)) hx hb hr (fun t ht hW => ⟨⟨(-2), (), rfl, rfl, by rw [ht]; exact hP, va_K.moved hW.alike hK, hD⟩, hS.F ht⟩) hS.2.2 dX10_dimension_12
