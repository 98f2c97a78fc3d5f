noncomputable def pX10_in (p0 : Int64) (p2 : Int64) (p4 : Int64) : Option (Int32) :=
  if (lg_cmp p0 p2) < 0 then (some 0) else (if 0 < (lg_cmp p0 p4) then (some 0) else (some 1))
set_option maxHeartbeats 4000000 in
set_option maxRecDepth 100000 in
theorem c_X10_in (l : Launch) (dC : Nat → ClassId) (dI : Nat → Nat → Nat) (sz : Nat) (p0 : Int64) (p2 : Int64) (p4 : Int64) (rv : Int32) (hs : pX10_in p0 p2 p4 = some rv) : Met l yX10_in wsX10_in ({ frames := 0, cells := 0, slots := 0, locals := 0 }) (sPc [.long p0, .long p2, .long p4] (dC, dI) [] [] sz) (va_Qi (fun (r : Int32) (_ : Unit) => r = rv) (sB (dC, dI) [] (va_A [] sz) []) (va_A [] sz)) 0 0 (va_A [] sz) := by
  refine Met.ofW (cc := cX10_in) (maxL := 6) (ret := (some .boolean)) (by decide) rfl ?_
  intro p e s m args below meth c s₁ B hml hv
  obtain ⟨rfl, hsz, hP, hK, hD0, hN⟩ := hv
  have hx := B.exec
  have hb := B.bytes
  have hr := B.returns
  have hts := atoms_spec (ws := wsX10_in) B.pre
  have hown : s.vm.findClass RX10 = some m.cls := findClass_of_methodNamed B.named
  have hlocks := B.notSynchronized
  subst hsz
  have hD := hD0.self (sz := s.heap.size)
  generalize hAe : va_A [] s.heap.size = A at hD hN ⊢
  have hA : ∀ q : Nat, s.heap.size ≤ q → A q := fun q h => by rw [← hAe]; exact Or.inr h
  have hS : va_S A s.heap s.heap [] := va_S.rf
  have hP : va_P (dC, dI) vwCl [] s.heap := hP
  have hl := lv_entry ([.long p0, .long p2, .long p4]) (n := 6) (Nat.le_of_ble_eq_true rfl)
  rw [lg_entry_eq]
  generalize (lg_sl ([.long p0, .long p2, .long p4]) ++ List.replicate (6 - (lg_sl ([.long p0, .long p2, .long p4])).length) Slot.unset).toArray = ls at hl ⊢
  have hl : lv_has ls 6 [(0, .long p0), (2, .long p2), (4, .long p4)] := hl
  refine w_abs (fun Z hZv hZw => ?_)
  refine hZv ?_
  obtain ⟨H, hH⟩ : ∃ H, H = s.heap := ⟨_, rfl⟩
  obtain ⟨locs, hlo⟩ : ∃ L : List Loc, L = [] := ⟨_, rfl⟩
  rw [← hlo, ← hH]
  have hS : va_S A s.heap H locs := by rw [hlo, hH]; exact hS
  have hP : va_P (dC, dI) vwCl [] H := by rw [hH]; exact hP
  clear hH hlo
  unfold pX10_in at hs
  refine lv_lload_n hx hb dX10_in_0 rfl (lv_at hl 0 rfl) ?_
  refine lv_lload_n hx hb dX10_in_1 rfl (lv_at hl 1 rfl) ?_
  refine W.lcmp hx hb dX10_in_2 ?_
  refine lv_if_lt (tgt := 17) hx hb dX10_in_3 (by decide) (fun hc => ?_) (fun hc => ?_)
  · replace hs := it_t hc hs
    refine lv_iconst (v := 0) hx hb dX10_in_17 (by decide) ?_
    replace hs := Option.some.inj hs
    subst hs
    exact W.zret (v := 0) (ty := .boolean) hx hb hr rfl (fun t ht hW => ⟨⟨0, (), rfl, rfl, by rw [ht]; exact hP, va_K.moved hW.alike hK, hD⟩, hS.F ht⟩) hS.2.2 dX10_in_18
  · replace hs := it_f hc hs
    refine lv_lload_n hx hb dX10_in_6 rfl (lv_at hl 0 rfl) ?_
    refine lv_lload hx hb dX10_in_7 (lv_at hl 2 rfl) ?_
    refine W.lcmp hx hb dX10_in_9 ?_
    refine lv_if_gt (tgt := 17) hx hb dX10_in_10 (by decide) (fun hc => ?_) (fun hc => ?_)
    · replace hs := it_t hc hs
      refine lv_iconst (v := 0) hx hb dX10_in_17 (by decide) ?_
      replace hs := Option.some.inj hs
      subst hs
      exact W.zret (v := 0) (ty := .boolean) hx hb hr rfl (fun t ht hW => ⟨⟨0, (), rfl, rfl, by rw [ht]; exact hP, va_K.moved hW.alike hK, hD⟩, hS.F ht⟩) hS.2.2 dX10_in_18
    · replace hs := it_f hc hs
      refine lv_iconst (v := 1) hx hb dX10_in_13 (by decide) ?_
      refine lv_goto (tgt := 18) hx hb dX10_in_14 (by decide) ?_
      replace hs := Option.some.inj hs
      subst hs
      exact W.zret (v := 1) (ty := .boolean) hx hb hr rfl (fun t ht hW => ⟨⟨1, (), rfl, rfl, by rw [ht]; exact hP, va_K.moved hW.alike hK, hD⟩, hS.F ht⟩) hS.2.2 dX10_in_18
noncomputable def pX10_sizeOf_L4 (s4 : Int32 × Int32) : Option ((Int32 × Int32) ⊕ (Int32)) :=
  if s4.2 ≤ 0 then (some (Sum.inr s4.1)) else (some (Sum.inl (s4.1 + (s4.2 &&& 1), s4.2 >>> (1 &&& 31))))
noncomputable def pX10_sizeOf (p0 : Int32) : Option (Int32) :=
  Option.bind (lp (pX10_sizeOf_L4) (0, p0)) (fun e4 => some e4)
set_option maxHeartbeats 4000000 in
set_option maxRecDepth 100000 in
theorem c_X10_sizeOf (l : Launch) (dC : Nat → ClassId) (dI : Nat → Nat → Nat) (sz : Nat) (p0 : Int32) (rv : Int32) (hs : pX10_sizeOf p0 = some rv) : Met l yX10_sizeOf wsX10_sizeOf ({ frames := 0, cells := 0, slots := 0, locals := 0 }) (sPc [.int p0] (dC, dI) [] [] sz) (va_Qi (fun (r : Int32) (_ : Unit) => r = rv) (sB (dC, dI) [] (va_A [] sz) []) (va_A [] sz)) 0 0 (va_A [] sz) := by
  refine Met.ofW (cc := cX10_sizeOf) (maxL := 3) (ret := (some .int)) (by decide) rfl ?_
  intro p e s m args below meth c s₁ B hml hv
  obtain ⟨rfl, hsz, hP, hK, hD0, hN⟩ := hv
  have hx := B.exec
  have hb := B.bytes
  have hr := B.returns
  have hts := atoms_spec (ws := wsX10_sizeOf) B.pre
  have hown : s.vm.findClass RX10 = some m.cls := findClass_of_methodNamed B.named
  have hlocks := B.notSynchronized
  subst hsz
  have hD := hD0.self (sz := s.heap.size)
  generalize hAe : va_A [] s.heap.size = A at hD hN ⊢
  have hA : ∀ q : Nat, s.heap.size ≤ q → A q := fun q h => by rw [← hAe]; exact Or.inr h
  have hS : va_S A s.heap s.heap [] := va_S.rf
  have hP : va_P (dC, dI) vwCl [] s.heap := hP
  have hl := lv_entry ([.int p0]) (n := 3) (Nat.le_of_ble_eq_true rfl)
  rw [lg_entry_eq]
  generalize (lg_sl ([.int p0]) ++ List.replicate (3 - (lg_sl ([.int p0])).length) Slot.unset).toArray = ls at hl ⊢
  have hl : lv_has ls 3 [(0, .int p0)] := hl
  refine w_abs (fun Z hZv hZw => ?_)
  refine hZv ?_
  obtain ⟨H, hH⟩ : ∃ H, H = s.heap := ⟨_, rfl⟩
  obtain ⟨locs, hlo⟩ : ∃ L : List Loc, L = [] := ⟨_, rfl⟩
  rw [← hlo, ← hH]
  have hS : va_S A s.heap H locs := by rw [hlo, hH]; exact hS
  have hP : va_P (dC, dI) vwCl [] H := by rw [hH]; exact hP
  clear hH hlo
  unfold pX10_sizeOf at hs
  refine lv_iconst (v := 0) hx hb dX10_sizeOf_0 (by decide) ?_
  refine lv_istore_n (lv' := [(1, .int 0), (0, .int p0)]) hx hb dX10_sizeOf_1 rfl hl (by decide) rfl (fun ls hl => ?_)
  refine lv_iload_n hx hb dX10_sizeOf_2 rfl (lv_at hl 1 rfl) ?_
  refine lv_istore_n (lv' := [(2, .int p0), (1, .int 0), (0, .int p0)]) hx hb dX10_sizeOf_3 rfl hl (by decide) rfl (fun ls hl => ?_)
  obtain ⟨e4, he4, hs⟩ := bd_s hs
  have hX4 : ∀ (H : Heap) (locs : List Loc) (ls : Array Slot), va_P (dC, dI) vwCl [] H → va_D A [] → va_S A s.heap H locs → lv_has ls 3 [(1, .int e4)] → Z H locs 0 0 (F0 m 21 ls []) := by
    intro H locs ls hP hD hS hl
    refine hZv ?_
    refine lv_iload_n hx hb dX10_sizeOf_21 rfl (lv_at hl 0 rfl) ?_
    replace hs := Option.some.inj hs
    subst hs
    exact W.iret (v := e4) hx hb hr (fun t ht hW => ⟨⟨e4, (), rfl, rfl, by rw [ht]; exact hP, va_K.moved hW.alike hK, hD⟩, hS.F ht⟩) hS.2.2 dX10_sizeOf_22
  clear hs
  have hL4 : ∀ (n : Nat) (s4 : Int32 × Int32) (H : Heap) (locs : List Loc) (ls : Array Slot), itr (pX10_sizeOf_L4) n s4 = some e4 → va_P (dC, dI) vwCl [] H → va_D A [] → va_S A s.heap H locs → lv_has ls 3 [(1, .int s4.1), (2, .int s4.2)] → Z H locs 0 0 (F0 m 4 ls []) := by
    intro n
    induction n with
    | zero =>
      intro s4 H locs ls hn
      exact (itr_0 hn).elim
    | succ n ih =>
      intro s4 H locs ls hn hP hD hS hl
      obtain ⟨y1, hs, hn⟩ := itr_s hn
      unfold pX10_sizeOf_L4 at hs
      refine hZv ?_
      refine lv_iload_n hx hb dX10_sizeOf_4 rfl (lv_at hl 1 rfl) ?_
      refine lv_if_le (tgt := 21) hx hb dX10_sizeOf_5 (by decide) (fun hc => ?_) (fun hc => ?_)
      · replace hs := it_t hc hs
        replace hs := Option.some.inj hs
        subst hs
        obtain rfl : s4.1 = e4 := hn
        exact hZw (hX4 H locs ls hP hD hS (lv_sub hl [0] rfl))
      · replace hs := it_f hc hs
        refine lv_iload_n hx hb dX10_sizeOf_8 rfl (lv_at hl 0 rfl) ?_
        refine lv_iload_n hx hb dX10_sizeOf_9 rfl (lv_at hl 1 rfl) ?_
        refine lv_iconst (v := 1) hx hb dX10_sizeOf_10 (by decide) ?_
        refine lv_iand hx hb dX10_sizeOf_11 ?_
        refine lv_iadd hx hb dX10_sizeOf_12 ?_
        refine lv_istore_n (lv' := [(1, .int (s4.1 + (s4.2 &&& 1))), (2, .int s4.2)]) hx hb dX10_sizeOf_13 rfl hl (by decide) rfl (fun ls hl => ?_)
        refine lv_iload_n hx hb dX10_sizeOf_14 rfl (lv_at hl 1 rfl) ?_
        refine lv_iconst (v := 1) hx hb dX10_sizeOf_15 (by decide) ?_
        refine lv_ishr hx hb dX10_sizeOf_16 ?_
        refine lv_istore_n (lv' := [(2, .int (s4.2 >>> (1 &&& 31))), (1, .int (s4.1 + (s4.2 &&& 1)))]) hx hb dX10_sizeOf_17 rfl hl (by decide) rfl (fun ls hl => ?_)
        refine lv_goto (tgt := 4) hx hb dX10_sizeOf_18 (by decide) ?_
        replace hs := Option.some.inj hs
        subst hs
        exact hZw (ih (s4.1 + (s4.2 &&& 1), s4.2 >>> (1 &&& 31)) H locs ls hn hP hD hS (lv_sub hl [1, 0] rfl))
  obtain ⟨n4, hn4⟩ := lp_ex he4
  exact hZw (hL4 n4 (0, p0) H locs ls hn4 hP hD hS (lv_sub hl [1, 0] rfl))
noncomputable def pX10_all (y_n : Int32) : Option (Int32) :=
  some ((1 <<< (y_n &&& 31)) - 1)
set_option maxHeartbeats 4000000 in
set_option maxRecDepth 100000 in
theorem c_X10_all (l : Launch) (dC : Nat → ClassId) (dI : Nat → Nat → Nat) (a_y : Nat) (a_y_list : Nat) (a_y_others : Nat) (a_y_costs : Nat) (a_y_table : Nat) (a_y_basis : Nat) (a_y_isSeen : Nat) (a_y_colour : Nat) (a_y_rest : Nat) (a_y_makes : Nat) (a_y_worst : Nat) (sz : Nat) (y_n : Int32) (y_sets : Int32) (y_otherMany : Int32) (y_above : Int64) (y_below : Int64) (y_by : Int64) (rv : Int32) (hs : pX10_all y_n = some rv) : Met l yX10_all wsX10_all ({ frames := 0, cells := 0, slots := 0, locals := 0 }) (sPc [.ref a_y] (dC, dI) [] [(a_y, .inr (10, [.int y_n, .ref a_y_list, .int y_sets, .ref a_y_others, .int y_otherMany, .ref a_y_costs, .long y_above, .long y_below, .ref a_y_table, .long y_by, .ref a_y_basis, .ref a_y_isSeen, .ref a_y_colour, .ref a_y_rest, .ref a_y_makes, .ref a_y_worst]))] sz) (va_Qi (fun (r : Int32) (_ : Unit) => r = rv) (sB (dC, dI) [] (va_A [(a_y, .inr (10, [.int y_n, .ref a_y_list, .int y_sets, .ref a_y_others, .int y_otherMany, .ref a_y_costs, .long y_above, .long y_below, .ref a_y_table, .long y_by, .ref a_y_basis, .ref a_y_isSeen, .ref a_y_colour, .ref a_y_rest, .ref a_y_makes, .ref a_y_worst]))] sz) [(a_y, .inr (10, [.int y_n, .ref a_y_list, .int y_sets, .ref a_y_others, .int y_otherMany, .ref a_y_costs, .long y_above, .long y_below, .ref a_y_table, .long y_by, .ref a_y_basis, .ref a_y_isSeen, .ref a_y_colour, .ref a_y_rest, .ref a_y_makes, .ref a_y_worst]))]) (va_A [(a_y, .inr (10, [.int y_n, .ref a_y_list, .int y_sets, .ref a_y_others, .int y_otherMany, .ref a_y_costs, .long y_above, .long y_below, .ref a_y_table, .long y_by, .ref a_y_basis, .ref a_y_isSeen, .ref a_y_colour, .ref a_y_rest, .ref a_y_makes, .ref a_y_worst]))] sz)) 0 0 (va_A [(a_y, .inr (10, [.int y_n, .ref a_y_list, .int y_sets, .ref a_y_others, .int y_otherMany, .ref a_y_costs, .long y_above, .long y_below, .ref a_y_table, .long y_by, .ref a_y_basis, .ref a_y_isSeen, .ref a_y_colour, .ref a_y_rest, .ref a_y_makes, .ref a_y_worst]))] sz) := by
  refine Met.ofW (cc := cX10_all) (maxL := 1) (ret := (some .int)) (by decide) rfl ?_
  intro p e s m args below meth c s₁ B hml hv
  obtain ⟨rfl, hsz, hP, hK, hD0, hN⟩ := hv
  have hx := B.exec
  have hb := B.bytes
  have hr := B.returns
  have hts := atoms_spec (ws := wsX10_all) B.pre
  have hown : s.vm.findClass RX10 = some m.cls := findClass_of_methodNamed B.named
  have hlocks := B.notSynchronized
  subst hsz
  have hD := hD0.self (sz := s.heap.size)
  generalize hAe : va_A [(a_y, .inr (10, [.int y_n, .ref a_y_list, .int y_sets, .ref a_y_others, .int y_otherMany, .ref a_y_costs, .long y_above, .long y_below, .ref a_y_table, .long y_by, .ref a_y_basis, .ref a_y_isSeen, .ref a_y_colour, .ref a_y_rest, .ref a_y_makes, .ref a_y_worst]))] s.heap.size = A at hD hN ⊢
  have hA : ∀ q : Nat, s.heap.size ≤ q → A q := fun q h => by rw [← hAe]; exact Or.inr h
  have hS : va_S A s.heap s.heap [] := va_S.rf
  have hP : va_P (dC, dI) vwCl [(a_y, .inr (10, [.int y_n, .ref a_y_list, .int y_sets, .ref a_y_others, .int y_otherMany, .ref a_y_costs, .long y_above, .long y_below, .ref a_y_table, .long y_by, .ref a_y_basis, .ref a_y_isSeen, .ref a_y_colour, .ref a_y_rest, .ref a_y_makes, .ref a_y_worst]))] s.heap := hP
  have hl := lv_entry ([.ref a_y]) (n := 1) (Nat.le_of_ble_eq_true rfl)
  rw [lg_entry_eq]
  generalize (lg_sl ([.ref a_y]) ++ List.replicate (1 - (lg_sl ([.ref a_y])).length) Slot.unset).toArray = ls at hl ⊢
  have hl : lv_has ls 1 [(0, .ref a_y)] := hl
  have hiX10 : ∀ w ∈ wsX100, w ∈ wsX10_all := fun _ h => List.mem_cons_of_mem _ (List.mem_append_right _ h)
  have hf43 := hts (.fieldLink RX10 43 "MeetSetsModel" "n" "I") (t1_ (al_ h1_))
  refine w_abs (fun Z hZv hZw => ?_)
  refine hZv ?_
  obtain ⟨H, hH⟩ : ∃ H, H = s.heap := ⟨_, rfl⟩
  obtain ⟨locs, hlo⟩ : ∃ L : List Loc, L = [] := ⟨_, rfl⟩
  rw [← hlo, ← hH]
  have hS : va_S A s.heap H locs := by rw [hlo, hH]; exact hS
  have hP : va_P (dC, dI) vwCl [(a_y, .inr (10, [.int y_n, .ref a_y_list, .int y_sets, .ref a_y_others, .int y_otherMany, .ref a_y_costs, .long y_above, .long y_below, .ref a_y_table, .long y_by, .ref a_y_basis, .ref a_y_isSeen, .ref a_y_colour, .ref a_y_rest, .ref a_y_makes, .ref a_y_worst]))] H := by rw [hH]; exact hP
  clear hH hlo
  unfold pX10_all at hs
  refine lv_iconst (v := 1) hx hb dX10_all_0 (by decide) ?_
  refine lv_aload_n hx hb dX10_all_1 rfl (lv_at hl 0 rfl) ?_
  refine va_get (D := (dC, dI)) (ci := 10) (v := .int y_n) (C := RX10) (T := TX10) (N := 16) hx hb hts hiX10 hown hK hP 0 rfl rfl 0 (by decide) hf43 (fun _ h9 => h9) rfl dX10_all_2 ?_
  refine lv_ishl hx hb dX10_all_5 ?_
  refine lv_iconst (v := 1) hx hb dX10_all_6 (by decide) ?_
  refine lv_isub hx hb dX10_all_7 ?_
  replace hs := Option.some.inj hs
  subst hs
  exact W.iret (v := (1 <<< (y_n &&& 31)) - 1) hx hb hr (fun t ht hW => ⟨⟨(1 <<< (y_n &&& 31)) - 1, (), rfl, rfl, by rw [ht]; exact hP, va_K.moved hW.alike hK, hD⟩, hS.F ht⟩) hS.2.2 dX10_all_8
noncomputable def pX10_isElement (y_n : Int32) (p1 : Int32) : Option (Int32) :=
  Option.bind (pX10_in p1.toInt64 0 ((y_n - 1).toInt64)) (fun r1 => gd (narrow .boolean (.int r1) = .int r1) (some r1))
set_option maxHeartbeats 4000000 in
set_option maxRecDepth 100000 in
theorem c_X10_isElement (l : Launch) (dC : Nat → ClassId) (dI : Nat → Nat → Nat) (a_y : Nat) (a_y_list : Nat) (a_y_others : Nat) (a_y_costs : Nat) (a_y_table : Nat) (a_y_basis : Nat) (a_y_isSeen : Nat) (a_y_colour : Nat) (a_y_rest : Nat) (a_y_makes : Nat) (a_y_worst : Nat) (sz : Nat) (y_n : Int32) (y_sets : Int32) (y_otherMany : Int32) (y_above : Int64) (y_below : Int64) (y_by : Int64) (p1 : Int32) (rv : Int32) (hs : pX10_isElement y_n p1 = some rv) : Met l yX10_isElement wsX10_isElement ({ frames := 1, cells := 0, slots := 0, locals := 25 }) (sPc [.ref a_y, .int p1] (dC, dI) [] [(a_y, .inr (10, [.int y_n, .ref a_y_list, .int y_sets, .ref a_y_others, .int y_otherMany, .ref a_y_costs, .long y_above, .long y_below, .ref a_y_table, .long y_by, .ref a_y_basis, .ref a_y_isSeen, .ref a_y_colour, .ref a_y_rest, .ref a_y_makes, .ref a_y_worst]))] sz) (va_Qi (fun (r : Int32) (_ : Unit) => r = rv) (sB (dC, dI) [] (va_A [(a_y, .inr (10, [.int y_n, .ref a_y_list, .int y_sets, .ref a_y_others, .int y_otherMany, .ref a_y_costs, .long y_above, .long y_below, .ref a_y_table, .long y_by, .ref a_y_basis, .ref a_y_isSeen, .ref a_y_colour, .ref a_y_rest, .ref a_y_makes, .ref a_y_worst]))] sz) [(a_y, .inr (10, [.int y_n, .ref a_y_list, .int y_sets, .ref a_y_others, .int y_otherMany, .ref a_y_costs, .long y_above, .long y_below, .ref a_y_table, .long y_by, .ref a_y_basis, .ref a_y_isSeen, .ref a_y_colour, .ref a_y_rest, .ref a_y_makes, .ref a_y_worst]))]) (va_A [(a_y, .inr (10, [.int y_n, .ref a_y_list, .int y_sets, .ref a_y_others, .int y_otherMany, .ref a_y_costs, .long y_above, .long y_below, .ref a_y_table, .long y_by, .ref a_y_basis, .ref a_y_isSeen, .ref a_y_colour, .ref a_y_rest, .ref a_y_makes, .ref a_y_worst]))] sz)) 0 0 (va_A [(a_y, .inr (10, [.int y_n, .ref a_y_list, .int y_sets, .ref a_y_others, .int y_otherMany, .ref a_y_costs, .long y_above, .long y_below, .ref a_y_table, .long y_by, .ref a_y_basis, .ref a_y_isSeen, .ref a_y_colour, .ref a_y_rest, .ref a_y_makes, .ref a_y_worst]))] sz) := by
  refine Met.ofW (cc := cX10_isElement) (maxL := 2) (ret := (some .boolean)) (by decide) rfl ?_
  intro p e s m args below meth c s₁ B hml hv
  obtain ⟨rfl, hsz, hP, hK, hD0, hN⟩ := hv
  have hx := B.exec
  have hb := B.bytes
  have hr := B.returns
  have hts := atoms_spec (ws := wsX10_isElement) B.pre
  have hown : s.vm.findClass RX10 = some m.cls := findClass_of_methodNamed B.named
  have hlocks := B.notSynchronized
  subst hsz
  have hD := hD0.self (sz := s.heap.size)
  generalize hAe : va_A [(a_y, .inr (10, [.int y_n, .ref a_y_list, .int y_sets, .ref a_y_others, .int y_otherMany, .ref a_y_costs, .long y_above, .long y_below, .ref a_y_table, .long y_by, .ref a_y_basis, .ref a_y_isSeen, .ref a_y_colour, .ref a_y_rest, .ref a_y_makes, .ref a_y_worst]))] s.heap.size = A at hD hN ⊢
  have hA : ∀ q : Nat, s.heap.size ≤ q → A q := fun q h => by rw [← hAe]; exact Or.inr h
  have hS : va_S A s.heap s.heap [] := va_S.rf
  have hP : va_P (dC, dI) vwCl [(a_y, .inr (10, [.int y_n, .ref a_y_list, .int y_sets, .ref a_y_others, .int y_otherMany, .ref a_y_costs, .long y_above, .long y_below, .ref a_y_table, .long y_by, .ref a_y_basis, .ref a_y_isSeen, .ref a_y_colour, .ref a_y_rest, .ref a_y_makes, .ref a_y_worst]))] s.heap := hP
  have hl := lv_entry ([.ref a_y, .int p1]) (n := 2) (Nat.le_of_ble_eq_true rfl)
  rw [lg_entry_eq]
  generalize (lg_sl ([.ref a_y, .int p1]) ++ List.replicate (2 - (lg_sl ([.ref a_y, .int p1])).length) Slot.unset).toArray = ls at hl ⊢
  have hl : lv_has ls 2 [(0, .ref a_y), (1, .int p1)] := hl
  have hiX10 : ∀ w ∈ wsX100, w ∈ wsX10_isElement := fun _ h => List.mem_cons_of_mem _ (List.mem_append_right _ h)
  have hf43 := hts (.fieldLink RX10 43 "MeetSetsModel" "n" "I") (t1_ (al_ h1_))
  refine w_abs (fun Z hZv hZw => ?_)
  refine hZv ?_
  obtain ⟨H, hH⟩ : ∃ H, H = s.heap := ⟨_, rfl⟩
  obtain ⟨locs, hlo⟩ : ∃ L : List Loc, L = [] := ⟨_, rfl⟩
  rw [← hlo, ← hH]
  have hS : va_S A s.heap H locs := by rw [hlo, hH]; exact hS
  have hP : va_P (dC, dI) vwCl [(a_y, .inr (10, [.int y_n, .ref a_y_list, .int y_sets, .ref a_y_others, .int y_otherMany, .ref a_y_costs, .long y_above, .long y_below, .ref a_y_table, .long y_by, .ref a_y_basis, .ref a_y_isSeen, .ref a_y_colour, .ref a_y_rest, .ref a_y_makes, .ref a_y_worst]))] H := by rw [hH]; exact hP
  clear hH hlo
  unfold pX10_isElement at hs
  refine lv_iload_n hx hb dX10_isElement_0 rfl (lv_at hl 1 rfl) ?_
  refine lv_i2l (v := p1.toInt64) hx hb dX10_isElement_1 rfl ?_
  refine lv_lconst (v := 0) hx hb dX10_isElement_2 (by decide) ?_
  refine lv_aload_n hx hb dX10_isElement_3 rfl (lv_at hl 0 rfl) ?_
  refine va_get (D := (dC, dI)) (ci := 10) (v := .int y_n) (C := RX10) (T := TX10) (N := 16) hx hb hts hiX10 hown hK hP 0 rfl rfl 0 (by decide) hf43 (fun _ h9 => h9) rfl dX10_isElement_4 ?_
  refine lv_iconst (v := 1) hx hb dX10_isElement_7 (by decide) ?_
  refine lv_isub hx hb dX10_isElement_8 ?_
  refine lv_i2l (v := (y_n - 1).toInt64) hx hb dX10_isElement_9 rfl ?_
  obtain ⟨r1, hr1, hs⟩ := bd_s hs
  refine kc_i (isC := []) (isR := [0]) (pm := [0]) (wr := [(a_y, .inr (10, [.int y_n, .ref a_y_list, .int y_sets, .ref a_y_others, .int y_otherMany, .ref a_y_costs, .long y_above, .long y_below, .ref a_y_table, .long y_by, .ref a_y_basis, .ref a_y_isSeen, .ref a_y_colour, .ref a_y_rest, .ref a_y_makes, .ref a_y_worst]))]) (w1 := []) (w2 := [(a_y, .inr (10, [.int y_n, .ref a_y_list, .int y_sets, .ref a_y_others, .int y_otherMany, .ref a_y_costs, .long y_above, .long y_below, .ref a_y_table, .long y_by, .ref a_y_basis, .ref a_y_isSeen, .ref a_y_colour, .ref a_y_rest, .ref a_y_makes, .ref a_y_worst]))]) (va_runS (As := [.long p1.toInt64, .long 0, .long ((y_n - 1).toInt64)]) (rest := []) ⟨hx, hb, hml, hown, hts⟩ (c_X10_in l dC dI H.size p1.toInt64 0 ((y_n - 1).toInt64) r1 hr1) (va_cwS 3 hts gX10_isElement_X10_in rfl rfl rfl (by decide +kernel) ⟨Nat.le_of_ble_eq_true rfl, Nat.le_of_ble_eq_true rfl⟩) (kp_S hK hP hD hS hA hN (isC := []) (isT := []) (wc := []) rfl (by decide +kernel) rfl) rfl rfl hl.1 rfl (lv_room (Nat.le_of_ble_eq_true rfl)) dX10_isElement_10 ⟨Nat.le_of_ble_eq_true rfl, Nat.le_of_ble_eq_true rfl⟩) hP hD hS hA rfl rfl (by decide +kernel) (by decide +kernel) rfl (by decide +kernel) (fun H locs hP hD hS => ?_)
  obtain ⟨hb2, hs⟩ := gd_s hs
  replace hs := Option.some.inj hs
  subst hs
  exact W.zret (v := r1) (ty := .boolean) hx hb hr hb2 (fun t ht hW => ⟨⟨r1, (), rfl, rfl, by rw [ht]; exact hP, va_K.moved hW.alike hK, hD⟩, hS.F ht⟩) hS.2.2 dX10_isElement_13
noncomputable def pX10_isPart (y_n : Int32) (p1 : Int32) : Option (Int32) :=
  Option.bind (pX10_all y_n) (fun r1 => Option.bind (pX10_in p1.toInt64 0 r1.toInt64) (fun r2 => gd (narrow .boolean (.int r2) = .int r2) (some r2)))
set_option maxHeartbeats 4000000 in
set_option maxRecDepth 100000 in
theorem c_X10_isPart (l : Launch) (dC : Nat → ClassId) (dI : Nat → Nat → Nat) (a_y : Nat) (a_y_list : Nat) (a_y_others : Nat) (a_y_costs : Nat) (a_y_table : Nat) (a_y_basis : Nat) (a_y_isSeen : Nat) (a_y_colour : Nat) (a_y_rest : Nat) (a_y_makes : Nat) (a_y_worst : Nat) (sz : Nat) (y_n : Int32) (y_sets : Int32) (y_otherMany : Int32) (y_above : Int64) (y_below : Int64) (y_by : Int64) (p1 : Int32) (rv : Int32) (hs : pX10_isPart y_n p1 = some rv) : Met l yX10_isPart wsX10_isPart ({ frames := 1, cells := 0, slots := 0, locals := 25 }) (sPc [.ref a_y, .int p1] (dC, dI) [] [(a_y, .inr (10, [.int y_n, .ref a_y_list, .int y_sets, .ref a_y_others, .int y_otherMany, .ref a_y_costs, .long y_above, .long y_below, .ref a_y_table, .long y_by, .ref a_y_basis, .ref a_y_isSeen, .ref a_y_colour, .ref a_y_rest, .ref a_y_makes, .ref a_y_worst]))] sz) (va_Qi (fun (r : Int32) (_ : Unit) => r = rv) (sB (dC, dI) [] (va_A [(a_y, .inr (10, [.int y_n, .ref a_y_list, .int y_sets, .ref a_y_others, .int y_otherMany, .ref a_y_costs, .long y_above, .long y_below, .ref a_y_table, .long y_by, .ref a_y_basis, .ref a_y_isSeen, .ref a_y_colour, .ref a_y_rest, .ref a_y_makes, .ref a_y_worst]))] sz) [(a_y, .inr (10, [.int y_n, .ref a_y_list, .int y_sets, .ref a_y_others, .int y_otherMany, .ref a_y_costs, .long y_above, .long y_below, .ref a_y_table, .long y_by, .ref a_y_basis, .ref a_y_isSeen, .ref a_y_colour, .ref a_y_rest, .ref a_y_makes, .ref a_y_worst]))]) (va_A [(a_y, .inr (10, [.int y_n, .ref a_y_list, .int y_sets, .ref a_y_others, .int y_otherMany, .ref a_y_costs, .long y_above, .long y_below, .ref a_y_table, .long y_by, .ref a_y_basis, .ref a_y_isSeen, .ref a_y_colour, .ref a_y_rest, .ref a_y_makes, .ref a_y_worst]))] sz)) 0 0 (va_A [(a_y, .inr (10, [.int y_n, .ref a_y_list, .int y_sets, .ref a_y_others, .int y_otherMany, .ref a_y_costs, .long y_above, .long y_below, .ref a_y_table, .long y_by, .ref a_y_basis, .ref a_y_isSeen, .ref a_y_colour, .ref a_y_rest, .ref a_y_makes, .ref a_y_worst]))] sz) := by
  refine Met.ofW (cc := cX10_isPart) (maxL := 2) (ret := (some .boolean)) (by decide) rfl ?_
  intro p e s m args below meth c s₁ B hml hv
  obtain ⟨rfl, hsz, hP, hK, hD0, hN⟩ := hv
  have hx := B.exec
  have hb := B.bytes
  have hr := B.returns
  have hts := atoms_spec (ws := wsX10_isPart) B.pre
  have hown : s.vm.findClass RX10 = some m.cls := findClass_of_methodNamed B.named
  have hlocks := B.notSynchronized
  subst hsz
  have hD := hD0.self (sz := s.heap.size)
  generalize hAe : va_A [(a_y, .inr (10, [.int y_n, .ref a_y_list, .int y_sets, .ref a_y_others, .int y_otherMany, .ref a_y_costs, .long y_above, .long y_below, .ref a_y_table, .long y_by, .ref a_y_basis, .ref a_y_isSeen, .ref a_y_colour, .ref a_y_rest, .ref a_y_makes, .ref a_y_worst]))] s.heap.size = A at hD hN ⊢
  have hA : ∀ q : Nat, s.heap.size ≤ q → A q := fun q h => by rw [← hAe]; exact Or.inr h
  have hS : va_S A s.heap s.heap [] := va_S.rf
  have hP : va_P (dC, dI) vwCl [(a_y, .inr (10, [.int y_n, .ref a_y_list, .int y_sets, .ref a_y_others, .int y_otherMany, .ref a_y_costs, .long y_above, .long y_below, .ref a_y_table, .long y_by, .ref a_y_basis, .ref a_y_isSeen, .ref a_y_colour, .ref a_y_rest, .ref a_y_makes, .ref a_y_worst]))] s.heap := hP
  have hl := lv_entry ([.ref a_y, .int p1]) (n := 2) (Nat.le_of_ble_eq_true rfl)
  rw [lg_entry_eq]
  generalize (lg_sl ([.ref a_y, .int p1]) ++ List.replicate (2 - (lg_sl ([.ref a_y, .int p1])).length) Slot.unset).toArray = ls at hl ⊢
  have hl : lv_has ls 2 [(0, .ref a_y), (1, .int p1)] := hl
  refine w_abs (fun Z hZv hZw => ?_)
  refine hZv ?_
  obtain ⟨H, hH⟩ : ∃ H, H = s.heap := ⟨_, rfl⟩
  obtain ⟨locs, hlo⟩ : ∃ L : List Loc, L = [] := ⟨_, rfl⟩
  rw [← hlo, ← hH]
  have hS : va_S A s.heap H locs := by rw [hlo, hH]; exact hS
  have hP : va_P (dC, dI) vwCl [(a_y, .inr (10, [.int y_n, .ref a_y_list, .int y_sets, .ref a_y_others, .int y_otherMany, .ref a_y_costs, .long y_above, .long y_below, .ref a_y_table, .long y_by, .ref a_y_basis, .ref a_y_isSeen, .ref a_y_colour, .ref a_y_rest, .ref a_y_makes, .ref a_y_worst]))] H := by rw [hH]; exact hP
  clear hH hlo
  unfold pX10_isPart at hs
  refine lv_iload_n hx hb dX10_isPart_0 rfl (lv_at hl 1 rfl) ?_
  refine lv_i2l (v := p1.toInt64) hx hb dX10_isPart_1 rfl ?_
  refine lv_lconst (v := 0) hx hb dX10_isPart_2 (by decide) ?_
  refine lv_aload_n hx hb dX10_isPart_3 rfl (lv_at hl 0 rfl) ?_
  obtain ⟨r1, hr1, hs⟩ := bd_s hs
  refine kc_i (isC := [0]) (isR := []) (pm := [0]) (wr := []) (w1 := [(a_y, .inr (10, [.int y_n, .ref a_y_list, .int y_sets, .ref a_y_others, .int y_otherMany, .ref a_y_costs, .long y_above, .long y_below, .ref a_y_table, .long y_by, .ref a_y_basis, .ref a_y_isSeen, .ref a_y_colour, .ref a_y_rest, .ref a_y_makes, .ref a_y_worst]))]) (w2 := [(a_y, .inr (10, [.int y_n, .ref a_y_list, .int y_sets, .ref a_y_others, .int y_otherMany, .ref a_y_costs, .long y_above, .long y_below, .ref a_y_table, .long y_by, .ref a_y_basis, .ref a_y_isSeen, .ref a_y_colour, .ref a_y_rest, .ref a_y_makes, .ref a_y_worst]))]) (va_runV (As := []) (rest := [.long 0, .long p1.toInt64]) ⟨hx, hb, hml, hown, hts⟩ (c_X10_all l dC dI a_y a_y_list a_y_others a_y_costs a_y_table a_y_basis a_y_isSeen a_y_colour a_y_rest a_y_makes a_y_worst H.size y_n y_sets y_otherMany y_above y_below y_by r1 hr1) (cwV 0 hts gX10_isPart_X10_all rfl rfl rfl (by decide +kernel) ⟨Nat.le_of_ble_eq_true rfl, Nat.le_of_ble_eq_true rfl⟩) (kp_V hK hP hD hS hA hN (isC := [0]) (isT := []) (wc := [(a_y, .inr (10, [.int y_n, .ref a_y_list, .int y_sets, .ref a_y_others, .int y_otherMany, .ref a_y_costs, .long y_above, .long y_below, .ref a_y_table, .long y_by, .ref a_y_basis, .ref a_y_isSeen, .ref a_y_colour, .ref a_y_rest, .ref a_y_makes, .ref a_y_worst]))]) rfl (by decide +kernel) rfl (ci := 10) (q0 := 0) rfl rfl) rfl rfl hl.1 rfl (lv_room (Nat.le_of_ble_eq_true rfl)) dX10_isPart_4 ⟨Nat.le_of_ble_eq_true rfl, Nat.le_of_ble_eq_true rfl⟩) hP hD hS hA rfl rfl (by decide +kernel) (by decide +kernel) rfl (by decide +kernel) (fun H locs hP hD hS => ?_)
  refine lv_i2l (v := r1.toInt64) hx hb dX10_isPart_7 rfl ?_
  obtain ⟨r2, hr2, hs⟩ := bd_s hs
  refine kc_i (isC := []) (isR := [0]) (pm := [0]) (wr := [(a_y, .inr (10, [.int y_n, .ref a_y_list, .int y_sets, .ref a_y_others, .int y_otherMany, .ref a_y_costs, .long y_above, .long y_below, .ref a_y_table, .long y_by, .ref a_y_basis, .ref a_y_isSeen, .ref a_y_colour, .ref a_y_rest, .ref a_y_makes, .ref a_y_worst]))]) (w1 := []) (w2 := [(a_y, .inr (10, [.int y_n, .ref a_y_list, .int y_sets, .ref a_y_others, .int y_otherMany, .ref a_y_costs, .long y_above, .long y_below, .ref a_y_table, .long y_by, .ref a_y_basis, .ref a_y_isSeen, .ref a_y_colour, .ref a_y_rest, .ref a_y_makes, .ref a_y_worst]))]) (va_runS (As := [.long p1.toInt64, .long 0, .long r1.toInt64]) (rest := []) ⟨hx, hb, hml, hown, hts⟩ (c_X10_in l dC dI H.size p1.toInt64 0 r1.toInt64 r2 hr2) (va_cwS 3 hts gX10_isPart_X10_in rfl rfl rfl (by decide +kernel) ⟨Nat.le_of_ble_eq_true rfl, Nat.le_of_ble_eq_true rfl⟩) (kp_S hK hP hD hS hA hN (isC := []) (isT := []) (wc := []) rfl (by decide +kernel) rfl) rfl rfl hl.1 rfl (lv_room (Nat.le_of_ble_eq_true rfl)) dX10_isPart_8 ⟨Nat.le_of_ble_eq_true rfl, Nat.le_of_ble_eq_true rfl⟩) hP hD hS hA rfl rfl (by decide +kernel) (by decide +kernel) rfl (by decide +kernel) (fun H locs hP hD hS => ?_)
  obtain ⟨hb3, hs⟩ := gd_s hs
  replace hs := Option.some.inj hs
  subst hs
  exact W.zret (v := r2) (ty := .boolean) hx hb hr hb3 (fun t ht hW => ⟨⟨r2, (), rfl, rfl, by rw [ht]; exact hP, va_K.moved hW.alike hK, hD⟩, hS.F ht⟩) hS.2.2 dX10_isPart_11
noncomputable def pX10_ground (y_n : Int32) (y_sets : Int32) (y_otherMany : Int32) (p1 : Int32) : Option (Int32 × Int32 × Int32 × Int32) :=
  Option.bind (pX10_in p1.toInt64 1 10) (fun r1 => if r1 = 0 then (some ((-2), y_n, y_sets, y_otherMany)) else (some (1, p1, 0, 0)))
set_option maxHeartbeats 4000000 in
set_option maxRecDepth 100000 in
theorem c_X10_ground (l : Launch) (dC : Nat → ClassId) (dI : Nat → Nat → Nat) (a_y : Nat) (a_y_list : Nat) (a_y_others : Nat) (a_y_costs : Nat) (a_y_table : Nat) (a_y_basis : Nat) (a_y_isSeen : Nat) (a_y_colour : Nat) (a_y_rest : Nat) (a_y_makes : Nat) (a_y_worst : Nat) (sz : Nat) (y_n : Int32) (y_sets : Int32) (y_otherMany : Int32) (y_above : Int64) (y_below : Int64) (y_by : Int64) (p1 : Int32) (rv : Int32 × Int32 × Int32 × Int32) (hs : pX10_ground y_n y_sets y_otherMany p1 = some rv) : Met l yX10_ground wsX10_ground ({ frames := 1, cells := 0, slots := 0, locals := 25 }) (sPc [.ref a_y, .int p1] (dC, dI) [] [(a_y, .inr (10, [.int y_n, .ref a_y_list, .int y_sets, .ref a_y_others, .int y_otherMany, .ref a_y_costs, .long y_above, .long y_below, .ref a_y_table, .long y_by, .ref a_y_basis, .ref a_y_isSeen, .ref a_y_colour, .ref a_y_rest, .ref a_y_makes, .ref a_y_worst]))] sz) (va_Qi (fun (r : Int32) (_ : Unit) => r = rv.1) (sB (dC, dI) [] (va_A [(a_y, .inr (10, [.int y_n, .ref a_y_list, .int y_sets, .ref a_y_others, .int y_otherMany, .ref a_y_costs, .long y_above, .long y_below, .ref a_y_table, .long y_by, .ref a_y_basis, .ref a_y_isSeen, .ref a_y_colour, .ref a_y_rest, .ref a_y_makes, .ref a_y_worst]))] sz) [(a_y, .inr (10, [.int rv.2.1, .ref a_y_list, .int rv.2.2.1, .ref a_y_others, .int rv.2.2.2, .ref a_y_costs, .long y_above, .long y_below, .ref a_y_table, .long y_by, .ref a_y_basis, .ref a_y_isSeen, .ref a_y_colour, .ref a_y_rest, .ref a_y_makes, .ref a_y_worst]))]) (va_A [(a_y, .inr (10, [.int y_n, .ref a_y_list, .int y_sets, .ref a_y_others, .int y_otherMany, .ref a_y_costs, .long y_above, .long y_below, .ref a_y_table, .long y_by, .ref a_y_basis, .ref a_y_isSeen, .ref a_y_colour, .ref a_y_rest, .ref a_y_makes, .ref a_y_worst]))] sz)) 0 0 (va_A [(a_y, .inr (10, [.int y_n, .ref a_y_list, .int y_sets, .ref a_y_others, .int y_otherMany, .ref a_y_costs, .long y_above, .long y_below, .ref a_y_table, .long y_by, .ref a_y_basis, .ref a_y_isSeen, .ref a_y_colour, .ref a_y_rest, .ref a_y_makes, .ref a_y_worst]))] sz) := by
  refine Met.ofW (cc := cX10_ground) (maxL := 2) (ret := (some .int)) (by decide) rfl ?_
  intro p e s m args below meth c s₁ B hml hv
  obtain ⟨rfl, hsz, hP, hK, hD0, hN⟩ := hv
  have hx := B.exec
  have hb := B.bytes
  have hr := B.returns
  have hts := atoms_spec (ws := wsX10_ground) B.pre
  have hown : s.vm.findClass RX10 = some m.cls := findClass_of_methodNamed B.named
  have hlocks := B.notSynchronized
  subst hsz
  have hD := hD0.self (sz := s.heap.size)
  generalize hAe : va_A [(a_y, .inr (10, [.int y_n, .ref a_y_list, .int y_sets, .ref a_y_others, .int y_otherMany, .ref a_y_costs, .long y_above, .long y_below, .ref a_y_table, .long y_by, .ref a_y_basis, .ref a_y_isSeen, .ref a_y_colour, .ref a_y_rest, .ref a_y_makes, .ref a_y_worst]))] s.heap.size = A at hD hN ⊢
  have hA : ∀ q : Nat, s.heap.size ≤ q → A q := fun q h => by rw [← hAe]; exact Or.inr h
  have hS : va_S A s.heap s.heap [] := va_S.rf
  have hP : va_P (dC, dI) vwCl [(a_y, .inr (10, [.int y_n, .ref a_y_list, .int y_sets, .ref a_y_others, .int y_otherMany, .ref a_y_costs, .long y_above, .long y_below, .ref a_y_table, .long y_by, .ref a_y_basis, .ref a_y_isSeen, .ref a_y_colour, .ref a_y_rest, .ref a_y_makes, .ref a_y_worst]))] s.heap := hP
  have hl := lv_entry ([.ref a_y, .int p1]) (n := 2) (Nat.le_of_ble_eq_true rfl)
  rw [lg_entry_eq]
  generalize (lg_sl ([.ref a_y, .int p1]) ++ List.replicate (2 - (lg_sl ([.ref a_y, .int p1])).length) Slot.unset).toArray = ls at hl ⊢
  have hl : lv_has ls 2 [(0, .ref a_y), (1, .int p1)] := hl
  have hiX10 : ∀ w ∈ wsX100, w ∈ wsX10_ground := fun _ h => List.mem_cons_of_mem _ (List.mem_append_right _ h)
  have hf43 := hts (.fieldLink RX10 43 "MeetSetsModel" "n" "I") (t1_ (al_ (t1_ h1_)))
  have hf61 := hts (.fieldLink RX10 61 "MeetSetsModel" "sets" "I") (t1_ (al_ (t1_ (t1_ h1_))))
  have hf64 := hts (.fieldLink RX10 64 "MeetSetsModel" "otherMany" "I") (t1_ (al_ (t1_ (t1_ (t1_ h1_)))))
  refine w_abs (fun Z hZv hZw => ?_)
  refine hZv ?_
  obtain ⟨H, hH⟩ : ∃ H, H = s.heap := ⟨_, rfl⟩
  obtain ⟨locs, hlo⟩ : ∃ L : List Loc, L = [] := ⟨_, rfl⟩
  rw [← hlo, ← hH]
  have hS : va_S A s.heap H locs := by rw [hlo, hH]; exact hS
  have hP : va_P (dC, dI) vwCl [(a_y, .inr (10, [.int y_n, .ref a_y_list, .int y_sets, .ref a_y_others, .int y_otherMany, .ref a_y_costs, .long y_above, .long y_below, .ref a_y_table, .long y_by, .ref a_y_basis, .ref a_y_isSeen, .ref a_y_colour, .ref a_y_rest, .ref a_y_makes, .ref a_y_worst]))] H := by rw [hH]; exact hP
  clear hH hlo
  unfold pX10_ground at hs
  refine lv_iload_n hx hb dX10_ground_0 rfl (lv_at hl 1 rfl) ?_
  refine lv_i2l (v := p1.toInt64) hx hb dX10_ground_1 rfl ?_
  refine lv_lconst (v := 1) hx hb dX10_ground_2 (by decide) ?_
  refine lv_ldc2 (v := 10) hx hb hown (hts (.constantLong RX10 59 (10)) (t1_ (al_ h1_))) dX10_ground_3 ?_
  obtain ⟨r1, hr1, hs⟩ := bd_s hs
  refine kc_i (isC := []) (isR := [0]) (pm := [0]) (wr := [(a_y, .inr (10, [.int y_n, .ref a_y_list, .int y_sets, .ref a_y_others, .int y_otherMany, .ref a_y_costs, .long y_above, .long y_below, .ref a_y_table, .long y_by, .ref a_y_basis, .ref a_y_isSeen, .ref a_y_colour, .ref a_y_rest, .ref a_y_makes, .ref a_y_worst]))]) (w1 := []) (w2 := [(a_y, .inr (10, [.int y_n, .ref a_y_list, .int y_sets, .ref a_y_others, .int y_otherMany, .ref a_y_costs, .long y_above, .long y_below, .ref a_y_table, .long y_by, .ref a_y_basis, .ref a_y_isSeen, .ref a_y_colour, .ref a_y_rest, .ref a_y_makes, .ref a_y_worst]))]) (va_runS (As := [.long p1.toInt64, .long 1, .long 10]) (rest := []) ⟨hx, hb, hml, hown, hts⟩ (c_X10_in l dC dI H.size p1.toInt64 1 10 r1 hr1) (va_cwS 3 hts gX10_ground_X10_in rfl rfl rfl (by decide +kernel) ⟨Nat.le_of_ble_eq_true rfl, Nat.le_of_ble_eq_true rfl⟩) (kp_S hK hP hD hS hA hN (isC := []) (isT := []) (wc := []) rfl (by decide +kernel) rfl) rfl rfl hl.1 rfl (lv_room (Nat.le_of_ble_eq_true rfl)) dX10_ground_6 ⟨Nat.le_of_ble_eq_true rfl, Nat.le_of_ble_eq_true rfl⟩) hP hD hS hA rfl rfl (by decide +kernel) (by decide +kernel) rfl (by decide +kernel) (fun H locs hP hD hS => ?_)
  refine lv_if_ne (tgt := 15) hx hb dX10_ground_9 (by decide) (fun hc => ?_) (fun hc => ?_)
  · replace hs := it_f hc hs
    refine lv_aload_n hx hb dX10_ground_15 rfl (lv_at hl 0 rfl) ?_
    refine lv_iload_n hx hb dX10_ground_16 rfl (lv_at hl 1 rfl) ?_
    refine va_put (D := (dC, dI)) (ci := 10) (v := .int p1) (ty := .int) (C := RX10) (T := TX10) (N := 16) hx hb hts hiX10 tyX10 tyX10_ok nmX10 hown hK hP hD hS 0 rfl rfl 0 (by decide) hf43 (fun _ h9 => h9) rfl (by decide +kernel) rfl rfl (Nat.le_of_ble_eq_true rfl) dX10_ground_17 (fun H locs hP hD hS => ?_)
    have hP : va_P (dC, dI) vwCl [(a_y, .inr (10, [.int p1, .ref a_y_list, .int y_sets, .ref a_y_others, .int y_otherMany, .ref a_y_costs, .long y_above, .long y_below, .ref a_y_table, .long y_by, .ref a_y_basis, .ref a_y_isSeen, .ref a_y_colour, .ref a_y_rest, .ref a_y_makes, .ref a_y_worst]))] H := hP
    have hD : va_D A [(a_y, .inr (10, [.int p1, .ref a_y_list, .int y_sets, .ref a_y_others, .int y_otherMany, .ref a_y_costs, .long y_above, .long y_below, .ref a_y_table, .long y_by, .ref a_y_basis, .ref a_y_isSeen, .ref a_y_colour, .ref a_y_rest, .ref a_y_makes, .ref a_y_worst]))] := hD
    refine lv_aload_n hx hb dX10_ground_20 rfl (lv_at hl 0 rfl) ?_
    refine lv_iconst (v := 0) hx hb dX10_ground_21 (by decide) ?_
    refine va_put (D := (dC, dI)) (ci := 10) (v := .int 0) (ty := .int) (C := RX10) (T := TX10) (N := 16) hx hb hts hiX10 tyX10 tyX10_ok nmX10 hown hK hP hD hS 0 rfl rfl 2 (by decide) hf61 (fun _ h9 => h9) rfl (by decide +kernel) rfl rfl (Nat.le_of_ble_eq_true rfl) dX10_ground_22 (fun H locs hP hD hS => ?_)
    have hP : va_P (dC, dI) vwCl [(a_y, .inr (10, [.int p1, .ref a_y_list, .int 0, .ref a_y_others, .int y_otherMany, .ref a_y_costs, .long y_above, .long y_below, .ref a_y_table, .long y_by, .ref a_y_basis, .ref a_y_isSeen, .ref a_y_colour, .ref a_y_rest, .ref a_y_makes, .ref a_y_worst]))] H := hP
    have hD : va_D A [(a_y, .inr (10, [.int p1, .ref a_y_list, .int 0, .ref a_y_others, .int y_otherMany, .ref a_y_costs, .long y_above, .long y_below, .ref a_y_table, .long y_by, .ref a_y_basis, .ref a_y_isSeen, .ref a_y_colour, .ref a_y_rest, .ref a_y_makes, .ref a_y_worst]))] := hD
    refine lv_aload_n hx hb dX10_ground_25 rfl (lv_at hl 0 rfl) ?_
    refine lv_iconst (v := 0) hx hb dX10_ground_26 (by decide) ?_
    refine va_put (D := (dC, dI)) (ci := 10) (v := .int 0) (ty := .int) (C := RX10) (T := TX10) (N := 16) hx hb hts hiX10 tyX10 tyX10_ok nmX10 hown hK hP hD hS 0 rfl rfl 4 (by decide) hf64 (fun _ h9 => h9) rfl (by decide +kernel) rfl rfl (Nat.le_of_ble_eq_true rfl) dX10_ground_27 (fun H locs hP hD hS => ?_)
    have hP : va_P (dC, dI) vwCl [(a_y, .inr (10, [.int p1, .ref a_y_list, .int 0, .ref a_y_others, .int 0, .ref a_y_costs, .long y_above, .long y_below, .ref a_y_table, .long y_by, .ref a_y_basis, .ref a_y_isSeen, .ref a_y_colour, .ref a_y_rest, .ref a_y_makes, .ref a_y_worst]))] H := hP
    have hD : va_D A [(a_y, .inr (10, [.int p1, .ref a_y_list, .int 0, .ref a_y_others, .int 0, .ref a_y_costs, .long y_above, .long y_below, .ref a_y_table, .long y_by, .ref a_y_basis, .ref a_y_isSeen, .ref a_y_colour, .ref a_y_rest, .ref a_y_makes, .ref a_y_worst]))] := hD
    refine lv_iconst (v := 1) hx hb dX10_ground_30 (by decide) ?_
    replace hs := Option.some.inj hs
    subst hs
    exact W.iret (v := 1) hx hb hr (fun t ht hW => ⟨⟨1, (), rfl, rfl, by rw [ht]; exact hP, va_K.moved hW.alike hK, hD⟩, hS.F ht⟩) hS.2.2 dX10_ground_31
  · replace hs := it_t hc hs
    refine lv_bipush (v := (-2)) hx hb dX10_ground_12 (by decide) ?_
    replace hs := Option.some.inj hs
    subst hs
    exact W.iret (v := (-2)) hx hb hr (fun t ht hW => ⟨⟨(-2), (), rfl, rfl, by rw [ht]; exact hP, va_K.moved hW.alike hK, hD⟩, hS.F ht⟩) hS.2.2 dX10_ground_14
noncomputable def pX10_set_L19 (y_sets : Int32) (y_list : Nat → Int32) (p1 : Int32) (s19 : Int32) : Option ((Int32) ⊕ ((Unit) ⊕ (Unit))) :=
  if y_sets ≤ s19 then (some (Sum.inr (Sum.inr ()))) else (gd (vp_in s19 16) (if (y_list s19.toNatClampNeg) = p1 then (some (Sum.inr (Sum.inl ()))) else (some (Sum.inl (s19 + 1)))))
noncomputable def pX10_set (y_n : Int32) (y_sets : Int32) (y_list : Nat → Int32) (p1 : Int32) : Option (Int32 × Int32 × (Nat → Int32)) :=
  Option.bind (pX10_all y_n) (fun r1 => Option.bind (pX10_in p1.toInt64 1 r1.toInt64) (fun r2 => if r2 = 0 then (some ((-2), y_sets, y_list)) else (Option.bind (lp (pX10_set_L19 y_sets y_list p1) 0) (Sum.elim (fun e19_0 => some ((-2), y_sets, y_list)) (fun e19_1 => if y_sets = 16 then (some ((-4), y_sets, y_list)) else (gd (vp_in y_sets 16) (some ((y_sets + 1) - 1, y_sets + 1, upd y_list y_sets.toNatClampNeg p1))))))))
set_option maxHeartbeats 4000000 in
set_option maxRecDepth 100000 in
theorem c_X10_set (l : Launch) (dC : Nat → ClassId) (dI : Nat → Nat → Nat) (a_y : Nat) (a_y_list : Nat) (a_y_others : Nat) (a_y_costs : Nat) (a_y_table : Nat) (a_y_basis : Nat) (a_y_isSeen : Nat) (a_y_colour : Nat) (a_y_rest : Nat) (a_y_makes : Nat) (a_y_worst : Nat) (c_y_list : ClassId) (sz : Nat) (y_n : Int32) (y_sets : Int32) (y_otherMany : Int32) (y_above : Int64) (y_below : Int64) (y_by : Int64) (y_list : Nat → Int32) (p1 : Int32) (rv : Int32 × Int32 × (Nat → Int32)) (hs : pX10_set y_n y_sets y_list p1 = some rv) : Met l yX10_set wsX10_set ({ frames := 1, cells := 0, slots := 0, locals := 25 }) (sPc [.ref a_y, .int p1] (dC, dI) [(c_y_list, .int)] [(a_y, .inr (10, [.int y_n, .ref a_y_list, .int y_sets, .ref a_y_others, .int y_otherMany, .ref a_y_costs, .long y_above, .long y_below, .ref a_y_table, .long y_by, .ref a_y_basis, .ref a_y_isSeen, .ref a_y_colour, .ref a_y_rest, .ref a_y_makes, .ref a_y_worst])), (a_y_list, .inl (c_y_list, 16, .inl y_list))] sz) (va_Qi (fun (r : Int32) (_ : Unit) => r = rv.1) (sB (dC, dI) [(c_y_list, .int)] (va_A [(a_y, .inr (10, [.int y_n, .ref a_y_list, .int y_sets, .ref a_y_others, .int y_otherMany, .ref a_y_costs, .long y_above, .long y_below, .ref a_y_table, .long y_by, .ref a_y_basis, .ref a_y_isSeen, .ref a_y_colour, .ref a_y_rest, .ref a_y_makes, .ref a_y_worst])), (a_y_list, .inl (c_y_list, 16, .inl y_list))] sz) [(a_y, .inr (10, [.int y_n, .ref a_y_list, .int rv.2.1, .ref a_y_others, .int y_otherMany, .ref a_y_costs, .long y_above, .long y_below, .ref a_y_table, .long y_by, .ref a_y_basis, .ref a_y_isSeen, .ref a_y_colour, .ref a_y_rest, .ref a_y_makes, .ref a_y_worst])), (a_y_list, .inl (c_y_list, 16, .inl rv.2.2))]) (va_A [(a_y, .inr (10, [.int y_n, .ref a_y_list, .int y_sets, .ref a_y_others, .int y_otherMany, .ref a_y_costs, .long y_above, .long y_below, .ref a_y_table, .long y_by, .ref a_y_basis, .ref a_y_isSeen, .ref a_y_colour, .ref a_y_rest, .ref a_y_makes, .ref a_y_worst])), (a_y_list, .inl (c_y_list, 16, .inl y_list))] sz)) 0 0 (va_A [(a_y, .inr (10, [.int y_n, .ref a_y_list, .int y_sets, .ref a_y_others, .int y_otherMany, .ref a_y_costs, .long y_above, .long y_below, .ref a_y_table, .long y_by, .ref a_y_basis, .ref a_y_isSeen, .ref a_y_colour, .ref a_y_rest, .ref a_y_makes, .ref a_y_worst])), (a_y_list, .inl (c_y_list, 16, .inl y_list))] sz) := by
  refine Met.ofW (cc := cX10_set) (maxL := 3) (ret := (some .int)) (by decide) rfl ?_
  intro p e s m args below meth c s₁ B hml hv
  obtain ⟨rfl, hsz, hP, hK, hD0, hN⟩ := hv
  have hx := B.exec
  have hb := B.bytes
  have hr := B.returns
  have hts := atoms_spec (ws := wsX10_set) B.pre
  have hown : s.vm.findClass RX10 = some m.cls := findClass_of_methodNamed B.named
  have hlocks := B.notSynchronized
  subst hsz
  have hD := hD0.self (sz := s.heap.size)
  generalize hAe : va_A [(a_y, .inr (10, [.int y_n, .ref a_y_list, .int y_sets, .ref a_y_others, .int y_otherMany, .ref a_y_costs, .long y_above, .long y_below, .ref a_y_table, .long y_by, .ref a_y_basis, .ref a_y_isSeen, .ref a_y_colour, .ref a_y_rest, .ref a_y_makes, .ref a_y_worst])), (a_y_list, .inl (c_y_list, 16, .inl y_list))] s.heap.size = A at hD hN ⊢
  have hA : ∀ q : Nat, s.heap.size ≤ q → A q := fun q h => by rw [← hAe]; exact Or.inr h
  have hS : va_S A s.heap s.heap [] := va_S.rf
  have hP : va_P (dC, dI) vwCl [(a_y, .inr (10, [.int y_n, .ref a_y_list, .int y_sets, .ref a_y_others, .int y_otherMany, .ref a_y_costs, .long y_above, .long y_below, .ref a_y_table, .long y_by, .ref a_y_basis, .ref a_y_isSeen, .ref a_y_colour, .ref a_y_rest, .ref a_y_makes, .ref a_y_worst])), (a_y_list, .inl (c_y_list, 16, .inl y_list))] s.heap := hP
  have hl := lv_entry ([.ref a_y, .int p1]) (n := 3) (Nat.le_of_ble_eq_true rfl)
  rw [lg_entry_eq]
  generalize (lg_sl ([.ref a_y, .int p1]) ++ List.replicate (3 - (lg_sl ([.ref a_y, .int p1])).length) Slot.unset).toArray = ls at hl ⊢
  have hl : lv_has ls 3 [(0, .ref a_y), (1, .int p1)] := hl
  have hiX10 : ∀ w ∈ wsX100, w ∈ wsX10_set := fun _ h => List.mem_cons_of_mem _ (List.mem_append_right _ h)
  have hf61 := hts (.fieldLink RX10 61 "MeetSetsModel" "sets" "I") (t1_ (al_ h1_))
  have hf7 := hts (.fieldLink RX10 7 "MeetSetsModel" "list" "[I") (t1_ (al_ (t1_ h1_)))
  refine w_abs (fun Z hZv hZw => ?_)
  refine hZv ?_
  obtain ⟨H, hH⟩ : ∃ H, H = s.heap := ⟨_, rfl⟩
  obtain ⟨locs, hlo⟩ : ∃ L : List Loc, L = [] := ⟨_, rfl⟩
  rw [← hlo, ← hH]
  have hS : va_S A s.heap H locs := by rw [hlo, hH]; exact hS
  have hP : va_P (dC, dI) vwCl [(a_y, .inr (10, [.int y_n, .ref a_y_list, .int y_sets, .ref a_y_others, .int y_otherMany, .ref a_y_costs, .long y_above, .long y_below, .ref a_y_table, .long y_by, .ref a_y_basis, .ref a_y_isSeen, .ref a_y_colour, .ref a_y_rest, .ref a_y_makes, .ref a_y_worst])), (a_y_list, .inl (c_y_list, 16, .inl y_list))] H := by rw [hH]; exact hP
  clear hH hlo
  unfold pX10_set at hs
  refine lv_iload_n hx hb dX10_set_0 rfl (lv_at hl 1 rfl) ?_
  refine lv_i2l (v := p1.toInt64) hx hb dX10_set_1 rfl ?_
  refine lv_lconst (v := 1) hx hb dX10_set_2 (by decide) ?_
  refine lv_aload_n hx hb dX10_set_3 rfl (lv_at hl 0 rfl) ?_
  obtain ⟨r1, hr1, hs⟩ := bd_s hs
  refine kc_i (isC := [0]) (isR := [1]) (pm := [1, 0]) (wr := [(a_y_list, .inl (c_y_list, 16, .inl y_list))]) (w1 := [(a_y, .inr (10, [.int y_n, .ref a_y_list, .int y_sets, .ref a_y_others, .int y_otherMany, .ref a_y_costs, .long y_above, .long y_below, .ref a_y_table, .long y_by, .ref a_y_basis, .ref a_y_isSeen, .ref a_y_colour, .ref a_y_rest, .ref a_y_makes, .ref a_y_worst]))]) (w2 := [(a_y, .inr (10, [.int y_n, .ref a_y_list, .int y_sets, .ref a_y_others, .int y_otherMany, .ref a_y_costs, .long y_above, .long y_below, .ref a_y_table, .long y_by, .ref a_y_basis, .ref a_y_isSeen, .ref a_y_colour, .ref a_y_rest, .ref a_y_makes, .ref a_y_worst])), (a_y_list, .inl (c_y_list, 16, .inl y_list))]) (va_runV (As := []) (rest := [.long 1, .long p1.toInt64]) ⟨hx, hb, hml, hown, hts⟩ (c_X10_all l dC dI a_y a_y_list a_y_others a_y_costs a_y_table a_y_basis a_y_isSeen a_y_colour a_y_rest a_y_makes a_y_worst H.size y_n y_sets y_otherMany y_above y_below y_by r1 hr1) (cwV 0 hts gX10_set_X10_all rfl rfl rfl (by decide +kernel) ⟨Nat.le_of_ble_eq_true rfl, Nat.le_of_ble_eq_true rfl⟩) (kp_V hK hP hD hS hA hN (isC := [0]) (isT := []) (wc := [(a_y, .inr (10, [.int y_n, .ref a_y_list, .int y_sets, .ref a_y_others, .int y_otherMany, .ref a_y_costs, .long y_above, .long y_below, .ref a_y_table, .long y_by, .ref a_y_basis, .ref a_y_isSeen, .ref a_y_colour, .ref a_y_rest, .ref a_y_makes, .ref a_y_worst]))]) rfl (by decide +kernel) rfl (ci := 10) (q0 := 0) rfl rfl) rfl rfl hl.1 rfl (lv_room (Nat.le_of_ble_eq_true rfl)) dX10_set_4 ⟨Nat.le_of_ble_eq_true rfl, Nat.le_of_ble_eq_true rfl⟩) hP hD hS hA rfl rfl (by decide +kernel) (by decide +kernel) rfl (by decide +kernel) (fun H locs hP hD hS => ?_)
  refine lv_i2l (v := r1.toInt64) hx hb dX10_set_7 rfl ?_
  obtain ⟨r2, hr2, hs⟩ := bd_s hs
  refine kc_i (isC := []) (isR := [0, 1]) (pm := [0, 1]) (wr := [(a_y, .inr (10, [.int y_n, .ref a_y_list, .int y_sets, .ref a_y_others, .int y_otherMany, .ref a_y_costs, .long y_above, .long y_below, .ref a_y_table, .long y_by, .ref a_y_basis, .ref a_y_isSeen, .ref a_y_colour, .ref a_y_rest, .ref a_y_makes, .ref a_y_worst])), (a_y_list, .inl (c_y_list, 16, .inl y_list))]) (w1 := []) (w2 := [(a_y, .inr (10, [.int y_n, .ref a_y_list, .int y_sets, .ref a_y_others, .int y_otherMany, .ref a_y_costs, .long y_above, .long y_below, .ref a_y_table, .long y_by, .ref a_y_basis, .ref a_y_isSeen, .ref a_y_colour, .ref a_y_rest, .ref a_y_makes, .ref a_y_worst])), (a_y_list, .inl (c_y_list, 16, .inl y_list))]) (va_runS (As := [.long p1.toInt64, .long 1, .long r1.toInt64]) (rest := []) ⟨hx, hb, hml, hown, hts⟩ (c_X10_in l dC dI H.size p1.toInt64 1 r1.toInt64 r2 hr2) (va_cwS 3 hts gX10_set_X10_in rfl rfl rfl (by decide +kernel) ⟨Nat.le_of_ble_eq_true rfl, Nat.le_of_ble_eq_true rfl⟩) (kp_S hK hP hD hS hA hN (isC := []) (isT := []) (wc := []) rfl (by decide +kernel) rfl) rfl rfl hl.1 rfl (lv_room (Nat.le_of_ble_eq_true rfl)) dX10_set_8 ⟨Nat.le_of_ble_eq_true rfl, Nat.le_of_ble_eq_true rfl⟩) hP hD hS hA rfl rfl (by decide +kernel) (by decide +kernel) rfl (by decide +kernel) (fun H locs hP hD hS => ?_)
  refine lv_if_ne (tgt := 17) hx hb dX10_set_11 (by decide) (fun hc => ?_) (fun hc => ?_)
  · replace hs := it_f hc hs
    refine lv_iconst (v := 0) hx hb dX10_set_17 (by decide) ?_
    refine lv_istore_n (lv' := [(2, .int 0), (0, .ref a_y), (1, .int p1)]) hx hb dX10_set_18 rfl hl (by decide) rfl (fun ls hl => ?_)
    obtain ⟨e19, he19, hs⟩ := bd_s hs
    have hX19_0 : ∀ (e19_0 : Unit), (Sum.inl e19_0) = e19 → ∀ (H : Heap) (locs : List Loc) (ls : Array Slot), va_P (dC, dI) vwCl [(a_y, .inr (10, [.int y_n, .ref a_y_list, .int y_sets, .ref a_y_others, .int y_otherMany, .ref a_y_costs, .long y_above, .long y_below, .ref a_y_table, .long y_by, .ref a_y_basis, .ref a_y_isSeen, .ref a_y_colour, .ref a_y_rest, .ref a_y_makes, .ref a_y_worst])), (a_y_list, .inl (c_y_list, 16, .inl y_list))] H → va_D A [(a_y, .inr (10, [.int y_n, .ref a_y_list, .int y_sets, .ref a_y_others, .int y_otherMany, .ref a_y_costs, .long y_above, .long y_below, .ref a_y_table, .long y_by, .ref a_y_basis, .ref a_y_isSeen, .ref a_y_colour, .ref a_y_rest, .ref a_y_makes, .ref a_y_worst])), (a_y_list, .inl (c_y_list, 16, .inl y_list))] → va_S A s.heap H locs → lv_has ls 3 [] → Z H locs 0 0 (F0 m 37 ls []) := by
      intro e19_0 he H locs ls hP hD hS hl
      subst he
      replace hs := sm_l hs
      refine hZv ?_
      refine lv_bipush (v := (-2)) hx hb dX10_set_37 (by decide) ?_
      replace hs := Option.some.inj hs
      subst hs
      exact W.iret (v := (-2)) hx hb hr (fun t ht hW => ⟨⟨(-2), (), rfl, rfl, by rw [ht]; exact hP, va_K.moved hW.alike hK, hD⟩, hS.F ht⟩) hS.2.2 dX10_set_39
    have hX19_1 : ∀ (e19_1 : Unit), (Sum.inr e19_1) = e19 → ∀ (H : Heap) (locs : List Loc) (ls : Array Slot), va_P (dC, dI) vwCl [(a_y, .inr (10, [.int y_n, .ref a_y_list, .int y_sets, .ref a_y_others, .int y_otherMany, .ref a_y_costs, .long y_above, .long y_below, .ref a_y_table, .long y_by, .ref a_y_basis, .ref a_y_isSeen, .ref a_y_colour, .ref a_y_rest, .ref a_y_makes, .ref a_y_worst])), (a_y_list, .inl (c_y_list, 16, .inl y_list))] H → va_D A [(a_y, .inr (10, [.int y_n, .ref a_y_list, .int y_sets, .ref a_y_others, .int y_otherMany, .ref a_y_costs, .long y_above, .long y_below, .ref a_y_table, .long y_by, .ref a_y_basis, .ref a_y_isSeen, .ref a_y_colour, .ref a_y_rest, .ref a_y_makes, .ref a_y_worst])), (a_y_list, .inl (c_y_list, 16, .inl y_list))] → va_S A s.heap H locs → lv_has ls 3 [(0, .ref a_y), (1, .int p1)] → Z H locs 0 0 (F0 m 46 ls []) := by
      intro e19_1 he H locs ls hP hD hS hl
      subst he
      replace hs := sm_r hs
      refine hZv ?_
      refine lv_aload_n hx hb dX10_set_46 rfl (lv_at hl 0 rfl) ?_
      refine va_get (D := (dC, dI)) (ci := 10) (v := .int y_sets) (C := RX10) (T := TX10) (N := 16) hx hb hts hiX10 hown hK hP 0 rfl rfl 2 (by decide) hf61 (fun _ h9 => h9) rfl dX10_set_47 ?_
      refine lv_bipush (v := 16) hx hb dX10_set_50 (by decide) ?_
      refine lv_icmp_ne (tgt := 58) hx hb dX10_set_52 (by decide) (fun hc => ?_) (fun hc => ?_)
      · replace hs := it_f hc hs
        refine lv_aload_n hx hb dX10_set_58 rfl (lv_at hl 0 rfl) ?_
        refine va_get (D := (dC, dI)) (ci := 10) (v := .ref a_y_list) (C := RX10) (T := TX10) (N := 16) hx hb hts hiX10 hown hK hP 0 rfl rfl 1 (by decide) hf7 (fun _ h9 => h9) rfl dX10_set_59 ?_
        refine lv_aload_n hx hb dX10_set_62 rfl (lv_at hl 0 rfl) ?_
        refine va_get (D := (dC, dI)) (ci := 10) (v := .int y_sets) (C := RX10) (T := TX10) (N := 16) hx hb hts hiX10 hown hK hP 0 rfl rfl 2 (by decide) hf61 (fun _ h9 => h9) rfl dX10_set_63 ?_
        refine lv_iload_n hx hb dX10_set_66 rfl (lv_at hl 1 rfl) ?_
        obtain ⟨hg5, hs⟩ := gd_s hs
        refine va_iast hx hb hK hP hD hS 1 0 rfl rfl hg5 dX10_set_67 (fun H locs hP hD hS => ?_)
        have hP : va_P (dC, dI) vwCl [(a_y, .inr (10, [.int y_n, .ref a_y_list, .int y_sets, .ref a_y_others, .int y_otherMany, .ref a_y_costs, .long y_above, .long y_below, .ref a_y_table, .long y_by, .ref a_y_basis, .ref a_y_isSeen, .ref a_y_colour, .ref a_y_rest, .ref a_y_makes, .ref a_y_worst])), (a_y_list, .inl (c_y_list, 16, .inl (upd y_list y_sets.toNatClampNeg p1)))] H := hP
        have hD : va_D A [(a_y, .inr (10, [.int y_n, .ref a_y_list, .int y_sets, .ref a_y_others, .int y_otherMany, .ref a_y_costs, .long y_above, .long y_below, .ref a_y_table, .long y_by, .ref a_y_basis, .ref a_y_isSeen, .ref a_y_colour, .ref a_y_rest, .ref a_y_makes, .ref a_y_worst])), (a_y_list, .inl (c_y_list, 16, .inl (upd y_list y_sets.toNatClampNeg p1)))] := hD
        refine lv_aload_n hx hb dX10_set_68 rfl (lv_at hl 0 rfl) ?_
        refine lv_dup hx hb dX10_set_69 rfl ?_
        refine va_get (D := (dC, dI)) (ci := 10) (v := .int y_sets) (C := RX10) (T := TX10) (N := 16) hx hb hts hiX10 hown hK hP 0 rfl rfl 2 (by decide) hf61 (fun _ h9 => h9) rfl dX10_set_70 ?_
        refine lv_iconst (v := 1) hx hb dX10_set_73 (by decide) ?_
        refine lv_iadd hx hb dX10_set_74 ?_
        refine va_put (D := (dC, dI)) (ci := 10) (v := .int (y_sets + 1)) (ty := .int) (C := RX10) (T := TX10) (N := 16) hx hb hts hiX10 tyX10 tyX10_ok nmX10 hown hK hP hD hS 0 rfl rfl 2 (by decide) hf61 (fun _ h9 => h9) rfl (by decide +kernel) rfl rfl (Nat.le_of_ble_eq_true rfl) dX10_set_75 (fun H locs hP hD hS => ?_)
        have hP : va_P (dC, dI) vwCl [(a_y, .inr (10, [.int y_n, .ref a_y_list, .int (y_sets + 1), .ref a_y_others, .int y_otherMany, .ref a_y_costs, .long y_above, .long y_below, .ref a_y_table, .long y_by, .ref a_y_basis, .ref a_y_isSeen, .ref a_y_colour, .ref a_y_rest, .ref a_y_makes, .ref a_y_worst])), (a_y_list, .inl (c_y_list, 16, .inl (upd y_list y_sets.toNatClampNeg p1)))] H := hP
        have hD : va_D A [(a_y, .inr (10, [.int y_n, .ref a_y_list, .int (y_sets + 1), .ref a_y_others, .int y_otherMany, .ref a_y_costs, .long y_above, .long y_below, .ref a_y_table, .long y_by, .ref a_y_basis, .ref a_y_isSeen, .ref a_y_colour, .ref a_y_rest, .ref a_y_makes, .ref a_y_worst])), (a_y_list, .inl (c_y_list, 16, .inl (upd y_list y_sets.toNatClampNeg p1)))] := hD
        refine lv_aload_n hx hb dX10_set_78 rfl (lv_at hl 0 rfl) ?_
        refine va_get (D := (dC, dI)) (ci := 10) (v := .int (y_sets + 1)) (C := RX10) (T := TX10) (N := 16) hx hb hts hiX10 hown hK hP 0 rfl rfl 2 (by decide) hf61 (fun _ h9 => h9) rfl dX10_set_79 ?_
        refine lv_iconst (v := 1) hx hb dX10_set_82 (by decide) ?_
        refine lv_isub hx hb dX10_set_83 ?_
        replace hs := Option.some.inj hs
        subst hs
        exact W.iret (v := (y_sets + 1) - 1) hx hb hr (fun t ht hW => ⟨⟨(y_sets + 1) - 1, (), rfl, rfl, by rw [ht]; exact hP, va_K.moved hW.alike hK, hD⟩, hS.F ht⟩) hS.2.2 dX10_set_84
      · replace hs := it_t hc hs
        refine lv_bipush (v := (-4)) hx hb dX10_set_55 (by decide) ?_
        replace hs := Option.some.inj hs
        subst hs
        exact W.iret (v := (-4)) hx hb hr (fun t ht hW => ⟨⟨(-4), (), rfl, rfl, by rw [ht]; exact hP, va_K.moved hW.alike hK, hD⟩, hS.F ht⟩) hS.2.2 dX10_set_57
    clear hs
    have hL19 : ∀ (n : Nat) (s19 : Int32) (H : Heap) (locs : List Loc) (ls : Array Slot), itr (pX10_set_L19 y_sets y_list p1) n s19 = some e19 → va_P (dC, dI) vwCl [(a_y, .inr (10, [.int y_n, .ref a_y_list, .int y_sets, .ref a_y_others, .int y_otherMany, .ref a_y_costs, .long y_above, .long y_below, .ref a_y_table, .long y_by, .ref a_y_basis, .ref a_y_isSeen, .ref a_y_colour, .ref a_y_rest, .ref a_y_makes, .ref a_y_worst])), (a_y_list, .inl (c_y_list, 16, .inl y_list))] H → va_D A [(a_y, .inr (10, [.int y_n, .ref a_y_list, .int y_sets, .ref a_y_others, .int y_otherMany, .ref a_y_costs, .long y_above, .long y_below, .ref a_y_table, .long y_by, .ref a_y_basis, .ref a_y_isSeen, .ref a_y_colour, .ref a_y_rest, .ref a_y_makes, .ref a_y_worst])), (a_y_list, .inl (c_y_list, 16, .inl y_list))] → va_S A s.heap H locs → lv_has ls 3 [(0, .ref a_y), (1, .int p1), (2, .int s19)] → Z H locs 0 0 (F0 m 19 ls []) := by
      intro n
      induction n with
      | zero =>
        intro s19 H locs ls hn
        exact (itr_0 hn).elim
      | succ n ih =>
        intro s19 H locs ls hn hP hD hS hl
        obtain ⟨y3, hs, hn⟩ := itr_s hn
        unfold pX10_set_L19 at hs
        refine hZv ?_
        refine lv_iload_n hx hb dX10_set_19 rfl (lv_at hl 2 rfl) ?_
        refine lv_aload_n hx hb dX10_set_20 rfl (lv_at hl 0 rfl) ?_
        refine va_get (D := (dC, dI)) (ci := 10) (v := .int y_sets) (C := RX10) (T := TX10) (N := 16) hx hb hts hiX10 hown hK hP 0 rfl rfl 2 (by decide) hf61 (fun _ h9 => h9) rfl dX10_set_21 ?_
        refine lv_icmp_ge (tgt := 46) hx hb dX10_set_24 (by decide) (fun hc => ?_) (fun hc => ?_)
        · replace hs := it_t hc hs
          replace hs := Option.some.inj hs
          subst hs
          obtain rfl : (Sum.inr ()) = e19 := hn
          exact hZw (hX19_1 () rfl H locs ls hP hD hS (lv_sub hl [0, 1] rfl))
        · replace hs := it_f hc hs
          refine lv_aload_n hx hb dX10_set_27 rfl (lv_at hl 0 rfl) ?_
          refine va_get (D := (dC, dI)) (ci := 10) (v := .ref a_y_list) (C := RX10) (T := TX10) (N := 16) hx hb hts hiX10 hown hK hP 0 rfl rfl 1 (by decide) hf7 (fun _ h9 => h9) rfl dX10_set_28 ?_
          refine lv_iload_n hx hb dX10_set_31 rfl (lv_at hl 2 rfl) ?_
          obtain ⟨hg4, hs⟩ := gd_s hs
          refine va_iald hx hb hK hP 1 0 rfl rfl hg4 dX10_set_32 ?_
          refine lv_iload_n hx hb dX10_set_33 rfl (lv_at hl 1 rfl) ?_
          refine lv_icmp_ne (tgt := 40) hx hb dX10_set_34 (by decide) (fun hc => ?_) (fun hc => ?_)
          · replace hs := it_f hc hs
            refine lv_iinc (v := s19 + 1) (lv' := [(2, .int (s19 + 1)), (0, .ref a_y), (1, .int p1)]) hx hb dX10_set_40 hl (k := 2) rfl (by rfl) (by decide) rfl (fun ls hl => ?_)
            refine lv_goto (tgt := 19) hx hb dX10_set_43 (by decide) ?_
            replace hs := Option.some.inj hs
            subst hs
            exact hZw (ih (s19 + 1) H locs ls hn hP hD hS (lv_sub hl [1, 2, 0] rfl))
          · replace hs := it_t hc hs
            replace hs := Option.some.inj hs
            subst hs
            obtain rfl : (Sum.inl ()) = e19 := hn
            exact hZw (hX19_0 () rfl H locs ls hP hD hS (lv_sub hl [] rfl))
    obtain ⟨n19, hn19⟩ := lp_ex he19
    exact hZw (hL19 n19 0 H locs ls hn19 hP hD hS (lv_sub hl [1, 2, 0] rfl))
  · replace hs := it_t hc hs
    refine lv_bipush (v := (-2)) hx hb dX10_set_14 (by decide) ?_
    replace hs := Option.some.inj hs
    subst hs
    exact W.iret (v := (-2)) hx hb hr (fun t ht hW => ⟨⟨(-2), (), rfl, rfl, by rw [ht]; exact hP, va_K.moved hW.alike hK, hD⟩, hS.F ht⟩) hS.2.2 dX10_set_16
noncomputable def pX10_drop (y_sets : Int32) (y_list : Nat → Int32) : Option (Int32 × Int32) :=
  if y_sets = 0 then (some ((-3), y_sets)) else (gd (vp_in (y_sets - 1) 16) (some (y_list (y_sets - 1).toNatClampNeg, y_sets - 1)))
set_option maxHeartbeats 4000000 in
set_option maxRecDepth 100000 in
theorem c_X10_drop (l : Launch) (dC : Nat → ClassId) (dI : Nat → Nat → Nat) (a_y : Nat) (a_y_list : Nat) (a_y_others : Nat) (a_y_costs : Nat) (a_y_table : Nat) (a_y_basis : Nat) (a_y_isSeen : Nat) (a_y_colour : Nat) (a_y_rest : Nat) (a_y_makes : Nat) (a_y_worst : Nat) (c_y_list : ClassId) (sz : Nat) (y_n : Int32) (y_sets : Int32) (y_otherMany : Int32) (y_above : Int64) (y_below : Int64) (y_by : Int64) (y_list : Nat → Int32) (rv : Int32 × Int32) (hs : pX10_drop y_sets y_list = some rv) : Met l yX10_drop wsX10_drop ({ frames := 0, cells := 0, slots := 0, locals := 0 }) (sPc [.ref a_y] (dC, dI) [(c_y_list, .int)] [(a_y, .inr (10, [.int y_n, .ref a_y_list, .int y_sets, .ref a_y_others, .int y_otherMany, .ref a_y_costs, .long y_above, .long y_below, .ref a_y_table, .long y_by, .ref a_y_basis, .ref a_y_isSeen, .ref a_y_colour, .ref a_y_rest, .ref a_y_makes, .ref a_y_worst])), (a_y_list, .inl (c_y_list, 16, .inl y_list))] sz) (va_Qi (fun (r : Int32) (_ : Unit) => r = rv.1) (sB (dC, dI) [(c_y_list, .int)] (va_A [(a_y, .inr (10, [.int y_n, .ref a_y_list, .int y_sets, .ref a_y_others, .int y_otherMany, .ref a_y_costs, .long y_above, .long y_below, .ref a_y_table, .long y_by, .ref a_y_basis, .ref a_y_isSeen, .ref a_y_colour, .ref a_y_rest, .ref a_y_makes, .ref a_y_worst])), (a_y_list, .inl (c_y_list, 16, .inl y_list))] sz) [(a_y, .inr (10, [.int y_n, .ref a_y_list, .int rv.2, .ref a_y_others, .int y_otherMany, .ref a_y_costs, .long y_above, .long y_below, .ref a_y_table, .long y_by, .ref a_y_basis, .ref a_y_isSeen, .ref a_y_colour, .ref a_y_rest, .ref a_y_makes, .ref a_y_worst])), (a_y_list, .inl (c_y_list, 16, .inl y_list))]) (va_A [(a_y, .inr (10, [.int y_n, .ref a_y_list, .int y_sets, .ref a_y_others, .int y_otherMany, .ref a_y_costs, .long y_above, .long y_below, .ref a_y_table, .long y_by, .ref a_y_basis, .ref a_y_isSeen, .ref a_y_colour, .ref a_y_rest, .ref a_y_makes, .ref a_y_worst])), (a_y_list, .inl (c_y_list, 16, .inl y_list))] sz)) 0 0 (va_A [(a_y, .inr (10, [.int y_n, .ref a_y_list, .int y_sets, .ref a_y_others, .int y_otherMany, .ref a_y_costs, .long y_above, .long y_below, .ref a_y_table, .long y_by, .ref a_y_basis, .ref a_y_isSeen, .ref a_y_colour, .ref a_y_rest, .ref a_y_makes, .ref a_y_worst])), (a_y_list, .inl (c_y_list, 16, .inl y_list))] sz) := by
  refine Met.ofW (cc := cX10_drop) (maxL := 1) (ret := (some .int)) (by decide) rfl ?_
  intro p e s m args below meth c s₁ B hml hv
  obtain ⟨rfl, hsz, hP, hK, hD0, hN⟩ := hv
  have hx := B.exec
  have hb := B.bytes
  have hr := B.returns
  have hts := atoms_spec (ws := wsX10_drop) B.pre
  have hown : s.vm.findClass RX10 = some m.cls := findClass_of_methodNamed B.named
  have hlocks := B.notSynchronized
  subst hsz
  have hD := hD0.self (sz := s.heap.size)
  generalize hAe : va_A [(a_y, .inr (10, [.int y_n, .ref a_y_list, .int y_sets, .ref a_y_others, .int y_otherMany, .ref a_y_costs, .long y_above, .long y_below, .ref a_y_table, .long y_by, .ref a_y_basis, .ref a_y_isSeen, .ref a_y_colour, .ref a_y_rest, .ref a_y_makes, .ref a_y_worst])), (a_y_list, .inl (c_y_list, 16, .inl y_list))] s.heap.size = A at hD hN ⊢
  have hA : ∀ q : Nat, s.heap.size ≤ q → A q := fun q h => by rw [← hAe]; exact Or.inr h
  have hS : va_S A s.heap s.heap [] := va_S.rf
  have hP : va_P (dC, dI) vwCl [(a_y, .inr (10, [.int y_n, .ref a_y_list, .int y_sets, .ref a_y_others, .int y_otherMany, .ref a_y_costs, .long y_above, .long y_below, .ref a_y_table, .long y_by, .ref a_y_basis, .ref a_y_isSeen, .ref a_y_colour, .ref a_y_rest, .ref a_y_makes, .ref a_y_worst])), (a_y_list, .inl (c_y_list, 16, .inl y_list))] s.heap := hP
  have hl := lv_entry ([.ref a_y]) (n := 1) (Nat.le_of_ble_eq_true rfl)
  rw [lg_entry_eq]
  generalize (lg_sl ([.ref a_y]) ++ List.replicate (1 - (lg_sl ([.ref a_y])).length) Slot.unset).toArray = ls at hl ⊢
  have hl : lv_has ls 1 [(0, .ref a_y)] := hl
  have hiX10 : ∀ w ∈ wsX100, w ∈ wsX10_drop := fun _ h => List.mem_cons_of_mem _ (List.mem_append_right _ h)
  have hf61 := hts (.fieldLink RX10 61 "MeetSetsModel" "sets" "I") (t1_ (al_ h1_))
  have hf7 := hts (.fieldLink RX10 7 "MeetSetsModel" "list" "[I") (t1_ (al_ (t1_ h1_)))
  refine w_abs (fun Z hZv hZw => ?_)
  refine hZv ?_
  obtain ⟨H, hH⟩ : ∃ H, H = s.heap := ⟨_, rfl⟩
  obtain ⟨locs, hlo⟩ : ∃ L : List Loc, L = [] := ⟨_, rfl⟩
  rw [← hlo, ← hH]
  have hS : va_S A s.heap H locs := by rw [hlo, hH]; exact hS
  have hP : va_P (dC, dI) vwCl [(a_y, .inr (10, [.int y_n, .ref a_y_list, .int y_sets, .ref a_y_others, .int y_otherMany, .ref a_y_costs, .long y_above, .long y_below, .ref a_y_table, .long y_by, .ref a_y_basis, .ref a_y_isSeen, .ref a_y_colour, .ref a_y_rest, .ref a_y_makes, .ref a_y_worst])), (a_y_list, .inl (c_y_list, 16, .inl y_list))] H := by rw [hH]; exact hP
  clear hH hlo
  unfold pX10_drop at hs
  refine lv_aload_n hx hb dX10_drop_0 rfl (lv_at hl 0 rfl) ?_
  refine va_get (D := (dC, dI)) (ci := 10) (v := .int y_sets) (C := RX10) (T := TX10) (N := 16) hx hb hts hiX10 hown hK hP 0 rfl rfl 2 (by decide) hf61 (fun _ h9 => h9) rfl dX10_drop_1 ?_
  refine lv_if_ne (tgt := 10) hx hb dX10_drop_4 (by decide) (fun hc => ?_) (fun hc => ?_)
  · replace hs := it_f hc hs
    refine lv_aload_n hx hb dX10_drop_10 rfl (lv_at hl 0 rfl) ?_
    refine lv_dup hx hb dX10_drop_11 rfl ?_
    refine va_get (D := (dC, dI)) (ci := 10) (v := .int y_sets) (C := RX10) (T := TX10) (N := 16) hx hb hts hiX10 hown hK hP 0 rfl rfl 2 (by decide) hf61 (fun _ h9 => h9) rfl dX10_drop_12 ?_
    refine lv_iconst (v := 1) hx hb dX10_drop_15 (by decide) ?_
    refine lv_isub hx hb dX10_drop_16 ?_
    refine va_put (D := (dC, dI)) (ci := 10) (v := .int (y_sets - 1)) (ty := .int) (C := RX10) (T := TX10) (N := 16) hx hb hts hiX10 tyX10 tyX10_ok nmX10 hown hK hP hD hS 0 rfl rfl 2 (by decide) hf61 (fun _ h9 => h9) rfl (by decide +kernel) rfl rfl (Nat.le_of_ble_eq_true rfl) dX10_drop_17 (fun H locs hP hD hS => ?_)
    have hP : va_P (dC, dI) vwCl [(a_y, .inr (10, [.int y_n, .ref a_y_list, .int (y_sets - 1), .ref a_y_others, .int y_otherMany, .ref a_y_costs, .long y_above, .long y_below, .ref a_y_table, .long y_by, .ref a_y_basis, .ref a_y_isSeen, .ref a_y_colour, .ref a_y_rest, .ref a_y_makes, .ref a_y_worst])), (a_y_list, .inl (c_y_list, 16, .inl y_list))] H := hP
    have hD : va_D A [(a_y, .inr (10, [.int y_n, .ref a_y_list, .int (y_sets - 1), .ref a_y_others, .int y_otherMany, .ref a_y_costs, .long y_above, .long y_below, .ref a_y_table, .long y_by, .ref a_y_basis, .ref a_y_isSeen, .ref a_y_colour, .ref a_y_rest, .ref a_y_makes, .ref a_y_worst])), (a_y_list, .inl (c_y_list, 16, .inl y_list))] := hD
    refine lv_aload_n hx hb dX10_drop_20 rfl (lv_at hl 0 rfl) ?_
    refine va_get (D := (dC, dI)) (ci := 10) (v := .ref a_y_list) (C := RX10) (T := TX10) (N := 16) hx hb hts hiX10 hown hK hP 0 rfl rfl 1 (by decide) hf7 (fun _ h9 => h9) rfl dX10_drop_21 ?_
    refine lv_aload_n hx hb dX10_drop_24 rfl (lv_at hl 0 rfl) ?_
    refine va_get (D := (dC, dI)) (ci := 10) (v := .int (y_sets - 1)) (C := RX10) (T := TX10) (N := 16) hx hb hts hiX10 hown hK hP 0 rfl rfl 2 (by decide) hf61 (fun _ h9 => h9) rfl dX10_drop_25 ?_
    obtain ⟨hg1, hs⟩ := gd_s hs
    refine va_iald hx hb hK hP 1 0 rfl rfl hg1 dX10_drop_28 ?_
    replace hs := Option.some.inj hs
    subst hs
    exact W.iret (v := y_list (y_sets - 1).toNatClampNeg) hx hb hr (fun t ht hW => ⟨⟨y_list (y_sets - 1).toNatClampNeg, (), rfl, rfl, by rw [ht]; exact hP, va_K.moved hW.alike hK, hD⟩, hS.F ht⟩) hS.2.2 dX10_drop_29
  · replace hs := it_t hc hs
    refine lv_bipush (v := (-3)) hx hb dX10_drop_7 (by decide) ?_
    replace hs := Option.some.inj hs
    subst hs
    exact W.iret (v := (-3)) hx hb hr (fun t ht hW => ⟨⟨(-3), (), rfl, rfl, by rw [ht]; exact hP, va_K.moved hW.alike hK, hD⟩, hS.F ht⟩) hS.2.2 dX10_drop_9
noncomputable def pX10_cost (y_n : Int32) (y_costs : Nat → Int32) (p1 : Int32) (p2 : Int32) : Option (Int32 × (Nat → Int32)) :=
  Option.bind (pX10_isElement y_n p1) (fun r1 => if r1 = 0 then (some ((-2), y_costs)) else (Option.bind (pX10_in p2.toInt64 0 20) (fun r2 => if r2 = 0 then (some ((-2), y_costs)) else (gd (vp_in p1 10) (gd (vp_in p1 10) (some (y_costs p1.toNatClampNeg, upd y_costs p1.toNatClampNeg p2)))))))
set_option maxHeartbeats 4000000 in
set_option maxRecDepth 100000 in
theorem c_X10_cost (l : Launch) (dC : Nat → ClassId) (dI : Nat → Nat → Nat) (a_y : Nat) (a_y_list : Nat) (a_y_others : Nat) (a_y_costs : Nat) (a_y_table : Nat) (a_y_basis : Nat) (a_y_isSeen : Nat) (a_y_colour : Nat) (a_y_rest : Nat) (a_y_makes : Nat) (a_y_worst : Nat) (c_y_costs : ClassId) (sz : Nat) (y_n : Int32) (y_sets : Int32) (y_otherMany : Int32) (y_above : Int64) (y_below : Int64) (y_by : Int64) (y_costs : Nat → Int32) (p1 : Int32) (p2 : Int32) (rv : Int32 × (Nat → Int32)) (hs : pX10_cost y_n y_costs p1 p2 = some rv) : Met l yX10_cost wsX10_cost ({ frames := 2, cells := 0, slots := 0, locals := 46 }) (sPc [.ref a_y, .int p1, .int p2] (dC, dI) [(c_y_costs, .int)] [(a_y, .inr (10, [.int y_n, .ref a_y_list, .int y_sets, .ref a_y_others, .int y_otherMany, .ref a_y_costs, .long y_above, .long y_below, .ref a_y_table, .long y_by, .ref a_y_basis, .ref a_y_isSeen, .ref a_y_colour, .ref a_y_rest, .ref a_y_makes, .ref a_y_worst])), (a_y_costs, .inl (c_y_costs, 10, .inl y_costs))] sz) (va_Qi (fun (r : Int32) (_ : Unit) => r = rv.1) (sB (dC, dI) [(c_y_costs, .int)] (va_A [(a_y, .inr (10, [.int y_n, .ref a_y_list, .int y_sets, .ref a_y_others, .int y_otherMany, .ref a_y_costs, .long y_above, .long y_below, .ref a_y_table, .long y_by, .ref a_y_basis, .ref a_y_isSeen, .ref a_y_colour, .ref a_y_rest, .ref a_y_makes, .ref a_y_worst])), (a_y_costs, .inl (c_y_costs, 10, .inl y_costs))] sz) [(a_y, .inr (10, [.int y_n, .ref a_y_list, .int y_sets, .ref a_y_others, .int y_otherMany, .ref a_y_costs, .long y_above, .long y_below, .ref a_y_table, .long y_by, .ref a_y_basis, .ref a_y_isSeen, .ref a_y_colour, .ref a_y_rest, .ref a_y_makes, .ref a_y_worst])), (a_y_costs, .inl (c_y_costs, 10, .inl rv.2))]) (va_A [(a_y, .inr (10, [.int y_n, .ref a_y_list, .int y_sets, .ref a_y_others, .int y_otherMany, .ref a_y_costs, .long y_above, .long y_below, .ref a_y_table, .long y_by, .ref a_y_basis, .ref a_y_isSeen, .ref a_y_colour, .ref a_y_rest, .ref a_y_makes, .ref a_y_worst])), (a_y_costs, .inl (c_y_costs, 10, .inl y_costs))] sz)) 0 0 (va_A [(a_y, .inr (10, [.int y_n, .ref a_y_list, .int y_sets, .ref a_y_others, .int y_otherMany, .ref a_y_costs, .long y_above, .long y_below, .ref a_y_table, .long y_by, .ref a_y_basis, .ref a_y_isSeen, .ref a_y_colour, .ref a_y_rest, .ref a_y_makes, .ref a_y_worst])), (a_y_costs, .inl (c_y_costs, 10, .inl y_costs))] sz) := by
  refine Met.ofW (cc := cX10_cost) (maxL := 4) (ret := (some .int)) (by decide) rfl ?_
  intro p e s m args below meth c s₁ B hml hv
  obtain ⟨rfl, hsz, hP, hK, hD0, hN⟩ := hv
  have hx := B.exec
  have hb := B.bytes
  have hr := B.returns
  have hts := atoms_spec (ws := wsX10_cost) B.pre
  have hown : s.vm.findClass RX10 = some m.cls := findClass_of_methodNamed B.named
  have hlocks := B.notSynchronized
  subst hsz
  have hD := hD0.self (sz := s.heap.size)
  generalize hAe : va_A [(a_y, .inr (10, [.int y_n, .ref a_y_list, .int y_sets, .ref a_y_others, .int y_otherMany, .ref a_y_costs, .long y_above, .long y_below, .ref a_y_table, .long y_by, .ref a_y_basis, .ref a_y_isSeen, .ref a_y_colour, .ref a_y_rest, .ref a_y_makes, .ref a_y_worst])), (a_y_costs, .inl (c_y_costs, 10, .inl y_costs))] s.heap.size = A at hD hN ⊢
  have hA : ∀ q : Nat, s.heap.size ≤ q → A q := fun q h => by rw [← hAe]; exact Or.inr h
  have hS : va_S A s.heap s.heap [] := va_S.rf
  have hP : va_P (dC, dI) vwCl [(a_y, .inr (10, [.int y_n, .ref a_y_list, .int y_sets, .ref a_y_others, .int y_otherMany, .ref a_y_costs, .long y_above, .long y_below, .ref a_y_table, .long y_by, .ref a_y_basis, .ref a_y_isSeen, .ref a_y_colour, .ref a_y_rest, .ref a_y_makes, .ref a_y_worst])), (a_y_costs, .inl (c_y_costs, 10, .inl y_costs))] s.heap := hP
  have hl := lv_entry ([.ref a_y, .int p1, .int p2]) (n := 4) (Nat.le_of_ble_eq_true rfl)
  rw [lg_entry_eq]
  generalize (lg_sl ([.ref a_y, .int p1, .int p2]) ++ List.replicate (4 - (lg_sl ([.ref a_y, .int p1, .int p2])).length) Slot.unset).toArray = ls at hl ⊢
  have hl : lv_has ls 4 [(0, .ref a_y), (1, .int p1), (2, .int p2)] := hl
  have hiX10 : ∀ w ∈ wsX100, w ∈ wsX10_cost := fun _ h => List.mem_cons_of_mem _ (List.mem_append_right _ h)
  have hf16 := hts (.fieldLink RX10 16 "MeetSetsModel" "costs" "[I") (t1_ (al_ (t1_ h1_)))
  refine w_abs (fun Z hZv hZw => ?_)
  refine hZv ?_
  obtain ⟨H, hH⟩ : ∃ H, H = s.heap := ⟨_, rfl⟩
  obtain ⟨locs, hlo⟩ : ∃ L : List Loc, L = [] := ⟨_, rfl⟩
  rw [← hlo, ← hH]
  have hS : va_S A s.heap H locs := by rw [hlo, hH]; exact hS
  have hP : va_P (dC, dI) vwCl [(a_y, .inr (10, [.int y_n, .ref a_y_list, .int y_sets, .ref a_y_others, .int y_otherMany, .ref a_y_costs, .long y_above, .long y_below, .ref a_y_table, .long y_by, .ref a_y_basis, .ref a_y_isSeen, .ref a_y_colour, .ref a_y_rest, .ref a_y_makes, .ref a_y_worst])), (a_y_costs, .inl (c_y_costs, 10, .inl y_costs))] H := by rw [hH]; exact hP
  clear hH hlo
  unfold pX10_cost at hs
  refine lv_aload_n hx hb dX10_cost_0 rfl (lv_at hl 0 rfl) ?_
  refine lv_iload_n hx hb dX10_cost_1 rfl (lv_at hl 1 rfl) ?_
  obtain ⟨r1, hr1, hs⟩ := bd_s hs
  refine kc_i (isC := [0]) (isR := [1]) (pm := [1, 0]) (wr := [(a_y_costs, .inl (c_y_costs, 10, .inl y_costs))]) (w1 := [(a_y, .inr (10, [.int y_n, .ref a_y_list, .int y_sets, .ref a_y_others, .int y_otherMany, .ref a_y_costs, .long y_above, .long y_below, .ref a_y_table, .long y_by, .ref a_y_basis, .ref a_y_isSeen, .ref a_y_colour, .ref a_y_rest, .ref a_y_makes, .ref a_y_worst]))]) (w2 := [(a_y, .inr (10, [.int y_n, .ref a_y_list, .int y_sets, .ref a_y_others, .int y_otherMany, .ref a_y_costs, .long y_above, .long y_below, .ref a_y_table, .long y_by, .ref a_y_basis, .ref a_y_isSeen, .ref a_y_colour, .ref a_y_rest, .ref a_y_makes, .ref a_y_worst])), (a_y_costs, .inl (c_y_costs, 10, .inl y_costs))]) (va_runV (As := [.int p1]) (rest := []) ⟨hx, hb, hml, hown, hts⟩ (c_X10_isElement l dC dI a_y a_y_list a_y_others a_y_costs a_y_table a_y_basis a_y_isSeen a_y_colour a_y_rest a_y_makes a_y_worst H.size y_n y_sets y_otherMany y_above y_below y_by p1 r1 hr1) (cwV 1 hts gX10_cost_X10_isElement rfl rfl rfl (by decide +kernel) ⟨Nat.le_of_ble_eq_true rfl, Nat.le_of_ble_eq_true rfl⟩) (kp_V hK hP hD hS hA hN (isC := [0]) (isT := []) (wc := [(a_y, .inr (10, [.int y_n, .ref a_y_list, .int y_sets, .ref a_y_others, .int y_otherMany, .ref a_y_costs, .long y_above, .long y_below, .ref a_y_table, .long y_by, .ref a_y_basis, .ref a_y_isSeen, .ref a_y_colour, .ref a_y_rest, .ref a_y_makes, .ref a_y_worst]))]) rfl (by decide +kernel) rfl (ci := 10) (q0 := 0) rfl rfl) rfl rfl hl.1 rfl (lv_room (Nat.le_of_ble_eq_true rfl)) dX10_cost_2 ⟨Nat.le_of_ble_eq_true rfl, Nat.le_of_ble_eq_true rfl⟩) hP hD hS hA rfl rfl (by decide +kernel) (by decide +kernel) rfl (by decide +kernel) (fun H locs hP hD hS => ?_)
  refine lv_if_eq (tgt := 20) hx hb dX10_cost_5 (by decide) (fun hc => ?_) (fun hc => ?_)
  · replace hs := it_t hc hs
    refine lv_bipush (v := (-2)) hx hb dX10_cost_20 (by decide) ?_
    replace hs := Option.some.inj hs
    subst hs
    exact W.iret (v := (-2)) hx hb hr (fun t ht hW => ⟨⟨(-2), (), rfl, rfl, by rw [ht]; exact hP, va_K.moved hW.alike hK, hD⟩, hS.F ht⟩) hS.2.2 dX10_cost_22
  · replace hs := it_f hc hs
    refine lv_iload_n hx hb dX10_cost_8 rfl (lv_at hl 2 rfl) ?_
    refine lv_i2l (v := p2.toInt64) hx hb dX10_cost_9 rfl ?_
    refine lv_lconst (v := 0) hx hb dX10_cost_10 (by decide) ?_
    refine lv_ldc2 (v := 20) hx hb hown (hts (.constantLong RX10 71 (20)) (t1_ (al_ h1_))) dX10_cost_11 ?_
    obtain ⟨r2, hr2, hs⟩ := bd_s hs
    refine kc_i (isC := []) (isR := [0, 1]) (pm := [0, 1]) (wr := [(a_y, .inr (10, [.int y_n, .ref a_y_list, .int y_sets, .ref a_y_others, .int y_otherMany, .ref a_y_costs, .long y_above, .long y_below, .ref a_y_table, .long y_by, .ref a_y_basis, .ref a_y_isSeen, .ref a_y_colour, .ref a_y_rest, .ref a_y_makes, .ref a_y_worst])), (a_y_costs, .inl (c_y_costs, 10, .inl y_costs))]) (w1 := []) (w2 := [(a_y, .inr (10, [.int y_n, .ref a_y_list, .int y_sets, .ref a_y_others, .int y_otherMany, .ref a_y_costs, .long y_above, .long y_below, .ref a_y_table, .long y_by, .ref a_y_basis, .ref a_y_isSeen, .ref a_y_colour, .ref a_y_rest, .ref a_y_makes, .ref a_y_worst])), (a_y_costs, .inl (c_y_costs, 10, .inl y_costs))]) (va_runS (As := [.long p2.toInt64, .long 0, .long 20]) (rest := []) ⟨hx, hb, hml, hown, hts⟩ (c_X10_in l dC dI H.size p2.toInt64 0 20 r2 hr2) (va_cwS 3 hts gX10_cost_X10_in rfl rfl rfl (by decide +kernel) ⟨Nat.le_of_ble_eq_true rfl, Nat.le_of_ble_eq_true rfl⟩) (kp_S hK hP hD hS hA hN (isC := []) (isT := []) (wc := []) rfl (by decide +kernel) rfl) rfl rfl hl.1 rfl (lv_room (Nat.le_of_ble_eq_true rfl)) dX10_cost_14 ⟨Nat.le_of_ble_eq_true rfl, Nat.le_of_ble_eq_true rfl⟩) hP hD hS hA rfl rfl (by decide +kernel) (by decide +kernel) rfl (by decide +kernel) (fun H locs hP hD hS => ?_)
    refine lv_if_ne (tgt := 23) hx hb dX10_cost_17 (by decide) (fun hc => ?_) (fun hc => ?_)
    · replace hs := it_f hc hs
      refine lv_aload_n hx hb dX10_cost_23 rfl (lv_at hl 0 rfl) ?_
      refine va_get (D := (dC, dI)) (ci := 10) (v := .ref a_y_costs) (C := RX10) (T := TX10) (N := 16) hx hb hts hiX10 hown hK hP 0 rfl rfl 5 (by decide) hf16 (fun _ h9 => h9) rfl dX10_cost_24 ?_
      refine lv_iload_n hx hb dX10_cost_27 rfl (lv_at hl 1 rfl) ?_
      obtain ⟨hg3, hs⟩ := gd_s hs
      refine va_iald hx hb hK hP 1 0 rfl rfl hg3 dX10_cost_28 ?_
      refine lv_istore_n (lv' := [(3, .int (y_costs p1.toNatClampNeg)), (0, .ref a_y), (1, .int p1), (2, .int p2)]) hx hb dX10_cost_29 rfl hl (by decide) rfl (fun ls hl => ?_)
      refine lv_aload_n hx hb dX10_cost_30 rfl (lv_at hl 1 rfl) ?_
      refine va_get (D := (dC, dI)) (ci := 10) (v := .ref a_y_costs) (C := RX10) (T := TX10) (N := 16) hx hb hts hiX10 hown hK hP 0 rfl rfl 5 (by decide) hf16 (fun _ h9 => h9) rfl dX10_cost_31 ?_
      refine lv_iload_n hx hb dX10_cost_34 rfl (lv_at hl 2 rfl) ?_
      refine lv_iload_n hx hb dX10_cost_35 rfl (lv_at hl 3 rfl) ?_
      obtain ⟨hg4, hs⟩ := gd_s hs
      refine va_iast hx hb hK hP hD hS 1 0 rfl rfl hg4 dX10_cost_36 (fun H locs hP hD hS => ?_)
      have hP : va_P (dC, dI) vwCl [(a_y, .inr (10, [.int y_n, .ref a_y_list, .int y_sets, .ref a_y_others, .int y_otherMany, .ref a_y_costs, .long y_above, .long y_below, .ref a_y_table, .long y_by, .ref a_y_basis, .ref a_y_isSeen, .ref a_y_colour, .ref a_y_rest, .ref a_y_makes, .ref a_y_worst])), (a_y_costs, .inl (c_y_costs, 10, .inl (upd y_costs p1.toNatClampNeg p2)))] H := hP
      have hD : va_D A [(a_y, .inr (10, [.int y_n, .ref a_y_list, .int y_sets, .ref a_y_others, .int y_otherMany, .ref a_y_costs, .long y_above, .long y_below, .ref a_y_table, .long y_by, .ref a_y_basis, .ref a_y_isSeen, .ref a_y_colour, .ref a_y_rest, .ref a_y_makes, .ref a_y_worst])), (a_y_costs, .inl (c_y_costs, 10, .inl (upd y_costs p1.toNatClampNeg p2)))] := hD
      refine lv_iload_n hx hb dX10_cost_37 rfl (lv_at hl 0 rfl) ?_
      replace hs := Option.some.inj hs
      subst hs
      exact W.iret (v := y_costs p1.toNatClampNeg) hx hb hr (fun t ht hW => ⟨⟨y_costs p1.toNatClampNeg, (), rfl, rfl, by rw [ht]; exact hP, va_K.moved hW.alike hK, hD⟩, hS.F ht⟩) hS.2.2 dX10_cost_38
    · replace hs := it_t hc hs
      refine lv_bipush (v := (-2)) hx hb dX10_cost_20 (by decide) ?_
      replace hs := Option.some.inj hs
      subst hs
      exact W.iret (v := (-2)) hx hb hr (fun t ht hW => ⟨⟨(-2), (), rfl, rfl, by rw [ht]; exact hP, va_K.moved hW.alike hK, hD⟩, hS.F ht⟩) hS.2.2 dX10_cost_22
noncomputable def pX10_meets_L4 (y_sets : Int32) (y_list : Nat → Int32) (p1 : Int32) (s4 : Int32 × Int32) : Option ((Int32 × Int32) ⊕ (Int32)) :=
  if y_sets ≤ s4.2 then (some (Sum.inr s4.1)) else (if s4.1 = 0 then (some (Sum.inr s4.1)) else (gd (vp_in s4.2 16) (if ((y_list s4.2.toNatClampNeg) &&& p1) = 0 then (some (Sum.inl (0, s4.2 + 1))) else (some (Sum.inl (1, s4.2 + 1))))))
noncomputable def pX10_meets (y_sets : Int32) (y_list : Nat → Int32) (p1 : Int32) : Option (Int32) :=
  Option.bind (lp (pX10_meets_L4 y_sets y_list p1) (1, 0)) (fun e4 => gd (narrow .boolean (.int e4) = .int e4) (some e4))
set_option maxHeartbeats 4000000 in
set_option maxRecDepth 100000 in
theorem c_X10_meets (l : Launch) (dC : Nat → ClassId) (dI : Nat → Nat → Nat) (a_y : Nat) (a_y_list : Nat) (a_y_others : Nat) (a_y_costs : Nat) (a_y_table : Nat) (a_y_basis : Nat) (a_y_isSeen : Nat) (a_y_colour : Nat) (a_y_rest : Nat) (a_y_makes : Nat) (a_y_worst : Nat) (c_y_list : ClassId) (sz : Nat) (y_n : Int32) (y_sets : Int32) (y_otherMany : Int32) (y_above : Int64) (y_below : Int64) (y_by : Int64) (y_list : Nat → Int32) (p1 : Int32) (rv : Int32) (hs : pX10_meets y_sets y_list p1 = some rv) : Met l yX10_meets wsX10_meets ({ frames := 0, cells := 0, slots := 0, locals := 0 }) (sPc [.ref a_y, .int p1] (dC, dI) [(c_y_list, .int)] [(a_y, .inr (10, [.int y_n, .ref a_y_list, .int y_sets, .ref a_y_others, .int y_otherMany, .ref a_y_costs, .long y_above, .long y_below, .ref a_y_table, .long y_by, .ref a_y_basis, .ref a_y_isSeen, .ref a_y_colour, .ref a_y_rest, .ref a_y_makes, .ref a_y_worst])), (a_y_list, .inl (c_y_list, 16, .inl y_list))] sz) (va_Qi (fun (r : Int32) (_ : Unit) => r = rv) (sB (dC, dI) [(c_y_list, .int)] (va_A [(a_y, .inr (10, [.int y_n, .ref a_y_list, .int y_sets, .ref a_y_others, .int y_otherMany, .ref a_y_costs, .long y_above, .long y_below, .ref a_y_table, .long y_by, .ref a_y_basis, .ref a_y_isSeen, .ref a_y_colour, .ref a_y_rest, .ref a_y_makes, .ref a_y_worst])), (a_y_list, .inl (c_y_list, 16, .inl y_list))] sz) [(a_y, .inr (10, [.int y_n, .ref a_y_list, .int y_sets, .ref a_y_others, .int y_otherMany, .ref a_y_costs, .long y_above, .long y_below, .ref a_y_table, .long y_by, .ref a_y_basis, .ref a_y_isSeen, .ref a_y_colour, .ref a_y_rest, .ref a_y_makes, .ref a_y_worst])), (a_y_list, .inl (c_y_list, 16, .inl y_list))]) (va_A [(a_y, .inr (10, [.int y_n, .ref a_y_list, .int y_sets, .ref a_y_others, .int y_otherMany, .ref a_y_costs, .long y_above, .long y_below, .ref a_y_table, .long y_by, .ref a_y_basis, .ref a_y_isSeen, .ref a_y_colour, .ref a_y_rest, .ref a_y_makes, .ref a_y_worst])), (a_y_list, .inl (c_y_list, 16, .inl y_list))] sz)) 0 0 (va_A [(a_y, .inr (10, [.int y_n, .ref a_y_list, .int y_sets, .ref a_y_others, .int y_otherMany, .ref a_y_costs, .long y_above, .long y_below, .ref a_y_table, .long y_by, .ref a_y_basis, .ref a_y_isSeen, .ref a_y_colour, .ref a_y_rest, .ref a_y_makes, .ref a_y_worst])), (a_y_list, .inl (c_y_list, 16, .inl y_list))] sz) := by
  refine Met.ofW (cc := cX10_meets) (maxL := 4) (ret := (some .boolean)) (by decide) rfl ?_
  intro p e s m args below meth c s₁ B hml hv
  obtain ⟨rfl, hsz, hP, hK, hD0, hN⟩ := hv
  have hx := B.exec
  have hb := B.bytes
  have hr := B.returns
  have hts := atoms_spec (ws := wsX10_meets) B.pre
  have hown : s.vm.findClass RX10 = some m.cls := findClass_of_methodNamed B.named
  have hlocks := B.notSynchronized
  subst hsz
  have hD := hD0.self (sz := s.heap.size)
  generalize hAe : va_A [(a_y, .inr (10, [.int y_n, .ref a_y_list, .int y_sets, .ref a_y_others, .int y_otherMany, .ref a_y_costs, .long y_above, .long y_below, .ref a_y_table, .long y_by, .ref a_y_basis, .ref a_y_isSeen, .ref a_y_colour, .ref a_y_rest, .ref a_y_makes, .ref a_y_worst])), (a_y_list, .inl (c_y_list, 16, .inl y_list))] s.heap.size = A at hD hN ⊢
  have hA : ∀ q : Nat, s.heap.size ≤ q → A q := fun q h => by rw [← hAe]; exact Or.inr h
  have hS : va_S A s.heap s.heap [] := va_S.rf
  have hP : va_P (dC, dI) vwCl [(a_y, .inr (10, [.int y_n, .ref a_y_list, .int y_sets, .ref a_y_others, .int y_otherMany, .ref a_y_costs, .long y_above, .long y_below, .ref a_y_table, .long y_by, .ref a_y_basis, .ref a_y_isSeen, .ref a_y_colour, .ref a_y_rest, .ref a_y_makes, .ref a_y_worst])), (a_y_list, .inl (c_y_list, 16, .inl y_list))] s.heap := hP
  have hl := lv_entry ([.ref a_y, .int p1]) (n := 4) (Nat.le_of_ble_eq_true rfl)
  rw [lg_entry_eq]
  generalize (lg_sl ([.ref a_y, .int p1]) ++ List.replicate (4 - (lg_sl ([.ref a_y, .int p1])).length) Slot.unset).toArray = ls at hl ⊢
  have hl : lv_has ls 4 [(0, .ref a_y), (1, .int p1)] := hl
  have hiX10 : ∀ w ∈ wsX100, w ∈ wsX10_meets := fun _ h => List.mem_cons_of_mem _ (List.mem_append_right _ h)
  have hf61 := hts (.fieldLink RX10 61 "MeetSetsModel" "sets" "I") (t1_ (al_ h1_))
  have hf7 := hts (.fieldLink RX10 7 "MeetSetsModel" "list" "[I") (t1_ (al_ (t1_ h1_)))
  refine w_abs (fun Z hZv hZw => ?_)
  refine hZv ?_
  obtain ⟨H, hH⟩ : ∃ H, H = s.heap := ⟨_, rfl⟩
  obtain ⟨locs, hlo⟩ : ∃ L : List Loc, L = [] := ⟨_, rfl⟩
  rw [← hlo, ← hH]
  have hS : va_S A s.heap H locs := by rw [hlo, hH]; exact hS
  have hP : va_P (dC, dI) vwCl [(a_y, .inr (10, [.int y_n, .ref a_y_list, .int y_sets, .ref a_y_others, .int y_otherMany, .ref a_y_costs, .long y_above, .long y_below, .ref a_y_table, .long y_by, .ref a_y_basis, .ref a_y_isSeen, .ref a_y_colour, .ref a_y_rest, .ref a_y_makes, .ref a_y_worst])), (a_y_list, .inl (c_y_list, 16, .inl y_list))] H := by rw [hH]; exact hP
  clear hH hlo
  unfold pX10_meets at hs
  refine lv_iconst (v := 1) hx hb dX10_meets_0 (by decide) ?_
  refine lv_istore_n (lv' := [(2, .int 1), (0, .ref a_y), (1, .int p1)]) hx hb dX10_meets_1 rfl hl (by decide) rfl (fun ls hl => ?_)
  refine lv_iconst (v := 0) hx hb dX10_meets_2 (by decide) ?_
  refine lv_istore_n (lv' := [(3, .int 0), (2, .int 1), (0, .ref a_y), (1, .int p1)]) hx hb dX10_meets_3 rfl hl (by decide) rfl (fun ls hl => ?_)
  obtain ⟨e4, he4, hs⟩ := bd_s hs
  have hX4 : ∀ (H : Heap) (locs : List Loc) (ls : Array Slot), va_P (dC, dI) vwCl [(a_y, .inr (10, [.int y_n, .ref a_y_list, .int y_sets, .ref a_y_others, .int y_otherMany, .ref a_y_costs, .long y_above, .long y_below, .ref a_y_table, .long y_by, .ref a_y_basis, .ref a_y_isSeen, .ref a_y_colour, .ref a_y_rest, .ref a_y_makes, .ref a_y_worst])), (a_y_list, .inl (c_y_list, 16, .inl y_list))] H → va_D A [(a_y, .inr (10, [.int y_n, .ref a_y_list, .int y_sets, .ref a_y_others, .int y_otherMany, .ref a_y_costs, .long y_above, .long y_below, .ref a_y_table, .long y_by, .ref a_y_basis, .ref a_y_isSeen, .ref a_y_colour, .ref a_y_rest, .ref a_y_makes, .ref a_y_worst])), (a_y_list, .inl (c_y_list, 16, .inl y_list))] → va_S A s.heap H locs → lv_has ls 4 [(2, .int e4)] → Z H locs 0 0 (F0 m 39 ls []) := by
    intro H locs ls hP hD hS hl
    refine hZv ?_
    refine lv_iload_n hx hb dX10_meets_39 rfl (lv_at hl 0 rfl) ?_
    obtain ⟨hb3, hs⟩ := gd_s hs
    replace hs := Option.some.inj hs
    subst hs
    exact W.zret (v := e4) (ty := .boolean) hx hb hr hb3 (fun t ht hW => ⟨⟨e4, (), rfl, rfl, by rw [ht]; exact hP, va_K.moved hW.alike hK, hD⟩, hS.F ht⟩) hS.2.2 dX10_meets_40
  clear hs
  have hL4 : ∀ (n : Nat) (s4 : Int32 × Int32) (H : Heap) (locs : List Loc) (ls : Array Slot), itr (pX10_meets_L4 y_sets y_list p1) n s4 = some e4 → va_P (dC, dI) vwCl [(a_y, .inr (10, [.int y_n, .ref a_y_list, .int y_sets, .ref a_y_others, .int y_otherMany, .ref a_y_costs, .long y_above, .long y_below, .ref a_y_table, .long y_by, .ref a_y_basis, .ref a_y_isSeen, .ref a_y_colour, .ref a_y_rest, .ref a_y_makes, .ref a_y_worst])), (a_y_list, .inl (c_y_list, 16, .inl y_list))] H → va_D A [(a_y, .inr (10, [.int y_n, .ref a_y_list, .int y_sets, .ref a_y_others, .int y_otherMany, .ref a_y_costs, .long y_above, .long y_below, .ref a_y_table, .long y_by, .ref a_y_basis, .ref a_y_isSeen, .ref a_y_colour, .ref a_y_rest, .ref a_y_makes, .ref a_y_worst])), (a_y_list, .inl (c_y_list, 16, .inl y_list))] → va_S A s.heap H locs → lv_has ls 4 [(0, .ref a_y), (1, .int p1), (2, .int s4.1), (3, .int s4.2)] → Z H locs 0 0 (F0 m 4 ls []) := by
    intro n
    induction n with
    | zero =>
      intro s4 H locs ls hn
      exact (itr_0 hn).elim
    | succ n ih =>
      intro s4 H locs ls hn hP hD hS hl
      obtain ⟨y1, hs, hn⟩ := itr_s hn
      unfold pX10_meets_L4 at hs
      refine hZv ?_
      refine lv_iload_n hx hb dX10_meets_4 rfl (lv_at hl 3 rfl) ?_
      refine lv_aload_n hx hb dX10_meets_5 rfl (lv_at hl 0 rfl) ?_
      refine va_get (D := (dC, dI)) (ci := 10) (v := .int y_sets) (C := RX10) (T := TX10) (N := 16) hx hb hts hiX10 hown hK hP 0 rfl rfl 2 (by decide) hf61 (fun _ h9 => h9) rfl dX10_meets_6 ?_
      refine lv_icmp_ge (tgt := 39) hx hb dX10_meets_9 (by decide) (fun hc => ?_) (fun hc => ?_)
      · replace hs := it_t hc hs
        replace hs := Option.some.inj hs
        subst hs
        obtain rfl : s4.1 = e4 := hn
        exact hZw (hX4 H locs ls hP hD hS (lv_sub hl [2] rfl))
      · replace hs := it_f hc hs
        refine lv_iload_n hx hb dX10_meets_12 rfl (lv_at hl 2 rfl) ?_
        refine lv_if_eq (tgt := 39) hx hb dX10_meets_13 (by decide) (fun hc => ?_) (fun hc => ?_)
        · replace hs := it_t hc hs
          replace hs := Option.some.inj hs
          subst hs
          obtain rfl : s4.1 = e4 := hn
          exact hZw (hX4 H locs ls hP hD hS (lv_sub hl [2] rfl))
        · replace hs := it_f hc hs
          refine lv_aload_n hx hb dX10_meets_16 rfl (lv_at hl 0 rfl) ?_
          refine va_get (D := (dC, dI)) (ci := 10) (v := .ref a_y_list) (C := RX10) (T := TX10) (N := 16) hx hb hts hiX10 hown hK hP 0 rfl rfl 1 (by decide) hf7 (fun _ h9 => h9) rfl dX10_meets_17 ?_
          refine lv_iload_n hx hb dX10_meets_20 rfl (lv_at hl 3 rfl) ?_
          obtain ⟨hg2, hs⟩ := gd_s hs
          refine va_iald hx hb hK hP 1 0 rfl rfl hg2 dX10_meets_21 ?_
          refine lv_iload_n hx hb dX10_meets_22 rfl (lv_at hl 1 rfl) ?_
          refine lv_iand hx hb dX10_meets_23 ?_
          refine lv_if_eq (tgt := 31) hx hb dX10_meets_24 (by decide) (fun hc => ?_) (fun hc => ?_)
          · replace hs := it_t hc hs
            refine lv_iconst (v := 0) hx hb dX10_meets_31 (by decide) ?_
            refine lv_istore_n (lv' := [(2, .int 0), (0, .ref a_y), (1, .int p1), (3, .int s4.2)]) hx hb dX10_meets_32 rfl hl (by decide) rfl (fun ls hl => ?_)
            refine lv_iinc (v := s4.2 + 1) (lv' := [(3, .int (s4.2 + 1)), (2, .int 0), (0, .ref a_y), (1, .int p1)]) hx hb dX10_meets_33 hl (k := 3) rfl (by rfl) (by decide) rfl (fun ls hl => ?_)
            refine lv_goto (tgt := 4) hx hb dX10_meets_36 (by decide) ?_
            replace hs := Option.some.inj hs
            subst hs
            exact hZw (ih (0, s4.2 + 1) H locs ls hn hP hD hS (lv_sub hl [2, 3, 1, 0] rfl))
          · replace hs := it_f hc hs
            refine lv_iconst (v := 1) hx hb dX10_meets_27 (by decide) ?_
            refine lv_goto (tgt := 32) hx hb dX10_meets_28 (by decide) ?_
            refine lv_istore_n (lv' := [(2, .int 1), (0, .ref a_y), (1, .int p1), (3, .int s4.2)]) hx hb dX10_meets_32 rfl hl (by decide) rfl (fun ls hl => ?_)
            refine lv_iinc (v := s4.2 + 1) (lv' := [(3, .int (s4.2 + 1)), (2, .int 1), (0, .ref a_y), (1, .int p1)]) hx hb dX10_meets_33 hl (k := 3) rfl (by rfl) (by decide) rfl (fun ls hl => ?_)
            refine lv_goto (tgt := 4) hx hb dX10_meets_36 (by decide) ?_
            replace hs := Option.some.inj hs
            subst hs
            exact hZw (ih (1, s4.2 + 1) H locs ls hn hP hD hS (lv_sub hl [2, 3, 1, 0] rfl))
  obtain ⟨n4, hn4⟩ := lp_ex he4
  exact hZw (hL4 n4 (1, 0) H locs ls hn4 hP hD hS (lv_sub hl [2, 3, 1, 0] rfl))
noncomputable def pX10_isLeast_J40_3 (s8 : Int32 × Int32) (t40 : Unit) : Option ((Int32 × Int32) ⊕ (Int32)) :=
  some (Sum.inl (1, s8.2 + 1))
noncomputable def pX10_isLeast_L8 (y_n : Int32) (y_sets : Int32) (y_list : Nat → Int32) (p1 : Int32) (s8 : Int32 × Int32) : Option ((Int32 × Int32) ⊕ (Int32)) :=
  if y_n ≤ s8.2 then (some (Sum.inr s8.1)) else (if s8.1 = 0 then (some (Sum.inr s8.1)) else (if ((p1 >>> (s8.2 &&& 31)) &&& 1) = 0 then (pX10_isLeast_J40_3 s8 ()) else (Option.bind (pX10_meets y_sets y_list (p1 ^^^ (1 <<< (s8.2 &&& 31)))) (fun r4 => if r4 = 0 then (pX10_isLeast_J40_3 s8 ()) else (some (Sum.inl (0, s8.2 + 1)))))))
noncomputable def pX10_isLeast (y_n : Int32) (y_sets : Int32) (y_list : Nat → Int32) (p1 : Int32) : Option (Int32) :=
  Option.bind (pX10_meets y_sets y_list p1) (fun r1 => Option.bind (lp (pX10_isLeast_L8 y_n y_sets y_list p1) (r1, 0)) (fun e8 => gd (narrow .boolean (.int e8) = .int e8) (some e8)))
set_option maxHeartbeats 4000000 in
set_option maxRecDepth 100000 in
theorem c_X10_isLeast (l : Launch) (dC : Nat → ClassId) (dI : Nat → Nat → Nat) (a_y : Nat) (a_y_list : Nat) (a_y_others : Nat) (a_y_costs : Nat) (a_y_table : Nat) (a_y_basis : Nat) (a_y_isSeen : Nat) (a_y_colour : Nat) (a_y_rest : Nat) (a_y_makes : Nat) (a_y_worst : Nat) (c_y_list : ClassId) (sz : Nat) (y_n : Int32) (y_sets : Int32) (y_otherMany : Int32) (y_above : Int64) (y_below : Int64) (y_by : Int64) (y_list : Nat → Int32) (p1 : Int32) (rv : Int32) (hs : pX10_isLeast y_n y_sets y_list p1 = some rv) : Met l yX10_isLeast wsX10_isLeast ({ frames := 1, cells := 0, slots := 0, locals := 23 }) (sPc [.ref a_y, .int p1] (dC, dI) [(c_y_list, .int)] [(a_y, .inr (10, [.int y_n, .ref a_y_list, .int y_sets, .ref a_y_others, .int y_otherMany, .ref a_y_costs, .long y_above, .long y_below, .ref a_y_table, .long y_by, .ref a_y_basis, .ref a_y_isSeen, .ref a_y_colour, .ref a_y_rest, .ref a_y_makes, .ref a_y_worst])), (a_y_list, .inl (c_y_list, 16, .inl y_list))] sz) (va_Qi (fun (r : Int32) (_ : Unit) => r = rv) (sB (dC, dI) [(c_y_list, .int)] (va_A [(a_y, .inr (10, [.int y_n, .ref a_y_list, .int y_sets, .ref a_y_others, .int y_otherMany, .ref a_y_costs, .long y_above, .long y_below, .ref a_y_table, .long y_by, .ref a_y_basis, .ref a_y_isSeen, .ref a_y_colour, .ref a_y_rest, .ref a_y_makes, .ref a_y_worst])), (a_y_list, .inl (c_y_list, 16, .inl y_list))] sz) [(a_y, .inr (10, [.int y_n, .ref a_y_list, .int y_sets, .ref a_y_others, .int y_otherMany, .ref a_y_costs, .long y_above, .long y_below, .ref a_y_table, .long y_by, .ref a_y_basis, .ref a_y_isSeen, .ref a_y_colour, .ref a_y_rest, .ref a_y_makes, .ref a_y_worst])), (a_y_list, .inl (c_y_list, 16, .inl y_list))]) (va_A [(a_y, .inr (10, [.int y_n, .ref a_y_list, .int y_sets, .ref a_y_others, .int y_otherMany, .ref a_y_costs, .long y_above, .long y_below, .ref a_y_table, .long y_by, .ref a_y_basis, .ref a_y_isSeen, .ref a_y_colour, .ref a_y_rest, .ref a_y_makes, .ref a_y_worst])), (a_y_list, .inl (c_y_list, 16, .inl y_list))] sz)) 0 0 (va_A [(a_y, .inr (10, [.int y_n, .ref a_y_list, .int y_sets, .ref a_y_others, .int y_otherMany, .ref a_y_costs, .long y_above, .long y_below, .ref a_y_table, .long y_by, .ref a_y_basis, .ref a_y_isSeen, .ref a_y_colour, .ref a_y_rest, .ref a_y_makes, .ref a_y_worst])), (a_y_list, .inl (c_y_list, 16, .inl y_list))] sz) := by
  refine Met.ofW (cc := cX10_isLeast) (maxL := 4) (ret := (some .boolean)) (by decide) rfl ?_
  intro p e s m args below meth c s₁ B hml hv
  obtain ⟨rfl, hsz, hP, hK, hD0, hN⟩ := hv
  have hx := B.exec
  have hb := B.bytes
  have hr := B.returns
  have hts := atoms_spec (ws := wsX10_isLeast) B.pre
  have hown : s.vm.findClass RX10 = some m.cls := findClass_of_methodNamed B.named
  have hlocks := B.notSynchronized
  subst hsz
  have hD := hD0.self (sz := s.heap.size)
  generalize hAe : va_A [(a_y, .inr (10, [.int y_n, .ref a_y_list, .int y_sets, .ref a_y_others, .int y_otherMany, .ref a_y_costs, .long y_above, .long y_below, .ref a_y_table, .long y_by, .ref a_y_basis, .ref a_y_isSeen, .ref a_y_colour, .ref a_y_rest, .ref a_y_makes, .ref a_y_worst])), (a_y_list, .inl (c_y_list, 16, .inl y_list))] s.heap.size = A at hD hN ⊢
  have hA : ∀ q : Nat, s.heap.size ≤ q → A q := fun q h => by rw [← hAe]; exact Or.inr h
  have hS : va_S A s.heap s.heap [] := va_S.rf
  have hP : va_P (dC, dI) vwCl [(a_y, .inr (10, [.int y_n, .ref a_y_list, .int y_sets, .ref a_y_others, .int y_otherMany, .ref a_y_costs, .long y_above, .long y_below, .ref a_y_table, .long y_by, .ref a_y_basis, .ref a_y_isSeen, .ref a_y_colour, .ref a_y_rest, .ref a_y_makes, .ref a_y_worst])), (a_y_list, .inl (c_y_list, 16, .inl y_list))] s.heap := hP
  have hl := lv_entry ([.ref a_y, .int p1]) (n := 4) (Nat.le_of_ble_eq_true rfl)
  rw [lg_entry_eq]
  generalize (lg_sl ([.ref a_y, .int p1]) ++ List.replicate (4 - (lg_sl ([.ref a_y, .int p1])).length) Slot.unset).toArray = ls at hl ⊢
  have hl : lv_has ls 4 [(0, .ref a_y), (1, .int p1)] := hl
  have hiX10 : ∀ w ∈ wsX100, w ∈ wsX10_isLeast := fun _ h => List.mem_cons_of_mem _ (List.mem_append_right _ h)
  have hf43 := hts (.fieldLink RX10 43 "MeetSetsModel" "n" "I") (t1_ (al_ h1_))
  refine w_abs (fun Z hZv hZw => ?_)
  refine hZv ?_
  obtain ⟨H, hH⟩ : ∃ H, H = s.heap := ⟨_, rfl⟩
  obtain ⟨locs, hlo⟩ : ∃ L : List Loc, L = [] := ⟨_, rfl⟩
  rw [← hlo, ← hH]
  have hS : va_S A s.heap H locs := by rw [hlo, hH]; exact hS
  have hP : va_P (dC, dI) vwCl [(a_y, .inr (10, [.int y_n, .ref a_y_list, .int y_sets, .ref a_y_others, .int y_otherMany, .ref a_y_costs, .long y_above, .long y_below, .ref a_y_table, .long y_by, .ref a_y_basis, .ref a_y_isSeen, .ref a_y_colour, .ref a_y_rest, .ref a_y_makes, .ref a_y_worst])), (a_y_list, .inl (c_y_list, 16, .inl y_list))] H := by rw [hH]; exact hP
  clear hH hlo
  unfold pX10_isLeast at hs
  refine lv_aload_n hx hb dX10_isLeast_0 rfl (lv_at hl 0 rfl) ?_
  refine lv_iload_n hx hb dX10_isLeast_1 rfl (lv_at hl 1 rfl) ?_
  obtain ⟨r1, hr1, hs⟩ := bd_s hs
  refine kc_i (isC := [0, 1]) (isR := []) (pm := [0, 1]) (wr := []) (w1 := [(a_y, .inr (10, [.int y_n, .ref a_y_list, .int y_sets, .ref a_y_others, .int y_otherMany, .ref a_y_costs, .long y_above, .long y_below, .ref a_y_table, .long y_by, .ref a_y_basis, .ref a_y_isSeen, .ref a_y_colour, .ref a_y_rest, .ref a_y_makes, .ref a_y_worst])), (a_y_list, .inl (c_y_list, 16, .inl y_list))]) (w2 := [(a_y, .inr (10, [.int y_n, .ref a_y_list, .int y_sets, .ref a_y_others, .int y_otherMany, .ref a_y_costs, .long y_above, .long y_below, .ref a_y_table, .long y_by, .ref a_y_basis, .ref a_y_isSeen, .ref a_y_colour, .ref a_y_rest, .ref a_y_makes, .ref a_y_worst])), (a_y_list, .inl (c_y_list, 16, .inl y_list))]) (va_runV (As := [.int p1]) (rest := []) ⟨hx, hb, hml, hown, hts⟩ (c_X10_meets l dC dI a_y a_y_list a_y_others a_y_costs a_y_table a_y_basis a_y_isSeen a_y_colour a_y_rest a_y_makes a_y_worst c_y_list H.size y_n y_sets y_otherMany y_above y_below y_by y_list p1 r1 hr1) (cwV 1 hts gX10_isLeast_X10_meets rfl rfl rfl (by decide +kernel) ⟨Nat.le_of_ble_eq_true rfl, Nat.le_of_ble_eq_true rfl⟩) (kp_V hK hP hD hS hA hN (isC := [0, 1]) (isT := [0]) (wc := [(a_y, .inr (10, [.int y_n, .ref a_y_list, .int y_sets, .ref a_y_others, .int y_otherMany, .ref a_y_costs, .long y_above, .long y_below, .ref a_y_table, .long y_by, .ref a_y_basis, .ref a_y_isSeen, .ref a_y_colour, .ref a_y_rest, .ref a_y_makes, .ref a_y_worst])), (a_y_list, .inl (c_y_list, 16, .inl y_list))]) rfl (by decide +kernel) rfl (ci := 10) (q0 := 0) rfl rfl) rfl rfl hl.1 rfl (lv_room (Nat.le_of_ble_eq_true rfl)) dX10_isLeast_2 ⟨Nat.le_of_ble_eq_true rfl, Nat.le_of_ble_eq_true rfl⟩) hP hD hS hA rfl rfl (by decide +kernel) (by decide +kernel) rfl (by decide +kernel) (fun H locs hP hD hS => ?_)
  refine lv_istore_n (lv' := [(2, .int r1), (0, .ref a_y), (1, .int p1)]) hx hb dX10_isLeast_5 rfl hl (by decide) rfl (fun ls hl => ?_)
  refine lv_iconst (v := 0) hx hb dX10_isLeast_6 (by decide) ?_
  refine lv_istore_n (lv' := [(3, .int 0), (2, .int r1), (0, .ref a_y), (1, .int p1)]) hx hb dX10_isLeast_7 rfl hl (by decide) rfl (fun ls hl => ?_)
  obtain ⟨e8, he8, hs⟩ := bd_s hs
  have hX8 : ∀ (H : Heap) (locs : List Loc) (ls : Array Slot), va_P (dC, dI) vwCl [(a_y, .inr (10, [.int y_n, .ref a_y_list, .int y_sets, .ref a_y_others, .int y_otherMany, .ref a_y_costs, .long y_above, .long y_below, .ref a_y_table, .long y_by, .ref a_y_basis, .ref a_y_isSeen, .ref a_y_colour, .ref a_y_rest, .ref a_y_makes, .ref a_y_worst])), (a_y_list, .inl (c_y_list, 16, .inl y_list))] H → va_D A [(a_y, .inr (10, [.int y_n, .ref a_y_list, .int y_sets, .ref a_y_others, .int y_otherMany, .ref a_y_costs, .long y_above, .long y_below, .ref a_y_table, .long y_by, .ref a_y_basis, .ref a_y_isSeen, .ref a_y_colour, .ref a_y_rest, .ref a_y_makes, .ref a_y_worst])), (a_y_list, .inl (c_y_list, 16, .inl y_list))] → va_S A s.heap H locs → lv_has ls 4 [(2, .int e8)] → Z H locs 0 0 (F0 m 52 ls []) := by
    intro H locs ls hP hD hS hl
    refine hZv ?_
    refine lv_iload_n hx hb dX10_isLeast_52 rfl (lv_at hl 0 rfl) ?_
    obtain ⟨hb5, hs⟩ := gd_s hs
    replace hs := Option.some.inj hs
    subst hs
    exact W.zret (v := e8) (ty := .boolean) hx hb hr hb5 (fun t ht hW => ⟨⟨e8, (), rfl, rfl, by rw [ht]; exact hP, va_K.moved hW.alike hK, hD⟩, hS.F ht⟩) hS.2.2 dX10_isLeast_53
  clear hs
  have hL8 : ∀ (n : Nat) (s8 : Int32 × Int32) (H : Heap) (locs : List Loc) (ls : Array Slot), itr (pX10_isLeast_L8 y_n y_sets y_list p1) n s8 = some e8 → va_P (dC, dI) vwCl [(a_y, .inr (10, [.int y_n, .ref a_y_list, .int y_sets, .ref a_y_others, .int y_otherMany, .ref a_y_costs, .long y_above, .long y_below, .ref a_y_table, .long y_by, .ref a_y_basis, .ref a_y_isSeen, .ref a_y_colour, .ref a_y_rest, .ref a_y_makes, .ref a_y_worst])), (a_y_list, .inl (c_y_list, 16, .inl y_list))] H → va_D A [(a_y, .inr (10, [.int y_n, .ref a_y_list, .int y_sets, .ref a_y_others, .int y_otherMany, .ref a_y_costs, .long y_above, .long y_below, .ref a_y_table, .long y_by, .ref a_y_basis, .ref a_y_isSeen, .ref a_y_colour, .ref a_y_rest, .ref a_y_makes, .ref a_y_worst])), (a_y_list, .inl (c_y_list, 16, .inl y_list))] → va_S A s.heap H locs → lv_has ls 4 [(0, .ref a_y), (1, .int p1), (2, .int s8.1), (3, .int s8.2)] → Z H locs 0 0 (F0 m 8 ls []) := by
    intro n
    induction n with
    | zero =>
      intro s8 H locs ls hn
      exact (itr_0 hn).elim
    | succ n ih =>
      intro s8 H locs ls hn hP hD hS hl
      obtain ⟨y2, hs, hn⟩ := itr_s hn
      unfold pX10_isLeast_L8 at hs
      refine hZv ?_
      refine lv_iload_n hx hb dX10_isLeast_8 rfl (lv_at hl 3 rfl) ?_
      refine lv_aload_n hx hb dX10_isLeast_9 rfl (lv_at hl 0 rfl) ?_
      refine va_get (D := (dC, dI)) (ci := 10) (v := .int y_n) (C := RX10) (T := TX10) (N := 16) hx hb hts hiX10 hown hK hP 0 rfl rfl 0 (by decide) hf43 (fun _ h9 => h9) rfl dX10_isLeast_10 ?_
      refine lv_icmp_ge (tgt := 52) hx hb dX10_isLeast_13 (by decide) (fun hc => ?_) (fun hc => ?_)
      · replace hs := it_t hc hs
        replace hs := Option.some.inj hs
        subst hs
        obtain rfl : s8.1 = e8 := hn
        exact hZw (hX8 H locs ls hP hD hS (lv_sub hl [2] rfl))
      · replace hs := it_f hc hs
        refine lv_iload_n hx hb dX10_isLeast_16 rfl (lv_at hl 2 rfl) ?_
        refine lv_if_eq (tgt := 52) hx hb dX10_isLeast_17 (by decide) (fun hc => ?_) (fun hc => ?_)
        · replace hs := it_t hc hs
          replace hs := Option.some.inj hs
          subst hs
          obtain rfl : s8.1 = e8 := hn
          exact hZw (hX8 H locs ls hP hD hS (lv_sub hl [2] rfl))
        · replace hs := it_f hc hs
          refine lv_iload_n hx hb dX10_isLeast_20 rfl (lv_at hl 1 rfl) ?_
          refine lv_iload_n hx hb dX10_isLeast_21 rfl (lv_at hl 3 rfl) ?_
          refine lv_ishr hx hb dX10_isLeast_22 ?_
          refine lv_iconst (v := 1) hx hb dX10_isLeast_23 (by decide) ?_
          refine lv_iand hx hb dX10_isLeast_24 ?_
          have hJ40 : ∀ (t40 : Unit), pX10_isLeast_J40_3 s8 t40 = some y2 → ∀ (H : Heap) (locs : List Loc) (ls : Array Slot), va_P (dC, dI) vwCl [(a_y, .inr (10, [.int y_n, .ref a_y_list, .int y_sets, .ref a_y_others, .int y_otherMany, .ref a_y_costs, .long y_above, .long y_below, .ref a_y_table, .long y_by, .ref a_y_basis, .ref a_y_isSeen, .ref a_y_colour, .ref a_y_rest, .ref a_y_makes, .ref a_y_worst])), (a_y_list, .inl (c_y_list, 16, .inl y_list))] H → va_D A [(a_y, .inr (10, [.int y_n, .ref a_y_list, .int y_sets, .ref a_y_others, .int y_otherMany, .ref a_y_costs, .long y_above, .long y_below, .ref a_y_table, .long y_by, .ref a_y_basis, .ref a_y_isSeen, .ref a_y_colour, .ref a_y_rest, .ref a_y_makes, .ref a_y_worst])), (a_y_list, .inl (c_y_list, 16, .inl y_list))] → va_S A s.heap H locs → lv_has ls 4 [(0, .ref a_y), (1, .int p1), (3, .int s8.2)] → Z H locs 0 0 (F0 m 40 ls []) := by
            intro t40 hs H locs ls hP hD hS hl
            refine hZv ?_
            unfold pX10_isLeast_J40_3 at hs
            refine lv_iconst (v := 1) hx hb dX10_isLeast_40 (by decide) ?_
            refine lv_goto (tgt := 45) hx hb dX10_isLeast_41 (by decide) ?_
            refine lv_istore_n (lv' := [(2, .int 1), (0, .ref a_y), (1, .int p1), (3, .int s8.2)]) hx hb dX10_isLeast_45 rfl hl (by decide) rfl (fun ls hl => ?_)
            refine lv_iinc (v := s8.2 + 1) (lv' := [(3, .int (s8.2 + 1)), (2, .int 1), (0, .ref a_y), (1, .int p1)]) hx hb dX10_isLeast_46 hl (k := 3) rfl (by rfl) (by decide) rfl (fun ls hl => ?_)
            refine lv_goto (tgt := 8) hx hb dX10_isLeast_49 (by decide) ?_
            replace hs := Option.some.inj hs
            subst hs
            exact hZw (ih (1, s8.2 + 1) H locs ls hn hP hD hS (lv_sub hl [2, 3, 1, 0] rfl))
          refine lv_if_eq (tgt := 40) hx hb dX10_isLeast_25 (by decide) (fun hc => ?_) (fun hc => ?_)
          · replace hs := it_t hc hs
            exact hZw (hJ40 () hs H locs ls hP hD hS (lv_sub hl [0, 1, 3] rfl))
          · replace hs := it_f hc hs
            refine lv_aload_n hx hb dX10_isLeast_28 rfl (lv_at hl 0 rfl) ?_
            refine lv_iload_n hx hb dX10_isLeast_29 rfl (lv_at hl 1 rfl) ?_
            refine lv_iconst (v := 1) hx hb dX10_isLeast_30 (by decide) ?_
            refine lv_iload_n hx hb dX10_isLeast_31 rfl (lv_at hl 3 rfl) ?_
            refine lv_ishl hx hb dX10_isLeast_32 ?_
            refine lv_ixor hx hb dX10_isLeast_33 ?_
            obtain ⟨r4, hr4, hs⟩ := bd_s hs
            refine kc_i (isC := [0, 1]) (isR := []) (pm := [0, 1]) (wr := []) (w1 := [(a_y, .inr (10, [.int y_n, .ref a_y_list, .int y_sets, .ref a_y_others, .int y_otherMany, .ref a_y_costs, .long y_above, .long y_below, .ref a_y_table, .long y_by, .ref a_y_basis, .ref a_y_isSeen, .ref a_y_colour, .ref a_y_rest, .ref a_y_makes, .ref a_y_worst])), (a_y_list, .inl (c_y_list, 16, .inl y_list))]) (w2 := [(a_y, .inr (10, [.int y_n, .ref a_y_list, .int y_sets, .ref a_y_others, .int y_otherMany, .ref a_y_costs, .long y_above, .long y_below, .ref a_y_table, .long y_by, .ref a_y_basis, .ref a_y_isSeen, .ref a_y_colour, .ref a_y_rest, .ref a_y_makes, .ref a_y_worst])), (a_y_list, .inl (c_y_list, 16, .inl y_list))]) (va_runV (As := [.int (p1 ^^^ (1 <<< (s8.2 &&& 31)))]) (rest := []) ⟨hx, hb, hml, hown, hts⟩ (c_X10_meets l dC dI a_y a_y_list a_y_others a_y_costs a_y_table a_y_basis a_y_isSeen a_y_colour a_y_rest a_y_makes a_y_worst c_y_list H.size y_n y_sets y_otherMany y_above y_below y_by y_list (p1 ^^^ (1 <<< (s8.2 &&& 31))) r4 hr4) (cwV 1 hts gX10_isLeast_X10_meets rfl rfl rfl (by decide +kernel) ⟨Nat.le_of_ble_eq_true rfl, Nat.le_of_ble_eq_true rfl⟩) (kp_V hK hP hD hS hA hN (isC := [0, 1]) (isT := [0]) (wc := [(a_y, .inr (10, [.int y_n, .ref a_y_list, .int y_sets, .ref a_y_others, .int y_otherMany, .ref a_y_costs, .long y_above, .long y_below, .ref a_y_table, .long y_by, .ref a_y_basis, .ref a_y_isSeen, .ref a_y_colour, .ref a_y_rest, .ref a_y_makes, .ref a_y_worst])), (a_y_list, .inl (c_y_list, 16, .inl y_list))]) rfl (by decide +kernel) rfl (ci := 10) (q0 := 0) rfl rfl) rfl rfl hl.1 rfl (lv_room (Nat.le_of_ble_eq_true rfl)) dX10_isLeast_34 ⟨Nat.le_of_ble_eq_true rfl, Nat.le_of_ble_eq_true rfl⟩) hP hD hS hA rfl rfl (by decide +kernel) (by decide +kernel) rfl (by decide +kernel) (fun H locs hP hD hS => ?_)
            refine lv_if_ne (tgt := 44) hx hb dX10_isLeast_37 (by decide) (fun hc => ?_) (fun hc => ?_)
            · replace hs := it_f hc hs
              refine lv_iconst (v := 0) hx hb dX10_isLeast_44 (by decide) ?_
              refine lv_istore_n (lv' := [(2, .int 0), (0, .ref a_y), (1, .int p1), (3, .int s8.2)]) hx hb dX10_isLeast_45 rfl hl (by decide) rfl (fun ls hl => ?_)
              refine lv_iinc (v := s8.2 + 1) (lv' := [(3, .int (s8.2 + 1)), (2, .int 0), (0, .ref a_y), (1, .int p1)]) hx hb dX10_isLeast_46 hl (k := 3) rfl (by rfl) (by decide) rfl (fun ls hl => ?_)
              refine lv_goto (tgt := 8) hx hb dX10_isLeast_49 (by decide) ?_
              replace hs := Option.some.inj hs
              subst hs
              exact hZw (ih (0, s8.2 + 1) H locs ls hn hP hD hS (lv_sub hl [2, 3, 1, 0] rfl))
            · replace hs := it_t hc hs
              exact hZw (hJ40 () hs H locs ls hP hD hS (lv_sub hl [0, 1, 3] rfl))
  obtain ⟨n8, hn8⟩ := lp_ex he8
  exact hZw (hL8 n8 (r1, 0) H locs ls hn8 hP hD hS (lv_sub hl [2, 3, 1, 0] rfl))
noncomputable def pX10_many_L4 (y_n : Int32) (y_sets : Int32) (y_list : Nat → Int32) (s4 : Int32 × Int32) : Option ((Int32 × Int32) ⊕ (Int32)) :=
  Option.bind (pX10_all y_n) (fun r2 => if r2 < s4.2 then (some (Sum.inr s4.1)) else (Option.bind (pX10_isLeast y_n y_sets y_list s4.2) (fun r3 => Option.bind (if r3 = 0 then (some 0) else (some 1) : Option (Int32)) (fun t26 => some (Sum.inl (s4.1 + t26, s4.2 + 1))))))
noncomputable def pX10_many (y_n : Int32) (y_sets : Int32) (y_list : Nat → Int32) : Option (Int32) :=
  Option.bind (lp (pX10_many_L4 y_n y_sets y_list) (0, 0)) (fun e4 => some e4)
set_option maxHeartbeats 4000000 in
set_option maxRecDepth 100000 in
theorem c_X10_many (l : Launch) (dC : Nat → ClassId) (dI : Nat → Nat → Nat) (a_y : Nat) (a_y_list : Nat) (a_y_others : Nat) (a_y_costs : Nat) (a_y_table : Nat) (a_y_basis : Nat) (a_y_isSeen : Nat) (a_y_colour : Nat) (a_y_rest : Nat) (a_y_makes : Nat) (a_y_worst : Nat) (c_y_list : ClassId) (sz : Nat) (y_n : Int32) (y_sets : Int32) (y_otherMany : Int32) (y_above : Int64) (y_below : Int64) (y_by : Int64) (y_list : Nat → Int32) (rv : Int32) (hs : pX10_many y_n y_sets y_list = some rv) : Met l yX10_many wsX10_many ({ frames := 2, cells := 0, slots := 0, locals := 46 }) (sPc [.ref a_y] (dC, dI) [(c_y_list, .int)] [(a_y, .inr (10, [.int y_n, .ref a_y_list, .int y_sets, .ref a_y_others, .int y_otherMany, .ref a_y_costs, .long y_above, .long y_below, .ref a_y_table, .long y_by, .ref a_y_basis, .ref a_y_isSeen, .ref a_y_colour, .ref a_y_rest, .ref a_y_makes, .ref a_y_worst])), (a_y_list, .inl (c_y_list, 16, .inl y_list))] sz) (va_Qi (fun (r : Int32) (_ : Unit) => r = rv) (sB (dC, dI) [(c_y_list, .int)] (va_A [(a_y, .inr (10, [.int y_n, .ref a_y_list, .int y_sets, .ref a_y_others, .int y_otherMany, .ref a_y_costs, .long y_above, .long y_below, .ref a_y_table, .long y_by, .ref a_y_basis, .ref a_y_isSeen, .ref a_y_colour, .ref a_y_rest, .ref a_y_makes, .ref a_y_worst])), (a_y_list, .inl (c_y_list, 16, .inl y_list))] sz) [(a_y, .inr (10, [.int y_n, .ref a_y_list, .int y_sets, .ref a_y_others, .int y_otherMany, .ref a_y_costs, .long y_above, .long y_below, .ref a_y_table, .long y_by, .ref a_y_basis, .ref a_y_isSeen, .ref a_y_colour, .ref a_y_rest, .ref a_y_makes, .ref a_y_worst])), (a_y_list, .inl (c_y_list, 16, .inl y_list))]) (va_A [(a_y, .inr (10, [.int y_n, .ref a_y_list, .int y_sets, .ref a_y_others, .int y_otherMany, .ref a_y_costs, .long y_above, .long y_below, .ref a_y_table, .long y_by, .ref a_y_basis, .ref a_y_isSeen, .ref a_y_colour, .ref a_y_rest, .ref a_y_makes, .ref a_y_worst])), (a_y_list, .inl (c_y_list, 16, .inl y_list))] sz)) 0 0 (va_A [(a_y, .inr (10, [.int y_n, .ref a_y_list, .int y_sets, .ref a_y_others, .int y_otherMany, .ref a_y_costs, .long y_above, .long y_below, .ref a_y_table, .long y_by, .ref a_y_basis, .ref a_y_isSeen, .ref a_y_colour, .ref a_y_rest, .ref a_y_makes, .ref a_y_worst])), (a_y_list, .inl (c_y_list, 16, .inl y_list))] sz) := by
  refine Met.ofW (cc := cX10_many) (maxL := 3) (ret := (some .int)) (by decide) rfl ?_
  intro p e s m args below meth c s₁ B hml hv
  obtain ⟨rfl, hsz, hP, hK, hD0, hN⟩ := hv
  have hx := B.exec
  have hb := B.bytes
  have hr := B.returns
  have hts := atoms_spec (ws := wsX10_many) B.pre
  have hown : s.vm.findClass RX10 = some m.cls := findClass_of_methodNamed B.named
  have hlocks := B.notSynchronized
  subst hsz
  have hD := hD0.self (sz := s.heap.size)
  generalize hAe : va_A [(a_y, .inr (10, [.int y_n, .ref a_y_list, .int y_sets, .ref a_y_others, .int y_otherMany, .ref a_y_costs, .long y_above, .long y_below, .ref a_y_table, .long y_by, .ref a_y_basis, .ref a_y_isSeen, .ref a_y_colour, .ref a_y_rest, .ref a_y_makes, .ref a_y_worst])), (a_y_list, .inl (c_y_list, 16, .inl y_list))] s.heap.size = A at hD hN ⊢
  have hA : ∀ q : Nat, s.heap.size ≤ q → A q := fun q h => by rw [← hAe]; exact Or.inr h
  have hS : va_S A s.heap s.heap [] := va_S.rf
  have hP : va_P (dC, dI) vwCl [(a_y, .inr (10, [.int y_n, .ref a_y_list, .int y_sets, .ref a_y_others, .int y_otherMany, .ref a_y_costs, .long y_above, .long y_below, .ref a_y_table, .long y_by, .ref a_y_basis, .ref a_y_isSeen, .ref a_y_colour, .ref a_y_rest, .ref a_y_makes, .ref a_y_worst])), (a_y_list, .inl (c_y_list, 16, .inl y_list))] s.heap := hP
  have hl := lv_entry ([.ref a_y]) (n := 3) (Nat.le_of_ble_eq_true rfl)
  rw [lg_entry_eq]
  generalize (lg_sl ([.ref a_y]) ++ List.replicate (3 - (lg_sl ([.ref a_y])).length) Slot.unset).toArray = ls at hl ⊢
  have hl : lv_has ls 3 [(0, .ref a_y)] := hl
  refine w_abs (fun Z hZv hZw => ?_)
  refine hZv ?_
  obtain ⟨H, hH⟩ : ∃ H, H = s.heap := ⟨_, rfl⟩
  obtain ⟨locs, hlo⟩ : ∃ L : List Loc, L = [] := ⟨_, rfl⟩
  rw [← hlo, ← hH]
  have hS : va_S A s.heap H locs := by rw [hlo, hH]; exact hS
  have hP : va_P (dC, dI) vwCl [(a_y, .inr (10, [.int y_n, .ref a_y_list, .int y_sets, .ref a_y_others, .int y_otherMany, .ref a_y_costs, .long y_above, .long y_below, .ref a_y_table, .long y_by, .ref a_y_basis, .ref a_y_isSeen, .ref a_y_colour, .ref a_y_rest, .ref a_y_makes, .ref a_y_worst])), (a_y_list, .inl (c_y_list, 16, .inl y_list))] H := by rw [hH]; exact hP
  clear hH hlo
  unfold pX10_many at hs
  refine lv_iconst (v := 0) hx hb dX10_many_0 (by decide) ?_
  refine lv_istore_n (lv' := [(1, .int 0), (0, .ref a_y)]) hx hb dX10_many_1 rfl hl (by decide) rfl (fun ls hl => ?_)
  refine lv_iconst (v := 0) hx hb dX10_many_2 (by decide) ?_
  refine lv_istore_n (lv' := [(2, .int 0), (1, .int 0), (0, .ref a_y)]) hx hb dX10_many_3 rfl hl (by decide) rfl (fun ls hl => ?_)
  obtain ⟨e4, he4, hs⟩ := bd_s hs
  have hX4 : ∀ (H : Heap) (locs : List Loc) (ls : Array Slot), va_P (dC, dI) vwCl [(a_y, .inr (10, [.int y_n, .ref a_y_list, .int y_sets, .ref a_y_others, .int y_otherMany, .ref a_y_costs, .long y_above, .long y_below, .ref a_y_table, .long y_by, .ref a_y_basis, .ref a_y_isSeen, .ref a_y_colour, .ref a_y_rest, .ref a_y_makes, .ref a_y_worst])), (a_y_list, .inl (c_y_list, 16, .inl y_list))] H → va_D A [(a_y, .inr (10, [.int y_n, .ref a_y_list, .int y_sets, .ref a_y_others, .int y_otherMany, .ref a_y_costs, .long y_above, .long y_below, .ref a_y_table, .long y_by, .ref a_y_basis, .ref a_y_isSeen, .ref a_y_colour, .ref a_y_rest, .ref a_y_makes, .ref a_y_worst])), (a_y_list, .inl (c_y_list, 16, .inl y_list))] → va_S A s.heap H locs → lv_has ls 3 [(1, .int e4)] → Z H locs 0 0 (F0 m 34 ls []) := by
    intro H locs ls hP hD hS hl
    refine hZv ?_
    refine lv_iload_n hx hb dX10_many_34 rfl (lv_at hl 0 rfl) ?_
    replace hs := Option.some.inj hs
    subst hs
    exact W.iret (v := e4) hx hb hr (fun t ht hW => ⟨⟨e4, (), rfl, rfl, by rw [ht]; exact hP, va_K.moved hW.alike hK, hD⟩, hS.F ht⟩) hS.2.2 dX10_many_35
  clear hs
  have hL4 : ∀ (n : Nat) (s4 : Int32 × Int32) (H : Heap) (locs : List Loc) (ls : Array Slot), itr (pX10_many_L4 y_n y_sets y_list) n s4 = some e4 → va_P (dC, dI) vwCl [(a_y, .inr (10, [.int y_n, .ref a_y_list, .int y_sets, .ref a_y_others, .int y_otherMany, .ref a_y_costs, .long y_above, .long y_below, .ref a_y_table, .long y_by, .ref a_y_basis, .ref a_y_isSeen, .ref a_y_colour, .ref a_y_rest, .ref a_y_makes, .ref a_y_worst])), (a_y_list, .inl (c_y_list, 16, .inl y_list))] H → va_D A [(a_y, .inr (10, [.int y_n, .ref a_y_list, .int y_sets, .ref a_y_others, .int y_otherMany, .ref a_y_costs, .long y_above, .long y_below, .ref a_y_table, .long y_by, .ref a_y_basis, .ref a_y_isSeen, .ref a_y_colour, .ref a_y_rest, .ref a_y_makes, .ref a_y_worst])), (a_y_list, .inl (c_y_list, 16, .inl y_list))] → va_S A s.heap H locs → lv_has ls 3 [(0, .ref a_y), (1, .int s4.1), (2, .int s4.2)] → Z H locs 0 0 (F0 m 4 ls []) := by
    intro n
    induction n with
    | zero =>
      intro s4 H locs ls hn
      exact (itr_0 hn).elim
    | succ n ih =>
      intro s4 H locs ls hn hP hD hS hl
      obtain ⟨y1, hs, hn⟩ := itr_s hn
      unfold pX10_many_L4 at hs
      refine hZv ?_
      refine lv_iload_n hx hb dX10_many_4 rfl (lv_at hl 2 rfl) ?_
      refine lv_aload_n hx hb dX10_many_5 rfl (lv_at hl 0 rfl) ?_
      obtain ⟨r2, hr2, hs⟩ := bd_s hs
      refine kc_i (isC := [0]) (isR := [1]) (pm := [1, 0]) (wr := [(a_y_list, .inl (c_y_list, 16, .inl y_list))]) (w1 := [(a_y, .inr (10, [.int y_n, .ref a_y_list, .int y_sets, .ref a_y_others, .int y_otherMany, .ref a_y_costs, .long y_above, .long y_below, .ref a_y_table, .long y_by, .ref a_y_basis, .ref a_y_isSeen, .ref a_y_colour, .ref a_y_rest, .ref a_y_makes, .ref a_y_worst]))]) (w2 := [(a_y, .inr (10, [.int y_n, .ref a_y_list, .int y_sets, .ref a_y_others, .int y_otherMany, .ref a_y_costs, .long y_above, .long y_below, .ref a_y_table, .long y_by, .ref a_y_basis, .ref a_y_isSeen, .ref a_y_colour, .ref a_y_rest, .ref a_y_makes, .ref a_y_worst])), (a_y_list, .inl (c_y_list, 16, .inl y_list))]) (va_runV (As := []) (rest := [.int s4.2]) ⟨hx, hb, hml, hown, hts⟩ (c_X10_all l dC dI a_y a_y_list a_y_others a_y_costs a_y_table a_y_basis a_y_isSeen a_y_colour a_y_rest a_y_makes a_y_worst H.size y_n y_sets y_otherMany y_above y_below y_by r2 hr2) (cwV 0 hts gX10_many_X10_all rfl rfl rfl (by decide +kernel) ⟨Nat.le_of_ble_eq_true rfl, Nat.le_of_ble_eq_true rfl⟩) (kp_V hK hP hD hS hA hN (isC := [0]) (isT := []) (wc := [(a_y, .inr (10, [.int y_n, .ref a_y_list, .int y_sets, .ref a_y_others, .int y_otherMany, .ref a_y_costs, .long y_above, .long y_below, .ref a_y_table, .long y_by, .ref a_y_basis, .ref a_y_isSeen, .ref a_y_colour, .ref a_y_rest, .ref a_y_makes, .ref a_y_worst]))]) rfl (by decide +kernel) rfl (ci := 10) (q0 := 0) rfl rfl) rfl rfl hl.1 rfl (lv_room (Nat.le_of_ble_eq_true rfl)) dX10_many_6 ⟨Nat.le_of_ble_eq_true rfl, Nat.le_of_ble_eq_true rfl⟩) hP hD hS hA rfl rfl (by decide +kernel) (by decide +kernel) rfl (by decide +kernel) (fun H locs hP hD hS => ?_)
      refine lv_icmp_gt (tgt := 34) hx hb dX10_many_9 (by decide) (fun hc => ?_) (fun hc => ?_)
      · replace hs := it_t hc hs
        replace hs := Option.some.inj hs
        subst hs
        obtain rfl : s4.1 = e4 := hn
        exact hZw (hX4 H locs ls hP hD hS (lv_sub hl [1] rfl))
      · replace hs := it_f hc hs
        refine lv_iload_n hx hb dX10_many_12 rfl (lv_at hl 1 rfl) ?_
        refine lv_aload_n hx hb dX10_many_13 rfl (lv_at hl 0 rfl) ?_
        refine lv_iload_n hx hb dX10_many_14 rfl (lv_at hl 2 rfl) ?_
        obtain ⟨r3, hr3, hs⟩ := bd_s hs
        refine kc_i (isC := [0, 1]) (isR := []) (pm := [0, 1]) (wr := []) (w1 := [(a_y, .inr (10, [.int y_n, .ref a_y_list, .int y_sets, .ref a_y_others, .int y_otherMany, .ref a_y_costs, .long y_above, .long y_below, .ref a_y_table, .long y_by, .ref a_y_basis, .ref a_y_isSeen, .ref a_y_colour, .ref a_y_rest, .ref a_y_makes, .ref a_y_worst])), (a_y_list, .inl (c_y_list, 16, .inl y_list))]) (w2 := [(a_y, .inr (10, [.int y_n, .ref a_y_list, .int y_sets, .ref a_y_others, .int y_otherMany, .ref a_y_costs, .long y_above, .long y_below, .ref a_y_table, .long y_by, .ref a_y_basis, .ref a_y_isSeen, .ref a_y_colour, .ref a_y_rest, .ref a_y_makes, .ref a_y_worst])), (a_y_list, .inl (c_y_list, 16, .inl y_list))]) (va_runV (As := [.int s4.2]) (rest := [.int s4.1]) ⟨hx, hb, hml, hown, hts⟩ (c_X10_isLeast l dC dI a_y a_y_list a_y_others a_y_costs a_y_table a_y_basis a_y_isSeen a_y_colour a_y_rest a_y_makes a_y_worst c_y_list H.size y_n y_sets y_otherMany y_above y_below y_by y_list s4.2 r3 hr3) (cwV 1 hts gX10_many_X10_isLeast rfl rfl rfl (by decide +kernel) ⟨Nat.le_of_ble_eq_true rfl, Nat.le_of_ble_eq_true rfl⟩) (kp_V hK hP hD hS hA hN (isC := [0, 1]) (isT := [0]) (wc := [(a_y, .inr (10, [.int y_n, .ref a_y_list, .int y_sets, .ref a_y_others, .int y_otherMany, .ref a_y_costs, .long y_above, .long y_below, .ref a_y_table, .long y_by, .ref a_y_basis, .ref a_y_isSeen, .ref a_y_colour, .ref a_y_rest, .ref a_y_makes, .ref a_y_worst])), (a_y_list, .inl (c_y_list, 16, .inl y_list))]) rfl (by decide +kernel) rfl (ci := 10) (q0 := 0) rfl rfl) rfl rfl hl.1 rfl (lv_room (Nat.le_of_ble_eq_true rfl)) dX10_many_15 ⟨Nat.le_of_ble_eq_true rfl, Nat.le_of_ble_eq_true rfl⟩) hP hD hS hA rfl rfl (by decide +kernel) (by decide +kernel) rfl (by decide +kernel) (fun H locs hP hD hS => ?_)
        obtain ⟨t26, hq26, hs⟩ := bd_s hs
        have hJ26 : ∀ (H : Heap) (locs : List Loc) (ls : Array Slot), va_P (dC, dI) vwCl [(a_y, .inr (10, [.int y_n, .ref a_y_list, .int y_sets, .ref a_y_others, .int y_otherMany, .ref a_y_costs, .long y_above, .long y_below, .ref a_y_table, .long y_by, .ref a_y_basis, .ref a_y_isSeen, .ref a_y_colour, .ref a_y_rest, .ref a_y_makes, .ref a_y_worst])), (a_y_list, .inl (c_y_list, 16, .inl y_list))] H → va_D A [(a_y, .inr (10, [.int y_n, .ref a_y_list, .int y_sets, .ref a_y_others, .int y_otherMany, .ref a_y_costs, .long y_above, .long y_below, .ref a_y_table, .long y_by, .ref a_y_basis, .ref a_y_isSeen, .ref a_y_colour, .ref a_y_rest, .ref a_y_makes, .ref a_y_worst])), (a_y_list, .inl (c_y_list, 16, .inl y_list))] → va_S A s.heap H locs → lv_has ls 3 [(0, .ref a_y), (2, .int s4.2)] → Z H locs 0 0 (F0 m 26 ls [.int t26, .int s4.1]) := by
          intro H locs ls hP hD hS hl
          refine hZv ?_
          refine lv_iadd hx hb dX10_many_26 ?_
          refine lv_istore_n (lv' := [(1, .int (s4.1 + t26)), (0, .ref a_y), (2, .int s4.2)]) hx hb dX10_many_27 rfl hl (by decide) rfl (fun ls hl => ?_)
          refine lv_iinc (v := s4.2 + 1) (lv' := [(2, .int (s4.2 + 1)), (1, .int (s4.1 + t26)), (0, .ref a_y)]) hx hb dX10_many_28 hl (k := 2) rfl (by rfl) (by decide) rfl (fun ls hl => ?_)
          refine lv_goto (tgt := 4) hx hb dX10_many_31 (by decide) ?_
          replace hs := Option.some.inj hs
          subst hs
          exact hZw (ih (s4.1 + t26, s4.2 + 1) H locs ls hn hP hD hS (lv_sub hl [2, 1, 0] rfl))
        clear hs
        have hs := hq26
        refine lv_if_eq (tgt := 25) hx hb dX10_many_18 (by decide) (fun hc => ?_) (fun hc => ?_)
        · replace hs := it_t hc hs
          refine lv_iconst (v := 0) hx hb dX10_many_25 (by decide) ?_
          replace hs := Option.some.inj hs
          subst hs
          exact hZw (hJ26 H locs ls hP hD hS (lv_sub hl [0, 2] rfl))
        · replace hs := it_f hc hs
          refine lv_iconst (v := 1) hx hb dX10_many_21 (by decide) ?_
          refine lv_goto (tgt := 26) hx hb dX10_many_22 (by decide) ?_
          replace hs := Option.some.inj hs
          subst hs
          exact hZw (hJ26 H locs ls hP hD hS (lv_sub hl [0, 2] rfl))
  obtain ⟨n4, hn4⟩ := lp_ex he4
  exact hZw (hL4 n4 (0, 0) H locs ls hn4 hP hD hS (lv_sub hl [2, 1, 0] rfl))
noncomputable def pX10_meeters (y_n : Int32) (y_sets : Int32) (y_list : Nat → Int32) : Option (Int32) :=
  Option.bind (pX10_many y_n y_sets y_list) (fun r1 => some r1)
set_option maxHeartbeats 4000000 in
set_option maxRecDepth 100000 in
theorem c_X10_meeters (l : Launch) (dC : Nat → ClassId) (dI : Nat → Nat → Nat) (a_y : Nat) (a_y_list : Nat) (a_y_others : Nat) (a_y_costs : Nat) (a_y_table : Nat) (a_y_basis : Nat) (a_y_isSeen : Nat) (a_y_colour : Nat) (a_y_rest : Nat) (a_y_makes : Nat) (a_y_worst : Nat) (c_y_list : ClassId) (sz : Nat) (y_n : Int32) (y_sets : Int32) (y_otherMany : Int32) (y_above : Int64) (y_below : Int64) (y_by : Int64) (y_list : Nat → Int32) (rv : Int32) (hs : pX10_meeters y_n y_sets y_list = some rv) : Met l yX10_meeters wsX10_meeters ({ frames := 3, cells := 0, slots := 0, locals := 68 }) (sPc [.ref a_y] (dC, dI) [(c_y_list, .int)] [(a_y, .inr (10, [.int y_n, .ref a_y_list, .int y_sets, .ref a_y_others, .int y_otherMany, .ref a_y_costs, .long y_above, .long y_below, .ref a_y_table, .long y_by, .ref a_y_basis, .ref a_y_isSeen, .ref a_y_colour, .ref a_y_rest, .ref a_y_makes, .ref a_y_worst])), (a_y_list, .inl (c_y_list, 16, .inl y_list))] sz) (va_Qi (fun (r : Int32) (_ : Unit) => r = rv) (sB (dC, dI) [(c_y_list, .int)] (va_A [(a_y, .inr (10, [.int y_n, .ref a_y_list, .int y_sets, .ref a_y_others, .int y_otherMany, .ref a_y_costs, .long y_above, .long y_below, .ref a_y_table, .long y_by, .ref a_y_basis, .ref a_y_isSeen, .ref a_y_colour, .ref a_y_rest, .ref a_y_makes, .ref a_y_worst])), (a_y_list, .inl (c_y_list, 16, .inl y_list))] sz) [(a_y, .inr (10, [.int y_n, .ref a_y_list, .int y_sets, .ref a_y_others, .int y_otherMany, .ref a_y_costs, .long y_above, .long y_below, .ref a_y_table, .long y_by, .ref a_y_basis, .ref a_y_isSeen, .ref a_y_colour, .ref a_y_rest, .ref a_y_makes, .ref a_y_worst])), (a_y_list, .inl (c_y_list, 16, .inl y_list))]) (va_A [(a_y, .inr (10, [.int y_n, .ref a_y_list, .int y_sets, .ref a_y_others, .int y_otherMany, .ref a_y_costs, .long y_above, .long y_below, .ref a_y_table, .long y_by, .ref a_y_basis, .ref a_y_isSeen, .ref a_y_colour, .ref a_y_rest, .ref a_y_makes, .ref a_y_worst])), (a_y_list, .inl (c_y_list, 16, .inl y_list))] sz)) 0 0 (va_A [(a_y, .inr (10, [.int y_n, .ref a_y_list, .int y_sets, .ref a_y_others, .int y_otherMany, .ref a_y_costs, .long y_above, .long y_below, .ref a_y_table, .long y_by, .ref a_y_basis, .ref a_y_isSeen, .ref a_y_colour, .ref a_y_rest, .ref a_y_makes, .ref a_y_worst])), (a_y_list, .inl (c_y_list, 16, .inl y_list))] sz) := by
  refine Met.ofW (cc := cX10_meeters) (maxL := 1) (ret := (some .int)) (by decide) rfl ?_
  intro p e s m args below meth c s₁ B hml hv
  obtain ⟨rfl, hsz, hP, hK, hD0, hN⟩ := hv
  have hx := B.exec
  have hb := B.bytes
  have hr := B.returns
  have hts := atoms_spec (ws := wsX10_meeters) B.pre
  have hown : s.vm.findClass RX10 = some m.cls := findClass_of_methodNamed B.named
  have hlocks := B.notSynchronized
  subst hsz
  have hD := hD0.self (sz := s.heap.size)
  generalize hAe : va_A [(a_y, .inr (10, [.int y_n, .ref a_y_list, .int y_sets, .ref a_y_others, .int y_otherMany, .ref a_y_costs, .long y_above, .long y_below, .ref a_y_table, .long y_by, .ref a_y_basis, .ref a_y_isSeen, .ref a_y_colour, .ref a_y_rest, .ref a_y_makes, .ref a_y_worst])), (a_y_list, .inl (c_y_list, 16, .inl y_list))] s.heap.size = A at hD hN ⊢
  have hA : ∀ q : Nat, s.heap.size ≤ q → A q := fun q h => by rw [← hAe]; exact Or.inr h
  have hS : va_S A s.heap s.heap [] := va_S.rf
  have hP : va_P (dC, dI) vwCl [(a_y, .inr (10, [.int y_n, .ref a_y_list, .int y_sets, .ref a_y_others, .int y_otherMany, .ref a_y_costs, .long y_above, .long y_below, .ref a_y_table, .long y_by, .ref a_y_basis, .ref a_y_isSeen, .ref a_y_colour, .ref a_y_rest, .ref a_y_makes, .ref a_y_worst])), (a_y_list, .inl (c_y_list, 16, .inl y_list))] s.heap := hP
  have hl := lv_entry ([.ref a_y]) (n := 1) (Nat.le_of_ble_eq_true rfl)
  rw [lg_entry_eq]
  generalize (lg_sl ([.ref a_y]) ++ List.replicate (1 - (lg_sl ([.ref a_y])).length) Slot.unset).toArray = ls at hl ⊢
  have hl : lv_has ls 1 [(0, .ref a_y)] := hl
  refine w_abs (fun Z hZv hZw => ?_)
  refine hZv ?_
  obtain ⟨H, hH⟩ : ∃ H, H = s.heap := ⟨_, rfl⟩
  obtain ⟨locs, hlo⟩ : ∃ L : List Loc, L = [] := ⟨_, rfl⟩
  rw [← hlo, ← hH]
  have hS : va_S A s.heap H locs := by rw [hlo, hH]; exact hS
  have hP : va_P (dC, dI) vwCl [(a_y, .inr (10, [.int y_n, .ref a_y_list, .int y_sets, .ref a_y_others, .int y_otherMany, .ref a_y_costs, .long y_above, .long y_below, .ref a_y_table, .long y_by, .ref a_y_basis, .ref a_y_isSeen, .ref a_y_colour, .ref a_y_rest, .ref a_y_makes, .ref a_y_worst])), (a_y_list, .inl (c_y_list, 16, .inl y_list))] H := by rw [hH]; exact hP
  clear hH hlo
  unfold pX10_meeters at hs
  refine lv_aload_n hx hb dX10_meeters_0 rfl (lv_at hl 0 rfl) ?_
  obtain ⟨r1, hr1, hs⟩ := bd_s hs
  refine kc_i (isC := [0, 1]) (isR := []) (pm := [0, 1]) (wr := []) (w1 := [(a_y, .inr (10, [.int y_n, .ref a_y_list, .int y_sets, .ref a_y_others, .int y_otherMany, .ref a_y_costs, .long y_above, .long y_below, .ref a_y_table, .long y_by, .ref a_y_basis, .ref a_y_isSeen, .ref a_y_colour, .ref a_y_rest, .ref a_y_makes, .ref a_y_worst])), (a_y_list, .inl (c_y_list, 16, .inl y_list))]) (w2 := [(a_y, .inr (10, [.int y_n, .ref a_y_list, .int y_sets, .ref a_y_others, .int y_otherMany, .ref a_y_costs, .long y_above, .long y_below, .ref a_y_table, .long y_by, .ref a_y_basis, .ref a_y_isSeen, .ref a_y_colour, .ref a_y_rest, .ref a_y_makes, .ref a_y_worst])), (a_y_list, .inl (c_y_list, 16, .inl y_list))]) (va_runV (As := []) (rest := []) ⟨hx, hb, hml, hown, hts⟩ (c_X10_many l dC dI a_y a_y_list a_y_others a_y_costs a_y_table a_y_basis a_y_isSeen a_y_colour a_y_rest a_y_makes a_y_worst c_y_list H.size y_n y_sets y_otherMany y_above y_below y_by y_list r1 hr1) (cwV 0 hts gX10_meeters_X10_many rfl rfl rfl (by decide +kernel) ⟨Nat.le_of_ble_eq_true rfl, Nat.le_of_ble_eq_true rfl⟩) (kp_V hK hP hD hS hA hN (isC := [0, 1]) (isT := [0]) (wc := [(a_y, .inr (10, [.int y_n, .ref a_y_list, .int y_sets, .ref a_y_others, .int y_otherMany, .ref a_y_costs, .long y_above, .long y_below, .ref a_y_table, .long y_by, .ref a_y_basis, .ref a_y_isSeen, .ref a_y_colour, .ref a_y_rest, .ref a_y_makes, .ref a_y_worst])), (a_y_list, .inl (c_y_list, 16, .inl y_list))]) rfl (by decide +kernel) rfl (ci := 10) (q0 := 0) rfl rfl) rfl rfl hl.1 rfl (lv_room (Nat.le_of_ble_eq_true rfl)) dX10_meeters_1 ⟨Nat.le_of_ble_eq_true rfl, Nat.le_of_ble_eq_true rfl⟩) hP hD hS hA rfl rfl (by decide +kernel) (by decide +kernel) rfl (by decide +kernel) (fun H locs hP hD hS => ?_)
  replace hs := Option.some.inj hs
  subst hs
  exact W.iret (v := r1) hx hb hr (fun t ht hW => ⟨⟨r1, (), rfl, rfl, by rw [ht]; exact hP, va_K.moved hW.alike hK, hD⟩, hS.F ht⟩) hS.2.2 dX10_meeters_4
noncomputable def pX10_meeter_L11 (y_n : Int32) (y_sets : Int32) (y_list : Nat → Int32) (p1 : Int32) (s11 : Int32 × Int32) : Option ((Int32 × Int32) ⊕ ((Int32) ⊕ (Unit))) :=
  Option.bind (pX10_all y_n) (fun r2 => if r2 < s11.2 then (some (Sum.inr (Sum.inr ()))) else (Option.bind (pX10_isLeast y_n y_sets y_list s11.2) (fun r3 => if r3 = 0 then (some (Sum.inl (s11.1, s11.2 + 1))) else (if s11.1 = p1 then (some (Sum.inr (Sum.inl s11.2))) else (some (Sum.inl (s11.1 + 1, s11.2 + 1)))))))
noncomputable def pX10_meeter (y_n : Int32) (y_sets : Int32) (y_list : Nat → Int32) (p1 : Int32) : Option (Int32) :=
  if 0 ≤ p1 then (Option.bind (lp (pX10_meeter_L11 y_n y_sets y_list p1) (0, 0)) (Sum.elim (fun e11_0 => some e11_0) (fun e11_1 => some (-1)))) else (some (-2))
set_option maxHeartbeats 4000000 in
set_option maxRecDepth 100000 in
theorem c_X10_meeter (l : Launch) (dC : Nat → ClassId) (dI : Nat → Nat → Nat) (a_y : Nat) (a_y_list : Nat) (a_y_others : Nat) (a_y_costs : Nat) (a_y_table : Nat) (a_y_basis : Nat) (a_y_isSeen : Nat) (a_y_colour : Nat) (a_y_rest : Nat) (a_y_makes : Nat) (a_y_worst : Nat) (c_y_list : ClassId) (sz : Nat) (y_n : Int32) (y_sets : Int32) (y_otherMany : Int32) (y_above : Int64) (y_below : Int64) (y_by : Int64) (y_list : Nat → Int32) (p1 : Int32) (rv : Int32) (hs : pX10_meeter y_n y_sets y_list p1 = some rv) : Met l yX10_meeter wsX10_meeter ({ frames := 2, cells := 0, slots := 0, locals := 46 }) (sPc [.ref a_y, .int p1] (dC, dI) [(c_y_list, .int)] [(a_y, .inr (10, [.int y_n, .ref a_y_list, .int y_sets, .ref a_y_others, .int y_otherMany, .ref a_y_costs, .long y_above, .long y_below, .ref a_y_table, .long y_by, .ref a_y_basis, .ref a_y_isSeen, .ref a_y_colour, .ref a_y_rest, .ref a_y_makes, .ref a_y_worst])), (a_y_list, .inl (c_y_list, 16, .inl y_list))] sz) (va_Qi (fun (r : Int32) (_ : Unit) => r = rv) (sB (dC, dI) [(c_y_list, .int)] (va_A [(a_y, .inr (10, [.int y_n, .ref a_y_list, .int y_sets, .ref a_y_others, .int y_otherMany, .ref a_y_costs, .long y_above, .long y_below, .ref a_y_table, .long y_by, .ref a_y_basis, .ref a_y_isSeen, .ref a_y_colour, .ref a_y_rest, .ref a_y_makes, .ref a_y_worst])), (a_y_list, .inl (c_y_list, 16, .inl y_list))] sz) [(a_y, .inr (10, [.int y_n, .ref a_y_list, .int y_sets, .ref a_y_others, .int y_otherMany, .ref a_y_costs, .long y_above, .long y_below, .ref a_y_table, .long y_by, .ref a_y_basis, .ref a_y_isSeen, .ref a_y_colour, .ref a_y_rest, .ref a_y_makes, .ref a_y_worst])), (a_y_list, .inl (c_y_list, 16, .inl y_list))]) (va_A [(a_y, .inr (10, [.int y_n, .ref a_y_list, .int y_sets, .ref a_y_others, .int y_otherMany, .ref a_y_costs, .long y_above, .long y_below, .ref a_y_table, .long y_by, .ref a_y_basis, .ref a_y_isSeen, .ref a_y_colour, .ref a_y_rest, .ref a_y_makes, .ref a_y_worst])), (a_y_list, .inl (c_y_list, 16, .inl y_list))] sz)) 0 0 (va_A [(a_y, .inr (10, [.int y_n, .ref a_y_list, .int y_sets, .ref a_y_others, .int y_otherMany, .ref a_y_costs, .long y_above, .long y_below, .ref a_y_table, .long y_by, .ref a_y_basis, .ref a_y_isSeen, .ref a_y_colour, .ref a_y_rest, .ref a_y_makes, .ref a_y_worst])), (a_y_list, .inl (c_y_list, 16, .inl y_list))] sz) := by
  refine Met.ofW (cc := cX10_meeter) (maxL := 4) (ret := (some .int)) (by decide) rfl ?_
  intro p e s m args below meth c s₁ B hml hv
  obtain ⟨rfl, hsz, hP, hK, hD0, hN⟩ := hv
  have hx := B.exec
  have hb := B.bytes
  have hr := B.returns
  have hts := atoms_spec (ws := wsX10_meeter) B.pre
  have hown : s.vm.findClass RX10 = some m.cls := findClass_of_methodNamed B.named
  have hlocks := B.notSynchronized
  subst hsz
  have hD := hD0.self (sz := s.heap.size)
  generalize hAe : va_A [(a_y, .inr (10, [.int y_n, .ref a_y_list, .int y_sets, .ref a_y_others, .int y_otherMany, .ref a_y_costs, .long y_above, .long y_below, .ref a_y_table, .long y_by, .ref a_y_basis, .ref a_y_isSeen, .ref a_y_colour, .ref a_y_rest, .ref a_y_makes, .ref a_y_worst])), (a_y_list, .inl (c_y_list, 16, .inl y_list))] s.heap.size = A at hD hN ⊢
  have hA : ∀ q : Nat, s.heap.size ≤ q → A q := fun q h => by rw [← hAe]; exact Or.inr h
  have hS : va_S A s.heap s.heap [] := va_S.rf
  have hP : va_P (dC, dI) vwCl [(a_y, .inr (10, [.int y_n, .ref a_y_list, .int y_sets, .ref a_y_others, .int y_otherMany, .ref a_y_costs, .long y_above, .long y_below, .ref a_y_table, .long y_by, .ref a_y_basis, .ref a_y_isSeen, .ref a_y_colour, .ref a_y_rest, .ref a_y_makes, .ref a_y_worst])), (a_y_list, .inl (c_y_list, 16, .inl y_list))] s.heap := hP
  have hl := lv_entry ([.ref a_y, .int p1]) (n := 4) (Nat.le_of_ble_eq_true rfl)
  rw [lg_entry_eq]
  generalize (lg_sl ([.ref a_y, .int p1]) ++ List.replicate (4 - (lg_sl ([.ref a_y, .int p1])).length) Slot.unset).toArray = ls at hl ⊢
  have hl : lv_has ls 4 [(0, .ref a_y), (1, .int p1)] := hl
  refine w_abs (fun Z hZv hZw => ?_)
  refine hZv ?_
  obtain ⟨H, hH⟩ : ∃ H, H = s.heap := ⟨_, rfl⟩
  obtain ⟨locs, hlo⟩ : ∃ L : List Loc, L = [] := ⟨_, rfl⟩
  rw [← hlo, ← hH]
  have hS : va_S A s.heap H locs := by rw [hlo, hH]; exact hS
  have hP : va_P (dC, dI) vwCl [(a_y, .inr (10, [.int y_n, .ref a_y_list, .int y_sets, .ref a_y_others, .int y_otherMany, .ref a_y_costs, .long y_above, .long y_below, .ref a_y_table, .long y_by, .ref a_y_basis, .ref a_y_isSeen, .ref a_y_colour, .ref a_y_rest, .ref a_y_makes, .ref a_y_worst])), (a_y_list, .inl (c_y_list, 16, .inl y_list))] H := by rw [hH]; exact hP
  clear hH hlo
  unfold pX10_meeter at hs
  refine lv_iload_n hx hb dX10_meeter_0 rfl (lv_at hl 1 rfl) ?_
  refine lv_if_ge (tgt := 7) hx hb dX10_meeter_1 (by decide) (fun hc => ?_) (fun hc => ?_)
  · replace hs := it_t hc hs
    refine lv_iconst (v := 0) hx hb dX10_meeter_7 (by decide) ?_
    refine lv_istore_n (lv' := [(2, .int 0), (0, .ref a_y), (1, .int p1)]) hx hb dX10_meeter_8 rfl hl (by decide) rfl (fun ls hl => ?_)
    refine lv_iconst (v := 0) hx hb dX10_meeter_9 (by decide) ?_
    refine lv_istore_n (lv' := [(3, .int 0), (2, .int 0), (0, .ref a_y), (1, .int p1)]) hx hb dX10_meeter_10 rfl hl (by decide) rfl (fun ls hl => ?_)
    obtain ⟨e11, he11, hs⟩ := bd_s hs
    have hX11_0 : ∀ (e11_0 : Int32), (Sum.inl e11_0) = e11 → ∀ (H : Heap) (locs : List Loc) (ls : Array Slot), va_P (dC, dI) vwCl [(a_y, .inr (10, [.int y_n, .ref a_y_list, .int y_sets, .ref a_y_others, .int y_otherMany, .ref a_y_costs, .long y_above, .long y_below, .ref a_y_table, .long y_by, .ref a_y_basis, .ref a_y_isSeen, .ref a_y_colour, .ref a_y_rest, .ref a_y_makes, .ref a_y_worst])), (a_y_list, .inl (c_y_list, 16, .inl y_list))] H → va_D A [(a_y, .inr (10, [.int y_n, .ref a_y_list, .int y_sets, .ref a_y_others, .int y_otherMany, .ref a_y_costs, .long y_above, .long y_below, .ref a_y_table, .long y_by, .ref a_y_basis, .ref a_y_isSeen, .ref a_y_colour, .ref a_y_rest, .ref a_y_makes, .ref a_y_worst])), (a_y_list, .inl (c_y_list, 16, .inl y_list))] → va_S A s.heap H locs → lv_has ls 4 [(3, .int e11_0)] → Z H locs 0 0 (F0 m 32 ls []) := by
      intro e11_0 he H locs ls hP hD hS hl
      subst he
      replace hs := sm_l hs
      refine hZv ?_
      refine lv_iload_n hx hb dX10_meeter_32 rfl (lv_at hl 0 rfl) ?_
      replace hs := Option.some.inj hs
      subst hs
      exact W.iret (v := e11_0) hx hb hr (fun t ht hW => ⟨⟨e11_0, (), rfl, rfl, by rw [ht]; exact hP, va_K.moved hW.alike hK, hD⟩, hS.F ht⟩) hS.2.2 dX10_meeter_33
    have hX11_1 : ∀ (e11_1 : Unit), (Sum.inr e11_1) = e11 → ∀ (H : Heap) (locs : List Loc) (ls : Array Slot), va_P (dC, dI) vwCl [(a_y, .inr (10, [.int y_n, .ref a_y_list, .int y_sets, .ref a_y_others, .int y_otherMany, .ref a_y_costs, .long y_above, .long y_below, .ref a_y_table, .long y_by, .ref a_y_basis, .ref a_y_isSeen, .ref a_y_colour, .ref a_y_rest, .ref a_y_makes, .ref a_y_worst])), (a_y_list, .inl (c_y_list, 16, .inl y_list))] H → va_D A [(a_y, .inr (10, [.int y_n, .ref a_y_list, .int y_sets, .ref a_y_others, .int y_otherMany, .ref a_y_costs, .long y_above, .long y_below, .ref a_y_table, .long y_by, .ref a_y_basis, .ref a_y_isSeen, .ref a_y_colour, .ref a_y_rest, .ref a_y_makes, .ref a_y_worst])), (a_y_list, .inl (c_y_list, 16, .inl y_list))] → va_S A s.heap H locs → lv_has ls 4 [] → Z H locs 0 0 (F0 m 43 ls []) := by
      intro e11_1 he H locs ls hP hD hS hl
      subst he
      replace hs := sm_r hs
      refine hZv ?_
      refine lv_iconst (v := (-1)) hx hb dX10_meeter_43 (by decide) ?_
      replace hs := Option.some.inj hs
      subst hs
      exact W.iret (v := (-1)) hx hb hr (fun t ht hW => ⟨⟨(-1), (), rfl, rfl, by rw [ht]; exact hP, va_K.moved hW.alike hK, hD⟩, hS.F ht⟩) hS.2.2 dX10_meeter_44
    clear hs
    have hL11 : ∀ (n : Nat) (s11 : Int32 × Int32) (H : Heap) (locs : List Loc) (ls : Array Slot), itr (pX10_meeter_L11 y_n y_sets y_list p1) n s11 = some e11 → va_P (dC, dI) vwCl [(a_y, .inr (10, [.int y_n, .ref a_y_list, .int y_sets, .ref a_y_others, .int y_otherMany, .ref a_y_costs, .long y_above, .long y_below, .ref a_y_table, .long y_by, .ref a_y_basis, .ref a_y_isSeen, .ref a_y_colour, .ref a_y_rest, .ref a_y_makes, .ref a_y_worst])), (a_y_list, .inl (c_y_list, 16, .inl y_list))] H → va_D A [(a_y, .inr (10, [.int y_n, .ref a_y_list, .int y_sets, .ref a_y_others, .int y_otherMany, .ref a_y_costs, .long y_above, .long y_below, .ref a_y_table, .long y_by, .ref a_y_basis, .ref a_y_isSeen, .ref a_y_colour, .ref a_y_rest, .ref a_y_makes, .ref a_y_worst])), (a_y_list, .inl (c_y_list, 16, .inl y_list))] → va_S A s.heap H locs → lv_has ls 4 [(0, .ref a_y), (1, .int p1), (2, .int s11.1), (3, .int s11.2)] → Z H locs 0 0 (F0 m 11 ls []) := by
      intro n
      induction n with
      | zero =>
        intro s11 H locs ls hn
        exact (itr_0 hn).elim
      | succ n ih =>
        intro s11 H locs ls hn hP hD hS hl
        obtain ⟨y1, hs, hn⟩ := itr_s hn
        unfold pX10_meeter_L11 at hs
        refine hZv ?_
        refine lv_iload_n hx hb dX10_meeter_11 rfl (lv_at hl 3 rfl) ?_
        refine lv_aload_n hx hb dX10_meeter_12 rfl (lv_at hl 0 rfl) ?_
        obtain ⟨r2, hr2, hs⟩ := bd_s hs
        refine kc_i (isC := [0]) (isR := [1]) (pm := [1, 0]) (wr := [(a_y_list, .inl (c_y_list, 16, .inl y_list))]) (w1 := [(a_y, .inr (10, [.int y_n, .ref a_y_list, .int y_sets, .ref a_y_others, .int y_otherMany, .ref a_y_costs, .long y_above, .long y_below, .ref a_y_table, .long y_by, .ref a_y_basis, .ref a_y_isSeen, .ref a_y_colour, .ref a_y_rest, .ref a_y_makes, .ref a_y_worst]))]) (w2 := [(a_y, .inr (10, [.int y_n, .ref a_y_list, .int y_sets, .ref a_y_others, .int y_otherMany, .ref a_y_costs, .long y_above, .long y_below, .ref a_y_table, .long y_by, .ref a_y_basis, .ref a_y_isSeen, .ref a_y_colour, .ref a_y_rest, .ref a_y_makes, .ref a_y_worst])), (a_y_list, .inl (c_y_list, 16, .inl y_list))]) (va_runV (As := []) (rest := [.int s11.2]) ⟨hx, hb, hml, hown, hts⟩ (c_X10_all l dC dI a_y a_y_list a_y_others a_y_costs a_y_table a_y_basis a_y_isSeen a_y_colour a_y_rest a_y_makes a_y_worst H.size y_n y_sets y_otherMany y_above y_below y_by r2 hr2) (cwV 0 hts gX10_meeter_X10_all rfl rfl rfl (by decide +kernel) ⟨Nat.le_of_ble_eq_true rfl, Nat.le_of_ble_eq_true rfl⟩) (kp_V hK hP hD hS hA hN (isC := [0]) (isT := []) (wc := [(a_y, .inr (10, [.int y_n, .ref a_y_list, .int y_sets, .ref a_y_others, .int y_otherMany, .ref a_y_costs, .long y_above, .long y_below, .ref a_y_table, .long y_by, .ref a_y_basis, .ref a_y_isSeen, .ref a_y_colour, .ref a_y_rest, .ref a_y_makes, .ref a_y_worst]))]) rfl (by decide +kernel) rfl (ci := 10) (q0 := 0) rfl rfl) rfl rfl hl.1 rfl (lv_room (Nat.le_of_ble_eq_true rfl)) dX10_meeter_13 ⟨Nat.le_of_ble_eq_true rfl, Nat.le_of_ble_eq_true rfl⟩) hP hD hS hA rfl rfl (by decide +kernel) (by decide +kernel) rfl (by decide +kernel) (fun H locs hP hD hS => ?_)
        refine lv_icmp_gt (tgt := 43) hx hb dX10_meeter_16 (by decide) (fun hc => ?_) (fun hc => ?_)
        · replace hs := it_t hc hs
          replace hs := Option.some.inj hs
          subst hs
          obtain rfl : (Sum.inr ()) = e11 := hn
          exact hZw (hX11_1 () rfl H locs ls hP hD hS (lv_sub hl [] rfl))
        · replace hs := it_f hc hs
          refine lv_aload_n hx hb dX10_meeter_19 rfl (lv_at hl 0 rfl) ?_
          refine lv_iload_n hx hb dX10_meeter_20 rfl (lv_at hl 3 rfl) ?_
          obtain ⟨r3, hr3, hs⟩ := bd_s hs
          refine kc_i (isC := [0, 1]) (isR := []) (pm := [0, 1]) (wr := []) (w1 := [(a_y, .inr (10, [.int y_n, .ref a_y_list, .int y_sets, .ref a_y_others, .int y_otherMany, .ref a_y_costs, .long y_above, .long y_below, .ref a_y_table, .long y_by, .ref a_y_basis, .ref a_y_isSeen, .ref a_y_colour, .ref a_y_rest, .ref a_y_makes, .ref a_y_worst])), (a_y_list, .inl (c_y_list, 16, .inl y_list))]) (w2 := [(a_y, .inr (10, [.int y_n, .ref a_y_list, .int y_sets, .ref a_y_others, .int y_otherMany, .ref a_y_costs, .long y_above, .long y_below, .ref a_y_table, .long y_by, .ref a_y_basis, .ref a_y_isSeen, .ref a_y_colour, .ref a_y_rest, .ref a_y_makes, .ref a_y_worst])), (a_y_list, .inl (c_y_list, 16, .inl y_list))]) (va_runV (As := [.int s11.2]) (rest := []) ⟨hx, hb, hml, hown, hts⟩ (c_X10_isLeast l dC dI a_y a_y_list a_y_others a_y_costs a_y_table a_y_basis a_y_isSeen a_y_colour a_y_rest a_y_makes a_y_worst c_y_list H.size y_n y_sets y_otherMany y_above y_below y_by y_list s11.2 r3 hr3) (cwV 1 hts gX10_meeter_X10_isLeast rfl rfl rfl (by decide +kernel) ⟨Nat.le_of_ble_eq_true rfl, Nat.le_of_ble_eq_true rfl⟩) (kp_V hK hP hD hS hA hN (isC := [0, 1]) (isT := [0]) (wc := [(a_y, .inr (10, [.int y_n, .ref a_y_list, .int y_sets, .ref a_y_others, .int y_otherMany, .ref a_y_costs, .long y_above, .long y_below, .ref a_y_table, .long y_by, .ref a_y_basis, .ref a_y_isSeen, .ref a_y_colour, .ref a_y_rest, .ref a_y_makes, .ref a_y_worst])), (a_y_list, .inl (c_y_list, 16, .inl y_list))]) rfl (by decide +kernel) rfl (ci := 10) (q0 := 0) rfl rfl) rfl rfl hl.1 rfl (lv_room (Nat.le_of_ble_eq_true rfl)) dX10_meeter_21 ⟨Nat.le_of_ble_eq_true rfl, Nat.le_of_ble_eq_true rfl⟩) hP hD hS hA rfl rfl (by decide +kernel) (by decide +kernel) rfl (by decide +kernel) (fun H locs hP hD hS => ?_)
          refine lv_if_eq (tgt := 37) hx hb dX10_meeter_24 (by decide) (fun hc => ?_) (fun hc => ?_)
          · replace hs := it_t hc hs
            refine lv_iinc (v := s11.2 + 1) (lv' := [(3, .int (s11.2 + 1)), (0, .ref a_y), (1, .int p1), (2, .int s11.1)]) hx hb dX10_meeter_37 hl (k := 3) rfl (by rfl) (by decide) rfl (fun ls hl => ?_)
            refine lv_goto (tgt := 11) hx hb dX10_meeter_40 (by decide) ?_
            replace hs := Option.some.inj hs
            subst hs
            exact hZw (ih (s11.1, s11.2 + 1) H locs ls hn hP hD hS (lv_sub hl [1, 2, 3, 0] rfl))
          · replace hs := it_f hc hs
            refine lv_iload_n hx hb dX10_meeter_27 rfl (lv_at hl 2 rfl) ?_
            refine lv_iload_n hx hb dX10_meeter_28 rfl (lv_at hl 1 rfl) ?_
            refine lv_icmp_ne (tgt := 34) hx hb dX10_meeter_29 (by decide) (fun hc => ?_) (fun hc => ?_)
            · replace hs := it_f hc hs
              refine lv_iinc (v := s11.1 + 1) (lv' := [(2, .int (s11.1 + 1)), (0, .ref a_y), (1, .int p1), (3, .int s11.2)]) hx hb dX10_meeter_34 hl (k := 2) rfl (by rfl) (by decide) rfl (fun ls hl => ?_)
              refine lv_iinc (v := s11.2 + 1) (lv' := [(3, .int (s11.2 + 1)), (2, .int (s11.1 + 1)), (0, .ref a_y), (1, .int p1)]) hx hb dX10_meeter_37 hl (k := 3) rfl (by rfl) (by decide) rfl (fun ls hl => ?_)
              refine lv_goto (tgt := 11) hx hb dX10_meeter_40 (by decide) ?_
              replace hs := Option.some.inj hs
              subst hs
              exact hZw (ih (s11.1 + 1, s11.2 + 1) H locs ls hn hP hD hS (lv_sub hl [2, 3, 1, 0] rfl))
            · replace hs := it_t hc hs
              replace hs := Option.some.inj hs
              subst hs
              obtain rfl : (Sum.inl s11.2) = e11 := hn
              exact hZw (hX11_0 s11.2 rfl H locs ls hP hD hS (lv_sub hl [3] rfl))
    obtain ⟨n11, hn11⟩ := lp_ex he11
    exact hZw (hL11 n11 (0, 0) H locs ls hn11 hP hD hS (lv_sub hl [2, 3, 1, 0] rfl))
  · replace hs := it_f hc hs
    refine lv_bipush (v := (-2)) hx hb dX10_meeter_4 (by decide) ?_
    replace hs := Option.some.inj hs
    subst hs
    exact W.iret (v := (-2)) hx hb hr (fun t ht hW => ⟨⟨(-2), (), rfl, rfl, by rw [ht]; exact hP, va_K.moved hW.alike hK, hD⟩, hS.F ht⟩) hS.2.2 dX10_meeter_6
noncomputable def pX10_costOf_L4 (y_n : Int32) (y_costs : Nat → Int32) (p1 : Int32) (s4 : Int32 × Int32) : Option ((Int32 × Int32) ⊕ (Int32)) :=
  if y_n ≤ s4.2 then (some (Sum.inr s4.1)) else (Option.bind (if ((p1 >>> (s4.2 &&& 31)) &&& 1) = 1 then (gd (vp_in s4.2 10) (some (y_costs s4.2.toNatClampNeg))) else (some 0) : Option (Int32)) (fun t32 => some (Sum.inl (s4.1 + t32, s4.2 + 1))))
noncomputable def pX10_costOf (y_n : Int32) (y_costs : Nat → Int32) (p1 : Int32) : Option (Int32) :=
  Option.bind (lp (pX10_costOf_L4 y_n y_costs p1) (0, 0)) (fun e4 => some e4)
set_option maxHeartbeats 4000000 in
set_option maxRecDepth 100000 in
theorem c_X10_costOf (l : Launch) (dC : Nat → ClassId) (dI : Nat → Nat → Nat) (a_y : Nat) (a_y_list : Nat) (a_y_others : Nat) (a_y_costs : Nat) (a_y_table : Nat) (a_y_basis : Nat) (a_y_isSeen : Nat) (a_y_colour : Nat) (a_y_rest : Nat) (a_y_makes : Nat) (a_y_worst : Nat) (c_y_costs : ClassId) (sz : Nat) (y_n : Int32) (y_sets : Int32) (y_otherMany : Int32) (y_above : Int64) (y_below : Int64) (y_by : Int64) (y_costs : Nat → Int32) (p1 : Int32) (rv : Int32) (hs : pX10_costOf y_n y_costs p1 = some rv) : Met l yX10_costOf wsX10_costOf ({ frames := 0, cells := 0, slots := 0, locals := 0 }) (sPc [.ref a_y, .int p1] (dC, dI) [(c_y_costs, .int)] [(a_y, .inr (10, [.int y_n, .ref a_y_list, .int y_sets, .ref a_y_others, .int y_otherMany, .ref a_y_costs, .long y_above, .long y_below, .ref a_y_table, .long y_by, .ref a_y_basis, .ref a_y_isSeen, .ref a_y_colour, .ref a_y_rest, .ref a_y_makes, .ref a_y_worst])), (a_y_costs, .inl (c_y_costs, 10, .inl y_costs))] sz) (va_Qi (fun (r : Int32) (_ : Unit) => r = rv) (sB (dC, dI) [(c_y_costs, .int)] (va_A [(a_y, .inr (10, [.int y_n, .ref a_y_list, .int y_sets, .ref a_y_others, .int y_otherMany, .ref a_y_costs, .long y_above, .long y_below, .ref a_y_table, .long y_by, .ref a_y_basis, .ref a_y_isSeen, .ref a_y_colour, .ref a_y_rest, .ref a_y_makes, .ref a_y_worst])), (a_y_costs, .inl (c_y_costs, 10, .inl y_costs))] sz) [(a_y, .inr (10, [.int y_n, .ref a_y_list, .int y_sets, .ref a_y_others, .int y_otherMany, .ref a_y_costs, .long y_above, .long y_below, .ref a_y_table, .long y_by, .ref a_y_basis, .ref a_y_isSeen, .ref a_y_colour, .ref a_y_rest, .ref a_y_makes, .ref a_y_worst])), (a_y_costs, .inl (c_y_costs, 10, .inl y_costs))]) (va_A [(a_y, .inr (10, [.int y_n, .ref a_y_list, .int y_sets, .ref a_y_others, .int y_otherMany, .ref a_y_costs, .long y_above, .long y_below, .ref a_y_table, .long y_by, .ref a_y_basis, .ref a_y_isSeen, .ref a_y_colour, .ref a_y_rest, .ref a_y_makes, .ref a_y_worst])), (a_y_costs, .inl (c_y_costs, 10, .inl y_costs))] sz)) 0 0 (va_A [(a_y, .inr (10, [.int y_n, .ref a_y_list, .int y_sets, .ref a_y_others, .int y_otherMany, .ref a_y_costs, .long y_above, .long y_below, .ref a_y_table, .long y_by, .ref a_y_basis, .ref a_y_isSeen, .ref a_y_colour, .ref a_y_rest, .ref a_y_makes, .ref a_y_worst])), (a_y_costs, .inl (c_y_costs, 10, .inl y_costs))] sz) := by
  refine Met.ofW (cc := cX10_costOf) (maxL := 4) (ret := (some .int)) (by decide) rfl ?_
  intro p e s m args below meth c s₁ B hml hv
  obtain ⟨rfl, hsz, hP, hK, hD0, hN⟩ := hv
  have hx := B.exec
  have hb := B.bytes
  have hr := B.returns
  have hts := atoms_spec (ws := wsX10_costOf) B.pre
  have hown : s.vm.findClass RX10 = some m.cls := findClass_of_methodNamed B.named
  have hlocks := B.notSynchronized
  subst hsz
  have hD := hD0.self (sz := s.heap.size)
  generalize hAe : va_A [(a_y, .inr (10, [.int y_n, .ref a_y_list, .int y_sets, .ref a_y_others, .int y_otherMany, .ref a_y_costs, .long y_above, .long y_below, .ref a_y_table, .long y_by, .ref a_y_basis, .ref a_y_isSeen, .ref a_y_colour, .ref a_y_rest, .ref a_y_makes, .ref a_y_worst])), (a_y_costs, .inl (c_y_costs, 10, .inl y_costs))] s.heap.size = A at hD hN ⊢
  have hA : ∀ q : Nat, s.heap.size ≤ q → A q := fun q h => by rw [← hAe]; exact Or.inr h
  have hS : va_S A s.heap s.heap [] := va_S.rf
  have hP : va_P (dC, dI) vwCl [(a_y, .inr (10, [.int y_n, .ref a_y_list, .int y_sets, .ref a_y_others, .int y_otherMany, .ref a_y_costs, .long y_above, .long y_below, .ref a_y_table, .long y_by, .ref a_y_basis, .ref a_y_isSeen, .ref a_y_colour, .ref a_y_rest, .ref a_y_makes, .ref a_y_worst])), (a_y_costs, .inl (c_y_costs, 10, .inl y_costs))] s.heap := hP
  have hl := lv_entry ([.ref a_y, .int p1]) (n := 4) (Nat.le_of_ble_eq_true rfl)
  rw [lg_entry_eq]
  generalize (lg_sl ([.ref a_y, .int p1]) ++ List.replicate (4 - (lg_sl ([.ref a_y, .int p1])).length) Slot.unset).toArray = ls at hl ⊢
  have hl : lv_has ls 4 [(0, .ref a_y), (1, .int p1)] := hl
  have hiX10 : ∀ w ∈ wsX100, w ∈ wsX10_costOf := fun _ h => List.mem_cons_of_mem _ (List.mem_append_right _ h)
  have hf43 := hts (.fieldLink RX10 43 "MeetSetsModel" "n" "I") (t1_ (al_ h1_))
  have hf16 := hts (.fieldLink RX10 16 "MeetSetsModel" "costs" "[I") (t1_ (al_ (t1_ h1_)))
  refine w_abs (fun Z hZv hZw => ?_)
  refine hZv ?_
  obtain ⟨H, hH⟩ : ∃ H, H = s.heap := ⟨_, rfl⟩
  obtain ⟨locs, hlo⟩ : ∃ L : List Loc, L = [] := ⟨_, rfl⟩
  rw [← hlo, ← hH]
  have hS : va_S A s.heap H locs := by rw [hlo, hH]; exact hS
  have hP : va_P (dC, dI) vwCl [(a_y, .inr (10, [.int y_n, .ref a_y_list, .int y_sets, .ref a_y_others, .int y_otherMany, .ref a_y_costs, .long y_above, .long y_below, .ref a_y_table, .long y_by, .ref a_y_basis, .ref a_y_isSeen, .ref a_y_colour, .ref a_y_rest, .ref a_y_makes, .ref a_y_worst])), (a_y_costs, .inl (c_y_costs, 10, .inl y_costs))] H := by rw [hH]; exact hP
  clear hH hlo
  unfold pX10_costOf at hs
  refine lv_iconst (v := 0) hx hb dX10_costOf_0 (by decide) ?_
  refine lv_istore_n (lv' := [(2, .int 0), (0, .ref a_y), (1, .int p1)]) hx hb dX10_costOf_1 rfl hl (by decide) rfl (fun ls hl => ?_)
  refine lv_iconst (v := 0) hx hb dX10_costOf_2 (by decide) ?_
  refine lv_istore_n (lv' := [(3, .int 0), (2, .int 0), (0, .ref a_y), (1, .int p1)]) hx hb dX10_costOf_3 rfl hl (by decide) rfl (fun ls hl => ?_)
  obtain ⟨e4, he4, hs⟩ := bd_s hs
  have hX4 : ∀ (H : Heap) (locs : List Loc) (ls : Array Slot), va_P (dC, dI) vwCl [(a_y, .inr (10, [.int y_n, .ref a_y_list, .int y_sets, .ref a_y_others, .int y_otherMany, .ref a_y_costs, .long y_above, .long y_below, .ref a_y_table, .long y_by, .ref a_y_basis, .ref a_y_isSeen, .ref a_y_colour, .ref a_y_rest, .ref a_y_makes, .ref a_y_worst])), (a_y_costs, .inl (c_y_costs, 10, .inl y_costs))] H → va_D A [(a_y, .inr (10, [.int y_n, .ref a_y_list, .int y_sets, .ref a_y_others, .int y_otherMany, .ref a_y_costs, .long y_above, .long y_below, .ref a_y_table, .long y_by, .ref a_y_basis, .ref a_y_isSeen, .ref a_y_colour, .ref a_y_rest, .ref a_y_makes, .ref a_y_worst])), (a_y_costs, .inl (c_y_costs, 10, .inl y_costs))] → va_S A s.heap H locs → lv_has ls 4 [(2, .int e4)] → Z H locs 0 0 (F0 m 40 ls []) := by
    intro H locs ls hP hD hS hl
    refine hZv ?_
    refine lv_iload_n hx hb dX10_costOf_40 rfl (lv_at hl 0 rfl) ?_
    replace hs := Option.some.inj hs
    subst hs
    exact W.iret (v := e4) hx hb hr (fun t ht hW => ⟨⟨e4, (), rfl, rfl, by rw [ht]; exact hP, va_K.moved hW.alike hK, hD⟩, hS.F ht⟩) hS.2.2 dX10_costOf_41
  clear hs
  have hL4 : ∀ (n : Nat) (s4 : Int32 × Int32) (H : Heap) (locs : List Loc) (ls : Array Slot), itr (pX10_costOf_L4 y_n y_costs p1) n s4 = some e4 → va_P (dC, dI) vwCl [(a_y, .inr (10, [.int y_n, .ref a_y_list, .int y_sets, .ref a_y_others, .int y_otherMany, .ref a_y_costs, .long y_above, .long y_below, .ref a_y_table, .long y_by, .ref a_y_basis, .ref a_y_isSeen, .ref a_y_colour, .ref a_y_rest, .ref a_y_makes, .ref a_y_worst])), (a_y_costs, .inl (c_y_costs, 10, .inl y_costs))] H → va_D A [(a_y, .inr (10, [.int y_n, .ref a_y_list, .int y_sets, .ref a_y_others, .int y_otherMany, .ref a_y_costs, .long y_above, .long y_below, .ref a_y_table, .long y_by, .ref a_y_basis, .ref a_y_isSeen, .ref a_y_colour, .ref a_y_rest, .ref a_y_makes, .ref a_y_worst])), (a_y_costs, .inl (c_y_costs, 10, .inl y_costs))] → va_S A s.heap H locs → lv_has ls 4 [(0, .ref a_y), (1, .int p1), (2, .int s4.1), (3, .int s4.2)] → Z H locs 0 0 (F0 m 4 ls []) := by
    intro n
    induction n with
    | zero =>
      intro s4 H locs ls hn
      exact (itr_0 hn).elim
    | succ n ih =>
      intro s4 H locs ls hn hP hD hS hl
      obtain ⟨y1, hs, hn⟩ := itr_s hn
      unfold pX10_costOf_L4 at hs
      refine hZv ?_
      refine lv_iload_n hx hb dX10_costOf_4 rfl (lv_at hl 3 rfl) ?_
      refine lv_aload_n hx hb dX10_costOf_5 rfl (lv_at hl 0 rfl) ?_
      refine va_get (D := (dC, dI)) (ci := 10) (v := .int y_n) (C := RX10) (T := TX10) (N := 16) hx hb hts hiX10 hown hK hP 0 rfl rfl 0 (by decide) hf43 (fun _ h9 => h9) rfl dX10_costOf_6 ?_
      refine lv_icmp_ge (tgt := 40) hx hb dX10_costOf_9 (by decide) (fun hc => ?_) (fun hc => ?_)
      · replace hs := it_t hc hs
        replace hs := Option.some.inj hs
        subst hs
        obtain rfl : s4.1 = e4 := hn
        exact hZw (hX4 H locs ls hP hD hS (lv_sub hl [2] rfl))
      · replace hs := it_f hc hs
        refine lv_iload_n hx hb dX10_costOf_12 rfl (lv_at hl 2 rfl) ?_
        refine lv_iload_n hx hb dX10_costOf_13 rfl (lv_at hl 1 rfl) ?_
        refine lv_iload_n hx hb dX10_costOf_14 rfl (lv_at hl 3 rfl) ?_
        refine lv_ishr hx hb dX10_costOf_15 ?_
        refine lv_iconst (v := 1) hx hb dX10_costOf_16 (by decide) ?_
        refine lv_iand hx hb dX10_costOf_17 ?_
        refine lv_iconst (v := 1) hx hb dX10_costOf_18 (by decide) ?_
        obtain ⟨t32, hq32, hs⟩ := bd_s hs
        have hJ32 : ∀ (H : Heap) (locs : List Loc) (ls : Array Slot), va_P (dC, dI) vwCl [(a_y, .inr (10, [.int y_n, .ref a_y_list, .int y_sets, .ref a_y_others, .int y_otherMany, .ref a_y_costs, .long y_above, .long y_below, .ref a_y_table, .long y_by, .ref a_y_basis, .ref a_y_isSeen, .ref a_y_colour, .ref a_y_rest, .ref a_y_makes, .ref a_y_worst])), (a_y_costs, .inl (c_y_costs, 10, .inl y_costs))] H → va_D A [(a_y, .inr (10, [.int y_n, .ref a_y_list, .int y_sets, .ref a_y_others, .int y_otherMany, .ref a_y_costs, .long y_above, .long y_below, .ref a_y_table, .long y_by, .ref a_y_basis, .ref a_y_isSeen, .ref a_y_colour, .ref a_y_rest, .ref a_y_makes, .ref a_y_worst])), (a_y_costs, .inl (c_y_costs, 10, .inl y_costs))] → va_S A s.heap H locs → lv_has ls 4 [(0, .ref a_y), (1, .int p1), (3, .int s4.2)] → Z H locs 0 0 (F0 m 32 ls [.int t32, .int s4.1]) := by
          intro H locs ls hP hD hS hl
          refine hZv ?_
          refine lv_iadd hx hb dX10_costOf_32 ?_
          refine lv_istore_n (lv' := [(2, .int (s4.1 + t32)), (0, .ref a_y), (1, .int p1), (3, .int s4.2)]) hx hb dX10_costOf_33 rfl hl (by decide) rfl (fun ls hl => ?_)
          refine lv_iinc (v := s4.2 + 1) (lv' := [(3, .int (s4.2 + 1)), (2, .int (s4.1 + t32)), (0, .ref a_y), (1, .int p1)]) hx hb dX10_costOf_34 hl (k := 3) rfl (by rfl) (by decide) rfl (fun ls hl => ?_)
          refine lv_goto (tgt := 4) hx hb dX10_costOf_37 (by decide) ?_
          replace hs := Option.some.inj hs
          subst hs
          exact hZw (ih (s4.1 + t32, s4.2 + 1) H locs ls hn hP hD hS (lv_sub hl [2, 3, 1, 0] rfl))
        clear hs
        have hs := hq32
        refine lv_icmp_ne (tgt := 31) hx hb dX10_costOf_19 (by decide) (fun hc => ?_) (fun hc => ?_)
        · replace hs := it_f hc hs
          refine lv_iconst (v := 0) hx hb dX10_costOf_31 (by decide) ?_
          replace hs := Option.some.inj hs
          subst hs
          exact hZw (hJ32 H locs ls hP hD hS (lv_sub hl [0, 1, 3] rfl))
        · replace hs := it_t hc hs
          refine lv_aload_n hx hb dX10_costOf_22 rfl (lv_at hl 0 rfl) ?_
          refine va_get (D := (dC, dI)) (ci := 10) (v := .ref a_y_costs) (C := RX10) (T := TX10) (N := 16) hx hb hts hiX10 hown hK hP 0 rfl rfl 5 (by decide) hf16 (fun _ h9 => h9) rfl dX10_costOf_23 ?_
          refine lv_iload_n hx hb dX10_costOf_26 rfl (lv_at hl 3 rfl) ?_
          obtain ⟨hg2, hs⟩ := gd_s hs
          refine va_iald hx hb hK hP 1 0 rfl rfl hg2 dX10_costOf_27 ?_
          refine lv_goto (tgt := 32) hx hb dX10_costOf_28 (by decide) ?_
          replace hs := Option.some.inj hs
          subst hs
          exact hZw (hJ32 H locs ls hP hD hS (lv_sub hl [0, 1, 3] rfl))
  obtain ⟨n4, hn4⟩ := lp_ex he4
  exact hZw (hL4 n4 (0, 0) H locs ls hn4 hP hD hS (lv_sub hl [2, 3, 1, 0] rfl))
noncomputable def pX10_rank (y_n : Int32) (y_costs : Nat → Int32) (p1 : Int32) (p2 : Int32) : Option (Int32) :=
  Option.bind (if p2 = 1 then (Option.bind (pX10_costOf y_n y_costs p1) (fun r2 => some (100 * r2))) else (some 0) : Option (Int32)) (fun t17 => Option.bind (pX10_sizeOf p1) (fun r1 => some (t17 + r1)))
set_option maxHeartbeats 4000000 in
set_option maxRecDepth 100000 in
theorem c_X10_rank (l : Launch) (dC : Nat → ClassId) (dI : Nat → Nat → Nat) (a_y : Nat) (a_y_list : Nat) (a_y_others : Nat) (a_y_costs : Nat) (a_y_table : Nat) (a_y_basis : Nat) (a_y_isSeen : Nat) (a_y_colour : Nat) (a_y_rest : Nat) (a_y_makes : Nat) (a_y_worst : Nat) (c_y_costs : ClassId) (sz : Nat) (y_n : Int32) (y_sets : Int32) (y_otherMany : Int32) (y_above : Int64) (y_below : Int64) (y_by : Int64) (y_costs : Nat → Int32) (p1 : Int32) (p2 : Int32) (rv : Int32) (hs : pX10_rank y_n y_costs p1 p2 = some rv) : Met l yX10_rank wsX10_rank ({ frames := 1, cells := 0, slots := 0, locals := 23 }) (sPc [.ref a_y, .int p1, .int p2] (dC, dI) [(c_y_costs, .int)] [(a_y, .inr (10, [.int y_n, .ref a_y_list, .int y_sets, .ref a_y_others, .int y_otherMany, .ref a_y_costs, .long y_above, .long y_below, .ref a_y_table, .long y_by, .ref a_y_basis, .ref a_y_isSeen, .ref a_y_colour, .ref a_y_rest, .ref a_y_makes, .ref a_y_worst])), (a_y_costs, .inl (c_y_costs, 10, .inl y_costs))] sz) (va_Qi (fun (r : Int32) (_ : Unit) => r = rv) (sB (dC, dI) [(c_y_costs, .int)] (va_A [(a_y, .inr (10, [.int y_n, .ref a_y_list, .int y_sets, .ref a_y_others, .int y_otherMany, .ref a_y_costs, .long y_above, .long y_below, .ref a_y_table, .long y_by, .ref a_y_basis, .ref a_y_isSeen, .ref a_y_colour, .ref a_y_rest, .ref a_y_makes, .ref a_y_worst])), (a_y_costs, .inl (c_y_costs, 10, .inl y_costs))] sz) [(a_y, .inr (10, [.int y_n, .ref a_y_list, .int y_sets, .ref a_y_others, .int y_otherMany, .ref a_y_costs, .long y_above, .long y_below, .ref a_y_table, .long y_by, .ref a_y_basis, .ref a_y_isSeen, .ref a_y_colour, .ref a_y_rest, .ref a_y_makes, .ref a_y_worst])), (a_y_costs, .inl (c_y_costs, 10, .inl y_costs))]) (va_A [(a_y, .inr (10, [.int y_n, .ref a_y_list, .int y_sets, .ref a_y_others, .int y_otherMany, .ref a_y_costs, .long y_above, .long y_below, .ref a_y_table, .long y_by, .ref a_y_basis, .ref a_y_isSeen, .ref a_y_colour, .ref a_y_rest, .ref a_y_makes, .ref a_y_worst])), (a_y_costs, .inl (c_y_costs, 10, .inl y_costs))] sz)) 0 0 (va_A [(a_y, .inr (10, [.int y_n, .ref a_y_list, .int y_sets, .ref a_y_others, .int y_otherMany, .ref a_y_costs, .long y_above, .long y_below, .ref a_y_table, .long y_by, .ref a_y_basis, .ref a_y_isSeen, .ref a_y_colour, .ref a_y_rest, .ref a_y_makes, .ref a_y_worst])), (a_y_costs, .inl (c_y_costs, 10, .inl y_costs))] sz) := by
  refine Met.ofW (cc := cX10_rank) (maxL := 3) (ret := (some .int)) (by decide) rfl ?_
  intro p e s m args below meth c s₁ B hml hv
  obtain ⟨rfl, hsz, hP, hK, hD0, hN⟩ := hv
  have hx := B.exec
  have hb := B.bytes
  have hr := B.returns
  have hts := atoms_spec (ws := wsX10_rank) B.pre
  have hown : s.vm.findClass RX10 = some m.cls := findClass_of_methodNamed B.named
  have hlocks := B.notSynchronized
  subst hsz
  have hD := hD0.self (sz := s.heap.size)
  generalize hAe : va_A [(a_y, .inr (10, [.int y_n, .ref a_y_list, .int y_sets, .ref a_y_others, .int y_otherMany, .ref a_y_costs, .long y_above, .long y_below, .ref a_y_table, .long y_by, .ref a_y_basis, .ref a_y_isSeen, .ref a_y_colour, .ref a_y_rest, .ref a_y_makes, .ref a_y_worst])), (a_y_costs, .inl (c_y_costs, 10, .inl y_costs))] s.heap.size = A at hD hN ⊢
  have hA : ∀ q : Nat, s.heap.size ≤ q → A q := fun q h => by rw [← hAe]; exact Or.inr h
  have hS : va_S A s.heap s.heap [] := va_S.rf
  have hP : va_P (dC, dI) vwCl [(a_y, .inr (10, [.int y_n, .ref a_y_list, .int y_sets, .ref a_y_others, .int y_otherMany, .ref a_y_costs, .long y_above, .long y_below, .ref a_y_table, .long y_by, .ref a_y_basis, .ref a_y_isSeen, .ref a_y_colour, .ref a_y_rest, .ref a_y_makes, .ref a_y_worst])), (a_y_costs, .inl (c_y_costs, 10, .inl y_costs))] s.heap := hP
  have hl := lv_entry ([.ref a_y, .int p1, .int p2]) (n := 3) (Nat.le_of_ble_eq_true rfl)
  rw [lg_entry_eq]
  generalize (lg_sl ([.ref a_y, .int p1, .int p2]) ++ List.replicate (3 - (lg_sl ([.ref a_y, .int p1, .int p2])).length) Slot.unset).toArray = ls at hl ⊢
  have hl : lv_has ls 3 [(0, .ref a_y), (1, .int p1), (2, .int p2)] := hl
  refine w_abs (fun Z hZv hZw => ?_)
  refine hZv ?_
  obtain ⟨H, hH⟩ : ∃ H, H = s.heap := ⟨_, rfl⟩
  obtain ⟨locs, hlo⟩ : ∃ L : List Loc, L = [] := ⟨_, rfl⟩
  rw [← hlo, ← hH]
  have hS : va_S A s.heap H locs := by rw [hlo, hH]; exact hS
  have hP : va_P (dC, dI) vwCl [(a_y, .inr (10, [.int y_n, .ref a_y_list, .int y_sets, .ref a_y_others, .int y_otherMany, .ref a_y_costs, .long y_above, .long y_below, .ref a_y_table, .long y_by, .ref a_y_basis, .ref a_y_isSeen, .ref a_y_colour, .ref a_y_rest, .ref a_y_makes, .ref a_y_worst])), (a_y_costs, .inl (c_y_costs, 10, .inl y_costs))] H := by rw [hH]; exact hP
  clear hH hlo
  unfold pX10_rank at hs
  refine lv_iload_n hx hb dX10_rank_0 rfl (lv_at hl 2 rfl) ?_
  refine lv_iconst (v := 1) hx hb dX10_rank_1 (by decide) ?_
  obtain ⟨t17, hq17, hs⟩ := bd_s hs
  have hJ17 : ∀ (H : Heap) (locs : List Loc) (ls : Array Slot), va_P (dC, dI) vwCl [(a_y, .inr (10, [.int y_n, .ref a_y_list, .int y_sets, .ref a_y_others, .int y_otherMany, .ref a_y_costs, .long y_above, .long y_below, .ref a_y_table, .long y_by, .ref a_y_basis, .ref a_y_isSeen, .ref a_y_colour, .ref a_y_rest, .ref a_y_makes, .ref a_y_worst])), (a_y_costs, .inl (c_y_costs, 10, .inl y_costs))] H → va_D A [(a_y, .inr (10, [.int y_n, .ref a_y_list, .int y_sets, .ref a_y_others, .int y_otherMany, .ref a_y_costs, .long y_above, .long y_below, .ref a_y_table, .long y_by, .ref a_y_basis, .ref a_y_isSeen, .ref a_y_colour, .ref a_y_rest, .ref a_y_makes, .ref a_y_worst])), (a_y_costs, .inl (c_y_costs, 10, .inl y_costs))] → va_S A s.heap H locs → lv_has ls 3 [(1, .int p1)] → Z H locs 0 0 (F0 m 17 ls [.int t17]) := by
    intro H locs ls hP hD hS hl
    refine hZv ?_
    refine lv_iload_n hx hb dX10_rank_17 rfl (lv_at hl 0 rfl) ?_
    obtain ⟨r1, hr1, hs⟩ := bd_s hs
    refine kc_i (isC := []) (isR := [0, 1]) (pm := [0, 1]) (wr := [(a_y, .inr (10, [.int y_n, .ref a_y_list, .int y_sets, .ref a_y_others, .int y_otherMany, .ref a_y_costs, .long y_above, .long y_below, .ref a_y_table, .long y_by, .ref a_y_basis, .ref a_y_isSeen, .ref a_y_colour, .ref a_y_rest, .ref a_y_makes, .ref a_y_worst])), (a_y_costs, .inl (c_y_costs, 10, .inl y_costs))]) (w1 := []) (w2 := [(a_y, .inr (10, [.int y_n, .ref a_y_list, .int y_sets, .ref a_y_others, .int y_otherMany, .ref a_y_costs, .long y_above, .long y_below, .ref a_y_table, .long y_by, .ref a_y_basis, .ref a_y_isSeen, .ref a_y_colour, .ref a_y_rest, .ref a_y_makes, .ref a_y_worst])), (a_y_costs, .inl (c_y_costs, 10, .inl y_costs))]) (va_runS (As := [.int p1]) (rest := [.int t17]) ⟨hx, hb, hml, hown, hts⟩ (c_X10_sizeOf l dC dI H.size p1 r1 hr1) (va_cwS 1 hts gX10_rank_X10_sizeOf rfl rfl rfl (by decide +kernel) ⟨Nat.le_of_ble_eq_true rfl, Nat.le_of_ble_eq_true rfl⟩) (kp_S hK hP hD hS hA hN (isC := []) (isT := []) (wc := []) rfl (by decide +kernel) rfl) rfl rfl hl.1 rfl (lv_room (Nat.le_of_ble_eq_true rfl)) dX10_rank_18 ⟨Nat.le_of_ble_eq_true rfl, Nat.le_of_ble_eq_true rfl⟩) hP hD hS hA rfl rfl (by decide +kernel) (by decide +kernel) rfl (by decide +kernel) (fun H locs hP hD hS => ?_)
    refine lv_iadd hx hb dX10_rank_21 ?_
    replace hs := Option.some.inj hs
    subst hs
    exact W.iret (v := t17 + r1) hx hb hr (fun t ht hW => ⟨⟨t17 + r1, (), rfl, rfl, by rw [ht]; exact hP, va_K.moved hW.alike hK, hD⟩, hS.F ht⟩) hS.2.2 dX10_rank_22
  clear hs
  have hs := hq17
  refine lv_icmp_ne (tgt := 16) hx hb dX10_rank_2 (by decide) (fun hc => ?_) (fun hc => ?_)
  · replace hs := it_f hc hs
    refine lv_iconst (v := 0) hx hb dX10_rank_16 (by decide) ?_
    replace hs := Option.some.inj hs
    subst hs
    exact hZw (hJ17 H locs ls hP hD hS (lv_sub hl [1] rfl))
  · replace hs := it_t hc hs
    refine lv_bipush (v := 100) hx hb dX10_rank_5 (by decide) ?_
    refine lv_aload_n hx hb dX10_rank_7 rfl (lv_at hl 0 rfl) ?_
    refine lv_iload_n hx hb dX10_rank_8 rfl (lv_at hl 1 rfl) ?_
    obtain ⟨r2, hr2, hs⟩ := bd_s hs
    refine kc_i (isC := [0, 1]) (isR := []) (pm := [0, 1]) (wr := []) (w1 := [(a_y, .inr (10, [.int y_n, .ref a_y_list, .int y_sets, .ref a_y_others, .int y_otherMany, .ref a_y_costs, .long y_above, .long y_below, .ref a_y_table, .long y_by, .ref a_y_basis, .ref a_y_isSeen, .ref a_y_colour, .ref a_y_rest, .ref a_y_makes, .ref a_y_worst])), (a_y_costs, .inl (c_y_costs, 10, .inl y_costs))]) (w2 := [(a_y, .inr (10, [.int y_n, .ref a_y_list, .int y_sets, .ref a_y_others, .int y_otherMany, .ref a_y_costs, .long y_above, .long y_below, .ref a_y_table, .long y_by, .ref a_y_basis, .ref a_y_isSeen, .ref a_y_colour, .ref a_y_rest, .ref a_y_makes, .ref a_y_worst])), (a_y_costs, .inl (c_y_costs, 10, .inl y_costs))]) (va_runV (As := [.int p1]) (rest := [.int 100]) ⟨hx, hb, hml, hown, hts⟩ (c_X10_costOf l dC dI a_y a_y_list a_y_others a_y_costs a_y_table a_y_basis a_y_isSeen a_y_colour a_y_rest a_y_makes a_y_worst c_y_costs H.size y_n y_sets y_otherMany y_above y_below y_by y_costs p1 r2 hr2) (cwV 1 hts gX10_rank_X10_costOf rfl rfl rfl (by decide +kernel) ⟨Nat.le_of_ble_eq_true rfl, Nat.le_of_ble_eq_true rfl⟩) (kp_V hK hP hD hS hA hN (isC := [0, 1]) (isT := [0]) (wc := [(a_y, .inr (10, [.int y_n, .ref a_y_list, .int y_sets, .ref a_y_others, .int y_otherMany, .ref a_y_costs, .long y_above, .long y_below, .ref a_y_table, .long y_by, .ref a_y_basis, .ref a_y_isSeen, .ref a_y_colour, .ref a_y_rest, .ref a_y_makes, .ref a_y_worst])), (a_y_costs, .inl (c_y_costs, 10, .inl y_costs))]) rfl (by decide +kernel) rfl (ci := 10) (q0 := 0) rfl rfl) rfl rfl hl.1 rfl (lv_room (Nat.le_of_ble_eq_true rfl)) dX10_rank_9 ⟨Nat.le_of_ble_eq_true rfl, Nat.le_of_ble_eq_true rfl⟩) hP hD hS hA rfl rfl (by decide +kernel) (by decide +kernel) rfl (by decide +kernel) (fun H locs hP hD hS => ?_)
    refine lv_imul hx hb dX10_rank_12 ?_
    refine lv_goto (tgt := 17) hx hb dX10_rank_13 (by decide) ?_
    replace hs := Option.some.inj hs
    subst hs
    exact hZw (hJ17 H locs ls hP hD hS (lv_sub hl [1] rfl))
noncomputable def pX10_bestOf_J44_4 (s4 : Int32 × Int32) (t44 : Unit) : Option ((Int32 × Int32) ⊕ (Int32)) :=
  some (Sum.inl (s4.1, s4.2 + 1))
noncomputable def pX10_bestOf_J40_5 (s4 : Int32 × Int32) (t40 : Unit) : Option ((Int32 × Int32) ⊕ (Int32)) :=
  some (Sum.inl (s4.2, s4.2 + 1))
noncomputable def pX10_bestOf_L4 (y_n : Int32) (y_sets : Int32) (y_list : Nat → Int32) (y_costs : Nat → Int32) (p1 : Int32) (s4 : Int32 × Int32) : Option ((Int32 × Int32) ⊕ (Int32)) :=
  Option.bind (pX10_all y_n) (fun r2 => if r2 < s4.2 then (some (Sum.inr s4.1)) else (Option.bind (pX10_meets y_sets y_list s4.2) (fun r3 => if r3 = 0 then (pX10_bestOf_J44_4 s4 ()) else (if s4.1 = (-1) then (pX10_bestOf_J40_5 s4 ()) else (Option.bind (pX10_rank y_n y_costs s4.2 p1) (fun r6 => Option.bind (pX10_rank y_n y_costs s4.1 p1) (fun r7 => if r7 ≤ r6 then (pX10_bestOf_J44_4 s4 ()) else (pX10_bestOf_J40_5 s4 ()))))))))
noncomputable def pX10_bestOf (y_n : Int32) (y_sets : Int32) (y_list : Nat → Int32) (y_costs : Nat → Int32) (p1 : Int32) : Option (Int32) :=
  Option.bind (lp (pX10_bestOf_L4 y_n y_sets y_list y_costs p1) ((-1), 0)) (fun e4 => some e4)
set_option maxHeartbeats 4000000 in
set_option maxRecDepth 100000 in
theorem c_X10_bestOf (l : Launch) (dC : Nat → ClassId) (dI : Nat → Nat → Nat) (a_y : Nat) (a_y_list : Nat) (a_y_others : Nat) (a_y_costs : Nat) (a_y_table : Nat) (a_y_basis : Nat) (a_y_isSeen : Nat) (a_y_colour : Nat) (a_y_rest : Nat) (a_y_makes : Nat) (a_y_worst : Nat) (c_y_list c_y_costs : ClassId) (sz : Nat) (y_n : Int32) (y_sets : Int32) (y_otherMany : Int32) (y_above : Int64) (y_below : Int64) (y_by : Int64) (y_list : Nat → Int32) (y_costs : Nat → Int32) (p1 : Int32) (rv : Int32) (hs : pX10_bestOf y_n y_sets y_list y_costs p1 = some rv) : Met l yX10_bestOf wsX10_bestOf ({ frames := 2, cells := 0, slots := 0, locals := 45 }) (sPc [.ref a_y, .int p1] (dC, dI) [(c_y_list, .int), (c_y_costs, .int)] [(a_y, .inr (10, [.int y_n, .ref a_y_list, .int y_sets, .ref a_y_others, .int y_otherMany, .ref a_y_costs, .long y_above, .long y_below, .ref a_y_table, .long y_by, .ref a_y_basis, .ref a_y_isSeen, .ref a_y_colour, .ref a_y_rest, .ref a_y_makes, .ref a_y_worst])), (a_y_list, .inl (c_y_list, 16, .inl y_list)), (a_y_costs, .inl (c_y_costs, 10, .inl y_costs))] sz) (va_Qi (fun (r : Int32) (_ : Unit) => r = rv) (sB (dC, dI) [(c_y_list, .int), (c_y_costs, .int)] (va_A [(a_y, .inr (10, [.int y_n, .ref a_y_list, .int y_sets, .ref a_y_others, .int y_otherMany, .ref a_y_costs, .long y_above, .long y_below, .ref a_y_table, .long y_by, .ref a_y_basis, .ref a_y_isSeen, .ref a_y_colour, .ref a_y_rest, .ref a_y_makes, .ref a_y_worst])), (a_y_list, .inl (c_y_list, 16, .inl y_list)), (a_y_costs, .inl (c_y_costs, 10, .inl y_costs))] sz) [(a_y, .inr (10, [.int y_n, .ref a_y_list, .int y_sets, .ref a_y_others, .int y_otherMany, .ref a_y_costs, .long y_above, .long y_below, .ref a_y_table, .long y_by, .ref a_y_basis, .ref a_y_isSeen, .ref a_y_colour, .ref a_y_rest, .ref a_y_makes, .ref a_y_worst])), (a_y_list, .inl (c_y_list, 16, .inl y_list)), (a_y_costs, .inl (c_y_costs, 10, .inl y_costs))]) (va_A [(a_y, .inr (10, [.int y_n, .ref a_y_list, .int y_sets, .ref a_y_others, .int y_otherMany, .ref a_y_costs, .long y_above, .long y_below, .ref a_y_table, .long y_by, .ref a_y_basis, .ref a_y_isSeen, .ref a_y_colour, .ref a_y_rest, .ref a_y_makes, .ref a_y_worst])), (a_y_list, .inl (c_y_list, 16, .inl y_list)), (a_y_costs, .inl (c_y_costs, 10, .inl y_costs))] sz)) 0 0 (va_A [(a_y, .inr (10, [.int y_n, .ref a_y_list, .int y_sets, .ref a_y_others, .int y_otherMany, .ref a_y_costs, .long y_above, .long y_below, .ref a_y_table, .long y_by, .ref a_y_basis, .ref a_y_isSeen, .ref a_y_colour, .ref a_y_rest, .ref a_y_makes, .ref a_y_worst])), (a_y_list, .inl (c_y_list, 16, .inl y_list)), (a_y_costs, .inl (c_y_costs, 10, .inl y_costs))] sz) := by
  refine Met.ofW (cc := cX10_bestOf) (maxL := 4) (ret := (some .int)) (by decide) rfl ?_
  intro p e s m args below meth c s₁ B hml hv
  obtain ⟨rfl, hsz, hP, hK, hD0, hN⟩ := hv
  have hx := B.exec
  have hb := B.bytes
  have hr := B.returns
  have hts := atoms_spec (ws := wsX10_bestOf) B.pre
  have hown : s.vm.findClass RX10 = some m.cls := findClass_of_methodNamed B.named
  have hlocks := B.notSynchronized
  subst hsz
  have hD := hD0.self (sz := s.heap.size)
  generalize hAe : va_A [(a_y, .inr (10, [.int y_n, .ref a_y_list, .int y_sets, .ref a_y_others, .int y_otherMany, .ref a_y_costs, .long y_above, .long y_below, .ref a_y_table, .long y_by, .ref a_y_basis, .ref a_y_isSeen, .ref a_y_colour, .ref a_y_rest, .ref a_y_makes, .ref a_y_worst])), (a_y_list, .inl (c_y_list, 16, .inl y_list)), (a_y_costs, .inl (c_y_costs, 10, .inl y_costs))] s.heap.size = A at hD hN ⊢
  have hA : ∀ q : Nat, s.heap.size ≤ q → A q := fun q h => by rw [← hAe]; exact Or.inr h
  have hS : va_S A s.heap s.heap [] := va_S.rf
  have hP : va_P (dC, dI) vwCl [(a_y, .inr (10, [.int y_n, .ref a_y_list, .int y_sets, .ref a_y_others, .int y_otherMany, .ref a_y_costs, .long y_above, .long y_below, .ref a_y_table, .long y_by, .ref a_y_basis, .ref a_y_isSeen, .ref a_y_colour, .ref a_y_rest, .ref a_y_makes, .ref a_y_worst])), (a_y_list, .inl (c_y_list, 16, .inl y_list)), (a_y_costs, .inl (c_y_costs, 10, .inl y_costs))] s.heap := hP
  have hl := lv_entry ([.ref a_y, .int p1]) (n := 4) (Nat.le_of_ble_eq_true rfl)
  rw [lg_entry_eq]
  generalize (lg_sl ([.ref a_y, .int p1]) ++ List.replicate (4 - (lg_sl ([.ref a_y, .int p1])).length) Slot.unset).toArray = ls at hl ⊢
  have hl : lv_has ls 4 [(0, .ref a_y), (1, .int p1)] := hl
  refine w_abs (fun Z hZv hZw => ?_)
  refine hZv ?_
  obtain ⟨H, hH⟩ : ∃ H, H = s.heap := ⟨_, rfl⟩
  obtain ⟨locs, hlo⟩ : ∃ L : List Loc, L = [] := ⟨_, rfl⟩
  rw [← hlo, ← hH]
  have hS : va_S A s.heap H locs := by rw [hlo, hH]; exact hS
  have hP : va_P (dC, dI) vwCl [(a_y, .inr (10, [.int y_n, .ref a_y_list, .int y_sets, .ref a_y_others, .int y_otherMany, .ref a_y_costs, .long y_above, .long y_below, .ref a_y_table, .long y_by, .ref a_y_basis, .ref a_y_isSeen, .ref a_y_colour, .ref a_y_rest, .ref a_y_makes, .ref a_y_worst])), (a_y_list, .inl (c_y_list, 16, .inl y_list)), (a_y_costs, .inl (c_y_costs, 10, .inl y_costs))] H := by rw [hH]; exact hP
  clear hH hlo
  unfold pX10_bestOf at hs
  refine lv_iconst (v := (-1)) hx hb dX10_bestOf_0 (by decide) ?_
  refine lv_istore_n (lv' := [(2, .int (-1)), (0, .ref a_y), (1, .int p1)]) hx hb dX10_bestOf_1 rfl hl (by decide) rfl (fun ls hl => ?_)
  refine lv_iconst (v := 0) hx hb dX10_bestOf_2 (by decide) ?_
  refine lv_istore_n (lv' := [(3, .int 0), (2, .int (-1)), (0, .ref a_y), (1, .int p1)]) hx hb dX10_bestOf_3 rfl hl (by decide) rfl (fun ls hl => ?_)
  obtain ⟨e4, he4, hs⟩ := bd_s hs
  have hX4 : ∀ (H : Heap) (locs : List Loc) (ls : Array Slot), va_P (dC, dI) vwCl [(a_y, .inr (10, [.int y_n, .ref a_y_list, .int y_sets, .ref a_y_others, .int y_otherMany, .ref a_y_costs, .long y_above, .long y_below, .ref a_y_table, .long y_by, .ref a_y_basis, .ref a_y_isSeen, .ref a_y_colour, .ref a_y_rest, .ref a_y_makes, .ref a_y_worst])), (a_y_list, .inl (c_y_list, 16, .inl y_list)), (a_y_costs, .inl (c_y_costs, 10, .inl y_costs))] H → va_D A [(a_y, .inr (10, [.int y_n, .ref a_y_list, .int y_sets, .ref a_y_others, .int y_otherMany, .ref a_y_costs, .long y_above, .long y_below, .ref a_y_table, .long y_by, .ref a_y_basis, .ref a_y_isSeen, .ref a_y_colour, .ref a_y_rest, .ref a_y_makes, .ref a_y_worst])), (a_y_list, .inl (c_y_list, 16, .inl y_list)), (a_y_costs, .inl (c_y_costs, 10, .inl y_costs))] → va_S A s.heap H locs → lv_has ls 4 [(2, .int e4)] → Z H locs 0 0 (F0 m 52 ls []) := by
    intro H locs ls hP hD hS hl
    refine hZv ?_
    refine lv_iload_n hx hb dX10_bestOf_52 rfl (lv_at hl 0 rfl) ?_
    replace hs := Option.some.inj hs
    subst hs
    exact W.iret (v := e4) hx hb hr (fun t ht hW => ⟨⟨e4, (), rfl, rfl, by rw [ht]; exact hP, va_K.moved hW.alike hK, hD⟩, hS.F ht⟩) hS.2.2 dX10_bestOf_53
  clear hs
  have hL4 : ∀ (n : Nat) (s4 : Int32 × Int32) (H : Heap) (locs : List Loc) (ls : Array Slot), itr (pX10_bestOf_L4 y_n y_sets y_list y_costs p1) n s4 = some e4 → va_P (dC, dI) vwCl [(a_y, .inr (10, [.int y_n, .ref a_y_list, .int y_sets, .ref a_y_others, .int y_otherMany, .ref a_y_costs, .long y_above, .long y_below, .ref a_y_table, .long y_by, .ref a_y_basis, .ref a_y_isSeen, .ref a_y_colour, .ref a_y_rest, .ref a_y_makes, .ref a_y_worst])), (a_y_list, .inl (c_y_list, 16, .inl y_list)), (a_y_costs, .inl (c_y_costs, 10, .inl y_costs))] H → va_D A [(a_y, .inr (10, [.int y_n, .ref a_y_list, .int y_sets, .ref a_y_others, .int y_otherMany, .ref a_y_costs, .long y_above, .long y_below, .ref a_y_table, .long y_by, .ref a_y_basis, .ref a_y_isSeen, .ref a_y_colour, .ref a_y_rest, .ref a_y_makes, .ref a_y_worst])), (a_y_list, .inl (c_y_list, 16, .inl y_list)), (a_y_costs, .inl (c_y_costs, 10, .inl y_costs))] → va_S A s.heap H locs → lv_has ls 4 [(0, .ref a_y), (1, .int p1), (2, .int s4.1), (3, .int s4.2)] → Z H locs 0 0 (F0 m 4 ls []) := by
    intro n
    induction n with
    | zero =>
      intro s4 H locs ls hn
      exact (itr_0 hn).elim
    | succ n ih =>
      intro s4 H locs ls hn hP hD hS hl
      obtain ⟨y1, hs, hn⟩ := itr_s hn
      unfold pX10_bestOf_L4 at hs
      refine hZv ?_
      refine lv_iload_n hx hb dX10_bestOf_4 rfl (lv_at hl 3 rfl) ?_
      refine lv_aload_n hx hb dX10_bestOf_5 rfl (lv_at hl 0 rfl) ?_
      obtain ⟨r2, hr2, hs⟩ := bd_s hs
      refine kc_i (isC := [0]) (isR := [1, 2]) (pm := [2, 0, 1]) (wr := [(a_y_list, .inl (c_y_list, 16, .inl y_list)), (a_y_costs, .inl (c_y_costs, 10, .inl y_costs))]) (w1 := [(a_y, .inr (10, [.int y_n, .ref a_y_list, .int y_sets, .ref a_y_others, .int y_otherMany, .ref a_y_costs, .long y_above, .long y_below, .ref a_y_table, .long y_by, .ref a_y_basis, .ref a_y_isSeen, .ref a_y_colour, .ref a_y_rest, .ref a_y_makes, .ref a_y_worst]))]) (w2 := [(a_y, .inr (10, [.int y_n, .ref a_y_list, .int y_sets, .ref a_y_others, .int y_otherMany, .ref a_y_costs, .long y_above, .long y_below, .ref a_y_table, .long y_by, .ref a_y_basis, .ref a_y_isSeen, .ref a_y_colour, .ref a_y_rest, .ref a_y_makes, .ref a_y_worst])), (a_y_list, .inl (c_y_list, 16, .inl y_list)), (a_y_costs, .inl (c_y_costs, 10, .inl y_costs))]) (va_runV (As := []) (rest := [.int s4.2]) ⟨hx, hb, hml, hown, hts⟩ (c_X10_all l dC dI a_y a_y_list a_y_others a_y_costs a_y_table a_y_basis a_y_isSeen a_y_colour a_y_rest a_y_makes a_y_worst H.size y_n y_sets y_otherMany y_above y_below y_by r2 hr2) (cwV 0 hts gX10_bestOf_X10_all rfl rfl rfl (by decide +kernel) ⟨Nat.le_of_ble_eq_true rfl, Nat.le_of_ble_eq_true rfl⟩) (kp_V hK hP hD hS hA hN (isC := [0]) (isT := []) (wc := [(a_y, .inr (10, [.int y_n, .ref a_y_list, .int y_sets, .ref a_y_others, .int y_otherMany, .ref a_y_costs, .long y_above, .long y_below, .ref a_y_table, .long y_by, .ref a_y_basis, .ref a_y_isSeen, .ref a_y_colour, .ref a_y_rest, .ref a_y_makes, .ref a_y_worst]))]) rfl (by decide +kernel) rfl (ci := 10) (q0 := 0) rfl rfl) rfl rfl hl.1 rfl (lv_room (Nat.le_of_ble_eq_true rfl)) dX10_bestOf_6 ⟨Nat.le_of_ble_eq_true rfl, Nat.le_of_ble_eq_true rfl⟩) hP hD hS hA rfl rfl (by decide +kernel) (by decide +kernel) rfl (by decide +kernel) (fun H locs hP hD hS => ?_)
      refine lv_icmp_gt (tgt := 52) hx hb dX10_bestOf_9 (by decide) (fun hc => ?_) (fun hc => ?_)
      · replace hs := it_t hc hs
        replace hs := Option.some.inj hs
        subst hs
        obtain rfl : s4.1 = e4 := hn
        exact hZw (hX4 H locs ls hP hD hS (lv_sub hl [2] rfl))
      · replace hs := it_f hc hs
        refine lv_aload_n hx hb dX10_bestOf_12 rfl (lv_at hl 0 rfl) ?_
        refine lv_iload_n hx hb dX10_bestOf_13 rfl (lv_at hl 3 rfl) ?_
        obtain ⟨r3, hr3, hs⟩ := bd_s hs
        refine kc_i (isC := [0, 1]) (isR := [2]) (pm := [1, 2, 0]) (wr := [(a_y_costs, .inl (c_y_costs, 10, .inl y_costs))]) (w1 := [(a_y, .inr (10, [.int y_n, .ref a_y_list, .int y_sets, .ref a_y_others, .int y_otherMany, .ref a_y_costs, .long y_above, .long y_below, .ref a_y_table, .long y_by, .ref a_y_basis, .ref a_y_isSeen, .ref a_y_colour, .ref a_y_rest, .ref a_y_makes, .ref a_y_worst])), (a_y_list, .inl (c_y_list, 16, .inl y_list))]) (w2 := [(a_y, .inr (10, [.int y_n, .ref a_y_list, .int y_sets, .ref a_y_others, .int y_otherMany, .ref a_y_costs, .long y_above, .long y_below, .ref a_y_table, .long y_by, .ref a_y_basis, .ref a_y_isSeen, .ref a_y_colour, .ref a_y_rest, .ref a_y_makes, .ref a_y_worst])), (a_y_list, .inl (c_y_list, 16, .inl y_list)), (a_y_costs, .inl (c_y_costs, 10, .inl y_costs))]) (va_runV (As := [.int s4.2]) (rest := []) ⟨hx, hb, hml, hown, hts⟩ (c_X10_meets l dC dI a_y a_y_list a_y_others a_y_costs a_y_table a_y_basis a_y_isSeen a_y_colour a_y_rest a_y_makes a_y_worst c_y_list H.size y_n y_sets y_otherMany y_above y_below y_by y_list s4.2 r3 hr3) (cwV 1 hts gX10_bestOf_X10_meets rfl rfl rfl (by decide +kernel) ⟨Nat.le_of_ble_eq_true rfl, Nat.le_of_ble_eq_true rfl⟩) (kp_V hK hP hD hS hA hN (isC := [0, 1]) (isT := [0]) (wc := [(a_y, .inr (10, [.int y_n, .ref a_y_list, .int y_sets, .ref a_y_others, .int y_otherMany, .ref a_y_costs, .long y_above, .long y_below, .ref a_y_table, .long y_by, .ref a_y_basis, .ref a_y_isSeen, .ref a_y_colour, .ref a_y_rest, .ref a_y_makes, .ref a_y_worst])), (a_y_list, .inl (c_y_list, 16, .inl y_list))]) rfl (by decide +kernel) rfl (ci := 10) (q0 := 0) rfl rfl) rfl rfl hl.1 rfl (lv_room (Nat.le_of_ble_eq_true rfl)) dX10_bestOf_14 ⟨Nat.le_of_ble_eq_true rfl, Nat.le_of_ble_eq_true rfl⟩) hP hD hS hA rfl rfl (by decide +kernel) (by decide +kernel) rfl (by decide +kernel) (fun H locs hP hD hS => ?_)
        have hJ44 : ∀ (t44 : Unit), pX10_bestOf_J44_4 s4 t44 = some y1 → ∀ (H : Heap) (locs : List Loc) (ls : Array Slot), va_P (dC, dI) vwCl [(a_y, .inr (10, [.int y_n, .ref a_y_list, .int y_sets, .ref a_y_others, .int y_otherMany, .ref a_y_costs, .long y_above, .long y_below, .ref a_y_table, .long y_by, .ref a_y_basis, .ref a_y_isSeen, .ref a_y_colour, .ref a_y_rest, .ref a_y_makes, .ref a_y_worst])), (a_y_list, .inl (c_y_list, 16, .inl y_list)), (a_y_costs, .inl (c_y_costs, 10, .inl y_costs))] H → va_D A [(a_y, .inr (10, [.int y_n, .ref a_y_list, .int y_sets, .ref a_y_others, .int y_otherMany, .ref a_y_costs, .long y_above, .long y_below, .ref a_y_table, .long y_by, .ref a_y_basis, .ref a_y_isSeen, .ref a_y_colour, .ref a_y_rest, .ref a_y_makes, .ref a_y_worst])), (a_y_list, .inl (c_y_list, 16, .inl y_list)), (a_y_costs, .inl (c_y_costs, 10, .inl y_costs))] → va_S A s.heap H locs → lv_has ls 4 [(0, .ref a_y), (1, .int p1), (2, .int s4.1), (3, .int s4.2)] → Z H locs 0 0 (F0 m 44 ls []) := by
          intro t44 hs H locs ls hP hD hS hl
          refine hZv ?_
          unfold pX10_bestOf_J44_4 at hs
          refine lv_iload_n hx hb dX10_bestOf_44 rfl (lv_at hl 2 rfl) ?_
          refine lv_istore_n (lv' := [(2, .int s4.1), (0, .ref a_y), (1, .int p1), (3, .int s4.2)]) hx hb dX10_bestOf_45 rfl hl (by decide) rfl (fun ls hl => ?_)
          refine lv_iinc (v := s4.2 + 1) (lv' := [(3, .int (s4.2 + 1)), (2, .int s4.1), (0, .ref a_y), (1, .int p1)]) hx hb dX10_bestOf_46 hl (k := 3) rfl (by rfl) (by decide) rfl (fun ls hl => ?_)
          refine lv_goto (tgt := 4) hx hb dX10_bestOf_49 (by decide) ?_
          replace hs := Option.some.inj hs
          subst hs
          exact hZw (ih (s4.1, s4.2 + 1) H locs ls hn hP hD hS (lv_sub hl [2, 3, 1, 0] rfl))
        refine lv_if_eq (tgt := 44) hx hb dX10_bestOf_17 (by decide) (fun hc => ?_) (fun hc => ?_)
        · replace hs := it_t hc hs
          exact hZw (hJ44 () hs H locs ls hP hD hS hl)
        · replace hs := it_f hc hs
          refine lv_iload_n hx hb dX10_bestOf_20 rfl (lv_at hl 2 rfl) ?_
          refine lv_iconst (v := (-1)) hx hb dX10_bestOf_21 (by decide) ?_
          have hJ40 : ∀ (t40 : Unit), pX10_bestOf_J40_5 s4 t40 = some y1 → ∀ (H : Heap) (locs : List Loc) (ls : Array Slot), va_P (dC, dI) vwCl [(a_y, .inr (10, [.int y_n, .ref a_y_list, .int y_sets, .ref a_y_others, .int y_otherMany, .ref a_y_costs, .long y_above, .long y_below, .ref a_y_table, .long y_by, .ref a_y_basis, .ref a_y_isSeen, .ref a_y_colour, .ref a_y_rest, .ref a_y_makes, .ref a_y_worst])), (a_y_list, .inl (c_y_list, 16, .inl y_list)), (a_y_costs, .inl (c_y_costs, 10, .inl y_costs))] H → va_D A [(a_y, .inr (10, [.int y_n, .ref a_y_list, .int y_sets, .ref a_y_others, .int y_otherMany, .ref a_y_costs, .long y_above, .long y_below, .ref a_y_table, .long y_by, .ref a_y_basis, .ref a_y_isSeen, .ref a_y_colour, .ref a_y_rest, .ref a_y_makes, .ref a_y_worst])), (a_y_list, .inl (c_y_list, 16, .inl y_list)), (a_y_costs, .inl (c_y_costs, 10, .inl y_costs))] → va_S A s.heap H locs → lv_has ls 4 [(0, .ref a_y), (1, .int p1), (3, .int s4.2)] → Z H locs 0 0 (F0 m 40 ls []) := by
            intro t40 hs H locs ls hP hD hS hl
            refine hZv ?_
            unfold pX10_bestOf_J40_5 at hs
            refine lv_iload_n hx hb dX10_bestOf_40 rfl (lv_at hl 2 rfl) ?_
            refine lv_goto (tgt := 45) hx hb dX10_bestOf_41 (by decide) ?_
            refine lv_istore_n (lv' := [(2, .int s4.2), (0, .ref a_y), (1, .int p1), (3, .int s4.2)]) hx hb dX10_bestOf_45 rfl hl (by decide) rfl (fun ls hl => ?_)
            refine lv_iinc (v := s4.2 + 1) (lv' := [(3, .int (s4.2 + 1)), (2, .int s4.2), (0, .ref a_y), (1, .int p1)]) hx hb dX10_bestOf_46 hl (k := 3) rfl (by rfl) (by decide) rfl (fun ls hl => ?_)
            refine lv_goto (tgt := 4) hx hb dX10_bestOf_49 (by decide) ?_
            replace hs := Option.some.inj hs
            subst hs
            exact hZw (ih (s4.2, s4.2 + 1) H locs ls hn hP hD hS (lv_sub hl [2, 3, 1, 0] rfl))
          refine lv_icmp_eq (tgt := 40) hx hb dX10_bestOf_22 (by decide) (fun hc => ?_) (fun hc => ?_)
          · replace hs := it_t hc hs
            exact hZw (hJ40 () hs H locs ls hP hD hS (lv_sub hl [0, 1, 3] rfl))
          · replace hs := it_f hc hs
            refine lv_aload_n hx hb dX10_bestOf_25 rfl (lv_at hl 0 rfl) ?_
            refine lv_iload_n hx hb dX10_bestOf_26 rfl (lv_at hl 3 rfl) ?_
            refine lv_iload_n hx hb dX10_bestOf_27 rfl (lv_at hl 1 rfl) ?_
            obtain ⟨r6, hr6, hs⟩ := bd_s hs
            refine kc_i (isC := [0, 2]) (isR := [1]) (pm := [1, 0, 2]) (wr := [(a_y_list, .inl (c_y_list, 16, .inl y_list))]) (w1 := [(a_y, .inr (10, [.int y_n, .ref a_y_list, .int y_sets, .ref a_y_others, .int y_otherMany, .ref a_y_costs, .long y_above, .long y_below, .ref a_y_table, .long y_by, .ref a_y_basis, .ref a_y_isSeen, .ref a_y_colour, .ref a_y_rest, .ref a_y_makes, .ref a_y_worst])), (a_y_costs, .inl (c_y_costs, 10, .inl y_costs))]) (w2 := [(a_y, .inr (10, [.int y_n, .ref a_y_list, .int y_sets, .ref a_y_others, .int y_otherMany, .ref a_y_costs, .long y_above, .long y_below, .ref a_y_table, .long y_by, .ref a_y_basis, .ref a_y_isSeen, .ref a_y_colour, .ref a_y_rest, .ref a_y_makes, .ref a_y_worst])), (a_y_list, .inl (c_y_list, 16, .inl y_list)), (a_y_costs, .inl (c_y_costs, 10, .inl y_costs))]) (va_runV (As := [.int s4.2, .int p1]) (rest := []) ⟨hx, hb, hml, hown, hts⟩ (c_X10_rank l dC dI a_y a_y_list a_y_others a_y_costs a_y_table a_y_basis a_y_isSeen a_y_colour a_y_rest a_y_makes a_y_worst c_y_costs H.size y_n y_sets y_otherMany y_above y_below y_by y_costs s4.2 p1 r6 hr6) (cwV 2 hts gX10_bestOf_X10_rank rfl rfl rfl (by decide +kernel) ⟨Nat.le_of_ble_eq_true rfl, Nat.le_of_ble_eq_true rfl⟩) (kp_V hK hP hD hS hA hN (isC := [0, 2]) (isT := [1]) (wc := [(a_y, .inr (10, [.int y_n, .ref a_y_list, .int y_sets, .ref a_y_others, .int y_otherMany, .ref a_y_costs, .long y_above, .long y_below, .ref a_y_table, .long y_by, .ref a_y_basis, .ref a_y_isSeen, .ref a_y_colour, .ref a_y_rest, .ref a_y_makes, .ref a_y_worst])), (a_y_costs, .inl (c_y_costs, 10, .inl y_costs))]) rfl (by decide +kernel) rfl (ci := 10) (q0 := 0) rfl rfl) rfl rfl hl.1 rfl (lv_room (Nat.le_of_ble_eq_true rfl)) dX10_bestOf_28 ⟨Nat.le_of_ble_eq_true rfl, Nat.le_of_ble_eq_true rfl⟩) hP hD hS hA rfl rfl (by decide +kernel) (by decide +kernel) rfl (by decide +kernel) (fun H locs hP hD hS => ?_)
            refine lv_aload_n hx hb dX10_bestOf_31 rfl (lv_at hl 0 rfl) ?_
            refine lv_iload_n hx hb dX10_bestOf_32 rfl (lv_at hl 2 rfl) ?_
            refine lv_iload_n hx hb dX10_bestOf_33 rfl (lv_at hl 1 rfl) ?_
            obtain ⟨r7, hr7, hs⟩ := bd_s hs
            refine kc_i (isC := [0, 2]) (isR := [1]) (pm := [1, 0, 2]) (wr := [(a_y_list, .inl (c_y_list, 16, .inl y_list))]) (w1 := [(a_y, .inr (10, [.int y_n, .ref a_y_list, .int y_sets, .ref a_y_others, .int y_otherMany, .ref a_y_costs, .long y_above, .long y_below, .ref a_y_table, .long y_by, .ref a_y_basis, .ref a_y_isSeen, .ref a_y_colour, .ref a_y_rest, .ref a_y_makes, .ref a_y_worst])), (a_y_costs, .inl (c_y_costs, 10, .inl y_costs))]) (w2 := [(a_y, .inr (10, [.int y_n, .ref a_y_list, .int y_sets, .ref a_y_others, .int y_otherMany, .ref a_y_costs, .long y_above, .long y_below, .ref a_y_table, .long y_by, .ref a_y_basis, .ref a_y_isSeen, .ref a_y_colour, .ref a_y_rest, .ref a_y_makes, .ref a_y_worst])), (a_y_list, .inl (c_y_list, 16, .inl y_list)), (a_y_costs, .inl (c_y_costs, 10, .inl y_costs))]) (va_runV (As := [.int s4.1, .int p1]) (rest := [.int r6]) ⟨hx, hb, hml, hown, hts⟩ (c_X10_rank l dC dI a_y a_y_list a_y_others a_y_costs a_y_table a_y_basis a_y_isSeen a_y_colour a_y_rest a_y_makes a_y_worst c_y_costs H.size y_n y_sets y_otherMany y_above y_below y_by y_costs s4.1 p1 r7 hr7) (cwV 2 hts gX10_bestOf_X10_rank rfl rfl rfl (by decide +kernel) ⟨Nat.le_of_ble_eq_true rfl, Nat.le_of_ble_eq_true rfl⟩) (kp_V hK hP hD hS hA hN (isC := [0, 2]) (isT := [1]) (wc := [(a_y, .inr (10, [.int y_n, .ref a_y_list, .int y_sets, .ref a_y_others, .int y_otherMany, .ref a_y_costs, .long y_above, .long y_below, .ref a_y_table, .long y_by, .ref a_y_basis, .ref a_y_isSeen, .ref a_y_colour, .ref a_y_rest, .ref a_y_makes, .ref a_y_worst])), (a_y_costs, .inl (c_y_costs, 10, .inl y_costs))]) rfl (by decide +kernel) rfl (ci := 10) (q0 := 0) rfl rfl) rfl rfl hl.1 rfl (lv_room (Nat.le_of_ble_eq_true rfl)) dX10_bestOf_34 ⟨Nat.le_of_ble_eq_true rfl, Nat.le_of_ble_eq_true rfl⟩) hP hD hS hA rfl rfl (by decide +kernel) (by decide +kernel) rfl (by decide +kernel) (fun H locs hP hD hS => ?_)
            refine lv_icmp_ge (tgt := 44) hx hb dX10_bestOf_37 (by decide) (fun hc => ?_) (fun hc => ?_)
            · replace hs := it_t hc hs
              exact hZw (hJ44 () hs H locs ls hP hD hS hl)
            · replace hs := it_f hc hs
              exact hZw (hJ40 () hs H locs ls hP hD hS (lv_sub hl [0, 1, 3] rfl))
  obtain ⟨n4, hn4⟩ := lp_ex he4
  exact hZw (hL4 n4 ((-1), 0) H locs ls hn4 hP hD hS (lv_sub hl [2, 3, 1, 0] rfl))
noncomputable def pX10_best (y_n : Int32) (y_sets : Int32) (y_list : Nat → Int32) (y_costs : Nat → Int32) (p1 : Int32) : Option (Int32) :=
  Option.bind (pX10_in p1.toInt64 0 1) (fun r1 => if r1 = 0 then (some (-2)) else (Option.bind (pX10_bestOf y_n y_sets y_list y_costs p1) (fun r2 => some r2)))
set_option maxHeartbeats 4000000 in
set_option maxRecDepth 100000 in
theorem c_X10_best (l : Launch) (dC : Nat → ClassId) (dI : Nat → Nat → Nat) (a_y : Nat) (a_y_list : Nat) (a_y_others : Nat) (a_y_costs : Nat) (a_y_table : Nat) (a_y_basis : Nat) (a_y_isSeen : Nat) (a_y_colour : Nat) (a_y_rest : Nat) (a_y_makes : Nat) (a_y_worst : Nat) (c_y_list c_y_costs : ClassId) (sz : Nat) (y_n : Int32) (y_sets : Int32) (y_otherMany : Int32) (y_above : Int64) (y_below : Int64) (y_by : Int64) (y_list : Nat → Int32) (y_costs : Nat → Int32) (p1 : Int32) (rv : Int32) (hs : pX10_best y_n y_sets y_list y_costs p1 = some rv) : Met l yX10_best wsX10_best ({ frames := 3, cells := 0, slots := 0, locals := 68 }) (sPc [.ref a_y, .int p1] (dC, dI) [(c_y_list, .int), (c_y_costs, .int)] [(a_y, .inr (10, [.int y_n, .ref a_y_list, .int y_sets, .ref a_y_others, .int y_otherMany, .ref a_y_costs, .long y_above, .long y_below, .ref a_y_table, .long y_by, .ref a_y_basis, .ref a_y_isSeen, .ref a_y_colour, .ref a_y_rest, .ref a_y_makes, .ref a_y_worst])), (a_y_list, .inl (c_y_list, 16, .inl y_list)), (a_y_costs, .inl (c_y_costs, 10, .inl y_costs))] sz) (va_Qi (fun (r : Int32) (_ : Unit) => r = rv) (sB (dC, dI) [(c_y_list, .int), (c_y_costs, .int)] (va_A [(a_y, .inr (10, [.int y_n, .ref a_y_list, .int y_sets, .ref a_y_others, .int y_otherMany, .ref a_y_costs, .long y_above, .long y_below, .ref a_y_table, .long y_by, .ref a_y_basis, .ref a_y_isSeen, .ref a_y_colour, .ref a_y_rest, .ref a_y_makes, .ref a_y_worst])), (a_y_list, .inl (c_y_list, 16, .inl y_list)), (a_y_costs, .inl (c_y_costs, 10, .inl y_costs))] sz) [(a_y, .inr (10, [.int y_n, .ref a_y_list, .int y_sets, .ref a_y_others, .int y_otherMany, .ref a_y_costs, .long y_above, .long y_below, .ref a_y_table, .long y_by, .ref a_y_basis, .ref a_y_isSeen, .ref a_y_colour, .ref a_y_rest, .ref a_y_makes, .ref a_y_worst])), (a_y_list, .inl (c_y_list, 16, .inl y_list)), (a_y_costs, .inl (c_y_costs, 10, .inl y_costs))]) (va_A [(a_y, .inr (10, [.int y_n, .ref a_y_list, .int y_sets, .ref a_y_others, .int y_otherMany, .ref a_y_costs, .long y_above, .long y_below, .ref a_y_table, .long y_by, .ref a_y_basis, .ref a_y_isSeen, .ref a_y_colour, .ref a_y_rest, .ref a_y_makes, .ref a_y_worst])), (a_y_list, .inl (c_y_list, 16, .inl y_list)), (a_y_costs, .inl (c_y_costs, 10, .inl y_costs))] sz)) 0 0 (va_A [(a_y, .inr (10, [.int y_n, .ref a_y_list, .int y_sets, .ref a_y_others, .int y_otherMany, .ref a_y_costs, .long y_above, .long y_below, .ref a_y_table, .long y_by, .ref a_y_basis, .ref a_y_isSeen, .ref a_y_colour, .ref a_y_rest, .ref a_y_makes, .ref a_y_worst])), (a_y_list, .inl (c_y_list, 16, .inl y_list)), (a_y_costs, .inl (c_y_costs, 10, .inl y_costs))] sz) := by
  refine Met.ofW (cc := cX10_best) (maxL := 2) (ret := (some .int)) (by decide) rfl ?_
  intro p e s m args below meth c s₁ B hml hv
  obtain ⟨rfl, hsz, hP, hK, hD0, hN⟩ := hv
  have hx := B.exec
  have hb := B.bytes
  have hr := B.returns
  have hts := atoms_spec (ws := wsX10_best) B.pre
  have hown : s.vm.findClass RX10 = some m.cls := findClass_of_methodNamed B.named
  have hlocks := B.notSynchronized
  subst hsz
  have hD := hD0.self (sz := s.heap.size)
  generalize hAe : va_A [(a_y, .inr (10, [.int y_n, .ref a_y_list, .int y_sets, .ref a_y_others, .int y_otherMany, .ref a_y_costs, .long y_above, .long y_below, .ref a_y_table, .long y_by, .ref a_y_basis, .ref a_y_isSeen, .ref a_y_colour, .ref a_y_rest, .ref a_y_makes, .ref a_y_worst])), (a_y_list, .inl (c_y_list, 16, .inl y_list)), (a_y_costs, .inl (c_y_costs, 10, .inl y_costs))] s.heap.size = A at hD hN ⊢
  have hA : ∀ q : Nat, s.heap.size ≤ q → A q := fun q h => by rw [← hAe]; exact Or.inr h
  have hS : va_S A s.heap s.heap [] := va_S.rf
  have hP : va_P (dC, dI) vwCl [(a_y, .inr (10, [.int y_n, .ref a_y_list, .int y_sets, .ref a_y_others, .int y_otherMany, .ref a_y_costs, .long y_above, .long y_below, .ref a_y_table, .long y_by, .ref a_y_basis, .ref a_y_isSeen, .ref a_y_colour, .ref a_y_rest, .ref a_y_makes, .ref a_y_worst])), (a_y_list, .inl (c_y_list, 16, .inl y_list)), (a_y_costs, .inl (c_y_costs, 10, .inl y_costs))] s.heap := hP
  have hl := lv_entry ([.ref a_y, .int p1]) (n := 2) (Nat.le_of_ble_eq_true rfl)
  rw [lg_entry_eq]
  generalize (lg_sl ([.ref a_y, .int p1]) ++ List.replicate (2 - (lg_sl ([.ref a_y, .int p1])).length) Slot.unset).toArray = ls at hl ⊢
  have hl : lv_has ls 2 [(0, .ref a_y), (1, .int p1)] := hl
  refine w_abs (fun Z hZv hZw => ?_)
  refine hZv ?_
  obtain ⟨H, hH⟩ : ∃ H, H = s.heap := ⟨_, rfl⟩
  obtain ⟨locs, hlo⟩ : ∃ L : List Loc, L = [] := ⟨_, rfl⟩
  rw [← hlo, ← hH]
  have hS : va_S A s.heap H locs := by rw [hlo, hH]; exact hS
  have hP : va_P (dC, dI) vwCl [(a_y, .inr (10, [.int y_n, .ref a_y_list, .int y_sets, .ref a_y_others, .int y_otherMany, .ref a_y_costs, .long y_above, .long y_below, .ref a_y_table, .long y_by, .ref a_y_basis, .ref a_y_isSeen, .ref a_y_colour, .ref a_y_rest, .ref a_y_makes, .ref a_y_worst])), (a_y_list, .inl (c_y_list, 16, .inl y_list)), (a_y_costs, .inl (c_y_costs, 10, .inl y_costs))] H := by rw [hH]; exact hP
  clear hH hlo
  unfold pX10_best at hs
  refine lv_iload_n hx hb dX10_best_0 rfl (lv_at hl 1 rfl) ?_
  refine lv_i2l (v := p1.toInt64) hx hb dX10_best_1 rfl ?_
  refine lv_lconst (v := 0) hx hb dX10_best_2 (by decide) ?_
  refine lv_lconst (v := 1) hx hb dX10_best_3 (by decide) ?_
  obtain ⟨r1, hr1, hs⟩ := bd_s hs
  refine kc_i (isC := []) (isR := [0, 1, 2]) (pm := [0, 1, 2]) (wr := [(a_y, .inr (10, [.int y_n, .ref a_y_list, .int y_sets, .ref a_y_others, .int y_otherMany, .ref a_y_costs, .long y_above, .long y_below, .ref a_y_table, .long y_by, .ref a_y_basis, .ref a_y_isSeen, .ref a_y_colour, .ref a_y_rest, .ref a_y_makes, .ref a_y_worst])), (a_y_list, .inl (c_y_list, 16, .inl y_list)), (a_y_costs, .inl (c_y_costs, 10, .inl y_costs))]) (w1 := []) (w2 := [(a_y, .inr (10, [.int y_n, .ref a_y_list, .int y_sets, .ref a_y_others, .int y_otherMany, .ref a_y_costs, .long y_above, .long y_below, .ref a_y_table, .long y_by, .ref a_y_basis, .ref a_y_isSeen, .ref a_y_colour, .ref a_y_rest, .ref a_y_makes, .ref a_y_worst])), (a_y_list, .inl (c_y_list, 16, .inl y_list)), (a_y_costs, .inl (c_y_costs, 10, .inl y_costs))]) (va_runS (As := [.long p1.toInt64, .long 0, .long 1]) (rest := []) ⟨hx, hb, hml, hown, hts⟩ (c_X10_in l dC dI H.size p1.toInt64 0 1 r1 hr1) (va_cwS 3 hts gX10_best_X10_in rfl rfl rfl (by decide +kernel) ⟨Nat.le_of_ble_eq_true rfl, Nat.le_of_ble_eq_true rfl⟩) (kp_S hK hP hD hS hA hN (isC := []) (isT := []) (wc := []) rfl (by decide +kernel) rfl) rfl rfl hl.1 rfl (lv_room (Nat.le_of_ble_eq_true rfl)) dX10_best_4 ⟨Nat.le_of_ble_eq_true rfl, Nat.le_of_ble_eq_true rfl⟩) hP hD hS hA rfl rfl (by decide +kernel) (by decide +kernel) rfl (by decide +kernel) (fun H locs hP hD hS => ?_)
  refine lv_if_eq (tgt := 18) hx hb dX10_best_7 (by decide) (fun hc => ?_) (fun hc => ?_)
  · replace hs := it_t hc hs
    refine lv_bipush (v := (-2)) hx hb dX10_best_18 (by decide) ?_
    replace hs := Option.some.inj hs
    subst hs
    exact W.iret (v := (-2)) hx hb hr (fun t ht hW => ⟨⟨(-2), (), rfl, rfl, by rw [ht]; exact hP, va_K.moved hW.alike hK, hD⟩, hS.F ht⟩) hS.2.2 dX10_best_20
  · replace hs := it_f hc hs
    refine lv_aload_n hx hb dX10_best_10 rfl (lv_at hl 0 rfl) ?_
    refine lv_iload_n hx hb dX10_best_11 rfl (lv_at hl 1 rfl) ?_
    obtain ⟨r2, hr2, hs⟩ := bd_s hs
    refine kc_i (isC := [0, 1, 2]) (isR := []) (pm := [0, 1, 2]) (wr := []) (w1 := [(a_y, .inr (10, [.int y_n, .ref a_y_list, .int y_sets, .ref a_y_others, .int y_otherMany, .ref a_y_costs, .long y_above, .long y_below, .ref a_y_table, .long y_by, .ref a_y_basis, .ref a_y_isSeen, .ref a_y_colour, .ref a_y_rest, .ref a_y_makes, .ref a_y_worst])), (a_y_list, .inl (c_y_list, 16, .inl y_list)), (a_y_costs, .inl (c_y_costs, 10, .inl y_costs))]) (w2 := [(a_y, .inr (10, [.int y_n, .ref a_y_list, .int y_sets, .ref a_y_others, .int y_otherMany, .ref a_y_costs, .long y_above, .long y_below, .ref a_y_table, .long y_by, .ref a_y_basis, .ref a_y_isSeen, .ref a_y_colour, .ref a_y_rest, .ref a_y_makes, .ref a_y_worst])), (a_y_list, .inl (c_y_list, 16, .inl y_list)), (a_y_costs, .inl (c_y_costs, 10, .inl y_costs))]) (va_runV (As := [.int p1]) (rest := []) ⟨hx, hb, hml, hown, hts⟩ (c_X10_bestOf l dC dI a_y a_y_list a_y_others a_y_costs a_y_table a_y_basis a_y_isSeen a_y_colour a_y_rest a_y_makes a_y_worst c_y_list c_y_costs H.size y_n y_sets y_otherMany y_above y_below y_by y_list y_costs p1 r2 hr2) (cwV 1 hts gX10_best_X10_bestOf rfl rfl rfl (by decide +kernel) ⟨Nat.le_of_ble_eq_true rfl, Nat.le_of_ble_eq_true rfl⟩) (kp_V hK hP hD hS hA hN (isC := [0, 1, 2]) (isT := [0, 1]) (wc := [(a_y, .inr (10, [.int y_n, .ref a_y_list, .int y_sets, .ref a_y_others, .int y_otherMany, .ref a_y_costs, .long y_above, .long y_below, .ref a_y_table, .long y_by, .ref a_y_basis, .ref a_y_isSeen, .ref a_y_colour, .ref a_y_rest, .ref a_y_makes, .ref a_y_worst])), (a_y_list, .inl (c_y_list, 16, .inl y_list)), (a_y_costs, .inl (c_y_costs, 10, .inl y_costs))]) rfl (by decide +kernel) rfl (ci := 10) (q0 := 0) rfl rfl) rfl rfl hl.1 rfl (lv_room (Nat.le_of_ble_eq_true rfl)) dX10_best_12 ⟨Nat.le_of_ble_eq_true rfl, Nat.le_of_ble_eq_true rfl⟩) hP hD hS hA rfl rfl (by decide +kernel) (by decide +kernel) rfl (by decide +kernel) (fun H locs hP hD hS => ?_)
    refine lv_goto (tgt := 20) hx hb dX10_best_15 (by decide) ?_
    replace hs := Option.some.inj hs
    subst hs
    exact W.iret (v := r2) hx hb hr (fun t ht hW => ⟨⟨r2, (), rfl, rfl, by rw [ht]; exact hP, va_K.moved hW.alike hK, hD⟩, hS.F ht⟩) hS.2.2 dX10_best_20
noncomputable def pX10_other_L13 (y_otherMany : Int32) (y_others : Nat → Int32) (p1 : Int32) (s13 : Int32) : Option ((Int32) ⊕ ((Unit) ⊕ (Unit))) :=
  if y_otherMany ≤ s13 then (some (Sum.inr (Sum.inr ()))) else (gd (vp_in s13 40) (if (y_others s13.toNatClampNeg) = p1 then (some (Sum.inr (Sum.inl ()))) else (some (Sum.inl (s13 + 1)))))
noncomputable def pX10_other (y_n : Int32) (y_otherMany : Int32) (y_others : Nat → Int32) (p1 : Int32) : Option (Int32 × Int32 × (Nat → Int32)) :=
  Option.bind (pX10_isPart y_n p1) (fun r1 => if r1 = 0 then (some ((-2), y_otherMany, y_others)) else (Option.bind (lp (pX10_other_L13 y_otherMany y_others p1) 0) (Sum.elim (fun e13_0 => some ((-2), y_otherMany, y_others)) (fun e13_1 => if y_otherMany = 40 then (some ((-4), y_otherMany, y_others)) else (gd (vp_in y_otherMany 40) (some (y_otherMany + 1, y_otherMany + 1, upd y_others y_otherMany.toNatClampNeg p1)))))))
set_option maxHeartbeats 4000000 in
set_option maxRecDepth 100000 in
theorem c_X10_other (l : Launch) (dC : Nat → ClassId) (dI : Nat → Nat → Nat) (a_y : Nat) (a_y_list : Nat) (a_y_others : Nat) (a_y_costs : Nat) (a_y_table : Nat) (a_y_basis : Nat) (a_y_isSeen : Nat) (a_y_colour : Nat) (a_y_rest : Nat) (a_y_makes : Nat) (a_y_worst : Nat) (c_y_others : ClassId) (sz : Nat) (y_n : Int32) (y_sets : Int32) (y_otherMany : Int32) (y_above : Int64) (y_below : Int64) (y_by : Int64) (y_others : Nat → Int32) (p1 : Int32) (rv : Int32 × Int32 × (Nat → Int32)) (hs : pX10_other y_n y_otherMany y_others p1 = some rv) : Met l yX10_other wsX10_other ({ frames := 2, cells := 0, slots := 0, locals := 46 }) (sPc [.ref a_y, .int p1] (dC, dI) [(c_y_others, .int)] [(a_y, .inr (10, [.int y_n, .ref a_y_list, .int y_sets, .ref a_y_others, .int y_otherMany, .ref a_y_costs, .long y_above, .long y_below, .ref a_y_table, .long y_by, .ref a_y_basis, .ref a_y_isSeen, .ref a_y_colour, .ref a_y_rest, .ref a_y_makes, .ref a_y_worst])), (a_y_others, .inl (c_y_others, 40, .inl y_others))] sz) (va_Qi (fun (r : Int32) (_ : Unit) => r = rv.1) (sB (dC, dI) [(c_y_others, .int)] (va_A [(a_y, .inr (10, [.int y_n, .ref a_y_list, .int y_sets, .ref a_y_others, .int y_otherMany, .ref a_y_costs, .long y_above, .long y_below, .ref a_y_table, .long y_by, .ref a_y_basis, .ref a_y_isSeen, .ref a_y_colour, .ref a_y_rest, .ref a_y_makes, .ref a_y_worst])), (a_y_others, .inl (c_y_others, 40, .inl y_others))] sz) [(a_y, .inr (10, [.int y_n, .ref a_y_list, .int y_sets, .ref a_y_others, .int rv.2.1, .ref a_y_costs, .long y_above, .long y_below, .ref a_y_table, .long y_by, .ref a_y_basis, .ref a_y_isSeen, .ref a_y_colour, .ref a_y_rest, .ref a_y_makes, .ref a_y_worst])), (a_y_others, .inl (c_y_others, 40, .inl rv.2.2))]) (va_A [(a_y, .inr (10, [.int y_n, .ref a_y_list, .int y_sets, .ref a_y_others, .int y_otherMany, .ref a_y_costs, .long y_above, .long y_below, .ref a_y_table, .long y_by, .ref a_y_basis, .ref a_y_isSeen, .ref a_y_colour, .ref a_y_rest, .ref a_y_makes, .ref a_y_worst])), (a_y_others, .inl (c_y_others, 40, .inl y_others))] sz)) 0 0 (va_A [(a_y, .inr (10, [.int y_n, .ref a_y_list, .int y_sets, .ref a_y_others, .int y_otherMany, .ref a_y_costs, .long y_above, .long y_below, .ref a_y_table, .long y_by, .ref a_y_basis, .ref a_y_isSeen, .ref a_y_colour, .ref a_y_rest, .ref a_y_makes, .ref a_y_worst])), (a_y_others, .inl (c_y_others, 40, .inl y_others))] sz) := by
  refine Met.ofW (cc := cX10_other) (maxL := 3) (ret := (some .int)) (by decide) rfl ?_
  intro p e s m args below meth c s₁ B hml hv
  obtain ⟨rfl, hsz, hP, hK, hD0, hN⟩ := hv
  have hx := B.exec
  have hb := B.bytes
  have hr := B.returns
  have hts := atoms_spec (ws := wsX10_other) B.pre
  have hown : s.vm.findClass RX10 = some m.cls := findClass_of_methodNamed B.named
  have hlocks := B.notSynchronized
  subst hsz
  have hD := hD0.self (sz := s.heap.size)
  generalize hAe : va_A [(a_y, .inr (10, [.int y_n, .ref a_y_list, .int y_sets, .ref a_y_others, .int y_otherMany, .ref a_y_costs, .long y_above, .long y_below, .ref a_y_table, .long y_by, .ref a_y_basis, .ref a_y_isSeen, .ref a_y_colour, .ref a_y_rest, .ref a_y_makes, .ref a_y_worst])), (a_y_others, .inl (c_y_others, 40, .inl y_others))] s.heap.size = A at hD hN ⊢
  have hA : ∀ q : Nat, s.heap.size ≤ q → A q := fun q h => by rw [← hAe]; exact Or.inr h
  have hS : va_S A s.heap s.heap [] := va_S.rf
  have hP : va_P (dC, dI) vwCl [(a_y, .inr (10, [.int y_n, .ref a_y_list, .int y_sets, .ref a_y_others, .int y_otherMany, .ref a_y_costs, .long y_above, .long y_below, .ref a_y_table, .long y_by, .ref a_y_basis, .ref a_y_isSeen, .ref a_y_colour, .ref a_y_rest, .ref a_y_makes, .ref a_y_worst])), (a_y_others, .inl (c_y_others, 40, .inl y_others))] s.heap := hP
  have hl := lv_entry ([.ref a_y, .int p1]) (n := 3) (Nat.le_of_ble_eq_true rfl)
  rw [lg_entry_eq]
  generalize (lg_sl ([.ref a_y, .int p1]) ++ List.replicate (3 - (lg_sl ([.ref a_y, .int p1])).length) Slot.unset).toArray = ls at hl ⊢
  have hl : lv_has ls 3 [(0, .ref a_y), (1, .int p1)] := hl
  have hiX10 : ∀ w ∈ wsX100, w ∈ wsX10_other := fun _ h => List.mem_cons_of_mem _ (List.mem_append_right _ h)
  have hf64 := hts (.fieldLink RX10 64 "MeetSetsModel" "otherMany" "I") (t1_ (al_ h1_))
  have hf13 := hts (.fieldLink RX10 13 "MeetSetsModel" "others" "[I") (t1_ (al_ (t1_ h1_)))
  refine w_abs (fun Z hZv hZw => ?_)
  refine hZv ?_
  obtain ⟨H, hH⟩ : ∃ H, H = s.heap := ⟨_, rfl⟩
  obtain ⟨locs, hlo⟩ : ∃ L : List Loc, L = [] := ⟨_, rfl⟩
  rw [← hlo, ← hH]
  have hS : va_S A s.heap H locs := by rw [hlo, hH]; exact hS
  have hP : va_P (dC, dI) vwCl [(a_y, .inr (10, [.int y_n, .ref a_y_list, .int y_sets, .ref a_y_others, .int y_otherMany, .ref a_y_costs, .long y_above, .long y_below, .ref a_y_table, .long y_by, .ref a_y_basis, .ref a_y_isSeen, .ref a_y_colour, .ref a_y_rest, .ref a_y_makes, .ref a_y_worst])), (a_y_others, .inl (c_y_others, 40, .inl y_others))] H := by rw [hH]; exact hP
  clear hH hlo
  unfold pX10_other at hs
  refine lv_aload_n hx hb dX10_other_0 rfl (lv_at hl 0 rfl) ?_
  refine lv_iload_n hx hb dX10_other_1 rfl (lv_at hl 1 rfl) ?_
  obtain ⟨r1, hr1, hs⟩ := bd_s hs
  refine kc_i (isC := [0]) (isR := [1]) (pm := [1, 0]) (wr := [(a_y_others, .inl (c_y_others, 40, .inl y_others))]) (w1 := [(a_y, .inr (10, [.int y_n, .ref a_y_list, .int y_sets, .ref a_y_others, .int y_otherMany, .ref a_y_costs, .long y_above, .long y_below, .ref a_y_table, .long y_by, .ref a_y_basis, .ref a_y_isSeen, .ref a_y_colour, .ref a_y_rest, .ref a_y_makes, .ref a_y_worst]))]) (w2 := [(a_y, .inr (10, [.int y_n, .ref a_y_list, .int y_sets, .ref a_y_others, .int y_otherMany, .ref a_y_costs, .long y_above, .long y_below, .ref a_y_table, .long y_by, .ref a_y_basis, .ref a_y_isSeen, .ref a_y_colour, .ref a_y_rest, .ref a_y_makes, .ref a_y_worst])), (a_y_others, .inl (c_y_others, 40, .inl y_others))]) (va_runV (As := [.int p1]) (rest := []) ⟨hx, hb, hml, hown, hts⟩ (c_X10_isPart l dC dI a_y a_y_list a_y_others a_y_costs a_y_table a_y_basis a_y_isSeen a_y_colour a_y_rest a_y_makes a_y_worst H.size y_n y_sets y_otherMany y_above y_below y_by p1 r1 hr1) (cwV 1 hts gX10_other_X10_isPart rfl rfl rfl (by decide +kernel) ⟨Nat.le_of_ble_eq_true rfl, Nat.le_of_ble_eq_true rfl⟩) (kp_V hK hP hD hS hA hN (isC := [0]) (isT := []) (wc := [(a_y, .inr (10, [.int y_n, .ref a_y_list, .int y_sets, .ref a_y_others, .int y_otherMany, .ref a_y_costs, .long y_above, .long y_below, .ref a_y_table, .long y_by, .ref a_y_basis, .ref a_y_isSeen, .ref a_y_colour, .ref a_y_rest, .ref a_y_makes, .ref a_y_worst]))]) rfl (by decide +kernel) rfl (ci := 10) (q0 := 0) rfl rfl) rfl rfl hl.1 rfl (lv_room (Nat.le_of_ble_eq_true rfl)) dX10_other_2 ⟨Nat.le_of_ble_eq_true rfl, Nat.le_of_ble_eq_true rfl⟩) hP hD hS hA rfl rfl (by decide +kernel) (by decide +kernel) rfl (by decide +kernel) (fun H locs hP hD hS => ?_)
  refine lv_if_ne (tgt := 11) hx hb dX10_other_5 (by decide) (fun hc => ?_) (fun hc => ?_)
  · replace hs := it_f hc hs
    refine lv_iconst (v := 0) hx hb dX10_other_11 (by decide) ?_
    refine lv_istore_n (lv' := [(2, .int 0), (0, .ref a_y), (1, .int p1)]) hx hb dX10_other_12 rfl hl (by decide) rfl (fun ls hl => ?_)
    obtain ⟨e13, he13, hs⟩ := bd_s hs
    have hX13_0 : ∀ (e13_0 : Unit), (Sum.inl e13_0) = e13 → ∀ (H : Heap) (locs : List Loc) (ls : Array Slot), va_P (dC, dI) vwCl [(a_y, .inr (10, [.int y_n, .ref a_y_list, .int y_sets, .ref a_y_others, .int y_otherMany, .ref a_y_costs, .long y_above, .long y_below, .ref a_y_table, .long y_by, .ref a_y_basis, .ref a_y_isSeen, .ref a_y_colour, .ref a_y_rest, .ref a_y_makes, .ref a_y_worst])), (a_y_others, .inl (c_y_others, 40, .inl y_others))] H → va_D A [(a_y, .inr (10, [.int y_n, .ref a_y_list, .int y_sets, .ref a_y_others, .int y_otherMany, .ref a_y_costs, .long y_above, .long y_below, .ref a_y_table, .long y_by, .ref a_y_basis, .ref a_y_isSeen, .ref a_y_colour, .ref a_y_rest, .ref a_y_makes, .ref a_y_worst])), (a_y_others, .inl (c_y_others, 40, .inl y_others))] → va_S A s.heap H locs → lv_has ls 3 [] → Z H locs 0 0 (F0 m 31 ls []) := by
      intro e13_0 he H locs ls hP hD hS hl
      subst he
      replace hs := sm_l hs
      refine hZv ?_
      refine lv_bipush (v := (-2)) hx hb dX10_other_31 (by decide) ?_
      replace hs := Option.some.inj hs
      subst hs
      exact W.iret (v := (-2)) hx hb hr (fun t ht hW => ⟨⟨(-2), (), rfl, rfl, by rw [ht]; exact hP, va_K.moved hW.alike hK, hD⟩, hS.F ht⟩) hS.2.2 dX10_other_33
    have hX13_1 : ∀ (e13_1 : Unit), (Sum.inr e13_1) = e13 → ∀ (H : Heap) (locs : List Loc) (ls : Array Slot), va_P (dC, dI) vwCl [(a_y, .inr (10, [.int y_n, .ref a_y_list, .int y_sets, .ref a_y_others, .int y_otherMany, .ref a_y_costs, .long y_above, .long y_below, .ref a_y_table, .long y_by, .ref a_y_basis, .ref a_y_isSeen, .ref a_y_colour, .ref a_y_rest, .ref a_y_makes, .ref a_y_worst])), (a_y_others, .inl (c_y_others, 40, .inl y_others))] H → va_D A [(a_y, .inr (10, [.int y_n, .ref a_y_list, .int y_sets, .ref a_y_others, .int y_otherMany, .ref a_y_costs, .long y_above, .long y_below, .ref a_y_table, .long y_by, .ref a_y_basis, .ref a_y_isSeen, .ref a_y_colour, .ref a_y_rest, .ref a_y_makes, .ref a_y_worst])), (a_y_others, .inl (c_y_others, 40, .inl y_others))] → va_S A s.heap H locs → lv_has ls 3 [(0, .ref a_y), (1, .int p1)] → Z H locs 0 0 (F0 m 40 ls []) := by
      intro e13_1 he H locs ls hP hD hS hl
      subst he
      replace hs := sm_r hs
      refine hZv ?_
      refine lv_aload_n hx hb dX10_other_40 rfl (lv_at hl 0 rfl) ?_
      refine va_get (D := (dC, dI)) (ci := 10) (v := .int y_otherMany) (C := RX10) (T := TX10) (N := 16) hx hb hts hiX10 hown hK hP 0 rfl rfl 4 (by decide) hf64 (fun _ h9 => h9) rfl dX10_other_41 ?_
      refine lv_bipush (v := 40) hx hb dX10_other_44 (by decide) ?_
      refine lv_icmp_ne (tgt := 52) hx hb dX10_other_46 (by decide) (fun hc => ?_) (fun hc => ?_)
      · replace hs := it_f hc hs
        refine lv_aload_n hx hb dX10_other_52 rfl (lv_at hl 0 rfl) ?_
        refine va_get (D := (dC, dI)) (ci := 10) (v := .ref a_y_others) (C := RX10) (T := TX10) (N := 16) hx hb hts hiX10 hown hK hP 0 rfl rfl 3 (by decide) hf13 (fun _ h9 => h9) rfl dX10_other_53 ?_
        refine lv_aload_n hx hb dX10_other_56 rfl (lv_at hl 0 rfl) ?_
        refine va_get (D := (dC, dI)) (ci := 10) (v := .int y_otherMany) (C := RX10) (T := TX10) (N := 16) hx hb hts hiX10 hown hK hP 0 rfl rfl 4 (by decide) hf64 (fun _ h9 => h9) rfl dX10_other_57 ?_
        refine lv_iload_n hx hb dX10_other_60 rfl (lv_at hl 1 rfl) ?_
        obtain ⟨hg4, hs⟩ := gd_s hs
        refine va_iast hx hb hK hP hD hS 1 0 rfl rfl hg4 dX10_other_61 (fun H locs hP hD hS => ?_)
        have hP : va_P (dC, dI) vwCl [(a_y, .inr (10, [.int y_n, .ref a_y_list, .int y_sets, .ref a_y_others, .int y_otherMany, .ref a_y_costs, .long y_above, .long y_below, .ref a_y_table, .long y_by, .ref a_y_basis, .ref a_y_isSeen, .ref a_y_colour, .ref a_y_rest, .ref a_y_makes, .ref a_y_worst])), (a_y_others, .inl (c_y_others, 40, .inl (upd y_others y_otherMany.toNatClampNeg p1)))] H := hP
        have hD : va_D A [(a_y, .inr (10, [.int y_n, .ref a_y_list, .int y_sets, .ref a_y_others, .int y_otherMany, .ref a_y_costs, .long y_above, .long y_below, .ref a_y_table, .long y_by, .ref a_y_basis, .ref a_y_isSeen, .ref a_y_colour, .ref a_y_rest, .ref a_y_makes, .ref a_y_worst])), (a_y_others, .inl (c_y_others, 40, .inl (upd y_others y_otherMany.toNatClampNeg p1)))] := hD
        refine lv_aload_n hx hb dX10_other_62 rfl (lv_at hl 0 rfl) ?_
        refine lv_dup hx hb dX10_other_63 rfl ?_
        refine va_get (D := (dC, dI)) (ci := 10) (v := .int y_otherMany) (C := RX10) (T := TX10) (N := 16) hx hb hts hiX10 hown hK hP 0 rfl rfl 4 (by decide) hf64 (fun _ h9 => h9) rfl dX10_other_64 ?_
        refine lv_iconst (v := 1) hx hb dX10_other_67 (by decide) ?_
        refine lv_iadd hx hb dX10_other_68 ?_
        refine va_put (D := (dC, dI)) (ci := 10) (v := .int (y_otherMany + 1)) (ty := .int) (C := RX10) (T := TX10) (N := 16) hx hb hts hiX10 tyX10 tyX10_ok nmX10 hown hK hP hD hS 0 rfl rfl 4 (by decide) hf64 (fun _ h9 => h9) rfl (by decide +kernel) rfl rfl (Nat.le_of_ble_eq_true rfl) dX10_other_69 (fun H locs hP hD hS => ?_)
        have hP : va_P (dC, dI) vwCl [(a_y, .inr (10, [.int y_n, .ref a_y_list, .int y_sets, .ref a_y_others, .int (y_otherMany + 1), .ref a_y_costs, .long y_above, .long y_below, .ref a_y_table, .long y_by, .ref a_y_basis, .ref a_y_isSeen, .ref a_y_colour, .ref a_y_rest, .ref a_y_makes, .ref a_y_worst])), (a_y_others, .inl (c_y_others, 40, .inl (upd y_others y_otherMany.toNatClampNeg p1)))] H := hP
        have hD : va_D A [(a_y, .inr (10, [.int y_n, .ref a_y_list, .int y_sets, .ref a_y_others, .int (y_otherMany + 1), .ref a_y_costs, .long y_above, .long y_below, .ref a_y_table, .long y_by, .ref a_y_basis, .ref a_y_isSeen, .ref a_y_colour, .ref a_y_rest, .ref a_y_makes, .ref a_y_worst])), (a_y_others, .inl (c_y_others, 40, .inl (upd y_others y_otherMany.toNatClampNeg p1)))] := hD
        refine lv_aload_n hx hb dX10_other_72 rfl (lv_at hl 0 rfl) ?_
        refine va_get (D := (dC, dI)) (ci := 10) (v := .int (y_otherMany + 1)) (C := RX10) (T := TX10) (N := 16) hx hb hts hiX10 hown hK hP 0 rfl rfl 4 (by decide) hf64 (fun _ h9 => h9) rfl dX10_other_73 ?_
        replace hs := Option.some.inj hs
        subst hs
        exact W.iret (v := y_otherMany + 1) hx hb hr (fun t ht hW => ⟨⟨y_otherMany + 1, (), rfl, rfl, by rw [ht]; exact hP, va_K.moved hW.alike hK, hD⟩, hS.F ht⟩) hS.2.2 dX10_other_76
      · replace hs := it_t hc hs
        refine lv_bipush (v := (-4)) hx hb dX10_other_49 (by decide) ?_
        replace hs := Option.some.inj hs
        subst hs
        exact W.iret (v := (-4)) hx hb hr (fun t ht hW => ⟨⟨(-4), (), rfl, rfl, by rw [ht]; exact hP, va_K.moved hW.alike hK, hD⟩, hS.F ht⟩) hS.2.2 dX10_other_51
    clear hs
    have hL13 : ∀ (n : Nat) (s13 : Int32) (H : Heap) (locs : List Loc) (ls : Array Slot), itr (pX10_other_L13 y_otherMany y_others p1) n s13 = some e13 → va_P (dC, dI) vwCl [(a_y, .inr (10, [.int y_n, .ref a_y_list, .int y_sets, .ref a_y_others, .int y_otherMany, .ref a_y_costs, .long y_above, .long y_below, .ref a_y_table, .long y_by, .ref a_y_basis, .ref a_y_isSeen, .ref a_y_colour, .ref a_y_rest, .ref a_y_makes, .ref a_y_worst])), (a_y_others, .inl (c_y_others, 40, .inl y_others))] H → va_D A [(a_y, .inr (10, [.int y_n, .ref a_y_list, .int y_sets, .ref a_y_others, .int y_otherMany, .ref a_y_costs, .long y_above, .long y_below, .ref a_y_table, .long y_by, .ref a_y_basis, .ref a_y_isSeen, .ref a_y_colour, .ref a_y_rest, .ref a_y_makes, .ref a_y_worst])), (a_y_others, .inl (c_y_others, 40, .inl y_others))] → va_S A s.heap H locs → lv_has ls 3 [(0, .ref a_y), (1, .int p1), (2, .int s13)] → Z H locs 0 0 (F0 m 13 ls []) := by
      intro n
      induction n with
      | zero =>
        intro s13 H locs ls hn
        exact (itr_0 hn).elim
      | succ n ih =>
        intro s13 H locs ls hn hP hD hS hl
        obtain ⟨y2, hs, hn⟩ := itr_s hn
        unfold pX10_other_L13 at hs
        refine hZv ?_
        refine lv_iload_n hx hb dX10_other_13 rfl (lv_at hl 2 rfl) ?_
        refine lv_aload_n hx hb dX10_other_14 rfl (lv_at hl 0 rfl) ?_
        refine va_get (D := (dC, dI)) (ci := 10) (v := .int y_otherMany) (C := RX10) (T := TX10) (N := 16) hx hb hts hiX10 hown hK hP 0 rfl rfl 4 (by decide) hf64 (fun _ h9 => h9) rfl dX10_other_15 ?_
        refine lv_icmp_ge (tgt := 40) hx hb dX10_other_18 (by decide) (fun hc => ?_) (fun hc => ?_)
        · replace hs := it_t hc hs
          replace hs := Option.some.inj hs
          subst hs
          obtain rfl : (Sum.inr ()) = e13 := hn
          exact hZw (hX13_1 () rfl H locs ls hP hD hS (lv_sub hl [0, 1] rfl))
        · replace hs := it_f hc hs
          refine lv_aload_n hx hb dX10_other_21 rfl (lv_at hl 0 rfl) ?_
          refine va_get (D := (dC, dI)) (ci := 10) (v := .ref a_y_others) (C := RX10) (T := TX10) (N := 16) hx hb hts hiX10 hown hK hP 0 rfl rfl 3 (by decide) hf13 (fun _ h9 => h9) rfl dX10_other_22 ?_
          refine lv_iload_n hx hb dX10_other_25 rfl (lv_at hl 2 rfl) ?_
          obtain ⟨hg3, hs⟩ := gd_s hs
          refine va_iald hx hb hK hP 1 0 rfl rfl hg3 dX10_other_26 ?_
          refine lv_iload_n hx hb dX10_other_27 rfl (lv_at hl 1 rfl) ?_
          refine lv_icmp_ne (tgt := 34) hx hb dX10_other_28 (by decide) (fun hc => ?_) (fun hc => ?_)
          · replace hs := it_f hc hs
            refine lv_iinc (v := s13 + 1) (lv' := [(2, .int (s13 + 1)), (0, .ref a_y), (1, .int p1)]) hx hb dX10_other_34 hl (k := 2) rfl (by rfl) (by decide) rfl (fun ls hl => ?_)
            refine lv_goto (tgt := 13) hx hb dX10_other_37 (by decide) ?_
            replace hs := Option.some.inj hs
            subst hs
            exact hZw (ih (s13 + 1) H locs ls hn hP hD hS (lv_sub hl [1, 2, 0] rfl))
          · replace hs := it_t hc hs
            replace hs := Option.some.inj hs
            subst hs
            obtain rfl : (Sum.inl ()) = e13 := hn
            exact hZw (hX13_0 () rfl H locs ls hP hD hS (lv_sub hl [] rfl))
    obtain ⟨n13, hn13⟩ := lp_ex he13
    exact hZw (hL13 n13 0 H locs ls hn13 hP hD hS (lv_sub hl [1, 2, 0] rfl))
  · replace hs := it_t hc hs
    refine lv_bipush (v := (-2)) hx hb dX10_other_8 (by decide) ?_
    replace hs := Option.some.inj hs
    subst hs
    exact W.iret (v := (-2)) hx hb hr (fun t ht hW => ⟨⟨(-2), (), rfl, rfl, by rw [ht]; exact hP, va_K.moved hW.alike hK, hD⟩, hS.F ht⟩) hS.2.2 dX10_other_10
noncomputable def pX10_otherless (y_otherMany : Int32) : Option (Int32 × Int32) :=
  some (y_otherMany, 0)
set_option maxHeartbeats 4000000 in
set_option maxRecDepth 100000 in
theorem c_X10_otherless (l : Launch) (dC : Nat → ClassId) (dI : Nat → Nat → Nat) (a_y : Nat) (a_y_list : Nat) (a_y_others : Nat) (a_y_costs : Nat) (a_y_table : Nat) (a_y_basis : Nat) (a_y_isSeen : Nat) (a_y_colour : Nat) (a_y_rest : Nat) (a_y_makes : Nat) (a_y_worst : Nat) (sz : Nat) (y_n : Int32) (y_sets : Int32) (y_otherMany : Int32) (y_above : Int64) (y_below : Int64) (y_by : Int64) (rv : Int32 × Int32) (hs : pX10_otherless y_otherMany = some rv) : Met l yX10_otherless wsX10_otherless ({ frames := 0, cells := 0, slots := 0, locals := 0 }) (sPc [.ref a_y] (dC, dI) [] [(a_y, .inr (10, [.int y_n, .ref a_y_list, .int y_sets, .ref a_y_others, .int y_otherMany, .ref a_y_costs, .long y_above, .long y_below, .ref a_y_table, .long y_by, .ref a_y_basis, .ref a_y_isSeen, .ref a_y_colour, .ref a_y_rest, .ref a_y_makes, .ref a_y_worst]))] sz) (va_Qi (fun (r : Int32) (_ : Unit) => r = rv.1) (sB (dC, dI) [] (va_A [(a_y, .inr (10, [.int y_n, .ref a_y_list, .int y_sets, .ref a_y_others, .int y_otherMany, .ref a_y_costs, .long y_above, .long y_below, .ref a_y_table, .long y_by, .ref a_y_basis, .ref a_y_isSeen, .ref a_y_colour, .ref a_y_rest, .ref a_y_makes, .ref a_y_worst]))] sz) [(a_y, .inr (10, [.int y_n, .ref a_y_list, .int y_sets, .ref a_y_others, .int rv.2, .ref a_y_costs, .long y_above, .long y_below, .ref a_y_table, .long y_by, .ref a_y_basis, .ref a_y_isSeen, .ref a_y_colour, .ref a_y_rest, .ref a_y_makes, .ref a_y_worst]))]) (va_A [(a_y, .inr (10, [.int y_n, .ref a_y_list, .int y_sets, .ref a_y_others, .int y_otherMany, .ref a_y_costs, .long y_above, .long y_below, .ref a_y_table, .long y_by, .ref a_y_basis, .ref a_y_isSeen, .ref a_y_colour, .ref a_y_rest, .ref a_y_makes, .ref a_y_worst]))] sz)) 0 0 (va_A [(a_y, .inr (10, [.int y_n, .ref a_y_list, .int y_sets, .ref a_y_others, .int y_otherMany, .ref a_y_costs, .long y_above, .long y_below, .ref a_y_table, .long y_by, .ref a_y_basis, .ref a_y_isSeen, .ref a_y_colour, .ref a_y_rest, .ref a_y_makes, .ref a_y_worst]))] sz) := by
  refine Met.ofW (cc := cX10_otherless) (maxL := 2) (ret := (some .int)) (by decide) rfl ?_
  intro p e s m args below meth c s₁ B hml hv
  obtain ⟨rfl, hsz, hP, hK, hD0, hN⟩ := hv
  have hx := B.exec
  have hb := B.bytes
  have hr := B.returns
  have hts := atoms_spec (ws := wsX10_otherless) B.pre
  have hown : s.vm.findClass RX10 = some m.cls := findClass_of_methodNamed B.named
  have hlocks := B.notSynchronized
  subst hsz
  have hD := hD0.self (sz := s.heap.size)
  generalize hAe : va_A [(a_y, .inr (10, [.int y_n, .ref a_y_list, .int y_sets, .ref a_y_others, .int y_otherMany, .ref a_y_costs, .long y_above, .long y_below, .ref a_y_table, .long y_by, .ref a_y_basis, .ref a_y_isSeen, .ref a_y_colour, .ref a_y_rest, .ref a_y_makes, .ref a_y_worst]))] s.heap.size = A at hD hN ⊢
  have hA : ∀ q : Nat, s.heap.size ≤ q → A q := fun q h => by rw [← hAe]; exact Or.inr h
  have hS : va_S A s.heap s.heap [] := va_S.rf
  have hP : va_P (dC, dI) vwCl [(a_y, .inr (10, [.int y_n, .ref a_y_list, .int y_sets, .ref a_y_others, .int y_otherMany, .ref a_y_costs, .long y_above, .long y_below, .ref a_y_table, .long y_by, .ref a_y_basis, .ref a_y_isSeen, .ref a_y_colour, .ref a_y_rest, .ref a_y_makes, .ref a_y_worst]))] s.heap := hP
  have hl := lv_entry ([.ref a_y]) (n := 2) (Nat.le_of_ble_eq_true rfl)
  rw [lg_entry_eq]
  generalize (lg_sl ([.ref a_y]) ++ List.replicate (2 - (lg_sl ([.ref a_y])).length) Slot.unset).toArray = ls at hl ⊢
  have hl : lv_has ls 2 [(0, .ref a_y)] := hl
  have hiX10 : ∀ w ∈ wsX100, w ∈ wsX10_otherless := fun _ h => List.mem_cons_of_mem _ (List.mem_append_right _ h)
  have hf64 := hts (.fieldLink RX10 64 "MeetSetsModel" "otherMany" "I") (t1_ (al_ h1_))
  refine w_abs (fun Z hZv hZw => ?_)
  refine hZv ?_
  obtain ⟨H, hH⟩ : ∃ H, H = s.heap := ⟨_, rfl⟩
  obtain ⟨locs, hlo⟩ : ∃ L : List Loc, L = [] := ⟨_, rfl⟩
  rw [← hlo, ← hH]
  have hS : va_S A s.heap H locs := by rw [hlo, hH]; exact hS
  have hP : va_P (dC, dI) vwCl [(a_y, .inr (10, [.int y_n, .ref a_y_list, .int y_sets, .ref a_y_others, .int y_otherMany, .ref a_y_costs, .long y_above, .long y_below, .ref a_y_table, .long y_by, .ref a_y_basis, .ref a_y_isSeen, .ref a_y_colour, .ref a_y_rest, .ref a_y_makes, .ref a_y_worst]))] H := by rw [hH]; exact hP
  clear hH hlo
  unfold pX10_otherless at hs
  refine lv_aload_n hx hb dX10_otherless_0 rfl (lv_at hl 0 rfl) ?_
  refine va_get (D := (dC, dI)) (ci := 10) (v := .int y_otherMany) (C := RX10) (T := TX10) (N := 16) hx hb hts hiX10 hown hK hP 0 rfl rfl 4 (by decide) hf64 (fun _ h9 => h9) rfl dX10_otherless_1 ?_
  refine lv_istore_n (lv' := [(1, .int y_otherMany), (0, .ref a_y)]) hx hb dX10_otherless_4 rfl hl (by decide) rfl (fun ls hl => ?_)
  refine lv_aload_n hx hb dX10_otherless_5 rfl (lv_at hl 1 rfl) ?_
  refine lv_iconst (v := 0) hx hb dX10_otherless_6 (by decide) ?_
  refine va_put (D := (dC, dI)) (ci := 10) (v := .int 0) (ty := .int) (C := RX10) (T := TX10) (N := 16) hx hb hts hiX10 tyX10 tyX10_ok nmX10 hown hK hP hD hS 0 rfl rfl 4 (by decide) hf64 (fun _ h9 => h9) rfl (by decide +kernel) rfl rfl (Nat.le_of_ble_eq_true rfl) dX10_otherless_7 (fun H locs hP hD hS => ?_)
  have hP : va_P (dC, dI) vwCl [(a_y, .inr (10, [.int y_n, .ref a_y_list, .int y_sets, .ref a_y_others, .int 0, .ref a_y_costs, .long y_above, .long y_below, .ref a_y_table, .long y_by, .ref a_y_basis, .ref a_y_isSeen, .ref a_y_colour, .ref a_y_rest, .ref a_y_makes, .ref a_y_worst]))] H := hP
  have hD : va_D A [(a_y, .inr (10, [.int y_n, .ref a_y_list, .int y_sets, .ref a_y_others, .int 0, .ref a_y_costs, .long y_above, .long y_below, .ref a_y_table, .long y_by, .ref a_y_basis, .ref a_y_isSeen, .ref a_y_colour, .ref a_y_rest, .ref a_y_makes, .ref a_y_worst]))] := hD
  refine lv_iload_n hx hb dX10_otherless_10 rfl (lv_at hl 0 rfl) ?_
  replace hs := Option.some.inj hs
  subst hs
  exact W.iret (v := y_otherMany) hx hb hr (fun t ht hW => ⟨⟨y_otherMany, (), rfl, rfl, by rw [ht]; exact hP, va_K.moved hW.alike hK, hD⟩, hS.F ht⟩) hS.2.2 dX10_otherless_11
noncomputable def pX10_take_L19 (y_n : Int32) (y_sets : Int32) (y_list : Nat → Int32) (s19 : Int32 × Int32 × (Nat → Int32)) : Option ((Int32 × Int32 × (Nat → Int32)) ⊕ (Int32 × (Nat → Int32))) :=
  Option.bind (pX10_all y_n) (fun r3 => if r3 < s19.1 then (some (Sum.inr (s19.2.1, s19.2.2))) else (Option.bind (pX10_isLeast y_n y_sets y_list s19.1) (fun r4 => if r4 = 0 then (some (Sum.inl (s19.1 + 1, s19.2.1, s19.2.2))) else (gd (vp_in s19.2.1 40) (some (Sum.inl (s19.1 + 1, s19.2.1 + 1, upd s19.2.2 s19.2.1.toNatClampNeg s19.1)))))))
noncomputable def pX10_take (y_n : Int32) (y_sets : Int32) (y_otherMany : Int32) (y_list : Nat → Int32) (y_others : Nat → Int32) : Option (Int32 × Int32 × (Nat → Int32)) :=
  Option.bind (pX10_many y_n y_sets y_list) (fun r1 => if r1 ≤ 40 then (Option.bind (lp (pX10_take_L19 y_n y_sets y_list) (0, 0, y_others)) (fun e19 => some (e19.1, e19.1, e19.2))) else (some ((-3), y_otherMany, y_others)))
set_option maxHeartbeats 4000000 in
set_option maxRecDepth 100000 in
theorem c_X10_take (l : Launch) (dC : Nat → ClassId) (dI : Nat → Nat → Nat) (a_y : Nat) (a_y_list : Nat) (a_y_others : Nat) (a_y_costs : Nat) (a_y_table : Nat) (a_y_basis : Nat) (a_y_isSeen : Nat) (a_y_colour : Nat) (a_y_rest : Nat) (a_y_makes : Nat) (a_y_worst : Nat) (c_y_list c_y_others : ClassId) (sz : Nat) (y_n : Int32) (y_sets : Int32) (y_otherMany : Int32) (y_above : Int64) (y_below : Int64) (y_by : Int64) (y_list : Nat → Int32) (y_others : Nat → Int32) (rv : Int32 × Int32 × (Nat → Int32)) (hs : pX10_take y_n y_sets y_otherMany y_list y_others = some rv) : Met l yX10_take wsX10_take ({ frames := 3, cells := 0, slots := 0, locals := 68 }) (sPc [.ref a_y] (dC, dI) [(c_y_list, .int), (c_y_others, .int)] [(a_y, .inr (10, [.int y_n, .ref a_y_list, .int y_sets, .ref a_y_others, .int y_otherMany, .ref a_y_costs, .long y_above, .long y_below, .ref a_y_table, .long y_by, .ref a_y_basis, .ref a_y_isSeen, .ref a_y_colour, .ref a_y_rest, .ref a_y_makes, .ref a_y_worst])), (a_y_list, .inl (c_y_list, 16, .inl y_list)), (a_y_others, .inl (c_y_others, 40, .inl y_others))] sz) (va_Qi (fun (r : Int32) (_ : Unit) => r = rv.1) (sB (dC, dI) [(c_y_list, .int), (c_y_others, .int)] (va_A [(a_y, .inr (10, [.int y_n, .ref a_y_list, .int y_sets, .ref a_y_others, .int y_otherMany, .ref a_y_costs, .long y_above, .long y_below, .ref a_y_table, .long y_by, .ref a_y_basis, .ref a_y_isSeen, .ref a_y_colour, .ref a_y_rest, .ref a_y_makes, .ref a_y_worst])), (a_y_list, .inl (c_y_list, 16, .inl y_list)), (a_y_others, .inl (c_y_others, 40, .inl y_others))] sz) [(a_y, .inr (10, [.int y_n, .ref a_y_list, .int y_sets, .ref a_y_others, .int rv.2.1, .ref a_y_costs, .long y_above, .long y_below, .ref a_y_table, .long y_by, .ref a_y_basis, .ref a_y_isSeen, .ref a_y_colour, .ref a_y_rest, .ref a_y_makes, .ref a_y_worst])), (a_y_list, .inl (c_y_list, 16, .inl y_list)), (a_y_others, .inl (c_y_others, 40, .inl rv.2.2))]) (va_A [(a_y, .inr (10, [.int y_n, .ref a_y_list, .int y_sets, .ref a_y_others, .int y_otherMany, .ref a_y_costs, .long y_above, .long y_below, .ref a_y_table, .long y_by, .ref a_y_basis, .ref a_y_isSeen, .ref a_y_colour, .ref a_y_rest, .ref a_y_makes, .ref a_y_worst])), (a_y_list, .inl (c_y_list, 16, .inl y_list)), (a_y_others, .inl (c_y_others, 40, .inl y_others))] sz)) 0 0 (va_A [(a_y, .inr (10, [.int y_n, .ref a_y_list, .int y_sets, .ref a_y_others, .int y_otherMany, .ref a_y_costs, .long y_above, .long y_below, .ref a_y_table, .long y_by, .ref a_y_basis, .ref a_y_isSeen, .ref a_y_colour, .ref a_y_rest, .ref a_y_makes, .ref a_y_worst])), (a_y_list, .inl (c_y_list, 16, .inl y_list)), (a_y_others, .inl (c_y_others, 40, .inl y_others))] sz) := by
  refine Met.ofW (cc := cX10_take) (maxL := 2) (ret := (some .int)) (by decide) rfl ?_
  intro p e s m args below meth c s₁ B hml hv
  obtain ⟨rfl, hsz, hP, hK, hD0, hN⟩ := hv
  have hx := B.exec
  have hb := B.bytes
  have hr := B.returns
  have hts := atoms_spec (ws := wsX10_take) B.pre
  have hown : s.vm.findClass RX10 = some m.cls := findClass_of_methodNamed B.named
  have hlocks := B.notSynchronized
  subst hsz
  have hD := hD0.self (sz := s.heap.size)
  generalize hAe : va_A [(a_y, .inr (10, [.int y_n, .ref a_y_list, .int y_sets, .ref a_y_others, .int y_otherMany, .ref a_y_costs, .long y_above, .long y_below, .ref a_y_table, .long y_by, .ref a_y_basis, .ref a_y_isSeen, .ref a_y_colour, .ref a_y_rest, .ref a_y_makes, .ref a_y_worst])), (a_y_list, .inl (c_y_list, 16, .inl y_list)), (a_y_others, .inl (c_y_others, 40, .inl y_others))] s.heap.size = A at hD hN ⊢
  have hA : ∀ q : Nat, s.heap.size ≤ q → A q := fun q h => by rw [← hAe]; exact Or.inr h
  have hS : va_S A s.heap s.heap [] := va_S.rf
  have hP : va_P (dC, dI) vwCl [(a_y, .inr (10, [.int y_n, .ref a_y_list, .int y_sets, .ref a_y_others, .int y_otherMany, .ref a_y_costs, .long y_above, .long y_below, .ref a_y_table, .long y_by, .ref a_y_basis, .ref a_y_isSeen, .ref a_y_colour, .ref a_y_rest, .ref a_y_makes, .ref a_y_worst])), (a_y_list, .inl (c_y_list, 16, .inl y_list)), (a_y_others, .inl (c_y_others, 40, .inl y_others))] s.heap := hP
  have hl := lv_entry ([.ref a_y]) (n := 2) (Nat.le_of_ble_eq_true rfl)
  rw [lg_entry_eq]
  generalize (lg_sl ([.ref a_y]) ++ List.replicate (2 - (lg_sl ([.ref a_y])).length) Slot.unset).toArray = ls at hl ⊢
  have hl : lv_has ls 2 [(0, .ref a_y)] := hl
  have hiX10 : ∀ w ∈ wsX100, w ∈ wsX10_take := fun _ h => List.mem_cons_of_mem _ (List.mem_append_right _ h)
  have hf64 := hts (.fieldLink RX10 64 "MeetSetsModel" "otherMany" "I") (t1_ (al_ h1_))
  have hf13 := hts (.fieldLink RX10 13 "MeetSetsModel" "others" "[I") (t1_ (al_ (t1_ h1_)))
  refine w_abs (fun Z hZv hZw => ?_)
  refine hZv ?_
  obtain ⟨H, hH⟩ : ∃ H, H = s.heap := ⟨_, rfl⟩
  obtain ⟨locs, hlo⟩ : ∃ L : List Loc, L = [] := ⟨_, rfl⟩
  rw [← hlo, ← hH]
  have hS : va_S A s.heap H locs := by rw [hlo, hH]; exact hS
  have hP : va_P (dC, dI) vwCl [(a_y, .inr (10, [.int y_n, .ref a_y_list, .int y_sets, .ref a_y_others, .int y_otherMany, .ref a_y_costs, .long y_above, .long y_below, .ref a_y_table, .long y_by, .ref a_y_basis, .ref a_y_isSeen, .ref a_y_colour, .ref a_y_rest, .ref a_y_makes, .ref a_y_worst])), (a_y_list, .inl (c_y_list, 16, .inl y_list)), (a_y_others, .inl (c_y_others, 40, .inl y_others))] H := by rw [hH]; exact hP
  clear hH hlo
  unfold pX10_take at hs
  refine lv_aload_n hx hb dX10_take_0 rfl (lv_at hl 0 rfl) ?_
  obtain ⟨r1, hr1, hs⟩ := bd_s hs
  refine kc_i (isC := [0, 1]) (isR := [2]) (pm := [1, 2, 0]) (wr := [(a_y_others, .inl (c_y_others, 40, .inl y_others))]) (w1 := [(a_y, .inr (10, [.int y_n, .ref a_y_list, .int y_sets, .ref a_y_others, .int y_otherMany, .ref a_y_costs, .long y_above, .long y_below, .ref a_y_table, .long y_by, .ref a_y_basis, .ref a_y_isSeen, .ref a_y_colour, .ref a_y_rest, .ref a_y_makes, .ref a_y_worst])), (a_y_list, .inl (c_y_list, 16, .inl y_list))]) (w2 := [(a_y, .inr (10, [.int y_n, .ref a_y_list, .int y_sets, .ref a_y_others, .int y_otherMany, .ref a_y_costs, .long y_above, .long y_below, .ref a_y_table, .long y_by, .ref a_y_basis, .ref a_y_isSeen, .ref a_y_colour, .ref a_y_rest, .ref a_y_makes, .ref a_y_worst])), (a_y_list, .inl (c_y_list, 16, .inl y_list)), (a_y_others, .inl (c_y_others, 40, .inl y_others))]) (va_runV (As := []) (rest := []) ⟨hx, hb, hml, hown, hts⟩ (c_X10_many l dC dI a_y a_y_list a_y_others a_y_costs a_y_table a_y_basis a_y_isSeen a_y_colour a_y_rest a_y_makes a_y_worst c_y_list H.size y_n y_sets y_otherMany y_above y_below y_by y_list r1 hr1) (cwV 0 hts gX10_take_X10_many rfl rfl rfl (by decide +kernel) ⟨Nat.le_of_ble_eq_true rfl, Nat.le_of_ble_eq_true rfl⟩) (kp_V hK hP hD hS hA hN (isC := [0, 1]) (isT := [0]) (wc := [(a_y, .inr (10, [.int y_n, .ref a_y_list, .int y_sets, .ref a_y_others, .int y_otherMany, .ref a_y_costs, .long y_above, .long y_below, .ref a_y_table, .long y_by, .ref a_y_basis, .ref a_y_isSeen, .ref a_y_colour, .ref a_y_rest, .ref a_y_makes, .ref a_y_worst])), (a_y_list, .inl (c_y_list, 16, .inl y_list))]) rfl (by decide +kernel) rfl (ci := 10) (q0 := 0) rfl rfl) rfl rfl hl.1 rfl (lv_room (Nat.le_of_ble_eq_true rfl)) dX10_take_1 ⟨Nat.le_of_ble_eq_true rfl, Nat.le_of_ble_eq_true rfl⟩) hP hD hS hA rfl rfl (by decide +kernel) (by decide +kernel) rfl (by decide +kernel) (fun H locs hP hD hS => ?_)
  refine lv_bipush (v := 40) hx hb dX10_take_4 (by decide) ?_
  refine lv_icmp_le (tgt := 12) hx hb dX10_take_6 (by decide) (fun hc => ?_) (fun hc => ?_)
  · replace hs := it_t hc hs
    refine lv_aload_n hx hb dX10_take_12 rfl (lv_at hl 0 rfl) ?_
    refine lv_iconst (v := 0) hx hb dX10_take_13 (by decide) ?_
    refine va_put (D := (dC, dI)) (ci := 10) (v := .int 0) (ty := .int) (C := RX10) (T := TX10) (N := 16) hx hb hts hiX10 tyX10 tyX10_ok nmX10 hown hK hP hD hS 0 rfl rfl 4 (by decide) hf64 (fun _ h9 => h9) rfl (by decide +kernel) rfl rfl (Nat.le_of_ble_eq_true rfl) dX10_take_14 (fun H locs hP hD hS => ?_)
    have hP : va_P (dC, dI) vwCl [(a_y, .inr (10, [.int y_n, .ref a_y_list, .int y_sets, .ref a_y_others, .int 0, .ref a_y_costs, .long y_above, .long y_below, .ref a_y_table, .long y_by, .ref a_y_basis, .ref a_y_isSeen, .ref a_y_colour, .ref a_y_rest, .ref a_y_makes, .ref a_y_worst])), (a_y_list, .inl (c_y_list, 16, .inl y_list)), (a_y_others, .inl (c_y_others, 40, .inl y_others))] H := hP
    have hD : va_D A [(a_y, .inr (10, [.int y_n, .ref a_y_list, .int y_sets, .ref a_y_others, .int 0, .ref a_y_costs, .long y_above, .long y_below, .ref a_y_table, .long y_by, .ref a_y_basis, .ref a_y_isSeen, .ref a_y_colour, .ref a_y_rest, .ref a_y_makes, .ref a_y_worst])), (a_y_list, .inl (c_y_list, 16, .inl y_list)), (a_y_others, .inl (c_y_others, 40, .inl y_others))] := hD
    refine lv_iconst (v := 0) hx hb dX10_take_17 (by decide) ?_
    refine lv_istore_n (lv' := [(1, .int 0), (0, .ref a_y)]) hx hb dX10_take_18 rfl hl (by decide) rfl (fun ls hl => ?_)
    obtain ⟨e19, he19, hs⟩ := bd_s hs
    have hX19 : ∀ (H : Heap) (locs : List Loc) (ls : Array Slot), va_P (dC, dI) vwCl [(a_y, .inr (10, [.int y_n, .ref a_y_list, .int y_sets, .ref a_y_others, .int e19.1, .ref a_y_costs, .long y_above, .long y_below, .ref a_y_table, .long y_by, .ref a_y_basis, .ref a_y_isSeen, .ref a_y_colour, .ref a_y_rest, .ref a_y_makes, .ref a_y_worst])), (a_y_list, .inl (c_y_list, 16, .inl y_list)), (a_y_others, .inl (c_y_others, 40, .inl e19.2))] H → va_D A [(a_y, .inr (10, [.int y_n, .ref a_y_list, .int y_sets, .ref a_y_others, .int e19.1, .ref a_y_costs, .long y_above, .long y_below, .ref a_y_table, .long y_by, .ref a_y_basis, .ref a_y_isSeen, .ref a_y_colour, .ref a_y_rest, .ref a_y_makes, .ref a_y_worst])), (a_y_list, .inl (c_y_list, 16, .inl y_list)), (a_y_others, .inl (c_y_others, 40, .inl e19.2))] → va_S A s.heap H locs → lv_has ls 2 [(0, .ref a_y)] → Z H locs 0 0 (F0 m 61 ls []) := by
      intro H locs ls hP hD hS hl
      refine hZv ?_
      refine lv_aload_n hx hb dX10_take_61 rfl (lv_at hl 0 rfl) ?_
      refine va_get (D := (dC, dI)) (ci := 10) (v := .int e19.1) (C := RX10) (T := TX10) (N := 16) hx hb hts hiX10 hown hK hP 0 rfl rfl 4 (by decide) hf64 (fun _ h9 => h9) rfl dX10_take_62 ?_
      replace hs := Option.some.inj hs
      subst hs
      exact W.iret (v := e19.1) hx hb hr (fun t ht hW => ⟨⟨e19.1, (), rfl, rfl, by rw [ht]; exact hP, va_K.moved hW.alike hK, hD⟩, hS.F ht⟩) hS.2.2 dX10_take_65
    clear hs
    have hL19 : ∀ (n : Nat) (s19 : Int32 × Int32 × (Nat → Int32)) (H : Heap) (locs : List Loc) (ls : Array Slot), itr (pX10_take_L19 y_n y_sets y_list) n s19 = some e19 → va_P (dC, dI) vwCl [(a_y, .inr (10, [.int y_n, .ref a_y_list, .int y_sets, .ref a_y_others, .int s19.2.1, .ref a_y_costs, .long y_above, .long y_below, .ref a_y_table, .long y_by, .ref a_y_basis, .ref a_y_isSeen, .ref a_y_colour, .ref a_y_rest, .ref a_y_makes, .ref a_y_worst])), (a_y_list, .inl (c_y_list, 16, .inl y_list)), (a_y_others, .inl (c_y_others, 40, .inl s19.2.2))] H → va_D A [(a_y, .inr (10, [.int y_n, .ref a_y_list, .int y_sets, .ref a_y_others, .int s19.2.1, .ref a_y_costs, .long y_above, .long y_below, .ref a_y_table, .long y_by, .ref a_y_basis, .ref a_y_isSeen, .ref a_y_colour, .ref a_y_rest, .ref a_y_makes, .ref a_y_worst])), (a_y_list, .inl (c_y_list, 16, .inl y_list)), (a_y_others, .inl (c_y_others, 40, .inl s19.2.2))] → va_S A s.heap H locs → lv_has ls 2 [(0, .ref a_y), (1, .int s19.1)] → Z H locs 0 0 (F0 m 19 ls []) := by
      intro n
      induction n with
      | zero =>
        intro s19 H locs ls hn
        exact (itr_0 hn).elim
      | succ n ih =>
        intro s19 H locs ls hn hP hD hS hl
        obtain ⟨y2, hs, hn⟩ := itr_s hn
        unfold pX10_take_L19 at hs
        refine hZv ?_
        refine lv_iload_n hx hb dX10_take_19 rfl (lv_at hl 1 rfl) ?_
        refine lv_aload_n hx hb dX10_take_20 rfl (lv_at hl 0 rfl) ?_
        obtain ⟨r3, hr3, hs⟩ := bd_s hs
        refine kc_i (isC := [0]) (isR := [1, 2]) (pm := [2, 0, 1]) (wr := [(a_y_list, .inl (c_y_list, 16, .inl y_list)), (a_y_others, .inl (c_y_others, 40, .inl s19.2.2))]) (w1 := [(a_y, .inr (10, [.int y_n, .ref a_y_list, .int y_sets, .ref a_y_others, .int s19.2.1, .ref a_y_costs, .long y_above, .long y_below, .ref a_y_table, .long y_by, .ref a_y_basis, .ref a_y_isSeen, .ref a_y_colour, .ref a_y_rest, .ref a_y_makes, .ref a_y_worst]))]) (w2 := [(a_y, .inr (10, [.int y_n, .ref a_y_list, .int y_sets, .ref a_y_others, .int s19.2.1, .ref a_y_costs, .long y_above, .long y_below, .ref a_y_table, .long y_by, .ref a_y_basis, .ref a_y_isSeen, .ref a_y_colour, .ref a_y_rest, .ref a_y_makes, .ref a_y_worst])), (a_y_list, .inl (c_y_list, 16, .inl y_list)), (a_y_others, .inl (c_y_others, 40, .inl s19.2.2))]) (va_runV (As := []) (rest := [.int s19.1]) ⟨hx, hb, hml, hown, hts⟩ (c_X10_all l dC dI a_y a_y_list a_y_others a_y_costs a_y_table a_y_basis a_y_isSeen a_y_colour a_y_rest a_y_makes a_y_worst H.size y_n y_sets s19.2.1 y_above y_below y_by r3 hr3) (cwV 0 hts gX10_take_X10_all rfl rfl rfl (by decide +kernel) ⟨Nat.le_of_ble_eq_true rfl, Nat.le_of_ble_eq_true rfl⟩) (kp_V hK hP hD hS hA hN (isC := [0]) (isT := []) (wc := [(a_y, .inr (10, [.int y_n, .ref a_y_list, .int y_sets, .ref a_y_others, .int s19.2.1, .ref a_y_costs, .long y_above, .long y_below, .ref a_y_table, .long y_by, .ref a_y_basis, .ref a_y_isSeen, .ref a_y_colour, .ref a_y_rest, .ref a_y_makes, .ref a_y_worst]))]) rfl (by decide +kernel) rfl (ci := 10) (q0 := 0) rfl rfl) rfl rfl hl.1 rfl (lv_room (Nat.le_of_ble_eq_true rfl)) dX10_take_21 ⟨Nat.le_of_ble_eq_true rfl, Nat.le_of_ble_eq_true rfl⟩) hP hD hS hA rfl rfl (by decide +kernel) (by decide +kernel) rfl (by decide +kernel) (fun H locs hP hD hS => ?_)
        refine lv_icmp_gt (tgt := 61) hx hb dX10_take_24 (by decide) (fun hc => ?_) (fun hc => ?_)
        · replace hs := it_t hc hs
          replace hs := Option.some.inj hs
          subst hs
          obtain rfl : (s19.2.1, s19.2.2) = e19 := hn
          exact hZw (hX19 H locs ls hP hD hS (lv_sub hl [0] rfl))
        · replace hs := it_f hc hs
          refine lv_aload_n hx hb dX10_take_27 rfl (lv_at hl 0 rfl) ?_
          refine lv_iload_n hx hb dX10_take_28 rfl (lv_at hl 1 rfl) ?_
          obtain ⟨r4, hr4, hs⟩ := bd_s hs
          refine kc_i (isC := [0, 1]) (isR := [2]) (pm := [1, 2, 0]) (wr := [(a_y_others, .inl (c_y_others, 40, .inl s19.2.2))]) (w1 := [(a_y, .inr (10, [.int y_n, .ref a_y_list, .int y_sets, .ref a_y_others, .int s19.2.1, .ref a_y_costs, .long y_above, .long y_below, .ref a_y_table, .long y_by, .ref a_y_basis, .ref a_y_isSeen, .ref a_y_colour, .ref a_y_rest, .ref a_y_makes, .ref a_y_worst])), (a_y_list, .inl (c_y_list, 16, .inl y_list))]) (w2 := [(a_y, .inr (10, [.int y_n, .ref a_y_list, .int y_sets, .ref a_y_others, .int s19.2.1, .ref a_y_costs, .long y_above, .long y_below, .ref a_y_table, .long y_by, .ref a_y_basis, .ref a_y_isSeen, .ref a_y_colour, .ref a_y_rest, .ref a_y_makes, .ref a_y_worst])), (a_y_list, .inl (c_y_list, 16, .inl y_list)), (a_y_others, .inl (c_y_others, 40, .inl s19.2.2))]) (va_runV (As := [.int s19.1]) (rest := []) ⟨hx, hb, hml, hown, hts⟩ (c_X10_isLeast l dC dI a_y a_y_list a_y_others a_y_costs a_y_table a_y_basis a_y_isSeen a_y_colour a_y_rest a_y_makes a_y_worst c_y_list H.size y_n y_sets s19.2.1 y_above y_below y_by y_list s19.1 r4 hr4) (cwV 1 hts gX10_take_X10_isLeast rfl rfl rfl (by decide +kernel) ⟨Nat.le_of_ble_eq_true rfl, Nat.le_of_ble_eq_true rfl⟩) (kp_V hK hP hD hS hA hN (isC := [0, 1]) (isT := [0]) (wc := [(a_y, .inr (10, [.int y_n, .ref a_y_list, .int y_sets, .ref a_y_others, .int s19.2.1, .ref a_y_costs, .long y_above, .long y_below, .ref a_y_table, .long y_by, .ref a_y_basis, .ref a_y_isSeen, .ref a_y_colour, .ref a_y_rest, .ref a_y_makes, .ref a_y_worst])), (a_y_list, .inl (c_y_list, 16, .inl y_list))]) rfl (by decide +kernel) rfl (ci := 10) (q0 := 0) rfl rfl) rfl rfl hl.1 rfl (lv_room (Nat.le_of_ble_eq_true rfl)) dX10_take_29 ⟨Nat.le_of_ble_eq_true rfl, Nat.le_of_ble_eq_true rfl⟩) hP hD hS hA rfl rfl (by decide +kernel) (by decide +kernel) rfl (by decide +kernel) (fun H locs hP hD hS => ?_)
          refine lv_if_eq (tgt := 55) hx hb dX10_take_32 (by decide) (fun hc => ?_) (fun hc => ?_)
          · replace hs := it_t hc hs
            refine lv_iinc (v := s19.1 + 1) (lv' := [(1, .int (s19.1 + 1)), (0, .ref a_y)]) hx hb dX10_take_55 hl (k := 1) rfl (by rfl) (by decide) rfl (fun ls hl => ?_)
            refine lv_goto (tgt := 19) hx hb dX10_take_58 (by decide) ?_
            replace hs := Option.some.inj hs
            subst hs
            exact hZw (ih (s19.1 + 1, s19.2.1, s19.2.2) H locs ls hn hP hD hS (lv_sub hl [1, 0] rfl))
          · replace hs := it_f hc hs
            refine lv_aload_n hx hb dX10_take_35 rfl (lv_at hl 0 rfl) ?_
            refine va_get (D := (dC, dI)) (ci := 10) (v := .ref a_y_others) (C := RX10) (T := TX10) (N := 16) hx hb hts hiX10 hown hK hP 0 rfl rfl 3 (by decide) hf13 (fun _ h9 => h9) rfl dX10_take_36 ?_
            refine lv_aload_n hx hb dX10_take_39 rfl (lv_at hl 0 rfl) ?_
            refine va_get (D := (dC, dI)) (ci := 10) (v := .int s19.2.1) (C := RX10) (T := TX10) (N := 16) hx hb hts hiX10 hown hK hP 0 rfl rfl 4 (by decide) hf64 (fun _ h9 => h9) rfl dX10_take_40 ?_
            refine lv_iload_n hx hb dX10_take_43 rfl (lv_at hl 1 rfl) ?_
            obtain ⟨hg5, hs⟩ := gd_s hs
            refine va_iast hx hb hK hP hD hS 2 1 rfl rfl hg5 dX10_take_44 (fun H locs hP hD hS => ?_)
            have hP : va_P (dC, dI) vwCl [(a_y, .inr (10, [.int y_n, .ref a_y_list, .int y_sets, .ref a_y_others, .int s19.2.1, .ref a_y_costs, .long y_above, .long y_below, .ref a_y_table, .long y_by, .ref a_y_basis, .ref a_y_isSeen, .ref a_y_colour, .ref a_y_rest, .ref a_y_makes, .ref a_y_worst])), (a_y_list, .inl (c_y_list, 16, .inl y_list)), (a_y_others, .inl (c_y_others, 40, .inl (upd s19.2.2 s19.2.1.toNatClampNeg s19.1)))] H := hP
            have hD : va_D A [(a_y, .inr (10, [.int y_n, .ref a_y_list, .int y_sets, .ref a_y_others, .int s19.2.1, .ref a_y_costs, .long y_above, .long y_below, .ref a_y_table, .long y_by, .ref a_y_basis, .ref a_y_isSeen, .ref a_y_colour, .ref a_y_rest, .ref a_y_makes, .ref a_y_worst])), (a_y_list, .inl (c_y_list, 16, .inl y_list)), (a_y_others, .inl (c_y_others, 40, .inl (upd s19.2.2 s19.2.1.toNatClampNeg s19.1)))] := hD
            refine lv_aload_n hx hb dX10_take_45 rfl (lv_at hl 0 rfl) ?_
            refine lv_dup hx hb dX10_take_46 rfl ?_
            refine va_get (D := (dC, dI)) (ci := 10) (v := .int s19.2.1) (C := RX10) (T := TX10) (N := 16) hx hb hts hiX10 hown hK hP 0 rfl rfl 4 (by decide) hf64 (fun _ h9 => h9) rfl dX10_take_47 ?_
            refine lv_iconst (v := 1) hx hb dX10_take_50 (by decide) ?_
            refine lv_iadd hx hb dX10_take_51 ?_
            refine va_put (D := (dC, dI)) (ci := 10) (v := .int (s19.2.1 + 1)) (ty := .int) (C := RX10) (T := TX10) (N := 16) hx hb hts hiX10 tyX10 tyX10_ok nmX10 hown hK hP hD hS 0 rfl rfl 4 (by decide) hf64 (fun _ h9 => h9) rfl (by decide +kernel) rfl rfl (Nat.le_of_ble_eq_true rfl) dX10_take_52 (fun H locs hP hD hS => ?_)
            have hP : va_P (dC, dI) vwCl [(a_y, .inr (10, [.int y_n, .ref a_y_list, .int y_sets, .ref a_y_others, .int (s19.2.1 + 1), .ref a_y_costs, .long y_above, .long y_below, .ref a_y_table, .long y_by, .ref a_y_basis, .ref a_y_isSeen, .ref a_y_colour, .ref a_y_rest, .ref a_y_makes, .ref a_y_worst])), (a_y_list, .inl (c_y_list, 16, .inl y_list)), (a_y_others, .inl (c_y_others, 40, .inl (upd s19.2.2 s19.2.1.toNatClampNeg s19.1)))] H := hP
            have hD : va_D A [(a_y, .inr (10, [.int y_n, .ref a_y_list, .int y_sets, .ref a_y_others, .int (s19.2.1 + 1), .ref a_y_costs, .long y_above, .long y_below, .ref a_y_table, .long y_by, .ref a_y_basis, .ref a_y_isSeen, .ref a_y_colour, .ref a_y_rest, .ref a_y_makes, .ref a_y_worst])), (a_y_list, .inl (c_y_list, 16, .inl y_list)), (a_y_others, .inl (c_y_others, 40, .inl (upd s19.2.2 s19.2.1.toNatClampNeg s19.1)))] := hD
            refine lv_iinc (v := s19.1 + 1) (lv' := [(1, .int (s19.1 + 1)), (0, .ref a_y)]) hx hb dX10_take_55 hl (k := 1) rfl (by rfl) (by decide) rfl (fun ls hl => ?_)
            refine lv_goto (tgt := 19) hx hb dX10_take_58 (by decide) ?_
            replace hs := Option.some.inj hs
            subst hs
            exact hZw (ih (s19.1 + 1, s19.2.1 + 1, upd s19.2.2 s19.2.1.toNatClampNeg s19.1) H locs ls hn hP hD hS (lv_sub hl [1, 0] rfl))
    obtain ⟨n19, hn19⟩ := lp_ex he19
    exact hZw (hL19 n19 (0, 0, y_others) H locs ls hn19 hP hD hS (lv_sub hl [1, 0] rfl))
  · replace hs := it_f hc hs
    refine lv_bipush (v := (-3)) hx hb dX10_take_9 (by decide) ?_
    replace hs := Option.some.inj hs
    subst hs
    exact W.iret (v := (-3)) hx hb hr (fun t ht hW => ⟨⟨(-3), (), rfl, rfl, by rw [ht]; exact hP, va_K.moved hW.alike hK, hD⟩, hS.F ht⟩) hS.2.2 dX10_take_11
noncomputable def pX10_witness_J39_5 (s14 : Int32 × Int32) (t39 : Unit) : Option ((Int32 × Int32) ⊕ (Int32)) :=
  some (Sum.inl (1, s14.2 + 1))
noncomputable def pX10_witness_L14_3 (y_sets : Int32) (y_list : Nat → Int32) (s2 : Int32) (s14 : Int32 × Int32) : Option ((Int32 × Int32) ⊕ (Int32)) :=
  if y_sets ≤ s14.2 then (some (Sum.inr s14.1)) else (if s14.1 = 0 then (gd (vp_in s14.2 16) (if ((y_list s14.2.toNatClampNeg) &&& (s2 ^^^ (-1))) = 0 then (pX10_witness_J39_5 s14 ()) else (some (Sum.inl (0, s14.2 + 1))))) else (pX10_witness_J39_5 s14 ()))
noncomputable def pX10_witness_J81_9 (s56 : Int32 × Int32) (t81 : Unit) : Option ((Int32 × Int32) ⊕ (Int32)) :=
  some (Sum.inl (1, s56.2 + 1))
noncomputable def pX10_witness_L56_7 (y_otherMany : Int32) (y_others : Nat → Int32) (s2 : Int32) (s56 : Int32 × Int32) : Option ((Int32 × Int32) ⊕ (Int32)) :=
  if y_otherMany ≤ s56.2 then (some (Sum.inr s56.1)) else (if s56.1 = 0 then (gd (vp_in s56.2 40) (if ((y_others s56.2.toNatClampNeg) &&& s2) = 0 then (pX10_witness_J81_9 s56 ()) else (some (Sum.inl (0, s56.2 + 1))))) else (pX10_witness_J81_9 s56 ()))
noncomputable def pX10_witness_L2 (y_n : Int32) (y_sets : Int32) (y_otherMany : Int32) (y_list : Nat → Int32) (y_others : Nat → Int32) (s2 : Int32) : Option ((Int32) ⊕ ((Int32) ⊕ (Unit))) :=
  Option.bind (pX10_all y_n) (fun r2 => if r2 < s2 then (some (Sum.inr (Sum.inr ()))) else (Option.bind (lp (pX10_witness_L14_3 y_sets y_list s2) (0, 0)) (fun e14 => Option.bind (lp (pX10_witness_L56_7 y_otherMany y_others s2) (0, 0)) (fun e56 => if e14 = e56 then (some (Sum.inr (Sum.inl s2))) else (some (Sum.inl (s2 + 1)))))))
noncomputable def pX10_witness (y_n : Int32) (y_sets : Int32) (y_otherMany : Int32) (y_list : Nat → Int32) (y_others : Nat → Int32) : Option (Int32) :=
  Option.bind (lp (pX10_witness_L2 y_n y_sets y_otherMany y_list y_others) 0) (Sum.elim (fun e2_0 => some e2_0) (fun e2_1 => some (-1)))
set_option maxHeartbeats 4000000 in
set_option maxRecDepth 100000 in
theorem c_X10_witness (l : Launch) (dC : Nat → ClassId) (dI : Nat → Nat → Nat) (a_y : Nat) (a_y_list : Nat) (a_y_others : Nat) (a_y_costs : Nat) (a_y_table : Nat) (a_y_basis : Nat) (a_y_isSeen : Nat) (a_y_colour : Nat) (a_y_rest : Nat) (a_y_makes : Nat) (a_y_worst : Nat) (c_y_list c_y_others : ClassId) (sz : Nat) (y_n : Int32) (y_sets : Int32) (y_otherMany : Int32) (y_above : Int64) (y_below : Int64) (y_by : Int64) (y_list : Nat → Int32) (y_others : Nat → Int32) (rv : Int32) (hs : pX10_witness y_n y_sets y_otherMany y_list y_others = some rv) : Met l yX10_witness wsX10_witness ({ frames := 1, cells := 0, slots := 0, locals := 20 }) (sPc [.ref a_y] (dC, dI) [(c_y_list, .int), (c_y_others, .int)] [(a_y, .inr (10, [.int y_n, .ref a_y_list, .int y_sets, .ref a_y_others, .int y_otherMany, .ref a_y_costs, .long y_above, .long y_below, .ref a_y_table, .long y_by, .ref a_y_basis, .ref a_y_isSeen, .ref a_y_colour, .ref a_y_rest, .ref a_y_makes, .ref a_y_worst])), (a_y_list, .inl (c_y_list, 16, .inl y_list)), (a_y_others, .inl (c_y_others, 40, .inl y_others))] sz) (va_Qi (fun (r : Int32) (_ : Unit) => r = rv) (sB (dC, dI) [(c_y_list, .int), (c_y_others, .int)] (va_A [(a_y, .inr (10, [.int y_n, .ref a_y_list, .int y_sets, .ref a_y_others, .int y_otherMany, .ref a_y_costs, .long y_above, .long y_below, .ref a_y_table, .long y_by, .ref a_y_basis, .ref a_y_isSeen, .ref a_y_colour, .ref a_y_rest, .ref a_y_makes, .ref a_y_worst])), (a_y_list, .inl (c_y_list, 16, .inl y_list)), (a_y_others, .inl (c_y_others, 40, .inl y_others))] sz) [(a_y, .inr (10, [.int y_n, .ref a_y_list, .int y_sets, .ref a_y_others, .int y_otherMany, .ref a_y_costs, .long y_above, .long y_below, .ref a_y_table, .long y_by, .ref a_y_basis, .ref a_y_isSeen, .ref a_y_colour, .ref a_y_rest, .ref a_y_makes, .ref a_y_worst])), (a_y_list, .inl (c_y_list, 16, .inl y_list)), (a_y_others, .inl (c_y_others, 40, .inl y_others))]) (va_A [(a_y, .inr (10, [.int y_n, .ref a_y_list, .int y_sets, .ref a_y_others, .int y_otherMany, .ref a_y_costs, .long y_above, .long y_below, .ref a_y_table, .long y_by, .ref a_y_basis, .ref a_y_isSeen, .ref a_y_colour, .ref a_y_rest, .ref a_y_makes, .ref a_y_worst])), (a_y_list, .inl (c_y_list, 16, .inl y_list)), (a_y_others, .inl (c_y_others, 40, .inl y_others))] sz)) 0 0 (va_A [(a_y, .inr (10, [.int y_n, .ref a_y_list, .int y_sets, .ref a_y_others, .int y_otherMany, .ref a_y_costs, .long y_above, .long y_below, .ref a_y_table, .long y_by, .ref a_y_basis, .ref a_y_isSeen, .ref a_y_colour, .ref a_y_rest, .ref a_y_makes, .ref a_y_worst])), (a_y_list, .inl (c_y_list, 16, .inl y_list)), (a_y_others, .inl (c_y_others, 40, .inl y_others))] sz) := by
  refine Met.ofW (cc := cX10_witness) (maxL := 5) (ret := (some .int)) (by decide) rfl ?_
  intro p e s m args below meth c s₁ B hml hv
  obtain ⟨rfl, hsz, hP, hK, hD0, hN⟩ := hv
  have hx := B.exec
  have hb := B.bytes
  have hr := B.returns
  have hts := atoms_spec (ws := wsX10_witness) B.pre
  have hown : s.vm.findClass RX10 = some m.cls := findClass_of_methodNamed B.named
  have hlocks := B.notSynchronized
  subst hsz
  have hD := hD0.self (sz := s.heap.size)
  generalize hAe : va_A [(a_y, .inr (10, [.int y_n, .ref a_y_list, .int y_sets, .ref a_y_others, .int y_otherMany, .ref a_y_costs, .long y_above, .long y_below, .ref a_y_table, .long y_by, .ref a_y_basis, .ref a_y_isSeen, .ref a_y_colour, .ref a_y_rest, .ref a_y_makes, .ref a_y_worst])), (a_y_list, .inl (c_y_list, 16, .inl y_list)), (a_y_others, .inl (c_y_others, 40, .inl y_others))] s.heap.size = A at hD hN ⊢
  have hA : ∀ q : Nat, s.heap.size ≤ q → A q := fun q h => by rw [← hAe]; exact Or.inr h
  have hS : va_S A s.heap s.heap [] := va_S.rf
  have hP : va_P (dC, dI) vwCl [(a_y, .inr (10, [.int y_n, .ref a_y_list, .int y_sets, .ref a_y_others, .int y_otherMany, .ref a_y_costs, .long y_above, .long y_below, .ref a_y_table, .long y_by, .ref a_y_basis, .ref a_y_isSeen, .ref a_y_colour, .ref a_y_rest, .ref a_y_makes, .ref a_y_worst])), (a_y_list, .inl (c_y_list, 16, .inl y_list)), (a_y_others, .inl (c_y_others, 40, .inl y_others))] s.heap := hP
  have hl := lv_entry ([.ref a_y]) (n := 5) (Nat.le_of_ble_eq_true rfl)
  rw [lg_entry_eq]
  generalize (lg_sl ([.ref a_y]) ++ List.replicate (5 - (lg_sl ([.ref a_y])).length) Slot.unset).toArray = ls at hl ⊢
  have hl : lv_has ls 5 [(0, .ref a_y)] := hl
  have hiX10 : ∀ w ∈ wsX100, w ∈ wsX10_witness := fun _ h => List.mem_cons_of_mem _ (List.mem_append_right _ h)
  have hf61 := hts (.fieldLink RX10 61 "MeetSetsModel" "sets" "I") (t1_ (al_ h1_))
  have hf7 := hts (.fieldLink RX10 7 "MeetSetsModel" "list" "[I") (t1_ (al_ (t1_ h1_)))
  have hf64 := hts (.fieldLink RX10 64 "MeetSetsModel" "otherMany" "I") (t1_ (al_ (t1_ (t1_ h1_))))
  have hf13 := hts (.fieldLink RX10 13 "MeetSetsModel" "others" "[I") (t1_ (al_ (t1_ (t1_ (t1_ h1_)))))
  refine w_abs (fun Z hZv hZw => ?_)
  refine hZv ?_
  obtain ⟨H, hH⟩ : ∃ H, H = s.heap := ⟨_, rfl⟩
  obtain ⟨locs, hlo⟩ : ∃ L : List Loc, L = [] := ⟨_, rfl⟩
  rw [← hlo, ← hH]
  have hS : va_S A s.heap H locs := by rw [hlo, hH]; exact hS
  have hP : va_P (dC, dI) vwCl [(a_y, .inr (10, [.int y_n, .ref a_y_list, .int y_sets, .ref a_y_others, .int y_otherMany, .ref a_y_costs, .long y_above, .long y_below, .ref a_y_table, .long y_by, .ref a_y_basis, .ref a_y_isSeen, .ref a_y_colour, .ref a_y_rest, .ref a_y_makes, .ref a_y_worst])), (a_y_list, .inl (c_y_list, 16, .inl y_list)), (a_y_others, .inl (c_y_others, 40, .inl y_others))] H := by rw [hH]; exact hP
  clear hH hlo
  unfold pX10_witness at hs
  refine lv_iconst (v := 0) hx hb dX10_witness_0 (by decide) ?_
  refine lv_istore_n (lv' := [(1, .int 0), (0, .ref a_y)]) hx hb dX10_witness_1 rfl hl (by decide) rfl (fun ls hl => ?_)
  obtain ⟨e2, he2, hs⟩ := bd_s hs
  have hX2_0 : ∀ (e2_0 : Int32), (Sum.inl e2_0) = e2 → ∀ (H : Heap) (locs : List Loc) (ls : Array Slot), va_P (dC, dI) vwCl [(a_y, .inr (10, [.int y_n, .ref a_y_list, .int y_sets, .ref a_y_others, .int y_otherMany, .ref a_y_costs, .long y_above, .long y_below, .ref a_y_table, .long y_by, .ref a_y_basis, .ref a_y_isSeen, .ref a_y_colour, .ref a_y_rest, .ref a_y_makes, .ref a_y_worst])), (a_y_list, .inl (c_y_list, 16, .inl y_list)), (a_y_others, .inl (c_y_others, 40, .inl y_others))] H → va_D A [(a_y, .inr (10, [.int y_n, .ref a_y_list, .int y_sets, .ref a_y_others, .int y_otherMany, .ref a_y_costs, .long y_above, .long y_below, .ref a_y_table, .long y_by, .ref a_y_basis, .ref a_y_isSeen, .ref a_y_colour, .ref a_y_rest, .ref a_y_makes, .ref a_y_worst])), (a_y_list, .inl (c_y_list, 16, .inl y_list)), (a_y_others, .inl (c_y_others, 40, .inl y_others))] → va_S A s.heap H locs → lv_has ls 5 [(1, .int e2_0)] → Z H locs 0 0 (F0 m 98 ls []) := by
    intro e2_0 he H locs ls hP hD hS hl
    subst he
    replace hs := sm_l hs
    refine hZv ?_
    refine lv_iload_n hx hb dX10_witness_98 rfl (lv_at hl 0 rfl) ?_
    replace hs := Option.some.inj hs
    subst hs
    exact W.iret (v := e2_0) hx hb hr (fun t ht hW => ⟨⟨e2_0, (), rfl, rfl, by rw [ht]; exact hP, va_K.moved hW.alike hK, hD⟩, hS.F ht⟩) hS.2.2 dX10_witness_99
  have hX2_1 : ∀ (e2_1 : Unit), (Sum.inr e2_1) = e2 → ∀ (H : Heap) (locs : List Loc) (ls : Array Slot), va_P (dC, dI) vwCl [(a_y, .inr (10, [.int y_n, .ref a_y_list, .int y_sets, .ref a_y_others, .int y_otherMany, .ref a_y_costs, .long y_above, .long y_below, .ref a_y_table, .long y_by, .ref a_y_basis, .ref a_y_isSeen, .ref a_y_colour, .ref a_y_rest, .ref a_y_makes, .ref a_y_worst])), (a_y_list, .inl (c_y_list, 16, .inl y_list)), (a_y_others, .inl (c_y_others, 40, .inl y_others))] H → va_D A [(a_y, .inr (10, [.int y_n, .ref a_y_list, .int y_sets, .ref a_y_others, .int y_otherMany, .ref a_y_costs, .long y_above, .long y_below, .ref a_y_table, .long y_by, .ref a_y_basis, .ref a_y_isSeen, .ref a_y_colour, .ref a_y_rest, .ref a_y_makes, .ref a_y_worst])), (a_y_list, .inl (c_y_list, 16, .inl y_list)), (a_y_others, .inl (c_y_others, 40, .inl y_others))] → va_S A s.heap H locs → lv_has ls 5 [] → Z H locs 0 0 (F0 m 106 ls []) := by
    intro e2_1 he H locs ls hP hD hS hl
    subst he
    replace hs := sm_r hs
    refine hZv ?_
    refine lv_iconst (v := (-1)) hx hb dX10_witness_106 (by decide) ?_
    replace hs := Option.some.inj hs
    subst hs
    exact W.iret (v := (-1)) hx hb hr (fun t ht hW => ⟨⟨(-1), (), rfl, rfl, by rw [ht]; exact hP, va_K.moved hW.alike hK, hD⟩, hS.F ht⟩) hS.2.2 dX10_witness_107
  clear hs
  have hL2 : ∀ (n : Nat) (s2 : Int32) (H : Heap) (locs : List Loc) (ls : Array Slot), itr (pX10_witness_L2 y_n y_sets y_otherMany y_list y_others) n s2 = some e2 → va_P (dC, dI) vwCl [(a_y, .inr (10, [.int y_n, .ref a_y_list, .int y_sets, .ref a_y_others, .int y_otherMany, .ref a_y_costs, .long y_above, .long y_below, .ref a_y_table, .long y_by, .ref a_y_basis, .ref a_y_isSeen, .ref a_y_colour, .ref a_y_rest, .ref a_y_makes, .ref a_y_worst])), (a_y_list, .inl (c_y_list, 16, .inl y_list)), (a_y_others, .inl (c_y_others, 40, .inl y_others))] H → va_D A [(a_y, .inr (10, [.int y_n, .ref a_y_list, .int y_sets, .ref a_y_others, .int y_otherMany, .ref a_y_costs, .long y_above, .long y_below, .ref a_y_table, .long y_by, .ref a_y_basis, .ref a_y_isSeen, .ref a_y_colour, .ref a_y_rest, .ref a_y_makes, .ref a_y_worst])), (a_y_list, .inl (c_y_list, 16, .inl y_list)), (a_y_others, .inl (c_y_others, 40, .inl y_others))] → va_S A s.heap H locs → lv_has ls 5 [(0, .ref a_y), (1, .int s2)] → Z H locs 0 0 (F0 m 2 ls []) := by
    intro n
    induction n with
    | zero =>
      intro s2 H locs ls hn
      exact (itr_0 hn).elim
    | succ n ih =>
      intro s2 H locs ls hn hP hD hS hl
      obtain ⟨y1, hs, hn⟩ := itr_s hn
      unfold pX10_witness_L2 at hs
      refine hZv ?_
      refine lv_iload_n hx hb dX10_witness_2 rfl (lv_at hl 1 rfl) ?_
      refine lv_aload_n hx hb dX10_witness_3 rfl (lv_at hl 0 rfl) ?_
      obtain ⟨r2, hr2, hs⟩ := bd_s hs
      refine kc_i (isC := [0]) (isR := [1, 2]) (pm := [2, 0, 1]) (wr := [(a_y_list, .inl (c_y_list, 16, .inl y_list)), (a_y_others, .inl (c_y_others, 40, .inl y_others))]) (w1 := [(a_y, .inr (10, [.int y_n, .ref a_y_list, .int y_sets, .ref a_y_others, .int y_otherMany, .ref a_y_costs, .long y_above, .long y_below, .ref a_y_table, .long y_by, .ref a_y_basis, .ref a_y_isSeen, .ref a_y_colour, .ref a_y_rest, .ref a_y_makes, .ref a_y_worst]))]) (w2 := [(a_y, .inr (10, [.int y_n, .ref a_y_list, .int y_sets, .ref a_y_others, .int y_otherMany, .ref a_y_costs, .long y_above, .long y_below, .ref a_y_table, .long y_by, .ref a_y_basis, .ref a_y_isSeen, .ref a_y_colour, .ref a_y_rest, .ref a_y_makes, .ref a_y_worst])), (a_y_list, .inl (c_y_list, 16, .inl y_list)), (a_y_others, .inl (c_y_others, 40, .inl y_others))]) (va_runV (As := []) (rest := [.int s2]) ⟨hx, hb, hml, hown, hts⟩ (c_X10_all l dC dI a_y a_y_list a_y_others a_y_costs a_y_table a_y_basis a_y_isSeen a_y_colour a_y_rest a_y_makes a_y_worst H.size y_n y_sets y_otherMany y_above y_below y_by r2 hr2) (cwV 0 hts gX10_witness_X10_all rfl rfl rfl (by decide +kernel) ⟨Nat.le_of_ble_eq_true rfl, Nat.le_of_ble_eq_true rfl⟩) (kp_V hK hP hD hS hA hN (isC := [0]) (isT := []) (wc := [(a_y, .inr (10, [.int y_n, .ref a_y_list, .int y_sets, .ref a_y_others, .int y_otherMany, .ref a_y_costs, .long y_above, .long y_below, .ref a_y_table, .long y_by, .ref a_y_basis, .ref a_y_isSeen, .ref a_y_colour, .ref a_y_rest, .ref a_y_makes, .ref a_y_worst]))]) rfl (by decide +kernel) rfl (ci := 10) (q0 := 0) rfl rfl) rfl rfl hl.1 rfl (lv_room (Nat.le_of_ble_eq_true rfl)) dX10_witness_4 ⟨Nat.le_of_ble_eq_true rfl, Nat.le_of_ble_eq_true rfl⟩) hP hD hS hA rfl rfl (by decide +kernel) (by decide +kernel) rfl (by decide +kernel) (fun H locs hP hD hS => ?_)
      refine lv_icmp_gt (tgt := 106) hx hb dX10_witness_7 (by decide) (fun hc => ?_) (fun hc => ?_)
      · replace hs := it_t hc hs
        replace hs := Option.some.inj hs
        subst hs
        obtain rfl : (Sum.inr ()) = e2 := hn
        exact hZw (hX2_1 () rfl H locs ls hP hD hS (lv_sub hl [] rfl))
      · replace hs := it_f hc hs
        refine lv_iconst (v := 0) hx hb dX10_witness_10 (by decide) ?_
        refine lv_istore_n (lv' := [(2, .int 0), (0, .ref a_y), (1, .int s2)]) hx hb dX10_witness_11 rfl hl (by decide) rfl (fun ls hl => ?_)
        refine lv_iconst (v := 0) hx hb dX10_witness_12 (by decide) ?_
        refine lv_istore_n (lv' := [(3, .int 0), (2, .int 0), (0, .ref a_y), (1, .int s2)]) hx hb dX10_witness_13 rfl hl (by decide) rfl (fun ls hl => ?_)
        obtain ⟨e14, he14, hs⟩ := bd_s hs
        have hX14 : ∀ (H : Heap) (locs : List Loc) (ls : Array Slot), va_P (dC, dI) vwCl [(a_y, .inr (10, [.int y_n, .ref a_y_list, .int y_sets, .ref a_y_others, .int y_otherMany, .ref a_y_costs, .long y_above, .long y_below, .ref a_y_table, .long y_by, .ref a_y_basis, .ref a_y_isSeen, .ref a_y_colour, .ref a_y_rest, .ref a_y_makes, .ref a_y_worst])), (a_y_list, .inl (c_y_list, 16, .inl y_list)), (a_y_others, .inl (c_y_others, 40, .inl y_others))] H → va_D A [(a_y, .inr (10, [.int y_n, .ref a_y_list, .int y_sets, .ref a_y_others, .int y_otherMany, .ref a_y_costs, .long y_above, .long y_below, .ref a_y_table, .long y_by, .ref a_y_basis, .ref a_y_isSeen, .ref a_y_colour, .ref a_y_rest, .ref a_y_makes, .ref a_y_worst])), (a_y_list, .inl (c_y_list, 16, .inl y_list)), (a_y_others, .inl (c_y_others, 40, .inl y_others))] → va_S A s.heap H locs → lv_has ls 5 [(0, .ref a_y), (1, .int s2), (2, .int e14)] → Z H locs 0 0 (F0 m 51 ls []) := by
          intro H locs ls hP hD hS hl
          refine hZv ?_
          refine lv_iconst (v := 0) hx hb dX10_witness_51 (by decide) ?_
          refine lv_istore_n (lv' := [(3, .int 0), (0, .ref a_y), (1, .int s2), (2, .int e14)]) hx hb dX10_witness_52 rfl hl (by decide) rfl (fun ls hl => ?_)
          refine lv_iconst (v := 0) hx hb dX10_witness_53 (by decide) ?_
          refine lv_istore (lv' := [(4, .int 0), (3, .int 0), (0, .ref a_y), (1, .int s2), (2, .int e14)]) hx hb dX10_witness_54 hl (by decide) rfl (fun ls hl => ?_)
          obtain ⟨e56, he56, hs⟩ := bd_s hs
          have hX56 : ∀ (H : Heap) (locs : List Loc) (ls : Array Slot), va_P (dC, dI) vwCl [(a_y, .inr (10, [.int y_n, .ref a_y_list, .int y_sets, .ref a_y_others, .int y_otherMany, .ref a_y_costs, .long y_above, .long y_below, .ref a_y_table, .long y_by, .ref a_y_basis, .ref a_y_isSeen, .ref a_y_colour, .ref a_y_rest, .ref a_y_makes, .ref a_y_worst])), (a_y_list, .inl (c_y_list, 16, .inl y_list)), (a_y_others, .inl (c_y_others, 40, .inl y_others))] H → va_D A [(a_y, .inr (10, [.int y_n, .ref a_y_list, .int y_sets, .ref a_y_others, .int y_otherMany, .ref a_y_costs, .long y_above, .long y_below, .ref a_y_table, .long y_by, .ref a_y_basis, .ref a_y_isSeen, .ref a_y_colour, .ref a_y_rest, .ref a_y_makes, .ref a_y_worst])), (a_y_list, .inl (c_y_list, 16, .inl y_list)), (a_y_others, .inl (c_y_others, 40, .inl y_others))] → va_S A s.heap H locs → lv_has ls 5 [(0, .ref a_y), (1, .int s2), (2, .int e14), (3, .int e56)] → Z H locs 0 0 (F0 m 93 ls []) := by
            intro H locs ls hP hD hS hl
            refine hZv ?_
            refine lv_iload_n hx hb dX10_witness_93 rfl (lv_at hl 2 rfl) ?_
            refine lv_iload_n hx hb dX10_witness_94 rfl (lv_at hl 3 rfl) ?_
            refine lv_icmp_ne (tgt := 100) hx hb dX10_witness_95 (by decide) (fun hc => ?_) (fun hc => ?_)
            · replace hs := it_f hc hs
              refine lv_iinc (v := s2 + 1) (lv' := [(1, .int (s2 + 1)), (0, .ref a_y), (2, .int e14), (3, .int e56)]) hx hb dX10_witness_100 hl (k := 1) rfl (by rfl) (by decide) rfl (fun ls hl => ?_)
              refine lv_goto (tgt := 2) hx hb dX10_witness_103 (by decide) ?_
              replace hs := Option.some.inj hs
              subst hs
              exact hZw (ih (s2 + 1) H locs ls hn hP hD hS (lv_sub hl [1, 0] rfl))
            · replace hs := it_t hc hs
              replace hs := Option.some.inj hs
              subst hs
              obtain rfl : (Sum.inl s2) = e2 := hn
              exact hZw (hX2_0 s2 rfl H locs ls hP hD hS (lv_sub hl [1] rfl))
          clear hs
          have hL56 : ∀ (n : Nat) (s56 : Int32 × Int32) (H : Heap) (locs : List Loc) (ls : Array Slot), itr (pX10_witness_L56_7 y_otherMany y_others s2) n s56 = some e56 → va_P (dC, dI) vwCl [(a_y, .inr (10, [.int y_n, .ref a_y_list, .int y_sets, .ref a_y_others, .int y_otherMany, .ref a_y_costs, .long y_above, .long y_below, .ref a_y_table, .long y_by, .ref a_y_basis, .ref a_y_isSeen, .ref a_y_colour, .ref a_y_rest, .ref a_y_makes, .ref a_y_worst])), (a_y_list, .inl (c_y_list, 16, .inl y_list)), (a_y_others, .inl (c_y_others, 40, .inl y_others))] H → va_D A [(a_y, .inr (10, [.int y_n, .ref a_y_list, .int y_sets, .ref a_y_others, .int y_otherMany, .ref a_y_costs, .long y_above, .long y_below, .ref a_y_table, .long y_by, .ref a_y_basis, .ref a_y_isSeen, .ref a_y_colour, .ref a_y_rest, .ref a_y_makes, .ref a_y_worst])), (a_y_list, .inl (c_y_list, 16, .inl y_list)), (a_y_others, .inl (c_y_others, 40, .inl y_others))] → va_S A s.heap H locs → lv_has ls 5 [(0, .ref a_y), (1, .int s2), (2, .int e14), (3, .int s56.1), (4, .int s56.2)] → Z H locs 0 0 (F0 m 56 ls []) := by
            intro n
            induction n with
            | zero =>
              intro s56 H locs ls hn
              exact (itr_0 hn).elim
            | succ n ih =>
              intro s56 H locs ls hn hP hD hS hl
              obtain ⟨y8, hs, hn⟩ := itr_s hn
              unfold pX10_witness_L56_7 at hs
              refine hZv ?_
              refine lv_iload hx hb dX10_witness_56 (lv_at hl 4 rfl) ?_
              refine lv_aload_n hx hb dX10_witness_58 rfl (lv_at hl 0 rfl) ?_
              refine va_get (D := (dC, dI)) (ci := 10) (v := .int y_otherMany) (C := RX10) (T := TX10) (N := 16) hx hb hts hiX10 hown hK hP 0 rfl rfl 4 (by decide) hf64 (fun _ h9 => h9) rfl dX10_witness_59 ?_
              refine lv_icmp_ge (tgt := 93) hx hb dX10_witness_62 (by decide) (fun hc => ?_) (fun hc => ?_)
              · replace hs := it_t hc hs
                replace hs := Option.some.inj hs
                subst hs
                obtain rfl : s56.1 = e56 := hn
                exact hZw (hX56 H locs ls hP hD hS (lv_sub hl [0, 1, 2, 3] rfl))
              · replace hs := it_f hc hs
                refine lv_iload_n hx hb dX10_witness_65 rfl (lv_at hl 3 rfl) ?_
                have hJ81 : ∀ (t81 : Unit), pX10_witness_J81_9 s56 t81 = some y8 → ∀ (H : Heap) (locs : List Loc) (ls : Array Slot), va_P (dC, dI) vwCl [(a_y, .inr (10, [.int y_n, .ref a_y_list, .int y_sets, .ref a_y_others, .int y_otherMany, .ref a_y_costs, .long y_above, .long y_below, .ref a_y_table, .long y_by, .ref a_y_basis, .ref a_y_isSeen, .ref a_y_colour, .ref a_y_rest, .ref a_y_makes, .ref a_y_worst])), (a_y_list, .inl (c_y_list, 16, .inl y_list)), (a_y_others, .inl (c_y_others, 40, .inl y_others))] H → va_D A [(a_y, .inr (10, [.int y_n, .ref a_y_list, .int y_sets, .ref a_y_others, .int y_otherMany, .ref a_y_costs, .long y_above, .long y_below, .ref a_y_table, .long y_by, .ref a_y_basis, .ref a_y_isSeen, .ref a_y_colour, .ref a_y_rest, .ref a_y_makes, .ref a_y_worst])), (a_y_list, .inl (c_y_list, 16, .inl y_list)), (a_y_others, .inl (c_y_others, 40, .inl y_others))] → va_S A s.heap H locs → lv_has ls 5 [(0, .ref a_y), (1, .int s2), (2, .int e14), (4, .int s56.2)] → Z H locs 0 0 (F0 m 81 ls []) := by
                  intro t81 hs H locs ls hP hD hS hl
                  refine hZv ?_
                  unfold pX10_witness_J81_9 at hs
                  refine lv_iconst (v := 1) hx hb dX10_witness_81 (by decide) ?_
                  refine lv_goto (tgt := 86) hx hb dX10_witness_82 (by decide) ?_
                  refine lv_istore_n (lv' := [(3, .int 1), (0, .ref a_y), (1, .int s2), (2, .int e14), (4, .int s56.2)]) hx hb dX10_witness_86 rfl hl (by decide) rfl (fun ls hl => ?_)
                  refine lv_iinc (v := s56.2 + 1) (lv' := [(4, .int (s56.2 + 1)), (3, .int 1), (0, .ref a_y), (1, .int s2), (2, .int e14)]) hx hb dX10_witness_87 hl (k := 4) rfl (by rfl) (by decide) rfl (fun ls hl => ?_)
                  refine lv_goto (tgt := 56) hx hb dX10_witness_90 (by decide) ?_
                  replace hs := Option.some.inj hs
                  subst hs
                  exact hZw (ih (1, s56.2 + 1) H locs ls hn hP hD hS (lv_sub hl [2, 3, 4, 1, 0] rfl))
                refine lv_if_ne (tgt := 81) hx hb dX10_witness_66 (by decide) (fun hc => ?_) (fun hc => ?_)
                · replace hs := it_f hc hs
                  exact hZw (hJ81 () hs H locs ls hP hD hS (lv_sub hl [0, 1, 2, 4] rfl))
                · replace hs := it_t hc hs
                  refine lv_aload_n hx hb dX10_witness_69 rfl (lv_at hl 0 rfl) ?_
                  refine va_get (D := (dC, dI)) (ci := 10) (v := .ref a_y_others) (C := RX10) (T := TX10) (N := 16) hx hb hts hiX10 hown hK hP 0 rfl rfl 3 (by decide) hf13 (fun _ h9 => h9) rfl dX10_witness_70 ?_
                  refine lv_iload hx hb dX10_witness_73 (lv_at hl 4 rfl) ?_
                  obtain ⟨hg10, hs⟩ := gd_s hs
                  refine va_iald hx hb hK hP 2 1 rfl rfl hg10 dX10_witness_75 ?_
                  refine lv_iload_n hx hb dX10_witness_76 rfl (lv_at hl 1 rfl) ?_
                  refine lv_iand hx hb dX10_witness_77 ?_
                  refine lv_if_ne (tgt := 85) hx hb dX10_witness_78 (by decide) (fun hc => ?_) (fun hc => ?_)
                  · replace hs := it_f hc hs
                    refine lv_iconst (v := 0) hx hb dX10_witness_85 (by decide) ?_
                    refine lv_istore_n (lv' := [(3, .int 0), (0, .ref a_y), (1, .int s2), (2, .int e14), (4, .int s56.2)]) hx hb dX10_witness_86 rfl hl (by decide) rfl (fun ls hl => ?_)
                    refine lv_iinc (v := s56.2 + 1) (lv' := [(4, .int (s56.2 + 1)), (3, .int 0), (0, .ref a_y), (1, .int s2), (2, .int e14)]) hx hb dX10_witness_87 hl (k := 4) rfl (by rfl) (by decide) rfl (fun ls hl => ?_)
                    refine lv_goto (tgt := 56) hx hb dX10_witness_90 (by decide) ?_
                    replace hs := Option.some.inj hs
                    subst hs
                    exact hZw (ih (0, s56.2 + 1) H locs ls hn hP hD hS (lv_sub hl [2, 3, 4, 1, 0] rfl))
                  · replace hs := it_t hc hs
                    exact hZw (hJ81 () hs H locs ls hP hD hS (lv_sub hl [0, 1, 2, 4] rfl))
          obtain ⟨n56, hn56⟩ := lp_ex he56
          exact hZw (hL56 n56 (0, 0) H locs ls hn56 hP hD hS (lv_sub hl [2, 3, 4, 1, 0] rfl))
        clear hs
        have hL14 : ∀ (n : Nat) (s14 : Int32 × Int32) (H : Heap) (locs : List Loc) (ls : Array Slot), itr (pX10_witness_L14_3 y_sets y_list s2) n s14 = some e14 → va_P (dC, dI) vwCl [(a_y, .inr (10, [.int y_n, .ref a_y_list, .int y_sets, .ref a_y_others, .int y_otherMany, .ref a_y_costs, .long y_above, .long y_below, .ref a_y_table, .long y_by, .ref a_y_basis, .ref a_y_isSeen, .ref a_y_colour, .ref a_y_rest, .ref a_y_makes, .ref a_y_worst])), (a_y_list, .inl (c_y_list, 16, .inl y_list)), (a_y_others, .inl (c_y_others, 40, .inl y_others))] H → va_D A [(a_y, .inr (10, [.int y_n, .ref a_y_list, .int y_sets, .ref a_y_others, .int y_otherMany, .ref a_y_costs, .long y_above, .long y_below, .ref a_y_table, .long y_by, .ref a_y_basis, .ref a_y_isSeen, .ref a_y_colour, .ref a_y_rest, .ref a_y_makes, .ref a_y_worst])), (a_y_list, .inl (c_y_list, 16, .inl y_list)), (a_y_others, .inl (c_y_others, 40, .inl y_others))] → va_S A s.heap H locs → lv_has ls 5 [(0, .ref a_y), (1, .int s2), (2, .int s14.1), (3, .int s14.2)] → Z H locs 0 0 (F0 m 14 ls []) := by
          intro n
          induction n with
          | zero =>
            intro s14 H locs ls hn
            exact (itr_0 hn).elim
          | succ n ih =>
            intro s14 H locs ls hn hP hD hS hl
            obtain ⟨y4, hs, hn⟩ := itr_s hn
            unfold pX10_witness_L14_3 at hs
            refine hZv ?_
            refine lv_iload_n hx hb dX10_witness_14 rfl (lv_at hl 3 rfl) ?_
            refine lv_aload_n hx hb dX10_witness_15 rfl (lv_at hl 0 rfl) ?_
            refine va_get (D := (dC, dI)) (ci := 10) (v := .int y_sets) (C := RX10) (T := TX10) (N := 16) hx hb hts hiX10 hown hK hP 0 rfl rfl 2 (by decide) hf61 (fun _ h9 => h9) rfl dX10_witness_16 ?_
            refine lv_icmp_ge (tgt := 51) hx hb dX10_witness_19 (by decide) (fun hc => ?_) (fun hc => ?_)
            · replace hs := it_t hc hs
              replace hs := Option.some.inj hs
              subst hs
              obtain rfl : s14.1 = e14 := hn
              exact hZw (hX14 H locs ls hP hD hS (lv_sub hl [0, 1, 2] rfl))
            · replace hs := it_f hc hs
              refine lv_iload_n hx hb dX10_witness_22 rfl (lv_at hl 2 rfl) ?_
              have hJ39 : ∀ (t39 : Unit), pX10_witness_J39_5 s14 t39 = some y4 → ∀ (H : Heap) (locs : List Loc) (ls : Array Slot), va_P (dC, dI) vwCl [(a_y, .inr (10, [.int y_n, .ref a_y_list, .int y_sets, .ref a_y_others, .int y_otherMany, .ref a_y_costs, .long y_above, .long y_below, .ref a_y_table, .long y_by, .ref a_y_basis, .ref a_y_isSeen, .ref a_y_colour, .ref a_y_rest, .ref a_y_makes, .ref a_y_worst])), (a_y_list, .inl (c_y_list, 16, .inl y_list)), (a_y_others, .inl (c_y_others, 40, .inl y_others))] H → va_D A [(a_y, .inr (10, [.int y_n, .ref a_y_list, .int y_sets, .ref a_y_others, .int y_otherMany, .ref a_y_costs, .long y_above, .long y_below, .ref a_y_table, .long y_by, .ref a_y_basis, .ref a_y_isSeen, .ref a_y_colour, .ref a_y_rest, .ref a_y_makes, .ref a_y_worst])), (a_y_list, .inl (c_y_list, 16, .inl y_list)), (a_y_others, .inl (c_y_others, 40, .inl y_others))] → va_S A s.heap H locs → lv_has ls 5 [(0, .ref a_y), (1, .int s2), (3, .int s14.2)] → Z H locs 0 0 (F0 m 39 ls []) := by
                intro t39 hs H locs ls hP hD hS hl
                refine hZv ?_
                unfold pX10_witness_J39_5 at hs
                refine lv_iconst (v := 1) hx hb dX10_witness_39 (by decide) ?_
                refine lv_goto (tgt := 44) hx hb dX10_witness_40 (by decide) ?_
                refine lv_istore_n (lv' := [(2, .int 1), (0, .ref a_y), (1, .int s2), (3, .int s14.2)]) hx hb dX10_witness_44 rfl hl (by decide) rfl (fun ls hl => ?_)
                refine lv_iinc (v := s14.2 + 1) (lv' := [(3, .int (s14.2 + 1)), (2, .int 1), (0, .ref a_y), (1, .int s2)]) hx hb dX10_witness_45 hl (k := 3) rfl (by rfl) (by decide) rfl (fun ls hl => ?_)
                refine lv_goto (tgt := 14) hx hb dX10_witness_48 (by decide) ?_
                replace hs := Option.some.inj hs
                subst hs
                exact hZw (ih (1, s14.2 + 1) H locs ls hn hP hD hS (lv_sub hl [2, 3, 1, 0] rfl))
              refine lv_if_ne (tgt := 39) hx hb dX10_witness_23 (by decide) (fun hc => ?_) (fun hc => ?_)
              · replace hs := it_f hc hs
                exact hZw (hJ39 () hs H locs ls hP hD hS (lv_sub hl [0, 1, 3] rfl))
              · replace hs := it_t hc hs
                refine lv_aload_n hx hb dX10_witness_26 rfl (lv_at hl 0 rfl) ?_
                refine va_get (D := (dC, dI)) (ci := 10) (v := .ref a_y_list) (C := RX10) (T := TX10) (N := 16) hx hb hts hiX10 hown hK hP 0 rfl rfl 1 (by decide) hf7 (fun _ h9 => h9) rfl dX10_witness_27 ?_
                refine lv_iload_n hx hb dX10_witness_30 rfl (lv_at hl 3 rfl) ?_
                obtain ⟨hg6, hs⟩ := gd_s hs
                refine va_iald hx hb hK hP 1 0 rfl rfl hg6 dX10_witness_31 ?_
                refine lv_iload_n hx hb dX10_witness_32 rfl (lv_at hl 1 rfl) ?_
                refine lv_iconst (v := (-1)) hx hb dX10_witness_33 (by decide) ?_
                refine lv_ixor hx hb dX10_witness_34 ?_
                refine lv_iand hx hb dX10_witness_35 ?_
                refine lv_if_ne (tgt := 43) hx hb dX10_witness_36 (by decide) (fun hc => ?_) (fun hc => ?_)
                · replace hs := it_f hc hs
                  refine lv_iconst (v := 0) hx hb dX10_witness_43 (by decide) ?_
                  refine lv_istore_n (lv' := [(2, .int 0), (0, .ref a_y), (1, .int s2), (3, .int s14.2)]) hx hb dX10_witness_44 rfl hl (by decide) rfl (fun ls hl => ?_)
                  refine lv_iinc (v := s14.2 + 1) (lv' := [(3, .int (s14.2 + 1)), (2, .int 0), (0, .ref a_y), (1, .int s2)]) hx hb dX10_witness_45 hl (k := 3) rfl (by rfl) (by decide) rfl (fun ls hl => ?_)
                  refine lv_goto (tgt := 14) hx hb dX10_witness_48 (by decide) ?_
                  replace hs := Option.some.inj hs
                  subst hs
                  exact hZw (ih (0, s14.2 + 1) H locs ls hn hP hD hS (lv_sub hl [2, 3, 1, 0] rfl))
                · replace hs := it_t hc hs
                  exact hZw (hJ39 () hs H locs ls hP hD hS (lv_sub hl [0, 1, 3] rfl))
        obtain ⟨n14, hn14⟩ := lp_ex he14
        exact hZw (hL14 n14 (0, 0) H locs ls hn14 hP hD hS (lv_sub hl [2, 3, 1, 0] rfl))
  obtain ⟨n2, hn2⟩ := lp_ex he2
  exact hZw (hL2 n2 0 H locs ls hn2 hP hD hS (lv_sub hl [1, 0] rfl))
