noncomputable def pX10_isOne_J71_5 (s27 : Int32 × Int32) (t71 : Unit) : Option ((Int32 × Int32) ⊕ (Int32)) :=
  some (Sum.inl (0, s27.2 + 1))
noncomputable def pX10_isOne_J67_7 (s27 : Int32 × Int32) (t67 : Unit) : Option ((Int32 × Int32) ⊕ (Int32)) :=
  some (Sum.inl (1, s27.2 + 1))
noncomputable def pX10_isOne_L27_3 (y_list : Nat → Int32) (y_colour : Nat → Int32) (p1 : Int32) (s2 : Int32) (s27 : Int32 × Int32) : Option ((Int32 × Int32) ⊕ (Int32)) :=
  if p1 ≤ s27.2 then (some (Sum.inr s27.1)) else (if s27.1 = 0 then (pX10_isOne_J71_5 s27 ()) else (gd (vp_in s2 16) (if (((y_list s2.toNatClampNeg) >>> (s27.2 &&& 31)) &&& 1) = 0 then (pX10_isOne_J67_7 s27 ()) else (gd (vp_in s27.2 10) (gd (vp_in p1 10) (if (y_colour s27.2.toNatClampNeg) = (y_colour p1.toNatClampNeg) then (pX10_isOne_J67_7 s27 ()) else (pX10_isOne_J71_5 s27 ())))))))
noncomputable def pX10_isOne_L2 (y_sets : Int32) (y_list : Nat → Int32) (y_colour : Nat → Int32) (p1 : Int32) (s2 : Int32) : Option ((Int32) ⊕ ((Unit) ⊕ (Unit))) :=
  if y_sets ≤ s2 then (some (Sum.inr (Sum.inr ()))) else (gd (vp_in s2 16) (if ((y_list s2.toNatClampNeg) >>> (p1 &&& 31)) = 1 then (Option.bind (lp (pX10_isOne_L27_3 y_list y_colour p1 s2) (1, 0)) (fun e27 => if e27 = 0 then (some (Sum.inl (s2 + 1))) else (some (Sum.inr (Sum.inl ()))))) else (some (Sum.inl (s2 + 1)))))
noncomputable def pX10_isOne (y_sets : Int32) (y_list : Nat → Int32) (y_colour : Nat → Int32) (p1 : Int32) : Option (Int32) :=
  Option.bind (lp (pX10_isOne_L2 y_sets y_list y_colour p1) 0) (Sum.elim (fun e2_0 => some 1) (fun e2_1 => some 0))
set_option maxHeartbeats 4000000 in
set_option maxRecDepth 100000 in
theorem c_X10_isOne (l : Launch) (dC : Nat → ClassId) (dI : Nat → Nat → Nat) (a_y : Nat) (a_y_list : Nat) (a_y_others : Nat) (a_y_costs : Nat) (a_y_table : Nat) (a_y_basis : Nat) (a_y_isSeen : Nat) (a_y_colour : Nat) (a_y_rest : Nat) (a_y_makes : Nat) (a_y_worst : Nat) (c_y_list c_y_colour : ClassId) (sz : Nat) (y_n : Int32) (y_sets : Int32) (y_otherMany : Int32) (y_above : Int64) (y_below : Int64) (y_by : Int64) (y_list : Nat → Int32) (y_colour : Nat → Int32) (p1 : Int32) (rv : Int32) (hs : pX10_isOne y_sets y_list y_colour p1 = some rv) : Met l yX10_isOne wsX10_isOne ({ frames := 0, cells := 0, slots := 0, locals := 0 }) (sPc [.ref a_y, .int p1] (dC, dI) [(c_y_list, .int), (c_y_colour, .int)] [(a_y, .inr (10, [.int y_n, .ref a_y_list, .int y_sets, .ref a_y_others, .int y_otherMany, .ref a_y_costs, .long y_above, .long y_below, .ref a_y_table, .long y_by, .ref a_y_basis, .ref a_y_isSeen, .ref a_y_colour, .ref a_y_rest, .ref a_y_makes, .ref a_y_worst])), (a_y_list, .inl (c_y_list, 16, .inl y_list)), (a_y_colour, .inl (c_y_colour, 10, .inl y_colour))] sz) (va_Qi (fun (r : Int32) (_ : Unit) => r = rv) (sB (dC, dI) [(c_y_list, .int), (c_y_colour, .int)] (va_A [(a_y, .inr (10, [.int y_n, .ref a_y_list, .int y_sets, .ref a_y_others, .int y_otherMany, .ref a_y_costs, .long y_above, .long y_below, .ref a_y_table, .long y_by, .ref a_y_basis, .ref a_y_isSeen, .ref a_y_colour, .ref a_y_rest, .ref a_y_makes, .ref a_y_worst])), (a_y_list, .inl (c_y_list, 16, .inl y_list)), (a_y_colour, .inl (c_y_colour, 10, .inl y_colour))] sz) [(a_y, .inr (10, [.int y_n, .ref a_y_list, .int y_sets, .ref a_y_others, .int y_otherMany, .ref a_y_costs, .long y_above, .long y_below, .ref a_y_table, .long y_by, .ref a_y_basis, .ref a_y_isSeen, .ref a_y_colour, .ref a_y_rest, .ref a_y_makes, .ref a_y_worst])), (a_y_list, .inl (c_y_list, 16, .inl y_list)), (a_y_colour, .inl (c_y_colour, 10, .inl y_colour))]) (va_A [(a_y, .inr (10, [.int y_n, .ref a_y_list, .int y_sets, .ref a_y_others, .int y_otherMany, .ref a_y_costs, .long y_above, .long y_below, .ref a_y_table, .long y_by, .ref a_y_basis, .ref a_y_isSeen, .ref a_y_colour, .ref a_y_rest, .ref a_y_makes, .ref a_y_worst])), (a_y_list, .inl (c_y_list, 16, .inl y_list)), (a_y_colour, .inl (c_y_colour, 10, .inl y_colour))] sz)) 0 0 (va_A [(a_y, .inr (10, [.int y_n, .ref a_y_list, .int y_sets, .ref a_y_others, .int y_otherMany, .ref a_y_costs, .long y_above, .long y_below, .ref a_y_table, .long y_by, .ref a_y_basis, .ref a_y_isSeen, .ref a_y_colour, .ref a_y_rest, .ref a_y_makes, .ref a_y_worst])), (a_y_list, .inl (c_y_list, 16, .inl y_list)), (a_y_colour, .inl (c_y_colour, 10, .inl y_colour))] sz) := by
  refine Met.ofW (cc := cX10_isOne) (maxL := 5) (ret := (some .boolean)) (by decide) rfl ?_
  intro p e s m args below meth c s₁ B hml hv
  obtain ⟨rfl, hsz, hP, hK, hD0, hN⟩ := hv
  have hx := B.exec
  have hb := B.bytes
  have hr := B.returns
  have hts := atoms_spec (ws := wsX10_isOne) B.pre
  have hown : s.vm.findClass RX10 = some m.cls := findClass_of_methodNamed B.named
  have hlocks := B.notSynchronized
  subst hsz
  have hD := hD0.self (sz := s.heap.size)
  generalize hAe : va_A [(a_y, .inr (10, [.int y_n, .ref a_y_list, .int y_sets, .ref a_y_others, .int y_otherMany, .ref a_y_costs, .long y_above, .long y_below, .ref a_y_table, .long y_by, .ref a_y_basis, .ref a_y_isSeen, .ref a_y_colour, .ref a_y_rest, .ref a_y_makes, .ref a_y_worst])), (a_y_list, .inl (c_y_list, 16, .inl y_list)), (a_y_colour, .inl (c_y_colour, 10, .inl y_colour))] s.heap.size = A at hD hN ⊢
  have hA : ∀ q : Nat, s.heap.size ≤ q → A q := fun q h => by rw [← hAe]; exact Or.inr h
  have hS : va_S A s.heap s.heap [] := va_S.rf
  have hP : va_P (dC, dI) vwCl [(a_y, .inr (10, [.int y_n, .ref a_y_list, .int y_sets, .ref a_y_others, .int y_otherMany, .ref a_y_costs, .long y_above, .long y_below, .ref a_y_table, .long y_by, .ref a_y_basis, .ref a_y_isSeen, .ref a_y_colour, .ref a_y_rest, .ref a_y_makes, .ref a_y_worst])), (a_y_list, .inl (c_y_list, 16, .inl y_list)), (a_y_colour, .inl (c_y_colour, 10, .inl y_colour))] s.heap := hP
  have hl := lv_entry ([.ref a_y, .int p1]) (n := 5) (Nat.le_of_ble_eq_true rfl)
  rw [lg_entry_eq]
  generalize (lg_sl ([.ref a_y, .int p1]) ++ List.replicate (5 - (lg_sl ([.ref a_y, .int p1])).length) Slot.unset).toArray = ls at hl ⊢
  have hl : lv_has ls 5 [(0, .ref a_y), (1, .int p1)] := hl
  have hiX10 : ∀ w ∈ wsX100, w ∈ wsX10_isOne := fun _ h => List.mem_cons_of_mem _ (List.mem_append_right _ h)
  have hf61 := hts (.fieldLink RX10 61 "MeetSetsModel" "sets" "I") (t1_ (al_ h1_))
  have hf7 := hts (.fieldLink RX10 7 "MeetSetsModel" "list" "[I") (t1_ (al_ (t1_ h1_)))
  have hf30 := hts (.fieldLink RX10 30 "MeetSetsModel" "colour" "[I") (t1_ (al_ (t1_ (t1_ h1_))))
  refine w_abs (fun Z hZv hZw => ?_)
  refine hZv ?_
  obtain ⟨H, hH⟩ : ∃ H, H = s.heap := ⟨_, rfl⟩
  obtain ⟨locs, hlo⟩ : ∃ L : List Loc, L = [] := ⟨_, rfl⟩
  rw [← hlo, ← hH]
  have hS : va_S A s.heap H locs := by rw [hlo, hH]; exact hS
  have hP : va_P (dC, dI) vwCl [(a_y, .inr (10, [.int y_n, .ref a_y_list, .int y_sets, .ref a_y_others, .int y_otherMany, .ref a_y_costs, .long y_above, .long y_below, .ref a_y_table, .long y_by, .ref a_y_basis, .ref a_y_isSeen, .ref a_y_colour, .ref a_y_rest, .ref a_y_makes, .ref a_y_worst])), (a_y_list, .inl (c_y_list, 16, .inl y_list)), (a_y_colour, .inl (c_y_colour, 10, .inl y_colour))] H := by rw [hH]; exact hP
  clear hH hlo
  unfold pX10_isOne at hs
  refine lv_iconst (v := 0) hx hb dX10_isOne_0 (by decide) ?_
  refine lv_istore_n (lv' := [(2, .int 0), (0, .ref a_y), (1, .int p1)]) hx hb dX10_isOne_1 rfl hl (by decide) rfl (fun ls hl => ?_)
  obtain ⟨e2, he2, hs⟩ := bd_s hs
  have hX2_0 : ∀ (e2_0 : Unit), (Sum.inl e2_0) = e2 → ∀ (H : Heap) (locs : List Loc) (ls : Array Slot), va_P (dC, dI) vwCl [(a_y, .inr (10, [.int y_n, .ref a_y_list, .int y_sets, .ref a_y_others, .int y_otherMany, .ref a_y_costs, .long y_above, .long y_below, .ref a_y_table, .long y_by, .ref a_y_basis, .ref a_y_isSeen, .ref a_y_colour, .ref a_y_rest, .ref a_y_makes, .ref a_y_worst])), (a_y_list, .inl (c_y_list, 16, .inl y_list)), (a_y_colour, .inl (c_y_colour, 10, .inl y_colour))] H → va_D A [(a_y, .inr (10, [.int y_n, .ref a_y_list, .int y_sets, .ref a_y_others, .int y_otherMany, .ref a_y_costs, .long y_above, .long y_below, .ref a_y_table, .long y_by, .ref a_y_basis, .ref a_y_isSeen, .ref a_y_colour, .ref a_y_rest, .ref a_y_makes, .ref a_y_worst])), (a_y_list, .inl (c_y_list, 16, .inl y_list)), (a_y_colour, .inl (c_y_colour, 10, .inl y_colour))] → va_S A s.heap H locs → lv_has ls 5 [] → Z H locs 0 0 (F0 m 83 ls []) := by
    intro e2_0 he H locs ls hP hD hS hl
    subst he
    replace hs := sm_l hs
    refine hZv ?_
    refine lv_iconst (v := 1) hx hb dX10_isOne_83 (by decide) ?_
    replace hs := Option.some.inj hs
    subst hs
    exact W.zret (v := 1) (ty := .boolean) hx hb hr rfl (fun t ht hW => ⟨⟨1, (), rfl, rfl, by rw [ht]; exact hP, va_K.moved hW.alike hK, hD⟩, hS.F ht⟩) hS.2.2 dX10_isOne_84
  have hX2_1 : ∀ (e2_1 : Unit), (Sum.inr e2_1) = e2 → ∀ (H : Heap) (locs : List Loc) (ls : Array Slot), va_P (dC, dI) vwCl [(a_y, .inr (10, [.int y_n, .ref a_y_list, .int y_sets, .ref a_y_others, .int y_otherMany, .ref a_y_costs, .long y_above, .long y_below, .ref a_y_table, .long y_by, .ref a_y_basis, .ref a_y_isSeen, .ref a_y_colour, .ref a_y_rest, .ref a_y_makes, .ref a_y_worst])), (a_y_list, .inl (c_y_list, 16, .inl y_list)), (a_y_colour, .inl (c_y_colour, 10, .inl y_colour))] H → va_D A [(a_y, .inr (10, [.int y_n, .ref a_y_list, .int y_sets, .ref a_y_others, .int y_otherMany, .ref a_y_costs, .long y_above, .long y_below, .ref a_y_table, .long y_by, .ref a_y_basis, .ref a_y_isSeen, .ref a_y_colour, .ref a_y_rest, .ref a_y_makes, .ref a_y_worst])), (a_y_list, .inl (c_y_list, 16, .inl y_list)), (a_y_colour, .inl (c_y_colour, 10, .inl y_colour))] → va_S A s.heap H locs → lv_has ls 5 [] → Z H locs 0 0 (F0 m 91 ls []) := by
    intro e2_1 he H locs ls hP hD hS hl
    subst he
    replace hs := sm_r hs
    refine hZv ?_
    refine lv_iconst (v := 0) hx hb dX10_isOne_91 (by decide) ?_
    replace hs := Option.some.inj hs
    subst hs
    exact W.zret (v := 0) (ty := .boolean) hx hb hr rfl (fun t ht hW => ⟨⟨0, (), rfl, rfl, by rw [ht]; exact hP, va_K.moved hW.alike hK, hD⟩, hS.F ht⟩) hS.2.2 dX10_isOne_92
  clear hs
  have hL2 : ∀ (n : Nat) (s2 : Int32) (H : Heap) (locs : List Loc) (ls : Array Slot), itr (pX10_isOne_L2 y_sets y_list y_colour p1) n s2 = some e2 → va_P (dC, dI) vwCl [(a_y, .inr (10, [.int y_n, .ref a_y_list, .int y_sets, .ref a_y_others, .int y_otherMany, .ref a_y_costs, .long y_above, .long y_below, .ref a_y_table, .long y_by, .ref a_y_basis, .ref a_y_isSeen, .ref a_y_colour, .ref a_y_rest, .ref a_y_makes, .ref a_y_worst])), (a_y_list, .inl (c_y_list, 16, .inl y_list)), (a_y_colour, .inl (c_y_colour, 10, .inl y_colour))] H → va_D A [(a_y, .inr (10, [.int y_n, .ref a_y_list, .int y_sets, .ref a_y_others, .int y_otherMany, .ref a_y_costs, .long y_above, .long y_below, .ref a_y_table, .long y_by, .ref a_y_basis, .ref a_y_isSeen, .ref a_y_colour, .ref a_y_rest, .ref a_y_makes, .ref a_y_worst])), (a_y_list, .inl (c_y_list, 16, .inl y_list)), (a_y_colour, .inl (c_y_colour, 10, .inl y_colour))] → va_S A s.heap H locs → lv_has ls 5 [(0, .ref a_y), (1, .int p1), (2, .int s2)] → Z H locs 0 0 (F0 m 2 ls []) := by
    intro n
    induction n with
    | zero =>
      intro s2 H locs ls hn
      exact (itr_0 hn).elim
    | succ n ih =>
      intro s2 H locs ls hn hP hD hS hl
      obtain ⟨y1, hs, hn⟩ := itr_s hn
      unfold pX10_isOne_L2 at hs
      refine hZv ?_
      refine lv_iload_n hx hb dX10_isOne_2 rfl (lv_at hl 2 rfl) ?_
      refine lv_aload_n hx hb dX10_isOne_3 rfl (lv_at hl 0 rfl) ?_
      refine va_get (D := (dC, dI)) (ci := 10) (v := .int y_sets) (C := RX10) (T := TX10) (N := 16) hx hb hts hiX10 hown hK hP 0 rfl rfl 2 (by decide) hf61 (fun _ h9 => h9) rfl dX10_isOne_4 ?_
      refine lv_icmp_ge (tgt := 91) hx hb dX10_isOne_7 (by decide) (fun hc => ?_) (fun hc => ?_)
      · replace hs := it_t hc hs
        replace hs := Option.some.inj hs
        subst hs
        obtain rfl : (Sum.inr ()) = e2 := hn
        exact hZw (hX2_1 () rfl H locs ls hP hD hS (lv_sub hl [] rfl))
      · replace hs := it_f hc hs
        refine lv_aload_n hx hb dX10_isOne_10 rfl (lv_at hl 0 rfl) ?_
        refine va_get (D := (dC, dI)) (ci := 10) (v := .ref a_y_list) (C := RX10) (T := TX10) (N := 16) hx hb hts hiX10 hown hK hP 0 rfl rfl 1 (by decide) hf7 (fun _ h9 => h9) rfl dX10_isOne_11 ?_
        refine lv_iload_n hx hb dX10_isOne_14 rfl (lv_at hl 2 rfl) ?_
        obtain ⟨hg2, hs⟩ := gd_s hs
        refine va_iald hx hb hK hP 1 0 rfl rfl hg2 dX10_isOne_15 ?_
        refine lv_iload_n hx hb dX10_isOne_16 rfl (lv_at hl 1 rfl) ?_
        refine lv_ishr hx hb dX10_isOne_17 ?_
        refine lv_iconst (v := 1) hx hb dX10_isOne_18 (by decide) ?_
        refine lv_icmp_ne (tgt := 85) hx hb dX10_isOne_19 (by decide) (fun hc => ?_) (fun hc => ?_)
        · replace hs := it_f hc hs
          refine lv_iinc (v := s2 + 1) (lv' := [(2, .int (s2 + 1)), (0, .ref a_y), (1, .int p1)]) hx hb dX10_isOne_85 hl (k := 2) rfl (by rfl) (by decide) rfl (fun ls hl => ?_)
          refine lv_goto (tgt := 2) hx hb dX10_isOne_88 (by decide) ?_
          replace hs := Option.some.inj hs
          subst hs
          exact hZw (ih (s2 + 1) H locs ls hn hP hD hS (lv_sub hl [1, 2, 0] rfl))
        · replace hs := it_t hc hs
          refine lv_iconst (v := 1) hx hb dX10_isOne_22 (by decide) ?_
          refine lv_istore_n (lv' := [(3, .int 1), (0, .ref a_y), (1, .int p1), (2, .int s2)]) hx hb dX10_isOne_23 rfl hl (by decide) rfl (fun ls hl => ?_)
          refine lv_iconst (v := 0) hx hb dX10_isOne_24 (by decide) ?_
          refine lv_istore (lv' := [(4, .int 0), (3, .int 1), (0, .ref a_y), (1, .int p1), (2, .int s2)]) hx hb dX10_isOne_25 hl (by decide) rfl (fun ls hl => ?_)
          obtain ⟨e27, he27, hs⟩ := bd_s hs
          have hX27 : ∀ (H : Heap) (locs : List Loc) (ls : Array Slot), va_P (dC, dI) vwCl [(a_y, .inr (10, [.int y_n, .ref a_y_list, .int y_sets, .ref a_y_others, .int y_otherMany, .ref a_y_costs, .long y_above, .long y_below, .ref a_y_table, .long y_by, .ref a_y_basis, .ref a_y_isSeen, .ref a_y_colour, .ref a_y_rest, .ref a_y_makes, .ref a_y_worst])), (a_y_list, .inl (c_y_list, 16, .inl y_list)), (a_y_colour, .inl (c_y_colour, 10, .inl y_colour))] H → va_D A [(a_y, .inr (10, [.int y_n, .ref a_y_list, .int y_sets, .ref a_y_others, .int y_otherMany, .ref a_y_costs, .long y_above, .long y_below, .ref a_y_table, .long y_by, .ref a_y_basis, .ref a_y_isSeen, .ref a_y_colour, .ref a_y_rest, .ref a_y_makes, .ref a_y_worst])), (a_y_list, .inl (c_y_list, 16, .inl y_list)), (a_y_colour, .inl (c_y_colour, 10, .inl y_colour))] → va_S A s.heap H locs → lv_has ls 5 [(0, .ref a_y), (1, .int p1), (2, .int s2), (3, .int e27)] → Z H locs 0 0 (F0 m 79 ls []) := by
            intro H locs ls hP hD hS hl
            refine hZv ?_
            refine lv_iload_n hx hb dX10_isOne_79 rfl (lv_at hl 3 rfl) ?_
            refine lv_if_eq (tgt := 85) hx hb dX10_isOne_80 (by decide) (fun hc => ?_) (fun hc => ?_)
            · replace hs := it_t hc hs
              refine lv_iinc (v := s2 + 1) (lv' := [(2, .int (s2 + 1)), (0, .ref a_y), (1, .int p1), (3, .int e27)]) hx hb dX10_isOne_85 hl (k := 2) rfl (by rfl) (by decide) rfl (fun ls hl => ?_)
              refine lv_goto (tgt := 2) hx hb dX10_isOne_88 (by decide) ?_
              replace hs := Option.some.inj hs
              subst hs
              exact hZw (ih (s2 + 1) H locs ls hn hP hD hS (lv_sub hl [1, 2, 0] rfl))
            · replace hs := it_f hc hs
              replace hs := Option.some.inj hs
              subst hs
              obtain rfl : (Sum.inl ()) = e2 := hn
              exact hZw (hX2_0 () rfl H locs ls hP hD hS (lv_sub hl [] rfl))
          clear hs
          have hL27 : ∀ (n : Nat) (s27 : Int32 × Int32) (H : Heap) (locs : List Loc) (ls : Array Slot), itr (pX10_isOne_L27_3 y_list y_colour p1 s2) n s27 = some e27 → va_P (dC, dI) vwCl [(a_y, .inr (10, [.int y_n, .ref a_y_list, .int y_sets, .ref a_y_others, .int y_otherMany, .ref a_y_costs, .long y_above, .long y_below, .ref a_y_table, .long y_by, .ref a_y_basis, .ref a_y_isSeen, .ref a_y_colour, .ref a_y_rest, .ref a_y_makes, .ref a_y_worst])), (a_y_list, .inl (c_y_list, 16, .inl y_list)), (a_y_colour, .inl (c_y_colour, 10, .inl y_colour))] H → va_D A [(a_y, .inr (10, [.int y_n, .ref a_y_list, .int y_sets, .ref a_y_others, .int y_otherMany, .ref a_y_costs, .long y_above, .long y_below, .ref a_y_table, .long y_by, .ref a_y_basis, .ref a_y_isSeen, .ref a_y_colour, .ref a_y_rest, .ref a_y_makes, .ref a_y_worst])), (a_y_list, .inl (c_y_list, 16, .inl y_list)), (a_y_colour, .inl (c_y_colour, 10, .inl y_colour))] → va_S A s.heap H locs → lv_has ls 5 [(0, .ref a_y), (1, .int p1), (2, .int s2), (3, .int s27.1), (4, .int s27.2)] → Z H locs 0 0 (F0 m 27 ls []) := by
            intro n
            induction n with
            | zero =>
              intro s27 H locs ls hn
              exact (itr_0 hn).elim
            | succ n ih =>
              intro s27 H locs ls hn hP hD hS hl
              obtain ⟨y4, hs, hn⟩ := itr_s hn
              unfold pX10_isOne_L27_3 at hs
              refine hZv ?_
              refine lv_iload hx hb dX10_isOne_27 (lv_at hl 4 rfl) ?_
              refine lv_iload_n hx hb dX10_isOne_29 rfl (lv_at hl 1 rfl) ?_
              refine lv_icmp_ge (tgt := 79) hx hb dX10_isOne_30 (by decide) (fun hc => ?_) (fun hc => ?_)
              · replace hs := it_t hc hs
                replace hs := Option.some.inj hs
                subst hs
                obtain rfl : s27.1 = e27 := hn
                exact hZw (hX27 H locs ls hP hD hS (lv_sub hl [0, 1, 2, 3] rfl))
              · replace hs := it_f hc hs
                refine lv_iload_n hx hb dX10_isOne_33 rfl (lv_at hl 3 rfl) ?_
                have hJ71 : ∀ (t71 : Unit), pX10_isOne_J71_5 s27 t71 = some y4 → ∀ (H : Heap) (locs : List Loc) (ls : Array Slot), va_P (dC, dI) vwCl [(a_y, .inr (10, [.int y_n, .ref a_y_list, .int y_sets, .ref a_y_others, .int y_otherMany, .ref a_y_costs, .long y_above, .long y_below, .ref a_y_table, .long y_by, .ref a_y_basis, .ref a_y_isSeen, .ref a_y_colour, .ref a_y_rest, .ref a_y_makes, .ref a_y_worst])), (a_y_list, .inl (c_y_list, 16, .inl y_list)), (a_y_colour, .inl (c_y_colour, 10, .inl y_colour))] H → va_D A [(a_y, .inr (10, [.int y_n, .ref a_y_list, .int y_sets, .ref a_y_others, .int y_otherMany, .ref a_y_costs, .long y_above, .long y_below, .ref a_y_table, .long y_by, .ref a_y_basis, .ref a_y_isSeen, .ref a_y_colour, .ref a_y_rest, .ref a_y_makes, .ref a_y_worst])), (a_y_list, .inl (c_y_list, 16, .inl y_list)), (a_y_colour, .inl (c_y_colour, 10, .inl y_colour))] → va_S A s.heap H locs → lv_has ls 5 [(0, .ref a_y), (1, .int p1), (2, .int s2), (4, .int s27.2)] → Z H locs 0 0 (F0 m 71 ls []) := by
                  intro t71 hs H locs ls hP hD hS hl
                  refine hZv ?_
                  unfold pX10_isOne_J71_5 at hs
                  refine lv_iconst (v := 0) hx hb dX10_isOne_71 (by decide) ?_
                  refine lv_istore_n (lv' := [(3, .int 0), (0, .ref a_y), (1, .int p1), (2, .int s2), (4, .int s27.2)]) hx hb dX10_isOne_72 rfl hl (by decide) rfl (fun ls hl => ?_)
                  refine lv_iinc (v := s27.2 + 1) (lv' := [(4, .int (s27.2 + 1)), (3, .int 0), (0, .ref a_y), (1, .int p1), (2, .int s2)]) hx hb dX10_isOne_73 hl (k := 4) rfl (by rfl) (by decide) rfl (fun ls hl => ?_)
                  refine lv_goto (tgt := 27) hx hb dX10_isOne_76 (by decide) ?_
                  replace hs := Option.some.inj hs
                  subst hs
                  exact hZw (ih (0, s27.2 + 1) H locs ls hn hP hD hS (lv_sub hl [2, 3, 4, 1, 0] rfl))
                refine lv_if_eq (tgt := 71) hx hb dX10_isOne_34 (by decide) (fun hc => ?_) (fun hc => ?_)
                · replace hs := it_t hc hs
                  exact hZw (hJ71 () hs H locs ls hP hD hS (lv_sub hl [0, 1, 2, 4] rfl))
                · replace hs := it_f hc hs
                  refine lv_aload_n hx hb dX10_isOne_37 rfl (lv_at hl 0 rfl) ?_
                  refine va_get (D := (dC, dI)) (ci := 10) (v := .ref a_y_list) (C := RX10) (T := TX10) (N := 16) hx hb hts hiX10 hown hK hP 0 rfl rfl 1 (by decide) hf7 (fun _ h9 => h9) rfl dX10_isOne_38 ?_
                  refine lv_iload_n hx hb dX10_isOne_41 rfl (lv_at hl 2 rfl) ?_
                  obtain ⟨hg6, hs⟩ := gd_s hs
                  refine va_iald hx hb hK hP 1 0 rfl rfl hg6 dX10_isOne_42 ?_
                  refine lv_iload hx hb dX10_isOne_43 (lv_at hl 4 rfl) ?_
                  refine lv_ishr hx hb dX10_isOne_45 ?_
                  refine lv_iconst (v := 1) hx hb dX10_isOne_46 (by decide) ?_
                  refine lv_iand hx hb dX10_isOne_47 ?_
                  have hJ67 : ∀ (t67 : Unit), pX10_isOne_J67_7 s27 t67 = some y4 → ∀ (H : Heap) (locs : List Loc) (ls : Array Slot), va_P (dC, dI) vwCl [(a_y, .inr (10, [.int y_n, .ref a_y_list, .int y_sets, .ref a_y_others, .int y_otherMany, .ref a_y_costs, .long y_above, .long y_below, .ref a_y_table, .long y_by, .ref a_y_basis, .ref a_y_isSeen, .ref a_y_colour, .ref a_y_rest, .ref a_y_makes, .ref a_y_worst])), (a_y_list, .inl (c_y_list, 16, .inl y_list)), (a_y_colour, .inl (c_y_colour, 10, .inl y_colour))] H → va_D A [(a_y, .inr (10, [.int y_n, .ref a_y_list, .int y_sets, .ref a_y_others, .int y_otherMany, .ref a_y_costs, .long y_above, .long y_below, .ref a_y_table, .long y_by, .ref a_y_basis, .ref a_y_isSeen, .ref a_y_colour, .ref a_y_rest, .ref a_y_makes, .ref a_y_worst])), (a_y_list, .inl (c_y_list, 16, .inl y_list)), (a_y_colour, .inl (c_y_colour, 10, .inl y_colour))] → va_S A s.heap H locs → lv_has ls 5 [(0, .ref a_y), (1, .int p1), (2, .int s2), (4, .int s27.2)] → Z H locs 0 0 (F0 m 67 ls []) := by
                    intro t67 hs H locs ls hP hD hS hl
                    refine hZv ?_
                    unfold pX10_isOne_J67_7 at hs
                    refine lv_iconst (v := 1) hx hb dX10_isOne_67 (by decide) ?_
                    refine lv_goto (tgt := 72) hx hb dX10_isOne_68 (by decide) ?_
                    refine lv_istore_n (lv' := [(3, .int 1), (0, .ref a_y), (1, .int p1), (2, .int s2), (4, .int s27.2)]) hx hb dX10_isOne_72 rfl hl (by decide) rfl (fun ls hl => ?_)
                    refine lv_iinc (v := s27.2 + 1) (lv' := [(4, .int (s27.2 + 1)), (3, .int 1), (0, .ref a_y), (1, .int p1), (2, .int s2)]) hx hb dX10_isOne_73 hl (k := 4) rfl (by rfl) (by decide) rfl (fun ls hl => ?_)
                    refine lv_goto (tgt := 27) hx hb dX10_isOne_76 (by decide) ?_
                    replace hs := Option.some.inj hs
                    subst hs
                    exact hZw (ih (1, s27.2 + 1) H locs ls hn hP hD hS (lv_sub hl [2, 3, 4, 1, 0] rfl))
                  refine lv_if_eq (tgt := 67) hx hb dX10_isOne_48 (by decide) (fun hc => ?_) (fun hc => ?_)
                  · replace hs := it_t hc hs
                    exact hZw (hJ67 () hs H locs ls hP hD hS (lv_sub hl [0, 1, 2, 4] rfl))
                  · replace hs := it_f hc hs
                    refine lv_aload_n hx hb dX10_isOne_51 rfl (lv_at hl 0 rfl) ?_
                    refine va_get (D := (dC, dI)) (ci := 10) (v := .ref a_y_colour) (C := RX10) (T := TX10) (N := 16) hx hb hts hiX10 hown hK hP 0 rfl rfl 12 (by decide) hf30 (fun _ h9 => h9) rfl dX10_isOne_52 ?_
                    refine lv_iload hx hb dX10_isOne_55 (lv_at hl 4 rfl) ?_
                    obtain ⟨hg8, hs⟩ := gd_s hs
                    refine va_iald hx hb hK hP 2 1 rfl rfl hg8 dX10_isOne_57 ?_
                    refine lv_aload_n hx hb dX10_isOne_58 rfl (lv_at hl 0 rfl) ?_
                    refine va_get (D := (dC, dI)) (ci := 10) (v := .ref a_y_colour) (C := RX10) (T := TX10) (N := 16) hx hb hts hiX10 hown hK hP 0 rfl rfl 12 (by decide) hf30 (fun _ h9 => h9) rfl dX10_isOne_59 ?_
                    refine lv_iload_n hx hb dX10_isOne_62 rfl (lv_at hl 1 rfl) ?_
                    obtain ⟨hg9, hs⟩ := gd_s hs
                    refine va_iald hx hb hK hP 2 1 rfl rfl hg9 dX10_isOne_63 ?_
                    refine lv_icmp_ne (tgt := 71) hx hb dX10_isOne_64 (by decide) (fun hc => ?_) (fun hc => ?_)
                    · replace hs := it_f hc hs
                      exact hZw (hJ71 () hs H locs ls hP hD hS (lv_sub hl [0, 1, 2, 4] rfl))
                    · replace hs := it_t hc hs
                      exact hZw (hJ67 () hs H locs ls hP hD hS (lv_sub hl [0, 1, 2, 4] rfl))
          obtain ⟨n27, hn27⟩ := lp_ex he27
          exact hZw (hL27 n27 (1, 0) H locs ls hn27 hP hD hS (lv_sub hl [2, 3, 4, 1, 0] rfl))
  obtain ⟨n2, hn2⟩ := lp_ex he2
  exact hZw (hL2 n2 0 H locs ls hn2 hP hD hS (lv_sub hl [1, 2, 0] rfl))
noncomputable def pX10_colourings_L28 (y_n : Int32) (y_sets : Int32) (y_list : Nat → Int32) (p1 : Int32) (s28 : Int32 × Int32 × (Nat → Int32)) : Option ((Int32 × Int32 × (Nat → Int32)) ⊕ (Int32 × (Nat → Int32))) :=
  if s28.2.1 < 0 then (some (Sum.inr (s28.1, s28.2.2))) else (gd (vp_in s28.2.1 10) (gd (vp_in s28.2.1 10) (gd (vp_in s28.2.1 10) (if ((upd s28.2.2 s28.2.1.toNatClampNeg ((s28.2.2 s28.2.1.toNatClampNeg) + 1)) s28.2.1.toNatClampNeg) = p1 then (some (Sum.inl (s28.1, s28.2.1 + (-1), upd s28.2.2 s28.2.1.toNatClampNeg ((s28.2.2 s28.2.1.toNatClampNeg) + 1)))) else (Option.bind (pX10_isOne y_sets y_list (upd s28.2.2 s28.2.1.toNatClampNeg ((s28.2.2 s28.2.1.toNatClampNeg) + 1)) s28.2.1) (fun r7 => if r7 = 0 then (if (s28.2.1 + 1) = y_n then (some (Sum.inl (s28.1 + 1, s28.2.1, upd s28.2.2 s28.2.1.toNatClampNeg ((s28.2.2 s28.2.1.toNatClampNeg) + 1)))) else (gd (vp_in (s28.2.1 + 1) 10) (some (Sum.inl (s28.1, s28.2.1 + 1, upd (upd s28.2.2 s28.2.1.toNatClampNeg ((s28.2.2 s28.2.1.toNatClampNeg) + 1)) (s28.2.1 + 1).toNatClampNeg (-1)))))) else (some (Sum.inl (s28.1, s28.2.1, upd s28.2.2 s28.2.1.toNatClampNeg ((s28.2.2 s28.2.1.toNatClampNeg) + 1))))))))))
noncomputable def pX10_colourings (y_n : Int32) (y_sets : Int32) (y_list : Nat → Int32) (y_colour : Nat → Int32) (p1 : Int32) : Option (Int32 × (Nat → Int32)) :=
  Option.bind (pX10_in p1.toInt64 2 4) (fun r1 => if r1 = 0 then (some ((-2), y_colour)) else (gd (vp_in 0 10) (Option.bind (lp (pX10_colourings_L28 y_n y_sets y_list p1) (0, 0, upd y_colour (0 : Int32).toNatClampNeg (-1))) (fun e28 => some (e28.1, e28.2)))))
set_option maxHeartbeats 4000000 in
set_option maxRecDepth 100000 in
theorem c_X10_colourings (l : Launch) (dC : Nat → ClassId) (dI : Nat → Nat → Nat) (a_y : Nat) (a_y_list : Nat) (a_y_others : Nat) (a_y_costs : Nat) (a_y_table : Nat) (a_y_basis : Nat) (a_y_isSeen : Nat) (a_y_colour : Nat) (a_y_rest : Nat) (a_y_makes : Nat) (a_y_worst : Nat) (c_y_list c_y_colour : ClassId) (sz : Nat) (y_n : Int32) (y_sets : Int32) (y_otherMany : Int32) (y_above : Int64) (y_below : Int64) (y_by : Int64) (y_list : Nat → Int32) (y_colour : Nat → Int32) (p1 : Int32) (rv : Int32 × (Nat → Int32)) (hs : pX10_colourings y_n y_sets y_list y_colour p1 = some rv) : Met l yX10_colourings wsX10_colourings ({ frames := 1, cells := 0, slots := 0, locals := 25 }) (sPc [.ref a_y, .int p1] (dC, dI) [(c_y_list, .int), (c_y_colour, .int)] [(a_y, .inr (10, [.int y_n, .ref a_y_list, .int y_sets, .ref a_y_others, .int y_otherMany, .ref a_y_costs, .long y_above, .long y_below, .ref a_y_table, .long y_by, .ref a_y_basis, .ref a_y_isSeen, .ref a_y_colour, .ref a_y_rest, .ref a_y_makes, .ref a_y_worst])), (a_y_list, .inl (c_y_list, 16, .inl y_list)), (a_y_colour, .inl (c_y_colour, 10, .inl y_colour))] sz) (va_Qi (fun (r : Int32) (_ : Unit) => r = rv.1) (sB (dC, dI) [(c_y_list, .int), (c_y_colour, .int)] (va_A [(a_y, .inr (10, [.int y_n, .ref a_y_list, .int y_sets, .ref a_y_others, .int y_otherMany, .ref a_y_costs, .long y_above, .long y_below, .ref a_y_table, .long y_by, .ref a_y_basis, .ref a_y_isSeen, .ref a_y_colour, .ref a_y_rest, .ref a_y_makes, .ref a_y_worst])), (a_y_list, .inl (c_y_list, 16, .inl y_list)), (a_y_colour, .inl (c_y_colour, 10, .inl y_colour))] sz) [(a_y, .inr (10, [.int y_n, .ref a_y_list, .int y_sets, .ref a_y_others, .int y_otherMany, .ref a_y_costs, .long y_above, .long y_below, .ref a_y_table, .long y_by, .ref a_y_basis, .ref a_y_isSeen, .ref a_y_colour, .ref a_y_rest, .ref a_y_makes, .ref a_y_worst])), (a_y_list, .inl (c_y_list, 16, .inl y_list)), (a_y_colour, .inl (c_y_colour, 10, .inl rv.2))]) (va_A [(a_y, .inr (10, [.int y_n, .ref a_y_list, .int y_sets, .ref a_y_others, .int y_otherMany, .ref a_y_costs, .long y_above, .long y_below, .ref a_y_table, .long y_by, .ref a_y_basis, .ref a_y_isSeen, .ref a_y_colour, .ref a_y_rest, .ref a_y_makes, .ref a_y_worst])), (a_y_list, .inl (c_y_list, 16, .inl y_list)), (a_y_colour, .inl (c_y_colour, 10, .inl y_colour))] sz)) 0 0 (va_A [(a_y, .inr (10, [.int y_n, .ref a_y_list, .int y_sets, .ref a_y_others, .int y_otherMany, .ref a_y_costs, .long y_above, .long y_below, .ref a_y_table, .long y_by, .ref a_y_basis, .ref a_y_isSeen, .ref a_y_colour, .ref a_y_rest, .ref a_y_makes, .ref a_y_worst])), (a_y_list, .inl (c_y_list, 16, .inl y_list)), (a_y_colour, .inl (c_y_colour, 10, .inl y_colour))] sz) := by
  refine Met.ofW (cc := cX10_colourings) (maxL := 4) (ret := (some .int)) (by decide) rfl ?_
  intro p e s m args below meth c s₁ B hml hv
  obtain ⟨rfl, hsz, hP, hK, hD0, hN⟩ := hv
  have hx := B.exec
  have hb := B.bytes
  have hr := B.returns
  have hts := atoms_spec (ws := wsX10_colourings) B.pre
  have hown : s.vm.findClass RX10 = some m.cls := findClass_of_methodNamed B.named
  have hlocks := B.notSynchronized
  subst hsz
  have hD := hD0.self (sz := s.heap.size)
  generalize hAe : va_A [(a_y, .inr (10, [.int y_n, .ref a_y_list, .int y_sets, .ref a_y_others, .int y_otherMany, .ref a_y_costs, .long y_above, .long y_below, .ref a_y_table, .long y_by, .ref a_y_basis, .ref a_y_isSeen, .ref a_y_colour, .ref a_y_rest, .ref a_y_makes, .ref a_y_worst])), (a_y_list, .inl (c_y_list, 16, .inl y_list)), (a_y_colour, .inl (c_y_colour, 10, .inl y_colour))] s.heap.size = A at hD hN ⊢
  have hA : ∀ q : Nat, s.heap.size ≤ q → A q := fun q h => by rw [← hAe]; exact Or.inr h
  have hS : va_S A s.heap s.heap [] := va_S.rf
  have hP : va_P (dC, dI) vwCl [(a_y, .inr (10, [.int y_n, .ref a_y_list, .int y_sets, .ref a_y_others, .int y_otherMany, .ref a_y_costs, .long y_above, .long y_below, .ref a_y_table, .long y_by, .ref a_y_basis, .ref a_y_isSeen, .ref a_y_colour, .ref a_y_rest, .ref a_y_makes, .ref a_y_worst])), (a_y_list, .inl (c_y_list, 16, .inl y_list)), (a_y_colour, .inl (c_y_colour, 10, .inl y_colour))] s.heap := hP
  have hl := lv_entry ([.ref a_y, .int p1]) (n := 4) (Nat.le_of_ble_eq_true rfl)
  rw [lg_entry_eq]
  generalize (lg_sl ([.ref a_y, .int p1]) ++ List.replicate (4 - (lg_sl ([.ref a_y, .int p1])).length) Slot.unset).toArray = ls at hl ⊢
  have hl : lv_has ls 4 [(0, .ref a_y), (1, .int p1)] := hl
  have hiX10 : ∀ w ∈ wsX100, w ∈ wsX10_colourings := fun _ h => List.mem_cons_of_mem _ (List.mem_append_right _ h)
  have hf30 := hts (.fieldLink RX10 30 "MeetSetsModel" "colour" "[I") (t1_ (al_ (t1_ (t1_ h1_))))
  have hf43 := hts (.fieldLink RX10 43 "MeetSetsModel" "n" "I") (t1_ (al_ (t1_ (t1_ (t1_ h1_)))))
  refine w_abs (fun Z hZv hZw => ?_)
  refine hZv ?_
  obtain ⟨H, hH⟩ : ∃ H, H = s.heap := ⟨_, rfl⟩
  obtain ⟨locs, hlo⟩ : ∃ L : List Loc, L = [] := ⟨_, rfl⟩
  rw [← hlo, ← hH]
  have hS : va_S A s.heap H locs := by rw [hlo, hH]; exact hS
  have hP : va_P (dC, dI) vwCl [(a_y, .inr (10, [.int y_n, .ref a_y_list, .int y_sets, .ref a_y_others, .int y_otherMany, .ref a_y_costs, .long y_above, .long y_below, .ref a_y_table, .long y_by, .ref a_y_basis, .ref a_y_isSeen, .ref a_y_colour, .ref a_y_rest, .ref a_y_makes, .ref a_y_worst])), (a_y_list, .inl (c_y_list, 16, .inl y_list)), (a_y_colour, .inl (c_y_colour, 10, .inl y_colour))] H := by rw [hH]; exact hP
  clear hH hlo
  unfold pX10_colourings at hs
  refine lv_iload_n hx hb dX10_colourings_0 rfl (lv_at hl 1 rfl) ?_
  refine lv_i2l (v := p1.toInt64) hx hb dX10_colourings_1 rfl ?_
  refine lv_ldc2 (v := 2) hx hb hown (hts (.constantLong RX10 143 (2)) (t1_ (al_ h1_))) dX10_colourings_2 ?_
  refine lv_ldc2 (v := 4) hx hb hown (hts (.constantLong RX10 145 (4)) (t1_ (al_ (t1_ h1_)))) dX10_colourings_5 ?_
  obtain ⟨r1, hr1, hs⟩ := bd_s hs
  refine kc_i (isC := []) (isR := [0, 1, 2]) (pm := [0, 1, 2]) (wr := [(a_y, .inr (10, [.int y_n, .ref a_y_list, .int y_sets, .ref a_y_others, .int y_otherMany, .ref a_y_costs, .long y_above, .long y_below, .ref a_y_table, .long y_by, .ref a_y_basis, .ref a_y_isSeen, .ref a_y_colour, .ref a_y_rest, .ref a_y_makes, .ref a_y_worst])), (a_y_list, .inl (c_y_list, 16, .inl y_list)), (a_y_colour, .inl (c_y_colour, 10, .inl y_colour))]) (w1 := []) (w2 := [(a_y, .inr (10, [.int y_n, .ref a_y_list, .int y_sets, .ref a_y_others, .int y_otherMany, .ref a_y_costs, .long y_above, .long y_below, .ref a_y_table, .long y_by, .ref a_y_basis, .ref a_y_isSeen, .ref a_y_colour, .ref a_y_rest, .ref a_y_makes, .ref a_y_worst])), (a_y_list, .inl (c_y_list, 16, .inl y_list)), (a_y_colour, .inl (c_y_colour, 10, .inl y_colour))]) (va_runS (As := [.long p1.toInt64, .long 2, .long 4]) (rest := []) ⟨hx, hb, hml, hown, hts⟩ (c_X10_in l dC dI H.size p1.toInt64 2 4 r1 hr1) (va_cwS 3 hts gX10_colourings_X10_in rfl rfl rfl (by decide +kernel) ⟨Nat.le_of_ble_eq_true rfl, Nat.le_of_ble_eq_true rfl⟩) (kp_S hK hP hD hS hA hN (isC := []) (isT := []) (wc := []) rfl (by decide +kernel) rfl) rfl rfl hl.1 rfl (lv_room (Nat.le_of_ble_eq_true rfl)) dX10_colourings_8 ⟨Nat.le_of_ble_eq_true rfl, Nat.le_of_ble_eq_true rfl⟩) hP hD hS hA rfl rfl (by decide +kernel) (by decide +kernel) rfl (by decide +kernel) (fun H locs hP hD hS => ?_)
  refine lv_if_ne (tgt := 17) hx hb dX10_colourings_11 (by decide) (fun hc => ?_) (fun hc => ?_)
  · replace hs := it_f hc hs
    refine lv_iconst (v := 0) hx hb dX10_colourings_17 (by decide) ?_
    refine lv_istore_n (lv' := [(2, .int 0), (0, .ref a_y), (1, .int p1)]) hx hb dX10_colourings_18 rfl hl (by decide) rfl (fun ls hl => ?_)
    refine lv_iconst (v := 0) hx hb dX10_colourings_19 (by decide) ?_
    refine lv_istore_n (lv' := [(3, .int 0), (2, .int 0), (0, .ref a_y), (1, .int p1)]) hx hb dX10_colourings_20 rfl hl (by decide) rfl (fun ls hl => ?_)
    refine lv_aload_n hx hb dX10_colourings_21 rfl (lv_at hl 2 rfl) ?_
    refine va_get (D := (dC, dI)) (ci := 10) (v := .ref a_y_colour) (C := RX10) (T := TX10) (N := 16) hx hb hts hiX10 hown hK hP 0 rfl rfl 12 (by decide) hf30 (fun _ h9 => h9) rfl dX10_colourings_22 ?_
    refine lv_iconst (v := 0) hx hb dX10_colourings_25 (by decide) ?_
    refine lv_iconst (v := (-1)) hx hb dX10_colourings_26 (by decide) ?_
    obtain ⟨hg2, hs⟩ := gd_s hs
    refine va_iast hx hb hK hP hD hS 2 1 rfl rfl hg2 dX10_colourings_27 (fun H locs hP hD hS => ?_)
    have hP : va_P (dC, dI) vwCl [(a_y, .inr (10, [.int y_n, .ref a_y_list, .int y_sets, .ref a_y_others, .int y_otherMany, .ref a_y_costs, .long y_above, .long y_below, .ref a_y_table, .long y_by, .ref a_y_basis, .ref a_y_isSeen, .ref a_y_colour, .ref a_y_rest, .ref a_y_makes, .ref a_y_worst])), (a_y_list, .inl (c_y_list, 16, .inl y_list)), (a_y_colour, .inl (c_y_colour, 10, .inl (upd y_colour (0 : Int32).toNatClampNeg (-1))))] H := hP
    have hD : va_D A [(a_y, .inr (10, [.int y_n, .ref a_y_list, .int y_sets, .ref a_y_others, .int y_otherMany, .ref a_y_costs, .long y_above, .long y_below, .ref a_y_table, .long y_by, .ref a_y_basis, .ref a_y_isSeen, .ref a_y_colour, .ref a_y_rest, .ref a_y_makes, .ref a_y_worst])), (a_y_list, .inl (c_y_list, 16, .inl y_list)), (a_y_colour, .inl (c_y_colour, 10, .inl (upd y_colour (0 : Int32).toNatClampNeg (-1))))] := hD
    obtain ⟨e28, he28, hs⟩ := bd_s hs
    have hX28 : ∀ (H : Heap) (locs : List Loc) (ls : Array Slot), va_P (dC, dI) vwCl [(a_y, .inr (10, [.int y_n, .ref a_y_list, .int y_sets, .ref a_y_others, .int y_otherMany, .ref a_y_costs, .long y_above, .long y_below, .ref a_y_table, .long y_by, .ref a_y_basis, .ref a_y_isSeen, .ref a_y_colour, .ref a_y_rest, .ref a_y_makes, .ref a_y_worst])), (a_y_list, .inl (c_y_list, 16, .inl y_list)), (a_y_colour, .inl (c_y_colour, 10, .inl e28.2))] H → va_D A [(a_y, .inr (10, [.int y_n, .ref a_y_list, .int y_sets, .ref a_y_others, .int y_otherMany, .ref a_y_costs, .long y_above, .long y_below, .ref a_y_table, .long y_by, .ref a_y_basis, .ref a_y_isSeen, .ref a_y_colour, .ref a_y_rest, .ref a_y_makes, .ref a_y_worst])), (a_y_list, .inl (c_y_list, 16, .inl y_list)), (a_y_colour, .inl (c_y_colour, 10, .inl e28.2))] → va_S A s.heap H locs → lv_has ls 4 [(2, .int e28.1)] → Z H locs 0 0 (F0 m 95 ls []) := by
      intro H locs ls hP hD hS hl
      refine hZv ?_
      refine lv_iload_n hx hb dX10_colourings_95 rfl (lv_at hl 0 rfl) ?_
      replace hs := Option.some.inj hs
      subst hs
      exact W.iret (v := e28.1) hx hb hr (fun t ht hW => ⟨⟨e28.1, (), rfl, rfl, by rw [ht]; exact hP, va_K.moved hW.alike hK, hD⟩, hS.F ht⟩) hS.2.2 dX10_colourings_96
    clear hs
    have hL28 : ∀ (n : Nat) (s28 : Int32 × Int32 × (Nat → Int32)) (H : Heap) (locs : List Loc) (ls : Array Slot), itr (pX10_colourings_L28 y_n y_sets y_list p1) n s28 = some e28 → va_P (dC, dI) vwCl [(a_y, .inr (10, [.int y_n, .ref a_y_list, .int y_sets, .ref a_y_others, .int y_otherMany, .ref a_y_costs, .long y_above, .long y_below, .ref a_y_table, .long y_by, .ref a_y_basis, .ref a_y_isSeen, .ref a_y_colour, .ref a_y_rest, .ref a_y_makes, .ref a_y_worst])), (a_y_list, .inl (c_y_list, 16, .inl y_list)), (a_y_colour, .inl (c_y_colour, 10, .inl s28.2.2))] H → va_D A [(a_y, .inr (10, [.int y_n, .ref a_y_list, .int y_sets, .ref a_y_others, .int y_otherMany, .ref a_y_costs, .long y_above, .long y_below, .ref a_y_table, .long y_by, .ref a_y_basis, .ref a_y_isSeen, .ref a_y_colour, .ref a_y_rest, .ref a_y_makes, .ref a_y_worst])), (a_y_list, .inl (c_y_list, 16, .inl y_list)), (a_y_colour, .inl (c_y_colour, 10, .inl s28.2.2))] → va_S A s.heap H locs → lv_has ls 4 [(0, .ref a_y), (1, .int p1), (2, .int s28.1), (3, .int s28.2.1)] → Z H locs 0 0 (F0 m 28 ls []) := by
      intro n
      induction n with
      | zero =>
        intro s28 H locs ls hn
        exact (itr_0 hn).elim
      | succ n ih =>
        intro s28 H locs ls hn hP hD hS hl
        obtain ⟨y3, hs, hn⟩ := itr_s hn
        unfold pX10_colourings_L28 at hs
        refine hZv ?_
        refine lv_iload_n hx hb dX10_colourings_28 rfl (lv_at hl 3 rfl) ?_
        refine lv_if_lt (tgt := 95) hx hb dX10_colourings_29 (by decide) (fun hc => ?_) (fun hc => ?_)
        · replace hs := it_t hc hs
          replace hs := Option.some.inj hs
          subst hs
          obtain rfl : (s28.1, s28.2.2) = e28 := hn
          exact hZw (hX28 H locs ls hP hD hS (lv_sub hl [2] rfl))
        · replace hs := it_f hc hs
          refine lv_aload_n hx hb dX10_colourings_32 rfl (lv_at hl 0 rfl) ?_
          refine va_get (D := (dC, dI)) (ci := 10) (v := .ref a_y_colour) (C := RX10) (T := TX10) (N := 16) hx hb hts hiX10 hown hK hP 0 rfl rfl 12 (by decide) hf30 (fun _ h9 => h9) rfl dX10_colourings_33 ?_
          refine lv_iload_n hx hb dX10_colourings_36 rfl (lv_at hl 3 rfl) ?_
          refine lv_dup2_11 hx hb dX10_colourings_37 rfl rfl ?_
          obtain ⟨hg4, hs⟩ := gd_s hs
          refine va_iald hx hb hK hP 2 1 rfl rfl hg4 dX10_colourings_38 ?_
          refine lv_iconst (v := 1) hx hb dX10_colourings_39 (by decide) ?_
          refine lv_iadd hx hb dX10_colourings_40 ?_
          obtain ⟨hg5, hs⟩ := gd_s hs
          refine va_iast hx hb hK hP hD hS 2 1 rfl rfl hg5 dX10_colourings_41 (fun H locs hP hD hS => ?_)
          have hP : va_P (dC, dI) vwCl [(a_y, .inr (10, [.int y_n, .ref a_y_list, .int y_sets, .ref a_y_others, .int y_otherMany, .ref a_y_costs, .long y_above, .long y_below, .ref a_y_table, .long y_by, .ref a_y_basis, .ref a_y_isSeen, .ref a_y_colour, .ref a_y_rest, .ref a_y_makes, .ref a_y_worst])), (a_y_list, .inl (c_y_list, 16, .inl y_list)), (a_y_colour, .inl (c_y_colour, 10, .inl (upd s28.2.2 s28.2.1.toNatClampNeg ((s28.2.2 s28.2.1.toNatClampNeg) + 1))))] H := hP
          have hD : va_D A [(a_y, .inr (10, [.int y_n, .ref a_y_list, .int y_sets, .ref a_y_others, .int y_otherMany, .ref a_y_costs, .long y_above, .long y_below, .ref a_y_table, .long y_by, .ref a_y_basis, .ref a_y_isSeen, .ref a_y_colour, .ref a_y_rest, .ref a_y_makes, .ref a_y_worst])), (a_y_list, .inl (c_y_list, 16, .inl y_list)), (a_y_colour, .inl (c_y_colour, 10, .inl (upd s28.2.2 s28.2.1.toNatClampNeg ((s28.2.2 s28.2.1.toNatClampNeg) + 1))))] := hD
          refine lv_aload_n hx hb dX10_colourings_42 rfl (lv_at hl 0 rfl) ?_
          refine va_get (D := (dC, dI)) (ci := 10) (v := .ref a_y_colour) (C := RX10) (T := TX10) (N := 16) hx hb hts hiX10 hown hK hP 0 rfl rfl 12 (by decide) hf30 (fun _ h9 => h9) rfl dX10_colourings_43 ?_
          refine lv_iload_n hx hb dX10_colourings_46 rfl (lv_at hl 3 rfl) ?_
          obtain ⟨hg6, hs⟩ := gd_s hs
          refine va_iald hx hb hK hP 2 1 rfl rfl hg6 dX10_colourings_47 ?_
          refine lv_iload_n hx hb dX10_colourings_48 rfl (lv_at hl 1 rfl) ?_
          refine lv_icmp_ne (tgt := 58) hx hb dX10_colourings_49 (by decide) (fun hc => ?_) (fun hc => ?_)
          · replace hs := it_f hc hs
            refine lv_aload_n hx hb dX10_colourings_58 rfl (lv_at hl 0 rfl) ?_
            refine lv_iload_n hx hb dX10_colourings_59 rfl (lv_at hl 3 rfl) ?_
            obtain ⟨r7, hr7, hs⟩ := bd_s hs
            refine kc_i (isC := [0, 1, 2]) (isR := []) (pm := [0, 1, 2]) (wr := []) (w1 := [(a_y, .inr (10, [.int y_n, .ref a_y_list, .int y_sets, .ref a_y_others, .int y_otherMany, .ref a_y_costs, .long y_above, .long y_below, .ref a_y_table, .long y_by, .ref a_y_basis, .ref a_y_isSeen, .ref a_y_colour, .ref a_y_rest, .ref a_y_makes, .ref a_y_worst])), (a_y_list, .inl (c_y_list, 16, .inl y_list)), (a_y_colour, .inl (c_y_colour, 10, .inl (upd s28.2.2 s28.2.1.toNatClampNeg ((s28.2.2 s28.2.1.toNatClampNeg) + 1))))]) (w2 := [(a_y, .inr (10, [.int y_n, .ref a_y_list, .int y_sets, .ref a_y_others, .int y_otherMany, .ref a_y_costs, .long y_above, .long y_below, .ref a_y_table, .long y_by, .ref a_y_basis, .ref a_y_isSeen, .ref a_y_colour, .ref a_y_rest, .ref a_y_makes, .ref a_y_worst])), (a_y_list, .inl (c_y_list, 16, .inl y_list)), (a_y_colour, .inl (c_y_colour, 10, .inl (upd s28.2.2 s28.2.1.toNatClampNeg ((s28.2.2 s28.2.1.toNatClampNeg) + 1))))]) (va_runV (As := [.int s28.2.1]) (rest := []) ⟨hx, hb, hml, hown, hts⟩ (c_X10_isOne l dC dI a_y a_y_list a_y_others a_y_costs a_y_table a_y_basis a_y_isSeen a_y_colour a_y_rest a_y_makes a_y_worst c_y_list c_y_colour H.size y_n y_sets y_otherMany y_above y_below y_by y_list (upd s28.2.2 s28.2.1.toNatClampNeg ((s28.2.2 s28.2.1.toNatClampNeg) + 1)) s28.2.1 r7 hr7) (cwV 1 hts gX10_colourings_X10_isOne rfl rfl rfl (by decide +kernel) ⟨Nat.le_of_ble_eq_true rfl, Nat.le_of_ble_eq_true rfl⟩) (kp_V hK hP hD hS hA hN (isC := [0, 1, 2]) (isT := [0, 1]) (wc := [(a_y, .inr (10, [.int y_n, .ref a_y_list, .int y_sets, .ref a_y_others, .int y_otherMany, .ref a_y_costs, .long y_above, .long y_below, .ref a_y_table, .long y_by, .ref a_y_basis, .ref a_y_isSeen, .ref a_y_colour, .ref a_y_rest, .ref a_y_makes, .ref a_y_worst])), (a_y_list, .inl (c_y_list, 16, .inl y_list)), (a_y_colour, .inl (c_y_colour, 10, .inl (upd s28.2.2 s28.2.1.toNatClampNeg ((s28.2.2 s28.2.1.toNatClampNeg) + 1))))]) rfl (by decide +kernel) rfl (ci := 10) (q0 := 0) rfl rfl) rfl rfl hl.1 rfl (lv_room (Nat.le_of_ble_eq_true rfl)) dX10_colourings_60 ⟨Nat.le_of_ble_eq_true rfl, Nat.le_of_ble_eq_true rfl⟩) hP hD hS hA rfl rfl (by decide +kernel) (by decide +kernel) rfl (by decide +kernel) (fun H locs hP hD hS => ?_)
            refine lv_if_ne (tgt := 28) hx hb dX10_colourings_63 (by decide) (fun hc => ?_) (fun hc => ?_)
            · replace hs := it_f hc hs
              replace hs := Option.some.inj hs
              subst hs
              exact hZw (ih (s28.1, s28.2.1, upd s28.2.2 s28.2.1.toNatClampNeg ((s28.2.2 s28.2.1.toNatClampNeg) + 1)) H locs ls hn hP hD hS hl)
            · replace hs := it_t hc hs
              refine lv_iload_n hx hb dX10_colourings_66 rfl (lv_at hl 3 rfl) ?_
              refine lv_iconst (v := 1) hx hb dX10_colourings_67 (by decide) ?_
              refine lv_iadd hx hb dX10_colourings_68 ?_
              refine lv_aload_n hx hb dX10_colourings_69 rfl (lv_at hl 0 rfl) ?_
              refine va_get (D := (dC, dI)) (ci := 10) (v := .int y_n) (C := RX10) (T := TX10) (N := 16) hx hb hts hiX10 hown hK hP 0 rfl rfl 0 (by decide) hf43 (fun _ h9 => h9) rfl dX10_colourings_70 ?_
              refine lv_icmp_ne (tgt := 82) hx hb dX10_colourings_73 (by decide) (fun hc => ?_) (fun hc => ?_)
              · replace hs := it_f hc hs
                refine lv_iinc (v := s28.2.1 + 1) (lv' := [(3, .int (s28.2.1 + 1)), (0, .ref a_y), (1, .int p1), (2, .int s28.1)]) hx hb dX10_colourings_82 hl (k := 3) rfl (by rfl) (by decide) rfl (fun ls hl => ?_)
                refine lv_aload_n hx hb dX10_colourings_85 rfl (lv_at hl 1 rfl) ?_
                refine va_get (D := (dC, dI)) (ci := 10) (v := .ref a_y_colour) (C := RX10) (T := TX10) (N := 16) hx hb hts hiX10 hown hK hP 0 rfl rfl 12 (by decide) hf30 (fun _ h9 => h9) rfl dX10_colourings_86 ?_
                refine lv_iload_n hx hb dX10_colourings_89 rfl (lv_at hl 0 rfl) ?_
                refine lv_iconst (v := (-1)) hx hb dX10_colourings_90 (by decide) ?_
                obtain ⟨hg8, hs⟩ := gd_s hs
                refine va_iast hx hb hK hP hD hS 2 1 rfl rfl hg8 dX10_colourings_91 (fun H locs hP hD hS => ?_)
                have hP : va_P (dC, dI) vwCl [(a_y, .inr (10, [.int y_n, .ref a_y_list, .int y_sets, .ref a_y_others, .int y_otherMany, .ref a_y_costs, .long y_above, .long y_below, .ref a_y_table, .long y_by, .ref a_y_basis, .ref a_y_isSeen, .ref a_y_colour, .ref a_y_rest, .ref a_y_makes, .ref a_y_worst])), (a_y_list, .inl (c_y_list, 16, .inl y_list)), (a_y_colour, .inl (c_y_colour, 10, .inl (upd (upd s28.2.2 s28.2.1.toNatClampNeg ((s28.2.2 s28.2.1.toNatClampNeg) + 1)) (s28.2.1 + 1).toNatClampNeg (-1))))] H := hP
                have hD : va_D A [(a_y, .inr (10, [.int y_n, .ref a_y_list, .int y_sets, .ref a_y_others, .int y_otherMany, .ref a_y_costs, .long y_above, .long y_below, .ref a_y_table, .long y_by, .ref a_y_basis, .ref a_y_isSeen, .ref a_y_colour, .ref a_y_rest, .ref a_y_makes, .ref a_y_worst])), (a_y_list, .inl (c_y_list, 16, .inl y_list)), (a_y_colour, .inl (c_y_colour, 10, .inl (upd (upd s28.2.2 s28.2.1.toNatClampNeg ((s28.2.2 s28.2.1.toNatClampNeg) + 1)) (s28.2.1 + 1).toNatClampNeg (-1))))] := hD
                refine lv_goto (tgt := 28) hx hb dX10_colourings_92 (by decide) ?_
                replace hs := Option.some.inj hs
                subst hs
                exact hZw (ih (s28.1, s28.2.1 + 1, upd (upd s28.2.2 s28.2.1.toNatClampNeg ((s28.2.2 s28.2.1.toNatClampNeg) + 1)) (s28.2.1 + 1).toNatClampNeg (-1)) H locs ls hn hP hD hS (lv_sub hl [1, 2, 3, 0] rfl))
              · replace hs := it_t hc hs
                refine lv_iinc (v := s28.1 + 1) (lv' := [(2, .int (s28.1 + 1)), (0, .ref a_y), (1, .int p1), (3, .int s28.2.1)]) hx hb dX10_colourings_76 hl (k := 2) rfl (by rfl) (by decide) rfl (fun ls hl => ?_)
                refine lv_goto (tgt := 28) hx hb dX10_colourings_79 (by decide) ?_
                replace hs := Option.some.inj hs
                subst hs
                exact hZw (ih (s28.1 + 1, s28.2.1, upd s28.2.2 s28.2.1.toNatClampNeg ((s28.2.2 s28.2.1.toNatClampNeg) + 1)) H locs ls hn hP hD hS (lv_sub hl [1, 2, 0, 3] rfl))
          · replace hs := it_t hc hs
            refine lv_iinc (v := s28.2.1 + (-1)) (lv' := [(3, .int (s28.2.1 + (-1))), (0, .ref a_y), (1, .int p1), (2, .int s28.1)]) hx hb dX10_colourings_52 hl (k := 3) rfl (by rfl) (by decide) rfl (fun ls hl => ?_)
            refine lv_goto (tgt := 28) hx hb dX10_colourings_55 (by decide) ?_
            replace hs := Option.some.inj hs
            subst hs
            exact hZw (ih (s28.1, s28.2.1 + (-1), upd s28.2.2 s28.2.1.toNatClampNeg ((s28.2.2 s28.2.1.toNatClampNeg) + 1)) H locs ls hn hP hD hS (lv_sub hl [1, 2, 3, 0] rfl))
    obtain ⟨n28, hn28⟩ := lp_ex he28
    exact hZw (hL28 n28 (0, 0, upd y_colour (0 : Int32).toNatClampNeg (-1)) H locs ls hn28 hP hD hS (lv_sub hl [2, 3, 1, 0] rfl))
  · replace hs := it_t hc hs
    refine lv_bipush (v := (-2)) hx hb dX10_colourings_14 (by decide) ?_
    replace hs := Option.some.inj hs
    subst hs
    exact W.iret (v := (-2)) hx hb hr (fun t ht hW => ⟨⟨(-2), (), rfl, rfl, by rw [ht]; exact hP, va_K.moved hW.alike hK, hD⟩, hS.F ht⟩) hS.2.2 dX10_colourings_16
noncomputable def pX10_colouring_J54_5 (s14 : Int32 × Int32) (t54 : Unit) : Option ((Int32 × Int32) ⊕ (Int32)) :=
  some (Sum.inl (0, s14.2 + 1))
noncomputable def pX10_colouring_L14_3 (y_sets : Int32) (y_list : Nat → Int32) (s2 : Int32) (s14 : Int32 × Int32) : Option ((Int32 × Int32) ⊕ (Int32)) :=
  if y_sets ≤ s14.2 then (some (Sum.inr s14.1)) else (if s14.1 = 0 then (pX10_colouring_J54_5 s14 ()) else (gd (vp_in s14.2 16) (if ((y_list s14.2.toNatClampNeg) &&& s2) = 0 then (pX10_colouring_J54_5 s14 ()) else (gd (vp_in s14.2 16) (if ((y_list s14.2.toNatClampNeg) &&& (s2 ^^^ (-1))) = 0 then (pX10_colouring_J54_5 s14 ()) else (some (Sum.inl (1, s14.2 + 1))))))))
noncomputable def pX10_colouring_L2 (y_n : Int32) (y_sets : Int32) (y_list : Nat → Int32) (s2 : Int32) : Option ((Int32) ⊕ ((Int32) ⊕ (Unit))) :=
  Option.bind (pX10_all y_n) (fun r2 => if r2 < s2 then (some (Sum.inr (Sum.inr ()))) else (Option.bind (lp (pX10_colouring_L14_3 y_sets y_list s2) (1, 0)) (fun e14 => if e14 = 0 then (some (Sum.inl (s2 + 1))) else (some (Sum.inr (Sum.inl s2))))))
noncomputable def pX10_colouring (y_n : Int32) (y_sets : Int32) (y_list : Nat → Int32) : Option (Int32) :=
  Option.bind (lp (pX10_colouring_L2 y_n y_sets y_list) 0) (Sum.elim (fun e2_0 => some e2_0) (fun e2_1 => some (-1)))
set_option maxHeartbeats 4000000 in
set_option maxRecDepth 100000 in
theorem c_X10_colouring (l : Launch) (dC : Nat → ClassId) (dI : Nat → Nat → Nat) (a_y : Nat) (a_y_list : Nat) (a_y_others : Nat) (a_y_costs : Nat) (a_y_table : Nat) (a_y_basis : Nat) (a_y_isSeen : Nat) (a_y_colour : Nat) (a_y_rest : Nat) (a_y_makes : Nat) (a_y_worst : Nat) (c_y_list : ClassId) (sz : Nat) (y_n : Int32) (y_sets : Int32) (y_otherMany : Int32) (y_above : Int64) (y_below : Int64) (y_by : Int64) (y_list : Nat → Int32) (rv : Int32) (hs : pX10_colouring y_n y_sets y_list = some rv) : Met l yX10_colouring wsX10_colouring ({ frames := 1, cells := 0, slots := 0, locals := 20 }) (sPc [.ref a_y] (dC, dI) [(c_y_list, .int)] [(a_y, .inr (10, [.int y_n, .ref a_y_list, .int y_sets, .ref a_y_others, .int y_otherMany, .ref a_y_costs, .long y_above, .long y_below, .ref a_y_table, .long y_by, .ref a_y_basis, .ref a_y_isSeen, .ref a_y_colour, .ref a_y_rest, .ref a_y_makes, .ref a_y_worst])), (a_y_list, .inl (c_y_list, 16, .inl y_list))] sz) (va_Qi (fun (r : Int32) (_ : Unit) => r = rv) (sB (dC, dI) [(c_y_list, .int)] (va_A [(a_y, .inr (10, [.int y_n, .ref a_y_list, .int y_sets, .ref a_y_others, .int y_otherMany, .ref a_y_costs, .long y_above, .long y_below, .ref a_y_table, .long y_by, .ref a_y_basis, .ref a_y_isSeen, .ref a_y_colour, .ref a_y_rest, .ref a_y_makes, .ref a_y_worst])), (a_y_list, .inl (c_y_list, 16, .inl y_list))] sz) [(a_y, .inr (10, [.int y_n, .ref a_y_list, .int y_sets, .ref a_y_others, .int y_otherMany, .ref a_y_costs, .long y_above, .long y_below, .ref a_y_table, .long y_by, .ref a_y_basis, .ref a_y_isSeen, .ref a_y_colour, .ref a_y_rest, .ref a_y_makes, .ref a_y_worst])), (a_y_list, .inl (c_y_list, 16, .inl y_list))]) (va_A [(a_y, .inr (10, [.int y_n, .ref a_y_list, .int y_sets, .ref a_y_others, .int y_otherMany, .ref a_y_costs, .long y_above, .long y_below, .ref a_y_table, .long y_by, .ref a_y_basis, .ref a_y_isSeen, .ref a_y_colour, .ref a_y_rest, .ref a_y_makes, .ref a_y_worst])), (a_y_list, .inl (c_y_list, 16, .inl y_list))] sz)) 0 0 (va_A [(a_y, .inr (10, [.int y_n, .ref a_y_list, .int y_sets, .ref a_y_others, .int y_otherMany, .ref a_y_costs, .long y_above, .long y_below, .ref a_y_table, .long y_by, .ref a_y_basis, .ref a_y_isSeen, .ref a_y_colour, .ref a_y_rest, .ref a_y_makes, .ref a_y_worst])), (a_y_list, .inl (c_y_list, 16, .inl y_list))] sz) := by
  refine Met.ofW (cc := cX10_colouring) (maxL := 4) (ret := (some .int)) (by decide) rfl ?_
  intro p e s m args below meth c s₁ B hml hv
  obtain ⟨rfl, hsz, hP, hK, hD0, hN⟩ := hv
  have hx := B.exec
  have hb := B.bytes
  have hr := B.returns
  have hts := atoms_spec (ws := wsX10_colouring) B.pre
  have hown : s.vm.findClass RX10 = some m.cls := findClass_of_methodNamed B.named
  have hlocks := B.notSynchronized
  subst hsz
  have hD := hD0.self (sz := s.heap.size)
  generalize hAe : va_A [(a_y, .inr (10, [.int y_n, .ref a_y_list, .int y_sets, .ref a_y_others, .int y_otherMany, .ref a_y_costs, .long y_above, .long y_below, .ref a_y_table, .long y_by, .ref a_y_basis, .ref a_y_isSeen, .ref a_y_colour, .ref a_y_rest, .ref a_y_makes, .ref a_y_worst])), (a_y_list, .inl (c_y_list, 16, .inl y_list))] s.heap.size = A at hD hN ⊢
  have hA : ∀ q : Nat, s.heap.size ≤ q → A q := fun q h => by rw [← hAe]; exact Or.inr h
  have hS : va_S A s.heap s.heap [] := va_S.rf
  have hP : va_P (dC, dI) vwCl [(a_y, .inr (10, [.int y_n, .ref a_y_list, .int y_sets, .ref a_y_others, .int y_otherMany, .ref a_y_costs, .long y_above, .long y_below, .ref a_y_table, .long y_by, .ref a_y_basis, .ref a_y_isSeen, .ref a_y_colour, .ref a_y_rest, .ref a_y_makes, .ref a_y_worst])), (a_y_list, .inl (c_y_list, 16, .inl y_list))] s.heap := hP
  have hl := lv_entry ([.ref a_y]) (n := 4) (Nat.le_of_ble_eq_true rfl)
  rw [lg_entry_eq]
  generalize (lg_sl ([.ref a_y]) ++ List.replicate (4 - (lg_sl ([.ref a_y])).length) Slot.unset).toArray = ls at hl ⊢
  have hl : lv_has ls 4 [(0, .ref a_y)] := hl
  have hiX10 : ∀ w ∈ wsX100, w ∈ wsX10_colouring := fun _ h => List.mem_cons_of_mem _ (List.mem_append_right _ h)
  have hf61 := hts (.fieldLink RX10 61 "MeetSetsModel" "sets" "I") (t1_ (al_ h1_))
  have hf7 := hts (.fieldLink RX10 7 "MeetSetsModel" "list" "[I") (t1_ (al_ (t1_ h1_)))
  refine w_abs (fun Z hZv hZw => ?_)
  refine hZv ?_
  obtain ⟨H, hH⟩ : ∃ H, H = s.heap := ⟨_, rfl⟩
  obtain ⟨locs, hlo⟩ : ∃ L : List Loc, L = [] := ⟨_, rfl⟩
  rw [← hlo, ← hH]
  have hS : va_S A s.heap H locs := by rw [hlo, hH]; exact hS
  have hP : va_P (dC, dI) vwCl [(a_y, .inr (10, [.int y_n, .ref a_y_list, .int y_sets, .ref a_y_others, .int y_otherMany, .ref a_y_costs, .long y_above, .long y_below, .ref a_y_table, .long y_by, .ref a_y_basis, .ref a_y_isSeen, .ref a_y_colour, .ref a_y_rest, .ref a_y_makes, .ref a_y_worst])), (a_y_list, .inl (c_y_list, 16, .inl y_list))] H := by rw [hH]; exact hP
  clear hH hlo
  unfold pX10_colouring at hs
  refine lv_iconst (v := 0) hx hb dX10_colouring_0 (by decide) ?_
  refine lv_istore_n (lv' := [(1, .int 0), (0, .ref a_y)]) hx hb dX10_colouring_1 rfl hl (by decide) rfl (fun ls hl => ?_)
  obtain ⟨e2, he2, hs⟩ := bd_s hs
  have hX2_0 : ∀ (e2_0 : Int32), (Sum.inl e2_0) = e2 → ∀ (H : Heap) (locs : List Loc) (ls : Array Slot), va_P (dC, dI) vwCl [(a_y, .inr (10, [.int y_n, .ref a_y_list, .int y_sets, .ref a_y_others, .int y_otherMany, .ref a_y_costs, .long y_above, .long y_below, .ref a_y_table, .long y_by, .ref a_y_basis, .ref a_y_isSeen, .ref a_y_colour, .ref a_y_rest, .ref a_y_makes, .ref a_y_worst])), (a_y_list, .inl (c_y_list, 16, .inl y_list))] H → va_D A [(a_y, .inr (10, [.int y_n, .ref a_y_list, .int y_sets, .ref a_y_others, .int y_otherMany, .ref a_y_costs, .long y_above, .long y_below, .ref a_y_table, .long y_by, .ref a_y_basis, .ref a_y_isSeen, .ref a_y_colour, .ref a_y_rest, .ref a_y_makes, .ref a_y_worst])), (a_y_list, .inl (c_y_list, 16, .inl y_list))] → va_S A s.heap H locs → lv_has ls 4 [(1, .int e2_0)] → Z H locs 0 0 (F0 m 66 ls []) := by
    intro e2_0 he H locs ls hP hD hS hl
    subst he
    replace hs := sm_l hs
    refine hZv ?_
    refine lv_iload_n hx hb dX10_colouring_66 rfl (lv_at hl 0 rfl) ?_
    replace hs := Option.some.inj hs
    subst hs
    exact W.iret (v := e2_0) hx hb hr (fun t ht hW => ⟨⟨e2_0, (), rfl, rfl, by rw [ht]; exact hP, va_K.moved hW.alike hK, hD⟩, hS.F ht⟩) hS.2.2 dX10_colouring_67
  have hX2_1 : ∀ (e2_1 : Unit), (Sum.inr e2_1) = e2 → ∀ (H : Heap) (locs : List Loc) (ls : Array Slot), va_P (dC, dI) vwCl [(a_y, .inr (10, [.int y_n, .ref a_y_list, .int y_sets, .ref a_y_others, .int y_otherMany, .ref a_y_costs, .long y_above, .long y_below, .ref a_y_table, .long y_by, .ref a_y_basis, .ref a_y_isSeen, .ref a_y_colour, .ref a_y_rest, .ref a_y_makes, .ref a_y_worst])), (a_y_list, .inl (c_y_list, 16, .inl y_list))] H → va_D A [(a_y, .inr (10, [.int y_n, .ref a_y_list, .int y_sets, .ref a_y_others, .int y_otherMany, .ref a_y_costs, .long y_above, .long y_below, .ref a_y_table, .long y_by, .ref a_y_basis, .ref a_y_isSeen, .ref a_y_colour, .ref a_y_rest, .ref a_y_makes, .ref a_y_worst])), (a_y_list, .inl (c_y_list, 16, .inl y_list))] → va_S A s.heap H locs → lv_has ls 4 [] → Z H locs 0 0 (F0 m 74 ls []) := by
    intro e2_1 he H locs ls hP hD hS hl
    subst he
    replace hs := sm_r hs
    refine hZv ?_
    refine lv_iconst (v := (-1)) hx hb dX10_colouring_74 (by decide) ?_
    replace hs := Option.some.inj hs
    subst hs
    exact W.iret (v := (-1)) hx hb hr (fun t ht hW => ⟨⟨(-1), (), rfl, rfl, by rw [ht]; exact hP, va_K.moved hW.alike hK, hD⟩, hS.F ht⟩) hS.2.2 dX10_colouring_75
  clear hs
  have hL2 : ∀ (n : Nat) (s2 : Int32) (H : Heap) (locs : List Loc) (ls : Array Slot), itr (pX10_colouring_L2 y_n y_sets y_list) n s2 = some e2 → va_P (dC, dI) vwCl [(a_y, .inr (10, [.int y_n, .ref a_y_list, .int y_sets, .ref a_y_others, .int y_otherMany, .ref a_y_costs, .long y_above, .long y_below, .ref a_y_table, .long y_by, .ref a_y_basis, .ref a_y_isSeen, .ref a_y_colour, .ref a_y_rest, .ref a_y_makes, .ref a_y_worst])), (a_y_list, .inl (c_y_list, 16, .inl y_list))] H → va_D A [(a_y, .inr (10, [.int y_n, .ref a_y_list, .int y_sets, .ref a_y_others, .int y_otherMany, .ref a_y_costs, .long y_above, .long y_below, .ref a_y_table, .long y_by, .ref a_y_basis, .ref a_y_isSeen, .ref a_y_colour, .ref a_y_rest, .ref a_y_makes, .ref a_y_worst])), (a_y_list, .inl (c_y_list, 16, .inl y_list))] → va_S A s.heap H locs → lv_has ls 4 [(0, .ref a_y), (1, .int s2)] → Z H locs 0 0 (F0 m 2 ls []) := by
    intro n
    induction n with
    | zero =>
      intro s2 H locs ls hn
      exact (itr_0 hn).elim
    | succ n ih =>
      intro s2 H locs ls hn hP hD hS hl
      obtain ⟨y1, hs, hn⟩ := itr_s hn
      unfold pX10_colouring_L2 at hs
      refine hZv ?_
      refine lv_iload_n hx hb dX10_colouring_2 rfl (lv_at hl 1 rfl) ?_
      refine lv_aload_n hx hb dX10_colouring_3 rfl (lv_at hl 0 rfl) ?_
      obtain ⟨r2, hr2, hs⟩ := bd_s hs
      refine kc_i (isC := [0]) (isR := [1]) (pm := [1, 0]) (wr := [(a_y_list, .inl (c_y_list, 16, .inl y_list))]) (w1 := [(a_y, .inr (10, [.int y_n, .ref a_y_list, .int y_sets, .ref a_y_others, .int y_otherMany, .ref a_y_costs, .long y_above, .long y_below, .ref a_y_table, .long y_by, .ref a_y_basis, .ref a_y_isSeen, .ref a_y_colour, .ref a_y_rest, .ref a_y_makes, .ref a_y_worst]))]) (w2 := [(a_y, .inr (10, [.int y_n, .ref a_y_list, .int y_sets, .ref a_y_others, .int y_otherMany, .ref a_y_costs, .long y_above, .long y_below, .ref a_y_table, .long y_by, .ref a_y_basis, .ref a_y_isSeen, .ref a_y_colour, .ref a_y_rest, .ref a_y_makes, .ref a_y_worst])), (a_y_list, .inl (c_y_list, 16, .inl y_list))]) (va_runV (As := []) (rest := [.int s2]) ⟨hx, hb, hml, hown, hts⟩ (c_X10_all l dC dI a_y a_y_list a_y_others a_y_costs a_y_table a_y_basis a_y_isSeen a_y_colour a_y_rest a_y_makes a_y_worst H.size y_n y_sets y_otherMany y_above y_below y_by r2 hr2) (cwV 0 hts gX10_colouring_X10_all rfl rfl rfl (by decide +kernel) ⟨Nat.le_of_ble_eq_true rfl, Nat.le_of_ble_eq_true rfl⟩) (kp_V hK hP hD hS hA hN (isC := [0]) (isT := []) (wc := [(a_y, .inr (10, [.int y_n, .ref a_y_list, .int y_sets, .ref a_y_others, .int y_otherMany, .ref a_y_costs, .long y_above, .long y_below, .ref a_y_table, .long y_by, .ref a_y_basis, .ref a_y_isSeen, .ref a_y_colour, .ref a_y_rest, .ref a_y_makes, .ref a_y_worst]))]) rfl (by decide +kernel) rfl (ci := 10) (q0 := 0) rfl rfl) rfl rfl hl.1 rfl (lv_room (Nat.le_of_ble_eq_true rfl)) dX10_colouring_4 ⟨Nat.le_of_ble_eq_true rfl, Nat.le_of_ble_eq_true rfl⟩) hP hD hS hA rfl rfl (by decide +kernel) (by decide +kernel) rfl (by decide +kernel) (fun H locs hP hD hS => ?_)
      refine lv_icmp_gt (tgt := 74) hx hb dX10_colouring_7 (by decide) (fun hc => ?_) (fun hc => ?_)
      · replace hs := it_t hc hs
        replace hs := Option.some.inj hs
        subst hs
        obtain rfl : (Sum.inr ()) = e2 := hn
        exact hZw (hX2_1 () rfl H locs ls hP hD hS (lv_sub hl [] rfl))
      · replace hs := it_f hc hs
        refine lv_iconst (v := 1) hx hb dX10_colouring_10 (by decide) ?_
        refine lv_istore_n (lv' := [(2, .int 1), (0, .ref a_y), (1, .int s2)]) hx hb dX10_colouring_11 rfl hl (by decide) rfl (fun ls hl => ?_)
        refine lv_iconst (v := 0) hx hb dX10_colouring_12 (by decide) ?_
        refine lv_istore_n (lv' := [(3, .int 0), (2, .int 1), (0, .ref a_y), (1, .int s2)]) hx hb dX10_colouring_13 rfl hl (by decide) rfl (fun ls hl => ?_)
        obtain ⟨e14, he14, hs⟩ := bd_s hs
        have hX14 : ∀ (H : Heap) (locs : List Loc) (ls : Array Slot), va_P (dC, dI) vwCl [(a_y, .inr (10, [.int y_n, .ref a_y_list, .int y_sets, .ref a_y_others, .int y_otherMany, .ref a_y_costs, .long y_above, .long y_below, .ref a_y_table, .long y_by, .ref a_y_basis, .ref a_y_isSeen, .ref a_y_colour, .ref a_y_rest, .ref a_y_makes, .ref a_y_worst])), (a_y_list, .inl (c_y_list, 16, .inl y_list))] H → va_D A [(a_y, .inr (10, [.int y_n, .ref a_y_list, .int y_sets, .ref a_y_others, .int y_otherMany, .ref a_y_costs, .long y_above, .long y_below, .ref a_y_table, .long y_by, .ref a_y_basis, .ref a_y_isSeen, .ref a_y_colour, .ref a_y_rest, .ref a_y_makes, .ref a_y_worst])), (a_y_list, .inl (c_y_list, 16, .inl y_list))] → va_S A s.heap H locs → lv_has ls 4 [(0, .ref a_y), (1, .int s2), (2, .int e14)] → Z H locs 0 0 (F0 m 62 ls []) := by
          intro H locs ls hP hD hS hl
          refine hZv ?_
          refine lv_iload_n hx hb dX10_colouring_62 rfl (lv_at hl 2 rfl) ?_
          refine lv_if_eq (tgt := 68) hx hb dX10_colouring_63 (by decide) (fun hc => ?_) (fun hc => ?_)
          · replace hs := it_t hc hs
            refine lv_iinc (v := s2 + 1) (lv' := [(1, .int (s2 + 1)), (0, .ref a_y), (2, .int e14)]) hx hb dX10_colouring_68 hl (k := 1) rfl (by rfl) (by decide) rfl (fun ls hl => ?_)
            refine lv_goto (tgt := 2) hx hb dX10_colouring_71 (by decide) ?_
            replace hs := Option.some.inj hs
            subst hs
            exact hZw (ih (s2 + 1) H locs ls hn hP hD hS (lv_sub hl [1, 0] rfl))
          · replace hs := it_f hc hs
            replace hs := Option.some.inj hs
            subst hs
            obtain rfl : (Sum.inl s2) = e2 := hn
            exact hZw (hX2_0 s2 rfl H locs ls hP hD hS (lv_sub hl [1] rfl))
        clear hs
        have hL14 : ∀ (n : Nat) (s14 : Int32 × Int32) (H : Heap) (locs : List Loc) (ls : Array Slot), itr (pX10_colouring_L14_3 y_sets y_list s2) n s14 = some e14 → va_P (dC, dI) vwCl [(a_y, .inr (10, [.int y_n, .ref a_y_list, .int y_sets, .ref a_y_others, .int y_otherMany, .ref a_y_costs, .long y_above, .long y_below, .ref a_y_table, .long y_by, .ref a_y_basis, .ref a_y_isSeen, .ref a_y_colour, .ref a_y_rest, .ref a_y_makes, .ref a_y_worst])), (a_y_list, .inl (c_y_list, 16, .inl y_list))] H → va_D A [(a_y, .inr (10, [.int y_n, .ref a_y_list, .int y_sets, .ref a_y_others, .int y_otherMany, .ref a_y_costs, .long y_above, .long y_below, .ref a_y_table, .long y_by, .ref a_y_basis, .ref a_y_isSeen, .ref a_y_colour, .ref a_y_rest, .ref a_y_makes, .ref a_y_worst])), (a_y_list, .inl (c_y_list, 16, .inl y_list))] → va_S A s.heap H locs → lv_has ls 4 [(0, .ref a_y), (1, .int s2), (2, .int s14.1), (3, .int s14.2)] → Z H locs 0 0 (F0 m 14 ls []) := by
          intro n
          induction n with
          | zero =>
            intro s14 H locs ls hn
            exact (itr_0 hn).elim
          | succ n ih =>
            intro s14 H locs ls hn hP hD hS hl
            obtain ⟨y4, hs, hn⟩ := itr_s hn
            unfold pX10_colouring_L14_3 at hs
            refine hZv ?_
            refine lv_iload_n hx hb dX10_colouring_14 rfl (lv_at hl 3 rfl) ?_
            refine lv_aload_n hx hb dX10_colouring_15 rfl (lv_at hl 0 rfl) ?_
            refine va_get (D := (dC, dI)) (ci := 10) (v := .int y_sets) (C := RX10) (T := TX10) (N := 16) hx hb hts hiX10 hown hK hP 0 rfl rfl 2 (by decide) hf61 (fun _ h9 => h9) rfl dX10_colouring_16 ?_
            refine lv_icmp_ge (tgt := 62) hx hb dX10_colouring_19 (by decide) (fun hc => ?_) (fun hc => ?_)
            · replace hs := it_t hc hs
              replace hs := Option.some.inj hs
              subst hs
              obtain rfl : s14.1 = e14 := hn
              exact hZw (hX14 H locs ls hP hD hS (lv_sub hl [0, 1, 2] rfl))
            · replace hs := it_f hc hs
              refine lv_iload_n hx hb dX10_colouring_22 rfl (lv_at hl 2 rfl) ?_
              have hJ54 : ∀ (t54 : Unit), pX10_colouring_J54_5 s14 t54 = some y4 → ∀ (H : Heap) (locs : List Loc) (ls : Array Slot), va_P (dC, dI) vwCl [(a_y, .inr (10, [.int y_n, .ref a_y_list, .int y_sets, .ref a_y_others, .int y_otherMany, .ref a_y_costs, .long y_above, .long y_below, .ref a_y_table, .long y_by, .ref a_y_basis, .ref a_y_isSeen, .ref a_y_colour, .ref a_y_rest, .ref a_y_makes, .ref a_y_worst])), (a_y_list, .inl (c_y_list, 16, .inl y_list))] H → va_D A [(a_y, .inr (10, [.int y_n, .ref a_y_list, .int y_sets, .ref a_y_others, .int y_otherMany, .ref a_y_costs, .long y_above, .long y_below, .ref a_y_table, .long y_by, .ref a_y_basis, .ref a_y_isSeen, .ref a_y_colour, .ref a_y_rest, .ref a_y_makes, .ref a_y_worst])), (a_y_list, .inl (c_y_list, 16, .inl y_list))] → va_S A s.heap H locs → lv_has ls 4 [(0, .ref a_y), (1, .int s2), (3, .int s14.2)] → Z H locs 0 0 (F0 m 54 ls []) := by
                intro t54 hs H locs ls hP hD hS hl
                refine hZv ?_
                unfold pX10_colouring_J54_5 at hs
                refine lv_iconst (v := 0) hx hb dX10_colouring_54 (by decide) ?_
                refine lv_istore_n (lv' := [(2, .int 0), (0, .ref a_y), (1, .int s2), (3, .int s14.2)]) hx hb dX10_colouring_55 rfl hl (by decide) rfl (fun ls hl => ?_)
                refine lv_iinc (v := s14.2 + 1) (lv' := [(3, .int (s14.2 + 1)), (2, .int 0), (0, .ref a_y), (1, .int s2)]) hx hb dX10_colouring_56 hl (k := 3) rfl (by rfl) (by decide) rfl (fun ls hl => ?_)
                refine lv_goto (tgt := 14) hx hb dX10_colouring_59 (by decide) ?_
                replace hs := Option.some.inj hs
                subst hs
                exact hZw (ih (0, s14.2 + 1) H locs ls hn hP hD hS (lv_sub hl [2, 3, 1, 0] rfl))
              refine lv_if_eq (tgt := 54) hx hb dX10_colouring_23 (by decide) (fun hc => ?_) (fun hc => ?_)
              · replace hs := it_t hc hs
                exact hZw (hJ54 () hs H locs ls hP hD hS (lv_sub hl [0, 1, 3] rfl))
              · replace hs := it_f hc hs
                refine lv_aload_n hx hb dX10_colouring_26 rfl (lv_at hl 0 rfl) ?_
                refine va_get (D := (dC, dI)) (ci := 10) (v := .ref a_y_list) (C := RX10) (T := TX10) (N := 16) hx hb hts hiX10 hown hK hP 0 rfl rfl 1 (by decide) hf7 (fun _ h9 => h9) rfl dX10_colouring_27 ?_
                refine lv_iload_n hx hb dX10_colouring_30 rfl (lv_at hl 3 rfl) ?_
                obtain ⟨hg6, hs⟩ := gd_s hs
                refine va_iald hx hb hK hP 1 0 rfl rfl hg6 dX10_colouring_31 ?_
                refine lv_iload_n hx hb dX10_colouring_32 rfl (lv_at hl 1 rfl) ?_
                refine lv_iand hx hb dX10_colouring_33 ?_
                refine lv_if_eq (tgt := 54) hx hb dX10_colouring_34 (by decide) (fun hc => ?_) (fun hc => ?_)
                · replace hs := it_t hc hs
                  exact hZw (hJ54 () hs H locs ls hP hD hS (lv_sub hl [0, 1, 3] rfl))
                · replace hs := it_f hc hs
                  refine lv_aload_n hx hb dX10_colouring_37 rfl (lv_at hl 0 rfl) ?_
                  refine va_get (D := (dC, dI)) (ci := 10) (v := .ref a_y_list) (C := RX10) (T := TX10) (N := 16) hx hb hts hiX10 hown hK hP 0 rfl rfl 1 (by decide) hf7 (fun _ h9 => h9) rfl dX10_colouring_38 ?_
                  refine lv_iload_n hx hb dX10_colouring_41 rfl (lv_at hl 3 rfl) ?_
                  obtain ⟨hg7, hs⟩ := gd_s hs
                  refine va_iald hx hb hK hP 1 0 rfl rfl hg7 dX10_colouring_42 ?_
                  refine lv_iload_n hx hb dX10_colouring_43 rfl (lv_at hl 1 rfl) ?_
                  refine lv_iconst (v := (-1)) hx hb dX10_colouring_44 (by decide) ?_
                  refine lv_ixor hx hb dX10_colouring_45 ?_
                  refine lv_iand hx hb dX10_colouring_46 ?_
                  refine lv_if_eq (tgt := 54) hx hb dX10_colouring_47 (by decide) (fun hc => ?_) (fun hc => ?_)
                  · replace hs := it_t hc hs
                    exact hZw (hJ54 () hs H locs ls hP hD hS (lv_sub hl [0, 1, 3] rfl))
                  · replace hs := it_f hc hs
                    refine lv_iconst (v := 1) hx hb dX10_colouring_50 (by decide) ?_
                    refine lv_goto (tgt := 55) hx hb dX10_colouring_51 (by decide) ?_
                    refine lv_istore_n (lv' := [(2, .int 1), (0, .ref a_y), (1, .int s2), (3, .int s14.2)]) hx hb dX10_colouring_55 rfl hl (by decide) rfl (fun ls hl => ?_)
                    refine lv_iinc (v := s14.2 + 1) (lv' := [(3, .int (s14.2 + 1)), (2, .int 1), (0, .ref a_y), (1, .int s2)]) hx hb dX10_colouring_56 hl (k := 3) rfl (by rfl) (by decide) rfl (fun ls hl => ?_)
                    refine lv_goto (tgt := 14) hx hb dX10_colouring_59 (by decide) ?_
                    replace hs := Option.some.inj hs
                    subst hs
                    exact hZw (ih (1, s14.2 + 1) H locs ls hn hP hD hS (lv_sub hl [2, 3, 1, 0] rfl))
        obtain ⟨n14, hn14⟩ := lp_ex he14
        exact hZw (hL14 n14 (1, 0) H locs ls hn14 hP hD hS (lv_sub hl [2, 3, 1, 0] rfl))
  obtain ⟨n2, hn2⟩ := lp_ex he2
  exact hZw (hL2 n2 0 H locs ls hn2 hP hD hS (lv_sub hl [1, 0] rfl))
noncomputable def pX10_holder_L8 (y_sets : Int32) (y_rest : Nat → Int32) (p1 : Int32) (p2 : Int32) (s8 : Int32 × Int32 × Int32) : Option ((Int32 × Int32 × Int32) ⊕ (Int32 × Int32)) :=
  if y_sets ≤ s8.2.2 then (some (Sum.inr (s8.1, s8.2.1))) else (if ((p2 >>> (s8.2.2 &&& 31)) &&& 1) = 1 then (gd (vp_in s8.2.2 16) (if (((y_rest s8.2.2.toNatClampNeg) >>> (p1 &&& 31)) &&& 1) = 1 then (some (Sum.inl (s8.2.2, s8.2.1 + 1, s8.2.2 + 1))) else (some (Sum.inl (s8.1, s8.2.1, s8.2.2 + 1))))) else (some (Sum.inl (s8.1, s8.2.1, s8.2.2 + 1))))
noncomputable def pX10_holder (y_sets : Int32) (y_rest : Nat → Int32) (p1 : Int32) (p2 : Int32) : Option (Int32) :=
  Option.bind (lp (pX10_holder_L8 y_sets y_rest p1 p2) ((-1), 0, 0)) (fun e8 => if e8.2 = 1 then (some e8.1) else (some (-1)))
set_option maxHeartbeats 4000000 in
set_option maxRecDepth 100000 in
theorem c_X10_holder (l : Launch) (dC : Nat → ClassId) (dI : Nat → Nat → Nat) (a_y : Nat) (a_y_list : Nat) (a_y_others : Nat) (a_y_costs : Nat) (a_y_table : Nat) (a_y_basis : Nat) (a_y_isSeen : Nat) (a_y_colour : Nat) (a_y_rest : Nat) (a_y_makes : Nat) (a_y_worst : Nat) (c_y_rest : ClassId) (sz : Nat) (y_n : Int32) (y_sets : Int32) (y_otherMany : Int32) (y_above : Int64) (y_below : Int64) (y_by : Int64) (y_rest : Nat → Int32) (p1 : Int32) (p2 : Int32) (rv : Int32) (hs : pX10_holder y_sets y_rest p1 p2 = some rv) : Met l yX10_holder wsX10_holder ({ frames := 0, cells := 0, slots := 0, locals := 0 }) (sPc [.ref a_y, .int p1, .int p2] (dC, dI) [(c_y_rest, .int)] [(a_y, .inr (10, [.int y_n, .ref a_y_list, .int y_sets, .ref a_y_others, .int y_otherMany, .ref a_y_costs, .long y_above, .long y_below, .ref a_y_table, .long y_by, .ref a_y_basis, .ref a_y_isSeen, .ref a_y_colour, .ref a_y_rest, .ref a_y_makes, .ref a_y_worst])), (a_y_rest, .inl (c_y_rest, 16, .inl y_rest))] sz) (va_Qi (fun (r : Int32) (_ : Unit) => r = rv) (sB (dC, dI) [(c_y_rest, .int)] (va_A [(a_y, .inr (10, [.int y_n, .ref a_y_list, .int y_sets, .ref a_y_others, .int y_otherMany, .ref a_y_costs, .long y_above, .long y_below, .ref a_y_table, .long y_by, .ref a_y_basis, .ref a_y_isSeen, .ref a_y_colour, .ref a_y_rest, .ref a_y_makes, .ref a_y_worst])), (a_y_rest, .inl (c_y_rest, 16, .inl y_rest))] sz) [(a_y, .inr (10, [.int y_n, .ref a_y_list, .int y_sets, .ref a_y_others, .int y_otherMany, .ref a_y_costs, .long y_above, .long y_below, .ref a_y_table, .long y_by, .ref a_y_basis, .ref a_y_isSeen, .ref a_y_colour, .ref a_y_rest, .ref a_y_makes, .ref a_y_worst])), (a_y_rest, .inl (c_y_rest, 16, .inl y_rest))]) (va_A [(a_y, .inr (10, [.int y_n, .ref a_y_list, .int y_sets, .ref a_y_others, .int y_otherMany, .ref a_y_costs, .long y_above, .long y_below, .ref a_y_table, .long y_by, .ref a_y_basis, .ref a_y_isSeen, .ref a_y_colour, .ref a_y_rest, .ref a_y_makes, .ref a_y_worst])), (a_y_rest, .inl (c_y_rest, 16, .inl y_rest))] sz)) 0 0 (va_A [(a_y, .inr (10, [.int y_n, .ref a_y_list, .int y_sets, .ref a_y_others, .int y_otherMany, .ref a_y_costs, .long y_above, .long y_below, .ref a_y_table, .long y_by, .ref a_y_basis, .ref a_y_isSeen, .ref a_y_colour, .ref a_y_rest, .ref a_y_makes, .ref a_y_worst])), (a_y_rest, .inl (c_y_rest, 16, .inl y_rest))] sz) := by
  refine Met.ofW (cc := cX10_holder) (maxL := 6) (ret := (some .int)) (by decide) rfl ?_
  intro p e s m args below meth c s₁ B hml hv
  obtain ⟨rfl, hsz, hP, hK, hD0, hN⟩ := hv
  have hx := B.exec
  have hb := B.bytes
  have hr := B.returns
  have hts := atoms_spec (ws := wsX10_holder) B.pre
  have hown : s.vm.findClass RX10 = some m.cls := findClass_of_methodNamed B.named
  have hlocks := B.notSynchronized
  subst hsz
  have hD := hD0.self (sz := s.heap.size)
  generalize hAe : va_A [(a_y, .inr (10, [.int y_n, .ref a_y_list, .int y_sets, .ref a_y_others, .int y_otherMany, .ref a_y_costs, .long y_above, .long y_below, .ref a_y_table, .long y_by, .ref a_y_basis, .ref a_y_isSeen, .ref a_y_colour, .ref a_y_rest, .ref a_y_makes, .ref a_y_worst])), (a_y_rest, .inl (c_y_rest, 16, .inl y_rest))] s.heap.size = A at hD hN ⊢
  have hA : ∀ q : Nat, s.heap.size ≤ q → A q := fun q h => by rw [← hAe]; exact Or.inr h
  have hS : va_S A s.heap s.heap [] := va_S.rf
  have hP : va_P (dC, dI) vwCl [(a_y, .inr (10, [.int y_n, .ref a_y_list, .int y_sets, .ref a_y_others, .int y_otherMany, .ref a_y_costs, .long y_above, .long y_below, .ref a_y_table, .long y_by, .ref a_y_basis, .ref a_y_isSeen, .ref a_y_colour, .ref a_y_rest, .ref a_y_makes, .ref a_y_worst])), (a_y_rest, .inl (c_y_rest, 16, .inl y_rest))] s.heap := hP
  have hl := lv_entry ([.ref a_y, .int p1, .int p2]) (n := 6) (Nat.le_of_ble_eq_true rfl)
  rw [lg_entry_eq]
  generalize (lg_sl ([.ref a_y, .int p1, .int p2]) ++ List.replicate (6 - (lg_sl ([.ref a_y, .int p1, .int p2])).length) Slot.unset).toArray = ls at hl ⊢
  have hl : lv_has ls 6 [(0, .ref a_y), (1, .int p1), (2, .int p2)] := hl
  have hiX10 : ∀ w ∈ wsX100, w ∈ wsX10_holder := fun _ h => List.mem_cons_of_mem _ (List.mem_append_right _ h)
  have hf61 := hts (.fieldLink RX10 61 "MeetSetsModel" "sets" "I") (t1_ (al_ h1_))
  have hf33 := hts (.fieldLink RX10 33 "MeetSetsModel" "rest" "[I") (t1_ (al_ (t1_ h1_)))
  refine w_abs (fun Z hZv hZw => ?_)
  refine hZv ?_
  obtain ⟨H, hH⟩ : ∃ H, H = s.heap := ⟨_, rfl⟩
  obtain ⟨locs, hlo⟩ : ∃ L : List Loc, L = [] := ⟨_, rfl⟩
  rw [← hlo, ← hH]
  have hS : va_S A s.heap H locs := by rw [hlo, hH]; exact hS
  have hP : va_P (dC, dI) vwCl [(a_y, .inr (10, [.int y_n, .ref a_y_list, .int y_sets, .ref a_y_others, .int y_otherMany, .ref a_y_costs, .long y_above, .long y_below, .ref a_y_table, .long y_by, .ref a_y_basis, .ref a_y_isSeen, .ref a_y_colour, .ref a_y_rest, .ref a_y_makes, .ref a_y_worst])), (a_y_rest, .inl (c_y_rest, 16, .inl y_rest))] H := by rw [hH]; exact hP
  clear hH hlo
  unfold pX10_holder at hs
  refine lv_iconst (v := (-1)) hx hb dX10_holder_0 (by decide) ?_
  refine lv_istore_n (lv' := [(3, .int (-1)), (0, .ref a_y), (1, .int p1), (2, .int p2)]) hx hb dX10_holder_1 rfl hl (by decide) rfl (fun ls hl => ?_)
  refine lv_iconst (v := 0) hx hb dX10_holder_2 (by decide) ?_
  refine lv_istore (lv' := [(4, .int 0), (3, .int (-1)), (0, .ref a_y), (1, .int p1), (2, .int p2)]) hx hb dX10_holder_3 hl (by decide) rfl (fun ls hl => ?_)
  refine lv_iconst (v := 0) hx hb dX10_holder_5 (by decide) ?_
  refine lv_istore (lv' := [(5, .int 0), (4, .int 0), (3, .int (-1)), (0, .ref a_y), (1, .int p1), (2, .int p2)]) hx hb dX10_holder_6 hl (by decide) rfl (fun ls hl => ?_)
  obtain ⟨e8, he8, hs⟩ := bd_s hs
  have hX8 : ∀ (H : Heap) (locs : List Loc) (ls : Array Slot), va_P (dC, dI) vwCl [(a_y, .inr (10, [.int y_n, .ref a_y_list, .int y_sets, .ref a_y_others, .int y_otherMany, .ref a_y_costs, .long y_above, .long y_below, .ref a_y_table, .long y_by, .ref a_y_basis, .ref a_y_isSeen, .ref a_y_colour, .ref a_y_rest, .ref a_y_makes, .ref a_y_worst])), (a_y_rest, .inl (c_y_rest, 16, .inl y_rest))] H → va_D A [(a_y, .inr (10, [.int y_n, .ref a_y_list, .int y_sets, .ref a_y_others, .int y_otherMany, .ref a_y_costs, .long y_above, .long y_below, .ref a_y_table, .long y_by, .ref a_y_basis, .ref a_y_isSeen, .ref a_y_colour, .ref a_y_rest, .ref a_y_makes, .ref a_y_worst])), (a_y_rest, .inl (c_y_rest, 16, .inl y_rest))] → va_S A s.heap H locs → lv_has ls 6 [(3, .int e8.1), (4, .int e8.2)] → Z H locs 0 0 (F0 m 54 ls []) := by
    intro H locs ls hP hD hS hl
    refine hZv ?_
    refine lv_iload hx hb dX10_holder_54 (lv_at hl 1 rfl) ?_
    refine lv_iconst (v := 1) hx hb dX10_holder_56 (by decide) ?_
    refine lv_icmp_ne (tgt := 64) hx hb dX10_holder_57 (by decide) (fun hc => ?_) (fun hc => ?_)
    · replace hs := it_f hc hs
      refine lv_iconst (v := (-1)) hx hb dX10_holder_64 (by decide) ?_
      replace hs := Option.some.inj hs
      subst hs
      exact W.iret (v := (-1)) hx hb hr (fun t ht hW => ⟨⟨(-1), (), rfl, rfl, by rw [ht]; exact hP, va_K.moved hW.alike hK, hD⟩, hS.F ht⟩) hS.2.2 dX10_holder_65
    · replace hs := it_t hc hs
      refine lv_iload_n hx hb dX10_holder_60 rfl (lv_at hl 0 rfl) ?_
      refine lv_goto (tgt := 65) hx hb dX10_holder_61 (by decide) ?_
      replace hs := Option.some.inj hs
      subst hs
      exact W.iret (v := e8.1) hx hb hr (fun t ht hW => ⟨⟨e8.1, (), rfl, rfl, by rw [ht]; exact hP, va_K.moved hW.alike hK, hD⟩, hS.F ht⟩) hS.2.2 dX10_holder_65
  clear hs
  have hL8 : ∀ (n : Nat) (s8 : Int32 × Int32 × Int32) (H : Heap) (locs : List Loc) (ls : Array Slot), itr (pX10_holder_L8 y_sets y_rest p1 p2) n s8 = some e8 → va_P (dC, dI) vwCl [(a_y, .inr (10, [.int y_n, .ref a_y_list, .int y_sets, .ref a_y_others, .int y_otherMany, .ref a_y_costs, .long y_above, .long y_below, .ref a_y_table, .long y_by, .ref a_y_basis, .ref a_y_isSeen, .ref a_y_colour, .ref a_y_rest, .ref a_y_makes, .ref a_y_worst])), (a_y_rest, .inl (c_y_rest, 16, .inl y_rest))] H → va_D A [(a_y, .inr (10, [.int y_n, .ref a_y_list, .int y_sets, .ref a_y_others, .int y_otherMany, .ref a_y_costs, .long y_above, .long y_below, .ref a_y_table, .long y_by, .ref a_y_basis, .ref a_y_isSeen, .ref a_y_colour, .ref a_y_rest, .ref a_y_makes, .ref a_y_worst])), (a_y_rest, .inl (c_y_rest, 16, .inl y_rest))] → va_S A s.heap H locs → lv_has ls 6 [(0, .ref a_y), (1, .int p1), (2, .int p2), (3, .int s8.1), (4, .int s8.2.1), (5, .int s8.2.2)] → Z H locs 0 0 (F0 m 8 ls []) := by
    intro n
    induction n with
    | zero =>
      intro s8 H locs ls hn
      exact (itr_0 hn).elim
    | succ n ih =>
      intro s8 H locs ls hn hP hD hS hl
      obtain ⟨y1, hs, hn⟩ := itr_s hn
      unfold pX10_holder_L8 at hs
      refine hZv ?_
      refine lv_iload hx hb dX10_holder_8 (lv_at hl 5 rfl) ?_
      refine lv_aload_n hx hb dX10_holder_10 rfl (lv_at hl 0 rfl) ?_
      refine va_get (D := (dC, dI)) (ci := 10) (v := .int y_sets) (C := RX10) (T := TX10) (N := 16) hx hb hts hiX10 hown hK hP 0 rfl rfl 2 (by decide) hf61 (fun _ h9 => h9) rfl dX10_holder_11 ?_
      refine lv_icmp_ge (tgt := 54) hx hb dX10_holder_14 (by decide) (fun hc => ?_) (fun hc => ?_)
      · replace hs := it_t hc hs
        replace hs := Option.some.inj hs
        subst hs
        obtain rfl : (s8.1, s8.2.1) = e8 := hn
        exact hZw (hX8 H locs ls hP hD hS (lv_sub hl [3, 4] rfl))
      · replace hs := it_f hc hs
        refine lv_iload_n hx hb dX10_holder_17 rfl (lv_at hl 2 rfl) ?_
        refine lv_iload hx hb dX10_holder_18 (lv_at hl 5 rfl) ?_
        refine lv_ishr hx hb dX10_holder_20 ?_
        refine lv_iconst (v := 1) hx hb dX10_holder_21 (by decide) ?_
        refine lv_iand hx hb dX10_holder_22 ?_
        refine lv_iconst (v := 1) hx hb dX10_holder_23 (by decide) ?_
        refine lv_icmp_ne (tgt := 48) hx hb dX10_holder_24 (by decide) (fun hc => ?_) (fun hc => ?_)
        · replace hs := it_f hc hs
          refine lv_iinc (v := s8.2.2 + 1) (lv' := [(5, .int (s8.2.2 + 1)), (0, .ref a_y), (1, .int p1), (2, .int p2), (3, .int s8.1), (4, .int s8.2.1)]) hx hb dX10_holder_48 hl (k := 5) rfl (by rfl) (by decide) rfl (fun ls hl => ?_)
          refine lv_goto (tgt := 8) hx hb dX10_holder_51 (by decide) ?_
          replace hs := Option.some.inj hs
          subst hs
          exact hZw (ih (s8.1, s8.2.1, s8.2.2 + 1) H locs ls hn hP hD hS (lv_sub hl [1, 2, 3, 4, 5, 0] rfl))
        · replace hs := it_t hc hs
          refine lv_aload_n hx hb dX10_holder_27 rfl (lv_at hl 0 rfl) ?_
          refine va_get (D := (dC, dI)) (ci := 10) (v := .ref a_y_rest) (C := RX10) (T := TX10) (N := 16) hx hb hts hiX10 hown hK hP 0 rfl rfl 13 (by decide) hf33 (fun _ h9 => h9) rfl dX10_holder_28 ?_
          refine lv_iload hx hb dX10_holder_31 (lv_at hl 5 rfl) ?_
          obtain ⟨hg2, hs⟩ := gd_s hs
          refine va_iald hx hb hK hP 1 0 rfl rfl hg2 dX10_holder_33 ?_
          refine lv_iload_n hx hb dX10_holder_34 rfl (lv_at hl 1 rfl) ?_
          refine lv_ishr hx hb dX10_holder_35 ?_
          refine lv_iconst (v := 1) hx hb dX10_holder_36 (by decide) ?_
          refine lv_iand hx hb dX10_holder_37 ?_
          refine lv_iconst (v := 1) hx hb dX10_holder_38 (by decide) ?_
          refine lv_icmp_ne (tgt := 48) hx hb dX10_holder_39 (by decide) (fun hc => ?_) (fun hc => ?_)
          · replace hs := it_f hc hs
            refine lv_iinc (v := s8.2.2 + 1) (lv' := [(5, .int (s8.2.2 + 1)), (0, .ref a_y), (1, .int p1), (2, .int p2), (3, .int s8.1), (4, .int s8.2.1)]) hx hb dX10_holder_48 hl (k := 5) rfl (by rfl) (by decide) rfl (fun ls hl => ?_)
            refine lv_goto (tgt := 8) hx hb dX10_holder_51 (by decide) ?_
            replace hs := Option.some.inj hs
            subst hs
            exact hZw (ih (s8.1, s8.2.1, s8.2.2 + 1) H locs ls hn hP hD hS (lv_sub hl [1, 2, 3, 4, 5, 0] rfl))
          · replace hs := it_t hc hs
            refine lv_iload hx hb dX10_holder_42 (lv_at hl 5 rfl) ?_
            refine lv_istore_n (lv' := [(3, .int s8.2.2), (0, .ref a_y), (1, .int p1), (2, .int p2), (4, .int s8.2.1), (5, .int s8.2.2)]) hx hb dX10_holder_44 rfl hl (by decide) rfl (fun ls hl => ?_)
            refine lv_iinc (v := s8.2.1 + 1) (lv' := [(4, .int (s8.2.1 + 1)), (3, .int s8.2.2), (0, .ref a_y), (1, .int p1), (2, .int p2), (5, .int s8.2.2)]) hx hb dX10_holder_45 hl (k := 4) rfl (by rfl) (by decide) rfl (fun ls hl => ?_)
            refine lv_iinc (v := s8.2.2 + 1) (lv' := [(5, .int (s8.2.2 + 1)), (4, .int (s8.2.1 + 1)), (3, .int s8.2.2), (0, .ref a_y), (1, .int p1), (2, .int p2)]) hx hb dX10_holder_48 hl (k := 5) rfl (by rfl) (by decide) rfl (fun ls hl => ?_)
            refine lv_goto (tgt := 8) hx hb dX10_holder_51 (by decide) ?_
            replace hs := Option.some.inj hs
            subst hs
            exact hZw (ih (s8.2.2, s8.2.1 + 1, s8.2.2 + 1) H locs ls hn hP hD hS (lv_sub hl [3, 4, 5, 2, 1, 0] rfl))
  obtain ⟨n8, hn8⟩ := lp_ex he8
  exact hZw (hL8 n8 ((-1), 0, 0) H locs ls hn8 hP hD hS (lv_sub hl [3, 4, 5, 2, 1, 0] rfl))
noncomputable def pX10_lies_J66_3 (s18 : Int32 × Int32) (t66 : Unit) : Option ((Int32 × Int32) ⊕ (Int32)) :=
  some (Sum.inl (1, s18.2 + 1))
noncomputable def pX10_lies_J70_4 (s18 : Int32 × Int32) (t70 : Unit) : Option ((Int32 × Int32) ⊕ (Int32)) :=
  some (Sum.inl (0, s18.2 + 1))
noncomputable def pX10_lies_L18 (y_sets : Int32) (y_rest : Nat → Int32) (p1 : Int32) (p2 : Int32) (s18 : Int32 × Int32) : Option ((Int32 × Int32) ⊕ (Int32)) :=
  if y_sets ≤ s18.2 then (some (Sum.inr s18.1)) else (if s18.1 = 0 then (if s18.2 = p1 then (pX10_lies_J70_4 s18 ()) else (if ((p2 >>> (s18.2 &&& 31)) &&& 1) = 1 then (gd (vp_in p1 16) (gd (vp_in s18.2 16) (if ((y_rest p1.toNatClampNeg) &&& ((y_rest s18.2.toNatClampNeg) ^^^ (-1))) = 0 then (pX10_lies_J66_3 s18 ()) else (pX10_lies_J70_4 s18 ())))) else (pX10_lies_J70_4 s18 ()))) else (pX10_lies_J66_3 s18 ()))
noncomputable def pX10_lies (y_sets : Int32) (y_rest : Nat → Int32) (p1 : Int32) (p2 : Int32) : Option (Int32) :=
  gd (vp_in p1 16) (Option.bind (if (y_rest p1.toNatClampNeg) = 0 then (some 1) else (some 0) : Option (Int32)) (fun t14 => Option.bind (lp (pX10_lies_L18 y_sets y_rest p1 p2) (t14, 0)) (fun e18 => gd (narrow .boolean (.int e18) = .int e18) (some e18))))
set_option maxHeartbeats 4000000 in
set_option maxRecDepth 100000 in
theorem c_X10_lies (l : Launch) (dC : Nat → ClassId) (dI : Nat → Nat → Nat) (a_y : Nat) (a_y_list : Nat) (a_y_others : Nat) (a_y_costs : Nat) (a_y_table : Nat) (a_y_basis : Nat) (a_y_isSeen : Nat) (a_y_colour : Nat) (a_y_rest : Nat) (a_y_makes : Nat) (a_y_worst : Nat) (c_y_rest : ClassId) (sz : Nat) (y_n : Int32) (y_sets : Int32) (y_otherMany : Int32) (y_above : Int64) (y_below : Int64) (y_by : Int64) (y_rest : Nat → Int32) (p1 : Int32) (p2 : Int32) (rv : Int32) (hs : pX10_lies y_sets y_rest p1 p2 = some rv) : Met l yX10_lies wsX10_lies ({ frames := 0, cells := 0, slots := 0, locals := 0 }) (sPc [.ref a_y, .int p1, .int p2] (dC, dI) [(c_y_rest, .int)] [(a_y, .inr (10, [.int y_n, .ref a_y_list, .int y_sets, .ref a_y_others, .int y_otherMany, .ref a_y_costs, .long y_above, .long y_below, .ref a_y_table, .long y_by, .ref a_y_basis, .ref a_y_isSeen, .ref a_y_colour, .ref a_y_rest, .ref a_y_makes, .ref a_y_worst])), (a_y_rest, .inl (c_y_rest, 16, .inl y_rest))] sz) (va_Qi (fun (r : Int32) (_ : Unit) => r = rv) (sB (dC, dI) [(c_y_rest, .int)] (va_A [(a_y, .inr (10, [.int y_n, .ref a_y_list, .int y_sets, .ref a_y_others, .int y_otherMany, .ref a_y_costs, .long y_above, .long y_below, .ref a_y_table, .long y_by, .ref a_y_basis, .ref a_y_isSeen, .ref a_y_colour, .ref a_y_rest, .ref a_y_makes, .ref a_y_worst])), (a_y_rest, .inl (c_y_rest, 16, .inl y_rest))] sz) [(a_y, .inr (10, [.int y_n, .ref a_y_list, .int y_sets, .ref a_y_others, .int y_otherMany, .ref a_y_costs, .long y_above, .long y_below, .ref a_y_table, .long y_by, .ref a_y_basis, .ref a_y_isSeen, .ref a_y_colour, .ref a_y_rest, .ref a_y_makes, .ref a_y_worst])), (a_y_rest, .inl (c_y_rest, 16, .inl y_rest))]) (va_A [(a_y, .inr (10, [.int y_n, .ref a_y_list, .int y_sets, .ref a_y_others, .int y_otherMany, .ref a_y_costs, .long y_above, .long y_below, .ref a_y_table, .long y_by, .ref a_y_basis, .ref a_y_isSeen, .ref a_y_colour, .ref a_y_rest, .ref a_y_makes, .ref a_y_worst])), (a_y_rest, .inl (c_y_rest, 16, .inl y_rest))] sz)) 0 0 (va_A [(a_y, .inr (10, [.int y_n, .ref a_y_list, .int y_sets, .ref a_y_others, .int y_otherMany, .ref a_y_costs, .long y_above, .long y_below, .ref a_y_table, .long y_by, .ref a_y_basis, .ref a_y_isSeen, .ref a_y_colour, .ref a_y_rest, .ref a_y_makes, .ref a_y_worst])), (a_y_rest, .inl (c_y_rest, 16, .inl y_rest))] sz) := by
  refine Met.ofW (cc := cX10_lies) (maxL := 5) (ret := (some .boolean)) (by decide) rfl ?_
  intro p e s m args below meth c s₁ B hml hv
  obtain ⟨rfl, hsz, hP, hK, hD0, hN⟩ := hv
  have hx := B.exec
  have hb := B.bytes
  have hr := B.returns
  have hts := atoms_spec (ws := wsX10_lies) B.pre
  have hown : s.vm.findClass RX10 = some m.cls := findClass_of_methodNamed B.named
  have hlocks := B.notSynchronized
  subst hsz
  have hD := hD0.self (sz := s.heap.size)
  generalize hAe : va_A [(a_y, .inr (10, [.int y_n, .ref a_y_list, .int y_sets, .ref a_y_others, .int y_otherMany, .ref a_y_costs, .long y_above, .long y_below, .ref a_y_table, .long y_by, .ref a_y_basis, .ref a_y_isSeen, .ref a_y_colour, .ref a_y_rest, .ref a_y_makes, .ref a_y_worst])), (a_y_rest, .inl (c_y_rest, 16, .inl y_rest))] s.heap.size = A at hD hN ⊢
  have hA : ∀ q : Nat, s.heap.size ≤ q → A q := fun q h => by rw [← hAe]; exact Or.inr h
  have hS : va_S A s.heap s.heap [] := va_S.rf
  have hP : va_P (dC, dI) vwCl [(a_y, .inr (10, [.int y_n, .ref a_y_list, .int y_sets, .ref a_y_others, .int y_otherMany, .ref a_y_costs, .long y_above, .long y_below, .ref a_y_table, .long y_by, .ref a_y_basis, .ref a_y_isSeen, .ref a_y_colour, .ref a_y_rest, .ref a_y_makes, .ref a_y_worst])), (a_y_rest, .inl (c_y_rest, 16, .inl y_rest))] s.heap := hP
  have hl := lv_entry ([.ref a_y, .int p1, .int p2]) (n := 5) (Nat.le_of_ble_eq_true rfl)
  rw [lg_entry_eq]
  generalize (lg_sl ([.ref a_y, .int p1, .int p2]) ++ List.replicate (5 - (lg_sl ([.ref a_y, .int p1, .int p2])).length) Slot.unset).toArray = ls at hl ⊢
  have hl : lv_has ls 5 [(0, .ref a_y), (1, .int p1), (2, .int p2)] := hl
  have hiX10 : ∀ w ∈ wsX100, w ∈ wsX10_lies := fun _ h => List.mem_cons_of_mem _ (List.mem_append_right _ h)
  have hf33 := hts (.fieldLink RX10 33 "MeetSetsModel" "rest" "[I") (t1_ (al_ h1_))
  have hf61 := hts (.fieldLink RX10 61 "MeetSetsModel" "sets" "I") (t1_ (al_ (t1_ h1_)))
  refine w_abs (fun Z hZv hZw => ?_)
  refine hZv ?_
  obtain ⟨H, hH⟩ : ∃ H, H = s.heap := ⟨_, rfl⟩
  obtain ⟨locs, hlo⟩ : ∃ L : List Loc, L = [] := ⟨_, rfl⟩
  rw [← hlo, ← hH]
  have hS : va_S A s.heap H locs := by rw [hlo, hH]; exact hS
  have hP : va_P (dC, dI) vwCl [(a_y, .inr (10, [.int y_n, .ref a_y_list, .int y_sets, .ref a_y_others, .int y_otherMany, .ref a_y_costs, .long y_above, .long y_below, .ref a_y_table, .long y_by, .ref a_y_basis, .ref a_y_isSeen, .ref a_y_colour, .ref a_y_rest, .ref a_y_makes, .ref a_y_worst])), (a_y_rest, .inl (c_y_rest, 16, .inl y_rest))] H := by rw [hH]; exact hP
  clear hH hlo
  unfold pX10_lies at hs
  refine lv_aload_n hx hb dX10_lies_0 rfl (lv_at hl 0 rfl) ?_
  refine va_get (D := (dC, dI)) (ci := 10) (v := .ref a_y_rest) (C := RX10) (T := TX10) (N := 16) hx hb hts hiX10 hown hK hP 0 rfl rfl 13 (by decide) hf33 (fun _ h9 => h9) rfl dX10_lies_1 ?_
  refine lv_iload_n hx hb dX10_lies_4 rfl (lv_at hl 1 rfl) ?_
  obtain ⟨hg1, hs⟩ := gd_s hs
  refine va_iald hx hb hK hP 1 0 rfl rfl hg1 dX10_lies_5 ?_
  obtain ⟨t14, hq14, hs⟩ := bd_s hs
  have hJ14 : ∀ (H : Heap) (locs : List Loc) (ls : Array Slot), va_P (dC, dI) vwCl [(a_y, .inr (10, [.int y_n, .ref a_y_list, .int y_sets, .ref a_y_others, .int y_otherMany, .ref a_y_costs, .long y_above, .long y_below, .ref a_y_table, .long y_by, .ref a_y_basis, .ref a_y_isSeen, .ref a_y_colour, .ref a_y_rest, .ref a_y_makes, .ref a_y_worst])), (a_y_rest, .inl (c_y_rest, 16, .inl y_rest))] H → va_D A [(a_y, .inr (10, [.int y_n, .ref a_y_list, .int y_sets, .ref a_y_others, .int y_otherMany, .ref a_y_costs, .long y_above, .long y_below, .ref a_y_table, .long y_by, .ref a_y_basis, .ref a_y_isSeen, .ref a_y_colour, .ref a_y_rest, .ref a_y_makes, .ref a_y_worst])), (a_y_rest, .inl (c_y_rest, 16, .inl y_rest))] → va_S A s.heap H locs → lv_has ls 5 [(0, .ref a_y), (1, .int p1), (2, .int p2)] → Z H locs 0 0 (F0 m 14 ls [.int t14]) := by
    intro H locs ls hP hD hS hl
    refine hZv ?_
    refine lv_istore_n (lv' := [(3, .int t14), (0, .ref a_y), (1, .int p1), (2, .int p2)]) hx hb dX10_lies_14 rfl hl (by decide) rfl (fun ls hl => ?_)
    refine lv_iconst (v := 0) hx hb dX10_lies_15 (by decide) ?_
    refine lv_istore (lv' := [(4, .int 0), (3, .int t14), (0, .ref a_y), (1, .int p1), (2, .int p2)]) hx hb dX10_lies_16 hl (by decide) rfl (fun ls hl => ?_)
    obtain ⟨e18, he18, hs⟩ := bd_s hs
    have hX18 : ∀ (H : Heap) (locs : List Loc) (ls : Array Slot), va_P (dC, dI) vwCl [(a_y, .inr (10, [.int y_n, .ref a_y_list, .int y_sets, .ref a_y_others, .int y_otherMany, .ref a_y_costs, .long y_above, .long y_below, .ref a_y_table, .long y_by, .ref a_y_basis, .ref a_y_isSeen, .ref a_y_colour, .ref a_y_rest, .ref a_y_makes, .ref a_y_worst])), (a_y_rest, .inl (c_y_rest, 16, .inl y_rest))] H → va_D A [(a_y, .inr (10, [.int y_n, .ref a_y_list, .int y_sets, .ref a_y_others, .int y_otherMany, .ref a_y_costs, .long y_above, .long y_below, .ref a_y_table, .long y_by, .ref a_y_basis, .ref a_y_isSeen, .ref a_y_colour, .ref a_y_rest, .ref a_y_makes, .ref a_y_worst])), (a_y_rest, .inl (c_y_rest, 16, .inl y_rest))] → va_S A s.heap H locs → lv_has ls 5 [(3, .int e18)] → Z H locs 0 0 (F0 m 78 ls []) := by
      intro H locs ls hP hD hS hl
      refine hZv ?_
      refine lv_iload_n hx hb dX10_lies_78 rfl (lv_at hl 0 rfl) ?_
      obtain ⟨hb7, hs⟩ := gd_s hs
      replace hs := Option.some.inj hs
      subst hs
      exact W.zret (v := e18) (ty := .boolean) hx hb hr hb7 (fun t ht hW => ⟨⟨e18, (), rfl, rfl, by rw [ht]; exact hP, va_K.moved hW.alike hK, hD⟩, hS.F ht⟩) hS.2.2 dX10_lies_79
    clear hs
    have hL18 : ∀ (n : Nat) (s18 : Int32 × Int32) (H : Heap) (locs : List Loc) (ls : Array Slot), itr (pX10_lies_L18 y_sets y_rest p1 p2) n s18 = some e18 → va_P (dC, dI) vwCl [(a_y, .inr (10, [.int y_n, .ref a_y_list, .int y_sets, .ref a_y_others, .int y_otherMany, .ref a_y_costs, .long y_above, .long y_below, .ref a_y_table, .long y_by, .ref a_y_basis, .ref a_y_isSeen, .ref a_y_colour, .ref a_y_rest, .ref a_y_makes, .ref a_y_worst])), (a_y_rest, .inl (c_y_rest, 16, .inl y_rest))] H → va_D A [(a_y, .inr (10, [.int y_n, .ref a_y_list, .int y_sets, .ref a_y_others, .int y_otherMany, .ref a_y_costs, .long y_above, .long y_below, .ref a_y_table, .long y_by, .ref a_y_basis, .ref a_y_isSeen, .ref a_y_colour, .ref a_y_rest, .ref a_y_makes, .ref a_y_worst])), (a_y_rest, .inl (c_y_rest, 16, .inl y_rest))] → va_S A s.heap H locs → lv_has ls 5 [(0, .ref a_y), (1, .int p1), (2, .int p2), (3, .int s18.1), (4, .int s18.2)] → Z H locs 0 0 (F0 m 18 ls []) := by
      intro n
      induction n with
      | zero =>
        intro s18 H locs ls hn
        exact (itr_0 hn).elim
      | succ n ih =>
        intro s18 H locs ls hn hP hD hS hl
        obtain ⟨y2, hs, hn⟩ := itr_s hn
        unfold pX10_lies_L18 at hs
        refine hZv ?_
        refine lv_iload hx hb dX10_lies_18 (lv_at hl 4 rfl) ?_
        refine lv_aload_n hx hb dX10_lies_20 rfl (lv_at hl 0 rfl) ?_
        refine va_get (D := (dC, dI)) (ci := 10) (v := .int y_sets) (C := RX10) (T := TX10) (N := 16) hx hb hts hiX10 hown hK hP 0 rfl rfl 2 (by decide) hf61 (fun _ h9 => h9) rfl dX10_lies_21 ?_
        refine lv_icmp_ge (tgt := 78) hx hb dX10_lies_24 (by decide) (fun hc => ?_) (fun hc => ?_)
        · replace hs := it_t hc hs
          replace hs := Option.some.inj hs
          subst hs
          obtain rfl : s18.1 = e18 := hn
          exact hZw (hX18 H locs ls hP hD hS (lv_sub hl [3] rfl))
        · replace hs := it_f hc hs
          refine lv_iload_n hx hb dX10_lies_27 rfl (lv_at hl 3 rfl) ?_
          have hJ66 : ∀ (t66 : Unit), pX10_lies_J66_3 s18 t66 = some y2 → ∀ (H : Heap) (locs : List Loc) (ls : Array Slot), va_P (dC, dI) vwCl [(a_y, .inr (10, [.int y_n, .ref a_y_list, .int y_sets, .ref a_y_others, .int y_otherMany, .ref a_y_costs, .long y_above, .long y_below, .ref a_y_table, .long y_by, .ref a_y_basis, .ref a_y_isSeen, .ref a_y_colour, .ref a_y_rest, .ref a_y_makes, .ref a_y_worst])), (a_y_rest, .inl (c_y_rest, 16, .inl y_rest))] H → va_D A [(a_y, .inr (10, [.int y_n, .ref a_y_list, .int y_sets, .ref a_y_others, .int y_otherMany, .ref a_y_costs, .long y_above, .long y_below, .ref a_y_table, .long y_by, .ref a_y_basis, .ref a_y_isSeen, .ref a_y_colour, .ref a_y_rest, .ref a_y_makes, .ref a_y_worst])), (a_y_rest, .inl (c_y_rest, 16, .inl y_rest))] → va_S A s.heap H locs → lv_has ls 5 [(0, .ref a_y), (1, .int p1), (2, .int p2), (4, .int s18.2)] → Z H locs 0 0 (F0 m 66 ls []) := by
            intro t66 hs H locs ls hP hD hS hl
            refine hZv ?_
            unfold pX10_lies_J66_3 at hs
            refine lv_iconst (v := 1) hx hb dX10_lies_66 (by decide) ?_
            refine lv_goto (tgt := 71) hx hb dX10_lies_67 (by decide) ?_
            refine lv_istore_n (lv' := [(3, .int 1), (0, .ref a_y), (1, .int p1), (2, .int p2), (4, .int s18.2)]) hx hb dX10_lies_71 rfl hl (by decide) rfl (fun ls hl => ?_)
            refine lv_iinc (v := s18.2 + 1) (lv' := [(4, .int (s18.2 + 1)), (3, .int 1), (0, .ref a_y), (1, .int p1), (2, .int p2)]) hx hb dX10_lies_72 hl (k := 4) rfl (by rfl) (by decide) rfl (fun ls hl => ?_)
            refine lv_goto (tgt := 18) hx hb dX10_lies_75 (by decide) ?_
            replace hs := Option.some.inj hs
            subst hs
            exact hZw (ih (1, s18.2 + 1) H locs ls hn hP hD hS (lv_sub hl [2, 3, 4, 1, 0] rfl))
          refine lv_if_ne (tgt := 66) hx hb dX10_lies_28 (by decide) (fun hc => ?_) (fun hc => ?_)
          · replace hs := it_f hc hs
            exact hZw (hJ66 () hs H locs ls hP hD hS (lv_sub hl [0, 1, 2, 4] rfl))
          · replace hs := it_t hc hs
            refine lv_iload hx hb dX10_lies_31 (lv_at hl 4 rfl) ?_
            refine lv_iload_n hx hb dX10_lies_33 rfl (lv_at hl 1 rfl) ?_
            have hJ70 : ∀ (t70 : Unit), pX10_lies_J70_4 s18 t70 = some y2 → ∀ (H : Heap) (locs : List Loc) (ls : Array Slot), va_P (dC, dI) vwCl [(a_y, .inr (10, [.int y_n, .ref a_y_list, .int y_sets, .ref a_y_others, .int y_otherMany, .ref a_y_costs, .long y_above, .long y_below, .ref a_y_table, .long y_by, .ref a_y_basis, .ref a_y_isSeen, .ref a_y_colour, .ref a_y_rest, .ref a_y_makes, .ref a_y_worst])), (a_y_rest, .inl (c_y_rest, 16, .inl y_rest))] H → va_D A [(a_y, .inr (10, [.int y_n, .ref a_y_list, .int y_sets, .ref a_y_others, .int y_otherMany, .ref a_y_costs, .long y_above, .long y_below, .ref a_y_table, .long y_by, .ref a_y_basis, .ref a_y_isSeen, .ref a_y_colour, .ref a_y_rest, .ref a_y_makes, .ref a_y_worst])), (a_y_rest, .inl (c_y_rest, 16, .inl y_rest))] → va_S A s.heap H locs → lv_has ls 5 [(0, .ref a_y), (1, .int p1), (2, .int p2), (4, .int s18.2)] → Z H locs 0 0 (F0 m 70 ls []) := by
              intro t70 hs H locs ls hP hD hS hl
              refine hZv ?_
              unfold pX10_lies_J70_4 at hs
              refine lv_iconst (v := 0) hx hb dX10_lies_70 (by decide) ?_
              refine lv_istore_n (lv' := [(3, .int 0), (0, .ref a_y), (1, .int p1), (2, .int p2), (4, .int s18.2)]) hx hb dX10_lies_71 rfl hl (by decide) rfl (fun ls hl => ?_)
              refine lv_iinc (v := s18.2 + 1) (lv' := [(4, .int (s18.2 + 1)), (3, .int 0), (0, .ref a_y), (1, .int p1), (2, .int p2)]) hx hb dX10_lies_72 hl (k := 4) rfl (by rfl) (by decide) rfl (fun ls hl => ?_)
              refine lv_goto (tgt := 18) hx hb dX10_lies_75 (by decide) ?_
              replace hs := Option.some.inj hs
              subst hs
              exact hZw (ih (0, s18.2 + 1) H locs ls hn hP hD hS (lv_sub hl [2, 3, 4, 1, 0] rfl))
            refine lv_icmp_eq (tgt := 70) hx hb dX10_lies_34 (by decide) (fun hc => ?_) (fun hc => ?_)
            · replace hs := it_t hc hs
              exact hZw (hJ70 () hs H locs ls hP hD hS (lv_sub hl [0, 1, 2, 4] rfl))
            · replace hs := it_f hc hs
              refine lv_iload_n hx hb dX10_lies_37 rfl (lv_at hl 2 rfl) ?_
              refine lv_iload hx hb dX10_lies_38 (lv_at hl 4 rfl) ?_
              refine lv_ishr hx hb dX10_lies_40 ?_
              refine lv_iconst (v := 1) hx hb dX10_lies_41 (by decide) ?_
              refine lv_iand hx hb dX10_lies_42 ?_
              refine lv_iconst (v := 1) hx hb dX10_lies_43 (by decide) ?_
              refine lv_icmp_ne (tgt := 70) hx hb dX10_lies_44 (by decide) (fun hc => ?_) (fun hc => ?_)
              · replace hs := it_f hc hs
                exact hZw (hJ70 () hs H locs ls hP hD hS (lv_sub hl [0, 1, 2, 4] rfl))
              · replace hs := it_t hc hs
                refine lv_aload_n hx hb dX10_lies_47 rfl (lv_at hl 0 rfl) ?_
                refine va_get (D := (dC, dI)) (ci := 10) (v := .ref a_y_rest) (C := RX10) (T := TX10) (N := 16) hx hb hts hiX10 hown hK hP 0 rfl rfl 13 (by decide) hf33 (fun _ h9 => h9) rfl dX10_lies_48 ?_
                refine lv_iload_n hx hb dX10_lies_51 rfl (lv_at hl 1 rfl) ?_
                obtain ⟨hg5, hs⟩ := gd_s hs
                refine va_iald hx hb hK hP 1 0 rfl rfl hg5 dX10_lies_52 ?_
                refine lv_aload_n hx hb dX10_lies_53 rfl (lv_at hl 0 rfl) ?_
                refine va_get (D := (dC, dI)) (ci := 10) (v := .ref a_y_rest) (C := RX10) (T := TX10) (N := 16) hx hb hts hiX10 hown hK hP 0 rfl rfl 13 (by decide) hf33 (fun _ h9 => h9) rfl dX10_lies_54 ?_
                refine lv_iload hx hb dX10_lies_57 (lv_at hl 4 rfl) ?_
                obtain ⟨hg6, hs⟩ := gd_s hs
                refine va_iald hx hb hK hP 1 0 rfl rfl hg6 dX10_lies_59 ?_
                refine lv_iconst (v := (-1)) hx hb dX10_lies_60 (by decide) ?_
                refine lv_ixor hx hb dX10_lies_61 ?_
                refine lv_iand hx hb dX10_lies_62 ?_
                refine lv_if_ne (tgt := 70) hx hb dX10_lies_63 (by decide) (fun hc => ?_) (fun hc => ?_)
                · replace hs := it_f hc hs
                  exact hZw (hJ70 () hs H locs ls hP hD hS (lv_sub hl [0, 1, 2, 4] rfl))
                · replace hs := it_t hc hs
                  exact hZw (hJ66 () hs H locs ls hP hD hS (lv_sub hl [0, 1, 2, 4] rfl))
    obtain ⟨n18, hn18⟩ := lp_ex he18
    exact hZw (hL18 n18 (t14, 0) H locs ls hn18 hP hD hS (lv_sub hl [2, 3, 4, 1, 0] rfl))
  clear hs
  have hs := hq14
  refine lv_if_ne (tgt := 13) hx hb dX10_lies_6 (by decide) (fun hc => ?_) (fun hc => ?_)
  · replace hs := it_f hc hs
    refine lv_iconst (v := 0) hx hb dX10_lies_13 (by decide) ?_
    replace hs := Option.some.inj hs
    subst hs
    exact hZw (hJ14 H locs ls hP hD hS hl)
  · replace hs := it_t hc hs
    refine lv_iconst (v := 1) hx hb dX10_lies_9 (by decide) ?_
    refine lv_goto (tgt := 14) hx hb dX10_lies_10 (by decide) ?_
    replace hs := Option.some.inj hs
    subst hs
    exact hZw (hJ14 H locs ls hP hD hS hl)
noncomputable def pX10_earsOf_L11 (y_sets : Int32) (y_list : Nat → Int32) (s11 : Int32 × (Nat → Int32)) : Option ((Int32 × (Nat → Int32)) ⊕ (Nat → Int32)) :=
  if y_sets ≤ s11.1 then (some (Sum.inr s11.2)) else (gd (vp_in s11.1 16) (gd (vp_in s11.1 16) (some (Sum.inl (s11.1 + 1, upd s11.2 s11.1.toNatClampNeg (y_list s11.1.toNatClampNeg))))))
noncomputable def pX10_earsOf_L47_5 (y_n : Int32) (y_sets : Int32) (s39 : Int32 × Int32 × (Nat → Int32)) (s47 : Int32 × Int32 × (Nat → Int32)) : Option ((Int32 × Int32 × (Nat → Int32)) ⊕ (Int32 × (Nat → Int32))) :=
  if y_n ≤ s47.2.1 then (some (Sum.inr (s47.1, s47.2.2))) else (if s47.1 = 0 then (Option.bind (pX10_holder y_sets s47.2.2 s47.2.1 s39.1) (fun r7 => if r7 = (-1) then (some (Sum.inl (s47.1, s47.2.1 + 1, s47.2.2))) else (gd (vp_in r7 16) (gd (vp_in r7 16) (some (Sum.inl (1, s47.2.1 + 1, upd s47.2.2 r7.toNatClampNeg ((s47.2.2 r7.toNatClampNeg) ^^^ (1 <<< (s47.2.1 &&& 31)))))))))) else (some (Sum.inr (s47.1, s47.2.2))))
noncomputable def pX10_earsOf_L96_10 (y_sets : Int32) (e47 : Int32 × (Nat → Int32)) (s96 : Int32 × Int32 × Int32) : Option ((Int32 × Int32 × Int32) ⊕ (Int32 × Int32)) :=
  if y_sets ≤ s96.2.2 then (some (Sum.inr (s96.1, s96.2.1))) else (if s96.2.1 = 0 then (if ((s96.1 >>> (s96.2.2 &&& 31)) &&& 1) = 1 then (Option.bind (pX10_lies y_sets e47.2 s96.2.2 s96.1) (fun r12 => if r12 = 0 then (some (Sum.inl (s96.1, s96.2.1, s96.2.2 + 1))) else (some (Sum.inl (s96.1 ^^^ (1 <<< (s96.2.2 &&& 31)), 1, s96.2.2 + 1))))) else (some (Sum.inl (s96.1, s96.2.1, s96.2.2 + 1)))) else (some (Sum.inr (s96.1, s96.2.1))))
noncomputable def pX10_earsOf_L39 (y_n : Int32) (y_sets : Int32) (s39 : Int32 × Int32 × (Nat → Int32)) : Option ((Int32 × Int32 × (Nat → Int32)) ⊕ (Int32 × (Nat → Int32))) :=
  if s39.2.1 = 0 then (some (Sum.inr (s39.1, s39.2.2))) else (Option.bind (lp (pX10_earsOf_L47_5 y_n y_sets s39) (0, 0, s39.2.2)) (fun e47 => Option.bind (lp (pX10_earsOf_L96_10 y_sets e47) (s39.1, e47.1, 0)) (fun e96 => some (Sum.inl (e96.1, e96.2, e47.2)))))
noncomputable def pX10_earsOf (y_n : Int32) (y_sets : Int32) (y_list : Nat → Int32) (y_rest : Nat → Int32) : Option (Int32 × (Nat → Int32)) :=
  Option.bind (lp (pX10_earsOf_L11 y_sets y_list) (0, y_rest)) (fun e11 => Option.bind (lp (pX10_earsOf_L39 y_n y_sets) ((1 <<< (y_sets &&& 31)) - 1, 1, e11)) (fun e39 => some (e39.1, e39.2)))
set_option maxHeartbeats 4000000 in
set_option maxRecDepth 100000 in
theorem c_X10_earsOf (l : Launch) (dC : Nat → ClassId) (dI : Nat → Nat → Nat) (a_y : Nat) (a_y_list : Nat) (a_y_others : Nat) (a_y_costs : Nat) (a_y_table : Nat) (a_y_basis : Nat) (a_y_isSeen : Nat) (a_y_colour : Nat) (a_y_rest : Nat) (a_y_makes : Nat) (a_y_worst : Nat) (c_y_list c_y_rest : ClassId) (sz : Nat) (y_n : Int32) (y_sets : Int32) (y_otherMany : Int32) (y_above : Int64) (y_below : Int64) (y_by : Int64) (y_list : Nat → Int32) (y_rest : Nat → Int32) (rv : Int32 × (Nat → Int32)) (hs : pX10_earsOf y_n y_sets y_list y_rest = some rv) : Met l yX10_earsOf wsX10_earsOf ({ frames := 1, cells := 0, slots := 0, locals := 25 }) (sPc [.ref a_y] (dC, dI) [(c_y_list, .int), (c_y_rest, .int)] [(a_y, .inr (10, [.int y_n, .ref a_y_list, .int y_sets, .ref a_y_others, .int y_otherMany, .ref a_y_costs, .long y_above, .long y_below, .ref a_y_table, .long y_by, .ref a_y_basis, .ref a_y_isSeen, .ref a_y_colour, .ref a_y_rest, .ref a_y_makes, .ref a_y_worst])), (a_y_list, .inl (c_y_list, 16, .inl y_list)), (a_y_rest, .inl (c_y_rest, 16, .inl y_rest))] sz) (va_Qi (fun (r : Int32) (_ : Unit) => r = rv.1) (sB (dC, dI) [(c_y_list, .int), (c_y_rest, .int)] (va_A [(a_y, .inr (10, [.int y_n, .ref a_y_list, .int y_sets, .ref a_y_others, .int y_otherMany, .ref a_y_costs, .long y_above, .long y_below, .ref a_y_table, .long y_by, .ref a_y_basis, .ref a_y_isSeen, .ref a_y_colour, .ref a_y_rest, .ref a_y_makes, .ref a_y_worst])), (a_y_list, .inl (c_y_list, 16, .inl y_list)), (a_y_rest, .inl (c_y_rest, 16, .inl y_rest))] sz) [(a_y, .inr (10, [.int y_n, .ref a_y_list, .int y_sets, .ref a_y_others, .int y_otherMany, .ref a_y_costs, .long y_above, .long y_below, .ref a_y_table, .long y_by, .ref a_y_basis, .ref a_y_isSeen, .ref a_y_colour, .ref a_y_rest, .ref a_y_makes, .ref a_y_worst])), (a_y_list, .inl (c_y_list, 16, .inl y_list)), (a_y_rest, .inl (c_y_rest, 16, .inl rv.2))]) (va_A [(a_y, .inr (10, [.int y_n, .ref a_y_list, .int y_sets, .ref a_y_others, .int y_otherMany, .ref a_y_costs, .long y_above, .long y_below, .ref a_y_table, .long y_by, .ref a_y_basis, .ref a_y_isSeen, .ref a_y_colour, .ref a_y_rest, .ref a_y_makes, .ref a_y_worst])), (a_y_list, .inl (c_y_list, 16, .inl y_list)), (a_y_rest, .inl (c_y_rest, 16, .inl y_rest))] sz)) 0 0 (va_A [(a_y, .inr (10, [.int y_n, .ref a_y_list, .int y_sets, .ref a_y_others, .int y_otherMany, .ref a_y_costs, .long y_above, .long y_below, .ref a_y_table, .long y_by, .ref a_y_basis, .ref a_y_isSeen, .ref a_y_colour, .ref a_y_rest, .ref a_y_makes, .ref a_y_worst])), (a_y_list, .inl (c_y_list, 16, .inl y_list)), (a_y_rest, .inl (c_y_rest, 16, .inl y_rest))] sz) := by
  refine Met.ofW (cc := cX10_earsOf) (maxL := 5) (ret := (some .int)) (by decide) rfl ?_
  intro p e s m args below meth c s₁ B hml hv
  obtain ⟨rfl, hsz, hP, hK, hD0, hN⟩ := hv
  have hx := B.exec
  have hb := B.bytes
  have hr := B.returns
  have hts := atoms_spec (ws := wsX10_earsOf) B.pre
  have hown : s.vm.findClass RX10 = some m.cls := findClass_of_methodNamed B.named
  have hlocks := B.notSynchronized
  subst hsz
  have hD := hD0.self (sz := s.heap.size)
  generalize hAe : va_A [(a_y, .inr (10, [.int y_n, .ref a_y_list, .int y_sets, .ref a_y_others, .int y_otherMany, .ref a_y_costs, .long y_above, .long y_below, .ref a_y_table, .long y_by, .ref a_y_basis, .ref a_y_isSeen, .ref a_y_colour, .ref a_y_rest, .ref a_y_makes, .ref a_y_worst])), (a_y_list, .inl (c_y_list, 16, .inl y_list)), (a_y_rest, .inl (c_y_rest, 16, .inl y_rest))] s.heap.size = A at hD hN ⊢
  have hA : ∀ q : Nat, s.heap.size ≤ q → A q := fun q h => by rw [← hAe]; exact Or.inr h
  have hS : va_S A s.heap s.heap [] := va_S.rf
  have hP : va_P (dC, dI) vwCl [(a_y, .inr (10, [.int y_n, .ref a_y_list, .int y_sets, .ref a_y_others, .int y_otherMany, .ref a_y_costs, .long y_above, .long y_below, .ref a_y_table, .long y_by, .ref a_y_basis, .ref a_y_isSeen, .ref a_y_colour, .ref a_y_rest, .ref a_y_makes, .ref a_y_worst])), (a_y_list, .inl (c_y_list, 16, .inl y_list)), (a_y_rest, .inl (c_y_rest, 16, .inl y_rest))] s.heap := hP
  have hl := lv_entry ([.ref a_y]) (n := 5) (Nat.le_of_ble_eq_true rfl)
  rw [lg_entry_eq]
  generalize (lg_sl ([.ref a_y]) ++ List.replicate (5 - (lg_sl ([.ref a_y])).length) Slot.unset).toArray = ls at hl ⊢
  have hl : lv_has ls 5 [(0, .ref a_y)] := hl
  have hiX10 : ∀ w ∈ wsX100, w ∈ wsX10_earsOf := fun _ h => List.mem_cons_of_mem _ (List.mem_append_right _ h)
  have hf61 := hts (.fieldLink RX10 61 "MeetSetsModel" "sets" "I") (t1_ (al_ h1_))
  have hf33 := hts (.fieldLink RX10 33 "MeetSetsModel" "rest" "[I") (t1_ (al_ (t1_ h1_)))
  have hf7 := hts (.fieldLink RX10 7 "MeetSetsModel" "list" "[I") (t1_ (al_ (t1_ (t1_ h1_))))
  have hf43 := hts (.fieldLink RX10 43 "MeetSetsModel" "n" "I") (t1_ (al_ (t1_ (t1_ (t1_ h1_)))))
  refine w_abs (fun Z hZv hZw => ?_)
  refine hZv ?_
  obtain ⟨H, hH⟩ : ∃ H, H = s.heap := ⟨_, rfl⟩
  obtain ⟨locs, hlo⟩ : ∃ L : List Loc, L = [] := ⟨_, rfl⟩
  rw [← hlo, ← hH]
  have hS : va_S A s.heap H locs := by rw [hlo, hH]; exact hS
  have hP : va_P (dC, dI) vwCl [(a_y, .inr (10, [.int y_n, .ref a_y_list, .int y_sets, .ref a_y_others, .int y_otherMany, .ref a_y_costs, .long y_above, .long y_below, .ref a_y_table, .long y_by, .ref a_y_basis, .ref a_y_isSeen, .ref a_y_colour, .ref a_y_rest, .ref a_y_makes, .ref a_y_worst])), (a_y_list, .inl (c_y_list, 16, .inl y_list)), (a_y_rest, .inl (c_y_rest, 16, .inl y_rest))] H := by rw [hH]; exact hP
  clear hH hlo
  unfold pX10_earsOf at hs
  refine lv_iconst (v := 1) hx hb dX10_earsOf_0 (by decide) ?_
  refine lv_aload_n hx hb dX10_earsOf_1 rfl (lv_at hl 0 rfl) ?_
  refine va_get (D := (dC, dI)) (ci := 10) (v := .int y_sets) (C := RX10) (T := TX10) (N := 16) hx hb hts hiX10 hown hK hP 0 rfl rfl 2 (by decide) hf61 (fun _ h9 => h9) rfl dX10_earsOf_2 ?_
  refine lv_ishl hx hb dX10_earsOf_5 ?_
  refine lv_iconst (v := 1) hx hb dX10_earsOf_6 (by decide) ?_
  refine lv_isub hx hb dX10_earsOf_7 ?_
  refine lv_istore_n (lv' := [(1, .int ((1 <<< (y_sets &&& 31)) - 1)), (0, .ref a_y)]) hx hb dX10_earsOf_8 rfl hl (by decide) rfl (fun ls hl => ?_)
  refine lv_iconst (v := 0) hx hb dX10_earsOf_9 (by decide) ?_
  refine lv_istore_n (lv' := [(2, .int 0), (1, .int ((1 <<< (y_sets &&& 31)) - 1)), (0, .ref a_y)]) hx hb dX10_earsOf_10 rfl hl (by decide) rfl (fun ls hl => ?_)
  obtain ⟨e11, he11, hs⟩ := bd_s hs
  have hX11 : ∀ (H : Heap) (locs : List Loc) (ls : Array Slot), va_P (dC, dI) vwCl [(a_y, .inr (10, [.int y_n, .ref a_y_list, .int y_sets, .ref a_y_others, .int y_otherMany, .ref a_y_costs, .long y_above, .long y_below, .ref a_y_table, .long y_by, .ref a_y_basis, .ref a_y_isSeen, .ref a_y_colour, .ref a_y_rest, .ref a_y_makes, .ref a_y_worst])), (a_y_list, .inl (c_y_list, 16, .inl y_list)), (a_y_rest, .inl (c_y_rest, 16, .inl e11))] H → va_D A [(a_y, .inr (10, [.int y_n, .ref a_y_list, .int y_sets, .ref a_y_others, .int y_otherMany, .ref a_y_costs, .long y_above, .long y_below, .ref a_y_table, .long y_by, .ref a_y_basis, .ref a_y_isSeen, .ref a_y_colour, .ref a_y_rest, .ref a_y_makes, .ref a_y_worst])), (a_y_list, .inl (c_y_list, 16, .inl y_list)), (a_y_rest, .inl (c_y_rest, 16, .inl e11))] → va_S A s.heap H locs → lv_has ls 5 [(0, .ref a_y), (1, .int ((1 <<< (y_sets &&& 31)) - 1))] → Z H locs 0 0 (F0 m 37 ls []) := by
    intro H locs ls hP hD hS hl
    refine hZv ?_
    refine lv_iconst (v := 1) hx hb dX10_earsOf_37 (by decide) ?_
    refine lv_istore_n (lv' := [(2, .int 1), (0, .ref a_y), (1, .int ((1 <<< (y_sets &&& 31)) - 1))]) hx hb dX10_earsOf_38 rfl hl (by decide) rfl (fun ls hl => ?_)
    obtain ⟨e39, he39, hs⟩ := bd_s hs
    have hX39 : ∀ (H : Heap) (locs : List Loc) (ls : Array Slot), va_P (dC, dI) vwCl [(a_y, .inr (10, [.int y_n, .ref a_y_list, .int y_sets, .ref a_y_others, .int y_otherMany, .ref a_y_costs, .long y_above, .long y_below, .ref a_y_table, .long y_by, .ref a_y_basis, .ref a_y_isSeen, .ref a_y_colour, .ref a_y_rest, .ref a_y_makes, .ref a_y_worst])), (a_y_list, .inl (c_y_list, 16, .inl y_list)), (a_y_rest, .inl (c_y_rest, 16, .inl e39.2))] H → va_D A [(a_y, .inr (10, [.int y_n, .ref a_y_list, .int y_sets, .ref a_y_others, .int y_otherMany, .ref a_y_costs, .long y_above, .long y_below, .ref a_y_table, .long y_by, .ref a_y_basis, .ref a_y_isSeen, .ref a_y_colour, .ref a_y_rest, .ref a_y_makes, .ref a_y_worst])), (a_y_list, .inl (c_y_list, 16, .inl y_list)), (a_y_rest, .inl (c_y_rest, 16, .inl e39.2))] → va_S A s.heap H locs → lv_has ls 5 [(1, .int e39.1)] → Z H locs 0 0 (F0 m 143 ls []) := by
      intro H locs ls hP hD hS hl
      refine hZv ?_
      refine lv_iload_n hx hb dX10_earsOf_143 rfl (lv_at hl 0 rfl) ?_
      replace hs := Option.some.inj hs
      subst hs
      exact W.iret (v := e39.1) hx hb hr (fun t ht hW => ⟨⟨e39.1, (), rfl, rfl, by rw [ht]; exact hP, va_K.moved hW.alike hK, hD⟩, hS.F ht⟩) hS.2.2 dX10_earsOf_144
    clear hs
    have hL39 : ∀ (n : Nat) (s39 : Int32 × Int32 × (Nat → Int32)) (H : Heap) (locs : List Loc) (ls : Array Slot), itr (pX10_earsOf_L39 y_n y_sets) n s39 = some e39 → va_P (dC, dI) vwCl [(a_y, .inr (10, [.int y_n, .ref a_y_list, .int y_sets, .ref a_y_others, .int y_otherMany, .ref a_y_costs, .long y_above, .long y_below, .ref a_y_table, .long y_by, .ref a_y_basis, .ref a_y_isSeen, .ref a_y_colour, .ref a_y_rest, .ref a_y_makes, .ref a_y_worst])), (a_y_list, .inl (c_y_list, 16, .inl y_list)), (a_y_rest, .inl (c_y_rest, 16, .inl s39.2.2))] H → va_D A [(a_y, .inr (10, [.int y_n, .ref a_y_list, .int y_sets, .ref a_y_others, .int y_otherMany, .ref a_y_costs, .long y_above, .long y_below, .ref a_y_table, .long y_by, .ref a_y_basis, .ref a_y_isSeen, .ref a_y_colour, .ref a_y_rest, .ref a_y_makes, .ref a_y_worst])), (a_y_list, .inl (c_y_list, 16, .inl y_list)), (a_y_rest, .inl (c_y_rest, 16, .inl s39.2.2))] → va_S A s.heap H locs → lv_has ls 5 [(0, .ref a_y), (1, .int s39.1), (2, .int s39.2.1)] → Z H locs 0 0 (F0 m 39 ls []) := by
      intro n
      induction n with
      | zero =>
        intro s39 H locs ls hn
        exact (itr_0 hn).elim
      | succ n ih =>
        intro s39 H locs ls hn hP hD hS hl
        obtain ⟨y4, hs, hn⟩ := itr_s hn
        unfold pX10_earsOf_L39 at hs
        refine hZv ?_
        refine lv_iload_n hx hb dX10_earsOf_39 rfl (lv_at hl 2 rfl) ?_
        refine lv_if_eq (tgt := 143) hx hb dX10_earsOf_40 (by decide) (fun hc => ?_) (fun hc => ?_)
        · replace hs := it_t hc hs
          replace hs := Option.some.inj hs
          subst hs
          obtain rfl : (s39.1, s39.2.2) = e39 := hn
          exact hZw (hX39 H locs ls hP hD hS (lv_sub hl [1] rfl))
        · replace hs := it_f hc hs
          refine lv_iconst (v := 0) hx hb dX10_earsOf_43 (by decide) ?_
          refine lv_istore_n (lv' := [(2, .int 0), (0, .ref a_y), (1, .int s39.1)]) hx hb dX10_earsOf_44 rfl hl (by decide) rfl (fun ls hl => ?_)
          refine lv_iconst (v := 0) hx hb dX10_earsOf_45 (by decide) ?_
          refine lv_istore_n (lv' := [(3, .int 0), (2, .int 0), (0, .ref a_y), (1, .int s39.1)]) hx hb dX10_earsOf_46 rfl hl (by decide) rfl (fun ls hl => ?_)
          obtain ⟨e47, he47, hs⟩ := bd_s hs
          have hX47 : ∀ (H : Heap) (locs : List Loc) (ls : Array Slot), va_P (dC, dI) vwCl [(a_y, .inr (10, [.int y_n, .ref a_y_list, .int y_sets, .ref a_y_others, .int y_otherMany, .ref a_y_costs, .long y_above, .long y_below, .ref a_y_table, .long y_by, .ref a_y_basis, .ref a_y_isSeen, .ref a_y_colour, .ref a_y_rest, .ref a_y_makes, .ref a_y_worst])), (a_y_list, .inl (c_y_list, 16, .inl y_list)), (a_y_rest, .inl (c_y_rest, 16, .inl e47.2))] H → va_D A [(a_y, .inr (10, [.int y_n, .ref a_y_list, .int y_sets, .ref a_y_others, .int y_otherMany, .ref a_y_costs, .long y_above, .long y_below, .ref a_y_table, .long y_by, .ref a_y_basis, .ref a_y_isSeen, .ref a_y_colour, .ref a_y_rest, .ref a_y_makes, .ref a_y_worst])), (a_y_list, .inl (c_y_list, 16, .inl y_list)), (a_y_rest, .inl (c_y_rest, 16, .inl e47.2))] → va_S A s.heap H locs → lv_has ls 5 [(0, .ref a_y), (1, .int s39.1), (2, .int e47.1)] → Z H locs 0 0 (F0 m 94 ls []) := by
            intro H locs ls hP hD hS hl
            refine hZv ?_
            refine lv_iconst (v := 0) hx hb dX10_earsOf_94 (by decide) ?_
            refine lv_istore_n (lv' := [(3, .int 0), (0, .ref a_y), (1, .int s39.1), (2, .int e47.1)]) hx hb dX10_earsOf_95 rfl hl (by decide) rfl (fun ls hl => ?_)
            obtain ⟨e96, he96, hs⟩ := bd_s hs
            have hX96 : ∀ (H : Heap) (locs : List Loc) (ls : Array Slot), va_P (dC, dI) vwCl [(a_y, .inr (10, [.int y_n, .ref a_y_list, .int y_sets, .ref a_y_others, .int y_otherMany, .ref a_y_costs, .long y_above, .long y_below, .ref a_y_table, .long y_by, .ref a_y_basis, .ref a_y_isSeen, .ref a_y_colour, .ref a_y_rest, .ref a_y_makes, .ref a_y_worst])), (a_y_list, .inl (c_y_list, 16, .inl y_list)), (a_y_rest, .inl (c_y_rest, 16, .inl e47.2))] H → va_D A [(a_y, .inr (10, [.int y_n, .ref a_y_list, .int y_sets, .ref a_y_others, .int y_otherMany, .ref a_y_costs, .long y_above, .long y_below, .ref a_y_table, .long y_by, .ref a_y_basis, .ref a_y_isSeen, .ref a_y_colour, .ref a_y_rest, .ref a_y_makes, .ref a_y_worst])), (a_y_list, .inl (c_y_list, 16, .inl y_list)), (a_y_rest, .inl (c_y_rest, 16, .inl e47.2))] → va_S A s.heap H locs → lv_has ls 5 [(0, .ref a_y), (1, .int e96.1), (2, .int e96.2)] → Z H locs 0 0 (F0 m 140 ls []) := by
              intro H locs ls hP hD hS hl
              refine hZv ?_
              refine lv_goto (tgt := 39) hx hb dX10_earsOf_140 (by decide) ?_
              replace hs := Option.some.inj hs
              subst hs
              exact hZw (ih (e96.1, e96.2, e47.2) H locs ls hn hP hD hS hl)
            clear hs
            have hL96 : ∀ (n : Nat) (s96 : Int32 × Int32 × Int32) (H : Heap) (locs : List Loc) (ls : Array Slot), itr (pX10_earsOf_L96_10 y_sets e47) n s96 = some e96 → va_P (dC, dI) vwCl [(a_y, .inr (10, [.int y_n, .ref a_y_list, .int y_sets, .ref a_y_others, .int y_otherMany, .ref a_y_costs, .long y_above, .long y_below, .ref a_y_table, .long y_by, .ref a_y_basis, .ref a_y_isSeen, .ref a_y_colour, .ref a_y_rest, .ref a_y_makes, .ref a_y_worst])), (a_y_list, .inl (c_y_list, 16, .inl y_list)), (a_y_rest, .inl (c_y_rest, 16, .inl e47.2))] H → va_D A [(a_y, .inr (10, [.int y_n, .ref a_y_list, .int y_sets, .ref a_y_others, .int y_otherMany, .ref a_y_costs, .long y_above, .long y_below, .ref a_y_table, .long y_by, .ref a_y_basis, .ref a_y_isSeen, .ref a_y_colour, .ref a_y_rest, .ref a_y_makes, .ref a_y_worst])), (a_y_list, .inl (c_y_list, 16, .inl y_list)), (a_y_rest, .inl (c_y_rest, 16, .inl e47.2))] → va_S A s.heap H locs → lv_has ls 5 [(0, .ref a_y), (1, .int s96.1), (2, .int s96.2.1), (3, .int s96.2.2)] → Z H locs 0 0 (F0 m 96 ls []) := by
              intro n
              induction n with
              | zero =>
                intro s96 H locs ls hn
                exact (itr_0 hn).elim
              | succ n ih =>
                intro s96 H locs ls hn hP hD hS hl
                obtain ⟨y11, hs, hn⟩ := itr_s hn
                unfold pX10_earsOf_L96_10 at hs
                refine hZv ?_
                refine lv_iload_n hx hb dX10_earsOf_96 rfl (lv_at hl 3 rfl) ?_
                refine lv_aload_n hx hb dX10_earsOf_97 rfl (lv_at hl 0 rfl) ?_
                refine va_get (D := (dC, dI)) (ci := 10) (v := .int y_sets) (C := RX10) (T := TX10) (N := 16) hx hb hts hiX10 hown hK hP 0 rfl rfl 2 (by decide) hf61 (fun _ h9 => h9) rfl dX10_earsOf_98 ?_
                refine lv_icmp_ge (tgt := 140) hx hb dX10_earsOf_101 (by decide) (fun hc => ?_) (fun hc => ?_)
                · replace hs := it_t hc hs
                  replace hs := Option.some.inj hs
                  subst hs
                  obtain rfl : (s96.1, s96.2.1) = e96 := hn
                  exact hZw (hX96 H locs ls hP hD hS (lv_sub hl [0, 1, 2] rfl))
                · replace hs := it_f hc hs
                  refine lv_iload_n hx hb dX10_earsOf_104 rfl (lv_at hl 2 rfl) ?_
                  refine lv_if_ne (tgt := 140) hx hb dX10_earsOf_105 (by decide) (fun hc => ?_) (fun hc => ?_)
                  · replace hs := it_f hc hs
                    replace hs := Option.some.inj hs
                    subst hs
                    obtain rfl : (s96.1, s96.2.1) = e96 := hn
                    exact hZw (hX96 H locs ls hP hD hS (lv_sub hl [0, 1, 2] rfl))
                  · replace hs := it_t hc hs
                    refine lv_iload_n hx hb dX10_earsOf_108 rfl (lv_at hl 1 rfl) ?_
                    refine lv_iload_n hx hb dX10_earsOf_109 rfl (lv_at hl 3 rfl) ?_
                    refine lv_ishr hx hb dX10_earsOf_110 ?_
                    refine lv_iconst (v := 1) hx hb dX10_earsOf_111 (by decide) ?_
                    refine lv_iand hx hb dX10_earsOf_112 ?_
                    refine lv_iconst (v := 1) hx hb dX10_earsOf_113 (by decide) ?_
                    refine lv_icmp_ne (tgt := 134) hx hb dX10_earsOf_114 (by decide) (fun hc => ?_) (fun hc => ?_)
                    · replace hs := it_f hc hs
                      refine lv_iinc (v := s96.2.2 + 1) (lv' := [(3, .int (s96.2.2 + 1)), (0, .ref a_y), (1, .int s96.1), (2, .int s96.2.1)]) hx hb dX10_earsOf_134 hl (k := 3) rfl (by rfl) (by decide) rfl (fun ls hl => ?_)
                      refine lv_goto (tgt := 96) hx hb dX10_earsOf_137 (by decide) ?_
                      replace hs := Option.some.inj hs
                      subst hs
                      exact hZw (ih (s96.1, s96.2.1, s96.2.2 + 1) H locs ls hn hP hD hS (lv_sub hl [1, 2, 3, 0] rfl))
                    · replace hs := it_t hc hs
                      refine lv_aload_n hx hb dX10_earsOf_117 rfl (lv_at hl 0 rfl) ?_
                      refine lv_iload_n hx hb dX10_earsOf_118 rfl (lv_at hl 3 rfl) ?_
                      refine lv_iload_n hx hb dX10_earsOf_119 rfl (lv_at hl 1 rfl) ?_
                      obtain ⟨r12, hr12, hs⟩ := bd_s hs
                      refine kc_i (isC := [0, 2]) (isR := [1]) (pm := [1, 0, 2]) (wr := [(a_y_list, .inl (c_y_list, 16, .inl y_list))]) (w1 := [(a_y, .inr (10, [.int y_n, .ref a_y_list, .int y_sets, .ref a_y_others, .int y_otherMany, .ref a_y_costs, .long y_above, .long y_below, .ref a_y_table, .long y_by, .ref a_y_basis, .ref a_y_isSeen, .ref a_y_colour, .ref a_y_rest, .ref a_y_makes, .ref a_y_worst])), (a_y_rest, .inl (c_y_rest, 16, .inl e47.2))]) (w2 := [(a_y, .inr (10, [.int y_n, .ref a_y_list, .int y_sets, .ref a_y_others, .int y_otherMany, .ref a_y_costs, .long y_above, .long y_below, .ref a_y_table, .long y_by, .ref a_y_basis, .ref a_y_isSeen, .ref a_y_colour, .ref a_y_rest, .ref a_y_makes, .ref a_y_worst])), (a_y_list, .inl (c_y_list, 16, .inl y_list)), (a_y_rest, .inl (c_y_rest, 16, .inl e47.2))]) (va_runV (As := [.int s96.2.2, .int s96.1]) (rest := []) ⟨hx, hb, hml, hown, hts⟩ (c_X10_lies l dC dI a_y a_y_list a_y_others a_y_costs a_y_table a_y_basis a_y_isSeen a_y_colour a_y_rest a_y_makes a_y_worst c_y_rest H.size y_n y_sets y_otherMany y_above y_below y_by e47.2 s96.2.2 s96.1 r12 hr12) (cwV 2 hts gX10_earsOf_X10_lies rfl rfl rfl (by decide +kernel) ⟨Nat.le_of_ble_eq_true rfl, Nat.le_of_ble_eq_true rfl⟩) (kp_V hK hP hD hS hA hN (isC := [0, 2]) (isT := [1]) (wc := [(a_y, .inr (10, [.int y_n, .ref a_y_list, .int y_sets, .ref a_y_others, .int y_otherMany, .ref a_y_costs, .long y_above, .long y_below, .ref a_y_table, .long y_by, .ref a_y_basis, .ref a_y_isSeen, .ref a_y_colour, .ref a_y_rest, .ref a_y_makes, .ref a_y_worst])), (a_y_rest, .inl (c_y_rest, 16, .inl e47.2))]) rfl (by decide +kernel) rfl (ci := 10) (q0 := 0) rfl rfl) rfl rfl hl.1 rfl (lv_room (Nat.le_of_ble_eq_true rfl)) dX10_earsOf_120 ⟨Nat.le_of_ble_eq_true rfl, Nat.le_of_ble_eq_true rfl⟩) hP hD hS hA rfl rfl (by decide +kernel) (by decide +kernel) rfl (by decide +kernel) (fun H locs hP hD hS => ?_)
                      refine lv_if_eq (tgt := 134) hx hb dX10_earsOf_123 (by decide) (fun hc => ?_) (fun hc => ?_)
                      · replace hs := it_t hc hs
                        refine lv_iinc (v := s96.2.2 + 1) (lv' := [(3, .int (s96.2.2 + 1)), (0, .ref a_y), (1, .int s96.1), (2, .int s96.2.1)]) hx hb dX10_earsOf_134 hl (k := 3) rfl (by rfl) (by decide) rfl (fun ls hl => ?_)
                        refine lv_goto (tgt := 96) hx hb dX10_earsOf_137 (by decide) ?_
                        replace hs := Option.some.inj hs
                        subst hs
                        exact hZw (ih (s96.1, s96.2.1, s96.2.2 + 1) H locs ls hn hP hD hS (lv_sub hl [1, 2, 3, 0] rfl))
                      · replace hs := it_f hc hs
                        refine lv_iload_n hx hb dX10_earsOf_126 rfl (lv_at hl 1 rfl) ?_
                        refine lv_iconst (v := 1) hx hb dX10_earsOf_127 (by decide) ?_
                        refine lv_iload_n hx hb dX10_earsOf_128 rfl (lv_at hl 3 rfl) ?_
                        refine lv_ishl hx hb dX10_earsOf_129 ?_
                        refine lv_ixor hx hb dX10_earsOf_130 ?_
                        refine lv_istore_n (lv' := [(1, .int (s96.1 ^^^ (1 <<< (s96.2.2 &&& 31)))), (0, .ref a_y), (2, .int s96.2.1), (3, .int s96.2.2)]) hx hb dX10_earsOf_131 rfl hl (by decide) rfl (fun ls hl => ?_)
                        refine lv_iconst (v := 1) hx hb dX10_earsOf_132 (by decide) ?_
                        refine lv_istore_n (lv' := [(2, .int 1), (1, .int (s96.1 ^^^ (1 <<< (s96.2.2 &&& 31)))), (0, .ref a_y), (3, .int s96.2.2)]) hx hb dX10_earsOf_133 rfl hl (by decide) rfl (fun ls hl => ?_)
                        refine lv_iinc (v := s96.2.2 + 1) (lv' := [(3, .int (s96.2.2 + 1)), (2, .int 1), (1, .int (s96.1 ^^^ (1 <<< (s96.2.2 &&& 31)))), (0, .ref a_y)]) hx hb dX10_earsOf_134 hl (k := 3) rfl (by rfl) (by decide) rfl (fun ls hl => ?_)
                        refine lv_goto (tgt := 96) hx hb dX10_earsOf_137 (by decide) ?_
                        replace hs := Option.some.inj hs
                        subst hs
                        exact hZw (ih (s96.1 ^^^ (1 <<< (s96.2.2 &&& 31)), 1, s96.2.2 + 1) H locs ls hn hP hD hS (lv_sub hl [3, 2, 1, 0] rfl))
            obtain ⟨n96, hn96⟩ := lp_ex he96
            exact hZw (hL96 n96 (s39.1, e47.1, 0) H locs ls hn96 hP hD hS (lv_sub hl [1, 2, 3, 0] rfl))
          clear hs
          have hL47 : ∀ (n : Nat) (s47 : Int32 × Int32 × (Nat → Int32)) (H : Heap) (locs : List Loc) (ls : Array Slot), itr (pX10_earsOf_L47_5 y_n y_sets s39) n s47 = some e47 → va_P (dC, dI) vwCl [(a_y, .inr (10, [.int y_n, .ref a_y_list, .int y_sets, .ref a_y_others, .int y_otherMany, .ref a_y_costs, .long y_above, .long y_below, .ref a_y_table, .long y_by, .ref a_y_basis, .ref a_y_isSeen, .ref a_y_colour, .ref a_y_rest, .ref a_y_makes, .ref a_y_worst])), (a_y_list, .inl (c_y_list, 16, .inl y_list)), (a_y_rest, .inl (c_y_rest, 16, .inl s47.2.2))] H → va_D A [(a_y, .inr (10, [.int y_n, .ref a_y_list, .int y_sets, .ref a_y_others, .int y_otherMany, .ref a_y_costs, .long y_above, .long y_below, .ref a_y_table, .long y_by, .ref a_y_basis, .ref a_y_isSeen, .ref a_y_colour, .ref a_y_rest, .ref a_y_makes, .ref a_y_worst])), (a_y_list, .inl (c_y_list, 16, .inl y_list)), (a_y_rest, .inl (c_y_rest, 16, .inl s47.2.2))] → va_S A s.heap H locs → lv_has ls 5 [(0, .ref a_y), (1, .int s39.1), (2, .int s47.1), (3, .int s47.2.1)] → Z H locs 0 0 (F0 m 47 ls []) := by
            intro n
            induction n with
            | zero =>
              intro s47 H locs ls hn
              exact (itr_0 hn).elim
            | succ n ih =>
              intro s47 H locs ls hn hP hD hS hl
              obtain ⟨y6, hs, hn⟩ := itr_s hn
              unfold pX10_earsOf_L47_5 at hs
              refine hZv ?_
              refine lv_iload_n hx hb dX10_earsOf_47 rfl (lv_at hl 3 rfl) ?_
              refine lv_aload_n hx hb dX10_earsOf_48 rfl (lv_at hl 0 rfl) ?_
              refine va_get (D := (dC, dI)) (ci := 10) (v := .int y_n) (C := RX10) (T := TX10) (N := 16) hx hb hts hiX10 hown hK hP 0 rfl rfl 0 (by decide) hf43 (fun _ h9 => h9) rfl dX10_earsOf_49 ?_
              refine lv_icmp_ge (tgt := 94) hx hb dX10_earsOf_52 (by decide) (fun hc => ?_) (fun hc => ?_)
              · replace hs := it_t hc hs
                replace hs := Option.some.inj hs
                subst hs
                obtain rfl : (s47.1, s47.2.2) = e47 := hn
                exact hZw (hX47 H locs ls hP hD hS (lv_sub hl [0, 1, 2] rfl))
              · replace hs := it_f hc hs
                refine lv_iload_n hx hb dX10_earsOf_55 rfl (lv_at hl 2 rfl) ?_
                refine lv_if_ne (tgt := 94) hx hb dX10_earsOf_56 (by decide) (fun hc => ?_) (fun hc => ?_)
                · replace hs := it_f hc hs
                  replace hs := Option.some.inj hs
                  subst hs
                  obtain rfl : (s47.1, s47.2.2) = e47 := hn
                  exact hZw (hX47 H locs ls hP hD hS (lv_sub hl [0, 1, 2] rfl))
                · replace hs := it_t hc hs
                  refine lv_aload_n hx hb dX10_earsOf_59 rfl (lv_at hl 0 rfl) ?_
                  refine lv_iload_n hx hb dX10_earsOf_60 rfl (lv_at hl 3 rfl) ?_
                  refine lv_iload_n hx hb dX10_earsOf_61 rfl (lv_at hl 1 rfl) ?_
                  obtain ⟨r7, hr7, hs⟩ := bd_s hs
                  refine kc_i (isC := [0, 2]) (isR := [1]) (pm := [1, 0, 2]) (wr := [(a_y_list, .inl (c_y_list, 16, .inl y_list))]) (w1 := [(a_y, .inr (10, [.int y_n, .ref a_y_list, .int y_sets, .ref a_y_others, .int y_otherMany, .ref a_y_costs, .long y_above, .long y_below, .ref a_y_table, .long y_by, .ref a_y_basis, .ref a_y_isSeen, .ref a_y_colour, .ref a_y_rest, .ref a_y_makes, .ref a_y_worst])), (a_y_rest, .inl (c_y_rest, 16, .inl s47.2.2))]) (w2 := [(a_y, .inr (10, [.int y_n, .ref a_y_list, .int y_sets, .ref a_y_others, .int y_otherMany, .ref a_y_costs, .long y_above, .long y_below, .ref a_y_table, .long y_by, .ref a_y_basis, .ref a_y_isSeen, .ref a_y_colour, .ref a_y_rest, .ref a_y_makes, .ref a_y_worst])), (a_y_list, .inl (c_y_list, 16, .inl y_list)), (a_y_rest, .inl (c_y_rest, 16, .inl s47.2.2))]) (va_runV (As := [.int s47.2.1, .int s39.1]) (rest := []) ⟨hx, hb, hml, hown, hts⟩ (c_X10_holder l dC dI a_y a_y_list a_y_others a_y_costs a_y_table a_y_basis a_y_isSeen a_y_colour a_y_rest a_y_makes a_y_worst c_y_rest H.size y_n y_sets y_otherMany y_above y_below y_by s47.2.2 s47.2.1 s39.1 r7 hr7) (cwV 2 hts gX10_earsOf_X10_holder rfl rfl rfl (by decide +kernel) ⟨Nat.le_of_ble_eq_true rfl, Nat.le_of_ble_eq_true rfl⟩) (kp_V hK hP hD hS hA hN (isC := [0, 2]) (isT := [1]) (wc := [(a_y, .inr (10, [.int y_n, .ref a_y_list, .int y_sets, .ref a_y_others, .int y_otherMany, .ref a_y_costs, .long y_above, .long y_below, .ref a_y_table, .long y_by, .ref a_y_basis, .ref a_y_isSeen, .ref a_y_colour, .ref a_y_rest, .ref a_y_makes, .ref a_y_worst])), (a_y_rest, .inl (c_y_rest, 16, .inl s47.2.2))]) rfl (by decide +kernel) rfl (ci := 10) (q0 := 0) rfl rfl) rfl rfl hl.1 rfl (lv_room (Nat.le_of_ble_eq_true rfl)) dX10_earsOf_62 ⟨Nat.le_of_ble_eq_true rfl, Nat.le_of_ble_eq_true rfl⟩) hP hD hS hA rfl rfl (by decide +kernel) (by decide +kernel) rfl (by decide +kernel) (fun H locs hP hD hS => ?_)
                  refine lv_istore (lv' := [(4, .int r7), (0, .ref a_y), (1, .int s39.1), (2, .int s47.1), (3, .int s47.2.1)]) hx hb dX10_earsOf_65 hl (by decide) rfl (fun ls hl => ?_)
                  refine lv_iload hx hb dX10_earsOf_67 (lv_at hl 0 rfl) ?_
                  refine lv_iconst (v := (-1)) hx hb dX10_earsOf_69 (by decide) ?_
                  refine lv_icmp_eq (tgt := 88) hx hb dX10_earsOf_70 (by decide) (fun hc => ?_) (fun hc => ?_)
                  · replace hs := it_t hc hs
                    refine lv_iinc (v := s47.2.1 + 1) (lv' := [(3, .int (s47.2.1 + 1)), (4, .int r7), (0, .ref a_y), (1, .int s39.1), (2, .int s47.1)]) hx hb dX10_earsOf_88 hl (k := 4) rfl (by rfl) (by decide) rfl (fun ls hl => ?_)
                    refine lv_goto (tgt := 47) hx hb dX10_earsOf_91 (by decide) ?_
                    replace hs := Option.some.inj hs
                    subst hs
                    exact hZw (ih (s47.1, s47.2.1 + 1, s47.2.2) H locs ls hn hP hD hS (lv_sub hl [2, 3, 4, 0] rfl))
                  · replace hs := it_f hc hs
                    refine lv_aload_n hx hb dX10_earsOf_73 rfl (lv_at hl 1 rfl) ?_
                    refine va_get (D := (dC, dI)) (ci := 10) (v := .ref a_y_rest) (C := RX10) (T := TX10) (N := 16) hx hb hts hiX10 hown hK hP 0 rfl rfl 13 (by decide) hf33 (fun _ h9 => h9) rfl dX10_earsOf_74 ?_
                    refine lv_iload hx hb dX10_earsOf_77 (lv_at hl 0 rfl) ?_
                    refine lv_dup2_11 hx hb dX10_earsOf_79 rfl rfl ?_
                    obtain ⟨hg8, hs⟩ := gd_s hs
                    refine va_iald hx hb hK hP 2 1 rfl rfl hg8 dX10_earsOf_80 ?_
                    refine lv_iconst (v := 1) hx hb dX10_earsOf_81 (by decide) ?_
                    refine lv_iload_n hx hb dX10_earsOf_82 rfl (lv_at hl 4 rfl) ?_
                    refine lv_ishl hx hb dX10_earsOf_83 ?_
                    refine lv_ixor hx hb dX10_earsOf_84 ?_
                    obtain ⟨hg9, hs⟩ := gd_s hs
                    refine va_iast hx hb hK hP hD hS 2 1 rfl rfl hg9 dX10_earsOf_85 (fun H locs hP hD hS => ?_)
                    have hP : va_P (dC, dI) vwCl [(a_y, .inr (10, [.int y_n, .ref a_y_list, .int y_sets, .ref a_y_others, .int y_otherMany, .ref a_y_costs, .long y_above, .long y_below, .ref a_y_table, .long y_by, .ref a_y_basis, .ref a_y_isSeen, .ref a_y_colour, .ref a_y_rest, .ref a_y_makes, .ref a_y_worst])), (a_y_list, .inl (c_y_list, 16, .inl y_list)), (a_y_rest, .inl (c_y_rest, 16, .inl (upd s47.2.2 r7.toNatClampNeg ((s47.2.2 r7.toNatClampNeg) ^^^ (1 <<< (s47.2.1 &&& 31))))))] H := hP
                    have hD : va_D A [(a_y, .inr (10, [.int y_n, .ref a_y_list, .int y_sets, .ref a_y_others, .int y_otherMany, .ref a_y_costs, .long y_above, .long y_below, .ref a_y_table, .long y_by, .ref a_y_basis, .ref a_y_isSeen, .ref a_y_colour, .ref a_y_rest, .ref a_y_makes, .ref a_y_worst])), (a_y_list, .inl (c_y_list, 16, .inl y_list)), (a_y_rest, .inl (c_y_rest, 16, .inl (upd s47.2.2 r7.toNatClampNeg ((s47.2.2 r7.toNatClampNeg) ^^^ (1 <<< (s47.2.1 &&& 31))))))] := hD
                    refine lv_iconst (v := 1) hx hb dX10_earsOf_86 (by decide) ?_
                    refine lv_istore_n (lv' := [(2, .int 1), (4, .int r7), (0, .ref a_y), (1, .int s39.1), (3, .int s47.2.1)]) hx hb dX10_earsOf_87 rfl hl (by decide) rfl (fun ls hl => ?_)
                    refine lv_iinc (v := s47.2.1 + 1) (lv' := [(3, .int (s47.2.1 + 1)), (2, .int 1), (4, .int r7), (0, .ref a_y), (1, .int s39.1)]) hx hb dX10_earsOf_88 hl (k := 4) rfl (by rfl) (by decide) rfl (fun ls hl => ?_)
                    refine lv_goto (tgt := 47) hx hb dX10_earsOf_91 (by decide) ?_
                    replace hs := Option.some.inj hs
                    subst hs
                    exact hZw (ih (1, s47.2.1 + 1, upd s47.2.2 r7.toNatClampNeg ((s47.2.2 r7.toNatClampNeg) ^^^ (1 <<< (s47.2.1 &&& 31)))) H locs ls hn hP hD hS (lv_sub hl [3, 4, 1, 0] rfl))
          obtain ⟨n47, hn47⟩ := lp_ex he47
          exact hZw (hL47 n47 (0, 0, s39.2.2) H locs ls hn47 hP hD hS (lv_sub hl [2, 3, 1, 0] rfl))
    obtain ⟨n39, hn39⟩ := lp_ex he39
    exact hZw (hL39 n39 ((1 <<< (y_sets &&& 31)) - 1, 1, e11) H locs ls hn39 hP hD hS (lv_sub hl [1, 2, 0] rfl))
  clear hs
  have hL11 : ∀ (n : Nat) (s11 : Int32 × (Nat → Int32)) (H : Heap) (locs : List Loc) (ls : Array Slot), itr (pX10_earsOf_L11 y_sets y_list) n s11 = some e11 → va_P (dC, dI) vwCl [(a_y, .inr (10, [.int y_n, .ref a_y_list, .int y_sets, .ref a_y_others, .int y_otherMany, .ref a_y_costs, .long y_above, .long y_below, .ref a_y_table, .long y_by, .ref a_y_basis, .ref a_y_isSeen, .ref a_y_colour, .ref a_y_rest, .ref a_y_makes, .ref a_y_worst])), (a_y_list, .inl (c_y_list, 16, .inl y_list)), (a_y_rest, .inl (c_y_rest, 16, .inl s11.2))] H → va_D A [(a_y, .inr (10, [.int y_n, .ref a_y_list, .int y_sets, .ref a_y_others, .int y_otherMany, .ref a_y_costs, .long y_above, .long y_below, .ref a_y_table, .long y_by, .ref a_y_basis, .ref a_y_isSeen, .ref a_y_colour, .ref a_y_rest, .ref a_y_makes, .ref a_y_worst])), (a_y_list, .inl (c_y_list, 16, .inl y_list)), (a_y_rest, .inl (c_y_rest, 16, .inl s11.2))] → va_S A s.heap H locs → lv_has ls 5 [(0, .ref a_y), (1, .int ((1 <<< (y_sets &&& 31)) - 1)), (2, .int s11.1)] → Z H locs 0 0 (F0 m 11 ls []) := by
    intro n
    induction n with
    | zero =>
      intro s11 H locs ls hn
      exact (itr_0 hn).elim
    | succ n ih =>
      intro s11 H locs ls hn hP hD hS hl
      obtain ⟨y1, hs, hn⟩ := itr_s hn
      unfold pX10_earsOf_L11 at hs
      refine hZv ?_
      refine lv_iload_n hx hb dX10_earsOf_11 rfl (lv_at hl 2 rfl) ?_
      refine lv_aload_n hx hb dX10_earsOf_12 rfl (lv_at hl 0 rfl) ?_
      refine va_get (D := (dC, dI)) (ci := 10) (v := .int y_sets) (C := RX10) (T := TX10) (N := 16) hx hb hts hiX10 hown hK hP 0 rfl rfl 2 (by decide) hf61 (fun _ h9 => h9) rfl dX10_earsOf_13 ?_
      refine lv_icmp_ge (tgt := 37) hx hb dX10_earsOf_16 (by decide) (fun hc => ?_) (fun hc => ?_)
      · replace hs := it_t hc hs
        replace hs := Option.some.inj hs
        subst hs
        obtain rfl : s11.2 = e11 := hn
        exact hZw (hX11 H locs ls hP hD hS (lv_sub hl [0, 1] rfl))
      · replace hs := it_f hc hs
        refine lv_aload_n hx hb dX10_earsOf_19 rfl (lv_at hl 0 rfl) ?_
        refine va_get (D := (dC, dI)) (ci := 10) (v := .ref a_y_rest) (C := RX10) (T := TX10) (N := 16) hx hb hts hiX10 hown hK hP 0 rfl rfl 13 (by decide) hf33 (fun _ h9 => h9) rfl dX10_earsOf_20 ?_
        refine lv_iload_n hx hb dX10_earsOf_23 rfl (lv_at hl 2 rfl) ?_
        refine lv_aload_n hx hb dX10_earsOf_24 rfl (lv_at hl 0 rfl) ?_
        refine va_get (D := (dC, dI)) (ci := 10) (v := .ref a_y_list) (C := RX10) (T := TX10) (N := 16) hx hb hts hiX10 hown hK hP 0 rfl rfl 1 (by decide) hf7 (fun _ h9 => h9) rfl dX10_earsOf_25 ?_
        refine lv_iload_n hx hb dX10_earsOf_28 rfl (lv_at hl 2 rfl) ?_
        obtain ⟨hg2, hs⟩ := gd_s hs
        refine va_iald hx hb hK hP 1 0 rfl rfl hg2 dX10_earsOf_29 ?_
        obtain ⟨hg3, hs⟩ := gd_s hs
        refine va_iast hx hb hK hP hD hS 2 1 rfl rfl hg3 dX10_earsOf_30 (fun H locs hP hD hS => ?_)
        have hP : va_P (dC, dI) vwCl [(a_y, .inr (10, [.int y_n, .ref a_y_list, .int y_sets, .ref a_y_others, .int y_otherMany, .ref a_y_costs, .long y_above, .long y_below, .ref a_y_table, .long y_by, .ref a_y_basis, .ref a_y_isSeen, .ref a_y_colour, .ref a_y_rest, .ref a_y_makes, .ref a_y_worst])), (a_y_list, .inl (c_y_list, 16, .inl y_list)), (a_y_rest, .inl (c_y_rest, 16, .inl (upd s11.2 s11.1.toNatClampNeg (y_list s11.1.toNatClampNeg))))] H := hP
        have hD : va_D A [(a_y, .inr (10, [.int y_n, .ref a_y_list, .int y_sets, .ref a_y_others, .int y_otherMany, .ref a_y_costs, .long y_above, .long y_below, .ref a_y_table, .long y_by, .ref a_y_basis, .ref a_y_isSeen, .ref a_y_colour, .ref a_y_rest, .ref a_y_makes, .ref a_y_worst])), (a_y_list, .inl (c_y_list, 16, .inl y_list)), (a_y_rest, .inl (c_y_rest, 16, .inl (upd s11.2 s11.1.toNatClampNeg (y_list s11.1.toNatClampNeg))))] := hD
        refine lv_iinc (v := s11.1 + 1) (lv' := [(2, .int (s11.1 + 1)), (0, .ref a_y), (1, .int ((1 <<< (y_sets &&& 31)) - 1))]) hx hb dX10_earsOf_31 hl (k := 2) rfl (by rfl) (by decide) rfl (fun ls hl => ?_)
        refine lv_goto (tgt := 11) hx hb dX10_earsOf_34 (by decide) ?_
        replace hs := Option.some.inj hs
        subst hs
        exact hZw (ih (s11.1 + 1, upd s11.2 s11.1.toNatClampNeg (y_list s11.1.toNatClampNeg)) H locs ls hn hP hD hS (lv_sub hl [1, 2, 0] rfl))
  obtain ⟨n11, hn11⟩ := lp_ex he11
  exact hZw (hL11 n11 (0, y_rest) H locs ls hn11 hP hD hS (lv_sub hl [2, 1, 0] rfl))
noncomputable def pX10_ears (y_n : Int32) (y_sets : Int32) (y_list : Nat → Int32) (y_rest : Nat → Int32) : Option (Int32 × (Nat → Int32)) :=
  Option.bind (pX10_earsOf y_n y_sets y_list y_rest) (fun r1 => some (r1.1, r1.2))
set_option maxHeartbeats 4000000 in
set_option maxRecDepth 100000 in
theorem c_X10_ears (l : Launch) (dC : Nat → ClassId) (dI : Nat → Nat → Nat) (a_y : Nat) (a_y_list : Nat) (a_y_others : Nat) (a_y_costs : Nat) (a_y_table : Nat) (a_y_basis : Nat) (a_y_isSeen : Nat) (a_y_colour : Nat) (a_y_rest : Nat) (a_y_makes : Nat) (a_y_worst : Nat) (c_y_list c_y_rest : ClassId) (sz : Nat) (y_n : Int32) (y_sets : Int32) (y_otherMany : Int32) (y_above : Int64) (y_below : Int64) (y_by : Int64) (y_list : Nat → Int32) (y_rest : Nat → Int32) (rv : Int32 × (Nat → Int32)) (hs : pX10_ears y_n y_sets y_list y_rest = some rv) : Met l yX10_ears wsX10_ears ({ frames := 2, cells := 0, slots := 0, locals := 49 }) (sPc [.ref a_y] (dC, dI) [(c_y_list, .int), (c_y_rest, .int)] [(a_y, .inr (10, [.int y_n, .ref a_y_list, .int y_sets, .ref a_y_others, .int y_otherMany, .ref a_y_costs, .long y_above, .long y_below, .ref a_y_table, .long y_by, .ref a_y_basis, .ref a_y_isSeen, .ref a_y_colour, .ref a_y_rest, .ref a_y_makes, .ref a_y_worst])), (a_y_list, .inl (c_y_list, 16, .inl y_list)), (a_y_rest, .inl (c_y_rest, 16, .inl y_rest))] sz) (va_Qi (fun (r : Int32) (_ : Unit) => r = rv.1) (sB (dC, dI) [(c_y_list, .int), (c_y_rest, .int)] (va_A [(a_y, .inr (10, [.int y_n, .ref a_y_list, .int y_sets, .ref a_y_others, .int y_otherMany, .ref a_y_costs, .long y_above, .long y_below, .ref a_y_table, .long y_by, .ref a_y_basis, .ref a_y_isSeen, .ref a_y_colour, .ref a_y_rest, .ref a_y_makes, .ref a_y_worst])), (a_y_list, .inl (c_y_list, 16, .inl y_list)), (a_y_rest, .inl (c_y_rest, 16, .inl y_rest))] sz) [(a_y, .inr (10, [.int y_n, .ref a_y_list, .int y_sets, .ref a_y_others, .int y_otherMany, .ref a_y_costs, .long y_above, .long y_below, .ref a_y_table, .long y_by, .ref a_y_basis, .ref a_y_isSeen, .ref a_y_colour, .ref a_y_rest, .ref a_y_makes, .ref a_y_worst])), (a_y_list, .inl (c_y_list, 16, .inl y_list)), (a_y_rest, .inl (c_y_rest, 16, .inl rv.2))]) (va_A [(a_y, .inr (10, [.int y_n, .ref a_y_list, .int y_sets, .ref a_y_others, .int y_otherMany, .ref a_y_costs, .long y_above, .long y_below, .ref a_y_table, .long y_by, .ref a_y_basis, .ref a_y_isSeen, .ref a_y_colour, .ref a_y_rest, .ref a_y_makes, .ref a_y_worst])), (a_y_list, .inl (c_y_list, 16, .inl y_list)), (a_y_rest, .inl (c_y_rest, 16, .inl y_rest))] sz)) 0 0 (va_A [(a_y, .inr (10, [.int y_n, .ref a_y_list, .int y_sets, .ref a_y_others, .int y_otherMany, .ref a_y_costs, .long y_above, .long y_below, .ref a_y_table, .long y_by, .ref a_y_basis, .ref a_y_isSeen, .ref a_y_colour, .ref a_y_rest, .ref a_y_makes, .ref a_y_worst])), (a_y_list, .inl (c_y_list, 16, .inl y_list)), (a_y_rest, .inl (c_y_rest, 16, .inl y_rest))] sz) := by
  refine Met.ofW (cc := cX10_ears) (maxL := 1) (ret := (some .int)) (by decide) rfl ?_
  intro p e s m args below meth c s₁ B hml hv
  obtain ⟨rfl, hsz, hP, hK, hD0, hN⟩ := hv
  have hx := B.exec
  have hb := B.bytes
  have hr := B.returns
  have hts := atoms_spec (ws := wsX10_ears) B.pre
  have hown : s.vm.findClass RX10 = some m.cls := findClass_of_methodNamed B.named
  have hlocks := B.notSynchronized
  subst hsz
  have hD := hD0.self (sz := s.heap.size)
  generalize hAe : va_A [(a_y, .inr (10, [.int y_n, .ref a_y_list, .int y_sets, .ref a_y_others, .int y_otherMany, .ref a_y_costs, .long y_above, .long y_below, .ref a_y_table, .long y_by, .ref a_y_basis, .ref a_y_isSeen, .ref a_y_colour, .ref a_y_rest, .ref a_y_makes, .ref a_y_worst])), (a_y_list, .inl (c_y_list, 16, .inl y_list)), (a_y_rest, .inl (c_y_rest, 16, .inl y_rest))] s.heap.size = A at hD hN ⊢
  have hA : ∀ q : Nat, s.heap.size ≤ q → A q := fun q h => by rw [← hAe]; exact Or.inr h
  have hS : va_S A s.heap s.heap [] := va_S.rf
  have hP : va_P (dC, dI) vwCl [(a_y, .inr (10, [.int y_n, .ref a_y_list, .int y_sets, .ref a_y_others, .int y_otherMany, .ref a_y_costs, .long y_above, .long y_below, .ref a_y_table, .long y_by, .ref a_y_basis, .ref a_y_isSeen, .ref a_y_colour, .ref a_y_rest, .ref a_y_makes, .ref a_y_worst])), (a_y_list, .inl (c_y_list, 16, .inl y_list)), (a_y_rest, .inl (c_y_rest, 16, .inl y_rest))] s.heap := hP
  have hl := lv_entry ([.ref a_y]) (n := 1) (Nat.le_of_ble_eq_true rfl)
  rw [lg_entry_eq]
  generalize (lg_sl ([.ref a_y]) ++ List.replicate (1 - (lg_sl ([.ref a_y])).length) Slot.unset).toArray = ls at hl ⊢
  have hl : lv_has ls 1 [(0, .ref a_y)] := hl
  refine w_abs (fun Z hZv hZw => ?_)
  refine hZv ?_
  obtain ⟨H, hH⟩ : ∃ H, H = s.heap := ⟨_, rfl⟩
  obtain ⟨locs, hlo⟩ : ∃ L : List Loc, L = [] := ⟨_, rfl⟩
  rw [← hlo, ← hH]
  have hS : va_S A s.heap H locs := by rw [hlo, hH]; exact hS
  have hP : va_P (dC, dI) vwCl [(a_y, .inr (10, [.int y_n, .ref a_y_list, .int y_sets, .ref a_y_others, .int y_otherMany, .ref a_y_costs, .long y_above, .long y_below, .ref a_y_table, .long y_by, .ref a_y_basis, .ref a_y_isSeen, .ref a_y_colour, .ref a_y_rest, .ref a_y_makes, .ref a_y_worst])), (a_y_list, .inl (c_y_list, 16, .inl y_list)), (a_y_rest, .inl (c_y_rest, 16, .inl y_rest))] H := by rw [hH]; exact hP
  clear hH hlo
  unfold pX10_ears at hs
  refine lv_aload_n hx hb dX10_ears_0 rfl (lv_at hl 0 rfl) ?_
  obtain ⟨r1, hr1, hs⟩ := bd_s hs
  refine kc_i (isC := [0, 1, 2]) (isR := []) (pm := [0, 1, 2]) (wr := []) (w1 := [(a_y, .inr (10, [.int y_n, .ref a_y_list, .int y_sets, .ref a_y_others, .int y_otherMany, .ref a_y_costs, .long y_above, .long y_below, .ref a_y_table, .long y_by, .ref a_y_basis, .ref a_y_isSeen, .ref a_y_colour, .ref a_y_rest, .ref a_y_makes, .ref a_y_worst])), (a_y_list, .inl (c_y_list, 16, .inl y_list)), (a_y_rest, .inl (c_y_rest, 16, .inl r1.2))]) (w2 := [(a_y, .inr (10, [.int y_n, .ref a_y_list, .int y_sets, .ref a_y_others, .int y_otherMany, .ref a_y_costs, .long y_above, .long y_below, .ref a_y_table, .long y_by, .ref a_y_basis, .ref a_y_isSeen, .ref a_y_colour, .ref a_y_rest, .ref a_y_makes, .ref a_y_worst])), (a_y_list, .inl (c_y_list, 16, .inl y_list)), (a_y_rest, .inl (c_y_rest, 16, .inl r1.2))]) (va_runV (As := []) (rest := []) ⟨hx, hb, hml, hown, hts⟩ (c_X10_earsOf l dC dI a_y a_y_list a_y_others a_y_costs a_y_table a_y_basis a_y_isSeen a_y_colour a_y_rest a_y_makes a_y_worst c_y_list c_y_rest H.size y_n y_sets y_otherMany y_above y_below y_by y_list y_rest r1 hr1) (cwV 0 hts gX10_ears_X10_earsOf rfl rfl rfl (by decide +kernel) ⟨Nat.le_of_ble_eq_true rfl, Nat.le_of_ble_eq_true rfl⟩) (kp_V hK hP hD hS hA hN (isC := [0, 1, 2]) (isT := [0, 1]) (wc := [(a_y, .inr (10, [.int y_n, .ref a_y_list, .int y_sets, .ref a_y_others, .int y_otherMany, .ref a_y_costs, .long y_above, .long y_below, .ref a_y_table, .long y_by, .ref a_y_basis, .ref a_y_isSeen, .ref a_y_colour, .ref a_y_rest, .ref a_y_makes, .ref a_y_worst])), (a_y_list, .inl (c_y_list, 16, .inl y_list)), (a_y_rest, .inl (c_y_rest, 16, .inl y_rest))]) rfl (by decide +kernel) rfl (ci := 10) (q0 := 0) rfl rfl) rfl rfl hl.1 rfl (lv_room (Nat.le_of_ble_eq_true rfl)) dX10_ears_1 ⟨Nat.le_of_ble_eq_true rfl, Nat.le_of_ble_eq_true rfl⟩) hP hD hS hA rfl rfl (by decide +kernel) (by decide +kernel) rfl (by decide +kernel) (fun H locs hP hD hS => ?_)
  replace hs := Option.some.inj hs
  subst hs
  exact W.iret (v := r1.1) hx hb hr (fun t ht hW => ⟨⟨r1.1, (), rfl, rfl, by rw [ht]; exact hP, va_K.moved hW.alike hK, hD⟩, hS.F ht⟩) hS.2.2 dX10_ears_4
noncomputable def pX10_twoByTwo_L22_4 (y_sets : Int32) (y_list : Nat → Int32) (s2 : Int32) (s22 : Int32 × Int32) : Option ((Int32 × Int32) ⊕ (Int32)) :=
  if y_sets ≤ s22.2 then (some (Sum.inr s22.1)) else (gd (vp_in s22.2 16) (Option.bind (pX10_sizeOf ((y_list s22.2.toNatClampNeg) &&& s2)) (fun r7 => Option.bind (if r7 ≤ 1 then (some 0) else (some (1 <<< (s22.2 &&& 31))) : Option (Int32)) (fun t53 => some (Sum.inl (s22.1 ||| t53, s22.2 + 1))))))
noncomputable def pX10_twoByTwo_L2 (y_n : Int32) (y_sets : Int32) (y_list : Nat → Int32) (s2 : Int32) : Option ((Int32) ⊕ ((Int32) ⊕ (Unit))) :=
  Option.bind (pX10_all y_n) (fun r2 => if r2 < s2 then (some (Sum.inr (Sum.inr ()))) else (Option.bind (pX10_sizeOf s2) (fun r3 => if r3 = 3 then (Option.bind (lp (pX10_twoByTwo_L22_4 y_sets y_list s2) (0, 0)) (fun e22 => if e22 = 0 then (some (Sum.inl (s2 + 1))) else (Option.bind (pX10_common y_n y_sets y_list e22) (fun r8 => if r8 = 0 then (some (Sum.inr (Sum.inl s2))) else (some (Sum.inl (s2 + 1))))))) else (some (Sum.inl (s2 + 1))))))
noncomputable def pX10_twoByTwo (y_n : Int32) (y_sets : Int32) (y_list : Nat → Int32) : Option (Int32) :=
  Option.bind (lp (pX10_twoByTwo_L2 y_n y_sets y_list) 0) (Sum.elim (fun e2_0 => some e2_0) (fun e2_1 => some (-1)))
set_option maxHeartbeats 4000000 in
set_option maxRecDepth 100000 in
theorem c_X10_twoByTwo (l : Launch) (dC : Nat → ClassId) (dI : Nat → Nat → Nat) (a_y : Nat) (a_y_list : Nat) (a_y_others : Nat) (a_y_costs : Nat) (a_y_table : Nat) (a_y_basis : Nat) (a_y_isSeen : Nat) (a_y_colour : Nat) (a_y_rest : Nat) (a_y_makes : Nat) (a_y_worst : Nat) (c_y_list : ClassId) (sz : Nat) (y_n : Int32) (y_sets : Int32) (y_otherMany : Int32) (y_above : Int64) (y_below : Int64) (y_by : Int64) (y_list : Nat → Int32) (rv : Int32) (hs : pX10_twoByTwo y_n y_sets y_list = some rv) : Met l yX10_twoByTwo wsX10_twoByTwo ({ frames := 2, cells := 0, slots := 0, locals := 43 }) (sPc [.ref a_y] (dC, dI) [(c_y_list, .int)] [(a_y, .inr (10, [.int y_n, .ref a_y_list, .int y_sets, .ref a_y_others, .int y_otherMany, .ref a_y_costs, .long y_above, .long y_below, .ref a_y_table, .long y_by, .ref a_y_basis, .ref a_y_isSeen, .ref a_y_colour, .ref a_y_rest, .ref a_y_makes, .ref a_y_worst])), (a_y_list, .inl (c_y_list, 16, .inl y_list))] sz) (va_Qi (fun (r : Int32) (_ : Unit) => r = rv) (sB (dC, dI) [(c_y_list, .int)] (va_A [(a_y, .inr (10, [.int y_n, .ref a_y_list, .int y_sets, .ref a_y_others, .int y_otherMany, .ref a_y_costs, .long y_above, .long y_below, .ref a_y_table, .long y_by, .ref a_y_basis, .ref a_y_isSeen, .ref a_y_colour, .ref a_y_rest, .ref a_y_makes, .ref a_y_worst])), (a_y_list, .inl (c_y_list, 16, .inl y_list))] sz) [(a_y, .inr (10, [.int y_n, .ref a_y_list, .int y_sets, .ref a_y_others, .int y_otherMany, .ref a_y_costs, .long y_above, .long y_below, .ref a_y_table, .long y_by, .ref a_y_basis, .ref a_y_isSeen, .ref a_y_colour, .ref a_y_rest, .ref a_y_makes, .ref a_y_worst])), (a_y_list, .inl (c_y_list, 16, .inl y_list))]) (va_A [(a_y, .inr (10, [.int y_n, .ref a_y_list, .int y_sets, .ref a_y_others, .int y_otherMany, .ref a_y_costs, .long y_above, .long y_below, .ref a_y_table, .long y_by, .ref a_y_basis, .ref a_y_isSeen, .ref a_y_colour, .ref a_y_rest, .ref a_y_makes, .ref a_y_worst])), (a_y_list, .inl (c_y_list, 16, .inl y_list))] sz)) 0 0 (va_A [(a_y, .inr (10, [.int y_n, .ref a_y_list, .int y_sets, .ref a_y_others, .int y_otherMany, .ref a_y_costs, .long y_above, .long y_below, .ref a_y_table, .long y_by, .ref a_y_basis, .ref a_y_isSeen, .ref a_y_colour, .ref a_y_rest, .ref a_y_makes, .ref a_y_worst])), (a_y_list, .inl (c_y_list, 16, .inl y_list))] sz) := by
  refine Met.ofW (cc := cX10_twoByTwo) (maxL := 4) (ret := (some .int)) (by decide) rfl ?_
  intro p e s m args below meth c s₁ B hml hv
  obtain ⟨rfl, hsz, hP, hK, hD0, hN⟩ := hv
  have hx := B.exec
  have hb := B.bytes
  have hr := B.returns
  have hts := atoms_spec (ws := wsX10_twoByTwo) B.pre
  have hown : s.vm.findClass RX10 = some m.cls := findClass_of_methodNamed B.named
  have hlocks := B.notSynchronized
  subst hsz
  have hD := hD0.self (sz := s.heap.size)
  generalize hAe : va_A [(a_y, .inr (10, [.int y_n, .ref a_y_list, .int y_sets, .ref a_y_others, .int y_otherMany, .ref a_y_costs, .long y_above, .long y_below, .ref a_y_table, .long y_by, .ref a_y_basis, .ref a_y_isSeen, .ref a_y_colour, .ref a_y_rest, .ref a_y_makes, .ref a_y_worst])), (a_y_list, .inl (c_y_list, 16, .inl y_list))] s.heap.size = A at hD hN ⊢
  have hA : ∀ q : Nat, s.heap.size ≤ q → A q := fun q h => by rw [← hAe]; exact Or.inr h
  have hS : va_S A s.heap s.heap [] := va_S.rf
  have hP : va_P (dC, dI) vwCl [(a_y, .inr (10, [.int y_n, .ref a_y_list, .int y_sets, .ref a_y_others, .int y_otherMany, .ref a_y_costs, .long y_above, .long y_below, .ref a_y_table, .long y_by, .ref a_y_basis, .ref a_y_isSeen, .ref a_y_colour, .ref a_y_rest, .ref a_y_makes, .ref a_y_worst])), (a_y_list, .inl (c_y_list, 16, .inl y_list))] s.heap := hP
  have hl := lv_entry ([.ref a_y]) (n := 4) (Nat.le_of_ble_eq_true rfl)
  rw [lg_entry_eq]
  generalize (lg_sl ([.ref a_y]) ++ List.replicate (4 - (lg_sl ([.ref a_y])).length) Slot.unset).toArray = ls at hl ⊢
  have hl : lv_has ls 4 [(0, .ref a_y)] := hl
  have hiX10 : ∀ w ∈ wsX100, w ∈ wsX10_twoByTwo := fun _ h => List.mem_cons_of_mem _ (List.mem_append_right _ h)
  have hf61 := hts (.fieldLink RX10 61 "MeetSetsModel" "sets" "I") (t1_ (al_ h1_))
  have hf7 := hts (.fieldLink RX10 7 "MeetSetsModel" "list" "[I") (t1_ (al_ (t1_ h1_)))
  refine w_abs (fun Z hZv hZw => ?_)
  refine hZv ?_
  obtain ⟨H, hH⟩ : ∃ H, H = s.heap := ⟨_, rfl⟩
  obtain ⟨locs, hlo⟩ : ∃ L : List Loc, L = [] := ⟨_, rfl⟩
  rw [← hlo, ← hH]
  have hS : va_S A s.heap H locs := by rw [hlo, hH]; exact hS
  have hP : va_P (dC, dI) vwCl [(a_y, .inr (10, [.int y_n, .ref a_y_list, .int y_sets, .ref a_y_others, .int y_otherMany, .ref a_y_costs, .long y_above, .long y_below, .ref a_y_table, .long y_by, .ref a_y_basis, .ref a_y_isSeen, .ref a_y_colour, .ref a_y_rest, .ref a_y_makes, .ref a_y_worst])), (a_y_list, .inl (c_y_list, 16, .inl y_list))] H := by rw [hH]; exact hP
  clear hH hlo
  unfold pX10_twoByTwo at hs
  refine lv_iconst (v := 0) hx hb dX10_twoByTwo_0 (by decide) ?_
  refine lv_istore_n (lv' := [(1, .int 0), (0, .ref a_y)]) hx hb dX10_twoByTwo_1 rfl hl (by decide) rfl (fun ls hl => ?_)
  obtain ⟨e2, he2, hs⟩ := bd_s hs
  have hX2_0 : ∀ (e2_0 : Int32), (Sum.inl e2_0) = e2 → ∀ (H : Heap) (locs : List Loc) (ls : Array Slot), va_P (dC, dI) vwCl [(a_y, .inr (10, [.int y_n, .ref a_y_list, .int y_sets, .ref a_y_others, .int y_otherMany, .ref a_y_costs, .long y_above, .long y_below, .ref a_y_table, .long y_by, .ref a_y_basis, .ref a_y_isSeen, .ref a_y_colour, .ref a_y_rest, .ref a_y_makes, .ref a_y_worst])), (a_y_list, .inl (c_y_list, 16, .inl y_list))] H → va_D A [(a_y, .inr (10, [.int y_n, .ref a_y_list, .int y_sets, .ref a_y_others, .int y_otherMany, .ref a_y_costs, .long y_above, .long y_below, .ref a_y_table, .long y_by, .ref a_y_basis, .ref a_y_isSeen, .ref a_y_colour, .ref a_y_rest, .ref a_y_makes, .ref a_y_worst])), (a_y_list, .inl (c_y_list, 16, .inl y_list))] → va_S A s.heap H locs → lv_has ls 4 [(1, .int e2_0)] → Z H locs 0 0 (F0 m 73 ls []) := by
    intro e2_0 he H locs ls hP hD hS hl
    subst he
    replace hs := sm_l hs
    refine hZv ?_
    refine lv_iload_n hx hb dX10_twoByTwo_73 rfl (lv_at hl 0 rfl) ?_
    replace hs := Option.some.inj hs
    subst hs
    exact W.iret (v := e2_0) hx hb hr (fun t ht hW => ⟨⟨e2_0, (), rfl, rfl, by rw [ht]; exact hP, va_K.moved hW.alike hK, hD⟩, hS.F ht⟩) hS.2.2 dX10_twoByTwo_74
  have hX2_1 : ∀ (e2_1 : Unit), (Sum.inr e2_1) = e2 → ∀ (H : Heap) (locs : List Loc) (ls : Array Slot), va_P (dC, dI) vwCl [(a_y, .inr (10, [.int y_n, .ref a_y_list, .int y_sets, .ref a_y_others, .int y_otherMany, .ref a_y_costs, .long y_above, .long y_below, .ref a_y_table, .long y_by, .ref a_y_basis, .ref a_y_isSeen, .ref a_y_colour, .ref a_y_rest, .ref a_y_makes, .ref a_y_worst])), (a_y_list, .inl (c_y_list, 16, .inl y_list))] H → va_D A [(a_y, .inr (10, [.int y_n, .ref a_y_list, .int y_sets, .ref a_y_others, .int y_otherMany, .ref a_y_costs, .long y_above, .long y_below, .ref a_y_table, .long y_by, .ref a_y_basis, .ref a_y_isSeen, .ref a_y_colour, .ref a_y_rest, .ref a_y_makes, .ref a_y_worst])), (a_y_list, .inl (c_y_list, 16, .inl y_list))] → va_S A s.heap H locs → lv_has ls 4 [] → Z H locs 0 0 (F0 m 81 ls []) := by
    intro e2_1 he H locs ls hP hD hS hl
    subst he
    replace hs := sm_r hs
    refine hZv ?_
    refine lv_iconst (v := (-1)) hx hb dX10_twoByTwo_81 (by decide) ?_
    replace hs := Option.some.inj hs
    subst hs
    exact W.iret (v := (-1)) hx hb hr (fun t ht hW => ⟨⟨(-1), (), rfl, rfl, by rw [ht]; exact hP, va_K.moved hW.alike hK, hD⟩, hS.F ht⟩) hS.2.2 dX10_twoByTwo_82
  clear hs
  have hL2 : ∀ (n : Nat) (s2 : Int32) (H : Heap) (locs : List Loc) (ls : Array Slot), itr (pX10_twoByTwo_L2 y_n y_sets y_list) n s2 = some e2 → va_P (dC, dI) vwCl [(a_y, .inr (10, [.int y_n, .ref a_y_list, .int y_sets, .ref a_y_others, .int y_otherMany, .ref a_y_costs, .long y_above, .long y_below, .ref a_y_table, .long y_by, .ref a_y_basis, .ref a_y_isSeen, .ref a_y_colour, .ref a_y_rest, .ref a_y_makes, .ref a_y_worst])), (a_y_list, .inl (c_y_list, 16, .inl y_list))] H → va_D A [(a_y, .inr (10, [.int y_n, .ref a_y_list, .int y_sets, .ref a_y_others, .int y_otherMany, .ref a_y_costs, .long y_above, .long y_below, .ref a_y_table, .long y_by, .ref a_y_basis, .ref a_y_isSeen, .ref a_y_colour, .ref a_y_rest, .ref a_y_makes, .ref a_y_worst])), (a_y_list, .inl (c_y_list, 16, .inl y_list))] → va_S A s.heap H locs → lv_has ls 4 [(0, .ref a_y), (1, .int s2)] → Z H locs 0 0 (F0 m 2 ls []) := by
    intro n
    induction n with
    | zero =>
      intro s2 H locs ls hn
      exact (itr_0 hn).elim
    | succ n ih =>
      intro s2 H locs ls hn hP hD hS hl
      obtain ⟨y1, hs, hn⟩ := itr_s hn
      unfold pX10_twoByTwo_L2 at hs
      refine hZv ?_
      refine lv_iload_n hx hb dX10_twoByTwo_2 rfl (lv_at hl 1 rfl) ?_
      refine lv_aload_n hx hb dX10_twoByTwo_3 rfl (lv_at hl 0 rfl) ?_
      obtain ⟨r2, hr2, hs⟩ := bd_s hs
      refine kc_i (isC := [0]) (isR := [1]) (pm := [1, 0]) (wr := [(a_y_list, .inl (c_y_list, 16, .inl y_list))]) (w1 := [(a_y, .inr (10, [.int y_n, .ref a_y_list, .int y_sets, .ref a_y_others, .int y_otherMany, .ref a_y_costs, .long y_above, .long y_below, .ref a_y_table, .long y_by, .ref a_y_basis, .ref a_y_isSeen, .ref a_y_colour, .ref a_y_rest, .ref a_y_makes, .ref a_y_worst]))]) (w2 := [(a_y, .inr (10, [.int y_n, .ref a_y_list, .int y_sets, .ref a_y_others, .int y_otherMany, .ref a_y_costs, .long y_above, .long y_below, .ref a_y_table, .long y_by, .ref a_y_basis, .ref a_y_isSeen, .ref a_y_colour, .ref a_y_rest, .ref a_y_makes, .ref a_y_worst])), (a_y_list, .inl (c_y_list, 16, .inl y_list))]) (va_runV (As := []) (rest := [.int s2]) ⟨hx, hb, hml, hown, hts⟩ (c_X10_all l dC dI a_y a_y_list a_y_others a_y_costs a_y_table a_y_basis a_y_isSeen a_y_colour a_y_rest a_y_makes a_y_worst H.size y_n y_sets y_otherMany y_above y_below y_by r2 hr2) (cwV 0 hts gX10_twoByTwo_X10_all rfl rfl rfl (by decide +kernel) ⟨Nat.le_of_ble_eq_true rfl, Nat.le_of_ble_eq_true rfl⟩) (kp_V hK hP hD hS hA hN (isC := [0]) (isT := []) (wc := [(a_y, .inr (10, [.int y_n, .ref a_y_list, .int y_sets, .ref a_y_others, .int y_otherMany, .ref a_y_costs, .long y_above, .long y_below, .ref a_y_table, .long y_by, .ref a_y_basis, .ref a_y_isSeen, .ref a_y_colour, .ref a_y_rest, .ref a_y_makes, .ref a_y_worst]))]) rfl (by decide +kernel) rfl (ci := 10) (q0 := 0) rfl rfl) rfl rfl hl.1 rfl (lv_room (Nat.le_of_ble_eq_true rfl)) dX10_twoByTwo_4 ⟨Nat.le_of_ble_eq_true rfl, Nat.le_of_ble_eq_true rfl⟩) hP hD hS hA rfl rfl (by decide +kernel) (by decide +kernel) rfl (by decide +kernel) (fun H locs hP hD hS => ?_)
      refine lv_icmp_gt (tgt := 81) hx hb dX10_twoByTwo_7 (by decide) (fun hc => ?_) (fun hc => ?_)
      · replace hs := it_t hc hs
        replace hs := Option.some.inj hs
        subst hs
        obtain rfl : (Sum.inr ()) = e2 := hn
        exact hZw (hX2_1 () rfl H locs ls hP hD hS (lv_sub hl [] rfl))
      · replace hs := it_f hc hs
        refine lv_iload_n hx hb dX10_twoByTwo_10 rfl (lv_at hl 1 rfl) ?_
        obtain ⟨r3, hr3, hs⟩ := bd_s hs
        refine kc_i (isC := []) (isR := [0, 1]) (pm := [0, 1]) (wr := [(a_y, .inr (10, [.int y_n, .ref a_y_list, .int y_sets, .ref a_y_others, .int y_otherMany, .ref a_y_costs, .long y_above, .long y_below, .ref a_y_table, .long y_by, .ref a_y_basis, .ref a_y_isSeen, .ref a_y_colour, .ref a_y_rest, .ref a_y_makes, .ref a_y_worst])), (a_y_list, .inl (c_y_list, 16, .inl y_list))]) (w1 := []) (w2 := [(a_y, .inr (10, [.int y_n, .ref a_y_list, .int y_sets, .ref a_y_others, .int y_otherMany, .ref a_y_costs, .long y_above, .long y_below, .ref a_y_table, .long y_by, .ref a_y_basis, .ref a_y_isSeen, .ref a_y_colour, .ref a_y_rest, .ref a_y_makes, .ref a_y_worst])), (a_y_list, .inl (c_y_list, 16, .inl y_list))]) (va_runS (As := [.int s2]) (rest := []) ⟨hx, hb, hml, hown, hts⟩ (c_X10_sizeOf l dC dI H.size s2 r3 hr3) (va_cwS 1 hts gX10_twoByTwo_X10_sizeOf rfl rfl rfl (by decide +kernel) ⟨Nat.le_of_ble_eq_true rfl, Nat.le_of_ble_eq_true rfl⟩) (kp_S hK hP hD hS hA hN (isC := []) (isT := []) (wc := []) rfl (by decide +kernel) rfl) rfl rfl hl.1 rfl (lv_room (Nat.le_of_ble_eq_true rfl)) dX10_twoByTwo_11 ⟨Nat.le_of_ble_eq_true rfl, Nat.le_of_ble_eq_true rfl⟩) hP hD hS hA rfl rfl (by decide +kernel) (by decide +kernel) rfl (by decide +kernel) (fun H locs hP hD hS => ?_)
        refine lv_iconst (v := 3) hx hb dX10_twoByTwo_14 (by decide) ?_
        refine lv_icmp_ne (tgt := 75) hx hb dX10_twoByTwo_15 (by decide) (fun hc => ?_) (fun hc => ?_)
        · replace hs := it_f hc hs
          refine lv_iinc (v := s2 + 1) (lv' := [(1, .int (s2 + 1)), (0, .ref a_y)]) hx hb dX10_twoByTwo_75 hl (k := 1) rfl (by rfl) (by decide) rfl (fun ls hl => ?_)
          refine lv_goto (tgt := 2) hx hb dX10_twoByTwo_78 (by decide) ?_
          replace hs := Option.some.inj hs
          subst hs
          exact hZw (ih (s2 + 1) H locs ls hn hP hD hS (lv_sub hl [1, 0] rfl))
        · replace hs := it_t hc hs
          refine lv_iconst (v := 0) hx hb dX10_twoByTwo_18 (by decide) ?_
          refine lv_istore_n (lv' := [(2, .int 0), (0, .ref a_y), (1, .int s2)]) hx hb dX10_twoByTwo_19 rfl hl (by decide) rfl (fun ls hl => ?_)
          refine lv_iconst (v := 0) hx hb dX10_twoByTwo_20 (by decide) ?_
          refine lv_istore_n (lv' := [(3, .int 0), (2, .int 0), (0, .ref a_y), (1, .int s2)]) hx hb dX10_twoByTwo_21 rfl hl (by decide) rfl (fun ls hl => ?_)
          obtain ⟨e22, he22, hs⟩ := bd_s hs
          have hX22 : ∀ (H : Heap) (locs : List Loc) (ls : Array Slot), va_P (dC, dI) vwCl [(a_y, .inr (10, [.int y_n, .ref a_y_list, .int y_sets, .ref a_y_others, .int y_otherMany, .ref a_y_costs, .long y_above, .long y_below, .ref a_y_table, .long y_by, .ref a_y_basis, .ref a_y_isSeen, .ref a_y_colour, .ref a_y_rest, .ref a_y_makes, .ref a_y_worst])), (a_y_list, .inl (c_y_list, 16, .inl y_list))] H → va_D A [(a_y, .inr (10, [.int y_n, .ref a_y_list, .int y_sets, .ref a_y_others, .int y_otherMany, .ref a_y_costs, .long y_above, .long y_below, .ref a_y_table, .long y_by, .ref a_y_basis, .ref a_y_isSeen, .ref a_y_colour, .ref a_y_rest, .ref a_y_makes, .ref a_y_worst])), (a_y_list, .inl (c_y_list, 16, .inl y_list))] → va_S A s.heap H locs → lv_has ls 4 [(0, .ref a_y), (1, .int s2), (2, .int e22)] → Z H locs 0 0 (F0 m 61 ls []) := by
            intro H locs ls hP hD hS hl
            refine hZv ?_
            refine lv_iload_n hx hb dX10_twoByTwo_61 rfl (lv_at hl 2 rfl) ?_
            refine lv_if_eq (tgt := 75) hx hb dX10_twoByTwo_62 (by decide) (fun hc => ?_) (fun hc => ?_)
            · replace hs := it_t hc hs
              refine lv_iinc (v := s2 + 1) (lv' := [(1, .int (s2 + 1)), (0, .ref a_y), (2, .int e22)]) hx hb dX10_twoByTwo_75 hl (k := 1) rfl (by rfl) (by decide) rfl (fun ls hl => ?_)
              refine lv_goto (tgt := 2) hx hb dX10_twoByTwo_78 (by decide) ?_
              replace hs := Option.some.inj hs
              subst hs
              exact hZw (ih (s2 + 1) H locs ls hn hP hD hS (lv_sub hl [1, 0] rfl))
            · replace hs := it_f hc hs
              refine lv_aload_n hx hb dX10_twoByTwo_65 rfl (lv_at hl 0 rfl) ?_
              refine lv_iload_n hx hb dX10_twoByTwo_66 rfl (lv_at hl 2 rfl) ?_
              obtain ⟨r8, hr8, hs⟩ := bd_s hs
              refine kc_i (isC := [0, 1]) (isR := []) (pm := [0, 1]) (wr := []) (w1 := [(a_y, .inr (10, [.int y_n, .ref a_y_list, .int y_sets, .ref a_y_others, .int y_otherMany, .ref a_y_costs, .long y_above, .long y_below, .ref a_y_table, .long y_by, .ref a_y_basis, .ref a_y_isSeen, .ref a_y_colour, .ref a_y_rest, .ref a_y_makes, .ref a_y_worst])), (a_y_list, .inl (c_y_list, 16, .inl y_list))]) (w2 := [(a_y, .inr (10, [.int y_n, .ref a_y_list, .int y_sets, .ref a_y_others, .int y_otherMany, .ref a_y_costs, .long y_above, .long y_below, .ref a_y_table, .long y_by, .ref a_y_basis, .ref a_y_isSeen, .ref a_y_colour, .ref a_y_rest, .ref a_y_makes, .ref a_y_worst])), (a_y_list, .inl (c_y_list, 16, .inl y_list))]) (va_runV (As := [.int e22]) (rest := []) ⟨hx, hb, hml, hown, hts⟩ (c_X10_common l dC dI a_y a_y_list a_y_others a_y_costs a_y_table a_y_basis a_y_isSeen a_y_colour a_y_rest a_y_makes a_y_worst c_y_list H.size y_n y_sets y_otherMany y_above y_below y_by y_list e22 r8 hr8) (cwV 1 hts gX10_twoByTwo_X10_common rfl rfl rfl (by decide +kernel) ⟨Nat.le_of_ble_eq_true rfl, Nat.le_of_ble_eq_true rfl⟩) (kp_V hK hP hD hS hA hN (isC := [0, 1]) (isT := [0]) (wc := [(a_y, .inr (10, [.int y_n, .ref a_y_list, .int y_sets, .ref a_y_others, .int y_otherMany, .ref a_y_costs, .long y_above, .long y_below, .ref a_y_table, .long y_by, .ref a_y_basis, .ref a_y_isSeen, .ref a_y_colour, .ref a_y_rest, .ref a_y_makes, .ref a_y_worst])), (a_y_list, .inl (c_y_list, 16, .inl y_list))]) rfl (by decide +kernel) rfl (ci := 10) (q0 := 0) rfl rfl) rfl rfl hl.1 rfl (lv_room (Nat.le_of_ble_eq_true rfl)) dX10_twoByTwo_67 ⟨Nat.le_of_ble_eq_true rfl, Nat.le_of_ble_eq_true rfl⟩) hP hD hS hA rfl rfl (by decide +kernel) (by decide +kernel) rfl (by decide +kernel) (fun H locs hP hD hS => ?_)
              refine lv_if_ne (tgt := 75) hx hb dX10_twoByTwo_70 (by decide) (fun hc => ?_) (fun hc => ?_)
              · replace hs := it_f hc hs
                refine lv_iinc (v := s2 + 1) (lv' := [(1, .int (s2 + 1)), (0, .ref a_y), (2, .int e22)]) hx hb dX10_twoByTwo_75 hl (k := 1) rfl (by rfl) (by decide) rfl (fun ls hl => ?_)
                refine lv_goto (tgt := 2) hx hb dX10_twoByTwo_78 (by decide) ?_
                replace hs := Option.some.inj hs
                subst hs
                exact hZw (ih (s2 + 1) H locs ls hn hP hD hS (lv_sub hl [1, 0] rfl))
              · replace hs := it_t hc hs
                replace hs := Option.some.inj hs
                subst hs
                obtain rfl : (Sum.inl s2) = e2 := hn
                exact hZw (hX2_0 s2 rfl H locs ls hP hD hS (lv_sub hl [1] rfl))
          clear hs
          have hL22 : ∀ (n : Nat) (s22 : Int32 × Int32) (H : Heap) (locs : List Loc) (ls : Array Slot), itr (pX10_twoByTwo_L22_4 y_sets y_list s2) n s22 = some e22 → va_P (dC, dI) vwCl [(a_y, .inr (10, [.int y_n, .ref a_y_list, .int y_sets, .ref a_y_others, .int y_otherMany, .ref a_y_costs, .long y_above, .long y_below, .ref a_y_table, .long y_by, .ref a_y_basis, .ref a_y_isSeen, .ref a_y_colour, .ref a_y_rest, .ref a_y_makes, .ref a_y_worst])), (a_y_list, .inl (c_y_list, 16, .inl y_list))] H → va_D A [(a_y, .inr (10, [.int y_n, .ref a_y_list, .int y_sets, .ref a_y_others, .int y_otherMany, .ref a_y_costs, .long y_above, .long y_below, .ref a_y_table, .long y_by, .ref a_y_basis, .ref a_y_isSeen, .ref a_y_colour, .ref a_y_rest, .ref a_y_makes, .ref a_y_worst])), (a_y_list, .inl (c_y_list, 16, .inl y_list))] → va_S A s.heap H locs → lv_has ls 4 [(0, .ref a_y), (1, .int s2), (2, .int s22.1), (3, .int s22.2)] → Z H locs 0 0 (F0 m 22 ls []) := by
            intro n
            induction n with
            | zero =>
              intro s22 H locs ls hn
              exact (itr_0 hn).elim
            | succ n ih =>
              intro s22 H locs ls hn hP hD hS hl
              obtain ⟨y5, hs, hn⟩ := itr_s hn
              unfold pX10_twoByTwo_L22_4 at hs
              refine hZv ?_
              refine lv_iload_n hx hb dX10_twoByTwo_22 rfl (lv_at hl 3 rfl) ?_
              refine lv_aload_n hx hb dX10_twoByTwo_23 rfl (lv_at hl 0 rfl) ?_
              refine va_get (D := (dC, dI)) (ci := 10) (v := .int y_sets) (C := RX10) (T := TX10) (N := 16) hx hb hts hiX10 hown hK hP 0 rfl rfl 2 (by decide) hf61 (fun _ h9 => h9) rfl dX10_twoByTwo_24 ?_
              refine lv_icmp_ge (tgt := 61) hx hb dX10_twoByTwo_27 (by decide) (fun hc => ?_) (fun hc => ?_)
              · replace hs := it_t hc hs
                replace hs := Option.some.inj hs
                subst hs
                obtain rfl : s22.1 = e22 := hn
                exact hZw (hX22 H locs ls hP hD hS (lv_sub hl [0, 1, 2] rfl))
              · replace hs := it_f hc hs
                refine lv_iload_n hx hb dX10_twoByTwo_30 rfl (lv_at hl 2 rfl) ?_
                refine lv_aload_n hx hb dX10_twoByTwo_31 rfl (lv_at hl 0 rfl) ?_
                refine va_get (D := (dC, dI)) (ci := 10) (v := .ref a_y_list) (C := RX10) (T := TX10) (N := 16) hx hb hts hiX10 hown hK hP 0 rfl rfl 1 (by decide) hf7 (fun _ h9 => h9) rfl dX10_twoByTwo_32 ?_
                refine lv_iload_n hx hb dX10_twoByTwo_35 rfl (lv_at hl 3 rfl) ?_
                obtain ⟨hg6, hs⟩ := gd_s hs
                refine va_iald hx hb hK hP 1 0 rfl rfl hg6 dX10_twoByTwo_36 ?_
                refine lv_iload_n hx hb dX10_twoByTwo_37 rfl (lv_at hl 1 rfl) ?_
                refine lv_iand hx hb dX10_twoByTwo_38 ?_
                obtain ⟨r7, hr7, hs⟩ := bd_s hs
                refine kc_i (isC := []) (isR := [0, 1]) (pm := [0, 1]) (wr := [(a_y, .inr (10, [.int y_n, .ref a_y_list, .int y_sets, .ref a_y_others, .int y_otherMany, .ref a_y_costs, .long y_above, .long y_below, .ref a_y_table, .long y_by, .ref a_y_basis, .ref a_y_isSeen, .ref a_y_colour, .ref a_y_rest, .ref a_y_makes, .ref a_y_worst])), (a_y_list, .inl (c_y_list, 16, .inl y_list))]) (w1 := []) (w2 := [(a_y, .inr (10, [.int y_n, .ref a_y_list, .int y_sets, .ref a_y_others, .int y_otherMany, .ref a_y_costs, .long y_above, .long y_below, .ref a_y_table, .long y_by, .ref a_y_basis, .ref a_y_isSeen, .ref a_y_colour, .ref a_y_rest, .ref a_y_makes, .ref a_y_worst])), (a_y_list, .inl (c_y_list, 16, .inl y_list))]) (va_runS (As := [.int ((y_list s22.2.toNatClampNeg) &&& s2)]) (rest := [.int s22.1]) ⟨hx, hb, hml, hown, hts⟩ (c_X10_sizeOf l dC dI H.size ((y_list s22.2.toNatClampNeg) &&& s2) r7 hr7) (va_cwS 1 hts gX10_twoByTwo_X10_sizeOf rfl rfl rfl (by decide +kernel) ⟨Nat.le_of_ble_eq_true rfl, Nat.le_of_ble_eq_true rfl⟩) (kp_S hK hP hD hS hA hN (isC := []) (isT := []) (wc := []) rfl (by decide +kernel) rfl) rfl rfl hl.1 rfl (lv_room (Nat.le_of_ble_eq_true rfl)) dX10_twoByTwo_39 ⟨Nat.le_of_ble_eq_true rfl, Nat.le_of_ble_eq_true rfl⟩) hP hD hS hA rfl rfl (by decide +kernel) (by decide +kernel) rfl (by decide +kernel) (fun H locs hP hD hS => ?_)
                refine lv_iconst (v := 1) hx hb dX10_twoByTwo_42 (by decide) ?_
                obtain ⟨t53, hq53, hs⟩ := bd_s hs
                have hJ53 : ∀ (H : Heap) (locs : List Loc) (ls : Array Slot), va_P (dC, dI) vwCl [(a_y, .inr (10, [.int y_n, .ref a_y_list, .int y_sets, .ref a_y_others, .int y_otherMany, .ref a_y_costs, .long y_above, .long y_below, .ref a_y_table, .long y_by, .ref a_y_basis, .ref a_y_isSeen, .ref a_y_colour, .ref a_y_rest, .ref a_y_makes, .ref a_y_worst])), (a_y_list, .inl (c_y_list, 16, .inl y_list))] H → va_D A [(a_y, .inr (10, [.int y_n, .ref a_y_list, .int y_sets, .ref a_y_others, .int y_otherMany, .ref a_y_costs, .long y_above, .long y_below, .ref a_y_table, .long y_by, .ref a_y_basis, .ref a_y_isSeen, .ref a_y_colour, .ref a_y_rest, .ref a_y_makes, .ref a_y_worst])), (a_y_list, .inl (c_y_list, 16, .inl y_list))] → va_S A s.heap H locs → lv_has ls 4 [(0, .ref a_y), (1, .int s2), (3, .int s22.2)] → Z H locs 0 0 (F0 m 53 ls [.int t53, .int s22.1]) := by
                  intro H locs ls hP hD hS hl
                  refine hZv ?_
                  refine lv_ior hx hb dX10_twoByTwo_53 ?_
                  refine lv_istore_n (lv' := [(2, .int (s22.1 ||| t53)), (0, .ref a_y), (1, .int s2), (3, .int s22.2)]) hx hb dX10_twoByTwo_54 rfl hl (by decide) rfl (fun ls hl => ?_)
                  refine lv_iinc (v := s22.2 + 1) (lv' := [(3, .int (s22.2 + 1)), (2, .int (s22.1 ||| t53)), (0, .ref a_y), (1, .int s2)]) hx hb dX10_twoByTwo_55 hl (k := 3) rfl (by rfl) (by decide) rfl (fun ls hl => ?_)
                  refine lv_goto (tgt := 22) hx hb dX10_twoByTwo_58 (by decide) ?_
                  replace hs := Option.some.inj hs
                  subst hs
                  exact hZw (ih (s22.1 ||| t53, s22.2 + 1) H locs ls hn hP hD hS (lv_sub hl [2, 3, 1, 0] rfl))
                clear hs
                have hs := hq53
                refine lv_icmp_le (tgt := 52) hx hb dX10_twoByTwo_43 (by decide) (fun hc => ?_) (fun hc => ?_)
                · replace hs := it_t hc hs
                  refine lv_iconst (v := 0) hx hb dX10_twoByTwo_52 (by decide) ?_
                  replace hs := Option.some.inj hs
                  subst hs
                  exact hZw (hJ53 H locs ls hP hD hS (lv_sub hl [0, 1, 3] rfl))
                · replace hs := it_f hc hs
                  refine lv_iconst (v := 1) hx hb dX10_twoByTwo_46 (by decide) ?_
                  refine lv_iload_n hx hb dX10_twoByTwo_47 rfl (lv_at hl 3 rfl) ?_
                  refine lv_ishl hx hb dX10_twoByTwo_48 ?_
                  refine lv_goto (tgt := 53) hx hb dX10_twoByTwo_49 (by decide) ?_
                  replace hs := Option.some.inj hs
                  subst hs
                  exact hZw (hJ53 H locs ls hP hD hS (lv_sub hl [0, 1, 3] rfl))
          obtain ⟨n22, hn22⟩ := lp_ex he22
          exact hZw (hL22 n22 (0, 0) H locs ls hn22 hP hD hS (lv_sub hl [2, 3, 1, 0] rfl))
  obtain ⟨n2, hn2⟩ := lp_ex he2
  exact hZw (hL2 n2 0 H locs ls hn2 hP hD hS (lv_sub hl [1, 0] rfl))
noncomputable def pX10_isMade_L7 (y_n : Int32) (s7 : Int32 × Int32 × Int32) : Option ((Int32 × Int32 × Int32) ⊕ (Int32)) :=
  if y_n ≤ s7.2.2 then (some (Sum.inr s7.1)) else (Option.bind (if (s7.2.1 - s7.2.1 / 3 * 3) = 1 then (some (1 <<< (s7.2.2 &&& 31))) else (some 0) : Option (Int32)) (fun t32 => some (Sum.inl (s7.1 ||| t32, s7.2.1 / 3, s7.2.2 + 1))))
noncomputable def pX10_isMade_J78_3 (s50 : Int32 × Int32) (t78 : Unit) : Option ((Int32 × Int32) ⊕ (Int32)) :=
  some (Sum.inl (1, s50.2 + 1))
noncomputable def pX10_isMade_L50 (y_sets : Int32) (y_list : Nat → Int32) (e7 : Int32) (s50 : Int32 × Int32) : Option ((Int32 × Int32) ⊕ (Int32)) :=
  if y_sets ≤ s50.2 then (some (Sum.inr s50.1)) else (if s50.1 = 0 then (gd (vp_in s50.2 16) (if ((y_list s50.2.toNatClampNeg) &&& (e7 ^^^ (-1))) = 0 then (pX10_isMade_J78_3 s50 ()) else (some (Sum.inl (0, s50.2 + 1))))) else (pX10_isMade_J78_3 s50 ()))
noncomputable def pX10_isMade (y_n : Int32) (y_sets : Int32) (y_list : Nat → Int32) (p1 : Int32) : Option (Int32) :=
  Option.bind (lp (pX10_isMade_L7 y_n) (0, p1, 0)) (fun e7 => Option.bind (lp (pX10_isMade_L50 y_sets y_list e7) (0, 0)) (fun e50 => gd (narrow .boolean (.int e50) = .int e50) (some e50)))
set_option maxHeartbeats 4000000 in
set_option maxRecDepth 100000 in
theorem c_X10_isMade (l : Launch) (dC : Nat → ClassId) (dI : Nat → Nat → Nat) (a_y : Nat) (a_y_list : Nat) (a_y_others : Nat) (a_y_costs : Nat) (a_y_table : Nat) (a_y_basis : Nat) (a_y_isSeen : Nat) (a_y_colour : Nat) (a_y_rest : Nat) (a_y_makes : Nat) (a_y_worst : Nat) (c_y_list : ClassId) (sz : Nat) (y_n : Int32) (y_sets : Int32) (y_otherMany : Int32) (y_above : Int64) (y_below : Int64) (y_by : Int64) (y_list : Nat → Int32) (p1 : Int32) (rv : Int32) (hs : pX10_isMade y_n y_sets y_list p1 = some rv) : Met l yX10_isMade wsX10_isMade ({ frames := 0, cells := 0, slots := 0, locals := 0 }) (sPc [.ref a_y, .int p1] (dC, dI) [(c_y_list, .int)] [(a_y, .inr (10, [.int y_n, .ref a_y_list, .int y_sets, .ref a_y_others, .int y_otherMany, .ref a_y_costs, .long y_above, .long y_below, .ref a_y_table, .long y_by, .ref a_y_basis, .ref a_y_isSeen, .ref a_y_colour, .ref a_y_rest, .ref a_y_makes, .ref a_y_worst])), (a_y_list, .inl (c_y_list, 16, .inl y_list))] sz) (va_Qi (fun (r : Int32) (_ : Unit) => r = rv) (sB (dC, dI) [(c_y_list, .int)] (va_A [(a_y, .inr (10, [.int y_n, .ref a_y_list, .int y_sets, .ref a_y_others, .int y_otherMany, .ref a_y_costs, .long y_above, .long y_below, .ref a_y_table, .long y_by, .ref a_y_basis, .ref a_y_isSeen, .ref a_y_colour, .ref a_y_rest, .ref a_y_makes, .ref a_y_worst])), (a_y_list, .inl (c_y_list, 16, .inl y_list))] sz) [(a_y, .inr (10, [.int y_n, .ref a_y_list, .int y_sets, .ref a_y_others, .int y_otherMany, .ref a_y_costs, .long y_above, .long y_below, .ref a_y_table, .long y_by, .ref a_y_basis, .ref a_y_isSeen, .ref a_y_colour, .ref a_y_rest, .ref a_y_makes, .ref a_y_worst])), (a_y_list, .inl (c_y_list, 16, .inl y_list))]) (va_A [(a_y, .inr (10, [.int y_n, .ref a_y_list, .int y_sets, .ref a_y_others, .int y_otherMany, .ref a_y_costs, .long y_above, .long y_below, .ref a_y_table, .long y_by, .ref a_y_basis, .ref a_y_isSeen, .ref a_y_colour, .ref a_y_rest, .ref a_y_makes, .ref a_y_worst])), (a_y_list, .inl (c_y_list, 16, .inl y_list))] sz)) 0 0 (va_A [(a_y, .inr (10, [.int y_n, .ref a_y_list, .int y_sets, .ref a_y_others, .int y_otherMany, .ref a_y_costs, .long y_above, .long y_below, .ref a_y_table, .long y_by, .ref a_y_basis, .ref a_y_isSeen, .ref a_y_colour, .ref a_y_rest, .ref a_y_makes, .ref a_y_worst])), (a_y_list, .inl (c_y_list, 16, .inl y_list))] sz) := by
  refine Met.ofW (cc := cX10_isMade) (maxL := 6) (ret := (some .boolean)) (by decide) rfl ?_
  intro p e s m args below meth c s₁ B hml hv
  obtain ⟨rfl, hsz, hP, hK, hD0, hN⟩ := hv
  have hx := B.exec
  have hb := B.bytes
  have hr := B.returns
  have hts := atoms_spec (ws := wsX10_isMade) B.pre
  have hown : s.vm.findClass RX10 = some m.cls := findClass_of_methodNamed B.named
  have hlocks := B.notSynchronized
  subst hsz
  have hD := hD0.self (sz := s.heap.size)
  generalize hAe : va_A [(a_y, .inr (10, [.int y_n, .ref a_y_list, .int y_sets, .ref a_y_others, .int y_otherMany, .ref a_y_costs, .long y_above, .long y_below, .ref a_y_table, .long y_by, .ref a_y_basis, .ref a_y_isSeen, .ref a_y_colour, .ref a_y_rest, .ref a_y_makes, .ref a_y_worst])), (a_y_list, .inl (c_y_list, 16, .inl y_list))] s.heap.size = A at hD hN ⊢
  have hA : ∀ q : Nat, s.heap.size ≤ q → A q := fun q h => by rw [← hAe]; exact Or.inr h
  have hS : va_S A s.heap s.heap [] := va_S.rf
  have hP : va_P (dC, dI) vwCl [(a_y, .inr (10, [.int y_n, .ref a_y_list, .int y_sets, .ref a_y_others, .int y_otherMany, .ref a_y_costs, .long y_above, .long y_below, .ref a_y_table, .long y_by, .ref a_y_basis, .ref a_y_isSeen, .ref a_y_colour, .ref a_y_rest, .ref a_y_makes, .ref a_y_worst])), (a_y_list, .inl (c_y_list, 16, .inl y_list))] s.heap := hP
  have hl := lv_entry ([.ref a_y, .int p1]) (n := 6) (Nat.le_of_ble_eq_true rfl)
  rw [lg_entry_eq]
  generalize (lg_sl ([.ref a_y, .int p1]) ++ List.replicate (6 - (lg_sl ([.ref a_y, .int p1])).length) Slot.unset).toArray = ls at hl ⊢
  have hl : lv_has ls 6 [(0, .ref a_y), (1, .int p1)] := hl
  have hiX10 : ∀ w ∈ wsX100, w ∈ wsX10_isMade := fun _ h => List.mem_cons_of_mem _ (List.mem_append_right _ h)
  have hf43 := hts (.fieldLink RX10 43 "MeetSetsModel" "n" "I") (t1_ (al_ h1_))
  have hf61 := hts (.fieldLink RX10 61 "MeetSetsModel" "sets" "I") (t1_ (al_ (t1_ h1_)))
  have hf7 := hts (.fieldLink RX10 7 "MeetSetsModel" "list" "[I") (t1_ (al_ (t1_ (t1_ h1_))))
  refine w_abs (fun Z hZv hZw => ?_)
  refine hZv ?_
  obtain ⟨H, hH⟩ : ∃ H, H = s.heap := ⟨_, rfl⟩
  obtain ⟨locs, hlo⟩ : ∃ L : List Loc, L = [] := ⟨_, rfl⟩
  rw [← hlo, ← hH]
  have hS : va_S A s.heap H locs := by rw [hlo, hH]; exact hS
  have hP : va_P (dC, dI) vwCl [(a_y, .inr (10, [.int y_n, .ref a_y_list, .int y_sets, .ref a_y_others, .int y_otherMany, .ref a_y_costs, .long y_above, .long y_below, .ref a_y_table, .long y_by, .ref a_y_basis, .ref a_y_isSeen, .ref a_y_colour, .ref a_y_rest, .ref a_y_makes, .ref a_y_worst])), (a_y_list, .inl (c_y_list, 16, .inl y_list))] H := by rw [hH]; exact hP
  clear hH hlo
  unfold pX10_isMade at hs
  refine lv_iconst (v := 0) hx hb dX10_isMade_0 (by decide) ?_
  refine lv_istore_n (lv' := [(2, .int 0), (0, .ref a_y), (1, .int p1)]) hx hb dX10_isMade_1 rfl hl (by decide) rfl (fun ls hl => ?_)
  refine lv_iload_n hx hb dX10_isMade_2 rfl (lv_at hl 2 rfl) ?_
  refine lv_istore_n (lv' := [(3, .int p1), (2, .int 0), (0, .ref a_y), (1, .int p1)]) hx hb dX10_isMade_3 rfl hl (by decide) rfl (fun ls hl => ?_)
  refine lv_iconst (v := 0) hx hb dX10_isMade_4 (by decide) ?_
  refine lv_istore (lv' := [(4, .int 0), (3, .int p1), (2, .int 0), (0, .ref a_y), (1, .int p1)]) hx hb dX10_isMade_5 hl (by decide) rfl (fun ls hl => ?_)
  obtain ⟨e7, he7, hs⟩ := bd_s hs
  have hX7 : ∀ (H : Heap) (locs : List Loc) (ls : Array Slot), va_P (dC, dI) vwCl [(a_y, .inr (10, [.int y_n, .ref a_y_list, .int y_sets, .ref a_y_others, .int y_otherMany, .ref a_y_costs, .long y_above, .long y_below, .ref a_y_table, .long y_by, .ref a_y_basis, .ref a_y_isSeen, .ref a_y_colour, .ref a_y_rest, .ref a_y_makes, .ref a_y_worst])), (a_y_list, .inl (c_y_list, 16, .inl y_list))] H → va_D A [(a_y, .inr (10, [.int y_n, .ref a_y_list, .int y_sets, .ref a_y_others, .int y_otherMany, .ref a_y_costs, .long y_above, .long y_below, .ref a_y_table, .long y_by, .ref a_y_basis, .ref a_y_isSeen, .ref a_y_colour, .ref a_y_rest, .ref a_y_makes, .ref a_y_worst])), (a_y_list, .inl (c_y_list, 16, .inl y_list))] → va_S A s.heap H locs → lv_has ls 6 [(0, .ref a_y), (2, .int e7)] → Z H locs 0 0 (F0 m 44 ls []) := by
    intro H locs ls hP hD hS hl
    refine hZv ?_
    refine lv_iconst (v := 0) hx hb dX10_isMade_44 (by decide) ?_
    refine lv_istore (lv' := [(4, .int 0), (0, .ref a_y), (2, .int e7)]) hx hb dX10_isMade_45 hl (by decide) rfl (fun ls hl => ?_)
    refine lv_iconst (v := 0) hx hb dX10_isMade_47 (by decide) ?_
    refine lv_istore (lv' := [(5, .int 0), (4, .int 0), (0, .ref a_y), (2, .int e7)]) hx hb dX10_isMade_48 hl (by decide) rfl (fun ls hl => ?_)
    obtain ⟨e50, he50, hs⟩ := bd_s hs
    have hX50 : ∀ (H : Heap) (locs : List Loc) (ls : Array Slot), va_P (dC, dI) vwCl [(a_y, .inr (10, [.int y_n, .ref a_y_list, .int y_sets, .ref a_y_others, .int y_otherMany, .ref a_y_costs, .long y_above, .long y_below, .ref a_y_table, .long y_by, .ref a_y_basis, .ref a_y_isSeen, .ref a_y_colour, .ref a_y_rest, .ref a_y_makes, .ref a_y_worst])), (a_y_list, .inl (c_y_list, 16, .inl y_list))] H → va_D A [(a_y, .inr (10, [.int y_n, .ref a_y_list, .int y_sets, .ref a_y_others, .int y_otherMany, .ref a_y_costs, .long y_above, .long y_below, .ref a_y_table, .long y_by, .ref a_y_basis, .ref a_y_isSeen, .ref a_y_colour, .ref a_y_rest, .ref a_y_makes, .ref a_y_worst])), (a_y_list, .inl (c_y_list, 16, .inl y_list))] → va_S A s.heap H locs → lv_has ls 6 [(4, .int e50)] → Z H locs 0 0 (F0 m 91 ls []) := by
      intro H locs ls hP hD hS hl
      refine hZv ?_
      refine lv_iload hx hb dX10_isMade_91 (lv_at hl 0 rfl) ?_
      obtain ⟨hb5, hs⟩ := gd_s hs
      replace hs := Option.some.inj hs
      subst hs
      exact W.zret (v := e50) (ty := .boolean) hx hb hr hb5 (fun t ht hW => ⟨⟨e50, (), rfl, rfl, by rw [ht]; exact hP, va_K.moved hW.alike hK, hD⟩, hS.F ht⟩) hS.2.2 dX10_isMade_93
    clear hs
    have hL50 : ∀ (n : Nat) (s50 : Int32 × Int32) (H : Heap) (locs : List Loc) (ls : Array Slot), itr (pX10_isMade_L50 y_sets y_list e7) n s50 = some e50 → va_P (dC, dI) vwCl [(a_y, .inr (10, [.int y_n, .ref a_y_list, .int y_sets, .ref a_y_others, .int y_otherMany, .ref a_y_costs, .long y_above, .long y_below, .ref a_y_table, .long y_by, .ref a_y_basis, .ref a_y_isSeen, .ref a_y_colour, .ref a_y_rest, .ref a_y_makes, .ref a_y_worst])), (a_y_list, .inl (c_y_list, 16, .inl y_list))] H → va_D A [(a_y, .inr (10, [.int y_n, .ref a_y_list, .int y_sets, .ref a_y_others, .int y_otherMany, .ref a_y_costs, .long y_above, .long y_below, .ref a_y_table, .long y_by, .ref a_y_basis, .ref a_y_isSeen, .ref a_y_colour, .ref a_y_rest, .ref a_y_makes, .ref a_y_worst])), (a_y_list, .inl (c_y_list, 16, .inl y_list))] → va_S A s.heap H locs → lv_has ls 6 [(0, .ref a_y), (2, .int e7), (4, .int s50.1), (5, .int s50.2)] → Z H locs 0 0 (F0 m 50 ls []) := by
      intro n
      induction n with
      | zero =>
        intro s50 H locs ls hn
        exact (itr_0 hn).elim
      | succ n ih =>
        intro s50 H locs ls hn hP hD hS hl
        obtain ⟨y2, hs, hn⟩ := itr_s hn
        unfold pX10_isMade_L50 at hs
        refine hZv ?_
        refine lv_iload hx hb dX10_isMade_50 (lv_at hl 3 rfl) ?_
        refine lv_aload_n hx hb dX10_isMade_52 rfl (lv_at hl 0 rfl) ?_
        refine va_get (D := (dC, dI)) (ci := 10) (v := .int y_sets) (C := RX10) (T := TX10) (N := 16) hx hb hts hiX10 hown hK hP 0 rfl rfl 2 (by decide) hf61 (fun _ h9 => h9) rfl dX10_isMade_53 ?_
        refine lv_icmp_ge (tgt := 91) hx hb dX10_isMade_56 (by decide) (fun hc => ?_) (fun hc => ?_)
        · replace hs := it_t hc hs
          replace hs := Option.some.inj hs
          subst hs
          obtain rfl : s50.1 = e50 := hn
          exact hZw (hX50 H locs ls hP hD hS (lv_sub hl [2] rfl))
        · replace hs := it_f hc hs
          refine lv_iload hx hb dX10_isMade_59 (lv_at hl 2 rfl) ?_
          have hJ78 : ∀ (t78 : Unit), pX10_isMade_J78_3 s50 t78 = some y2 → ∀ (H : Heap) (locs : List Loc) (ls : Array Slot), va_P (dC, dI) vwCl [(a_y, .inr (10, [.int y_n, .ref a_y_list, .int y_sets, .ref a_y_others, .int y_otherMany, .ref a_y_costs, .long y_above, .long y_below, .ref a_y_table, .long y_by, .ref a_y_basis, .ref a_y_isSeen, .ref a_y_colour, .ref a_y_rest, .ref a_y_makes, .ref a_y_worst])), (a_y_list, .inl (c_y_list, 16, .inl y_list))] H → va_D A [(a_y, .inr (10, [.int y_n, .ref a_y_list, .int y_sets, .ref a_y_others, .int y_otherMany, .ref a_y_costs, .long y_above, .long y_below, .ref a_y_table, .long y_by, .ref a_y_basis, .ref a_y_isSeen, .ref a_y_colour, .ref a_y_rest, .ref a_y_makes, .ref a_y_worst])), (a_y_list, .inl (c_y_list, 16, .inl y_list))] → va_S A s.heap H locs → lv_has ls 6 [(0, .ref a_y), (2, .int e7), (5, .int s50.2)] → Z H locs 0 0 (F0 m 78 ls []) := by
            intro t78 hs H locs ls hP hD hS hl
            refine hZv ?_
            unfold pX10_isMade_J78_3 at hs
            refine lv_iconst (v := 1) hx hb dX10_isMade_78 (by decide) ?_
            refine lv_goto (tgt := 83) hx hb dX10_isMade_79 (by decide) ?_
            refine lv_istore (lv' := [(4, .int 1), (0, .ref a_y), (2, .int e7), (5, .int s50.2)]) hx hb dX10_isMade_83 hl (by decide) rfl (fun ls hl => ?_)
            refine lv_iinc (v := s50.2 + 1) (lv' := [(5, .int (s50.2 + 1)), (4, .int 1), (0, .ref a_y), (2, .int e7)]) hx hb dX10_isMade_85 hl (k := 3) rfl (by rfl) (by decide) rfl (fun ls hl => ?_)
            refine lv_goto (tgt := 50) hx hb dX10_isMade_88 (by decide) ?_
            replace hs := Option.some.inj hs
            subst hs
            exact hZw (ih (1, s50.2 + 1) H locs ls hn hP hD hS (lv_sub hl [2, 3, 1, 0] rfl))
          refine lv_if_ne (tgt := 78) hx hb dX10_isMade_61 (by decide) (fun hc => ?_) (fun hc => ?_)
          · replace hs := it_f hc hs
            exact hZw (hJ78 () hs H locs ls hP hD hS (lv_sub hl [0, 1, 3] rfl))
          · replace hs := it_t hc hs
            refine lv_aload_n hx hb dX10_isMade_64 rfl (lv_at hl 0 rfl) ?_
            refine va_get (D := (dC, dI)) (ci := 10) (v := .ref a_y_list) (C := RX10) (T := TX10) (N := 16) hx hb hts hiX10 hown hK hP 0 rfl rfl 1 (by decide) hf7 (fun _ h9 => h9) rfl dX10_isMade_65 ?_
            refine lv_iload hx hb dX10_isMade_68 (lv_at hl 3 rfl) ?_
            obtain ⟨hg4, hs⟩ := gd_s hs
            refine va_iald hx hb hK hP 1 0 rfl rfl hg4 dX10_isMade_70 ?_
            refine lv_iload_n hx hb dX10_isMade_71 rfl (lv_at hl 1 rfl) ?_
            refine lv_iconst (v := (-1)) hx hb dX10_isMade_72 (by decide) ?_
            refine lv_ixor hx hb dX10_isMade_73 ?_
            refine lv_iand hx hb dX10_isMade_74 ?_
            refine lv_if_ne (tgt := 82) hx hb dX10_isMade_75 (by decide) (fun hc => ?_) (fun hc => ?_)
            · replace hs := it_f hc hs
              refine lv_iconst (v := 0) hx hb dX10_isMade_82 (by decide) ?_
              refine lv_istore (lv' := [(4, .int 0), (0, .ref a_y), (2, .int e7), (5, .int s50.2)]) hx hb dX10_isMade_83 hl (by decide) rfl (fun ls hl => ?_)
              refine lv_iinc (v := s50.2 + 1) (lv' := [(5, .int (s50.2 + 1)), (4, .int 0), (0, .ref a_y), (2, .int e7)]) hx hb dX10_isMade_85 hl (k := 3) rfl (by rfl) (by decide) rfl (fun ls hl => ?_)
              refine lv_goto (tgt := 50) hx hb dX10_isMade_88 (by decide) ?_
              replace hs := Option.some.inj hs
              subst hs
              exact hZw (ih (0, s50.2 + 1) H locs ls hn hP hD hS (lv_sub hl [2, 3, 1, 0] rfl))
            · replace hs := it_t hc hs
              exact hZw (hJ78 () hs H locs ls hP hD hS (lv_sub hl [0, 1, 3] rfl))
    obtain ⟨n50, hn50⟩ := lp_ex he50
    exact hZw (hL50 n50 (0, 0) H locs ls hn50 hP hD hS (lv_sub hl [2, 3, 1, 0] rfl))
  clear hs
  have hL7 : ∀ (n : Nat) (s7 : Int32 × Int32 × Int32) (H : Heap) (locs : List Loc) (ls : Array Slot), itr (pX10_isMade_L7 y_n) n s7 = some e7 → va_P (dC, dI) vwCl [(a_y, .inr (10, [.int y_n, .ref a_y_list, .int y_sets, .ref a_y_others, .int y_otherMany, .ref a_y_costs, .long y_above, .long y_below, .ref a_y_table, .long y_by, .ref a_y_basis, .ref a_y_isSeen, .ref a_y_colour, .ref a_y_rest, .ref a_y_makes, .ref a_y_worst])), (a_y_list, .inl (c_y_list, 16, .inl y_list))] H → va_D A [(a_y, .inr (10, [.int y_n, .ref a_y_list, .int y_sets, .ref a_y_others, .int y_otherMany, .ref a_y_costs, .long y_above, .long y_below, .ref a_y_table, .long y_by, .ref a_y_basis, .ref a_y_isSeen, .ref a_y_colour, .ref a_y_rest, .ref a_y_makes, .ref a_y_worst])), (a_y_list, .inl (c_y_list, 16, .inl y_list))] → va_S A s.heap H locs → lv_has ls 6 [(0, .ref a_y), (2, .int s7.1), (3, .int s7.2.1), (4, .int s7.2.2)] → Z H locs 0 0 (F0 m 7 ls []) := by
    intro n
    induction n with
    | zero =>
      intro s7 H locs ls hn
      exact (itr_0 hn).elim
    | succ n ih =>
      intro s7 H locs ls hn hP hD hS hl
      obtain ⟨y1, hs, hn⟩ := itr_s hn
      unfold pX10_isMade_L7 at hs
      refine hZv ?_
      refine lv_iload hx hb dX10_isMade_7 (lv_at hl 3 rfl) ?_
      refine lv_aload_n hx hb dX10_isMade_9 rfl (lv_at hl 0 rfl) ?_
      refine va_get (D := (dC, dI)) (ci := 10) (v := .int y_n) (C := RX10) (T := TX10) (N := 16) hx hb hts hiX10 hown hK hP 0 rfl rfl 0 (by decide) hf43 (fun _ h9 => h9) rfl dX10_isMade_10 ?_
      refine lv_icmp_ge (tgt := 44) hx hb dX10_isMade_13 (by decide) (fun hc => ?_) (fun hc => ?_)
      · replace hs := it_t hc hs
        replace hs := Option.some.inj hs
        subst hs
        obtain rfl : s7.1 = e7 := hn
        exact hZw (hX7 H locs ls hP hD hS (lv_sub hl [0, 1] rfl))
      · replace hs := it_f hc hs
        refine lv_iload_n hx hb dX10_isMade_16 rfl (lv_at hl 1 rfl) ?_
        refine lv_iload_n hx hb dX10_isMade_17 rfl (lv_at hl 2 rfl) ?_
        refine lv_iconst (v := 3) hx hb dX10_isMade_18 (by decide) ?_
        refine lv_irem hx hb dX10_isMade_19 (by decide) ?_
        refine lv_iconst (v := 1) hx hb dX10_isMade_20 (by decide) ?_
        obtain ⟨t32, hq32, hs⟩ := bd_s hs
        have hJ32 : ∀ (H : Heap) (locs : List Loc) (ls : Array Slot), va_P (dC, dI) vwCl [(a_y, .inr (10, [.int y_n, .ref a_y_list, .int y_sets, .ref a_y_others, .int y_otherMany, .ref a_y_costs, .long y_above, .long y_below, .ref a_y_table, .long y_by, .ref a_y_basis, .ref a_y_isSeen, .ref a_y_colour, .ref a_y_rest, .ref a_y_makes, .ref a_y_worst])), (a_y_list, .inl (c_y_list, 16, .inl y_list))] H → va_D A [(a_y, .inr (10, [.int y_n, .ref a_y_list, .int y_sets, .ref a_y_others, .int y_otherMany, .ref a_y_costs, .long y_above, .long y_below, .ref a_y_table, .long y_by, .ref a_y_basis, .ref a_y_isSeen, .ref a_y_colour, .ref a_y_rest, .ref a_y_makes, .ref a_y_worst])), (a_y_list, .inl (c_y_list, 16, .inl y_list))] → va_S A s.heap H locs → lv_has ls 6 [(0, .ref a_y), (3, .int s7.2.1), (4, .int s7.2.2)] → Z H locs 0 0 (F0 m 32 ls [.int t32, .int s7.1]) := by
          intro H locs ls hP hD hS hl
          refine hZv ?_
          refine lv_ior hx hb dX10_isMade_32 ?_
          refine lv_istore_n (lv' := [(2, .int (s7.1 ||| t32)), (0, .ref a_y), (3, .int s7.2.1), (4, .int s7.2.2)]) hx hb dX10_isMade_33 rfl hl (by decide) rfl (fun ls hl => ?_)
          refine lv_iload_n hx hb dX10_isMade_34 rfl (lv_at hl 2 rfl) ?_
          refine lv_iconst (v := 3) hx hb dX10_isMade_35 (by decide) ?_
          refine lv_idiv hx hb dX10_isMade_36 (by decide) ?_
          refine lv_istore_n (lv' := [(3, .int (s7.2.1 / 3)), (2, .int (s7.1 ||| t32)), (0, .ref a_y), (4, .int s7.2.2)]) hx hb dX10_isMade_37 rfl hl (by decide) rfl (fun ls hl => ?_)
          refine lv_iinc (v := s7.2.2 + 1) (lv' := [(4, .int (s7.2.2 + 1)), (3, .int (s7.2.1 / 3)), (2, .int (s7.1 ||| t32)), (0, .ref a_y)]) hx hb dX10_isMade_38 hl (k := 3) rfl (by rfl) (by decide) rfl (fun ls hl => ?_)
          refine lv_goto (tgt := 7) hx hb dX10_isMade_41 (by decide) ?_
          replace hs := Option.some.inj hs
          subst hs
          exact hZw (ih (s7.1 ||| t32, s7.2.1 / 3, s7.2.2 + 1) H locs ls hn hP hD hS (lv_sub hl [3, 2, 1, 0] rfl))
        clear hs
        have hs := hq32
        refine lv_icmp_ne (tgt := 31) hx hb dX10_isMade_21 (by decide) (fun hc => ?_) (fun hc => ?_)
        · replace hs := it_f hc hs
          refine lv_iconst (v := 0) hx hb dX10_isMade_31 (by decide) ?_
          replace hs := Option.some.inj hs
          subst hs
          exact hZw (hJ32 H locs ls hP hD hS (lv_sub hl [0, 2, 3] rfl))
        · replace hs := it_t hc hs
          refine lv_iconst (v := 1) hx hb dX10_isMade_24 (by decide) ?_
          refine lv_iload hx hb dX10_isMade_25 (lv_at hl 3 rfl) ?_
          refine lv_ishl hx hb dX10_isMade_27 ?_
          refine lv_goto (tgt := 32) hx hb dX10_isMade_28 (by decide) ?_
          replace hs := Option.some.inj hs
          subst hs
          exact hZw (hJ32 H locs ls hP hD hS (lv_sub hl [0, 2, 3] rfl))
  obtain ⟨n7, hn7⟩ := lp_ex he7
  exact hZw (hL7 n7 (0, p1, 0) H locs ls hn7 hP hD hS (lv_sub hl [3, 2, 1, 0] rfl))
noncomputable def pX10_taken_L4 (s4 : Int32 × Int32) : Option ((Int32 × Int32) ⊕ (Int32)) :=
  if s4.2 ≤ 0 then (some (Sum.inr s4.1)) else (Option.bind (if (s4.2 - s4.2 / 3 * 3) ≤ 0 then (some 0) else (some 1) : Option (Int32)) (fun t20 => some (Sum.inl (s4.1 + t20, s4.2 / 3))))
noncomputable def pX10_taken (p0 : Int32) : Option (Int32) :=
  Option.bind (lp (pX10_taken_L4) (0, p0)) (fun e4 => some e4)
set_option maxHeartbeats 4000000 in
set_option maxRecDepth 100000 in
theorem c_X10_taken (l : Launch) (dC : Nat → ClassId) (dI : Nat → Nat → Nat) (sz : Nat) (p0 : Int32) (rv : Int32) (hs : pX10_taken p0 = some rv) : Met l yX10_taken wsX10_taken ({ frames := 0, cells := 0, slots := 0, locals := 0 }) (sPc [.int p0] (dC, dI) [] [] sz) (va_Qi (fun (r : Int32) (_ : Unit) => r = rv) (sB (dC, dI) [] (va_A [] sz) []) (va_A [] sz)) 0 0 (va_A [] sz) := by
  refine Met.ofW (cc := cX10_taken) (maxL := 3) (ret := (some .int)) (by decide) rfl ?_
  intro p e s m args below meth c s₁ B hml hv
  obtain ⟨rfl, hsz, hP, hK, hD0, hN⟩ := hv
  have hx := B.exec
  have hb := B.bytes
  have hr := B.returns
  have hts := atoms_spec (ws := wsX10_taken) B.pre
  have hown : s.vm.findClass RX10 = some m.cls := findClass_of_methodNamed B.named
  have hlocks := B.notSynchronized
  subst hsz
  have hD := hD0.self (sz := s.heap.size)
  generalize hAe : va_A [] s.heap.size = A at hD hN ⊢
  have hA : ∀ q : Nat, s.heap.size ≤ q → A q := fun q h => by rw [← hAe]; exact Or.inr h
  have hS : va_S A s.heap s.heap [] := va_S.rf
  have hP : va_P (dC, dI) vwCl [] s.heap := hP
  have hl := lv_entry ([.int p0]) (n := 3) (Nat.le_of_ble_eq_true rfl)
  rw [lg_entry_eq]
  generalize (lg_sl ([.int p0]) ++ List.replicate (3 - (lg_sl ([.int p0])).length) Slot.unset).toArray = ls at hl ⊢
  have hl : lv_has ls 3 [(0, .int p0)] := hl
  refine w_abs (fun Z hZv hZw => ?_)
  refine hZv ?_
  obtain ⟨H, hH⟩ : ∃ H, H = s.heap := ⟨_, rfl⟩
  obtain ⟨locs, hlo⟩ : ∃ L : List Loc, L = [] := ⟨_, rfl⟩
  rw [← hlo, ← hH]
  have hS : va_S A s.heap H locs := by rw [hlo, hH]; exact hS
  have hP : va_P (dC, dI) vwCl [] H := by rw [hH]; exact hP
  clear hH hlo
  unfold pX10_taken at hs
  refine lv_iconst (v := 0) hx hb dX10_taken_0 (by decide) ?_
  refine lv_istore_n (lv' := [(1, .int 0), (0, .int p0)]) hx hb dX10_taken_1 rfl hl (by decide) rfl (fun ls hl => ?_)
  refine lv_iload_n hx hb dX10_taken_2 rfl (lv_at hl 1 rfl) ?_
  refine lv_istore_n (lv' := [(2, .int p0), (1, .int 0), (0, .int p0)]) hx hb dX10_taken_3 rfl hl (by decide) rfl (fun ls hl => ?_)
  obtain ⟨e4, he4, hs⟩ := bd_s hs
  have hX4 : ∀ (H : Heap) (locs : List Loc) (ls : Array Slot), va_P (dC, dI) vwCl [] H → va_D A [] → va_S A s.heap H locs → lv_has ls 3 [(1, .int e4)] → Z H locs 0 0 (F0 m 29 ls []) := by
    intro H locs ls hP hD hS hl
    refine hZv ?_
    refine lv_iload_n hx hb dX10_taken_29 rfl (lv_at hl 0 rfl) ?_
    replace hs := Option.some.inj hs
    subst hs
    exact W.iret (v := e4) hx hb hr (fun t ht hW => ⟨⟨e4, (), rfl, rfl, by rw [ht]; exact hP, va_K.moved hW.alike hK, hD⟩, hS.F ht⟩) hS.2.2 dX10_taken_30
  clear hs
  have hL4 : ∀ (n : Nat) (s4 : Int32 × Int32) (H : Heap) (locs : List Loc) (ls : Array Slot), itr (pX10_taken_L4) n s4 = some e4 → va_P (dC, dI) vwCl [] H → va_D A [] → va_S A s.heap H locs → lv_has ls 3 [(1, .int s4.1), (2, .int s4.2)] → Z H locs 0 0 (F0 m 4 ls []) := by
    intro n
    induction n with
    | zero =>
      intro s4 H locs ls hn
      exact (itr_0 hn).elim
    | succ n ih =>
      intro s4 H locs ls hn hP hD hS hl
      obtain ⟨y1, hs, hn⟩ := itr_s hn
      unfold pX10_taken_L4 at hs
      refine hZv ?_
      refine lv_iload_n hx hb dX10_taken_4 rfl (lv_at hl 1 rfl) ?_
      refine lv_if_le (tgt := 29) hx hb dX10_taken_5 (by decide) (fun hc => ?_) (fun hc => ?_)
      · replace hs := it_t hc hs
        replace hs := Option.some.inj hs
        subst hs
        obtain rfl : s4.1 = e4 := hn
        exact hZw (hX4 H locs ls hP hD hS (lv_sub hl [0] rfl))
      · replace hs := it_f hc hs
        refine lv_iload_n hx hb dX10_taken_8 rfl (lv_at hl 0 rfl) ?_
        refine lv_iload_n hx hb dX10_taken_9 rfl (lv_at hl 1 rfl) ?_
        refine lv_iconst (v := 3) hx hb dX10_taken_10 (by decide) ?_
        refine lv_irem hx hb dX10_taken_11 (by decide) ?_
        obtain ⟨t20, hq20, hs⟩ := bd_s hs
        have hJ20 : ∀ (H : Heap) (locs : List Loc) (ls : Array Slot), va_P (dC, dI) vwCl [] H → va_D A [] → va_S A s.heap H locs → lv_has ls 3 [(2, .int s4.2)] → Z H locs 0 0 (F0 m 20 ls [.int t20, .int s4.1]) := by
          intro H locs ls hP hD hS hl
          refine hZv ?_
          refine lv_iadd hx hb dX10_taken_20 ?_
          refine lv_istore_n (lv' := [(1, .int (s4.1 + t20)), (2, .int s4.2)]) hx hb dX10_taken_21 rfl hl (by decide) rfl (fun ls hl => ?_)
          refine lv_iload_n hx hb dX10_taken_22 rfl (lv_at hl 1 rfl) ?_
          refine lv_iconst (v := 3) hx hb dX10_taken_23 (by decide) ?_
          refine lv_idiv hx hb dX10_taken_24 (by decide) ?_
          refine lv_istore_n (lv' := [(2, .int (s4.2 / 3)), (1, .int (s4.1 + t20))]) hx hb dX10_taken_25 rfl hl (by decide) rfl (fun ls hl => ?_)
          refine lv_goto (tgt := 4) hx hb dX10_taken_26 (by decide) ?_
          replace hs := Option.some.inj hs
          subst hs
          exact hZw (ih (s4.1 + t20, s4.2 / 3) H locs ls hn hP hD hS (lv_sub hl [1, 0] rfl))
        clear hs
        have hs := hq20
        refine lv_if_le (tgt := 19) hx hb dX10_taken_12 (by decide) (fun hc => ?_) (fun hc => ?_)
        · replace hs := it_t hc hs
          refine lv_iconst (v := 0) hx hb dX10_taken_19 (by decide) ?_
          replace hs := Option.some.inj hs
          subst hs
          exact hZw (hJ20 H locs ls hP hD hS (lv_sub hl [1] rfl))
        · replace hs := it_f hc hs
          refine lv_iconst (v := 1) hx hb dX10_taken_15 (by decide) ?_
          refine lv_goto (tgt := 20) hx hb dX10_taken_16 (by decide) ?_
          replace hs := Option.some.inj hs
          subst hs
          exact hZw (hJ20 H locs ls hP hD hS (lv_sub hl [1] rfl))
  obtain ⟨n4, hn4⟩ := lp_ex he4
  exact hZw (hL4 n4 (0, p0) H locs ls hn4 hP hD hS (lv_sub hl [1, 0] rfl))
noncomputable def pX10_turn (p0 : Int32) (p1 : Int32) : Option (Int32) :=
  Option.bind (pX10_taken p1) (fun r1 => some ((p0 + r1) - (p0 + r1) / 2 * 2))
set_option maxHeartbeats 4000000 in
set_option maxRecDepth 100000 in
theorem c_X10_turn (l : Launch) (dC : Nat → ClassId) (dI : Nat → Nat → Nat) (sz : Nat) (p0 : Int32) (p1 : Int32) (rv : Int32) (hs : pX10_turn p0 p1 = some rv) : Met l yX10_turn wsX10_turn ({ frames := 1, cells := 0, slots := 0, locals := 22 }) (sPc [.int p0, .int p1] (dC, dI) [] [] sz) (va_Qi (fun (r : Int32) (_ : Unit) => r = rv) (sB (dC, dI) [] (va_A [] sz) []) (va_A [] sz)) 0 0 (va_A [] sz) := by
  refine Met.ofW (cc := cX10_turn) (maxL := 2) (ret := (some .int)) (by decide) rfl ?_
  intro p e s m args below meth c s₁ B hml hv
  obtain ⟨rfl, hsz, hP, hK, hD0, hN⟩ := hv
  have hx := B.exec
  have hb := B.bytes
  have hr := B.returns
  have hts := atoms_spec (ws := wsX10_turn) B.pre
  have hown : s.vm.findClass RX10 = some m.cls := findClass_of_methodNamed B.named
  have hlocks := B.notSynchronized
  subst hsz
  have hD := hD0.self (sz := s.heap.size)
  generalize hAe : va_A [] s.heap.size = A at hD hN ⊢
  have hA : ∀ q : Nat, s.heap.size ≤ q → A q := fun q h => by rw [← hAe]; exact Or.inr h
  have hS : va_S A s.heap s.heap [] := va_S.rf
  have hP : va_P (dC, dI) vwCl [] s.heap := hP
  have hl := lv_entry ([.int p0, .int p1]) (n := 2) (Nat.le_of_ble_eq_true rfl)
  rw [lg_entry_eq]
  generalize (lg_sl ([.int p0, .int p1]) ++ List.replicate (2 - (lg_sl ([.int p0, .int p1])).length) Slot.unset).toArray = ls at hl ⊢
  have hl : lv_has ls 2 [(0, .int p0), (1, .int p1)] := hl
  refine w_abs (fun Z hZv hZw => ?_)
  refine hZv ?_
  obtain ⟨H, hH⟩ : ∃ H, H = s.heap := ⟨_, rfl⟩
  obtain ⟨locs, hlo⟩ : ∃ L : List Loc, L = [] := ⟨_, rfl⟩
  rw [← hlo, ← hH]
  have hS : va_S A s.heap H locs := by rw [hlo, hH]; exact hS
  have hP : va_P (dC, dI) vwCl [] H := by rw [hH]; exact hP
  clear hH hlo
  unfold pX10_turn at hs
  refine lv_iload_n hx hb dX10_turn_0 rfl (lv_at hl 0 rfl) ?_
  refine lv_iload_n hx hb dX10_turn_1 rfl (lv_at hl 1 rfl) ?_
  obtain ⟨r1, hr1, hs⟩ := bd_s hs
  refine kc_i (isC := []) (isR := []) (pm := []) (wr := []) (w1 := []) (w2 := []) (va_runS (As := [.int p1]) (rest := [.int p0]) ⟨hx, hb, hml, hown, hts⟩ (c_X10_taken l dC dI H.size p1 r1 hr1) (va_cwS 1 hts gX10_turn_X10_taken rfl rfl rfl (by decide +kernel) ⟨Nat.le_of_ble_eq_true rfl, Nat.le_of_ble_eq_true rfl⟩) (kp_S hK hP hD hS hA hN (isC := []) (isT := []) (wc := []) rfl (by decide +kernel) rfl) rfl rfl hl.1 rfl (lv_room (Nat.le_of_ble_eq_true rfl)) dX10_turn_2 ⟨Nat.le_of_ble_eq_true rfl, Nat.le_of_ble_eq_true rfl⟩) hP hD hS hA rfl rfl (by decide +kernel) (by decide +kernel) rfl (by decide +kernel) (fun H locs hP hD hS => ?_)
  refine lv_iadd hx hb dX10_turn_5 ?_
  refine lv_iconst (v := 2) hx hb dX10_turn_6 (by decide) ?_
  refine lv_irem hx hb dX10_turn_7 (by decide) ?_
  replace hs := Option.some.inj hs
  subst hs
  exact W.iret (v := (p0 + r1) - (p0 + r1) / 2 * 2) hx hb hr (fun t ht hW => ⟨⟨(p0 + r1) - (p0 + r1) / 2 * 2, (), rfl, rfl, by rw [ht]; exact hP, va_K.moved hW.alike hK, hD⟩, hS.F ht⟩) hS.2.2 dX10_turn_8
noncomputable def pX10_plays_L4 (y_n : Int32) (s4 : Int32 × Int32) : Option ((Int32 × Int32) ⊕ (Int32)) :=
  if y_n ≤ s4.2 then (some (Sum.inr s4.1)) else (some (Sum.inl (s4.1 * 3, s4.2 + 1)))
noncomputable def pX10_plays_J152_9 (t152 : Unit) : Option (Int32) :=
  some 0
noncomputable def pX10_plays_J130_10 (t130 : Unit) : Option (Int32) :=
  some 1
noncomputable def pX10_plays_L81_5 (y_n : Int32) (s26 : Int32 × (Nat → Int32)) (r4 : Int32) (s81 : Int32 × Int32 × Int32) : Option ((Int32 × Int32 × Int32) ⊕ (Int32)) :=
  if y_n ≤ s81.2.2 then (some (Sum.inr s81.1)) else (gd (¬ (s81.2.1 : Int32) = 0) (Option.bind (if ((s26.1 / s81.2.1) - (s26.1 / s81.2.1) / 3 * 3) = 0 then (gd (vp_in (s26.1 + ((1 + r4) * s81.2.1)) 59049) (Option.bind (if r4 = 0 then (if s81.1 = 0 then (if (s26.2 (s26.1 + ((1 + r4) * s81.2.1)).toNatClampNeg) = 0 then (some 0) else (pX10_plays_J130_10 ())) else (pX10_plays_J130_10 ())) else (if s81.1 = 0 then (pX10_plays_J152_9 ()) else (if (s26.2 (s26.1 + ((1 + r4) * s81.2.1)).toNatClampNeg) = 0 then (pX10_plays_J152_9 ()) else (some 1))) : Option (Int32)) (fun t153 => some t153))) else (some s81.1) : Option (Int32)) (fun t155 => some (Sum.inl (t155, s81.2.1 * 3, s81.2.2 + 1)))))
noncomputable def pX10_plays_L26 (y_n : Int32) (y_sets : Int32) (y_list : Nat → Int32) (p1 : Int32) (s26 : Int32 × (Nat → Int32)) : Option ((Int32 × (Nat → Int32)) ⊕ (Nat → Int32)) :=
  if s26.1 < 0 then (some (Sum.inr s26.2)) else (Option.bind (pX10_taken s26.1) (fun r3 => if r3 = y_n then (Option.bind (pX10_isMade y_n y_sets y_list s26.1) (fun r12 => gd (vp_in s26.1 59049) (some (Sum.inl (s26.1 + (-1), upd s26.2 s26.1.toNatClampNeg (vp_nar .boolean r12)))))) else (Option.bind (pX10_turn p1 s26.1) (fun r4 => Option.bind (if r4 = 1 then (some 1) else (some 0) : Option (Int32)) (fun t73 => Option.bind (lp (pX10_plays_L81_5 y_n s26 r4) (t73, 1, 0)) (fun e81 => gd (vp_in s26.1 59049) (some (Sum.inl (s26.1 + (-1), upd s26.2 s26.1.toNatClampNeg (vp_nar .boolean e81))))))))))
noncomputable def pX10_plays (y_n : Int32) (y_sets : Int32) (y_list : Nat → Int32) (y_makes : Nat → Int32) (p1 : Int32) : Option (Nat → Int32) :=
  Option.bind (lp (pX10_plays_L4 y_n) (1, 0)) (fun e4 => Option.bind (lp (pX10_plays_L26 y_n y_sets y_list p1) (e4 - 1, y_makes)) (fun e26 => some e26))
set_option maxHeartbeats 4000000 in
set_option maxRecDepth 100000 in
theorem c_X10_plays (l : Launch) (dC : Nat → ClassId) (dI : Nat → Nat → Nat) (a_y : Nat) (a_y_list : Nat) (a_y_others : Nat) (a_y_costs : Nat) (a_y_table : Nat) (a_y_basis : Nat) (a_y_isSeen : Nat) (a_y_colour : Nat) (a_y_rest : Nat) (a_y_makes : Nat) (a_y_worst : Nat) (c_y_list c_y_makes : ClassId) (sz : Nat) (y_n : Int32) (y_sets : Int32) (y_otherMany : Int32) (y_above : Int64) (y_below : Int64) (y_by : Int64) (y_list : Nat → Int32) (y_makes : Nat → Int32) (p1 : Int32) (rv : Nat → Int32) (hs : pX10_plays y_n y_sets y_list y_makes p1 = some rv) : Met l yX10_plays wsX10_plays ({ frames := 2, cells := 0, slots := 0, locals := 43 }) (sPc [.ref a_y, .int p1] (dC, dI) [(c_y_list, .int), (c_y_makes, .boolean)] [(a_y, .inr (10, [.int y_n, .ref a_y_list, .int y_sets, .ref a_y_others, .int y_otherMany, .ref a_y_costs, .long y_above, .long y_below, .ref a_y_table, .long y_by, .ref a_y_basis, .ref a_y_isSeen, .ref a_y_colour, .ref a_y_rest, .ref a_y_makes, .ref a_y_worst])), (a_y_list, .inl (c_y_list, 16, .inl y_list)), (a_y_makes, .inl (c_y_makes, 59049, .inl y_makes))] sz) (va_Qv (fun (_ : Unit) => True) (sB (dC, dI) [(c_y_list, .int), (c_y_makes, .boolean)] (va_A [(a_y, .inr (10, [.int y_n, .ref a_y_list, .int y_sets, .ref a_y_others, .int y_otherMany, .ref a_y_costs, .long y_above, .long y_below, .ref a_y_table, .long y_by, .ref a_y_basis, .ref a_y_isSeen, .ref a_y_colour, .ref a_y_rest, .ref a_y_makes, .ref a_y_worst])), (a_y_list, .inl (c_y_list, 16, .inl y_list)), (a_y_makes, .inl (c_y_makes, 59049, .inl y_makes))] sz) [(a_y, .inr (10, [.int y_n, .ref a_y_list, .int y_sets, .ref a_y_others, .int y_otherMany, .ref a_y_costs, .long y_above, .long y_below, .ref a_y_table, .long y_by, .ref a_y_basis, .ref a_y_isSeen, .ref a_y_colour, .ref a_y_rest, .ref a_y_makes, .ref a_y_worst])), (a_y_list, .inl (c_y_list, 16, .inl y_list)), (a_y_makes, .inl (c_y_makes, 59049, .inl rv))]) (va_A [(a_y, .inr (10, [.int y_n, .ref a_y_list, .int y_sets, .ref a_y_others, .int y_otherMany, .ref a_y_costs, .long y_above, .long y_below, .ref a_y_table, .long y_by, .ref a_y_basis, .ref a_y_isSeen, .ref a_y_colour, .ref a_y_rest, .ref a_y_makes, .ref a_y_worst])), (a_y_list, .inl (c_y_list, 16, .inl y_list)), (a_y_makes, .inl (c_y_makes, 59049, .inl y_makes))] sz)) 0 0 (va_A [(a_y, .inr (10, [.int y_n, .ref a_y_list, .int y_sets, .ref a_y_others, .int y_otherMany, .ref a_y_costs, .long y_above, .long y_below, .ref a_y_table, .long y_by, .ref a_y_basis, .ref a_y_isSeen, .ref a_y_colour, .ref a_y_rest, .ref a_y_makes, .ref a_y_worst])), (a_y_list, .inl (c_y_list, 16, .inl y_list)), (a_y_makes, .inl (c_y_makes, 59049, .inl y_makes))] sz) := by
  refine Met.ofW (cc := cX10_plays) (maxL := 9) (ret := none) (by decide) rfl ?_
  intro p e s m args below meth c s₁ B hml hv
  obtain ⟨rfl, hsz, hP, hK, hD0, hN⟩ := hv
  have hx := B.exec
  have hb := B.bytes
  have hr := B.returns
  have hts := atoms_spec (ws := wsX10_plays) B.pre
  have hown : s.vm.findClass RX10 = some m.cls := findClass_of_methodNamed B.named
  have hlocks := B.notSynchronized
  subst hsz
  have hD := hD0.self (sz := s.heap.size)
  generalize hAe : va_A [(a_y, .inr (10, [.int y_n, .ref a_y_list, .int y_sets, .ref a_y_others, .int y_otherMany, .ref a_y_costs, .long y_above, .long y_below, .ref a_y_table, .long y_by, .ref a_y_basis, .ref a_y_isSeen, .ref a_y_colour, .ref a_y_rest, .ref a_y_makes, .ref a_y_worst])), (a_y_list, .inl (c_y_list, 16, .inl y_list)), (a_y_makes, .inl (c_y_makes, 59049, .inl y_makes))] s.heap.size = A at hD hN ⊢
  have hA : ∀ q : Nat, s.heap.size ≤ q → A q := fun q h => by rw [← hAe]; exact Or.inr h
  have hS : va_S A s.heap s.heap [] := va_S.rf
  have hP : va_P (dC, dI) vwCl [(a_y, .inr (10, [.int y_n, .ref a_y_list, .int y_sets, .ref a_y_others, .int y_otherMany, .ref a_y_costs, .long y_above, .long y_below, .ref a_y_table, .long y_by, .ref a_y_basis, .ref a_y_isSeen, .ref a_y_colour, .ref a_y_rest, .ref a_y_makes, .ref a_y_worst])), (a_y_list, .inl (c_y_list, 16, .inl y_list)), (a_y_makes, .inl (c_y_makes, 59049, .inl y_makes))] s.heap := hP
  have hl := lv_entry ([.ref a_y, .int p1]) (n := 9) (Nat.le_of_ble_eq_true rfl)
  rw [lg_entry_eq]
  generalize (lg_sl ([.ref a_y, .int p1]) ++ List.replicate (9 - (lg_sl ([.ref a_y, .int p1])).length) Slot.unset).toArray = ls at hl ⊢
  have hl : lv_has ls 9 [(0, .ref a_y), (1, .int p1)] := hl
  have hiX10 : ∀ w ∈ wsX100, w ∈ wsX10_plays := fun _ h => List.mem_cons_of_mem _ (List.mem_append_right _ h)
  have hf43 := hts (.fieldLink RX10 43 "MeetSetsModel" "n" "I") (t1_ (al_ h1_))
  have hf37 := hts (.fieldLink RX10 37 "MeetSetsModel" "makes" "[Z") (t1_ (al_ (t1_ h1_)))
  refine w_abs (fun Z hZv hZw => ?_)
  refine hZv ?_
  obtain ⟨H, hH⟩ : ∃ H, H = s.heap := ⟨_, rfl⟩
  obtain ⟨locs, hlo⟩ : ∃ L : List Loc, L = [] := ⟨_, rfl⟩
  rw [← hlo, ← hH]
  have hS : va_S A s.heap H locs := by rw [hlo, hH]; exact hS
  have hP : va_P (dC, dI) vwCl [(a_y, .inr (10, [.int y_n, .ref a_y_list, .int y_sets, .ref a_y_others, .int y_otherMany, .ref a_y_costs, .long y_above, .long y_below, .ref a_y_table, .long y_by, .ref a_y_basis, .ref a_y_isSeen, .ref a_y_colour, .ref a_y_rest, .ref a_y_makes, .ref a_y_worst])), (a_y_list, .inl (c_y_list, 16, .inl y_list)), (a_y_makes, .inl (c_y_makes, 59049, .inl y_makes))] H := by rw [hH]; exact hP
  clear hH hlo
  unfold pX10_plays at hs
  refine lv_iconst (v := 1) hx hb dX10_plays_0 (by decide) ?_
  refine lv_istore_n (lv' := [(2, .int 1), (0, .ref a_y), (1, .int p1)]) hx hb dX10_plays_1 rfl hl (by decide) rfl (fun ls hl => ?_)
  refine lv_iconst (v := 0) hx hb dX10_plays_2 (by decide) ?_
  refine lv_istore_n (lv' := [(3, .int 0), (2, .int 1), (0, .ref a_y), (1, .int p1)]) hx hb dX10_plays_3 rfl hl (by decide) rfl (fun ls hl => ?_)
  obtain ⟨e4, he4, hs⟩ := bd_s hs
  have hX4 : ∀ (H : Heap) (locs : List Loc) (ls : Array Slot), va_P (dC, dI) vwCl [(a_y, .inr (10, [.int y_n, .ref a_y_list, .int y_sets, .ref a_y_others, .int y_otherMany, .ref a_y_costs, .long y_above, .long y_below, .ref a_y_table, .long y_by, .ref a_y_basis, .ref a_y_isSeen, .ref a_y_colour, .ref a_y_rest, .ref a_y_makes, .ref a_y_worst])), (a_y_list, .inl (c_y_list, 16, .inl y_list)), (a_y_makes, .inl (c_y_makes, 59049, .inl y_makes))] H → va_D A [(a_y, .inr (10, [.int y_n, .ref a_y_list, .int y_sets, .ref a_y_others, .int y_otherMany, .ref a_y_costs, .long y_above, .long y_below, .ref a_y_table, .long y_by, .ref a_y_basis, .ref a_y_isSeen, .ref a_y_colour, .ref a_y_rest, .ref a_y_makes, .ref a_y_worst])), (a_y_list, .inl (c_y_list, 16, .inl y_list)), (a_y_makes, .inl (c_y_makes, 59049, .inl y_makes))] → va_S A s.heap H locs → lv_has ls 9 [(0, .ref a_y), (1, .int p1), (2, .int e4)] → Z H locs 0 0 (F0 m 22 ls []) := by
    intro H locs ls hP hD hS hl
    refine hZv ?_
    refine lv_iload_n hx hb dX10_plays_22 rfl (lv_at hl 2 rfl) ?_
    refine lv_iconst (v := 1) hx hb dX10_plays_23 (by decide) ?_
    refine lv_isub hx hb dX10_plays_24 ?_
    refine lv_istore_n (lv' := [(3, .int (e4 - 1)), (0, .ref a_y), (1, .int p1), (2, .int e4)]) hx hb dX10_plays_25 rfl hl (by decide) rfl (fun ls hl => ?_)
    obtain ⟨e26, he26, hs⟩ := bd_s hs
    have hX26 : ∀ (H : Heap) (locs : List Loc) (ls : Array Slot), va_P (dC, dI) vwCl [(a_y, .inr (10, [.int y_n, .ref a_y_list, .int y_sets, .ref a_y_others, .int y_otherMany, .ref a_y_costs, .long y_above, .long y_below, .ref a_y_table, .long y_by, .ref a_y_basis, .ref a_y_isSeen, .ref a_y_colour, .ref a_y_rest, .ref a_y_makes, .ref a_y_worst])), (a_y_list, .inl (c_y_list, 16, .inl y_list)), (a_y_makes, .inl (c_y_makes, 59049, .inl e26))] H → va_D A [(a_y, .inr (10, [.int y_n, .ref a_y_list, .int y_sets, .ref a_y_others, .int y_otherMany, .ref a_y_costs, .long y_above, .long y_below, .ref a_y_table, .long y_by, .ref a_y_basis, .ref a_y_isSeen, .ref a_y_colour, .ref a_y_rest, .ref a_y_makes, .ref a_y_worst])), (a_y_list, .inl (c_y_list, 16, .inl y_list)), (a_y_makes, .inl (c_y_makes, 59049, .inl e26))] → va_S A s.heap H locs → lv_has ls 9 [] → Z H locs 0 0 (F0 m 181 ls []) := by
      intro H locs ls hP hD hS hl
      refine hZv ?_
      replace hs := Option.some.inj hs
      subst hs
      exact W.vret hx hb hr (fun t ht hW => ⟨⟨(), rfl, trivial, by rw [ht]; exact hP, va_K.moved hW.alike hK, hD⟩, hS.F ht⟩) hS.2.2 dX10_plays_181
    clear hs
    have hL26 : ∀ (n : Nat) (s26 : Int32 × (Nat → Int32)) (H : Heap) (locs : List Loc) (ls : Array Slot), itr (pX10_plays_L26 y_n y_sets y_list p1) n s26 = some e26 → va_P (dC, dI) vwCl [(a_y, .inr (10, [.int y_n, .ref a_y_list, .int y_sets, .ref a_y_others, .int y_otherMany, .ref a_y_costs, .long y_above, .long y_below, .ref a_y_table, .long y_by, .ref a_y_basis, .ref a_y_isSeen, .ref a_y_colour, .ref a_y_rest, .ref a_y_makes, .ref a_y_worst])), (a_y_list, .inl (c_y_list, 16, .inl y_list)), (a_y_makes, .inl (c_y_makes, 59049, .inl s26.2))] H → va_D A [(a_y, .inr (10, [.int y_n, .ref a_y_list, .int y_sets, .ref a_y_others, .int y_otherMany, .ref a_y_costs, .long y_above, .long y_below, .ref a_y_table, .long y_by, .ref a_y_basis, .ref a_y_isSeen, .ref a_y_colour, .ref a_y_rest, .ref a_y_makes, .ref a_y_worst])), (a_y_list, .inl (c_y_list, 16, .inl y_list)), (a_y_makes, .inl (c_y_makes, 59049, .inl s26.2))] → va_S A s.heap H locs → lv_has ls 9 [(0, .ref a_y), (1, .int p1), (3, .int s26.1)] → Z H locs 0 0 (F0 m 26 ls []) := by
      intro n
      induction n with
      | zero =>
        intro s26 H locs ls hn
        exact (itr_0 hn).elim
      | succ n ih =>
        intro s26 H locs ls hn hP hD hS hl
        obtain ⟨y2, hs, hn⟩ := itr_s hn
        unfold pX10_plays_L26 at hs
        refine hZv ?_
        refine lv_iload_n hx hb dX10_plays_26 rfl (lv_at hl 2 rfl) ?_
        refine lv_if_lt (tgt := 181) hx hb dX10_plays_27 (by decide) (fun hc => ?_) (fun hc => ?_)
        · replace hs := it_t hc hs
          replace hs := Option.some.inj hs
          subst hs
          obtain rfl : s26.2 = e26 := hn
          exact hZw (hX26 H locs ls hP hD hS (lv_sub hl [] rfl))
        · replace hs := it_f hc hs
          refine lv_iload_n hx hb dX10_plays_30 rfl (lv_at hl 2 rfl) ?_
          obtain ⟨r3, hr3, hs⟩ := bd_s hs
          refine kc_i (isC := []) (isR := [0, 1, 2]) (pm := [0, 1, 2]) (wr := [(a_y, .inr (10, [.int y_n, .ref a_y_list, .int y_sets, .ref a_y_others, .int y_otherMany, .ref a_y_costs, .long y_above, .long y_below, .ref a_y_table, .long y_by, .ref a_y_basis, .ref a_y_isSeen, .ref a_y_colour, .ref a_y_rest, .ref a_y_makes, .ref a_y_worst])), (a_y_list, .inl (c_y_list, 16, .inl y_list)), (a_y_makes, .inl (c_y_makes, 59049, .inl s26.2))]) (w1 := []) (w2 := [(a_y, .inr (10, [.int y_n, .ref a_y_list, .int y_sets, .ref a_y_others, .int y_otherMany, .ref a_y_costs, .long y_above, .long y_below, .ref a_y_table, .long y_by, .ref a_y_basis, .ref a_y_isSeen, .ref a_y_colour, .ref a_y_rest, .ref a_y_makes, .ref a_y_worst])), (a_y_list, .inl (c_y_list, 16, .inl y_list)), (a_y_makes, .inl (c_y_makes, 59049, .inl s26.2))]) (va_runS (As := [.int s26.1]) (rest := []) ⟨hx, hb, hml, hown, hts⟩ (c_X10_taken l dC dI H.size s26.1 r3 hr3) (va_cwS 1 hts gX10_plays_X10_taken rfl rfl rfl (by decide +kernel) ⟨Nat.le_of_ble_eq_true rfl, Nat.le_of_ble_eq_true rfl⟩) (kp_S hK hP hD hS hA hN (isC := []) (isT := []) (wc := []) rfl (by decide +kernel) rfl) rfl rfl hl.1 rfl (lv_room (Nat.le_of_ble_eq_true rfl)) dX10_plays_31 ⟨Nat.le_of_ble_eq_true rfl, Nat.le_of_ble_eq_true rfl⟩) hP hD hS hA rfl rfl (by decide +kernel) (by decide +kernel) rfl (by decide +kernel) (fun H locs hP hD hS => ?_)
          refine lv_aload_n hx hb dX10_plays_34 rfl (lv_at hl 0 rfl) ?_
          refine va_get (D := (dC, dI)) (ci := 10) (v := .int y_n) (C := RX10) (T := TX10) (N := 16) hx hb hts hiX10 hown hK hP 0 rfl rfl 0 (by decide) hf43 (fun _ h9 => h9) rfl dX10_plays_35 ?_
          refine lv_icmp_ne (tgt := 55) hx hb dX10_plays_38 (by decide) (fun hc => ?_) (fun hc => ?_)
          · replace hs := it_f hc hs
            refine lv_iload_n hx hb dX10_plays_55 rfl (lv_at hl 1 rfl) ?_
            refine lv_iload_n hx hb dX10_plays_56 rfl (lv_at hl 2 rfl) ?_
            obtain ⟨r4, hr4, hs⟩ := bd_s hs
            refine kc_i (isC := []) (isR := [0, 1, 2]) (pm := [0, 1, 2]) (wr := [(a_y, .inr (10, [.int y_n, .ref a_y_list, .int y_sets, .ref a_y_others, .int y_otherMany, .ref a_y_costs, .long y_above, .long y_below, .ref a_y_table, .long y_by, .ref a_y_basis, .ref a_y_isSeen, .ref a_y_colour, .ref a_y_rest, .ref a_y_makes, .ref a_y_worst])), (a_y_list, .inl (c_y_list, 16, .inl y_list)), (a_y_makes, .inl (c_y_makes, 59049, .inl s26.2))]) (w1 := []) (w2 := [(a_y, .inr (10, [.int y_n, .ref a_y_list, .int y_sets, .ref a_y_others, .int y_otherMany, .ref a_y_costs, .long y_above, .long y_below, .ref a_y_table, .long y_by, .ref a_y_basis, .ref a_y_isSeen, .ref a_y_colour, .ref a_y_rest, .ref a_y_makes, .ref a_y_worst])), (a_y_list, .inl (c_y_list, 16, .inl y_list)), (a_y_makes, .inl (c_y_makes, 59049, .inl s26.2))]) (va_runS (As := [.int p1, .int s26.1]) (rest := []) ⟨hx, hb, hml, hown, hts⟩ (c_X10_turn l dC dI H.size p1 s26.1 r4 hr4) (va_cwS 2 hts gX10_plays_X10_turn rfl rfl rfl (by decide +kernel) ⟨Nat.le_of_ble_eq_true rfl, Nat.le_of_ble_eq_true rfl⟩) (kp_S hK hP hD hS hA hN (isC := []) (isT := []) (wc := []) rfl (by decide +kernel) rfl) rfl rfl hl.1 rfl (lv_room (Nat.le_of_ble_eq_true rfl)) dX10_plays_57 ⟨Nat.le_of_ble_eq_true rfl, Nat.le_of_ble_eq_true rfl⟩) hP hD hS hA rfl rfl (by decide +kernel) (by decide +kernel) rfl (by decide +kernel) (fun H locs hP hD hS => ?_)
            refine lv_istore (lv' := [(4, .int r4), (0, .ref a_y), (1, .int p1), (3, .int s26.1)]) hx hb dX10_plays_60 hl (by decide) rfl (fun ls hl => ?_)
            refine lv_iload hx hb dX10_plays_62 (lv_at hl 0 rfl) ?_
            refine lv_iconst (v := 1) hx hb dX10_plays_64 (by decide) ?_
            obtain ⟨t73, hq73, hs⟩ := bd_s hs
            have hJ73 : ∀ (H : Heap) (locs : List Loc) (ls : Array Slot), va_P (dC, dI) vwCl [(a_y, .inr (10, [.int y_n, .ref a_y_list, .int y_sets, .ref a_y_others, .int y_otherMany, .ref a_y_costs, .long y_above, .long y_below, .ref a_y_table, .long y_by, .ref a_y_basis, .ref a_y_isSeen, .ref a_y_colour, .ref a_y_rest, .ref a_y_makes, .ref a_y_worst])), (a_y_list, .inl (c_y_list, 16, .inl y_list)), (a_y_makes, .inl (c_y_makes, 59049, .inl s26.2))] H → va_D A [(a_y, .inr (10, [.int y_n, .ref a_y_list, .int y_sets, .ref a_y_others, .int y_otherMany, .ref a_y_costs, .long y_above, .long y_below, .ref a_y_table, .long y_by, .ref a_y_basis, .ref a_y_isSeen, .ref a_y_colour, .ref a_y_rest, .ref a_y_makes, .ref a_y_worst])), (a_y_list, .inl (c_y_list, 16, .inl y_list)), (a_y_makes, .inl (c_y_makes, 59049, .inl s26.2))] → va_S A s.heap H locs → lv_has ls 9 [(0, .ref a_y), (1, .int p1), (3, .int s26.1), (4, .int r4)] → Z H locs 0 0 (F0 m 73 ls [.int t73]) := by
              intro H locs ls hP hD hS hl
              refine hZv ?_
              refine lv_istore (lv' := [(5, .int t73), (0, .ref a_y), (1, .int p1), (3, .int s26.1), (4, .int r4)]) hx hb dX10_plays_73 hl (by decide) rfl (fun ls hl => ?_)
              refine lv_iconst (v := 1) hx hb dX10_plays_75 (by decide) ?_
              refine lv_istore (lv' := [(6, .int 1), (5, .int t73), (0, .ref a_y), (1, .int p1), (3, .int s26.1), (4, .int r4)]) hx hb dX10_plays_76 hl (by decide) rfl (fun ls hl => ?_)
              refine lv_iconst (v := 0) hx hb dX10_plays_78 (by decide) ?_
              refine lv_istore (lv' := [(7, .int 0), (6, .int 1), (5, .int t73), (0, .ref a_y), (1, .int p1), (3, .int s26.1), (4, .int r4)]) hx hb dX10_plays_79 hl (by decide) rfl (fun ls hl => ?_)
              obtain ⟨e81, he81, hs⟩ := bd_s hs
              have hX81 : ∀ (H : Heap) (locs : List Loc) (ls : Array Slot), va_P (dC, dI) vwCl [(a_y, .inr (10, [.int y_n, .ref a_y_list, .int y_sets, .ref a_y_others, .int y_otherMany, .ref a_y_costs, .long y_above, .long y_below, .ref a_y_table, .long y_by, .ref a_y_basis, .ref a_y_isSeen, .ref a_y_colour, .ref a_y_rest, .ref a_y_makes, .ref a_y_worst])), (a_y_list, .inl (c_y_list, 16, .inl y_list)), (a_y_makes, .inl (c_y_makes, 59049, .inl s26.2))] H → va_D A [(a_y, .inr (10, [.int y_n, .ref a_y_list, .int y_sets, .ref a_y_others, .int y_otherMany, .ref a_y_costs, .long y_above, .long y_below, .ref a_y_table, .long y_by, .ref a_y_basis, .ref a_y_isSeen, .ref a_y_colour, .ref a_y_rest, .ref a_y_makes, .ref a_y_worst])), (a_y_list, .inl (c_y_list, 16, .inl y_list)), (a_y_makes, .inl (c_y_makes, 59049, .inl s26.2))] → va_S A s.heap H locs → lv_has ls 9 [(0, .ref a_y), (1, .int p1), (3, .int s26.1), (5, .int e81)] → Z H locs 0 0 (F0 m 167 ls []) := by
                intro H locs ls hP hD hS hl
                refine hZv ?_
                refine lv_aload_n hx hb dX10_plays_167 rfl (lv_at hl 0 rfl) ?_
                refine va_get (D := (dC, dI)) (ci := 10) (v := .ref a_y_makes) (C := RX10) (T := TX10) (N := 16) hx hb hts hiX10 hown hK hP 0 rfl rfl 14 (by decide) hf37 (fun _ h9 => h9) rfl dX10_plays_168 ?_
                refine lv_iload_n hx hb dX10_plays_171 rfl (lv_at hl 2 rfl) ?_
                refine lv_iload hx hb dX10_plays_172 (lv_at hl 3 rfl) ?_
                obtain ⟨hg11, hs⟩ := gd_s hs
                refine va_zast hx hb hK hP hD hS 2 1 rfl rfl hg11 dX10_plays_174 (fun H locs hP hD hS => ?_)
                have hP : va_P (dC, dI) vwCl [(a_y, .inr (10, [.int y_n, .ref a_y_list, .int y_sets, .ref a_y_others, .int y_otherMany, .ref a_y_costs, .long y_above, .long y_below, .ref a_y_table, .long y_by, .ref a_y_basis, .ref a_y_isSeen, .ref a_y_colour, .ref a_y_rest, .ref a_y_makes, .ref a_y_worst])), (a_y_list, .inl (c_y_list, 16, .inl y_list)), (a_y_makes, .inl (c_y_makes, 59049, .inl (upd s26.2 s26.1.toNatClampNeg (vp_nar .boolean e81))))] H := hP
                have hD : va_D A [(a_y, .inr (10, [.int y_n, .ref a_y_list, .int y_sets, .ref a_y_others, .int y_otherMany, .ref a_y_costs, .long y_above, .long y_below, .ref a_y_table, .long y_by, .ref a_y_basis, .ref a_y_isSeen, .ref a_y_colour, .ref a_y_rest, .ref a_y_makes, .ref a_y_worst])), (a_y_list, .inl (c_y_list, 16, .inl y_list)), (a_y_makes, .inl (c_y_makes, 59049, .inl (upd s26.2 s26.1.toNatClampNeg (vp_nar .boolean e81))))] := hD
                refine lv_iinc (v := s26.1 + (-1)) (lv' := [(3, .int (s26.1 + (-1))), (0, .ref a_y), (1, .int p1), (5, .int e81)]) hx hb dX10_plays_175 hl (k := 2) rfl (by rfl) (by decide) rfl (fun ls hl => ?_)
                refine lv_goto (tgt := 26) hx hb dX10_plays_178 (by decide) ?_
                replace hs := Option.some.inj hs
                subst hs
                exact hZw (ih (s26.1 + (-1), upd s26.2 s26.1.toNatClampNeg (vp_nar .boolean e81)) H locs ls hn hP hD hS (lv_sub hl [1, 2, 0] rfl))
              clear hs
              have hL81 : ∀ (n : Nat) (s81 : Int32 × Int32 × Int32) (H : Heap) (locs : List Loc) (ls : Array Slot), itr (pX10_plays_L81_5 y_n s26 r4) n s81 = some e81 → va_P (dC, dI) vwCl [(a_y, .inr (10, [.int y_n, .ref a_y_list, .int y_sets, .ref a_y_others, .int y_otherMany, .ref a_y_costs, .long y_above, .long y_below, .ref a_y_table, .long y_by, .ref a_y_basis, .ref a_y_isSeen, .ref a_y_colour, .ref a_y_rest, .ref a_y_makes, .ref a_y_worst])), (a_y_list, .inl (c_y_list, 16, .inl y_list)), (a_y_makes, .inl (c_y_makes, 59049, .inl s26.2))] H → va_D A [(a_y, .inr (10, [.int y_n, .ref a_y_list, .int y_sets, .ref a_y_others, .int y_otherMany, .ref a_y_costs, .long y_above, .long y_below, .ref a_y_table, .long y_by, .ref a_y_basis, .ref a_y_isSeen, .ref a_y_colour, .ref a_y_rest, .ref a_y_makes, .ref a_y_worst])), (a_y_list, .inl (c_y_list, 16, .inl y_list)), (a_y_makes, .inl (c_y_makes, 59049, .inl s26.2))] → va_S A s.heap H locs → lv_has ls 9 [(0, .ref a_y), (1, .int p1), (3, .int s26.1), (4, .int r4), (5, .int s81.1), (6, .int s81.2.1), (7, .int s81.2.2)] → Z H locs 0 0 (F0 m 81 ls []) := by
                intro n
                induction n with
                | zero =>
                  intro s81 H locs ls hn
                  exact (itr_0 hn).elim
                | succ n ih =>
                  intro s81 H locs ls hn hP hD hS hl
                  obtain ⟨y6, hs, hn⟩ := itr_s hn
                  unfold pX10_plays_L81_5 at hs
                  refine hZv ?_
                  refine lv_iload hx hb dX10_plays_81 (lv_at hl 6 rfl) ?_
                  refine lv_aload_n hx hb dX10_plays_83 rfl (lv_at hl 0 rfl) ?_
                  refine va_get (D := (dC, dI)) (ci := 10) (v := .int y_n) (C := RX10) (T := TX10) (N := 16) hx hb hts hiX10 hown hK hP 0 rfl rfl 0 (by decide) hf43 (fun _ h9 => h9) rfl dX10_plays_84 ?_
                  refine lv_icmp_ge (tgt := 167) hx hb dX10_plays_87 (by decide) (fun hc => ?_) (fun hc => ?_)
                  · replace hs := it_t hc hs
                    replace hs := Option.some.inj hs
                    subst hs
                    obtain rfl : s81.1 = e81 := hn
                    exact hZw (hX81 H locs ls hP hD hS (lv_sub hl [0, 1, 2, 4] rfl))
                  · replace hs := it_f hc hs
                    refine lv_iload_n hx hb dX10_plays_90 rfl (lv_at hl 2 rfl) ?_
                    refine lv_iload hx hb dX10_plays_91 (lv_at hl 5 rfl) ?_
                    obtain ⟨hz7, hs⟩ := gd_s hs
                    refine lv_idiv hx hb dX10_plays_93 hz7 ?_
                    refine lv_iconst (v := 3) hx hb dX10_plays_94 (by decide) ?_
                    refine lv_irem hx hb dX10_plays_95 (by decide) ?_
                    obtain ⟨t155, hq155, hs⟩ := bd_s hs
                    have hJ155 : ∀ (H : Heap) (locs : List Loc) (ls : Array Slot), va_P (dC, dI) vwCl [(a_y, .inr (10, [.int y_n, .ref a_y_list, .int y_sets, .ref a_y_others, .int y_otherMany, .ref a_y_costs, .long y_above, .long y_below, .ref a_y_table, .long y_by, .ref a_y_basis, .ref a_y_isSeen, .ref a_y_colour, .ref a_y_rest, .ref a_y_makes, .ref a_y_worst])), (a_y_list, .inl (c_y_list, 16, .inl y_list)), (a_y_makes, .inl (c_y_makes, 59049, .inl s26.2))] H → va_D A [(a_y, .inr (10, [.int y_n, .ref a_y_list, .int y_sets, .ref a_y_others, .int y_otherMany, .ref a_y_costs, .long y_above, .long y_below, .ref a_y_table, .long y_by, .ref a_y_basis, .ref a_y_isSeen, .ref a_y_colour, .ref a_y_rest, .ref a_y_makes, .ref a_y_worst])), (a_y_list, .inl (c_y_list, 16, .inl y_list)), (a_y_makes, .inl (c_y_makes, 59049, .inl s26.2))] → va_S A s.heap H locs → lv_has ls 9 [(0, .ref a_y), (1, .int p1), (3, .int s26.1), (4, .int r4), (5, .int t155), (6, .int s81.2.1), (7, .int s81.2.2)] → Z H locs 0 0 (F0 m 155 ls []) := by
                      intro H locs ls hP hD hS hl
                      refine hZv ?_
                      refine lv_iload hx hb dX10_plays_155 (lv_at hl 5 rfl) ?_
                      refine lv_iconst (v := 3) hx hb dX10_plays_157 (by decide) ?_
                      refine lv_imul hx hb dX10_plays_158 ?_
                      refine lv_istore (lv' := [(6, .int (s81.2.1 * 3)), (0, .ref a_y), (1, .int p1), (3, .int s26.1), (4, .int r4), (5, .int t155), (7, .int s81.2.2)]) hx hb dX10_plays_159 hl (by decide) rfl (fun ls hl => ?_)
                      refine lv_iinc (v := s81.2.2 + 1) (lv' := [(7, .int (s81.2.2 + 1)), (6, .int (s81.2.1 * 3)), (0, .ref a_y), (1, .int p1), (3, .int s26.1), (4, .int r4), (5, .int t155)]) hx hb dX10_plays_161 hl (k := 6) rfl (by rfl) (by decide) rfl (fun ls hl => ?_)
                      refine lv_goto (tgt := 81) hx hb dX10_plays_164 (by decide) ?_
                      replace hs := Option.some.inj hs
                      subst hs
                      exact hZw (ih (t155, s81.2.1 * 3, s81.2.2 + 1) H locs ls hn hP hD hS (lv_sub hl [2, 3, 4, 5, 6, 1, 0] rfl))
                    clear hs
                    have hs := hq155
                    refine lv_if_ne (tgt := 155) hx hb dX10_plays_96 (by decide) (fun hc => ?_) (fun hc => ?_)
                    · replace hs := it_f hc hs
                      replace hs := Option.some.inj hs
                      subst hs
                      exact hZw (hJ155 H locs ls hP hD hS hl)
                    · replace hs := it_t hc hs
                      refine lv_aload_n hx hb dX10_plays_99 rfl (lv_at hl 0 rfl) ?_
                      refine va_get (D := (dC, dI)) (ci := 10) (v := .ref a_y_makes) (C := RX10) (T := TX10) (N := 16) hx hb hts hiX10 hown hK hP 0 rfl rfl 14 (by decide) hf37 (fun _ h9 => h9) rfl dX10_plays_100 ?_
                      refine lv_iload_n hx hb dX10_plays_103 rfl (lv_at hl 2 rfl) ?_
                      refine lv_iconst (v := 1) hx hb dX10_plays_104 (by decide) ?_
                      refine lv_iload hx hb dX10_plays_105 (lv_at hl 3 rfl) ?_
                      refine lv_iadd hx hb dX10_plays_107 ?_
                      refine lv_iload hx hb dX10_plays_108 (lv_at hl 5 rfl) ?_
                      refine lv_imul hx hb dX10_plays_110 ?_
                      refine lv_iadd hx hb dX10_plays_111 ?_
                      obtain ⟨hg8, hs⟩ := gd_s hs
                      refine va_zald hx hb hK hP 2 1 rfl rfl hg8 dX10_plays_112 ?_
                      refine lv_istore (lv' := [(8, .int (s26.2 (s26.1 + ((1 + r4) * s81.2.1)).toNatClampNeg)), (0, .ref a_y), (1, .int p1), (3, .int s26.1), (4, .int r4), (5, .int s81.1), (6, .int s81.2.1), (7, .int s81.2.2)]) hx hb dX10_plays_113 hl (by decide) rfl (fun ls hl => ?_)
                      refine lv_iload hx hb dX10_plays_115 (lv_at hl 4 rfl) ?_
                      obtain ⟨t153, hq153, hs⟩ := bd_s hs
                      have hJ153 : ∀ (H : Heap) (locs : List Loc) (ls : Array Slot), va_P (dC, dI) vwCl [(a_y, .inr (10, [.int y_n, .ref a_y_list, .int y_sets, .ref a_y_others, .int y_otherMany, .ref a_y_costs, .long y_above, .long y_below, .ref a_y_table, .long y_by, .ref a_y_basis, .ref a_y_isSeen, .ref a_y_colour, .ref a_y_rest, .ref a_y_makes, .ref a_y_worst])), (a_y_list, .inl (c_y_list, 16, .inl y_list)), (a_y_makes, .inl (c_y_makes, 59049, .inl s26.2))] H → va_D A [(a_y, .inr (10, [.int y_n, .ref a_y_list, .int y_sets, .ref a_y_others, .int y_otherMany, .ref a_y_costs, .long y_above, .long y_below, .ref a_y_table, .long y_by, .ref a_y_basis, .ref a_y_isSeen, .ref a_y_colour, .ref a_y_rest, .ref a_y_makes, .ref a_y_worst])), (a_y_list, .inl (c_y_list, 16, .inl y_list)), (a_y_makes, .inl (c_y_makes, 59049, .inl s26.2))] → va_S A s.heap H locs → lv_has ls 9 [(0, .ref a_y), (1, .int p1), (3, .int s26.1), (4, .int r4), (6, .int s81.2.1), (7, .int s81.2.2)] → Z H locs 0 0 (F0 m 153 ls [.int t153]) := by
                        intro H locs ls hP hD hS hl
                        refine hZv ?_
                        refine lv_istore (lv' := [(5, .int t153), (0, .ref a_y), (1, .int p1), (3, .int s26.1), (4, .int r4), (6, .int s81.2.1), (7, .int s81.2.2)]) hx hb dX10_plays_153 hl (by decide) rfl (fun ls hl => ?_)
                        replace hs := Option.some.inj hs
                        subst hs
                        exact hZw (hJ155 H locs ls hP hD hS (lv_sub hl [1, 2, 3, 4, 0, 5, 6] rfl))
                      clear hs
                      have hs := hq153
                      refine lv_if_ne (tgt := 138) hx hb dX10_plays_117 (by decide) (fun hc => ?_) (fun hc => ?_)
                      · replace hs := it_f hc hs
                        refine lv_iload hx hb dX10_plays_138 (lv_at hl 5 rfl) ?_
                        have hJ152 : ∀ (t152 : Unit), pX10_plays_J152_9 t152 = some t153 → ∀ (H : Heap) (locs : List Loc) (ls : Array Slot), va_P (dC, dI) vwCl [(a_y, .inr (10, [.int y_n, .ref a_y_list, .int y_sets, .ref a_y_others, .int y_otherMany, .ref a_y_costs, .long y_above, .long y_below, .ref a_y_table, .long y_by, .ref a_y_basis, .ref a_y_isSeen, .ref a_y_colour, .ref a_y_rest, .ref a_y_makes, .ref a_y_worst])), (a_y_list, .inl (c_y_list, 16, .inl y_list)), (a_y_makes, .inl (c_y_makes, 59049, .inl s26.2))] H → va_D A [(a_y, .inr (10, [.int y_n, .ref a_y_list, .int y_sets, .ref a_y_others, .int y_otherMany, .ref a_y_costs, .long y_above, .long y_below, .ref a_y_table, .long y_by, .ref a_y_basis, .ref a_y_isSeen, .ref a_y_colour, .ref a_y_rest, .ref a_y_makes, .ref a_y_worst])), (a_y_list, .inl (c_y_list, 16, .inl y_list)), (a_y_makes, .inl (c_y_makes, 59049, .inl s26.2))] → va_S A s.heap H locs → lv_has ls 9 [(0, .ref a_y), (1, .int p1), (3, .int s26.1), (4, .int r4), (6, .int s81.2.1), (7, .int s81.2.2)] → Z H locs 0 0 (F0 m 152 ls []) := by
                          intro t152 hs H locs ls hP hD hS hl
                          refine hZv ?_
                          unfold pX10_plays_J152_9 at hs
                          refine lv_iconst (v := 0) hx hb dX10_plays_152 (by decide) ?_
                          replace hs := Option.some.inj hs
                          subst hs
                          exact hZw (hJ153 H locs ls hP hD hS hl)
                        refine lv_if_eq (tgt := 152) hx hb dX10_plays_140 (by decide) (fun hc => ?_) (fun hc => ?_)
                        · replace hs := it_t hc hs
                          exact hZw (hJ152 () hs H locs ls hP hD hS (lv_sub hl [1, 2, 3, 4, 6, 7] rfl))
                        · replace hs := it_f hc hs
                          refine lv_iload hx hb dX10_plays_143 (lv_at hl 0 rfl) ?_
                          refine lv_if_eq (tgt := 152) hx hb dX10_plays_145 (by decide) (fun hc => ?_) (fun hc => ?_)
                          · replace hs := it_t hc hs
                            exact hZw (hJ152 () hs H locs ls hP hD hS (lv_sub hl [1, 2, 3, 4, 6, 7] rfl))
                          · replace hs := it_f hc hs
                            refine lv_iconst (v := 1) hx hb dX10_plays_148 (by decide) ?_
                            refine lv_goto (tgt := 153) hx hb dX10_plays_149 (by decide) ?_
                            replace hs := Option.some.inj hs
                            subst hs
                            exact hZw (hJ153 H locs ls hP hD hS (lv_sub hl [1, 2, 3, 4, 6, 7] rfl))
                      · replace hs := it_t hc hs
                        refine lv_iload hx hb dX10_plays_120 (lv_at hl 5 rfl) ?_
                        have hJ130 : ∀ (t130 : Unit), pX10_plays_J130_10 t130 = some t153 → ∀ (H : Heap) (locs : List Loc) (ls : Array Slot), va_P (dC, dI) vwCl [(a_y, .inr (10, [.int y_n, .ref a_y_list, .int y_sets, .ref a_y_others, .int y_otherMany, .ref a_y_costs, .long y_above, .long y_below, .ref a_y_table, .long y_by, .ref a_y_basis, .ref a_y_isSeen, .ref a_y_colour, .ref a_y_rest, .ref a_y_makes, .ref a_y_worst])), (a_y_list, .inl (c_y_list, 16, .inl y_list)), (a_y_makes, .inl (c_y_makes, 59049, .inl s26.2))] H → va_D A [(a_y, .inr (10, [.int y_n, .ref a_y_list, .int y_sets, .ref a_y_others, .int y_otherMany, .ref a_y_costs, .long y_above, .long y_below, .ref a_y_table, .long y_by, .ref a_y_basis, .ref a_y_isSeen, .ref a_y_colour, .ref a_y_rest, .ref a_y_makes, .ref a_y_worst])), (a_y_list, .inl (c_y_list, 16, .inl y_list)), (a_y_makes, .inl (c_y_makes, 59049, .inl s26.2))] → va_S A s.heap H locs → lv_has ls 9 [(0, .ref a_y), (1, .int p1), (3, .int s26.1), (4, .int r4), (6, .int s81.2.1), (7, .int s81.2.2)] → Z H locs 0 0 (F0 m 130 ls []) := by
                          intro t130 hs H locs ls hP hD hS hl
                          refine hZv ?_
                          unfold pX10_plays_J130_10 at hs
                          refine lv_iconst (v := 1) hx hb dX10_plays_130 (by decide) ?_
                          refine lv_goto (tgt := 153) hx hb dX10_plays_131 (by decide) ?_
                          replace hs := Option.some.inj hs
                          subst hs
                          exact hZw (hJ153 H locs ls hP hD hS hl)
                        refine lv_if_ne (tgt := 130) hx hb dX10_plays_122 (by decide) (fun hc => ?_) (fun hc => ?_)
                        · replace hs := it_f hc hs
                          exact hZw (hJ130 () hs H locs ls hP hD hS (lv_sub hl [1, 2, 3, 4, 6, 7] rfl))
                        · replace hs := it_t hc hs
                          refine lv_iload hx hb dX10_plays_125 (lv_at hl 0 rfl) ?_
                          refine lv_if_eq (tgt := 134) hx hb dX10_plays_127 (by decide) (fun hc => ?_) (fun hc => ?_)
                          · replace hs := it_t hc hs
                            refine lv_iconst (v := 0) hx hb dX10_plays_134 (by decide) ?_
                            refine lv_goto (tgt := 153) hx hb dX10_plays_135 (by decide) ?_
                            replace hs := Option.some.inj hs
                            subst hs
                            exact hZw (hJ153 H locs ls hP hD hS (lv_sub hl [1, 2, 3, 4, 6, 7] rfl))
                          · replace hs := it_f hc hs
                            exact hZw (hJ130 () hs H locs ls hP hD hS (lv_sub hl [1, 2, 3, 4, 6, 7] rfl))
              obtain ⟨n81, hn81⟩ := lp_ex he81
              exact hZw (hL81 n81 (t73, 1, 0) H locs ls hn81 hP hD hS (lv_sub hl [3, 4, 5, 6, 2, 1, 0] rfl))
            clear hs
            have hs := hq73
            refine lv_icmp_ne (tgt := 72) hx hb dX10_plays_65 (by decide) (fun hc => ?_) (fun hc => ?_)
            · replace hs := it_f hc hs
              refine lv_iconst (v := 0) hx hb dX10_plays_72 (by decide) ?_
              replace hs := Option.some.inj hs
              subst hs
              exact hZw (hJ73 H locs ls hP hD hS (lv_sub hl [1, 2, 3, 0] rfl))
            · replace hs := it_t hc hs
              refine lv_iconst (v := 1) hx hb dX10_plays_68 (by decide) ?_
              refine lv_goto (tgt := 73) hx hb dX10_plays_69 (by decide) ?_
              replace hs := Option.some.inj hs
              subst hs
              exact hZw (hJ73 H locs ls hP hD hS (lv_sub hl [1, 2, 3, 0] rfl))
          · replace hs := it_t hc hs
            refine lv_aload_n hx hb dX10_plays_41 rfl (lv_at hl 0 rfl) ?_
            refine va_get (D := (dC, dI)) (ci := 10) (v := .ref a_y_makes) (C := RX10) (T := TX10) (N := 16) hx hb hts hiX10 hown hK hP 0 rfl rfl 14 (by decide) hf37 (fun _ h9 => h9) rfl dX10_plays_42 ?_
            refine lv_iload_n hx hb dX10_plays_45 rfl (lv_at hl 2 rfl) ?_
            refine lv_aload_n hx hb dX10_plays_46 rfl (lv_at hl 0 rfl) ?_
            refine lv_iload_n hx hb dX10_plays_47 rfl (lv_at hl 2 rfl) ?_
            obtain ⟨r12, hr12, hs⟩ := bd_s hs
            refine kc_i (isC := [0, 1]) (isR := [2]) (pm := [1, 2, 0]) (wr := [(a_y_makes, .inl (c_y_makes, 59049, .inl s26.2))]) (w1 := [(a_y, .inr (10, [.int y_n, .ref a_y_list, .int y_sets, .ref a_y_others, .int y_otherMany, .ref a_y_costs, .long y_above, .long y_below, .ref a_y_table, .long y_by, .ref a_y_basis, .ref a_y_isSeen, .ref a_y_colour, .ref a_y_rest, .ref a_y_makes, .ref a_y_worst])), (a_y_list, .inl (c_y_list, 16, .inl y_list))]) (w2 := [(a_y, .inr (10, [.int y_n, .ref a_y_list, .int y_sets, .ref a_y_others, .int y_otherMany, .ref a_y_costs, .long y_above, .long y_below, .ref a_y_table, .long y_by, .ref a_y_basis, .ref a_y_isSeen, .ref a_y_colour, .ref a_y_rest, .ref a_y_makes, .ref a_y_worst])), (a_y_list, .inl (c_y_list, 16, .inl y_list)), (a_y_makes, .inl (c_y_makes, 59049, .inl s26.2))]) (va_runV (As := [.int s26.1]) (rest := [.int s26.1, .ref a_y_makes]) ⟨hx, hb, hml, hown, hts⟩ (c_X10_isMade l dC dI a_y a_y_list a_y_others a_y_costs a_y_table a_y_basis a_y_isSeen a_y_colour a_y_rest a_y_makes a_y_worst c_y_list H.size y_n y_sets y_otherMany y_above y_below y_by y_list s26.1 r12 hr12) (cwV 1 hts gX10_plays_X10_isMade rfl rfl rfl (by decide +kernel) ⟨Nat.le_of_ble_eq_true rfl, Nat.le_of_ble_eq_true rfl⟩) (kp_V hK hP hD hS hA hN (isC := [0, 1]) (isT := [0]) (wc := [(a_y, .inr (10, [.int y_n, .ref a_y_list, .int y_sets, .ref a_y_others, .int y_otherMany, .ref a_y_costs, .long y_above, .long y_below, .ref a_y_table, .long y_by, .ref a_y_basis, .ref a_y_isSeen, .ref a_y_colour, .ref a_y_rest, .ref a_y_makes, .ref a_y_worst])), (a_y_list, .inl (c_y_list, 16, .inl y_list))]) rfl (by decide +kernel) rfl (ci := 10) (q0 := 0) rfl rfl) rfl rfl hl.1 rfl (lv_room (Nat.le_of_ble_eq_true rfl)) dX10_plays_48 ⟨Nat.le_of_ble_eq_true rfl, Nat.le_of_ble_eq_true rfl⟩) hP hD hS hA rfl rfl (by decide +kernel) (by decide +kernel) rfl (by decide +kernel) (fun H locs hP hD hS => ?_)
            obtain ⟨hg13, hs⟩ := gd_s hs
            refine va_zast hx hb hK hP hD hS 2 1 rfl rfl hg13 dX10_plays_51 (fun H locs hP hD hS => ?_)
            have hP : va_P (dC, dI) vwCl [(a_y, .inr (10, [.int y_n, .ref a_y_list, .int y_sets, .ref a_y_others, .int y_otherMany, .ref a_y_costs, .long y_above, .long y_below, .ref a_y_table, .long y_by, .ref a_y_basis, .ref a_y_isSeen, .ref a_y_colour, .ref a_y_rest, .ref a_y_makes, .ref a_y_worst])), (a_y_list, .inl (c_y_list, 16, .inl y_list)), (a_y_makes, .inl (c_y_makes, 59049, .inl (upd s26.2 s26.1.toNatClampNeg (vp_nar .boolean r12))))] H := hP
            have hD : va_D A [(a_y, .inr (10, [.int y_n, .ref a_y_list, .int y_sets, .ref a_y_others, .int y_otherMany, .ref a_y_costs, .long y_above, .long y_below, .ref a_y_table, .long y_by, .ref a_y_basis, .ref a_y_isSeen, .ref a_y_colour, .ref a_y_rest, .ref a_y_makes, .ref a_y_worst])), (a_y_list, .inl (c_y_list, 16, .inl y_list)), (a_y_makes, .inl (c_y_makes, 59049, .inl (upd s26.2 s26.1.toNatClampNeg (vp_nar .boolean r12))))] := hD
            refine lv_goto (tgt := 175) hx hb dX10_plays_52 (by decide) ?_
            refine lv_iinc (v := s26.1 + (-1)) (lv' := [(3, .int (s26.1 + (-1))), (0, .ref a_y), (1, .int p1)]) hx hb dX10_plays_175 hl (k := 2) rfl (by rfl) (by decide) rfl (fun ls hl => ?_)
            refine lv_goto (tgt := 26) hx hb dX10_plays_178 (by decide) ?_
            replace hs := Option.some.inj hs
            subst hs
            exact hZw (ih (s26.1 + (-1), upd s26.2 s26.1.toNatClampNeg (vp_nar .boolean r12)) H locs ls hn hP hD hS (lv_sub hl [1, 2, 0] rfl))
    obtain ⟨n26, hn26⟩ := lp_ex he26
    exact hZw (hL26 n26 (e4 - 1, y_makes) H locs ls hn26 hP hD hS (lv_sub hl [1, 2, 0] rfl))
  clear hs
  have hL4 : ∀ (n : Nat) (s4 : Int32 × Int32) (H : Heap) (locs : List Loc) (ls : Array Slot), itr (pX10_plays_L4 y_n) n s4 = some e4 → va_P (dC, dI) vwCl [(a_y, .inr (10, [.int y_n, .ref a_y_list, .int y_sets, .ref a_y_others, .int y_otherMany, .ref a_y_costs, .long y_above, .long y_below, .ref a_y_table, .long y_by, .ref a_y_basis, .ref a_y_isSeen, .ref a_y_colour, .ref a_y_rest, .ref a_y_makes, .ref a_y_worst])), (a_y_list, .inl (c_y_list, 16, .inl y_list)), (a_y_makes, .inl (c_y_makes, 59049, .inl y_makes))] H → va_D A [(a_y, .inr (10, [.int y_n, .ref a_y_list, .int y_sets, .ref a_y_others, .int y_otherMany, .ref a_y_costs, .long y_above, .long y_below, .ref a_y_table, .long y_by, .ref a_y_basis, .ref a_y_isSeen, .ref a_y_colour, .ref a_y_rest, .ref a_y_makes, .ref a_y_worst])), (a_y_list, .inl (c_y_list, 16, .inl y_list)), (a_y_makes, .inl (c_y_makes, 59049, .inl y_makes))] → va_S A s.heap H locs → lv_has ls 9 [(0, .ref a_y), (1, .int p1), (2, .int s4.1), (3, .int s4.2)] → Z H locs 0 0 (F0 m 4 ls []) := by
    intro n
    induction n with
    | zero =>
      intro s4 H locs ls hn
      exact (itr_0 hn).elim
    | succ n ih =>
      intro s4 H locs ls hn hP hD hS hl
      obtain ⟨y1, hs, hn⟩ := itr_s hn
      unfold pX10_plays_L4 at hs
      refine hZv ?_
      refine lv_iload_n hx hb dX10_plays_4 rfl (lv_at hl 3 rfl) ?_
      refine lv_aload_n hx hb dX10_plays_5 rfl (lv_at hl 0 rfl) ?_
      refine va_get (D := (dC, dI)) (ci := 10) (v := .int y_n) (C := RX10) (T := TX10) (N := 16) hx hb hts hiX10 hown hK hP 0 rfl rfl 0 (by decide) hf43 (fun _ h9 => h9) rfl dX10_plays_6 ?_
      refine lv_icmp_ge (tgt := 22) hx hb dX10_plays_9 (by decide) (fun hc => ?_) (fun hc => ?_)
      · replace hs := it_t hc hs
        replace hs := Option.some.inj hs
        subst hs
        obtain rfl : s4.1 = e4 := hn
        exact hZw (hX4 H locs ls hP hD hS (lv_sub hl [0, 1, 2] rfl))
      · replace hs := it_f hc hs
        refine lv_iload_n hx hb dX10_plays_12 rfl (lv_at hl 2 rfl) ?_
        refine lv_iconst (v := 3) hx hb dX10_plays_13 (by decide) ?_
        refine lv_imul hx hb dX10_plays_14 ?_
        refine lv_istore_n (lv' := [(2, .int (s4.1 * 3)), (0, .ref a_y), (1, .int p1), (3, .int s4.2)]) hx hb dX10_plays_15 rfl hl (by decide) rfl (fun ls hl => ?_)
        refine lv_iinc (v := s4.2 + 1) (lv' := [(3, .int (s4.2 + 1)), (2, .int (s4.1 * 3)), (0, .ref a_y), (1, .int p1)]) hx hb dX10_plays_16 hl (k := 3) rfl (by rfl) (by decide) rfl (fun ls hl => ?_)
        refine lv_goto (tgt := 4) hx hb dX10_plays_19 (by decide) ?_
        replace hs := Option.some.inj hs
        subst hs
        exact hZw (ih (s4.1 * 3, s4.2 + 1) H locs ls hn hP hD hS (lv_sub hl [2, 3, 1, 0] rfl))
  obtain ⟨n4, hn4⟩ := lp_ex he4
  exact hZw (hL4 n4 (1, 0) H locs ls hn4 hP hD hS (lv_sub hl [2, 3, 1, 0] rfl))
noncomputable def pX10_game_L52 (y_n : Int32) (p1 : Int32) (r3 : Nat → Int32) (s52 : Int32 × Int32) : Option ((Int32 × Int32) ⊕ ((Int32) ⊕ (Unit))) :=
  if y_n ≤ s52.2 then (some (Sum.inr (Sum.inr ()))) else (gd (vp_in ((1 + p1) * s52.1) 59049) (Option.bind (if p1 = 0 then (some 1) else (some 0) : Option (Int32)) (fun t80 => if (r3 ((1 + p1) * s52.1).toNatClampNeg) = t80 then (some (Sum.inr (Sum.inl s52.2))) else (some (Sum.inl (s52.1 * 3, s52.2 + 1))))))
noncomputable def pX10_game (y_n : Int32) (y_sets : Int32) (y_list : Nat → Int32) (y_makes : Nat → Int32) (p1 : Int32) (p2 : Int32) : Option (Int32 × (Nat → Int32)) :=
  Option.bind (pX10_in p1.toInt64 0 1) (fun r1 => if r1 = 0 then (some ((-2), y_makes)) else (Option.bind (pX10_in p2.toInt64 0 1) (fun r2 => if r2 = 0 then (some ((-2), y_makes)) else (Option.bind (pX10_plays y_n y_sets y_list y_makes p1) (fun r3 => if p2 = 0 then (gd (vp_in 0 59049) (if (r3 (0 : Int32).toNatClampNeg) = 0 then (some (1, r3)) else (some (0, r3)))) else (Option.bind (lp (pX10_game_L52 y_n p1 r3) (1, 0)) (Sum.elim (fun e52_0 => some (e52_0, r3)) (fun e52_1 => some ((-1), r3)))))))))
set_option maxHeartbeats 4000000 in
set_option maxRecDepth 100000 in
theorem c_X10_game (l : Launch) (dC : Nat → ClassId) (dI : Nat → Nat → Nat) (a_y : Nat) (a_y_list : Nat) (a_y_others : Nat) (a_y_costs : Nat) (a_y_table : Nat) (a_y_basis : Nat) (a_y_isSeen : Nat) (a_y_colour : Nat) (a_y_rest : Nat) (a_y_makes : Nat) (a_y_worst : Nat) (c_y_list c_y_makes : ClassId) (sz : Nat) (y_n : Int32) (y_sets : Int32) (y_otherMany : Int32) (y_above : Int64) (y_below : Int64) (y_by : Int64) (y_list : Nat → Int32) (y_makes : Nat → Int32) (p1 : Int32) (p2 : Int32) (rv : Int32 × (Nat → Int32)) (hs : pX10_game y_n y_sets y_list y_makes p1 p2 = some rv) : Met l yX10_game wsX10_game ({ frames := 3, cells := 0, slots := 0, locals := 71 }) (sPc [.ref a_y, .int p1, .int p2] (dC, dI) [(c_y_list, .int), (c_y_makes, .boolean)] [(a_y, .inr (10, [.int y_n, .ref a_y_list, .int y_sets, .ref a_y_others, .int y_otherMany, .ref a_y_costs, .long y_above, .long y_below, .ref a_y_table, .long y_by, .ref a_y_basis, .ref a_y_isSeen, .ref a_y_colour, .ref a_y_rest, .ref a_y_makes, .ref a_y_worst])), (a_y_list, .inl (c_y_list, 16, .inl y_list)), (a_y_makes, .inl (c_y_makes, 59049, .inl y_makes))] sz) (va_Qi (fun (r : Int32) (_ : Unit) => r = rv.1) (sB (dC, dI) [(c_y_list, .int), (c_y_makes, .boolean)] (va_A [(a_y, .inr (10, [.int y_n, .ref a_y_list, .int y_sets, .ref a_y_others, .int y_otherMany, .ref a_y_costs, .long y_above, .long y_below, .ref a_y_table, .long y_by, .ref a_y_basis, .ref a_y_isSeen, .ref a_y_colour, .ref a_y_rest, .ref a_y_makes, .ref a_y_worst])), (a_y_list, .inl (c_y_list, 16, .inl y_list)), (a_y_makes, .inl (c_y_makes, 59049, .inl y_makes))] sz) [(a_y, .inr (10, [.int y_n, .ref a_y_list, .int y_sets, .ref a_y_others, .int y_otherMany, .ref a_y_costs, .long y_above, .long y_below, .ref a_y_table, .long y_by, .ref a_y_basis, .ref a_y_isSeen, .ref a_y_colour, .ref a_y_rest, .ref a_y_makes, .ref a_y_worst])), (a_y_list, .inl (c_y_list, 16, .inl y_list)), (a_y_makes, .inl (c_y_makes, 59049, .inl rv.2))]) (va_A [(a_y, .inr (10, [.int y_n, .ref a_y_list, .int y_sets, .ref a_y_others, .int y_otherMany, .ref a_y_costs, .long y_above, .long y_below, .ref a_y_table, .long y_by, .ref a_y_basis, .ref a_y_isSeen, .ref a_y_colour, .ref a_y_rest, .ref a_y_makes, .ref a_y_worst])), (a_y_list, .inl (c_y_list, 16, .inl y_list)), (a_y_makes, .inl (c_y_makes, 59049, .inl y_makes))] sz)) 0 0 (va_A [(a_y, .inr (10, [.int y_n, .ref a_y_list, .int y_sets, .ref a_y_others, .int y_otherMany, .ref a_y_costs, .long y_above, .long y_below, .ref a_y_table, .long y_by, .ref a_y_basis, .ref a_y_isSeen, .ref a_y_colour, .ref a_y_rest, .ref a_y_makes, .ref a_y_worst])), (a_y_list, .inl (c_y_list, 16, .inl y_list)), (a_y_makes, .inl (c_y_makes, 59049, .inl y_makes))] sz) := by
  refine Met.ofW (cc := cX10_game) (maxL := 5) (ret := (some .int)) (by decide) rfl ?_
  intro p e s m args below meth c s₁ B hml hv
  obtain ⟨rfl, hsz, hP, hK, hD0, hN⟩ := hv
  have hx := B.exec
  have hb := B.bytes
  have hr := B.returns
  have hts := atoms_spec (ws := wsX10_game) B.pre
  have hown : s.vm.findClass RX10 = some m.cls := findClass_of_methodNamed B.named
  have hlocks := B.notSynchronized
  subst hsz
  have hD := hD0.self (sz := s.heap.size)
  generalize hAe : va_A [(a_y, .inr (10, [.int y_n, .ref a_y_list, .int y_sets, .ref a_y_others, .int y_otherMany, .ref a_y_costs, .long y_above, .long y_below, .ref a_y_table, .long y_by, .ref a_y_basis, .ref a_y_isSeen, .ref a_y_colour, .ref a_y_rest, .ref a_y_makes, .ref a_y_worst])), (a_y_list, .inl (c_y_list, 16, .inl y_list)), (a_y_makes, .inl (c_y_makes, 59049, .inl y_makes))] s.heap.size = A at hD hN ⊢
  have hA : ∀ q : Nat, s.heap.size ≤ q → A q := fun q h => by rw [← hAe]; exact Or.inr h
  have hS : va_S A s.heap s.heap [] := va_S.rf
  have hP : va_P (dC, dI) vwCl [(a_y, .inr (10, [.int y_n, .ref a_y_list, .int y_sets, .ref a_y_others, .int y_otherMany, .ref a_y_costs, .long y_above, .long y_below, .ref a_y_table, .long y_by, .ref a_y_basis, .ref a_y_isSeen, .ref a_y_colour, .ref a_y_rest, .ref a_y_makes, .ref a_y_worst])), (a_y_list, .inl (c_y_list, 16, .inl y_list)), (a_y_makes, .inl (c_y_makes, 59049, .inl y_makes))] s.heap := hP
  have hl := lv_entry ([.ref a_y, .int p1, .int p2]) (n := 5) (Nat.le_of_ble_eq_true rfl)
  rw [lg_entry_eq]
  generalize (lg_sl ([.ref a_y, .int p1, .int p2]) ++ List.replicate (5 - (lg_sl ([.ref a_y, .int p1, .int p2])).length) Slot.unset).toArray = ls at hl ⊢
  have hl : lv_has ls 5 [(0, .ref a_y), (1, .int p1), (2, .int p2)] := hl
  have hiX10 : ∀ w ∈ wsX100, w ∈ wsX10_game := fun _ h => List.mem_cons_of_mem _ (List.mem_append_right _ h)
  have hf43 := hts (.fieldLink RX10 43 "MeetSetsModel" "n" "I") (t1_ (al_ (t1_ h1_)))
  have hf37 := hts (.fieldLink RX10 37 "MeetSetsModel" "makes" "[Z") (t1_ (al_ h1_))
  refine w_abs (fun Z hZv hZw => ?_)
  refine hZv ?_
  obtain ⟨H, hH⟩ : ∃ H, H = s.heap := ⟨_, rfl⟩
  obtain ⟨locs, hlo⟩ : ∃ L : List Loc, L = [] := ⟨_, rfl⟩
  rw [← hlo, ← hH]
  have hS : va_S A s.heap H locs := by rw [hlo, hH]; exact hS
  have hP : va_P (dC, dI) vwCl [(a_y, .inr (10, [.int y_n, .ref a_y_list, .int y_sets, .ref a_y_others, .int y_otherMany, .ref a_y_costs, .long y_above, .long y_below, .ref a_y_table, .long y_by, .ref a_y_basis, .ref a_y_isSeen, .ref a_y_colour, .ref a_y_rest, .ref a_y_makes, .ref a_y_worst])), (a_y_list, .inl (c_y_list, 16, .inl y_list)), (a_y_makes, .inl (c_y_makes, 59049, .inl y_makes))] H := by rw [hH]; exact hP
  clear hH hlo
  unfold pX10_game at hs
  refine lv_iload_n hx hb dX10_game_0 rfl (lv_at hl 1 rfl) ?_
  refine lv_i2l (v := p1.toInt64) hx hb dX10_game_1 rfl ?_
  refine lv_lconst (v := 0) hx hb dX10_game_2 (by decide) ?_
  refine lv_lconst (v := 1) hx hb dX10_game_3 (by decide) ?_
  obtain ⟨r1, hr1, hs⟩ := bd_s hs
  refine kc_i (isC := []) (isR := [0, 1, 2]) (pm := [0, 1, 2]) (wr := [(a_y, .inr (10, [.int y_n, .ref a_y_list, .int y_sets, .ref a_y_others, .int y_otherMany, .ref a_y_costs, .long y_above, .long y_below, .ref a_y_table, .long y_by, .ref a_y_basis, .ref a_y_isSeen, .ref a_y_colour, .ref a_y_rest, .ref a_y_makes, .ref a_y_worst])), (a_y_list, .inl (c_y_list, 16, .inl y_list)), (a_y_makes, .inl (c_y_makes, 59049, .inl y_makes))]) (w1 := []) (w2 := [(a_y, .inr (10, [.int y_n, .ref a_y_list, .int y_sets, .ref a_y_others, .int y_otherMany, .ref a_y_costs, .long y_above, .long y_below, .ref a_y_table, .long y_by, .ref a_y_basis, .ref a_y_isSeen, .ref a_y_colour, .ref a_y_rest, .ref a_y_makes, .ref a_y_worst])), (a_y_list, .inl (c_y_list, 16, .inl y_list)), (a_y_makes, .inl (c_y_makes, 59049, .inl y_makes))]) (va_runS (As := [.long p1.toInt64, .long 0, .long 1]) (rest := []) ⟨hx, hb, hml, hown, hts⟩ (c_X10_in l dC dI H.size p1.toInt64 0 1 r1 hr1) (va_cwS 3 hts gX10_game_X10_in rfl rfl rfl (by decide +kernel) ⟨Nat.le_of_ble_eq_true rfl, Nat.le_of_ble_eq_true rfl⟩) (kp_S hK hP hD hS hA hN (isC := []) (isT := []) (wc := []) rfl (by decide +kernel) rfl) rfl rfl hl.1 rfl (lv_room (Nat.le_of_ble_eq_true rfl)) dX10_game_4 ⟨Nat.le_of_ble_eq_true rfl, Nat.le_of_ble_eq_true rfl⟩) hP hD hS hA rfl rfl (by decide +kernel) (by decide +kernel) rfl (by decide +kernel) (fun H locs hP hD hS => ?_)
  refine lv_if_eq (tgt := 20) hx hb dX10_game_7 (by decide) (fun hc => ?_) (fun hc => ?_)
  · replace hs := it_t hc hs
    refine lv_bipush (v := (-2)) hx hb dX10_game_20 (by decide) ?_
    replace hs := Option.some.inj hs
    subst hs
    exact W.iret (v := (-2)) hx hb hr (fun t ht hW => ⟨⟨(-2), (), rfl, rfl, by rw [ht]; exact hP, va_K.moved hW.alike hK, hD⟩, hS.F ht⟩) hS.2.2 dX10_game_22
  · replace hs := it_f hc hs
    refine lv_iload_n hx hb dX10_game_10 rfl (lv_at hl 2 rfl) ?_
    refine lv_i2l (v := p2.toInt64) hx hb dX10_game_11 rfl ?_
    refine lv_lconst (v := 0) hx hb dX10_game_12 (by decide) ?_
    refine lv_lconst (v := 1) hx hb dX10_game_13 (by decide) ?_
    obtain ⟨r2, hr2, hs⟩ := bd_s hs
    refine kc_i (isC := []) (isR := [0, 1, 2]) (pm := [0, 1, 2]) (wr := [(a_y, .inr (10, [.int y_n, .ref a_y_list, .int y_sets, .ref a_y_others, .int y_otherMany, .ref a_y_costs, .long y_above, .long y_below, .ref a_y_table, .long y_by, .ref a_y_basis, .ref a_y_isSeen, .ref a_y_colour, .ref a_y_rest, .ref a_y_makes, .ref a_y_worst])), (a_y_list, .inl (c_y_list, 16, .inl y_list)), (a_y_makes, .inl (c_y_makes, 59049, .inl y_makes))]) (w1 := []) (w2 := [(a_y, .inr (10, [.int y_n, .ref a_y_list, .int y_sets, .ref a_y_others, .int y_otherMany, .ref a_y_costs, .long y_above, .long y_below, .ref a_y_table, .long y_by, .ref a_y_basis, .ref a_y_isSeen, .ref a_y_colour, .ref a_y_rest, .ref a_y_makes, .ref a_y_worst])), (a_y_list, .inl (c_y_list, 16, .inl y_list)), (a_y_makes, .inl (c_y_makes, 59049, .inl y_makes))]) (va_runS (As := [.long p2.toInt64, .long 0, .long 1]) (rest := []) ⟨hx, hb, hml, hown, hts⟩ (c_X10_in l dC dI H.size p2.toInt64 0 1 r2 hr2) (va_cwS 3 hts gX10_game_X10_in rfl rfl rfl (by decide +kernel) ⟨Nat.le_of_ble_eq_true rfl, Nat.le_of_ble_eq_true rfl⟩) (kp_S hK hP hD hS hA hN (isC := []) (isT := []) (wc := []) rfl (by decide +kernel) rfl) rfl rfl hl.1 rfl (lv_room (Nat.le_of_ble_eq_true rfl)) dX10_game_14 ⟨Nat.le_of_ble_eq_true rfl, Nat.le_of_ble_eq_true rfl⟩) hP hD hS hA rfl rfl (by decide +kernel) (by decide +kernel) rfl (by decide +kernel) (fun H locs hP hD hS => ?_)
    refine lv_if_ne (tgt := 23) hx hb dX10_game_17 (by decide) (fun hc => ?_) (fun hc => ?_)
    · replace hs := it_f hc hs
      refine lv_aload_n hx hb dX10_game_23 rfl (lv_at hl 0 rfl) ?_
      refine lv_iload_n hx hb dX10_game_24 rfl (lv_at hl 1 rfl) ?_
      obtain ⟨r3, hr3, hs⟩ := bd_s hs
      refine kc_v (isC := [0, 1, 2]) (isR := []) (pm := [0, 1, 2]) (wr := []) (w1 := [(a_y, .inr (10, [.int y_n, .ref a_y_list, .int y_sets, .ref a_y_others, .int y_otherMany, .ref a_y_costs, .long y_above, .long y_below, .ref a_y_table, .long y_by, .ref a_y_basis, .ref a_y_isSeen, .ref a_y_colour, .ref a_y_rest, .ref a_y_makes, .ref a_y_worst])), (a_y_list, .inl (c_y_list, 16, .inl y_list)), (a_y_makes, .inl (c_y_makes, 59049, .inl r3))]) (w2 := [(a_y, .inr (10, [.int y_n, .ref a_y_list, .int y_sets, .ref a_y_others, .int y_otherMany, .ref a_y_costs, .long y_above, .long y_below, .ref a_y_table, .long y_by, .ref a_y_basis, .ref a_y_isSeen, .ref a_y_colour, .ref a_y_rest, .ref a_y_makes, .ref a_y_worst])), (a_y_list, .inl (c_y_list, 16, .inl y_list)), (a_y_makes, .inl (c_y_makes, 59049, .inl r3))]) (va_runV (As := [.int p1]) (rest := []) ⟨hx, hb, hml, hown, hts⟩ (c_X10_plays l dC dI a_y a_y_list a_y_others a_y_costs a_y_table a_y_basis a_y_isSeen a_y_colour a_y_rest a_y_makes a_y_worst c_y_list c_y_makes H.size y_n y_sets y_otherMany y_above y_below y_by y_list y_makes p1 r3 hr3) (cwV 1 hts gX10_game_X10_plays rfl rfl rfl (by decide +kernel) ⟨Nat.le_of_ble_eq_true rfl, Nat.le_of_ble_eq_true rfl⟩) (kp_V hK hP hD hS hA hN (isC := [0, 1, 2]) (isT := [0, 1]) (wc := [(a_y, .inr (10, [.int y_n, .ref a_y_list, .int y_sets, .ref a_y_others, .int y_otherMany, .ref a_y_costs, .long y_above, .long y_below, .ref a_y_table, .long y_by, .ref a_y_basis, .ref a_y_isSeen, .ref a_y_colour, .ref a_y_rest, .ref a_y_makes, .ref a_y_worst])), (a_y_list, .inl (c_y_list, 16, .inl y_list)), (a_y_makes, .inl (c_y_makes, 59049, .inl y_makes))]) rfl (by decide +kernel) rfl (ci := 10) (q0 := 0) rfl rfl) rfl rfl hl.1 rfl (lv_room (Nat.le_of_ble_eq_true rfl)) dX10_game_25 ⟨Nat.le_of_ble_eq_true rfl, Nat.le_of_ble_eq_true rfl⟩) hP hD hS hA rfl rfl (by decide +kernel) (by decide +kernel) rfl (by decide +kernel) (fun H locs hP hD hS => ?_)
      refine lv_iload_n hx hb dX10_game_28 rfl (lv_at hl 2 rfl) ?_
      refine lv_if_ne (tgt := 47) hx hb dX10_game_29 (by decide) (fun hc => ?_) (fun hc => ?_)
      · replace hs := it_f hc hs
        refine lv_iconst (v := 1) hx hb dX10_game_47 (by decide) ?_
        refine lv_istore_n (lv' := [(3, .int 1), (0, .ref a_y), (1, .int p1), (2, .int p2)]) hx hb dX10_game_48 rfl hl (by decide) rfl (fun ls hl => ?_)
        refine lv_iconst (v := 0) hx hb dX10_game_49 (by decide) ?_
        refine lv_istore (lv' := [(4, .int 0), (3, .int 1), (0, .ref a_y), (1, .int p1), (2, .int p2)]) hx hb dX10_game_50 hl (by decide) rfl (fun ls hl => ?_)
        obtain ⟨e52, he52, hs⟩ := bd_s hs
        have hX52_0 : ∀ (e52_0 : Int32), (Sum.inl e52_0) = e52 → ∀ (H : Heap) (locs : List Loc) (ls : Array Slot), va_P (dC, dI) vwCl [(a_y, .inr (10, [.int y_n, .ref a_y_list, .int y_sets, .ref a_y_others, .int y_otherMany, .ref a_y_costs, .long y_above, .long y_below, .ref a_y_table, .long y_by, .ref a_y_basis, .ref a_y_isSeen, .ref a_y_colour, .ref a_y_rest, .ref a_y_makes, .ref a_y_worst])), (a_y_list, .inl (c_y_list, 16, .inl y_list)), (a_y_makes, .inl (c_y_makes, 59049, .inl r3))] H → va_D A [(a_y, .inr (10, [.int y_n, .ref a_y_list, .int y_sets, .ref a_y_others, .int y_otherMany, .ref a_y_costs, .long y_above, .long y_below, .ref a_y_table, .long y_by, .ref a_y_basis, .ref a_y_isSeen, .ref a_y_colour, .ref a_y_rest, .ref a_y_makes, .ref a_y_worst])), (a_y_list, .inl (c_y_list, 16, .inl y_list)), (a_y_makes, .inl (c_y_makes, 59049, .inl r3))] → va_S A s.heap H locs → lv_has ls 5 [(4, .int e52_0)] → Z H locs 0 0 (F0 m 83 ls []) := by
          intro e52_0 he H locs ls hP hD hS hl
          subst he
          replace hs := sm_l hs
          refine hZv ?_
          refine lv_iload hx hb dX10_game_83 (lv_at hl 0 rfl) ?_
          replace hs := Option.some.inj hs
          subst hs
          exact W.iret (v := e52_0) hx hb hr (fun t ht hW => ⟨⟨e52_0, (), rfl, rfl, by rw [ht]; exact hP, va_K.moved hW.alike hK, hD⟩, hS.F ht⟩) hS.2.2 dX10_game_85
        have hX52_1 : ∀ (e52_1 : Unit), (Sum.inr e52_1) = e52 → ∀ (H : Heap) (locs : List Loc) (ls : Array Slot), va_P (dC, dI) vwCl [(a_y, .inr (10, [.int y_n, .ref a_y_list, .int y_sets, .ref a_y_others, .int y_otherMany, .ref a_y_costs, .long y_above, .long y_below, .ref a_y_table, .long y_by, .ref a_y_basis, .ref a_y_isSeen, .ref a_y_colour, .ref a_y_rest, .ref a_y_makes, .ref a_y_worst])), (a_y_list, .inl (c_y_list, 16, .inl y_list)), (a_y_makes, .inl (c_y_makes, 59049, .inl r3))] H → va_D A [(a_y, .inr (10, [.int y_n, .ref a_y_list, .int y_sets, .ref a_y_others, .int y_otherMany, .ref a_y_costs, .long y_above, .long y_below, .ref a_y_table, .long y_by, .ref a_y_basis, .ref a_y_isSeen, .ref a_y_colour, .ref a_y_rest, .ref a_y_makes, .ref a_y_worst])), (a_y_list, .inl (c_y_list, 16, .inl y_list)), (a_y_makes, .inl (c_y_makes, 59049, .inl r3))] → va_S A s.heap H locs → lv_has ls 5 [] → Z H locs 0 0 (F0 m 96 ls []) := by
          intro e52_1 he H locs ls hP hD hS hl
          subst he
          replace hs := sm_r hs
          refine hZv ?_
          refine lv_iconst (v := (-1)) hx hb dX10_game_96 (by decide) ?_
          replace hs := Option.some.inj hs
          subst hs
          exact W.iret (v := (-1)) hx hb hr (fun t ht hW => ⟨⟨(-1), (), rfl, rfl, by rw [ht]; exact hP, va_K.moved hW.alike hK, hD⟩, hS.F ht⟩) hS.2.2 dX10_game_97
        clear hs
        have hL52 : ∀ (n : Nat) (s52 : Int32 × Int32) (H : Heap) (locs : List Loc) (ls : Array Slot), itr (pX10_game_L52 y_n p1 r3) n s52 = some e52 → va_P (dC, dI) vwCl [(a_y, .inr (10, [.int y_n, .ref a_y_list, .int y_sets, .ref a_y_others, .int y_otherMany, .ref a_y_costs, .long y_above, .long y_below, .ref a_y_table, .long y_by, .ref a_y_basis, .ref a_y_isSeen, .ref a_y_colour, .ref a_y_rest, .ref a_y_makes, .ref a_y_worst])), (a_y_list, .inl (c_y_list, 16, .inl y_list)), (a_y_makes, .inl (c_y_makes, 59049, .inl r3))] H → va_D A [(a_y, .inr (10, [.int y_n, .ref a_y_list, .int y_sets, .ref a_y_others, .int y_otherMany, .ref a_y_costs, .long y_above, .long y_below, .ref a_y_table, .long y_by, .ref a_y_basis, .ref a_y_isSeen, .ref a_y_colour, .ref a_y_rest, .ref a_y_makes, .ref a_y_worst])), (a_y_list, .inl (c_y_list, 16, .inl y_list)), (a_y_makes, .inl (c_y_makes, 59049, .inl r3))] → va_S A s.heap H locs → lv_has ls 5 [(0, .ref a_y), (1, .int p1), (3, .int s52.1), (4, .int s52.2)] → Z H locs 0 0 (F0 m 52 ls []) := by
          intro n
          induction n with
          | zero =>
            intro s52 H locs ls hn
            exact (itr_0 hn).elim
          | succ n ih =>
            intro s52 H locs ls hn hP hD hS hl
            obtain ⟨y4, hs, hn⟩ := itr_s hn
            unfold pX10_game_L52 at hs
            refine hZv ?_
            refine lv_iload hx hb dX10_game_52 (lv_at hl 3 rfl) ?_
            refine lv_aload_n hx hb dX10_game_54 rfl (lv_at hl 0 rfl) ?_
            refine va_get (D := (dC, dI)) (ci := 10) (v := .int y_n) (C := RX10) (T := TX10) (N := 16) hx hb hts hiX10 hown hK hP 0 rfl rfl 0 (by decide) hf43 (fun _ h9 => h9) rfl dX10_game_55 ?_
            refine lv_icmp_ge (tgt := 96) hx hb dX10_game_58 (by decide) (fun hc => ?_) (fun hc => ?_)
            · replace hs := it_t hc hs
              replace hs := Option.some.inj hs
              subst hs
              obtain rfl : (Sum.inr ()) = e52 := hn
              exact hZw (hX52_1 () rfl H locs ls hP hD hS (lv_sub hl [] rfl))
            · replace hs := it_f hc hs
              refine lv_aload_n hx hb dX10_game_61 rfl (lv_at hl 0 rfl) ?_
              refine va_get (D := (dC, dI)) (ci := 10) (v := .ref a_y_makes) (C := RX10) (T := TX10) (N := 16) hx hb hts hiX10 hown hK hP 0 rfl rfl 14 (by decide) hf37 (fun _ h9 => h9) rfl dX10_game_62 ?_
              refine lv_iconst (v := 1) hx hb dX10_game_65 (by decide) ?_
              refine lv_iload_n hx hb dX10_game_66 rfl (lv_at hl 1 rfl) ?_
              refine lv_iadd hx hb dX10_game_67 ?_
              refine lv_iload_n hx hb dX10_game_68 rfl (lv_at hl 2 rfl) ?_
              refine lv_imul hx hb dX10_game_69 ?_
              obtain ⟨hg5, hs⟩ := gd_s hs
              refine va_zald hx hb hK hP 2 1 rfl rfl hg5 dX10_game_70 ?_
              refine lv_iload_n hx hb dX10_game_71 rfl (lv_at hl 1 rfl) ?_
              obtain ⟨t80, hq80, hs⟩ := bd_s hs
              have hJ80 : ∀ (H : Heap) (locs : List Loc) (ls : Array Slot), va_P (dC, dI) vwCl [(a_y, .inr (10, [.int y_n, .ref a_y_list, .int y_sets, .ref a_y_others, .int y_otherMany, .ref a_y_costs, .long y_above, .long y_below, .ref a_y_table, .long y_by, .ref a_y_basis, .ref a_y_isSeen, .ref a_y_colour, .ref a_y_rest, .ref a_y_makes, .ref a_y_worst])), (a_y_list, .inl (c_y_list, 16, .inl y_list)), (a_y_makes, .inl (c_y_makes, 59049, .inl r3))] H → va_D A [(a_y, .inr (10, [.int y_n, .ref a_y_list, .int y_sets, .ref a_y_others, .int y_otherMany, .ref a_y_costs, .long y_above, .long y_below, .ref a_y_table, .long y_by, .ref a_y_basis, .ref a_y_isSeen, .ref a_y_colour, .ref a_y_rest, .ref a_y_makes, .ref a_y_worst])), (a_y_list, .inl (c_y_list, 16, .inl y_list)), (a_y_makes, .inl (c_y_makes, 59049, .inl r3))] → va_S A s.heap H locs → lv_has ls 5 [(0, .ref a_y), (1, .int p1), (3, .int s52.1), (4, .int s52.2)] → Z H locs 0 0 (F0 m 80 ls [.int t80, .int (r3 ((1 + p1) * s52.1).toNatClampNeg)]) := by
                intro H locs ls hP hD hS hl
                refine hZv ?_
                refine lv_icmp_ne (tgt := 86) hx hb dX10_game_80 (by decide) (fun hc => ?_) (fun hc => ?_)
                · replace hs := it_f hc hs
                  refine lv_iload_n hx hb dX10_game_86 rfl (lv_at hl 2 rfl) ?_
                  refine lv_iconst (v := 3) hx hb dX10_game_87 (by decide) ?_
                  refine lv_imul hx hb dX10_game_88 ?_
                  refine lv_istore_n (lv' := [(3, .int (s52.1 * 3)), (0, .ref a_y), (1, .int p1), (4, .int s52.2)]) hx hb dX10_game_89 rfl hl (by decide) rfl (fun ls hl => ?_)
                  refine lv_iinc (v := s52.2 + 1) (lv' := [(4, .int (s52.2 + 1)), (3, .int (s52.1 * 3)), (0, .ref a_y), (1, .int p1)]) hx hb dX10_game_90 hl (k := 3) rfl (by rfl) (by decide) rfl (fun ls hl => ?_)
                  refine lv_goto (tgt := 52) hx hb dX10_game_93 (by decide) ?_
                  replace hs := Option.some.inj hs
                  subst hs
                  exact hZw (ih (s52.1 * 3, s52.2 + 1) H locs ls hn hP hD hS (lv_sub hl [2, 3, 1, 0] rfl))
                · replace hs := it_t hc hs
                  replace hs := Option.some.inj hs
                  subst hs
                  obtain rfl : (Sum.inl s52.2) = e52 := hn
                  exact hZw (hX52_0 s52.2 rfl H locs ls hP hD hS (lv_sub hl [3] rfl))
              clear hs
              have hs := hq80
              refine lv_if_ne (tgt := 79) hx hb dX10_game_72 (by decide) (fun hc => ?_) (fun hc => ?_)
              · replace hs := it_f hc hs
                refine lv_iconst (v := 0) hx hb dX10_game_79 (by decide) ?_
                replace hs := Option.some.inj hs
                subst hs
                exact hZw (hJ80 H locs ls hP hD hS hl)
              · replace hs := it_t hc hs
                refine lv_iconst (v := 1) hx hb dX10_game_75 (by decide) ?_
                refine lv_goto (tgt := 80) hx hb dX10_game_76 (by decide) ?_
                replace hs := Option.some.inj hs
                subst hs
                exact hZw (hJ80 H locs ls hP hD hS hl)
        obtain ⟨n52, hn52⟩ := lp_ex he52
        exact hZw (hL52 n52 (1, 0) H locs ls hn52 hP hD hS (lv_sub hl [2, 3, 1, 0] rfl))
      · replace hs := it_t hc hs
        refine lv_aload_n hx hb dX10_game_32 rfl (lv_at hl 0 rfl) ?_
        refine va_get (D := (dC, dI)) (ci := 10) (v := .ref a_y_makes) (C := RX10) (T := TX10) (N := 16) hx hb hts hiX10 hown hK hP 0 rfl rfl 14 (by decide) hf37 (fun _ h9 => h9) rfl dX10_game_33 ?_
        refine lv_iconst (v := 0) hx hb dX10_game_36 (by decide) ?_
        obtain ⟨hg6, hs⟩ := gd_s hs
        refine va_zald hx hb hK hP 2 1 rfl rfl hg6 dX10_game_37 ?_
        refine lv_if_eq (tgt := 45) hx hb dX10_game_38 (by decide) (fun hc => ?_) (fun hc => ?_)
        · replace hs := it_t hc hs
          refine lv_iconst (v := 1) hx hb dX10_game_45 (by decide) ?_
          replace hs := Option.some.inj hs
          subst hs
          exact W.iret (v := 1) hx hb hr (fun t ht hW => ⟨⟨1, (), rfl, rfl, by rw [ht]; exact hP, va_K.moved hW.alike hK, hD⟩, hS.F ht⟩) hS.2.2 dX10_game_46
        · replace hs := it_f hc hs
          refine lv_iconst (v := 0) hx hb dX10_game_41 (by decide) ?_
          refine lv_goto (tgt := 46) hx hb dX10_game_42 (by decide) ?_
          replace hs := Option.some.inj hs
          subst hs
          exact W.iret (v := 0) hx hb hr (fun t ht hW => ⟨⟨0, (), rfl, rfl, by rw [ht]; exact hP, va_K.moved hW.alike hK, hD⟩, hS.F ht⟩) hS.2.2 dX10_game_46
    · replace hs := it_t hc hs
      refine lv_bipush (v := (-2)) hx hb dX10_game_20 (by decide) ?_
      replace hs := Option.some.inj hs
      subst hs
      exact W.iret (v := (-2)) hx hb hr (fun t ht hW => ⟨⟨(-2), (), rfl, rfl, by rw [ht]; exact hP, va_K.moved hW.alike hK, hD⟩, hS.F ht⟩) hS.2.2 dX10_game_22
noncomputable def pX10_power_L5 (p0 : Int64) (p2 : Int32) (s5 : Int64 × Int32) : Option ((Int64 × Int32) ⊕ (Int64)) :=
  if p2 ≤ s5.2 then (some (Sum.inr s5.1)) else (some (Sum.inl (s5.1 * p0, s5.2 + 1)))
noncomputable def pX10_power (p0 : Int64) (p2 : Int32) : Option (Int64) :=
  Option.bind (lp (pX10_power_L5 p0 p2) (1, 0)) (fun e5 => some e5)
set_option maxHeartbeats 4000000 in
set_option maxRecDepth 100000 in
theorem c_X10_power (l : Launch) (dC : Nat → ClassId) (dI : Nat → Nat → Nat) (sz : Nat) (p0 : Int64) (p2 : Int32) (rv : Int64) (hs : pX10_power p0 p2 = some rv) : Met l yX10_power wsX10_power ({ frames := 0, cells := 0, slots := 0, locals := 0 }) (sPc [.long p0, .int p2] (dC, dI) [] [] sz) (va_Ql (fun (r : Int64) (_ : Unit) => r = rv) (sB (dC, dI) [] (va_A [] sz) []) (va_A [] sz)) 0 0 (va_A [] sz) := by
  refine Met.ofW (cc := cX10_power) (maxL := 6) (ret := (some .long)) (by decide) rfl ?_
  intro p e s m args below meth c s₁ B hml hv
  obtain ⟨rfl, hsz, hP, hK, hD0, hN⟩ := hv
  have hx := B.exec
  have hb := B.bytes
  have hr := B.returns
  have hts := atoms_spec (ws := wsX10_power) B.pre
  have hown : s.vm.findClass RX10 = some m.cls := findClass_of_methodNamed B.named
  have hlocks := B.notSynchronized
  subst hsz
  have hD := hD0.self (sz := s.heap.size)
  generalize hAe : va_A [] s.heap.size = A at hD hN ⊢
  have hA : ∀ q : Nat, s.heap.size ≤ q → A q := fun q h => by rw [← hAe]; exact Or.inr h
  have hS : va_S A s.heap s.heap [] := va_S.rf
  have hP : va_P (dC, dI) vwCl [] s.heap := hP
  have hl := lv_entry ([.long p0, .int p2]) (n := 6) (Nat.le_of_ble_eq_true rfl)
  rw [lg_entry_eq]
  generalize (lg_sl ([.long p0, .int p2]) ++ List.replicate (6 - (lg_sl ([.long p0, .int p2])).length) Slot.unset).toArray = ls at hl ⊢
  have hl : lv_has ls 6 [(0, .long p0), (2, .int p2)] := hl
  refine w_abs (fun Z hZv hZw => ?_)
  refine hZv ?_
  obtain ⟨H, hH⟩ : ∃ H, H = s.heap := ⟨_, rfl⟩
  obtain ⟨locs, hlo⟩ : ∃ L : List Loc, L = [] := ⟨_, rfl⟩
  rw [← hlo, ← hH]
  have hS : va_S A s.heap H locs := by rw [hlo, hH]; exact hS
  have hP : va_P (dC, dI) vwCl [] H := by rw [hH]; exact hP
  clear hH hlo
  unfold pX10_power at hs
  refine lv_lconst (v := 1) hx hb dX10_power_0 (by decide) ?_
  refine lv_lstore_n (lv' := [(3, .long 1), (0, .long p0), (2, .int p2)]) hx hb dX10_power_1 rfl hl (by decide) rfl (fun ls hl => ?_)
  refine lv_iconst (v := 0) hx hb dX10_power_2 (by decide) ?_
  refine lv_istore (lv' := [(5, .int 0), (3, .long 1), (0, .long p0), (2, .int p2)]) hx hb dX10_power_3 hl (by decide) rfl (fun ls hl => ?_)
  obtain ⟨e5, he5, hs⟩ := bd_s hs
  have hX5 : ∀ (H : Heap) (locs : List Loc) (ls : Array Slot), va_P (dC, dI) vwCl [] H → va_D A [] → va_S A s.heap H locs → lv_has ls 6 [(3, .long e5)] → Z H locs 0 0 (F0 m 21 ls []) := by
    intro H locs ls hP hD hS hl
    refine hZv ?_
    refine lv_lload_n hx hb dX10_power_21 rfl (lv_at hl 0 rfl) ?_
    replace hs := Option.some.inj hs
    subst hs
    exact W.lret (v := e5) hx hb hr (fun t ht hW => ⟨⟨e5, (), rfl, rfl, by rw [ht]; exact hP, va_K.moved hW.alike hK, hD⟩, hS.F ht⟩) hS.2.2 dX10_power_22
  clear hs
  have hL5 : ∀ (n : Nat) (s5 : Int64 × Int32) (H : Heap) (locs : List Loc) (ls : Array Slot), itr (pX10_power_L5 p0 p2) n s5 = some e5 → va_P (dC, dI) vwCl [] H → va_D A [] → va_S A s.heap H locs → lv_has ls 6 [(0, .long p0), (2, .int p2), (3, .long s5.1), (5, .int s5.2)] → Z H locs 0 0 (F0 m 5 ls []) := by
    intro n
    induction n with
    | zero =>
      intro s5 H locs ls hn
      exact (itr_0 hn).elim
    | succ n ih =>
      intro s5 H locs ls hn hP hD hS hl
      obtain ⟨y1, hs, hn⟩ := itr_s hn
      unfold pX10_power_L5 at hs
      refine hZv ?_
      refine lv_iload hx hb dX10_power_5 (lv_at hl 3 rfl) ?_
      refine lv_iload_n hx hb dX10_power_7 rfl (lv_at hl 1 rfl) ?_
      refine lv_icmp_ge (tgt := 21) hx hb dX10_power_8 (by decide) (fun hc => ?_) (fun hc => ?_)
      · replace hs := it_t hc hs
        replace hs := Option.some.inj hs
        subst hs
        obtain rfl : s5.1 = e5 := hn
        exact hZw (hX5 H locs ls hP hD hS (lv_sub hl [2] rfl))
      · replace hs := it_f hc hs
        refine lv_lload_n hx hb dX10_power_11 rfl (lv_at hl 2 rfl) ?_
        refine lv_lload_n hx hb dX10_power_12 rfl (lv_at hl 0 rfl) ?_
        refine lv_lmul hx hb dX10_power_13 ?_
        refine lv_lstore_n (lv' := [(3, .long (s5.1 * p0)), (0, .long p0), (2, .int p2), (5, .int s5.2)]) hx hb dX10_power_14 rfl hl (by decide) rfl (fun ls hl => ?_)
        refine lv_iinc (v := s5.2 + 1) (lv' := [(5, .int (s5.2 + 1)), (3, .long (s5.1 * p0)), (0, .long p0), (2, .int p2)]) hx hb dX10_power_15 hl (k := 3) rfl (by rfl) (by decide) rfl (fun ls hl => ?_)
        refine lv_goto (tgt := 5) hx hb dX10_power_18 (by decide) ?_
        replace hs := Option.some.inj hs
        subst hs
        exact hZw (ih (s5.1 * p0, s5.2 + 1) H locs ls hn hP hD hS (lv_sub hl [2, 3, 1, 0] rfl))
  obtain ⟨n5, hn5⟩ := lp_ex he5
  exact hZw (hL5 n5 (1, 0) H locs ls hn5 hP hD hS (lv_sub hl [2, 3, 1, 0] rfl))
noncomputable def pX10_chance_L31 (y_n : Int32) (y_sets : Int32) (y_list : Nat → Int32) (p1 : Int32) (p2 : Int32) (s31 : Int64 × Int32) : Option ((Int64 × Int32) ⊕ (Int64)) :=
  Option.bind (pX10_all y_n) (fun r4 => if r4 < s31.2 then (some (Sum.inr s31.1)) else (Option.bind (pX10_sizeOf s31.2) (fun r5 => Option.bind (pX10_meets y_sets y_list s31.2) (fun r6 => Option.bind (if r6 = 0 then (some 0) else (Option.bind (pX10_power p1.toInt64 r5) (fun r7 => Option.bind (pX10_power ((p2 - p1).toInt64) (y_n - r5)) (fun r8 => some (r7 * r8)))) : Option (Int64)) (fun t83 => some (Sum.inl (s31.1 + t83, s31.2 + 1)))))))
noncomputable def pX10_chance (y_n : Int32) (y_sets : Int32) (y_above : Int64) (y_below : Int64) (y_list : Nat → Int32) (p1 : Int32) (p2 : Int32) : Option (Int32 × Int64 × Int64) :=
  Option.bind (pX10_in p2.toInt64 1 10) (fun r1 => if r1 = 0 then (some ((-2), y_above, y_below)) else (Option.bind (pX10_in p1.toInt64 0 p2.toInt64) (fun r2 => if r2 = 0 then (some ((-2), y_above, y_below)) else (Option.bind (lp (pX10_chance_L31 y_n y_sets y_list p1 p2) (0, 0)) (fun e31 => Option.bind (pX10_power p2.toInt64 y_n) (fun r9 => Option.bind (pX10_tells y_above y_below e31 r9) (fun r10 => some (r10.1, r10.2.1, r10.2.2))))))))
set_option maxHeartbeats 4000000 in
set_option maxRecDepth 100000 in
theorem c_X10_chance (l : Launch) (dC : Nat → ClassId) (dI : Nat → Nat → Nat) (a_y : Nat) (a_y_list : Nat) (a_y_others : Nat) (a_y_costs : Nat) (a_y_table : Nat) (a_y_basis : Nat) (a_y_isSeen : Nat) (a_y_colour : Nat) (a_y_rest : Nat) (a_y_makes : Nat) (a_y_worst : Nat) (c_y_list : ClassId) (sz : Nat) (y_n : Int32) (y_sets : Int32) (y_otherMany : Int32) (y_above : Int64) (y_below : Int64) (y_by : Int64) (y_list : Nat → Int32) (p1 : Int32) (p2 : Int32) (rv : Int32 × Int64 × Int64) (hs : pX10_chance y_n y_sets y_above y_below y_list p1 p2 = some rv) : Met l yX10_chance wsX10_chance ({ frames := 2, cells := 0, slots := 0, locals := 55 }) (sPc [.ref a_y, .int p1, .int p2] (dC, dI) [(c_y_list, .int)] [(a_y, .inr (10, [.int y_n, .ref a_y_list, .int y_sets, .ref a_y_others, .int y_otherMany, .ref a_y_costs, .long y_above, .long y_below, .ref a_y_table, .long y_by, .ref a_y_basis, .ref a_y_isSeen, .ref a_y_colour, .ref a_y_rest, .ref a_y_makes, .ref a_y_worst])), (a_y_list, .inl (c_y_list, 16, .inl y_list))] sz) (va_Qi (fun (r : Int32) (_ : Unit) => r = rv.1) (sB (dC, dI) [(c_y_list, .int)] (va_A [(a_y, .inr (10, [.int y_n, .ref a_y_list, .int y_sets, .ref a_y_others, .int y_otherMany, .ref a_y_costs, .long y_above, .long y_below, .ref a_y_table, .long y_by, .ref a_y_basis, .ref a_y_isSeen, .ref a_y_colour, .ref a_y_rest, .ref a_y_makes, .ref a_y_worst])), (a_y_list, .inl (c_y_list, 16, .inl y_list))] sz) [(a_y, .inr (10, [.int y_n, .ref a_y_list, .int y_sets, .ref a_y_others, .int y_otherMany, .ref a_y_costs, .long rv.2.1, .long rv.2.2, .ref a_y_table, .long y_by, .ref a_y_basis, .ref a_y_isSeen, .ref a_y_colour, .ref a_y_rest, .ref a_y_makes, .ref a_y_worst])), (a_y_list, .inl (c_y_list, 16, .inl y_list))]) (va_A [(a_y, .inr (10, [.int y_n, .ref a_y_list, .int y_sets, .ref a_y_others, .int y_otherMany, .ref a_y_costs, .long y_above, .long y_below, .ref a_y_table, .long y_by, .ref a_y_basis, .ref a_y_isSeen, .ref a_y_colour, .ref a_y_rest, .ref a_y_makes, .ref a_y_worst])), (a_y_list, .inl (c_y_list, 16, .inl y_list))] sz)) 0 0 (va_A [(a_y, .inr (10, [.int y_n, .ref a_y_list, .int y_sets, .ref a_y_others, .int y_otherMany, .ref a_y_costs, .long y_above, .long y_below, .ref a_y_table, .long y_by, .ref a_y_basis, .ref a_y_isSeen, .ref a_y_colour, .ref a_y_rest, .ref a_y_makes, .ref a_y_worst])), (a_y_list, .inl (c_y_list, 16, .inl y_list))] sz) := by
  refine Met.ofW (cc := cX10_chance) (maxL := 7) (ret := (some .int)) (by decide) rfl ?_
  intro p e s m args below meth c s₁ B hml hv
  obtain ⟨rfl, hsz, hP, hK, hD0, hN⟩ := hv
  have hx := B.exec
  have hb := B.bytes
  have hr := B.returns
  have hts := atoms_spec (ws := wsX10_chance) B.pre
  have hown : s.vm.findClass RX10 = some m.cls := findClass_of_methodNamed B.named
  have hlocks := B.notSynchronized
  subst hsz
  have hD := hD0.self (sz := s.heap.size)
  generalize hAe : va_A [(a_y, .inr (10, [.int y_n, .ref a_y_list, .int y_sets, .ref a_y_others, .int y_otherMany, .ref a_y_costs, .long y_above, .long y_below, .ref a_y_table, .long y_by, .ref a_y_basis, .ref a_y_isSeen, .ref a_y_colour, .ref a_y_rest, .ref a_y_makes, .ref a_y_worst])), (a_y_list, .inl (c_y_list, 16, .inl y_list))] s.heap.size = A at hD hN ⊢
  have hA : ∀ q : Nat, s.heap.size ≤ q → A q := fun q h => by rw [← hAe]; exact Or.inr h
  have hS : va_S A s.heap s.heap [] := va_S.rf
  have hP : va_P (dC, dI) vwCl [(a_y, .inr (10, [.int y_n, .ref a_y_list, .int y_sets, .ref a_y_others, .int y_otherMany, .ref a_y_costs, .long y_above, .long y_below, .ref a_y_table, .long y_by, .ref a_y_basis, .ref a_y_isSeen, .ref a_y_colour, .ref a_y_rest, .ref a_y_makes, .ref a_y_worst])), (a_y_list, .inl (c_y_list, 16, .inl y_list))] s.heap := hP
  have hl := lv_entry ([.ref a_y, .int p1, .int p2]) (n := 7) (Nat.le_of_ble_eq_true rfl)
  rw [lg_entry_eq]
  generalize (lg_sl ([.ref a_y, .int p1, .int p2]) ++ List.replicate (7 - (lg_sl ([.ref a_y, .int p1, .int p2])).length) Slot.unset).toArray = ls at hl ⊢
  have hl : lv_has ls 7 [(0, .ref a_y), (1, .int p1), (2, .int p2)] := hl
  have hiX10 : ∀ w ∈ wsX100, w ∈ wsX10_chance := fun _ h => List.mem_cons_of_mem _ (List.mem_append_right _ h)
  have hf43 := hts (.fieldLink RX10 43 "MeetSetsModel" "n" "I") (t1_ (al_ (al_ (t1_ h1_))))
  refine w_abs (fun Z hZv hZw => ?_)
  refine hZv ?_
  obtain ⟨H, hH⟩ : ∃ H, H = s.heap := ⟨_, rfl⟩
  obtain ⟨locs, hlo⟩ : ∃ L : List Loc, L = [] := ⟨_, rfl⟩
  rw [← hlo, ← hH]
  have hS : va_S A s.heap H locs := by rw [hlo, hH]; exact hS
  have hP : va_P (dC, dI) vwCl [(a_y, .inr (10, [.int y_n, .ref a_y_list, .int y_sets, .ref a_y_others, .int y_otherMany, .ref a_y_costs, .long y_above, .long y_below, .ref a_y_table, .long y_by, .ref a_y_basis, .ref a_y_isSeen, .ref a_y_colour, .ref a_y_rest, .ref a_y_makes, .ref a_y_worst])), (a_y_list, .inl (c_y_list, 16, .inl y_list))] H := by rw [hH]; exact hP
  clear hH hlo
  unfold pX10_chance at hs
  refine lv_iload_n hx hb dX10_chance_0 rfl (lv_at hl 2 rfl) ?_
  refine lv_i2l (v := p2.toInt64) hx hb dX10_chance_1 rfl ?_
  refine lv_lconst (v := 1) hx hb dX10_chance_2 (by decide) ?_
  refine lv_ldc2 (v := 10) hx hb hown (hts (.constantLong RX10 59 (10)) (t1_ (al_ (al_ h1_)))) dX10_chance_3 ?_
  obtain ⟨r1, hr1, hs⟩ := bd_s hs
  refine kc_i (isC := []) (isR := [0, 1]) (pm := [0, 1]) (wr := [(a_y, .inr (10, [.int y_n, .ref a_y_list, .int y_sets, .ref a_y_others, .int y_otherMany, .ref a_y_costs, .long y_above, .long y_below, .ref a_y_table, .long y_by, .ref a_y_basis, .ref a_y_isSeen, .ref a_y_colour, .ref a_y_rest, .ref a_y_makes, .ref a_y_worst])), (a_y_list, .inl (c_y_list, 16, .inl y_list))]) (w1 := []) (w2 := [(a_y, .inr (10, [.int y_n, .ref a_y_list, .int y_sets, .ref a_y_others, .int y_otherMany, .ref a_y_costs, .long y_above, .long y_below, .ref a_y_table, .long y_by, .ref a_y_basis, .ref a_y_isSeen, .ref a_y_colour, .ref a_y_rest, .ref a_y_makes, .ref a_y_worst])), (a_y_list, .inl (c_y_list, 16, .inl y_list))]) (va_runS (As := [.long p2.toInt64, .long 1, .long 10]) (rest := []) ⟨hx, hb, hml, hown, hts⟩ (c_X10_in l dC dI H.size p2.toInt64 1 10 r1 hr1) (va_cwS 3 hts gX10_chance_X10_in rfl rfl rfl (by decide +kernel) ⟨Nat.le_of_ble_eq_true rfl, Nat.le_of_ble_eq_true rfl⟩) (kp_S hK hP hD hS hA hN (isC := []) (isT := []) (wc := []) rfl (by decide +kernel) rfl) rfl rfl hl.1 rfl (lv_room (Nat.le_of_ble_eq_true rfl)) dX10_chance_6 ⟨Nat.le_of_ble_eq_true rfl, Nat.le_of_ble_eq_true rfl⟩) hP hD hS hA rfl rfl (by decide +kernel) (by decide +kernel) rfl (by decide +kernel) (fun H locs hP hD hS => ?_)
  refine lv_if_eq (tgt := 23) hx hb dX10_chance_9 (by decide) (fun hc => ?_) (fun hc => ?_)
  · replace hs := it_t hc hs
    refine lv_bipush (v := (-2)) hx hb dX10_chance_23 (by decide) ?_
    replace hs := Option.some.inj hs
    subst hs
    exact W.iret (v := (-2)) hx hb hr (fun t ht hW => ⟨⟨(-2), (), rfl, rfl, by rw [ht]; exact hP, va_K.moved hW.alike hK, hD⟩, hS.F ht⟩) hS.2.2 dX10_chance_25
  · replace hs := it_f hc hs
    refine lv_iload_n hx hb dX10_chance_12 rfl (lv_at hl 1 rfl) ?_
    refine lv_i2l (v := p1.toInt64) hx hb dX10_chance_13 rfl ?_
    refine lv_lconst (v := 0) hx hb dX10_chance_14 (by decide) ?_
    refine lv_iload_n hx hb dX10_chance_15 rfl (lv_at hl 2 rfl) ?_
    refine lv_i2l (v := p2.toInt64) hx hb dX10_chance_16 rfl ?_
    obtain ⟨r2, hr2, hs⟩ := bd_s hs
    refine kc_i (isC := []) (isR := [0, 1]) (pm := [0, 1]) (wr := [(a_y, .inr (10, [.int y_n, .ref a_y_list, .int y_sets, .ref a_y_others, .int y_otherMany, .ref a_y_costs, .long y_above, .long y_below, .ref a_y_table, .long y_by, .ref a_y_basis, .ref a_y_isSeen, .ref a_y_colour, .ref a_y_rest, .ref a_y_makes, .ref a_y_worst])), (a_y_list, .inl (c_y_list, 16, .inl y_list))]) (w1 := []) (w2 := [(a_y, .inr (10, [.int y_n, .ref a_y_list, .int y_sets, .ref a_y_others, .int y_otherMany, .ref a_y_costs, .long y_above, .long y_below, .ref a_y_table, .long y_by, .ref a_y_basis, .ref a_y_isSeen, .ref a_y_colour, .ref a_y_rest, .ref a_y_makes, .ref a_y_worst])), (a_y_list, .inl (c_y_list, 16, .inl y_list))]) (va_runS (As := [.long p1.toInt64, .long 0, .long p2.toInt64]) (rest := []) ⟨hx, hb, hml, hown, hts⟩ (c_X10_in l dC dI H.size p1.toInt64 0 p2.toInt64 r2 hr2) (va_cwS 3 hts gX10_chance_X10_in rfl rfl rfl (by decide +kernel) ⟨Nat.le_of_ble_eq_true rfl, Nat.le_of_ble_eq_true rfl⟩) (kp_S hK hP hD hS hA hN (isC := []) (isT := []) (wc := []) rfl (by decide +kernel) rfl) rfl rfl hl.1 rfl (lv_room (Nat.le_of_ble_eq_true rfl)) dX10_chance_17 ⟨Nat.le_of_ble_eq_true rfl, Nat.le_of_ble_eq_true rfl⟩) hP hD hS hA rfl rfl (by decide +kernel) (by decide +kernel) rfl (by decide +kernel) (fun H locs hP hD hS => ?_)
    refine lv_if_ne (tgt := 26) hx hb dX10_chance_20 (by decide) (fun hc => ?_) (fun hc => ?_)
    · replace hs := it_f hc hs
      refine lv_lconst (v := 0) hx hb dX10_chance_26 (by decide) ?_
      refine lv_lstore_n (lv' := [(3, .long 0), (0, .ref a_y), (1, .int p1), (2, .int p2)]) hx hb dX10_chance_27 rfl hl (by decide) rfl (fun ls hl => ?_)
      refine lv_iconst (v := 0) hx hb dX10_chance_28 (by decide) ?_
      refine lv_istore (lv' := [(5, .int 0), (3, .long 0), (0, .ref a_y), (1, .int p1), (2, .int p2)]) hx hb dX10_chance_29 hl (by decide) rfl (fun ls hl => ?_)
      obtain ⟨e31, he31, hs⟩ := bd_s hs
      have hX31 : ∀ (H : Heap) (locs : List Loc) (ls : Array Slot), va_P (dC, dI) vwCl [(a_y, .inr (10, [.int y_n, .ref a_y_list, .int y_sets, .ref a_y_others, .int y_otherMany, .ref a_y_costs, .long y_above, .long y_below, .ref a_y_table, .long y_by, .ref a_y_basis, .ref a_y_isSeen, .ref a_y_colour, .ref a_y_rest, .ref a_y_makes, .ref a_y_worst])), (a_y_list, .inl (c_y_list, 16, .inl y_list))] H → va_D A [(a_y, .inr (10, [.int y_n, .ref a_y_list, .int y_sets, .ref a_y_others, .int y_otherMany, .ref a_y_costs, .long y_above, .long y_below, .ref a_y_table, .long y_by, .ref a_y_basis, .ref a_y_isSeen, .ref a_y_colour, .ref a_y_rest, .ref a_y_makes, .ref a_y_worst])), (a_y_list, .inl (c_y_list, 16, .inl y_list))] → va_S A s.heap H locs → lv_has ls 7 [(0, .ref a_y), (2, .int p2), (3, .long e31)] → Z H locs 0 0 (F0 m 91 ls []) := by
        intro H locs ls hP hD hS hl
        refine hZv ?_
        refine lv_aload_n hx hb dX10_chance_91 rfl (lv_at hl 0 rfl) ?_
        refine lv_lload_n hx hb dX10_chance_92 rfl (lv_at hl 2 rfl) ?_
        refine lv_iload_n hx hb dX10_chance_93 rfl (lv_at hl 1 rfl) ?_
        refine lv_i2l (v := p2.toInt64) hx hb dX10_chance_94 rfl ?_
        refine lv_aload_n hx hb dX10_chance_95 rfl (lv_at hl 0 rfl) ?_
        refine va_get (D := (dC, dI)) (ci := 10) (v := .int y_n) (C := RX10) (T := TX10) (N := 16) hx hb hts hiX10 hown hK hP 0 rfl rfl 0 (by decide) hf43 (fun _ h9 => h9) rfl dX10_chance_96 ?_
        obtain ⟨r9, hr9, hs⟩ := bd_s hs
        refine kc_l (isC := []) (isR := [0, 1]) (pm := [0, 1]) (wr := [(a_y, .inr (10, [.int y_n, .ref a_y_list, .int y_sets, .ref a_y_others, .int y_otherMany, .ref a_y_costs, .long y_above, .long y_below, .ref a_y_table, .long y_by, .ref a_y_basis, .ref a_y_isSeen, .ref a_y_colour, .ref a_y_rest, .ref a_y_makes, .ref a_y_worst])), (a_y_list, .inl (c_y_list, 16, .inl y_list))]) (w1 := []) (w2 := [(a_y, .inr (10, [.int y_n, .ref a_y_list, .int y_sets, .ref a_y_others, .int y_otherMany, .ref a_y_costs, .long y_above, .long y_below, .ref a_y_table, .long y_by, .ref a_y_basis, .ref a_y_isSeen, .ref a_y_colour, .ref a_y_rest, .ref a_y_makes, .ref a_y_worst])), (a_y_list, .inl (c_y_list, 16, .inl y_list))]) (va_runS (As := [.long p2.toInt64, .int y_n]) (rest := [.long e31, .ref a_y]) ⟨hx, hb, hml, hown, hts⟩ (c_X10_power l dC dI H.size p2.toInt64 y_n r9 hr9) (va_cwS 2 hts gX10_chance_X10_power rfl rfl rfl (by decide +kernel) ⟨Nat.le_of_ble_eq_true rfl, Nat.le_of_ble_eq_true rfl⟩) (kp_S hK hP hD hS hA hN (isC := []) (isT := []) (wc := []) rfl (by decide +kernel) rfl) rfl rfl hl.1 rfl (lv_room (Nat.le_of_ble_eq_true rfl)) dX10_chance_99 ⟨Nat.le_of_ble_eq_true rfl, Nat.le_of_ble_eq_true rfl⟩) hP hD hS hA rfl rfl (by decide +kernel) (by decide +kernel) rfl (by decide +kernel) (fun H locs hP hD hS => ?_)
        obtain ⟨r10, hr10, hs⟩ := bd_s hs
        refine kc_i (isC := [0]) (isR := [1]) (pm := [1, 0]) (wr := [(a_y_list, .inl (c_y_list, 16, .inl y_list))]) (w1 := [(a_y, .inr (10, [.int y_n, .ref a_y_list, .int y_sets, .ref a_y_others, .int y_otherMany, .ref a_y_costs, .long r10.2.1, .long r10.2.2, .ref a_y_table, .long y_by, .ref a_y_basis, .ref a_y_isSeen, .ref a_y_colour, .ref a_y_rest, .ref a_y_makes, .ref a_y_worst]))]) (w2 := [(a_y, .inr (10, [.int y_n, .ref a_y_list, .int y_sets, .ref a_y_others, .int y_otherMany, .ref a_y_costs, .long r10.2.1, .long r10.2.2, .ref a_y_table, .long y_by, .ref a_y_basis, .ref a_y_isSeen, .ref a_y_colour, .ref a_y_rest, .ref a_y_makes, .ref a_y_worst])), (a_y_list, .inl (c_y_list, 16, .inl y_list))]) (va_runV (As := [.long e31, .long r9]) (rest := []) ⟨hx, hb, hml, hown, hts⟩ (c_X10_tells l dC dI a_y a_y_list a_y_others a_y_costs a_y_table a_y_basis a_y_isSeen a_y_colour a_y_rest a_y_makes a_y_worst H.size y_n y_sets y_otherMany y_above y_below y_by e31 r9 r10 hr10) (cwV 2 hts gX10_chance_X10_tells rfl rfl rfl (by decide +kernel) ⟨Nat.le_of_ble_eq_true rfl, Nat.le_of_ble_eq_true rfl⟩) (kp_V hK hP hD hS hA hN (isC := [0]) (isT := []) (wc := [(a_y, .inr (10, [.int y_n, .ref a_y_list, .int y_sets, .ref a_y_others, .int y_otherMany, .ref a_y_costs, .long y_above, .long y_below, .ref a_y_table, .long y_by, .ref a_y_basis, .ref a_y_isSeen, .ref a_y_colour, .ref a_y_rest, .ref a_y_makes, .ref a_y_worst]))]) rfl (by decide +kernel) rfl (ci := 10) (q0 := 0) rfl rfl) rfl rfl hl.1 rfl (lv_room (Nat.le_of_ble_eq_true rfl)) dX10_chance_102 ⟨Nat.le_of_ble_eq_true rfl, Nat.le_of_ble_eq_true rfl⟩) hP hD hS hA rfl rfl (by decide +kernel) (by decide +kernel) rfl (by decide +kernel) (fun H locs hP hD hS => ?_)
        replace hs := Option.some.inj hs
        subst hs
        exact W.iret (v := r10.1) hx hb hr (fun t ht hW => ⟨⟨r10.1, (), rfl, rfl, by rw [ht]; exact hP, va_K.moved hW.alike hK, hD⟩, hS.F ht⟩) hS.2.2 dX10_chance_105
      clear hs
      have hL31 : ∀ (n : Nat) (s31 : Int64 × Int32) (H : Heap) (locs : List Loc) (ls : Array Slot), itr (pX10_chance_L31 y_n y_sets y_list p1 p2) n s31 = some e31 → va_P (dC, dI) vwCl [(a_y, .inr (10, [.int y_n, .ref a_y_list, .int y_sets, .ref a_y_others, .int y_otherMany, .ref a_y_costs, .long y_above, .long y_below, .ref a_y_table, .long y_by, .ref a_y_basis, .ref a_y_isSeen, .ref a_y_colour, .ref a_y_rest, .ref a_y_makes, .ref a_y_worst])), (a_y_list, .inl (c_y_list, 16, .inl y_list))] H → va_D A [(a_y, .inr (10, [.int y_n, .ref a_y_list, .int y_sets, .ref a_y_others, .int y_otherMany, .ref a_y_costs, .long y_above, .long y_below, .ref a_y_table, .long y_by, .ref a_y_basis, .ref a_y_isSeen, .ref a_y_colour, .ref a_y_rest, .ref a_y_makes, .ref a_y_worst])), (a_y_list, .inl (c_y_list, 16, .inl y_list))] → va_S A s.heap H locs → lv_has ls 7 [(0, .ref a_y), (1, .int p1), (2, .int p2), (3, .long s31.1), (5, .int s31.2)] → Z H locs 0 0 (F0 m 31 ls []) := by
        intro n
        induction n with
        | zero =>
          intro s31 H locs ls hn
          exact (itr_0 hn).elim
        | succ n ih =>
          intro s31 H locs ls hn hP hD hS hl
          obtain ⟨y3, hs, hn⟩ := itr_s hn
          unfold pX10_chance_L31 at hs
          refine hZv ?_
          refine lv_iload hx hb dX10_chance_31 (lv_at hl 4 rfl) ?_
          refine lv_aload_n hx hb dX10_chance_33 rfl (lv_at hl 0 rfl) ?_
          obtain ⟨r4, hr4, hs⟩ := bd_s hs
          refine kc_i (isC := [0]) (isR := [1]) (pm := [1, 0]) (wr := [(a_y_list, .inl (c_y_list, 16, .inl y_list))]) (w1 := [(a_y, .inr (10, [.int y_n, .ref a_y_list, .int y_sets, .ref a_y_others, .int y_otherMany, .ref a_y_costs, .long y_above, .long y_below, .ref a_y_table, .long y_by, .ref a_y_basis, .ref a_y_isSeen, .ref a_y_colour, .ref a_y_rest, .ref a_y_makes, .ref a_y_worst]))]) (w2 := [(a_y, .inr (10, [.int y_n, .ref a_y_list, .int y_sets, .ref a_y_others, .int y_otherMany, .ref a_y_costs, .long y_above, .long y_below, .ref a_y_table, .long y_by, .ref a_y_basis, .ref a_y_isSeen, .ref a_y_colour, .ref a_y_rest, .ref a_y_makes, .ref a_y_worst])), (a_y_list, .inl (c_y_list, 16, .inl y_list))]) (va_runV (As := []) (rest := [.int s31.2]) ⟨hx, hb, hml, hown, hts⟩ (c_X10_all l dC dI a_y a_y_list a_y_others a_y_costs a_y_table a_y_basis a_y_isSeen a_y_colour a_y_rest a_y_makes a_y_worst H.size y_n y_sets y_otherMany y_above y_below y_by r4 hr4) (cwV 0 hts gX10_chance_X10_all rfl rfl rfl (by decide +kernel) ⟨Nat.le_of_ble_eq_true rfl, Nat.le_of_ble_eq_true rfl⟩) (kp_V hK hP hD hS hA hN (isC := [0]) (isT := []) (wc := [(a_y, .inr (10, [.int y_n, .ref a_y_list, .int y_sets, .ref a_y_others, .int y_otherMany, .ref a_y_costs, .long y_above, .long y_below, .ref a_y_table, .long y_by, .ref a_y_basis, .ref a_y_isSeen, .ref a_y_colour, .ref a_y_rest, .ref a_y_makes, .ref a_y_worst]))]) rfl (by decide +kernel) rfl (ci := 10) (q0 := 0) rfl rfl) rfl rfl hl.1 rfl (lv_room (Nat.le_of_ble_eq_true rfl)) dX10_chance_34 ⟨Nat.le_of_ble_eq_true rfl, Nat.le_of_ble_eq_true rfl⟩) hP hD hS hA rfl rfl (by decide +kernel) (by decide +kernel) rfl (by decide +kernel) (fun H locs hP hD hS => ?_)
          refine lv_icmp_gt (tgt := 91) hx hb dX10_chance_37 (by decide) (fun hc => ?_) (fun hc => ?_)
          · replace hs := it_t hc hs
            replace hs := Option.some.inj hs
            subst hs
            obtain rfl : s31.1 = e31 := hn
            exact hZw (hX31 H locs ls hP hD hS (lv_sub hl [0, 2, 3] rfl))
          · replace hs := it_f hc hs
            refine lv_iload hx hb dX10_chance_40 (lv_at hl 4 rfl) ?_
            obtain ⟨r5, hr5, hs⟩ := bd_s hs
            refine kc_i (isC := []) (isR := [0, 1]) (pm := [0, 1]) (wr := [(a_y, .inr (10, [.int y_n, .ref a_y_list, .int y_sets, .ref a_y_others, .int y_otherMany, .ref a_y_costs, .long y_above, .long y_below, .ref a_y_table, .long y_by, .ref a_y_basis, .ref a_y_isSeen, .ref a_y_colour, .ref a_y_rest, .ref a_y_makes, .ref a_y_worst])), (a_y_list, .inl (c_y_list, 16, .inl y_list))]) (w1 := []) (w2 := [(a_y, .inr (10, [.int y_n, .ref a_y_list, .int y_sets, .ref a_y_others, .int y_otherMany, .ref a_y_costs, .long y_above, .long y_below, .ref a_y_table, .long y_by, .ref a_y_basis, .ref a_y_isSeen, .ref a_y_colour, .ref a_y_rest, .ref a_y_makes, .ref a_y_worst])), (a_y_list, .inl (c_y_list, 16, .inl y_list))]) (va_runS (As := [.int s31.2]) (rest := []) ⟨hx, hb, hml, hown, hts⟩ (c_X10_sizeOf l dC dI H.size s31.2 r5 hr5) (va_cwS 1 hts gX10_chance_X10_sizeOf rfl rfl rfl (by decide +kernel) ⟨Nat.le_of_ble_eq_true rfl, Nat.le_of_ble_eq_true rfl⟩) (kp_S hK hP hD hS hA hN (isC := []) (isT := []) (wc := []) rfl (by decide +kernel) rfl) rfl rfl hl.1 rfl (lv_room (Nat.le_of_ble_eq_true rfl)) dX10_chance_42 ⟨Nat.le_of_ble_eq_true rfl, Nat.le_of_ble_eq_true rfl⟩) hP hD hS hA rfl rfl (by decide +kernel) (by decide +kernel) rfl (by decide +kernel) (fun H locs hP hD hS => ?_)
            refine lv_istore (lv' := [(6, .int r5), (0, .ref a_y), (1, .int p1), (2, .int p2), (3, .long s31.1), (5, .int s31.2)]) hx hb dX10_chance_45 hl (by decide) rfl (fun ls hl => ?_)
            refine lv_lload_n hx hb dX10_chance_47 rfl (lv_at hl 4 rfl) ?_
            refine lv_aload_n hx hb dX10_chance_48 rfl (lv_at hl 1 rfl) ?_
            refine lv_iload hx hb dX10_chance_49 (lv_at hl 5 rfl) ?_
            obtain ⟨r6, hr6, hs⟩ := bd_s hs
            refine kc_i (isC := [0, 1]) (isR := []) (pm := [0, 1]) (wr := []) (w1 := [(a_y, .inr (10, [.int y_n, .ref a_y_list, .int y_sets, .ref a_y_others, .int y_otherMany, .ref a_y_costs, .long y_above, .long y_below, .ref a_y_table, .long y_by, .ref a_y_basis, .ref a_y_isSeen, .ref a_y_colour, .ref a_y_rest, .ref a_y_makes, .ref a_y_worst])), (a_y_list, .inl (c_y_list, 16, .inl y_list))]) (w2 := [(a_y, .inr (10, [.int y_n, .ref a_y_list, .int y_sets, .ref a_y_others, .int y_otherMany, .ref a_y_costs, .long y_above, .long y_below, .ref a_y_table, .long y_by, .ref a_y_basis, .ref a_y_isSeen, .ref a_y_colour, .ref a_y_rest, .ref a_y_makes, .ref a_y_worst])), (a_y_list, .inl (c_y_list, 16, .inl y_list))]) (va_runV (As := [.int s31.2]) (rest := [.long s31.1]) ⟨hx, hb, hml, hown, hts⟩ (c_X10_meets l dC dI a_y a_y_list a_y_others a_y_costs a_y_table a_y_basis a_y_isSeen a_y_colour a_y_rest a_y_makes a_y_worst c_y_list H.size y_n y_sets y_otherMany y_above y_below y_by y_list s31.2 r6 hr6) (cwV 1 hts gX10_chance_X10_meets rfl rfl rfl (by decide +kernel) ⟨Nat.le_of_ble_eq_true rfl, Nat.le_of_ble_eq_true rfl⟩) (kp_V hK hP hD hS hA hN (isC := [0, 1]) (isT := [0]) (wc := [(a_y, .inr (10, [.int y_n, .ref a_y_list, .int y_sets, .ref a_y_others, .int y_otherMany, .ref a_y_costs, .long y_above, .long y_below, .ref a_y_table, .long y_by, .ref a_y_basis, .ref a_y_isSeen, .ref a_y_colour, .ref a_y_rest, .ref a_y_makes, .ref a_y_worst])), (a_y_list, .inl (c_y_list, 16, .inl y_list))]) rfl (by decide +kernel) rfl (ci := 10) (q0 := 0) rfl rfl) rfl rfl hl.1 rfl (lv_room (Nat.le_of_ble_eq_true rfl)) dX10_chance_51 ⟨Nat.le_of_ble_eq_true rfl, Nat.le_of_ble_eq_true rfl⟩) hP hD hS hA rfl rfl (by decide +kernel) (by decide +kernel) rfl (by decide +kernel) (fun H locs hP hD hS => ?_)
            obtain ⟨t83, hq83, hs⟩ := bd_s hs
            have hJ83 : ∀ (H : Heap) (locs : List Loc) (ls : Array Slot), va_P (dC, dI) vwCl [(a_y, .inr (10, [.int y_n, .ref a_y_list, .int y_sets, .ref a_y_others, .int y_otherMany, .ref a_y_costs, .long y_above, .long y_below, .ref a_y_table, .long y_by, .ref a_y_basis, .ref a_y_isSeen, .ref a_y_colour, .ref a_y_rest, .ref a_y_makes, .ref a_y_worst])), (a_y_list, .inl (c_y_list, 16, .inl y_list))] H → va_D A [(a_y, .inr (10, [.int y_n, .ref a_y_list, .int y_sets, .ref a_y_others, .int y_otherMany, .ref a_y_costs, .long y_above, .long y_below, .ref a_y_table, .long y_by, .ref a_y_basis, .ref a_y_isSeen, .ref a_y_colour, .ref a_y_rest, .ref a_y_makes, .ref a_y_worst])), (a_y_list, .inl (c_y_list, 16, .inl y_list))] → va_S A s.heap H locs → lv_has ls 7 [(0, .ref a_y), (1, .int p1), (2, .int p2), (5, .int s31.2)] → Z H locs 0 0 (F0 m 83 ls [.long t83, .long s31.1]) := by
              intro H locs ls hP hD hS hl
              refine hZv ?_
              refine lv_ladd hx hb dX10_chance_83 ?_
              refine lv_lstore_n (lv' := [(3, .long (s31.1 + t83)), (0, .ref a_y), (1, .int p1), (2, .int p2), (5, .int s31.2)]) hx hb dX10_chance_84 rfl hl (by decide) rfl (fun ls hl => ?_)
              refine lv_iinc (v := s31.2 + 1) (lv' := [(5, .int (s31.2 + 1)), (3, .long (s31.1 + t83)), (0, .ref a_y), (1, .int p1), (2, .int p2)]) hx hb dX10_chance_85 hl (k := 4) rfl (by rfl) (by decide) rfl (fun ls hl => ?_)
              refine lv_goto (tgt := 31) hx hb dX10_chance_88 (by decide) ?_
              replace hs := Option.some.inj hs
              subst hs
              exact hZw (ih (s31.1 + t83, s31.2 + 1) H locs ls hn hP hD hS (lv_sub hl [2, 3, 4, 1, 0] rfl))
            clear hs
            have hs := hq83
            refine lv_if_eq (tgt := 82) hx hb dX10_chance_54 (by decide) (fun hc => ?_) (fun hc => ?_)
            · replace hs := it_t hc hs
              refine lv_lconst (v := 0) hx hb dX10_chance_82 (by decide) ?_
              replace hs := Option.some.inj hs
              subst hs
              exact hZw (hJ83 H locs ls hP hD hS (lv_sub hl [1, 2, 3, 5] rfl))
            · replace hs := it_f hc hs
              refine lv_iload_n hx hb dX10_chance_57 rfl (lv_at hl 2 rfl) ?_
              refine lv_i2l (v := p1.toInt64) hx hb dX10_chance_58 rfl ?_
              refine lv_iload hx hb dX10_chance_59 (lv_at hl 0 rfl) ?_
              obtain ⟨r7, hr7, hs⟩ := bd_s hs
              refine kc_l (isC := []) (isR := [0, 1]) (pm := [0, 1]) (wr := [(a_y, .inr (10, [.int y_n, .ref a_y_list, .int y_sets, .ref a_y_others, .int y_otherMany, .ref a_y_costs, .long y_above, .long y_below, .ref a_y_table, .long y_by, .ref a_y_basis, .ref a_y_isSeen, .ref a_y_colour, .ref a_y_rest, .ref a_y_makes, .ref a_y_worst])), (a_y_list, .inl (c_y_list, 16, .inl y_list))]) (w1 := []) (w2 := [(a_y, .inr (10, [.int y_n, .ref a_y_list, .int y_sets, .ref a_y_others, .int y_otherMany, .ref a_y_costs, .long y_above, .long y_below, .ref a_y_table, .long y_by, .ref a_y_basis, .ref a_y_isSeen, .ref a_y_colour, .ref a_y_rest, .ref a_y_makes, .ref a_y_worst])), (a_y_list, .inl (c_y_list, 16, .inl y_list))]) (va_runS (As := [.long p1.toInt64, .int r5]) (rest := [.long s31.1]) ⟨hx, hb, hml, hown, hts⟩ (c_X10_power l dC dI H.size p1.toInt64 r5 r7 hr7) (va_cwS 2 hts gX10_chance_X10_power rfl rfl rfl (by decide +kernel) ⟨Nat.le_of_ble_eq_true rfl, Nat.le_of_ble_eq_true rfl⟩) (kp_S hK hP hD hS hA hN (isC := []) (isT := []) (wc := []) rfl (by decide +kernel) rfl) rfl rfl hl.1 rfl (lv_room (Nat.le_of_ble_eq_true rfl)) dX10_chance_61 ⟨Nat.le_of_ble_eq_true rfl, Nat.le_of_ble_eq_true rfl⟩) hP hD hS hA rfl rfl (by decide +kernel) (by decide +kernel) rfl (by decide +kernel) (fun H locs hP hD hS => ?_)
              refine lv_iload_n hx hb dX10_chance_64 rfl (lv_at hl 3 rfl) ?_
              refine lv_iload_n hx hb dX10_chance_65 rfl (lv_at hl 2 rfl) ?_
              refine lv_isub hx hb dX10_chance_66 ?_
              refine lv_i2l (v := (p2 - p1).toInt64) hx hb dX10_chance_67 rfl ?_
              refine lv_aload_n hx hb dX10_chance_68 rfl (lv_at hl 1 rfl) ?_
              refine va_get (D := (dC, dI)) (ci := 10) (v := .int y_n) (C := RX10) (T := TX10) (N := 16) hx hb hts hiX10 hown hK hP 0 rfl rfl 0 (by decide) hf43 (fun _ h9 => h9) rfl dX10_chance_69 ?_
              refine lv_iload hx hb dX10_chance_72 (lv_at hl 0 rfl) ?_
              refine lv_isub hx hb dX10_chance_74 ?_
              obtain ⟨r8, hr8, hs⟩ := bd_s hs
              refine kc_l (isC := []) (isR := [0, 1]) (pm := [0, 1]) (wr := [(a_y, .inr (10, [.int y_n, .ref a_y_list, .int y_sets, .ref a_y_others, .int y_otherMany, .ref a_y_costs, .long y_above, .long y_below, .ref a_y_table, .long y_by, .ref a_y_basis, .ref a_y_isSeen, .ref a_y_colour, .ref a_y_rest, .ref a_y_makes, .ref a_y_worst])), (a_y_list, .inl (c_y_list, 16, .inl y_list))]) (w1 := []) (w2 := [(a_y, .inr (10, [.int y_n, .ref a_y_list, .int y_sets, .ref a_y_others, .int y_otherMany, .ref a_y_costs, .long y_above, .long y_below, .ref a_y_table, .long y_by, .ref a_y_basis, .ref a_y_isSeen, .ref a_y_colour, .ref a_y_rest, .ref a_y_makes, .ref a_y_worst])), (a_y_list, .inl (c_y_list, 16, .inl y_list))]) (va_runS (As := [.long ((p2 - p1).toInt64), .int (y_n - r5)]) (rest := [.long r7, .long s31.1]) ⟨hx, hb, hml, hown, hts⟩ (c_X10_power l dC dI H.size ((p2 - p1).toInt64) (y_n - r5) r8 hr8) (va_cwS 2 hts gX10_chance_X10_power rfl rfl rfl (by decide +kernel) ⟨Nat.le_of_ble_eq_true rfl, Nat.le_of_ble_eq_true rfl⟩) (kp_S hK hP hD hS hA hN (isC := []) (isT := []) (wc := []) rfl (by decide +kernel) rfl) rfl rfl hl.1 rfl (lv_room (Nat.le_of_ble_eq_true rfl)) dX10_chance_75 ⟨Nat.le_of_ble_eq_true rfl, Nat.le_of_ble_eq_true rfl⟩) hP hD hS hA rfl rfl (by decide +kernel) (by decide +kernel) rfl (by decide +kernel) (fun H locs hP hD hS => ?_)
              refine lv_lmul hx hb dX10_chance_78 ?_
              refine lv_goto (tgt := 83) hx hb dX10_chance_79 (by decide) ?_
              replace hs := Option.some.inj hs
              subst hs
              exact hZw (hJ83 H locs ls hP hD hS (lv_sub hl [1, 2, 3, 5] rfl))
      obtain ⟨n31, hn31⟩ := lp_ex he31
      exact hZw (hL31 n31 (0, 0) H locs ls hn31 hP hD hS (lv_sub hl [2, 3, 4, 1, 0] rfl))
    · replace hs := it_t hc hs
      refine lv_bipush (v := (-2)) hx hb dX10_chance_23 (by decide) ?_
      replace hs := Option.some.inj hs
      subst hs
      exact W.iret (v := (-2)) hx hb hr (fun t ht hW => ⟨⟨(-2), (), rfl, rfl, by rw [ht]; exact hP, va_K.moved hW.alike hK, hD⟩, hS.F ht⟩) hS.2.2 dX10_chance_25
noncomputable def pX10_swings_J56_4 (t56 : Unit) : Option (Int32) :=
  some 0
noncomputable def pX10_swings_L15 (y_n : Int32) (y_sets : Int32) (y_list : Nat → Int32) (p1 : Int32) (s15 : Int32 × Int32) : Option ((Int32 × Int32) ⊕ (Int32)) :=
  Option.bind (pX10_all y_n) (fun r3 => if r3 < s15.2 then (some (Sum.inr s15.1)) else (Option.bind (if ((s15.2 >>> (p1 &&& 31)) &&& 1) = 0 then (Option.bind (pX10_meets y_sets y_list s15.2) (fun r5 => if r5 = 0 then (Option.bind (pX10_meets y_sets y_list (s15.2 ||| (1 <<< (p1 &&& 31)))) (fun r6 => if r6 = 0 then (pX10_swings_J56_4 ()) else (some 1))) else (pX10_swings_J56_4 ()))) else (pX10_swings_J56_4 ()) : Option (Int32)) (fun t57 => some (Sum.inl (s15.1 + t57, s15.2 + 1)))))
noncomputable def pX10_swings (y_n : Int32) (y_sets : Int32) (y_list : Nat → Int32) (p1 : Int32) : Option (Int32) :=
  Option.bind (pX10_isElement y_n p1) (fun r1 => if r1 = 0 then (some (-2)) else (Option.bind (lp (pX10_swings_L15 y_n y_sets y_list p1) (0, 0)) (fun e15 => some e15)))
set_option maxHeartbeats 4000000 in
set_option maxRecDepth 100000 in
theorem c_X10_swings (l : Launch) (dC : Nat → ClassId) (dI : Nat → Nat → Nat) (a_y : Nat) (a_y_list : Nat) (a_y_others : Nat) (a_y_costs : Nat) (a_y_table : Nat) (a_y_basis : Nat) (a_y_isSeen : Nat) (a_y_colour : Nat) (a_y_rest : Nat) (a_y_makes : Nat) (a_y_worst : Nat) (c_y_list : ClassId) (sz : Nat) (y_n : Int32) (y_sets : Int32) (y_otherMany : Int32) (y_above : Int64) (y_below : Int64) (y_by : Int64) (y_list : Nat → Int32) (p1 : Int32) (rv : Int32) (hs : pX10_swings y_n y_sets y_list p1 = some rv) : Met l yX10_swings wsX10_swings ({ frames := 2, cells := 0, slots := 0, locals := 46 }) (sPc [.ref a_y, .int p1] (dC, dI) [(c_y_list, .int)] [(a_y, .inr (10, [.int y_n, .ref a_y_list, .int y_sets, .ref a_y_others, .int y_otherMany, .ref a_y_costs, .long y_above, .long y_below, .ref a_y_table, .long y_by, .ref a_y_basis, .ref a_y_isSeen, .ref a_y_colour, .ref a_y_rest, .ref a_y_makes, .ref a_y_worst])), (a_y_list, .inl (c_y_list, 16, .inl y_list))] sz) (va_Qi (fun (r : Int32) (_ : Unit) => r = rv) (sB (dC, dI) [(c_y_list, .int)] (va_A [(a_y, .inr (10, [.int y_n, .ref a_y_list, .int y_sets, .ref a_y_others, .int y_otherMany, .ref a_y_costs, .long y_above, .long y_below, .ref a_y_table, .long y_by, .ref a_y_basis, .ref a_y_isSeen, .ref a_y_colour, .ref a_y_rest, .ref a_y_makes, .ref a_y_worst])), (a_y_list, .inl (c_y_list, 16, .inl y_list))] sz) [(a_y, .inr (10, [.int y_n, .ref a_y_list, .int y_sets, .ref a_y_others, .int y_otherMany, .ref a_y_costs, .long y_above, .long y_below, .ref a_y_table, .long y_by, .ref a_y_basis, .ref a_y_isSeen, .ref a_y_colour, .ref a_y_rest, .ref a_y_makes, .ref a_y_worst])), (a_y_list, .inl (c_y_list, 16, .inl y_list))]) (va_A [(a_y, .inr (10, [.int y_n, .ref a_y_list, .int y_sets, .ref a_y_others, .int y_otherMany, .ref a_y_costs, .long y_above, .long y_below, .ref a_y_table, .long y_by, .ref a_y_basis, .ref a_y_isSeen, .ref a_y_colour, .ref a_y_rest, .ref a_y_makes, .ref a_y_worst])), (a_y_list, .inl (c_y_list, 16, .inl y_list))] sz)) 0 0 (va_A [(a_y, .inr (10, [.int y_n, .ref a_y_list, .int y_sets, .ref a_y_others, .int y_otherMany, .ref a_y_costs, .long y_above, .long y_below, .ref a_y_table, .long y_by, .ref a_y_basis, .ref a_y_isSeen, .ref a_y_colour, .ref a_y_rest, .ref a_y_makes, .ref a_y_worst])), (a_y_list, .inl (c_y_list, 16, .inl y_list))] sz) := by
  refine Met.ofW (cc := cX10_swings) (maxL := 4) (ret := (some .int)) (by decide) rfl ?_
  intro p e s m args below meth c s₁ B hml hv
  obtain ⟨rfl, hsz, hP, hK, hD0, hN⟩ := hv
  have hx := B.exec
  have hb := B.bytes
  have hr := B.returns
  have hts := atoms_spec (ws := wsX10_swings) B.pre
  have hown : s.vm.findClass RX10 = some m.cls := findClass_of_methodNamed B.named
  have hlocks := B.notSynchronized
  subst hsz
  have hD := hD0.self (sz := s.heap.size)
  generalize hAe : va_A [(a_y, .inr (10, [.int y_n, .ref a_y_list, .int y_sets, .ref a_y_others, .int y_otherMany, .ref a_y_costs, .long y_above, .long y_below, .ref a_y_table, .long y_by, .ref a_y_basis, .ref a_y_isSeen, .ref a_y_colour, .ref a_y_rest, .ref a_y_makes, .ref a_y_worst])), (a_y_list, .inl (c_y_list, 16, .inl y_list))] s.heap.size = A at hD hN ⊢
  have hA : ∀ q : Nat, s.heap.size ≤ q → A q := fun q h => by rw [← hAe]; exact Or.inr h
  have hS : va_S A s.heap s.heap [] := va_S.rf
  have hP : va_P (dC, dI) vwCl [(a_y, .inr (10, [.int y_n, .ref a_y_list, .int y_sets, .ref a_y_others, .int y_otherMany, .ref a_y_costs, .long y_above, .long y_below, .ref a_y_table, .long y_by, .ref a_y_basis, .ref a_y_isSeen, .ref a_y_colour, .ref a_y_rest, .ref a_y_makes, .ref a_y_worst])), (a_y_list, .inl (c_y_list, 16, .inl y_list))] s.heap := hP
  have hl := lv_entry ([.ref a_y, .int p1]) (n := 4) (Nat.le_of_ble_eq_true rfl)
  rw [lg_entry_eq]
  generalize (lg_sl ([.ref a_y, .int p1]) ++ List.replicate (4 - (lg_sl ([.ref a_y, .int p1])).length) Slot.unset).toArray = ls at hl ⊢
  have hl : lv_has ls 4 [(0, .ref a_y), (1, .int p1)] := hl
  refine w_abs (fun Z hZv hZw => ?_)
  refine hZv ?_
  obtain ⟨H, hH⟩ : ∃ H, H = s.heap := ⟨_, rfl⟩
  obtain ⟨locs, hlo⟩ : ∃ L : List Loc, L = [] := ⟨_, rfl⟩
  rw [← hlo, ← hH]
  have hS : va_S A s.heap H locs := by rw [hlo, hH]; exact hS
  have hP : va_P (dC, dI) vwCl [(a_y, .inr (10, [.int y_n, .ref a_y_list, .int y_sets, .ref a_y_others, .int y_otherMany, .ref a_y_costs, .long y_above, .long y_below, .ref a_y_table, .long y_by, .ref a_y_basis, .ref a_y_isSeen, .ref a_y_colour, .ref a_y_rest, .ref a_y_makes, .ref a_y_worst])), (a_y_list, .inl (c_y_list, 16, .inl y_list))] H := by rw [hH]; exact hP
  clear hH hlo
  unfold pX10_swings at hs
  refine lv_aload_n hx hb dX10_swings_0 rfl (lv_at hl 0 rfl) ?_
  refine lv_iload_n hx hb dX10_swings_1 rfl (lv_at hl 1 rfl) ?_
  obtain ⟨r1, hr1, hs⟩ := bd_s hs
  refine kc_i (isC := [0]) (isR := [1]) (pm := [1, 0]) (wr := [(a_y_list, .inl (c_y_list, 16, .inl y_list))]) (w1 := [(a_y, .inr (10, [.int y_n, .ref a_y_list, .int y_sets, .ref a_y_others, .int y_otherMany, .ref a_y_costs, .long y_above, .long y_below, .ref a_y_table, .long y_by, .ref a_y_basis, .ref a_y_isSeen, .ref a_y_colour, .ref a_y_rest, .ref a_y_makes, .ref a_y_worst]))]) (w2 := [(a_y, .inr (10, [.int y_n, .ref a_y_list, .int y_sets, .ref a_y_others, .int y_otherMany, .ref a_y_costs, .long y_above, .long y_below, .ref a_y_table, .long y_by, .ref a_y_basis, .ref a_y_isSeen, .ref a_y_colour, .ref a_y_rest, .ref a_y_makes, .ref a_y_worst])), (a_y_list, .inl (c_y_list, 16, .inl y_list))]) (va_runV (As := [.int p1]) (rest := []) ⟨hx, hb, hml, hown, hts⟩ (c_X10_isElement l dC dI a_y a_y_list a_y_others a_y_costs a_y_table a_y_basis a_y_isSeen a_y_colour a_y_rest a_y_makes a_y_worst H.size y_n y_sets y_otherMany y_above y_below y_by p1 r1 hr1) (cwV 1 hts gX10_swings_X10_isElement rfl rfl rfl (by decide +kernel) ⟨Nat.le_of_ble_eq_true rfl, Nat.le_of_ble_eq_true rfl⟩) (kp_V hK hP hD hS hA hN (isC := [0]) (isT := []) (wc := [(a_y, .inr (10, [.int y_n, .ref a_y_list, .int y_sets, .ref a_y_others, .int y_otherMany, .ref a_y_costs, .long y_above, .long y_below, .ref a_y_table, .long y_by, .ref a_y_basis, .ref a_y_isSeen, .ref a_y_colour, .ref a_y_rest, .ref a_y_makes, .ref a_y_worst]))]) rfl (by decide +kernel) rfl (ci := 10) (q0 := 0) rfl rfl) rfl rfl hl.1 rfl (lv_room (Nat.le_of_ble_eq_true rfl)) dX10_swings_2 ⟨Nat.le_of_ble_eq_true rfl, Nat.le_of_ble_eq_true rfl⟩) hP hD hS hA rfl rfl (by decide +kernel) (by decide +kernel) rfl (by decide +kernel) (fun H locs hP hD hS => ?_)
  refine lv_if_ne (tgt := 11) hx hb dX10_swings_5 (by decide) (fun hc => ?_) (fun hc => ?_)
  · replace hs := it_f hc hs
    refine lv_iconst (v := 0) hx hb dX10_swings_11 (by decide) ?_
    refine lv_istore_n (lv' := [(2, .int 0), (0, .ref a_y), (1, .int p1)]) hx hb dX10_swings_12 rfl hl (by decide) rfl (fun ls hl => ?_)
    refine lv_iconst (v := 0) hx hb dX10_swings_13 (by decide) ?_
    refine lv_istore_n (lv' := [(3, .int 0), (2, .int 0), (0, .ref a_y), (1, .int p1)]) hx hb dX10_swings_14 rfl hl (by decide) rfl (fun ls hl => ?_)
    obtain ⟨e15, he15, hs⟩ := bd_s hs
    have hX15 : ∀ (H : Heap) (locs : List Loc) (ls : Array Slot), va_P (dC, dI) vwCl [(a_y, .inr (10, [.int y_n, .ref a_y_list, .int y_sets, .ref a_y_others, .int y_otherMany, .ref a_y_costs, .long y_above, .long y_below, .ref a_y_table, .long y_by, .ref a_y_basis, .ref a_y_isSeen, .ref a_y_colour, .ref a_y_rest, .ref a_y_makes, .ref a_y_worst])), (a_y_list, .inl (c_y_list, 16, .inl y_list))] H → va_D A [(a_y, .inr (10, [.int y_n, .ref a_y_list, .int y_sets, .ref a_y_others, .int y_otherMany, .ref a_y_costs, .long y_above, .long y_below, .ref a_y_table, .long y_by, .ref a_y_basis, .ref a_y_isSeen, .ref a_y_colour, .ref a_y_rest, .ref a_y_makes, .ref a_y_worst])), (a_y_list, .inl (c_y_list, 16, .inl y_list))] → va_S A s.heap H locs → lv_has ls 4 [(2, .int e15)] → Z H locs 0 0 (F0 m 65 ls []) := by
      intro H locs ls hP hD hS hl
      refine hZv ?_
      refine lv_iload_n hx hb dX10_swings_65 rfl (lv_at hl 0 rfl) ?_
      replace hs := Option.some.inj hs
      subst hs
      exact W.iret (v := e15) hx hb hr (fun t ht hW => ⟨⟨e15, (), rfl, rfl, by rw [ht]; exact hP, va_K.moved hW.alike hK, hD⟩, hS.F ht⟩) hS.2.2 dX10_swings_66
    clear hs
    have hL15 : ∀ (n : Nat) (s15 : Int32 × Int32) (H : Heap) (locs : List Loc) (ls : Array Slot), itr (pX10_swings_L15 y_n y_sets y_list p1) n s15 = some e15 → va_P (dC, dI) vwCl [(a_y, .inr (10, [.int y_n, .ref a_y_list, .int y_sets, .ref a_y_others, .int y_otherMany, .ref a_y_costs, .long y_above, .long y_below, .ref a_y_table, .long y_by, .ref a_y_basis, .ref a_y_isSeen, .ref a_y_colour, .ref a_y_rest, .ref a_y_makes, .ref a_y_worst])), (a_y_list, .inl (c_y_list, 16, .inl y_list))] H → va_D A [(a_y, .inr (10, [.int y_n, .ref a_y_list, .int y_sets, .ref a_y_others, .int y_otherMany, .ref a_y_costs, .long y_above, .long y_below, .ref a_y_table, .long y_by, .ref a_y_basis, .ref a_y_isSeen, .ref a_y_colour, .ref a_y_rest, .ref a_y_makes, .ref a_y_worst])), (a_y_list, .inl (c_y_list, 16, .inl y_list))] → va_S A s.heap H locs → lv_has ls 4 [(0, .ref a_y), (1, .int p1), (2, .int s15.1), (3, .int s15.2)] → Z H locs 0 0 (F0 m 15 ls []) := by
      intro n
      induction n with
      | zero =>
        intro s15 H locs ls hn
        exact (itr_0 hn).elim
      | succ n ih =>
        intro s15 H locs ls hn hP hD hS hl
        obtain ⟨y2, hs, hn⟩ := itr_s hn
        unfold pX10_swings_L15 at hs
        refine hZv ?_
        refine lv_iload_n hx hb dX10_swings_15 rfl (lv_at hl 3 rfl) ?_
        refine lv_aload_n hx hb dX10_swings_16 rfl (lv_at hl 0 rfl) ?_
        obtain ⟨r3, hr3, hs⟩ := bd_s hs
        refine kc_i (isC := [0]) (isR := [1]) (pm := [1, 0]) (wr := [(a_y_list, .inl (c_y_list, 16, .inl y_list))]) (w1 := [(a_y, .inr (10, [.int y_n, .ref a_y_list, .int y_sets, .ref a_y_others, .int y_otherMany, .ref a_y_costs, .long y_above, .long y_below, .ref a_y_table, .long y_by, .ref a_y_basis, .ref a_y_isSeen, .ref a_y_colour, .ref a_y_rest, .ref a_y_makes, .ref a_y_worst]))]) (w2 := [(a_y, .inr (10, [.int y_n, .ref a_y_list, .int y_sets, .ref a_y_others, .int y_otherMany, .ref a_y_costs, .long y_above, .long y_below, .ref a_y_table, .long y_by, .ref a_y_basis, .ref a_y_isSeen, .ref a_y_colour, .ref a_y_rest, .ref a_y_makes, .ref a_y_worst])), (a_y_list, .inl (c_y_list, 16, .inl y_list))]) (va_runV (As := []) (rest := [.int s15.2]) ⟨hx, hb, hml, hown, hts⟩ (c_X10_all l dC dI a_y a_y_list a_y_others a_y_costs a_y_table a_y_basis a_y_isSeen a_y_colour a_y_rest a_y_makes a_y_worst H.size y_n y_sets y_otherMany y_above y_below y_by r3 hr3) (cwV 0 hts gX10_swings_X10_all rfl rfl rfl (by decide +kernel) ⟨Nat.le_of_ble_eq_true rfl, Nat.le_of_ble_eq_true rfl⟩) (kp_V hK hP hD hS hA hN (isC := [0]) (isT := []) (wc := [(a_y, .inr (10, [.int y_n, .ref a_y_list, .int y_sets, .ref a_y_others, .int y_otherMany, .ref a_y_costs, .long y_above, .long y_below, .ref a_y_table, .long y_by, .ref a_y_basis, .ref a_y_isSeen, .ref a_y_colour, .ref a_y_rest, .ref a_y_makes, .ref a_y_worst]))]) rfl (by decide +kernel) rfl (ci := 10) (q0 := 0) rfl rfl) rfl rfl hl.1 rfl (lv_room (Nat.le_of_ble_eq_true rfl)) dX10_swings_17 ⟨Nat.le_of_ble_eq_true rfl, Nat.le_of_ble_eq_true rfl⟩) hP hD hS hA rfl rfl (by decide +kernel) (by decide +kernel) rfl (by decide +kernel) (fun H locs hP hD hS => ?_)
        refine lv_icmp_gt (tgt := 65) hx hb dX10_swings_20 (by decide) (fun hc => ?_) (fun hc => ?_)
        · replace hs := it_t hc hs
          replace hs := Option.some.inj hs
          subst hs
          obtain rfl : s15.1 = e15 := hn
          exact hZw (hX15 H locs ls hP hD hS (lv_sub hl [2] rfl))
        · replace hs := it_f hc hs
          refine lv_iload_n hx hb dX10_swings_23 rfl (lv_at hl 2 rfl) ?_
          refine lv_iload_n hx hb dX10_swings_24 rfl (lv_at hl 3 rfl) ?_
          refine lv_iload_n hx hb dX10_swings_25 rfl (lv_at hl 1 rfl) ?_
          refine lv_ishr hx hb dX10_swings_26 ?_
          refine lv_iconst (v := 1) hx hb dX10_swings_27 (by decide) ?_
          refine lv_iand hx hb dX10_swings_28 ?_
          obtain ⟨t57, hq57, hs⟩ := bd_s hs
          have hJ57 : ∀ (H : Heap) (locs : List Loc) (ls : Array Slot), va_P (dC, dI) vwCl [(a_y, .inr (10, [.int y_n, .ref a_y_list, .int y_sets, .ref a_y_others, .int y_otherMany, .ref a_y_costs, .long y_above, .long y_below, .ref a_y_table, .long y_by, .ref a_y_basis, .ref a_y_isSeen, .ref a_y_colour, .ref a_y_rest, .ref a_y_makes, .ref a_y_worst])), (a_y_list, .inl (c_y_list, 16, .inl y_list))] H → va_D A [(a_y, .inr (10, [.int y_n, .ref a_y_list, .int y_sets, .ref a_y_others, .int y_otherMany, .ref a_y_costs, .long y_above, .long y_below, .ref a_y_table, .long y_by, .ref a_y_basis, .ref a_y_isSeen, .ref a_y_colour, .ref a_y_rest, .ref a_y_makes, .ref a_y_worst])), (a_y_list, .inl (c_y_list, 16, .inl y_list))] → va_S A s.heap H locs → lv_has ls 4 [(0, .ref a_y), (1, .int p1), (3, .int s15.2)] → Z H locs 0 0 (F0 m 57 ls [.int t57, .int s15.1]) := by
            intro H locs ls hP hD hS hl
            refine hZv ?_
            refine lv_iadd hx hb dX10_swings_57 ?_
            refine lv_istore_n (lv' := [(2, .int (s15.1 + t57)), (0, .ref a_y), (1, .int p1), (3, .int s15.2)]) hx hb dX10_swings_58 rfl hl (by decide) rfl (fun ls hl => ?_)
            refine lv_iinc (v := s15.2 + 1) (lv' := [(3, .int (s15.2 + 1)), (2, .int (s15.1 + t57)), (0, .ref a_y), (1, .int p1)]) hx hb dX10_swings_59 hl (k := 3) rfl (by rfl) (by decide) rfl (fun ls hl => ?_)
            refine lv_goto (tgt := 15) hx hb dX10_swings_62 (by decide) ?_
            replace hs := Option.some.inj hs
            subst hs
            exact hZw (ih (s15.1 + t57, s15.2 + 1) H locs ls hn hP hD hS (lv_sub hl [2, 3, 1, 0] rfl))
          clear hs
          have hs := hq57
          have hJ56 : ∀ (t56 : Unit), pX10_swings_J56_4 t56 = some t57 → ∀ (H : Heap) (locs : List Loc) (ls : Array Slot), va_P (dC, dI) vwCl [(a_y, .inr (10, [.int y_n, .ref a_y_list, .int y_sets, .ref a_y_others, .int y_otherMany, .ref a_y_costs, .long y_above, .long y_below, .ref a_y_table, .long y_by, .ref a_y_basis, .ref a_y_isSeen, .ref a_y_colour, .ref a_y_rest, .ref a_y_makes, .ref a_y_worst])), (a_y_list, .inl (c_y_list, 16, .inl y_list))] H → va_D A [(a_y, .inr (10, [.int y_n, .ref a_y_list, .int y_sets, .ref a_y_others, .int y_otherMany, .ref a_y_costs, .long y_above, .long y_below, .ref a_y_table, .long y_by, .ref a_y_basis, .ref a_y_isSeen, .ref a_y_colour, .ref a_y_rest, .ref a_y_makes, .ref a_y_worst])), (a_y_list, .inl (c_y_list, 16, .inl y_list))] → va_S A s.heap H locs → lv_has ls 4 [(0, .ref a_y), (1, .int p1), (3, .int s15.2)] → Z H locs 0 0 (F0 m 56 ls [.int s15.1]) := by
            intro t56 hs H locs ls hP hD hS hl
            refine hZv ?_
            unfold pX10_swings_J56_4 at hs
            refine lv_iconst (v := 0) hx hb dX10_swings_56 (by decide) ?_
            replace hs := Option.some.inj hs
            subst hs
            exact hZw (hJ57 H locs ls hP hD hS hl)
          refine lv_if_ne (tgt := 56) hx hb dX10_swings_29 (by decide) (fun hc => ?_) (fun hc => ?_)
          · replace hs := it_f hc hs
            exact hZw (hJ56 () hs H locs ls hP hD hS (lv_sub hl [0, 1, 3] rfl))
          · replace hs := it_t hc hs
            refine lv_aload_n hx hb dX10_swings_32 rfl (lv_at hl 0 rfl) ?_
            refine lv_iload_n hx hb dX10_swings_33 rfl (lv_at hl 3 rfl) ?_
            obtain ⟨r5, hr5, hs⟩ := bd_s hs
            refine kc_i (isC := [0, 1]) (isR := []) (pm := [0, 1]) (wr := []) (w1 := [(a_y, .inr (10, [.int y_n, .ref a_y_list, .int y_sets, .ref a_y_others, .int y_otherMany, .ref a_y_costs, .long y_above, .long y_below, .ref a_y_table, .long y_by, .ref a_y_basis, .ref a_y_isSeen, .ref a_y_colour, .ref a_y_rest, .ref a_y_makes, .ref a_y_worst])), (a_y_list, .inl (c_y_list, 16, .inl y_list))]) (w2 := [(a_y, .inr (10, [.int y_n, .ref a_y_list, .int y_sets, .ref a_y_others, .int y_otherMany, .ref a_y_costs, .long y_above, .long y_below, .ref a_y_table, .long y_by, .ref a_y_basis, .ref a_y_isSeen, .ref a_y_colour, .ref a_y_rest, .ref a_y_makes, .ref a_y_worst])), (a_y_list, .inl (c_y_list, 16, .inl y_list))]) (va_runV (As := [.int s15.2]) (rest := [.int s15.1]) ⟨hx, hb, hml, hown, hts⟩ (c_X10_meets l dC dI a_y a_y_list a_y_others a_y_costs a_y_table a_y_basis a_y_isSeen a_y_colour a_y_rest a_y_makes a_y_worst c_y_list H.size y_n y_sets y_otherMany y_above y_below y_by y_list s15.2 r5 hr5) (cwV 1 hts gX10_swings_X10_meets rfl rfl rfl (by decide +kernel) ⟨Nat.le_of_ble_eq_true rfl, Nat.le_of_ble_eq_true rfl⟩) (kp_V hK hP hD hS hA hN (isC := [0, 1]) (isT := [0]) (wc := [(a_y, .inr (10, [.int y_n, .ref a_y_list, .int y_sets, .ref a_y_others, .int y_otherMany, .ref a_y_costs, .long y_above, .long y_below, .ref a_y_table, .long y_by, .ref a_y_basis, .ref a_y_isSeen, .ref a_y_colour, .ref a_y_rest, .ref a_y_makes, .ref a_y_worst])), (a_y_list, .inl (c_y_list, 16, .inl y_list))]) rfl (by decide +kernel) rfl (ci := 10) (q0 := 0) rfl rfl) rfl rfl hl.1 rfl (lv_room (Nat.le_of_ble_eq_true rfl)) dX10_swings_34 ⟨Nat.le_of_ble_eq_true rfl, Nat.le_of_ble_eq_true rfl⟩) hP hD hS hA rfl rfl (by decide +kernel) (by decide +kernel) rfl (by decide +kernel) (fun H locs hP hD hS => ?_)
            refine lv_if_ne (tgt := 56) hx hb dX10_swings_37 (by decide) (fun hc => ?_) (fun hc => ?_)
            · replace hs := it_f hc hs
              exact hZw (hJ56 () hs H locs ls hP hD hS (lv_sub hl [0, 1, 3] rfl))
            · replace hs := it_t hc hs
              refine lv_aload_n hx hb dX10_swings_40 rfl (lv_at hl 0 rfl) ?_
              refine lv_iload_n hx hb dX10_swings_41 rfl (lv_at hl 3 rfl) ?_
              refine lv_iconst (v := 1) hx hb dX10_swings_42 (by decide) ?_
              refine lv_iload_n hx hb dX10_swings_43 rfl (lv_at hl 1 rfl) ?_
              refine lv_ishl hx hb dX10_swings_44 ?_
              refine lv_ior hx hb dX10_swings_45 ?_
              obtain ⟨r6, hr6, hs⟩ := bd_s hs
              refine kc_i (isC := [0, 1]) (isR := []) (pm := [0, 1]) (wr := []) (w1 := [(a_y, .inr (10, [.int y_n, .ref a_y_list, .int y_sets, .ref a_y_others, .int y_otherMany, .ref a_y_costs, .long y_above, .long y_below, .ref a_y_table, .long y_by, .ref a_y_basis, .ref a_y_isSeen, .ref a_y_colour, .ref a_y_rest, .ref a_y_makes, .ref a_y_worst])), (a_y_list, .inl (c_y_list, 16, .inl y_list))]) (w2 := [(a_y, .inr (10, [.int y_n, .ref a_y_list, .int y_sets, .ref a_y_others, .int y_otherMany, .ref a_y_costs, .long y_above, .long y_below, .ref a_y_table, .long y_by, .ref a_y_basis, .ref a_y_isSeen, .ref a_y_colour, .ref a_y_rest, .ref a_y_makes, .ref a_y_worst])), (a_y_list, .inl (c_y_list, 16, .inl y_list))]) (va_runV (As := [.int (s15.2 ||| (1 <<< (p1 &&& 31)))]) (rest := [.int s15.1]) ⟨hx, hb, hml, hown, hts⟩ (c_X10_meets l dC dI a_y a_y_list a_y_others a_y_costs a_y_table a_y_basis a_y_isSeen a_y_colour a_y_rest a_y_makes a_y_worst c_y_list H.size y_n y_sets y_otherMany y_above y_below y_by y_list (s15.2 ||| (1 <<< (p1 &&& 31))) r6 hr6) (cwV 1 hts gX10_swings_X10_meets rfl rfl rfl (by decide +kernel) ⟨Nat.le_of_ble_eq_true rfl, Nat.le_of_ble_eq_true rfl⟩) (kp_V hK hP hD hS hA hN (isC := [0, 1]) (isT := [0]) (wc := [(a_y, .inr (10, [.int y_n, .ref a_y_list, .int y_sets, .ref a_y_others, .int y_otherMany, .ref a_y_costs, .long y_above, .long y_below, .ref a_y_table, .long y_by, .ref a_y_basis, .ref a_y_isSeen, .ref a_y_colour, .ref a_y_rest, .ref a_y_makes, .ref a_y_worst])), (a_y_list, .inl (c_y_list, 16, .inl y_list))]) rfl (by decide +kernel) rfl (ci := 10) (q0 := 0) rfl rfl) rfl rfl hl.1 rfl (lv_room (Nat.le_of_ble_eq_true rfl)) dX10_swings_46 ⟨Nat.le_of_ble_eq_true rfl, Nat.le_of_ble_eq_true rfl⟩) hP hD hS hA rfl rfl (by decide +kernel) (by decide +kernel) rfl (by decide +kernel) (fun H locs hP hD hS => ?_)
              refine lv_if_eq (tgt := 56) hx hb dX10_swings_49 (by decide) (fun hc => ?_) (fun hc => ?_)
              · replace hs := it_t hc hs
                exact hZw (hJ56 () hs H locs ls hP hD hS (lv_sub hl [0, 1, 3] rfl))
              · replace hs := it_f hc hs
                refine lv_iconst (v := 1) hx hb dX10_swings_52 (by decide) ?_
                refine lv_goto (tgt := 57) hx hb dX10_swings_53 (by decide) ?_
                replace hs := Option.some.inj hs
                subst hs
                exact hZw (hJ57 H locs ls hP hD hS (lv_sub hl [0, 1, 3] rfl))
    obtain ⟨n15, hn15⟩ := lp_ex he15
    exact hZw (hL15 n15 (0, 0) H locs ls hn15 hP hD hS (lv_sub hl [2, 3, 1, 0] rfl))
  · replace hs := it_t hc hs
    refine lv_bipush (v := (-2)) hx hb dX10_swings_8 (by decide) ?_
    replace hs := Option.some.inj hs
    subst hs
    exact W.iret (v := (-2)) hx hb hr (fun t ht hW => ⟨⟨(-2), (), rfl, rfl, by rw [ht]; exact hP, va_K.moved hW.alike hK, hD⟩, hS.F ht⟩) hS.2.2 dX10_swings_10
noncomputable def pX10_asked_J47_2 (t47 : Unit) : Option (Int32) :=
  some 0
noncomputable def pX10_asked_L5 (y_sets : Int32) (y_list : Nat → Int32) (p1 : Int32) (p2 : Int32) (s5 : Int32 × Int32) : Option ((Int32 × Int32) ⊕ (Int32)) :=
  if y_sets ≤ s5.2 then (some (Sum.inr s5.1)) else (Option.bind (if ((p1 >>> (s5.2 &&& 31)) &&& 1) = 1 then (gd (vp_in s5.2 16) (if (((y_list s5.2.toNatClampNeg) >>> (p2 &&& 31)) &&& 1) = 1 then (some (1 <<< (s5.2 &&& 31))) else (pX10_asked_J47_2 ()))) else (pX10_asked_J47_2 ()) : Option (Int32)) (fun t48 => some (Sum.inl (s5.1 ||| t48, s5.2 + 1))))
noncomputable def pX10_asked (y_sets : Int32) (y_list : Nat → Int32) (y_worst : Nat → Int32) (p1 : Int32) (p2 : Int32) : Option (Int32) :=
  Option.bind (lp (pX10_asked_L5 y_sets y_list p1 p2) (0, 0)) (fun e5 => if e5 = 0 then (some 100) else (if (p1 ^^^ e5) = 0 then (some 100) else (gd (vp_in e5 4096) (gd (vp_in (p1 ^^^ e5) 4096) (if (y_worst e5.toNatClampNeg) ≤ (y_worst (p1 ^^^ e5).toNatClampNeg) then (gd (vp_in (p1 ^^^ e5) 4096) (some (1 + (y_worst (p1 ^^^ e5).toNatClampNeg)))) else (gd (vp_in e5 4096) (some (1 + (y_worst e5.toNatClampNeg)))))))))
set_option maxHeartbeats 4000000 in
set_option maxRecDepth 100000 in
theorem c_X10_asked (l : Launch) (dC : Nat → ClassId) (dI : Nat → Nat → Nat) (a_y : Nat) (a_y_list : Nat) (a_y_others : Nat) (a_y_costs : Nat) (a_y_table : Nat) (a_y_basis : Nat) (a_y_isSeen : Nat) (a_y_colour : Nat) (a_y_rest : Nat) (a_y_makes : Nat) (a_y_worst : Nat) (c_y_list c_y_worst : ClassId) (sz : Nat) (y_n : Int32) (y_sets : Int32) (y_otherMany : Int32) (y_above : Int64) (y_below : Int64) (y_by : Int64) (y_list : Nat → Int32) (y_worst : Nat → Int32) (p1 : Int32) (p2 : Int32) (rv : Int32) (hs : pX10_asked y_sets y_list y_worst p1 p2 = some rv) : Met l yX10_asked wsX10_asked ({ frames := 0, cells := 0, slots := 0, locals := 0 }) (sPc [.ref a_y, .int p1, .int p2] (dC, dI) [(c_y_list, .int), (c_y_worst, .int)] [(a_y, .inr (10, [.int y_n, .ref a_y_list, .int y_sets, .ref a_y_others, .int y_otherMany, .ref a_y_costs, .long y_above, .long y_below, .ref a_y_table, .long y_by, .ref a_y_basis, .ref a_y_isSeen, .ref a_y_colour, .ref a_y_rest, .ref a_y_makes, .ref a_y_worst])), (a_y_list, .inl (c_y_list, 16, .inl y_list)), (a_y_worst, .inl (c_y_worst, 4096, .inl y_worst))] sz) (va_Qi (fun (r : Int32) (_ : Unit) => r = rv) (sB (dC, dI) [(c_y_list, .int), (c_y_worst, .int)] (va_A [(a_y, .inr (10, [.int y_n, .ref a_y_list, .int y_sets, .ref a_y_others, .int y_otherMany, .ref a_y_costs, .long y_above, .long y_below, .ref a_y_table, .long y_by, .ref a_y_basis, .ref a_y_isSeen, .ref a_y_colour, .ref a_y_rest, .ref a_y_makes, .ref a_y_worst])), (a_y_list, .inl (c_y_list, 16, .inl y_list)), (a_y_worst, .inl (c_y_worst, 4096, .inl y_worst))] sz) [(a_y, .inr (10, [.int y_n, .ref a_y_list, .int y_sets, .ref a_y_others, .int y_otherMany, .ref a_y_costs, .long y_above, .long y_below, .ref a_y_table, .long y_by, .ref a_y_basis, .ref a_y_isSeen, .ref a_y_colour, .ref a_y_rest, .ref a_y_makes, .ref a_y_worst])), (a_y_list, .inl (c_y_list, 16, .inl y_list)), (a_y_worst, .inl (c_y_worst, 4096, .inl y_worst))]) (va_A [(a_y, .inr (10, [.int y_n, .ref a_y_list, .int y_sets, .ref a_y_others, .int y_otherMany, .ref a_y_costs, .long y_above, .long y_below, .ref a_y_table, .long y_by, .ref a_y_basis, .ref a_y_isSeen, .ref a_y_colour, .ref a_y_rest, .ref a_y_makes, .ref a_y_worst])), (a_y_list, .inl (c_y_list, 16, .inl y_list)), (a_y_worst, .inl (c_y_worst, 4096, .inl y_worst))] sz)) 0 0 (va_A [(a_y, .inr (10, [.int y_n, .ref a_y_list, .int y_sets, .ref a_y_others, .int y_otherMany, .ref a_y_costs, .long y_above, .long y_below, .ref a_y_table, .long y_by, .ref a_y_basis, .ref a_y_isSeen, .ref a_y_colour, .ref a_y_rest, .ref a_y_makes, .ref a_y_worst])), (a_y_list, .inl (c_y_list, 16, .inl y_list)), (a_y_worst, .inl (c_y_worst, 4096, .inl y_worst))] sz) := by
  refine Met.ofW (cc := cX10_asked) (maxL := 5) (ret := (some .int)) (by decide) rfl ?_
  intro p e s m args below meth c s₁ B hml hv
  obtain ⟨rfl, hsz, hP, hK, hD0, hN⟩ := hv
  have hx := B.exec
  have hb := B.bytes
  have hr := B.returns
  have hts := atoms_spec (ws := wsX10_asked) B.pre
  have hown : s.vm.findClass RX10 = some m.cls := findClass_of_methodNamed B.named
  have hlocks := B.notSynchronized
  subst hsz
  have hD := hD0.self (sz := s.heap.size)
  generalize hAe : va_A [(a_y, .inr (10, [.int y_n, .ref a_y_list, .int y_sets, .ref a_y_others, .int y_otherMany, .ref a_y_costs, .long y_above, .long y_below, .ref a_y_table, .long y_by, .ref a_y_basis, .ref a_y_isSeen, .ref a_y_colour, .ref a_y_rest, .ref a_y_makes, .ref a_y_worst])), (a_y_list, .inl (c_y_list, 16, .inl y_list)), (a_y_worst, .inl (c_y_worst, 4096, .inl y_worst))] s.heap.size = A at hD hN ⊢
  have hA : ∀ q : Nat, s.heap.size ≤ q → A q := fun q h => by rw [← hAe]; exact Or.inr h
  have hS : va_S A s.heap s.heap [] := va_S.rf
  have hP : va_P (dC, dI) vwCl [(a_y, .inr (10, [.int y_n, .ref a_y_list, .int y_sets, .ref a_y_others, .int y_otherMany, .ref a_y_costs, .long y_above, .long y_below, .ref a_y_table, .long y_by, .ref a_y_basis, .ref a_y_isSeen, .ref a_y_colour, .ref a_y_rest, .ref a_y_makes, .ref a_y_worst])), (a_y_list, .inl (c_y_list, 16, .inl y_list)), (a_y_worst, .inl (c_y_worst, 4096, .inl y_worst))] s.heap := hP
  have hl := lv_entry ([.ref a_y, .int p1, .int p2]) (n := 5) (Nat.le_of_ble_eq_true rfl)
  rw [lg_entry_eq]
  generalize (lg_sl ([.ref a_y, .int p1, .int p2]) ++ List.replicate (5 - (lg_sl ([.ref a_y, .int p1, .int p2])).length) Slot.unset).toArray = ls at hl ⊢
  have hl : lv_has ls 5 [(0, .ref a_y), (1, .int p1), (2, .int p2)] := hl
  have hiX10 : ∀ w ∈ wsX100, w ∈ wsX10_asked := fun _ h => List.mem_cons_of_mem _ (List.mem_append_right _ h)
  have hf61 := hts (.fieldLink RX10 61 "MeetSetsModel" "sets" "I") (t1_ (al_ h1_))
  have hf7 := hts (.fieldLink RX10 7 "MeetSetsModel" "list" "[I") (t1_ (al_ (t1_ h1_)))
  have hf40 := hts (.fieldLink RX10 40 "MeetSetsModel" "worst" "[I") (t1_ (al_ (t1_ (t1_ h1_))))
  refine w_abs (fun Z hZv hZw => ?_)
  refine hZv ?_
  obtain ⟨H, hH⟩ : ∃ H, H = s.heap := ⟨_, rfl⟩
  obtain ⟨locs, hlo⟩ : ∃ L : List Loc, L = [] := ⟨_, rfl⟩
  rw [← hlo, ← hH]
  have hS : va_S A s.heap H locs := by rw [hlo, hH]; exact hS
  have hP : va_P (dC, dI) vwCl [(a_y, .inr (10, [.int y_n, .ref a_y_list, .int y_sets, .ref a_y_others, .int y_otherMany, .ref a_y_costs, .long y_above, .long y_below, .ref a_y_table, .long y_by, .ref a_y_basis, .ref a_y_isSeen, .ref a_y_colour, .ref a_y_rest, .ref a_y_makes, .ref a_y_worst])), (a_y_list, .inl (c_y_list, 16, .inl y_list)), (a_y_worst, .inl (c_y_worst, 4096, .inl y_worst))] H := by rw [hH]; exact hP
  clear hH hlo
  unfold pX10_asked at hs
  refine lv_iconst (v := 0) hx hb dX10_asked_0 (by decide) ?_
  refine lv_istore_n (lv' := [(3, .int 0), (0, .ref a_y), (1, .int p1), (2, .int p2)]) hx hb dX10_asked_1 rfl hl (by decide) rfl (fun ls hl => ?_)
  refine lv_iconst (v := 0) hx hb dX10_asked_2 (by decide) ?_
  refine lv_istore (lv' := [(4, .int 0), (3, .int 0), (0, .ref a_y), (1, .int p1), (2, .int p2)]) hx hb dX10_asked_3 hl (by decide) rfl (fun ls hl => ?_)
  obtain ⟨e5, he5, hs⟩ := bd_s hs
  have hX5 : ∀ (H : Heap) (locs : List Loc) (ls : Array Slot), va_P (dC, dI) vwCl [(a_y, .inr (10, [.int y_n, .ref a_y_list, .int y_sets, .ref a_y_others, .int y_otherMany, .ref a_y_costs, .long y_above, .long y_below, .ref a_y_table, .long y_by, .ref a_y_basis, .ref a_y_isSeen, .ref a_y_colour, .ref a_y_rest, .ref a_y_makes, .ref a_y_worst])), (a_y_list, .inl (c_y_list, 16, .inl y_list)), (a_y_worst, .inl (c_y_worst, 4096, .inl y_worst))] H → va_D A [(a_y, .inr (10, [.int y_n, .ref a_y_list, .int y_sets, .ref a_y_others, .int y_otherMany, .ref a_y_costs, .long y_above, .long y_below, .ref a_y_table, .long y_by, .ref a_y_basis, .ref a_y_isSeen, .ref a_y_colour, .ref a_y_rest, .ref a_y_makes, .ref a_y_worst])), (a_y_list, .inl (c_y_list, 16, .inl y_list)), (a_y_worst, .inl (c_y_worst, 4096, .inl y_worst))] → va_S A s.heap H locs → lv_has ls 5 [(0, .ref a_y), (1, .int p1), (3, .int e5)] → Z H locs 0 0 (F0 m 56 ls []) := by
    intro H locs ls hP hD hS hl
    refine hZv ?_
    refine lv_iload_n hx hb dX10_asked_56 rfl (lv_at hl 1 rfl) ?_
    refine lv_iload_n hx hb dX10_asked_57 rfl (lv_at hl 2 rfl) ?_
    refine lv_ixor hx hb dX10_asked_58 ?_
    refine lv_istore (lv' := [(4, .int (p1 ^^^ e5)), (0, .ref a_y), (1, .int p1), (3, .int e5)]) hx hb dX10_asked_59 hl (by decide) rfl (fun ls hl => ?_)
    refine lv_iload_n hx hb dX10_asked_61 rfl (lv_at hl 3 rfl) ?_
    refine lv_if_eq (tgt := 70) hx hb dX10_asked_62 (by decide) (fun hc => ?_) (fun hc => ?_)
    · replace hs := it_t hc hs
      refine lv_bipush (v := 100) hx hb dX10_asked_70 (by decide) ?_
      replace hs := Option.some.inj hs
      subst hs
      exact W.iret (v := 100) hx hb hr (fun t ht hW => ⟨⟨100, (), rfl, rfl, by rw [ht]; exact hP, va_K.moved hW.alike hK, hD⟩, hS.F ht⟩) hS.2.2 dX10_asked_72
    · replace hs := it_f hc hs
      refine lv_iload hx hb dX10_asked_65 (lv_at hl 0 rfl) ?_
      refine lv_if_ne (tgt := 73) hx hb dX10_asked_67 (by decide) (fun hc => ?_) (fun hc => ?_)
      · replace hs := it_f hc hs
        refine lv_iconst (v := 1) hx hb dX10_asked_73 (by decide) ?_
        refine lv_aload_n hx hb dX10_asked_74 rfl (lv_at hl 1 rfl) ?_
        refine va_get (D := (dC, dI)) (ci := 10) (v := .ref a_y_worst) (C := RX10) (T := TX10) (N := 16) hx hb hts hiX10 hown hK hP 0 rfl rfl 15 (by decide) hf40 (fun _ h9 => h9) rfl dX10_asked_75 ?_
        refine lv_iload_n hx hb dX10_asked_78 rfl (lv_at hl 3 rfl) ?_
        obtain ⟨hg4, hs⟩ := gd_s hs
        refine va_iald hx hb hK hP 2 1 rfl rfl hg4 dX10_asked_79 ?_
        refine lv_aload_n hx hb dX10_asked_80 rfl (lv_at hl 1 rfl) ?_
        refine va_get (D := (dC, dI)) (ci := 10) (v := .ref a_y_worst) (C := RX10) (T := TX10) (N := 16) hx hb hts hiX10 hown hK hP 0 rfl rfl 15 (by decide) hf40 (fun _ h9 => h9) rfl dX10_asked_81 ?_
        refine lv_iload hx hb dX10_asked_84 (lv_at hl 0 rfl) ?_
        obtain ⟨hg5, hs⟩ := gd_s hs
        refine va_iald hx hb hK hP 2 1 rfl rfl hg5 dX10_asked_86 ?_
        refine lv_icmp_le (tgt := 99) hx hb dX10_asked_87 (by decide) (fun hc => ?_) (fun hc => ?_)
        · replace hs := it_t hc hs
          refine lv_aload_n hx hb dX10_asked_99 rfl (lv_at hl 1 rfl) ?_
          refine va_get (D := (dC, dI)) (ci := 10) (v := .ref a_y_worst) (C := RX10) (T := TX10) (N := 16) hx hb hts hiX10 hown hK hP 0 rfl rfl 15 (by decide) hf40 (fun _ h9 => h9) rfl dX10_asked_100 ?_
          refine lv_iload hx hb dX10_asked_103 (lv_at hl 0 rfl) ?_
          obtain ⟨hg6, hs⟩ := gd_s hs
          refine va_iald hx hb hK hP 2 1 rfl rfl hg6 dX10_asked_105 ?_
          refine lv_iadd hx hb dX10_asked_106 ?_
          replace hs := Option.some.inj hs
          subst hs
          exact W.iret (v := 1 + (y_worst (p1 ^^^ e5).toNatClampNeg)) hx hb hr (fun t ht hW => ⟨⟨1 + (y_worst (p1 ^^^ e5).toNatClampNeg), (), rfl, rfl, by rw [ht]; exact hP, va_K.moved hW.alike hK, hD⟩, hS.F ht⟩) hS.2.2 dX10_asked_107
        · replace hs := it_f hc hs
          refine lv_aload_n hx hb dX10_asked_90 rfl (lv_at hl 1 rfl) ?_
          refine va_get (D := (dC, dI)) (ci := 10) (v := .ref a_y_worst) (C := RX10) (T := TX10) (N := 16) hx hb hts hiX10 hown hK hP 0 rfl rfl 15 (by decide) hf40 (fun _ h9 => h9) rfl dX10_asked_91 ?_
          refine lv_iload_n hx hb dX10_asked_94 rfl (lv_at hl 3 rfl) ?_
          obtain ⟨hg7, hs⟩ := gd_s hs
          refine va_iald hx hb hK hP 2 1 rfl rfl hg7 dX10_asked_95 ?_
          refine lv_goto (tgt := 106) hx hb dX10_asked_96 (by decide) ?_
          refine lv_iadd hx hb dX10_asked_106 ?_
          replace hs := Option.some.inj hs
          subst hs
          exact W.iret (v := 1 + (y_worst e5.toNatClampNeg)) hx hb hr (fun t ht hW => ⟨⟨1 + (y_worst e5.toNatClampNeg), (), rfl, rfl, by rw [ht]; exact hP, va_K.moved hW.alike hK, hD⟩, hS.F ht⟩) hS.2.2 dX10_asked_107
      · replace hs := it_t hc hs
        refine lv_bipush (v := 100) hx hb dX10_asked_70 (by decide) ?_
        replace hs := Option.some.inj hs
        subst hs
        exact W.iret (v := 100) hx hb hr (fun t ht hW => ⟨⟨100, (), rfl, rfl, by rw [ht]; exact hP, va_K.moved hW.alike hK, hD⟩, hS.F ht⟩) hS.2.2 dX10_asked_72
  clear hs
  have hL5 : ∀ (n : Nat) (s5 : Int32 × Int32) (H : Heap) (locs : List Loc) (ls : Array Slot), itr (pX10_asked_L5 y_sets y_list p1 p2) n s5 = some e5 → va_P (dC, dI) vwCl [(a_y, .inr (10, [.int y_n, .ref a_y_list, .int y_sets, .ref a_y_others, .int y_otherMany, .ref a_y_costs, .long y_above, .long y_below, .ref a_y_table, .long y_by, .ref a_y_basis, .ref a_y_isSeen, .ref a_y_colour, .ref a_y_rest, .ref a_y_makes, .ref a_y_worst])), (a_y_list, .inl (c_y_list, 16, .inl y_list)), (a_y_worst, .inl (c_y_worst, 4096, .inl y_worst))] H → va_D A [(a_y, .inr (10, [.int y_n, .ref a_y_list, .int y_sets, .ref a_y_others, .int y_otherMany, .ref a_y_costs, .long y_above, .long y_below, .ref a_y_table, .long y_by, .ref a_y_basis, .ref a_y_isSeen, .ref a_y_colour, .ref a_y_rest, .ref a_y_makes, .ref a_y_worst])), (a_y_list, .inl (c_y_list, 16, .inl y_list)), (a_y_worst, .inl (c_y_worst, 4096, .inl y_worst))] → va_S A s.heap H locs → lv_has ls 5 [(0, .ref a_y), (1, .int p1), (2, .int p2), (3, .int s5.1), (4, .int s5.2)] → Z H locs 0 0 (F0 m 5 ls []) := by
    intro n
    induction n with
    | zero =>
      intro s5 H locs ls hn
      exact (itr_0 hn).elim
    | succ n ih =>
      intro s5 H locs ls hn hP hD hS hl
      obtain ⟨y1, hs, hn⟩ := itr_s hn
      unfold pX10_asked_L5 at hs
      refine hZv ?_
      refine lv_iload hx hb dX10_asked_5 (lv_at hl 4 rfl) ?_
      refine lv_aload_n hx hb dX10_asked_7 rfl (lv_at hl 0 rfl) ?_
      refine va_get (D := (dC, dI)) (ci := 10) (v := .int y_sets) (C := RX10) (T := TX10) (N := 16) hx hb hts hiX10 hown hK hP 0 rfl rfl 2 (by decide) hf61 (fun _ h9 => h9) rfl dX10_asked_8 ?_
      refine lv_icmp_ge (tgt := 56) hx hb dX10_asked_11 (by decide) (fun hc => ?_) (fun hc => ?_)
      · replace hs := it_t hc hs
        replace hs := Option.some.inj hs
        subst hs
        obtain rfl : s5.1 = e5 := hn
        exact hZw (hX5 H locs ls hP hD hS (lv_sub hl [0, 1, 3] rfl))
      · replace hs := it_f hc hs
        refine lv_iload_n hx hb dX10_asked_14 rfl (lv_at hl 3 rfl) ?_
        refine lv_iload_n hx hb dX10_asked_15 rfl (lv_at hl 1 rfl) ?_
        refine lv_iload hx hb dX10_asked_16 (lv_at hl 4 rfl) ?_
        refine lv_ishr hx hb dX10_asked_18 ?_
        refine lv_iconst (v := 1) hx hb dX10_asked_19 (by decide) ?_
        refine lv_iand hx hb dX10_asked_20 ?_
        refine lv_iconst (v := 1) hx hb dX10_asked_21 (by decide) ?_
        obtain ⟨t48, hq48, hs⟩ := bd_s hs
        have hJ48 : ∀ (H : Heap) (locs : List Loc) (ls : Array Slot), va_P (dC, dI) vwCl [(a_y, .inr (10, [.int y_n, .ref a_y_list, .int y_sets, .ref a_y_others, .int y_otherMany, .ref a_y_costs, .long y_above, .long y_below, .ref a_y_table, .long y_by, .ref a_y_basis, .ref a_y_isSeen, .ref a_y_colour, .ref a_y_rest, .ref a_y_makes, .ref a_y_worst])), (a_y_list, .inl (c_y_list, 16, .inl y_list)), (a_y_worst, .inl (c_y_worst, 4096, .inl y_worst))] H → va_D A [(a_y, .inr (10, [.int y_n, .ref a_y_list, .int y_sets, .ref a_y_others, .int y_otherMany, .ref a_y_costs, .long y_above, .long y_below, .ref a_y_table, .long y_by, .ref a_y_basis, .ref a_y_isSeen, .ref a_y_colour, .ref a_y_rest, .ref a_y_makes, .ref a_y_worst])), (a_y_list, .inl (c_y_list, 16, .inl y_list)), (a_y_worst, .inl (c_y_worst, 4096, .inl y_worst))] → va_S A s.heap H locs → lv_has ls 5 [(0, .ref a_y), (1, .int p1), (2, .int p2), (4, .int s5.2)] → Z H locs 0 0 (F0 m 48 ls [.int t48, .int s5.1]) := by
          intro H locs ls hP hD hS hl
          refine hZv ?_
          refine lv_ior hx hb dX10_asked_48 ?_
          refine lv_istore_n (lv' := [(3, .int (s5.1 ||| t48)), (0, .ref a_y), (1, .int p1), (2, .int p2), (4, .int s5.2)]) hx hb dX10_asked_49 rfl hl (by decide) rfl (fun ls hl => ?_)
          refine lv_iinc (v := s5.2 + 1) (lv' := [(4, .int (s5.2 + 1)), (3, .int (s5.1 ||| t48)), (0, .ref a_y), (1, .int p1), (2, .int p2)]) hx hb dX10_asked_50 hl (k := 4) rfl (by rfl) (by decide) rfl (fun ls hl => ?_)
          refine lv_goto (tgt := 5) hx hb dX10_asked_53 (by decide) ?_
          replace hs := Option.some.inj hs
          subst hs
          exact hZw (ih (s5.1 ||| t48, s5.2 + 1) H locs ls hn hP hD hS (lv_sub hl [2, 3, 4, 1, 0] rfl))
        clear hs
        have hs := hq48
        have hJ47 : ∀ (t47 : Unit), pX10_asked_J47_2 t47 = some t48 → ∀ (H : Heap) (locs : List Loc) (ls : Array Slot), va_P (dC, dI) vwCl [(a_y, .inr (10, [.int y_n, .ref a_y_list, .int y_sets, .ref a_y_others, .int y_otherMany, .ref a_y_costs, .long y_above, .long y_below, .ref a_y_table, .long y_by, .ref a_y_basis, .ref a_y_isSeen, .ref a_y_colour, .ref a_y_rest, .ref a_y_makes, .ref a_y_worst])), (a_y_list, .inl (c_y_list, 16, .inl y_list)), (a_y_worst, .inl (c_y_worst, 4096, .inl y_worst))] H → va_D A [(a_y, .inr (10, [.int y_n, .ref a_y_list, .int y_sets, .ref a_y_others, .int y_otherMany, .ref a_y_costs, .long y_above, .long y_below, .ref a_y_table, .long y_by, .ref a_y_basis, .ref a_y_isSeen, .ref a_y_colour, .ref a_y_rest, .ref a_y_makes, .ref a_y_worst])), (a_y_list, .inl (c_y_list, 16, .inl y_list)), (a_y_worst, .inl (c_y_worst, 4096, .inl y_worst))] → va_S A s.heap H locs → lv_has ls 5 [(0, .ref a_y), (1, .int p1), (2, .int p2), (4, .int s5.2)] → Z H locs 0 0 (F0 m 47 ls [.int s5.1]) := by
          intro t47 hs H locs ls hP hD hS hl
          refine hZv ?_
          unfold pX10_asked_J47_2 at hs
          refine lv_iconst (v := 0) hx hb dX10_asked_47 (by decide) ?_
          replace hs := Option.some.inj hs
          subst hs
          exact hZw (hJ48 H locs ls hP hD hS hl)
        refine lv_icmp_ne (tgt := 47) hx hb dX10_asked_22 (by decide) (fun hc => ?_) (fun hc => ?_)
        · replace hs := it_f hc hs
          exact hZw (hJ47 () hs H locs ls hP hD hS (lv_sub hl [0, 1, 2, 4] rfl))
        · replace hs := it_t hc hs
          refine lv_aload_n hx hb dX10_asked_25 rfl (lv_at hl 0 rfl) ?_
          refine va_get (D := (dC, dI)) (ci := 10) (v := .ref a_y_list) (C := RX10) (T := TX10) (N := 16) hx hb hts hiX10 hown hK hP 0 rfl rfl 1 (by decide) hf7 (fun _ h9 => h9) rfl dX10_asked_26 ?_
          refine lv_iload hx hb dX10_asked_29 (lv_at hl 4 rfl) ?_
          obtain ⟨hg3, hs⟩ := gd_s hs
          refine va_iald hx hb hK hP 1 0 rfl rfl hg3 dX10_asked_31 ?_
          refine lv_iload_n hx hb dX10_asked_32 rfl (lv_at hl 2 rfl) ?_
          refine lv_ishr hx hb dX10_asked_33 ?_
          refine lv_iconst (v := 1) hx hb dX10_asked_34 (by decide) ?_
          refine lv_iand hx hb dX10_asked_35 ?_
          refine lv_iconst (v := 1) hx hb dX10_asked_36 (by decide) ?_
          refine lv_icmp_ne (tgt := 47) hx hb dX10_asked_37 (by decide) (fun hc => ?_) (fun hc => ?_)
          · replace hs := it_f hc hs
            exact hZw (hJ47 () hs H locs ls hP hD hS (lv_sub hl [0, 1, 2, 4] rfl))
          · replace hs := it_t hc hs
            refine lv_iconst (v := 1) hx hb dX10_asked_40 (by decide) ?_
            refine lv_iload hx hb dX10_asked_41 (lv_at hl 4 rfl) ?_
            refine lv_ishl hx hb dX10_asked_43 ?_
            refine lv_goto (tgt := 48) hx hb dX10_asked_44 (by decide) ?_
            replace hs := Option.some.inj hs
            subst hs
            exact hZw (hJ48 H locs ls hP hD hS (lv_sub hl [0, 1, 2, 4] rfl))
  obtain ⟨n5, hn5⟩ := lp_ex he5
  exact hZw (hL5 n5 (0, 0) H locs ls hn5 hP hD hS (lv_sub hl [2, 3, 4, 1, 0] rfl))
noncomputable def pX10_questions_L61_4 (y_n : Int32) (y_sets : Int32) (y_list : Nat → Int32) (s33 : Int32 × (Nat → Int32)) (s61 : Int32 × Int32) : Option ((Int32 × Int32) ⊕ (Int32)) :=
  if y_n ≤ s61.2 then (some (Sum.inr s61.1)) else (if s61.1 ≤ 0 then (some (Sum.inr s61.1)) else (Option.bind (pX10_asked y_sets y_list s33.2 s33.1 s61.2) (fun r6 => if s61.1 ≤ r6 then (some (Sum.inl (s61.1, s61.2 + 1))) else (some (Sum.inl (r6, s61.2 + 1))))))
noncomputable def pX10_questions_L33 (y_n : Int32) (y_sets : Int32) (y_list : Nat → Int32) (s33 : Int32 × (Nat → Int32)) : Option ((Int32 × (Nat → Int32)) ⊕ (Nat → Int32)) :=
  if (1 <<< (y_sets &&& 31)) ≤ s33.1 then (some (Sum.inr s33.2)) else (Option.bind (if (s33.1 &&& (s33.1 - 1)) = 0 then (some 0) else (some 100) : Option (Int32)) (fun t57 => Option.bind (lp (pX10_questions_L61_4 y_n y_sets y_list s33) (t57, 0)) (fun e61 => gd (vp_in s33.1 4096) (some (Sum.inl (s33.1 + 1, upd s33.2 s33.1.toNatClampNeg e61))))))
noncomputable def pX10_questions_L137 (y_n : Int32) (y_sets : Int32) (y_list : Nat → Int32) (e33 : Nat → Int32) (s137 : Int32) : Option ((Int32) ⊕ ((Int32) ⊕ (Unit))) :=
  if y_n ≤ s137 then (some (Sum.inr (Sum.inr ()))) else (if y_sets ≤ 1 then (some (Sum.inr (Sum.inr ()))) else (Option.bind (pX10_asked y_sets y_list e33 ((1 <<< (y_sets &&& 31)) - 1) s137) (fun r9 => gd (vp_in ((1 <<< (y_sets &&& 31)) - 1) 4096) (if r9 = (e33 ((1 <<< (y_sets &&& 31)) - 1).toNatClampNeg) then (some (Sum.inr (Sum.inl s137))) else (some (Sum.inl (s137 + 1)))))))
noncomputable def pX10_questions (y_n : Int32) (y_sets : Int32) (y_list : Nat → Int32) (y_worst : Nat → Int32) (p1 : Int32) : Option (Int32 × (Nat → Int32)) :=
  Option.bind (pX10_in p1.toInt64 0 1) (fun r1 => if r1 = 0 then (some ((-2), y_worst)) else (Option.bind (pX10_in y_sets.toInt64 1 12) (fun r2 => if r2 = 0 then (some ((-3), y_worst)) else (Option.bind (lp (pX10_questions_L33 y_n y_sets y_list) (1, y_worst)) (fun e33 => if p1 = 0 then (gd (vp_in ((1 <<< (y_sets &&& 31)) - 1) 4096) (some (e33 ((1 <<< (y_sets &&& 31)) - 1).toNatClampNeg, e33))) else (Option.bind (lp (pX10_questions_L137 y_n y_sets y_list e33) 0) (Sum.elim (fun e137_0 => some (e137_0, e33)) (fun e137_1 => some ((-1), e33)))))))))
set_option maxHeartbeats 4000000 in
set_option maxRecDepth 100000 in
theorem c_X10_questions (l : Launch) (dC : Nat → ClassId) (dI : Nat → Nat → Nat) (a_y : Nat) (a_y_list : Nat) (a_y_others : Nat) (a_y_costs : Nat) (a_y_table : Nat) (a_y_basis : Nat) (a_y_isSeen : Nat) (a_y_colour : Nat) (a_y_rest : Nat) (a_y_makes : Nat) (a_y_worst : Nat) (c_y_list c_y_worst : ClassId) (sz : Nat) (y_n : Int32) (y_sets : Int32) (y_otherMany : Int32) (y_above : Int64) (y_below : Int64) (y_by : Int64) (y_list : Nat → Int32) (y_worst : Nat → Int32) (p1 : Int32) (rv : Int32 × (Nat → Int32)) (hs : pX10_questions y_n y_sets y_list y_worst p1 = some rv) : Met l yX10_questions wsX10_questions ({ frames := 1, cells := 0, slots := 0, locals := 25 }) (sPc [.ref a_y, .int p1] (dC, dI) [(c_y_list, .int), (c_y_worst, .int)] [(a_y, .inr (10, [.int y_n, .ref a_y_list, .int y_sets, .ref a_y_others, .int y_otherMany, .ref a_y_costs, .long y_above, .long y_below, .ref a_y_table, .long y_by, .ref a_y_basis, .ref a_y_isSeen, .ref a_y_colour, .ref a_y_rest, .ref a_y_makes, .ref a_y_worst])), (a_y_list, .inl (c_y_list, 16, .inl y_list)), (a_y_worst, .inl (c_y_worst, 4096, .inl y_worst))] sz) (va_Qi (fun (r : Int32) (_ : Unit) => r = rv.1) (sB (dC, dI) [(c_y_list, .int), (c_y_worst, .int)] (va_A [(a_y, .inr (10, [.int y_n, .ref a_y_list, .int y_sets, .ref a_y_others, .int y_otherMany, .ref a_y_costs, .long y_above, .long y_below, .ref a_y_table, .long y_by, .ref a_y_basis, .ref a_y_isSeen, .ref a_y_colour, .ref a_y_rest, .ref a_y_makes, .ref a_y_worst])), (a_y_list, .inl (c_y_list, 16, .inl y_list)), (a_y_worst, .inl (c_y_worst, 4096, .inl y_worst))] sz) [(a_y, .inr (10, [.int y_n, .ref a_y_list, .int y_sets, .ref a_y_others, .int y_otherMany, .ref a_y_costs, .long y_above, .long y_below, .ref a_y_table, .long y_by, .ref a_y_basis, .ref a_y_isSeen, .ref a_y_colour, .ref a_y_rest, .ref a_y_makes, .ref a_y_worst])), (a_y_list, .inl (c_y_list, 16, .inl y_list)), (a_y_worst, .inl (c_y_worst, 4096, .inl rv.2))]) (va_A [(a_y, .inr (10, [.int y_n, .ref a_y_list, .int y_sets, .ref a_y_others, .int y_otherMany, .ref a_y_costs, .long y_above, .long y_below, .ref a_y_table, .long y_by, .ref a_y_basis, .ref a_y_isSeen, .ref a_y_colour, .ref a_y_rest, .ref a_y_makes, .ref a_y_worst])), (a_y_list, .inl (c_y_list, 16, .inl y_list)), (a_y_worst, .inl (c_y_worst, 4096, .inl y_worst))] sz)) 0 0 (va_A [(a_y, .inr (10, [.int y_n, .ref a_y_list, .int y_sets, .ref a_y_others, .int y_otherMany, .ref a_y_costs, .long y_above, .long y_below, .ref a_y_table, .long y_by, .ref a_y_basis, .ref a_y_isSeen, .ref a_y_colour, .ref a_y_rest, .ref a_y_makes, .ref a_y_worst])), (a_y_list, .inl (c_y_list, 16, .inl y_list)), (a_y_worst, .inl (c_y_worst, 4096, .inl y_worst))] sz) := by
  refine Met.ofW (cc := cX10_questions) (maxL := 6) (ret := (some .int)) (by decide) rfl ?_
  intro p e s m args below meth c s₁ B hml hv
  obtain ⟨rfl, hsz, hP, hK, hD0, hN⟩ := hv
  have hx := B.exec
  have hb := B.bytes
  have hr := B.returns
  have hts := atoms_spec (ws := wsX10_questions) B.pre
  have hown : s.vm.findClass RX10 = some m.cls := findClass_of_methodNamed B.named
  have hlocks := B.notSynchronized
  subst hsz
  have hD := hD0.self (sz := s.heap.size)
  generalize hAe : va_A [(a_y, .inr (10, [.int y_n, .ref a_y_list, .int y_sets, .ref a_y_others, .int y_otherMany, .ref a_y_costs, .long y_above, .long y_below, .ref a_y_table, .long y_by, .ref a_y_basis, .ref a_y_isSeen, .ref a_y_colour, .ref a_y_rest, .ref a_y_makes, .ref a_y_worst])), (a_y_list, .inl (c_y_list, 16, .inl y_list)), (a_y_worst, .inl (c_y_worst, 4096, .inl y_worst))] s.heap.size = A at hD hN ⊢
  have hA : ∀ q : Nat, s.heap.size ≤ q → A q := fun q h => by rw [← hAe]; exact Or.inr h
  have hS : va_S A s.heap s.heap [] := va_S.rf
  have hP : va_P (dC, dI) vwCl [(a_y, .inr (10, [.int y_n, .ref a_y_list, .int y_sets, .ref a_y_others, .int y_otherMany, .ref a_y_costs, .long y_above, .long y_below, .ref a_y_table, .long y_by, .ref a_y_basis, .ref a_y_isSeen, .ref a_y_colour, .ref a_y_rest, .ref a_y_makes, .ref a_y_worst])), (a_y_list, .inl (c_y_list, 16, .inl y_list)), (a_y_worst, .inl (c_y_worst, 4096, .inl y_worst))] s.heap := hP
  have hl := lv_entry ([.ref a_y, .int p1]) (n := 6) (Nat.le_of_ble_eq_true rfl)
  rw [lg_entry_eq]
  generalize (lg_sl ([.ref a_y, .int p1]) ++ List.replicate (6 - (lg_sl ([.ref a_y, .int p1])).length) Slot.unset).toArray = ls at hl ⊢
  have hl : lv_has ls 6 [(0, .ref a_y), (1, .int p1)] := hl
  have hiX10 : ∀ w ∈ wsX100, w ∈ wsX10_questions := fun _ h => List.mem_cons_of_mem _ (List.mem_append_right _ h)
  have hf61 := hts (.fieldLink RX10 61 "MeetSetsModel" "sets" "I") (t1_ (al_ h1_))
  have hf43 := hts (.fieldLink RX10 43 "MeetSetsModel" "n" "I") (t1_ (al_ (t1_ (t1_ h1_))))
  have hf40 := hts (.fieldLink RX10 40 "MeetSetsModel" "worst" "[I") (t1_ (al_ (t1_ (t1_ (t1_ h1_)))))
  refine w_abs (fun Z hZv hZw => ?_)
  refine hZv ?_
  obtain ⟨H, hH⟩ : ∃ H, H = s.heap := ⟨_, rfl⟩
  obtain ⟨locs, hlo⟩ : ∃ L : List Loc, L = [] := ⟨_, rfl⟩
  rw [← hlo, ← hH]
  have hS : va_S A s.heap H locs := by rw [hlo, hH]; exact hS
  have hP : va_P (dC, dI) vwCl [(a_y, .inr (10, [.int y_n, .ref a_y_list, .int y_sets, .ref a_y_others, .int y_otherMany, .ref a_y_costs, .long y_above, .long y_below, .ref a_y_table, .long y_by, .ref a_y_basis, .ref a_y_isSeen, .ref a_y_colour, .ref a_y_rest, .ref a_y_makes, .ref a_y_worst])), (a_y_list, .inl (c_y_list, 16, .inl y_list)), (a_y_worst, .inl (c_y_worst, 4096, .inl y_worst))] H := by rw [hH]; exact hP
  clear hH hlo
  unfold pX10_questions at hs
  refine lv_iload_n hx hb dX10_questions_0 rfl (lv_at hl 1 rfl) ?_
  refine lv_i2l (v := p1.toInt64) hx hb dX10_questions_1 rfl ?_
  refine lv_lconst (v := 0) hx hb dX10_questions_2 (by decide) ?_
  refine lv_lconst (v := 1) hx hb dX10_questions_3 (by decide) ?_
  obtain ⟨r1, hr1, hs⟩ := bd_s hs
  refine kc_i (isC := []) (isR := [0, 1, 2]) (pm := [0, 1, 2]) (wr := [(a_y, .inr (10, [.int y_n, .ref a_y_list, .int y_sets, .ref a_y_others, .int y_otherMany, .ref a_y_costs, .long y_above, .long y_below, .ref a_y_table, .long y_by, .ref a_y_basis, .ref a_y_isSeen, .ref a_y_colour, .ref a_y_rest, .ref a_y_makes, .ref a_y_worst])), (a_y_list, .inl (c_y_list, 16, .inl y_list)), (a_y_worst, .inl (c_y_worst, 4096, .inl y_worst))]) (w1 := []) (w2 := [(a_y, .inr (10, [.int y_n, .ref a_y_list, .int y_sets, .ref a_y_others, .int y_otherMany, .ref a_y_costs, .long y_above, .long y_below, .ref a_y_table, .long y_by, .ref a_y_basis, .ref a_y_isSeen, .ref a_y_colour, .ref a_y_rest, .ref a_y_makes, .ref a_y_worst])), (a_y_list, .inl (c_y_list, 16, .inl y_list)), (a_y_worst, .inl (c_y_worst, 4096, .inl y_worst))]) (va_runS (As := [.long p1.toInt64, .long 0, .long 1]) (rest := []) ⟨hx, hb, hml, hown, hts⟩ (c_X10_in l dC dI H.size p1.toInt64 0 1 r1 hr1) (va_cwS 3 hts gX10_questions_X10_in rfl rfl rfl (by decide +kernel) ⟨Nat.le_of_ble_eq_true rfl, Nat.le_of_ble_eq_true rfl⟩) (kp_S hK hP hD hS hA hN (isC := []) (isT := []) (wc := []) rfl (by decide +kernel) rfl) rfl rfl hl.1 rfl (lv_room (Nat.le_of_ble_eq_true rfl)) dX10_questions_4 ⟨Nat.le_of_ble_eq_true rfl, Nat.le_of_ble_eq_true rfl⟩) hP hD hS hA rfl rfl (by decide +kernel) (by decide +kernel) rfl (by decide +kernel) (fun H locs hP hD hS => ?_)
  refine lv_if_ne (tgt := 13) hx hb dX10_questions_7 (by decide) (fun hc => ?_) (fun hc => ?_)
  · replace hs := it_f hc hs
    refine lv_aload_n hx hb dX10_questions_13 rfl (lv_at hl 0 rfl) ?_
    refine va_get (D := (dC, dI)) (ci := 10) (v := .int y_sets) (C := RX10) (T := TX10) (N := 16) hx hb hts hiX10 hown hK hP 0 rfl rfl 2 (by decide) hf61 (fun _ h9 => h9) rfl dX10_questions_14 ?_
    refine lv_i2l (v := y_sets.toInt64) hx hb dX10_questions_17 rfl ?_
    refine lv_lconst (v := 1) hx hb dX10_questions_18 (by decide) ?_
    refine lv_ldc2 (v := 12) hx hb hown (hts (.constantLong RX10 177 (12)) (t1_ (al_ (t1_ h1_)))) dX10_questions_19 ?_
    obtain ⟨r2, hr2, hs⟩ := bd_s hs
    refine kc_i (isC := []) (isR := [0, 1, 2]) (pm := [0, 1, 2]) (wr := [(a_y, .inr (10, [.int y_n, .ref a_y_list, .int y_sets, .ref a_y_others, .int y_otherMany, .ref a_y_costs, .long y_above, .long y_below, .ref a_y_table, .long y_by, .ref a_y_basis, .ref a_y_isSeen, .ref a_y_colour, .ref a_y_rest, .ref a_y_makes, .ref a_y_worst])), (a_y_list, .inl (c_y_list, 16, .inl y_list)), (a_y_worst, .inl (c_y_worst, 4096, .inl y_worst))]) (w1 := []) (w2 := [(a_y, .inr (10, [.int y_n, .ref a_y_list, .int y_sets, .ref a_y_others, .int y_otherMany, .ref a_y_costs, .long y_above, .long y_below, .ref a_y_table, .long y_by, .ref a_y_basis, .ref a_y_isSeen, .ref a_y_colour, .ref a_y_rest, .ref a_y_makes, .ref a_y_worst])), (a_y_list, .inl (c_y_list, 16, .inl y_list)), (a_y_worst, .inl (c_y_worst, 4096, .inl y_worst))]) (va_runS (As := [.long y_sets.toInt64, .long 1, .long 12]) (rest := []) ⟨hx, hb, hml, hown, hts⟩ (c_X10_in l dC dI H.size y_sets.toInt64 1 12 r2 hr2) (va_cwS 3 hts gX10_questions_X10_in rfl rfl rfl (by decide +kernel) ⟨Nat.le_of_ble_eq_true rfl, Nat.le_of_ble_eq_true rfl⟩) (kp_S hK hP hD hS hA hN (isC := []) (isT := []) (wc := []) rfl (by decide +kernel) rfl) rfl rfl hl.1 rfl (lv_room (Nat.le_of_ble_eq_true rfl)) dX10_questions_22 ⟨Nat.le_of_ble_eq_true rfl, Nat.le_of_ble_eq_true rfl⟩) hP hD hS hA rfl rfl (by decide +kernel) (by decide +kernel) rfl (by decide +kernel) (fun H locs hP hD hS => ?_)
    refine lv_if_ne (tgt := 31) hx hb dX10_questions_25 (by decide) (fun hc => ?_) (fun hc => ?_)
    · replace hs := it_f hc hs
      refine lv_iconst (v := 1) hx hb dX10_questions_31 (by decide) ?_
      refine lv_istore_n (lv' := [(2, .int 1), (0, .ref a_y), (1, .int p1)]) hx hb dX10_questions_32 rfl hl (by decide) rfl (fun ls hl => ?_)
      obtain ⟨e33, he33, hs⟩ := bd_s hs
      have hX33 : ∀ (H : Heap) (locs : List Loc) (ls : Array Slot), va_P (dC, dI) vwCl [(a_y, .inr (10, [.int y_n, .ref a_y_list, .int y_sets, .ref a_y_others, .int y_otherMany, .ref a_y_costs, .long y_above, .long y_below, .ref a_y_table, .long y_by, .ref a_y_basis, .ref a_y_isSeen, .ref a_y_colour, .ref a_y_rest, .ref a_y_makes, .ref a_y_worst])), (a_y_list, .inl (c_y_list, 16, .inl y_list)), (a_y_worst, .inl (c_y_worst, 4096, .inl e33))] H → va_D A [(a_y, .inr (10, [.int y_n, .ref a_y_list, .int y_sets, .ref a_y_others, .int y_otherMany, .ref a_y_costs, .long y_above, .long y_below, .ref a_y_table, .long y_by, .ref a_y_basis, .ref a_y_isSeen, .ref a_y_colour, .ref a_y_rest, .ref a_y_makes, .ref a_y_worst])), (a_y_list, .inl (c_y_list, 16, .inl y_list)), (a_y_worst, .inl (c_y_worst, 4096, .inl e33))] → va_S A s.heap H locs → lv_has ls 6 [(0, .ref a_y), (1, .int p1)] → Z H locs 0 0 (F0 m 115 ls []) := by
        intro H locs ls hP hD hS hl
        refine hZv ?_
        refine lv_iconst (v := 1) hx hb dX10_questions_115 (by decide) ?_
        refine lv_aload_n hx hb dX10_questions_116 rfl (lv_at hl 0 rfl) ?_
        refine va_get (D := (dC, dI)) (ci := 10) (v := .int y_sets) (C := RX10) (T := TX10) (N := 16) hx hb hts hiX10 hown hK hP 0 rfl rfl 2 (by decide) hf61 (fun _ h9 => h9) rfl dX10_questions_117 ?_
        refine lv_ishl hx hb dX10_questions_120 ?_
        refine lv_iconst (v := 1) hx hb dX10_questions_121 (by decide) ?_
        refine lv_isub hx hb dX10_questions_122 ?_
        refine lv_istore_n (lv' := [(2, .int ((1 <<< (y_sets &&& 31)) - 1)), (0, .ref a_y), (1, .int p1)]) hx hb dX10_questions_123 rfl hl (by decide) rfl (fun ls hl => ?_)
        refine lv_iload_n hx hb dX10_questions_124 rfl (lv_at hl 2 rfl) ?_
        refine lv_if_ne (tgt := 135) hx hb dX10_questions_125 (by decide) (fun hc => ?_) (fun hc => ?_)
        · replace hs := it_f hc hs
          refine lv_iconst (v := 0) hx hb dX10_questions_135 (by decide) ?_
          refine lv_istore_n (lv' := [(3, .int 0), (2, .int ((1 <<< (y_sets &&& 31)) - 1)), (0, .ref a_y), (1, .int p1)]) hx hb dX10_questions_136 rfl hl (by decide) rfl (fun ls hl => ?_)
          obtain ⟨e137, he137, hs⟩ := bd_s hs
          have hX137_0 : ∀ (e137_0 : Int32), (Sum.inl e137_0) = e137 → ∀ (H : Heap) (locs : List Loc) (ls : Array Slot), va_P (dC, dI) vwCl [(a_y, .inr (10, [.int y_n, .ref a_y_list, .int y_sets, .ref a_y_others, .int y_otherMany, .ref a_y_costs, .long y_above, .long y_below, .ref a_y_table, .long y_by, .ref a_y_basis, .ref a_y_isSeen, .ref a_y_colour, .ref a_y_rest, .ref a_y_makes, .ref a_y_worst])), (a_y_list, .inl (c_y_list, 16, .inl y_list)), (a_y_worst, .inl (c_y_worst, 4096, .inl e33))] H → va_D A [(a_y, .inr (10, [.int y_n, .ref a_y_list, .int y_sets, .ref a_y_others, .int y_otherMany, .ref a_y_costs, .long y_above, .long y_below, .ref a_y_table, .long y_by, .ref a_y_basis, .ref a_y_isSeen, .ref a_y_colour, .ref a_y_rest, .ref a_y_makes, .ref a_y_worst])), (a_y_list, .inl (c_y_list, 16, .inl y_list)), (a_y_worst, .inl (c_y_worst, 4096, .inl e33))] → va_S A s.heap H locs → lv_has ls 6 [(3, .int e137_0)] → Z H locs 0 0 (F0 m 168 ls []) := by
            intro e137_0 he H locs ls hP hD hS hl
            subst he
            replace hs := sm_l hs
            refine hZv ?_
            refine lv_iload_n hx hb dX10_questions_168 rfl (lv_at hl 0 rfl) ?_
            replace hs := Option.some.inj hs
            subst hs
            exact W.iret (v := e137_0) hx hb hr (fun t ht hW => ⟨⟨e137_0, (), rfl, rfl, by rw [ht]; exact hP, va_K.moved hW.alike hK, hD⟩, hS.F ht⟩) hS.2.2 dX10_questions_169
          have hX137_1 : ∀ (e137_1 : Unit), (Sum.inr e137_1) = e137 → ∀ (H : Heap) (locs : List Loc) (ls : Array Slot), va_P (dC, dI) vwCl [(a_y, .inr (10, [.int y_n, .ref a_y_list, .int y_sets, .ref a_y_others, .int y_otherMany, .ref a_y_costs, .long y_above, .long y_below, .ref a_y_table, .long y_by, .ref a_y_basis, .ref a_y_isSeen, .ref a_y_colour, .ref a_y_rest, .ref a_y_makes, .ref a_y_worst])), (a_y_list, .inl (c_y_list, 16, .inl y_list)), (a_y_worst, .inl (c_y_worst, 4096, .inl e33))] H → va_D A [(a_y, .inr (10, [.int y_n, .ref a_y_list, .int y_sets, .ref a_y_others, .int y_otherMany, .ref a_y_costs, .long y_above, .long y_below, .ref a_y_table, .long y_by, .ref a_y_basis, .ref a_y_isSeen, .ref a_y_colour, .ref a_y_rest, .ref a_y_makes, .ref a_y_worst])), (a_y_list, .inl (c_y_list, 16, .inl y_list)), (a_y_worst, .inl (c_y_worst, 4096, .inl e33))] → va_S A s.heap H locs → lv_has ls 6 [] → Z H locs 0 0 (F0 m 176 ls []) := by
            intro e137_1 he H locs ls hP hD hS hl
            subst he
            replace hs := sm_r hs
            refine hZv ?_
            refine lv_iconst (v := (-1)) hx hb dX10_questions_176 (by decide) ?_
            replace hs := Option.some.inj hs
            subst hs
            exact W.iret (v := (-1)) hx hb hr (fun t ht hW => ⟨⟨(-1), (), rfl, rfl, by rw [ht]; exact hP, va_K.moved hW.alike hK, hD⟩, hS.F ht⟩) hS.2.2 dX10_questions_177
          clear hs
          have hL137 : ∀ (n : Nat) (s137 : Int32) (H : Heap) (locs : List Loc) (ls : Array Slot), itr (pX10_questions_L137 y_n y_sets y_list e33) n s137 = some e137 → va_P (dC, dI) vwCl [(a_y, .inr (10, [.int y_n, .ref a_y_list, .int y_sets, .ref a_y_others, .int y_otherMany, .ref a_y_costs, .long y_above, .long y_below, .ref a_y_table, .long y_by, .ref a_y_basis, .ref a_y_isSeen, .ref a_y_colour, .ref a_y_rest, .ref a_y_makes, .ref a_y_worst])), (a_y_list, .inl (c_y_list, 16, .inl y_list)), (a_y_worst, .inl (c_y_worst, 4096, .inl e33))] H → va_D A [(a_y, .inr (10, [.int y_n, .ref a_y_list, .int y_sets, .ref a_y_others, .int y_otherMany, .ref a_y_costs, .long y_above, .long y_below, .ref a_y_table, .long y_by, .ref a_y_basis, .ref a_y_isSeen, .ref a_y_colour, .ref a_y_rest, .ref a_y_makes, .ref a_y_worst])), (a_y_list, .inl (c_y_list, 16, .inl y_list)), (a_y_worst, .inl (c_y_worst, 4096, .inl e33))] → va_S A s.heap H locs → lv_has ls 6 [(0, .ref a_y), (2, .int ((1 <<< (y_sets &&& 31)) - 1)), (3, .int s137)] → Z H locs 0 0 (F0 m 137 ls []) := by
            intro n
            induction n with
            | zero =>
              intro s137 H locs ls hn
              exact (itr_0 hn).elim
            | succ n ih =>
              intro s137 H locs ls hn hP hD hS hl
              obtain ⟨y8, hs, hn⟩ := itr_s hn
              unfold pX10_questions_L137 at hs
              refine hZv ?_
              refine lv_iload_n hx hb dX10_questions_137 rfl (lv_at hl 2 rfl) ?_
              refine lv_aload_n hx hb dX10_questions_138 rfl (lv_at hl 0 rfl) ?_
              refine va_get (D := (dC, dI)) (ci := 10) (v := .int y_n) (C := RX10) (T := TX10) (N := 16) hx hb hts hiX10 hown hK hP 0 rfl rfl 0 (by decide) hf43 (fun _ h9 => h9) rfl dX10_questions_139 ?_
              refine lv_icmp_ge (tgt := 176) hx hb dX10_questions_142 (by decide) (fun hc => ?_) (fun hc => ?_)
              · replace hs := it_t hc hs
                replace hs := Option.some.inj hs
                subst hs
                obtain rfl : (Sum.inr ()) = e137 := hn
                exact hZw (hX137_1 () rfl H locs ls hP hD hS (lv_sub hl [] rfl))
              · replace hs := it_f hc hs
                refine lv_aload_n hx hb dX10_questions_145 rfl (lv_at hl 0 rfl) ?_
                refine va_get (D := (dC, dI)) (ci := 10) (v := .int y_sets) (C := RX10) (T := TX10) (N := 16) hx hb hts hiX10 hown hK hP 0 rfl rfl 2 (by decide) hf61 (fun _ h9 => h9) rfl dX10_questions_146 ?_
                refine lv_iconst (v := 1) hx hb dX10_questions_149 (by decide) ?_
                refine lv_icmp_le (tgt := 176) hx hb dX10_questions_150 (by decide) (fun hc => ?_) (fun hc => ?_)
                · replace hs := it_t hc hs
                  replace hs := Option.some.inj hs
                  subst hs
                  obtain rfl : (Sum.inr ()) = e137 := hn
                  exact hZw (hX137_1 () rfl H locs ls hP hD hS (lv_sub hl [] rfl))
                · replace hs := it_f hc hs
                  refine lv_aload_n hx hb dX10_questions_153 rfl (lv_at hl 0 rfl) ?_
                  refine lv_iload_n hx hb dX10_questions_154 rfl (lv_at hl 1 rfl) ?_
                  refine lv_iload_n hx hb dX10_questions_155 rfl (lv_at hl 2 rfl) ?_
                  obtain ⟨r9, hr9, hs⟩ := bd_s hs
                  refine kc_i (isC := [0, 1, 2]) (isR := []) (pm := [0, 1, 2]) (wr := []) (w1 := [(a_y, .inr (10, [.int y_n, .ref a_y_list, .int y_sets, .ref a_y_others, .int y_otherMany, .ref a_y_costs, .long y_above, .long y_below, .ref a_y_table, .long y_by, .ref a_y_basis, .ref a_y_isSeen, .ref a_y_colour, .ref a_y_rest, .ref a_y_makes, .ref a_y_worst])), (a_y_list, .inl (c_y_list, 16, .inl y_list)), (a_y_worst, .inl (c_y_worst, 4096, .inl e33))]) (w2 := [(a_y, .inr (10, [.int y_n, .ref a_y_list, .int y_sets, .ref a_y_others, .int y_otherMany, .ref a_y_costs, .long y_above, .long y_below, .ref a_y_table, .long y_by, .ref a_y_basis, .ref a_y_isSeen, .ref a_y_colour, .ref a_y_rest, .ref a_y_makes, .ref a_y_worst])), (a_y_list, .inl (c_y_list, 16, .inl y_list)), (a_y_worst, .inl (c_y_worst, 4096, .inl e33))]) (va_runV (As := [.int ((1 <<< (y_sets &&& 31)) - 1), .int s137]) (rest := []) ⟨hx, hb, hml, hown, hts⟩ (c_X10_asked l dC dI a_y a_y_list a_y_others a_y_costs a_y_table a_y_basis a_y_isSeen a_y_colour a_y_rest a_y_makes a_y_worst c_y_list c_y_worst H.size y_n y_sets y_otherMany y_above y_below y_by y_list e33 ((1 <<< (y_sets &&& 31)) - 1) s137 r9 hr9) (cwV 2 hts gX10_questions_X10_asked rfl rfl rfl (by decide +kernel) ⟨Nat.le_of_ble_eq_true rfl, Nat.le_of_ble_eq_true rfl⟩) (kp_V hK hP hD hS hA hN (isC := [0, 1, 2]) (isT := [0, 1]) (wc := [(a_y, .inr (10, [.int y_n, .ref a_y_list, .int y_sets, .ref a_y_others, .int y_otherMany, .ref a_y_costs, .long y_above, .long y_below, .ref a_y_table, .long y_by, .ref a_y_basis, .ref a_y_isSeen, .ref a_y_colour, .ref a_y_rest, .ref a_y_makes, .ref a_y_worst])), (a_y_list, .inl (c_y_list, 16, .inl y_list)), (a_y_worst, .inl (c_y_worst, 4096, .inl e33))]) rfl (by decide +kernel) rfl (ci := 10) (q0 := 0) rfl rfl) rfl rfl hl.1 rfl (lv_room (Nat.le_of_ble_eq_true rfl)) dX10_questions_156 ⟨Nat.le_of_ble_eq_true rfl, Nat.le_of_ble_eq_true rfl⟩) hP hD hS hA rfl rfl (by decide +kernel) (by decide +kernel) rfl (by decide +kernel) (fun H locs hP hD hS => ?_)
                  refine lv_aload_n hx hb dX10_questions_159 rfl (lv_at hl 0 rfl) ?_
                  refine va_get (D := (dC, dI)) (ci := 10) (v := .ref a_y_worst) (C := RX10) (T := TX10) (N := 16) hx hb hts hiX10 hown hK hP 0 rfl rfl 15 (by decide) hf40 (fun _ h9 => h9) rfl dX10_questions_160 ?_
                  refine lv_iload_n hx hb dX10_questions_163 rfl (lv_at hl 1 rfl) ?_
                  obtain ⟨hg10, hs⟩ := gd_s hs
                  refine va_iald hx hb hK hP 2 1 rfl rfl hg10 dX10_questions_164 ?_
                  refine lv_icmp_ne (tgt := 170) hx hb dX10_questions_165 (by decide) (fun hc => ?_) (fun hc => ?_)
                  · replace hs := it_f hc hs
                    refine lv_iinc (v := s137 + 1) (lv' := [(3, .int (s137 + 1)), (0, .ref a_y), (2, .int ((1 <<< (y_sets &&& 31)) - 1))]) hx hb dX10_questions_170 hl (k := 2) rfl (by rfl) (by decide) rfl (fun ls hl => ?_)
                    refine lv_goto (tgt := 137) hx hb dX10_questions_173 (by decide) ?_
                    replace hs := Option.some.inj hs
                    subst hs
                    exact hZw (ih (s137 + 1) H locs ls hn hP hD hS (lv_sub hl [1, 2, 0] rfl))
                  · replace hs := it_t hc hs
                    replace hs := Option.some.inj hs
                    subst hs
                    obtain rfl : (Sum.inl s137) = e137 := hn
                    exact hZw (hX137_0 s137 rfl H locs ls hP hD hS (lv_sub hl [2] rfl))
          obtain ⟨n137, hn137⟩ := lp_ex he137
          exact hZw (hL137 n137 0 H locs ls hn137 hP hD hS (lv_sub hl [2, 1, 0] rfl))
        · replace hs := it_t hc hs
          refine lv_aload_n hx hb dX10_questions_128 rfl (lv_at hl 1 rfl) ?_
          refine va_get (D := (dC, dI)) (ci := 10) (v := .ref a_y_worst) (C := RX10) (T := TX10) (N := 16) hx hb hts hiX10 hown hK hP 0 rfl rfl 15 (by decide) hf40 (fun _ h9 => h9) rfl dX10_questions_129 ?_
          refine lv_iload_n hx hb dX10_questions_132 rfl (lv_at hl 0 rfl) ?_
          obtain ⟨hg11, hs⟩ := gd_s hs
          refine va_iald hx hb hK hP 2 1 rfl rfl hg11 dX10_questions_133 ?_
          replace hs := Option.some.inj hs
          subst hs
          exact W.iret (v := e33 ((1 <<< (y_sets &&& 31)) - 1).toNatClampNeg) hx hb hr (fun t ht hW => ⟨⟨e33 ((1 <<< (y_sets &&& 31)) - 1).toNatClampNeg, (), rfl, rfl, by rw [ht]; exact hP, va_K.moved hW.alike hK, hD⟩, hS.F ht⟩) hS.2.2 dX10_questions_134
      clear hs
      have hL33 : ∀ (n : Nat) (s33 : Int32 × (Nat → Int32)) (H : Heap) (locs : List Loc) (ls : Array Slot), itr (pX10_questions_L33 y_n y_sets y_list) n s33 = some e33 → va_P (dC, dI) vwCl [(a_y, .inr (10, [.int y_n, .ref a_y_list, .int y_sets, .ref a_y_others, .int y_otherMany, .ref a_y_costs, .long y_above, .long y_below, .ref a_y_table, .long y_by, .ref a_y_basis, .ref a_y_isSeen, .ref a_y_colour, .ref a_y_rest, .ref a_y_makes, .ref a_y_worst])), (a_y_list, .inl (c_y_list, 16, .inl y_list)), (a_y_worst, .inl (c_y_worst, 4096, .inl s33.2))] H → va_D A [(a_y, .inr (10, [.int y_n, .ref a_y_list, .int y_sets, .ref a_y_others, .int y_otherMany, .ref a_y_costs, .long y_above, .long y_below, .ref a_y_table, .long y_by, .ref a_y_basis, .ref a_y_isSeen, .ref a_y_colour, .ref a_y_rest, .ref a_y_makes, .ref a_y_worst])), (a_y_list, .inl (c_y_list, 16, .inl y_list)), (a_y_worst, .inl (c_y_worst, 4096, .inl s33.2))] → va_S A s.heap H locs → lv_has ls 6 [(0, .ref a_y), (1, .int p1), (2, .int s33.1)] → Z H locs 0 0 (F0 m 33 ls []) := by
        intro n
        induction n with
        | zero =>
          intro s33 H locs ls hn
          exact (itr_0 hn).elim
        | succ n ih =>
          intro s33 H locs ls hn hP hD hS hl
          obtain ⟨y3, hs, hn⟩ := itr_s hn
          unfold pX10_questions_L33 at hs
          refine hZv ?_
          refine lv_iload_n hx hb dX10_questions_33 rfl (lv_at hl 2 rfl) ?_
          refine lv_iconst (v := 1) hx hb dX10_questions_34 (by decide) ?_
          refine lv_aload_n hx hb dX10_questions_35 rfl (lv_at hl 0 rfl) ?_
          refine va_get (D := (dC, dI)) (ci := 10) (v := .int y_sets) (C := RX10) (T := TX10) (N := 16) hx hb hts hiX10 hown hK hP 0 rfl rfl 2 (by decide) hf61 (fun _ h9 => h9) rfl dX10_questions_36 ?_
          refine lv_ishl hx hb dX10_questions_39 ?_
          refine lv_icmp_ge (tgt := 115) hx hb dX10_questions_40 (by decide) (fun hc => ?_) (fun hc => ?_)
          · replace hs := it_t hc hs
            replace hs := Option.some.inj hs
            subst hs
            obtain rfl : s33.2 = e33 := hn
            exact hZw (hX33 H locs ls hP hD hS (lv_sub hl [0, 1] rfl))
          · replace hs := it_f hc hs
            refine lv_iload_n hx hb dX10_questions_43 rfl (lv_at hl 2 rfl) ?_
            refine lv_iload_n hx hb dX10_questions_44 rfl (lv_at hl 2 rfl) ?_
            refine lv_iconst (v := 1) hx hb dX10_questions_45 (by decide) ?_
            refine lv_isub hx hb dX10_questions_46 ?_
            refine lv_iand hx hb dX10_questions_47 ?_
            obtain ⟨t57, hq57, hs⟩ := bd_s hs
            have hJ57 : ∀ (H : Heap) (locs : List Loc) (ls : Array Slot), va_P (dC, dI) vwCl [(a_y, .inr (10, [.int y_n, .ref a_y_list, .int y_sets, .ref a_y_others, .int y_otherMany, .ref a_y_costs, .long y_above, .long y_below, .ref a_y_table, .long y_by, .ref a_y_basis, .ref a_y_isSeen, .ref a_y_colour, .ref a_y_rest, .ref a_y_makes, .ref a_y_worst])), (a_y_list, .inl (c_y_list, 16, .inl y_list)), (a_y_worst, .inl (c_y_worst, 4096, .inl s33.2))] H → va_D A [(a_y, .inr (10, [.int y_n, .ref a_y_list, .int y_sets, .ref a_y_others, .int y_otherMany, .ref a_y_costs, .long y_above, .long y_below, .ref a_y_table, .long y_by, .ref a_y_basis, .ref a_y_isSeen, .ref a_y_colour, .ref a_y_rest, .ref a_y_makes, .ref a_y_worst])), (a_y_list, .inl (c_y_list, 16, .inl y_list)), (a_y_worst, .inl (c_y_worst, 4096, .inl s33.2))] → va_S A s.heap H locs → lv_has ls 6 [(0, .ref a_y), (1, .int p1), (2, .int s33.1)] → Z H locs 0 0 (F0 m 57 ls [.int t57]) := by
              intro H locs ls hP hD hS hl
              refine hZv ?_
              refine lv_istore_n (lv' := [(3, .int t57), (0, .ref a_y), (1, .int p1), (2, .int s33.1)]) hx hb dX10_questions_57 rfl hl (by decide) rfl (fun ls hl => ?_)
              refine lv_iconst (v := 0) hx hb dX10_questions_58 (by decide) ?_
              refine lv_istore (lv' := [(4, .int 0), (3, .int t57), (0, .ref a_y), (1, .int p1), (2, .int s33.1)]) hx hb dX10_questions_59 hl (by decide) rfl (fun ls hl => ?_)
              obtain ⟨e61, he61, hs⟩ := bd_s hs
              have hX61 : ∀ (H : Heap) (locs : List Loc) (ls : Array Slot), va_P (dC, dI) vwCl [(a_y, .inr (10, [.int y_n, .ref a_y_list, .int y_sets, .ref a_y_others, .int y_otherMany, .ref a_y_costs, .long y_above, .long y_below, .ref a_y_table, .long y_by, .ref a_y_basis, .ref a_y_isSeen, .ref a_y_colour, .ref a_y_rest, .ref a_y_makes, .ref a_y_worst])), (a_y_list, .inl (c_y_list, 16, .inl y_list)), (a_y_worst, .inl (c_y_worst, 4096, .inl s33.2))] H → va_D A [(a_y, .inr (10, [.int y_n, .ref a_y_list, .int y_sets, .ref a_y_others, .int y_otherMany, .ref a_y_costs, .long y_above, .long y_below, .ref a_y_table, .long y_by, .ref a_y_basis, .ref a_y_isSeen, .ref a_y_colour, .ref a_y_rest, .ref a_y_makes, .ref a_y_worst])), (a_y_list, .inl (c_y_list, 16, .inl y_list)), (a_y_worst, .inl (c_y_worst, 4096, .inl s33.2))] → va_S A s.heap H locs → lv_has ls 6 [(0, .ref a_y), (1, .int p1), (2, .int s33.1), (3, .int e61)] → Z H locs 0 0 (F0 m 102 ls []) := by
                intro H locs ls hP hD hS hl
                refine hZv ?_
                refine lv_aload_n hx hb dX10_questions_102 rfl (lv_at hl 0 rfl) ?_
                refine va_get (D := (dC, dI)) (ci := 10) (v := .ref a_y_worst) (C := RX10) (T := TX10) (N := 16) hx hb hts hiX10 hown hK hP 0 rfl rfl 15 (by decide) hf40 (fun _ h9 => h9) rfl dX10_questions_103 ?_
                refine lv_iload_n hx hb dX10_questions_106 rfl (lv_at hl 2 rfl) ?_
                refine lv_iload_n hx hb dX10_questions_107 rfl (lv_at hl 3 rfl) ?_
                obtain ⟨hg7, hs⟩ := gd_s hs
                refine va_iast hx hb hK hP hD hS 2 1 rfl rfl hg7 dX10_questions_108 (fun H locs hP hD hS => ?_)
                have hP : va_P (dC, dI) vwCl [(a_y, .inr (10, [.int y_n, .ref a_y_list, .int y_sets, .ref a_y_others, .int y_otherMany, .ref a_y_costs, .long y_above, .long y_below, .ref a_y_table, .long y_by, .ref a_y_basis, .ref a_y_isSeen, .ref a_y_colour, .ref a_y_rest, .ref a_y_makes, .ref a_y_worst])), (a_y_list, .inl (c_y_list, 16, .inl y_list)), (a_y_worst, .inl (c_y_worst, 4096, .inl (upd s33.2 s33.1.toNatClampNeg e61)))] H := hP
                have hD : va_D A [(a_y, .inr (10, [.int y_n, .ref a_y_list, .int y_sets, .ref a_y_others, .int y_otherMany, .ref a_y_costs, .long y_above, .long y_below, .ref a_y_table, .long y_by, .ref a_y_basis, .ref a_y_isSeen, .ref a_y_colour, .ref a_y_rest, .ref a_y_makes, .ref a_y_worst])), (a_y_list, .inl (c_y_list, 16, .inl y_list)), (a_y_worst, .inl (c_y_worst, 4096, .inl (upd s33.2 s33.1.toNatClampNeg e61)))] := hD
                refine lv_iinc (v := s33.1 + 1) (lv' := [(2, .int (s33.1 + 1)), (0, .ref a_y), (1, .int p1), (3, .int e61)]) hx hb dX10_questions_109 hl (k := 2) rfl (by rfl) (by decide) rfl (fun ls hl => ?_)
                refine lv_goto (tgt := 33) hx hb dX10_questions_112 (by decide) ?_
                replace hs := Option.some.inj hs
                subst hs
                exact hZw (ih (s33.1 + 1, upd s33.2 s33.1.toNatClampNeg e61) H locs ls hn hP hD hS (lv_sub hl [1, 2, 0] rfl))
              clear hs
              have hL61 : ∀ (n : Nat) (s61 : Int32 × Int32) (H : Heap) (locs : List Loc) (ls : Array Slot), itr (pX10_questions_L61_4 y_n y_sets y_list s33) n s61 = some e61 → va_P (dC, dI) vwCl [(a_y, .inr (10, [.int y_n, .ref a_y_list, .int y_sets, .ref a_y_others, .int y_otherMany, .ref a_y_costs, .long y_above, .long y_below, .ref a_y_table, .long y_by, .ref a_y_basis, .ref a_y_isSeen, .ref a_y_colour, .ref a_y_rest, .ref a_y_makes, .ref a_y_worst])), (a_y_list, .inl (c_y_list, 16, .inl y_list)), (a_y_worst, .inl (c_y_worst, 4096, .inl s33.2))] H → va_D A [(a_y, .inr (10, [.int y_n, .ref a_y_list, .int y_sets, .ref a_y_others, .int y_otherMany, .ref a_y_costs, .long y_above, .long y_below, .ref a_y_table, .long y_by, .ref a_y_basis, .ref a_y_isSeen, .ref a_y_colour, .ref a_y_rest, .ref a_y_makes, .ref a_y_worst])), (a_y_list, .inl (c_y_list, 16, .inl y_list)), (a_y_worst, .inl (c_y_worst, 4096, .inl s33.2))] → va_S A s.heap H locs → lv_has ls 6 [(0, .ref a_y), (1, .int p1), (2, .int s33.1), (3, .int s61.1), (4, .int s61.2)] → Z H locs 0 0 (F0 m 61 ls []) := by
                intro n
                induction n with
                | zero =>
                  intro s61 H locs ls hn
                  exact (itr_0 hn).elim
                | succ n ih =>
                  intro s61 H locs ls hn hP hD hS hl
                  obtain ⟨y5, hs, hn⟩ := itr_s hn
                  unfold pX10_questions_L61_4 at hs
                  refine hZv ?_
                  refine lv_iload hx hb dX10_questions_61 (lv_at hl 4 rfl) ?_
                  refine lv_aload_n hx hb dX10_questions_63 rfl (lv_at hl 0 rfl) ?_
                  refine va_get (D := (dC, dI)) (ci := 10) (v := .int y_n) (C := RX10) (T := TX10) (N := 16) hx hb hts hiX10 hown hK hP 0 rfl rfl 0 (by decide) hf43 (fun _ h9 => h9) rfl dX10_questions_64 ?_
                  refine lv_icmp_ge (tgt := 102) hx hb dX10_questions_67 (by decide) (fun hc => ?_) (fun hc => ?_)
                  · replace hs := it_t hc hs
                    replace hs := Option.some.inj hs
                    subst hs
                    obtain rfl : s61.1 = e61 := hn
                    exact hZw (hX61 H locs ls hP hD hS (lv_sub hl [0, 1, 2, 3] rfl))
                  · replace hs := it_f hc hs
                    refine lv_iload_n hx hb dX10_questions_70 rfl (lv_at hl 3 rfl) ?_
                    refine lv_if_le (tgt := 102) hx hb dX10_questions_71 (by decide) (fun hc => ?_) (fun hc => ?_)
                    · replace hs := it_t hc hs
                      replace hs := Option.some.inj hs
                      subst hs
                      obtain rfl : s61.1 = e61 := hn
                      exact hZw (hX61 H locs ls hP hD hS (lv_sub hl [0, 1, 2, 3] rfl))
                    · replace hs := it_f hc hs
                      refine lv_aload_n hx hb dX10_questions_74 rfl (lv_at hl 0 rfl) ?_
                      refine lv_iload_n hx hb dX10_questions_75 rfl (lv_at hl 2 rfl) ?_
                      refine lv_iload hx hb dX10_questions_76 (lv_at hl 4 rfl) ?_
                      obtain ⟨r6, hr6, hs⟩ := bd_s hs
                      refine kc_i (isC := [0, 1, 2]) (isR := []) (pm := [0, 1, 2]) (wr := []) (w1 := [(a_y, .inr (10, [.int y_n, .ref a_y_list, .int y_sets, .ref a_y_others, .int y_otherMany, .ref a_y_costs, .long y_above, .long y_below, .ref a_y_table, .long y_by, .ref a_y_basis, .ref a_y_isSeen, .ref a_y_colour, .ref a_y_rest, .ref a_y_makes, .ref a_y_worst])), (a_y_list, .inl (c_y_list, 16, .inl y_list)), (a_y_worst, .inl (c_y_worst, 4096, .inl s33.2))]) (w2 := [(a_y, .inr (10, [.int y_n, .ref a_y_list, .int y_sets, .ref a_y_others, .int y_otherMany, .ref a_y_costs, .long y_above, .long y_below, .ref a_y_table, .long y_by, .ref a_y_basis, .ref a_y_isSeen, .ref a_y_colour, .ref a_y_rest, .ref a_y_makes, .ref a_y_worst])), (a_y_list, .inl (c_y_list, 16, .inl y_list)), (a_y_worst, .inl (c_y_worst, 4096, .inl s33.2))]) (va_runV (As := [.int s33.1, .int s61.2]) (rest := []) ⟨hx, hb, hml, hown, hts⟩ (c_X10_asked l dC dI a_y a_y_list a_y_others a_y_costs a_y_table a_y_basis a_y_isSeen a_y_colour a_y_rest a_y_makes a_y_worst c_y_list c_y_worst H.size y_n y_sets y_otherMany y_above y_below y_by y_list s33.2 s33.1 s61.2 r6 hr6) (cwV 2 hts gX10_questions_X10_asked rfl rfl rfl (by decide +kernel) ⟨Nat.le_of_ble_eq_true rfl, Nat.le_of_ble_eq_true rfl⟩) (kp_V hK hP hD hS hA hN (isC := [0, 1, 2]) (isT := [0, 1]) (wc := [(a_y, .inr (10, [.int y_n, .ref a_y_list, .int y_sets, .ref a_y_others, .int y_otherMany, .ref a_y_costs, .long y_above, .long y_below, .ref a_y_table, .long y_by, .ref a_y_basis, .ref a_y_isSeen, .ref a_y_colour, .ref a_y_rest, .ref a_y_makes, .ref a_y_worst])), (a_y_list, .inl (c_y_list, 16, .inl y_list)), (a_y_worst, .inl (c_y_worst, 4096, .inl s33.2))]) rfl (by decide +kernel) rfl (ci := 10) (q0 := 0) rfl rfl) rfl rfl hl.1 rfl (lv_room (Nat.le_of_ble_eq_true rfl)) dX10_questions_78 ⟨Nat.le_of_ble_eq_true rfl, Nat.le_of_ble_eq_true rfl⟩) hP hD hS hA rfl rfl (by decide +kernel) (by decide +kernel) rfl (by decide +kernel) (fun H locs hP hD hS => ?_)
                      refine lv_istore (lv' := [(5, .int r6), (0, .ref a_y), (1, .int p1), (2, .int s33.1), (3, .int s61.1), (4, .int s61.2)]) hx hb dX10_questions_81 hl (by decide) rfl (fun ls hl => ?_)
                      refine lv_iload hx hb dX10_questions_83 (lv_at hl 0 rfl) ?_
                      refine lv_iload_n hx hb dX10_questions_85 rfl (lv_at hl 4 rfl) ?_
                      refine lv_icmp_ge (tgt := 94) hx hb dX10_questions_86 (by decide) (fun hc => ?_) (fun hc => ?_)
                      · replace hs := it_t hc hs
                        refine lv_iload_n hx hb dX10_questions_94 rfl (lv_at hl 4 rfl) ?_
                        refine lv_istore_n (lv' := [(3, .int s61.1), (5, .int r6), (0, .ref a_y), (1, .int p1), (2, .int s33.1), (4, .int s61.2)]) hx hb dX10_questions_95 rfl hl (by decide) rfl (fun ls hl => ?_)
                        refine lv_iinc (v := s61.2 + 1) (lv' := [(4, .int (s61.2 + 1)), (3, .int s61.1), (5, .int r6), (0, .ref a_y), (1, .int p1), (2, .int s33.1)]) hx hb dX10_questions_96 hl (k := 5) rfl (by rfl) (by decide) rfl (fun ls hl => ?_)
                        refine lv_goto (tgt := 61) hx hb dX10_questions_99 (by decide) ?_
                        replace hs := Option.some.inj hs
                        subst hs
                        exact hZw (ih (s61.1, s61.2 + 1) H locs ls hn hP hD hS (lv_sub hl [3, 4, 5, 1, 0] rfl))
                      · replace hs := it_f hc hs
                        refine lv_iload hx hb dX10_questions_89 (lv_at hl 0 rfl) ?_
                        refine lv_goto (tgt := 95) hx hb dX10_questions_91 (by decide) ?_
                        refine lv_istore_n (lv' := [(3, .int r6), (5, .int r6), (0, .ref a_y), (1, .int p1), (2, .int s33.1), (4, .int s61.2)]) hx hb dX10_questions_95 rfl hl (by decide) rfl (fun ls hl => ?_)
                        refine lv_iinc (v := s61.2 + 1) (lv' := [(4, .int (s61.2 + 1)), (3, .int r6), (5, .int r6), (0, .ref a_y), (1, .int p1), (2, .int s33.1)]) hx hb dX10_questions_96 hl (k := 5) rfl (by rfl) (by decide) rfl (fun ls hl => ?_)
                        refine lv_goto (tgt := 61) hx hb dX10_questions_99 (by decide) ?_
                        replace hs := Option.some.inj hs
                        subst hs
                        exact hZw (ih (r6, s61.2 + 1) H locs ls hn hP hD hS (lv_sub hl [3, 4, 5, 1, 0] rfl))
              obtain ⟨n61, hn61⟩ := lp_ex he61
              exact hZw (hL61 n61 (t57, 0) H locs ls hn61 hP hD hS (lv_sub hl [2, 3, 4, 1, 0] rfl))
            clear hs
            have hs := hq57
            refine lv_if_ne (tgt := 55) hx hb dX10_questions_48 (by decide) (fun hc => ?_) (fun hc => ?_)
            · replace hs := it_f hc hs
              refine lv_bipush (v := 100) hx hb dX10_questions_55 (by decide) ?_
              replace hs := Option.some.inj hs
              subst hs
              exact hZw (hJ57 H locs ls hP hD hS hl)
            · replace hs := it_t hc hs
              refine lv_iconst (v := 0) hx hb dX10_questions_51 (by decide) ?_
              refine lv_goto (tgt := 57) hx hb dX10_questions_52 (by decide) ?_
              replace hs := Option.some.inj hs
              subst hs
              exact hZw (hJ57 H locs ls hP hD hS hl)
      obtain ⟨n33, hn33⟩ := lp_ex he33
      exact hZw (hL33 n33 (1, y_worst) H locs ls hn33 hP hD hS (lv_sub hl [1, 2, 0] rfl))
    · replace hs := it_t hc hs
      refine lv_bipush (v := (-3)) hx hb dX10_questions_28 (by decide) ?_
      replace hs := Option.some.inj hs
      subst hs
      exact W.iret (v := (-3)) hx hb hr (fun t ht hW => ⟨⟨(-3), (), rfl, rfl, by rw [ht]; exact hP, va_K.moved hW.alike hK, hD⟩, hS.F ht⟩) hS.2.2 dX10_questions_30
  · replace hs := it_t hc hs
    refine lv_bipush (v := (-2)) hx hb dX10_questions_10 (by decide) ?_
    replace hs := Option.some.inj hs
    subst hs
    exact W.iret (v := (-2)) hx hb hr (fun t ht hW => ⟨⟨(-2), (), rfl, rfl, by rw [ht]; exact hP, va_K.moved hW.alike hK, hD⟩, hS.F ht⟩) hS.2.2 dX10_questions_12
noncomputable def pX10_count (y_n : Int32) (y_sets : Int32) (y_otherMany : Int32) (p1 : Int32) : Option (Int32) :=
  if p1 = 0 then (some y_n) else (if p1 = 1 then (some y_sets) else (if p1 = 2 then (some y_otherMany) else (some (-2))))
set_option maxHeartbeats 4000000 in
set_option maxRecDepth 100000 in
theorem c_X10_count (l : Launch) (dC : Nat → ClassId) (dI : Nat → Nat → Nat) (a_y : Nat) (a_y_list : Nat) (a_y_others : Nat) (a_y_costs : Nat) (a_y_table : Nat) (a_y_basis : Nat) (a_y_isSeen : Nat) (a_y_colour : Nat) (a_y_rest : Nat) (a_y_makes : Nat) (a_y_worst : Nat) (sz : Nat) (y_n : Int32) (y_sets : Int32) (y_otherMany : Int32) (y_above : Int64) (y_below : Int64) (y_by : Int64) (p1 : Int32) (rv : Int32) (hs : pX10_count y_n y_sets y_otherMany p1 = some rv) : Met l yX10_count wsX10_count ({ frames := 0, cells := 0, slots := 0, locals := 0 }) (sPc [.ref a_y, .int p1] (dC, dI) [] [(a_y, .inr (10, [.int y_n, .ref a_y_list, .int y_sets, .ref a_y_others, .int y_otherMany, .ref a_y_costs, .long y_above, .long y_below, .ref a_y_table, .long y_by, .ref a_y_basis, .ref a_y_isSeen, .ref a_y_colour, .ref a_y_rest, .ref a_y_makes, .ref a_y_worst]))] sz) (va_Qi (fun (r : Int32) (_ : Unit) => r = rv) (sB (dC, dI) [] (va_A [(a_y, .inr (10, [.int y_n, .ref a_y_list, .int y_sets, .ref a_y_others, .int y_otherMany, .ref a_y_costs, .long y_above, .long y_below, .ref a_y_table, .long y_by, .ref a_y_basis, .ref a_y_isSeen, .ref a_y_colour, .ref a_y_rest, .ref a_y_makes, .ref a_y_worst]))] sz) [(a_y, .inr (10, [.int y_n, .ref a_y_list, .int y_sets, .ref a_y_others, .int y_otherMany, .ref a_y_costs, .long y_above, .long y_below, .ref a_y_table, .long y_by, .ref a_y_basis, .ref a_y_isSeen, .ref a_y_colour, .ref a_y_rest, .ref a_y_makes, .ref a_y_worst]))]) (va_A [(a_y, .inr (10, [.int y_n, .ref a_y_list, .int y_sets, .ref a_y_others, .int y_otherMany, .ref a_y_costs, .long y_above, .long y_below, .ref a_y_table, .long y_by, .ref a_y_basis, .ref a_y_isSeen, .ref a_y_colour, .ref a_y_rest, .ref a_y_makes, .ref a_y_worst]))] sz)) 0 0 (va_A [(a_y, .inr (10, [.int y_n, .ref a_y_list, .int y_sets, .ref a_y_others, .int y_otherMany, .ref a_y_costs, .long y_above, .long y_below, .ref a_y_table, .long y_by, .ref a_y_basis, .ref a_y_isSeen, .ref a_y_colour, .ref a_y_rest, .ref a_y_makes, .ref a_y_worst]))] sz) := by
  refine Met.ofW (cc := cX10_count) (maxL := 2) (ret := (some .int)) (by decide) rfl ?_
  intro p e s m args below meth c s₁ B hml hv
  obtain ⟨rfl, hsz, hP, hK, hD0, hN⟩ := hv
  have hx := B.exec
  have hb := B.bytes
  have hr := B.returns
  have hts := atoms_spec (ws := wsX10_count) B.pre
  have hown : s.vm.findClass RX10 = some m.cls := findClass_of_methodNamed B.named
  have hlocks := B.notSynchronized
  subst hsz
  have hD := hD0.self (sz := s.heap.size)
  generalize hAe : va_A [(a_y, .inr (10, [.int y_n, .ref a_y_list, .int y_sets, .ref a_y_others, .int y_otherMany, .ref a_y_costs, .long y_above, .long y_below, .ref a_y_table, .long y_by, .ref a_y_basis, .ref a_y_isSeen, .ref a_y_colour, .ref a_y_rest, .ref a_y_makes, .ref a_y_worst]))] s.heap.size = A at hD hN ⊢
  have hA : ∀ q : Nat, s.heap.size ≤ q → A q := fun q h => by rw [← hAe]; exact Or.inr h
  have hS : va_S A s.heap s.heap [] := va_S.rf
  have hP : va_P (dC, dI) vwCl [(a_y, .inr (10, [.int y_n, .ref a_y_list, .int y_sets, .ref a_y_others, .int y_otherMany, .ref a_y_costs, .long y_above, .long y_below, .ref a_y_table, .long y_by, .ref a_y_basis, .ref a_y_isSeen, .ref a_y_colour, .ref a_y_rest, .ref a_y_makes, .ref a_y_worst]))] s.heap := hP
  have hl := lv_entry ([.ref a_y, .int p1]) (n := 2) (Nat.le_of_ble_eq_true rfl)
  rw [lg_entry_eq]
  generalize (lg_sl ([.ref a_y, .int p1]) ++ List.replicate (2 - (lg_sl ([.ref a_y, .int p1])).length) Slot.unset).toArray = ls at hl ⊢
  have hl : lv_has ls 2 [(0, .ref a_y), (1, .int p1)] := hl
  have hiX10 : ∀ w ∈ wsX100, w ∈ wsX10_count := fun _ h => List.mem_cons_of_mem _ (List.mem_append_right _ h)
  have hf64 := hts (.fieldLink RX10 64 "MeetSetsModel" "otherMany" "I") (t1_ (al_ (t1_ (t1_ h1_))))
  have hf61 := hts (.fieldLink RX10 61 "MeetSetsModel" "sets" "I") (t1_ (al_ (t1_ h1_)))
  have hf43 := hts (.fieldLink RX10 43 "MeetSetsModel" "n" "I") (t1_ (al_ h1_))
  refine w_abs (fun Z hZv hZw => ?_)
  refine hZv ?_
  obtain ⟨H, hH⟩ : ∃ H, H = s.heap := ⟨_, rfl⟩
  obtain ⟨locs, hlo⟩ : ∃ L : List Loc, L = [] := ⟨_, rfl⟩
  rw [← hlo, ← hH]
  have hS : va_S A s.heap H locs := by rw [hlo, hH]; exact hS
  have hP : va_P (dC, dI) vwCl [(a_y, .inr (10, [.int y_n, .ref a_y_list, .int y_sets, .ref a_y_others, .int y_otherMany, .ref a_y_costs, .long y_above, .long y_below, .ref a_y_table, .long y_by, .ref a_y_basis, .ref a_y_isSeen, .ref a_y_colour, .ref a_y_rest, .ref a_y_makes, .ref a_y_worst]))] H := by rw [hH]; exact hP
  clear hH hlo
  unfold pX10_count at hs
  refine lv_iload_n hx hb dX10_count_0 rfl (lv_at hl 1 rfl) ?_
  refine lv_if_ne (tgt := 11) hx hb dX10_count_1 (by decide) (fun hc => ?_) (fun hc => ?_)
  · replace hs := it_f hc hs
    refine lv_iload_n hx hb dX10_count_11 rfl (lv_at hl 1 rfl) ?_
    refine lv_iconst (v := 1) hx hb dX10_count_12 (by decide) ?_
    refine lv_icmp_ne (tgt := 23) hx hb dX10_count_13 (by decide) (fun hc => ?_) (fun hc => ?_)
    · replace hs := it_f hc hs
      refine lv_iload_n hx hb dX10_count_23 rfl (lv_at hl 1 rfl) ?_
      refine lv_iconst (v := 2) hx hb dX10_count_24 (by decide) ?_
      refine lv_icmp_ne (tgt := 35) hx hb dX10_count_25 (by decide) (fun hc => ?_) (fun hc => ?_)
      · replace hs := it_f hc hs
        refine lv_bipush (v := (-2)) hx hb dX10_count_35 (by decide) ?_
        replace hs := Option.some.inj hs
        subst hs
        exact W.iret (v := (-2)) hx hb hr (fun t ht hW => ⟨⟨(-2), (), rfl, rfl, by rw [ht]; exact hP, va_K.moved hW.alike hK, hD⟩, hS.F ht⟩) hS.2.2 dX10_count_37
      · replace hs := it_t hc hs
        refine lv_aload_n hx hb dX10_count_28 rfl (lv_at hl 0 rfl) ?_
        refine va_get (D := (dC, dI)) (ci := 10) (v := .int y_otherMany) (C := RX10) (T := TX10) (N := 16) hx hb hts hiX10 hown hK hP 0 rfl rfl 4 (by decide) hf64 (fun _ h9 => h9) rfl dX10_count_29 ?_
        refine lv_goto (tgt := 37) hx hb dX10_count_32 (by decide) ?_
        replace hs := Option.some.inj hs
        subst hs
        exact W.iret (v := y_otherMany) hx hb hr (fun t ht hW => ⟨⟨y_otherMany, (), rfl, rfl, by rw [ht]; exact hP, va_K.moved hW.alike hK, hD⟩, hS.F ht⟩) hS.2.2 dX10_count_37
    · replace hs := it_t hc hs
      refine lv_aload_n hx hb dX10_count_16 rfl (lv_at hl 0 rfl) ?_
      refine va_get (D := (dC, dI)) (ci := 10) (v := .int y_sets) (C := RX10) (T := TX10) (N := 16) hx hb hts hiX10 hown hK hP 0 rfl rfl 2 (by decide) hf61 (fun _ h9 => h9) rfl dX10_count_17 ?_
      refine lv_goto (tgt := 37) hx hb dX10_count_20 (by decide) ?_
      replace hs := Option.some.inj hs
      subst hs
      exact W.iret (v := y_sets) hx hb hr (fun t ht hW => ⟨⟨y_sets, (), rfl, rfl, by rw [ht]; exact hP, va_K.moved hW.alike hK, hD⟩, hS.F ht⟩) hS.2.2 dX10_count_37
  · replace hs := it_t hc hs
    refine lv_aload_n hx hb dX10_count_4 rfl (lv_at hl 0 rfl) ?_
    refine va_get (D := (dC, dI)) (ci := 10) (v := .int y_n) (C := RX10) (T := TX10) (N := 16) hx hb hts hiX10 hown hK hP 0 rfl rfl 0 (by decide) hf43 (fun _ h9 => h9) rfl dX10_count_5 ?_
    refine lv_goto (tgt := 37) hx hb dX10_count_8 (by decide) ?_
    replace hs := Option.some.inj hs
    subst hs
    exact W.iret (v := y_n) hx hb hr (fun t ht hW => ⟨⟨y_n, (), rfl, rfl, by rw [ht]; exact hP, va_K.moved hW.alike hK, hD⟩, hS.F ht⟩) hS.2.2 dX10_count_37
noncomputable def pX10_digest_L32 (y_sets : Int32) (y_list : Nat → Int32) (s32 : Int64 × Int32) : Option ((Int64 × Int32) ⊕ (Int64)) :=
  if y_sets ≤ s32.2 then (some (Sum.inr s32.1)) else (gd (vp_in s32.2 16) (some (Sum.inl ((31 * s32.1) + ((y_list s32.2.toNatClampNeg).toInt64), s32.2 + 1))))
noncomputable def pX10_digest_L62 (y_otherMany : Int32) (y_others : Nat → Int32) (s62 : Int64 × Int32) : Option ((Int64 × Int32) ⊕ (Int64)) :=
  if y_otherMany ≤ s62.2 then (some (Sum.inr s62.1)) else (gd (vp_in s62.2 40) (some (Sum.inl ((31 * s62.1) + ((y_others s62.2.toNatClampNeg).toInt64), s62.2 + 1))))
noncomputable def pX10_digest_L92 (y_n : Int32) (y_costs : Nat → Int32) (s92 : Int64 × Int32) : Option ((Int64 × Int32) ⊕ (Int64)) :=
  if y_n ≤ s92.2 then (some (Sum.inr s92.1)) else (gd (vp_in s92.2 10) (some (Sum.inl ((31 * s92.1) + ((y_costs s92.2.toNatClampNeg).toInt64), s92.2 + 1))))
noncomputable def pX10_digest (y_n : Int32) (y_sets : Int32) (y_otherMany : Int32) (y_above : Int64) (y_below : Int64) (y_list : Nat → Int32) (y_others : Nat → Int32) (y_costs : Nat → Int32) (y_rest : Nat → Int32) : Option (Int64 × (Nat → Int32)) :=
  Option.bind (lp (pX10_digest_L32 y_sets y_list) ((31 * ((31 * (13609 + y_n.toInt64)) + y_sets.toInt64)) + y_otherMany.toInt64, 0)) (fun e32 => Option.bind (lp (pX10_digest_L62 y_otherMany y_others) (e32, 0)) (fun e62 => Option.bind (lp (pX10_digest_L92 y_n y_costs) (e62, 0)) (fun e92 => Option.bind (pX10_many y_n y_sets y_list) (fun r7 => Option.bind (pX10_bestOf y_n y_sets y_list y_costs 0) (fun r8 => Option.bind (pX10_bestOf y_n y_sets y_list y_costs 1) (fun r9 => Option.bind (pX10_apartOf y_sets y_list) (fun r10 => Option.bind (pX10_earsOf y_n y_sets y_list y_rest) (fun r11 => some ((31 * ((31 * ((31 * ((31 * ((31 * ((31 * ((31 * e92) + r7.toInt64)) + r8.toInt64)) + r9.toInt64)) + r10.toInt64)) + r11.1.toInt64)) + y_above)) + y_below, r11.2)))))))))
set_option maxHeartbeats 4000000 in
set_option maxRecDepth 100000 in
theorem c_X10_digest (l : Launch) (dC : Nat → ClassId) (dI : Nat → Nat → Nat) (a_y : Nat) (a_y_list : Nat) (a_y_others : Nat) (a_y_costs : Nat) (a_y_table : Nat) (a_y_basis : Nat) (a_y_isSeen : Nat) (a_y_colour : Nat) (a_y_rest : Nat) (a_y_makes : Nat) (a_y_worst : Nat) (c_y_list c_y_others c_y_costs c_y_rest : ClassId) (sz : Nat) (y_n : Int32) (y_sets : Int32) (y_otherMany : Int32) (y_above : Int64) (y_below : Int64) (y_by : Int64) (y_list : Nat → Int32) (y_others : Nat → Int32) (y_costs : Nat → Int32) (y_rest : Nat → Int32) (rv : Int64 × (Nat → Int32)) (hs : pX10_digest y_n y_sets y_otherMany y_above y_below y_list y_others y_costs y_rest = some rv) : Met l yX10_digest wsX10_digest ({ frames := 3, cells := 0, slots := 0, locals := 68 }) (sPc [.ref a_y] (dC, dI) [(c_y_list, .int), (c_y_others, .int), (c_y_costs, .int), (c_y_rest, .int)] [(a_y, .inr (10, [.int y_n, .ref a_y_list, .int y_sets, .ref a_y_others, .int y_otherMany, .ref a_y_costs, .long y_above, .long y_below, .ref a_y_table, .long y_by, .ref a_y_basis, .ref a_y_isSeen, .ref a_y_colour, .ref a_y_rest, .ref a_y_makes, .ref a_y_worst])), (a_y_list, .inl (c_y_list, 16, .inl y_list)), (a_y_others, .inl (c_y_others, 40, .inl y_others)), (a_y_costs, .inl (c_y_costs, 10, .inl y_costs)), (a_y_rest, .inl (c_y_rest, 16, .inl y_rest))] sz) (va_Ql (fun (r : Int64) (_ : Unit) => r = rv.1) (sB (dC, dI) [(c_y_list, .int), (c_y_others, .int), (c_y_costs, .int), (c_y_rest, .int)] (va_A [(a_y, .inr (10, [.int y_n, .ref a_y_list, .int y_sets, .ref a_y_others, .int y_otherMany, .ref a_y_costs, .long y_above, .long y_below, .ref a_y_table, .long y_by, .ref a_y_basis, .ref a_y_isSeen, .ref a_y_colour, .ref a_y_rest, .ref a_y_makes, .ref a_y_worst])), (a_y_list, .inl (c_y_list, 16, .inl y_list)), (a_y_others, .inl (c_y_others, 40, .inl y_others)), (a_y_costs, .inl (c_y_costs, 10, .inl y_costs)), (a_y_rest, .inl (c_y_rest, 16, .inl y_rest))] sz) [(a_y, .inr (10, [.int y_n, .ref a_y_list, .int y_sets, .ref a_y_others, .int y_otherMany, .ref a_y_costs, .long y_above, .long y_below, .ref a_y_table, .long y_by, .ref a_y_basis, .ref a_y_isSeen, .ref a_y_colour, .ref a_y_rest, .ref a_y_makes, .ref a_y_worst])), (a_y_list, .inl (c_y_list, 16, .inl y_list)), (a_y_others, .inl (c_y_others, 40, .inl y_others)), (a_y_costs, .inl (c_y_costs, 10, .inl y_costs)), (a_y_rest, .inl (c_y_rest, 16, .inl rv.2))]) (va_A [(a_y, .inr (10, [.int y_n, .ref a_y_list, .int y_sets, .ref a_y_others, .int y_otherMany, .ref a_y_costs, .long y_above, .long y_below, .ref a_y_table, .long y_by, .ref a_y_basis, .ref a_y_isSeen, .ref a_y_colour, .ref a_y_rest, .ref a_y_makes, .ref a_y_worst])), (a_y_list, .inl (c_y_list, 16, .inl y_list)), (a_y_others, .inl (c_y_others, 40, .inl y_others)), (a_y_costs, .inl (c_y_costs, 10, .inl y_costs)), (a_y_rest, .inl (c_y_rest, 16, .inl y_rest))] sz)) 0 0 (va_A [(a_y, .inr (10, [.int y_n, .ref a_y_list, .int y_sets, .ref a_y_others, .int y_otherMany, .ref a_y_costs, .long y_above, .long y_below, .ref a_y_table, .long y_by, .ref a_y_basis, .ref a_y_isSeen, .ref a_y_colour, .ref a_y_rest, .ref a_y_makes, .ref a_y_worst])), (a_y_list, .inl (c_y_list, 16, .inl y_list)), (a_y_others, .inl (c_y_others, 40, .inl y_others)), (a_y_costs, .inl (c_y_costs, 10, .inl y_costs)), (a_y_rest, .inl (c_y_rest, 16, .inl y_rest))] sz) := by
  refine Met.ofW (cc := cX10_digest) (maxL := 4) (ret := (some .long)) (by decide) rfl ?_
  intro p e s m args below meth c s₁ B hml hv
  obtain ⟨rfl, hsz, hP, hK, hD0, hN⟩ := hv
  have hx := B.exec
  have hb := B.bytes
  have hr := B.returns
  have hts := atoms_spec (ws := wsX10_digest) B.pre
  have hown : s.vm.findClass RX10 = some m.cls := findClass_of_methodNamed B.named
  have hlocks := B.notSynchronized
  subst hsz
  have hD := hD0.self (sz := s.heap.size)
  generalize hAe : va_A [(a_y, .inr (10, [.int y_n, .ref a_y_list, .int y_sets, .ref a_y_others, .int y_otherMany, .ref a_y_costs, .long y_above, .long y_below, .ref a_y_table, .long y_by, .ref a_y_basis, .ref a_y_isSeen, .ref a_y_colour, .ref a_y_rest, .ref a_y_makes, .ref a_y_worst])), (a_y_list, .inl (c_y_list, 16, .inl y_list)), (a_y_others, .inl (c_y_others, 40, .inl y_others)), (a_y_costs, .inl (c_y_costs, 10, .inl y_costs)), (a_y_rest, .inl (c_y_rest, 16, .inl y_rest))] s.heap.size = A at hD hN ⊢
  have hA : ∀ q : Nat, s.heap.size ≤ q → A q := fun q h => by rw [← hAe]; exact Or.inr h
  have hS : va_S A s.heap s.heap [] := va_S.rf
  have hP : va_P (dC, dI) vwCl [(a_y, .inr (10, [.int y_n, .ref a_y_list, .int y_sets, .ref a_y_others, .int y_otherMany, .ref a_y_costs, .long y_above, .long y_below, .ref a_y_table, .long y_by, .ref a_y_basis, .ref a_y_isSeen, .ref a_y_colour, .ref a_y_rest, .ref a_y_makes, .ref a_y_worst])), (a_y_list, .inl (c_y_list, 16, .inl y_list)), (a_y_others, .inl (c_y_others, 40, .inl y_others)), (a_y_costs, .inl (c_y_costs, 10, .inl y_costs)), (a_y_rest, .inl (c_y_rest, 16, .inl y_rest))] s.heap := hP
  have hl := lv_entry ([.ref a_y]) (n := 4) (Nat.le_of_ble_eq_true rfl)
  rw [lg_entry_eq]
  generalize (lg_sl ([.ref a_y]) ++ List.replicate (4 - (lg_sl ([.ref a_y])).length) Slot.unset).toArray = ls at hl ⊢
  have hl : lv_has ls 4 [(0, .ref a_y)] := hl
  have hiX10 : ∀ w ∈ wsX100, w ∈ wsX10_digest := fun _ h => List.mem_cons_of_mem _ (List.mem_append_right _ h)
  have hf43 := hts (.fieldLink RX10 43 "MeetSetsModel" "n" "I") (t1_ (al_ (al_ (t1_ (t1_ h1_)))))
  have hf61 := hts (.fieldLink RX10 61 "MeetSetsModel" "sets" "I") (t1_ (al_ (al_ (t1_ (t1_ (t1_ h1_))))))
  have hf64 := hts (.fieldLink RX10 64 "MeetSetsModel" "otherMany" "I") (t1_ (al_ (al_ (t4_ h1_))))
  have hf7 := hts (.fieldLink RX10 7 "MeetSetsModel" "list" "[I") (t1_ (al_ (al_ (t4_ (t1_ h1_)))))
  have hf13 := hts (.fieldLink RX10 13 "MeetSetsModel" "others" "[I") (t1_ (al_ (al_ (t4_ (t1_ (t1_ h1_))))))
  have hf16 := hts (.fieldLink RX10 16 "MeetSetsModel" "costs" "[I") (t1_ (al_ (al_ (t4_ (t1_ (t1_ (t1_ h1_)))))))
  have hf108 := hts (.fieldLink RX10 108 "MeetSetsModel" "above" "J") (t1_ (al_ (al_ (t4_ (t4_ h1_)))))
  have hf47 := hts (.fieldLink RX10 47 "MeetSetsModel" "below" "J") (t1_ (al_ (al_ (t4_ (t4_ (t1_ h1_))))))
  refine w_abs (fun Z hZv hZw => ?_)
  refine hZv ?_
  obtain ⟨H, hH⟩ : ∃ H, H = s.heap := ⟨_, rfl⟩
  obtain ⟨locs, hlo⟩ : ∃ L : List Loc, L = [] := ⟨_, rfl⟩
  rw [← hlo, ← hH]
  have hS : va_S A s.heap H locs := by rw [hlo, hH]; exact hS
  have hP : va_P (dC, dI) vwCl [(a_y, .inr (10, [.int y_n, .ref a_y_list, .int y_sets, .ref a_y_others, .int y_otherMany, .ref a_y_costs, .long y_above, .long y_below, .ref a_y_table, .long y_by, .ref a_y_basis, .ref a_y_isSeen, .ref a_y_colour, .ref a_y_rest, .ref a_y_makes, .ref a_y_worst])), (a_y_list, .inl (c_y_list, 16, .inl y_list)), (a_y_others, .inl (c_y_others, 40, .inl y_others)), (a_y_costs, .inl (c_y_costs, 10, .inl y_costs)), (a_y_rest, .inl (c_y_rest, 16, .inl y_rest))] H := by rw [hH]; exact hP
  clear hH hlo
  unfold pX10_digest at hs
  refine lv_ldc2 (v := 31) hx hb hown (hts (.constantLong RX10 182 (31)) (t1_ (al_ (al_ h1_)))) dX10_digest_0 ?_
  refine lv_ldc2 (v := 31) hx hb hown (hts (.constantLong RX10 182 (31)) (t1_ (al_ (al_ h1_)))) dX10_digest_3 ?_
  refine lv_ldc2 (v := 13609) hx hb hown (hts (.constantLong RX10 184 (13609)) (t1_ (al_ (al_ (t1_ h1_))))) dX10_digest_6 ?_
  refine lv_aload_n hx hb dX10_digest_9 rfl (lv_at hl 0 rfl) ?_
  refine va_get (D := (dC, dI)) (ci := 10) (v := .int y_n) (C := RX10) (T := TX10) (N := 16) hx hb hts hiX10 hown hK hP 0 rfl rfl 0 (by decide) hf43 (fun _ h9 => h9) rfl dX10_digest_10 ?_
  refine lv_i2l (v := y_n.toInt64) hx hb dX10_digest_13 rfl ?_
  refine lv_ladd hx hb dX10_digest_14 ?_
  refine lv_lmul hx hb dX10_digest_15 ?_
  refine lv_aload_n hx hb dX10_digest_16 rfl (lv_at hl 0 rfl) ?_
  refine va_get (D := (dC, dI)) (ci := 10) (v := .int y_sets) (C := RX10) (T := TX10) (N := 16) hx hb hts hiX10 hown hK hP 0 rfl rfl 2 (by decide) hf61 (fun _ h9 => h9) rfl dX10_digest_17 ?_
  refine lv_i2l (v := y_sets.toInt64) hx hb dX10_digest_20 rfl ?_
  refine lv_ladd hx hb dX10_digest_21 ?_
  refine lv_lmul hx hb dX10_digest_22 ?_
  refine lv_aload_n hx hb dX10_digest_23 rfl (lv_at hl 0 rfl) ?_
  refine va_get (D := (dC, dI)) (ci := 10) (v := .int y_otherMany) (C := RX10) (T := TX10) (N := 16) hx hb hts hiX10 hown hK hP 0 rfl rfl 4 (by decide) hf64 (fun _ h9 => h9) rfl dX10_digest_24 ?_
  refine lv_i2l (v := y_otherMany.toInt64) hx hb dX10_digest_27 rfl ?_
  refine lv_ladd hx hb dX10_digest_28 ?_
  refine lv_lstore_n (lv' := [(1, .long ((31 * ((31 * (13609 + y_n.toInt64)) + y_sets.toInt64)) + y_otherMany.toInt64)), (0, .ref a_y)]) hx hb dX10_digest_29 rfl hl (by decide) rfl (fun ls hl => ?_)
  refine lv_iconst (v := 0) hx hb dX10_digest_30 (by decide) ?_
  refine lv_istore_n (lv' := [(3, .int 0), (1, .long ((31 * ((31 * (13609 + y_n.toInt64)) + y_sets.toInt64)) + y_otherMany.toInt64)), (0, .ref a_y)]) hx hb dX10_digest_31 rfl hl (by decide) rfl (fun ls hl => ?_)
  obtain ⟨e32, he32, hs⟩ := bd_s hs
  have hX32 : ∀ (H : Heap) (locs : List Loc) (ls : Array Slot), va_P (dC, dI) vwCl [(a_y, .inr (10, [.int y_n, .ref a_y_list, .int y_sets, .ref a_y_others, .int y_otherMany, .ref a_y_costs, .long y_above, .long y_below, .ref a_y_table, .long y_by, .ref a_y_basis, .ref a_y_isSeen, .ref a_y_colour, .ref a_y_rest, .ref a_y_makes, .ref a_y_worst])), (a_y_list, .inl (c_y_list, 16, .inl y_list)), (a_y_others, .inl (c_y_others, 40, .inl y_others)), (a_y_costs, .inl (c_y_costs, 10, .inl y_costs)), (a_y_rest, .inl (c_y_rest, 16, .inl y_rest))] H → va_D A [(a_y, .inr (10, [.int y_n, .ref a_y_list, .int y_sets, .ref a_y_others, .int y_otherMany, .ref a_y_costs, .long y_above, .long y_below, .ref a_y_table, .long y_by, .ref a_y_basis, .ref a_y_isSeen, .ref a_y_colour, .ref a_y_rest, .ref a_y_makes, .ref a_y_worst])), (a_y_list, .inl (c_y_list, 16, .inl y_list)), (a_y_others, .inl (c_y_others, 40, .inl y_others)), (a_y_costs, .inl (c_y_costs, 10, .inl y_costs)), (a_y_rest, .inl (c_y_rest, 16, .inl y_rest))] → va_S A s.heap H locs → lv_has ls 4 [(0, .ref a_y), (1, .long e32)] → Z H locs 0 0 (F0 m 60 ls []) := by
    intro H locs ls hP hD hS hl
    refine hZv ?_
    refine lv_iconst (v := 0) hx hb dX10_digest_60 (by decide) ?_
    refine lv_istore_n (lv' := [(3, .int 0), (0, .ref a_y), (1, .long e32)]) hx hb dX10_digest_61 rfl hl (by decide) rfl (fun ls hl => ?_)
    obtain ⟨e62, he62, hs⟩ := bd_s hs
    have hX62 : ∀ (H : Heap) (locs : List Loc) (ls : Array Slot), va_P (dC, dI) vwCl [(a_y, .inr (10, [.int y_n, .ref a_y_list, .int y_sets, .ref a_y_others, .int y_otherMany, .ref a_y_costs, .long y_above, .long y_below, .ref a_y_table, .long y_by, .ref a_y_basis, .ref a_y_isSeen, .ref a_y_colour, .ref a_y_rest, .ref a_y_makes, .ref a_y_worst])), (a_y_list, .inl (c_y_list, 16, .inl y_list)), (a_y_others, .inl (c_y_others, 40, .inl y_others)), (a_y_costs, .inl (c_y_costs, 10, .inl y_costs)), (a_y_rest, .inl (c_y_rest, 16, .inl y_rest))] H → va_D A [(a_y, .inr (10, [.int y_n, .ref a_y_list, .int y_sets, .ref a_y_others, .int y_otherMany, .ref a_y_costs, .long y_above, .long y_below, .ref a_y_table, .long y_by, .ref a_y_basis, .ref a_y_isSeen, .ref a_y_colour, .ref a_y_rest, .ref a_y_makes, .ref a_y_worst])), (a_y_list, .inl (c_y_list, 16, .inl y_list)), (a_y_others, .inl (c_y_others, 40, .inl y_others)), (a_y_costs, .inl (c_y_costs, 10, .inl y_costs)), (a_y_rest, .inl (c_y_rest, 16, .inl y_rest))] → va_S A s.heap H locs → lv_has ls 4 [(0, .ref a_y), (1, .long e62)] → Z H locs 0 0 (F0 m 90 ls []) := by
      intro H locs ls hP hD hS hl
      refine hZv ?_
      refine lv_iconst (v := 0) hx hb dX10_digest_90 (by decide) ?_
      refine lv_istore_n (lv' := [(3, .int 0), (0, .ref a_y), (1, .long e62)]) hx hb dX10_digest_91 rfl hl (by decide) rfl (fun ls hl => ?_)
      obtain ⟨e92, he92, hs⟩ := bd_s hs
      have hX92 : ∀ (H : Heap) (locs : List Loc) (ls : Array Slot), va_P (dC, dI) vwCl [(a_y, .inr (10, [.int y_n, .ref a_y_list, .int y_sets, .ref a_y_others, .int y_otherMany, .ref a_y_costs, .long y_above, .long y_below, .ref a_y_table, .long y_by, .ref a_y_basis, .ref a_y_isSeen, .ref a_y_colour, .ref a_y_rest, .ref a_y_makes, .ref a_y_worst])), (a_y_list, .inl (c_y_list, 16, .inl y_list)), (a_y_others, .inl (c_y_others, 40, .inl y_others)), (a_y_costs, .inl (c_y_costs, 10, .inl y_costs)), (a_y_rest, .inl (c_y_rest, 16, .inl y_rest))] H → va_D A [(a_y, .inr (10, [.int y_n, .ref a_y_list, .int y_sets, .ref a_y_others, .int y_otherMany, .ref a_y_costs, .long y_above, .long y_below, .ref a_y_table, .long y_by, .ref a_y_basis, .ref a_y_isSeen, .ref a_y_colour, .ref a_y_rest, .ref a_y_makes, .ref a_y_worst])), (a_y_list, .inl (c_y_list, 16, .inl y_list)), (a_y_others, .inl (c_y_others, 40, .inl y_others)), (a_y_costs, .inl (c_y_costs, 10, .inl y_costs)), (a_y_rest, .inl (c_y_rest, 16, .inl y_rest))] → va_S A s.heap H locs → lv_has ls 4 [(0, .ref a_y), (1, .long e92)] → Z H locs 0 0 (F0 m 120 ls []) := by
        intro H locs ls hP hD hS hl
        refine hZv ?_
        refine lv_ldc2 (v := 31) hx hb hown (hts (.constantLong RX10 182 (31)) (t1_ (al_ (al_ h1_)))) dX10_digest_120 ?_
        refine lv_ldc2 (v := 31) hx hb hown (hts (.constantLong RX10 182 (31)) (t1_ (al_ (al_ h1_)))) dX10_digest_123 ?_
        refine lv_ldc2 (v := 31) hx hb hown (hts (.constantLong RX10 182 (31)) (t1_ (al_ (al_ h1_)))) dX10_digest_126 ?_
        refine lv_lload_n hx hb dX10_digest_129 rfl (lv_at hl 1 rfl) ?_
        refine lv_lmul hx hb dX10_digest_130 ?_
        refine lv_aload_n hx hb dX10_digest_131 rfl (lv_at hl 0 rfl) ?_
        obtain ⟨r7, hr7, hs⟩ := bd_s hs
        refine kc_i (isC := [0, 1]) (isR := [2, 3, 4]) (pm := [3, 4, 0, 1, 2]) (wr := [(a_y_others, .inl (c_y_others, 40, .inl y_others)), (a_y_costs, .inl (c_y_costs, 10, .inl y_costs)), (a_y_rest, .inl (c_y_rest, 16, .inl y_rest))]) (w1 := [(a_y, .inr (10, [.int y_n, .ref a_y_list, .int y_sets, .ref a_y_others, .int y_otherMany, .ref a_y_costs, .long y_above, .long y_below, .ref a_y_table, .long y_by, .ref a_y_basis, .ref a_y_isSeen, .ref a_y_colour, .ref a_y_rest, .ref a_y_makes, .ref a_y_worst])), (a_y_list, .inl (c_y_list, 16, .inl y_list))]) (w2 := [(a_y, .inr (10, [.int y_n, .ref a_y_list, .int y_sets, .ref a_y_others, .int y_otherMany, .ref a_y_costs, .long y_above, .long y_below, .ref a_y_table, .long y_by, .ref a_y_basis, .ref a_y_isSeen, .ref a_y_colour, .ref a_y_rest, .ref a_y_makes, .ref a_y_worst])), (a_y_list, .inl (c_y_list, 16, .inl y_list)), (a_y_others, .inl (c_y_others, 40, .inl y_others)), (a_y_costs, .inl (c_y_costs, 10, .inl y_costs)), (a_y_rest, .inl (c_y_rest, 16, .inl y_rest))]) (va_runV (As := []) (rest := [.long (31 * e92), .long 31, .long 31]) ⟨hx, hb, hml, hown, hts⟩ (c_X10_many l dC dI a_y a_y_list a_y_others a_y_costs a_y_table a_y_basis a_y_isSeen a_y_colour a_y_rest a_y_makes a_y_worst c_y_list H.size y_n y_sets y_otherMany y_above y_below y_by y_list r7 hr7) (cwV 0 hts gX10_digest_X10_many rfl rfl rfl (by decide +kernel) ⟨Nat.le_of_ble_eq_true rfl, Nat.le_of_ble_eq_true rfl⟩) (kp_V hK hP hD hS hA hN (isC := [0, 1]) (isT := [0]) (wc := [(a_y, .inr (10, [.int y_n, .ref a_y_list, .int y_sets, .ref a_y_others, .int y_otherMany, .ref a_y_costs, .long y_above, .long y_below, .ref a_y_table, .long y_by, .ref a_y_basis, .ref a_y_isSeen, .ref a_y_colour, .ref a_y_rest, .ref a_y_makes, .ref a_y_worst])), (a_y_list, .inl (c_y_list, 16, .inl y_list))]) rfl (by decide +kernel) rfl (ci := 10) (q0 := 0) rfl rfl) rfl rfl hl.1 rfl (lv_room (Nat.le_of_ble_eq_true rfl)) dX10_digest_132 ⟨Nat.le_of_ble_eq_true rfl, Nat.le_of_ble_eq_true rfl⟩) hP hD hS hA rfl rfl (by decide +kernel) (by decide +kernel) rfl (by decide +kernel) (fun H locs hP hD hS => ?_)
        refine lv_i2l (v := r7.toInt64) hx hb dX10_digest_135 rfl ?_
        refine lv_ladd hx hb dX10_digest_136 ?_
        refine lv_lmul hx hb dX10_digest_137 ?_
        refine lv_aload_n hx hb dX10_digest_138 rfl (lv_at hl 0 rfl) ?_
        refine lv_iconst (v := 0) hx hb dX10_digest_139 (by decide) ?_
        obtain ⟨r8, hr8, hs⟩ := bd_s hs
        refine kc_i (isC := [0, 1, 3]) (isR := [2, 4]) (pm := [2, 3, 0, 4, 1]) (wr := [(a_y_others, .inl (c_y_others, 40, .inl y_others)), (a_y_rest, .inl (c_y_rest, 16, .inl y_rest))]) (w1 := [(a_y, .inr (10, [.int y_n, .ref a_y_list, .int y_sets, .ref a_y_others, .int y_otherMany, .ref a_y_costs, .long y_above, .long y_below, .ref a_y_table, .long y_by, .ref a_y_basis, .ref a_y_isSeen, .ref a_y_colour, .ref a_y_rest, .ref a_y_makes, .ref a_y_worst])), (a_y_list, .inl (c_y_list, 16, .inl y_list)), (a_y_costs, .inl (c_y_costs, 10, .inl y_costs))]) (w2 := [(a_y, .inr (10, [.int y_n, .ref a_y_list, .int y_sets, .ref a_y_others, .int y_otherMany, .ref a_y_costs, .long y_above, .long y_below, .ref a_y_table, .long y_by, .ref a_y_basis, .ref a_y_isSeen, .ref a_y_colour, .ref a_y_rest, .ref a_y_makes, .ref a_y_worst])), (a_y_list, .inl (c_y_list, 16, .inl y_list)), (a_y_others, .inl (c_y_others, 40, .inl y_others)), (a_y_costs, .inl (c_y_costs, 10, .inl y_costs)), (a_y_rest, .inl (c_y_rest, 16, .inl y_rest))]) (va_runV (As := [.int 0]) (rest := [.long (31 * ((31 * e92) + r7.toInt64)), .long 31]) ⟨hx, hb, hml, hown, hts⟩ (c_X10_bestOf l dC dI a_y a_y_list a_y_others a_y_costs a_y_table a_y_basis a_y_isSeen a_y_colour a_y_rest a_y_makes a_y_worst c_y_list c_y_costs H.size y_n y_sets y_otherMany y_above y_below y_by y_list y_costs 0 r8 hr8) (cwV 1 hts gX10_digest_X10_bestOf rfl rfl rfl (by decide +kernel) ⟨Nat.le_of_ble_eq_true rfl, Nat.le_of_ble_eq_true rfl⟩) (kp_V hK hP hD hS hA hN (isC := [0, 1, 3]) (isT := [0, 2]) (wc := [(a_y, .inr (10, [.int y_n, .ref a_y_list, .int y_sets, .ref a_y_others, .int y_otherMany, .ref a_y_costs, .long y_above, .long y_below, .ref a_y_table, .long y_by, .ref a_y_basis, .ref a_y_isSeen, .ref a_y_colour, .ref a_y_rest, .ref a_y_makes, .ref a_y_worst])), (a_y_list, .inl (c_y_list, 16, .inl y_list)), (a_y_costs, .inl (c_y_costs, 10, .inl y_costs))]) rfl (by decide +kernel) rfl (ci := 10) (q0 := 0) rfl rfl) rfl rfl hl.1 rfl (lv_room (Nat.le_of_ble_eq_true rfl)) dX10_digest_140 ⟨Nat.le_of_ble_eq_true rfl, Nat.le_of_ble_eq_true rfl⟩) hP hD hS hA rfl rfl (by decide +kernel) (by decide +kernel) rfl (by decide +kernel) (fun H locs hP hD hS => ?_)
        refine lv_i2l (v := r8.toInt64) hx hb dX10_digest_143 rfl ?_
        refine lv_ladd hx hb dX10_digest_144 ?_
        refine lv_lmul hx hb dX10_digest_145 ?_
        refine lv_aload_n hx hb dX10_digest_146 rfl (lv_at hl 0 rfl) ?_
        refine lv_iconst (v := 1) hx hb dX10_digest_147 (by decide) ?_
        obtain ⟨r9, hr9, hs⟩ := bd_s hs
        refine kc_i (isC := [0, 1, 3]) (isR := [2, 4]) (pm := [2, 3, 0, 4, 1]) (wr := [(a_y_others, .inl (c_y_others, 40, .inl y_others)), (a_y_rest, .inl (c_y_rest, 16, .inl y_rest))]) (w1 := [(a_y, .inr (10, [.int y_n, .ref a_y_list, .int y_sets, .ref a_y_others, .int y_otherMany, .ref a_y_costs, .long y_above, .long y_below, .ref a_y_table, .long y_by, .ref a_y_basis, .ref a_y_isSeen, .ref a_y_colour, .ref a_y_rest, .ref a_y_makes, .ref a_y_worst])), (a_y_list, .inl (c_y_list, 16, .inl y_list)), (a_y_costs, .inl (c_y_costs, 10, .inl y_costs))]) (w2 := [(a_y, .inr (10, [.int y_n, .ref a_y_list, .int y_sets, .ref a_y_others, .int y_otherMany, .ref a_y_costs, .long y_above, .long y_below, .ref a_y_table, .long y_by, .ref a_y_basis, .ref a_y_isSeen, .ref a_y_colour, .ref a_y_rest, .ref a_y_makes, .ref a_y_worst])), (a_y_list, .inl (c_y_list, 16, .inl y_list)), (a_y_others, .inl (c_y_others, 40, .inl y_others)), (a_y_costs, .inl (c_y_costs, 10, .inl y_costs)), (a_y_rest, .inl (c_y_rest, 16, .inl y_rest))]) (va_runV (As := [.int 1]) (rest := [.long (31 * ((31 * ((31 * e92) + r7.toInt64)) + r8.toInt64))]) ⟨hx, hb, hml, hown, hts⟩ (c_X10_bestOf l dC dI a_y a_y_list a_y_others a_y_costs a_y_table a_y_basis a_y_isSeen a_y_colour a_y_rest a_y_makes a_y_worst c_y_list c_y_costs H.size y_n y_sets y_otherMany y_above y_below y_by y_list y_costs 1 r9 hr9) (cwV 1 hts gX10_digest_X10_bestOf rfl rfl rfl (by decide +kernel) ⟨Nat.le_of_ble_eq_true rfl, Nat.le_of_ble_eq_true rfl⟩) (kp_V hK hP hD hS hA hN (isC := [0, 1, 3]) (isT := [0, 2]) (wc := [(a_y, .inr (10, [.int y_n, .ref a_y_list, .int y_sets, .ref a_y_others, .int y_otherMany, .ref a_y_costs, .long y_above, .long y_below, .ref a_y_table, .long y_by, .ref a_y_basis, .ref a_y_isSeen, .ref a_y_colour, .ref a_y_rest, .ref a_y_makes, .ref a_y_worst])), (a_y_list, .inl (c_y_list, 16, .inl y_list)), (a_y_costs, .inl (c_y_costs, 10, .inl y_costs))]) rfl (by decide +kernel) rfl (ci := 10) (q0 := 0) rfl rfl) rfl rfl hl.1 rfl (lv_room (Nat.le_of_ble_eq_true rfl)) dX10_digest_148 ⟨Nat.le_of_ble_eq_true rfl, Nat.le_of_ble_eq_true rfl⟩) hP hD hS hA rfl rfl (by decide +kernel) (by decide +kernel) rfl (by decide +kernel) (fun H locs hP hD hS => ?_)
        refine lv_i2l (v := r9.toInt64) hx hb dX10_digest_151 rfl ?_
        refine lv_ladd hx hb dX10_digest_152 ?_
        refine lv_lstore_n (lv' := [(1, .long ((31 * ((31 * ((31 * e92) + r7.toInt64)) + r8.toInt64)) + r9.toInt64)), (0, .ref a_y)]) hx hb dX10_digest_153 rfl hl (by decide) rfl (fun ls hl => ?_)
        refine lv_ldc2 (v := 31) hx hb hown (hts (.constantLong RX10 182 (31)) (t1_ (al_ (al_ h1_)))) dX10_digest_154 ?_
        refine lv_ldc2 (v := 31) hx hb hown (hts (.constantLong RX10 182 (31)) (t1_ (al_ (al_ h1_)))) dX10_digest_157 ?_
        refine lv_lload_n hx hb dX10_digest_160 rfl (lv_at hl 0 rfl) ?_
        refine lv_lmul hx hb dX10_digest_161 ?_
        refine lv_aload_n hx hb dX10_digest_162 rfl (lv_at hl 1 rfl) ?_
        obtain ⟨r10, hr10, hs⟩ := bd_s hs
        refine kc_i (isC := [0, 1]) (isR := [2, 3, 4]) (pm := [3, 4, 0, 1, 2]) (wr := [(a_y_others, .inl (c_y_others, 40, .inl y_others)), (a_y_costs, .inl (c_y_costs, 10, .inl y_costs)), (a_y_rest, .inl (c_y_rest, 16, .inl y_rest))]) (w1 := [(a_y, .inr (10, [.int y_n, .ref a_y_list, .int y_sets, .ref a_y_others, .int y_otherMany, .ref a_y_costs, .long y_above, .long y_below, .ref a_y_table, .long y_by, .ref a_y_basis, .ref a_y_isSeen, .ref a_y_colour, .ref a_y_rest, .ref a_y_makes, .ref a_y_worst])), (a_y_list, .inl (c_y_list, 16, .inl y_list))]) (w2 := [(a_y, .inr (10, [.int y_n, .ref a_y_list, .int y_sets, .ref a_y_others, .int y_otherMany, .ref a_y_costs, .long y_above, .long y_below, .ref a_y_table, .long y_by, .ref a_y_basis, .ref a_y_isSeen, .ref a_y_colour, .ref a_y_rest, .ref a_y_makes, .ref a_y_worst])), (a_y_list, .inl (c_y_list, 16, .inl y_list)), (a_y_others, .inl (c_y_others, 40, .inl y_others)), (a_y_costs, .inl (c_y_costs, 10, .inl y_costs)), (a_y_rest, .inl (c_y_rest, 16, .inl y_rest))]) (va_runV (As := []) (rest := [.long (31 * ((31 * ((31 * ((31 * e92) + r7.toInt64)) + r8.toInt64)) + r9.toInt64)), .long 31]) ⟨hx, hb, hml, hown, hts⟩ (c_X10_apartOf l dC dI a_y a_y_list a_y_others a_y_costs a_y_table a_y_basis a_y_isSeen a_y_colour a_y_rest a_y_makes a_y_worst c_y_list H.size y_n y_sets y_otherMany y_above y_below y_by y_list r10 hr10) (cwV 0 hts gX10_digest_X10_apartOf rfl rfl rfl (by decide +kernel) ⟨Nat.le_of_ble_eq_true rfl, Nat.le_of_ble_eq_true rfl⟩) (kp_V hK hP hD hS hA hN (isC := [0, 1]) (isT := [0]) (wc := [(a_y, .inr (10, [.int y_n, .ref a_y_list, .int y_sets, .ref a_y_others, .int y_otherMany, .ref a_y_costs, .long y_above, .long y_below, .ref a_y_table, .long y_by, .ref a_y_basis, .ref a_y_isSeen, .ref a_y_colour, .ref a_y_rest, .ref a_y_makes, .ref a_y_worst])), (a_y_list, .inl (c_y_list, 16, .inl y_list))]) rfl (by decide +kernel) rfl (ci := 10) (q0 := 0) rfl rfl) rfl rfl hl.1 rfl (lv_room (Nat.le_of_ble_eq_true rfl)) dX10_digest_163 ⟨Nat.le_of_ble_eq_true rfl, Nat.le_of_ble_eq_true rfl⟩) hP hD hS hA rfl rfl (by decide +kernel) (by decide +kernel) rfl (by decide +kernel) (fun H locs hP hD hS => ?_)
        refine lv_i2l (v := r10.toInt64) hx hb dX10_digest_166 rfl ?_
        refine lv_ladd hx hb dX10_digest_167 ?_
        refine lv_lmul hx hb dX10_digest_168 ?_
        refine lv_aload_n hx hb dX10_digest_169 rfl (lv_at hl 1 rfl) ?_
        obtain ⟨r11, hr11, hs⟩ := bd_s hs
        refine kc_i (isC := [0, 1, 4]) (isR := [2, 3]) (pm := [2, 3, 0, 1, 4]) (wr := [(a_y_others, .inl (c_y_others, 40, .inl y_others)), (a_y_costs, .inl (c_y_costs, 10, .inl y_costs))]) (w1 := [(a_y, .inr (10, [.int y_n, .ref a_y_list, .int y_sets, .ref a_y_others, .int y_otherMany, .ref a_y_costs, .long y_above, .long y_below, .ref a_y_table, .long y_by, .ref a_y_basis, .ref a_y_isSeen, .ref a_y_colour, .ref a_y_rest, .ref a_y_makes, .ref a_y_worst])), (a_y_list, .inl (c_y_list, 16, .inl y_list)), (a_y_rest, .inl (c_y_rest, 16, .inl r11.2))]) (w2 := [(a_y, .inr (10, [.int y_n, .ref a_y_list, .int y_sets, .ref a_y_others, .int y_otherMany, .ref a_y_costs, .long y_above, .long y_below, .ref a_y_table, .long y_by, .ref a_y_basis, .ref a_y_isSeen, .ref a_y_colour, .ref a_y_rest, .ref a_y_makes, .ref a_y_worst])), (a_y_list, .inl (c_y_list, 16, .inl y_list)), (a_y_others, .inl (c_y_others, 40, .inl y_others)), (a_y_costs, .inl (c_y_costs, 10, .inl y_costs)), (a_y_rest, .inl (c_y_rest, 16, .inl r11.2))]) (va_runV (As := []) (rest := [.long (31 * ((31 * ((31 * ((31 * ((31 * e92) + r7.toInt64)) + r8.toInt64)) + r9.toInt64)) + r10.toInt64))]) ⟨hx, hb, hml, hown, hts⟩ (c_X10_earsOf l dC dI a_y a_y_list a_y_others a_y_costs a_y_table a_y_basis a_y_isSeen a_y_colour a_y_rest a_y_makes a_y_worst c_y_list c_y_rest H.size y_n y_sets y_otherMany y_above y_below y_by y_list y_rest r11 hr11) (cwV 0 hts gX10_digest_X10_earsOf rfl rfl rfl (by decide +kernel) ⟨Nat.le_of_ble_eq_true rfl, Nat.le_of_ble_eq_true rfl⟩) (kp_V hK hP hD hS hA hN (isC := [0, 1, 4]) (isT := [0, 3]) (wc := [(a_y, .inr (10, [.int y_n, .ref a_y_list, .int y_sets, .ref a_y_others, .int y_otherMany, .ref a_y_costs, .long y_above, .long y_below, .ref a_y_table, .long y_by, .ref a_y_basis, .ref a_y_isSeen, .ref a_y_colour, .ref a_y_rest, .ref a_y_makes, .ref a_y_worst])), (a_y_list, .inl (c_y_list, 16, .inl y_list)), (a_y_rest, .inl (c_y_rest, 16, .inl y_rest))]) rfl (by decide +kernel) rfl (ci := 10) (q0 := 0) rfl rfl) rfl rfl hl.1 rfl (lv_room (Nat.le_of_ble_eq_true rfl)) dX10_digest_170 ⟨Nat.le_of_ble_eq_true rfl, Nat.le_of_ble_eq_true rfl⟩) hP hD hS hA rfl rfl (by decide +kernel) (by decide +kernel) rfl (by decide +kernel) (fun H locs hP hD hS => ?_)
        refine lv_i2l (v := r11.1.toInt64) hx hb dX10_digest_173 rfl ?_
        refine lv_ladd hx hb dX10_digest_174 ?_
        refine lv_lstore_n (lv' := [(1, .long ((31 * ((31 * ((31 * ((31 * ((31 * e92) + r7.toInt64)) + r8.toInt64)) + r9.toInt64)) + r10.toInt64)) + r11.1.toInt64)), (0, .ref a_y)]) hx hb dX10_digest_175 rfl hl (by decide) rfl (fun ls hl => ?_)
        refine lv_ldc2 (v := 31) hx hb hown (hts (.constantLong RX10 182 (31)) (t1_ (al_ (al_ h1_)))) dX10_digest_176 ?_
        refine lv_ldc2 (v := 31) hx hb hown (hts (.constantLong RX10 182 (31)) (t1_ (al_ (al_ h1_)))) dX10_digest_179 ?_
        refine lv_lload_n hx hb dX10_digest_182 rfl (lv_at hl 0 rfl) ?_
        refine lv_lmul hx hb dX10_digest_183 ?_
        refine lv_aload_n hx hb dX10_digest_184 rfl (lv_at hl 1 rfl) ?_
        refine va_get (D := (dC, dI)) (ci := 10) (v := .long y_above) (C := RX10) (T := TX10) (N := 16) hx hb hts hiX10 hown hK hP 0 rfl rfl 6 (by decide) hf108 (fun _ h9 => h9) rfl dX10_digest_185 ?_
        refine lv_ladd hx hb dX10_digest_188 ?_
        refine lv_lmul hx hb dX10_digest_189 ?_
        refine lv_aload_n hx hb dX10_digest_190 rfl (lv_at hl 1 rfl) ?_
        refine va_get (D := (dC, dI)) (ci := 10) (v := .long y_below) (C := RX10) (T := TX10) (N := 16) hx hb hts hiX10 hown hK hP 0 rfl rfl 7 (by decide) hf47 (fun _ h9 => h9) rfl dX10_digest_191 ?_
        refine lv_ladd hx hb dX10_digest_194 ?_
        replace hs := Option.some.inj hs
        subst hs
        exact W.lret (v := (31 * ((31 * ((31 * ((31 * ((31 * ((31 * ((31 * e92) + r7.toInt64)) + r8.toInt64)) + r9.toInt64)) + r10.toInt64)) + r11.1.toInt64)) + y_above)) + y_below) hx hb hr (fun t ht hW => ⟨⟨(31 * ((31 * ((31 * ((31 * ((31 * ((31 * ((31 * e92) + r7.toInt64)) + r8.toInt64)) + r9.toInt64)) + r10.toInt64)) + r11.1.toInt64)) + y_above)) + y_below, (), rfl, rfl, by rw [ht]; exact hP, va_K.moved hW.alike hK, hD⟩, hS.F ht⟩) hS.2.2 dX10_digest_195
      clear hs
      have hL92 : ∀ (n : Nat) (s92 : Int64 × Int32) (H : Heap) (locs : List Loc) (ls : Array Slot), itr (pX10_digest_L92 y_n y_costs) n s92 = some e92 → va_P (dC, dI) vwCl [(a_y, .inr (10, [.int y_n, .ref a_y_list, .int y_sets, .ref a_y_others, .int y_otherMany, .ref a_y_costs, .long y_above, .long y_below, .ref a_y_table, .long y_by, .ref a_y_basis, .ref a_y_isSeen, .ref a_y_colour, .ref a_y_rest, .ref a_y_makes, .ref a_y_worst])), (a_y_list, .inl (c_y_list, 16, .inl y_list)), (a_y_others, .inl (c_y_others, 40, .inl y_others)), (a_y_costs, .inl (c_y_costs, 10, .inl y_costs)), (a_y_rest, .inl (c_y_rest, 16, .inl y_rest))] H → va_D A [(a_y, .inr (10, [.int y_n, .ref a_y_list, .int y_sets, .ref a_y_others, .int y_otherMany, .ref a_y_costs, .long y_above, .long y_below, .ref a_y_table, .long y_by, .ref a_y_basis, .ref a_y_isSeen, .ref a_y_colour, .ref a_y_rest, .ref a_y_makes, .ref a_y_worst])), (a_y_list, .inl (c_y_list, 16, .inl y_list)), (a_y_others, .inl (c_y_others, 40, .inl y_others)), (a_y_costs, .inl (c_y_costs, 10, .inl y_costs)), (a_y_rest, .inl (c_y_rest, 16, .inl y_rest))] → va_S A s.heap H locs → lv_has ls 4 [(0, .ref a_y), (1, .long s92.1), (3, .int s92.2)] → Z H locs 0 0 (F0 m 92 ls []) := by
        intro n
        induction n with
        | zero =>
          intro s92 H locs ls hn
          exact (itr_0 hn).elim
        | succ n ih =>
          intro s92 H locs ls hn hP hD hS hl
          obtain ⟨y5, hs, hn⟩ := itr_s hn
          unfold pX10_digest_L92 at hs
          refine hZv ?_
          refine lv_iload_n hx hb dX10_digest_92 rfl (lv_at hl 2 rfl) ?_
          refine lv_aload_n hx hb dX10_digest_93 rfl (lv_at hl 0 rfl) ?_
          refine va_get (D := (dC, dI)) (ci := 10) (v := .int y_n) (C := RX10) (T := TX10) (N := 16) hx hb hts hiX10 hown hK hP 0 rfl rfl 0 (by decide) hf43 (fun _ h9 => h9) rfl dX10_digest_94 ?_
          refine lv_icmp_ge (tgt := 120) hx hb dX10_digest_97 (by decide) (fun hc => ?_) (fun hc => ?_)
          · replace hs := it_t hc hs
            replace hs := Option.some.inj hs
            subst hs
            obtain rfl : s92.1 = e92 := hn
            exact hZw (hX92 H locs ls hP hD hS (lv_sub hl [0, 1] rfl))
          · replace hs := it_f hc hs
            refine lv_ldc2 (v := 31) hx hb hown (hts (.constantLong RX10 182 (31)) (t1_ (al_ (al_ h1_)))) dX10_digest_100 ?_
            refine lv_lload_n hx hb dX10_digest_103 rfl (lv_at hl 1 rfl) ?_
            refine lv_lmul hx hb dX10_digest_104 ?_
            refine lv_aload_n hx hb dX10_digest_105 rfl (lv_at hl 0 rfl) ?_
            refine va_get (D := (dC, dI)) (ci := 10) (v := .ref a_y_costs) (C := RX10) (T := TX10) (N := 16) hx hb hts hiX10 hown hK hP 0 rfl rfl 5 (by decide) hf16 (fun _ h9 => h9) rfl dX10_digest_106 ?_
            refine lv_iload_n hx hb dX10_digest_109 rfl (lv_at hl 2 rfl) ?_
            obtain ⟨hg6, hs⟩ := gd_s hs
            refine va_iald hx hb hK hP 3 2 rfl rfl hg6 dX10_digest_110 ?_
            refine lv_i2l (v := (y_costs s92.2.toNatClampNeg).toInt64) hx hb dX10_digest_111 rfl ?_
            refine lv_ladd hx hb dX10_digest_112 ?_
            refine lv_lstore_n (lv' := [(1, .long ((31 * s92.1) + ((y_costs s92.2.toNatClampNeg).toInt64))), (0, .ref a_y), (3, .int s92.2)]) hx hb dX10_digest_113 rfl hl (by decide) rfl (fun ls hl => ?_)
            refine lv_iinc (v := s92.2 + 1) (lv' := [(3, .int (s92.2 + 1)), (1, .long ((31 * s92.1) + ((y_costs s92.2.toNatClampNeg).toInt64))), (0, .ref a_y)]) hx hb dX10_digest_114 hl (k := 2) rfl (by rfl) (by decide) rfl (fun ls hl => ?_)
            refine lv_goto (tgt := 92) hx hb dX10_digest_117 (by decide) ?_
            replace hs := Option.some.inj hs
            subst hs
            exact hZw (ih ((31 * s92.1) + ((y_costs s92.2.toNatClampNeg).toInt64), s92.2 + 1) H locs ls hn hP hD hS (lv_sub hl [2, 1, 0] rfl))
      obtain ⟨n92, hn92⟩ := lp_ex he92
      exact hZw (hL92 n92 (e62, 0) H locs ls hn92 hP hD hS (lv_sub hl [1, 2, 0] rfl))
    clear hs
    have hL62 : ∀ (n : Nat) (s62 : Int64 × Int32) (H : Heap) (locs : List Loc) (ls : Array Slot), itr (pX10_digest_L62 y_otherMany y_others) n s62 = some e62 → va_P (dC, dI) vwCl [(a_y, .inr (10, [.int y_n, .ref a_y_list, .int y_sets, .ref a_y_others, .int y_otherMany, .ref a_y_costs, .long y_above, .long y_below, .ref a_y_table, .long y_by, .ref a_y_basis, .ref a_y_isSeen, .ref a_y_colour, .ref a_y_rest, .ref a_y_makes, .ref a_y_worst])), (a_y_list, .inl (c_y_list, 16, .inl y_list)), (a_y_others, .inl (c_y_others, 40, .inl y_others)), (a_y_costs, .inl (c_y_costs, 10, .inl y_costs)), (a_y_rest, .inl (c_y_rest, 16, .inl y_rest))] H → va_D A [(a_y, .inr (10, [.int y_n, .ref a_y_list, .int y_sets, .ref a_y_others, .int y_otherMany, .ref a_y_costs, .long y_above, .long y_below, .ref a_y_table, .long y_by, .ref a_y_basis, .ref a_y_isSeen, .ref a_y_colour, .ref a_y_rest, .ref a_y_makes, .ref a_y_worst])), (a_y_list, .inl (c_y_list, 16, .inl y_list)), (a_y_others, .inl (c_y_others, 40, .inl y_others)), (a_y_costs, .inl (c_y_costs, 10, .inl y_costs)), (a_y_rest, .inl (c_y_rest, 16, .inl y_rest))] → va_S A s.heap H locs → lv_has ls 4 [(0, .ref a_y), (1, .long s62.1), (3, .int s62.2)] → Z H locs 0 0 (F0 m 62 ls []) := by
      intro n
      induction n with
      | zero =>
        intro s62 H locs ls hn
        exact (itr_0 hn).elim
      | succ n ih =>
        intro s62 H locs ls hn hP hD hS hl
        obtain ⟨y3, hs, hn⟩ := itr_s hn
        unfold pX10_digest_L62 at hs
        refine hZv ?_
        refine lv_iload_n hx hb dX10_digest_62 rfl (lv_at hl 2 rfl) ?_
        refine lv_aload_n hx hb dX10_digest_63 rfl (lv_at hl 0 rfl) ?_
        refine va_get (D := (dC, dI)) (ci := 10) (v := .int y_otherMany) (C := RX10) (T := TX10) (N := 16) hx hb hts hiX10 hown hK hP 0 rfl rfl 4 (by decide) hf64 (fun _ h9 => h9) rfl dX10_digest_64 ?_
        refine lv_icmp_ge (tgt := 90) hx hb dX10_digest_67 (by decide) (fun hc => ?_) (fun hc => ?_)
        · replace hs := it_t hc hs
          replace hs := Option.some.inj hs
          subst hs
          obtain rfl : s62.1 = e62 := hn
          exact hZw (hX62 H locs ls hP hD hS (lv_sub hl [0, 1] rfl))
        · replace hs := it_f hc hs
          refine lv_ldc2 (v := 31) hx hb hown (hts (.constantLong RX10 182 (31)) (t1_ (al_ (al_ h1_)))) dX10_digest_70 ?_
          refine lv_lload_n hx hb dX10_digest_73 rfl (lv_at hl 1 rfl) ?_
          refine lv_lmul hx hb dX10_digest_74 ?_
          refine lv_aload_n hx hb dX10_digest_75 rfl (lv_at hl 0 rfl) ?_
          refine va_get (D := (dC, dI)) (ci := 10) (v := .ref a_y_others) (C := RX10) (T := TX10) (N := 16) hx hb hts hiX10 hown hK hP 0 rfl rfl 3 (by decide) hf13 (fun _ h9 => h9) rfl dX10_digest_76 ?_
          refine lv_iload_n hx hb dX10_digest_79 rfl (lv_at hl 2 rfl) ?_
          obtain ⟨hg4, hs⟩ := gd_s hs
          refine va_iald hx hb hK hP 2 1 rfl rfl hg4 dX10_digest_80 ?_
          refine lv_i2l (v := (y_others s62.2.toNatClampNeg).toInt64) hx hb dX10_digest_81 rfl ?_
          refine lv_ladd hx hb dX10_digest_82 ?_
          refine lv_lstore_n (lv' := [(1, .long ((31 * s62.1) + ((y_others s62.2.toNatClampNeg).toInt64))), (0, .ref a_y), (3, .int s62.2)]) hx hb dX10_digest_83 rfl hl (by decide) rfl (fun ls hl => ?_)
          refine lv_iinc (v := s62.2 + 1) (lv' := [(3, .int (s62.2 + 1)), (1, .long ((31 * s62.1) + ((y_others s62.2.toNatClampNeg).toInt64))), (0, .ref a_y)]) hx hb dX10_digest_84 hl (k := 2) rfl (by rfl) (by decide) rfl (fun ls hl => ?_)
          refine lv_goto (tgt := 62) hx hb dX10_digest_87 (by decide) ?_
          replace hs := Option.some.inj hs
          subst hs
          exact hZw (ih ((31 * s62.1) + ((y_others s62.2.toNatClampNeg).toInt64), s62.2 + 1) H locs ls hn hP hD hS (lv_sub hl [2, 1, 0] rfl))
    obtain ⟨n62, hn62⟩ := lp_ex he62
    exact hZw (hL62 n62 (e32, 0) H locs ls hn62 hP hD hS (lv_sub hl [1, 2, 0] rfl))
  clear hs
  have hL32 : ∀ (n : Nat) (s32 : Int64 × Int32) (H : Heap) (locs : List Loc) (ls : Array Slot), itr (pX10_digest_L32 y_sets y_list) n s32 = some e32 → va_P (dC, dI) vwCl [(a_y, .inr (10, [.int y_n, .ref a_y_list, .int y_sets, .ref a_y_others, .int y_otherMany, .ref a_y_costs, .long y_above, .long y_below, .ref a_y_table, .long y_by, .ref a_y_basis, .ref a_y_isSeen, .ref a_y_colour, .ref a_y_rest, .ref a_y_makes, .ref a_y_worst])), (a_y_list, .inl (c_y_list, 16, .inl y_list)), (a_y_others, .inl (c_y_others, 40, .inl y_others)), (a_y_costs, .inl (c_y_costs, 10, .inl y_costs)), (a_y_rest, .inl (c_y_rest, 16, .inl y_rest))] H → va_D A [(a_y, .inr (10, [.int y_n, .ref a_y_list, .int y_sets, .ref a_y_others, .int y_otherMany, .ref a_y_costs, .long y_above, .long y_below, .ref a_y_table, .long y_by, .ref a_y_basis, .ref a_y_isSeen, .ref a_y_colour, .ref a_y_rest, .ref a_y_makes, .ref a_y_worst])), (a_y_list, .inl (c_y_list, 16, .inl y_list)), (a_y_others, .inl (c_y_others, 40, .inl y_others)), (a_y_costs, .inl (c_y_costs, 10, .inl y_costs)), (a_y_rest, .inl (c_y_rest, 16, .inl y_rest))] → va_S A s.heap H locs → lv_has ls 4 [(0, .ref a_y), (1, .long s32.1), (3, .int s32.2)] → Z H locs 0 0 (F0 m 32 ls []) := by
    intro n
    induction n with
    | zero =>
      intro s32 H locs ls hn
      exact (itr_0 hn).elim
    | succ n ih =>
      intro s32 H locs ls hn hP hD hS hl
      obtain ⟨y1, hs, hn⟩ := itr_s hn
      unfold pX10_digest_L32 at hs
      refine hZv ?_
      refine lv_iload_n hx hb dX10_digest_32 rfl (lv_at hl 2 rfl) ?_
      refine lv_aload_n hx hb dX10_digest_33 rfl (lv_at hl 0 rfl) ?_
      refine va_get (D := (dC, dI)) (ci := 10) (v := .int y_sets) (C := RX10) (T := TX10) (N := 16) hx hb hts hiX10 hown hK hP 0 rfl rfl 2 (by decide) hf61 (fun _ h9 => h9) rfl dX10_digest_34 ?_
      refine lv_icmp_ge (tgt := 60) hx hb dX10_digest_37 (by decide) (fun hc => ?_) (fun hc => ?_)
      · replace hs := it_t hc hs
        replace hs := Option.some.inj hs
        subst hs
        obtain rfl : s32.1 = e32 := hn
        exact hZw (hX32 H locs ls hP hD hS (lv_sub hl [0, 1] rfl))
      · replace hs := it_f hc hs
        refine lv_ldc2 (v := 31) hx hb hown (hts (.constantLong RX10 182 (31)) (t1_ (al_ (al_ h1_)))) dX10_digest_40 ?_
        refine lv_lload_n hx hb dX10_digest_43 rfl (lv_at hl 1 rfl) ?_
        refine lv_lmul hx hb dX10_digest_44 ?_
        refine lv_aload_n hx hb dX10_digest_45 rfl (lv_at hl 0 rfl) ?_
        refine va_get (D := (dC, dI)) (ci := 10) (v := .ref a_y_list) (C := RX10) (T := TX10) (N := 16) hx hb hts hiX10 hown hK hP 0 rfl rfl 1 (by decide) hf7 (fun _ h9 => h9) rfl dX10_digest_46 ?_
        refine lv_iload_n hx hb dX10_digest_49 rfl (lv_at hl 2 rfl) ?_
        obtain ⟨hg2, hs⟩ := gd_s hs
        refine va_iald hx hb hK hP 1 0 rfl rfl hg2 dX10_digest_50 ?_
        refine lv_i2l (v := (y_list s32.2.toNatClampNeg).toInt64) hx hb dX10_digest_51 rfl ?_
        refine lv_ladd hx hb dX10_digest_52 ?_
        refine lv_lstore_n (lv' := [(1, .long ((31 * s32.1) + ((y_list s32.2.toNatClampNeg).toInt64))), (0, .ref a_y), (3, .int s32.2)]) hx hb dX10_digest_53 rfl hl (by decide) rfl (fun ls hl => ?_)
        refine lv_iinc (v := s32.2 + 1) (lv' := [(3, .int (s32.2 + 1)), (1, .long ((31 * s32.1) + ((y_list s32.2.toNatClampNeg).toInt64))), (0, .ref a_y)]) hx hb dX10_digest_54 hl (k := 2) rfl (by rfl) (by decide) rfl (fun ls hl => ?_)
        refine lv_goto (tgt := 32) hx hb dX10_digest_57 (by decide) ?_
        replace hs := Option.some.inj hs
        subst hs
        exact hZw (ih ((31 * s32.1) + ((y_list s32.2.toNatClampNeg).toInt64), s32.2 + 1) H locs ls hn hP hD hS (lv_sub hl [2, 1, 0] rfl))
  obtain ⟨n32, hn32⟩ := lp_ex he32
  exact hZw (hL32 n32 ((31 * ((31 * (13609 + y_n.toInt64)) + y_sets.toInt64)) + y_otherMany.toInt64, 0) H locs ls hn32 hP hD hS (lv_sub hl [2, 1, 0] rfl))
