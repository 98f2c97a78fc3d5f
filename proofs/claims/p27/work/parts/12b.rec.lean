noncomputable def pX0_leastThinkable_L4 (p0 : Int32) (s4 : Int32 × Int32) : Option ((Int32 × Int32) ⊕ (Int32)) :=
  if p0 ≤ s4.2 then (some (Sum.inr s4.1)) else (some (Sum.inl (s4.1 + 1, s4.2 * 2)))
noncomputable def pX0_leastThinkable (p0 : Int32) : Option (Int32) :=
  Option.bind (lp (pX0_leastThinkable_L4 p0) (0, 1)) (fun e4 => some e4)
set_option maxHeartbeats 4000000 in
set_option maxRecDepth 100000 in
theorem c_X0_leastThinkable (l : Launch) (dC : Nat → ClassId) (dI : Nat → Nat → Nat) (sz : Nat) (p0 : Int32) (rv : Int32) (hs : pX0_leastThinkable p0 = some rv) : Met l yX0_leastThinkable wsX0_leastThinkable ({ frames := 0, cells := 0, slots := 0, locals := 0 }) (sPc [.int p0] (dC, dI) [] [] sz) (va_Qi (fun (r : Int32) (_ : Unit) => r = rv) (sB (dC, dI) [] (va_A [] sz) []) (va_A [] sz)) 0 0 (va_A [] sz) := by
  refine Met.ofW (cc := cX0_leastThinkable) (maxL := 3) (ret := (some .int)) (by decide) rfl ?_
  intro p e s m args below meth c s₁ B hml hv
  obtain ⟨rfl, hsz, hP, hK, hD0, hN⟩ := hv
  have hx := B.exec
  have hb := B.bytes
  have hr := B.returns
  have hts := atoms_spec (ws := wsX0_leastThinkable) B.pre
  have hown : s.vm.findClass RX0 = some m.cls := findClass_of_methodNamed B.named
  have hlocks := B.notSynchronized
  subst hsz
  have hD := hD0.self (sz := s.heap.size)
  generalize hAe : va_A [] s.heap.size = A at hD hN ⊢
  have hA : ∀ q : Nat, s.heap.size ≤ q → A q := fun q h => by rw [← hAe]; exact Or.inr h
  have hS : va_S A s.heap s.heap [] := va_S.rf
  have hP : va_P (dC, dI) vwCl [] s.heap := hP
  have hl := lv_entry ([.int p0]) (n := 3) (Nat.le_of_ble_eq_true rfl)
  rw [lg_entry_eq]
  generalize (lg_sl ([.int p0]) ++ List.replicate (3 - (lg_sl ([.int p0])).length) Slot.unset).toArray = ls at hl ⊢
  have hl : lv_has ls 3 [(0, .int p0)] := hl
  refine w_abs (fun Z hZv hZw => ?_)
  refine hZv ?_
  obtain ⟨H, hH⟩ : ∃ H, H = s.heap := ⟨_, rfl⟩
  obtain ⟨locs, hlo⟩ : ∃ L : List Loc, L = [] := ⟨_, rfl⟩
  rw [← hlo, ← hH]
  have hS : va_S A s.heap H locs := by rw [hlo, hH]; exact hS
  have hP : va_P (dC, dI) vwCl [] H := by rw [hH]; exact hP
  clear hH hlo
  unfold pX0_leastThinkable at hs
  refine lv_iconst (v := 0) hx hb dX0_leastThinkable_0 (by decide) ?_
  refine lv_istore_n (lv' := [(1, .int 0), (0, .int p0)]) hx hb dX0_leastThinkable_1 rfl hl (by decide) rfl (fun ls hl => ?_)
  refine lv_iconst (v := 1) hx hb dX0_leastThinkable_2 (by decide) ?_
  refine lv_istore_n (lv' := [(2, .int 1), (1, .int 0), (0, .int p0)]) hx hb dX0_leastThinkable_3 rfl hl (by decide) rfl (fun ls hl => ?_)
  obtain ⟨e4, he4, hs⟩ := bd_s hs
  have hX4 : ∀ (H : Heap) (locs : List Loc) (ls : Array Slot), va_P (dC, dI) vwCl [] H → va_D A [] → va_S A s.heap H locs → lv_has ls 3 [(1, .int e4)] → Z H locs 0 0 (F0 m 19 ls []) := by
    intro H locs ls hP hD hS hl
    refine hZv ?_
    refine lv_iload_n hx hb dX0_leastThinkable_19 rfl (lv_at hl 0 rfl) ?_
    replace hs := Option.some.inj hs
    subst hs
    exact W.iret (v := e4) hx hb hr (fun t ht hW => ⟨⟨e4, (), rfl, rfl, by rw [ht]; exact hP, va_K.moved hW.alike hK, hD⟩, hS.F ht⟩) hS.2.2 dX0_leastThinkable_20
  clear hs
  have hL4 : ∀ (n : Nat) (s4 : Int32 × Int32) (H : Heap) (locs : List Loc) (ls : Array Slot), itr (pX0_leastThinkable_L4 p0) n s4 = some e4 → va_P (dC, dI) vwCl [] H → va_D A [] → va_S A s.heap H locs → lv_has ls 3 [(0, .int p0), (1, .int s4.1), (2, .int s4.2)] → Z H locs 0 0 (F0 m 4 ls []) := by
    intro n
    induction n with
    | zero =>
      intro s4 H locs ls hn
      exact (itr_0 hn).elim
    | succ n ih =>
      intro s4 H locs ls hn hP hD hS hl
      obtain ⟨y1, hs, hn⟩ := itr_s hn
      unfold pX0_leastThinkable_L4 at hs
      refine hZv ?_
      refine lv_iload_n hx hb dX0_leastThinkable_4 rfl (lv_at hl 2 rfl) ?_
      refine lv_iload_n hx hb dX0_leastThinkable_5 rfl (lv_at hl 0 rfl) ?_
      refine lv_icmp_ge (tgt := 19) hx hb dX0_leastThinkable_6 (by decide) (fun hc => ?_) (fun hc => ?_)
      · replace hs := it_t hc hs
        replace hs := Option.some.inj hs
        subst hs
        obtain rfl : s4.1 = e4 := hn
        exact hZw (hX4 H locs ls hP hD hS (lv_sub hl [1] rfl))
      · replace hs := it_f hc hs
        refine lv_iinc (v := s4.1 + 1) (lv' := [(1, .int (s4.1 + 1)), (0, .int p0), (2, .int s4.2)]) hx hb dX0_leastThinkable_9 hl (k := 1) rfl (by rfl) (by decide) rfl (fun ls hl => ?_)
        refine lv_iload_n hx hb dX0_leastThinkable_12 rfl (lv_at hl 2 rfl) ?_
        refine lv_iconst (v := 2) hx hb dX0_leastThinkable_13 (by decide) ?_
        refine lv_imul hx hb dX0_leastThinkable_14 ?_
        refine lv_istore_n (lv' := [(2, .int (s4.2 * 2)), (1, .int (s4.1 + 1)), (0, .int p0)]) hx hb dX0_leastThinkable_15 rfl hl (by decide) rfl (fun ls hl => ?_)
        refine lv_goto (tgt := 4) hx hb dX0_leastThinkable_16 (by decide) ?_
        replace hs := Option.some.inj hs
        subst hs
        exact hZw (ih (s4.1 + 1, s4.2 * 2) H locs ls hn hP hD hS (lv_sub hl [2, 1, 0] rfl))
  obtain ⟨n4, hn4⟩ := lp_ex he4
  exact hZw (hL4 n4 (0, 1) H locs ls hn4 hP hD hS (lv_sub hl [2, 1, 0] rfl))
noncomputable def pX5_shiftOf (p0 : Int32) : Option (Int32) :=
  some ((p0 - p0 / 16 * 16) * 2)
set_option maxHeartbeats 4000000 in
set_option maxRecDepth 100000 in
theorem c_X5_shiftOf (l : Launch) (dC : Nat → ClassId) (dI : Nat → Nat → Nat) (sz : Nat) (p0 : Int32) (rv : Int32) (hs : pX5_shiftOf p0 = some rv) : Met l yX5_shiftOf wsX5_shiftOf ({ frames := 0, cells := 0, slots := 0, locals := 0 }) (sPc [.int p0] (dC, dI) [] [] sz) (va_Qi (fun (r : Int32) (_ : Unit) => r = rv) (sB (dC, dI) [] (va_A [] sz) []) (va_A [] sz)) 0 0 (va_A [] sz) := by
  refine Met.ofW (cc := cX5_shiftOf) (maxL := 1) (ret := (some .int)) (by decide) rfl ?_
  intro p e s m args below meth c s₁ B hml hv
  obtain ⟨rfl, hsz, hP, hK, hD0, hN⟩ := hv
  have hx := B.exec
  have hb := B.bytes
  have hr := B.returns
  have hts := atoms_spec (ws := wsX5_shiftOf) B.pre
  have hown : s.vm.findClass RX5 = some m.cls := findClass_of_methodNamed B.named
  have hlocks := B.notSynchronized
  subst hsz
  have hD := hD0.self (sz := s.heap.size)
  generalize hAe : va_A [] s.heap.size = A at hD hN ⊢
  have hA : ∀ q : Nat, s.heap.size ≤ q → A q := fun q h => by rw [← hAe]; exact Or.inr h
  have hS : va_S A s.heap s.heap [] := va_S.rf
  have hP : va_P (dC, dI) vwCl [] s.heap := hP
  have hl := lv_entry ([.int p0]) (n := 1) (Nat.le_of_ble_eq_true rfl)
  rw [lg_entry_eq]
  generalize (lg_sl ([.int p0]) ++ List.replicate (1 - (lg_sl ([.int p0])).length) Slot.unset).toArray = ls at hl ⊢
  have hl : lv_has ls 1 [(0, .int p0)] := hl
  refine w_abs (fun Z hZv hZw => ?_)
  refine hZv ?_
  obtain ⟨H, hH⟩ : ∃ H, H = s.heap := ⟨_, rfl⟩
  obtain ⟨locs, hlo⟩ : ∃ L : List Loc, L = [] := ⟨_, rfl⟩
  rw [← hlo, ← hH]
  have hS : va_S A s.heap H locs := by rw [hlo, hH]; exact hS
  have hP : va_P (dC, dI) vwCl [] H := by rw [hH]; exact hP
  clear hH hlo
  unfold pX5_shiftOf at hs
  refine lv_iload_n hx hb dX5_shiftOf_0 rfl (lv_at hl 0 rfl) ?_
  refine lv_bipush (v := 16) hx hb dX5_shiftOf_1 (by decide) ?_
  refine lv_irem hx hb dX5_shiftOf_3 (by decide) ?_
  refine lv_iconst (v := 2) hx hb dX5_shiftOf_4 (by decide) ?_
  refine lv_imul hx hb dX5_shiftOf_5 ?_
  replace hs := Option.some.inj hs
  subst hs
  exact W.iret (v := (p0 - p0 / 16 * 16) * 2) hx hb hr (fun t ht hW => ⟨⟨(p0 - p0 / 16 * 16) * 2, (), rfl, rfl, by rw [ht]; exact hP, va_K.moved hW.alike hK, hD⟩, hS.F ht⟩) hS.2.2 dX5_shiftOf_6
noncomputable def pX0_allHidden (r_size : Int32) : Option (Int32) :=
  some ((1 <<< ((if 12 < r_size then 12 else r_size) &&& 31)) - 1)
set_option maxHeartbeats 4000000 in
set_option maxRecDepth 100000 in
theorem c_X0_allHidden (l : Launch) (dC : Nat → ClassId) (dI : Nat → Nat → Nat) (a_r : Nat) (a_r_rows : Nat) (a_r_ins : Nat) (a_k : Nat) (a_k_having : Nat) (a_k_fewest : Nat) (sz : Nat) (r_size : Int32) (r_n : Int32) (r_parts : Int32) (rv : Int32) (hs : pX0_allHidden r_size = some rv) : Met l yX0_allHidden wsX0_allHidden ({ frames := 1, cells := 0, slots := 0, locals := 21 }) (sPc [.ref a_k] (dC, dI) [] [(a_r, .inr (6, [.ref a_r_rows, .ref a_r_ins, .int r_size, .int r_n, .int r_parts])), (a_k, .inr (0, [.ref a_r, .ref a_k_having, .ref a_k_fewest]))] sz) (va_Qi (fun (r : Int32) (_ : Unit) => r = rv) (sB (dC, dI) [] (va_A [(a_r, .inr (6, [.ref a_r_rows, .ref a_r_ins, .int r_size, .int r_n, .int r_parts])), (a_k, .inr (0, [.ref a_r, .ref a_k_having, .ref a_k_fewest]))] sz) [(a_r, .inr (6, [.ref a_r_rows, .ref a_r_ins, .int r_size, .int r_n, .int r_parts])), (a_k, .inr (0, [.ref a_r, .ref a_k_having, .ref a_k_fewest]))]) (va_A [(a_r, .inr (6, [.ref a_r_rows, .ref a_r_ins, .int r_size, .int r_n, .int r_parts])), (a_k, .inr (0, [.ref a_r, .ref a_k_having, .ref a_k_fewest]))] sz)) 0 0 (va_A [(a_r, .inr (6, [.ref a_r_rows, .ref a_r_ins, .int r_size, .int r_n, .int r_parts])), (a_k, .inr (0, [.ref a_r, .ref a_k_having, .ref a_k_fewest]))] sz) := by
  refine Met.ofW (cc := cX0_allHidden) (maxL := 1) (ret := (some .int)) (by decide) rfl ?_
  intro p e s m args below meth c s₁ B hml hv
  obtain ⟨rfl, hsz, hP, hK, hD0, hN⟩ := hv
  have hx := B.exec
  have hb := B.bytes
  have hr := B.returns
  have hts := atoms_spec (ws := wsX0_allHidden) B.pre
  have hown : s.vm.findClass RX0 = some m.cls := findClass_of_methodNamed B.named
  have hlocks := B.notSynchronized
  subst hsz
  have hD := hD0.self (sz := s.heap.size)
  generalize hAe : va_A [(a_r, .inr (6, [.ref a_r_rows, .ref a_r_ins, .int r_size, .int r_n, .int r_parts])), (a_k, .inr (0, [.ref a_r, .ref a_k_having, .ref a_k_fewest]))] s.heap.size = A at hD hN ⊢
  have hA : ∀ q : Nat, s.heap.size ≤ q → A q := fun q h => by rw [← hAe]; exact Or.inr h
  have hS : va_S A s.heap s.heap [] := va_S.rf
  have hP : va_P (dC, dI) vwCl [(a_r, .inr (6, [.ref a_r_rows, .ref a_r_ins, .int r_size, .int r_n, .int r_parts])), (a_k, .inr (0, [.ref a_r, .ref a_k_having, .ref a_k_fewest]))] s.heap := hP
  have hl := lv_entry ([.ref a_k]) (n := 1) (Nat.le_of_ble_eq_true rfl)
  rw [lg_entry_eq]
  generalize (lg_sl ([.ref a_k]) ++ List.replicate (1 - (lg_sl ([.ref a_k])).length) Slot.unset).toArray = ls at hl ⊢
  have hl : lv_has ls 1 [(0, .ref a_k)] := hl
  have hiX0 : ∀ w ∈ wsX00, w ∈ wsX0_allHidden := fun _ h => List.mem_cons_of_mem _ (List.mem_append_left _ (List.mem_append_right _ h))
  have hf9 := hts (.fieldLink RX0 9 "MeetSets$Asking" "list" "LMeetSets$SetRow;") (t1_ (al_ (al_ h1_)))
  have hiX6 : ∀ w ∈ wsX60, w ∈ wsX0_allHidden := fun _ h => List.mem_cons_of_mem _ (List.mem_append_right _ h)
  have hf34 := hts (.fieldLink RX0 34 "MeetSets$SetRow" "size" "I") (t1_ (al_ (al_ (t1_ h1_))))
  refine w_abs (fun Z hZv hZw => ?_)
  refine hZv ?_
  obtain ⟨H, hH⟩ : ∃ H, H = s.heap := ⟨_, rfl⟩
  obtain ⟨locs, hlo⟩ : ∃ L : List Loc, L = [] := ⟨_, rfl⟩
  rw [← hlo, ← hH]
  have hS : va_S A s.heap H locs := by rw [hlo, hH]; exact hS
  have hP : va_P (dC, dI) vwCl [(a_r, .inr (6, [.ref a_r_rows, .ref a_r_ins, .int r_size, .int r_n, .int r_parts])), (a_k, .inr (0, [.ref a_r, .ref a_k_having, .ref a_k_fewest]))] H := by rw [hH]; exact hP
  clear hH hlo
  unfold pX0_allHidden at hs
  refine lv_iconst (v := 1) hx hb dX0_allHidden_0 (by decide) ?_
  refine lv_aload_n hx hb dX0_allHidden_1 rfl (lv_at hl 0 rfl) ?_
  refine va_get (D := (dC, dI)) (ci := 0) (v := .ref a_r) (C := RX0) (T := TX0) (N := 3) hx hb hts hiX0 hown hK hP 1 rfl rfl 0 (by decide) hf9 (fun _ h9 => h9) rfl dX0_allHidden_2 ?_
  refine va_get (D := (dC, dI)) (ci := 6) (v := .int r_size) (C := RX6) (T := TX6) (N := 5) hx hb hts hiX6 hown hK hP 0 rfl rfl 2 (by decide) hf34 (fun _ h9 => h9) rfl dX0_allHidden_5 ?_
  refine lv_bipush (v := 12) hx hb dX0_allHidden_8 (by decide) ?_
  refine va_mmin hx hb (hml.trans hl.1.symm) hown (hts (.methodLink RX0 59 Lib.Math.min.name) (t1_ (al_ (al_ (t1_ (t1_ h1_)))))) (hts (.static Lib.Math.min.name) (t1_ (al_ (al_ (t1_ (t1_ (t1_ h1_))))))) (hts (.initialized "java/lang/Math") (t1_ (al_ (al_ (t4_ h1_))))) (hts (.code Lib.Math.min.name Lib.Math.min.code 2 (some .int)) (t1_ (al_ (al_ (t4_ (t1_ h1_)))))) (Nat.le_of_ble_eq_true rfl) (Nat.le_of_ble_eq_true rfl) (Nat.le_of_ble_eq_true rfl) (Nat.le_of_ble_eq_true rfl) dX0_allHidden_10 ?_
  refine lv_ishl hx hb dX0_allHidden_13 ?_
  refine lv_iconst (v := 1) hx hb dX0_allHidden_14 (by decide) ?_
  refine lv_isub hx hb dX0_allHidden_15 ?_
  replace hs := Option.some.inj hs
  subst hs
  exact W.iret (v := (1 <<< ((if 12 < r_size then 12 else r_size) &&& 31)) - 1) hx hb hr (fun t ht hW => ⟨⟨(1 <<< ((if 12 < r_size then 12 else r_size) &&& 31)) - 1, (), rfl, rfl, by rw [ht]; exact hP, va_K.moved hW.alike hK, hD⟩, hS.F ht⟩) hS.2.2 dX0_allHidden_16
noncomputable def pX0_splits (k_having : Nat → Int32) (p1 : Int32) (p2 : Int32) : Option (Int32) :=
  gd (vp_in p1 10) (if (p2 &&& (k_having p1.toNatClampNeg)) = 0 then (some 0) else (if (p2 &&& (k_having p1.toNatClampNeg)) = p2 then (some 0) else (some 1)))
set_option maxHeartbeats 4000000 in
set_option maxRecDepth 100000 in
theorem c_X0_splits (l : Launch) (dC : Nat → ClassId) (dI : Nat → Nat → Nat) (a_r : Nat) (a_k : Nat) (a_k_having : Nat) (a_k_fewest : Nat) (c_k_having : ClassId) (sz : Nat) (k_having : Nat → Int32) (p1 : Int32) (p2 : Int32) (rv : Int32) (hs : pX0_splits k_having p1 p2 = some rv) : Met l yX0_splits wsX0_splits ({ frames := 0, cells := 0, slots := 0, locals := 0 }) (sPc [.ref a_k, .int p1, .int p2] (dC, dI) [(c_k_having, .int)] [(a_k, .inr (0, [.ref a_r, .ref a_k_having, .ref a_k_fewest])), (a_k_having, .inl (c_k_having, 10, .inl k_having))] sz) (va_Qi (fun (r : Int32) (_ : Unit) => r = rv) (sB (dC, dI) [(c_k_having, .int)] (va_A [(a_k, .inr (0, [.ref a_r, .ref a_k_having, .ref a_k_fewest])), (a_k_having, .inl (c_k_having, 10, .inl k_having))] sz) [(a_k, .inr (0, [.ref a_r, .ref a_k_having, .ref a_k_fewest])), (a_k_having, .inl (c_k_having, 10, .inl k_having))]) (va_A [(a_k, .inr (0, [.ref a_r, .ref a_k_having, .ref a_k_fewest])), (a_k_having, .inl (c_k_having, 10, .inl k_having))] sz)) 0 0 (va_A [(a_k, .inr (0, [.ref a_r, .ref a_k_having, .ref a_k_fewest])), (a_k_having, .inl (c_k_having, 10, .inl k_having))] sz) := by
  refine Met.ofW (cc := cX0_splits) (maxL := 4) (ret := (some .boolean)) (by decide) rfl ?_
  intro p e s m args below meth c s₁ B hml hv
  obtain ⟨rfl, hsz, hP, hK, hD0, hN⟩ := hv
  have hx := B.exec
  have hb := B.bytes
  have hr := B.returns
  have hts := atoms_spec (ws := wsX0_splits) B.pre
  have hown : s.vm.findClass RX0 = some m.cls := findClass_of_methodNamed B.named
  have hlocks := B.notSynchronized
  subst hsz
  have hD := hD0.self (sz := s.heap.size)
  generalize hAe : va_A [(a_k, .inr (0, [.ref a_r, .ref a_k_having, .ref a_k_fewest])), (a_k_having, .inl (c_k_having, 10, .inl k_having))] s.heap.size = A at hD hN ⊢
  have hA : ∀ q : Nat, s.heap.size ≤ q → A q := fun q h => by rw [← hAe]; exact Or.inr h
  have hS : va_S A s.heap s.heap [] := va_S.rf
  have hP : va_P (dC, dI) vwCl [(a_k, .inr (0, [.ref a_r, .ref a_k_having, .ref a_k_fewest])), (a_k_having, .inl (c_k_having, 10, .inl k_having))] s.heap := hP
  have hl := lv_entry ([.ref a_k, .int p1, .int p2]) (n := 4) (Nat.le_of_ble_eq_true rfl)
  rw [lg_entry_eq]
  generalize (lg_sl ([.ref a_k, .int p1, .int p2]) ++ List.replicate (4 - (lg_sl ([.ref a_k, .int p1, .int p2])).length) Slot.unset).toArray = ls at hl ⊢
  have hl : lv_has ls 4 [(0, .ref a_k), (1, .int p1), (2, .int p2)] := hl
  have hiX0 : ∀ w ∈ wsX00, w ∈ wsX0_splits := fun _ h => List.mem_cons_of_mem _ (List.mem_append_right _ h)
  have hf15 := hts (.fieldLink RX0 15 "MeetSets$Asking" "having" "[I") (t1_ (al_ h1_))
  refine w_abs (fun Z hZv hZw => ?_)
  refine hZv ?_
  obtain ⟨H, hH⟩ : ∃ H, H = s.heap := ⟨_, rfl⟩
  obtain ⟨locs, hlo⟩ : ∃ L : List Loc, L = [] := ⟨_, rfl⟩
  rw [← hlo, ← hH]
  have hS : va_S A s.heap H locs := by rw [hlo, hH]; exact hS
  have hP : va_P (dC, dI) vwCl [(a_k, .inr (0, [.ref a_r, .ref a_k_having, .ref a_k_fewest])), (a_k_having, .inl (c_k_having, 10, .inl k_having))] H := by rw [hH]; exact hP
  clear hH hlo
  unfold pX0_splits at hs
  refine lv_iload_n hx hb dX0_splits_0 rfl (lv_at hl 2 rfl) ?_
  refine lv_aload_n hx hb dX0_splits_1 rfl (lv_at hl 0 rfl) ?_
  refine va_get (D := (dC, dI)) (ci := 0) (v := .ref a_k_having) (C := RX0) (T := TX0) (N := 3) hx hb hts hiX0 hown hK hP 0 rfl rfl 1 (by decide) hf15 (fun _ h9 => h9) rfl dX0_splits_2 ?_
  refine lv_iload_n hx hb dX0_splits_5 rfl (lv_at hl 1 rfl) ?_
  obtain ⟨hg1, hs⟩ := gd_s hs
  refine va_iald hx hb hK hP 1 0 rfl rfl hg1 dX0_splits_6 ?_
  refine lv_iand hx hb dX0_splits_7 ?_
  refine lv_istore_n (lv' := [(3, .int (p2 &&& (k_having p1.toNatClampNeg))), (0, .ref a_k), (1, .int p1), (2, .int p2)]) hx hb dX0_splits_8 rfl hl (by decide) rfl (fun ls hl => ?_)
  refine lv_iload_n hx hb dX0_splits_9 rfl (lv_at hl 0 rfl) ?_
  refine lv_if_eq (tgt := 22) hx hb dX0_splits_10 (by decide) (fun hc => ?_) (fun hc => ?_)
  · replace hs := it_t hc hs
    refine lv_iconst (v := 0) hx hb dX0_splits_22 (by decide) ?_
    replace hs := Option.some.inj hs
    subst hs
    exact W.zret (v := 0) (ty := .boolean) hx hb hr rfl (fun t ht hW => ⟨⟨0, (), rfl, rfl, by rw [ht]; exact hP, va_K.moved hW.alike hK, hD⟩, hS.F ht⟩) hS.2.2 dX0_splits_23
  · replace hs := it_f hc hs
    refine lv_iload_n hx hb dX0_splits_13 rfl (lv_at hl 0 rfl) ?_
    refine lv_iload_n hx hb dX0_splits_14 rfl (lv_at hl 3 rfl) ?_
    refine lv_icmp_eq (tgt := 22) hx hb dX0_splits_15 (by decide) (fun hc => ?_) (fun hc => ?_)
    · replace hs := it_t hc hs
      refine lv_iconst (v := 0) hx hb dX0_splits_22 (by decide) ?_
      replace hs := Option.some.inj hs
      subst hs
      exact W.zret (v := 0) (ty := .boolean) hx hb hr rfl (fun t ht hW => ⟨⟨0, (), rfl, rfl, by rw [ht]; exact hP, va_K.moved hW.alike hK, hD⟩, hS.F ht⟩) hS.2.2 dX0_splits_23
    · replace hs := it_f hc hs
      refine lv_iconst (v := 1) hx hb dX0_splits_18 (by decide) ?_
      refine lv_goto (tgt := 23) hx hb dX0_splits_19 (by decide) ?_
      replace hs := Option.some.inj hs
      subst hs
      exact W.zret (v := 1) (ty := .boolean) hx hb hr rfl (fun t ht hW => ⟨⟨1, (), rfl, rfl, by rw [ht]; exact hP, va_K.moved hW.alike hK, hD⟩, hS.F ht⟩) hS.2.2 dX0_splits_23
noncomputable def pX0_prepare_L30_4 (r_len : Nat) (r_size : Int32) (r_rows : Nat → Int32) (s10 : Int32 × (Nat → Int32)) (s30 : Int32 × (Nat → Int32)) : Option ((Int32 × (Nat → Int32)) ⊕ (Nat → Int32)) :=
  if r_size ≤ s30.1 then (some (Sum.inr s30.2)) else (gd (vp_in s10.1 10) (gd (vp_in s30.1 r_len) (Option.bind (pX9_has (r_rows s30.1.toNatClampNeg) s10.1) (fun r8 => Option.bind (if r8 = 0 then (some 0) else (some (1 <<< (s30.1 &&& 31))) : Option (Int32)) (fun t71 => gd (vp_in s10.1 10) (some (Sum.inl (s30.1 + 1, upd s30.2 s10.1.toNatClampNeg ((s30.2 s10.1.toNatClampNeg) ||| t71)))))))))
noncomputable def pX0_prepare_L10 (r_len : Nat) (r_size : Int32) (r_n : Int32) (r_rows : Nat → Int32) (s10 : Int32 × (Nat → Int32)) : Option ((Int32 × (Nat → Int32)) ⊕ (Nat → Int32)) :=
  if r_n ≤ s10.1 then (some (Sum.inr s10.2)) else (gd (vp_in s10.1 10) (Option.bind (lp (pX0_prepare_L30_4 r_len r_size r_rows s10) (0, upd s10.2 s10.1.toNatClampNeg 0)) (fun e30 => some (Sum.inl (s10.1 + 1, e30)))))
noncomputable def pX0_prepare (r_len : Nat) (r_size : Int32) (r_n : Int32) (r_rows : Nat → Int32) (k_having : Nat → Int32) (k_fewest : Nat → Int32) : Option ((Nat → Int32) × (Nat → Int32)) :=
  Option.bind (pJ7_fill_53178 4096 k_fewest 0) (fun r1 => Option.bind (lp (pX0_prepare_L10 r_len r_size r_n r_rows) (0, k_having)) (fun e10 => some (e10, r1)))
set_option maxHeartbeats 4000000 in
set_option maxRecDepth 100000 in
theorem c_X0_prepare (l : Launch) (dC : Nat → ClassId) (dI : Nat → Nat → Nat) (a_r : Nat) (a_r_rows : Nat) (a_r_ins : Nat) (a_k : Nat) (a_k_having : Nat) (a_k_fewest : Nat) (c_r_rows c_k_having c_k_fewest : ClassId) (r_len : Nat) (sz : Nat) (r_size : Int32) (r_n : Int32) (r_parts : Int32) (r_rows : Nat → Int32) (k_having : Nat → Int32) (k_fewest : Nat → Int32) (rv : (Nat → Int32) × (Nat → Int32)) (hs : pX0_prepare r_len r_size r_n r_rows k_having k_fewest = some rv) : Met l yX0_prepare wsX0_prepare ({ frames := 1, cells := 0, slots := 0, locals := 23 }) (sPc [.ref a_k] (dC, dI) [(c_r_rows, .int), (c_k_having, .int), (c_k_fewest, .int)] [(a_r, .inr (6, [.ref a_r_rows, .ref a_r_ins, .int r_size, .int r_n, .int r_parts])), (a_r_rows, .inl (c_r_rows, r_len, .inl r_rows)), (a_k, .inr (0, [.ref a_r, .ref a_k_having, .ref a_k_fewest])), (a_k_having, .inl (c_k_having, 10, .inl k_having)), (a_k_fewest, .inl (c_k_fewest, 4096, .inl k_fewest))] sz) (va_Qv (fun (_ : Unit) => True) (sB (dC, dI) [(c_r_rows, .int), (c_k_having, .int), (c_k_fewest, .int)] (va_A [(a_r, .inr (6, [.ref a_r_rows, .ref a_r_ins, .int r_size, .int r_n, .int r_parts])), (a_r_rows, .inl (c_r_rows, r_len, .inl r_rows)), (a_k, .inr (0, [.ref a_r, .ref a_k_having, .ref a_k_fewest])), (a_k_having, .inl (c_k_having, 10, .inl k_having)), (a_k_fewest, .inl (c_k_fewest, 4096, .inl k_fewest))] sz) [(a_r, .inr (6, [.ref a_r_rows, .ref a_r_ins, .int r_size, .int r_n, .int r_parts])), (a_r_rows, .inl (c_r_rows, r_len, .inl r_rows)), (a_k, .inr (0, [.ref a_r, .ref a_k_having, .ref a_k_fewest])), (a_k_having, .inl (c_k_having, 10, .inl rv.1)), (a_k_fewest, .inl (c_k_fewest, 4096, .inl rv.2))]) (va_A [(a_r, .inr (6, [.ref a_r_rows, .ref a_r_ins, .int r_size, .int r_n, .int r_parts])), (a_r_rows, .inl (c_r_rows, r_len, .inl r_rows)), (a_k, .inr (0, [.ref a_r, .ref a_k_having, .ref a_k_fewest])), (a_k_having, .inl (c_k_having, 10, .inl k_having)), (a_k_fewest, .inl (c_k_fewest, 4096, .inl k_fewest))] sz)) 0 0 (va_A [(a_r, .inr (6, [.ref a_r_rows, .ref a_r_ins, .int r_size, .int r_n, .int r_parts])), (a_r_rows, .inl (c_r_rows, r_len, .inl r_rows)), (a_k, .inr (0, [.ref a_r, .ref a_k_having, .ref a_k_fewest])), (a_k_having, .inl (c_k_having, 10, .inl k_having)), (a_k_fewest, .inl (c_k_fewest, 4096, .inl k_fewest))] sz) := by
  refine Met.ofW (cc := cX0_prepare) (maxL := 3) (ret := none) (by decide) rfl ?_
  intro p e s m args below meth c s₁ B hml hv
  obtain ⟨rfl, hsz, hP, hK, hD0, hN⟩ := hv
  have hx := B.exec
  have hb := B.bytes
  have hr := B.returns
  have hts := atoms_spec (ws := wsX0_prepare) B.pre
  have hown : s.vm.findClass RX0 = some m.cls := findClass_of_methodNamed B.named
  have hlocks := B.notSynchronized
  subst hsz
  have hD := hD0.self (sz := s.heap.size)
  generalize hAe : va_A [(a_r, .inr (6, [.ref a_r_rows, .ref a_r_ins, .int r_size, .int r_n, .int r_parts])), (a_r_rows, .inl (c_r_rows, r_len, .inl r_rows)), (a_k, .inr (0, [.ref a_r, .ref a_k_having, .ref a_k_fewest])), (a_k_having, .inl (c_k_having, 10, .inl k_having)), (a_k_fewest, .inl (c_k_fewest, 4096, .inl k_fewest))] s.heap.size = A at hD hN ⊢
  have hA : ∀ q : Nat, s.heap.size ≤ q → A q := fun q h => by rw [← hAe]; exact Or.inr h
  have hS : va_S A s.heap s.heap [] := va_S.rf
  have hP : va_P (dC, dI) vwCl [(a_r, .inr (6, [.ref a_r_rows, .ref a_r_ins, .int r_size, .int r_n, .int r_parts])), (a_r_rows, .inl (c_r_rows, r_len, .inl r_rows)), (a_k, .inr (0, [.ref a_r, .ref a_k_having, .ref a_k_fewest])), (a_k_having, .inl (c_k_having, 10, .inl k_having)), (a_k_fewest, .inl (c_k_fewest, 4096, .inl k_fewest))] s.heap := hP
  have hl := lv_entry ([.ref a_k]) (n := 3) (Nat.le_of_ble_eq_true rfl)
  rw [lg_entry_eq]
  generalize (lg_sl ([.ref a_k]) ++ List.replicate (3 - (lg_sl ([.ref a_k])).length) Slot.unset).toArray = ls at hl ⊢
  have hl : lv_has ls 3 [(0, .ref a_k)] := hl
  have hiX0 : ∀ w ∈ wsX00, w ∈ wsX0_prepare := fun _ h => List.mem_cons_of_mem _ (List.mem_append_left _ (List.mem_append_right _ h))
  have hf19 := hts (.fieldLink RX0 19 "MeetSets$Asking" "fewest" "[I") (t1_ (al_ (al_ h1_)))
  have hf9 := hts (.fieldLink RX0 9 "MeetSets$Asking" "list" "LMeetSets$SetRow;") (t1_ (al_ (al_ (t1_ h1_))))
  have hiX6 : ∀ w ∈ wsX60, w ∈ wsX0_prepare := fun _ h => List.mem_cons_of_mem _ (List.mem_append_right _ h)
  have hf28 := hts (.fieldLink RX0 28 "MeetSets$SetRow" "n" "I") (t1_ (al_ (al_ (t1_ (t1_ h1_)))))
  have hf15 := hts (.fieldLink RX0 15 "MeetSets$Asking" "having" "[I") (t1_ (al_ (al_ (t1_ (t1_ (t1_ h1_))))))
  have hf34 := hts (.fieldLink RX0 34 "MeetSets$SetRow" "size" "I") (t1_ (al_ (al_ (t4_ h1_))))
  have hf37 := hts (.fieldLink RX0 37 "MeetSets$SetRow" "rows" "[I") (t1_ (al_ (al_ (t4_ (t1_ h1_)))))
  refine w_abs (fun Z hZv hZw => ?_)
  refine hZv ?_
  obtain ⟨H, hH⟩ : ∃ H, H = s.heap := ⟨_, rfl⟩
  obtain ⟨locs, hlo⟩ : ∃ L : List Loc, L = [] := ⟨_, rfl⟩
  rw [← hlo, ← hH]
  have hS : va_S A s.heap H locs := by rw [hlo, hH]; exact hS
  have hP : va_P (dC, dI) vwCl [(a_r, .inr (6, [.ref a_r_rows, .ref a_r_ins, .int r_size, .int r_n, .int r_parts])), (a_r_rows, .inl (c_r_rows, r_len, .inl r_rows)), (a_k, .inr (0, [.ref a_r, .ref a_k_having, .ref a_k_fewest])), (a_k_having, .inl (c_k_having, 10, .inl k_having)), (a_k_fewest, .inl (c_k_fewest, 4096, .inl k_fewest))] H := by rw [hH]; exact hP
  clear hH hlo
  unfold pX0_prepare at hs
  refine lv_aload_n hx hb dX0_prepare_0 rfl (lv_at hl 0 rfl) ?_
  refine va_get (D := (dC, dI)) (ci := 0) (v := .ref a_k_fewest) (C := RX0) (T := TX0) (N := 3) hx hb hts hiX0 hown hK hP 2 rfl rfl 2 (by decide) hf19 (fun _ h9 => h9) rfl dX0_prepare_1 ?_
  refine lv_iconst (v := 0) hx hb dX0_prepare_4 (by decide) ?_
  obtain ⟨r1, hr1, hs⟩ := bd_s hs
  refine kc_v (isC := [4]) (isR := [0, 1, 2, 3]) (pm := [0, 1, 2, 3, 4]) (wr := [(a_r, .inr (6, [.ref a_r_rows, .ref a_r_ins, .int r_size, .int r_n, .int r_parts])), (a_r_rows, .inl (c_r_rows, r_len, .inl r_rows)), (a_k, .inr (0, [.ref a_r, .ref a_k_having, .ref a_k_fewest])), (a_k_having, .inl (c_k_having, 10, .inl k_having))]) (w1 := [(a_k_fewest, .inl (c_k_fewest, 4096, .inl r1))]) (w2 := [(a_r, .inr (6, [.ref a_r_rows, .ref a_r_ins, .int r_size, .int r_n, .int r_parts])), (a_r_rows, .inl (c_r_rows, r_len, .inl r_rows)), (a_k, .inr (0, [.ref a_r, .ref a_k_having, .ref a_k_fewest])), (a_k_having, .inl (c_k_having, 10, .inl k_having)), (a_k_fewest, .inl (c_k_fewest, 4096, .inl r1))]) (va_runS (As := [.ref a_k_fewest, .int 0]) (rest := []) ⟨hx, hb, hml, hown, hts⟩ (c_J7_fill_53178 l dC dI a_k_fewest c_k_fewest 4096 H.size k_fewest 0 r1 hr1) (va_cwS 2 hts gX0_prepare_J7_fill_53178 rfl rfl rfl (by decide +kernel) ⟨Nat.le_of_ble_eq_true rfl, Nat.le_of_ble_eq_true rfl⟩) (kp_S hK hP hD hS hA hN (isC := [4]) (isT := [2]) (wc := [(a_k_fewest, .inl (c_k_fewest, 4096, .inl k_fewest))]) rfl (by decide +kernel) rfl) rfl rfl hl.1 rfl (lv_room (Nat.le_of_ble_eq_true rfl)) dX0_prepare_5 ⟨Nat.le_of_ble_eq_true rfl, Nat.le_of_ble_eq_true rfl⟩) hP hD hS hA rfl rfl (by decide +kernel) (by decide +kernel) rfl (by decide +kernel) (fun H locs hP hD hS => ?_)
  refine lv_iconst (v := 0) hx hb dX0_prepare_8 (by decide) ?_
  refine lv_istore_n (lv' := [(1, .int 0), (0, .ref a_k)]) hx hb dX0_prepare_9 rfl hl (by decide) rfl (fun ls hl => ?_)
  obtain ⟨e10, he10, hs⟩ := bd_s hs
  have hX10 : ∀ (H : Heap) (locs : List Loc) (ls : Array Slot), va_P (dC, dI) vwCl [(a_r, .inr (6, [.ref a_r_rows, .ref a_r_ins, .int r_size, .int r_n, .int r_parts])), (a_r_rows, .inl (c_r_rows, r_len, .inl r_rows)), (a_k, .inr (0, [.ref a_r, .ref a_k_having, .ref a_k_fewest])), (a_k_having, .inl (c_k_having, 10, .inl e10)), (a_k_fewest, .inl (c_k_fewest, 4096, .inl r1))] H → va_D A [(a_r, .inr (6, [.ref a_r_rows, .ref a_r_ins, .int r_size, .int r_n, .int r_parts])), (a_r_rows, .inl (c_r_rows, r_len, .inl r_rows)), (a_k, .inr (0, [.ref a_r, .ref a_k_having, .ref a_k_fewest])), (a_k_having, .inl (c_k_having, 10, .inl e10)), (a_k_fewest, .inl (c_k_fewest, 4096, .inl r1))] → va_S A s.heap H locs → lv_has ls 3 [] → Z H locs 0 0 (F0 m 85 ls []) := by
    intro H locs ls hP hD hS hl
    refine hZv ?_
    replace hs := Option.some.inj hs
    subst hs
    exact W.vret hx hb hr (fun t ht hW => ⟨⟨(), rfl, trivial, by rw [ht]; exact hP, va_K.moved hW.alike hK, hD⟩, hS.F ht⟩) hS.2.2 dX0_prepare_85
  clear hs
  have hL10 : ∀ (n : Nat) (s10 : Int32 × (Nat → Int32)) (H : Heap) (locs : List Loc) (ls : Array Slot), itr (pX0_prepare_L10 r_len r_size r_n r_rows) n s10 = some e10 → va_P (dC, dI) vwCl [(a_r, .inr (6, [.ref a_r_rows, .ref a_r_ins, .int r_size, .int r_n, .int r_parts])), (a_r_rows, .inl (c_r_rows, r_len, .inl r_rows)), (a_k, .inr (0, [.ref a_r, .ref a_k_having, .ref a_k_fewest])), (a_k_having, .inl (c_k_having, 10, .inl s10.2)), (a_k_fewest, .inl (c_k_fewest, 4096, .inl r1))] H → va_D A [(a_r, .inr (6, [.ref a_r_rows, .ref a_r_ins, .int r_size, .int r_n, .int r_parts])), (a_r_rows, .inl (c_r_rows, r_len, .inl r_rows)), (a_k, .inr (0, [.ref a_r, .ref a_k_having, .ref a_k_fewest])), (a_k_having, .inl (c_k_having, 10, .inl s10.2)), (a_k_fewest, .inl (c_k_fewest, 4096, .inl r1))] → va_S A s.heap H locs → lv_has ls 3 [(0, .ref a_k), (1, .int s10.1)] → Z H locs 0 0 (F0 m 10 ls []) := by
    intro n
    induction n with
    | zero =>
      intro s10 H locs ls hn
      exact (itr_0 hn).elim
    | succ n ih =>
      intro s10 H locs ls hn hP hD hS hl
      obtain ⟨y2, hs, hn⟩ := itr_s hn
      unfold pX0_prepare_L10 at hs
      refine hZv ?_
      refine lv_iload_n hx hb dX0_prepare_10 rfl (lv_at hl 1 rfl) ?_
      refine lv_aload_n hx hb dX0_prepare_11 rfl (lv_at hl 0 rfl) ?_
      refine va_get (D := (dC, dI)) (ci := 0) (v := .ref a_r) (C := RX0) (T := TX0) (N := 3) hx hb hts hiX0 hown hK hP 2 rfl rfl 0 (by decide) hf9 (fun _ h9 => h9) rfl dX0_prepare_12 ?_
      refine va_get (D := (dC, dI)) (ci := 6) (v := .int r_n) (C := RX6) (T := TX6) (N := 5) hx hb hts hiX6 hown hK hP 0 rfl rfl 3 (by decide) hf28 (fun _ h9 => h9) rfl dX0_prepare_15 ?_
      refine lv_icmp_ge (tgt := 85) hx hb dX0_prepare_18 (by decide) (fun hc => ?_) (fun hc => ?_)
      · replace hs := it_t hc hs
        replace hs := Option.some.inj hs
        subst hs
        obtain rfl : s10.2 = e10 := hn
        exact hZw (hX10 H locs ls hP hD hS (lv_sub hl [] rfl))
      · replace hs := it_f hc hs
        refine lv_aload_n hx hb dX0_prepare_21 rfl (lv_at hl 0 rfl) ?_
        refine va_get (D := (dC, dI)) (ci := 0) (v := .ref a_k_having) (C := RX0) (T := TX0) (N := 3) hx hb hts hiX0 hown hK hP 2 rfl rfl 1 (by decide) hf15 (fun _ h9 => h9) rfl dX0_prepare_22 ?_
        refine lv_iload_n hx hb dX0_prepare_25 rfl (lv_at hl 1 rfl) ?_
        refine lv_iconst (v := 0) hx hb dX0_prepare_26 (by decide) ?_
        obtain ⟨hg3, hs⟩ := gd_s hs
        refine va_iast hx hb hK hP hD hS 3 1 rfl rfl hg3 dX0_prepare_27 (fun H locs hP hD hS => ?_)
        have hP : va_P (dC, dI) vwCl [(a_r, .inr (6, [.ref a_r_rows, .ref a_r_ins, .int r_size, .int r_n, .int r_parts])), (a_r_rows, .inl (c_r_rows, r_len, .inl r_rows)), (a_k, .inr (0, [.ref a_r, .ref a_k_having, .ref a_k_fewest])), (a_k_having, .inl (c_k_having, 10, .inl (upd s10.2 s10.1.toNatClampNeg 0))), (a_k_fewest, .inl (c_k_fewest, 4096, .inl r1))] H := hP
        have hD : va_D A [(a_r, .inr (6, [.ref a_r_rows, .ref a_r_ins, .int r_size, .int r_n, .int r_parts])), (a_r_rows, .inl (c_r_rows, r_len, .inl r_rows)), (a_k, .inr (0, [.ref a_r, .ref a_k_having, .ref a_k_fewest])), (a_k_having, .inl (c_k_having, 10, .inl (upd s10.2 s10.1.toNatClampNeg 0))), (a_k_fewest, .inl (c_k_fewest, 4096, .inl r1))] := hD
        refine lv_iconst (v := 0) hx hb dX0_prepare_28 (by decide) ?_
        refine lv_istore_n (lv' := [(2, .int 0), (0, .ref a_k), (1, .int s10.1)]) hx hb dX0_prepare_29 rfl hl (by decide) rfl (fun ls hl => ?_)
        obtain ⟨e30, he30, hs⟩ := bd_s hs
        have hX30 : ∀ (H : Heap) (locs : List Loc) (ls : Array Slot), va_P (dC, dI) vwCl [(a_r, .inr (6, [.ref a_r_rows, .ref a_r_ins, .int r_size, .int r_n, .int r_parts])), (a_r_rows, .inl (c_r_rows, r_len, .inl r_rows)), (a_k, .inr (0, [.ref a_r, .ref a_k_having, .ref a_k_fewest])), (a_k_having, .inl (c_k_having, 10, .inl e30)), (a_k_fewest, .inl (c_k_fewest, 4096, .inl r1))] H → va_D A [(a_r, .inr (6, [.ref a_r_rows, .ref a_r_ins, .int r_size, .int r_n, .int r_parts])), (a_r_rows, .inl (c_r_rows, r_len, .inl r_rows)), (a_k, .inr (0, [.ref a_r, .ref a_k_having, .ref a_k_fewest])), (a_k_having, .inl (c_k_having, 10, .inl e30)), (a_k_fewest, .inl (c_k_fewest, 4096, .inl r1))] → va_S A s.heap H locs → lv_has ls 3 [(0, .ref a_k), (1, .int s10.1)] → Z H locs 0 0 (F0 m 79 ls []) := by
          intro H locs ls hP hD hS hl
          refine hZv ?_
          refine lv_iinc (v := s10.1 + 1) (lv' := [(1, .int (s10.1 + 1)), (0, .ref a_k)]) hx hb dX0_prepare_79 hl (k := 1) rfl (by rfl) (by decide) rfl (fun ls hl => ?_)
          refine lv_goto (tgt := 10) hx hb dX0_prepare_82 (by decide) ?_
          replace hs := Option.some.inj hs
          subst hs
          exact hZw (ih (s10.1 + 1, e30) H locs ls hn hP hD hS (lv_sub hl [1, 0] rfl))
        clear hs
        have hL30 : ∀ (n : Nat) (s30 : Int32 × (Nat → Int32)) (H : Heap) (locs : List Loc) (ls : Array Slot), itr (pX0_prepare_L30_4 r_len r_size r_rows s10) n s30 = some e30 → va_P (dC, dI) vwCl [(a_r, .inr (6, [.ref a_r_rows, .ref a_r_ins, .int r_size, .int r_n, .int r_parts])), (a_r_rows, .inl (c_r_rows, r_len, .inl r_rows)), (a_k, .inr (0, [.ref a_r, .ref a_k_having, .ref a_k_fewest])), (a_k_having, .inl (c_k_having, 10, .inl s30.2)), (a_k_fewest, .inl (c_k_fewest, 4096, .inl r1))] H → va_D A [(a_r, .inr (6, [.ref a_r_rows, .ref a_r_ins, .int r_size, .int r_n, .int r_parts])), (a_r_rows, .inl (c_r_rows, r_len, .inl r_rows)), (a_k, .inr (0, [.ref a_r, .ref a_k_having, .ref a_k_fewest])), (a_k_having, .inl (c_k_having, 10, .inl s30.2)), (a_k_fewest, .inl (c_k_fewest, 4096, .inl r1))] → va_S A s.heap H locs → lv_has ls 3 [(0, .ref a_k), (1, .int s10.1), (2, .int s30.1)] → Z H locs 0 0 (F0 m 30 ls []) := by
          intro n
          induction n with
          | zero =>
            intro s30 H locs ls hn
            exact (itr_0 hn).elim
          | succ n ih =>
            intro s30 H locs ls hn hP hD hS hl
            obtain ⟨y5, hs, hn⟩ := itr_s hn
            unfold pX0_prepare_L30_4 at hs
            refine hZv ?_
            refine lv_iload_n hx hb dX0_prepare_30 rfl (lv_at hl 2 rfl) ?_
            refine lv_aload_n hx hb dX0_prepare_31 rfl (lv_at hl 0 rfl) ?_
            refine va_get (D := (dC, dI)) (ci := 0) (v := .ref a_r) (C := RX0) (T := TX0) (N := 3) hx hb hts hiX0 hown hK hP 2 rfl rfl 0 (by decide) hf9 (fun _ h9 => h9) rfl dX0_prepare_32 ?_
            refine va_get (D := (dC, dI)) (ci := 6) (v := .int r_size) (C := RX6) (T := TX6) (N := 5) hx hb hts hiX6 hown hK hP 0 rfl rfl 2 (by decide) hf34 (fun _ h9 => h9) rfl dX0_prepare_35 ?_
            refine lv_icmp_ge (tgt := 79) hx hb dX0_prepare_38 (by decide) (fun hc => ?_) (fun hc => ?_)
            · replace hs := it_t hc hs
              replace hs := Option.some.inj hs
              subst hs
              obtain rfl : s30.2 = e30 := hn
              exact hZw (hX30 H locs ls hP hD hS (lv_sub hl [0, 1] rfl))
            · replace hs := it_f hc hs
              refine lv_aload_n hx hb dX0_prepare_41 rfl (lv_at hl 0 rfl) ?_
              refine va_get (D := (dC, dI)) (ci := 0) (v := .ref a_k_having) (C := RX0) (T := TX0) (N := 3) hx hb hts hiX0 hown hK hP 2 rfl rfl 1 (by decide) hf15 (fun _ h9 => h9) rfl dX0_prepare_42 ?_
              refine lv_iload_n hx hb dX0_prepare_45 rfl (lv_at hl 1 rfl) ?_
              refine lv_dup2_11 hx hb dX0_prepare_46 rfl rfl ?_
              obtain ⟨hg6, hs⟩ := gd_s hs
              refine va_iald hx hb hK hP 3 1 rfl rfl hg6 dX0_prepare_47 ?_
              refine lv_aload_n hx hb dX0_prepare_48 rfl (lv_at hl 0 rfl) ?_
              refine va_get (D := (dC, dI)) (ci := 0) (v := .ref a_r) (C := RX0) (T := TX0) (N := 3) hx hb hts hiX0 hown hK hP 2 rfl rfl 0 (by decide) hf9 (fun _ h9 => h9) rfl dX0_prepare_49 ?_
              refine va_get (D := (dC, dI)) (ci := 6) (v := .ref a_r_rows) (C := RX6) (T := TX6) (N := 5) hx hb hts hiX6 hown hK hP 0 rfl rfl 0 (by decide) hf37 (fun _ h9 => h9) rfl dX0_prepare_52 ?_
              refine lv_iload_n hx hb dX0_prepare_55 rfl (lv_at hl 2 rfl) ?_
              obtain ⟨hg7, hs⟩ := gd_s hs
              refine va_iald hx hb hK hP 1 0 rfl rfl hg7 dX0_prepare_56 ?_
              refine lv_iload_n hx hb dX0_prepare_57 rfl (lv_at hl 1 rfl) ?_
              obtain ⟨r8, hr8, hs⟩ := bd_s hs
              refine kc_i (isC := []) (isR := [0, 1, 2, 3, 4]) (pm := [0, 1, 2, 3, 4]) (wr := [(a_r, .inr (6, [.ref a_r_rows, .ref a_r_ins, .int r_size, .int r_n, .int r_parts])), (a_r_rows, .inl (c_r_rows, r_len, .inl r_rows)), (a_k, .inr (0, [.ref a_r, .ref a_k_having, .ref a_k_fewest])), (a_k_having, .inl (c_k_having, 10, .inl s30.2)), (a_k_fewest, .inl (c_k_fewest, 4096, .inl r1))]) (w1 := []) (w2 := [(a_r, .inr (6, [.ref a_r_rows, .ref a_r_ins, .int r_size, .int r_n, .int r_parts])), (a_r_rows, .inl (c_r_rows, r_len, .inl r_rows)), (a_k, .inr (0, [.ref a_r, .ref a_k_having, .ref a_k_fewest])), (a_k_having, .inl (c_k_having, 10, .inl s30.2)), (a_k_fewest, .inl (c_k_fewest, 4096, .inl r1))]) (va_runSN (As := [.int (r_rows s30.1.toNatClampNeg), .int s10.1]) (rest := [.int (s30.2 s10.1.toNatClampNeg), .int s10.1, .ref a_k_having]) ⟨hx, hb, hml, hown, hts⟩ (c_X9_has l dC dI H.size (r_rows s30.1.toNatClampNeg) s10.1 r8 hr8) ⟨va_cnB 2 hts gX0_prepare_X9_has_n40 rfl rfl rfl hN.1.2.2.2.2 (hts (.initialized RX9) (t1_ (al_ (al_ (t4_ (t4_ (t1_ (t1_ (t1_ h1_))))))))) (by decide +kernel) ⟨Nat.le_of_ble_eq_true rfl, Nat.le_of_ble_eq_true rfl⟩, hts (.static yX9_has) (t1_ (al_ (al_ (t4_ (t4_ (t1_ (t1_ h1_))))))), trivial⟩ (kp_S hK hP hD hS hA hN (isC := []) (isT := []) (wc := []) rfl (by decide +kernel) rfl) rfl rfl hl.1 rfl (lv_room (Nat.le_of_ble_eq_true rfl)) dX0_prepare_58 ⟨Nat.le_of_ble_eq_true rfl, Nat.le_of_ble_eq_true rfl⟩) hP hD hS hA rfl rfl (by decide +kernel) (by decide +kernel) rfl (by decide +kernel) (fun H locs hP hD hS => ?_)
              obtain ⟨t71, hq71, hs⟩ := bd_s hs
              have hJ71 : ∀ (H : Heap) (locs : List Loc) (ls : Array Slot), va_P (dC, dI) vwCl [(a_r, .inr (6, [.ref a_r_rows, .ref a_r_ins, .int r_size, .int r_n, .int r_parts])), (a_r_rows, .inl (c_r_rows, r_len, .inl r_rows)), (a_k, .inr (0, [.ref a_r, .ref a_k_having, .ref a_k_fewest])), (a_k_having, .inl (c_k_having, 10, .inl s30.2)), (a_k_fewest, .inl (c_k_fewest, 4096, .inl r1))] H → va_D A [(a_r, .inr (6, [.ref a_r_rows, .ref a_r_ins, .int r_size, .int r_n, .int r_parts])), (a_r_rows, .inl (c_r_rows, r_len, .inl r_rows)), (a_k, .inr (0, [.ref a_r, .ref a_k_having, .ref a_k_fewest])), (a_k_having, .inl (c_k_having, 10, .inl s30.2)), (a_k_fewest, .inl (c_k_fewest, 4096, .inl r1))] → va_S A s.heap H locs → lv_has ls 3 [(0, .ref a_k), (1, .int s10.1), (2, .int s30.1)] → Z H locs 0 0 (F0 m 71 ls [.int t71, .int (s30.2 s10.1.toNatClampNeg), .int s10.1, .ref a_k_having]) := by
                intro H locs ls hP hD hS hl
                refine hZv ?_
                refine lv_ior hx hb dX0_prepare_71 ?_
                obtain ⟨hg9, hs⟩ := gd_s hs
                refine va_iast hx hb hK hP hD hS 3 1 rfl rfl hg9 dX0_prepare_72 (fun H locs hP hD hS => ?_)
                have hP : va_P (dC, dI) vwCl [(a_r, .inr (6, [.ref a_r_rows, .ref a_r_ins, .int r_size, .int r_n, .int r_parts])), (a_r_rows, .inl (c_r_rows, r_len, .inl r_rows)), (a_k, .inr (0, [.ref a_r, .ref a_k_having, .ref a_k_fewest])), (a_k_having, .inl (c_k_having, 10, .inl (upd s30.2 s10.1.toNatClampNeg ((s30.2 s10.1.toNatClampNeg) ||| t71)))), (a_k_fewest, .inl (c_k_fewest, 4096, .inl r1))] H := hP
                have hD : va_D A [(a_r, .inr (6, [.ref a_r_rows, .ref a_r_ins, .int r_size, .int r_n, .int r_parts])), (a_r_rows, .inl (c_r_rows, r_len, .inl r_rows)), (a_k, .inr (0, [.ref a_r, .ref a_k_having, .ref a_k_fewest])), (a_k_having, .inl (c_k_having, 10, .inl (upd s30.2 s10.1.toNatClampNeg ((s30.2 s10.1.toNatClampNeg) ||| t71)))), (a_k_fewest, .inl (c_k_fewest, 4096, .inl r1))] := hD
                refine lv_iinc (v := s30.1 + 1) (lv' := [(2, .int (s30.1 + 1)), (0, .ref a_k), (1, .int s10.1)]) hx hb dX0_prepare_73 hl (k := 2) rfl (by rfl) (by decide) rfl (fun ls hl => ?_)
                refine lv_goto (tgt := 30) hx hb dX0_prepare_76 (by decide) ?_
                replace hs := Option.some.inj hs
                subst hs
                exact hZw (ih (s30.1 + 1, upd s30.2 s10.1.toNatClampNeg ((s30.2 s10.1.toNatClampNeg) ||| t71)) H locs ls hn hP hD hS (lv_sub hl [1, 2, 0] rfl))
              clear hs
              have hs := hq71
              refine lv_if_eq (tgt := 70) hx hb dX0_prepare_61 (by decide) (fun hc => ?_) (fun hc => ?_)
              · replace hs := it_t hc hs
                refine lv_iconst (v := 0) hx hb dX0_prepare_70 (by decide) ?_
                replace hs := Option.some.inj hs
                subst hs
                exact hZw (hJ71 H locs ls hP hD hS hl)
              · replace hs := it_f hc hs
                refine lv_iconst (v := 1) hx hb dX0_prepare_64 (by decide) ?_
                refine lv_iload_n hx hb dX0_prepare_65 rfl (lv_at hl 2 rfl) ?_
                refine lv_ishl hx hb dX0_prepare_66 ?_
                refine lv_goto (tgt := 71) hx hb dX0_prepare_67 (by decide) ?_
                replace hs := Option.some.inj hs
                subst hs
                exact hZw (hJ71 H locs ls hP hD hS hl)
        obtain ⟨n30, hn30⟩ := lp_ex he30
        exact hZw (hL30 n30 (0, upd s10.2 s10.1.toNatClampNeg 0) H locs ls hn30 hP hD hS (lv_sub hl [1, 2, 0] rfl))
  obtain ⟨n10, hn10⟩ := lp_ex he10
  exact hZw (hL10 n10 (0, k_having) H locs ls hn10 hP hD hS (lv_sub hl [1, 0] rfl))
noncomputable def pX5_worthTaking_J78_4 (s22 : Int32 × Int32) (t78 : Unit) : Option ((Int32 × Int32) ⊕ (Int32)) :=
  some (Sum.inl (s22.1 ||| (1 <<< (s22.2 &&& 31)), s22.2 + 1))
noncomputable def pX5_worthTaking_L22 (r_n : Int32) (r_parts : Int32) (r_ins : Nat → Int32) (p1 : Int32) (p2 : Int32) (s22 : Int32 × Int32) : Option ((Int32 × Int32) ⊕ (Int32)) :=
  if r_n ≤ s22.2 then (some (Sum.inr s22.1)) else (Option.bind (pX9_has ((r_parts - 1) &&& ((p1 ||| p2) ^^^ (-1))) s22.2) (fun r2 => if r2 = 0 then (some (Sum.inl (s22.1, s22.2 + 1))) else (Option.bind (pX6_hasSetIn r_ins (p1 ||| (1 <<< (s22.2 &&& 31)))) (fun r3 => if r3 = 0 then (Option.bind (pX6_isMeeter r_parts r_ins (p2 ||| (1 <<< (s22.2 &&& 31)))) (fun r5 => if r5 = 0 then (some (Sum.inl (s22.1, s22.2 + 1))) else (pX5_worthTaking_J78_4 s22 ()))) else (pX5_worthTaking_J78_4 s22 ())))))
noncomputable def pX5_worthTaking (r_n : Int32) (r_parts : Int32) (r_ins : Nat → Int32) (p1 : Int32) (p2 : Int32) : Option (Int32) :=
  Option.bind (lp (pX5_worthTaking_L22 r_n r_parts r_ins p1 p2) (0, 0)) (fun e22 => if e22 = 0 then (some ((r_parts - 1) &&& ((p1 ||| p2) ^^^ (-1)))) else (some e22))
set_option maxHeartbeats 4000000 in
set_option maxRecDepth 100000 in
theorem c_X5_worthTaking (l : Launch) (dC : Nat → ClassId) (dI : Nat → Nat → Nat) (a_r : Nat) (a_r_rows : Nat) (a_r_ins : Nat) (a_g : Nat) (a_g_known : Nat) (c_r_ins : ClassId) (sz : Nat) (r_size : Int32) (r_n : Int32) (r_parts : Int32) (r_ins : Nat → Int32) (p1 : Int32) (p2 : Int32) (rv : Int32) (hs : pX5_worthTaking r_n r_parts r_ins p1 p2 = some rv) : Met l yX5_worthTaking wsX5_worthTaking ({ frames := 1, cells := 0, slots := 0, locals := 21 }) (sPc [.ref a_g, .int p1, .int p2] (dC, dI) [(c_r_ins, .int)] [(a_r, .inr (6, [.ref a_r_rows, .ref a_r_ins, .int r_size, .int r_n, .int r_parts])), (a_r_ins, .inl (c_r_ins, 1024, .inl r_ins)), (a_g, .inr (5, [.ref a_r, .ref a_g_known]))] sz) (va_Qi (fun (r : Int32) (_ : Unit) => r = rv) (sB (dC, dI) [(c_r_ins, .int)] (va_A [(a_r, .inr (6, [.ref a_r_rows, .ref a_r_ins, .int r_size, .int r_n, .int r_parts])), (a_r_ins, .inl (c_r_ins, 1024, .inl r_ins)), (a_g, .inr (5, [.ref a_r, .ref a_g_known]))] sz) [(a_r, .inr (6, [.ref a_r_rows, .ref a_r_ins, .int r_size, .int r_n, .int r_parts])), (a_r_ins, .inl (c_r_ins, 1024, .inl r_ins)), (a_g, .inr (5, [.ref a_r, .ref a_g_known]))]) (va_A [(a_r, .inr (6, [.ref a_r_rows, .ref a_r_ins, .int r_size, .int r_n, .int r_parts])), (a_r_ins, .inl (c_r_ins, 1024, .inl r_ins)), (a_g, .inr (5, [.ref a_r, .ref a_g_known]))] sz)) 0 0 (va_A [(a_r, .inr (6, [.ref a_r_rows, .ref a_r_ins, .int r_size, .int r_n, .int r_parts])), (a_r_ins, .inl (c_r_ins, 1024, .inl r_ins)), (a_g, .inr (5, [.ref a_r, .ref a_g_known]))] sz) := by
  refine Met.ofW (cc := cX5_worthTaking) (maxL := 7) (ret := (some .int)) (by decide) rfl ?_
  intro p e s m args below meth c s₁ B hml hv
  obtain ⟨rfl, hsz, hP, hK, hD0, hN⟩ := hv
  have hx := B.exec
  have hb := B.bytes
  have hr := B.returns
  have hts := atoms_spec (ws := wsX5_worthTaking) B.pre
  have hown : s.vm.findClass RX5 = some m.cls := findClass_of_methodNamed B.named
  have hlocks := B.notSynchronized
  subst hsz
  have hD := hD0.self (sz := s.heap.size)
  generalize hAe : va_A [(a_r, .inr (6, [.ref a_r_rows, .ref a_r_ins, .int r_size, .int r_n, .int r_parts])), (a_r_ins, .inl (c_r_ins, 1024, .inl r_ins)), (a_g, .inr (5, [.ref a_r, .ref a_g_known]))] s.heap.size = A at hD hN ⊢
  have hA : ∀ q : Nat, s.heap.size ≤ q → A q := fun q h => by rw [← hAe]; exact Or.inr h
  have hS : va_S A s.heap s.heap [] := va_S.rf
  have hP : va_P (dC, dI) vwCl [(a_r, .inr (6, [.ref a_r_rows, .ref a_r_ins, .int r_size, .int r_n, .int r_parts])), (a_r_ins, .inl (c_r_ins, 1024, .inl r_ins)), (a_g, .inr (5, [.ref a_r, .ref a_g_known]))] s.heap := hP
  have hl := lv_entry ([.ref a_g, .int p1, .int p2]) (n := 7) (Nat.le_of_ble_eq_true rfl)
  rw [lg_entry_eq]
  generalize (lg_sl ([.ref a_g, .int p1, .int p2]) ++ List.replicate (7 - (lg_sl ([.ref a_g, .int p1, .int p2])).length) Slot.unset).toArray = ls at hl ⊢
  have hl : lv_has ls 7 [(0, .ref a_g), (1, .int p1), (2, .int p2)] := hl
  have hiX5 : ∀ w ∈ wsX50, w ∈ wsX5_worthTaking := fun _ h => List.mem_cons_of_mem _ (List.mem_append_left _ (List.mem_append_right _ h))
  have hf9 := hts (.fieldLink RX5 9 "MeetSets$Match" "list" "LMeetSets$SetRow;") (t1_ (al_ (al_ h1_)))
  have hiX6 : ∀ w ∈ wsX60, w ∈ wsX5_worthTaking := fun _ h => List.mem_cons_of_mem _ (List.mem_append_right _ h)
  have hf61 := hts (.fieldLink RX5 61 "MeetSets$SetRow" "parts" "I") (t1_ (al_ (al_ (t1_ h1_))))
  have hf25 := hts (.fieldLink RX5 25 "MeetSets$SetRow" "n" "I") (t1_ (al_ (al_ (t1_ (t1_ h1_)))))
  refine w_abs (fun Z hZv hZw => ?_)
  refine hZv ?_
  obtain ⟨H, hH⟩ : ∃ H, H = s.heap := ⟨_, rfl⟩
  obtain ⟨locs, hlo⟩ : ∃ L : List Loc, L = [] := ⟨_, rfl⟩
  rw [← hlo, ← hH]
  have hS : va_S A s.heap H locs := by rw [hlo, hH]; exact hS
  have hP : va_P (dC, dI) vwCl [(a_r, .inr (6, [.ref a_r_rows, .ref a_r_ins, .int r_size, .int r_n, .int r_parts])), (a_r_ins, .inl (c_r_ins, 1024, .inl r_ins)), (a_g, .inr (5, [.ref a_r, .ref a_g_known]))] H := by rw [hH]; exact hP
  clear hH hlo
  unfold pX5_worthTaking at hs
  refine lv_iconst (v := 0) hx hb dX5_worthTaking_0 (by decide) ?_
  refine lv_istore_n (lv' := [(3, .int 0), (0, .ref a_g), (1, .int p1), (2, .int p2)]) hx hb dX5_worthTaking_1 rfl hl (by decide) rfl (fun ls hl => ?_)
  refine lv_aload_n hx hb dX5_worthTaking_2 rfl (lv_at hl 1 rfl) ?_
  refine va_get (D := (dC, dI)) (ci := 5) (v := .ref a_r) (C := RX5) (T := TX5) (N := 2) hx hb hts hiX5 hown hK hP 2 rfl rfl 0 (by decide) hf9 (fun _ h9 => h9) rfl dX5_worthTaking_3 ?_
  refine va_get (D := (dC, dI)) (ci := 6) (v := .int r_parts) (C := RX6) (T := TX6) (N := 5) hx hb hts hiX6 hown hK hP 0 rfl rfl 4 (by decide) hf61 (fun _ h9 => h9) rfl dX5_worthTaking_6 ?_
  refine lv_iconst (v := 1) hx hb dX5_worthTaking_9 (by decide) ?_
  refine lv_isub hx hb dX5_worthTaking_10 ?_
  refine lv_iload_n hx hb dX5_worthTaking_11 rfl (lv_at hl 2 rfl) ?_
  refine lv_iload_n hx hb dX5_worthTaking_12 rfl (lv_at hl 3 rfl) ?_
  refine lv_ior hx hb dX5_worthTaking_13 ?_
  refine lv_iconst (v := (-1)) hx hb dX5_worthTaking_14 (by decide) ?_
  refine lv_ixor hx hb dX5_worthTaking_15 ?_
  refine lv_iand hx hb dX5_worthTaking_16 ?_
  refine lv_istore (lv' := [(4, .int ((r_parts - 1) &&& ((p1 ||| p2) ^^^ (-1)))), (3, .int 0), (0, .ref a_g), (1, .int p1), (2, .int p2)]) hx hb dX5_worthTaking_17 hl (by decide) rfl (fun ls hl => ?_)
  refine lv_iconst (v := 0) hx hb dX5_worthTaking_19 (by decide) ?_
  refine lv_istore (lv' := [(5, .int 0), (4, .int ((r_parts - 1) &&& ((p1 ||| p2) ^^^ (-1)))), (3, .int 0), (0, .ref a_g), (1, .int p1), (2, .int p2)]) hx hb dX5_worthTaking_20 hl (by decide) rfl (fun ls hl => ?_)
  obtain ⟨e22, he22, hs⟩ := bd_s hs
  have hX22 : ∀ (H : Heap) (locs : List Loc) (ls : Array Slot), va_P (dC, dI) vwCl [(a_r, .inr (6, [.ref a_r_rows, .ref a_r_ins, .int r_size, .int r_n, .int r_parts])), (a_r_ins, .inl (c_r_ins, 1024, .inl r_ins)), (a_g, .inr (5, [.ref a_r, .ref a_g_known]))] H → va_D A [(a_r, .inr (6, [.ref a_r_rows, .ref a_r_ins, .int r_size, .int r_n, .int r_parts])), (a_r_ins, .inl (c_r_ins, 1024, .inl r_ins)), (a_g, .inr (5, [.ref a_r, .ref a_g_known]))] → va_S A s.heap H locs → lv_has ls 7 [(3, .int e22), (4, .int ((r_parts - 1) &&& ((p1 ||| p2) ^^^ (-1))))] → Z H locs 0 0 (F0 m 89 ls []) := by
    intro H locs ls hP hD hS hl
    refine hZv ?_
    refine lv_iload_n hx hb dX5_worthTaking_89 rfl (lv_at hl 0 rfl) ?_
    refine lv_if_eq (tgt := 97) hx hb dX5_worthTaking_90 (by decide) (fun hc => ?_) (fun hc => ?_)
    · replace hs := it_t hc hs
      refine lv_iload hx hb dX5_worthTaking_97 (lv_at hl 1 rfl) ?_
      replace hs := Option.some.inj hs
      subst hs
      exact W.iret (v := (r_parts - 1) &&& ((p1 ||| p2) ^^^ (-1))) hx hb hr (fun t ht hW => ⟨⟨(r_parts - 1) &&& ((p1 ||| p2) ^^^ (-1)), (), rfl, rfl, by rw [ht]; exact hP, va_K.moved hW.alike hK, hD⟩, hS.F ht⟩) hS.2.2 dX5_worthTaking_99
    · replace hs := it_f hc hs
      refine lv_iload_n hx hb dX5_worthTaking_93 rfl (lv_at hl 0 rfl) ?_
      refine lv_goto (tgt := 99) hx hb dX5_worthTaking_94 (by decide) ?_
      replace hs := Option.some.inj hs
      subst hs
      exact W.iret (v := e22) hx hb hr (fun t ht hW => ⟨⟨e22, (), rfl, rfl, by rw [ht]; exact hP, va_K.moved hW.alike hK, hD⟩, hS.F ht⟩) hS.2.2 dX5_worthTaking_99
  clear hs
  have hL22 : ∀ (n : Nat) (s22 : Int32 × Int32) (H : Heap) (locs : List Loc) (ls : Array Slot), itr (pX5_worthTaking_L22 r_n r_parts r_ins p1 p2) n s22 = some e22 → va_P (dC, dI) vwCl [(a_r, .inr (6, [.ref a_r_rows, .ref a_r_ins, .int r_size, .int r_n, .int r_parts])), (a_r_ins, .inl (c_r_ins, 1024, .inl r_ins)), (a_g, .inr (5, [.ref a_r, .ref a_g_known]))] H → va_D A [(a_r, .inr (6, [.ref a_r_rows, .ref a_r_ins, .int r_size, .int r_n, .int r_parts])), (a_r_ins, .inl (c_r_ins, 1024, .inl r_ins)), (a_g, .inr (5, [.ref a_r, .ref a_g_known]))] → va_S A s.heap H locs → lv_has ls 7 [(0, .ref a_g), (1, .int p1), (2, .int p2), (3, .int s22.1), (4, .int ((r_parts - 1) &&& ((p1 ||| p2) ^^^ (-1)))), (5, .int s22.2)] → Z H locs 0 0 (F0 m 22 ls []) := by
    intro n
    induction n with
    | zero =>
      intro s22 H locs ls hn
      exact (itr_0 hn).elim
    | succ n ih =>
      intro s22 H locs ls hn hP hD hS hl
      obtain ⟨y1, hs, hn⟩ := itr_s hn
      unfold pX5_worthTaking_L22 at hs
      refine hZv ?_
      refine lv_iload hx hb dX5_worthTaking_22 (lv_at hl 5 rfl) ?_
      refine lv_aload_n hx hb dX5_worthTaking_24 rfl (lv_at hl 0 rfl) ?_
      refine va_get (D := (dC, dI)) (ci := 5) (v := .ref a_r) (C := RX5) (T := TX5) (N := 2) hx hb hts hiX5 hown hK hP 2 rfl rfl 0 (by decide) hf9 (fun _ h9 => h9) rfl dX5_worthTaking_25 ?_
      refine va_get (D := (dC, dI)) (ci := 6) (v := .int r_n) (C := RX6) (T := TX6) (N := 5) hx hb hts hiX6 hown hK hP 0 rfl rfl 3 (by decide) hf25 (fun _ h9 => h9) rfl dX5_worthTaking_28 ?_
      refine lv_icmp_ge (tgt := 89) hx hb dX5_worthTaking_31 (by decide) (fun hc => ?_) (fun hc => ?_)
      · replace hs := it_t hc hs
        replace hs := Option.some.inj hs
        subst hs
        obtain rfl : s22.1 = e22 := hn
        exact hZw (hX22 H locs ls hP hD hS (lv_sub hl [3, 4] rfl))
      · replace hs := it_f hc hs
        refine lv_iconst (v := 1) hx hb dX5_worthTaking_34 (by decide) ?_
        refine lv_iload hx hb dX5_worthTaking_35 (lv_at hl 5 rfl) ?_
        refine lv_ishl hx hb dX5_worthTaking_37 ?_
        refine lv_istore (lv' := [(6, .int (1 <<< (s22.2 &&& 31))), (0, .ref a_g), (1, .int p1), (2, .int p2), (3, .int s22.1), (4, .int ((r_parts - 1) &&& ((p1 ||| p2) ^^^ (-1)))), (5, .int s22.2)]) hx hb dX5_worthTaking_38 hl (by decide) rfl (fun ls hl => ?_)
        refine lv_iload hx hb dX5_worthTaking_40 (lv_at hl 5 rfl) ?_
        refine lv_iload hx hb dX5_worthTaking_42 (lv_at hl 6 rfl) ?_
        obtain ⟨r2, hr2, hs⟩ := bd_s hs
        refine kc_i (isC := []) (isR := [0, 1, 2]) (pm := [0, 1, 2]) (wr := [(a_r, .inr (6, [.ref a_r_rows, .ref a_r_ins, .int r_size, .int r_n, .int r_parts])), (a_r_ins, .inl (c_r_ins, 1024, .inl r_ins)), (a_g, .inr (5, [.ref a_r, .ref a_g_known]))]) (w1 := []) (w2 := [(a_r, .inr (6, [.ref a_r_rows, .ref a_r_ins, .int r_size, .int r_n, .int r_parts])), (a_r_ins, .inl (c_r_ins, 1024, .inl r_ins)), (a_g, .inr (5, [.ref a_r, .ref a_g_known]))]) (va_runSN (As := [.int ((r_parts - 1) &&& ((p1 ||| p2) ^^^ (-1))), .int s22.2]) (rest := []) ⟨hx, hb, hml, hown, hts⟩ (c_X9_has l dC dI H.size ((r_parts - 1) &&& ((p1 ||| p2) ^^^ (-1))) s22.2 r2 hr2) ⟨va_cnB 2 hts gX5_worthTaking_X9_has_n57 rfl rfl rfl hN.1.2.2.2.1 (hts (.initialized RX9) (t1_ (al_ (al_ (t4_ h1_))))) (by decide +kernel) ⟨Nat.le_of_ble_eq_true rfl, Nat.le_of_ble_eq_true rfl⟩, hts (.static yX9_has) (t1_ (al_ (al_ (t1_ (t1_ (t1_ h1_)))))), trivial⟩ (kp_S hK hP hD hS hA hN (isC := []) (isT := []) (wc := []) rfl (by decide +kernel) rfl) rfl rfl hl.1 rfl (lv_room (Nat.le_of_ble_eq_true rfl)) dX5_worthTaking_44 ⟨Nat.le_of_ble_eq_true rfl, Nat.le_of_ble_eq_true rfl⟩) hP hD hS hA rfl rfl (by decide +kernel) (by decide +kernel) rfl (by decide +kernel) (fun H locs hP hD hS => ?_)
        refine lv_if_eq (tgt := 83) hx hb dX5_worthTaking_47 (by decide) (fun hc => ?_) (fun hc => ?_)
        · replace hs := it_t hc hs
          refine lv_iinc (v := s22.2 + 1) (lv' := [(5, .int (s22.2 + 1)), (6, .int (1 <<< (s22.2 &&& 31))), (0, .ref a_g), (1, .int p1), (2, .int p2), (3, .int s22.1), (4, .int ((r_parts - 1) &&& ((p1 ||| p2) ^^^ (-1))))]) hx hb dX5_worthTaking_83 hl (k := 6) rfl (by rfl) (by decide) rfl (fun ls hl => ?_)
          refine lv_goto (tgt := 22) hx hb dX5_worthTaking_86 (by decide) ?_
          replace hs := Option.some.inj hs
          subst hs
          exact hZw (ih (s22.1, s22.2 + 1) H locs ls hn hP hD hS (lv_sub hl [2, 3, 4, 5, 6, 0] rfl))
        · replace hs := it_f hc hs
          refine lv_aload_n hx hb dX5_worthTaking_50 rfl (lv_at hl 1 rfl) ?_
          refine va_get (D := (dC, dI)) (ci := 5) (v := .ref a_r) (C := RX5) (T := TX5) (N := 2) hx hb hts hiX5 hown hK hP 2 rfl rfl 0 (by decide) hf9 (fun _ h9 => h9) rfl dX5_worthTaking_51 ?_
          refine lv_iload_n hx hb dX5_worthTaking_54 rfl (lv_at hl 2 rfl) ?_
          refine lv_iload hx hb dX5_worthTaking_55 (lv_at hl 0 rfl) ?_
          refine lv_ior hx hb dX5_worthTaking_57 ?_
          obtain ⟨r3, hr3, hs⟩ := bd_s hs
          refine kc_i (isC := [0, 1]) (isR := [2]) (pm := [1, 2, 0]) (wr := [(a_g, .inr (5, [.ref a_r, .ref a_g_known]))]) (w1 := [(a_r, .inr (6, [.ref a_r_rows, .ref a_r_ins, .int r_size, .int r_n, .int r_parts])), (a_r_ins, .inl (c_r_ins, 1024, .inl r_ins))]) (w2 := [(a_r, .inr (6, [.ref a_r_rows, .ref a_r_ins, .int r_size, .int r_n, .int r_parts])), (a_r_ins, .inl (c_r_ins, 1024, .inl r_ins)), (a_g, .inr (5, [.ref a_r, .ref a_g_known]))]) (va_runV (As := [.int (p1 ||| (1 <<< (s22.2 &&& 31)))]) (rest := []) ⟨hx, hb, hml, hown, hts⟩ (c_X6_hasSetIn l dC dI a_r a_r_rows a_r_ins c_r_ins H.size r_size r_n r_parts r_ins (p1 ||| (1 <<< (s22.2 &&& 31))) r3 hr3) (cwV 1 hts gX5_worthTaking_X6_hasSetIn rfl rfl rfl (by decide +kernel) ⟨Nat.le_of_ble_eq_true rfl, Nat.le_of_ble_eq_true rfl⟩) (kp_V hK hP hD hS hA hN (isC := [0, 1]) (isT := [0]) (wc := [(a_r, .inr (6, [.ref a_r_rows, .ref a_r_ins, .int r_size, .int r_n, .int r_parts])), (a_r_ins, .inl (c_r_ins, 1024, .inl r_ins))]) rfl (by decide +kernel) rfl (ci := 6) (q0 := 0) rfl rfl) rfl rfl hl.1 rfl (lv_room (Nat.le_of_ble_eq_true rfl)) dX5_worthTaking_58 ⟨Nat.le_of_ble_eq_true rfl, Nat.le_of_ble_eq_true rfl⟩) hP hD hS hA rfl rfl (by decide +kernel) (by decide +kernel) rfl (by decide +kernel) (fun H locs hP hD hS => ?_)
          have hJ78 : ∀ (t78 : Unit), pX5_worthTaking_J78_4 s22 t78 = some y1 → ∀ (H : Heap) (locs : List Loc) (ls : Array Slot), va_P (dC, dI) vwCl [(a_r, .inr (6, [.ref a_r_rows, .ref a_r_ins, .int r_size, .int r_n, .int r_parts])), (a_r_ins, .inl (c_r_ins, 1024, .inl r_ins)), (a_g, .inr (5, [.ref a_r, .ref a_g_known]))] H → va_D A [(a_r, .inr (6, [.ref a_r_rows, .ref a_r_ins, .int r_size, .int r_n, .int r_parts])), (a_r_ins, .inl (c_r_ins, 1024, .inl r_ins)), (a_g, .inr (5, [.ref a_r, .ref a_g_known]))] → va_S A s.heap H locs → lv_has ls 7 [(0, .ref a_g), (1, .int p1), (2, .int p2), (3, .int s22.1), (4, .int ((r_parts - 1) &&& ((p1 ||| p2) ^^^ (-1)))), (5, .int s22.2), (6, .int (1 <<< (s22.2 &&& 31)))] → Z H locs 0 0 (F0 m 78 ls []) := by
            intro t78 hs H locs ls hP hD hS hl
            refine hZv ?_
            unfold pX5_worthTaking_J78_4 at hs
            refine lv_iload_n hx hb dX5_worthTaking_78 rfl (lv_at hl 3 rfl) ?_
            refine lv_iload hx hb dX5_worthTaking_79 (lv_at hl 6 rfl) ?_
            refine lv_ior hx hb dX5_worthTaking_81 ?_
            refine lv_istore_n (lv' := [(3, .int (s22.1 ||| (1 <<< (s22.2 &&& 31)))), (0, .ref a_g), (1, .int p1), (2, .int p2), (4, .int ((r_parts - 1) &&& ((p1 ||| p2) ^^^ (-1)))), (5, .int s22.2), (6, .int (1 <<< (s22.2 &&& 31)))]) hx hb dX5_worthTaking_82 rfl hl (by decide) rfl (fun ls hl => ?_)
            refine lv_iinc (v := s22.2 + 1) (lv' := [(5, .int (s22.2 + 1)), (3, .int (s22.1 ||| (1 <<< (s22.2 &&& 31)))), (0, .ref a_g), (1, .int p1), (2, .int p2), (4, .int ((r_parts - 1) &&& ((p1 ||| p2) ^^^ (-1)))), (6, .int (1 <<< (s22.2 &&& 31)))]) hx hb dX5_worthTaking_83 hl (k := 5) rfl (by rfl) (by decide) rfl (fun ls hl => ?_)
            refine lv_goto (tgt := 22) hx hb dX5_worthTaking_86 (by decide) ?_
            replace hs := Option.some.inj hs
            subst hs
            exact hZw (ih (s22.1 ||| (1 <<< (s22.2 &&& 31)), s22.2 + 1) H locs ls hn hP hD hS (lv_sub hl [2, 3, 4, 1, 5, 0] rfl))
          refine lv_if_ne (tgt := 78) hx hb dX5_worthTaking_61 (by decide) (fun hc => ?_) (fun hc => ?_)
          · replace hs := it_f hc hs
            exact hZw (hJ78 () hs H locs ls hP hD hS (lv_sub hl [1, 2, 3, 4, 5, 6, 0] rfl))
          · replace hs := it_t hc hs
            refine lv_aload_n hx hb dX5_worthTaking_64 rfl (lv_at hl 1 rfl) ?_
            refine va_get (D := (dC, dI)) (ci := 5) (v := .ref a_r) (C := RX5) (T := TX5) (N := 2) hx hb hts hiX5 hown hK hP 2 rfl rfl 0 (by decide) hf9 (fun _ h9 => h9) rfl dX5_worthTaking_65 ?_
            refine lv_iload_n hx hb dX5_worthTaking_68 rfl (lv_at hl 3 rfl) ?_
            refine lv_iload hx hb dX5_worthTaking_69 (lv_at hl 0 rfl) ?_
            refine lv_ior hx hb dX5_worthTaking_71 ?_
            obtain ⟨r5, hr5, hs⟩ := bd_s hs
            refine kc_i (isC := [0, 1]) (isR := [2]) (pm := [1, 2, 0]) (wr := [(a_g, .inr (5, [.ref a_r, .ref a_g_known]))]) (w1 := [(a_r, .inr (6, [.ref a_r_rows, .ref a_r_ins, .int r_size, .int r_n, .int r_parts])), (a_r_ins, .inl (c_r_ins, 1024, .inl r_ins))]) (w2 := [(a_r, .inr (6, [.ref a_r_rows, .ref a_r_ins, .int r_size, .int r_n, .int r_parts])), (a_r_ins, .inl (c_r_ins, 1024, .inl r_ins)), (a_g, .inr (5, [.ref a_r, .ref a_g_known]))]) (va_runV (As := [.int (p2 ||| (1 <<< (s22.2 &&& 31)))]) (rest := []) ⟨hx, hb, hml, hown, hts⟩ (c_X6_isMeeter l dC dI a_r a_r_rows a_r_ins c_r_ins H.size r_size r_n r_parts r_ins (p2 ||| (1 <<< (s22.2 &&& 31))) r5 hr5) (cwV 1 hts gX5_worthTaking_X6_isMeeter rfl rfl rfl (by decide +kernel) ⟨Nat.le_of_ble_eq_true rfl, Nat.le_of_ble_eq_true rfl⟩) (kp_V hK hP hD hS hA hN (isC := [0, 1]) (isT := [0]) (wc := [(a_r, .inr (6, [.ref a_r_rows, .ref a_r_ins, .int r_size, .int r_n, .int r_parts])), (a_r_ins, .inl (c_r_ins, 1024, .inl r_ins))]) rfl (by decide +kernel) rfl (ci := 6) (q0 := 0) rfl rfl) rfl rfl hl.1 rfl (lv_room (Nat.le_of_ble_eq_true rfl)) dX5_worthTaking_72 ⟨Nat.le_of_ble_eq_true rfl, Nat.le_of_ble_eq_true rfl⟩) hP hD hS hA rfl rfl (by decide +kernel) (by decide +kernel) rfl (by decide +kernel) (fun H locs hP hD hS => ?_)
            refine lv_if_eq (tgt := 83) hx hb dX5_worthTaking_75 (by decide) (fun hc => ?_) (fun hc => ?_)
            · replace hs := it_t hc hs
              refine lv_iinc (v := s22.2 + 1) (lv' := [(5, .int (s22.2 + 1)), (6, .int (1 <<< (s22.2 &&& 31))), (0, .ref a_g), (1, .int p1), (2, .int p2), (3, .int s22.1), (4, .int ((r_parts - 1) &&& ((p1 ||| p2) ^^^ (-1))))]) hx hb dX5_worthTaking_83 hl (k := 6) rfl (by rfl) (by decide) rfl (fun ls hl => ?_)
              refine lv_goto (tgt := 22) hx hb dX5_worthTaking_86 (by decide) ?_
              replace hs := Option.some.inj hs
              subst hs
              exact hZw (ih (s22.1, s22.2 + 1) H locs ls hn hP hD hS (lv_sub hl [2, 3, 4, 5, 6, 0] rfl))
            · replace hs := it_f hc hs
              exact hZw (hJ78 () hs H locs ls hP hD hS (lv_sub hl [1, 2, 3, 4, 5, 6, 0] rfl))
  obtain ⟨n22, hn22⟩ := lp_ex he22
  exact hZw (hL22 n22 (0, 0) H locs ls hn22 hP hD hS (lv_sub hl [3, 4, 5, 2, 1, 0] rfl))
noncomputable def pX3_search_J97_4 (p5 : Int32) (t97 : Unit) : Option (Int32) :=
  some p5
noncomputable def pX3_search_J81 (r_len : Nat) (r_rows : Nat → Int32) (p1 : Int32) (p2 : Int32) (p3 : Int32) (p4 : Int32) (p5 : Int32) (rc : Nat → (Nat → Int32) → Int32 → Int32 → Int32 → Int32 → Int32 → Int32 → Int32 → Int32 → Option (Int32 × Int32 × Int32)) (r1 : Int32 × Int32 × Int32) (t81 : Unit) : Option (Int32 × Int32 × Int32) :=
  Option.bind (if p5 = (-1) then (if p3 = 1 then (some ((r_rows (p1 - 1).toNatClampNeg) &&& p4)) else (pX3_search_J97_4 p5 ())) else (pX3_search_J97_4 p5 ()) : Option (Int32)) (fun t99 => Option.bind (rc r_len r_rows r1.1 r1.2.1 r1.2.2 (p1 - 1) (p2 ||| (1 <<< ((p1 - 1) &&& 31))) (p3 + 1) (p4 ||| (r_rows (p1 - 1).toNatClampNeg)) t99) (fun r3 => some (r3.1, r3.2.1, r3.2.2)))
noncomputable def pX3_search_B (rc : Nat → (Nat → Int32) → Int32 → Int32 → Int32 → Int32 → Int32 → Int32 → Int32 → Int32 → Option (Int32 × Int32 × Int32)) (r_len : Nat) (r_rows : Nat → Int32) (f_bestBits : Int32) (f_bestCore : Int32) (f_bestCount : Int32) (p1 : Int32) (p2 : Int32) (p3 : Int32) (p4 : Int32) (p5 : Int32) : Option (Int32 × Int32 × Int32) :=
  if f_bestCount < (p3 + p1) then (if 0 < p1 then (Option.bind (rc r_len r_rows f_bestBits f_bestCore f_bestCount (p1 - 1) p2 p3 p4 p5) (fun r1 => gd (vp_in (p1 - 1) r_len) (if p5 = (-1) then (pX3_search_J81 r_len r_rows p1 p2 p3 p4 p5 rc r1 ()) else (if ((r_rows (p1 - 1).toNatClampNeg) &&& p4) = p5 then (pX3_search_J81 r_len r_rows p1 p2 p3 p4 p5 rc r1 ()) else (some (r1.1, r1.2.1, r1.2.2)))))) else (some (p2, p5, p3))) else (some (f_bestBits, f_bestCore, f_bestCount))
noncomputable def pX3_search : Nat → Nat → (Nat → Int32) → Int32 → Int32 → Int32 → Int32 → Int32 → Int32 → Int32 → Int32 → Option (Int32 × Int32 × Int32)
  | 0 => fun _ _ _ _ _ _ _ _ _ _ => none
  | d + 1 => pX3_search_B (pX3_search d)
set_option maxHeartbeats 4000000 in
set_option maxRecDepth 100000 in
theorem c_X3_search : ∀ (d : Nat) (l : Launch) (dC : Nat → ClassId) (dI : Nat → Nat → Nat) (a_r : Nat) (a_r_rows : Nat) (a_r_ins : Nat) (a_f : Nat) (c_r_rows : ClassId) (r_len : Nat) (sz : Nat) (r_size : Int32) (r_n : Int32) (r_parts : Int32) (r_rows : Nat → Int32) (f_bestBits : Int32) (f_bestCore : Int32) (f_bestCount : Int32) (p1 : Int32) (p2 : Int32) (p3 : Int32) (p4 : Int32) (p5 : Int32) (rv : Int32 × Int32 × Int32) (hs : pX3_search d r_len r_rows f_bestBits f_bestCore f_bestCount p1 p2 p3 p4 p5 = some rv), Met l yX3_search wsX3_search ({ frames := 1 + d, cells := 0, slots := 0, locals := 30 + 29 * d }) (sPc [.ref a_f, .int p1, .int p2, .int p3, .int p4, .int p5] (dC, dI) [(c_r_rows, .int)] [(a_r, .inr (6, [.ref a_r_rows, .ref a_r_ins, .int r_size, .int r_n, .int r_parts])), (a_r_rows, .inl (c_r_rows, r_len, .inl r_rows)), (a_f, .inr (3, [.ref a_r, .int f_bestBits, .int f_bestCore, .int f_bestCount]))] sz) (va_Qv (fun (_ : Unit) => True) (sB (dC, dI) [(c_r_rows, .int)] (va_A [(a_r, .inr (6, [.ref a_r_rows, .ref a_r_ins, .int r_size, .int r_n, .int r_parts])), (a_r_rows, .inl (c_r_rows, r_len, .inl r_rows)), (a_f, .inr (3, [.ref a_r, .int f_bestBits, .int f_bestCore, .int f_bestCount]))] sz) [(a_r, .inr (6, [.ref a_r_rows, .ref a_r_ins, .int r_size, .int r_n, .int r_parts])), (a_r_rows, .inl (c_r_rows, r_len, .inl r_rows)), (a_f, .inr (3, [.ref a_r, .int rv.1, .int rv.2.1, .int rv.2.2]))]) (va_A [(a_r, .inr (6, [.ref a_r_rows, .ref a_r_ins, .int r_size, .int r_n, .int r_parts])), (a_r_rows, .inl (c_r_rows, r_len, .inl r_rows)), (a_f, .inr (3, [.ref a_r, .int f_bestBits, .int f_bestCore, .int f_bestCount]))] sz)) 0 0 (va_A [(a_r, .inr (6, [.ref a_r_rows, .ref a_r_ins, .int r_size, .int r_n, .int r_parts])), (a_r_rows, .inl (c_r_rows, r_len, .inl r_rows)), (a_f, .inr (3, [.ref a_r, .int f_bestBits, .int f_bestCore, .int f_bestCount]))] sz) := by
  intro d
  induction d with
  | zero =>
    intro l dC dI a_r a_r_rows a_r_ins a_f c_r_rows r_len sz r_size r_n r_parts r_rows f_bestBits f_bestCore f_bestCount p1 p2 p3 p4 p5 rv hs
    unfold pX3_search at hs
    cases hs
  | succ d ihd =>
    intro l dC dI a_r a_r_rows a_r_ins a_f c_r_rows r_len sz r_size r_n r_parts r_rows f_bestBits f_bestCore f_bestCount p1 p2 p3 p4 p5 rv hs
    change pX3_search_B (pX3_search d) r_len r_rows f_bestBits f_bestCore f_bestCount p1 p2 p3 p4 p5 = some rv at hs
    refine Met.ofW (cc := cX3_search) (maxL := 10) (ret := none) (by decide) rfl ?_
    intro p e s m args below meth c s₁ B hml hv
    obtain ⟨rfl, hsz, hP, hK, hD0, hN⟩ := hv
    have hx := B.exec
    have hb := B.bytes
    have hr := B.returns
    have hts := atoms_spec (ws := wsX3_search) B.pre
    have hown : s.vm.findClass RX3 = some m.cls := findClass_of_methodNamed B.named
    have hlocks := B.notSynchronized
    subst hsz
    have hD := hD0.self (sz := s.heap.size)
    generalize hAe : va_A [(a_r, .inr (6, [.ref a_r_rows, .ref a_r_ins, .int r_size, .int r_n, .int r_parts])), (a_r_rows, .inl (c_r_rows, r_len, .inl r_rows)), (a_f, .inr (3, [.ref a_r, .int f_bestBits, .int f_bestCore, .int f_bestCount]))] s.heap.size = A at hD hN ⊢
    have hA : ∀ q : Nat, s.heap.size ≤ q → A q := fun q h => by rw [← hAe]; exact Or.inr h
    have hS : va_S A s.heap s.heap [] := va_S.rf
    have hP : va_P (dC, dI) vwCl [(a_r, .inr (6, [.ref a_r_rows, .ref a_r_ins, .int r_size, .int r_n, .int r_parts])), (a_r_rows, .inl (c_r_rows, r_len, .inl r_rows)), (a_f, .inr (3, [.ref a_r, .int f_bestBits, .int f_bestCore, .int f_bestCount]))] s.heap := hP
    have hl := lv_entry ([.ref a_f, .int p1, .int p2, .int p3, .int p4, .int p5]) (n := 10) (Nat.le_of_ble_eq_true rfl)
    rw [lg_entry_eq]
    generalize (lg_sl ([.ref a_f, .int p1, .int p2, .int p3, .int p4, .int p5]) ++ List.replicate (10 - (lg_sl ([.ref a_f, .int p1, .int p2, .int p3, .int p4, .int p5])).length) Slot.unset).toArray = ls at hl ⊢
    have hl : lv_has ls 10 [(0, .ref a_f), (1, .int p1), (2, .int p2), (3, .int p3), (4, .int p4), (5, .int p5)] := hl
    have hiX3 : ∀ w ∈ wsX30, w ∈ wsX3_search := fun _ h => List.mem_cons_of_mem _ (List.mem_append_left _ (List.mem_append_right _ h))
    have hf20 := hts (.fieldLink RX3 20 "MeetSets$Families" "bestCount" "I") (t1_ (al_ (al_ h1_)))
    have hf7 := hts (.fieldLink RX3 7 "MeetSets$Families" "list" "LMeetSets$SetRow;") (t1_ (al_ (al_ (t1_ (t1_ (t1_ h1_))))))
    have hiX6 : ∀ w ∈ wsX60, w ∈ wsX3_search := fun _ h => List.mem_cons_of_mem _ (List.mem_append_right _ h)
    have hf36 := hts (.fieldLink RX3 36 "MeetSets$SetRow" "rows" "[I") (t1_ (al_ (al_ (t4_ h1_))))
    have hf13 := hts (.fieldLink RX3 13 "MeetSets$Families" "bestBits" "I") (t1_ (al_ (al_ (t1_ h1_))))
    have hf17 := hts (.fieldLink RX3 17 "MeetSets$Families" "bestCore" "I") (t1_ (al_ (al_ (t1_ (t1_ h1_)))))
    refine w_abs (fun Z hZv hZw => ?_)
    refine hZv ?_
    obtain ⟨H, hH⟩ : ∃ H, H = s.heap := ⟨_, rfl⟩
    obtain ⟨locs, hlo⟩ : ∃ L : List Loc, L = [] := ⟨_, rfl⟩
    rw [← hlo, ← hH]
    have hS : va_S A s.heap H locs := by rw [hlo, hH]; exact hS
    have hP : va_P (dC, dI) vwCl [(a_r, .inr (6, [.ref a_r_rows, .ref a_r_ins, .int r_size, .int r_n, .int r_parts])), (a_r_rows, .inl (c_r_rows, r_len, .inl r_rows)), (a_f, .inr (3, [.ref a_r, .int f_bestBits, .int f_bestCore, .int f_bestCount]))] H := by rw [hH]; exact hP
    clear hH hlo
    unfold pX3_search_B at hs
    refine lv_iload_n hx hb dX3_search_0 rfl (lv_at hl 3 rfl) ?_
    refine lv_iload_n hx hb dX3_search_1 rfl (lv_at hl 1 rfl) ?_
    refine lv_iadd hx hb dX3_search_2 ?_
    refine lv_aload_n hx hb dX3_search_3 rfl (lv_at hl 0 rfl) ?_
    refine va_get (D := (dC, dI)) (ci := 3) (v := .int f_bestCount) (C := RX3) (T := TX3) (N := 4) hx hb hts hiX3 hown hK hP 2 rfl rfl 3 (by decide) hf20 (fun _ h9 => h9) rfl dX3_search_4 ?_
    refine lv_icmp_gt (tgt := 11) hx hb dX3_search_7 (by decide) (fun hc => ?_) (fun hc => ?_)
    · replace hs := it_t hc hs
      refine lv_iload_n hx hb dX3_search_11 rfl (lv_at hl 1 rfl) ?_
      refine lv_if_gt (tgt := 32) hx hb dX3_search_12 (by decide) (fun hc => ?_) (fun hc => ?_)
      · replace hs := it_t hc hs
        refine lv_iload_n hx hb dX3_search_32 rfl (lv_at hl 1 rfl) ?_
        refine lv_iconst (v := 1) hx hb dX3_search_33 (by decide) ?_
        refine lv_isub hx hb dX3_search_34 ?_
        refine lv_istore (lv' := [(6, .int (p1 - 1)), (0, .ref a_f), (1, .int p1), (2, .int p2), (3, .int p3), (4, .int p4), (5, .int p5)]) hx hb dX3_search_35 hl (by decide) rfl (fun ls hl => ?_)
        refine lv_aload_n hx hb dX3_search_37 rfl (lv_at hl 1 rfl) ?_
        refine lv_iload hx hb dX3_search_38 (lv_at hl 0 rfl) ?_
        refine lv_iload_n hx hb dX3_search_40 rfl (lv_at hl 3 rfl) ?_
        refine lv_iload_n hx hb dX3_search_41 rfl (lv_at hl 4 rfl) ?_
        refine lv_iload hx hb dX3_search_42 (lv_at hl 5 rfl) ?_
        refine lv_iload hx hb dX3_search_44 (lv_at hl 6 rfl) ?_
        obtain ⟨r1, hr1, hs⟩ := bd_s hs
        refine kc_v (isC := [0, 1, 2]) (isR := []) (pm := [0, 1, 2]) (wr := []) (w1 := [(a_r, .inr (6, [.ref a_r_rows, .ref a_r_ins, .int r_size, .int r_n, .int r_parts])), (a_r_rows, .inl (c_r_rows, r_len, .inl r_rows)), (a_f, .inr (3, [.ref a_r, .int r1.1, .int r1.2.1, .int r1.2.2]))]) (w2 := [(a_r, .inr (6, [.ref a_r_rows, .ref a_r_ins, .int r_size, .int r_n, .int r_parts])), (a_r_rows, .inl (c_r_rows, r_len, .inl r_rows)), (a_f, .inr (3, [.ref a_r, .int r1.1, .int r1.2.1, .int r1.2.2]))]) (va_runV (As := [.int (p1 - 1), .int p2, .int p3, .int p4, .int p5]) (rest := []) ⟨hx, hb, hml, hown, hts⟩ (ihd l dC dI a_r a_r_rows a_r_ins a_f c_r_rows r_len H.size r_size r_n r_parts r_rows f_bestBits f_bestCore f_bestCount (p1 - 1) p2 p3 p4 p5 r1 hr1) (cwV 5 hts gX3_search_X3_search rfl rfl rfl (by decide +kernel) ⟨by show 1 + d + 1 ≤ 1 + (d + 1); omega, by show 8 + (10 + 11) + (30 + 29 * d) ≤ 30 + 29 * (d + 1); omega⟩) (kp_V hK hP hD hS hA hN (isC := [0, 1, 2]) (isT := [0]) (wc := [(a_r, .inr (6, [.ref a_r_rows, .ref a_r_ins, .int r_size, .int r_n, .int r_parts])), (a_r_rows, .inl (c_r_rows, r_len, .inl r_rows)), (a_f, .inr (3, [.ref a_r, .int f_bestBits, .int f_bestCore, .int f_bestCount]))]) rfl (by decide +kernel) rfl (ci := 3) (q0 := 2) rfl rfl) rfl rfl hl.1 rfl (lv_room (Nat.le_of_ble_eq_true rfl)) dX3_search_46 ⟨Nat.le_of_ble_eq_true rfl, Nat.le_of_ble_eq_true rfl⟩) hP hD hS hA rfl rfl (by decide +kernel) (by decide +kernel) rfl (by decide +kernel) (fun H locs hP hD hS => ?_)
        refine lv_aload_n hx hb dX3_search_49 rfl (lv_at hl 1 rfl) ?_
        refine va_get (D := (dC, dI)) (ci := 3) (v := .ref a_r) (C := RX3) (T := TX3) (N := 4) hx hb hts hiX3 hown hK hP 2 rfl rfl 0 (by decide) hf7 (fun _ h9 => h9) rfl dX3_search_50 ?_
        refine va_get (D := (dC, dI)) (ci := 6) (v := .ref a_r_rows) (C := RX6) (T := TX6) (N := 5) hx hb hts hiX6 hown hK hP 0 rfl rfl 0 (by decide) hf36 (fun _ h9 => h9) rfl dX3_search_53 ?_
        refine lv_iload hx hb dX3_search_56 (lv_at hl 0 rfl) ?_
        obtain ⟨hg2, hs⟩ := gd_s hs
        refine va_iald hx hb hK hP 1 0 rfl rfl hg2 dX3_search_58 ?_
        refine lv_istore (lv' := [(7, .int (r_rows (p1 - 1).toNatClampNeg)), (6, .int (p1 - 1)), (0, .ref a_f), (1, .int p1), (2, .int p2), (3, .int p3), (4, .int p4), (5, .int p5)]) hx hb dX3_search_59 hl (by decide) rfl (fun ls hl => ?_)
        refine lv_iload hx hb dX3_search_61 (lv_at hl 0 rfl) ?_
        refine lv_iload hx hb dX3_search_63 (lv_at hl 6 rfl) ?_
        refine lv_iand hx hb dX3_search_65 ?_
        refine lv_istore (lv' := [(8, .int ((r_rows (p1 - 1).toNatClampNeg) &&& p4)), (7, .int (r_rows (p1 - 1).toNatClampNeg)), (6, .int (p1 - 1)), (0, .ref a_f), (1, .int p1), (2, .int p2), (3, .int p3), (4, .int p4), (5, .int p5)]) hx hb dX3_search_66 hl (by decide) rfl (fun ls hl => ?_)
        refine lv_iload hx hb dX3_search_68 (lv_at hl 8 rfl) ?_
        refine lv_iconst (v := (-1)) hx hb dX3_search_70 (by decide) ?_
        have hJ81 : ∀ (t81 : Unit), pX3_search_J81 r_len r_rows p1 p2 p3 p4 p5 (pX3_search d) r1 t81 = some rv → ∀ (H : Heap) (locs : List Loc) (ls : Array Slot), va_P (dC, dI) vwCl [(a_r, .inr (6, [.ref a_r_rows, .ref a_r_ins, .int r_size, .int r_n, .int r_parts])), (a_r_rows, .inl (c_r_rows, r_len, .inl r_rows)), (a_f, .inr (3, [.ref a_r, .int r1.1, .int r1.2.1, .int r1.2.2]))] H → va_D A [(a_r, .inr (6, [.ref a_r_rows, .ref a_r_ins, .int r_size, .int r_n, .int r_parts])), (a_r_rows, .inl (c_r_rows, r_len, .inl r_rows)), (a_f, .inr (3, [.ref a_r, .int r1.1, .int r1.2.1, .int r1.2.2]))] → va_S A s.heap H locs → lv_has ls 10 [(0, .ref a_f), (2, .int p2), (3, .int p3), (4, .int p4), (5, .int p5), (6, .int (p1 - 1)), (7, .int (r_rows (p1 - 1).toNatClampNeg)), (8, .int ((r_rows (p1 - 1).toNatClampNeg) &&& p4))] → Z H locs 0 0 (F0 m 81 ls []) := by
          intro t81 hs H locs ls hP hD hS hl
          refine hZv ?_
          unfold pX3_search_J81 at hs
          refine lv_iload hx hb dX3_search_81 (lv_at hl 4 rfl) ?_
          refine lv_iconst (v := (-1)) hx hb dX3_search_83 (by decide) ?_
          obtain ⟨t99, hq99, hs⟩ := bd_s hs
          have hJ99 : ∀ (H : Heap) (locs : List Loc) (ls : Array Slot), va_P (dC, dI) vwCl [(a_r, .inr (6, [.ref a_r_rows, .ref a_r_ins, .int r_size, .int r_n, .int r_parts])), (a_r_rows, .inl (c_r_rows, r_len, .inl r_rows)), (a_f, .inr (3, [.ref a_r, .int r1.1, .int r1.2.1, .int r1.2.2]))] H → va_D A [(a_r, .inr (6, [.ref a_r_rows, .ref a_r_ins, .int r_size, .int r_n, .int r_parts])), (a_r_rows, .inl (c_r_rows, r_len, .inl r_rows)), (a_f, .inr (3, [.ref a_r, .int r1.1, .int r1.2.1, .int r1.2.2]))] → va_S A s.heap H locs → lv_has ls 10 [(0, .ref a_f), (2, .int p2), (3, .int p3), (4, .int p4), (6, .int (p1 - 1)), (7, .int (r_rows (p1 - 1).toNatClampNeg))] → Z H locs 0 0 (F0 m 99 ls [.int t99]) := by
            intro H locs ls hP hD hS hl
            refine hZv ?_
            refine lv_istore (lv' := [(9, .int t99), (0, .ref a_f), (2, .int p2), (3, .int p3), (4, .int p4), (6, .int (p1 - 1)), (7, .int (r_rows (p1 - 1).toNatClampNeg))]) hx hb dX3_search_99 hl (by decide) rfl (fun ls hl => ?_)
            refine lv_aload_n hx hb dX3_search_101 rfl (lv_at hl 1 rfl) ?_
            refine lv_iload hx hb dX3_search_102 (lv_at hl 5 rfl) ?_
            refine lv_iload_n hx hb dX3_search_104 rfl (lv_at hl 2 rfl) ?_
            refine lv_iconst (v := 1) hx hb dX3_search_105 (by decide) ?_
            refine lv_iload hx hb dX3_search_106 (lv_at hl 5 rfl) ?_
            refine lv_ishl hx hb dX3_search_108 ?_
            refine lv_ior hx hb dX3_search_109 ?_
            refine lv_iload_n hx hb dX3_search_110 rfl (lv_at hl 3 rfl) ?_
            refine lv_iconst (v := 1) hx hb dX3_search_111 (by decide) ?_
            refine lv_iadd hx hb dX3_search_112 ?_
            refine lv_iload hx hb dX3_search_113 (lv_at hl 4 rfl) ?_
            refine lv_iload hx hb dX3_search_115 (lv_at hl 6 rfl) ?_
            refine lv_ior hx hb dX3_search_117 ?_
            refine lv_iload hx hb dX3_search_118 (lv_at hl 0 rfl) ?_
            obtain ⟨r3, hr3, hs⟩ := bd_s hs
            refine kc_v (isC := [0, 1, 2]) (isR := []) (pm := [0, 1, 2]) (wr := []) (w1 := [(a_r, .inr (6, [.ref a_r_rows, .ref a_r_ins, .int r_size, .int r_n, .int r_parts])), (a_r_rows, .inl (c_r_rows, r_len, .inl r_rows)), (a_f, .inr (3, [.ref a_r, .int r3.1, .int r3.2.1, .int r3.2.2]))]) (w2 := [(a_r, .inr (6, [.ref a_r_rows, .ref a_r_ins, .int r_size, .int r_n, .int r_parts])), (a_r_rows, .inl (c_r_rows, r_len, .inl r_rows)), (a_f, .inr (3, [.ref a_r, .int r3.1, .int r3.2.1, .int r3.2.2]))]) (va_runV (As := [.int (p1 - 1), .int (p2 ||| (1 <<< ((p1 - 1) &&& 31))), .int (p3 + 1), .int (p4 ||| (r_rows (p1 - 1).toNatClampNeg)), .int t99]) (rest := []) ⟨hx, hb, hml, hown, hts⟩ (ihd l dC dI a_r a_r_rows a_r_ins a_f c_r_rows r_len H.size r_size r_n r_parts r_rows r1.1 r1.2.1 r1.2.2 (p1 - 1) (p2 ||| (1 <<< ((p1 - 1) &&& 31))) (p3 + 1) (p4 ||| (r_rows (p1 - 1).toNatClampNeg)) t99 r3 hr3) (cwV 5 hts gX3_search_X3_search rfl rfl rfl (by decide +kernel) ⟨by show 1 + d + 1 ≤ 1 + (d + 1); omega, by show 8 + (10 + 11) + (30 + 29 * d) ≤ 30 + 29 * (d + 1); omega⟩) (kp_V hK hP hD hS hA hN (isC := [0, 1, 2]) (isT := [0]) (wc := [(a_r, .inr (6, [.ref a_r_rows, .ref a_r_ins, .int r_size, .int r_n, .int r_parts])), (a_r_rows, .inl (c_r_rows, r_len, .inl r_rows)), (a_f, .inr (3, [.ref a_r, .int r1.1, .int r1.2.1, .int r1.2.2]))]) rfl (by decide +kernel) rfl (ci := 3) (q0 := 2) rfl rfl) rfl rfl hl.1 rfl (lv_room (Nat.le_of_ble_eq_true rfl)) dX3_search_120 ⟨Nat.le_of_ble_eq_true rfl, Nat.le_of_ble_eq_true rfl⟩) hP hD hS hA rfl rfl (by decide +kernel) (by decide +kernel) rfl (by decide +kernel) (fun H locs hP hD hS => ?_)
            replace hs := Option.some.inj hs
            subst hs
            exact W.vret hx hb hr (fun t ht hW => ⟨⟨(), rfl, trivial, by rw [ht]; exact hP, va_K.moved hW.alike hK, hD⟩, hS.F ht⟩) hS.2.2 dX3_search_123
          clear hs
          have hs := hq99
          have hJ97 : ∀ (t97 : Unit), pX3_search_J97_4 p5 t97 = some t99 → ∀ (H : Heap) (locs : List Loc) (ls : Array Slot), va_P (dC, dI) vwCl [(a_r, .inr (6, [.ref a_r_rows, .ref a_r_ins, .int r_size, .int r_n, .int r_parts])), (a_r_rows, .inl (c_r_rows, r_len, .inl r_rows)), (a_f, .inr (3, [.ref a_r, .int r1.1, .int r1.2.1, .int r1.2.2]))] H → va_D A [(a_r, .inr (6, [.ref a_r_rows, .ref a_r_ins, .int r_size, .int r_n, .int r_parts])), (a_r_rows, .inl (c_r_rows, r_len, .inl r_rows)), (a_f, .inr (3, [.ref a_r, .int r1.1, .int r1.2.1, .int r1.2.2]))] → va_S A s.heap H locs → lv_has ls 10 [(0, .ref a_f), (2, .int p2), (3, .int p3), (4, .int p4), (5, .int p5), (6, .int (p1 - 1)), (7, .int (r_rows (p1 - 1).toNatClampNeg))] → Z H locs 0 0 (F0 m 97 ls []) := by
            intro t97 hs H locs ls hP hD hS hl
            refine hZv ?_
            unfold pX3_search_J97_4 at hs
            refine lv_iload hx hb dX3_search_97 (lv_at hl 4 rfl) ?_
            replace hs := Option.some.inj hs
            subst hs
            exact hZw (hJ99 H locs ls hP hD hS (lv_sub hl [0, 1, 2, 3, 5, 6] rfl))
          refine lv_icmp_ne (tgt := 97) hx hb dX3_search_84 (by decide) (fun hc => ?_) (fun hc => ?_)
          · replace hs := it_f hc hs
            exact hZw (hJ97 () hs H locs ls hP hD hS (lv_sub hl [0, 1, 2, 3, 4, 5, 6] rfl))
          · replace hs := it_t hc hs
            refine lv_iload_n hx hb dX3_search_87 rfl (lv_at hl 2 rfl) ?_
            refine lv_iconst (v := 1) hx hb dX3_search_88 (by decide) ?_
            refine lv_icmp_ne (tgt := 97) hx hb dX3_search_89 (by decide) (fun hc => ?_) (fun hc => ?_)
            · replace hs := it_f hc hs
              exact hZw (hJ97 () hs H locs ls hP hD hS (lv_sub hl [0, 1, 2, 3, 4, 5, 6] rfl))
            · replace hs := it_t hc hs
              refine lv_iload hx hb dX3_search_92 (lv_at hl 7 rfl) ?_
              refine lv_goto (tgt := 99) hx hb dX3_search_94 (by decide) ?_
              replace hs := Option.some.inj hs
              subst hs
              exact hZw (hJ99 H locs ls hP hD hS (lv_sub hl [0, 1, 2, 3, 5, 6] rfl))
        refine lv_icmp_eq (tgt := 81) hx hb dX3_search_71 (by decide) (fun hc => ?_) (fun hc => ?_)
        · replace hs := it_t hc hs
          exact hZw (hJ81 () hs H locs ls hP hD hS (lv_sub hl [3, 5, 6, 7, 8, 2, 1, 0] rfl))
        · replace hs := it_f hc hs
          refine lv_iload hx hb dX3_search_74 (lv_at hl 0 rfl) ?_
          refine lv_iload hx hb dX3_search_76 (lv_at hl 8 rfl) ?_
          refine lv_icmp_ne (tgt := 123) hx hb dX3_search_78 (by decide) (fun hc => ?_) (fun hc => ?_)
          · replace hs := it_f hc hs
            replace hs := Option.some.inj hs
            subst hs
            exact W.vret hx hb hr (fun t ht hW => ⟨⟨(), rfl, trivial, by rw [ht]; exact hP, va_K.moved hW.alike hK, hD⟩, hS.F ht⟩) hS.2.2 dX3_search_123
          · replace hs := it_t hc hs
            exact hZw (hJ81 () hs H locs ls hP hD hS (lv_sub hl [3, 5, 6, 7, 8, 2, 1, 0] rfl))
      · replace hs := it_f hc hs
        refine lv_aload_n hx hb dX3_search_15 rfl (lv_at hl 0 rfl) ?_
        refine lv_iload_n hx hb dX3_search_16 rfl (lv_at hl 2 rfl) ?_
        refine va_put (D := (dC, dI)) (ci := 3) (v := .int p2) (ty := .int) (C := RX3) (T := TX3) (N := 4) hx hb hts hiX3 tyX3 tyX3_ok nmX3 hown hK hP hD hS 2 rfl rfl 1 (by decide) hf13 (fun _ h9 => h9) rfl (by decide +kernel) rfl rfl (Nat.le_of_ble_eq_true rfl) dX3_search_17 (fun H locs hP hD hS => ?_)
        have hP : va_P (dC, dI) vwCl [(a_r, .inr (6, [.ref a_r_rows, .ref a_r_ins, .int r_size, .int r_n, .int r_parts])), (a_r_rows, .inl (c_r_rows, r_len, .inl r_rows)), (a_f, .inr (3, [.ref a_r, .int p2, .int f_bestCore, .int f_bestCount]))] H := hP
        have hD : va_D A [(a_r, .inr (6, [.ref a_r_rows, .ref a_r_ins, .int r_size, .int r_n, .int r_parts])), (a_r_rows, .inl (c_r_rows, r_len, .inl r_rows)), (a_f, .inr (3, [.ref a_r, .int p2, .int f_bestCore, .int f_bestCount]))] := hD
        refine lv_aload_n hx hb dX3_search_20 rfl (lv_at hl 0 rfl) ?_
        refine lv_iload hx hb dX3_search_21 (lv_at hl 5 rfl) ?_
        refine va_put (D := (dC, dI)) (ci := 3) (v := .int p5) (ty := .int) (C := RX3) (T := TX3) (N := 4) hx hb hts hiX3 tyX3 tyX3_ok nmX3 hown hK hP hD hS 2 rfl rfl 2 (by decide) hf17 (fun _ h9 => h9) rfl (by decide +kernel) rfl rfl (Nat.le_of_ble_eq_true rfl) dX3_search_23 (fun H locs hP hD hS => ?_)
        have hP : va_P (dC, dI) vwCl [(a_r, .inr (6, [.ref a_r_rows, .ref a_r_ins, .int r_size, .int r_n, .int r_parts])), (a_r_rows, .inl (c_r_rows, r_len, .inl r_rows)), (a_f, .inr (3, [.ref a_r, .int p2, .int p5, .int f_bestCount]))] H := hP
        have hD : va_D A [(a_r, .inr (6, [.ref a_r_rows, .ref a_r_ins, .int r_size, .int r_n, .int r_parts])), (a_r_rows, .inl (c_r_rows, r_len, .inl r_rows)), (a_f, .inr (3, [.ref a_r, .int p2, .int p5, .int f_bestCount]))] := hD
        refine lv_aload_n hx hb dX3_search_26 rfl (lv_at hl 0 rfl) ?_
        refine lv_iload_n hx hb dX3_search_27 rfl (lv_at hl 3 rfl) ?_
        refine va_put (D := (dC, dI)) (ci := 3) (v := .int p3) (ty := .int) (C := RX3) (T := TX3) (N := 4) hx hb hts hiX3 tyX3 tyX3_ok nmX3 hown hK hP hD hS 2 rfl rfl 3 (by decide) hf20 (fun _ h9 => h9) rfl (by decide +kernel) rfl rfl (Nat.le_of_ble_eq_true rfl) dX3_search_28 (fun H locs hP hD hS => ?_)
        have hP : va_P (dC, dI) vwCl [(a_r, .inr (6, [.ref a_r_rows, .ref a_r_ins, .int r_size, .int r_n, .int r_parts])), (a_r_rows, .inl (c_r_rows, r_len, .inl r_rows)), (a_f, .inr (3, [.ref a_r, .int p2, .int p5, .int p3]))] H := hP
        have hD : va_D A [(a_r, .inr (6, [.ref a_r_rows, .ref a_r_ins, .int r_size, .int r_n, .int r_parts])), (a_r_rows, .inl (c_r_rows, r_len, .inl r_rows)), (a_f, .inr (3, [.ref a_r, .int p2, .int p5, .int p3]))] := hD
        replace hs := Option.some.inj hs
        subst hs
        exact W.vret hx hb hr (fun t ht hW => ⟨⟨(), rfl, trivial, by rw [ht]; exact hP, va_K.moved hW.alike hK, hD⟩, hS.F ht⟩) hS.2.2 dX3_search_31
    · replace hs := it_f hc hs
      replace hs := Option.some.inj hs
      subst hs
      exact W.vret hx hb hr (fun t ht hW => ⟨⟨(), rfl, trivial, by rw [ht]; exact hP, va_K.moved hW.alike hK, hD⟩, hS.F ht⟩) hS.2.2 dX3_search_10
noncomputable def pX3_start (r_len : Nat) (r_size : Int32) (r_rows : Nat → Int32) (f_bestBits : Int32) (f_bestCore : Int32) (f_bestCount : Int32) (p1 : Int32) (p2 : Int32) : Option (Int32 × Int32 × Int32) :=
  Option.bind (pX3_search 18 r_len r_rows 0 0 p1 r_size 0 0 0 p2) (fun r1 => some (r1.1, r1.2.1, r1.2.2))
set_option maxHeartbeats 4000000 in
set_option maxRecDepth 100000 in
theorem c_X3_start (l : Launch) (dC : Nat → ClassId) (dI : Nat → Nat → Nat) (a_r : Nat) (a_r_rows : Nat) (a_r_ins : Nat) (a_f : Nat) (c_r_rows : ClassId) (r_len : Nat) (sz : Nat) (r_size : Int32) (r_n : Int32) (r_parts : Int32) (r_rows : Nat → Int32) (f_bestBits : Int32) (f_bestCore : Int32) (f_bestCount : Int32) (p1 : Int32) (p2 : Int32) (rv : Int32 × Int32 × Int32) (hs : pX3_start r_len r_size r_rows f_bestBits f_bestCore f_bestCount p1 p2 = some rv) : Met l yX3_start wsX3_start ({ frames := 20, cells := 0, slots := 0, locals := 581 }) (sPc [.ref a_f, .int p1, .int p2] (dC, dI) [(c_r_rows, .int)] [(a_r, .inr (6, [.ref a_r_rows, .ref a_r_ins, .int r_size, .int r_n, .int r_parts])), (a_r_rows, .inl (c_r_rows, r_len, .inl r_rows)), (a_f, .inr (3, [.ref a_r, .int f_bestBits, .int f_bestCore, .int f_bestCount]))] sz) (va_Qv (fun (_ : Unit) => True) (sB (dC, dI) [(c_r_rows, .int)] (va_A [(a_r, .inr (6, [.ref a_r_rows, .ref a_r_ins, .int r_size, .int r_n, .int r_parts])), (a_r_rows, .inl (c_r_rows, r_len, .inl r_rows)), (a_f, .inr (3, [.ref a_r, .int f_bestBits, .int f_bestCore, .int f_bestCount]))] sz) [(a_r, .inr (6, [.ref a_r_rows, .ref a_r_ins, .int r_size, .int r_n, .int r_parts])), (a_r_rows, .inl (c_r_rows, r_len, .inl r_rows)), (a_f, .inr (3, [.ref a_r, .int rv.1, .int rv.2.1, .int rv.2.2]))]) (va_A [(a_r, .inr (6, [.ref a_r_rows, .ref a_r_ins, .int r_size, .int r_n, .int r_parts])), (a_r_rows, .inl (c_r_rows, r_len, .inl r_rows)), (a_f, .inr (3, [.ref a_r, .int f_bestBits, .int f_bestCore, .int f_bestCount]))] sz)) 0 0 (va_A [(a_r, .inr (6, [.ref a_r_rows, .ref a_r_ins, .int r_size, .int r_n, .int r_parts])), (a_r_rows, .inl (c_r_rows, r_len, .inl r_rows)), (a_f, .inr (3, [.ref a_r, .int f_bestBits, .int f_bestCore, .int f_bestCount]))] sz) := by
  refine Met.ofW (cc := cX3_start) (maxL := 3) (ret := none) (by decide) rfl ?_
  intro p e s m args below meth c s₁ B hml hv
  obtain ⟨rfl, hsz, hP, hK, hD0, hN⟩ := hv
  have hx := B.exec
  have hb := B.bytes
  have hr := B.returns
  have hts := atoms_spec (ws := wsX3_start) B.pre
  have hown : s.vm.findClass RX3 = some m.cls := findClass_of_methodNamed B.named
  have hlocks := B.notSynchronized
  subst hsz
  have hD := hD0.self (sz := s.heap.size)
  generalize hAe : va_A [(a_r, .inr (6, [.ref a_r_rows, .ref a_r_ins, .int r_size, .int r_n, .int r_parts])), (a_r_rows, .inl (c_r_rows, r_len, .inl r_rows)), (a_f, .inr (3, [.ref a_r, .int f_bestBits, .int f_bestCore, .int f_bestCount]))] s.heap.size = A at hD hN ⊢
  have hA : ∀ q : Nat, s.heap.size ≤ q → A q := fun q h => by rw [← hAe]; exact Or.inr h
  have hS : va_S A s.heap s.heap [] := va_S.rf
  have hP : va_P (dC, dI) vwCl [(a_r, .inr (6, [.ref a_r_rows, .ref a_r_ins, .int r_size, .int r_n, .int r_parts])), (a_r_rows, .inl (c_r_rows, r_len, .inl r_rows)), (a_f, .inr (3, [.ref a_r, .int f_bestBits, .int f_bestCore, .int f_bestCount]))] s.heap := hP
  have hl := lv_entry ([.ref a_f, .int p1, .int p2]) (n := 3) (Nat.le_of_ble_eq_true rfl)
  rw [lg_entry_eq]
  generalize (lg_sl ([.ref a_f, .int p1, .int p2]) ++ List.replicate (3 - (lg_sl ([.ref a_f, .int p1, .int p2])).length) Slot.unset).toArray = ls at hl ⊢
  have hl : lv_has ls 3 [(0, .ref a_f), (1, .int p1), (2, .int p2)] := hl
  have hiX3 : ∀ w ∈ wsX30, w ∈ wsX3_start := fun _ h => List.mem_cons_of_mem _ (List.mem_append_left _ (List.mem_append_right _ h))
  have hf13 := hts (.fieldLink RX3 13 "MeetSets$Families" "bestBits" "I") (t1_ (al_ (al_ h1_)))
  have hf17 := hts (.fieldLink RX3 17 "MeetSets$Families" "bestCore" "I") (t1_ (al_ (al_ (t1_ h1_))))
  have hf20 := hts (.fieldLink RX3 20 "MeetSets$Families" "bestCount" "I") (t1_ (al_ (al_ (t1_ (t1_ h1_)))))
  have hf7 := hts (.fieldLink RX3 7 "MeetSets$Families" "list" "LMeetSets$SetRow;") (t1_ (al_ (al_ (t1_ (t1_ (t1_ h1_))))))
  have hiX6 : ∀ w ∈ wsX60, w ∈ wsX3_start := fun _ h => List.mem_cons_of_mem _ (List.mem_append_right _ h)
  have hf27 := hts (.fieldLink RX3 27 "MeetSets$SetRow" "size" "I") (t1_ (al_ (al_ (t4_ h1_))))
  refine w_abs (fun Z hZv hZw => ?_)
  refine hZv ?_
  obtain ⟨H, hH⟩ : ∃ H, H = s.heap := ⟨_, rfl⟩
  obtain ⟨locs, hlo⟩ : ∃ L : List Loc, L = [] := ⟨_, rfl⟩
  rw [← hlo, ← hH]
  have hS : va_S A s.heap H locs := by rw [hlo, hH]; exact hS
  have hP : va_P (dC, dI) vwCl [(a_r, .inr (6, [.ref a_r_rows, .ref a_r_ins, .int r_size, .int r_n, .int r_parts])), (a_r_rows, .inl (c_r_rows, r_len, .inl r_rows)), (a_f, .inr (3, [.ref a_r, .int f_bestBits, .int f_bestCore, .int f_bestCount]))] H := by rw [hH]; exact hP
  clear hH hlo
  unfold pX3_start at hs
  refine lv_aload_n hx hb dX3_start_0 rfl (lv_at hl 0 rfl) ?_
  refine lv_iconst (v := 0) hx hb dX3_start_1 (by decide) ?_
  refine va_put (D := (dC, dI)) (ci := 3) (v := .int 0) (ty := .int) (C := RX3) (T := TX3) (N := 4) hx hb hts hiX3 tyX3 tyX3_ok nmX3 hown hK hP hD hS 2 rfl rfl 1 (by decide) hf13 (fun _ h9 => h9) rfl (by decide +kernel) rfl rfl (Nat.le_of_ble_eq_true rfl) dX3_start_2 (fun H locs hP hD hS => ?_)
  have hP : va_P (dC, dI) vwCl [(a_r, .inr (6, [.ref a_r_rows, .ref a_r_ins, .int r_size, .int r_n, .int r_parts])), (a_r_rows, .inl (c_r_rows, r_len, .inl r_rows)), (a_f, .inr (3, [.ref a_r, .int 0, .int f_bestCore, .int f_bestCount]))] H := hP
  have hD : va_D A [(a_r, .inr (6, [.ref a_r_rows, .ref a_r_ins, .int r_size, .int r_n, .int r_parts])), (a_r_rows, .inl (c_r_rows, r_len, .inl r_rows)), (a_f, .inr (3, [.ref a_r, .int 0, .int f_bestCore, .int f_bestCount]))] := hD
  refine lv_aload_n hx hb dX3_start_5 rfl (lv_at hl 0 rfl) ?_
  refine lv_iconst (v := 0) hx hb dX3_start_6 (by decide) ?_
  refine va_put (D := (dC, dI)) (ci := 3) (v := .int 0) (ty := .int) (C := RX3) (T := TX3) (N := 4) hx hb hts hiX3 tyX3 tyX3_ok nmX3 hown hK hP hD hS 2 rfl rfl 2 (by decide) hf17 (fun _ h9 => h9) rfl (by decide +kernel) rfl rfl (Nat.le_of_ble_eq_true rfl) dX3_start_7 (fun H locs hP hD hS => ?_)
  have hP : va_P (dC, dI) vwCl [(a_r, .inr (6, [.ref a_r_rows, .ref a_r_ins, .int r_size, .int r_n, .int r_parts])), (a_r_rows, .inl (c_r_rows, r_len, .inl r_rows)), (a_f, .inr (3, [.ref a_r, .int 0, .int 0, .int f_bestCount]))] H := hP
  have hD : va_D A [(a_r, .inr (6, [.ref a_r_rows, .ref a_r_ins, .int r_size, .int r_n, .int r_parts])), (a_r_rows, .inl (c_r_rows, r_len, .inl r_rows)), (a_f, .inr (3, [.ref a_r, .int 0, .int 0, .int f_bestCount]))] := hD
  refine lv_aload_n hx hb dX3_start_10 rfl (lv_at hl 0 rfl) ?_
  refine lv_iload_n hx hb dX3_start_11 rfl (lv_at hl 1 rfl) ?_
  refine va_put (D := (dC, dI)) (ci := 3) (v := .int p1) (ty := .int) (C := RX3) (T := TX3) (N := 4) hx hb hts hiX3 tyX3 tyX3_ok nmX3 hown hK hP hD hS 2 rfl rfl 3 (by decide) hf20 (fun _ h9 => h9) rfl (by decide +kernel) rfl rfl (Nat.le_of_ble_eq_true rfl) dX3_start_12 (fun H locs hP hD hS => ?_)
  have hP : va_P (dC, dI) vwCl [(a_r, .inr (6, [.ref a_r_rows, .ref a_r_ins, .int r_size, .int r_n, .int r_parts])), (a_r_rows, .inl (c_r_rows, r_len, .inl r_rows)), (a_f, .inr (3, [.ref a_r, .int 0, .int 0, .int p1]))] H := hP
  have hD : va_D A [(a_r, .inr (6, [.ref a_r_rows, .ref a_r_ins, .int r_size, .int r_n, .int r_parts])), (a_r_rows, .inl (c_r_rows, r_len, .inl r_rows)), (a_f, .inr (3, [.ref a_r, .int 0, .int 0, .int p1]))] := hD
  refine lv_aload_n hx hb dX3_start_15 rfl (lv_at hl 0 rfl) ?_
  refine lv_aload_n hx hb dX3_start_16 rfl (lv_at hl 0 rfl) ?_
  refine va_get (D := (dC, dI)) (ci := 3) (v := .ref a_r) (C := RX3) (T := TX3) (N := 4) hx hb hts hiX3 hown hK hP 2 rfl rfl 0 (by decide) hf7 (fun _ h9 => h9) rfl dX3_start_17 ?_
  refine va_get (D := (dC, dI)) (ci := 6) (v := .int r_size) (C := RX6) (T := TX6) (N := 5) hx hb hts hiX6 hown hK hP 0 rfl rfl 2 (by decide) hf27 (fun _ h9 => h9) rfl dX3_start_20 ?_
  refine lv_iconst (v := 0) hx hb dX3_start_23 (by decide) ?_
  refine lv_iconst (v := 0) hx hb dX3_start_24 (by decide) ?_
  refine lv_iconst (v := 0) hx hb dX3_start_25 (by decide) ?_
  refine lv_iload_n hx hb dX3_start_26 rfl (lv_at hl 2 rfl) ?_
  obtain ⟨r1, hr1, hs⟩ := bd_s hs
  refine kc_v (isC := [0, 1, 2]) (isR := []) (pm := [0, 1, 2]) (wr := []) (w1 := [(a_r, .inr (6, [.ref a_r_rows, .ref a_r_ins, .int r_size, .int r_n, .int r_parts])), (a_r_rows, .inl (c_r_rows, r_len, .inl r_rows)), (a_f, .inr (3, [.ref a_r, .int r1.1, .int r1.2.1, .int r1.2.2]))]) (w2 := [(a_r, .inr (6, [.ref a_r_rows, .ref a_r_ins, .int r_size, .int r_n, .int r_parts])), (a_r_rows, .inl (c_r_rows, r_len, .inl r_rows)), (a_f, .inr (3, [.ref a_r, .int r1.1, .int r1.2.1, .int r1.2.2]))]) (va_runV (As := [.int r_size, .int 0, .int 0, .int 0, .int p2]) (rest := []) ⟨hx, hb, hml, hown, hts⟩ (c_X3_search 18 l dC dI a_r a_r_rows a_r_ins a_f c_r_rows r_len H.size r_size r_n r_parts r_rows 0 0 p1 r_size 0 0 0 p2 r1 hr1) (cwV 5 hts gX3_start_X3_search rfl rfl rfl (by decide +kernel) ⟨Nat.le_of_ble_eq_true rfl, Nat.le_of_ble_eq_true rfl⟩) (kp_V hK hP hD hS hA hN (isC := [0, 1, 2]) (isT := [0]) (wc := [(a_r, .inr (6, [.ref a_r_rows, .ref a_r_ins, .int r_size, .int r_n, .int r_parts])), (a_r_rows, .inl (c_r_rows, r_len, .inl r_rows)), (a_f, .inr (3, [.ref a_r, .int 0, .int 0, .int p1]))]) rfl (by decide +kernel) rfl (ci := 3) (q0 := 2) rfl rfl) rfl rfl hl.1 rfl (lv_room (Nat.le_of_ble_eq_true rfl)) dX3_start_27 ⟨Nat.le_of_ble_eq_true rfl, Nat.le_of_ble_eq_true rfl⟩) hP hD hS hA rfl rfl (by decide +kernel) (by decide +kernel) rfl (by decide +kernel) (fun H locs hP hD hS => ?_)
  replace hs := Option.some.inj hs
  subst hs
  exact W.vret hx hb hr (fun t ht hW => ⟨⟨(), rfl, trivial, by rw [ht]; exact hP, va_K.moved hW.alike hK, hD⟩, hS.F ht⟩) hS.2.2 dX3_start_30
noncomputable def pX3_findApart (r_len : Nat) (r_size : Int32) (r_rows : Nat → Int32) (f_bestBits : Int32) (f_bestCore : Int32) (f_bestCount : Int32) : Option (Int32 × Int32 × Int32) :=
  Option.bind (pX3_start r_len r_size r_rows f_bestBits f_bestCore f_bestCount 0 0) (fun r1 => some (r1.1, r1.2.1, r1.2.2))
set_option maxHeartbeats 4000000 in
set_option maxRecDepth 100000 in
theorem c_X3_findApart (l : Launch) (dC : Nat → ClassId) (dI : Nat → Nat → Nat) (a_r : Nat) (a_r_rows : Nat) (a_r_ins : Nat) (a_f : Nat) (c_r_rows : ClassId) (r_len : Nat) (sz : Nat) (r_size : Int32) (r_n : Int32) (r_parts : Int32) (r_rows : Nat → Int32) (f_bestBits : Int32) (f_bestCore : Int32) (f_bestCount : Int32) (rv : Int32 × Int32 × Int32) (hs : pX3_findApart r_len r_size r_rows f_bestBits f_bestCore f_bestCount = some rv) : Met l yX3_findApart wsX3_findApart ({ frames := 21, cells := 0, slots := 0, locals := 603 }) (sPc [.ref a_f] (dC, dI) [(c_r_rows, .int)] [(a_r, .inr (6, [.ref a_r_rows, .ref a_r_ins, .int r_size, .int r_n, .int r_parts])), (a_r_rows, .inl (c_r_rows, r_len, .inl r_rows)), (a_f, .inr (3, [.ref a_r, .int f_bestBits, .int f_bestCore, .int f_bestCount]))] sz) (va_Qv (fun (_ : Unit) => True) (sB (dC, dI) [(c_r_rows, .int)] (va_A [(a_r, .inr (6, [.ref a_r_rows, .ref a_r_ins, .int r_size, .int r_n, .int r_parts])), (a_r_rows, .inl (c_r_rows, r_len, .inl r_rows)), (a_f, .inr (3, [.ref a_r, .int f_bestBits, .int f_bestCore, .int f_bestCount]))] sz) [(a_r, .inr (6, [.ref a_r_rows, .ref a_r_ins, .int r_size, .int r_n, .int r_parts])), (a_r_rows, .inl (c_r_rows, r_len, .inl r_rows)), (a_f, .inr (3, [.ref a_r, .int rv.1, .int rv.2.1, .int rv.2.2]))]) (va_A [(a_r, .inr (6, [.ref a_r_rows, .ref a_r_ins, .int r_size, .int r_n, .int r_parts])), (a_r_rows, .inl (c_r_rows, r_len, .inl r_rows)), (a_f, .inr (3, [.ref a_r, .int f_bestBits, .int f_bestCore, .int f_bestCount]))] sz)) 0 0 (va_A [(a_r, .inr (6, [.ref a_r_rows, .ref a_r_ins, .int r_size, .int r_n, .int r_parts])), (a_r_rows, .inl (c_r_rows, r_len, .inl r_rows)), (a_f, .inr (3, [.ref a_r, .int f_bestBits, .int f_bestCore, .int f_bestCount]))] sz) := by
  refine Met.ofW (cc := cX3_findApart) (maxL := 1) (ret := none) (by decide) rfl ?_
  intro p e s m args below meth c s₁ B hml hv
  obtain ⟨rfl, hsz, hP, hK, hD0, hN⟩ := hv
  have hx := B.exec
  have hb := B.bytes
  have hr := B.returns
  have hts := atoms_spec (ws := wsX3_findApart) B.pre
  have hown : s.vm.findClass RX3 = some m.cls := findClass_of_methodNamed B.named
  have hlocks := B.notSynchronized
  subst hsz
  have hD := hD0.self (sz := s.heap.size)
  generalize hAe : va_A [(a_r, .inr (6, [.ref a_r_rows, .ref a_r_ins, .int r_size, .int r_n, .int r_parts])), (a_r_rows, .inl (c_r_rows, r_len, .inl r_rows)), (a_f, .inr (3, [.ref a_r, .int f_bestBits, .int f_bestCore, .int f_bestCount]))] s.heap.size = A at hD hN ⊢
  have hA : ∀ q : Nat, s.heap.size ≤ q → A q := fun q h => by rw [← hAe]; exact Or.inr h
  have hS : va_S A s.heap s.heap [] := va_S.rf
  have hP : va_P (dC, dI) vwCl [(a_r, .inr (6, [.ref a_r_rows, .ref a_r_ins, .int r_size, .int r_n, .int r_parts])), (a_r_rows, .inl (c_r_rows, r_len, .inl r_rows)), (a_f, .inr (3, [.ref a_r, .int f_bestBits, .int f_bestCore, .int f_bestCount]))] s.heap := hP
  have hl := lv_entry ([.ref a_f]) (n := 1) (Nat.le_of_ble_eq_true rfl)
  rw [lg_entry_eq]
  generalize (lg_sl ([.ref a_f]) ++ List.replicate (1 - (lg_sl ([.ref a_f])).length) Slot.unset).toArray = ls at hl ⊢
  have hl : lv_has ls 1 [(0, .ref a_f)] := hl
  refine w_abs (fun Z hZv hZw => ?_)
  refine hZv ?_
  obtain ⟨H, hH⟩ : ∃ H, H = s.heap := ⟨_, rfl⟩
  obtain ⟨locs, hlo⟩ : ∃ L : List Loc, L = [] := ⟨_, rfl⟩
  rw [← hlo, ← hH]
  have hS : va_S A s.heap H locs := by rw [hlo, hH]; exact hS
  have hP : va_P (dC, dI) vwCl [(a_r, .inr (6, [.ref a_r_rows, .ref a_r_ins, .int r_size, .int r_n, .int r_parts])), (a_r_rows, .inl (c_r_rows, r_len, .inl r_rows)), (a_f, .inr (3, [.ref a_r, .int f_bestBits, .int f_bestCore, .int f_bestCount]))] H := by rw [hH]; exact hP
  clear hH hlo
  unfold pX3_findApart at hs
  refine lv_aload_n hx hb dX3_findApart_0 rfl (lv_at hl 0 rfl) ?_
  refine lv_iconst (v := 0) hx hb dX3_findApart_1 (by decide) ?_
  refine lv_iconst (v := 0) hx hb dX3_findApart_2 (by decide) ?_
  obtain ⟨r1, hr1, hs⟩ := bd_s hs
  refine kc_v (isC := [0, 1, 2]) (isR := []) (pm := [0, 1, 2]) (wr := []) (w1 := [(a_r, .inr (6, [.ref a_r_rows, .ref a_r_ins, .int r_size, .int r_n, .int r_parts])), (a_r_rows, .inl (c_r_rows, r_len, .inl r_rows)), (a_f, .inr (3, [.ref a_r, .int r1.1, .int r1.2.1, .int r1.2.2]))]) (w2 := [(a_r, .inr (6, [.ref a_r_rows, .ref a_r_ins, .int r_size, .int r_n, .int r_parts])), (a_r_rows, .inl (c_r_rows, r_len, .inl r_rows)), (a_f, .inr (3, [.ref a_r, .int r1.1, .int r1.2.1, .int r1.2.2]))]) (va_runV (As := [.int 0, .int 0]) (rest := []) ⟨hx, hb, hml, hown, hts⟩ (c_X3_start l dC dI a_r a_r_rows a_r_ins a_f c_r_rows r_len H.size r_size r_n r_parts r_rows f_bestBits f_bestCore f_bestCount 0 0 r1 hr1) (cwV 2 hts gX3_findApart_X3_start rfl rfl rfl (by decide +kernel) ⟨Nat.le_of_ble_eq_true rfl, Nat.le_of_ble_eq_true rfl⟩) (kp_V hK hP hD hS hA hN (isC := [0, 1, 2]) (isT := [0]) (wc := [(a_r, .inr (6, [.ref a_r_rows, .ref a_r_ins, .int r_size, .int r_n, .int r_parts])), (a_r_rows, .inl (c_r_rows, r_len, .inl r_rows)), (a_f, .inr (3, [.ref a_r, .int f_bestBits, .int f_bestCore, .int f_bestCount]))]) rfl (by decide +kernel) rfl (ci := 3) (q0 := 2) rfl rfl) rfl rfl hl.1 rfl (lv_room (Nat.le_of_ble_eq_true rfl)) dX3_findApart_3 ⟨Nat.le_of_ble_eq_true rfl, Nat.le_of_ble_eq_true rfl⟩) hP hD hS hA rfl rfl (by decide +kernel) (by decide +kernel) rfl (by decide +kernel) (fun H locs hP hD hS => ?_)
  replace hs := Option.some.inj hs
  subst hs
  exact W.vret hx hb hr (fun t ht hW => ⟨⟨(), rfl, trivial, by rw [ht]; exact hP, va_K.moved hW.alike hK, hD⟩, hS.F ht⟩) hS.2.2 dX3_findApart_6
noncomputable def pX3_findStar (r_len : Nat) (r_size : Int32) (r_rows : Nat → Int32) (f_bestBits : Int32) (f_bestCore : Int32) (f_bestCount : Int32) : Option (Int32 × Int32 × Int32) :=
  Option.bind (pX3_start r_len r_size r_rows f_bestBits f_bestCore f_bestCount 1 (-1)) (fun r1 => some (r1.1, r1.2.1, r1.2.2))
set_option maxHeartbeats 4000000 in
set_option maxRecDepth 100000 in
theorem c_X3_findStar (l : Launch) (dC : Nat → ClassId) (dI : Nat → Nat → Nat) (a_r : Nat) (a_r_rows : Nat) (a_r_ins : Nat) (a_f : Nat) (c_r_rows : ClassId) (r_len : Nat) (sz : Nat) (r_size : Int32) (r_n : Int32) (r_parts : Int32) (r_rows : Nat → Int32) (f_bestBits : Int32) (f_bestCore : Int32) (f_bestCount : Int32) (rv : Int32 × Int32 × Int32) (hs : pX3_findStar r_len r_size r_rows f_bestBits f_bestCore f_bestCount = some rv) : Met l yX3_findStar wsX3_findStar ({ frames := 21, cells := 0, slots := 0, locals := 603 }) (sPc [.ref a_f] (dC, dI) [(c_r_rows, .int)] [(a_r, .inr (6, [.ref a_r_rows, .ref a_r_ins, .int r_size, .int r_n, .int r_parts])), (a_r_rows, .inl (c_r_rows, r_len, .inl r_rows)), (a_f, .inr (3, [.ref a_r, .int f_bestBits, .int f_bestCore, .int f_bestCount]))] sz) (va_Qv (fun (_ : Unit) => True) (sB (dC, dI) [(c_r_rows, .int)] (va_A [(a_r, .inr (6, [.ref a_r_rows, .ref a_r_ins, .int r_size, .int r_n, .int r_parts])), (a_r_rows, .inl (c_r_rows, r_len, .inl r_rows)), (a_f, .inr (3, [.ref a_r, .int f_bestBits, .int f_bestCore, .int f_bestCount]))] sz) [(a_r, .inr (6, [.ref a_r_rows, .ref a_r_ins, .int r_size, .int r_n, .int r_parts])), (a_r_rows, .inl (c_r_rows, r_len, .inl r_rows)), (a_f, .inr (3, [.ref a_r, .int rv.1, .int rv.2.1, .int rv.2.2]))]) (va_A [(a_r, .inr (6, [.ref a_r_rows, .ref a_r_ins, .int r_size, .int r_n, .int r_parts])), (a_r_rows, .inl (c_r_rows, r_len, .inl r_rows)), (a_f, .inr (3, [.ref a_r, .int f_bestBits, .int f_bestCore, .int f_bestCount]))] sz)) 0 0 (va_A [(a_r, .inr (6, [.ref a_r_rows, .ref a_r_ins, .int r_size, .int r_n, .int r_parts])), (a_r_rows, .inl (c_r_rows, r_len, .inl r_rows)), (a_f, .inr (3, [.ref a_r, .int f_bestBits, .int f_bestCore, .int f_bestCount]))] sz) := by
  refine Met.ofW (cc := cX3_findStar) (maxL := 1) (ret := none) (by decide) rfl ?_
  intro p e s m args below meth c s₁ B hml hv
  obtain ⟨rfl, hsz, hP, hK, hD0, hN⟩ := hv
  have hx := B.exec
  have hb := B.bytes
  have hr := B.returns
  have hts := atoms_spec (ws := wsX3_findStar) B.pre
  have hown : s.vm.findClass RX3 = some m.cls := findClass_of_methodNamed B.named
  have hlocks := B.notSynchronized
  subst hsz
  have hD := hD0.self (sz := s.heap.size)
  generalize hAe : va_A [(a_r, .inr (6, [.ref a_r_rows, .ref a_r_ins, .int r_size, .int r_n, .int r_parts])), (a_r_rows, .inl (c_r_rows, r_len, .inl r_rows)), (a_f, .inr (3, [.ref a_r, .int f_bestBits, .int f_bestCore, .int f_bestCount]))] s.heap.size = A at hD hN ⊢
  have hA : ∀ q : Nat, s.heap.size ≤ q → A q := fun q h => by rw [← hAe]; exact Or.inr h
  have hS : va_S A s.heap s.heap [] := va_S.rf
  have hP : va_P (dC, dI) vwCl [(a_r, .inr (6, [.ref a_r_rows, .ref a_r_ins, .int r_size, .int r_n, .int r_parts])), (a_r_rows, .inl (c_r_rows, r_len, .inl r_rows)), (a_f, .inr (3, [.ref a_r, .int f_bestBits, .int f_bestCore, .int f_bestCount]))] s.heap := hP
  have hl := lv_entry ([.ref a_f]) (n := 1) (Nat.le_of_ble_eq_true rfl)
  rw [lg_entry_eq]
  generalize (lg_sl ([.ref a_f]) ++ List.replicate (1 - (lg_sl ([.ref a_f])).length) Slot.unset).toArray = ls at hl ⊢
  have hl : lv_has ls 1 [(0, .ref a_f)] := hl
  refine w_abs (fun Z hZv hZw => ?_)
  refine hZv ?_
  obtain ⟨H, hH⟩ : ∃ H, H = s.heap := ⟨_, rfl⟩
  obtain ⟨locs, hlo⟩ : ∃ L : List Loc, L = [] := ⟨_, rfl⟩
  rw [← hlo, ← hH]
  have hS : va_S A s.heap H locs := by rw [hlo, hH]; exact hS
  have hP : va_P (dC, dI) vwCl [(a_r, .inr (6, [.ref a_r_rows, .ref a_r_ins, .int r_size, .int r_n, .int r_parts])), (a_r_rows, .inl (c_r_rows, r_len, .inl r_rows)), (a_f, .inr (3, [.ref a_r, .int f_bestBits, .int f_bestCore, .int f_bestCount]))] H := by rw [hH]; exact hP
  clear hH hlo
  unfold pX3_findStar at hs
  refine lv_aload_n hx hb dX3_findStar_0 rfl (lv_at hl 0 rfl) ?_
  refine lv_iconst (v := 1) hx hb dX3_findStar_1 (by decide) ?_
  refine lv_iconst (v := (-1)) hx hb dX3_findStar_2 (by decide) ?_
  obtain ⟨r1, hr1, hs⟩ := bd_s hs
  refine kc_v (isC := [0, 1, 2]) (isR := []) (pm := [0, 1, 2]) (wr := []) (w1 := [(a_r, .inr (6, [.ref a_r_rows, .ref a_r_ins, .int r_size, .int r_n, .int r_parts])), (a_r_rows, .inl (c_r_rows, r_len, .inl r_rows)), (a_f, .inr (3, [.ref a_r, .int r1.1, .int r1.2.1, .int r1.2.2]))]) (w2 := [(a_r, .inr (6, [.ref a_r_rows, .ref a_r_ins, .int r_size, .int r_n, .int r_parts])), (a_r_rows, .inl (c_r_rows, r_len, .inl r_rows)), (a_f, .inr (3, [.ref a_r, .int r1.1, .int r1.2.1, .int r1.2.2]))]) (va_runV (As := [.int 1, .int (-1)]) (rest := []) ⟨hx, hb, hml, hown, hts⟩ (c_X3_start l dC dI a_r a_r_rows a_r_ins a_f c_r_rows r_len H.size r_size r_n r_parts r_rows f_bestBits f_bestCore f_bestCount 1 (-1) r1 hr1) (cwV 2 hts gX3_findStar_X3_start rfl rfl rfl (by decide +kernel) ⟨Nat.le_of_ble_eq_true rfl, Nat.le_of_ble_eq_true rfl⟩) (kp_V hK hP hD hS hA hN (isC := [0, 1, 2]) (isT := [0]) (wc := [(a_r, .inr (6, [.ref a_r_rows, .ref a_r_ins, .int r_size, .int r_n, .int r_parts])), (a_r_rows, .inl (c_r_rows, r_len, .inl r_rows)), (a_f, .inr (3, [.ref a_r, .int f_bestBits, .int f_bestCore, .int f_bestCount]))]) rfl (by decide +kernel) rfl (ci := 3) (q0 := 2) rfl rfl) rfl rfl hl.1 rfl (lv_room (Nat.le_of_ble_eq_true rfl)) dX3_findStar_3 ⟨Nat.le_of_ble_eq_true rfl, Nat.le_of_ble_eq_true rfl⟩) hP hD hS hA rfl rfl (by decide +kernel) (by decide +kernel) rfl (by decide +kernel) (fun H locs hP hD hS => ?_)
  replace hs := Option.some.inj hs
  subst hs
  exact W.vret hx hb hr (fun t ht hW => ⟨⟨(), rfl, trivial, by rw [ht]; exact hP, va_K.moved hW.alike hK, hD⟩, hS.F ht⟩) hS.2.2 dX3_findStar_6
noncomputable def pX0_fewestBy_B (rc : Int32 → (Nat → Int32) → (Nat → Int32) → Int32 → Int32 → Option (Int32 × (Nat → Int32))) (r_n : Int32) (k_having : Nat → Int32) (k_fewest : Nat → Int32) (p1 : Int32) (p2 : Int32) (p3 : Int32) : Option (Int32 × (Nat → Int32)) :=
  gd (vp_in p1 10) (Option.bind (rc r_n k_having k_fewest (p2 &&& (k_having p1.toNatClampNeg)) (p3 - 1)) (fun r2 => gd (vp_in p1 10) (Option.bind (rc r_n k_having r2.2 (p2 &&& ((k_having p1.toNatClampNeg) ^^^ (-1))) (p3 - 1)) (fun r4 => some (1 + (if r2.1 < r4.1 then r4.1 else r2.1), r4.2)))))
noncomputable def pX0_fewestFor_L44 (r_n : Int32) (k_having : Nat → Int32) (p1 : Int32) (p2 : Int32) (rc : Int32 → (Nat → Int32) → (Nat → Int32) → Int32 → Int32 → Int32 → Option (Int32 × (Nat → Int32))) (r3 : Int32) (s44 : Int32 × Int32 × (Nat → Int32)) : Option ((Int32 × Int32 × (Nat → Int32)) ⊕ (Int32 × (Nat → Int32))) :=
  if r_n ≤ s44.2.1 then (some (Sum.inr (s44.1, s44.2.2))) else (if s44.1 ≤ r3 then (some (Sum.inr (s44.1, s44.2.2))) else (Option.bind (pX0_splits k_having s44.2.1 p1) (fun r5 => if r5 = 0 then (some (Sum.inl (s44.1, s44.2.1 + 1, s44.2.2))) else (Option.bind (rc r_n k_having s44.2.2 s44.2.1 p1 p2) (fun r6 => some (Sum.inl (if r6.1 < s44.1 then r6.1 else s44.1, s44.2.1 + 1, r6.2)))))))
noncomputable def pX0_fewestFor_B (rc : Int32 → (Nat → Int32) → (Nat → Int32) → Int32 → Int32 → Int32 → Option (Int32 × (Nat → Int32))) (r_n : Int32) (k_having : Nat → Int32) (k_fewest : Nat → Int32) (p1 : Int32) (p2 : Int32) : Option (Int32 × (Nat → Int32)) :=
  Option.bind (pJ6_bitCount_0f7a4 p1) (fun r1 => if r1 ≤ 1 then (some (0, k_fewest)) else (if 0 < p2 then (gd (vp_in p1 4096) (if (k_fewest p1.toNatClampNeg) = 0 then (Option.bind (pX0_leastThinkable r1) (fun r3 => Option.bind (lp (pX0_fewestFor_L44 r_n k_having p1 p2 rc r3) (r1, 0, k_fewest)) (fun e44 => gd (vp_in p1 4096) (some (e44.1, upd e44.2 p1.toNatClampNeg e44.1))))) else (gd (vp_in p1 4096) (some (k_fewest p1.toNatClampNeg, k_fewest))))) else (some (0, k_fewest))))
noncomputable def pX0_fewestFor : Nat → Int32 → (Nat → Int32) → (Nat → Int32) → Int32 → Int32 → Option (Int32 × (Nat → Int32))
  | 0 => fun _ _ _ _ _ => none
  | d + 1 => pX0_fewestFor_B (pX0_fewestBy_B (pX0_fewestFor d))
set_option maxHeartbeats 4000000 in
set_option maxRecDepth 100000 in
theorem c_X0_fewestBy_open (d : Nat) (ihd : ∀ (l : Launch) (dC : Nat → ClassId) (dI : Nat → Nat → Nat) (a_r : Nat) (a_r_rows : Nat) (a_r_ins : Nat) (a_k : Nat) (a_k_having : Nat) (a_k_fewest : Nat) (c_k_having c_k_fewest : ClassId) (sz : Nat) (r_size : Int32) (r_n : Int32) (r_parts : Int32) (k_having : Nat → Int32) (k_fewest : Nat → Int32) (p1 : Int32) (p2 : Int32) (rv : Int32 × (Nat → Int32)) (hs : pX0_fewestFor d r_n k_having k_fewest p1 p2 = some rv), Met l yX0_fewestFor wsX0_fewestFor ({ frames := 2 + 2 * d, cells := 0, slots := 0, locals := 53 + 51 * d }) (sPc [.ref a_k, .int p1, .int p2] (dC, dI) [(c_k_having, .int), (c_k_fewest, .int)] [(a_r, .inr (6, [.ref a_r_rows, .ref a_r_ins, .int r_size, .int r_n, .int r_parts])), (a_k, .inr (0, [.ref a_r, .ref a_k_having, .ref a_k_fewest])), (a_k_having, .inl (c_k_having, 10, .inl k_having)), (a_k_fewest, .inl (c_k_fewest, 4096, .inl k_fewest))] sz) (va_Qi (fun (r : Int32) (_ : Unit) => r = rv.1) (sB (dC, dI) [(c_k_having, .int), (c_k_fewest, .int)] (va_A [(a_r, .inr (6, [.ref a_r_rows, .ref a_r_ins, .int r_size, .int r_n, .int r_parts])), (a_k, .inr (0, [.ref a_r, .ref a_k_having, .ref a_k_fewest])), (a_k_having, .inl (c_k_having, 10, .inl k_having)), (a_k_fewest, .inl (c_k_fewest, 4096, .inl k_fewest))] sz) [(a_r, .inr (6, [.ref a_r_rows, .ref a_r_ins, .int r_size, .int r_n, .int r_parts])), (a_k, .inr (0, [.ref a_r, .ref a_k_having, .ref a_k_fewest])), (a_k_having, .inl (c_k_having, 10, .inl k_having)), (a_k_fewest, .inl (c_k_fewest, 4096, .inl rv.2))]) (va_A [(a_r, .inr (6, [.ref a_r_rows, .ref a_r_ins, .int r_size, .int r_n, .int r_parts])), (a_k, .inr (0, [.ref a_r, .ref a_k_having, .ref a_k_fewest])), (a_k_having, .inl (c_k_having, 10, .inl k_having)), (a_k_fewest, .inl (c_k_fewest, 4096, .inl k_fewest))] sz)) 0 0 (va_A [(a_r, .inr (6, [.ref a_r_rows, .ref a_r_ins, .int r_size, .int r_n, .int r_parts])), (a_k, .inr (0, [.ref a_r, .ref a_k_having, .ref a_k_fewest])), (a_k_having, .inl (c_k_having, 10, .inl k_having)), (a_k_fewest, .inl (c_k_fewest, 4096, .inl k_fewest))] sz)) (l : Launch) (dC : Nat → ClassId) (dI : Nat → Nat → Nat) (a_r : Nat) (a_r_rows : Nat) (a_r_ins : Nat) (a_k : Nat) (a_k_having : Nat) (a_k_fewest : Nat) (c_k_having c_k_fewest : ClassId) (sz : Nat) (r_size : Int32) (r_n : Int32) (r_parts : Int32) (k_having : Nat → Int32) (k_fewest : Nat → Int32) (p1 : Int32) (p2 : Int32) (p3 : Int32) (rv : Int32 × (Nat → Int32)) (hs : pX0_fewestBy_B (pX0_fewestFor d) r_n k_having k_fewest p1 p2 p3 = some rv) : Met l yX0_fewestBy wsX0_fewestBy ({ frames := 2 + 2 * d + 1, cells := 0, slots := 0, locals := 53 + 51 * d + 26 }) (sPc [.ref a_k, .int p1, .int p2, .int p3] (dC, dI) [(c_k_having, .int), (c_k_fewest, .int)] [(a_r, .inr (6, [.ref a_r_rows, .ref a_r_ins, .int r_size, .int r_n, .int r_parts])), (a_k, .inr (0, [.ref a_r, .ref a_k_having, .ref a_k_fewest])), (a_k_having, .inl (c_k_having, 10, .inl k_having)), (a_k_fewest, .inl (c_k_fewest, 4096, .inl k_fewest))] sz) (va_Qi (fun (r : Int32) (_ : Unit) => r = rv.1) (sB (dC, dI) [(c_k_having, .int), (c_k_fewest, .int)] (va_A [(a_r, .inr (6, [.ref a_r_rows, .ref a_r_ins, .int r_size, .int r_n, .int r_parts])), (a_k, .inr (0, [.ref a_r, .ref a_k_having, .ref a_k_fewest])), (a_k_having, .inl (c_k_having, 10, .inl k_having)), (a_k_fewest, .inl (c_k_fewest, 4096, .inl k_fewest))] sz) [(a_r, .inr (6, [.ref a_r_rows, .ref a_r_ins, .int r_size, .int r_n, .int r_parts])), (a_k, .inr (0, [.ref a_r, .ref a_k_having, .ref a_k_fewest])), (a_k_having, .inl (c_k_having, 10, .inl k_having)), (a_k_fewest, .inl (c_k_fewest, 4096, .inl rv.2))]) (va_A [(a_r, .inr (6, [.ref a_r_rows, .ref a_r_ins, .int r_size, .int r_n, .int r_parts])), (a_k, .inr (0, [.ref a_r, .ref a_k_having, .ref a_k_fewest])), (a_k_having, .inl (c_k_having, 10, .inl k_having)), (a_k_fewest, .inl (c_k_fewest, 4096, .inl k_fewest))] sz)) 0 0 (va_A [(a_r, .inr (6, [.ref a_r_rows, .ref a_r_ins, .int r_size, .int r_n, .int r_parts])), (a_k, .inr (0, [.ref a_r, .ref a_k_having, .ref a_k_fewest])), (a_k_having, .inl (c_k_having, 10, .inl k_having)), (a_k_fewest, .inl (c_k_fewest, 4096, .inl k_fewest))] sz) := by
  refine Met.ofW (cc := cX0_fewestBy) (maxL := 6) (ret := (some .int)) (by decide) rfl ?_
  intro p e s m args below meth c s₁ B hml hv
  obtain ⟨rfl, hsz, hP, hK, hD0, hN⟩ := hv
  have hx := B.exec
  have hb := B.bytes
  have hr := B.returns
  have hts := atoms_spec (ws := wsX0_fewestBy) B.pre
  have hown : s.vm.findClass RX0 = some m.cls := findClass_of_methodNamed B.named
  have hlocks := B.notSynchronized
  subst hsz
  have hD := hD0.self (sz := s.heap.size)
  generalize hAe : va_A [(a_r, .inr (6, [.ref a_r_rows, .ref a_r_ins, .int r_size, .int r_n, .int r_parts])), (a_k, .inr (0, [.ref a_r, .ref a_k_having, .ref a_k_fewest])), (a_k_having, .inl (c_k_having, 10, .inl k_having)), (a_k_fewest, .inl (c_k_fewest, 4096, .inl k_fewest))] s.heap.size = A at hD hN ⊢
  have hA : ∀ q : Nat, s.heap.size ≤ q → A q := fun q h => by rw [← hAe]; exact Or.inr h
  have hS : va_S A s.heap s.heap [] := va_S.rf
  have hP : va_P (dC, dI) vwCl [(a_r, .inr (6, [.ref a_r_rows, .ref a_r_ins, .int r_size, .int r_n, .int r_parts])), (a_k, .inr (0, [.ref a_r, .ref a_k_having, .ref a_k_fewest])), (a_k_having, .inl (c_k_having, 10, .inl k_having)), (a_k_fewest, .inl (c_k_fewest, 4096, .inl k_fewest))] s.heap := hP
  have hl := lv_entry ([.ref a_k, .int p1, .int p2, .int p3]) (n := 6) (Nat.le_of_ble_eq_true rfl)
  rw [lg_entry_eq]
  generalize (lg_sl ([.ref a_k, .int p1, .int p2, .int p3]) ++ List.replicate (6 - (lg_sl ([.ref a_k, .int p1, .int p2, .int p3])).length) Slot.unset).toArray = ls at hl ⊢
  have hl : lv_has ls 6 [(0, .ref a_k), (1, .int p1), (2, .int p2), (3, .int p3)] := hl
  have hiX0 : ∀ w ∈ wsX00, w ∈ wsX0_fewestBy := fun _ h => List.mem_cons_of_mem _ (List.mem_append_left _ (List.mem_append_right _ h))
  have hf15 := hts (.fieldLink RX0 15 "MeetSets$Asking" "having" "[I") (t1_ (al_ (al_ (al_ h1_))))
  refine w_abs (fun Z hZv hZw => ?_)
  refine hZv ?_
  obtain ⟨H, hH⟩ : ∃ H, H = s.heap := ⟨_, rfl⟩
  obtain ⟨locs, hlo⟩ : ∃ L : List Loc, L = [] := ⟨_, rfl⟩
  rw [← hlo, ← hH]
  have hS : va_S A s.heap H locs := by rw [hlo, hH]; exact hS
  have hP : va_P (dC, dI) vwCl [(a_r, .inr (6, [.ref a_r_rows, .ref a_r_ins, .int r_size, .int r_n, .int r_parts])), (a_k, .inr (0, [.ref a_r, .ref a_k_having, .ref a_k_fewest])), (a_k_having, .inl (c_k_having, 10, .inl k_having)), (a_k_fewest, .inl (c_k_fewest, 4096, .inl k_fewest))] H := by rw [hH]; exact hP
  clear hH hlo
  unfold pX0_fewestBy_B at hs
  refine lv_aload_n hx hb dX0_fewestBy_0 rfl (lv_at hl 0 rfl) ?_
  refine lv_iload_n hx hb dX0_fewestBy_1 rfl (lv_at hl 2 rfl) ?_
  refine lv_aload_n hx hb dX0_fewestBy_2 rfl (lv_at hl 0 rfl) ?_
  refine va_get (D := (dC, dI)) (ci := 0) (v := .ref a_k_having) (C := RX0) (T := TX0) (N := 3) hx hb hts hiX0 hown hK hP 1 rfl rfl 1 (by decide) hf15 (fun _ h9 => h9) rfl dX0_fewestBy_3 ?_
  refine lv_iload_n hx hb dX0_fewestBy_6 rfl (lv_at hl 1 rfl) ?_
  obtain ⟨hg1, hs⟩ := gd_s hs
  refine va_iald hx hb hK hP 2 0 rfl rfl hg1 dX0_fewestBy_7 ?_
  refine lv_iand hx hb dX0_fewestBy_8 ?_
  refine lv_iload_n hx hb dX0_fewestBy_9 rfl (lv_at hl 3 rfl) ?_
  refine lv_iconst (v := 1) hx hb dX0_fewestBy_10 (by decide) ?_
  refine lv_isub hx hb dX0_fewestBy_11 ?_
  obtain ⟨r2, hr2, hs⟩ := bd_s hs
  refine kc_i (isC := [0, 1, 2, 3]) (isR := []) (pm := [0, 1, 2, 3]) (wr := []) (w1 := [(a_r, .inr (6, [.ref a_r_rows, .ref a_r_ins, .int r_size, .int r_n, .int r_parts])), (a_k, .inr (0, [.ref a_r, .ref a_k_having, .ref a_k_fewest])), (a_k_having, .inl (c_k_having, 10, .inl k_having)), (a_k_fewest, .inl (c_k_fewest, 4096, .inl r2.2))]) (w2 := [(a_r, .inr (6, [.ref a_r_rows, .ref a_r_ins, .int r_size, .int r_n, .int r_parts])), (a_k, .inr (0, [.ref a_r, .ref a_k_having, .ref a_k_fewest])), (a_k_having, .inl (c_k_having, 10, .inl k_having)), (a_k_fewest, .inl (c_k_fewest, 4096, .inl r2.2))]) (va_runV (As := [.int (p2 &&& (k_having p1.toNatClampNeg)), .int (p3 - 1)]) (rest := []) ⟨hx, hb, hml, hown, hts⟩ (ihd l dC dI a_r a_r_rows a_r_ins a_k a_k_having a_k_fewest c_k_having c_k_fewest H.size r_size r_n r_parts k_having k_fewest (p2 &&& (k_having p1.toNatClampNeg)) (p3 - 1) r2 hr2) (cwV 2 hts gX0_fewestBy_X0_fewestFor rfl rfl rfl (by decide +kernel) ⟨by show 2 + 2 * d + 1 ≤ 2 + 2 * d + 1; omega, by show 8 + (7 + 11) + (53 + 51 * d) ≤ 53 + 51 * d + 26; omega⟩) (kp_V hK hP hD hS hA hN (isC := [0, 1, 2, 3]) (isT := [0, 1]) (wc := [(a_r, .inr (6, [.ref a_r_rows, .ref a_r_ins, .int r_size, .int r_n, .int r_parts])), (a_k, .inr (0, [.ref a_r, .ref a_k_having, .ref a_k_fewest])), (a_k_having, .inl (c_k_having, 10, .inl k_having)), (a_k_fewest, .inl (c_k_fewest, 4096, .inl k_fewest))]) rfl (by decide +kernel) rfl (ci := 0) (q0 := 1) rfl rfl) rfl rfl hl.1 rfl (lv_room (Nat.le_of_ble_eq_true rfl)) dX0_fewestBy_12 ⟨Nat.le_of_ble_eq_true rfl, Nat.le_of_ble_eq_true rfl⟩) hP hD hS hA rfl rfl (by decide +kernel) (by decide +kernel) rfl (by decide +kernel) (fun H locs hP hD hS => ?_)
  refine lv_istore (lv' := [(4, .int r2.1), (0, .ref a_k), (1, .int p1), (2, .int p2), (3, .int p3)]) hx hb dX0_fewestBy_15 hl (by decide) rfl (fun ls hl => ?_)
  refine lv_aload_n hx hb dX0_fewestBy_17 rfl (lv_at hl 1 rfl) ?_
  refine lv_iload_n hx hb dX0_fewestBy_18 rfl (lv_at hl 3 rfl) ?_
  refine lv_aload_n hx hb dX0_fewestBy_19 rfl (lv_at hl 1 rfl) ?_
  refine va_get (D := (dC, dI)) (ci := 0) (v := .ref a_k_having) (C := RX0) (T := TX0) (N := 3) hx hb hts hiX0 hown hK hP 1 rfl rfl 1 (by decide) hf15 (fun _ h9 => h9) rfl dX0_fewestBy_20 ?_
  refine lv_iload_n hx hb dX0_fewestBy_23 rfl (lv_at hl 2 rfl) ?_
  obtain ⟨hg3, hs⟩ := gd_s hs
  refine va_iald hx hb hK hP 2 0 rfl rfl hg3 dX0_fewestBy_24 ?_
  refine lv_iconst (v := (-1)) hx hb dX0_fewestBy_25 (by decide) ?_
  refine lv_ixor hx hb dX0_fewestBy_26 ?_
  refine lv_iand hx hb dX0_fewestBy_27 ?_
  refine lv_iload_n hx hb dX0_fewestBy_28 rfl (lv_at hl 4 rfl) ?_
  refine lv_iconst (v := 1) hx hb dX0_fewestBy_29 (by decide) ?_
  refine lv_isub hx hb dX0_fewestBy_30 ?_
  obtain ⟨r4, hr4, hs⟩ := bd_s hs
  refine kc_i (isC := [0, 1, 2, 3]) (isR := []) (pm := [0, 1, 2, 3]) (wr := []) (w1 := [(a_r, .inr (6, [.ref a_r_rows, .ref a_r_ins, .int r_size, .int r_n, .int r_parts])), (a_k, .inr (0, [.ref a_r, .ref a_k_having, .ref a_k_fewest])), (a_k_having, .inl (c_k_having, 10, .inl k_having)), (a_k_fewest, .inl (c_k_fewest, 4096, .inl r4.2))]) (w2 := [(a_r, .inr (6, [.ref a_r_rows, .ref a_r_ins, .int r_size, .int r_n, .int r_parts])), (a_k, .inr (0, [.ref a_r, .ref a_k_having, .ref a_k_fewest])), (a_k_having, .inl (c_k_having, 10, .inl k_having)), (a_k_fewest, .inl (c_k_fewest, 4096, .inl r4.2))]) (va_runV (As := [.int (p2 &&& ((k_having p1.toNatClampNeg) ^^^ (-1))), .int (p3 - 1)]) (rest := []) ⟨hx, hb, hml, hown, hts⟩ (ihd l dC dI a_r a_r_rows a_r_ins a_k a_k_having a_k_fewest c_k_having c_k_fewest H.size r_size r_n r_parts k_having r2.2 (p2 &&& ((k_having p1.toNatClampNeg) ^^^ (-1))) (p3 - 1) r4 hr4) (cwV 2 hts gX0_fewestBy_X0_fewestFor rfl rfl rfl (by decide +kernel) ⟨by show 2 + 2 * d + 1 ≤ 2 + 2 * d + 1; omega, by show 8 + (7 + 11) + (53 + 51 * d) ≤ 53 + 51 * d + 26; omega⟩) (kp_V hK hP hD hS hA hN (isC := [0, 1, 2, 3]) (isT := [0, 1]) (wc := [(a_r, .inr (6, [.ref a_r_rows, .ref a_r_ins, .int r_size, .int r_n, .int r_parts])), (a_k, .inr (0, [.ref a_r, .ref a_k_having, .ref a_k_fewest])), (a_k_having, .inl (c_k_having, 10, .inl k_having)), (a_k_fewest, .inl (c_k_fewest, 4096, .inl r2.2))]) rfl (by decide +kernel) rfl (ci := 0) (q0 := 1) rfl rfl) rfl rfl hl.1 rfl (lv_room (Nat.le_of_ble_eq_true rfl)) dX0_fewestBy_31 ⟨Nat.le_of_ble_eq_true rfl, Nat.le_of_ble_eq_true rfl⟩) hP hD hS hA rfl rfl (by decide +kernel) (by decide +kernel) rfl (by decide +kernel) (fun H locs hP hD hS => ?_)
  refine lv_istore (lv' := [(5, .int r4.1), (4, .int r2.1), (0, .ref a_k), (1, .int p1), (2, .int p2), (3, .int p3)]) hx hb dX0_fewestBy_34 hl (by decide) rfl (fun ls hl => ?_)
  refine lv_iconst (v := 1) hx hb dX0_fewestBy_36 (by decide) ?_
  refine lv_iload hx hb dX0_fewestBy_37 (lv_at hl 1 rfl) ?_
  refine lv_iload hx hb dX0_fewestBy_39 (lv_at hl 0 rfl) ?_
  refine va_mmax hx hb (hml.trans hl.1.symm) hown (hts (.methodLink RX0 64 Lib.Math.max.name) (t1_ (al_ (al_ (al_ (t1_ h1_)))))) (hts (.static Lib.Math.max.name) (t1_ (al_ (al_ (al_ (t1_ (t1_ h1_))))))) (hts (.initialized "java/lang/Math") (t1_ (al_ (al_ (al_ (t1_ (t1_ (t1_ h1_)))))))) (hts (.code Lib.Math.max.name Lib.Math.max.code 2 (some .int)) (t1_ (al_ (al_ (al_ (t4_ h1_)))))) (by show 1 ≤ 2 + 2 * d + 1; omega) (by show 1 + 13 ≤ 53 + 51 * d + 26; omega) (Nat.le_of_ble_eq_true rfl) (Nat.le_of_ble_eq_true rfl) dX0_fewestBy_41 ?_
  refine lv_iadd hx hb dX0_fewestBy_44 ?_
  replace hs := Option.some.inj hs
  subst hs
  exact W.iret (v := 1 + (if r2.1 < r4.1 then r4.1 else r2.1)) hx hb hr (fun t ht hW => ⟨⟨1 + (if r2.1 < r4.1 then r4.1 else r2.1), (), rfl, rfl, by rw [ht]; exact hP, va_K.moved hW.alike hK, hD⟩, hS.F ht⟩) hS.2.2 dX0_fewestBy_45
set_option maxHeartbeats 4000000 in
set_option maxRecDepth 100000 in
theorem c_X0_fewestFor : ∀ (d : Nat) (l : Launch) (dC : Nat → ClassId) (dI : Nat → Nat → Nat) (a_r : Nat) (a_r_rows : Nat) (a_r_ins : Nat) (a_k : Nat) (a_k_having : Nat) (a_k_fewest : Nat) (c_k_having c_k_fewest : ClassId) (sz : Nat) (r_size : Int32) (r_n : Int32) (r_parts : Int32) (k_having : Nat → Int32) (k_fewest : Nat → Int32) (p1 : Int32) (p2 : Int32) (rv : Int32 × (Nat → Int32)) (hs : pX0_fewestFor d r_n k_having k_fewest p1 p2 = some rv), Met l yX0_fewestFor wsX0_fewestFor ({ frames := 2 + 2 * d, cells := 0, slots := 0, locals := 53 + 51 * d }) (sPc [.ref a_k, .int p1, .int p2] (dC, dI) [(c_k_having, .int), (c_k_fewest, .int)] [(a_r, .inr (6, [.ref a_r_rows, .ref a_r_ins, .int r_size, .int r_n, .int r_parts])), (a_k, .inr (0, [.ref a_r, .ref a_k_having, .ref a_k_fewest])), (a_k_having, .inl (c_k_having, 10, .inl k_having)), (a_k_fewest, .inl (c_k_fewest, 4096, .inl k_fewest))] sz) (va_Qi (fun (r : Int32) (_ : Unit) => r = rv.1) (sB (dC, dI) [(c_k_having, .int), (c_k_fewest, .int)] (va_A [(a_r, .inr (6, [.ref a_r_rows, .ref a_r_ins, .int r_size, .int r_n, .int r_parts])), (a_k, .inr (0, [.ref a_r, .ref a_k_having, .ref a_k_fewest])), (a_k_having, .inl (c_k_having, 10, .inl k_having)), (a_k_fewest, .inl (c_k_fewest, 4096, .inl k_fewest))] sz) [(a_r, .inr (6, [.ref a_r_rows, .ref a_r_ins, .int r_size, .int r_n, .int r_parts])), (a_k, .inr (0, [.ref a_r, .ref a_k_having, .ref a_k_fewest])), (a_k_having, .inl (c_k_having, 10, .inl k_having)), (a_k_fewest, .inl (c_k_fewest, 4096, .inl rv.2))]) (va_A [(a_r, .inr (6, [.ref a_r_rows, .ref a_r_ins, .int r_size, .int r_n, .int r_parts])), (a_k, .inr (0, [.ref a_r, .ref a_k_having, .ref a_k_fewest])), (a_k_having, .inl (c_k_having, 10, .inl k_having)), (a_k_fewest, .inl (c_k_fewest, 4096, .inl k_fewest))] sz)) 0 0 (va_A [(a_r, .inr (6, [.ref a_r_rows, .ref a_r_ins, .int r_size, .int r_n, .int r_parts])), (a_k, .inr (0, [.ref a_r, .ref a_k_having, .ref a_k_fewest])), (a_k_having, .inl (c_k_having, 10, .inl k_having)), (a_k_fewest, .inl (c_k_fewest, 4096, .inl k_fewest))] sz) := by
  intro d
  induction d with
  | zero =>
    intro l dC dI a_r a_r_rows a_r_ins a_k a_k_having a_k_fewest c_k_having c_k_fewest sz r_size r_n r_parts k_having k_fewest p1 p2 rv hs
    unfold pX0_fewestFor at hs
    cases hs
  | succ d ihd =>
    intro l dC dI a_r a_r_rows a_r_ins a_k a_k_having a_k_fewest c_k_having c_k_fewest sz r_size r_n r_parts k_having k_fewest p1 p2 rv hs
    change pX0_fewestFor_B (pX0_fewestBy_B (pX0_fewestFor d)) r_n k_having k_fewest p1 p2 = some rv at hs
    refine Met.ofW (cc := cX0_fewestFor) (maxL := 7) (ret := (some .int)) (by decide) rfl ?_
    intro p e s m args below meth c s₁ B hml hv
    obtain ⟨rfl, hsz, hP, hK, hD0, hN⟩ := hv
    have hx := B.exec
    have hb := B.bytes
    have hr := B.returns
    have hts := atoms_spec (ws := wsX0_fewestFor) B.pre
    have hown : s.vm.findClass RX0 = some m.cls := findClass_of_methodNamed B.named
    have hlocks := B.notSynchronized
    subst hsz
    have hD := hD0.self (sz := s.heap.size)
    generalize hAe : va_A [(a_r, .inr (6, [.ref a_r_rows, .ref a_r_ins, .int r_size, .int r_n, .int r_parts])), (a_k, .inr (0, [.ref a_r, .ref a_k_having, .ref a_k_fewest])), (a_k_having, .inl (c_k_having, 10, .inl k_having)), (a_k_fewest, .inl (c_k_fewest, 4096, .inl k_fewest))] s.heap.size = A at hD hN ⊢
    have hA : ∀ q : Nat, s.heap.size ≤ q → A q := fun q h => by rw [← hAe]; exact Or.inr h
    have hS : va_S A s.heap s.heap [] := va_S.rf
    have hP : va_P (dC, dI) vwCl [(a_r, .inr (6, [.ref a_r_rows, .ref a_r_ins, .int r_size, .int r_n, .int r_parts])), (a_k, .inr (0, [.ref a_r, .ref a_k_having, .ref a_k_fewest])), (a_k_having, .inl (c_k_having, 10, .inl k_having)), (a_k_fewest, .inl (c_k_fewest, 4096, .inl k_fewest))] s.heap := hP
    have hl := lv_entry ([.ref a_k, .int p1, .int p2]) (n := 7) (Nat.le_of_ble_eq_true rfl)
    rw [lg_entry_eq]
    generalize (lg_sl ([.ref a_k, .int p1, .int p2]) ++ List.replicate (7 - (lg_sl ([.ref a_k, .int p1, .int p2])).length) Slot.unset).toArray = ls at hl ⊢
    have hl : lv_has ls 7 [(0, .ref a_k), (1, .int p1), (2, .int p2)] := hl
    have hiX0 : ∀ w ∈ wsX00, w ∈ wsX0_fewestFor := fun _ h => List.mem_cons_of_mem _ (List.mem_append_left _ (List.mem_append_right _ h))
    have hf19 := hts (.fieldLink RX0 19 "MeetSets$Asking" "fewest" "[I") (t1_ (al_ (al_ (al_ h1_))))
    have hf9 := hts (.fieldLink RX0 9 "MeetSets$Asking" "list" "LMeetSets$SetRow;") (t1_ (al_ (al_ (al_ (t1_ h1_)))))
    have hiX6 : ∀ w ∈ wsX60, w ∈ wsX0_fewestFor := fun _ h => List.mem_cons_of_mem _ (List.mem_append_right _ h)
    have hf28 := hts (.fieldLink RX0 28 "MeetSets$SetRow" "n" "I") (t1_ (al_ (al_ (al_ (t1_ (t1_ h1_))))))
    refine w_abs (fun Z hZv hZw => ?_)
    refine hZv ?_
    obtain ⟨H, hH⟩ : ∃ H, H = s.heap := ⟨_, rfl⟩
    obtain ⟨locs, hlo⟩ : ∃ L : List Loc, L = [] := ⟨_, rfl⟩
    rw [← hlo, ← hH]
    have hS : va_S A s.heap H locs := by rw [hlo, hH]; exact hS
    have hP : va_P (dC, dI) vwCl [(a_r, .inr (6, [.ref a_r_rows, .ref a_r_ins, .int r_size, .int r_n, .int r_parts])), (a_k, .inr (0, [.ref a_r, .ref a_k_having, .ref a_k_fewest])), (a_k_having, .inl (c_k_having, 10, .inl k_having)), (a_k_fewest, .inl (c_k_fewest, 4096, .inl k_fewest))] H := by rw [hH]; exact hP
    clear hH hlo
    unfold pX0_fewestFor_B at hs
    refine lv_iload_n hx hb dX0_fewestFor_0 rfl (lv_at hl 1 rfl) ?_
    obtain ⟨r1, hr1, hs⟩ := bd_s hs
    refine kc_i (isC := []) (isR := [0, 1, 2, 3]) (pm := [0, 1, 2, 3]) (wr := [(a_r, .inr (6, [.ref a_r_rows, .ref a_r_ins, .int r_size, .int r_n, .int r_parts])), (a_k, .inr (0, [.ref a_r, .ref a_k_having, .ref a_k_fewest])), (a_k_having, .inl (c_k_having, 10, .inl k_having)), (a_k_fewest, .inl (c_k_fewest, 4096, .inl k_fewest))]) (w1 := []) (w2 := [(a_r, .inr (6, [.ref a_r_rows, .ref a_r_ins, .int r_size, .int r_n, .int r_parts])), (a_k, .inr (0, [.ref a_r, .ref a_k_having, .ref a_k_fewest])), (a_k_having, .inl (c_k_having, 10, .inl k_having)), (a_k_fewest, .inl (c_k_fewest, 4096, .inl k_fewest))]) (va_runS (As := [.int p1]) (rest := []) ⟨hx, hb, hml, hown, hts⟩ (c_J6_bitCount_0f7a4 l dC dI H.size p1 r1 hr1) (va_cwS 1 hts gX0_fewestFor_J6_bitCount_0f7a4 rfl rfl rfl (by decide +kernel) ⟨by show 0 + 1 ≤ 2 + 2 * (d + 1); omega, by show 8 + (1 + 11) + (0) ≤ 53 + 51 * (d + 1); omega⟩) (kp_S hK hP hD hS hA hN (isC := []) (isT := []) (wc := []) rfl (by decide +kernel) rfl) rfl rfl hl.1 rfl (lv_room (Nat.le_of_ble_eq_true rfl)) dX0_fewestFor_1 ⟨Nat.le_of_ble_eq_true rfl, Nat.le_of_ble_eq_true rfl⟩) hP hD hS hA rfl rfl (by decide +kernel) (by decide +kernel) rfl (by decide +kernel) (fun H locs hP hD hS => ?_)
    refine lv_istore_n (lv' := [(3, .int r1), (0, .ref a_k), (1, .int p1), (2, .int p2)]) hx hb dX0_fewestFor_4 rfl hl (by decide) rfl (fun ls hl => ?_)
    refine lv_iload_n hx hb dX0_fewestFor_5 rfl (lv_at hl 0 rfl) ?_
    refine lv_iconst (v := 1) hx hb dX0_fewestFor_6 (by decide) ?_
    refine lv_icmp_le (tgt := 14) hx hb dX0_fewestFor_7 (by decide) (fun hc => ?_) (fun hc => ?_)
    · replace hs := it_t hc hs
      refine lv_iconst (v := 0) hx hb dX0_fewestFor_14 (by decide) ?_
      replace hs := Option.some.inj hs
      subst hs
      exact W.iret (v := 0) hx hb hr (fun t ht hW => ⟨⟨0, (), rfl, rfl, by rw [ht]; exact hP, va_K.moved hW.alike hK, hD⟩, hS.F ht⟩) hS.2.2 dX0_fewestFor_15
    · replace hs := it_f hc hs
      refine lv_iload_n hx hb dX0_fewestFor_10 rfl (lv_at hl 3 rfl) ?_
      refine lv_if_gt (tgt := 16) hx hb dX0_fewestFor_11 (by decide) (fun hc => ?_) (fun hc => ?_)
      · replace hs := it_t hc hs
        refine lv_aload_n hx hb dX0_fewestFor_16 rfl (lv_at hl 1 rfl) ?_
        refine va_get (D := (dC, dI)) (ci := 0) (v := .ref a_k_fewest) (C := RX0) (T := TX0) (N := 3) hx hb hts hiX0 hown hK hP 1 rfl rfl 2 (by decide) hf19 (fun _ h9 => h9) rfl dX0_fewestFor_17 ?_
        refine lv_iload_n hx hb dX0_fewestFor_20 rfl (lv_at hl 2 rfl) ?_
        obtain ⟨hg2, hs⟩ := gd_s hs
        refine va_iald hx hb hK hP 3 1 rfl rfl hg2 dX0_fewestFor_21 ?_
        refine lv_if_eq (tgt := 32) hx hb dX0_fewestFor_22 (by decide) (fun hc => ?_) (fun hc => ?_)
        · replace hs := it_t hc hs
          refine lv_iload_n hx hb dX0_fewestFor_32 rfl (lv_at hl 0 rfl) ?_
          obtain ⟨r3, hr3, hs⟩ := bd_s hs
          refine kc_i (isC := []) (isR := [0, 1, 2, 3]) (pm := [0, 1, 2, 3]) (wr := [(a_r, .inr (6, [.ref a_r_rows, .ref a_r_ins, .int r_size, .int r_n, .int r_parts])), (a_k, .inr (0, [.ref a_r, .ref a_k_having, .ref a_k_fewest])), (a_k_having, .inl (c_k_having, 10, .inl k_having)), (a_k_fewest, .inl (c_k_fewest, 4096, .inl k_fewest))]) (w1 := []) (w2 := [(a_r, .inr (6, [.ref a_r_rows, .ref a_r_ins, .int r_size, .int r_n, .int r_parts])), (a_k, .inr (0, [.ref a_r, .ref a_k_having, .ref a_k_fewest])), (a_k_having, .inl (c_k_having, 10, .inl k_having)), (a_k_fewest, .inl (c_k_fewest, 4096, .inl k_fewest))]) (va_runS (As := [.int r1]) (rest := []) ⟨hx, hb, hml, hown, hts⟩ (c_X0_leastThinkable l dC dI H.size r1 r3 hr3) (va_cwS 1 hts gX0_fewestFor_X0_leastThinkable rfl rfl rfl (by decide +kernel) ⟨by show 0 + 1 ≤ 2 + 2 * (d + 1); omega, by show 8 + (3 + 11) + (0) ≤ 53 + 51 * (d + 1); omega⟩) (kp_S hK hP hD hS hA hN (isC := []) (isT := []) (wc := []) rfl (by decide +kernel) rfl) rfl rfl hl.1 rfl (lv_room (Nat.le_of_ble_eq_true rfl)) dX0_fewestFor_33 ⟨Nat.le_of_ble_eq_true rfl, Nat.le_of_ble_eq_true rfl⟩) hP hD hS hA rfl rfl (by decide +kernel) (by decide +kernel) rfl (by decide +kernel) (fun H locs hP hD hS => ?_)
          refine lv_istore (lv' := [(4, .int r3), (3, .int r1), (0, .ref a_k), (1, .int p1), (2, .int p2)]) hx hb dX0_fewestFor_36 hl (by decide) rfl (fun ls hl => ?_)
          refine lv_iload_n hx hb dX0_fewestFor_38 rfl (lv_at hl 1 rfl) ?_
          refine lv_istore (lv' := [(5, .int r1), (4, .int r3), (3, .int r1), (0, .ref a_k), (1, .int p1), (2, .int p2)]) hx hb dX0_fewestFor_39 hl (by decide) rfl (fun ls hl => ?_)
          refine lv_iconst (v := 0) hx hb dX0_fewestFor_41 (by decide) ?_
          refine lv_istore (lv' := [(6, .int 0), (5, .int r1), (4, .int r3), (3, .int r1), (0, .ref a_k), (1, .int p1), (2, .int p2)]) hx hb dX0_fewestFor_42 hl (by decide) rfl (fun ls hl => ?_)
          obtain ⟨e44, he44, hs⟩ := bd_s hs
          have hX44 : ∀ (H : Heap) (locs : List Loc) (ls : Array Slot), va_P (dC, dI) vwCl [(a_r, .inr (6, [.ref a_r_rows, .ref a_r_ins, .int r_size, .int r_n, .int r_parts])), (a_k, .inr (0, [.ref a_r, .ref a_k_having, .ref a_k_fewest])), (a_k_having, .inl (c_k_having, 10, .inl k_having)), (a_k_fewest, .inl (c_k_fewest, 4096, .inl e44.2))] H → va_D A [(a_r, .inr (6, [.ref a_r_rows, .ref a_r_ins, .int r_size, .int r_n, .int r_parts])), (a_k, .inr (0, [.ref a_r, .ref a_k_having, .ref a_k_fewest])), (a_k_having, .inl (c_k_having, 10, .inl k_having)), (a_k_fewest, .inl (c_k_fewest, 4096, .inl e44.2))] → va_S A s.heap H locs → lv_has ls 7 [(0, .ref a_k), (1, .int p1), (5, .int e44.1)] → Z H locs 0 0 (F0 m 94 ls []) := by
            intro H locs ls hP hD hS hl
            refine hZv ?_
            refine lv_aload_n hx hb dX0_fewestFor_94 rfl (lv_at hl 0 rfl) ?_
            refine va_get (D := (dC, dI)) (ci := 0) (v := .ref a_k_fewest) (C := RX0) (T := TX0) (N := 3) hx hb hts hiX0 hown hK hP 1 rfl rfl 2 (by decide) hf19 (fun _ h9 => h9) rfl dX0_fewestFor_95 ?_
            refine lv_iload_n hx hb dX0_fewestFor_98 rfl (lv_at hl 1 rfl) ?_
            refine lv_iload hx hb dX0_fewestFor_99 (lv_at hl 2 rfl) ?_
            obtain ⟨hg7, hs⟩ := gd_s hs
            refine va_iast hx hb hK hP hD hS 3 1 rfl rfl hg7 dX0_fewestFor_101 (fun H locs hP hD hS => ?_)
            have hP : va_P (dC, dI) vwCl [(a_r, .inr (6, [.ref a_r_rows, .ref a_r_ins, .int r_size, .int r_n, .int r_parts])), (a_k, .inr (0, [.ref a_r, .ref a_k_having, .ref a_k_fewest])), (a_k_having, .inl (c_k_having, 10, .inl k_having)), (a_k_fewest, .inl (c_k_fewest, 4096, .inl (upd e44.2 p1.toNatClampNeg e44.1)))] H := hP
            have hD : va_D A [(a_r, .inr (6, [.ref a_r_rows, .ref a_r_ins, .int r_size, .int r_n, .int r_parts])), (a_k, .inr (0, [.ref a_r, .ref a_k_having, .ref a_k_fewest])), (a_k_having, .inl (c_k_having, 10, .inl k_having)), (a_k_fewest, .inl (c_k_fewest, 4096, .inl (upd e44.2 p1.toNatClampNeg e44.1)))] := hD
            refine lv_iload hx hb dX0_fewestFor_102 (lv_at hl 2 rfl) ?_
            replace hs := Option.some.inj hs
            subst hs
            exact W.iret (v := e44.1) hx hb hr (fun t ht hW => ⟨⟨e44.1, (), rfl, rfl, by rw [ht]; exact hP, va_K.moved hW.alike hK, hD⟩, hS.F ht⟩) hS.2.2 dX0_fewestFor_104
          clear hs
          have hL44 : ∀ (n : Nat) (s44 : Int32 × Int32 × (Nat → Int32)) (H : Heap) (locs : List Loc) (ls : Array Slot), itr (pX0_fewestFor_L44 r_n k_having p1 p2 (pX0_fewestBy_B (pX0_fewestFor d)) r3) n s44 = some e44 → va_P (dC, dI) vwCl [(a_r, .inr (6, [.ref a_r_rows, .ref a_r_ins, .int r_size, .int r_n, .int r_parts])), (a_k, .inr (0, [.ref a_r, .ref a_k_having, .ref a_k_fewest])), (a_k_having, .inl (c_k_having, 10, .inl k_having)), (a_k_fewest, .inl (c_k_fewest, 4096, .inl s44.2.2))] H → va_D A [(a_r, .inr (6, [.ref a_r_rows, .ref a_r_ins, .int r_size, .int r_n, .int r_parts])), (a_k, .inr (0, [.ref a_r, .ref a_k_having, .ref a_k_fewest])), (a_k_having, .inl (c_k_having, 10, .inl k_having)), (a_k_fewest, .inl (c_k_fewest, 4096, .inl s44.2.2))] → va_S A s.heap H locs → lv_has ls 7 [(0, .ref a_k), (1, .int p1), (2, .int p2), (4, .int r3), (5, .int s44.1), (6, .int s44.2.1)] → Z H locs 0 0 (F0 m 44 ls []) := by
            intro n
            induction n with
            | zero =>
              intro s44 H locs ls hn
              exact (itr_0 hn).elim
            | succ n ih =>
              intro s44 H locs ls hn hP hD hS hl
              obtain ⟨y4, hs, hn⟩ := itr_s hn
              unfold pX0_fewestFor_L44 at hs
              refine hZv ?_
              refine lv_iload hx hb dX0_fewestFor_44 (lv_at hl 5 rfl) ?_
              refine lv_aload_n hx hb dX0_fewestFor_46 rfl (lv_at hl 0 rfl) ?_
              refine va_get (D := (dC, dI)) (ci := 0) (v := .ref a_r) (C := RX0) (T := TX0) (N := 3) hx hb hts hiX0 hown hK hP 1 rfl rfl 0 (by decide) hf9 (fun _ h9 => h9) rfl dX0_fewestFor_47 ?_
              refine va_get (D := (dC, dI)) (ci := 6) (v := .int r_n) (C := RX6) (T := TX6) (N := 5) hx hb hts hiX6 hown hK hP 0 rfl rfl 3 (by decide) hf28 (fun _ h9 => h9) rfl dX0_fewestFor_50 ?_
              refine lv_icmp_ge (tgt := 94) hx hb dX0_fewestFor_53 (by decide) (fun hc => ?_) (fun hc => ?_)
              · replace hs := it_t hc hs
                replace hs := Option.some.inj hs
                subst hs
                obtain rfl : (s44.1, s44.2.2) = e44 := hn
                exact hZw (hX44 H locs ls hP hD hS (lv_sub hl [0, 1, 4] rfl))
              · replace hs := it_f hc hs
                refine lv_iload hx hb dX0_fewestFor_56 (lv_at hl 4 rfl) ?_
                refine lv_iload hx hb dX0_fewestFor_58 (lv_at hl 3 rfl) ?_
                refine lv_icmp_le (tgt := 94) hx hb dX0_fewestFor_60 (by decide) (fun hc => ?_) (fun hc => ?_)
                · replace hs := it_t hc hs
                  replace hs := Option.some.inj hs
                  subst hs
                  obtain rfl : (s44.1, s44.2.2) = e44 := hn
                  exact hZw (hX44 H locs ls hP hD hS (lv_sub hl [0, 1, 4] rfl))
                · replace hs := it_f hc hs
                  refine lv_aload_n hx hb dX0_fewestFor_63 rfl (lv_at hl 0 rfl) ?_
                  refine lv_iload hx hb dX0_fewestFor_64 (lv_at hl 5 rfl) ?_
                  refine lv_iload_n hx hb dX0_fewestFor_66 rfl (lv_at hl 1 rfl) ?_
                  obtain ⟨r5, hr5, hs⟩ := bd_s hs
                  refine kc_i (isC := [1, 2]) (isR := [0, 3]) (pm := [0, 2, 3, 1]) (wr := [(a_r, .inr (6, [.ref a_r_rows, .ref a_r_ins, .int r_size, .int r_n, .int r_parts])), (a_k_fewest, .inl (c_k_fewest, 4096, .inl s44.2.2))]) (w1 := [(a_k, .inr (0, [.ref a_r, .ref a_k_having, .ref a_k_fewest])), (a_k_having, .inl (c_k_having, 10, .inl k_having))]) (w2 := [(a_r, .inr (6, [.ref a_r_rows, .ref a_r_ins, .int r_size, .int r_n, .int r_parts])), (a_k, .inr (0, [.ref a_r, .ref a_k_having, .ref a_k_fewest])), (a_k_having, .inl (c_k_having, 10, .inl k_having)), (a_k_fewest, .inl (c_k_fewest, 4096, .inl s44.2.2))]) (va_runV (As := [.int s44.2.1, .int p1]) (rest := []) ⟨hx, hb, hml, hown, hts⟩ (c_X0_splits l dC dI a_r a_k a_k_having a_k_fewest c_k_having H.size k_having s44.2.1 p1 r5 hr5) (cwV 2 hts gX0_fewestFor_X0_splits rfl rfl rfl (by decide +kernel) ⟨by show 0 + 1 ≤ 2 + 2 * (d + 1); omega, by show 8 + (4 + 11) + (0) ≤ 53 + 51 * (d + 1); omega⟩) (kp_V hK hP hD hS hA hN (isC := [1, 2]) (isT := [0]) (wc := [(a_k, .inr (0, [.ref a_r, .ref a_k_having, .ref a_k_fewest])), (a_k_having, .inl (c_k_having, 10, .inl k_having))]) rfl (by decide +kernel) rfl (ci := 0) (q0 := 0) rfl rfl) rfl rfl hl.1 rfl (lv_room (Nat.le_of_ble_eq_true rfl)) dX0_fewestFor_67 ⟨Nat.le_of_ble_eq_true rfl, Nat.le_of_ble_eq_true rfl⟩) hP hD hS hA rfl rfl (by decide +kernel) (by decide +kernel) rfl (by decide +kernel) (fun H locs hP hD hS => ?_)
                  refine lv_if_eq (tgt := 88) hx hb dX0_fewestFor_70 (by decide) (fun hc => ?_) (fun hc => ?_)
                  · replace hs := it_t hc hs
                    refine lv_iinc (v := s44.2.1 + 1) (lv' := [(6, .int (s44.2.1 + 1)), (0, .ref a_k), (1, .int p1), (2, .int p2), (4, .int r3), (5, .int s44.1)]) hx hb dX0_fewestFor_88 hl (k := 5) rfl (by rfl) (by decide) rfl (fun ls hl => ?_)
                    refine lv_goto (tgt := 44) hx hb dX0_fewestFor_91 (by decide) ?_
                    replace hs := Option.some.inj hs
                    subst hs
                    exact hZw (ih (s44.1, s44.2.1 + 1, s44.2.2) H locs ls hn hP hD hS (lv_sub hl [1, 2, 3, 4, 5, 0] rfl))
                  · replace hs := it_f hc hs
                    refine lv_iload hx hb dX0_fewestFor_73 (lv_at hl 4 rfl) ?_
                    refine lv_aload_n hx hb dX0_fewestFor_75 rfl (lv_at hl 0 rfl) ?_
                    refine lv_iload hx hb dX0_fewestFor_76 (lv_at hl 5 rfl) ?_
                    refine lv_iload_n hx hb dX0_fewestFor_78 rfl (lv_at hl 1 rfl) ?_
                    refine lv_iload_n hx hb dX0_fewestFor_79 rfl (lv_at hl 2 rfl) ?_
                    obtain ⟨r6, hr6, hs⟩ := bd_s hs
                    refine kc_i (isC := [0, 1, 2, 3]) (isR := []) (pm := [0, 1, 2, 3]) (wr := []) (w1 := [(a_r, .inr (6, [.ref a_r_rows, .ref a_r_ins, .int r_size, .int r_n, .int r_parts])), (a_k, .inr (0, [.ref a_r, .ref a_k_having, .ref a_k_fewest])), (a_k_having, .inl (c_k_having, 10, .inl k_having)), (a_k_fewest, .inl (c_k_fewest, 4096, .inl r6.2))]) (w2 := [(a_r, .inr (6, [.ref a_r_rows, .ref a_r_ins, .int r_size, .int r_n, .int r_parts])), (a_k, .inr (0, [.ref a_r, .ref a_k_having, .ref a_k_fewest])), (a_k_having, .inl (c_k_having, 10, .inl k_having)), (a_k_fewest, .inl (c_k_fewest, 4096, .inl r6.2))]) (va_runV (As := [.int s44.2.1, .int p1, .int p2]) (rest := [.int s44.1]) ⟨hx, hb, hml, hown, hts⟩ (c_X0_fewestBy_open d ihd l dC dI a_r a_r_rows a_r_ins a_k a_k_having a_k_fewest c_k_having c_k_fewest H.size r_size r_n r_parts k_having s44.2.2 s44.2.1 p1 p2 r6 hr6) (cwV 3 hts gX0_fewestFor_X0_fewestBy rfl rfl rfl (by decide +kernel) ⟨by show 2 + 2 * d + 1 + 1 ≤ 2 + 2 * (d + 1); omega, by show 8 + (6 + 11) + (53 + 51 * d + 26) ≤ 53 + 51 * (d + 1); omega⟩) (kp_V hK hP hD hS hA hN (isC := [0, 1, 2, 3]) (isT := [0, 1]) (wc := [(a_r, .inr (6, [.ref a_r_rows, .ref a_r_ins, .int r_size, .int r_n, .int r_parts])), (a_k, .inr (0, [.ref a_r, .ref a_k_having, .ref a_k_fewest])), (a_k_having, .inl (c_k_having, 10, .inl k_having)), (a_k_fewest, .inl (c_k_fewest, 4096, .inl s44.2.2))]) rfl (by decide +kernel) rfl (ci := 0) (q0 := 1) rfl rfl) rfl rfl hl.1 rfl (lv_room (Nat.le_of_ble_eq_true rfl)) dX0_fewestFor_80 ⟨Nat.le_of_ble_eq_true rfl, Nat.le_of_ble_eq_true rfl⟩) hP hD hS hA rfl rfl (by decide +kernel) (by decide +kernel) rfl (by decide +kernel) (fun H locs hP hD hS => ?_)
                    refine va_mmin hx hb (hml.trans hl.1.symm) hown (hts (.methodLink RX0 59 Lib.Math.min.name) (t1_ (al_ (al_ (al_ (t1_ (t1_ (t1_ h1_)))))))) (hts (.static Lib.Math.min.name) (t1_ (al_ (al_ (al_ (t4_ h1_)))))) (hts (.initialized "java/lang/Math") (t1_ (al_ (al_ (al_ (t4_ (t1_ h1_))))))) (hts (.code Lib.Math.min.name Lib.Math.min.code 2 (some .int)) (t1_ (al_ (al_ (al_ (t4_ (t1_ (t1_ h1_)))))))) (by show 1 ≤ 2 + 2 * (d + 1); omega) (by show 0 + 13 ≤ 53 + 51 * (d + 1); omega) (Nat.le_of_ble_eq_true rfl) (Nat.le_of_ble_eq_true rfl) dX0_fewestFor_83 ?_
                    refine lv_istore (lv' := [(5, .int (if r6.1 < s44.1 then r6.1 else s44.1)), (0, .ref a_k), (1, .int p1), (2, .int p2), (4, .int r3), (6, .int s44.2.1)]) hx hb dX0_fewestFor_86 hl (by decide) rfl (fun ls hl => ?_)
                    refine lv_iinc (v := s44.2.1 + 1) (lv' := [(6, .int (s44.2.1 + 1)), (5, .int (if r6.1 < s44.1 then r6.1 else s44.1)), (0, .ref a_k), (1, .int p1), (2, .int p2), (4, .int r3)]) hx hb dX0_fewestFor_88 hl (k := 5) rfl (by rfl) (by decide) rfl (fun ls hl => ?_)
                    refine lv_goto (tgt := 44) hx hb dX0_fewestFor_91 (by decide) ?_
                    replace hs := Option.some.inj hs
                    subst hs
                    exact hZw (ih (if r6.1 < s44.1 then r6.1 else s44.1, s44.2.1 + 1, r6.2) H locs ls hn hP hD hS (lv_sub hl [2, 3, 4, 5, 1, 0] rfl))
          obtain ⟨n44, hn44⟩ := lp_ex he44
          exact hZw (hL44 n44 (r1, 0, k_fewest) H locs ls hn44 hP hD hS (lv_sub hl [4, 5, 6, 2, 1, 0] rfl))
        · replace hs := it_f hc hs
          refine lv_aload_n hx hb dX0_fewestFor_25 rfl (lv_at hl 1 rfl) ?_
          refine va_get (D := (dC, dI)) (ci := 0) (v := .ref a_k_fewest) (C := RX0) (T := TX0) (N := 3) hx hb hts hiX0 hown hK hP 1 rfl rfl 2 (by decide) hf19 (fun _ h9 => h9) rfl dX0_fewestFor_26 ?_
          refine lv_iload_n hx hb dX0_fewestFor_29 rfl (lv_at hl 2 rfl) ?_
          obtain ⟨hg8, hs⟩ := gd_s hs
          refine va_iald hx hb hK hP 3 1 rfl rfl hg8 dX0_fewestFor_30 ?_
          replace hs := Option.some.inj hs
          subst hs
          exact W.iret (v := k_fewest p1.toNatClampNeg) hx hb hr (fun t ht hW => ⟨⟨k_fewest p1.toNatClampNeg, (), rfl, rfl, by rw [ht]; exact hP, va_K.moved hW.alike hK, hD⟩, hS.F ht⟩) hS.2.2 dX0_fewestFor_31
      · replace hs := it_f hc hs
        refine lv_iconst (v := 0) hx hb dX0_fewestFor_14 (by decide) ?_
        replace hs := Option.some.inj hs
        subst hs
        exact W.iret (v := 0) hx hb hr (fun t ht hW => ⟨⟨0, (), rfl, rfl, by rw [ht]; exact hP, va_K.moved hW.alike hK, hD⟩, hS.F ht⟩) hS.2.2 dX0_fewestFor_15
noncomputable def pX0_fewestAtWorst (r_size : Int32) (r_n : Int32) (k_having : Nat → Int32) (k_fewest : Nat → Int32) : Option (Int32 × (Nat → Int32)) :=
  Option.bind (pX0_allHidden r_size) (fun r1 => Option.bind (pX0_fewestFor 14 r_n k_having k_fewest r1 12) (fun r2 => some (r2.1, r2.2)))
set_option maxHeartbeats 4000000 in
set_option maxRecDepth 100000 in
theorem c_X0_fewestAtWorst (l : Launch) (dC : Nat → ClassId) (dI : Nat → Nat → Nat) (a_r : Nat) (a_r_rows : Nat) (a_r_ins : Nat) (a_k : Nat) (a_k_having : Nat) (a_k_fewest : Nat) (c_k_having c_k_fewest : ClassId) (sz : Nat) (r_size : Int32) (r_n : Int32) (r_parts : Int32) (k_having : Nat → Int32) (k_fewest : Nat → Int32) (rv : Int32 × (Nat → Int32)) (hs : pX0_fewestAtWorst r_size r_n k_having k_fewest = some rv) : Met l yX0_fewestAtWorst wsX0_fewestAtWorst ({ frames := 31, cells := 0, slots := 0, locals := 793 }) (sPc [.ref a_k] (dC, dI) [(c_k_having, .int), (c_k_fewest, .int)] [(a_r, .inr (6, [.ref a_r_rows, .ref a_r_ins, .int r_size, .int r_n, .int r_parts])), (a_k, .inr (0, [.ref a_r, .ref a_k_having, .ref a_k_fewest])), (a_k_having, .inl (c_k_having, 10, .inl k_having)), (a_k_fewest, .inl (c_k_fewest, 4096, .inl k_fewest))] sz) (va_Qi (fun (r : Int32) (_ : Unit) => r = rv.1) (sB (dC, dI) [(c_k_having, .int), (c_k_fewest, .int)] (va_A [(a_r, .inr (6, [.ref a_r_rows, .ref a_r_ins, .int r_size, .int r_n, .int r_parts])), (a_k, .inr (0, [.ref a_r, .ref a_k_having, .ref a_k_fewest])), (a_k_having, .inl (c_k_having, 10, .inl k_having)), (a_k_fewest, .inl (c_k_fewest, 4096, .inl k_fewest))] sz) [(a_r, .inr (6, [.ref a_r_rows, .ref a_r_ins, .int r_size, .int r_n, .int r_parts])), (a_k, .inr (0, [.ref a_r, .ref a_k_having, .ref a_k_fewest])), (a_k_having, .inl (c_k_having, 10, .inl k_having)), (a_k_fewest, .inl (c_k_fewest, 4096, .inl rv.2))]) (va_A [(a_r, .inr (6, [.ref a_r_rows, .ref a_r_ins, .int r_size, .int r_n, .int r_parts])), (a_k, .inr (0, [.ref a_r, .ref a_k_having, .ref a_k_fewest])), (a_k_having, .inl (c_k_having, 10, .inl k_having)), (a_k_fewest, .inl (c_k_fewest, 4096, .inl k_fewest))] sz)) 0 0 (va_A [(a_r, .inr (6, [.ref a_r_rows, .ref a_r_ins, .int r_size, .int r_n, .int r_parts])), (a_k, .inr (0, [.ref a_r, .ref a_k_having, .ref a_k_fewest])), (a_k_having, .inl (c_k_having, 10, .inl k_having)), (a_k_fewest, .inl (c_k_fewest, 4096, .inl k_fewest))] sz) := by
  refine Met.ofW (cc := cX0_fewestAtWorst) (maxL := 1) (ret := (some .int)) (by decide) rfl ?_
  intro p e s m args below meth c s₁ B hml hv
  obtain ⟨rfl, hsz, hP, hK, hD0, hN⟩ := hv
  have hx := B.exec
  have hb := B.bytes
  have hr := B.returns
  have hts := atoms_spec (ws := wsX0_fewestAtWorst) B.pre
  have hown : s.vm.findClass RX0 = some m.cls := findClass_of_methodNamed B.named
  have hlocks := B.notSynchronized
  subst hsz
  have hD := hD0.self (sz := s.heap.size)
  generalize hAe : va_A [(a_r, .inr (6, [.ref a_r_rows, .ref a_r_ins, .int r_size, .int r_n, .int r_parts])), (a_k, .inr (0, [.ref a_r, .ref a_k_having, .ref a_k_fewest])), (a_k_having, .inl (c_k_having, 10, .inl k_having)), (a_k_fewest, .inl (c_k_fewest, 4096, .inl k_fewest))] s.heap.size = A at hD hN ⊢
  have hA : ∀ q : Nat, s.heap.size ≤ q → A q := fun q h => by rw [← hAe]; exact Or.inr h
  have hS : va_S A s.heap s.heap [] := va_S.rf
  have hP : va_P (dC, dI) vwCl [(a_r, .inr (6, [.ref a_r_rows, .ref a_r_ins, .int r_size, .int r_n, .int r_parts])), (a_k, .inr (0, [.ref a_r, .ref a_k_having, .ref a_k_fewest])), (a_k_having, .inl (c_k_having, 10, .inl k_having)), (a_k_fewest, .inl (c_k_fewest, 4096, .inl k_fewest))] s.heap := hP
  have hl := lv_entry ([.ref a_k]) (n := 1) (Nat.le_of_ble_eq_true rfl)
  rw [lg_entry_eq]
  generalize (lg_sl ([.ref a_k]) ++ List.replicate (1 - (lg_sl ([.ref a_k])).length) Slot.unset).toArray = ls at hl ⊢
  have hl : lv_has ls 1 [(0, .ref a_k)] := hl
  refine w_abs (fun Z hZv hZw => ?_)
  refine hZv ?_
  obtain ⟨H, hH⟩ : ∃ H, H = s.heap := ⟨_, rfl⟩
  obtain ⟨locs, hlo⟩ : ∃ L : List Loc, L = [] := ⟨_, rfl⟩
  rw [← hlo, ← hH]
  have hS : va_S A s.heap H locs := by rw [hlo, hH]; exact hS
  have hP : va_P (dC, dI) vwCl [(a_r, .inr (6, [.ref a_r_rows, .ref a_r_ins, .int r_size, .int r_n, .int r_parts])), (a_k, .inr (0, [.ref a_r, .ref a_k_having, .ref a_k_fewest])), (a_k_having, .inl (c_k_having, 10, .inl k_having)), (a_k_fewest, .inl (c_k_fewest, 4096, .inl k_fewest))] H := by rw [hH]; exact hP
  clear hH hlo
  unfold pX0_fewestAtWorst at hs
  refine lv_aload_n hx hb dX0_fewestAtWorst_0 rfl (lv_at hl 0 rfl) ?_
  refine lv_aload_n hx hb dX0_fewestAtWorst_1 rfl (lv_at hl 0 rfl) ?_
  obtain ⟨r1, hr1, hs⟩ := bd_s hs
  refine kc_i (isC := [0, 1]) (isR := [2, 3]) (pm := [2, 3, 0, 1]) (wr := [(a_k_having, .inl (c_k_having, 10, .inl k_having)), (a_k_fewest, .inl (c_k_fewest, 4096, .inl k_fewest))]) (w1 := [(a_r, .inr (6, [.ref a_r_rows, .ref a_r_ins, .int r_size, .int r_n, .int r_parts])), (a_k, .inr (0, [.ref a_r, .ref a_k_having, .ref a_k_fewest]))]) (w2 := [(a_r, .inr (6, [.ref a_r_rows, .ref a_r_ins, .int r_size, .int r_n, .int r_parts])), (a_k, .inr (0, [.ref a_r, .ref a_k_having, .ref a_k_fewest])), (a_k_having, .inl (c_k_having, 10, .inl k_having)), (a_k_fewest, .inl (c_k_fewest, 4096, .inl k_fewest))]) (va_runV (As := []) (rest := [.ref a_k]) ⟨hx, hb, hml, hown, hts⟩ (c_X0_allHidden l dC dI a_r a_r_rows a_r_ins a_k a_k_having a_k_fewest H.size r_size r_n r_parts r1 hr1) (cwV 0 hts gX0_fewestAtWorst_X0_allHidden rfl rfl rfl (by decide +kernel) ⟨Nat.le_of_ble_eq_true rfl, Nat.le_of_ble_eq_true rfl⟩) (kp_V hK hP hD hS hA hN (isC := [0, 1]) (isT := []) (wc := [(a_r, .inr (6, [.ref a_r_rows, .ref a_r_ins, .int r_size, .int r_n, .int r_parts])), (a_k, .inr (0, [.ref a_r, .ref a_k_having, .ref a_k_fewest]))]) rfl (by decide +kernel) rfl (ci := 0) (q0 := 1) rfl rfl) rfl rfl hl.1 rfl (lv_room (Nat.le_of_ble_eq_true rfl)) dX0_fewestAtWorst_2 ⟨Nat.le_of_ble_eq_true rfl, Nat.le_of_ble_eq_true rfl⟩) hP hD hS hA rfl rfl (by decide +kernel) (by decide +kernel) rfl (by decide +kernel) (fun H locs hP hD hS => ?_)
  refine lv_bipush (v := 12) hx hb dX0_fewestAtWorst_5 (by decide) ?_
  obtain ⟨r2, hr2, hs⟩ := bd_s hs
  refine kc_i (isC := [0, 1, 2, 3]) (isR := []) (pm := [0, 1, 2, 3]) (wr := []) (w1 := [(a_r, .inr (6, [.ref a_r_rows, .ref a_r_ins, .int r_size, .int r_n, .int r_parts])), (a_k, .inr (0, [.ref a_r, .ref a_k_having, .ref a_k_fewest])), (a_k_having, .inl (c_k_having, 10, .inl k_having)), (a_k_fewest, .inl (c_k_fewest, 4096, .inl r2.2))]) (w2 := [(a_r, .inr (6, [.ref a_r_rows, .ref a_r_ins, .int r_size, .int r_n, .int r_parts])), (a_k, .inr (0, [.ref a_r, .ref a_k_having, .ref a_k_fewest])), (a_k_having, .inl (c_k_having, 10, .inl k_having)), (a_k_fewest, .inl (c_k_fewest, 4096, .inl r2.2))]) (va_runV (As := [.int r1, .int 12]) (rest := []) ⟨hx, hb, hml, hown, hts⟩ (c_X0_fewestFor 14 l dC dI a_r a_r_rows a_r_ins a_k a_k_having a_k_fewest c_k_having c_k_fewest H.size r_size r_n r_parts k_having k_fewest r1 12 r2 hr2) (cwV 2 hts gX0_fewestAtWorst_X0_fewestFor rfl rfl rfl (by decide +kernel) ⟨Nat.le_of_ble_eq_true rfl, Nat.le_of_ble_eq_true rfl⟩) (kp_V hK hP hD hS hA hN (isC := [0, 1, 2, 3]) (isT := [0, 1]) (wc := [(a_r, .inr (6, [.ref a_r_rows, .ref a_r_ins, .int r_size, .int r_n, .int r_parts])), (a_k, .inr (0, [.ref a_r, .ref a_k_having, .ref a_k_fewest])), (a_k_having, .inl (c_k_having, 10, .inl k_having)), (a_k_fewest, .inl (c_k_fewest, 4096, .inl k_fewest))]) rfl (by decide +kernel) rfl (ci := 0) (q0 := 1) rfl rfl) rfl rfl hl.1 rfl (lv_room (Nat.le_of_ble_eq_true rfl)) dX0_fewestAtWorst_7 ⟨Nat.le_of_ble_eq_true rfl, Nat.le_of_ble_eq_true rfl⟩) hP hD hS hA rfl rfl (by decide +kernel) (by decide +kernel) rfl (by decide +kernel) (fun H locs hP hD hS => ?_)
  replace hs := Option.some.inj hs
  subst hs
  exact W.iret (v := r2.1) hx hb hr (fun t ht hW => ⟨⟨r2.1, (), rfl, rfl, by rw [ht]; exact hP, va_K.moved hW.alike hK, hD⟩, hS.F ht⟩) hS.2.2 dX0_fewestAtWorst_10
noncomputable def pX0_firstToAsk_L15 (r_n : Int32) (k_having : Nat → Int32) (r1 : Int32) (r2 : Int32 × (Nat → Int32)) (s15 : Int32 × (Nat → Int32)) : Option ((Int32 × (Nat → Int32)) ⊕ ((Int32 × (Nat → Int32)) ⊕ (Nat → Int32))) :=
  if r_n ≤ s15.1 then (some (Sum.inr (Sum.inr s15.2))) else (if r2.1 ≤ 0 then (some (Sum.inr (Sum.inr s15.2))) else (Option.bind (pX0_splits k_having s15.1 r1) (fun r4 => if r4 = 0 then (some (Sum.inl (s15.1 + 1, s15.2))) else (Option.bind (pX0_fewestBy_B (pX0_fewestFor 14) r_n k_having s15.2 s15.1 r1 12) (fun r5 => if r5.1 = r2.1 then (some (Sum.inr (Sum.inl (s15.1, r5.2)))) else (some (Sum.inl (s15.1 + 1, r5.2))))))))
noncomputable def pX0_firstToAsk (r_size : Int32) (r_n : Int32) (k_having : Nat → Int32) (k_fewest : Nat → Int32) : Option (Int32 × (Nat → Int32)) :=
  Option.bind (pX0_allHidden r_size) (fun r1 => Option.bind (pX0_fewestFor 14 r_n k_having k_fewest r1 12) (fun r2 => Option.bind (lp (pX0_firstToAsk_L15 r_n k_having r1 r2) (0, r2.2)) (Sum.elim (fun e15_0 => some (e15_0.1, e15_0.2)) (fun e15_1 => some ((-1), e15_1)))))
set_option maxHeartbeats 4000000 in
set_option maxRecDepth 100000 in
theorem c_X0_firstToAsk (l : Launch) (dC : Nat → ClassId) (dI : Nat → Nat → Nat) (a_r : Nat) (a_r_rows : Nat) (a_r_ins : Nat) (a_k : Nat) (a_k_having : Nat) (a_k_fewest : Nat) (c_k_having c_k_fewest : ClassId) (sz : Nat) (r_size : Int32) (r_n : Int32) (r_parts : Int32) (k_having : Nat → Int32) (k_fewest : Nat → Int32) (rv : Int32 × (Nat → Int32)) (hs : pX0_firstToAsk r_size r_n k_having k_fewest = some rv) : Met l yX0_firstToAsk wsX0_firstToAsk ({ frames := 32, cells := 0, slots := 0, locals := 818 }) (sPc [.ref a_k] (dC, dI) [(c_k_having, .int), (c_k_fewest, .int)] [(a_r, .inr (6, [.ref a_r_rows, .ref a_r_ins, .int r_size, .int r_n, .int r_parts])), (a_k, .inr (0, [.ref a_r, .ref a_k_having, .ref a_k_fewest])), (a_k_having, .inl (c_k_having, 10, .inl k_having)), (a_k_fewest, .inl (c_k_fewest, 4096, .inl k_fewest))] sz) (va_Qi (fun (r : Int32) (_ : Unit) => r = rv.1) (sB (dC, dI) [(c_k_having, .int), (c_k_fewest, .int)] (va_A [(a_r, .inr (6, [.ref a_r_rows, .ref a_r_ins, .int r_size, .int r_n, .int r_parts])), (a_k, .inr (0, [.ref a_r, .ref a_k_having, .ref a_k_fewest])), (a_k_having, .inl (c_k_having, 10, .inl k_having)), (a_k_fewest, .inl (c_k_fewest, 4096, .inl k_fewest))] sz) [(a_r, .inr (6, [.ref a_r_rows, .ref a_r_ins, .int r_size, .int r_n, .int r_parts])), (a_k, .inr (0, [.ref a_r, .ref a_k_having, .ref a_k_fewest])), (a_k_having, .inl (c_k_having, 10, .inl k_having)), (a_k_fewest, .inl (c_k_fewest, 4096, .inl rv.2))]) (va_A [(a_r, .inr (6, [.ref a_r_rows, .ref a_r_ins, .int r_size, .int r_n, .int r_parts])), (a_k, .inr (0, [.ref a_r, .ref a_k_having, .ref a_k_fewest])), (a_k_having, .inl (c_k_having, 10, .inl k_having)), (a_k_fewest, .inl (c_k_fewest, 4096, .inl k_fewest))] sz)) 0 0 (va_A [(a_r, .inr (6, [.ref a_r_rows, .ref a_r_ins, .int r_size, .int r_n, .int r_parts])), (a_k, .inr (0, [.ref a_r, .ref a_k_having, .ref a_k_fewest])), (a_k_having, .inl (c_k_having, 10, .inl k_having)), (a_k_fewest, .inl (c_k_fewest, 4096, .inl k_fewest))] sz) := by
  refine Met.ofW (cc := cX0_firstToAsk) (maxL := 4) (ret := (some .int)) (by decide) rfl ?_
  intro p e s m args below meth c s₁ B hml hv
  obtain ⟨rfl, hsz, hP, hK, hD0, hN⟩ := hv
  have hx := B.exec
  have hb := B.bytes
  have hr := B.returns
  have hts := atoms_spec (ws := wsX0_firstToAsk) B.pre
  have hown : s.vm.findClass RX0 = some m.cls := findClass_of_methodNamed B.named
  have hlocks := B.notSynchronized
  subst hsz
  have hD := hD0.self (sz := s.heap.size)
  generalize hAe : va_A [(a_r, .inr (6, [.ref a_r_rows, .ref a_r_ins, .int r_size, .int r_n, .int r_parts])), (a_k, .inr (0, [.ref a_r, .ref a_k_having, .ref a_k_fewest])), (a_k_having, .inl (c_k_having, 10, .inl k_having)), (a_k_fewest, .inl (c_k_fewest, 4096, .inl k_fewest))] s.heap.size = A at hD hN ⊢
  have hA : ∀ q : Nat, s.heap.size ≤ q → A q := fun q h => by rw [← hAe]; exact Or.inr h
  have hS : va_S A s.heap s.heap [] := va_S.rf
  have hP : va_P (dC, dI) vwCl [(a_r, .inr (6, [.ref a_r_rows, .ref a_r_ins, .int r_size, .int r_n, .int r_parts])), (a_k, .inr (0, [.ref a_r, .ref a_k_having, .ref a_k_fewest])), (a_k_having, .inl (c_k_having, 10, .inl k_having)), (a_k_fewest, .inl (c_k_fewest, 4096, .inl k_fewest))] s.heap := hP
  have hl := lv_entry ([.ref a_k]) (n := 4) (Nat.le_of_ble_eq_true rfl)
  rw [lg_entry_eq]
  generalize (lg_sl ([.ref a_k]) ++ List.replicate (4 - (lg_sl ([.ref a_k])).length) Slot.unset).toArray = ls at hl ⊢
  have hl : lv_has ls 4 [(0, .ref a_k)] := hl
  have hiX0 : ∀ w ∈ wsX00, w ∈ wsX0_firstToAsk := fun _ h => List.mem_cons_of_mem _ (List.mem_append_left _ (List.mem_append_right _ h))
  have hf9 := hts (.fieldLink RX0 9 "MeetSets$Asking" "list" "LMeetSets$SetRow;") (t1_ (al_ (al_ (al_ h1_))))
  have hiX6 : ∀ w ∈ wsX60, w ∈ wsX0_firstToAsk := fun _ h => List.mem_cons_of_mem _ (List.mem_append_right _ h)
  have hf28 := hts (.fieldLink RX0 28 "MeetSets$SetRow" "n" "I") (t1_ (al_ (al_ (al_ (t1_ h1_)))))
  refine w_abs (fun Z hZv hZw => ?_)
  refine hZv ?_
  obtain ⟨H, hH⟩ : ∃ H, H = s.heap := ⟨_, rfl⟩
  obtain ⟨locs, hlo⟩ : ∃ L : List Loc, L = [] := ⟨_, rfl⟩
  rw [← hlo, ← hH]
  have hS : va_S A s.heap H locs := by rw [hlo, hH]; exact hS
  have hP : va_P (dC, dI) vwCl [(a_r, .inr (6, [.ref a_r_rows, .ref a_r_ins, .int r_size, .int r_n, .int r_parts])), (a_k, .inr (0, [.ref a_r, .ref a_k_having, .ref a_k_fewest])), (a_k_having, .inl (c_k_having, 10, .inl k_having)), (a_k_fewest, .inl (c_k_fewest, 4096, .inl k_fewest))] H := by rw [hH]; exact hP
  clear hH hlo
  unfold pX0_firstToAsk at hs
  refine lv_aload_n hx hb dX0_firstToAsk_0 rfl (lv_at hl 0 rfl) ?_
  obtain ⟨r1, hr1, hs⟩ := bd_s hs
  refine kc_i (isC := [0, 1]) (isR := [2, 3]) (pm := [2, 3, 0, 1]) (wr := [(a_k_having, .inl (c_k_having, 10, .inl k_having)), (a_k_fewest, .inl (c_k_fewest, 4096, .inl k_fewest))]) (w1 := [(a_r, .inr (6, [.ref a_r_rows, .ref a_r_ins, .int r_size, .int r_n, .int r_parts])), (a_k, .inr (0, [.ref a_r, .ref a_k_having, .ref a_k_fewest]))]) (w2 := [(a_r, .inr (6, [.ref a_r_rows, .ref a_r_ins, .int r_size, .int r_n, .int r_parts])), (a_k, .inr (0, [.ref a_r, .ref a_k_having, .ref a_k_fewest])), (a_k_having, .inl (c_k_having, 10, .inl k_having)), (a_k_fewest, .inl (c_k_fewest, 4096, .inl k_fewest))]) (va_runV (As := []) (rest := []) ⟨hx, hb, hml, hown, hts⟩ (c_X0_allHidden l dC dI a_r a_r_rows a_r_ins a_k a_k_having a_k_fewest H.size r_size r_n r_parts r1 hr1) (cwV 0 hts gX0_firstToAsk_X0_allHidden rfl rfl rfl (by decide +kernel) ⟨Nat.le_of_ble_eq_true rfl, Nat.le_of_ble_eq_true rfl⟩) (kp_V hK hP hD hS hA hN (isC := [0, 1]) (isT := []) (wc := [(a_r, .inr (6, [.ref a_r_rows, .ref a_r_ins, .int r_size, .int r_n, .int r_parts])), (a_k, .inr (0, [.ref a_r, .ref a_k_having, .ref a_k_fewest]))]) rfl (by decide +kernel) rfl (ci := 0) (q0 := 1) rfl rfl) rfl rfl hl.1 rfl (lv_room (Nat.le_of_ble_eq_true rfl)) dX0_firstToAsk_1 ⟨Nat.le_of_ble_eq_true rfl, Nat.le_of_ble_eq_true rfl⟩) hP hD hS hA rfl rfl (by decide +kernel) (by decide +kernel) rfl (by decide +kernel) (fun H locs hP hD hS => ?_)
  refine lv_istore_n (lv' := [(1, .int r1), (0, .ref a_k)]) hx hb dX0_firstToAsk_4 rfl hl (by decide) rfl (fun ls hl => ?_)
  refine lv_aload_n hx hb dX0_firstToAsk_5 rfl (lv_at hl 1 rfl) ?_
  refine lv_iload_n hx hb dX0_firstToAsk_6 rfl (lv_at hl 0 rfl) ?_
  refine lv_bipush (v := 12) hx hb dX0_firstToAsk_7 (by decide) ?_
  obtain ⟨r2, hr2, hs⟩ := bd_s hs
  refine kc_i (isC := [0, 1, 2, 3]) (isR := []) (pm := [0, 1, 2, 3]) (wr := []) (w1 := [(a_r, .inr (6, [.ref a_r_rows, .ref a_r_ins, .int r_size, .int r_n, .int r_parts])), (a_k, .inr (0, [.ref a_r, .ref a_k_having, .ref a_k_fewest])), (a_k_having, .inl (c_k_having, 10, .inl k_having)), (a_k_fewest, .inl (c_k_fewest, 4096, .inl r2.2))]) (w2 := [(a_r, .inr (6, [.ref a_r_rows, .ref a_r_ins, .int r_size, .int r_n, .int r_parts])), (a_k, .inr (0, [.ref a_r, .ref a_k_having, .ref a_k_fewest])), (a_k_having, .inl (c_k_having, 10, .inl k_having)), (a_k_fewest, .inl (c_k_fewest, 4096, .inl r2.2))]) (va_runV (As := [.int r1, .int 12]) (rest := []) ⟨hx, hb, hml, hown, hts⟩ (c_X0_fewestFor 14 l dC dI a_r a_r_rows a_r_ins a_k a_k_having a_k_fewest c_k_having c_k_fewest H.size r_size r_n r_parts k_having k_fewest r1 12 r2 hr2) (cwV 2 hts gX0_firstToAsk_X0_fewestFor rfl rfl rfl (by decide +kernel) ⟨Nat.le_of_ble_eq_true rfl, Nat.le_of_ble_eq_true rfl⟩) (kp_V hK hP hD hS hA hN (isC := [0, 1, 2, 3]) (isT := [0, 1]) (wc := [(a_r, .inr (6, [.ref a_r_rows, .ref a_r_ins, .int r_size, .int r_n, .int r_parts])), (a_k, .inr (0, [.ref a_r, .ref a_k_having, .ref a_k_fewest])), (a_k_having, .inl (c_k_having, 10, .inl k_having)), (a_k_fewest, .inl (c_k_fewest, 4096, .inl k_fewest))]) rfl (by decide +kernel) rfl (ci := 0) (q0 := 1) rfl rfl) rfl rfl hl.1 rfl (lv_room (Nat.le_of_ble_eq_true rfl)) dX0_firstToAsk_9 ⟨Nat.le_of_ble_eq_true rfl, Nat.le_of_ble_eq_true rfl⟩) hP hD hS hA rfl rfl (by decide +kernel) (by decide +kernel) rfl (by decide +kernel) (fun H locs hP hD hS => ?_)
  refine lv_istore_n (lv' := [(2, .int r2.1), (1, .int r1), (0, .ref a_k)]) hx hb dX0_firstToAsk_12 rfl hl (by decide) rfl (fun ls hl => ?_)
  refine lv_iconst (v := 0) hx hb dX0_firstToAsk_13 (by decide) ?_
  refine lv_istore_n (lv' := [(3, .int 0), (2, .int r2.1), (1, .int r1), (0, .ref a_k)]) hx hb dX0_firstToAsk_14 rfl hl (by decide) rfl (fun ls hl => ?_)
  obtain ⟨e15, he15, hs⟩ := bd_s hs
  have hX15_0 : ∀ (e15_0 : Int32 × (Nat → Int32)), (Sum.inl e15_0) = e15 → ∀ (H : Heap) (locs : List Loc) (ls : Array Slot), va_P (dC, dI) vwCl [(a_r, .inr (6, [.ref a_r_rows, .ref a_r_ins, .int r_size, .int r_n, .int r_parts])), (a_k, .inr (0, [.ref a_r, .ref a_k_having, .ref a_k_fewest])), (a_k_having, .inl (c_k_having, 10, .inl k_having)), (a_k_fewest, .inl (c_k_fewest, 4096, .inl e15_0.2))] H → va_D A [(a_r, .inr (6, [.ref a_r_rows, .ref a_r_ins, .int r_size, .int r_n, .int r_parts])), (a_k, .inr (0, [.ref a_r, .ref a_k_having, .ref a_k_fewest])), (a_k_having, .inl (c_k_having, 10, .inl k_having)), (a_k_fewest, .inl (c_k_fewest, 4096, .inl e15_0.2))] → va_S A s.heap H locs → lv_has ls 4 [(3, .int e15_0.1)] → Z H locs 0 0 (F0 m 51 ls []) := by
    intro e15_0 he H locs ls hP hD hS hl
    subst he
    replace hs := sm_l hs
    refine hZv ?_
    refine lv_iload_n hx hb dX0_firstToAsk_51 rfl (lv_at hl 0 rfl) ?_
    replace hs := Option.some.inj hs
    subst hs
    exact W.iret (v := e15_0.1) hx hb hr (fun t ht hW => ⟨⟨e15_0.1, (), rfl, rfl, by rw [ht]; exact hP, va_K.moved hW.alike hK, hD⟩, hS.F ht⟩) hS.2.2 dX0_firstToAsk_52
  have hX15_1 : ∀ (e15_1 : Nat → Int32), (Sum.inr e15_1) = e15 → ∀ (H : Heap) (locs : List Loc) (ls : Array Slot), va_P (dC, dI) vwCl [(a_r, .inr (6, [.ref a_r_rows, .ref a_r_ins, .int r_size, .int r_n, .int r_parts])), (a_k, .inr (0, [.ref a_r, .ref a_k_having, .ref a_k_fewest])), (a_k_having, .inl (c_k_having, 10, .inl k_having)), (a_k_fewest, .inl (c_k_fewest, 4096, .inl e15_1))] H → va_D A [(a_r, .inr (6, [.ref a_r_rows, .ref a_r_ins, .int r_size, .int r_n, .int r_parts])), (a_k, .inr (0, [.ref a_r, .ref a_k_having, .ref a_k_fewest])), (a_k_having, .inl (c_k_having, 10, .inl k_having)), (a_k_fewest, .inl (c_k_fewest, 4096, .inl e15_1))] → va_S A s.heap H locs → lv_has ls 4 [] → Z H locs 0 0 (F0 m 59 ls []) := by
    intro e15_1 he H locs ls hP hD hS hl
    subst he
    replace hs := sm_r hs
    refine hZv ?_
    refine lv_iconst (v := (-1)) hx hb dX0_firstToAsk_59 (by decide) ?_
    replace hs := Option.some.inj hs
    subst hs
    exact W.iret (v := (-1)) hx hb hr (fun t ht hW => ⟨⟨(-1), (), rfl, rfl, by rw [ht]; exact hP, va_K.moved hW.alike hK, hD⟩, hS.F ht⟩) hS.2.2 dX0_firstToAsk_60
  clear hs
  have hL15 : ∀ (n : Nat) (s15 : Int32 × (Nat → Int32)) (H : Heap) (locs : List Loc) (ls : Array Slot), itr (pX0_firstToAsk_L15 r_n k_having r1 r2) n s15 = some e15 → va_P (dC, dI) vwCl [(a_r, .inr (6, [.ref a_r_rows, .ref a_r_ins, .int r_size, .int r_n, .int r_parts])), (a_k, .inr (0, [.ref a_r, .ref a_k_having, .ref a_k_fewest])), (a_k_having, .inl (c_k_having, 10, .inl k_having)), (a_k_fewest, .inl (c_k_fewest, 4096, .inl s15.2))] H → va_D A [(a_r, .inr (6, [.ref a_r_rows, .ref a_r_ins, .int r_size, .int r_n, .int r_parts])), (a_k, .inr (0, [.ref a_r, .ref a_k_having, .ref a_k_fewest])), (a_k_having, .inl (c_k_having, 10, .inl k_having)), (a_k_fewest, .inl (c_k_fewest, 4096, .inl s15.2))] → va_S A s.heap H locs → lv_has ls 4 [(0, .ref a_k), (1, .int r1), (2, .int r2.1), (3, .int s15.1)] → Z H locs 0 0 (F0 m 15 ls []) := by
    intro n
    induction n with
    | zero =>
      intro s15 H locs ls hn
      exact (itr_0 hn).elim
    | succ n ih =>
      intro s15 H locs ls hn hP hD hS hl
      obtain ⟨y3, hs, hn⟩ := itr_s hn
      unfold pX0_firstToAsk_L15 at hs
      refine hZv ?_
      refine lv_iload_n hx hb dX0_firstToAsk_15 rfl (lv_at hl 3 rfl) ?_
      refine lv_aload_n hx hb dX0_firstToAsk_16 rfl (lv_at hl 0 rfl) ?_
      refine va_get (D := (dC, dI)) (ci := 0) (v := .ref a_r) (C := RX0) (T := TX0) (N := 3) hx hb hts hiX0 hown hK hP 1 rfl rfl 0 (by decide) hf9 (fun _ h9 => h9) rfl dX0_firstToAsk_17 ?_
      refine va_get (D := (dC, dI)) (ci := 6) (v := .int r_n) (C := RX6) (T := TX6) (N := 5) hx hb hts hiX6 hown hK hP 0 rfl rfl 3 (by decide) hf28 (fun _ h9 => h9) rfl dX0_firstToAsk_20 ?_
      refine lv_icmp_ge (tgt := 59) hx hb dX0_firstToAsk_23 (by decide) (fun hc => ?_) (fun hc => ?_)
      · replace hs := it_t hc hs
        replace hs := Option.some.inj hs
        subst hs
        obtain rfl : (Sum.inr s15.2) = e15 := hn
        exact hZw (hX15_1 s15.2 rfl H locs ls hP hD hS (lv_sub hl [] rfl))
      · replace hs := it_f hc hs
        refine lv_iload_n hx hb dX0_firstToAsk_26 rfl (lv_at hl 2 rfl) ?_
        refine lv_if_le (tgt := 59) hx hb dX0_firstToAsk_27 (by decide) (fun hc => ?_) (fun hc => ?_)
        · replace hs := it_t hc hs
          replace hs := Option.some.inj hs
          subst hs
          obtain rfl : (Sum.inr s15.2) = e15 := hn
          exact hZw (hX15_1 s15.2 rfl H locs ls hP hD hS (lv_sub hl [] rfl))
        · replace hs := it_f hc hs
          refine lv_aload_n hx hb dX0_firstToAsk_30 rfl (lv_at hl 0 rfl) ?_
          refine lv_iload_n hx hb dX0_firstToAsk_31 rfl (lv_at hl 3 rfl) ?_
          refine lv_iload_n hx hb dX0_firstToAsk_32 rfl (lv_at hl 1 rfl) ?_
          obtain ⟨r4, hr4, hs⟩ := bd_s hs
          refine kc_i (isC := [1, 2]) (isR := [0, 3]) (pm := [0, 2, 3, 1]) (wr := [(a_r, .inr (6, [.ref a_r_rows, .ref a_r_ins, .int r_size, .int r_n, .int r_parts])), (a_k_fewest, .inl (c_k_fewest, 4096, .inl s15.2))]) (w1 := [(a_k, .inr (0, [.ref a_r, .ref a_k_having, .ref a_k_fewest])), (a_k_having, .inl (c_k_having, 10, .inl k_having))]) (w2 := [(a_r, .inr (6, [.ref a_r_rows, .ref a_r_ins, .int r_size, .int r_n, .int r_parts])), (a_k, .inr (0, [.ref a_r, .ref a_k_having, .ref a_k_fewest])), (a_k_having, .inl (c_k_having, 10, .inl k_having)), (a_k_fewest, .inl (c_k_fewest, 4096, .inl s15.2))]) (va_runV (As := [.int s15.1, .int r1]) (rest := []) ⟨hx, hb, hml, hown, hts⟩ (c_X0_splits l dC dI a_r a_k a_k_having a_k_fewest c_k_having H.size k_having s15.1 r1 r4 hr4) (cwV 2 hts gX0_firstToAsk_X0_splits rfl rfl rfl (by decide +kernel) ⟨Nat.le_of_ble_eq_true rfl, Nat.le_of_ble_eq_true rfl⟩) (kp_V hK hP hD hS hA hN (isC := [1, 2]) (isT := [0]) (wc := [(a_k, .inr (0, [.ref a_r, .ref a_k_having, .ref a_k_fewest])), (a_k_having, .inl (c_k_having, 10, .inl k_having))]) rfl (by decide +kernel) rfl (ci := 0) (q0 := 0) rfl rfl) rfl rfl hl.1 rfl (lv_room (Nat.le_of_ble_eq_true rfl)) dX0_firstToAsk_33 ⟨Nat.le_of_ble_eq_true rfl, Nat.le_of_ble_eq_true rfl⟩) hP hD hS hA rfl rfl (by decide +kernel) (by decide +kernel) rfl (by decide +kernel) (fun H locs hP hD hS => ?_)
          refine lv_if_eq (tgt := 53) hx hb dX0_firstToAsk_36 (by decide) (fun hc => ?_) (fun hc => ?_)
          · replace hs := it_t hc hs
            refine lv_iinc (v := s15.1 + 1) (lv' := [(3, .int (s15.1 + 1)), (0, .ref a_k), (1, .int r1), (2, .int r2.1)]) hx hb dX0_firstToAsk_53 hl (k := 3) rfl (by rfl) (by decide) rfl (fun ls hl => ?_)
            refine lv_goto (tgt := 15) hx hb dX0_firstToAsk_56 (by decide) ?_
            replace hs := Option.some.inj hs
            subst hs
            exact hZw (ih (s15.1 + 1, s15.2) H locs ls hn hP hD hS (lv_sub hl [1, 2, 3, 0] rfl))
          · replace hs := it_f hc hs
            refine lv_aload_n hx hb dX0_firstToAsk_39 rfl (lv_at hl 0 rfl) ?_
            refine lv_iload_n hx hb dX0_firstToAsk_40 rfl (lv_at hl 3 rfl) ?_
            refine lv_iload_n hx hb dX0_firstToAsk_41 rfl (lv_at hl 1 rfl) ?_
            refine lv_bipush (v := 12) hx hb dX0_firstToAsk_42 (by decide) ?_
            obtain ⟨r5, hr5, hs⟩ := bd_s hs
            refine kc_i (isC := [0, 1, 2, 3]) (isR := []) (pm := [0, 1, 2, 3]) (wr := []) (w1 := [(a_r, .inr (6, [.ref a_r_rows, .ref a_r_ins, .int r_size, .int r_n, .int r_parts])), (a_k, .inr (0, [.ref a_r, .ref a_k_having, .ref a_k_fewest])), (a_k_having, .inl (c_k_having, 10, .inl k_having)), (a_k_fewest, .inl (c_k_fewest, 4096, .inl r5.2))]) (w2 := [(a_r, .inr (6, [.ref a_r_rows, .ref a_r_ins, .int r_size, .int r_n, .int r_parts])), (a_k, .inr (0, [.ref a_r, .ref a_k_having, .ref a_k_fewest])), (a_k_having, .inl (c_k_having, 10, .inl k_having)), (a_k_fewest, .inl (c_k_fewest, 4096, .inl r5.2))]) (va_runV (As := [.int s15.1, .int r1, .int 12]) (rest := []) ⟨hx, hb, hml, hown, hts⟩ (c_X0_fewestBy_open 14 (c_X0_fewestFor 14) l dC dI a_r a_r_rows a_r_ins a_k a_k_having a_k_fewest c_k_having c_k_fewest H.size r_size r_n r_parts k_having s15.2 s15.1 r1 12 r5 hr5) (cwV 3 hts gX0_firstToAsk_X0_fewestBy rfl rfl rfl (by decide +kernel) ⟨Nat.le_of_ble_eq_true rfl, Nat.le_of_ble_eq_true rfl⟩) (kp_V hK hP hD hS hA hN (isC := [0, 1, 2, 3]) (isT := [0, 1]) (wc := [(a_r, .inr (6, [.ref a_r_rows, .ref a_r_ins, .int r_size, .int r_n, .int r_parts])), (a_k, .inr (0, [.ref a_r, .ref a_k_having, .ref a_k_fewest])), (a_k_having, .inl (c_k_having, 10, .inl k_having)), (a_k_fewest, .inl (c_k_fewest, 4096, .inl s15.2))]) rfl (by decide +kernel) rfl (ci := 0) (q0 := 1) rfl rfl) rfl rfl hl.1 rfl (lv_room (Nat.le_of_ble_eq_true rfl)) dX0_firstToAsk_44 ⟨Nat.le_of_ble_eq_true rfl, Nat.le_of_ble_eq_true rfl⟩) hP hD hS hA rfl rfl (by decide +kernel) (by decide +kernel) rfl (by decide +kernel) (fun H locs hP hD hS => ?_)
            refine lv_iload_n hx hb dX0_firstToAsk_47 rfl (lv_at hl 2 rfl) ?_
            refine lv_icmp_ne (tgt := 53) hx hb dX0_firstToAsk_48 (by decide) (fun hc => ?_) (fun hc => ?_)
            · replace hs := it_f hc hs
              refine lv_iinc (v := s15.1 + 1) (lv' := [(3, .int (s15.1 + 1)), (0, .ref a_k), (1, .int r1), (2, .int r2.1)]) hx hb dX0_firstToAsk_53 hl (k := 3) rfl (by rfl) (by decide) rfl (fun ls hl => ?_)
              refine lv_goto (tgt := 15) hx hb dX0_firstToAsk_56 (by decide) ?_
              replace hs := Option.some.inj hs
              subst hs
              exact hZw (ih (s15.1 + 1, r5.2) H locs ls hn hP hD hS (lv_sub hl [1, 2, 3, 0] rfl))
            · replace hs := it_t hc hs
              replace hs := Option.some.inj hs
              subst hs
              obtain rfl : (Sum.inl (s15.1, r5.2)) = e15 := hn
              exact hZw (hX15_0 (s15.1, r5.2) rfl H locs ls hP hD hS (lv_sub hl [3] rfl))
  obtain ⟨n15, hn15⟩ := lp_ex he15
  exact hZw (hL15 n15 (0, r2.2) H locs ls hn15 hP hD hS (lv_sub hl [3, 2, 1, 0] rfl))
noncomputable def pX5_makerWinsAfter_B (rc : Int32 → Int32 → (Nat → Int32) → (Nat → Int32) → Int32 → Int32 → Int32 → Int32 → Int32 → Option (Int32 × (Nat → Int32))) (r_n : Int32) (r_parts : Int32) (r_ins : Nat → Int32) (g_known : Nat → Int32) (p1 : Int32) (p2 : Int32) (p3 : Int32) (p4 : Int32) (p5 : Int32) (p6 : Int32) : Option (Int32 × (Nat → Int32)) :=
  if p5 = 0 then (gd (vp_in p1 10) (Option.bind (rc r_n r_parts r_ins g_known p2 (p3 ||| (1 <<< (p1 &&& 31))) (p4 + (2 * (nI (3 ^ p1.toNatClampNeg)))) 1 (p6 - 1)) (fun r2 => gd (narrow .boolean (.int r2.1) = .int r2.1) (some (r2.1, r2.2))))) else (gd (vp_in p1 10) (Option.bind (rc r_n r_parts r_ins g_known (p2 ||| (1 <<< (p1 &&& 31))) p3 (p4 + (nI (3 ^ p1.toNatClampNeg))) 0 (p6 - 1)) (fun r5 => gd (narrow .boolean (.int r5.1) = .int r5.1) (some (r5.1, r5.2)))))
noncomputable def pX5_makerWins_L89 (r_n : Int32) (r_parts : Int32) (r_ins : Nat → Int32) (p1 : Int32) (p2 : Int32) (p3 : Int32) (p4 : Int32) (p5 : Int32) (rc : Int32 → Int32 → (Nat → Int32) → (Nat → Int32) → Int32 → Int32 → Int32 → Int32 → Int32 → Int32 → Option (Int32 × (Nat → Int32))) (r5 : Int32) (s89 : Int32 × Int32 × (Nat → Int32)) : Option ((Int32 × Int32 × (Nat → Int32)) ⊕ (Int32 × (Nat → Int32))) :=
  if r_n ≤ s89.2.1 then (some (Sum.inr (s89.1, s89.2.2))) else (if s89.1 = p4 then (some (Sum.inr (s89.1, s89.2.2))) else (Option.bind (pX9_has r5 s89.2.1) (fun r7 => if r7 = 0 then (some (Sum.inl (s89.1, s89.2.1 + 1, s89.2.2))) else (Option.bind (rc r_n r_parts r_ins s89.2.2 s89.2.1 p1 p2 p3 p4 p5) (fun r8 => some (Sum.inl (r8.1, s89.2.1 + 1, r8.2)))))))
noncomputable def pX5_makerWins_B (rc : Int32 → Int32 → (Nat → Int32) → (Nat → Int32) → Int32 → Int32 → Int32 → Int32 → Int32 → Int32 → Option (Int32 × (Nat → Int32))) (r_n : Int32) (r_parts : Int32) (r_ins : Nat → Int32) (g_known : Nat → Int32) (p1 : Int32) (p2 : Int32) (p3 : Int32) (p4 : Int32) (p5 : Int32) : Option (Int32 × (Nat → Int32)) :=
  Option.bind (pX6_hasSetIn r_ins p1) (fun r1 => if r1 = 0 then (if p5 ≤ 0 then (some (0, g_known)) else (Option.bind (pX6_isMeeter r_parts r_ins p2) (fun r2 => if r2 = 0 then (gd (vp_in (p3 / 16) 3691) (Option.bind (pX5_shiftOf p3) (fun r4 => if (((g_known (p3 / 16).toNatClampNeg) >>> (r4 &&& 31)) &&& 3) = 0 then (Option.bind (pX5_worthTaking r_n r_parts r_ins p1 p2) (fun r5 => Option.bind (if p4 = 0 then (some 1) else (some 0) : Option (Int32)) (fun t84 => Option.bind (lp (pX5_makerWins_L89 r_n r_parts r_ins p1 p2 p3 p4 p5 rc r5) (t84, 0, g_known)) (fun e89 => gd (vp_in (p3 / 16) 3691) (Option.bind (if e89.1 = 0 then (some 2) else (some 3) : Option (Int32)) (fun t159 => Option.bind (pX5_shiftOf p3) (fun r10 => gd (vp_in (p3 / 16) 3691) (gd (narrow .boolean (.int e89.1) = .int e89.1) (some (e89.1, upd e89.2 (p3 / 16).toNatClampNeg ((e89.2 (p3 / 16).toNatClampNeg) ||| (t159 <<< (r10 &&& 31))))))))))))) else (if (((g_known (p3 / 16).toNatClampNeg) >>> (r4 &&& 31)) &&& 3) = 3 then (some (1, g_known)) else (some (0, g_known)))))) else (some (0, g_known))))) else (some (1, g_known)))
noncomputable def pX5_makerWins : Nat → Int32 → Int32 → (Nat → Int32) → (Nat → Int32) → Int32 → Int32 → Int32 → Int32 → Int32 → Option (Int32 × (Nat → Int32))
  | 0 => fun _ _ _ _ _ _ _ _ _ => none
  | d + 1 => pX5_makerWins_B (pX5_makerWinsAfter_B (pX5_makerWins d))
set_option maxHeartbeats 4000000 in
set_option maxRecDepth 100000 in
theorem c_X5_makerWinsAfter_open (d : Nat) (ihd : ∀ (l : Launch) (dC : Nat → ClassId) (dI : Nat → Nat → Nat) (a_r : Nat) (a_r_rows : Nat) (a_r_ins : Nat) (a_g : Nat) (a_g_known : Nat) (c_r_ins c_g_known : ClassId) (sz : Nat) (r_size : Int32) (r_n : Int32) (r_parts : Int32) (r_ins : Nat → Int32) (g_known : Nat → Int32) (p1 : Int32) (p2 : Int32) (p3 : Int32) (p4 : Int32) (p5 : Int32) (rv : Int32 × (Nat → Int32)) (hs : pX5_makerWins d r_n r_parts r_ins g_known p1 p2 p3 p4 p5 = some rv), Met l yX5_makerWins wsX5_makerWins ({ frames := 3 + 2 * d, cells := 0, slots := 0, locals := 77 + 56 * d }) (sPc [.ref a_g, .int p1, .int p2, .int p3, .int p4, .int p5] (dC, dI) [(c_r_ins, .int), (c_g_known, .int)] [(a_r, .inr (6, [.ref a_r_rows, .ref a_r_ins, .int r_size, .int r_n, .int r_parts])), (a_r_ins, .inl (c_r_ins, 1024, .inl r_ins)), (a_g, .inr (5, [.ref a_r, .ref a_g_known])), (a_g_known, .inl (c_g_known, 3691, .inl g_known))] sz) (va_Qi (fun (r : Int32) (_ : Unit) => r = rv.1) (sB (dC, dI) [(c_r_ins, .int), (c_g_known, .int)] (va_A [(a_r, .inr (6, [.ref a_r_rows, .ref a_r_ins, .int r_size, .int r_n, .int r_parts])), (a_r_ins, .inl (c_r_ins, 1024, .inl r_ins)), (a_g, .inr (5, [.ref a_r, .ref a_g_known])), (a_g_known, .inl (c_g_known, 3691, .inl g_known))] sz) [(a_r, .inr (6, [.ref a_r_rows, .ref a_r_ins, .int r_size, .int r_n, .int r_parts])), (a_r_ins, .inl (c_r_ins, 1024, .inl r_ins)), (a_g, .inr (5, [.ref a_r, .ref a_g_known])), (a_g_known, .inl (c_g_known, 3691, .inl rv.2))]) (va_A [(a_r, .inr (6, [.ref a_r_rows, .ref a_r_ins, .int r_size, .int r_n, .int r_parts])), (a_r_ins, .inl (c_r_ins, 1024, .inl r_ins)), (a_g, .inr (5, [.ref a_r, .ref a_g_known])), (a_g_known, .inl (c_g_known, 3691, .inl g_known))] sz)) 0 0 (va_A [(a_r, .inr (6, [.ref a_r_rows, .ref a_r_ins, .int r_size, .int r_n, .int r_parts])), (a_r_ins, .inl (c_r_ins, 1024, .inl r_ins)), (a_g, .inr (5, [.ref a_r, .ref a_g_known])), (a_g_known, .inl (c_g_known, 3691, .inl g_known))] sz)) (l : Launch) (dC : Nat → ClassId) (dI : Nat → Nat → Nat) (a_r : Nat) (a_r_rows : Nat) (a_r_ins : Nat) (a_g : Nat) (a_g_known : Nat) (c_r_ins c_g_known : ClassId) (sz : Nat) (r_size : Int32) (r_n : Int32) (r_parts : Int32) (r_ins : Nat → Int32) (g_known : Nat → Int32) (p1 : Int32) (p2 : Int32) (p3 : Int32) (p4 : Int32) (p5 : Int32) (p6 : Int32) (rv : Int32 × (Nat → Int32)) (hs : pX5_makerWinsAfter_B (pX5_makerWins d) r_n r_parts r_ins g_known p1 p2 p3 p4 p5 p6 = some rv) : Met l yX5_makerWinsAfter wsX5_makerWinsAfter ({ frames := 3 + 2 * d + 1, cells := 0, slots := 0, locals := 77 + 56 * d + 29 }) (sPc [.ref a_g, .int p1, .int p2, .int p3, .int p4, .int p5, .int p6] (dC, dI) [(c_r_ins, .int), (c_g_known, .int)] [(a_r, .inr (6, [.ref a_r_rows, .ref a_r_ins, .int r_size, .int r_n, .int r_parts])), (a_r_ins, .inl (c_r_ins, 1024, .inl r_ins)), (a_g, .inr (5, [.ref a_r, .ref a_g_known])), (a_g_known, .inl (c_g_known, 3691, .inl g_known))] sz) (va_Qi (fun (r : Int32) (_ : Unit) => r = rv.1) (sB (dC, dI) [(c_r_ins, .int), (c_g_known, .int)] (va_A [(a_r, .inr (6, [.ref a_r_rows, .ref a_r_ins, .int r_size, .int r_n, .int r_parts])), (a_r_ins, .inl (c_r_ins, 1024, .inl r_ins)), (a_g, .inr (5, [.ref a_r, .ref a_g_known])), (a_g_known, .inl (c_g_known, 3691, .inl g_known))] sz) [(a_r, .inr (6, [.ref a_r_rows, .ref a_r_ins, .int r_size, .int r_n, .int r_parts])), (a_r_ins, .inl (c_r_ins, 1024, .inl r_ins)), (a_g, .inr (5, [.ref a_r, .ref a_g_known])), (a_g_known, .inl (c_g_known, 3691, .inl rv.2))]) (va_A [(a_r, .inr (6, [.ref a_r_rows, .ref a_r_ins, .int r_size, .int r_n, .int r_parts])), (a_r_ins, .inl (c_r_ins, 1024, .inl r_ins)), (a_g, .inr (5, [.ref a_r, .ref a_g_known])), (a_g_known, .inl (c_g_known, 3691, .inl g_known))] sz)) 0 0 (va_A [(a_r, .inr (6, [.ref a_r_rows, .ref a_r_ins, .int r_size, .int r_n, .int r_parts])), (a_r_ins, .inl (c_r_ins, 1024, .inl r_ins)), (a_g, .inr (5, [.ref a_r, .ref a_g_known])), (a_g_known, .inl (c_g_known, 3691, .inl g_known))] sz) := by
  refine Met.ofW (cc := cX5_makerWinsAfter) (maxL := 8) (ret := (some .boolean)) (by decide) rfl ?_
  intro p e s m args below meth c s₁ B hml hv
  obtain ⟨rfl, hsz, hP, hK, hD0, hN⟩ := hv
  have hx := B.exec
  have hb := B.bytes
  have hr := B.returns
  have hts := atoms_spec (ws := wsX5_makerWinsAfter) B.pre
  have hown : s.vm.findClass RX5 = some m.cls := findClass_of_methodNamed B.named
  have hlocks := B.notSynchronized
  subst hsz
  have hD := hD0.self (sz := s.heap.size)
  generalize hAe : va_A [(a_r, .inr (6, [.ref a_r_rows, .ref a_r_ins, .int r_size, .int r_n, .int r_parts])), (a_r_ins, .inl (c_r_ins, 1024, .inl r_ins)), (a_g, .inr (5, [.ref a_r, .ref a_g_known])), (a_g_known, .inl (c_g_known, 3691, .inl g_known))] s.heap.size = A at hD hN ⊢
  have hA : ∀ q : Nat, s.heap.size ≤ q → A q := fun q h => by rw [← hAe]; exact Or.inr h
  have hS : va_S A s.heap s.heap [] := va_S.rf
  have hP : va_P (dC, dI) vwCl [(a_r, .inr (6, [.ref a_r_rows, .ref a_r_ins, .int r_size, .int r_n, .int r_parts])), (a_r_ins, .inl (c_r_ins, 1024, .inl r_ins)), (a_g, .inr (5, [.ref a_r, .ref a_g_known])), (a_g_known, .inl (c_g_known, 3691, .inl g_known))] s.heap := hP
  have hl := lv_entry ([.ref a_g, .int p1, .int p2, .int p3, .int p4, .int p5, .int p6]) (n := 8) (Nat.le_of_ble_eq_true rfl)
  rw [lg_entry_eq]
  generalize (lg_sl ([.ref a_g, .int p1, .int p2, .int p3, .int p4, .int p5, .int p6]) ++ List.replicate (8 - (lg_sl ([.ref a_g, .int p1, .int p2, .int p3, .int p4, .int p5, .int p6])).length) Slot.unset).toArray = ls at hl ⊢
  have hl : lv_has ls 8 [(0, .ref a_g), (1, .int p1), (2, .int p2), (3, .int p3), (4, .int p4), (5, .int p5), (6, .int p6)] := hl
  have hf35 := hts (.fieldLink RX5 35 "MeetSets$Match" "THREES" "[I") (t1_ (al_ (al_ (al_ h1_))))
  obtain ⟨a_th, hZt, hTt⟩ := hN.2
  refine w_abs (fun Z hZv hZw => ?_)
  refine hZv ?_
  obtain ⟨H, hH⟩ : ∃ H, H = s.heap := ⟨_, rfl⟩
  obtain ⟨locs, hlo⟩ : ∃ L : List Loc, L = [] := ⟨_, rfl⟩
  rw [← hlo, ← hH]
  have hS : va_S A s.heap H locs := by rw [hlo, hH]; exact hS
  have hP : va_P (dC, dI) vwCl [(a_r, .inr (6, [.ref a_r_rows, .ref a_r_ins, .int r_size, .int r_n, .int r_parts])), (a_r_ins, .inl (c_r_ins, 1024, .inl r_ins)), (a_g, .inr (5, [.ref a_r, .ref a_g_known])), (a_g_known, .inl (c_g_known, 3691, .inl g_known))] H := by rw [hH]; exact hP
  clear hH hlo
  unfold pX5_makerWinsAfter_B at hs
  refine lv_iconst (v := 1) hx hb dX5_makerWinsAfter_0 (by decide) ?_
  refine lv_iload_n hx hb dX5_makerWinsAfter_1 rfl (lv_at hl 1 rfl) ?_
  refine lv_ishl hx hb dX5_makerWinsAfter_2 ?_
  refine lv_istore (lv' := [(7, .int (1 <<< (p1 &&& 31))), (0, .ref a_g), (1, .int p1), (2, .int p2), (3, .int p3), (4, .int p4), (5, .int p5), (6, .int p6)]) hx hb dX5_makerWinsAfter_3 hl (by decide) rfl (fun ls hl => ?_)
  refine lv_iload hx hb dX5_makerWinsAfter_5 (lv_at hl 6 rfl) ?_
  refine lv_if_eq (tgt := 35) hx hb dX5_makerWinsAfter_7 (by decide) (fun hc => ?_) (fun hc => ?_)
  · replace hs := it_t hc hs
    refine lv_aload_n hx hb dX5_makerWinsAfter_35 rfl (lv_at hl 1 rfl) ?_
    refine lv_iload_n hx hb dX5_makerWinsAfter_36 rfl (lv_at hl 3 rfl) ?_
    refine lv_iload_n hx hb dX5_makerWinsAfter_37 rfl (lv_at hl 4 rfl) ?_
    refine lv_iload hx hb dX5_makerWinsAfter_38 (lv_at hl 0 rfl) ?_
    refine lv_ior hx hb dX5_makerWinsAfter_40 ?_
    refine lv_iload hx hb dX5_makerWinsAfter_41 (lv_at hl 5 rfl) ?_
    refine lv_iconst (v := 2) hx hb dX5_makerWinsAfter_43 (by decide) ?_
    refine va_gets hx hb hZt hS hown hf35 (fun _ h9 => h9) dX5_makerWinsAfter_44 ?_
    refine lv_iload_n hx hb dX5_makerWinsAfter_47 rfl (lv_at hl 2 rfl) ?_
    obtain ⟨hg1, hs⟩ := gd_s hs
    refine va_ti hx hb hTt hS hg1 (v := .int (nI (3 ^ p1.toNatClampNeg))) rfl dX5_makerWinsAfter_48 ?_
    refine lv_imul hx hb dX5_makerWinsAfter_49 ?_
    refine lv_iadd hx hb dX5_makerWinsAfter_50 ?_
    refine lv_iconst (v := 1) hx hb dX5_makerWinsAfter_51 (by decide) ?_
    refine lv_iload hx hb dX5_makerWinsAfter_52 (lv_at hl 7 rfl) ?_
    refine lv_iconst (v := 1) hx hb dX5_makerWinsAfter_54 (by decide) ?_
    refine lv_isub hx hb dX5_makerWinsAfter_55 ?_
    obtain ⟨r2, hr2, hs⟩ := bd_s hs
    refine kc_i (isC := [0, 1, 2, 3]) (isR := []) (pm := [0, 1, 2, 3]) (wr := []) (w1 := [(a_r, .inr (6, [.ref a_r_rows, .ref a_r_ins, .int r_size, .int r_n, .int r_parts])), (a_r_ins, .inl (c_r_ins, 1024, .inl r_ins)), (a_g, .inr (5, [.ref a_r, .ref a_g_known])), (a_g_known, .inl (c_g_known, 3691, .inl r2.2))]) (w2 := [(a_r, .inr (6, [.ref a_r_rows, .ref a_r_ins, .int r_size, .int r_n, .int r_parts])), (a_r_ins, .inl (c_r_ins, 1024, .inl r_ins)), (a_g, .inr (5, [.ref a_r, .ref a_g_known])), (a_g_known, .inl (c_g_known, 3691, .inl r2.2))]) (va_runV (As := [.int p2, .int (p3 ||| (1 <<< (p1 &&& 31))), .int (p4 + (2 * (nI (3 ^ p1.toNatClampNeg)))), .int 1, .int (p6 - 1)]) (rest := []) ⟨hx, hb, hml, hown, hts⟩ (ihd l dC dI a_r a_r_rows a_r_ins a_g a_g_known c_r_ins c_g_known H.size r_size r_n r_parts r_ins g_known p2 (p3 ||| (1 <<< (p1 &&& 31))) (p4 + (2 * (nI (3 ^ p1.toNatClampNeg)))) 1 (p6 - 1) r2 hr2) (cwV 5 hts gX5_makerWinsAfter_X5_makerWins rfl rfl rfl (by decide +kernel) ⟨by show 3 + 2 * d + 1 ≤ 3 + 2 * d + 1; omega, by show 8 + (10 + 11) + (77 + 56 * d) ≤ 77 + 56 * d + 29; omega⟩) (kp_V hK hP hD hS hA hN (isC := [0, 1, 2, 3]) (isT := [0, 1]) (wc := [(a_r, .inr (6, [.ref a_r_rows, .ref a_r_ins, .int r_size, .int r_n, .int r_parts])), (a_r_ins, .inl (c_r_ins, 1024, .inl r_ins)), (a_g, .inr (5, [.ref a_r, .ref a_g_known])), (a_g_known, .inl (c_g_known, 3691, .inl g_known))]) rfl (by decide +kernel) rfl (ci := 5) (q0 := 2) rfl rfl) rfl rfl hl.1 rfl (lv_room (Nat.le_of_ble_eq_true rfl)) dX5_makerWinsAfter_56 ⟨Nat.le_of_ble_eq_true rfl, Nat.le_of_ble_eq_true rfl⟩) hP hD hS hA rfl rfl (by decide +kernel) (by decide +kernel) rfl (by decide +kernel) (fun H locs hP hD hS => ?_)
    obtain ⟨hb3, hs⟩ := gd_s hs
    replace hs := Option.some.inj hs
    subst hs
    exact W.zret (v := r2.1) (ty := .boolean) hx hb hr hb3 (fun t ht hW => ⟨⟨r2.1, (), rfl, rfl, by rw [ht]; exact hP, va_K.moved hW.alike hK, hD⟩, hS.F ht⟩) hS.2.2 dX5_makerWinsAfter_59
  · replace hs := it_f hc hs
    refine lv_aload_n hx hb dX5_makerWinsAfter_10 rfl (lv_at hl 1 rfl) ?_
    refine lv_iload_n hx hb dX5_makerWinsAfter_11 rfl (lv_at hl 3 rfl) ?_
    refine lv_iload hx hb dX5_makerWinsAfter_12 (lv_at hl 0 rfl) ?_
    refine lv_ior hx hb dX5_makerWinsAfter_14 ?_
    refine lv_iload_n hx hb dX5_makerWinsAfter_15 rfl (lv_at hl 4 rfl) ?_
    refine lv_iload hx hb dX5_makerWinsAfter_16 (lv_at hl 5 rfl) ?_
    refine va_gets hx hb hZt hS hown hf35 (fun _ h9 => h9) dX5_makerWinsAfter_18 ?_
    refine lv_iload_n hx hb dX5_makerWinsAfter_21 rfl (lv_at hl 2 rfl) ?_
    obtain ⟨hg4, hs⟩ := gd_s hs
    refine va_ti hx hb hTt hS hg4 (v := .int (nI (3 ^ p1.toNatClampNeg))) rfl dX5_makerWinsAfter_22 ?_
    refine lv_iadd hx hb dX5_makerWinsAfter_23 ?_
    refine lv_iconst (v := 0) hx hb dX5_makerWinsAfter_24 (by decide) ?_
    refine lv_iload hx hb dX5_makerWinsAfter_25 (lv_at hl 7 rfl) ?_
    refine lv_iconst (v := 1) hx hb dX5_makerWinsAfter_27 (by decide) ?_
    refine lv_isub hx hb dX5_makerWinsAfter_28 ?_
    obtain ⟨r5, hr5, hs⟩ := bd_s hs
    refine kc_i (isC := [0, 1, 2, 3]) (isR := []) (pm := [0, 1, 2, 3]) (wr := []) (w1 := [(a_r, .inr (6, [.ref a_r_rows, .ref a_r_ins, .int r_size, .int r_n, .int r_parts])), (a_r_ins, .inl (c_r_ins, 1024, .inl r_ins)), (a_g, .inr (5, [.ref a_r, .ref a_g_known])), (a_g_known, .inl (c_g_known, 3691, .inl r5.2))]) (w2 := [(a_r, .inr (6, [.ref a_r_rows, .ref a_r_ins, .int r_size, .int r_n, .int r_parts])), (a_r_ins, .inl (c_r_ins, 1024, .inl r_ins)), (a_g, .inr (5, [.ref a_r, .ref a_g_known])), (a_g_known, .inl (c_g_known, 3691, .inl r5.2))]) (va_runV (As := [.int (p2 ||| (1 <<< (p1 &&& 31))), .int p3, .int (p4 + (nI (3 ^ p1.toNatClampNeg))), .int 0, .int (p6 - 1)]) (rest := []) ⟨hx, hb, hml, hown, hts⟩ (ihd l dC dI a_r a_r_rows a_r_ins a_g a_g_known c_r_ins c_g_known H.size r_size r_n r_parts r_ins g_known (p2 ||| (1 <<< (p1 &&& 31))) p3 (p4 + (nI (3 ^ p1.toNatClampNeg))) 0 (p6 - 1) r5 hr5) (cwV 5 hts gX5_makerWinsAfter_X5_makerWins rfl rfl rfl (by decide +kernel) ⟨by show 3 + 2 * d + 1 ≤ 3 + 2 * d + 1; omega, by show 8 + (10 + 11) + (77 + 56 * d) ≤ 77 + 56 * d + 29; omega⟩) (kp_V hK hP hD hS hA hN (isC := [0, 1, 2, 3]) (isT := [0, 1]) (wc := [(a_r, .inr (6, [.ref a_r_rows, .ref a_r_ins, .int r_size, .int r_n, .int r_parts])), (a_r_ins, .inl (c_r_ins, 1024, .inl r_ins)), (a_g, .inr (5, [.ref a_r, .ref a_g_known])), (a_g_known, .inl (c_g_known, 3691, .inl g_known))]) rfl (by decide +kernel) rfl (ci := 5) (q0 := 2) rfl rfl) rfl rfl hl.1 rfl (lv_room (Nat.le_of_ble_eq_true rfl)) dX5_makerWinsAfter_29 ⟨Nat.le_of_ble_eq_true rfl, Nat.le_of_ble_eq_true rfl⟩) hP hD hS hA rfl rfl (by decide +kernel) (by decide +kernel) rfl (by decide +kernel) (fun H locs hP hD hS => ?_)
    refine lv_goto (tgt := 59) hx hb dX5_makerWinsAfter_32 (by decide) ?_
    obtain ⟨hb6, hs⟩ := gd_s hs
    replace hs := Option.some.inj hs
    subst hs
    exact W.zret (v := r5.1) (ty := .boolean) hx hb hr hb6 (fun t ht hW => ⟨⟨r5.1, (), rfl, rfl, by rw [ht]; exact hP, va_K.moved hW.alike hK, hD⟩, hS.F ht⟩) hS.2.2 dX5_makerWinsAfter_59
set_option maxHeartbeats 4000000 in
set_option maxRecDepth 100000 in
theorem c_X5_makerWins : ∀ (d : Nat) (l : Launch) (dC : Nat → ClassId) (dI : Nat → Nat → Nat) (a_r : Nat) (a_r_rows : Nat) (a_r_ins : Nat) (a_g : Nat) (a_g_known : Nat) (c_r_ins c_g_known : ClassId) (sz : Nat) (r_size : Int32) (r_n : Int32) (r_parts : Int32) (r_ins : Nat → Int32) (g_known : Nat → Int32) (p1 : Int32) (p2 : Int32) (p3 : Int32) (p4 : Int32) (p5 : Int32) (rv : Int32 × (Nat → Int32)) (hs : pX5_makerWins d r_n r_parts r_ins g_known p1 p2 p3 p4 p5 = some rv), Met l yX5_makerWins wsX5_makerWins ({ frames := 3 + 2 * d, cells := 0, slots := 0, locals := 77 + 56 * d }) (sPc [.ref a_g, .int p1, .int p2, .int p3, .int p4, .int p5] (dC, dI) [(c_r_ins, .int), (c_g_known, .int)] [(a_r, .inr (6, [.ref a_r_rows, .ref a_r_ins, .int r_size, .int r_n, .int r_parts])), (a_r_ins, .inl (c_r_ins, 1024, .inl r_ins)), (a_g, .inr (5, [.ref a_r, .ref a_g_known])), (a_g_known, .inl (c_g_known, 3691, .inl g_known))] sz) (va_Qi (fun (r : Int32) (_ : Unit) => r = rv.1) (sB (dC, dI) [(c_r_ins, .int), (c_g_known, .int)] (va_A [(a_r, .inr (6, [.ref a_r_rows, .ref a_r_ins, .int r_size, .int r_n, .int r_parts])), (a_r_ins, .inl (c_r_ins, 1024, .inl r_ins)), (a_g, .inr (5, [.ref a_r, .ref a_g_known])), (a_g_known, .inl (c_g_known, 3691, .inl g_known))] sz) [(a_r, .inr (6, [.ref a_r_rows, .ref a_r_ins, .int r_size, .int r_n, .int r_parts])), (a_r_ins, .inl (c_r_ins, 1024, .inl r_ins)), (a_g, .inr (5, [.ref a_r, .ref a_g_known])), (a_g_known, .inl (c_g_known, 3691, .inl rv.2))]) (va_A [(a_r, .inr (6, [.ref a_r_rows, .ref a_r_ins, .int r_size, .int r_n, .int r_parts])), (a_r_ins, .inl (c_r_ins, 1024, .inl r_ins)), (a_g, .inr (5, [.ref a_r, .ref a_g_known])), (a_g_known, .inl (c_g_known, 3691, .inl g_known))] sz)) 0 0 (va_A [(a_r, .inr (6, [.ref a_r_rows, .ref a_r_ins, .int r_size, .int r_n, .int r_parts])), (a_r_ins, .inl (c_r_ins, 1024, .inl r_ins)), (a_g, .inr (5, [.ref a_r, .ref a_g_known])), (a_g_known, .inl (c_g_known, 3691, .inl g_known))] sz) := by
  intro d
  induction d with
  | zero =>
    intro l dC dI a_r a_r_rows a_r_ins a_g a_g_known c_r_ins c_g_known sz r_size r_n r_parts r_ins g_known p1 p2 p3 p4 p5 rv hs
    unfold pX5_makerWins at hs
    cases hs
  | succ d ihd =>
    intro l dC dI a_r a_r_rows a_r_ins a_g a_g_known c_r_ins c_g_known sz r_size r_n r_parts r_ins g_known p1 p2 p3 p4 p5 rv hs
    change pX5_makerWins_B (pX5_makerWinsAfter_B (pX5_makerWins d)) r_n r_parts r_ins g_known p1 p2 p3 p4 p5 = some rv at hs
    refine Met.ofW (cc := cX5_makerWins) (maxL := 10) (ret := (some .boolean)) (by decide) rfl ?_
    intro p e s m args below meth c s₁ B hml hv
    obtain ⟨rfl, hsz, hP, hK, hD0, hN⟩ := hv
    have hx := B.exec
    have hb := B.bytes
    have hr := B.returns
    have hts := atoms_spec (ws := wsX5_makerWins) B.pre
    have hown : s.vm.findClass RX5 = some m.cls := findClass_of_methodNamed B.named
    have hlocks := B.notSynchronized
    subst hsz
    have hD := hD0.self (sz := s.heap.size)
    generalize hAe : va_A [(a_r, .inr (6, [.ref a_r_rows, .ref a_r_ins, .int r_size, .int r_n, .int r_parts])), (a_r_ins, .inl (c_r_ins, 1024, .inl r_ins)), (a_g, .inr (5, [.ref a_r, .ref a_g_known])), (a_g_known, .inl (c_g_known, 3691, .inl g_known))] s.heap.size = A at hD hN ⊢
    have hA : ∀ q : Nat, s.heap.size ≤ q → A q := fun q h => by rw [← hAe]; exact Or.inr h
    have hS : va_S A s.heap s.heap [] := va_S.rf
    have hP : va_P (dC, dI) vwCl [(a_r, .inr (6, [.ref a_r_rows, .ref a_r_ins, .int r_size, .int r_n, .int r_parts])), (a_r_ins, .inl (c_r_ins, 1024, .inl r_ins)), (a_g, .inr (5, [.ref a_r, .ref a_g_known])), (a_g_known, .inl (c_g_known, 3691, .inl g_known))] s.heap := hP
    have hl := lv_entry ([.ref a_g, .int p1, .int p2, .int p3, .int p4, .int p5]) (n := 10) (Nat.le_of_ble_eq_true rfl)
    rw [lg_entry_eq]
    generalize (lg_sl ([.ref a_g, .int p1, .int p2, .int p3, .int p4, .int p5]) ++ List.replicate (10 - (lg_sl ([.ref a_g, .int p1, .int p2, .int p3, .int p4, .int p5])).length) Slot.unset).toArray = ls at hl ⊢
    have hl : lv_has ls 10 [(0, .ref a_g), (1, .int p1), (2, .int p2), (3, .int p3), (4, .int p4), (5, .int p5)] := hl
    have hiX5 : ∀ w ∈ wsX50, w ∈ wsX5_makerWins := fun _ h => List.mem_cons_of_mem _ (List.mem_append_left _ (List.mem_append_right _ h))
    have hf9 := hts (.fieldLink RX5 9 "MeetSets$Match" "list" "LMeetSets$SetRow;") (t1_ (al_ (al_ (al_ h1_))))
    have hf15 := hts (.fieldLink RX5 15 "MeetSets$Match" "known" "[I") (t1_ (al_ (al_ (al_ (t1_ h1_)))))
    have hiX6 : ∀ w ∈ wsX60, w ∈ wsX5_makerWins := fun _ h => List.mem_cons_of_mem _ (List.mem_append_right _ h)
    have hf25 := hts (.fieldLink RX5 25 "MeetSets$SetRow" "n" "I") (t1_ (al_ (al_ (al_ (t1_ (t1_ h1_))))))
    refine w_abs (fun Z hZv hZw => ?_)
    refine hZv ?_
    obtain ⟨H, hH⟩ : ∃ H, H = s.heap := ⟨_, rfl⟩
    obtain ⟨locs, hlo⟩ : ∃ L : List Loc, L = [] := ⟨_, rfl⟩
    rw [← hlo, ← hH]
    have hS : va_S A s.heap H locs := by rw [hlo, hH]; exact hS
    have hP : va_P (dC, dI) vwCl [(a_r, .inr (6, [.ref a_r_rows, .ref a_r_ins, .int r_size, .int r_n, .int r_parts])), (a_r_ins, .inl (c_r_ins, 1024, .inl r_ins)), (a_g, .inr (5, [.ref a_r, .ref a_g_known])), (a_g_known, .inl (c_g_known, 3691, .inl g_known))] H := by rw [hH]; exact hP
    clear hH hlo
    unfold pX5_makerWins_B at hs
    refine lv_aload_n hx hb dX5_makerWins_0 rfl (lv_at hl 0 rfl) ?_
    refine va_get (D := (dC, dI)) (ci := 5) (v := .ref a_r) (C := RX5) (T := TX5) (N := 2) hx hb hts hiX5 hown hK hP 2 rfl rfl 0 (by decide) hf9 (fun _ h9 => h9) rfl dX5_makerWins_1 ?_
    refine lv_iload_n hx hb dX5_makerWins_4 rfl (lv_at hl 1 rfl) ?_
    obtain ⟨r1, hr1, hs⟩ := bd_s hs
    refine kc_i (isC := [0, 1]) (isR := [2, 3]) (pm := [2, 3, 0, 1]) (wr := [(a_g, .inr (5, [.ref a_r, .ref a_g_known])), (a_g_known, .inl (c_g_known, 3691, .inl g_known))]) (w1 := [(a_r, .inr (6, [.ref a_r_rows, .ref a_r_ins, .int r_size, .int r_n, .int r_parts])), (a_r_ins, .inl (c_r_ins, 1024, .inl r_ins))]) (w2 := [(a_r, .inr (6, [.ref a_r_rows, .ref a_r_ins, .int r_size, .int r_n, .int r_parts])), (a_r_ins, .inl (c_r_ins, 1024, .inl r_ins)), (a_g, .inr (5, [.ref a_r, .ref a_g_known])), (a_g_known, .inl (c_g_known, 3691, .inl g_known))]) (va_runV (As := [.int p1]) (rest := []) ⟨hx, hb, hml, hown, hts⟩ (c_X6_hasSetIn l dC dI a_r a_r_rows a_r_ins c_r_ins H.size r_size r_n r_parts r_ins p1 r1 hr1) (cwV 1 hts gX5_makerWins_X6_hasSetIn rfl rfl rfl (by decide +kernel) ⟨by show 0 + 1 ≤ 3 + 2 * (d + 1); omega, by show 8 + (2 + 11) + (0) ≤ 77 + 56 * (d + 1); omega⟩) (kp_V hK hP hD hS hA hN (isC := [0, 1]) (isT := [0]) (wc := [(a_r, .inr (6, [.ref a_r_rows, .ref a_r_ins, .int r_size, .int r_n, .int r_parts])), (a_r_ins, .inl (c_r_ins, 1024, .inl r_ins))]) rfl (by decide +kernel) rfl (ci := 6) (q0 := 0) rfl rfl) rfl rfl hl.1 rfl (lv_room (Nat.le_of_ble_eq_true rfl)) dX5_makerWins_5 ⟨Nat.le_of_ble_eq_true rfl, Nat.le_of_ble_eq_true rfl⟩) hP hD hS hA rfl rfl (by decide +kernel) (by decide +kernel) rfl (by decide +kernel) (fun H locs hP hD hS => ?_)
    refine lv_if_eq (tgt := 13) hx hb dX5_makerWins_8 (by decide) (fun hc => ?_) (fun hc => ?_)
    · replace hs := it_t hc hs
      refine lv_iload hx hb dX5_makerWins_13 (lv_at hl 5 rfl) ?_
      refine lv_if_le (tgt := 29) hx hb dX5_makerWins_15 (by decide) (fun hc => ?_) (fun hc => ?_)
      · replace hs := it_t hc hs
        refine lv_iconst (v := 0) hx hb dX5_makerWins_29 (by decide) ?_
        replace hs := Option.some.inj hs
        subst hs
        exact W.zret (v := 0) (ty := .boolean) hx hb hr rfl (fun t ht hW => ⟨⟨0, (), rfl, rfl, by rw [ht]; exact hP, va_K.moved hW.alike hK, hD⟩, hS.F ht⟩) hS.2.2 dX5_makerWins_30
      · replace hs := it_f hc hs
        refine lv_aload_n hx hb dX5_makerWins_18 rfl (lv_at hl 0 rfl) ?_
        refine va_get (D := (dC, dI)) (ci := 5) (v := .ref a_r) (C := RX5) (T := TX5) (N := 2) hx hb hts hiX5 hown hK hP 2 rfl rfl 0 (by decide) hf9 (fun _ h9 => h9) rfl dX5_makerWins_19 ?_
        refine lv_iload_n hx hb dX5_makerWins_22 rfl (lv_at hl 2 rfl) ?_
        obtain ⟨r2, hr2, hs⟩ := bd_s hs
        refine kc_i (isC := [0, 1]) (isR := [2, 3]) (pm := [2, 3, 0, 1]) (wr := [(a_g, .inr (5, [.ref a_r, .ref a_g_known])), (a_g_known, .inl (c_g_known, 3691, .inl g_known))]) (w1 := [(a_r, .inr (6, [.ref a_r_rows, .ref a_r_ins, .int r_size, .int r_n, .int r_parts])), (a_r_ins, .inl (c_r_ins, 1024, .inl r_ins))]) (w2 := [(a_r, .inr (6, [.ref a_r_rows, .ref a_r_ins, .int r_size, .int r_n, .int r_parts])), (a_r_ins, .inl (c_r_ins, 1024, .inl r_ins)), (a_g, .inr (5, [.ref a_r, .ref a_g_known])), (a_g_known, .inl (c_g_known, 3691, .inl g_known))]) (va_runV (As := [.int p2]) (rest := []) ⟨hx, hb, hml, hown, hts⟩ (c_X6_isMeeter l dC dI a_r a_r_rows a_r_ins c_r_ins H.size r_size r_n r_parts r_ins p2 r2 hr2) (cwV 1 hts gX5_makerWins_X6_isMeeter rfl rfl rfl (by decide +kernel) ⟨by show 0 + 1 ≤ 3 + 2 * (d + 1); omega, by show 8 + (2 + 11) + (0) ≤ 77 + 56 * (d + 1); omega⟩) (kp_V hK hP hD hS hA hN (isC := [0, 1]) (isT := [0]) (wc := [(a_r, .inr (6, [.ref a_r_rows, .ref a_r_ins, .int r_size, .int r_n, .int r_parts])), (a_r_ins, .inl (c_r_ins, 1024, .inl r_ins))]) rfl (by decide +kernel) rfl (ci := 6) (q0 := 0) rfl rfl) rfl rfl hl.1 rfl (lv_room (Nat.le_of_ble_eq_true rfl)) dX5_makerWins_23 ⟨Nat.le_of_ble_eq_true rfl, Nat.le_of_ble_eq_true rfl⟩) hP hD hS hA rfl rfl (by decide +kernel) (by decide +kernel) rfl (by decide +kernel) (fun H locs hP hD hS => ?_)
        refine lv_if_eq (tgt := 31) hx hb dX5_makerWins_26 (by decide) (fun hc => ?_) (fun hc => ?_)
        · replace hs := it_t hc hs
          refine lv_aload_n hx hb dX5_makerWins_31 rfl (lv_at hl 0 rfl) ?_
          refine va_get (D := (dC, dI)) (ci := 5) (v := .ref a_g_known) (C := RX5) (T := TX5) (N := 2) hx hb hts hiX5 hown hK hP 2 rfl rfl 1 (by decide) hf15 (fun _ h9 => h9) rfl dX5_makerWins_32 ?_
          refine lv_iload_n hx hb dX5_makerWins_35 rfl (lv_at hl 3 rfl) ?_
          refine lv_bipush (v := 16) hx hb dX5_makerWins_36 (by decide) ?_
          refine lv_idiv hx hb dX5_makerWins_38 (by decide) ?_
          obtain ⟨hg3, hs⟩ := gd_s hs
          refine va_iald hx hb hK hP 3 1 rfl rfl hg3 dX5_makerWins_39 ?_
          refine lv_iload_n hx hb dX5_makerWins_40 rfl (lv_at hl 3 rfl) ?_
          obtain ⟨r4, hr4, hs⟩ := bd_s hs
          refine kc_i (isC := []) (isR := [0, 1, 2, 3]) (pm := [0, 1, 2, 3]) (wr := [(a_r, .inr (6, [.ref a_r_rows, .ref a_r_ins, .int r_size, .int r_n, .int r_parts])), (a_r_ins, .inl (c_r_ins, 1024, .inl r_ins)), (a_g, .inr (5, [.ref a_r, .ref a_g_known])), (a_g_known, .inl (c_g_known, 3691, .inl g_known))]) (w1 := []) (w2 := [(a_r, .inr (6, [.ref a_r_rows, .ref a_r_ins, .int r_size, .int r_n, .int r_parts])), (a_r_ins, .inl (c_r_ins, 1024, .inl r_ins)), (a_g, .inr (5, [.ref a_r, .ref a_g_known])), (a_g_known, .inl (c_g_known, 3691, .inl g_known))]) (va_runS (As := [.int p3]) (rest := [.int (g_known (p3 / 16).toNatClampNeg)]) ⟨hx, hb, hml, hown, hts⟩ (c_X5_shiftOf l dC dI H.size p3 r4 hr4) (va_cwS 1 hts gX5_makerWins_X5_shiftOf rfl rfl rfl (by decide +kernel) ⟨by show 0 + 1 ≤ 3 + 2 * (d + 1); omega, by show 8 + (1 + 11) + (0) ≤ 77 + 56 * (d + 1); omega⟩) (kp_S hK hP hD hS hA hN (isC := []) (isT := []) (wc := []) rfl (by decide +kernel) rfl) rfl rfl hl.1 rfl (lv_room (Nat.le_of_ble_eq_true rfl)) dX5_makerWins_41 ⟨Nat.le_of_ble_eq_true rfl, Nat.le_of_ble_eq_true rfl⟩) hP hD hS hA rfl rfl (by decide +kernel) (by decide +kernel) rfl (by decide +kernel) (fun H locs hP hD hS => ?_)
          refine lv_ishr hx hb dX5_makerWins_44 ?_
          refine lv_iconst (v := 3) hx hb dX5_makerWins_45 (by decide) ?_
          refine lv_iand hx hb dX5_makerWins_46 ?_
          refine lv_istore (lv' := [(6, .int (((g_known (p3 / 16).toNatClampNeg) >>> (r4 &&& 31)) &&& 3)), (0, .ref a_g), (1, .int p1), (2, .int p2), (3, .int p3), (4, .int p4), (5, .int p5)]) hx hb dX5_makerWins_47 hl (by decide) rfl (fun ls hl => ?_)
          refine lv_iload hx hb dX5_makerWins_49 (lv_at hl 0 rfl) ?_
          refine lv_if_eq (tgt := 66) hx hb dX5_makerWins_51 (by decide) (fun hc => ?_) (fun hc => ?_)
          · replace hs := it_t hc hs
            refine lv_aload_n hx hb dX5_makerWins_66 rfl (lv_at hl 1 rfl) ?_
            refine lv_iload_n hx hb dX5_makerWins_67 rfl (lv_at hl 2 rfl) ?_
            refine lv_iload_n hx hb dX5_makerWins_68 rfl (lv_at hl 3 rfl) ?_
            obtain ⟨r5, hr5, hs⟩ := bd_s hs
            refine kc_i (isC := [0, 1, 2]) (isR := [3]) (pm := [1, 2, 3, 0]) (wr := [(a_g_known, .inl (c_g_known, 3691, .inl g_known))]) (w1 := [(a_r, .inr (6, [.ref a_r_rows, .ref a_r_ins, .int r_size, .int r_n, .int r_parts])), (a_r_ins, .inl (c_r_ins, 1024, .inl r_ins)), (a_g, .inr (5, [.ref a_r, .ref a_g_known]))]) (w2 := [(a_r, .inr (6, [.ref a_r_rows, .ref a_r_ins, .int r_size, .int r_n, .int r_parts])), (a_r_ins, .inl (c_r_ins, 1024, .inl r_ins)), (a_g, .inr (5, [.ref a_r, .ref a_g_known])), (a_g_known, .inl (c_g_known, 3691, .inl g_known))]) (va_runV (As := [.int p1, .int p2]) (rest := []) ⟨hx, hb, hml, hown, hts⟩ (c_X5_worthTaking l dC dI a_r a_r_rows a_r_ins a_g a_g_known c_r_ins H.size r_size r_n r_parts r_ins p1 p2 r5 hr5) (cwV 2 hts gX5_makerWins_X5_worthTaking rfl rfl rfl (by decide +kernel) ⟨by show 1 + 1 ≤ 3 + 2 * (d + 1); omega, by show 8 + (7 + 11) + (21) ≤ 77 + 56 * (d + 1); omega⟩) (kp_V hK hP hD hS hA hN (isC := [0, 1, 2]) (isT := [0]) (wc := [(a_r, .inr (6, [.ref a_r_rows, .ref a_r_ins, .int r_size, .int r_n, .int r_parts])), (a_r_ins, .inl (c_r_ins, 1024, .inl r_ins)), (a_g, .inr (5, [.ref a_r, .ref a_g_known]))]) rfl (by decide +kernel) rfl (ci := 5) (q0 := 2) rfl rfl) rfl rfl hl.1 rfl (lv_room (Nat.le_of_ble_eq_true rfl)) dX5_makerWins_69 ⟨Nat.le_of_ble_eq_true rfl, Nat.le_of_ble_eq_true rfl⟩) hP hD hS hA rfl rfl (by decide +kernel) (by decide +kernel) rfl (by decide +kernel) (fun H locs hP hD hS => ?_)
            refine lv_istore (lv' := [(7, .int r5), (6, .int (((g_known (p3 / 16).toNatClampNeg) >>> (r4 &&& 31)) &&& 3)), (0, .ref a_g), (1, .int p1), (2, .int p2), (3, .int p3), (4, .int p4), (5, .int p5)]) hx hb dX5_makerWins_72 hl (by decide) rfl (fun ls hl => ?_)
            refine lv_iload hx hb dX5_makerWins_74 (lv_at hl 6 rfl) ?_
            obtain ⟨t84, hq84, hs⟩ := bd_s hs
            have hJ84 : ∀ (H : Heap) (locs : List Loc) (ls : Array Slot), va_P (dC, dI) vwCl [(a_r, .inr (6, [.ref a_r_rows, .ref a_r_ins, .int r_size, .int r_n, .int r_parts])), (a_r_ins, .inl (c_r_ins, 1024, .inl r_ins)), (a_g, .inr (5, [.ref a_r, .ref a_g_known])), (a_g_known, .inl (c_g_known, 3691, .inl g_known))] H → va_D A [(a_r, .inr (6, [.ref a_r_rows, .ref a_r_ins, .int r_size, .int r_n, .int r_parts])), (a_r_ins, .inl (c_r_ins, 1024, .inl r_ins)), (a_g, .inr (5, [.ref a_r, .ref a_g_known])), (a_g_known, .inl (c_g_known, 3691, .inl g_known))] → va_S A s.heap H locs → lv_has ls 10 [(0, .ref a_g), (1, .int p1), (2, .int p2), (3, .int p3), (4, .int p4), (5, .int p5), (7, .int r5)] → Z H locs 0 0 (F0 m 84 ls [.int t84]) := by
              intro H locs ls hP hD hS hl
              refine hZv ?_
              refine lv_istore (lv' := [(8, .int t84), (0, .ref a_g), (1, .int p1), (2, .int p2), (3, .int p3), (4, .int p4), (5, .int p5), (7, .int r5)]) hx hb dX5_makerWins_84 hl (by decide) rfl (fun ls hl => ?_)
              refine lv_iconst (v := 0) hx hb dX5_makerWins_86 (by decide) ?_
              refine lv_istore (lv' := [(9, .int 0), (8, .int t84), (0, .ref a_g), (1, .int p1), (2, .int p2), (3, .int p3), (4, .int p4), (5, .int p5), (7, .int r5)]) hx hb dX5_makerWins_87 hl (by decide) rfl (fun ls hl => ?_)
              obtain ⟨e89, he89, hs⟩ := bd_s hs
              have hX89 : ∀ (H : Heap) (locs : List Loc) (ls : Array Slot), va_P (dC, dI) vwCl [(a_r, .inr (6, [.ref a_r_rows, .ref a_r_ins, .int r_size, .int r_n, .int r_parts])), (a_r_ins, .inl (c_r_ins, 1024, .inl r_ins)), (a_g, .inr (5, [.ref a_r, .ref a_g_known])), (a_g_known, .inl (c_g_known, 3691, .inl e89.2))] H → va_D A [(a_r, .inr (6, [.ref a_r_rows, .ref a_r_ins, .int r_size, .int r_n, .int r_parts])), (a_r_ins, .inl (c_r_ins, 1024, .inl r_ins)), (a_g, .inr (5, [.ref a_r, .ref a_g_known])), (a_g_known, .inl (c_g_known, 3691, .inl e89.2))] → va_S A s.heap H locs → lv_has ls 10 [(0, .ref a_g), (3, .int p3), (8, .int e89.1)] → Z H locs 0 0 (F0 m 139 ls []) := by
                intro H locs ls hP hD hS hl
                refine hZv ?_
                refine lv_aload_n hx hb dX5_makerWins_139 rfl (lv_at hl 0 rfl) ?_
                refine va_get (D := (dC, dI)) (ci := 5) (v := .ref a_g_known) (C := RX5) (T := TX5) (N := 2) hx hb hts hiX5 hown hK hP 2 rfl rfl 1 (by decide) hf15 (fun _ h9 => h9) rfl dX5_makerWins_140 ?_
                refine lv_iload_n hx hb dX5_makerWins_143 rfl (lv_at hl 1 rfl) ?_
                refine lv_bipush (v := 16) hx hb dX5_makerWins_144 (by decide) ?_
                refine lv_idiv hx hb dX5_makerWins_146 (by decide) ?_
                refine lv_dup2_11 hx hb dX5_makerWins_147 rfl rfl ?_
                obtain ⟨hg9, hs⟩ := gd_s hs
                refine va_iald hx hb hK hP 3 1 rfl rfl hg9 dX5_makerWins_148 ?_
                refine lv_iload hx hb dX5_makerWins_149 (lv_at hl 2 rfl) ?_
                obtain ⟨t159, hq159, hs⟩ := bd_s hs
                have hJ159 : ∀ (H : Heap) (locs : List Loc) (ls : Array Slot), va_P (dC, dI) vwCl [(a_r, .inr (6, [.ref a_r_rows, .ref a_r_ins, .int r_size, .int r_n, .int r_parts])), (a_r_ins, .inl (c_r_ins, 1024, .inl r_ins)), (a_g, .inr (5, [.ref a_r, .ref a_g_known])), (a_g_known, .inl (c_g_known, 3691, .inl e89.2))] H → va_D A [(a_r, .inr (6, [.ref a_r_rows, .ref a_r_ins, .int r_size, .int r_n, .int r_parts])), (a_r_ins, .inl (c_r_ins, 1024, .inl r_ins)), (a_g, .inr (5, [.ref a_r, .ref a_g_known])), (a_g_known, .inl (c_g_known, 3691, .inl e89.2))] → va_S A s.heap H locs → lv_has ls 10 [(3, .int p3), (8, .int e89.1)] → Z H locs 0 0 (F0 m 159 ls [.int t159, .int (e89.2 (p3 / 16).toNatClampNeg), .int (p3 / 16), .ref a_g_known]) := by
                  intro H locs ls hP hD hS hl
                  refine hZv ?_
                  refine lv_iload_n hx hb dX5_makerWins_159 rfl (lv_at hl 0 rfl) ?_
                  obtain ⟨r10, hr10, hs⟩ := bd_s hs
                  refine kc_i (isC := []) (isR := [0, 1, 2, 3]) (pm := [0, 1, 2, 3]) (wr := [(a_r, .inr (6, [.ref a_r_rows, .ref a_r_ins, .int r_size, .int r_n, .int r_parts])), (a_r_ins, .inl (c_r_ins, 1024, .inl r_ins)), (a_g, .inr (5, [.ref a_r, .ref a_g_known])), (a_g_known, .inl (c_g_known, 3691, .inl e89.2))]) (w1 := []) (w2 := [(a_r, .inr (6, [.ref a_r_rows, .ref a_r_ins, .int r_size, .int r_n, .int r_parts])), (a_r_ins, .inl (c_r_ins, 1024, .inl r_ins)), (a_g, .inr (5, [.ref a_r, .ref a_g_known])), (a_g_known, .inl (c_g_known, 3691, .inl e89.2))]) (va_runS (As := [.int p3]) (rest := [.int t159, .int (e89.2 (p3 / 16).toNatClampNeg), .int (p3 / 16), .ref a_g_known]) ⟨hx, hb, hml, hown, hts⟩ (c_X5_shiftOf l dC dI H.size p3 r10 hr10) (va_cwS 1 hts gX5_makerWins_X5_shiftOf rfl rfl rfl (by decide +kernel) ⟨by show 0 + 1 ≤ 3 + 2 * (d + 1); omega, by show 8 + (1 + 11) + (0) ≤ 77 + 56 * (d + 1); omega⟩) (kp_S hK hP hD hS hA hN (isC := []) (isT := []) (wc := []) rfl (by decide +kernel) rfl) rfl rfl hl.1 rfl (lv_room (Nat.le_of_ble_eq_true rfl)) dX5_makerWins_160 ⟨Nat.le_of_ble_eq_true rfl, Nat.le_of_ble_eq_true rfl⟩) hP hD hS hA rfl rfl (by decide +kernel) (by decide +kernel) rfl (by decide +kernel) (fun H locs hP hD hS => ?_)
                  refine lv_ishl hx hb dX5_makerWins_163 ?_
                  refine lv_ior hx hb dX5_makerWins_164 ?_
                  obtain ⟨hg11, hs⟩ := gd_s hs
                  refine va_iast hx hb hK hP hD hS 3 1 rfl rfl hg11 dX5_makerWins_165 (fun H locs hP hD hS => ?_)
                  have hP : va_P (dC, dI) vwCl [(a_r, .inr (6, [.ref a_r_rows, .ref a_r_ins, .int r_size, .int r_n, .int r_parts])), (a_r_ins, .inl (c_r_ins, 1024, .inl r_ins)), (a_g, .inr (5, [.ref a_r, .ref a_g_known])), (a_g_known, .inl (c_g_known, 3691, .inl (upd e89.2 (p3 / 16).toNatClampNeg ((e89.2 (p3 / 16).toNatClampNeg) ||| (t159 <<< (r10 &&& 31))))))] H := hP
                  have hD : va_D A [(a_r, .inr (6, [.ref a_r_rows, .ref a_r_ins, .int r_size, .int r_n, .int r_parts])), (a_r_ins, .inl (c_r_ins, 1024, .inl r_ins)), (a_g, .inr (5, [.ref a_r, .ref a_g_known])), (a_g_known, .inl (c_g_known, 3691, .inl (upd e89.2 (p3 / 16).toNatClampNeg ((e89.2 (p3 / 16).toNatClampNeg) ||| (t159 <<< (r10 &&& 31))))))] := hD
                  refine lv_iload hx hb dX5_makerWins_166 (lv_at hl 1 rfl) ?_
                  obtain ⟨hb12, hs⟩ := gd_s hs
                  replace hs := Option.some.inj hs
                  subst hs
                  exact W.zret (v := e89.1) (ty := .boolean) hx hb hr hb12 (fun t ht hW => ⟨⟨e89.1, (), rfl, rfl, by rw [ht]; exact hP, va_K.moved hW.alike hK, hD⟩, hS.F ht⟩) hS.2.2 dX5_makerWins_168
                clear hs
                have hs := hq159
                refine lv_if_eq (tgt := 158) hx hb dX5_makerWins_151 (by decide) (fun hc => ?_) (fun hc => ?_)
                · replace hs := it_t hc hs
                  refine lv_iconst (v := 2) hx hb dX5_makerWins_158 (by decide) ?_
                  replace hs := Option.some.inj hs
                  subst hs
                  exact hZw (hJ159 H locs ls hP hD hS (lv_sub hl [1, 2] rfl))
                · replace hs := it_f hc hs
                  refine lv_iconst (v := 3) hx hb dX5_makerWins_154 (by decide) ?_
                  refine lv_goto (tgt := 159) hx hb dX5_makerWins_155 (by decide) ?_
                  replace hs := Option.some.inj hs
                  subst hs
                  exact hZw (hJ159 H locs ls hP hD hS (lv_sub hl [1, 2] rfl))
              clear hs
              have hL89 : ∀ (n : Nat) (s89 : Int32 × Int32 × (Nat → Int32)) (H : Heap) (locs : List Loc) (ls : Array Slot), itr (pX5_makerWins_L89 r_n r_parts r_ins p1 p2 p3 p4 p5 (pX5_makerWinsAfter_B (pX5_makerWins d)) r5) n s89 = some e89 → va_P (dC, dI) vwCl [(a_r, .inr (6, [.ref a_r_rows, .ref a_r_ins, .int r_size, .int r_n, .int r_parts])), (a_r_ins, .inl (c_r_ins, 1024, .inl r_ins)), (a_g, .inr (5, [.ref a_r, .ref a_g_known])), (a_g_known, .inl (c_g_known, 3691, .inl s89.2.2))] H → va_D A [(a_r, .inr (6, [.ref a_r_rows, .ref a_r_ins, .int r_size, .int r_n, .int r_parts])), (a_r_ins, .inl (c_r_ins, 1024, .inl r_ins)), (a_g, .inr (5, [.ref a_r, .ref a_g_known])), (a_g_known, .inl (c_g_known, 3691, .inl s89.2.2))] → va_S A s.heap H locs → lv_has ls 10 [(0, .ref a_g), (1, .int p1), (2, .int p2), (3, .int p3), (4, .int p4), (5, .int p5), (7, .int r5), (8, .int s89.1), (9, .int s89.2.1)] → Z H locs 0 0 (F0 m 89 ls []) := by
                intro n
                induction n with
                | zero =>
                  intro s89 H locs ls hn
                  exact (itr_0 hn).elim
                | succ n ih =>
                  intro s89 H locs ls hn hP hD hS hl
                  obtain ⟨y6, hs, hn⟩ := itr_s hn
                  unfold pX5_makerWins_L89 at hs
                  refine hZv ?_
                  refine lv_iload hx hb dX5_makerWins_89 (lv_at hl 8 rfl) ?_
                  refine lv_aload_n hx hb dX5_makerWins_91 rfl (lv_at hl 0 rfl) ?_
                  refine va_get (D := (dC, dI)) (ci := 5) (v := .ref a_r) (C := RX5) (T := TX5) (N := 2) hx hb hts hiX5 hown hK hP 2 rfl rfl 0 (by decide) hf9 (fun _ h9 => h9) rfl dX5_makerWins_92 ?_
                  refine va_get (D := (dC, dI)) (ci := 6) (v := .int r_n) (C := RX6) (T := TX6) (N := 5) hx hb hts hiX6 hown hK hP 0 rfl rfl 3 (by decide) hf25 (fun _ h9 => h9) rfl dX5_makerWins_95 ?_
                  refine lv_icmp_ge (tgt := 139) hx hb dX5_makerWins_98 (by decide) (fun hc => ?_) (fun hc => ?_)
                  · replace hs := it_t hc hs
                    replace hs := Option.some.inj hs
                    subst hs
                    obtain rfl : (s89.1, s89.2.2) = e89 := hn
                    exact hZw (hX89 H locs ls hP hD hS (lv_sub hl [0, 3, 7] rfl))
                  · replace hs := it_f hc hs
                    refine lv_iload hx hb dX5_makerWins_101 (lv_at hl 7 rfl) ?_
                    refine lv_iload hx hb dX5_makerWins_103 (lv_at hl 4 rfl) ?_
                    refine lv_icmp_eq (tgt := 139) hx hb dX5_makerWins_105 (by decide) (fun hc => ?_) (fun hc => ?_)
                    · replace hs := it_t hc hs
                      replace hs := Option.some.inj hs
                      subst hs
                      obtain rfl : (s89.1, s89.2.2) = e89 := hn
                      exact hZw (hX89 H locs ls hP hD hS (lv_sub hl [0, 3, 7] rfl))
                    · replace hs := it_f hc hs
                      refine lv_iload hx hb dX5_makerWins_108 (lv_at hl 6 rfl) ?_
                      refine lv_iload hx hb dX5_makerWins_110 (lv_at hl 8 rfl) ?_
                      obtain ⟨r7, hr7, hs⟩ := bd_s hs
                      refine kc_i (isC := []) (isR := [0, 1, 2, 3]) (pm := [0, 1, 2, 3]) (wr := [(a_r, .inr (6, [.ref a_r_rows, .ref a_r_ins, .int r_size, .int r_n, .int r_parts])), (a_r_ins, .inl (c_r_ins, 1024, .inl r_ins)), (a_g, .inr (5, [.ref a_r, .ref a_g_known])), (a_g_known, .inl (c_g_known, 3691, .inl s89.2.2))]) (w1 := []) (w2 := [(a_r, .inr (6, [.ref a_r_rows, .ref a_r_ins, .int r_size, .int r_n, .int r_parts])), (a_r_ins, .inl (c_r_ins, 1024, .inl r_ins)), (a_g, .inr (5, [.ref a_r, .ref a_g_known])), (a_g_known, .inl (c_g_known, 3691, .inl s89.2.2))]) (va_runSN (As := [.int r5, .int s89.2.1]) (rest := []) ⟨hx, hb, hml, hown, hts⟩ (c_X9_has l dC dI H.size r5 s89.2.1 r7 hr7) ⟨va_cnB 2 hts gX5_makerWins_X9_has_n57 rfl rfl rfl hN.1.2.2.2.1 (hts (.initialized RX9) (t1_ (al_ (al_ (ar_ h1_))))) (by decide +kernel) ⟨by show 0 + 1 ≤ 3 + 2 * (d + 1); omega, by show 8 + (2 + 11) + (0) ≤ 77 + 56 * (d + 1); omega⟩, hts (.static yX9_has) (t1_ (al_ (al_ (al_ (t16_ (t4_ (t1_ (t1_ (t1_ h1_))))))))), trivial⟩ (kp_S hK hP hD hS hA hN (isC := []) (isT := []) (wc := []) rfl (by decide +kernel) rfl) rfl rfl hl.1 rfl (lv_room (Nat.le_of_ble_eq_true rfl)) dX5_makerWins_112 ⟨Nat.le_of_ble_eq_true rfl, Nat.le_of_ble_eq_true rfl⟩) hP hD hS hA rfl rfl (by decide +kernel) (by decide +kernel) rfl (by decide +kernel) (fun H locs hP hD hS => ?_)
                      refine lv_if_eq (tgt := 133) hx hb dX5_makerWins_115 (by decide) (fun hc => ?_) (fun hc => ?_)
                      · replace hs := it_t hc hs
                        refine lv_iinc (v := s89.2.1 + 1) (lv' := [(9, .int (s89.2.1 + 1)), (0, .ref a_g), (1, .int p1), (2, .int p2), (3, .int p3), (4, .int p4), (5, .int p5), (7, .int r5), (8, .int s89.1)]) hx hb dX5_makerWins_133 hl (k := 8) rfl (by rfl) (by decide) rfl (fun ls hl => ?_)
                        refine lv_goto (tgt := 89) hx hb dX5_makerWins_136 (by decide) ?_
                        replace hs := Option.some.inj hs
                        subst hs
                        exact hZw (ih (s89.1, s89.2.1 + 1, s89.2.2) H locs ls hn hP hD hS (lv_sub hl [1, 2, 3, 4, 5, 6, 7, 8, 0] rfl))
                      · replace hs := it_f hc hs
                        refine lv_aload_n hx hb dX5_makerWins_118 rfl (lv_at hl 0 rfl) ?_
                        refine lv_iload hx hb dX5_makerWins_119 (lv_at hl 8 rfl) ?_
                        refine lv_iload_n hx hb dX5_makerWins_121 rfl (lv_at hl 1 rfl) ?_
                        refine lv_iload_n hx hb dX5_makerWins_122 rfl (lv_at hl 2 rfl) ?_
                        refine lv_iload_n hx hb dX5_makerWins_123 rfl (lv_at hl 3 rfl) ?_
                        refine lv_iload hx hb dX5_makerWins_124 (lv_at hl 4 rfl) ?_
                        refine lv_iload hx hb dX5_makerWins_126 (lv_at hl 5 rfl) ?_
                        obtain ⟨r8, hr8, hs⟩ := bd_s hs
                        refine kc_i (isC := [0, 1, 2, 3]) (isR := []) (pm := [0, 1, 2, 3]) (wr := []) (w1 := [(a_r, .inr (6, [.ref a_r_rows, .ref a_r_ins, .int r_size, .int r_n, .int r_parts])), (a_r_ins, .inl (c_r_ins, 1024, .inl r_ins)), (a_g, .inr (5, [.ref a_r, .ref a_g_known])), (a_g_known, .inl (c_g_known, 3691, .inl r8.2))]) (w2 := [(a_r, .inr (6, [.ref a_r_rows, .ref a_r_ins, .int r_size, .int r_n, .int r_parts])), (a_r_ins, .inl (c_r_ins, 1024, .inl r_ins)), (a_g, .inr (5, [.ref a_r, .ref a_g_known])), (a_g_known, .inl (c_g_known, 3691, .inl r8.2))]) (va_runV (As := [.int s89.2.1, .int p1, .int p2, .int p3, .int p4, .int p5]) (rest := []) ⟨hx, hb, hml, hown, hts⟩ (c_X5_makerWinsAfter_open d ihd l dC dI a_r a_r_rows a_r_ins a_g a_g_known c_r_ins c_g_known H.size r_size r_n r_parts r_ins s89.2.2 s89.2.1 p1 p2 p3 p4 p5 r8 hr8) (cwV 6 hts gX5_makerWins_X5_makerWinsAfter rfl rfl rfl (by decide +kernel) ⟨by show 3 + 2 * d + 1 + 1 ≤ 3 + 2 * (d + 1); omega, by show 8 + (8 + 11) + (77 + 56 * d + 29) ≤ 77 + 56 * (d + 1); omega⟩) (kp_V hK hP hD hS hA hN (isC := [0, 1, 2, 3]) (isT := [0, 1]) (wc := [(a_r, .inr (6, [.ref a_r_rows, .ref a_r_ins, .int r_size, .int r_n, .int r_parts])), (a_r_ins, .inl (c_r_ins, 1024, .inl r_ins)), (a_g, .inr (5, [.ref a_r, .ref a_g_known])), (a_g_known, .inl (c_g_known, 3691, .inl s89.2.2))]) rfl (by decide +kernel) rfl (ci := 5) (q0 := 2) rfl rfl) rfl rfl hl.1 rfl (lv_room (Nat.le_of_ble_eq_true rfl)) dX5_makerWins_128 ⟨Nat.le_of_ble_eq_true rfl, Nat.le_of_ble_eq_true rfl⟩) hP hD hS hA rfl rfl (by decide +kernel) (by decide +kernel) rfl (by decide +kernel) (fun H locs hP hD hS => ?_)
                        refine lv_istore (lv' := [(8, .int r8.1), (0, .ref a_g), (1, .int p1), (2, .int p2), (3, .int p3), (4, .int p4), (5, .int p5), (7, .int r5), (9, .int s89.2.1)]) hx hb dX5_makerWins_131 hl (by decide) rfl (fun ls hl => ?_)
                        refine lv_iinc (v := s89.2.1 + 1) (lv' := [(9, .int (s89.2.1 + 1)), (8, .int r8.1), (0, .ref a_g), (1, .int p1), (2, .int p2), (3, .int p3), (4, .int p4), (5, .int p5), (7, .int r5)]) hx hb dX5_makerWins_133 hl (k := 8) rfl (by rfl) (by decide) rfl (fun ls hl => ?_)
                        refine lv_goto (tgt := 89) hx hb dX5_makerWins_136 (by decide) ?_
                        replace hs := Option.some.inj hs
                        subst hs
                        exact hZw (ih (r8.1, s89.2.1 + 1, r8.2) H locs ls hn hP hD hS (lv_sub hl [2, 3, 4, 5, 6, 7, 8, 1, 0] rfl))
              obtain ⟨n89, hn89⟩ := lp_ex he89
              exact hZw (hL89 n89 (t84, 0, g_known) H locs ls hn89 hP hD hS (lv_sub hl [2, 3, 4, 5, 6, 7, 8, 1, 0] rfl))
            clear hs
            have hs := hq84
            refine lv_if_ne (tgt := 83) hx hb dX5_makerWins_76 (by decide) (fun hc => ?_) (fun hc => ?_)
            · replace hs := it_f hc hs
              refine lv_iconst (v := 0) hx hb dX5_makerWins_83 (by decide) ?_
              replace hs := Option.some.inj hs
              subst hs
              exact hZw (hJ84 H locs ls hP hD hS (lv_sub hl [2, 3, 4, 5, 6, 7, 0] rfl))
            · replace hs := it_t hc hs
              refine lv_iconst (v := 1) hx hb dX5_makerWins_79 (by decide) ?_
              refine lv_goto (tgt := 84) hx hb dX5_makerWins_80 (by decide) ?_
              replace hs := Option.some.inj hs
              subst hs
              exact hZw (hJ84 H locs ls hP hD hS (lv_sub hl [2, 3, 4, 5, 6, 7, 0] rfl))
          · replace hs := it_f hc hs
            refine lv_iload hx hb dX5_makerWins_54 (lv_at hl 0 rfl) ?_
            refine lv_iconst (v := 3) hx hb dX5_makerWins_56 (by decide) ?_
            refine lv_icmp_ne (tgt := 64) hx hb dX5_makerWins_57 (by decide) (fun hc => ?_) (fun hc => ?_)
            · replace hs := it_f hc hs
              refine lv_iconst (v := 0) hx hb dX5_makerWins_64 (by decide) ?_
              replace hs := Option.some.inj hs
              subst hs
              exact W.zret (v := 0) (ty := .boolean) hx hb hr rfl (fun t ht hW => ⟨⟨0, (), rfl, rfl, by rw [ht]; exact hP, va_K.moved hW.alike hK, hD⟩, hS.F ht⟩) hS.2.2 dX5_makerWins_65
            · replace hs := it_t hc hs
              refine lv_iconst (v := 1) hx hb dX5_makerWins_60 (by decide) ?_
              refine lv_goto (tgt := 65) hx hb dX5_makerWins_61 (by decide) ?_
              replace hs := Option.some.inj hs
              subst hs
              exact W.zret (v := 1) (ty := .boolean) hx hb hr rfl (fun t ht hW => ⟨⟨1, (), rfl, rfl, by rw [ht]; exact hP, va_K.moved hW.alike hK, hD⟩, hS.F ht⟩) hS.2.2 dX5_makerWins_65
        · replace hs := it_f hc hs
          refine lv_iconst (v := 0) hx hb dX5_makerWins_29 (by decide) ?_
          replace hs := Option.some.inj hs
          subst hs
          exact W.zret (v := 0) (ty := .boolean) hx hb hr rfl (fun t ht hW => ⟨⟨0, (), rfl, rfl, by rw [ht]; exact hP, va_K.moved hW.alike hK, hD⟩, hS.F ht⟩) hS.2.2 dX5_makerWins_30
    · replace hs := it_f hc hs
      refine lv_iconst (v := 1) hx hb dX5_makerWins_11 (by decide) ?_
      replace hs := Option.some.inj hs
      subst hs
      exact W.zret (v := 1) (ty := .boolean) hx hb hr rfl (fun t ht hW => ⟨⟨1, (), rfl, rfl, by rw [ht]; exact hP, va_K.moved hW.alike hK, hD⟩, hS.F ht⟩) hS.2.2 dX5_makerWins_12
noncomputable def pX5_winningMove_L20 (r_n : Int32) (r_parts : Int32) (r_ins : Nat → Int32) (t17 : Int32) (s20 : Int32 × (Nat → Int32)) : Option ((Int32 × (Nat → Int32)) ⊕ ((Int32 × (Nat → Int32)) ⊕ (Nat → Int32))) :=
  if r_n ≤ s20.1 then (some (Sum.inr (Sum.inr s20.2))) else (Option.bind (pX5_makerWinsAfter_B (pX5_makerWins 12) r_n r_parts r_ins s20.2 s20.1 0 0 0 t17 r_n) (fun r3 => if r3.1 = t17 then (some (Sum.inr (Sum.inl (s20.1, r3.2)))) else (some (Sum.inl (s20.1 + 1, r3.2)))))
noncomputable def pX5_winningMove (r_n : Int32) (r_parts : Int32) (r_ins : Nat → Int32) (g_known : Nat → Int32) (p1 : Int32) : Option (Int32 × (Nat → Int32)) :=
  Option.bind (pJ7_fill_53178 3691 g_known 0) (fun r1 => Option.bind (if p1 = 0 then (some 1) else (some 0) : Option (Int32)) (fun t17 => Option.bind (lp (pX5_winningMove_L20 r_n r_parts r_ins t17) (0, r1)) (Sum.elim (fun e20_0 => some (e20_0.1, e20_0.2)) (fun e20_1 => some ((-1), e20_1)))))
set_option maxHeartbeats 4000000 in
set_option maxRecDepth 100000 in
theorem c_X5_winningMove (l : Launch) (dC : Nat → ClassId) (dI : Nat → Nat → Nat) (a_r : Nat) (a_r_rows : Nat) (a_r_ins : Nat) (a_g : Nat) (a_g_known : Nat) (c_r_ins c_g_known : ClassId) (sz : Nat) (r_size : Int32) (r_n : Int32) (r_parts : Int32) (r_ins : Nat → Int32) (g_known : Nat → Int32) (p1 : Int32) (rv : Int32 × (Nat → Int32)) (hs : pX5_winningMove r_n r_parts r_ins g_known p1 = some rv) : Met l yX5_winningMove wsX5_winningMove ({ frames := 29, cells := 0, slots := 0, locals := 805 }) (sPc [.ref a_g, .int p1] (dC, dI) [(c_r_ins, .int), (c_g_known, .int)] [(a_r, .inr (6, [.ref a_r_rows, .ref a_r_ins, .int r_size, .int r_n, .int r_parts])), (a_r_ins, .inl (c_r_ins, 1024, .inl r_ins)), (a_g, .inr (5, [.ref a_r, .ref a_g_known])), (a_g_known, .inl (c_g_known, 3691, .inl g_known))] sz) (va_Qi (fun (r : Int32) (_ : Unit) => r = rv.1) (sB (dC, dI) [(c_r_ins, .int), (c_g_known, .int)] (va_A [(a_r, .inr (6, [.ref a_r_rows, .ref a_r_ins, .int r_size, .int r_n, .int r_parts])), (a_r_ins, .inl (c_r_ins, 1024, .inl r_ins)), (a_g, .inr (5, [.ref a_r, .ref a_g_known])), (a_g_known, .inl (c_g_known, 3691, .inl g_known))] sz) [(a_r, .inr (6, [.ref a_r_rows, .ref a_r_ins, .int r_size, .int r_n, .int r_parts])), (a_r_ins, .inl (c_r_ins, 1024, .inl r_ins)), (a_g, .inr (5, [.ref a_r, .ref a_g_known])), (a_g_known, .inl (c_g_known, 3691, .inl rv.2))]) (va_A [(a_r, .inr (6, [.ref a_r_rows, .ref a_r_ins, .int r_size, .int r_n, .int r_parts])), (a_r_ins, .inl (c_r_ins, 1024, .inl r_ins)), (a_g, .inr (5, [.ref a_r, .ref a_g_known])), (a_g_known, .inl (c_g_known, 3691, .inl g_known))] sz)) 0 0 (va_A [(a_r, .inr (6, [.ref a_r_rows, .ref a_r_ins, .int r_size, .int r_n, .int r_parts])), (a_r_ins, .inl (c_r_ins, 1024, .inl r_ins)), (a_g, .inr (5, [.ref a_r, .ref a_g_known])), (a_g_known, .inl (c_g_known, 3691, .inl g_known))] sz) := by
  refine Met.ofW (cc := cX5_winningMove) (maxL := 4) (ret := (some .int)) (by decide) rfl ?_
  intro p e s m args below meth c s₁ B hml hv
  obtain ⟨rfl, hsz, hP, hK, hD0, hN⟩ := hv
  have hx := B.exec
  have hb := B.bytes
  have hr := B.returns
  have hts := atoms_spec (ws := wsX5_winningMove) B.pre
  have hown : s.vm.findClass RX5 = some m.cls := findClass_of_methodNamed B.named
  have hlocks := B.notSynchronized
  subst hsz
  have hD := hD0.self (sz := s.heap.size)
  generalize hAe : va_A [(a_r, .inr (6, [.ref a_r_rows, .ref a_r_ins, .int r_size, .int r_n, .int r_parts])), (a_r_ins, .inl (c_r_ins, 1024, .inl r_ins)), (a_g, .inr (5, [.ref a_r, .ref a_g_known])), (a_g_known, .inl (c_g_known, 3691, .inl g_known))] s.heap.size = A at hD hN ⊢
  have hA : ∀ q : Nat, s.heap.size ≤ q → A q := fun q h => by rw [← hAe]; exact Or.inr h
  have hS : va_S A s.heap s.heap [] := va_S.rf
  have hP : va_P (dC, dI) vwCl [(a_r, .inr (6, [.ref a_r_rows, .ref a_r_ins, .int r_size, .int r_n, .int r_parts])), (a_r_ins, .inl (c_r_ins, 1024, .inl r_ins)), (a_g, .inr (5, [.ref a_r, .ref a_g_known])), (a_g_known, .inl (c_g_known, 3691, .inl g_known))] s.heap := hP
  have hl := lv_entry ([.ref a_g, .int p1]) (n := 4) (Nat.le_of_ble_eq_true rfl)
  rw [lg_entry_eq]
  generalize (lg_sl ([.ref a_g, .int p1]) ++ List.replicate (4 - (lg_sl ([.ref a_g, .int p1])).length) Slot.unset).toArray = ls at hl ⊢
  have hl : lv_has ls 4 [(0, .ref a_g), (1, .int p1)] := hl
  have hiX5 : ∀ w ∈ wsX50, w ∈ wsX5_winningMove := fun _ h => List.mem_cons_of_mem _ (List.mem_append_left _ (List.mem_append_right _ h))
  have hf15 := hts (.fieldLink RX5 15 "MeetSets$Match" "known" "[I") (t1_ (al_ (al_ (al_ h1_))))
  have hf9 := hts (.fieldLink RX5 9 "MeetSets$Match" "list" "LMeetSets$SetRow;") (t1_ (al_ (al_ (al_ (t1_ h1_)))))
  have hiX6 : ∀ w ∈ wsX60, w ∈ wsX5_winningMove := fun _ h => List.mem_cons_of_mem _ (List.mem_append_right _ h)
  have hf25 := hts (.fieldLink RX5 25 "MeetSets$SetRow" "n" "I") (t1_ (al_ (al_ (al_ (t1_ (t1_ h1_))))))
  refine w_abs (fun Z hZv hZw => ?_)
  refine hZv ?_
  obtain ⟨H, hH⟩ : ∃ H, H = s.heap := ⟨_, rfl⟩
  obtain ⟨locs, hlo⟩ : ∃ L : List Loc, L = [] := ⟨_, rfl⟩
  rw [← hlo, ← hH]
  have hS : va_S A s.heap H locs := by rw [hlo, hH]; exact hS
  have hP : va_P (dC, dI) vwCl [(a_r, .inr (6, [.ref a_r_rows, .ref a_r_ins, .int r_size, .int r_n, .int r_parts])), (a_r_ins, .inl (c_r_ins, 1024, .inl r_ins)), (a_g, .inr (5, [.ref a_r, .ref a_g_known])), (a_g_known, .inl (c_g_known, 3691, .inl g_known))] H := by rw [hH]; exact hP
  clear hH hlo
  unfold pX5_winningMove at hs
  refine lv_aload_n hx hb dX5_winningMove_0 rfl (lv_at hl 0 rfl) ?_
  refine va_get (D := (dC, dI)) (ci := 5) (v := .ref a_g_known) (C := RX5) (T := TX5) (N := 2) hx hb hts hiX5 hown hK hP 2 rfl rfl 1 (by decide) hf15 (fun _ h9 => h9) rfl dX5_winningMove_1 ?_
  refine lv_iconst (v := 0) hx hb dX5_winningMove_4 (by decide) ?_
  obtain ⟨r1, hr1, hs⟩ := bd_s hs
  refine kc_v (isC := [3]) (isR := [0, 1, 2]) (pm := [0, 1, 2, 3]) (wr := [(a_r, .inr (6, [.ref a_r_rows, .ref a_r_ins, .int r_size, .int r_n, .int r_parts])), (a_r_ins, .inl (c_r_ins, 1024, .inl r_ins)), (a_g, .inr (5, [.ref a_r, .ref a_g_known]))]) (w1 := [(a_g_known, .inl (c_g_known, 3691, .inl r1))]) (w2 := [(a_r, .inr (6, [.ref a_r_rows, .ref a_r_ins, .int r_size, .int r_n, .int r_parts])), (a_r_ins, .inl (c_r_ins, 1024, .inl r_ins)), (a_g, .inr (5, [.ref a_r, .ref a_g_known])), (a_g_known, .inl (c_g_known, 3691, .inl r1))]) (va_runS (As := [.ref a_g_known, .int 0]) (rest := []) ⟨hx, hb, hml, hown, hts⟩ (c_J7_fill_53178 l dC dI a_g_known c_g_known 3691 H.size g_known 0 r1 hr1) (va_cwS 2 hts gX5_winningMove_J7_fill_53178 rfl rfl rfl (by decide +kernel) ⟨Nat.le_of_ble_eq_true rfl, Nat.le_of_ble_eq_true rfl⟩) (kp_S hK hP hD hS hA hN (isC := [3]) (isT := [1]) (wc := [(a_g_known, .inl (c_g_known, 3691, .inl g_known))]) rfl (by decide +kernel) rfl) rfl rfl hl.1 rfl (lv_room (Nat.le_of_ble_eq_true rfl)) dX5_winningMove_5 ⟨Nat.le_of_ble_eq_true rfl, Nat.le_of_ble_eq_true rfl⟩) hP hD hS hA rfl rfl (by decide +kernel) (by decide +kernel) rfl (by decide +kernel) (fun H locs hP hD hS => ?_)
  refine lv_iload_n hx hb dX5_winningMove_8 rfl (lv_at hl 1 rfl) ?_
  obtain ⟨t17, hq17, hs⟩ := bd_s hs
  have hJ17 : ∀ (H : Heap) (locs : List Loc) (ls : Array Slot), va_P (dC, dI) vwCl [(a_r, .inr (6, [.ref a_r_rows, .ref a_r_ins, .int r_size, .int r_n, .int r_parts])), (a_r_ins, .inl (c_r_ins, 1024, .inl r_ins)), (a_g, .inr (5, [.ref a_r, .ref a_g_known])), (a_g_known, .inl (c_g_known, 3691, .inl r1))] H → va_D A [(a_r, .inr (6, [.ref a_r_rows, .ref a_r_ins, .int r_size, .int r_n, .int r_parts])), (a_r_ins, .inl (c_r_ins, 1024, .inl r_ins)), (a_g, .inr (5, [.ref a_r, .ref a_g_known])), (a_g_known, .inl (c_g_known, 3691, .inl r1))] → va_S A s.heap H locs → lv_has ls 4 [(0, .ref a_g)] → Z H locs 0 0 (F0 m 17 ls [.int t17]) := by
    intro H locs ls hP hD hS hl
    refine hZv ?_
    refine lv_istore_n (lv' := [(2, .int t17), (0, .ref a_g)]) hx hb dX5_winningMove_17 rfl hl (by decide) rfl (fun ls hl => ?_)
    refine lv_iconst (v := 0) hx hb dX5_winningMove_18 (by decide) ?_
    refine lv_istore_n (lv' := [(3, .int 0), (2, .int t17), (0, .ref a_g)]) hx hb dX5_winningMove_19 rfl hl (by decide) rfl (fun ls hl => ?_)
    obtain ⟨e20, he20, hs⟩ := bd_s hs
    have hX20_0 : ∀ (e20_0 : Int32 × (Nat → Int32)), (Sum.inl e20_0) = e20 → ∀ (H : Heap) (locs : List Loc) (ls : Array Slot), va_P (dC, dI) vwCl [(a_r, .inr (6, [.ref a_r_rows, .ref a_r_ins, .int r_size, .int r_n, .int r_parts])), (a_r_ins, .inl (c_r_ins, 1024, .inl r_ins)), (a_g, .inr (5, [.ref a_r, .ref a_g_known])), (a_g_known, .inl (c_g_known, 3691, .inl e20_0.2))] H → va_D A [(a_r, .inr (6, [.ref a_r_rows, .ref a_r_ins, .int r_size, .int r_n, .int r_parts])), (a_r_ins, .inl (c_r_ins, 1024, .inl r_ins)), (a_g, .inr (5, [.ref a_r, .ref a_g_known])), (a_g_known, .inl (c_g_known, 3691, .inl e20_0.2))] → va_S A s.heap H locs → lv_has ls 4 [(3, .int e20_0.1)] → Z H locs 0 0 (F0 m 51 ls []) := by
      intro e20_0 he H locs ls hP hD hS hl
      subst he
      replace hs := sm_l hs
      refine hZv ?_
      refine lv_iload_n hx hb dX5_winningMove_51 rfl (lv_at hl 0 rfl) ?_
      replace hs := Option.some.inj hs
      subst hs
      exact W.iret (v := e20_0.1) hx hb hr (fun t ht hW => ⟨⟨e20_0.1, (), rfl, rfl, by rw [ht]; exact hP, va_K.moved hW.alike hK, hD⟩, hS.F ht⟩) hS.2.2 dX5_winningMove_52
    have hX20_1 : ∀ (e20_1 : Nat → Int32), (Sum.inr e20_1) = e20 → ∀ (H : Heap) (locs : List Loc) (ls : Array Slot), va_P (dC, dI) vwCl [(a_r, .inr (6, [.ref a_r_rows, .ref a_r_ins, .int r_size, .int r_n, .int r_parts])), (a_r_ins, .inl (c_r_ins, 1024, .inl r_ins)), (a_g, .inr (5, [.ref a_r, .ref a_g_known])), (a_g_known, .inl (c_g_known, 3691, .inl e20_1))] H → va_D A [(a_r, .inr (6, [.ref a_r_rows, .ref a_r_ins, .int r_size, .int r_n, .int r_parts])), (a_r_ins, .inl (c_r_ins, 1024, .inl r_ins)), (a_g, .inr (5, [.ref a_r, .ref a_g_known])), (a_g_known, .inl (c_g_known, 3691, .inl e20_1))] → va_S A s.heap H locs → lv_has ls 4 [] → Z H locs 0 0 (F0 m 59 ls []) := by
      intro e20_1 he H locs ls hP hD hS hl
      subst he
      replace hs := sm_r hs
      refine hZv ?_
      refine lv_iconst (v := (-1)) hx hb dX5_winningMove_59 (by decide) ?_
      replace hs := Option.some.inj hs
      subst hs
      exact W.iret (v := (-1)) hx hb hr (fun t ht hW => ⟨⟨(-1), (), rfl, rfl, by rw [ht]; exact hP, va_K.moved hW.alike hK, hD⟩, hS.F ht⟩) hS.2.2 dX5_winningMove_60
    clear hs
    have hL20 : ∀ (n : Nat) (s20 : Int32 × (Nat → Int32)) (H : Heap) (locs : List Loc) (ls : Array Slot), itr (pX5_winningMove_L20 r_n r_parts r_ins t17) n s20 = some e20 → va_P (dC, dI) vwCl [(a_r, .inr (6, [.ref a_r_rows, .ref a_r_ins, .int r_size, .int r_n, .int r_parts])), (a_r_ins, .inl (c_r_ins, 1024, .inl r_ins)), (a_g, .inr (5, [.ref a_r, .ref a_g_known])), (a_g_known, .inl (c_g_known, 3691, .inl s20.2))] H → va_D A [(a_r, .inr (6, [.ref a_r_rows, .ref a_r_ins, .int r_size, .int r_n, .int r_parts])), (a_r_ins, .inl (c_r_ins, 1024, .inl r_ins)), (a_g, .inr (5, [.ref a_r, .ref a_g_known])), (a_g_known, .inl (c_g_known, 3691, .inl s20.2))] → va_S A s.heap H locs → lv_has ls 4 [(0, .ref a_g), (2, .int t17), (3, .int s20.1)] → Z H locs 0 0 (F0 m 20 ls []) := by
      intro n
      induction n with
      | zero =>
        intro s20 H locs ls hn
        exact (itr_0 hn).elim
      | succ n ih =>
        intro s20 H locs ls hn hP hD hS hl
        obtain ⟨y2, hs, hn⟩ := itr_s hn
        unfold pX5_winningMove_L20 at hs
        refine hZv ?_
        refine lv_iload_n hx hb dX5_winningMove_20 rfl (lv_at hl 2 rfl) ?_
        refine lv_aload_n hx hb dX5_winningMove_21 rfl (lv_at hl 0 rfl) ?_
        refine va_get (D := (dC, dI)) (ci := 5) (v := .ref a_r) (C := RX5) (T := TX5) (N := 2) hx hb hts hiX5 hown hK hP 2 rfl rfl 0 (by decide) hf9 (fun _ h9 => h9) rfl dX5_winningMove_22 ?_
        refine va_get (D := (dC, dI)) (ci := 6) (v := .int r_n) (C := RX6) (T := TX6) (N := 5) hx hb hts hiX6 hown hK hP 0 rfl rfl 3 (by decide) hf25 (fun _ h9 => h9) rfl dX5_winningMove_25 ?_
        refine lv_icmp_ge (tgt := 59) hx hb dX5_winningMove_28 (by decide) (fun hc => ?_) (fun hc => ?_)
        · replace hs := it_t hc hs
          replace hs := Option.some.inj hs
          subst hs
          obtain rfl : (Sum.inr s20.2) = e20 := hn
          exact hZw (hX20_1 s20.2 rfl H locs ls hP hD hS (lv_sub hl [] rfl))
        · replace hs := it_f hc hs
          refine lv_aload_n hx hb dX5_winningMove_31 rfl (lv_at hl 0 rfl) ?_
          refine lv_iload_n hx hb dX5_winningMove_32 rfl (lv_at hl 2 rfl) ?_
          refine lv_iconst (v := 0) hx hb dX5_winningMove_33 (by decide) ?_
          refine lv_iconst (v := 0) hx hb dX5_winningMove_34 (by decide) ?_
          refine lv_iconst (v := 0) hx hb dX5_winningMove_35 (by decide) ?_
          refine lv_iload_n hx hb dX5_winningMove_36 rfl (lv_at hl 1 rfl) ?_
          refine lv_aload_n hx hb dX5_winningMove_37 rfl (lv_at hl 0 rfl) ?_
          refine va_get (D := (dC, dI)) (ci := 5) (v := .ref a_r) (C := RX5) (T := TX5) (N := 2) hx hb hts hiX5 hown hK hP 2 rfl rfl 0 (by decide) hf9 (fun _ h9 => h9) rfl dX5_winningMove_38 ?_
          refine va_get (D := (dC, dI)) (ci := 6) (v := .int r_n) (C := RX6) (T := TX6) (N := 5) hx hb hts hiX6 hown hK hP 0 rfl rfl 3 (by decide) hf25 (fun _ h9 => h9) rfl dX5_winningMove_41 ?_
          obtain ⟨r3, hr3, hs⟩ := bd_s hs
          refine kc_i (isC := [0, 1, 2, 3]) (isR := []) (pm := [0, 1, 2, 3]) (wr := []) (w1 := [(a_r, .inr (6, [.ref a_r_rows, .ref a_r_ins, .int r_size, .int r_n, .int r_parts])), (a_r_ins, .inl (c_r_ins, 1024, .inl r_ins)), (a_g, .inr (5, [.ref a_r, .ref a_g_known])), (a_g_known, .inl (c_g_known, 3691, .inl r3.2))]) (w2 := [(a_r, .inr (6, [.ref a_r_rows, .ref a_r_ins, .int r_size, .int r_n, .int r_parts])), (a_r_ins, .inl (c_r_ins, 1024, .inl r_ins)), (a_g, .inr (5, [.ref a_r, .ref a_g_known])), (a_g_known, .inl (c_g_known, 3691, .inl r3.2))]) (va_runV (As := [.int s20.1, .int 0, .int 0, .int 0, .int t17, .int r_n]) (rest := []) ⟨hx, hb, hml, hown, hts⟩ (c_X5_makerWinsAfter_open 12 (c_X5_makerWins 12) l dC dI a_r a_r_rows a_r_ins a_g a_g_known c_r_ins c_g_known H.size r_size r_n r_parts r_ins s20.2 s20.1 0 0 0 t17 r_n r3 hr3) (cwV 6 hts gX5_winningMove_X5_makerWinsAfter rfl rfl rfl (by decide +kernel) ⟨Nat.le_of_ble_eq_true rfl, Nat.le_of_ble_eq_true rfl⟩) (kp_V hK hP hD hS hA hN (isC := [0, 1, 2, 3]) (isT := [0, 1]) (wc := [(a_r, .inr (6, [.ref a_r_rows, .ref a_r_ins, .int r_size, .int r_n, .int r_parts])), (a_r_ins, .inl (c_r_ins, 1024, .inl r_ins)), (a_g, .inr (5, [.ref a_r, .ref a_g_known])), (a_g_known, .inl (c_g_known, 3691, .inl s20.2))]) rfl (by decide +kernel) rfl (ci := 5) (q0 := 2) rfl rfl) rfl rfl hl.1 rfl (lv_room (Nat.le_of_ble_eq_true rfl)) dX5_winningMove_44 ⟨Nat.le_of_ble_eq_true rfl, Nat.le_of_ble_eq_true rfl⟩) hP hD hS hA rfl rfl (by decide +kernel) (by decide +kernel) rfl (by decide +kernel) (fun H locs hP hD hS => ?_)
          refine lv_iload_n hx hb dX5_winningMove_47 rfl (lv_at hl 1 rfl) ?_
          refine lv_icmp_ne (tgt := 53) hx hb dX5_winningMove_48 (by decide) (fun hc => ?_) (fun hc => ?_)
          · replace hs := it_f hc hs
            refine lv_iinc (v := s20.1 + 1) (lv' := [(3, .int (s20.1 + 1)), (0, .ref a_g), (2, .int t17)]) hx hb dX5_winningMove_53 hl (k := 2) rfl (by rfl) (by decide) rfl (fun ls hl => ?_)
            refine lv_goto (tgt := 20) hx hb dX5_winningMove_56 (by decide) ?_
            replace hs := Option.some.inj hs
            subst hs
            exact hZw (ih (s20.1 + 1, r3.2) H locs ls hn hP hD hS (lv_sub hl [1, 2, 0] rfl))
          · replace hs := it_t hc hs
            replace hs := Option.some.inj hs
            subst hs
            obtain rfl : (Sum.inl (s20.1, r3.2)) = e20 := hn
            exact hZw (hX20_0 (s20.1, r3.2) rfl H locs ls hP hD hS (lv_sub hl [2] rfl))
    obtain ⟨n20, hn20⟩ := lp_ex he20
    exact hZw (hL20 n20 (0, r1) H locs ls hn20 hP hD hS (lv_sub hl [2, 1, 0] rfl))
  clear hs
  have hs := hq17
  refine lv_if_ne (tgt := 16) hx hb dX5_winningMove_9 (by decide) (fun hc => ?_) (fun hc => ?_)
  · replace hs := it_f hc hs
    refine lv_iconst (v := 0) hx hb dX5_winningMove_16 (by decide) ?_
    replace hs := Option.some.inj hs
    subst hs
    exact hZw (hJ17 H locs ls hP hD hS (lv_sub hl [0] rfl))
  · replace hs := it_t hc hs
    refine lv_iconst (v := 1) hx hb dX5_winningMove_12 (by decide) ?_
    refine lv_goto (tgt := 17) hx hb dX5_winningMove_13 (by decide) ?_
    replace hs := Option.some.inj hs
    subst hs
    exact hZw (hJ17 H locs ls hP hD hS (lv_sub hl [0] rfl))
