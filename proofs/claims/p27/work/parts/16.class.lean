noncomputable def pX9_isElement (r_n : Int32) (p1 : Int32) : Option (Int32) :=
  if p1 < 0 then (some 0) else (if r_n ≤ p1 then (some 0) else (some 1))
set_option maxHeartbeats 4000000 in
set_option maxRecDepth 100000 in
theorem c_X9_isElement (l : Launch) (dC : Nat → ClassId) (dI : Nat → Nat → Nat) (a_x : Nat) (a_x_costs : Nat) (a_r : Nat) (a_r_rows : Nat) (a_r_ins : Nat) (a_u : Nat) (a_q : Nat) (a_h : Nat) (a_f : Nat) (a_w : Nat) (a_o : Nat) (a_z : Nat) (a_g : Nat) (a_k : Nat) (sz : Nat) (r_size : Int32) (r_n : Int32) (r_parts : Int32) (p1 : Int32) (rv : Int32) (hs : pX9_isElement r_n p1 = some rv) : Met l yX9_isElement wsX9_isElement ({ frames := 0, cells := 0, slots := 0, locals := 0 }) (sPc [.ref a_x, .int p1] (dC, dI) [] [(a_x, .inr (9, [.ref a_x_costs, .ref a_r, .ref a_u, .ref a_q, .ref a_h, .ref a_f, .ref a_w, .ref a_o, .ref a_z, .ref a_g, .ref a_k])), (a_r, .inr (6, [.ref a_r_rows, .ref a_r_ins, .int r_size, .int r_n, .int r_parts]))] sz) (va_Qi (fun (r : Int32) (_ : Unit) => r = rv) (sB (dC, dI) [] (va_A [(a_x, .inr (9, [.ref a_x_costs, .ref a_r, .ref a_u, .ref a_q, .ref a_h, .ref a_f, .ref a_w, .ref a_o, .ref a_z, .ref a_g, .ref a_k])), (a_r, .inr (6, [.ref a_r_rows, .ref a_r_ins, .int r_size, .int r_n, .int r_parts]))] sz) [(a_x, .inr (9, [.ref a_x_costs, .ref a_r, .ref a_u, .ref a_q, .ref a_h, .ref a_f, .ref a_w, .ref a_o, .ref a_z, .ref a_g, .ref a_k])), (a_r, .inr (6, [.ref a_r_rows, .ref a_r_ins, .int r_size, .int r_n, .int r_parts]))]) (va_A [(a_x, .inr (9, [.ref a_x_costs, .ref a_r, .ref a_u, .ref a_q, .ref a_h, .ref a_f, .ref a_w, .ref a_o, .ref a_z, .ref a_g, .ref a_k])), (a_r, .inr (6, [.ref a_r_rows, .ref a_r_ins, .int r_size, .int r_n, .int r_parts]))] sz)) 0 0 (va_A [(a_x, .inr (9, [.ref a_x_costs, .ref a_r, .ref a_u, .ref a_q, .ref a_h, .ref a_f, .ref a_w, .ref a_o, .ref a_z, .ref a_g, .ref a_k])), (a_r, .inr (6, [.ref a_r_rows, .ref a_r_ins, .int r_size, .int r_n, .int r_parts]))] sz) := by
  refine Met.ofW (cc := cX9_isElement) (maxL := 2) (ret := (some .boolean)) (by decide) rfl ?_
  intro p e s m args below meth c s₁ B hml hv
  obtain ⟨rfl, hsz, hP, hK, hD0, hN⟩ := hv
  have hx := B.exec
  have hb := B.bytes
  have hr := B.returns
  have hts := atoms_spec (ws := wsX9_isElement) B.pre
  have hown : s.vm.findClass RX9 = some m.cls := findClass_of_methodNamed B.named
  have hlocks := B.notSynchronized
  subst hsz
  have hD := hD0.self (sz := s.heap.size)
  generalize hAe : va_A [(a_x, .inr (9, [.ref a_x_costs, .ref a_r, .ref a_u, .ref a_q, .ref a_h, .ref a_f, .ref a_w, .ref a_o, .ref a_z, .ref a_g, .ref a_k])), (a_r, .inr (6, [.ref a_r_rows, .ref a_r_ins, .int r_size, .int r_n, .int r_parts]))] s.heap.size = A at hD hN ⊢
  have hA : ∀ q : Nat, s.heap.size ≤ q → A q := fun q h => by rw [← hAe]; exact Or.inr h
  have hS : va_S A s.heap s.heap [] := va_S.rf
  have hP : va_P (dC, dI) vwCl [(a_x, .inr (9, [.ref a_x_costs, .ref a_r, .ref a_u, .ref a_q, .ref a_h, .ref a_f, .ref a_w, .ref a_o, .ref a_z, .ref a_g, .ref a_k])), (a_r, .inr (6, [.ref a_r_rows, .ref a_r_ins, .int r_size, .int r_n, .int r_parts]))] s.heap := hP
  have hl := lv_entry ([.ref a_x, .int p1]) (n := 2) (Nat.le_of_ble_eq_true rfl)
  rw [lg_entry_eq]
  generalize (lg_sl ([.ref a_x, .int p1]) ++ List.replicate (2 - (lg_sl ([.ref a_x, .int p1])).length) Slot.unset).toArray = ls at hl ⊢
  have hl : lv_has ls 2 [(0, .ref a_x), (1, .int p1)] := hl
  have hiX9 : ∀ w ∈ wsX90, w ∈ wsX9_isElement := fun _ h => List.mem_cons_of_mem _ (List.mem_append_left _ (List.mem_append_right _ h))
  have hf23 := hts (.fieldLink RX9 23 "MeetSets" "list" "LMeetSets$SetRow;") (t1_ (al_ (al_ h1_)))
  have hiX6 : ∀ w ∈ wsX60, w ∈ wsX9_isElement := fun _ h => List.mem_cons_of_mem _ (List.mem_append_right _ h)
  have hf138 := hts (.fieldLink RX9 138 "MeetSets$SetRow" "n" "I") (t1_ (al_ (al_ (t1_ h1_))))
  refine w_abs (fun Z hZv hZw => ?_)
  refine hZv ?_
  obtain ⟨H, hH⟩ : ∃ H, H = s.heap := ⟨_, rfl⟩
  obtain ⟨locs, hlo⟩ : ∃ L : List Loc, L = [] := ⟨_, rfl⟩
  rw [← hlo, ← hH]
  have hS : va_S A s.heap H locs := by rw [hlo, hH]; exact hS
  have hP : va_P (dC, dI) vwCl [(a_x, .inr (9, [.ref a_x_costs, .ref a_r, .ref a_u, .ref a_q, .ref a_h, .ref a_f, .ref a_w, .ref a_o, .ref a_z, .ref a_g, .ref a_k])), (a_r, .inr (6, [.ref a_r_rows, .ref a_r_ins, .int r_size, .int r_n, .int r_parts]))] H := by rw [hH]; exact hP
  clear hH hlo
  unfold pX9_isElement at hs
  refine lv_iload_n hx hb dX9_isElement_0 rfl (lv_at hl 1 rfl) ?_
  refine lv_if_lt (tgt := 19) hx hb dX9_isElement_1 (by decide) (fun hc => ?_) (fun hc => ?_)
  · replace hs := it_t hc hs
    refine lv_iconst (v := 0) hx hb dX9_isElement_19 (by decide) ?_
    replace hs := Option.some.inj hs
    subst hs
    exact W.zret (v := 0) (ty := .boolean) hx hb hr rfl (fun t ht hW => ⟨⟨0, (), rfl, rfl, by rw [ht]; exact hP, va_K.moved hW.alike hK, hD⟩, hS.F ht⟩) hS.2.2 dX9_isElement_20
  · replace hs := it_f hc hs
    refine lv_iload_n hx hb dX9_isElement_4 rfl (lv_at hl 1 rfl) ?_
    refine lv_aload_n hx hb dX9_isElement_5 rfl (lv_at hl 0 rfl) ?_
    refine va_get (D := (dC, dI)) (ci := 9) (v := .ref a_r) (C := RX9) (T := TX9) (N := 11) hx hb hts hiX9 hown hK hP 0 rfl rfl 1 (by decide) hf23 (fun _ h9 => h9) rfl dX9_isElement_6 ?_
    refine va_get (D := (dC, dI)) (ci := 6) (v := .int r_n) (C := RX6) (T := TX6) (N := 5) hx hb hts hiX6 hown hK hP 1 rfl rfl 3 (by decide) hf138 (fun _ h9 => h9) rfl dX9_isElement_9 ?_
    refine lv_icmp_ge (tgt := 19) hx hb dX9_isElement_12 (by decide) (fun hc => ?_) (fun hc => ?_)
    · replace hs := it_t hc hs
      refine lv_iconst (v := 0) hx hb dX9_isElement_19 (by decide) ?_
      replace hs := Option.some.inj hs
      subst hs
      exact W.zret (v := 0) (ty := .boolean) hx hb hr rfl (fun t ht hW => ⟨⟨0, (), rfl, rfl, by rw [ht]; exact hP, va_K.moved hW.alike hK, hD⟩, hS.F ht⟩) hS.2.2 dX9_isElement_20
    · replace hs := it_f hc hs
      refine lv_iconst (v := 1) hx hb dX9_isElement_15 (by decide) ?_
      refine lv_goto (tgt := 20) hx hb dX9_isElement_16 (by decide) ?_
      replace hs := Option.some.inj hs
      subst hs
      exact W.zret (v := 1) (ty := .boolean) hx hb hr rfl (fun t ht hW => ⟨⟨1, (), rfl, rfl, by rw [ht]; exact hP, va_K.moved hW.alike hK, hD⟩, hS.F ht⟩) hS.2.2 dX9_isElement_20
noncomputable def pX9_priceOf_L4 (x_costs : Nat → Int32) (r_n : Int32) (p1 : Int32) (s4 : Int32 × Int32) : Option ((Int32 × Int32) ⊕ (Int32)) :=
  if r_n ≤ s4.2 then (some (Sum.inr s4.1)) else (Option.bind (pX9_has p1 s4.2) (fun r2 => if r2 = 0 then (some (Sum.inl (s4.1, s4.2 + 1))) else (gd (vp_in s4.2 10) (some (Sum.inl (s4.1 + (x_costs s4.2.toNatClampNeg), s4.2 + 1))))))
noncomputable def pX9_priceOf (x_costs : Nat → Int32) (r_n : Int32) (p1 : Int32) : Option (Int32) :=
  Option.bind (lp (pX9_priceOf_L4 x_costs r_n p1) (0, 0)) (fun e4 => some e4)
set_option maxHeartbeats 4000000 in
set_option maxRecDepth 100000 in
theorem c_X9_priceOf (l : Launch) (dC : Nat → ClassId) (dI : Nat → Nat → Nat) (a_x : Nat) (a_x_costs : Nat) (a_r : Nat) (a_r_rows : Nat) (a_r_ins : Nat) (a_u : Nat) (a_q : Nat) (a_h : Nat) (a_f : Nat) (a_w : Nat) (a_o : Nat) (a_z : Nat) (a_g : Nat) (a_k : Nat) (c_x_costs : ClassId) (sz : Nat) (x_costs : Nat → Int32) (r_size : Int32) (r_n : Int32) (r_parts : Int32) (p1 : Int32) (rv : Int32) (hs : pX9_priceOf x_costs r_n p1 = some rv) : Met l yX9_priceOf wsX9_priceOf ({ frames := 1, cells := 0, slots := 0, locals := 21 }) (sPc [.ref a_x, .int p1] (dC, dI) [(c_x_costs, .int)] [(a_x, .inr (9, [.ref a_x_costs, .ref a_r, .ref a_u, .ref a_q, .ref a_h, .ref a_f, .ref a_w, .ref a_o, .ref a_z, .ref a_g, .ref a_k])), (a_x_costs, .inl (c_x_costs, 10, .inl x_costs)), (a_r, .inr (6, [.ref a_r_rows, .ref a_r_ins, .int r_size, .int r_n, .int r_parts]))] sz) (va_Qi (fun (r : Int32) (_ : Unit) => r = rv) (sB (dC, dI) [(c_x_costs, .int)] (va_A [(a_x, .inr (9, [.ref a_x_costs, .ref a_r, .ref a_u, .ref a_q, .ref a_h, .ref a_f, .ref a_w, .ref a_o, .ref a_z, .ref a_g, .ref a_k])), (a_x_costs, .inl (c_x_costs, 10, .inl x_costs)), (a_r, .inr (6, [.ref a_r_rows, .ref a_r_ins, .int r_size, .int r_n, .int r_parts]))] sz) [(a_x, .inr (9, [.ref a_x_costs, .ref a_r, .ref a_u, .ref a_q, .ref a_h, .ref a_f, .ref a_w, .ref a_o, .ref a_z, .ref a_g, .ref a_k])), (a_x_costs, .inl (c_x_costs, 10, .inl x_costs)), (a_r, .inr (6, [.ref a_r_rows, .ref a_r_ins, .int r_size, .int r_n, .int r_parts]))]) (va_A [(a_x, .inr (9, [.ref a_x_costs, .ref a_r, .ref a_u, .ref a_q, .ref a_h, .ref a_f, .ref a_w, .ref a_o, .ref a_z, .ref a_g, .ref a_k])), (a_x_costs, .inl (c_x_costs, 10, .inl x_costs)), (a_r, .inr (6, [.ref a_r_rows, .ref a_r_ins, .int r_size, .int r_n, .int r_parts]))] sz)) 0 0 (va_A [(a_x, .inr (9, [.ref a_x_costs, .ref a_r, .ref a_u, .ref a_q, .ref a_h, .ref a_f, .ref a_w, .ref a_o, .ref a_z, .ref a_g, .ref a_k])), (a_x_costs, .inl (c_x_costs, 10, .inl x_costs)), (a_r, .inr (6, [.ref a_r_rows, .ref a_r_ins, .int r_size, .int r_n, .int r_parts]))] sz) := by
  refine Met.ofW (cc := cX9_priceOf) (maxL := 4) (ret := (some .int)) (by decide) rfl ?_
  intro p e s m args below meth c s₁ B hml hv
  obtain ⟨rfl, hsz, hP, hK, hD0, hN⟩ := hv
  have hx := B.exec
  have hb := B.bytes
  have hr := B.returns
  have hts := atoms_spec (ws := wsX9_priceOf) B.pre
  have hown : s.vm.findClass RX9 = some m.cls := findClass_of_methodNamed B.named
  have hlocks := B.notSynchronized
  subst hsz
  have hD := hD0.self (sz := s.heap.size)
  generalize hAe : va_A [(a_x, .inr (9, [.ref a_x_costs, .ref a_r, .ref a_u, .ref a_q, .ref a_h, .ref a_f, .ref a_w, .ref a_o, .ref a_z, .ref a_g, .ref a_k])), (a_x_costs, .inl (c_x_costs, 10, .inl x_costs)), (a_r, .inr (6, [.ref a_r_rows, .ref a_r_ins, .int r_size, .int r_n, .int r_parts]))] s.heap.size = A at hD hN ⊢
  have hA : ∀ q : Nat, s.heap.size ≤ q → A q := fun q h => by rw [← hAe]; exact Or.inr h
  have hS : va_S A s.heap s.heap [] := va_S.rf
  have hP : va_P (dC, dI) vwCl [(a_x, .inr (9, [.ref a_x_costs, .ref a_r, .ref a_u, .ref a_q, .ref a_h, .ref a_f, .ref a_w, .ref a_o, .ref a_z, .ref a_g, .ref a_k])), (a_x_costs, .inl (c_x_costs, 10, .inl x_costs)), (a_r, .inr (6, [.ref a_r_rows, .ref a_r_ins, .int r_size, .int r_n, .int r_parts]))] s.heap := hP
  have hl := lv_entry ([.ref a_x, .int p1]) (n := 4) (Nat.le_of_ble_eq_true rfl)
  rw [lg_entry_eq]
  generalize (lg_sl ([.ref a_x, .int p1]) ++ List.replicate (4 - (lg_sl ([.ref a_x, .int p1])).length) Slot.unset).toArray = ls at hl ⊢
  have hl : lv_has ls 4 [(0, .ref a_x), (1, .int p1)] := hl
  have hiX9 : ∀ w ∈ wsX90, w ∈ wsX9_priceOf := fun _ h => List.mem_cons_of_mem _ (List.mem_append_left _ (List.mem_append_right _ h))
  have hf23 := hts (.fieldLink RX9 23 "MeetSets" "list" "LMeetSets$SetRow;") (t1_ (al_ (al_ h1_)))
  have hiX6 : ∀ w ∈ wsX60, w ∈ wsX9_priceOf := fun _ h => List.mem_cons_of_mem _ (List.mem_append_right _ h)
  have hf138 := hts (.fieldLink RX9 138 "MeetSets$SetRow" "n" "I") (t1_ (al_ (al_ (t1_ h1_))))
  have hf9 := hts (.fieldLink RX9 9 "MeetSets" "costs" "[I") (t1_ (al_ (al_ (t1_ (t1_ h1_)))))
  refine w_abs (fun Z hZv hZw => ?_)
  refine hZv ?_
  obtain ⟨H, hH⟩ : ∃ H, H = s.heap := ⟨_, rfl⟩
  obtain ⟨locs, hlo⟩ : ∃ L : List Loc, L = [] := ⟨_, rfl⟩
  rw [← hlo, ← hH]
  have hS : va_S A s.heap H locs := by rw [hlo, hH]; exact hS
  have hP : va_P (dC, dI) vwCl [(a_x, .inr (9, [.ref a_x_costs, .ref a_r, .ref a_u, .ref a_q, .ref a_h, .ref a_f, .ref a_w, .ref a_o, .ref a_z, .ref a_g, .ref a_k])), (a_x_costs, .inl (c_x_costs, 10, .inl x_costs)), (a_r, .inr (6, [.ref a_r_rows, .ref a_r_ins, .int r_size, .int r_n, .int r_parts]))] H := by rw [hH]; exact hP
  clear hH hlo
  unfold pX9_priceOf at hs
  refine lv_iconst (v := 0) hx hb dX9_priceOf_0 (by decide) ?_
  refine lv_istore_n (lv' := [(2, .int 0), (0, .ref a_x), (1, .int p1)]) hx hb dX9_priceOf_1 rfl hl (by decide) rfl (fun ls hl => ?_)
  refine lv_iconst (v := 0) hx hb dX9_priceOf_2 (by decide) ?_
  refine lv_istore_n (lv' := [(3, .int 0), (2, .int 0), (0, .ref a_x), (1, .int p1)]) hx hb dX9_priceOf_3 rfl hl (by decide) rfl (fun ls hl => ?_)
  obtain ⟨e4, he4, hs⟩ := bd_s hs
  have hX4 : ∀ (H : Heap) (locs : List Loc) (ls : Array Slot), va_P (dC, dI) vwCl [(a_x, .inr (9, [.ref a_x_costs, .ref a_r, .ref a_u, .ref a_q, .ref a_h, .ref a_f, .ref a_w, .ref a_o, .ref a_z, .ref a_g, .ref a_k])), (a_x_costs, .inl (c_x_costs, 10, .inl x_costs)), (a_r, .inr (6, [.ref a_r_rows, .ref a_r_ins, .int r_size, .int r_n, .int r_parts]))] H → va_D A [(a_x, .inr (9, [.ref a_x_costs, .ref a_r, .ref a_u, .ref a_q, .ref a_h, .ref a_f, .ref a_w, .ref a_o, .ref a_z, .ref a_g, .ref a_k])), (a_x_costs, .inl (c_x_costs, 10, .inl x_costs)), (a_r, .inr (6, [.ref a_r_rows, .ref a_r_ins, .int r_size, .int r_n, .int r_parts]))] → va_S A s.heap H locs → lv_has ls 4 [(2, .int e4)] → Z H locs 0 0 (F0 m 38 ls []) := by
    intro H locs ls hP hD hS hl
    refine hZv ?_
    refine lv_iload_n hx hb dX9_priceOf_38 rfl (lv_at hl 0 rfl) ?_
    replace hs := Option.some.inj hs
    subst hs
    exact W.iret (v := e4) hx hb hr (fun t ht hW => ⟨⟨e4, (), rfl, rfl, by rw [ht]; exact hP, va_K.moved hW.alike hK, hD⟩, hS.F ht⟩) hS.2.2 dX9_priceOf_39
  clear hs
  have hL4 : ∀ (n : Nat) (s4 : Int32 × Int32) (H : Heap) (locs : List Loc) (ls : Array Slot), itr (pX9_priceOf_L4 x_costs r_n p1) n s4 = some e4 → va_P (dC, dI) vwCl [(a_x, .inr (9, [.ref a_x_costs, .ref a_r, .ref a_u, .ref a_q, .ref a_h, .ref a_f, .ref a_w, .ref a_o, .ref a_z, .ref a_g, .ref a_k])), (a_x_costs, .inl (c_x_costs, 10, .inl x_costs)), (a_r, .inr (6, [.ref a_r_rows, .ref a_r_ins, .int r_size, .int r_n, .int r_parts]))] H → va_D A [(a_x, .inr (9, [.ref a_x_costs, .ref a_r, .ref a_u, .ref a_q, .ref a_h, .ref a_f, .ref a_w, .ref a_o, .ref a_z, .ref a_g, .ref a_k])), (a_x_costs, .inl (c_x_costs, 10, .inl x_costs)), (a_r, .inr (6, [.ref a_r_rows, .ref a_r_ins, .int r_size, .int r_n, .int r_parts]))] → va_S A s.heap H locs → lv_has ls 4 [(0, .ref a_x), (1, .int p1), (2, .int s4.1), (3, .int s4.2)] → Z H locs 0 0 (F0 m 4 ls []) := by
    intro n
    induction n with
    | zero =>
      intro s4 H locs ls hn
      exact (itr_0 hn).elim
    | succ n ih =>
      intro s4 H locs ls hn hP hD hS hl
      obtain ⟨y1, hs, hn⟩ := itr_s hn
      unfold pX9_priceOf_L4 at hs
      refine hZv ?_
      refine lv_iload_n hx hb dX9_priceOf_4 rfl (lv_at hl 3 rfl) ?_
      refine lv_aload_n hx hb dX9_priceOf_5 rfl (lv_at hl 0 rfl) ?_
      refine va_get (D := (dC, dI)) (ci := 9) (v := .ref a_r) (C := RX9) (T := TX9) (N := 11) hx hb hts hiX9 hown hK hP 0 rfl rfl 1 (by decide) hf23 (fun _ h9 => h9) rfl dX9_priceOf_6 ?_
      refine va_get (D := (dC, dI)) (ci := 6) (v := .int r_n) (C := RX6) (T := TX6) (N := 5) hx hb hts hiX6 hown hK hP 2 rfl rfl 3 (by decide) hf138 (fun _ h9 => h9) rfl dX9_priceOf_9 ?_
      refine lv_icmp_ge (tgt := 38) hx hb dX9_priceOf_12 (by decide) (fun hc => ?_) (fun hc => ?_)
      · replace hs := it_t hc hs
        replace hs := Option.some.inj hs
        subst hs
        obtain rfl : s4.1 = e4 := hn
        exact hZw (hX4 H locs ls hP hD hS (lv_sub hl [2] rfl))
      · replace hs := it_f hc hs
        refine lv_iload_n hx hb dX9_priceOf_15 rfl (lv_at hl 1 rfl) ?_
        refine lv_iload_n hx hb dX9_priceOf_16 rfl (lv_at hl 3 rfl) ?_
        obtain ⟨r2, hr2, hs⟩ := bd_s hs
        refine kc_i (isC := []) (isR := [0, 1, 2]) (pm := [0, 1, 2]) (wr := [(a_x, .inr (9, [.ref a_x_costs, .ref a_r, .ref a_u, .ref a_q, .ref a_h, .ref a_f, .ref a_w, .ref a_o, .ref a_z, .ref a_g, .ref a_k])), (a_x_costs, .inl (c_x_costs, 10, .inl x_costs)), (a_r, .inr (6, [.ref a_r_rows, .ref a_r_ins, .int r_size, .int r_n, .int r_parts]))]) (w1 := []) (w2 := [(a_x, .inr (9, [.ref a_x_costs, .ref a_r, .ref a_u, .ref a_q, .ref a_h, .ref a_f, .ref a_w, .ref a_o, .ref a_z, .ref a_g, .ref a_k])), (a_x_costs, .inl (c_x_costs, 10, .inl x_costs)), (a_r, .inr (6, [.ref a_r_rows, .ref a_r_ins, .int r_size, .int r_n, .int r_parts]))]) (va_runS (As := [.int p1, .int s4.2]) (rest := []) ⟨hx, hb, hml, hown, hts⟩ (c_X9_has l dC dI H.size p1 s4.2 r2 hr2) (va_cwS 2 hts gX9_priceOf_X9_has rfl rfl rfl (by decide +kernel) ⟨Nat.le_of_ble_eq_true rfl, Nat.le_of_ble_eq_true rfl⟩) (kp_S hK hP hD hS hA hN (isC := []) (isT := []) (wc := []) rfl (by decide +kernel) rfl) rfl rfl hl.1 rfl (lv_room (Nat.le_of_ble_eq_true rfl)) dX9_priceOf_17 ⟨Nat.le_of_ble_eq_true rfl, Nat.le_of_ble_eq_true rfl⟩) hP hD hS hA rfl rfl (by decide +kernel) (by decide +kernel) rfl (by decide +kernel) (fun H locs hP hD hS => ?_)
        refine lv_if_eq (tgt := 32) hx hb dX9_priceOf_20 (by decide) (fun hc => ?_) (fun hc => ?_)
        · replace hs := it_t hc hs
          refine lv_iinc (v := s4.2 + 1) (lv' := [(3, .int (s4.2 + 1)), (0, .ref a_x), (1, .int p1), (2, .int s4.1)]) hx hb dX9_priceOf_32 hl (k := 3) rfl (by rfl) (by decide) rfl (fun ls hl => ?_)
          refine lv_goto (tgt := 4) hx hb dX9_priceOf_35 (by decide) ?_
          replace hs := Option.some.inj hs
          subst hs
          exact hZw (ih (s4.1, s4.2 + 1) H locs ls hn hP hD hS (lv_sub hl [1, 2, 3, 0] rfl))
        · replace hs := it_f hc hs
          refine lv_iload_n hx hb dX9_priceOf_23 rfl (lv_at hl 2 rfl) ?_
          refine lv_aload_n hx hb dX9_priceOf_24 rfl (lv_at hl 0 rfl) ?_
          refine va_get (D := (dC, dI)) (ci := 9) (v := .ref a_x_costs) (C := RX9) (T := TX9) (N := 11) hx hb hts hiX9 hown hK hP 0 rfl rfl 0 (by decide) hf9 (fun _ h9 => h9) rfl dX9_priceOf_25 ?_
          refine lv_iload_n hx hb dX9_priceOf_28 rfl (lv_at hl 3 rfl) ?_
          obtain ⟨hg3, hs⟩ := gd_s hs
          refine va_iald hx hb hK hP 1 0 rfl rfl hg3 dX9_priceOf_29 ?_
          refine lv_iadd hx hb dX9_priceOf_30 ?_
          refine lv_istore_n (lv' := [(2, .int (s4.1 + (x_costs s4.2.toNatClampNeg))), (0, .ref a_x), (1, .int p1), (3, .int s4.2)]) hx hb dX9_priceOf_31 rfl hl (by decide) rfl (fun ls hl => ?_)
          refine lv_iinc (v := s4.2 + 1) (lv' := [(3, .int (s4.2 + 1)), (2, .int (s4.1 + (x_costs s4.2.toNatClampNeg))), (0, .ref a_x), (1, .int p1)]) hx hb dX9_priceOf_32 hl (k := 3) rfl (by rfl) (by decide) rfl (fun ls hl => ?_)
          refine lv_goto (tgt := 4) hx hb dX9_priceOf_35 (by decide) ?_
          replace hs := Option.some.inj hs
          subst hs
          exact hZw (ih (s4.1 + (x_costs s4.2.toNatClampNeg), s4.2 + 1) H locs ls hn hP hD hS (lv_sub hl [2, 3, 1, 0] rfl))
  obtain ⟨n4, hn4⟩ := lp_ex he4
  exact hZw (hL4 n4 (0, 0) H locs ls hn4 hP hD hS (lv_sub hl [2, 3, 1, 0] rfl))
noncomputable def pX9_nothingInCommon_L15 (r_len : Nat) (r_size : Int32) (r_rows : Nat → Int32) (p1 : Int32) (s15 : Int32 × Int32 × Int32) : Option ((Int32 × Int32 × Int32) ⊕ (Int32 × Int32)) :=
  if r_size ≤ s15.2.2 then (some (Sum.inr (s15.1, s15.2.1))) else (gd (vp_in s15.2.2 r_len) (Option.bind (pJ6_bitCount_0f7a4 ((r_rows s15.2.2.toNatClampNeg) &&& p1)) (fun r3 => if r3 < 2 then (some (Sum.inl (s15.1, s15.2.1, s15.2.2 + 1))) else (gd (vp_in s15.2.2 r_len) (some (Sum.inl (1, s15.2.1 &&& (r_rows s15.2.2.toNatClampNeg), s15.2.2 + 1)))))))
noncomputable def pX9_nothingInCommon (r_len : Nat) (r_size : Int32) (r_parts : Int32) (r_rows : Nat → Int32) (p1 : Int32) : Option (Int32) :=
  Option.bind (lp (pX9_nothingInCommon_L15 r_len r_size r_rows p1) (0, r_parts - 1, 0)) (fun e15 => if e15.1 = 0 then (some 0) else (if e15.2 = 0 then (some 1) else (some 0)))
set_option maxHeartbeats 4000000 in
set_option maxRecDepth 100000 in
theorem c_X9_nothingInCommon (l : Launch) (dC : Nat → ClassId) (dI : Nat → Nat → Nat) (a_x : Nat) (a_x_costs : Nat) (a_r : Nat) (a_r_rows : Nat) (a_r_ins : Nat) (a_u : Nat) (a_q : Nat) (a_h : Nat) (a_f : Nat) (a_w : Nat) (a_o : Nat) (a_z : Nat) (a_g : Nat) (a_k : Nat) (c_r_rows : ClassId) (r_len : Nat) (sz : Nat) (r_size : Int32) (r_n : Int32) (r_parts : Int32) (r_rows : Nat → Int32) (p1 : Int32) (rv : Int32) (hs : pX9_nothingInCommon r_len r_size r_parts r_rows p1 = some rv) : Met l yX9_nothingInCommon wsX9_nothingInCommon ({ frames := 1, cells := 0, slots := 0, locals := 20 }) (sPc [.ref a_x, .int p1] (dC, dI) [(c_r_rows, .int)] [(a_x, .inr (9, [.ref a_x_costs, .ref a_r, .ref a_u, .ref a_q, .ref a_h, .ref a_f, .ref a_w, .ref a_o, .ref a_z, .ref a_g, .ref a_k])), (a_r, .inr (6, [.ref a_r_rows, .ref a_r_ins, .int r_size, .int r_n, .int r_parts])), (a_r_rows, .inl (c_r_rows, r_len, .inl r_rows))] sz) (va_Qi (fun (r : Int32) (_ : Unit) => r = rv) (sB (dC, dI) [(c_r_rows, .int)] (va_A [(a_x, .inr (9, [.ref a_x_costs, .ref a_r, .ref a_u, .ref a_q, .ref a_h, .ref a_f, .ref a_w, .ref a_o, .ref a_z, .ref a_g, .ref a_k])), (a_r, .inr (6, [.ref a_r_rows, .ref a_r_ins, .int r_size, .int r_n, .int r_parts])), (a_r_rows, .inl (c_r_rows, r_len, .inl r_rows))] sz) [(a_x, .inr (9, [.ref a_x_costs, .ref a_r, .ref a_u, .ref a_q, .ref a_h, .ref a_f, .ref a_w, .ref a_o, .ref a_z, .ref a_g, .ref a_k])), (a_r, .inr (6, [.ref a_r_rows, .ref a_r_ins, .int r_size, .int r_n, .int r_parts])), (a_r_rows, .inl (c_r_rows, r_len, .inl r_rows))]) (va_A [(a_x, .inr (9, [.ref a_x_costs, .ref a_r, .ref a_u, .ref a_q, .ref a_h, .ref a_f, .ref a_w, .ref a_o, .ref a_z, .ref a_g, .ref a_k])), (a_r, .inr (6, [.ref a_r_rows, .ref a_r_ins, .int r_size, .int r_n, .int r_parts])), (a_r_rows, .inl (c_r_rows, r_len, .inl r_rows))] sz)) 0 0 (va_A [(a_x, .inr (9, [.ref a_x_costs, .ref a_r, .ref a_u, .ref a_q, .ref a_h, .ref a_f, .ref a_w, .ref a_o, .ref a_z, .ref a_g, .ref a_k])), (a_r, .inr (6, [.ref a_r_rows, .ref a_r_ins, .int r_size, .int r_n, .int r_parts])), (a_r_rows, .inl (c_r_rows, r_len, .inl r_rows))] sz) := by
  refine Met.ofW (cc := cX9_nothingInCommon) (maxL := 5) (ret := (some .boolean)) (by decide) rfl ?_
  intro p e s m args below meth c s₁ B hml hv
  obtain ⟨rfl, hsz, hP, hK, hD0, hN⟩ := hv
  have hx := B.exec
  have hb := B.bytes
  have hr := B.returns
  have hts := atoms_spec (ws := wsX9_nothingInCommon) B.pre
  have hown : s.vm.findClass RX9 = some m.cls := findClass_of_methodNamed B.named
  have hlocks := B.notSynchronized
  subst hsz
  have hD := hD0.self (sz := s.heap.size)
  generalize hAe : va_A [(a_x, .inr (9, [.ref a_x_costs, .ref a_r, .ref a_u, .ref a_q, .ref a_h, .ref a_f, .ref a_w, .ref a_o, .ref a_z, .ref a_g, .ref a_k])), (a_r, .inr (6, [.ref a_r_rows, .ref a_r_ins, .int r_size, .int r_n, .int r_parts])), (a_r_rows, .inl (c_r_rows, r_len, .inl r_rows))] s.heap.size = A at hD hN ⊢
  have hA : ∀ q : Nat, s.heap.size ≤ q → A q := fun q h => by rw [← hAe]; exact Or.inr h
  have hS : va_S A s.heap s.heap [] := va_S.rf
  have hP : va_P (dC, dI) vwCl [(a_x, .inr (9, [.ref a_x_costs, .ref a_r, .ref a_u, .ref a_q, .ref a_h, .ref a_f, .ref a_w, .ref a_o, .ref a_z, .ref a_g, .ref a_k])), (a_r, .inr (6, [.ref a_r_rows, .ref a_r_ins, .int r_size, .int r_n, .int r_parts])), (a_r_rows, .inl (c_r_rows, r_len, .inl r_rows))] s.heap := hP
  have hl := lv_entry ([.ref a_x, .int p1]) (n := 5) (Nat.le_of_ble_eq_true rfl)
  rw [lg_entry_eq]
  generalize (lg_sl ([.ref a_x, .int p1]) ++ List.replicate (5 - (lg_sl ([.ref a_x, .int p1])).length) Slot.unset).toArray = ls at hl ⊢
  have hl : lv_has ls 5 [(0, .ref a_x), (1, .int p1)] := hl
  have hiX9 : ∀ w ∈ wsX90, w ∈ wsX9_nothingInCommon := fun _ h => List.mem_cons_of_mem _ (List.mem_append_left _ (List.mem_append_right _ h))
  have hf23 := hts (.fieldLink RX9 23 "MeetSets" "list" "LMeetSets$SetRow;") (t1_ (al_ (al_ h1_)))
  have hiX6 : ∀ w ∈ wsX60, w ∈ wsX9_nothingInCommon := fun _ h => List.mem_cons_of_mem _ (List.mem_append_right _ h)
  have hf117 := hts (.fieldLink RX9 117 "MeetSets$SetRow" "parts" "I") (t1_ (al_ (al_ (t1_ h1_))))
  have hf106 := hts (.fieldLink RX9 106 "MeetSets$SetRow" "size" "I") (t1_ (al_ (al_ (t1_ (t1_ h1_)))))
  have hf236 := hts (.fieldLink RX9 236 "MeetSets$SetRow" "rows" "[I") (t1_ (al_ (al_ (t1_ (t1_ (t1_ h1_))))))
  refine w_abs (fun Z hZv hZw => ?_)
  refine hZv ?_
  obtain ⟨H, hH⟩ : ∃ H, H = s.heap := ⟨_, rfl⟩
  obtain ⟨locs, hlo⟩ : ∃ L : List Loc, L = [] := ⟨_, rfl⟩
  rw [← hlo, ← hH]
  have hS : va_S A s.heap H locs := by rw [hlo, hH]; exact hS
  have hP : va_P (dC, dI) vwCl [(a_x, .inr (9, [.ref a_x_costs, .ref a_r, .ref a_u, .ref a_q, .ref a_h, .ref a_f, .ref a_w, .ref a_o, .ref a_z, .ref a_g, .ref a_k])), (a_r, .inr (6, [.ref a_r_rows, .ref a_r_ins, .int r_size, .int r_n, .int r_parts])), (a_r_rows, .inl (c_r_rows, r_len, .inl r_rows))] H := by rw [hH]; exact hP
  clear hH hlo
  unfold pX9_nothingInCommon at hs
  refine lv_iconst (v := 0) hx hb dX9_nothingInCommon_0 (by decide) ?_
  refine lv_istore_n (lv' := [(2, .int 0), (0, .ref a_x), (1, .int p1)]) hx hb dX9_nothingInCommon_1 rfl hl (by decide) rfl (fun ls hl => ?_)
  refine lv_aload_n hx hb dX9_nothingInCommon_2 rfl (lv_at hl 1 rfl) ?_
  refine va_get (D := (dC, dI)) (ci := 9) (v := .ref a_r) (C := RX9) (T := TX9) (N := 11) hx hb hts hiX9 hown hK hP 0 rfl rfl 1 (by decide) hf23 (fun _ h9 => h9) rfl dX9_nothingInCommon_3 ?_
  refine va_get (D := (dC, dI)) (ci := 6) (v := .int r_parts) (C := RX6) (T := TX6) (N := 5) hx hb hts hiX6 hown hK hP 1 rfl rfl 4 (by decide) hf117 (fun _ h9 => h9) rfl dX9_nothingInCommon_6 ?_
  refine lv_iconst (v := 1) hx hb dX9_nothingInCommon_9 (by decide) ?_
  refine lv_isub hx hb dX9_nothingInCommon_10 ?_
  refine lv_istore_n (lv' := [(3, .int (r_parts - 1)), (2, .int 0), (0, .ref a_x), (1, .int p1)]) hx hb dX9_nothingInCommon_11 rfl hl (by decide) rfl (fun ls hl => ?_)
  refine lv_iconst (v := 0) hx hb dX9_nothingInCommon_12 (by decide) ?_
  refine lv_istore (lv' := [(4, .int 0), (3, .int (r_parts - 1)), (2, .int 0), (0, .ref a_x), (1, .int p1)]) hx hb dX9_nothingInCommon_13 hl (by decide) rfl (fun ls hl => ?_)
  obtain ⟨e15, he15, hs⟩ := bd_s hs
  have hX15 : ∀ (H : Heap) (locs : List Loc) (ls : Array Slot), va_P (dC, dI) vwCl [(a_x, .inr (9, [.ref a_x_costs, .ref a_r, .ref a_u, .ref a_q, .ref a_h, .ref a_f, .ref a_w, .ref a_o, .ref a_z, .ref a_g, .ref a_k])), (a_r, .inr (6, [.ref a_r_rows, .ref a_r_ins, .int r_size, .int r_n, .int r_parts])), (a_r_rows, .inl (c_r_rows, r_len, .inl r_rows))] H → va_D A [(a_x, .inr (9, [.ref a_x_costs, .ref a_r, .ref a_u, .ref a_q, .ref a_h, .ref a_f, .ref a_w, .ref a_o, .ref a_z, .ref a_g, .ref a_k])), (a_r, .inr (6, [.ref a_r_rows, .ref a_r_ins, .int r_size, .int r_n, .int r_parts])), (a_r_rows, .inl (c_r_rows, r_len, .inl r_rows))] → va_S A s.heap H locs → lv_has ls 5 [(2, .int e15.1), (3, .int e15.2)] → Z H locs 0 0 (F0 m 67 ls []) := by
    intro H locs ls hP hD hS hl
    refine hZv ?_
    refine lv_iload_n hx hb dX9_nothingInCommon_67 rfl (lv_at hl 0 rfl) ?_
    refine lv_if_eq (tgt := 79) hx hb dX9_nothingInCommon_68 (by decide) (fun hc => ?_) (fun hc => ?_)
    · replace hs := it_t hc hs
      refine lv_iconst (v := 0) hx hb dX9_nothingInCommon_79 (by decide) ?_
      replace hs := Option.some.inj hs
      subst hs
      exact W.zret (v := 0) (ty := .boolean) hx hb hr rfl (fun t ht hW => ⟨⟨0, (), rfl, rfl, by rw [ht]; exact hP, va_K.moved hW.alike hK, hD⟩, hS.F ht⟩) hS.2.2 dX9_nothingInCommon_80
    · replace hs := it_f hc hs
      refine lv_iload_n hx hb dX9_nothingInCommon_71 rfl (lv_at hl 1 rfl) ?_
      refine lv_if_ne (tgt := 79) hx hb dX9_nothingInCommon_72 (by decide) (fun hc => ?_) (fun hc => ?_)
      · replace hs := it_f hc hs
        refine lv_iconst (v := 0) hx hb dX9_nothingInCommon_79 (by decide) ?_
        replace hs := Option.some.inj hs
        subst hs
        exact W.zret (v := 0) (ty := .boolean) hx hb hr rfl (fun t ht hW => ⟨⟨0, (), rfl, rfl, by rw [ht]; exact hP, va_K.moved hW.alike hK, hD⟩, hS.F ht⟩) hS.2.2 dX9_nothingInCommon_80
      · replace hs := it_t hc hs
        refine lv_iconst (v := 1) hx hb dX9_nothingInCommon_75 (by decide) ?_
        refine lv_goto (tgt := 80) hx hb dX9_nothingInCommon_76 (by decide) ?_
        replace hs := Option.some.inj hs
        subst hs
        exact W.zret (v := 1) (ty := .boolean) hx hb hr rfl (fun t ht hW => ⟨⟨1, (), rfl, rfl, by rw [ht]; exact hP, va_K.moved hW.alike hK, hD⟩, hS.F ht⟩) hS.2.2 dX9_nothingInCommon_80
  clear hs
  have hL15 : ∀ (n : Nat) (s15 : Int32 × Int32 × Int32) (H : Heap) (locs : List Loc) (ls : Array Slot), itr (pX9_nothingInCommon_L15 r_len r_size r_rows p1) n s15 = some e15 → va_P (dC, dI) vwCl [(a_x, .inr (9, [.ref a_x_costs, .ref a_r, .ref a_u, .ref a_q, .ref a_h, .ref a_f, .ref a_w, .ref a_o, .ref a_z, .ref a_g, .ref a_k])), (a_r, .inr (6, [.ref a_r_rows, .ref a_r_ins, .int r_size, .int r_n, .int r_parts])), (a_r_rows, .inl (c_r_rows, r_len, .inl r_rows))] H → va_D A [(a_x, .inr (9, [.ref a_x_costs, .ref a_r, .ref a_u, .ref a_q, .ref a_h, .ref a_f, .ref a_w, .ref a_o, .ref a_z, .ref a_g, .ref a_k])), (a_r, .inr (6, [.ref a_r_rows, .ref a_r_ins, .int r_size, .int r_n, .int r_parts])), (a_r_rows, .inl (c_r_rows, r_len, .inl r_rows))] → va_S A s.heap H locs → lv_has ls 5 [(0, .ref a_x), (1, .int p1), (2, .int s15.1), (3, .int s15.2.1), (4, .int s15.2.2)] → Z H locs 0 0 (F0 m 15 ls []) := by
    intro n
    induction n with
    | zero =>
      intro s15 H locs ls hn
      exact (itr_0 hn).elim
    | succ n ih =>
      intro s15 H locs ls hn hP hD hS hl
      obtain ⟨y1, hs, hn⟩ := itr_s hn
      unfold pX9_nothingInCommon_L15 at hs
      refine hZv ?_
      refine lv_iload hx hb dX9_nothingInCommon_15 (lv_at hl 4 rfl) ?_
      refine lv_aload_n hx hb dX9_nothingInCommon_17 rfl (lv_at hl 0 rfl) ?_
      refine va_get (D := (dC, dI)) (ci := 9) (v := .ref a_r) (C := RX9) (T := TX9) (N := 11) hx hb hts hiX9 hown hK hP 0 rfl rfl 1 (by decide) hf23 (fun _ h9 => h9) rfl dX9_nothingInCommon_18 ?_
      refine va_get (D := (dC, dI)) (ci := 6) (v := .int r_size) (C := RX6) (T := TX6) (N := 5) hx hb hts hiX6 hown hK hP 1 rfl rfl 2 (by decide) hf106 (fun _ h9 => h9) rfl dX9_nothingInCommon_21 ?_
      refine lv_icmp_ge (tgt := 67) hx hb dX9_nothingInCommon_24 (by decide) (fun hc => ?_) (fun hc => ?_)
      · replace hs := it_t hc hs
        replace hs := Option.some.inj hs
        subst hs
        obtain rfl : (s15.1, s15.2.1) = e15 := hn
        exact hZw (hX15 H locs ls hP hD hS (lv_sub hl [2, 3] rfl))
      · replace hs := it_f hc hs
        refine lv_aload_n hx hb dX9_nothingInCommon_27 rfl (lv_at hl 0 rfl) ?_
        refine va_get (D := (dC, dI)) (ci := 9) (v := .ref a_r) (C := RX9) (T := TX9) (N := 11) hx hb hts hiX9 hown hK hP 0 rfl rfl 1 (by decide) hf23 (fun _ h9 => h9) rfl dX9_nothingInCommon_28 ?_
        refine va_get (D := (dC, dI)) (ci := 6) (v := .ref a_r_rows) (C := RX6) (T := TX6) (N := 5) hx hb hts hiX6 hown hK hP 1 rfl rfl 0 (by decide) hf236 (fun _ h9 => h9) rfl dX9_nothingInCommon_31 ?_
        refine lv_iload hx hb dX9_nothingInCommon_34 (lv_at hl 4 rfl) ?_
        obtain ⟨hg2, hs⟩ := gd_s hs
        refine va_iald hx hb hK hP 2 0 rfl rfl hg2 dX9_nothingInCommon_36 ?_
        refine lv_iload_n hx hb dX9_nothingInCommon_37 rfl (lv_at hl 1 rfl) ?_
        refine lv_iand hx hb dX9_nothingInCommon_38 ?_
        obtain ⟨r3, hr3, hs⟩ := bd_s hs
        refine kc_i (isC := []) (isR := [0, 1, 2]) (pm := [0, 1, 2]) (wr := [(a_x, .inr (9, [.ref a_x_costs, .ref a_r, .ref a_u, .ref a_q, .ref a_h, .ref a_f, .ref a_w, .ref a_o, .ref a_z, .ref a_g, .ref a_k])), (a_r, .inr (6, [.ref a_r_rows, .ref a_r_ins, .int r_size, .int r_n, .int r_parts])), (a_r_rows, .inl (c_r_rows, r_len, .inl r_rows))]) (w1 := []) (w2 := [(a_x, .inr (9, [.ref a_x_costs, .ref a_r, .ref a_u, .ref a_q, .ref a_h, .ref a_f, .ref a_w, .ref a_o, .ref a_z, .ref a_g, .ref a_k])), (a_r, .inr (6, [.ref a_r_rows, .ref a_r_ins, .int r_size, .int r_n, .int r_parts])), (a_r_rows, .inl (c_r_rows, r_len, .inl r_rows))]) (va_runS (As := [.int ((r_rows s15.2.2.toNatClampNeg) &&& p1)]) (rest := []) ⟨hx, hb, hml, hown, hts⟩ (c_J6_bitCount_0f7a4 l dC dI H.size ((r_rows s15.2.2.toNatClampNeg) &&& p1) r3 hr3) (va_cwS 1 hts gX9_nothingInCommon_J6_bitCount_0f7a4 rfl rfl rfl (by decide +kernel) ⟨Nat.le_of_ble_eq_true rfl, Nat.le_of_ble_eq_true rfl⟩) (kp_S hK hP hD hS hA hN (isC := []) (isT := []) (wc := []) rfl (by decide +kernel) rfl) rfl rfl hl.1 rfl (lv_room (Nat.le_of_ble_eq_true rfl)) dX9_nothingInCommon_39 ⟨Nat.le_of_ble_eq_true rfl, Nat.le_of_ble_eq_true rfl⟩) hP hD hS hA rfl rfl (by decide +kernel) (by decide +kernel) rfl (by decide +kernel) (fun H locs hP hD hS => ?_)
        refine lv_iconst (v := 2) hx hb dX9_nothingInCommon_42 (by decide) ?_
        refine lv_icmp_lt (tgt := 61) hx hb dX9_nothingInCommon_43 (by decide) (fun hc => ?_) (fun hc => ?_)
        · replace hs := it_t hc hs
          refine lv_iinc (v := s15.2.2 + 1) (lv' := [(4, .int (s15.2.2 + 1)), (0, .ref a_x), (1, .int p1), (2, .int s15.1), (3, .int s15.2.1)]) hx hb dX9_nothingInCommon_61 hl (k := 4) rfl (by rfl) (by decide) rfl (fun ls hl => ?_)
          refine lv_goto (tgt := 15) hx hb dX9_nothingInCommon_64 (by decide) ?_
          replace hs := Option.some.inj hs
          subst hs
          exact hZw (ih (s15.1, s15.2.1, s15.2.2 + 1) H locs ls hn hP hD hS (lv_sub hl [1, 2, 3, 4, 0] rfl))
        · replace hs := it_f hc hs
          refine lv_iconst (v := 1) hx hb dX9_nothingInCommon_46 (by decide) ?_
          refine lv_istore_n (lv' := [(2, .int 1), (0, .ref a_x), (1, .int p1), (3, .int s15.2.1), (4, .int s15.2.2)]) hx hb dX9_nothingInCommon_47 rfl hl (by decide) rfl (fun ls hl => ?_)
          refine lv_iload_n hx hb dX9_nothingInCommon_48 rfl (lv_at hl 3 rfl) ?_
          refine lv_aload_n hx hb dX9_nothingInCommon_49 rfl (lv_at hl 1 rfl) ?_
          refine va_get (D := (dC, dI)) (ci := 9) (v := .ref a_r) (C := RX9) (T := TX9) (N := 11) hx hb hts hiX9 hown hK hP 0 rfl rfl 1 (by decide) hf23 (fun _ h9 => h9) rfl dX9_nothingInCommon_50 ?_
          refine va_get (D := (dC, dI)) (ci := 6) (v := .ref a_r_rows) (C := RX6) (T := TX6) (N := 5) hx hb hts hiX6 hown hK hP 1 rfl rfl 0 (by decide) hf236 (fun _ h9 => h9) rfl dX9_nothingInCommon_53 ?_
          refine lv_iload hx hb dX9_nothingInCommon_56 (lv_at hl 4 rfl) ?_
          obtain ⟨hg4, hs⟩ := gd_s hs
          refine va_iald hx hb hK hP 2 0 rfl rfl hg4 dX9_nothingInCommon_58 ?_
          refine lv_iand hx hb dX9_nothingInCommon_59 ?_
          refine lv_istore_n (lv' := [(3, .int (s15.2.1 &&& (r_rows s15.2.2.toNatClampNeg))), (2, .int 1), (0, .ref a_x), (1, .int p1), (4, .int s15.2.2)]) hx hb dX9_nothingInCommon_60 rfl hl (by decide) rfl (fun ls hl => ?_)
          refine lv_iinc (v := s15.2.2 + 1) (lv' := [(4, .int (s15.2.2 + 1)), (3, .int (s15.2.1 &&& (r_rows s15.2.2.toNatClampNeg))), (2, .int 1), (0, .ref a_x), (1, .int p1)]) hx hb dX9_nothingInCommon_61 hl (k := 4) rfl (by rfl) (by decide) rfl (fun ls hl => ?_)
          refine lv_goto (tgt := 15) hx hb dX9_nothingInCommon_64 (by decide) ?_
          replace hs := Option.some.inj hs
          subst hs
          exact hZw (ih (1, s15.2.1 &&& (r_rows s15.2.2.toNatClampNeg), s15.2.2 + 1) H locs ls hn hP hD hS (lv_sub hl [3, 4, 2, 1, 0] rfl))
  obtain ⟨n15, hn15⟩ := lp_ex he15
  exact hZw (hL15 n15 (0, r_parts - 1, 0) H locs ls hn15 hP hD hS (lv_sub hl [3, 4, 2, 1, 0] rfl))
noncomputable def pX9_ground (r_size : Int32) (r_n : Int32) (r_parts : Int32) (r_ins : Nat → Int32) (u_size : Int32) (u_n : Int32) (u_parts : Int32) (u_ins : Nat → Int32) (p1 : Int32) : Option (Int32 × Int32 × Int32 × Int32 × (Nat → Int32) × Int32 × Int32 × Int32 × (Nat → Int32)) :=
  if p1 < 1 then (some ((-2), r_size, r_n, r_parts, r_ins, u_size, u_n, u_parts, u_ins)) else (if p1 ≤ 10 then (Option.bind (pX6_clearFor r_size r_n r_parts r_ins p1) (fun r1 => Option.bind (pX6_clearFor u_size u_n u_parts u_ins p1) (fun r2 => some (1, r1.1, r1.2.1, r1.2.2.1, r1.2.2.2, r2.1, r2.2.1, r2.2.2.1, r2.2.2.2)))) else (some ((-2), r_size, r_n, r_parts, r_ins, u_size, u_n, u_parts, u_ins)))
set_option maxHeartbeats 4000000 in
set_option maxRecDepth 100000 in
theorem c_X9_ground (l : Launch) (dC : Nat → ClassId) (dI : Nat → Nat → Nat) (a_x : Nat) (a_x_costs : Nat) (a_r : Nat) (a_r_rows : Nat) (a_r_ins : Nat) (a_u : Nat) (a_u_rows : Nat) (a_u_ins : Nat) (a_q : Nat) (a_h : Nat) (a_f : Nat) (a_w : Nat) (a_o : Nat) (a_z : Nat) (a_g : Nat) (a_k : Nat) (c_r_ins c_u_ins : ClassId) (sz : Nat) (r_size : Int32) (r_n : Int32) (r_parts : Int32) (r_ins : Nat → Int32) (u_size : Int32) (u_n : Int32) (u_parts : Int32) (u_ins : Nat → Int32) (p1 : Int32) (rv : Int32 × Int32 × Int32 × Int32 × (Nat → Int32) × Int32 × Int32 × Int32 × (Nat → Int32)) (hs : pX9_ground r_size r_n r_parts r_ins u_size u_n u_parts u_ins p1 = some rv) : Met l yX9_ground wsX9_ground ({ frames := 2, cells := 0, slots := 0, locals := 44 }) (sPc [.ref a_x, .int p1] (dC, dI) [(c_r_ins, .int), (c_u_ins, .int)] [(a_x, .inr (9, [.ref a_x_costs, .ref a_r, .ref a_u, .ref a_q, .ref a_h, .ref a_f, .ref a_w, .ref a_o, .ref a_z, .ref a_g, .ref a_k])), (a_r, .inr (6, [.ref a_r_rows, .ref a_r_ins, .int r_size, .int r_n, .int r_parts])), (a_r_ins, .inl (c_r_ins, 1024, .inl r_ins)), (a_u, .inr (6, [.ref a_u_rows, .ref a_u_ins, .int u_size, .int u_n, .int u_parts])), (a_u_ins, .inl (c_u_ins, 1024, .inl u_ins))] sz) (va_Qi (fun (r : Int32) (_ : Unit) => r = rv.1) (sB (dC, dI) [(c_r_ins, .int), (c_u_ins, .int)] (va_A [(a_x, .inr (9, [.ref a_x_costs, .ref a_r, .ref a_u, .ref a_q, .ref a_h, .ref a_f, .ref a_w, .ref a_o, .ref a_z, .ref a_g, .ref a_k])), (a_r, .inr (6, [.ref a_r_rows, .ref a_r_ins, .int r_size, .int r_n, .int r_parts])), (a_r_ins, .inl (c_r_ins, 1024, .inl r_ins)), (a_u, .inr (6, [.ref a_u_rows, .ref a_u_ins, .int u_size, .int u_n, .int u_parts])), (a_u_ins, .inl (c_u_ins, 1024, .inl u_ins))] sz) [(a_x, .inr (9, [.ref a_x_costs, .ref a_r, .ref a_u, .ref a_q, .ref a_h, .ref a_f, .ref a_w, .ref a_o, .ref a_z, .ref a_g, .ref a_k])), (a_r, .inr (6, [.ref a_r_rows, .ref a_r_ins, .int rv.2.1, .int rv.2.2.1, .int rv.2.2.2.1])), (a_r_ins, .inl (c_r_ins, 1024, .inl rv.2.2.2.2.1)), (a_u, .inr (6, [.ref a_u_rows, .ref a_u_ins, .int rv.2.2.2.2.2.1, .int rv.2.2.2.2.2.2.1, .int rv.2.2.2.2.2.2.2.1])), (a_u_ins, .inl (c_u_ins, 1024, .inl rv.2.2.2.2.2.2.2.2))]) (va_A [(a_x, .inr (9, [.ref a_x_costs, .ref a_r, .ref a_u, .ref a_q, .ref a_h, .ref a_f, .ref a_w, .ref a_o, .ref a_z, .ref a_g, .ref a_k])), (a_r, .inr (6, [.ref a_r_rows, .ref a_r_ins, .int r_size, .int r_n, .int r_parts])), (a_r_ins, .inl (c_r_ins, 1024, .inl r_ins)), (a_u, .inr (6, [.ref a_u_rows, .ref a_u_ins, .int u_size, .int u_n, .int u_parts])), (a_u_ins, .inl (c_u_ins, 1024, .inl u_ins))] sz)) 0 0 (va_A [(a_x, .inr (9, [.ref a_x_costs, .ref a_r, .ref a_u, .ref a_q, .ref a_h, .ref a_f, .ref a_w, .ref a_o, .ref a_z, .ref a_g, .ref a_k])), (a_r, .inr (6, [.ref a_r_rows, .ref a_r_ins, .int r_size, .int r_n, .int r_parts])), (a_r_ins, .inl (c_r_ins, 1024, .inl r_ins)), (a_u, .inr (6, [.ref a_u_rows, .ref a_u_ins, .int u_size, .int u_n, .int u_parts])), (a_u_ins, .inl (c_u_ins, 1024, .inl u_ins))] sz) := by
  refine Met.ofW (cc := cX9_ground) (maxL := 2) (ret := (some .int)) (by decide) rfl ?_
  intro p e s m args below meth c s₁ B hml hv
  obtain ⟨rfl, hsz, hP, hK, hD0, hN⟩ := hv
  have hx := B.exec
  have hb := B.bytes
  have hr := B.returns
  have hts := atoms_spec (ws := wsX9_ground) B.pre
  have hown : s.vm.findClass RX9 = some m.cls := findClass_of_methodNamed B.named
  have hlocks := B.notSynchronized
  subst hsz
  have hD := hD0.self (sz := s.heap.size)
  generalize hAe : va_A [(a_x, .inr (9, [.ref a_x_costs, .ref a_r, .ref a_u, .ref a_q, .ref a_h, .ref a_f, .ref a_w, .ref a_o, .ref a_z, .ref a_g, .ref a_k])), (a_r, .inr (6, [.ref a_r_rows, .ref a_r_ins, .int r_size, .int r_n, .int r_parts])), (a_r_ins, .inl (c_r_ins, 1024, .inl r_ins)), (a_u, .inr (6, [.ref a_u_rows, .ref a_u_ins, .int u_size, .int u_n, .int u_parts])), (a_u_ins, .inl (c_u_ins, 1024, .inl u_ins))] s.heap.size = A at hD hN ⊢
  have hA : ∀ q : Nat, s.heap.size ≤ q → A q := fun q h => by rw [← hAe]; exact Or.inr h
  have hS : va_S A s.heap s.heap [] := va_S.rf
  have hP : va_P (dC, dI) vwCl [(a_x, .inr (9, [.ref a_x_costs, .ref a_r, .ref a_u, .ref a_q, .ref a_h, .ref a_f, .ref a_w, .ref a_o, .ref a_z, .ref a_g, .ref a_k])), (a_r, .inr (6, [.ref a_r_rows, .ref a_r_ins, .int r_size, .int r_n, .int r_parts])), (a_r_ins, .inl (c_r_ins, 1024, .inl r_ins)), (a_u, .inr (6, [.ref a_u_rows, .ref a_u_ins, .int u_size, .int u_n, .int u_parts])), (a_u_ins, .inl (c_u_ins, 1024, .inl u_ins))] s.heap := hP
  have hl := lv_entry ([.ref a_x, .int p1]) (n := 2) (Nat.le_of_ble_eq_true rfl)
  rw [lg_entry_eq]
  generalize (lg_sl ([.ref a_x, .int p1]) ++ List.replicate (2 - (lg_sl ([.ref a_x, .int p1])).length) Slot.unset).toArray = ls at hl ⊢
  have hl : lv_has ls 2 [(0, .ref a_x), (1, .int p1)] := hl
  have hiX9 : ∀ w ∈ wsX90, w ∈ wsX9_ground := fun _ h => List.mem_cons_of_mem _ (List.mem_append_left _ (List.mem_append_right _ h))
  have hf23 := hts (.fieldLink RX9 23 "MeetSets" "list" "LMeetSets$SetRow;") (t1_ (al_ (al_ h1_)))
  have hf27 := hts (.fieldLink RX9 27 "MeetSets" "others" "LMeetSets$SetRow;") (t1_ (al_ (al_ (t1_ h1_))))
  refine w_abs (fun Z hZv hZw => ?_)
  refine hZv ?_
  obtain ⟨H, hH⟩ : ∃ H, H = s.heap := ⟨_, rfl⟩
  obtain ⟨locs, hlo⟩ : ∃ L : List Loc, L = [] := ⟨_, rfl⟩
  rw [← hlo, ← hH]
  have hS : va_S A s.heap H locs := by rw [hlo, hH]; exact hS
  have hP : va_P (dC, dI) vwCl [(a_x, .inr (9, [.ref a_x_costs, .ref a_r, .ref a_u, .ref a_q, .ref a_h, .ref a_f, .ref a_w, .ref a_o, .ref a_z, .ref a_g, .ref a_k])), (a_r, .inr (6, [.ref a_r_rows, .ref a_r_ins, .int r_size, .int r_n, .int r_parts])), (a_r_ins, .inl (c_r_ins, 1024, .inl r_ins)), (a_u, .inr (6, [.ref a_u_rows, .ref a_u_ins, .int u_size, .int u_n, .int u_parts])), (a_u_ins, .inl (c_u_ins, 1024, .inl u_ins))] H := by rw [hH]; exact hP
  clear hH hlo
  unfold pX9_ground at hs
  refine lv_iload_n hx hb dX9_ground_0 rfl (lv_at hl 1 rfl) ?_
  refine lv_iconst (v := 1) hx hb dX9_ground_1 (by decide) ?_
  refine lv_icmp_lt (tgt := 11) hx hb dX9_ground_2 (by decide) (fun hc => ?_) (fun hc => ?_)
  · replace hs := it_t hc hs
    refine lv_bipush (v := (-2)) hx hb dX9_ground_11 (by decide) ?_
    replace hs := Option.some.inj hs
    subst hs
    exact W.iret (v := (-2)) hx hb hr (fun t ht hW => ⟨⟨(-2), (), rfl, rfl, by rw [ht]; exact hP, va_K.moved hW.alike hK, hD⟩, hS.F ht⟩) hS.2.2 dX9_ground_13
  · replace hs := it_f hc hs
    refine lv_iload_n hx hb dX9_ground_5 rfl (lv_at hl 1 rfl) ?_
    refine lv_bipush (v := 10) hx hb dX9_ground_6 (by decide) ?_
    refine lv_icmp_le (tgt := 14) hx hb dX9_ground_8 (by decide) (fun hc => ?_) (fun hc => ?_)
    · replace hs := it_t hc hs
      refine lv_aload_n hx hb dX9_ground_14 rfl (lv_at hl 0 rfl) ?_
      refine va_get (D := (dC, dI)) (ci := 9) (v := .ref a_r) (C := RX9) (T := TX9) (N := 11) hx hb hts hiX9 hown hK hP 0 rfl rfl 1 (by decide) hf23 (fun _ h9 => h9) rfl dX9_ground_15 ?_
      refine lv_iload_n hx hb dX9_ground_18 rfl (lv_at hl 1 rfl) ?_
      obtain ⟨r1, hr1, hs⟩ := bd_s hs
      refine kc_v (isC := [1, 2]) (isR := [0, 3, 4]) (pm := [0, 3, 4, 1, 2]) (wr := [(a_x, .inr (9, [.ref a_x_costs, .ref a_r, .ref a_u, .ref a_q, .ref a_h, .ref a_f, .ref a_w, .ref a_o, .ref a_z, .ref a_g, .ref a_k])), (a_u, .inr (6, [.ref a_u_rows, .ref a_u_ins, .int u_size, .int u_n, .int u_parts])), (a_u_ins, .inl (c_u_ins, 1024, .inl u_ins))]) (w1 := [(a_r, .inr (6, [.ref a_r_rows, .ref a_r_ins, .int r1.1, .int r1.2.1, .int r1.2.2.1])), (a_r_ins, .inl (c_r_ins, 1024, .inl r1.2.2.2))]) (w2 := [(a_x, .inr (9, [.ref a_x_costs, .ref a_r, .ref a_u, .ref a_q, .ref a_h, .ref a_f, .ref a_w, .ref a_o, .ref a_z, .ref a_g, .ref a_k])), (a_r, .inr (6, [.ref a_r_rows, .ref a_r_ins, .int r1.1, .int r1.2.1, .int r1.2.2.1])), (a_r_ins, .inl (c_r_ins, 1024, .inl r1.2.2.2)), (a_u, .inr (6, [.ref a_u_rows, .ref a_u_ins, .int u_size, .int u_n, .int u_parts])), (a_u_ins, .inl (c_u_ins, 1024, .inl u_ins))]) (va_runV (As := [.int p1]) (rest := []) ⟨hx, hb, hml, hown, hts⟩ (c_X6_clearFor l dC dI a_r a_r_rows a_r_ins c_r_ins H.size r_size r_n r_parts r_ins p1 r1 hr1) (cwV 1 hts gX9_ground_X6_clearFor rfl rfl rfl (by decide +kernel) ⟨Nat.le_of_ble_eq_true rfl, Nat.le_of_ble_eq_true rfl⟩) (kp_V hK hP hD hS hA hN (isC := [1, 2]) (isT := [0]) (wc := [(a_r, .inr (6, [.ref a_r_rows, .ref a_r_ins, .int r_size, .int r_n, .int r_parts])), (a_r_ins, .inl (c_r_ins, 1024, .inl r_ins))]) rfl (by decide +kernel) rfl (ci := 6) (q0 := 0) rfl rfl) rfl rfl hl.1 rfl (lv_room (Nat.le_of_ble_eq_true rfl)) dX9_ground_19 ⟨Nat.le_of_ble_eq_true rfl, Nat.le_of_ble_eq_true rfl⟩) hP hD hS hA rfl rfl (by decide +kernel) (by decide +kernel) rfl (by decide +kernel) (fun H locs hP hD hS => ?_)
      refine lv_aload_n hx hb dX9_ground_22 rfl (lv_at hl 0 rfl) ?_
      refine va_get (D := (dC, dI)) (ci := 9) (v := .ref a_u) (C := RX9) (T := TX9) (N := 11) hx hb hts hiX9 hown hK hP 0 rfl rfl 2 (by decide) hf27 (fun _ h9 => h9) rfl dX9_ground_23 ?_
      refine lv_iload_n hx hb dX9_ground_26 rfl (lv_at hl 1 rfl) ?_
      obtain ⟨r2, hr2, hs⟩ := bd_s hs
      refine kc_v (isC := [3, 4]) (isR := [0, 1, 2]) (pm := [0, 1, 2, 3, 4]) (wr := [(a_x, .inr (9, [.ref a_x_costs, .ref a_r, .ref a_u, .ref a_q, .ref a_h, .ref a_f, .ref a_w, .ref a_o, .ref a_z, .ref a_g, .ref a_k])), (a_r, .inr (6, [.ref a_r_rows, .ref a_r_ins, .int r1.1, .int r1.2.1, .int r1.2.2.1])), (a_r_ins, .inl (c_r_ins, 1024, .inl r1.2.2.2))]) (w1 := [(a_u, .inr (6, [.ref a_u_rows, .ref a_u_ins, .int r2.1, .int r2.2.1, .int r2.2.2.1])), (a_u_ins, .inl (c_u_ins, 1024, .inl r2.2.2.2))]) (w2 := [(a_x, .inr (9, [.ref a_x_costs, .ref a_r, .ref a_u, .ref a_q, .ref a_h, .ref a_f, .ref a_w, .ref a_o, .ref a_z, .ref a_g, .ref a_k])), (a_r, .inr (6, [.ref a_r_rows, .ref a_r_ins, .int r1.1, .int r1.2.1, .int r1.2.2.1])), (a_r_ins, .inl (c_r_ins, 1024, .inl r1.2.2.2)), (a_u, .inr (6, [.ref a_u_rows, .ref a_u_ins, .int r2.1, .int r2.2.1, .int r2.2.2.1])), (a_u_ins, .inl (c_u_ins, 1024, .inl r2.2.2.2))]) (va_runV (As := [.int p1]) (rest := []) ⟨hx, hb, hml, hown, hts⟩ (c_X6_clearFor l dC dI a_u a_u_rows a_u_ins c_u_ins H.size u_size u_n u_parts u_ins p1 r2 hr2) (cwV 1 hts gX9_ground_X6_clearFor rfl rfl rfl (by decide +kernel) ⟨Nat.le_of_ble_eq_true rfl, Nat.le_of_ble_eq_true rfl⟩) (kp_V hK hP hD hS hA hN (isC := [3, 4]) (isT := [1]) (wc := [(a_u, .inr (6, [.ref a_u_rows, .ref a_u_ins, .int u_size, .int u_n, .int u_parts])), (a_u_ins, .inl (c_u_ins, 1024, .inl u_ins))]) rfl (by decide +kernel) rfl (ci := 6) (q0 := 0) rfl rfl) rfl rfl hl.1 rfl (lv_room (Nat.le_of_ble_eq_true rfl)) dX9_ground_27 ⟨Nat.le_of_ble_eq_true rfl, Nat.le_of_ble_eq_true rfl⟩) hP hD hS hA rfl rfl (by decide +kernel) (by decide +kernel) rfl (by decide +kernel) (fun H locs hP hD hS => ?_)
      refine lv_iconst (v := 1) hx hb dX9_ground_30 (by decide) ?_
      replace hs := Option.some.inj hs
      subst hs
      exact W.iret (v := 1) hx hb hr (fun t ht hW => ⟨⟨1, (), rfl, rfl, by rw [ht]; exact hP, va_K.moved hW.alike hK, hD⟩, hS.F ht⟩) hS.2.2 dX9_ground_31
    · replace hs := it_f hc hs
      refine lv_bipush (v := (-2)) hx hb dX9_ground_11 (by decide) ?_
      replace hs := Option.some.inj hs
      subst hs
      exact W.iret (v := (-2)) hx hb hr (fun t ht hW => ⟨⟨(-2), (), rfl, rfl, by rw [ht]; exact hP, va_K.moved hW.alike hK, hD⟩, hS.F ht⟩) hS.2.2 dX9_ground_13
noncomputable def pX9_set (r_len : Nat) (r_size : Int32) (r_parts : Int32) (r_rows : Nat → Int32) (r_ins : Nat → Int32) (p1 : Int32) : Option (Int32 × Int32 × (Nat → Int32) × (Nat → Int32)) :=
  if p1 = 0 then (some ((-2), r_size, r_rows, r_ins)) else (Option.bind (pX6_isPart r_parts p1) (fun r1 => if r1 = 0 then (some ((-2), r_size, r_rows, r_ins)) else (Option.bind (pX6_holds r_len r_size r_rows p1) (fun r2 => if r2 = 0 then (Option.bind (pX6_isFull r_len r_size) (fun r3 => if r3 = 0 then (Option.bind (pX6_append r_len r_size r_parts r_rows r_ins p1) (fun r4 => some (r4.1 - 1, r4.1, r4.2.1, r4.2.2))) else (some ((-4), r_size, r_rows, r_ins)))) else (some ((-2), r_size, r_rows, r_ins))))))
set_option maxHeartbeats 4000000 in
set_option maxRecDepth 100000 in
theorem c_X9_set (l : Launch) (dC : Nat → ClassId) (dI : Nat → Nat → Nat) (a_x : Nat) (a_x_costs : Nat) (a_r : Nat) (a_r_rows : Nat) (a_r_ins : Nat) (a_u : Nat) (a_q : Nat) (a_h : Nat) (a_f : Nat) (a_w : Nat) (a_o : Nat) (a_z : Nat) (a_g : Nat) (a_k : Nat) (c_r_rows c_r_ins : ClassId) (r_len : Nat) (sz : Nat) (r_size : Int32) (r_n : Int32) (r_parts : Int32) (r_rows : Nat → Int32) (r_ins : Nat → Int32) (p1 : Int32) (rv : Int32 × Int32 × (Nat → Int32) × (Nat → Int32)) (hs : pX9_set r_len r_size r_parts r_rows r_ins p1 = some rv) : Met l yX9_set wsX9_set ({ frames := 2, cells := 0, slots := 0, locals := 44 }) (sPc [.ref a_x, .int p1] (dC, dI) [(c_r_rows, .int), (c_r_ins, .int)] [(a_x, .inr (9, [.ref a_x_costs, .ref a_r, .ref a_u, .ref a_q, .ref a_h, .ref a_f, .ref a_w, .ref a_o, .ref a_z, .ref a_g, .ref a_k])), (a_r, .inr (6, [.ref a_r_rows, .ref a_r_ins, .int r_size, .int r_n, .int r_parts])), (a_r_rows, .inl (c_r_rows, r_len, .inl r_rows)), (a_r_ins, .inl (c_r_ins, 1024, .inl r_ins))] sz) (va_Qi (fun (r : Int32) (_ : Unit) => r = rv.1) (sB (dC, dI) [(c_r_rows, .int), (c_r_ins, .int)] (va_A [(a_x, .inr (9, [.ref a_x_costs, .ref a_r, .ref a_u, .ref a_q, .ref a_h, .ref a_f, .ref a_w, .ref a_o, .ref a_z, .ref a_g, .ref a_k])), (a_r, .inr (6, [.ref a_r_rows, .ref a_r_ins, .int r_size, .int r_n, .int r_parts])), (a_r_rows, .inl (c_r_rows, r_len, .inl r_rows)), (a_r_ins, .inl (c_r_ins, 1024, .inl r_ins))] sz) [(a_x, .inr (9, [.ref a_x_costs, .ref a_r, .ref a_u, .ref a_q, .ref a_h, .ref a_f, .ref a_w, .ref a_o, .ref a_z, .ref a_g, .ref a_k])), (a_r, .inr (6, [.ref a_r_rows, .ref a_r_ins, .int rv.2.1, .int r_n, .int r_parts])), (a_r_rows, .inl (c_r_rows, r_len, .inl rv.2.2.1)), (a_r_ins, .inl (c_r_ins, 1024, .inl rv.2.2.2))]) (va_A [(a_x, .inr (9, [.ref a_x_costs, .ref a_r, .ref a_u, .ref a_q, .ref a_h, .ref a_f, .ref a_w, .ref a_o, .ref a_z, .ref a_g, .ref a_k])), (a_r, .inr (6, [.ref a_r_rows, .ref a_r_ins, .int r_size, .int r_n, .int r_parts])), (a_r_rows, .inl (c_r_rows, r_len, .inl r_rows)), (a_r_ins, .inl (c_r_ins, 1024, .inl r_ins))] sz)) 0 0 (va_A [(a_x, .inr (9, [.ref a_x_costs, .ref a_r, .ref a_u, .ref a_q, .ref a_h, .ref a_f, .ref a_w, .ref a_o, .ref a_z, .ref a_g, .ref a_k])), (a_r, .inr (6, [.ref a_r_rows, .ref a_r_ins, .int r_size, .int r_n, .int r_parts])), (a_r_rows, .inl (c_r_rows, r_len, .inl r_rows)), (a_r_ins, .inl (c_r_ins, 1024, .inl r_ins))] sz) := by
  refine Met.ofW (cc := cX9_set) (maxL := 2) (ret := (some .int)) (by decide) rfl ?_
  intro p e s m args below meth c s₁ B hml hv
  obtain ⟨rfl, hsz, hP, hK, hD0, hN⟩ := hv
  have hx := B.exec
  have hb := B.bytes
  have hr := B.returns
  have hts := atoms_spec (ws := wsX9_set) B.pre
  have hown : s.vm.findClass RX9 = some m.cls := findClass_of_methodNamed B.named
  have hlocks := B.notSynchronized
  subst hsz
  have hD := hD0.self (sz := s.heap.size)
  generalize hAe : va_A [(a_x, .inr (9, [.ref a_x_costs, .ref a_r, .ref a_u, .ref a_q, .ref a_h, .ref a_f, .ref a_w, .ref a_o, .ref a_z, .ref a_g, .ref a_k])), (a_r, .inr (6, [.ref a_r_rows, .ref a_r_ins, .int r_size, .int r_n, .int r_parts])), (a_r_rows, .inl (c_r_rows, r_len, .inl r_rows)), (a_r_ins, .inl (c_r_ins, 1024, .inl r_ins))] s.heap.size = A at hD hN ⊢
  have hA : ∀ q : Nat, s.heap.size ≤ q → A q := fun q h => by rw [← hAe]; exact Or.inr h
  have hS : va_S A s.heap s.heap [] := va_S.rf
  have hP : va_P (dC, dI) vwCl [(a_x, .inr (9, [.ref a_x_costs, .ref a_r, .ref a_u, .ref a_q, .ref a_h, .ref a_f, .ref a_w, .ref a_o, .ref a_z, .ref a_g, .ref a_k])), (a_r, .inr (6, [.ref a_r_rows, .ref a_r_ins, .int r_size, .int r_n, .int r_parts])), (a_r_rows, .inl (c_r_rows, r_len, .inl r_rows)), (a_r_ins, .inl (c_r_ins, 1024, .inl r_ins))] s.heap := hP
  have hl := lv_entry ([.ref a_x, .int p1]) (n := 2) (Nat.le_of_ble_eq_true rfl)
  rw [lg_entry_eq]
  generalize (lg_sl ([.ref a_x, .int p1]) ++ List.replicate (2 - (lg_sl ([.ref a_x, .int p1])).length) Slot.unset).toArray = ls at hl ⊢
  have hl : lv_has ls 2 [(0, .ref a_x), (1, .int p1)] := hl
  have hiX9 : ∀ w ∈ wsX90, w ∈ wsX9_set := fun _ h => List.mem_cons_of_mem _ (List.mem_append_left _ (List.mem_append_right _ h))
  have hf23 := hts (.fieldLink RX9 23 "MeetSets" "list" "LMeetSets$SetRow;") (t1_ (al_ (al_ (al_ h1_))))
  have hiX6 : ∀ w ∈ wsX60, w ∈ wsX9_set := fun _ h => List.mem_cons_of_mem _ (List.mem_append_right _ h)
  have hf106 := hts (.fieldLink RX9 106 "MeetSets$SetRow" "size" "I") (t1_ (al_ (al_ (al_ (t1_ h1_)))))
  refine w_abs (fun Z hZv hZw => ?_)
  refine hZv ?_
  obtain ⟨H, hH⟩ : ∃ H, H = s.heap := ⟨_, rfl⟩
  obtain ⟨locs, hlo⟩ : ∃ L : List Loc, L = [] := ⟨_, rfl⟩
  rw [← hlo, ← hH]
  have hS : va_S A s.heap H locs := by rw [hlo, hH]; exact hS
  have hP : va_P (dC, dI) vwCl [(a_x, .inr (9, [.ref a_x_costs, .ref a_r, .ref a_u, .ref a_q, .ref a_h, .ref a_f, .ref a_w, .ref a_o, .ref a_z, .ref a_g, .ref a_k])), (a_r, .inr (6, [.ref a_r_rows, .ref a_r_ins, .int r_size, .int r_n, .int r_parts])), (a_r_rows, .inl (c_r_rows, r_len, .inl r_rows)), (a_r_ins, .inl (c_r_ins, 1024, .inl r_ins))] H := by rw [hH]; exact hP
  clear hH hlo
  unfold pX9_set at hs
  refine lv_iload_n hx hb dX9_set_0 rfl (lv_at hl 1 rfl) ?_
  refine lv_if_eq (tgt := 26) hx hb dX9_set_1 (by decide) (fun hc => ?_) (fun hc => ?_)
  · replace hs := it_t hc hs
    refine lv_bipush (v := (-2)) hx hb dX9_set_26 (by decide) ?_
    replace hs := Option.some.inj hs
    subst hs
    exact W.iret (v := (-2)) hx hb hr (fun t ht hW => ⟨⟨(-2), (), rfl, rfl, by rw [ht]; exact hP, va_K.moved hW.alike hK, hD⟩, hS.F ht⟩) hS.2.2 dX9_set_28
  · replace hs := it_f hc hs
    refine lv_aload_n hx hb dX9_set_4 rfl (lv_at hl 0 rfl) ?_
    refine va_get (D := (dC, dI)) (ci := 9) (v := .ref a_r) (C := RX9) (T := TX9) (N := 11) hx hb hts hiX9 hown hK hP 0 rfl rfl 1 (by decide) hf23 (fun _ h9 => h9) rfl dX9_set_5 ?_
    refine lv_iload_n hx hb dX9_set_8 rfl (lv_at hl 1 rfl) ?_
    obtain ⟨r1, hr1, hs⟩ := bd_s hs
    refine kc_i (isC := [1]) (isR := [0, 2, 3]) (pm := [0, 3, 1, 2]) (wr := [(a_x, .inr (9, [.ref a_x_costs, .ref a_r, .ref a_u, .ref a_q, .ref a_h, .ref a_f, .ref a_w, .ref a_o, .ref a_z, .ref a_g, .ref a_k])), (a_r_rows, .inl (c_r_rows, r_len, .inl r_rows)), (a_r_ins, .inl (c_r_ins, 1024, .inl r_ins))]) (w1 := [(a_r, .inr (6, [.ref a_r_rows, .ref a_r_ins, .int r_size, .int r_n, .int r_parts]))]) (w2 := [(a_x, .inr (9, [.ref a_x_costs, .ref a_r, .ref a_u, .ref a_q, .ref a_h, .ref a_f, .ref a_w, .ref a_o, .ref a_z, .ref a_g, .ref a_k])), (a_r, .inr (6, [.ref a_r_rows, .ref a_r_ins, .int r_size, .int r_n, .int r_parts])), (a_r_rows, .inl (c_r_rows, r_len, .inl r_rows)), (a_r_ins, .inl (c_r_ins, 1024, .inl r_ins))]) (va_runV (As := [.int p1]) (rest := []) ⟨hx, hb, hml, hown, hts⟩ (c_X6_isPart l dC dI a_r a_r_rows a_r_ins H.size r_size r_n r_parts p1 r1 hr1) (cwV 1 hts gX9_set_X6_isPart rfl rfl rfl (by decide +kernel) ⟨Nat.le_of_ble_eq_true rfl, Nat.le_of_ble_eq_true rfl⟩) (kp_V hK hP hD hS hA hN (isC := [1]) (isT := []) (wc := [(a_r, .inr (6, [.ref a_r_rows, .ref a_r_ins, .int r_size, .int r_n, .int r_parts]))]) rfl (by decide +kernel) rfl (ci := 6) (q0 := 0) rfl rfl) rfl rfl hl.1 rfl (lv_room (Nat.le_of_ble_eq_true rfl)) dX9_set_9 ⟨Nat.le_of_ble_eq_true rfl, Nat.le_of_ble_eq_true rfl⟩) hP hD hS hA rfl rfl (by decide +kernel) (by decide +kernel) rfl (by decide +kernel) (fun H locs hP hD hS => ?_)
    refine lv_if_eq (tgt := 26) hx hb dX9_set_12 (by decide) (fun hc => ?_) (fun hc => ?_)
    · replace hs := it_t hc hs
      refine lv_bipush (v := (-2)) hx hb dX9_set_26 (by decide) ?_
      replace hs := Option.some.inj hs
      subst hs
      exact W.iret (v := (-2)) hx hb hr (fun t ht hW => ⟨⟨(-2), (), rfl, rfl, by rw [ht]; exact hP, va_K.moved hW.alike hK, hD⟩, hS.F ht⟩) hS.2.2 dX9_set_28
    · replace hs := it_f hc hs
      refine lv_aload_n hx hb dX9_set_15 rfl (lv_at hl 0 rfl) ?_
      refine va_get (D := (dC, dI)) (ci := 9) (v := .ref a_r) (C := RX9) (T := TX9) (N := 11) hx hb hts hiX9 hown hK hP 0 rfl rfl 1 (by decide) hf23 (fun _ h9 => h9) rfl dX9_set_16 ?_
      refine lv_iload_n hx hb dX9_set_19 rfl (lv_at hl 1 rfl) ?_
      obtain ⟨r2, hr2, hs⟩ := bd_s hs
      refine kc_i (isC := [1, 2]) (isR := [0, 3]) (pm := [0, 2, 3, 1]) (wr := [(a_x, .inr (9, [.ref a_x_costs, .ref a_r, .ref a_u, .ref a_q, .ref a_h, .ref a_f, .ref a_w, .ref a_o, .ref a_z, .ref a_g, .ref a_k])), (a_r_ins, .inl (c_r_ins, 1024, .inl r_ins))]) (w1 := [(a_r, .inr (6, [.ref a_r_rows, .ref a_r_ins, .int r_size, .int r_n, .int r_parts])), (a_r_rows, .inl (c_r_rows, r_len, .inl r_rows))]) (w2 := [(a_x, .inr (9, [.ref a_x_costs, .ref a_r, .ref a_u, .ref a_q, .ref a_h, .ref a_f, .ref a_w, .ref a_o, .ref a_z, .ref a_g, .ref a_k])), (a_r, .inr (6, [.ref a_r_rows, .ref a_r_ins, .int r_size, .int r_n, .int r_parts])), (a_r_rows, .inl (c_r_rows, r_len, .inl r_rows)), (a_r_ins, .inl (c_r_ins, 1024, .inl r_ins))]) (va_runV (As := [.int p1]) (rest := []) ⟨hx, hb, hml, hown, hts⟩ (c_X6_holds l dC dI a_r a_r_rows a_r_ins c_r_rows r_len H.size r_size r_n r_parts r_rows p1 r2 hr2) (cwV 1 hts gX9_set_X6_holds rfl rfl rfl (by decide +kernel) ⟨Nat.le_of_ble_eq_true rfl, Nat.le_of_ble_eq_true rfl⟩) (kp_V hK hP hD hS hA hN (isC := [1, 2]) (isT := [0]) (wc := [(a_r, .inr (6, [.ref a_r_rows, .ref a_r_ins, .int r_size, .int r_n, .int r_parts])), (a_r_rows, .inl (c_r_rows, r_len, .inl r_rows))]) rfl (by decide +kernel) rfl (ci := 6) (q0 := 0) rfl rfl) rfl rfl hl.1 rfl (lv_room (Nat.le_of_ble_eq_true rfl)) dX9_set_20 ⟨Nat.le_of_ble_eq_true rfl, Nat.le_of_ble_eq_true rfl⟩) hP hD hS hA rfl rfl (by decide +kernel) (by decide +kernel) rfl (by decide +kernel) (fun H locs hP hD hS => ?_)
      refine lv_if_eq (tgt := 29) hx hb dX9_set_23 (by decide) (fun hc => ?_) (fun hc => ?_)
      · replace hs := it_t hc hs
        refine lv_aload_n hx hb dX9_set_29 rfl (lv_at hl 0 rfl) ?_
        refine va_get (D := (dC, dI)) (ci := 9) (v := .ref a_r) (C := RX9) (T := TX9) (N := 11) hx hb hts hiX9 hown hK hP 0 rfl rfl 1 (by decide) hf23 (fun _ h9 => h9) rfl dX9_set_30 ?_
        obtain ⟨r3, hr3, hs⟩ := bd_s hs
        refine kc_i (isC := [1, 2]) (isR := [0, 3]) (pm := [0, 2, 3, 1]) (wr := [(a_x, .inr (9, [.ref a_x_costs, .ref a_r, .ref a_u, .ref a_q, .ref a_h, .ref a_f, .ref a_w, .ref a_o, .ref a_z, .ref a_g, .ref a_k])), (a_r_ins, .inl (c_r_ins, 1024, .inl r_ins))]) (w1 := [(a_r, .inr (6, [.ref a_r_rows, .ref a_r_ins, .int r_size, .int r_n, .int r_parts])), (a_r_rows, .inl (c_r_rows, r_len, .inl r_rows))]) (w2 := [(a_x, .inr (9, [.ref a_x_costs, .ref a_r, .ref a_u, .ref a_q, .ref a_h, .ref a_f, .ref a_w, .ref a_o, .ref a_z, .ref a_g, .ref a_k])), (a_r, .inr (6, [.ref a_r_rows, .ref a_r_ins, .int r_size, .int r_n, .int r_parts])), (a_r_rows, .inl (c_r_rows, r_len, .inl r_rows)), (a_r_ins, .inl (c_r_ins, 1024, .inl r_ins))]) (va_runV (As := []) (rest := []) ⟨hx, hb, hml, hown, hts⟩ (c_X6_isFull l dC dI a_r a_r_rows a_r_ins c_r_rows r_len H.size r_size r_n r_parts r_rows r3 hr3) (cwV 0 hts gX9_set_X6_isFull rfl rfl rfl (by decide +kernel) ⟨Nat.le_of_ble_eq_true rfl, Nat.le_of_ble_eq_true rfl⟩) (kp_V hK hP hD hS hA hN (isC := [1, 2]) (isT := [0]) (wc := [(a_r, .inr (6, [.ref a_r_rows, .ref a_r_ins, .int r_size, .int r_n, .int r_parts])), (a_r_rows, .inl (c_r_rows, r_len, .inl r_rows))]) rfl (by decide +kernel) rfl (ci := 6) (q0 := 0) rfl rfl) rfl rfl hl.1 rfl (lv_room (Nat.le_of_ble_eq_true rfl)) dX9_set_33 ⟨Nat.le_of_ble_eq_true rfl, Nat.le_of_ble_eq_true rfl⟩) hP hD hS hA rfl rfl (by decide +kernel) (by decide +kernel) rfl (by decide +kernel) (fun H locs hP hD hS => ?_)
        refine lv_if_eq (tgt := 42) hx hb dX9_set_36 (by decide) (fun hc => ?_) (fun hc => ?_)
        · replace hs := it_t hc hs
          refine lv_aload_n hx hb dX9_set_42 rfl (lv_at hl 0 rfl) ?_
          refine va_get (D := (dC, dI)) (ci := 9) (v := .ref a_r) (C := RX9) (T := TX9) (N := 11) hx hb hts hiX9 hown hK hP 0 rfl rfl 1 (by decide) hf23 (fun _ h9 => h9) rfl dX9_set_43 ?_
          refine lv_iload_n hx hb dX9_set_46 rfl (lv_at hl 1 rfl) ?_
          obtain ⟨r4, hr4, hs⟩ := bd_s hs
          refine kc_v (isC := [1, 2, 3]) (isR := [0]) (pm := [0, 1, 2, 3]) (wr := [(a_x, .inr (9, [.ref a_x_costs, .ref a_r, .ref a_u, .ref a_q, .ref a_h, .ref a_f, .ref a_w, .ref a_o, .ref a_z, .ref a_g, .ref a_k]))]) (w1 := [(a_r, .inr (6, [.ref a_r_rows, .ref a_r_ins, .int r4.1, .int r_n, .int r_parts])), (a_r_rows, .inl (c_r_rows, r_len, .inl r4.2.1)), (a_r_ins, .inl (c_r_ins, 1024, .inl r4.2.2))]) (w2 := [(a_x, .inr (9, [.ref a_x_costs, .ref a_r, .ref a_u, .ref a_q, .ref a_h, .ref a_f, .ref a_w, .ref a_o, .ref a_z, .ref a_g, .ref a_k])), (a_r, .inr (6, [.ref a_r_rows, .ref a_r_ins, .int r4.1, .int r_n, .int r_parts])), (a_r_rows, .inl (c_r_rows, r_len, .inl r4.2.1)), (a_r_ins, .inl (c_r_ins, 1024, .inl r4.2.2))]) (va_runV (As := [.int p1]) (rest := []) ⟨hx, hb, hml, hown, hts⟩ (c_X6_append l dC dI a_r a_r_rows a_r_ins c_r_rows c_r_ins r_len H.size r_size r_n r_parts r_rows r_ins p1 r4 hr4) (cwV 1 hts gX9_set_X6_append rfl rfl rfl (by decide +kernel) ⟨Nat.le_of_ble_eq_true rfl, Nat.le_of_ble_eq_true rfl⟩) (kp_V hK hP hD hS hA hN (isC := [1, 2, 3]) (isT := [0, 1]) (wc := [(a_r, .inr (6, [.ref a_r_rows, .ref a_r_ins, .int r_size, .int r_n, .int r_parts])), (a_r_rows, .inl (c_r_rows, r_len, .inl r_rows)), (a_r_ins, .inl (c_r_ins, 1024, .inl r_ins))]) rfl (by decide +kernel) rfl (ci := 6) (q0 := 0) rfl rfl) rfl rfl hl.1 rfl (lv_room (Nat.le_of_ble_eq_true rfl)) dX9_set_47 ⟨Nat.le_of_ble_eq_true rfl, Nat.le_of_ble_eq_true rfl⟩) hP hD hS hA rfl rfl (by decide +kernel) (by decide +kernel) rfl (by decide +kernel) (fun H locs hP hD hS => ?_)
          refine lv_aload_n hx hb dX9_set_50 rfl (lv_at hl 0 rfl) ?_
          refine va_get (D := (dC, dI)) (ci := 9) (v := .ref a_r) (C := RX9) (T := TX9) (N := 11) hx hb hts hiX9 hown hK hP 0 rfl rfl 1 (by decide) hf23 (fun _ h9 => h9) rfl dX9_set_51 ?_
          refine va_get (D := (dC, dI)) (ci := 6) (v := .int r4.1) (C := RX6) (T := TX6) (N := 5) hx hb hts hiX6 hown hK hP 1 rfl rfl 2 (by decide) hf106 (fun _ h9 => h9) rfl dX9_set_54 ?_
          refine lv_iconst (v := 1) hx hb dX9_set_57 (by decide) ?_
          refine lv_isub hx hb dX9_set_58 ?_
          replace hs := Option.some.inj hs
          subst hs
          exact W.iret (v := r4.1 - 1) hx hb hr (fun t ht hW => ⟨⟨r4.1 - 1, (), rfl, rfl, by rw [ht]; exact hP, va_K.moved hW.alike hK, hD⟩, hS.F ht⟩) hS.2.2 dX9_set_59
        · replace hs := it_f hc hs
          refine lv_bipush (v := (-4)) hx hb dX9_set_39 (by decide) ?_
          replace hs := Option.some.inj hs
          subst hs
          exact W.iret (v := (-4)) hx hb hr (fun t ht hW => ⟨⟨(-4), (), rfl, rfl, by rw [ht]; exact hP, va_K.moved hW.alike hK, hD⟩, hS.F ht⟩) hS.2.2 dX9_set_41
      · replace hs := it_f hc hs
        refine lv_bipush (v := (-2)) hx hb dX9_set_26 (by decide) ?_
        replace hs := Option.some.inj hs
        subst hs
        exact W.iret (v := (-2)) hx hb hr (fun t ht hW => ⟨⟨(-2), (), rfl, rfl, by rw [ht]; exact hP, va_K.moved hW.alike hK, hD⟩, hS.F ht⟩) hS.2.2 dX9_set_28
noncomputable def pX9_drop (r_len : Nat) (r_size : Int32) (r_parts : Int32) (r_rows : Nat → Int32) (r_ins : Nat → Int32) : Option (Int32 × Int32 × (Nat → Int32)) :=
  if r_size = 0 then (some ((-3), r_size, r_ins)) else (Option.bind (pX6_removeLast r_len r_size r_parts r_rows r_ins) (fun r1 => some (r1.1, r1.2.1, r1.2.2)))
set_option maxHeartbeats 4000000 in
set_option maxRecDepth 100000 in
theorem c_X9_drop (l : Launch) (dC : Nat → ClassId) (dI : Nat → Nat → Nat) (a_x : Nat) (a_x_costs : Nat) (a_r : Nat) (a_r_rows : Nat) (a_r_ins : Nat) (a_u : Nat) (a_q : Nat) (a_h : Nat) (a_f : Nat) (a_w : Nat) (a_o : Nat) (a_z : Nat) (a_g : Nat) (a_k : Nat) (c_r_rows c_r_ins : ClassId) (r_len : Nat) (sz : Nat) (r_size : Int32) (r_n : Int32) (r_parts : Int32) (r_rows : Nat → Int32) (r_ins : Nat → Int32) (rv : Int32 × Int32 × (Nat → Int32)) (hs : pX9_drop r_len r_size r_parts r_rows r_ins = some rv) : Met l yX9_drop wsX9_drop ({ frames := 2, cells := 0, slots := 0, locals := 43 }) (sPc [.ref a_x] (dC, dI) [(c_r_rows, .int), (c_r_ins, .int)] [(a_x, .inr (9, [.ref a_x_costs, .ref a_r, .ref a_u, .ref a_q, .ref a_h, .ref a_f, .ref a_w, .ref a_o, .ref a_z, .ref a_g, .ref a_k])), (a_r, .inr (6, [.ref a_r_rows, .ref a_r_ins, .int r_size, .int r_n, .int r_parts])), (a_r_rows, .inl (c_r_rows, r_len, .inl r_rows)), (a_r_ins, .inl (c_r_ins, 1024, .inl r_ins))] sz) (va_Qi (fun (r : Int32) (_ : Unit) => r = rv.1) (sB (dC, dI) [(c_r_rows, .int), (c_r_ins, .int)] (va_A [(a_x, .inr (9, [.ref a_x_costs, .ref a_r, .ref a_u, .ref a_q, .ref a_h, .ref a_f, .ref a_w, .ref a_o, .ref a_z, .ref a_g, .ref a_k])), (a_r, .inr (6, [.ref a_r_rows, .ref a_r_ins, .int r_size, .int r_n, .int r_parts])), (a_r_rows, .inl (c_r_rows, r_len, .inl r_rows)), (a_r_ins, .inl (c_r_ins, 1024, .inl r_ins))] sz) [(a_x, .inr (9, [.ref a_x_costs, .ref a_r, .ref a_u, .ref a_q, .ref a_h, .ref a_f, .ref a_w, .ref a_o, .ref a_z, .ref a_g, .ref a_k])), (a_r, .inr (6, [.ref a_r_rows, .ref a_r_ins, .int rv.2.1, .int r_n, .int r_parts])), (a_r_rows, .inl (c_r_rows, r_len, .inl r_rows)), (a_r_ins, .inl (c_r_ins, 1024, .inl rv.2.2))]) (va_A [(a_x, .inr (9, [.ref a_x_costs, .ref a_r, .ref a_u, .ref a_q, .ref a_h, .ref a_f, .ref a_w, .ref a_o, .ref a_z, .ref a_g, .ref a_k])), (a_r, .inr (6, [.ref a_r_rows, .ref a_r_ins, .int r_size, .int r_n, .int r_parts])), (a_r_rows, .inl (c_r_rows, r_len, .inl r_rows)), (a_r_ins, .inl (c_r_ins, 1024, .inl r_ins))] sz)) 0 0 (va_A [(a_x, .inr (9, [.ref a_x_costs, .ref a_r, .ref a_u, .ref a_q, .ref a_h, .ref a_f, .ref a_w, .ref a_o, .ref a_z, .ref a_g, .ref a_k])), (a_r, .inr (6, [.ref a_r_rows, .ref a_r_ins, .int r_size, .int r_n, .int r_parts])), (a_r_rows, .inl (c_r_rows, r_len, .inl r_rows)), (a_r_ins, .inl (c_r_ins, 1024, .inl r_ins))] sz) := by
  refine Met.ofW (cc := cX9_drop) (maxL := 1) (ret := (some .int)) (by decide) rfl ?_
  intro p e s m args below meth c s₁ B hml hv
  obtain ⟨rfl, hsz, hP, hK, hD0, hN⟩ := hv
  have hx := B.exec
  have hb := B.bytes
  have hr := B.returns
  have hts := atoms_spec (ws := wsX9_drop) B.pre
  have hown : s.vm.findClass RX9 = some m.cls := findClass_of_methodNamed B.named
  have hlocks := B.notSynchronized
  subst hsz
  have hD := hD0.self (sz := s.heap.size)
  generalize hAe : va_A [(a_x, .inr (9, [.ref a_x_costs, .ref a_r, .ref a_u, .ref a_q, .ref a_h, .ref a_f, .ref a_w, .ref a_o, .ref a_z, .ref a_g, .ref a_k])), (a_r, .inr (6, [.ref a_r_rows, .ref a_r_ins, .int r_size, .int r_n, .int r_parts])), (a_r_rows, .inl (c_r_rows, r_len, .inl r_rows)), (a_r_ins, .inl (c_r_ins, 1024, .inl r_ins))] s.heap.size = A at hD hN ⊢
  have hA : ∀ q : Nat, s.heap.size ≤ q → A q := fun q h => by rw [← hAe]; exact Or.inr h
  have hS : va_S A s.heap s.heap [] := va_S.rf
  have hP : va_P (dC, dI) vwCl [(a_x, .inr (9, [.ref a_x_costs, .ref a_r, .ref a_u, .ref a_q, .ref a_h, .ref a_f, .ref a_w, .ref a_o, .ref a_z, .ref a_g, .ref a_k])), (a_r, .inr (6, [.ref a_r_rows, .ref a_r_ins, .int r_size, .int r_n, .int r_parts])), (a_r_rows, .inl (c_r_rows, r_len, .inl r_rows)), (a_r_ins, .inl (c_r_ins, 1024, .inl r_ins))] s.heap := hP
  have hl := lv_entry ([.ref a_x]) (n := 1) (Nat.le_of_ble_eq_true rfl)
  rw [lg_entry_eq]
  generalize (lg_sl ([.ref a_x]) ++ List.replicate (1 - (lg_sl ([.ref a_x])).length) Slot.unset).toArray = ls at hl ⊢
  have hl : lv_has ls 1 [(0, .ref a_x)] := hl
  have hiX9 : ∀ w ∈ wsX90, w ∈ wsX9_drop := fun _ h => List.mem_cons_of_mem _ (List.mem_append_left _ (List.mem_append_right _ h))
  have hf23 := hts (.fieldLink RX9 23 "MeetSets" "list" "LMeetSets$SetRow;") (t1_ (al_ (al_ h1_)))
  have hiX6 : ∀ w ∈ wsX60, w ∈ wsX9_drop := fun _ h => List.mem_cons_of_mem _ (List.mem_append_right _ h)
  have hf106 := hts (.fieldLink RX9 106 "MeetSets$SetRow" "size" "I") (t1_ (al_ (al_ (t1_ h1_))))
  refine w_abs (fun Z hZv hZw => ?_)
  refine hZv ?_
  obtain ⟨H, hH⟩ : ∃ H, H = s.heap := ⟨_, rfl⟩
  obtain ⟨locs, hlo⟩ : ∃ L : List Loc, L = [] := ⟨_, rfl⟩
  rw [← hlo, ← hH]
  have hS : va_S A s.heap H locs := by rw [hlo, hH]; exact hS
  have hP : va_P (dC, dI) vwCl [(a_x, .inr (9, [.ref a_x_costs, .ref a_r, .ref a_u, .ref a_q, .ref a_h, .ref a_f, .ref a_w, .ref a_o, .ref a_z, .ref a_g, .ref a_k])), (a_r, .inr (6, [.ref a_r_rows, .ref a_r_ins, .int r_size, .int r_n, .int r_parts])), (a_r_rows, .inl (c_r_rows, r_len, .inl r_rows)), (a_r_ins, .inl (c_r_ins, 1024, .inl r_ins))] H := by rw [hH]; exact hP
  clear hH hlo
  unfold pX9_drop at hs
  refine lv_aload_n hx hb dX9_drop_0 rfl (lv_at hl 0 rfl) ?_
  refine va_get (D := (dC, dI)) (ci := 9) (v := .ref a_r) (C := RX9) (T := TX9) (N := 11) hx hb hts hiX9 hown hK hP 0 rfl rfl 1 (by decide) hf23 (fun _ h9 => h9) rfl dX9_drop_1 ?_
  refine va_get (D := (dC, dI)) (ci := 6) (v := .int r_size) (C := RX6) (T := TX6) (N := 5) hx hb hts hiX6 hown hK hP 1 rfl rfl 2 (by decide) hf106 (fun _ h9 => h9) rfl dX9_drop_4 ?_
  refine lv_if_ne (tgt := 15) hx hb dX9_drop_7 (by decide) (fun hc => ?_) (fun hc => ?_)
  · replace hs := it_f hc hs
    refine lv_aload_n hx hb dX9_drop_15 rfl (lv_at hl 0 rfl) ?_
    refine va_get (D := (dC, dI)) (ci := 9) (v := .ref a_r) (C := RX9) (T := TX9) (N := 11) hx hb hts hiX9 hown hK hP 0 rfl rfl 1 (by decide) hf23 (fun _ h9 => h9) rfl dX9_drop_16 ?_
    obtain ⟨r1, hr1, hs⟩ := bd_s hs
    refine kc_i (isC := [1, 2, 3]) (isR := [0]) (pm := [0, 1, 2, 3]) (wr := [(a_x, .inr (9, [.ref a_x_costs, .ref a_r, .ref a_u, .ref a_q, .ref a_h, .ref a_f, .ref a_w, .ref a_o, .ref a_z, .ref a_g, .ref a_k]))]) (w1 := [(a_r, .inr (6, [.ref a_r_rows, .ref a_r_ins, .int r1.2.1, .int r_n, .int r_parts])), (a_r_rows, .inl (c_r_rows, r_len, .inl r_rows)), (a_r_ins, .inl (c_r_ins, 1024, .inl r1.2.2))]) (w2 := [(a_x, .inr (9, [.ref a_x_costs, .ref a_r, .ref a_u, .ref a_q, .ref a_h, .ref a_f, .ref a_w, .ref a_o, .ref a_z, .ref a_g, .ref a_k])), (a_r, .inr (6, [.ref a_r_rows, .ref a_r_ins, .int r1.2.1, .int r_n, .int r_parts])), (a_r_rows, .inl (c_r_rows, r_len, .inl r_rows)), (a_r_ins, .inl (c_r_ins, 1024, .inl r1.2.2))]) (va_runV (As := []) (rest := []) ⟨hx, hb, hml, hown, hts⟩ (c_X6_removeLast l dC dI a_r a_r_rows a_r_ins c_r_rows c_r_ins r_len H.size r_size r_n r_parts r_rows r_ins r1 hr1) (cwV 0 hts gX9_drop_X6_removeLast rfl rfl rfl (by decide +kernel) ⟨Nat.le_of_ble_eq_true rfl, Nat.le_of_ble_eq_true rfl⟩) (kp_V hK hP hD hS hA hN (isC := [1, 2, 3]) (isT := [0, 1]) (wc := [(a_r, .inr (6, [.ref a_r_rows, .ref a_r_ins, .int r_size, .int r_n, .int r_parts])), (a_r_rows, .inl (c_r_rows, r_len, .inl r_rows)), (a_r_ins, .inl (c_r_ins, 1024, .inl r_ins))]) rfl (by decide +kernel) rfl (ci := 6) (q0 := 0) rfl rfl) rfl rfl hl.1 rfl (lv_room (Nat.le_of_ble_eq_true rfl)) dX9_drop_19 ⟨Nat.le_of_ble_eq_true rfl, Nat.le_of_ble_eq_true rfl⟩) hP hD hS hA rfl rfl (by decide +kernel) (by decide +kernel) rfl (by decide +kernel) (fun H locs hP hD hS => ?_)
    replace hs := Option.some.inj hs
    subst hs
    exact W.iret (v := r1.1) hx hb hr (fun t ht hW => ⟨⟨r1.1, (), rfl, rfl, by rw [ht]; exact hP, va_K.moved hW.alike hK, hD⟩, hS.F ht⟩) hS.2.2 dX9_drop_22
  · replace hs := it_t hc hs
    refine lv_bipush (v := (-3)) hx hb dX9_drop_10 (by decide) ?_
    refine lv_goto (tgt := 22) hx hb dX9_drop_12 (by decide) ?_
    replace hs := Option.some.inj hs
    subst hs
    exact W.iret (v := (-3)) hx hb hr (fun t ht hW => ⟨⟨(-3), (), rfl, rfl, by rw [ht]; exact hP, va_K.moved hW.alike hK, hD⟩, hS.F ht⟩) hS.2.2 dX9_drop_22
noncomputable def pX9_cost (x_costs : Nat → Int32) (r_n : Int32) (p1 : Int32) (p2 : Int32) : Option (Int32 × (Nat → Int32)) :=
  Option.bind (pX9_isElement r_n p1) (fun r1 => if r1 = 0 then (some ((-2), x_costs)) else (if p2 < 0 then (some ((-2), x_costs)) else (if p2 ≤ 20 then (gd (vp_in p1 10) (gd (vp_in p1 10) (some (x_costs p1.toNatClampNeg, upd x_costs p1.toNatClampNeg p2)))) else (some ((-2), x_costs)))))
set_option maxHeartbeats 4000000 in
set_option maxRecDepth 100000 in
theorem c_X9_cost (l : Launch) (dC : Nat → ClassId) (dI : Nat → Nat → Nat) (a_x : Nat) (a_x_costs : Nat) (a_r : Nat) (a_r_rows : Nat) (a_r_ins : Nat) (a_u : Nat) (a_q : Nat) (a_h : Nat) (a_f : Nat) (a_w : Nat) (a_o : Nat) (a_z : Nat) (a_g : Nat) (a_k : Nat) (c_x_costs : ClassId) (sz : Nat) (x_costs : Nat → Int32) (r_size : Int32) (r_n : Int32) (r_parts : Int32) (p1 : Int32) (p2 : Int32) (rv : Int32 × (Nat → Int32)) (hs : pX9_cost x_costs r_n p1 p2 = some rv) : Met l yX9_cost wsX9_cost ({ frames := 1, cells := 0, slots := 0, locals := 21 }) (sPc [.ref a_x, .int p1, .int p2] (dC, dI) [(c_x_costs, .int)] [(a_x, .inr (9, [.ref a_x_costs, .ref a_r, .ref a_u, .ref a_q, .ref a_h, .ref a_f, .ref a_w, .ref a_o, .ref a_z, .ref a_g, .ref a_k])), (a_x_costs, .inl (c_x_costs, 10, .inl x_costs)), (a_r, .inr (6, [.ref a_r_rows, .ref a_r_ins, .int r_size, .int r_n, .int r_parts]))] sz) (va_Qi (fun (r : Int32) (_ : Unit) => r = rv.1) (sB (dC, dI) [(c_x_costs, .int)] (va_A [(a_x, .inr (9, [.ref a_x_costs, .ref a_r, .ref a_u, .ref a_q, .ref a_h, .ref a_f, .ref a_w, .ref a_o, .ref a_z, .ref a_g, .ref a_k])), (a_x_costs, .inl (c_x_costs, 10, .inl x_costs)), (a_r, .inr (6, [.ref a_r_rows, .ref a_r_ins, .int r_size, .int r_n, .int r_parts]))] sz) [(a_x, .inr (9, [.ref a_x_costs, .ref a_r, .ref a_u, .ref a_q, .ref a_h, .ref a_f, .ref a_w, .ref a_o, .ref a_z, .ref a_g, .ref a_k])), (a_x_costs, .inl (c_x_costs, 10, .inl rv.2)), (a_r, .inr (6, [.ref a_r_rows, .ref a_r_ins, .int r_size, .int r_n, .int r_parts]))]) (va_A [(a_x, .inr (9, [.ref a_x_costs, .ref a_r, .ref a_u, .ref a_q, .ref a_h, .ref a_f, .ref a_w, .ref a_o, .ref a_z, .ref a_g, .ref a_k])), (a_x_costs, .inl (c_x_costs, 10, .inl x_costs)), (a_r, .inr (6, [.ref a_r_rows, .ref a_r_ins, .int r_size, .int r_n, .int r_parts]))] sz)) 0 0 (va_A [(a_x, .inr (9, [.ref a_x_costs, .ref a_r, .ref a_u, .ref a_q, .ref a_h, .ref a_f, .ref a_w, .ref a_o, .ref a_z, .ref a_g, .ref a_k])), (a_x_costs, .inl (c_x_costs, 10, .inl x_costs)), (a_r, .inr (6, [.ref a_r_rows, .ref a_r_ins, .int r_size, .int r_n, .int r_parts]))] sz) := by
  refine Met.ofW (cc := cX9_cost) (maxL := 4) (ret := (some .int)) (by decide) rfl ?_
  intro p e s m args below meth c s₁ B hml hv
  obtain ⟨rfl, hsz, hP, hK, hD0, hN⟩ := hv
  have hx := B.exec
  have hb := B.bytes
  have hr := B.returns
  have hts := atoms_spec (ws := wsX9_cost) B.pre
  have hown : s.vm.findClass RX9 = some m.cls := findClass_of_methodNamed B.named
  have hlocks := B.notSynchronized
  subst hsz
  have hD := hD0.self (sz := s.heap.size)
  generalize hAe : va_A [(a_x, .inr (9, [.ref a_x_costs, .ref a_r, .ref a_u, .ref a_q, .ref a_h, .ref a_f, .ref a_w, .ref a_o, .ref a_z, .ref a_g, .ref a_k])), (a_x_costs, .inl (c_x_costs, 10, .inl x_costs)), (a_r, .inr (6, [.ref a_r_rows, .ref a_r_ins, .int r_size, .int r_n, .int r_parts]))] s.heap.size = A at hD hN ⊢
  have hA : ∀ q : Nat, s.heap.size ≤ q → A q := fun q h => by rw [← hAe]; exact Or.inr h
  have hS : va_S A s.heap s.heap [] := va_S.rf
  have hP : va_P (dC, dI) vwCl [(a_x, .inr (9, [.ref a_x_costs, .ref a_r, .ref a_u, .ref a_q, .ref a_h, .ref a_f, .ref a_w, .ref a_o, .ref a_z, .ref a_g, .ref a_k])), (a_x_costs, .inl (c_x_costs, 10, .inl x_costs)), (a_r, .inr (6, [.ref a_r_rows, .ref a_r_ins, .int r_size, .int r_n, .int r_parts]))] s.heap := hP
  have hl := lv_entry ([.ref a_x, .int p1, .int p2]) (n := 4) (Nat.le_of_ble_eq_true rfl)
  rw [lg_entry_eq]
  generalize (lg_sl ([.ref a_x, .int p1, .int p2]) ++ List.replicate (4 - (lg_sl ([.ref a_x, .int p1, .int p2])).length) Slot.unset).toArray = ls at hl ⊢
  have hl : lv_has ls 4 [(0, .ref a_x), (1, .int p1), (2, .int p2)] := hl
  have hiX9 : ∀ w ∈ wsX90, w ∈ wsX9_cost := fun _ h => List.mem_cons_of_mem _ (List.mem_append_left _ (List.mem_append_right _ h))
  have hf9 := hts (.fieldLink RX9 9 "MeetSets" "costs" "[I") (t1_ (al_ (al_ h1_)))
  refine w_abs (fun Z hZv hZw => ?_)
  refine hZv ?_
  obtain ⟨H, hH⟩ : ∃ H, H = s.heap := ⟨_, rfl⟩
  obtain ⟨locs, hlo⟩ : ∃ L : List Loc, L = [] := ⟨_, rfl⟩
  rw [← hlo, ← hH]
  have hS : va_S A s.heap H locs := by rw [hlo, hH]; exact hS
  have hP : va_P (dC, dI) vwCl [(a_x, .inr (9, [.ref a_x_costs, .ref a_r, .ref a_u, .ref a_q, .ref a_h, .ref a_f, .ref a_w, .ref a_o, .ref a_z, .ref a_g, .ref a_k])), (a_x_costs, .inl (c_x_costs, 10, .inl x_costs)), (a_r, .inr (6, [.ref a_r_rows, .ref a_r_ins, .int r_size, .int r_n, .int r_parts]))] H := by rw [hH]; exact hP
  clear hH hlo
  unfold pX9_cost at hs
  refine lv_aload_n hx hb dX9_cost_0 rfl (lv_at hl 0 rfl) ?_
  refine lv_iload_n hx hb dX9_cost_1 rfl (lv_at hl 1 rfl) ?_
  obtain ⟨r1, hr1, hs⟩ := bd_s hs
  refine kc_i (isC := [0, 2]) (isR := [1]) (pm := [1, 0, 2]) (wr := [(a_x_costs, .inl (c_x_costs, 10, .inl x_costs))]) (w1 := [(a_x, .inr (9, [.ref a_x_costs, .ref a_r, .ref a_u, .ref a_q, .ref a_h, .ref a_f, .ref a_w, .ref a_o, .ref a_z, .ref a_g, .ref a_k])), (a_r, .inr (6, [.ref a_r_rows, .ref a_r_ins, .int r_size, .int r_n, .int r_parts]))]) (w2 := [(a_x, .inr (9, [.ref a_x_costs, .ref a_r, .ref a_u, .ref a_q, .ref a_h, .ref a_f, .ref a_w, .ref a_o, .ref a_z, .ref a_g, .ref a_k])), (a_x_costs, .inl (c_x_costs, 10, .inl x_costs)), (a_r, .inr (6, [.ref a_r_rows, .ref a_r_ins, .int r_size, .int r_n, .int r_parts]))]) (va_runV (As := [.int p1]) (rest := []) ⟨hx, hb, hml, hown, hts⟩ (c_X9_isElement l dC dI a_x a_x_costs a_r a_r_rows a_r_ins a_u a_q a_h a_f a_w a_o a_z a_g a_k H.size r_size r_n r_parts p1 r1 hr1) (cwV 1 hts gX9_cost_X9_isElement rfl rfl rfl (by decide +kernel) ⟨Nat.le_of_ble_eq_true rfl, Nat.le_of_ble_eq_true rfl⟩) (kp_V hK hP hD hS hA hN (isC := [0, 2]) (isT := []) (wc := [(a_x, .inr (9, [.ref a_x_costs, .ref a_r, .ref a_u, .ref a_q, .ref a_h, .ref a_f, .ref a_w, .ref a_o, .ref a_z, .ref a_g, .ref a_k])), (a_r, .inr (6, [.ref a_r_rows, .ref a_r_ins, .int r_size, .int r_n, .int r_parts]))]) rfl (by decide +kernel) rfl (ci := 9) (q0 := 0) rfl rfl) rfl rfl hl.1 rfl (lv_room (Nat.le_of_ble_eq_true rfl)) dX9_cost_2 ⟨Nat.le_of_ble_eq_true rfl, Nat.le_of_ble_eq_true rfl⟩) hP hD hS hA rfl rfl (by decide +kernel) (by decide +kernel) rfl (by decide +kernel) (fun H locs hP hD hS => ?_)
  refine lv_if_eq (tgt := 18) hx hb dX9_cost_5 (by decide) (fun hc => ?_) (fun hc => ?_)
  · replace hs := it_t hc hs
    refine lv_bipush (v := (-2)) hx hb dX9_cost_18 (by decide) ?_
    replace hs := Option.some.inj hs
    subst hs
    exact W.iret (v := (-2)) hx hb hr (fun t ht hW => ⟨⟨(-2), (), rfl, rfl, by rw [ht]; exact hP, va_K.moved hW.alike hK, hD⟩, hS.F ht⟩) hS.2.2 dX9_cost_20
  · replace hs := it_f hc hs
    refine lv_iload_n hx hb dX9_cost_8 rfl (lv_at hl 2 rfl) ?_
    refine lv_if_lt (tgt := 18) hx hb dX9_cost_9 (by decide) (fun hc => ?_) (fun hc => ?_)
    · replace hs := it_t hc hs
      refine lv_bipush (v := (-2)) hx hb dX9_cost_18 (by decide) ?_
      replace hs := Option.some.inj hs
      subst hs
      exact W.iret (v := (-2)) hx hb hr (fun t ht hW => ⟨⟨(-2), (), rfl, rfl, by rw [ht]; exact hP, va_K.moved hW.alike hK, hD⟩, hS.F ht⟩) hS.2.2 dX9_cost_20
    · replace hs := it_f hc hs
      refine lv_iload_n hx hb dX9_cost_12 rfl (lv_at hl 2 rfl) ?_
      refine lv_bipush (v := 20) hx hb dX9_cost_13 (by decide) ?_
      refine lv_icmp_le (tgt := 21) hx hb dX9_cost_15 (by decide) (fun hc => ?_) (fun hc => ?_)
      · replace hs := it_t hc hs
        refine lv_aload_n hx hb dX9_cost_21 rfl (lv_at hl 0 rfl) ?_
        refine va_get (D := (dC, dI)) (ci := 9) (v := .ref a_x_costs) (C := RX9) (T := TX9) (N := 11) hx hb hts hiX9 hown hK hP 0 rfl rfl 0 (by decide) hf9 (fun _ h9 => h9) rfl dX9_cost_22 ?_
        refine lv_iload_n hx hb dX9_cost_25 rfl (lv_at hl 1 rfl) ?_
        obtain ⟨hg2, hs⟩ := gd_s hs
        refine va_iald hx hb hK hP 1 0 rfl rfl hg2 dX9_cost_26 ?_
        refine lv_istore_n (lv' := [(3, .int (x_costs p1.toNatClampNeg)), (0, .ref a_x), (1, .int p1), (2, .int p2)]) hx hb dX9_cost_27 rfl hl (by decide) rfl (fun ls hl => ?_)
        refine lv_aload_n hx hb dX9_cost_28 rfl (lv_at hl 1 rfl) ?_
        refine va_get (D := (dC, dI)) (ci := 9) (v := .ref a_x_costs) (C := RX9) (T := TX9) (N := 11) hx hb hts hiX9 hown hK hP 0 rfl rfl 0 (by decide) hf9 (fun _ h9 => h9) rfl dX9_cost_29 ?_
        refine lv_iload_n hx hb dX9_cost_32 rfl (lv_at hl 2 rfl) ?_
        refine lv_iload_n hx hb dX9_cost_33 rfl (lv_at hl 3 rfl) ?_
        obtain ⟨hg3, hs⟩ := gd_s hs
        refine va_iast hx hb hK hP hD hS 1 0 rfl rfl hg3 dX9_cost_34 (fun H locs hP hD hS => ?_)
        have hP : va_P (dC, dI) vwCl [(a_x, .inr (9, [.ref a_x_costs, .ref a_r, .ref a_u, .ref a_q, .ref a_h, .ref a_f, .ref a_w, .ref a_o, .ref a_z, .ref a_g, .ref a_k])), (a_x_costs, .inl (c_x_costs, 10, .inl (upd x_costs p1.toNatClampNeg p2))), (a_r, .inr (6, [.ref a_r_rows, .ref a_r_ins, .int r_size, .int r_n, .int r_parts]))] H := hP
        have hD : va_D A [(a_x, .inr (9, [.ref a_x_costs, .ref a_r, .ref a_u, .ref a_q, .ref a_h, .ref a_f, .ref a_w, .ref a_o, .ref a_z, .ref a_g, .ref a_k])), (a_x_costs, .inl (c_x_costs, 10, .inl (upd x_costs p1.toNatClampNeg p2))), (a_r, .inr (6, [.ref a_r_rows, .ref a_r_ins, .int r_size, .int r_n, .int r_parts]))] := hD
        refine lv_iload_n hx hb dX9_cost_35 rfl (lv_at hl 0 rfl) ?_
        replace hs := Option.some.inj hs
        subst hs
        exact W.iret (v := x_costs p1.toNatClampNeg) hx hb hr (fun t ht hW => ⟨⟨x_costs p1.toNatClampNeg, (), rfl, rfl, by rw [ht]; exact hP, va_K.moved hW.alike hK, hD⟩, hS.F ht⟩) hS.2.2 dX9_cost_36
      · replace hs := it_f hc hs
        refine lv_bipush (v := (-2)) hx hb dX9_cost_18 (by decide) ?_
        replace hs := Option.some.inj hs
        subst hs
        exact W.iret (v := (-2)) hx hb hr (fun t ht hW => ⟨⟨(-2), (), rfl, rfl, by rw [ht]; exact hP, va_K.moved hW.alike hK, hD⟩, hS.F ht⟩) hS.2.2 dX9_cost_20
noncomputable def pX9_meeters_L4 (r_n : Int32) (r_parts : Int32) (r_ins : Nat → Int32) (s4 : Int32 × Int32) : Option ((Int32 × Int32) ⊕ (Int32)) :=
  if r_parts ≤ s4.2 then (some (Sum.inr s4.1)) else (Option.bind (pX6_isLeastMeeter r_n r_parts r_ins s4.2) (fun r2 => if r2 = 0 then (some (Sum.inl (s4.1, s4.2 + 1))) else (some (Sum.inl (s4.1 + 1, s4.2 + 1)))))
noncomputable def pX9_meeters (r_n : Int32) (r_parts : Int32) (r_ins : Nat → Int32) : Option (Int32) :=
  Option.bind (lp (pX9_meeters_L4 r_n r_parts r_ins) (0, 0)) (fun e4 => some e4)
set_option maxHeartbeats 4000000 in
set_option maxRecDepth 100000 in
theorem c_X9_meeters (l : Launch) (dC : Nat → ClassId) (dI : Nat → Nat → Nat) (a_x : Nat) (a_x_costs : Nat) (a_r : Nat) (a_r_rows : Nat) (a_r_ins : Nat) (a_u : Nat) (a_q : Nat) (a_h : Nat) (a_f : Nat) (a_w : Nat) (a_o : Nat) (a_z : Nat) (a_g : Nat) (a_k : Nat) (c_r_ins : ClassId) (sz : Nat) (r_size : Int32) (r_n : Int32) (r_parts : Int32) (r_ins : Nat → Int32) (rv : Int32) (hs : pX9_meeters r_n r_parts r_ins = some rv) : Met l yX9_meeters wsX9_meeters ({ frames := 2, cells := 0, slots := 0, locals := 43 }) (sPc [.ref a_x] (dC, dI) [(c_r_ins, .int)] [(a_x, .inr (9, [.ref a_x_costs, .ref a_r, .ref a_u, .ref a_q, .ref a_h, .ref a_f, .ref a_w, .ref a_o, .ref a_z, .ref a_g, .ref a_k])), (a_r, .inr (6, [.ref a_r_rows, .ref a_r_ins, .int r_size, .int r_n, .int r_parts])), (a_r_ins, .inl (c_r_ins, 1024, .inl r_ins))] sz) (va_Qi (fun (r : Int32) (_ : Unit) => r = rv) (sB (dC, dI) [(c_r_ins, .int)] (va_A [(a_x, .inr (9, [.ref a_x_costs, .ref a_r, .ref a_u, .ref a_q, .ref a_h, .ref a_f, .ref a_w, .ref a_o, .ref a_z, .ref a_g, .ref a_k])), (a_r, .inr (6, [.ref a_r_rows, .ref a_r_ins, .int r_size, .int r_n, .int r_parts])), (a_r_ins, .inl (c_r_ins, 1024, .inl r_ins))] sz) [(a_x, .inr (9, [.ref a_x_costs, .ref a_r, .ref a_u, .ref a_q, .ref a_h, .ref a_f, .ref a_w, .ref a_o, .ref a_z, .ref a_g, .ref a_k])), (a_r, .inr (6, [.ref a_r_rows, .ref a_r_ins, .int r_size, .int r_n, .int r_parts])), (a_r_ins, .inl (c_r_ins, 1024, .inl r_ins))]) (va_A [(a_x, .inr (9, [.ref a_x_costs, .ref a_r, .ref a_u, .ref a_q, .ref a_h, .ref a_f, .ref a_w, .ref a_o, .ref a_z, .ref a_g, .ref a_k])), (a_r, .inr (6, [.ref a_r_rows, .ref a_r_ins, .int r_size, .int r_n, .int r_parts])), (a_r_ins, .inl (c_r_ins, 1024, .inl r_ins))] sz)) 0 0 (va_A [(a_x, .inr (9, [.ref a_x_costs, .ref a_r, .ref a_u, .ref a_q, .ref a_h, .ref a_f, .ref a_w, .ref a_o, .ref a_z, .ref a_g, .ref a_k])), (a_r, .inr (6, [.ref a_r_rows, .ref a_r_ins, .int r_size, .int r_n, .int r_parts])), (a_r_ins, .inl (c_r_ins, 1024, .inl r_ins))] sz) := by
  refine Met.ofW (cc := cX9_meeters) (maxL := 3) (ret := (some .int)) (by decide) rfl ?_
  intro p e s m args below meth c s₁ B hml hv
  obtain ⟨rfl, hsz, hP, hK, hD0, hN⟩ := hv
  have hx := B.exec
  have hb := B.bytes
  have hr := B.returns
  have hts := atoms_spec (ws := wsX9_meeters) B.pre
  have hown : s.vm.findClass RX9 = some m.cls := findClass_of_methodNamed B.named
  have hlocks := B.notSynchronized
  subst hsz
  have hD := hD0.self (sz := s.heap.size)
  generalize hAe : va_A [(a_x, .inr (9, [.ref a_x_costs, .ref a_r, .ref a_u, .ref a_q, .ref a_h, .ref a_f, .ref a_w, .ref a_o, .ref a_z, .ref a_g, .ref a_k])), (a_r, .inr (6, [.ref a_r_rows, .ref a_r_ins, .int r_size, .int r_n, .int r_parts])), (a_r_ins, .inl (c_r_ins, 1024, .inl r_ins))] s.heap.size = A at hD hN ⊢
  have hA : ∀ q : Nat, s.heap.size ≤ q → A q := fun q h => by rw [← hAe]; exact Or.inr h
  have hS : va_S A s.heap s.heap [] := va_S.rf
  have hP : va_P (dC, dI) vwCl [(a_x, .inr (9, [.ref a_x_costs, .ref a_r, .ref a_u, .ref a_q, .ref a_h, .ref a_f, .ref a_w, .ref a_o, .ref a_z, .ref a_g, .ref a_k])), (a_r, .inr (6, [.ref a_r_rows, .ref a_r_ins, .int r_size, .int r_n, .int r_parts])), (a_r_ins, .inl (c_r_ins, 1024, .inl r_ins))] s.heap := hP
  have hl := lv_entry ([.ref a_x]) (n := 3) (Nat.le_of_ble_eq_true rfl)
  rw [lg_entry_eq]
  generalize (lg_sl ([.ref a_x]) ++ List.replicate (3 - (lg_sl ([.ref a_x])).length) Slot.unset).toArray = ls at hl ⊢
  have hl : lv_has ls 3 [(0, .ref a_x)] := hl
  have hiX9 : ∀ w ∈ wsX90, w ∈ wsX9_meeters := fun _ h => List.mem_cons_of_mem _ (List.mem_append_left _ (List.mem_append_right _ h))
  have hf23 := hts (.fieldLink RX9 23 "MeetSets" "list" "LMeetSets$SetRow;") (t1_ (al_ (al_ h1_)))
  have hiX6 : ∀ w ∈ wsX60, w ∈ wsX9_meeters := fun _ h => List.mem_cons_of_mem _ (List.mem_append_right _ h)
  have hf117 := hts (.fieldLink RX9 117 "MeetSets$SetRow" "parts" "I") (t1_ (al_ (al_ (t1_ h1_))))
  refine w_abs (fun Z hZv hZw => ?_)
  refine hZv ?_
  obtain ⟨H, hH⟩ : ∃ H, H = s.heap := ⟨_, rfl⟩
  obtain ⟨locs, hlo⟩ : ∃ L : List Loc, L = [] := ⟨_, rfl⟩
  rw [← hlo, ← hH]
  have hS : va_S A s.heap H locs := by rw [hlo, hH]; exact hS
  have hP : va_P (dC, dI) vwCl [(a_x, .inr (9, [.ref a_x_costs, .ref a_r, .ref a_u, .ref a_q, .ref a_h, .ref a_f, .ref a_w, .ref a_o, .ref a_z, .ref a_g, .ref a_k])), (a_r, .inr (6, [.ref a_r_rows, .ref a_r_ins, .int r_size, .int r_n, .int r_parts])), (a_r_ins, .inl (c_r_ins, 1024, .inl r_ins))] H := by rw [hH]; exact hP
  clear hH hlo
  unfold pX9_meeters at hs
  refine lv_iconst (v := 0) hx hb dX9_meeters_0 (by decide) ?_
  refine lv_istore_n (lv' := [(1, .int 0), (0, .ref a_x)]) hx hb dX9_meeters_1 rfl hl (by decide) rfl (fun ls hl => ?_)
  refine lv_iconst (v := 0) hx hb dX9_meeters_2 (by decide) ?_
  refine lv_istore_n (lv' := [(2, .int 0), (1, .int 0), (0, .ref a_x)]) hx hb dX9_meeters_3 rfl hl (by decide) rfl (fun ls hl => ?_)
  obtain ⟨e4, he4, hs⟩ := bd_s hs
  have hX4 : ∀ (H : Heap) (locs : List Loc) (ls : Array Slot), va_P (dC, dI) vwCl [(a_x, .inr (9, [.ref a_x_costs, .ref a_r, .ref a_u, .ref a_q, .ref a_h, .ref a_f, .ref a_w, .ref a_o, .ref a_z, .ref a_g, .ref a_k])), (a_r, .inr (6, [.ref a_r_rows, .ref a_r_ins, .int r_size, .int r_n, .int r_parts])), (a_r_ins, .inl (c_r_ins, 1024, .inl r_ins))] H → va_D A [(a_x, .inr (9, [.ref a_x_costs, .ref a_r, .ref a_u, .ref a_q, .ref a_h, .ref a_f, .ref a_w, .ref a_o, .ref a_z, .ref a_g, .ref a_k])), (a_r, .inr (6, [.ref a_r_rows, .ref a_r_ins, .int r_size, .int r_n, .int r_parts])), (a_r_ins, .inl (c_r_ins, 1024, .inl r_ins))] → va_S A s.heap H locs → lv_has ls 3 [(1, .int e4)] → Z H locs 0 0 (F0 m 35 ls []) := by
    intro H locs ls hP hD hS hl
    refine hZv ?_
    refine lv_iload_n hx hb dX9_meeters_35 rfl (lv_at hl 0 rfl) ?_
    replace hs := Option.some.inj hs
    subst hs
    exact W.iret (v := e4) hx hb hr (fun t ht hW => ⟨⟨e4, (), rfl, rfl, by rw [ht]; exact hP, va_K.moved hW.alike hK, hD⟩, hS.F ht⟩) hS.2.2 dX9_meeters_36
  clear hs
  have hL4 : ∀ (n : Nat) (s4 : Int32 × Int32) (H : Heap) (locs : List Loc) (ls : Array Slot), itr (pX9_meeters_L4 r_n r_parts r_ins) n s4 = some e4 → va_P (dC, dI) vwCl [(a_x, .inr (9, [.ref a_x_costs, .ref a_r, .ref a_u, .ref a_q, .ref a_h, .ref a_f, .ref a_w, .ref a_o, .ref a_z, .ref a_g, .ref a_k])), (a_r, .inr (6, [.ref a_r_rows, .ref a_r_ins, .int r_size, .int r_n, .int r_parts])), (a_r_ins, .inl (c_r_ins, 1024, .inl r_ins))] H → va_D A [(a_x, .inr (9, [.ref a_x_costs, .ref a_r, .ref a_u, .ref a_q, .ref a_h, .ref a_f, .ref a_w, .ref a_o, .ref a_z, .ref a_g, .ref a_k])), (a_r, .inr (6, [.ref a_r_rows, .ref a_r_ins, .int r_size, .int r_n, .int r_parts])), (a_r_ins, .inl (c_r_ins, 1024, .inl r_ins))] → va_S A s.heap H locs → lv_has ls 3 [(0, .ref a_x), (1, .int s4.1), (2, .int s4.2)] → Z H locs 0 0 (F0 m 4 ls []) := by
    intro n
    induction n with
    | zero =>
      intro s4 H locs ls hn
      exact (itr_0 hn).elim
    | succ n ih =>
      intro s4 H locs ls hn hP hD hS hl
      obtain ⟨y1, hs, hn⟩ := itr_s hn
      unfold pX9_meeters_L4 at hs
      refine hZv ?_
      refine lv_iload_n hx hb dX9_meeters_4 rfl (lv_at hl 2 rfl) ?_
      refine lv_aload_n hx hb dX9_meeters_5 rfl (lv_at hl 0 rfl) ?_
      refine va_get (D := (dC, dI)) (ci := 9) (v := .ref a_r) (C := RX9) (T := TX9) (N := 11) hx hb hts hiX9 hown hK hP 0 rfl rfl 1 (by decide) hf23 (fun _ h9 => h9) rfl dX9_meeters_6 ?_
      refine va_get (D := (dC, dI)) (ci := 6) (v := .int r_parts) (C := RX6) (T := TX6) (N := 5) hx hb hts hiX6 hown hK hP 1 rfl rfl 4 (by decide) hf117 (fun _ h9 => h9) rfl dX9_meeters_9 ?_
      refine lv_icmp_ge (tgt := 35) hx hb dX9_meeters_12 (by decide) (fun hc => ?_) (fun hc => ?_)
      · replace hs := it_t hc hs
        replace hs := Option.some.inj hs
        subst hs
        obtain rfl : s4.1 = e4 := hn
        exact hZw (hX4 H locs ls hP hD hS (lv_sub hl [1] rfl))
      · replace hs := it_f hc hs
        refine lv_aload_n hx hb dX9_meeters_15 rfl (lv_at hl 0 rfl) ?_
        refine va_get (D := (dC, dI)) (ci := 9) (v := .ref a_r) (C := RX9) (T := TX9) (N := 11) hx hb hts hiX9 hown hK hP 0 rfl rfl 1 (by decide) hf23 (fun _ h9 => h9) rfl dX9_meeters_16 ?_
        refine lv_iload_n hx hb dX9_meeters_19 rfl (lv_at hl 2 rfl) ?_
        obtain ⟨r2, hr2, hs⟩ := bd_s hs
        refine kc_i (isC := [1, 2]) (isR := [0]) (pm := [0, 1, 2]) (wr := [(a_x, .inr (9, [.ref a_x_costs, .ref a_r, .ref a_u, .ref a_q, .ref a_h, .ref a_f, .ref a_w, .ref a_o, .ref a_z, .ref a_g, .ref a_k]))]) (w1 := [(a_r, .inr (6, [.ref a_r_rows, .ref a_r_ins, .int r_size, .int r_n, .int r_parts])), (a_r_ins, .inl (c_r_ins, 1024, .inl r_ins))]) (w2 := [(a_x, .inr (9, [.ref a_x_costs, .ref a_r, .ref a_u, .ref a_q, .ref a_h, .ref a_f, .ref a_w, .ref a_o, .ref a_z, .ref a_g, .ref a_k])), (a_r, .inr (6, [.ref a_r_rows, .ref a_r_ins, .int r_size, .int r_n, .int r_parts])), (a_r_ins, .inl (c_r_ins, 1024, .inl r_ins))]) (va_runV (As := [.int s4.2]) (rest := []) ⟨hx, hb, hml, hown, hts⟩ (c_X6_isLeastMeeter l dC dI a_r a_r_rows a_r_ins c_r_ins H.size r_size r_n r_parts r_ins s4.2 r2 hr2) (cwV 1 hts gX9_meeters_X6_isLeastMeeter rfl rfl rfl (by decide +kernel) ⟨Nat.le_of_ble_eq_true rfl, Nat.le_of_ble_eq_true rfl⟩) (kp_V hK hP hD hS hA hN (isC := [1, 2]) (isT := [0]) (wc := [(a_r, .inr (6, [.ref a_r_rows, .ref a_r_ins, .int r_size, .int r_n, .int r_parts])), (a_r_ins, .inl (c_r_ins, 1024, .inl r_ins))]) rfl (by decide +kernel) rfl (ci := 6) (q0 := 0) rfl rfl) rfl rfl hl.1 rfl (lv_room (Nat.le_of_ble_eq_true rfl)) dX9_meeters_20 ⟨Nat.le_of_ble_eq_true rfl, Nat.le_of_ble_eq_true rfl⟩) hP hD hS hA rfl rfl (by decide +kernel) (by decide +kernel) rfl (by decide +kernel) (fun H locs hP hD hS => ?_)
        refine lv_if_eq (tgt := 29) hx hb dX9_meeters_23 (by decide) (fun hc => ?_) (fun hc => ?_)
        · replace hs := it_t hc hs
          refine lv_iinc (v := s4.2 + 1) (lv' := [(2, .int (s4.2 + 1)), (0, .ref a_x), (1, .int s4.1)]) hx hb dX9_meeters_29 hl (k := 2) rfl (by rfl) (by decide) rfl (fun ls hl => ?_)
          refine lv_goto (tgt := 4) hx hb dX9_meeters_32 (by decide) ?_
          replace hs := Option.some.inj hs
          subst hs
          exact hZw (ih (s4.1, s4.2 + 1) H locs ls hn hP hD hS (lv_sub hl [1, 2, 0] rfl))
        · replace hs := it_f hc hs
          refine lv_iinc (v := s4.1 + 1) (lv' := [(1, .int (s4.1 + 1)), (0, .ref a_x), (2, .int s4.2)]) hx hb dX9_meeters_26 hl (k := 1) rfl (by rfl) (by decide) rfl (fun ls hl => ?_)
          refine lv_iinc (v := s4.2 + 1) (lv' := [(2, .int (s4.2 + 1)), (1, .int (s4.1 + 1)), (0, .ref a_x)]) hx hb dX9_meeters_29 hl (k := 2) rfl (by rfl) (by decide) rfl (fun ls hl => ?_)
          refine lv_goto (tgt := 4) hx hb dX9_meeters_32 (by decide) ?_
          replace hs := Option.some.inj hs
          subst hs
          exact hZw (ih (s4.1 + 1, s4.2 + 1) H locs ls hn hP hD hS (lv_sub hl [2, 1, 0] rfl))
  obtain ⟨n4, hn4⟩ := lp_ex he4
  exact hZw (hL4 n4 (0, 0) H locs ls hn4 hP hD hS (lv_sub hl [2, 1, 0] rfl))
noncomputable def pX9_meeter_L11 (r_n : Int32) (r_parts : Int32) (r_ins : Nat → Int32) (p1 : Int32) (s11 : Int32 × Int32) : Option ((Int32 × Int32) ⊕ ((Int32) ⊕ (Unit))) :=
  if r_parts ≤ s11.2 then (some (Sum.inr (Sum.inr ()))) else (Option.bind (pX6_isLeastMeeter r_n r_parts r_ins s11.2) (fun r2 => if r2 = 0 then (some (Sum.inl (s11.1, s11.2 + 1))) else (if s11.1 = p1 then (some (Sum.inr (Sum.inl s11.2))) else (some (Sum.inl (s11.1 + 1, s11.2 + 1))))))
noncomputable def pX9_meeter (r_n : Int32) (r_parts : Int32) (r_ins : Nat → Int32) (p1 : Int32) : Option (Int32) :=
  if 0 ≤ p1 then (Option.bind (lp (pX9_meeter_L11 r_n r_parts r_ins p1) (0, 0)) (Sum.elim (fun e11_0 => some e11_0) (fun e11_1 => some (-1)))) else (some (-2))
set_option maxHeartbeats 4000000 in
set_option maxRecDepth 100000 in
theorem c_X9_meeter (l : Launch) (dC : Nat → ClassId) (dI : Nat → Nat → Nat) (a_x : Nat) (a_x_costs : Nat) (a_r : Nat) (a_r_rows : Nat) (a_r_ins : Nat) (a_u : Nat) (a_q : Nat) (a_h : Nat) (a_f : Nat) (a_w : Nat) (a_o : Nat) (a_z : Nat) (a_g : Nat) (a_k : Nat) (c_r_ins : ClassId) (sz : Nat) (r_size : Int32) (r_n : Int32) (r_parts : Int32) (r_ins : Nat → Int32) (p1 : Int32) (rv : Int32) (hs : pX9_meeter r_n r_parts r_ins p1 = some rv) : Met l yX9_meeter wsX9_meeter ({ frames := 2, cells := 0, slots := 0, locals := 43 }) (sPc [.ref a_x, .int p1] (dC, dI) [(c_r_ins, .int)] [(a_x, .inr (9, [.ref a_x_costs, .ref a_r, .ref a_u, .ref a_q, .ref a_h, .ref a_f, .ref a_w, .ref a_o, .ref a_z, .ref a_g, .ref a_k])), (a_r, .inr (6, [.ref a_r_rows, .ref a_r_ins, .int r_size, .int r_n, .int r_parts])), (a_r_ins, .inl (c_r_ins, 1024, .inl r_ins))] sz) (va_Qi (fun (r : Int32) (_ : Unit) => r = rv) (sB (dC, dI) [(c_r_ins, .int)] (va_A [(a_x, .inr (9, [.ref a_x_costs, .ref a_r, .ref a_u, .ref a_q, .ref a_h, .ref a_f, .ref a_w, .ref a_o, .ref a_z, .ref a_g, .ref a_k])), (a_r, .inr (6, [.ref a_r_rows, .ref a_r_ins, .int r_size, .int r_n, .int r_parts])), (a_r_ins, .inl (c_r_ins, 1024, .inl r_ins))] sz) [(a_x, .inr (9, [.ref a_x_costs, .ref a_r, .ref a_u, .ref a_q, .ref a_h, .ref a_f, .ref a_w, .ref a_o, .ref a_z, .ref a_g, .ref a_k])), (a_r, .inr (6, [.ref a_r_rows, .ref a_r_ins, .int r_size, .int r_n, .int r_parts])), (a_r_ins, .inl (c_r_ins, 1024, .inl r_ins))]) (va_A [(a_x, .inr (9, [.ref a_x_costs, .ref a_r, .ref a_u, .ref a_q, .ref a_h, .ref a_f, .ref a_w, .ref a_o, .ref a_z, .ref a_g, .ref a_k])), (a_r, .inr (6, [.ref a_r_rows, .ref a_r_ins, .int r_size, .int r_n, .int r_parts])), (a_r_ins, .inl (c_r_ins, 1024, .inl r_ins))] sz)) 0 0 (va_A [(a_x, .inr (9, [.ref a_x_costs, .ref a_r, .ref a_u, .ref a_q, .ref a_h, .ref a_f, .ref a_w, .ref a_o, .ref a_z, .ref a_g, .ref a_k])), (a_r, .inr (6, [.ref a_r_rows, .ref a_r_ins, .int r_size, .int r_n, .int r_parts])), (a_r_ins, .inl (c_r_ins, 1024, .inl r_ins))] sz) := by
  refine Met.ofW (cc := cX9_meeter) (maxL := 4) (ret := (some .int)) (by decide) rfl ?_
  intro p e s m args below meth c s₁ B hml hv
  obtain ⟨rfl, hsz, hP, hK, hD0, hN⟩ := hv
  have hx := B.exec
  have hb := B.bytes
  have hr := B.returns
  have hts := atoms_spec (ws := wsX9_meeter) B.pre
  have hown : s.vm.findClass RX9 = some m.cls := findClass_of_methodNamed B.named
  have hlocks := B.notSynchronized
  subst hsz
  have hD := hD0.self (sz := s.heap.size)
  generalize hAe : va_A [(a_x, .inr (9, [.ref a_x_costs, .ref a_r, .ref a_u, .ref a_q, .ref a_h, .ref a_f, .ref a_w, .ref a_o, .ref a_z, .ref a_g, .ref a_k])), (a_r, .inr (6, [.ref a_r_rows, .ref a_r_ins, .int r_size, .int r_n, .int r_parts])), (a_r_ins, .inl (c_r_ins, 1024, .inl r_ins))] s.heap.size = A at hD hN ⊢
  have hA : ∀ q : Nat, s.heap.size ≤ q → A q := fun q h => by rw [← hAe]; exact Or.inr h
  have hS : va_S A s.heap s.heap [] := va_S.rf
  have hP : va_P (dC, dI) vwCl [(a_x, .inr (9, [.ref a_x_costs, .ref a_r, .ref a_u, .ref a_q, .ref a_h, .ref a_f, .ref a_w, .ref a_o, .ref a_z, .ref a_g, .ref a_k])), (a_r, .inr (6, [.ref a_r_rows, .ref a_r_ins, .int r_size, .int r_n, .int r_parts])), (a_r_ins, .inl (c_r_ins, 1024, .inl r_ins))] s.heap := hP
  have hl := lv_entry ([.ref a_x, .int p1]) (n := 4) (Nat.le_of_ble_eq_true rfl)
  rw [lg_entry_eq]
  generalize (lg_sl ([.ref a_x, .int p1]) ++ List.replicate (4 - (lg_sl ([.ref a_x, .int p1])).length) Slot.unset).toArray = ls at hl ⊢
  have hl : lv_has ls 4 [(0, .ref a_x), (1, .int p1)] := hl
  have hiX9 : ∀ w ∈ wsX90, w ∈ wsX9_meeter := fun _ h => List.mem_cons_of_mem _ (List.mem_append_left _ (List.mem_append_right _ h))
  have hf23 := hts (.fieldLink RX9 23 "MeetSets" "list" "LMeetSets$SetRow;") (t1_ (al_ (al_ h1_)))
  have hiX6 : ∀ w ∈ wsX60, w ∈ wsX9_meeter := fun _ h => List.mem_cons_of_mem _ (List.mem_append_right _ h)
  have hf117 := hts (.fieldLink RX9 117 "MeetSets$SetRow" "parts" "I") (t1_ (al_ (al_ (t1_ h1_))))
  refine w_abs (fun Z hZv hZw => ?_)
  refine hZv ?_
  obtain ⟨H, hH⟩ : ∃ H, H = s.heap := ⟨_, rfl⟩
  obtain ⟨locs, hlo⟩ : ∃ L : List Loc, L = [] := ⟨_, rfl⟩
  rw [← hlo, ← hH]
  have hS : va_S A s.heap H locs := by rw [hlo, hH]; exact hS
  have hP : va_P (dC, dI) vwCl [(a_x, .inr (9, [.ref a_x_costs, .ref a_r, .ref a_u, .ref a_q, .ref a_h, .ref a_f, .ref a_w, .ref a_o, .ref a_z, .ref a_g, .ref a_k])), (a_r, .inr (6, [.ref a_r_rows, .ref a_r_ins, .int r_size, .int r_n, .int r_parts])), (a_r_ins, .inl (c_r_ins, 1024, .inl r_ins))] H := by rw [hH]; exact hP
  clear hH hlo
  unfold pX9_meeter at hs
  refine lv_iload_n hx hb dX9_meeter_0 rfl (lv_at hl 1 rfl) ?_
  refine lv_if_ge (tgt := 7) hx hb dX9_meeter_1 (by decide) (fun hc => ?_) (fun hc => ?_)
  · replace hs := it_t hc hs
    refine lv_iconst (v := 0) hx hb dX9_meeter_7 (by decide) ?_
    refine lv_istore_n (lv' := [(2, .int 0), (0, .ref a_x), (1, .int p1)]) hx hb dX9_meeter_8 rfl hl (by decide) rfl (fun ls hl => ?_)
    refine lv_iconst (v := 0) hx hb dX9_meeter_9 (by decide) ?_
    refine lv_istore_n (lv' := [(3, .int 0), (2, .int 0), (0, .ref a_x), (1, .int p1)]) hx hb dX9_meeter_10 rfl hl (by decide) rfl (fun ls hl => ?_)
    obtain ⟨e11, he11, hs⟩ := bd_s hs
    have hX11_0 : ∀ (e11_0 : Int32), (Sum.inl e11_0) = e11 → ∀ (H : Heap) (locs : List Loc) (ls : Array Slot), va_P (dC, dI) vwCl [(a_x, .inr (9, [.ref a_x_costs, .ref a_r, .ref a_u, .ref a_q, .ref a_h, .ref a_f, .ref a_w, .ref a_o, .ref a_z, .ref a_g, .ref a_k])), (a_r, .inr (6, [.ref a_r_rows, .ref a_r_ins, .int r_size, .int r_n, .int r_parts])), (a_r_ins, .inl (c_r_ins, 1024, .inl r_ins))] H → va_D A [(a_x, .inr (9, [.ref a_x_costs, .ref a_r, .ref a_u, .ref a_q, .ref a_h, .ref a_f, .ref a_w, .ref a_o, .ref a_z, .ref a_g, .ref a_k])), (a_r, .inr (6, [.ref a_r_rows, .ref a_r_ins, .int r_size, .int r_n, .int r_parts])), (a_r_ins, .inl (c_r_ins, 1024, .inl r_ins))] → va_S A s.heap H locs → lv_has ls 4 [(3, .int e11_0)] → Z H locs 0 0 (F0 m 38 ls []) := by
      intro e11_0 he H locs ls hP hD hS hl
      subst he
      replace hs := sm_l hs
      refine hZv ?_
      refine lv_iload_n hx hb dX9_meeter_38 rfl (lv_at hl 0 rfl) ?_
      replace hs := Option.some.inj hs
      subst hs
      exact W.iret (v := e11_0) hx hb hr (fun t ht hW => ⟨⟨e11_0, (), rfl, rfl, by rw [ht]; exact hP, va_K.moved hW.alike hK, hD⟩, hS.F ht⟩) hS.2.2 dX9_meeter_39
    have hX11_1 : ∀ (e11_1 : Unit), (Sum.inr e11_1) = e11 → ∀ (H : Heap) (locs : List Loc) (ls : Array Slot), va_P (dC, dI) vwCl [(a_x, .inr (9, [.ref a_x_costs, .ref a_r, .ref a_u, .ref a_q, .ref a_h, .ref a_f, .ref a_w, .ref a_o, .ref a_z, .ref a_g, .ref a_k])), (a_r, .inr (6, [.ref a_r_rows, .ref a_r_ins, .int r_size, .int r_n, .int r_parts])), (a_r_ins, .inl (c_r_ins, 1024, .inl r_ins))] H → va_D A [(a_x, .inr (9, [.ref a_x_costs, .ref a_r, .ref a_u, .ref a_q, .ref a_h, .ref a_f, .ref a_w, .ref a_o, .ref a_z, .ref a_g, .ref a_k])), (a_r, .inr (6, [.ref a_r_rows, .ref a_r_ins, .int r_size, .int r_n, .int r_parts])), (a_r_ins, .inl (c_r_ins, 1024, .inl r_ins))] → va_S A s.heap H locs → lv_has ls 4 [] → Z H locs 0 0 (F0 m 49 ls []) := by
      intro e11_1 he H locs ls hP hD hS hl
      subst he
      replace hs := sm_r hs
      refine hZv ?_
      refine lv_iconst (v := (-1)) hx hb dX9_meeter_49 (by decide) ?_
      replace hs := Option.some.inj hs
      subst hs
      exact W.iret (v := (-1)) hx hb hr (fun t ht hW => ⟨⟨(-1), (), rfl, rfl, by rw [ht]; exact hP, va_K.moved hW.alike hK, hD⟩, hS.F ht⟩) hS.2.2 dX9_meeter_50
    clear hs
    have hL11 : ∀ (n : Nat) (s11 : Int32 × Int32) (H : Heap) (locs : List Loc) (ls : Array Slot), itr (pX9_meeter_L11 r_n r_parts r_ins p1) n s11 = some e11 → va_P (dC, dI) vwCl [(a_x, .inr (9, [.ref a_x_costs, .ref a_r, .ref a_u, .ref a_q, .ref a_h, .ref a_f, .ref a_w, .ref a_o, .ref a_z, .ref a_g, .ref a_k])), (a_r, .inr (6, [.ref a_r_rows, .ref a_r_ins, .int r_size, .int r_n, .int r_parts])), (a_r_ins, .inl (c_r_ins, 1024, .inl r_ins))] H → va_D A [(a_x, .inr (9, [.ref a_x_costs, .ref a_r, .ref a_u, .ref a_q, .ref a_h, .ref a_f, .ref a_w, .ref a_o, .ref a_z, .ref a_g, .ref a_k])), (a_r, .inr (6, [.ref a_r_rows, .ref a_r_ins, .int r_size, .int r_n, .int r_parts])), (a_r_ins, .inl (c_r_ins, 1024, .inl r_ins))] → va_S A s.heap H locs → lv_has ls 4 [(0, .ref a_x), (1, .int p1), (2, .int s11.1), (3, .int s11.2)] → Z H locs 0 0 (F0 m 11 ls []) := by
      intro n
      induction n with
      | zero =>
        intro s11 H locs ls hn
        exact (itr_0 hn).elim
      | succ n ih =>
        intro s11 H locs ls hn hP hD hS hl
        obtain ⟨y1, hs, hn⟩ := itr_s hn
        unfold pX9_meeter_L11 at hs
        refine hZv ?_
        refine lv_iload_n hx hb dX9_meeter_11 rfl (lv_at hl 3 rfl) ?_
        refine lv_aload_n hx hb dX9_meeter_12 rfl (lv_at hl 0 rfl) ?_
        refine va_get (D := (dC, dI)) (ci := 9) (v := .ref a_r) (C := RX9) (T := TX9) (N := 11) hx hb hts hiX9 hown hK hP 0 rfl rfl 1 (by decide) hf23 (fun _ h9 => h9) rfl dX9_meeter_13 ?_
        refine va_get (D := (dC, dI)) (ci := 6) (v := .int r_parts) (C := RX6) (T := TX6) (N := 5) hx hb hts hiX6 hown hK hP 1 rfl rfl 4 (by decide) hf117 (fun _ h9 => h9) rfl dX9_meeter_16 ?_
        refine lv_icmp_ge (tgt := 49) hx hb dX9_meeter_19 (by decide) (fun hc => ?_) (fun hc => ?_)
        · replace hs := it_t hc hs
          replace hs := Option.some.inj hs
          subst hs
          obtain rfl : (Sum.inr ()) = e11 := hn
          exact hZw (hX11_1 () rfl H locs ls hP hD hS (lv_sub hl [] rfl))
        · replace hs := it_f hc hs
          refine lv_aload_n hx hb dX9_meeter_22 rfl (lv_at hl 0 rfl) ?_
          refine va_get (D := (dC, dI)) (ci := 9) (v := .ref a_r) (C := RX9) (T := TX9) (N := 11) hx hb hts hiX9 hown hK hP 0 rfl rfl 1 (by decide) hf23 (fun _ h9 => h9) rfl dX9_meeter_23 ?_
          refine lv_iload_n hx hb dX9_meeter_26 rfl (lv_at hl 3 rfl) ?_
          obtain ⟨r2, hr2, hs⟩ := bd_s hs
          refine kc_i (isC := [1, 2]) (isR := [0]) (pm := [0, 1, 2]) (wr := [(a_x, .inr (9, [.ref a_x_costs, .ref a_r, .ref a_u, .ref a_q, .ref a_h, .ref a_f, .ref a_w, .ref a_o, .ref a_z, .ref a_g, .ref a_k]))]) (w1 := [(a_r, .inr (6, [.ref a_r_rows, .ref a_r_ins, .int r_size, .int r_n, .int r_parts])), (a_r_ins, .inl (c_r_ins, 1024, .inl r_ins))]) (w2 := [(a_x, .inr (9, [.ref a_x_costs, .ref a_r, .ref a_u, .ref a_q, .ref a_h, .ref a_f, .ref a_w, .ref a_o, .ref a_z, .ref a_g, .ref a_k])), (a_r, .inr (6, [.ref a_r_rows, .ref a_r_ins, .int r_size, .int r_n, .int r_parts])), (a_r_ins, .inl (c_r_ins, 1024, .inl r_ins))]) (va_runV (As := [.int s11.2]) (rest := []) ⟨hx, hb, hml, hown, hts⟩ (c_X6_isLeastMeeter l dC dI a_r a_r_rows a_r_ins c_r_ins H.size r_size r_n r_parts r_ins s11.2 r2 hr2) (cwV 1 hts gX9_meeter_X6_isLeastMeeter rfl rfl rfl (by decide +kernel) ⟨Nat.le_of_ble_eq_true rfl, Nat.le_of_ble_eq_true rfl⟩) (kp_V hK hP hD hS hA hN (isC := [1, 2]) (isT := [0]) (wc := [(a_r, .inr (6, [.ref a_r_rows, .ref a_r_ins, .int r_size, .int r_n, .int r_parts])), (a_r_ins, .inl (c_r_ins, 1024, .inl r_ins))]) rfl (by decide +kernel) rfl (ci := 6) (q0 := 0) rfl rfl) rfl rfl hl.1 rfl (lv_room (Nat.le_of_ble_eq_true rfl)) dX9_meeter_27 ⟨Nat.le_of_ble_eq_true rfl, Nat.le_of_ble_eq_true rfl⟩) hP hD hS hA rfl rfl (by decide +kernel) (by decide +kernel) rfl (by decide +kernel) (fun H locs hP hD hS => ?_)
          refine lv_if_eq (tgt := 43) hx hb dX9_meeter_30 (by decide) (fun hc => ?_) (fun hc => ?_)
          · replace hs := it_t hc hs
            refine lv_iinc (v := s11.2 + 1) (lv' := [(3, .int (s11.2 + 1)), (0, .ref a_x), (1, .int p1), (2, .int s11.1)]) hx hb dX9_meeter_43 hl (k := 3) rfl (by rfl) (by decide) rfl (fun ls hl => ?_)
            refine lv_goto (tgt := 11) hx hb dX9_meeter_46 (by decide) ?_
            replace hs := Option.some.inj hs
            subst hs
            exact hZw (ih (s11.1, s11.2 + 1) H locs ls hn hP hD hS (lv_sub hl [1, 2, 3, 0] rfl))
          · replace hs := it_f hc hs
            refine lv_iload_n hx hb dX9_meeter_33 rfl (lv_at hl 2 rfl) ?_
            refine lv_iload_n hx hb dX9_meeter_34 rfl (lv_at hl 1 rfl) ?_
            refine lv_icmp_ne (tgt := 40) hx hb dX9_meeter_35 (by decide) (fun hc => ?_) (fun hc => ?_)
            · replace hs := it_f hc hs
              refine lv_iinc (v := s11.1 + 1) (lv' := [(2, .int (s11.1 + 1)), (0, .ref a_x), (1, .int p1), (3, .int s11.2)]) hx hb dX9_meeter_40 hl (k := 2) rfl (by rfl) (by decide) rfl (fun ls hl => ?_)
              refine lv_iinc (v := s11.2 + 1) (lv' := [(3, .int (s11.2 + 1)), (2, .int (s11.1 + 1)), (0, .ref a_x), (1, .int p1)]) hx hb dX9_meeter_43 hl (k := 3) rfl (by rfl) (by decide) rfl (fun ls hl => ?_)
              refine lv_goto (tgt := 11) hx hb dX9_meeter_46 (by decide) ?_
              replace hs := Option.some.inj hs
              subst hs
              exact hZw (ih (s11.1 + 1, s11.2 + 1) H locs ls hn hP hD hS (lv_sub hl [2, 3, 1, 0] rfl))
            · replace hs := it_t hc hs
              replace hs := Option.some.inj hs
              subst hs
              obtain rfl : (Sum.inl s11.2) = e11 := hn
              exact hZw (hX11_0 s11.2 rfl H locs ls hP hD hS (lv_sub hl [3] rfl))
    obtain ⟨n11, hn11⟩ := lp_ex he11
    exact hZw (hL11 n11 (0, 0) H locs ls hn11 hP hD hS (lv_sub hl [2, 3, 1, 0] rfl))
  · replace hs := it_f hc hs
    refine lv_bipush (v := (-2)) hx hb dX9_meeter_4 (by decide) ?_
    replace hs := Option.some.inj hs
    subst hs
    exact W.iret (v := (-2)) hx hb hr (fun t ht hW => ⟨⟨(-2), (), rfl, rfl, by rw [ht]; exact hP, va_K.moved hW.alike hK, hD⟩, hS.F ht⟩) hS.2.2 dX9_meeter_6
noncomputable def pX9_best_J94_5 (s20 : Int32 × Int32 × Int32 × Int32) (t61 : Int32) (r4 : Int32) (t94 : Unit) : Option ((Int32 × Int32 × Int32 × Int32) ⊕ (Int32)) :=
  some (Sum.inl (s20.2.2.2, t61, r4, s20.2.2.2 + 1))
noncomputable def pX9_best_L20 (x_costs : Nat → Int32) (r_n : Int32) (r_parts : Int32) (r_ins : Nat → Int32) (p1 : Int32) (s20 : Int32 × Int32 × Int32 × Int32) : Option ((Int32 × Int32 × Int32 × Int32) ⊕ (Int32)) :=
  if r_parts ≤ s20.2.2.2 then (some (Sum.inr s20.1)) else (Option.bind (pX6_isMeeter r_parts r_ins s20.2.2.2) (fun r3 => if r3 = 0 then (some (Sum.inl (s20.1, s20.2.1, s20.2.2.1, s20.2.2.2 + 1))) else (Option.bind (if p1 = 0 then (some 0) else (Option.bind (pX9_priceOf x_costs r_n s20.2.2.2) (fun r6 => some r6)) : Option (Int32)) (fun t61 => Option.bind (pJ6_bitCount_0f7a4 s20.2.2.2) (fun r4 => if s20.1 = (-1) then (pX9_best_J94_5 s20 t61 r4 ()) else (if t61 < s20.2.1 then (pX9_best_J94_5 s20 t61 r4 ()) else (if t61 = s20.2.1 then (if s20.2.2.1 ≤ r4 then (some (Sum.inl (s20.1, s20.2.1, s20.2.2.1, s20.2.2.2 + 1))) else (pX9_best_J94_5 s20 t61 r4 ())) else (some (Sum.inl (s20.1, s20.2.1, s20.2.2.1, s20.2.2.2 + 1))))))))))
noncomputable def pX9_best (x_costs : Nat → Int32) (r_n : Int32) (r_parts : Int32) (r_ins : Nat → Int32) (p1 : Int32) : Option (Int32) :=
  Option.bind (pX9_isZeroOrOne p1) (fun r1 => if r1 = 0 then (some (-2)) else (Option.bind (lp (pX9_best_L20 x_costs r_n r_parts r_ins p1) ((-1), 0, 0, 0)) (fun e20 => some e20)))
set_option maxHeartbeats 4000000 in
set_option maxRecDepth 100000 in
theorem c_X9_best (l : Launch) (dC : Nat → ClassId) (dI : Nat → Nat → Nat) (a_x : Nat) (a_x_costs : Nat) (a_r : Nat) (a_r_rows : Nat) (a_r_ins : Nat) (a_u : Nat) (a_q : Nat) (a_h : Nat) (a_f : Nat) (a_w : Nat) (a_o : Nat) (a_z : Nat) (a_g : Nat) (a_k : Nat) (c_x_costs c_r_ins : ClassId) (sz : Nat) (x_costs : Nat → Int32) (r_size : Int32) (r_n : Int32) (r_parts : Int32) (r_ins : Nat → Int32) (p1 : Int32) (rv : Int32) (hs : pX9_best x_costs r_n r_parts r_ins p1 = some rv) : Met l yX9_best wsX9_best ({ frames := 2, cells := 0, slots := 0, locals := 44 }) (sPc [.ref a_x, .int p1] (dC, dI) [(c_x_costs, .int), (c_r_ins, .int)] [(a_x, .inr (9, [.ref a_x_costs, .ref a_r, .ref a_u, .ref a_q, .ref a_h, .ref a_f, .ref a_w, .ref a_o, .ref a_z, .ref a_g, .ref a_k])), (a_x_costs, .inl (c_x_costs, 10, .inl x_costs)), (a_r, .inr (6, [.ref a_r_rows, .ref a_r_ins, .int r_size, .int r_n, .int r_parts])), (a_r_ins, .inl (c_r_ins, 1024, .inl r_ins))] sz) (va_Qi (fun (r : Int32) (_ : Unit) => r = rv) (sB (dC, dI) [(c_x_costs, .int), (c_r_ins, .int)] (va_A [(a_x, .inr (9, [.ref a_x_costs, .ref a_r, .ref a_u, .ref a_q, .ref a_h, .ref a_f, .ref a_w, .ref a_o, .ref a_z, .ref a_g, .ref a_k])), (a_x_costs, .inl (c_x_costs, 10, .inl x_costs)), (a_r, .inr (6, [.ref a_r_rows, .ref a_r_ins, .int r_size, .int r_n, .int r_parts])), (a_r_ins, .inl (c_r_ins, 1024, .inl r_ins))] sz) [(a_x, .inr (9, [.ref a_x_costs, .ref a_r, .ref a_u, .ref a_q, .ref a_h, .ref a_f, .ref a_w, .ref a_o, .ref a_z, .ref a_g, .ref a_k])), (a_x_costs, .inl (c_x_costs, 10, .inl x_costs)), (a_r, .inr (6, [.ref a_r_rows, .ref a_r_ins, .int r_size, .int r_n, .int r_parts])), (a_r_ins, .inl (c_r_ins, 1024, .inl r_ins))]) (va_A [(a_x, .inr (9, [.ref a_x_costs, .ref a_r, .ref a_u, .ref a_q, .ref a_h, .ref a_f, .ref a_w, .ref a_o, .ref a_z, .ref a_g, .ref a_k])), (a_x_costs, .inl (c_x_costs, 10, .inl x_costs)), (a_r, .inr (6, [.ref a_r_rows, .ref a_r_ins, .int r_size, .int r_n, .int r_parts])), (a_r_ins, .inl (c_r_ins, 1024, .inl r_ins))] sz)) 0 0 (va_A [(a_x, .inr (9, [.ref a_x_costs, .ref a_r, .ref a_u, .ref a_q, .ref a_h, .ref a_f, .ref a_w, .ref a_o, .ref a_z, .ref a_g, .ref a_k])), (a_x_costs, .inl (c_x_costs, 10, .inl x_costs)), (a_r, .inr (6, [.ref a_r_rows, .ref a_r_ins, .int r_size, .int r_n, .int r_parts])), (a_r_ins, .inl (c_r_ins, 1024, .inl r_ins))] sz) := by
  refine Met.ofW (cc := cX9_best) (maxL := 8) (ret := (some .int)) (by decide) rfl ?_
  intro p e s m args below meth c s₁ B hml hv
  obtain ⟨rfl, hsz, hP, hK, hD0, hN⟩ := hv
  have hx := B.exec
  have hb := B.bytes
  have hr := B.returns
  have hts := atoms_spec (ws := wsX9_best) B.pre
  have hown : s.vm.findClass RX9 = some m.cls := findClass_of_methodNamed B.named
  have hlocks := B.notSynchronized
  subst hsz
  have hD := hD0.self (sz := s.heap.size)
  generalize hAe : va_A [(a_x, .inr (9, [.ref a_x_costs, .ref a_r, .ref a_u, .ref a_q, .ref a_h, .ref a_f, .ref a_w, .ref a_o, .ref a_z, .ref a_g, .ref a_k])), (a_x_costs, .inl (c_x_costs, 10, .inl x_costs)), (a_r, .inr (6, [.ref a_r_rows, .ref a_r_ins, .int r_size, .int r_n, .int r_parts])), (a_r_ins, .inl (c_r_ins, 1024, .inl r_ins))] s.heap.size = A at hD hN ⊢
  have hA : ∀ q : Nat, s.heap.size ≤ q → A q := fun q h => by rw [← hAe]; exact Or.inr h
  have hS : va_S A s.heap s.heap [] := va_S.rf
  have hP : va_P (dC, dI) vwCl [(a_x, .inr (9, [.ref a_x_costs, .ref a_r, .ref a_u, .ref a_q, .ref a_h, .ref a_f, .ref a_w, .ref a_o, .ref a_z, .ref a_g, .ref a_k])), (a_x_costs, .inl (c_x_costs, 10, .inl x_costs)), (a_r, .inr (6, [.ref a_r_rows, .ref a_r_ins, .int r_size, .int r_n, .int r_parts])), (a_r_ins, .inl (c_r_ins, 1024, .inl r_ins))] s.heap := hP
  have hl := lv_entry ([.ref a_x, .int p1]) (n := 8) (Nat.le_of_ble_eq_true rfl)
  rw [lg_entry_eq]
  generalize (lg_sl ([.ref a_x, .int p1]) ++ List.replicate (8 - (lg_sl ([.ref a_x, .int p1])).length) Slot.unset).toArray = ls at hl ⊢
  have hl : lv_has ls 8 [(0, .ref a_x), (1, .int p1)] := hl
  have hiX9 : ∀ w ∈ wsX90, w ∈ wsX9_best := fun _ h => List.mem_cons_of_mem _ (List.mem_append_left _ (List.mem_append_right _ h))
  have hf23 := hts (.fieldLink RX9 23 "MeetSets" "list" "LMeetSets$SetRow;") (t1_ (al_ (al_ (al_ h1_))))
  have hiX6 : ∀ w ∈ wsX60, w ∈ wsX9_best := fun _ h => List.mem_cons_of_mem _ (List.mem_append_right _ h)
  have hf117 := hts (.fieldLink RX9 117 "MeetSets$SetRow" "parts" "I") (t1_ (al_ (al_ (al_ (t1_ h1_)))))
  refine w_abs (fun Z hZv hZw => ?_)
  refine hZv ?_
  obtain ⟨H, hH⟩ : ∃ H, H = s.heap := ⟨_, rfl⟩
  obtain ⟨locs, hlo⟩ : ∃ L : List Loc, L = [] := ⟨_, rfl⟩
  rw [← hlo, ← hH]
  have hS : va_S A s.heap H locs := by rw [hlo, hH]; exact hS
  have hP : va_P (dC, dI) vwCl [(a_x, .inr (9, [.ref a_x_costs, .ref a_r, .ref a_u, .ref a_q, .ref a_h, .ref a_f, .ref a_w, .ref a_o, .ref a_z, .ref a_g, .ref a_k])), (a_x_costs, .inl (c_x_costs, 10, .inl x_costs)), (a_r, .inr (6, [.ref a_r_rows, .ref a_r_ins, .int r_size, .int r_n, .int r_parts])), (a_r_ins, .inl (c_r_ins, 1024, .inl r_ins))] H := by rw [hH]; exact hP
  clear hH hlo
  unfold pX9_best at hs
  refine lv_iload_n hx hb dX9_best_0 rfl (lv_at hl 1 rfl) ?_
  obtain ⟨r1, hr1, hs⟩ := bd_s hs
  refine kc_i (isC := []) (isR := [0, 1, 2, 3]) (pm := [0, 1, 2, 3]) (wr := [(a_x, .inr (9, [.ref a_x_costs, .ref a_r, .ref a_u, .ref a_q, .ref a_h, .ref a_f, .ref a_w, .ref a_o, .ref a_z, .ref a_g, .ref a_k])), (a_x_costs, .inl (c_x_costs, 10, .inl x_costs)), (a_r, .inr (6, [.ref a_r_rows, .ref a_r_ins, .int r_size, .int r_n, .int r_parts])), (a_r_ins, .inl (c_r_ins, 1024, .inl r_ins))]) (w1 := []) (w2 := [(a_x, .inr (9, [.ref a_x_costs, .ref a_r, .ref a_u, .ref a_q, .ref a_h, .ref a_f, .ref a_w, .ref a_o, .ref a_z, .ref a_g, .ref a_k])), (a_x_costs, .inl (c_x_costs, 10, .inl x_costs)), (a_r, .inr (6, [.ref a_r_rows, .ref a_r_ins, .int r_size, .int r_n, .int r_parts])), (a_r_ins, .inl (c_r_ins, 1024, .inl r_ins))]) (va_runS (As := [.int p1]) (rest := []) ⟨hx, hb, hml, hown, hts⟩ (c_X9_isZeroOrOne l dC dI H.size p1 r1 hr1) (va_cwS 1 hts gX9_best_X9_isZeroOrOne rfl rfl rfl (by decide +kernel) ⟨Nat.le_of_ble_eq_true rfl, Nat.le_of_ble_eq_true rfl⟩) (kp_S hK hP hD hS hA hN (isC := []) (isT := []) (wc := []) rfl (by decide +kernel) rfl) rfl rfl hl.1 rfl (lv_room (Nat.le_of_ble_eq_true rfl)) dX9_best_1 ⟨Nat.le_of_ble_eq_true rfl, Nat.le_of_ble_eq_true rfl⟩) hP hD hS hA rfl rfl (by decide +kernel) (by decide +kernel) rfl (by decide +kernel) (fun H locs hP hD hS => ?_)
  refine lv_if_ne (tgt := 10) hx hb dX9_best_4 (by decide) (fun hc => ?_) (fun hc => ?_)
  · replace hs := it_f hc hs
    refine lv_iconst (v := (-1)) hx hb dX9_best_10 (by decide) ?_
    refine lv_istore_n (lv' := [(2, .int (-1)), (0, .ref a_x), (1, .int p1)]) hx hb dX9_best_11 rfl hl (by decide) rfl (fun ls hl => ?_)
    refine lv_iconst (v := 0) hx hb dX9_best_12 (by decide) ?_
    refine lv_istore_n (lv' := [(3, .int 0), (2, .int (-1)), (0, .ref a_x), (1, .int p1)]) hx hb dX9_best_13 rfl hl (by decide) rfl (fun ls hl => ?_)
    refine lv_iconst (v := 0) hx hb dX9_best_14 (by decide) ?_
    refine lv_istore (lv' := [(4, .int 0), (3, .int 0), (2, .int (-1)), (0, .ref a_x), (1, .int p1)]) hx hb dX9_best_15 hl (by decide) rfl (fun ls hl => ?_)
    refine lv_iconst (v := 0) hx hb dX9_best_17 (by decide) ?_
    refine lv_istore (lv' := [(5, .int 0), (4, .int 0), (3, .int 0), (2, .int (-1)), (0, .ref a_x), (1, .int p1)]) hx hb dX9_best_18 hl (by decide) rfl (fun ls hl => ?_)
    obtain ⟨e20, he20, hs⟩ := bd_s hs
    have hX20 : ∀ (H : Heap) (locs : List Loc) (ls : Array Slot), va_P (dC, dI) vwCl [(a_x, .inr (9, [.ref a_x_costs, .ref a_r, .ref a_u, .ref a_q, .ref a_h, .ref a_f, .ref a_w, .ref a_o, .ref a_z, .ref a_g, .ref a_k])), (a_x_costs, .inl (c_x_costs, 10, .inl x_costs)), (a_r, .inr (6, [.ref a_r_rows, .ref a_r_ins, .int r_size, .int r_n, .int r_parts])), (a_r_ins, .inl (c_r_ins, 1024, .inl r_ins))] H → va_D A [(a_x, .inr (9, [.ref a_x_costs, .ref a_r, .ref a_u, .ref a_q, .ref a_h, .ref a_f, .ref a_w, .ref a_o, .ref a_z, .ref a_g, .ref a_k])), (a_x_costs, .inl (c_x_costs, 10, .inl x_costs)), (a_r, .inr (6, [.ref a_r_rows, .ref a_r_ins, .int r_size, .int r_n, .int r_parts])), (a_r_ins, .inl (c_r_ins, 1024, .inl r_ins))] → va_S A s.heap H locs → lv_has ls 8 [(2, .int e20)] → Z H locs 0 0 (F0 m 110 ls []) := by
      intro H locs ls hP hD hS hl
      refine hZv ?_
      refine lv_iload_n hx hb dX9_best_110 rfl (lv_at hl 0 rfl) ?_
      replace hs := Option.some.inj hs
      subst hs
      exact W.iret (v := e20) hx hb hr (fun t ht hW => ⟨⟨e20, (), rfl, rfl, by rw [ht]; exact hP, va_K.moved hW.alike hK, hD⟩, hS.F ht⟩) hS.2.2 dX9_best_111
    clear hs
    have hL20 : ∀ (n : Nat) (s20 : Int32 × Int32 × Int32 × Int32) (H : Heap) (locs : List Loc) (ls : Array Slot), itr (pX9_best_L20 x_costs r_n r_parts r_ins p1) n s20 = some e20 → va_P (dC, dI) vwCl [(a_x, .inr (9, [.ref a_x_costs, .ref a_r, .ref a_u, .ref a_q, .ref a_h, .ref a_f, .ref a_w, .ref a_o, .ref a_z, .ref a_g, .ref a_k])), (a_x_costs, .inl (c_x_costs, 10, .inl x_costs)), (a_r, .inr (6, [.ref a_r_rows, .ref a_r_ins, .int r_size, .int r_n, .int r_parts])), (a_r_ins, .inl (c_r_ins, 1024, .inl r_ins))] H → va_D A [(a_x, .inr (9, [.ref a_x_costs, .ref a_r, .ref a_u, .ref a_q, .ref a_h, .ref a_f, .ref a_w, .ref a_o, .ref a_z, .ref a_g, .ref a_k])), (a_x_costs, .inl (c_x_costs, 10, .inl x_costs)), (a_r, .inr (6, [.ref a_r_rows, .ref a_r_ins, .int r_size, .int r_n, .int r_parts])), (a_r_ins, .inl (c_r_ins, 1024, .inl r_ins))] → va_S A s.heap H locs → lv_has ls 8 [(0, .ref a_x), (1, .int p1), (2, .int s20.1), (3, .int s20.2.1), (4, .int s20.2.2.1), (5, .int s20.2.2.2)] → Z H locs 0 0 (F0 m 20 ls []) := by
      intro n
      induction n with
      | zero =>
        intro s20 H locs ls hn
        exact (itr_0 hn).elim
      | succ n ih =>
        intro s20 H locs ls hn hP hD hS hl
        obtain ⟨y2, hs, hn⟩ := itr_s hn
        unfold pX9_best_L20 at hs
        refine hZv ?_
        refine lv_iload hx hb dX9_best_20 (lv_at hl 5 rfl) ?_
        refine lv_aload_n hx hb dX9_best_22 rfl (lv_at hl 0 rfl) ?_
        refine va_get (D := (dC, dI)) (ci := 9) (v := .ref a_r) (C := RX9) (T := TX9) (N := 11) hx hb hts hiX9 hown hK hP 0 rfl rfl 1 (by decide) hf23 (fun _ h9 => h9) rfl dX9_best_23 ?_
        refine va_get (D := (dC, dI)) (ci := 6) (v := .int r_parts) (C := RX6) (T := TX6) (N := 5) hx hb hts hiX6 hown hK hP 2 rfl rfl 4 (by decide) hf117 (fun _ h9 => h9) rfl dX9_best_26 ?_
        refine lv_icmp_ge (tgt := 110) hx hb dX9_best_29 (by decide) (fun hc => ?_) (fun hc => ?_)
        · replace hs := it_t hc hs
          replace hs := Option.some.inj hs
          subst hs
          obtain rfl : s20.1 = e20 := hn
          exact hZw (hX20 H locs ls hP hD hS (lv_sub hl [2] rfl))
        · replace hs := it_f hc hs
          refine lv_aload_n hx hb dX9_best_32 rfl (lv_at hl 0 rfl) ?_
          refine va_get (D := (dC, dI)) (ci := 9) (v := .ref a_r) (C := RX9) (T := TX9) (N := 11) hx hb hts hiX9 hown hK hP 0 rfl rfl 1 (by decide) hf23 (fun _ h9 => h9) rfl dX9_best_33 ?_
          refine lv_iload hx hb dX9_best_36 (lv_at hl 5 rfl) ?_
          obtain ⟨r3, hr3, hs⟩ := bd_s hs
          refine kc_i (isC := [2, 3]) (isR := [0, 1]) (pm := [0, 1, 2, 3]) (wr := [(a_x, .inr (9, [.ref a_x_costs, .ref a_r, .ref a_u, .ref a_q, .ref a_h, .ref a_f, .ref a_w, .ref a_o, .ref a_z, .ref a_g, .ref a_k])), (a_x_costs, .inl (c_x_costs, 10, .inl x_costs))]) (w1 := [(a_r, .inr (6, [.ref a_r_rows, .ref a_r_ins, .int r_size, .int r_n, .int r_parts])), (a_r_ins, .inl (c_r_ins, 1024, .inl r_ins))]) (w2 := [(a_x, .inr (9, [.ref a_x_costs, .ref a_r, .ref a_u, .ref a_q, .ref a_h, .ref a_f, .ref a_w, .ref a_o, .ref a_z, .ref a_g, .ref a_k])), (a_x_costs, .inl (c_x_costs, 10, .inl x_costs)), (a_r, .inr (6, [.ref a_r_rows, .ref a_r_ins, .int r_size, .int r_n, .int r_parts])), (a_r_ins, .inl (c_r_ins, 1024, .inl r_ins))]) (va_runV (As := [.int s20.2.2.2]) (rest := []) ⟨hx, hb, hml, hown, hts⟩ (c_X6_isMeeter l dC dI a_r a_r_rows a_r_ins c_r_ins H.size r_size r_n r_parts r_ins s20.2.2.2 r3 hr3) (cwV 1 hts gX9_best_X6_isMeeter rfl rfl rfl (by decide +kernel) ⟨Nat.le_of_ble_eq_true rfl, Nat.le_of_ble_eq_true rfl⟩) (kp_V hK hP hD hS hA hN (isC := [2, 3]) (isT := [1]) (wc := [(a_r, .inr (6, [.ref a_r_rows, .ref a_r_ins, .int r_size, .int r_n, .int r_parts])), (a_r_ins, .inl (c_r_ins, 1024, .inl r_ins))]) rfl (by decide +kernel) rfl (ci := 6) (q0 := 0) rfl rfl) rfl rfl hl.1 rfl (lv_room (Nat.le_of_ble_eq_true rfl)) dX9_best_38 ⟨Nat.le_of_ble_eq_true rfl, Nat.le_of_ble_eq_true rfl⟩) hP hD hS hA rfl rfl (by decide +kernel) (by decide +kernel) rfl (by decide +kernel) (fun H locs hP hD hS => ?_)
          refine lv_if_ne (tgt := 47) hx hb dX9_best_41 (by decide) (fun hc => ?_) (fun hc => ?_)
          · replace hs := it_f hc hs
            refine lv_iload_n hx hb dX9_best_47 rfl (lv_at hl 1 rfl) ?_
            obtain ⟨t61, hq61, hs⟩ := bd_s hs
            have hJ61 : ∀ (H : Heap) (locs : List Loc) (ls : Array Slot), va_P (dC, dI) vwCl [(a_x, .inr (9, [.ref a_x_costs, .ref a_r, .ref a_u, .ref a_q, .ref a_h, .ref a_f, .ref a_w, .ref a_o, .ref a_z, .ref a_g, .ref a_k])), (a_x_costs, .inl (c_x_costs, 10, .inl x_costs)), (a_r, .inr (6, [.ref a_r_rows, .ref a_r_ins, .int r_size, .int r_n, .int r_parts])), (a_r_ins, .inl (c_r_ins, 1024, .inl r_ins))] H → va_D A [(a_x, .inr (9, [.ref a_x_costs, .ref a_r, .ref a_u, .ref a_q, .ref a_h, .ref a_f, .ref a_w, .ref a_o, .ref a_z, .ref a_g, .ref a_k])), (a_x_costs, .inl (c_x_costs, 10, .inl x_costs)), (a_r, .inr (6, [.ref a_r_rows, .ref a_r_ins, .int r_size, .int r_n, .int r_parts])), (a_r_ins, .inl (c_r_ins, 1024, .inl r_ins))] → va_S A s.heap H locs → lv_has ls 8 [(0, .ref a_x), (1, .int p1), (2, .int s20.1), (3, .int s20.2.1), (4, .int s20.2.2.1), (5, .int s20.2.2.2)] → Z H locs 0 0 (F0 m 61 ls [.int t61]) := by
              intro H locs ls hP hD hS hl
              refine hZv ?_
              refine lv_istore (lv' := [(6, .int t61), (0, .ref a_x), (1, .int p1), (2, .int s20.1), (3, .int s20.2.1), (4, .int s20.2.2.1), (5, .int s20.2.2.2)]) hx hb dX9_best_61 hl (by decide) rfl (fun ls hl => ?_)
              refine lv_iload hx hb dX9_best_63 (lv_at hl 6 rfl) ?_
              obtain ⟨r4, hr4, hs⟩ := bd_s hs
              refine kc_i (isC := []) (isR := [0, 1, 2, 3]) (pm := [0, 1, 2, 3]) (wr := [(a_x, .inr (9, [.ref a_x_costs, .ref a_r, .ref a_u, .ref a_q, .ref a_h, .ref a_f, .ref a_w, .ref a_o, .ref a_z, .ref a_g, .ref a_k])), (a_x_costs, .inl (c_x_costs, 10, .inl x_costs)), (a_r, .inr (6, [.ref a_r_rows, .ref a_r_ins, .int r_size, .int r_n, .int r_parts])), (a_r_ins, .inl (c_r_ins, 1024, .inl r_ins))]) (w1 := []) (w2 := [(a_x, .inr (9, [.ref a_x_costs, .ref a_r, .ref a_u, .ref a_q, .ref a_h, .ref a_f, .ref a_w, .ref a_o, .ref a_z, .ref a_g, .ref a_k])), (a_x_costs, .inl (c_x_costs, 10, .inl x_costs)), (a_r, .inr (6, [.ref a_r_rows, .ref a_r_ins, .int r_size, .int r_n, .int r_parts])), (a_r_ins, .inl (c_r_ins, 1024, .inl r_ins))]) (va_runS (As := [.int s20.2.2.2]) (rest := []) ⟨hx, hb, hml, hown, hts⟩ (c_J6_bitCount_0f7a4 l dC dI H.size s20.2.2.2 r4 hr4) (va_cwS 1 hts gX9_best_J6_bitCount_0f7a4 rfl rfl rfl (by decide +kernel) ⟨Nat.le_of_ble_eq_true rfl, Nat.le_of_ble_eq_true rfl⟩) (kp_S hK hP hD hS hA hN (isC := []) (isT := []) (wc := []) rfl (by decide +kernel) rfl) rfl rfl hl.1 rfl (lv_room (Nat.le_of_ble_eq_true rfl)) dX9_best_65 ⟨Nat.le_of_ble_eq_true rfl, Nat.le_of_ble_eq_true rfl⟩) hP hD hS hA rfl rfl (by decide +kernel) (by decide +kernel) rfl (by decide +kernel) (fun H locs hP hD hS => ?_)
              refine lv_istore (lv' := [(7, .int r4), (6, .int t61), (0, .ref a_x), (1, .int p1), (2, .int s20.1), (3, .int s20.2.1), (4, .int s20.2.2.1), (5, .int s20.2.2.2)]) hx hb dX9_best_68 hl (by decide) rfl (fun ls hl => ?_)
              refine lv_iload_n hx hb dX9_best_70 rfl (lv_at hl 4 rfl) ?_
              refine lv_iconst (v := (-1)) hx hb dX9_best_71 (by decide) ?_
              have hJ94 : ∀ (t94 : Unit), pX9_best_J94_5 s20 t61 r4 t94 = some y2 → ∀ (H : Heap) (locs : List Loc) (ls : Array Slot), va_P (dC, dI) vwCl [(a_x, .inr (9, [.ref a_x_costs, .ref a_r, .ref a_u, .ref a_q, .ref a_h, .ref a_f, .ref a_w, .ref a_o, .ref a_z, .ref a_g, .ref a_k])), (a_x_costs, .inl (c_x_costs, 10, .inl x_costs)), (a_r, .inr (6, [.ref a_r_rows, .ref a_r_ins, .int r_size, .int r_n, .int r_parts])), (a_r_ins, .inl (c_r_ins, 1024, .inl r_ins))] H → va_D A [(a_x, .inr (9, [.ref a_x_costs, .ref a_r, .ref a_u, .ref a_q, .ref a_h, .ref a_f, .ref a_w, .ref a_o, .ref a_z, .ref a_g, .ref a_k])), (a_x_costs, .inl (c_x_costs, 10, .inl x_costs)), (a_r, .inr (6, [.ref a_r_rows, .ref a_r_ins, .int r_size, .int r_n, .int r_parts])), (a_r_ins, .inl (c_r_ins, 1024, .inl r_ins))] → va_S A s.heap H locs → lv_has ls 8 [(0, .ref a_x), (1, .int p1), (5, .int s20.2.2.2), (6, .int t61), (7, .int r4)] → Z H locs 0 0 (F0 m 94 ls []) := by
                intro t94 hs H locs ls hP hD hS hl
                refine hZv ?_
                unfold pX9_best_J94_5 at hs
                refine lv_iload hx hb dX9_best_94 (lv_at hl 2 rfl) ?_
                refine lv_istore_n (lv' := [(2, .int s20.2.2.2), (0, .ref a_x), (1, .int p1), (5, .int s20.2.2.2), (6, .int t61), (7, .int r4)]) hx hb dX9_best_96 rfl hl (by decide) rfl (fun ls hl => ?_)
                refine lv_iload hx hb dX9_best_97 (lv_at hl 4 rfl) ?_
                refine lv_istore_n (lv' := [(3, .int t61), (2, .int s20.2.2.2), (0, .ref a_x), (1, .int p1), (5, .int s20.2.2.2), (6, .int t61), (7, .int r4)]) hx hb dX9_best_99 rfl hl (by decide) rfl (fun ls hl => ?_)
                refine lv_iload hx hb dX9_best_100 (lv_at hl 6 rfl) ?_
                refine lv_istore (lv' := [(4, .int r4), (3, .int t61), (2, .int s20.2.2.2), (0, .ref a_x), (1, .int p1), (5, .int s20.2.2.2), (6, .int t61), (7, .int r4)]) hx hb dX9_best_102 hl (by decide) rfl (fun ls hl => ?_)
                refine lv_iinc (v := s20.2.2.2 + 1) (lv' := [(5, .int (s20.2.2.2 + 1)), (4, .int r4), (3, .int t61), (2, .int s20.2.2.2), (0, .ref a_x), (1, .int p1), (6, .int t61), (7, .int r4)]) hx hb dX9_best_104 hl (k := 5) rfl (by rfl) (by decide) rfl (fun ls hl => ?_)
                refine lv_goto (tgt := 20) hx hb dX9_best_107 (by decide) ?_
                replace hs := Option.some.inj hs
                subst hs
                exact hZw (ih (s20.2.2.2, t61, r4, s20.2.2.2 + 1) H locs ls hn hP hD hS (lv_sub hl [4, 5, 3, 2, 1, 0] rfl))
              refine lv_icmp_eq (tgt := 94) hx hb dX9_best_72 (by decide) (fun hc => ?_) (fun hc => ?_)
              · replace hs := it_t hc hs
                exact hZw (hJ94 () hs H locs ls hP hD hS (lv_sub hl [2, 3, 7, 1, 0] rfl))
              · replace hs := it_f hc hs
                refine lv_iload hx hb dX9_best_75 (lv_at hl 1 rfl) ?_
                refine lv_iload_n hx hb dX9_best_77 rfl (lv_at hl 5 rfl) ?_
                refine lv_icmp_lt (tgt := 94) hx hb dX9_best_78 (by decide) (fun hc => ?_) (fun hc => ?_)
                · replace hs := it_t hc hs
                  exact hZw (hJ94 () hs H locs ls hP hD hS (lv_sub hl [2, 3, 7, 1, 0] rfl))
                · replace hs := it_f hc hs
                  refine lv_iload hx hb dX9_best_81 (lv_at hl 1 rfl) ?_
                  refine lv_iload_n hx hb dX9_best_83 rfl (lv_at hl 5 rfl) ?_
                  refine lv_icmp_ne (tgt := 104) hx hb dX9_best_84 (by decide) (fun hc => ?_) (fun hc => ?_)
                  · replace hs := it_f hc hs
                    refine lv_iinc (v := s20.2.2.2 + 1) (lv' := [(5, .int (s20.2.2.2 + 1)), (7, .int r4), (6, .int t61), (0, .ref a_x), (1, .int p1), (2, .int s20.1), (3, .int s20.2.1), (4, .int s20.2.2.1)]) hx hb dX9_best_104 hl (k := 7) rfl (by rfl) (by decide) rfl (fun ls hl => ?_)
                    refine lv_goto (tgt := 20) hx hb dX9_best_107 (by decide) ?_
                    replace hs := Option.some.inj hs
                    subst hs
                    exact hZw (ih (s20.1, s20.2.1, s20.2.2.1, s20.2.2.2 + 1) H locs ls hn hP hD hS (lv_sub hl [3, 4, 5, 6, 7, 0] rfl))
                  · replace hs := it_t hc hs
                    refine lv_iload hx hb dX9_best_87 (lv_at hl 0 rfl) ?_
                    refine lv_iload hx hb dX9_best_89 (lv_at hl 6 rfl) ?_
                    refine lv_icmp_ge (tgt := 104) hx hb dX9_best_91 (by decide) (fun hc => ?_) (fun hc => ?_)
                    · replace hs := it_t hc hs
                      refine lv_iinc (v := s20.2.2.2 + 1) (lv' := [(5, .int (s20.2.2.2 + 1)), (7, .int r4), (6, .int t61), (0, .ref a_x), (1, .int p1), (2, .int s20.1), (3, .int s20.2.1), (4, .int s20.2.2.1)]) hx hb dX9_best_104 hl (k := 7) rfl (by rfl) (by decide) rfl (fun ls hl => ?_)
                      refine lv_goto (tgt := 20) hx hb dX9_best_107 (by decide) ?_
                      replace hs := Option.some.inj hs
                      subst hs
                      exact hZw (ih (s20.1, s20.2.1, s20.2.2.1, s20.2.2.2 + 1) H locs ls hn hP hD hS (lv_sub hl [3, 4, 5, 6, 7, 0] rfl))
                    · replace hs := it_f hc hs
                      exact hZw (hJ94 () hs H locs ls hP hD hS (lv_sub hl [2, 3, 7, 1, 0] rfl))
            clear hs
            have hs := hq61
            refine lv_if_ne (tgt := 55) hx hb dX9_best_48 (by decide) (fun hc => ?_) (fun hc => ?_)
            · replace hs := it_f hc hs
              refine lv_aload_n hx hb dX9_best_55 rfl (lv_at hl 0 rfl) ?_
              refine lv_iload hx hb dX9_best_56 (lv_at hl 5 rfl) ?_
              obtain ⟨r6, hr6, hs⟩ := bd_s hs
              refine kc_i (isC := [0, 1, 2]) (isR := [3]) (pm := [1, 2, 3, 0]) (wr := [(a_r_ins, .inl (c_r_ins, 1024, .inl r_ins))]) (w1 := [(a_x, .inr (9, [.ref a_x_costs, .ref a_r, .ref a_u, .ref a_q, .ref a_h, .ref a_f, .ref a_w, .ref a_o, .ref a_z, .ref a_g, .ref a_k])), (a_x_costs, .inl (c_x_costs, 10, .inl x_costs)), (a_r, .inr (6, [.ref a_r_rows, .ref a_r_ins, .int r_size, .int r_n, .int r_parts]))]) (w2 := [(a_x, .inr (9, [.ref a_x_costs, .ref a_r, .ref a_u, .ref a_q, .ref a_h, .ref a_f, .ref a_w, .ref a_o, .ref a_z, .ref a_g, .ref a_k])), (a_x_costs, .inl (c_x_costs, 10, .inl x_costs)), (a_r, .inr (6, [.ref a_r_rows, .ref a_r_ins, .int r_size, .int r_n, .int r_parts])), (a_r_ins, .inl (c_r_ins, 1024, .inl r_ins))]) (va_runV (As := [.int s20.2.2.2]) (rest := []) ⟨hx, hb, hml, hown, hts⟩ (c_X9_priceOf l dC dI a_x a_x_costs a_r a_r_rows a_r_ins a_u a_q a_h a_f a_w a_o a_z a_g a_k c_x_costs H.size x_costs r_size r_n r_parts s20.2.2.2 r6 hr6) (cwV 1 hts gX9_best_X9_priceOf rfl rfl rfl (by decide +kernel) ⟨Nat.le_of_ble_eq_true rfl, Nat.le_of_ble_eq_true rfl⟩) (kp_V hK hP hD hS hA hN (isC := [0, 1, 2]) (isT := [0]) (wc := [(a_x, .inr (9, [.ref a_x_costs, .ref a_r, .ref a_u, .ref a_q, .ref a_h, .ref a_f, .ref a_w, .ref a_o, .ref a_z, .ref a_g, .ref a_k])), (a_x_costs, .inl (c_x_costs, 10, .inl x_costs)), (a_r, .inr (6, [.ref a_r_rows, .ref a_r_ins, .int r_size, .int r_n, .int r_parts]))]) rfl (by decide +kernel) rfl (ci := 9) (q0 := 0) rfl rfl) rfl rfl hl.1 rfl (lv_room (Nat.le_of_ble_eq_true rfl)) dX9_best_58 ⟨Nat.le_of_ble_eq_true rfl, Nat.le_of_ble_eq_true rfl⟩) hP hD hS hA rfl rfl (by decide +kernel) (by decide +kernel) rfl (by decide +kernel) (fun H locs hP hD hS => ?_)
              replace hs := Option.some.inj hs
              subst hs
              exact hZw (hJ61 H locs ls hP hD hS hl)
            · replace hs := it_t hc hs
              refine lv_iconst (v := 0) hx hb dX9_best_51 (by decide) ?_
              refine lv_goto (tgt := 61) hx hb dX9_best_52 (by decide) ?_
              replace hs := Option.some.inj hs
              subst hs
              exact hZw (hJ61 H locs ls hP hD hS hl)
          · replace hs := it_t hc hs
            refine lv_goto (tgt := 104) hx hb dX9_best_44 (by decide) ?_
            refine lv_iinc (v := s20.2.2.2 + 1) (lv' := [(5, .int (s20.2.2.2 + 1)), (0, .ref a_x), (1, .int p1), (2, .int s20.1), (3, .int s20.2.1), (4, .int s20.2.2.1)]) hx hb dX9_best_104 hl (k := 5) rfl (by rfl) (by decide) rfl (fun ls hl => ?_)
            refine lv_goto (tgt := 20) hx hb dX9_best_107 (by decide) ?_
            replace hs := Option.some.inj hs
            subst hs
            exact hZw (ih (s20.1, s20.2.1, s20.2.2.1, s20.2.2.2 + 1) H locs ls hn hP hD hS (lv_sub hl [1, 2, 3, 4, 5, 0] rfl))
    obtain ⟨n20, hn20⟩ := lp_ex he20
    exact hZw (hL20 n20 ((-1), 0, 0, 0) H locs ls hn20 hP hD hS (lv_sub hl [4, 5, 3, 2, 1, 0] rfl))
  · replace hs := it_t hc hs
    refine lv_bipush (v := (-2)) hx hb dX9_best_7 (by decide) ?_
    replace hs := Option.some.inj hs
    subst hs
    exact W.iret (v := (-2)) hx hb hr (fun t ht hW => ⟨⟨(-2), (), rfl, rfl, by rw [ht]; exact hP, va_K.moved hW.alike hK, hD⟩, hS.F ht⟩) hS.2.2 dX9_best_9
noncomputable def pX9_other (u_len : Nat) (u_size : Int32) (u_parts : Int32) (u_rows : Nat → Int32) (u_ins : Nat → Int32) (p1 : Int32) : Option (Int32 × Int32 × (Nat → Int32) × (Nat → Int32)) :=
  Option.bind (pX6_isPart u_parts p1) (fun r1 => if r1 = 0 then (some ((-2), u_size, u_rows, u_ins)) else (Option.bind (pX6_holds u_len u_size u_rows p1) (fun r2 => if r2 = 0 then (Option.bind (pX6_isFull u_len u_size) (fun r3 => if r3 = 0 then (Option.bind (pX6_append u_len u_size u_parts u_rows u_ins p1) (fun r4 => some (r4.1, r4.1, r4.2.1, r4.2.2))) else (some ((-4), u_size, u_rows, u_ins)))) else (some ((-2), u_size, u_rows, u_ins)))))
set_option maxHeartbeats 4000000 in
set_option maxRecDepth 100000 in
theorem c_X9_other (l : Launch) (dC : Nat → ClassId) (dI : Nat → Nat → Nat) (a_x : Nat) (a_x_costs : Nat) (a_r : Nat) (a_u : Nat) (a_u_rows : Nat) (a_u_ins : Nat) (a_q : Nat) (a_h : Nat) (a_f : Nat) (a_w : Nat) (a_o : Nat) (a_z : Nat) (a_g : Nat) (a_k : Nat) (c_u_rows c_u_ins : ClassId) (u_len : Nat) (sz : Nat) (u_size : Int32) (u_n : Int32) (u_parts : Int32) (u_rows : Nat → Int32) (u_ins : Nat → Int32) (p1 : Int32) (rv : Int32 × Int32 × (Nat → Int32) × (Nat → Int32)) (hs : pX9_other u_len u_size u_parts u_rows u_ins p1 = some rv) : Met l yX9_other wsX9_other ({ frames := 2, cells := 0, slots := 0, locals := 44 }) (sPc [.ref a_x, .int p1] (dC, dI) [(c_u_rows, .int), (c_u_ins, .int)] [(a_x, .inr (9, [.ref a_x_costs, .ref a_r, .ref a_u, .ref a_q, .ref a_h, .ref a_f, .ref a_w, .ref a_o, .ref a_z, .ref a_g, .ref a_k])), (a_u, .inr (6, [.ref a_u_rows, .ref a_u_ins, .int u_size, .int u_n, .int u_parts])), (a_u_rows, .inl (c_u_rows, u_len, .inl u_rows)), (a_u_ins, .inl (c_u_ins, 1024, .inl u_ins))] sz) (va_Qi (fun (r : Int32) (_ : Unit) => r = rv.1) (sB (dC, dI) [(c_u_rows, .int), (c_u_ins, .int)] (va_A [(a_x, .inr (9, [.ref a_x_costs, .ref a_r, .ref a_u, .ref a_q, .ref a_h, .ref a_f, .ref a_w, .ref a_o, .ref a_z, .ref a_g, .ref a_k])), (a_u, .inr (6, [.ref a_u_rows, .ref a_u_ins, .int u_size, .int u_n, .int u_parts])), (a_u_rows, .inl (c_u_rows, u_len, .inl u_rows)), (a_u_ins, .inl (c_u_ins, 1024, .inl u_ins))] sz) [(a_x, .inr (9, [.ref a_x_costs, .ref a_r, .ref a_u, .ref a_q, .ref a_h, .ref a_f, .ref a_w, .ref a_o, .ref a_z, .ref a_g, .ref a_k])), (a_u, .inr (6, [.ref a_u_rows, .ref a_u_ins, .int rv.2.1, .int u_n, .int u_parts])), (a_u_rows, .inl (c_u_rows, u_len, .inl rv.2.2.1)), (a_u_ins, .inl (c_u_ins, 1024, .inl rv.2.2.2))]) (va_A [(a_x, .inr (9, [.ref a_x_costs, .ref a_r, .ref a_u, .ref a_q, .ref a_h, .ref a_f, .ref a_w, .ref a_o, .ref a_z, .ref a_g, .ref a_k])), (a_u, .inr (6, [.ref a_u_rows, .ref a_u_ins, .int u_size, .int u_n, .int u_parts])), (a_u_rows, .inl (c_u_rows, u_len, .inl u_rows)), (a_u_ins, .inl (c_u_ins, 1024, .inl u_ins))] sz)) 0 0 (va_A [(a_x, .inr (9, [.ref a_x_costs, .ref a_r, .ref a_u, .ref a_q, .ref a_h, .ref a_f, .ref a_w, .ref a_o, .ref a_z, .ref a_g, .ref a_k])), (a_u, .inr (6, [.ref a_u_rows, .ref a_u_ins, .int u_size, .int u_n, .int u_parts])), (a_u_rows, .inl (c_u_rows, u_len, .inl u_rows)), (a_u_ins, .inl (c_u_ins, 1024, .inl u_ins))] sz) := by
  refine Met.ofW (cc := cX9_other) (maxL := 2) (ret := (some .int)) (by decide) rfl ?_
  intro p e s m args below meth c s₁ B hml hv
  obtain ⟨rfl, hsz, hP, hK, hD0, hN⟩ := hv
  have hx := B.exec
  have hb := B.bytes
  have hr := B.returns
  have hts := atoms_spec (ws := wsX9_other) B.pre
  have hown : s.vm.findClass RX9 = some m.cls := findClass_of_methodNamed B.named
  have hlocks := B.notSynchronized
  subst hsz
  have hD := hD0.self (sz := s.heap.size)
  generalize hAe : va_A [(a_x, .inr (9, [.ref a_x_costs, .ref a_r, .ref a_u, .ref a_q, .ref a_h, .ref a_f, .ref a_w, .ref a_o, .ref a_z, .ref a_g, .ref a_k])), (a_u, .inr (6, [.ref a_u_rows, .ref a_u_ins, .int u_size, .int u_n, .int u_parts])), (a_u_rows, .inl (c_u_rows, u_len, .inl u_rows)), (a_u_ins, .inl (c_u_ins, 1024, .inl u_ins))] s.heap.size = A at hD hN ⊢
  have hA : ∀ q : Nat, s.heap.size ≤ q → A q := fun q h => by rw [← hAe]; exact Or.inr h
  have hS : va_S A s.heap s.heap [] := va_S.rf
  have hP : va_P (dC, dI) vwCl [(a_x, .inr (9, [.ref a_x_costs, .ref a_r, .ref a_u, .ref a_q, .ref a_h, .ref a_f, .ref a_w, .ref a_o, .ref a_z, .ref a_g, .ref a_k])), (a_u, .inr (6, [.ref a_u_rows, .ref a_u_ins, .int u_size, .int u_n, .int u_parts])), (a_u_rows, .inl (c_u_rows, u_len, .inl u_rows)), (a_u_ins, .inl (c_u_ins, 1024, .inl u_ins))] s.heap := hP
  have hl := lv_entry ([.ref a_x, .int p1]) (n := 2) (Nat.le_of_ble_eq_true rfl)
  rw [lg_entry_eq]
  generalize (lg_sl ([.ref a_x, .int p1]) ++ List.replicate (2 - (lg_sl ([.ref a_x, .int p1])).length) Slot.unset).toArray = ls at hl ⊢
  have hl : lv_has ls 2 [(0, .ref a_x), (1, .int p1)] := hl
  have hiX9 : ∀ w ∈ wsX90, w ∈ wsX9_other := fun _ h => List.mem_cons_of_mem _ (List.mem_append_left _ (List.mem_append_right _ h))
  have hf27 := hts (.fieldLink RX9 27 "MeetSets" "others" "LMeetSets$SetRow;") (t1_ (al_ (al_ (al_ h1_))))
  have hiX6 : ∀ w ∈ wsX60, w ∈ wsX9_other := fun _ h => List.mem_cons_of_mem _ (List.mem_append_right _ h)
  have hf106 := hts (.fieldLink RX9 106 "MeetSets$SetRow" "size" "I") (t1_ (al_ (al_ (al_ (t1_ h1_)))))
  refine w_abs (fun Z hZv hZw => ?_)
  refine hZv ?_
  obtain ⟨H, hH⟩ : ∃ H, H = s.heap := ⟨_, rfl⟩
  obtain ⟨locs, hlo⟩ : ∃ L : List Loc, L = [] := ⟨_, rfl⟩
  rw [← hlo, ← hH]
  have hS : va_S A s.heap H locs := by rw [hlo, hH]; exact hS
  have hP : va_P (dC, dI) vwCl [(a_x, .inr (9, [.ref a_x_costs, .ref a_r, .ref a_u, .ref a_q, .ref a_h, .ref a_f, .ref a_w, .ref a_o, .ref a_z, .ref a_g, .ref a_k])), (a_u, .inr (6, [.ref a_u_rows, .ref a_u_ins, .int u_size, .int u_n, .int u_parts])), (a_u_rows, .inl (c_u_rows, u_len, .inl u_rows)), (a_u_ins, .inl (c_u_ins, 1024, .inl u_ins))] H := by rw [hH]; exact hP
  clear hH hlo
  unfold pX9_other at hs
  refine lv_aload_n hx hb dX9_other_0 rfl (lv_at hl 0 rfl) ?_
  refine va_get (D := (dC, dI)) (ci := 9) (v := .ref a_u) (C := RX9) (T := TX9) (N := 11) hx hb hts hiX9 hown hK hP 0 rfl rfl 2 (by decide) hf27 (fun _ h9 => h9) rfl dX9_other_1 ?_
  refine lv_iload_n hx hb dX9_other_4 rfl (lv_at hl 1 rfl) ?_
  obtain ⟨r1, hr1, hs⟩ := bd_s hs
  refine kc_i (isC := [1]) (isR := [0, 2, 3]) (pm := [0, 3, 1, 2]) (wr := [(a_x, .inr (9, [.ref a_x_costs, .ref a_r, .ref a_u, .ref a_q, .ref a_h, .ref a_f, .ref a_w, .ref a_o, .ref a_z, .ref a_g, .ref a_k])), (a_u_rows, .inl (c_u_rows, u_len, .inl u_rows)), (a_u_ins, .inl (c_u_ins, 1024, .inl u_ins))]) (w1 := [(a_u, .inr (6, [.ref a_u_rows, .ref a_u_ins, .int u_size, .int u_n, .int u_parts]))]) (w2 := [(a_x, .inr (9, [.ref a_x_costs, .ref a_r, .ref a_u, .ref a_q, .ref a_h, .ref a_f, .ref a_w, .ref a_o, .ref a_z, .ref a_g, .ref a_k])), (a_u, .inr (6, [.ref a_u_rows, .ref a_u_ins, .int u_size, .int u_n, .int u_parts])), (a_u_rows, .inl (c_u_rows, u_len, .inl u_rows)), (a_u_ins, .inl (c_u_ins, 1024, .inl u_ins))]) (va_runV (As := [.int p1]) (rest := []) ⟨hx, hb, hml, hown, hts⟩ (c_X6_isPart l dC dI a_u a_u_rows a_u_ins H.size u_size u_n u_parts p1 r1 hr1) (cwV 1 hts gX9_other_X6_isPart rfl rfl rfl (by decide +kernel) ⟨Nat.le_of_ble_eq_true rfl, Nat.le_of_ble_eq_true rfl⟩) (kp_V hK hP hD hS hA hN (isC := [1]) (isT := []) (wc := [(a_u, .inr (6, [.ref a_u_rows, .ref a_u_ins, .int u_size, .int u_n, .int u_parts]))]) rfl (by decide +kernel) rfl (ci := 6) (q0 := 0) rfl rfl) rfl rfl hl.1 rfl (lv_room (Nat.le_of_ble_eq_true rfl)) dX9_other_5 ⟨Nat.le_of_ble_eq_true rfl, Nat.le_of_ble_eq_true rfl⟩) hP hD hS hA rfl rfl (by decide +kernel) (by decide +kernel) rfl (by decide +kernel) (fun H locs hP hD hS => ?_)
  refine lv_if_eq (tgt := 22) hx hb dX9_other_8 (by decide) (fun hc => ?_) (fun hc => ?_)
  · replace hs := it_t hc hs
    refine lv_bipush (v := (-2)) hx hb dX9_other_22 (by decide) ?_
    replace hs := Option.some.inj hs
    subst hs
    exact W.iret (v := (-2)) hx hb hr (fun t ht hW => ⟨⟨(-2), (), rfl, rfl, by rw [ht]; exact hP, va_K.moved hW.alike hK, hD⟩, hS.F ht⟩) hS.2.2 dX9_other_24
  · replace hs := it_f hc hs
    refine lv_aload_n hx hb dX9_other_11 rfl (lv_at hl 0 rfl) ?_
    refine va_get (D := (dC, dI)) (ci := 9) (v := .ref a_u) (C := RX9) (T := TX9) (N := 11) hx hb hts hiX9 hown hK hP 0 rfl rfl 2 (by decide) hf27 (fun _ h9 => h9) rfl dX9_other_12 ?_
    refine lv_iload_n hx hb dX9_other_15 rfl (lv_at hl 1 rfl) ?_
    obtain ⟨r2, hr2, hs⟩ := bd_s hs
    refine kc_i (isC := [1, 2]) (isR := [0, 3]) (pm := [0, 2, 3, 1]) (wr := [(a_x, .inr (9, [.ref a_x_costs, .ref a_r, .ref a_u, .ref a_q, .ref a_h, .ref a_f, .ref a_w, .ref a_o, .ref a_z, .ref a_g, .ref a_k])), (a_u_ins, .inl (c_u_ins, 1024, .inl u_ins))]) (w1 := [(a_u, .inr (6, [.ref a_u_rows, .ref a_u_ins, .int u_size, .int u_n, .int u_parts])), (a_u_rows, .inl (c_u_rows, u_len, .inl u_rows))]) (w2 := [(a_x, .inr (9, [.ref a_x_costs, .ref a_r, .ref a_u, .ref a_q, .ref a_h, .ref a_f, .ref a_w, .ref a_o, .ref a_z, .ref a_g, .ref a_k])), (a_u, .inr (6, [.ref a_u_rows, .ref a_u_ins, .int u_size, .int u_n, .int u_parts])), (a_u_rows, .inl (c_u_rows, u_len, .inl u_rows)), (a_u_ins, .inl (c_u_ins, 1024, .inl u_ins))]) (va_runV (As := [.int p1]) (rest := []) ⟨hx, hb, hml, hown, hts⟩ (c_X6_holds l dC dI a_u a_u_rows a_u_ins c_u_rows u_len H.size u_size u_n u_parts u_rows p1 r2 hr2) (cwV 1 hts gX9_other_X6_holds rfl rfl rfl (by decide +kernel) ⟨Nat.le_of_ble_eq_true rfl, Nat.le_of_ble_eq_true rfl⟩) (kp_V hK hP hD hS hA hN (isC := [1, 2]) (isT := [0]) (wc := [(a_u, .inr (6, [.ref a_u_rows, .ref a_u_ins, .int u_size, .int u_n, .int u_parts])), (a_u_rows, .inl (c_u_rows, u_len, .inl u_rows))]) rfl (by decide +kernel) rfl (ci := 6) (q0 := 0) rfl rfl) rfl rfl hl.1 rfl (lv_room (Nat.le_of_ble_eq_true rfl)) dX9_other_16 ⟨Nat.le_of_ble_eq_true rfl, Nat.le_of_ble_eq_true rfl⟩) hP hD hS hA rfl rfl (by decide +kernel) (by decide +kernel) rfl (by decide +kernel) (fun H locs hP hD hS => ?_)
    refine lv_if_eq (tgt := 25) hx hb dX9_other_19 (by decide) (fun hc => ?_) (fun hc => ?_)
    · replace hs := it_t hc hs
      refine lv_aload_n hx hb dX9_other_25 rfl (lv_at hl 0 rfl) ?_
      refine va_get (D := (dC, dI)) (ci := 9) (v := .ref a_u) (C := RX9) (T := TX9) (N := 11) hx hb hts hiX9 hown hK hP 0 rfl rfl 2 (by decide) hf27 (fun _ h9 => h9) rfl dX9_other_26 ?_
      obtain ⟨r3, hr3, hs⟩ := bd_s hs
      refine kc_i (isC := [1, 2]) (isR := [0, 3]) (pm := [0, 2, 3, 1]) (wr := [(a_x, .inr (9, [.ref a_x_costs, .ref a_r, .ref a_u, .ref a_q, .ref a_h, .ref a_f, .ref a_w, .ref a_o, .ref a_z, .ref a_g, .ref a_k])), (a_u_ins, .inl (c_u_ins, 1024, .inl u_ins))]) (w1 := [(a_u, .inr (6, [.ref a_u_rows, .ref a_u_ins, .int u_size, .int u_n, .int u_parts])), (a_u_rows, .inl (c_u_rows, u_len, .inl u_rows))]) (w2 := [(a_x, .inr (9, [.ref a_x_costs, .ref a_r, .ref a_u, .ref a_q, .ref a_h, .ref a_f, .ref a_w, .ref a_o, .ref a_z, .ref a_g, .ref a_k])), (a_u, .inr (6, [.ref a_u_rows, .ref a_u_ins, .int u_size, .int u_n, .int u_parts])), (a_u_rows, .inl (c_u_rows, u_len, .inl u_rows)), (a_u_ins, .inl (c_u_ins, 1024, .inl u_ins))]) (va_runV (As := []) (rest := []) ⟨hx, hb, hml, hown, hts⟩ (c_X6_isFull l dC dI a_u a_u_rows a_u_ins c_u_rows u_len H.size u_size u_n u_parts u_rows r3 hr3) (cwV 0 hts gX9_other_X6_isFull rfl rfl rfl (by decide +kernel) ⟨Nat.le_of_ble_eq_true rfl, Nat.le_of_ble_eq_true rfl⟩) (kp_V hK hP hD hS hA hN (isC := [1, 2]) (isT := [0]) (wc := [(a_u, .inr (6, [.ref a_u_rows, .ref a_u_ins, .int u_size, .int u_n, .int u_parts])), (a_u_rows, .inl (c_u_rows, u_len, .inl u_rows))]) rfl (by decide +kernel) rfl (ci := 6) (q0 := 0) rfl rfl) rfl rfl hl.1 rfl (lv_room (Nat.le_of_ble_eq_true rfl)) dX9_other_29 ⟨Nat.le_of_ble_eq_true rfl, Nat.le_of_ble_eq_true rfl⟩) hP hD hS hA rfl rfl (by decide +kernel) (by decide +kernel) rfl (by decide +kernel) (fun H locs hP hD hS => ?_)
      refine lv_if_eq (tgt := 38) hx hb dX9_other_32 (by decide) (fun hc => ?_) (fun hc => ?_)
      · replace hs := it_t hc hs
        refine lv_aload_n hx hb dX9_other_38 rfl (lv_at hl 0 rfl) ?_
        refine va_get (D := (dC, dI)) (ci := 9) (v := .ref a_u) (C := RX9) (T := TX9) (N := 11) hx hb hts hiX9 hown hK hP 0 rfl rfl 2 (by decide) hf27 (fun _ h9 => h9) rfl dX9_other_39 ?_
        refine lv_iload_n hx hb dX9_other_42 rfl (lv_at hl 1 rfl) ?_
        obtain ⟨r4, hr4, hs⟩ := bd_s hs
        refine kc_v (isC := [1, 2, 3]) (isR := [0]) (pm := [0, 1, 2, 3]) (wr := [(a_x, .inr (9, [.ref a_x_costs, .ref a_r, .ref a_u, .ref a_q, .ref a_h, .ref a_f, .ref a_w, .ref a_o, .ref a_z, .ref a_g, .ref a_k]))]) (w1 := [(a_u, .inr (6, [.ref a_u_rows, .ref a_u_ins, .int r4.1, .int u_n, .int u_parts])), (a_u_rows, .inl (c_u_rows, u_len, .inl r4.2.1)), (a_u_ins, .inl (c_u_ins, 1024, .inl r4.2.2))]) (w2 := [(a_x, .inr (9, [.ref a_x_costs, .ref a_r, .ref a_u, .ref a_q, .ref a_h, .ref a_f, .ref a_w, .ref a_o, .ref a_z, .ref a_g, .ref a_k])), (a_u, .inr (6, [.ref a_u_rows, .ref a_u_ins, .int r4.1, .int u_n, .int u_parts])), (a_u_rows, .inl (c_u_rows, u_len, .inl r4.2.1)), (a_u_ins, .inl (c_u_ins, 1024, .inl r4.2.2))]) (va_runV (As := [.int p1]) (rest := []) ⟨hx, hb, hml, hown, hts⟩ (c_X6_append l dC dI a_u a_u_rows a_u_ins c_u_rows c_u_ins u_len H.size u_size u_n u_parts u_rows u_ins p1 r4 hr4) (cwV 1 hts gX9_other_X6_append rfl rfl rfl (by decide +kernel) ⟨Nat.le_of_ble_eq_true rfl, Nat.le_of_ble_eq_true rfl⟩) (kp_V hK hP hD hS hA hN (isC := [1, 2, 3]) (isT := [0, 1]) (wc := [(a_u, .inr (6, [.ref a_u_rows, .ref a_u_ins, .int u_size, .int u_n, .int u_parts])), (a_u_rows, .inl (c_u_rows, u_len, .inl u_rows)), (a_u_ins, .inl (c_u_ins, 1024, .inl u_ins))]) rfl (by decide +kernel) rfl (ci := 6) (q0 := 0) rfl rfl) rfl rfl hl.1 rfl (lv_room (Nat.le_of_ble_eq_true rfl)) dX9_other_43 ⟨Nat.le_of_ble_eq_true rfl, Nat.le_of_ble_eq_true rfl⟩) hP hD hS hA rfl rfl (by decide +kernel) (by decide +kernel) rfl (by decide +kernel) (fun H locs hP hD hS => ?_)
        refine lv_aload_n hx hb dX9_other_46 rfl (lv_at hl 0 rfl) ?_
        refine va_get (D := (dC, dI)) (ci := 9) (v := .ref a_u) (C := RX9) (T := TX9) (N := 11) hx hb hts hiX9 hown hK hP 0 rfl rfl 2 (by decide) hf27 (fun _ h9 => h9) rfl dX9_other_47 ?_
        refine va_get (D := (dC, dI)) (ci := 6) (v := .int r4.1) (C := RX6) (T := TX6) (N := 5) hx hb hts hiX6 hown hK hP 1 rfl rfl 2 (by decide) hf106 (fun _ h9 => h9) rfl dX9_other_50 ?_
        replace hs := Option.some.inj hs
        subst hs
        exact W.iret (v := r4.1) hx hb hr (fun t ht hW => ⟨⟨r4.1, (), rfl, rfl, by rw [ht]; exact hP, va_K.moved hW.alike hK, hD⟩, hS.F ht⟩) hS.2.2 dX9_other_53
      · replace hs := it_f hc hs
        refine lv_bipush (v := (-4)) hx hb dX9_other_35 (by decide) ?_
        replace hs := Option.some.inj hs
        subst hs
        exact W.iret (v := (-4)) hx hb hr (fun t ht hW => ⟨⟨(-4), (), rfl, rfl, by rw [ht]; exact hP, va_K.moved hW.alike hK, hD⟩, hS.F ht⟩) hS.2.2 dX9_other_37
    · replace hs := it_f hc hs
      refine lv_bipush (v := (-2)) hx hb dX9_other_22 (by decide) ?_
      replace hs := Option.some.inj hs
      subst hs
      exact W.iret (v := (-2)) hx hb hr (fun t ht hW => ⟨⟨(-2), (), rfl, rfl, by rw [ht]; exact hP, va_K.moved hW.alike hK, hD⟩, hS.F ht⟩) hS.2.2 dX9_other_24
noncomputable def pX9_otherless (r_n : Int32) (u_size : Int32) (u_n : Int32) (u_parts : Int32) (u_ins : Nat → Int32) : Option (Int32 × Int32 × Int32 × Int32 × (Nat → Int32)) :=
  Option.bind (pX6_clearFor u_size u_n u_parts u_ins r_n) (fun r1 => some (u_size, r1.1, r1.2.1, r1.2.2.1, r1.2.2.2))
set_option maxHeartbeats 4000000 in
set_option maxRecDepth 100000 in
theorem c_X9_otherless (l : Launch) (dC : Nat → ClassId) (dI : Nat → Nat → Nat) (a_x : Nat) (a_x_costs : Nat) (a_r : Nat) (a_r_rows : Nat) (a_r_ins : Nat) (a_u : Nat) (a_u_rows : Nat) (a_u_ins : Nat) (a_q : Nat) (a_h : Nat) (a_f : Nat) (a_w : Nat) (a_o : Nat) (a_z : Nat) (a_g : Nat) (a_k : Nat) (c_u_ins : ClassId) (sz : Nat) (r_size : Int32) (r_n : Int32) (r_parts : Int32) (u_size : Int32) (u_n : Int32) (u_parts : Int32) (u_ins : Nat → Int32) (rv : Int32 × Int32 × Int32 × Int32 × (Nat → Int32)) (hs : pX9_otherless r_n u_size u_n u_parts u_ins = some rv) : Met l yX9_otherless wsX9_otherless ({ frames := 2, cells := 0, slots := 0, locals := 44 }) (sPc [.ref a_x] (dC, dI) [(c_u_ins, .int)] [(a_x, .inr (9, [.ref a_x_costs, .ref a_r, .ref a_u, .ref a_q, .ref a_h, .ref a_f, .ref a_w, .ref a_o, .ref a_z, .ref a_g, .ref a_k])), (a_r, .inr (6, [.ref a_r_rows, .ref a_r_ins, .int r_size, .int r_n, .int r_parts])), (a_u, .inr (6, [.ref a_u_rows, .ref a_u_ins, .int u_size, .int u_n, .int u_parts])), (a_u_ins, .inl (c_u_ins, 1024, .inl u_ins))] sz) (va_Qi (fun (r : Int32) (_ : Unit) => r = rv.1) (sB (dC, dI) [(c_u_ins, .int)] (va_A [(a_x, .inr (9, [.ref a_x_costs, .ref a_r, .ref a_u, .ref a_q, .ref a_h, .ref a_f, .ref a_w, .ref a_o, .ref a_z, .ref a_g, .ref a_k])), (a_r, .inr (6, [.ref a_r_rows, .ref a_r_ins, .int r_size, .int r_n, .int r_parts])), (a_u, .inr (6, [.ref a_u_rows, .ref a_u_ins, .int u_size, .int u_n, .int u_parts])), (a_u_ins, .inl (c_u_ins, 1024, .inl u_ins))] sz) [(a_x, .inr (9, [.ref a_x_costs, .ref a_r, .ref a_u, .ref a_q, .ref a_h, .ref a_f, .ref a_w, .ref a_o, .ref a_z, .ref a_g, .ref a_k])), (a_r, .inr (6, [.ref a_r_rows, .ref a_r_ins, .int r_size, .int r_n, .int r_parts])), (a_u, .inr (6, [.ref a_u_rows, .ref a_u_ins, .int rv.2.1, .int rv.2.2.1, .int rv.2.2.2.1])), (a_u_ins, .inl (c_u_ins, 1024, .inl rv.2.2.2.2))]) (va_A [(a_x, .inr (9, [.ref a_x_costs, .ref a_r, .ref a_u, .ref a_q, .ref a_h, .ref a_f, .ref a_w, .ref a_o, .ref a_z, .ref a_g, .ref a_k])), (a_r, .inr (6, [.ref a_r_rows, .ref a_r_ins, .int r_size, .int r_n, .int r_parts])), (a_u, .inr (6, [.ref a_u_rows, .ref a_u_ins, .int u_size, .int u_n, .int u_parts])), (a_u_ins, .inl (c_u_ins, 1024, .inl u_ins))] sz)) 0 0 (va_A [(a_x, .inr (9, [.ref a_x_costs, .ref a_r, .ref a_u, .ref a_q, .ref a_h, .ref a_f, .ref a_w, .ref a_o, .ref a_z, .ref a_g, .ref a_k])), (a_r, .inr (6, [.ref a_r_rows, .ref a_r_ins, .int r_size, .int r_n, .int r_parts])), (a_u, .inr (6, [.ref a_u_rows, .ref a_u_ins, .int u_size, .int u_n, .int u_parts])), (a_u_ins, .inl (c_u_ins, 1024, .inl u_ins))] sz) := by
  refine Met.ofW (cc := cX9_otherless) (maxL := 2) (ret := (some .int)) (by decide) rfl ?_
  intro p e s m args below meth c s₁ B hml hv
  obtain ⟨rfl, hsz, hP, hK, hD0, hN⟩ := hv
  have hx := B.exec
  have hb := B.bytes
  have hr := B.returns
  have hts := atoms_spec (ws := wsX9_otherless) B.pre
  have hown : s.vm.findClass RX9 = some m.cls := findClass_of_methodNamed B.named
  have hlocks := B.notSynchronized
  subst hsz
  have hD := hD0.self (sz := s.heap.size)
  generalize hAe : va_A [(a_x, .inr (9, [.ref a_x_costs, .ref a_r, .ref a_u, .ref a_q, .ref a_h, .ref a_f, .ref a_w, .ref a_o, .ref a_z, .ref a_g, .ref a_k])), (a_r, .inr (6, [.ref a_r_rows, .ref a_r_ins, .int r_size, .int r_n, .int r_parts])), (a_u, .inr (6, [.ref a_u_rows, .ref a_u_ins, .int u_size, .int u_n, .int u_parts])), (a_u_ins, .inl (c_u_ins, 1024, .inl u_ins))] s.heap.size = A at hD hN ⊢
  have hA : ∀ q : Nat, s.heap.size ≤ q → A q := fun q h => by rw [← hAe]; exact Or.inr h
  have hS : va_S A s.heap s.heap [] := va_S.rf
  have hP : va_P (dC, dI) vwCl [(a_x, .inr (9, [.ref a_x_costs, .ref a_r, .ref a_u, .ref a_q, .ref a_h, .ref a_f, .ref a_w, .ref a_o, .ref a_z, .ref a_g, .ref a_k])), (a_r, .inr (6, [.ref a_r_rows, .ref a_r_ins, .int r_size, .int r_n, .int r_parts])), (a_u, .inr (6, [.ref a_u_rows, .ref a_u_ins, .int u_size, .int u_n, .int u_parts])), (a_u_ins, .inl (c_u_ins, 1024, .inl u_ins))] s.heap := hP
  have hl := lv_entry ([.ref a_x]) (n := 2) (Nat.le_of_ble_eq_true rfl)
  rw [lg_entry_eq]
  generalize (lg_sl ([.ref a_x]) ++ List.replicate (2 - (lg_sl ([.ref a_x])).length) Slot.unset).toArray = ls at hl ⊢
  have hl : lv_has ls 2 [(0, .ref a_x)] := hl
  have hiX9 : ∀ w ∈ wsX90, w ∈ wsX9_otherless := fun _ h => List.mem_cons_of_mem _ (List.mem_append_left _ (List.mem_append_right _ h))
  have hf27 := hts (.fieldLink RX9 27 "MeetSets" "others" "LMeetSets$SetRow;") (t1_ (al_ (al_ h1_)))
  have hiX6 : ∀ w ∈ wsX60, w ∈ wsX9_otherless := fun _ h => List.mem_cons_of_mem _ (List.mem_append_right _ h)
  have hf106 := hts (.fieldLink RX9 106 "MeetSets$SetRow" "size" "I") (t1_ (al_ (al_ (t1_ h1_))))
  have hf23 := hts (.fieldLink RX9 23 "MeetSets" "list" "LMeetSets$SetRow;") (t1_ (al_ (al_ (t1_ (t1_ h1_)))))
  have hf138 := hts (.fieldLink RX9 138 "MeetSets$SetRow" "n" "I") (t1_ (al_ (al_ (t1_ (t1_ (t1_ h1_))))))
  refine w_abs (fun Z hZv hZw => ?_)
  refine hZv ?_
  obtain ⟨H, hH⟩ : ∃ H, H = s.heap := ⟨_, rfl⟩
  obtain ⟨locs, hlo⟩ : ∃ L : List Loc, L = [] := ⟨_, rfl⟩
  rw [← hlo, ← hH]
  have hS : va_S A s.heap H locs := by rw [hlo, hH]; exact hS
  have hP : va_P (dC, dI) vwCl [(a_x, .inr (9, [.ref a_x_costs, .ref a_r, .ref a_u, .ref a_q, .ref a_h, .ref a_f, .ref a_w, .ref a_o, .ref a_z, .ref a_g, .ref a_k])), (a_r, .inr (6, [.ref a_r_rows, .ref a_r_ins, .int r_size, .int r_n, .int r_parts])), (a_u, .inr (6, [.ref a_u_rows, .ref a_u_ins, .int u_size, .int u_n, .int u_parts])), (a_u_ins, .inl (c_u_ins, 1024, .inl u_ins))] H := by rw [hH]; exact hP
  clear hH hlo
  unfold pX9_otherless at hs
  refine lv_aload_n hx hb dX9_otherless_0 rfl (lv_at hl 0 rfl) ?_
  refine va_get (D := (dC, dI)) (ci := 9) (v := .ref a_u) (C := RX9) (T := TX9) (N := 11) hx hb hts hiX9 hown hK hP 0 rfl rfl 2 (by decide) hf27 (fun _ h9 => h9) rfl dX9_otherless_1 ?_
  refine va_get (D := (dC, dI)) (ci := 6) (v := .int u_size) (C := RX6) (T := TX6) (N := 5) hx hb hts hiX6 hown hK hP 2 rfl rfl 2 (by decide) hf106 (fun _ h9 => h9) rfl dX9_otherless_4 ?_
  refine lv_istore_n (lv' := [(1, .int u_size), (0, .ref a_x)]) hx hb dX9_otherless_7 rfl hl (by decide) rfl (fun ls hl => ?_)
  refine lv_aload_n hx hb dX9_otherless_8 rfl (lv_at hl 1 rfl) ?_
  refine va_get (D := (dC, dI)) (ci := 9) (v := .ref a_u) (C := RX9) (T := TX9) (N := 11) hx hb hts hiX9 hown hK hP 0 rfl rfl 2 (by decide) hf27 (fun _ h9 => h9) rfl dX9_otherless_9 ?_
  refine lv_aload_n hx hb dX9_otherless_12 rfl (lv_at hl 1 rfl) ?_
  refine va_get (D := (dC, dI)) (ci := 9) (v := .ref a_r) (C := RX9) (T := TX9) (N := 11) hx hb hts hiX9 hown hK hP 0 rfl rfl 1 (by decide) hf23 (fun _ h9 => h9) rfl dX9_otherless_13 ?_
  refine va_get (D := (dC, dI)) (ci := 6) (v := .int r_n) (C := RX6) (T := TX6) (N := 5) hx hb hts hiX6 hown hK hP 1 rfl rfl 3 (by decide) hf138 (fun _ h9 => h9) rfl dX9_otherless_16 ?_
  obtain ⟨r1, hr1, hs⟩ := bd_s hs
  refine kc_v (isC := [2, 3]) (isR := [0, 1]) (pm := [0, 1, 2, 3]) (wr := [(a_x, .inr (9, [.ref a_x_costs, .ref a_r, .ref a_u, .ref a_q, .ref a_h, .ref a_f, .ref a_w, .ref a_o, .ref a_z, .ref a_g, .ref a_k])), (a_r, .inr (6, [.ref a_r_rows, .ref a_r_ins, .int r_size, .int r_n, .int r_parts]))]) (w1 := [(a_u, .inr (6, [.ref a_u_rows, .ref a_u_ins, .int r1.1, .int r1.2.1, .int r1.2.2.1])), (a_u_ins, .inl (c_u_ins, 1024, .inl r1.2.2.2))]) (w2 := [(a_x, .inr (9, [.ref a_x_costs, .ref a_r, .ref a_u, .ref a_q, .ref a_h, .ref a_f, .ref a_w, .ref a_o, .ref a_z, .ref a_g, .ref a_k])), (a_r, .inr (6, [.ref a_r_rows, .ref a_r_ins, .int r_size, .int r_n, .int r_parts])), (a_u, .inr (6, [.ref a_u_rows, .ref a_u_ins, .int r1.1, .int r1.2.1, .int r1.2.2.1])), (a_u_ins, .inl (c_u_ins, 1024, .inl r1.2.2.2))]) (va_runV (As := [.int r_n]) (rest := []) ⟨hx, hb, hml, hown, hts⟩ (c_X6_clearFor l dC dI a_u a_u_rows a_u_ins c_u_ins H.size u_size u_n u_parts u_ins r_n r1 hr1) (cwV 1 hts gX9_otherless_X6_clearFor rfl rfl rfl (by decide +kernel) ⟨Nat.le_of_ble_eq_true rfl, Nat.le_of_ble_eq_true rfl⟩) (kp_V hK hP hD hS hA hN (isC := [2, 3]) (isT := [0]) (wc := [(a_u, .inr (6, [.ref a_u_rows, .ref a_u_ins, .int u_size, .int u_n, .int u_parts])), (a_u_ins, .inl (c_u_ins, 1024, .inl u_ins))]) rfl (by decide +kernel) rfl (ci := 6) (q0 := 0) rfl rfl) rfl rfl hl.1 rfl (lv_room (Nat.le_of_ble_eq_true rfl)) dX9_otherless_19 ⟨Nat.le_of_ble_eq_true rfl, Nat.le_of_ble_eq_true rfl⟩) hP hD hS hA rfl rfl (by decide +kernel) (by decide +kernel) rfl (by decide +kernel) (fun H locs hP hD hS => ?_)
  refine lv_iload_n hx hb dX9_otherless_22 rfl (lv_at hl 0 rfl) ?_
  replace hs := Option.some.inj hs
  subst hs
  exact W.iret (v := u_size) hx hb hr (fun t ht hW => ⟨⟨u_size, (), rfl, rfl, by rw [ht]; exact hP, va_K.moved hW.alike hK, hD⟩, hS.F ht⟩) hS.2.2 dX9_otherless_23
noncomputable def pX9_take_L30 (u_len : Nat) (r_n : Int32) (r_parts : Int32) (r_ins : Nat → Int32) (r2 : Int32 × Int32 × Int32 × (Nat → Int32)) (s30 : Int32 × Int32 × (Nat → Int32) × (Nat → Int32)) : Option ((Int32 × Int32 × (Nat → Int32) × (Nat → Int32)) ⊕ (Int32 × (Nat → Int32) × (Nat → Int32))) :=
  if r_parts ≤ s30.1 then (some (Sum.inr (s30.2.1, s30.2.2.1, s30.2.2.2))) else (Option.bind (pX6_isLeastMeeter r_n r_parts r_ins s30.1) (fun r4 => if r4 = 0 then (some (Sum.inl (s30.1 + 1, s30.2.1, s30.2.2.1, s30.2.2.2))) else (Option.bind (pX6_append u_len s30.2.1 r2.2.2.1 s30.2.2.1 s30.2.2.2 s30.1) (fun r5 => some (Sum.inl (s30.1 + 1, r5.1, r5.2.1, r5.2.2))))))
noncomputable def pX9_take (u_len : Nat) (r_n : Int32) (r_parts : Int32) (r_ins : Nat → Int32) (u_size : Int32) (u_n : Int32) (u_parts : Int32) (u_rows : Nat → Int32) (u_ins : Nat → Int32) : Option (Int32 × Int32 × Int32 × Int32 × (Nat → Int32) × (Nat → Int32)) :=
  Option.bind (pX9_meeters r_n r_parts r_ins) (fun r1 => if r1 ≤ 40 then (Option.bind (pX6_clearFor u_size u_n u_parts u_ins r_n) (fun r2 => Option.bind (lp (pX9_take_L30 u_len r_n r_parts r_ins r2) (0, r2.1, u_rows, r2.2.2.2)) (fun e30 => some (r1, e30.1, r2.2.1, r2.2.2.1, e30.2.1, e30.2.2)))) else (some ((-3), u_size, u_n, u_parts, u_rows, u_ins)))
set_option maxHeartbeats 4000000 in
set_option maxRecDepth 100000 in
theorem c_X9_take (l : Launch) (dC : Nat → ClassId) (dI : Nat → Nat → Nat) (a_x : Nat) (a_x_costs : Nat) (a_r : Nat) (a_r_rows : Nat) (a_r_ins : Nat) (a_u : Nat) (a_u_rows : Nat) (a_u_ins : Nat) (a_q : Nat) (a_h : Nat) (a_f : Nat) (a_w : Nat) (a_o : Nat) (a_z : Nat) (a_g : Nat) (a_k : Nat) (c_r_ins c_u_rows c_u_ins : ClassId) (u_len : Nat) (sz : Nat) (r_size : Int32) (r_n : Int32) (r_parts : Int32) (r_ins : Nat → Int32) (u_size : Int32) (u_n : Int32) (u_parts : Int32) (u_rows : Nat → Int32) (u_ins : Nat → Int32) (rv : Int32 × Int32 × Int32 × Int32 × (Nat → Int32) × (Nat → Int32)) (hs : pX9_take u_len r_n r_parts r_ins u_size u_n u_parts u_rows u_ins = some rv) : Met l yX9_take wsX9_take ({ frames := 3, cells := 0, slots := 0, locals := 65 }) (sPc [.ref a_x] (dC, dI) [(c_r_ins, .int), (c_u_rows, .int), (c_u_ins, .int)] [(a_x, .inr (9, [.ref a_x_costs, .ref a_r, .ref a_u, .ref a_q, .ref a_h, .ref a_f, .ref a_w, .ref a_o, .ref a_z, .ref a_g, .ref a_k])), (a_r, .inr (6, [.ref a_r_rows, .ref a_r_ins, .int r_size, .int r_n, .int r_parts])), (a_r_ins, .inl (c_r_ins, 1024, .inl r_ins)), (a_u, .inr (6, [.ref a_u_rows, .ref a_u_ins, .int u_size, .int u_n, .int u_parts])), (a_u_rows, .inl (c_u_rows, u_len, .inl u_rows)), (a_u_ins, .inl (c_u_ins, 1024, .inl u_ins))] sz) (va_Qi (fun (r : Int32) (_ : Unit) => r = rv.1) (sB (dC, dI) [(c_r_ins, .int), (c_u_rows, .int), (c_u_ins, .int)] (va_A [(a_x, .inr (9, [.ref a_x_costs, .ref a_r, .ref a_u, .ref a_q, .ref a_h, .ref a_f, .ref a_w, .ref a_o, .ref a_z, .ref a_g, .ref a_k])), (a_r, .inr (6, [.ref a_r_rows, .ref a_r_ins, .int r_size, .int r_n, .int r_parts])), (a_r_ins, .inl (c_r_ins, 1024, .inl r_ins)), (a_u, .inr (6, [.ref a_u_rows, .ref a_u_ins, .int u_size, .int u_n, .int u_parts])), (a_u_rows, .inl (c_u_rows, u_len, .inl u_rows)), (a_u_ins, .inl (c_u_ins, 1024, .inl u_ins))] sz) [(a_x, .inr (9, [.ref a_x_costs, .ref a_r, .ref a_u, .ref a_q, .ref a_h, .ref a_f, .ref a_w, .ref a_o, .ref a_z, .ref a_g, .ref a_k])), (a_r, .inr (6, [.ref a_r_rows, .ref a_r_ins, .int r_size, .int r_n, .int r_parts])), (a_r_ins, .inl (c_r_ins, 1024, .inl r_ins)), (a_u, .inr (6, [.ref a_u_rows, .ref a_u_ins, .int rv.2.1, .int rv.2.2.1, .int rv.2.2.2.1])), (a_u_rows, .inl (c_u_rows, u_len, .inl rv.2.2.2.2.1)), (a_u_ins, .inl (c_u_ins, 1024, .inl rv.2.2.2.2.2))]) (va_A [(a_x, .inr (9, [.ref a_x_costs, .ref a_r, .ref a_u, .ref a_q, .ref a_h, .ref a_f, .ref a_w, .ref a_o, .ref a_z, .ref a_g, .ref a_k])), (a_r, .inr (6, [.ref a_r_rows, .ref a_r_ins, .int r_size, .int r_n, .int r_parts])), (a_r_ins, .inl (c_r_ins, 1024, .inl r_ins)), (a_u, .inr (6, [.ref a_u_rows, .ref a_u_ins, .int u_size, .int u_n, .int u_parts])), (a_u_rows, .inl (c_u_rows, u_len, .inl u_rows)), (a_u_ins, .inl (c_u_ins, 1024, .inl u_ins))] sz)) 0 0 (va_A [(a_x, .inr (9, [.ref a_x_costs, .ref a_r, .ref a_u, .ref a_q, .ref a_h, .ref a_f, .ref a_w, .ref a_o, .ref a_z, .ref a_g, .ref a_k])), (a_r, .inr (6, [.ref a_r_rows, .ref a_r_ins, .int r_size, .int r_n, .int r_parts])), (a_r_ins, .inl (c_r_ins, 1024, .inl r_ins)), (a_u, .inr (6, [.ref a_u_rows, .ref a_u_ins, .int u_size, .int u_n, .int u_parts])), (a_u_rows, .inl (c_u_rows, u_len, .inl u_rows)), (a_u_ins, .inl (c_u_ins, 1024, .inl u_ins))] sz) := by
  refine Met.ofW (cc := cX9_take) (maxL := 3) (ret := (some .int)) (by decide) rfl ?_
  intro p e s m args below meth c s₁ B hml hv
  obtain ⟨rfl, hsz, hP, hK, hD0, hN⟩ := hv
  have hx := B.exec
  have hb := B.bytes
  have hr := B.returns
  have hts := atoms_spec (ws := wsX9_take) B.pre
  have hown : s.vm.findClass RX9 = some m.cls := findClass_of_methodNamed B.named
  have hlocks := B.notSynchronized
  subst hsz
  have hD := hD0.self (sz := s.heap.size)
  generalize hAe : va_A [(a_x, .inr (9, [.ref a_x_costs, .ref a_r, .ref a_u, .ref a_q, .ref a_h, .ref a_f, .ref a_w, .ref a_o, .ref a_z, .ref a_g, .ref a_k])), (a_r, .inr (6, [.ref a_r_rows, .ref a_r_ins, .int r_size, .int r_n, .int r_parts])), (a_r_ins, .inl (c_r_ins, 1024, .inl r_ins)), (a_u, .inr (6, [.ref a_u_rows, .ref a_u_ins, .int u_size, .int u_n, .int u_parts])), (a_u_rows, .inl (c_u_rows, u_len, .inl u_rows)), (a_u_ins, .inl (c_u_ins, 1024, .inl u_ins))] s.heap.size = A at hD hN ⊢
  have hA : ∀ q : Nat, s.heap.size ≤ q → A q := fun q h => by rw [← hAe]; exact Or.inr h
  have hS : va_S A s.heap s.heap [] := va_S.rf
  have hP : va_P (dC, dI) vwCl [(a_x, .inr (9, [.ref a_x_costs, .ref a_r, .ref a_u, .ref a_q, .ref a_h, .ref a_f, .ref a_w, .ref a_o, .ref a_z, .ref a_g, .ref a_k])), (a_r, .inr (6, [.ref a_r_rows, .ref a_r_ins, .int r_size, .int r_n, .int r_parts])), (a_r_ins, .inl (c_r_ins, 1024, .inl r_ins)), (a_u, .inr (6, [.ref a_u_rows, .ref a_u_ins, .int u_size, .int u_n, .int u_parts])), (a_u_rows, .inl (c_u_rows, u_len, .inl u_rows)), (a_u_ins, .inl (c_u_ins, 1024, .inl u_ins))] s.heap := hP
  have hl := lv_entry ([.ref a_x]) (n := 3) (Nat.le_of_ble_eq_true rfl)
  rw [lg_entry_eq]
  generalize (lg_sl ([.ref a_x]) ++ List.replicate (3 - (lg_sl ([.ref a_x])).length) Slot.unset).toArray = ls at hl ⊢
  have hl : lv_has ls 3 [(0, .ref a_x)] := hl
  have hiX9 : ∀ w ∈ wsX90, w ∈ wsX9_take := fun _ h => List.mem_cons_of_mem _ (List.mem_append_left _ (List.mem_append_right _ h))
  have hf27 := hts (.fieldLink RX9 27 "MeetSets" "others" "LMeetSets$SetRow;") (t1_ (al_ (al_ (al_ h1_))))
  have hf23 := hts (.fieldLink RX9 23 "MeetSets" "list" "LMeetSets$SetRow;") (t1_ (al_ (al_ (al_ (t1_ h1_)))))
  have hiX6 : ∀ w ∈ wsX60, w ∈ wsX9_take := fun _ h => List.mem_cons_of_mem _ (List.mem_append_right _ h)
  have hf138 := hts (.fieldLink RX9 138 "MeetSets$SetRow" "n" "I") (t1_ (al_ (al_ (al_ (t1_ (t1_ h1_))))))
  have hf117 := hts (.fieldLink RX9 117 "MeetSets$SetRow" "parts" "I") (t1_ (al_ (al_ (al_ (t1_ (t1_ (t1_ h1_)))))))
  refine w_abs (fun Z hZv hZw => ?_)
  refine hZv ?_
  obtain ⟨H, hH⟩ : ∃ H, H = s.heap := ⟨_, rfl⟩
  obtain ⟨locs, hlo⟩ : ∃ L : List Loc, L = [] := ⟨_, rfl⟩
  rw [← hlo, ← hH]
  have hS : va_S A s.heap H locs := by rw [hlo, hH]; exact hS
  have hP : va_P (dC, dI) vwCl [(a_x, .inr (9, [.ref a_x_costs, .ref a_r, .ref a_u, .ref a_q, .ref a_h, .ref a_f, .ref a_w, .ref a_o, .ref a_z, .ref a_g, .ref a_k])), (a_r, .inr (6, [.ref a_r_rows, .ref a_r_ins, .int r_size, .int r_n, .int r_parts])), (a_r_ins, .inl (c_r_ins, 1024, .inl r_ins)), (a_u, .inr (6, [.ref a_u_rows, .ref a_u_ins, .int u_size, .int u_n, .int u_parts])), (a_u_rows, .inl (c_u_rows, u_len, .inl u_rows)), (a_u_ins, .inl (c_u_ins, 1024, .inl u_ins))] H := by rw [hH]; exact hP
  clear hH hlo
  unfold pX9_take at hs
  refine lv_aload_n hx hb dX9_take_0 rfl (lv_at hl 0 rfl) ?_
  obtain ⟨r1, hr1, hs⟩ := bd_s hs
  refine kc_i (isC := [0, 1, 2]) (isR := [3, 4, 5]) (pm := [3, 4, 5, 0, 1, 2]) (wr := [(a_u, .inr (6, [.ref a_u_rows, .ref a_u_ins, .int u_size, .int u_n, .int u_parts])), (a_u_rows, .inl (c_u_rows, u_len, .inl u_rows)), (a_u_ins, .inl (c_u_ins, 1024, .inl u_ins))]) (w1 := [(a_x, .inr (9, [.ref a_x_costs, .ref a_r, .ref a_u, .ref a_q, .ref a_h, .ref a_f, .ref a_w, .ref a_o, .ref a_z, .ref a_g, .ref a_k])), (a_r, .inr (6, [.ref a_r_rows, .ref a_r_ins, .int r_size, .int r_n, .int r_parts])), (a_r_ins, .inl (c_r_ins, 1024, .inl r_ins))]) (w2 := [(a_x, .inr (9, [.ref a_x_costs, .ref a_r, .ref a_u, .ref a_q, .ref a_h, .ref a_f, .ref a_w, .ref a_o, .ref a_z, .ref a_g, .ref a_k])), (a_r, .inr (6, [.ref a_r_rows, .ref a_r_ins, .int r_size, .int r_n, .int r_parts])), (a_r_ins, .inl (c_r_ins, 1024, .inl r_ins)), (a_u, .inr (6, [.ref a_u_rows, .ref a_u_ins, .int u_size, .int u_n, .int u_parts])), (a_u_rows, .inl (c_u_rows, u_len, .inl u_rows)), (a_u_ins, .inl (c_u_ins, 1024, .inl u_ins))]) (va_runV (As := []) (rest := []) ⟨hx, hb, hml, hown, hts⟩ (c_X9_meeters l dC dI a_x a_x_costs a_r a_r_rows a_r_ins a_u a_q a_h a_f a_w a_o a_z a_g a_k c_r_ins H.size r_size r_n r_parts r_ins r1 hr1) (cwV 0 hts gX9_take_X9_meeters rfl rfl rfl (by decide +kernel) ⟨Nat.le_of_ble_eq_true rfl, Nat.le_of_ble_eq_true rfl⟩) (kp_V hK hP hD hS hA hN (isC := [0, 1, 2]) (isT := [0]) (wc := [(a_x, .inr (9, [.ref a_x_costs, .ref a_r, .ref a_u, .ref a_q, .ref a_h, .ref a_f, .ref a_w, .ref a_o, .ref a_z, .ref a_g, .ref a_k])), (a_r, .inr (6, [.ref a_r_rows, .ref a_r_ins, .int r_size, .int r_n, .int r_parts])), (a_r_ins, .inl (c_r_ins, 1024, .inl r_ins))]) rfl (by decide +kernel) rfl (ci := 9) (q0 := 0) rfl rfl) rfl rfl hl.1 rfl (lv_room (Nat.le_of_ble_eq_true rfl)) dX9_take_1 ⟨Nat.le_of_ble_eq_true rfl, Nat.le_of_ble_eq_true rfl⟩) hP hD hS hA rfl rfl (by decide +kernel) (by decide +kernel) rfl (by decide +kernel) (fun H locs hP hD hS => ?_)
  refine lv_istore_n (lv' := [(1, .int r1), (0, .ref a_x)]) hx hb dX9_take_4 rfl hl (by decide) rfl (fun ls hl => ?_)
  refine lv_iload_n hx hb dX9_take_5 rfl (lv_at hl 0 rfl) ?_
  refine lv_bipush (v := 40) hx hb dX9_take_6 (by decide) ?_
  refine lv_icmp_le (tgt := 14) hx hb dX9_take_8 (by decide) (fun hc => ?_) (fun hc => ?_)
  · replace hs := it_t hc hs
    refine lv_aload_n hx hb dX9_take_14 rfl (lv_at hl 1 rfl) ?_
    refine va_get (D := (dC, dI)) (ci := 9) (v := .ref a_u) (C := RX9) (T := TX9) (N := 11) hx hb hts hiX9 hown hK hP 0 rfl rfl 2 (by decide) hf27 (fun _ h9 => h9) rfl dX9_take_15 ?_
    refine lv_aload_n hx hb dX9_take_18 rfl (lv_at hl 1 rfl) ?_
    refine va_get (D := (dC, dI)) (ci := 9) (v := .ref a_r) (C := RX9) (T := TX9) (N := 11) hx hb hts hiX9 hown hK hP 0 rfl rfl 1 (by decide) hf23 (fun _ h9 => h9) rfl dX9_take_19 ?_
    refine va_get (D := (dC, dI)) (ci := 6) (v := .int r_n) (C := RX6) (T := TX6) (N := 5) hx hb hts hiX6 hown hK hP 1 rfl rfl 3 (by decide) hf138 (fun _ h9 => h9) rfl dX9_take_22 ?_
    obtain ⟨r2, hr2, hs⟩ := bd_s hs
    refine kc_v (isC := [3, 5]) (isR := [0, 1, 2, 4]) (pm := [0, 1, 2, 4, 3, 5]) (wr := [(a_x, .inr (9, [.ref a_x_costs, .ref a_r, .ref a_u, .ref a_q, .ref a_h, .ref a_f, .ref a_w, .ref a_o, .ref a_z, .ref a_g, .ref a_k])), (a_r, .inr (6, [.ref a_r_rows, .ref a_r_ins, .int r_size, .int r_n, .int r_parts])), (a_r_ins, .inl (c_r_ins, 1024, .inl r_ins)), (a_u_rows, .inl (c_u_rows, u_len, .inl u_rows))]) (w1 := [(a_u, .inr (6, [.ref a_u_rows, .ref a_u_ins, .int r2.1, .int r2.2.1, .int r2.2.2.1])), (a_u_ins, .inl (c_u_ins, 1024, .inl r2.2.2.2))]) (w2 := [(a_x, .inr (9, [.ref a_x_costs, .ref a_r, .ref a_u, .ref a_q, .ref a_h, .ref a_f, .ref a_w, .ref a_o, .ref a_z, .ref a_g, .ref a_k])), (a_r, .inr (6, [.ref a_r_rows, .ref a_r_ins, .int r_size, .int r_n, .int r_parts])), (a_r_ins, .inl (c_r_ins, 1024, .inl r_ins)), (a_u, .inr (6, [.ref a_u_rows, .ref a_u_ins, .int r2.1, .int r2.2.1, .int r2.2.2.1])), (a_u_rows, .inl (c_u_rows, u_len, .inl u_rows)), (a_u_ins, .inl (c_u_ins, 1024, .inl r2.2.2.2))]) (va_runV (As := [.int r_n]) (rest := []) ⟨hx, hb, hml, hown, hts⟩ (c_X6_clearFor l dC dI a_u a_u_rows a_u_ins c_u_ins H.size u_size u_n u_parts u_ins r_n r2 hr2) (cwV 1 hts gX9_take_X6_clearFor rfl rfl rfl (by decide +kernel) ⟨Nat.le_of_ble_eq_true rfl, Nat.le_of_ble_eq_true rfl⟩) (kp_V hK hP hD hS hA hN (isC := [3, 5]) (isT := [2]) (wc := [(a_u, .inr (6, [.ref a_u_rows, .ref a_u_ins, .int u_size, .int u_n, .int u_parts])), (a_u_ins, .inl (c_u_ins, 1024, .inl u_ins))]) rfl (by decide +kernel) rfl (ci := 6) (q0 := 0) rfl rfl) rfl rfl hl.1 rfl (lv_room (Nat.le_of_ble_eq_true rfl)) dX9_take_25 ⟨Nat.le_of_ble_eq_true rfl, Nat.le_of_ble_eq_true rfl⟩) hP hD hS hA rfl rfl (by decide +kernel) (by decide +kernel) rfl (by decide +kernel) (fun H locs hP hD hS => ?_)
    refine lv_iconst (v := 0) hx hb dX9_take_28 (by decide) ?_
    refine lv_istore_n (lv' := [(2, .int 0), (1, .int r1), (0, .ref a_x)]) hx hb dX9_take_29 rfl hl (by decide) rfl (fun ls hl => ?_)
    obtain ⟨e30, he30, hs⟩ := bd_s hs
    have hX30 : ∀ (H : Heap) (locs : List Loc) (ls : Array Slot), va_P (dC, dI) vwCl [(a_x, .inr (9, [.ref a_x_costs, .ref a_r, .ref a_u, .ref a_q, .ref a_h, .ref a_f, .ref a_w, .ref a_o, .ref a_z, .ref a_g, .ref a_k])), (a_r, .inr (6, [.ref a_r_rows, .ref a_r_ins, .int r_size, .int r_n, .int r_parts])), (a_r_ins, .inl (c_r_ins, 1024, .inl r_ins)), (a_u, .inr (6, [.ref a_u_rows, .ref a_u_ins, .int e30.1, .int r2.2.1, .int r2.2.2.1])), (a_u_rows, .inl (c_u_rows, u_len, .inl e30.2.1)), (a_u_ins, .inl (c_u_ins, 1024, .inl e30.2.2))] H → va_D A [(a_x, .inr (9, [.ref a_x_costs, .ref a_r, .ref a_u, .ref a_q, .ref a_h, .ref a_f, .ref a_w, .ref a_o, .ref a_z, .ref a_g, .ref a_k])), (a_r, .inr (6, [.ref a_r_rows, .ref a_r_ins, .int r_size, .int r_n, .int r_parts])), (a_r_ins, .inl (c_r_ins, 1024, .inl r_ins)), (a_u, .inr (6, [.ref a_u_rows, .ref a_u_ins, .int e30.1, .int r2.2.1, .int r2.2.2.1])), (a_u_rows, .inl (c_u_rows, u_len, .inl e30.2.1)), (a_u_ins, .inl (c_u_ins, 1024, .inl e30.2.2))] → va_S A s.heap H locs → lv_has ls 3 [(1, .int r1)] → Z H locs 0 0 (F0 m 66 ls []) := by
      intro H locs ls hP hD hS hl
      refine hZv ?_
      refine lv_iload_n hx hb dX9_take_66 rfl (lv_at hl 0 rfl) ?_
      replace hs := Option.some.inj hs
      subst hs
      exact W.iret (v := r1) hx hb hr (fun t ht hW => ⟨⟨r1, (), rfl, rfl, by rw [ht]; exact hP, va_K.moved hW.alike hK, hD⟩, hS.F ht⟩) hS.2.2 dX9_take_67
    clear hs
    have hL30 : ∀ (n : Nat) (s30 : Int32 × Int32 × (Nat → Int32) × (Nat → Int32)) (H : Heap) (locs : List Loc) (ls : Array Slot), itr (pX9_take_L30 u_len r_n r_parts r_ins r2) n s30 = some e30 → va_P (dC, dI) vwCl [(a_x, .inr (9, [.ref a_x_costs, .ref a_r, .ref a_u, .ref a_q, .ref a_h, .ref a_f, .ref a_w, .ref a_o, .ref a_z, .ref a_g, .ref a_k])), (a_r, .inr (6, [.ref a_r_rows, .ref a_r_ins, .int r_size, .int r_n, .int r_parts])), (a_r_ins, .inl (c_r_ins, 1024, .inl r_ins)), (a_u, .inr (6, [.ref a_u_rows, .ref a_u_ins, .int s30.2.1, .int r2.2.1, .int r2.2.2.1])), (a_u_rows, .inl (c_u_rows, u_len, .inl s30.2.2.1)), (a_u_ins, .inl (c_u_ins, 1024, .inl s30.2.2.2))] H → va_D A [(a_x, .inr (9, [.ref a_x_costs, .ref a_r, .ref a_u, .ref a_q, .ref a_h, .ref a_f, .ref a_w, .ref a_o, .ref a_z, .ref a_g, .ref a_k])), (a_r, .inr (6, [.ref a_r_rows, .ref a_r_ins, .int r_size, .int r_n, .int r_parts])), (a_r_ins, .inl (c_r_ins, 1024, .inl r_ins)), (a_u, .inr (6, [.ref a_u_rows, .ref a_u_ins, .int s30.2.1, .int r2.2.1, .int r2.2.2.1])), (a_u_rows, .inl (c_u_rows, u_len, .inl s30.2.2.1)), (a_u_ins, .inl (c_u_ins, 1024, .inl s30.2.2.2))] → va_S A s.heap H locs → lv_has ls 3 [(0, .ref a_x), (1, .int r1), (2, .int s30.1)] → Z H locs 0 0 (F0 m 30 ls []) := by
      intro n
      induction n with
      | zero =>
        intro s30 H locs ls hn
        exact (itr_0 hn).elim
      | succ n ih =>
        intro s30 H locs ls hn hP hD hS hl
        obtain ⟨y3, hs, hn⟩ := itr_s hn
        unfold pX9_take_L30 at hs
        refine hZv ?_
        refine lv_iload_n hx hb dX9_take_30 rfl (lv_at hl 2 rfl) ?_
        refine lv_aload_n hx hb dX9_take_31 rfl (lv_at hl 0 rfl) ?_
        refine va_get (D := (dC, dI)) (ci := 9) (v := .ref a_r) (C := RX9) (T := TX9) (N := 11) hx hb hts hiX9 hown hK hP 0 rfl rfl 1 (by decide) hf23 (fun _ h9 => h9) rfl dX9_take_32 ?_
        refine va_get (D := (dC, dI)) (ci := 6) (v := .int r_parts) (C := RX6) (T := TX6) (N := 5) hx hb hts hiX6 hown hK hP 1 rfl rfl 4 (by decide) hf117 (fun _ h9 => h9) rfl dX9_take_35 ?_
        refine lv_icmp_ge (tgt := 66) hx hb dX9_take_38 (by decide) (fun hc => ?_) (fun hc => ?_)
        · replace hs := it_t hc hs
          replace hs := Option.some.inj hs
          subst hs
          obtain rfl : (s30.2.1, s30.2.2.1, s30.2.2.2) = e30 := hn
          exact hZw (hX30 H locs ls hP hD hS (lv_sub hl [1] rfl))
        · replace hs := it_f hc hs
          refine lv_aload_n hx hb dX9_take_41 rfl (lv_at hl 0 rfl) ?_
          refine va_get (D := (dC, dI)) (ci := 9) (v := .ref a_r) (C := RX9) (T := TX9) (N := 11) hx hb hts hiX9 hown hK hP 0 rfl rfl 1 (by decide) hf23 (fun _ h9 => h9) rfl dX9_take_42 ?_
          refine lv_iload_n hx hb dX9_take_45 rfl (lv_at hl 2 rfl) ?_
          obtain ⟨r4, hr4, hs⟩ := bd_s hs
          refine kc_i (isC := [1, 2]) (isR := [0, 3, 4, 5]) (pm := [0, 4, 5, 1, 2, 3]) (wr := [(a_x, .inr (9, [.ref a_x_costs, .ref a_r, .ref a_u, .ref a_q, .ref a_h, .ref a_f, .ref a_w, .ref a_o, .ref a_z, .ref a_g, .ref a_k])), (a_u, .inr (6, [.ref a_u_rows, .ref a_u_ins, .int s30.2.1, .int r2.2.1, .int r2.2.2.1])), (a_u_rows, .inl (c_u_rows, u_len, .inl s30.2.2.1)), (a_u_ins, .inl (c_u_ins, 1024, .inl s30.2.2.2))]) (w1 := [(a_r, .inr (6, [.ref a_r_rows, .ref a_r_ins, .int r_size, .int r_n, .int r_parts])), (a_r_ins, .inl (c_r_ins, 1024, .inl r_ins))]) (w2 := [(a_x, .inr (9, [.ref a_x_costs, .ref a_r, .ref a_u, .ref a_q, .ref a_h, .ref a_f, .ref a_w, .ref a_o, .ref a_z, .ref a_g, .ref a_k])), (a_r, .inr (6, [.ref a_r_rows, .ref a_r_ins, .int r_size, .int r_n, .int r_parts])), (a_r_ins, .inl (c_r_ins, 1024, .inl r_ins)), (a_u, .inr (6, [.ref a_u_rows, .ref a_u_ins, .int s30.2.1, .int r2.2.1, .int r2.2.2.1])), (a_u_rows, .inl (c_u_rows, u_len, .inl s30.2.2.1)), (a_u_ins, .inl (c_u_ins, 1024, .inl s30.2.2.2))]) (va_runV (As := [.int s30.1]) (rest := []) ⟨hx, hb, hml, hown, hts⟩ (c_X6_isLeastMeeter l dC dI a_r a_r_rows a_r_ins c_r_ins H.size r_size r_n r_parts r_ins s30.1 r4 hr4) (cwV 1 hts gX9_take_X6_isLeastMeeter rfl rfl rfl (by decide +kernel) ⟨Nat.le_of_ble_eq_true rfl, Nat.le_of_ble_eq_true rfl⟩) (kp_V hK hP hD hS hA hN (isC := [1, 2]) (isT := [0]) (wc := [(a_r, .inr (6, [.ref a_r_rows, .ref a_r_ins, .int r_size, .int r_n, .int r_parts])), (a_r_ins, .inl (c_r_ins, 1024, .inl r_ins))]) rfl (by decide +kernel) rfl (ci := 6) (q0 := 0) rfl rfl) rfl rfl hl.1 rfl (lv_room (Nat.le_of_ble_eq_true rfl)) dX9_take_46 ⟨Nat.le_of_ble_eq_true rfl, Nat.le_of_ble_eq_true rfl⟩) hP hD hS hA rfl rfl (by decide +kernel) (by decide +kernel) rfl (by decide +kernel) (fun H locs hP hD hS => ?_)
          refine lv_if_eq (tgt := 60) hx hb dX9_take_49 (by decide) (fun hc => ?_) (fun hc => ?_)
          · replace hs := it_t hc hs
            refine lv_iinc (v := s30.1 + 1) (lv' := [(2, .int (s30.1 + 1)), (0, .ref a_x), (1, .int r1)]) hx hb dX9_take_60 hl (k := 2) rfl (by rfl) (by decide) rfl (fun ls hl => ?_)
            refine lv_goto (tgt := 30) hx hb dX9_take_63 (by decide) ?_
            replace hs := Option.some.inj hs
            subst hs
            exact hZw (ih (s30.1 + 1, s30.2.1, s30.2.2.1, s30.2.2.2) H locs ls hn hP hD hS (lv_sub hl [1, 2, 0] rfl))
          · replace hs := it_f hc hs
            refine lv_aload_n hx hb dX9_take_52 rfl (lv_at hl 0 rfl) ?_
            refine va_get (D := (dC, dI)) (ci := 9) (v := .ref a_u) (C := RX9) (T := TX9) (N := 11) hx hb hts hiX9 hown hK hP 0 rfl rfl 2 (by decide) hf27 (fun _ h9 => h9) rfl dX9_take_53 ?_
            refine lv_iload_n hx hb dX9_take_56 rfl (lv_at hl 2 rfl) ?_
            obtain ⟨r5, hr5, hs⟩ := bd_s hs
            refine kc_v (isC := [3, 4, 5]) (isR := [0, 1, 2]) (pm := [0, 1, 2, 3, 4, 5]) (wr := [(a_x, .inr (9, [.ref a_x_costs, .ref a_r, .ref a_u, .ref a_q, .ref a_h, .ref a_f, .ref a_w, .ref a_o, .ref a_z, .ref a_g, .ref a_k])), (a_r, .inr (6, [.ref a_r_rows, .ref a_r_ins, .int r_size, .int r_n, .int r_parts])), (a_r_ins, .inl (c_r_ins, 1024, .inl r_ins))]) (w1 := [(a_u, .inr (6, [.ref a_u_rows, .ref a_u_ins, .int r5.1, .int r2.2.1, .int r2.2.2.1])), (a_u_rows, .inl (c_u_rows, u_len, .inl r5.2.1)), (a_u_ins, .inl (c_u_ins, 1024, .inl r5.2.2))]) (w2 := [(a_x, .inr (9, [.ref a_x_costs, .ref a_r, .ref a_u, .ref a_q, .ref a_h, .ref a_f, .ref a_w, .ref a_o, .ref a_z, .ref a_g, .ref a_k])), (a_r, .inr (6, [.ref a_r_rows, .ref a_r_ins, .int r_size, .int r_n, .int r_parts])), (a_r_ins, .inl (c_r_ins, 1024, .inl r_ins)), (a_u, .inr (6, [.ref a_u_rows, .ref a_u_ins, .int r5.1, .int r2.2.1, .int r2.2.2.1])), (a_u_rows, .inl (c_u_rows, u_len, .inl r5.2.1)), (a_u_ins, .inl (c_u_ins, 1024, .inl r5.2.2))]) (va_runV (As := [.int s30.1]) (rest := []) ⟨hx, hb, hml, hown, hts⟩ (c_X6_append l dC dI a_u a_u_rows a_u_ins c_u_rows c_u_ins u_len H.size s30.2.1 r2.2.1 r2.2.2.1 s30.2.2.1 s30.2.2.2 s30.1 r5 hr5) (cwV 1 hts gX9_take_X6_append rfl rfl rfl (by decide +kernel) ⟨Nat.le_of_ble_eq_true rfl, Nat.le_of_ble_eq_true rfl⟩) (kp_V hK hP hD hS hA hN (isC := [3, 4, 5]) (isT := [1, 2]) (wc := [(a_u, .inr (6, [.ref a_u_rows, .ref a_u_ins, .int s30.2.1, .int r2.2.1, .int r2.2.2.1])), (a_u_rows, .inl (c_u_rows, u_len, .inl s30.2.2.1)), (a_u_ins, .inl (c_u_ins, 1024, .inl s30.2.2.2))]) rfl (by decide +kernel) rfl (ci := 6) (q0 := 0) rfl rfl) rfl rfl hl.1 rfl (lv_room (Nat.le_of_ble_eq_true rfl)) dX9_take_57 ⟨Nat.le_of_ble_eq_true rfl, Nat.le_of_ble_eq_true rfl⟩) hP hD hS hA rfl rfl (by decide +kernel) (by decide +kernel) rfl (by decide +kernel) (fun H locs hP hD hS => ?_)
            refine lv_iinc (v := s30.1 + 1) (lv' := [(2, .int (s30.1 + 1)), (0, .ref a_x), (1, .int r1)]) hx hb dX9_take_60 hl (k := 2) rfl (by rfl) (by decide) rfl (fun ls hl => ?_)
            refine lv_goto (tgt := 30) hx hb dX9_take_63 (by decide) ?_
            replace hs := Option.some.inj hs
            subst hs
            exact hZw (ih (s30.1 + 1, r5.1, r5.2.1, r5.2.2) H locs ls hn hP hD hS (lv_sub hl [1, 2, 0] rfl))
    obtain ⟨n30, hn30⟩ := lp_ex he30
    exact hZw (hL30 n30 (0, r2.1, u_rows, r2.2.2.2) H locs ls hn30 hP hD hS (lv_sub hl [2, 1, 0] rfl))
  · replace hs := it_f hc hs
    refine lv_bipush (v := (-3)) hx hb dX9_take_11 (by decide) ?_
    replace hs := Option.some.inj hs
    subst hs
    exact W.iret (v := (-3)) hx hb hr (fun t ht hW => ⟨⟨(-3), (), rfl, rfl, by rw [ht]; exact hP, va_K.moved hW.alike hK, hD⟩, hS.F ht⟩) hS.2.2 dX9_take_13
noncomputable def pX9_witness_L12 (r_parts : Int32) (r_ins : Nat → Int32) (u_ins : Nat → Int32) (s12 : Int32) : Option ((Int32) ⊕ ((Int32) ⊕ (Unit))) :=
  if r_parts ≤ s12 then (some (Sum.inr (Sum.inr ()))) else (Option.bind (pX6_hasSetIn r_ins s12) (fun r2 => Option.bind (pX6_hasSetIn u_ins ((r_parts - 1) ^^^ s12)) (fun r3 => if r2 = r3 then (some (Sum.inr (Sum.inl s12))) else (some (Sum.inl (s12 + 1))))))
noncomputable def pX9_witness (r_parts : Int32) (r_ins : Nat → Int32) (u_ins : Nat → Int32) : Option (Int32) :=
  Option.bind (lp (pX9_witness_L12 r_parts r_ins u_ins) 0) (Sum.elim (fun e12_0 => some e12_0) (fun e12_1 => some (-1)))
set_option maxHeartbeats 4000000 in
set_option maxRecDepth 100000 in
theorem c_X9_witness (l : Launch) (dC : Nat → ClassId) (dI : Nat → Nat → Nat) (a_x : Nat) (a_x_costs : Nat) (a_r : Nat) (a_r_rows : Nat) (a_r_ins : Nat) (a_u : Nat) (a_u_rows : Nat) (a_u_ins : Nat) (a_q : Nat) (a_h : Nat) (a_f : Nat) (a_w : Nat) (a_o : Nat) (a_z : Nat) (a_g : Nat) (a_k : Nat) (c_r_ins c_u_ins : ClassId) (sz : Nat) (r_size : Int32) (r_n : Int32) (r_parts : Int32) (r_ins : Nat → Int32) (u_size : Int32) (u_n : Int32) (u_parts : Int32) (u_ins : Nat → Int32) (rv : Int32) (hs : pX9_witness r_parts r_ins u_ins = some rv) : Met l yX9_witness wsX9_witness ({ frames := 1, cells := 0, slots := 0, locals := 21 }) (sPc [.ref a_x] (dC, dI) [(c_r_ins, .int), (c_u_ins, .int)] [(a_x, .inr (9, [.ref a_x_costs, .ref a_r, .ref a_u, .ref a_q, .ref a_h, .ref a_f, .ref a_w, .ref a_o, .ref a_z, .ref a_g, .ref a_k])), (a_r, .inr (6, [.ref a_r_rows, .ref a_r_ins, .int r_size, .int r_n, .int r_parts])), (a_r_ins, .inl (c_r_ins, 1024, .inl r_ins)), (a_u, .inr (6, [.ref a_u_rows, .ref a_u_ins, .int u_size, .int u_n, .int u_parts])), (a_u_ins, .inl (c_u_ins, 1024, .inl u_ins))] sz) (va_Qi (fun (r : Int32) (_ : Unit) => r = rv) (sB (dC, dI) [(c_r_ins, .int), (c_u_ins, .int)] (va_A [(a_x, .inr (9, [.ref a_x_costs, .ref a_r, .ref a_u, .ref a_q, .ref a_h, .ref a_f, .ref a_w, .ref a_o, .ref a_z, .ref a_g, .ref a_k])), (a_r, .inr (6, [.ref a_r_rows, .ref a_r_ins, .int r_size, .int r_n, .int r_parts])), (a_r_ins, .inl (c_r_ins, 1024, .inl r_ins)), (a_u, .inr (6, [.ref a_u_rows, .ref a_u_ins, .int u_size, .int u_n, .int u_parts])), (a_u_ins, .inl (c_u_ins, 1024, .inl u_ins))] sz) [(a_x, .inr (9, [.ref a_x_costs, .ref a_r, .ref a_u, .ref a_q, .ref a_h, .ref a_f, .ref a_w, .ref a_o, .ref a_z, .ref a_g, .ref a_k])), (a_r, .inr (6, [.ref a_r_rows, .ref a_r_ins, .int r_size, .int r_n, .int r_parts])), (a_r_ins, .inl (c_r_ins, 1024, .inl r_ins)), (a_u, .inr (6, [.ref a_u_rows, .ref a_u_ins, .int u_size, .int u_n, .int u_parts])), (a_u_ins, .inl (c_u_ins, 1024, .inl u_ins))]) (va_A [(a_x, .inr (9, [.ref a_x_costs, .ref a_r, .ref a_u, .ref a_q, .ref a_h, .ref a_f, .ref a_w, .ref a_o, .ref a_z, .ref a_g, .ref a_k])), (a_r, .inr (6, [.ref a_r_rows, .ref a_r_ins, .int r_size, .int r_n, .int r_parts])), (a_r_ins, .inl (c_r_ins, 1024, .inl r_ins)), (a_u, .inr (6, [.ref a_u_rows, .ref a_u_ins, .int u_size, .int u_n, .int u_parts])), (a_u_ins, .inl (c_u_ins, 1024, .inl u_ins))] sz)) 0 0 (va_A [(a_x, .inr (9, [.ref a_x_costs, .ref a_r, .ref a_u, .ref a_q, .ref a_h, .ref a_f, .ref a_w, .ref a_o, .ref a_z, .ref a_g, .ref a_k])), (a_r, .inr (6, [.ref a_r_rows, .ref a_r_ins, .int r_size, .int r_n, .int r_parts])), (a_r_ins, .inl (c_r_ins, 1024, .inl r_ins)), (a_u, .inr (6, [.ref a_u_rows, .ref a_u_ins, .int u_size, .int u_n, .int u_parts])), (a_u_ins, .inl (c_u_ins, 1024, .inl u_ins))] sz) := by
  refine Met.ofW (cc := cX9_witness) (maxL := 3) (ret := (some .int)) (by decide) rfl ?_
  intro p e s m args below meth c s₁ B hml hv
  obtain ⟨rfl, hsz, hP, hK, hD0, hN⟩ := hv
  have hx := B.exec
  have hb := B.bytes
  have hr := B.returns
  have hts := atoms_spec (ws := wsX9_witness) B.pre
  have hown : s.vm.findClass RX9 = some m.cls := findClass_of_methodNamed B.named
  have hlocks := B.notSynchronized
  subst hsz
  have hD := hD0.self (sz := s.heap.size)
  generalize hAe : va_A [(a_x, .inr (9, [.ref a_x_costs, .ref a_r, .ref a_u, .ref a_q, .ref a_h, .ref a_f, .ref a_w, .ref a_o, .ref a_z, .ref a_g, .ref a_k])), (a_r, .inr (6, [.ref a_r_rows, .ref a_r_ins, .int r_size, .int r_n, .int r_parts])), (a_r_ins, .inl (c_r_ins, 1024, .inl r_ins)), (a_u, .inr (6, [.ref a_u_rows, .ref a_u_ins, .int u_size, .int u_n, .int u_parts])), (a_u_ins, .inl (c_u_ins, 1024, .inl u_ins))] s.heap.size = A at hD hN ⊢
  have hA : ∀ q : Nat, s.heap.size ≤ q → A q := fun q h => by rw [← hAe]; exact Or.inr h
  have hS : va_S A s.heap s.heap [] := va_S.rf
  have hP : va_P (dC, dI) vwCl [(a_x, .inr (9, [.ref a_x_costs, .ref a_r, .ref a_u, .ref a_q, .ref a_h, .ref a_f, .ref a_w, .ref a_o, .ref a_z, .ref a_g, .ref a_k])), (a_r, .inr (6, [.ref a_r_rows, .ref a_r_ins, .int r_size, .int r_n, .int r_parts])), (a_r_ins, .inl (c_r_ins, 1024, .inl r_ins)), (a_u, .inr (6, [.ref a_u_rows, .ref a_u_ins, .int u_size, .int u_n, .int u_parts])), (a_u_ins, .inl (c_u_ins, 1024, .inl u_ins))] s.heap := hP
  have hl := lv_entry ([.ref a_x]) (n := 3) (Nat.le_of_ble_eq_true rfl)
  rw [lg_entry_eq]
  generalize (lg_sl ([.ref a_x]) ++ List.replicate (3 - (lg_sl ([.ref a_x])).length) Slot.unset).toArray = ls at hl ⊢
  have hl : lv_has ls 3 [(0, .ref a_x)] := hl
  have hiX9 : ∀ w ∈ wsX90, w ∈ wsX9_witness := fun _ h => List.mem_cons_of_mem _ (List.mem_append_left _ (List.mem_append_right _ h))
  have hf23 := hts (.fieldLink RX9 23 "MeetSets" "list" "LMeetSets$SetRow;") (t1_ (al_ (al_ h1_)))
  have hiX6 : ∀ w ∈ wsX60, w ∈ wsX9_witness := fun _ h => List.mem_cons_of_mem _ (List.mem_append_right _ h)
  have hf117 := hts (.fieldLink RX9 117 "MeetSets$SetRow" "parts" "I") (t1_ (al_ (al_ (t1_ h1_))))
  have hf27 := hts (.fieldLink RX9 27 "MeetSets" "others" "LMeetSets$SetRow;") (t1_ (al_ (al_ (t1_ (t1_ h1_)))))
  refine w_abs (fun Z hZv hZw => ?_)
  refine hZv ?_
  obtain ⟨H, hH⟩ : ∃ H, H = s.heap := ⟨_, rfl⟩
  obtain ⟨locs, hlo⟩ : ∃ L : List Loc, L = [] := ⟨_, rfl⟩
  rw [← hlo, ← hH]
  have hS : va_S A s.heap H locs := by rw [hlo, hH]; exact hS
  have hP : va_P (dC, dI) vwCl [(a_x, .inr (9, [.ref a_x_costs, .ref a_r, .ref a_u, .ref a_q, .ref a_h, .ref a_f, .ref a_w, .ref a_o, .ref a_z, .ref a_g, .ref a_k])), (a_r, .inr (6, [.ref a_r_rows, .ref a_r_ins, .int r_size, .int r_n, .int r_parts])), (a_r_ins, .inl (c_r_ins, 1024, .inl r_ins)), (a_u, .inr (6, [.ref a_u_rows, .ref a_u_ins, .int u_size, .int u_n, .int u_parts])), (a_u_ins, .inl (c_u_ins, 1024, .inl u_ins))] H := by rw [hH]; exact hP
  clear hH hlo
  unfold pX9_witness at hs
  refine lv_aload_n hx hb dX9_witness_0 rfl (lv_at hl 0 rfl) ?_
  refine va_get (D := (dC, dI)) (ci := 9) (v := .ref a_r) (C := RX9) (T := TX9) (N := 11) hx hb hts hiX9 hown hK hP 0 rfl rfl 1 (by decide) hf23 (fun _ h9 => h9) rfl dX9_witness_1 ?_
  refine va_get (D := (dC, dI)) (ci := 6) (v := .int r_parts) (C := RX6) (T := TX6) (N := 5) hx hb hts hiX6 hown hK hP 1 rfl rfl 4 (by decide) hf117 (fun _ h9 => h9) rfl dX9_witness_4 ?_
  refine lv_iconst (v := 1) hx hb dX9_witness_7 (by decide) ?_
  refine lv_isub hx hb dX9_witness_8 ?_
  refine lv_istore_n (lv' := [(1, .int (r_parts - 1)), (0, .ref a_x)]) hx hb dX9_witness_9 rfl hl (by decide) rfl (fun ls hl => ?_)
  refine lv_iconst (v := 0) hx hb dX9_witness_10 (by decide) ?_
  refine lv_istore_n (lv' := [(2, .int 0), (1, .int (r_parts - 1)), (0, .ref a_x)]) hx hb dX9_witness_11 rfl hl (by decide) rfl (fun ls hl => ?_)
  obtain ⟨e12, he12, hs⟩ := bd_s hs
  have hX12_0 : ∀ (e12_0 : Int32), (Sum.inl e12_0) = e12 → ∀ (H : Heap) (locs : List Loc) (ls : Array Slot), va_P (dC, dI) vwCl [(a_x, .inr (9, [.ref a_x_costs, .ref a_r, .ref a_u, .ref a_q, .ref a_h, .ref a_f, .ref a_w, .ref a_o, .ref a_z, .ref a_g, .ref a_k])), (a_r, .inr (6, [.ref a_r_rows, .ref a_r_ins, .int r_size, .int r_n, .int r_parts])), (a_r_ins, .inl (c_r_ins, 1024, .inl r_ins)), (a_u, .inr (6, [.ref a_u_rows, .ref a_u_ins, .int u_size, .int u_n, .int u_parts])), (a_u_ins, .inl (c_u_ins, 1024, .inl u_ins))] H → va_D A [(a_x, .inr (9, [.ref a_x_costs, .ref a_r, .ref a_u, .ref a_q, .ref a_h, .ref a_f, .ref a_w, .ref a_o, .ref a_z, .ref a_g, .ref a_k])), (a_r, .inr (6, [.ref a_r_rows, .ref a_r_ins, .int r_size, .int r_n, .int r_parts])), (a_r_ins, .inl (c_r_ins, 1024, .inl r_ins)), (a_u, .inr (6, [.ref a_u_rows, .ref a_u_ins, .int u_size, .int u_n, .int u_parts])), (a_u_ins, .inl (c_u_ins, 1024, .inl u_ins))] → va_S A s.heap H locs → lv_has ls 3 [(2, .int e12_0)] → Z H locs 0 0 (F0 m 44 ls []) := by
    intro e12_0 he H locs ls hP hD hS hl
    subst he
    replace hs := sm_l hs
    refine hZv ?_
    refine lv_iload_n hx hb dX9_witness_44 rfl (lv_at hl 0 rfl) ?_
    replace hs := Option.some.inj hs
    subst hs
    exact W.iret (v := e12_0) hx hb hr (fun t ht hW => ⟨⟨e12_0, (), rfl, rfl, by rw [ht]; exact hP, va_K.moved hW.alike hK, hD⟩, hS.F ht⟩) hS.2.2 dX9_witness_45
  have hX12_1 : ∀ (e12_1 : Unit), (Sum.inr e12_1) = e12 → ∀ (H : Heap) (locs : List Loc) (ls : Array Slot), va_P (dC, dI) vwCl [(a_x, .inr (9, [.ref a_x_costs, .ref a_r, .ref a_u, .ref a_q, .ref a_h, .ref a_f, .ref a_w, .ref a_o, .ref a_z, .ref a_g, .ref a_k])), (a_r, .inr (6, [.ref a_r_rows, .ref a_r_ins, .int r_size, .int r_n, .int r_parts])), (a_r_ins, .inl (c_r_ins, 1024, .inl r_ins)), (a_u, .inr (6, [.ref a_u_rows, .ref a_u_ins, .int u_size, .int u_n, .int u_parts])), (a_u_ins, .inl (c_u_ins, 1024, .inl u_ins))] H → va_D A [(a_x, .inr (9, [.ref a_x_costs, .ref a_r, .ref a_u, .ref a_q, .ref a_h, .ref a_f, .ref a_w, .ref a_o, .ref a_z, .ref a_g, .ref a_k])), (a_r, .inr (6, [.ref a_r_rows, .ref a_r_ins, .int r_size, .int r_n, .int r_parts])), (a_r_ins, .inl (c_r_ins, 1024, .inl r_ins)), (a_u, .inr (6, [.ref a_u_rows, .ref a_u_ins, .int u_size, .int u_n, .int u_parts])), (a_u_ins, .inl (c_u_ins, 1024, .inl u_ins))] → va_S A s.heap H locs → lv_has ls 3 [] → Z H locs 0 0 (F0 m 52 ls []) := by
    intro e12_1 he H locs ls hP hD hS hl
    subst he
    replace hs := sm_r hs
    refine hZv ?_
    refine lv_iconst (v := (-1)) hx hb dX9_witness_52 (by decide) ?_
    replace hs := Option.some.inj hs
    subst hs
    exact W.iret (v := (-1)) hx hb hr (fun t ht hW => ⟨⟨(-1), (), rfl, rfl, by rw [ht]; exact hP, va_K.moved hW.alike hK, hD⟩, hS.F ht⟩) hS.2.2 dX9_witness_53
  clear hs
  have hL12 : ∀ (n : Nat) (s12 : Int32) (H : Heap) (locs : List Loc) (ls : Array Slot), itr (pX9_witness_L12 r_parts r_ins u_ins) n s12 = some e12 → va_P (dC, dI) vwCl [(a_x, .inr (9, [.ref a_x_costs, .ref a_r, .ref a_u, .ref a_q, .ref a_h, .ref a_f, .ref a_w, .ref a_o, .ref a_z, .ref a_g, .ref a_k])), (a_r, .inr (6, [.ref a_r_rows, .ref a_r_ins, .int r_size, .int r_n, .int r_parts])), (a_r_ins, .inl (c_r_ins, 1024, .inl r_ins)), (a_u, .inr (6, [.ref a_u_rows, .ref a_u_ins, .int u_size, .int u_n, .int u_parts])), (a_u_ins, .inl (c_u_ins, 1024, .inl u_ins))] H → va_D A [(a_x, .inr (9, [.ref a_x_costs, .ref a_r, .ref a_u, .ref a_q, .ref a_h, .ref a_f, .ref a_w, .ref a_o, .ref a_z, .ref a_g, .ref a_k])), (a_r, .inr (6, [.ref a_r_rows, .ref a_r_ins, .int r_size, .int r_n, .int r_parts])), (a_r_ins, .inl (c_r_ins, 1024, .inl r_ins)), (a_u, .inr (6, [.ref a_u_rows, .ref a_u_ins, .int u_size, .int u_n, .int u_parts])), (a_u_ins, .inl (c_u_ins, 1024, .inl u_ins))] → va_S A s.heap H locs → lv_has ls 3 [(0, .ref a_x), (1, .int (r_parts - 1)), (2, .int s12)] → Z H locs 0 0 (F0 m 12 ls []) := by
    intro n
    induction n with
    | zero =>
      intro s12 H locs ls hn
      exact (itr_0 hn).elim
    | succ n ih =>
      intro s12 H locs ls hn hP hD hS hl
      obtain ⟨y1, hs, hn⟩ := itr_s hn
      unfold pX9_witness_L12 at hs
      refine hZv ?_
      refine lv_iload_n hx hb dX9_witness_12 rfl (lv_at hl 2 rfl) ?_
      refine lv_aload_n hx hb dX9_witness_13 rfl (lv_at hl 0 rfl) ?_
      refine va_get (D := (dC, dI)) (ci := 9) (v := .ref a_r) (C := RX9) (T := TX9) (N := 11) hx hb hts hiX9 hown hK hP 0 rfl rfl 1 (by decide) hf23 (fun _ h9 => h9) rfl dX9_witness_14 ?_
      refine va_get (D := (dC, dI)) (ci := 6) (v := .int r_parts) (C := RX6) (T := TX6) (N := 5) hx hb hts hiX6 hown hK hP 1 rfl rfl 4 (by decide) hf117 (fun _ h9 => h9) rfl dX9_witness_17 ?_
      refine lv_icmp_ge (tgt := 52) hx hb dX9_witness_20 (by decide) (fun hc => ?_) (fun hc => ?_)
      · replace hs := it_t hc hs
        replace hs := Option.some.inj hs
        subst hs
        obtain rfl : (Sum.inr ()) = e12 := hn
        exact hZw (hX12_1 () rfl H locs ls hP hD hS (lv_sub hl [] rfl))
      · replace hs := it_f hc hs
        refine lv_aload_n hx hb dX9_witness_23 rfl (lv_at hl 0 rfl) ?_
        refine va_get (D := (dC, dI)) (ci := 9) (v := .ref a_r) (C := RX9) (T := TX9) (N := 11) hx hb hts hiX9 hown hK hP 0 rfl rfl 1 (by decide) hf23 (fun _ h9 => h9) rfl dX9_witness_24 ?_
        refine lv_iload_n hx hb dX9_witness_27 rfl (lv_at hl 2 rfl) ?_
        obtain ⟨r2, hr2, hs⟩ := bd_s hs
        refine kc_i (isC := [1, 2]) (isR := [0, 3, 4]) (pm := [0, 3, 4, 1, 2]) (wr := [(a_x, .inr (9, [.ref a_x_costs, .ref a_r, .ref a_u, .ref a_q, .ref a_h, .ref a_f, .ref a_w, .ref a_o, .ref a_z, .ref a_g, .ref a_k])), (a_u, .inr (6, [.ref a_u_rows, .ref a_u_ins, .int u_size, .int u_n, .int u_parts])), (a_u_ins, .inl (c_u_ins, 1024, .inl u_ins))]) (w1 := [(a_r, .inr (6, [.ref a_r_rows, .ref a_r_ins, .int r_size, .int r_n, .int r_parts])), (a_r_ins, .inl (c_r_ins, 1024, .inl r_ins))]) (w2 := [(a_x, .inr (9, [.ref a_x_costs, .ref a_r, .ref a_u, .ref a_q, .ref a_h, .ref a_f, .ref a_w, .ref a_o, .ref a_z, .ref a_g, .ref a_k])), (a_r, .inr (6, [.ref a_r_rows, .ref a_r_ins, .int r_size, .int r_n, .int r_parts])), (a_r_ins, .inl (c_r_ins, 1024, .inl r_ins)), (a_u, .inr (6, [.ref a_u_rows, .ref a_u_ins, .int u_size, .int u_n, .int u_parts])), (a_u_ins, .inl (c_u_ins, 1024, .inl u_ins))]) (va_runV (As := [.int s12]) (rest := []) ⟨hx, hb, hml, hown, hts⟩ (c_X6_hasSetIn l dC dI a_r a_r_rows a_r_ins c_r_ins H.size r_size r_n r_parts r_ins s12 r2 hr2) (cwV 1 hts gX9_witness_X6_hasSetIn rfl rfl rfl (by decide +kernel) ⟨Nat.le_of_ble_eq_true rfl, Nat.le_of_ble_eq_true rfl⟩) (kp_V hK hP hD hS hA hN (isC := [1, 2]) (isT := [0]) (wc := [(a_r, .inr (6, [.ref a_r_rows, .ref a_r_ins, .int r_size, .int r_n, .int r_parts])), (a_r_ins, .inl (c_r_ins, 1024, .inl r_ins))]) rfl (by decide +kernel) rfl (ci := 6) (q0 := 0) rfl rfl) rfl rfl hl.1 rfl (lv_room (Nat.le_of_ble_eq_true rfl)) dX9_witness_28 ⟨Nat.le_of_ble_eq_true rfl, Nat.le_of_ble_eq_true rfl⟩) hP hD hS hA rfl rfl (by decide +kernel) (by decide +kernel) rfl (by decide +kernel) (fun H locs hP hD hS => ?_)
        refine lv_aload_n hx hb dX9_witness_31 rfl (lv_at hl 0 rfl) ?_
        refine va_get (D := (dC, dI)) (ci := 9) (v := .ref a_u) (C := RX9) (T := TX9) (N := 11) hx hb hts hiX9 hown hK hP 0 rfl rfl 2 (by decide) hf27 (fun _ h9 => h9) rfl dX9_witness_32 ?_
        refine lv_iload_n hx hb dX9_witness_35 rfl (lv_at hl 1 rfl) ?_
        refine lv_iload_n hx hb dX9_witness_36 rfl (lv_at hl 2 rfl) ?_
        refine lv_ixor hx hb dX9_witness_37 ?_
        obtain ⟨r3, hr3, hs⟩ := bd_s hs
        refine kc_i (isC := [3, 4]) (isR := [0, 1, 2]) (pm := [0, 1, 2, 3, 4]) (wr := [(a_x, .inr (9, [.ref a_x_costs, .ref a_r, .ref a_u, .ref a_q, .ref a_h, .ref a_f, .ref a_w, .ref a_o, .ref a_z, .ref a_g, .ref a_k])), (a_r, .inr (6, [.ref a_r_rows, .ref a_r_ins, .int r_size, .int r_n, .int r_parts])), (a_r_ins, .inl (c_r_ins, 1024, .inl r_ins))]) (w1 := [(a_u, .inr (6, [.ref a_u_rows, .ref a_u_ins, .int u_size, .int u_n, .int u_parts])), (a_u_ins, .inl (c_u_ins, 1024, .inl u_ins))]) (w2 := [(a_x, .inr (9, [.ref a_x_costs, .ref a_r, .ref a_u, .ref a_q, .ref a_h, .ref a_f, .ref a_w, .ref a_o, .ref a_z, .ref a_g, .ref a_k])), (a_r, .inr (6, [.ref a_r_rows, .ref a_r_ins, .int r_size, .int r_n, .int r_parts])), (a_r_ins, .inl (c_r_ins, 1024, .inl r_ins)), (a_u, .inr (6, [.ref a_u_rows, .ref a_u_ins, .int u_size, .int u_n, .int u_parts])), (a_u_ins, .inl (c_u_ins, 1024, .inl u_ins))]) (va_runV (As := [.int ((r_parts - 1) ^^^ s12)]) (rest := [.int r2]) ⟨hx, hb, hml, hown, hts⟩ (c_X6_hasSetIn l dC dI a_u a_u_rows a_u_ins c_u_ins H.size u_size u_n u_parts u_ins ((r_parts - 1) ^^^ s12) r3 hr3) (cwV 1 hts gX9_witness_X6_hasSetIn rfl rfl rfl (by decide +kernel) ⟨Nat.le_of_ble_eq_true rfl, Nat.le_of_ble_eq_true rfl⟩) (kp_V hK hP hD hS hA hN (isC := [3, 4]) (isT := [1]) (wc := [(a_u, .inr (6, [.ref a_u_rows, .ref a_u_ins, .int u_size, .int u_n, .int u_parts])), (a_u_ins, .inl (c_u_ins, 1024, .inl u_ins))]) rfl (by decide +kernel) rfl (ci := 6) (q0 := 0) rfl rfl) rfl rfl hl.1 rfl (lv_room (Nat.le_of_ble_eq_true rfl)) dX9_witness_38 ⟨Nat.le_of_ble_eq_true rfl, Nat.le_of_ble_eq_true rfl⟩) hP hD hS hA rfl rfl (by decide +kernel) (by decide +kernel) rfl (by decide +kernel) (fun H locs hP hD hS => ?_)
        refine lv_icmp_ne (tgt := 46) hx hb dX9_witness_41 (by decide) (fun hc => ?_) (fun hc => ?_)
        · replace hs := it_f hc hs
          refine lv_iinc (v := s12 + 1) (lv' := [(2, .int (s12 + 1)), (0, .ref a_x), (1, .int (r_parts - 1))]) hx hb dX9_witness_46 hl (k := 2) rfl (by rfl) (by decide) rfl (fun ls hl => ?_)
          refine lv_goto (tgt := 12) hx hb dX9_witness_49 (by decide) ?_
          replace hs := Option.some.inj hs
          subst hs
          exact hZw (ih (s12 + 1) H locs ls hn hP hD hS (lv_sub hl [1, 2, 0] rfl))
        · replace hs := it_t hc hs
          replace hs := Option.some.inj hs
          subst hs
          obtain rfl : (Sum.inl s12) = e12 := hn
          exact hZw (hX12_0 s12 rfl H locs ls hP hD hS (lv_sub hl [2] rfl))
  obtain ⟨n12, hn12⟩ := lp_ex he12
  exact hZw (hL12 n12 0 H locs ls hn12 hP hD hS (lv_sub hl [2, 1, 0] rfl))
noncomputable def pX9_apart (r_len : Nat) (r_size : Int32) (r_rows : Nat → Int32) (f_bestBits : Int32) (f_bestCore : Int32) (f_bestCount : Int32) : Option (Int32 × Int32 × Int32 × Int32) :=
  Option.bind (pX3_findApart r_len r_size r_rows f_bestBits f_bestCore f_bestCount) (fun r1 => some (r1.1, r1.1, r1.2.1, r1.2.2))
set_option maxHeartbeats 4000000 in
set_option maxRecDepth 100000 in
theorem c_X9_apart (l : Launch) (dC : Nat → ClassId) (dI : Nat → Nat → Nat) (a_x : Nat) (a_x_costs : Nat) (a_r : Nat) (a_r_rows : Nat) (a_r_ins : Nat) (a_u : Nat) (a_q : Nat) (a_h : Nat) (a_f : Nat) (a_w : Nat) (a_o : Nat) (a_z : Nat) (a_g : Nat) (a_k : Nat) (c_r_rows : ClassId) (r_len : Nat) (sz : Nat) (r_size : Int32) (r_n : Int32) (r_parts : Int32) (r_rows : Nat → Int32) (f_bestBits : Int32) (f_bestCore : Int32) (f_bestCount : Int32) (rv : Int32 × Int32 × Int32 × Int32) (hs : pX9_apart r_len r_size r_rows f_bestBits f_bestCore f_bestCount = some rv) : Met l yX9_apart wsX9_apart ({ frames := 22, cells := 0, slots := 0, locals := 623 }) (sPc [.ref a_x] (dC, dI) [(c_r_rows, .int)] [(a_x, .inr (9, [.ref a_x_costs, .ref a_r, .ref a_u, .ref a_q, .ref a_h, .ref a_f, .ref a_w, .ref a_o, .ref a_z, .ref a_g, .ref a_k])), (a_r, .inr (6, [.ref a_r_rows, .ref a_r_ins, .int r_size, .int r_n, .int r_parts])), (a_r_rows, .inl (c_r_rows, r_len, .inl r_rows)), (a_f, .inr (3, [.ref a_r, .int f_bestBits, .int f_bestCore, .int f_bestCount]))] sz) (va_Qi (fun (r : Int32) (_ : Unit) => r = rv.1) (sB (dC, dI) [(c_r_rows, .int)] (va_A [(a_x, .inr (9, [.ref a_x_costs, .ref a_r, .ref a_u, .ref a_q, .ref a_h, .ref a_f, .ref a_w, .ref a_o, .ref a_z, .ref a_g, .ref a_k])), (a_r, .inr (6, [.ref a_r_rows, .ref a_r_ins, .int r_size, .int r_n, .int r_parts])), (a_r_rows, .inl (c_r_rows, r_len, .inl r_rows)), (a_f, .inr (3, [.ref a_r, .int f_bestBits, .int f_bestCore, .int f_bestCount]))] sz) [(a_x, .inr (9, [.ref a_x_costs, .ref a_r, .ref a_u, .ref a_q, .ref a_h, .ref a_f, .ref a_w, .ref a_o, .ref a_z, .ref a_g, .ref a_k])), (a_r, .inr (6, [.ref a_r_rows, .ref a_r_ins, .int r_size, .int r_n, .int r_parts])), (a_r_rows, .inl (c_r_rows, r_len, .inl r_rows)), (a_f, .inr (3, [.ref a_r, .int rv.2.1, .int rv.2.2.1, .int rv.2.2.2]))]) (va_A [(a_x, .inr (9, [.ref a_x_costs, .ref a_r, .ref a_u, .ref a_q, .ref a_h, .ref a_f, .ref a_w, .ref a_o, .ref a_z, .ref a_g, .ref a_k])), (a_r, .inr (6, [.ref a_r_rows, .ref a_r_ins, .int r_size, .int r_n, .int r_parts])), (a_r_rows, .inl (c_r_rows, r_len, .inl r_rows)), (a_f, .inr (3, [.ref a_r, .int f_bestBits, .int f_bestCore, .int f_bestCount]))] sz)) 0 0 (va_A [(a_x, .inr (9, [.ref a_x_costs, .ref a_r, .ref a_u, .ref a_q, .ref a_h, .ref a_f, .ref a_w, .ref a_o, .ref a_z, .ref a_g, .ref a_k])), (a_r, .inr (6, [.ref a_r_rows, .ref a_r_ins, .int r_size, .int r_n, .int r_parts])), (a_r_rows, .inl (c_r_rows, r_len, .inl r_rows)), (a_f, .inr (3, [.ref a_r, .int f_bestBits, .int f_bestCore, .int f_bestCount]))] sz) := by
  refine Met.ofW (cc := cX9_apart) (maxL := 1) (ret := (some .int)) (by decide) rfl ?_
  intro p e s m args below meth c s₁ B hml hv
  obtain ⟨rfl, hsz, hP, hK, hD0, hN⟩ := hv
  have hx := B.exec
  have hb := B.bytes
  have hr := B.returns
  have hts := atoms_spec (ws := wsX9_apart) B.pre
  have hown : s.vm.findClass RX9 = some m.cls := findClass_of_methodNamed B.named
  have hlocks := B.notSynchronized
  subst hsz
  have hD := hD0.self (sz := s.heap.size)
  generalize hAe : va_A [(a_x, .inr (9, [.ref a_x_costs, .ref a_r, .ref a_u, .ref a_q, .ref a_h, .ref a_f, .ref a_w, .ref a_o, .ref a_z, .ref a_g, .ref a_k])), (a_r, .inr (6, [.ref a_r_rows, .ref a_r_ins, .int r_size, .int r_n, .int r_parts])), (a_r_rows, .inl (c_r_rows, r_len, .inl r_rows)), (a_f, .inr (3, [.ref a_r, .int f_bestBits, .int f_bestCore, .int f_bestCount]))] s.heap.size = A at hD hN ⊢
  have hA : ∀ q : Nat, s.heap.size ≤ q → A q := fun q h => by rw [← hAe]; exact Or.inr h
  have hS : va_S A s.heap s.heap [] := va_S.rf
  have hP : va_P (dC, dI) vwCl [(a_x, .inr (9, [.ref a_x_costs, .ref a_r, .ref a_u, .ref a_q, .ref a_h, .ref a_f, .ref a_w, .ref a_o, .ref a_z, .ref a_g, .ref a_k])), (a_r, .inr (6, [.ref a_r_rows, .ref a_r_ins, .int r_size, .int r_n, .int r_parts])), (a_r_rows, .inl (c_r_rows, r_len, .inl r_rows)), (a_f, .inr (3, [.ref a_r, .int f_bestBits, .int f_bestCore, .int f_bestCount]))] s.heap := hP
  have hl := lv_entry ([.ref a_x]) (n := 1) (Nat.le_of_ble_eq_true rfl)
  rw [lg_entry_eq]
  generalize (lg_sl ([.ref a_x]) ++ List.replicate (1 - (lg_sl ([.ref a_x])).length) Slot.unset).toArray = ls at hl ⊢
  have hl : lv_has ls 1 [(0, .ref a_x)] := hl
  have hiX9 : ∀ w ∈ wsX90, w ∈ wsX9_apart := fun _ h => List.mem_cons_of_mem _ (List.mem_append_left _ (List.mem_append_left _ (List.mem_append_right _ h)))
  have hf49 := hts (.fieldLink RX9 49 "MeetSets" "families" "LMeetSets$Families;") (t1_ (al_ (al_ (al_ h1_))))
  have hiX3 : ∀ w ∈ wsX30, w ∈ wsX9_apart := fun _ h => List.mem_cons_of_mem _ (List.mem_append_left _ (List.mem_append_right _ h))
  have hf165 := hts (.fieldLink RX9 165 "MeetSets$Families" "bestBits" "I") (t1_ (al_ (al_ (al_ (t1_ h1_)))))
  refine w_abs (fun Z hZv hZw => ?_)
  refine hZv ?_
  obtain ⟨H, hH⟩ : ∃ H, H = s.heap := ⟨_, rfl⟩
  obtain ⟨locs, hlo⟩ : ∃ L : List Loc, L = [] := ⟨_, rfl⟩
  rw [← hlo, ← hH]
  have hS : va_S A s.heap H locs := by rw [hlo, hH]; exact hS
  have hP : va_P (dC, dI) vwCl [(a_x, .inr (9, [.ref a_x_costs, .ref a_r, .ref a_u, .ref a_q, .ref a_h, .ref a_f, .ref a_w, .ref a_o, .ref a_z, .ref a_g, .ref a_k])), (a_r, .inr (6, [.ref a_r_rows, .ref a_r_ins, .int r_size, .int r_n, .int r_parts])), (a_r_rows, .inl (c_r_rows, r_len, .inl r_rows)), (a_f, .inr (3, [.ref a_r, .int f_bestBits, .int f_bestCore, .int f_bestCount]))] H := by rw [hH]; exact hP
  clear hH hlo
  unfold pX9_apart at hs
  refine lv_aload_n hx hb dX9_apart_0 rfl (lv_at hl 0 rfl) ?_
  refine va_get (D := (dC, dI)) (ci := 9) (v := .ref a_f) (C := RX9) (T := TX9) (N := 11) hx hb hts hiX9 hown hK hP 0 rfl rfl 5 (by decide) hf49 (fun _ h9 => h9) rfl dX9_apart_1 ?_
  obtain ⟨r1, hr1, hs⟩ := bd_s hs
  refine kc_v (isC := [1, 2, 3]) (isR := [0]) (pm := [0, 1, 2, 3]) (wr := [(a_x, .inr (9, [.ref a_x_costs, .ref a_r, .ref a_u, .ref a_q, .ref a_h, .ref a_f, .ref a_w, .ref a_o, .ref a_z, .ref a_g, .ref a_k]))]) (w1 := [(a_r, .inr (6, [.ref a_r_rows, .ref a_r_ins, .int r_size, .int r_n, .int r_parts])), (a_r_rows, .inl (c_r_rows, r_len, .inl r_rows)), (a_f, .inr (3, [.ref a_r, .int r1.1, .int r1.2.1, .int r1.2.2]))]) (w2 := [(a_x, .inr (9, [.ref a_x_costs, .ref a_r, .ref a_u, .ref a_q, .ref a_h, .ref a_f, .ref a_w, .ref a_o, .ref a_z, .ref a_g, .ref a_k])), (a_r, .inr (6, [.ref a_r_rows, .ref a_r_ins, .int r_size, .int r_n, .int r_parts])), (a_r_rows, .inl (c_r_rows, r_len, .inl r_rows)), (a_f, .inr (3, [.ref a_r, .int r1.1, .int r1.2.1, .int r1.2.2]))]) (va_runV (As := []) (rest := []) ⟨hx, hb, hml, hown, hts⟩ (c_X3_findApart l dC dI a_r a_r_rows a_r_ins a_f c_r_rows r_len H.size r_size r_n r_parts r_rows f_bestBits f_bestCore f_bestCount r1 hr1) (cwV 0 hts gX9_apart_X3_findApart rfl rfl rfl (by decide +kernel) ⟨Nat.le_of_ble_eq_true rfl, Nat.le_of_ble_eq_true rfl⟩) (kp_V hK hP hD hS hA hN (isC := [1, 2, 3]) (isT := [0]) (wc := [(a_r, .inr (6, [.ref a_r_rows, .ref a_r_ins, .int r_size, .int r_n, .int r_parts])), (a_r_rows, .inl (c_r_rows, r_len, .inl r_rows)), (a_f, .inr (3, [.ref a_r, .int f_bestBits, .int f_bestCore, .int f_bestCount]))]) rfl (by decide +kernel) rfl (ci := 3) (q0 := 2) rfl rfl) rfl rfl hl.1 rfl (lv_room (Nat.le_of_ble_eq_true rfl)) dX9_apart_4 ⟨Nat.le_of_ble_eq_true rfl, Nat.le_of_ble_eq_true rfl⟩) hP hD hS hA rfl rfl (by decide +kernel) (by decide +kernel) rfl (by decide +kernel) (fun H locs hP hD hS => ?_)
  refine lv_aload_n hx hb dX9_apart_7 rfl (lv_at hl 0 rfl) ?_
  refine va_get (D := (dC, dI)) (ci := 9) (v := .ref a_f) (C := RX9) (T := TX9) (N := 11) hx hb hts hiX9 hown hK hP 0 rfl rfl 5 (by decide) hf49 (fun _ h9 => h9) rfl dX9_apart_8 ?_
  refine va_get (D := (dC, dI)) (ci := 3) (v := .int r1.1) (C := RX3) (T := TX3) (N := 4) hx hb hts hiX3 hown hK hP 3 rfl rfl 1 (by decide) hf165 (fun _ h9 => h9) rfl dX9_apart_11 ?_
  replace hs := Option.some.inj hs
  subst hs
  exact W.iret (v := r1.1) hx hb hr (fun t ht hW => ⟨⟨r1.1, (), rfl, rfl, by rw [ht]; exact hP, va_K.moved hW.alike hK, hD⟩, hS.F ht⟩) hS.2.2 dX9_apart_14
noncomputable def pX9_star (r_len : Nat) (r_size : Int32) (r_rows : Nat → Int32) (f_bestBits : Int32) (f_bestCore : Int32) (f_bestCount : Int32) (p1 : Int32) : Option (Int32 × Int32 × Int32 × Int32) :=
  Option.bind (pX9_isZeroOrOne p1) (fun r1 => if r1 = 0 then (some ((-2), f_bestBits, f_bestCore, f_bestCount)) else (if 2 ≤ r_size then (Option.bind (pX3_findStar r_len r_size r_rows f_bestBits f_bestCore f_bestCount) (fun r2 => if p1 = 0 then (some (r2.1, r2.1, r2.2.1, r2.2.2)) else (some (r2.2.1, r2.1, r2.2.1, r2.2.2)))) else (some ((-1), f_bestBits, f_bestCore, f_bestCount))))
set_option maxHeartbeats 4000000 in
set_option maxRecDepth 100000 in
theorem c_X9_star (l : Launch) (dC : Nat → ClassId) (dI : Nat → Nat → Nat) (a_x : Nat) (a_x_costs : Nat) (a_r : Nat) (a_r_rows : Nat) (a_r_ins : Nat) (a_u : Nat) (a_q : Nat) (a_h : Nat) (a_f : Nat) (a_w : Nat) (a_o : Nat) (a_z : Nat) (a_g : Nat) (a_k : Nat) (c_r_rows : ClassId) (r_len : Nat) (sz : Nat) (r_size : Int32) (r_n : Int32) (r_parts : Int32) (r_rows : Nat → Int32) (f_bestBits : Int32) (f_bestCore : Int32) (f_bestCount : Int32) (p1 : Int32) (rv : Int32 × Int32 × Int32 × Int32) (hs : pX9_star r_len r_size r_rows f_bestBits f_bestCore f_bestCount p1 = some rv) : Met l yX9_star wsX9_star ({ frames := 22, cells := 0, slots := 0, locals := 623 }) (sPc [.ref a_x, .int p1] (dC, dI) [(c_r_rows, .int)] [(a_x, .inr (9, [.ref a_x_costs, .ref a_r, .ref a_u, .ref a_q, .ref a_h, .ref a_f, .ref a_w, .ref a_o, .ref a_z, .ref a_g, .ref a_k])), (a_r, .inr (6, [.ref a_r_rows, .ref a_r_ins, .int r_size, .int r_n, .int r_parts])), (a_r_rows, .inl (c_r_rows, r_len, .inl r_rows)), (a_f, .inr (3, [.ref a_r, .int f_bestBits, .int f_bestCore, .int f_bestCount]))] sz) (va_Qi (fun (r : Int32) (_ : Unit) => r = rv.1) (sB (dC, dI) [(c_r_rows, .int)] (va_A [(a_x, .inr (9, [.ref a_x_costs, .ref a_r, .ref a_u, .ref a_q, .ref a_h, .ref a_f, .ref a_w, .ref a_o, .ref a_z, .ref a_g, .ref a_k])), (a_r, .inr (6, [.ref a_r_rows, .ref a_r_ins, .int r_size, .int r_n, .int r_parts])), (a_r_rows, .inl (c_r_rows, r_len, .inl r_rows)), (a_f, .inr (3, [.ref a_r, .int f_bestBits, .int f_bestCore, .int f_bestCount]))] sz) [(a_x, .inr (9, [.ref a_x_costs, .ref a_r, .ref a_u, .ref a_q, .ref a_h, .ref a_f, .ref a_w, .ref a_o, .ref a_z, .ref a_g, .ref a_k])), (a_r, .inr (6, [.ref a_r_rows, .ref a_r_ins, .int r_size, .int r_n, .int r_parts])), (a_r_rows, .inl (c_r_rows, r_len, .inl r_rows)), (a_f, .inr (3, [.ref a_r, .int rv.2.1, .int rv.2.2.1, .int rv.2.2.2]))]) (va_A [(a_x, .inr (9, [.ref a_x_costs, .ref a_r, .ref a_u, .ref a_q, .ref a_h, .ref a_f, .ref a_w, .ref a_o, .ref a_z, .ref a_g, .ref a_k])), (a_r, .inr (6, [.ref a_r_rows, .ref a_r_ins, .int r_size, .int r_n, .int r_parts])), (a_r_rows, .inl (c_r_rows, r_len, .inl r_rows)), (a_f, .inr (3, [.ref a_r, .int f_bestBits, .int f_bestCore, .int f_bestCount]))] sz)) 0 0 (va_A [(a_x, .inr (9, [.ref a_x_costs, .ref a_r, .ref a_u, .ref a_q, .ref a_h, .ref a_f, .ref a_w, .ref a_o, .ref a_z, .ref a_g, .ref a_k])), (a_r, .inr (6, [.ref a_r_rows, .ref a_r_ins, .int r_size, .int r_n, .int r_parts])), (a_r_rows, .inl (c_r_rows, r_len, .inl r_rows)), (a_f, .inr (3, [.ref a_r, .int f_bestBits, .int f_bestCore, .int f_bestCount]))] sz) := by
  refine Met.ofW (cc := cX9_star) (maxL := 2) (ret := (some .int)) (by decide) rfl ?_
  intro p e s m args below meth c s₁ B hml hv
  obtain ⟨rfl, hsz, hP, hK, hD0, hN⟩ := hv
  have hx := B.exec
  have hb := B.bytes
  have hr := B.returns
  have hts := atoms_spec (ws := wsX9_star) B.pre
  have hown : s.vm.findClass RX9 = some m.cls := findClass_of_methodNamed B.named
  have hlocks := B.notSynchronized
  subst hsz
  have hD := hD0.self (sz := s.heap.size)
  generalize hAe : va_A [(a_x, .inr (9, [.ref a_x_costs, .ref a_r, .ref a_u, .ref a_q, .ref a_h, .ref a_f, .ref a_w, .ref a_o, .ref a_z, .ref a_g, .ref a_k])), (a_r, .inr (6, [.ref a_r_rows, .ref a_r_ins, .int r_size, .int r_n, .int r_parts])), (a_r_rows, .inl (c_r_rows, r_len, .inl r_rows)), (a_f, .inr (3, [.ref a_r, .int f_bestBits, .int f_bestCore, .int f_bestCount]))] s.heap.size = A at hD hN ⊢
  have hA : ∀ q : Nat, s.heap.size ≤ q → A q := fun q h => by rw [← hAe]; exact Or.inr h
  have hS : va_S A s.heap s.heap [] := va_S.rf
  have hP : va_P (dC, dI) vwCl [(a_x, .inr (9, [.ref a_x_costs, .ref a_r, .ref a_u, .ref a_q, .ref a_h, .ref a_f, .ref a_w, .ref a_o, .ref a_z, .ref a_g, .ref a_k])), (a_r, .inr (6, [.ref a_r_rows, .ref a_r_ins, .int r_size, .int r_n, .int r_parts])), (a_r_rows, .inl (c_r_rows, r_len, .inl r_rows)), (a_f, .inr (3, [.ref a_r, .int f_bestBits, .int f_bestCore, .int f_bestCount]))] s.heap := hP
  have hl := lv_entry ([.ref a_x, .int p1]) (n := 2) (Nat.le_of_ble_eq_true rfl)
  rw [lg_entry_eq]
  generalize (lg_sl ([.ref a_x, .int p1]) ++ List.replicate (2 - (lg_sl ([.ref a_x, .int p1])).length) Slot.unset).toArray = ls at hl ⊢
  have hl : lv_has ls 2 [(0, .ref a_x), (1, .int p1)] := hl
  have hiX9 : ∀ w ∈ wsX90, w ∈ wsX9_star := fun _ h => List.mem_cons_of_mem _ (List.mem_append_left _ (List.mem_append_left _ (List.mem_append_right _ h)))
  have hf23 := hts (.fieldLink RX9 23 "MeetSets" "list" "LMeetSets$SetRow;") (t1_ (al_ (al_ (al_ (al_ h1_)))))
  have hiX6 : ∀ w ∈ wsX60, w ∈ wsX9_star := fun _ h => List.mem_cons_of_mem _ (List.mem_append_left _ (List.mem_append_right _ h))
  have hf106 := hts (.fieldLink RX9 106 "MeetSets$SetRow" "size" "I") (t1_ (al_ (al_ (al_ (al_ (t1_ h1_))))))
  have hf49 := hts (.fieldLink RX9 49 "MeetSets" "families" "LMeetSets$Families;") (t1_ (al_ (al_ (al_ (al_ (t1_ (t1_ h1_)))))))
  have hiX3 : ∀ w ∈ wsX30, w ∈ wsX9_star := fun _ h => List.mem_cons_of_mem _ (List.mem_append_right _ h)
  have hf171 := hts (.fieldLink RX9 171 "MeetSets$Families" "bestCore" "I") (t1_ (al_ (al_ (al_ (al_ (t4_ h1_))))))
  have hf165 := hts (.fieldLink RX9 165 "MeetSets$Families" "bestBits" "I") (t1_ (al_ (al_ (al_ (al_ (t1_ (t1_ (t1_ h1_))))))))
  refine w_abs (fun Z hZv hZw => ?_)
  refine hZv ?_
  obtain ⟨H, hH⟩ : ∃ H, H = s.heap := ⟨_, rfl⟩
  obtain ⟨locs, hlo⟩ : ∃ L : List Loc, L = [] := ⟨_, rfl⟩
  rw [← hlo, ← hH]
  have hS : va_S A s.heap H locs := by rw [hlo, hH]; exact hS
  have hP : va_P (dC, dI) vwCl [(a_x, .inr (9, [.ref a_x_costs, .ref a_r, .ref a_u, .ref a_q, .ref a_h, .ref a_f, .ref a_w, .ref a_o, .ref a_z, .ref a_g, .ref a_k])), (a_r, .inr (6, [.ref a_r_rows, .ref a_r_ins, .int r_size, .int r_n, .int r_parts])), (a_r_rows, .inl (c_r_rows, r_len, .inl r_rows)), (a_f, .inr (3, [.ref a_r, .int f_bestBits, .int f_bestCore, .int f_bestCount]))] H := by rw [hH]; exact hP
  clear hH hlo
  unfold pX9_star at hs
  refine lv_iload_n hx hb dX9_star_0 rfl (lv_at hl 1 rfl) ?_
  obtain ⟨r1, hr1, hs⟩ := bd_s hs
  refine kc_i (isC := []) (isR := [0, 1, 2, 3]) (pm := [0, 1, 2, 3]) (wr := [(a_x, .inr (9, [.ref a_x_costs, .ref a_r, .ref a_u, .ref a_q, .ref a_h, .ref a_f, .ref a_w, .ref a_o, .ref a_z, .ref a_g, .ref a_k])), (a_r, .inr (6, [.ref a_r_rows, .ref a_r_ins, .int r_size, .int r_n, .int r_parts])), (a_r_rows, .inl (c_r_rows, r_len, .inl r_rows)), (a_f, .inr (3, [.ref a_r, .int f_bestBits, .int f_bestCore, .int f_bestCount]))]) (w1 := []) (w2 := [(a_x, .inr (9, [.ref a_x_costs, .ref a_r, .ref a_u, .ref a_q, .ref a_h, .ref a_f, .ref a_w, .ref a_o, .ref a_z, .ref a_g, .ref a_k])), (a_r, .inr (6, [.ref a_r_rows, .ref a_r_ins, .int r_size, .int r_n, .int r_parts])), (a_r_rows, .inl (c_r_rows, r_len, .inl r_rows)), (a_f, .inr (3, [.ref a_r, .int f_bestBits, .int f_bestCore, .int f_bestCount]))]) (va_runS (As := [.int p1]) (rest := []) ⟨hx, hb, hml, hown, hts⟩ (c_X9_isZeroOrOne l dC dI H.size p1 r1 hr1) (va_cwS 1 hts gX9_star_X9_isZeroOrOne rfl rfl rfl (by decide +kernel) ⟨Nat.le_of_ble_eq_true rfl, Nat.le_of_ble_eq_true rfl⟩) (kp_S hK hP hD hS hA hN (isC := []) (isT := []) (wc := []) rfl (by decide +kernel) rfl) rfl rfl hl.1 rfl (lv_room (Nat.le_of_ble_eq_true rfl)) dX9_star_1 ⟨Nat.le_of_ble_eq_true rfl, Nat.le_of_ble_eq_true rfl⟩) hP hD hS hA rfl rfl (by decide +kernel) (by decide +kernel) rfl (by decide +kernel) (fun H locs hP hD hS => ?_)
  refine lv_if_ne (tgt := 10) hx hb dX9_star_4 (by decide) (fun hc => ?_) (fun hc => ?_)
  · replace hs := it_f hc hs
    refine lv_aload_n hx hb dX9_star_10 rfl (lv_at hl 0 rfl) ?_
    refine va_get (D := (dC, dI)) (ci := 9) (v := .ref a_r) (C := RX9) (T := TX9) (N := 11) hx hb hts hiX9 hown hK hP 0 rfl rfl 1 (by decide) hf23 (fun _ h9 => h9) rfl dX9_star_11 ?_
    refine va_get (D := (dC, dI)) (ci := 6) (v := .int r_size) (C := RX6) (T := TX6) (N := 5) hx hb hts hiX6 hown hK hP 1 rfl rfl 2 (by decide) hf106 (fun _ h9 => h9) rfl dX9_star_14 ?_
    refine lv_iconst (v := 2) hx hb dX9_star_17 (by decide) ?_
    refine lv_icmp_ge (tgt := 23) hx hb dX9_star_18 (by decide) (fun hc => ?_) (fun hc => ?_)
    · replace hs := it_t hc hs
      refine lv_aload_n hx hb dX9_star_23 rfl (lv_at hl 0 rfl) ?_
      refine va_get (D := (dC, dI)) (ci := 9) (v := .ref a_f) (C := RX9) (T := TX9) (N := 11) hx hb hts hiX9 hown hK hP 0 rfl rfl 5 (by decide) hf49 (fun _ h9 => h9) rfl dX9_star_24 ?_
      obtain ⟨r2, hr2, hs⟩ := bd_s hs
      refine kc_v (isC := [1, 2, 3]) (isR := [0]) (pm := [0, 1, 2, 3]) (wr := [(a_x, .inr (9, [.ref a_x_costs, .ref a_r, .ref a_u, .ref a_q, .ref a_h, .ref a_f, .ref a_w, .ref a_o, .ref a_z, .ref a_g, .ref a_k]))]) (w1 := [(a_r, .inr (6, [.ref a_r_rows, .ref a_r_ins, .int r_size, .int r_n, .int r_parts])), (a_r_rows, .inl (c_r_rows, r_len, .inl r_rows)), (a_f, .inr (3, [.ref a_r, .int r2.1, .int r2.2.1, .int r2.2.2]))]) (w2 := [(a_x, .inr (9, [.ref a_x_costs, .ref a_r, .ref a_u, .ref a_q, .ref a_h, .ref a_f, .ref a_w, .ref a_o, .ref a_z, .ref a_g, .ref a_k])), (a_r, .inr (6, [.ref a_r_rows, .ref a_r_ins, .int r_size, .int r_n, .int r_parts])), (a_r_rows, .inl (c_r_rows, r_len, .inl r_rows)), (a_f, .inr (3, [.ref a_r, .int r2.1, .int r2.2.1, .int r2.2.2]))]) (va_runV (As := []) (rest := []) ⟨hx, hb, hml, hown, hts⟩ (c_X3_findStar l dC dI a_r a_r_rows a_r_ins a_f c_r_rows r_len H.size r_size r_n r_parts r_rows f_bestBits f_bestCore f_bestCount r2 hr2) (cwV 0 hts gX9_star_X3_findStar rfl rfl rfl (by decide +kernel) ⟨Nat.le_of_ble_eq_true rfl, Nat.le_of_ble_eq_true rfl⟩) (kp_V hK hP hD hS hA hN (isC := [1, 2, 3]) (isT := [0]) (wc := [(a_r, .inr (6, [.ref a_r_rows, .ref a_r_ins, .int r_size, .int r_n, .int r_parts])), (a_r_rows, .inl (c_r_rows, r_len, .inl r_rows)), (a_f, .inr (3, [.ref a_r, .int f_bestBits, .int f_bestCore, .int f_bestCount]))]) rfl (by decide +kernel) rfl (ci := 3) (q0 := 2) rfl rfl) rfl rfl hl.1 rfl (lv_room (Nat.le_of_ble_eq_true rfl)) dX9_star_27 ⟨Nat.le_of_ble_eq_true rfl, Nat.le_of_ble_eq_true rfl⟩) hP hD hS hA rfl rfl (by decide +kernel) (by decide +kernel) rfl (by decide +kernel) (fun H locs hP hD hS => ?_)
      refine lv_iload_n hx hb dX9_star_30 rfl (lv_at hl 1 rfl) ?_
      refine lv_if_ne (tgt := 44) hx hb dX9_star_31 (by decide) (fun hc => ?_) (fun hc => ?_)
      · replace hs := it_f hc hs
        refine lv_aload_n hx hb dX9_star_44 rfl (lv_at hl 0 rfl) ?_
        refine va_get (D := (dC, dI)) (ci := 9) (v := .ref a_f) (C := RX9) (T := TX9) (N := 11) hx hb hts hiX9 hown hK hP 0 rfl rfl 5 (by decide) hf49 (fun _ h9 => h9) rfl dX9_star_45 ?_
        refine va_get (D := (dC, dI)) (ci := 3) (v := .int r2.2.1) (C := RX3) (T := TX3) (N := 4) hx hb hts hiX3 hown hK hP 3 rfl rfl 2 (by decide) hf171 (fun _ h9 => h9) rfl dX9_star_48 ?_
        replace hs := Option.some.inj hs
        subst hs
        exact W.iret (v := r2.2.1) hx hb hr (fun t ht hW => ⟨⟨r2.2.1, (), rfl, rfl, by rw [ht]; exact hP, va_K.moved hW.alike hK, hD⟩, hS.F ht⟩) hS.2.2 dX9_star_51
      · replace hs := it_t hc hs
        refine lv_aload_n hx hb dX9_star_34 rfl (lv_at hl 0 rfl) ?_
        refine va_get (D := (dC, dI)) (ci := 9) (v := .ref a_f) (C := RX9) (T := TX9) (N := 11) hx hb hts hiX9 hown hK hP 0 rfl rfl 5 (by decide) hf49 (fun _ h9 => h9) rfl dX9_star_35 ?_
        refine va_get (D := (dC, dI)) (ci := 3) (v := .int r2.1) (C := RX3) (T := TX3) (N := 4) hx hb hts hiX3 hown hK hP 3 rfl rfl 1 (by decide) hf165 (fun _ h9 => h9) rfl dX9_star_38 ?_
        refine lv_goto (tgt := 51) hx hb dX9_star_41 (by decide) ?_
        replace hs := Option.some.inj hs
        subst hs
        exact W.iret (v := r2.1) hx hb hr (fun t ht hW => ⟨⟨r2.1, (), rfl, rfl, by rw [ht]; exact hP, va_K.moved hW.alike hK, hD⟩, hS.F ht⟩) hS.2.2 dX9_star_51
    · replace hs := it_f hc hs
      refine lv_iconst (v := (-1)) hx hb dX9_star_21 (by decide) ?_
      replace hs := Option.some.inj hs
      subst hs
      exact W.iret (v := (-1)) hx hb hr (fun t ht hW => ⟨⟨(-1), (), rfl, rfl, by rw [ht]; exact hP, va_K.moved hW.alike hK, hD⟩, hS.F ht⟩) hS.2.2 dX9_star_22
  · replace hs := it_t hc hs
    refine lv_bipush (v := (-2)) hx hb dX9_star_7 (by decide) ?_
    replace hs := Option.some.inj hs
    subst hs
    exact W.iret (v := (-2)) hx hb hr (fun t ht hW => ⟨⟨(-2), (), rfl, rfl, by rw [ht]; exact hP, va_K.moved hW.alike hK, hD⟩, hS.F ht⟩) hS.2.2 dX9_star_9
noncomputable def pX9_seen (r_len : Nat) (r_size : Int32) (r_parts : Int32) (r_rows : Nat → Int32) (w_mark : Int32) (w_marks : Nat → Int32) (p1 : Int32) : Option (Int32 × Int32 × (Nat → Int32)) :=
  Option.bind (pX6_isPart r_parts p1) (fun r1 => if r1 = 0 then (some ((-2), w_mark, w_marks)) else (Option.bind (pX8_manySeenOf r_len r_size r_rows w_mark w_marks p1) (fun r2 => some (r2.1, r2.2.1, r2.2.2))))
set_option maxHeartbeats 4000000 in
set_option maxRecDepth 100000 in
theorem c_X9_seen (l : Launch) (dC : Nat → ClassId) (dI : Nat → Nat → Nat) (a_x : Nat) (a_x_costs : Nat) (a_r : Nat) (a_r_rows : Nat) (a_r_ins : Nat) (a_u : Nat) (a_q : Nat) (a_h : Nat) (a_f : Nat) (a_w : Nat) (a_w_marks : Nat) (a_o : Nat) (a_z : Nat) (a_g : Nat) (a_k : Nat) (c_r_rows c_w_marks : ClassId) (r_len : Nat) (sz : Nat) (r_size : Int32) (r_n : Int32) (r_parts : Int32) (r_rows : Nat → Int32) (w_mark : Int32) (w_marks : Nat → Int32) (p1 : Int32) (rv : Int32 × Int32 × (Nat → Int32)) (hs : pX9_seen r_len r_size r_parts r_rows w_mark w_marks p1 = some rv) : Met l yX9_seen wsX9_seen ({ frames := 1, cells := 0, slots := 0, locals := 24 }) (sPc [.ref a_x, .int p1] (dC, dI) [(c_r_rows, .int), (c_w_marks, .int)] [(a_x, .inr (9, [.ref a_x_costs, .ref a_r, .ref a_u, .ref a_q, .ref a_h, .ref a_f, .ref a_w, .ref a_o, .ref a_z, .ref a_g, .ref a_k])), (a_r, .inr (6, [.ref a_r_rows, .ref a_r_ins, .int r_size, .int r_n, .int r_parts])), (a_r_rows, .inl (c_r_rows, r_len, .inl r_rows)), (a_w, .inr (8, [.ref a_r, .ref a_w_marks, .int w_mark])), (a_w_marks, .inl (c_w_marks, 1024, .inl w_marks))] sz) (va_Qi (fun (r : Int32) (_ : Unit) => r = rv.1) (sB (dC, dI) [(c_r_rows, .int), (c_w_marks, .int)] (va_A [(a_x, .inr (9, [.ref a_x_costs, .ref a_r, .ref a_u, .ref a_q, .ref a_h, .ref a_f, .ref a_w, .ref a_o, .ref a_z, .ref a_g, .ref a_k])), (a_r, .inr (6, [.ref a_r_rows, .ref a_r_ins, .int r_size, .int r_n, .int r_parts])), (a_r_rows, .inl (c_r_rows, r_len, .inl r_rows)), (a_w, .inr (8, [.ref a_r, .ref a_w_marks, .int w_mark])), (a_w_marks, .inl (c_w_marks, 1024, .inl w_marks))] sz) [(a_x, .inr (9, [.ref a_x_costs, .ref a_r, .ref a_u, .ref a_q, .ref a_h, .ref a_f, .ref a_w, .ref a_o, .ref a_z, .ref a_g, .ref a_k])), (a_r, .inr (6, [.ref a_r_rows, .ref a_r_ins, .int r_size, .int r_n, .int r_parts])), (a_r_rows, .inl (c_r_rows, r_len, .inl r_rows)), (a_w, .inr (8, [.ref a_r, .ref a_w_marks, .int rv.2.1])), (a_w_marks, .inl (c_w_marks, 1024, .inl rv.2.2))]) (va_A [(a_x, .inr (9, [.ref a_x_costs, .ref a_r, .ref a_u, .ref a_q, .ref a_h, .ref a_f, .ref a_w, .ref a_o, .ref a_z, .ref a_g, .ref a_k])), (a_r, .inr (6, [.ref a_r_rows, .ref a_r_ins, .int r_size, .int r_n, .int r_parts])), (a_r_rows, .inl (c_r_rows, r_len, .inl r_rows)), (a_w, .inr (8, [.ref a_r, .ref a_w_marks, .int w_mark])), (a_w_marks, .inl (c_w_marks, 1024, .inl w_marks))] sz)) 0 0 (va_A [(a_x, .inr (9, [.ref a_x_costs, .ref a_r, .ref a_u, .ref a_q, .ref a_h, .ref a_f, .ref a_w, .ref a_o, .ref a_z, .ref a_g, .ref a_k])), (a_r, .inr (6, [.ref a_r_rows, .ref a_r_ins, .int r_size, .int r_n, .int r_parts])), (a_r_rows, .inl (c_r_rows, r_len, .inl r_rows)), (a_w, .inr (8, [.ref a_r, .ref a_w_marks, .int w_mark])), (a_w_marks, .inl (c_w_marks, 1024, .inl w_marks))] sz) := by
  refine Met.ofW (cc := cX9_seen) (maxL := 2) (ret := (some .int)) (by decide) rfl ?_
  intro p e s m args below meth c s₁ B hml hv
  obtain ⟨rfl, hsz, hP, hK, hD0, hN⟩ := hv
  have hx := B.exec
  have hb := B.bytes
  have hr := B.returns
  have hts := atoms_spec (ws := wsX9_seen) B.pre
  have hown : s.vm.findClass RX9 = some m.cls := findClass_of_methodNamed B.named
  have hlocks := B.notSynchronized
  subst hsz
  have hD := hD0.self (sz := s.heap.size)
  generalize hAe : va_A [(a_x, .inr (9, [.ref a_x_costs, .ref a_r, .ref a_u, .ref a_q, .ref a_h, .ref a_f, .ref a_w, .ref a_o, .ref a_z, .ref a_g, .ref a_k])), (a_r, .inr (6, [.ref a_r_rows, .ref a_r_ins, .int r_size, .int r_n, .int r_parts])), (a_r_rows, .inl (c_r_rows, r_len, .inl r_rows)), (a_w, .inr (8, [.ref a_r, .ref a_w_marks, .int w_mark])), (a_w_marks, .inl (c_w_marks, 1024, .inl w_marks))] s.heap.size = A at hD hN ⊢
  have hA : ∀ q : Nat, s.heap.size ≤ q → A q := fun q h => by rw [← hAe]; exact Or.inr h
  have hS : va_S A s.heap s.heap [] := va_S.rf
  have hP : va_P (dC, dI) vwCl [(a_x, .inr (9, [.ref a_x_costs, .ref a_r, .ref a_u, .ref a_q, .ref a_h, .ref a_f, .ref a_w, .ref a_o, .ref a_z, .ref a_g, .ref a_k])), (a_r, .inr (6, [.ref a_r_rows, .ref a_r_ins, .int r_size, .int r_n, .int r_parts])), (a_r_rows, .inl (c_r_rows, r_len, .inl r_rows)), (a_w, .inr (8, [.ref a_r, .ref a_w_marks, .int w_mark])), (a_w_marks, .inl (c_w_marks, 1024, .inl w_marks))] s.heap := hP
  have hl := lv_entry ([.ref a_x, .int p1]) (n := 2) (Nat.le_of_ble_eq_true rfl)
  rw [lg_entry_eq]
  generalize (lg_sl ([.ref a_x, .int p1]) ++ List.replicate (2 - (lg_sl ([.ref a_x, .int p1])).length) Slot.unset).toArray = ls at hl ⊢
  have hl : lv_has ls 2 [(0, .ref a_x), (1, .int p1)] := hl
  have hiX9 : ∀ w ∈ wsX90, w ∈ wsX9_seen := fun _ h => List.mem_cons_of_mem _ (List.mem_append_left _ (List.mem_append_left _ (List.mem_append_right _ h)))
  have hf23 := hts (.fieldLink RX9 23 "MeetSets" "list" "LMeetSets$SetRow;") (t1_ (al_ (al_ (al_ h1_))))
  have hf56 := hts (.fieldLink RX9 56 "MeetSets" "sight" "LMeetSets$Sight;") (t1_ (al_ (al_ (al_ (t1_ h1_)))))
  refine w_abs (fun Z hZv hZw => ?_)
  refine hZv ?_
  obtain ⟨H, hH⟩ : ∃ H, H = s.heap := ⟨_, rfl⟩
  obtain ⟨locs, hlo⟩ : ∃ L : List Loc, L = [] := ⟨_, rfl⟩
  rw [← hlo, ← hH]
  have hS : va_S A s.heap H locs := by rw [hlo, hH]; exact hS
  have hP : va_P (dC, dI) vwCl [(a_x, .inr (9, [.ref a_x_costs, .ref a_r, .ref a_u, .ref a_q, .ref a_h, .ref a_f, .ref a_w, .ref a_o, .ref a_z, .ref a_g, .ref a_k])), (a_r, .inr (6, [.ref a_r_rows, .ref a_r_ins, .int r_size, .int r_n, .int r_parts])), (a_r_rows, .inl (c_r_rows, r_len, .inl r_rows)), (a_w, .inr (8, [.ref a_r, .ref a_w_marks, .int w_mark])), (a_w_marks, .inl (c_w_marks, 1024, .inl w_marks))] H := by rw [hH]; exact hP
  clear hH hlo
  unfold pX9_seen at hs
  refine lv_aload_n hx hb dX9_seen_0 rfl (lv_at hl 0 rfl) ?_
  refine va_get (D := (dC, dI)) (ci := 9) (v := .ref a_r) (C := RX9) (T := TX9) (N := 11) hx hb hts hiX9 hown hK hP 0 rfl rfl 1 (by decide) hf23 (fun _ h9 => h9) rfl dX9_seen_1 ?_
  refine lv_iload_n hx hb dX9_seen_4 rfl (lv_at hl 1 rfl) ?_
  obtain ⟨r1, hr1, hs⟩ := bd_s hs
  refine kc_i (isC := [1]) (isR := [0, 2, 3, 4]) (pm := [0, 4, 1, 2, 3]) (wr := [(a_x, .inr (9, [.ref a_x_costs, .ref a_r, .ref a_u, .ref a_q, .ref a_h, .ref a_f, .ref a_w, .ref a_o, .ref a_z, .ref a_g, .ref a_k])), (a_r_rows, .inl (c_r_rows, r_len, .inl r_rows)), (a_w, .inr (8, [.ref a_r, .ref a_w_marks, .int w_mark])), (a_w_marks, .inl (c_w_marks, 1024, .inl w_marks))]) (w1 := [(a_r, .inr (6, [.ref a_r_rows, .ref a_r_ins, .int r_size, .int r_n, .int r_parts]))]) (w2 := [(a_x, .inr (9, [.ref a_x_costs, .ref a_r, .ref a_u, .ref a_q, .ref a_h, .ref a_f, .ref a_w, .ref a_o, .ref a_z, .ref a_g, .ref a_k])), (a_r, .inr (6, [.ref a_r_rows, .ref a_r_ins, .int r_size, .int r_n, .int r_parts])), (a_r_rows, .inl (c_r_rows, r_len, .inl r_rows)), (a_w, .inr (8, [.ref a_r, .ref a_w_marks, .int w_mark])), (a_w_marks, .inl (c_w_marks, 1024, .inl w_marks))]) (va_runV (As := [.int p1]) (rest := []) ⟨hx, hb, hml, hown, hts⟩ (c_X6_isPart l dC dI a_r a_r_rows a_r_ins H.size r_size r_n r_parts p1 r1 hr1) (cwV 1 hts gX9_seen_X6_isPart rfl rfl rfl (by decide +kernel) ⟨Nat.le_of_ble_eq_true rfl, Nat.le_of_ble_eq_true rfl⟩) (kp_V hK hP hD hS hA hN (isC := [1]) (isT := []) (wc := [(a_r, .inr (6, [.ref a_r_rows, .ref a_r_ins, .int r_size, .int r_n, .int r_parts]))]) rfl (by decide +kernel) rfl (ci := 6) (q0 := 0) rfl rfl) rfl rfl hl.1 rfl (lv_room (Nat.le_of_ble_eq_true rfl)) dX9_seen_5 ⟨Nat.le_of_ble_eq_true rfl, Nat.le_of_ble_eq_true rfl⟩) hP hD hS hA rfl rfl (by decide +kernel) (by decide +kernel) rfl (by decide +kernel) (fun H locs hP hD hS => ?_)
  refine lv_if_eq (tgt := 22) hx hb dX9_seen_8 (by decide) (fun hc => ?_) (fun hc => ?_)
  · replace hs := it_t hc hs
    refine lv_bipush (v := (-2)) hx hb dX9_seen_22 (by decide) ?_
    replace hs := Option.some.inj hs
    subst hs
    exact W.iret (v := (-2)) hx hb hr (fun t ht hW => ⟨⟨(-2), (), rfl, rfl, by rw [ht]; exact hP, va_K.moved hW.alike hK, hD⟩, hS.F ht⟩) hS.2.2 dX9_seen_24
  · replace hs := it_f hc hs
    refine lv_aload_n hx hb dX9_seen_11 rfl (lv_at hl 0 rfl) ?_
    refine va_get (D := (dC, dI)) (ci := 9) (v := .ref a_w) (C := RX9) (T := TX9) (N := 11) hx hb hts hiX9 hown hK hP 0 rfl rfl 6 (by decide) hf56 (fun _ h9 => h9) rfl dX9_seen_12 ?_
    refine lv_iload_n hx hb dX9_seen_15 rfl (lv_at hl 1 rfl) ?_
    obtain ⟨r2, hr2, hs⟩ := bd_s hs
    refine kc_i (isC := [1, 2, 3, 4]) (isR := [0]) (pm := [0, 1, 2, 3, 4]) (wr := [(a_x, .inr (9, [.ref a_x_costs, .ref a_r, .ref a_u, .ref a_q, .ref a_h, .ref a_f, .ref a_w, .ref a_o, .ref a_z, .ref a_g, .ref a_k]))]) (w1 := [(a_r, .inr (6, [.ref a_r_rows, .ref a_r_ins, .int r_size, .int r_n, .int r_parts])), (a_r_rows, .inl (c_r_rows, r_len, .inl r_rows)), (a_w, .inr (8, [.ref a_r, .ref a_w_marks, .int r2.2.1])), (a_w_marks, .inl (c_w_marks, 1024, .inl r2.2.2))]) (w2 := [(a_x, .inr (9, [.ref a_x_costs, .ref a_r, .ref a_u, .ref a_q, .ref a_h, .ref a_f, .ref a_w, .ref a_o, .ref a_z, .ref a_g, .ref a_k])), (a_r, .inr (6, [.ref a_r_rows, .ref a_r_ins, .int r_size, .int r_n, .int r_parts])), (a_r_rows, .inl (c_r_rows, r_len, .inl r_rows)), (a_w, .inr (8, [.ref a_r, .ref a_w_marks, .int r2.2.1])), (a_w_marks, .inl (c_w_marks, 1024, .inl r2.2.2))]) (va_runV (As := [.int p1]) (rest := []) ⟨hx, hb, hml, hown, hts⟩ (c_X8_manySeenOf l dC dI a_r a_r_rows a_r_ins a_w a_w_marks c_r_rows c_w_marks r_len H.size r_size r_n r_parts r_rows w_mark w_marks p1 r2 hr2) (cwV 1 hts gX9_seen_X8_manySeenOf rfl rfl rfl (by decide +kernel) ⟨Nat.le_of_ble_eq_true rfl, Nat.le_of_ble_eq_true rfl⟩) (kp_V hK hP hD hS hA hN (isC := [1, 2, 3, 4]) (isT := [0, 1]) (wc := [(a_r, .inr (6, [.ref a_r_rows, .ref a_r_ins, .int r_size, .int r_n, .int r_parts])), (a_r_rows, .inl (c_r_rows, r_len, .inl r_rows)), (a_w, .inr (8, [.ref a_r, .ref a_w_marks, .int w_mark])), (a_w_marks, .inl (c_w_marks, 1024, .inl w_marks))]) rfl (by decide +kernel) rfl (ci := 8) (q0 := 2) rfl rfl) rfl rfl hl.1 rfl (lv_room (Nat.le_of_ble_eq_true rfl)) dX9_seen_16 ⟨Nat.le_of_ble_eq_true rfl, Nat.le_of_ble_eq_true rfl⟩) hP hD hS hA rfl rfl (by decide +kernel) (by decide +kernel) rfl (by decide +kernel) (fun H locs hP hD hS => ?_)
    refine lv_goto (tgt := 24) hx hb dX9_seen_19 (by decide) ?_
    replace hs := Option.some.inj hs
    subst hs
    exact W.iret (v := r2.1) hx hb hr (fun t ht hW => ⟨⟨r2.1, (), rfl, rfl, by rw [ht]; exact hP, va_K.moved hW.alike hK, hD⟩, hS.F ht⟩) hS.2.2 dX9_seen_24
noncomputable def pX9_dimension (r_len : Nat) (r_size : Int32) (r_parts : Int32) (r_rows : Nat → Int32) (w_mark : Int32) (w_marks : Nat → Int32) (p1 : Int32) : Option (Int32 × Int32 × (Nat → Int32)) :=
  Option.bind (pX9_isZeroOrOne p1) (fun r1 => if r1 = 0 then (some ((-2), w_mark, w_marks)) else (if r_size = 0 then (some ((-1), w_mark, w_marks)) else (Option.bind (pX8_greatestAllSeen r_len r_size r_parts r_rows w_mark w_marks) (fun r2 => if p1 = 0 then (Option.bind (pJ6_bitCount_0f7a4 r2.1) (fun r3 => some (r3, r2.2.1, r2.2.2))) else (some (r2.1, r2.2.1, r2.2.2))))))
set_option maxHeartbeats 4000000 in
set_option maxRecDepth 100000 in
theorem c_X9_dimension (l : Launch) (dC : Nat → ClassId) (dI : Nat → Nat → Nat) (a_x : Nat) (a_x_costs : Nat) (a_r : Nat) (a_r_rows : Nat) (a_r_ins : Nat) (a_u : Nat) (a_q : Nat) (a_h : Nat) (a_f : Nat) (a_w : Nat) (a_w_marks : Nat) (a_o : Nat) (a_z : Nat) (a_g : Nat) (a_k : Nat) (c_r_rows c_w_marks : ClassId) (r_len : Nat) (sz : Nat) (r_size : Int32) (r_n : Int32) (r_parts : Int32) (r_rows : Nat → Int32) (w_mark : Int32) (w_marks : Nat → Int32) (p1 : Int32) (rv : Int32 × Int32 × (Nat → Int32)) (hs : pX9_dimension r_len r_size r_parts r_rows w_mark w_marks p1 = some rv) : Met l yX9_dimension wsX9_dimension ({ frames := 2, cells := 0, slots := 0, locals := 48 }) (sPc [.ref a_x, .int p1] (dC, dI) [(c_r_rows, .int), (c_w_marks, .int)] [(a_x, .inr (9, [.ref a_x_costs, .ref a_r, .ref a_u, .ref a_q, .ref a_h, .ref a_f, .ref a_w, .ref a_o, .ref a_z, .ref a_g, .ref a_k])), (a_r, .inr (6, [.ref a_r_rows, .ref a_r_ins, .int r_size, .int r_n, .int r_parts])), (a_r_rows, .inl (c_r_rows, r_len, .inl r_rows)), (a_w, .inr (8, [.ref a_r, .ref a_w_marks, .int w_mark])), (a_w_marks, .inl (c_w_marks, 1024, .inl w_marks))] sz) (va_Qi (fun (r : Int32) (_ : Unit) => r = rv.1) (sB (dC, dI) [(c_r_rows, .int), (c_w_marks, .int)] (va_A [(a_x, .inr (9, [.ref a_x_costs, .ref a_r, .ref a_u, .ref a_q, .ref a_h, .ref a_f, .ref a_w, .ref a_o, .ref a_z, .ref a_g, .ref a_k])), (a_r, .inr (6, [.ref a_r_rows, .ref a_r_ins, .int r_size, .int r_n, .int r_parts])), (a_r_rows, .inl (c_r_rows, r_len, .inl r_rows)), (a_w, .inr (8, [.ref a_r, .ref a_w_marks, .int w_mark])), (a_w_marks, .inl (c_w_marks, 1024, .inl w_marks))] sz) [(a_x, .inr (9, [.ref a_x_costs, .ref a_r, .ref a_u, .ref a_q, .ref a_h, .ref a_f, .ref a_w, .ref a_o, .ref a_z, .ref a_g, .ref a_k])), (a_r, .inr (6, [.ref a_r_rows, .ref a_r_ins, .int r_size, .int r_n, .int r_parts])), (a_r_rows, .inl (c_r_rows, r_len, .inl r_rows)), (a_w, .inr (8, [.ref a_r, .ref a_w_marks, .int rv.2.1])), (a_w_marks, .inl (c_w_marks, 1024, .inl rv.2.2))]) (va_A [(a_x, .inr (9, [.ref a_x_costs, .ref a_r, .ref a_u, .ref a_q, .ref a_h, .ref a_f, .ref a_w, .ref a_o, .ref a_z, .ref a_g, .ref a_k])), (a_r, .inr (6, [.ref a_r_rows, .ref a_r_ins, .int r_size, .int r_n, .int r_parts])), (a_r_rows, .inl (c_r_rows, r_len, .inl r_rows)), (a_w, .inr (8, [.ref a_r, .ref a_w_marks, .int w_mark])), (a_w_marks, .inl (c_w_marks, 1024, .inl w_marks))] sz)) 0 0 (va_A [(a_x, .inr (9, [.ref a_x_costs, .ref a_r, .ref a_u, .ref a_q, .ref a_h, .ref a_f, .ref a_w, .ref a_o, .ref a_z, .ref a_g, .ref a_k])), (a_r, .inr (6, [.ref a_r_rows, .ref a_r_ins, .int r_size, .int r_n, .int r_parts])), (a_r_rows, .inl (c_r_rows, r_len, .inl r_rows)), (a_w, .inr (8, [.ref a_r, .ref a_w_marks, .int w_mark])), (a_w_marks, .inl (c_w_marks, 1024, .inl w_marks))] sz) := by
  refine Met.ofW (cc := cX9_dimension) (maxL := 3) (ret := (some .int)) (by decide) rfl ?_
  intro p e s m args below meth c s₁ B hml hv
  obtain ⟨rfl, hsz, hP, hK, hD0, hN⟩ := hv
  have hx := B.exec
  have hb := B.bytes
  have hr := B.returns
  have hts := atoms_spec (ws := wsX9_dimension) B.pre
  have hown : s.vm.findClass RX9 = some m.cls := findClass_of_methodNamed B.named
  have hlocks := B.notSynchronized
  subst hsz
  have hD := hD0.self (sz := s.heap.size)
  generalize hAe : va_A [(a_x, .inr (9, [.ref a_x_costs, .ref a_r, .ref a_u, .ref a_q, .ref a_h, .ref a_f, .ref a_w, .ref a_o, .ref a_z, .ref a_g, .ref a_k])), (a_r, .inr (6, [.ref a_r_rows, .ref a_r_ins, .int r_size, .int r_n, .int r_parts])), (a_r_rows, .inl (c_r_rows, r_len, .inl r_rows)), (a_w, .inr (8, [.ref a_r, .ref a_w_marks, .int w_mark])), (a_w_marks, .inl (c_w_marks, 1024, .inl w_marks))] s.heap.size = A at hD hN ⊢
  have hA : ∀ q : Nat, s.heap.size ≤ q → A q := fun q h => by rw [← hAe]; exact Or.inr h
  have hS : va_S A s.heap s.heap [] := va_S.rf
  have hP : va_P (dC, dI) vwCl [(a_x, .inr (9, [.ref a_x_costs, .ref a_r, .ref a_u, .ref a_q, .ref a_h, .ref a_f, .ref a_w, .ref a_o, .ref a_z, .ref a_g, .ref a_k])), (a_r, .inr (6, [.ref a_r_rows, .ref a_r_ins, .int r_size, .int r_n, .int r_parts])), (a_r_rows, .inl (c_r_rows, r_len, .inl r_rows)), (a_w, .inr (8, [.ref a_r, .ref a_w_marks, .int w_mark])), (a_w_marks, .inl (c_w_marks, 1024, .inl w_marks))] s.heap := hP
  have hl := lv_entry ([.ref a_x, .int p1]) (n := 3) (Nat.le_of_ble_eq_true rfl)
  rw [lg_entry_eq]
  generalize (lg_sl ([.ref a_x, .int p1]) ++ List.replicate (3 - (lg_sl ([.ref a_x, .int p1])).length) Slot.unset).toArray = ls at hl ⊢
  have hl : lv_has ls 3 [(0, .ref a_x), (1, .int p1)] := hl
  have hiX9 : ∀ w ∈ wsX90, w ∈ wsX9_dimension := fun _ h => List.mem_cons_of_mem _ (List.mem_append_left _ (List.mem_append_left _ (List.mem_append_right _ h)))
  have hf23 := hts (.fieldLink RX9 23 "MeetSets" "list" "LMeetSets$SetRow;") (t1_ (al_ (al_ (al_ (al_ h1_)))))
  have hiX6 : ∀ w ∈ wsX60, w ∈ wsX9_dimension := fun _ h => List.mem_cons_of_mem _ (List.mem_append_left _ (List.mem_append_right _ h))
  have hf106 := hts (.fieldLink RX9 106 "MeetSets$SetRow" "size" "I") (t1_ (al_ (al_ (al_ (al_ (t1_ h1_))))))
  have hf56 := hts (.fieldLink RX9 56 "MeetSets" "sight" "LMeetSets$Sight;") (t1_ (al_ (al_ (al_ (al_ (t1_ (t1_ h1_)))))))
  refine w_abs (fun Z hZv hZw => ?_)
  refine hZv ?_
  obtain ⟨H, hH⟩ : ∃ H, H = s.heap := ⟨_, rfl⟩
  obtain ⟨locs, hlo⟩ : ∃ L : List Loc, L = [] := ⟨_, rfl⟩
  rw [← hlo, ← hH]
  have hS : va_S A s.heap H locs := by rw [hlo, hH]; exact hS
  have hP : va_P (dC, dI) vwCl [(a_x, .inr (9, [.ref a_x_costs, .ref a_r, .ref a_u, .ref a_q, .ref a_h, .ref a_f, .ref a_w, .ref a_o, .ref a_z, .ref a_g, .ref a_k])), (a_r, .inr (6, [.ref a_r_rows, .ref a_r_ins, .int r_size, .int r_n, .int r_parts])), (a_r_rows, .inl (c_r_rows, r_len, .inl r_rows)), (a_w, .inr (8, [.ref a_r, .ref a_w_marks, .int w_mark])), (a_w_marks, .inl (c_w_marks, 1024, .inl w_marks))] H := by rw [hH]; exact hP
  clear hH hlo
  unfold pX9_dimension at hs
  refine lv_iload_n hx hb dX9_dimension_0 rfl (lv_at hl 1 rfl) ?_
  obtain ⟨r1, hr1, hs⟩ := bd_s hs
  refine kc_i (isC := []) (isR := [0, 1, 2, 3, 4]) (pm := [0, 1, 2, 3, 4]) (wr := [(a_x, .inr (9, [.ref a_x_costs, .ref a_r, .ref a_u, .ref a_q, .ref a_h, .ref a_f, .ref a_w, .ref a_o, .ref a_z, .ref a_g, .ref a_k])), (a_r, .inr (6, [.ref a_r_rows, .ref a_r_ins, .int r_size, .int r_n, .int r_parts])), (a_r_rows, .inl (c_r_rows, r_len, .inl r_rows)), (a_w, .inr (8, [.ref a_r, .ref a_w_marks, .int w_mark])), (a_w_marks, .inl (c_w_marks, 1024, .inl w_marks))]) (w1 := []) (w2 := [(a_x, .inr (9, [.ref a_x_costs, .ref a_r, .ref a_u, .ref a_q, .ref a_h, .ref a_f, .ref a_w, .ref a_o, .ref a_z, .ref a_g, .ref a_k])), (a_r, .inr (6, [.ref a_r_rows, .ref a_r_ins, .int r_size, .int r_n, .int r_parts])), (a_r_rows, .inl (c_r_rows, r_len, .inl r_rows)), (a_w, .inr (8, [.ref a_r, .ref a_w_marks, .int w_mark])), (a_w_marks, .inl (c_w_marks, 1024, .inl w_marks))]) (va_runS (As := [.int p1]) (rest := []) ⟨hx, hb, hml, hown, hts⟩ (c_X9_isZeroOrOne l dC dI H.size p1 r1 hr1) (va_cwS 1 hts gX9_dimension_X9_isZeroOrOne rfl rfl rfl (by decide +kernel) ⟨Nat.le_of_ble_eq_true rfl, Nat.le_of_ble_eq_true rfl⟩) (kp_S hK hP hD hS hA hN (isC := []) (isT := []) (wc := []) rfl (by decide +kernel) rfl) rfl rfl hl.1 rfl (lv_room (Nat.le_of_ble_eq_true rfl)) dX9_dimension_1 ⟨Nat.le_of_ble_eq_true rfl, Nat.le_of_ble_eq_true rfl⟩) hP hD hS hA rfl rfl (by decide +kernel) (by decide +kernel) rfl (by decide +kernel) (fun H locs hP hD hS => ?_)
  refine lv_if_ne (tgt := 10) hx hb dX9_dimension_4 (by decide) (fun hc => ?_) (fun hc => ?_)
  · replace hs := it_f hc hs
    refine lv_aload_n hx hb dX9_dimension_10 rfl (lv_at hl 0 rfl) ?_
    refine va_get (D := (dC, dI)) (ci := 9) (v := .ref a_r) (C := RX9) (T := TX9) (N := 11) hx hb hts hiX9 hown hK hP 0 rfl rfl 1 (by decide) hf23 (fun _ h9 => h9) rfl dX9_dimension_11 ?_
    refine va_get (D := (dC, dI)) (ci := 6) (v := .int r_size) (C := RX6) (T := TX6) (N := 5) hx hb hts hiX6 hown hK hP 1 rfl rfl 2 (by decide) hf106 (fun _ h9 => h9) rfl dX9_dimension_14 ?_
    refine lv_if_ne (tgt := 22) hx hb dX9_dimension_17 (by decide) (fun hc => ?_) (fun hc => ?_)
    · replace hs := it_f hc hs
      refine lv_aload_n hx hb dX9_dimension_22 rfl (lv_at hl 0 rfl) ?_
      refine va_get (D := (dC, dI)) (ci := 9) (v := .ref a_w) (C := RX9) (T := TX9) (N := 11) hx hb hts hiX9 hown hK hP 0 rfl rfl 6 (by decide) hf56 (fun _ h9 => h9) rfl dX9_dimension_23 ?_
      obtain ⟨r2, hr2, hs⟩ := bd_s hs
      refine kc_i (isC := [1, 2, 3, 4]) (isR := [0]) (pm := [0, 1, 2, 3, 4]) (wr := [(a_x, .inr (9, [.ref a_x_costs, .ref a_r, .ref a_u, .ref a_q, .ref a_h, .ref a_f, .ref a_w, .ref a_o, .ref a_z, .ref a_g, .ref a_k]))]) (w1 := [(a_r, .inr (6, [.ref a_r_rows, .ref a_r_ins, .int r_size, .int r_n, .int r_parts])), (a_r_rows, .inl (c_r_rows, r_len, .inl r_rows)), (a_w, .inr (8, [.ref a_r, .ref a_w_marks, .int r2.2.1])), (a_w_marks, .inl (c_w_marks, 1024, .inl r2.2.2))]) (w2 := [(a_x, .inr (9, [.ref a_x_costs, .ref a_r, .ref a_u, .ref a_q, .ref a_h, .ref a_f, .ref a_w, .ref a_o, .ref a_z, .ref a_g, .ref a_k])), (a_r, .inr (6, [.ref a_r_rows, .ref a_r_ins, .int r_size, .int r_n, .int r_parts])), (a_r_rows, .inl (c_r_rows, r_len, .inl r_rows)), (a_w, .inr (8, [.ref a_r, .ref a_w_marks, .int r2.2.1])), (a_w_marks, .inl (c_w_marks, 1024, .inl r2.2.2))]) (va_runV (As := []) (rest := []) ⟨hx, hb, hml, hown, hts⟩ (c_X8_greatestAllSeen l dC dI a_r a_r_rows a_r_ins a_w a_w_marks c_r_rows c_w_marks r_len H.size r_size r_n r_parts r_rows w_mark w_marks r2 hr2) (cwV 0 hts gX9_dimension_X8_greatestAllSeen rfl rfl rfl (by decide +kernel) ⟨Nat.le_of_ble_eq_true rfl, Nat.le_of_ble_eq_true rfl⟩) (kp_V hK hP hD hS hA hN (isC := [1, 2, 3, 4]) (isT := [0, 1]) (wc := [(a_r, .inr (6, [.ref a_r_rows, .ref a_r_ins, .int r_size, .int r_n, .int r_parts])), (a_r_rows, .inl (c_r_rows, r_len, .inl r_rows)), (a_w, .inr (8, [.ref a_r, .ref a_w_marks, .int w_mark])), (a_w_marks, .inl (c_w_marks, 1024, .inl w_marks))]) rfl (by decide +kernel) rfl (ci := 8) (q0 := 2) rfl rfl) rfl rfl hl.1 rfl (lv_room (Nat.le_of_ble_eq_true rfl)) dX9_dimension_26 ⟨Nat.le_of_ble_eq_true rfl, Nat.le_of_ble_eq_true rfl⟩) hP hD hS hA rfl rfl (by decide +kernel) (by decide +kernel) rfl (by decide +kernel) (fun H locs hP hD hS => ?_)
      refine lv_istore_n (lv' := [(2, .int r2.1), (0, .ref a_x), (1, .int p1)]) hx hb dX9_dimension_29 rfl hl (by decide) rfl (fun ls hl => ?_)
      refine lv_iload_n hx hb dX9_dimension_30 rfl (lv_at hl 2 rfl) ?_
      refine lv_if_ne (tgt := 41) hx hb dX9_dimension_31 (by decide) (fun hc => ?_) (fun hc => ?_)
      · replace hs := it_f hc hs
        refine lv_iload_n hx hb dX9_dimension_41 rfl (lv_at hl 0 rfl) ?_
        replace hs := Option.some.inj hs
        subst hs
        exact W.iret (v := r2.1) hx hb hr (fun t ht hW => ⟨⟨r2.1, (), rfl, rfl, by rw [ht]; exact hP, va_K.moved hW.alike hK, hD⟩, hS.F ht⟩) hS.2.2 dX9_dimension_42
      · replace hs := it_t hc hs
        refine lv_iload_n hx hb dX9_dimension_34 rfl (lv_at hl 0 rfl) ?_
        obtain ⟨r3, hr3, hs⟩ := bd_s hs
        refine kc_i (isC := []) (isR := [0, 1, 2, 3, 4]) (pm := [0, 1, 2, 3, 4]) (wr := [(a_x, .inr (9, [.ref a_x_costs, .ref a_r, .ref a_u, .ref a_q, .ref a_h, .ref a_f, .ref a_w, .ref a_o, .ref a_z, .ref a_g, .ref a_k])), (a_r, .inr (6, [.ref a_r_rows, .ref a_r_ins, .int r_size, .int r_n, .int r_parts])), (a_r_rows, .inl (c_r_rows, r_len, .inl r_rows)), (a_w, .inr (8, [.ref a_r, .ref a_w_marks, .int r2.2.1])), (a_w_marks, .inl (c_w_marks, 1024, .inl r2.2.2))]) (w1 := []) (w2 := [(a_x, .inr (9, [.ref a_x_costs, .ref a_r, .ref a_u, .ref a_q, .ref a_h, .ref a_f, .ref a_w, .ref a_o, .ref a_z, .ref a_g, .ref a_k])), (a_r, .inr (6, [.ref a_r_rows, .ref a_r_ins, .int r_size, .int r_n, .int r_parts])), (a_r_rows, .inl (c_r_rows, r_len, .inl r_rows)), (a_w, .inr (8, [.ref a_r, .ref a_w_marks, .int r2.2.1])), (a_w_marks, .inl (c_w_marks, 1024, .inl r2.2.2))]) (va_runS (As := [.int r2.1]) (rest := []) ⟨hx, hb, hml, hown, hts⟩ (c_J6_bitCount_0f7a4 l dC dI H.size r2.1 r3 hr3) (va_cwS 1 hts gX9_dimension_J6_bitCount_0f7a4 rfl rfl rfl (by decide +kernel) ⟨Nat.le_of_ble_eq_true rfl, Nat.le_of_ble_eq_true rfl⟩) (kp_S hK hP hD hS hA hN (isC := []) (isT := []) (wc := []) rfl (by decide +kernel) rfl) rfl rfl hl.1 rfl (lv_room (Nat.le_of_ble_eq_true rfl)) dX9_dimension_35 ⟨Nat.le_of_ble_eq_true rfl, Nat.le_of_ble_eq_true rfl⟩) hP hD hS hA rfl rfl (by decide +kernel) (by decide +kernel) rfl (by decide +kernel) (fun H locs hP hD hS => ?_)
        refine lv_goto (tgt := 42) hx hb dX9_dimension_38 (by decide) ?_
        replace hs := Option.some.inj hs
        subst hs
        exact W.iret (v := r3) hx hb hr (fun t ht hW => ⟨⟨r3, (), rfl, rfl, by rw [ht]; exact hP, va_K.moved hW.alike hK, hD⟩, hS.F ht⟩) hS.2.2 dX9_dimension_42
    · replace hs := it_t hc hs
      refine lv_iconst (v := (-1)) hx hb dX9_dimension_20 (by decide) ?_
      replace hs := Option.some.inj hs
      subst hs
      exact W.iret (v := (-1)) hx hb hr (fun t ht hW => ⟨⟨(-1), (), rfl, rfl, by rw [ht]; exact hP, va_K.moved hW.alike hK, hD⟩, hS.F ht⟩) hS.2.2 dX9_dimension_21
  · replace hs := it_t hc hs
    refine lv_bipush (v := (-2)) hx hb dX9_dimension_7 (by decide) ?_
    replace hs := Option.some.inj hs
    subst hs
    exact W.iret (v := (-2)) hx hb hr (fun t ht hW => ⟨⟨(-2), (), rfl, rfl, by rw [ht]; exact hP, va_K.moved hW.alike hK, hD⟩, hS.F ht⟩) hS.2.2 dX9_dimension_9
noncomputable def pX9_colourings_J10 (t10 : Unit) : Option (Int32) :=
  some (-2)
noncomputable def pX9_colourings (r_parts : Int32) (r_ins : Nat → Int32) (p1 : Int32) : Option (Int32) :=
  if p1 < 2 then (pX9_colourings_J10 ()) else (if p1 ≤ 4 then (Option.bind (pX1_waysBy r_parts r_ins p1) (fun r1 => some r1)) else (pX9_colourings_J10 ()))
set_option maxHeartbeats 4000000 in
set_option maxRecDepth 100000 in
theorem c_X9_colourings (l : Launch) (dC : Nat → ClassId) (dI : Nat → Nat → Nat) (a_x : Nat) (a_x_costs : Nat) (a_r : Nat) (a_r_rows : Nat) (a_r_ins : Nat) (a_u : Nat) (a_q : Nat) (a_h : Nat) (a_f : Nat) (a_w : Nat) (a_o : Nat) (a_z : Nat) (a_g : Nat) (a_k : Nat) (c_r_ins : ClassId) (sz : Nat) (r_size : Int32) (r_n : Int32) (r_parts : Int32) (r_ins : Nat → Int32) (p1 : Int32) (rv : Int32) (hs : pX9_colourings r_parts r_ins p1 = some rv) : Met l yX9_colourings wsX9_colourings ({ frames := 3, cells := 0, slots := 0, locals := 72 }) (sPc [.ref a_x, .int p1] (dC, dI) [(c_r_ins, .int)] [(a_x, .inr (9, [.ref a_x_costs, .ref a_r, .ref a_u, .ref a_q, .ref a_h, .ref a_f, .ref a_w, .ref a_o, .ref a_z, .ref a_g, .ref a_k])), (a_r, .inr (6, [.ref a_r_rows, .ref a_r_ins, .int r_size, .int r_n, .int r_parts])), (a_r_ins, .inl (c_r_ins, 1024, .inl r_ins)), (a_o, .inr (1, [.ref a_r]))] sz) (va_Qi (fun (r : Int32) (_ : Unit) => r = rv) (sB (dC, dI) [(c_r_ins, .int)] (va_A [(a_x, .inr (9, [.ref a_x_costs, .ref a_r, .ref a_u, .ref a_q, .ref a_h, .ref a_f, .ref a_w, .ref a_o, .ref a_z, .ref a_g, .ref a_k])), (a_r, .inr (6, [.ref a_r_rows, .ref a_r_ins, .int r_size, .int r_n, .int r_parts])), (a_r_ins, .inl (c_r_ins, 1024, .inl r_ins)), (a_o, .inr (1, [.ref a_r]))] sz) [(a_x, .inr (9, [.ref a_x_costs, .ref a_r, .ref a_u, .ref a_q, .ref a_h, .ref a_f, .ref a_w, .ref a_o, .ref a_z, .ref a_g, .ref a_k])), (a_r, .inr (6, [.ref a_r_rows, .ref a_r_ins, .int r_size, .int r_n, .int r_parts])), (a_r_ins, .inl (c_r_ins, 1024, .inl r_ins)), (a_o, .inr (1, [.ref a_r]))]) (va_A [(a_x, .inr (9, [.ref a_x_costs, .ref a_r, .ref a_u, .ref a_q, .ref a_h, .ref a_f, .ref a_w, .ref a_o, .ref a_z, .ref a_g, .ref a_k])), (a_r, .inr (6, [.ref a_r_rows, .ref a_r_ins, .int r_size, .int r_n, .int r_parts])), (a_r_ins, .inl (c_r_ins, 1024, .inl r_ins)), (a_o, .inr (1, [.ref a_r]))] sz)) 0 0 (va_A [(a_x, .inr (9, [.ref a_x_costs, .ref a_r, .ref a_u, .ref a_q, .ref a_h, .ref a_f, .ref a_w, .ref a_o, .ref a_z, .ref a_g, .ref a_k])), (a_r, .inr (6, [.ref a_r_rows, .ref a_r_ins, .int r_size, .int r_n, .int r_parts])), (a_r_ins, .inl (c_r_ins, 1024, .inl r_ins)), (a_o, .inr (1, [.ref a_r]))] sz) := by
  refine Met.ofW (cc := cX9_colourings) (maxL := 2) (ret := (some .int)) (by decide) rfl ?_
  intro p e s m args below meth c s₁ B hml hv
  obtain ⟨rfl, hsz, hP, hK, hD0, hN⟩ := hv
  have hx := B.exec
  have hb := B.bytes
  have hr := B.returns
  have hts := atoms_spec (ws := wsX9_colourings) B.pre
  have hown : s.vm.findClass RX9 = some m.cls := findClass_of_methodNamed B.named
  have hlocks := B.notSynchronized
  subst hsz
  have hD := hD0.self (sz := s.heap.size)
  generalize hAe : va_A [(a_x, .inr (9, [.ref a_x_costs, .ref a_r, .ref a_u, .ref a_q, .ref a_h, .ref a_f, .ref a_w, .ref a_o, .ref a_z, .ref a_g, .ref a_k])), (a_r, .inr (6, [.ref a_r_rows, .ref a_r_ins, .int r_size, .int r_n, .int r_parts])), (a_r_ins, .inl (c_r_ins, 1024, .inl r_ins)), (a_o, .inr (1, [.ref a_r]))] s.heap.size = A at hD hN ⊢
  have hA : ∀ q : Nat, s.heap.size ≤ q → A q := fun q h => by rw [← hAe]; exact Or.inr h
  have hS : va_S A s.heap s.heap [] := va_S.rf
  have hP : va_P (dC, dI) vwCl [(a_x, .inr (9, [.ref a_x_costs, .ref a_r, .ref a_u, .ref a_q, .ref a_h, .ref a_f, .ref a_w, .ref a_o, .ref a_z, .ref a_g, .ref a_k])), (a_r, .inr (6, [.ref a_r_rows, .ref a_r_ins, .int r_size, .int r_n, .int r_parts])), (a_r_ins, .inl (c_r_ins, 1024, .inl r_ins)), (a_o, .inr (1, [.ref a_r]))] s.heap := hP
  have hl := lv_entry ([.ref a_x, .int p1]) (n := 2) (Nat.le_of_ble_eq_true rfl)
  rw [lg_entry_eq]
  generalize (lg_sl ([.ref a_x, .int p1]) ++ List.replicate (2 - (lg_sl ([.ref a_x, .int p1])).length) Slot.unset).toArray = ls at hl ⊢
  have hl : lv_has ls 2 [(0, .ref a_x), (1, .int p1)] := hl
  have hiX9 : ∀ w ∈ wsX90, w ∈ wsX9_colourings := fun _ h => List.mem_cons_of_mem _ (List.mem_append_left _ (List.mem_append_left _ (List.mem_append_right _ h)))
  have hf63 := hts (.fieldLink RX9 63 "MeetSets" "colours" "LMeetSets$Colours;") (t1_ (al_ (al_ (al_ (al_ h1_)))))
  refine w_abs (fun Z hZv hZw => ?_)
  refine hZv ?_
  obtain ⟨H, hH⟩ : ∃ H, H = s.heap := ⟨_, rfl⟩
  obtain ⟨locs, hlo⟩ : ∃ L : List Loc, L = [] := ⟨_, rfl⟩
  rw [← hlo, ← hH]
  have hS : va_S A s.heap H locs := by rw [hlo, hH]; exact hS
  have hP : va_P (dC, dI) vwCl [(a_x, .inr (9, [.ref a_x_costs, .ref a_r, .ref a_u, .ref a_q, .ref a_h, .ref a_f, .ref a_w, .ref a_o, .ref a_z, .ref a_g, .ref a_k])), (a_r, .inr (6, [.ref a_r_rows, .ref a_r_ins, .int r_size, .int r_n, .int r_parts])), (a_r_ins, .inl (c_r_ins, 1024, .inl r_ins)), (a_o, .inr (1, [.ref a_r]))] H := by rw [hH]; exact hP
  clear hH hlo
  unfold pX9_colourings at hs
  refine lv_iload_n hx hb dX9_colourings_0 rfl (lv_at hl 1 rfl) ?_
  refine lv_iconst (v := 2) hx hb dX9_colourings_1 (by decide) ?_
  have hJ10 : ∀ (t10 : Unit), pX9_colourings_J10 t10 = some rv → ∀ (H : Heap) (locs : List Loc) (ls : Array Slot), va_P (dC, dI) vwCl [(a_x, .inr (9, [.ref a_x_costs, .ref a_r, .ref a_u, .ref a_q, .ref a_h, .ref a_f, .ref a_w, .ref a_o, .ref a_z, .ref a_g, .ref a_k])), (a_r, .inr (6, [.ref a_r_rows, .ref a_r_ins, .int r_size, .int r_n, .int r_parts])), (a_r_ins, .inl (c_r_ins, 1024, .inl r_ins)), (a_o, .inr (1, [.ref a_r]))] H → va_D A [(a_x, .inr (9, [.ref a_x_costs, .ref a_r, .ref a_u, .ref a_q, .ref a_h, .ref a_f, .ref a_w, .ref a_o, .ref a_z, .ref a_g, .ref a_k])), (a_r, .inr (6, [.ref a_r_rows, .ref a_r_ins, .int r_size, .int r_n, .int r_parts])), (a_r_ins, .inl (c_r_ins, 1024, .inl r_ins)), (a_o, .inr (1, [.ref a_r]))] → va_S A s.heap H locs → lv_has ls 2 [] → Z H locs 0 0 (F0 m 10 ls []) := by
    intro t10 hs H locs ls hP hD hS hl
    refine hZv ?_
    unfold pX9_colourings_J10 at hs
    refine lv_bipush (v := (-2)) hx hb dX9_colourings_10 (by decide) ?_
    refine lv_goto (tgt := 23) hx hb dX9_colourings_12 (by decide) ?_
    replace hs := Option.some.inj hs
    subst hs
    exact W.iret (v := (-2)) hx hb hr (fun t ht hW => ⟨⟨(-2), (), rfl, rfl, by rw [ht]; exact hP, va_K.moved hW.alike hK, hD⟩, hS.F ht⟩) hS.2.2 dX9_colourings_23
  refine lv_icmp_lt (tgt := 10) hx hb dX9_colourings_2 (by decide) (fun hc => ?_) (fun hc => ?_)
  · replace hs := it_t hc hs
    exact hZw (hJ10 () hs H locs ls hP hD hS (lv_sub hl [] rfl))
  · replace hs := it_f hc hs
    refine lv_iload_n hx hb dX9_colourings_5 rfl (lv_at hl 1 rfl) ?_
    refine lv_iconst (v := 4) hx hb dX9_colourings_6 (by decide) ?_
    refine lv_icmp_le (tgt := 15) hx hb dX9_colourings_7 (by decide) (fun hc => ?_) (fun hc => ?_)
    · replace hs := it_t hc hs
      refine lv_aload_n hx hb dX9_colourings_15 rfl (lv_at hl 0 rfl) ?_
      refine va_get (D := (dC, dI)) (ci := 9) (v := .ref a_o) (C := RX9) (T := TX9) (N := 11) hx hb hts hiX9 hown hK hP 0 rfl rfl 7 (by decide) hf63 (fun _ h9 => h9) rfl dX9_colourings_16 ?_
      refine lv_iload_n hx hb dX9_colourings_19 rfl (lv_at hl 1 rfl) ?_
      obtain ⟨r1, hr1, hs⟩ := bd_s hs
      refine kc_i (isC := [1, 2, 3]) (isR := [0]) (pm := [0, 1, 2, 3]) (wr := [(a_x, .inr (9, [.ref a_x_costs, .ref a_r, .ref a_u, .ref a_q, .ref a_h, .ref a_f, .ref a_w, .ref a_o, .ref a_z, .ref a_g, .ref a_k]))]) (w1 := [(a_r, .inr (6, [.ref a_r_rows, .ref a_r_ins, .int r_size, .int r_n, .int r_parts])), (a_r_ins, .inl (c_r_ins, 1024, .inl r_ins)), (a_o, .inr (1, [.ref a_r]))]) (w2 := [(a_x, .inr (9, [.ref a_x_costs, .ref a_r, .ref a_u, .ref a_q, .ref a_h, .ref a_f, .ref a_w, .ref a_o, .ref a_z, .ref a_g, .ref a_k])), (a_r, .inr (6, [.ref a_r_rows, .ref a_r_ins, .int r_size, .int r_n, .int r_parts])), (a_r_ins, .inl (c_r_ins, 1024, .inl r_ins)), (a_o, .inr (1, [.ref a_r]))]) (va_runV (As := [.int p1]) (rest := []) ⟨hx, hb, hml, hown, hts⟩ (c_X1_waysBy l dC dI a_r a_r_rows a_r_ins a_o c_r_ins H.size r_size r_n r_parts r_ins p1 r1 hr1) (cwV 1 hts gX9_colourings_X1_waysBy rfl rfl rfl (by decide +kernel) ⟨Nat.le_of_ble_eq_true rfl, Nat.le_of_ble_eq_true rfl⟩) (kp_V hK hP hD hS hA hN (isC := [1, 2, 3]) (isT := [0]) (wc := [(a_r, .inr (6, [.ref a_r_rows, .ref a_r_ins, .int r_size, .int r_n, .int r_parts])), (a_r_ins, .inl (c_r_ins, 1024, .inl r_ins)), (a_o, .inr (1, [.ref a_r]))]) rfl (by decide +kernel) rfl (ci := 1) (q0 := 2) rfl rfl) rfl rfl hl.1 rfl (lv_room (Nat.le_of_ble_eq_true rfl)) dX9_colourings_20 ⟨Nat.le_of_ble_eq_true rfl, Nat.le_of_ble_eq_true rfl⟩) hP hD hS hA rfl rfl (by decide +kernel) (by decide +kernel) rfl (by decide +kernel) (fun H locs hP hD hS => ?_)
      replace hs := Option.some.inj hs
      subst hs
      exact W.iret (v := r1) hx hb hr (fun t ht hW => ⟨⟨r1, (), rfl, rfl, by rw [ht]; exact hP, va_K.moved hW.alike hK, hD⟩, hS.F ht⟩) hS.2.2 dX9_colourings_23
    · replace hs := it_f hc hs
      exact hZw (hJ10 () hs H locs ls hP hD hS (lv_sub hl [] rfl))
noncomputable def pX9_colouring_L12 (r_parts : Int32) (r_ins : Nat → Int32) (s12 : Int32) : Option ((Int32) ⊕ ((Int32) ⊕ (Unit))) :=
  if r_parts ≤ s12 then (some (Sum.inr (Sum.inr ()))) else (Option.bind (pX6_hasSetIn r_ins s12) (fun r2 => if r2 = 0 then (Option.bind (pX6_hasSetIn r_ins ((r_parts - 1) ^^^ s12)) (fun r3 => if r3 = 0 then (some (Sum.inr (Sum.inl s12))) else (some (Sum.inl (s12 + 1))))) else (some (Sum.inl (s12 + 1)))))
noncomputable def pX9_colouring (r_parts : Int32) (r_ins : Nat → Int32) : Option (Int32) :=
  Option.bind (lp (pX9_colouring_L12 r_parts r_ins) 0) (Sum.elim (fun e12_0 => some e12_0) (fun e12_1 => some (-1)))
set_option maxHeartbeats 4000000 in
set_option maxRecDepth 100000 in
theorem c_X9_colouring (l : Launch) (dC : Nat → ClassId) (dI : Nat → Nat → Nat) (a_x : Nat) (a_x_costs : Nat) (a_r : Nat) (a_r_rows : Nat) (a_r_ins : Nat) (a_u : Nat) (a_q : Nat) (a_h : Nat) (a_f : Nat) (a_w : Nat) (a_o : Nat) (a_z : Nat) (a_g : Nat) (a_k : Nat) (c_r_ins : ClassId) (sz : Nat) (r_size : Int32) (r_n : Int32) (r_parts : Int32) (r_ins : Nat → Int32) (rv : Int32) (hs : pX9_colouring r_parts r_ins = some rv) : Met l yX9_colouring wsX9_colouring ({ frames := 1, cells := 0, slots := 0, locals := 21 }) (sPc [.ref a_x] (dC, dI) [(c_r_ins, .int)] [(a_x, .inr (9, [.ref a_x_costs, .ref a_r, .ref a_u, .ref a_q, .ref a_h, .ref a_f, .ref a_w, .ref a_o, .ref a_z, .ref a_g, .ref a_k])), (a_r, .inr (6, [.ref a_r_rows, .ref a_r_ins, .int r_size, .int r_n, .int r_parts])), (a_r_ins, .inl (c_r_ins, 1024, .inl r_ins))] sz) (va_Qi (fun (r : Int32) (_ : Unit) => r = rv) (sB (dC, dI) [(c_r_ins, .int)] (va_A [(a_x, .inr (9, [.ref a_x_costs, .ref a_r, .ref a_u, .ref a_q, .ref a_h, .ref a_f, .ref a_w, .ref a_o, .ref a_z, .ref a_g, .ref a_k])), (a_r, .inr (6, [.ref a_r_rows, .ref a_r_ins, .int r_size, .int r_n, .int r_parts])), (a_r_ins, .inl (c_r_ins, 1024, .inl r_ins))] sz) [(a_x, .inr (9, [.ref a_x_costs, .ref a_r, .ref a_u, .ref a_q, .ref a_h, .ref a_f, .ref a_w, .ref a_o, .ref a_z, .ref a_g, .ref a_k])), (a_r, .inr (6, [.ref a_r_rows, .ref a_r_ins, .int r_size, .int r_n, .int r_parts])), (a_r_ins, .inl (c_r_ins, 1024, .inl r_ins))]) (va_A [(a_x, .inr (9, [.ref a_x_costs, .ref a_r, .ref a_u, .ref a_q, .ref a_h, .ref a_f, .ref a_w, .ref a_o, .ref a_z, .ref a_g, .ref a_k])), (a_r, .inr (6, [.ref a_r_rows, .ref a_r_ins, .int r_size, .int r_n, .int r_parts])), (a_r_ins, .inl (c_r_ins, 1024, .inl r_ins))] sz)) 0 0 (va_A [(a_x, .inr (9, [.ref a_x_costs, .ref a_r, .ref a_u, .ref a_q, .ref a_h, .ref a_f, .ref a_w, .ref a_o, .ref a_z, .ref a_g, .ref a_k])), (a_r, .inr (6, [.ref a_r_rows, .ref a_r_ins, .int r_size, .int r_n, .int r_parts])), (a_r_ins, .inl (c_r_ins, 1024, .inl r_ins))] sz) := by
  refine Met.ofW (cc := cX9_colouring) (maxL := 3) (ret := (some .int)) (by decide) rfl ?_
  intro p e s m args below meth c s₁ B hml hv
  obtain ⟨rfl, hsz, hP, hK, hD0, hN⟩ := hv
  have hx := B.exec
  have hb := B.bytes
  have hr := B.returns
  have hts := atoms_spec (ws := wsX9_colouring) B.pre
  have hown : s.vm.findClass RX9 = some m.cls := findClass_of_methodNamed B.named
  have hlocks := B.notSynchronized
  subst hsz
  have hD := hD0.self (sz := s.heap.size)
  generalize hAe : va_A [(a_x, .inr (9, [.ref a_x_costs, .ref a_r, .ref a_u, .ref a_q, .ref a_h, .ref a_f, .ref a_w, .ref a_o, .ref a_z, .ref a_g, .ref a_k])), (a_r, .inr (6, [.ref a_r_rows, .ref a_r_ins, .int r_size, .int r_n, .int r_parts])), (a_r_ins, .inl (c_r_ins, 1024, .inl r_ins))] s.heap.size = A at hD hN ⊢
  have hA : ∀ q : Nat, s.heap.size ≤ q → A q := fun q h => by rw [← hAe]; exact Or.inr h
  have hS : va_S A s.heap s.heap [] := va_S.rf
  have hP : va_P (dC, dI) vwCl [(a_x, .inr (9, [.ref a_x_costs, .ref a_r, .ref a_u, .ref a_q, .ref a_h, .ref a_f, .ref a_w, .ref a_o, .ref a_z, .ref a_g, .ref a_k])), (a_r, .inr (6, [.ref a_r_rows, .ref a_r_ins, .int r_size, .int r_n, .int r_parts])), (a_r_ins, .inl (c_r_ins, 1024, .inl r_ins))] s.heap := hP
  have hl := lv_entry ([.ref a_x]) (n := 3) (Nat.le_of_ble_eq_true rfl)
  rw [lg_entry_eq]
  generalize (lg_sl ([.ref a_x]) ++ List.replicate (3 - (lg_sl ([.ref a_x])).length) Slot.unset).toArray = ls at hl ⊢
  have hl : lv_has ls 3 [(0, .ref a_x)] := hl
  have hiX9 : ∀ w ∈ wsX90, w ∈ wsX9_colouring := fun _ h => List.mem_cons_of_mem _ (List.mem_append_left _ (List.mem_append_right _ h))
  have hf23 := hts (.fieldLink RX9 23 "MeetSets" "list" "LMeetSets$SetRow;") (t1_ (al_ (al_ h1_)))
  have hiX6 : ∀ w ∈ wsX60, w ∈ wsX9_colouring := fun _ h => List.mem_cons_of_mem _ (List.mem_append_right _ h)
  have hf117 := hts (.fieldLink RX9 117 "MeetSets$SetRow" "parts" "I") (t1_ (al_ (al_ (t1_ h1_))))
  refine w_abs (fun Z hZv hZw => ?_)
  refine hZv ?_
  obtain ⟨H, hH⟩ : ∃ H, H = s.heap := ⟨_, rfl⟩
  obtain ⟨locs, hlo⟩ : ∃ L : List Loc, L = [] := ⟨_, rfl⟩
  rw [← hlo, ← hH]
  have hS : va_S A s.heap H locs := by rw [hlo, hH]; exact hS
  have hP : va_P (dC, dI) vwCl [(a_x, .inr (9, [.ref a_x_costs, .ref a_r, .ref a_u, .ref a_q, .ref a_h, .ref a_f, .ref a_w, .ref a_o, .ref a_z, .ref a_g, .ref a_k])), (a_r, .inr (6, [.ref a_r_rows, .ref a_r_ins, .int r_size, .int r_n, .int r_parts])), (a_r_ins, .inl (c_r_ins, 1024, .inl r_ins))] H := by rw [hH]; exact hP
  clear hH hlo
  unfold pX9_colouring at hs
  refine lv_aload_n hx hb dX9_colouring_0 rfl (lv_at hl 0 rfl) ?_
  refine va_get (D := (dC, dI)) (ci := 9) (v := .ref a_r) (C := RX9) (T := TX9) (N := 11) hx hb hts hiX9 hown hK hP 0 rfl rfl 1 (by decide) hf23 (fun _ h9 => h9) rfl dX9_colouring_1 ?_
  refine va_get (D := (dC, dI)) (ci := 6) (v := .int r_parts) (C := RX6) (T := TX6) (N := 5) hx hb hts hiX6 hown hK hP 1 rfl rfl 4 (by decide) hf117 (fun _ h9 => h9) rfl dX9_colouring_4 ?_
  refine lv_iconst (v := 1) hx hb dX9_colouring_7 (by decide) ?_
  refine lv_isub hx hb dX9_colouring_8 ?_
  refine lv_istore_n (lv' := [(1, .int (r_parts - 1)), (0, .ref a_x)]) hx hb dX9_colouring_9 rfl hl (by decide) rfl (fun ls hl => ?_)
  refine lv_iconst (v := 0) hx hb dX9_colouring_10 (by decide) ?_
  refine lv_istore_n (lv' := [(2, .int 0), (1, .int (r_parts - 1)), (0, .ref a_x)]) hx hb dX9_colouring_11 rfl hl (by decide) rfl (fun ls hl => ?_)
  obtain ⟨e12, he12, hs⟩ := bd_s hs
  have hX12_0 : ∀ (e12_0 : Int32), (Sum.inl e12_0) = e12 → ∀ (H : Heap) (locs : List Loc) (ls : Array Slot), va_P (dC, dI) vwCl [(a_x, .inr (9, [.ref a_x_costs, .ref a_r, .ref a_u, .ref a_q, .ref a_h, .ref a_f, .ref a_w, .ref a_o, .ref a_z, .ref a_g, .ref a_k])), (a_r, .inr (6, [.ref a_r_rows, .ref a_r_ins, .int r_size, .int r_n, .int r_parts])), (a_r_ins, .inl (c_r_ins, 1024, .inl r_ins))] H → va_D A [(a_x, .inr (9, [.ref a_x_costs, .ref a_r, .ref a_u, .ref a_q, .ref a_h, .ref a_f, .ref a_w, .ref a_o, .ref a_z, .ref a_g, .ref a_k])), (a_r, .inr (6, [.ref a_r_rows, .ref a_r_ins, .int r_size, .int r_n, .int r_parts])), (a_r_ins, .inl (c_r_ins, 1024, .inl r_ins))] → va_S A s.heap H locs → lv_has ls 3 [(2, .int e12_0)] → Z H locs 0 0 (F0 m 47 ls []) := by
    intro e12_0 he H locs ls hP hD hS hl
    subst he
    replace hs := sm_l hs
    refine hZv ?_
    refine lv_iload_n hx hb dX9_colouring_47 rfl (lv_at hl 0 rfl) ?_
    replace hs := Option.some.inj hs
    subst hs
    exact W.iret (v := e12_0) hx hb hr (fun t ht hW => ⟨⟨e12_0, (), rfl, rfl, by rw [ht]; exact hP, va_K.moved hW.alike hK, hD⟩, hS.F ht⟩) hS.2.2 dX9_colouring_48
  have hX12_1 : ∀ (e12_1 : Unit), (Sum.inr e12_1) = e12 → ∀ (H : Heap) (locs : List Loc) (ls : Array Slot), va_P (dC, dI) vwCl [(a_x, .inr (9, [.ref a_x_costs, .ref a_r, .ref a_u, .ref a_q, .ref a_h, .ref a_f, .ref a_w, .ref a_o, .ref a_z, .ref a_g, .ref a_k])), (a_r, .inr (6, [.ref a_r_rows, .ref a_r_ins, .int r_size, .int r_n, .int r_parts])), (a_r_ins, .inl (c_r_ins, 1024, .inl r_ins))] H → va_D A [(a_x, .inr (9, [.ref a_x_costs, .ref a_r, .ref a_u, .ref a_q, .ref a_h, .ref a_f, .ref a_w, .ref a_o, .ref a_z, .ref a_g, .ref a_k])), (a_r, .inr (6, [.ref a_r_rows, .ref a_r_ins, .int r_size, .int r_n, .int r_parts])), (a_r_ins, .inl (c_r_ins, 1024, .inl r_ins))] → va_S A s.heap H locs → lv_has ls 3 [] → Z H locs 0 0 (F0 m 55 ls []) := by
    intro e12_1 he H locs ls hP hD hS hl
    subst he
    replace hs := sm_r hs
    refine hZv ?_
    refine lv_iconst (v := (-1)) hx hb dX9_colouring_55 (by decide) ?_
    replace hs := Option.some.inj hs
    subst hs
    exact W.iret (v := (-1)) hx hb hr (fun t ht hW => ⟨⟨(-1), (), rfl, rfl, by rw [ht]; exact hP, va_K.moved hW.alike hK, hD⟩, hS.F ht⟩) hS.2.2 dX9_colouring_56
  clear hs
  have hL12 : ∀ (n : Nat) (s12 : Int32) (H : Heap) (locs : List Loc) (ls : Array Slot), itr (pX9_colouring_L12 r_parts r_ins) n s12 = some e12 → va_P (dC, dI) vwCl [(a_x, .inr (9, [.ref a_x_costs, .ref a_r, .ref a_u, .ref a_q, .ref a_h, .ref a_f, .ref a_w, .ref a_o, .ref a_z, .ref a_g, .ref a_k])), (a_r, .inr (6, [.ref a_r_rows, .ref a_r_ins, .int r_size, .int r_n, .int r_parts])), (a_r_ins, .inl (c_r_ins, 1024, .inl r_ins))] H → va_D A [(a_x, .inr (9, [.ref a_x_costs, .ref a_r, .ref a_u, .ref a_q, .ref a_h, .ref a_f, .ref a_w, .ref a_o, .ref a_z, .ref a_g, .ref a_k])), (a_r, .inr (6, [.ref a_r_rows, .ref a_r_ins, .int r_size, .int r_n, .int r_parts])), (a_r_ins, .inl (c_r_ins, 1024, .inl r_ins))] → va_S A s.heap H locs → lv_has ls 3 [(0, .ref a_x), (1, .int (r_parts - 1)), (2, .int s12)] → Z H locs 0 0 (F0 m 12 ls []) := by
    intro n
    induction n with
    | zero =>
      intro s12 H locs ls hn
      exact (itr_0 hn).elim
    | succ n ih =>
      intro s12 H locs ls hn hP hD hS hl
      obtain ⟨y1, hs, hn⟩ := itr_s hn
      unfold pX9_colouring_L12 at hs
      refine hZv ?_
      refine lv_iload_n hx hb dX9_colouring_12 rfl (lv_at hl 2 rfl) ?_
      refine lv_aload_n hx hb dX9_colouring_13 rfl (lv_at hl 0 rfl) ?_
      refine va_get (D := (dC, dI)) (ci := 9) (v := .ref a_r) (C := RX9) (T := TX9) (N := 11) hx hb hts hiX9 hown hK hP 0 rfl rfl 1 (by decide) hf23 (fun _ h9 => h9) rfl dX9_colouring_14 ?_
      refine va_get (D := (dC, dI)) (ci := 6) (v := .int r_parts) (C := RX6) (T := TX6) (N := 5) hx hb hts hiX6 hown hK hP 1 rfl rfl 4 (by decide) hf117 (fun _ h9 => h9) rfl dX9_colouring_17 ?_
      refine lv_icmp_ge (tgt := 55) hx hb dX9_colouring_20 (by decide) (fun hc => ?_) (fun hc => ?_)
      · replace hs := it_t hc hs
        replace hs := Option.some.inj hs
        subst hs
        obtain rfl : (Sum.inr ()) = e12 := hn
        exact hZw (hX12_1 () rfl H locs ls hP hD hS (lv_sub hl [] rfl))
      · replace hs := it_f hc hs
        refine lv_aload_n hx hb dX9_colouring_23 rfl (lv_at hl 0 rfl) ?_
        refine va_get (D := (dC, dI)) (ci := 9) (v := .ref a_r) (C := RX9) (T := TX9) (N := 11) hx hb hts hiX9 hown hK hP 0 rfl rfl 1 (by decide) hf23 (fun _ h9 => h9) rfl dX9_colouring_24 ?_
        refine lv_iload_n hx hb dX9_colouring_27 rfl (lv_at hl 2 rfl) ?_
        obtain ⟨r2, hr2, hs⟩ := bd_s hs
        refine kc_i (isC := [1, 2]) (isR := [0]) (pm := [0, 1, 2]) (wr := [(a_x, .inr (9, [.ref a_x_costs, .ref a_r, .ref a_u, .ref a_q, .ref a_h, .ref a_f, .ref a_w, .ref a_o, .ref a_z, .ref a_g, .ref a_k]))]) (w1 := [(a_r, .inr (6, [.ref a_r_rows, .ref a_r_ins, .int r_size, .int r_n, .int r_parts])), (a_r_ins, .inl (c_r_ins, 1024, .inl r_ins))]) (w2 := [(a_x, .inr (9, [.ref a_x_costs, .ref a_r, .ref a_u, .ref a_q, .ref a_h, .ref a_f, .ref a_w, .ref a_o, .ref a_z, .ref a_g, .ref a_k])), (a_r, .inr (6, [.ref a_r_rows, .ref a_r_ins, .int r_size, .int r_n, .int r_parts])), (a_r_ins, .inl (c_r_ins, 1024, .inl r_ins))]) (va_runV (As := [.int s12]) (rest := []) ⟨hx, hb, hml, hown, hts⟩ (c_X6_hasSetIn l dC dI a_r a_r_rows a_r_ins c_r_ins H.size r_size r_n r_parts r_ins s12 r2 hr2) (cwV 1 hts gX9_colouring_X6_hasSetIn rfl rfl rfl (by decide +kernel) ⟨Nat.le_of_ble_eq_true rfl, Nat.le_of_ble_eq_true rfl⟩) (kp_V hK hP hD hS hA hN (isC := [1, 2]) (isT := [0]) (wc := [(a_r, .inr (6, [.ref a_r_rows, .ref a_r_ins, .int r_size, .int r_n, .int r_parts])), (a_r_ins, .inl (c_r_ins, 1024, .inl r_ins))]) rfl (by decide +kernel) rfl (ci := 6) (q0 := 0) rfl rfl) rfl rfl hl.1 rfl (lv_room (Nat.le_of_ble_eq_true rfl)) dX9_colouring_28 ⟨Nat.le_of_ble_eq_true rfl, Nat.le_of_ble_eq_true rfl⟩) hP hD hS hA rfl rfl (by decide +kernel) (by decide +kernel) rfl (by decide +kernel) (fun H locs hP hD hS => ?_)
        refine lv_if_ne (tgt := 49) hx hb dX9_colouring_31 (by decide) (fun hc => ?_) (fun hc => ?_)
        · replace hs := it_f hc hs
          refine lv_iinc (v := s12 + 1) (lv' := [(2, .int (s12 + 1)), (0, .ref a_x), (1, .int (r_parts - 1))]) hx hb dX9_colouring_49 hl (k := 2) rfl (by rfl) (by decide) rfl (fun ls hl => ?_)
          refine lv_goto (tgt := 12) hx hb dX9_colouring_52 (by decide) ?_
          replace hs := Option.some.inj hs
          subst hs
          exact hZw (ih (s12 + 1) H locs ls hn hP hD hS (lv_sub hl [1, 2, 0] rfl))
        · replace hs := it_t hc hs
          refine lv_aload_n hx hb dX9_colouring_34 rfl (lv_at hl 0 rfl) ?_
          refine va_get (D := (dC, dI)) (ci := 9) (v := .ref a_r) (C := RX9) (T := TX9) (N := 11) hx hb hts hiX9 hown hK hP 0 rfl rfl 1 (by decide) hf23 (fun _ h9 => h9) rfl dX9_colouring_35 ?_
          refine lv_iload_n hx hb dX9_colouring_38 rfl (lv_at hl 1 rfl) ?_
          refine lv_iload_n hx hb dX9_colouring_39 rfl (lv_at hl 2 rfl) ?_
          refine lv_ixor hx hb dX9_colouring_40 ?_
          obtain ⟨r3, hr3, hs⟩ := bd_s hs
          refine kc_i (isC := [1, 2]) (isR := [0]) (pm := [0, 1, 2]) (wr := [(a_x, .inr (9, [.ref a_x_costs, .ref a_r, .ref a_u, .ref a_q, .ref a_h, .ref a_f, .ref a_w, .ref a_o, .ref a_z, .ref a_g, .ref a_k]))]) (w1 := [(a_r, .inr (6, [.ref a_r_rows, .ref a_r_ins, .int r_size, .int r_n, .int r_parts])), (a_r_ins, .inl (c_r_ins, 1024, .inl r_ins))]) (w2 := [(a_x, .inr (9, [.ref a_x_costs, .ref a_r, .ref a_u, .ref a_q, .ref a_h, .ref a_f, .ref a_w, .ref a_o, .ref a_z, .ref a_g, .ref a_k])), (a_r, .inr (6, [.ref a_r_rows, .ref a_r_ins, .int r_size, .int r_n, .int r_parts])), (a_r_ins, .inl (c_r_ins, 1024, .inl r_ins))]) (va_runV (As := [.int ((r_parts - 1) ^^^ s12)]) (rest := []) ⟨hx, hb, hml, hown, hts⟩ (c_X6_hasSetIn l dC dI a_r a_r_rows a_r_ins c_r_ins H.size r_size r_n r_parts r_ins ((r_parts - 1) ^^^ s12) r3 hr3) (cwV 1 hts gX9_colouring_X6_hasSetIn rfl rfl rfl (by decide +kernel) ⟨Nat.le_of_ble_eq_true rfl, Nat.le_of_ble_eq_true rfl⟩) (kp_V hK hP hD hS hA hN (isC := [1, 2]) (isT := [0]) (wc := [(a_r, .inr (6, [.ref a_r_rows, .ref a_r_ins, .int r_size, .int r_n, .int r_parts])), (a_r_ins, .inl (c_r_ins, 1024, .inl r_ins))]) rfl (by decide +kernel) rfl (ci := 6) (q0 := 0) rfl rfl) rfl rfl hl.1 rfl (lv_room (Nat.le_of_ble_eq_true rfl)) dX9_colouring_41 ⟨Nat.le_of_ble_eq_true rfl, Nat.le_of_ble_eq_true rfl⟩) hP hD hS hA rfl rfl (by decide +kernel) (by decide +kernel) rfl (by decide +kernel) (fun H locs hP hD hS => ?_)
          refine lv_if_ne (tgt := 49) hx hb dX9_colouring_44 (by decide) (fun hc => ?_) (fun hc => ?_)
          · replace hs := it_f hc hs
            refine lv_iinc (v := s12 + 1) (lv' := [(2, .int (s12 + 1)), (0, .ref a_x), (1, .int (r_parts - 1))]) hx hb dX9_colouring_49 hl (k := 2) rfl (by rfl) (by decide) rfl (fun ls hl => ?_)
            refine lv_goto (tgt := 12) hx hb dX9_colouring_52 (by decide) ?_
            replace hs := Option.some.inj hs
            subst hs
            exact hZw (ih (s12 + 1) H locs ls hn hP hD hS (lv_sub hl [1, 2, 0] rfl))
          · replace hs := it_t hc hs
            replace hs := Option.some.inj hs
            subst hs
            obtain rfl : (Sum.inl s12) = e12 := hn
            exact hZw (hX12_0 s12 rfl H locs ls hP hD hS (lv_sub hl [2] rfl))
  obtain ⟨n12, hn12⟩ := lp_ex he12
  exact hZw (hL12 n12 0 H locs ls hn12 hP hD hS (lv_sub hl [2, 1, 0] rfl))
noncomputable def pX9_ears (r_len : Nat) (r_size : Int32) (r_rows : Nat → Int32) (z_left : Int32) (z_rest : Nat → Int32) : Option (Int32 × Int32 × (Nat → Int32)) :=
  Option.bind (pX2_whatIsLeft r_len r_size r_rows z_left z_rest) (fun r1 => some (r1.1, r1.2.1, r1.2.2))
set_option maxHeartbeats 4000000 in
set_option maxRecDepth 100000 in
theorem c_X9_ears (l : Launch) (dC : Nat → ClassId) (dI : Nat → Nat → Nat) (a_x : Nat) (a_x_costs : Nat) (a_r : Nat) (a_r_rows : Nat) (a_r_ins : Nat) (a_u : Nat) (a_q : Nat) (a_h : Nat) (a_f : Nat) (a_w : Nat) (a_o : Nat) (a_z : Nat) (a_z_rest : Nat) (a_g : Nat) (a_k : Nat) (c_r_rows c_z_rest : ClassId) (r_len : Nat) (sz : Nat) (r_size : Int32) (r_n : Int32) (r_parts : Int32) (r_rows : Nat → Int32) (z_left : Int32) (z_rest : Nat → Int32) (rv : Int32 × Int32 × (Nat → Int32)) (hs : pX9_ears r_len r_size r_rows z_left z_rest = some rv) : Met l yX9_ears wsX9_ears ({ frames := 4, cells := 0, slots := 0, locals := 86 }) (sPc [.ref a_x] (dC, dI) [(c_r_rows, .int), (c_z_rest, .int)] [(a_x, .inr (9, [.ref a_x_costs, .ref a_r, .ref a_u, .ref a_q, .ref a_h, .ref a_f, .ref a_w, .ref a_o, .ref a_z, .ref a_g, .ref a_k])), (a_r, .inr (6, [.ref a_r_rows, .ref a_r_ins, .int r_size, .int r_n, .int r_parts])), (a_r_rows, .inl (c_r_rows, r_len, .inl r_rows)), (a_z, .inr (2, [.ref a_r, .ref a_z_rest, .int z_left])), (a_z_rest, .inl (c_z_rest, 16, .inl z_rest))] sz) (va_Qi (fun (r : Int32) (_ : Unit) => r = rv.1) (sB (dC, dI) [(c_r_rows, .int), (c_z_rest, .int)] (va_A [(a_x, .inr (9, [.ref a_x_costs, .ref a_r, .ref a_u, .ref a_q, .ref a_h, .ref a_f, .ref a_w, .ref a_o, .ref a_z, .ref a_g, .ref a_k])), (a_r, .inr (6, [.ref a_r_rows, .ref a_r_ins, .int r_size, .int r_n, .int r_parts])), (a_r_rows, .inl (c_r_rows, r_len, .inl r_rows)), (a_z, .inr (2, [.ref a_r, .ref a_z_rest, .int z_left])), (a_z_rest, .inl (c_z_rest, 16, .inl z_rest))] sz) [(a_x, .inr (9, [.ref a_x_costs, .ref a_r, .ref a_u, .ref a_q, .ref a_h, .ref a_f, .ref a_w, .ref a_o, .ref a_z, .ref a_g, .ref a_k])), (a_r, .inr (6, [.ref a_r_rows, .ref a_r_ins, .int r_size, .int r_n, .int r_parts])), (a_r_rows, .inl (c_r_rows, r_len, .inl r_rows)), (a_z, .inr (2, [.ref a_r, .ref a_z_rest, .int rv.2.1])), (a_z_rest, .inl (c_z_rest, 16, .inl rv.2.2))]) (va_A [(a_x, .inr (9, [.ref a_x_costs, .ref a_r, .ref a_u, .ref a_q, .ref a_h, .ref a_f, .ref a_w, .ref a_o, .ref a_z, .ref a_g, .ref a_k])), (a_r, .inr (6, [.ref a_r_rows, .ref a_r_ins, .int r_size, .int r_n, .int r_parts])), (a_r_rows, .inl (c_r_rows, r_len, .inl r_rows)), (a_z, .inr (2, [.ref a_r, .ref a_z_rest, .int z_left])), (a_z_rest, .inl (c_z_rest, 16, .inl z_rest))] sz)) 0 0 (va_A [(a_x, .inr (9, [.ref a_x_costs, .ref a_r, .ref a_u, .ref a_q, .ref a_h, .ref a_f, .ref a_w, .ref a_o, .ref a_z, .ref a_g, .ref a_k])), (a_r, .inr (6, [.ref a_r_rows, .ref a_r_ins, .int r_size, .int r_n, .int r_parts])), (a_r_rows, .inl (c_r_rows, r_len, .inl r_rows)), (a_z, .inr (2, [.ref a_r, .ref a_z_rest, .int z_left])), (a_z_rest, .inl (c_z_rest, 16, .inl z_rest))] sz) := by
  refine Met.ofW (cc := cX9_ears) (maxL := 1) (ret := (some .int)) (by decide) rfl ?_
  intro p e s m args below meth c s₁ B hml hv
  obtain ⟨rfl, hsz, hP, hK, hD0, hN⟩ := hv
  have hx := B.exec
  have hb := B.bytes
  have hr := B.returns
  have hts := atoms_spec (ws := wsX9_ears) B.pre
  have hown : s.vm.findClass RX9 = some m.cls := findClass_of_methodNamed B.named
  have hlocks := B.notSynchronized
  subst hsz
  have hD := hD0.self (sz := s.heap.size)
  generalize hAe : va_A [(a_x, .inr (9, [.ref a_x_costs, .ref a_r, .ref a_u, .ref a_q, .ref a_h, .ref a_f, .ref a_w, .ref a_o, .ref a_z, .ref a_g, .ref a_k])), (a_r, .inr (6, [.ref a_r_rows, .ref a_r_ins, .int r_size, .int r_n, .int r_parts])), (a_r_rows, .inl (c_r_rows, r_len, .inl r_rows)), (a_z, .inr (2, [.ref a_r, .ref a_z_rest, .int z_left])), (a_z_rest, .inl (c_z_rest, 16, .inl z_rest))] s.heap.size = A at hD hN ⊢
  have hA : ∀ q : Nat, s.heap.size ≤ q → A q := fun q h => by rw [← hAe]; exact Or.inr h
  have hS : va_S A s.heap s.heap [] := va_S.rf
  have hP : va_P (dC, dI) vwCl [(a_x, .inr (9, [.ref a_x_costs, .ref a_r, .ref a_u, .ref a_q, .ref a_h, .ref a_f, .ref a_w, .ref a_o, .ref a_z, .ref a_g, .ref a_k])), (a_r, .inr (6, [.ref a_r_rows, .ref a_r_ins, .int r_size, .int r_n, .int r_parts])), (a_r_rows, .inl (c_r_rows, r_len, .inl r_rows)), (a_z, .inr (2, [.ref a_r, .ref a_z_rest, .int z_left])), (a_z_rest, .inl (c_z_rest, 16, .inl z_rest))] s.heap := hP
  have hl := lv_entry ([.ref a_x]) (n := 1) (Nat.le_of_ble_eq_true rfl)
  rw [lg_entry_eq]
  generalize (lg_sl ([.ref a_x]) ++ List.replicate (1 - (lg_sl ([.ref a_x])).length) Slot.unset).toArray = ls at hl ⊢
  have hl : lv_has ls 1 [(0, .ref a_x)] := hl
  have hiX9 : ∀ w ∈ wsX90, w ∈ wsX9_ears := fun _ h => List.mem_cons_of_mem _ (List.mem_append_left _ (List.mem_append_left _ (List.mem_append_right _ h)))
  have hf70 := hts (.fieldLink RX9 70 "MeetSets" "falling" "LMeetSets$Ears;") (t1_ (al_ (al_ (al_ (al_ h1_)))))
  refine w_abs (fun Z hZv hZw => ?_)
  refine hZv ?_
  obtain ⟨H, hH⟩ : ∃ H, H = s.heap := ⟨_, rfl⟩
  obtain ⟨locs, hlo⟩ : ∃ L : List Loc, L = [] := ⟨_, rfl⟩
  rw [← hlo, ← hH]
  have hS : va_S A s.heap H locs := by rw [hlo, hH]; exact hS
  have hP : va_P (dC, dI) vwCl [(a_x, .inr (9, [.ref a_x_costs, .ref a_r, .ref a_u, .ref a_q, .ref a_h, .ref a_f, .ref a_w, .ref a_o, .ref a_z, .ref a_g, .ref a_k])), (a_r, .inr (6, [.ref a_r_rows, .ref a_r_ins, .int r_size, .int r_n, .int r_parts])), (a_r_rows, .inl (c_r_rows, r_len, .inl r_rows)), (a_z, .inr (2, [.ref a_r, .ref a_z_rest, .int z_left])), (a_z_rest, .inl (c_z_rest, 16, .inl z_rest))] H := by rw [hH]; exact hP
  clear hH hlo
  unfold pX9_ears at hs
  refine lv_aload_n hx hb dX9_ears_0 rfl (lv_at hl 0 rfl) ?_
  refine va_get (D := (dC, dI)) (ci := 9) (v := .ref a_z) (C := RX9) (T := TX9) (N := 11) hx hb hts hiX9 hown hK hP 0 rfl rfl 8 (by decide) hf70 (fun _ h9 => h9) rfl dX9_ears_1 ?_
  obtain ⟨r1, hr1, hs⟩ := bd_s hs
  refine kc_i (isC := [1, 2, 3, 4]) (isR := [0]) (pm := [0, 1, 2, 3, 4]) (wr := [(a_x, .inr (9, [.ref a_x_costs, .ref a_r, .ref a_u, .ref a_q, .ref a_h, .ref a_f, .ref a_w, .ref a_o, .ref a_z, .ref a_g, .ref a_k]))]) (w1 := [(a_r, .inr (6, [.ref a_r_rows, .ref a_r_ins, .int r_size, .int r_n, .int r_parts])), (a_r_rows, .inl (c_r_rows, r_len, .inl r_rows)), (a_z, .inr (2, [.ref a_r, .ref a_z_rest, .int r1.2.1])), (a_z_rest, .inl (c_z_rest, 16, .inl r1.2.2))]) (w2 := [(a_x, .inr (9, [.ref a_x_costs, .ref a_r, .ref a_u, .ref a_q, .ref a_h, .ref a_f, .ref a_w, .ref a_o, .ref a_z, .ref a_g, .ref a_k])), (a_r, .inr (6, [.ref a_r_rows, .ref a_r_ins, .int r_size, .int r_n, .int r_parts])), (a_r_rows, .inl (c_r_rows, r_len, .inl r_rows)), (a_z, .inr (2, [.ref a_r, .ref a_z_rest, .int r1.2.1])), (a_z_rest, .inl (c_z_rest, 16, .inl r1.2.2))]) (va_runV (As := []) (rest := []) ⟨hx, hb, hml, hown, hts⟩ (c_X2_whatIsLeft l dC dI a_r a_r_rows a_r_ins a_z a_z_rest c_r_rows c_z_rest r_len H.size r_size r_n r_parts r_rows z_left z_rest r1 hr1) (cwV 0 hts gX9_ears_X2_whatIsLeft rfl rfl rfl (by decide +kernel) ⟨Nat.le_of_ble_eq_true rfl, Nat.le_of_ble_eq_true rfl⟩) (kp_V hK hP hD hS hA hN (isC := [1, 2, 3, 4]) (isT := [0, 1]) (wc := [(a_r, .inr (6, [.ref a_r_rows, .ref a_r_ins, .int r_size, .int r_n, .int r_parts])), (a_r_rows, .inl (c_r_rows, r_len, .inl r_rows)), (a_z, .inr (2, [.ref a_r, .ref a_z_rest, .int z_left])), (a_z_rest, .inl (c_z_rest, 16, .inl z_rest))]) rfl (by decide +kernel) rfl (ci := 2) (q0 := 2) rfl rfl) rfl rfl hl.1 rfl (lv_room (Nat.le_of_ble_eq_true rfl)) dX9_ears_4 ⟨Nat.le_of_ble_eq_true rfl, Nat.le_of_ble_eq_true rfl⟩) hP hD hS hA rfl rfl (by decide +kernel) (by decide +kernel) rfl (by decide +kernel) (fun H locs hP hD hS => ?_)
  replace hs := Option.some.inj hs
  subst hs
  exact W.iret (v := r1.1) hx hb hr (fun t ht hW => ⟨⟨r1.1, (), rfl, rfl, by rw [ht]; exact hP, va_K.moved hW.alike hK, hD⟩, hS.F ht⟩) hS.2.2 dX9_ears_7
noncomputable def pX9_twoByTwo_L2 (r_len : Nat) (r_size : Int32) (r_parts : Int32) (r_rows : Nat → Int32) (s2 : Int32) : Option ((Int32) ⊕ ((Int32) ⊕ (Unit))) :=
  if r_parts ≤ s2 then (some (Sum.inr (Sum.inr ()))) else (Option.bind (pJ6_bitCount_0f7a4 s2) (fun r2 => if r2 = 3 then (Option.bind (pX9_nothingInCommon r_len r_size r_parts r_rows s2) (fun r3 => if r3 = 0 then (some (Sum.inl (s2 + 1))) else (some (Sum.inr (Sum.inl s2))))) else (some (Sum.inl (s2 + 1)))))
noncomputable def pX9_twoByTwo (r_len : Nat) (r_size : Int32) (r_parts : Int32) (r_rows : Nat → Int32) : Option (Int32) :=
  Option.bind (lp (pX9_twoByTwo_L2 r_len r_size r_parts r_rows) 0) (Sum.elim (fun e2_0 => some e2_0) (fun e2_1 => some (-1)))
set_option maxHeartbeats 4000000 in
set_option maxRecDepth 100000 in
theorem c_X9_twoByTwo (l : Launch) (dC : Nat → ClassId) (dI : Nat → Nat → Nat) (a_x : Nat) (a_x_costs : Nat) (a_r : Nat) (a_r_rows : Nat) (a_r_ins : Nat) (a_u : Nat) (a_q : Nat) (a_h : Nat) (a_f : Nat) (a_w : Nat) (a_o : Nat) (a_z : Nat) (a_g : Nat) (a_k : Nat) (c_r_rows : ClassId) (r_len : Nat) (sz : Nat) (r_size : Int32) (r_n : Int32) (r_parts : Int32) (r_rows : Nat → Int32) (rv : Int32) (hs : pX9_twoByTwo r_len r_size r_parts r_rows = some rv) : Met l yX9_twoByTwo wsX9_twoByTwo ({ frames := 2, cells := 0, slots := 0, locals := 44 }) (sPc [.ref a_x] (dC, dI) [(c_r_rows, .int)] [(a_x, .inr (9, [.ref a_x_costs, .ref a_r, .ref a_u, .ref a_q, .ref a_h, .ref a_f, .ref a_w, .ref a_o, .ref a_z, .ref a_g, .ref a_k])), (a_r, .inr (6, [.ref a_r_rows, .ref a_r_ins, .int r_size, .int r_n, .int r_parts])), (a_r_rows, .inl (c_r_rows, r_len, .inl r_rows))] sz) (va_Qi (fun (r : Int32) (_ : Unit) => r = rv) (sB (dC, dI) [(c_r_rows, .int)] (va_A [(a_x, .inr (9, [.ref a_x_costs, .ref a_r, .ref a_u, .ref a_q, .ref a_h, .ref a_f, .ref a_w, .ref a_o, .ref a_z, .ref a_g, .ref a_k])), (a_r, .inr (6, [.ref a_r_rows, .ref a_r_ins, .int r_size, .int r_n, .int r_parts])), (a_r_rows, .inl (c_r_rows, r_len, .inl r_rows))] sz) [(a_x, .inr (9, [.ref a_x_costs, .ref a_r, .ref a_u, .ref a_q, .ref a_h, .ref a_f, .ref a_w, .ref a_o, .ref a_z, .ref a_g, .ref a_k])), (a_r, .inr (6, [.ref a_r_rows, .ref a_r_ins, .int r_size, .int r_n, .int r_parts])), (a_r_rows, .inl (c_r_rows, r_len, .inl r_rows))]) (va_A [(a_x, .inr (9, [.ref a_x_costs, .ref a_r, .ref a_u, .ref a_q, .ref a_h, .ref a_f, .ref a_w, .ref a_o, .ref a_z, .ref a_g, .ref a_k])), (a_r, .inr (6, [.ref a_r_rows, .ref a_r_ins, .int r_size, .int r_n, .int r_parts])), (a_r_rows, .inl (c_r_rows, r_len, .inl r_rows))] sz)) 0 0 (va_A [(a_x, .inr (9, [.ref a_x_costs, .ref a_r, .ref a_u, .ref a_q, .ref a_h, .ref a_f, .ref a_w, .ref a_o, .ref a_z, .ref a_g, .ref a_k])), (a_r, .inr (6, [.ref a_r_rows, .ref a_r_ins, .int r_size, .int r_n, .int r_parts])), (a_r_rows, .inl (c_r_rows, r_len, .inl r_rows))] sz) := by
  refine Met.ofW (cc := cX9_twoByTwo) (maxL := 2) (ret := (some .int)) (by decide) rfl ?_
  intro p e s m args below meth c s₁ B hml hv
  obtain ⟨rfl, hsz, hP, hK, hD0, hN⟩ := hv
  have hx := B.exec
  have hb := B.bytes
  have hr := B.returns
  have hts := atoms_spec (ws := wsX9_twoByTwo) B.pre
  have hown : s.vm.findClass RX9 = some m.cls := findClass_of_methodNamed B.named
  have hlocks := B.notSynchronized
  subst hsz
  have hD := hD0.self (sz := s.heap.size)
  generalize hAe : va_A [(a_x, .inr (9, [.ref a_x_costs, .ref a_r, .ref a_u, .ref a_q, .ref a_h, .ref a_f, .ref a_w, .ref a_o, .ref a_z, .ref a_g, .ref a_k])), (a_r, .inr (6, [.ref a_r_rows, .ref a_r_ins, .int r_size, .int r_n, .int r_parts])), (a_r_rows, .inl (c_r_rows, r_len, .inl r_rows))] s.heap.size = A at hD hN ⊢
  have hA : ∀ q : Nat, s.heap.size ≤ q → A q := fun q h => by rw [← hAe]; exact Or.inr h
  have hS : va_S A s.heap s.heap [] := va_S.rf
  have hP : va_P (dC, dI) vwCl [(a_x, .inr (9, [.ref a_x_costs, .ref a_r, .ref a_u, .ref a_q, .ref a_h, .ref a_f, .ref a_w, .ref a_o, .ref a_z, .ref a_g, .ref a_k])), (a_r, .inr (6, [.ref a_r_rows, .ref a_r_ins, .int r_size, .int r_n, .int r_parts])), (a_r_rows, .inl (c_r_rows, r_len, .inl r_rows))] s.heap := hP
  have hl := lv_entry ([.ref a_x]) (n := 2) (Nat.le_of_ble_eq_true rfl)
  rw [lg_entry_eq]
  generalize (lg_sl ([.ref a_x]) ++ List.replicate (2 - (lg_sl ([.ref a_x])).length) Slot.unset).toArray = ls at hl ⊢
  have hl : lv_has ls 2 [(0, .ref a_x)] := hl
  have hiX9 : ∀ w ∈ wsX90, w ∈ wsX9_twoByTwo := fun _ h => List.mem_cons_of_mem _ (List.mem_append_left _ (List.mem_append_right _ h))
  have hf23 := hts (.fieldLink RX9 23 "MeetSets" "list" "LMeetSets$SetRow;") (t1_ (al_ (al_ h1_)))
  have hiX6 : ∀ w ∈ wsX60, w ∈ wsX9_twoByTwo := fun _ h => List.mem_cons_of_mem _ (List.mem_append_right _ h)
  have hf117 := hts (.fieldLink RX9 117 "MeetSets$SetRow" "parts" "I") (t1_ (al_ (al_ (t1_ h1_))))
  refine w_abs (fun Z hZv hZw => ?_)
  refine hZv ?_
  obtain ⟨H, hH⟩ : ∃ H, H = s.heap := ⟨_, rfl⟩
  obtain ⟨locs, hlo⟩ : ∃ L : List Loc, L = [] := ⟨_, rfl⟩
  rw [← hlo, ← hH]
  have hS : va_S A s.heap H locs := by rw [hlo, hH]; exact hS
  have hP : va_P (dC, dI) vwCl [(a_x, .inr (9, [.ref a_x_costs, .ref a_r, .ref a_u, .ref a_q, .ref a_h, .ref a_f, .ref a_w, .ref a_o, .ref a_z, .ref a_g, .ref a_k])), (a_r, .inr (6, [.ref a_r_rows, .ref a_r_ins, .int r_size, .int r_n, .int r_parts])), (a_r_rows, .inl (c_r_rows, r_len, .inl r_rows))] H := by rw [hH]; exact hP
  clear hH hlo
  unfold pX9_twoByTwo at hs
  refine lv_iconst (v := 0) hx hb dX9_twoByTwo_0 (by decide) ?_
  refine lv_istore_n (lv' := [(1, .int 0), (0, .ref a_x)]) hx hb dX9_twoByTwo_1 rfl hl (by decide) rfl (fun ls hl => ?_)
  obtain ⟨e2, he2, hs⟩ := bd_s hs
  have hX2_0 : ∀ (e2_0 : Int32), (Sum.inl e2_0) = e2 → ∀ (H : Heap) (locs : List Loc) (ls : Array Slot), va_P (dC, dI) vwCl [(a_x, .inr (9, [.ref a_x_costs, .ref a_r, .ref a_u, .ref a_q, .ref a_h, .ref a_f, .ref a_w, .ref a_o, .ref a_z, .ref a_g, .ref a_k])), (a_r, .inr (6, [.ref a_r_rows, .ref a_r_ins, .int r_size, .int r_n, .int r_parts])), (a_r_rows, .inl (c_r_rows, r_len, .inl r_rows))] H → va_D A [(a_x, .inr (9, [.ref a_x_costs, .ref a_r, .ref a_u, .ref a_q, .ref a_h, .ref a_f, .ref a_w, .ref a_o, .ref a_z, .ref a_g, .ref a_k])), (a_r, .inr (6, [.ref a_r_rows, .ref a_r_ins, .int r_size, .int r_n, .int r_parts])), (a_r_rows, .inl (c_r_rows, r_len, .inl r_rows))] → va_S A s.heap H locs → lv_has ls 2 [(1, .int e2_0)] → Z H locs 0 0 (F0 m 29 ls []) := by
    intro e2_0 he H locs ls hP hD hS hl
    subst he
    replace hs := sm_l hs
    refine hZv ?_
    refine lv_iload_n hx hb dX9_twoByTwo_29 rfl (lv_at hl 0 rfl) ?_
    replace hs := Option.some.inj hs
    subst hs
    exact W.iret (v := e2_0) hx hb hr (fun t ht hW => ⟨⟨e2_0, (), rfl, rfl, by rw [ht]; exact hP, va_K.moved hW.alike hK, hD⟩, hS.F ht⟩) hS.2.2 dX9_twoByTwo_30
  have hX2_1 : ∀ (e2_1 : Unit), (Sum.inr e2_1) = e2 → ∀ (H : Heap) (locs : List Loc) (ls : Array Slot), va_P (dC, dI) vwCl [(a_x, .inr (9, [.ref a_x_costs, .ref a_r, .ref a_u, .ref a_q, .ref a_h, .ref a_f, .ref a_w, .ref a_o, .ref a_z, .ref a_g, .ref a_k])), (a_r, .inr (6, [.ref a_r_rows, .ref a_r_ins, .int r_size, .int r_n, .int r_parts])), (a_r_rows, .inl (c_r_rows, r_len, .inl r_rows))] H → va_D A [(a_x, .inr (9, [.ref a_x_costs, .ref a_r, .ref a_u, .ref a_q, .ref a_h, .ref a_f, .ref a_w, .ref a_o, .ref a_z, .ref a_g, .ref a_k])), (a_r, .inr (6, [.ref a_r_rows, .ref a_r_ins, .int r_size, .int r_n, .int r_parts])), (a_r_rows, .inl (c_r_rows, r_len, .inl r_rows))] → va_S A s.heap H locs → lv_has ls 2 [] → Z H locs 0 0 (F0 m 37 ls []) := by
    intro e2_1 he H locs ls hP hD hS hl
    subst he
    replace hs := sm_r hs
    refine hZv ?_
    refine lv_iconst (v := (-1)) hx hb dX9_twoByTwo_37 (by decide) ?_
    replace hs := Option.some.inj hs
    subst hs
    exact W.iret (v := (-1)) hx hb hr (fun t ht hW => ⟨⟨(-1), (), rfl, rfl, by rw [ht]; exact hP, va_K.moved hW.alike hK, hD⟩, hS.F ht⟩) hS.2.2 dX9_twoByTwo_38
  clear hs
  have hL2 : ∀ (n : Nat) (s2 : Int32) (H : Heap) (locs : List Loc) (ls : Array Slot), itr (pX9_twoByTwo_L2 r_len r_size r_parts r_rows) n s2 = some e2 → va_P (dC, dI) vwCl [(a_x, .inr (9, [.ref a_x_costs, .ref a_r, .ref a_u, .ref a_q, .ref a_h, .ref a_f, .ref a_w, .ref a_o, .ref a_z, .ref a_g, .ref a_k])), (a_r, .inr (6, [.ref a_r_rows, .ref a_r_ins, .int r_size, .int r_n, .int r_parts])), (a_r_rows, .inl (c_r_rows, r_len, .inl r_rows))] H → va_D A [(a_x, .inr (9, [.ref a_x_costs, .ref a_r, .ref a_u, .ref a_q, .ref a_h, .ref a_f, .ref a_w, .ref a_o, .ref a_z, .ref a_g, .ref a_k])), (a_r, .inr (6, [.ref a_r_rows, .ref a_r_ins, .int r_size, .int r_n, .int r_parts])), (a_r_rows, .inl (c_r_rows, r_len, .inl r_rows))] → va_S A s.heap H locs → lv_has ls 2 [(0, .ref a_x), (1, .int s2)] → Z H locs 0 0 (F0 m 2 ls []) := by
    intro n
    induction n with
    | zero =>
      intro s2 H locs ls hn
      exact (itr_0 hn).elim
    | succ n ih =>
      intro s2 H locs ls hn hP hD hS hl
      obtain ⟨y1, hs, hn⟩ := itr_s hn
      unfold pX9_twoByTwo_L2 at hs
      refine hZv ?_
      refine lv_iload_n hx hb dX9_twoByTwo_2 rfl (lv_at hl 1 rfl) ?_
      refine lv_aload_n hx hb dX9_twoByTwo_3 rfl (lv_at hl 0 rfl) ?_
      refine va_get (D := (dC, dI)) (ci := 9) (v := .ref a_r) (C := RX9) (T := TX9) (N := 11) hx hb hts hiX9 hown hK hP 0 rfl rfl 1 (by decide) hf23 (fun _ h9 => h9) rfl dX9_twoByTwo_4 ?_
      refine va_get (D := (dC, dI)) (ci := 6) (v := .int r_parts) (C := RX6) (T := TX6) (N := 5) hx hb hts hiX6 hown hK hP 1 rfl rfl 4 (by decide) hf117 (fun _ h9 => h9) rfl dX9_twoByTwo_7 ?_
      refine lv_icmp_ge (tgt := 37) hx hb dX9_twoByTwo_10 (by decide) (fun hc => ?_) (fun hc => ?_)
      · replace hs := it_t hc hs
        replace hs := Option.some.inj hs
        subst hs
        obtain rfl : (Sum.inr ()) = e2 := hn
        exact hZw (hX2_1 () rfl H locs ls hP hD hS (lv_sub hl [] rfl))
      · replace hs := it_f hc hs
        refine lv_iload_n hx hb dX9_twoByTwo_13 rfl (lv_at hl 1 rfl) ?_
        obtain ⟨r2, hr2, hs⟩ := bd_s hs
        refine kc_i (isC := []) (isR := [0, 1, 2]) (pm := [0, 1, 2]) (wr := [(a_x, .inr (9, [.ref a_x_costs, .ref a_r, .ref a_u, .ref a_q, .ref a_h, .ref a_f, .ref a_w, .ref a_o, .ref a_z, .ref a_g, .ref a_k])), (a_r, .inr (6, [.ref a_r_rows, .ref a_r_ins, .int r_size, .int r_n, .int r_parts])), (a_r_rows, .inl (c_r_rows, r_len, .inl r_rows))]) (w1 := []) (w2 := [(a_x, .inr (9, [.ref a_x_costs, .ref a_r, .ref a_u, .ref a_q, .ref a_h, .ref a_f, .ref a_w, .ref a_o, .ref a_z, .ref a_g, .ref a_k])), (a_r, .inr (6, [.ref a_r_rows, .ref a_r_ins, .int r_size, .int r_n, .int r_parts])), (a_r_rows, .inl (c_r_rows, r_len, .inl r_rows))]) (va_runS (As := [.int s2]) (rest := []) ⟨hx, hb, hml, hown, hts⟩ (c_J6_bitCount_0f7a4 l dC dI H.size s2 r2 hr2) (va_cwS 1 hts gX9_twoByTwo_J6_bitCount_0f7a4 rfl rfl rfl (by decide +kernel) ⟨Nat.le_of_ble_eq_true rfl, Nat.le_of_ble_eq_true rfl⟩) (kp_S hK hP hD hS hA hN (isC := []) (isT := []) (wc := []) rfl (by decide +kernel) rfl) rfl rfl hl.1 rfl (lv_room (Nat.le_of_ble_eq_true rfl)) dX9_twoByTwo_14 ⟨Nat.le_of_ble_eq_true rfl, Nat.le_of_ble_eq_true rfl⟩) hP hD hS hA rfl rfl (by decide +kernel) (by decide +kernel) rfl (by decide +kernel) (fun H locs hP hD hS => ?_)
        refine lv_iconst (v := 3) hx hb dX9_twoByTwo_17 (by decide) ?_
        refine lv_icmp_ne (tgt := 31) hx hb dX9_twoByTwo_18 (by decide) (fun hc => ?_) (fun hc => ?_)
        · replace hs := it_f hc hs
          refine lv_iinc (v := s2 + 1) (lv' := [(1, .int (s2 + 1)), (0, .ref a_x)]) hx hb dX9_twoByTwo_31 hl (k := 1) rfl (by rfl) (by decide) rfl (fun ls hl => ?_)
          refine lv_goto (tgt := 2) hx hb dX9_twoByTwo_34 (by decide) ?_
          replace hs := Option.some.inj hs
          subst hs
          exact hZw (ih (s2 + 1) H locs ls hn hP hD hS (lv_sub hl [1, 0] rfl))
        · replace hs := it_t hc hs
          refine lv_aload_n hx hb dX9_twoByTwo_21 rfl (lv_at hl 0 rfl) ?_
          refine lv_iload_n hx hb dX9_twoByTwo_22 rfl (lv_at hl 1 rfl) ?_
          obtain ⟨r3, hr3, hs⟩ := bd_s hs
          refine kc_i (isC := [0, 1, 2]) (isR := []) (pm := [0, 1, 2]) (wr := []) (w1 := [(a_x, .inr (9, [.ref a_x_costs, .ref a_r, .ref a_u, .ref a_q, .ref a_h, .ref a_f, .ref a_w, .ref a_o, .ref a_z, .ref a_g, .ref a_k])), (a_r, .inr (6, [.ref a_r_rows, .ref a_r_ins, .int r_size, .int r_n, .int r_parts])), (a_r_rows, .inl (c_r_rows, r_len, .inl r_rows))]) (w2 := [(a_x, .inr (9, [.ref a_x_costs, .ref a_r, .ref a_u, .ref a_q, .ref a_h, .ref a_f, .ref a_w, .ref a_o, .ref a_z, .ref a_g, .ref a_k])), (a_r, .inr (6, [.ref a_r_rows, .ref a_r_ins, .int r_size, .int r_n, .int r_parts])), (a_r_rows, .inl (c_r_rows, r_len, .inl r_rows))]) (va_runV (As := [.int s2]) (rest := []) ⟨hx, hb, hml, hown, hts⟩ (c_X9_nothingInCommon l dC dI a_x a_x_costs a_r a_r_rows a_r_ins a_u a_q a_h a_f a_w a_o a_z a_g a_k c_r_rows r_len H.size r_size r_n r_parts r_rows s2 r3 hr3) (cwV 1 hts gX9_twoByTwo_X9_nothingInCommon rfl rfl rfl (by decide +kernel) ⟨Nat.le_of_ble_eq_true rfl, Nat.le_of_ble_eq_true rfl⟩) (kp_V hK hP hD hS hA hN (isC := [0, 1, 2]) (isT := [0]) (wc := [(a_x, .inr (9, [.ref a_x_costs, .ref a_r, .ref a_u, .ref a_q, .ref a_h, .ref a_f, .ref a_w, .ref a_o, .ref a_z, .ref a_g, .ref a_k])), (a_r, .inr (6, [.ref a_r_rows, .ref a_r_ins, .int r_size, .int r_n, .int r_parts])), (a_r_rows, .inl (c_r_rows, r_len, .inl r_rows))]) rfl (by decide +kernel) rfl (ci := 9) (q0 := 0) rfl rfl) rfl rfl hl.1 rfl (lv_room (Nat.le_of_ble_eq_true rfl)) dX9_twoByTwo_23 ⟨Nat.le_of_ble_eq_true rfl, Nat.le_of_ble_eq_true rfl⟩) hP hD hS hA rfl rfl (by decide +kernel) (by decide +kernel) rfl (by decide +kernel) (fun H locs hP hD hS => ?_)
          refine lv_if_eq (tgt := 31) hx hb dX9_twoByTwo_26 (by decide) (fun hc => ?_) (fun hc => ?_)
          · replace hs := it_t hc hs
            refine lv_iinc (v := s2 + 1) (lv' := [(1, .int (s2 + 1)), (0, .ref a_x)]) hx hb dX9_twoByTwo_31 hl (k := 1) rfl (by rfl) (by decide) rfl (fun ls hl => ?_)
            refine lv_goto (tgt := 2) hx hb dX9_twoByTwo_34 (by decide) ?_
            replace hs := Option.some.inj hs
            subst hs
            exact hZw (ih (s2 + 1) H locs ls hn hP hD hS (lv_sub hl [1, 0] rfl))
          · replace hs := it_f hc hs
            replace hs := Option.some.inj hs
            subst hs
            obtain rfl : (Sum.inl s2) = e2 := hn
            exact hZw (hX2_0 s2 rfl H locs ls hP hD hS (lv_sub hl [1] rfl))
  obtain ⟨n2, hn2⟩ := lp_ex he2
  exact hZw (hL2 n2 0 H locs ls hn2 hP hD hS (lv_sub hl [1, 0] rfl))
noncomputable def pX9_game (r_n : Int32) (r_parts : Int32) (r_ins : Nat → Int32) (g_known : Nat → Int32) (p1 : Int32) (p2 : Int32) : Option (Int32 × (Nat → Int32)) :=
  Option.bind (pX9_isZeroOrOne p1) (fun r1 => if r1 = 0 then (some ((-2), g_known)) else (Option.bind (pX9_isZeroOrOne p2) (fun r2 => if r2 = 0 then (some ((-2), g_known)) else (Option.bind (pX5_winningMove r_n r_parts r_ins g_known p1) (fun r3 => if p2 = 1 then (some (r3.1, r3.2)) else (Option.bind (if p1 = 0 then (some 1) else (some 0) : Option (Int32)) (fun t42 => if r3.1 = (-1) then (some (t42, r3.2)) else (some (p1, r3.2)))))))))
set_option maxHeartbeats 4000000 in
set_option maxRecDepth 100000 in
theorem c_X9_game (l : Launch) (dC : Nat → ClassId) (dI : Nat → Nat → Nat) (a_x : Nat) (a_x_costs : Nat) (a_r : Nat) (a_r_rows : Nat) (a_r_ins : Nat) (a_u : Nat) (a_q : Nat) (a_h : Nat) (a_f : Nat) (a_w : Nat) (a_o : Nat) (a_z : Nat) (a_g : Nat) (a_g_known : Nat) (a_k : Nat) (c_r_ins c_g_known : ClassId) (sz : Nat) (r_size : Int32) (r_n : Int32) (r_parts : Int32) (r_ins : Nat → Int32) (g_known : Nat → Int32) (p1 : Int32) (p2 : Int32) (rv : Int32 × (Nat → Int32)) (hs : pX9_game r_n r_parts r_ins g_known p1 p2 = some rv) : Met l yX9_game wsX9_game ({ frames := 30, cells := 0, slots := 0, locals := 828 }) (sPc [.ref a_x, .int p1, .int p2] (dC, dI) [(c_r_ins, .int), (c_g_known, .int)] [(a_x, .inr (9, [.ref a_x_costs, .ref a_r, .ref a_u, .ref a_q, .ref a_h, .ref a_f, .ref a_w, .ref a_o, .ref a_z, .ref a_g, .ref a_k])), (a_r, .inr (6, [.ref a_r_rows, .ref a_r_ins, .int r_size, .int r_n, .int r_parts])), (a_r_ins, .inl (c_r_ins, 1024, .inl r_ins)), (a_g, .inr (5, [.ref a_r, .ref a_g_known])), (a_g_known, .inl (c_g_known, 3691, .inl g_known))] sz) (va_Qi (fun (r : Int32) (_ : Unit) => r = rv.1) (sB (dC, dI) [(c_r_ins, .int), (c_g_known, .int)] (va_A [(a_x, .inr (9, [.ref a_x_costs, .ref a_r, .ref a_u, .ref a_q, .ref a_h, .ref a_f, .ref a_w, .ref a_o, .ref a_z, .ref a_g, .ref a_k])), (a_r, .inr (6, [.ref a_r_rows, .ref a_r_ins, .int r_size, .int r_n, .int r_parts])), (a_r_ins, .inl (c_r_ins, 1024, .inl r_ins)), (a_g, .inr (5, [.ref a_r, .ref a_g_known])), (a_g_known, .inl (c_g_known, 3691, .inl g_known))] sz) [(a_x, .inr (9, [.ref a_x_costs, .ref a_r, .ref a_u, .ref a_q, .ref a_h, .ref a_f, .ref a_w, .ref a_o, .ref a_z, .ref a_g, .ref a_k])), (a_r, .inr (6, [.ref a_r_rows, .ref a_r_ins, .int r_size, .int r_n, .int r_parts])), (a_r_ins, .inl (c_r_ins, 1024, .inl r_ins)), (a_g, .inr (5, [.ref a_r, .ref a_g_known])), (a_g_known, .inl (c_g_known, 3691, .inl rv.2))]) (va_A [(a_x, .inr (9, [.ref a_x_costs, .ref a_r, .ref a_u, .ref a_q, .ref a_h, .ref a_f, .ref a_w, .ref a_o, .ref a_z, .ref a_g, .ref a_k])), (a_r, .inr (6, [.ref a_r_rows, .ref a_r_ins, .int r_size, .int r_n, .int r_parts])), (a_r_ins, .inl (c_r_ins, 1024, .inl r_ins)), (a_g, .inr (5, [.ref a_r, .ref a_g_known])), (a_g_known, .inl (c_g_known, 3691, .inl g_known))] sz)) 0 0 (va_A [(a_x, .inr (9, [.ref a_x_costs, .ref a_r, .ref a_u, .ref a_q, .ref a_h, .ref a_f, .ref a_w, .ref a_o, .ref a_z, .ref a_g, .ref a_k])), (a_r, .inr (6, [.ref a_r_rows, .ref a_r_ins, .int r_size, .int r_n, .int r_parts])), (a_r_ins, .inl (c_r_ins, 1024, .inl r_ins)), (a_g, .inr (5, [.ref a_r, .ref a_g_known])), (a_g_known, .inl (c_g_known, 3691, .inl g_known))] sz) := by
  refine Met.ofW (cc := cX9_game) (maxL := 5) (ret := (some .int)) (by decide) rfl ?_
  intro p e s m args below meth c s₁ B hml hv
  obtain ⟨rfl, hsz, hP, hK, hD0, hN⟩ := hv
  have hx := B.exec
  have hb := B.bytes
  have hr := B.returns
  have hts := atoms_spec (ws := wsX9_game) B.pre
  have hown : s.vm.findClass RX9 = some m.cls := findClass_of_methodNamed B.named
  have hlocks := B.notSynchronized
  subst hsz
  have hD := hD0.self (sz := s.heap.size)
  generalize hAe : va_A [(a_x, .inr (9, [.ref a_x_costs, .ref a_r, .ref a_u, .ref a_q, .ref a_h, .ref a_f, .ref a_w, .ref a_o, .ref a_z, .ref a_g, .ref a_k])), (a_r, .inr (6, [.ref a_r_rows, .ref a_r_ins, .int r_size, .int r_n, .int r_parts])), (a_r_ins, .inl (c_r_ins, 1024, .inl r_ins)), (a_g, .inr (5, [.ref a_r, .ref a_g_known])), (a_g_known, .inl (c_g_known, 3691, .inl g_known))] s.heap.size = A at hD hN ⊢
  have hA : ∀ q : Nat, s.heap.size ≤ q → A q := fun q h => by rw [← hAe]; exact Or.inr h
  have hS : va_S A s.heap s.heap [] := va_S.rf
  have hP : va_P (dC, dI) vwCl [(a_x, .inr (9, [.ref a_x_costs, .ref a_r, .ref a_u, .ref a_q, .ref a_h, .ref a_f, .ref a_w, .ref a_o, .ref a_z, .ref a_g, .ref a_k])), (a_r, .inr (6, [.ref a_r_rows, .ref a_r_ins, .int r_size, .int r_n, .int r_parts])), (a_r_ins, .inl (c_r_ins, 1024, .inl r_ins)), (a_g, .inr (5, [.ref a_r, .ref a_g_known])), (a_g_known, .inl (c_g_known, 3691, .inl g_known))] s.heap := hP
  have hl := lv_entry ([.ref a_x, .int p1, .int p2]) (n := 5) (Nat.le_of_ble_eq_true rfl)
  rw [lg_entry_eq]
  generalize (lg_sl ([.ref a_x, .int p1, .int p2]) ++ List.replicate (5 - (lg_sl ([.ref a_x, .int p1, .int p2])).length) Slot.unset).toArray = ls at hl ⊢
  have hl : lv_has ls 5 [(0, .ref a_x), (1, .int p1), (2, .int p2)] := hl
  have hiX9 : ∀ w ∈ wsX90, w ∈ wsX9_game := fun _ h => List.mem_cons_of_mem _ (List.mem_append_left _ (List.mem_append_left _ (List.mem_append_right _ h)))
  have hf77 := hts (.fieldLink RX9 77 "MeetSets" "match" "LMeetSets$Match;") (t1_ (al_ (al_ (al_ (al_ h1_)))))
  refine w_abs (fun Z hZv hZw => ?_)
  refine hZv ?_
  obtain ⟨H, hH⟩ : ∃ H, H = s.heap := ⟨_, rfl⟩
  obtain ⟨locs, hlo⟩ : ∃ L : List Loc, L = [] := ⟨_, rfl⟩
  rw [← hlo, ← hH]
  have hS : va_S A s.heap H locs := by rw [hlo, hH]; exact hS
  have hP : va_P (dC, dI) vwCl [(a_x, .inr (9, [.ref a_x_costs, .ref a_r, .ref a_u, .ref a_q, .ref a_h, .ref a_f, .ref a_w, .ref a_o, .ref a_z, .ref a_g, .ref a_k])), (a_r, .inr (6, [.ref a_r_rows, .ref a_r_ins, .int r_size, .int r_n, .int r_parts])), (a_r_ins, .inl (c_r_ins, 1024, .inl r_ins)), (a_g, .inr (5, [.ref a_r, .ref a_g_known])), (a_g_known, .inl (c_g_known, 3691, .inl g_known))] H := by rw [hH]; exact hP
  clear hH hlo
  unfold pX9_game at hs
  refine lv_iload_n hx hb dX9_game_0 rfl (lv_at hl 1 rfl) ?_
  obtain ⟨r1, hr1, hs⟩ := bd_s hs
  refine kc_i (isC := []) (isR := [0, 1, 2, 3, 4]) (pm := [0, 1, 2, 3, 4]) (wr := [(a_x, .inr (9, [.ref a_x_costs, .ref a_r, .ref a_u, .ref a_q, .ref a_h, .ref a_f, .ref a_w, .ref a_o, .ref a_z, .ref a_g, .ref a_k])), (a_r, .inr (6, [.ref a_r_rows, .ref a_r_ins, .int r_size, .int r_n, .int r_parts])), (a_r_ins, .inl (c_r_ins, 1024, .inl r_ins)), (a_g, .inr (5, [.ref a_r, .ref a_g_known])), (a_g_known, .inl (c_g_known, 3691, .inl g_known))]) (w1 := []) (w2 := [(a_x, .inr (9, [.ref a_x_costs, .ref a_r, .ref a_u, .ref a_q, .ref a_h, .ref a_f, .ref a_w, .ref a_o, .ref a_z, .ref a_g, .ref a_k])), (a_r, .inr (6, [.ref a_r_rows, .ref a_r_ins, .int r_size, .int r_n, .int r_parts])), (a_r_ins, .inl (c_r_ins, 1024, .inl r_ins)), (a_g, .inr (5, [.ref a_r, .ref a_g_known])), (a_g_known, .inl (c_g_known, 3691, .inl g_known))]) (va_runS (As := [.int p1]) (rest := []) ⟨hx, hb, hml, hown, hts⟩ (c_X9_isZeroOrOne l dC dI H.size p1 r1 hr1) (va_cwS 1 hts gX9_game_X9_isZeroOrOne rfl rfl rfl (by decide +kernel) ⟨Nat.le_of_ble_eq_true rfl, Nat.le_of_ble_eq_true rfl⟩) (kp_S hK hP hD hS hA hN (isC := []) (isT := []) (wc := []) rfl (by decide +kernel) rfl) rfl rfl hl.1 rfl (lv_room (Nat.le_of_ble_eq_true rfl)) dX9_game_1 ⟨Nat.le_of_ble_eq_true rfl, Nat.le_of_ble_eq_true rfl⟩) hP hD hS hA rfl rfl (by decide +kernel) (by decide +kernel) rfl (by decide +kernel) (fun H locs hP hD hS => ?_)
  refine lv_if_eq (tgt := 14) hx hb dX9_game_4 (by decide) (fun hc => ?_) (fun hc => ?_)
  · replace hs := it_t hc hs
    refine lv_bipush (v := (-2)) hx hb dX9_game_14 (by decide) ?_
    replace hs := Option.some.inj hs
    subst hs
    exact W.iret (v := (-2)) hx hb hr (fun t ht hW => ⟨⟨(-2), (), rfl, rfl, by rw [ht]; exact hP, va_K.moved hW.alike hK, hD⟩, hS.F ht⟩) hS.2.2 dX9_game_16
  · replace hs := it_f hc hs
    refine lv_iload_n hx hb dX9_game_7 rfl (lv_at hl 2 rfl) ?_
    obtain ⟨r2, hr2, hs⟩ := bd_s hs
    refine kc_i (isC := []) (isR := [0, 1, 2, 3, 4]) (pm := [0, 1, 2, 3, 4]) (wr := [(a_x, .inr (9, [.ref a_x_costs, .ref a_r, .ref a_u, .ref a_q, .ref a_h, .ref a_f, .ref a_w, .ref a_o, .ref a_z, .ref a_g, .ref a_k])), (a_r, .inr (6, [.ref a_r_rows, .ref a_r_ins, .int r_size, .int r_n, .int r_parts])), (a_r_ins, .inl (c_r_ins, 1024, .inl r_ins)), (a_g, .inr (5, [.ref a_r, .ref a_g_known])), (a_g_known, .inl (c_g_known, 3691, .inl g_known))]) (w1 := []) (w2 := [(a_x, .inr (9, [.ref a_x_costs, .ref a_r, .ref a_u, .ref a_q, .ref a_h, .ref a_f, .ref a_w, .ref a_o, .ref a_z, .ref a_g, .ref a_k])), (a_r, .inr (6, [.ref a_r_rows, .ref a_r_ins, .int r_size, .int r_n, .int r_parts])), (a_r_ins, .inl (c_r_ins, 1024, .inl r_ins)), (a_g, .inr (5, [.ref a_r, .ref a_g_known])), (a_g_known, .inl (c_g_known, 3691, .inl g_known))]) (va_runS (As := [.int p2]) (rest := []) ⟨hx, hb, hml, hown, hts⟩ (c_X9_isZeroOrOne l dC dI H.size p2 r2 hr2) (va_cwS 1 hts gX9_game_X9_isZeroOrOne rfl rfl rfl (by decide +kernel) ⟨Nat.le_of_ble_eq_true rfl, Nat.le_of_ble_eq_true rfl⟩) (kp_S hK hP hD hS hA hN (isC := []) (isT := []) (wc := []) rfl (by decide +kernel) rfl) rfl rfl hl.1 rfl (lv_room (Nat.le_of_ble_eq_true rfl)) dX9_game_8 ⟨Nat.le_of_ble_eq_true rfl, Nat.le_of_ble_eq_true rfl⟩) hP hD hS hA rfl rfl (by decide +kernel) (by decide +kernel) rfl (by decide +kernel) (fun H locs hP hD hS => ?_)
    refine lv_if_ne (tgt := 17) hx hb dX9_game_11 (by decide) (fun hc => ?_) (fun hc => ?_)
    · replace hs := it_f hc hs
      refine lv_aload_n hx hb dX9_game_17 rfl (lv_at hl 0 rfl) ?_
      refine va_get (D := (dC, dI)) (ci := 9) (v := .ref a_g) (C := RX9) (T := TX9) (N := 11) hx hb hts hiX9 hown hK hP 0 rfl rfl 9 (by decide) hf77 (fun _ h9 => h9) rfl dX9_game_18 ?_
      refine lv_iload_n hx hb dX9_game_21 rfl (lv_at hl 1 rfl) ?_
      obtain ⟨r3, hr3, hs⟩ := bd_s hs
      refine kc_i (isC := [1, 2, 3, 4]) (isR := [0]) (pm := [0, 1, 2, 3, 4]) (wr := [(a_x, .inr (9, [.ref a_x_costs, .ref a_r, .ref a_u, .ref a_q, .ref a_h, .ref a_f, .ref a_w, .ref a_o, .ref a_z, .ref a_g, .ref a_k]))]) (w1 := [(a_r, .inr (6, [.ref a_r_rows, .ref a_r_ins, .int r_size, .int r_n, .int r_parts])), (a_r_ins, .inl (c_r_ins, 1024, .inl r_ins)), (a_g, .inr (5, [.ref a_r, .ref a_g_known])), (a_g_known, .inl (c_g_known, 3691, .inl r3.2))]) (w2 := [(a_x, .inr (9, [.ref a_x_costs, .ref a_r, .ref a_u, .ref a_q, .ref a_h, .ref a_f, .ref a_w, .ref a_o, .ref a_z, .ref a_g, .ref a_k])), (a_r, .inr (6, [.ref a_r_rows, .ref a_r_ins, .int r_size, .int r_n, .int r_parts])), (a_r_ins, .inl (c_r_ins, 1024, .inl r_ins)), (a_g, .inr (5, [.ref a_r, .ref a_g_known])), (a_g_known, .inl (c_g_known, 3691, .inl r3.2))]) (va_runV (As := [.int p1]) (rest := []) ⟨hx, hb, hml, hown, hts⟩ (c_X5_winningMove l dC dI a_r a_r_rows a_r_ins a_g a_g_known c_r_ins c_g_known H.size r_size r_n r_parts r_ins g_known p1 r3 hr3) (cwV 1 hts gX9_game_X5_winningMove rfl rfl rfl (by decide +kernel) ⟨Nat.le_of_ble_eq_true rfl, Nat.le_of_ble_eq_true rfl⟩) (kp_V hK hP hD hS hA hN (isC := [1, 2, 3, 4]) (isT := [0, 1]) (wc := [(a_r, .inr (6, [.ref a_r_rows, .ref a_r_ins, .int r_size, .int r_n, .int r_parts])), (a_r_ins, .inl (c_r_ins, 1024, .inl r_ins)), (a_g, .inr (5, [.ref a_r, .ref a_g_known])), (a_g_known, .inl (c_g_known, 3691, .inl g_known))]) rfl (by decide +kernel) rfl (ci := 5) (q0 := 2) rfl rfl) rfl rfl hl.1 rfl (lv_room (Nat.le_of_ble_eq_true rfl)) dX9_game_22 ⟨Nat.le_of_ble_eq_true rfl, Nat.le_of_ble_eq_true rfl⟩) hP hD hS hA rfl rfl (by decide +kernel) (by decide +kernel) rfl (by decide +kernel) (fun H locs hP hD hS => ?_)
      refine lv_istore_n (lv' := [(3, .int r3.1), (0, .ref a_x), (1, .int p1), (2, .int p2)]) hx hb dX9_game_25 rfl hl (by decide) rfl (fun ls hl => ?_)
      refine lv_iload_n hx hb dX9_game_26 rfl (lv_at hl 3 rfl) ?_
      refine lv_iconst (v := 1) hx hb dX9_game_27 (by decide) ?_
      refine lv_icmp_ne (tgt := 33) hx hb dX9_game_28 (by decide) (fun hc => ?_) (fun hc => ?_)
      · replace hs := it_f hc hs
        refine lv_iload_n hx hb dX9_game_33 rfl (lv_at hl 2 rfl) ?_
        obtain ⟨t42, hq42, hs⟩ := bd_s hs
        have hJ42 : ∀ (H : Heap) (locs : List Loc) (ls : Array Slot), va_P (dC, dI) vwCl [(a_x, .inr (9, [.ref a_x_costs, .ref a_r, .ref a_u, .ref a_q, .ref a_h, .ref a_f, .ref a_w, .ref a_o, .ref a_z, .ref a_g, .ref a_k])), (a_r, .inr (6, [.ref a_r_rows, .ref a_r_ins, .int r_size, .int r_n, .int r_parts])), (a_r_ins, .inl (c_r_ins, 1024, .inl r_ins)), (a_g, .inr (5, [.ref a_r, .ref a_g_known])), (a_g_known, .inl (c_g_known, 3691, .inl r3.2))] H → va_D A [(a_x, .inr (9, [.ref a_x_costs, .ref a_r, .ref a_u, .ref a_q, .ref a_h, .ref a_f, .ref a_w, .ref a_o, .ref a_z, .ref a_g, .ref a_k])), (a_r, .inr (6, [.ref a_r_rows, .ref a_r_ins, .int r_size, .int r_n, .int r_parts])), (a_r_ins, .inl (c_r_ins, 1024, .inl r_ins)), (a_g, .inr (5, [.ref a_r, .ref a_g_known])), (a_g_known, .inl (c_g_known, 3691, .inl r3.2))] → va_S A s.heap H locs → lv_has ls 5 [(1, .int p1), (3, .int r3.1)] → Z H locs 0 0 (F0 m 42 ls [.int t42]) := by
          intro H locs ls hP hD hS hl
          refine hZv ?_
          refine lv_istore (lv' := [(4, .int t42), (1, .int p1), (3, .int r3.1)]) hx hb dX9_game_42 hl (by decide) rfl (fun ls hl => ?_)
          refine lv_iload_n hx hb dX9_game_44 rfl (lv_at hl 2 rfl) ?_
          refine lv_iconst (v := (-1)) hx hb dX9_game_45 (by decide) ?_
          refine lv_icmp_ne (tgt := 54) hx hb dX9_game_46 (by decide) (fun hc => ?_) (fun hc => ?_)
          · replace hs := it_f hc hs
            refine lv_iload_n hx hb dX9_game_54 rfl (lv_at hl 1 rfl) ?_
            replace hs := Option.some.inj hs
            subst hs
            exact W.iret (v := p1) hx hb hr (fun t ht hW => ⟨⟨p1, (), rfl, rfl, by rw [ht]; exact hP, va_K.moved hW.alike hK, hD⟩, hS.F ht⟩) hS.2.2 dX9_game_55
          · replace hs := it_t hc hs
            refine lv_iload hx hb dX9_game_49 (lv_at hl 0 rfl) ?_
            refine lv_goto (tgt := 55) hx hb dX9_game_51 (by decide) ?_
            replace hs := Option.some.inj hs
            subst hs
            exact W.iret (v := t42) hx hb hr (fun t ht hW => ⟨⟨t42, (), rfl, rfl, by rw [ht]; exact hP, va_K.moved hW.alike hK, hD⟩, hS.F ht⟩) hS.2.2 dX9_game_55
        clear hs
        have hs := hq42
        refine lv_if_ne (tgt := 41) hx hb dX9_game_34 (by decide) (fun hc => ?_) (fun hc => ?_)
        · replace hs := it_f hc hs
          refine lv_iconst (v := 0) hx hb dX9_game_41 (by decide) ?_
          replace hs := Option.some.inj hs
          subst hs
          exact hZw (hJ42 H locs ls hP hD hS (lv_sub hl [2, 0] rfl))
        · replace hs := it_t hc hs
          refine lv_iconst (v := 1) hx hb dX9_game_37 (by decide) ?_
          refine lv_goto (tgt := 42) hx hb dX9_game_38 (by decide) ?_
          replace hs := Option.some.inj hs
          subst hs
          exact hZw (hJ42 H locs ls hP hD hS (lv_sub hl [2, 0] rfl))
      · replace hs := it_t hc hs
        refine lv_iload_n hx hb dX9_game_31 rfl (lv_at hl 0 rfl) ?_
        replace hs := Option.some.inj hs
        subst hs
        exact W.iret (v := r3.1) hx hb hr (fun t ht hW => ⟨⟨r3.1, (), rfl, rfl, by rw [ht]; exact hP, va_K.moved hW.alike hK, hD⟩, hS.F ht⟩) hS.2.2 dX9_game_32
    · replace hs := it_t hc hs
      refine lv_bipush (v := (-2)) hx hb dX9_game_14 (by decide) ?_
      replace hs := Option.some.inj hs
      subst hs
      exact W.iret (v := (-2)) hx hb hr (fun t ht hW => ⟨⟨(-2), (), rfl, rfl, by rw [ht]; exact hP, va_K.moved hW.alike hK, hD⟩, hS.F ht⟩) hS.2.2 dX9_game_16
noncomputable def pX9_chance_L28 (r_n : Int32) (r_parts : Int32) (r_ins : Nat → Int32) (p1 : Int32) (p2 : Int32) (s28 : Int64 × Int32) : Option ((Int64 × Int32) ⊕ (Int64)) :=
  if r_parts ≤ s28.2 then (some (Sum.inr s28.1)) else (Option.bind (pX6_isMeeter r_parts r_ins s28.2) (fun r2 => if r2 = 0 then (some (Sum.inl (s28.1, s28.2 + 1))) else (Option.bind (pJ6_bitCount_0f7a4 s28.2) (fun r3 => Option.bind (pX9_power p1 r3) (fun r4 => Option.bind (pX9_power (p2 - p1) (r_n - r3)) (fun r5 => some (Sum.inl (s28.1 + (r4 * r5), s28.2 + 1))))))))
noncomputable def pX9_chance (r_n : Int32) (r_parts : Int32) (r_ins : Nat → Int32) (q_above : Int64) (q_below : Int64) (p1 : Int32) (p2 : Int32) : Option (Int32 × Int64 × Int64) :=
  if p1 < 0 then (some ((-2), q_above, q_below)) else (if p2 < p1 then (some ((-2), q_above, q_below)) else (if p2 < 1 then (some ((-2), q_above, q_below)) else (if p2 ≤ 10 then (Option.bind (lp (pX9_chance_L28 r_n r_parts r_ins p1 p2) (0, 0)) (fun e28 => Option.bind (pX9_power p2 r_n) (fun r6 => Option.bind (pX4_become q_above q_below e28 r6) (fun r7 => some (1, r7.1, r7.2))))) else (some ((-2), q_above, q_below)))))
set_option maxHeartbeats 4000000 in
set_option maxRecDepth 100000 in
theorem c_X9_chance (l : Launch) (dC : Nat → ClassId) (dI : Nat → Nat → Nat) (a_x : Nat) (a_x_costs : Nat) (a_r : Nat) (a_r_rows : Nat) (a_r_ins : Nat) (a_u : Nat) (a_q : Nat) (a_h : Nat) (a_f : Nat) (a_w : Nat) (a_o : Nat) (a_z : Nat) (a_g : Nat) (a_k : Nat) (c_r_ins : ClassId) (sz : Nat) (r_size : Int32) (r_n : Int32) (r_parts : Int32) (r_ins : Nat → Int32) (q_above : Int64) (q_below : Int64) (p1 : Int32) (p2 : Int32) (rv : Int32 × Int64 × Int64) (hs : pX9_chance r_n r_parts r_ins q_above q_below p1 p2 = some rv) : Met l yX9_chance wsX9_chance ({ frames := 2, cells := 0, slots := 0, locals := 56 }) (sPc [.ref a_x, .int p1, .int p2] (dC, dI) [(c_r_ins, .int)] [(a_x, .inr (9, [.ref a_x_costs, .ref a_r, .ref a_u, .ref a_q, .ref a_h, .ref a_f, .ref a_w, .ref a_o, .ref a_z, .ref a_g, .ref a_k])), (a_r, .inr (6, [.ref a_r_rows, .ref a_r_ins, .int r_size, .int r_n, .int r_parts])), (a_r_ins, .inl (c_r_ins, 1024, .inl r_ins)), (a_q, .inr (4, [.long q_above, .long q_below]))] sz) (va_Qi (fun (r : Int32) (_ : Unit) => r = rv.1) (sB (dC, dI) [(c_r_ins, .int)] (va_A [(a_x, .inr (9, [.ref a_x_costs, .ref a_r, .ref a_u, .ref a_q, .ref a_h, .ref a_f, .ref a_w, .ref a_o, .ref a_z, .ref a_g, .ref a_k])), (a_r, .inr (6, [.ref a_r_rows, .ref a_r_ins, .int r_size, .int r_n, .int r_parts])), (a_r_ins, .inl (c_r_ins, 1024, .inl r_ins)), (a_q, .inr (4, [.long q_above, .long q_below]))] sz) [(a_x, .inr (9, [.ref a_x_costs, .ref a_r, .ref a_u, .ref a_q, .ref a_h, .ref a_f, .ref a_w, .ref a_o, .ref a_z, .ref a_g, .ref a_k])), (a_r, .inr (6, [.ref a_r_rows, .ref a_r_ins, .int r_size, .int r_n, .int r_parts])), (a_r_ins, .inl (c_r_ins, 1024, .inl r_ins)), (a_q, .inr (4, [.long rv.2.1, .long rv.2.2]))]) (va_A [(a_x, .inr (9, [.ref a_x_costs, .ref a_r, .ref a_u, .ref a_q, .ref a_h, .ref a_f, .ref a_w, .ref a_o, .ref a_z, .ref a_g, .ref a_k])), (a_r, .inr (6, [.ref a_r_rows, .ref a_r_ins, .int r_size, .int r_n, .int r_parts])), (a_r_ins, .inl (c_r_ins, 1024, .inl r_ins)), (a_q, .inr (4, [.long q_above, .long q_below]))] sz)) 0 0 (va_A [(a_x, .inr (9, [.ref a_x_costs, .ref a_r, .ref a_u, .ref a_q, .ref a_h, .ref a_f, .ref a_w, .ref a_o, .ref a_z, .ref a_g, .ref a_k])), (a_r, .inr (6, [.ref a_r_rows, .ref a_r_ins, .int r_size, .int r_n, .int r_parts])), (a_r_ins, .inl (c_r_ins, 1024, .inl r_ins)), (a_q, .inr (4, [.long q_above, .long q_below]))] sz) := by
  refine Met.ofW (cc := cX9_chance) (maxL := 7) (ret := (some .int)) (by decide) rfl ?_
  intro p e s m args below meth c s₁ B hml hv
  obtain ⟨rfl, hsz, hP, hK, hD0, hN⟩ := hv
  have hx := B.exec
  have hb := B.bytes
  have hr := B.returns
  have hts := atoms_spec (ws := wsX9_chance) B.pre
  have hown : s.vm.findClass RX9 = some m.cls := findClass_of_methodNamed B.named
  have hlocks := B.notSynchronized
  subst hsz
  have hD := hD0.self (sz := s.heap.size)
  generalize hAe : va_A [(a_x, .inr (9, [.ref a_x_costs, .ref a_r, .ref a_u, .ref a_q, .ref a_h, .ref a_f, .ref a_w, .ref a_o, .ref a_z, .ref a_g, .ref a_k])), (a_r, .inr (6, [.ref a_r_rows, .ref a_r_ins, .int r_size, .int r_n, .int r_parts])), (a_r_ins, .inl (c_r_ins, 1024, .inl r_ins)), (a_q, .inr (4, [.long q_above, .long q_below]))] s.heap.size = A at hD hN ⊢
  have hA : ∀ q : Nat, s.heap.size ≤ q → A q := fun q h => by rw [← hAe]; exact Or.inr h
  have hS : va_S A s.heap s.heap [] := va_S.rf
  have hP : va_P (dC, dI) vwCl [(a_x, .inr (9, [.ref a_x_costs, .ref a_r, .ref a_u, .ref a_q, .ref a_h, .ref a_f, .ref a_w, .ref a_o, .ref a_z, .ref a_g, .ref a_k])), (a_r, .inr (6, [.ref a_r_rows, .ref a_r_ins, .int r_size, .int r_n, .int r_parts])), (a_r_ins, .inl (c_r_ins, 1024, .inl r_ins)), (a_q, .inr (4, [.long q_above, .long q_below]))] s.heap := hP
  have hl := lv_entry ([.ref a_x, .int p1, .int p2]) (n := 7) (Nat.le_of_ble_eq_true rfl)
  rw [lg_entry_eq]
  generalize (lg_sl ([.ref a_x, .int p1, .int p2]) ++ List.replicate (7 - (lg_sl ([.ref a_x, .int p1, .int p2])).length) Slot.unset).toArray = ls at hl ⊢
  have hl : lv_has ls 7 [(0, .ref a_x), (1, .int p1), (2, .int p2)] := hl
  have hiX9 : ∀ w ∈ wsX90, w ∈ wsX9_chance := fun _ h => List.mem_cons_of_mem _ (List.mem_append_left _ (List.mem_append_left _ (List.mem_append_right _ h)))
  have hf23 := hts (.fieldLink RX9 23 "MeetSets" "list" "LMeetSets$SetRow;") (t1_ (al_ (al_ (al_ (al_ h1_)))))
  have hiX6 : ∀ w ∈ wsX60, w ∈ wsX9_chance := fun _ h => List.mem_cons_of_mem _ (List.mem_append_left _ (List.mem_append_right _ h))
  have hf117 := hts (.fieldLink RX9 117 "MeetSets$SetRow" "parts" "I") (t1_ (al_ (al_ (al_ (al_ (t1_ h1_))))))
  have hf138 := hts (.fieldLink RX9 138 "MeetSets$SetRow" "n" "I") (t1_ (al_ (al_ (al_ (al_ (t1_ (t1_ h1_)))))))
  have hf33 := hts (.fieldLink RX9 33 "MeetSets" "fraction" "LMeetSets$Fraction;") (t1_ (al_ (al_ (al_ (al_ (t1_ (t1_ (t1_ h1_))))))))
  refine w_abs (fun Z hZv hZw => ?_)
  refine hZv ?_
  obtain ⟨H, hH⟩ : ∃ H, H = s.heap := ⟨_, rfl⟩
  obtain ⟨locs, hlo⟩ : ∃ L : List Loc, L = [] := ⟨_, rfl⟩
  rw [← hlo, ← hH]
  have hS : va_S A s.heap H locs := by rw [hlo, hH]; exact hS
  have hP : va_P (dC, dI) vwCl [(a_x, .inr (9, [.ref a_x_costs, .ref a_r, .ref a_u, .ref a_q, .ref a_h, .ref a_f, .ref a_w, .ref a_o, .ref a_z, .ref a_g, .ref a_k])), (a_r, .inr (6, [.ref a_r_rows, .ref a_r_ins, .int r_size, .int r_n, .int r_parts])), (a_r_ins, .inl (c_r_ins, 1024, .inl r_ins)), (a_q, .inr (4, [.long q_above, .long q_below]))] H := by rw [hH]; exact hP
  clear hH hlo
  unfold pX9_chance at hs
  refine lv_iload_n hx hb dX9_chance_0 rfl (lv_at hl 1 rfl) ?_
  refine lv_if_lt (tgt := 20) hx hb dX9_chance_1 (by decide) (fun hc => ?_) (fun hc => ?_)
  · replace hs := it_t hc hs
    refine lv_bipush (v := (-2)) hx hb dX9_chance_20 (by decide) ?_
    replace hs := Option.some.inj hs
    subst hs
    exact W.iret (v := (-2)) hx hb hr (fun t ht hW => ⟨⟨(-2), (), rfl, rfl, by rw [ht]; exact hP, va_K.moved hW.alike hK, hD⟩, hS.F ht⟩) hS.2.2 dX9_chance_22
  · replace hs := it_f hc hs
    refine lv_iload_n hx hb dX9_chance_4 rfl (lv_at hl 1 rfl) ?_
    refine lv_iload_n hx hb dX9_chance_5 rfl (lv_at hl 2 rfl) ?_
    refine lv_icmp_gt (tgt := 20) hx hb dX9_chance_6 (by decide) (fun hc => ?_) (fun hc => ?_)
    · replace hs := it_t hc hs
      refine lv_bipush (v := (-2)) hx hb dX9_chance_20 (by decide) ?_
      replace hs := Option.some.inj hs
      subst hs
      exact W.iret (v := (-2)) hx hb hr (fun t ht hW => ⟨⟨(-2), (), rfl, rfl, by rw [ht]; exact hP, va_K.moved hW.alike hK, hD⟩, hS.F ht⟩) hS.2.2 dX9_chance_22
    · replace hs := it_f hc hs
      refine lv_iload_n hx hb dX9_chance_9 rfl (lv_at hl 2 rfl) ?_
      refine lv_iconst (v := 1) hx hb dX9_chance_10 (by decide) ?_
      refine lv_icmp_lt (tgt := 20) hx hb dX9_chance_11 (by decide) (fun hc => ?_) (fun hc => ?_)
      · replace hs := it_t hc hs
        refine lv_bipush (v := (-2)) hx hb dX9_chance_20 (by decide) ?_
        replace hs := Option.some.inj hs
        subst hs
        exact W.iret (v := (-2)) hx hb hr (fun t ht hW => ⟨⟨(-2), (), rfl, rfl, by rw [ht]; exact hP, va_K.moved hW.alike hK, hD⟩, hS.F ht⟩) hS.2.2 dX9_chance_22
      · replace hs := it_f hc hs
        refine lv_iload_n hx hb dX9_chance_14 rfl (lv_at hl 2 rfl) ?_
        refine lv_bipush (v := 10) hx hb dX9_chance_15 (by decide) ?_
        refine lv_icmp_le (tgt := 23) hx hb dX9_chance_17 (by decide) (fun hc => ?_) (fun hc => ?_)
        · replace hs := it_t hc hs
          refine lv_lconst (v := 0) hx hb dX9_chance_23 (by decide) ?_
          refine lv_lstore_n (lv' := [(3, .long 0), (0, .ref a_x), (1, .int p1), (2, .int p2)]) hx hb dX9_chance_24 rfl hl (by decide) rfl (fun ls hl => ?_)
          refine lv_iconst (v := 0) hx hb dX9_chance_25 (by decide) ?_
          refine lv_istore (lv' := [(5, .int 0), (3, .long 0), (0, .ref a_x), (1, .int p1), (2, .int p2)]) hx hb dX9_chance_26 hl (by decide) rfl (fun ls hl => ?_)
          obtain ⟨e28, he28, hs⟩ := bd_s hs
          have hX28 : ∀ (H : Heap) (locs : List Loc) (ls : Array Slot), va_P (dC, dI) vwCl [(a_x, .inr (9, [.ref a_x_costs, .ref a_r, .ref a_u, .ref a_q, .ref a_h, .ref a_f, .ref a_w, .ref a_o, .ref a_z, .ref a_g, .ref a_k])), (a_r, .inr (6, [.ref a_r_rows, .ref a_r_ins, .int r_size, .int r_n, .int r_parts])), (a_r_ins, .inl (c_r_ins, 1024, .inl r_ins)), (a_q, .inr (4, [.long q_above, .long q_below]))] H → va_D A [(a_x, .inr (9, [.ref a_x_costs, .ref a_r, .ref a_u, .ref a_q, .ref a_h, .ref a_f, .ref a_w, .ref a_o, .ref a_z, .ref a_g, .ref a_k])), (a_r, .inr (6, [.ref a_r_rows, .ref a_r_ins, .int r_size, .int r_n, .int r_parts])), (a_r_ins, .inl (c_r_ins, 1024, .inl r_ins)), (a_q, .inr (4, [.long q_above, .long q_below]))] → va_S A s.heap H locs → lv_has ls 7 [(0, .ref a_x), (2, .int p2), (3, .long e28)] → Z H locs 0 0 (F0 m 91 ls []) := by
            intro H locs ls hP hD hS hl
            refine hZv ?_
            refine lv_aload_n hx hb dX9_chance_91 rfl (lv_at hl 0 rfl) ?_
            refine va_get (D := (dC, dI)) (ci := 9) (v := .ref a_q) (C := RX9) (T := TX9) (N := 11) hx hb hts hiX9 hown hK hP 0 rfl rfl 3 (by decide) hf33 (fun _ h9 => h9) rfl dX9_chance_92 ?_
            refine lv_lload_n hx hb dX9_chance_95 rfl (lv_at hl 2 rfl) ?_
            refine lv_iload_n hx hb dX9_chance_96 rfl (lv_at hl 1 rfl) ?_
            refine lv_aload_n hx hb dX9_chance_97 rfl (lv_at hl 0 rfl) ?_
            refine va_get (D := (dC, dI)) (ci := 9) (v := .ref a_r) (C := RX9) (T := TX9) (N := 11) hx hb hts hiX9 hown hK hP 0 rfl rfl 1 (by decide) hf23 (fun _ h9 => h9) rfl dX9_chance_98 ?_
            refine va_get (D := (dC, dI)) (ci := 6) (v := .int r_n) (C := RX6) (T := TX6) (N := 5) hx hb hts hiX6 hown hK hP 1 rfl rfl 3 (by decide) hf138 (fun _ h9 => h9) rfl dX9_chance_101 ?_
            obtain ⟨r6, hr6, hs⟩ := bd_s hs
            refine kc_l (isC := []) (isR := [0, 1, 2, 3]) (pm := [0, 1, 2, 3]) (wr := [(a_x, .inr (9, [.ref a_x_costs, .ref a_r, .ref a_u, .ref a_q, .ref a_h, .ref a_f, .ref a_w, .ref a_o, .ref a_z, .ref a_g, .ref a_k])), (a_r, .inr (6, [.ref a_r_rows, .ref a_r_ins, .int r_size, .int r_n, .int r_parts])), (a_r_ins, .inl (c_r_ins, 1024, .inl r_ins)), (a_q, .inr (4, [.long q_above, .long q_below]))]) (w1 := []) (w2 := [(a_x, .inr (9, [.ref a_x_costs, .ref a_r, .ref a_u, .ref a_q, .ref a_h, .ref a_f, .ref a_w, .ref a_o, .ref a_z, .ref a_g, .ref a_k])), (a_r, .inr (6, [.ref a_r_rows, .ref a_r_ins, .int r_size, .int r_n, .int r_parts])), (a_r_ins, .inl (c_r_ins, 1024, .inl r_ins)), (a_q, .inr (4, [.long q_above, .long q_below]))]) (va_runS (As := [.int p2, .int r_n]) (rest := [.long e28, .ref a_q]) ⟨hx, hb, hml, hown, hts⟩ (c_X9_power l dC dI H.size p2 r_n r6 hr6) (va_cwS 2 hts gX9_chance_X9_power rfl rfl rfl (by decide +kernel) ⟨Nat.le_of_ble_eq_true rfl, Nat.le_of_ble_eq_true rfl⟩) (kp_S hK hP hD hS hA hN (isC := []) (isT := []) (wc := []) rfl (by decide +kernel) rfl) rfl rfl hl.1 rfl (lv_room (Nat.le_of_ble_eq_true rfl)) dX9_chance_104 ⟨Nat.le_of_ble_eq_true rfl, Nat.le_of_ble_eq_true rfl⟩) hP hD hS hA rfl rfl (by decide +kernel) (by decide +kernel) rfl (by decide +kernel) (fun H locs hP hD hS => ?_)
            obtain ⟨r7, hr7, hs⟩ := bd_s hs
            refine kc_v (isC := [3]) (isR := [0, 1, 2]) (pm := [0, 1, 2, 3]) (wr := [(a_x, .inr (9, [.ref a_x_costs, .ref a_r, .ref a_u, .ref a_q, .ref a_h, .ref a_f, .ref a_w, .ref a_o, .ref a_z, .ref a_g, .ref a_k])), (a_r, .inr (6, [.ref a_r_rows, .ref a_r_ins, .int r_size, .int r_n, .int r_parts])), (a_r_ins, .inl (c_r_ins, 1024, .inl r_ins))]) (w1 := [(a_q, .inr (4, [.long r7.1, .long r7.2]))]) (w2 := [(a_x, .inr (9, [.ref a_x_costs, .ref a_r, .ref a_u, .ref a_q, .ref a_h, .ref a_f, .ref a_w, .ref a_o, .ref a_z, .ref a_g, .ref a_k])), (a_r, .inr (6, [.ref a_r_rows, .ref a_r_ins, .int r_size, .int r_n, .int r_parts])), (a_r_ins, .inl (c_r_ins, 1024, .inl r_ins)), (a_q, .inr (4, [.long r7.1, .long r7.2]))]) (va_runV (As := [.long e28, .long r6]) (rest := []) ⟨hx, hb, hml, hown, hts⟩ (c_X4_become l dC dI a_q H.size q_above q_below e28 r6 r7 hr7) (cwV 2 hts gX9_chance_X4_become rfl rfl rfl (by decide +kernel) ⟨Nat.le_of_ble_eq_true rfl, Nat.le_of_ble_eq_true rfl⟩) (kp_V hK hP hD hS hA hN (isC := [3]) (isT := []) (wc := [(a_q, .inr (4, [.long q_above, .long q_below]))]) rfl (by decide +kernel) rfl (ci := 4) (q0 := 0) rfl rfl) rfl rfl hl.1 rfl (lv_room (Nat.le_of_ble_eq_true rfl)) dX9_chance_107 ⟨Nat.le_of_ble_eq_true rfl, Nat.le_of_ble_eq_true rfl⟩) hP hD hS hA rfl rfl (by decide +kernel) (by decide +kernel) rfl (by decide +kernel) (fun H locs hP hD hS => ?_)
            refine lv_iconst (v := 1) hx hb dX9_chance_110 (by decide) ?_
            replace hs := Option.some.inj hs
            subst hs
            exact W.iret (v := 1) hx hb hr (fun t ht hW => ⟨⟨1, (), rfl, rfl, by rw [ht]; exact hP, va_K.moved hW.alike hK, hD⟩, hS.F ht⟩) hS.2.2 dX9_chance_111
          clear hs
          have hL28 : ∀ (n : Nat) (s28 : Int64 × Int32) (H : Heap) (locs : List Loc) (ls : Array Slot), itr (pX9_chance_L28 r_n r_parts r_ins p1 p2) n s28 = some e28 → va_P (dC, dI) vwCl [(a_x, .inr (9, [.ref a_x_costs, .ref a_r, .ref a_u, .ref a_q, .ref a_h, .ref a_f, .ref a_w, .ref a_o, .ref a_z, .ref a_g, .ref a_k])), (a_r, .inr (6, [.ref a_r_rows, .ref a_r_ins, .int r_size, .int r_n, .int r_parts])), (a_r_ins, .inl (c_r_ins, 1024, .inl r_ins)), (a_q, .inr (4, [.long q_above, .long q_below]))] H → va_D A [(a_x, .inr (9, [.ref a_x_costs, .ref a_r, .ref a_u, .ref a_q, .ref a_h, .ref a_f, .ref a_w, .ref a_o, .ref a_z, .ref a_g, .ref a_k])), (a_r, .inr (6, [.ref a_r_rows, .ref a_r_ins, .int r_size, .int r_n, .int r_parts])), (a_r_ins, .inl (c_r_ins, 1024, .inl r_ins)), (a_q, .inr (4, [.long q_above, .long q_below]))] → va_S A s.heap H locs → lv_has ls 7 [(0, .ref a_x), (1, .int p1), (2, .int p2), (3, .long s28.1), (5, .int s28.2)] → Z H locs 0 0 (F0 m 28 ls []) := by
            intro n
            induction n with
            | zero =>
              intro s28 H locs ls hn
              exact (itr_0 hn).elim
            | succ n ih =>
              intro s28 H locs ls hn hP hD hS hl
              obtain ⟨y1, hs, hn⟩ := itr_s hn
              unfold pX9_chance_L28 at hs
              refine hZv ?_
              refine lv_iload hx hb dX9_chance_28 (lv_at hl 4 rfl) ?_
              refine lv_aload_n hx hb dX9_chance_30 rfl (lv_at hl 0 rfl) ?_
              refine va_get (D := (dC, dI)) (ci := 9) (v := .ref a_r) (C := RX9) (T := TX9) (N := 11) hx hb hts hiX9 hown hK hP 0 rfl rfl 1 (by decide) hf23 (fun _ h9 => h9) rfl dX9_chance_31 ?_
              refine va_get (D := (dC, dI)) (ci := 6) (v := .int r_parts) (C := RX6) (T := TX6) (N := 5) hx hb hts hiX6 hown hK hP 1 rfl rfl 4 (by decide) hf117 (fun _ h9 => h9) rfl dX9_chance_34 ?_
              refine lv_icmp_ge (tgt := 91) hx hb dX9_chance_37 (by decide) (fun hc => ?_) (fun hc => ?_)
              · replace hs := it_t hc hs
                replace hs := Option.some.inj hs
                subst hs
                obtain rfl : s28.1 = e28 := hn
                exact hZw (hX28 H locs ls hP hD hS (lv_sub hl [0, 2, 3] rfl))
              · replace hs := it_f hc hs
                refine lv_aload_n hx hb dX9_chance_40 rfl (lv_at hl 0 rfl) ?_
                refine va_get (D := (dC, dI)) (ci := 9) (v := .ref a_r) (C := RX9) (T := TX9) (N := 11) hx hb hts hiX9 hown hK hP 0 rfl rfl 1 (by decide) hf23 (fun _ h9 => h9) rfl dX9_chance_41 ?_
                refine lv_iload hx hb dX9_chance_44 (lv_at hl 4 rfl) ?_
                obtain ⟨r2, hr2, hs⟩ := bd_s hs
                refine kc_i (isC := [1, 2]) (isR := [0, 3]) (pm := [0, 2, 3, 1]) (wr := [(a_x, .inr (9, [.ref a_x_costs, .ref a_r, .ref a_u, .ref a_q, .ref a_h, .ref a_f, .ref a_w, .ref a_o, .ref a_z, .ref a_g, .ref a_k])), (a_q, .inr (4, [.long q_above, .long q_below]))]) (w1 := [(a_r, .inr (6, [.ref a_r_rows, .ref a_r_ins, .int r_size, .int r_n, .int r_parts])), (a_r_ins, .inl (c_r_ins, 1024, .inl r_ins))]) (w2 := [(a_x, .inr (9, [.ref a_x_costs, .ref a_r, .ref a_u, .ref a_q, .ref a_h, .ref a_f, .ref a_w, .ref a_o, .ref a_z, .ref a_g, .ref a_k])), (a_r, .inr (6, [.ref a_r_rows, .ref a_r_ins, .int r_size, .int r_n, .int r_parts])), (a_r_ins, .inl (c_r_ins, 1024, .inl r_ins)), (a_q, .inr (4, [.long q_above, .long q_below]))]) (va_runV (As := [.int s28.2]) (rest := []) ⟨hx, hb, hml, hown, hts⟩ (c_X6_isMeeter l dC dI a_r a_r_rows a_r_ins c_r_ins H.size r_size r_n r_parts r_ins s28.2 r2 hr2) (cwV 1 hts gX9_chance_X6_isMeeter rfl rfl rfl (by decide +kernel) ⟨Nat.le_of_ble_eq_true rfl, Nat.le_of_ble_eq_true rfl⟩) (kp_V hK hP hD hS hA hN (isC := [1, 2]) (isT := [0]) (wc := [(a_r, .inr (6, [.ref a_r_rows, .ref a_r_ins, .int r_size, .int r_n, .int r_parts])), (a_r_ins, .inl (c_r_ins, 1024, .inl r_ins))]) rfl (by decide +kernel) rfl (ci := 6) (q0 := 0) rfl rfl) rfl rfl hl.1 rfl (lv_room (Nat.le_of_ble_eq_true rfl)) dX9_chance_46 ⟨Nat.le_of_ble_eq_true rfl, Nat.le_of_ble_eq_true rfl⟩) hP hD hS hA rfl rfl (by decide +kernel) (by decide +kernel) rfl (by decide +kernel) (fun H locs hP hD hS => ?_)
                refine lv_if_eq (tgt := 85) hx hb dX9_chance_49 (by decide) (fun hc => ?_) (fun hc => ?_)
                · replace hs := it_t hc hs
                  refine lv_iinc (v := s28.2 + 1) (lv' := [(5, .int (s28.2 + 1)), (0, .ref a_x), (1, .int p1), (2, .int p2), (3, .long s28.1)]) hx hb dX9_chance_85 hl (k := 4) rfl (by rfl) (by decide) rfl (fun ls hl => ?_)
                  refine lv_goto (tgt := 28) hx hb dX9_chance_88 (by decide) ?_
                  replace hs := Option.some.inj hs
                  subst hs
                  exact hZw (ih (s28.1, s28.2 + 1) H locs ls hn hP hD hS (lv_sub hl [1, 2, 3, 4, 0] rfl))
                · replace hs := it_f hc hs
                  refine lv_iload hx hb dX9_chance_52 (lv_at hl 4 rfl) ?_
                  obtain ⟨r3, hr3, hs⟩ := bd_s hs
                  refine kc_i (isC := []) (isR := [0, 1, 2, 3]) (pm := [0, 1, 2, 3]) (wr := [(a_x, .inr (9, [.ref a_x_costs, .ref a_r, .ref a_u, .ref a_q, .ref a_h, .ref a_f, .ref a_w, .ref a_o, .ref a_z, .ref a_g, .ref a_k])), (a_r, .inr (6, [.ref a_r_rows, .ref a_r_ins, .int r_size, .int r_n, .int r_parts])), (a_r_ins, .inl (c_r_ins, 1024, .inl r_ins)), (a_q, .inr (4, [.long q_above, .long q_below]))]) (w1 := []) (w2 := [(a_x, .inr (9, [.ref a_x_costs, .ref a_r, .ref a_u, .ref a_q, .ref a_h, .ref a_f, .ref a_w, .ref a_o, .ref a_z, .ref a_g, .ref a_k])), (a_r, .inr (6, [.ref a_r_rows, .ref a_r_ins, .int r_size, .int r_n, .int r_parts])), (a_r_ins, .inl (c_r_ins, 1024, .inl r_ins)), (a_q, .inr (4, [.long q_above, .long q_below]))]) (va_runS (As := [.int s28.2]) (rest := []) ⟨hx, hb, hml, hown, hts⟩ (c_J6_bitCount_0f7a4 l dC dI H.size s28.2 r3 hr3) (va_cwS 1 hts gX9_chance_J6_bitCount_0f7a4 rfl rfl rfl (by decide +kernel) ⟨Nat.le_of_ble_eq_true rfl, Nat.le_of_ble_eq_true rfl⟩) (kp_S hK hP hD hS hA hN (isC := []) (isT := []) (wc := []) rfl (by decide +kernel) rfl) rfl rfl hl.1 rfl (lv_room (Nat.le_of_ble_eq_true rfl)) dX9_chance_54 ⟨Nat.le_of_ble_eq_true rfl, Nat.le_of_ble_eq_true rfl⟩) hP hD hS hA rfl rfl (by decide +kernel) (by decide +kernel) rfl (by decide +kernel) (fun H locs hP hD hS => ?_)
                  refine lv_istore (lv' := [(6, .int r3), (0, .ref a_x), (1, .int p1), (2, .int p2), (3, .long s28.1), (5, .int s28.2)]) hx hb dX9_chance_57 hl (by decide) rfl (fun ls hl => ?_)
                  refine lv_lload_n hx hb dX9_chance_59 rfl (lv_at hl 4 rfl) ?_
                  refine lv_iload_n hx hb dX9_chance_60 rfl (lv_at hl 2 rfl) ?_
                  refine lv_iload hx hb dX9_chance_61 (lv_at hl 0 rfl) ?_
                  obtain ⟨r4, hr4, hs⟩ := bd_s hs
                  refine kc_l (isC := []) (isR := [0, 1, 2, 3]) (pm := [0, 1, 2, 3]) (wr := [(a_x, .inr (9, [.ref a_x_costs, .ref a_r, .ref a_u, .ref a_q, .ref a_h, .ref a_f, .ref a_w, .ref a_o, .ref a_z, .ref a_g, .ref a_k])), (a_r, .inr (6, [.ref a_r_rows, .ref a_r_ins, .int r_size, .int r_n, .int r_parts])), (a_r_ins, .inl (c_r_ins, 1024, .inl r_ins)), (a_q, .inr (4, [.long q_above, .long q_below]))]) (w1 := []) (w2 := [(a_x, .inr (9, [.ref a_x_costs, .ref a_r, .ref a_u, .ref a_q, .ref a_h, .ref a_f, .ref a_w, .ref a_o, .ref a_z, .ref a_g, .ref a_k])), (a_r, .inr (6, [.ref a_r_rows, .ref a_r_ins, .int r_size, .int r_n, .int r_parts])), (a_r_ins, .inl (c_r_ins, 1024, .inl r_ins)), (a_q, .inr (4, [.long q_above, .long q_below]))]) (va_runS (As := [.int p1, .int r3]) (rest := [.long s28.1]) ⟨hx, hb, hml, hown, hts⟩ (c_X9_power l dC dI H.size p1 r3 r4 hr4) (va_cwS 2 hts gX9_chance_X9_power rfl rfl rfl (by decide +kernel) ⟨Nat.le_of_ble_eq_true rfl, Nat.le_of_ble_eq_true rfl⟩) (kp_S hK hP hD hS hA hN (isC := []) (isT := []) (wc := []) rfl (by decide +kernel) rfl) rfl rfl hl.1 rfl (lv_room (Nat.le_of_ble_eq_true rfl)) dX9_chance_63 ⟨Nat.le_of_ble_eq_true rfl, Nat.le_of_ble_eq_true rfl⟩) hP hD hS hA rfl rfl (by decide +kernel) (by decide +kernel) rfl (by decide +kernel) (fun H locs hP hD hS => ?_)
                  refine lv_iload_n hx hb dX9_chance_66 rfl (lv_at hl 3 rfl) ?_
                  refine lv_iload_n hx hb dX9_chance_67 rfl (lv_at hl 2 rfl) ?_
                  refine lv_isub hx hb dX9_chance_68 ?_
                  refine lv_aload_n hx hb dX9_chance_69 rfl (lv_at hl 1 rfl) ?_
                  refine va_get (D := (dC, dI)) (ci := 9) (v := .ref a_r) (C := RX9) (T := TX9) (N := 11) hx hb hts hiX9 hown hK hP 0 rfl rfl 1 (by decide) hf23 (fun _ h9 => h9) rfl dX9_chance_70 ?_
                  refine va_get (D := (dC, dI)) (ci := 6) (v := .int r_n) (C := RX6) (T := TX6) (N := 5) hx hb hts hiX6 hown hK hP 1 rfl rfl 3 (by decide) hf138 (fun _ h9 => h9) rfl dX9_chance_73 ?_
                  refine lv_iload hx hb dX9_chance_76 (lv_at hl 0 rfl) ?_
                  refine lv_isub hx hb dX9_chance_78 ?_
                  obtain ⟨r5, hr5, hs⟩ := bd_s hs
                  refine kc_l (isC := []) (isR := [0, 1, 2, 3]) (pm := [0, 1, 2, 3]) (wr := [(a_x, .inr (9, [.ref a_x_costs, .ref a_r, .ref a_u, .ref a_q, .ref a_h, .ref a_f, .ref a_w, .ref a_o, .ref a_z, .ref a_g, .ref a_k])), (a_r, .inr (6, [.ref a_r_rows, .ref a_r_ins, .int r_size, .int r_n, .int r_parts])), (a_r_ins, .inl (c_r_ins, 1024, .inl r_ins)), (a_q, .inr (4, [.long q_above, .long q_below]))]) (w1 := []) (w2 := [(a_x, .inr (9, [.ref a_x_costs, .ref a_r, .ref a_u, .ref a_q, .ref a_h, .ref a_f, .ref a_w, .ref a_o, .ref a_z, .ref a_g, .ref a_k])), (a_r, .inr (6, [.ref a_r_rows, .ref a_r_ins, .int r_size, .int r_n, .int r_parts])), (a_r_ins, .inl (c_r_ins, 1024, .inl r_ins)), (a_q, .inr (4, [.long q_above, .long q_below]))]) (va_runS (As := [.int (p2 - p1), .int (r_n - r3)]) (rest := [.long r4, .long s28.1]) ⟨hx, hb, hml, hown, hts⟩ (c_X9_power l dC dI H.size (p2 - p1) (r_n - r3) r5 hr5) (va_cwS 2 hts gX9_chance_X9_power rfl rfl rfl (by decide +kernel) ⟨Nat.le_of_ble_eq_true rfl, Nat.le_of_ble_eq_true rfl⟩) (kp_S hK hP hD hS hA hN (isC := []) (isT := []) (wc := []) rfl (by decide +kernel) rfl) rfl rfl hl.1 rfl (lv_room (Nat.le_of_ble_eq_true rfl)) dX9_chance_79 ⟨Nat.le_of_ble_eq_true rfl, Nat.le_of_ble_eq_true rfl⟩) hP hD hS hA rfl rfl (by decide +kernel) (by decide +kernel) rfl (by decide +kernel) (fun H locs hP hD hS => ?_)
                  refine lv_lmul hx hb dX9_chance_82 ?_
                  refine lv_ladd hx hb dX9_chance_83 ?_
                  refine lv_lstore_n (lv' := [(3, .long (s28.1 + (r4 * r5))), (6, .int r3), (0, .ref a_x), (1, .int p1), (2, .int p2), (5, .int s28.2)]) hx hb dX9_chance_84 rfl hl (by decide) rfl (fun ls hl => ?_)
                  refine lv_iinc (v := s28.2 + 1) (lv' := [(5, .int (s28.2 + 1)), (3, .long (s28.1 + (r4 * r5))), (6, .int r3), (0, .ref a_x), (1, .int p1), (2, .int p2)]) hx hb dX9_chance_85 hl (k := 5) rfl (by rfl) (by decide) rfl (fun ls hl => ?_)
                  refine lv_goto (tgt := 28) hx hb dX9_chance_88 (by decide) ?_
                  replace hs := Option.some.inj hs
                  subst hs
                  exact hZw (ih (s28.1 + (r4 * r5), s28.2 + 1) H locs ls hn hP hD hS (lv_sub hl [3, 4, 5, 1, 0] rfl))
          obtain ⟨n28, hn28⟩ := lp_ex he28
          exact hZw (hL28 n28 (0, 0) H locs ls hn28 hP hD hS (lv_sub hl [2, 3, 4, 1, 0] rfl))
        · replace hs := it_f hc hs
          refine lv_bipush (v := (-2)) hx hb dX9_chance_20 (by decide) ?_
          replace hs := Option.some.inj hs
          subst hs
          exact W.iret (v := (-2)) hx hb hr (fun t ht hW => ⟨⟨(-2), (), rfl, rfl, by rw [ht]; exact hP, va_K.moved hW.alike hK, hD⟩, hS.F ht⟩) hS.2.2 dX9_chance_22
noncomputable def pX9_part (q_above : Int64) (q_below : Int64) (p1 : Int32) : Option (Int64) :=
  Option.bind (pX9_isZeroOrOne p1) (fun r1 => if r1 = 0 then (some (-1)) else (if p1 = 0 then (some q_above) else (some q_below)))
set_option maxHeartbeats 4000000 in
set_option maxRecDepth 100000 in
theorem c_X9_part (l : Launch) (dC : Nat → ClassId) (dI : Nat → Nat → Nat) (a_x : Nat) (a_x_costs : Nat) (a_r : Nat) (a_u : Nat) (a_q : Nat) (a_h : Nat) (a_f : Nat) (a_w : Nat) (a_o : Nat) (a_z : Nat) (a_g : Nat) (a_k : Nat) (sz : Nat) (q_above : Int64) (q_below : Int64) (p1 : Int32) (rv : Int64) (hs : pX9_part q_above q_below p1 = some rv) : Met l yX9_part wsX9_part ({ frames := 1, cells := 0, slots := 0, locals := 20 }) (sPc [.ref a_x, .int p1] (dC, dI) [] [(a_x, .inr (9, [.ref a_x_costs, .ref a_r, .ref a_u, .ref a_q, .ref a_h, .ref a_f, .ref a_w, .ref a_o, .ref a_z, .ref a_g, .ref a_k])), (a_q, .inr (4, [.long q_above, .long q_below]))] sz) (va_Ql (fun (r : Int64) (_ : Unit) => r = rv) (sB (dC, dI) [] (va_A [(a_x, .inr (9, [.ref a_x_costs, .ref a_r, .ref a_u, .ref a_q, .ref a_h, .ref a_f, .ref a_w, .ref a_o, .ref a_z, .ref a_g, .ref a_k])), (a_q, .inr (4, [.long q_above, .long q_below]))] sz) [(a_x, .inr (9, [.ref a_x_costs, .ref a_r, .ref a_u, .ref a_q, .ref a_h, .ref a_f, .ref a_w, .ref a_o, .ref a_z, .ref a_g, .ref a_k])), (a_q, .inr (4, [.long q_above, .long q_below]))]) (va_A [(a_x, .inr (9, [.ref a_x_costs, .ref a_r, .ref a_u, .ref a_q, .ref a_h, .ref a_f, .ref a_w, .ref a_o, .ref a_z, .ref a_g, .ref a_k])), (a_q, .inr (4, [.long q_above, .long q_below]))] sz)) 0 0 (va_A [(a_x, .inr (9, [.ref a_x_costs, .ref a_r, .ref a_u, .ref a_q, .ref a_h, .ref a_f, .ref a_w, .ref a_o, .ref a_z, .ref a_g, .ref a_k])), (a_q, .inr (4, [.long q_above, .long q_below]))] sz) := by
  refine Met.ofW (cc := cX9_part) (maxL := 2) (ret := (some .long)) (by decide) rfl ?_
  intro p e s m args below meth c s₁ B hml hv
  obtain ⟨rfl, hsz, hP, hK, hD0, hN⟩ := hv
  have hx := B.exec
  have hb := B.bytes
  have hr := B.returns
  have hts := atoms_spec (ws := wsX9_part) B.pre
  have hown : s.vm.findClass RX9 = some m.cls := findClass_of_methodNamed B.named
  have hlocks := B.notSynchronized
  subst hsz
  have hD := hD0.self (sz := s.heap.size)
  generalize hAe : va_A [(a_x, .inr (9, [.ref a_x_costs, .ref a_r, .ref a_u, .ref a_q, .ref a_h, .ref a_f, .ref a_w, .ref a_o, .ref a_z, .ref a_g, .ref a_k])), (a_q, .inr (4, [.long q_above, .long q_below]))] s.heap.size = A at hD hN ⊢
  have hA : ∀ q : Nat, s.heap.size ≤ q → A q := fun q h => by rw [← hAe]; exact Or.inr h
  have hS : va_S A s.heap s.heap [] := va_S.rf
  have hP : va_P (dC, dI) vwCl [(a_x, .inr (9, [.ref a_x_costs, .ref a_r, .ref a_u, .ref a_q, .ref a_h, .ref a_f, .ref a_w, .ref a_o, .ref a_z, .ref a_g, .ref a_k])), (a_q, .inr (4, [.long q_above, .long q_below]))] s.heap := hP
  have hl := lv_entry ([.ref a_x, .int p1]) (n := 2) (Nat.le_of_ble_eq_true rfl)
  rw [lg_entry_eq]
  generalize (lg_sl ([.ref a_x, .int p1]) ++ List.replicate (2 - (lg_sl ([.ref a_x, .int p1])).length) Slot.unset).toArray = ls at hl ⊢
  have hl : lv_has ls 2 [(0, .ref a_x), (1, .int p1)] := hl
  have hiX9 : ∀ w ∈ wsX90, w ∈ wsX9_part := fun _ h => List.mem_cons_of_mem _ (List.mem_append_left _ (List.mem_append_right _ h))
  have hf33 := hts (.fieldLink RX9 33 "MeetSets" "fraction" "LMeetSets$Fraction;") (t1_ (al_ (al_ (t1_ h1_))))
  have hiX4 : ∀ w ∈ wsX40, w ∈ wsX9_part := fun _ h => List.mem_cons_of_mem _ (List.mem_append_right _ h)
  have hf201 := hts (.fieldLink RX9 201 "MeetSets$Fraction" "below" "J") (t1_ (al_ (al_ (t1_ (t1_ (t1_ h1_))))))
  have hf198 := hts (.fieldLink RX9 198 "MeetSets$Fraction" "above" "J") (t1_ (al_ (al_ (t1_ (t1_ h1_)))))
  refine w_abs (fun Z hZv hZw => ?_)
  refine hZv ?_
  obtain ⟨H, hH⟩ : ∃ H, H = s.heap := ⟨_, rfl⟩
  obtain ⟨locs, hlo⟩ : ∃ L : List Loc, L = [] := ⟨_, rfl⟩
  rw [← hlo, ← hH]
  have hS : va_S A s.heap H locs := by rw [hlo, hH]; exact hS
  have hP : va_P (dC, dI) vwCl [(a_x, .inr (9, [.ref a_x_costs, .ref a_r, .ref a_u, .ref a_q, .ref a_h, .ref a_f, .ref a_w, .ref a_o, .ref a_z, .ref a_g, .ref a_k])), (a_q, .inr (4, [.long q_above, .long q_below]))] H := by rw [hH]; exact hP
  clear hH hlo
  unfold pX9_part at hs
  refine lv_iload_n hx hb dX9_part_0 rfl (lv_at hl 1 rfl) ?_
  obtain ⟨r1, hr1, hs⟩ := bd_s hs
  refine kc_i (isC := []) (isR := [0, 1]) (pm := [0, 1]) (wr := [(a_x, .inr (9, [.ref a_x_costs, .ref a_r, .ref a_u, .ref a_q, .ref a_h, .ref a_f, .ref a_w, .ref a_o, .ref a_z, .ref a_g, .ref a_k])), (a_q, .inr (4, [.long q_above, .long q_below]))]) (w1 := []) (w2 := [(a_x, .inr (9, [.ref a_x_costs, .ref a_r, .ref a_u, .ref a_q, .ref a_h, .ref a_f, .ref a_w, .ref a_o, .ref a_z, .ref a_g, .ref a_k])), (a_q, .inr (4, [.long q_above, .long q_below]))]) (va_runS (As := [.int p1]) (rest := []) ⟨hx, hb, hml, hown, hts⟩ (c_X9_isZeroOrOne l dC dI H.size p1 r1 hr1) (va_cwS 1 hts gX9_part_X9_isZeroOrOne rfl rfl rfl (by decide +kernel) ⟨Nat.le_of_ble_eq_true rfl, Nat.le_of_ble_eq_true rfl⟩) (kp_S hK hP hD hS hA hN (isC := []) (isT := []) (wc := []) rfl (by decide +kernel) rfl) rfl rfl hl.1 rfl (lv_room (Nat.le_of_ble_eq_true rfl)) dX9_part_1 ⟨Nat.le_of_ble_eq_true rfl, Nat.le_of_ble_eq_true rfl⟩) hP hD hS hA rfl rfl (by decide +kernel) (by decide +kernel) rfl (by decide +kernel) (fun H locs hP hD hS => ?_)
  refine lv_if_ne (tgt := 11) hx hb dX9_part_4 (by decide) (fun hc => ?_) (fun hc => ?_)
  · replace hs := it_f hc hs
    refine lv_iload_n hx hb dX9_part_11 rfl (lv_at hl 1 rfl) ?_
    refine lv_if_ne (tgt := 25) hx hb dX9_part_12 (by decide) (fun hc => ?_) (fun hc => ?_)
    · replace hs := it_f hc hs
      refine lv_aload_n hx hb dX9_part_25 rfl (lv_at hl 0 rfl) ?_
      refine va_get (D := (dC, dI)) (ci := 9) (v := .ref a_q) (C := RX9) (T := TX9) (N := 11) hx hb hts hiX9 hown hK hP 0 rfl rfl 3 (by decide) hf33 (fun _ h9 => h9) rfl dX9_part_26 ?_
      refine va_get (D := (dC, dI)) (ci := 4) (v := .long q_below) (C := RX4) (T := TX4) (N := 2) hx hb hts hiX4 hown hK hP 1 rfl rfl 1 (by decide) hf201 (fun _ h9 => h9) rfl dX9_part_29 ?_
      replace hs := Option.some.inj hs
      subst hs
      exact W.lret (v := q_below) hx hb hr (fun t ht hW => ⟨⟨q_below, (), rfl, rfl, by rw [ht]; exact hP, va_K.moved hW.alike hK, hD⟩, hS.F ht⟩) hS.2.2 dX9_part_32
    · replace hs := it_t hc hs
      refine lv_aload_n hx hb dX9_part_15 rfl (lv_at hl 0 rfl) ?_
      refine va_get (D := (dC, dI)) (ci := 9) (v := .ref a_q) (C := RX9) (T := TX9) (N := 11) hx hb hts hiX9 hown hK hP 0 rfl rfl 3 (by decide) hf33 (fun _ h9 => h9) rfl dX9_part_16 ?_
      refine va_get (D := (dC, dI)) (ci := 4) (v := .long q_above) (C := RX4) (T := TX4) (N := 2) hx hb hts hiX4 hown hK hP 1 rfl rfl 0 (by decide) hf198 (fun _ h9 => h9) rfl dX9_part_19 ?_
      refine lv_goto (tgt := 32) hx hb dX9_part_22 (by decide) ?_
      replace hs := Option.some.inj hs
      subst hs
      exact W.lret (v := q_above) hx hb hr (fun t ht hW => ⟨⟨q_above, (), rfl, rfl, by rw [ht]; exact hP, va_K.moved hW.alike hK, hD⟩, hS.F ht⟩) hS.2.2 dX9_part_32
  · replace hs := it_t hc hs
    refine lv_ldc2 (v := (-1)) hx hb hown (hts (.constantLong RX9 196 (-1)) (t1_ (al_ (al_ h1_)))) dX9_part_7 ?_
    replace hs := Option.some.inj hs
    subst hs
    exact W.lret (v := (-1)) hx hb hr (fun t ht hW => ⟨⟨(-1), (), rfl, rfl, by rw [ht]; exact hP, va_K.moved hW.alike hK, hD⟩, hS.F ht⟩) hS.2.2 dX9_part_10
noncomputable def pX9_swings_L15 (r_parts : Int32) (r_ins : Nat → Int32) (p1 : Int32) (s15 : Int32 × Int32) : Option ((Int32 × Int32) ⊕ (Int32)) :=
  if r_parts ≤ s15.2 then (some (Sum.inr s15.1)) else (Option.bind (pX9_has s15.2 p1) (fun r3 => if r3 = 0 then (Option.bind (pX6_isMeeter r_parts r_ins s15.2) (fun r4 => if r4 = 0 then (Option.bind (pX6_isMeeter r_parts r_ins (s15.2 ||| (1 <<< (p1 &&& 31)))) (fun r5 => if r5 = 0 then (some (Sum.inl (s15.1, s15.2 + 1))) else (some (Sum.inl (s15.1 + 1, s15.2 + 1))))) else (some (Sum.inl (s15.1, s15.2 + 1))))) else (some (Sum.inl (s15.1, s15.2 + 1)))))
noncomputable def pX9_swings (r_n : Int32) (r_parts : Int32) (r_ins : Nat → Int32) (p1 : Int32) : Option (Int32) :=
  Option.bind (pX9_isElement r_n p1) (fun r1 => if r1 = 0 then (some (-2)) else (Option.bind (lp (pX9_swings_L15 r_parts r_ins p1) (0, 0)) (fun e15 => some e15)))
set_option maxHeartbeats 4000000 in
set_option maxRecDepth 100000 in
theorem c_X9_swings (l : Launch) (dC : Nat → ClassId) (dI : Nat → Nat → Nat) (a_x : Nat) (a_x_costs : Nat) (a_r : Nat) (a_r_rows : Nat) (a_r_ins : Nat) (a_u : Nat) (a_q : Nat) (a_h : Nat) (a_f : Nat) (a_w : Nat) (a_o : Nat) (a_z : Nat) (a_g : Nat) (a_k : Nat) (c_r_ins : ClassId) (sz : Nat) (r_size : Int32) (r_n : Int32) (r_parts : Int32) (r_ins : Nat → Int32) (p1 : Int32) (rv : Int32) (hs : pX9_swings r_n r_parts r_ins p1 = some rv) : Met l yX9_swings wsX9_swings ({ frames := 1, cells := 0, slots := 0, locals := 21 }) (sPc [.ref a_x, .int p1] (dC, dI) [(c_r_ins, .int)] [(a_x, .inr (9, [.ref a_x_costs, .ref a_r, .ref a_u, .ref a_q, .ref a_h, .ref a_f, .ref a_w, .ref a_o, .ref a_z, .ref a_g, .ref a_k])), (a_r, .inr (6, [.ref a_r_rows, .ref a_r_ins, .int r_size, .int r_n, .int r_parts])), (a_r_ins, .inl (c_r_ins, 1024, .inl r_ins))] sz) (va_Qi (fun (r : Int32) (_ : Unit) => r = rv) (sB (dC, dI) [(c_r_ins, .int)] (va_A [(a_x, .inr (9, [.ref a_x_costs, .ref a_r, .ref a_u, .ref a_q, .ref a_h, .ref a_f, .ref a_w, .ref a_o, .ref a_z, .ref a_g, .ref a_k])), (a_r, .inr (6, [.ref a_r_rows, .ref a_r_ins, .int r_size, .int r_n, .int r_parts])), (a_r_ins, .inl (c_r_ins, 1024, .inl r_ins))] sz) [(a_x, .inr (9, [.ref a_x_costs, .ref a_r, .ref a_u, .ref a_q, .ref a_h, .ref a_f, .ref a_w, .ref a_o, .ref a_z, .ref a_g, .ref a_k])), (a_r, .inr (6, [.ref a_r_rows, .ref a_r_ins, .int r_size, .int r_n, .int r_parts])), (a_r_ins, .inl (c_r_ins, 1024, .inl r_ins))]) (va_A [(a_x, .inr (9, [.ref a_x_costs, .ref a_r, .ref a_u, .ref a_q, .ref a_h, .ref a_f, .ref a_w, .ref a_o, .ref a_z, .ref a_g, .ref a_k])), (a_r, .inr (6, [.ref a_r_rows, .ref a_r_ins, .int r_size, .int r_n, .int r_parts])), (a_r_ins, .inl (c_r_ins, 1024, .inl r_ins))] sz)) 0 0 (va_A [(a_x, .inr (9, [.ref a_x_costs, .ref a_r, .ref a_u, .ref a_q, .ref a_h, .ref a_f, .ref a_w, .ref a_o, .ref a_z, .ref a_g, .ref a_k])), (a_r, .inr (6, [.ref a_r_rows, .ref a_r_ins, .int r_size, .int r_n, .int r_parts])), (a_r_ins, .inl (c_r_ins, 1024, .inl r_ins))] sz) := by
  refine Met.ofW (cc := cX9_swings) (maxL := 4) (ret := (some .int)) (by decide) rfl ?_
  intro p e s m args below meth c s₁ B hml hv
  obtain ⟨rfl, hsz, hP, hK, hD0, hN⟩ := hv
  have hx := B.exec
  have hb := B.bytes
  have hr := B.returns
  have hts := atoms_spec (ws := wsX9_swings) B.pre
  have hown : s.vm.findClass RX9 = some m.cls := findClass_of_methodNamed B.named
  have hlocks := B.notSynchronized
  subst hsz
  have hD := hD0.self (sz := s.heap.size)
  generalize hAe : va_A [(a_x, .inr (9, [.ref a_x_costs, .ref a_r, .ref a_u, .ref a_q, .ref a_h, .ref a_f, .ref a_w, .ref a_o, .ref a_z, .ref a_g, .ref a_k])), (a_r, .inr (6, [.ref a_r_rows, .ref a_r_ins, .int r_size, .int r_n, .int r_parts])), (a_r_ins, .inl (c_r_ins, 1024, .inl r_ins))] s.heap.size = A at hD hN ⊢
  have hA : ∀ q : Nat, s.heap.size ≤ q → A q := fun q h => by rw [← hAe]; exact Or.inr h
  have hS : va_S A s.heap s.heap [] := va_S.rf
  have hP : va_P (dC, dI) vwCl [(a_x, .inr (9, [.ref a_x_costs, .ref a_r, .ref a_u, .ref a_q, .ref a_h, .ref a_f, .ref a_w, .ref a_o, .ref a_z, .ref a_g, .ref a_k])), (a_r, .inr (6, [.ref a_r_rows, .ref a_r_ins, .int r_size, .int r_n, .int r_parts])), (a_r_ins, .inl (c_r_ins, 1024, .inl r_ins))] s.heap := hP
  have hl := lv_entry ([.ref a_x, .int p1]) (n := 4) (Nat.le_of_ble_eq_true rfl)
  rw [lg_entry_eq]
  generalize (lg_sl ([.ref a_x, .int p1]) ++ List.replicate (4 - (lg_sl ([.ref a_x, .int p1])).length) Slot.unset).toArray = ls at hl ⊢
  have hl : lv_has ls 4 [(0, .ref a_x), (1, .int p1)] := hl
  have hiX9 : ∀ w ∈ wsX90, w ∈ wsX9_swings := fun _ h => List.mem_cons_of_mem _ (List.mem_append_left _ (List.mem_append_right _ h))
  have hf23 := hts (.fieldLink RX9 23 "MeetSets" "list" "LMeetSets$SetRow;") (t1_ (al_ (al_ h1_)))
  have hiX6 : ∀ w ∈ wsX60, w ∈ wsX9_swings := fun _ h => List.mem_cons_of_mem _ (List.mem_append_right _ h)
  have hf117 := hts (.fieldLink RX9 117 "MeetSets$SetRow" "parts" "I") (t1_ (al_ (al_ (t1_ h1_))))
  refine w_abs (fun Z hZv hZw => ?_)
  refine hZv ?_
  obtain ⟨H, hH⟩ : ∃ H, H = s.heap := ⟨_, rfl⟩
  obtain ⟨locs, hlo⟩ : ∃ L : List Loc, L = [] := ⟨_, rfl⟩
  rw [← hlo, ← hH]
  have hS : va_S A s.heap H locs := by rw [hlo, hH]; exact hS
  have hP : va_P (dC, dI) vwCl [(a_x, .inr (9, [.ref a_x_costs, .ref a_r, .ref a_u, .ref a_q, .ref a_h, .ref a_f, .ref a_w, .ref a_o, .ref a_z, .ref a_g, .ref a_k])), (a_r, .inr (6, [.ref a_r_rows, .ref a_r_ins, .int r_size, .int r_n, .int r_parts])), (a_r_ins, .inl (c_r_ins, 1024, .inl r_ins))] H := by rw [hH]; exact hP
  clear hH hlo
  unfold pX9_swings at hs
  refine lv_aload_n hx hb dX9_swings_0 rfl (lv_at hl 0 rfl) ?_
  refine lv_iload_n hx hb dX9_swings_1 rfl (lv_at hl 1 rfl) ?_
  obtain ⟨r1, hr1, hs⟩ := bd_s hs
  refine kc_i (isC := [0, 1]) (isR := [2]) (pm := [1, 2, 0]) (wr := [(a_r_ins, .inl (c_r_ins, 1024, .inl r_ins))]) (w1 := [(a_x, .inr (9, [.ref a_x_costs, .ref a_r, .ref a_u, .ref a_q, .ref a_h, .ref a_f, .ref a_w, .ref a_o, .ref a_z, .ref a_g, .ref a_k])), (a_r, .inr (6, [.ref a_r_rows, .ref a_r_ins, .int r_size, .int r_n, .int r_parts]))]) (w2 := [(a_x, .inr (9, [.ref a_x_costs, .ref a_r, .ref a_u, .ref a_q, .ref a_h, .ref a_f, .ref a_w, .ref a_o, .ref a_z, .ref a_g, .ref a_k])), (a_r, .inr (6, [.ref a_r_rows, .ref a_r_ins, .int r_size, .int r_n, .int r_parts])), (a_r_ins, .inl (c_r_ins, 1024, .inl r_ins))]) (va_runV (As := [.int p1]) (rest := []) ⟨hx, hb, hml, hown, hts⟩ (c_X9_isElement l dC dI a_x a_x_costs a_r a_r_rows a_r_ins a_u a_q a_h a_f a_w a_o a_z a_g a_k H.size r_size r_n r_parts p1 r1 hr1) (cwV 1 hts gX9_swings_X9_isElement rfl rfl rfl (by decide +kernel) ⟨Nat.le_of_ble_eq_true rfl, Nat.le_of_ble_eq_true rfl⟩) (kp_V hK hP hD hS hA hN (isC := [0, 1]) (isT := []) (wc := [(a_x, .inr (9, [.ref a_x_costs, .ref a_r, .ref a_u, .ref a_q, .ref a_h, .ref a_f, .ref a_w, .ref a_o, .ref a_z, .ref a_g, .ref a_k])), (a_r, .inr (6, [.ref a_r_rows, .ref a_r_ins, .int r_size, .int r_n, .int r_parts]))]) rfl (by decide +kernel) rfl (ci := 9) (q0 := 0) rfl rfl) rfl rfl hl.1 rfl (lv_room (Nat.le_of_ble_eq_true rfl)) dX9_swings_2 ⟨Nat.le_of_ble_eq_true rfl, Nat.le_of_ble_eq_true rfl⟩) hP hD hS hA rfl rfl (by decide +kernel) (by decide +kernel) rfl (by decide +kernel) (fun H locs hP hD hS => ?_)
  refine lv_if_ne (tgt := 11) hx hb dX9_swings_5 (by decide) (fun hc => ?_) (fun hc => ?_)
  · replace hs := it_f hc hs
    refine lv_iconst (v := 0) hx hb dX9_swings_11 (by decide) ?_
    refine lv_istore_n (lv' := [(2, .int 0), (0, .ref a_x), (1, .int p1)]) hx hb dX9_swings_12 rfl hl (by decide) rfl (fun ls hl => ?_)
    refine lv_iconst (v := 0) hx hb dX9_swings_13 (by decide) ?_
    refine lv_istore_n (lv' := [(3, .int 0), (2, .int 0), (0, .ref a_x), (1, .int p1)]) hx hb dX9_swings_14 rfl hl (by decide) rfl (fun ls hl => ?_)
    obtain ⟨e15, he15, hs⟩ := bd_s hs
    have hX15 : ∀ (H : Heap) (locs : List Loc) (ls : Array Slot), va_P (dC, dI) vwCl [(a_x, .inr (9, [.ref a_x_costs, .ref a_r, .ref a_u, .ref a_q, .ref a_h, .ref a_f, .ref a_w, .ref a_o, .ref a_z, .ref a_g, .ref a_k])), (a_r, .inr (6, [.ref a_r_rows, .ref a_r_ins, .int r_size, .int r_n, .int r_parts])), (a_r_ins, .inl (c_r_ins, 1024, .inl r_ins))] H → va_D A [(a_x, .inr (9, [.ref a_x_costs, .ref a_r, .ref a_u, .ref a_q, .ref a_h, .ref a_f, .ref a_w, .ref a_o, .ref a_z, .ref a_g, .ref a_k])), (a_r, .inr (6, [.ref a_r_rows, .ref a_r_ins, .int r_size, .int r_n, .int r_parts])), (a_r_ins, .inl (c_r_ins, 1024, .inl r_ins))] → va_S A s.heap H locs → lv_has ls 4 [(2, .int e15)] → Z H locs 0 0 (F0 m 69 ls []) := by
      intro H locs ls hP hD hS hl
      refine hZv ?_
      refine lv_iload_n hx hb dX9_swings_69 rfl (lv_at hl 0 rfl) ?_
      replace hs := Option.some.inj hs
      subst hs
      exact W.iret (v := e15) hx hb hr (fun t ht hW => ⟨⟨e15, (), rfl, rfl, by rw [ht]; exact hP, va_K.moved hW.alike hK, hD⟩, hS.F ht⟩) hS.2.2 dX9_swings_70
    clear hs
    have hL15 : ∀ (n : Nat) (s15 : Int32 × Int32) (H : Heap) (locs : List Loc) (ls : Array Slot), itr (pX9_swings_L15 r_parts r_ins p1) n s15 = some e15 → va_P (dC, dI) vwCl [(a_x, .inr (9, [.ref a_x_costs, .ref a_r, .ref a_u, .ref a_q, .ref a_h, .ref a_f, .ref a_w, .ref a_o, .ref a_z, .ref a_g, .ref a_k])), (a_r, .inr (6, [.ref a_r_rows, .ref a_r_ins, .int r_size, .int r_n, .int r_parts])), (a_r_ins, .inl (c_r_ins, 1024, .inl r_ins))] H → va_D A [(a_x, .inr (9, [.ref a_x_costs, .ref a_r, .ref a_u, .ref a_q, .ref a_h, .ref a_f, .ref a_w, .ref a_o, .ref a_z, .ref a_g, .ref a_k])), (a_r, .inr (6, [.ref a_r_rows, .ref a_r_ins, .int r_size, .int r_n, .int r_parts])), (a_r_ins, .inl (c_r_ins, 1024, .inl r_ins))] → va_S A s.heap H locs → lv_has ls 4 [(0, .ref a_x), (1, .int p1), (2, .int s15.1), (3, .int s15.2)] → Z H locs 0 0 (F0 m 15 ls []) := by
      intro n
      induction n with
      | zero =>
        intro s15 H locs ls hn
        exact (itr_0 hn).elim
      | succ n ih =>
        intro s15 H locs ls hn hP hD hS hl
        obtain ⟨y2, hs, hn⟩ := itr_s hn
        unfold pX9_swings_L15 at hs
        refine hZv ?_
        refine lv_iload_n hx hb dX9_swings_15 rfl (lv_at hl 3 rfl) ?_
        refine lv_aload_n hx hb dX9_swings_16 rfl (lv_at hl 0 rfl) ?_
        refine va_get (D := (dC, dI)) (ci := 9) (v := .ref a_r) (C := RX9) (T := TX9) (N := 11) hx hb hts hiX9 hown hK hP 0 rfl rfl 1 (by decide) hf23 (fun _ h9 => h9) rfl dX9_swings_17 ?_
        refine va_get (D := (dC, dI)) (ci := 6) (v := .int r_parts) (C := RX6) (T := TX6) (N := 5) hx hb hts hiX6 hown hK hP 1 rfl rfl 4 (by decide) hf117 (fun _ h9 => h9) rfl dX9_swings_20 ?_
        refine lv_icmp_ge (tgt := 69) hx hb dX9_swings_23 (by decide) (fun hc => ?_) (fun hc => ?_)
        · replace hs := it_t hc hs
          replace hs := Option.some.inj hs
          subst hs
          obtain rfl : s15.1 = e15 := hn
          exact hZw (hX15 H locs ls hP hD hS (lv_sub hl [2] rfl))
        · replace hs := it_f hc hs
          refine lv_iload_n hx hb dX9_swings_26 rfl (lv_at hl 3 rfl) ?_
          refine lv_iload_n hx hb dX9_swings_27 rfl (lv_at hl 1 rfl) ?_
          obtain ⟨r3, hr3, hs⟩ := bd_s hs
          refine kc_i (isC := []) (isR := [0, 1, 2]) (pm := [0, 1, 2]) (wr := [(a_x, .inr (9, [.ref a_x_costs, .ref a_r, .ref a_u, .ref a_q, .ref a_h, .ref a_f, .ref a_w, .ref a_o, .ref a_z, .ref a_g, .ref a_k])), (a_r, .inr (6, [.ref a_r_rows, .ref a_r_ins, .int r_size, .int r_n, .int r_parts])), (a_r_ins, .inl (c_r_ins, 1024, .inl r_ins))]) (w1 := []) (w2 := [(a_x, .inr (9, [.ref a_x_costs, .ref a_r, .ref a_u, .ref a_q, .ref a_h, .ref a_f, .ref a_w, .ref a_o, .ref a_z, .ref a_g, .ref a_k])), (a_r, .inr (6, [.ref a_r_rows, .ref a_r_ins, .int r_size, .int r_n, .int r_parts])), (a_r_ins, .inl (c_r_ins, 1024, .inl r_ins))]) (va_runS (As := [.int s15.2, .int p1]) (rest := []) ⟨hx, hb, hml, hown, hts⟩ (c_X9_has l dC dI H.size s15.2 p1 r3 hr3) (va_cwS 2 hts gX9_swings_X9_has rfl rfl rfl (by decide +kernel) ⟨Nat.le_of_ble_eq_true rfl, Nat.le_of_ble_eq_true rfl⟩) (kp_S hK hP hD hS hA hN (isC := []) (isT := []) (wc := []) rfl (by decide +kernel) rfl) rfl rfl hl.1 rfl (lv_room (Nat.le_of_ble_eq_true rfl)) dX9_swings_28 ⟨Nat.le_of_ble_eq_true rfl, Nat.le_of_ble_eq_true rfl⟩) hP hD hS hA rfl rfl (by decide +kernel) (by decide +kernel) rfl (by decide +kernel) (fun H locs hP hD hS => ?_)
          refine lv_if_ne (tgt := 63) hx hb dX9_swings_31 (by decide) (fun hc => ?_) (fun hc => ?_)
          · replace hs := it_f hc hs
            refine lv_iinc (v := s15.2 + 1) (lv' := [(3, .int (s15.2 + 1)), (0, .ref a_x), (1, .int p1), (2, .int s15.1)]) hx hb dX9_swings_63 hl (k := 3) rfl (by rfl) (by decide) rfl (fun ls hl => ?_)
            refine lv_goto (tgt := 15) hx hb dX9_swings_66 (by decide) ?_
            replace hs := Option.some.inj hs
            subst hs
            exact hZw (ih (s15.1, s15.2 + 1) H locs ls hn hP hD hS (lv_sub hl [1, 2, 3, 0] rfl))
          · replace hs := it_t hc hs
            refine lv_aload_n hx hb dX9_swings_34 rfl (lv_at hl 0 rfl) ?_
            refine va_get (D := (dC, dI)) (ci := 9) (v := .ref a_r) (C := RX9) (T := TX9) (N := 11) hx hb hts hiX9 hown hK hP 0 rfl rfl 1 (by decide) hf23 (fun _ h9 => h9) rfl dX9_swings_35 ?_
            refine lv_iload_n hx hb dX9_swings_38 rfl (lv_at hl 3 rfl) ?_
            obtain ⟨r4, hr4, hs⟩ := bd_s hs
            refine kc_i (isC := [1, 2]) (isR := [0]) (pm := [0, 1, 2]) (wr := [(a_x, .inr (9, [.ref a_x_costs, .ref a_r, .ref a_u, .ref a_q, .ref a_h, .ref a_f, .ref a_w, .ref a_o, .ref a_z, .ref a_g, .ref a_k]))]) (w1 := [(a_r, .inr (6, [.ref a_r_rows, .ref a_r_ins, .int r_size, .int r_n, .int r_parts])), (a_r_ins, .inl (c_r_ins, 1024, .inl r_ins))]) (w2 := [(a_x, .inr (9, [.ref a_x_costs, .ref a_r, .ref a_u, .ref a_q, .ref a_h, .ref a_f, .ref a_w, .ref a_o, .ref a_z, .ref a_g, .ref a_k])), (a_r, .inr (6, [.ref a_r_rows, .ref a_r_ins, .int r_size, .int r_n, .int r_parts])), (a_r_ins, .inl (c_r_ins, 1024, .inl r_ins))]) (va_runV (As := [.int s15.2]) (rest := []) ⟨hx, hb, hml, hown, hts⟩ (c_X6_isMeeter l dC dI a_r a_r_rows a_r_ins c_r_ins H.size r_size r_n r_parts r_ins s15.2 r4 hr4) (cwV 1 hts gX9_swings_X6_isMeeter rfl rfl rfl (by decide +kernel) ⟨Nat.le_of_ble_eq_true rfl, Nat.le_of_ble_eq_true rfl⟩) (kp_V hK hP hD hS hA hN (isC := [1, 2]) (isT := [0]) (wc := [(a_r, .inr (6, [.ref a_r_rows, .ref a_r_ins, .int r_size, .int r_n, .int r_parts])), (a_r_ins, .inl (c_r_ins, 1024, .inl r_ins))]) rfl (by decide +kernel) rfl (ci := 6) (q0 := 0) rfl rfl) rfl rfl hl.1 rfl (lv_room (Nat.le_of_ble_eq_true rfl)) dX9_swings_39 ⟨Nat.le_of_ble_eq_true rfl, Nat.le_of_ble_eq_true rfl⟩) hP hD hS hA rfl rfl (by decide +kernel) (by decide +kernel) rfl (by decide +kernel) (fun H locs hP hD hS => ?_)
            refine lv_if_ne (tgt := 63) hx hb dX9_swings_42 (by decide) (fun hc => ?_) (fun hc => ?_)
            · replace hs := it_f hc hs
              refine lv_iinc (v := s15.2 + 1) (lv' := [(3, .int (s15.2 + 1)), (0, .ref a_x), (1, .int p1), (2, .int s15.1)]) hx hb dX9_swings_63 hl (k := 3) rfl (by rfl) (by decide) rfl (fun ls hl => ?_)
              refine lv_goto (tgt := 15) hx hb dX9_swings_66 (by decide) ?_
              replace hs := Option.some.inj hs
              subst hs
              exact hZw (ih (s15.1, s15.2 + 1) H locs ls hn hP hD hS (lv_sub hl [1, 2, 3, 0] rfl))
            · replace hs := it_t hc hs
              refine lv_aload_n hx hb dX9_swings_45 rfl (lv_at hl 0 rfl) ?_
              refine va_get (D := (dC, dI)) (ci := 9) (v := .ref a_r) (C := RX9) (T := TX9) (N := 11) hx hb hts hiX9 hown hK hP 0 rfl rfl 1 (by decide) hf23 (fun _ h9 => h9) rfl dX9_swings_46 ?_
              refine lv_iload_n hx hb dX9_swings_49 rfl (lv_at hl 3 rfl) ?_
              refine lv_iconst (v := 1) hx hb dX9_swings_50 (by decide) ?_
              refine lv_iload_n hx hb dX9_swings_51 rfl (lv_at hl 1 rfl) ?_
              refine lv_ishl hx hb dX9_swings_52 ?_
              refine lv_ior hx hb dX9_swings_53 ?_
              obtain ⟨r5, hr5, hs⟩ := bd_s hs
              refine kc_i (isC := [1, 2]) (isR := [0]) (pm := [0, 1, 2]) (wr := [(a_x, .inr (9, [.ref a_x_costs, .ref a_r, .ref a_u, .ref a_q, .ref a_h, .ref a_f, .ref a_w, .ref a_o, .ref a_z, .ref a_g, .ref a_k]))]) (w1 := [(a_r, .inr (6, [.ref a_r_rows, .ref a_r_ins, .int r_size, .int r_n, .int r_parts])), (a_r_ins, .inl (c_r_ins, 1024, .inl r_ins))]) (w2 := [(a_x, .inr (9, [.ref a_x_costs, .ref a_r, .ref a_u, .ref a_q, .ref a_h, .ref a_f, .ref a_w, .ref a_o, .ref a_z, .ref a_g, .ref a_k])), (a_r, .inr (6, [.ref a_r_rows, .ref a_r_ins, .int r_size, .int r_n, .int r_parts])), (a_r_ins, .inl (c_r_ins, 1024, .inl r_ins))]) (va_runV (As := [.int (s15.2 ||| (1 <<< (p1 &&& 31)))]) (rest := []) ⟨hx, hb, hml, hown, hts⟩ (c_X6_isMeeter l dC dI a_r a_r_rows a_r_ins c_r_ins H.size r_size r_n r_parts r_ins (s15.2 ||| (1 <<< (p1 &&& 31))) r5 hr5) (cwV 1 hts gX9_swings_X6_isMeeter rfl rfl rfl (by decide +kernel) ⟨Nat.le_of_ble_eq_true rfl, Nat.le_of_ble_eq_true rfl⟩) (kp_V hK hP hD hS hA hN (isC := [1, 2]) (isT := [0]) (wc := [(a_r, .inr (6, [.ref a_r_rows, .ref a_r_ins, .int r_size, .int r_n, .int r_parts])), (a_r_ins, .inl (c_r_ins, 1024, .inl r_ins))]) rfl (by decide +kernel) rfl (ci := 6) (q0 := 0) rfl rfl) rfl rfl hl.1 rfl (lv_room (Nat.le_of_ble_eq_true rfl)) dX9_swings_54 ⟨Nat.le_of_ble_eq_true rfl, Nat.le_of_ble_eq_true rfl⟩) hP hD hS hA rfl rfl (by decide +kernel) (by decide +kernel) rfl (by decide +kernel) (fun H locs hP hD hS => ?_)
              refine lv_if_eq (tgt := 63) hx hb dX9_swings_57 (by decide) (fun hc => ?_) (fun hc => ?_)
              · replace hs := it_t hc hs
                refine lv_iinc (v := s15.2 + 1) (lv' := [(3, .int (s15.2 + 1)), (0, .ref a_x), (1, .int p1), (2, .int s15.1)]) hx hb dX9_swings_63 hl (k := 3) rfl (by rfl) (by decide) rfl (fun ls hl => ?_)
                refine lv_goto (tgt := 15) hx hb dX9_swings_66 (by decide) ?_
                replace hs := Option.some.inj hs
                subst hs
                exact hZw (ih (s15.1, s15.2 + 1) H locs ls hn hP hD hS (lv_sub hl [1, 2, 3, 0] rfl))
              · replace hs := it_f hc hs
                refine lv_iinc (v := s15.1 + 1) (lv' := [(2, .int (s15.1 + 1)), (0, .ref a_x), (1, .int p1), (3, .int s15.2)]) hx hb dX9_swings_60 hl (k := 2) rfl (by rfl) (by decide) rfl (fun ls hl => ?_)
                refine lv_iinc (v := s15.2 + 1) (lv' := [(3, .int (s15.2 + 1)), (2, .int (s15.1 + 1)), (0, .ref a_x), (1, .int p1)]) hx hb dX9_swings_63 hl (k := 3) rfl (by rfl) (by decide) rfl (fun ls hl => ?_)
                refine lv_goto (tgt := 15) hx hb dX9_swings_66 (by decide) ?_
                replace hs := Option.some.inj hs
                subst hs
                exact hZw (ih (s15.1 + 1, s15.2 + 1) H locs ls hn hP hD hS (lv_sub hl [2, 3, 1, 0] rfl))
    obtain ⟨n15, hn15⟩ := lp_ex he15
    exact hZw (hL15 n15 (0, 0) H locs ls hn15 hP hD hS (lv_sub hl [2, 3, 1, 0] rfl))
  · replace hs := it_t hc hs
    refine lv_bipush (v := (-2)) hx hb dX9_swings_8 (by decide) ?_
    replace hs := Option.some.inj hs
    subst hs
    exact W.iret (v := (-2)) hx hb hr (fun t ht hW => ⟨⟨(-2), (), rfl, rfl, by rw [ht]; exact hP, va_K.moved hW.alike hK, hD⟩, hS.F ht⟩) hS.2.2 dX9_swings_10
noncomputable def pX9_questions (r_len : Nat) (r_size : Int32) (r_n : Int32) (r_rows : Nat → Int32) (k_having : Nat → Int32) (k_fewest : Nat → Int32) (p1 : Int32) : Option (Int32 × (Nat → Int32) × (Nat → Int32)) :=
  Option.bind (pX9_isZeroOrOne p1) (fun r1 => if r1 = 0 then (some ((-2), k_having, k_fewest)) else (if r_size = 0 then (some ((-3), k_having, k_fewest)) else (if r_size ≤ 12 then (Option.bind (pX0_prepare r_len r_size r_n r_rows k_having k_fewest) (fun r2 => if p1 = 0 then (Option.bind (pX0_fewestAtWorst r_size r_n r2.1 r2.2) (fun r4 => some (r4.1, r2.1, r4.2))) else (Option.bind (pX0_firstToAsk r_size r_n r2.1 r2.2) (fun r3 => some (r3.1, r2.1, r3.2))))) else (some ((-3), k_having, k_fewest)))))
set_option maxHeartbeats 4000000 in
set_option maxRecDepth 100000 in
theorem c_X9_questions (l : Launch) (dC : Nat → ClassId) (dI : Nat → Nat → Nat) (a_x : Nat) (a_x_costs : Nat) (a_r : Nat) (a_r_rows : Nat) (a_r_ins : Nat) (a_u : Nat) (a_q : Nat) (a_h : Nat) (a_f : Nat) (a_w : Nat) (a_o : Nat) (a_z : Nat) (a_g : Nat) (a_k : Nat) (a_k_having : Nat) (a_k_fewest : Nat) (c_r_rows c_k_having c_k_fewest : ClassId) (r_len : Nat) (sz : Nat) (r_size : Int32) (r_n : Int32) (r_parts : Int32) (r_rows : Nat → Int32) (k_having : Nat → Int32) (k_fewest : Nat → Int32) (p1 : Int32) (rv : Int32 × (Nat → Int32) × (Nat → Int32)) (hs : pX9_questions r_len r_size r_n r_rows k_having k_fewest p1 = some rv) : Met l yX9_questions wsX9_questions ({ frames := 33, cells := 0, slots := 0, locals := 841 }) (sPc [.ref a_x, .int p1] (dC, dI) [(c_r_rows, .int), (c_k_having, .int), (c_k_fewest, .int)] [(a_x, .inr (9, [.ref a_x_costs, .ref a_r, .ref a_u, .ref a_q, .ref a_h, .ref a_f, .ref a_w, .ref a_o, .ref a_z, .ref a_g, .ref a_k])), (a_r, .inr (6, [.ref a_r_rows, .ref a_r_ins, .int r_size, .int r_n, .int r_parts])), (a_r_rows, .inl (c_r_rows, r_len, .inl r_rows)), (a_k, .inr (0, [.ref a_r, .ref a_k_having, .ref a_k_fewest])), (a_k_having, .inl (c_k_having, 10, .inl k_having)), (a_k_fewest, .inl (c_k_fewest, 4096, .inl k_fewest))] sz) (va_Qi (fun (r : Int32) (_ : Unit) => r = rv.1) (sB (dC, dI) [(c_r_rows, .int), (c_k_having, .int), (c_k_fewest, .int)] (va_A [(a_x, .inr (9, [.ref a_x_costs, .ref a_r, .ref a_u, .ref a_q, .ref a_h, .ref a_f, .ref a_w, .ref a_o, .ref a_z, .ref a_g, .ref a_k])), (a_r, .inr (6, [.ref a_r_rows, .ref a_r_ins, .int r_size, .int r_n, .int r_parts])), (a_r_rows, .inl (c_r_rows, r_len, .inl r_rows)), (a_k, .inr (0, [.ref a_r, .ref a_k_having, .ref a_k_fewest])), (a_k_having, .inl (c_k_having, 10, .inl k_having)), (a_k_fewest, .inl (c_k_fewest, 4096, .inl k_fewest))] sz) [(a_x, .inr (9, [.ref a_x_costs, .ref a_r, .ref a_u, .ref a_q, .ref a_h, .ref a_f, .ref a_w, .ref a_o, .ref a_z, .ref a_g, .ref a_k])), (a_r, .inr (6, [.ref a_r_rows, .ref a_r_ins, .int r_size, .int r_n, .int r_parts])), (a_r_rows, .inl (c_r_rows, r_len, .inl r_rows)), (a_k, .inr (0, [.ref a_r, .ref a_k_having, .ref a_k_fewest])), (a_k_having, .inl (c_k_having, 10, .inl rv.2.1)), (a_k_fewest, .inl (c_k_fewest, 4096, .inl rv.2.2))]) (va_A [(a_x, .inr (9, [.ref a_x_costs, .ref a_r, .ref a_u, .ref a_q, .ref a_h, .ref a_f, .ref a_w, .ref a_o, .ref a_z, .ref a_g, .ref a_k])), (a_r, .inr (6, [.ref a_r_rows, .ref a_r_ins, .int r_size, .int r_n, .int r_parts])), (a_r_rows, .inl (c_r_rows, r_len, .inl r_rows)), (a_k, .inr (0, [.ref a_r, .ref a_k_having, .ref a_k_fewest])), (a_k_having, .inl (c_k_having, 10, .inl k_having)), (a_k_fewest, .inl (c_k_fewest, 4096, .inl k_fewest))] sz)) 0 0 (va_A [(a_x, .inr (9, [.ref a_x_costs, .ref a_r, .ref a_u, .ref a_q, .ref a_h, .ref a_f, .ref a_w, .ref a_o, .ref a_z, .ref a_g, .ref a_k])), (a_r, .inr (6, [.ref a_r_rows, .ref a_r_ins, .int r_size, .int r_n, .int r_parts])), (a_r_rows, .inl (c_r_rows, r_len, .inl r_rows)), (a_k, .inr (0, [.ref a_r, .ref a_k_having, .ref a_k_fewest])), (a_k_having, .inl (c_k_having, 10, .inl k_having)), (a_k_fewest, .inl (c_k_fewest, 4096, .inl k_fewest))] sz) := by
  refine Met.ofW (cc := cX9_questions) (maxL := 2) (ret := (some .int)) (by decide) rfl ?_
  intro p e s m args below meth c s₁ B hml hv
  obtain ⟨rfl, hsz, hP, hK, hD0, hN⟩ := hv
  have hx := B.exec
  have hb := B.bytes
  have hr := B.returns
  have hts := atoms_spec (ws := wsX9_questions) B.pre
  have hown : s.vm.findClass RX9 = some m.cls := findClass_of_methodNamed B.named
  have hlocks := B.notSynchronized
  subst hsz
  have hD := hD0.self (sz := s.heap.size)
  generalize hAe : va_A [(a_x, .inr (9, [.ref a_x_costs, .ref a_r, .ref a_u, .ref a_q, .ref a_h, .ref a_f, .ref a_w, .ref a_o, .ref a_z, .ref a_g, .ref a_k])), (a_r, .inr (6, [.ref a_r_rows, .ref a_r_ins, .int r_size, .int r_n, .int r_parts])), (a_r_rows, .inl (c_r_rows, r_len, .inl r_rows)), (a_k, .inr (0, [.ref a_r, .ref a_k_having, .ref a_k_fewest])), (a_k_having, .inl (c_k_having, 10, .inl k_having)), (a_k_fewest, .inl (c_k_fewest, 4096, .inl k_fewest))] s.heap.size = A at hD hN ⊢
  have hA : ∀ q : Nat, s.heap.size ≤ q → A q := fun q h => by rw [← hAe]; exact Or.inr h
  have hS : va_S A s.heap s.heap [] := va_S.rf
  have hP : va_P (dC, dI) vwCl [(a_x, .inr (9, [.ref a_x_costs, .ref a_r, .ref a_u, .ref a_q, .ref a_h, .ref a_f, .ref a_w, .ref a_o, .ref a_z, .ref a_g, .ref a_k])), (a_r, .inr (6, [.ref a_r_rows, .ref a_r_ins, .int r_size, .int r_n, .int r_parts])), (a_r_rows, .inl (c_r_rows, r_len, .inl r_rows)), (a_k, .inr (0, [.ref a_r, .ref a_k_having, .ref a_k_fewest])), (a_k_having, .inl (c_k_having, 10, .inl k_having)), (a_k_fewest, .inl (c_k_fewest, 4096, .inl k_fewest))] s.heap := hP
  have hl := lv_entry ([.ref a_x, .int p1]) (n := 2) (Nat.le_of_ble_eq_true rfl)
  rw [lg_entry_eq]
  generalize (lg_sl ([.ref a_x, .int p1]) ++ List.replicate (2 - (lg_sl ([.ref a_x, .int p1])).length) Slot.unset).toArray = ls at hl ⊢
  have hl : lv_has ls 2 [(0, .ref a_x), (1, .int p1)] := hl
  have hiX9 : ∀ w ∈ wsX90, w ∈ wsX9_questions := fun _ h => List.mem_cons_of_mem _ (List.mem_append_left _ (List.mem_append_left _ (List.mem_append_right _ h)))
  have hf23 := hts (.fieldLink RX9 23 "MeetSets" "list" "LMeetSets$SetRow;") (t1_ (al_ (al_ (al_ (al_ h1_)))))
  have hiX6 : ∀ w ∈ wsX60, w ∈ wsX9_questions := fun _ h => List.mem_cons_of_mem _ (List.mem_append_left _ (List.mem_append_right _ h))
  have hf106 := hts (.fieldLink RX9 106 "MeetSets$SetRow" "size" "I") (t1_ (al_ (al_ (al_ (al_ (t1_ h1_))))))
  have hf84 := hts (.fieldLink RX9 84 "MeetSets" "asking" "LMeetSets$Asking;") (t1_ (al_ (al_ (al_ (al_ (t1_ (t1_ h1_)))))))
  refine w_abs (fun Z hZv hZw => ?_)
  refine hZv ?_
  obtain ⟨H, hH⟩ : ∃ H, H = s.heap := ⟨_, rfl⟩
  obtain ⟨locs, hlo⟩ : ∃ L : List Loc, L = [] := ⟨_, rfl⟩
  rw [← hlo, ← hH]
  have hS : va_S A s.heap H locs := by rw [hlo, hH]; exact hS
  have hP : va_P (dC, dI) vwCl [(a_x, .inr (9, [.ref a_x_costs, .ref a_r, .ref a_u, .ref a_q, .ref a_h, .ref a_f, .ref a_w, .ref a_o, .ref a_z, .ref a_g, .ref a_k])), (a_r, .inr (6, [.ref a_r_rows, .ref a_r_ins, .int r_size, .int r_n, .int r_parts])), (a_r_rows, .inl (c_r_rows, r_len, .inl r_rows)), (a_k, .inr (0, [.ref a_r, .ref a_k_having, .ref a_k_fewest])), (a_k_having, .inl (c_k_having, 10, .inl k_having)), (a_k_fewest, .inl (c_k_fewest, 4096, .inl k_fewest))] H := by rw [hH]; exact hP
  clear hH hlo
  unfold pX9_questions at hs
  refine lv_iload_n hx hb dX9_questions_0 rfl (lv_at hl 1 rfl) ?_
  obtain ⟨r1, hr1, hs⟩ := bd_s hs
  refine kc_i (isC := []) (isR := [0, 1, 2, 3, 4, 5]) (pm := [0, 1, 2, 3, 4, 5]) (wr := [(a_x, .inr (9, [.ref a_x_costs, .ref a_r, .ref a_u, .ref a_q, .ref a_h, .ref a_f, .ref a_w, .ref a_o, .ref a_z, .ref a_g, .ref a_k])), (a_r, .inr (6, [.ref a_r_rows, .ref a_r_ins, .int r_size, .int r_n, .int r_parts])), (a_r_rows, .inl (c_r_rows, r_len, .inl r_rows)), (a_k, .inr (0, [.ref a_r, .ref a_k_having, .ref a_k_fewest])), (a_k_having, .inl (c_k_having, 10, .inl k_having)), (a_k_fewest, .inl (c_k_fewest, 4096, .inl k_fewest))]) (w1 := []) (w2 := [(a_x, .inr (9, [.ref a_x_costs, .ref a_r, .ref a_u, .ref a_q, .ref a_h, .ref a_f, .ref a_w, .ref a_o, .ref a_z, .ref a_g, .ref a_k])), (a_r, .inr (6, [.ref a_r_rows, .ref a_r_ins, .int r_size, .int r_n, .int r_parts])), (a_r_rows, .inl (c_r_rows, r_len, .inl r_rows)), (a_k, .inr (0, [.ref a_r, .ref a_k_having, .ref a_k_fewest])), (a_k_having, .inl (c_k_having, 10, .inl k_having)), (a_k_fewest, .inl (c_k_fewest, 4096, .inl k_fewest))]) (va_runS (As := [.int p1]) (rest := []) ⟨hx, hb, hml, hown, hts⟩ (c_X9_isZeroOrOne l dC dI H.size p1 r1 hr1) (va_cwS 1 hts gX9_questions_X9_isZeroOrOne rfl rfl rfl (by decide +kernel) ⟨Nat.le_of_ble_eq_true rfl, Nat.le_of_ble_eq_true rfl⟩) (kp_S hK hP hD hS hA hN (isC := []) (isT := []) (wc := []) rfl (by decide +kernel) rfl) rfl rfl hl.1 rfl (lv_room (Nat.le_of_ble_eq_true rfl)) dX9_questions_1 ⟨Nat.le_of_ble_eq_true rfl, Nat.le_of_ble_eq_true rfl⟩) hP hD hS hA rfl rfl (by decide +kernel) (by decide +kernel) rfl (by decide +kernel) (fun H locs hP hD hS => ?_)
  refine lv_if_ne (tgt := 10) hx hb dX9_questions_4 (by decide) (fun hc => ?_) (fun hc => ?_)
  · replace hs := it_f hc hs
    refine lv_aload_n hx hb dX9_questions_10 rfl (lv_at hl 0 rfl) ?_
    refine va_get (D := (dC, dI)) (ci := 9) (v := .ref a_r) (C := RX9) (T := TX9) (N := 11) hx hb hts hiX9 hown hK hP 0 rfl rfl 1 (by decide) hf23 (fun _ h9 => h9) rfl dX9_questions_11 ?_
    refine va_get (D := (dC, dI)) (ci := 6) (v := .int r_size) (C := RX6) (T := TX6) (N := 5) hx hb hts hiX6 hown hK hP 1 rfl rfl 2 (by decide) hf106 (fun _ h9 => h9) rfl dX9_questions_14 ?_
    refine lv_if_eq (tgt := 32) hx hb dX9_questions_17 (by decide) (fun hc => ?_) (fun hc => ?_)
    · replace hs := it_t hc hs
      refine lv_bipush (v := (-3)) hx hb dX9_questions_32 (by decide) ?_
      replace hs := Option.some.inj hs
      subst hs
      exact W.iret (v := (-3)) hx hb hr (fun t ht hW => ⟨⟨(-3), (), rfl, rfl, by rw [ht]; exact hP, va_K.moved hW.alike hK, hD⟩, hS.F ht⟩) hS.2.2 dX9_questions_34
    · replace hs := it_f hc hs
      refine lv_aload_n hx hb dX9_questions_20 rfl (lv_at hl 0 rfl) ?_
      refine va_get (D := (dC, dI)) (ci := 9) (v := .ref a_r) (C := RX9) (T := TX9) (N := 11) hx hb hts hiX9 hown hK hP 0 rfl rfl 1 (by decide) hf23 (fun _ h9 => h9) rfl dX9_questions_21 ?_
      refine va_get (D := (dC, dI)) (ci := 6) (v := .int r_size) (C := RX6) (T := TX6) (N := 5) hx hb hts hiX6 hown hK hP 1 rfl rfl 2 (by decide) hf106 (fun _ h9 => h9) rfl dX9_questions_24 ?_
      refine lv_bipush (v := 12) hx hb dX9_questions_27 (by decide) ?_
      refine lv_icmp_le (tgt := 35) hx hb dX9_questions_29 (by decide) (fun hc => ?_) (fun hc => ?_)
      · replace hs := it_t hc hs
        refine lv_aload_n hx hb dX9_questions_35 rfl (lv_at hl 0 rfl) ?_
        refine va_get (D := (dC, dI)) (ci := 9) (v := .ref a_k) (C := RX9) (T := TX9) (N := 11) hx hb hts hiX9 hown hK hP 0 rfl rfl 10 (by decide) hf84 (fun _ h9 => h9) rfl dX9_questions_36 ?_
        obtain ⟨r2, hr2, hs⟩ := bd_s hs
        refine kc_v (isC := [1, 2, 3, 4, 5]) (isR := [0]) (pm := [0, 1, 2, 3, 4, 5]) (wr := [(a_x, .inr (9, [.ref a_x_costs, .ref a_r, .ref a_u, .ref a_q, .ref a_h, .ref a_f, .ref a_w, .ref a_o, .ref a_z, .ref a_g, .ref a_k]))]) (w1 := [(a_r, .inr (6, [.ref a_r_rows, .ref a_r_ins, .int r_size, .int r_n, .int r_parts])), (a_r_rows, .inl (c_r_rows, r_len, .inl r_rows)), (a_k, .inr (0, [.ref a_r, .ref a_k_having, .ref a_k_fewest])), (a_k_having, .inl (c_k_having, 10, .inl r2.1)), (a_k_fewest, .inl (c_k_fewest, 4096, .inl r2.2))]) (w2 := [(a_x, .inr (9, [.ref a_x_costs, .ref a_r, .ref a_u, .ref a_q, .ref a_h, .ref a_f, .ref a_w, .ref a_o, .ref a_z, .ref a_g, .ref a_k])), (a_r, .inr (6, [.ref a_r_rows, .ref a_r_ins, .int r_size, .int r_n, .int r_parts])), (a_r_rows, .inl (c_r_rows, r_len, .inl r_rows)), (a_k, .inr (0, [.ref a_r, .ref a_k_having, .ref a_k_fewest])), (a_k_having, .inl (c_k_having, 10, .inl r2.1)), (a_k_fewest, .inl (c_k_fewest, 4096, .inl r2.2))]) (va_runV (As := []) (rest := []) ⟨hx, hb, hml, hown, hts⟩ (c_X0_prepare l dC dI a_r a_r_rows a_r_ins a_k a_k_having a_k_fewest c_r_rows c_k_having c_k_fewest r_len H.size r_size r_n r_parts r_rows k_having k_fewest r2 hr2) (cwV 0 hts gX9_questions_X0_prepare rfl rfl rfl (by decide +kernel) ⟨Nat.le_of_ble_eq_true rfl, Nat.le_of_ble_eq_true rfl⟩) (kp_V hK hP hD hS hA hN (isC := [1, 2, 3, 4, 5]) (isT := [0, 1, 2]) (wc := [(a_r, .inr (6, [.ref a_r_rows, .ref a_r_ins, .int r_size, .int r_n, .int r_parts])), (a_r_rows, .inl (c_r_rows, r_len, .inl r_rows)), (a_k, .inr (0, [.ref a_r, .ref a_k_having, .ref a_k_fewest])), (a_k_having, .inl (c_k_having, 10, .inl k_having)), (a_k_fewest, .inl (c_k_fewest, 4096, .inl k_fewest))]) rfl (by decide +kernel) rfl (ci := 0) (q0 := 2) rfl rfl) rfl rfl hl.1 rfl (lv_room (Nat.le_of_ble_eq_true rfl)) dX9_questions_39 ⟨Nat.le_of_ble_eq_true rfl, Nat.le_of_ble_eq_true rfl⟩) hP hD hS hA rfl rfl (by decide +kernel) (by decide +kernel) rfl (by decide +kernel) (fun H locs hP hD hS => ?_)
        refine lv_iload_n hx hb dX9_questions_42 rfl (lv_at hl 1 rfl) ?_
        refine lv_if_ne (tgt := 56) hx hb dX9_questions_43 (by decide) (fun hc => ?_) (fun hc => ?_)
        · replace hs := it_f hc hs
          refine lv_aload_n hx hb dX9_questions_56 rfl (lv_at hl 0 rfl) ?_
          refine va_get (D := (dC, dI)) (ci := 9) (v := .ref a_k) (C := RX9) (T := TX9) (N := 11) hx hb hts hiX9 hown hK hP 0 rfl rfl 10 (by decide) hf84 (fun _ h9 => h9) rfl dX9_questions_57 ?_
          obtain ⟨r3, hr3, hs⟩ := bd_s hs
          refine kc_i (isC := [1, 3, 4, 5]) (isR := [0, 2]) (pm := [0, 2, 1, 3, 4, 5]) (wr := [(a_x, .inr (9, [.ref a_x_costs, .ref a_r, .ref a_u, .ref a_q, .ref a_h, .ref a_f, .ref a_w, .ref a_o, .ref a_z, .ref a_g, .ref a_k])), (a_r_rows, .inl (c_r_rows, r_len, .inl r_rows))]) (w1 := [(a_r, .inr (6, [.ref a_r_rows, .ref a_r_ins, .int r_size, .int r_n, .int r_parts])), (a_k, .inr (0, [.ref a_r, .ref a_k_having, .ref a_k_fewest])), (a_k_having, .inl (c_k_having, 10, .inl r2.1)), (a_k_fewest, .inl (c_k_fewest, 4096, .inl r3.2))]) (w2 := [(a_x, .inr (9, [.ref a_x_costs, .ref a_r, .ref a_u, .ref a_q, .ref a_h, .ref a_f, .ref a_w, .ref a_o, .ref a_z, .ref a_g, .ref a_k])), (a_r, .inr (6, [.ref a_r_rows, .ref a_r_ins, .int r_size, .int r_n, .int r_parts])), (a_r_rows, .inl (c_r_rows, r_len, .inl r_rows)), (a_k, .inr (0, [.ref a_r, .ref a_k_having, .ref a_k_fewest])), (a_k_having, .inl (c_k_having, 10, .inl r2.1)), (a_k_fewest, .inl (c_k_fewest, 4096, .inl r3.2))]) (va_runV (As := []) (rest := []) ⟨hx, hb, hml, hown, hts⟩ (c_X0_firstToAsk l dC dI a_r a_r_rows a_r_ins a_k a_k_having a_k_fewest c_k_having c_k_fewest H.size r_size r_n r_parts r2.1 r2.2 r3 hr3) (cwV 0 hts gX9_questions_X0_firstToAsk rfl rfl rfl (by decide +kernel) ⟨Nat.le_of_ble_eq_true rfl, Nat.le_of_ble_eq_true rfl⟩) (kp_V hK hP hD hS hA hN (isC := [1, 3, 4, 5]) (isT := [1, 2]) (wc := [(a_r, .inr (6, [.ref a_r_rows, .ref a_r_ins, .int r_size, .int r_n, .int r_parts])), (a_k, .inr (0, [.ref a_r, .ref a_k_having, .ref a_k_fewest])), (a_k_having, .inl (c_k_having, 10, .inl r2.1)), (a_k_fewest, .inl (c_k_fewest, 4096, .inl r2.2))]) rfl (by decide +kernel) rfl (ci := 0) (q0 := 1) rfl rfl) rfl rfl hl.1 rfl (lv_room (Nat.le_of_ble_eq_true rfl)) dX9_questions_60 ⟨Nat.le_of_ble_eq_true rfl, Nat.le_of_ble_eq_true rfl⟩) hP hD hS hA rfl rfl (by decide +kernel) (by decide +kernel) rfl (by decide +kernel) (fun H locs hP hD hS => ?_)
          replace hs := Option.some.inj hs
          subst hs
          exact W.iret (v := r3.1) hx hb hr (fun t ht hW => ⟨⟨r3.1, (), rfl, rfl, by rw [ht]; exact hP, va_K.moved hW.alike hK, hD⟩, hS.F ht⟩) hS.2.2 dX9_questions_63
        · replace hs := it_t hc hs
          refine lv_aload_n hx hb dX9_questions_46 rfl (lv_at hl 0 rfl) ?_
          refine va_get (D := (dC, dI)) (ci := 9) (v := .ref a_k) (C := RX9) (T := TX9) (N := 11) hx hb hts hiX9 hown hK hP 0 rfl rfl 10 (by decide) hf84 (fun _ h9 => h9) rfl dX9_questions_47 ?_
          obtain ⟨r4, hr4, hs⟩ := bd_s hs
          refine kc_i (isC := [1, 3, 4, 5]) (isR := [0, 2]) (pm := [0, 2, 1, 3, 4, 5]) (wr := [(a_x, .inr (9, [.ref a_x_costs, .ref a_r, .ref a_u, .ref a_q, .ref a_h, .ref a_f, .ref a_w, .ref a_o, .ref a_z, .ref a_g, .ref a_k])), (a_r_rows, .inl (c_r_rows, r_len, .inl r_rows))]) (w1 := [(a_r, .inr (6, [.ref a_r_rows, .ref a_r_ins, .int r_size, .int r_n, .int r_parts])), (a_k, .inr (0, [.ref a_r, .ref a_k_having, .ref a_k_fewest])), (a_k_having, .inl (c_k_having, 10, .inl r2.1)), (a_k_fewest, .inl (c_k_fewest, 4096, .inl r4.2))]) (w2 := [(a_x, .inr (9, [.ref a_x_costs, .ref a_r, .ref a_u, .ref a_q, .ref a_h, .ref a_f, .ref a_w, .ref a_o, .ref a_z, .ref a_g, .ref a_k])), (a_r, .inr (6, [.ref a_r_rows, .ref a_r_ins, .int r_size, .int r_n, .int r_parts])), (a_r_rows, .inl (c_r_rows, r_len, .inl r_rows)), (a_k, .inr (0, [.ref a_r, .ref a_k_having, .ref a_k_fewest])), (a_k_having, .inl (c_k_having, 10, .inl r2.1)), (a_k_fewest, .inl (c_k_fewest, 4096, .inl r4.2))]) (va_runV (As := []) (rest := []) ⟨hx, hb, hml, hown, hts⟩ (c_X0_fewestAtWorst l dC dI a_r a_r_rows a_r_ins a_k a_k_having a_k_fewest c_k_having c_k_fewest H.size r_size r_n r_parts r2.1 r2.2 r4 hr4) (cwV 0 hts gX9_questions_X0_fewestAtWorst rfl rfl rfl (by decide +kernel) ⟨Nat.le_of_ble_eq_true rfl, Nat.le_of_ble_eq_true rfl⟩) (kp_V hK hP hD hS hA hN (isC := [1, 3, 4, 5]) (isT := [1, 2]) (wc := [(a_r, .inr (6, [.ref a_r_rows, .ref a_r_ins, .int r_size, .int r_n, .int r_parts])), (a_k, .inr (0, [.ref a_r, .ref a_k_having, .ref a_k_fewest])), (a_k_having, .inl (c_k_having, 10, .inl r2.1)), (a_k_fewest, .inl (c_k_fewest, 4096, .inl r2.2))]) rfl (by decide +kernel) rfl (ci := 0) (q0 := 1) rfl rfl) rfl rfl hl.1 rfl (lv_room (Nat.le_of_ble_eq_true rfl)) dX9_questions_50 ⟨Nat.le_of_ble_eq_true rfl, Nat.le_of_ble_eq_true rfl⟩) hP hD hS hA rfl rfl (by decide +kernel) (by decide +kernel) rfl (by decide +kernel) (fun H locs hP hD hS => ?_)
          refine lv_goto (tgt := 63) hx hb dX9_questions_53 (by decide) ?_
          replace hs := Option.some.inj hs
          subst hs
          exact W.iret (v := r4.1) hx hb hr (fun t ht hW => ⟨⟨r4.1, (), rfl, rfl, by rw [ht]; exact hP, va_K.moved hW.alike hK, hD⟩, hS.F ht⟩) hS.2.2 dX9_questions_63
      · replace hs := it_f hc hs
        refine lv_bipush (v := (-3)) hx hb dX9_questions_32 (by decide) ?_
        replace hs := Option.some.inj hs
        subst hs
        exact W.iret (v := (-3)) hx hb hr (fun t ht hW => ⟨⟨(-3), (), rfl, rfl, by rw [ht]; exact hP, va_K.moved hW.alike hK, hD⟩, hS.F ht⟩) hS.2.2 dX9_questions_34
  · replace hs := it_t hc hs
    refine lv_bipush (v := (-2)) hx hb dX9_questions_7 (by decide) ?_
    replace hs := Option.some.inj hs
    subst hs
    exact W.iret (v := (-2)) hx hb hr (fun t ht hW => ⟨⟨(-2), (), rfl, rfl, by rw [ht]; exact hP, va_K.moved hW.alike hK, hD⟩, hS.F ht⟩) hS.2.2 dX9_questions_9
noncomputable def pX9_count (r_size : Int32) (r_n : Int32) (u_size : Int32) (p1 : Int32) : Option (Int32) :=
  if p1 = 0 then (some r_n) else (if p1 = 1 then (some r_size) else (if p1 = 2 then (some u_size) else (some (-2))))
set_option maxHeartbeats 4000000 in
set_option maxRecDepth 100000 in
theorem c_X9_count (l : Launch) (dC : Nat → ClassId) (dI : Nat → Nat → Nat) (a_x : Nat) (a_x_costs : Nat) (a_r : Nat) (a_r_rows : Nat) (a_r_ins : Nat) (a_u : Nat) (a_u_rows : Nat) (a_u_ins : Nat) (a_q : Nat) (a_h : Nat) (a_f : Nat) (a_w : Nat) (a_o : Nat) (a_z : Nat) (a_g : Nat) (a_k : Nat) (sz : Nat) (r_size : Int32) (r_n : Int32) (r_parts : Int32) (u_size : Int32) (u_n : Int32) (u_parts : Int32) (p1 : Int32) (rv : Int32) (hs : pX9_count r_size r_n u_size p1 = some rv) : Met l yX9_count wsX9_count ({ frames := 0, cells := 0, slots := 0, locals := 0 }) (sPc [.ref a_x, .int p1] (dC, dI) [] [(a_x, .inr (9, [.ref a_x_costs, .ref a_r, .ref a_u, .ref a_q, .ref a_h, .ref a_f, .ref a_w, .ref a_o, .ref a_z, .ref a_g, .ref a_k])), (a_r, .inr (6, [.ref a_r_rows, .ref a_r_ins, .int r_size, .int r_n, .int r_parts])), (a_u, .inr (6, [.ref a_u_rows, .ref a_u_ins, .int u_size, .int u_n, .int u_parts]))] sz) (va_Qi (fun (r : Int32) (_ : Unit) => r = rv) (sB (dC, dI) [] (va_A [(a_x, .inr (9, [.ref a_x_costs, .ref a_r, .ref a_u, .ref a_q, .ref a_h, .ref a_f, .ref a_w, .ref a_o, .ref a_z, .ref a_g, .ref a_k])), (a_r, .inr (6, [.ref a_r_rows, .ref a_r_ins, .int r_size, .int r_n, .int r_parts])), (a_u, .inr (6, [.ref a_u_rows, .ref a_u_ins, .int u_size, .int u_n, .int u_parts]))] sz) [(a_x, .inr (9, [.ref a_x_costs, .ref a_r, .ref a_u, .ref a_q, .ref a_h, .ref a_f, .ref a_w, .ref a_o, .ref a_z, .ref a_g, .ref a_k])), (a_r, .inr (6, [.ref a_r_rows, .ref a_r_ins, .int r_size, .int r_n, .int r_parts])), (a_u, .inr (6, [.ref a_u_rows, .ref a_u_ins, .int u_size, .int u_n, .int u_parts]))]) (va_A [(a_x, .inr (9, [.ref a_x_costs, .ref a_r, .ref a_u, .ref a_q, .ref a_h, .ref a_f, .ref a_w, .ref a_o, .ref a_z, .ref a_g, .ref a_k])), (a_r, .inr (6, [.ref a_r_rows, .ref a_r_ins, .int r_size, .int r_n, .int r_parts])), (a_u, .inr (6, [.ref a_u_rows, .ref a_u_ins, .int u_size, .int u_n, .int u_parts]))] sz)) 0 0 (va_A [(a_x, .inr (9, [.ref a_x_costs, .ref a_r, .ref a_u, .ref a_q, .ref a_h, .ref a_f, .ref a_w, .ref a_o, .ref a_z, .ref a_g, .ref a_k])), (a_r, .inr (6, [.ref a_r_rows, .ref a_r_ins, .int r_size, .int r_n, .int r_parts])), (a_u, .inr (6, [.ref a_u_rows, .ref a_u_ins, .int u_size, .int u_n, .int u_parts]))] sz) := by
  refine Met.ofW (cc := cX9_count) (maxL := 2) (ret := (some .int)) (by decide) rfl ?_
  intro p e s m args below meth c s₁ B hml hv
  obtain ⟨rfl, hsz, hP, hK, hD0, hN⟩ := hv
  have hx := B.exec
  have hb := B.bytes
  have hr := B.returns
  have hts := atoms_spec (ws := wsX9_count) B.pre
  have hown : s.vm.findClass RX9 = some m.cls := findClass_of_methodNamed B.named
  have hlocks := B.notSynchronized
  subst hsz
  have hD := hD0.self (sz := s.heap.size)
  generalize hAe : va_A [(a_x, .inr (9, [.ref a_x_costs, .ref a_r, .ref a_u, .ref a_q, .ref a_h, .ref a_f, .ref a_w, .ref a_o, .ref a_z, .ref a_g, .ref a_k])), (a_r, .inr (6, [.ref a_r_rows, .ref a_r_ins, .int r_size, .int r_n, .int r_parts])), (a_u, .inr (6, [.ref a_u_rows, .ref a_u_ins, .int u_size, .int u_n, .int u_parts]))] s.heap.size = A at hD hN ⊢
  have hA : ∀ q : Nat, s.heap.size ≤ q → A q := fun q h => by rw [← hAe]; exact Or.inr h
  have hS : va_S A s.heap s.heap [] := va_S.rf
  have hP : va_P (dC, dI) vwCl [(a_x, .inr (9, [.ref a_x_costs, .ref a_r, .ref a_u, .ref a_q, .ref a_h, .ref a_f, .ref a_w, .ref a_o, .ref a_z, .ref a_g, .ref a_k])), (a_r, .inr (6, [.ref a_r_rows, .ref a_r_ins, .int r_size, .int r_n, .int r_parts])), (a_u, .inr (6, [.ref a_u_rows, .ref a_u_ins, .int u_size, .int u_n, .int u_parts]))] s.heap := hP
  have hl := lv_entry ([.ref a_x, .int p1]) (n := 2) (Nat.le_of_ble_eq_true rfl)
  rw [lg_entry_eq]
  generalize (lg_sl ([.ref a_x, .int p1]) ++ List.replicate (2 - (lg_sl ([.ref a_x, .int p1])).length) Slot.unset).toArray = ls at hl ⊢
  have hl : lv_has ls 2 [(0, .ref a_x), (1, .int p1)] := hl
  have hiX9 : ∀ w ∈ wsX90, w ∈ wsX9_count := fun _ h => List.mem_cons_of_mem _ (List.mem_append_left _ (List.mem_append_right _ h))
  have hf23 := hts (.fieldLink RX9 23 "MeetSets" "list" "LMeetSets$SetRow;") (t1_ (al_ (al_ h1_)))
  have hiX6 : ∀ w ∈ wsX60, w ∈ wsX9_count := fun _ h => List.mem_cons_of_mem _ (List.mem_append_right _ h)
  have hf138 := hts (.fieldLink RX9 138 "MeetSets$SetRow" "n" "I") (t1_ (al_ (al_ (t1_ h1_))))
  have hf106 := hts (.fieldLink RX9 106 "MeetSets$SetRow" "size" "I") (t1_ (al_ (al_ (t1_ (t1_ h1_)))))
  have hf27 := hts (.fieldLink RX9 27 "MeetSets" "others" "LMeetSets$SetRow;") (t1_ (al_ (al_ (t1_ (t1_ (t1_ h1_))))))
  refine w_abs (fun Z hZv hZw => ?_)
  refine hZv ?_
  obtain ⟨H, hH⟩ : ∃ H, H = s.heap := ⟨_, rfl⟩
  obtain ⟨locs, hlo⟩ : ∃ L : List Loc, L = [] := ⟨_, rfl⟩
  rw [← hlo, ← hH]
  have hS : va_S A s.heap H locs := by rw [hlo, hH]; exact hS
  have hP : va_P (dC, dI) vwCl [(a_x, .inr (9, [.ref a_x_costs, .ref a_r, .ref a_u, .ref a_q, .ref a_h, .ref a_f, .ref a_w, .ref a_o, .ref a_z, .ref a_g, .ref a_k])), (a_r, .inr (6, [.ref a_r_rows, .ref a_r_ins, .int r_size, .int r_n, .int r_parts])), (a_u, .inr (6, [.ref a_u_rows, .ref a_u_ins, .int u_size, .int u_n, .int u_parts]))] H := by rw [hH]; exact hP
  clear hH hlo
  unfold pX9_count at hs
  refine lv_iload_n hx hb dX9_count_0 rfl (lv_at hl 1 rfl) ?_
  by_cases hc0 : p1 = 0
  · replace hs := it_t hc0 hs
    refine lv_tableIn (tgt := 28) hx hb dX9_count_1 (by rw [hc0]; decide) (by rw [hc0]; decide) (by rw [hc0]; rfl) (by decide) ?_
    refine lv_aload_n hx hb dX9_count_28 rfl (lv_at hl 0 rfl) ?_
    refine va_get (D := (dC, dI)) (ci := 9) (v := .ref a_r) (C := RX9) (T := TX9) (N := 11) hx hb hts hiX9 hown hK hP 0 rfl rfl 1 (by decide) hf23 (fun _ h9 => h9) rfl dX9_count_29 ?_
    refine va_get (D := (dC, dI)) (ci := 6) (v := .int r_n) (C := RX6) (T := TX6) (N := 5) hx hb hts hiX6 hown hK hP 1 rfl rfl 3 (by decide) hf138 (fun _ h9 => h9) rfl dX9_count_32 ?_
    replace hs := Option.some.inj hs
    subst hs
    exact W.iret (v := r_n) hx hb hr (fun t ht hW => ⟨⟨r_n, (), rfl, rfl, by rw [ht]; exact hP, va_K.moved hW.alike hK, hD⟩, hS.F ht⟩) hS.2.2 dX9_count_35
  · replace hs := it_f hc0 hs
    by_cases hc1 : p1 = 1
    · replace hs := it_t hc1 hs
      refine lv_tableIn (tgt := 36) hx hb dX9_count_1 (by rw [hc1]; decide) (by rw [hc1]; decide) (by rw [hc1]; rfl) (by decide) ?_
      refine lv_aload_n hx hb dX9_count_36 rfl (lv_at hl 0 rfl) ?_
      refine va_get (D := (dC, dI)) (ci := 9) (v := .ref a_r) (C := RX9) (T := TX9) (N := 11) hx hb hts hiX9 hown hK hP 0 rfl rfl 1 (by decide) hf23 (fun _ h9 => h9) rfl dX9_count_37 ?_
      refine va_get (D := (dC, dI)) (ci := 6) (v := .int r_size) (C := RX6) (T := TX6) (N := 5) hx hb hts hiX6 hown hK hP 1 rfl rfl 2 (by decide) hf106 (fun _ h9 => h9) rfl dX9_count_40 ?_
      replace hs := Option.some.inj hs
      subst hs
      exact W.iret (v := r_size) hx hb hr (fun t ht hW => ⟨⟨r_size, (), rfl, rfl, by rw [ht]; exact hP, va_K.moved hW.alike hK, hD⟩, hS.F ht⟩) hS.2.2 dX9_count_43
    · replace hs := it_f hc1 hs
      by_cases hc2 : p1 = 2
      · replace hs := it_t hc2 hs
        refine lv_tableIn (tgt := 44) hx hb dX9_count_1 (by rw [hc2]; decide) (by rw [hc2]; decide) (by rw [hc2]; rfl) (by decide) ?_
        refine lv_aload_n hx hb dX9_count_44 rfl (lv_at hl 0 rfl) ?_
        refine va_get (D := (dC, dI)) (ci := 9) (v := .ref a_u) (C := RX9) (T := TX9) (N := 11) hx hb hts hiX9 hown hK hP 0 rfl rfl 2 (by decide) hf27 (fun _ h9 => h9) rfl dX9_count_45 ?_
        refine va_get (D := (dC, dI)) (ci := 6) (v := .int u_size) (C := RX6) (T := TX6) (N := 5) hx hb hts hiX6 hown hK hP 2 rfl rfl 2 (by decide) hf106 (fun _ h9 => h9) rfl dX9_count_48 ?_
        replace hs := Option.some.inj hs
        subst hs
        exact W.iret (v := u_size) hx hb hr (fun t ht hW => ⟨⟨u_size, (), rfl, rfl, by rw [ht]; exact hP, va_K.moved hW.alike hK, hD⟩, hS.F ht⟩) hS.2.2 dX9_count_51
      · replace hs := it_f hc2 hs
        refine lv_tableOut (tgt := 52) hx hb dX9_count_1 (tb_out3 hc0 hc1 hc2) (by decide) ?_
        refine lv_bipush (v := (-2)) hx hb dX9_count_52 (by decide) ?_
        replace hs := Option.some.inj hs
        subst hs
        exact W.iret (v := (-2)) hx hb hr (fun t ht hW => ⟨⟨(-2), (), rfl, rfl, by rw [ht]; exact hP, va_K.moved hW.alike hK, hD⟩, hS.F ht⟩) hS.2.2 dX9_count_54
noncomputable def pX9_digest_L6 (r_size : Int32) (r_n : Int32) (u_size : Int32) (s6 : Int64 × Int32) : Option ((Int64 × Int32) ⊕ (Int64)) :=
  if 2 < s6.2 then (some (Sum.inr s6.1)) else (Option.bind (pX9_count r_size r_n u_size s6.2) (fun r2 => some (Sum.inl ((31 * s6.1) + r2.toInt64, s6.2 + 1))))
noncomputable def pX9_digest_L50 (x_costs : Nat → Int32) (r_n : Int32) (s50 : Int64 × Int32) : Option ((Int64 × Int32) ⊕ (Int64)) :=
  if r_n ≤ s50.2 then (some (Sum.inr s50.1)) else (gd (vp_in s50.2 10) (some (Sum.inl ((31 * s50.1) + ((x_costs s50.2.toNatClampNeg).toInt64), s50.2 + 1))))
noncomputable def pX9_digest (r_len : Nat) (u_len : Nat) (x_costs : Nat → Int32) (r_size : Int32) (r_n : Int32) (r_parts : Int32) (r_rows : Nat → Int32) (r_ins : Nat → Int32) (u_size : Int32) (u_rows : Nat → Int32) (q_above : Int64) (q_below : Int64) (f_bestBits : Int32) (f_bestCore : Int32) (f_bestCount : Int32) (z_left : Int32) (z_rest : Nat → Int32) : Option (Int64 × Int32 × Int32 × Int32 × Int32 × (Nat → Int32)) :=
  Option.bind (lp (pX9_digest_L6 r_size r_n u_size) (439, 0)) (fun e6 => Option.bind (pX6_mixedInto r_len r_size r_rows e6) (fun r3 => Option.bind (pX6_mixedInto u_len u_size u_rows r3) (fun r4 => Option.bind (lp (pX9_digest_L50 x_costs r_n) (r4, 0)) (fun e50 => Option.bind (pX9_meeters r_n r_parts r_ins) (fun r7 => Option.bind (pX9_best x_costs r_n r_parts r_ins 0) (fun r8 => Option.bind (pX9_best x_costs r_n r_parts r_ins 1) (fun r9 => Option.bind (pX9_apart r_len r_size r_rows f_bestBits f_bestCore f_bestCount) (fun r10 => Option.bind (pX9_ears r_len r_size r_rows z_left z_rest) (fun r11 => some ((31 * ((31 * ((31 * ((31 * ((31 * ((31 * ((31 * e50) + r7.toInt64)) + r8.toInt64)) + r9.toInt64)) + r10.1.toInt64)) + r11.1.toInt64)) + q_above)) + q_below, r10.2.1, r10.2.2.1, r10.2.2.2, r11.2.1, r11.2.2))))))))))
set_option maxHeartbeats 4000000 in
set_option maxRecDepth 100000 in
theorem c_X9_digest (l : Launch) (dC : Nat → ClassId) (dI : Nat → Nat → Nat) (a_x : Nat) (a_x_costs : Nat) (a_r : Nat) (a_r_rows : Nat) (a_r_ins : Nat) (a_u : Nat) (a_u_rows : Nat) (a_u_ins : Nat) (a_q : Nat) (a_h : Nat) (a_f : Nat) (a_w : Nat) (a_o : Nat) (a_z : Nat) (a_z_rest : Nat) (a_g : Nat) (a_k : Nat) (c_x_costs c_r_rows c_r_ins c_u_rows c_z_rest : ClassId) (r_len u_len : Nat) (sz : Nat) (x_costs : Nat → Int32) (r_size : Int32) (r_n : Int32) (r_parts : Int32) (r_rows : Nat → Int32) (r_ins : Nat → Int32) (u_size : Int32) (u_n : Int32) (u_parts : Int32) (u_rows : Nat → Int32) (q_above : Int64) (q_below : Int64) (f_bestBits : Int32) (f_bestCore : Int32) (f_bestCount : Int32) (z_left : Int32) (z_rest : Nat → Int32) (rv : Int64 × Int32 × Int32 × Int32 × Int32 × (Nat → Int32)) (hs : pX9_digest r_len u_len x_costs r_size r_n r_parts r_rows r_ins u_size u_rows q_above q_below f_bestBits f_bestCore f_bestCount z_left z_rest = some rv) : Met l yX9_digest wsX9_digest ({ frames := 23, cells := 0, slots := 0, locals := 643 }) (sPc [.ref a_x] (dC, dI) [(c_x_costs, .int), (c_r_rows, .int), (c_r_ins, .int), (c_u_rows, .int), (c_z_rest, .int)] [(a_x, .inr (9, [.ref a_x_costs, .ref a_r, .ref a_u, .ref a_q, .ref a_h, .ref a_f, .ref a_w, .ref a_o, .ref a_z, .ref a_g, .ref a_k])), (a_x_costs, .inl (c_x_costs, 10, .inl x_costs)), (a_r, .inr (6, [.ref a_r_rows, .ref a_r_ins, .int r_size, .int r_n, .int r_parts])), (a_r_rows, .inl (c_r_rows, r_len, .inl r_rows)), (a_r_ins, .inl (c_r_ins, 1024, .inl r_ins)), (a_u, .inr (6, [.ref a_u_rows, .ref a_u_ins, .int u_size, .int u_n, .int u_parts])), (a_u_rows, .inl (c_u_rows, u_len, .inl u_rows)), (a_q, .inr (4, [.long q_above, .long q_below])), (a_f, .inr (3, [.ref a_r, .int f_bestBits, .int f_bestCore, .int f_bestCount])), (a_z, .inr (2, [.ref a_r, .ref a_z_rest, .int z_left])), (a_z_rest, .inl (c_z_rest, 16, .inl z_rest))] sz) (va_Ql (fun (r : Int64) (_ : Unit) => r = rv.1) (sB (dC, dI) [(c_x_costs, .int), (c_r_rows, .int), (c_r_ins, .int), (c_u_rows, .int), (c_z_rest, .int)] (va_A [(a_x, .inr (9, [.ref a_x_costs, .ref a_r, .ref a_u, .ref a_q, .ref a_h, .ref a_f, .ref a_w, .ref a_o, .ref a_z, .ref a_g, .ref a_k])), (a_x_costs, .inl (c_x_costs, 10, .inl x_costs)), (a_r, .inr (6, [.ref a_r_rows, .ref a_r_ins, .int r_size, .int r_n, .int r_parts])), (a_r_rows, .inl (c_r_rows, r_len, .inl r_rows)), (a_r_ins, .inl (c_r_ins, 1024, .inl r_ins)), (a_u, .inr (6, [.ref a_u_rows, .ref a_u_ins, .int u_size, .int u_n, .int u_parts])), (a_u_rows, .inl (c_u_rows, u_len, .inl u_rows)), (a_q, .inr (4, [.long q_above, .long q_below])), (a_f, .inr (3, [.ref a_r, .int f_bestBits, .int f_bestCore, .int f_bestCount])), (a_z, .inr (2, [.ref a_r, .ref a_z_rest, .int z_left])), (a_z_rest, .inl (c_z_rest, 16, .inl z_rest))] sz) [(a_x, .inr (9, [.ref a_x_costs, .ref a_r, .ref a_u, .ref a_q, .ref a_h, .ref a_f, .ref a_w, .ref a_o, .ref a_z, .ref a_g, .ref a_k])), (a_x_costs, .inl (c_x_costs, 10, .inl x_costs)), (a_r, .inr (6, [.ref a_r_rows, .ref a_r_ins, .int r_size, .int r_n, .int r_parts])), (a_r_rows, .inl (c_r_rows, r_len, .inl r_rows)), (a_r_ins, .inl (c_r_ins, 1024, .inl r_ins)), (a_u, .inr (6, [.ref a_u_rows, .ref a_u_ins, .int u_size, .int u_n, .int u_parts])), (a_u_rows, .inl (c_u_rows, u_len, .inl u_rows)), (a_q, .inr (4, [.long q_above, .long q_below])), (a_f, .inr (3, [.ref a_r, .int rv.2.1, .int rv.2.2.1, .int rv.2.2.2.1])), (a_z, .inr (2, [.ref a_r, .ref a_z_rest, .int rv.2.2.2.2.1])), (a_z_rest, .inl (c_z_rest, 16, .inl rv.2.2.2.2.2))]) (va_A [(a_x, .inr (9, [.ref a_x_costs, .ref a_r, .ref a_u, .ref a_q, .ref a_h, .ref a_f, .ref a_w, .ref a_o, .ref a_z, .ref a_g, .ref a_k])), (a_x_costs, .inl (c_x_costs, 10, .inl x_costs)), (a_r, .inr (6, [.ref a_r_rows, .ref a_r_ins, .int r_size, .int r_n, .int r_parts])), (a_r_rows, .inl (c_r_rows, r_len, .inl r_rows)), (a_r_ins, .inl (c_r_ins, 1024, .inl r_ins)), (a_u, .inr (6, [.ref a_u_rows, .ref a_u_ins, .int u_size, .int u_n, .int u_parts])), (a_u_rows, .inl (c_u_rows, u_len, .inl u_rows)), (a_q, .inr (4, [.long q_above, .long q_below])), (a_f, .inr (3, [.ref a_r, .int f_bestBits, .int f_bestCore, .int f_bestCount])), (a_z, .inr (2, [.ref a_r, .ref a_z_rest, .int z_left])), (a_z_rest, .inl (c_z_rest, 16, .inl z_rest))] sz)) 0 0 (va_A [(a_x, .inr (9, [.ref a_x_costs, .ref a_r, .ref a_u, .ref a_q, .ref a_h, .ref a_f, .ref a_w, .ref a_o, .ref a_z, .ref a_g, .ref a_k])), (a_x_costs, .inl (c_x_costs, 10, .inl x_costs)), (a_r, .inr (6, [.ref a_r_rows, .ref a_r_ins, .int r_size, .int r_n, .int r_parts])), (a_r_rows, .inl (c_r_rows, r_len, .inl r_rows)), (a_r_ins, .inl (c_r_ins, 1024, .inl r_ins)), (a_u, .inr (6, [.ref a_u_rows, .ref a_u_ins, .int u_size, .int u_n, .int u_parts])), (a_u_rows, .inl (c_u_rows, u_len, .inl u_rows)), (a_q, .inr (4, [.long q_above, .long q_below])), (a_f, .inr (3, [.ref a_r, .int f_bestBits, .int f_bestCore, .int f_bestCount])), (a_z, .inr (2, [.ref a_r, .ref a_z_rest, .int z_left])), (a_z_rest, .inl (c_z_rest, 16, .inl z_rest))] sz) := by
  refine Met.ofW (cc := cX9_digest) (maxL := 4) (ret := (some .long)) (by decide) rfl ?_
  intro p e s m args below meth c s₁ B hml hv
  obtain ⟨rfl, hsz, hP, hK, hD0, hN⟩ := hv
  have hx := B.exec
  have hb := B.bytes
  have hr := B.returns
  have hts := atoms_spec (ws := wsX9_digest) B.pre
  have hown : s.vm.findClass RX9 = some m.cls := findClass_of_methodNamed B.named
  have hlocks := B.notSynchronized
  subst hsz
  have hD := hD0.self (sz := s.heap.size)
  generalize hAe : va_A [(a_x, .inr (9, [.ref a_x_costs, .ref a_r, .ref a_u, .ref a_q, .ref a_h, .ref a_f, .ref a_w, .ref a_o, .ref a_z, .ref a_g, .ref a_k])), (a_x_costs, .inl (c_x_costs, 10, .inl x_costs)), (a_r, .inr (6, [.ref a_r_rows, .ref a_r_ins, .int r_size, .int r_n, .int r_parts])), (a_r_rows, .inl (c_r_rows, r_len, .inl r_rows)), (a_r_ins, .inl (c_r_ins, 1024, .inl r_ins)), (a_u, .inr (6, [.ref a_u_rows, .ref a_u_ins, .int u_size, .int u_n, .int u_parts])), (a_u_rows, .inl (c_u_rows, u_len, .inl u_rows)), (a_q, .inr (4, [.long q_above, .long q_below])), (a_f, .inr (3, [.ref a_r, .int f_bestBits, .int f_bestCore, .int f_bestCount])), (a_z, .inr (2, [.ref a_r, .ref a_z_rest, .int z_left])), (a_z_rest, .inl (c_z_rest, 16, .inl z_rest))] s.heap.size = A at hD hN ⊢
  have hA : ∀ q : Nat, s.heap.size ≤ q → A q := fun q h => by rw [← hAe]; exact Or.inr h
  have hS : va_S A s.heap s.heap [] := va_S.rf
  have hP : va_P (dC, dI) vwCl [(a_x, .inr (9, [.ref a_x_costs, .ref a_r, .ref a_u, .ref a_q, .ref a_h, .ref a_f, .ref a_w, .ref a_o, .ref a_z, .ref a_g, .ref a_k])), (a_x_costs, .inl (c_x_costs, 10, .inl x_costs)), (a_r, .inr (6, [.ref a_r_rows, .ref a_r_ins, .int r_size, .int r_n, .int r_parts])), (a_r_rows, .inl (c_r_rows, r_len, .inl r_rows)), (a_r_ins, .inl (c_r_ins, 1024, .inl r_ins)), (a_u, .inr (6, [.ref a_u_rows, .ref a_u_ins, .int u_size, .int u_n, .int u_parts])), (a_u_rows, .inl (c_u_rows, u_len, .inl u_rows)), (a_q, .inr (4, [.long q_above, .long q_below])), (a_f, .inr (3, [.ref a_r, .int f_bestBits, .int f_bestCore, .int f_bestCount])), (a_z, .inr (2, [.ref a_r, .ref a_z_rest, .int z_left])), (a_z_rest, .inl (c_z_rest, 16, .inl z_rest))] s.heap := hP
  have hl := lv_entry ([.ref a_x]) (n := 4) (Nat.le_of_ble_eq_true rfl)
  rw [lg_entry_eq]
  generalize (lg_sl ([.ref a_x]) ++ List.replicate (4 - (lg_sl ([.ref a_x])).length) Slot.unset).toArray = ls at hl ⊢
  have hl : lv_has ls 4 [(0, .ref a_x)] := hl
  have hiX9 : ∀ w ∈ wsX90, w ∈ wsX9_digest := fun _ h => List.mem_cons_of_mem _ (List.mem_append_left _ (List.mem_append_left _ (List.mem_append_left _ (List.mem_append_left _ (List.mem_append_right _ h)))))
  have hf23 := hts (.fieldLink RX9 23 "MeetSets" "list" "LMeetSets$SetRow;") (t1_ (al_ (al_ (al_ (al_ (al_ (al_ (t1_ (t1_ h1_)))))))))
  have hf27 := hts (.fieldLink RX9 27 "MeetSets" "others" "LMeetSets$SetRow;") (t1_ (al_ (al_ (al_ (al_ (al_ (al_ (t1_ (t1_ (t1_ h1_))))))))))
  have hiX6 : ∀ w ∈ wsX60, w ∈ wsX9_digest := fun _ h => List.mem_cons_of_mem _ (List.mem_append_left _ (List.mem_append_left _ (List.mem_append_left _ (List.mem_append_right _ h))))
  have hf138 := hts (.fieldLink RX9 138 "MeetSets$SetRow" "n" "I") (t1_ (al_ (al_ (al_ (al_ (al_ (al_ (t4_ h1_))))))))
  have hf9 := hts (.fieldLink RX9 9 "MeetSets" "costs" "[I") (t1_ (al_ (al_ (al_ (al_ (al_ (al_ (t4_ (t1_ h1_)))))))))
  have hf33 := hts (.fieldLink RX9 33 "MeetSets" "fraction" "LMeetSets$Fraction;") (t1_ (al_ (al_ (al_ (al_ (al_ (al_ (t4_ (t1_ (t1_ h1_))))))))))
  have hiX4 : ∀ w ∈ wsX40, w ∈ wsX9_digest := fun _ h => List.mem_cons_of_mem _ (List.mem_append_left _ (List.mem_append_left _ (List.mem_append_right _ h)))
  have hf198 := hts (.fieldLink RX9 198 "MeetSets$Fraction" "above" "J") (t1_ (al_ (al_ (al_ (al_ (al_ (al_ (t4_ (t1_ (t1_ (t1_ h1_)))))))))))
  have hf201 := hts (.fieldLink RX9 201 "MeetSets$Fraction" "below" "J") (t1_ (al_ (al_ (al_ (al_ (al_ (al_ (t4_ (t4_ h1_)))))))))
  refine w_abs (fun Z hZv hZw => ?_)
  refine hZv ?_
  obtain ⟨H, hH⟩ : ∃ H, H = s.heap := ⟨_, rfl⟩
  obtain ⟨locs, hlo⟩ : ∃ L : List Loc, L = [] := ⟨_, rfl⟩
  rw [← hlo, ← hH]
  have hS : va_S A s.heap H locs := by rw [hlo, hH]; exact hS
  have hP : va_P (dC, dI) vwCl [(a_x, .inr (9, [.ref a_x_costs, .ref a_r, .ref a_u, .ref a_q, .ref a_h, .ref a_f, .ref a_w, .ref a_o, .ref a_z, .ref a_g, .ref a_k])), (a_x_costs, .inl (c_x_costs, 10, .inl x_costs)), (a_r, .inr (6, [.ref a_r_rows, .ref a_r_ins, .int r_size, .int r_n, .int r_parts])), (a_r_rows, .inl (c_r_rows, r_len, .inl r_rows)), (a_r_ins, .inl (c_r_ins, 1024, .inl r_ins)), (a_u, .inr (6, [.ref a_u_rows, .ref a_u_ins, .int u_size, .int u_n, .int u_parts])), (a_u_rows, .inl (c_u_rows, u_len, .inl u_rows)), (a_q, .inr (4, [.long q_above, .long q_below])), (a_f, .inr (3, [.ref a_r, .int f_bestBits, .int f_bestCore, .int f_bestCount])), (a_z, .inr (2, [.ref a_r, .ref a_z_rest, .int z_left])), (a_z_rest, .inl (c_z_rest, 16, .inl z_rest))] H := by rw [hH]; exact hP
  clear hH hlo
  unfold pX9_digest at hs
  refine lv_ldc2 (v := 439) hx hb hown (hts (.constantLong RX9 216 (439)) (t1_ (al_ (al_ (al_ (al_ (al_ (al_ h1_)))))))) dX9_digest_0 ?_
  refine lv_lstore_n (lv' := [(1, .long 439), (0, .ref a_x)]) hx hb dX9_digest_3 rfl hl (by decide) rfl (fun ls hl => ?_)
  refine lv_iconst (v := 0) hx hb dX9_digest_4 (by decide) ?_
  refine lv_istore_n (lv' := [(3, .int 0), (1, .long 439), (0, .ref a_x)]) hx hb dX9_digest_5 rfl hl (by decide) rfl (fun ls hl => ?_)
  obtain ⟨e6, he6, hs⟩ := bd_s hs
  have hX6 : ∀ (H : Heap) (locs : List Loc) (ls : Array Slot), va_P (dC, dI) vwCl [(a_x, .inr (9, [.ref a_x_costs, .ref a_r, .ref a_u, .ref a_q, .ref a_h, .ref a_f, .ref a_w, .ref a_o, .ref a_z, .ref a_g, .ref a_k])), (a_x_costs, .inl (c_x_costs, 10, .inl x_costs)), (a_r, .inr (6, [.ref a_r_rows, .ref a_r_ins, .int r_size, .int r_n, .int r_parts])), (a_r_rows, .inl (c_r_rows, r_len, .inl r_rows)), (a_r_ins, .inl (c_r_ins, 1024, .inl r_ins)), (a_u, .inr (6, [.ref a_u_rows, .ref a_u_ins, .int u_size, .int u_n, .int u_parts])), (a_u_rows, .inl (c_u_rows, u_len, .inl u_rows)), (a_q, .inr (4, [.long q_above, .long q_below])), (a_f, .inr (3, [.ref a_r, .int f_bestBits, .int f_bestCore, .int f_bestCount])), (a_z, .inr (2, [.ref a_r, .ref a_z_rest, .int z_left])), (a_z_rest, .inl (c_z_rest, 16, .inl z_rest))] H → va_D A [(a_x, .inr (9, [.ref a_x_costs, .ref a_r, .ref a_u, .ref a_q, .ref a_h, .ref a_f, .ref a_w, .ref a_o, .ref a_z, .ref a_g, .ref a_k])), (a_x_costs, .inl (c_x_costs, 10, .inl x_costs)), (a_r, .inr (6, [.ref a_r_rows, .ref a_r_ins, .int r_size, .int r_n, .int r_parts])), (a_r_rows, .inl (c_r_rows, r_len, .inl r_rows)), (a_r_ins, .inl (c_r_ins, 1024, .inl r_ins)), (a_u, .inr (6, [.ref a_u_rows, .ref a_u_ins, .int u_size, .int u_n, .int u_parts])), (a_u_rows, .inl (c_u_rows, u_len, .inl u_rows)), (a_q, .inr (4, [.long q_above, .long q_below])), (a_f, .inr (3, [.ref a_r, .int f_bestBits, .int f_bestCore, .int f_bestCount])), (a_z, .inr (2, [.ref a_r, .ref a_z_rest, .int z_left])), (a_z_rest, .inl (c_z_rest, 16, .inl z_rest))] → va_S A s.heap H locs → lv_has ls 4 [(0, .ref a_x), (1, .long e6)] → Z H locs 0 0 (F0 m 30 ls []) := by
    intro H locs ls hP hD hS hl
    refine hZv ?_
    refine lv_aload_n hx hb dX9_digest_30 rfl (lv_at hl 0 rfl) ?_
    refine va_get (D := (dC, dI)) (ci := 9) (v := .ref a_r) (C := RX9) (T := TX9) (N := 11) hx hb hts hiX9 hown hK hP 0 rfl rfl 1 (by decide) hf23 (fun _ h9 => h9) rfl dX9_digest_31 ?_
    refine lv_lload_n hx hb dX9_digest_34 rfl (lv_at hl 1 rfl) ?_
    obtain ⟨r3, hr3, hs⟩ := bd_s hs
    refine kc_l (isC := [2, 3]) (isR := [0, 1, 4, 5, 6, 7, 8, 9, 10]) (pm := [0, 1, 9, 10, 2, 3, 4, 5, 6, 7, 8]) (wr := [(a_x, .inr (9, [.ref a_x_costs, .ref a_r, .ref a_u, .ref a_q, .ref a_h, .ref a_f, .ref a_w, .ref a_o, .ref a_z, .ref a_g, .ref a_k])), (a_x_costs, .inl (c_x_costs, 10, .inl x_costs)), (a_r_ins, .inl (c_r_ins, 1024, .inl r_ins)), (a_u, .inr (6, [.ref a_u_rows, .ref a_u_ins, .int u_size, .int u_n, .int u_parts])), (a_u_rows, .inl (c_u_rows, u_len, .inl u_rows)), (a_q, .inr (4, [.long q_above, .long q_below])), (a_f, .inr (3, [.ref a_r, .int f_bestBits, .int f_bestCore, .int f_bestCount])), (a_z, .inr (2, [.ref a_r, .ref a_z_rest, .int z_left])), (a_z_rest, .inl (c_z_rest, 16, .inl z_rest))]) (w1 := [(a_r, .inr (6, [.ref a_r_rows, .ref a_r_ins, .int r_size, .int r_n, .int r_parts])), (a_r_rows, .inl (c_r_rows, r_len, .inl r_rows))]) (w2 := [(a_x, .inr (9, [.ref a_x_costs, .ref a_r, .ref a_u, .ref a_q, .ref a_h, .ref a_f, .ref a_w, .ref a_o, .ref a_z, .ref a_g, .ref a_k])), (a_x_costs, .inl (c_x_costs, 10, .inl x_costs)), (a_r, .inr (6, [.ref a_r_rows, .ref a_r_ins, .int r_size, .int r_n, .int r_parts])), (a_r_rows, .inl (c_r_rows, r_len, .inl r_rows)), (a_r_ins, .inl (c_r_ins, 1024, .inl r_ins)), (a_u, .inr (6, [.ref a_u_rows, .ref a_u_ins, .int u_size, .int u_n, .int u_parts])), (a_u_rows, .inl (c_u_rows, u_len, .inl u_rows)), (a_q, .inr (4, [.long q_above, .long q_below])), (a_f, .inr (3, [.ref a_r, .int f_bestBits, .int f_bestCore, .int f_bestCount])), (a_z, .inr (2, [.ref a_r, .ref a_z_rest, .int z_left])), (a_z_rest, .inl (c_z_rest, 16, .inl z_rest))]) (va_runV (As := [.long e6]) (rest := []) ⟨hx, hb, hml, hown, hts⟩ (c_X6_mixedInto l dC dI a_r a_r_rows a_r_ins c_r_rows r_len H.size r_size r_n r_parts r_rows e6 r3 hr3) (cwV 1 hts gX9_digest_X6_mixedInto rfl rfl rfl (by decide +kernel) ⟨Nat.le_of_ble_eq_true rfl, Nat.le_of_ble_eq_true rfl⟩) (kp_V hK hP hD hS hA hN (isC := [2, 3]) (isT := [1]) (wc := [(a_r, .inr (6, [.ref a_r_rows, .ref a_r_ins, .int r_size, .int r_n, .int r_parts])), (a_r_rows, .inl (c_r_rows, r_len, .inl r_rows))]) rfl (by decide +kernel) rfl (ci := 6) (q0 := 0) rfl rfl) rfl rfl hl.1 rfl (lv_room (Nat.le_of_ble_eq_true rfl)) dX9_digest_35 ⟨Nat.le_of_ble_eq_true rfl, Nat.le_of_ble_eq_true rfl⟩) hP hD hS hA rfl rfl (by decide +kernel) (by decide +kernel) rfl (by decide +kernel) (fun H locs hP hD hS => ?_)
    refine lv_lstore_n (lv' := [(1, .long r3), (0, .ref a_x)]) hx hb dX9_digest_38 rfl hl (by decide) rfl (fun ls hl => ?_)
    refine lv_aload_n hx hb dX9_digest_39 rfl (lv_at hl 1 rfl) ?_
    refine va_get (D := (dC, dI)) (ci := 9) (v := .ref a_u) (C := RX9) (T := TX9) (N := 11) hx hb hts hiX9 hown hK hP 0 rfl rfl 2 (by decide) hf27 (fun _ h9 => h9) rfl dX9_digest_40 ?_
    refine lv_lload_n hx hb dX9_digest_43 rfl (lv_at hl 0 rfl) ?_
    obtain ⟨r4, hr4, hs⟩ := bd_s hs
    refine kc_l (isC := [5, 6]) (isR := [0, 1, 2, 3, 4, 7, 8, 9, 10]) (pm := [0, 1, 2, 3, 4, 9, 10, 5, 6, 7, 8]) (wr := [(a_x, .inr (9, [.ref a_x_costs, .ref a_r, .ref a_u, .ref a_q, .ref a_h, .ref a_f, .ref a_w, .ref a_o, .ref a_z, .ref a_g, .ref a_k])), (a_x_costs, .inl (c_x_costs, 10, .inl x_costs)), (a_r, .inr (6, [.ref a_r_rows, .ref a_r_ins, .int r_size, .int r_n, .int r_parts])), (a_r_rows, .inl (c_r_rows, r_len, .inl r_rows)), (a_r_ins, .inl (c_r_ins, 1024, .inl r_ins)), (a_q, .inr (4, [.long q_above, .long q_below])), (a_f, .inr (3, [.ref a_r, .int f_bestBits, .int f_bestCore, .int f_bestCount])), (a_z, .inr (2, [.ref a_r, .ref a_z_rest, .int z_left])), (a_z_rest, .inl (c_z_rest, 16, .inl z_rest))]) (w1 := [(a_u, .inr (6, [.ref a_u_rows, .ref a_u_ins, .int u_size, .int u_n, .int u_parts])), (a_u_rows, .inl (c_u_rows, u_len, .inl u_rows))]) (w2 := [(a_x, .inr (9, [.ref a_x_costs, .ref a_r, .ref a_u, .ref a_q, .ref a_h, .ref a_f, .ref a_w, .ref a_o, .ref a_z, .ref a_g, .ref a_k])), (a_x_costs, .inl (c_x_costs, 10, .inl x_costs)), (a_r, .inr (6, [.ref a_r_rows, .ref a_r_ins, .int r_size, .int r_n, .int r_parts])), (a_r_rows, .inl (c_r_rows, r_len, .inl r_rows)), (a_r_ins, .inl (c_r_ins, 1024, .inl r_ins)), (a_u, .inr (6, [.ref a_u_rows, .ref a_u_ins, .int u_size, .int u_n, .int u_parts])), (a_u_rows, .inl (c_u_rows, u_len, .inl u_rows)), (a_q, .inr (4, [.long q_above, .long q_below])), (a_f, .inr (3, [.ref a_r, .int f_bestBits, .int f_bestCore, .int f_bestCount])), (a_z, .inr (2, [.ref a_r, .ref a_z_rest, .int z_left])), (a_z_rest, .inl (c_z_rest, 16, .inl z_rest))]) (va_runV (As := [.long r3]) (rest := []) ⟨hx, hb, hml, hown, hts⟩ (c_X6_mixedInto l dC dI a_u a_u_rows a_u_ins c_u_rows u_len H.size u_size u_n u_parts u_rows r3 r4 hr4) (cwV 1 hts gX9_digest_X6_mixedInto rfl rfl rfl (by decide +kernel) ⟨Nat.le_of_ble_eq_true rfl, Nat.le_of_ble_eq_true rfl⟩) (kp_V hK hP hD hS hA hN (isC := [5, 6]) (isT := [3]) (wc := [(a_u, .inr (6, [.ref a_u_rows, .ref a_u_ins, .int u_size, .int u_n, .int u_parts])), (a_u_rows, .inl (c_u_rows, u_len, .inl u_rows))]) rfl (by decide +kernel) rfl (ci := 6) (q0 := 0) rfl rfl) rfl rfl hl.1 rfl (lv_room (Nat.le_of_ble_eq_true rfl)) dX9_digest_44 ⟨Nat.le_of_ble_eq_true rfl, Nat.le_of_ble_eq_true rfl⟩) hP hD hS hA rfl rfl (by decide +kernel) (by decide +kernel) rfl (by decide +kernel) (fun H locs hP hD hS => ?_)
    refine lv_lstore_n (lv' := [(1, .long r4), (0, .ref a_x)]) hx hb dX9_digest_47 rfl hl (by decide) rfl (fun ls hl => ?_)
    refine lv_iconst (v := 0) hx hb dX9_digest_48 (by decide) ?_
    refine lv_istore_n (lv' := [(3, .int 0), (1, .long r4), (0, .ref a_x)]) hx hb dX9_digest_49 rfl hl (by decide) rfl (fun ls hl => ?_)
    obtain ⟨e50, he50, hs⟩ := bd_s hs
    have hX50 : ∀ (H : Heap) (locs : List Loc) (ls : Array Slot), va_P (dC, dI) vwCl [(a_x, .inr (9, [.ref a_x_costs, .ref a_r, .ref a_u, .ref a_q, .ref a_h, .ref a_f, .ref a_w, .ref a_o, .ref a_z, .ref a_g, .ref a_k])), (a_x_costs, .inl (c_x_costs, 10, .inl x_costs)), (a_r, .inr (6, [.ref a_r_rows, .ref a_r_ins, .int r_size, .int r_n, .int r_parts])), (a_r_rows, .inl (c_r_rows, r_len, .inl r_rows)), (a_r_ins, .inl (c_r_ins, 1024, .inl r_ins)), (a_u, .inr (6, [.ref a_u_rows, .ref a_u_ins, .int u_size, .int u_n, .int u_parts])), (a_u_rows, .inl (c_u_rows, u_len, .inl u_rows)), (a_q, .inr (4, [.long q_above, .long q_below])), (a_f, .inr (3, [.ref a_r, .int f_bestBits, .int f_bestCore, .int f_bestCount])), (a_z, .inr (2, [.ref a_r, .ref a_z_rest, .int z_left])), (a_z_rest, .inl (c_z_rest, 16, .inl z_rest))] H → va_D A [(a_x, .inr (9, [.ref a_x_costs, .ref a_r, .ref a_u, .ref a_q, .ref a_h, .ref a_f, .ref a_w, .ref a_o, .ref a_z, .ref a_g, .ref a_k])), (a_x_costs, .inl (c_x_costs, 10, .inl x_costs)), (a_r, .inr (6, [.ref a_r_rows, .ref a_r_ins, .int r_size, .int r_n, .int r_parts])), (a_r_rows, .inl (c_r_rows, r_len, .inl r_rows)), (a_r_ins, .inl (c_r_ins, 1024, .inl r_ins)), (a_u, .inr (6, [.ref a_u_rows, .ref a_u_ins, .int u_size, .int u_n, .int u_parts])), (a_u_rows, .inl (c_u_rows, u_len, .inl u_rows)), (a_q, .inr (4, [.long q_above, .long q_below])), (a_f, .inr (3, [.ref a_r, .int f_bestBits, .int f_bestCore, .int f_bestCount])), (a_z, .inr (2, [.ref a_r, .ref a_z_rest, .int z_left])), (a_z_rest, .inl (c_z_rest, 16, .inl z_rest))] → va_S A s.heap H locs → lv_has ls 4 [(0, .ref a_x), (1, .long e50)] → Z H locs 0 0 (F0 m 81 ls []) := by
      intro H locs ls hP hD hS hl
      refine hZv ?_
      refine lv_ldc2 (v := 31) hx hb hown (hts (.constantLong RX9 218 (31)) (t1_ (al_ (al_ (al_ (al_ (al_ (al_ (t1_ h1_))))))))) dX9_digest_81 ?_
      refine lv_lload_n hx hb dX9_digest_84 rfl (lv_at hl 1 rfl) ?_
      refine lv_lmul hx hb dX9_digest_85 ?_
      refine lv_aload_n hx hb dX9_digest_86 rfl (lv_at hl 0 rfl) ?_
      obtain ⟨r7, hr7, hs⟩ := bd_s hs
      refine kc_i (isC := [0, 2, 4]) (isR := [1, 3, 5, 6, 7, 8, 9, 10]) (pm := [8, 0, 9, 1, 10, 2, 3, 4, 5, 6, 7]) (wr := [(a_x_costs, .inl (c_x_costs, 10, .inl x_costs)), (a_r_rows, .inl (c_r_rows, r_len, .inl r_rows)), (a_u, .inr (6, [.ref a_u_rows, .ref a_u_ins, .int u_size, .int u_n, .int u_parts])), (a_u_rows, .inl (c_u_rows, u_len, .inl u_rows)), (a_q, .inr (4, [.long q_above, .long q_below])), (a_f, .inr (3, [.ref a_r, .int f_bestBits, .int f_bestCore, .int f_bestCount])), (a_z, .inr (2, [.ref a_r, .ref a_z_rest, .int z_left])), (a_z_rest, .inl (c_z_rest, 16, .inl z_rest))]) (w1 := [(a_x, .inr (9, [.ref a_x_costs, .ref a_r, .ref a_u, .ref a_q, .ref a_h, .ref a_f, .ref a_w, .ref a_o, .ref a_z, .ref a_g, .ref a_k])), (a_r, .inr (6, [.ref a_r_rows, .ref a_r_ins, .int r_size, .int r_n, .int r_parts])), (a_r_ins, .inl (c_r_ins, 1024, .inl r_ins))]) (w2 := [(a_x, .inr (9, [.ref a_x_costs, .ref a_r, .ref a_u, .ref a_q, .ref a_h, .ref a_f, .ref a_w, .ref a_o, .ref a_z, .ref a_g, .ref a_k])), (a_x_costs, .inl (c_x_costs, 10, .inl x_costs)), (a_r, .inr (6, [.ref a_r_rows, .ref a_r_ins, .int r_size, .int r_n, .int r_parts])), (a_r_rows, .inl (c_r_rows, r_len, .inl r_rows)), (a_r_ins, .inl (c_r_ins, 1024, .inl r_ins)), (a_u, .inr (6, [.ref a_u_rows, .ref a_u_ins, .int u_size, .int u_n, .int u_parts])), (a_u_rows, .inl (c_u_rows, u_len, .inl u_rows)), (a_q, .inr (4, [.long q_above, .long q_below])), (a_f, .inr (3, [.ref a_r, .int f_bestBits, .int f_bestCore, .int f_bestCount])), (a_z, .inr (2, [.ref a_r, .ref a_z_rest, .int z_left])), (a_z_rest, .inl (c_z_rest, 16, .inl z_rest))]) (va_runV (As := []) (rest := [.long (31 * e50)]) ⟨hx, hb, hml, hown, hts⟩ (c_X9_meeters l dC dI a_x a_x_costs a_r a_r_rows a_r_ins a_u a_q a_h a_f a_w a_o a_z a_g a_k c_r_ins H.size r_size r_n r_parts r_ins r7 hr7) (cwV 0 hts gX9_digest_X9_meeters rfl rfl rfl (by decide +kernel) ⟨Nat.le_of_ble_eq_true rfl, Nat.le_of_ble_eq_true rfl⟩) (kp_V hK hP hD hS hA hN (isC := [0, 2, 4]) (isT := [2]) (wc := [(a_x, .inr (9, [.ref a_x_costs, .ref a_r, .ref a_u, .ref a_q, .ref a_h, .ref a_f, .ref a_w, .ref a_o, .ref a_z, .ref a_g, .ref a_k])), (a_r, .inr (6, [.ref a_r_rows, .ref a_r_ins, .int r_size, .int r_n, .int r_parts])), (a_r_ins, .inl (c_r_ins, 1024, .inl r_ins))]) rfl (by decide +kernel) rfl (ci := 9) (q0 := 0) rfl rfl) rfl rfl hl.1 rfl (lv_room (Nat.le_of_ble_eq_true rfl)) dX9_digest_87 ⟨Nat.le_of_ble_eq_true rfl, Nat.le_of_ble_eq_true rfl⟩) hP hD hS hA rfl rfl (by decide +kernel) (by decide +kernel) rfl (by decide +kernel) (fun H locs hP hD hS => ?_)
      refine lv_i2l (v := r7.toInt64) hx hb dX9_digest_90 rfl ?_
      refine lv_ladd hx hb dX9_digest_91 ?_
      refine lv_lstore_n (lv' := [(1, .long ((31 * e50) + r7.toInt64)), (0, .ref a_x)]) hx hb dX9_digest_92 rfl hl (by decide) rfl (fun ls hl => ?_)
      refine lv_ldc2 (v := 31) hx hb hown (hts (.constantLong RX9 218 (31)) (t1_ (al_ (al_ (al_ (al_ (al_ (al_ (t1_ h1_))))))))) dX9_digest_93 ?_
      refine lv_lload_n hx hb dX9_digest_96 rfl (lv_at hl 0 rfl) ?_
      refine lv_lmul hx hb dX9_digest_97 ?_
      refine lv_aload_n hx hb dX9_digest_98 rfl (lv_at hl 1 rfl) ?_
      refine lv_iconst (v := 0) hx hb dX9_digest_99 (by decide) ?_
      obtain ⟨r8, hr8, hs⟩ := bd_s hs
      refine kc_i (isC := [0, 1, 2, 4]) (isR := [3, 5, 6, 7, 8, 9, 10]) (pm := [7, 8, 9, 0, 10, 1, 2, 3, 4, 5, 6]) (wr := [(a_r_rows, .inl (c_r_rows, r_len, .inl r_rows)), (a_u, .inr (6, [.ref a_u_rows, .ref a_u_ins, .int u_size, .int u_n, .int u_parts])), (a_u_rows, .inl (c_u_rows, u_len, .inl u_rows)), (a_q, .inr (4, [.long q_above, .long q_below])), (a_f, .inr (3, [.ref a_r, .int f_bestBits, .int f_bestCore, .int f_bestCount])), (a_z, .inr (2, [.ref a_r, .ref a_z_rest, .int z_left])), (a_z_rest, .inl (c_z_rest, 16, .inl z_rest))]) (w1 := [(a_x, .inr (9, [.ref a_x_costs, .ref a_r, .ref a_u, .ref a_q, .ref a_h, .ref a_f, .ref a_w, .ref a_o, .ref a_z, .ref a_g, .ref a_k])), (a_x_costs, .inl (c_x_costs, 10, .inl x_costs)), (a_r, .inr (6, [.ref a_r_rows, .ref a_r_ins, .int r_size, .int r_n, .int r_parts])), (a_r_ins, .inl (c_r_ins, 1024, .inl r_ins))]) (w2 := [(a_x, .inr (9, [.ref a_x_costs, .ref a_r, .ref a_u, .ref a_q, .ref a_h, .ref a_f, .ref a_w, .ref a_o, .ref a_z, .ref a_g, .ref a_k])), (a_x_costs, .inl (c_x_costs, 10, .inl x_costs)), (a_r, .inr (6, [.ref a_r_rows, .ref a_r_ins, .int r_size, .int r_n, .int r_parts])), (a_r_rows, .inl (c_r_rows, r_len, .inl r_rows)), (a_r_ins, .inl (c_r_ins, 1024, .inl r_ins)), (a_u, .inr (6, [.ref a_u_rows, .ref a_u_ins, .int u_size, .int u_n, .int u_parts])), (a_u_rows, .inl (c_u_rows, u_len, .inl u_rows)), (a_q, .inr (4, [.long q_above, .long q_below])), (a_f, .inr (3, [.ref a_r, .int f_bestBits, .int f_bestCore, .int f_bestCount])), (a_z, .inr (2, [.ref a_r, .ref a_z_rest, .int z_left])), (a_z_rest, .inl (c_z_rest, 16, .inl z_rest))]) (va_runV (As := [.int 0]) (rest := [.long (31 * ((31 * e50) + r7.toInt64))]) ⟨hx, hb, hml, hown, hts⟩ (c_X9_best l dC dI a_x a_x_costs a_r a_r_rows a_r_ins a_u a_q a_h a_f a_w a_o a_z a_g a_k c_x_costs c_r_ins H.size x_costs r_size r_n r_parts r_ins 0 r8 hr8) (cwV 1 hts gX9_digest_X9_best rfl rfl rfl (by decide +kernel) ⟨Nat.le_of_ble_eq_true rfl, Nat.le_of_ble_eq_true rfl⟩) (kp_V hK hP hD hS hA hN (isC := [0, 1, 2, 4]) (isT := [0, 2]) (wc := [(a_x, .inr (9, [.ref a_x_costs, .ref a_r, .ref a_u, .ref a_q, .ref a_h, .ref a_f, .ref a_w, .ref a_o, .ref a_z, .ref a_g, .ref a_k])), (a_x_costs, .inl (c_x_costs, 10, .inl x_costs)), (a_r, .inr (6, [.ref a_r_rows, .ref a_r_ins, .int r_size, .int r_n, .int r_parts])), (a_r_ins, .inl (c_r_ins, 1024, .inl r_ins))]) rfl (by decide +kernel) rfl (ci := 9) (q0 := 0) rfl rfl) rfl rfl hl.1 rfl (lv_room (Nat.le_of_ble_eq_true rfl)) dX9_digest_100 ⟨Nat.le_of_ble_eq_true rfl, Nat.le_of_ble_eq_true rfl⟩) hP hD hS hA rfl rfl (by decide +kernel) (by decide +kernel) rfl (by decide +kernel) (fun H locs hP hD hS => ?_)
      refine lv_i2l (v := r8.toInt64) hx hb dX9_digest_103 rfl ?_
      refine lv_ladd hx hb dX9_digest_104 ?_
      refine lv_lstore_n (lv' := [(1, .long ((31 * ((31 * e50) + r7.toInt64)) + r8.toInt64)), (0, .ref a_x)]) hx hb dX9_digest_105 rfl hl (by decide) rfl (fun ls hl => ?_)
      refine lv_ldc2 (v := 31) hx hb hown (hts (.constantLong RX9 218 (31)) (t1_ (al_ (al_ (al_ (al_ (al_ (al_ (t1_ h1_))))))))) dX9_digest_106 ?_
      refine lv_lload_n hx hb dX9_digest_109 rfl (lv_at hl 0 rfl) ?_
      refine lv_lmul hx hb dX9_digest_110 ?_
      refine lv_aload_n hx hb dX9_digest_111 rfl (lv_at hl 1 rfl) ?_
      refine lv_iconst (v := 1) hx hb dX9_digest_112 (by decide) ?_
      obtain ⟨r9, hr9, hs⟩ := bd_s hs
      refine kc_i (isC := [0, 1, 2, 4]) (isR := [3, 5, 6, 7, 8, 9, 10]) (pm := [7, 8, 9, 0, 10, 1, 2, 3, 4, 5, 6]) (wr := [(a_r_rows, .inl (c_r_rows, r_len, .inl r_rows)), (a_u, .inr (6, [.ref a_u_rows, .ref a_u_ins, .int u_size, .int u_n, .int u_parts])), (a_u_rows, .inl (c_u_rows, u_len, .inl u_rows)), (a_q, .inr (4, [.long q_above, .long q_below])), (a_f, .inr (3, [.ref a_r, .int f_bestBits, .int f_bestCore, .int f_bestCount])), (a_z, .inr (2, [.ref a_r, .ref a_z_rest, .int z_left])), (a_z_rest, .inl (c_z_rest, 16, .inl z_rest))]) (w1 := [(a_x, .inr (9, [.ref a_x_costs, .ref a_r, .ref a_u, .ref a_q, .ref a_h, .ref a_f, .ref a_w, .ref a_o, .ref a_z, .ref a_g, .ref a_k])), (a_x_costs, .inl (c_x_costs, 10, .inl x_costs)), (a_r, .inr (6, [.ref a_r_rows, .ref a_r_ins, .int r_size, .int r_n, .int r_parts])), (a_r_ins, .inl (c_r_ins, 1024, .inl r_ins))]) (w2 := [(a_x, .inr (9, [.ref a_x_costs, .ref a_r, .ref a_u, .ref a_q, .ref a_h, .ref a_f, .ref a_w, .ref a_o, .ref a_z, .ref a_g, .ref a_k])), (a_x_costs, .inl (c_x_costs, 10, .inl x_costs)), (a_r, .inr (6, [.ref a_r_rows, .ref a_r_ins, .int r_size, .int r_n, .int r_parts])), (a_r_rows, .inl (c_r_rows, r_len, .inl r_rows)), (a_r_ins, .inl (c_r_ins, 1024, .inl r_ins)), (a_u, .inr (6, [.ref a_u_rows, .ref a_u_ins, .int u_size, .int u_n, .int u_parts])), (a_u_rows, .inl (c_u_rows, u_len, .inl u_rows)), (a_q, .inr (4, [.long q_above, .long q_below])), (a_f, .inr (3, [.ref a_r, .int f_bestBits, .int f_bestCore, .int f_bestCount])), (a_z, .inr (2, [.ref a_r, .ref a_z_rest, .int z_left])), (a_z_rest, .inl (c_z_rest, 16, .inl z_rest))]) (va_runV (As := [.int 1]) (rest := [.long (31 * ((31 * ((31 * e50) + r7.toInt64)) + r8.toInt64))]) ⟨hx, hb, hml, hown, hts⟩ (c_X9_best l dC dI a_x a_x_costs a_r a_r_rows a_r_ins a_u a_q a_h a_f a_w a_o a_z a_g a_k c_x_costs c_r_ins H.size x_costs r_size r_n r_parts r_ins 1 r9 hr9) (cwV 1 hts gX9_digest_X9_best rfl rfl rfl (by decide +kernel) ⟨Nat.le_of_ble_eq_true rfl, Nat.le_of_ble_eq_true rfl⟩) (kp_V hK hP hD hS hA hN (isC := [0, 1, 2, 4]) (isT := [0, 2]) (wc := [(a_x, .inr (9, [.ref a_x_costs, .ref a_r, .ref a_u, .ref a_q, .ref a_h, .ref a_f, .ref a_w, .ref a_o, .ref a_z, .ref a_g, .ref a_k])), (a_x_costs, .inl (c_x_costs, 10, .inl x_costs)), (a_r, .inr (6, [.ref a_r_rows, .ref a_r_ins, .int r_size, .int r_n, .int r_parts])), (a_r_ins, .inl (c_r_ins, 1024, .inl r_ins))]) rfl (by decide +kernel) rfl (ci := 9) (q0 := 0) rfl rfl) rfl rfl hl.1 rfl (lv_room (Nat.le_of_ble_eq_true rfl)) dX9_digest_113 ⟨Nat.le_of_ble_eq_true rfl, Nat.le_of_ble_eq_true rfl⟩) hP hD hS hA rfl rfl (by decide +kernel) (by decide +kernel) rfl (by decide +kernel) (fun H locs hP hD hS => ?_)
      refine lv_i2l (v := r9.toInt64) hx hb dX9_digest_116 rfl ?_
      refine lv_ladd hx hb dX9_digest_117 ?_
      refine lv_lstore_n (lv' := [(1, .long ((31 * ((31 * ((31 * e50) + r7.toInt64)) + r8.toInt64)) + r9.toInt64)), (0, .ref a_x)]) hx hb dX9_digest_118 rfl hl (by decide) rfl (fun ls hl => ?_)
      refine lv_ldc2 (v := 31) hx hb hown (hts (.constantLong RX9 218 (31)) (t1_ (al_ (al_ (al_ (al_ (al_ (al_ (t1_ h1_))))))))) dX9_digest_119 ?_
      refine lv_lload_n hx hb dX9_digest_122 rfl (lv_at hl 0 rfl) ?_
      refine lv_lmul hx hb dX9_digest_123 ?_
      refine lv_aload_n hx hb dX9_digest_124 rfl (lv_at hl 1 rfl) ?_
      obtain ⟨r10, hr10, hs⟩ := bd_s hs
      refine kc_i (isC := [0, 2, 3, 8]) (isR := [1, 4, 5, 6, 7, 9, 10]) (pm := [7, 0, 8, 9, 1, 2, 3, 4, 10, 5, 6]) (wr := [(a_x_costs, .inl (c_x_costs, 10, .inl x_costs)), (a_r_ins, .inl (c_r_ins, 1024, .inl r_ins)), (a_u, .inr (6, [.ref a_u_rows, .ref a_u_ins, .int u_size, .int u_n, .int u_parts])), (a_u_rows, .inl (c_u_rows, u_len, .inl u_rows)), (a_q, .inr (4, [.long q_above, .long q_below])), (a_z, .inr (2, [.ref a_r, .ref a_z_rest, .int z_left])), (a_z_rest, .inl (c_z_rest, 16, .inl z_rest))]) (w1 := [(a_x, .inr (9, [.ref a_x_costs, .ref a_r, .ref a_u, .ref a_q, .ref a_h, .ref a_f, .ref a_w, .ref a_o, .ref a_z, .ref a_g, .ref a_k])), (a_r, .inr (6, [.ref a_r_rows, .ref a_r_ins, .int r_size, .int r_n, .int r_parts])), (a_r_rows, .inl (c_r_rows, r_len, .inl r_rows)), (a_f, .inr (3, [.ref a_r, .int r10.2.1, .int r10.2.2.1, .int r10.2.2.2]))]) (w2 := [(a_x, .inr (9, [.ref a_x_costs, .ref a_r, .ref a_u, .ref a_q, .ref a_h, .ref a_f, .ref a_w, .ref a_o, .ref a_z, .ref a_g, .ref a_k])), (a_x_costs, .inl (c_x_costs, 10, .inl x_costs)), (a_r, .inr (6, [.ref a_r_rows, .ref a_r_ins, .int r_size, .int r_n, .int r_parts])), (a_r_rows, .inl (c_r_rows, r_len, .inl r_rows)), (a_r_ins, .inl (c_r_ins, 1024, .inl r_ins)), (a_u, .inr (6, [.ref a_u_rows, .ref a_u_ins, .int u_size, .int u_n, .int u_parts])), (a_u_rows, .inl (c_u_rows, u_len, .inl u_rows)), (a_q, .inr (4, [.long q_above, .long q_below])), (a_f, .inr (3, [.ref a_r, .int r10.2.1, .int r10.2.2.1, .int r10.2.2.2])), (a_z, .inr (2, [.ref a_r, .ref a_z_rest, .int z_left])), (a_z_rest, .inl (c_z_rest, 16, .inl z_rest))]) (va_runV (As := []) (rest := [.long (31 * ((31 * ((31 * ((31 * e50) + r7.toInt64)) + r8.toInt64)) + r9.toInt64))]) ⟨hx, hb, hml, hown, hts⟩ (c_X9_apart l dC dI a_x a_x_costs a_r a_r_rows a_r_ins a_u a_q a_h a_f a_w a_o a_z a_g a_k c_r_rows r_len H.size r_size r_n r_parts r_rows f_bestBits f_bestCore f_bestCount r10 hr10) (cwV 0 hts gX9_digest_X9_apart rfl rfl rfl (by decide +kernel) ⟨Nat.le_of_ble_eq_true rfl, Nat.le_of_ble_eq_true rfl⟩) (kp_V hK hP hD hS hA hN (isC := [0, 2, 3, 8]) (isT := [1]) (wc := [(a_x, .inr (9, [.ref a_x_costs, .ref a_r, .ref a_u, .ref a_q, .ref a_h, .ref a_f, .ref a_w, .ref a_o, .ref a_z, .ref a_g, .ref a_k])), (a_r, .inr (6, [.ref a_r_rows, .ref a_r_ins, .int r_size, .int r_n, .int r_parts])), (a_r_rows, .inl (c_r_rows, r_len, .inl r_rows)), (a_f, .inr (3, [.ref a_r, .int f_bestBits, .int f_bestCore, .int f_bestCount]))]) rfl (by decide +kernel) rfl (ci := 9) (q0 := 0) rfl rfl) rfl rfl hl.1 rfl (lv_room (Nat.le_of_ble_eq_true rfl)) dX9_digest_125 ⟨Nat.le_of_ble_eq_true rfl, Nat.le_of_ble_eq_true rfl⟩) hP hD hS hA rfl rfl (by decide +kernel) (by decide +kernel) rfl (by decide +kernel) (fun H locs hP hD hS => ?_)
      refine lv_i2l (v := r10.1.toInt64) hx hb dX9_digest_128 rfl ?_
      refine lv_ladd hx hb dX9_digest_129 ?_
      refine lv_lstore_n (lv' := [(1, .long ((31 * ((31 * ((31 * ((31 * e50) + r7.toInt64)) + r8.toInt64)) + r9.toInt64)) + r10.1.toInt64)), (0, .ref a_x)]) hx hb dX9_digest_130 rfl hl (by decide) rfl (fun ls hl => ?_)
      refine lv_ldc2 (v := 31) hx hb hown (hts (.constantLong RX9 218 (31)) (t1_ (al_ (al_ (al_ (al_ (al_ (al_ (t1_ h1_))))))))) dX9_digest_131 ?_
      refine lv_lload_n hx hb dX9_digest_134 rfl (lv_at hl 0 rfl) ?_
      refine lv_lmul hx hb dX9_digest_135 ?_
      refine lv_aload_n hx hb dX9_digest_136 rfl (lv_at hl 1 rfl) ?_
      obtain ⟨r11, hr11, hs⟩ := bd_s hs
      refine kc_i (isC := [0, 2, 3, 9, 10]) (isR := [1, 4, 5, 6, 7, 8]) (pm := [6, 0, 7, 8, 1, 2, 3, 4, 5, 9, 10]) (wr := [(a_x_costs, .inl (c_x_costs, 10, .inl x_costs)), (a_r_ins, .inl (c_r_ins, 1024, .inl r_ins)), (a_u, .inr (6, [.ref a_u_rows, .ref a_u_ins, .int u_size, .int u_n, .int u_parts])), (a_u_rows, .inl (c_u_rows, u_len, .inl u_rows)), (a_q, .inr (4, [.long q_above, .long q_below])), (a_f, .inr (3, [.ref a_r, .int r10.2.1, .int r10.2.2.1, .int r10.2.2.2]))]) (w1 := [(a_x, .inr (9, [.ref a_x_costs, .ref a_r, .ref a_u, .ref a_q, .ref a_h, .ref a_f, .ref a_w, .ref a_o, .ref a_z, .ref a_g, .ref a_k])), (a_r, .inr (6, [.ref a_r_rows, .ref a_r_ins, .int r_size, .int r_n, .int r_parts])), (a_r_rows, .inl (c_r_rows, r_len, .inl r_rows)), (a_z, .inr (2, [.ref a_r, .ref a_z_rest, .int r11.2.1])), (a_z_rest, .inl (c_z_rest, 16, .inl r11.2.2))]) (w2 := [(a_x, .inr (9, [.ref a_x_costs, .ref a_r, .ref a_u, .ref a_q, .ref a_h, .ref a_f, .ref a_w, .ref a_o, .ref a_z, .ref a_g, .ref a_k])), (a_x_costs, .inl (c_x_costs, 10, .inl x_costs)), (a_r, .inr (6, [.ref a_r_rows, .ref a_r_ins, .int r_size, .int r_n, .int r_parts])), (a_r_rows, .inl (c_r_rows, r_len, .inl r_rows)), (a_r_ins, .inl (c_r_ins, 1024, .inl r_ins)), (a_u, .inr (6, [.ref a_u_rows, .ref a_u_ins, .int u_size, .int u_n, .int u_parts])), (a_u_rows, .inl (c_u_rows, u_len, .inl u_rows)), (a_q, .inr (4, [.long q_above, .long q_below])), (a_f, .inr (3, [.ref a_r, .int r10.2.1, .int r10.2.2.1, .int r10.2.2.2])), (a_z, .inr (2, [.ref a_r, .ref a_z_rest, .int r11.2.1])), (a_z_rest, .inl (c_z_rest, 16, .inl r11.2.2))]) (va_runV (As := []) (rest := [.long (31 * ((31 * ((31 * ((31 * ((31 * e50) + r7.toInt64)) + r8.toInt64)) + r9.toInt64)) + r10.1.toInt64))]) ⟨hx, hb, hml, hown, hts⟩ (c_X9_ears l dC dI a_x a_x_costs a_r a_r_rows a_r_ins a_u a_q a_h a_f a_w a_o a_z a_z_rest a_g a_k c_r_rows c_z_rest r_len H.size r_size r_n r_parts r_rows z_left z_rest r11 hr11) (cwV 0 hts gX9_digest_X9_ears rfl rfl rfl (by decide +kernel) ⟨Nat.le_of_ble_eq_true rfl, Nat.le_of_ble_eq_true rfl⟩) (kp_V hK hP hD hS hA hN (isC := [0, 2, 3, 9, 10]) (isT := [1, 4]) (wc := [(a_x, .inr (9, [.ref a_x_costs, .ref a_r, .ref a_u, .ref a_q, .ref a_h, .ref a_f, .ref a_w, .ref a_o, .ref a_z, .ref a_g, .ref a_k])), (a_r, .inr (6, [.ref a_r_rows, .ref a_r_ins, .int r_size, .int r_n, .int r_parts])), (a_r_rows, .inl (c_r_rows, r_len, .inl r_rows)), (a_z, .inr (2, [.ref a_r, .ref a_z_rest, .int z_left])), (a_z_rest, .inl (c_z_rest, 16, .inl z_rest))]) rfl (by decide +kernel) rfl (ci := 9) (q0 := 0) rfl rfl) rfl rfl hl.1 rfl (lv_room (Nat.le_of_ble_eq_true rfl)) dX9_digest_137 ⟨Nat.le_of_ble_eq_true rfl, Nat.le_of_ble_eq_true rfl⟩) hP hD hS hA rfl rfl (by decide +kernel) (by decide +kernel) rfl (by decide +kernel) (fun H locs hP hD hS => ?_)
      refine lv_i2l (v := r11.1.toInt64) hx hb dX9_digest_140 rfl ?_
      refine lv_ladd hx hb dX9_digest_141 ?_
      refine lv_lstore_n (lv' := [(1, .long ((31 * ((31 * ((31 * ((31 * ((31 * e50) + r7.toInt64)) + r8.toInt64)) + r9.toInt64)) + r10.1.toInt64)) + r11.1.toInt64)), (0, .ref a_x)]) hx hb dX9_digest_142 rfl hl (by decide) rfl (fun ls hl => ?_)
      refine lv_ldc2 (v := 31) hx hb hown (hts (.constantLong RX9 218 (31)) (t1_ (al_ (al_ (al_ (al_ (al_ (al_ (t1_ h1_))))))))) dX9_digest_143 ?_
      refine lv_lload_n hx hb dX9_digest_146 rfl (lv_at hl 0 rfl) ?_
      refine lv_lmul hx hb dX9_digest_147 ?_
      refine lv_aload_n hx hb dX9_digest_148 rfl (lv_at hl 1 rfl) ?_
      refine va_get (D := (dC, dI)) (ci := 9) (v := .ref a_q) (C := RX9) (T := TX9) (N := 11) hx hb hts hiX9 hown hK hP 0 rfl rfl 3 (by decide) hf33 (fun _ h9 => h9) rfl dX9_digest_149 ?_
      refine va_get (D := (dC, dI)) (ci := 4) (v := .long q_above) (C := RX4) (T := TX4) (N := 2) hx hb hts hiX4 hown hK hP 7 rfl rfl 0 (by decide) hf198 (fun _ h9 => h9) rfl dX9_digest_152 ?_
      refine lv_ladd hx hb dX9_digest_155 ?_
      refine lv_lstore_n (lv' := [(1, .long ((31 * ((31 * ((31 * ((31 * ((31 * ((31 * e50) + r7.toInt64)) + r8.toInt64)) + r9.toInt64)) + r10.1.toInt64)) + r11.1.toInt64)) + q_above)), (0, .ref a_x)]) hx hb dX9_digest_156 rfl hl (by decide) rfl (fun ls hl => ?_)
      refine lv_ldc2 (v := 31) hx hb hown (hts (.constantLong RX9 218 (31)) (t1_ (al_ (al_ (al_ (al_ (al_ (al_ (t1_ h1_))))))))) dX9_digest_157 ?_
      refine lv_lload_n hx hb dX9_digest_160 rfl (lv_at hl 0 rfl) ?_
      refine lv_lmul hx hb dX9_digest_161 ?_
      refine lv_aload_n hx hb dX9_digest_162 rfl (lv_at hl 1 rfl) ?_
      refine va_get (D := (dC, dI)) (ci := 9) (v := .ref a_q) (C := RX9) (T := TX9) (N := 11) hx hb hts hiX9 hown hK hP 0 rfl rfl 3 (by decide) hf33 (fun _ h9 => h9) rfl dX9_digest_163 ?_
      refine va_get (D := (dC, dI)) (ci := 4) (v := .long q_below) (C := RX4) (T := TX4) (N := 2) hx hb hts hiX4 hown hK hP 7 rfl rfl 1 (by decide) hf201 (fun _ h9 => h9) rfl dX9_digest_166 ?_
      refine lv_ladd hx hb dX9_digest_169 ?_
      replace hs := Option.some.inj hs
      subst hs
      exact W.lret (v := (31 * ((31 * ((31 * ((31 * ((31 * ((31 * ((31 * e50) + r7.toInt64)) + r8.toInt64)) + r9.toInt64)) + r10.1.toInt64)) + r11.1.toInt64)) + q_above)) + q_below) hx hb hr (fun t ht hW => ⟨⟨(31 * ((31 * ((31 * ((31 * ((31 * ((31 * ((31 * e50) + r7.toInt64)) + r8.toInt64)) + r9.toInt64)) + r10.1.toInt64)) + r11.1.toInt64)) + q_above)) + q_below, (), rfl, rfl, by rw [ht]; exact hP, va_K.moved hW.alike hK, hD⟩, hS.F ht⟩) hS.2.2 dX9_digest_170
    clear hs
    have hL50 : ∀ (n : Nat) (s50 : Int64 × Int32) (H : Heap) (locs : List Loc) (ls : Array Slot), itr (pX9_digest_L50 x_costs r_n) n s50 = some e50 → va_P (dC, dI) vwCl [(a_x, .inr (9, [.ref a_x_costs, .ref a_r, .ref a_u, .ref a_q, .ref a_h, .ref a_f, .ref a_w, .ref a_o, .ref a_z, .ref a_g, .ref a_k])), (a_x_costs, .inl (c_x_costs, 10, .inl x_costs)), (a_r, .inr (6, [.ref a_r_rows, .ref a_r_ins, .int r_size, .int r_n, .int r_parts])), (a_r_rows, .inl (c_r_rows, r_len, .inl r_rows)), (a_r_ins, .inl (c_r_ins, 1024, .inl r_ins)), (a_u, .inr (6, [.ref a_u_rows, .ref a_u_ins, .int u_size, .int u_n, .int u_parts])), (a_u_rows, .inl (c_u_rows, u_len, .inl u_rows)), (a_q, .inr (4, [.long q_above, .long q_below])), (a_f, .inr (3, [.ref a_r, .int f_bestBits, .int f_bestCore, .int f_bestCount])), (a_z, .inr (2, [.ref a_r, .ref a_z_rest, .int z_left])), (a_z_rest, .inl (c_z_rest, 16, .inl z_rest))] H → va_D A [(a_x, .inr (9, [.ref a_x_costs, .ref a_r, .ref a_u, .ref a_q, .ref a_h, .ref a_f, .ref a_w, .ref a_o, .ref a_z, .ref a_g, .ref a_k])), (a_x_costs, .inl (c_x_costs, 10, .inl x_costs)), (a_r, .inr (6, [.ref a_r_rows, .ref a_r_ins, .int r_size, .int r_n, .int r_parts])), (a_r_rows, .inl (c_r_rows, r_len, .inl r_rows)), (a_r_ins, .inl (c_r_ins, 1024, .inl r_ins)), (a_u, .inr (6, [.ref a_u_rows, .ref a_u_ins, .int u_size, .int u_n, .int u_parts])), (a_u_rows, .inl (c_u_rows, u_len, .inl u_rows)), (a_q, .inr (4, [.long q_above, .long q_below])), (a_f, .inr (3, [.ref a_r, .int f_bestBits, .int f_bestCore, .int f_bestCount])), (a_z, .inr (2, [.ref a_r, .ref a_z_rest, .int z_left])), (a_z_rest, .inl (c_z_rest, 16, .inl z_rest))] → va_S A s.heap H locs → lv_has ls 4 [(0, .ref a_x), (1, .long s50.1), (3, .int s50.2)] → Z H locs 0 0 (F0 m 50 ls []) := by
      intro n
      induction n with
      | zero =>
        intro s50 H locs ls hn
        exact (itr_0 hn).elim
      | succ n ih =>
        intro s50 H locs ls hn hP hD hS hl
        obtain ⟨y5, hs, hn⟩ := itr_s hn
        unfold pX9_digest_L50 at hs
        refine hZv ?_
        refine lv_iload_n hx hb dX9_digest_50 rfl (lv_at hl 2 rfl) ?_
        refine lv_aload_n hx hb dX9_digest_51 rfl (lv_at hl 0 rfl) ?_
        refine va_get (D := (dC, dI)) (ci := 9) (v := .ref a_r) (C := RX9) (T := TX9) (N := 11) hx hb hts hiX9 hown hK hP 0 rfl rfl 1 (by decide) hf23 (fun _ h9 => h9) rfl dX9_digest_52 ?_
        refine va_get (D := (dC, dI)) (ci := 6) (v := .int r_n) (C := RX6) (T := TX6) (N := 5) hx hb hts hiX6 hown hK hP 2 rfl rfl 3 (by decide) hf138 (fun _ h9 => h9) rfl dX9_digest_55 ?_
        refine lv_icmp_ge (tgt := 81) hx hb dX9_digest_58 (by decide) (fun hc => ?_) (fun hc => ?_)
        · replace hs := it_t hc hs
          replace hs := Option.some.inj hs
          subst hs
          obtain rfl : s50.1 = e50 := hn
          exact hZw (hX50 H locs ls hP hD hS (lv_sub hl [0, 1] rfl))
        · replace hs := it_f hc hs
          refine lv_ldc2 (v := 31) hx hb hown (hts (.constantLong RX9 218 (31)) (t1_ (al_ (al_ (al_ (al_ (al_ (al_ (t1_ h1_))))))))) dX9_digest_61 ?_
          refine lv_lload_n hx hb dX9_digest_64 rfl (lv_at hl 1 rfl) ?_
          refine lv_lmul hx hb dX9_digest_65 ?_
          refine lv_aload_n hx hb dX9_digest_66 rfl (lv_at hl 0 rfl) ?_
          refine va_get (D := (dC, dI)) (ci := 9) (v := .ref a_x_costs) (C := RX9) (T := TX9) (N := 11) hx hb hts hiX9 hown hK hP 0 rfl rfl 0 (by decide) hf9 (fun _ h9 => h9) rfl dX9_digest_67 ?_
          refine lv_iload_n hx hb dX9_digest_70 rfl (lv_at hl 2 rfl) ?_
          obtain ⟨hg6, hs⟩ := gd_s hs
          refine va_iald hx hb hK hP 1 0 rfl rfl hg6 dX9_digest_71 ?_
          refine lv_i2l (v := (x_costs s50.2.toNatClampNeg).toInt64) hx hb dX9_digest_72 rfl ?_
          refine lv_ladd hx hb dX9_digest_73 ?_
          refine lv_lstore_n (lv' := [(1, .long ((31 * s50.1) + ((x_costs s50.2.toNatClampNeg).toInt64))), (0, .ref a_x), (3, .int s50.2)]) hx hb dX9_digest_74 rfl hl (by decide) rfl (fun ls hl => ?_)
          refine lv_iinc (v := s50.2 + 1) (lv' := [(3, .int (s50.2 + 1)), (1, .long ((31 * s50.1) + ((x_costs s50.2.toNatClampNeg).toInt64))), (0, .ref a_x)]) hx hb dX9_digest_75 hl (k := 2) rfl (by rfl) (by decide) rfl (fun ls hl => ?_)
          refine lv_goto (tgt := 50) hx hb dX9_digest_78 (by decide) ?_
          replace hs := Option.some.inj hs
          subst hs
          exact hZw (ih ((31 * s50.1) + ((x_costs s50.2.toNatClampNeg).toInt64), s50.2 + 1) H locs ls hn hP hD hS (lv_sub hl [2, 1, 0] rfl))
    obtain ⟨n50, hn50⟩ := lp_ex he50
    exact hZw (hL50 n50 (r4, 0) H locs ls hn50 hP hD hS (lv_sub hl [2, 1, 0] rfl))
  clear hs
  have hL6 : ∀ (n : Nat) (s6 : Int64 × Int32) (H : Heap) (locs : List Loc) (ls : Array Slot), itr (pX9_digest_L6 r_size r_n u_size) n s6 = some e6 → va_P (dC, dI) vwCl [(a_x, .inr (9, [.ref a_x_costs, .ref a_r, .ref a_u, .ref a_q, .ref a_h, .ref a_f, .ref a_w, .ref a_o, .ref a_z, .ref a_g, .ref a_k])), (a_x_costs, .inl (c_x_costs, 10, .inl x_costs)), (a_r, .inr (6, [.ref a_r_rows, .ref a_r_ins, .int r_size, .int r_n, .int r_parts])), (a_r_rows, .inl (c_r_rows, r_len, .inl r_rows)), (a_r_ins, .inl (c_r_ins, 1024, .inl r_ins)), (a_u, .inr (6, [.ref a_u_rows, .ref a_u_ins, .int u_size, .int u_n, .int u_parts])), (a_u_rows, .inl (c_u_rows, u_len, .inl u_rows)), (a_q, .inr (4, [.long q_above, .long q_below])), (a_f, .inr (3, [.ref a_r, .int f_bestBits, .int f_bestCore, .int f_bestCount])), (a_z, .inr (2, [.ref a_r, .ref a_z_rest, .int z_left])), (a_z_rest, .inl (c_z_rest, 16, .inl z_rest))] H → va_D A [(a_x, .inr (9, [.ref a_x_costs, .ref a_r, .ref a_u, .ref a_q, .ref a_h, .ref a_f, .ref a_w, .ref a_o, .ref a_z, .ref a_g, .ref a_k])), (a_x_costs, .inl (c_x_costs, 10, .inl x_costs)), (a_r, .inr (6, [.ref a_r_rows, .ref a_r_ins, .int r_size, .int r_n, .int r_parts])), (a_r_rows, .inl (c_r_rows, r_len, .inl r_rows)), (a_r_ins, .inl (c_r_ins, 1024, .inl r_ins)), (a_u, .inr (6, [.ref a_u_rows, .ref a_u_ins, .int u_size, .int u_n, .int u_parts])), (a_u_rows, .inl (c_u_rows, u_len, .inl u_rows)), (a_q, .inr (4, [.long q_above, .long q_below])), (a_f, .inr (3, [.ref a_r, .int f_bestBits, .int f_bestCore, .int f_bestCount])), (a_z, .inr (2, [.ref a_r, .ref a_z_rest, .int z_left])), (a_z_rest, .inl (c_z_rest, 16, .inl z_rest))] → va_S A s.heap H locs → lv_has ls 4 [(0, .ref a_x), (1, .long s6.1), (3, .int s6.2)] → Z H locs 0 0 (F0 m 6 ls []) := by
    intro n
    induction n with
    | zero =>
      intro s6 H locs ls hn
      exact (itr_0 hn).elim
    | succ n ih =>
      intro s6 H locs ls hn hP hD hS hl
      obtain ⟨y1, hs, hn⟩ := itr_s hn
      unfold pX9_digest_L6 at hs
      refine hZv ?_
      refine lv_iload_n hx hb dX9_digest_6 rfl (lv_at hl 2 rfl) ?_
      refine lv_iconst (v := 2) hx hb dX9_digest_7 (by decide) ?_
      refine lv_icmp_gt (tgt := 30) hx hb dX9_digest_8 (by decide) (fun hc => ?_) (fun hc => ?_)
      · replace hs := it_t hc hs
        replace hs := Option.some.inj hs
        subst hs
        obtain rfl : s6.1 = e6 := hn
        exact hZw (hX6 H locs ls hP hD hS (lv_sub hl [0, 1] rfl))
      · replace hs := it_f hc hs
        refine lv_ldc2 (v := 31) hx hb hown (hts (.constantLong RX9 218 (31)) (t1_ (al_ (al_ (al_ (al_ (al_ (al_ (t1_ h1_))))))))) dX9_digest_11 ?_
        refine lv_lload_n hx hb dX9_digest_14 rfl (lv_at hl 1 rfl) ?_
        refine lv_lmul hx hb dX9_digest_15 ?_
        refine lv_aload_n hx hb dX9_digest_16 rfl (lv_at hl 0 rfl) ?_
        refine lv_iload_n hx hb dX9_digest_17 rfl (lv_at hl 2 rfl) ?_
        obtain ⟨r2, hr2, hs⟩ := bd_s hs
        refine kc_i (isC := [0, 2, 5]) (isR := [1, 3, 4, 6, 7, 8, 9, 10]) (pm := [8, 0, 9, 1, 2, 10, 3, 4, 5, 6, 7]) (wr := [(a_x_costs, .inl (c_x_costs, 10, .inl x_costs)), (a_r_rows, .inl (c_r_rows, r_len, .inl r_rows)), (a_r_ins, .inl (c_r_ins, 1024, .inl r_ins)), (a_u_rows, .inl (c_u_rows, u_len, .inl u_rows)), (a_q, .inr (4, [.long q_above, .long q_below])), (a_f, .inr (3, [.ref a_r, .int f_bestBits, .int f_bestCore, .int f_bestCount])), (a_z, .inr (2, [.ref a_r, .ref a_z_rest, .int z_left])), (a_z_rest, .inl (c_z_rest, 16, .inl z_rest))]) (w1 := [(a_x, .inr (9, [.ref a_x_costs, .ref a_r, .ref a_u, .ref a_q, .ref a_h, .ref a_f, .ref a_w, .ref a_o, .ref a_z, .ref a_g, .ref a_k])), (a_r, .inr (6, [.ref a_r_rows, .ref a_r_ins, .int r_size, .int r_n, .int r_parts])), (a_u, .inr (6, [.ref a_u_rows, .ref a_u_ins, .int u_size, .int u_n, .int u_parts]))]) (w2 := [(a_x, .inr (9, [.ref a_x_costs, .ref a_r, .ref a_u, .ref a_q, .ref a_h, .ref a_f, .ref a_w, .ref a_o, .ref a_z, .ref a_g, .ref a_k])), (a_x_costs, .inl (c_x_costs, 10, .inl x_costs)), (a_r, .inr (6, [.ref a_r_rows, .ref a_r_ins, .int r_size, .int r_n, .int r_parts])), (a_r_rows, .inl (c_r_rows, r_len, .inl r_rows)), (a_r_ins, .inl (c_r_ins, 1024, .inl r_ins)), (a_u, .inr (6, [.ref a_u_rows, .ref a_u_ins, .int u_size, .int u_n, .int u_parts])), (a_u_rows, .inl (c_u_rows, u_len, .inl u_rows)), (a_q, .inr (4, [.long q_above, .long q_below])), (a_f, .inr (3, [.ref a_r, .int f_bestBits, .int f_bestCore, .int f_bestCount])), (a_z, .inr (2, [.ref a_r, .ref a_z_rest, .int z_left])), (a_z_rest, .inl (c_z_rest, 16, .inl z_rest))]) (va_runV (As := [.int s6.2]) (rest := [.long (31 * s6.1)]) ⟨hx, hb, hml, hown, hts⟩ (c_X9_count l dC dI a_x a_x_costs a_r a_r_rows a_r_ins a_u a_u_rows a_u_ins a_q a_h a_f a_w a_o a_z a_g a_k H.size r_size r_n r_parts u_size u_n u_parts s6.2 r2 hr2) (cwV 1 hts gX9_digest_X9_count rfl rfl rfl (by decide +kernel) ⟨Nat.le_of_ble_eq_true rfl, Nat.le_of_ble_eq_true rfl⟩) (kp_V hK hP hD hS hA hN (isC := [0, 2, 5]) (isT := []) (wc := [(a_x, .inr (9, [.ref a_x_costs, .ref a_r, .ref a_u, .ref a_q, .ref a_h, .ref a_f, .ref a_w, .ref a_o, .ref a_z, .ref a_g, .ref a_k])), (a_r, .inr (6, [.ref a_r_rows, .ref a_r_ins, .int r_size, .int r_n, .int r_parts])), (a_u, .inr (6, [.ref a_u_rows, .ref a_u_ins, .int u_size, .int u_n, .int u_parts]))]) rfl (by decide +kernel) rfl (ci := 9) (q0 := 0) rfl rfl) rfl rfl hl.1 rfl (lv_room (Nat.le_of_ble_eq_true rfl)) dX9_digest_18 ⟨Nat.le_of_ble_eq_true rfl, Nat.le_of_ble_eq_true rfl⟩) hP hD hS hA rfl rfl (by decide +kernel) (by decide +kernel) rfl (by decide +kernel) (fun H locs hP hD hS => ?_)
        refine lv_i2l (v := r2.toInt64) hx hb dX9_digest_21 rfl ?_
        refine lv_ladd hx hb dX9_digest_22 ?_
        refine lv_lstore_n (lv' := [(1, .long ((31 * s6.1) + r2.toInt64)), (0, .ref a_x), (3, .int s6.2)]) hx hb dX9_digest_23 rfl hl (by decide) rfl (fun ls hl => ?_)
        refine lv_iinc (v := s6.2 + 1) (lv' := [(3, .int (s6.2 + 1)), (1, .long ((31 * s6.1) + r2.toInt64)), (0, .ref a_x)]) hx hb dX9_digest_24 hl (k := 2) rfl (by rfl) (by decide) rfl (fun ls hl => ?_)
        refine lv_goto (tgt := 6) hx hb dX9_digest_27 (by decide) ?_
        replace hs := Option.some.inj hs
        subst hs
        exact hZw (ih ((31 * s6.1) + r2.toInt64, s6.2 + 1) H locs ls hn hP hD hS (lv_sub hl [2, 1, 0] rfl))
  obtain ⟨n6, hn6⟩ := lp_ex he6
  exact hZw (hL6 n6 (439, 0) H locs ls hn6 hP hD hS (lv_sub hl [2, 1, 0] rfl))
