noncomputable def pX4_become (q_above : Int64) (q_below : Int64) (p1 : Int64) (p3 : Int64) : Option (Int64 × Int64) :=
  Option.bind (pX4_commonDivisor p1 p3) (fun r1 => if (lg_cmp r1 0) ≤ 0 then (some (q_above, q_below)) else (if (lg_cmp p3 0) ≤ 0 then (some (q_above, q_below)) else (gd (¬ (r1 : Int64) = 0) (gd (¬ (r1 : Int64) = 0) (some (p1 / r1, p3 / r1))))))
set_option maxHeartbeats 4000000 in
set_option maxRecDepth 100000 in
theorem c_X4_become (l : Launch) (dC : Nat → ClassId) (dI : Nat → Nat → Nat) (a_q : Nat) (sz : Nat) (q_above : Int64) (q_below : Int64) (p1 : Int64) (p3 : Int64) (rv : Int64 × Int64) (hs : pX4_become q_above q_below p1 p3 = some rv) : Met l yX4_become wsX4_become ({ frames := 1, cells := 0, slots := 0, locals := 30 }) (sPc [.ref a_q, .long p1, .long p3] (dC, dI) [] [(a_q, .inr (4, [.long q_above, .long q_below]))] sz) (va_Qv (fun (_ : Unit) => True) (sB (dC, dI) [] (va_A [(a_q, .inr (4, [.long q_above, .long q_below]))] sz) [(a_q, .inr (4, [.long rv.1, .long rv.2]))]) (va_A [(a_q, .inr (4, [.long q_above, .long q_below]))] sz)) 0 0 (va_A [(a_q, .inr (4, [.long q_above, .long q_below]))] sz) := by
  refine Met.ofW (cc := cX4_become) (maxL := 7) (ret := none) (by decide) rfl ?_
  intro p e s m args below meth c s₁ B hml hv
  obtain ⟨rfl, hsz, hP, hK, hD0, hN⟩ := hv
  have hx := B.exec
  have hb := B.bytes
  have hr := B.returns
  have hts := atoms_spec (ws := wsX4_become) B.pre
  have hown : s.vm.findClass RX4 = some m.cls := findClass_of_methodNamed B.named
  have hlocks := B.notSynchronized
  subst hsz
  have hD := hD0.self (sz := s.heap.size)
  generalize hAe : va_A [(a_q, .inr (4, [.long q_above, .long q_below]))] s.heap.size = A at hD hN ⊢
  have hA : ∀ q : Nat, s.heap.size ≤ q → A q := fun q h => by rw [← hAe]; exact Or.inr h
  have hS : va_S A s.heap s.heap [] := va_S.rf
  have hP : va_P (dC, dI) vwCl [(a_q, .inr (4, [.long q_above, .long q_below]))] s.heap := hP
  have hl := lv_entry ([.ref a_q, .long p1, .long p3]) (n := 7) (Nat.le_of_ble_eq_true rfl)
  rw [lg_entry_eq]
  generalize (lg_sl ([.ref a_q, .long p1, .long p3]) ++ List.replicate (7 - (lg_sl ([.ref a_q, .long p1, .long p3])).length) Slot.unset).toArray = ls at hl ⊢
  have hl : lv_has ls 7 [(0, .ref a_q), (1, .long p1), (3, .long p3)] := hl
  have hiX4 : ∀ w ∈ wsX40, w ∈ wsX4_become := fun _ h => List.mem_cons_of_mem _ (List.mem_append_right _ h)
  have hf7 := hts (.fieldLink RX4 7 "MeetSets$Fraction" "above" "J") (t1_ (al_ h1_))
  have hf13 := hts (.fieldLink RX4 13 "MeetSets$Fraction" "below" "J") (t1_ (al_ (t1_ h1_)))
  refine w_abs (fun Z hZv hZw => ?_)
  refine hZv ?_
  obtain ⟨H, hH⟩ : ∃ H, H = s.heap := ⟨_, rfl⟩
  obtain ⟨locs, hlo⟩ : ∃ L : List Loc, L = [] := ⟨_, rfl⟩
  rw [← hlo, ← hH]
  have hS : va_S A s.heap H locs := by rw [hlo, hH]; exact hS
  have hP : va_P (dC, dI) vwCl [(a_q, .inr (4, [.long q_above, .long q_below]))] H := by rw [hH]; exact hP
  clear hH hlo
  unfold pX4_become at hs
  refine lv_lload_n hx hb dX4_become_0 rfl (lv_at hl 1 rfl) ?_
  refine lv_lload_n hx hb dX4_become_1 rfl (lv_at hl 2 rfl) ?_
  obtain ⟨r1, hr1, hs⟩ := bd_s hs
  refine kc_l (isC := []) (isR := [0]) (pm := [0]) (wr := [(a_q, .inr (4, [.long q_above, .long q_below]))]) (w1 := []) (w2 := [(a_q, .inr (4, [.long q_above, .long q_below]))]) (va_runS (As := [.long p1, .long p3]) (rest := []) ⟨hx, hb, hml, hown, hts⟩ (c_X4_commonDivisor l dC dI H.size p1 p3 r1 hr1) (va_cwS 2 hts gX4_become_X4_commonDivisor rfl rfl rfl (by decide +kernel) ⟨Nat.le_of_ble_eq_true rfl, Nat.le_of_ble_eq_true rfl⟩) (kp_S hK hP hD hS hA hN (isC := []) (isT := []) (wc := []) rfl (by decide +kernel) rfl) rfl rfl hl.1 rfl (lv_room (Nat.le_of_ble_eq_true rfl)) dX4_become_2 ⟨Nat.le_of_ble_eq_true rfl, Nat.le_of_ble_eq_true rfl⟩) hP hD hS hA rfl rfl (by decide +kernel) (by decide +kernel) rfl (by decide +kernel) (fun H locs hP hD hS => ?_)
  refine lv_lstore (lv' := [(5, .long r1), (0, .ref a_q), (1, .long p1), (3, .long p3)]) hx hb dX4_become_5 hl (by decide) rfl (fun ls hl => ?_)
  refine lv_lload hx hb dX4_become_7 (lv_at hl 0 rfl) ?_
  refine lv_lconst (v := 0) hx hb dX4_become_9 (by decide) ?_
  refine W.lcmp hx hb dX4_become_10 ?_
  refine lv_if_le (tgt := 36) hx hb dX4_become_11 (by decide) (fun hc => ?_) (fun hc => ?_)
  · replace hs := it_t hc hs
    replace hs := Option.some.inj hs
    subst hs
    exact W.vret hx hb hr (fun t ht hW => ⟨⟨(), rfl, trivial, by rw [ht]; exact hP, va_K.moved hW.alike hK, hD⟩, hS.F ht⟩) hS.2.2 dX4_become_36
  · replace hs := it_f hc hs
    refine lv_lload_n hx hb dX4_become_14 rfl (lv_at hl 3 rfl) ?_
    refine lv_lconst (v := 0) hx hb dX4_become_15 (by decide) ?_
    refine W.lcmp hx hb dX4_become_16 ?_
    refine lv_if_le (tgt := 36) hx hb dX4_become_17 (by decide) (fun hc => ?_) (fun hc => ?_)
    · replace hs := it_t hc hs
      replace hs := Option.some.inj hs
      subst hs
      exact W.vret hx hb hr (fun t ht hW => ⟨⟨(), rfl, trivial, by rw [ht]; exact hP, va_K.moved hW.alike hK, hD⟩, hS.F ht⟩) hS.2.2 dX4_become_36
    · replace hs := it_f hc hs
      refine lv_aload_n hx hb dX4_become_20 rfl (lv_at hl 1 rfl) ?_
      refine lv_lload_n hx hb dX4_become_21 rfl (lv_at hl 2 rfl) ?_
      refine lv_lload hx hb dX4_become_22 (lv_at hl 0 rfl) ?_
      obtain ⟨hz2, hs⟩ := gd_s hs
      refine lv_ldiv hx hb dX4_become_24 hz2 ?_
      refine va_put (D := (dC, dI)) (ci := 4) (v := .long (p1 / r1)) (ty := .long) (C := RX4) (T := TX4) (N := 2) hx hb hts hiX4 tyX4 tyX4_ok nmX4 hown hK hP hD hS 0 rfl rfl 0 (by decide) hf7 (fun _ h9 => h9) rfl (by decide +kernel) rfl rfl (Nat.le_of_ble_eq_true rfl) dX4_become_25 (fun H locs hP hD hS => ?_)
      have hP : va_P (dC, dI) vwCl [(a_q, .inr (4, [.long (p1 / r1), .long q_below]))] H := hP
      have hD : va_D A [(a_q, .inr (4, [.long (p1 / r1), .long q_below]))] := hD
      refine lv_aload_n hx hb dX4_become_28 rfl (lv_at hl 1 rfl) ?_
      refine lv_lload_n hx hb dX4_become_29 rfl (lv_at hl 3 rfl) ?_
      refine lv_lload hx hb dX4_become_30 (lv_at hl 0 rfl) ?_
      obtain ⟨hz3, hs⟩ := gd_s hs
      refine lv_ldiv hx hb dX4_become_32 hz3 ?_
      refine va_put (D := (dC, dI)) (ci := 4) (v := .long (p3 / r1)) (ty := .long) (C := RX4) (T := TX4) (N := 2) hx hb hts hiX4 tyX4 tyX4_ok nmX4 hown hK hP hD hS 0 rfl rfl 1 (by decide) hf13 (fun _ h9 => h9) rfl (by decide +kernel) rfl rfl (Nat.le_of_ble_eq_true rfl) dX4_become_33 (fun H locs hP hD hS => ?_)
      have hP : va_P (dC, dI) vwCl [(a_q, .inr (4, [.long (p1 / r1), .long (p3 / r1)]))] H := hP
      have hD : va_D A [(a_q, .inr (4, [.long (p1 / r1), .long (p3 / r1)]))] := hD
      replace hs := Option.some.inj hs
      subst hs
      exact W.vret hx hb hr (fun t ht hW => ⟨⟨(), rfl, trivial, by rw [ht]; exact hP, va_K.moved hW.alike hK, hD⟩, hS.F ht⟩) hS.2.2 dX4_become_36
noncomputable def pX8_manySeenOf_L14 (r_len : Nat) (r_size : Int32) (r_rows : Nat → Int32) (w_mark : Int32) (p1 : Int32) (s14 : Int32 × Int32 × (Nat → Int32)) : Option ((Int32 × Int32 × (Nat → Int32)) ⊕ (Int32 × (Nat → Int32))) :=
  if r_size ≤ s14.2.1 then (some (Sum.inr (s14.1, s14.2.2))) else (gd (vp_in s14.2.1 r_len) (gd (vp_in ((r_rows s14.2.1.toNatClampNeg) &&& p1) 1024) (if (s14.2.2 ((r_rows s14.2.1.toNatClampNeg) &&& p1).toNatClampNeg) = (w_mark + 1) then (some (Sum.inl (s14.1, s14.2.1 + 1, s14.2.2))) else (gd (vp_in ((r_rows s14.2.1.toNatClampNeg) &&& p1) 1024) (some (Sum.inl (s14.1 + 1, s14.2.1 + 1, upd s14.2.2 ((r_rows s14.2.1.toNatClampNeg) &&& p1).toNatClampNeg (w_mark + 1))))))))
noncomputable def pX8_manySeenOf (r_len : Nat) (r_size : Int32) (r_rows : Nat → Int32) (w_mark : Int32) (w_marks : Nat → Int32) (p1 : Int32) : Option (Int32 × Int32 × (Nat → Int32)) :=
  Option.bind (lp (pX8_manySeenOf_L14 r_len r_size r_rows w_mark p1) (0, 0, w_marks)) (fun e14 => some (e14.1, w_mark + 1, e14.2))
set_option maxHeartbeats 4000000 in
set_option maxRecDepth 100000 in
theorem c_X8_manySeenOf (l : Launch) (dC : Nat → ClassId) (dI : Nat → Nat → Nat) (a_r : Nat) (a_r_rows : Nat) (a_r_ins : Nat) (a_w : Nat) (a_w_marks : Nat) (c_r_rows c_w_marks : ClassId) (r_len : Nat) (sz : Nat) (r_size : Int32) (r_n : Int32) (r_parts : Int32) (r_rows : Nat → Int32) (w_mark : Int32) (w_marks : Nat → Int32) (p1 : Int32) (rv : Int32 × Int32 × (Nat → Int32)) (hs : pX8_manySeenOf r_len r_size r_rows w_mark w_marks p1 = some rv) : Met l yX8_manySeenOf wsX8_manySeenOf ({ frames := 0, cells := 0, slots := 0, locals := 0 }) (sPc [.ref a_w, .int p1] (dC, dI) [(c_r_rows, .int), (c_w_marks, .int)] [(a_r, .inr (6, [.ref a_r_rows, .ref a_r_ins, .int r_size, .int r_n, .int r_parts])), (a_r_rows, .inl (c_r_rows, r_len, .inl r_rows)), (a_w, .inr (8, [.ref a_r, .ref a_w_marks, .int w_mark])), (a_w_marks, .inl (c_w_marks, 1024, .inl w_marks))] sz) (va_Qi (fun (r : Int32) (_ : Unit) => r = rv.1) (sB (dC, dI) [(c_r_rows, .int), (c_w_marks, .int)] (va_A [(a_r, .inr (6, [.ref a_r_rows, .ref a_r_ins, .int r_size, .int r_n, .int r_parts])), (a_r_rows, .inl (c_r_rows, r_len, .inl r_rows)), (a_w, .inr (8, [.ref a_r, .ref a_w_marks, .int w_mark])), (a_w_marks, .inl (c_w_marks, 1024, .inl w_marks))] sz) [(a_r, .inr (6, [.ref a_r_rows, .ref a_r_ins, .int r_size, .int r_n, .int r_parts])), (a_r_rows, .inl (c_r_rows, r_len, .inl r_rows)), (a_w, .inr (8, [.ref a_r, .ref a_w_marks, .int rv.2.1])), (a_w_marks, .inl (c_w_marks, 1024, .inl rv.2.2))]) (va_A [(a_r, .inr (6, [.ref a_r_rows, .ref a_r_ins, .int r_size, .int r_n, .int r_parts])), (a_r_rows, .inl (c_r_rows, r_len, .inl r_rows)), (a_w, .inr (8, [.ref a_r, .ref a_w_marks, .int w_mark])), (a_w_marks, .inl (c_w_marks, 1024, .inl w_marks))] sz)) 0 0 (va_A [(a_r, .inr (6, [.ref a_r_rows, .ref a_r_ins, .int r_size, .int r_n, .int r_parts])), (a_r_rows, .inl (c_r_rows, r_len, .inl r_rows)), (a_w, .inr (8, [.ref a_r, .ref a_w_marks, .int w_mark])), (a_w_marks, .inl (c_w_marks, 1024, .inl w_marks))] sz) := by
  refine Met.ofW (cc := cX8_manySeenOf) (maxL := 5) (ret := (some .int)) (by decide) rfl ?_
  intro p e s m args below meth c s₁ B hml hv
  obtain ⟨rfl, hsz, hP, hK, hD0, hN⟩ := hv
  have hx := B.exec
  have hb := B.bytes
  have hr := B.returns
  have hts := atoms_spec (ws := wsX8_manySeenOf) B.pre
  have hown : s.vm.findClass RX8 = some m.cls := findClass_of_methodNamed B.named
  have hlocks := B.notSynchronized
  subst hsz
  have hD := hD0.self (sz := s.heap.size)
  generalize hAe : va_A [(a_r, .inr (6, [.ref a_r_rows, .ref a_r_ins, .int r_size, .int r_n, .int r_parts])), (a_r_rows, .inl (c_r_rows, r_len, .inl r_rows)), (a_w, .inr (8, [.ref a_r, .ref a_w_marks, .int w_mark])), (a_w_marks, .inl (c_w_marks, 1024, .inl w_marks))] s.heap.size = A at hD hN ⊢
  have hA : ∀ q : Nat, s.heap.size ≤ q → A q := fun q h => by rw [← hAe]; exact Or.inr h
  have hS : va_S A s.heap s.heap [] := va_S.rf
  have hP : va_P (dC, dI) vwCl [(a_r, .inr (6, [.ref a_r_rows, .ref a_r_ins, .int r_size, .int r_n, .int r_parts])), (a_r_rows, .inl (c_r_rows, r_len, .inl r_rows)), (a_w, .inr (8, [.ref a_r, .ref a_w_marks, .int w_mark])), (a_w_marks, .inl (c_w_marks, 1024, .inl w_marks))] s.heap := hP
  have hl := lv_entry ([.ref a_w, .int p1]) (n := 5) (Nat.le_of_ble_eq_true rfl)
  rw [lg_entry_eq]
  generalize (lg_sl ([.ref a_w, .int p1]) ++ List.replicate (5 - (lg_sl ([.ref a_w, .int p1])).length) Slot.unset).toArray = ls at hl ⊢
  have hl : lv_has ls 5 [(0, .ref a_w), (1, .int p1)] := hl
  have hiX8 : ∀ w ∈ wsX80, w ∈ wsX8_manySeenOf := fun _ h => List.mem_cons_of_mem _ (List.mem_append_left _ (List.mem_append_right _ h))
  have hf19 := hts (.fieldLink RX8 19 "MeetSets$Sight" "mark" "I") (t1_ (al_ (al_ h1_)))
  have hf9 := hts (.fieldLink RX8 9 "MeetSets$Sight" "list" "LMeetSets$SetRow;") (t1_ (al_ (al_ (t1_ h1_))))
  have hiX6 : ∀ w ∈ wsX60, w ∈ wsX8_manySeenOf := fun _ h => List.mem_cons_of_mem _ (List.mem_append_right _ h)
  have hf23 := hts (.fieldLink RX8 23 "MeetSets$SetRow" "size" "I") (t1_ (al_ (al_ (t1_ (t1_ h1_)))))
  have hf28 := hts (.fieldLink RX8 28 "MeetSets$SetRow" "rows" "[I") (t1_ (al_ (al_ (t1_ (t1_ (t1_ h1_))))))
  have hf15 := hts (.fieldLink RX8 15 "MeetSets$Sight" "marks" "[I") (t1_ (al_ (al_ (t4_ h1_))))
  refine w_abs (fun Z hZv hZw => ?_)
  refine hZv ?_
  obtain ⟨H, hH⟩ : ∃ H, H = s.heap := ⟨_, rfl⟩
  obtain ⟨locs, hlo⟩ : ∃ L : List Loc, L = [] := ⟨_, rfl⟩
  rw [← hlo, ← hH]
  have hS : va_S A s.heap H locs := by rw [hlo, hH]; exact hS
  have hP : va_P (dC, dI) vwCl [(a_r, .inr (6, [.ref a_r_rows, .ref a_r_ins, .int r_size, .int r_n, .int r_parts])), (a_r_rows, .inl (c_r_rows, r_len, .inl r_rows)), (a_w, .inr (8, [.ref a_r, .ref a_w_marks, .int w_mark])), (a_w_marks, .inl (c_w_marks, 1024, .inl w_marks))] H := by rw [hH]; exact hP
  clear hH hlo
  unfold pX8_manySeenOf at hs
  refine lv_aload_n hx hb dX8_manySeenOf_0 rfl (lv_at hl 0 rfl) ?_
  refine lv_dup hx hb dX8_manySeenOf_1 rfl ?_
  refine va_get (D := (dC, dI)) (ci := 8) (v := .int w_mark) (C := RX8) (T := TX8) (N := 3) hx hb hts hiX8 hown hK hP 2 rfl rfl 2 (by decide) hf19 (fun _ h9 => h9) rfl dX8_manySeenOf_2 ?_
  refine lv_iconst (v := 1) hx hb dX8_manySeenOf_5 (by decide) ?_
  refine lv_iadd hx hb dX8_manySeenOf_6 ?_
  refine va_put (D := (dC, dI)) (ci := 8) (v := .int (w_mark + 1)) (ty := .int) (C := RX8) (T := TX8) (N := 3) hx hb hts hiX8 tyX8 tyX8_ok nmX8 hown hK hP hD hS 2 rfl rfl 2 (by decide) hf19 (fun _ h9 => h9) rfl (by decide +kernel) rfl rfl (Nat.le_of_ble_eq_true rfl) dX8_manySeenOf_7 (fun H locs hP hD hS => ?_)
  have hP : va_P (dC, dI) vwCl [(a_r, .inr (6, [.ref a_r_rows, .ref a_r_ins, .int r_size, .int r_n, .int r_parts])), (a_r_rows, .inl (c_r_rows, r_len, .inl r_rows)), (a_w, .inr (8, [.ref a_r, .ref a_w_marks, .int (w_mark + 1)])), (a_w_marks, .inl (c_w_marks, 1024, .inl w_marks))] H := hP
  have hD : va_D A [(a_r, .inr (6, [.ref a_r_rows, .ref a_r_ins, .int r_size, .int r_n, .int r_parts])), (a_r_rows, .inl (c_r_rows, r_len, .inl r_rows)), (a_w, .inr (8, [.ref a_r, .ref a_w_marks, .int (w_mark + 1)])), (a_w_marks, .inl (c_w_marks, 1024, .inl w_marks))] := hD
  refine lv_iconst (v := 0) hx hb dX8_manySeenOf_10 (by decide) ?_
  refine lv_istore_n (lv' := [(2, .int 0), (0, .ref a_w), (1, .int p1)]) hx hb dX8_manySeenOf_11 rfl hl (by decide) rfl (fun ls hl => ?_)
  refine lv_iconst (v := 0) hx hb dX8_manySeenOf_12 (by decide) ?_
  refine lv_istore_n (lv' := [(3, .int 0), (2, .int 0), (0, .ref a_w), (1, .int p1)]) hx hb dX8_manySeenOf_13 rfl hl (by decide) rfl (fun ls hl => ?_)
  obtain ⟨e14, he14, hs⟩ := bd_s hs
  have hX14 : ∀ (H : Heap) (locs : List Loc) (ls : Array Slot), va_P (dC, dI) vwCl [(a_r, .inr (6, [.ref a_r_rows, .ref a_r_ins, .int r_size, .int r_n, .int r_parts])), (a_r_rows, .inl (c_r_rows, r_len, .inl r_rows)), (a_w, .inr (8, [.ref a_r, .ref a_w_marks, .int (w_mark + 1)])), (a_w_marks, .inl (c_w_marks, 1024, .inl e14.2))] H → va_D A [(a_r, .inr (6, [.ref a_r_rows, .ref a_r_ins, .int r_size, .int r_n, .int r_parts])), (a_r_rows, .inl (c_r_rows, r_len, .inl r_rows)), (a_w, .inr (8, [.ref a_r, .ref a_w_marks, .int (w_mark + 1)])), (a_w_marks, .inl (c_w_marks, 1024, .inl e14.2))] → va_S A s.heap H locs → lv_has ls 5 [(2, .int e14.1)] → Z H locs 0 0 (F0 m 72 ls []) := by
    intro H locs ls hP hD hS hl
    refine hZv ?_
    refine lv_iload_n hx hb dX8_manySeenOf_72 rfl (lv_at hl 0 rfl) ?_
    replace hs := Option.some.inj hs
    subst hs
    exact W.iret (v := e14.1) hx hb hr (fun t ht hW => ⟨⟨e14.1, (), rfl, rfl, by rw [ht]; exact hP, va_K.moved hW.alike hK, hD⟩, hS.F ht⟩) hS.2.2 dX8_manySeenOf_73
  clear hs
  have hL14 : ∀ (n : Nat) (s14 : Int32 × Int32 × (Nat → Int32)) (H : Heap) (locs : List Loc) (ls : Array Slot), itr (pX8_manySeenOf_L14 r_len r_size r_rows w_mark p1) n s14 = some e14 → va_P (dC, dI) vwCl [(a_r, .inr (6, [.ref a_r_rows, .ref a_r_ins, .int r_size, .int r_n, .int r_parts])), (a_r_rows, .inl (c_r_rows, r_len, .inl r_rows)), (a_w, .inr (8, [.ref a_r, .ref a_w_marks, .int (w_mark + 1)])), (a_w_marks, .inl (c_w_marks, 1024, .inl s14.2.2))] H → va_D A [(a_r, .inr (6, [.ref a_r_rows, .ref a_r_ins, .int r_size, .int r_n, .int r_parts])), (a_r_rows, .inl (c_r_rows, r_len, .inl r_rows)), (a_w, .inr (8, [.ref a_r, .ref a_w_marks, .int (w_mark + 1)])), (a_w_marks, .inl (c_w_marks, 1024, .inl s14.2.2))] → va_S A s.heap H locs → lv_has ls 5 [(0, .ref a_w), (1, .int p1), (2, .int s14.1), (3, .int s14.2.1)] → Z H locs 0 0 (F0 m 14 ls []) := by
    intro n
    induction n with
    | zero =>
      intro s14 H locs ls hn
      exact (itr_0 hn).elim
    | succ n ih =>
      intro s14 H locs ls hn hP hD hS hl
      obtain ⟨y1, hs, hn⟩ := itr_s hn
      unfold pX8_manySeenOf_L14 at hs
      refine hZv ?_
      refine lv_iload_n hx hb dX8_manySeenOf_14 rfl (lv_at hl 3 rfl) ?_
      refine lv_aload_n hx hb dX8_manySeenOf_15 rfl (lv_at hl 0 rfl) ?_
      refine va_get (D := (dC, dI)) (ci := 8) (v := .ref a_r) (C := RX8) (T := TX8) (N := 3) hx hb hts hiX8 hown hK hP 2 rfl rfl 0 (by decide) hf9 (fun _ h9 => h9) rfl dX8_manySeenOf_16 ?_
      refine va_get (D := (dC, dI)) (ci := 6) (v := .int r_size) (C := RX6) (T := TX6) (N := 5) hx hb hts hiX6 hown hK hP 0 rfl rfl 2 (by decide) hf23 (fun _ h9 => h9) rfl dX8_manySeenOf_19 ?_
      refine lv_icmp_ge (tgt := 72) hx hb dX8_manySeenOf_22 (by decide) (fun hc => ?_) (fun hc => ?_)
      · replace hs := it_t hc hs
        replace hs := Option.some.inj hs
        subst hs
        obtain rfl : (s14.1, s14.2.2) = e14 := hn
        exact hZw (hX14 H locs ls hP hD hS (lv_sub hl [2] rfl))
      · replace hs := it_f hc hs
        refine lv_aload_n hx hb dX8_manySeenOf_25 rfl (lv_at hl 0 rfl) ?_
        refine va_get (D := (dC, dI)) (ci := 8) (v := .ref a_r) (C := RX8) (T := TX8) (N := 3) hx hb hts hiX8 hown hK hP 2 rfl rfl 0 (by decide) hf9 (fun _ h9 => h9) rfl dX8_manySeenOf_26 ?_
        refine va_get (D := (dC, dI)) (ci := 6) (v := .ref a_r_rows) (C := RX6) (T := TX6) (N := 5) hx hb hts hiX6 hown hK hP 0 rfl rfl 0 (by decide) hf28 (fun _ h9 => h9) rfl dX8_manySeenOf_29 ?_
        refine lv_iload_n hx hb dX8_manySeenOf_32 rfl (lv_at hl 3 rfl) ?_
        obtain ⟨hg2, hs⟩ := gd_s hs
        refine va_iald hx hb hK hP 1 0 rfl rfl hg2 dX8_manySeenOf_33 ?_
        refine lv_iload_n hx hb dX8_manySeenOf_34 rfl (lv_at hl 1 rfl) ?_
        refine lv_iand hx hb dX8_manySeenOf_35 ?_
        refine lv_istore (lv' := [(4, .int ((r_rows s14.2.1.toNatClampNeg) &&& p1)), (0, .ref a_w), (1, .int p1), (2, .int s14.1), (3, .int s14.2.1)]) hx hb dX8_manySeenOf_36 hl (by decide) rfl (fun ls hl => ?_)
        refine lv_aload_n hx hb dX8_manySeenOf_38 rfl (lv_at hl 1 rfl) ?_
        refine va_get (D := (dC, dI)) (ci := 8) (v := .ref a_w_marks) (C := RX8) (T := TX8) (N := 3) hx hb hts hiX8 hown hK hP 2 rfl rfl 1 (by decide) hf15 (fun _ h9 => h9) rfl dX8_manySeenOf_39 ?_
        refine lv_iload hx hb dX8_manySeenOf_42 (lv_at hl 0 rfl) ?_
        obtain ⟨hg3, hs⟩ := gd_s hs
        refine va_iald hx hb hK hP 3 1 rfl rfl hg3 dX8_manySeenOf_44 ?_
        refine lv_aload_n hx hb dX8_manySeenOf_45 rfl (lv_at hl 1 rfl) ?_
        refine va_get (D := (dC, dI)) (ci := 8) (v := .int (w_mark + 1)) (C := RX8) (T := TX8) (N := 3) hx hb hts hiX8 hown hK hP 2 rfl rfl 2 (by decide) hf19 (fun _ h9 => h9) rfl dX8_manySeenOf_46 ?_
        refine lv_icmp_eq (tgt := 66) hx hb dX8_manySeenOf_49 (by decide) (fun hc => ?_) (fun hc => ?_)
        · replace hs := it_t hc hs
          refine lv_iinc (v := s14.2.1 + 1) (lv' := [(3, .int (s14.2.1 + 1)), (4, .int ((r_rows s14.2.1.toNatClampNeg) &&& p1)), (0, .ref a_w), (1, .int p1), (2, .int s14.1)]) hx hb dX8_manySeenOf_66 hl (k := 4) rfl (by rfl) (by decide) rfl (fun ls hl => ?_)
          refine lv_goto (tgt := 14) hx hb dX8_manySeenOf_69 (by decide) ?_
          replace hs := Option.some.inj hs
          subst hs
          exact hZw (ih (s14.1, s14.2.1 + 1, s14.2.2) H locs ls hn hP hD hS (lv_sub hl [2, 3, 4, 0] rfl))
        · replace hs := it_f hc hs
          refine lv_aload_n hx hb dX8_manySeenOf_52 rfl (lv_at hl 1 rfl) ?_
          refine va_get (D := (dC, dI)) (ci := 8) (v := .ref a_w_marks) (C := RX8) (T := TX8) (N := 3) hx hb hts hiX8 hown hK hP 2 rfl rfl 1 (by decide) hf15 (fun _ h9 => h9) rfl dX8_manySeenOf_53 ?_
          refine lv_iload hx hb dX8_manySeenOf_56 (lv_at hl 0 rfl) ?_
          refine lv_aload_n hx hb dX8_manySeenOf_58 rfl (lv_at hl 1 rfl) ?_
          refine va_get (D := (dC, dI)) (ci := 8) (v := .int (w_mark + 1)) (C := RX8) (T := TX8) (N := 3) hx hb hts hiX8 hown hK hP 2 rfl rfl 2 (by decide) hf19 (fun _ h9 => h9) rfl dX8_manySeenOf_59 ?_
          obtain ⟨hg4, hs⟩ := gd_s hs
          refine va_iast hx hb hK hP hD hS 3 1 rfl rfl hg4 dX8_manySeenOf_62 (fun H locs hP hD hS => ?_)
          have hP : va_P (dC, dI) vwCl [(a_r, .inr (6, [.ref a_r_rows, .ref a_r_ins, .int r_size, .int r_n, .int r_parts])), (a_r_rows, .inl (c_r_rows, r_len, .inl r_rows)), (a_w, .inr (8, [.ref a_r, .ref a_w_marks, .int (w_mark + 1)])), (a_w_marks, .inl (c_w_marks, 1024, .inl (upd s14.2.2 ((r_rows s14.2.1.toNatClampNeg) &&& p1).toNatClampNeg (w_mark + 1))))] H := hP
          have hD : va_D A [(a_r, .inr (6, [.ref a_r_rows, .ref a_r_ins, .int r_size, .int r_n, .int r_parts])), (a_r_rows, .inl (c_r_rows, r_len, .inl r_rows)), (a_w, .inr (8, [.ref a_r, .ref a_w_marks, .int (w_mark + 1)])), (a_w_marks, .inl (c_w_marks, 1024, .inl (upd s14.2.2 ((r_rows s14.2.1.toNatClampNeg) &&& p1).toNatClampNeg (w_mark + 1))))] := hD
          refine lv_iinc (v := s14.1 + 1) (lv' := [(2, .int (s14.1 + 1)), (4, .int ((r_rows s14.2.1.toNatClampNeg) &&& p1)), (0, .ref a_w), (1, .int p1), (3, .int s14.2.1)]) hx hb dX8_manySeenOf_63 hl (k := 3) rfl (by rfl) (by decide) rfl (fun ls hl => ?_)
          refine lv_iinc (v := s14.2.1 + 1) (lv' := [(3, .int (s14.2.1 + 1)), (2, .int (s14.1 + 1)), (4, .int ((r_rows s14.2.1.toNatClampNeg) &&& p1)), (0, .ref a_w), (1, .int p1)]) hx hb dX8_manySeenOf_66 hl (k := 4) rfl (by rfl) (by decide) rfl (fun ls hl => ?_)
          refine lv_goto (tgt := 14) hx hb dX8_manySeenOf_69 (by decide) ?_
          replace hs := Option.some.inj hs
          subst hs
          exact hZw (ih (s14.1 + 1, s14.2.1 + 1, upd s14.2.2 ((r_rows s14.2.1.toNatClampNeg) &&& p1).toNatClampNeg (w_mark + 1)) H locs ls hn hP hD hS (lv_sub hl [3, 4, 1, 0] rfl))
  obtain ⟨n14, hn14⟩ := lp_ex he14
  exact hZw (hL14 n14 (0, 0, w_marks) H locs ls hn14 hP hD hS (lv_sub hl [2, 3, 1, 0] rfl))
noncomputable def pX8_greatestAllSeen_L6 (r_len : Nat) (r_size : Int32) (r_parts : Int32) (r_rows : Nat → Int32) (s6 : Int32 × Int32 × Int32 × Int32 × (Nat → Int32)) : Option ((Int32 × Int32 × Int32 × Int32 × (Nat → Int32)) ⊕ (Int32 × Int32 × (Nat → Int32))) :=
  if r_parts ≤ s6.2.2.1 then (some (Sum.inr (s6.1, s6.2.2.2.1, s6.2.2.2.2))) else (Option.bind (pJ6_bitCount_0f7a4 s6.2.2.1) (fun r2 => if r2 ≤ s6.2.1 then (some (Sum.inl (s6.1, s6.2.1, s6.2.2.1 + 1, s6.2.2.2.1, s6.2.2.2.2))) else (if r_size < (1 <<< (r2 &&& 31)) then (some (Sum.inl (s6.1, s6.2.1, s6.2.2.1 + 1, s6.2.2.2.1, s6.2.2.2.2))) else (Option.bind (pX8_manySeenOf r_len r_size r_rows s6.2.2.2.1 s6.2.2.2.2 s6.2.2.1) (fun r3 => if r3.1 = (1 <<< (r2 &&& 31)) then (some (Sum.inl (s6.2.2.1, r2, s6.2.2.1 + 1, r3.2.1, r3.2.2))) else (some (Sum.inl (s6.1, s6.2.1, s6.2.2.1 + 1, r3.2.1, r3.2.2))))))))
noncomputable def pX8_greatestAllSeen (r_len : Nat) (r_size : Int32) (r_parts : Int32) (r_rows : Nat → Int32) (w_mark : Int32) (w_marks : Nat → Int32) : Option (Int32 × Int32 × (Nat → Int32)) :=
  Option.bind (lp (pX8_greatestAllSeen_L6 r_len r_size r_parts r_rows) (0, 0, 1, w_mark, w_marks)) (fun e6 => some (e6.1, e6.2.1, e6.2.2))
set_option maxHeartbeats 4000000 in
set_option maxRecDepth 100000 in
theorem c_X8_greatestAllSeen (l : Launch) (dC : Nat → ClassId) (dI : Nat → Nat → Nat) (a_r : Nat) (a_r_rows : Nat) (a_r_ins : Nat) (a_w : Nat) (a_w_marks : Nat) (c_r_rows c_w_marks : ClassId) (r_len : Nat) (sz : Nat) (r_size : Int32) (r_n : Int32) (r_parts : Int32) (r_rows : Nat → Int32) (w_mark : Int32) (w_marks : Nat → Int32) (rv : Int32 × Int32 × (Nat → Int32)) (hs : pX8_greatestAllSeen r_len r_size r_parts r_rows w_mark w_marks = some rv) : Met l yX8_greatestAllSeen wsX8_greatestAllSeen ({ frames := 1, cells := 0, slots := 0, locals := 24 }) (sPc [.ref a_w] (dC, dI) [(c_r_rows, .int), (c_w_marks, .int)] [(a_r, .inr (6, [.ref a_r_rows, .ref a_r_ins, .int r_size, .int r_n, .int r_parts])), (a_r_rows, .inl (c_r_rows, r_len, .inl r_rows)), (a_w, .inr (8, [.ref a_r, .ref a_w_marks, .int w_mark])), (a_w_marks, .inl (c_w_marks, 1024, .inl w_marks))] sz) (va_Qi (fun (r : Int32) (_ : Unit) => r = rv.1) (sB (dC, dI) [(c_r_rows, .int), (c_w_marks, .int)] (va_A [(a_r, .inr (6, [.ref a_r_rows, .ref a_r_ins, .int r_size, .int r_n, .int r_parts])), (a_r_rows, .inl (c_r_rows, r_len, .inl r_rows)), (a_w, .inr (8, [.ref a_r, .ref a_w_marks, .int w_mark])), (a_w_marks, .inl (c_w_marks, 1024, .inl w_marks))] sz) [(a_r, .inr (6, [.ref a_r_rows, .ref a_r_ins, .int r_size, .int r_n, .int r_parts])), (a_r_rows, .inl (c_r_rows, r_len, .inl r_rows)), (a_w, .inr (8, [.ref a_r, .ref a_w_marks, .int rv.2.1])), (a_w_marks, .inl (c_w_marks, 1024, .inl rv.2.2))]) (va_A [(a_r, .inr (6, [.ref a_r_rows, .ref a_r_ins, .int r_size, .int r_n, .int r_parts])), (a_r_rows, .inl (c_r_rows, r_len, .inl r_rows)), (a_w, .inr (8, [.ref a_r, .ref a_w_marks, .int w_mark])), (a_w_marks, .inl (c_w_marks, 1024, .inl w_marks))] sz)) 0 0 (va_A [(a_r, .inr (6, [.ref a_r_rows, .ref a_r_ins, .int r_size, .int r_n, .int r_parts])), (a_r_rows, .inl (c_r_rows, r_len, .inl r_rows)), (a_w, .inr (8, [.ref a_r, .ref a_w_marks, .int w_mark])), (a_w_marks, .inl (c_w_marks, 1024, .inl w_marks))] sz) := by
  refine Met.ofW (cc := cX8_greatestAllSeen) (maxL := 5) (ret := (some .int)) (by decide) rfl ?_
  intro p e s m args below meth c s₁ B hml hv
  obtain ⟨rfl, hsz, hP, hK, hD0, hN⟩ := hv
  have hx := B.exec
  have hb := B.bytes
  have hr := B.returns
  have hts := atoms_spec (ws := wsX8_greatestAllSeen) B.pre
  have hown : s.vm.findClass RX8 = some m.cls := findClass_of_methodNamed B.named
  have hlocks := B.notSynchronized
  subst hsz
  have hD := hD0.self (sz := s.heap.size)
  generalize hAe : va_A [(a_r, .inr (6, [.ref a_r_rows, .ref a_r_ins, .int r_size, .int r_n, .int r_parts])), (a_r_rows, .inl (c_r_rows, r_len, .inl r_rows)), (a_w, .inr (8, [.ref a_r, .ref a_w_marks, .int w_mark])), (a_w_marks, .inl (c_w_marks, 1024, .inl w_marks))] s.heap.size = A at hD hN ⊢
  have hA : ∀ q : Nat, s.heap.size ≤ q → A q := fun q h => by rw [← hAe]; exact Or.inr h
  have hS : va_S A s.heap s.heap [] := va_S.rf
  have hP : va_P (dC, dI) vwCl [(a_r, .inr (6, [.ref a_r_rows, .ref a_r_ins, .int r_size, .int r_n, .int r_parts])), (a_r_rows, .inl (c_r_rows, r_len, .inl r_rows)), (a_w, .inr (8, [.ref a_r, .ref a_w_marks, .int w_mark])), (a_w_marks, .inl (c_w_marks, 1024, .inl w_marks))] s.heap := hP
  have hl := lv_entry ([.ref a_w]) (n := 5) (Nat.le_of_ble_eq_true rfl)
  rw [lg_entry_eq]
  generalize (lg_sl ([.ref a_w]) ++ List.replicate (5 - (lg_sl ([.ref a_w])).length) Slot.unset).toArray = ls at hl ⊢
  have hl : lv_has ls 5 [(0, .ref a_w)] := hl
  have hiX8 : ∀ w ∈ wsX80, w ∈ wsX8_greatestAllSeen := fun _ h => List.mem_cons_of_mem _ (List.mem_append_left _ (List.mem_append_right _ h))
  have hf9 := hts (.fieldLink RX8 9 "MeetSets$Sight" "list" "LMeetSets$SetRow;") (t1_ (al_ (al_ h1_)))
  have hiX6 : ∀ w ∈ wsX60, w ∈ wsX8_greatestAllSeen := fun _ h => List.mem_cons_of_mem _ (List.mem_append_right _ h)
  have hf31 := hts (.fieldLink RX8 31 "MeetSets$SetRow" "parts" "I") (t1_ (al_ (al_ (t1_ h1_))))
  have hf23 := hts (.fieldLink RX8 23 "MeetSets$SetRow" "size" "I") (t1_ (al_ (al_ (t1_ (t1_ h1_)))))
  refine w_abs (fun Z hZv hZw => ?_)
  refine hZv ?_
  obtain ⟨H, hH⟩ : ∃ H, H = s.heap := ⟨_, rfl⟩
  obtain ⟨locs, hlo⟩ : ∃ L : List Loc, L = [] := ⟨_, rfl⟩
  rw [← hlo, ← hH]
  have hS : va_S A s.heap H locs := by rw [hlo, hH]; exact hS
  have hP : va_P (dC, dI) vwCl [(a_r, .inr (6, [.ref a_r_rows, .ref a_r_ins, .int r_size, .int r_n, .int r_parts])), (a_r_rows, .inl (c_r_rows, r_len, .inl r_rows)), (a_w, .inr (8, [.ref a_r, .ref a_w_marks, .int w_mark])), (a_w_marks, .inl (c_w_marks, 1024, .inl w_marks))] H := by rw [hH]; exact hP
  clear hH hlo
  unfold pX8_greatestAllSeen at hs
  refine lv_iconst (v := 0) hx hb dX8_greatestAllSeen_0 (by decide) ?_
  refine lv_istore_n (lv' := [(1, .int 0), (0, .ref a_w)]) hx hb dX8_greatestAllSeen_1 rfl hl (by decide) rfl (fun ls hl => ?_)
  refine lv_iconst (v := 0) hx hb dX8_greatestAllSeen_2 (by decide) ?_
  refine lv_istore_n (lv' := [(2, .int 0), (1, .int 0), (0, .ref a_w)]) hx hb dX8_greatestAllSeen_3 rfl hl (by decide) rfl (fun ls hl => ?_)
  refine lv_iconst (v := 1) hx hb dX8_greatestAllSeen_4 (by decide) ?_
  refine lv_istore_n (lv' := [(3, .int 1), (2, .int 0), (1, .int 0), (0, .ref a_w)]) hx hb dX8_greatestAllSeen_5 rfl hl (by decide) rfl (fun ls hl => ?_)
  obtain ⟨e6, he6, hs⟩ := bd_s hs
  have hX6 : ∀ (H : Heap) (locs : List Loc) (ls : Array Slot), va_P (dC, dI) vwCl [(a_r, .inr (6, [.ref a_r_rows, .ref a_r_ins, .int r_size, .int r_n, .int r_parts])), (a_r_rows, .inl (c_r_rows, r_len, .inl r_rows)), (a_w, .inr (8, [.ref a_r, .ref a_w_marks, .int e6.2.1])), (a_w_marks, .inl (c_w_marks, 1024, .inl e6.2.2))] H → va_D A [(a_r, .inr (6, [.ref a_r_rows, .ref a_r_ins, .int r_size, .int r_n, .int r_parts])), (a_r_rows, .inl (c_r_rows, r_len, .inl r_rows)), (a_w, .inr (8, [.ref a_r, .ref a_w_marks, .int e6.2.1])), (a_w_marks, .inl (c_w_marks, 1024, .inl e6.2.2))] → va_S A s.heap H locs → lv_has ls 5 [(1, .int e6.1)] → Z H locs 0 0 (F0 m 66 ls []) := by
    intro H locs ls hP hD hS hl
    refine hZv ?_
    refine lv_iload_n hx hb dX8_greatestAllSeen_66 rfl (lv_at hl 0 rfl) ?_
    replace hs := Option.some.inj hs
    subst hs
    exact W.iret (v := e6.1) hx hb hr (fun t ht hW => ⟨⟨e6.1, (), rfl, rfl, by rw [ht]; exact hP, va_K.moved hW.alike hK, hD⟩, hS.F ht⟩) hS.2.2 dX8_greatestAllSeen_67
  clear hs
  have hL6 : ∀ (n : Nat) (s6 : Int32 × Int32 × Int32 × Int32 × (Nat → Int32)) (H : Heap) (locs : List Loc) (ls : Array Slot), itr (pX8_greatestAllSeen_L6 r_len r_size r_parts r_rows) n s6 = some e6 → va_P (dC, dI) vwCl [(a_r, .inr (6, [.ref a_r_rows, .ref a_r_ins, .int r_size, .int r_n, .int r_parts])), (a_r_rows, .inl (c_r_rows, r_len, .inl r_rows)), (a_w, .inr (8, [.ref a_r, .ref a_w_marks, .int s6.2.2.2.1])), (a_w_marks, .inl (c_w_marks, 1024, .inl s6.2.2.2.2))] H → va_D A [(a_r, .inr (6, [.ref a_r_rows, .ref a_r_ins, .int r_size, .int r_n, .int r_parts])), (a_r_rows, .inl (c_r_rows, r_len, .inl r_rows)), (a_w, .inr (8, [.ref a_r, .ref a_w_marks, .int s6.2.2.2.1])), (a_w_marks, .inl (c_w_marks, 1024, .inl s6.2.2.2.2))] → va_S A s.heap H locs → lv_has ls 5 [(0, .ref a_w), (1, .int s6.1), (2, .int s6.2.1), (3, .int s6.2.2.1)] → Z H locs 0 0 (F0 m 6 ls []) := by
    intro n
    induction n with
    | zero =>
      intro s6 H locs ls hn
      exact (itr_0 hn).elim
    | succ n ih =>
      intro s6 H locs ls hn hP hD hS hl
      obtain ⟨y1, hs, hn⟩ := itr_s hn
      unfold pX8_greatestAllSeen_L6 at hs
      refine hZv ?_
      refine lv_iload_n hx hb dX8_greatestAllSeen_6 rfl (lv_at hl 3 rfl) ?_
      refine lv_aload_n hx hb dX8_greatestAllSeen_7 rfl (lv_at hl 0 rfl) ?_
      refine va_get (D := (dC, dI)) (ci := 8) (v := .ref a_r) (C := RX8) (T := TX8) (N := 3) hx hb hts hiX8 hown hK hP 2 rfl rfl 0 (by decide) hf9 (fun _ h9 => h9) rfl dX8_greatestAllSeen_8 ?_
      refine va_get (D := (dC, dI)) (ci := 6) (v := .int r_parts) (C := RX6) (T := TX6) (N := 5) hx hb hts hiX6 hown hK hP 0 rfl rfl 4 (by decide) hf31 (fun _ h9 => h9) rfl dX8_greatestAllSeen_11 ?_
      refine lv_icmp_ge (tgt := 66) hx hb dX8_greatestAllSeen_14 (by decide) (fun hc => ?_) (fun hc => ?_)
      · replace hs := it_t hc hs
        replace hs := Option.some.inj hs
        subst hs
        obtain rfl : (s6.1, s6.2.2.2.1, s6.2.2.2.2) = e6 := hn
        exact hZw (hX6 H locs ls hP hD hS (lv_sub hl [1] rfl))
      · replace hs := it_f hc hs
        refine lv_iload_n hx hb dX8_greatestAllSeen_17 rfl (lv_at hl 3 rfl) ?_
        obtain ⟨r2, hr2, hs⟩ := bd_s hs
        refine kc_i (isC := []) (isR := [0, 1, 2, 3]) (pm := [0, 1, 2, 3]) (wr := [(a_r, .inr (6, [.ref a_r_rows, .ref a_r_ins, .int r_size, .int r_n, .int r_parts])), (a_r_rows, .inl (c_r_rows, r_len, .inl r_rows)), (a_w, .inr (8, [.ref a_r, .ref a_w_marks, .int s6.2.2.2.1])), (a_w_marks, .inl (c_w_marks, 1024, .inl s6.2.2.2.2))]) (w1 := []) (w2 := [(a_r, .inr (6, [.ref a_r_rows, .ref a_r_ins, .int r_size, .int r_n, .int r_parts])), (a_r_rows, .inl (c_r_rows, r_len, .inl r_rows)), (a_w, .inr (8, [.ref a_r, .ref a_w_marks, .int s6.2.2.2.1])), (a_w_marks, .inl (c_w_marks, 1024, .inl s6.2.2.2.2))]) (va_runS (As := [.int s6.2.2.1]) (rest := []) ⟨hx, hb, hml, hown, hts⟩ (c_J6_bitCount_0f7a4 l dC dI H.size s6.2.2.1 r2 hr2) (va_cwS 1 hts gX8_greatestAllSeen_J6_bitCount_0f7a4 rfl rfl rfl (by decide +kernel) ⟨Nat.le_of_ble_eq_true rfl, Nat.le_of_ble_eq_true rfl⟩) (kp_S hK hP hD hS hA hN (isC := []) (isT := []) (wc := []) rfl (by decide +kernel) rfl) rfl rfl hl.1 rfl (lv_room (Nat.le_of_ble_eq_true rfl)) dX8_greatestAllSeen_18 ⟨Nat.le_of_ble_eq_true rfl, Nat.le_of_ble_eq_true rfl⟩) hP hD hS hA rfl rfl (by decide +kernel) (by decide +kernel) rfl (by decide +kernel) (fun H locs hP hD hS => ?_)
        refine lv_istore (lv' := [(4, .int r2), (0, .ref a_w), (1, .int s6.1), (2, .int s6.2.1), (3, .int s6.2.2.1)]) hx hb dX8_greatestAllSeen_21 hl (by decide) rfl (fun ls hl => ?_)
        refine lv_iload hx hb dX8_greatestAllSeen_23 (lv_at hl 0 rfl) ?_
        refine lv_iload_n hx hb dX8_greatestAllSeen_25 rfl (lv_at hl 3 rfl) ?_
        refine lv_icmp_le (tgt := 60) hx hb dX8_greatestAllSeen_26 (by decide) (fun hc => ?_) (fun hc => ?_)
        · replace hs := it_t hc hs
          refine lv_iinc (v := s6.2.2.1 + 1) (lv' := [(3, .int (s6.2.2.1 + 1)), (4, .int r2), (0, .ref a_w), (1, .int s6.1), (2, .int s6.2.1)]) hx hb dX8_greatestAllSeen_60 hl (k := 4) rfl (by rfl) (by decide) rfl (fun ls hl => ?_)
          refine lv_goto (tgt := 6) hx hb dX8_greatestAllSeen_63 (by decide) ?_
          replace hs := Option.some.inj hs
          subst hs
          exact hZw (ih (s6.1, s6.2.1, s6.2.2.1 + 1, s6.2.2.2.1, s6.2.2.2.2) H locs ls hn hP hD hS (lv_sub hl [2, 3, 4, 0] rfl))
        · replace hs := it_f hc hs
          refine lv_iconst (v := 1) hx hb dX8_greatestAllSeen_29 (by decide) ?_
          refine lv_iload hx hb dX8_greatestAllSeen_30 (lv_at hl 0 rfl) ?_
          refine lv_ishl hx hb dX8_greatestAllSeen_32 ?_
          refine lv_aload_n hx hb dX8_greatestAllSeen_33 rfl (lv_at hl 1 rfl) ?_
          refine va_get (D := (dC, dI)) (ci := 8) (v := .ref a_r) (C := RX8) (T := TX8) (N := 3) hx hb hts hiX8 hown hK hP 2 rfl rfl 0 (by decide) hf9 (fun _ h9 => h9) rfl dX8_greatestAllSeen_34 ?_
          refine va_get (D := (dC, dI)) (ci := 6) (v := .int r_size) (C := RX6) (T := TX6) (N := 5) hx hb hts hiX6 hown hK hP 0 rfl rfl 2 (by decide) hf23 (fun _ h9 => h9) rfl dX8_greatestAllSeen_37 ?_
          refine lv_icmp_gt (tgt := 60) hx hb dX8_greatestAllSeen_40 (by decide) (fun hc => ?_) (fun hc => ?_)
          · replace hs := it_t hc hs
            refine lv_iinc (v := s6.2.2.1 + 1) (lv' := [(3, .int (s6.2.2.1 + 1)), (4, .int r2), (0, .ref a_w), (1, .int s6.1), (2, .int s6.2.1)]) hx hb dX8_greatestAllSeen_60 hl (k := 4) rfl (by rfl) (by decide) rfl (fun ls hl => ?_)
            refine lv_goto (tgt := 6) hx hb dX8_greatestAllSeen_63 (by decide) ?_
            replace hs := Option.some.inj hs
            subst hs
            exact hZw (ih (s6.1, s6.2.1, s6.2.2.1 + 1, s6.2.2.2.1, s6.2.2.2.2) H locs ls hn hP hD hS (lv_sub hl [2, 3, 4, 0] rfl))
          · replace hs := it_f hc hs
            refine lv_aload_n hx hb dX8_greatestAllSeen_43 rfl (lv_at hl 1 rfl) ?_
            refine lv_iload_n hx hb dX8_greatestAllSeen_44 rfl (lv_at hl 4 rfl) ?_
            obtain ⟨r3, hr3, hs⟩ := bd_s hs
            refine kc_i (isC := [0, 1, 2, 3]) (isR := []) (pm := [0, 1, 2, 3]) (wr := []) (w1 := [(a_r, .inr (6, [.ref a_r_rows, .ref a_r_ins, .int r_size, .int r_n, .int r_parts])), (a_r_rows, .inl (c_r_rows, r_len, .inl r_rows)), (a_w, .inr (8, [.ref a_r, .ref a_w_marks, .int r3.2.1])), (a_w_marks, .inl (c_w_marks, 1024, .inl r3.2.2))]) (w2 := [(a_r, .inr (6, [.ref a_r_rows, .ref a_r_ins, .int r_size, .int r_n, .int r_parts])), (a_r_rows, .inl (c_r_rows, r_len, .inl r_rows)), (a_w, .inr (8, [.ref a_r, .ref a_w_marks, .int r3.2.1])), (a_w_marks, .inl (c_w_marks, 1024, .inl r3.2.2))]) (va_runV (As := [.int s6.2.2.1]) (rest := []) ⟨hx, hb, hml, hown, hts⟩ (c_X8_manySeenOf l dC dI a_r a_r_rows a_r_ins a_w a_w_marks c_r_rows c_w_marks r_len H.size r_size r_n r_parts r_rows s6.2.2.2.1 s6.2.2.2.2 s6.2.2.1 r3 hr3) (cwV 1 hts gX8_greatestAllSeen_X8_manySeenOf rfl rfl rfl (by decide +kernel) ⟨Nat.le_of_ble_eq_true rfl, Nat.le_of_ble_eq_true rfl⟩) (kp_V hK hP hD hS hA hN (isC := [0, 1, 2, 3]) (isT := [0, 1]) (wc := [(a_r, .inr (6, [.ref a_r_rows, .ref a_r_ins, .int r_size, .int r_n, .int r_parts])), (a_r_rows, .inl (c_r_rows, r_len, .inl r_rows)), (a_w, .inr (8, [.ref a_r, .ref a_w_marks, .int s6.2.2.2.1])), (a_w_marks, .inl (c_w_marks, 1024, .inl s6.2.2.2.2))]) rfl (by decide +kernel) rfl (ci := 8) (q0 := 2) rfl rfl) rfl rfl hl.1 rfl (lv_room (Nat.le_of_ble_eq_true rfl)) dX8_greatestAllSeen_45 ⟨Nat.le_of_ble_eq_true rfl, Nat.le_of_ble_eq_true rfl⟩) hP hD hS hA rfl rfl (by decide +kernel) (by decide +kernel) rfl (by decide +kernel) (fun H locs hP hD hS => ?_)
            refine lv_iconst (v := 1) hx hb dX8_greatestAllSeen_48 (by decide) ?_
            refine lv_iload hx hb dX8_greatestAllSeen_49 (lv_at hl 0 rfl) ?_
            refine lv_ishl hx hb dX8_greatestAllSeen_51 ?_
            refine lv_icmp_ne (tgt := 60) hx hb dX8_greatestAllSeen_52 (by decide) (fun hc => ?_) (fun hc => ?_)
            · replace hs := it_f hc hs
              refine lv_iinc (v := s6.2.2.1 + 1) (lv' := [(3, .int (s6.2.2.1 + 1)), (4, .int r2), (0, .ref a_w), (1, .int s6.1), (2, .int s6.2.1)]) hx hb dX8_greatestAllSeen_60 hl (k := 4) rfl (by rfl) (by decide) rfl (fun ls hl => ?_)
              refine lv_goto (tgt := 6) hx hb dX8_greatestAllSeen_63 (by decide) ?_
              replace hs := Option.some.inj hs
              subst hs
              exact hZw (ih (s6.1, s6.2.1, s6.2.2.1 + 1, r3.2.1, r3.2.2) H locs ls hn hP hD hS (lv_sub hl [2, 3, 4, 0] rfl))
            · replace hs := it_t hc hs
              refine lv_iload_n hx hb dX8_greatestAllSeen_55 rfl (lv_at hl 4 rfl) ?_
              refine lv_istore_n (lv' := [(1, .int s6.2.2.1), (4, .int r2), (0, .ref a_w), (2, .int s6.2.1), (3, .int s6.2.2.1)]) hx hb dX8_greatestAllSeen_56 rfl hl (by decide) rfl (fun ls hl => ?_)
              refine lv_iload hx hb dX8_greatestAllSeen_57 (lv_at hl 1 rfl) ?_
              refine lv_istore_n (lv' := [(2, .int r2), (1, .int s6.2.2.1), (4, .int r2), (0, .ref a_w), (3, .int s6.2.2.1)]) hx hb dX8_greatestAllSeen_59 rfl hl (by decide) rfl (fun ls hl => ?_)
              refine lv_iinc (v := s6.2.2.1 + 1) (lv' := [(3, .int (s6.2.2.1 + 1)), (2, .int r2), (1, .int s6.2.2.1), (4, .int r2), (0, .ref a_w)]) hx hb dX8_greatestAllSeen_60 hl (k := 4) rfl (by rfl) (by decide) rfl (fun ls hl => ?_)
              refine lv_goto (tgt := 6) hx hb dX8_greatestAllSeen_63 (by decide) ?_
              replace hs := Option.some.inj hs
              subst hs
              exact hZw (ih (s6.2.2.1, r2, s6.2.2.1 + 1, r3.2.1, r3.2.2) H locs ls hn hP hD hS (lv_sub hl [4, 2, 1, 0] rfl))
  obtain ⟨n6, hn6⟩ := lp_ex he6
  exact hZw (hL6 n6 (0, 0, 1, w_mark, w_marks) H locs ls hn6 hP hD hS (lv_sub hl [3, 2, 1, 0] rfl))
noncomputable def pX1_waysByOne (r_ins : Nat → Int32) (p1 : Int32) : Option (Int32) :=
  Option.bind (pX6_hasSetIn r_ins p1) (fun r1 => if r1 = 0 then (some 1) else (some 0))
set_option maxHeartbeats 4000000 in
set_option maxRecDepth 100000 in
theorem c_X1_waysByOne (l : Launch) (dC : Nat → ClassId) (dI : Nat → Nat → Nat) (a_r : Nat) (a_r_rows : Nat) (a_r_ins : Nat) (a_o : Nat) (c_r_ins : ClassId) (sz : Nat) (r_size : Int32) (r_n : Int32) (r_parts : Int32) (r_ins : Nat → Int32) (p1 : Int32) (rv : Int32) (hs : pX1_waysByOne r_ins p1 = some rv) : Met l yX1_waysByOne wsX1_waysByOne ({ frames := 1, cells := 0, slots := 0, locals := 21 }) (sPc [.ref a_o, .int p1] (dC, dI) [(c_r_ins, .int)] [(a_r, .inr (6, [.ref a_r_rows, .ref a_r_ins, .int r_size, .int r_n, .int r_parts])), (a_r_ins, .inl (c_r_ins, 1024, .inl r_ins)), (a_o, .inr (1, [.ref a_r]))] sz) (va_Qi (fun (r : Int32) (_ : Unit) => r = rv) (sB (dC, dI) [(c_r_ins, .int)] (va_A [(a_r, .inr (6, [.ref a_r_rows, .ref a_r_ins, .int r_size, .int r_n, .int r_parts])), (a_r_ins, .inl (c_r_ins, 1024, .inl r_ins)), (a_o, .inr (1, [.ref a_r]))] sz) [(a_r, .inr (6, [.ref a_r_rows, .ref a_r_ins, .int r_size, .int r_n, .int r_parts])), (a_r_ins, .inl (c_r_ins, 1024, .inl r_ins)), (a_o, .inr (1, [.ref a_r]))]) (va_A [(a_r, .inr (6, [.ref a_r_rows, .ref a_r_ins, .int r_size, .int r_n, .int r_parts])), (a_r_ins, .inl (c_r_ins, 1024, .inl r_ins)), (a_o, .inr (1, [.ref a_r]))] sz)) 0 0 (va_A [(a_r, .inr (6, [.ref a_r_rows, .ref a_r_ins, .int r_size, .int r_n, .int r_parts])), (a_r_ins, .inl (c_r_ins, 1024, .inl r_ins)), (a_o, .inr (1, [.ref a_r]))] sz) := by
  refine Met.ofW (cc := cX1_waysByOne) (maxL := 2) (ret := (some .int)) (by decide) rfl ?_
  intro p e s m args below meth c s₁ B hml hv
  obtain ⟨rfl, hsz, hP, hK, hD0, hN⟩ := hv
  have hx := B.exec
  have hb := B.bytes
  have hr := B.returns
  have hts := atoms_spec (ws := wsX1_waysByOne) B.pre
  have hown : s.vm.findClass RX1 = some m.cls := findClass_of_methodNamed B.named
  have hlocks := B.notSynchronized
  subst hsz
  have hD := hD0.self (sz := s.heap.size)
  generalize hAe : va_A [(a_r, .inr (6, [.ref a_r_rows, .ref a_r_ins, .int r_size, .int r_n, .int r_parts])), (a_r_ins, .inl (c_r_ins, 1024, .inl r_ins)), (a_o, .inr (1, [.ref a_r]))] s.heap.size = A at hD hN ⊢
  have hA : ∀ q : Nat, s.heap.size ≤ q → A q := fun q h => by rw [← hAe]; exact Or.inr h
  have hS : va_S A s.heap s.heap [] := va_S.rf
  have hP : va_P (dC, dI) vwCl [(a_r, .inr (6, [.ref a_r_rows, .ref a_r_ins, .int r_size, .int r_n, .int r_parts])), (a_r_ins, .inl (c_r_ins, 1024, .inl r_ins)), (a_o, .inr (1, [.ref a_r]))] s.heap := hP
  have hl := lv_entry ([.ref a_o, .int p1]) (n := 2) (Nat.le_of_ble_eq_true rfl)
  rw [lg_entry_eq]
  generalize (lg_sl ([.ref a_o, .int p1]) ++ List.replicate (2 - (lg_sl ([.ref a_o, .int p1])).length) Slot.unset).toArray = ls at hl ⊢
  have hl : lv_has ls 2 [(0, .ref a_o), (1, .int p1)] := hl
  have hiX1 : ∀ w ∈ wsX10, w ∈ wsX1_waysByOne := fun _ h => List.mem_cons_of_mem _ (List.mem_append_left _ (List.mem_append_right _ h))
  have hf7 := hts (.fieldLink RX1 7 "MeetSets$Colours" "list" "LMeetSets$SetRow;") (t1_ (al_ (al_ h1_)))
  refine w_abs (fun Z hZv hZw => ?_)
  refine hZv ?_
  obtain ⟨H, hH⟩ : ∃ H, H = s.heap := ⟨_, rfl⟩
  obtain ⟨locs, hlo⟩ : ∃ L : List Loc, L = [] := ⟨_, rfl⟩
  rw [← hlo, ← hH]
  have hS : va_S A s.heap H locs := by rw [hlo, hH]; exact hS
  have hP : va_P (dC, dI) vwCl [(a_r, .inr (6, [.ref a_r_rows, .ref a_r_ins, .int r_size, .int r_n, .int r_parts])), (a_r_ins, .inl (c_r_ins, 1024, .inl r_ins)), (a_o, .inr (1, [.ref a_r]))] H := by rw [hH]; exact hP
  clear hH hlo
  unfold pX1_waysByOne at hs
  refine lv_aload_n hx hb dX1_waysByOne_0 rfl (lv_at hl 0 rfl) ?_
  refine va_get (D := (dC, dI)) (ci := 1) (v := .ref a_r) (C := RX1) (T := TX1) (N := 1) hx hb hts hiX1 hown hK hP 2 rfl rfl 0 (by decide) hf7 (fun _ h9 => h9) rfl dX1_waysByOne_1 ?_
  refine lv_iload_n hx hb dX1_waysByOne_4 rfl (lv_at hl 1 rfl) ?_
  obtain ⟨r1, hr1, hs⟩ := bd_s hs
  refine kc_i (isC := [0, 1]) (isR := [2]) (pm := [1, 2, 0]) (wr := [(a_o, .inr (1, [.ref a_r]))]) (w1 := [(a_r, .inr (6, [.ref a_r_rows, .ref a_r_ins, .int r_size, .int r_n, .int r_parts])), (a_r_ins, .inl (c_r_ins, 1024, .inl r_ins))]) (w2 := [(a_r, .inr (6, [.ref a_r_rows, .ref a_r_ins, .int r_size, .int r_n, .int r_parts])), (a_r_ins, .inl (c_r_ins, 1024, .inl r_ins)), (a_o, .inr (1, [.ref a_r]))]) (va_runV (As := [.int p1]) (rest := []) ⟨hx, hb, hml, hown, hts⟩ (c_X6_hasSetIn l dC dI a_r a_r_rows a_r_ins c_r_ins H.size r_size r_n r_parts r_ins p1 r1 hr1) (cwV 1 hts gX1_waysByOne_X6_hasSetIn rfl rfl rfl (by decide +kernel) ⟨Nat.le_of_ble_eq_true rfl, Nat.le_of_ble_eq_true rfl⟩) (kp_V hK hP hD hS hA hN (isC := [0, 1]) (isT := [0]) (wc := [(a_r, .inr (6, [.ref a_r_rows, .ref a_r_ins, .int r_size, .int r_n, .int r_parts])), (a_r_ins, .inl (c_r_ins, 1024, .inl r_ins))]) rfl (by decide +kernel) rfl (ci := 6) (q0 := 0) rfl rfl) rfl rfl hl.1 rfl (lv_room (Nat.le_of_ble_eq_true rfl)) dX1_waysByOne_5 ⟨Nat.le_of_ble_eq_true rfl, Nat.le_of_ble_eq_true rfl⟩) hP hD hS hA rfl rfl (by decide +kernel) (by decide +kernel) rfl (by decide +kernel) (fun H locs hP hD hS => ?_)
  refine lv_if_eq (tgt := 15) hx hb dX1_waysByOne_8 (by decide) (fun hc => ?_) (fun hc => ?_)
  · replace hs := it_t hc hs
    refine lv_iconst (v := 1) hx hb dX1_waysByOne_15 (by decide) ?_
    replace hs := Option.some.inj hs
    subst hs
    exact W.iret (v := 1) hx hb hr (fun t ht hW => ⟨⟨1, (), rfl, rfl, by rw [ht]; exact hP, va_K.moved hW.alike hK, hD⟩, hS.F ht⟩) hS.2.2 dX1_waysByOne_16
  · replace hs := it_f hc hs
    refine lv_iconst (v := 0) hx hb dX1_waysByOne_11 (by decide) ?_
    refine lv_goto (tgt := 16) hx hb dX1_waysByOne_12 (by decide) ?_
    replace hs := Option.some.inj hs
    subst hs
    exact W.iret (v := 0) hx hb hr (fun t ht hW => ⟨⟨0, (), rfl, rfl, by rw [ht]; exact hP, va_K.moved hW.alike hK, hD⟩, hS.F ht⟩) hS.2.2 dX1_waysByOne_16
noncomputable def pX1_waysByTwo_L40 (r_ins : Nat → Int32) (p1 : Int32) (r2 : Int32) (s40 : Int32 × Int32 × Int32) : Option ((Int32 × Int32 × Int32) ⊕ (Int32)) :=
  if (1 <<< (r2 &&& 31)) ≤ s40.2.2 then (some (Sum.inr s40.1)) else (Option.bind (pX6_hasSetIn r_ins s40.2.1) (fun r4 => Option.bind (if r4 = 0 then (Option.bind (pX6_hasSetIn r_ins (p1 ^^^ s40.2.1)) (fun r5 => if r5 = 0 then (some (s40.1 + 2)) else (some s40.1))) else (some s40.1) : Option (Int32)) (fun t75 => some (Sum.inl (t75, (s40.2.1 - (p1 &&& (p1 - 1))) &&& (p1 &&& (p1 - 1)), s40.2.2 + 1)))))
noncomputable def pX1_waysByTwo (r_ins : Nat → Int32) (p1 : Int32) : Option (Int32) :=
  Option.bind (pX6_hasSetIn r_ins p1) (fun r1 => if r1 = 0 then (Option.bind (pJ6_bitCount_0f7a4 p1) (fun r6 => some (1 <<< (r6 &&& 31)))) else (Option.bind (pJ6_bitCount_0f7a4 (p1 &&& (p1 - 1))) (fun r2 => Option.bind (lp (pX1_waysByTwo_L40 r_ins p1 r2) (0, 0, 0)) (fun e40 => some e40))))
set_option maxHeartbeats 4000000 in
set_option maxRecDepth 100000 in
theorem c_X1_waysByTwo (l : Launch) (dC : Nat → ClassId) (dI : Nat → Nat → Nat) (a_r : Nat) (a_r_rows : Nat) (a_r_ins : Nat) (a_o : Nat) (c_r_ins : ClassId) (sz : Nat) (r_size : Int32) (r_n : Int32) (r_parts : Int32) (r_ins : Nat → Int32) (p1 : Int32) (rv : Int32) (hs : pX1_waysByTwo r_ins p1 = some rv) : Met l yX1_waysByTwo wsX1_waysByTwo ({ frames := 1, cells := 0, slots := 0, locals := 21 }) (sPc [.ref a_o, .int p1] (dC, dI) [(c_r_ins, .int)] [(a_r, .inr (6, [.ref a_r_rows, .ref a_r_ins, .int r_size, .int r_n, .int r_parts])), (a_r_ins, .inl (c_r_ins, 1024, .inl r_ins)), (a_o, .inr (1, [.ref a_r]))] sz) (va_Qi (fun (r : Int32) (_ : Unit) => r = rv) (sB (dC, dI) [(c_r_ins, .int)] (va_A [(a_r, .inr (6, [.ref a_r_rows, .ref a_r_ins, .int r_size, .int r_n, .int r_parts])), (a_r_ins, .inl (c_r_ins, 1024, .inl r_ins)), (a_o, .inr (1, [.ref a_r]))] sz) [(a_r, .inr (6, [.ref a_r_rows, .ref a_r_ins, .int r_size, .int r_n, .int r_parts])), (a_r_ins, .inl (c_r_ins, 1024, .inl r_ins)), (a_o, .inr (1, [.ref a_r]))]) (va_A [(a_r, .inr (6, [.ref a_r_rows, .ref a_r_ins, .int r_size, .int r_n, .int r_parts])), (a_r_ins, .inl (c_r_ins, 1024, .inl r_ins)), (a_o, .inr (1, [.ref a_r]))] sz)) 0 0 (va_A [(a_r, .inr (6, [.ref a_r_rows, .ref a_r_ins, .int r_size, .int r_n, .int r_parts])), (a_r_ins, .inl (c_r_ins, 1024, .inl r_ins)), (a_o, .inr (1, [.ref a_r]))] sz) := by
  refine Met.ofW (cc := cX1_waysByTwo) (maxL := 7) (ret := (some .int)) (by decide) rfl ?_
  intro p e s m args below meth c s₁ B hml hv
  obtain ⟨rfl, hsz, hP, hK, hD0, hN⟩ := hv
  have hx := B.exec
  have hb := B.bytes
  have hr := B.returns
  have hts := atoms_spec (ws := wsX1_waysByTwo) B.pre
  have hown : s.vm.findClass RX1 = some m.cls := findClass_of_methodNamed B.named
  have hlocks := B.notSynchronized
  subst hsz
  have hD := hD0.self (sz := s.heap.size)
  generalize hAe : va_A [(a_r, .inr (6, [.ref a_r_rows, .ref a_r_ins, .int r_size, .int r_n, .int r_parts])), (a_r_ins, .inl (c_r_ins, 1024, .inl r_ins)), (a_o, .inr (1, [.ref a_r]))] s.heap.size = A at hD hN ⊢
  have hA : ∀ q : Nat, s.heap.size ≤ q → A q := fun q h => by rw [← hAe]; exact Or.inr h
  have hS : va_S A s.heap s.heap [] := va_S.rf
  have hP : va_P (dC, dI) vwCl [(a_r, .inr (6, [.ref a_r_rows, .ref a_r_ins, .int r_size, .int r_n, .int r_parts])), (a_r_ins, .inl (c_r_ins, 1024, .inl r_ins)), (a_o, .inr (1, [.ref a_r]))] s.heap := hP
  have hl := lv_entry ([.ref a_o, .int p1]) (n := 7) (Nat.le_of_ble_eq_true rfl)
  rw [lg_entry_eq]
  generalize (lg_sl ([.ref a_o, .int p1]) ++ List.replicate (7 - (lg_sl ([.ref a_o, .int p1])).length) Slot.unset).toArray = ls at hl ⊢
  have hl : lv_has ls 7 [(0, .ref a_o), (1, .int p1)] := hl
  have hiX1 : ∀ w ∈ wsX10, w ∈ wsX1_waysByTwo := fun _ h => List.mem_cons_of_mem _ (List.mem_append_left _ (List.mem_append_right _ h))
  have hf7 := hts (.fieldLink RX1 7 "MeetSets$Colours" "list" "LMeetSets$SetRow;") (t1_ (al_ (al_ h1_)))
  refine w_abs (fun Z hZv hZw => ?_)
  refine hZv ?_
  obtain ⟨H, hH⟩ : ∃ H, H = s.heap := ⟨_, rfl⟩
  obtain ⟨locs, hlo⟩ : ∃ L : List Loc, L = [] := ⟨_, rfl⟩
  rw [← hlo, ← hH]
  have hS : va_S A s.heap H locs := by rw [hlo, hH]; exact hS
  have hP : va_P (dC, dI) vwCl [(a_r, .inr (6, [.ref a_r_rows, .ref a_r_ins, .int r_size, .int r_n, .int r_parts])), (a_r_ins, .inl (c_r_ins, 1024, .inl r_ins)), (a_o, .inr (1, [.ref a_r]))] H := by rw [hH]; exact hP
  clear hH hlo
  unfold pX1_waysByTwo at hs
  refine lv_aload_n hx hb dX1_waysByTwo_0 rfl (lv_at hl 0 rfl) ?_
  refine va_get (D := (dC, dI)) (ci := 1) (v := .ref a_r) (C := RX1) (T := TX1) (N := 1) hx hb hts hiX1 hown hK hP 2 rfl rfl 0 (by decide) hf7 (fun _ h9 => h9) rfl dX1_waysByTwo_1 ?_
  refine lv_iload_n hx hb dX1_waysByTwo_4 rfl (lv_at hl 1 rfl) ?_
  obtain ⟨r1, hr1, hs⟩ := bd_s hs
  refine kc_i (isC := [0, 1]) (isR := [2]) (pm := [1, 2, 0]) (wr := [(a_o, .inr (1, [.ref a_r]))]) (w1 := [(a_r, .inr (6, [.ref a_r_rows, .ref a_r_ins, .int r_size, .int r_n, .int r_parts])), (a_r_ins, .inl (c_r_ins, 1024, .inl r_ins))]) (w2 := [(a_r, .inr (6, [.ref a_r_rows, .ref a_r_ins, .int r_size, .int r_n, .int r_parts])), (a_r_ins, .inl (c_r_ins, 1024, .inl r_ins)), (a_o, .inr (1, [.ref a_r]))]) (va_runV (As := [.int p1]) (rest := []) ⟨hx, hb, hml, hown, hts⟩ (c_X6_hasSetIn l dC dI a_r a_r_rows a_r_ins c_r_ins H.size r_size r_n r_parts r_ins p1 r1 hr1) (cwV 1 hts gX1_waysByTwo_X6_hasSetIn rfl rfl rfl (by decide +kernel) ⟨Nat.le_of_ble_eq_true rfl, Nat.le_of_ble_eq_true rfl⟩) (kp_V hK hP hD hS hA hN (isC := [0, 1]) (isT := [0]) (wc := [(a_r, .inr (6, [.ref a_r_rows, .ref a_r_ins, .int r_size, .int r_n, .int r_parts])), (a_r_ins, .inl (c_r_ins, 1024, .inl r_ins))]) rfl (by decide +kernel) rfl (ci := 6) (q0 := 0) rfl rfl) rfl rfl hl.1 rfl (lv_room (Nat.le_of_ble_eq_true rfl)) dX1_waysByTwo_5 ⟨Nat.le_of_ble_eq_true rfl, Nat.le_of_ble_eq_true rfl⟩) hP hD hS hA rfl rfl (by decide +kernel) (by decide +kernel) rfl (by decide +kernel) (fun H locs hP hD hS => ?_)
  refine lv_if_ne (tgt := 18) hx hb dX1_waysByTwo_8 (by decide) (fun hc => ?_) (fun hc => ?_)
  · replace hs := it_f hc hs
    refine lv_iload_n hx hb dX1_waysByTwo_18 rfl (lv_at hl 1 rfl) ?_
    refine lv_iload_n hx hb dX1_waysByTwo_19 rfl (lv_at hl 1 rfl) ?_
    refine lv_iconst (v := 1) hx hb dX1_waysByTwo_20 (by decide) ?_
    refine lv_isub hx hb dX1_waysByTwo_21 ?_
    refine lv_iand hx hb dX1_waysByTwo_22 ?_
    refine lv_istore_n (lv' := [(2, .int (p1 &&& (p1 - 1))), (0, .ref a_o), (1, .int p1)]) hx hb dX1_waysByTwo_23 rfl hl (by decide) rfl (fun ls hl => ?_)
    refine lv_iconst (v := 1) hx hb dX1_waysByTwo_24 (by decide) ?_
    refine lv_iload_n hx hb dX1_waysByTwo_25 rfl (lv_at hl 0 rfl) ?_
    obtain ⟨r2, hr2, hs⟩ := bd_s hs
    refine kc_i (isC := []) (isR := [0, 1, 2]) (pm := [0, 1, 2]) (wr := [(a_r, .inr (6, [.ref a_r_rows, .ref a_r_ins, .int r_size, .int r_n, .int r_parts])), (a_r_ins, .inl (c_r_ins, 1024, .inl r_ins)), (a_o, .inr (1, [.ref a_r]))]) (w1 := []) (w2 := [(a_r, .inr (6, [.ref a_r_rows, .ref a_r_ins, .int r_size, .int r_n, .int r_parts])), (a_r_ins, .inl (c_r_ins, 1024, .inl r_ins)), (a_o, .inr (1, [.ref a_r]))]) (va_runS (As := [.int (p1 &&& (p1 - 1))]) (rest := [.int 1]) ⟨hx, hb, hml, hown, hts⟩ (c_J6_bitCount_0f7a4 l dC dI H.size (p1 &&& (p1 - 1)) r2 hr2) (va_cwS 1 hts gX1_waysByTwo_J6_bitCount_0f7a4 rfl rfl rfl (by decide +kernel) ⟨Nat.le_of_ble_eq_true rfl, Nat.le_of_ble_eq_true rfl⟩) (kp_S hK hP hD hS hA hN (isC := []) (isT := []) (wc := []) rfl (by decide +kernel) rfl) rfl rfl hl.1 rfl (lv_room (Nat.le_of_ble_eq_true rfl)) dX1_waysByTwo_26 ⟨Nat.le_of_ble_eq_true rfl, Nat.le_of_ble_eq_true rfl⟩) hP hD hS hA rfl rfl (by decide +kernel) (by decide +kernel) rfl (by decide +kernel) (fun H locs hP hD hS => ?_)
    refine lv_ishl hx hb dX1_waysByTwo_29 ?_
    refine lv_istore_n (lv' := [(3, .int (1 <<< (r2 &&& 31))), (2, .int (p1 &&& (p1 - 1))), (0, .ref a_o), (1, .int p1)]) hx hb dX1_waysByTwo_30 rfl hl (by decide) rfl (fun ls hl => ?_)
    refine lv_iconst (v := 0) hx hb dX1_waysByTwo_31 (by decide) ?_
    refine lv_istore (lv' := [(4, .int 0), (3, .int (1 <<< (r2 &&& 31))), (2, .int (p1 &&& (p1 - 1))), (0, .ref a_o), (1, .int p1)]) hx hb dX1_waysByTwo_32 hl (by decide) rfl (fun ls hl => ?_)
    refine lv_iconst (v := 0) hx hb dX1_waysByTwo_34 (by decide) ?_
    refine lv_istore (lv' := [(5, .int 0), (4, .int 0), (3, .int (1 <<< (r2 &&& 31))), (2, .int (p1 &&& (p1 - 1))), (0, .ref a_o), (1, .int p1)]) hx hb dX1_waysByTwo_35 hl (by decide) rfl (fun ls hl => ?_)
    refine lv_iconst (v := 0) hx hb dX1_waysByTwo_37 (by decide) ?_
    refine lv_istore (lv' := [(6, .int 0), (5, .int 0), (4, .int 0), (3, .int (1 <<< (r2 &&& 31))), (2, .int (p1 &&& (p1 - 1))), (0, .ref a_o), (1, .int p1)]) hx hb dX1_waysByTwo_38 hl (by decide) rfl (fun ls hl => ?_)
    obtain ⟨e40, he40, hs⟩ := bd_s hs
    have hX40 : ∀ (H : Heap) (locs : List Loc) (ls : Array Slot), va_P (dC, dI) vwCl [(a_r, .inr (6, [.ref a_r_rows, .ref a_r_ins, .int r_size, .int r_n, .int r_parts])), (a_r_ins, .inl (c_r_ins, 1024, .inl r_ins)), (a_o, .inr (1, [.ref a_r]))] H → va_D A [(a_r, .inr (6, [.ref a_r_rows, .ref a_r_ins, .int r_size, .int r_n, .int r_parts])), (a_r_ins, .inl (c_r_ins, 1024, .inl r_ins)), (a_o, .inr (1, [.ref a_r]))] → va_S A s.heap H locs → lv_has ls 7 [(4, .int e40)] → Z H locs 0 0 (F0 m 89 ls []) := by
      intro H locs ls hP hD hS hl
      refine hZv ?_
      refine lv_iload hx hb dX1_waysByTwo_89 (lv_at hl 0 rfl) ?_
      replace hs := Option.some.inj hs
      subst hs
      exact W.iret (v := e40) hx hb hr (fun t ht hW => ⟨⟨e40, (), rfl, rfl, by rw [ht]; exact hP, va_K.moved hW.alike hK, hD⟩, hS.F ht⟩) hS.2.2 dX1_waysByTwo_91
    clear hs
    have hL40 : ∀ (n : Nat) (s40 : Int32 × Int32 × Int32) (H : Heap) (locs : List Loc) (ls : Array Slot), itr (pX1_waysByTwo_L40 r_ins p1 r2) n s40 = some e40 → va_P (dC, dI) vwCl [(a_r, .inr (6, [.ref a_r_rows, .ref a_r_ins, .int r_size, .int r_n, .int r_parts])), (a_r_ins, .inl (c_r_ins, 1024, .inl r_ins)), (a_o, .inr (1, [.ref a_r]))] H → va_D A [(a_r, .inr (6, [.ref a_r_rows, .ref a_r_ins, .int r_size, .int r_n, .int r_parts])), (a_r_ins, .inl (c_r_ins, 1024, .inl r_ins)), (a_o, .inr (1, [.ref a_r]))] → va_S A s.heap H locs → lv_has ls 7 [(0, .ref a_o), (1, .int p1), (2, .int (p1 &&& (p1 - 1))), (3, .int (1 <<< (r2 &&& 31))), (4, .int s40.1), (5, .int s40.2.1), (6, .int s40.2.2)] → Z H locs 0 0 (F0 m 40 ls []) := by
      intro n
      induction n with
      | zero =>
        intro s40 H locs ls hn
        exact (itr_0 hn).elim
      | succ n ih =>
        intro s40 H locs ls hn hP hD hS hl
        obtain ⟨y3, hs, hn⟩ := itr_s hn
        unfold pX1_waysByTwo_L40 at hs
        refine hZv ?_
        refine lv_iload hx hb dX1_waysByTwo_40 (lv_at hl 6 rfl) ?_
        refine lv_iload_n hx hb dX1_waysByTwo_42 rfl (lv_at hl 3 rfl) ?_
        refine lv_icmp_ge (tgt := 89) hx hb dX1_waysByTwo_43 (by decide) (fun hc => ?_) (fun hc => ?_)
        · replace hs := it_t hc hs
          replace hs := Option.some.inj hs
          subst hs
          obtain rfl : s40.1 = e40 := hn
          exact hZw (hX40 H locs ls hP hD hS (lv_sub hl [4] rfl))
        · replace hs := it_f hc hs
          refine lv_aload_n hx hb dX1_waysByTwo_46 rfl (lv_at hl 0 rfl) ?_
          refine va_get (D := (dC, dI)) (ci := 1) (v := .ref a_r) (C := RX1) (T := TX1) (N := 1) hx hb hts hiX1 hown hK hP 2 rfl rfl 0 (by decide) hf7 (fun _ h9 => h9) rfl dX1_waysByTwo_47 ?_
          refine lv_iload hx hb dX1_waysByTwo_50 (lv_at hl 5 rfl) ?_
          obtain ⟨r4, hr4, hs⟩ := bd_s hs
          refine kc_i (isC := [0, 1]) (isR := [2]) (pm := [1, 2, 0]) (wr := [(a_o, .inr (1, [.ref a_r]))]) (w1 := [(a_r, .inr (6, [.ref a_r_rows, .ref a_r_ins, .int r_size, .int r_n, .int r_parts])), (a_r_ins, .inl (c_r_ins, 1024, .inl r_ins))]) (w2 := [(a_r, .inr (6, [.ref a_r_rows, .ref a_r_ins, .int r_size, .int r_n, .int r_parts])), (a_r_ins, .inl (c_r_ins, 1024, .inl r_ins)), (a_o, .inr (1, [.ref a_r]))]) (va_runV (As := [.int s40.2.1]) (rest := []) ⟨hx, hb, hml, hown, hts⟩ (c_X6_hasSetIn l dC dI a_r a_r_rows a_r_ins c_r_ins H.size r_size r_n r_parts r_ins s40.2.1 r4 hr4) (cwV 1 hts gX1_waysByTwo_X6_hasSetIn rfl rfl rfl (by decide +kernel) ⟨Nat.le_of_ble_eq_true rfl, Nat.le_of_ble_eq_true rfl⟩) (kp_V hK hP hD hS hA hN (isC := [0, 1]) (isT := [0]) (wc := [(a_r, .inr (6, [.ref a_r_rows, .ref a_r_ins, .int r_size, .int r_n, .int r_parts])), (a_r_ins, .inl (c_r_ins, 1024, .inl r_ins))]) rfl (by decide +kernel) rfl (ci := 6) (q0 := 0) rfl rfl) rfl rfl hl.1 rfl (lv_room (Nat.le_of_ble_eq_true rfl)) dX1_waysByTwo_52 ⟨Nat.le_of_ble_eq_true rfl, Nat.le_of_ble_eq_true rfl⟩) hP hD hS hA rfl rfl (by decide +kernel) (by decide +kernel) rfl (by decide +kernel) (fun H locs hP hD hS => ?_)
          obtain ⟨t75, hq75, hs⟩ := bd_s hs
          have hJ75 : ∀ (H : Heap) (locs : List Loc) (ls : Array Slot), va_P (dC, dI) vwCl [(a_r, .inr (6, [.ref a_r_rows, .ref a_r_ins, .int r_size, .int r_n, .int r_parts])), (a_r_ins, .inl (c_r_ins, 1024, .inl r_ins)), (a_o, .inr (1, [.ref a_r]))] H → va_D A [(a_r, .inr (6, [.ref a_r_rows, .ref a_r_ins, .int r_size, .int r_n, .int r_parts])), (a_r_ins, .inl (c_r_ins, 1024, .inl r_ins)), (a_o, .inr (1, [.ref a_r]))] → va_S A s.heap H locs → lv_has ls 7 [(0, .ref a_o), (1, .int p1), (2, .int (p1 &&& (p1 - 1))), (3, .int (1 <<< (r2 &&& 31))), (4, .int t75), (5, .int s40.2.1), (6, .int s40.2.2)] → Z H locs 0 0 (F0 m 75 ls []) := by
            intro H locs ls hP hD hS hl
            refine hZv ?_
            refine lv_iload hx hb dX1_waysByTwo_75 (lv_at hl 5 rfl) ?_
            refine lv_iload_n hx hb dX1_waysByTwo_77 rfl (lv_at hl 2 rfl) ?_
            refine lv_isub hx hb dX1_waysByTwo_78 ?_
            refine lv_iload_n hx hb dX1_waysByTwo_79 rfl (lv_at hl 2 rfl) ?_
            refine lv_iand hx hb dX1_waysByTwo_80 ?_
            refine lv_istore (lv' := [(5, .int ((s40.2.1 - (p1 &&& (p1 - 1))) &&& (p1 &&& (p1 - 1)))), (0, .ref a_o), (1, .int p1), (2, .int (p1 &&& (p1 - 1))), (3, .int (1 <<< (r2 &&& 31))), (4, .int t75), (6, .int s40.2.2)]) hx hb dX1_waysByTwo_81 hl (by decide) rfl (fun ls hl => ?_)
            refine lv_iinc (v := s40.2.2 + 1) (lv' := [(6, .int (s40.2.2 + 1)), (5, .int ((s40.2.1 - (p1 &&& (p1 - 1))) &&& (p1 &&& (p1 - 1)))), (0, .ref a_o), (1, .int p1), (2, .int (p1 &&& (p1 - 1))), (3, .int (1 <<< (r2 &&& 31))), (4, .int t75)]) hx hb dX1_waysByTwo_83 hl (k := 6) rfl (by rfl) (by decide) rfl (fun ls hl => ?_)
            refine lv_goto (tgt := 40) hx hb dX1_waysByTwo_86 (by decide) ?_
            replace hs := Option.some.inj hs
            subst hs
            exact hZw (ih (t75, (s40.2.1 - (p1 &&& (p1 - 1))) &&& (p1 &&& (p1 - 1)), s40.2.2 + 1) H locs ls hn hP hD hS (lv_sub hl [2, 3, 4, 5, 6, 1, 0] rfl))
          clear hs
          have hs := hq75
          refine lv_if_ne (tgt := 75) hx hb dX1_waysByTwo_55 (by decide) (fun hc => ?_) (fun hc => ?_)
          · replace hs := it_f hc hs
            replace hs := Option.some.inj hs
            subst hs
            exact hZw (hJ75 H locs ls hP hD hS hl)
          · replace hs := it_t hc hs
            refine lv_aload_n hx hb dX1_waysByTwo_58 rfl (lv_at hl 0 rfl) ?_
            refine va_get (D := (dC, dI)) (ci := 1) (v := .ref a_r) (C := RX1) (T := TX1) (N := 1) hx hb hts hiX1 hown hK hP 2 rfl rfl 0 (by decide) hf7 (fun _ h9 => h9) rfl dX1_waysByTwo_59 ?_
            refine lv_iload_n hx hb dX1_waysByTwo_62 rfl (lv_at hl 1 rfl) ?_
            refine lv_iload hx hb dX1_waysByTwo_63 (lv_at hl 5 rfl) ?_
            refine lv_ixor hx hb dX1_waysByTwo_65 ?_
            obtain ⟨r5, hr5, hs⟩ := bd_s hs
            refine kc_i (isC := [0, 1]) (isR := [2]) (pm := [1, 2, 0]) (wr := [(a_o, .inr (1, [.ref a_r]))]) (w1 := [(a_r, .inr (6, [.ref a_r_rows, .ref a_r_ins, .int r_size, .int r_n, .int r_parts])), (a_r_ins, .inl (c_r_ins, 1024, .inl r_ins))]) (w2 := [(a_r, .inr (6, [.ref a_r_rows, .ref a_r_ins, .int r_size, .int r_n, .int r_parts])), (a_r_ins, .inl (c_r_ins, 1024, .inl r_ins)), (a_o, .inr (1, [.ref a_r]))]) (va_runV (As := [.int (p1 ^^^ s40.2.1)]) (rest := []) ⟨hx, hb, hml, hown, hts⟩ (c_X6_hasSetIn l dC dI a_r a_r_rows a_r_ins c_r_ins H.size r_size r_n r_parts r_ins (p1 ^^^ s40.2.1) r5 hr5) (cwV 1 hts gX1_waysByTwo_X6_hasSetIn rfl rfl rfl (by decide +kernel) ⟨Nat.le_of_ble_eq_true rfl, Nat.le_of_ble_eq_true rfl⟩) (kp_V hK hP hD hS hA hN (isC := [0, 1]) (isT := [0]) (wc := [(a_r, .inr (6, [.ref a_r_rows, .ref a_r_ins, .int r_size, .int r_n, .int r_parts])), (a_r_ins, .inl (c_r_ins, 1024, .inl r_ins))]) rfl (by decide +kernel) rfl (ci := 6) (q0 := 0) rfl rfl) rfl rfl hl.1 rfl (lv_room (Nat.le_of_ble_eq_true rfl)) dX1_waysByTwo_66 ⟨Nat.le_of_ble_eq_true rfl, Nat.le_of_ble_eq_true rfl⟩) hP hD hS hA rfl rfl (by decide +kernel) (by decide +kernel) rfl (by decide +kernel) (fun H locs hP hD hS => ?_)
            refine lv_if_ne (tgt := 75) hx hb dX1_waysByTwo_69 (by decide) (fun hc => ?_) (fun hc => ?_)
            · replace hs := it_f hc hs
              replace hs := Option.some.inj hs
              subst hs
              exact hZw (hJ75 H locs ls hP hD hS hl)
            · replace hs := it_t hc hs
              refine lv_iinc (v := s40.1 + 2) (lv' := [(4, .int (s40.1 + 2)), (0, .ref a_o), (1, .int p1), (2, .int (p1 &&& (p1 - 1))), (3, .int (1 <<< (r2 &&& 31))), (5, .int s40.2.1), (6, .int s40.2.2)]) hx hb dX1_waysByTwo_72 hl (k := 4) rfl (by rfl) (by decide) rfl (fun ls hl => ?_)
              replace hs := Option.some.inj hs
              subst hs
              exact hZw (hJ75 H locs ls hP hD hS (lv_sub hl [1, 2, 3, 4, 0, 5, 6] rfl))
    obtain ⟨n40, hn40⟩ := lp_ex he40
    exact hZw (hL40 n40 (0, 0, 0) H locs ls hn40 hP hD hS (lv_sub hl [5, 6, 4, 3, 2, 1, 0] rfl))
  · replace hs := it_t hc hs
    refine lv_iconst (v := 1) hx hb dX1_waysByTwo_11 (by decide) ?_
    refine lv_iload_n hx hb dX1_waysByTwo_12 rfl (lv_at hl 1 rfl) ?_
    obtain ⟨r6, hr6, hs⟩ := bd_s hs
    refine kc_i (isC := []) (isR := [0, 1, 2]) (pm := [0, 1, 2]) (wr := [(a_r, .inr (6, [.ref a_r_rows, .ref a_r_ins, .int r_size, .int r_n, .int r_parts])), (a_r_ins, .inl (c_r_ins, 1024, .inl r_ins)), (a_o, .inr (1, [.ref a_r]))]) (w1 := []) (w2 := [(a_r, .inr (6, [.ref a_r_rows, .ref a_r_ins, .int r_size, .int r_n, .int r_parts])), (a_r_ins, .inl (c_r_ins, 1024, .inl r_ins)), (a_o, .inr (1, [.ref a_r]))]) (va_runS (As := [.int p1]) (rest := [.int 1]) ⟨hx, hb, hml, hown, hts⟩ (c_J6_bitCount_0f7a4 l dC dI H.size p1 r6 hr6) (va_cwS 1 hts gX1_waysByTwo_J6_bitCount_0f7a4 rfl rfl rfl (by decide +kernel) ⟨Nat.le_of_ble_eq_true rfl, Nat.le_of_ble_eq_true rfl⟩) (kp_S hK hP hD hS hA hN (isC := []) (isT := []) (wc := []) rfl (by decide +kernel) rfl) rfl rfl hl.1 rfl (lv_room (Nat.le_of_ble_eq_true rfl)) dX1_waysByTwo_13 ⟨Nat.le_of_ble_eq_true rfl, Nat.le_of_ble_eq_true rfl⟩) hP hD hS hA rfl rfl (by decide +kernel) (by decide +kernel) rfl (by decide +kernel) (fun H locs hP hD hS => ?_)
    refine lv_ishl hx hb dX1_waysByTwo_16 ?_
    replace hs := Option.some.inj hs
    subst hs
    exact W.iret (v := 1 <<< (r6 &&& 31)) hx hb hr (fun t ht hW => ⟨⟨1 <<< (r6 &&& 31), (), rfl, rfl, by rw [ht]; exact hP, va_K.moved hW.alike hK, hD⟩, hS.F ht⟩) hS.2.2 dX1_waysByTwo_17
noncomputable def pX1_waysBy_L26 (r_parts : Int32) (r_ins : Nat → Int32) (p1 : Int32) (s26 : Int32 × Int32) : Option ((Int32 × Int32) ⊕ (Int32)) :=
  if (r_parts - 1) < s26.2 then (some (Sum.inr s26.1)) else (Option.bind (if p1 = 3 then (Option.bind (pX1_waysByOne r_ins s26.2) (fun r4 => some r4)) else (Option.bind (pX1_waysByTwo r_ins s26.2) (fun r3 => some r3)) : Option (Int32)) (fun t52 => if t52 = 0 then (some (Sum.inl (s26.1, s26.2 + 2))) else (Option.bind (pX1_waysByTwo r_ins ((r_parts - 1) ^^^ s26.2)) (fun r2 => some (Sum.inl (s26.1 + (t52 * r2), s26.2 + 2))))))
noncomputable def pX1_waysBy (r_parts : Int32) (r_ins : Nat → Int32) (p1 : Int32) : Option (Int32) :=
  if p1 = 2 then (Option.bind (pX1_waysByTwo r_ins (r_parts - 1)) (fun r5 => some r5)) else (Option.bind (lp (pX1_waysBy_L26 r_parts r_ins p1) (0, 1)) (fun e26 => if p1 = 3 then (some (3 * e26)) else (some (2 * e26))))
set_option maxHeartbeats 4000000 in
set_option maxRecDepth 100000 in
theorem c_X1_waysBy (l : Launch) (dC : Nat → ClassId) (dI : Nat → Nat → Nat) (a_r : Nat) (a_r_rows : Nat) (a_r_ins : Nat) (a_o : Nat) (c_r_ins : ClassId) (sz : Nat) (r_size : Int32) (r_n : Int32) (r_parts : Int32) (r_ins : Nat → Int32) (p1 : Int32) (rv : Int32) (hs : pX1_waysBy r_parts r_ins p1 = some rv) : Met l yX1_waysBy wsX1_waysBy ({ frames := 2, cells := 0, slots := 0, locals := 47 }) (sPc [.ref a_o, .int p1] (dC, dI) [(c_r_ins, .int)] [(a_r, .inr (6, [.ref a_r_rows, .ref a_r_ins, .int r_size, .int r_n, .int r_parts])), (a_r_ins, .inl (c_r_ins, 1024, .inl r_ins)), (a_o, .inr (1, [.ref a_r]))] sz) (va_Qi (fun (r : Int32) (_ : Unit) => r = rv) (sB (dC, dI) [(c_r_ins, .int)] (va_A [(a_r, .inr (6, [.ref a_r_rows, .ref a_r_ins, .int r_size, .int r_n, .int r_parts])), (a_r_ins, .inl (c_r_ins, 1024, .inl r_ins)), (a_o, .inr (1, [.ref a_r]))] sz) [(a_r, .inr (6, [.ref a_r_rows, .ref a_r_ins, .int r_size, .int r_n, .int r_parts])), (a_r_ins, .inl (c_r_ins, 1024, .inl r_ins)), (a_o, .inr (1, [.ref a_r]))]) (va_A [(a_r, .inr (6, [.ref a_r_rows, .ref a_r_ins, .int r_size, .int r_n, .int r_parts])), (a_r_ins, .inl (c_r_ins, 1024, .inl r_ins)), (a_o, .inr (1, [.ref a_r]))] sz)) 0 0 (va_A [(a_r, .inr (6, [.ref a_r_rows, .ref a_r_ins, .int r_size, .int r_n, .int r_parts])), (a_r_ins, .inl (c_r_ins, 1024, .inl r_ins)), (a_o, .inr (1, [.ref a_r]))] sz) := by
  refine Met.ofW (cc := cX1_waysBy) (maxL := 6) (ret := (some .int)) (by decide) rfl ?_
  intro p e s m args below meth c s₁ B hml hv
  obtain ⟨rfl, hsz, hP, hK, hD0, hN⟩ := hv
  have hx := B.exec
  have hb := B.bytes
  have hr := B.returns
  have hts := atoms_spec (ws := wsX1_waysBy) B.pre
  have hown : s.vm.findClass RX1 = some m.cls := findClass_of_methodNamed B.named
  have hlocks := B.notSynchronized
  subst hsz
  have hD := hD0.self (sz := s.heap.size)
  generalize hAe : va_A [(a_r, .inr (6, [.ref a_r_rows, .ref a_r_ins, .int r_size, .int r_n, .int r_parts])), (a_r_ins, .inl (c_r_ins, 1024, .inl r_ins)), (a_o, .inr (1, [.ref a_r]))] s.heap.size = A at hD hN ⊢
  have hA : ∀ q : Nat, s.heap.size ≤ q → A q := fun q h => by rw [← hAe]; exact Or.inr h
  have hS : va_S A s.heap s.heap [] := va_S.rf
  have hP : va_P (dC, dI) vwCl [(a_r, .inr (6, [.ref a_r_rows, .ref a_r_ins, .int r_size, .int r_n, .int r_parts])), (a_r_ins, .inl (c_r_ins, 1024, .inl r_ins)), (a_o, .inr (1, [.ref a_r]))] s.heap := hP
  have hl := lv_entry ([.ref a_o, .int p1]) (n := 6) (Nat.le_of_ble_eq_true rfl)
  rw [lg_entry_eq]
  generalize (lg_sl ([.ref a_o, .int p1]) ++ List.replicate (6 - (lg_sl ([.ref a_o, .int p1])).length) Slot.unset).toArray = ls at hl ⊢
  have hl : lv_has ls 6 [(0, .ref a_o), (1, .int p1)] := hl
  have hiX1 : ∀ w ∈ wsX10, w ∈ wsX1_waysBy := fun _ h => List.mem_cons_of_mem _ (List.mem_append_left _ (List.mem_append_right _ h))
  have hf7 := hts (.fieldLink RX1 7 "MeetSets$Colours" "list" "LMeetSets$SetRow;") (t1_ (al_ (al_ h1_)))
  have hiX6 : ∀ w ∈ wsX60, w ∈ wsX1_waysBy := fun _ h => List.mem_cons_of_mem _ (List.mem_append_right _ h)
  have hf13 := hts (.fieldLink RX1 13 "MeetSets$SetRow" "parts" "I") (t1_ (al_ (al_ (t1_ h1_))))
  refine w_abs (fun Z hZv hZw => ?_)
  refine hZv ?_
  obtain ⟨H, hH⟩ : ∃ H, H = s.heap := ⟨_, rfl⟩
  obtain ⟨locs, hlo⟩ : ∃ L : List Loc, L = [] := ⟨_, rfl⟩
  rw [← hlo, ← hH]
  have hS : va_S A s.heap H locs := by rw [hlo, hH]; exact hS
  have hP : va_P (dC, dI) vwCl [(a_r, .inr (6, [.ref a_r_rows, .ref a_r_ins, .int r_size, .int r_n, .int r_parts])), (a_r_ins, .inl (c_r_ins, 1024, .inl r_ins)), (a_o, .inr (1, [.ref a_r]))] H := by rw [hH]; exact hP
  clear hH hlo
  unfold pX1_waysBy at hs
  refine lv_aload_n hx hb dX1_waysBy_0 rfl (lv_at hl 0 rfl) ?_
  refine va_get (D := (dC, dI)) (ci := 1) (v := .ref a_r) (C := RX1) (T := TX1) (N := 1) hx hb hts hiX1 hown hK hP 2 rfl rfl 0 (by decide) hf7 (fun _ h9 => h9) rfl dX1_waysBy_1 ?_
  refine va_get (D := (dC, dI)) (ci := 6) (v := .int r_parts) (C := RX6) (T := TX6) (N := 5) hx hb hts hiX6 hown hK hP 0 rfl rfl 4 (by decide) hf13 (fun _ h9 => h9) rfl dX1_waysBy_4 ?_
  refine lv_iconst (v := 1) hx hb dX1_waysBy_7 (by decide) ?_
  refine lv_isub hx hb dX1_waysBy_8 ?_
  refine lv_istore_n (lv' := [(2, .int (r_parts - 1)), (0, .ref a_o), (1, .int p1)]) hx hb dX1_waysBy_9 rfl hl (by decide) rfl (fun ls hl => ?_)
  refine lv_iload_n hx hb dX1_waysBy_10 rfl (lv_at hl 2 rfl) ?_
  refine lv_iconst (v := 2) hx hb dX1_waysBy_11 (by decide) ?_
  refine lv_icmp_ne (tgt := 21) hx hb dX1_waysBy_12 (by decide) (fun hc => ?_) (fun hc => ?_)
  · replace hs := it_f hc hs
    refine lv_iconst (v := 0) hx hb dX1_waysBy_21 (by decide) ?_
    refine lv_istore_n (lv' := [(3, .int 0), (2, .int (r_parts - 1)), (0, .ref a_o), (1, .int p1)]) hx hb dX1_waysBy_22 rfl hl (by decide) rfl (fun ls hl => ?_)
    refine lv_iconst (v := 1) hx hb dX1_waysBy_23 (by decide) ?_
    refine lv_istore (lv' := [(4, .int 1), (3, .int 0), (2, .int (r_parts - 1)), (0, .ref a_o), (1, .int p1)]) hx hb dX1_waysBy_24 hl (by decide) rfl (fun ls hl => ?_)
    obtain ⟨e26, he26, hs⟩ := bd_s hs
    have hX26 : ∀ (H : Heap) (locs : List Loc) (ls : Array Slot), va_P (dC, dI) vwCl [(a_r, .inr (6, [.ref a_r_rows, .ref a_r_ins, .int r_size, .int r_n, .int r_parts])), (a_r_ins, .inl (c_r_ins, 1024, .inl r_ins)), (a_o, .inr (1, [.ref a_r]))] H → va_D A [(a_r, .inr (6, [.ref a_r_rows, .ref a_r_ins, .int r_size, .int r_n, .int r_parts])), (a_r_ins, .inl (c_r_ins, 1024, .inl r_ins)), (a_o, .inr (1, [.ref a_r]))] → va_S A s.heap H locs → lv_has ls 6 [(1, .int p1), (3, .int e26)] → Z H locs 0 0 (F0 m 79 ls []) := by
      intro H locs ls hP hD hS hl
      refine hZv ?_
      refine lv_iload_n hx hb dX1_waysBy_79 rfl (lv_at hl 0 rfl) ?_
      refine lv_iconst (v := 3) hx hb dX1_waysBy_80 (by decide) ?_
      refine lv_icmp_ne (tgt := 90) hx hb dX1_waysBy_81 (by decide) (fun hc => ?_) (fun hc => ?_)
      · replace hs := it_f hc hs
        refine lv_iconst (v := 2) hx hb dX1_waysBy_90 (by decide) ?_
        refine lv_iload_n hx hb dX1_waysBy_91 rfl (lv_at hl 1 rfl) ?_
        refine lv_imul hx hb dX1_waysBy_92 ?_
        replace hs := Option.some.inj hs
        subst hs
        exact W.iret (v := 2 * e26) hx hb hr (fun t ht hW => ⟨⟨2 * e26, (), rfl, rfl, by rw [ht]; exact hP, va_K.moved hW.alike hK, hD⟩, hS.F ht⟩) hS.2.2 dX1_waysBy_93
      · replace hs := it_t hc hs
        refine lv_iconst (v := 3) hx hb dX1_waysBy_84 (by decide) ?_
        refine lv_iload_n hx hb dX1_waysBy_85 rfl (lv_at hl 1 rfl) ?_
        refine lv_imul hx hb dX1_waysBy_86 ?_
        refine lv_goto (tgt := 93) hx hb dX1_waysBy_87 (by decide) ?_
        replace hs := Option.some.inj hs
        subst hs
        exact W.iret (v := 3 * e26) hx hb hr (fun t ht hW => ⟨⟨3 * e26, (), rfl, rfl, by rw [ht]; exact hP, va_K.moved hW.alike hK, hD⟩, hS.F ht⟩) hS.2.2 dX1_waysBy_93
    clear hs
    have hL26 : ∀ (n : Nat) (s26 : Int32 × Int32) (H : Heap) (locs : List Loc) (ls : Array Slot), itr (pX1_waysBy_L26 r_parts r_ins p1) n s26 = some e26 → va_P (dC, dI) vwCl [(a_r, .inr (6, [.ref a_r_rows, .ref a_r_ins, .int r_size, .int r_n, .int r_parts])), (a_r_ins, .inl (c_r_ins, 1024, .inl r_ins)), (a_o, .inr (1, [.ref a_r]))] H → va_D A [(a_r, .inr (6, [.ref a_r_rows, .ref a_r_ins, .int r_size, .int r_n, .int r_parts])), (a_r_ins, .inl (c_r_ins, 1024, .inl r_ins)), (a_o, .inr (1, [.ref a_r]))] → va_S A s.heap H locs → lv_has ls 6 [(0, .ref a_o), (1, .int p1), (2, .int (r_parts - 1)), (3, .int s26.1), (4, .int s26.2)] → Z H locs 0 0 (F0 m 26 ls []) := by
      intro n
      induction n with
      | zero =>
        intro s26 H locs ls hn
        exact (itr_0 hn).elim
      | succ n ih =>
        intro s26 H locs ls hn hP hD hS hl
        obtain ⟨y1, hs, hn⟩ := itr_s hn
        unfold pX1_waysBy_L26 at hs
        refine hZv ?_
        refine lv_iload hx hb dX1_waysBy_26 (lv_at hl 4 rfl) ?_
        refine lv_iload_n hx hb dX1_waysBy_28 rfl (lv_at hl 2 rfl) ?_
        refine lv_icmp_gt (tgt := 79) hx hb dX1_waysBy_29 (by decide) (fun hc => ?_) (fun hc => ?_)
        · replace hs := it_t hc hs
          replace hs := Option.some.inj hs
          subst hs
          obtain rfl : s26.1 = e26 := hn
          exact hZw (hX26 H locs ls hP hD hS (lv_sub hl [1, 3] rfl))
        · replace hs := it_f hc hs
          refine lv_iload_n hx hb dX1_waysBy_32 rfl (lv_at hl 1 rfl) ?_
          refine lv_iconst (v := 3) hx hb dX1_waysBy_33 (by decide) ?_
          obtain ⟨t52, hq52, hs⟩ := bd_s hs
          have hJ52 : ∀ (H : Heap) (locs : List Loc) (ls : Array Slot), va_P (dC, dI) vwCl [(a_r, .inr (6, [.ref a_r_rows, .ref a_r_ins, .int r_size, .int r_n, .int r_parts])), (a_r_ins, .inl (c_r_ins, 1024, .inl r_ins)), (a_o, .inr (1, [.ref a_r]))] H → va_D A [(a_r, .inr (6, [.ref a_r_rows, .ref a_r_ins, .int r_size, .int r_n, .int r_parts])), (a_r_ins, .inl (c_r_ins, 1024, .inl r_ins)), (a_o, .inr (1, [.ref a_r]))] → va_S A s.heap H locs → lv_has ls 6 [(0, .ref a_o), (1, .int p1), (2, .int (r_parts - 1)), (3, .int s26.1), (4, .int s26.2)] → Z H locs 0 0 (F0 m 52 ls [.int t52]) := by
            intro H locs ls hP hD hS hl
            refine hZv ?_
            refine lv_istore (lv' := [(5, .int t52), (0, .ref a_o), (1, .int p1), (2, .int (r_parts - 1)), (3, .int s26.1), (4, .int s26.2)]) hx hb dX1_waysBy_52 hl (by decide) rfl (fun ls hl => ?_)
            refine lv_iload hx hb dX1_waysBy_54 (lv_at hl 0 rfl) ?_
            refine lv_if_eq (tgt := 73) hx hb dX1_waysBy_56 (by decide) (fun hc => ?_) (fun hc => ?_)
            · replace hs := it_t hc hs
              refine lv_iinc (v := s26.2 + 2) (lv' := [(4, .int (s26.2 + 2)), (5, .int t52), (0, .ref a_o), (1, .int p1), (2, .int (r_parts - 1)), (3, .int s26.1)]) hx hb dX1_waysBy_73 hl (k := 5) rfl (by rfl) (by decide) rfl (fun ls hl => ?_)
              refine lv_goto (tgt := 26) hx hb dX1_waysBy_76 (by decide) ?_
              replace hs := Option.some.inj hs
              subst hs
              exact hZw (ih (s26.1, s26.2 + 2) H locs ls hn hP hD hS (lv_sub hl [2, 3, 4, 5, 0] rfl))
            · replace hs := it_f hc hs
              refine lv_iload_n hx hb dX1_waysBy_59 rfl (lv_at hl 4 rfl) ?_
              refine lv_iload hx hb dX1_waysBy_60 (lv_at hl 0 rfl) ?_
              refine lv_aload_n hx hb dX1_waysBy_62 rfl (lv_at hl 1 rfl) ?_
              refine lv_iload_n hx hb dX1_waysBy_63 rfl (lv_at hl 3 rfl) ?_
              refine lv_iload hx hb dX1_waysBy_64 (lv_at hl 5 rfl) ?_
              refine lv_ixor hx hb dX1_waysBy_66 ?_
              obtain ⟨r2, hr2, hs⟩ := bd_s hs
              refine kc_i (isC := [0, 1, 2]) (isR := []) (pm := [0, 1, 2]) (wr := []) (w1 := [(a_r, .inr (6, [.ref a_r_rows, .ref a_r_ins, .int r_size, .int r_n, .int r_parts])), (a_r_ins, .inl (c_r_ins, 1024, .inl r_ins)), (a_o, .inr (1, [.ref a_r]))]) (w2 := [(a_r, .inr (6, [.ref a_r_rows, .ref a_r_ins, .int r_size, .int r_n, .int r_parts])), (a_r_ins, .inl (c_r_ins, 1024, .inl r_ins)), (a_o, .inr (1, [.ref a_r]))]) (va_runV (As := [.int ((r_parts - 1) ^^^ s26.2)]) (rest := [.int t52, .int s26.1]) ⟨hx, hb, hml, hown, hts⟩ (c_X1_waysByTwo l dC dI a_r a_r_rows a_r_ins a_o c_r_ins H.size r_size r_n r_parts r_ins ((r_parts - 1) ^^^ s26.2) r2 hr2) (cwV 1 hts gX1_waysBy_X1_waysByTwo rfl rfl rfl (by decide +kernel) ⟨Nat.le_of_ble_eq_true rfl, Nat.le_of_ble_eq_true rfl⟩) (kp_V hK hP hD hS hA hN (isC := [0, 1, 2]) (isT := [0]) (wc := [(a_r, .inr (6, [.ref a_r_rows, .ref a_r_ins, .int r_size, .int r_n, .int r_parts])), (a_r_ins, .inl (c_r_ins, 1024, .inl r_ins)), (a_o, .inr (1, [.ref a_r]))]) rfl (by decide +kernel) rfl (ci := 1) (q0 := 2) rfl rfl) rfl rfl hl.1 rfl (lv_room (Nat.le_of_ble_eq_true rfl)) dX1_waysBy_67 ⟨Nat.le_of_ble_eq_true rfl, Nat.le_of_ble_eq_true rfl⟩) hP hD hS hA rfl rfl (by decide +kernel) (by decide +kernel) rfl (by decide +kernel) (fun H locs hP hD hS => ?_)
              refine lv_imul hx hb dX1_waysBy_70 ?_
              refine lv_iadd hx hb dX1_waysBy_71 ?_
              refine lv_istore_n (lv' := [(3, .int (s26.1 + (t52 * r2))), (5, .int t52), (0, .ref a_o), (1, .int p1), (2, .int (r_parts - 1)), (4, .int s26.2)]) hx hb dX1_waysBy_72 rfl hl (by decide) rfl (fun ls hl => ?_)
              refine lv_iinc (v := s26.2 + 2) (lv' := [(4, .int (s26.2 + 2)), (3, .int (s26.1 + (t52 * r2))), (5, .int t52), (0, .ref a_o), (1, .int p1), (2, .int (r_parts - 1))]) hx hb dX1_waysBy_73 hl (k := 5) rfl (by rfl) (by decide) rfl (fun ls hl => ?_)
              refine lv_goto (tgt := 26) hx hb dX1_waysBy_76 (by decide) ?_
              replace hs := Option.some.inj hs
              subst hs
              exact hZw (ih (s26.1 + (t52 * r2), s26.2 + 2) H locs ls hn hP hD hS (lv_sub hl [3, 4, 5, 1, 0] rfl))
          clear hs
          have hs := hq52
          refine lv_icmp_ne (tgt := 46) hx hb dX1_waysBy_34 (by decide) (fun hc => ?_) (fun hc => ?_)
          · replace hs := it_f hc hs
            refine lv_aload_n hx hb dX1_waysBy_46 rfl (lv_at hl 0 rfl) ?_
            refine lv_iload hx hb dX1_waysBy_47 (lv_at hl 4 rfl) ?_
            obtain ⟨r3, hr3, hs⟩ := bd_s hs
            refine kc_i (isC := [0, 1, 2]) (isR := []) (pm := [0, 1, 2]) (wr := []) (w1 := [(a_r, .inr (6, [.ref a_r_rows, .ref a_r_ins, .int r_size, .int r_n, .int r_parts])), (a_r_ins, .inl (c_r_ins, 1024, .inl r_ins)), (a_o, .inr (1, [.ref a_r]))]) (w2 := [(a_r, .inr (6, [.ref a_r_rows, .ref a_r_ins, .int r_size, .int r_n, .int r_parts])), (a_r_ins, .inl (c_r_ins, 1024, .inl r_ins)), (a_o, .inr (1, [.ref a_r]))]) (va_runV (As := [.int s26.2]) (rest := []) ⟨hx, hb, hml, hown, hts⟩ (c_X1_waysByTwo l dC dI a_r a_r_rows a_r_ins a_o c_r_ins H.size r_size r_n r_parts r_ins s26.2 r3 hr3) (cwV 1 hts gX1_waysBy_X1_waysByTwo rfl rfl rfl (by decide +kernel) ⟨Nat.le_of_ble_eq_true rfl, Nat.le_of_ble_eq_true rfl⟩) (kp_V hK hP hD hS hA hN (isC := [0, 1, 2]) (isT := [0]) (wc := [(a_r, .inr (6, [.ref a_r_rows, .ref a_r_ins, .int r_size, .int r_n, .int r_parts])), (a_r_ins, .inl (c_r_ins, 1024, .inl r_ins)), (a_o, .inr (1, [.ref a_r]))]) rfl (by decide +kernel) rfl (ci := 1) (q0 := 2) rfl rfl) rfl rfl hl.1 rfl (lv_room (Nat.le_of_ble_eq_true rfl)) dX1_waysBy_49 ⟨Nat.le_of_ble_eq_true rfl, Nat.le_of_ble_eq_true rfl⟩) hP hD hS hA rfl rfl (by decide +kernel) (by decide +kernel) rfl (by decide +kernel) (fun H locs hP hD hS => ?_)
            replace hs := Option.some.inj hs
            subst hs
            exact hZw (hJ52 H locs ls hP hD hS hl)
          · replace hs := it_t hc hs
            refine lv_aload_n hx hb dX1_waysBy_37 rfl (lv_at hl 0 rfl) ?_
            refine lv_iload hx hb dX1_waysBy_38 (lv_at hl 4 rfl) ?_
            obtain ⟨r4, hr4, hs⟩ := bd_s hs
            refine kc_i (isC := [0, 1, 2]) (isR := []) (pm := [0, 1, 2]) (wr := []) (w1 := [(a_r, .inr (6, [.ref a_r_rows, .ref a_r_ins, .int r_size, .int r_n, .int r_parts])), (a_r_ins, .inl (c_r_ins, 1024, .inl r_ins)), (a_o, .inr (1, [.ref a_r]))]) (w2 := [(a_r, .inr (6, [.ref a_r_rows, .ref a_r_ins, .int r_size, .int r_n, .int r_parts])), (a_r_ins, .inl (c_r_ins, 1024, .inl r_ins)), (a_o, .inr (1, [.ref a_r]))]) (va_runV (As := [.int s26.2]) (rest := []) ⟨hx, hb, hml, hown, hts⟩ (c_X1_waysByOne l dC dI a_r a_r_rows a_r_ins a_o c_r_ins H.size r_size r_n r_parts r_ins s26.2 r4 hr4) (cwV 1 hts gX1_waysBy_X1_waysByOne rfl rfl rfl (by decide +kernel) ⟨Nat.le_of_ble_eq_true rfl, Nat.le_of_ble_eq_true rfl⟩) (kp_V hK hP hD hS hA hN (isC := [0, 1, 2]) (isT := [0]) (wc := [(a_r, .inr (6, [.ref a_r_rows, .ref a_r_ins, .int r_size, .int r_n, .int r_parts])), (a_r_ins, .inl (c_r_ins, 1024, .inl r_ins)), (a_o, .inr (1, [.ref a_r]))]) rfl (by decide +kernel) rfl (ci := 1) (q0 := 2) rfl rfl) rfl rfl hl.1 rfl (lv_room (Nat.le_of_ble_eq_true rfl)) dX1_waysBy_40 ⟨Nat.le_of_ble_eq_true rfl, Nat.le_of_ble_eq_true rfl⟩) hP hD hS hA rfl rfl (by decide +kernel) (by decide +kernel) rfl (by decide +kernel) (fun H locs hP hD hS => ?_)
            refine lv_goto (tgt := 52) hx hb dX1_waysBy_43 (by decide) ?_
            replace hs := Option.some.inj hs
            subst hs
            exact hZw (hJ52 H locs ls hP hD hS hl)
    obtain ⟨n26, hn26⟩ := lp_ex he26
    exact hZw (hL26 n26 (0, 1) H locs ls hn26 hP hD hS (lv_sub hl [3, 4, 2, 1, 0] rfl))
  · replace hs := it_t hc hs
    refine lv_aload_n hx hb dX1_waysBy_15 rfl (lv_at hl 1 rfl) ?_
    refine lv_iload_n hx hb dX1_waysBy_16 rfl (lv_at hl 0 rfl) ?_
    obtain ⟨r5, hr5, hs⟩ := bd_s hs
    refine kc_i (isC := [0, 1, 2]) (isR := []) (pm := [0, 1, 2]) (wr := []) (w1 := [(a_r, .inr (6, [.ref a_r_rows, .ref a_r_ins, .int r_size, .int r_n, .int r_parts])), (a_r_ins, .inl (c_r_ins, 1024, .inl r_ins)), (a_o, .inr (1, [.ref a_r]))]) (w2 := [(a_r, .inr (6, [.ref a_r_rows, .ref a_r_ins, .int r_size, .int r_n, .int r_parts])), (a_r_ins, .inl (c_r_ins, 1024, .inl r_ins)), (a_o, .inr (1, [.ref a_r]))]) (va_runV (As := [.int (r_parts - 1)]) (rest := []) ⟨hx, hb, hml, hown, hts⟩ (c_X1_waysByTwo l dC dI a_r a_r_rows a_r_ins a_o c_r_ins H.size r_size r_n r_parts r_ins (r_parts - 1) r5 hr5) (cwV 1 hts gX1_waysBy_X1_waysByTwo rfl rfl rfl (by decide +kernel) ⟨Nat.le_of_ble_eq_true rfl, Nat.le_of_ble_eq_true rfl⟩) (kp_V hK hP hD hS hA hN (isC := [0, 1, 2]) (isT := [0]) (wc := [(a_r, .inr (6, [.ref a_r_rows, .ref a_r_ins, .int r_size, .int r_n, .int r_parts])), (a_r_ins, .inl (c_r_ins, 1024, .inl r_ins)), (a_o, .inr (1, [.ref a_r]))]) rfl (by decide +kernel) rfl (ci := 1) (q0 := 2) rfl rfl) rfl rfl hl.1 rfl (lv_room (Nat.le_of_ble_eq_true rfl)) dX1_waysBy_17 ⟨Nat.le_of_ble_eq_true rfl, Nat.le_of_ble_eq_true rfl⟩) hP hD hS hA rfl rfl (by decide +kernel) (by decide +kernel) rfl (by decide +kernel) (fun H locs hP hD hS => ?_)
    replace hs := Option.some.inj hs
    subst hs
    exact W.iret (v := r5) hx hb hr (fun t ht hW => ⟨⟨r5, (), rfl, rfl, by rw [ht]; exact hP, va_K.moved hW.alike hK, hD⟩, hS.F ht⟩) hS.2.2 dX1_waysBy_20
noncomputable def pX2_liesInAnother_L2 (r_size : Int32) (z_left : Int32) (z_rest : Nat → Int32) (p1 : Int32) (s2 : Int32) : Option ((Int32) ⊕ ((Unit) ⊕ (Unit))) :=
  if r_size ≤ s2 then (some (Sum.inr (Sum.inr ()))) else (if s2 = p1 then (some (Sum.inl (s2 + 1))) else (Option.bind (pX9_has z_left s2) (fun r2 => if r2 = 0 then (some (Sum.inl (s2 + 1))) else (gd (vp_in p1 16) (gd (vp_in s2 16) (if ((z_rest p1.toNatClampNeg) &&& ((z_rest s2.toNatClampNeg) ^^^ (-1))) = 0 then (some (Sum.inr (Sum.inl ()))) else (some (Sum.inl (s2 + 1)))))))))
noncomputable def pX2_liesInAnother (r_size : Int32) (z_left : Int32) (z_rest : Nat → Int32) (p1 : Int32) : Option (Int32) :=
  Option.bind (lp (pX2_liesInAnother_L2 r_size z_left z_rest p1) 0) (Sum.elim (fun e2_0 => some 1) (fun e2_1 => some 0))
set_option maxHeartbeats 4000000 in
set_option maxRecDepth 100000 in
theorem c_X2_liesInAnother (l : Launch) (dC : Nat → ClassId) (dI : Nat → Nat → Nat) (a_r : Nat) (a_r_rows : Nat) (a_r_ins : Nat) (a_z : Nat) (a_z_rest : Nat) (c_z_rest : ClassId) (sz : Nat) (r_size : Int32) (r_n : Int32) (r_parts : Int32) (z_left : Int32) (z_rest : Nat → Int32) (p1 : Int32) (rv : Int32) (hs : pX2_liesInAnother r_size z_left z_rest p1 = some rv) : Met l yX2_liesInAnother wsX2_liesInAnother ({ frames := 1, cells := 0, slots := 0, locals := 21 }) (sPc [.ref a_z, .int p1] (dC, dI) [(c_z_rest, .int)] [(a_r, .inr (6, [.ref a_r_rows, .ref a_r_ins, .int r_size, .int r_n, .int r_parts])), (a_z, .inr (2, [.ref a_r, .ref a_z_rest, .int z_left])), (a_z_rest, .inl (c_z_rest, 16, .inl z_rest))] sz) (va_Qi (fun (r : Int32) (_ : Unit) => r = rv) (sB (dC, dI) [(c_z_rest, .int)] (va_A [(a_r, .inr (6, [.ref a_r_rows, .ref a_r_ins, .int r_size, .int r_n, .int r_parts])), (a_z, .inr (2, [.ref a_r, .ref a_z_rest, .int z_left])), (a_z_rest, .inl (c_z_rest, 16, .inl z_rest))] sz) [(a_r, .inr (6, [.ref a_r_rows, .ref a_r_ins, .int r_size, .int r_n, .int r_parts])), (a_z, .inr (2, [.ref a_r, .ref a_z_rest, .int z_left])), (a_z_rest, .inl (c_z_rest, 16, .inl z_rest))]) (va_A [(a_r, .inr (6, [.ref a_r_rows, .ref a_r_ins, .int r_size, .int r_n, .int r_parts])), (a_z, .inr (2, [.ref a_r, .ref a_z_rest, .int z_left])), (a_z_rest, .inl (c_z_rest, 16, .inl z_rest))] sz)) 0 0 (va_A [(a_r, .inr (6, [.ref a_r_rows, .ref a_r_ins, .int r_size, .int r_n, .int r_parts])), (a_z, .inr (2, [.ref a_r, .ref a_z_rest, .int z_left])), (a_z_rest, .inl (c_z_rest, 16, .inl z_rest))] sz) := by
  refine Met.ofW (cc := cX2_liesInAnother) (maxL := 3) (ret := (some .boolean)) (by decide) rfl ?_
  intro p e s m args below meth c s₁ B hml hv
  obtain ⟨rfl, hsz, hP, hK, hD0, hN⟩ := hv
  have hx := B.exec
  have hb := B.bytes
  have hr := B.returns
  have hts := atoms_spec (ws := wsX2_liesInAnother) B.pre
  have hown : s.vm.findClass RX2 = some m.cls := findClass_of_methodNamed B.named
  have hlocks := B.notSynchronized
  subst hsz
  have hD := hD0.self (sz := s.heap.size)
  generalize hAe : va_A [(a_r, .inr (6, [.ref a_r_rows, .ref a_r_ins, .int r_size, .int r_n, .int r_parts])), (a_z, .inr (2, [.ref a_r, .ref a_z_rest, .int z_left])), (a_z_rest, .inl (c_z_rest, 16, .inl z_rest))] s.heap.size = A at hD hN ⊢
  have hA : ∀ q : Nat, s.heap.size ≤ q → A q := fun q h => by rw [← hAe]; exact Or.inr h
  have hS : va_S A s.heap s.heap [] := va_S.rf
  have hP : va_P (dC, dI) vwCl [(a_r, .inr (6, [.ref a_r_rows, .ref a_r_ins, .int r_size, .int r_n, .int r_parts])), (a_z, .inr (2, [.ref a_r, .ref a_z_rest, .int z_left])), (a_z_rest, .inl (c_z_rest, 16, .inl z_rest))] s.heap := hP
  have hl := lv_entry ([.ref a_z, .int p1]) (n := 3) (Nat.le_of_ble_eq_true rfl)
  rw [lg_entry_eq]
  generalize (lg_sl ([.ref a_z, .int p1]) ++ List.replicate (3 - (lg_sl ([.ref a_z, .int p1])).length) Slot.unset).toArray = ls at hl ⊢
  have hl : lv_has ls 3 [(0, .ref a_z), (1, .int p1)] := hl
  have hiX2 : ∀ w ∈ wsX20, w ∈ wsX2_liesInAnother := fun _ h => List.mem_cons_of_mem _ (List.mem_append_left _ (List.mem_append_right _ h))
  have hf9 := hts (.fieldLink RX2 9 "MeetSets$Ears" "list" "LMeetSets$SetRow;") (t1_ (al_ (al_ h1_)))
  have hiX6 : ∀ w ∈ wsX60, w ∈ wsX2_liesInAnother := fun _ h => List.mem_cons_of_mem _ (List.mem_append_right _ h)
  have hf23 := hts (.fieldLink RX2 23 "MeetSets$SetRow" "size" "I") (t1_ (al_ (al_ (t1_ h1_))))
  have hf19 := hts (.fieldLink RX2 19 "MeetSets$Ears" "left" "I") (t1_ (al_ (al_ (t1_ (t1_ h1_)))))
  have hf15 := hts (.fieldLink RX2 15 "MeetSets$Ears" "rest" "[I") (t1_ (al_ (al_ (t1_ (t1_ (t1_ h1_))))))
  refine w_abs (fun Z hZv hZw => ?_)
  refine hZv ?_
  obtain ⟨H, hH⟩ : ∃ H, H = s.heap := ⟨_, rfl⟩
  obtain ⟨locs, hlo⟩ : ∃ L : List Loc, L = [] := ⟨_, rfl⟩
  rw [← hlo, ← hH]
  have hS : va_S A s.heap H locs := by rw [hlo, hH]; exact hS
  have hP : va_P (dC, dI) vwCl [(a_r, .inr (6, [.ref a_r_rows, .ref a_r_ins, .int r_size, .int r_n, .int r_parts])), (a_z, .inr (2, [.ref a_r, .ref a_z_rest, .int z_left])), (a_z_rest, .inl (c_z_rest, 16, .inl z_rest))] H := by rw [hH]; exact hP
  clear hH hlo
  unfold pX2_liesInAnother at hs
  refine lv_iconst (v := 0) hx hb dX2_liesInAnother_0 (by decide) ?_
  refine lv_istore_n (lv' := [(2, .int 0), (0, .ref a_z), (1, .int p1)]) hx hb dX2_liesInAnother_1 rfl hl (by decide) rfl (fun ls hl => ?_)
  obtain ⟨e2, he2, hs⟩ := bd_s hs
  have hX2_0 : ∀ (e2_0 : Unit), (Sum.inl e2_0) = e2 → ∀ (H : Heap) (locs : List Loc) (ls : Array Slot), va_P (dC, dI) vwCl [(a_r, .inr (6, [.ref a_r_rows, .ref a_r_ins, .int r_size, .int r_n, .int r_parts])), (a_z, .inr (2, [.ref a_r, .ref a_z_rest, .int z_left])), (a_z_rest, .inl (c_z_rest, 16, .inl z_rest))] H → va_D A [(a_r, .inr (6, [.ref a_r_rows, .ref a_r_ins, .int r_size, .int r_n, .int r_parts])), (a_z, .inr (2, [.ref a_r, .ref a_z_rest, .int z_left])), (a_z_rest, .inl (c_z_rest, 16, .inl z_rest))] → va_S A s.heap H locs → lv_has ls 3 [] → Z H locs 0 0 (F0 m 47 ls []) := by
    intro e2_0 he H locs ls hP hD hS hl
    subst he
    replace hs := sm_l hs
    refine hZv ?_
    refine lv_iconst (v := 1) hx hb dX2_liesInAnother_47 (by decide) ?_
    replace hs := Option.some.inj hs
    subst hs
    exact W.zret (v := 1) (ty := .boolean) hx hb hr rfl (fun t ht hW => ⟨⟨1, (), rfl, rfl, by rw [ht]; exact hP, va_K.moved hW.alike hK, hD⟩, hS.F ht⟩) hS.2.2 dX2_liesInAnother_48
  have hX2_1 : ∀ (e2_1 : Unit), (Sum.inr e2_1) = e2 → ∀ (H : Heap) (locs : List Loc) (ls : Array Slot), va_P (dC, dI) vwCl [(a_r, .inr (6, [.ref a_r_rows, .ref a_r_ins, .int r_size, .int r_n, .int r_parts])), (a_z, .inr (2, [.ref a_r, .ref a_z_rest, .int z_left])), (a_z_rest, .inl (c_z_rest, 16, .inl z_rest))] H → va_D A [(a_r, .inr (6, [.ref a_r_rows, .ref a_r_ins, .int r_size, .int r_n, .int r_parts])), (a_z, .inr (2, [.ref a_r, .ref a_z_rest, .int z_left])), (a_z_rest, .inl (c_z_rest, 16, .inl z_rest))] → va_S A s.heap H locs → lv_has ls 3 [] → Z H locs 0 0 (F0 m 55 ls []) := by
    intro e2_1 he H locs ls hP hD hS hl
    subst he
    replace hs := sm_r hs
    refine hZv ?_
    refine lv_iconst (v := 0) hx hb dX2_liesInAnother_55 (by decide) ?_
    replace hs := Option.some.inj hs
    subst hs
    exact W.zret (v := 0) (ty := .boolean) hx hb hr rfl (fun t ht hW => ⟨⟨0, (), rfl, rfl, by rw [ht]; exact hP, va_K.moved hW.alike hK, hD⟩, hS.F ht⟩) hS.2.2 dX2_liesInAnother_56
  clear hs
  have hL2 : ∀ (n : Nat) (s2 : Int32) (H : Heap) (locs : List Loc) (ls : Array Slot), itr (pX2_liesInAnother_L2 r_size z_left z_rest p1) n s2 = some e2 → va_P (dC, dI) vwCl [(a_r, .inr (6, [.ref a_r_rows, .ref a_r_ins, .int r_size, .int r_n, .int r_parts])), (a_z, .inr (2, [.ref a_r, .ref a_z_rest, .int z_left])), (a_z_rest, .inl (c_z_rest, 16, .inl z_rest))] H → va_D A [(a_r, .inr (6, [.ref a_r_rows, .ref a_r_ins, .int r_size, .int r_n, .int r_parts])), (a_z, .inr (2, [.ref a_r, .ref a_z_rest, .int z_left])), (a_z_rest, .inl (c_z_rest, 16, .inl z_rest))] → va_S A s.heap H locs → lv_has ls 3 [(0, .ref a_z), (1, .int p1), (2, .int s2)] → Z H locs 0 0 (F0 m 2 ls []) := by
    intro n
    induction n with
    | zero =>
      intro s2 H locs ls hn
      exact (itr_0 hn).elim
    | succ n ih =>
      intro s2 H locs ls hn hP hD hS hl
      obtain ⟨y1, hs, hn⟩ := itr_s hn
      unfold pX2_liesInAnother_L2 at hs
      refine hZv ?_
      refine lv_iload_n hx hb dX2_liesInAnother_2 rfl (lv_at hl 2 rfl) ?_
      refine lv_aload_n hx hb dX2_liesInAnother_3 rfl (lv_at hl 0 rfl) ?_
      refine va_get (D := (dC, dI)) (ci := 2) (v := .ref a_r) (C := RX2) (T := TX2) (N := 3) hx hb hts hiX2 hown hK hP 1 rfl rfl 0 (by decide) hf9 (fun _ h9 => h9) rfl dX2_liesInAnother_4 ?_
      refine va_get (D := (dC, dI)) (ci := 6) (v := .int r_size) (C := RX6) (T := TX6) (N := 5) hx hb hts hiX6 hown hK hP 0 rfl rfl 2 (by decide) hf23 (fun _ h9 => h9) rfl dX2_liesInAnother_7 ?_
      refine lv_icmp_ge (tgt := 55) hx hb dX2_liesInAnother_10 (by decide) (fun hc => ?_) (fun hc => ?_)
      · replace hs := it_t hc hs
        replace hs := Option.some.inj hs
        subst hs
        obtain rfl : (Sum.inr ()) = e2 := hn
        exact hZw (hX2_1 () rfl H locs ls hP hD hS (lv_sub hl [] rfl))
      · replace hs := it_f hc hs
        refine lv_iload_n hx hb dX2_liesInAnother_13 rfl (lv_at hl 2 rfl) ?_
        refine lv_iload_n hx hb dX2_liesInAnother_14 rfl (lv_at hl 1 rfl) ?_
        refine lv_icmp_eq (tgt := 49) hx hb dX2_liesInAnother_15 (by decide) (fun hc => ?_) (fun hc => ?_)
        · replace hs := it_t hc hs
          refine lv_iinc (v := s2 + 1) (lv' := [(2, .int (s2 + 1)), (0, .ref a_z), (1, .int p1)]) hx hb dX2_liesInAnother_49 hl (k := 2) rfl (by rfl) (by decide) rfl (fun ls hl => ?_)
          refine lv_goto (tgt := 2) hx hb dX2_liesInAnother_52 (by decide) ?_
          replace hs := Option.some.inj hs
          subst hs
          exact hZw (ih (s2 + 1) H locs ls hn hP hD hS (lv_sub hl [1, 2, 0] rfl))
        · replace hs := it_f hc hs
          refine lv_aload_n hx hb dX2_liesInAnother_18 rfl (lv_at hl 0 rfl) ?_
          refine va_get (D := (dC, dI)) (ci := 2) (v := .int z_left) (C := RX2) (T := TX2) (N := 3) hx hb hts hiX2 hown hK hP 1 rfl rfl 2 (by decide) hf19 (fun _ h9 => h9) rfl dX2_liesInAnother_19 ?_
          refine lv_iload_n hx hb dX2_liesInAnother_22 rfl (lv_at hl 2 rfl) ?_
          obtain ⟨r2, hr2, hs⟩ := bd_s hs
          refine kc_i (isC := []) (isR := [0, 1, 2]) (pm := [0, 1, 2]) (wr := [(a_r, .inr (6, [.ref a_r_rows, .ref a_r_ins, .int r_size, .int r_n, .int r_parts])), (a_z, .inr (2, [.ref a_r, .ref a_z_rest, .int z_left])), (a_z_rest, .inl (c_z_rest, 16, .inl z_rest))]) (w1 := []) (w2 := [(a_r, .inr (6, [.ref a_r_rows, .ref a_r_ins, .int r_size, .int r_n, .int r_parts])), (a_z, .inr (2, [.ref a_r, .ref a_z_rest, .int z_left])), (a_z_rest, .inl (c_z_rest, 16, .inl z_rest))]) (va_runSN (As := [.int z_left, .int s2]) (rest := []) ⟨hx, hb, hml, hown, hts⟩ (c_X9_has l dC dI H.size z_left s2 r2 hr2) ⟨va_cnB 2 hts gX2_liesInAnother_X9_has_n38 rfl rfl rfl hN.1.2.2.1 (hts (.initialized RX9) (t1_ (al_ (al_ (t4_ (t1_ h1_)))))) (by decide +kernel) ⟨Nat.le_of_ble_eq_true rfl, Nat.le_of_ble_eq_true rfl⟩, hts (.static yX9_has) (t1_ (al_ (al_ (t4_ h1_)))), trivial⟩ (kp_S hK hP hD hS hA hN (isC := []) (isT := []) (wc := []) rfl (by decide +kernel) rfl) rfl rfl hl.1 rfl (lv_room (Nat.le_of_ble_eq_true rfl)) dX2_liesInAnother_23 ⟨Nat.le_of_ble_eq_true rfl, Nat.le_of_ble_eq_true rfl⟩) hP hD hS hA rfl rfl (by decide +kernel) (by decide +kernel) rfl (by decide +kernel) (fun H locs hP hD hS => ?_)
          refine lv_if_eq (tgt := 49) hx hb dX2_liesInAnother_26 (by decide) (fun hc => ?_) (fun hc => ?_)
          · replace hs := it_t hc hs
            refine lv_iinc (v := s2 + 1) (lv' := [(2, .int (s2 + 1)), (0, .ref a_z), (1, .int p1)]) hx hb dX2_liesInAnother_49 hl (k := 2) rfl (by rfl) (by decide) rfl (fun ls hl => ?_)
            refine lv_goto (tgt := 2) hx hb dX2_liesInAnother_52 (by decide) ?_
            replace hs := Option.some.inj hs
            subst hs
            exact hZw (ih (s2 + 1) H locs ls hn hP hD hS (lv_sub hl [1, 2, 0] rfl))
          · replace hs := it_f hc hs
            refine lv_aload_n hx hb dX2_liesInAnother_29 rfl (lv_at hl 0 rfl) ?_
            refine va_get (D := (dC, dI)) (ci := 2) (v := .ref a_z_rest) (C := RX2) (T := TX2) (N := 3) hx hb hts hiX2 hown hK hP 1 rfl rfl 1 (by decide) hf15 (fun _ h9 => h9) rfl dX2_liesInAnother_30 ?_
            refine lv_iload_n hx hb dX2_liesInAnother_33 rfl (lv_at hl 1 rfl) ?_
            obtain ⟨hg3, hs⟩ := gd_s hs
            refine va_iald hx hb hK hP 2 0 rfl rfl hg3 dX2_liesInAnother_34 ?_
            refine lv_aload_n hx hb dX2_liesInAnother_35 rfl (lv_at hl 0 rfl) ?_
            refine va_get (D := (dC, dI)) (ci := 2) (v := .ref a_z_rest) (C := RX2) (T := TX2) (N := 3) hx hb hts hiX2 hown hK hP 1 rfl rfl 1 (by decide) hf15 (fun _ h9 => h9) rfl dX2_liesInAnother_36 ?_
            refine lv_iload_n hx hb dX2_liesInAnother_39 rfl (lv_at hl 2 rfl) ?_
            obtain ⟨hg4, hs⟩ := gd_s hs
            refine va_iald hx hb hK hP 2 0 rfl rfl hg4 dX2_liesInAnother_40 ?_
            refine lv_iconst (v := (-1)) hx hb dX2_liesInAnother_41 (by decide) ?_
            refine lv_ixor hx hb dX2_liesInAnother_42 ?_
            refine lv_iand hx hb dX2_liesInAnother_43 ?_
            refine lv_if_ne (tgt := 49) hx hb dX2_liesInAnother_44 (by decide) (fun hc => ?_) (fun hc => ?_)
            · replace hs := it_f hc hs
              refine lv_iinc (v := s2 + 1) (lv' := [(2, .int (s2 + 1)), (0, .ref a_z), (1, .int p1)]) hx hb dX2_liesInAnother_49 hl (k := 2) rfl (by rfl) (by decide) rfl (fun ls hl => ?_)
              refine lv_goto (tgt := 2) hx hb dX2_liesInAnother_52 (by decide) ?_
              replace hs := Option.some.inj hs
              subst hs
              exact hZw (ih (s2 + 1) H locs ls hn hP hD hS (lv_sub hl [1, 2, 0] rfl))
            · replace hs := it_t hc hs
              replace hs := Option.some.inj hs
              subst hs
              obtain rfl : (Sum.inl ()) = e2 := hn
              exact hZw (hX2_0 () rfl H locs ls hP hD hS (lv_sub hl [] rfl))
  obtain ⟨n2, hn2⟩ := lp_ex he2
  exact hZw (hL2 n2 0 H locs ls hn2 hP hD hS (lv_sub hl [1, 2, 0] rfl))
noncomputable def pX2_setGoes_L2 (r_size : Int32) (z_left : Int32) (z_rest : Nat → Int32) (s2 : Int32) : Option ((Int32) ⊕ ((Int32) ⊕ (Unit))) :=
  if r_size ≤ s2 then (some (Sum.inr (Sum.inr ()))) else (Option.bind (pX9_has z_left s2) (fun r2 => if r2 = 0 then (some (Sum.inl (s2 + 1))) else (gd (vp_in s2 16) (if (z_rest s2.toNatClampNeg) = 0 then (some (Sum.inr (Sum.inl s2))) else (Option.bind (pX2_liesInAnother r_size z_left z_rest s2) (fun r4 => if r4 = 0 then (some (Sum.inl (s2 + 1))) else (some (Sum.inr (Sum.inl s2)))))))))
noncomputable def pX2_setGoes (r_size : Int32) (z_left : Int32) (z_rest : Nat → Int32) : Option (Int32 × Int32) :=
  Option.bind (lp (pX2_setGoes_L2 r_size z_left z_rest) 0) (Sum.elim (fun e2_0 => some (1, z_left ^^^ (1 <<< (e2_0 &&& 31)))) (fun e2_1 => some (0, z_left)))
set_option maxHeartbeats 4000000 in
set_option maxRecDepth 100000 in
theorem c_X2_setGoes (l : Launch) (dC : Nat → ClassId) (dI : Nat → Nat → Nat) (a_r : Nat) (a_r_rows : Nat) (a_r_ins : Nat) (a_z : Nat) (a_z_rest : Nat) (c_z_rest : ClassId) (sz : Nat) (r_size : Int32) (r_n : Int32) (r_parts : Int32) (z_left : Int32) (z_rest : Nat → Int32) (rv : Int32 × Int32) (hs : pX2_setGoes r_size z_left z_rest = some rv) : Met l yX2_setGoes wsX2_setGoes ({ frames := 2, cells := 0, slots := 0, locals := 43 }) (sPc [.ref a_z] (dC, dI) [(c_z_rest, .int)] [(a_r, .inr (6, [.ref a_r_rows, .ref a_r_ins, .int r_size, .int r_n, .int r_parts])), (a_z, .inr (2, [.ref a_r, .ref a_z_rest, .int z_left])), (a_z_rest, .inl (c_z_rest, 16, .inl z_rest))] sz) (va_Qi (fun (r : Int32) (_ : Unit) => r = rv.1) (sB (dC, dI) [(c_z_rest, .int)] (va_A [(a_r, .inr (6, [.ref a_r_rows, .ref a_r_ins, .int r_size, .int r_n, .int r_parts])), (a_z, .inr (2, [.ref a_r, .ref a_z_rest, .int z_left])), (a_z_rest, .inl (c_z_rest, 16, .inl z_rest))] sz) [(a_r, .inr (6, [.ref a_r_rows, .ref a_r_ins, .int r_size, .int r_n, .int r_parts])), (a_z, .inr (2, [.ref a_r, .ref a_z_rest, .int rv.2])), (a_z_rest, .inl (c_z_rest, 16, .inl z_rest))]) (va_A [(a_r, .inr (6, [.ref a_r_rows, .ref a_r_ins, .int r_size, .int r_n, .int r_parts])), (a_z, .inr (2, [.ref a_r, .ref a_z_rest, .int z_left])), (a_z_rest, .inl (c_z_rest, 16, .inl z_rest))] sz)) 0 0 (va_A [(a_r, .inr (6, [.ref a_r_rows, .ref a_r_ins, .int r_size, .int r_n, .int r_parts])), (a_z, .inr (2, [.ref a_r, .ref a_z_rest, .int z_left])), (a_z_rest, .inl (c_z_rest, 16, .inl z_rest))] sz) := by
  refine Met.ofW (cc := cX2_setGoes) (maxL := 2) (ret := (some .boolean)) (by decide) rfl ?_
  intro p e s m args below meth c s₁ B hml hv
  obtain ⟨rfl, hsz, hP, hK, hD0, hN⟩ := hv
  have hx := B.exec
  have hb := B.bytes
  have hr := B.returns
  have hts := atoms_spec (ws := wsX2_setGoes) B.pre
  have hown : s.vm.findClass RX2 = some m.cls := findClass_of_methodNamed B.named
  have hlocks := B.notSynchronized
  subst hsz
  have hD := hD0.self (sz := s.heap.size)
  generalize hAe : va_A [(a_r, .inr (6, [.ref a_r_rows, .ref a_r_ins, .int r_size, .int r_n, .int r_parts])), (a_z, .inr (2, [.ref a_r, .ref a_z_rest, .int z_left])), (a_z_rest, .inl (c_z_rest, 16, .inl z_rest))] s.heap.size = A at hD hN ⊢
  have hA : ∀ q : Nat, s.heap.size ≤ q → A q := fun q h => by rw [← hAe]; exact Or.inr h
  have hS : va_S A s.heap s.heap [] := va_S.rf
  have hP : va_P (dC, dI) vwCl [(a_r, .inr (6, [.ref a_r_rows, .ref a_r_ins, .int r_size, .int r_n, .int r_parts])), (a_z, .inr (2, [.ref a_r, .ref a_z_rest, .int z_left])), (a_z_rest, .inl (c_z_rest, 16, .inl z_rest))] s.heap := hP
  have hl := lv_entry ([.ref a_z]) (n := 2) (Nat.le_of_ble_eq_true rfl)
  rw [lg_entry_eq]
  generalize (lg_sl ([.ref a_z]) ++ List.replicate (2 - (lg_sl ([.ref a_z])).length) Slot.unset).toArray = ls at hl ⊢
  have hl : lv_has ls 2 [(0, .ref a_z)] := hl
  have hiX2 : ∀ w ∈ wsX20, w ∈ wsX2_setGoes := fun _ h => List.mem_cons_of_mem _ (List.mem_append_left _ (List.mem_append_right _ h))
  have hf9 := hts (.fieldLink RX2 9 "MeetSets$Ears" "list" "LMeetSets$SetRow;") (t1_ (al_ (al_ h1_)))
  have hiX6 : ∀ w ∈ wsX60, w ∈ wsX2_setGoes := fun _ h => List.mem_cons_of_mem _ (List.mem_append_right _ h)
  have hf23 := hts (.fieldLink RX2 23 "MeetSets$SetRow" "size" "I") (t1_ (al_ (al_ (t1_ h1_))))
  have hf19 := hts (.fieldLink RX2 19 "MeetSets$Ears" "left" "I") (t1_ (al_ (al_ (t1_ (t1_ h1_)))))
  have hf15 := hts (.fieldLink RX2 15 "MeetSets$Ears" "rest" "[I") (t1_ (al_ (al_ (t1_ (t1_ (t1_ h1_))))))
  refine w_abs (fun Z hZv hZw => ?_)
  refine hZv ?_
  obtain ⟨H, hH⟩ : ∃ H, H = s.heap := ⟨_, rfl⟩
  obtain ⟨locs, hlo⟩ : ∃ L : List Loc, L = [] := ⟨_, rfl⟩
  rw [← hlo, ← hH]
  have hS : va_S A s.heap H locs := by rw [hlo, hH]; exact hS
  have hP : va_P (dC, dI) vwCl [(a_r, .inr (6, [.ref a_r_rows, .ref a_r_ins, .int r_size, .int r_n, .int r_parts])), (a_z, .inr (2, [.ref a_r, .ref a_z_rest, .int z_left])), (a_z_rest, .inl (c_z_rest, 16, .inl z_rest))] H := by rw [hH]; exact hP
  clear hH hlo
  unfold pX2_setGoes at hs
  refine lv_iconst (v := 0) hx hb dX2_setGoes_0 (by decide) ?_
  refine lv_istore_n (lv' := [(1, .int 0), (0, .ref a_z)]) hx hb dX2_setGoes_1 rfl hl (by decide) rfl (fun ls hl => ?_)
  obtain ⟨e2, he2, hs⟩ := bd_s hs
  have hX2_0 : ∀ (e2_0 : Int32), (Sum.inl e2_0) = e2 → ∀ (H : Heap) (locs : List Loc) (ls : Array Slot), va_P (dC, dI) vwCl [(a_r, .inr (6, [.ref a_r_rows, .ref a_r_ins, .int r_size, .int r_n, .int r_parts])), (a_z, .inr (2, [.ref a_r, .ref a_z_rest, .int z_left])), (a_z_rest, .inl (c_z_rest, 16, .inl z_rest))] H → va_D A [(a_r, .inr (6, [.ref a_r_rows, .ref a_r_ins, .int r_size, .int r_n, .int r_parts])), (a_z, .inr (2, [.ref a_r, .ref a_z_rest, .int z_left])), (a_z_rest, .inl (c_z_rest, 16, .inl z_rest))] → va_S A s.heap H locs → lv_has ls 2 [(0, .ref a_z), (1, .int e2_0)] → Z H locs 0 0 (F0 m 41 ls []) := by
    intro e2_0 he H locs ls hP hD hS hl
    subst he
    replace hs := sm_l hs
    refine hZv ?_
    refine lv_aload_n hx hb dX2_setGoes_41 rfl (lv_at hl 0 rfl) ?_
    refine lv_dup hx hb dX2_setGoes_42 rfl ?_
    refine va_get (D := (dC, dI)) (ci := 2) (v := .int z_left) (C := RX2) (T := TX2) (N := 3) hx hb hts hiX2 hown hK hP 1 rfl rfl 2 (by decide) hf19 (fun _ h9 => h9) rfl dX2_setGoes_43 ?_
    refine lv_iconst (v := 1) hx hb dX2_setGoes_46 (by decide) ?_
    refine lv_iload_n hx hb dX2_setGoes_47 rfl (lv_at hl 1 rfl) ?_
    refine lv_ishl hx hb dX2_setGoes_48 ?_
    refine lv_ixor hx hb dX2_setGoes_49 ?_
    refine va_put (D := (dC, dI)) (ci := 2) (v := .int (z_left ^^^ (1 <<< (e2_0 &&& 31)))) (ty := .int) (C := RX2) (T := TX2) (N := 3) hx hb hts hiX2 tyX2 tyX2_ok nmX2 hown hK hP hD hS 1 rfl rfl 2 (by decide) hf19 (fun _ h9 => h9) rfl (by decide +kernel) rfl rfl (Nat.le_of_ble_eq_true rfl) dX2_setGoes_50 (fun H locs hP hD hS => ?_)
    have hP : va_P (dC, dI) vwCl [(a_r, .inr (6, [.ref a_r_rows, .ref a_r_ins, .int r_size, .int r_n, .int r_parts])), (a_z, .inr (2, [.ref a_r, .ref a_z_rest, .int (z_left ^^^ (1 <<< (e2_0 &&& 31)))])), (a_z_rest, .inl (c_z_rest, 16, .inl z_rest))] H := hP
    have hD : va_D A [(a_r, .inr (6, [.ref a_r_rows, .ref a_r_ins, .int r_size, .int r_n, .int r_parts])), (a_z, .inr (2, [.ref a_r, .ref a_z_rest, .int (z_left ^^^ (1 <<< (e2_0 &&& 31)))])), (a_z_rest, .inl (c_z_rest, 16, .inl z_rest))] := hD
    refine lv_iconst (v := 1) hx hb dX2_setGoes_53 (by decide) ?_
    replace hs := Option.some.inj hs
    subst hs
    exact W.zret (v := 1) (ty := .boolean) hx hb hr rfl (fun t ht hW => ⟨⟨1, (), rfl, rfl, by rw [ht]; exact hP, va_K.moved hW.alike hK, hD⟩, hS.F ht⟩) hS.2.2 dX2_setGoes_54
  have hX2_1 : ∀ (e2_1 : Unit), (Sum.inr e2_1) = e2 → ∀ (H : Heap) (locs : List Loc) (ls : Array Slot), va_P (dC, dI) vwCl [(a_r, .inr (6, [.ref a_r_rows, .ref a_r_ins, .int r_size, .int r_n, .int r_parts])), (a_z, .inr (2, [.ref a_r, .ref a_z_rest, .int z_left])), (a_z_rest, .inl (c_z_rest, 16, .inl z_rest))] H → va_D A [(a_r, .inr (6, [.ref a_r_rows, .ref a_r_ins, .int r_size, .int r_n, .int r_parts])), (a_z, .inr (2, [.ref a_r, .ref a_z_rest, .int z_left])), (a_z_rest, .inl (c_z_rest, 16, .inl z_rest))] → va_S A s.heap H locs → lv_has ls 2 [] → Z H locs 0 0 (F0 m 61 ls []) := by
    intro e2_1 he H locs ls hP hD hS hl
    subst he
    replace hs := sm_r hs
    refine hZv ?_
    refine lv_iconst (v := 0) hx hb dX2_setGoes_61 (by decide) ?_
    replace hs := Option.some.inj hs
    subst hs
    exact W.zret (v := 0) (ty := .boolean) hx hb hr rfl (fun t ht hW => ⟨⟨0, (), rfl, rfl, by rw [ht]; exact hP, va_K.moved hW.alike hK, hD⟩, hS.F ht⟩) hS.2.2 dX2_setGoes_62
  clear hs
  have hL2 : ∀ (n : Nat) (s2 : Int32) (H : Heap) (locs : List Loc) (ls : Array Slot), itr (pX2_setGoes_L2 r_size z_left z_rest) n s2 = some e2 → va_P (dC, dI) vwCl [(a_r, .inr (6, [.ref a_r_rows, .ref a_r_ins, .int r_size, .int r_n, .int r_parts])), (a_z, .inr (2, [.ref a_r, .ref a_z_rest, .int z_left])), (a_z_rest, .inl (c_z_rest, 16, .inl z_rest))] H → va_D A [(a_r, .inr (6, [.ref a_r_rows, .ref a_r_ins, .int r_size, .int r_n, .int r_parts])), (a_z, .inr (2, [.ref a_r, .ref a_z_rest, .int z_left])), (a_z_rest, .inl (c_z_rest, 16, .inl z_rest))] → va_S A s.heap H locs → lv_has ls 2 [(0, .ref a_z), (1, .int s2)] → Z H locs 0 0 (F0 m 2 ls []) := by
    intro n
    induction n with
    | zero =>
      intro s2 H locs ls hn
      exact (itr_0 hn).elim
    | succ n ih =>
      intro s2 H locs ls hn hP hD hS hl
      obtain ⟨y1, hs, hn⟩ := itr_s hn
      unfold pX2_setGoes_L2 at hs
      refine hZv ?_
      refine lv_iload_n hx hb dX2_setGoes_2 rfl (lv_at hl 1 rfl) ?_
      refine lv_aload_n hx hb dX2_setGoes_3 rfl (lv_at hl 0 rfl) ?_
      refine va_get (D := (dC, dI)) (ci := 2) (v := .ref a_r) (C := RX2) (T := TX2) (N := 3) hx hb hts hiX2 hown hK hP 1 rfl rfl 0 (by decide) hf9 (fun _ h9 => h9) rfl dX2_setGoes_4 ?_
      refine va_get (D := (dC, dI)) (ci := 6) (v := .int r_size) (C := RX6) (T := TX6) (N := 5) hx hb hts hiX6 hown hK hP 0 rfl rfl 2 (by decide) hf23 (fun _ h9 => h9) rfl dX2_setGoes_7 ?_
      refine lv_icmp_ge (tgt := 61) hx hb dX2_setGoes_10 (by decide) (fun hc => ?_) (fun hc => ?_)
      · replace hs := it_t hc hs
        replace hs := Option.some.inj hs
        subst hs
        obtain rfl : (Sum.inr ()) = e2 := hn
        exact hZw (hX2_1 () rfl H locs ls hP hD hS (lv_sub hl [] rfl))
      · replace hs := it_f hc hs
        refine lv_aload_n hx hb dX2_setGoes_13 rfl (lv_at hl 0 rfl) ?_
        refine va_get (D := (dC, dI)) (ci := 2) (v := .int z_left) (C := RX2) (T := TX2) (N := 3) hx hb hts hiX2 hown hK hP 1 rfl rfl 2 (by decide) hf19 (fun _ h9 => h9) rfl dX2_setGoes_14 ?_
        refine lv_iload_n hx hb dX2_setGoes_17 rfl (lv_at hl 1 rfl) ?_
        obtain ⟨r2, hr2, hs⟩ := bd_s hs
        refine kc_i (isC := []) (isR := [0, 1, 2]) (pm := [0, 1, 2]) (wr := [(a_r, .inr (6, [.ref a_r_rows, .ref a_r_ins, .int r_size, .int r_n, .int r_parts])), (a_z, .inr (2, [.ref a_r, .ref a_z_rest, .int z_left])), (a_z_rest, .inl (c_z_rest, 16, .inl z_rest))]) (w1 := []) (w2 := [(a_r, .inr (6, [.ref a_r_rows, .ref a_r_ins, .int r_size, .int r_n, .int r_parts])), (a_z, .inr (2, [.ref a_r, .ref a_z_rest, .int z_left])), (a_z_rest, .inl (c_z_rest, 16, .inl z_rest))]) (va_runSN (As := [.int z_left, .int s2]) (rest := []) ⟨hx, hb, hml, hown, hts⟩ (c_X9_has l dC dI H.size z_left s2 r2 hr2) ⟨va_cnB 2 hts gX2_setGoes_X9_has_n38 rfl rfl rfl hN.1.2.2.1 (hts (.initialized RX9) (t1_ (al_ (al_ (t4_ (t1_ h1_)))))) (by decide +kernel) ⟨Nat.le_of_ble_eq_true rfl, Nat.le_of_ble_eq_true rfl⟩, hts (.static yX9_has) (t1_ (al_ (al_ (t4_ h1_)))), trivial⟩ (kp_S hK hP hD hS hA hN (isC := []) (isT := []) (wc := []) rfl (by decide +kernel) rfl) rfl rfl hl.1 rfl (lv_room (Nat.le_of_ble_eq_true rfl)) dX2_setGoes_18 ⟨Nat.le_of_ble_eq_true rfl, Nat.le_of_ble_eq_true rfl⟩) hP hD hS hA rfl rfl (by decide +kernel) (by decide +kernel) rfl (by decide +kernel) (fun H locs hP hD hS => ?_)
        refine lv_if_eq (tgt := 55) hx hb dX2_setGoes_21 (by decide) (fun hc => ?_) (fun hc => ?_)
        · replace hs := it_t hc hs
          refine lv_iinc (v := s2 + 1) (lv' := [(1, .int (s2 + 1)), (0, .ref a_z)]) hx hb dX2_setGoes_55 hl (k := 1) rfl (by rfl) (by decide) rfl (fun ls hl => ?_)
          refine lv_goto (tgt := 2) hx hb dX2_setGoes_58 (by decide) ?_
          replace hs := Option.some.inj hs
          subst hs
          exact hZw (ih (s2 + 1) H locs ls hn hP hD hS (lv_sub hl [1, 0] rfl))
        · replace hs := it_f hc hs
          refine lv_aload_n hx hb dX2_setGoes_24 rfl (lv_at hl 0 rfl) ?_
          refine va_get (D := (dC, dI)) (ci := 2) (v := .ref a_z_rest) (C := RX2) (T := TX2) (N := 3) hx hb hts hiX2 hown hK hP 1 rfl rfl 1 (by decide) hf15 (fun _ h9 => h9) rfl dX2_setGoes_25 ?_
          refine lv_iload_n hx hb dX2_setGoes_28 rfl (lv_at hl 1 rfl) ?_
          obtain ⟨hg3, hs⟩ := gd_s hs
          refine va_iald hx hb hK hP 2 0 rfl rfl hg3 dX2_setGoes_29 ?_
          refine lv_if_eq (tgt := 41) hx hb dX2_setGoes_30 (by decide) (fun hc => ?_) (fun hc => ?_)
          · replace hs := it_t hc hs
            replace hs := Option.some.inj hs
            subst hs
            obtain rfl : (Sum.inl s2) = e2 := hn
            exact hZw (hX2_0 s2 rfl H locs ls hP hD hS hl)
          · replace hs := it_f hc hs
            refine lv_aload_n hx hb dX2_setGoes_33 rfl (lv_at hl 0 rfl) ?_
            refine lv_iload_n hx hb dX2_setGoes_34 rfl (lv_at hl 1 rfl) ?_
            obtain ⟨r4, hr4, hs⟩ := bd_s hs
            refine kc_i (isC := [0, 1, 2]) (isR := []) (pm := [0, 1, 2]) (wr := []) (w1 := [(a_r, .inr (6, [.ref a_r_rows, .ref a_r_ins, .int r_size, .int r_n, .int r_parts])), (a_z, .inr (2, [.ref a_r, .ref a_z_rest, .int z_left])), (a_z_rest, .inl (c_z_rest, 16, .inl z_rest))]) (w2 := [(a_r, .inr (6, [.ref a_r_rows, .ref a_r_ins, .int r_size, .int r_n, .int r_parts])), (a_z, .inr (2, [.ref a_r, .ref a_z_rest, .int z_left])), (a_z_rest, .inl (c_z_rest, 16, .inl z_rest))]) (va_runV (As := [.int s2]) (rest := []) ⟨hx, hb, hml, hown, hts⟩ (c_X2_liesInAnother l dC dI a_r a_r_rows a_r_ins a_z a_z_rest c_z_rest H.size r_size r_n r_parts z_left z_rest s2 r4 hr4) (cwV 1 hts gX2_setGoes_X2_liesInAnother rfl rfl rfl (by decide +kernel) ⟨Nat.le_of_ble_eq_true rfl, Nat.le_of_ble_eq_true rfl⟩) (kp_V hK hP hD hS hA hN (isC := [0, 1, 2]) (isT := [0]) (wc := [(a_r, .inr (6, [.ref a_r_rows, .ref a_r_ins, .int r_size, .int r_n, .int r_parts])), (a_z, .inr (2, [.ref a_r, .ref a_z_rest, .int z_left])), (a_z_rest, .inl (c_z_rest, 16, .inl z_rest))]) rfl (by decide +kernel) rfl (ci := 2) (q0 := 1) rfl rfl) rfl rfl hl.1 rfl (lv_room (Nat.le_of_ble_eq_true rfl)) dX2_setGoes_35 ⟨Nat.le_of_ble_eq_true rfl, Nat.le_of_ble_eq_true rfl⟩) hP hD hS hA rfl rfl (by decide +kernel) (by decide +kernel) rfl (by decide +kernel) (fun H locs hP hD hS => ?_)
            refine lv_if_eq (tgt := 55) hx hb dX2_setGoes_38 (by decide) (fun hc => ?_) (fun hc => ?_)
            · replace hs := it_t hc hs
              refine lv_iinc (v := s2 + 1) (lv' := [(1, .int (s2 + 1)), (0, .ref a_z)]) hx hb dX2_setGoes_55 hl (k := 1) rfl (by rfl) (by decide) rfl (fun ls hl => ?_)
              refine lv_goto (tgt := 2) hx hb dX2_setGoes_58 (by decide) ?_
              replace hs := Option.some.inj hs
              subst hs
              exact hZw (ih (s2 + 1) H locs ls hn hP hD hS (lv_sub hl [1, 0] rfl))
            · replace hs := it_f hc hs
              replace hs := Option.some.inj hs
              subst hs
              obtain rfl : (Sum.inl s2) = e2 := hn
              exact hZw (hX2_0 s2 rfl H locs ls hP hD hS hl)
  obtain ⟨n2, hn2⟩ := lp_ex he2
  exact hZw (hL2 n2 0 H locs ls hn2 hP hD hS (lv_sub hl [1, 0] rfl))
noncomputable def pX2_elementGoes_L6 (r_size : Int32) (z_left : Int32) (z_rest : Nat → Int32) (s6 : Int32 × Int32 × Int32) : Option ((Int32 × Int32 × Int32) ⊕ (Int32 × Int32)) :=
  if r_size ≤ s6.2.2 then (some (Sum.inr (s6.1, s6.2.1))) else (Option.bind (pX9_has z_left s6.2.2) (fun r2 => if r2 = 0 then (some (Sum.inl (s6.1, s6.2.1, s6.2.2 + 1))) else (gd (vp_in s6.2.2 16) (gd (vp_in s6.2.2 16) (some (Sum.inl (s6.1 ||| (z_rest s6.2.2.toNatClampNeg), s6.2.1 ||| (s6.1 &&& (z_rest s6.2.2.toNatClampNeg)), s6.2.2 + 1)))))))
noncomputable def pX2_elementGoes_L69 (r_size : Int32) (e6 : Int32 × Int32) (s69 : Int32 × (Nat → Int32)) : Option ((Int32 × (Nat → Int32)) ⊕ (Nat → Int32)) :=
  if r_size ≤ s69.1 then (some (Sum.inr s69.2)) else (gd (vp_in s69.1 16) (gd (vp_in s69.1 16) (some (Sum.inl (s69.1 + 1, upd s69.2 s69.1.toNatClampNeg ((s69.2 s69.1.toNatClampNeg) &&& (((e6.1 &&& (e6.2 ^^^ (-1))) &&& (-(e6.1 &&& (e6.2 ^^^ (-1))))) ^^^ (-1))))))))
noncomputable def pX2_elementGoes (r_size : Int32) (z_left : Int32) (z_rest : Nat → Int32) : Option (Int32 × (Nat → Int32)) :=
  Option.bind (lp (pX2_elementGoes_L6 r_size z_left z_rest) (0, 0, 0)) (fun e6 => Option.bind (lp (pX2_elementGoes_L69 r_size e6) (0, z_rest)) (fun e69 => if ((e6.1 &&& (e6.2 ^^^ (-1))) &&& (-(e6.1 &&& (e6.2 ^^^ (-1))))) = 0 then (some (0, e69)) else (some (1, e69))))
set_option maxHeartbeats 4000000 in
set_option maxRecDepth 100000 in
theorem c_X2_elementGoes (l : Launch) (dC : Nat → ClassId) (dI : Nat → Nat → Nat) (a_r : Nat) (a_r_rows : Nat) (a_r_ins : Nat) (a_z : Nat) (a_z_rest : Nat) (c_z_rest : ClassId) (sz : Nat) (r_size : Int32) (r_n : Int32) (r_parts : Int32) (z_left : Int32) (z_rest : Nat → Int32) (rv : Int32 × (Nat → Int32)) (hs : pX2_elementGoes r_size z_left z_rest = some rv) : Met l yX2_elementGoes wsX2_elementGoes ({ frames := 1, cells := 0, slots := 0, locals := 21 }) (sPc [.ref a_z] (dC, dI) [(c_z_rest, .int)] [(a_r, .inr (6, [.ref a_r_rows, .ref a_r_ins, .int r_size, .int r_n, .int r_parts])), (a_z, .inr (2, [.ref a_r, .ref a_z_rest, .int z_left])), (a_z_rest, .inl (c_z_rest, 16, .inl z_rest))] sz) (va_Qi (fun (r : Int32) (_ : Unit) => r = rv.1) (sB (dC, dI) [(c_z_rest, .int)] (va_A [(a_r, .inr (6, [.ref a_r_rows, .ref a_r_ins, .int r_size, .int r_n, .int r_parts])), (a_z, .inr (2, [.ref a_r, .ref a_z_rest, .int z_left])), (a_z_rest, .inl (c_z_rest, 16, .inl z_rest))] sz) [(a_r, .inr (6, [.ref a_r_rows, .ref a_r_ins, .int r_size, .int r_n, .int r_parts])), (a_z, .inr (2, [.ref a_r, .ref a_z_rest, .int z_left])), (a_z_rest, .inl (c_z_rest, 16, .inl rv.2))]) (va_A [(a_r, .inr (6, [.ref a_r_rows, .ref a_r_ins, .int r_size, .int r_n, .int r_parts])), (a_z, .inr (2, [.ref a_r, .ref a_z_rest, .int z_left])), (a_z_rest, .inl (c_z_rest, 16, .inl z_rest))] sz)) 0 0 (va_A [(a_r, .inr (6, [.ref a_r_rows, .ref a_r_ins, .int r_size, .int r_n, .int r_parts])), (a_z, .inr (2, [.ref a_r, .ref a_z_rest, .int z_left])), (a_z_rest, .inl (c_z_rest, 16, .inl z_rest))] sz) := by
  refine Met.ofW (cc := cX2_elementGoes) (maxL := 6) (ret := (some .boolean)) (by decide) rfl ?_
  intro p e s m args below meth c s₁ B hml hv
  obtain ⟨rfl, hsz, hP, hK, hD0, hN⟩ := hv
  have hx := B.exec
  have hb := B.bytes
  have hr := B.returns
  have hts := atoms_spec (ws := wsX2_elementGoes) B.pre
  have hown : s.vm.findClass RX2 = some m.cls := findClass_of_methodNamed B.named
  have hlocks := B.notSynchronized
  subst hsz
  have hD := hD0.self (sz := s.heap.size)
  generalize hAe : va_A [(a_r, .inr (6, [.ref a_r_rows, .ref a_r_ins, .int r_size, .int r_n, .int r_parts])), (a_z, .inr (2, [.ref a_r, .ref a_z_rest, .int z_left])), (a_z_rest, .inl (c_z_rest, 16, .inl z_rest))] s.heap.size = A at hD hN ⊢
  have hA : ∀ q : Nat, s.heap.size ≤ q → A q := fun q h => by rw [← hAe]; exact Or.inr h
  have hS : va_S A s.heap s.heap [] := va_S.rf
  have hP : va_P (dC, dI) vwCl [(a_r, .inr (6, [.ref a_r_rows, .ref a_r_ins, .int r_size, .int r_n, .int r_parts])), (a_z, .inr (2, [.ref a_r, .ref a_z_rest, .int z_left])), (a_z_rest, .inl (c_z_rest, 16, .inl z_rest))] s.heap := hP
  have hl := lv_entry ([.ref a_z]) (n := 6) (Nat.le_of_ble_eq_true rfl)
  rw [lg_entry_eq]
  generalize (lg_sl ([.ref a_z]) ++ List.replicate (6 - (lg_sl ([.ref a_z])).length) Slot.unset).toArray = ls at hl ⊢
  have hl : lv_has ls 6 [(0, .ref a_z)] := hl
  have hiX2 : ∀ w ∈ wsX20, w ∈ wsX2_elementGoes := fun _ h => List.mem_cons_of_mem _ (List.mem_append_left _ (List.mem_append_right _ h))
  have hf9 := hts (.fieldLink RX2 9 "MeetSets$Ears" "list" "LMeetSets$SetRow;") (t1_ (al_ (al_ h1_)))
  have hiX6 : ∀ w ∈ wsX60, w ∈ wsX2_elementGoes := fun _ h => List.mem_cons_of_mem _ (List.mem_append_right _ h)
  have hf23 := hts (.fieldLink RX2 23 "MeetSets$SetRow" "size" "I") (t1_ (al_ (al_ (t1_ h1_))))
  have hf19 := hts (.fieldLink RX2 19 "MeetSets$Ears" "left" "I") (t1_ (al_ (al_ (t1_ (t1_ h1_)))))
  have hf15 := hts (.fieldLink RX2 15 "MeetSets$Ears" "rest" "[I") (t1_ (al_ (al_ (t1_ (t1_ (t1_ h1_))))))
  refine w_abs (fun Z hZv hZw => ?_)
  refine hZv ?_
  obtain ⟨H, hH⟩ : ∃ H, H = s.heap := ⟨_, rfl⟩
  obtain ⟨locs, hlo⟩ : ∃ L : List Loc, L = [] := ⟨_, rfl⟩
  rw [← hlo, ← hH]
  have hS : va_S A s.heap H locs := by rw [hlo, hH]; exact hS
  have hP : va_P (dC, dI) vwCl [(a_r, .inr (6, [.ref a_r_rows, .ref a_r_ins, .int r_size, .int r_n, .int r_parts])), (a_z, .inr (2, [.ref a_r, .ref a_z_rest, .int z_left])), (a_z_rest, .inl (c_z_rest, 16, .inl z_rest))] H := by rw [hH]; exact hP
  clear hH hlo
  unfold pX2_elementGoes at hs
  refine lv_iconst (v := 0) hx hb dX2_elementGoes_0 (by decide) ?_
  refine lv_istore_n (lv' := [(1, .int 0), (0, .ref a_z)]) hx hb dX2_elementGoes_1 rfl hl (by decide) rfl (fun ls hl => ?_)
  refine lv_iconst (v := 0) hx hb dX2_elementGoes_2 (by decide) ?_
  refine lv_istore_n (lv' := [(2, .int 0), (1, .int 0), (0, .ref a_z)]) hx hb dX2_elementGoes_3 rfl hl (by decide) rfl (fun ls hl => ?_)
  refine lv_iconst (v := 0) hx hb dX2_elementGoes_4 (by decide) ?_
  refine lv_istore_n (lv' := [(3, .int 0), (2, .int 0), (1, .int 0), (0, .ref a_z)]) hx hb dX2_elementGoes_5 rfl hl (by decide) rfl (fun ls hl => ?_)
  obtain ⟨e6, he6, hs⟩ := bd_s hs
  have hX6 : ∀ (H : Heap) (locs : List Loc) (ls : Array Slot), va_P (dC, dI) vwCl [(a_r, .inr (6, [.ref a_r_rows, .ref a_r_ins, .int r_size, .int r_n, .int r_parts])), (a_z, .inr (2, [.ref a_r, .ref a_z_rest, .int z_left])), (a_z_rest, .inl (c_z_rest, 16, .inl z_rest))] H → va_D A [(a_r, .inr (6, [.ref a_r_rows, .ref a_r_ins, .int r_size, .int r_n, .int r_parts])), (a_z, .inr (2, [.ref a_r, .ref a_z_rest, .int z_left])), (a_z_rest, .inl (c_z_rest, 16, .inl z_rest))] → va_S A s.heap H locs → lv_has ls 6 [(0, .ref a_z), (1, .int e6.1), (2, .int e6.2)] → Z H locs 0 0 (F0 m 54 ls []) := by
    intro H locs ls hP hD hS hl
    refine hZv ?_
    refine lv_iload_n hx hb dX2_elementGoes_54 rfl (lv_at hl 1 rfl) ?_
    refine lv_iload_n hx hb dX2_elementGoes_55 rfl (lv_at hl 2 rfl) ?_
    refine lv_iconst (v := (-1)) hx hb dX2_elementGoes_56 (by decide) ?_
    refine lv_ixor hx hb dX2_elementGoes_57 ?_
    refine lv_iand hx hb dX2_elementGoes_58 ?_
    refine lv_istore_n (lv' := [(3, .int (e6.1 &&& (e6.2 ^^^ (-1)))), (0, .ref a_z), (1, .int e6.1), (2, .int e6.2)]) hx hb dX2_elementGoes_59 rfl hl (by decide) rfl (fun ls hl => ?_)
    refine lv_iload_n hx hb dX2_elementGoes_60 rfl (lv_at hl 0 rfl) ?_
    refine lv_iload_n hx hb dX2_elementGoes_61 rfl (lv_at hl 0 rfl) ?_
    refine lv_ineg hx hb dX2_elementGoes_62 ?_
    refine lv_iand hx hb dX2_elementGoes_63 ?_
    refine lv_istore (lv' := [(4, .int ((e6.1 &&& (e6.2 ^^^ (-1))) &&& (-(e6.1 &&& (e6.2 ^^^ (-1)))))), (3, .int (e6.1 &&& (e6.2 ^^^ (-1)))), (0, .ref a_z), (1, .int e6.1), (2, .int e6.2)]) hx hb dX2_elementGoes_64 hl (by decide) rfl (fun ls hl => ?_)
    refine lv_iconst (v := 0) hx hb dX2_elementGoes_66 (by decide) ?_
    refine lv_istore (lv' := [(5, .int 0), (4, .int ((e6.1 &&& (e6.2 ^^^ (-1))) &&& (-(e6.1 &&& (e6.2 ^^^ (-1)))))), (3, .int (e6.1 &&& (e6.2 ^^^ (-1)))), (0, .ref a_z), (1, .int e6.1), (2, .int e6.2)]) hx hb dX2_elementGoes_67 hl (by decide) rfl (fun ls hl => ?_)
    obtain ⟨e69, he69, hs⟩ := bd_s hs
    have hX69 : ∀ (H : Heap) (locs : List Loc) (ls : Array Slot), va_P (dC, dI) vwCl [(a_r, .inr (6, [.ref a_r_rows, .ref a_r_ins, .int r_size, .int r_n, .int r_parts])), (a_z, .inr (2, [.ref a_r, .ref a_z_rest, .int z_left])), (a_z_rest, .inl (c_z_rest, 16, .inl e69))] H → va_D A [(a_r, .inr (6, [.ref a_r_rows, .ref a_r_ins, .int r_size, .int r_n, .int r_parts])), (a_z, .inr (2, [.ref a_r, .ref a_z_rest, .int z_left])), (a_z_rest, .inl (c_z_rest, 16, .inl e69))] → va_S A s.heap H locs → lv_has ls 6 [(4, .int ((e6.1 &&& (e6.2 ^^^ (-1))) &&& (-(e6.1 &&& (e6.2 ^^^ (-1))))))] → Z H locs 0 0 (F0 m 101 ls []) := by
      intro H locs ls hP hD hS hl
      refine hZv ?_
      refine lv_iload hx hb dX2_elementGoes_101 (lv_at hl 0 rfl) ?_
      refine lv_if_eq (tgt := 110) hx hb dX2_elementGoes_103 (by decide) (fun hc => ?_) (fun hc => ?_)
      · replace hs := it_t hc hs
        refine lv_iconst (v := 0) hx hb dX2_elementGoes_110 (by decide) ?_
        replace hs := Option.some.inj hs
        subst hs
        exact W.zret (v := 0) (ty := .boolean) hx hb hr rfl (fun t ht hW => ⟨⟨0, (), rfl, rfl, by rw [ht]; exact hP, va_K.moved hW.alike hK, hD⟩, hS.F ht⟩) hS.2.2 dX2_elementGoes_111
      · replace hs := it_f hc hs
        refine lv_iconst (v := 1) hx hb dX2_elementGoes_106 (by decide) ?_
        refine lv_goto (tgt := 111) hx hb dX2_elementGoes_107 (by decide) ?_
        replace hs := Option.some.inj hs
        subst hs
        exact W.zret (v := 1) (ty := .boolean) hx hb hr rfl (fun t ht hW => ⟨⟨1, (), rfl, rfl, by rw [ht]; exact hP, va_K.moved hW.alike hK, hD⟩, hS.F ht⟩) hS.2.2 dX2_elementGoes_111
    clear hs
    have hL69 : ∀ (n : Nat) (s69 : Int32 × (Nat → Int32)) (H : Heap) (locs : List Loc) (ls : Array Slot), itr (pX2_elementGoes_L69 r_size e6) n s69 = some e69 → va_P (dC, dI) vwCl [(a_r, .inr (6, [.ref a_r_rows, .ref a_r_ins, .int r_size, .int r_n, .int r_parts])), (a_z, .inr (2, [.ref a_r, .ref a_z_rest, .int z_left])), (a_z_rest, .inl (c_z_rest, 16, .inl s69.2))] H → va_D A [(a_r, .inr (6, [.ref a_r_rows, .ref a_r_ins, .int r_size, .int r_n, .int r_parts])), (a_z, .inr (2, [.ref a_r, .ref a_z_rest, .int z_left])), (a_z_rest, .inl (c_z_rest, 16, .inl s69.2))] → va_S A s.heap H locs → lv_has ls 6 [(0, .ref a_z), (4, .int ((e6.1 &&& (e6.2 ^^^ (-1))) &&& (-(e6.1 &&& (e6.2 ^^^ (-1)))))), (5, .int s69.1)] → Z H locs 0 0 (F0 m 69 ls []) := by
      intro n
      induction n with
      | zero =>
        intro s69 H locs ls hn
        exact (itr_0 hn).elim
      | succ n ih =>
        intro s69 H locs ls hn hP hD hS hl
        obtain ⟨y5, hs, hn⟩ := itr_s hn
        unfold pX2_elementGoes_L69 at hs
        refine hZv ?_
        refine lv_iload hx hb dX2_elementGoes_69 (lv_at hl 2 rfl) ?_
        refine lv_aload_n hx hb dX2_elementGoes_71 rfl (lv_at hl 0 rfl) ?_
        refine va_get (D := (dC, dI)) (ci := 2) (v := .ref a_r) (C := RX2) (T := TX2) (N := 3) hx hb hts hiX2 hown hK hP 1 rfl rfl 0 (by decide) hf9 (fun _ h9 => h9) rfl dX2_elementGoes_72 ?_
        refine va_get (D := (dC, dI)) (ci := 6) (v := .int r_size) (C := RX6) (T := TX6) (N := 5) hx hb hts hiX6 hown hK hP 0 rfl rfl 2 (by decide) hf23 (fun _ h9 => h9) rfl dX2_elementGoes_75 ?_
        refine lv_icmp_ge (tgt := 101) hx hb dX2_elementGoes_78 (by decide) (fun hc => ?_) (fun hc => ?_)
        · replace hs := it_t hc hs
          replace hs := Option.some.inj hs
          subst hs
          obtain rfl : s69.2 = e69 := hn
          exact hZw (hX69 H locs ls hP hD hS (lv_sub hl [1] rfl))
        · replace hs := it_f hc hs
          refine lv_aload_n hx hb dX2_elementGoes_81 rfl (lv_at hl 0 rfl) ?_
          refine va_get (D := (dC, dI)) (ci := 2) (v := .ref a_z_rest) (C := RX2) (T := TX2) (N := 3) hx hb hts hiX2 hown hK hP 1 rfl rfl 1 (by decide) hf15 (fun _ h9 => h9) rfl dX2_elementGoes_82 ?_
          refine lv_iload hx hb dX2_elementGoes_85 (lv_at hl 2 rfl) ?_
          refine lv_dup2_11 hx hb dX2_elementGoes_87 rfl rfl ?_
          obtain ⟨hg6, hs⟩ := gd_s hs
          refine va_iald hx hb hK hP 2 0 rfl rfl hg6 dX2_elementGoes_88 ?_
          refine lv_iload hx hb dX2_elementGoes_89 (lv_at hl 1 rfl) ?_
          refine lv_iconst (v := (-1)) hx hb dX2_elementGoes_91 (by decide) ?_
          refine lv_ixor hx hb dX2_elementGoes_92 ?_
          refine lv_iand hx hb dX2_elementGoes_93 ?_
          obtain ⟨hg7, hs⟩ := gd_s hs
          refine va_iast hx hb hK hP hD hS 2 0 rfl rfl hg7 dX2_elementGoes_94 (fun H locs hP hD hS => ?_)
          have hP : va_P (dC, dI) vwCl [(a_r, .inr (6, [.ref a_r_rows, .ref a_r_ins, .int r_size, .int r_n, .int r_parts])), (a_z, .inr (2, [.ref a_r, .ref a_z_rest, .int z_left])), (a_z_rest, .inl (c_z_rest, 16, .inl (upd s69.2 s69.1.toNatClampNeg ((s69.2 s69.1.toNatClampNeg) &&& (((e6.1 &&& (e6.2 ^^^ (-1))) &&& (-(e6.1 &&& (e6.2 ^^^ (-1))))) ^^^ (-1))))))] H := hP
          have hD : va_D A [(a_r, .inr (6, [.ref a_r_rows, .ref a_r_ins, .int r_size, .int r_n, .int r_parts])), (a_z, .inr (2, [.ref a_r, .ref a_z_rest, .int z_left])), (a_z_rest, .inl (c_z_rest, 16, .inl (upd s69.2 s69.1.toNatClampNeg ((s69.2 s69.1.toNatClampNeg) &&& (((e6.1 &&& (e6.2 ^^^ (-1))) &&& (-(e6.1 &&& (e6.2 ^^^ (-1))))) ^^^ (-1))))))] := hD
          refine lv_iinc (v := s69.1 + 1) (lv' := [(5, .int (s69.1 + 1)), (0, .ref a_z), (4, .int ((e6.1 &&& (e6.2 ^^^ (-1))) &&& (-(e6.1 &&& (e6.2 ^^^ (-1))))))]) hx hb dX2_elementGoes_95 hl (k := 2) rfl (by rfl) (by decide) rfl (fun ls hl => ?_)
          refine lv_goto (tgt := 69) hx hb dX2_elementGoes_98 (by decide) ?_
          replace hs := Option.some.inj hs
          subst hs
          exact hZw (ih (s69.1 + 1, upd s69.2 s69.1.toNatClampNeg ((s69.2 s69.1.toNatClampNeg) &&& (((e6.1 &&& (e6.2 ^^^ (-1))) &&& (-(e6.1 &&& (e6.2 ^^^ (-1))))) ^^^ (-1)))) H locs ls hn hP hD hS (lv_sub hl [1, 2, 0] rfl))
    obtain ⟨n69, hn69⟩ := lp_ex he69
    exact hZw (hL69 n69 (0, z_rest) H locs ls hn69 hP hD hS (lv_sub hl [3, 1, 0] rfl))
  clear hs
  have hL6 : ∀ (n : Nat) (s6 : Int32 × Int32 × Int32) (H : Heap) (locs : List Loc) (ls : Array Slot), itr (pX2_elementGoes_L6 r_size z_left z_rest) n s6 = some e6 → va_P (dC, dI) vwCl [(a_r, .inr (6, [.ref a_r_rows, .ref a_r_ins, .int r_size, .int r_n, .int r_parts])), (a_z, .inr (2, [.ref a_r, .ref a_z_rest, .int z_left])), (a_z_rest, .inl (c_z_rest, 16, .inl z_rest))] H → va_D A [(a_r, .inr (6, [.ref a_r_rows, .ref a_r_ins, .int r_size, .int r_n, .int r_parts])), (a_z, .inr (2, [.ref a_r, .ref a_z_rest, .int z_left])), (a_z_rest, .inl (c_z_rest, 16, .inl z_rest))] → va_S A s.heap H locs → lv_has ls 6 [(0, .ref a_z), (1, .int s6.1), (2, .int s6.2.1), (3, .int s6.2.2)] → Z H locs 0 0 (F0 m 6 ls []) := by
    intro n
    induction n with
    | zero =>
      intro s6 H locs ls hn
      exact (itr_0 hn).elim
    | succ n ih =>
      intro s6 H locs ls hn hP hD hS hl
      obtain ⟨y1, hs, hn⟩ := itr_s hn
      unfold pX2_elementGoes_L6 at hs
      refine hZv ?_
      refine lv_iload_n hx hb dX2_elementGoes_6 rfl (lv_at hl 3 rfl) ?_
      refine lv_aload_n hx hb dX2_elementGoes_7 rfl (lv_at hl 0 rfl) ?_
      refine va_get (D := (dC, dI)) (ci := 2) (v := .ref a_r) (C := RX2) (T := TX2) (N := 3) hx hb hts hiX2 hown hK hP 1 rfl rfl 0 (by decide) hf9 (fun _ h9 => h9) rfl dX2_elementGoes_8 ?_
      refine va_get (D := (dC, dI)) (ci := 6) (v := .int r_size) (C := RX6) (T := TX6) (N := 5) hx hb hts hiX6 hown hK hP 0 rfl rfl 2 (by decide) hf23 (fun _ h9 => h9) rfl dX2_elementGoes_11 ?_
      refine lv_icmp_ge (tgt := 54) hx hb dX2_elementGoes_14 (by decide) (fun hc => ?_) (fun hc => ?_)
      · replace hs := it_t hc hs
        replace hs := Option.some.inj hs
        subst hs
        obtain rfl : (s6.1, s6.2.1) = e6 := hn
        exact hZw (hX6 H locs ls hP hD hS (lv_sub hl [0, 1, 2] rfl))
      · replace hs := it_f hc hs
        refine lv_aload_n hx hb dX2_elementGoes_17 rfl (lv_at hl 0 rfl) ?_
        refine va_get (D := (dC, dI)) (ci := 2) (v := .int z_left) (C := RX2) (T := TX2) (N := 3) hx hb hts hiX2 hown hK hP 1 rfl rfl 2 (by decide) hf19 (fun _ h9 => h9) rfl dX2_elementGoes_18 ?_
        refine lv_iload_n hx hb dX2_elementGoes_21 rfl (lv_at hl 3 rfl) ?_
        obtain ⟨r2, hr2, hs⟩ := bd_s hs
        refine kc_i (isC := []) (isR := [0, 1, 2]) (pm := [0, 1, 2]) (wr := [(a_r, .inr (6, [.ref a_r_rows, .ref a_r_ins, .int r_size, .int r_n, .int r_parts])), (a_z, .inr (2, [.ref a_r, .ref a_z_rest, .int z_left])), (a_z_rest, .inl (c_z_rest, 16, .inl z_rest))]) (w1 := []) (w2 := [(a_r, .inr (6, [.ref a_r_rows, .ref a_r_ins, .int r_size, .int r_n, .int r_parts])), (a_z, .inr (2, [.ref a_r, .ref a_z_rest, .int z_left])), (a_z_rest, .inl (c_z_rest, 16, .inl z_rest))]) (va_runSN (As := [.int z_left, .int s6.2.2]) (rest := []) ⟨hx, hb, hml, hown, hts⟩ (c_X9_has l dC dI H.size z_left s6.2.2 r2 hr2) ⟨va_cnB 2 hts gX2_elementGoes_X9_has_n38 rfl rfl rfl hN.1.2.2.1 (hts (.initialized RX9) (t1_ (al_ (al_ (t4_ (t1_ h1_)))))) (by decide +kernel) ⟨Nat.le_of_ble_eq_true rfl, Nat.le_of_ble_eq_true rfl⟩, hts (.static yX9_has) (t1_ (al_ (al_ (t4_ h1_)))), trivial⟩ (kp_S hK hP hD hS hA hN (isC := []) (isT := []) (wc := []) rfl (by decide +kernel) rfl) rfl rfl hl.1 rfl (lv_room (Nat.le_of_ble_eq_true rfl)) dX2_elementGoes_22 ⟨Nat.le_of_ble_eq_true rfl, Nat.le_of_ble_eq_true rfl⟩) hP hD hS hA rfl rfl (by decide +kernel) (by decide +kernel) rfl (by decide +kernel) (fun H locs hP hD hS => ?_)
        refine lv_if_eq (tgt := 48) hx hb dX2_elementGoes_25 (by decide) (fun hc => ?_) (fun hc => ?_)
        · replace hs := it_t hc hs
          refine lv_iinc (v := s6.2.2 + 1) (lv' := [(3, .int (s6.2.2 + 1)), (0, .ref a_z), (1, .int s6.1), (2, .int s6.2.1)]) hx hb dX2_elementGoes_48 hl (k := 3) rfl (by rfl) (by decide) rfl (fun ls hl => ?_)
          refine lv_goto (tgt := 6) hx hb dX2_elementGoes_51 (by decide) ?_
          replace hs := Option.some.inj hs
          subst hs
          exact hZw (ih (s6.1, s6.2.1, s6.2.2 + 1) H locs ls hn hP hD hS (lv_sub hl [1, 2, 3, 0] rfl))
        · replace hs := it_f hc hs
          refine lv_iload_n hx hb dX2_elementGoes_28 rfl (lv_at hl 2 rfl) ?_
          refine lv_iload_n hx hb dX2_elementGoes_29 rfl (lv_at hl 1 rfl) ?_
          refine lv_aload_n hx hb dX2_elementGoes_30 rfl (lv_at hl 0 rfl) ?_
          refine va_get (D := (dC, dI)) (ci := 2) (v := .ref a_z_rest) (C := RX2) (T := TX2) (N := 3) hx hb hts hiX2 hown hK hP 1 rfl rfl 1 (by decide) hf15 (fun _ h9 => h9) rfl dX2_elementGoes_31 ?_
          refine lv_iload_n hx hb dX2_elementGoes_34 rfl (lv_at hl 3 rfl) ?_
          obtain ⟨hg3, hs⟩ := gd_s hs
          refine va_iald hx hb hK hP 2 0 rfl rfl hg3 dX2_elementGoes_35 ?_
          refine lv_iand hx hb dX2_elementGoes_36 ?_
          refine lv_ior hx hb dX2_elementGoes_37 ?_
          refine lv_istore_n (lv' := [(2, .int (s6.2.1 ||| (s6.1 &&& (z_rest s6.2.2.toNatClampNeg)))), (0, .ref a_z), (1, .int s6.1), (3, .int s6.2.2)]) hx hb dX2_elementGoes_38 rfl hl (by decide) rfl (fun ls hl => ?_)
          refine lv_iload_n hx hb dX2_elementGoes_39 rfl (lv_at hl 2 rfl) ?_
          refine lv_aload_n hx hb dX2_elementGoes_40 rfl (lv_at hl 1 rfl) ?_
          refine va_get (D := (dC, dI)) (ci := 2) (v := .ref a_z_rest) (C := RX2) (T := TX2) (N := 3) hx hb hts hiX2 hown hK hP 1 rfl rfl 1 (by decide) hf15 (fun _ h9 => h9) rfl dX2_elementGoes_41 ?_
          refine lv_iload_n hx hb dX2_elementGoes_44 rfl (lv_at hl 3 rfl) ?_
          obtain ⟨hg4, hs⟩ := gd_s hs
          refine va_iald hx hb hK hP 2 0 rfl rfl hg4 dX2_elementGoes_45 ?_
          refine lv_ior hx hb dX2_elementGoes_46 ?_
          refine lv_istore_n (lv' := [(1, .int (s6.1 ||| (z_rest s6.2.2.toNatClampNeg))), (2, .int (s6.2.1 ||| (s6.1 &&& (z_rest s6.2.2.toNatClampNeg)))), (0, .ref a_z), (3, .int s6.2.2)]) hx hb dX2_elementGoes_47 rfl hl (by decide) rfl (fun ls hl => ?_)
          refine lv_iinc (v := s6.2.2 + 1) (lv' := [(3, .int (s6.2.2 + 1)), (1, .int (s6.1 ||| (z_rest s6.2.2.toNatClampNeg))), (2, .int (s6.2.1 ||| (s6.1 &&& (z_rest s6.2.2.toNatClampNeg)))), (0, .ref a_z)]) hx hb dX2_elementGoes_48 hl (k := 3) rfl (by rfl) (by decide) rfl (fun ls hl => ?_)
          refine lv_goto (tgt := 6) hx hb dX2_elementGoes_51 (by decide) ?_
          replace hs := Option.some.inj hs
          subst hs
          exact hZw (ih (s6.1 ||| (z_rest s6.2.2.toNatClampNeg), s6.2.1 ||| (s6.1 &&& (z_rest s6.2.2.toNatClampNeg)), s6.2.2 + 1) H locs ls hn hP hD hS (lv_sub hl [3, 1, 2, 0] rfl))
  obtain ⟨n6, hn6⟩ := lp_ex he6
  exact hZw (hL6 n6 (0, 0, 0) H locs ls hn6 hP hD hS (lv_sub hl [3, 2, 1, 0] rfl))
noncomputable def pX2_whatIsLeft_L2 (r_len : Nat) (r_size : Int32) (r_rows : Nat → Int32) (s2 : Int32 × (Nat → Int32)) : Option ((Int32 × (Nat → Int32)) ⊕ (Nat → Int32)) :=
  if r_size ≤ s2.1 then (some (Sum.inr s2.2)) else (gd (vp_in s2.1 r_len) (gd (vp_in s2.1 16) (some (Sum.inl (s2.1 + 1, upd s2.2 s2.1.toNatClampNeg (r_rows s2.1.toNatClampNeg))))))
noncomputable def pX2_whatIsLeft_J77_6 (s53 : Int32 × Int32 × Int32 × (Nat → Int32)) (r5 : Int32 × (Nat → Int32)) (t77 : Int32) : Option ((Int32 × Int32 × Int32 × (Nat → Int32)) ⊕ (Int32 × (Nat → Int32))) :=
  some (Sum.inl (1, s53.2.1 + 1, t77, r5.2))
noncomputable def pX2_whatIsLeft_L53 (r_size : Int32) (s53 : Int32 × Int32 × Int32 × (Nat → Int32)) : Option ((Int32 × Int32 × Int32 × (Nat → Int32)) ⊕ (Int32 × (Nat → Int32))) :=
  if 26 ≤ s53.2.1 then (some (Sum.inr (s53.2.2.1, s53.2.2.2))) else (if s53.1 = 0 then (some (Sum.inr (s53.2.2.1, s53.2.2.2))) else (Option.bind (pX2_elementGoes r_size s53.2.2.1 s53.2.2.2) (fun r5 => if r5.1 = 0 then (Option.bind (pX2_setGoes r_size s53.2.2.1 r5.2) (fun r7 => if r7.1 = 0 then (some (Sum.inl (0, s53.2.1 + 1, r7.2, r5.2))) else (pX2_whatIsLeft_J77_6 s53 r5 r7.2))) else (pX2_whatIsLeft_J77_6 s53 r5 s53.2.2.1))))
noncomputable def pX2_whatIsLeft (r_len : Nat) (r_size : Int32) (r_rows : Nat → Int32) (z_left : Int32) (z_rest : Nat → Int32) : Option (Int32 × Int32 × (Nat → Int32)) :=
  Option.bind (lp (pX2_whatIsLeft_L2 r_len r_size r_rows) (0, z_rest)) (fun e2 => Option.bind (lp (pX2_whatIsLeft_L53 r_size) (1, 0, (1 <<< (r_size &&& 31)) - 1, e2)) (fun e53 => some (e53.1, e53.1, e53.2)))
set_option maxHeartbeats 4000000 in
set_option maxRecDepth 100000 in
theorem c_X2_whatIsLeft (l : Launch) (dC : Nat → ClassId) (dI : Nat → Nat → Nat) (a_r : Nat) (a_r_rows : Nat) (a_r_ins : Nat) (a_z : Nat) (a_z_rest : Nat) (c_r_rows c_z_rest : ClassId) (r_len : Nat) (sz : Nat) (r_size : Int32) (r_n : Int32) (r_parts : Int32) (r_rows : Nat → Int32) (z_left : Int32) (z_rest : Nat → Int32) (rv : Int32 × Int32 × (Nat → Int32)) (hs : pX2_whatIsLeft r_len r_size r_rows z_left z_rest = some rv) : Met l yX2_whatIsLeft wsX2_whatIsLeft ({ frames := 3, cells := 0, slots := 0, locals := 64 }) (sPc [.ref a_z] (dC, dI) [(c_r_rows, .int), (c_z_rest, .int)] [(a_r, .inr (6, [.ref a_r_rows, .ref a_r_ins, .int r_size, .int r_n, .int r_parts])), (a_r_rows, .inl (c_r_rows, r_len, .inl r_rows)), (a_z, .inr (2, [.ref a_r, .ref a_z_rest, .int z_left])), (a_z_rest, .inl (c_z_rest, 16, .inl z_rest))] sz) (va_Qi (fun (r : Int32) (_ : Unit) => r = rv.1) (sB (dC, dI) [(c_r_rows, .int), (c_z_rest, .int)] (va_A [(a_r, .inr (6, [.ref a_r_rows, .ref a_r_ins, .int r_size, .int r_n, .int r_parts])), (a_r_rows, .inl (c_r_rows, r_len, .inl r_rows)), (a_z, .inr (2, [.ref a_r, .ref a_z_rest, .int z_left])), (a_z_rest, .inl (c_z_rest, 16, .inl z_rest))] sz) [(a_r, .inr (6, [.ref a_r_rows, .ref a_r_ins, .int r_size, .int r_n, .int r_parts])), (a_r_rows, .inl (c_r_rows, r_len, .inl r_rows)), (a_z, .inr (2, [.ref a_r, .ref a_z_rest, .int rv.2.1])), (a_z_rest, .inl (c_z_rest, 16, .inl rv.2.2))]) (va_A [(a_r, .inr (6, [.ref a_r_rows, .ref a_r_ins, .int r_size, .int r_n, .int r_parts])), (a_r_rows, .inl (c_r_rows, r_len, .inl r_rows)), (a_z, .inr (2, [.ref a_r, .ref a_z_rest, .int z_left])), (a_z_rest, .inl (c_z_rest, 16, .inl z_rest))] sz)) 0 0 (va_A [(a_r, .inr (6, [.ref a_r_rows, .ref a_r_ins, .int r_size, .int r_n, .int r_parts])), (a_r_rows, .inl (c_r_rows, r_len, .inl r_rows)), (a_z, .inr (2, [.ref a_r, .ref a_z_rest, .int z_left])), (a_z_rest, .inl (c_z_rest, 16, .inl z_rest))] sz) := by
  refine Met.ofW (cc := cX2_whatIsLeft) (maxL := 3) (ret := (some .int)) (by decide) rfl ?_
  intro p e s m args below meth c s₁ B hml hv
  obtain ⟨rfl, hsz, hP, hK, hD0, hN⟩ := hv
  have hx := B.exec
  have hb := B.bytes
  have hr := B.returns
  have hts := atoms_spec (ws := wsX2_whatIsLeft) B.pre
  have hown : s.vm.findClass RX2 = some m.cls := findClass_of_methodNamed B.named
  have hlocks := B.notSynchronized
  subst hsz
  have hD := hD0.self (sz := s.heap.size)
  generalize hAe : va_A [(a_r, .inr (6, [.ref a_r_rows, .ref a_r_ins, .int r_size, .int r_n, .int r_parts])), (a_r_rows, .inl (c_r_rows, r_len, .inl r_rows)), (a_z, .inr (2, [.ref a_r, .ref a_z_rest, .int z_left])), (a_z_rest, .inl (c_z_rest, 16, .inl z_rest))] s.heap.size = A at hD hN ⊢
  have hA : ∀ q : Nat, s.heap.size ≤ q → A q := fun q h => by rw [← hAe]; exact Or.inr h
  have hS : va_S A s.heap s.heap [] := va_S.rf
  have hP : va_P (dC, dI) vwCl [(a_r, .inr (6, [.ref a_r_rows, .ref a_r_ins, .int r_size, .int r_n, .int r_parts])), (a_r_rows, .inl (c_r_rows, r_len, .inl r_rows)), (a_z, .inr (2, [.ref a_r, .ref a_z_rest, .int z_left])), (a_z_rest, .inl (c_z_rest, 16, .inl z_rest))] s.heap := hP
  have hl := lv_entry ([.ref a_z]) (n := 3) (Nat.le_of_ble_eq_true rfl)
  rw [lg_entry_eq]
  generalize (lg_sl ([.ref a_z]) ++ List.replicate (3 - (lg_sl ([.ref a_z])).length) Slot.unset).toArray = ls at hl ⊢
  have hl : lv_has ls 3 [(0, .ref a_z)] := hl
  have hiX2 : ∀ w ∈ wsX20, w ∈ wsX2_whatIsLeft := fun _ h => List.mem_cons_of_mem _ (List.mem_append_left _ (List.mem_append_right _ h))
  have hf9 := hts (.fieldLink RX2 9 "MeetSets$Ears" "list" "LMeetSets$SetRow;") (t1_ (al_ (al_ h1_)))
  have hiX6 : ∀ w ∈ wsX60, w ∈ wsX2_whatIsLeft := fun _ h => List.mem_cons_of_mem _ (List.mem_append_right _ h)
  have hf23 := hts (.fieldLink RX2 23 "MeetSets$SetRow" "size" "I") (t1_ (al_ (al_ (t1_ h1_))))
  have hf15 := hts (.fieldLink RX2 15 "MeetSets$Ears" "rest" "[I") (t1_ (al_ (al_ (t1_ (t1_ h1_)))))
  have hf28 := hts (.fieldLink RX2 28 "MeetSets$SetRow" "rows" "[I") (t1_ (al_ (al_ (t1_ (t1_ (t1_ h1_))))))
  have hf19 := hts (.fieldLink RX2 19 "MeetSets$Ears" "left" "I") (t1_ (al_ (al_ (t4_ h1_))))
  refine w_abs (fun Z hZv hZw => ?_)
  refine hZv ?_
  obtain ⟨H, hH⟩ : ∃ H, H = s.heap := ⟨_, rfl⟩
  obtain ⟨locs, hlo⟩ : ∃ L : List Loc, L = [] := ⟨_, rfl⟩
  rw [← hlo, ← hH]
  have hS : va_S A s.heap H locs := by rw [hlo, hH]; exact hS
  have hP : va_P (dC, dI) vwCl [(a_r, .inr (6, [.ref a_r_rows, .ref a_r_ins, .int r_size, .int r_n, .int r_parts])), (a_r_rows, .inl (c_r_rows, r_len, .inl r_rows)), (a_z, .inr (2, [.ref a_r, .ref a_z_rest, .int z_left])), (a_z_rest, .inl (c_z_rest, 16, .inl z_rest))] H := by rw [hH]; exact hP
  clear hH hlo
  unfold pX2_whatIsLeft at hs
  refine lv_iconst (v := 0) hx hb dX2_whatIsLeft_0 (by decide) ?_
  refine lv_istore_n (lv' := [(1, .int 0), (0, .ref a_z)]) hx hb dX2_whatIsLeft_1 rfl hl (by decide) rfl (fun ls hl => ?_)
  obtain ⟨e2, he2, hs⟩ := bd_s hs
  have hX2 : ∀ (H : Heap) (locs : List Loc) (ls : Array Slot), va_P (dC, dI) vwCl [(a_r, .inr (6, [.ref a_r_rows, .ref a_r_ins, .int r_size, .int r_n, .int r_parts])), (a_r_rows, .inl (c_r_rows, r_len, .inl r_rows)), (a_z, .inr (2, [.ref a_r, .ref a_z_rest, .int z_left])), (a_z_rest, .inl (c_z_rest, 16, .inl e2))] H → va_D A [(a_r, .inr (6, [.ref a_r_rows, .ref a_r_ins, .int r_size, .int r_n, .int r_parts])), (a_r_rows, .inl (c_r_rows, r_len, .inl r_rows)), (a_z, .inr (2, [.ref a_r, .ref a_z_rest, .int z_left])), (a_z_rest, .inl (c_z_rest, 16, .inl e2))] → va_S A s.heap H locs → lv_has ls 3 [(0, .ref a_z)] → Z H locs 0 0 (F0 m 34 ls []) := by
    intro H locs ls hP hD hS hl
    refine hZv ?_
    refine lv_aload_n hx hb dX2_whatIsLeft_34 rfl (lv_at hl 0 rfl) ?_
    refine lv_iconst (v := 1) hx hb dX2_whatIsLeft_35 (by decide) ?_
    refine lv_aload_n hx hb dX2_whatIsLeft_36 rfl (lv_at hl 0 rfl) ?_
    refine va_get (D := (dC, dI)) (ci := 2) (v := .ref a_r) (C := RX2) (T := TX2) (N := 3) hx hb hts hiX2 hown hK hP 2 rfl rfl 0 (by decide) hf9 (fun _ h9 => h9) rfl dX2_whatIsLeft_37 ?_
    refine va_get (D := (dC, dI)) (ci := 6) (v := .int r_size) (C := RX6) (T := TX6) (N := 5) hx hb hts hiX6 hown hK hP 0 rfl rfl 2 (by decide) hf23 (fun _ h9 => h9) rfl dX2_whatIsLeft_40 ?_
    refine lv_ishl hx hb dX2_whatIsLeft_43 ?_
    refine lv_iconst (v := 1) hx hb dX2_whatIsLeft_44 (by decide) ?_
    refine lv_isub hx hb dX2_whatIsLeft_45 ?_
    refine va_put (D := (dC, dI)) (ci := 2) (v := .int ((1 <<< (r_size &&& 31)) - 1)) (ty := .int) (C := RX2) (T := TX2) (N := 3) hx hb hts hiX2 tyX2 tyX2_ok nmX2 hown hK hP hD hS 2 rfl rfl 2 (by decide) hf19 (fun _ h9 => h9) rfl (by decide +kernel) rfl rfl (Nat.le_of_ble_eq_true rfl) dX2_whatIsLeft_46 (fun H locs hP hD hS => ?_)
    have hP : va_P (dC, dI) vwCl [(a_r, .inr (6, [.ref a_r_rows, .ref a_r_ins, .int r_size, .int r_n, .int r_parts])), (a_r_rows, .inl (c_r_rows, r_len, .inl r_rows)), (a_z, .inr (2, [.ref a_r, .ref a_z_rest, .int ((1 <<< (r_size &&& 31)) - 1)])), (a_z_rest, .inl (c_z_rest, 16, .inl e2))] H := hP
    have hD : va_D A [(a_r, .inr (6, [.ref a_r_rows, .ref a_r_ins, .int r_size, .int r_n, .int r_parts])), (a_r_rows, .inl (c_r_rows, r_len, .inl r_rows)), (a_z, .inr (2, [.ref a_r, .ref a_z_rest, .int ((1 <<< (r_size &&& 31)) - 1)])), (a_z_rest, .inl (c_z_rest, 16, .inl e2))] := hD
    refine lv_iconst (v := 1) hx hb dX2_whatIsLeft_49 (by decide) ?_
    refine lv_istore_n (lv' := [(1, .int 1), (0, .ref a_z)]) hx hb dX2_whatIsLeft_50 rfl hl (by decide) rfl (fun ls hl => ?_)
    refine lv_iconst (v := 0) hx hb dX2_whatIsLeft_51 (by decide) ?_
    refine lv_istore_n (lv' := [(2, .int 0), (1, .int 1), (0, .ref a_z)]) hx hb dX2_whatIsLeft_52 rfl hl (by decide) rfl (fun ls hl => ?_)
    obtain ⟨e53, he53, hs⟩ := bd_s hs
    have hX53 : ∀ (H : Heap) (locs : List Loc) (ls : Array Slot), va_P (dC, dI) vwCl [(a_r, .inr (6, [.ref a_r_rows, .ref a_r_ins, .int r_size, .int r_n, .int r_parts])), (a_r_rows, .inl (c_r_rows, r_len, .inl r_rows)), (a_z, .inr (2, [.ref a_r, .ref a_z_rest, .int e53.1])), (a_z_rest, .inl (c_z_rest, 16, .inl e53.2))] H → va_D A [(a_r, .inr (6, [.ref a_r_rows, .ref a_r_ins, .int r_size, .int r_n, .int r_parts])), (a_r_rows, .inl (c_r_rows, r_len, .inl r_rows)), (a_z, .inr (2, [.ref a_r, .ref a_z_rest, .int e53.1])), (a_z_rest, .inl (c_z_rest, 16, .inl e53.2))] → va_S A s.heap H locs → lv_has ls 3 [(0, .ref a_z)] → Z H locs 0 0 (F0 m 89 ls []) := by
      intro H locs ls hP hD hS hl
      refine hZv ?_
      refine lv_aload_n hx hb dX2_whatIsLeft_89 rfl (lv_at hl 0 rfl) ?_
      refine va_get (D := (dC, dI)) (ci := 2) (v := .int e53.1) (C := RX2) (T := TX2) (N := 3) hx hb hts hiX2 hown hK hP 2 rfl rfl 2 (by decide) hf19 (fun _ h9 => h9) rfl dX2_whatIsLeft_90 ?_
      replace hs := Option.some.inj hs
      subst hs
      exact W.iret (v := e53.1) hx hb hr (fun t ht hW => ⟨⟨e53.1, (), rfl, rfl, by rw [ht]; exact hP, va_K.moved hW.alike hK, hD⟩, hS.F ht⟩) hS.2.2 dX2_whatIsLeft_93
    clear hs
    have hL53 : ∀ (n : Nat) (s53 : Int32 × Int32 × Int32 × (Nat → Int32)) (H : Heap) (locs : List Loc) (ls : Array Slot), itr (pX2_whatIsLeft_L53 r_size) n s53 = some e53 → va_P (dC, dI) vwCl [(a_r, .inr (6, [.ref a_r_rows, .ref a_r_ins, .int r_size, .int r_n, .int r_parts])), (a_r_rows, .inl (c_r_rows, r_len, .inl r_rows)), (a_z, .inr (2, [.ref a_r, .ref a_z_rest, .int s53.2.2.1])), (a_z_rest, .inl (c_z_rest, 16, .inl s53.2.2.2))] H → va_D A [(a_r, .inr (6, [.ref a_r_rows, .ref a_r_ins, .int r_size, .int r_n, .int r_parts])), (a_r_rows, .inl (c_r_rows, r_len, .inl r_rows)), (a_z, .inr (2, [.ref a_r, .ref a_z_rest, .int s53.2.2.1])), (a_z_rest, .inl (c_z_rest, 16, .inl s53.2.2.2))] → va_S A s.heap H locs → lv_has ls 3 [(0, .ref a_z), (1, .int s53.1), (2, .int s53.2.1)] → Z H locs 0 0 (F0 m 53 ls []) := by
      intro n
      induction n with
      | zero =>
        intro s53 H locs ls hn
        exact (itr_0 hn).elim
      | succ n ih =>
        intro s53 H locs ls hn hP hD hS hl
        obtain ⟨y4, hs, hn⟩ := itr_s hn
        unfold pX2_whatIsLeft_L53 at hs
        refine hZv ?_
        refine lv_iload_n hx hb dX2_whatIsLeft_53 rfl (lv_at hl 2 rfl) ?_
        refine lv_bipush (v := 26) hx hb dX2_whatIsLeft_54 (by decide) ?_
        refine lv_icmp_ge (tgt := 89) hx hb dX2_whatIsLeft_56 (by decide) (fun hc => ?_) (fun hc => ?_)
        · replace hs := it_t hc hs
          replace hs := Option.some.inj hs
          subst hs
          obtain rfl : (s53.2.2.1, s53.2.2.2) = e53 := hn
          exact hZw (hX53 H locs ls hP hD hS (lv_sub hl [0] rfl))
        · replace hs := it_f hc hs
          refine lv_iload_n hx hb dX2_whatIsLeft_59 rfl (lv_at hl 1 rfl) ?_
          refine lv_if_eq (tgt := 89) hx hb dX2_whatIsLeft_60 (by decide) (fun hc => ?_) (fun hc => ?_)
          · replace hs := it_t hc hs
            replace hs := Option.some.inj hs
            subst hs
            obtain rfl : (s53.2.2.1, s53.2.2.2) = e53 := hn
            exact hZw (hX53 H locs ls hP hD hS (lv_sub hl [0] rfl))
          · replace hs := it_f hc hs
            refine lv_aload_n hx hb dX2_whatIsLeft_63 rfl (lv_at hl 0 rfl) ?_
            obtain ⟨r5, hr5, hs⟩ := bd_s hs
            refine kc_i (isC := [0, 2, 3]) (isR := [1]) (pm := [1, 0, 2, 3]) (wr := [(a_r_rows, .inl (c_r_rows, r_len, .inl r_rows))]) (w1 := [(a_r, .inr (6, [.ref a_r_rows, .ref a_r_ins, .int r_size, .int r_n, .int r_parts])), (a_z, .inr (2, [.ref a_r, .ref a_z_rest, .int s53.2.2.1])), (a_z_rest, .inl (c_z_rest, 16, .inl r5.2))]) (w2 := [(a_r, .inr (6, [.ref a_r_rows, .ref a_r_ins, .int r_size, .int r_n, .int r_parts])), (a_r_rows, .inl (c_r_rows, r_len, .inl r_rows)), (a_z, .inr (2, [.ref a_r, .ref a_z_rest, .int s53.2.2.1])), (a_z_rest, .inl (c_z_rest, 16, .inl r5.2))]) (va_runV (As := []) (rest := []) ⟨hx, hb, hml, hown, hts⟩ (c_X2_elementGoes l dC dI a_r a_r_rows a_r_ins a_z a_z_rest c_z_rest H.size r_size r_n r_parts s53.2.2.1 s53.2.2.2 r5 hr5) (cwV 0 hts gX2_whatIsLeft_X2_elementGoes rfl rfl rfl (by decide +kernel) ⟨Nat.le_of_ble_eq_true rfl, Nat.le_of_ble_eq_true rfl⟩) (kp_V hK hP hD hS hA hN (isC := [0, 2, 3]) (isT := [1]) (wc := [(a_r, .inr (6, [.ref a_r_rows, .ref a_r_ins, .int r_size, .int r_n, .int r_parts])), (a_z, .inr (2, [.ref a_r, .ref a_z_rest, .int s53.2.2.1])), (a_z_rest, .inl (c_z_rest, 16, .inl s53.2.2.2))]) rfl (by decide +kernel) rfl (ci := 2) (q0 := 1) rfl rfl) rfl rfl hl.1 rfl (lv_room (Nat.le_of_ble_eq_true rfl)) dX2_whatIsLeft_64 ⟨Nat.le_of_ble_eq_true rfl, Nat.le_of_ble_eq_true rfl⟩) hP hD hS hA rfl rfl (by decide +kernel) (by decide +kernel) rfl (by decide +kernel) (fun H locs hP hD hS => ?_)
            have hJ77 : ∀ (t77 : Int32), pX2_whatIsLeft_J77_6 s53 r5 t77 = some y4 → ∀ (H : Heap) (locs : List Loc) (ls : Array Slot), va_P (dC, dI) vwCl [(a_r, .inr (6, [.ref a_r_rows, .ref a_r_ins, .int r_size, .int r_n, .int r_parts])), (a_r_rows, .inl (c_r_rows, r_len, .inl r_rows)), (a_z, .inr (2, [.ref a_r, .ref a_z_rest, .int t77])), (a_z_rest, .inl (c_z_rest, 16, .inl r5.2))] H → va_D A [(a_r, .inr (6, [.ref a_r_rows, .ref a_r_ins, .int r_size, .int r_n, .int r_parts])), (a_r_rows, .inl (c_r_rows, r_len, .inl r_rows)), (a_z, .inr (2, [.ref a_r, .ref a_z_rest, .int t77])), (a_z_rest, .inl (c_z_rest, 16, .inl r5.2))] → va_S A s.heap H locs → lv_has ls 3 [(0, .ref a_z), (2, .int s53.2.1)] → Z H locs 0 0 (F0 m 77 ls []) := by
              intro t77 hs H locs ls hP hD hS hl
              refine hZv ?_
              unfold pX2_whatIsLeft_J77_6 at hs
              refine lv_iconst (v := 1) hx hb dX2_whatIsLeft_77 (by decide) ?_
              refine lv_goto (tgt := 82) hx hb dX2_whatIsLeft_78 (by decide) ?_
              refine lv_istore_n (lv' := [(1, .int 1), (0, .ref a_z), (2, .int s53.2.1)]) hx hb dX2_whatIsLeft_82 rfl hl (by decide) rfl (fun ls hl => ?_)
              refine lv_iinc (v := s53.2.1 + 1) (lv' := [(2, .int (s53.2.1 + 1)), (1, .int 1), (0, .ref a_z)]) hx hb dX2_whatIsLeft_83 hl (k := 2) rfl (by rfl) (by decide) rfl (fun ls hl => ?_)
              refine lv_goto (tgt := 53) hx hb dX2_whatIsLeft_86 (by decide) ?_
              replace hs := Option.some.inj hs
              subst hs
              exact hZw (ih (1, s53.2.1 + 1, t77, r5.2) H locs ls hn hP hD hS (lv_sub hl [2, 1, 0] rfl))
            refine lv_if_ne (tgt := 77) hx hb dX2_whatIsLeft_67 (by decide) (fun hc => ?_) (fun hc => ?_)
            · replace hs := it_f hc hs
              exact hZw (hJ77 s53.2.2.1 hs H locs ls hP hD hS (lv_sub hl [0, 2] rfl))
            · replace hs := it_t hc hs
              refine lv_aload_n hx hb dX2_whatIsLeft_70 rfl (lv_at hl 0 rfl) ?_
              obtain ⟨r7, hr7, hs⟩ := bd_s hs
              refine kc_i (isC := [0, 2, 3]) (isR := [1]) (pm := [1, 0, 2, 3]) (wr := [(a_r_rows, .inl (c_r_rows, r_len, .inl r_rows))]) (w1 := [(a_r, .inr (6, [.ref a_r_rows, .ref a_r_ins, .int r_size, .int r_n, .int r_parts])), (a_z, .inr (2, [.ref a_r, .ref a_z_rest, .int r7.2])), (a_z_rest, .inl (c_z_rest, 16, .inl r5.2))]) (w2 := [(a_r, .inr (6, [.ref a_r_rows, .ref a_r_ins, .int r_size, .int r_n, .int r_parts])), (a_r_rows, .inl (c_r_rows, r_len, .inl r_rows)), (a_z, .inr (2, [.ref a_r, .ref a_z_rest, .int r7.2])), (a_z_rest, .inl (c_z_rest, 16, .inl r5.2))]) (va_runV (As := []) (rest := []) ⟨hx, hb, hml, hown, hts⟩ (c_X2_setGoes l dC dI a_r a_r_rows a_r_ins a_z a_z_rest c_z_rest H.size r_size r_n r_parts s53.2.2.1 r5.2 r7 hr7) (cwV 0 hts gX2_whatIsLeft_X2_setGoes rfl rfl rfl (by decide +kernel) ⟨Nat.le_of_ble_eq_true rfl, Nat.le_of_ble_eq_true rfl⟩) (kp_V hK hP hD hS hA hN (isC := [0, 2, 3]) (isT := [1]) (wc := [(a_r, .inr (6, [.ref a_r_rows, .ref a_r_ins, .int r_size, .int r_n, .int r_parts])), (a_z, .inr (2, [.ref a_r, .ref a_z_rest, .int s53.2.2.1])), (a_z_rest, .inl (c_z_rest, 16, .inl r5.2))]) rfl (by decide +kernel) rfl (ci := 2) (q0 := 1) rfl rfl) rfl rfl hl.1 rfl (lv_room (Nat.le_of_ble_eq_true rfl)) dX2_whatIsLeft_71 ⟨Nat.le_of_ble_eq_true rfl, Nat.le_of_ble_eq_true rfl⟩) hP hD hS hA rfl rfl (by decide +kernel) (by decide +kernel) rfl (by decide +kernel) (fun H locs hP hD hS => ?_)
              refine lv_if_eq (tgt := 81) hx hb dX2_whatIsLeft_74 (by decide) (fun hc => ?_) (fun hc => ?_)
              · replace hs := it_t hc hs
                refine lv_iconst (v := 0) hx hb dX2_whatIsLeft_81 (by decide) ?_
                refine lv_istore_n (lv' := [(1, .int 0), (0, .ref a_z), (2, .int s53.2.1)]) hx hb dX2_whatIsLeft_82 rfl hl (by decide) rfl (fun ls hl => ?_)
                refine lv_iinc (v := s53.2.1 + 1) (lv' := [(2, .int (s53.2.1 + 1)), (1, .int 0), (0, .ref a_z)]) hx hb dX2_whatIsLeft_83 hl (k := 2) rfl (by rfl) (by decide) rfl (fun ls hl => ?_)
                refine lv_goto (tgt := 53) hx hb dX2_whatIsLeft_86 (by decide) ?_
                replace hs := Option.some.inj hs
                subst hs
                exact hZw (ih (0, s53.2.1 + 1, r7.2, r5.2) H locs ls hn hP hD hS (lv_sub hl [2, 1, 0] rfl))
              · replace hs := it_f hc hs
                exact hZw (hJ77 r7.2 hs H locs ls hP hD hS (lv_sub hl [0, 2] rfl))
    obtain ⟨n53, hn53⟩ := lp_ex he53
    exact hZw (hL53 n53 (1, 0, (1 <<< (r_size &&& 31)) - 1, e2) H locs ls hn53 hP hD hS (lv_sub hl [2, 1, 0] rfl))
  clear hs
  have hL2 : ∀ (n : Nat) (s2 : Int32 × (Nat → Int32)) (H : Heap) (locs : List Loc) (ls : Array Slot), itr (pX2_whatIsLeft_L2 r_len r_size r_rows) n s2 = some e2 → va_P (dC, dI) vwCl [(a_r, .inr (6, [.ref a_r_rows, .ref a_r_ins, .int r_size, .int r_n, .int r_parts])), (a_r_rows, .inl (c_r_rows, r_len, .inl r_rows)), (a_z, .inr (2, [.ref a_r, .ref a_z_rest, .int z_left])), (a_z_rest, .inl (c_z_rest, 16, .inl s2.2))] H → va_D A [(a_r, .inr (6, [.ref a_r_rows, .ref a_r_ins, .int r_size, .int r_n, .int r_parts])), (a_r_rows, .inl (c_r_rows, r_len, .inl r_rows)), (a_z, .inr (2, [.ref a_r, .ref a_z_rest, .int z_left])), (a_z_rest, .inl (c_z_rest, 16, .inl s2.2))] → va_S A s.heap H locs → lv_has ls 3 [(0, .ref a_z), (1, .int s2.1)] → Z H locs 0 0 (F0 m 2 ls []) := by
    intro n
    induction n with
    | zero =>
      intro s2 H locs ls hn
      exact (itr_0 hn).elim
    | succ n ih =>
      intro s2 H locs ls hn hP hD hS hl
      obtain ⟨y1, hs, hn⟩ := itr_s hn
      unfold pX2_whatIsLeft_L2 at hs
      refine hZv ?_
      refine lv_iload_n hx hb dX2_whatIsLeft_2 rfl (lv_at hl 1 rfl) ?_
      refine lv_aload_n hx hb dX2_whatIsLeft_3 rfl (lv_at hl 0 rfl) ?_
      refine va_get (D := (dC, dI)) (ci := 2) (v := .ref a_r) (C := RX2) (T := TX2) (N := 3) hx hb hts hiX2 hown hK hP 2 rfl rfl 0 (by decide) hf9 (fun _ h9 => h9) rfl dX2_whatIsLeft_4 ?_
      refine va_get (D := (dC, dI)) (ci := 6) (v := .int r_size) (C := RX6) (T := TX6) (N := 5) hx hb hts hiX6 hown hK hP 0 rfl rfl 2 (by decide) hf23 (fun _ h9 => h9) rfl dX2_whatIsLeft_7 ?_
      refine lv_icmp_ge (tgt := 34) hx hb dX2_whatIsLeft_10 (by decide) (fun hc => ?_) (fun hc => ?_)
      · replace hs := it_t hc hs
        replace hs := Option.some.inj hs
        subst hs
        obtain rfl : s2.2 = e2 := hn
        exact hZw (hX2 H locs ls hP hD hS (lv_sub hl [0] rfl))
      · replace hs := it_f hc hs
        refine lv_aload_n hx hb dX2_whatIsLeft_13 rfl (lv_at hl 0 rfl) ?_
        refine va_get (D := (dC, dI)) (ci := 2) (v := .ref a_z_rest) (C := RX2) (T := TX2) (N := 3) hx hb hts hiX2 hown hK hP 2 rfl rfl 1 (by decide) hf15 (fun _ h9 => h9) rfl dX2_whatIsLeft_14 ?_
        refine lv_iload_n hx hb dX2_whatIsLeft_17 rfl (lv_at hl 1 rfl) ?_
        refine lv_aload_n hx hb dX2_whatIsLeft_18 rfl (lv_at hl 0 rfl) ?_
        refine va_get (D := (dC, dI)) (ci := 2) (v := .ref a_r) (C := RX2) (T := TX2) (N := 3) hx hb hts hiX2 hown hK hP 2 rfl rfl 0 (by decide) hf9 (fun _ h9 => h9) rfl dX2_whatIsLeft_19 ?_
        refine va_get (D := (dC, dI)) (ci := 6) (v := .ref a_r_rows) (C := RX6) (T := TX6) (N := 5) hx hb hts hiX6 hown hK hP 0 rfl rfl 0 (by decide) hf28 (fun _ h9 => h9) rfl dX2_whatIsLeft_22 ?_
        refine lv_iload_n hx hb dX2_whatIsLeft_25 rfl (lv_at hl 1 rfl) ?_
        obtain ⟨hg2, hs⟩ := gd_s hs
        refine va_iald hx hb hK hP 1 0 rfl rfl hg2 dX2_whatIsLeft_26 ?_
        obtain ⟨hg3, hs⟩ := gd_s hs
        refine va_iast hx hb hK hP hD hS 3 1 rfl rfl hg3 dX2_whatIsLeft_27 (fun H locs hP hD hS => ?_)
        have hP : va_P (dC, dI) vwCl [(a_r, .inr (6, [.ref a_r_rows, .ref a_r_ins, .int r_size, .int r_n, .int r_parts])), (a_r_rows, .inl (c_r_rows, r_len, .inl r_rows)), (a_z, .inr (2, [.ref a_r, .ref a_z_rest, .int z_left])), (a_z_rest, .inl (c_z_rest, 16, .inl (upd s2.2 s2.1.toNatClampNeg (r_rows s2.1.toNatClampNeg))))] H := hP
        have hD : va_D A [(a_r, .inr (6, [.ref a_r_rows, .ref a_r_ins, .int r_size, .int r_n, .int r_parts])), (a_r_rows, .inl (c_r_rows, r_len, .inl r_rows)), (a_z, .inr (2, [.ref a_r, .ref a_z_rest, .int z_left])), (a_z_rest, .inl (c_z_rest, 16, .inl (upd s2.2 s2.1.toNatClampNeg (r_rows s2.1.toNatClampNeg))))] := hD
        refine lv_iinc (v := s2.1 + 1) (lv' := [(1, .int (s2.1 + 1)), (0, .ref a_z)]) hx hb dX2_whatIsLeft_28 hl (k := 1) rfl (by rfl) (by decide) rfl (fun ls hl => ?_)
        refine lv_goto (tgt := 2) hx hb dX2_whatIsLeft_31 (by decide) ?_
        replace hs := Option.some.inj hs
        subst hs
        exact hZw (ih (s2.1 + 1, upd s2.2 s2.1.toNatClampNeg (r_rows s2.1.toNatClampNeg)) H locs ls hn hP hD hS (lv_sub hl [1, 0] rfl))
  obtain ⟨n2, hn2⟩ := lp_ex he2
  exact hZw (hL2 n2 (0, z_rest) H locs ls hn2 hP hD hS (lv_sub hl [1, 0] rfl))
