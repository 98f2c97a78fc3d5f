noncomputable def pX6_clearFor (r_size : Int32) (r_n : Int32) (r_parts : Int32) (r_ins : Nat → Int32) (p1 : Int32) : Option (Int32 × Int32 × Int32 × (Nat → Int32)) :=
  Option.bind (pJ7_fill_53178 1024 r_ins 0) (fun r1 => some (0, p1, 1 <<< (p1 &&& 31), r1))
set_option maxHeartbeats 4000000 in
set_option maxRecDepth 100000 in
theorem c_X6_clearFor (l : Launch) (dC : Nat → ClassId) (dI : Nat → Nat → Nat) (a_r : Nat) (a_r_rows : Nat) (a_r_ins : Nat) (c_r_ins : ClassId) (sz : Nat) (r_size : Int32) (r_n : Int32) (r_parts : Int32) (r_ins : Nat → Int32) (p1 : Int32) (rv : Int32 × Int32 × Int32 × (Nat → Int32)) (hs : pX6_clearFor r_size r_n r_parts r_ins p1 = some rv) : Met l yX6_clearFor wsX6_clearFor ({ frames := 1, cells := 0, slots := 0, locals := 23 }) (sPc [.ref a_r, .int p1] (dC, dI) [(c_r_ins, .int)] [(a_r, .inr (6, [.ref a_r_rows, .ref a_r_ins, .int r_size, .int r_n, .int r_parts])), (a_r_ins, .inl (c_r_ins, 1024, .inl r_ins))] sz) (va_Qv (fun (_ : Unit) => True) (sB (dC, dI) [(c_r_ins, .int)] (va_A [(a_r, .inr (6, [.ref a_r_rows, .ref a_r_ins, .int r_size, .int r_n, .int r_parts])), (a_r_ins, .inl (c_r_ins, 1024, .inl r_ins))] sz) [(a_r, .inr (6, [.ref a_r_rows, .ref a_r_ins, .int rv.1, .int rv.2.1, .int rv.2.2.1])), (a_r_ins, .inl (c_r_ins, 1024, .inl rv.2.2.2))]) (va_A [(a_r, .inr (6, [.ref a_r_rows, .ref a_r_ins, .int r_size, .int r_n, .int r_parts])), (a_r_ins, .inl (c_r_ins, 1024, .inl r_ins))] sz)) 0 0 (va_A [(a_r, .inr (6, [.ref a_r_rows, .ref a_r_ins, .int r_size, .int r_n, .int r_parts])), (a_r_ins, .inl (c_r_ins, 1024, .inl r_ins))] sz) := by
  refine Met.ofW (cc := cX6_clearFor) (maxL := 2) (ret := none) (by decide) rfl ?_
  intro p e s m args below meth c s₁ B hml hv
  obtain ⟨rfl, hsz, hP, hK, hD0, hN⟩ := hv
  have hx := B.exec
  have hb := B.bytes
  have hr := B.returns
  have hts := atoms_spec (ws := wsX6_clearFor) B.pre
  have hown : s.vm.findClass RX6 = some m.cls := findClass_of_methodNamed B.named
  have hlocks := B.notSynchronized
  subst hsz
  have hD := hD0.self (sz := s.heap.size)
  generalize hAe : va_A [(a_r, .inr (6, [.ref a_r_rows, .ref a_r_ins, .int r_size, .int r_n, .int r_parts])), (a_r_ins, .inl (c_r_ins, 1024, .inl r_ins))] s.heap.size = A at hD hN ⊢
  have hA : ∀ q : Nat, s.heap.size ≤ q → A q := fun q h => by rw [← hAe]; exact Or.inr h
  have hS : va_S A s.heap s.heap [] := va_S.rf
  have hP : va_P (dC, dI) vwCl [(a_r, .inr (6, [.ref a_r_rows, .ref a_r_ins, .int r_size, .int r_n, .int r_parts])), (a_r_ins, .inl (c_r_ins, 1024, .inl r_ins))] s.heap := hP
  have hl := lv_entry ([.ref a_r, .int p1]) (n := 2) (Nat.le_of_ble_eq_true rfl)
  rw [lg_entry_eq]
  generalize (lg_sl ([.ref a_r, .int p1]) ++ List.replicate (2 - (lg_sl ([.ref a_r, .int p1])).length) Slot.unset).toArray = ls at hl ⊢
  have hl : lv_has ls 2 [(0, .ref a_r), (1, .int p1)] := hl
  have hiX6 : ∀ w ∈ wsX60, w ∈ wsX6_clearFor := fun _ h => List.mem_cons_of_mem _ (List.mem_append_right _ h)
  have hf18 := hts (.fieldLink RX6 18 "MeetSets$SetRow" "size" "I") (t1_ (al_ h1_))
  have hf22 := hts (.fieldLink RX6 22 "MeetSets$SetRow" "n" "I") (t1_ (al_ (t1_ h1_)))
  have hf25 := hts (.fieldLink RX6 25 "MeetSets$SetRow" "parts" "I") (t1_ (al_ (t1_ (t1_ h1_))))
  have hf15 := hts (.fieldLink RX6 15 "MeetSets$SetRow" "inside" "[I") (t1_ (al_ (t1_ (t1_ (t1_ h1_)))))
  refine w_abs (fun Z hZv hZw => ?_)
  refine hZv ?_
  obtain ⟨H, hH⟩ : ∃ H, H = s.heap := ⟨_, rfl⟩
  obtain ⟨locs, hlo⟩ : ∃ L : List Loc, L = [] := ⟨_, rfl⟩
  rw [← hlo, ← hH]
  have hS : va_S A s.heap H locs := by rw [hlo, hH]; exact hS
  have hP : va_P (dC, dI) vwCl [(a_r, .inr (6, [.ref a_r_rows, .ref a_r_ins, .int r_size, .int r_n, .int r_parts])), (a_r_ins, .inl (c_r_ins, 1024, .inl r_ins))] H := by rw [hH]; exact hP
  clear hH hlo
  unfold pX6_clearFor at hs
  refine lv_aload_n hx hb dX6_clearFor_0 rfl (lv_at hl 0 rfl) ?_
  refine lv_iconst (v := 0) hx hb dX6_clearFor_1 (by decide) ?_
  refine va_put (D := (dC, dI)) (ci := 6) (v := .int 0) (ty := .int) (C := RX6) (T := TX6) (N := 5) hx hb hts hiX6 tyX6 tyX6_ok nmX6 hown hK hP hD hS 0 rfl rfl 2 (by decide) hf18 (fun _ h9 => h9) rfl (by decide +kernel) rfl rfl (Nat.le_of_ble_eq_true rfl) dX6_clearFor_2 (fun H locs hP hD hS => ?_)
  have hP : va_P (dC, dI) vwCl [(a_r, .inr (6, [.ref a_r_rows, .ref a_r_ins, .int 0, .int r_n, .int r_parts])), (a_r_ins, .inl (c_r_ins, 1024, .inl r_ins))] H := hP
  have hD : va_D A [(a_r, .inr (6, [.ref a_r_rows, .ref a_r_ins, .int 0, .int r_n, .int r_parts])), (a_r_ins, .inl (c_r_ins, 1024, .inl r_ins))] := hD
  refine lv_aload_n hx hb dX6_clearFor_5 rfl (lv_at hl 0 rfl) ?_
  refine lv_iload_n hx hb dX6_clearFor_6 rfl (lv_at hl 1 rfl) ?_
  refine va_put (D := (dC, dI)) (ci := 6) (v := .int p1) (ty := .int) (C := RX6) (T := TX6) (N := 5) hx hb hts hiX6 tyX6 tyX6_ok nmX6 hown hK hP hD hS 0 rfl rfl 3 (by decide) hf22 (fun _ h9 => h9) rfl (by decide +kernel) rfl rfl (Nat.le_of_ble_eq_true rfl) dX6_clearFor_7 (fun H locs hP hD hS => ?_)
  have hP : va_P (dC, dI) vwCl [(a_r, .inr (6, [.ref a_r_rows, .ref a_r_ins, .int 0, .int p1, .int r_parts])), (a_r_ins, .inl (c_r_ins, 1024, .inl r_ins))] H := hP
  have hD : va_D A [(a_r, .inr (6, [.ref a_r_rows, .ref a_r_ins, .int 0, .int p1, .int r_parts])), (a_r_ins, .inl (c_r_ins, 1024, .inl r_ins))] := hD
  refine lv_aload_n hx hb dX6_clearFor_10 rfl (lv_at hl 0 rfl) ?_
  refine lv_iconst (v := 1) hx hb dX6_clearFor_11 (by decide) ?_
  refine lv_iload_n hx hb dX6_clearFor_12 rfl (lv_at hl 1 rfl) ?_
  refine lv_ishl hx hb dX6_clearFor_13 ?_
  refine va_put (D := (dC, dI)) (ci := 6) (v := .int (1 <<< (p1 &&& 31))) (ty := .int) (C := RX6) (T := TX6) (N := 5) hx hb hts hiX6 tyX6 tyX6_ok nmX6 hown hK hP hD hS 0 rfl rfl 4 (by decide) hf25 (fun _ h9 => h9) rfl (by decide +kernel) rfl rfl (Nat.le_of_ble_eq_true rfl) dX6_clearFor_14 (fun H locs hP hD hS => ?_)
  have hP : va_P (dC, dI) vwCl [(a_r, .inr (6, [.ref a_r_rows, .ref a_r_ins, .int 0, .int p1, .int (1 <<< (p1 &&& 31))])), (a_r_ins, .inl (c_r_ins, 1024, .inl r_ins))] H := hP
  have hD : va_D A [(a_r, .inr (6, [.ref a_r_rows, .ref a_r_ins, .int 0, .int p1, .int (1 <<< (p1 &&& 31))])), (a_r_ins, .inl (c_r_ins, 1024, .inl r_ins))] := hD
  refine lv_aload_n hx hb dX6_clearFor_17 rfl (lv_at hl 0 rfl) ?_
  refine va_get (D := (dC, dI)) (ci := 6) (v := .ref a_r_ins) (C := RX6) (T := TX6) (N := 5) hx hb hts hiX6 hown hK hP 0 rfl rfl 1 (by decide) hf15 (fun _ h9 => h9) rfl dX6_clearFor_18 ?_
  refine lv_iconst (v := 0) hx hb dX6_clearFor_21 (by decide) ?_
  obtain ⟨r1, hr1, hs⟩ := bd_s hs
  refine kc_v (isC := [1]) (isR := [0]) (pm := [0, 1]) (wr := [(a_r, .inr (6, [.ref a_r_rows, .ref a_r_ins, .int 0, .int p1, .int (1 <<< (p1 &&& 31))]))]) (w1 := [(a_r_ins, .inl (c_r_ins, 1024, .inl r1))]) (w2 := [(a_r, .inr (6, [.ref a_r_rows, .ref a_r_ins, .int 0, .int p1, .int (1 <<< (p1 &&& 31))])), (a_r_ins, .inl (c_r_ins, 1024, .inl r1))]) (va_runS (As := [.ref a_r_ins, .int 0]) (rest := []) ⟨hx, hb, hml, hown, hts⟩ (c_J7_fill_53178 l dC dI a_r_ins c_r_ins 1024 H.size r_ins 0 r1 hr1) (va_cwS 2 hts gX6_clearFor_J7_fill_53178 rfl rfl rfl (by decide +kernel) ⟨Nat.le_of_ble_eq_true rfl, Nat.le_of_ble_eq_true rfl⟩) (kp_S hK hP hD hS hA hN (isC := [1]) (isT := [0]) (wc := [(a_r_ins, .inl (c_r_ins, 1024, .inl r_ins))]) rfl (by decide +kernel) rfl) rfl rfl hl.1 rfl (lv_room (Nat.le_of_ble_eq_true rfl)) dX6_clearFor_22 ⟨Nat.le_of_ble_eq_true rfl, Nat.le_of_ble_eq_true rfl⟩) hP hD hS hA rfl rfl (by decide +kernel) (by decide +kernel) rfl (by decide +kernel) (fun H locs hP hD hS => ?_)
  replace hs := Option.some.inj hs
  subst hs
  exact W.vret hx hb hr (fun t ht hW => ⟨⟨(), rfl, trivial, by rw [ht]; exact hP, va_K.moved hW.alike hK, hD⟩, hS.F ht⟩) hS.2.2 dX6_clearFor_25
noncomputable def pX6_isPart (r_parts : Int32) (p1 : Int32) : Option (Int32) :=
  if p1 < 0 then (some 0) else (if r_parts ≤ p1 then (some 0) else (some 1))
set_option maxHeartbeats 4000000 in
set_option maxRecDepth 100000 in
theorem c_X6_isPart (l : Launch) (dC : Nat → ClassId) (dI : Nat → Nat → Nat) (a_r : Nat) (a_r_rows : Nat) (a_r_ins : Nat) (sz : Nat) (r_size : Int32) (r_n : Int32) (r_parts : Int32) (p1 : Int32) (rv : Int32) (hs : pX6_isPart r_parts p1 = some rv) : Met l yX6_isPart wsX6_isPart ({ frames := 0, cells := 0, slots := 0, locals := 0 }) (sPc [.ref a_r, .int p1] (dC, dI) [] [(a_r, .inr (6, [.ref a_r_rows, .ref a_r_ins, .int r_size, .int r_n, .int r_parts]))] sz) (va_Qi (fun (r : Int32) (_ : Unit) => r = rv) (sB (dC, dI) [] (va_A [(a_r, .inr (6, [.ref a_r_rows, .ref a_r_ins, .int r_size, .int r_n, .int r_parts]))] sz) [(a_r, .inr (6, [.ref a_r_rows, .ref a_r_ins, .int r_size, .int r_n, .int r_parts]))]) (va_A [(a_r, .inr (6, [.ref a_r_rows, .ref a_r_ins, .int r_size, .int r_n, .int r_parts]))] sz)) 0 0 (va_A [(a_r, .inr (6, [.ref a_r_rows, .ref a_r_ins, .int r_size, .int r_n, .int r_parts]))] sz) := by
  refine Met.ofW (cc := cX6_isPart) (maxL := 2) (ret := (some .boolean)) (by decide) rfl ?_
  intro p e s m args below meth c s₁ B hml hv
  obtain ⟨rfl, hsz, hP, hK, hD0, hN⟩ := hv
  have hx := B.exec
  have hb := B.bytes
  have hr := B.returns
  have hts := atoms_spec (ws := wsX6_isPart) B.pre
  have hown : s.vm.findClass RX6 = some m.cls := findClass_of_methodNamed B.named
  have hlocks := B.notSynchronized
  subst hsz
  have hD := hD0.self (sz := s.heap.size)
  generalize hAe : va_A [(a_r, .inr (6, [.ref a_r_rows, .ref a_r_ins, .int r_size, .int r_n, .int r_parts]))] s.heap.size = A at hD hN ⊢
  have hA : ∀ q : Nat, s.heap.size ≤ q → A q := fun q h => by rw [← hAe]; exact Or.inr h
  have hS : va_S A s.heap s.heap [] := va_S.rf
  have hP : va_P (dC, dI) vwCl [(a_r, .inr (6, [.ref a_r_rows, .ref a_r_ins, .int r_size, .int r_n, .int r_parts]))] s.heap := hP
  have hl := lv_entry ([.ref a_r, .int p1]) (n := 2) (Nat.le_of_ble_eq_true rfl)
  rw [lg_entry_eq]
  generalize (lg_sl ([.ref a_r, .int p1]) ++ List.replicate (2 - (lg_sl ([.ref a_r, .int p1])).length) Slot.unset).toArray = ls at hl ⊢
  have hl : lv_has ls 2 [(0, .ref a_r), (1, .int p1)] := hl
  have hiX6 : ∀ w ∈ wsX60, w ∈ wsX6_isPart := fun _ h => List.mem_cons_of_mem _ (List.mem_append_right _ h)
  have hf25 := hts (.fieldLink RX6 25 "MeetSets$SetRow" "parts" "I") (t1_ (al_ h1_))
  refine w_abs (fun Z hZv hZw => ?_)
  refine hZv ?_
  obtain ⟨H, hH⟩ : ∃ H, H = s.heap := ⟨_, rfl⟩
  obtain ⟨locs, hlo⟩ : ∃ L : List Loc, L = [] := ⟨_, rfl⟩
  rw [← hlo, ← hH]
  have hS : va_S A s.heap H locs := by rw [hlo, hH]; exact hS
  have hP : va_P (dC, dI) vwCl [(a_r, .inr (6, [.ref a_r_rows, .ref a_r_ins, .int r_size, .int r_n, .int r_parts]))] H := by rw [hH]; exact hP
  clear hH hlo
  unfold pX6_isPart at hs
  refine lv_iload_n hx hb dX6_isPart_0 rfl (lv_at hl 1 rfl) ?_
  refine lv_if_lt (tgt := 16) hx hb dX6_isPart_1 (by decide) (fun hc => ?_) (fun hc => ?_)
  · replace hs := it_t hc hs
    refine lv_iconst (v := 0) hx hb dX6_isPart_16 (by decide) ?_
    replace hs := Option.some.inj hs
    subst hs
    exact W.zret (v := 0) (ty := .boolean) hx hb hr rfl (fun t ht hW => ⟨⟨0, (), rfl, rfl, by rw [ht]; exact hP, va_K.moved hW.alike hK, hD⟩, hS.F ht⟩) hS.2.2 dX6_isPart_17
  · replace hs := it_f hc hs
    refine lv_iload_n hx hb dX6_isPart_4 rfl (lv_at hl 1 rfl) ?_
    refine lv_aload_n hx hb dX6_isPart_5 rfl (lv_at hl 0 rfl) ?_
    refine va_get (D := (dC, dI)) (ci := 6) (v := .int r_parts) (C := RX6) (T := TX6) (N := 5) hx hb hts hiX6 hown hK hP 0 rfl rfl 4 (by decide) hf25 (fun _ h9 => h9) rfl dX6_isPart_6 ?_
    refine lv_icmp_ge (tgt := 16) hx hb dX6_isPart_9 (by decide) (fun hc => ?_) (fun hc => ?_)
    · replace hs := it_t hc hs
      refine lv_iconst (v := 0) hx hb dX6_isPart_16 (by decide) ?_
      replace hs := Option.some.inj hs
      subst hs
      exact W.zret (v := 0) (ty := .boolean) hx hb hr rfl (fun t ht hW => ⟨⟨0, (), rfl, rfl, by rw [ht]; exact hP, va_K.moved hW.alike hK, hD⟩, hS.F ht⟩) hS.2.2 dX6_isPart_17
    · replace hs := it_f hc hs
      refine lv_iconst (v := 1) hx hb dX6_isPart_12 (by decide) ?_
      refine lv_goto (tgt := 17) hx hb dX6_isPart_13 (by decide) ?_
      replace hs := Option.some.inj hs
      subst hs
      exact W.zret (v := 1) (ty := .boolean) hx hb hr rfl (fun t ht hW => ⟨⟨1, (), rfl, rfl, by rw [ht]; exact hP, va_K.moved hW.alike hK, hD⟩, hS.F ht⟩) hS.2.2 dX6_isPart_17
noncomputable def pX6_isFull (r_len : Nat) (r_size : Int32) : Option (Int32) :=
  if r_size < (Int32.ofNat r_len) then (some 0) else (some 1)
set_option maxHeartbeats 4000000 in
set_option maxRecDepth 100000 in
theorem c_X6_isFull (l : Launch) (dC : Nat → ClassId) (dI : Nat → Nat → Nat) (a_r : Nat) (a_r_rows : Nat) (a_r_ins : Nat) (c_r_rows : ClassId) (r_len : Nat) (sz : Nat) (r_size : Int32) (r_n : Int32) (r_parts : Int32) (r_rows : Nat → Int32) (rv : Int32) (hs : pX6_isFull r_len r_size = some rv) : Met l yX6_isFull wsX6_isFull ({ frames := 0, cells := 0, slots := 0, locals := 0 }) (sPc [.ref a_r] (dC, dI) [(c_r_rows, .int)] [(a_r, .inr (6, [.ref a_r_rows, .ref a_r_ins, .int r_size, .int r_n, .int r_parts])), (a_r_rows, .inl (c_r_rows, r_len, .inl r_rows))] sz) (va_Qi (fun (r : Int32) (_ : Unit) => r = rv) (sB (dC, dI) [(c_r_rows, .int)] (va_A [(a_r, .inr (6, [.ref a_r_rows, .ref a_r_ins, .int r_size, .int r_n, .int r_parts])), (a_r_rows, .inl (c_r_rows, r_len, .inl r_rows))] sz) [(a_r, .inr (6, [.ref a_r_rows, .ref a_r_ins, .int r_size, .int r_n, .int r_parts])), (a_r_rows, .inl (c_r_rows, r_len, .inl r_rows))]) (va_A [(a_r, .inr (6, [.ref a_r_rows, .ref a_r_ins, .int r_size, .int r_n, .int r_parts])), (a_r_rows, .inl (c_r_rows, r_len, .inl r_rows))] sz)) 0 0 (va_A [(a_r, .inr (6, [.ref a_r_rows, .ref a_r_ins, .int r_size, .int r_n, .int r_parts])), (a_r_rows, .inl (c_r_rows, r_len, .inl r_rows))] sz) := by
  refine Met.ofW (cc := cX6_isFull) (maxL := 1) (ret := (some .boolean)) (by decide) rfl ?_
  intro p e s m args below meth c s₁ B hml hv
  obtain ⟨rfl, hsz, hP, hK, hD0, hN⟩ := hv
  have hx := B.exec
  have hb := B.bytes
  have hr := B.returns
  have hts := atoms_spec (ws := wsX6_isFull) B.pre
  have hown : s.vm.findClass RX6 = some m.cls := findClass_of_methodNamed B.named
  have hlocks := B.notSynchronized
  subst hsz
  have hD := hD0.self (sz := s.heap.size)
  generalize hAe : va_A [(a_r, .inr (6, [.ref a_r_rows, .ref a_r_ins, .int r_size, .int r_n, .int r_parts])), (a_r_rows, .inl (c_r_rows, r_len, .inl r_rows))] s.heap.size = A at hD hN ⊢
  have hA : ∀ q : Nat, s.heap.size ≤ q → A q := fun q h => by rw [← hAe]; exact Or.inr h
  have hS : va_S A s.heap s.heap [] := va_S.rf
  have hP : va_P (dC, dI) vwCl [(a_r, .inr (6, [.ref a_r_rows, .ref a_r_ins, .int r_size, .int r_n, .int r_parts])), (a_r_rows, .inl (c_r_rows, r_len, .inl r_rows))] s.heap := hP
  have hl := lv_entry ([.ref a_r]) (n := 1) (Nat.le_of_ble_eq_true rfl)
  rw [lg_entry_eq]
  generalize (lg_sl ([.ref a_r]) ++ List.replicate (1 - (lg_sl ([.ref a_r])).length) Slot.unset).toArray = ls at hl ⊢
  have hl : lv_has ls 1 [(0, .ref a_r)] := hl
  have hiX6 : ∀ w ∈ wsX60, w ∈ wsX6_isFull := fun _ h => List.mem_cons_of_mem _ (List.mem_append_right _ h)
  have hf18 := hts (.fieldLink RX6 18 "MeetSets$SetRow" "size" "I") (t1_ (al_ h1_))
  have hf9 := hts (.fieldLink RX6 9 "MeetSets$SetRow" "rows" "[I") (t1_ (al_ (t1_ h1_)))
  refine w_abs (fun Z hZv hZw => ?_)
  refine hZv ?_
  obtain ⟨H, hH⟩ : ∃ H, H = s.heap := ⟨_, rfl⟩
  obtain ⟨locs, hlo⟩ : ∃ L : List Loc, L = [] := ⟨_, rfl⟩
  rw [← hlo, ← hH]
  have hS : va_S A s.heap H locs := by rw [hlo, hH]; exact hS
  have hP : va_P (dC, dI) vwCl [(a_r, .inr (6, [.ref a_r_rows, .ref a_r_ins, .int r_size, .int r_n, .int r_parts])), (a_r_rows, .inl (c_r_rows, r_len, .inl r_rows))] H := by rw [hH]; exact hP
  clear hH hlo
  unfold pX6_isFull at hs
  refine lv_aload_n hx hb dX6_isFull_0 rfl (lv_at hl 0 rfl) ?_
  refine va_get (D := (dC, dI)) (ci := 6) (v := .int r_size) (C := RX6) (T := TX6) (N := 5) hx hb hts hiX6 hown hK hP 0 rfl rfl 2 (by decide) hf18 (fun _ h9 => h9) rfl dX6_isFull_1 ?_
  refine lv_aload_n hx hb dX6_isFull_4 rfl (lv_at hl 0 rfl) ?_
  refine va_get (D := (dC, dI)) (ci := 6) (v := .ref a_r_rows) (C := RX6) (T := TX6) (N := 5) hx hb hts hiX6 hown hK hP 0 rfl rfl 0 (by decide) hf9 (fun _ h9 => h9) rfl dX6_isFull_5 ?_
  refine va_alen (v := Int32.ofNat r_len) hx hb hK hP 1 0 rfl rfl rfl dX6_isFull_8 ?_
  refine lv_icmp_lt (tgt := 16) hx hb dX6_isFull_9 (by decide) (fun hc => ?_) (fun hc => ?_)
  · replace hs := it_t hc hs
    refine lv_iconst (v := 0) hx hb dX6_isFull_16 (by decide) ?_
    replace hs := Option.some.inj hs
    subst hs
    exact W.zret (v := 0) (ty := .boolean) hx hb hr rfl (fun t ht hW => ⟨⟨0, (), rfl, rfl, by rw [ht]; exact hP, va_K.moved hW.alike hK, hD⟩, hS.F ht⟩) hS.2.2 dX6_isFull_17
  · replace hs := it_f hc hs
    refine lv_iconst (v := 1) hx hb dX6_isFull_12 (by decide) ?_
    refine lv_goto (tgt := 17) hx hb dX6_isFull_13 (by decide) ?_
    replace hs := Option.some.inj hs
    subst hs
    exact W.zret (v := 1) (ty := .boolean) hx hb hr rfl (fun t ht hW => ⟨⟨1, (), rfl, rfl, by rw [ht]; exact hP, va_K.moved hW.alike hK, hD⟩, hS.F ht⟩) hS.2.2 dX6_isFull_17
noncomputable def pX6_holds_L2 (r_len : Nat) (r_size : Int32) (r_rows : Nat → Int32) (p1 : Int32) (s2 : Int32) : Option ((Int32) ⊕ ((Unit) ⊕ (Unit))) :=
  if r_size ≤ s2 then (some (Sum.inr (Sum.inr ()))) else (gd (vp_in s2 r_len) (if (r_rows s2.toNatClampNeg) = p1 then (some (Sum.inr (Sum.inl ()))) else (some (Sum.inl (s2 + 1)))))
noncomputable def pX6_holds (r_len : Nat) (r_size : Int32) (r_rows : Nat → Int32) (p1 : Int32) : Option (Int32) :=
  Option.bind (lp (pX6_holds_L2 r_len r_size r_rows p1) 0) (Sum.elim (fun e2_0 => some 1) (fun e2_1 => some 0))
set_option maxHeartbeats 4000000 in
set_option maxRecDepth 100000 in
theorem c_X6_holds (l : Launch) (dC : Nat → ClassId) (dI : Nat → Nat → Nat) (a_r : Nat) (a_r_rows : Nat) (a_r_ins : Nat) (c_r_rows : ClassId) (r_len : Nat) (sz : Nat) (r_size : Int32) (r_n : Int32) (r_parts : Int32) (r_rows : Nat → Int32) (p1 : Int32) (rv : Int32) (hs : pX6_holds r_len r_size r_rows p1 = some rv) : Met l yX6_holds wsX6_holds ({ frames := 0, cells := 0, slots := 0, locals := 0 }) (sPc [.ref a_r, .int p1] (dC, dI) [(c_r_rows, .int)] [(a_r, .inr (6, [.ref a_r_rows, .ref a_r_ins, .int r_size, .int r_n, .int r_parts])), (a_r_rows, .inl (c_r_rows, r_len, .inl r_rows))] sz) (va_Qi (fun (r : Int32) (_ : Unit) => r = rv) (sB (dC, dI) [(c_r_rows, .int)] (va_A [(a_r, .inr (6, [.ref a_r_rows, .ref a_r_ins, .int r_size, .int r_n, .int r_parts])), (a_r_rows, .inl (c_r_rows, r_len, .inl r_rows))] sz) [(a_r, .inr (6, [.ref a_r_rows, .ref a_r_ins, .int r_size, .int r_n, .int r_parts])), (a_r_rows, .inl (c_r_rows, r_len, .inl r_rows))]) (va_A [(a_r, .inr (6, [.ref a_r_rows, .ref a_r_ins, .int r_size, .int r_n, .int r_parts])), (a_r_rows, .inl (c_r_rows, r_len, .inl r_rows))] sz)) 0 0 (va_A [(a_r, .inr (6, [.ref a_r_rows, .ref a_r_ins, .int r_size, .int r_n, .int r_parts])), (a_r_rows, .inl (c_r_rows, r_len, .inl r_rows))] sz) := by
  refine Met.ofW (cc := cX6_holds) (maxL := 3) (ret := (some .boolean)) (by decide) rfl ?_
  intro p e s m args below meth c s₁ B hml hv
  obtain ⟨rfl, hsz, hP, hK, hD0, hN⟩ := hv
  have hx := B.exec
  have hb := B.bytes
  have hr := B.returns
  have hts := atoms_spec (ws := wsX6_holds) B.pre
  have hown : s.vm.findClass RX6 = some m.cls := findClass_of_methodNamed B.named
  have hlocks := B.notSynchronized
  subst hsz
  have hD := hD0.self (sz := s.heap.size)
  generalize hAe : va_A [(a_r, .inr (6, [.ref a_r_rows, .ref a_r_ins, .int r_size, .int r_n, .int r_parts])), (a_r_rows, .inl (c_r_rows, r_len, .inl r_rows))] s.heap.size = A at hD hN ⊢
  have hA : ∀ q : Nat, s.heap.size ≤ q → A q := fun q h => by rw [← hAe]; exact Or.inr h
  have hS : va_S A s.heap s.heap [] := va_S.rf
  have hP : va_P (dC, dI) vwCl [(a_r, .inr (6, [.ref a_r_rows, .ref a_r_ins, .int r_size, .int r_n, .int r_parts])), (a_r_rows, .inl (c_r_rows, r_len, .inl r_rows))] s.heap := hP
  have hl := lv_entry ([.ref a_r, .int p1]) (n := 3) (Nat.le_of_ble_eq_true rfl)
  rw [lg_entry_eq]
  generalize (lg_sl ([.ref a_r, .int p1]) ++ List.replicate (3 - (lg_sl ([.ref a_r, .int p1])).length) Slot.unset).toArray = ls at hl ⊢
  have hl : lv_has ls 3 [(0, .ref a_r), (1, .int p1)] := hl
  have hiX6 : ∀ w ∈ wsX60, w ∈ wsX6_holds := fun _ h => List.mem_cons_of_mem _ (List.mem_append_right _ h)
  have hf18 := hts (.fieldLink RX6 18 "MeetSets$SetRow" "size" "I") (t1_ (al_ h1_))
  have hf9 := hts (.fieldLink RX6 9 "MeetSets$SetRow" "rows" "[I") (t1_ (al_ (t1_ h1_)))
  refine w_abs (fun Z hZv hZw => ?_)
  refine hZv ?_
  obtain ⟨H, hH⟩ : ∃ H, H = s.heap := ⟨_, rfl⟩
  obtain ⟨locs, hlo⟩ : ∃ L : List Loc, L = [] := ⟨_, rfl⟩
  rw [← hlo, ← hH]
  have hS : va_S A s.heap H locs := by rw [hlo, hH]; exact hS
  have hP : va_P (dC, dI) vwCl [(a_r, .inr (6, [.ref a_r_rows, .ref a_r_ins, .int r_size, .int r_n, .int r_parts])), (a_r_rows, .inl (c_r_rows, r_len, .inl r_rows))] H := by rw [hH]; exact hP
  clear hH hlo
  unfold pX6_holds at hs
  refine lv_iconst (v := 0) hx hb dX6_holds_0 (by decide) ?_
  refine lv_istore_n (lv' := [(2, .int 0), (0, .ref a_r), (1, .int p1)]) hx hb dX6_holds_1 rfl hl (by decide) rfl (fun ls hl => ?_)
  obtain ⟨e2, he2, hs⟩ := bd_s hs
  have hX2_0 : ∀ (e2_0 : Unit), (Sum.inl e2_0) = e2 → ∀ (H : Heap) (locs : List Loc) (ls : Array Slot), va_P (dC, dI) vwCl [(a_r, .inr (6, [.ref a_r_rows, .ref a_r_ins, .int r_size, .int r_n, .int r_parts])), (a_r_rows, .inl (c_r_rows, r_len, .inl r_rows))] H → va_D A [(a_r, .inr (6, [.ref a_r_rows, .ref a_r_ins, .int r_size, .int r_n, .int r_parts])), (a_r_rows, .inl (c_r_rows, r_len, .inl r_rows))] → va_S A s.heap H locs → lv_has ls 3 [] → Z H locs 0 0 (F0 m 20 ls []) := by
    intro e2_0 he H locs ls hP hD hS hl
    subst he
    replace hs := sm_l hs
    refine hZv ?_
    refine lv_iconst (v := 1) hx hb dX6_holds_20 (by decide) ?_
    replace hs := Option.some.inj hs
    subst hs
    exact W.zret (v := 1) (ty := .boolean) hx hb hr rfl (fun t ht hW => ⟨⟨1, (), rfl, rfl, by rw [ht]; exact hP, va_K.moved hW.alike hK, hD⟩, hS.F ht⟩) hS.2.2 dX6_holds_21
  have hX2_1 : ∀ (e2_1 : Unit), (Sum.inr e2_1) = e2 → ∀ (H : Heap) (locs : List Loc) (ls : Array Slot), va_P (dC, dI) vwCl [(a_r, .inr (6, [.ref a_r_rows, .ref a_r_ins, .int r_size, .int r_n, .int r_parts])), (a_r_rows, .inl (c_r_rows, r_len, .inl r_rows))] H → va_D A [(a_r, .inr (6, [.ref a_r_rows, .ref a_r_ins, .int r_size, .int r_n, .int r_parts])), (a_r_rows, .inl (c_r_rows, r_len, .inl r_rows))] → va_S A s.heap H locs → lv_has ls 3 [] → Z H locs 0 0 (F0 m 28 ls []) := by
    intro e2_1 he H locs ls hP hD hS hl
    subst he
    replace hs := sm_r hs
    refine hZv ?_
    refine lv_iconst (v := 0) hx hb dX6_holds_28 (by decide) ?_
    replace hs := Option.some.inj hs
    subst hs
    exact W.zret (v := 0) (ty := .boolean) hx hb hr rfl (fun t ht hW => ⟨⟨0, (), rfl, rfl, by rw [ht]; exact hP, va_K.moved hW.alike hK, hD⟩, hS.F ht⟩) hS.2.2 dX6_holds_29
  clear hs
  have hL2 : ∀ (n : Nat) (s2 : Int32) (H : Heap) (locs : List Loc) (ls : Array Slot), itr (pX6_holds_L2 r_len r_size r_rows p1) n s2 = some e2 → va_P (dC, dI) vwCl [(a_r, .inr (6, [.ref a_r_rows, .ref a_r_ins, .int r_size, .int r_n, .int r_parts])), (a_r_rows, .inl (c_r_rows, r_len, .inl r_rows))] H → va_D A [(a_r, .inr (6, [.ref a_r_rows, .ref a_r_ins, .int r_size, .int r_n, .int r_parts])), (a_r_rows, .inl (c_r_rows, r_len, .inl r_rows))] → va_S A s.heap H locs → lv_has ls 3 [(0, .ref a_r), (1, .int p1), (2, .int s2)] → Z H locs 0 0 (F0 m 2 ls []) := by
    intro n
    induction n with
    | zero =>
      intro s2 H locs ls hn
      exact (itr_0 hn).elim
    | succ n ih =>
      intro s2 H locs ls hn hP hD hS hl
      obtain ⟨y1, hs, hn⟩ := itr_s hn
      unfold pX6_holds_L2 at hs
      refine hZv ?_
      refine lv_iload_n hx hb dX6_holds_2 rfl (lv_at hl 2 rfl) ?_
      refine lv_aload_n hx hb dX6_holds_3 rfl (lv_at hl 0 rfl) ?_
      refine va_get (D := (dC, dI)) (ci := 6) (v := .int r_size) (C := RX6) (T := TX6) (N := 5) hx hb hts hiX6 hown hK hP 0 rfl rfl 2 (by decide) hf18 (fun _ h9 => h9) rfl dX6_holds_4 ?_
      refine lv_icmp_ge (tgt := 28) hx hb dX6_holds_7 (by decide) (fun hc => ?_) (fun hc => ?_)
      · replace hs := it_t hc hs
        replace hs := Option.some.inj hs
        subst hs
        obtain rfl : (Sum.inr ()) = e2 := hn
        exact hZw (hX2_1 () rfl H locs ls hP hD hS (lv_sub hl [] rfl))
      · replace hs := it_f hc hs
        refine lv_aload_n hx hb dX6_holds_10 rfl (lv_at hl 0 rfl) ?_
        refine va_get (D := (dC, dI)) (ci := 6) (v := .ref a_r_rows) (C := RX6) (T := TX6) (N := 5) hx hb hts hiX6 hown hK hP 0 rfl rfl 0 (by decide) hf9 (fun _ h9 => h9) rfl dX6_holds_11 ?_
        refine lv_iload_n hx hb dX6_holds_14 rfl (lv_at hl 2 rfl) ?_
        obtain ⟨hg2, hs⟩ := gd_s hs
        refine va_iald hx hb hK hP 1 0 rfl rfl hg2 dX6_holds_15 ?_
        refine lv_iload_n hx hb dX6_holds_16 rfl (lv_at hl 1 rfl) ?_
        refine lv_icmp_ne (tgt := 22) hx hb dX6_holds_17 (by decide) (fun hc => ?_) (fun hc => ?_)
        · replace hs := it_f hc hs
          refine lv_iinc (v := s2 + 1) (lv' := [(2, .int (s2 + 1)), (0, .ref a_r), (1, .int p1)]) hx hb dX6_holds_22 hl (k := 2) rfl (by rfl) (by decide) rfl (fun ls hl => ?_)
          refine lv_goto (tgt := 2) hx hb dX6_holds_25 (by decide) ?_
          replace hs := Option.some.inj hs
          subst hs
          exact hZw (ih (s2 + 1) H locs ls hn hP hD hS (lv_sub hl [1, 2, 0] rfl))
        · replace hs := it_t hc hs
          replace hs := Option.some.inj hs
          subst hs
          obtain rfl : (Sum.inl ()) = e2 := hn
          exact hZw (hX2_0 () rfl H locs ls hP hD hS (lv_sub hl [] rfl))
  obtain ⟨n2, hn2⟩ := lp_ex he2
  exact hZw (hL2 n2 0 H locs ls hn2 hP hD hS (lv_sub hl [1, 2, 0] rfl))
noncomputable def pX6_tally_L2 (r_parts : Int32) (p1 : Int32) (p2 : Int32) (s2 : Int32 × (Nat → Int32)) : Option ((Int32 × (Nat → Int32)) ⊕ (Nat → Int32)) :=
  if r_parts ≤ s2.1 then (some (Sum.inr s2.2)) else (gd (vp_in s2.1 1024) (gd (vp_in s2.1 1024) (some (Sum.inl ((s2.1 + 1) ||| p1, upd s2.2 s2.1.toNatClampNeg ((s2.2 s2.1.toNatClampNeg) + p2))))))
noncomputable def pX6_tally (r_parts : Int32) (r_ins : Nat → Int32) (p1 : Int32) (p2 : Int32) : Option (Nat → Int32) :=
  Option.bind (lp (pX6_tally_L2 r_parts p1 p2) (p1, r_ins)) (fun e2 => some e2)
set_option maxHeartbeats 4000000 in
set_option maxRecDepth 100000 in
theorem c_X6_tally (l : Launch) (dC : Nat → ClassId) (dI : Nat → Nat → Nat) (a_r : Nat) (a_r_rows : Nat) (a_r_ins : Nat) (c_r_ins : ClassId) (sz : Nat) (r_size : Int32) (r_n : Int32) (r_parts : Int32) (r_ins : Nat → Int32) (p1 : Int32) (p2 : Int32) (rv : Nat → Int32) (hs : pX6_tally r_parts r_ins p1 p2 = some rv) : Met l yX6_tally wsX6_tally ({ frames := 0, cells := 0, slots := 0, locals := 0 }) (sPc [.ref a_r, .int p1, .int p2] (dC, dI) [(c_r_ins, .int)] [(a_r, .inr (6, [.ref a_r_rows, .ref a_r_ins, .int r_size, .int r_n, .int r_parts])), (a_r_ins, .inl (c_r_ins, 1024, .inl r_ins))] sz) (va_Qv (fun (_ : Unit) => True) (sB (dC, dI) [(c_r_ins, .int)] (va_A [(a_r, .inr (6, [.ref a_r_rows, .ref a_r_ins, .int r_size, .int r_n, .int r_parts])), (a_r_ins, .inl (c_r_ins, 1024, .inl r_ins))] sz) [(a_r, .inr (6, [.ref a_r_rows, .ref a_r_ins, .int r_size, .int r_n, .int r_parts])), (a_r_ins, .inl (c_r_ins, 1024, .inl rv))]) (va_A [(a_r, .inr (6, [.ref a_r_rows, .ref a_r_ins, .int r_size, .int r_n, .int r_parts])), (a_r_ins, .inl (c_r_ins, 1024, .inl r_ins))] sz)) 0 0 (va_A [(a_r, .inr (6, [.ref a_r_rows, .ref a_r_ins, .int r_size, .int r_n, .int r_parts])), (a_r_ins, .inl (c_r_ins, 1024, .inl r_ins))] sz) := by
  refine Met.ofW (cc := cX6_tally) (maxL := 4) (ret := none) (by decide) rfl ?_
  intro p e s m args below meth c s₁ B hml hv
  obtain ⟨rfl, hsz, hP, hK, hD0, hN⟩ := hv
  have hx := B.exec
  have hb := B.bytes
  have hr := B.returns
  have hts := atoms_spec (ws := wsX6_tally) B.pre
  have hown : s.vm.findClass RX6 = some m.cls := findClass_of_methodNamed B.named
  have hlocks := B.notSynchronized
  subst hsz
  have hD := hD0.self (sz := s.heap.size)
  generalize hAe : va_A [(a_r, .inr (6, [.ref a_r_rows, .ref a_r_ins, .int r_size, .int r_n, .int r_parts])), (a_r_ins, .inl (c_r_ins, 1024, .inl r_ins))] s.heap.size = A at hD hN ⊢
  have hA : ∀ q : Nat, s.heap.size ≤ q → A q := fun q h => by rw [← hAe]; exact Or.inr h
  have hS : va_S A s.heap s.heap [] := va_S.rf
  have hP : va_P (dC, dI) vwCl [(a_r, .inr (6, [.ref a_r_rows, .ref a_r_ins, .int r_size, .int r_n, .int r_parts])), (a_r_ins, .inl (c_r_ins, 1024, .inl r_ins))] s.heap := hP
  have hl := lv_entry ([.ref a_r, .int p1, .int p2]) (n := 4) (Nat.le_of_ble_eq_true rfl)
  rw [lg_entry_eq]
  generalize (lg_sl ([.ref a_r, .int p1, .int p2]) ++ List.replicate (4 - (lg_sl ([.ref a_r, .int p1, .int p2])).length) Slot.unset).toArray = ls at hl ⊢
  have hl : lv_has ls 4 [(0, .ref a_r), (1, .int p1), (2, .int p2)] := hl
  have hiX6 : ∀ w ∈ wsX60, w ∈ wsX6_tally := fun _ h => List.mem_cons_of_mem _ (List.mem_append_right _ h)
  have hf25 := hts (.fieldLink RX6 25 "MeetSets$SetRow" "parts" "I") (t1_ (al_ h1_))
  have hf15 := hts (.fieldLink RX6 15 "MeetSets$SetRow" "inside" "[I") (t1_ (al_ (t1_ h1_)))
  refine w_abs (fun Z hZv hZw => ?_)
  refine hZv ?_
  obtain ⟨H, hH⟩ : ∃ H, H = s.heap := ⟨_, rfl⟩
  obtain ⟨locs, hlo⟩ : ∃ L : List Loc, L = [] := ⟨_, rfl⟩
  rw [← hlo, ← hH]
  have hS : va_S A s.heap H locs := by rw [hlo, hH]; exact hS
  have hP : va_P (dC, dI) vwCl [(a_r, .inr (6, [.ref a_r_rows, .ref a_r_ins, .int r_size, .int r_n, .int r_parts])), (a_r_ins, .inl (c_r_ins, 1024, .inl r_ins))] H := by rw [hH]; exact hP
  clear hH hlo
  unfold pX6_tally at hs
  refine lv_iload_n hx hb dX6_tally_0 rfl (lv_at hl 1 rfl) ?_
  refine lv_istore_n (lv' := [(3, .int p1), (0, .ref a_r), (1, .int p1), (2, .int p2)]) hx hb dX6_tally_1 rfl hl (by decide) rfl (fun ls hl => ?_)
  obtain ⟨e2, he2, hs⟩ := bd_s hs
  have hX2 : ∀ (H : Heap) (locs : List Loc) (ls : Array Slot), va_P (dC, dI) vwCl [(a_r, .inr (6, [.ref a_r_rows, .ref a_r_ins, .int r_size, .int r_n, .int r_parts])), (a_r_ins, .inl (c_r_ins, 1024, .inl e2))] H → va_D A [(a_r, .inr (6, [.ref a_r_rows, .ref a_r_ins, .int r_size, .int r_n, .int r_parts])), (a_r_ins, .inl (c_r_ins, 1024, .inl e2))] → va_S A s.heap H locs → lv_has ls 4 [] → Z H locs 0 0 (F0 m 29 ls []) := by
    intro H locs ls hP hD hS hl
    refine hZv ?_
    replace hs := Option.some.inj hs
    subst hs
    exact W.vret hx hb hr (fun t ht hW => ⟨⟨(), rfl, trivial, by rw [ht]; exact hP, va_K.moved hW.alike hK, hD⟩, hS.F ht⟩) hS.2.2 dX6_tally_29
  clear hs
  have hL2 : ∀ (n : Nat) (s2 : Int32 × (Nat → Int32)) (H : Heap) (locs : List Loc) (ls : Array Slot), itr (pX6_tally_L2 r_parts p1 p2) n s2 = some e2 → va_P (dC, dI) vwCl [(a_r, .inr (6, [.ref a_r_rows, .ref a_r_ins, .int r_size, .int r_n, .int r_parts])), (a_r_ins, .inl (c_r_ins, 1024, .inl s2.2))] H → va_D A [(a_r, .inr (6, [.ref a_r_rows, .ref a_r_ins, .int r_size, .int r_n, .int r_parts])), (a_r_ins, .inl (c_r_ins, 1024, .inl s2.2))] → va_S A s.heap H locs → lv_has ls 4 [(0, .ref a_r), (1, .int p1), (2, .int p2), (3, .int s2.1)] → Z H locs 0 0 (F0 m 2 ls []) := by
    intro n
    induction n with
    | zero =>
      intro s2 H locs ls hn
      exact (itr_0 hn).elim
    | succ n ih =>
      intro s2 H locs ls hn hP hD hS hl
      obtain ⟨y1, hs, hn⟩ := itr_s hn
      unfold pX6_tally_L2 at hs
      refine hZv ?_
      refine lv_iload_n hx hb dX6_tally_2 rfl (lv_at hl 3 rfl) ?_
      refine lv_aload_n hx hb dX6_tally_3 rfl (lv_at hl 0 rfl) ?_
      refine va_get (D := (dC, dI)) (ci := 6) (v := .int r_parts) (C := RX6) (T := TX6) (N := 5) hx hb hts hiX6 hown hK hP 0 rfl rfl 4 (by decide) hf25 (fun _ h9 => h9) rfl dX6_tally_4 ?_
      refine lv_icmp_ge (tgt := 29) hx hb dX6_tally_7 (by decide) (fun hc => ?_) (fun hc => ?_)
      · replace hs := it_t hc hs
        replace hs := Option.some.inj hs
        subst hs
        obtain rfl : s2.2 = e2 := hn
        exact hZw (hX2 H locs ls hP hD hS (lv_sub hl [] rfl))
      · replace hs := it_f hc hs
        refine lv_aload_n hx hb dX6_tally_10 rfl (lv_at hl 0 rfl) ?_
        refine va_get (D := (dC, dI)) (ci := 6) (v := .ref a_r_ins) (C := RX6) (T := TX6) (N := 5) hx hb hts hiX6 hown hK hP 0 rfl rfl 1 (by decide) hf15 (fun _ h9 => h9) rfl dX6_tally_11 ?_
        refine lv_iload_n hx hb dX6_tally_14 rfl (lv_at hl 3 rfl) ?_
        refine lv_dup2_11 hx hb dX6_tally_15 rfl rfl ?_
        obtain ⟨hg2, hs⟩ := gd_s hs
        refine va_iald hx hb hK hP 1 0 rfl rfl hg2 dX6_tally_16 ?_
        refine lv_iload_n hx hb dX6_tally_17 rfl (lv_at hl 2 rfl) ?_
        refine lv_iadd hx hb dX6_tally_18 ?_
        obtain ⟨hg3, hs⟩ := gd_s hs
        refine va_iast hx hb hK hP hD hS 1 0 rfl rfl hg3 dX6_tally_19 (fun H locs hP hD hS => ?_)
        have hP : va_P (dC, dI) vwCl [(a_r, .inr (6, [.ref a_r_rows, .ref a_r_ins, .int r_size, .int r_n, .int r_parts])), (a_r_ins, .inl (c_r_ins, 1024, .inl (upd s2.2 s2.1.toNatClampNeg ((s2.2 s2.1.toNatClampNeg) + p2))))] H := hP
        have hD : va_D A [(a_r, .inr (6, [.ref a_r_rows, .ref a_r_ins, .int r_size, .int r_n, .int r_parts])), (a_r_ins, .inl (c_r_ins, 1024, .inl (upd s2.2 s2.1.toNatClampNeg ((s2.2 s2.1.toNatClampNeg) + p2))))] := hD
        refine lv_iload_n hx hb dX6_tally_20 rfl (lv_at hl 3 rfl) ?_
        refine lv_iconst (v := 1) hx hb dX6_tally_21 (by decide) ?_
        refine lv_iadd hx hb dX6_tally_22 ?_
        refine lv_iload_n hx hb dX6_tally_23 rfl (lv_at hl 1 rfl) ?_
        refine lv_ior hx hb dX6_tally_24 ?_
        refine lv_istore_n (lv' := [(3, .int ((s2.1 + 1) ||| p1)), (0, .ref a_r), (1, .int p1), (2, .int p2)]) hx hb dX6_tally_25 rfl hl (by decide) rfl (fun ls hl => ?_)
        refine lv_goto (tgt := 2) hx hb dX6_tally_26 (by decide) ?_
        replace hs := Option.some.inj hs
        subst hs
        exact hZw (ih ((s2.1 + 1) ||| p1, upd s2.2 s2.1.toNatClampNeg ((s2.2 s2.1.toNatClampNeg) + p2)) H locs ls hn hP hD hS (lv_sub hl [1, 2, 3, 0] rfl))
  obtain ⟨n2, hn2⟩ := lp_ex he2
  exact hZw (hL2 n2 (p1, r_ins) H locs ls hn2 hP hD hS (lv_sub hl [1, 2, 3, 0] rfl))
noncomputable def pX6_append (r_len : Nat) (r_size : Int32) (r_parts : Int32) (r_rows : Nat → Int32) (r_ins : Nat → Int32) (p1 : Int32) : Option (Int32 × (Nat → Int32) × (Nat → Int32)) :=
  Option.bind (pX6_isFull r_len r_size) (fun r1 => if r1 = 0 then (gd (vp_in r_size r_len) (Option.bind (pX6_tally r_parts r_ins p1 1) (fun r3 => some (r_size + 1, upd r_rows r_size.toNatClampNeg p1, r3)))) else (some (r_size, r_rows, r_ins)))
set_option maxHeartbeats 4000000 in
set_option maxRecDepth 100000 in
theorem c_X6_append (l : Launch) (dC : Nat → ClassId) (dI : Nat → Nat → Nat) (a_r : Nat) (a_r_rows : Nat) (a_r_ins : Nat) (c_r_rows c_r_ins : ClassId) (r_len : Nat) (sz : Nat) (r_size : Int32) (r_n : Int32) (r_parts : Int32) (r_rows : Nat → Int32) (r_ins : Nat → Int32) (p1 : Int32) (rv : Int32 × (Nat → Int32) × (Nat → Int32)) (hs : pX6_append r_len r_size r_parts r_rows r_ins p1 = some rv) : Met l yX6_append wsX6_append ({ frames := 1, cells := 0, slots := 0, locals := 23 }) (sPc [.ref a_r, .int p1] (dC, dI) [(c_r_rows, .int), (c_r_ins, .int)] [(a_r, .inr (6, [.ref a_r_rows, .ref a_r_ins, .int r_size, .int r_n, .int r_parts])), (a_r_rows, .inl (c_r_rows, r_len, .inl r_rows)), (a_r_ins, .inl (c_r_ins, 1024, .inl r_ins))] sz) (va_Qv (fun (_ : Unit) => True) (sB (dC, dI) [(c_r_rows, .int), (c_r_ins, .int)] (va_A [(a_r, .inr (6, [.ref a_r_rows, .ref a_r_ins, .int r_size, .int r_n, .int r_parts])), (a_r_rows, .inl (c_r_rows, r_len, .inl r_rows)), (a_r_ins, .inl (c_r_ins, 1024, .inl r_ins))] sz) [(a_r, .inr (6, [.ref a_r_rows, .ref a_r_ins, .int rv.1, .int r_n, .int r_parts])), (a_r_rows, .inl (c_r_rows, r_len, .inl rv.2.1)), (a_r_ins, .inl (c_r_ins, 1024, .inl rv.2.2))]) (va_A [(a_r, .inr (6, [.ref a_r_rows, .ref a_r_ins, .int r_size, .int r_n, .int r_parts])), (a_r_rows, .inl (c_r_rows, r_len, .inl r_rows)), (a_r_ins, .inl (c_r_ins, 1024, .inl r_ins))] sz)) 0 0 (va_A [(a_r, .inr (6, [.ref a_r_rows, .ref a_r_ins, .int r_size, .int r_n, .int r_parts])), (a_r_rows, .inl (c_r_rows, r_len, .inl r_rows)), (a_r_ins, .inl (c_r_ins, 1024, .inl r_ins))] sz) := by
  refine Met.ofW (cc := cX6_append) (maxL := 2) (ret := none) (by decide) rfl ?_
  intro p e s m args below meth c s₁ B hml hv
  obtain ⟨rfl, hsz, hP, hK, hD0, hN⟩ := hv
  have hx := B.exec
  have hb := B.bytes
  have hr := B.returns
  have hts := atoms_spec (ws := wsX6_append) B.pre
  have hown : s.vm.findClass RX6 = some m.cls := findClass_of_methodNamed B.named
  have hlocks := B.notSynchronized
  subst hsz
  have hD := hD0.self (sz := s.heap.size)
  generalize hAe : va_A [(a_r, .inr (6, [.ref a_r_rows, .ref a_r_ins, .int r_size, .int r_n, .int r_parts])), (a_r_rows, .inl (c_r_rows, r_len, .inl r_rows)), (a_r_ins, .inl (c_r_ins, 1024, .inl r_ins))] s.heap.size = A at hD hN ⊢
  have hA : ∀ q : Nat, s.heap.size ≤ q → A q := fun q h => by rw [← hAe]; exact Or.inr h
  have hS : va_S A s.heap s.heap [] := va_S.rf
  have hP : va_P (dC, dI) vwCl [(a_r, .inr (6, [.ref a_r_rows, .ref a_r_ins, .int r_size, .int r_n, .int r_parts])), (a_r_rows, .inl (c_r_rows, r_len, .inl r_rows)), (a_r_ins, .inl (c_r_ins, 1024, .inl r_ins))] s.heap := hP
  have hl := lv_entry ([.ref a_r, .int p1]) (n := 2) (Nat.le_of_ble_eq_true rfl)
  rw [lg_entry_eq]
  generalize (lg_sl ([.ref a_r, .int p1]) ++ List.replicate (2 - (lg_sl ([.ref a_r, .int p1])).length) Slot.unset).toArray = ls at hl ⊢
  have hl : lv_has ls 2 [(0, .ref a_r), (1, .int p1)] := hl
  have hiX6 : ∀ w ∈ wsX60, w ∈ wsX6_append := fun _ h => List.mem_cons_of_mem _ (List.mem_append_right _ h)
  have hf9 := hts (.fieldLink RX6 9 "MeetSets$SetRow" "rows" "[I") (t1_ (al_ h1_))
  have hf18 := hts (.fieldLink RX6 18 "MeetSets$SetRow" "size" "I") (t1_ (al_ (t1_ h1_)))
  refine w_abs (fun Z hZv hZw => ?_)
  refine hZv ?_
  obtain ⟨H, hH⟩ : ∃ H, H = s.heap := ⟨_, rfl⟩
  obtain ⟨locs, hlo⟩ : ∃ L : List Loc, L = [] := ⟨_, rfl⟩
  rw [← hlo, ← hH]
  have hS : va_S A s.heap H locs := by rw [hlo, hH]; exact hS
  have hP : va_P (dC, dI) vwCl [(a_r, .inr (6, [.ref a_r_rows, .ref a_r_ins, .int r_size, .int r_n, .int r_parts])), (a_r_rows, .inl (c_r_rows, r_len, .inl r_rows)), (a_r_ins, .inl (c_r_ins, 1024, .inl r_ins))] H := by rw [hH]; exact hP
  clear hH hlo
  unfold pX6_append at hs
  refine lv_aload_n hx hb dX6_append_0 rfl (lv_at hl 0 rfl) ?_
  obtain ⟨r1, hr1, hs⟩ := bd_s hs
  refine kc_i (isC := [0, 1]) (isR := [2]) (pm := [1, 2, 0]) (wr := [(a_r_ins, .inl (c_r_ins, 1024, .inl r_ins))]) (w1 := [(a_r, .inr (6, [.ref a_r_rows, .ref a_r_ins, .int r_size, .int r_n, .int r_parts])), (a_r_rows, .inl (c_r_rows, r_len, .inl r_rows))]) (w2 := [(a_r, .inr (6, [.ref a_r_rows, .ref a_r_ins, .int r_size, .int r_n, .int r_parts])), (a_r_rows, .inl (c_r_rows, r_len, .inl r_rows)), (a_r_ins, .inl (c_r_ins, 1024, .inl r_ins))]) (va_runV (As := []) (rest := []) ⟨hx, hb, hml, hown, hts⟩ (c_X6_isFull l dC dI a_r a_r_rows a_r_ins c_r_rows r_len H.size r_size r_n r_parts r_rows r1 hr1) (cwV 0 hts gX6_append_X6_isFull rfl rfl rfl (by decide +kernel) ⟨Nat.le_of_ble_eq_true rfl, Nat.le_of_ble_eq_true rfl⟩) (kp_V hK hP hD hS hA hN (isC := [0, 1]) (isT := [0]) (wc := [(a_r, .inr (6, [.ref a_r_rows, .ref a_r_ins, .int r_size, .int r_n, .int r_parts])), (a_r_rows, .inl (c_r_rows, r_len, .inl r_rows))]) rfl (by decide +kernel) rfl (ci := 6) (q0 := 0) rfl rfl) rfl rfl hl.1 rfl (lv_room (Nat.le_of_ble_eq_true rfl)) dX6_append_1 ⟨Nat.le_of_ble_eq_true rfl, Nat.le_of_ble_eq_true rfl⟩) hP hD hS hA rfl rfl (by decide +kernel) (by decide +kernel) rfl (by decide +kernel) (fun H locs hP hD hS => ?_)
  refine lv_if_ne (tgt := 33) hx hb dX6_append_4 (by decide) (fun hc => ?_) (fun hc => ?_)
  · replace hs := it_f hc hs
    replace hs := Option.some.inj hs
    subst hs
    exact W.vret hx hb hr (fun t ht hW => ⟨⟨(), rfl, trivial, by rw [ht]; exact hP, va_K.moved hW.alike hK, hD⟩, hS.F ht⟩) hS.2.2 dX6_append_33
  · replace hs := it_t hc hs
    refine lv_aload_n hx hb dX6_append_7 rfl (lv_at hl 0 rfl) ?_
    refine va_get (D := (dC, dI)) (ci := 6) (v := .ref a_r_rows) (C := RX6) (T := TX6) (N := 5) hx hb hts hiX6 hown hK hP 0 rfl rfl 0 (by decide) hf9 (fun _ h9 => h9) rfl dX6_append_8 ?_
    refine lv_aload_n hx hb dX6_append_11 rfl (lv_at hl 0 rfl) ?_
    refine va_get (D := (dC, dI)) (ci := 6) (v := .int r_size) (C := RX6) (T := TX6) (N := 5) hx hb hts hiX6 hown hK hP 0 rfl rfl 2 (by decide) hf18 (fun _ h9 => h9) rfl dX6_append_12 ?_
    refine lv_iload_n hx hb dX6_append_15 rfl (lv_at hl 1 rfl) ?_
    obtain ⟨hg2, hs⟩ := gd_s hs
    refine va_iast hx hb hK hP hD hS 1 0 rfl rfl hg2 dX6_append_16 (fun H locs hP hD hS => ?_)
    have hP : va_P (dC, dI) vwCl [(a_r, .inr (6, [.ref a_r_rows, .ref a_r_ins, .int r_size, .int r_n, .int r_parts])), (a_r_rows, .inl (c_r_rows, r_len, .inl (upd r_rows r_size.toNatClampNeg p1))), (a_r_ins, .inl (c_r_ins, 1024, .inl r_ins))] H := hP
    have hD : va_D A [(a_r, .inr (6, [.ref a_r_rows, .ref a_r_ins, .int r_size, .int r_n, .int r_parts])), (a_r_rows, .inl (c_r_rows, r_len, .inl (upd r_rows r_size.toNatClampNeg p1))), (a_r_ins, .inl (c_r_ins, 1024, .inl r_ins))] := hD
    refine lv_aload_n hx hb dX6_append_17 rfl (lv_at hl 0 rfl) ?_
    refine lv_dup hx hb dX6_append_18 rfl ?_
    refine va_get (D := (dC, dI)) (ci := 6) (v := .int r_size) (C := RX6) (T := TX6) (N := 5) hx hb hts hiX6 hown hK hP 0 rfl rfl 2 (by decide) hf18 (fun _ h9 => h9) rfl dX6_append_19 ?_
    refine lv_iconst (v := 1) hx hb dX6_append_22 (by decide) ?_
    refine lv_iadd hx hb dX6_append_23 ?_
    refine va_put (D := (dC, dI)) (ci := 6) (v := .int (r_size + 1)) (ty := .int) (C := RX6) (T := TX6) (N := 5) hx hb hts hiX6 tyX6 tyX6_ok nmX6 hown hK hP hD hS 0 rfl rfl 2 (by decide) hf18 (fun _ h9 => h9) rfl (by decide +kernel) rfl rfl (Nat.le_of_ble_eq_true rfl) dX6_append_24 (fun H locs hP hD hS => ?_)
    have hP : va_P (dC, dI) vwCl [(a_r, .inr (6, [.ref a_r_rows, .ref a_r_ins, .int (r_size + 1), .int r_n, .int r_parts])), (a_r_rows, .inl (c_r_rows, r_len, .inl (upd r_rows r_size.toNatClampNeg p1))), (a_r_ins, .inl (c_r_ins, 1024, .inl r_ins))] H := hP
    have hD : va_D A [(a_r, .inr (6, [.ref a_r_rows, .ref a_r_ins, .int (r_size + 1), .int r_n, .int r_parts])), (a_r_rows, .inl (c_r_rows, r_len, .inl (upd r_rows r_size.toNatClampNeg p1))), (a_r_ins, .inl (c_r_ins, 1024, .inl r_ins))] := hD
    refine lv_aload_n hx hb dX6_append_27 rfl (lv_at hl 0 rfl) ?_
    refine lv_iload_n hx hb dX6_append_28 rfl (lv_at hl 1 rfl) ?_
    refine lv_iconst (v := 1) hx hb dX6_append_29 (by decide) ?_
    obtain ⟨r3, hr3, hs⟩ := bd_s hs
    refine kc_v (isC := [0, 2]) (isR := [1]) (pm := [1, 0, 2]) (wr := [(a_r_rows, .inl (c_r_rows, r_len, .inl (upd r_rows r_size.toNatClampNeg p1)))]) (w1 := [(a_r, .inr (6, [.ref a_r_rows, .ref a_r_ins, .int (r_size + 1), .int r_n, .int r_parts])), (a_r_ins, .inl (c_r_ins, 1024, .inl r3))]) (w2 := [(a_r, .inr (6, [.ref a_r_rows, .ref a_r_ins, .int (r_size + 1), .int r_n, .int r_parts])), (a_r_rows, .inl (c_r_rows, r_len, .inl (upd r_rows r_size.toNatClampNeg p1))), (a_r_ins, .inl (c_r_ins, 1024, .inl r3))]) (va_runV (As := [.int p1, .int 1]) (rest := []) ⟨hx, hb, hml, hown, hts⟩ (c_X6_tally l dC dI a_r a_r_rows a_r_ins c_r_ins H.size (r_size + 1) r_n r_parts r_ins p1 1 r3 hr3) (cwV 2 hts gX6_append_X6_tally rfl rfl rfl (by decide +kernel) ⟨Nat.le_of_ble_eq_true rfl, Nat.le_of_ble_eq_true rfl⟩) (kp_V hK hP hD hS hA hN (isC := [0, 2]) (isT := [1]) (wc := [(a_r, .inr (6, [.ref a_r_rows, .ref a_r_ins, .int (r_size + 1), .int r_n, .int r_parts])), (a_r_ins, .inl (c_r_ins, 1024, .inl r_ins))]) rfl (by decide +kernel) rfl (ci := 6) (q0 := 0) rfl rfl) rfl rfl hl.1 rfl (lv_room (Nat.le_of_ble_eq_true rfl)) dX6_append_30 ⟨Nat.le_of_ble_eq_true rfl, Nat.le_of_ble_eq_true rfl⟩) hP hD hS hA rfl rfl (by decide +kernel) (by decide +kernel) rfl (by decide +kernel) (fun H locs hP hD hS => ?_)
    replace hs := Option.some.inj hs
    subst hs
    exact W.vret hx hb hr (fun t ht hW => ⟨⟨(), rfl, trivial, by rw [ht]; exact hP, va_K.moved hW.alike hK, hD⟩, hS.F ht⟩) hS.2.2 dX6_append_33
noncomputable def pX6_removeLast (r_len : Nat) (r_size : Int32) (r_parts : Int32) (r_rows : Nat → Int32) (r_ins : Nat → Int32) : Option (Int32 × Int32 × (Nat → Int32)) :=
  if r_size = 0 then (some (0, r_size, r_ins)) else (gd (vp_in (r_size - 1) r_len) (Option.bind (pX6_tally r_parts r_ins (r_rows (r_size - 1).toNatClampNeg) (-1)) (fun r2 => gd (vp_in (r_size - 1) r_len) (some (r_rows (r_size - 1).toNatClampNeg, r_size - 1, r2)))))
set_option maxHeartbeats 4000000 in
set_option maxRecDepth 100000 in
theorem c_X6_removeLast (l : Launch) (dC : Nat → ClassId) (dI : Nat → Nat → Nat) (a_r : Nat) (a_r_rows : Nat) (a_r_ins : Nat) (c_r_rows c_r_ins : ClassId) (r_len : Nat) (sz : Nat) (r_size : Int32) (r_n : Int32) (r_parts : Int32) (r_rows : Nat → Int32) (r_ins : Nat → Int32) (rv : Int32 × Int32 × (Nat → Int32)) (hs : pX6_removeLast r_len r_size r_parts r_rows r_ins = some rv) : Met l yX6_removeLast wsX6_removeLast ({ frames := 1, cells := 0, slots := 0, locals := 23 }) (sPc [.ref a_r] (dC, dI) [(c_r_rows, .int), (c_r_ins, .int)] [(a_r, .inr (6, [.ref a_r_rows, .ref a_r_ins, .int r_size, .int r_n, .int r_parts])), (a_r_rows, .inl (c_r_rows, r_len, .inl r_rows)), (a_r_ins, .inl (c_r_ins, 1024, .inl r_ins))] sz) (va_Qi (fun (r : Int32) (_ : Unit) => r = rv.1) (sB (dC, dI) [(c_r_rows, .int), (c_r_ins, .int)] (va_A [(a_r, .inr (6, [.ref a_r_rows, .ref a_r_ins, .int r_size, .int r_n, .int r_parts])), (a_r_rows, .inl (c_r_rows, r_len, .inl r_rows)), (a_r_ins, .inl (c_r_ins, 1024, .inl r_ins))] sz) [(a_r, .inr (6, [.ref a_r_rows, .ref a_r_ins, .int rv.2.1, .int r_n, .int r_parts])), (a_r_rows, .inl (c_r_rows, r_len, .inl r_rows)), (a_r_ins, .inl (c_r_ins, 1024, .inl rv.2.2))]) (va_A [(a_r, .inr (6, [.ref a_r_rows, .ref a_r_ins, .int r_size, .int r_n, .int r_parts])), (a_r_rows, .inl (c_r_rows, r_len, .inl r_rows)), (a_r_ins, .inl (c_r_ins, 1024, .inl r_ins))] sz)) 0 0 (va_A [(a_r, .inr (6, [.ref a_r_rows, .ref a_r_ins, .int r_size, .int r_n, .int r_parts])), (a_r_rows, .inl (c_r_rows, r_len, .inl r_rows)), (a_r_ins, .inl (c_r_ins, 1024, .inl r_ins))] sz) := by
  refine Met.ofW (cc := cX6_removeLast) (maxL := 1) (ret := (some .int)) (by decide) rfl ?_
  intro p e s m args below meth c s₁ B hml hv
  obtain ⟨rfl, hsz, hP, hK, hD0, hN⟩ := hv
  have hx := B.exec
  have hb := B.bytes
  have hr := B.returns
  have hts := atoms_spec (ws := wsX6_removeLast) B.pre
  have hown : s.vm.findClass RX6 = some m.cls := findClass_of_methodNamed B.named
  have hlocks := B.notSynchronized
  subst hsz
  have hD := hD0.self (sz := s.heap.size)
  generalize hAe : va_A [(a_r, .inr (6, [.ref a_r_rows, .ref a_r_ins, .int r_size, .int r_n, .int r_parts])), (a_r_rows, .inl (c_r_rows, r_len, .inl r_rows)), (a_r_ins, .inl (c_r_ins, 1024, .inl r_ins))] s.heap.size = A at hD hN ⊢
  have hA : ∀ q : Nat, s.heap.size ≤ q → A q := fun q h => by rw [← hAe]; exact Or.inr h
  have hS : va_S A s.heap s.heap [] := va_S.rf
  have hP : va_P (dC, dI) vwCl [(a_r, .inr (6, [.ref a_r_rows, .ref a_r_ins, .int r_size, .int r_n, .int r_parts])), (a_r_rows, .inl (c_r_rows, r_len, .inl r_rows)), (a_r_ins, .inl (c_r_ins, 1024, .inl r_ins))] s.heap := hP
  have hl := lv_entry ([.ref a_r]) (n := 1) (Nat.le_of_ble_eq_true rfl)
  rw [lg_entry_eq]
  generalize (lg_sl ([.ref a_r]) ++ List.replicate (1 - (lg_sl ([.ref a_r])).length) Slot.unset).toArray = ls at hl ⊢
  have hl : lv_has ls 1 [(0, .ref a_r)] := hl
  have hiX6 : ∀ w ∈ wsX60, w ∈ wsX6_removeLast := fun _ h => List.mem_cons_of_mem _ (List.mem_append_right _ h)
  have hf18 := hts (.fieldLink RX6 18 "MeetSets$SetRow" "size" "I") (t1_ (al_ h1_))
  have hf9 := hts (.fieldLink RX6 9 "MeetSets$SetRow" "rows" "[I") (t1_ (al_ (t1_ h1_)))
  refine w_abs (fun Z hZv hZw => ?_)
  refine hZv ?_
  obtain ⟨H, hH⟩ : ∃ H, H = s.heap := ⟨_, rfl⟩
  obtain ⟨locs, hlo⟩ : ∃ L : List Loc, L = [] := ⟨_, rfl⟩
  rw [← hlo, ← hH]
  have hS : va_S A s.heap H locs := by rw [hlo, hH]; exact hS
  have hP : va_P (dC, dI) vwCl [(a_r, .inr (6, [.ref a_r_rows, .ref a_r_ins, .int r_size, .int r_n, .int r_parts])), (a_r_rows, .inl (c_r_rows, r_len, .inl r_rows)), (a_r_ins, .inl (c_r_ins, 1024, .inl r_ins))] H := by rw [hH]; exact hP
  clear hH hlo
  unfold pX6_removeLast at hs
  refine lv_aload_n hx hb dX6_removeLast_0 rfl (lv_at hl 0 rfl) ?_
  refine va_get (D := (dC, dI)) (ci := 6) (v := .int r_size) (C := RX6) (T := TX6) (N := 5) hx hb hts hiX6 hown hK hP 0 rfl rfl 2 (by decide) hf18 (fun _ h9 => h9) rfl dX6_removeLast_1 ?_
  refine lv_if_ne (tgt := 9) hx hb dX6_removeLast_4 (by decide) (fun hc => ?_) (fun hc => ?_)
  · replace hs := it_f hc hs
    refine lv_aload_n hx hb dX6_removeLast_9 rfl (lv_at hl 0 rfl) ?_
    refine lv_dup hx hb dX6_removeLast_10 rfl ?_
    refine va_get (D := (dC, dI)) (ci := 6) (v := .int r_size) (C := RX6) (T := TX6) (N := 5) hx hb hts hiX6 hown hK hP 0 rfl rfl 2 (by decide) hf18 (fun _ h9 => h9) rfl dX6_removeLast_11 ?_
    refine lv_iconst (v := 1) hx hb dX6_removeLast_14 (by decide) ?_
    refine lv_isub hx hb dX6_removeLast_15 ?_
    refine va_put (D := (dC, dI)) (ci := 6) (v := .int (r_size - 1)) (ty := .int) (C := RX6) (T := TX6) (N := 5) hx hb hts hiX6 tyX6 tyX6_ok nmX6 hown hK hP hD hS 0 rfl rfl 2 (by decide) hf18 (fun _ h9 => h9) rfl (by decide +kernel) rfl rfl (Nat.le_of_ble_eq_true rfl) dX6_removeLast_16 (fun H locs hP hD hS => ?_)
    have hP : va_P (dC, dI) vwCl [(a_r, .inr (6, [.ref a_r_rows, .ref a_r_ins, .int (r_size - 1), .int r_n, .int r_parts])), (a_r_rows, .inl (c_r_rows, r_len, .inl r_rows)), (a_r_ins, .inl (c_r_ins, 1024, .inl r_ins))] H := hP
    have hD : va_D A [(a_r, .inr (6, [.ref a_r_rows, .ref a_r_ins, .int (r_size - 1), .int r_n, .int r_parts])), (a_r_rows, .inl (c_r_rows, r_len, .inl r_rows)), (a_r_ins, .inl (c_r_ins, 1024, .inl r_ins))] := hD
    refine lv_aload_n hx hb dX6_removeLast_19 rfl (lv_at hl 0 rfl) ?_
    refine lv_aload_n hx hb dX6_removeLast_20 rfl (lv_at hl 0 rfl) ?_
    refine va_get (D := (dC, dI)) (ci := 6) (v := .ref a_r_rows) (C := RX6) (T := TX6) (N := 5) hx hb hts hiX6 hown hK hP 0 rfl rfl 0 (by decide) hf9 (fun _ h9 => h9) rfl dX6_removeLast_21 ?_
    refine lv_aload_n hx hb dX6_removeLast_24 rfl (lv_at hl 0 rfl) ?_
    refine va_get (D := (dC, dI)) (ci := 6) (v := .int (r_size - 1)) (C := RX6) (T := TX6) (N := 5) hx hb hts hiX6 hown hK hP 0 rfl rfl 2 (by decide) hf18 (fun _ h9 => h9) rfl dX6_removeLast_25 ?_
    obtain ⟨hg1, hs⟩ := gd_s hs
    refine va_iald hx hb hK hP 1 0 rfl rfl hg1 dX6_removeLast_28 ?_
    refine lv_iconst (v := (-1)) hx hb dX6_removeLast_29 (by decide) ?_
    obtain ⟨r2, hr2, hs⟩ := bd_s hs
    refine kc_v (isC := [0, 2]) (isR := [1]) (pm := [1, 0, 2]) (wr := [(a_r_rows, .inl (c_r_rows, r_len, .inl r_rows))]) (w1 := [(a_r, .inr (6, [.ref a_r_rows, .ref a_r_ins, .int (r_size - 1), .int r_n, .int r_parts])), (a_r_ins, .inl (c_r_ins, 1024, .inl r2))]) (w2 := [(a_r, .inr (6, [.ref a_r_rows, .ref a_r_ins, .int (r_size - 1), .int r_n, .int r_parts])), (a_r_rows, .inl (c_r_rows, r_len, .inl r_rows)), (a_r_ins, .inl (c_r_ins, 1024, .inl r2))]) (va_runV (As := [.int (r_rows (r_size - 1).toNatClampNeg), .int (-1)]) (rest := []) ⟨hx, hb, hml, hown, hts⟩ (c_X6_tally l dC dI a_r a_r_rows a_r_ins c_r_ins H.size (r_size - 1) r_n r_parts r_ins (r_rows (r_size - 1).toNatClampNeg) (-1) r2 hr2) (cwV 2 hts gX6_removeLast_X6_tally rfl rfl rfl (by decide +kernel) ⟨Nat.le_of_ble_eq_true rfl, Nat.le_of_ble_eq_true rfl⟩) (kp_V hK hP hD hS hA hN (isC := [0, 2]) (isT := [1]) (wc := [(a_r, .inr (6, [.ref a_r_rows, .ref a_r_ins, .int (r_size - 1), .int r_n, .int r_parts])), (a_r_ins, .inl (c_r_ins, 1024, .inl r_ins))]) rfl (by decide +kernel) rfl (ci := 6) (q0 := 0) rfl rfl) rfl rfl hl.1 rfl (lv_room (Nat.le_of_ble_eq_true rfl)) dX6_removeLast_30 ⟨Nat.le_of_ble_eq_true rfl, Nat.le_of_ble_eq_true rfl⟩) hP hD hS hA rfl rfl (by decide +kernel) (by decide +kernel) rfl (by decide +kernel) (fun H locs hP hD hS => ?_)
    refine lv_aload_n hx hb dX6_removeLast_33 rfl (lv_at hl 0 rfl) ?_
    refine va_get (D := (dC, dI)) (ci := 6) (v := .ref a_r_rows) (C := RX6) (T := TX6) (N := 5) hx hb hts hiX6 hown hK hP 0 rfl rfl 0 (by decide) hf9 (fun _ h9 => h9) rfl dX6_removeLast_34 ?_
    refine lv_aload_n hx hb dX6_removeLast_37 rfl (lv_at hl 0 rfl) ?_
    refine va_get (D := (dC, dI)) (ci := 6) (v := .int (r_size - 1)) (C := RX6) (T := TX6) (N := 5) hx hb hts hiX6 hown hK hP 0 rfl rfl 2 (by decide) hf18 (fun _ h9 => h9) rfl dX6_removeLast_38 ?_
    obtain ⟨hg3, hs⟩ := gd_s hs
    refine va_iald hx hb hK hP 1 0 rfl rfl hg3 dX6_removeLast_41 ?_
    replace hs := Option.some.inj hs
    subst hs
    exact W.iret (v := r_rows (r_size - 1).toNatClampNeg) hx hb hr (fun t ht hW => ⟨⟨r_rows (r_size - 1).toNatClampNeg, (), rfl, rfl, by rw [ht]; exact hP, va_K.moved hW.alike hK, hD⟩, hS.F ht⟩) hS.2.2 dX6_removeLast_42
  · replace hs := it_t hc hs
    refine lv_iconst (v := 0) hx hb dX6_removeLast_7 (by decide) ?_
    replace hs := Option.some.inj hs
    subst hs
    exact W.iret (v := 0) hx hb hr (fun t ht hW => ⟨⟨0, (), rfl, rfl, by rw [ht]; exact hP, va_K.moved hW.alike hK, hD⟩, hS.F ht⟩) hS.2.2 dX6_removeLast_8
noncomputable def pX6_hasSetIn (r_ins : Nat → Int32) (p1 : Int32) : Option (Int32) :=
  gd (vp_in p1 1024) (if (r_ins p1.toNatClampNeg) ≤ 0 then (some 0) else (some 1))
set_option maxHeartbeats 4000000 in
set_option maxRecDepth 100000 in
theorem c_X6_hasSetIn (l : Launch) (dC : Nat → ClassId) (dI : Nat → Nat → Nat) (a_r : Nat) (a_r_rows : Nat) (a_r_ins : Nat) (c_r_ins : ClassId) (sz : Nat) (r_size : Int32) (r_n : Int32) (r_parts : Int32) (r_ins : Nat → Int32) (p1 : Int32) (rv : Int32) (hs : pX6_hasSetIn r_ins p1 = some rv) : Met l yX6_hasSetIn wsX6_hasSetIn ({ frames := 0, cells := 0, slots := 0, locals := 0 }) (sPc [.ref a_r, .int p1] (dC, dI) [(c_r_ins, .int)] [(a_r, .inr (6, [.ref a_r_rows, .ref a_r_ins, .int r_size, .int r_n, .int r_parts])), (a_r_ins, .inl (c_r_ins, 1024, .inl r_ins))] sz) (va_Qi (fun (r : Int32) (_ : Unit) => r = rv) (sB (dC, dI) [(c_r_ins, .int)] (va_A [(a_r, .inr (6, [.ref a_r_rows, .ref a_r_ins, .int r_size, .int r_n, .int r_parts])), (a_r_ins, .inl (c_r_ins, 1024, .inl r_ins))] sz) [(a_r, .inr (6, [.ref a_r_rows, .ref a_r_ins, .int r_size, .int r_n, .int r_parts])), (a_r_ins, .inl (c_r_ins, 1024, .inl r_ins))]) (va_A [(a_r, .inr (6, [.ref a_r_rows, .ref a_r_ins, .int r_size, .int r_n, .int r_parts])), (a_r_ins, .inl (c_r_ins, 1024, .inl r_ins))] sz)) 0 0 (va_A [(a_r, .inr (6, [.ref a_r_rows, .ref a_r_ins, .int r_size, .int r_n, .int r_parts])), (a_r_ins, .inl (c_r_ins, 1024, .inl r_ins))] sz) := by
  refine Met.ofW (cc := cX6_hasSetIn) (maxL := 2) (ret := (some .boolean)) (by decide) rfl ?_
  intro p e s m args below meth c s₁ B hml hv
  obtain ⟨rfl, hsz, hP, hK, hD0, hN⟩ := hv
  have hx := B.exec
  have hb := B.bytes
  have hr := B.returns
  have hts := atoms_spec (ws := wsX6_hasSetIn) B.pre
  have hown : s.vm.findClass RX6 = some m.cls := findClass_of_methodNamed B.named
  have hlocks := B.notSynchronized
  subst hsz
  have hD := hD0.self (sz := s.heap.size)
  generalize hAe : va_A [(a_r, .inr (6, [.ref a_r_rows, .ref a_r_ins, .int r_size, .int r_n, .int r_parts])), (a_r_ins, .inl (c_r_ins, 1024, .inl r_ins))] s.heap.size = A at hD hN ⊢
  have hA : ∀ q : Nat, s.heap.size ≤ q → A q := fun q h => by rw [← hAe]; exact Or.inr h
  have hS : va_S A s.heap s.heap [] := va_S.rf
  have hP : va_P (dC, dI) vwCl [(a_r, .inr (6, [.ref a_r_rows, .ref a_r_ins, .int r_size, .int r_n, .int r_parts])), (a_r_ins, .inl (c_r_ins, 1024, .inl r_ins))] s.heap := hP
  have hl := lv_entry ([.ref a_r, .int p1]) (n := 2) (Nat.le_of_ble_eq_true rfl)
  rw [lg_entry_eq]
  generalize (lg_sl ([.ref a_r, .int p1]) ++ List.replicate (2 - (lg_sl ([.ref a_r, .int p1])).length) Slot.unset).toArray = ls at hl ⊢
  have hl : lv_has ls 2 [(0, .ref a_r), (1, .int p1)] := hl
  have hiX6 : ∀ w ∈ wsX60, w ∈ wsX6_hasSetIn := fun _ h => List.mem_cons_of_mem _ (List.mem_append_right _ h)
  have hf15 := hts (.fieldLink RX6 15 "MeetSets$SetRow" "inside" "[I") (t1_ (al_ h1_))
  refine w_abs (fun Z hZv hZw => ?_)
  refine hZv ?_
  obtain ⟨H, hH⟩ : ∃ H, H = s.heap := ⟨_, rfl⟩
  obtain ⟨locs, hlo⟩ : ∃ L : List Loc, L = [] := ⟨_, rfl⟩
  rw [← hlo, ← hH]
  have hS : va_S A s.heap H locs := by rw [hlo, hH]; exact hS
  have hP : va_P (dC, dI) vwCl [(a_r, .inr (6, [.ref a_r_rows, .ref a_r_ins, .int r_size, .int r_n, .int r_parts])), (a_r_ins, .inl (c_r_ins, 1024, .inl r_ins))] H := by rw [hH]; exact hP
  clear hH hlo
  unfold pX6_hasSetIn at hs
  refine lv_aload_n hx hb dX6_hasSetIn_0 rfl (lv_at hl 0 rfl) ?_
  refine va_get (D := (dC, dI)) (ci := 6) (v := .ref a_r_ins) (C := RX6) (T := TX6) (N := 5) hx hb hts hiX6 hown hK hP 0 rfl rfl 1 (by decide) hf15 (fun _ h9 => h9) rfl dX6_hasSetIn_1 ?_
  refine lv_iload_n hx hb dX6_hasSetIn_4 rfl (lv_at hl 1 rfl) ?_
  obtain ⟨hg1, hs⟩ := gd_s hs
  refine va_iald hx hb hK hP 1 0 rfl rfl hg1 dX6_hasSetIn_5 ?_
  refine lv_if_le (tgt := 13) hx hb dX6_hasSetIn_6 (by decide) (fun hc => ?_) (fun hc => ?_)
  · replace hs := it_t hc hs
    refine lv_iconst (v := 0) hx hb dX6_hasSetIn_13 (by decide) ?_
    replace hs := Option.some.inj hs
    subst hs
    exact W.zret (v := 0) (ty := .boolean) hx hb hr rfl (fun t ht hW => ⟨⟨0, (), rfl, rfl, by rw [ht]; exact hP, va_K.moved hW.alike hK, hD⟩, hS.F ht⟩) hS.2.2 dX6_hasSetIn_14
  · replace hs := it_f hc hs
    refine lv_iconst (v := 1) hx hb dX6_hasSetIn_9 (by decide) ?_
    refine lv_goto (tgt := 14) hx hb dX6_hasSetIn_10 (by decide) ?_
    replace hs := Option.some.inj hs
    subst hs
    exact W.zret (v := 1) (ty := .boolean) hx hb hr rfl (fun t ht hW => ⟨⟨1, (), rfl, rfl, by rw [ht]; exact hP, va_K.moved hW.alike hK, hD⟩, hS.F ht⟩) hS.2.2 dX6_hasSetIn_14
noncomputable def pX6_isMeeter (r_parts : Int32) (r_ins : Nat → Int32) (p1 : Int32) : Option (Int32) :=
  gd (vp_in ((r_parts - 1) ^^^ p1) 1024) (if (r_ins ((r_parts - 1) ^^^ p1).toNatClampNeg) = 0 then (some 1) else (some 0))
set_option maxHeartbeats 4000000 in
set_option maxRecDepth 100000 in
theorem c_X6_isMeeter (l : Launch) (dC : Nat → ClassId) (dI : Nat → Nat → Nat) (a_r : Nat) (a_r_rows : Nat) (a_r_ins : Nat) (c_r_ins : ClassId) (sz : Nat) (r_size : Int32) (r_n : Int32) (r_parts : Int32) (r_ins : Nat → Int32) (p1 : Int32) (rv : Int32) (hs : pX6_isMeeter r_parts r_ins p1 = some rv) : Met l yX6_isMeeter wsX6_isMeeter ({ frames := 0, cells := 0, slots := 0, locals := 0 }) (sPc [.ref a_r, .int p1] (dC, dI) [(c_r_ins, .int)] [(a_r, .inr (6, [.ref a_r_rows, .ref a_r_ins, .int r_size, .int r_n, .int r_parts])), (a_r_ins, .inl (c_r_ins, 1024, .inl r_ins))] sz) (va_Qi (fun (r : Int32) (_ : Unit) => r = rv) (sB (dC, dI) [(c_r_ins, .int)] (va_A [(a_r, .inr (6, [.ref a_r_rows, .ref a_r_ins, .int r_size, .int r_n, .int r_parts])), (a_r_ins, .inl (c_r_ins, 1024, .inl r_ins))] sz) [(a_r, .inr (6, [.ref a_r_rows, .ref a_r_ins, .int r_size, .int r_n, .int r_parts])), (a_r_ins, .inl (c_r_ins, 1024, .inl r_ins))]) (va_A [(a_r, .inr (6, [.ref a_r_rows, .ref a_r_ins, .int r_size, .int r_n, .int r_parts])), (a_r_ins, .inl (c_r_ins, 1024, .inl r_ins))] sz)) 0 0 (va_A [(a_r, .inr (6, [.ref a_r_rows, .ref a_r_ins, .int r_size, .int r_n, .int r_parts])), (a_r_ins, .inl (c_r_ins, 1024, .inl r_ins))] sz) := by
  refine Met.ofW (cc := cX6_isMeeter) (maxL := 2) (ret := (some .boolean)) (by decide) rfl ?_
  intro p e s m args below meth c s₁ B hml hv
  obtain ⟨rfl, hsz, hP, hK, hD0, hN⟩ := hv
  have hx := B.exec
  have hb := B.bytes
  have hr := B.returns
  have hts := atoms_spec (ws := wsX6_isMeeter) B.pre
  have hown : s.vm.findClass RX6 = some m.cls := findClass_of_methodNamed B.named
  have hlocks := B.notSynchronized
  subst hsz
  have hD := hD0.self (sz := s.heap.size)
  generalize hAe : va_A [(a_r, .inr (6, [.ref a_r_rows, .ref a_r_ins, .int r_size, .int r_n, .int r_parts])), (a_r_ins, .inl (c_r_ins, 1024, .inl r_ins))] s.heap.size = A at hD hN ⊢
  have hA : ∀ q : Nat, s.heap.size ≤ q → A q := fun q h => by rw [← hAe]; exact Or.inr h
  have hS : va_S A s.heap s.heap [] := va_S.rf
  have hP : va_P (dC, dI) vwCl [(a_r, .inr (6, [.ref a_r_rows, .ref a_r_ins, .int r_size, .int r_n, .int r_parts])), (a_r_ins, .inl (c_r_ins, 1024, .inl r_ins))] s.heap := hP
  have hl := lv_entry ([.ref a_r, .int p1]) (n := 2) (Nat.le_of_ble_eq_true rfl)
  rw [lg_entry_eq]
  generalize (lg_sl ([.ref a_r, .int p1]) ++ List.replicate (2 - (lg_sl ([.ref a_r, .int p1])).length) Slot.unset).toArray = ls at hl ⊢
  have hl : lv_has ls 2 [(0, .ref a_r), (1, .int p1)] := hl
  have hiX6 : ∀ w ∈ wsX60, w ∈ wsX6_isMeeter := fun _ h => List.mem_cons_of_mem _ (List.mem_append_right _ h)
  have hf15 := hts (.fieldLink RX6 15 "MeetSets$SetRow" "inside" "[I") (t1_ (al_ h1_))
  have hf25 := hts (.fieldLink RX6 25 "MeetSets$SetRow" "parts" "I") (t1_ (al_ (t1_ h1_)))
  refine w_abs (fun Z hZv hZw => ?_)
  refine hZv ?_
  obtain ⟨H, hH⟩ : ∃ H, H = s.heap := ⟨_, rfl⟩
  obtain ⟨locs, hlo⟩ : ∃ L : List Loc, L = [] := ⟨_, rfl⟩
  rw [← hlo, ← hH]
  have hS : va_S A s.heap H locs := by rw [hlo, hH]; exact hS
  have hP : va_P (dC, dI) vwCl [(a_r, .inr (6, [.ref a_r_rows, .ref a_r_ins, .int r_size, .int r_n, .int r_parts])), (a_r_ins, .inl (c_r_ins, 1024, .inl r_ins))] H := by rw [hH]; exact hP
  clear hH hlo
  unfold pX6_isMeeter at hs
  refine lv_aload_n hx hb dX6_isMeeter_0 rfl (lv_at hl 0 rfl) ?_
  refine va_get (D := (dC, dI)) (ci := 6) (v := .ref a_r_ins) (C := RX6) (T := TX6) (N := 5) hx hb hts hiX6 hown hK hP 0 rfl rfl 1 (by decide) hf15 (fun _ h9 => h9) rfl dX6_isMeeter_1 ?_
  refine lv_aload_n hx hb dX6_isMeeter_4 rfl (lv_at hl 0 rfl) ?_
  refine va_get (D := (dC, dI)) (ci := 6) (v := .int r_parts) (C := RX6) (T := TX6) (N := 5) hx hb hts hiX6 hown hK hP 0 rfl rfl 4 (by decide) hf25 (fun _ h9 => h9) rfl dX6_isMeeter_5 ?_
  refine lv_iconst (v := 1) hx hb dX6_isMeeter_8 (by decide) ?_
  refine lv_isub hx hb dX6_isMeeter_9 ?_
  refine lv_iload_n hx hb dX6_isMeeter_10 rfl (lv_at hl 1 rfl) ?_
  refine lv_ixor hx hb dX6_isMeeter_11 ?_
  obtain ⟨hg1, hs⟩ := gd_s hs
  refine va_iald hx hb hK hP 1 0 rfl rfl hg1 dX6_isMeeter_12 ?_
  refine lv_if_ne (tgt := 20) hx hb dX6_isMeeter_13 (by decide) (fun hc => ?_) (fun hc => ?_)
  · replace hs := it_f hc hs
    refine lv_iconst (v := 0) hx hb dX6_isMeeter_20 (by decide) ?_
    replace hs := Option.some.inj hs
    subst hs
    exact W.zret (v := 0) (ty := .boolean) hx hb hr rfl (fun t ht hW => ⟨⟨0, (), rfl, rfl, by rw [ht]; exact hP, va_K.moved hW.alike hK, hD⟩, hS.F ht⟩) hS.2.2 dX6_isMeeter_21
  · replace hs := it_t hc hs
    refine lv_iconst (v := 1) hx hb dX6_isMeeter_16 (by decide) ?_
    refine lv_goto (tgt := 21) hx hb dX6_isMeeter_17 (by decide) ?_
    replace hs := Option.some.inj hs
    subst hs
    exact W.zret (v := 1) (ty := .boolean) hx hb hr rfl (fun t ht hW => ⟨⟨1, (), rfl, rfl, by rw [ht]; exact hP, va_K.moved hW.alike hK, hD⟩, hS.F ht⟩) hS.2.2 dX6_isMeeter_21
noncomputable def pX6_isLeastMeeter_L12 (r_n : Int32) (r_parts : Int32) (r_ins : Nat → Int32) (p1 : Int32) (s12 : Int32) : Option ((Int32) ⊕ ((Unit) ⊕ (Unit))) :=
  if r_n ≤ s12 then (some (Sum.inr (Sum.inr ()))) else (Option.bind (pX9_has p1 s12) (fun r3 => if r3 = 0 then (some (Sum.inl (s12 + 1))) else (Option.bind (pX6_isMeeter r_parts r_ins (p1 ^^^ (1 <<< (s12 &&& 31)))) (fun r4 => if r4 = 0 then (some (Sum.inl (s12 + 1))) else (some (Sum.inr (Sum.inl ())))))))
noncomputable def pX6_isLeastMeeter (r_n : Int32) (r_parts : Int32) (r_ins : Nat → Int32) (p1 : Int32) : Option (Int32) :=
  Option.bind (pX6_isMeeter r_parts r_ins p1) (fun r1 => if r1 = 0 then (some 0) else (Option.bind (lp (pX6_isLeastMeeter_L12 r_n r_parts r_ins p1) 0) (Sum.elim (fun e12_0 => some 0) (fun e12_1 => some 1))))
set_option maxHeartbeats 4000000 in
set_option maxRecDepth 100000 in
theorem c_X6_isLeastMeeter (l : Launch) (dC : Nat → ClassId) (dI : Nat → Nat → Nat) (a_r : Nat) (a_r_rows : Nat) (a_r_ins : Nat) (c_r_ins : ClassId) (sz : Nat) (r_size : Int32) (r_n : Int32) (r_parts : Int32) (r_ins : Nat → Int32) (p1 : Int32) (rv : Int32) (hs : pX6_isLeastMeeter r_n r_parts r_ins p1 = some rv) : Met l yX6_isLeastMeeter wsX6_isLeastMeeter ({ frames := 1, cells := 0, slots := 0, locals := 21 }) (sPc [.ref a_r, .int p1] (dC, dI) [(c_r_ins, .int)] [(a_r, .inr (6, [.ref a_r_rows, .ref a_r_ins, .int r_size, .int r_n, .int r_parts])), (a_r_ins, .inl (c_r_ins, 1024, .inl r_ins))] sz) (va_Qi (fun (r : Int32) (_ : Unit) => r = rv) (sB (dC, dI) [(c_r_ins, .int)] (va_A [(a_r, .inr (6, [.ref a_r_rows, .ref a_r_ins, .int r_size, .int r_n, .int r_parts])), (a_r_ins, .inl (c_r_ins, 1024, .inl r_ins))] sz) [(a_r, .inr (6, [.ref a_r_rows, .ref a_r_ins, .int r_size, .int r_n, .int r_parts])), (a_r_ins, .inl (c_r_ins, 1024, .inl r_ins))]) (va_A [(a_r, .inr (6, [.ref a_r_rows, .ref a_r_ins, .int r_size, .int r_n, .int r_parts])), (a_r_ins, .inl (c_r_ins, 1024, .inl r_ins))] sz)) 0 0 (va_A [(a_r, .inr (6, [.ref a_r_rows, .ref a_r_ins, .int r_size, .int r_n, .int r_parts])), (a_r_ins, .inl (c_r_ins, 1024, .inl r_ins))] sz) := by
  refine Met.ofW (cc := cX6_isLeastMeeter) (maxL := 3) (ret := (some .boolean)) (by decide) rfl ?_
  intro p e s m args below meth c s₁ B hml hv
  obtain ⟨rfl, hsz, hP, hK, hD0, hN⟩ := hv
  have hx := B.exec
  have hb := B.bytes
  have hr := B.returns
  have hts := atoms_spec (ws := wsX6_isLeastMeeter) B.pre
  have hown : s.vm.findClass RX6 = some m.cls := findClass_of_methodNamed B.named
  have hlocks := B.notSynchronized
  subst hsz
  have hD := hD0.self (sz := s.heap.size)
  generalize hAe : va_A [(a_r, .inr (6, [.ref a_r_rows, .ref a_r_ins, .int r_size, .int r_n, .int r_parts])), (a_r_ins, .inl (c_r_ins, 1024, .inl r_ins))] s.heap.size = A at hD hN ⊢
  have hA : ∀ q : Nat, s.heap.size ≤ q → A q := fun q h => by rw [← hAe]; exact Or.inr h
  have hS : va_S A s.heap s.heap [] := va_S.rf
  have hP : va_P (dC, dI) vwCl [(a_r, .inr (6, [.ref a_r_rows, .ref a_r_ins, .int r_size, .int r_n, .int r_parts])), (a_r_ins, .inl (c_r_ins, 1024, .inl r_ins))] s.heap := hP
  have hl := lv_entry ([.ref a_r, .int p1]) (n := 3) (Nat.le_of_ble_eq_true rfl)
  rw [lg_entry_eq]
  generalize (lg_sl ([.ref a_r, .int p1]) ++ List.replicate (3 - (lg_sl ([.ref a_r, .int p1])).length) Slot.unset).toArray = ls at hl ⊢
  have hl : lv_has ls 3 [(0, .ref a_r), (1, .int p1)] := hl
  have hiX6 : ∀ w ∈ wsX60, w ∈ wsX6_isLeastMeeter := fun _ h => List.mem_cons_of_mem _ (List.mem_append_right _ h)
  have hf22 := hts (.fieldLink RX6 22 "MeetSets$SetRow" "n" "I") (t1_ (al_ h1_))
  refine w_abs (fun Z hZv hZw => ?_)
  refine hZv ?_
  obtain ⟨H, hH⟩ : ∃ H, H = s.heap := ⟨_, rfl⟩
  obtain ⟨locs, hlo⟩ : ∃ L : List Loc, L = [] := ⟨_, rfl⟩
  rw [← hlo, ← hH]
  have hS : va_S A s.heap H locs := by rw [hlo, hH]; exact hS
  have hP : va_P (dC, dI) vwCl [(a_r, .inr (6, [.ref a_r_rows, .ref a_r_ins, .int r_size, .int r_n, .int r_parts])), (a_r_ins, .inl (c_r_ins, 1024, .inl r_ins))] H := by rw [hH]; exact hP
  clear hH hlo
  unfold pX6_isLeastMeeter at hs
  refine lv_aload_n hx hb dX6_isLeastMeeter_0 rfl (lv_at hl 0 rfl) ?_
  refine lv_iload_n hx hb dX6_isLeastMeeter_1 rfl (lv_at hl 1 rfl) ?_
  obtain ⟨r1, hr1, hs⟩ := bd_s hs
  refine kc_i (isC := [0, 1]) (isR := []) (pm := [0, 1]) (wr := []) (w1 := [(a_r, .inr (6, [.ref a_r_rows, .ref a_r_ins, .int r_size, .int r_n, .int r_parts])), (a_r_ins, .inl (c_r_ins, 1024, .inl r_ins))]) (w2 := [(a_r, .inr (6, [.ref a_r_rows, .ref a_r_ins, .int r_size, .int r_n, .int r_parts])), (a_r_ins, .inl (c_r_ins, 1024, .inl r_ins))]) (va_runV (As := [.int p1]) (rest := []) ⟨hx, hb, hml, hown, hts⟩ (c_X6_isMeeter l dC dI a_r a_r_rows a_r_ins c_r_ins H.size r_size r_n r_parts r_ins p1 r1 hr1) (cwV 1 hts gX6_isLeastMeeter_X6_isMeeter rfl rfl rfl (by decide +kernel) ⟨Nat.le_of_ble_eq_true rfl, Nat.le_of_ble_eq_true rfl⟩) (kp_V hK hP hD hS hA hN (isC := [0, 1]) (isT := [0]) (wc := [(a_r, .inr (6, [.ref a_r_rows, .ref a_r_ins, .int r_size, .int r_n, .int r_parts])), (a_r_ins, .inl (c_r_ins, 1024, .inl r_ins))]) rfl (by decide +kernel) rfl (ci := 6) (q0 := 0) rfl rfl) rfl rfl hl.1 rfl (lv_room (Nat.le_of_ble_eq_true rfl)) dX6_isLeastMeeter_2 ⟨Nat.le_of_ble_eq_true rfl, Nat.le_of_ble_eq_true rfl⟩) hP hD hS hA rfl rfl (by decide +kernel) (by decide +kernel) rfl (by decide +kernel) (fun H locs hP hD hS => ?_)
  refine lv_if_ne (tgt := 10) hx hb dX6_isLeastMeeter_5 (by decide) (fun hc => ?_) (fun hc => ?_)
  · replace hs := it_f hc hs
    refine lv_iconst (v := 0) hx hb dX6_isLeastMeeter_10 (by decide) ?_
    refine lv_istore_n (lv' := [(2, .int 0), (0, .ref a_r), (1, .int p1)]) hx hb dX6_isLeastMeeter_11 rfl hl (by decide) rfl (fun ls hl => ?_)
    obtain ⟨e12, he12, hs⟩ := bd_s hs
    have hX12_0 : ∀ (e12_0 : Unit), (Sum.inl e12_0) = e12 → ∀ (H : Heap) (locs : List Loc) (ls : Array Slot), va_P (dC, dI) vwCl [(a_r, .inr (6, [.ref a_r_rows, .ref a_r_ins, .int r_size, .int r_n, .int r_parts])), (a_r_ins, .inl (c_r_ins, 1024, .inl r_ins))] H → va_D A [(a_r, .inr (6, [.ref a_r_rows, .ref a_r_ins, .int r_size, .int r_n, .int r_parts])), (a_r_ins, .inl (c_r_ins, 1024, .inl r_ins))] → va_S A s.heap H locs → lv_has ls 3 [] → Z H locs 0 0 (F0 m 40 ls []) := by
      intro e12_0 he H locs ls hP hD hS hl
      subst he
      replace hs := sm_l hs
      refine hZv ?_
      refine lv_iconst (v := 0) hx hb dX6_isLeastMeeter_40 (by decide) ?_
      replace hs := Option.some.inj hs
      subst hs
      exact W.zret (v := 0) (ty := .boolean) hx hb hr rfl (fun t ht hW => ⟨⟨0, (), rfl, rfl, by rw [ht]; exact hP, va_K.moved hW.alike hK, hD⟩, hS.F ht⟩) hS.2.2 dX6_isLeastMeeter_41
    have hX12_1 : ∀ (e12_1 : Unit), (Sum.inr e12_1) = e12 → ∀ (H : Heap) (locs : List Loc) (ls : Array Slot), va_P (dC, dI) vwCl [(a_r, .inr (6, [.ref a_r_rows, .ref a_r_ins, .int r_size, .int r_n, .int r_parts])), (a_r_ins, .inl (c_r_ins, 1024, .inl r_ins))] H → va_D A [(a_r, .inr (6, [.ref a_r_rows, .ref a_r_ins, .int r_size, .int r_n, .int r_parts])), (a_r_ins, .inl (c_r_ins, 1024, .inl r_ins))] → va_S A s.heap H locs → lv_has ls 3 [] → Z H locs 0 0 (F0 m 48 ls []) := by
      intro e12_1 he H locs ls hP hD hS hl
      subst he
      replace hs := sm_r hs
      refine hZv ?_
      refine lv_iconst (v := 1) hx hb dX6_isLeastMeeter_48 (by decide) ?_
      replace hs := Option.some.inj hs
      subst hs
      exact W.zret (v := 1) (ty := .boolean) hx hb hr rfl (fun t ht hW => ⟨⟨1, (), rfl, rfl, by rw [ht]; exact hP, va_K.moved hW.alike hK, hD⟩, hS.F ht⟩) hS.2.2 dX6_isLeastMeeter_49
    clear hs
    have hL12 : ∀ (n : Nat) (s12 : Int32) (H : Heap) (locs : List Loc) (ls : Array Slot), itr (pX6_isLeastMeeter_L12 r_n r_parts r_ins p1) n s12 = some e12 → va_P (dC, dI) vwCl [(a_r, .inr (6, [.ref a_r_rows, .ref a_r_ins, .int r_size, .int r_n, .int r_parts])), (a_r_ins, .inl (c_r_ins, 1024, .inl r_ins))] H → va_D A [(a_r, .inr (6, [.ref a_r_rows, .ref a_r_ins, .int r_size, .int r_n, .int r_parts])), (a_r_ins, .inl (c_r_ins, 1024, .inl r_ins))] → va_S A s.heap H locs → lv_has ls 3 [(0, .ref a_r), (1, .int p1), (2, .int s12)] → Z H locs 0 0 (F0 m 12 ls []) := by
      intro n
      induction n with
      | zero =>
        intro s12 H locs ls hn
        exact (itr_0 hn).elim
      | succ n ih =>
        intro s12 H locs ls hn hP hD hS hl
        obtain ⟨y2, hs, hn⟩ := itr_s hn
        unfold pX6_isLeastMeeter_L12 at hs
        refine hZv ?_
        refine lv_iload_n hx hb dX6_isLeastMeeter_12 rfl (lv_at hl 2 rfl) ?_
        refine lv_aload_n hx hb dX6_isLeastMeeter_13 rfl (lv_at hl 0 rfl) ?_
        refine va_get (D := (dC, dI)) (ci := 6) (v := .int r_n) (C := RX6) (T := TX6) (N := 5) hx hb hts hiX6 hown hK hP 0 rfl rfl 3 (by decide) hf22 (fun _ h9 => h9) rfl dX6_isLeastMeeter_14 ?_
        refine lv_icmp_ge (tgt := 48) hx hb dX6_isLeastMeeter_17 (by decide) (fun hc => ?_) (fun hc => ?_)
        · replace hs := it_t hc hs
          replace hs := Option.some.inj hs
          subst hs
          obtain rfl : (Sum.inr ()) = e12 := hn
          exact hZw (hX12_1 () rfl H locs ls hP hD hS (lv_sub hl [] rfl))
        · replace hs := it_f hc hs
          refine lv_iload_n hx hb dX6_isLeastMeeter_20 rfl (lv_at hl 1 rfl) ?_
          refine lv_iload_n hx hb dX6_isLeastMeeter_21 rfl (lv_at hl 2 rfl) ?_
          obtain ⟨r3, hr3, hs⟩ := bd_s hs
          refine kc_i (isC := []) (isR := [0, 1]) (pm := [0, 1]) (wr := [(a_r, .inr (6, [.ref a_r_rows, .ref a_r_ins, .int r_size, .int r_n, .int r_parts])), (a_r_ins, .inl (c_r_ins, 1024, .inl r_ins))]) (w1 := []) (w2 := [(a_r, .inr (6, [.ref a_r_rows, .ref a_r_ins, .int r_size, .int r_n, .int r_parts])), (a_r_ins, .inl (c_r_ins, 1024, .inl r_ins))]) (va_runSN (As := [.int p1, .int s12]) (rest := []) ⟨hx, hb, hml, hown, hts⟩ (c_X9_has l dC dI H.size p1 s12 r3 hr3) ⟨va_cnB 2 hts gX6_isLeastMeeter_X9_has_n46 rfl rfl rfl hN.1.1 (hts (.initialized RX9) (t1_ (al_ (t4_ (t4_ (t1_ h1_)))))) (by decide +kernel) ⟨Nat.le_of_ble_eq_true rfl, Nat.le_of_ble_eq_true rfl⟩, hts (.static yX9_has) (t1_ (al_ (t4_ (t4_ h1_)))), trivial⟩ (kp_S hK hP hD hS hA hN (isC := []) (isT := []) (wc := []) rfl (by decide +kernel) rfl) rfl rfl hl.1 rfl (lv_room (Nat.le_of_ble_eq_true rfl)) dX6_isLeastMeeter_22 ⟨Nat.le_of_ble_eq_true rfl, Nat.le_of_ble_eq_true rfl⟩) hP hD hS hA rfl rfl (by decide +kernel) (by decide +kernel) rfl (by decide +kernel) (fun H locs hP hD hS => ?_)
          refine lv_if_eq (tgt := 42) hx hb dX6_isLeastMeeter_25 (by decide) (fun hc => ?_) (fun hc => ?_)
          · replace hs := it_t hc hs
            refine lv_iinc (v := s12 + 1) (lv' := [(2, .int (s12 + 1)), (0, .ref a_r), (1, .int p1)]) hx hb dX6_isLeastMeeter_42 hl (k := 2) rfl (by rfl) (by decide) rfl (fun ls hl => ?_)
            refine lv_goto (tgt := 12) hx hb dX6_isLeastMeeter_45 (by decide) ?_
            replace hs := Option.some.inj hs
            subst hs
            exact hZw (ih (s12 + 1) H locs ls hn hP hD hS (lv_sub hl [1, 2, 0] rfl))
          · replace hs := it_f hc hs
            refine lv_aload_n hx hb dX6_isLeastMeeter_28 rfl (lv_at hl 0 rfl) ?_
            refine lv_iload_n hx hb dX6_isLeastMeeter_29 rfl (lv_at hl 1 rfl) ?_
            refine lv_iconst (v := 1) hx hb dX6_isLeastMeeter_30 (by decide) ?_
            refine lv_iload_n hx hb dX6_isLeastMeeter_31 rfl (lv_at hl 2 rfl) ?_
            refine lv_ishl hx hb dX6_isLeastMeeter_32 ?_
            refine lv_ixor hx hb dX6_isLeastMeeter_33 ?_
            obtain ⟨r4, hr4, hs⟩ := bd_s hs
            refine kc_i (isC := [0, 1]) (isR := []) (pm := [0, 1]) (wr := []) (w1 := [(a_r, .inr (6, [.ref a_r_rows, .ref a_r_ins, .int r_size, .int r_n, .int r_parts])), (a_r_ins, .inl (c_r_ins, 1024, .inl r_ins))]) (w2 := [(a_r, .inr (6, [.ref a_r_rows, .ref a_r_ins, .int r_size, .int r_n, .int r_parts])), (a_r_ins, .inl (c_r_ins, 1024, .inl r_ins))]) (va_runV (As := [.int (p1 ^^^ (1 <<< (s12 &&& 31)))]) (rest := []) ⟨hx, hb, hml, hown, hts⟩ (c_X6_isMeeter l dC dI a_r a_r_rows a_r_ins c_r_ins H.size r_size r_n r_parts r_ins (p1 ^^^ (1 <<< (s12 &&& 31))) r4 hr4) (cwV 1 hts gX6_isLeastMeeter_X6_isMeeter rfl rfl rfl (by decide +kernel) ⟨Nat.le_of_ble_eq_true rfl, Nat.le_of_ble_eq_true rfl⟩) (kp_V hK hP hD hS hA hN (isC := [0, 1]) (isT := [0]) (wc := [(a_r, .inr (6, [.ref a_r_rows, .ref a_r_ins, .int r_size, .int r_n, .int r_parts])), (a_r_ins, .inl (c_r_ins, 1024, .inl r_ins))]) rfl (by decide +kernel) rfl (ci := 6) (q0 := 0) rfl rfl) rfl rfl hl.1 rfl (lv_room (Nat.le_of_ble_eq_true rfl)) dX6_isLeastMeeter_34 ⟨Nat.le_of_ble_eq_true rfl, Nat.le_of_ble_eq_true rfl⟩) hP hD hS hA rfl rfl (by decide +kernel) (by decide +kernel) rfl (by decide +kernel) (fun H locs hP hD hS => ?_)
            refine lv_if_eq (tgt := 42) hx hb dX6_isLeastMeeter_37 (by decide) (fun hc => ?_) (fun hc => ?_)
            · replace hs := it_t hc hs
              refine lv_iinc (v := s12 + 1) (lv' := [(2, .int (s12 + 1)), (0, .ref a_r), (1, .int p1)]) hx hb dX6_isLeastMeeter_42 hl (k := 2) rfl (by rfl) (by decide) rfl (fun ls hl => ?_)
              refine lv_goto (tgt := 12) hx hb dX6_isLeastMeeter_45 (by decide) ?_
              replace hs := Option.some.inj hs
              subst hs
              exact hZw (ih (s12 + 1) H locs ls hn hP hD hS (lv_sub hl [1, 2, 0] rfl))
            · replace hs := it_f hc hs
              replace hs := Option.some.inj hs
              subst hs
              obtain rfl : (Sum.inl ()) = e12 := hn
              exact hZw (hX12_0 () rfl H locs ls hP hD hS (lv_sub hl [] rfl))
    obtain ⟨n12, hn12⟩ := lp_ex he12
    exact hZw (hL12 n12 0 H locs ls hn12 hP hD hS (lv_sub hl [1, 2, 0] rfl))
  · replace hs := it_t hc hs
    refine lv_iconst (v := 0) hx hb dX6_isLeastMeeter_8 (by decide) ?_
    replace hs := Option.some.inj hs
    subst hs
    exact W.zret (v := 0) (ty := .boolean) hx hb hr rfl (fun t ht hW => ⟨⟨0, (), rfl, rfl, by rw [ht]; exact hP, va_K.moved hW.alike hK, hD⟩, hS.F ht⟩) hS.2.2 dX6_isLeastMeeter_9
noncomputable def pX6_mixedInto_L5 (r_len : Nat) (r_size : Int32) (r_rows : Nat → Int32) (s5 : Int64 × Int32) : Option ((Int64 × Int32) ⊕ (Int64)) :=
  if r_size ≤ s5.2 then (some (Sum.inr s5.1)) else (gd (vp_in s5.2 r_len) (some (Sum.inl ((31 * s5.1) + ((r_rows s5.2.toNatClampNeg).toInt64), s5.2 + 1))))
noncomputable def pX6_mixedInto (r_len : Nat) (r_size : Int32) (r_rows : Nat → Int32) (p1 : Int64) : Option (Int64) :=
  Option.bind (lp (pX6_mixedInto_L5 r_len r_size r_rows) (p1, 0)) (fun e5 => some e5)
set_option maxHeartbeats 4000000 in
set_option maxRecDepth 100000 in
theorem c_X6_mixedInto (l : Launch) (dC : Nat → ClassId) (dI : Nat → Nat → Nat) (a_r : Nat) (a_r_rows : Nat) (a_r_ins : Nat) (c_r_rows : ClassId) (r_len : Nat) (sz : Nat) (r_size : Int32) (r_n : Int32) (r_parts : Int32) (r_rows : Nat → Int32) (p1 : Int64) (rv : Int64) (hs : pX6_mixedInto r_len r_size r_rows p1 = some rv) : Met l yX6_mixedInto wsX6_mixedInto ({ frames := 0, cells := 0, slots := 0, locals := 0 }) (sPc [.ref a_r, .long p1] (dC, dI) [(c_r_rows, .int)] [(a_r, .inr (6, [.ref a_r_rows, .ref a_r_ins, .int r_size, .int r_n, .int r_parts])), (a_r_rows, .inl (c_r_rows, r_len, .inl r_rows))] sz) (va_Ql (fun (r : Int64) (_ : Unit) => r = rv) (sB (dC, dI) [(c_r_rows, .int)] (va_A [(a_r, .inr (6, [.ref a_r_rows, .ref a_r_ins, .int r_size, .int r_n, .int r_parts])), (a_r_rows, .inl (c_r_rows, r_len, .inl r_rows))] sz) [(a_r, .inr (6, [.ref a_r_rows, .ref a_r_ins, .int r_size, .int r_n, .int r_parts])), (a_r_rows, .inl (c_r_rows, r_len, .inl r_rows))]) (va_A [(a_r, .inr (6, [.ref a_r_rows, .ref a_r_ins, .int r_size, .int r_n, .int r_parts])), (a_r_rows, .inl (c_r_rows, r_len, .inl r_rows))] sz)) 0 0 (va_A [(a_r, .inr (6, [.ref a_r_rows, .ref a_r_ins, .int r_size, .int r_n, .int r_parts])), (a_r_rows, .inl (c_r_rows, r_len, .inl r_rows))] sz) := by
  refine Met.ofW (cc := cX6_mixedInto) (maxL := 6) (ret := (some .long)) (by decide) rfl ?_
  intro p e s m args below meth c s₁ B hml hv
  obtain ⟨rfl, hsz, hP, hK, hD0, hN⟩ := hv
  have hx := B.exec
  have hb := B.bytes
  have hr := B.returns
  have hts := atoms_spec (ws := wsX6_mixedInto) B.pre
  have hown : s.vm.findClass RX6 = some m.cls := findClass_of_methodNamed B.named
  have hlocks := B.notSynchronized
  subst hsz
  have hD := hD0.self (sz := s.heap.size)
  generalize hAe : va_A [(a_r, .inr (6, [.ref a_r_rows, .ref a_r_ins, .int r_size, .int r_n, .int r_parts])), (a_r_rows, .inl (c_r_rows, r_len, .inl r_rows))] s.heap.size = A at hD hN ⊢
  have hA : ∀ q : Nat, s.heap.size ≤ q → A q := fun q h => by rw [← hAe]; exact Or.inr h
  have hS : va_S A s.heap s.heap [] := va_S.rf
  have hP : va_P (dC, dI) vwCl [(a_r, .inr (6, [.ref a_r_rows, .ref a_r_ins, .int r_size, .int r_n, .int r_parts])), (a_r_rows, .inl (c_r_rows, r_len, .inl r_rows))] s.heap := hP
  have hl := lv_entry ([.ref a_r, .long p1]) (n := 6) (Nat.le_of_ble_eq_true rfl)
  rw [lg_entry_eq]
  generalize (lg_sl ([.ref a_r, .long p1]) ++ List.replicate (6 - (lg_sl ([.ref a_r, .long p1])).length) Slot.unset).toArray = ls at hl ⊢
  have hl : lv_has ls 6 [(0, .ref a_r), (1, .long p1)] := hl
  have hiX6 : ∀ w ∈ wsX60, w ∈ wsX6_mixedInto := fun _ h => List.mem_cons_of_mem _ (List.mem_append_right _ h)
  have hf18 := hts (.fieldLink RX6 18 "MeetSets$SetRow" "size" "I") (t1_ (al_ h1_))
  have hf9 := hts (.fieldLink RX6 9 "MeetSets$SetRow" "rows" "[I") (t1_ (al_ (t1_ (t1_ h1_))))
  refine w_abs (fun Z hZv hZw => ?_)
  refine hZv ?_
  obtain ⟨H, hH⟩ : ∃ H, H = s.heap := ⟨_, rfl⟩
  obtain ⟨locs, hlo⟩ : ∃ L : List Loc, L = [] := ⟨_, rfl⟩
  rw [← hlo, ← hH]
  have hS : va_S A s.heap H locs := by rw [hlo, hH]; exact hS
  have hP : va_P (dC, dI) vwCl [(a_r, .inr (6, [.ref a_r_rows, .ref a_r_ins, .int r_size, .int r_n, .int r_parts])), (a_r_rows, .inl (c_r_rows, r_len, .inl r_rows))] H := by rw [hH]; exact hP
  clear hH hlo
  unfold pX6_mixedInto at hs
  refine lv_lload_n hx hb dX6_mixedInto_0 rfl (lv_at hl 1 rfl) ?_
  refine lv_lstore_n (lv' := [(3, .long p1), (0, .ref a_r), (1, .long p1)]) hx hb dX6_mixedInto_1 rfl hl (by decide) rfl (fun ls hl => ?_)
  refine lv_iconst (v := 0) hx hb dX6_mixedInto_2 (by decide) ?_
  refine lv_istore (lv' := [(5, .int 0), (3, .long p1), (0, .ref a_r), (1, .long p1)]) hx hb dX6_mixedInto_3 hl (by decide) rfl (fun ls hl => ?_)
  obtain ⟨e5, he5, hs⟩ := bd_s hs
  have hX5 : ∀ (H : Heap) (locs : List Loc) (ls : Array Slot), va_P (dC, dI) vwCl [(a_r, .inr (6, [.ref a_r_rows, .ref a_r_ins, .int r_size, .int r_n, .int r_parts])), (a_r_rows, .inl (c_r_rows, r_len, .inl r_rows))] H → va_D A [(a_r, .inr (6, [.ref a_r_rows, .ref a_r_ins, .int r_size, .int r_n, .int r_parts])), (a_r_rows, .inl (c_r_rows, r_len, .inl r_rows))] → va_S A s.heap H locs → lv_has ls 6 [(3, .long e5)] → Z H locs 0 0 (F0 m 35 ls []) := by
    intro H locs ls hP hD hS hl
    refine hZv ?_
    refine lv_lload_n hx hb dX6_mixedInto_35 rfl (lv_at hl 0 rfl) ?_
    replace hs := Option.some.inj hs
    subst hs
    exact W.lret (v := e5) hx hb hr (fun t ht hW => ⟨⟨e5, (), rfl, rfl, by rw [ht]; exact hP, va_K.moved hW.alike hK, hD⟩, hS.F ht⟩) hS.2.2 dX6_mixedInto_36
  clear hs
  have hL5 : ∀ (n : Nat) (s5 : Int64 × Int32) (H : Heap) (locs : List Loc) (ls : Array Slot), itr (pX6_mixedInto_L5 r_len r_size r_rows) n s5 = some e5 → va_P (dC, dI) vwCl [(a_r, .inr (6, [.ref a_r_rows, .ref a_r_ins, .int r_size, .int r_n, .int r_parts])), (a_r_rows, .inl (c_r_rows, r_len, .inl r_rows))] H → va_D A [(a_r, .inr (6, [.ref a_r_rows, .ref a_r_ins, .int r_size, .int r_n, .int r_parts])), (a_r_rows, .inl (c_r_rows, r_len, .inl r_rows))] → va_S A s.heap H locs → lv_has ls 6 [(0, .ref a_r), (3, .long s5.1), (5, .int s5.2)] → Z H locs 0 0 (F0 m 5 ls []) := by
    intro n
    induction n with
    | zero =>
      intro s5 H locs ls hn
      exact (itr_0 hn).elim
    | succ n ih =>
      intro s5 H locs ls hn hP hD hS hl
      obtain ⟨y1, hs, hn⟩ := itr_s hn
      unfold pX6_mixedInto_L5 at hs
      refine hZv ?_
      refine lv_iload hx hb dX6_mixedInto_5 (lv_at hl 2 rfl) ?_
      refine lv_aload_n hx hb dX6_mixedInto_7 rfl (lv_at hl 0 rfl) ?_
      refine va_get (D := (dC, dI)) (ci := 6) (v := .int r_size) (C := RX6) (T := TX6) (N := 5) hx hb hts hiX6 hown hK hP 0 rfl rfl 2 (by decide) hf18 (fun _ h9 => h9) rfl dX6_mixedInto_8 ?_
      refine lv_icmp_ge (tgt := 35) hx hb dX6_mixedInto_11 (by decide) (fun hc => ?_) (fun hc => ?_)
      · replace hs := it_t hc hs
        replace hs := Option.some.inj hs
        subst hs
        obtain rfl : s5.1 = e5 := hn
        exact hZw (hX5 H locs ls hP hD hS (lv_sub hl [1] rfl))
      · replace hs := it_f hc hs
        refine lv_ldc2 (v := 31) hx hb hown (hts (.constantLong RX6 50 (31)) (t1_ (al_ (t1_ h1_)))) dX6_mixedInto_14 ?_
        refine lv_lload_n hx hb dX6_mixedInto_17 rfl (lv_at hl 1 rfl) ?_
        refine lv_lmul hx hb dX6_mixedInto_18 ?_
        refine lv_aload_n hx hb dX6_mixedInto_19 rfl (lv_at hl 0 rfl) ?_
        refine va_get (D := (dC, dI)) (ci := 6) (v := .ref a_r_rows) (C := RX6) (T := TX6) (N := 5) hx hb hts hiX6 hown hK hP 0 rfl rfl 0 (by decide) hf9 (fun _ h9 => h9) rfl dX6_mixedInto_20 ?_
        refine lv_iload hx hb dX6_mixedInto_23 (lv_at hl 2 rfl) ?_
        obtain ⟨hg2, hs⟩ := gd_s hs
        refine va_iald hx hb hK hP 1 0 rfl rfl hg2 dX6_mixedInto_25 ?_
        refine lv_i2l (v := (r_rows s5.2.toNatClampNeg).toInt64) hx hb dX6_mixedInto_26 rfl ?_
        refine lv_ladd hx hb dX6_mixedInto_27 ?_
        refine lv_lstore_n (lv' := [(3, .long ((31 * s5.1) + ((r_rows s5.2.toNatClampNeg).toInt64))), (0, .ref a_r), (5, .int s5.2)]) hx hb dX6_mixedInto_28 rfl hl (by decide) rfl (fun ls hl => ?_)
        refine lv_iinc (v := s5.2 + 1) (lv' := [(5, .int (s5.2 + 1)), (3, .long ((31 * s5.1) + ((r_rows s5.2.toNatClampNeg).toInt64))), (0, .ref a_r)]) hx hb dX6_mixedInto_29 hl (k := 2) rfl (by rfl) (by decide) rfl (fun ls hl => ?_)
        refine lv_goto (tgt := 5) hx hb dX6_mixedInto_32 (by decide) ?_
        replace hs := Option.some.inj hs
        subst hs
        exact hZw (ih ((31 * s5.1) + ((r_rows s5.2.toNatClampNeg).toInt64), s5.2 + 1) H locs ls hn hP hD hS (lv_sub hl [2, 1, 0] rfl))
  obtain ⟨n5, hn5⟩ := lp_ex he5
  exact hZw (hL5 n5 (p1, 0) H locs ls hn5 hP hD hS (lv_sub hl [2, 1, 0] rfl))
