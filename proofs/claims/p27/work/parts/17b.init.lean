set_option maxHeartbeats 4000000 in
set_option maxRecDepth 100000 in
theorem c_X6_init (l : Launch) (dC : Nat → ClassId) (dI : Nat → Nat → Nat) (a_r : Nat) (a_r_rows : Nat) (sz : Nat) (p2 : Int32) : Met l yX6_init wsX6_init ({ frames := 1, cells := 1, slots := 1024, locals := 20 }) (sPc [.ref a_r, .ref a_r_rows, .int p2] (dC, dI) [] [(a_r, .inr (6, [.null, .null, .int 0, .int 0, .int 0]))] sz) (va_Qv (fun (_ : Nat × ClassId) => True) (sBI (dC, dI) (va_A [(a_r, .inr (6, [.null, .null, .int 0, .int 0, .int 0]))] sz) (fun (u : Nat × ClassId) => [(a_r, .inr (6, [.ref a_r_rows, .ref u.1, .int 0, .int p2, .int (1 <<< (p2 &&& 31))])), (u.1, .inl (u.2, 1024, .inl (fun _ => 0)))]) (fun (u : Nat × ClassId) => [(u.2, .int)])) (va_A [(a_r, .inr (6, [.null, .null, .int 0, .int 0, .int 0]))] sz)) 1 1024 (va_A [(a_r, .inr (6, [.null, .null, .int 0, .int 0, .int 0]))] sz) := by
  refine Met.ofW (cc := cX6_init) (maxL := 3) (ret := none) (by decide) rfl ?_
  intro p e s m args below meth c s₁ B hml hv
  obtain ⟨rfl, hsz, hP, hK, hD0, hN⟩ := hv
  have hx := B.exec
  have hb := B.bytes
  have hr := B.returns
  have hts := atoms_spec (ws := wsX6_init) B.pre
  have hown : s.vm.findClass RX6 = some m.cls := findClass_of_methodNamed B.named
  have hlocks := B.notSynchronized
  have hin : meth.name = "<init>" := (name_of_methodNamed B.named B.method).1
  subst hsz
  have hD := hD0.self (sz := s.heap.size)
  generalize hAe : va_A [(a_r, .inr (6, [.null, .null, .int 0, .int 0, .int 0]))] s.heap.size = A at hD hN ⊢
  have hA : ∀ q : Nat, s.heap.size ≤ q → A q := fun q h => by rw [← hAe]; exact Or.inr h
  have hS : va_S A s.heap s.heap [] := va_S.rf
  have hP : va_P (dC, dI) vwCl [(a_r, .inr (6, [.null, .null, .int 0, .int 0, .int 0]))] s.heap := hP
  have hl := lv_entry ([.ref a_r, .ref a_r_rows, .int p2]) (n := 3) (Nat.le_of_ble_eq_true rfl)
  rw [lg_entry_eq]
  generalize (lg_sl ([.ref a_r, .ref a_r_rows, .int p2]) ++ List.replicate (3 - (lg_sl ([.ref a_r, .ref a_r_rows, .int p2])).length) Slot.unset).toArray = ls at hl ⊢
  have hl : lv_has ls 3 [(0, .ref a_r), (1, .ref a_r_rows), (2, .int p2)] := hl
  have hiX6 : ∀ w ∈ wsX60, w ∈ wsX6_init := fun _ h => List.mem_cons_of_mem _ (List.mem_append_right _ h)
  have hf9 := hts (.fieldLink RX6 9 "MeetSets$SetRow" "rows" "[I") (t1_ (al_ (t1_ (t1_ (t1_ h1_)))))
  have hf15 := hts (.fieldLink RX6 15 "MeetSets$SetRow" "inside" "[I") (t1_ (al_ (t4_ (t1_ h1_))))
  have hf18 := hts (.fieldLink RX6 18 "MeetSets$SetRow" "size" "I") (t1_ (al_ (t4_ (t1_ (t1_ h1_)))))
  have hf22 := hts (.fieldLink RX6 22 "MeetSets$SetRow" "n" "I") (t1_ (al_ (t4_ (t1_ (t1_ (t1_ h1_))))))
  have hf25 := hts (.fieldLink RX6 25 "MeetSets$SetRow" "parts" "I") (t1_ (al_ (t4_ (t4_ h1_))))
  refine w_abs (fun Z hZv hZw => ?_)
  refine hZv ?_
  obtain ⟨H, hH⟩ : ∃ H, H = s.heap := ⟨_, rfl⟩
  obtain ⟨locs, hlo⟩ : ∃ L : List Loc, L = [] := ⟨_, rfl⟩
  rw [← hlo, ← hH]
  have hS : va_S A s.heap H locs := by rw [hlo, hH]; exact hS
  have hP : va_P (dC, dI) vwCl [(a_r, .inr (6, [.null, .null, .int 0, .int 0, .int 0]))] H := by rw [hH]; exact hP
  clear hH hlo
  refine lv_aload_n hx hb dX6_init_0 rfl (lv_at hl 0 rfl) ?_
  refine W.objInit hx hb hown (hts (.methodLink RX6 3 objectInit) (t1_ (al_ h1_))) (hts (.instanceMethod objectInit) (t1_ (al_ (t1_ h1_)))) (hts _ (List.mem_of_getElem? (i := 3) rfl)) rfl (by rw [hml]; exact hl.1) rfl dX6_init_1 (Nat.le_of_ble_eq_true rfl) (Nat.le_of_ble_eq_true rfl) ?_
  refine W.eq (g2 := F0 m 4 ls []) rfl ?_
  refine lv_aload_n hx hb dX6_init_4 rfl (lv_at hl 0 rfl) ?_
  refine lv_aload_n hx hb dX6_init_5 rfl (lv_at hl 1 rfl) ?_
  refine va_putF (D := (dC, dI)) (ci := 6) (v := .ref a_r_rows) (ty := .array .int) (C := RX6) (T := TX6) (N := 5) hx hb hts hiX6 tyX6 tyX6_ok nmX6 hown hK hP hD hS 0 rfl rfl 0 (by decide) hf9 (fun _ h9 => h9) rfl hin rfl (by decide +kernel) rfl rfl (Nat.le_of_ble_eq_true rfl) dX6_init_6 (fun H locs hP hD hS => ?_)
  have hP : va_P (dC, dI) vwCl [(a_r, .inr (6, [.ref a_r_rows, .null, .int 0, .int 0, .int 0]))] H := hP
  have hD : va_D A [(a_r, .inr (6, [.ref a_r_rows, .null, .int 0, .int 0, .int 0]))] := hD
  refine lv_aload_n hx hb dX6_init_9 rfl (lv_at hl 0 rfl) ?_
  refine lv_sipush (v := 1024) hx hb dX6_init_10 (by decide) ?_
  refine va_newa (atype := .int) (ty := .int) hx hb (hts (.arrayClass .int) (t1_ (al_ (t4_ h1_)))) rfl hK hP hD hS hA (N' := 1024) (a0 := (1024, .inl (fun _ => 0))) (fun _ => rfl) (by decide +kernel) (by decide +kernel) (by decide +kernel) (Nat.le_of_ble_eq_true rfl) (Nat.le_of_ble_eq_true rfl) dX6_init_13 (fun a_r_ins c_r_ins H hK hP hD hS => ?_)
  have hP : va_P (dC, dI) vwCl [(a_r, .inr (6, [.ref a_r_rows, .null, .int 0, .int 0, .int 0])), (a_r_ins, .inl (c_r_ins, 1024, .inl (fun _ => 0)))] H := hP
  have hD : va_D A [(a_r, .inr (6, [.ref a_r_rows, .null, .int 0, .int 0, .int 0])), (a_r_ins, .inl (c_r_ins, 1024, .inl (fun _ => 0)))] := hD
  have hK : va_K (dC, dI) vwCl [(c_r_ins, .int)] s := hK
  refine W.widen (k := 1) (n := 1024) (by omega) (by omega) ?_
  refine va_putF (D := (dC, dI)) (ci := 6) (v := .ref a_r_ins) (ty := .array .int) (C := RX6) (T := TX6) (N := 5) hx hb hts hiX6 tyX6 tyX6_ok nmX6 hown hK hP hD hS 0 rfl rfl 1 (by decide) hf15 (fun _ h9 => h9) rfl hin rfl (by decide +kernel) rfl rfl (Nat.le_of_ble_eq_true rfl) dX6_init_15 (fun H locs hP hD hS => ?_)
  have hP : va_P (dC, dI) vwCl [(a_r, .inr (6, [.ref a_r_rows, .ref a_r_ins, .int 0, .int 0, .int 0])), (a_r_ins, .inl (c_r_ins, 1024, .inl (fun _ => 0)))] H := hP
  have hD : va_D A [(a_r, .inr (6, [.ref a_r_rows, .ref a_r_ins, .int 0, .int 0, .int 0])), (a_r_ins, .inl (c_r_ins, 1024, .inl (fun _ => 0)))] := hD
  refine lv_aload_n hx hb dX6_init_18 rfl (lv_at hl 0 rfl) ?_
  refine lv_iconst (v := 0) hx hb dX6_init_19 (by decide) ?_
  refine va_put (D := (dC, dI)) (ci := 6) (v := .int 0) (ty := .int) (C := RX6) (T := TX6) (N := 5) hx hb hts hiX6 tyX6 tyX6_ok nmX6 hown hK hP hD hS 0 rfl rfl 2 (by decide) hf18 (fun _ h9 => h9) rfl (by decide +kernel) rfl rfl (Nat.le_of_ble_eq_true rfl) dX6_init_20 (fun H locs hP hD hS => ?_)
  have hP : va_P (dC, dI) vwCl [(a_r, .inr (6, [.ref a_r_rows, .ref a_r_ins, .int 0, .int 0, .int 0])), (a_r_ins, .inl (c_r_ins, 1024, .inl (fun _ => 0)))] H := hP
  have hD : va_D A [(a_r, .inr (6, [.ref a_r_rows, .ref a_r_ins, .int 0, .int 0, .int 0])), (a_r_ins, .inl (c_r_ins, 1024, .inl (fun _ => 0)))] := hD
  refine lv_aload_n hx hb dX6_init_23 rfl (lv_at hl 0 rfl) ?_
  refine lv_iload_n hx hb dX6_init_24 rfl (lv_at hl 2 rfl) ?_
  refine va_put (D := (dC, dI)) (ci := 6) (v := .int p2) (ty := .int) (C := RX6) (T := TX6) (N := 5) hx hb hts hiX6 tyX6 tyX6_ok nmX6 hown hK hP hD hS 0 rfl rfl 3 (by decide) hf22 (fun _ h9 => h9) rfl (by decide +kernel) rfl rfl (Nat.le_of_ble_eq_true rfl) dX6_init_25 (fun H locs hP hD hS => ?_)
  have hP : va_P (dC, dI) vwCl [(a_r, .inr (6, [.ref a_r_rows, .ref a_r_ins, .int 0, .int p2, .int 0])), (a_r_ins, .inl (c_r_ins, 1024, .inl (fun _ => 0)))] H := hP
  have hD : va_D A [(a_r, .inr (6, [.ref a_r_rows, .ref a_r_ins, .int 0, .int p2, .int 0])), (a_r_ins, .inl (c_r_ins, 1024, .inl (fun _ => 0)))] := hD
  refine lv_aload_n hx hb dX6_init_28 rfl (lv_at hl 0 rfl) ?_
  refine lv_iconst (v := 1) hx hb dX6_init_29 (by decide) ?_
  refine lv_iload_n hx hb dX6_init_30 rfl (lv_at hl 2 rfl) ?_
  refine lv_ishl hx hb dX6_init_31 ?_
  refine va_put (D := (dC, dI)) (ci := 6) (v := .int (1 <<< (p2 &&& 31))) (ty := .int) (C := RX6) (T := TX6) (N := 5) hx hb hts hiX6 tyX6 tyX6_ok nmX6 hown hK hP hD hS 0 rfl rfl 4 (by decide) hf25 (fun _ h9 => h9) rfl (by decide +kernel) rfl rfl (Nat.le_of_ble_eq_true rfl) dX6_init_32 (fun H locs hP hD hS => ?_)
  have hP : va_P (dC, dI) vwCl [(a_r, .inr (6, [.ref a_r_rows, .ref a_r_ins, .int 0, .int p2, .int (1 <<< (p2 &&& 31))])), (a_r_ins, .inl (c_r_ins, 1024, .inl (fun _ => 0)))] H := hP
  have hD : va_D A [(a_r, .inr (6, [.ref a_r_rows, .ref a_r_ins, .int 0, .int p2, .int (1 <<< (p2 &&& 31))])), (a_r_ins, .inl (c_r_ins, 1024, .inl (fun _ => 0)))] := hD
  have hP9 : va_P (dC, dI) vwCl [(a_r, .inr (6, [.ref a_r_rows, .ref a_r_ins, .int 0, .int p2, .int (1 <<< (p2 &&& 31))])), (a_r_ins, .inl (c_r_ins, 1024, .inl (fun _ => 0)))] H := hP.sub [0, 1] rfl
  have hD9 : va_D A [(a_r, .inr (6, [.ref a_r_rows, .ref a_r_ins, .int 0, .int p2, .int (1 <<< (p2 &&& 31))])), (a_r_ins, .inl (c_r_ins, 1024, .inl (fun _ => 0)))] := hD.sub [0, 1] (by decide +kernel) rfl
  have hK9 : va_K (dC, dI) vwCl [(c_r_ins, .int)] s := hK.sub [0] rfl
  exact W.vret hx hb hr (fun t ht hW => ⟨⟨(a_r_ins, c_r_ins), rfl, trivial, by rw [ht]; exact hP9, va_K.moved hW.alike hK9, hD9⟩, hS.F ht⟩) hS.2.2 dX6_init_35
set_option maxHeartbeats 4000000 in
set_option maxRecDepth 100000 in
theorem c_X8_init (l : Launch) (dC : Nat → ClassId) (dI : Nat → Nat → Nat) (a_w : Nat) (a_r : Nat) (sz : Nat) : Met l yX8_init wsX8_init ({ frames := 1, cells := 1, slots := 1024, locals := 20 }) (sPc [.ref a_w, .ref a_r] (dC, dI) [] [(a_w, .inr (8, [.null, .null, .int 0]))] sz) (va_Qv (fun (_ : Nat × ClassId) => True) (sBI (dC, dI) (va_A [(a_w, .inr (8, [.null, .null, .int 0]))] sz) (fun (u : Nat × ClassId) => [(a_w, .inr (8, [.ref a_r, .ref u.1, .int 0])), (u.1, .inl (u.2, 1024, .inl (fun _ => 0)))]) (fun (u : Nat × ClassId) => [(u.2, .int)])) (va_A [(a_w, .inr (8, [.null, .null, .int 0]))] sz)) 1 1024 (va_A [(a_w, .inr (8, [.null, .null, .int 0]))] sz) := by
  refine Met.ofW (cc := cX8_init) (maxL := 2) (ret := none) (by decide) rfl ?_
  intro p e s m args below meth c s₁ B hml hv
  obtain ⟨rfl, hsz, hP, hK, hD0, hN⟩ := hv
  have hx := B.exec
  have hb := B.bytes
  have hr := B.returns
  have hts := atoms_spec (ws := wsX8_init) B.pre
  have hown : s.vm.findClass RX8 = some m.cls := findClass_of_methodNamed B.named
  have hlocks := B.notSynchronized
  have hin : meth.name = "<init>" := (name_of_methodNamed B.named B.method).1
  subst hsz
  have hD := hD0.self (sz := s.heap.size)
  generalize hAe : va_A [(a_w, .inr (8, [.null, .null, .int 0]))] s.heap.size = A at hD hN ⊢
  have hA : ∀ q : Nat, s.heap.size ≤ q → A q := fun q h => by rw [← hAe]; exact Or.inr h
  have hS : va_S A s.heap s.heap [] := va_S.rf
  have hP : va_P (dC, dI) vwCl [(a_w, .inr (8, [.null, .null, .int 0]))] s.heap := hP
  have hl := lv_entry ([.ref a_w, .ref a_r]) (n := 2) (Nat.le_of_ble_eq_true rfl)
  rw [lg_entry_eq]
  generalize (lg_sl ([.ref a_w, .ref a_r]) ++ List.replicate (2 - (lg_sl ([.ref a_w, .ref a_r])).length) Slot.unset).toArray = ls at hl ⊢
  have hl : lv_has ls 2 [(0, .ref a_w), (1, .ref a_r)] := hl
  have hiX8 : ∀ w ∈ wsX80, w ∈ wsX8_init := fun _ h => List.mem_cons_of_mem _ (List.mem_append_right _ h)
  have hf9 := hts (.fieldLink RX8 9 "MeetSets$Sight" "list" "LMeetSets$SetRow;") (t1_ (al_ (t1_ (t1_ (t1_ h1_)))))
  have hf15 := hts (.fieldLink RX8 15 "MeetSets$Sight" "marks" "[I") (t1_ (al_ (t4_ (t1_ h1_))))
  have hf19 := hts (.fieldLink RX8 19 "MeetSets$Sight" "mark" "I") (t1_ (al_ (t4_ (t1_ (t1_ h1_)))))
  refine w_abs (fun Z hZv hZw => ?_)
  refine hZv ?_
  obtain ⟨H, hH⟩ : ∃ H, H = s.heap := ⟨_, rfl⟩
  obtain ⟨locs, hlo⟩ : ∃ L : List Loc, L = [] := ⟨_, rfl⟩
  rw [← hlo, ← hH]
  have hS : va_S A s.heap H locs := by rw [hlo, hH]; exact hS
  have hP : va_P (dC, dI) vwCl [(a_w, .inr (8, [.null, .null, .int 0]))] H := by rw [hH]; exact hP
  clear hH hlo
  refine lv_aload_n hx hb dX8_init_0 rfl (lv_at hl 0 rfl) ?_
  refine W.objInit hx hb hown (hts (.methodLink RX8 3 objectInit) (t1_ (al_ h1_))) (hts (.instanceMethod objectInit) (t1_ (al_ (t1_ h1_)))) (hts _ (List.mem_of_getElem? (i := 3) rfl)) rfl (by rw [hml]; exact hl.1) rfl dX8_init_1 (Nat.le_of_ble_eq_true rfl) (Nat.le_of_ble_eq_true rfl) ?_
  refine W.eq (g2 := F0 m 4 ls []) rfl ?_
  refine lv_aload_n hx hb dX8_init_4 rfl (lv_at hl 0 rfl) ?_
  refine lv_aload_n hx hb dX8_init_5 rfl (lv_at hl 1 rfl) ?_
  refine va_putF (D := (dC, dI)) (ci := 8) (v := .ref a_r) (ty := .object "MeetSets$SetRow") (C := RX8) (T := TX8) (N := 3) hx hb hts hiX8 tyX8 tyX8_ok nmX8 hown hK hP hD hS 0 rfl rfl 0 (by decide) hf9 (fun _ h9 => h9) rfl hin rfl (by decide +kernel) rfl rfl (Nat.le_of_ble_eq_true rfl) dX8_init_6 (fun H locs hP hD hS => ?_)
  have hP : va_P (dC, dI) vwCl [(a_w, .inr (8, [.ref a_r, .null, .int 0]))] H := hP
  have hD : va_D A [(a_w, .inr (8, [.ref a_r, .null, .int 0]))] := hD
  refine lv_aload_n hx hb dX8_init_9 rfl (lv_at hl 0 rfl) ?_
  refine lv_sipush (v := 1024) hx hb dX8_init_10 (by decide) ?_
  refine va_newa (atype := .int) (ty := .int) hx hb (hts (.arrayClass .int) (t1_ (al_ (t4_ h1_)))) rfl hK hP hD hS hA (N' := 1024) (a0 := (1024, .inl (fun _ => 0))) (fun _ => rfl) (by decide +kernel) (by decide +kernel) (by decide +kernel) (Nat.le_of_ble_eq_true rfl) (Nat.le_of_ble_eq_true rfl) dX8_init_13 (fun a_w_marks c_w_marks H hK hP hD hS => ?_)
  have hP : va_P (dC, dI) vwCl [(a_w, .inr (8, [.ref a_r, .null, .int 0])), (a_w_marks, .inl (c_w_marks, 1024, .inl (fun _ => 0)))] H := hP
  have hD : va_D A [(a_w, .inr (8, [.ref a_r, .null, .int 0])), (a_w_marks, .inl (c_w_marks, 1024, .inl (fun _ => 0)))] := hD
  have hK : va_K (dC, dI) vwCl [(c_w_marks, .int)] s := hK
  refine W.widen (k := 1) (n := 1024) (by omega) (by omega) ?_
  refine va_putF (D := (dC, dI)) (ci := 8) (v := .ref a_w_marks) (ty := .array .int) (C := RX8) (T := TX8) (N := 3) hx hb hts hiX8 tyX8 tyX8_ok nmX8 hown hK hP hD hS 0 rfl rfl 1 (by decide) hf15 (fun _ h9 => h9) rfl hin rfl (by decide +kernel) rfl rfl (Nat.le_of_ble_eq_true rfl) dX8_init_15 (fun H locs hP hD hS => ?_)
  have hP : va_P (dC, dI) vwCl [(a_w, .inr (8, [.ref a_r, .ref a_w_marks, .int 0])), (a_w_marks, .inl (c_w_marks, 1024, .inl (fun _ => 0)))] H := hP
  have hD : va_D A [(a_w, .inr (8, [.ref a_r, .ref a_w_marks, .int 0])), (a_w_marks, .inl (c_w_marks, 1024, .inl (fun _ => 0)))] := hD
  refine lv_aload_n hx hb dX8_init_18 rfl (lv_at hl 0 rfl) ?_
  refine lv_iconst (v := 0) hx hb dX8_init_19 (by decide) ?_
  refine va_put (D := (dC, dI)) (ci := 8) (v := .int 0) (ty := .int) (C := RX8) (T := TX8) (N := 3) hx hb hts hiX8 tyX8 tyX8_ok nmX8 hown hK hP hD hS 0 rfl rfl 2 (by decide) hf19 (fun _ h9 => h9) rfl (by decide +kernel) rfl rfl (Nat.le_of_ble_eq_true rfl) dX8_init_20 (fun H locs hP hD hS => ?_)
  have hP : va_P (dC, dI) vwCl [(a_w, .inr (8, [.ref a_r, .ref a_w_marks, .int 0])), (a_w_marks, .inl (c_w_marks, 1024, .inl (fun _ => 0)))] H := hP
  have hD : va_D A [(a_w, .inr (8, [.ref a_r, .ref a_w_marks, .int 0])), (a_w_marks, .inl (c_w_marks, 1024, .inl (fun _ => 0)))] := hD
  have hP9 : va_P (dC, dI) vwCl [(a_w, .inr (8, [.ref a_r, .ref a_w_marks, .int 0])), (a_w_marks, .inl (c_w_marks, 1024, .inl (fun _ => 0)))] H := hP.sub [0, 1] rfl
  have hD9 : va_D A [(a_w, .inr (8, [.ref a_r, .ref a_w_marks, .int 0])), (a_w_marks, .inl (c_w_marks, 1024, .inl (fun _ => 0)))] := hD.sub [0, 1] (by decide +kernel) rfl
  have hK9 : va_K (dC, dI) vwCl [(c_w_marks, .int)] s := hK.sub [0] rfl
  exact W.vret hx hb hr (fun t ht hW => ⟨⟨(a_w_marks, c_w_marks), rfl, trivial, by rw [ht]; exact hP9, va_K.moved hW.alike hK9, hD9⟩, hS.F ht⟩) hS.2.2 dX8_init_23
set_option maxHeartbeats 4000000 in
set_option maxRecDepth 100000 in
theorem c_X1_init (l : Launch) (dC : Nat → ClassId) (dI : Nat → Nat → Nat) (a_o : Nat) (a_r : Nat) (sz : Nat) : Met l yX1_init wsX1_init ({ frames := 1, cells := 0, slots := 0, locals := 20 }) (sPc [.ref a_o, .ref a_r] (dC, dI) [] [(a_o, .inr (1, [.null]))] sz) (va_Qv (fun (_ : Unit) => True) (sBI (dC, dI) (va_A [(a_o, .inr (1, [.null]))] sz) (fun (_ : Unit) => [(a_o, .inr (1, [.ref a_r]))]) (fun (_ : Unit) => [])) (va_A [(a_o, .inr (1, [.null]))] sz)) 0 0 (va_A [(a_o, .inr (1, [.null]))] sz) := by
  refine Met.ofW (cc := cX1_init) (maxL := 2) (ret := none) (by decide) rfl ?_
  intro p e s m args below meth c s₁ B hml hv
  obtain ⟨rfl, hsz, hP, hK, hD0, hN⟩ := hv
  have hx := B.exec
  have hb := B.bytes
  have hr := B.returns
  have hts := atoms_spec (ws := wsX1_init) B.pre
  have hown : s.vm.findClass RX1 = some m.cls := findClass_of_methodNamed B.named
  have hlocks := B.notSynchronized
  have hin : meth.name = "<init>" := (name_of_methodNamed B.named B.method).1
  subst hsz
  have hD := hD0.self (sz := s.heap.size)
  generalize hAe : va_A [(a_o, .inr (1, [.null]))] s.heap.size = A at hD hN ⊢
  have hA : ∀ q : Nat, s.heap.size ≤ q → A q := fun q h => by rw [← hAe]; exact Or.inr h
  have hS : va_S A s.heap s.heap [] := va_S.rf
  have hP : va_P (dC, dI) vwCl [(a_o, .inr (1, [.null]))] s.heap := hP
  have hl := lv_entry ([.ref a_o, .ref a_r]) (n := 2) (Nat.le_of_ble_eq_true rfl)
  rw [lg_entry_eq]
  generalize (lg_sl ([.ref a_o, .ref a_r]) ++ List.replicate (2 - (lg_sl ([.ref a_o, .ref a_r])).length) Slot.unset).toArray = ls at hl ⊢
  have hl : lv_has ls 2 [(0, .ref a_o), (1, .ref a_r)] := hl
  have hiX1 : ∀ w ∈ wsX10, w ∈ wsX1_init := fun _ h => List.mem_cons_of_mem _ (List.mem_append_right _ h)
  have hf7 := hts (.fieldLink RX1 7 "MeetSets$Colours" "list" "LMeetSets$SetRow;") (t1_ (al_ (t1_ (t1_ (t1_ h1_)))))
  refine w_abs (fun Z hZv hZw => ?_)
  refine hZv ?_
  obtain ⟨H, hH⟩ : ∃ H, H = s.heap := ⟨_, rfl⟩
  obtain ⟨locs, hlo⟩ : ∃ L : List Loc, L = [] := ⟨_, rfl⟩
  rw [← hlo, ← hH]
  have hS : va_S A s.heap H locs := by rw [hlo, hH]; exact hS
  have hP : va_P (dC, dI) vwCl [(a_o, .inr (1, [.null]))] H := by rw [hH]; exact hP
  clear hH hlo
  refine lv_aload_n hx hb dX1_init_0 rfl (lv_at hl 0 rfl) ?_
  refine W.objInit hx hb hown (hts (.methodLink RX1 1 objectInit) (t1_ (al_ h1_))) (hts (.instanceMethod objectInit) (t1_ (al_ (t1_ h1_)))) (hts _ (List.mem_of_getElem? (i := 3) rfl)) rfl (by rw [hml]; exact hl.1) rfl dX1_init_1 (Nat.le_of_ble_eq_true rfl) (Nat.le_of_ble_eq_true rfl) ?_
  refine W.eq (g2 := F0 m 4 ls []) rfl ?_
  refine lv_aload_n hx hb dX1_init_4 rfl (lv_at hl 0 rfl) ?_
  refine lv_aload_n hx hb dX1_init_5 rfl (lv_at hl 1 rfl) ?_
  refine va_putF (D := (dC, dI)) (ci := 1) (v := .ref a_r) (ty := .object "MeetSets$SetRow") (C := RX1) (T := TX1) (N := 1) hx hb hts hiX1 tyX1 tyX1_ok nmX1 hown hK hP hD hS 0 rfl rfl 0 (by decide) hf7 (fun _ h9 => h9) rfl hin rfl (by decide +kernel) rfl rfl (Nat.le_of_ble_eq_true rfl) dX1_init_6 (fun H locs hP hD hS => ?_)
  have hP : va_P (dC, dI) vwCl [(a_o, .inr (1, [.ref a_r]))] H := hP
  have hD : va_D A [(a_o, .inr (1, [.ref a_r]))] := hD
  have hP9 : va_P (dC, dI) vwCl [(a_o, .inr (1, [.ref a_r]))] H := hP.sub [0] rfl
  have hD9 : va_D A [(a_o, .inr (1, [.ref a_r]))] := hD.sub [0] (by decide +kernel) rfl
  have hK9 : va_K (dC, dI) vwCl [] s := hK.sub [] rfl
  exact W.vret hx hb hr (fun t ht hW => ⟨⟨(), rfl, trivial, by rw [ht]; exact hP9, va_K.moved hW.alike hK9, hD9⟩, hS.F ht⟩) hS.2.2 dX1_init_9
set_option maxHeartbeats 4000000 in
set_option maxRecDepth 100000 in
theorem c_X2_init (l : Launch) (dC : Nat → ClassId) (dI : Nat → Nat → Nat) (a_z : Nat) (a_r : Nat) (sz : Nat) : Met l yX2_init wsX2_init ({ frames := 1, cells := 1, slots := 16, locals := 20 }) (sPc [.ref a_z, .ref a_r] (dC, dI) [] [(a_z, .inr (2, [.null, .null, .int 0]))] sz) (va_Qv (fun (_ : Nat × ClassId) => True) (sBI (dC, dI) (va_A [(a_z, .inr (2, [.null, .null, .int 0]))] sz) (fun (u : Nat × ClassId) => [(a_z, .inr (2, [.ref a_r, .ref u.1, .int 0])), (u.1, .inl (u.2, 16, .inl (fun _ => 0)))]) (fun (u : Nat × ClassId) => [(u.2, .int)])) (va_A [(a_z, .inr (2, [.null, .null, .int 0]))] sz)) 1 16 (va_A [(a_z, .inr (2, [.null, .null, .int 0]))] sz) := by
  refine Met.ofW (cc := cX2_init) (maxL := 2) (ret := none) (by decide) rfl ?_
  intro p e s m args below meth c s₁ B hml hv
  obtain ⟨rfl, hsz, hP, hK, hD0, hN⟩ := hv
  have hx := B.exec
  have hb := B.bytes
  have hr := B.returns
  have hts := atoms_spec (ws := wsX2_init) B.pre
  have hown : s.vm.findClass RX2 = some m.cls := findClass_of_methodNamed B.named
  have hlocks := B.notSynchronized
  have hin : meth.name = "<init>" := (name_of_methodNamed B.named B.method).1
  subst hsz
  have hD := hD0.self (sz := s.heap.size)
  generalize hAe : va_A [(a_z, .inr (2, [.null, .null, .int 0]))] s.heap.size = A at hD hN ⊢
  have hA : ∀ q : Nat, s.heap.size ≤ q → A q := fun q h => by rw [← hAe]; exact Or.inr h
  have hS : va_S A s.heap s.heap [] := va_S.rf
  have hP : va_P (dC, dI) vwCl [(a_z, .inr (2, [.null, .null, .int 0]))] s.heap := hP
  have hl := lv_entry ([.ref a_z, .ref a_r]) (n := 2) (Nat.le_of_ble_eq_true rfl)
  rw [lg_entry_eq]
  generalize (lg_sl ([.ref a_z, .ref a_r]) ++ List.replicate (2 - (lg_sl ([.ref a_z, .ref a_r])).length) Slot.unset).toArray = ls at hl ⊢
  have hl : lv_has ls 2 [(0, .ref a_z), (1, .ref a_r)] := hl
  have hiX2 : ∀ w ∈ wsX20, w ∈ wsX2_init := fun _ h => List.mem_cons_of_mem _ (List.mem_append_right _ h)
  have hf9 := hts (.fieldLink RX2 9 "MeetSets$Ears" "list" "LMeetSets$SetRow;") (t1_ (al_ (t1_ (t1_ (t1_ h1_)))))
  have hf15 := hts (.fieldLink RX2 15 "MeetSets$Ears" "rest" "[I") (t1_ (al_ (t4_ (t1_ h1_))))
  have hf19 := hts (.fieldLink RX2 19 "MeetSets$Ears" "left" "I") (t1_ (al_ (t4_ (t1_ (t1_ h1_)))))
  refine w_abs (fun Z hZv hZw => ?_)
  refine hZv ?_
  obtain ⟨H, hH⟩ : ∃ H, H = s.heap := ⟨_, rfl⟩
  obtain ⟨locs, hlo⟩ : ∃ L : List Loc, L = [] := ⟨_, rfl⟩
  rw [← hlo, ← hH]
  have hS : va_S A s.heap H locs := by rw [hlo, hH]; exact hS
  have hP : va_P (dC, dI) vwCl [(a_z, .inr (2, [.null, .null, .int 0]))] H := by rw [hH]; exact hP
  clear hH hlo
  refine lv_aload_n hx hb dX2_init_0 rfl (lv_at hl 0 rfl) ?_
  refine W.objInit hx hb hown (hts (.methodLink RX2 3 objectInit) (t1_ (al_ h1_))) (hts (.instanceMethod objectInit) (t1_ (al_ (t1_ h1_)))) (hts _ (List.mem_of_getElem? (i := 3) rfl)) rfl (by rw [hml]; exact hl.1) rfl dX2_init_1 (Nat.le_of_ble_eq_true rfl) (Nat.le_of_ble_eq_true rfl) ?_
  refine W.eq (g2 := F0 m 4 ls []) rfl ?_
  refine lv_aload_n hx hb dX2_init_4 rfl (lv_at hl 0 rfl) ?_
  refine lv_aload_n hx hb dX2_init_5 rfl (lv_at hl 1 rfl) ?_
  refine va_putF (D := (dC, dI)) (ci := 2) (v := .ref a_r) (ty := .object "MeetSets$SetRow") (C := RX2) (T := TX2) (N := 3) hx hb hts hiX2 tyX2 tyX2_ok nmX2 hown hK hP hD hS 0 rfl rfl 0 (by decide) hf9 (fun _ h9 => h9) rfl hin rfl (by decide +kernel) rfl rfl (Nat.le_of_ble_eq_true rfl) dX2_init_6 (fun H locs hP hD hS => ?_)
  have hP : va_P (dC, dI) vwCl [(a_z, .inr (2, [.ref a_r, .null, .int 0]))] H := hP
  have hD : va_D A [(a_z, .inr (2, [.ref a_r, .null, .int 0]))] := hD
  refine lv_aload_n hx hb dX2_init_9 rfl (lv_at hl 0 rfl) ?_
  refine lv_bipush (v := 16) hx hb dX2_init_10 (by decide) ?_
  refine va_newa (atype := .int) (ty := .int) hx hb (hts (.arrayClass .int) (t1_ (al_ (t4_ h1_)))) rfl hK hP hD hS hA (N' := 16) (a0 := (16, .inl (fun _ => 0))) (fun _ => rfl) (by decide +kernel) (by decide +kernel) (by decide +kernel) (Nat.le_of_ble_eq_true rfl) (Nat.le_of_ble_eq_true rfl) dX2_init_12 (fun a_z_rest c_z_rest H hK hP hD hS => ?_)
  have hP : va_P (dC, dI) vwCl [(a_z, .inr (2, [.ref a_r, .null, .int 0])), (a_z_rest, .inl (c_z_rest, 16, .inl (fun _ => 0)))] H := hP
  have hD : va_D A [(a_z, .inr (2, [.ref a_r, .null, .int 0])), (a_z_rest, .inl (c_z_rest, 16, .inl (fun _ => 0)))] := hD
  have hK : va_K (dC, dI) vwCl [(c_z_rest, .int)] s := hK
  refine W.widen (k := 1) (n := 16) (by omega) (by omega) ?_
  refine va_putF (D := (dC, dI)) (ci := 2) (v := .ref a_z_rest) (ty := .array .int) (C := RX2) (T := TX2) (N := 3) hx hb hts hiX2 tyX2 tyX2_ok nmX2 hown hK hP hD hS 0 rfl rfl 1 (by decide) hf15 (fun _ h9 => h9) rfl hin rfl (by decide +kernel) rfl rfl (Nat.le_of_ble_eq_true rfl) dX2_init_14 (fun H locs hP hD hS => ?_)
  have hP : va_P (dC, dI) vwCl [(a_z, .inr (2, [.ref a_r, .ref a_z_rest, .int 0])), (a_z_rest, .inl (c_z_rest, 16, .inl (fun _ => 0)))] H := hP
  have hD : va_D A [(a_z, .inr (2, [.ref a_r, .ref a_z_rest, .int 0])), (a_z_rest, .inl (c_z_rest, 16, .inl (fun _ => 0)))] := hD
  refine lv_aload_n hx hb dX2_init_17 rfl (lv_at hl 0 rfl) ?_
  refine lv_iconst (v := 0) hx hb dX2_init_18 (by decide) ?_
  refine va_put (D := (dC, dI)) (ci := 2) (v := .int 0) (ty := .int) (C := RX2) (T := TX2) (N := 3) hx hb hts hiX2 tyX2 tyX2_ok nmX2 hown hK hP hD hS 0 rfl rfl 2 (by decide) hf19 (fun _ h9 => h9) rfl (by decide +kernel) rfl rfl (Nat.le_of_ble_eq_true rfl) dX2_init_19 (fun H locs hP hD hS => ?_)
  have hP : va_P (dC, dI) vwCl [(a_z, .inr (2, [.ref a_r, .ref a_z_rest, .int 0])), (a_z_rest, .inl (c_z_rest, 16, .inl (fun _ => 0)))] H := hP
  have hD : va_D A [(a_z, .inr (2, [.ref a_r, .ref a_z_rest, .int 0])), (a_z_rest, .inl (c_z_rest, 16, .inl (fun _ => 0)))] := hD
  have hP9 : va_P (dC, dI) vwCl [(a_z, .inr (2, [.ref a_r, .ref a_z_rest, .int 0])), (a_z_rest, .inl (c_z_rest, 16, .inl (fun _ => 0)))] H := hP.sub [0, 1] rfl
  have hD9 : va_D A [(a_z, .inr (2, [.ref a_r, .ref a_z_rest, .int 0])), (a_z_rest, .inl (c_z_rest, 16, .inl (fun _ => 0)))] := hD.sub [0, 1] (by decide +kernel) rfl
  have hK9 : va_K (dC, dI) vwCl [(c_z_rest, .int)] s := hK.sub [0] rfl
  exact W.vret hx hb hr (fun t ht hW => ⟨⟨(a_z_rest, c_z_rest), rfl, trivial, by rw [ht]; exact hP9, va_K.moved hW.alike hK9, hD9⟩, hS.F ht⟩) hS.2.2 dX2_init_22
set_option maxHeartbeats 4000000 in
set_option maxRecDepth 100000 in
theorem c_X3_init (l : Launch) (dC : Nat → ClassId) (dI : Nat → Nat → Nat) (a_f : Nat) (a_r : Nat) (sz : Nat) : Met l yX3_init wsX3_init ({ frames := 1, cells := 0, slots := 0, locals := 20 }) (sPc [.ref a_f, .ref a_r] (dC, dI) [] [(a_f, .inr (3, [.null, .int 0, .int 0, .int 0]))] sz) (va_Qv (fun (_ : Unit) => True) (sBI (dC, dI) (va_A [(a_f, .inr (3, [.null, .int 0, .int 0, .int 0]))] sz) (fun (_ : Unit) => [(a_f, .inr (3, [.ref a_r, .int 0, .int 0, .int 0]))]) (fun (_ : Unit) => [])) (va_A [(a_f, .inr (3, [.null, .int 0, .int 0, .int 0]))] sz)) 0 0 (va_A [(a_f, .inr (3, [.null, .int 0, .int 0, .int 0]))] sz) := by
  refine Met.ofW (cc := cX3_init) (maxL := 2) (ret := none) (by decide) rfl ?_
  intro p e s m args below meth c s₁ B hml hv
  obtain ⟨rfl, hsz, hP, hK, hD0, hN⟩ := hv
  have hx := B.exec
  have hb := B.bytes
  have hr := B.returns
  have hts := atoms_spec (ws := wsX3_init) B.pre
  have hown : s.vm.findClass RX3 = some m.cls := findClass_of_methodNamed B.named
  have hlocks := B.notSynchronized
  have hin : meth.name = "<init>" := (name_of_methodNamed B.named B.method).1
  subst hsz
  have hD := hD0.self (sz := s.heap.size)
  generalize hAe : va_A [(a_f, .inr (3, [.null, .int 0, .int 0, .int 0]))] s.heap.size = A at hD hN ⊢
  have hA : ∀ q : Nat, s.heap.size ≤ q → A q := fun q h => by rw [← hAe]; exact Or.inr h
  have hS : va_S A s.heap s.heap [] := va_S.rf
  have hP : va_P (dC, dI) vwCl [(a_f, .inr (3, [.null, .int 0, .int 0, .int 0]))] s.heap := hP
  have hl := lv_entry ([.ref a_f, .ref a_r]) (n := 2) (Nat.le_of_ble_eq_true rfl)
  rw [lg_entry_eq]
  generalize (lg_sl ([.ref a_f, .ref a_r]) ++ List.replicate (2 - (lg_sl ([.ref a_f, .ref a_r])).length) Slot.unset).toArray = ls at hl ⊢
  have hl : lv_has ls 2 [(0, .ref a_f), (1, .ref a_r)] := hl
  have hiX3 : ∀ w ∈ wsX30, w ∈ wsX3_init := fun _ h => List.mem_cons_of_mem _ (List.mem_append_right _ h)
  have hf7 := hts (.fieldLink RX3 7 "MeetSets$Families" "list" "LMeetSets$SetRow;") (t1_ (al_ (t1_ (t1_ (t1_ h1_)))))
  have hf13 := hts (.fieldLink RX3 13 "MeetSets$Families" "bestBits" "I") (t1_ (al_ (t4_ h1_)))
  have hf17 := hts (.fieldLink RX3 17 "MeetSets$Families" "bestCore" "I") (t1_ (al_ (t4_ (t1_ h1_))))
  have hf20 := hts (.fieldLink RX3 20 "MeetSets$Families" "bestCount" "I") (t1_ (al_ (t4_ (t1_ (t1_ h1_)))))
  refine w_abs (fun Z hZv hZw => ?_)
  refine hZv ?_
  obtain ⟨H, hH⟩ : ∃ H, H = s.heap := ⟨_, rfl⟩
  obtain ⟨locs, hlo⟩ : ∃ L : List Loc, L = [] := ⟨_, rfl⟩
  rw [← hlo, ← hH]
  have hS : va_S A s.heap H locs := by rw [hlo, hH]; exact hS
  have hP : va_P (dC, dI) vwCl [(a_f, .inr (3, [.null, .int 0, .int 0, .int 0]))] H := by rw [hH]; exact hP
  clear hH hlo
  refine lv_aload_n hx hb dX3_init_0 rfl (lv_at hl 0 rfl) ?_
  refine W.objInit hx hb hown (hts (.methodLink RX3 1 objectInit) (t1_ (al_ h1_))) (hts (.instanceMethod objectInit) (t1_ (al_ (t1_ h1_)))) (hts _ (List.mem_of_getElem? (i := 3) rfl)) rfl (by rw [hml]; exact hl.1) rfl dX3_init_1 (Nat.le_of_ble_eq_true rfl) (Nat.le_of_ble_eq_true rfl) ?_
  refine W.eq (g2 := F0 m 4 ls []) rfl ?_
  refine lv_aload_n hx hb dX3_init_4 rfl (lv_at hl 0 rfl) ?_
  refine lv_aload_n hx hb dX3_init_5 rfl (lv_at hl 1 rfl) ?_
  refine va_putF (D := (dC, dI)) (ci := 3) (v := .ref a_r) (ty := .object "MeetSets$SetRow") (C := RX3) (T := TX3) (N := 4) hx hb hts hiX3 tyX3 tyX3_ok nmX3 hown hK hP hD hS 0 rfl rfl 0 (by decide) hf7 (fun _ h9 => h9) rfl hin rfl (by decide +kernel) rfl rfl (Nat.le_of_ble_eq_true rfl) dX3_init_6 (fun H locs hP hD hS => ?_)
  have hP : va_P (dC, dI) vwCl [(a_f, .inr (3, [.ref a_r, .int 0, .int 0, .int 0]))] H := hP
  have hD : va_D A [(a_f, .inr (3, [.ref a_r, .int 0, .int 0, .int 0]))] := hD
  refine lv_aload_n hx hb dX3_init_9 rfl (lv_at hl 0 rfl) ?_
  refine lv_iconst (v := 0) hx hb dX3_init_10 (by decide) ?_
  refine va_put (D := (dC, dI)) (ci := 3) (v := .int 0) (ty := .int) (C := RX3) (T := TX3) (N := 4) hx hb hts hiX3 tyX3 tyX3_ok nmX3 hown hK hP hD hS 0 rfl rfl 1 (by decide) hf13 (fun _ h9 => h9) rfl (by decide +kernel) rfl rfl (Nat.le_of_ble_eq_true rfl) dX3_init_11 (fun H locs hP hD hS => ?_)
  have hP : va_P (dC, dI) vwCl [(a_f, .inr (3, [.ref a_r, .int 0, .int 0, .int 0]))] H := hP
  have hD : va_D A [(a_f, .inr (3, [.ref a_r, .int 0, .int 0, .int 0]))] := hD
  refine lv_aload_n hx hb dX3_init_14 rfl (lv_at hl 0 rfl) ?_
  refine lv_iconst (v := 0) hx hb dX3_init_15 (by decide) ?_
  refine va_put (D := (dC, dI)) (ci := 3) (v := .int 0) (ty := .int) (C := RX3) (T := TX3) (N := 4) hx hb hts hiX3 tyX3 tyX3_ok nmX3 hown hK hP hD hS 0 rfl rfl 2 (by decide) hf17 (fun _ h9 => h9) rfl (by decide +kernel) rfl rfl (Nat.le_of_ble_eq_true rfl) dX3_init_16 (fun H locs hP hD hS => ?_)
  have hP : va_P (dC, dI) vwCl [(a_f, .inr (3, [.ref a_r, .int 0, .int 0, .int 0]))] H := hP
  have hD : va_D A [(a_f, .inr (3, [.ref a_r, .int 0, .int 0, .int 0]))] := hD
  refine lv_aload_n hx hb dX3_init_19 rfl (lv_at hl 0 rfl) ?_
  refine lv_iconst (v := 0) hx hb dX3_init_20 (by decide) ?_
  refine va_put (D := (dC, dI)) (ci := 3) (v := .int 0) (ty := .int) (C := RX3) (T := TX3) (N := 4) hx hb hts hiX3 tyX3 tyX3_ok nmX3 hown hK hP hD hS 0 rfl rfl 3 (by decide) hf20 (fun _ h9 => h9) rfl (by decide +kernel) rfl rfl (Nat.le_of_ble_eq_true rfl) dX3_init_21 (fun H locs hP hD hS => ?_)
  have hP : va_P (dC, dI) vwCl [(a_f, .inr (3, [.ref a_r, .int 0, .int 0, .int 0]))] H := hP
  have hD : va_D A [(a_f, .inr (3, [.ref a_r, .int 0, .int 0, .int 0]))] := hD
  have hP9 : va_P (dC, dI) vwCl [(a_f, .inr (3, [.ref a_r, .int 0, .int 0, .int 0]))] H := hP.sub [0] rfl
  have hD9 : va_D A [(a_f, .inr (3, [.ref a_r, .int 0, .int 0, .int 0]))] := hD.sub [0] (by decide +kernel) rfl
  have hK9 : va_K (dC, dI) vwCl [] s := hK.sub [] rfl
  exact W.vret hx hb hr (fun t ht hW => ⟨⟨(), rfl, trivial, by rw [ht]; exact hP9, va_K.moved hW.alike hK9, hD9⟩, hS.F ht⟩) hS.2.2 dX3_init_24
set_option maxHeartbeats 4000000 in
set_option maxRecDepth 100000 in
theorem c_X4_init (l : Launch) (dC : Nat → ClassId) (dI : Nat → Nat → Nat) (a_q : Nat) (sz : Nat) : Met l yX4_init wsX4_init ({ frames := 1, cells := 0, slots := 0, locals := 20 }) (sPc [.ref a_q] (dC, dI) [] [(a_q, .inr (4, [.long 0, .long 0]))] sz) (va_Qv (fun (_ : Unit) => True) (sBI (dC, dI) (va_A [(a_q, .inr (4, [.long 0, .long 0]))] sz) (fun (_ : Unit) => [(a_q, .inr (4, [.long 0, .long 1]))]) (fun (_ : Unit) => [])) (va_A [(a_q, .inr (4, [.long 0, .long 0]))] sz)) 0 0 (va_A [(a_q, .inr (4, [.long 0, .long 0]))] sz) := by
  refine Met.ofW (cc := cX4_init) (maxL := 1) (ret := none) (by decide) rfl ?_
  intro p e s m args below meth c s₁ B hml hv
  obtain ⟨rfl, hsz, hP, hK, hD0, hN⟩ := hv
  have hx := B.exec
  have hb := B.bytes
  have hr := B.returns
  have hts := atoms_spec (ws := wsX4_init) B.pre
  have hown : s.vm.findClass RX4 = some m.cls := findClass_of_methodNamed B.named
  have hlocks := B.notSynchronized
  have hin : meth.name = "<init>" := (name_of_methodNamed B.named B.method).1
  subst hsz
  have hD := hD0.self (sz := s.heap.size)
  generalize hAe : va_A [(a_q, .inr (4, [.long 0, .long 0]))] s.heap.size = A at hD hN ⊢
  have hA : ∀ q : Nat, s.heap.size ≤ q → A q := fun q h => by rw [← hAe]; exact Or.inr h
  have hS : va_S A s.heap s.heap [] := va_S.rf
  have hP : va_P (dC, dI) vwCl [(a_q, .inr (4, [.long 0, .long 0]))] s.heap := hP
  have hl := lv_entry ([.ref a_q]) (n := 1) (Nat.le_of_ble_eq_true rfl)
  rw [lg_entry_eq]
  generalize (lg_sl ([.ref a_q]) ++ List.replicate (1 - (lg_sl ([.ref a_q])).length) Slot.unset).toArray = ls at hl ⊢
  have hl : lv_has ls 1 [(0, .ref a_q)] := hl
  have hiX4 : ∀ w ∈ wsX40, w ∈ wsX4_init := fun _ h => List.mem_cons_of_mem _ (List.mem_append_right _ h)
  have hf7 := hts (.fieldLink RX4 7 "MeetSets$Fraction" "above" "J") (t1_ (al_ (t1_ (t1_ (t1_ h1_)))))
  have hf13 := hts (.fieldLink RX4 13 "MeetSets$Fraction" "below" "J") (t1_ (al_ (t4_ h1_)))
  refine w_abs (fun Z hZv hZw => ?_)
  refine hZv ?_
  obtain ⟨H, hH⟩ : ∃ H, H = s.heap := ⟨_, rfl⟩
  obtain ⟨locs, hlo⟩ : ∃ L : List Loc, L = [] := ⟨_, rfl⟩
  rw [← hlo, ← hH]
  have hS : va_S A s.heap H locs := by rw [hlo, hH]; exact hS
  have hP : va_P (dC, dI) vwCl [(a_q, .inr (4, [.long 0, .long 0]))] H := by rw [hH]; exact hP
  clear hH hlo
  refine lv_aload_n hx hb dX4_init_0 rfl (lv_at hl 0 rfl) ?_
  refine W.objInit hx hb hown (hts (.methodLink RX4 1 objectInit) (t1_ (al_ h1_))) (hts (.instanceMethod objectInit) (t1_ (al_ (t1_ h1_)))) (hts _ (List.mem_of_getElem? (i := 3) rfl)) rfl (by rw [hml]; exact hl.1) rfl dX4_init_1 (Nat.le_of_ble_eq_true rfl) (Nat.le_of_ble_eq_true rfl) ?_
  refine W.eq (g2 := F0 m 4 ls []) rfl ?_
  refine lv_aload_n hx hb dX4_init_4 rfl (lv_at hl 0 rfl) ?_
  refine lv_lconst (v := 0) hx hb dX4_init_5 (by decide) ?_
  refine va_put (D := (dC, dI)) (ci := 4) (v := .long 0) (ty := .long) (C := RX4) (T := TX4) (N := 2) hx hb hts hiX4 tyX4 tyX4_ok nmX4 hown hK hP hD hS 0 rfl rfl 0 (by decide) hf7 (fun _ h9 => h9) rfl (by decide +kernel) rfl rfl (Nat.le_of_ble_eq_true rfl) dX4_init_6 (fun H locs hP hD hS => ?_)
  have hP : va_P (dC, dI) vwCl [(a_q, .inr (4, [.long 0, .long 0]))] H := hP
  have hD : va_D A [(a_q, .inr (4, [.long 0, .long 0]))] := hD
  refine lv_aload_n hx hb dX4_init_9 rfl (lv_at hl 0 rfl) ?_
  refine lv_lconst (v := 1) hx hb dX4_init_10 (by decide) ?_
  refine va_put (D := (dC, dI)) (ci := 4) (v := .long 1) (ty := .long) (C := RX4) (T := TX4) (N := 2) hx hb hts hiX4 tyX4 tyX4_ok nmX4 hown hK hP hD hS 0 rfl rfl 1 (by decide) hf13 (fun _ h9 => h9) rfl (by decide +kernel) rfl rfl (Nat.le_of_ble_eq_true rfl) dX4_init_11 (fun H locs hP hD hS => ?_)
  have hP : va_P (dC, dI) vwCl [(a_q, .inr (4, [.long 0, .long 1]))] H := hP
  have hD : va_D A [(a_q, .inr (4, [.long 0, .long 1]))] := hD
  have hP9 : va_P (dC, dI) vwCl [(a_q, .inr (4, [.long 0, .long 1]))] H := hP.sub [0] rfl
  have hD9 : va_D A [(a_q, .inr (4, [.long 0, .long 1]))] := hD.sub [0] (by decide +kernel) rfl
  have hK9 : va_K (dC, dI) vwCl [] s := hK.sub [] rfl
  exact W.vret hx hb hr (fun t ht hW => ⟨⟨(), rfl, trivial, by rw [ht]; exact hP9, va_K.moved hW.alike hK9, hD9⟩, hS.F ht⟩) hS.2.2 dX4_init_14
set_option maxHeartbeats 4000000 in
set_option maxRecDepth 100000 in
theorem c_X5_init (l : Launch) (dC : Nat → ClassId) (dI : Nat → Nat → Nat) (a_g : Nat) (a_r : Nat) (sz : Nat) : Met l yX5_init wsX5_init ({ frames := 1, cells := 1, slots := 3691, locals := 20 }) (sPc [.ref a_g, .ref a_r] (dC, dI) [] [(a_g, .inr (5, [.null, .null]))] sz) (va_Qv (fun (_ : Nat × ClassId) => True) (sBI (dC, dI) (va_A [(a_g, .inr (5, [.null, .null]))] sz) (fun (u : Nat × ClassId) => [(a_g, .inr (5, [.ref a_r, .ref u.1])), (u.1, .inl (u.2, 3691, .inl (fun _ => 0)))]) (fun (u : Nat × ClassId) => [(u.2, .int)])) (va_A [(a_g, .inr (5, [.null, .null]))] sz)) 1 3691 (va_A [(a_g, .inr (5, [.null, .null]))] sz) := by
  refine Met.ofW (cc := cX5_init) (maxL := 2) (ret := none) (by decide) rfl ?_
  intro p e s m args below meth c s₁ B hml hv
  obtain ⟨rfl, hsz, hP, hK, hD0, hN⟩ := hv
  have hx := B.exec
  have hb := B.bytes
  have hr := B.returns
  have hts := atoms_spec (ws := wsX5_init) B.pre
  have hown : s.vm.findClass RX5 = some m.cls := findClass_of_methodNamed B.named
  have hlocks := B.notSynchronized
  have hin : meth.name = "<init>" := (name_of_methodNamed B.named B.method).1
  subst hsz
  have hD := hD0.self (sz := s.heap.size)
  generalize hAe : va_A [(a_g, .inr (5, [.null, .null]))] s.heap.size = A at hD hN ⊢
  have hA : ∀ q : Nat, s.heap.size ≤ q → A q := fun q h => by rw [← hAe]; exact Or.inr h
  have hS : va_S A s.heap s.heap [] := va_S.rf
  have hP : va_P (dC, dI) vwCl [(a_g, .inr (5, [.null, .null]))] s.heap := hP
  have hl := lv_entry ([.ref a_g, .ref a_r]) (n := 2) (Nat.le_of_ble_eq_true rfl)
  rw [lg_entry_eq]
  generalize (lg_sl ([.ref a_g, .ref a_r]) ++ List.replicate (2 - (lg_sl ([.ref a_g, .ref a_r])).length) Slot.unset).toArray = ls at hl ⊢
  have hl : lv_has ls 2 [(0, .ref a_g), (1, .ref a_r)] := hl
  have hiX5 : ∀ w ∈ wsX50, w ∈ wsX5_init := fun _ h => List.mem_cons_of_mem _ (List.mem_append_right _ h)
  have hf9 := hts (.fieldLink RX5 9 "MeetSets$Match" "list" "LMeetSets$SetRow;") (t1_ (al_ (t1_ (t1_ (t1_ h1_)))))
  have hf15 := hts (.fieldLink RX5 15 "MeetSets$Match" "known" "[I") (t1_ (al_ (t4_ (t1_ h1_))))
  refine w_abs (fun Z hZv hZw => ?_)
  refine hZv ?_
  obtain ⟨H, hH⟩ : ∃ H, H = s.heap := ⟨_, rfl⟩
  obtain ⟨locs, hlo⟩ : ∃ L : List Loc, L = [] := ⟨_, rfl⟩
  rw [← hlo, ← hH]
  have hS : va_S A s.heap H locs := by rw [hlo, hH]; exact hS
  have hP : va_P (dC, dI) vwCl [(a_g, .inr (5, [.null, .null]))] H := by rw [hH]; exact hP
  clear hH hlo
  refine lv_aload_n hx hb dX5_init_0 rfl (lv_at hl 0 rfl) ?_
  refine W.objInit hx hb hown (hts (.methodLink RX5 3 objectInit) (t1_ (al_ h1_))) (hts (.instanceMethod objectInit) (t1_ (al_ (t1_ h1_)))) (hts _ (List.mem_of_getElem? (i := 3) rfl)) rfl (by rw [hml]; exact hl.1) rfl dX5_init_1 (Nat.le_of_ble_eq_true rfl) (Nat.le_of_ble_eq_true rfl) ?_
  refine W.eq (g2 := F0 m 4 ls []) rfl ?_
  refine lv_aload_n hx hb dX5_init_4 rfl (lv_at hl 0 rfl) ?_
  refine lv_aload_n hx hb dX5_init_5 rfl (lv_at hl 1 rfl) ?_
  refine va_putF (D := (dC, dI)) (ci := 5) (v := .ref a_r) (ty := .object "MeetSets$SetRow") (C := RX5) (T := TX5) (N := 2) hx hb hts hiX5 tyX5 tyX5_ok nmX5 hown hK hP hD hS 0 rfl rfl 0 (by decide) hf9 (fun _ h9 => h9) rfl hin rfl (by decide +kernel) rfl rfl (Nat.le_of_ble_eq_true rfl) dX5_init_6 (fun H locs hP hD hS => ?_)
  have hP : va_P (dC, dI) vwCl [(a_g, .inr (5, [.ref a_r, .null]))] H := hP
  have hD : va_D A [(a_g, .inr (5, [.ref a_r, .null]))] := hD
  refine lv_aload_n hx hb dX5_init_9 rfl (lv_at hl 0 rfl) ?_
  refine lv_sipush (v := 3691) hx hb dX5_init_10 (by decide) ?_
  refine va_newa (atype := .int) (ty := .int) hx hb (hts (.arrayClass .int) (t1_ (al_ (t4_ h1_)))) rfl hK hP hD hS hA (N' := 3691) (a0 := (3691, .inl (fun _ => 0))) (fun _ => rfl) (by decide +kernel) (by decide +kernel) (by decide +kernel) (Nat.le_of_ble_eq_true rfl) (Nat.le_of_ble_eq_true rfl) dX5_init_13 (fun a_g_known c_g_known H hK hP hD hS => ?_)
  have hP : va_P (dC, dI) vwCl [(a_g, .inr (5, [.ref a_r, .null])), (a_g_known, .inl (c_g_known, 3691, .inl (fun _ => 0)))] H := hP
  have hD : va_D A [(a_g, .inr (5, [.ref a_r, .null])), (a_g_known, .inl (c_g_known, 3691, .inl (fun _ => 0)))] := hD
  have hK : va_K (dC, dI) vwCl [(c_g_known, .int)] s := hK
  refine W.widen (k := 1) (n := 3691) (by omega) (by omega) ?_
  refine va_putF (D := (dC, dI)) (ci := 5) (v := .ref a_g_known) (ty := .array .int) (C := RX5) (T := TX5) (N := 2) hx hb hts hiX5 tyX5 tyX5_ok nmX5 hown hK hP hD hS 0 rfl rfl 1 (by decide) hf15 (fun _ h9 => h9) rfl hin rfl (by decide +kernel) rfl rfl (Nat.le_of_ble_eq_true rfl) dX5_init_15 (fun H locs hP hD hS => ?_)
  have hP : va_P (dC, dI) vwCl [(a_g, .inr (5, [.ref a_r, .ref a_g_known])), (a_g_known, .inl (c_g_known, 3691, .inl (fun _ => 0)))] H := hP
  have hD : va_D A [(a_g, .inr (5, [.ref a_r, .ref a_g_known])), (a_g_known, .inl (c_g_known, 3691, .inl (fun _ => 0)))] := hD
  have hP9 : va_P (dC, dI) vwCl [(a_g, .inr (5, [.ref a_r, .ref a_g_known])), (a_g_known, .inl (c_g_known, 3691, .inl (fun _ => 0)))] H := hP.sub [0, 1] rfl
  have hD9 : va_D A [(a_g, .inr (5, [.ref a_r, .ref a_g_known])), (a_g_known, .inl (c_g_known, 3691, .inl (fun _ => 0)))] := hD.sub [0, 1] (by decide +kernel) rfl
  have hK9 : va_K (dC, dI) vwCl [(c_g_known, .int)] s := hK.sub [0] rfl
  exact W.vret hx hb hr (fun t ht hW => ⟨⟨(a_g_known, c_g_known), rfl, trivial, by rw [ht]; exact hP9, va_K.moved hW.alike hK9, hD9⟩, hS.F ht⟩) hS.2.2 dX5_init_18
set_option maxHeartbeats 4000000 in
set_option maxRecDepth 100000 in
theorem c_X0_init (l : Launch) (dC : Nat → ClassId) (dI : Nat → Nat → Nat) (a_k : Nat) (a_r : Nat) (sz : Nat) : Met l yX0_init wsX0_init ({ frames := 1, cells := 2, slots := 4106, locals := 20 }) (sPc [.ref a_k, .ref a_r] (dC, dI) [] [(a_k, .inr (0, [.null, .null, .null]))] sz) (va_Qv (fun (_ : Nat × Nat × ClassId × ClassId) => True) (sBI (dC, dI) (va_A [(a_k, .inr (0, [.null, .null, .null]))] sz) (fun (u : Nat × Nat × ClassId × ClassId) => [(a_k, .inr (0, [.ref a_r, .ref u.1, .ref u.2.1])), (u.1, .inl (u.2.2.1, 10, .inl (fun _ => 0))), (u.2.1, .inl (u.2.2.2, 4096, .inl (fun _ => 0)))]) (fun (u : Nat × Nat × ClassId × ClassId) => [(u.2.2.1, .int), (u.2.2.2, .int)])) (va_A [(a_k, .inr (0, [.null, .null, .null]))] sz)) 2 4106 (va_A [(a_k, .inr (0, [.null, .null, .null]))] sz) := by
  refine Met.ofW (cc := cX0_init) (maxL := 2) (ret := none) (by decide) rfl ?_
  intro p e s m args below meth c s₁ B hml hv
  obtain ⟨rfl, hsz, hP, hK, hD0, hN⟩ := hv
  have hx := B.exec
  have hb := B.bytes
  have hr := B.returns
  have hts := atoms_spec (ws := wsX0_init) B.pre
  have hown : s.vm.findClass RX0 = some m.cls := findClass_of_methodNamed B.named
  have hlocks := B.notSynchronized
  have hin : meth.name = "<init>" := (name_of_methodNamed B.named B.method).1
  subst hsz
  have hD := hD0.self (sz := s.heap.size)
  generalize hAe : va_A [(a_k, .inr (0, [.null, .null, .null]))] s.heap.size = A at hD hN ⊢
  have hA : ∀ q : Nat, s.heap.size ≤ q → A q := fun q h => by rw [← hAe]; exact Or.inr h
  have hS : va_S A s.heap s.heap [] := va_S.rf
  have hP : va_P (dC, dI) vwCl [(a_k, .inr (0, [.null, .null, .null]))] s.heap := hP
  have hl := lv_entry ([.ref a_k, .ref a_r]) (n := 2) (Nat.le_of_ble_eq_true rfl)
  rw [lg_entry_eq]
  generalize (lg_sl ([.ref a_k, .ref a_r]) ++ List.replicate (2 - (lg_sl ([.ref a_k, .ref a_r])).length) Slot.unset).toArray = ls at hl ⊢
  have hl : lv_has ls 2 [(0, .ref a_k), (1, .ref a_r)] := hl
  have hiX0 : ∀ w ∈ wsX00, w ∈ wsX0_init := fun _ h => List.mem_cons_of_mem _ (List.mem_append_right _ h)
  have hf9 := hts (.fieldLink RX0 9 "MeetSets$Asking" "list" "LMeetSets$SetRow;") (t1_ (al_ (t1_ (t1_ (t1_ h1_)))))
  have hf15 := hts (.fieldLink RX0 15 "MeetSets$Asking" "having" "[I") (t1_ (al_ (t4_ (t1_ h1_))))
  have hf19 := hts (.fieldLink RX0 19 "MeetSets$Asking" "fewest" "[I") (t1_ (al_ (t4_ (t1_ (t1_ h1_)))))
  refine w_abs (fun Z hZv hZw => ?_)
  refine hZv ?_
  obtain ⟨H, hH⟩ : ∃ H, H = s.heap := ⟨_, rfl⟩
  obtain ⟨locs, hlo⟩ : ∃ L : List Loc, L = [] := ⟨_, rfl⟩
  rw [← hlo, ← hH]
  have hS : va_S A s.heap H locs := by rw [hlo, hH]; exact hS
  have hP : va_P (dC, dI) vwCl [(a_k, .inr (0, [.null, .null, .null]))] H := by rw [hH]; exact hP
  clear hH hlo
  refine lv_aload_n hx hb dX0_init_0 rfl (lv_at hl 0 rfl) ?_
  refine W.objInit hx hb hown (hts (.methodLink RX0 3 objectInit) (t1_ (al_ h1_))) (hts (.instanceMethod objectInit) (t1_ (al_ (t1_ h1_)))) (hts _ (List.mem_of_getElem? (i := 3) rfl)) rfl (by rw [hml]; exact hl.1) rfl dX0_init_1 (Nat.le_of_ble_eq_true rfl) (Nat.le_of_ble_eq_true rfl) ?_
  refine W.eq (g2 := F0 m 4 ls []) rfl ?_
  refine lv_aload_n hx hb dX0_init_4 rfl (lv_at hl 0 rfl) ?_
  refine lv_aload_n hx hb dX0_init_5 rfl (lv_at hl 1 rfl) ?_
  refine va_putF (D := (dC, dI)) (ci := 0) (v := .ref a_r) (ty := .object "MeetSets$SetRow") (C := RX0) (T := TX0) (N := 3) hx hb hts hiX0 tyX0 tyX0_ok nmX0 hown hK hP hD hS 0 rfl rfl 0 (by decide) hf9 (fun _ h9 => h9) rfl hin rfl (by decide +kernel) rfl rfl (Nat.le_of_ble_eq_true rfl) dX0_init_6 (fun H locs hP hD hS => ?_)
  have hP : va_P (dC, dI) vwCl [(a_k, .inr (0, [.ref a_r, .null, .null]))] H := hP
  have hD : va_D A [(a_k, .inr (0, [.ref a_r, .null, .null]))] := hD
  refine lv_aload_n hx hb dX0_init_9 rfl (lv_at hl 0 rfl) ?_
  refine lv_bipush (v := 10) hx hb dX0_init_10 (by decide) ?_
  refine va_newa (atype := .int) (ty := .int) hx hb (hts (.arrayClass .int) (t1_ (al_ (t4_ h1_)))) rfl hK hP hD hS hA (N' := 10) (a0 := (10, .inl (fun _ => 0))) (fun _ => rfl) (by decide +kernel) (by decide +kernel) (by decide +kernel) (Nat.le_of_ble_eq_true rfl) (Nat.le_of_ble_eq_true rfl) dX0_init_12 (fun a_k_having c_k_having H hK hP hD hS => ?_)
  have hP : va_P (dC, dI) vwCl [(a_k, .inr (0, [.ref a_r, .null, .null])), (a_k_having, .inl (c_k_having, 10, .inl (fun _ => 0)))] H := hP
  have hD : va_D A [(a_k, .inr (0, [.ref a_r, .null, .null])), (a_k_having, .inl (c_k_having, 10, .inl (fun _ => 0)))] := hD
  have hK : va_K (dC, dI) vwCl [(c_k_having, .int)] s := hK
  refine W.widen (k := 1) (n := 10) (by omega) (by omega) ?_
  refine va_putF (D := (dC, dI)) (ci := 0) (v := .ref a_k_having) (ty := .array .int) (C := RX0) (T := TX0) (N := 3) hx hb hts hiX0 tyX0 tyX0_ok nmX0 hown hK hP hD hS 0 rfl rfl 1 (by decide) hf15 (fun _ h9 => h9) rfl hin rfl (by decide +kernel) rfl rfl (Nat.le_of_ble_eq_true rfl) dX0_init_14 (fun H locs hP hD hS => ?_)
  have hP : va_P (dC, dI) vwCl [(a_k, .inr (0, [.ref a_r, .ref a_k_having, .null])), (a_k_having, .inl (c_k_having, 10, .inl (fun _ => 0)))] H := hP
  have hD : va_D A [(a_k, .inr (0, [.ref a_r, .ref a_k_having, .null])), (a_k_having, .inl (c_k_having, 10, .inl (fun _ => 0)))] := hD
  refine lv_aload_n hx hb dX0_init_17 rfl (lv_at hl 0 rfl) ?_
  refine lv_sipush (v := 4096) hx hb dX0_init_18 (by decide) ?_
  refine va_newa (atype := .int) (ty := .int) hx hb (hts (.arrayClass .int) (t1_ (al_ (t4_ h1_)))) rfl hK hP hD hS hA (N' := 4096) (a0 := (4096, .inl (fun _ => 0))) (fun _ => rfl) (by decide +kernel) (by decide +kernel) (by decide +kernel) (Nat.le_of_ble_eq_true rfl) (Nat.le_of_ble_eq_true rfl) dX0_init_21 (fun a_k_fewest c_k_fewest H hK hP hD hS => ?_)
  have hP : va_P (dC, dI) vwCl [(a_k, .inr (0, [.ref a_r, .ref a_k_having, .null])), (a_k_having, .inl (c_k_having, 10, .inl (fun _ => 0))), (a_k_fewest, .inl (c_k_fewest, 4096, .inl (fun _ => 0)))] H := hP
  have hD : va_D A [(a_k, .inr (0, [.ref a_r, .ref a_k_having, .null])), (a_k_having, .inl (c_k_having, 10, .inl (fun _ => 0))), (a_k_fewest, .inl (c_k_fewest, 4096, .inl (fun _ => 0)))] := hD
  have hK : va_K (dC, dI) vwCl [(c_k_having, .int), (c_k_fewest, .int)] s := hK
  refine W.widen (k := 2) (n := 4106) (by omega) (by omega) ?_
  refine va_putF (D := (dC, dI)) (ci := 0) (v := .ref a_k_fewest) (ty := .array .int) (C := RX0) (T := TX0) (N := 3) hx hb hts hiX0 tyX0 tyX0_ok nmX0 hown hK hP hD hS 0 rfl rfl 2 (by decide) hf19 (fun _ h9 => h9) rfl hin rfl (by decide +kernel) rfl rfl (Nat.le_of_ble_eq_true rfl) dX0_init_23 (fun H locs hP hD hS => ?_)
  have hP : va_P (dC, dI) vwCl [(a_k, .inr (0, [.ref a_r, .ref a_k_having, .ref a_k_fewest])), (a_k_having, .inl (c_k_having, 10, .inl (fun _ => 0))), (a_k_fewest, .inl (c_k_fewest, 4096, .inl (fun _ => 0)))] H := hP
  have hD : va_D A [(a_k, .inr (0, [.ref a_r, .ref a_k_having, .ref a_k_fewest])), (a_k_having, .inl (c_k_having, 10, .inl (fun _ => 0))), (a_k_fewest, .inl (c_k_fewest, 4096, .inl (fun _ => 0)))] := hD
  have hP9 : va_P (dC, dI) vwCl [(a_k, .inr (0, [.ref a_r, .ref a_k_having, .ref a_k_fewest])), (a_k_having, .inl (c_k_having, 10, .inl (fun _ => 0))), (a_k_fewest, .inl (c_k_fewest, 4096, .inl (fun _ => 0)))] H := hP.sub [0, 1, 2] rfl
  have hD9 : va_D A [(a_k, .inr (0, [.ref a_r, .ref a_k_having, .ref a_k_fewest])), (a_k_having, .inl (c_k_having, 10, .inl (fun _ => 0))), (a_k_fewest, .inl (c_k_fewest, 4096, .inl (fun _ => 0)))] := hD.sub [0, 1, 2] (by decide +kernel) rfl
  have hK9 : va_K (dC, dI) vwCl [(c_k_having, .int), (c_k_fewest, .int)] s := hK.sub [0, 1] rfl
  exact W.vret hx hb hr (fun t ht hW => ⟨⟨(a_k_having, a_k_fewest, c_k_having, c_k_fewest), rfl, trivial, by rw [ht]; exact hP9, va_K.moved hW.alike hK9, hD9⟩, hS.F ht⟩) hS.2.2 dX0_init_26
