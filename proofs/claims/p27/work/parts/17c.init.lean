set_option maxHeartbeats 1000000 in
set_option maxRecDepth 100000 in
theorem c_X7_init (l : Launch) (dC : Nat → ClassId) (dI : Nat → Nat → Nat) (a_h : Nat) (sz : Nat) : Met l yX7_init wsX7_init ({ frames := 1, cells := 14, slots := 224, locals := 20 }) (sPcA [.ref a_h] (dC, dI) [] [(a_h, .inr (7, [.null, .null, .null, .int 0, .int 0, .long 0]))] sz) (va_Qv (fun (_ : Nat × Nat × Nat × (Nat → Nat) × ClassId × ClassId × ClassId × ClassId) => True) (sBI (dC, dI) (va_A [(a_h, .inr (7, [.null, .null, .null, .int 0, .int 0, .long 0]))] sz) (fun (u : Nat × Nat × Nat × (Nat → Nat) × ClassId × ClassId × ClassId × ClassId) => ([(a_h, .inr (7, [.ref u.1, .ref u.2.1, .ref u.2.2.1, .int 0, .int 0, .long 1])), (u.1, .inl (u.2.2.2.2.1, 11, .inr (.inr (.inr (.inr (fun i => if i < 11 then some (u.2.2.2.1 i) else none)))))), (u.2.1, .inl (u.2.2.2.2.2.1, 10, .inl (fun _ => 0))), (u.2.2.1, .inl (u.2.2.2.2.2.2.1, 16, .inl (fun _ => 0)))] ++ gR u.2.2.2.1 u.2.2.2.2.2.2.2 (fun _ _ => 0))) (fun (u : Nat × Nat × Nat × (Nat → Nat) × ClassId × ClassId × ClassId × ClassId) => [(u.2.2.2.2.1, .array .long), (u.2.2.2.2.2.1, .int), (u.2.2.2.2.2.2.1, .int), (u.2.2.2.2.2.2.2, .long)])) (va_A [(a_h, .inr (7, [.null, .null, .null, .int 0, .int 0, .long 0]))] sz)) 14 224 (va_A [(a_h, .inr (7, [.null, .null, .null, .int 0, .int 0, .long 0]))] sz) := by
  refine Met.ofW (cc := cX7_init) (maxL := 1) (ret := none) (by decide) rfl ?_
  intro p e s m args below meth c s₁ B hml hv
  obtain ⟨⟨rfl, hsz, hP, hK, hD0, hN⟩, hAO⟩ := hv
  have hx := B.exec
  have hb := B.bytes
  have hr := B.returns
  have hts := atoms_spec (ws := wsX7_init) B.pre
  have hown : s.vm.findClass RX7 = some m.cls := findClass_of_methodNamed B.named
  have hlocks := B.notSynchronized
  have hin : meth.name = "<init>" := (name_of_methodNamed B.named B.method).1
  subst hsz
  have hD := hD0.self (sz := s.heap.size)
  generalize hAe : va_A [(a_h, .inr (7, [.null, .null, .null, .int 0, .int 0, .long 0]))] s.heap.size = A at hD hN ⊢
  have hA : ∀ q : Nat, s.heap.size ≤ q → A q := fun q h => by rw [← hAe]; exact Or.inr h
  have hS : va_S A s.heap s.heap [] := va_S.rf
  have hP : va_P (dC, dI) vwCl [(a_h, .inr (7, [.null, .null, .null, .int 0, .int 0, .long 0]))] s.heap := hP
  have hl := lv_entry ([.ref a_h]) (n := 1) (Nat.le_of_ble_eq_true rfl)
  rw [lg_entry_eq]
  generalize (lg_sl ([.ref a_h]) ++ List.replicate (1 - (lg_sl ([.ref a_h])).length) Slot.unset).toArray = ls at hl ⊢
  have hl : lv_has ls 1 [(0, .ref a_h)] := hl
  have hiX7 : ∀ w ∈ wsX70, w ∈ wsX7_init := fun _ h => List.mem_cons_of_mem _ (List.mem_append_right _ h)
  have hf13 := hts (.fieldLink RX7 13 "MeetSets$Shares" "table" "[[J") (t1_ (al_ (t4_ (t1_ h1_))))
  have hf16 := hts (.fieldLink RX7 16 "MeetSets$Shares" "rowLabels" "[I") (t1_ (al_ (t4_ (t1_ (t1_ (t1_ h1_))))))
  have hf20 := hts (.fieldLink RX7 20 "MeetSets$Shares" "columnLabels" "[I") (t1_ (al_ (t4_ (t4_ h1_))))
  have hf23 := hts (.fieldLink RX7 23 "MeetSets$Shares" "rows" "I") (t1_ (al_ (t4_ (t4_ (t1_ h1_)))))
  have hf27 := hts (.fieldLink RX7 27 "MeetSets$Shares" "columns" "I") (t1_ (al_ (t4_ (t4_ (t1_ (t1_ h1_))))))
  have hf30 := hts (.fieldLink RX7 30 "MeetSets$Shares" "divisor" "J") (t1_ (al_ (t4_ (t4_ (t1_ (t1_ (t1_ h1_)))))))
  refine w_abs (fun Z hZv hZw => ?_)
  refine hZv ?_
  obtain ⟨H, hH⟩ : ∃ H, H = s.heap := ⟨_, rfl⟩
  obtain ⟨locs, hlo⟩ : ∃ L : List Loc, L = [] := ⟨_, rfl⟩
  rw [← hlo, ← hH]
  have hS : va_S A s.heap H locs := by rw [hlo, hH]; exact hS
  have hP : va_P (dC, dI) vwCl [(a_h, .inr (7, [.null, .null, .null, .int 0, .int 0, .long 0]))] H := by rw [hH]; exact hP
  clear hH hlo
  refine lv_aload_n hx hb dX7_init_0 rfl (lv_at hl 0 rfl) ?_
  refine W.objInit hx hb hown (hts (.methodLink RX7 3 objectInit) (t1_ (al_ h1_))) (hts (.instanceMethod objectInit) (t1_ (al_ (t1_ h1_)))) (hts _ (List.mem_of_getElem? (i := 3) rfl)) rfl (by rw [hml]; exact hl.1) rfl dX7_init_1 (Nat.le_of_ble_eq_true rfl) (Nat.le_of_ble_eq_true rfl) ?_
  refine W.eq (g2 := F0 m 4 ls []) rfl ?_
  refine lv_aload_n hx hb dX7_init_4 rfl (lv_at hl 0 rfl) ?_
  refine lv_bipush (v := 11) hx hb dX7_init_5 (by decide) ?_
  refine lv_bipush (v := 17) hx hb dX7_init_7 (by decide) ?_
  refine va_mna2 hx hb hown (hts (.classLink RX7 11 "[[J") (t1_ (al_ (t1_ (t1_ (t1_ h1_)))))) hAO (hts (.arrayClass .long) (t1_ (al_ (t4_ h1_)))) hK hP hD hS hA (Nat.le_of_ble_eq_true rfl) (Nat.le_of_ble_eq_true rfl) dX7_init_9 (fun a_h_t a_h_g c_h_t c_h_g H hK hP hD hS => ?_)
  have hP : va_P (dC, dI) vwCl ([(a_h, .inr (7, [.null, .null, .null, .int 0, .int 0, .long 0])), (a_h_t, .inl (c_h_t, 11, .inr (.inr (.inr (.inr (fun i => if i < 11 then some (a_h_g i) else none))))))] ++ gR a_h_g c_h_g (fun _ _ => 0)) H := hP
  have hD : va_D A ([(a_h, .inr (7, [.null, .null, .null, .int 0, .int 0, .long 0])), (a_h_t, .inl (c_h_t, 11, .inr (.inr (.inr (.inr (fun i => if i < 11 then some (a_h_g i) else none))))))] ++ gR a_h_g c_h_g (fun _ _ => 0)) := hD
  have hK : va_K (dC, dI) vwCl [(c_h_t, .array .long), (c_h_g, .long)] s := hK
  refine W.widen (k := 12) (n := 198) (by omega) (by omega) ?_
  refine va_putF (D := (dC, dI)) (ci := 7) (v := .ref a_h_t) (ty := .array (.array .long)) (C := RX7) (T := TX7) (N := 6) hx hb hts hiX7 tyX7 tyX7_ok nmX7 hown hK hP hD hS 0 rfl rfl 0 (by decide) hf13 (fun _ h9 => h9) rfl hin rfl (by decide +kernel) rfl rfl (Nat.le_of_ble_eq_true rfl) dX7_init_13 (fun H locs hP hD hS => ?_)
  have hP : va_P (dC, dI) vwCl ([(a_h, .inr (7, [.ref a_h_t, .null, .null, .int 0, .int 0, .long 0])), (a_h_t, .inl (c_h_t, 11, .inr (.inr (.inr (.inr (fun i => if i < 11 then some (a_h_g i) else none))))))] ++ gR a_h_g c_h_g (fun _ _ => 0)) H := hP
  have hD : va_D A ([(a_h, .inr (7, [.ref a_h_t, .null, .null, .int 0, .int 0, .long 0])), (a_h_t, .inl (c_h_t, 11, .inr (.inr (.inr (.inr (fun i => if i < 11 then some (a_h_g i) else none))))))] ++ gR a_h_g c_h_g (fun _ _ => 0)) := hD
  refine lv_aload_n hx hb dX7_init_16 rfl (lv_at hl 0 rfl) ?_
  refine lv_bipush (v := 10) hx hb dX7_init_17 (by decide) ?_
  refine va_newa (atype := .int) (ty := .int) hx hb (hts (.arrayClass .int) (t1_ (al_ (t4_ (t1_ (t1_ h1_)))))) rfl hK hP hD hS hA (N' := 10) (a0 := (10, .inl (fun _ => 0))) (fun _ => rfl) (by decide +kernel) (by decide +kernel) (by decide +kernel) (Nat.le_of_ble_eq_true rfl) (Nat.le_of_ble_eq_true rfl) dX7_init_19 (fun a_h_rl c_h_rl H hK hP hD hS => ?_)
  have hP : va_P (dC, dI) vwCl ([(a_h, .inr (7, [.ref a_h_t, .null, .null, .int 0, .int 0, .long 0])), (a_h_t, .inl (c_h_t, 11, .inr (.inr (.inr (.inr (fun i => if i < 11 then some (a_h_g i) else none)))))), (a_h_rl, .inl (c_h_rl, 10, .inl (fun _ => 0)))] ++ gR a_h_g c_h_g (fun _ _ => 0)) H := hP.sub [0, 1, 13, 2, 3, 4, 5, 6, 7, 8, 9, 10, 11, 12] rfl
  have hD : va_D A ([(a_h, .inr (7, [.ref a_h_t, .null, .null, .int 0, .int 0, .long 0])), (a_h_t, .inl (c_h_t, 11, .inr (.inr (.inr (.inr (fun i => if i < 11 then some (a_h_g i) else none)))))), (a_h_rl, .inl (c_h_rl, 10, .inl (fun _ => 0)))] ++ gR a_h_g c_h_g (fun _ _ => 0)) := hD.sub [0, 1, 13, 2, 3, 4, 5, 6, 7, 8, 9, 10, 11, 12] (by decide +kernel) rfl
  have hK : va_K (dC, dI) vwCl [(c_h_t, .array .long), (c_h_g, .long), (c_h_rl, .int)] s := hK
  refine W.widen (k := 13) (n := 208) (by omega) (by omega) ?_
  refine va_putF (D := (dC, dI)) (ci := 7) (v := .ref a_h_rl) (ty := .array .int) (C := RX7) (T := TX7) (N := 6) hx hb hts hiX7 tyX7 tyX7_ok nmX7 hown hK hP hD hS 0 rfl rfl 1 (by decide) hf16 (fun _ h9 => h9) rfl hin rfl (by decide +kernel) rfl rfl (Nat.le_of_ble_eq_true rfl) dX7_init_21 (fun H locs hP hD hS => ?_)
  have hP : va_P (dC, dI) vwCl ([(a_h, .inr (7, [.ref a_h_t, .ref a_h_rl, .null, .int 0, .int 0, .long 0])), (a_h_t, .inl (c_h_t, 11, .inr (.inr (.inr (.inr (fun i => if i < 11 then some (a_h_g i) else none)))))), (a_h_rl, .inl (c_h_rl, 10, .inl (fun _ => 0)))] ++ gR a_h_g c_h_g (fun _ _ => 0)) H := hP
  have hD : va_D A ([(a_h, .inr (7, [.ref a_h_t, .ref a_h_rl, .null, .int 0, .int 0, .long 0])), (a_h_t, .inl (c_h_t, 11, .inr (.inr (.inr (.inr (fun i => if i < 11 then some (a_h_g i) else none)))))), (a_h_rl, .inl (c_h_rl, 10, .inl (fun _ => 0)))] ++ gR a_h_g c_h_g (fun _ _ => 0)) := hD
  refine lv_aload_n hx hb dX7_init_24 rfl (lv_at hl 0 rfl) ?_
  refine lv_bipush (v := 16) hx hb dX7_init_25 (by decide) ?_
  refine va_newa (atype := .int) (ty := .int) hx hb (hts (.arrayClass .int) (t1_ (al_ (t4_ (t1_ (t1_ h1_)))))) rfl hK hP hD hS hA (N' := 16) (a0 := (16, .inl (fun _ => 0))) (fun _ => rfl) (by decide +kernel) (by decide +kernel) (by decide +kernel) (Nat.le_of_ble_eq_true rfl) (Nat.le_of_ble_eq_true rfl) dX7_init_27 (fun a_h_cl c_h_cl H hK hP hD hS => ?_)
  have hP : va_P (dC, dI) vwCl ([(a_h, .inr (7, [.ref a_h_t, .ref a_h_rl, .null, .int 0, .int 0, .long 0])), (a_h_t, .inl (c_h_t, 11, .inr (.inr (.inr (.inr (fun i => if i < 11 then some (a_h_g i) else none)))))), (a_h_rl, .inl (c_h_rl, 10, .inl (fun _ => 0))), (a_h_cl, .inl (c_h_cl, 16, .inl (fun _ => 0)))] ++ gR a_h_g c_h_g (fun _ _ => 0)) H := hP.sub [0, 1, 2, 14, 3, 4, 5, 6, 7, 8, 9, 10, 11, 12, 13] rfl
  have hD : va_D A ([(a_h, .inr (7, [.ref a_h_t, .ref a_h_rl, .null, .int 0, .int 0, .long 0])), (a_h_t, .inl (c_h_t, 11, .inr (.inr (.inr (.inr (fun i => if i < 11 then some (a_h_g i) else none)))))), (a_h_rl, .inl (c_h_rl, 10, .inl (fun _ => 0))), (a_h_cl, .inl (c_h_cl, 16, .inl (fun _ => 0)))] ++ gR a_h_g c_h_g (fun _ _ => 0)) := hD.sub [0, 1, 2, 14, 3, 4, 5, 6, 7, 8, 9, 10, 11, 12, 13] (by decide +kernel) rfl
  have hK : va_K (dC, dI) vwCl [(c_h_t, .array .long), (c_h_g, .long), (c_h_rl, .int), (c_h_cl, .int)] s := hK
  refine W.widen (k := 14) (n := 224) (by omega) (by omega) ?_
  refine va_putF (D := (dC, dI)) (ci := 7) (v := .ref a_h_cl) (ty := .array .int) (C := RX7) (T := TX7) (N := 6) hx hb hts hiX7 tyX7 tyX7_ok nmX7 hown hK hP hD hS 0 rfl rfl 2 (by decide) hf20 (fun _ h9 => h9) rfl hin rfl (by decide +kernel) rfl rfl (Nat.le_of_ble_eq_true rfl) dX7_init_29 (fun H locs hP hD hS => ?_)
  have hP : va_P (dC, dI) vwCl ([(a_h, .inr (7, [.ref a_h_t, .ref a_h_rl, .ref a_h_cl, .int 0, .int 0, .long 0])), (a_h_t, .inl (c_h_t, 11, .inr (.inr (.inr (.inr (fun i => if i < 11 then some (a_h_g i) else none)))))), (a_h_rl, .inl (c_h_rl, 10, .inl (fun _ => 0))), (a_h_cl, .inl (c_h_cl, 16, .inl (fun _ => 0)))] ++ gR a_h_g c_h_g (fun _ _ => 0)) H := hP
  have hD : va_D A ([(a_h, .inr (7, [.ref a_h_t, .ref a_h_rl, .ref a_h_cl, .int 0, .int 0, .long 0])), (a_h_t, .inl (c_h_t, 11, .inr (.inr (.inr (.inr (fun i => if i < 11 then some (a_h_g i) else none)))))), (a_h_rl, .inl (c_h_rl, 10, .inl (fun _ => 0))), (a_h_cl, .inl (c_h_cl, 16, .inl (fun _ => 0)))] ++ gR a_h_g c_h_g (fun _ _ => 0)) := hD
  refine lv_aload_n hx hb dX7_init_32 rfl (lv_at hl 0 rfl) ?_
  refine lv_iconst (v := 0) hx hb dX7_init_33 (by decide) ?_
  refine va_put (D := (dC, dI)) (ci := 7) (v := .int 0) (ty := .int) (C := RX7) (T := TX7) (N := 6) hx hb hts hiX7 tyX7 tyX7_ok nmX7 hown hK hP hD hS 0 rfl rfl 3 (by decide) hf23 (fun _ h9 => h9) rfl (by decide +kernel) rfl rfl (Nat.le_of_ble_eq_true rfl) dX7_init_34 (fun H locs hP hD hS => ?_)
  have hP : va_P (dC, dI) vwCl ([(a_h, .inr (7, [.ref a_h_t, .ref a_h_rl, .ref a_h_cl, .int 0, .int 0, .long 0])), (a_h_t, .inl (c_h_t, 11, .inr (.inr (.inr (.inr (fun i => if i < 11 then some (a_h_g i) else none)))))), (a_h_rl, .inl (c_h_rl, 10, .inl (fun _ => 0))), (a_h_cl, .inl (c_h_cl, 16, .inl (fun _ => 0)))] ++ gR a_h_g c_h_g (fun _ _ => 0)) H := hP
  have hD : va_D A ([(a_h, .inr (7, [.ref a_h_t, .ref a_h_rl, .ref a_h_cl, .int 0, .int 0, .long 0])), (a_h_t, .inl (c_h_t, 11, .inr (.inr (.inr (.inr (fun i => if i < 11 then some (a_h_g i) else none)))))), (a_h_rl, .inl (c_h_rl, 10, .inl (fun _ => 0))), (a_h_cl, .inl (c_h_cl, 16, .inl (fun _ => 0)))] ++ gR a_h_g c_h_g (fun _ _ => 0)) := hD
  refine lv_aload_n hx hb dX7_init_37 rfl (lv_at hl 0 rfl) ?_
  refine lv_iconst (v := 0) hx hb dX7_init_38 (by decide) ?_
  refine va_put (D := (dC, dI)) (ci := 7) (v := .int 0) (ty := .int) (C := RX7) (T := TX7) (N := 6) hx hb hts hiX7 tyX7 tyX7_ok nmX7 hown hK hP hD hS 0 rfl rfl 4 (by decide) hf27 (fun _ h9 => h9) rfl (by decide +kernel) rfl rfl (Nat.le_of_ble_eq_true rfl) dX7_init_39 (fun H locs hP hD hS => ?_)
  have hP : va_P (dC, dI) vwCl ([(a_h, .inr (7, [.ref a_h_t, .ref a_h_rl, .ref a_h_cl, .int 0, .int 0, .long 0])), (a_h_t, .inl (c_h_t, 11, .inr (.inr (.inr (.inr (fun i => if i < 11 then some (a_h_g i) else none)))))), (a_h_rl, .inl (c_h_rl, 10, .inl (fun _ => 0))), (a_h_cl, .inl (c_h_cl, 16, .inl (fun _ => 0)))] ++ gR a_h_g c_h_g (fun _ _ => 0)) H := hP
  have hD : va_D A ([(a_h, .inr (7, [.ref a_h_t, .ref a_h_rl, .ref a_h_cl, .int 0, .int 0, .long 0])), (a_h_t, .inl (c_h_t, 11, .inr (.inr (.inr (.inr (fun i => if i < 11 then some (a_h_g i) else none)))))), (a_h_rl, .inl (c_h_rl, 10, .inl (fun _ => 0))), (a_h_cl, .inl (c_h_cl, 16, .inl (fun _ => 0)))] ++ gR a_h_g c_h_g (fun _ _ => 0)) := hD
  refine lv_aload_n hx hb dX7_init_42 rfl (lv_at hl 0 rfl) ?_
  refine lv_lconst (v := 1) hx hb dX7_init_43 (by decide) ?_
  refine va_put (D := (dC, dI)) (ci := 7) (v := .long 1) (ty := .long) (C := RX7) (T := TX7) (N := 6) hx hb hts hiX7 tyX7 tyX7_ok nmX7 hown hK hP hD hS 0 rfl rfl 5 (by decide) hf30 (fun _ h9 => h9) rfl (by decide +kernel) rfl rfl (Nat.le_of_ble_eq_true rfl) dX7_init_44 (fun H locs hP hD hS => ?_)
  have hP : va_P (dC, dI) vwCl ([(a_h, .inr (7, [.ref a_h_t, .ref a_h_rl, .ref a_h_cl, .int 0, .int 0, .long 1])), (a_h_t, .inl (c_h_t, 11, .inr (.inr (.inr (.inr (fun i => if i < 11 then some (a_h_g i) else none)))))), (a_h_rl, .inl (c_h_rl, 10, .inl (fun _ => 0))), (a_h_cl, .inl (c_h_cl, 16, .inl (fun _ => 0)))] ++ gR a_h_g c_h_g (fun _ _ => 0)) H := hP
  have hD : va_D A ([(a_h, .inr (7, [.ref a_h_t, .ref a_h_rl, .ref a_h_cl, .int 0, .int 0, .long 1])), (a_h_t, .inl (c_h_t, 11, .inr (.inr (.inr (.inr (fun i => if i < 11 then some (a_h_g i) else none)))))), (a_h_rl, .inl (c_h_rl, 10, .inl (fun _ => 0))), (a_h_cl, .inl (c_h_cl, 16, .inl (fun _ => 0)))] ++ gR a_h_g c_h_g (fun _ _ => 0)) := hD
  have hP9 : va_P (dC, dI) vwCl ([(a_h, .inr (7, [.ref a_h_t, .ref a_h_rl, .ref a_h_cl, .int 0, .int 0, .long 1])), (a_h_t, .inl (c_h_t, 11, .inr (.inr (.inr (.inr (fun i => if i < 11 then some (a_h_g i) else none)))))), (a_h_rl, .inl (c_h_rl, 10, .inl (fun _ => 0))), (a_h_cl, .inl (c_h_cl, 16, .inl (fun _ => 0)))] ++ gR a_h_g c_h_g (fun _ _ => 0)) H := hP.sub [0, 1, 2, 3, 4, 5, 6, 7, 8, 9, 10, 11, 12, 13, 14] rfl
  have hD9 : va_D A ([(a_h, .inr (7, [.ref a_h_t, .ref a_h_rl, .ref a_h_cl, .int 0, .int 0, .long 1])), (a_h_t, .inl (c_h_t, 11, .inr (.inr (.inr (.inr (fun i => if i < 11 then some (a_h_g i) else none)))))), (a_h_rl, .inl (c_h_rl, 10, .inl (fun _ => 0))), (a_h_cl, .inl (c_h_cl, 16, .inl (fun _ => 0)))] ++ gR a_h_g c_h_g (fun _ _ => 0)) := hD.sub [0, 1, 2, 3, 4, 5, 6, 7, 8, 9, 10, 11, 12, 13, 14] (by decide +kernel) rfl
  have hK9 : va_K (dC, dI) vwCl [(c_h_t, .array .long), (c_h_rl, .int), (c_h_cl, .int), (c_h_g, .long)] s := hK.sub [0, 2, 3, 1] rfl
  exact W.vret hx hb hr (fun t ht hW => ⟨⟨(a_h_t, a_h_rl, a_h_cl, a_h_g, c_h_t, c_h_rl, c_h_cl, c_h_g), rfl, trivial, by rw [ht]; exact hP9, va_K.moved hW.alike hK9, hD9⟩, hS.F ht⟩) hS.2.2 dX7_init_47
