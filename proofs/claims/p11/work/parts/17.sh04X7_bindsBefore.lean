noncomputable def pX7_bindsBefore_J75 (t75 : Unit) : Option (Int32) :=
  some 1
noncomputable def pX7_bindsBefore (h_columns : Int32) (h_rl : Nat → Int32) (h_g : Nat → Nat → Int64) (p1 : Int32) (p2 : Int32) (p3 : Int32) : Option (Int32) :=
  gd (vp_in p1 11) (gd (vp_in h_columns 17) (gd (vp_in p2 11) (gd (vp_in p3 17) (gd (vp_in p2 11) (gd (vp_in h_columns 17) (gd (vp_in p1 11) (gd (vp_in p3 17) (if (lg_cmp ((h_g p1.toNatClampNeg h_columns.toNatClampNeg) * (h_g p2.toNatClampNeg p3.toNatClampNeg)) ((h_g p2.toNatClampNeg h_columns.toNatClampNeg) * (h_g p1.toNatClampNeg p3.toNatClampNeg))) < 0 then (pX7_bindsBefore_J75 ()) else (if (lg_cmp ((h_g p1.toNatClampNeg h_columns.toNatClampNeg) * (h_g p2.toNatClampNeg p3.toNatClampNeg)) ((h_g p2.toNatClampNeg h_columns.toNatClampNeg) * (h_g p1.toNatClampNeg p3.toNatClampNeg))) = 0 then (gd (vp_in p1 10) (gd (vp_in p2 10) (if (h_rl p2.toNatClampNeg) ≤ (h_rl p1.toNatClampNeg) then (some 0) else (pX7_bindsBefore_J75 ())))) else (some 0))))))))))
set_option maxHeartbeats 4000000 in
set_option maxRecDepth 100000 in
theorem c_X7_bindsBefore (l : Launch) (dC : Nat → ClassId) (dI : Nat → Nat → Nat) (a_h : Nat) (a_h_t : Nat) (a_h_rl : Nat) (a_h_cl : Nat) (a_h_g : Nat → Nat) (c_h_t c_h_rl c_h_g : ClassId) (sz : Nat) (h_rows : Int32) (h_columns : Int32) (h_divisor : Int64) (h_rl : Nat → Int32) (h_g : Nat → Nat → Int64) (p1 : Int32) (p2 : Int32) (p3 : Int32) (rv : Int32) (hs : pX7_bindsBefore h_columns h_rl h_g p1 p2 p3 = some rv) : Met l yX7_bindsBefore wsX7_bindsBefore ({ frames := 0, cells := 0, slots := 0, locals := 0 }) (sPc [.ref a_h, .int p1, .int p2, .int p3] (dC, dI) [(c_h_t, .array .long), (c_h_rl, .int), (c_h_g, .long)] ([(a_h, .inr (7, [.ref a_h_t, .ref a_h_rl, .ref a_h_cl, .int h_rows, .int h_columns, .long h_divisor])), (a_h_t, .inl (c_h_t, 11, .inr (.inr (.inr (.inr (fun i => if i < 11 then some (a_h_g i) else none)))))), (a_h_rl, .inl (c_h_rl, 10, .inl h_rl))] ++ gR a_h_g c_h_g h_g) sz) (va_Qi (fun (r : Int32) (_ : Unit) => r = rv) (sB (dC, dI) [(c_h_t, .array .long), (c_h_rl, .int), (c_h_g, .long)] (va_A ([(a_h, .inr (7, [.ref a_h_t, .ref a_h_rl, .ref a_h_cl, .int h_rows, .int h_columns, .long h_divisor])), (a_h_t, .inl (c_h_t, 11, .inr (.inr (.inr (.inr (fun i => if i < 11 then some (a_h_g i) else none)))))), (a_h_rl, .inl (c_h_rl, 10, .inl h_rl))] ++ gR a_h_g c_h_g h_g) sz) ([(a_h, .inr (7, [.ref a_h_t, .ref a_h_rl, .ref a_h_cl, .int h_rows, .int h_columns, .long h_divisor])), (a_h_t, .inl (c_h_t, 11, .inr (.inr (.inr (.inr (fun i => if i < 11 then some (a_h_g i) else none)))))), (a_h_rl, .inl (c_h_rl, 10, .inl h_rl))] ++ gR a_h_g c_h_g h_g)) (va_A ([(a_h, .inr (7, [.ref a_h_t, .ref a_h_rl, .ref a_h_cl, .int h_rows, .int h_columns, .long h_divisor])), (a_h_t, .inl (c_h_t, 11, .inr (.inr (.inr (.inr (fun i => if i < 11 then some (a_h_g i) else none)))))), (a_h_rl, .inl (c_h_rl, 10, .inl h_rl))] ++ gR a_h_g c_h_g h_g) sz)) 0 0 (va_A ([(a_h, .inr (7, [.ref a_h_t, .ref a_h_rl, .ref a_h_cl, .int h_rows, .int h_columns, .long h_divisor])), (a_h_t, .inl (c_h_t, 11, .inr (.inr (.inr (.inr (fun i => if i < 11 then some (a_h_g i) else none)))))), (a_h_rl, .inl (c_h_rl, 10, .inl h_rl))] ++ gR a_h_g c_h_g h_g) sz) := by
  refine Met.ofW (cc := cX7_bindsBefore) (maxL := 8) (ret := (some .boolean)) (by decide) rfl ?_
  intro p e s m args below meth c s₁ B hml hv
  obtain ⟨rfl, hsz, hP, hK, hD0, hN⟩ := hv
  have hx := B.exec
  have hb := B.bytes
  have hr := B.returns
  have hts := atoms_spec (ws := wsX7_bindsBefore) B.pre
  have hown : s.vm.findClass RX7 = some m.cls := findClass_of_methodNamed B.named
  have hlocks := B.notSynchronized
  subst hsz
  have hD := hD0.self (sz := s.heap.size)
  generalize hAe : va_A ([(a_h, .inr (7, [.ref a_h_t, .ref a_h_rl, .ref a_h_cl, .int h_rows, .int h_columns, .long h_divisor])), (a_h_t, .inl (c_h_t, 11, .inr (.inr (.inr (.inr (fun i => if i < 11 then some (a_h_g i) else none)))))), (a_h_rl, .inl (c_h_rl, 10, .inl h_rl))] ++ gR a_h_g c_h_g h_g) s.heap.size = A at hD hN ⊢
  have hA : ∀ q : Nat, s.heap.size ≤ q → A q := fun q h => by rw [← hAe]; exact Or.inr h
  have hS : va_S A s.heap s.heap [] := va_S.rf
  have hP : va_P (dC, dI) vwCl ([(a_h, .inr (7, [.ref a_h_t, .ref a_h_rl, .ref a_h_cl, .int h_rows, .int h_columns, .long h_divisor])), (a_h_t, .inl (c_h_t, 11, .inr (.inr (.inr (.inr (fun i => if i < 11 then some (a_h_g i) else none)))))), (a_h_rl, .inl (c_h_rl, 10, .inl h_rl))] ++ gR a_h_g c_h_g h_g) s.heap := hP
  have hl := lv_entry ([.ref a_h, .int p1, .int p2, .int p3]) (n := 8) (Nat.le_of_ble_eq_true rfl)
  rw [lg_entry_eq]
  generalize (lg_sl ([.ref a_h, .int p1, .int p2, .int p3]) ++ List.replicate (8 - (lg_sl ([.ref a_h, .int p1, .int p2, .int p3])).length) Slot.unset).toArray = ls at hl ⊢
  have hl : lv_has ls 8 [(0, .ref a_h), (1, .int p1), (2, .int p2), (3, .int p3)] := hl
  have hiX7 : ∀ w ∈ wsX70, w ∈ wsX7_bindsBefore := fun _ h => List.mem_cons_of_mem _ (List.mem_append_right _ h)
  have hf13 := hts (.fieldLink RX7 13 "MeetSets$Shares" "table" "[[J") (t1_ (al_ h1_))
  have hf27 := hts (.fieldLink RX7 27 "MeetSets$Shares" "columns" "I") (t1_ (al_ (t1_ h1_)))
  have hf16 := hts (.fieldLink RX7 16 "MeetSets$Shares" "rowLabels" "[I") (t1_ (al_ (t1_ (t1_ h1_))))
  refine w_abs (fun Z hZv hZw => ?_)
  refine hZv ?_
  obtain ⟨H, hH⟩ : ∃ H, H = s.heap := ⟨_, rfl⟩
  obtain ⟨locs, hlo⟩ : ∃ L : List Loc, L = [] := ⟨_, rfl⟩
  rw [← hlo, ← hH]
  have hS : va_S A s.heap H locs := by rw [hlo, hH]; exact hS
  have hP : va_P (dC, dI) vwCl ([(a_h, .inr (7, [.ref a_h_t, .ref a_h_rl, .ref a_h_cl, .int h_rows, .int h_columns, .long h_divisor])), (a_h_t, .inl (c_h_t, 11, .inr (.inr (.inr (.inr (fun i => if i < 11 then some (a_h_g i) else none)))))), (a_h_rl, .inl (c_h_rl, 10, .inl h_rl))] ++ gR a_h_g c_h_g h_g) H := by rw [hH]; exact hP
  clear hH hlo
  unfold pX7_bindsBefore at hs
  refine lv_aload_n hx hb dX7_bindsBefore_0 rfl (lv_at hl 0 rfl) ?_
  refine va_get (D := (dC, dI)) (ci := 7) (v := .ref a_h_t) (C := RX7) (T := TX7) (N := 6) hx hb hts hiX7 hown hK hP 0 rfl rfl 0 (by decide) hf13 (fun _ h9 => h9) rfl dX7_bindsBefore_1 ?_
  refine lv_iload_n hx hb dX7_bindsBefore_4 rfl (lv_at hl 1 rfl) ?_
  obtain ⟨hg1, hs⟩ := gd_s hs
  refine va_aldG hx hb hK hP 1 0 rfl rfl hg1 dX7_bindsBefore_5 ?_
  refine lv_aload_n hx hb dX7_bindsBefore_6 rfl (lv_at hl 0 rfl) ?_
  refine va_get (D := (dC, dI)) (ci := 7) (v := .int h_columns) (C := RX7) (T := TX7) (N := 6) hx hb hts hiX7 hown hK hP 0 rfl rfl 4 (by decide) hf27 (fun _ h9 => h9) rfl dX7_bindsBefore_7 ?_
  obtain ⟨hg2, hs⟩ := gd_s hs
  refine va_laldG (X := [(a_h, .inr (7, [.ref a_h_t, .ref a_h_rl, .ref a_h_cl, .int h_rows, .int h_columns, .long h_divisor])), (a_h_t, .inl (c_h_t, 11, .inr (.inr (.inr (.inr (fun i => if i < 11 then some (a_h_g i) else none)))))), (a_h_rl, .inl (c_h_rl, 10, .inl h_rl))]) hx hb hK hP 2 rfl hg1 hg2 dX7_bindsBefore_10 ?_
  refine lv_aload_n hx hb dX7_bindsBefore_11 rfl (lv_at hl 0 rfl) ?_
  refine va_get (D := (dC, dI)) (ci := 7) (v := .ref a_h_t) (C := RX7) (T := TX7) (N := 6) hx hb hts hiX7 hown hK hP 0 rfl rfl 0 (by decide) hf13 (fun _ h9 => h9) rfl dX7_bindsBefore_12 ?_
  refine lv_iload_n hx hb dX7_bindsBefore_15 rfl (lv_at hl 2 rfl) ?_
  obtain ⟨hg3, hs⟩ := gd_s hs
  refine va_aldG hx hb hK hP 1 0 rfl rfl hg3 dX7_bindsBefore_16 ?_
  refine lv_iload_n hx hb dX7_bindsBefore_17 rfl (lv_at hl 3 rfl) ?_
  obtain ⟨hg4, hs⟩ := gd_s hs
  refine va_laldG (X := [(a_h, .inr (7, [.ref a_h_t, .ref a_h_rl, .ref a_h_cl, .int h_rows, .int h_columns, .long h_divisor])), (a_h_t, .inl (c_h_t, 11, .inr (.inr (.inr (.inr (fun i => if i < 11 then some (a_h_g i) else none)))))), (a_h_rl, .inl (c_h_rl, 10, .inl h_rl))]) hx hb hK hP 2 rfl hg3 hg4 dX7_bindsBefore_18 ?_
  refine lv_lmul hx hb dX7_bindsBefore_19 ?_
  refine lv_lstore (lv' := [(4, .long ((h_g p1.toNatClampNeg h_columns.toNatClampNeg) * (h_g p2.toNatClampNeg p3.toNatClampNeg))), (0, .ref a_h), (1, .int p1), (2, .int p2), (3, .int p3)]) hx hb dX7_bindsBefore_20 hl (by decide) rfl (fun ls hl => ?_)
  refine lv_aload_n hx hb dX7_bindsBefore_22 rfl (lv_at hl 1 rfl) ?_
  refine va_get (D := (dC, dI)) (ci := 7) (v := .ref a_h_t) (C := RX7) (T := TX7) (N := 6) hx hb hts hiX7 hown hK hP 0 rfl rfl 0 (by decide) hf13 (fun _ h9 => h9) rfl dX7_bindsBefore_23 ?_
  refine lv_iload_n hx hb dX7_bindsBefore_26 rfl (lv_at hl 3 rfl) ?_
  obtain ⟨hg5, hs⟩ := gd_s hs
  refine va_aldG hx hb hK hP 1 0 rfl rfl hg5 dX7_bindsBefore_27 ?_
  refine lv_aload_n hx hb dX7_bindsBefore_28 rfl (lv_at hl 1 rfl) ?_
  refine va_get (D := (dC, dI)) (ci := 7) (v := .int h_columns) (C := RX7) (T := TX7) (N := 6) hx hb hts hiX7 hown hK hP 0 rfl rfl 4 (by decide) hf27 (fun _ h9 => h9) rfl dX7_bindsBefore_29 ?_
  obtain ⟨hg6, hs⟩ := gd_s hs
  refine va_laldG (X := [(a_h, .inr (7, [.ref a_h_t, .ref a_h_rl, .ref a_h_cl, .int h_rows, .int h_columns, .long h_divisor])), (a_h_t, .inl (c_h_t, 11, .inr (.inr (.inr (.inr (fun i => if i < 11 then some (a_h_g i) else none)))))), (a_h_rl, .inl (c_h_rl, 10, .inl h_rl))]) hx hb hK hP 2 rfl hg5 hg6 dX7_bindsBefore_32 ?_
  refine lv_aload_n hx hb dX7_bindsBefore_33 rfl (lv_at hl 1 rfl) ?_
  refine va_get (D := (dC, dI)) (ci := 7) (v := .ref a_h_t) (C := RX7) (T := TX7) (N := 6) hx hb hts hiX7 hown hK hP 0 rfl rfl 0 (by decide) hf13 (fun _ h9 => h9) rfl dX7_bindsBefore_34 ?_
  refine lv_iload_n hx hb dX7_bindsBefore_37 rfl (lv_at hl 2 rfl) ?_
  obtain ⟨hg7, hs⟩ := gd_s hs
  refine va_aldG hx hb hK hP 1 0 rfl rfl hg7 dX7_bindsBefore_38 ?_
  refine lv_iload_n hx hb dX7_bindsBefore_39 rfl (lv_at hl 4 rfl) ?_
  obtain ⟨hg8, hs⟩ := gd_s hs
  refine va_laldG (X := [(a_h, .inr (7, [.ref a_h_t, .ref a_h_rl, .ref a_h_cl, .int h_rows, .int h_columns, .long h_divisor])), (a_h_t, .inl (c_h_t, 11, .inr (.inr (.inr (.inr (fun i => if i < 11 then some (a_h_g i) else none)))))), (a_h_rl, .inl (c_h_rl, 10, .inl h_rl))]) hx hb hK hP 2 rfl hg7 hg8 dX7_bindsBefore_40 ?_
  refine lv_lmul hx hb dX7_bindsBefore_41 ?_
  refine lv_lstore (lv' := [(6, .long ((h_g p2.toNatClampNeg h_columns.toNatClampNeg) * (h_g p1.toNatClampNeg p3.toNatClampNeg))), (4, .long ((h_g p1.toNatClampNeg h_columns.toNatClampNeg) * (h_g p2.toNatClampNeg p3.toNatClampNeg))), (0, .ref a_h), (1, .int p1), (2, .int p2), (3, .int p3)]) hx hb dX7_bindsBefore_42 hl (by decide) rfl (fun ls hl => ?_)
  refine lv_lload hx hb dX7_bindsBefore_44 (lv_at hl 1 rfl) ?_
  refine lv_lload hx hb dX7_bindsBefore_46 (lv_at hl 0 rfl) ?_
  refine W.lcmp hx hb dX7_bindsBefore_48 ?_
  have hJ75 : ∀ (t75 : Unit), pX7_bindsBefore_J75 t75 = some rv → ∀ (H : Heap) (locs : List Loc) (ls : Array Slot), va_P (dC, dI) vwCl ([(a_h, .inr (7, [.ref a_h_t, .ref a_h_rl, .ref a_h_cl, .int h_rows, .int h_columns, .long h_divisor])), (a_h_t, .inl (c_h_t, 11, .inr (.inr (.inr (.inr (fun i => if i < 11 then some (a_h_g i) else none)))))), (a_h_rl, .inl (c_h_rl, 10, .inl h_rl))] ++ gR a_h_g c_h_g h_g) H → va_D A ([(a_h, .inr (7, [.ref a_h_t, .ref a_h_rl, .ref a_h_cl, .int h_rows, .int h_columns, .long h_divisor])), (a_h_t, .inl (c_h_t, 11, .inr (.inr (.inr (.inr (fun i => if i < 11 then some (a_h_g i) else none)))))), (a_h_rl, .inl (c_h_rl, 10, .inl h_rl))] ++ gR a_h_g c_h_g h_g) → va_S A s.heap H locs → lv_has ls 8 [] → Z H locs 0 0 (F0 m 75 ls []) := by
    intro t75 hs H locs ls hP hD hS hl
    refine hZv ?_
    unfold pX7_bindsBefore_J75 at hs
    refine lv_iconst (v := 1) hx hb dX7_bindsBefore_75 (by decide) ?_
    refine lv_goto (tgt := 80) hx hb dX7_bindsBefore_76 (by decide) ?_
    replace hs := Option.some.inj hs
    subst hs
    exact W.zret (v := 1) (ty := .boolean) hx hb hr rfl (fun t ht hW => ⟨⟨1, (), rfl, rfl, by rw [ht]; exact hP, va_K.moved hW.alike hK, hD⟩, hS.F ht⟩) hS.2.2 dX7_bindsBefore_80
  refine lv_if_lt (tgt := 75) hx hb dX7_bindsBefore_49 (by decide) (fun hc => ?_) (fun hc => ?_)
  · replace hs := it_t hc hs
    exact hZw (hJ75 () hs H locs ls hP hD hS (lv_sub hl [] rfl))
  · replace hs := it_f hc hs
    refine lv_lload hx hb dX7_bindsBefore_52 (lv_at hl 1 rfl) ?_
    refine lv_lload hx hb dX7_bindsBefore_54 (lv_at hl 0 rfl) ?_
    refine W.lcmp hx hb dX7_bindsBefore_56 ?_
    refine lv_if_ne (tgt := 79) hx hb dX7_bindsBefore_57 (by decide) (fun hc => ?_) (fun hc => ?_)
    · replace hs := it_f hc hs
      refine lv_iconst (v := 0) hx hb dX7_bindsBefore_79 (by decide) ?_
      replace hs := Option.some.inj hs
      subst hs
      exact W.zret (v := 0) (ty := .boolean) hx hb hr rfl (fun t ht hW => ⟨⟨0, (), rfl, rfl, by rw [ht]; exact hP, va_K.moved hW.alike hK, hD⟩, hS.F ht⟩) hS.2.2 dX7_bindsBefore_80
    · replace hs := it_t hc hs
      refine lv_aload_n hx hb dX7_bindsBefore_60 rfl (lv_at hl 2 rfl) ?_
      refine va_get (D := (dC, dI)) (ci := 7) (v := .ref a_h_rl) (C := RX7) (T := TX7) (N := 6) hx hb hts hiX7 hown hK hP 0 rfl rfl 1 (by decide) hf16 (fun _ h9 => h9) rfl dX7_bindsBefore_61 ?_
      refine lv_iload_n hx hb dX7_bindsBefore_64 rfl (lv_at hl 3 rfl) ?_
      obtain ⟨hg9, hs⟩ := gd_s hs
      refine va_iald hx hb hK hP 2 1 rfl rfl hg9 dX7_bindsBefore_65 ?_
      refine lv_aload_n hx hb dX7_bindsBefore_66 rfl (lv_at hl 2 rfl) ?_
      refine va_get (D := (dC, dI)) (ci := 7) (v := .ref a_h_rl) (C := RX7) (T := TX7) (N := 6) hx hb hts hiX7 hown hK hP 0 rfl rfl 1 (by decide) hf16 (fun _ h9 => h9) rfl dX7_bindsBefore_67 ?_
      refine lv_iload_n hx hb dX7_bindsBefore_70 rfl (lv_at hl 4 rfl) ?_
      obtain ⟨hg10, hs⟩ := gd_s hs
      refine va_iald hx hb hK hP 2 1 rfl rfl hg10 dX7_bindsBefore_71 ?_
      refine lv_icmp_ge (tgt := 79) hx hb dX7_bindsBefore_72 (by decide) (fun hc => ?_) (fun hc => ?_)
      · replace hs := it_t hc hs
        refine lv_iconst (v := 0) hx hb dX7_bindsBefore_79 (by decide) ?_
        replace hs := Option.some.inj hs
        subst hs
        exact W.zret (v := 0) (ty := .boolean) hx hb hr rfl (fun t ht hW => ⟨⟨0, (), rfl, rfl, by rw [ht]; exact hP, va_K.moved hW.alike hK, hD⟩, hS.F ht⟩) hS.2.2 dX7_bindsBefore_80
      · replace hs := it_f hc hs
        exact hZw (hJ75 () hs H locs ls hP hD hS (lv_sub hl [] rfl))
