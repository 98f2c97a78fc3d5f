noncomputable def pX7_enteringColumn_J47_4 (s4 : Int32 × Int32) (t47 : Unit) : Option ((Int32 × Int32) ⊕ (Int32)) :=
  some (Sum.inl (s4.2, s4.2 + 1))
noncomputable def pX7_enteringColumn_L4 (h_rows : Int32) (h_columns : Int32) (h_cl : Nat → Int32) (h_g : Nat → Nat → Int64) (s4 : Int32 × Int32) : Option ((Int32 × Int32) ⊕ (Int32)) :=
  if h_columns ≤ s4.2 then (some (Sum.inr s4.1)) else (gd (vp_in h_rows 11) (gd (vp_in s4.2 17) (if 0 ≤ (lg_cmp (h_g h_rows.toNatClampNeg s4.2.toNatClampNeg) 0) then (some (Sum.inl (s4.1, s4.2 + 1))) else (if s4.1 < 0 then (pX7_enteringColumn_J47_4 s4 ()) else (gd (vp_in s4.2 16) (gd (vp_in s4.1 16) (if (h_cl s4.1.toNatClampNeg) ≤ (h_cl s4.2.toNatClampNeg) then (some (Sum.inl (s4.1, s4.2 + 1))) else (pX7_enteringColumn_J47_4 s4 ()))))))))
noncomputable def pX7_enteringColumn (h_rows : Int32) (h_columns : Int32) (h_cl : Nat → Int32) (h_g : Nat → Nat → Int64) : Option (Int32) :=
  Option.bind (lp (pX7_enteringColumn_L4 h_rows h_columns h_cl h_g) ((-1), 0)) (fun e4 => some e4)
set_option maxHeartbeats 4000000 in
set_option maxRecDepth 100000 in
theorem c_X7_enteringColumn (l : Launch) (dC : Nat → ClassId) (dI : Nat → Nat → Nat) (a_h : Nat) (a_h_t : Nat) (a_h_rl : Nat) (a_h_cl : Nat) (a_h_g : Nat → Nat) (c_h_t c_h_cl c_h_g : ClassId) (sz : Nat) (h_rows : Int32) (h_columns : Int32) (h_divisor : Int64) (h_cl : Nat → Int32) (h_g : Nat → Nat → Int64) (rv : Int32) (hs : pX7_enteringColumn h_rows h_columns h_cl h_g = some rv) : Met l yX7_enteringColumn wsX7_enteringColumn ({ frames := 0, cells := 0, slots := 0, locals := 0 }) (sPc [.ref a_h] (dC, dI) [(c_h_t, .array .long), (c_h_cl, .int), (c_h_g, .long)] ([(a_h, .inr (7, [.ref a_h_t, .ref a_h_rl, .ref a_h_cl, .int h_rows, .int h_columns, .long h_divisor])), (a_h_t, .inl (c_h_t, 11, .inr (.inr (.inr (.inr (fun i => if i < 11 then some (a_h_g i) else none)))))), (a_h_cl, .inl (c_h_cl, 16, .inl h_cl))] ++ gR a_h_g c_h_g h_g) sz) (va_Qi (fun (r : Int32) (_ : Unit) => r = rv) (sB (dC, dI) [(c_h_t, .array .long), (c_h_cl, .int), (c_h_g, .long)] (va_A ([(a_h, .inr (7, [.ref a_h_t, .ref a_h_rl, .ref a_h_cl, .int h_rows, .int h_columns, .long h_divisor])), (a_h_t, .inl (c_h_t, 11, .inr (.inr (.inr (.inr (fun i => if i < 11 then some (a_h_g i) else none)))))), (a_h_cl, .inl (c_h_cl, 16, .inl h_cl))] ++ gR a_h_g c_h_g h_g) sz) ([(a_h, .inr (7, [.ref a_h_t, .ref a_h_rl, .ref a_h_cl, .int h_rows, .int h_columns, .long h_divisor])), (a_h_t, .inl (c_h_t, 11, .inr (.inr (.inr (.inr (fun i => if i < 11 then some (a_h_g i) else none)))))), (a_h_cl, .inl (c_h_cl, 16, .inl h_cl))] ++ gR a_h_g c_h_g h_g)) (va_A ([(a_h, .inr (7, [.ref a_h_t, .ref a_h_rl, .ref a_h_cl, .int h_rows, .int h_columns, .long h_divisor])), (a_h_t, .inl (c_h_t, 11, .inr (.inr (.inr (.inr (fun i => if i < 11 then some (a_h_g i) else none)))))), (a_h_cl, .inl (c_h_cl, 16, .inl h_cl))] ++ gR a_h_g c_h_g h_g) sz)) 0 0 (va_A ([(a_h, .inr (7, [.ref a_h_t, .ref a_h_rl, .ref a_h_cl, .int h_rows, .int h_columns, .long h_divisor])), (a_h_t, .inl (c_h_t, 11, .inr (.inr (.inr (.inr (fun i => if i < 11 then some (a_h_g i) else none)))))), (a_h_cl, .inl (c_h_cl, 16, .inl h_cl))] ++ gR a_h_g c_h_g h_g) sz) := by
  refine Met.ofW (cc := cX7_enteringColumn) (maxL := 3) (ret := (some .int)) (by decide) rfl ?_
  intro p e s m args below meth c s₁ B hml hv
  obtain ⟨rfl, hsz, hP, hK, hD0, hN⟩ := hv
  have hx := B.exec
  have hb := B.bytes
  have hr := B.returns
  have hts := atoms_spec (ws := wsX7_enteringColumn) B.pre
  have hown : s.vm.findClass RX7 = some m.cls := findClass_of_methodNamed B.named
  have hlocks := B.notSynchronized
  subst hsz
  have hD := hD0.self (sz := s.heap.size)
  generalize hAe : va_A ([(a_h, .inr (7, [.ref a_h_t, .ref a_h_rl, .ref a_h_cl, .int h_rows, .int h_columns, .long h_divisor])), (a_h_t, .inl (c_h_t, 11, .inr (.inr (.inr (.inr (fun i => if i < 11 then some (a_h_g i) else none)))))), (a_h_cl, .inl (c_h_cl, 16, .inl h_cl))] ++ gR a_h_g c_h_g h_g) s.heap.size = A at hD hN ⊢
  have hA : ∀ q : Nat, s.heap.size ≤ q → A q := fun q h => by rw [← hAe]; exact Or.inr h
  have hS : va_S A s.heap s.heap [] := va_S.rf
  have hP : va_P (dC, dI) vwCl ([(a_h, .inr (7, [.ref a_h_t, .ref a_h_rl, .ref a_h_cl, .int h_rows, .int h_columns, .long h_divisor])), (a_h_t, .inl (c_h_t, 11, .inr (.inr (.inr (.inr (fun i => if i < 11 then some (a_h_g i) else none)))))), (a_h_cl, .inl (c_h_cl, 16, .inl h_cl))] ++ gR a_h_g c_h_g h_g) s.heap := hP
  have hl := lv_entry ([.ref a_h]) (n := 3) (Nat.le_of_ble_eq_true rfl)
  rw [lg_entry_eq]
  generalize (lg_sl ([.ref a_h]) ++ List.replicate (3 - (lg_sl ([.ref a_h])).length) Slot.unset).toArray = ls at hl ⊢
  have hl : lv_has ls 3 [(0, .ref a_h)] := hl
  have hiX7 : ∀ w ∈ wsX70, w ∈ wsX7_enteringColumn := fun _ h => List.mem_cons_of_mem _ (List.mem_append_right _ h)
  have hf27 := hts (.fieldLink RX7 27 "MeetSets$Shares" "columns" "I") (t1_ (al_ h1_))
  have hf13 := hts (.fieldLink RX7 13 "MeetSets$Shares" "table" "[[J") (t1_ (al_ (t1_ h1_)))
  have hf23 := hts (.fieldLink RX7 23 "MeetSets$Shares" "rows" "I") (t1_ (al_ (t1_ (t1_ h1_))))
  have hf20 := hts (.fieldLink RX7 20 "MeetSets$Shares" "columnLabels" "[I") (t1_ (al_ (t1_ (t1_ (t1_ h1_)))))
  refine w_abs (fun Z hZv hZw => ?_)
  refine hZv ?_
  obtain ⟨H, hH⟩ : ∃ H, H = s.heap := ⟨_, rfl⟩
  obtain ⟨locs, hlo⟩ : ∃ L : List Loc, L = [] := ⟨_, rfl⟩
  rw [← hlo, ← hH]
  have hS : va_S A s.heap H locs := by rw [hlo, hH]; exact hS
  have hP : va_P (dC, dI) vwCl ([(a_h, .inr (7, [.ref a_h_t, .ref a_h_rl, .ref a_h_cl, .int h_rows, .int h_columns, .long h_divisor])), (a_h_t, .inl (c_h_t, 11, .inr (.inr (.inr (.inr (fun i => if i < 11 then some (a_h_g i) else none)))))), (a_h_cl, .inl (c_h_cl, 16, .inl h_cl))] ++ gR a_h_g c_h_g h_g) H := by rw [hH]; exact hP
  clear hH hlo
  unfold pX7_enteringColumn at hs
  refine lv_iconst (v := (-1)) hx hb dX7_enteringColumn_0 (by decide) ?_
  refine lv_istore_n (lv' := [(1, .int (-1)), (0, .ref a_h)]) hx hb dX7_enteringColumn_1 rfl hl (by decide) rfl (fun ls hl => ?_)
  refine lv_iconst (v := 0) hx hb dX7_enteringColumn_2 (by decide) ?_
  refine lv_istore_n (lv' := [(2, .int 0), (1, .int (-1)), (0, .ref a_h)]) hx hb dX7_enteringColumn_3 rfl hl (by decide) rfl (fun ls hl => ?_)
  obtain ⟨e4, he4, hs⟩ := bd_s hs
  have hX4 : ∀ (H : Heap) (locs : List Loc) (ls : Array Slot), va_P (dC, dI) vwCl ([(a_h, .inr (7, [.ref a_h_t, .ref a_h_rl, .ref a_h_cl, .int h_rows, .int h_columns, .long h_divisor])), (a_h_t, .inl (c_h_t, 11, .inr (.inr (.inr (.inr (fun i => if i < 11 then some (a_h_g i) else none)))))), (a_h_cl, .inl (c_h_cl, 16, .inl h_cl))] ++ gR a_h_g c_h_g h_g) H → va_D A ([(a_h, .inr (7, [.ref a_h_t, .ref a_h_rl, .ref a_h_cl, .int h_rows, .int h_columns, .long h_divisor])), (a_h_t, .inl (c_h_t, 11, .inr (.inr (.inr (.inr (fun i => if i < 11 then some (a_h_g i) else none)))))), (a_h_cl, .inl (c_h_cl, 16, .inl h_cl))] ++ gR a_h_g c_h_g h_g) → va_S A s.heap H locs → lv_has ls 3 [(1, .int e4)] → Z H locs 0 0 (F0 m 55 ls []) := by
    intro H locs ls hP hD hS hl
    refine hZv ?_
    refine lv_iload_n hx hb dX7_enteringColumn_55 rfl (lv_at hl 0 rfl) ?_
    replace hs := Option.some.inj hs
    subst hs
    exact W.iret (v := e4) hx hb hr (fun t ht hW => ⟨⟨e4, (), rfl, rfl, by rw [ht]; exact hP, va_K.moved hW.alike hK, hD⟩, hS.F ht⟩) hS.2.2 dX7_enteringColumn_56
  clear hs
  have hL4 : ∀ (n : Nat) (s4 : Int32 × Int32) (H : Heap) (locs : List Loc) (ls : Array Slot), itr (pX7_enteringColumn_L4 h_rows h_columns h_cl h_g) n s4 = some e4 → va_P (dC, dI) vwCl ([(a_h, .inr (7, [.ref a_h_t, .ref a_h_rl, .ref a_h_cl, .int h_rows, .int h_columns, .long h_divisor])), (a_h_t, .inl (c_h_t, 11, .inr (.inr (.inr (.inr (fun i => if i < 11 then some (a_h_g i) else none)))))), (a_h_cl, .inl (c_h_cl, 16, .inl h_cl))] ++ gR a_h_g c_h_g h_g) H → va_D A ([(a_h, .inr (7, [.ref a_h_t, .ref a_h_rl, .ref a_h_cl, .int h_rows, .int h_columns, .long h_divisor])), (a_h_t, .inl (c_h_t, 11, .inr (.inr (.inr (.inr (fun i => if i < 11 then some (a_h_g i) else none)))))), (a_h_cl, .inl (c_h_cl, 16, .inl h_cl))] ++ gR a_h_g c_h_g h_g) → va_S A s.heap H locs → lv_has ls 3 [(0, .ref a_h), (1, .int s4.1), (2, .int s4.2)] → Z H locs 0 0 (F0 m 4 ls []) := by
    intro n
    induction n with
    | zero =>
      intro s4 H locs ls hn
      exact (itr_0 hn).elim
    | succ n ih =>
      intro s4 H locs ls hn hP hD hS hl
      obtain ⟨y1, hs, hn⟩ := itr_s hn
      unfold pX7_enteringColumn_L4 at hs
      refine hZv ?_
      refine lv_iload_n hx hb dX7_enteringColumn_4 rfl (lv_at hl 2 rfl) ?_
      refine lv_aload_n hx hb dX7_enteringColumn_5 rfl (lv_at hl 0 rfl) ?_
      refine va_get (D := (dC, dI)) (ci := 7) (v := .int h_columns) (C := RX7) (T := TX7) (N := 6) hx hb hts hiX7 hown hK hP 0 rfl rfl 4 (by decide) hf27 (fun _ h9 => h9) rfl dX7_enteringColumn_6 ?_
      refine lv_icmp_ge (tgt := 55) hx hb dX7_enteringColumn_9 (by decide) (fun hc => ?_) (fun hc => ?_)
      · replace hs := it_t hc hs
        replace hs := Option.some.inj hs
        subst hs
        obtain rfl : s4.1 = e4 := hn
        exact hZw (hX4 H locs ls hP hD hS (lv_sub hl [1] rfl))
      · replace hs := it_f hc hs
        refine lv_aload_n hx hb dX7_enteringColumn_12 rfl (lv_at hl 0 rfl) ?_
        refine va_get (D := (dC, dI)) (ci := 7) (v := .ref a_h_t) (C := RX7) (T := TX7) (N := 6) hx hb hts hiX7 hown hK hP 0 rfl rfl 0 (by decide) hf13 (fun _ h9 => h9) rfl dX7_enteringColumn_13 ?_
        refine lv_aload_n hx hb dX7_enteringColumn_16 rfl (lv_at hl 0 rfl) ?_
        refine va_get (D := (dC, dI)) (ci := 7) (v := .int h_rows) (C := RX7) (T := TX7) (N := 6) hx hb hts hiX7 hown hK hP 0 rfl rfl 3 (by decide) hf23 (fun _ h9 => h9) rfl dX7_enteringColumn_17 ?_
        obtain ⟨hg2, hs⟩ := gd_s hs
        refine va_aldG hx hb hK hP 1 0 rfl rfl hg2 dX7_enteringColumn_20 ?_
        refine lv_iload_n hx hb dX7_enteringColumn_21 rfl (lv_at hl 2 rfl) ?_
        obtain ⟨hg3, hs⟩ := gd_s hs
        refine va_laldG (X := [(a_h, .inr (7, [.ref a_h_t, .ref a_h_rl, .ref a_h_cl, .int h_rows, .int h_columns, .long h_divisor])), (a_h_t, .inl (c_h_t, 11, .inr (.inr (.inr (.inr (fun i => if i < 11 then some (a_h_g i) else none)))))), (a_h_cl, .inl (c_h_cl, 16, .inl h_cl))]) hx hb hK hP 2 rfl hg2 hg3 dX7_enteringColumn_22 ?_
        refine lv_lconst (v := 0) hx hb dX7_enteringColumn_23 (by decide) ?_
        refine W.lcmp hx hb dX7_enteringColumn_24 ?_
        refine lv_if_ge (tgt := 49) hx hb dX7_enteringColumn_25 (by decide) (fun hc => ?_) (fun hc => ?_)
        · replace hs := it_t hc hs
          refine lv_iinc (v := s4.2 + 1) (lv' := [(2, .int (s4.2 + 1)), (0, .ref a_h), (1, .int s4.1)]) hx hb dX7_enteringColumn_49 hl (k := 2) rfl (by rfl) (by decide) rfl (fun ls hl => ?_)
          refine lv_goto (tgt := 4) hx hb dX7_enteringColumn_52 (by decide) ?_
          replace hs := Option.some.inj hs
          subst hs
          exact hZw (ih (s4.1, s4.2 + 1) H locs ls hn hP hD hS (lv_sub hl [1, 2, 0] rfl))
        · replace hs := it_f hc hs
          refine lv_iload_n hx hb dX7_enteringColumn_28 rfl (lv_at hl 1 rfl) ?_
          have hJ47 : ∀ (t47 : Unit), pX7_enteringColumn_J47_4 s4 t47 = some y1 → ∀ (H : Heap) (locs : List Loc) (ls : Array Slot), va_P (dC, dI) vwCl ([(a_h, .inr (7, [.ref a_h_t, .ref a_h_rl, .ref a_h_cl, .int h_rows, .int h_columns, .long h_divisor])), (a_h_t, .inl (c_h_t, 11, .inr (.inr (.inr (.inr (fun i => if i < 11 then some (a_h_g i) else none)))))), (a_h_cl, .inl (c_h_cl, 16, .inl h_cl))] ++ gR a_h_g c_h_g h_g) H → va_D A ([(a_h, .inr (7, [.ref a_h_t, .ref a_h_rl, .ref a_h_cl, .int h_rows, .int h_columns, .long h_divisor])), (a_h_t, .inl (c_h_t, 11, .inr (.inr (.inr (.inr (fun i => if i < 11 then some (a_h_g i) else none)))))), (a_h_cl, .inl (c_h_cl, 16, .inl h_cl))] ++ gR a_h_g c_h_g h_g) → va_S A s.heap H locs → lv_has ls 3 [(0, .ref a_h), (2, .int s4.2)] → Z H locs 0 0 (F0 m 47 ls []) := by
            intro t47 hs H locs ls hP hD hS hl
            refine hZv ?_
            unfold pX7_enteringColumn_J47_4 at hs
            refine lv_iload_n hx hb dX7_enteringColumn_47 rfl (lv_at hl 1 rfl) ?_
            refine lv_istore_n (lv' := [(1, .int s4.2), (0, .ref a_h), (2, .int s4.2)]) hx hb dX7_enteringColumn_48 rfl hl (by decide) rfl (fun ls hl => ?_)
            refine lv_iinc (v := s4.2 + 1) (lv' := [(2, .int (s4.2 + 1)), (1, .int s4.2), (0, .ref a_h)]) hx hb dX7_enteringColumn_49 hl (k := 2) rfl (by rfl) (by decide) rfl (fun ls hl => ?_)
            refine lv_goto (tgt := 4) hx hb dX7_enteringColumn_52 (by decide) ?_
            replace hs := Option.some.inj hs
            subst hs
            exact hZw (ih (s4.2, s4.2 + 1) H locs ls hn hP hD hS (lv_sub hl [2, 1, 0] rfl))
          refine lv_if_lt (tgt := 47) hx hb dX7_enteringColumn_29 (by decide) (fun hc => ?_) (fun hc => ?_)
          · replace hs := it_t hc hs
            exact hZw (hJ47 () hs H locs ls hP hD hS (lv_sub hl [0, 2] rfl))
          · replace hs := it_f hc hs
            refine lv_aload_n hx hb dX7_enteringColumn_32 rfl (lv_at hl 0 rfl) ?_
            refine va_get (D := (dC, dI)) (ci := 7) (v := .ref a_h_cl) (C := RX7) (T := TX7) (N := 6) hx hb hts hiX7 hown hK hP 0 rfl rfl 2 (by decide) hf20 (fun _ h9 => h9) rfl dX7_enteringColumn_33 ?_
            refine lv_iload_n hx hb dX7_enteringColumn_36 rfl (lv_at hl 2 rfl) ?_
            obtain ⟨hg5, hs⟩ := gd_s hs
            refine va_iald hx hb hK hP 2 1 rfl rfl hg5 dX7_enteringColumn_37 ?_
            refine lv_aload_n hx hb dX7_enteringColumn_38 rfl (lv_at hl 0 rfl) ?_
            refine va_get (D := (dC, dI)) (ci := 7) (v := .ref a_h_cl) (C := RX7) (T := TX7) (N := 6) hx hb hts hiX7 hown hK hP 0 rfl rfl 2 (by decide) hf20 (fun _ h9 => h9) rfl dX7_enteringColumn_39 ?_
            refine lv_iload_n hx hb dX7_enteringColumn_42 rfl (lv_at hl 1 rfl) ?_
            obtain ⟨hg6, hs⟩ := gd_s hs
            refine va_iald hx hb hK hP 2 1 rfl rfl hg6 dX7_enteringColumn_43 ?_
            refine lv_icmp_ge (tgt := 49) hx hb dX7_enteringColumn_44 (by decide) (fun hc => ?_) (fun hc => ?_)
            · replace hs := it_t hc hs
              refine lv_iinc (v := s4.2 + 1) (lv' := [(2, .int (s4.2 + 1)), (0, .ref a_h), (1, .int s4.1)]) hx hb dX7_enteringColumn_49 hl (k := 2) rfl (by rfl) (by decide) rfl (fun ls hl => ?_)
              refine lv_goto (tgt := 4) hx hb dX7_enteringColumn_52 (by decide) ?_
              replace hs := Option.some.inj hs
              subst hs
              exact hZw (ih (s4.1, s4.2 + 1) H locs ls hn hP hD hS (lv_sub hl [1, 2, 0] rfl))
            · replace hs := it_f hc hs
              exact hZw (hJ47 () hs H locs ls hP hD hS (lv_sub hl [0, 2] rfl))
  obtain ⟨n4, hn4⟩ := lp_ex he4
  exact hZw (hL4 n4 ((-1), 0) H locs ls hn4 hP hD hS (lv_sub hl [2, 1, 0] rfl))
