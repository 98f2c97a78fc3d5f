noncomputable def pX7_leavingRow_J39_4 (s4 : Int32 × Int32) (t39 : Unit) : Option ((Int32 × Int32) ⊕ (Int32)) :=
  some (Sum.inl (s4.2, s4.2 + 1))
noncomputable def pX7_leavingRow_L4 (h_rows : Int32) (h_columns : Int32) (h_rl : Nat → Int32) (h_g : Nat → Nat → Int64) (p1 : Int32) (s4 : Int32 × Int32) : Option ((Int32 × Int32) ⊕ (Int32)) :=
  if h_rows ≤ s4.2 then (some (Sum.inr s4.1)) else (gd (vp_in s4.2 11) (gd (vp_in p1 17) (if (lg_cmp (h_g s4.2.toNatClampNeg p1.toNatClampNeg) 0) ≤ 0 then (some (Sum.inl (s4.1, s4.2 + 1))) else (if s4.1 < 0 then (pX7_leavingRow_J39_4 s4 ()) else (Option.bind (pX7_bindsBefore h_columns h_rl h_g s4.2 s4.1 p1) (fun r5 => if r5 = 0 then (some (Sum.inl (s4.1, s4.2 + 1))) else (pX7_leavingRow_J39_4 s4 ())))))))
noncomputable def pX7_leavingRow (h_rows : Int32) (h_columns : Int32) (h_rl : Nat → Int32) (h_g : Nat → Nat → Int64) (p1 : Int32) : Option (Int32) :=
  Option.bind (lp (pX7_leavingRow_L4 h_rows h_columns h_rl h_g p1) ((-1), 0)) (fun e4 => some e4)
set_option maxHeartbeats 4000000 in
set_option maxRecDepth 100000 in
theorem c_X7_leavingRow (l : Launch) (dC : Nat → ClassId) (dI : Nat → Nat → Nat) (a_h : Nat) (a_h_t : Nat) (a_h_rl : Nat) (a_h_cl : Nat) (a_h_g : Nat → Nat) (c_h_t c_h_rl c_h_g : ClassId) (sz : Nat) (h_rows : Int32) (h_columns : Int32) (h_divisor : Int64) (h_rl : Nat → Int32) (h_g : Nat → Nat → Int64) (p1 : Int32) (rv : Int32) (hs : pX7_leavingRow h_rows h_columns h_rl h_g p1 = some rv) : Met l yX7_leavingRow wsX7_leavingRow ({ frames := 1, cells := 0, slots := 0, locals := 27 }) (sPc [.ref a_h, .int p1] (dC, dI) [(c_h_t, .array .long), (c_h_rl, .int), (c_h_g, .long)] ([(a_h, .inr (7, [.ref a_h_t, .ref a_h_rl, .ref a_h_cl, .int h_rows, .int h_columns, .long h_divisor])), (a_h_t, .inl (c_h_t, 11, .inr (.inr (.inr (.inr (fun i => if i < 11 then some (a_h_g i) else none)))))), (a_h_rl, .inl (c_h_rl, 10, .inl h_rl))] ++ gR a_h_g c_h_g h_g) sz) (va_Qi (fun (r : Int32) (_ : Unit) => r = rv) (sB (dC, dI) [(c_h_t, .array .long), (c_h_rl, .int), (c_h_g, .long)] (va_A ([(a_h, .inr (7, [.ref a_h_t, .ref a_h_rl, .ref a_h_cl, .int h_rows, .int h_columns, .long h_divisor])), (a_h_t, .inl (c_h_t, 11, .inr (.inr (.inr (.inr (fun i => if i < 11 then some (a_h_g i) else none)))))), (a_h_rl, .inl (c_h_rl, 10, .inl h_rl))] ++ gR a_h_g c_h_g h_g) sz) ([(a_h, .inr (7, [.ref a_h_t, .ref a_h_rl, .ref a_h_cl, .int h_rows, .int h_columns, .long h_divisor])), (a_h_t, .inl (c_h_t, 11, .inr (.inr (.inr (.inr (fun i => if i < 11 then some (a_h_g i) else none)))))), (a_h_rl, .inl (c_h_rl, 10, .inl h_rl))] ++ gR a_h_g c_h_g h_g)) (va_A ([(a_h, .inr (7, [.ref a_h_t, .ref a_h_rl, .ref a_h_cl, .int h_rows, .int h_columns, .long h_divisor])), (a_h_t, .inl (c_h_t, 11, .inr (.inr (.inr (.inr (fun i => if i < 11 then some (a_h_g i) else none)))))), (a_h_rl, .inl (c_h_rl, 10, .inl h_rl))] ++ gR a_h_g c_h_g h_g) sz)) 0 0 (va_A ([(a_h, .inr (7, [.ref a_h_t, .ref a_h_rl, .ref a_h_cl, .int h_rows, .int h_columns, .long h_divisor])), (a_h_t, .inl (c_h_t, 11, .inr (.inr (.inr (.inr (fun i => if i < 11 then some (a_h_g i) else none)))))), (a_h_rl, .inl (c_h_rl, 10, .inl h_rl))] ++ gR a_h_g c_h_g h_g) sz) := by
  refine Met.ofW (cc := cX7_leavingRow) (maxL := 4) (ret := (some .int)) (by decide) rfl ?_
  intro p e s m args below meth c s₁ B hml hv
  obtain ⟨rfl, hsz, hP, hK, hD0, hN⟩ := hv
  have hx := B.exec
  have hb := B.bytes
  have hr := B.returns
  have hts := atoms_spec (ws := wsX7_leavingRow) B.pre
  have hown : s.vm.findClass RX7 = some m.cls := findClass_of_methodNamed B.named
  have hlocks := B.notSynchronized
  subst hsz
  have hD := hD0.self (sz := s.heap.size)
  generalize hAe : va_A ([(a_h, .inr (7, [.ref a_h_t, .ref a_h_rl, .ref a_h_cl, .int h_rows, .int h_columns, .long h_divisor])), (a_h_t, .inl (c_h_t, 11, .inr (.inr (.inr (.inr (fun i => if i < 11 then some (a_h_g i) else none)))))), (a_h_rl, .inl (c_h_rl, 10, .inl h_rl))] ++ gR a_h_g c_h_g h_g) s.heap.size = A at hD hN ⊢
  have hA : ∀ q : Nat, s.heap.size ≤ q → A q := fun q h => by rw [← hAe]; exact Or.inr h
  have hS : va_S A s.heap s.heap [] := va_S.rf
  have hP : va_P (dC, dI) vwCl ([(a_h, .inr (7, [.ref a_h_t, .ref a_h_rl, .ref a_h_cl, .int h_rows, .int h_columns, .long h_divisor])), (a_h_t, .inl (c_h_t, 11, .inr (.inr (.inr (.inr (fun i => if i < 11 then some (a_h_g i) else none)))))), (a_h_rl, .inl (c_h_rl, 10, .inl h_rl))] ++ gR a_h_g c_h_g h_g) s.heap := hP
  have hl := lv_entry ([.ref a_h, .int p1]) (n := 4) (Nat.le_of_ble_eq_true rfl)
  rw [lg_entry_eq]
  generalize (lg_sl ([.ref a_h, .int p1]) ++ List.replicate (4 - (lg_sl ([.ref a_h, .int p1])).length) Slot.unset).toArray = ls at hl ⊢
  have hl : lv_has ls 4 [(0, .ref a_h), (1, .int p1)] := hl
  have hiX7 : ∀ w ∈ wsX70, w ∈ wsX7_leavingRow := fun _ h => List.mem_cons_of_mem _ (List.mem_append_right _ h)
  have hf23 := hts (.fieldLink RX7 23 "MeetSets$Shares" "rows" "I") (t1_ (al_ h1_))
  have hf13 := hts (.fieldLink RX7 13 "MeetSets$Shares" "table" "[[J") (t1_ (al_ (t1_ h1_)))
  refine w_abs (fun Z hZv hZw => ?_)
  refine hZv ?_
  obtain ⟨H, hH⟩ : ∃ H, H = s.heap := ⟨_, rfl⟩
  obtain ⟨locs, hlo⟩ : ∃ L : List Loc, L = [] := ⟨_, rfl⟩
  rw [← hlo, ← hH]
  have hS : va_S A s.heap H locs := by rw [hlo, hH]; exact hS
  have hP : va_P (dC, dI) vwCl ([(a_h, .inr (7, [.ref a_h_t, .ref a_h_rl, .ref a_h_cl, .int h_rows, .int h_columns, .long h_divisor])), (a_h_t, .inl (c_h_t, 11, .inr (.inr (.inr (.inr (fun i => if i < 11 then some (a_h_g i) else none)))))), (a_h_rl, .inl (c_h_rl, 10, .inl h_rl))] ++ gR a_h_g c_h_g h_g) H := by rw [hH]; exact hP
  clear hH hlo
  unfold pX7_leavingRow at hs
  refine lv_iconst (v := (-1)) hx hb dX7_leavingRow_0 (by decide) ?_
  refine lv_istore_n (lv' := [(2, .int (-1)), (0, .ref a_h), (1, .int p1)]) hx hb dX7_leavingRow_1 rfl hl (by decide) rfl (fun ls hl => ?_)
  refine lv_iconst (v := 0) hx hb dX7_leavingRow_2 (by decide) ?_
  refine lv_istore_n (lv' := [(3, .int 0), (2, .int (-1)), (0, .ref a_h), (1, .int p1)]) hx hb dX7_leavingRow_3 rfl hl (by decide) rfl (fun ls hl => ?_)
  obtain ⟨e4, he4, hs⟩ := bd_s hs
  have hX4 : ∀ (H : Heap) (locs : List Loc) (ls : Array Slot), va_P (dC, dI) vwCl ([(a_h, .inr (7, [.ref a_h_t, .ref a_h_rl, .ref a_h_cl, .int h_rows, .int h_columns, .long h_divisor])), (a_h_t, .inl (c_h_t, 11, .inr (.inr (.inr (.inr (fun i => if i < 11 then some (a_h_g i) else none)))))), (a_h_rl, .inl (c_h_rl, 10, .inl h_rl))] ++ gR a_h_g c_h_g h_g) H → va_D A ([(a_h, .inr (7, [.ref a_h_t, .ref a_h_rl, .ref a_h_cl, .int h_rows, .int h_columns, .long h_divisor])), (a_h_t, .inl (c_h_t, 11, .inr (.inr (.inr (.inr (fun i => if i < 11 then some (a_h_g i) else none)))))), (a_h_rl, .inl (c_h_rl, 10, .inl h_rl))] ++ gR a_h_g c_h_g h_g) → va_S A s.heap H locs → lv_has ls 4 [(2, .int e4)] → Z H locs 0 0 (F0 m 47 ls []) := by
    intro H locs ls hP hD hS hl
    refine hZv ?_
    refine lv_iload_n hx hb dX7_leavingRow_47 rfl (lv_at hl 0 rfl) ?_
    replace hs := Option.some.inj hs
    subst hs
    exact W.iret (v := e4) hx hb hr (fun t ht hW => ⟨⟨e4, (), rfl, rfl, by rw [ht]; exact hP, va_K.moved hW.alike hK, hD⟩, hS.F ht⟩) hS.2.2 dX7_leavingRow_48
  clear hs
  have hL4 : ∀ (n : Nat) (s4 : Int32 × Int32) (H : Heap) (locs : List Loc) (ls : Array Slot), itr (pX7_leavingRow_L4 h_rows h_columns h_rl h_g p1) n s4 = some e4 → va_P (dC, dI) vwCl ([(a_h, .inr (7, [.ref a_h_t, .ref a_h_rl, .ref a_h_cl, .int h_rows, .int h_columns, .long h_divisor])), (a_h_t, .inl (c_h_t, 11, .inr (.inr (.inr (.inr (fun i => if i < 11 then some (a_h_g i) else none)))))), (a_h_rl, .inl (c_h_rl, 10, .inl h_rl))] ++ gR a_h_g c_h_g h_g) H → va_D A ([(a_h, .inr (7, [.ref a_h_t, .ref a_h_rl, .ref a_h_cl, .int h_rows, .int h_columns, .long h_divisor])), (a_h_t, .inl (c_h_t, 11, .inr (.inr (.inr (.inr (fun i => if i < 11 then some (a_h_g i) else none)))))), (a_h_rl, .inl (c_h_rl, 10, .inl h_rl))] ++ gR a_h_g c_h_g h_g) → va_S A s.heap H locs → lv_has ls 4 [(0, .ref a_h), (1, .int p1), (2, .int s4.1), (3, .int s4.2)] → Z H locs 0 0 (F0 m 4 ls []) := by
    intro n
    induction n with
    | zero =>
      intro s4 H locs ls hn
      exact (itr_0 hn).elim
    | succ n ih =>
      intro s4 H locs ls hn hP hD hS hl
      obtain ⟨y1, hs, hn⟩ := itr_s hn
      unfold pX7_leavingRow_L4 at hs
      refine hZv ?_
      refine lv_iload_n hx hb dX7_leavingRow_4 rfl (lv_at hl 3 rfl) ?_
      refine lv_aload_n hx hb dX7_leavingRow_5 rfl (lv_at hl 0 rfl) ?_
      refine va_get (D := (dC, dI)) (ci := 7) (v := .int h_rows) (C := RX7) (T := TX7) (N := 6) hx hb hts hiX7 hown hK hP 0 rfl rfl 3 (by decide) hf23 (fun _ h9 => h9) rfl dX7_leavingRow_6 ?_
      refine lv_icmp_ge (tgt := 47) hx hb dX7_leavingRow_9 (by decide) (fun hc => ?_) (fun hc => ?_)
      · replace hs := it_t hc hs
        replace hs := Option.some.inj hs
        subst hs
        obtain rfl : s4.1 = e4 := hn
        exact hZw (hX4 H locs ls hP hD hS (lv_sub hl [2] rfl))
      · replace hs := it_f hc hs
        refine lv_aload_n hx hb dX7_leavingRow_12 rfl (lv_at hl 0 rfl) ?_
        refine va_get (D := (dC, dI)) (ci := 7) (v := .ref a_h_t) (C := RX7) (T := TX7) (N := 6) hx hb hts hiX7 hown hK hP 0 rfl rfl 0 (by decide) hf13 (fun _ h9 => h9) rfl dX7_leavingRow_13 ?_
        refine lv_iload_n hx hb dX7_leavingRow_16 rfl (lv_at hl 3 rfl) ?_
        obtain ⟨hg2, hs⟩ := gd_s hs
        refine va_aldG hx hb hK hP 1 0 rfl rfl hg2 dX7_leavingRow_17 ?_
        refine lv_iload_n hx hb dX7_leavingRow_18 rfl (lv_at hl 1 rfl) ?_
        obtain ⟨hg3, hs⟩ := gd_s hs
        refine va_laldG (X := [(a_h, .inr (7, [.ref a_h_t, .ref a_h_rl, .ref a_h_cl, .int h_rows, .int h_columns, .long h_divisor])), (a_h_t, .inl (c_h_t, 11, .inr (.inr (.inr (.inr (fun i => if i < 11 then some (a_h_g i) else none)))))), (a_h_rl, .inl (c_h_rl, 10, .inl h_rl))]) hx hb hK hP 2 rfl hg2 hg3 dX7_leavingRow_19 ?_
        refine lv_lconst (v := 0) hx hb dX7_leavingRow_20 (by decide) ?_
        refine W.lcmp hx hb dX7_leavingRow_21 ?_
        refine lv_if_le (tgt := 41) hx hb dX7_leavingRow_22 (by decide) (fun hc => ?_) (fun hc => ?_)
        · replace hs := it_t hc hs
          refine lv_iinc (v := s4.2 + 1) (lv' := [(3, .int (s4.2 + 1)), (0, .ref a_h), (1, .int p1), (2, .int s4.1)]) hx hb dX7_leavingRow_41 hl (k := 3) rfl (by rfl) (by decide) rfl (fun ls hl => ?_)
          refine lv_goto (tgt := 4) hx hb dX7_leavingRow_44 (by decide) ?_
          replace hs := Option.some.inj hs
          subst hs
          exact hZw (ih (s4.1, s4.2 + 1) H locs ls hn hP hD hS (lv_sub hl [1, 2, 3, 0] rfl))
        · replace hs := it_f hc hs
          refine lv_iload_n hx hb dX7_leavingRow_25 rfl (lv_at hl 2 rfl) ?_
          have hJ39 : ∀ (t39 : Unit), pX7_leavingRow_J39_4 s4 t39 = some y1 → ∀ (H : Heap) (locs : List Loc) (ls : Array Slot), va_P (dC, dI) vwCl ([(a_h, .inr (7, [.ref a_h_t, .ref a_h_rl, .ref a_h_cl, .int h_rows, .int h_columns, .long h_divisor])), (a_h_t, .inl (c_h_t, 11, .inr (.inr (.inr (.inr (fun i => if i < 11 then some (a_h_g i) else none)))))), (a_h_rl, .inl (c_h_rl, 10, .inl h_rl))] ++ gR a_h_g c_h_g h_g) H → va_D A ([(a_h, .inr (7, [.ref a_h_t, .ref a_h_rl, .ref a_h_cl, .int h_rows, .int h_columns, .long h_divisor])), (a_h_t, .inl (c_h_t, 11, .inr (.inr (.inr (.inr (fun i => if i < 11 then some (a_h_g i) else none)))))), (a_h_rl, .inl (c_h_rl, 10, .inl h_rl))] ++ gR a_h_g c_h_g h_g) → va_S A s.heap H locs → lv_has ls 4 [(0, .ref a_h), (1, .int p1), (3, .int s4.2)] → Z H locs 0 0 (F0 m 39 ls []) := by
            intro t39 hs H locs ls hP hD hS hl
            refine hZv ?_
            unfold pX7_leavingRow_J39_4 at hs
            refine lv_iload_n hx hb dX7_leavingRow_39 rfl (lv_at hl 2 rfl) ?_
            refine lv_istore_n (lv' := [(2, .int s4.2), (0, .ref a_h), (1, .int p1), (3, .int s4.2)]) hx hb dX7_leavingRow_40 rfl hl (by decide) rfl (fun ls hl => ?_)
            refine lv_iinc (v := s4.2 + 1) (lv' := [(3, .int (s4.2 + 1)), (2, .int s4.2), (0, .ref a_h), (1, .int p1)]) hx hb dX7_leavingRow_41 hl (k := 3) rfl (by rfl) (by decide) rfl (fun ls hl => ?_)
            refine lv_goto (tgt := 4) hx hb dX7_leavingRow_44 (by decide) ?_
            replace hs := Option.some.inj hs
            subst hs
            exact hZw (ih (s4.2, s4.2 + 1) H locs ls hn hP hD hS (lv_sub hl [2, 3, 1, 0] rfl))
          refine lv_if_lt (tgt := 39) hx hb dX7_leavingRow_26 (by decide) (fun hc => ?_) (fun hc => ?_)
          · replace hs := it_t hc hs
            exact hZw (hJ39 () hs H locs ls hP hD hS (lv_sub hl [0, 1, 3] rfl))
          · replace hs := it_f hc hs
            refine lv_aload_n hx hb dX7_leavingRow_29 rfl (lv_at hl 0 rfl) ?_
            refine lv_iload_n hx hb dX7_leavingRow_30 rfl (lv_at hl 3 rfl) ?_
            refine lv_iload_n hx hb dX7_leavingRow_31 rfl (lv_at hl 2 rfl) ?_
            refine lv_iload_n hx hb dX7_leavingRow_32 rfl (lv_at hl 1 rfl) ?_
            obtain ⟨r5, hr5, hs⟩ := bd_s hs
            refine kc_i (isC := [0, 1, 2] ++ List.range' 3 11) (isR := []) (pm := [0, 1, 2] ++ List.range' 3 11) (wr := []) (w1 := ([(a_h, .inr (7, [.ref a_h_t, .ref a_h_rl, .ref a_h_cl, .int h_rows, .int h_columns, .long h_divisor])), (a_h_t, .inl (c_h_t, 11, .inr (.inr (.inr (.inr (fun i => if i < 11 then some (a_h_g i) else none)))))), (a_h_rl, .inl (c_h_rl, 10, .inl h_rl))] ++ gR a_h_g c_h_g h_g)) (w2 := ([(a_h, .inr (7, [.ref a_h_t, .ref a_h_rl, .ref a_h_cl, .int h_rows, .int h_columns, .long h_divisor])), (a_h_t, .inl (c_h_t, 11, .inr (.inr (.inr (.inr (fun i => if i < 11 then some (a_h_g i) else none)))))), (a_h_rl, .inl (c_h_rl, 10, .inl h_rl))] ++ gR a_h_g c_h_g h_g)) (va_runV (As := [.int s4.2, .int s4.1, .int p1]) (rest := []) ⟨hx, hb, hml, hown, hts⟩ (c_X7_bindsBefore l dC dI a_h a_h_t a_h_rl a_h_cl a_h_g c_h_t c_h_rl c_h_g H.size h_rows h_columns h_divisor h_rl h_g s4.2 s4.1 p1 r5 hr5) (cwV 3 hts gX7_leavingRow_X7_bindsBefore rfl rfl rfl (by decide +kernel) ⟨Nat.le_of_ble_eq_true rfl, Nat.le_of_ble_eq_true rfl⟩) (kp_V hK hP hD hS hA hN (isC := [0, 1, 2] ++ List.range' 3 11) (isT := [0, 1, 2]) (wc := ([(a_h, .inr (7, [.ref a_h_t, .ref a_h_rl, .ref a_h_cl, .int h_rows, .int h_columns, .long h_divisor])), (a_h_t, .inl (c_h_t, 11, .inr (.inr (.inr (.inr (fun i => if i < 11 then some (a_h_g i) else none)))))), (a_h_rl, .inl (c_h_rl, 10, .inl h_rl))] ++ gR a_h_g c_h_g h_g)) (gC_ rfl rfl) (by decide +kernel) rfl (ci := 7) (q0 := 0) rfl rfl) rfl rfl hl.1 rfl (lv_room (Nat.le_of_ble_eq_true rfl)) dX7_leavingRow_33 ⟨Nat.le_of_ble_eq_true rfl, Nat.le_of_ble_eq_true rfl⟩) hP hD hS hA (gC_ rfl rfl) rfl (by decide +kernel) (by decide +kernel) (gP_ rfl rfl) (by decide +kernel) (fun H locs hP hD hS => ?_)
            refine lv_if_eq (tgt := 41) hx hb dX7_leavingRow_36 (by decide) (fun hc => ?_) (fun hc => ?_)
            · replace hs := it_t hc hs
              refine lv_iinc (v := s4.2 + 1) (lv' := [(3, .int (s4.2 + 1)), (0, .ref a_h), (1, .int p1), (2, .int s4.1)]) hx hb dX7_leavingRow_41 hl (k := 3) rfl (by rfl) (by decide) rfl (fun ls hl => ?_)
              refine lv_goto (tgt := 4) hx hb dX7_leavingRow_44 (by decide) ?_
              replace hs := Option.some.inj hs
              subst hs
              exact hZw (ih (s4.1, s4.2 + 1) H locs ls hn hP hD hS (lv_sub hl [1, 2, 3, 0] rfl))
            · replace hs := it_f hc hs
              exact hZw (hJ39 () hs H locs ls hP hD hS (lv_sub hl [0, 1, 3] rfl))
  obtain ⟨n4, hn4⟩ := lp_ex he4
  exact hZw (hL4 n4 ((-1), 0) H locs ls hn4 hP hD hS (lv_sub hl [2, 3, 1, 0] rfl))
