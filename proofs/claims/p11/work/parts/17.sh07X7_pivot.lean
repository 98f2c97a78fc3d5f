noncomputable def pX7_pivot_L28 (h_rows : Int32) (h_columns : Int32) (h_divisor : Int64) (h_g : Nat → Nat → Int64) (p1 : Int32) (p2 : Int32) (s28 : Int32 × (Nat → Nat → Int64)) : Option ((Int32 × (Nat → Nat → Int64)) ⊕ (Nat → Nat → Int64)) :=
  if h_rows < s28.1 then (some (Sum.inr s28.2)) else (if s28.1 = p1 then (some (Sum.inl (s28.1 + 1, s28.2))) else (gd (vp_in s28.1 11) (gd (vp_in p1 11) (gd (¬ s28.1.toNatClampNeg = p1.toNatClampNeg) (Option.bind (pX7_clearFromRow h_columns h_divisor (s28.2 s28.1.toNatClampNeg) (s28.2 p1.toNatClampNeg) p2 (h_g p1.toNatClampNeg p2.toNatClampNeg)) (fun r6 => some (Sum.inl (s28.1 + 1, gU s28.2 s28.1.toNatClampNeg r6))))))))
noncomputable def pX7_pivot (h_rows : Int32) (h_columns : Int32) (h_divisor : Int64) (h_rl : Nat → Int32) (h_cl : Nat → Int32) (h_g : Nat → Nat → Int64) (p1 : Int32) (p2 : Int32) : Option (Int64 × (Nat → Int32) × (Nat → Int32) × (Nat → Nat → Int64)) :=
  gd (vp_in p1 11) (gd (vp_in p2 17) (if (lg_cmp (h_g p1.toNatClampNeg p2.toNatClampNeg) 0) ≤ 0 then (some (h_divisor, h_rl, h_cl, h_g)) else (if 0 < (lg_cmp h_divisor 0) then (Option.bind (lp (pX7_pivot_L28 h_rows h_columns h_divisor h_g p1 p2) (0, h_g)) (fun e28 => gd (vp_in p1 11) (gd (vp_in p2 17) (gd (vp_in p1 10) (gd (vp_in p2 16) (gd (vp_in p1 10) (gd (vp_in p2 16) (some (h_g p1.toNatClampNeg p2.toNatClampNeg, upd h_rl p1.toNatClampNeg (h_cl p2.toNatClampNeg), upd h_cl p2.toNatClampNeg (h_rl p1.toNatClampNeg), gU e28 p1.toNatClampNeg (vp_updL (e28 p1.toNatClampNeg) p2.toNatClampNeg h_divisor)))))))))) else (some (h_divisor, h_rl, h_cl, h_g)))))
set_option maxHeartbeats 4000000 in
set_option maxRecDepth 100000 in
theorem c_X7_pivot (l : Launch) (dC : Nat → ClassId) (dI : Nat → Nat → Nat) (a_h : Nat) (a_h_t : Nat) (a_h_rl : Nat) (a_h_cl : Nat) (a_h_g : Nat → Nat) (c_h_t c_h_rl c_h_cl c_h_g : ClassId) (sz : Nat) (h_rows : Int32) (h_columns : Int32) (h_divisor : Int64) (h_rl : Nat → Int32) (h_cl : Nat → Int32) (h_g : Nat → Nat → Int64) (p1 : Int32) (p2 : Int32) (rv : Int64 × (Nat → Int32) × (Nat → Int32) × (Nat → Nat → Int64)) (hs : pX7_pivot h_rows h_columns h_divisor h_rl h_cl h_g p1 p2 = some rv) : Met l yX7_pivot wsX7_pivot ({ frames := 1, cells := 0, slots := 0, locals := 28 }) (sPc [.ref a_h, .int p1, .int p2] (dC, dI) [(c_h_t, .array .long), (c_h_rl, .int), (c_h_cl, .int), (c_h_g, .long)] ([(a_h, .inr (7, [.ref a_h_t, .ref a_h_rl, .ref a_h_cl, .int h_rows, .int h_columns, .long h_divisor])), (a_h_t, .inl (c_h_t, 11, .inr (.inr (.inr (.inr (fun i => if i < 11 then some (a_h_g i) else none)))))), (a_h_rl, .inl (c_h_rl, 10, .inl h_rl)), (a_h_cl, .inl (c_h_cl, 16, .inl h_cl))] ++ gR a_h_g c_h_g h_g) sz) (va_Qv (fun (_ : Unit) => True) (sB (dC, dI) [(c_h_t, .array .long), (c_h_rl, .int), (c_h_cl, .int), (c_h_g, .long)] (va_A ([(a_h, .inr (7, [.ref a_h_t, .ref a_h_rl, .ref a_h_cl, .int h_rows, .int h_columns, .long h_divisor])), (a_h_t, .inl (c_h_t, 11, .inr (.inr (.inr (.inr (fun i => if i < 11 then some (a_h_g i) else none)))))), (a_h_rl, .inl (c_h_rl, 10, .inl h_rl)), (a_h_cl, .inl (c_h_cl, 16, .inl h_cl))] ++ gR a_h_g c_h_g h_g) sz) ([(a_h, .inr (7, [.ref a_h_t, .ref a_h_rl, .ref a_h_cl, .int h_rows, .int h_columns, .long rv.1])), (a_h_t, .inl (c_h_t, 11, .inr (.inr (.inr (.inr (fun i => if i < 11 then some (a_h_g i) else none)))))), (a_h_rl, .inl (c_h_rl, 10, .inl rv.2.1)), (a_h_cl, .inl (c_h_cl, 16, .inl rv.2.2.1))] ++ gR a_h_g c_h_g rv.2.2.2)) (va_A ([(a_h, .inr (7, [.ref a_h_t, .ref a_h_rl, .ref a_h_cl, .int h_rows, .int h_columns, .long h_divisor])), (a_h_t, .inl (c_h_t, 11, .inr (.inr (.inr (.inr (fun i => if i < 11 then some (a_h_g i) else none)))))), (a_h_rl, .inl (c_h_rl, 10, .inl h_rl)), (a_h_cl, .inl (c_h_cl, 16, .inl h_cl))] ++ gR a_h_g c_h_g h_g) sz)) 0 0 (va_A ([(a_h, .inr (7, [.ref a_h_t, .ref a_h_rl, .ref a_h_cl, .int h_rows, .int h_columns, .long h_divisor])), (a_h_t, .inl (c_h_t, 11, .inr (.inr (.inr (.inr (fun i => if i < 11 then some (a_h_g i) else none)))))), (a_h_rl, .inl (c_h_rl, 10, .inl h_rl)), (a_h_cl, .inl (c_h_cl, 16, .inl h_cl))] ++ gR a_h_g c_h_g h_g) sz) := by
  refine Met.ofW (cc := cX7_pivot) (maxL := 6) (ret := none) (by decide) rfl ?_
  intro p e s m args below meth c s₁ B hml hv
  obtain ⟨rfl, hsz, hP, hK, hD0, hN⟩ := hv
  have hx := B.exec
  have hb := B.bytes
  have hr := B.returns
  have hts := atoms_spec (ws := wsX7_pivot) B.pre
  have hown : s.vm.findClass RX7 = some m.cls := findClass_of_methodNamed B.named
  have hlocks := B.notSynchronized
  subst hsz
  have hD := hD0.self (sz := s.heap.size)
  generalize hAe : va_A ([(a_h, .inr (7, [.ref a_h_t, .ref a_h_rl, .ref a_h_cl, .int h_rows, .int h_columns, .long h_divisor])), (a_h_t, .inl (c_h_t, 11, .inr (.inr (.inr (.inr (fun i => if i < 11 then some (a_h_g i) else none)))))), (a_h_rl, .inl (c_h_rl, 10, .inl h_rl)), (a_h_cl, .inl (c_h_cl, 16, .inl h_cl))] ++ gR a_h_g c_h_g h_g) s.heap.size = A at hD hN ⊢
  have hA : ∀ q : Nat, s.heap.size ≤ q → A q := fun q h => by rw [← hAe]; exact Or.inr h
  have hS : va_S A s.heap s.heap [] := va_S.rf
  have hP : va_P (dC, dI) vwCl ([(a_h, .inr (7, [.ref a_h_t, .ref a_h_rl, .ref a_h_cl, .int h_rows, .int h_columns, .long h_divisor])), (a_h_t, .inl (c_h_t, 11, .inr (.inr (.inr (.inr (fun i => if i < 11 then some (a_h_g i) else none)))))), (a_h_rl, .inl (c_h_rl, 10, .inl h_rl)), (a_h_cl, .inl (c_h_cl, 16, .inl h_cl))] ++ gR a_h_g c_h_g h_g) s.heap := hP
  have hl := lv_entry ([.ref a_h, .int p1, .int p2]) (n := 6) (Nat.le_of_ble_eq_true rfl)
  rw [lg_entry_eq]
  generalize (lg_sl ([.ref a_h, .int p1, .int p2]) ++ List.replicate (6 - (lg_sl ([.ref a_h, .int p1, .int p2])).length) Slot.unset).toArray = ls at hl ⊢
  have hl : lv_has ls 6 [(0, .ref a_h), (1, .int p1), (2, .int p2)] := hl
  have hiX7 : ∀ w ∈ wsX70, w ∈ wsX7_pivot := fun _ h => List.mem_cons_of_mem _ (List.mem_append_right _ h)
  have hf13 := hts (.fieldLink RX7 13 "MeetSets$Shares" "table" "[[J") (t1_ (al_ h1_))
  have hf30 := hts (.fieldLink RX7 30 "MeetSets$Shares" "divisor" "J") (t1_ (al_ (t1_ h1_)))
  have hf23 := hts (.fieldLink RX7 23 "MeetSets$Shares" "rows" "I") (t1_ (al_ (t1_ (t1_ h1_))))
  have hf16 := hts (.fieldLink RX7 16 "MeetSets$Shares" "rowLabels" "[I") (t1_ (al_ (t1_ (t1_ (t1_ h1_)))))
  have hf20 := hts (.fieldLink RX7 20 "MeetSets$Shares" "columnLabels" "[I") (t1_ (al_ (t4_ h1_)))
  refine w_abs (fun Z hZv hZw => ?_)
  refine hZv ?_
  obtain ⟨H, hH⟩ : ∃ H, H = s.heap := ⟨_, rfl⟩
  obtain ⟨locs, hlo⟩ : ∃ L : List Loc, L = [] := ⟨_, rfl⟩
  rw [← hlo, ← hH]
  have hS : va_S A s.heap H locs := by rw [hlo, hH]; exact hS
  have hP : va_P (dC, dI) vwCl ([(a_h, .inr (7, [.ref a_h_t, .ref a_h_rl, .ref a_h_cl, .int h_rows, .int h_columns, .long h_divisor])), (a_h_t, .inl (c_h_t, 11, .inr (.inr (.inr (.inr (fun i => if i < 11 then some (a_h_g i) else none)))))), (a_h_rl, .inl (c_h_rl, 10, .inl h_rl)), (a_h_cl, .inl (c_h_cl, 16, .inl h_cl))] ++ gR a_h_g c_h_g h_g) H := by rw [hH]; exact hP
  clear hH hlo
  unfold pX7_pivot at hs
  refine lv_aload_n hx hb dX7_pivot_0 rfl (lv_at hl 0 rfl) ?_
  refine va_get (D := (dC, dI)) (ci := 7) (v := .ref a_h_t) (C := RX7) (T := TX7) (N := 6) hx hb hts hiX7 hown hK hP 0 rfl rfl 0 (by decide) hf13 (fun _ h9 => h9) rfl dX7_pivot_1 ?_
  refine lv_iload_n hx hb dX7_pivot_4 rfl (lv_at hl 1 rfl) ?_
  obtain ⟨hg1, hs⟩ := gd_s hs
  refine va_aldG hx hb hK hP 1 0 rfl rfl hg1 dX7_pivot_5 ?_
  refine lv_iload_n hx hb dX7_pivot_6 rfl (lv_at hl 2 rfl) ?_
  obtain ⟨hg2, hs⟩ := gd_s hs
  refine va_laldG (X := [(a_h, .inr (7, [.ref a_h_t, .ref a_h_rl, .ref a_h_cl, .int h_rows, .int h_columns, .long h_divisor])), (a_h_t, .inl (c_h_t, 11, .inr (.inr (.inr (.inr (fun i => if i < 11 then some (a_h_g i) else none)))))), (a_h_rl, .inl (c_h_rl, 10, .inl h_rl)), (a_h_cl, .inl (c_h_cl, 16, .inl h_cl))]) hx hb hK hP 3 rfl hg1 hg2 dX7_pivot_7 ?_
  refine lv_lstore_n (lv' := [(3, .long (h_g p1.toNatClampNeg p2.toNatClampNeg)), (0, .ref a_h), (1, .int p1), (2, .int p2)]) hx hb dX7_pivot_8 rfl hl (by decide) rfl (fun ls hl => ?_)
  refine lv_lload_n hx hb dX7_pivot_9 rfl (lv_at hl 0 rfl) ?_
  refine lv_lconst (v := 0) hx hb dX7_pivot_10 (by decide) ?_
  refine W.lcmp hx hb dX7_pivot_11 ?_
  refine lv_if_le (tgt := 24) hx hb dX7_pivot_12 (by decide) (fun hc => ?_) (fun hc => ?_)
  · replace hs := it_t hc hs
    replace hs := Option.some.inj hs
    subst hs
    exact W.vret hx hb hr (fun t ht hW => ⟨⟨(), rfl, trivial, by rw [ht]; exact hP, va_K.moved hW.alike hK, hD⟩, hS.F ht⟩) hS.2.2 dX7_pivot_24
  · replace hs := it_f hc hs
    refine lv_aload_n hx hb dX7_pivot_15 rfl (lv_at hl 1 rfl) ?_
    refine va_get (D := (dC, dI)) (ci := 7) (v := .long h_divisor) (C := RX7) (T := TX7) (N := 6) hx hb hts hiX7 hown hK hP 0 rfl rfl 5 (by decide) hf30 (fun _ h9 => h9) rfl dX7_pivot_16 ?_
    refine lv_lconst (v := 0) hx hb dX7_pivot_19 (by decide) ?_
    refine W.lcmp hx hb dX7_pivot_20 ?_
    refine lv_if_gt (tgt := 25) hx hb dX7_pivot_21 (by decide) (fun hc => ?_) (fun hc => ?_)
    · replace hs := it_t hc hs
      refine lv_iconst (v := 0) hx hb dX7_pivot_25 (by decide) ?_
      refine lv_istore (lv' := [(5, .int 0), (3, .long (h_g p1.toNatClampNeg p2.toNatClampNeg)), (0, .ref a_h), (1, .int p1), (2, .int p2)]) hx hb dX7_pivot_26 hl (by decide) rfl (fun ls hl => ?_)
      obtain ⟨e28, he28, hs⟩ := bd_s hs
      have hX28 : ∀ (H : Heap) (locs : List Loc) (ls : Array Slot), va_P (dC, dI) vwCl ([(a_h, .inr (7, [.ref a_h_t, .ref a_h_rl, .ref a_h_cl, .int h_rows, .int h_columns, .long h_divisor])), (a_h_t, .inl (c_h_t, 11, .inr (.inr (.inr (.inr (fun i => if i < 11 then some (a_h_g i) else none)))))), (a_h_rl, .inl (c_h_rl, 10, .inl h_rl)), (a_h_cl, .inl (c_h_cl, 16, .inl h_cl))] ++ gR a_h_g c_h_g e28) H → va_D A ([(a_h, .inr (7, [.ref a_h_t, .ref a_h_rl, .ref a_h_cl, .int h_rows, .int h_columns, .long h_divisor])), (a_h_t, .inl (c_h_t, 11, .inr (.inr (.inr (.inr (fun i => if i < 11 then some (a_h_g i) else none)))))), (a_h_rl, .inl (c_h_rl, 10, .inl h_rl)), (a_h_cl, .inl (c_h_cl, 16, .inl h_cl))] ++ gR a_h_g c_h_g e28) → va_S A s.heap H locs → lv_has ls 6 [(0, .ref a_h), (1, .int p1), (2, .int p2), (3, .long (h_g p1.toNatClampNeg p2.toNatClampNeg))] → Z H locs 0 0 (F0 m 68 ls []) := by
        intro H locs ls hP hD hS hl
        refine hZv ?_
        refine lv_aload_n hx hb dX7_pivot_68 rfl (lv_at hl 0 rfl) ?_
        refine va_get (D := (dC, dI)) (ci := 7) (v := .ref a_h_t) (C := RX7) (T := TX7) (N := 6) hx hb hts hiX7 hown hK hP 0 rfl rfl 0 (by decide) hf13 (fun _ h9 => h9) rfl dX7_pivot_69 ?_
        refine lv_iload_n hx hb dX7_pivot_72 rfl (lv_at hl 1 rfl) ?_
        obtain ⟨hg8, hs⟩ := gd_s hs
        refine va_aldG hx hb hK hP 1 0 rfl rfl hg8 dX7_pivot_73 ?_
        refine lv_iload_n hx hb dX7_pivot_74 rfl (lv_at hl 2 rfl) ?_
        refine lv_aload_n hx hb dX7_pivot_75 rfl (lv_at hl 0 rfl) ?_
        refine va_get (D := (dC, dI)) (ci := 7) (v := .long h_divisor) (C := RX7) (T := TX7) (N := 6) hx hb hts hiX7 hown hK hP 0 rfl rfl 5 (by decide) hf30 (fun _ h9 => h9) rfl dX7_pivot_76 ?_
        obtain ⟨hg9, hs⟩ := gd_s hs
        refine va_lastG (X := [(a_h, .inr (7, [.ref a_h_t, .ref a_h_rl, .ref a_h_cl, .int h_rows, .int h_columns, .long h_divisor])), (a_h_t, .inl (c_h_t, 11, .inr (.inr (.inr (.inr (fun i => if i < 11 then some (a_h_g i) else none)))))), (a_h_rl, .inl (c_h_rl, 10, .inl h_rl)), (a_h_cl, .inl (c_h_cl, 16, .inl h_cl))]) hx hb hK hP hD hS 3 rfl hg8 hg9 dX7_pivot_79 (fun H locs hP hD hS => ?_)
        have hP : va_P (dC, dI) vwCl ([(a_h, .inr (7, [.ref a_h_t, .ref a_h_rl, .ref a_h_cl, .int h_rows, .int h_columns, .long h_divisor])), (a_h_t, .inl (c_h_t, 11, .inr (.inr (.inr (.inr (fun i => if i < 11 then some (a_h_g i) else none)))))), (a_h_rl, .inl (c_h_rl, 10, .inl h_rl)), (a_h_cl, .inl (c_h_cl, 16, .inl h_cl))] ++ gR a_h_g c_h_g (gU e28 p1.toNatClampNeg (vp_updL (e28 p1.toNatClampNeg) p2.toNatClampNeg h_divisor))) H := hP
        have hD : va_D A ([(a_h, .inr (7, [.ref a_h_t, .ref a_h_rl, .ref a_h_cl, .int h_rows, .int h_columns, .long h_divisor])), (a_h_t, .inl (c_h_t, 11, .inr (.inr (.inr (.inr (fun i => if i < 11 then some (a_h_g i) else none)))))), (a_h_rl, .inl (c_h_rl, 10, .inl h_rl)), (a_h_cl, .inl (c_h_cl, 16, .inl h_cl))] ++ gR a_h_g c_h_g (gU e28 p1.toNatClampNeg (vp_updL (e28 p1.toNatClampNeg) p2.toNatClampNeg h_divisor))) := hD
        refine lv_aload_n hx hb dX7_pivot_80 rfl (lv_at hl 0 rfl) ?_
        refine lv_lload_n hx hb dX7_pivot_81 rfl (lv_at hl 3 rfl) ?_
        refine va_put (D := (dC, dI)) (ci := 7) (v := .long (h_g p1.toNatClampNeg p2.toNatClampNeg)) (ty := .long) (C := RX7) (T := TX7) (N := 6) hx hb hts hiX7 tyX7 tyX7_ok nmX7 hown hK hP hD hS 0 rfl rfl 5 (by decide) hf30 (fun _ h9 => h9) rfl (by decide +kernel) rfl rfl (Nat.le_of_ble_eq_true rfl) dX7_pivot_82 (fun H locs hP hD hS => ?_)
        have hP : va_P (dC, dI) vwCl ([(a_h, .inr (7, [.ref a_h_t, .ref a_h_rl, .ref a_h_cl, .int h_rows, .int h_columns, .long (h_g p1.toNatClampNeg p2.toNatClampNeg)])), (a_h_t, .inl (c_h_t, 11, .inr (.inr (.inr (.inr (fun i => if i < 11 then some (a_h_g i) else none)))))), (a_h_rl, .inl (c_h_rl, 10, .inl h_rl)), (a_h_cl, .inl (c_h_cl, 16, .inl h_cl))] ++ gR a_h_g c_h_g (gU e28 p1.toNatClampNeg (vp_updL (e28 p1.toNatClampNeg) p2.toNatClampNeg h_divisor))) H := hP
        have hD : va_D A ([(a_h, .inr (7, [.ref a_h_t, .ref a_h_rl, .ref a_h_cl, .int h_rows, .int h_columns, .long (h_g p1.toNatClampNeg p2.toNatClampNeg)])), (a_h_t, .inl (c_h_t, 11, .inr (.inr (.inr (.inr (fun i => if i < 11 then some (a_h_g i) else none)))))), (a_h_rl, .inl (c_h_rl, 10, .inl h_rl)), (a_h_cl, .inl (c_h_cl, 16, .inl h_cl))] ++ gR a_h_g c_h_g (gU e28 p1.toNatClampNeg (vp_updL (e28 p1.toNatClampNeg) p2.toNatClampNeg h_divisor))) := hD
        refine lv_aload_n hx hb dX7_pivot_85 rfl (lv_at hl 0 rfl) ?_
        refine va_get (D := (dC, dI)) (ci := 7) (v := .ref a_h_rl) (C := RX7) (T := TX7) (N := 6) hx hb hts hiX7 hown hK hP 0 rfl rfl 1 (by decide) hf16 (fun _ h9 => h9) rfl dX7_pivot_86 ?_
        refine lv_iload_n hx hb dX7_pivot_89 rfl (lv_at hl 1 rfl) ?_
        obtain ⟨hg10, hs⟩ := gd_s hs
        refine va_iald hx hb hK hP 2 1 rfl rfl hg10 dX7_pivot_90 ?_
        refine lv_istore (lv' := [(5, .int (h_rl p1.toNatClampNeg)), (0, .ref a_h), (1, .int p1), (2, .int p2), (3, .long (h_g p1.toNatClampNeg p2.toNatClampNeg))]) hx hb dX7_pivot_91 hl (by decide) rfl (fun ls hl => ?_)
        refine lv_aload_n hx hb dX7_pivot_93 rfl (lv_at hl 1 rfl) ?_
        refine va_get (D := (dC, dI)) (ci := 7) (v := .ref a_h_rl) (C := RX7) (T := TX7) (N := 6) hx hb hts hiX7 hown hK hP 0 rfl rfl 1 (by decide) hf16 (fun _ h9 => h9) rfl dX7_pivot_94 ?_
        refine lv_iload_n hx hb dX7_pivot_97 rfl (lv_at hl 2 rfl) ?_
        refine lv_aload_n hx hb dX7_pivot_98 rfl (lv_at hl 1 rfl) ?_
        refine va_get (D := (dC, dI)) (ci := 7) (v := .ref a_h_cl) (C := RX7) (T := TX7) (N := 6) hx hb hts hiX7 hown hK hP 0 rfl rfl 2 (by decide) hf20 (fun _ h9 => h9) rfl dX7_pivot_99 ?_
        refine lv_iload_n hx hb dX7_pivot_102 rfl (lv_at hl 3 rfl) ?_
        obtain ⟨hg11, hs⟩ := gd_s hs
        refine va_iald hx hb hK hP 3 2 rfl rfl hg11 dX7_pivot_103 ?_
        obtain ⟨hg12, hs⟩ := gd_s hs
        refine va_iast hx hb hK hP hD hS 2 1 rfl rfl hg12 dX7_pivot_104 (fun H locs hP hD hS => ?_)
        have hP : va_P (dC, dI) vwCl ([(a_h, .inr (7, [.ref a_h_t, .ref a_h_rl, .ref a_h_cl, .int h_rows, .int h_columns, .long (h_g p1.toNatClampNeg p2.toNatClampNeg)])), (a_h_t, .inl (c_h_t, 11, .inr (.inr (.inr (.inr (fun i => if i < 11 then some (a_h_g i) else none)))))), (a_h_rl, .inl (c_h_rl, 10, .inl (upd h_rl p1.toNatClampNeg (h_cl p2.toNatClampNeg)))), (a_h_cl, .inl (c_h_cl, 16, .inl h_cl))] ++ gR a_h_g c_h_g (gU e28 p1.toNatClampNeg (vp_updL (e28 p1.toNatClampNeg) p2.toNatClampNeg h_divisor))) H := hP
        have hD : va_D A ([(a_h, .inr (7, [.ref a_h_t, .ref a_h_rl, .ref a_h_cl, .int h_rows, .int h_columns, .long (h_g p1.toNatClampNeg p2.toNatClampNeg)])), (a_h_t, .inl (c_h_t, 11, .inr (.inr (.inr (.inr (fun i => if i < 11 then some (a_h_g i) else none)))))), (a_h_rl, .inl (c_h_rl, 10, .inl (upd h_rl p1.toNatClampNeg (h_cl p2.toNatClampNeg)))), (a_h_cl, .inl (c_h_cl, 16, .inl h_cl))] ++ gR a_h_g c_h_g (gU e28 p1.toNatClampNeg (vp_updL (e28 p1.toNatClampNeg) p2.toNatClampNeg h_divisor))) := hD
        refine lv_aload_n hx hb dX7_pivot_105 rfl (lv_at hl 1 rfl) ?_
        refine va_get (D := (dC, dI)) (ci := 7) (v := .ref a_h_cl) (C := RX7) (T := TX7) (N := 6) hx hb hts hiX7 hown hK hP 0 rfl rfl 2 (by decide) hf20 (fun _ h9 => h9) rfl dX7_pivot_106 ?_
        refine lv_iload_n hx hb dX7_pivot_109 rfl (lv_at hl 3 rfl) ?_
        refine lv_iload hx hb dX7_pivot_110 (lv_at hl 0 rfl) ?_
        obtain ⟨hg13, hs⟩ := gd_s hs
        refine va_iast hx hb hK hP hD hS 3 2 rfl rfl hg13 dX7_pivot_112 (fun H locs hP hD hS => ?_)
        have hP : va_P (dC, dI) vwCl ([(a_h, .inr (7, [.ref a_h_t, .ref a_h_rl, .ref a_h_cl, .int h_rows, .int h_columns, .long (h_g p1.toNatClampNeg p2.toNatClampNeg)])), (a_h_t, .inl (c_h_t, 11, .inr (.inr (.inr (.inr (fun i => if i < 11 then some (a_h_g i) else none)))))), (a_h_rl, .inl (c_h_rl, 10, .inl (upd h_rl p1.toNatClampNeg (h_cl p2.toNatClampNeg)))), (a_h_cl, .inl (c_h_cl, 16, .inl (upd h_cl p2.toNatClampNeg (h_rl p1.toNatClampNeg))))] ++ gR a_h_g c_h_g (gU e28 p1.toNatClampNeg (vp_updL (e28 p1.toNatClampNeg) p2.toNatClampNeg h_divisor))) H := hP
        have hD : va_D A ([(a_h, .inr (7, [.ref a_h_t, .ref a_h_rl, .ref a_h_cl, .int h_rows, .int h_columns, .long (h_g p1.toNatClampNeg p2.toNatClampNeg)])), (a_h_t, .inl (c_h_t, 11, .inr (.inr (.inr (.inr (fun i => if i < 11 then some (a_h_g i) else none)))))), (a_h_rl, .inl (c_h_rl, 10, .inl (upd h_rl p1.toNatClampNeg (h_cl p2.toNatClampNeg)))), (a_h_cl, .inl (c_h_cl, 16, .inl (upd h_cl p2.toNatClampNeg (h_rl p1.toNatClampNeg))))] ++ gR a_h_g c_h_g (gU e28 p1.toNatClampNeg (vp_updL (e28 p1.toNatClampNeg) p2.toNatClampNeg h_divisor))) := hD
        replace hs := Option.some.inj hs
        subst hs
        exact W.vret hx hb hr (fun t ht hW => ⟨⟨(), rfl, trivial, by rw [ht]; exact hP, va_K.moved hW.alike hK, hD⟩, hS.F ht⟩) hS.2.2 dX7_pivot_113
      clear hs
      have hL28 : ∀ (n : Nat) (s28 : Int32 × (Nat → Nat → Int64)) (H : Heap) (locs : List Loc) (ls : Array Slot), itr (pX7_pivot_L28 h_rows h_columns h_divisor h_g p1 p2) n s28 = some e28 → va_P (dC, dI) vwCl ([(a_h, .inr (7, [.ref a_h_t, .ref a_h_rl, .ref a_h_cl, .int h_rows, .int h_columns, .long h_divisor])), (a_h_t, .inl (c_h_t, 11, .inr (.inr (.inr (.inr (fun i => if i < 11 then some (a_h_g i) else none)))))), (a_h_rl, .inl (c_h_rl, 10, .inl h_rl)), (a_h_cl, .inl (c_h_cl, 16, .inl h_cl))] ++ gR a_h_g c_h_g s28.2) H → va_D A ([(a_h, .inr (7, [.ref a_h_t, .ref a_h_rl, .ref a_h_cl, .int h_rows, .int h_columns, .long h_divisor])), (a_h_t, .inl (c_h_t, 11, .inr (.inr (.inr (.inr (fun i => if i < 11 then some (a_h_g i) else none)))))), (a_h_rl, .inl (c_h_rl, 10, .inl h_rl)), (a_h_cl, .inl (c_h_cl, 16, .inl h_cl))] ++ gR a_h_g c_h_g s28.2) → va_S A s.heap H locs → lv_has ls 6 [(0, .ref a_h), (1, .int p1), (2, .int p2), (3, .long (h_g p1.toNatClampNeg p2.toNatClampNeg)), (5, .int s28.1)] → Z H locs 0 0 (F0 m 28 ls []) := by
        intro n
        induction n with
        | zero =>
          intro s28 H locs ls hn
          exact (itr_0 hn).elim
        | succ n ih =>
          intro s28 H locs ls hn hP hD hS hl
          obtain ⟨y3, hs, hn⟩ := itr_s hn
          unfold pX7_pivot_L28 at hs
          refine hZv ?_
          refine lv_iload hx hb dX7_pivot_28 (lv_at hl 4 rfl) ?_
          refine lv_aload_n hx hb dX7_pivot_30 rfl (lv_at hl 0 rfl) ?_
          refine va_get (D := (dC, dI)) (ci := 7) (v := .int h_rows) (C := RX7) (T := TX7) (N := 6) hx hb hts hiX7 hown hK hP 0 rfl rfl 3 (by decide) hf23 (fun _ h9 => h9) rfl dX7_pivot_31 ?_
          refine lv_icmp_gt (tgt := 68) hx hb dX7_pivot_34 (by decide) (fun hc => ?_) (fun hc => ?_)
          · replace hs := it_t hc hs
            replace hs := Option.some.inj hs
            subst hs
            obtain rfl : s28.2 = e28 := hn
            exact hZw (hX28 H locs ls hP hD hS (lv_sub hl [0, 1, 2, 3] rfl))
          · replace hs := it_f hc hs
            refine lv_iload hx hb dX7_pivot_37 (lv_at hl 4 rfl) ?_
            refine lv_iload_n hx hb dX7_pivot_39 rfl (lv_at hl 1 rfl) ?_
            refine lv_icmp_eq (tgt := 62) hx hb dX7_pivot_40 (by decide) (fun hc => ?_) (fun hc => ?_)
            · replace hs := it_t hc hs
              refine lv_iinc (v := s28.1 + 1) (lv' := [(5, .int (s28.1 + 1)), (0, .ref a_h), (1, .int p1), (2, .int p2), (3, .long (h_g p1.toNatClampNeg p2.toNatClampNeg))]) hx hb dX7_pivot_62 hl (k := 4) rfl (by rfl) (by decide) rfl (fun ls hl => ?_)
              refine lv_goto (tgt := 28) hx hb dX7_pivot_65 (by decide) ?_
              replace hs := Option.some.inj hs
              subst hs
              exact hZw (ih (s28.1 + 1, s28.2) H locs ls hn hP hD hS (lv_sub hl [1, 2, 3, 4, 0] rfl))
            · replace hs := it_f hc hs
              refine lv_aload_n hx hb dX7_pivot_43 rfl (lv_at hl 0 rfl) ?_
              refine lv_aload_n hx hb dX7_pivot_44 rfl (lv_at hl 0 rfl) ?_
              refine va_get (D := (dC, dI)) (ci := 7) (v := .ref a_h_t) (C := RX7) (T := TX7) (N := 6) hx hb hts hiX7 hown hK hP 0 rfl rfl 0 (by decide) hf13 (fun _ h9 => h9) rfl dX7_pivot_45 ?_
              refine lv_iload hx hb dX7_pivot_48 (lv_at hl 4 rfl) ?_
              obtain ⟨hg4, hs⟩ := gd_s hs
              refine va_aldG hx hb hK hP 1 0 rfl rfl hg4 dX7_pivot_50 ?_
              refine lv_aload_n hx hb dX7_pivot_51 rfl (lv_at hl 0 rfl) ?_
              refine va_get (D := (dC, dI)) (ci := 7) (v := .ref a_h_t) (C := RX7) (T := TX7) (N := 6) hx hb hts hiX7 hown hK hP 0 rfl rfl 0 (by decide) hf13 (fun _ h9 => h9) rfl dX7_pivot_52 ?_
              refine lv_iload_n hx hb dX7_pivot_55 rfl (lv_at hl 1 rfl) ?_
              obtain ⟨hg5, hs⟩ := gd_s hs
              refine va_aldG hx hb hK hP 1 0 rfl rfl hg5 dX7_pivot_56 ?_
              refine lv_iload_n hx hb dX7_pivot_57 rfl (lv_at hl 2 rfl) ?_
              refine lv_lload_n hx hb dX7_pivot_58 rfl (lv_at hl 3 rfl) ?_
              obtain ⟨hne7, hs⟩ := gd_s hs
              obtain ⟨r6, hr6, hs⟩ := bd_s hs
              refine kc_G (X := [(a_h, .inr (7, [.ref a_h_t, .ref a_h_rl, .ref a_h_cl, .int h_rows, .int h_columns, .long h_divisor])), (a_h_t, .inl (c_h_t, 11, .inr (.inr (.inr (.inr (fun i => if i < 11 then some (a_h_g i) else none)))))), (a_h_rl, .inl (c_h_rl, 10, .inl h_rl)), (a_h_cl, .inl (c_h_cl, 16, .inl h_cl))]) (va_runV (As := [.ref (a_h_g s28.1.toNatClampNeg), .ref (a_h_g p1.toNatClampNeg), .int p2, .long (h_g p1.toNatClampNeg p2.toNatClampNeg)]) (rest := []) ⟨hx, hb, hml, hown, hts⟩ (c_X7_clearFromRow l dC dI a_h a_h_t a_h_rl a_h_cl (a_h_g s28.1.toNatClampNeg) (a_h_g p1.toNatClampNeg) c_h_g c_h_g H.size h_rows h_columns h_divisor (s28.2 s28.1.toNatClampNeg) (s28.2 p1.toNatClampNeg) p2 (h_g p1.toNatClampNeg p2.toNatClampNeg) r6 hr6) (cwV 4 hts gX7_pivot_X7_clearFromRow rfl rfl rfl (by decide +kernel) ⟨Nat.le_of_ble_eq_true rfl, Nat.le_of_ble_eq_true rfl⟩) (kp_G (X := [(a_h, .inr (7, [.ref a_h_t, .ref a_h_rl, .ref a_h_cl, .int h_rows, .int h_columns, .long h_divisor])), (a_h_t, .inl (c_h_t, 11, .inr (.inr (.inr (.inr (fun i => if i < 11 then some (a_h_g i) else none)))))), (a_h_rl, .inl (c_h_rl, 10, .inl h_rl)), (a_h_cl, .inl (c_h_cl, 16, .inl h_cl))]) hK hP hD hS hA hN hg4 hg5 hne7 (q := 0) (tp := 3) rfl rfl rfl) rfl rfl hl.1 rfl (lv_room (Nat.le_of_ble_eq_true rfl)) dX7_pivot_59 ⟨Nat.le_of_ble_eq_true rfl, Nat.le_of_ble_eq_true rfl⟩) hP hD hS hA hg4 hg5 hne7 (q := 0) rfl (fun H locs hP hD hS => ?_)
              have hP : va_P (dC, dI) vwCl ([(a_h, .inr (7, [.ref a_h_t, .ref a_h_rl, .ref a_h_cl, .int h_rows, .int h_columns, .long h_divisor])), (a_h_t, .inl (c_h_t, 11, .inr (.inr (.inr (.inr (fun i => if i < 11 then some (a_h_g i) else none)))))), (a_h_rl, .inl (c_h_rl, 10, .inl h_rl)), (a_h_cl, .inl (c_h_cl, 16, .inl h_cl))] ++ gR a_h_g c_h_g (gU s28.2 s28.1.toNatClampNeg r6)) H := hP
              have hD : va_D A ([(a_h, .inr (7, [.ref a_h_t, .ref a_h_rl, .ref a_h_cl, .int h_rows, .int h_columns, .long h_divisor])), (a_h_t, .inl (c_h_t, 11, .inr (.inr (.inr (.inr (fun i => if i < 11 then some (a_h_g i) else none)))))), (a_h_rl, .inl (c_h_rl, 10, .inl h_rl)), (a_h_cl, .inl (c_h_cl, 16, .inl h_cl))] ++ gR a_h_g c_h_g (gU s28.2 s28.1.toNatClampNeg r6)) := hD
              refine lv_iinc (v := s28.1 + 1) (lv' := [(5, .int (s28.1 + 1)), (0, .ref a_h), (1, .int p1), (2, .int p2), (3, .long (h_g p1.toNatClampNeg p2.toNatClampNeg))]) hx hb dX7_pivot_62 hl (k := 4) rfl (by rfl) (by decide) rfl (fun ls hl => ?_)
              refine lv_goto (tgt := 28) hx hb dX7_pivot_65 (by decide) ?_
              replace hs := Option.some.inj hs
              subst hs
              exact hZw (ih (s28.1 + 1, gU s28.2 s28.1.toNatClampNeg r6) H locs ls hn hP hD hS (lv_sub hl [1, 2, 3, 4, 0] rfl))
      obtain ⟨n28, hn28⟩ := lp_ex he28
      exact hZw (hL28 n28 (0, h_g) H locs ls hn28 hP hD hS (lv_sub hl [2, 3, 4, 1, 0] rfl))
    · replace hs := it_f hc hs
      replace hs := Option.some.inj hs
      subst hs
      exact W.vret hx hb hr (fun t ht hW => ⟨⟨(), rfl, trivial, by rw [ht]; exact hP, va_K.moved hW.alike hK, hD⟩, hS.F ht⟩) hS.2.2 dX7_pivot_24
