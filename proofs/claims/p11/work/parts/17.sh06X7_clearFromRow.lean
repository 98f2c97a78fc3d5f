noncomputable def pX7_clearFromRow_L8 (h_columns : Int32) (h_divisor : Int64) (b_tg : Nat → Int64) (b_sr : Nat → Int64) (p3 : Int32) (p4 : Int64) (s8 : Int32 × (Nat → Int64)) : Option ((Int32 × (Nat → Int64)) ⊕ (Nat → Int64)) :=
  if h_columns < s8.1 then (some (Sum.inr s8.2)) else (if s8.1 = p3 then (some (Sum.inl (s8.1 + 1, s8.2))) else (gd (vp_in s8.1 17) (gd (vp_in s8.1 17) (gd (¬ (h_divisor : Int64) = 0) (gd (vp_in s8.1 17) (some (Sum.inl (s8.1 + 1, vp_updL s8.2 s8.1.toNatClampNeg ((((s8.2 s8.1.toNatClampNeg) * p4) - ((b_tg p3.toNatClampNeg) * (b_sr s8.1.toNatClampNeg))) / h_divisor)))))))))
noncomputable def pX7_clearFromRow (h_columns : Int32) (h_divisor : Int64) (b_tg : Nat → Int64) (b_sr : Nat → Int64) (p3 : Int32) (p4 : Int64) : Option (Nat → Int64) :=
  gd (vp_in p3 17) (Option.bind (lp (pX7_clearFromRow_L8 h_columns h_divisor b_tg b_sr p3 p4) (0, b_tg)) (fun e8 => gd (vp_in p3 17) (some (vp_updL e8 p3.toNatClampNeg (-(b_tg p3.toNatClampNeg))))))
set_option maxHeartbeats 4000000 in
set_option maxRecDepth 100000 in
theorem c_X7_clearFromRow (l : Launch) (dC : Nat → ClassId) (dI : Nat → Nat → Nat) (a_h : Nat) (a_h_t : Nat) (a_h_rl : Nat) (a_h_cl : Nat) (a_b_tg : Nat) (a_b_sr : Nat) (c_b_tg c_b_sr : ClassId) (sz : Nat) (h_rows : Int32) (h_columns : Int32) (h_divisor : Int64) (b_tg : Nat → Int64) (b_sr : Nat → Int64) (p3 : Int32) (p4 : Int64) (rv : Nat → Int64) (hs : pX7_clearFromRow h_columns h_divisor b_tg b_sr p3 p4 = some rv) : Met l yX7_clearFromRow wsX7_clearFromRow ({ frames := 0, cells := 0, slots := 0, locals := 0 }) (sPc [.ref a_h, .ref a_b_tg, .ref a_b_sr, .int p3, .long p4] (dC, dI) [(c_b_tg, .long), (c_b_sr, .long)] [(a_h, .inr (7, [.ref a_h_t, .ref a_h_rl, .ref a_h_cl, .int h_rows, .int h_columns, .long h_divisor])), (a_b_tg, .inl (c_b_tg, 17, .inr (.inl b_tg))), (a_b_sr, .inl (c_b_sr, 17, .inr (.inl b_sr)))] sz) (va_Qv (fun (_ : Unit) => True) (sB (dC, dI) [(c_b_tg, .long), (c_b_sr, .long)] (va_A [(a_h, .inr (7, [.ref a_h_t, .ref a_h_rl, .ref a_h_cl, .int h_rows, .int h_columns, .long h_divisor])), (a_b_tg, .inl (c_b_tg, 17, .inr (.inl b_tg))), (a_b_sr, .inl (c_b_sr, 17, .inr (.inl b_sr)))] sz) [(a_h, .inr (7, [.ref a_h_t, .ref a_h_rl, .ref a_h_cl, .int h_rows, .int h_columns, .long h_divisor])), (a_b_tg, .inl (c_b_tg, 17, .inr (.inl rv))), (a_b_sr, .inl (c_b_sr, 17, .inr (.inl b_sr)))]) (va_A [(a_h, .inr (7, [.ref a_h_t, .ref a_h_rl, .ref a_h_cl, .int h_rows, .int h_columns, .long h_divisor])), (a_b_tg, .inl (c_b_tg, 17, .inr (.inl b_tg))), (a_b_sr, .inl (c_b_sr, 17, .inr (.inl b_sr)))] sz)) 0 0 (va_A [(a_h, .inr (7, [.ref a_h_t, .ref a_h_rl, .ref a_h_cl, .int h_rows, .int h_columns, .long h_divisor])), (a_b_tg, .inl (c_b_tg, 17, .inr (.inl b_tg))), (a_b_sr, .inl (c_b_sr, 17, .inr (.inl b_sr)))] sz) := by
  refine Met.ofW (cc := cX7_clearFromRow) (maxL := 9) (ret := none) (by decide) rfl ?_
  intro p e s m args below meth c s₁ B hml hv
  obtain ⟨rfl, hsz, hP, hK, hD0, hN⟩ := hv
  have hx := B.exec
  have hb := B.bytes
  have hr := B.returns
  have hts := atoms_spec (ws := wsX7_clearFromRow) B.pre
  have hown : s.vm.findClass RX7 = some m.cls := findClass_of_methodNamed B.named
  have hlocks := B.notSynchronized
  subst hsz
  have hD := hD0.self (sz := s.heap.size)
  generalize hAe : va_A [(a_h, .inr (7, [.ref a_h_t, .ref a_h_rl, .ref a_h_cl, .int h_rows, .int h_columns, .long h_divisor])), (a_b_tg, .inl (c_b_tg, 17, .inr (.inl b_tg))), (a_b_sr, .inl (c_b_sr, 17, .inr (.inl b_sr)))] s.heap.size = A at hD hN ⊢
  have hA : ∀ q : Nat, s.heap.size ≤ q → A q := fun q h => by rw [← hAe]; exact Or.inr h
  have hS : va_S A s.heap s.heap [] := va_S.rf
  have hP : va_P (dC, dI) vwCl [(a_h, .inr (7, [.ref a_h_t, .ref a_h_rl, .ref a_h_cl, .int h_rows, .int h_columns, .long h_divisor])), (a_b_tg, .inl (c_b_tg, 17, .inr (.inl b_tg))), (a_b_sr, .inl (c_b_sr, 17, .inr (.inl b_sr)))] s.heap := hP
  have hl := lv_entry ([.ref a_h, .ref a_b_tg, .ref a_b_sr, .int p3, .long p4]) (n := 9) (Nat.le_of_ble_eq_true rfl)
  rw [lg_entry_eq]
  generalize (lg_sl ([.ref a_h, .ref a_b_tg, .ref a_b_sr, .int p3, .long p4]) ++ List.replicate (9 - (lg_sl ([.ref a_h, .ref a_b_tg, .ref a_b_sr, .int p3, .long p4])).length) Slot.unset).toArray = ls at hl ⊢
  have hl : lv_has ls 9 [(0, .ref a_h), (1, .ref a_b_tg), (2, .ref a_b_sr), (3, .int p3), (4, .long p4)] := hl
  have hiX7 : ∀ w ∈ wsX70, w ∈ wsX7_clearFromRow := fun _ h => List.mem_cons_of_mem _ (List.mem_append_right _ h)
  have hf27 := hts (.fieldLink RX7 27 "MeetSets$Shares" "columns" "I") (t1_ (al_ h1_))
  have hf30 := hts (.fieldLink RX7 30 "MeetSets$Shares" "divisor" "J") (t1_ (al_ (t1_ h1_)))
  refine w_abs (fun Z hZv hZw => ?_)
  refine hZv ?_
  obtain ⟨H, hH⟩ : ∃ H, H = s.heap := ⟨_, rfl⟩
  obtain ⟨locs, hlo⟩ : ∃ L : List Loc, L = [] := ⟨_, rfl⟩
  rw [← hlo, ← hH]
  have hS : va_S A s.heap H locs := by rw [hlo, hH]; exact hS
  have hP : va_P (dC, dI) vwCl [(a_h, .inr (7, [.ref a_h_t, .ref a_h_rl, .ref a_h_cl, .int h_rows, .int h_columns, .long h_divisor])), (a_b_tg, .inl (c_b_tg, 17, .inr (.inl b_tg))), (a_b_sr, .inl (c_b_sr, 17, .inr (.inl b_sr)))] H := by rw [hH]; exact hP
  clear hH hlo
  unfold pX7_clearFromRow at hs
  refine lv_aload_n hx hb dX7_clearFromRow_0 rfl (lv_at hl 1 rfl) ?_
  refine lv_iload_n hx hb dX7_clearFromRow_1 rfl (lv_at hl 3 rfl) ?_
  obtain ⟨hg1, hs⟩ := gd_s hs
  refine va_lald hx hb hK hP 1 0 rfl rfl hg1 dX7_clearFromRow_2 ?_
  refine lv_lstore (lv' := [(6, .long (b_tg p3.toNatClampNeg)), (0, .ref a_h), (1, .ref a_b_tg), (2, .ref a_b_sr), (3, .int p3), (4, .long p4)]) hx hb dX7_clearFromRow_3 hl (by decide) rfl (fun ls hl => ?_)
  refine lv_iconst (v := 0) hx hb dX7_clearFromRow_5 (by decide) ?_
  refine lv_istore (lv' := [(8, .int 0), (6, .long (b_tg p3.toNatClampNeg)), (0, .ref a_h), (1, .ref a_b_tg), (2, .ref a_b_sr), (3, .int p3), (4, .long p4)]) hx hb dX7_clearFromRow_6 hl (by decide) rfl (fun ls hl => ?_)
  obtain ⟨e8, he8, hs⟩ := bd_s hs
  have hX8 : ∀ (H : Heap) (locs : List Loc) (ls : Array Slot), va_P (dC, dI) vwCl [(a_h, .inr (7, [.ref a_h_t, .ref a_h_rl, .ref a_h_cl, .int h_rows, .int h_columns, .long h_divisor])), (a_b_tg, .inl (c_b_tg, 17, .inr (.inl e8))), (a_b_sr, .inl (c_b_sr, 17, .inr (.inl b_sr)))] H → va_D A [(a_h, .inr (7, [.ref a_h_t, .ref a_h_rl, .ref a_h_cl, .int h_rows, .int h_columns, .long h_divisor])), (a_b_tg, .inl (c_b_tg, 17, .inr (.inl e8))), (a_b_sr, .inl (c_b_sr, 17, .inr (.inl b_sr)))] → va_S A s.heap H locs → lv_has ls 9 [(1, .ref a_b_tg), (3, .int p3), (6, .long (b_tg p3.toNatClampNeg))] → Z H locs 0 0 (F0 m 53 ls []) := by
    intro H locs ls hP hD hS hl
    refine hZv ?_
    refine lv_aload_n hx hb dX7_clearFromRow_53 rfl (lv_at hl 0 rfl) ?_
    refine lv_iload_n hx hb dX7_clearFromRow_54 rfl (lv_at hl 1 rfl) ?_
    refine lv_lload hx hb dX7_clearFromRow_55 (lv_at hl 2 rfl) ?_
    refine lv_lneg hx hb dX7_clearFromRow_57 ?_
    obtain ⟨hg7, hs⟩ := gd_s hs
    refine va_last hx hb hK hP hD hS 1 0 rfl rfl hg7 dX7_clearFromRow_58 (fun H locs hP hD hS => ?_)
    have hP : va_P (dC, dI) vwCl [(a_h, .inr (7, [.ref a_h_t, .ref a_h_rl, .ref a_h_cl, .int h_rows, .int h_columns, .long h_divisor])), (a_b_tg, .inl (c_b_tg, 17, .inr (.inl (vp_updL e8 p3.toNatClampNeg (-(b_tg p3.toNatClampNeg)))))), (a_b_sr, .inl (c_b_sr, 17, .inr (.inl b_sr)))] H := hP
    have hD : va_D A [(a_h, .inr (7, [.ref a_h_t, .ref a_h_rl, .ref a_h_cl, .int h_rows, .int h_columns, .long h_divisor])), (a_b_tg, .inl (c_b_tg, 17, .inr (.inl (vp_updL e8 p3.toNatClampNeg (-(b_tg p3.toNatClampNeg)))))), (a_b_sr, .inl (c_b_sr, 17, .inr (.inl b_sr)))] := hD
    replace hs := Option.some.inj hs
    subst hs
    exact W.vret hx hb hr (fun t ht hW => ⟨⟨(), rfl, trivial, by rw [ht]; exact hP, va_K.moved hW.alike hK, hD⟩, hS.F ht⟩) hS.2.2 dX7_clearFromRow_59
  clear hs
  have hL8 : ∀ (n : Nat) (s8 : Int32 × (Nat → Int64)) (H : Heap) (locs : List Loc) (ls : Array Slot), itr (pX7_clearFromRow_L8 h_columns h_divisor b_tg b_sr p3 p4) n s8 = some e8 → va_P (dC, dI) vwCl [(a_h, .inr (7, [.ref a_h_t, .ref a_h_rl, .ref a_h_cl, .int h_rows, .int h_columns, .long h_divisor])), (a_b_tg, .inl (c_b_tg, 17, .inr (.inl s8.2))), (a_b_sr, .inl (c_b_sr, 17, .inr (.inl b_sr)))] H → va_D A [(a_h, .inr (7, [.ref a_h_t, .ref a_h_rl, .ref a_h_cl, .int h_rows, .int h_columns, .long h_divisor])), (a_b_tg, .inl (c_b_tg, 17, .inr (.inl s8.2))), (a_b_sr, .inl (c_b_sr, 17, .inr (.inl b_sr)))] → va_S A s.heap H locs → lv_has ls 9 [(0, .ref a_h), (1, .ref a_b_tg), (2, .ref a_b_sr), (3, .int p3), (4, .long p4), (6, .long (b_tg p3.toNatClampNeg)), (8, .int s8.1)] → Z H locs 0 0 (F0 m 8 ls []) := by
    intro n
    induction n with
    | zero =>
      intro s8 H locs ls hn
      exact (itr_0 hn).elim
    | succ n ih =>
      intro s8 H locs ls hn hP hD hS hl
      obtain ⟨y2, hs, hn⟩ := itr_s hn
      unfold pX7_clearFromRow_L8 at hs
      refine hZv ?_
      refine lv_iload hx hb dX7_clearFromRow_8 (lv_at hl 6 rfl) ?_
      refine lv_aload_n hx hb dX7_clearFromRow_10 rfl (lv_at hl 0 rfl) ?_
      refine va_get (D := (dC, dI)) (ci := 7) (v := .int h_columns) (C := RX7) (T := TX7) (N := 6) hx hb hts hiX7 hown hK hP 0 rfl rfl 4 (by decide) hf27 (fun _ h9 => h9) rfl dX7_clearFromRow_11 ?_
      refine lv_icmp_gt (tgt := 53) hx hb dX7_clearFromRow_14 (by decide) (fun hc => ?_) (fun hc => ?_)
      · replace hs := it_t hc hs
        replace hs := Option.some.inj hs
        subst hs
        obtain rfl : s8.2 = e8 := hn
        exact hZw (hX8 H locs ls hP hD hS (lv_sub hl [1, 3, 5] rfl))
      · replace hs := it_f hc hs
        refine lv_iload hx hb dX7_clearFromRow_17 (lv_at hl 6 rfl) ?_
        refine lv_iload_n hx hb dX7_clearFromRow_19 rfl (lv_at hl 3 rfl) ?_
        refine lv_icmp_eq (tgt := 47) hx hb dX7_clearFromRow_20 (by decide) (fun hc => ?_) (fun hc => ?_)
        · replace hs := it_t hc hs
          refine lv_iinc (v := s8.1 + 1) (lv' := [(8, .int (s8.1 + 1)), (0, .ref a_h), (1, .ref a_b_tg), (2, .ref a_b_sr), (3, .int p3), (4, .long p4), (6, .long (b_tg p3.toNatClampNeg))]) hx hb dX7_clearFromRow_47 hl (k := 6) rfl (by rfl) (by decide) rfl (fun ls hl => ?_)
          refine lv_goto (tgt := 8) hx hb dX7_clearFromRow_50 (by decide) ?_
          replace hs := Option.some.inj hs
          subst hs
          exact hZw (ih (s8.1 + 1, s8.2) H locs ls hn hP hD hS (lv_sub hl [1, 2, 3, 4, 5, 6, 0] rfl))
        · replace hs := it_f hc hs
          refine lv_aload_n hx hb dX7_clearFromRow_23 rfl (lv_at hl 1 rfl) ?_
          refine lv_iload hx hb dX7_clearFromRow_24 (lv_at hl 6 rfl) ?_
          refine lv_aload_n hx hb dX7_clearFromRow_26 rfl (lv_at hl 1 rfl) ?_
          refine lv_iload hx hb dX7_clearFromRow_27 (lv_at hl 6 rfl) ?_
          obtain ⟨hg3, hs⟩ := gd_s hs
          refine va_lald hx hb hK hP 1 0 rfl rfl hg3 dX7_clearFromRow_29 ?_
          refine lv_lload hx hb dX7_clearFromRow_30 (lv_at hl 4 rfl) ?_
          refine lv_lmul hx hb dX7_clearFromRow_32 ?_
          refine lv_lload hx hb dX7_clearFromRow_33 (lv_at hl 5 rfl) ?_
          refine lv_aload_n hx hb dX7_clearFromRow_35 rfl (lv_at hl 2 rfl) ?_
          refine lv_iload hx hb dX7_clearFromRow_36 (lv_at hl 6 rfl) ?_
          obtain ⟨hg4, hs⟩ := gd_s hs
          refine va_lald hx hb hK hP 2 1 rfl rfl hg4 dX7_clearFromRow_38 ?_
          refine lv_lmul hx hb dX7_clearFromRow_39 ?_
          refine lv_lsub hx hb dX7_clearFromRow_40 ?_
          refine lv_aload_n hx hb dX7_clearFromRow_41 rfl (lv_at hl 0 rfl) ?_
          refine va_get (D := (dC, dI)) (ci := 7) (v := .long h_divisor) (C := RX7) (T := TX7) (N := 6) hx hb hts hiX7 hown hK hP 0 rfl rfl 5 (by decide) hf30 (fun _ h9 => h9) rfl dX7_clearFromRow_42 ?_
          obtain ⟨hz5, hs⟩ := gd_s hs
          refine lv_ldiv hx hb dX7_clearFromRow_45 hz5 ?_
          obtain ⟨hg6, hs⟩ := gd_s hs
          refine va_last hx hb hK hP hD hS 1 0 rfl rfl hg6 dX7_clearFromRow_46 (fun H locs hP hD hS => ?_)
          have hP : va_P (dC, dI) vwCl [(a_h, .inr (7, [.ref a_h_t, .ref a_h_rl, .ref a_h_cl, .int h_rows, .int h_columns, .long h_divisor])), (a_b_tg, .inl (c_b_tg, 17, .inr (.inl (vp_updL s8.2 s8.1.toNatClampNeg ((((s8.2 s8.1.toNatClampNeg) * p4) - ((b_tg p3.toNatClampNeg) * (b_sr s8.1.toNatClampNeg))) / h_divisor))))), (a_b_sr, .inl (c_b_sr, 17, .inr (.inl b_sr)))] H := hP
          have hD : va_D A [(a_h, .inr (7, [.ref a_h_t, .ref a_h_rl, .ref a_h_cl, .int h_rows, .int h_columns, .long h_divisor])), (a_b_tg, .inl (c_b_tg, 17, .inr (.inl (vp_updL s8.2 s8.1.toNatClampNeg ((((s8.2 s8.1.toNatClampNeg) * p4) - ((b_tg p3.toNatClampNeg) * (b_sr s8.1.toNatClampNeg))) / h_divisor))))), (a_b_sr, .inl (c_b_sr, 17, .inr (.inl b_sr)))] := hD
          refine lv_iinc (v := s8.1 + 1) (lv' := [(8, .int (s8.1 + 1)), (0, .ref a_h), (1, .ref a_b_tg), (2, .ref a_b_sr), (3, .int p3), (4, .long p4), (6, .long (b_tg p3.toNatClampNeg))]) hx hb dX7_clearFromRow_47 hl (k := 6) rfl (by rfl) (by decide) rfl (fun ls hl => ?_)
          refine lv_goto (tgt := 8) hx hb dX7_clearFromRow_50 (by decide) ?_
          replace hs := Option.some.inj hs
          subst hs
          exact hZw (ih (s8.1 + 1, vp_updL s8.2 s8.1.toNatClampNeg ((((s8.2 s8.1.toNatClampNeg) * p4) - ((b_tg p3.toNatClampNeg) * (b_sr s8.1.toNatClampNeg))) / h_divisor)) H locs ls hn hP hD hS (lv_sub hl [1, 2, 3, 4, 5, 6, 0] rfl))
  obtain ⟨n8, hn8⟩ := lp_ex he8
  exact hZw (hL8 n8 (0, b_tg) H locs ls hn8 hP hD hS (lv_sub hl [2, 3, 4, 5, 6, 1, 0] rfl))
