/-! questions: the class -/
theorem c_least {m : Nat} (hm : m ≤ 16) : ∃ L, pX0_leastThinkable (nI m) = some (nI L) ∧ ∀ q, m ≤ 2 ^ q → L ≤ q := by
  have h := lp_first (step := pX0_leastThinkable_L4 (nI m)) (fun i => (nI i, nI (2 ^ i))) (fun i => decide (m ≤ 2 ^ i)) (fun i => nI i) (nI 5) 5 (fun i hi => by
    unfold pX0_leastThinkable_L4
    dsimp only
    have := Nat.pow_le_pow_right (n := 2) (by omega) (show i ≤ 5 by omega)
    have h32 : (2 : Nat) ^ 5 = 32 := rfl
    have e : nI (2 ^ i) * 2 = nI (2 ^ (i + 1)) := by
      show nI (2 ^ i) * nI 2 = _
      rw [pk_mul, Nat.pow_succ]
    by_cases q : m ≤ 2 ^ i
    · rw [if_pos (nI_le q (by omega)), decide_eq_true q]; rfl
    · rw [if_neg (nI_ge (by omega) (by omega)), decide_eq_false q, e, nI_1]; rfl) (by
    unfold pX0_leastThinkable_L4
    dsimp only
    rw [if_pos (nI_le (show m ≤ 2 ^ 5 by have h32 : (2 : Nat) ^ 5 = 32 := rfl; omega) (by decide))])
  have h : lp (pX0_leastThinkable_L4 (nI m)) (0, 1) = _ := h
  unfold pX0_leastThinkable
  cases hf : fst (fun i => decide (m ≤ 2 ^ i)) 5 with
  | none =>
    have := fst_none.mp hf 4 (by omega)
    have h16 : (2 : Nat) ^ 4 = 16 := rfl
    simp only [decide_eq_false_iff_not] at this
    omega
  | some i =>
    rw [hf] at h
    obtain ⟨h1, h2, h3⟩ := fst_some hf
    refine ⟨i, by rw [h]; rfl, fun q hq => ?_⟩
    rcases Nat.lt_or_ge q i with c | c
    · have := h3 q c
      simp only [decide_eq_false_iff_not] at this
      omega
    · exact c
def MI (S : Nat → Nat) (k n : Nat) (w : Nat → Int32) : Prop := ∀ x, x < 4096 → w x = 0 ∨ w x = nI (Qv S k n x)
theorem c_spl {S : Nat → Nat} {k e lot : Nat} {hav : Nat → Int32} (hk : k ≤ 12) (he : e < 10) (hh : hav e = nI (hv S k e)) (hl : lot < 4096) : pX0_splits hav (nI e) (nI lot) = some (bI (spl S k e lot)) := by
  have l1 := yes_le (S := S) (k := k) (e := e) (lot := lot)
  unfold pX0_splits spl
  rw [gd_t (vp_in_nI he (by omega)), nI_clamp (by omega), hh, tI_and]
  show (if nI (yesL S k e lot) = 0 then _ else (if nI (yesL S k e lot) = nI lot then _ else _)) = _
  by_cases q : yesL S k e lot = 0
  · rw [if_pos (by rw [q]; rfl), q]; rfl
  · rw [if_neg (by rw [tI_0, nI_eq (by omega) (by omega)]; exact q)]
    by_cases q2 : yesL S k e lot = lot
    · rw [if_pos (by rw [q2]), q2]; simp [bI]
    · rw [if_neg (by rw [nI_eq (by omega) (by omega)]; exact q2)]; simp [q, q2, bI]
theorem nI_max {a b : Nat} (ha : a < 2 ^ 31) (hb : b < 2 ^ 31) : (if nI a < nI b then nI b else nI a) = nI (max a b) := by
  by_cases q : a < b
  · rw [if_pos (nI_lt q hb), Nat.max_eq_right (by omega)]
  · rw [if_neg (nI_nlt (by omega) ha), Nat.max_eq_left (by omega)]
theorem nI_min {a b : Nat} (ha : a < 2 ^ 31) (hb : b < 2 ^ 31) : (if nI b < nI a then nI b else nI a) = nI (min a b) := by
  by_cases q : b < a
  · rw [if_pos (nI_lt q ha), Nat.min_eq_right (by omega)]
  · rw [if_neg (nI_nlt (by omega) hb), Nat.min_eq_left (by omega)]
theorem Qv_le {S : Nat → Nat} {k n lot : Nat} : Qv S k n lot ≤ 100 := by
  unfold Qv
  rw [qf]
  split
  · omega
  · exact mnf_c
set_option maxHeartbeats 1000000 in
theorem c_few {S : Nat → Nat} {k n : Nat} {hav : Nat → Int32} (hk : k ≤ 12) (hn2 : n ≤ 10) (hS : ∀ i, i < k → S i < 2 ^ n) (hd : ∀ i j, i < j → j < k → S i ≠ S j) (hh : ∀ e, e < n → hav e = nI (hv S k e)) : ∀ (d lot dep : Nat) (w : Nat → Int32), pop lot < d → pop lot ≤ dep → dep ≤ 12 → lot < 2 ^ k → MI S k n w → ∃ w', pX0_fewestFor d (nI n) hav w (nI lot) (nI dep) = some (nI (Qv S k n lot), w') ∧ MI S k n w' := by
  have h12 : 2 ^ k ≤ 4096 := by
    have := Nat.pow_le_pow_right (n := 2) (by omega) hk
    simpa using this
  intro d
  induction d with
  | zero => intro lot dep w h; omega
  | succ d ih =>
    intro lot dep w hpd hdep hdep2 hl hw
    show ∃ w', pX0_fewestFor_B (pX0_fewestBy_B (pX0_fewestFor d)) (nI n) hav w (nI lot) (nI dep) = _ ∧ _
    have hp16 := pop_le lot
    unfold pX0_fewestFor_B
    rw [bc_eq (by omega), Option.bind_some]
    by_cases q : pop lot ≤ 1
    · rw [if_pos (by show _ ≤ nI 1; exact nI_le q (by omega)), Qv_1 q]
      exact ⟨w, rfl, hw⟩
    · rw [if_neg (by show ¬ _ ≤ nI 1; exact nI_ge (by omega) (by omega)), if_pos (by show nI 0 < _; exact nI_lt (by omega) (by omega)), gd_t (vp_in_nI (show lot < 4096 by omega) (by omega)), nI_clamp (by omega)]
      by_cases q2 : w lot = 0
      · rw [if_pos q2]
        obtain ⟨L, hL1, hL2⟩ := c_least hp16
        have hQ := Qv_eq (S := S) (k := k) (n := n) (show lot < 65536 by omega) q
        have hup := Qv_up (by omega) hS hd (pop lot) lot (Nat.le_refl _) hl
        have hlo := hL2 _ (Qv_lo (by omega) hS hd (pop lot) lot (Nat.le_refl _) hl)
        have hst : mnf (pop lot) (FvQ S k n lot) n = Qv S k n lot := by rw [hQ]; exact mnf_start (by omega) (by omega)
        rw [hL1, Option.bind_some]
        obtain ⟨r, hr1, w', hr2, hr3⟩ := lp_for (step := pX0_fewestFor_L44 (nI n) hav (nI lot) (nI dep) (pX0_fewestBy_B (pX0_fewestFor d)) (nI L)) n (fun e s => ∃ w1, s = (nI (mnf (pop lot) (FvQ S k n lot) e), nI e, w1) ∧ MI S k n w1) (fun r => ∃ w1, r = (nI (Qv S k n lot), w1) ∧ MI S k n w1) (fun e s he hI => by
          obtain ⟨w1, rfl, hw1⟩ := hI
          have hmc := mnf_c (c := pop lot) (F := FvQ S k n lot) (n := e)
          unfold pX0_fewestFor_L44
          dsimp only
          rw [if_neg (nI_ge he (by omega))]
          by_cases q3 : mnf (pop lot) (FvQ S k n lot) e ≤ L
          · right
            rw [if_pos (nI_le q3 (by omega))]
            have := mnf_le (c := pop lot) (F := FvQ S k n lot) (show e ≤ n by omega)
            refine ⟨_, rfl, w1, ?_, hw1⟩
            rw [show mnf (pop lot) (FvQ S k n lot) e = Qv S k n lot by omega]
          · left
            rw [if_neg (nI_ge (by omega) (by omega)), c_spl hk (by omega) (hh e he) (by omega), Option.bind_some, if_bI, nI_1]
            cases hs : spl S k e lot with
            | false =>
              rw [if_neg (by decide)]
              refine ⟨_, rfl, w1, ?_, hw1⟩
              rw [mnf]
              have hF : FvQ S k n lot e = 100 := by unfold FvQ; rw [hs]; rfl
              rw [hF, Nat.min_eq_left (by omega)]
            | true =>
              rw [if_pos rfl]
              obtain ⟨p1, p2, -, -⟩ := spl_pop (show lot < 65536 by omega) hs
              have pp := pop_parts (S := S) (k := k) (e := e) (lot := lot)
              have l1 := yes_le (S := S) (k := k) (e := e) (lot := lot)
              have l2 := no_le (S := S) (k := k) (e := e) (lot := lot)
              have hq1 := Qv_le (S := S) (k := k) (n := n) (lot := yesL S k e lot)
              have hq2 := Qv_le (S := S) (k := k) (n := n) (lot := noL S k e lot)
              obtain ⟨w2, c1, c2⟩ := ih (yesL S k e lot) (dep - 1) w1 (by omega) (by omega) (by omega) (by omega) hw1
              obtain ⟨w3, c3, c4⟩ := ih (noL S k e lot) (dep - 1) w2 (by omega) (by omega) (by omega) (by omega) c2
              have hF : FvQ S k n lot e = 1 + max (Qv S k n (yesL S k e lot)) (Qv S k n (noL S k e lot)) := by unfold FvQ; rw [hs]; rfl
              have hB : pX0_fewestBy_B (pX0_fewestFor d) (nI n) hav w1 (nI e) (nI lot) (nI dep) = some (nI (FvQ S k n lot e), w3) := by
                unfold pX0_fewestBy_B
                rw [gd_t (vp_in_nI (show e < 10 by omega) (by omega)), nI_clamp (by omega), hh e he, tI_and, tI_andn, tI_1, pk_sub (by omega)]
                show Option.bind (pX0_fewestFor d (nI n) hav w1 (nI (yesL S k e lot)) (nI (dep - 1))) _ = _
                rw [c1, Option.bind_some, gd_t (vp_in_nI (show e < 10 by omega) (by omega))]
                show Option.bind (pX0_fewestFor d (nI n) hav w2 (nI (noL S k e lot)) (nI (dep - 1))) _ = _
                rw [c3, Option.bind_some]
                dsimp only
                rw [nI_max (by omega) (by omega), nI_add, hF]
              rw [hB, Option.bind_some]
              dsimp only
              rw [nI_min (by omega) (by rw [hF]; omega)]
              exact ⟨_, rfl, w3, rfl, c4⟩) (fun s hI => by
          obtain ⟨w1, rfl, hw1⟩ := hI
          unfold pX0_fewestFor_L44
          dsimp only
          rw [if_pos (nI_le (Nat.le_refl n) (by omega)), hst]
          exact ⟨_, rfl, w1, rfl, hw1⟩) n 0 (nI (pop lot), 0, w) (by omega) ⟨w, rfl, hw⟩
        rw [hr1, hr2, Option.bind_some, gd_t (vp_in_nI (show lot < 4096 by omega) (by omega))]
        refine ⟨_, rfl, fun x hx => ?_⟩
        by_cases c : x = lot
        · subst c; right; exact u_s
        · rw [u_n c]; exact hr3 x hx
      · rw [if_neg q2, gd_t (vp_in_nI (show lot < 4096 by omega) (by omega))]
        rcases hw lot (by omega) with c | c
        · exact absurd c q2
        · exact ⟨w, by rw [c], hw⟩
theorem c_having {S : Nat → Nat} {k n : Nat} {rows : Nat → Int32} (hk : k ≤ 16) (hn2 : n ≤ 10) (hR : ∀ i, i < k → rows i = nI (S i) ∧ S i < 2 ^ n) (z : Nat → Int32) : ∃ z', lp (pX0_prepare_L10 16 (nI k) (nI n) rows) (0, z) = some z' ∧ ∀ e, e < n → z' e = nI (hv S k e) := by
  have hp := tI_p hn2
  refine lp_for (step := pX0_prepare_L10 16 (nI k) (nI n) rows) n (fun e s => ∃ z1, s = (nI e, z1) ∧ ∀ e', e' < e → z1 e' = nI (hv S k e')) (fun z' => ∀ e, e < n → z' e = nI (hv S k e)) (fun e s he hI => ?_) (fun s hI => ?_) n 0 (0, z) (by omega) ⟨z, rfl, fun e' h => absurd h (Nat.not_lt_zero e')⟩
  · obtain ⟨z1, rfl, hz1⟩ := hI
    left
    have hin := lp_det (step := pX0_prepare_L30_4 16 (nI k) rows (nI e, z1)) (fun i => (nI i, upd z1 e (nI (mk (fun i => (S i).testBit e) i)))) (upd z1 e (nI (hv S k e))) k (fun i hi => by
      unfold pX0_prepare_L30_4
      dsimp only
      have hs := hR i hi
      rw [if_neg (nI_ge hi (by omega)), gd_t (vp_in_nI (show e < 10 by omega) (by omega)), gd_t (vp_in_nI (show i < 16 by omega) (by omega)), nI_clamp (show i < 2 ^ 31 by omega), nI_clamp (show e < 2 ^ 31 by omega), hs.1, has_eq (by omega) (by omega), Option.bind_some, if_bI, tI_shl (by omega), nI_1, u_s]
      have eu : ∀ a b : Int32, upd (upd z1 e a) e b = upd z1 e b := fun a b => by
        funext j
        by_cases c : j = e
        · subst c; rw [u_s, u_s]
        · rw [u_n c, u_n c, u_n c]
      have em : mk (fun i => (S i).testBit e) (i + 1) = mk (fun i => (S i).testBit e) i ||| (if (S i).testBit e then 2 ^ i else 0) := by
        apply Nat.eq_of_testBit_eq
        intro j
        rw [Nat.testBit_or, mk_bit, mk_bit]
        by_cases c : i = j
        · subst c
          cases hb : (S i).testBit e <;> simp [Nat.testBit_two_pow]
        · have : decide (j < i + 1) = decide (j < i) := by
            by_cases c2 : j < i
            · rw [decide_eq_true c2, decide_eq_true (by omega)]
            · rw [decide_eq_false c2, decide_eq_false (by omega)]
          rw [this]
          cases hb : (S i).testBit e <;> simp [Nat.testBit_two_pow, c]
      rw [em]
      cases hb : (S i).testBit e with
      | false =>
        rw [if_neg (by decide), Option.bind_some, gd_t (vp_in_nI (show e < 10 by omega) (by omega)), tI_0, tI_or, eu]
        rfl
      | true =>
        rw [if_pos rfl, Option.bind_some, gd_t (vp_in_nI (show e < 10 by omega) (by omega)), tI_or, eu]
        rfl) (by
      unfold pX0_prepare_L30_4
      dsimp only
      rw [if_pos (nI_le (Nat.le_refl k) (by omega))]
      rfl)
    have hin : lp (pX0_prepare_L30_4 16 (nI k) rows (nI e, z1)) (0, upd z1 e 0) = _ := hin
    refine ⟨(nI (e + 1), upd z1 e (nI (hv S k e))), ?_, _, rfl, fun e' h => ?_⟩
    · unfold pX0_prepare_L10
      dsimp only
      rw [if_neg (nI_ge he (by omega)), gd_t (vp_in_nI (show e < 10 by omega) (by omega)), nI_clamp (by omega), hin, Option.bind_some, nI_1]
    · by_cases c : e' = e
      · subst c; exact u_s
      · rw [u_n c]; exact hz1 e' (by omega)
  · obtain ⟨z1, rfl, hz1⟩ := hI
    unfold pX0_prepare_L10
    dsimp only
    rw [if_pos (nI_le (Nat.le_refl n) (by omega))]
    exact ⟨_, rfl, hz1⟩
/-! questions: the reference -/
theorem y_with {n k some e : Nat} {S : Nat → Nat} {ls : Nat → Int32} (h : YN n k S ls) (he : e < 10) (hs : some < 2 ^ k) : lp (pX10_asked_L5 (nI k) ls (nI some) (nI e)) (0, 0) = .some (nI (yesL S k e some)) := by
  obtain ⟨hn1, hn2, hk, h4⟩ := h
  have hp := tI_p hn2
  have h16 : 2 ^ k ≤ 65536 := by
    have := Nat.pow_le_pow_right (n := 2) (by omega) hk
    simpa using this
  have hd := lp_det (step := pX10_asked_L5 (nI k) ls (nI some) (nI e)) (fun i => (nI (mk (fun i => some.testBit i && (S i).testBit e) i), nI i)) (nI (yesL S k e some)) k (fun i hi => by
    unfold pX10_asked_L5 pX10_asked_J47_2
    dsimp only
    have hls := (h4 i hi).2
    have em : mk (fun i => some.testBit i && (S i).testBit e) (i + 1) = mk (fun i => some.testBit i && (S i).testBit e) i ||| (if (some.testBit i && (S i).testBit e) then 2 ^ i else 0) := by
      apply Nat.eq_of_testBit_eq
      intro j
      rw [Nat.testBit_or, mk_bit, mk_bit]
      by_cases c : i = j
      · subst c
        cases hb : some.testBit i && (S i).testBit e <;> simp [Nat.testBit_two_pow]
      · have : decide (j < i + 1) = decide (j < i) := by
          by_cases c2 : j < i
          · rw [decide_eq_true c2, decide_eq_true (by omega)]
          · rw [decide_eq_false c2, decide_eq_false (by omega)]
        rw [this]
        cases hb : some.testBit i && (S i).testBit e <;> simp [Nat.testBit_two_pow, c]
    rw [if_neg (nI_ge hi (by omega)), nI_1, em, tI_shl (by omega)]
    cases hb : some.testBit i with
    | false =>
      rw [if_neg (by rw [tI_bit1 (by omega) (by omega), hb]; decide), Option.bind_some, tI_0, tI_or]
      rfl
    | true =>
      rw [if_pos (by rw [tI_bit1 (by omega) (by omega), hb]), gd_t (vp_in_nI (show i < 16 by omega) (by omega)), nI_clamp (show i < 2 ^ 31 by omega), (h4 i hi).1]
      cases hb2 : (S i).testBit e with
      | false =>
        rw [if_neg (by rw [tI_bit1 (by omega) (by omega), hb2]; decide), Option.bind_some, tI_0, tI_or]
        rfl
      | true =>
        rw [if_pos (by rw [tI_bit1 (by omega) (by omega), hb2]), Option.bind_some, tI_or]
        rfl) (by
    unfold pX10_asked_L5
    dsimp only
    rw [if_pos (nI_le (Nat.le_refl k) (by omega))]
    congr 3
    apply Nat.eq_of_testBit_eq
    intro j
    rw [mk_bit, yes_bit, hv_bit]
    cases some.testBit j <;> cases decide (j < k) <;> rfl)
  exact hd
theorem y_asked {n k some e : Nat} {S : Nat → Nat} {ls w : Nat → Int32} (h : YN n k S ls) (hk : k ≤ 12) (he : e < 10) (hs : some < 2 ^ k) (hw : ∀ x, 1 ≤ x → x < some → w x = nI (Qv S k n x)) : pX10_asked (nI k) ls w (nI some) (nI e) = .some (nI (FvQ S k n some e)) := by
  have h12 : 2 ^ k ≤ 4096 := by
    have := Nat.pow_le_pow_right (n := 2) (by omega) hk
    simpa using this
  have l1 := yes_le (S := S) (k := k) (e := e) (lot := some)
  have l2 := no_le (S := S) (k := k) (e := e) (lot := some)
  have hxor : some ^^^ yesL S k e some = noL S k e some := rfl
  unfold pX10_asked
  rw [y_with h he hs, Option.bind_some, tI_xor, hxor]
  cases hsp : spl S k e some with
  | false =>
    have hF : FvQ S k n some e = 100 := by unfold FvQ; rw [hsp]; rfl
    rw [hF]
    unfold spl at hsp
    rw [Bool.and_eq_false_iff, bne_eq_false_iff_eq, bne_eq_false_iff_eq] at hsp
    by_cases q : yesL S k e some = 0
    · rw [if_pos (by rw [q]; rfl)]; rfl
    · rw [if_neg (by rw [tI_0, nI_eq (by omega) (by omega)]; exact q)]
      have q2 : yesL S k e some = some := hsp.resolve_left q
      rw [if_pos (by rw [← hxor, q2, Nat.xor_self]; rfl)]; rfl
  | true =>
    obtain ⟨p1, p2, z1, z2⟩ := spl_pop (show some < 65536 by omega) hsp
    have hF : FvQ S k n some e = 1 + max (Qv S k n (yesL S k e some)) (Qv S k n (noL S k e some)) := by unfold FvQ; rw [hsp]; rfl
    have n1 : yesL S k e some ≠ some := by
      intro c
      apply z2
      rw [← hxor, c, Nat.xor_self]
    have n2 : noL S k e some ≠ some := by
      intro c
      apply z1
      have := congrArg (fun z => some ^^^ z) c
      simp only [Nat.xor_self] at this
      rw [← hxor, ← Nat.xor_assoc, Nat.xor_self, Nat.zero_xor] at this
      exact this
    have hq1 := Qv_le (S := S) (k := k) (n := n) (lot := yesL S k e some)
    have hq2 := Qv_le (S := S) (k := k) (n := n) (lot := noL S k e some)
    rw [if_neg (by rw [tI_0, nI_eq (by omega) (by omega)]; exact z1), if_neg (by rw [tI_0, nI_eq (by omega) (by omega)]; exact z2), gd_t (vp_in_nI (show yesL S k e some < 4096 by omega) (by omega)), gd_t (vp_in_nI (show noL S k e some < 4096 by omega) (by omega)), nI_clamp (by omega), nI_clamp (by omega), hw _ (by omega) (by omega), hw _ (by omega) (by omega), hF]
    by_cases q : Qv S k n (yesL S k e some) ≤ Qv S k n (noL S k e some)
    · rw [if_pos (nI_le q (by omega)), gd_t (vp_in_nI (show noL S k e some < 4096 by omega) (by omega)), Nat.max_eq_right q, tI_1, nI_add]
    · rw [if_neg (nI_ge (by omega) (by omega)), gd_t (vp_in_nI (show yesL S k e some < 4096 by omega) (by omega)), Nat.max_eq_left (by omega), tI_1, nI_add]
theorem p1_all : (List.range 4096).all (fun x => decide (x = 0 ∨ ((x &&& (x - 1) = 0) ↔ pop x ≤ 1))) = true := by decide +kernel
theorem p1_eq {x : Nat} (h : x < 4096) (h1 : 1 ≤ x) : (x &&& (x - 1) = 0) ↔ pop x ≤ 1 := by
  have := co_dec (P := fun x => x = 0 ∨ ((x &&& (x - 1) = 0) ↔ pop x ≤ 1)) p1_all h
  rcases this with q | q
  · omega
  · exact q
theorem Fv_1 {S : Nat → Nat} {k n lot e : Nat} : 1 ≤ FvQ S k n lot e := by
  unfold FvQ; split <;> omega
theorem mnf_1 {c : Nat} {F : Nat → Nat} (hc : 1 ≤ c) (h : ∀ e, 1 ≤ F e) : ∀ {n : Nat}, 1 ≤ mnf c F n
  | 0 => hc
  | n + 1 => by
    have := mnf_1 (F := F) hc h (n := n)
    have := h n
    rw [mnf]; omega
set_option maxHeartbeats 1000000 in
theorem y_wst {n k : Nat} {S : Nat → Nat} {ls : Nat → Int32} (h : YN n k S ls) (hk : k ≤ 12) (w : Nat → Int32) : ∃ w', lp (pX10_questions_L33 (nI n) (nI k) ls) (1, w) = some w' ∧ ∀ x, 1 ≤ x → x < 2 ^ k → w' x = nI (Qv S k n x) := by
  have h12 : 2 ^ k ≤ 4096 := by
    have := Nat.pow_le_pow_right (n := 2) (by omega) hk
    simpa using this
  have hpk := tI_pp k
  have hn2 := h.2.1
  refine lp_for (step := pX10_questions_L33 (nI n) (nI k) ls) (2 ^ k) (fun i s => 1 ≤ i ∧ ∃ w1, s = (nI i, w1) ∧ ∀ x, 1 ≤ x → x < i → w1 x = nI (Qv S k n x)) (fun w' => ∀ x, 1 ≤ x → x < 2 ^ k → w' x = nI (Qv S k n x)) (fun i s hi hI => ?_) (fun s hI => ?_) (2 ^ k - 1) 1 (1, w) (by omega) ⟨by omega, w, rfl, fun x h1 h2 => by omega⟩
  · obtain ⟨hi1, w1, rfl, hw1⟩ := hI
    left
    have hpo := p1_eq (show i < 4096 by omega) hi1
    have hal : i &&& (i - 1) ≤ i := Nat.and_le_left
    have hQl := Qv_le (S := S) (k := k) (n := n) (lot := i)
    have hin : Option.bind (if (nI i &&& (nI i - 1)) = 0 then (some 0) else (some 100) : Option Int32) (fun t57 => lp (pX10_questions_L61_4 (nI n) (nI k) ls (nI i, w1)) (t57, 0)) = some (nI (Qv S k n i)) := by
      rw [tI_1, pk_sub hi1, tI_and]
      by_cases q : pop i ≤ 1
      · rw [if_pos (by rw [hpo.mpr q]; rfl), Option.bind_some, Qv_1 q]
        refine lp_x ?_
        unfold pX10_questions_L61_4
        dsimp only
        by_cases c : nI n ≤ 0
        · rw [if_pos c]; rfl
        · rw [if_neg c, if_pos (by decide)]; rfl
      · rw [if_neg (by rw [tI_0, nI_eq (by omega) (by omega), hpo]; exact q), Option.bind_some, Qv_eq (show i < 65536 by omega) q]
        refine lp_det (step := pX10_questions_L61_4 (nI n) (nI k) ls (nI i, w1)) (fun e => (nI (mnf 100 (FvQ S k n i) e), nI e)) _ n (fun e he => ?_) ?_
        · unfold pX10_questions_L61_4
          dsimp only
          have hm1 := mnf_1 (c := 100) (F := FvQ S k n i) (n := e) (by omega) (fun e => Fv_1)
          have hmc := mnf_c (c := 100) (F := FvQ S k n i) (n := e)
          have hFl : FvQ S k n i e ≤ 101 := by
            unfold FvQ
            have hq1 := Qv_le (S := S) (k := k) (n := n) (lot := yesL S k e i)
            have hq2 := Qv_le (S := S) (k := k) (n := n) (lot := noL S k e i)
            split <;> omega
          rw [if_neg (nI_ge he (by omega)), if_neg (by show ¬ _ ≤ nI 0; exact nI_ge (by omega) (by omega)), y_asked h hk (by omega) hi hw1, Option.bind_some, nI_1, mnf]
          by_cases c : mnf 100 (FvQ S k n i) e ≤ FvQ S k n i e
          · rw [if_pos (nI_le c (by omega)), Nat.min_eq_left c]
          · rw [if_neg (nI_ge (by omega) (by omega)), Nat.min_eq_right (by omega)]
        · unfold pX10_questions_L61_4
          dsimp only
          rw [if_pos (nI_le (Nat.le_refl n) (by omega))]
    refine ⟨(nI (i + 1), upd w1 i (nI (Qv S k n i))), ?_, by omega, _, rfl, fun x h1 h2 => ?_⟩
    · unfold pX10_questions_L33
      dsimp only
      rw [tI_shl (by omega), if_neg (nI_ge hi (by omega))]
      cases ht : (if (nI i &&& (nI i - 1)) = 0 then (some 0) else (some 100) : Option Int32) with
      | none => rw [ht] at hin; cases hin
      | some t =>
        rw [ht, Option.bind_some] at hin
        rw [Option.bind_some, hin, Option.bind_some, gd_t (vp_in_nI (show i < 4096 by omega) (by omega)), nI_clamp (by omega), nI_1]
    · by_cases c : x = i
      · subst c; exact u_s
      · rw [u_n c]; exact hw1 x h1 (by omega)
  · obtain ⟨hi1, w1, rfl, hw1⟩ := hI
    unfold pX10_questions_L33
    dsimp only
    rw [tI_shl (by omega), if_pos (nI_le (Nat.le_refl _) (by omega))]
    exact ⟨_, rfl, hw1⟩
