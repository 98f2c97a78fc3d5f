def hitB (S : Nat → Nat) (k n : Nat) (e : Nat) : Bool := spl S k e (2 ^ k - 1) && (FvQ S k n (2 ^ k - 1) e == Qv S k n (2 ^ k - 1))
theorem fst_is {p : Nat → Bool} {n e : Nat} (he : e < n) (h : p e = true) (h0 : ∀ i, i < e → p i = false) : fst p n = some e := by
  cases hf : fst p n with
  | none => rw [fst_none.mp hf e he] at h; cases h
  | some j =>
    obtain ⟨h1, h2, h3⟩ := fst_some hf
    rcases Nat.lt_trichotomy j e with c | c | c
    · rw [h0 j c] at h2; cases h2
    · rw [c]
    · rw [h3 e c] at h; cases h
theorem pop_all {k : Nat} (hk : k ≤ 12) : pop (2 ^ k - 1) = k := by
  have hpk := tI_pp k
  rw [← pop_k (k := k) (by omega) (by omega)]
  have : ∀ m, m ≤ k → ct (fun i => (2 ^ k - 1).testBit i) m = m := by
    intro m
    induction m with
    | zero => intro _; rfl
    | succ m ih =>
      intro hm
      rw [ct, ih (by omega), Nat.testBit_two_pow_sub_one, decide_eq_true (show m < k by omega)]; rfl
  exact this k (Nat.le_refl k)
theorem c_by {S : Nat → Nat} {k n e : Nat} {hav w1 : Nat → Int32} (hk : k ≤ 12) (hn2 : n ≤ 10) (hS : ∀ i, i < k → S i < 2 ^ n) (hd : ∀ i j, i < j → j < k → S i ≠ S j) (hh : ∀ e, e < n → hav e = nI (hv S k e)) (he : e < n) (hs : spl S k e (2 ^ k - 1) = true) (hw1 : MI S k n w1) : ∃ w3, pX0_fewestBy_B (pX0_fewestFor 14) (nI n) hav w1 (nI e) (nI (2 ^ k - 1)) 12 = some (nI (FvQ S k n (2 ^ k - 1) e), w3) ∧ MI S k n w3 := by
  have h12 : 2 ^ k ≤ 4096 := by
    have := Nat.pow_le_pow_right (n := 2) (by omega) hk
    simpa using this
  have hpk := tI_pp k
  have hpa := pop_all hk
  generalize hlot : 2 ^ k - 1 = lot at *
  obtain ⟨p1, p2, -, -⟩ := spl_pop (show lot < 65536 by omega) hs
  have pp := pop_parts (S := S) (k := k) (e := e) (lot := lot)
  have l1 := yes_le (S := S) (k := k) (e := e) (lot := lot)
  have l2 := no_le (S := S) (k := k) (e := e) (lot := lot)
  have hq1 := Qv_le (S := S) (k := k) (n := n) (lot := yesL S k e lot)
  have hq2 := Qv_le (S := S) (k := k) (n := n) (lot := noL S k e lot)
  obtain ⟨w2, c1, c2⟩ := c_few hk hn2 hS hd hh 14 (yesL S k e lot) 11 w1 (by omega) (by omega) (by omega) (by omega) hw1
  obtain ⟨w3, c3, c4⟩ := c_few hk hn2 hS hd hh 14 (noL S k e lot) 11 w2 (by omega) (by omega) (by omega) (by omega) c2
  have hF : FvQ S k n lot e = 1 + max (Qv S k n (yesL S k e lot)) (Qv S k n (noL S k e lot)) := by unfold FvQ; rw [hs]; rfl
  refine ⟨w3, ?_, c4⟩
  unfold pX0_fewestBy_B
  rw [gd_t (vp_in_nI (show e < 10 by omega) (by omega)), nI_clamp (by omega), hh e he, tI_and, tI_andn]
  show Option.bind (pX0_fewestFor 14 (nI n) hav w1 (nI (yesL S k e lot)) (nI 11)) _ = _
  rw [c1, Option.bind_some, gd_t (vp_in_nI (show e < 10 by omega) (by omega))]
  show Option.bind (pX0_fewestFor 14 (nI n) hav w2 (nI (noL S k e lot)) (nI 11)) _ = _
  rw [c3, Option.bind_some]
  dsimp only
  rw [nI_max (by omega) (by omega), tI_1, nI_add, hF]
set_option maxHeartbeats 1000000 in
theorem c_first {S : Nat → Nat} {k n : Nat} {hav w : Nat → Int32} (w0 : Nat → Int32) (hk : k ≤ 12) (hk1 : 1 ≤ k) (hn2 : n ≤ 10) (hS : ∀ i, i < k → S i < 2 ^ n) (hd : ∀ i j, i < j → j < k → S i ≠ S j) (hh : ∀ e, e < n → hav e = nI (hv S k e)) (hw : MI S k n w) : ∃ r, lp (pX0_firstToAsk_L15 (nI n) hav (nI (2 ^ k - 1)) (nI (Qv S k n (2 ^ k - 1)), w0)) (0, w) = some r ∧ ∃ w', r = (fst (hitB S k n) n).elim (Sum.inr w') (fun e => Sum.inl (nI e, w')) := by
  have h12 : 2 ^ k ≤ 4096 := by
    have := Nat.pow_le_pow_right (n := 2) (by omega) hk
    simpa using this
  have hpk := tI_pp k
  have hQl := Qv_le (S := S) (k := k) (n := n) (lot := 2 ^ k - 1)
  refine lp_for (step := pX0_firstToAsk_L15 (nI n) hav (nI (2 ^ k - 1)) (nI (Qv S k n (2 ^ k - 1)), w0)) n (fun e s => ∃ w1, s = (nI e, w1) ∧ MI S k n w1 ∧ ∀ i, i < e → hitB S k n i = false) (fun r => ∃ w', r = (fst (hitB S k n) n).elim (Sum.inr w') (fun e => Sum.inl (nI e, w'))) (fun e s he hI => ?_) (fun s hI => ?_) n 0 (0, w) (by omega) ⟨w, rfl, hw, fun i hi => absurd hi (Nat.not_lt_zero i)⟩
  · obtain ⟨w1, rfl, hw1, h0⟩ := hI
    unfold pX0_firstToAsk_L15
    dsimp only
    rw [if_neg (nI_ge he (by omega))]
    by_cases q : Qv S k n (2 ^ k - 1) = 0
    · right
      rw [if_pos (by rw [q]; decide)]
      refine ⟨_, rfl, w1, ?_⟩
      have : fst (hitB S k n) n = none := by
        rw [fst_none]
        intro i hi
        unfold hitB
        have := Fv_1 (S := S) (k := k) (n := n) (lot := 2 ^ k - 1) (e := i)
        rw [q, show (FvQ S k n (2 ^ k - 1) i == 0) = false by rw [beq_eq_false_iff_ne]; omega, Bool.and_false]
      rw [this]; rfl
    · rw [if_neg (by show ¬ _ ≤ nI 0; exact nI_ge (by omega) (by omega)), c_spl hk (by omega) (hh e he) (by omega), Option.bind_some, if_bI, nI_1]
      cases hs : spl S k e (2 ^ k - 1) with
      | false =>
        left
        rw [if_neg (by decide)]
        refine ⟨_, rfl, w1, rfl, hw1, fun i hi => ?_⟩
        by_cases c : i = e
        · subst c; unfold hitB; rw [hs]; rfl
        · exact h0 i (by omega)
      | true =>
        obtain ⟨w3, b1, b2⟩ := c_by hk hn2 hS hd hh he hs hw1
        have hFl : FvQ S k n (2 ^ k - 1) e ≤ 101 := by
          unfold FvQ
          have hq1 := Qv_le (S := S) (k := k) (n := n) (lot := yesL S k e (2 ^ k - 1))
          have hq2 := Qv_le (S := S) (k := k) (n := n) (lot := noL S k e (2 ^ k - 1))
          split <;> omega
        rw [if_pos rfl, b1, Option.bind_some]
        dsimp only
        by_cases c : FvQ S k n (2 ^ k - 1) e = Qv S k n (2 ^ k - 1)
        · right
          rw [if_pos (by rw [c])]
          refine ⟨_, rfl, w3, ?_⟩
          rw [fst_is he (by unfold hitB; rw [hs, c]; simp) h0]; rfl
        · left
          rw [if_neg (by rw [nI_eq (by omega) (by omega)]; exact c)]
          refine ⟨_, rfl, w3, rfl, b2, fun i hi => ?_⟩
          by_cases c2 : i = e
          · subst c2; unfold hitB; rw [beq_eq_false_iff_ne.mpr c, Bool.and_false]
          · exact h0 i (by omega)
  · obtain ⟨w1, rfl, hw1, h0⟩ := hI
    unfold pX0_firstToAsk_L15
    dsimp only
    rw [if_pos (nI_le (Nat.le_refl n) (by omega))]
    refine ⟨_, rfl, w1, ?_⟩
    rw [fst_none.mpr h0]; rfl
theorem y_first {n k : Nat} {S : Nat → Nat} {ls w : Nat → Int32} (h : YN n k S ls) (hk : k ≤ 12) (hk1 : 1 ≤ k) (hd : ∀ i j, i < j → j < k → S i ≠ S j) (hw : ∀ x, 1 ≤ x → x < 2 ^ k → w x = nI (Qv S k n x)) : lp (pX10_questions_L137 (nI n) (nI k) ls w) 0 = some ((fst (hitB S k n) n).elim (Sum.inr ()) (fun e => Sum.inl (nI e))) := by
  have h12 : 2 ^ k ≤ 4096 := by
    have := Nat.pow_le_pow_right (n := 2) (by omega) hk
    simpa using this
  have hpk := tI_pp k
  have hn2 := h.2.1
  have hQl := Qv_le (S := S) (k := k) (n := n) (lot := 2 ^ k - 1)
  have h2k : 2 ≤ 2 ^ k := by
    have := Nat.pow_le_pow_right (n := 2) (by omega) hk1
    simpa using this
  by_cases q : k = 1
  · have hf : fst (hitB S k n) n = none := by
      rw [fst_none]
      intro i hi
      unfold hitB
      cases hs : spl S k i (2 ^ k - 1) with
      | false => rfl
      | true =>
        obtain ⟨p1, p2, -, -⟩ := spl_pop (show 2 ^ k - 1 < 65536 by omega) hs
        have pp := pop_parts (S := S) (k := k) (e := i) (lot := 2 ^ k - 1)
        have := pop_all hk
        omega
    rw [hf]
    refine lp_x ?_
    unfold pX10_questions_L137
    by_cases c : nI n ≤ 0
    · rw [if_pos c]; rfl
    · rw [if_neg c, if_pos (by rw [q]; decide)]; rfl
  · have hl := lp_first (step := pX10_questions_L137 (nI n) (nI k) ls w) (fun e => nI e) (hitB S k n) (fun e => Sum.inl (nI e)) (Sum.inr ()) n (fun e he => by
      unfold pX10_questions_L137
      have hFl : FvQ S k n (2 ^ k - 1) e ≤ 101 := by
        unfold FvQ
        have hq1 := Qv_le (S := S) (k := k) (n := n) (lot := yesL S k e (2 ^ k - 1))
        have hq2 := Qv_le (S := S) (k := k) (n := n) (lot := noL S k e (2 ^ k - 1))
        split <;> omega
      rw [if_neg (nI_ge he (by omega)), if_neg (by show ¬ _ ≤ nI 1; exact nI_ge (by omega) (by omega)), pow_k (by omega), y_asked h hk (by omega) (by omega) (fun x h1 h2 => hw x h1 (by omega)), Option.bind_some, gd_t (vp_in_nI (show 2 ^ k - 1 < 4096 by omega) (by omega)), nI_clamp (by omega), hw _ (by omega) (by omega), nI_1]
      by_cases c : FvQ S k n (2 ^ k - 1) e = Qv S k n (2 ^ k - 1)
      · rw [if_pos (by rw [c])]
        have hs : spl S k e (2 ^ k - 1) = true := by
          cases hs : spl S k e (2 ^ k - 1) with
          | true => rfl
          | false =>
            exfalso
            have hF : FvQ S k n (2 ^ k - 1) e = 100 := by unfold FvQ; rw [hs]; rfl
            have hup := Qv_up h.2.2.1 (fun i hi => (h.2.2.2 i hi).2) hd (pop (2 ^ k - 1)) (2 ^ k - 1) (Nat.le_refl _) (by omega)
            have := pop_le (2 ^ k - 1)
            omega
        unfold hitB
        rw [hs, c]; simp
      · rw [if_neg (by rw [nI_eq (by omega) (by omega)]; exact c)]
        unfold hitB
        rw [beq_eq_false_iff_ne.mpr c, Bool.and_false]; rfl) (by
      unfold pX10_questions_L137
      rw [if_pos (nI_le (Nat.le_refl n) (by omega))])
    exact hl
