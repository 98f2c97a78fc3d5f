set_option maxHeartbeats 1000000 in
theorem op24 : OpOk24 := by
  intro t x_costs r_size r_n r_parts r_rows r_ins u_size u_n u_parts u_rows u_ins q_above q_below h_rows h_columns h_divisor h_rl h_cl f_bestBits f_bestCore f_bestCount w_mark w_marks z_left z_rest g_known k_having k_fewest y_n y_sets y_otherMany y_above y_below y_by y_list y_others y_costs y_table y_basis y_isSeen y_colour y_rest y_makes y_worst h_g a b ht hI
  have hI1 := Inv_up hI
  obtain ⟨n, k, o, M, S, O, C, ⟨hn1, hn2, hk, ho, hM⟩, ⟨rfl, rfl, rfl, rfl, rfl, rfl, rfl, rfl, rfl⟩, hR, hdist, hO, hins, huins, hC, ⟨rfl, rfl⟩, rfl, hmk⟩ := hI
  have hp := tI_p hn2
  have hp1 := tI_pp n
  have hRow : RowN n k S r_ins := ⟨hn2, by omega, fun i hi => (hR i hi).2.2.2, hins⟩
  have hRowO : RowN n o O u_ins := ⟨hn2, ho, fun i hi => (hO i hi).2.2, huins⟩
  have hY : YN n k S y_list := ⟨hn1, hn2, hk, fun i hi => ⟨(hR i hi).2.1, (hR i hi).2.2.2⟩⟩
  have hRi : ∀ i, i < k → r_rows i = nI (S i) ∧ S i < 2 ^ n := fun i hi => ⟨(hR i hi).1, (hR i hi).2.2.2⟩
  have hS : ∀ i, i < k → S i < 2 ^ n := fun i hi => (hR i hi).2.2.2
  cases hz : (decide (a = 0) || decide (a = 1)) with
  | false => exact ⟨((-2), k_having, k_fewest), ((-2), y_worst), by unfold pX9_questions; rw [zo_eq, hz]; rfl, by unfold pX10_questions; rw [in01, hz]; rfl, rfl, hI1⟩
  | true =>
    obtain ⟨w, rfl⟩ := zo_cases hz
    have ein := in_lit (nI k) 1 12
    have ein : pX10_in (nI k).toInt64 1 12 = some (bI (decide ((1 : Int32) ≤ nI k) && decide (nI k ≤ 12))) := ein
    by_cases h1 : 1 ≤ k ∧ k ≤ 12
    · obtain ⟨hk1, hk12⟩ := h1
      have hpk := tI_pp k
      have h12 : 2 ^ k ≤ 4096 := by
        have := Nat.pow_le_pow_right (n := 2) (by omega) hk12
        simpa using this
      have h2k : 2 ≤ 2 ^ k := by
        have := Nat.pow_le_pow_right (n := 2) (by omega) hk1
        simpa using this
      have eb : (decide ((1 : Int32) ≤ nI k) && decide (nI k ≤ 12)) = true := by
        rw [Bool.and_eq_true, decide_eq_true_eq, decide_eq_true_eq]
        exact ⟨by show nI 1 ≤ _; exact nI_le hk1 (by omega), by show _ ≤ nI 12; exact nI_le hk12 (by omega)⟩
      obtain ⟨hav, hh1, hh2⟩ := c_having hk hn2 hRi k_having
      obtain ⟨wy, hy1, hy2⟩ := y_wst hY hk12 y_worst
      have hMI : MI S k n (fun j => if j < 4096 then 0 else k_fewest j) := fun x hx => Or.inl (if_pos hx)
      have hpa := pop_all hk12
      obtain ⟨wf, hf1, hf2⟩ := c_few hk12 hn2 hS hdist hh2 14 (2 ^ k - 1) 12 _ (by omega) (by omega) (by omega) (by omega) hMI
      have hf1 : pX0_fewestFor 14 (nI n) hav _ (nI (2 ^ k - 1)) 12 = _ := hf1
      have eah : pX0_allHidden (nI k) = some (nI (2 ^ k - 1)) := by
        unfold pX0_allHidden
        rw [if_neg (by show ¬ nI 12 < _; exact nI_nlt hk12 (by omega)), pow_k hk]
      have epr : pX0_prepare 16 (nI k) (nI n) r_rows k_having k_fewest = some (hav, fun j => if j < 4096 then 0 else k_fewest j) := by
        unfold pX0_prepare
        rw [fill_eq (by omega), Option.bind_some, hh1]
        rfl
      cases w with
      | false =>
        refine ⟨(nI (Qv S k n (2 ^ k - 1)), hav, wf), (nI (Qv S k n (2 ^ k - 1)), wy), ?_, ?_, rfl, hI1⟩
        · unfold pX9_questions pX0_fewestAtWorst
          rw [zo_eq, hz, Option.bind_some, if_bI, if_pos rfl, if_neg (by rw [tI_0, nI_eq (by omega) (by omega)]; omega), if_pos (by show _ ≤ nI 12; exact nI_le hk12 (by omega)), epr, Option.bind_some, if_pos (show bI false = 0 from rfl), eah, Option.bind_some, hf1]
          rfl
        · unfold pX10_questions
          rw [in01, hz, Option.bind_some, if_bI, if_pos rfl, ein, eb, Option.bind_some, if_neg (by decide), hy1, Option.bind_some, if_pos (show bI false = 0 from rfl), pow_k hk, gd_t (vp_in_nI (show 2 ^ k - 1 < 4096 by omega) (by omega)), nI_clamp (by omega), hy2 _ (by omega) (by omega)]
      | true =>
        obtain ⟨r, hr1, w', hr2⟩ := c_first (w := wf) wf hk12 hk1 hn2 hS hdist hh2 hf2
        have hyf := y_first hY hk12 hk1 hdist hy2
        cases hf : fst (hitB S k n) n with
        | none =>
          rw [hf] at hr2 hyf
          refine ⟨((-1), hav, w'), ((-1), wy), ?_, ?_, rfl, hI1⟩
          · unfold pX9_questions pX0_firstToAsk
            rw [zo_eq, hz, Option.bind_some, if_bI, if_pos rfl, if_neg (by rw [tI_0, nI_eq (by omega) (by omega)]; omega), if_pos (by show _ ≤ nI 12; exact nI_le hk12 (by omega)), epr, Option.bind_some, if_neg (by decide), eah, Option.bind_some, hf1, Option.bind_some, hr1, hr2]
            rfl
          · unfold pX10_questions
            rw [in01, hz, Option.bind_some, if_bI, if_pos rfl, ein, eb, Option.bind_some, if_neg (by decide), hy1, Option.bind_some, if_neg (by decide), hyf]
            rfl
        | some e =>
          rw [hf] at hr2 hyf
          refine ⟨(nI e, hav, w'), (nI e, wy), ?_, ?_, rfl, hI1⟩
          · unfold pX9_questions pX0_firstToAsk
            rw [zo_eq, hz, Option.bind_some, if_bI, if_pos rfl, if_neg (by rw [tI_0, nI_eq (by omega) (by omega)]; omega), if_pos (by show _ ≤ nI 12; exact nI_le hk12 (by omega)), epr, Option.bind_some, if_neg (by decide), eah, Option.bind_some, hf1, Option.bind_some, hr1, hr2]
            rfl
          · unfold pX10_questions
            rw [in01, hz, Option.bind_some, if_bI, if_pos rfl, ein, eb, Option.bind_some, if_neg (by decide), hy1, Option.bind_some, if_neg (by decide), hyf]
            rfl
    · have eb : (decide ((1 : Int32) ≤ nI k) && decide (nI k ≤ 12)) = false := by
        rw [Bool.and_eq_false_iff, decide_eq_false_iff_not, decide_eq_false_iff_not]
        by_cases c : 1 ≤ k
        · right; show ¬ _ ≤ nI 12; exact nI_ge (by omega) (by omega)
        · left; show ¬ nI 1 ≤ _; exact nI_ge (by omega) (by omega)
      refine ⟨((-3), k_having, k_fewest), ((-3), y_worst), ?_, ?_, rfl, hI1⟩
      · unfold pX9_questions
        rw [zo_eq, hz, Option.bind_some, if_bI, if_pos rfl]
        by_cases c : k = 0
        · rw [if_pos (by rw [c]; rfl)]
        · rw [if_neg (by rw [tI_0, nI_eq (by omega) (by omega)]; exact c), if_neg (by show ¬ _ ≤ nI 12; exact nI_ge (by omega) (by omega))]
      · unfold pX10_questions
        rw [in01, hz, Option.bind_some, if_bI, if_pos rfl, ein, eb]
        rfl
