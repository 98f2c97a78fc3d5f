set_option maxHeartbeats 1000000 in
theorem op16 : OpOk16 := by
  intro t x_costs r_size r_n r_parts r_rows r_ins u_size u_n u_parts u_rows u_ins q_above q_below h_rows h_columns h_divisor h_rl h_cl f_bestBits f_bestCore f_bestCount w_mark w_marks z_left z_rest g_known k_having k_fewest y_n y_sets y_otherMany y_above y_below y_by y_list y_others y_costs y_table y_basis y_isSeen y_colour y_rest y_makes y_worst h_g a b ht hI
  have hI1 := Inv_up hI
  obtain ⟨n, k, o, M, S, O, C, ⟨hn1, hn2, hk, ho, hM⟩, ⟨rfl, rfl, rfl, rfl, rfl, rfl, rfl, rfl, rfl⟩, hR, hdist, hO, hins, huins, hC, ⟨rfl, rfl⟩, rfl, hmk⟩ := hI
  have hp := tI_p hn2
  have hp1 := tI_pp n
  have hRow : RowN n k S r_ins := ⟨hn2, by omega, fun i hi => (hR i hi).2.2.2, hins⟩
  have hRowO : RowN n o O u_ins := ⟨hn2, ho, fun i hi => (hO i hi).2.2, huins⟩
  have hY : YN n k S y_list := ⟨hn1, hn2, hk, fun i hi => ⟨(hR i hi).2.1, (hR i hi).2.2.2⟩⟩
  have hRi : ∀ i, i < k → r_rows i = nI (S i) ∧ S i < 2 ^ n := fun i hi => ⟨(hR i hi).1, (hR i hi).2.2.2⟩
  have hS1 : ∀ i, i < k → 1 ≤ S i := fun i hi => (hR i hi).2.2.1
  have ein := in_lit a 2 4
  have ein : pX10_in a.toInt64 2 4 = some (bI (decide ((2 : Int32) ≤ a) && decide (a ≤ 4))) := ein
  rcases pk_ix a (n := 5) (by omega) with h | h | ⟨c, hc, rfl⟩
  · have h1 : (decide ((2 : Int32) ≤ a) && decide (a ≤ 4)) = false := by
      rw [Bool.and_eq_false_iff, decide_eq_false_iff_not, decide_eq_false_iff_not, Int32.le_iff_toInt_le]
      rw [Int32.lt_iff_toInt_lt] at h
      have e2 : (2 : Int32).toInt = 2 := rfl
      have e0 : (0 : Int32).toInt = 0 := rfl
      left; omega
    refine ⟨(-2), ((-2), y_colour), ?_, ?_, rfl, hI1⟩
    · unfold pX9_colourings pX9_colourings_J10
      rw [if_pos (by rw [Int32.lt_iff_toInt_lt] at h ⊢; have e2 : (2 : Int32).toInt = 2 := rfl; have e0 : (0 : Int32).toInt = 0 := rfl; omega)]
    · unfold pX10_colourings
      rw [ein, h1]; rfl
  · have h1 : (decide ((2 : Int32) ≤ a) && decide (a ≤ 4)) = false := by
      rw [Bool.and_eq_false_iff, decide_eq_false_iff_not, decide_eq_false_iff_not, Int32.le_iff_toInt_le, Int32.le_iff_toInt_le]
      rw [Int32.le_iff_toInt_le] at h
      have e2 : (4 : Int32).toInt = 4 := rfl
      have e0 : (nI 5).toInt = 5 := rfl
      right; omega
    refine ⟨(-2), ((-2), y_colour), ?_, ?_, rfl, hI1⟩
    · unfold pX9_colourings pX9_colourings_J10
      have q1 : ¬ a ≤ 4 := by
        rw [Int32.le_iff_toInt_le] at h ⊢
        have e2 : (4 : Int32).toInt = 4 := rfl
        have e0 : (nI 5).toInt = 5 := rfl
        omega
      rw [if_neg q1]
      split <;> rfl
    · unfold pX10_colourings
      rw [ein, h1]; rfl
  · by_cases hc2 : 2 ≤ c
    · have h1 : (decide ((2 : Int32) ≤ nI c) && decide (nI c ≤ 4)) = true := by
        rw [Bool.and_eq_true, decide_eq_true_eq, decide_eq_true_eq]
        exact ⟨by show nI 2 ≤ _; exact nI_le hc2 (by omega), by show _ ≤ nI 4; exact nI_le (by omega) (by omega)⟩
      obtain ⟨col', hy⟩ := y_ways (c := c) hY hS1 (by omega) y_colour
      refine ⟨nI (Hc S k n c n (fun _ => 0)), (nI (Hc S k n c n (fun _ => 0)), col'), ?_, ?_, rfl, hI1⟩
      · unfold pX9_colourings
        rw [if_neg (by show ¬ _ < nI 2; exact nI_nlt hc2 (by omega)), if_pos (by show _ ≤ nI 4; exact nI_le (by omega) (by omega)), c_ways hRow hn1 hS1 hc2 (by omega)]
        rfl
      · unfold pX10_colourings
        rw [ein, h1, Option.bind_some, if_neg (by decide), gd_t (by show vp_in (nI 0) 10; exact vp_in_nI (by omega) (by omega))]
        show Option.bind (lp (pX10_colourings_L28 (nI n) (nI k) y_list (nI c)) (0, 0, upd y_colour 0 (-1))) _ = _
        rw [hy]
        rfl
    · have h1 : (decide ((2 : Int32) ≤ nI c) && decide (nI c ≤ 4)) = false := by
        rw [Bool.and_eq_false_iff, decide_eq_false_iff_not]
        left; show ¬ nI 2 ≤ _; exact nI_ge (by omega) (by omega)
      refine ⟨(-2), ((-2), y_colour), ?_, ?_, rfl, hI1⟩
      · unfold pX9_colourings pX9_colourings_J10
        rw [if_pos (by show _ < nI 2; exact nI_lt (by omega) (by omega))]
      · unfold pX10_colourings
        rw [ein, h1]; rfl
