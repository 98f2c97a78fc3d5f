set_option maxHeartbeats 1000000 in
theorem op19 : OpOk19 := by
  intro t x_costs r_size r_n r_parts r_rows r_ins u_size u_n u_parts u_rows u_ins q_above q_below h_rows h_columns h_divisor h_rl h_cl f_bestBits f_bestCore f_bestCount w_mark w_marks z_left z_rest g_known k_having k_fewest y_n y_sets y_otherMany y_above y_below y_by y_list y_others y_costs y_table y_basis y_isSeen y_colour y_rest y_makes y_worst h_g a b ht hI
  have hI1 := Inv_up hI
  obtain ⟨n, k, o, M, S, O, C, ⟨hn1, hn2, hk, ho, hM⟩, ⟨rfl, rfl, rfl, rfl, rfl, rfl, rfl, rfl, rfl⟩, hR, hdist, hO, hins, huins, hC, ⟨rfl, rfl⟩, rfl, hmk⟩ := hI
  have hp := tI_p hn2
  have hp1 := tI_pp n
  have hRow : RowN n k S r_ins := ⟨hn2, by omega, fun i hi => (hR i hi).2.2.2, hins⟩
  have hRowO : RowN n o O u_ins := ⟨hn2, ho, fun i hi => (hO i hi).2.2, huins⟩
  have hY : YN n k S y_list := ⟨hn1, hn2, hk, fun i hi => ⟨(hR i hi).2.1, (hR i hi).2.2.2⟩⟩
  have hRi : ∀ i, i < k → r_rows i = nI (S i) ∧ S i < 2 ^ n := fun i hi => ⟨(hR i hi).1, (hR i hi).2.2.2⟩
  have hx := lp_first (step := pX9_twoByTwo_L2 16 (nI k) (nI (2 ^ n)) r_rows) (fun i => nI i) (fun x => decide (pop x = 3) && (exb (two S x) k && (com (2 ^ n - 1) S (two S x) k == 0))) (fun i => Sum.inl (nI i)) (Sum.inr ()) (2 ^ n) (fun i hi => by
    unfold pX9_twoByTwo_L2
    have hpp := pop_le i
    rw [if_neg (nI_ge hi (by omega)), bc_eq (by omega), Option.bind_some, cnone_eq hn2 hk hRi hi, Option.bind_some, if_bI, nI_1]
    by_cases h3 : pop i = 3
    · rw [if_pos (by rw [h3]; rfl), decide_eq_true h3, Bool.true_and]
      cases exb (two S i) k && (com (2 ^ n - 1) S (two S i) k == 0) <;> rfl
    · rw [if_neg (by show ¬ _ = nI 3; rw [nI_eq (by omega) (by omega)]; exact h3), decide_eq_false h3, Bool.false_and]
      rfl) (by
    unfold pX9_twoByTwo_L2
    rw [if_pos (nI_le (Nat.le_refl _) (by omega))])
  have hy := lp_first (step := pX10_twoByTwo_L2 (nI n) (nI k) y_list) (fun i => nI i) (fun x => decide (pop x = 3) && (exb (two S x) k && (com (2 ^ n - 1) S (two S x) k == 0))) (fun i => Sum.inl (nI i)) (Sum.inr ()) (2 ^ n) (fun i hi => by
    unfold pX10_twoByTwo_L2
    have hpp := pop_le i
    have hml := mk_lt (q := two S i) (k := k)
    have h16 : 2 ^ k ≤ 65536 := by
      have := Nat.pow_le_pow_right (n := 2) (by omega) hk
      simpa using this
    have hcl := com_le (A := 2 ^ n - 1) (S := S) (q := two S i) (k := k)
    have hcc : com (2 ^ n - 1) S (fun j => (mk (two S i) k).testBit j) k = com (2 ^ n - 1) S (two S i) k := com_cong (fun j hj => by rw [mk_bit]; simp [hj])
    rw [yall_eq hn2, Option.bind_some, if_neg (by rw [all_lt hn2 (by omega)]; omega), size_eq (by omega), Option.bind_some, ytwo_eq hY hi, Option.bind_some, ycommon_eq hY (by omega), Option.bind_some, hcc, nI_1]
    by_cases h3 : pop i = 3
    · rw [if_pos (by rw [h3]; rfl), decide_eq_true h3, Bool.true_and]
      cases he : exb (two S i) k with
      | false => rw [if_pos (by rw [mk_0.mpr he]; rfl)]; rfl
      | true =>
        rw [if_neg (by
          rw [tI_0, nI_eq (by omega) (by omega), mk_0, he]
          decide)]
        by_cases hz : com (2 ^ n - 1) S (two S i) k = 0
        · rw [if_pos (by rw [hz]; rfl)]; simp [hz]
        · rw [if_neg (by rw [tI_0, nI_eq (by omega) (by omega)]; exact hz)]; simp [hz]
    · rw [if_neg (by show ¬ _ = nI 3; rw [nI_eq (by omega) (by omega)]; exact h3), decide_eq_false h3, Bool.false_and]
      rfl) (by
    unfold pX10_twoByTwo_L2
    rw [yall_eq hn2, Option.bind_some, if_pos ((all_lt hn2 hp).mpr (Nat.le_refl _))])
  have hx : lp (pX9_twoByTwo_L2 16 (nI k) (nI (2 ^ n)) r_rows) 0 = _ := hx
  have hy : lp (pX10_twoByTwo_L2 (nI n) (nI k) y_list) 0 = _ := hy
  unfold pX9_twoByTwo pX10_twoByTwo
  rw [hx, hy]
  cases fst (fun x => decide (pop x = 3) && (exb (two S x) k && (com (2 ^ n - 1) S (two S x) k == 0))) (2 ^ n) with
  | none => exact ⟨_, _, rfl, rfl, rfl, hI1⟩
  | some j => exact ⟨_, _, rfl, rfl, rfl, hI1⟩
set_option maxHeartbeats 1000000 in
theorem op14 : OpOk14 := by
  intro t x_costs r_size r_n r_parts r_rows r_ins u_size u_n u_parts u_rows u_ins q_above q_below h_rows h_columns h_divisor h_rl h_cl f_bestBits f_bestCore f_bestCount w_mark w_marks z_left z_rest g_known k_having k_fewest y_n y_sets y_otherMany y_above y_below y_by y_list y_others y_costs y_table y_basis y_isSeen y_colour y_rest y_makes y_worst h_g a b ht hI
  have hI1 := Inv_up hI
  obtain ⟨n, k, o, M, S, O, C, ⟨hn1, hn2, hk, ho, hM⟩, ⟨rfl, rfl, rfl, rfl, rfl, rfl, rfl, rfl, rfl⟩, hR, hdist, hO, hins, huins, hC, ⟨rfl, rfl⟩, rfl, hmk⟩ := hI
  have hp := tI_p hn2
  have hp1 := tI_pp n
  have hRow : RowN n k S r_ins := ⟨hn2, by omega, fun i hi => (hR i hi).2.2.2, hins⟩
  have hRowO : RowN n o O u_ins := ⟨hn2, ho, fun i hi => (hO i hi).2.2, huins⟩
  have hY : YN n k S y_list := ⟨hn1, hn2, hk, fun i hi => ⟨(hR i hi).2.1, (hR i hi).2.2.2⟩⟩
  have hRi : ∀ i, i < k → r_rows i = nI (S i) ∧ S i < 2 ^ n := fun i hi => ⟨(hR i hi).1, (hR i hi).2.2.2⟩
  have hybad : (a < 0 ∨ nI (2 ^ n) ≤ a) → pX10_isPart (nI n) a = some 0 := by
    intro h
    unfold pX10_isPart
    have e := in_lit a 0 (nI (2 ^ n - 1))
    have hf : (decide ((0 : Int32) ≤ a) && decide (a ≤ nI (2 ^ n - 1))) = false := by
      rw [Bool.and_eq_false_iff, decide_eq_false_iff_not, decide_eq_false_iff_not, Int32.le_iff_toInt_le, Int32.le_iff_toInt_le, nI_toInt (by omega)]
      rw [Int32.lt_iff_toInt_lt, Int32.le_iff_toInt_le, nI_toInt (by omega)] at h
      have : (0 : Int32).toInt = 0 := rfl
      omega
    rw [hf] at e
    have e : pX10_in a.toInt64 0 (nI (2 ^ n - 1)).toInt64 = some 0 := e
    rw [yall_eq hn2, Option.bind_some, e, Option.bind_some, gd_t nar0]
  rcases pk_ix a (n := 2 ^ n) (by omega) with h | h | ⟨y, hy, rfl⟩
  · exact ⟨((-2), nI M, w_marks), ((-2), y_isSeen), by unfold pX9_seen; rw [isPart_out (Or.inl h)]; rfl, by unfold pX10_seen; rw [hybad (Or.inl h)]; rfl, rfl, hI1⟩
  · exact ⟨((-2), nI M, w_marks), ((-2), y_isSeen), by unfold pX9_seen; rw [isPart_out (Or.inr h)]; rfl, by unfold pX10_seen; rw [hybad (Or.inr h)]; rfl, rfl, hI1⟩
  · have e := in_lit (nI y) 0 (nI (2 ^ n - 1))
    rw [decide_eq_true (by show nI 0 ≤ nI y; exact nI_le (by omega) (by omega)), decide_eq_true (nI_le (by omega) (by omega))] at e
    have e : pX10_in (nI y).toInt64 0 (nI (2 ^ n - 1)).toInt64 = some 1 := e
    obtain ⟨g, hg⟩ := ysee_eq hY hy y_isSeen
    refine ⟨(nI (seenC S k y), nI (M + 1), mkM S y (nI (M + 1)) w_marks k), (nI (seenC S k y), g), ?_, ?_, rfl, ?_⟩
    · unfold pX9_seen
      rw [isPart_in (by omega) hy, Option.bind_some, if_neg (by decide), csee_eq hn2 hk (by omega) hRi hy hmk, Option.bind_some]
    · unfold pX10_seen pX10_isPart
      rw [yall_eq hn2, Option.bind_some, e, Option.bind_some, gd_t nar1, Option.bind_some, if_neg (by decide), hg, Option.bind_some]
    · exact ⟨n, k, o, M + 1, S, O, C, ⟨hn1, hn2, hk, ho, by omega⟩, ⟨rfl, rfl, rfl, rfl, rfl, rfl, rfl, rfl, rfl⟩, hR, hdist, hO, hins, huins, hC, ⟨rfl, rfl⟩, rfl, mkM_b hmk⟩
