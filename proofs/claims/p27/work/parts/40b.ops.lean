set_option maxHeartbeats 1000000 in
theorem op21 : OpOk21 := by
  intro t x_costs r_size r_n r_parts r_rows r_ins u_size u_n u_parts u_rows u_ins q_above q_below h_rows h_columns h_divisor h_rl h_cl f_bestBits f_bestCore f_bestCount w_mark w_marks z_left z_rest g_known k_having k_fewest y_n y_sets y_otherMany y_above y_below y_by y_list y_others y_costs y_table y_basis y_isSeen y_colour y_rest y_makes y_worst h_g a b ht hI
  have hI1 := Inv_up hI
  obtain ⟨n, k, o, M, S, O, C, ⟨hn1, hn2, hk, ho, hM⟩, ⟨rfl, rfl, rfl, rfl, rfl, rfl, rfl, rfl, rfl⟩, hR, hdist, hO, hins, huins, hC, ⟨rfl, rfl⟩, rfl, hmk⟩ := hI
  have hp := tI_p hn2
  have hp1 := tI_pp n
  have hRow : RowN n k S r_ins := ⟨hn2, by omega, fun i hi => (hR i hi).2.2.2, hins⟩
  have hRowO : RowN n o O u_ins := ⟨hn2, ho, fun i hi => (hO i hi).2.2, huins⟩
  have hY : YN n k S y_list := ⟨hn1, hn2, hk, fun i hi => ⟨(hR i hi).2.1, (hR i hi).2.2.2⟩⟩
  by_cases hok : 0 ≤ a ∧ a ≤ b ∧ 1 ≤ b ∧ b ≤ 10
  · obtain ⟨c1, c2, c3, c4⟩ := hok
    obtain ⟨y, hy, rfl⟩ := nI_of (x := b) (fun q => by rw [Int32.lt_iff_toInt_lt] at q; rw [Int32.le_iff_toInt_le] at c3; have : (0 : Int32).toInt = 0 := rfl; have : (1 : Int32).toInt = 1 := rfl; omega)
    obtain ⟨x, hx, rfl⟩ := nI_of (x := a) (fun q => by rw [Int32.lt_iff_toInt_lt] at q; rw [Int32.le_iff_toInt_le] at c1; omega)
    have hy10 : y ≤ 10 := by
      have c4 : nI y ≤ nI 10 := c4
      rw [nI_leI (by omega) (by omega)] at c4
      exact c4
    have hy1 : 1 ≤ y := by
      have c3 : nI 1 ≤ nI y := c3
      rw [nI_leI (by omega) (by omega)] at c3
      exact c3
    have hxy : x ≤ y := by
      rw [nI_leI (by omega) (by omega)] at c2
      exact c2
    have hsl := chS_le (S := S) (k := k) (n := n) (a := x) (c := y - x) hn2 (by omega) (by omega)
    have hs62 : chS S k n x (y - x) (2 ^ n) < 2 ^ 62 := by
      have h9 : 2 ^ n * 10 ^ 10 ≤ 1024 * 10 ^ 10 := Nat.mul_le_mul_right _ hp
      omega
    have hpw0 : 0 < y ^ n := Nat.pow_pos (by omega)
    have hpwl : y ^ n < 2 ^ 40 := by
      have h1 : y ^ n ≤ 10 ^ n := Nat.pow_le_pow_left hy10 n
      have h2 : 10 ^ n ≤ 10 ^ 10 := Nat.pow_le_pow_right (by omega) hn2
      omega
    obtain ⟨f1, f2⟩ := frac_eq hs62 hpw0 hpwl q_above q_below
    refine ⟨(1, lN (chS S k n x (y - x) (2 ^ n) / Nat.gcd (chS S k n x (y - x) (2 ^ n)) (y ^ n)), lN (y ^ n / Nat.gcd (chS S k n x (y - x) (2 ^ n)) (y ^ n))), (1, lN (chS S k n x (y - x) (2 ^ n) / Nat.gcd (chS S k n x (y - x) (2 ^ n)) (y ^ n)), lN (y ^ n / Nat.gcd (chS S k n x (y - x) (2 ^ n)) (y ^ n))), ?_, ?_, rfl, ?_⟩
    · unfold pX9_chance
      rw [if_neg (nI_pos (by omega)), if_neg (nI_nlt hxy (by omega)), if_neg (by show ¬ _ < nI 1; exact nI_nlt hy1 (by omega)), if_pos c4, cch_eq hRow hy10 hxy, Option.bind_some, cpow_eq y (by omega) (by omega), Option.bind_some, f1, Option.bind_some]
    · unfold pX10_chance
      have e1 := in_lit (nI y) 1 10
      rw [decide_eq_true c3, decide_eq_true c4] at e1
      have e1 : pX10_in (nI y).toInt64 1 10 = some 1 := e1
      have e2 := in_lit (nI x) 0 (nI y)
      rw [decide_eq_true c1, decide_eq_true c2] at e2
      have e2 : pX10_in (nI x).toInt64 0 (nI y).toInt64 = some 1 := e2
      rw [e1, Option.bind_some, if_neg (by decide), e2, Option.bind_some, if_neg (by decide), ych_eq hY hy10 hxy, Option.bind_some, ypow_eq y (by omega) (by omega), Option.bind_some, f2, Option.bind_some]
    · exact ⟨n, k, o, M, S, O, C, ⟨hn1, hn2, hk, ho, by omega⟩, ⟨rfl, rfl, rfl, rfl, rfl, rfl, rfl, rfl, rfl⟩, hR, hdist, hO, hins, huins, hC, ⟨rfl, rfl⟩, rfl, hmk⟩
  · refine ⟨((-2), q_above, q_below), ((-2), q_above, q_below), ?_, ?_, rfl, hI1⟩
    · unfold pX9_chance
      by_cases d1 : a < 0
      · rw [if_pos d1]
      · rw [if_neg d1]
        by_cases d2 : b < a
        · rw [if_pos d2]
        · rw [if_neg d2]
          by_cases d3 : b < 1
          · rw [if_pos d3]
          · rw [if_neg d3, if_neg (fun d4 => hok (by
              rw [Int32.lt_iff_toInt_lt] at d1 d2 d3
              refine ⟨?_, ?_, ?_, d4⟩ <;> rw [Int32.le_iff_toInt_le] <;> omega))]
    · unfold pX10_chance
      have e1 := in_lit b 1 10
      have e2 := in_lit a 0 b
      have e1 : pX10_in b.toInt64 1 10 = _ := e1
      have e2 : pX10_in a.toInt64 0 b.toInt64 = _ := e2
      rw [e1, Option.bind_some, if_bI, e2, Option.bind_some, if_bI]
      by_cases d1 : (1 : Int32) ≤ b ∧ b ≤ 10
      · rw [decide_eq_true d1.1, decide_eq_true d1.2]
        have : (decide ((0 : Int32) ≤ a) && decide (a ≤ b)) = false := by
          rw [Bool.and_eq_false_iff, decide_eq_false_iff_not, decide_eq_false_iff_not]
          by_cases d2 : (0 : Int32) ≤ a
          · right; exact fun d3 => hok ⟨d2, d3, d1.1, d1.2⟩
          · left; exact d2
        rw [this]
        rfl
      · have : (decide ((1 : Int32) ≤ b) && decide (b ≤ 10)) = false := by
          rw [Bool.and_eq_false_iff, decide_eq_false_iff_not, decide_eq_false_iff_not]
          by_cases d2 : (1 : Int32) ≤ b
          · right; exact fun d3 => d1 ⟨d2, d3⟩
          · left; exact d2
        rw [this]
        rfl
