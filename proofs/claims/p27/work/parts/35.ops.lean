set_option maxHeartbeats 1000000 in
theorem op0 : OpOk0 := by
  intro t x_costs r_size r_n r_parts r_rows r_ins u_size u_n u_parts u_rows u_ins q_above q_below h_rows h_columns h_divisor h_rl h_cl f_bestBits f_bestCore f_bestCount w_mark w_marks z_left z_rest g_known k_having k_fewest y_n y_sets y_otherMany y_above y_below y_by y_list y_others y_costs y_table y_basis y_isSeen y_colour y_rest y_makes y_worst h_g a b ht hI
  have hI1 := Inv_up hI
  obtain ⟨n, k, o, M, S, O, C, ⟨hn1, hn2, hk, ho, hM⟩, ⟨rfl, rfl, rfl, rfl, rfl, rfl, rfl, rfl, rfl⟩, hR, hdist, hO, hins, huins, hC, ⟨rfl, rfl⟩, rfl, hmk⟩ := hI
  have hp := tI_p hn2
  have hp1 := tI_pp n
  have hRow : RowN n k S r_ins := ⟨hn2, by omega, fun i hi => (hR i hi).2.2.2, hins⟩
  have hRowO : RowN n o O u_ins := ⟨hn2, ho, fun i hi => (hO i hi).2.2, huins⟩
  have hY : YN n k S y_list := ⟨hn1, hn2, hk, fun i hi => ⟨(hR i hi).2.1, (hR i hi).2.2.2⟩⟩
  rcases pk_ix a (n := 11) (by omega) with h | h | ⟨m, hm, rfl⟩
  · refine ⟨((-2), nI k, nI n, nI (2 ^ n), r_ins, nI o, nI n, nI (2 ^ n), u_ins), ((-2), nI n, nI k, nI o), ?_, ?_, rfl, hI1⟩
    · unfold pX9_ground
      rw [if_pos (by rw [Int32.lt_iff_toInt_lt] at h ⊢; have : (1 : Int32).toInt = 1 := rfl; have : (0 : Int32).toInt = 0 := rfl; omega)]
    · unfold pX10_ground
      have e := in_lit a 1 10
      rw [decide_eq_false (by rw [Int32.le_iff_toInt_le]; rw [Int32.lt_iff_toInt_lt] at h; have : (1 : Int32).toInt = 1 := rfl; have : (0 : Int32).toInt = 0 := rfl; omega)] at e
      have e : pX10_in a.toInt64 1 10 = _ := e
      rw [e]
      rfl
  · refine ⟨((-2), nI k, nI n, nI (2 ^ n), r_ins, nI o, nI n, nI (2 ^ n), u_ins), ((-2), nI n, nI k, nI o), ?_, ?_, rfl, hI1⟩
    · unfold pX9_ground
      rw [Int32.le_iff_toInt_le, nI_toInt (by omega)] at h
      rw [if_neg (by rw [Int32.lt_iff_toInt_lt]; have : (1 : Int32).toInt = 1 := rfl; omega), if_neg (by rw [Int32.le_iff_toInt_le]; have : (10 : Int32).toInt = 10 := rfl; omega)]
    · unfold pX10_ground
      have e := in_lit a 1 10
      rw [Int32.le_iff_toInt_le, nI_toInt (by omega)] at h
      rw [decide_eq_false (p := a ≤ 10) (by rw [Int32.le_iff_toInt_le]; have : (10 : Int32).toInt = 10 := rfl; omega), Bool.and_false] at e
      have e : pX10_in a.toInt64 1 10 = _ := e
      rw [e]
      rfl
  · rcases Nat.eq_zero_or_pos m with h0 | h0
    · subst h0
      refine ⟨((-2), nI k, nI n, nI (2 ^ n), r_ins, nI o, nI n, nI (2 ^ n), u_ins), ((-2), nI n, nI k, nI o), ?_, ?_, rfl, hI1⟩
      · unfold pX9_ground
        rw [if_pos (by decide)]
      · unfold pX10_ground
        have e := in_lit (nI 0) 1 10
        rw [decide_eq_false (by decide)] at e
        have e : pX10_in (nI 0).toInt64 1 10 = _ := e
        rw [e]
        rfl
    · have hm10 : m ≤ 10 := by omega
      refine ⟨(1, 0, nI m, nI (2 ^ m), (fun j => if j < 1024 then 0 else r_ins j), 0, nI m, nI (2 ^ m), (fun j => if j < 1024 then 0 else u_ins j)), (1, nI m, 0, 0), ?_, ?_, rfl, ?_⟩
      · unfold pX9_ground
        rw [if_neg (by rw [tI_1]; exact nI_nlt h0 (by omega)), if_pos (by show nI m ≤ nI 10; exact nI_le hm10 (by omega)), clear_eq hm10, Option.bind_some, clear_eq hm10, Option.bind_some]
      · unfold pX10_ground
        have e := in_lit (nI m) 1 10
        rw [decide_eq_true (by show nI 1 ≤ nI m; exact nI_le h0 (by omega)), decide_eq_true (by show nI m ≤ nI 10; exact nI_le hm10 (by omega))] at e
        have e : pX10_in (nI m).toInt64 1 10 = _ := e
        rw [e]
        rfl
      · have hpm := tI_p hm10
        exact ⟨m, 0, 0, M, S, O, C, ⟨h0, hm10, by omega, by omega, by omega⟩, ⟨rfl, rfl, rfl, rfl, rfl, rfl, rfl, rfl, rfl⟩, fun i hi => absurd hi (Nat.not_lt_zero i), fun i j h1 h2 => absurd h2 (Nat.not_lt_zero j), fun i hi => absurd hi (Nat.not_lt_zero i), fun x hx => if_pos (by omega), fun x hx => if_pos (by omega), hC, ⟨rfl, rfl⟩, rfl, hmk⟩
set_option maxHeartbeats 1000000 in
theorem op4 : OpOk4 := by
  intro t x_costs r_size r_n r_parts r_rows r_ins u_size u_n u_parts u_rows u_ins q_above q_below h_rows h_columns h_divisor h_rl h_cl f_bestBits f_bestCore f_bestCount w_mark w_marks z_left z_rest g_known k_having k_fewest y_n y_sets y_otherMany y_above y_below y_by y_list y_others y_costs y_table y_basis y_isSeen y_colour y_rest y_makes y_worst h_g a b ht hI
  have hI1 := Inv_up hI
  obtain ⟨n, k, o, M, S, O, C, ⟨hn1, hn2, hk, ho, hM⟩, ⟨rfl, rfl, rfl, rfl, rfl, rfl, rfl, rfl, rfl⟩, hR, hdist, hO, hins, huins, hC, ⟨rfl, rfl⟩, rfl, hmk⟩ := hI
  have hp := tI_p hn2
  have hp1 := tI_pp n
  have hRow : RowN n k S r_ins := ⟨hn2, by omega, fun i hi => (hR i hi).2.2.2, hins⟩
  have hRowO : RowN n o O u_ins := ⟨hn2, ho, fun i hi => (hO i hi).2.2, huins⟩
  have hY : YN n k S y_list := ⟨hn1, hn2, hk, fun i hi => ⟨(hR i hi).2.1, (hR i hi).2.2.2⟩⟩
  refine ⟨_, _, cmany_eq hRow, ?_, rfl, hI1⟩
  unfold pX10_meeters
  rw [many_eq hY]
  rfl
set_option maxHeartbeats 1000000 in
theorem op25 : OpOk25 := by
  intro t x_costs r_size r_n r_parts r_rows r_ins u_size u_n u_parts u_rows u_ins q_above q_below h_rows h_columns h_divisor h_rl h_cl f_bestBits f_bestCore f_bestCount w_mark w_marks z_left z_rest g_known k_having k_fewest y_n y_sets y_otherMany y_above y_below y_by y_list y_others y_costs y_table y_basis y_isSeen y_colour y_rest y_makes y_worst h_g a b ht hI
  have hI1 := Inv_up hI
  obtain ⟨n, k, o, M, S, O, C, ⟨hn1, hn2, hk, ho, hM⟩, ⟨rfl, rfl, rfl, rfl, rfl, rfl, rfl, rfl, rfl⟩, hR, hdist, hO, hins, huins, hC, ⟨rfl, rfl⟩, rfl, hmk⟩ := hI
  have hp := tI_p hn2
  have hp1 := tI_pp n
  have hRow : RowN n k S r_ins := ⟨hn2, by omega, fun i hi => (hR i hi).2.2.2, hins⟩
  have hRowO : RowN n o O u_ins := ⟨hn2, ho, fun i hi => (hO i hi).2.2, huins⟩
  have hY : YN n k S y_list := ⟨hn1, hn2, hk, fun i hi => ⟨(hR i hi).2.1, (hR i hi).2.2.2⟩⟩
  obtain ⟨r, hr⟩ : ∃ r, pX10_count (nI n) (nI k) (nI o) a = some r := by
    unfold pX10_count
    repeat' split
    all_goals exact ⟨_, rfl⟩
  exact ⟨r, r, hr, hr, rfl, hI1⟩
set_option maxHeartbeats 1000000 in
theorem op22 : OpOk22 := by
  intro t x_costs r_size r_n r_parts r_rows r_ins u_size u_n u_parts u_rows u_ins q_above q_below h_rows h_columns h_divisor h_rl h_cl f_bestBits f_bestCore f_bestCount w_mark w_marks z_left z_rest g_known k_having k_fewest y_n y_sets y_otherMany y_above y_below y_by y_list y_others y_costs y_table y_basis y_isSeen y_colour y_rest y_makes y_worst h_g a b ht hI
  have hI1 := Inv_up hI
  obtain ⟨n, k, o, M, S, O, C, ⟨hn1, hn2, hk, ho, hM⟩, ⟨rfl, rfl, rfl, rfl, rfl, rfl, rfl, rfl, rfl⟩, hR, hdist, hO, hins, huins, hC, ⟨rfl, rfl⟩, rfl, hmk⟩ := hI
  have hp := tI_p hn2
  have hp1 := tI_pp n
  have hRow : RowN n k S r_ins := ⟨hn2, by omega, fun i hi => (hR i hi).2.2.2, hins⟩
  have hRowO : RowN n o O u_ins := ⟨hn2, ho, fun i hi => (hO i hi).2.2, huins⟩
  have hY : YN n k S y_list := ⟨hn1, hn2, hk, fun i hi => ⟨(hR i hi).2.1, (hR i hi).2.2.2⟩⟩
  by_cases h0 : a = 0
  · subst h0
    exact ⟨_, _, by unfold pX9_part; rw [zo_eq]; rfl, by unfold pX10_part; rw [if_pos rfl], rfl, hI1⟩
  · by_cases h1 : a = 1
    · subst h1
      exact ⟨_, _, by unfold pX9_part; rw [zo_eq]; rfl, by unfold pX10_part; rw [if_neg (by decide), if_pos rfl], rfl, hI1⟩
    · exact ⟨_, _, by unfold pX9_part; rw [zo_eq, decide_eq_false h0, decide_eq_false h1]; rfl, by unfold pX10_part; rw [if_neg h0, if_neg h1], rfl, hI1⟩
set_option maxHeartbeats 1000000 in
theorem op8 : OpOk8 := by
  intro t x_costs r_size r_n r_parts r_rows r_ins u_size u_n u_parts u_rows u_ins q_above q_below h_rows h_columns h_divisor h_rl h_cl f_bestBits f_bestCore f_bestCount w_mark w_marks z_left z_rest g_known k_having k_fewest y_n y_sets y_otherMany y_above y_below y_by y_list y_others y_costs y_table y_basis y_isSeen y_colour y_rest y_makes y_worst h_g a b ht hI
  have hI1 := Inv_up hI
  obtain ⟨n, k, o, M, S, O, C, ⟨hn1, hn2, hk, ho, hM⟩, ⟨rfl, rfl, rfl, rfl, rfl, rfl, rfl, rfl, rfl⟩, hR, hdist, hO, hins, huins, hC, ⟨rfl, rfl⟩, rfl, hmk⟩ := hI
  have hp := tI_p hn2
  have hp1 := tI_pp n
  have hRow : RowN n k S r_ins := ⟨hn2, by omega, fun i hi => (hR i hi).2.2.2, hins⟩
  have hRowO : RowN n o O u_ins := ⟨hn2, ho, fun i hi => (hO i hi).2.2, huins⟩
  have hY : YN n k S y_list := ⟨hn1, hn2, hk, fun i hi => ⟨(hR i hi).2.1, (hR i hi).2.2.2⟩⟩
  refine ⟨(nI o, 0, nI n, nI (2 ^ n), (fun j => if j < 1024 then 0 else u_ins j)), (nI o, 0), ?_, rfl, rfl, ?_⟩
  · unfold pX9_otherless
    rw [clear_eq hn2, Option.bind_some]
  · exact ⟨n, k, 0, M, S, O, C, ⟨hn1, hn2, hk, by omega, by omega⟩, ⟨rfl, rfl, rfl, rfl, rfl, rfl, rfl, rfl, rfl⟩, hR, hdist, fun i hi => absurd hi (Nat.not_lt_zero i), hins, fun x hx => if_pos (by omega), hC, ⟨rfl, rfl⟩, rfl, hmk⟩
set_option maxHeartbeats 1000000 in
theorem op1 : OpOk1 := by
  intro t x_costs r_size r_n r_parts r_rows r_ins u_size u_n u_parts u_rows u_ins q_above q_below h_rows h_columns h_divisor h_rl h_cl f_bestBits f_bestCore f_bestCount w_mark w_marks z_left z_rest g_known k_having k_fewest y_n y_sets y_otherMany y_above y_below y_by y_list y_others y_costs y_table y_basis y_isSeen y_colour y_rest y_makes y_worst h_g a b ht hI
  have hI1 := Inv_up hI
  obtain ⟨n, k, o, M, S, O, C, ⟨hn1, hn2, hk, ho, hM⟩, ⟨rfl, rfl, rfl, rfl, rfl, rfl, rfl, rfl, rfl⟩, hR, hdist, hO, hins, huins, hC, ⟨rfl, rfl⟩, rfl, hmk⟩ := hI
  have hp := tI_p hn2
  have hp1 := tI_pp n
  have hRow : RowN n k S r_ins := ⟨hn2, by omega, fun i hi => (hR i hi).2.2.2, hins⟩
  have hRowO : RowN n o O u_ins := ⟨hn2, ho, fun i hi => (hO i hi).2.2, huins⟩
  have hY : YN n k S y_list := ⟨hn1, hn2, hk, fun i hi => ⟨(hR i hi).2.1, (hR i hi).2.2.2⟩⟩
  have hRi : ∀ i, i < k → r_rows i = nI (S i) ∧ S i < 1024 := fun i hi => ⟨(hR i hi).1, by have := (hR i hi).2.2.2; omega⟩
  have hYi : ∀ i, i < k → y_list i = nI (S i) ∧ S i < 1024 := fun i hi => ⟨(hR i hi).2.1, by have := (hR i hi).2.2.2; omega⟩
  have hbad : (a = 0 ∨ a < 0 ∨ nI (2 ^ n) ≤ a) → pX9_set 16 (nI k) (nI (2 ^ n)) r_rows r_ins a = some ((-2), nI k, r_rows, r_ins) := by
    intro h
    unfold pX9_set
    by_cases h0 : a = 0
    · rw [if_pos h0]
    · rw [if_neg h0, isPart_out (h.resolve_left h0)]
      rfl
  have hybad : (a = 0 ∨ a < 0 ∨ nI (2 ^ n) ≤ a) → pX10_set (nI n) (nI k) y_list a = some ((-2), nI k, y_list) := by
    intro h
    unfold pX10_set
    have e := in_lit a 1 (nI (2 ^ n - 1))
    have hf : (decide ((1 : Int32) ≤ a) && decide (a ≤ nI (2 ^ n - 1))) = false := by
      rw [Bool.and_eq_false_iff]
      rcases h with h | h | h
      · left; subst h; decide
      · left
        rw [decide_eq_false_iff_not, Int32.le_iff_toInt_le]
        rw [Int32.lt_iff_toInt_lt] at h
        have : (1 : Int32).toInt = 1 := rfl
        have : (0 : Int32).toInt = 0 := rfl
        omega
      · right
        rw [decide_eq_false_iff_not, Int32.le_iff_toInt_le, nI_toInt (by omega)]
        rw [Int32.le_iff_toInt_le, nI_toInt (by omega)] at h
        omega
    rw [hf] at e
    have e : pX10_in a.toInt64 1 (nI (2 ^ n - 1)).toInt64 = _ := e
    rw [yall_eq hn2, Option.bind_some, e]
    rfl
  rcases pk_ix a (n := 2 ^ n) (by omega) with h | h | ⟨x, hx, rfl⟩
  · exact ⟨_, _, hbad (Or.inr (Or.inl h)), hybad (Or.inr (Or.inl h)), rfl, hI1⟩
  · exact ⟨_, _, hbad (Or.inr (Or.inr h)), hybad (Or.inr (Or.inr h)), rfl, hI1⟩
  · rcases Nat.eq_zero_or_pos x with h0 | h0
    · subst h0
      exact ⟨_, _, hbad (Or.inl rfl), hybad (Or.inl rfl), rfl, hI1⟩
    · have e := in_lit (nI x) 1 (nI (2 ^ n - 1))
      rw [decide_eq_true (by show nI 1 ≤ nI x; exact nI_le h0 (by omega)), decide_eq_true (nI_le (by omega) (by omega))] at e
      have e : pX10_in (nI x).toInt64 1 (nI (2 ^ n - 1)).toInt64 = some 1 := e
      have hc0 : pX9_set 16 (nI k) (nI (2 ^ n)) r_rows r_ins (nI x) = if exb (fun i => S i == x) k then some ((-2), nI k, r_rows, r_ins) else Option.bind (pX6_isFull 16 (nI k)) (fun r3 => if r3 = 0 then (Option.bind (pX6_append 16 (nI k) (nI (2 ^ n)) r_rows r_ins (nI x)) (fun r4 => some (r4.1 - 1, r4.1, r4.2.1, r4.2.2))) else (some ((-4), nI k, r_rows, r_ins))) := by
        unfold pX9_set
        rw [if_neg (nI_ne0 h0 (by omega)), isPart_in (by omega) hx, Option.bind_some, if_neg (by decide), holds_eq (by omega) hk hRi (by omega), Option.bind_some, if_bI]
      have hy0 : pX10_set (nI n) (nI k) y_list (nI x) = if exb (fun i => S i == x) k then some ((-2), nI k, y_list) else (if nI k = 16 then (some ((-4), nI k, y_list)) else (gd (vp_in (nI k) 16) (some ((nI k + 1) - 1, nI k + 1, upd y_list (nI k).toNatClampNeg (nI x))))) := by
        unfold pX10_set
        rw [yall_eq hn2, Option.bind_some, e, Option.bind_some, if_neg (by decide), yset_scan hk hYi (by omega), Option.bind_some]
        cases exb (fun i => S i == x) k <;> rfl
      rw [hc0, hy0]
      cases hex : exb (fun i => S i == x) k with
      | true => exact ⟨_, _, rfl, rfl, rfl, hI1⟩
      | false =>
        simp only [Bool.false_eq_true, if_false]
        rcases Nat.lt_or_ge k 16 with hk16 | hk16
        · rw [isFull_no (by omega) hk16, Option.bind_some, if_pos rfl, append_eq (by omega) hk16 hn2 hx, Option.bind_some, if_neg (by show ¬ nI k = nI 16; rw [nI_eq (by omega) (by omega)]; omega), gd_t (vp_in_nI hk16 (by omega)), nI_clamp (by omega), nI_1]
          refine ⟨_, _, rfl, rfl, rfl, ?_⟩
          refine ⟨n, k + 1, o, M, put S k x, O, C, ⟨hn1, hn2, by omega, ho, by omega⟩, ⟨rfl, rfl, rfl, rfl, rfl, rfl, rfl, rfl, rfl⟩, fun i hi => ?_, fun i j hij hj => ?_, hO, ins_add hins, huins, hC, ⟨rfl, rfl⟩, rfl, hmk⟩
          · by_cases hik : i = k
            · subst hik
              rw [put_s]
              exact ⟨if_pos rfl, if_pos rfl, h0, hx⟩
            · rw [put_n hik]
              have := hR i (by omega)
              exact ⟨(if_neg hik).trans this.1, (if_neg hik).trans this.2.1, this.2.2⟩
          · have hno : ∀ i, i < k → S i ≠ x := fun i hi q => by
              have : exb (fun i => S i == x) k = true := exb_iff.mpr ⟨i, hi, by simp [q]⟩
              rw [hex] at this; cases this
            by_cases hjk : j = k
            · subst hjk
              rw [put_s, put_n (by omega)]
              exact hno i hij
            · rw [put_n hjk, put_n (by omega)]
              exact hdist i j hij (by omega)
        · have ek : k = 16 := by omega
          subst ek
          rw [isFull_yes (by omega), Option.bind_some, if_neg (by decide), if_pos (show nI 16 = 16 from rfl)]
          exact ⟨_, _, rfl, rfl, rfl, hI1⟩
set_option maxHeartbeats 1000000 in
theorem op2 : OpOk2 := by
  intro t x_costs r_size r_n r_parts r_rows r_ins u_size u_n u_parts u_rows u_ins q_above q_below h_rows h_columns h_divisor h_rl h_cl f_bestBits f_bestCore f_bestCount w_mark w_marks z_left z_rest g_known k_having k_fewest y_n y_sets y_otherMany y_above y_below y_by y_list y_others y_costs y_table y_basis y_isSeen y_colour y_rest y_makes y_worst h_g a b ht hI
  have hI1 := Inv_up hI
  obtain ⟨n, k, o, M, S, O, C, ⟨hn1, hn2, hk, ho, hM⟩, ⟨rfl, rfl, rfl, rfl, rfl, rfl, rfl, rfl, rfl⟩, hR, hdist, hO, hins, huins, hC, ⟨rfl, rfl⟩, rfl, hmk⟩ := hI
  have hp := tI_p hn2
  have hp1 := tI_pp n
  have hRow : RowN n k S r_ins := ⟨hn2, by omega, fun i hi => (hR i hi).2.2.2, hins⟩
  have hRowO : RowN n o O u_ins := ⟨hn2, ho, fun i hi => (hO i hi).2.2, huins⟩
  have hY : YN n k S y_list := ⟨hn1, hn2, hk, fun i hi => ⟨(hR i hi).2.1, (hR i hi).2.2.2⟩⟩
  rcases Nat.eq_zero_or_pos k with h0 | h0
  · subst h0
    exact ⟨((-3), 0, r_ins), ((-3), 0), by unfold pX9_drop; rw [if_pos (show nI 0 = 0 from rfl)]; rfl, by unfold pX10_drop; rw [if_pos (show nI 0 = 0 from rfl)]; rfl, rfl, hI1⟩
  · obtain ⟨j, rfl⟩ : ∃ j, k = j + 1 := ⟨k - 1, by omega⟩
    have hj := hR j (by omega)
    refine ⟨(nI (S j), nI j, insUp n (S j) (-1) r_ins), (nI (S j), nI j), ?_, ?_, rfl, ?_⟩
    · unfold pX9_drop
      rw [if_neg (nI_ne0 (by omega) (by omega)), removeLast_eq (by omega) (by omega) hn2 hj.1 hj.2.2.2, Option.bind_some]
    · unfold pX10_drop
      rw [if_neg (nI_ne0 (by omega) (by omega)), nI_pred, gd_t (vp_in_nI (by omega) (by omega)), nI_clamp (by omega), hj.2.1]
    · exact ⟨n, j, o, M, S, O, C, ⟨hn1, hn2, by omega, ho, by omega⟩, ⟨rfl, rfl, rfl, rfl, rfl, rfl, rfl, rfl, rfl⟩, fun i hi => hR i (by omega), fun i i2 h1 h2 => hdist i i2 h1 (by omega), hO, ins_del hins, huins, hC, ⟨rfl, rfl⟩, rfl, hmk⟩
set_option maxHeartbeats 1000000 in
theorem op3 : OpOk3 := by
  intro t x_costs r_size r_n r_parts r_rows r_ins u_size u_n u_parts u_rows u_ins q_above q_below h_rows h_columns h_divisor h_rl h_cl f_bestBits f_bestCore f_bestCount w_mark w_marks z_left z_rest g_known k_having k_fewest y_n y_sets y_otherMany y_above y_below y_by y_list y_others y_costs y_table y_basis y_isSeen y_colour y_rest y_makes y_worst h_g a b ht hI
  have hI1 := Inv_up hI
  obtain ⟨n, k, o, M, S, O, C, ⟨hn1, hn2, hk, ho, hM⟩, ⟨rfl, rfl, rfl, rfl, rfl, rfl, rfl, rfl, rfl⟩, hR, hdist, hO, hins, huins, hC, ⟨rfl, rfl⟩, rfl, hmk⟩ := hI
  have hp := tI_p hn2
  have hp1 := tI_pp n
  have hRow : RowN n k S r_ins := ⟨hn2, by omega, fun i hi => (hR i hi).2.2.2, hins⟩
  have hRowO : RowN n o O u_ins := ⟨hn2, ho, fun i hi => (hO i hi).2.2, huins⟩
  have hY : YN n k S y_list := ⟨hn1, hn2, hk, fun i hi => ⟨(hR i hi).2.1, (hR i hi).2.2.2⟩⟩
  have hel : ∀ v : Int32, (v < 0 ∨ nI n ≤ v) → pX9_isElement (nI n) v = some 0 ∧ pX10_isElement (nI n) v = some 0 := fun v h => elem_out hn1 hn2 h
  have hv : (b < 0 ∨ nI 21 ≤ b) ∨ ∃ j, j < 21 ∧ b = nI j := by
    rcases pk_ix b (n := 21) (by omega) with h | h | h
    · exact Or.inl (Or.inl h)
    · exact Or.inl (Or.inr h)
    · exact Or.inr h
  rcases pk_ix a (n := n) (by omega) with h | h | ⟨e, he, rfl⟩
  · exact ⟨((-2), x_costs), ((-2), y_costs), by unfold pX9_cost; rw [(hel a (Or.inl h)).1]; rfl, by unfold pX10_cost; rw [(hel a (Or.inl h)).2]; rfl, rfl, hI1⟩
  · exact ⟨((-2), x_costs), ((-2), y_costs), by unfold pX9_cost; rw [(hel a (Or.inr h)).1]; rfl, by unfold pX10_cost; rw [(hel a (Or.inr h)).2]; rfl, rfl, hI1⟩
  · have ex := (elem_in hn1 hn2 he).1
    have ey := (elem_in hn1 hn2 he).2
    have ei := in_lit b 0 20
    rcases hv with h | ⟨j, hj, rfl⟩
    · have hf : (decide ((0 : Int32) ≤ b) && decide (b ≤ 20)) = false := by
        rw [Bool.and_eq_false_iff, decide_eq_false_iff_not, decide_eq_false_iff_not, Int32.le_iff_toInt_le, Int32.le_iff_toInt_le]
        rw [Int32.lt_iff_toInt_lt, Int32.le_iff_toInt_le, nI_toInt (by omega)] at h
        have : (0 : Int32).toInt = 0 := rfl
        have : (20 : Int32).toInt = 20 := rfl
        omega
      rw [hf] at ei
      have ei : pX10_in b.toInt64 0 20 = some 0 := ei
      refine ⟨((-2), x_costs), ((-2), y_costs), ?_, ?_, rfl, hI1⟩
      · unfold pX9_cost
        rw [ex, Option.bind_some, if_neg (by decide)]
        by_cases hb : b < 0
        · rw [if_pos hb]
        · rw [if_neg hb, if_neg (by
            have h := h.resolve_left hb
            rw [Int32.le_iff_toInt_le, nI_toInt (by omega)] at h
            rw [Int32.le_iff_toInt_le]
            have : (20 : Int32).toInt = 20 := rfl
            omega)]
      · unfold pX10_cost
        rw [ey, Option.bind_some, if_neg (by decide), ei]
        rfl
    · rw [decide_eq_true (by show nI 0 ≤ nI j; exact nI_le (by omega) (by omega)), decide_eq_true (by show nI j ≤ nI 20; exact nI_le (by omega) (by omega))] at ei
      have ei : pX10_in (nI j).toInt64 0 20 = some 1 := ei
      have hce := hC e (by omega)
      refine ⟨(nI (C e), upd x_costs e (nI j)), (nI (C e), upd y_costs e (nI j)), ?_, ?_, rfl, ?_⟩
      · unfold pX9_cost
        rw [ex, Option.bind_some, if_neg (by decide), if_neg (nI_pos (by omega)), if_pos (by show nI j ≤ nI 20; exact nI_le (by omega) (by omega)), gd_t (vp_in_nI (by omega) (by omega)), gd_t (vp_in_nI (by omega) (by omega)), nI_clamp (by omega), hce.1]
      · unfold pX10_cost
        rw [ey, Option.bind_some, if_neg (by decide), ei, Option.bind_some, if_neg (by decide), gd_t (vp_in_nI (by omega) (by omega)), gd_t (vp_in_nI (by omega) (by omega)), nI_clamp (by omega), hce.2.1]
      · refine ⟨n, k, o, M, S, O, put C e j, ⟨hn1, hn2, hk, ho, by omega⟩, ⟨rfl, rfl, rfl, rfl, rfl, rfl, rfl, rfl, rfl⟩, hR, hdist, hO, hins, huins, fun i hi => ?_, ⟨rfl, rfl⟩, rfl, hmk⟩
        by_cases hie : i = e
        · subst hie
          rw [put_s]
          exact ⟨if_pos rfl, if_pos rfl, by omega⟩
        · rw [put_n hie]
          have := hC i hi
          exact ⟨(if_neg hie).trans this.1, (if_neg hie).trans this.2.1, this.2.2⟩
set_option maxHeartbeats 1000000 in
theorem op5 : OpOk5 := by
  intro t x_costs r_size r_n r_parts r_rows r_ins u_size u_n u_parts u_rows u_ins q_above q_below h_rows h_columns h_divisor h_rl h_cl f_bestBits f_bestCore f_bestCount w_mark w_marks z_left z_rest g_known k_having k_fewest y_n y_sets y_otherMany y_above y_below y_by y_list y_others y_costs y_table y_basis y_isSeen y_colour y_rest y_makes y_worst h_g a b ht hI
  have hI1 := Inv_up hI
  obtain ⟨n, k, o, M, S, O, C, ⟨hn1, hn2, hk, ho, hM⟩, ⟨rfl, rfl, rfl, rfl, rfl, rfl, rfl, rfl, rfl⟩, hR, hdist, hO, hins, huins, hC, ⟨rfl, rfl⟩, rfl, hmk⟩ := hI
  have hp := tI_p hn2
  have hp1 := tI_pp n
  have hRow : RowN n k S r_ins := ⟨hn2, by omega, fun i hi => (hR i hi).2.2.2, hins⟩
  have hRowO : RowN n o O u_ins := ⟨hn2, ho, fun i hi => (hO i hi).2.2, huins⟩
  have hY : YN n k S y_list := ⟨hn1, hn2, hk, fun i hi => ⟨(hR i hi).2.1, (hR i hi).2.2.2⟩⟩
  by_cases h0 : 0 ≤ a
  · have hx := lp_first (step := pX9_meeter_L11 (nI n) (nI (2 ^ n)) r_ins a) (fun i => (nI (ct (lst S k n) i), nI i)) (fun i => lst S k n i && decide (nI (ct (lst S k n) i) = a)) (fun i => Sum.inl (nI i)) (Sum.inr ()) (2 ^ n) (fun i hi => by
      unfold pX9_meeter_L11
      dsimp only
      rw [if_neg (nI_ge hi (by omega)), isLeast_eq hRow hi, Option.bind_some, if_bI, ct, nI_1, nI_1]
      cases lst S k n i with
      | false => simp
      | true =>
        by_cases hz : nI (ct (lst S k n) i) = a
        · simp [hz]
        · simp [hz]) (by
      unfold pX9_meeter_L11
      dsimp only
      rw [if_pos (nI_le (Nat.le_refl _) (by omega))])
    have hy := lp_first (step := pX10_meeter_L11 (nI n) (nI k) y_list a) (fun i => (nI (ct (lst S k n) i), nI i)) (fun i => lst S k n i && decide (nI (ct (lst S k n) i) = a)) (fun i => Sum.inl (nI i)) (Sum.inr ()) (2 ^ n) (fun i hi => by
      unfold pX10_meeter_L11
      rw [yall_eq hn2, Option.bind_some]
      dsimp only
      rw [if_neg (by rw [all_lt hn2 (by omega)]; omega), yleast_eq hY hi, Option.bind_some, if_bI, ct, nI_1, nI_1]
      cases lst S k n i with
      | false => simp
      | true =>
        by_cases hz : nI (ct (lst S k n) i) = a
        · simp [hz]
        · simp [hz]) (by
      unfold pX10_meeter_L11
      rw [yall_eq hn2, Option.bind_some]
      dsimp only
      rw [if_pos ((all_lt hn2 hp).mpr (Nat.le_refl _))])
    have hx : lp (pX9_meeter_L11 (nI n) (nI (2 ^ n)) r_ins a) (0, 0) = _ := hx
    have hy : lp (pX10_meeter_L11 (nI n) (nI k) y_list a) (0, 0) = _ := hy
    unfold pX9_meeter pX10_meeter
    rw [if_pos h0, if_pos h0, hx, hy]
    cases fst (fun i => lst S k n i && decide (nI (ct (lst S k n) i) = a)) (2 ^ n) with
    | none => exact ⟨_, _, rfl, rfl, rfl, hI1⟩
    | some j => exact ⟨_, _, rfl, rfl, rfl, hI1⟩
  · exact ⟨(-2), (-2), by unfold pX9_meeter; rw [if_neg h0], by unfold pX10_meeter; rw [if_neg h0], rfl, hI1⟩
set_option maxHeartbeats 1000000 in
theorem op7 : OpOk7 := by
  intro t x_costs r_size r_n r_parts r_rows r_ins u_size u_n u_parts u_rows u_ins q_above q_below h_rows h_columns h_divisor h_rl h_cl f_bestBits f_bestCore f_bestCount w_mark w_marks z_left z_rest g_known k_having k_fewest y_n y_sets y_otherMany y_above y_below y_by y_list y_others y_costs y_table y_basis y_isSeen y_colour y_rest y_makes y_worst h_g a b ht hI
  have hI1 := Inv_up hI
  obtain ⟨n, k, o, M, S, O, C, ⟨hn1, hn2, hk, ho, hM⟩, ⟨rfl, rfl, rfl, rfl, rfl, rfl, rfl, rfl, rfl⟩, hR, hdist, hO, hins, huins, hC, ⟨rfl, rfl⟩, rfl, hmk⟩ := hI
  have hp := tI_p hn2
  have hp1 := tI_pp n
  have hRow : RowN n k S r_ins := ⟨hn2, by omega, fun i hi => (hR i hi).2.2.2, hins⟩
  have hRowO : RowN n o O u_ins := ⟨hn2, ho, fun i hi => (hO i hi).2.2, huins⟩
  have hY : YN n k S y_list := ⟨hn1, hn2, hk, fun i hi => ⟨(hR i hi).2.1, (hR i hi).2.2.2⟩⟩
  have hRi : ∀ i, i < o → u_rows i = nI (O i) ∧ O i < 1024 := fun i hi => ⟨(hO i hi).1, by have := (hO i hi).2.2; omega⟩
  have hYi : ∀ i, i < o → y_others i = nI (O i) ∧ O i < 1024 := fun i hi => ⟨(hO i hi).2.1, by have := (hO i hi).2.2; omega⟩
  have hbad : (a < 0 ∨ nI (2 ^ n) ≤ a) → pX9_other 40 (nI o) (nI (2 ^ n)) u_rows u_ins a = some ((-2), nI o, u_rows, u_ins) := by
    intro h
    unfold pX9_other
    rw [isPart_out h]
    rfl
  have hybad : (a < 0 ∨ nI (2 ^ n) ≤ a) → pX10_other (nI n) (nI o) y_others a = some ((-2), nI o, y_others) := by
    intro h
    unfold pX10_other pX10_isPart
    have e := in_lit a 0 (nI (2 ^ n - 1))
    have hf : (decide ((0 : Int32) ≤ a) && decide (a ≤ nI (2 ^ n - 1))) = false := by
      rw [Bool.and_eq_false_iff, decide_eq_false_iff_not, decide_eq_false_iff_not, Int32.le_iff_toInt_le, Int32.le_iff_toInt_le, nI_toInt (by omega)]
      rw [Int32.lt_iff_toInt_lt, Int32.le_iff_toInt_le, nI_toInt (by omega)] at h
      have : (0 : Int32).toInt = 0 := rfl
      omega
    rw [hf] at e
    have e : pX10_in a.toInt64 0 (nI (2 ^ n - 1)).toInt64 = some 0 := e
    rw [yall_eq hn2, Option.bind_some, e, Option.bind_some, gd_t nar0]
    rfl
  rcases pk_ix a (n := 2 ^ n) (by omega) with h | h | ⟨x, hx, rfl⟩
  · exact ⟨_, _, hbad (Or.inl h), hybad (Or.inl h), rfl, hI1⟩
  · exact ⟨_, _, hbad (Or.inr h), hybad (Or.inr h), rfl, hI1⟩
  · have e := in_lit (nI x) 0 (nI (2 ^ n - 1))
    rw [decide_eq_true (by show nI 0 ≤ nI x; exact nI_le (by omega) (by omega)), decide_eq_true (nI_le (by omega) (by omega))] at e
    have e : pX10_in (nI x).toInt64 0 (nI (2 ^ n - 1)).toInt64 = some 1 := e
    have hc0 : pX9_other 40 (nI o) (nI (2 ^ n)) u_rows u_ins (nI x) = if exb (fun i => O i == x) o then some ((-2), nI o, u_rows, u_ins) else Option.bind (pX6_isFull 40 (nI o)) (fun r3 => if r3 = 0 then (Option.bind (pX6_append 40 (nI o) (nI (2 ^ n)) u_rows u_ins (nI x)) (fun r4 => some (r4.1, r4.1, r4.2.1, r4.2.2))) else (some ((-4), nI o, u_rows, u_ins))) := by
      unfold pX9_other
      rw [isPart_in (by omega) hx, Option.bind_some, if_neg (by decide), holds_eq (by omega) ho hRi (by omega), Option.bind_some, if_bI]
    have hy0 : pX10_other (nI n) (nI o) y_others (nI x) = if exb (fun i => O i == x) o then some ((-2), nI o, y_others) else (if nI o = 40 then (some ((-4), nI o, y_others)) else (gd (vp_in (nI o) 40) (some (nI o + 1, nI o + 1, upd y_others (nI o).toNatClampNeg (nI x))))) := by
      unfold pX10_other pX10_isPart
      rw [yall_eq hn2, Option.bind_some, e, Option.bind_some, gd_t nar1, Option.bind_some, if_neg (by decide), yother_scan ho hYi (by omega), Option.bind_some]
      cases exb (fun i => O i == x) o <;> rfl
    rw [hc0, hy0]
    cases hex : exb (fun i => O i == x) o with
    | true => exact ⟨_, _, rfl, rfl, rfl, hI1⟩
    | false =>
      simp only [Bool.false_eq_true, if_false]
      rcases Nat.lt_or_ge o 40 with hk16 | hk16
      · rw [isFull_no (by omega) hk16, Option.bind_some, if_pos rfl, append_eq (by omega) hk16 hn2 hx, Option.bind_some, if_neg (by show ¬ nI o = nI 40; rw [nI_eq (by omega) (by omega)]; omega), gd_t (vp_in_nI hk16 (by omega)), nI_clamp (by omega), nI_1]
        refine ⟨_, _, rfl, rfl, rfl, ?_⟩
        refine ⟨n, k, o + 1, M, S, put O o x, C, ⟨hn1, hn2, hk, by omega, by omega⟩, ⟨rfl, rfl, rfl, rfl, rfl, rfl, rfl, rfl, rfl⟩, hR, hdist, fun i hi => ?_, hins, ins_add huins, hC, ⟨rfl, rfl⟩, rfl, hmk⟩
        by_cases hik : i = o
        · subst hik
          rw [put_s]
          exact ⟨if_pos rfl, if_pos rfl, hx⟩
        · rw [put_n hik]
          have := hO i (by omega)
          exact ⟨(if_neg hik).trans this.1, (if_neg hik).trans this.2.1, this.2.2⟩
      · have ek : o = 40 := by omega
        subst ek
        rw [isFull_yes (by omega), Option.bind_some, if_neg (by decide), if_pos (show nI 40 = 40 from rfl)]
        exact ⟨_, _, rfl, rfl, rfl, hI1⟩
set_option maxHeartbeats 1000000 in
theorem op10 : OpOk10 := by
  intro t x_costs r_size r_n r_parts r_rows r_ins u_size u_n u_parts u_rows u_ins q_above q_below h_rows h_columns h_divisor h_rl h_cl f_bestBits f_bestCore f_bestCount w_mark w_marks z_left z_rest g_known k_having k_fewest y_n y_sets y_otherMany y_above y_below y_by y_list y_others y_costs y_table y_basis y_isSeen y_colour y_rest y_makes y_worst h_g a b ht hI
  have hI1 := Inv_up hI
  obtain ⟨n, k, o, M, S, O, C, ⟨hn1, hn2, hk, ho, hM⟩, ⟨rfl, rfl, rfl, rfl, rfl, rfl, rfl, rfl, rfl⟩, hR, hdist, hO, hins, huins, hC, ⟨rfl, rfl⟩, rfl, hmk⟩ := hI
  have hp := tI_p hn2
  have hp1 := tI_pp n
  have hRow : RowN n k S r_ins := ⟨hn2, by omega, fun i hi => (hR i hi).2.2.2, hins⟩
  have hRowO : RowN n o O u_ins := ⟨hn2, ho, fun i hi => (hO i hi).2.2, huins⟩
  have hY : YN n k S y_list := ⟨hn1, hn2, hk, fun i hi => ⟨(hR i hi).2.1, (hR i hi).2.2.2⟩⟩
  have hx := lp_first (step := pX9_witness_L12 (nI (2 ^ n)) r_ins u_ins) (fun i => nI i) (fun x => hsb S k x == !mt O o x) (fun i => Sum.inl (nI i)) (Sum.inr ()) (2 ^ n) (fun i hi => by
    unfold pX9_witness_L12
    rw [if_neg (nI_ge hi (by omega)), hasSetIn_eq hRow hi, Option.bind_some, tI_1, pk_sub hp1, tI_xor, hasSetIn_eq hRowO (xor_lt (by omega) hi), Option.bind_some, hsb_compl hRowO.2.2.1, ← tI_1, nI_1]
    cases hsb S k i <;> cases mt O o i <;> rfl) (by
    unfold pX9_witness_L12
    rw [if_pos (nI_le (Nat.le_refl _) (by omega))])
  have hy := lp_first (step := pX10_witness_L2 (nI n) (nI k) (nI o) y_list y_others) (fun i => nI i) (fun x => hsb S k x == !mt O o x) (fun i => Sum.inl (nI i)) (Sum.inr ()) (2 ^ n) (fun i hi => by
    unfold pX10_witness_L2
    rw [yall_eq hn2, Option.bind_some, if_neg (by rw [all_lt hn2 (by omega)]; omega), ywit1 hY hi, Option.bind_some, ywit2 hn2 ho (fun i hi => (hO i hi).2) hi, Option.bind_some, nI_1]
    cases hsb S k i <;> cases mt O o i <;> rfl) (by
    unfold pX10_witness_L2
    rw [yall_eq hn2, Option.bind_some, if_pos ((all_lt hn2 hp).mpr (Nat.le_refl _))])
  have hx : lp (pX9_witness_L12 (nI (2 ^ n)) r_ins u_ins) 0 = _ := hx
  have hy : lp (pX10_witness_L2 (nI n) (nI k) (nI o) y_list y_others) 0 = _ := hy
  unfold pX9_witness pX10_witness
  rw [hx, hy]
  cases fst (fun x => hsb S k x == !mt O o x) (2 ^ n) with
  | none => exact ⟨_, _, rfl, rfl, rfl, hI1⟩
  | some j => exact ⟨_, _, rfl, rfl, rfl, hI1⟩
set_option maxHeartbeats 1000000 in
theorem op17 : OpOk17 := by
  intro t x_costs r_size r_n r_parts r_rows r_ins u_size u_n u_parts u_rows u_ins q_above q_below h_rows h_columns h_divisor h_rl h_cl f_bestBits f_bestCore f_bestCount w_mark w_marks z_left z_rest g_known k_having k_fewest y_n y_sets y_otherMany y_above y_below y_by y_list y_others y_costs y_table y_basis y_isSeen y_colour y_rest y_makes y_worst h_g a b ht hI
  have hI1 := Inv_up hI
  obtain ⟨n, k, o, M, S, O, C, ⟨hn1, hn2, hk, ho, hM⟩, ⟨rfl, rfl, rfl, rfl, rfl, rfl, rfl, rfl, rfl⟩, hR, hdist, hO, hins, huins, hC, ⟨rfl, rfl⟩, rfl, hmk⟩ := hI
  have hp := tI_p hn2
  have hp1 := tI_pp n
  have hRow : RowN n k S r_ins := ⟨hn2, by omega, fun i hi => (hR i hi).2.2.2, hins⟩
  have hRowO : RowN n o O u_ins := ⟨hn2, ho, fun i hi => (hO i hi).2.2, huins⟩
  have hY : YN n k S y_list := ⟨hn1, hn2, hk, fun i hi => ⟨(hR i hi).2.1, (hR i hi).2.2.2⟩⟩
  have hx := lp_first (step := pX9_colouring_L12 (nI (2 ^ n)) r_ins) (fun i => nI i) (fun x => mt S k x && !hsb S k x) (fun i => Sum.inl (nI i)) (Sum.inr ()) (2 ^ n) (fun i hi => by
    unfold pX9_colouring_L12
    rw [if_neg (nI_ge hi (by omega)), hasSetIn_eq hRow hi, Option.bind_some, if_bI, tI_1, pk_sub hp1, tI_xor, hasSetIn_eq hRow (xor_lt (by omega) hi), Option.bind_some, hsb_compl hRow.2.2.1, ← tI_1, nI_1]
    cases hsb S k i <;> cases mt S k i <;> rfl) (by
    unfold pX9_colouring_L12
    rw [if_pos (nI_le (Nat.le_refl _) (by omega))])
  have hy := lp_first (step := pX10_colouring_L2 (nI n) (nI k) y_list) (fun i => nI i) (fun x => mt S k x && !hsb S k x) (fun i => Sum.inl (nI i)) (Sum.inr ()) (2 ^ n) (fun i hi => by
    unfold pX10_colouring_L2
    rw [yall_eq hn2, Option.bind_some, if_neg (by rw [all_lt hn2 (by omega)]; omega), ycol hY hi, Option.bind_some, if_bI, nI_1]
    cases hsb S k i <;> cases mt S k i <;> rfl) (by
    unfold pX10_colouring_L2
    rw [yall_eq hn2, Option.bind_some, if_pos ((all_lt hn2 hp).mpr (Nat.le_refl _))])
  have hx : lp (pX9_colouring_L12 (nI (2 ^ n)) r_ins) 0 = _ := hx
  have hy : lp (pX10_colouring_L2 (nI n) (nI k) y_list) 0 = _ := hy
  unfold pX9_colouring pX10_colouring
  rw [hx, hy]
  cases fst (fun x => mt S k x && !hsb S k x) (2 ^ n) with
  | none => exact ⟨_, _, rfl, rfl, rfl, hI1⟩
  | some j => exact ⟨_, _, rfl, rfl, rfl, hI1⟩
set_option maxHeartbeats 1000000 in
theorem op23 : OpOk23 := by
  intro t x_costs r_size r_n r_parts r_rows r_ins u_size u_n u_parts u_rows u_ins q_above q_below h_rows h_columns h_divisor h_rl h_cl f_bestBits f_bestCore f_bestCount w_mark w_marks z_left z_rest g_known k_having k_fewest y_n y_sets y_otherMany y_above y_below y_by y_list y_others y_costs y_table y_basis y_isSeen y_colour y_rest y_makes y_worst h_g a b ht hI
  have hI1 := Inv_up hI
  obtain ⟨n, k, o, M, S, O, C, ⟨hn1, hn2, hk, ho, hM⟩, ⟨rfl, rfl, rfl, rfl, rfl, rfl, rfl, rfl, rfl⟩, hR, hdist, hO, hins, huins, hC, ⟨rfl, rfl⟩, rfl, hmk⟩ := hI
  have hp := tI_p hn2
  have hp1 := tI_pp n
  have hRow : RowN n k S r_ins := ⟨hn2, by omega, fun i hi => (hR i hi).2.2.2, hins⟩
  have hRowO : RowN n o O u_ins := ⟨hn2, ho, fun i hi => (hO i hi).2.2, huins⟩
  have hY : YN n k S y_list := ⟨hn1, hn2, hk, fun i hi => ⟨(hR i hi).2.1, (hR i hi).2.2.2⟩⟩
  rcases pk_ix a (n := n) (by omega) with h | h | ⟨e, he, rfl⟩
  · exact ⟨(-2), (-2), by unfold pX9_swings; rw [(elem_out hn1 hn2 (Or.inl h)).1]; rfl, by unfold pX10_swings; rw [(elem_out hn1 hn2 (Or.inl h)).2]; rfl, rfl, hI1⟩
  · exact ⟨(-2), (-2), by unfold pX9_swings; rw [(elem_out hn1 hn2 (Or.inr h)).1]; rfl, by unfold pX10_swings; rw [(elem_out hn1 hn2 (Or.inr h)).2]; rfl, rfl, hI1⟩
  · have hx := lp_det (step := pX9_swings_L15 (nI (2 ^ n)) r_ins (nI e)) (fun i => (nI (ct (fun x => !x.testBit e && !mt S k x && mt S k (x ||| 2 ^ e)) i), nI i)) (nI (ct (fun x => !x.testBit e && !mt S k x && mt S k (x ||| 2 ^ e)) (2 ^ n))) (2 ^ n) (fun i hi => by
      unfold pX9_swings_L15
      dsimp only
      rw [if_neg (nI_ge hi (by omega)), has_eq (by omega) (by omega), Option.bind_some, if_bI, isMeeter_eq hRow hi, Option.bind_some, if_bI, tI_shl (by omega), tI_or, isMeeter_eq hRow (or_lt hi (tp_lt he)), Option.bind_some, if_bI, ct, nI_1]
      cases i.testBit e <;> cases mt S k i <;> cases mt S k (i ||| 2 ^ e) <;> simp [nI_1]) (by
      unfold pX9_swings_L15
      dsimp only
      rw [if_pos (nI_le (Nat.le_refl _) (by omega))])
    have hy := lp_det (step := pX10_swings_L15 (nI n) (nI k) y_list (nI e)) (fun i => (nI (ct (fun x => !x.testBit e && !mt S k x && mt S k (x ||| 2 ^ e)) i), nI i)) (nI (ct (fun x => !x.testBit e && !mt S k x && mt S k (x ||| 2 ^ e)) (2 ^ n))) (2 ^ n) (fun i hi => by
      unfold pX10_swings_L15 pX10_swings_J56_4
      rw [yall_eq hn2, Option.bind_some]
      dsimp only
      rw [if_neg (by rw [all_lt hn2 (by omega)]; omega), ymeets_eq hY hi, Option.bind_some, if_bI, tI_shl (by omega), tI_or, ymeets_eq hY (or_lt hi (tp_lt he)), Option.bind_some, if_bI, ct, nI_1]
      cases hb : i.testBit e with
      | true =>
        rw [if_neg (fun q => by rw [tI_bit0 (by omega) (by omega), hb] at q; cases q)]
        simp [tI_0, nI_add]
      | false =>
        rw [if_pos ((tI_bit0 (by omega) (by omega)).mpr hb)]
        cases mt S k i <;> cases mt S k (i ||| 2 ^ e) <;> simp [tI_1, tI_0, nI_add]) (by
      unfold pX10_swings_L15
      rw [yall_eq hn2, Option.bind_some]
      dsimp only
      rw [if_pos ((all_lt hn2 hp).mpr (Nat.le_refl _))])
    have hx : lp (pX9_swings_L15 (nI (2 ^ n)) r_ins (nI e)) (0, 0) = _ := hx
    have hy : lp (pX10_swings_L15 (nI n) (nI k) y_list (nI e)) (0, 0) = _ := hy
    refine ⟨nI (ct (fun x => !x.testBit e && !mt S k x && mt S k (x ||| 2 ^ e)) (2 ^ n)), nI (ct (fun x => !x.testBit e && !mt S k x && mt S k (x ||| 2 ^ e)) (2 ^ n)), ?_, ?_, rfl, hI1⟩
    · unfold pX9_swings
      rw [(elem_in hn1 hn2 he).1, Option.bind_some, if_neg (by decide), hx]
      rfl
    · unfold pX10_swings
      rw [(elem_in hn1 hn2 he).2, Option.bind_some, if_neg (by decide), hy]
      rfl
