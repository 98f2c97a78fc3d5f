set_option maxHeartbeats 1000000 in
theorem op12 : OpOk12 := by
  intro t x_costs r_size r_n r_parts r_rows r_ins u_size u_n u_parts u_rows u_ins q_above q_below h_rows h_columns h_divisor h_rl h_cl f_bestBits f_bestCore f_bestCount w_mark w_marks z_left z_rest g_known k_having k_fewest y_n y_sets y_otherMany y_above y_below y_by y_list y_others y_costs y_table y_basis y_isSeen y_colour y_rest y_makes y_worst h_g a b ht hI
  have hI1 := Inv_up hI
  obtain ⟨n, k, o, M, S, O, C, ⟨hn1, hn2, hk, ho, hM⟩, ⟨rfl, rfl, rfl, rfl, rfl, rfl, rfl, rfl, rfl⟩, hR, hdist, hO, hins, huins, hC, ⟨rfl, rfl⟩, rfl, hmk⟩ := hI
  have hp := tI_p hn2
  have hp1 := tI_pp n
  have hRow : RowN n k S r_ins := ⟨hn2, by omega, fun i hi => (hR i hi).2.2.2, hins⟩
  have hRowO : RowN n o O u_ins := ⟨hn2, ho, fun i hi => (hO i hi).2.2, huins⟩
  have hY : YN n k S y_list := ⟨hn1, hn2, hk, fun i hi => ⟨(hR i hi).2.1, (hR i hi).2.2.2⟩⟩
  have hRi : ∀ i, i < k → r_rows i = nI (S i) ∧ S i < 2 ^ n := fun i hi => ⟨(hR i hi).1, (hR i hi).2.2.2⟩
  exact ⟨_, _, by unfold pX9_apart; rw [c_ap hk hn2 hRi]; rfl, by unfold pX10_apart; rw [y_ap hY]; rfl, rfl, hI1⟩
set_option maxHeartbeats 1000000 in
theorem op13 : OpOk13 := by
  intro t x_costs r_size r_n r_parts r_rows r_ins u_size u_n u_parts u_rows u_ins q_above q_below h_rows h_columns h_divisor h_rl h_cl f_bestBits f_bestCore f_bestCount w_mark w_marks z_left z_rest g_known k_having k_fewest y_n y_sets y_otherMany y_above y_below y_by y_list y_others y_costs y_table y_basis y_isSeen y_colour y_rest y_makes y_worst h_g a b ht hI
  have hI1 := Inv_up hI
  obtain ⟨n, k, o, M, S, O, C, ⟨hn1, hn2, hk, ho, hM⟩, ⟨rfl, rfl, rfl, rfl, rfl, rfl, rfl, rfl, rfl⟩, hR, hdist, hO, hins, huins, hC, ⟨rfl, rfl⟩, rfl, hmk⟩ := hI
  have hp := tI_p hn2
  have hp1 := tI_pp n
  have hRow : RowN n k S r_ins := ⟨hn2, by omega, fun i hi => (hR i hi).2.2.2, hins⟩
  have hRowO : RowN n o O u_ins := ⟨hn2, ho, fun i hi => (hO i hi).2.2, huins⟩
  have hY : YN n k S y_list := ⟨hn1, hn2, hk, fun i hi => ⟨(hR i hi).2.1, (hR i hi).2.2.2⟩⟩
  have hRi : ∀ i, i < k → r_rows i = nI (S i) ∧ S i < 2 ^ n := fun i hi => ⟨(hR i hi).1, (hR i hi).2.2.2⟩
  have hS : ∀ i, i < k → S i < 2 ^ n := fun i hi => (hR i hi).2.2.2
  cases hz : (decide (a = 0) || decide (a = 1)) with
  | false => exact ⟨((-2), f_bestBits, f_bestCore, f_bestCount), (-2), by unfold pX9_star; rw [zo_eq, hz]; rfl, by unfold pX10_star; rw [in01, hz]; rfl, rfl, hI1⟩
  | true =>
    obtain ⟨w, rfl⟩ := zo_cases hz
    by_cases hk2 : 2 ≤ k
    · have hcore := st_core hk2 hk hS
      have h16 : 2 ^ k ≤ 65536 := by
        have := Nat.pow_le_pow_right (n := 2) (by omega) hk
        simpa using this
      have hb := (scn_b (P := stB n k S) (K := stK n k S) (x := 0) (N := 65536) (s := (0, 0, 1)) (by show 0 < 65536; omega) (by show 1 ≤ 16; omega) (d := 2 ^ k) (by omega)).1
      have hcm := ycommon_eq hY hb
      generalize hsc : scn (stB n k S) (stK n k S) 0 (2 ^ k) (0, 0, 1) = sc at *
      have hcs := c_st hk hn2 hRi f_bestBits f_bestCore f_bestCount
      have hys := y_st2 hY
      rw [hsc] at hcs hys
      cases w with
      | false =>
        refine ⟨(nI sc.1, nI sc.1, sc.2.1, nI sc.2.2), nI sc.1, ?_, ?_, rfl, hI1⟩
        · unfold pX9_star
          rw [zo_eq, hz, Option.bind_some, if_bI, if_pos rfl, if_pos (by show nI 2 ≤ _; exact nI_le hk2 (by omega)), hcs]
          rfl
        · unfold pX10_star
          rw [in01, hz, Option.bind_some, if_bI, if_pos rfl, if_pos (by show nI 2 ≤ _; exact nI_le hk2 (by omega)), hys]
          rfl
      | true =>
        refine ⟨(sc.2.1, nI sc.1, sc.2.1, nI sc.2.2), nI (cm n k S sc.1), ?_, ?_, hcore, hI1⟩
        · unfold pX9_star
          rw [zo_eq, hz, Option.bind_some, if_bI, if_pos rfl, if_pos (by show nI 2 ≤ _; exact nI_le hk2 (by omega)), hcs]
          rfl
        · unfold pX10_star
          rw [in01, hz, Option.bind_some, if_bI, if_pos rfl, if_pos (by show nI 2 ≤ _; exact nI_le hk2 (by omega)), hys, Option.bind_some, if_neg (by decide), hcm]
          rfl
    · refine ⟨((-1), f_bestBits, f_bestCore, f_bestCount), (-1), ?_, ?_, rfl, hI1⟩
      · unfold pX9_star
        rw [zo_eq, hz, Option.bind_some, if_bI, if_pos rfl, if_neg (by show ¬ nI 2 ≤ _; exact nI_ge (by omega) (by omega))]
      · unfold pX10_star
        rw [in01, hz, Option.bind_some, if_bI, if_pos rfl, if_neg (by show ¬ nI 2 ≤ _; exact nI_ge (by omega) (by omega))]
