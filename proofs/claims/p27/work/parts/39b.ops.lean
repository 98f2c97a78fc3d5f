set_option maxHeartbeats 1000000 in
theorem op15 : OpOk15 := by
  intro t x_costs r_size r_n r_parts r_rows r_ins u_size u_n u_parts u_rows u_ins q_above q_below h_rows h_columns h_divisor h_rl h_cl f_bestBits f_bestCore f_bestCount w_mark w_marks z_left z_rest g_known k_having k_fewest y_n y_sets y_otherMany y_above y_below y_by y_list y_others y_costs y_table y_basis y_isSeen y_colour y_rest y_makes y_worst h_g a b ht hI
  have hI1 := Inv_up hI
  obtain ⟨n, k, o, M, S, O, C, ⟨hn1, hn2, hk, ho, hM⟩, ⟨rfl, rfl, rfl, rfl, rfl, rfl, rfl, rfl, rfl⟩, hR, hdist, hO, hins, huins, hC, ⟨rfl, rfl⟩, rfl, hmk⟩ := hI
  have hp := tI_p hn2
  have hp1 := tI_pp n
  have hRow : RowN n k S r_ins := ⟨hn2, by omega, fun i hi => (hR i hi).2.2.2, hins⟩
  have hRowO : RowN n o O u_ins := ⟨hn2, ho, fun i hi => (hO i hi).2.2, huins⟩
  have hY : YN n k S y_list := ⟨hn1, hn2, hk, fun i hi => ⟨(hR i hi).2.1, (hR i hi).2.2.2⟩⟩
  have hRi : ∀ i, i < k → r_rows i = nI (S i) ∧ S i < 2 ^ n := fun i hi => ⟨(hR i hi).1, (hR i hi).2.2.2⟩
  cases hz : (decide (a = 0) || decide (a = 1)) with
  | false => exact ⟨((-2), nI M, w_marks), ((-2), y_isSeen), by unfold pX9_dimension; rw [zo_eq, hz]; rfl, by unfold pX10_dimension; rw [in01, hz]; rfl, rfl, hI1⟩
  | true =>
    obtain ⟨w, rfl⟩ := zo_cases hz
    rcases Nat.eq_zero_or_pos k with h0 | h0
    · subst h0
      obtain ⟨g, hg⟩ := ydim0 hY y_isSeen
      refine ⟨((-1), nI M, w_marks), ((-1), g), ?_, ?_, rfl, hI1⟩
      · unfold pX9_dimension
        rw [zo_eq, hz, Option.bind_some, if_bI, if_pos rfl, if_pos (show nI 0 = 0 from rfl)]
      · unfold pX10_dimension pX10_dimension_J97
        rw [in01, hz, Option.bind_some, if_bI, if_pos rfl, hg, Option.bind_some]
        dsimp only
        by_cases hw : bI w = 1
        · rw [if_pos hw]
        · rw [if_neg hw, if_pos rfl]
    · obtain ⟨M', marks', m1, m2, m3⟩ := cdim_eq hn1 hn2 h0 hk (by omega) hRi hmk
      obtain ⟨g, hg⟩ := ydim_eq hY h0 y_isSeen
      have hbl := bd_lt (S := S) (k := k) (2 ^ n)
      have hIn : ∀ r : Int32, Inv (t + 1) x_costs (nI k) (nI n) (nI (2 ^ n)) r_rows r_ins (nI o) (nI n) (nI (2 ^ n)) u_rows u_ins q_above q_below (nI M') marks' (nI n) (nI k) (nI o) q_above q_below y_list y_others y_costs := fun _ => ⟨n, k, o, M', S, O, C, ⟨hn1, hn2, hk, ho, by omega⟩, ⟨rfl, rfl, rfl, rfl, rfl, rfl, rfl, rfl, rfl⟩, hR, hdist, hO, hins, huins, hC, ⟨rfl, rfl⟩, rfl, m2⟩
      cases w with
      | false =>
        refine ⟨(nI (pop (bd S k (2 ^ n))), nI M', marks'), (nI (pop (bd S k (2 ^ n))), g), ?_, ?_, rfl, hIn 0⟩
        · unfold pX9_dimension
          rw [zo_eq, hz, Option.bind_some, if_bI, if_pos rfl, if_neg (nI_ne0 h0 (by omega)), m3, Option.bind_some, if_pos bI_f]
          dsimp only
          rw [bc_eq (by omega), Option.bind_some]
        · unfold pX10_dimension
          rw [in01, hz, Option.bind_some, if_bI, if_pos rfl, hg, Option.bind_some, if_neg (by decide)]
          dsimp only
          rw [if_neg (nI_nm1 (by omega)), size_eq (by omega), Option.bind_some]
      | true =>
        refine ⟨(nI (bd S k (2 ^ n)), nI M', marks'), (nI (bd S k (2 ^ n)), g), ?_, ?_, rfl, hIn 0⟩
        · unfold pX9_dimension
          rw [zo_eq, hz, Option.bind_some, if_bI, if_pos rfl, if_neg (nI_ne0 h0 (by omega)), m3, Option.bind_some, if_neg (by decide)]
        · unfold pX10_dimension pX10_dimension_J97
          rw [in01, hz, Option.bind_some, if_bI, if_pos rfl, hg, Option.bind_some, if_pos bI_t]
