set_option maxHeartbeats 1000000 in
theorem op18 : OpOk18 := by
  intro t x_costs r_size r_n r_parts r_rows r_ins u_size u_n u_parts u_rows u_ins q_above q_below h_rows h_columns h_divisor h_rl h_cl f_bestBits f_bestCore f_bestCount w_mark w_marks z_left z_rest g_known k_having k_fewest y_n y_sets y_otherMany y_above y_below y_by y_list y_others y_costs y_table y_basis y_isSeen y_colour y_rest y_makes y_worst h_g a b ht hI
  have hI1 := Inv_up hI
  obtain ⟨n, k, o, M, S, O, C, ⟨hn1, hn2, hk, ho, hM⟩, ⟨rfl, rfl, rfl, rfl, rfl, rfl, rfl, rfl, rfl⟩, hR, hdist, hO, hins, huins, hC, ⟨rfl, rfl⟩, rfl, hmk⟩ := hI
  have hp := tI_p hn2
  have hp1 := tI_pp n
  have hRow : RowN n k S r_ins := ⟨hn2, by omega, fun i hi => (hR i hi).2.2.2, hins⟩
  have hRowO : RowN n o O u_ins := ⟨hn2, ho, fun i hi => (hO i hi).2.2, huins⟩
  have hY : YN n k S y_list := ⟨hn1, hn2, hk, fun i hi => ⟨(hR i hi).2.1, (hR i hi).2.2.2⟩⟩
  have hRi : ∀ i, i < k → r_rows i = nI (S i) ∧ S i < 2 ^ n := fun i hi => ⟨(hR i hi).1, (hR i hi).2.2.2⟩
  obtain ⟨Lf, w, w', h1, h2⟩ := ears_eq hk hn2 (fun i hi => (hR i hi).1) (fun i hi => (hR i hi).2.1) (fun i hi => (hR i hi).2.2.2) z_left z_rest y_rest
  exact ⟨_, _, by unfold pX9_ears; rw [h1]; rfl, by unfold pX10_ears; rw [h2]; rfl, rfl, hI1⟩
