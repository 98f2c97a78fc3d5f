set_option maxHeartbeats 1000000 in
theorem op20 : OpOk20 := by
  intro t x_costs r_size r_n r_parts r_rows r_ins u_size u_n u_parts u_rows u_ins q_above q_below h_rows h_columns h_divisor h_rl h_cl f_bestBits f_bestCore f_bestCount w_mark w_marks z_left z_rest g_known k_having k_fewest y_n y_sets y_otherMany y_above y_below y_by y_list y_others y_costs y_table y_basis y_isSeen y_colour y_rest y_makes y_worst h_g a b ht hI
  have hI1 := Inv_up hI
  obtain ⟨n, k, o, M, S, O, C, ⟨hn1, hn2, hk, ho, hM⟩, ⟨rfl, rfl, rfl, rfl, rfl, rfl, rfl, rfl, rfl⟩, hR, hdist, hO, hins, huins, hC, ⟨rfl, rfl⟩, rfl, hmk⟩ := hI
  have hp := tI_p hn2
  have hp1 := tI_pp n
  have hRow : RowN n k S r_ins := ⟨hn2, by omega, fun i hi => (hR i hi).2.2.2, hins⟩
  have hRowO : RowN n o O u_ins := ⟨hn2, ho, fun i hi => (hO i hi).2.2, huins⟩
  have hY : YN n k S y_list := ⟨hn1, hn2, hk, fun i hi => ⟨(hR i hi).2.1, (hR i hi).2.2.2⟩⟩
  have hRi : ∀ i, i < k → r_rows i = nI (S i) ∧ S i < 2 ^ n := fun i hi => ⟨(hR i hi).1, (hR i hi).2.2.2⟩
  cases hz : (decide (a = 0) || decide (a = 1)) with
  | false => exact ⟨((-2), g_known), ((-2), y_makes), by unfold pX9_game; rw [zo_eq, hz]; rfl, by unfold pX10_game; rw [in01, hz]; rfl, rfl, hI1⟩
  | true =>
    cases hz2 : (decide (b = 0) || decide (b = 1)) with
    | false => exact ⟨((-2), g_known), ((-2), y_makes), by unfold pX9_game; rw [zo_eq, hz, Option.bind_some, if_bI, if_pos rfl, zo_eq, hz2]; rfl, by unfold pX10_game; rw [in01, hz, Option.bind_some, if_bI, if_pos rfl, in01, hz2]; rfl, rfl, hI1⟩
    | true =>
      obtain ⟨bb, hb1, rfl⟩ : ∃ bb, bb ≤ 1 ∧ a = nI bb := by
        obtain ⟨v, hv⟩ := zo_cases hz
        cases v
        · exact ⟨0, by omega, hv⟩
        · exact ⟨1, by omega, hv⟩
      obtain ⟨w, rfl⟩ := zo_cases hz2
      obtain ⟨kn', hx⟩ := c_move hRow hn1 hb1 g_known
      obtain ⟨mk', hy1, hy2⟩ := y_plays hY hb1 y_makes
      have hy3 := y_move hn2 hb1 hy2
      have h0 := Vc_0 (S := S) (k := k) hn1 hb1
      have hm0 := hy2 0 (t3_pos n)
      cases w with
      | true =>
        cases hf : fst (mvB S k n bb) n with
        | none =>
          rw [hf] at hx hy3
          refine ⟨(-1, kn'), (-1, mk'), ?_, ?_, rfl, hI1⟩
          · unfold pX9_game
            rw [zo_eq, hz, Option.bind_some, if_bI, if_pos rfl, zo_eq, hz2, Option.bind_some, if_bI, if_pos rfl, hx]
            rfl
          · unfold pX10_game
            rw [in01, hz, Option.bind_some, if_bI, if_pos rfl, in01, hz2, Option.bind_some, if_bI, if_pos rfl, hy1, Option.bind_some, if_neg (by decide), hy3]
            rfl
        | some e =>
          rw [hf] at hx hy3
          refine ⟨(nI e, kn'), (nI e, mk'), ?_, ?_, rfl, hI1⟩
          · unfold pX9_game
            rw [zo_eq, hz, Option.bind_some, if_bI, if_pos rfl, zo_eq, hz2, Option.bind_some, if_bI, if_pos rfl, hx]
            rfl
          · unfold pX10_game
            rw [in01, hz, Option.bind_some, if_bI, if_pos rfl, in01, hz2, Option.bind_some, if_bI, if_pos rfl, hy1, Option.bind_some, if_neg (by decide), hy3]
            rfl
      | false =>
        have hbc : bb = 0 ∨ bb = 1 := by omega
        have hyg : pX10_game (nI n) (nI k) y_list y_makes (nI bb) (bI false) = some (bI (!Vc S k n bb 0), mk') := by
          unfold pX10_game
          rw [in01, hz, Option.bind_some, if_bI, if_pos rfl, in01, hz2, Option.bind_some, if_bI, if_pos rfl, hy1, Option.bind_some, if_pos (show bI false = 0 from rfl), gd_t (by show vp_in (nI 0) 59049; exact vp_in_nI (by omega) (by omega))]
          show (if mk' 0 = 0 then _ else _) = _
          rw [hm0]
          cases Vc S k n bb 0 <;> rfl
        cases hf : fst (mvB S k n bb) n with
        | none =>
          rw [hf] at hx h0
          refine ⟨(bI (bb == 0), kn'), (bI (!Vc S k n bb 0), mk'), ?_, hyg, ?_, hI1⟩
          · unfold pX9_game
            rw [zo_eq, hz, Option.bind_some, if_bI, if_pos rfl, zo_eq, hz2, Option.bind_some, if_bI, if_pos rfl, hx, Option.bind_some, if_neg (by decide)]
            rcases hbc with rfl | rfl <;> rfl
          · rw [h0]
            rcases hbc with rfl | rfl <;> rfl
        | some e =>
          rw [hf] at hx h0
          have he := (fst_some hf).1
          refine ⟨(nI bb, kn'), (bI (!Vc S k n bb 0), mk'), ?_, hyg, ?_, hI1⟩
          · unfold pX9_game
            rw [zo_eq, hz, Option.bind_some, if_bI, if_pos rfl, zo_eq, hz2, Option.bind_some, if_bI, if_pos rfl, hx, Option.bind_some, if_neg (by decide)]
            have hne : ¬ nI e = -1 := nI_m1 (by omega)
            rcases hbc with rfl | rfl
            · rw [if_pos (by rfl), Option.bind_some]
              show (if nI e = -1 then _ else _) = _
              rw [if_neg hne]
            · rw [if_neg (by decide), Option.bind_some]
              show (if nI e = -1 then _ else _) = _
              rw [if_neg hne]
          · rw [h0]
            rcases hbc with rfl | rfl <;> rfl
