set_option maxHeartbeats 1000000 in
theorem op6 : OpOk6 := by
  intro t x_costs r_size r_n r_parts r_rows r_ins u_size u_n u_parts u_rows u_ins q_above q_below h_rows h_columns h_divisor h_rl h_cl f_bestBits f_bestCore f_bestCount w_mark w_marks z_left z_rest g_known k_having k_fewest y_n y_sets y_otherMany y_above y_below y_by y_list y_others y_costs y_table y_basis y_isSeen y_colour y_rest y_makes y_worst h_g a b ht hI
  have hI1 := Inv_up hI
  obtain ⟨n, k, o, M, S, O, C, ⟨hn1, hn2, hk, ho, hM⟩, ⟨rfl, rfl, rfl, rfl, rfl, rfl, rfl, rfl, rfl⟩, hR, hdist, hO, hins, huins, hC, ⟨rfl, rfl⟩, rfl, hmk⟩ := hI
  have hp := tI_p hn2
  have hp1 := tI_pp n
  have hRow : RowN n k S r_ins := ⟨hn2, by omega, fun i hi => (hR i hi).2.2.2, hins⟩
  have hRowO : RowN n o O u_ins := ⟨hn2, ho, fun i hi => (hO i hi).2.2, huins⟩
  have hY : YN n k S y_list := ⟨hn1, hn2, hk, fun i hi => ⟨(hR i hi).2.1, (hR i hi).2.2.2⟩⟩
  cases hz : (decide (a = 0) || decide (a = 1)) with
  | false => exact ⟨(-2), (-2), by unfold pX9_best; rw [zo_eq, hz]; rfl, by unfold pX10_best; rw [in01, hz]; rfl, rfl, hI1⟩
  | true =>
    obtain ⟨w, rfl⟩ := zo_cases hz
    refine ⟨bv (bs (mt S k) (rk w C n) (2 ^ n)), bv (bs (mt S k) (rk w C n) (2 ^ n)), ?_, ?_, rfl, hI1⟩
    · unfold pX9_best
      rw [zo_eq, hz, Option.bind_some, if_bI, if_pos rfl, cbest_eq w hRow (fun e he => ⟨(hC e he).1, (hC e he).2.2⟩)]
      rfl
    · unfold pX10_best
      rw [in01, hz, Option.bind_some, if_bI, if_pos rfl, ybest_eq w hY (fun e he => ⟨(hC e he).2.1, (hC e he).2.2⟩)]
      rfl
set_option maxHeartbeats 1000000 in
theorem op9 : OpOk9 := by
  intro t x_costs r_size r_n r_parts r_rows r_ins u_size u_n u_parts u_rows u_ins q_above q_below h_rows h_columns h_divisor h_rl h_cl f_bestBits f_bestCore f_bestCount w_mark w_marks z_left z_rest g_known k_having k_fewest y_n y_sets y_otherMany y_above y_below y_by y_list y_others y_costs y_table y_basis y_isSeen y_colour y_rest y_makes y_worst h_g a b ht hI
  have hI1 := Inv_up hI
  obtain ⟨n, k, o, M, S, O, C, ⟨hn1, hn2, hk, ho, hM⟩, ⟨rfl, rfl, rfl, rfl, rfl, rfl, rfl, rfl, rfl⟩, hR, hdist, hO, hins, huins, hC, ⟨rfl, rfl⟩, rfl, hmk⟩ := hI
  have hp := tI_p hn2
  have hp1 := tI_pp n
  have hRow : RowN n k S r_ins := ⟨hn2, by omega, fun i hi => (hR i hi).2.2.2, hins⟩
  have hRowO : RowN n o O u_ins := ⟨hn2, ho, fun i hi => (hO i hi).2.2, huins⟩
  have hY : YN n k S y_list := ⟨hn1, hn2, hk, fun i hi => ⟨(hR i hi).2.1, (hR i hi).2.2.2⟩⟩
  have hcm := cmany_eq hRow
  have hym := many_eq hY
  have hct := ct_le (lst S k n) (2 ^ n)
  rcases Nat.lt_or_ge 40 (ct (lst S k n) (2 ^ n)) with hg | hg
  · refine ⟨((-3), nI o, nI n, nI (2 ^ n), u_rows, u_ins), ((-3), nI o, y_others), ?_, ?_, rfl, hI1⟩
    · unfold pX9_take
      rw [hcm, Option.bind_some, if_neg (by show ¬ _ ≤ nI 40; exact nI_ge hg (by omega))]
    · unfold pX10_take
      rw [hym, Option.bind_some, if_neg (by show ¬ _ ≤ nI 40; exact nI_ge hg (by omega))]
  · have hlt : ∀ i, i < 2 ^ n → lst S k n i = true → ct (lst S k n) i < 40 := fun i hi hl => by
      have h1 := ct_mono (p := lst S k n) (show i + 1 ≤ 2 ^ n by omega)
      rw [ct, hl] at h1
      simp at h1
      omega
    have hf0 : ∀ y, y < 2 ^ n → (fun j => if j < 1024 then (0 : Int32) else u_ins j) y = 0 := fun y hy => if_pos (by omega)
    have hx : lp (pX9_take_L30 40 (nI n) (nI (2 ^ n)) r_ins (0, nI n, nI (2 ^ n), fun j => if j < 1024 then 0 else u_ins j)) (0, 0, u_rows, fun j => if j < 1024 then 0 else u_ins j) = some (nI (ct (lst S k n) (2 ^ n)), tR (lst S k n) u_rows (2 ^ n), tI n (lst S k n) (fun j => if j < 1024 then 0 else u_ins j) (2 ^ n)) := by
      refine lp_det (step := pX9_take_L30 40 (nI n) (nI (2 ^ n)) r_ins (0, nI n, nI (2 ^ n), fun j => if j < 1024 then 0 else u_ins j)) (fun i => (nI i, nI (ct (lst S k n) i), tR (lst S k n) u_rows i, tI n (lst S k n) (fun j => if j < 1024 then 0 else u_ins j) i)) _ (2 ^ n) (fun i hi => ?_) ?_
      · unfold pX9_take_L30
        dsimp only
        rw [if_neg (nI_ge hi (by omega)), isLeast_eq hRow hi, Option.bind_some, if_bI, ct, tR, tI, nI_1]
        cases hl : lst S k n i with
        | false => simp
        | true =>
          rw [if_pos rfl, append_eq (by omega) (hlt i hi hl) hn2 hi, Option.bind_some]
          simp
      · unfold pX9_take_L30
        dsimp only
        rw [if_pos (nI_le (Nat.le_refl _) (by omega))]
    have hy : lp (pX10_take_L19 (nI n) (nI k) y_list) (0, 0, y_others) = some (nI (ct (lst S k n) (2 ^ n)), tR (lst S k n) y_others (2 ^ n)) := by
      refine lp_det (step := pX10_take_L19 (nI n) (nI k) y_list) (fun i => (nI i, nI (ct (lst S k n) i), tR (lst S k n) y_others i)) _ (2 ^ n) (fun i hi => ?_) ?_
      · unfold pX10_take_L19
        rw [yall_eq hn2, Option.bind_some]
        dsimp only
        rw [if_neg (by rw [all_lt hn2 (by omega)]; omega), yleast_eq hY hi, Option.bind_some, if_bI, ct, tR, nI_1, nI_1]
        cases hl : lst S k n i with
        | false => simp
        | true =>
          have := hlt i hi hl
          rw [if_pos rfl, gd_t (vp_in_nI this (by omega)), nI_clamp (by omega)]
          simp
      · unfold pX10_take_L19
        rw [yall_eq hn2, Option.bind_some]
        dsimp only
        rw [if_pos ((all_lt hn2 hp).mpr (Nat.le_refl _))]
    refine ⟨(nI (ct (lst S k n) (2 ^ n)), nI (ct (lst S k n) (2 ^ n)), nI n, nI (2 ^ n), tR (lst S k n) u_rows (2 ^ n), tI n (lst S k n) (fun j => if j < 1024 then 0 else u_ins j) (2 ^ n)), (nI (ct (lst S k n) (2 ^ n)), nI (ct (lst S k n) (2 ^ n)), tR (lst S k n) y_others (2 ^ n)), ?_, ?_, rfl, ?_⟩
    · unfold pX9_take
      rw [hcm, Option.bind_some, if_pos (by show _ ≤ nI 40; exact nI_le hg (by omega)), clear_eq hn2, Option.bind_some]
      dsimp only
      rw [hx, Option.bind_some]
    · unfold pX10_take
      rw [hym, Option.bind_some, if_pos (by show _ ≤ nI 40; exact nI_le hg (by omega)), hy, Option.bind_some]
    · refine ⟨n, k, ct (lst S k n) (2 ^ n), M, S, tO (lst S k n) O (2 ^ n), C, ⟨hn1, hn2, hk, hg, by omega⟩, ⟨rfl, rfl, rfl, rfl, rfl, rfl, rfl, rfl, rfl⟩, hR, hdist, fun i hi => ?_, hins, tI_eq hf0 (2 ^ n), hC, ⟨rfl, rfl⟩, rfl, hmk⟩
      exact ⟨(tR_eq hi).1, (tR_eq hi).1, (tR_eq (f := u_rows) hi).2⟩
