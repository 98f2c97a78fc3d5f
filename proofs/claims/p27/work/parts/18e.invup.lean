theorem Inv_up {t : Nat} {x_costs : Nat → Int32} {r_size r_n r_parts : Int32} {r_rows r_ins : Nat → Int32} {u_size u_n u_parts : Int32} {u_rows u_ins : Nat → Int32} {q_above q_below : Int64} {w_mark : Int32} {w_marks : Nat → Int32} {y_n y_sets y_otherMany : Int32} {y_above y_below : Int64} {y_list y_others y_costs : Nat → Int32} (h : Inv t x_costs r_size r_n r_parts r_rows r_ins u_size u_n u_parts u_rows u_ins q_above q_below w_mark w_marks y_n y_sets y_otherMany y_above y_below y_list y_others y_costs) : Inv (t + 1) x_costs r_size r_n r_parts r_rows r_ins u_size u_n u_parts u_rows u_ins q_above q_below w_mark w_marks y_n y_sets y_otherMany y_above y_below y_list y_others y_costs := by
  obtain ⟨n, k, o, M, S, O, C, ⟨h1, h2, h3, h4, h5⟩, h6⟩ := h
  exact ⟨n, k, o, M, S, O, C, ⟨h1, h2, h3, h4, by omega⟩, h6⟩
theorem lw_room3 {i L : Nat} (hL : L < 2 ^ 30) (hi : i < 2 ^ 30) (h : ¬ nI L - 3 < nI i) : i + 3 ≤ L := by
  rcases Nat.lt_or_ge L 3 with q | q
  · exfalso
    apply h
    have e : nI L - 3 < 0 := by
      rw [show (3 : Int32) = nI 3 from rfl]
      exact pk_sneg (by omega) q
    have e2 : (0 : Int32) ≤ nI i := nI_pos' (by omega)
    rw [Int32.lt_iff_toInt_lt] at e ⊢
    rw [Int32.le_iff_toInt_le] at e2
    omega
  · rw [show (3 : Int32) = nI 3 from rfl, pk_sub q, nI_ltI (by omega) (by omega)] at h
    omega
