/-! shares: open is how many steps Bland's rule may take -/
def ShortRuns : Prop := ∀ (n k L : Nat) (S C : Nat → Nat), 1 ≤ n → n ≤ 10 → k ≤ 16 → (∀ i, i < k → 1 ≤ S i ∧ S i < 2 ^ n) → (∀ i j, i < j → j < k → S i ≠ S j) → (∀ e, C e ≤ 20) → entC n (Mx S k C) (obx k) (pth n (Mx S k C) (obx k) b0x L) = none → (∀ t, t < L → ∃ c r, entC n (Mx S k C) (obx k) (pth n (Mx S k C) (obx k) b0x t) = some c ∧ lvs n (Mx S k C) (pth n (Mx S k C) (obx k) b0x t) c n = some r ∧ pth n (Mx S k C) (obx k) b0x (t + 1) = put (pth n (Mx S k C) (obx k) b0x t) r c) → L ≤ 1000000
set_option maxHeartbeats 1000000 in
theorem op11_open (hShort : ShortRuns) : OpOk11 := by
  intro t x_costs r_size r_n r_parts r_rows r_ins u_size u_n u_parts u_rows u_ins q_above q_below h_rows h_columns h_divisor h_rl h_cl f_bestBits f_bestCore f_bestCount w_mark w_marks z_left z_rest g_known k_having k_fewest y_n y_sets y_otherMany y_above y_below y_by y_list y_others y_costs y_table y_basis y_isSeen y_colour y_rest y_makes y_worst h_g a b ht hI
  have hI1 := Inv_up hI
  obtain ⟨n, k, o, M, S, O, C, ⟨hn1, hn2, hk, ho, hM⟩, ⟨rfl, rfl, rfl, rfl, rfl, rfl, rfl, rfl, rfl⟩, hR, hdist, hO, hins, huins, hC, ⟨rfl, rfl⟩, rfl, hmk⟩ := hI
  have hp := tI_p hn2
  have hp1 := tI_pp n
  have hRow : RowN n k S r_ins := ⟨hn2, by omega, fun i hi => (hR i hi).2.2.2, hins⟩
  have hRowO : RowN n o O u_ins := ⟨hn2, ho, fun i hi => (hO i hi).2.2, huins⟩
  have hY : YN n k S y_list := ⟨hn1, hn2, hk, fun i hi => ⟨(hR i hi).2.1, (hR i hi).2.2.2⟩⟩
  have hRi : ∀ i, i < k → r_rows i = nI (S i) ∧ S i < 2 ^ n := fun i hi => ⟨(hR i hi).1, (hR i hi).2.2.2⟩
  have hC1 : ∀ e, e < 10 → x_costs e = nI ((fun e => if e < 10 then C e else 0) e) ∧ (fun e => if e < 10 then C e else 0) e ≤ 20 := fun e he => by
    dsimp only
    rw [if_pos he]
    exact ⟨(hC e he).1, (hC e he).2.2⟩
  have hC1' : ∀ e, e < 10 → y_costs e = nI ((fun e => if e < 10 then C e else 0) e) ∧ (fun e => if e < 10 then C e else 0) e ≤ 20 := fun e he => by
    dsimp only
    rw [if_pos he]
    exact ⟨(hC e he).2.1, (hC e he).2.2⟩
  have hC2 : ∀ e, (fun e => if e < 10 then C e else 0) e ≤ 20 := fun e => by
    dsimp only
    by_cases he : e < 10
    · rw [if_pos he]; exact (hC e he).2.2
    · rw [if_neg he]; omega
  obtain ⟨L, hL, hst, u, v, w, x, hy1, hy2⟩ := y_shares hY (fun i hi => (hR i hi).2.2.1) hC1' hC2 q_above q_below y_by y_table y_basis
  have hmax := hShort n k L S _ hn1 hn2 hk (fun i hi => ⟨(hR i hi).2.2.1, (hR i hi).2.2.2⟩) hdist hC2 hL hst
  obtain ⟨u', v', w', hx1, hx2⟩ := c_shares hn1 hn2 hk hRi (fun i hi => (hR i hi).2.2.1) hC1 hC2 hL hst hmax q_above q_below h_rows h_columns h_divisor h_rl h_cl h_g
  rw [hx2] at hy2
  obtain ⟨rfl, rfl⟩ := Prod.mk.inj (Option.some.inj hy2)
  refine ⟨_, _, hx1, hy1, rfl, ?_⟩
  exact ⟨n, k, o, M, S, O, C, ⟨hn1, hn2, hk, ho, by omega⟩, ⟨rfl, rfl, rfl, rfl, rfl, rfl, rfl, rfl, rfl⟩, hR, hdist, hO, hins, huins, hC, ⟨rfl, rfl⟩, rfl, hmk⟩
