def mx (f : Nat → Nat) (h : Int64) : Nat → Int64
  | 0 => h
  | i + 1 => 31 * mx f h i + (nI (f i)).toInt64
theorem d_mix {L k : Nat} {S : Nat → Nat} {rows : Nat → Int32} {h : Int64} (hL : L < 100) (hk : k ≤ L) (hR : ∀ i, i < k → rows i = nI (S i)) : pX6_mixedInto L (nI k) rows h = some (mx S h k) := by
  have hl := lp_det (step := pX6_mixedInto_L5 L (nI k) rows) (fun i => (mx S h i, nI i)) (mx S h k) k (fun i hi => by
    unfold pX6_mixedInto_L5
    dsimp only
    rw [if_neg (nI_ge hi (by omega)), gd_t (vp_in_nI (show i < L by omega) (by omega)), nI_clamp (by omega), hR i hi, nI_1]
    rfl) (by
    unfold pX6_mixedInto_L5
    dsimp only
    rw [if_pos (nI_le (Nat.le_refl k) (by omega))])
  have hl : lp (pX6_mixedInto_L5 L (nI k) rows) (h, 0) = _ := hl
  unfold pX6_mixedInto
  rw [hl]; rfl
theorem d_cost {k : Nat} {S : Nat → Nat} {rows : Nat → Int32} {h : Int64} (hk : k ≤ 10) (hR : ∀ i, i < k → rows i = nI (S i)) : lp (pX9_digest_L50 rows (nI k)) (h, 0) = some (mx S h k) := by
  refine lp_det (step := pX9_digest_L50 rows (nI k)) (fun i => (mx S h i, nI i)) (mx S h k) k (fun i hi => ?_) ?_
  · unfold pX9_digest_L50
    dsimp only
    rw [if_neg (nI_ge hi (by omega)), gd_t (vp_in_nI (show i < 10 by omega) (by omega)), nI_clamp (by omega), hR i hi, nI_1]
    rfl
  · unfold pX9_digest_L50
    dsimp only
    rw [if_pos (nI_le (Nat.le_refl k) (by omega))]
theorem d_list {k : Nat} {S : Nat → Nat} {rows : Nat → Int32} {h : Int64} (hk : k ≤ 16) (hR : ∀ i, i < k → rows i = nI (S i)) : lp (pX10_digest_L32 (nI k) rows) (h, 0) = some (mx S h k) := by
  refine lp_det (step := pX10_digest_L32 (nI k) rows) (fun i => (mx S h i, nI i)) (mx S h k) k (fun i hi => ?_) ?_
  · unfold pX10_digest_L32
    dsimp only
    rw [if_neg (nI_ge hi (by omega)), gd_t (vp_in_nI (show i < 16 by omega) (by omega)), nI_clamp (by omega), hR i hi, nI_1]
    rfl
  · unfold pX10_digest_L32
    dsimp only
    rw [if_pos (nI_le (Nat.le_refl k) (by omega))]
theorem d_others {k : Nat} {S : Nat → Nat} {rows : Nat → Int32} {h : Int64} (hk : k ≤ 40) (hR : ∀ i, i < k → rows i = nI (S i)) : lp (pX10_digest_L62 (nI k) rows) (h, 0) = some (mx S h k) := by
  refine lp_det (step := pX10_digest_L62 (nI k) rows) (fun i => (mx S h i, nI i)) (mx S h k) k (fun i hi => ?_) ?_
  · unfold pX10_digest_L62
    dsimp only
    rw [if_neg (nI_ge hi (by omega)), gd_t (vp_in_nI (show i < 40 by omega) (by omega)), nI_clamp (by omega), hR i hi, nI_1]
    rfl
  · unfold pX10_digest_L62
    dsimp only
    rw [if_pos (nI_le (Nat.le_refl k) (by omega))]
theorem d_ycost {k : Nat} {S : Nat → Nat} {rows : Nat → Int32} {h : Int64} (hk : k ≤ 10) (hR : ∀ i, i < k → rows i = nI (S i)) : lp (pX10_digest_L92 (nI k) rows) (h, 0) = some (mx S h k) := by
  refine lp_det (step := pX10_digest_L92 (nI k) rows) (fun i => (mx S h i, nI i)) (mx S h k) k (fun i hi => ?_) ?_
  · unfold pX10_digest_L92
    dsimp only
    rw [if_neg (nI_ge hi (by omega)), gd_t (vp_in_nI (show i < 10 by omega) (by omega)), nI_clamp (by omega), hR i hi, nI_1]
    rfl
  · unfold pX10_digest_L92
    dsimp only
    rw [if_pos (nI_le (Nat.le_refl k) (by omega))]
theorem d_head (n k o : Int32) : lp (pX9_digest_L6 k n o) (439, 0) = some ((31 * ((31 * (13609 + n.toInt64)) + k.toInt64)) + o.toInt64) := by
  have e0 : pX9_count k n o 0 = some n := rfl
  have e1 : pX9_count k n o 1 = some k := rfl
  have e2 : pX9_count k n o 2 = some o := rfl
  have s0 : pX9_digest_L6 k n o (439, 0) = some (.inl (13609 + n.toInt64, 1)) := by
    unfold pX9_digest_L6
    dsimp only
    rw [if_neg (by decide), e0]
    rfl
  have s1 : pX9_digest_L6 k n o (13609 + n.toInt64, 1) = some (.inl (31 * (13609 + n.toInt64) + k.toInt64, 2)) := by
    unfold pX9_digest_L6
    dsimp only
    rw [if_neg (by decide), e1]
    rfl
  have s2 : pX9_digest_L6 k n o (31 * (13609 + n.toInt64) + k.toInt64, 2) = some (.inl (31 * (31 * (13609 + n.toInt64) + k.toInt64) + o.toInt64, 3)) := by
    unfold pX9_digest_L6
    dsimp only
    rw [if_neg (by decide), e2]
    rfl
  rw [lp_c s0, lp_c s1, lp_c s2]
  refine lp_x ?_
  unfold pX9_digest_L6
  dsimp only
  rw [if_pos (by decide)]
set_option maxHeartbeats 1000000 in
theorem op26 : OpOk26 := by
  intro t x_costs r_size r_n r_parts r_rows r_ins u_size u_n u_parts u_rows u_ins q_above q_below h_rows h_columns h_divisor h_rl h_cl f_bestBits f_bestCore f_bestCount w_mark w_marks z_left z_rest g_known k_having k_fewest y_n y_sets y_otherMany y_above y_below y_by y_list y_others y_costs y_table y_basis y_isSeen y_colour y_rest y_makes y_worst h_g a b ht hI
  have hI1 := Inv_up hI
  obtain ⟨n, k, o, M, S, O, C, ⟨hn1, hn2, hk, ho, hM⟩, ⟨rfl, rfl, rfl, rfl, rfl, rfl, rfl, rfl, rfl⟩, hR, hdist, hO, hins, huins, hC, ⟨rfl, rfl⟩, rfl, hmk⟩ := hI
  have hp := tI_p hn2
  have hp1 := tI_pp n
  have hRow : RowN n k S r_ins := ⟨hn2, by omega, fun i hi => (hR i hi).2.2.2, hins⟩
  have hRowO : RowN n o O u_ins := ⟨hn2, ho, fun i hi => (hO i hi).2.2, huins⟩
  have hY : YN n k S y_list := ⟨hn1, hn2, hk, fun i hi => ⟨(hR i hi).2.1, (hR i hi).2.2.2⟩⟩
  have hRi : ∀ i, i < k → r_rows i = nI (S i) ∧ S i < 2 ^ n := fun i hi => ⟨(hR i hi).1, (hR i hi).2.2.2⟩
  obtain ⟨Lf, w, w', h1, h2⟩ := ears_eq hk hn2 (fun i hi => (hR i hi).1) (fun i hi => (hR i hi).2.1) (fun i hi => (hR i hi).2.2.2) z_left z_rest y_rest
  have hcb : ∀ w : Bool, pX9_best x_costs (nI n) (nI (2 ^ n)) r_ins (bI w) = some (bv (bs (mt S k) (rk w C n) (2 ^ n))) := by
    intro w
    unfold pX9_best
    rw [zo_eq, show (decide (bI w = 0) || decide (bI w = 1)) = true by cases w <;> rfl, Option.bind_some, if_bI, if_pos rfl, cbest_eq w hRow (fun e he => ⟨(hC e he).1, (hC e he).2.2⟩)]
    rfl
  have hyb : ∀ w : Bool, pX10_bestOf (nI n) (nI k) y_list y_costs (bI w) = some (bv (bs (mt S k) (rk w C n) (2 ^ n))) := fun w => ybest_eq w hY (fun e he => ⟨(hC e he).2.1, (hC e he).2.2⟩)
  have b0 := hcb false
  have b1 := hcb true
  have c0 := hyb false
  have c1 := hyb true
  have b0 : pX9_best x_costs (nI n) (nI (2 ^ n)) r_ins 0 = _ := b0
  have b1 : pX9_best x_costs (nI n) (nI (2 ^ n)) r_ins 1 = _ := b1
  have c0 : pX10_bestOf (nI n) (nI k) y_list y_costs 0 = _ := c0
  have c1 : pX10_bestOf (nI n) (nI k) y_list y_costs 1 = _ := c1
  have hap : pX9_apart 16 (nI k) r_rows f_bestBits f_bestCore f_bestCount = some (nI (scn (apB S k) (fun _ => 0) 0 (2 ^ k) (0, 0, 0)).1, nI (scn (apB S k) (fun _ => 0) 0 (2 ^ k) (0, 0, 0)).1, (scn (apB S k) (fun _ => 0) 0 (2 ^ k) (0, 0, 0)).2.1, nI (scn (apB S k) (fun _ => 0) 0 (2 ^ k) (0, 0, 0)).2.2) := by
    unfold pX9_apart; rw [c_ap hk hn2 hRi]; rfl
  have hea : pX9_ears 16 (nI k) r_rows z_left z_rest = some (nI Lf, nI Lf, w) := by unfold pX9_ears; rw [h1]; rfl
  have hd := d_head (nI n) (nI k) (nI o)
  unfold pX9_digest pX10_digest
  rw [hd, Option.bind_some, d_mix (L := 16) (S := S) (by omega) hk (fun i hi => (hR i hi).1), Option.bind_some, d_mix (L := 40) (S := O) (by omega) ho (fun i hi => (hO i hi).1), Option.bind_some, d_cost hn2 (fun e he => (hC e (by omega)).1), Option.bind_some, cmany_eq hRow, Option.bind_some, b0, Option.bind_some, b1, Option.bind_some, hap, Option.bind_some, hea, Option.bind_some]
  rw [d_list hk (fun i hi => (hR i hi).2.1), Option.bind_some, d_others ho (fun i hi => (hO i hi).2.1), Option.bind_some, d_ycost hn2 (fun e he => (hC e (by omega)).2.1), Option.bind_some, many_eq hY, Option.bind_some, c0, Option.bind_some, c1, Option.bind_some, y_ap hY, Option.bind_some, h2, Option.bind_some]
  exact ⟨_, _, rfl, rfl, rfl, hI1⟩
