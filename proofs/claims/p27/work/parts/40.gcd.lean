/-! the greatest common divisor, in both forms -/
theorem gcd_step {a b : Nat} (hb : 0 < b) : Nat.gcd a b = Nat.gcd b (a % b) := by
  rw [Nat.gcd_comm a b, Nat.gcd_rec b a, Nat.gcd_comm]
/-- rounds: two of them halve the greater number -/
theorem ydiv_eq : ∀ (N a b : Nat), a + b < N → a < 2 ^ 62 → b < 2 ^ 62 → lp pX10_divisor_L6 (lN a, lN b) = some (lN (Nat.gcd a b))
  | 0, _, _, h, _, _ => absurd h (Nat.not_lt_zero _)
  | N + 1, a, b, h, ha, hb => by
    rcases Nat.eq_zero_or_pos b with h0 | h0
    · subst h0
      refine lp_x ?_
      unfold pX10_divisor_L6
      dsimp only
      rw [if_pos (by rw [lg_cmp_eq]; rfl), Nat.gcd_zero_right]
    · have hne : ¬ lN b = 0 := fun q => by
        have : lN b = lN 0 := q
        rw [pk_lEQ (by omega) (by omega)] at this
        omega
      have hs : pX10_divisor_L6 (lN a, lN b) = some (.inl (lN b, lN (a % b))) := by
        unfold pX10_divisor_L6
        dsimp only
        rw [if_neg (by rw [lg_cmp_eq]; exact hne), gd_t hne, pk_lRem (by omega) h0 (by omega)]
      rw [lp_c hs, gcd_step h0]
      have hm := Nat.mod_lt a h0
      rcases Nat.lt_or_ge a b with q | q
      · -- the first round only turns them
        rw [Nat.mod_eq_of_lt q]
        rcases Nat.eq_zero_or_pos a with z | z
        · subst z
          refine lp_x ?_
          unfold pX10_divisor_L6
          dsimp only
          rw [if_pos (by rw [lg_cmp_eq]; rfl), Nat.gcd_zero_right]
        · have hna : ¬ lN a = 0 := fun q2 => by
            have : lN a = lN 0 := q2
            rw [pk_lEQ (by omega) (by omega)] at this
            omega
          have hs2 : pX10_divisor_L6 (lN b, lN a) = some (.inl (lN a, lN (b % a))) := by
            unfold pX10_divisor_L6
            dsimp only
            rw [if_neg (by rw [lg_cmp_eq]; exact hna), gd_t hna, pk_lRem (by omega) z (by omega)]
          have hm2 := Nat.mod_lt b z
          rw [lp_c hs2, gcd_step z]
          exact ydiv_eq N a (b % a) (by omega) ha (by omega)
      · exact ydiv_eq N b (a % b) (by omega) hb (by omega)
/-- the class's form counts its rounds: for b < 2^m they are at most 2 m + 2 -/
theorem cdiv_eq : ∀ (m a b c : Nat), b < 2 ^ m → a < 2 ^ 62 → m ≤ 40 → c + 2 * m + 1 < 100 → lp pX4_commonDivisor_L9 (lN a, lN b, nI c) = some (lN (Nat.gcd a b))
  | m, a, b, c, hbm, ha, hm, hc => by
    have hb62 : b < 2 ^ 62 := Nat.lt_of_lt_of_le hbm (Nat.pow_le_pow_right (by omega) (by omega))
    rcases Nat.eq_zero_or_pos b with h0 | h0
    · subst h0
      refine lp_x ?_
      unfold pX4_commonDivisor_L9
      dsimp only
      rw [if_neg (by show ¬ nI 100 ≤ nI c; exact nI_ge (by omega) (by omega)), if_pos (by rw [lg_cmp_eq]; rfl), Nat.gcd_zero_right]
    · have hne : ¬ lN b = 0 := fun q => by
        have : lN b = lN 0 := q
        rw [pk_lEQ (by omega) (by omega)] at this
        omega
      have hs : pX4_commonDivisor_L9 (lN a, lN b, nI c) = some (.inl (lN b, lN (a % b), nI (c + 1))) := by
        unfold pX4_commonDivisor_L9
        dsimp only
        rw [if_neg (by show ¬ nI 100 ≤ nI c; exact nI_ge (by omega) (by omega)), if_neg (by rw [lg_cmp_eq]; exact hne), gd_t hne, pk_lRem (by omega) h0 (by omega), nI_1]
      rw [lp_c hs, gcd_step h0]
      have hml := Nat.mod_lt a h0
      rcases Nat.eq_zero_or_pos (a % b) with z | z
      · rw [z]
        refine lp_x ?_
        unfold pX4_commonDivisor_L9
        dsimp only
        rw [if_neg (by show ¬ nI 100 ≤ nI (c + 1); exact nI_ge (by omega) (by omega)), if_pos (by rw [lg_cmp_eq]; rfl), Nat.gcd_zero_right]
      · generalize a % b = r at z hml ⊢
        have hnr : ¬ lN r = 0 := fun q => by
          have : lN r = lN 0 := q
          rw [pk_lEQ (by omega) (by omega)] at this
          omega
        have hs2 : pX4_commonDivisor_L9 (lN b, lN r, nI (c + 1)) = some (.inl (lN r, lN (b % r), nI (c + 2))) := by
          unfold pX4_commonDivisor_L9
          dsimp only
          rw [if_neg (by show ¬ nI 100 ≤ nI (c + 1); exact nI_ge (by omega) (by omega)), if_neg (by rw [lg_cmp_eq]; exact hnr), gd_t hnr, pk_lRem (by omega) z (by omega), nI_1]
        have hm0 : m ≠ 0 := fun q => by subst q; simp at hbm; omega
        obtain ⟨m', rfl⟩ : ∃ m', m = m' + 1 := ⟨m - 1, by omega⟩
        have hhalf : b % r < 2 ^ m' := by
          rw [Nat.pow_succ] at hbm
          have h1 := Nat.mod_lt b z
          rcases Nat.lt_or_ge r (2 ^ m' + 1) with q | q
          · omega
          · have h2 : b % r + r * (b / r) = b := Nat.mod_add_div b r
            have h3 : 1 ≤ b / r := (Nat.le_div_iff_mul_le z).mpr (by omega)
            have h4 : r * 1 ≤ r * (b / r) := Nat.mul_le_mul_left r h3
            omega
        rw [lp_c hs2, gcd_step z]
        exact cdiv_eq m' r (b % r) (c + 2) hhalf (by omega) (by omega) (by omega)
/-- a fraction put in lowest terms: both sides -/
theorem frac_eq {a b : Nat} (ha : a < 2 ^ 62) (hb0 : 0 < b) (hb : b < 2 ^ 40) (p q : Int64) : pX4_become p q (lN a) (lN b) = some (lN (a / Nat.gcd a b), lN (b / Nat.gcd a b)) ∧ pX10_tells p q (lN a) (lN b) = some (1, lN (a / Nat.gcd a b), lN (b / Nat.gcd a b)) := by
  have hg0 : 0 < Nat.gcd a b := Nat.gcd_pos_of_pos_right a hb0
  have hgl : Nat.gcd a b ≤ b := Nat.gcd_le_right a hb0
  have hne : ¬ lN (Nat.gcd a b) = 0 := fun q => by
    have : lN (Nat.gcd a b) = lN 0 := q
    rw [pk_lEQ (by omega) (by omega)] at this
    omega
  have hc : pX4_commonDivisor (lN a) (lN b) = some (lN (Nat.gcd a b)) := by
    unfold pX4_commonDivisor
    have := cdiv_eq 40 a b 0 hb ha (by omega) (by omega)
    have this : lp pX4_commonDivisor_L9 (lN a, lN b, 0) = _ := this
    rw [this]
    rfl
  have hy : pX10_divisor (lN a) (lN b) = some (lN (Nat.gcd a b)) := by
    unfold pX10_divisor
    rw [ydiv_eq (a + b + 1) a b (by omega) ha (by omega)]
    rfl
  refine ⟨?_, ?_⟩
  · unfold pX4_become
    rw [hc, Option.bind_some, if_neg (by rw [lg_cmp_le]; show ¬ _ ≤ lN 0; rw [pk_lLE (by omega) (by omega)]; omega), if_neg (by rw [lg_cmp_le]; show ¬ _ ≤ lN 0; rw [pk_lLE (by omega) (by omega)]; omega), gd_t hne, gd_t hne, pk_lDiv (by omega) hg0 (by omega), pk_lDiv (by omega) hg0 (by omega)]
  · unfold pX10_tells
    rw [hy, Option.bind_some, gd_t hne, gd_t hne, pk_lDiv (by omega) hg0 (by omega), pk_lDiv (by omega) hg0 (by omega)]
/-! powers -/
theorem cpow_eq (a : Nat) (ha : a < 2 ^ 31) : ∀ {e : Nat}, e < 2 ^ 30 → pX9_power (nI a) (nI e) = some (lN (a ^ e)) := by
  intro e he
  unfold pX9_power
  have hl := lp_det (step := pX9_power_L5 (nI a) (nI e)) (fun i => (lN (a ^ i), nI i)) (lN (a ^ e)) e (fun i hi => by
    unfold pX9_power_L5
    dsimp only
    rw [if_neg (nI_ge hi (by omega)), nI_1, nI_l ha, lN_mul, Nat.pow_succ]) (by
    unfold pX9_power_L5
    dsimp only
    rw [if_pos (nI_le (Nat.le_refl e) (by omega))])
  have hl : lp (pX9_power_L5 (nI a) (nI e)) (1, 0) = _ := hl
  rw [hl]
  rfl
theorem ypow_eq (a : Nat) (ha : a < 2 ^ 31) : ∀ {e : Nat}, e < 2 ^ 30 → pX10_power (nI a).toInt64 (nI e) = some (lN (a ^ e)) := by
  intro e he
  unfold pX10_power
  have hl := lp_det (step := pX10_power_L5 (nI a).toInt64 (nI e)) (fun i => (lN (a ^ i), nI i)) (lN (a ^ e)) e (fun i hi => by
    unfold pX10_power_L5
    dsimp only
    rw [if_neg (nI_ge hi (by omega)), nI_1, nI_l ha, lN_mul, Nat.pow_succ]) (by
    unfold pX10_power_L5
    dsimp only
    rw [if_pos (nI_le (Nat.le_refl e) (by omega))])
  have hl : lp (pX10_power_L5 (nI a).toInt64 (nI e)) (1, 0) = _ := hl
  rw [hl]
  rfl
theorem popn {n x : Nat} (hn : n ≤ 10) (hx : x < 2 ^ n) : pop x ≤ n := by
  have h := ct_top (x := x) (16 - n) n (Nat.div_eq_of_lt hx)
  rw [show n + (16 - n) = 16 by omega] at h
  have h2 := ct_le (fun i => x.testBit i) n
  unfold pop
  omega
def chS (S : Nat → Nat) (k n a c : Nat) : Nat → Nat := sm (fun x => if mt S k x then a ^ pop x * c ^ (n - pop x) else 0)
theorem chS_le {S : Nat → Nat} {k n a c : Nat} (hn : n ≤ 10) (ha : a ≤ 10) (hc : c ≤ 10) : chS S k n a c (2 ^ n) ≤ 2 ^ n * 10 ^ 10 := by
  refine sm_le (fun x hx => ?_)
  have hp := popn hn hx
  split
  · have h1 : a ^ pop x ≤ 10 ^ pop x := Nat.pow_le_pow_left ha _
    have h2 : c ^ (n - pop x) ≤ 10 ^ (n - pop x) := Nat.pow_le_pow_left hc _
    have h3 := Nat.mul_le_mul h1 h2
    rw [← Nat.pow_add, show pop x + (n - pop x) = n by omega] at h3
    exact Nat.le_trans h3 (Nat.pow_le_pow_right (by omega) hn)
  · exact Nat.zero_le _
theorem cch_eq {n k a b : Nat} {S : Nat → Nat} {ins : Nat → Int32} (h : RowN n k S ins) (hb : b ≤ 10) (ha : a ≤ b) : lp (pX9_chance_L28 (nI n) (nI (2 ^ n)) ins (nI a) (nI b)) (0, 0) = some (lN (chS S k n a (b - a) (2 ^ n))) := by
  have hn := h.1
  have hp := tI_p hn
  refine lp_det (step := pX9_chance_L28 (nI n) (nI (2 ^ n)) ins (nI a) (nI b)) (fun i => (lN (chS S k n a (b - a) i), nI i)) _ (2 ^ n) (fun i hi => ?_) ?_
  · unfold pX9_chance_L28
    have hpi := popn hn hi
    dsimp only
    rw [if_neg (nI_ge hi (by omega)), isMeeter_eq h hi, Option.bind_some, if_bI, bc_eq (by omega), Option.bind_some, cpow_eq a (by omega) (by omega), Option.bind_some, pk_sub ha, pk_sub hpi, cpow_eq (b - a) (by omega) (by omega), Option.bind_some, lN_mul, lN_add, nI_1]
    unfold chS
    rw [sm]
    cases mt S k i <;> simp
  · unfold pX9_chance_L28
    dsimp only
    rw [if_pos (nI_le (Nat.le_refl _) (by omega))]
theorem ych_eq {n k a b : Nat} {S : Nat → Nat} {ls : Nat → Int32} (h : YN n k S ls) (hb : b ≤ 10) (ha : a ≤ b) : lp (pX10_chance_L31 (nI n) (nI k) ls (nI a) (nI b)) (0, 0) = some (lN (chS S k n a (b - a) (2 ^ n))) := by
  have hn := h.2.1
  have hp := tI_p hn
  refine lp_det (step := pX10_chance_L31 (nI n) (nI k) ls (nI a) (nI b)) (fun i => (lN (chS S k n a (b - a) i), nI i)) _ (2 ^ n) (fun i hi => ?_) ?_
  · unfold pX10_chance_L31
    have hpi := popn hn hi
    rw [yall_eq hn, Option.bind_some]
    dsimp only
    rw [if_neg (by rw [all_lt hn (by omega)]; omega), size_eq (by omega), Option.bind_some, ymeets_eq h hi, Option.bind_some, if_bI, ypow_eq a (by omega) (by omega), Option.bind_some, pk_sub ha, pk_sub hpi, ypow_eq (b - a) (by omega) (by omega), Option.bind_some, lN_mul, nI_1]
    unfold chS
    rw [sm]
    cases mt S k i with
    | false =>
      rw [if_neg (by decide), Option.bind_some, show (0 : Int64) = lN 0 from rfl, lN_add]
      simp
    | true =>
      rw [if_pos rfl, Option.bind_some, lN_add]
      simp
  · unfold pX10_chance_L31
    rw [yall_eq hn, Option.bind_some]
    dsimp only
    rw [if_pos ((all_lt hn hp).mpr (Nat.le_refl _))]
