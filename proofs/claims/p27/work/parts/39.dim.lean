/-! the greatest part of which all is seen -/
theorem seenC_le {S : Nat → Nat} {k y : Nat} : seenC S k y ≤ k := ct_le _ k
def allS (S : Nat → Nat) (k y : Nat) : Bool := decide (seenC S k y = 2 ^ pop y)
/-- the best so far, by size alone: the empty part at first -/
def bd (S : Nat → Nat) (k : Nat) : Nat → Nat
  | 0 => 0
  | y + 1 => if decide (pop (bd S k y) < pop y) && allS S k y then y else bd S k y
theorem bd_lt {S : Nat → Nat} {k : Nat} : ∀ y, bd S k y ≤ y
  | 0 => Nat.le_refl 0
  | y + 1 => by
    have := bd_lt (S := S) (k := k) y
    rw [bd]
    split <;> omega
theorem pop_0 : pop 0 = 0 := by decide
theorem pw_mono {a b : Nat} (h : a ≤ b) : 2 ^ a ≤ 2 ^ b := Nat.pow_le_pow_right (by omega) h
theorem seen_0 {S : Nat → Nat} : ∀ {k : Nat}, 1 ≤ k → seenC S k 0 = 1
  | 0, h => absurd h (by omega)
  | 1, _ => by
    unfold seenC
    rw [ct, ct]
    simp [nwS, exb]
  | k + 2, _ => by
    have ih := seen_0 (S := S) (k := k + 1) (by omega)
    unfold seenC at *
    rw [ct, ih]
    have : nwS S 0 (k + 1) = false := by
      unfold nwS
      rw [exb_iff.mpr ⟨0, by omega, by simp⟩]
      rfl
    rw [this]
    rfl
theorem pop10 {n x : Nat} (hn : n ≤ 10) (hx : x < 2 ^ n) : pop x ≤ 10 := by
  have h : ct (fun i => x.testBit i) 16 = ct (fun i => x.testBit i) 10 := ct_top (x := x) 6 10 (Nat.div_eq_of_lt (Nat.lt_of_lt_of_le hx (pw_mono hn)))
  have h2 := ct_le (fun i => x.testBit i) 10
  unfold pop
  omega
theorem cdim_eq {n k M : Nat} {S : Nat → Nat} {rows marks : Nat → Int32} (hn1 : 1 ≤ n) (hn : n ≤ 10) (hk1 : 1 ≤ k) (hk : k ≤ 16) (hM : M < 2 ^ 29) (hR : ∀ i, i < k → rows i = nI (S i) ∧ S i < 2 ^ n) (hm : ∀ j, j < 1024 → ∃ v, v ≤ M ∧ marks j = nI v) : ∃ M' marks', M' ≤ M + 1023 ∧ (∀ j, j < 1024 → ∃ v, v ≤ M' ∧ marks' j = nI v) ∧ pX8_greatestAllSeen 16 (nI k) (nI (2 ^ n)) rows (nI M) marks = some (nI (bd S k (2 ^ n)), nI M', marks') := by
  have hp := tI_p hn
  unfold pX8_greatestAllSeen
  have hb1 : bd S k 1 = 0 := by
    rw [bd, bd]
    simp [pop_0]
  obtain ⟨r, h1, M', marks', h2, h3, h4⟩ := lp_for (step := pX8_greatestAllSeen_L6 16 (nI k) (nI (2 ^ n)) rows) (2 ^ n) (fun y s => 1 ≤ y ∧ ∃ M' marks', M' + 1 ≤ M + y ∧ (∀ j, j < 1024 → ∃ v, v ≤ M' ∧ marks' j = nI v) ∧ s = (nI (bd S k y), nI (pop (bd S k y)), nI y, nI M', marks')) (fun r => ∃ M' marks', M' + 1 ≤ M + 2 ^ n ∧ (∀ j, j < 1024 → ∃ v, v ≤ M' ∧ marks' j = nI v) ∧ r = (nI (bd S k (2 ^ n)), nI M', marks')) (fun y s hy hs => by
    left
    obtain ⟨hy1, M', marks', a1, a2, rfl⟩ := hs
    have hpy := pop10 hn hy
    have hbl := bd_lt (S := S) (k := k) y
    have hpb := pop10 (x := bd S k y) hn (by omega)
    have hpow : 2 ^ pop y ≤ 1024 := tI_p hpy
    have hsl := seenC_le (S := S) (k := k) (y := y)
    unfold pX8_greatestAllSeen_L6
    dsimp only
    rw [if_neg (nI_ge hy (by omega)), bc_eq (by omega), Option.bind_some, tI_shl (by omega), csee_eq hn hk (by omega) hR hy a2, Option.bind_some, nI_1]
    dsimp only
    by_cases c1 : pop (bd S k y) < pop y
    · rw [if_neg (nI_ge c1 (by omega))]
      by_cases c2 : 2 ^ pop y ≤ k
      · rw [if_neg (nI_nlt c2 (by omega))]
        by_cases c3 : seenC S k y = 2 ^ pop y
        · rw [if_pos (by rw [c3])]
          have e : bd S k (y + 1) = y := by rw [bd]; simp [c1, allS, c3]
          exact ⟨_, rfl, by omega, M' + 1, _, by omega, mkM_b a2, by rw [e]⟩
        · rw [if_neg (by rw [nI_eq (by omega) (by omega)]; exact c3)]
          have e : bd S k (y + 1) = bd S k y := by rw [bd]; simp [allS, c3]
          exact ⟨_, rfl, by omega, M' + 1, _, by omega, mkM_b a2, by rw [e]⟩
      · rw [if_pos (nI_lt (by omega) (by omega))]
        have e : bd S k (y + 1) = bd S k y := by
          rw [bd]
          have : ¬ seenC S k y = 2 ^ pop y := by omega
          simp [allS, this]
        exact ⟨_, rfl, by omega, M', marks', by omega, a2, by rw [e]⟩
    · rw [if_pos (nI_le (by omega) (by omega))]
      have e : bd S k (y + 1) = bd S k y := by rw [bd]; simp [c1]
      exact ⟨_, rfl, by omega, M', marks', by omega, a2, by rw [e]⟩) (fun s hs => by
    obtain ⟨hy1, M', marks', a1, a2, rfl⟩ := hs
    refine ⟨_, ?_, M', marks', a1, a2, rfl⟩
    unfold pX8_greatestAllSeen_L6
    dsimp only
    rw [if_pos (nI_le (Nat.le_refl _) (by omega))]) (2 ^ n - 1) 1 (0, 0, 1, nI M, marks) (by have := tI_pp n; omega) ⟨by omega, M, marks, by omega, hm, by rw [hb1, pop_0]; rfl⟩
  refine ⟨M', marks', by omega, h3, ?_⟩
  rw [h1, h4]
  rfl
theorem ydim_eq {n k : Nat} {S : Nat → Nat} {ls : Nat → Int32} (h : YN n k S ls) (hk1 : 1 ≤ k) (f : Nat → Int32) : ∃ g, lp (pX10_dimension_L17 (nI n) (nI k) ls) ((-1), 0, f) = some (nI (bd S k (2 ^ n)), g) := by
  have hn := h.2.1
  have hk := h.2.2.1
  have hp := tI_p hn
  obtain ⟨r, h1, g, h2⟩ := lp_for (step := pX10_dimension_L17 (nI n) (nI k) ls) (2 ^ n) (fun y s => ∃ g, s = (if y = 0 then (-1) else nI (bd S k y), nI y, g)) (fun r => ∃ g, r = (nI (bd S k (2 ^ n)), g)) (fun y s hy hs => by
    left
    obtain ⟨g, rfl⟩ := hs
    have hpy := pop10 hn hy
    have hbl := bd_lt (S := S) (k := k) y
    have hpb := pop10 (x := bd S k y) hn (by omega)
    have hpow : 2 ^ pop y ≤ 1024 := tI_p hpy
    have hsl := seenC_le (S := S) (k := k) (y := y)
    obtain ⟨g2, hg2⟩ := ysee_eq h hy g
    unfold pX10_dimension_L17 pX10_dimension_J79_5 pX10_dimension_J45_7
    rw [yall_eq hn, Option.bind_some]
    dsimp only
    rw [if_neg (by rw [all_lt hn (by omega)]; omega), size_eq (by omega), Option.bind_some, tI_shl (by omega), hg2, Option.bind_some, nI_1]
    dsimp only
    rcases Nat.eq_zero_or_pos y with hy0 | hy0
    · subst hy0
      rw [if_pos rfl, if_pos rfl, Option.bind_some, if_neg (by decide), pop_0, if_neg (by decide), seen_0 hk1, if_pos rfl]
      exact ⟨_, rfl, g2, by rw [bd, bd]; simp [pop_0]⟩
    · rw [if_neg (show ¬ y = 0 by omega), if_neg (nI_nm1 (by omega)), size_eq (by omega), Option.bind_some, if_neg (show ¬ y + 1 = 0 by omega)]
      by_cases c1 : pop (bd S k y) < pop y
      · rw [if_neg (nI_ge c1 (by omega)), Option.bind_some, if_neg (by decide)]
        by_cases c3 : seenC S k y = 2 ^ pop y
        · have c5 : pop y < 5 := by
            rcases Nat.lt_or_ge (pop y) 5 with q | q
            · exact q
            · have := pw_mono q
              omega
          rw [if_neg (by show ¬ nI 5 ≤ _; exact nI_ge c5 (by omega)), if_pos (by rw [c3])]
          have e : bd S k (y + 1) = y := by rw [bd]; simp [c1, allS, c3]
          exact ⟨_, rfl, g2, by rw [e]⟩
        · have e : bd S k (y + 1) = bd S k y := by rw [bd]; simp [allS, c3]
          by_cases c5 : nI 5 ≤ nI (pop y)
          · rw [if_pos (by exact c5)]
            exact ⟨_, rfl, g, by rw [e]⟩
          · rw [if_neg (by exact c5), if_neg (by rw [nI_eq (by omega) (by omega)]; exact c3)]
            exact ⟨_, rfl, g2, by rw [e]⟩
      · have e : bd S k (y + 1) = bd S k y := by rw [bd]; simp [c1]
        rw [if_pos (nI_le (by omega) (by omega)), Option.bind_some, if_pos rfl]
        exact ⟨_, rfl, g, by rw [e]⟩) (fun s hs => by
    obtain ⟨g, rfl⟩ := hs
    refine ⟨_, ?_, g, rfl⟩
    unfold pX10_dimension_L17
    rw [yall_eq hn, Option.bind_some]
    dsimp only
    rw [if_pos ((all_lt hn hp).mpr (Nat.le_refl _)), if_neg (show ¬ 2 ^ n = 0 by have := tI_pp n; omega)]) (2 ^ n) 0 ((-1), 0, f) (by omega) ⟨f, rfl⟩
  rw [h2] at h1
  exact ⟨g, h1⟩
theorem ydim0 {n : Nat} {S : Nat → Nat} {ls : Nat → Int32} (h : YN n 0 S ls) (f : Nat → Int32) : ∃ g, lp (pX10_dimension_L17 (nI n) (nI 0) ls) ((-1), 0, f) = some ((-1), g) := by
  have hn := h.2.1
  have hp := tI_p hn
  obtain ⟨r, h1, g, h2⟩ := lp_for (step := pX10_dimension_L17 (nI n) (nI 0) ls) (2 ^ n) (fun y s => ∃ g, s = ((-1), nI y, g)) (fun r => ∃ g, r = ((-1), g)) (fun y s hy hs => by
    left
    obtain ⟨g, rfl⟩ := hs
    have hpy := pop10 hn hy
    have hpow : 2 ^ pop y ≤ 1024 := tI_p hpy
    have h1p := tI_pp (pop y)
    obtain ⟨g2, hg2⟩ := ysee_eq h hy g
    unfold pX10_dimension_L17 pX10_dimension_J79_5 pX10_dimension_J45_7
    rw [yall_eq hn, Option.bind_some]
    dsimp only
    rw [if_neg (by rw [all_lt hn (by omega)]; omega), size_eq (by omega), Option.bind_some, tI_shl (by omega), hg2, Option.bind_some, nI_1, if_pos rfl, Option.bind_some, if_neg (by decide)]
    dsimp only
    by_cases c5 : nI 5 ≤ nI (pop y)
    · rw [if_pos (by exact c5)]
      exact ⟨_, rfl, g, rfl⟩
    · rw [if_neg (by exact c5), if_neg (by
        show ¬ nI (seenC S 0 y) = nI (2 ^ pop y)
        rw [show seenC S 0 y = 0 from rfl, nI_eq (by omega) (by omega)]; omega)]
      exact ⟨_, rfl, g2, rfl⟩) (fun s hs => by
    obtain ⟨g, rfl⟩ := hs
    refine ⟨_, ?_, g, rfl⟩
    unfold pX10_dimension_L17
    rw [yall_eq hn, Option.bind_some]
    dsimp only
    rw [if_pos ((all_lt hn hp).mpr (Nat.le_refl _))]) (2 ^ n) 0 ((-1), 0, f) (by omega) ⟨f, rfl⟩
  rw [h2] at h1
  exact ⟨g, h1⟩
