/-! a flag that stays till the first that has not p -/
theorem lp_flag {step : Int32 × Int32 → Option ((Int32 × Int32) ⊕ Int32)} (p : Nat → Bool) (k : Nat) (hs : ∀ i, i < k → step (1, nI i) = some (.inl (bI (p i), nI (i + 1)))) (h0 : ∀ i, i ≤ k → step (0, nI i) = some (.inr 0)) (hx : step (1, nI k) = some (.inr 1)) (b : Bool) : lp step (bI b, nI 0) = some (bI (b && allb p k)) := by
  cases b with
  | false => exact lp_x (h0 0 (Nat.zero_le k))
  | true =>
    rw [Bool.true_and]
    cases hf : fst (fun i => !p i) k with
    | none =>
      have h := fst_none.mp hf
      rw [allb_iff.mpr (fun i hi => by have := h i hi; simpa using this)]
      refine lp_det (step := step) (fun i => (1, nI i)) 1 k (fun i hi => ?_) hx
      have := h i hi
      rw [hs i hi, show p i = true by simpa using this]
      rfl
    | some j =>
      obtain ⟨h1, h2, h3⟩ := fst_some hf
      have e : allb p k = false := by
        cases hz : allb p k with
        | false => rfl
        | true => have := allb_iff.mp hz j h1; rw [this] at h2; cases h2
      rw [e]
      refine lp_det (step := step) (fun i => (bI (decide (i ≤ j)), nI i)) 0 (j + 1) (fun i hi => ?_) ?_
      · have hij : i ≤ j := by omega
        show step (bI (decide (i ≤ j)), nI i) = some (.inl (bI (decide (i + 1 ≤ j)), nI (i + 1)))
        rw [decide_eq_true hij, bI_t, hs i (by omega)]
        rcases Nat.lt_or_ge i j with q | q
        · have := h3 i q
          rw [show p i = true by simpa using this, decide_eq_true (show i + 1 ≤ j by omega)]
        · have e2 : i = j := by omega
          subst e2
          rw [show p i = false by simpa using h2, decide_eq_false (show ¬ i + 1 ≤ i by omega)]
      · show step (bI (decide (j + 1 ≤ j)), nI (j + 1)) = _
        rw [decide_eq_false (by omega), bI_f]
        exact h0 (j + 1) (by omega)
/-- the reference's list -/
def YN (n k : Nat) (S : Nat → Nat) (lst : Nat → Int32) : Prop := 1 ≤ n ∧ n ≤ 10 ∧ k ≤ 16 ∧ ∀ i, i < k → lst i = nI (S i) ∧ S i < 2 ^ n
theorem ne0_and {a x : Nat} : (nI a &&& nI x = 0) ↔ nI (a &&& x) = nI 0 := by rw [tI_and, tI_0]
theorem ymeets_eq {n k : Nat} {S : Nat → Nat} {ls : Nat → Int32} (h : YN n k S ls) {x : Nat} (hx : x < 2 ^ n) : pX10_meets (nI k) ls (nI x) = some (bI (mt S k x)) := by
  obtain ⟨h1, h2, h3, h4⟩ := h
  have hp := tI_p h2
  unfold pX10_meets
  have hl := lp_flag (step := pX10_meets_L4 (nI k) ls (nI x)) (fun i => S i &&& x != 0) k (fun i hi => by
    unfold pX10_meets_L4
    dsimp only
    rw [if_neg (nI_ge hi (by omega)), if_neg (by decide), gd_t (vp_in_nI (by omega) (by omega)), nI_clamp (by omega), (h4 i hi).1, nI_1]
    have hb : S i &&& x < 1024 := by have : S i &&& x ≤ x := Nat.and_le_right; omega
    by_cases hz : S i &&& x = 0
    · rw [if_pos (by rw [tI_and, hz]; rfl)]
      simp [hz, bI]
    · rw [if_neg (by rw [tI_and, tI_0, nI_eq (by omega) (by omega)]; exact hz)]
      simp [hz, bI]) (fun i hi => by
    unfold pX10_meets_L4
    dsimp only
    by_cases hz : nI k ≤ nI i
    · rw [if_pos hz]
    · rw [if_neg hz, if_pos rfl]) (by
    unfold pX10_meets_L4
    dsimp only
    rw [if_pos (nI_le (Nat.le_refl k) (by omega))]) true
  have hl : lp (pX10_meets_L4 (nI k) ls (nI x)) (1, 0) = some (bI (mt S k x)) := hl
  rw [hl, Option.bind_some, gd_t (bI_nar _)]
theorem yleast_eq {n k : Nat} {S : Nat → Nat} {ls : Nat → Int32} (h : YN n k S ls) {x : Nat} (hx : x < 2 ^ n) : pX10_isLeast (nI n) (nI k) ls (nI x) = some (bI (lst S k n x)) := by
  have h2 := h.2.1
  have hp := tI_p h2
  unfold pX10_isLeast
  rw [ymeets_eq h hx, Option.bind_some]
  have hl := lp_flag (step := pX10_isLeast_L8 (nI n) (nI k) ls (nI x)) (fun e => !(x.testBit e && mt S k (x ^^^ 2 ^ e))) n (fun i hi => by
    unfold pX10_isLeast_L8 pX10_isLeast_J40_3
    dsimp only
    rw [if_neg (nI_ge hi (by omega)), if_neg (by decide)]
    cases ht : x.testBit i with
    | false =>
      rw [if_pos ((tI_bit0 (by omega) (by omega)).mpr ht), nI_1]
      rfl
    | true =>
      rw [if_neg (fun q => by rw [tI_bit0 (by omega) (by omega), ht] at q; cases q), tI_shl (by omega), tI_xor, ymeets_eq h (xor_lt hx (tp_lt hi)), Option.bind_some, if_bI, nI_1]
      cases mt S k (x ^^^ 2 ^ i) <;> rfl) (fun i hi => by
    unfold pX10_isLeast_L8
    dsimp only
    by_cases hz : nI n ≤ nI i
    · rw [if_pos hz]
    · rw [if_neg hz, if_pos rfl]) (by
    unfold pX10_isLeast_L8
    dsimp only
    rw [if_pos (nI_le (Nat.le_refl n) (by omega))]) (mt S k x)
  have hl : lp (pX10_isLeast_L8 (nI n) (nI k) ls (nI x)) (bI (mt S k x), 0) = _ := hl
  rw [hl, Option.bind_some, gd_t (bI_nar _)]
  rfl
theorem yall_eq {n : Nat} (h : n ≤ 10) : pX10_all (nI n) = some (nI (2 ^ n - 1)) := by
  unfold pX10_all
  rw [tI_shl (by omega), tI_1, pk_sub (tI_pp n)]
theorem all_lt {n x : Nat} (hn : n ≤ 10) (hx : x ≤ 1024) : (nI (2 ^ n - 1) < nI x) ↔ 2 ^ n ≤ x := by
  have hp := tI_p hn
  have h1 := tI_pp n
  rw [nI_ltI (by omega) (by omega)]
  omega
theorem many_eq {n k : Nat} {S : Nat → Nat} {ls : Nat → Int32} (h : YN n k S ls) : pX10_many (nI n) (nI k) ls = some (nI (ct (lst S k n) (2 ^ n))) := by
  have hn := h.2.1
  have hp := tI_p hn
  unfold pX10_many
  have hl := lp_det (step := pX10_many_L4 (nI n) (nI k) ls) (fun i => (nI (ct (lst S k n) i), nI i)) (nI (ct (lst S k n) (2 ^ n))) (2 ^ n) (fun i hi => by
    unfold pX10_many_L4
    rw [yall_eq hn, Option.bind_some]
    dsimp only
    rw [if_neg (by rw [all_lt hn (by omega)]; omega), yleast_eq h hi, Option.bind_some, if_bI, nI_1, ct]
    cases lst S k n i <;> simp [tI_1, tI_0, nI_add]) (by
    unfold pX10_many_L4
    rw [yall_eq hn, Option.bind_some]
    dsimp only
    rw [if_pos ((all_lt hn hp).mpr (Nat.le_refl _))])
  have hl : lp (pX10_many_L4 (nI n) (nI k) ls) (0, 0) = _ := hl
  rw [hl]
  rfl
theorem cmany_eq {n k : Nat} {S : Nat → Nat} {ins : Nat → Int32} (h : RowN n k S ins) : pX9_meeters (nI n) (nI (2 ^ n)) ins = some (nI (ct (lst S k n) (2 ^ n))) := by
  have hn := h.1
  have hp := tI_p hn
  unfold pX9_meeters
  have hl := lp_det (step := pX9_meeters_L4 (nI n) (nI (2 ^ n)) ins) (fun i => (nI (ct (lst S k n) i), nI i)) (nI (ct (lst S k n) (2 ^ n))) (2 ^ n) (fun i hi => by
    unfold pX9_meeters_L4
    dsimp only
    rw [if_neg (nI_ge hi (by omega)), isLeast_eq h hi, Option.bind_some, if_bI, ct]
    cases lst S k n i <;> simp [nI_1]) (by
    unfold pX9_meeters_L4
    dsimp only
    rw [if_pos (nI_le (Nat.le_refl _) (by omega))])
  have hl : lp (pX9_meeters_L4 (nI n) (nI (2 ^ n)) ins) (0, 0) = _ := hl
  rw [hl]
  rfl
