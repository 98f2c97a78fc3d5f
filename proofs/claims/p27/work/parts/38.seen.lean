/-! bits of those that have q; what they have in common -/
def mk (q : Nat → Bool) : Nat → Nat
  | 0 => 0
  | i + 1 => mk q i ||| (if q i then 2 ^ i else 0)
def com (A : Nat) (S : Nat → Nat) (q : Nat → Bool) : Nat → Nat
  | 0 => A
  | i + 1 => if q i then com A S q i &&& S i else com A S q i
theorem mk_bit {q : Nat → Bool} : ∀ {k j : Nat}, (mk q k).testBit j = (decide (j < k) && q j)
  | 0, j => by simp [mk]
  | k + 1, j => by
    rw [mk, Nat.testBit_or, mk_bit (k := k)]
    cases hq : q k with
    | false =>
      simp
      by_cases h : j = k
      · subst h; simp [hq]
      · have : decide (j < k) = decide (j < k + 1) := by
          rw [decide_eq_decide]; omega
        rw [this]
    | true =>
      simp only [if_true, Nat.testBit_two_pow]
      by_cases h : j = k
      · subst h; simp [hq]
      · have : decide (j < k) = decide (j < k + 1) := by
          rw [decide_eq_decide]; omega
        rw [this]
        simp [show ¬ k = j from fun z => h z.symm]
theorem mk_lt {q : Nat → Bool} : ∀ {k : Nat}, mk q k < 2 ^ k
  | 0 => by simp [mk]
  | k + 1 => by
    have h1 := mk_lt (q := q) (k := k)
    rw [mk]
    refine or_lt (Nat.lt_of_lt_of_le h1 (Nat.pow_le_pow_right (by omega) (by omega))) ?_
    split
    · exact tp_lt (by omega)
    · exact Nat.two_pow_pos _
theorem mk_0 {q : Nat → Bool} {k : Nat} : mk q k = 0 ↔ exb q k = false := by
  constructor
  · intro h
    cases he : exb q k with
    | false => rfl
    | true =>
      obtain ⟨i, hi, hq⟩ := exb_iff.mp he
      have := mk_bit (q := q) (k := k) (j := i)
      rw [h] at this
      simp [hi, hq] at this
  · intro h
    apply Nat.eq_of_testBit_eq
    intro j
    rw [mk_bit, Nat.zero_testBit]
    by_cases hj : j < k
    · cases hq : q j with
      | false => simp
      | true =>
        rw [exb_iff.mpr ⟨j, hj, hq⟩] at h
        cases h
    · simp [hj]
theorem com_le {A : Nat} {S : Nat → Nat} {q : Nat → Bool} : ∀ {k : Nat}, com A S q k ≤ A
  | 0 => Nat.le_refl _
  | k + 1 => by
    rw [com]
    have := com_le (A := A) (S := S) (q := q) (k := k)
    split
    · exact Nat.le_trans Nat.and_le_left this
    · exact this
theorem com_cong {A : Nat} {S : Nat → Nat} {q r : Nat → Bool} : ∀ {k : Nat}, (∀ i, i < k → q i = r i) → com A S q k = com A S r k
  | 0, _ => rfl
  | k + 1, h => by rw [com, com, com_cong (fun i hi => h i (by omega)), h k (by omega)]
theorem ycommon_eq {n k m : Nat} {S : Nat → Nat} {ls : Nat → Int32} (h : YN n k S ls) (hm : m < 65536) : pX10_common (nI n) (nI k) ls (nI m) = some (nI (com (2 ^ n - 1) S (fun i => m.testBit i) k)) := by
  obtain ⟨h1, h2, h3, h4⟩ := h
  have hp := tI_p h2
  unfold pX10_common
  rw [yall_eq h2, Option.bind_some]
  have hl : lp (pX10_common_L7 (nI k) ls (nI m)) (nI (2 ^ n - 1), 0) = some (nI (com (2 ^ n - 1) S (fun i => m.testBit i) k)) := by
    refine lp_det (step := pX10_common_L7 (nI k) ls (nI m)) (fun i => (nI (com (2 ^ n - 1) S (fun i => m.testBit i) i), nI i)) _ k (fun i hi => ?_) ?_
    · unfold pX10_common_L7
      dsimp only
      rw [if_neg (nI_ge hi (by omega)), gd_t (vp_in_nI (by omega) (by omega)), nI_clamp (by omega), (h4 i hi).1, nI_1, com]
      cases hb : m.testBit i with
      | true =>
        rw [if_pos ((tI_bit1 (by omega) (by omega)).mpr hb), Option.bind_some, tI_and]
        simp
      | false =>
        rw [if_neg (fun q => by rw [tI_bit1 (by omega) (by omega), hb] at q; cases q), Option.bind_some, tI_and, Nat.and_self]
        simp
    · unfold pX10_common_L7
      dsimp only
      rw [if_pos (nI_le (Nat.le_refl k) (by omega))]
  rw [hl]
  rfl
/-- three elements: the sets with two of them -/
def two (S : Nat → Nat) (x i : Nat) : Bool := decide (2 ≤ pop (S i &&& x))
theorem cnone_eq {n k x : Nat} {S : Nat → Nat} {rows : Nat → Int32} (hn : n ≤ 10) (hk : k ≤ 16) (hR : ∀ i, i < k → rows i = nI (S i) ∧ S i < 2 ^ n) (hx : x < 2 ^ n) : pX9_nothingInCommon 16 (nI k) (nI (2 ^ n)) rows (nI x) = some (bI (exb (two S x) k && (com (2 ^ n - 1) S (two S x) k == 0))) := by
  have hp := tI_p hn
  unfold pX9_nothingInCommon
  rw [tI_1, pk_sub (tI_pp n)]
  have hl : lp (pX9_nothingInCommon_L15 16 (nI k) rows (nI x)) (0, nI (2 ^ n - 1), 0) = some (bI (exb (two S x) k), nI (com (2 ^ n - 1) S (two S x) k)) := by
    refine lp_det (step := pX9_nothingInCommon_L15 16 (nI k) rows (nI x)) (fun i => (bI (exb (two S x) i), nI (com (2 ^ n - 1) S (two S x) i), nI i)) _ k (fun i hi => ?_) ?_
    · unfold pX9_nothingInCommon_L15
      dsimp only
      have hb : S i &&& x ≤ x := Nat.and_le_right
      have hpp := pop_le (S i &&& x)
      rw [if_neg (nI_ge hi (by omega)), gd_t (vp_in_nI (by omega) (by omega)), gd_t (vp_in_nI (by omega) (by omega)), nI_clamp (by omega), (hR i hi).1, tI_and, tI_and, bc_eq (by omega), Option.bind_some, nI_1, com, exb]
      by_cases h2 : 2 ≤ pop (S i &&& x)
      · rw [if_neg (by show ¬ _ < nI 2; exact nI_nlt h2 (by omega))]
        have : two S x i = true := by simp [two, h2]
        rw [this]
        simp [bI]
      · rw [if_pos (by show _ < nI 2; exact nI_lt (by omega) (by omega))]
        have : two S x i = false := by simp [two]; omega
        rw [this]
        simp
    · unfold pX9_nothingInCommon_L15
      dsimp only
      rw [if_pos (nI_le (Nat.le_refl k) (by omega))]
  rw [← tI_1] at *
  rw [hl, Option.bind_some]
  have hcl := com_le (A := 2 ^ n - 1) (S := S) (q := two S x) (k := k)
  dsimp only
  rw [if_bI]
  cases exb (two S x) k with
  | false => rfl
  | true =>
    by_cases hz : com (2 ^ n - 1) S (two S x) k = 0
    · rw [if_pos rfl, if_pos (by rw [hz]; rfl)]; simp [hz, bI]
    · rw [if_pos rfl, if_neg (by rw [tI_0, nI_eq (by omega) (by omega)]; exact hz)]; simp [hz, bI]
theorem ytwo_eq {n k x : Nat} {S : Nat → Nat} {ls : Nat → Int32} (h : YN n k S ls) (hx : x < 2 ^ n) : lp (pX10_twoByTwo_L22_4 (nI k) ls (nI x)) (0, 0) = some (nI (mk (two S x) k)) := by
  obtain ⟨h1, h2, h3, h4⟩ := h
  have hp := tI_p h2
  refine lp_det (step := pX10_twoByTwo_L22_4 (nI k) ls (nI x)) (fun i => (nI (mk (two S x) i), nI i)) _ k (fun i hi => ?_) ?_
  · unfold pX10_twoByTwo_L22_4
    dsimp only
    have hb : S i &&& x ≤ x := Nat.and_le_right
    have hpp := pop_le (S i &&& x)
    rw [if_neg (nI_ge hi (by omega)), gd_t (vp_in_nI (by omega) (by omega)), nI_clamp (by omega), (h4 i hi).1, tI_and, size_eq (by omega), Option.bind_some, nI_1, mk, tI_shl (by omega)]
    by_cases hh : 2 ≤ pop (S i &&& x)
    · rw [if_neg (by show ¬ _ ≤ nI 1; exact nI_ge (by omega) (by omega)), Option.bind_some, tI_or]
      have : two S x i = true := by simp [two, hh]
      rw [this]
      simp
    · rw [if_pos (by show _ ≤ nI 1; exact nI_le (by omega) (by omega)), Option.bind_some, tI_0, tI_or]
      have : two S x i = false := by simp [two]; omega
      rw [this]
      simp
  · unfold pX10_twoByTwo_L22_4
    dsimp only
    rw [if_pos (nI_le (Nat.le_refl k) (by omega))]
/-! what a part sees -/
def nwS (S : Nat → Nat) (y i : Nat) : Bool := !exb (fun j => S j &&& y == S i &&& y) i
def seenC (S : Nat → Nat) (k y : Nat) : Nat := ct (nwS S y) k
def mkM (S : Nat → Nat) (y : Nat) (v : Int32) (f : Nat → Int32) (i : Nat) : Nat → Int32 := fun c => if exb (fun j => S j &&& y == c) i then v else f c
theorem mkM_up {S : Nat → Nat} {y i : Nat} {v : Int32} {f : Nat → Int32} : upd (mkM S y v f i) (S i &&& y) v = mkM S y v f (i + 1) := by
  funext c
  unfold upd mkM
  rw [exb]
  by_cases h : c = S i &&& y
  · subst h; simp
  · have : (S i &&& y == c) = false := by
      cases hh : (S i &&& y == c) with
      | false => rfl
      | true => exact absurd (by simpa using hh : S i &&& y = c).symm h
    rw [this, Bool.or_false]
    simp [h]
theorem csee_eq {n k y M : Nat} {S : Nat → Nat} {rows marks : Nat → Int32} (hn : n ≤ 10) (hk : k ≤ 16) (hM : M < 2 ^ 30) (hR : ∀ i, i < k → rows i = nI (S i) ∧ S i < 2 ^ n) (hy : y < 2 ^ n) (hm : ∀ j, j < 1024 → ∃ v, v ≤ M ∧ marks j = nI v) : pX8_manySeenOf 16 (nI k) rows (nI M) marks (nI y) = some (nI (seenC S k y), nI (M + 1), mkM S y (nI (M + 1)) marks k) := by
  have hp := tI_p hn
  unfold pX8_manySeenOf
  rw [nI_1]
  have hl : lp (pX8_manySeenOf_L14 16 (nI k) rows (nI M) (nI y)) (0, 0, marks) = some (nI (seenC S k y), mkM S y (nI (M + 1)) marks k) := by
    refine lp_det (step := pX8_manySeenOf_L14 16 (nI k) rows (nI M) (nI y)) (fun i => (nI (ct (nwS S y) i), nI i, mkM S y (nI (M + 1)) marks i)) _ k (fun i hi => ?_) ?_
    · unfold pX8_manySeenOf_L14
      dsimp only
      have hb : S i &&& y ≤ y := Nat.and_le_right
      obtain ⟨v, hv, ev⟩ := hm (S i &&& y) (by omega)
      rw [if_neg (nI_ge hi (by omega)), gd_t (vp_in_nI (by omega) (by omega)), nI_clamp (by omega), (hR i hi).1, tI_and, gd_t (vp_in_nI (by omega) (by omega)), gd_t (vp_in_nI (by omega) (by omega)), nI_clamp (by omega), nI_1, nI_1, nI_1, mkM_up, ct]
      cases he : exb (fun j => S j &&& y == S i &&& y) i with
      | true =>
        rw [if_pos (by unfold mkM; rw [he]; rfl)]
        have hn : nwS S y i = false := by unfold nwS; rw [he]; rfl
        rw [hn]
        have e2 : mkM S y (nI (M + 1)) marks i = mkM S y (nI (M + 1)) marks (i + 1) := by
          rw [← mkM_up]
          funext c
          unfold upd
          by_cases h : c = S i &&& y
          · subst h; simp [mkM, he]
          · simp [h]
        simp [e2]
      | false =>
        rw [if_neg (by
          unfold mkM
          rw [he]
          show ¬ marks (S i &&& y) = nI (M + 1)
          rw [ev, nI_eq (by omega) (by omega)]
          omega)]
        have hn : nwS S y i = true := by unfold nwS; rw [he]; rfl
        rw [hn]
        simp
    · unfold pX8_manySeenOf_L14
      dsimp only
      rw [if_pos (nI_le (Nat.le_refl k) (by omega))]
      rfl
  rw [hl, Option.bind_some]
theorem mkM_b {S : Nat → Nat} {y M k : Nat} {f : Nat → Int32} (hm : ∀ j, j < 1024 → ∃ v, v ≤ M ∧ f j = nI v) : ∀ j, j < 1024 → ∃ v, v ≤ M + 1 ∧ mkM S y (nI (M + 1)) f k j = nI v := by
  intro j hj
  unfold mkM
  split
  · exact ⟨M + 1, by omega, rfl⟩
  · obtain ⟨v, h1, h2⟩ := hm j hj
    exact ⟨v, by omega, h2⟩
theorem ysee_eq {n k y : Nat} {S : Nat → Nat} {ls : Nat → Int32} (h : YN n k S ls) (hy : y < 2 ^ n) (f : Nat → Int32) : ∃ g, pX10_seenOf (nI k) ls f (nI y) = some (nI (seenC S k y), g) := by
  obtain ⟨h1, h2, h3, h4⟩ := h
  have hp := tI_p h2
  unfold pX10_seenOf
  have e0 : vp_nar .boolean 0 = 0 := rfl
  have e1 : vp_nar .boolean 1 = 1 := rfl
  have hc : lp pX10_seenOf_L2 (0, f) = some (fun j => if j < 1024 then 0 else f j) := by
    have h := lp_det (step := pX10_seenOf_L2) (fun i => (nI i, fun j => if j < i then 0 else f j)) (fun j => if j < 1024 then 0 else f j) 1024 (fun i hi => by
      unfold pX10_seenOf_L2
      dsimp only
      rw [if_neg (by show ¬ nI 1024 ≤ nI i; exact nI_ge hi (by omega)), gd_t (vp_in_nI hi (by omega)), nI_clamp (by omega), nI_1, e0]
      congr 3
      funext j
      unfold upd
      by_cases h1 : j = i
      · subst h1; simp
      · by_cases h2 : j < i
        · simp [h1, h2, Nat.lt_succ_of_lt h2]
        · simp [h1, h2, show ¬ j < i + 1 by omega]) (by
      unfold pX10_seenOf_L2
      dsimp only
      rw [if_pos (by decide)])
    have e : ((nI 0, fun j => if j < 0 then 0 else f j) : Int32 × (Nat → Int32)) = (0, f) := by
      congr 1
    exact e ▸ h
  rw [hc, Option.bind_some]
  have hl : lp (pX10_seenOf_L26 (nI k) ls (nI y)) (0, 0, fun j => if j < 1024 then 0 else f j) = some (nI (seenC S k y), mkM S y 1 (fun j => if j < 1024 then 0 else f j) k) := by
    refine lp_det (step := pX10_seenOf_L26 (nI k) ls (nI y)) (fun i => (nI (ct (nwS S y) i), nI i, mkM S y 1 (fun j => if j < 1024 then 0 else f j) i)) _ k (fun i hi => ?_) ?_
    · unfold pX10_seenOf_L26
      dsimp only
      have hb : S i &&& y ≤ y := Nat.and_le_right
      rw [if_neg (nI_ge hi (by omega)), gd_t (vp_in_nI (by omega) (by omega)), nI_clamp (by omega), (h4 i hi).1, tI_and, gd_t (vp_in_nI (by omega) (by omega)), nI_clamp (by omega), nI_1, e1, mkM_up, ct]
      cases he : exb (fun j => S j &&& y == S i &&& y) i with
      | true =>
        have hn : nwS S y i = false := by unfold nwS; rw [he]; rfl
        rw [if_neg (by unfold mkM; rw [he, if_pos rfl]; decide), Option.bind_some, gd_t (vp_in_nI (by omega) (by omega)), gd_t (vp_in_nI (by omega) (by omega)), hn, tI_0, nI_add]
        simp
      | false =>
        have hn : nwS S y i = true := by unfold nwS; rw [he]; rfl
        rw [if_pos (by unfold mkM; rw [he]; simp; omega), Option.bind_some, gd_t (vp_in_nI (by omega) (by omega)), gd_t (vp_in_nI (by omega) (by omega)), hn, tI_1, nI_add]
        simp
    · unfold pX10_seenOf_L26
      dsimp only
      rw [if_pos (nI_le (Nat.le_refl k) (by omega))]
      rfl
  rw [hl]
  exact ⟨_, rfl⟩
